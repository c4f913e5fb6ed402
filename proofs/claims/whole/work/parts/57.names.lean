/-! NAMES as lists of digits 1 to 26 (pure). fa_or, fb_orL, wb_..: families of kit/laws -/
def val (b : Nat) : Nat → List Nat → Nat
  | 0, _ => 0
  | _ + 1, [] => 0
  | n + 1, d :: l => d * b ^ n + val b n l
/-- digits of a NAME -/
def nam (l : List Nat) : Prop := ∀ d ∈ l, 1 ≤ d ∧ d ≤ 26
theorem nam_cons {d : Nat} {l : List Nat} (h : nam (d :: l)) : (1 ≤ d ∧ d ≤ 26) ∧ nam l := ⟨h d (by simp), fun x hx => h x (by simp [hx])⟩
theorem nam_snoc {d : Nat} {l : List Nat} (h : nam l) (hd : 1 ≤ d ∧ d ≤ 26) : nam (l ++ [d]) := by
  intro x hx
  rw [List.mem_append] at hx
  rcases hx with q | q
  · exact h x q
  · rw [List.mem_singleton] at q; subst q; exact hd
def up96 (l : List Nat) : List Nat := l.map (fun d => 96 + d)
def dig (b : Nat) (l : List Nat) : Prop := ∀ d ∈ l, 1 ≤ d ∧ d < b
theorem nam_dig {l : List Nat} (h : nam l) : dig 32 l := fun d hd => ⟨(h d hd).1, by have := (h d hd).2; omega⟩
theorem nam_up {l : List Nat} (h : nam l) : dig 256 (up96 l) := by
  intro d hd
  unfold up96 at hd
  rw [List.mem_map] at hd
  obtain ⟨x, hx, rfl⟩ := hd
  have := h x hx
  omega
theorem dig_cons {b d : Nat} {l : List Nat} (h : dig b (d :: l)) : (1 ≤ d ∧ d < b) ∧ dig b l := ⟨h d (by simp), fun x hx => h x (by simp [hx])⟩
theorem val_nil (b n : Nat) : val b n [] = 0 := by cases n <;> rfl
theorem val_lt {b : Nat} (hb : 0 < b) : ∀ (n : Nat) (l : List Nat), dig b l → val b n l < b ^ n := by
  intro n
  induction n with
  | zero => intro l _; show 0 < b ^ 0; simp
  | succ n ih =>
    intro l hl
    cases l with
    | nil => show 0 < b ^ (n + 1); exact Nat.pow_pos hb
    | cons d l =>
      obtain ⟨h1, h2⟩ := dig_cons hl
      have h3 := ih l h2
      show d * b ^ n + val b n l < b ^ (n + 1)
      have h4 : d * b ^ n + b ^ n ≤ b ^ (n + 1) := by
        rw [Nat.pow_succ, Nat.mul_comm (b ^ n) b]
        have : (d + 1) * b ^ n ≤ b * b ^ n := Nat.mul_le_mul_right _ (by omega)
        rw [Nat.add_mul, Nat.one_mul] at this
        exact this
      omega
theorem val_snoc (b : Nat) : ∀ (n : Nat) (l : List Nat) (d : Nat), l.length < n → val b n (l ++ [d]) = val b n l + d * b ^ (n - 1 - l.length) := by
  intro n
  induction n with
  | zero => intro l d h; omega
  | succ n ih =>
    intro l d h
    cases l with
    | nil =>
      show d * b ^ n + val b n [] = val b (n + 1) [] + d * b ^ (n + 1 - 1 - 0)
      rw [val_nil, val_nil, show n + 1 - 1 - 0 = n by omega]
      omega
    | cons e l =>
      have h' : l.length < n := by simp at h; omega
      show e * b ^ n + val b n (l ++ [d]) = e * b ^ n + val b n l + d * b ^ (n + 1 - 1 - (l.length + 1))
      rw [ih l d h', show n + 1 - 1 - (l.length + 1) = n - 1 - l.length by omega]
      omega
theorem val_horner (b : Nat) : ∀ (l : List Nat) (d : Nat), val b (l.length + 1) (l ++ [d]) = b * val b l.length l + d := by
  intro l
  induction l with
  | nil => intro d; show d * b ^ 0 + val b 0 [] = b * 0 + d; rw [val_nil]; simp
  | cons e l ih =>
    intro d
    show e * b ^ (l.length + 1) + val b (l.length + 1) (l ++ [d]) = b * (e * b ^ l.length + val b l.length l) + d
    rw [ih d, Nat.pow_succ, Nat.mul_add, ← Nat.mul_assoc, ← Nat.mul_assoc, Nat.mul_comm (e * b ^ l.length) b, ← Nat.mul_assoc]
    omega
/-- the order of the alphabet -/
def dlt : List Nat → List Nat → Prop
  | [], [] => False
  | [], _ :: _ => True
  | _ :: _, [] => False
  | a :: l, b :: k => a < b ∨ (a = b ∧ dlt l k)
theorem val_split {b n d e x z : Nat} (hx : x < b ^ n) (h : d < e) : d * b ^ n + x < e * b ^ n + z := by
  have : (d + 1) * b ^ n ≤ e * b ^ n := Nat.mul_le_mul_right _ h
  rw [Nat.add_mul, Nat.one_mul] at this
  omega
theorem val_ltI {b : Nat} (hb : 0 < b) : ∀ (n : Nat) (l k : List Nat), dig b l → dig b k → l.length ≤ n → k.length ≤ n → (val b n l < val b n k ↔ dlt l k) := by
  intro n
  induction n with
  | zero =>
    intro l k _ _ h1 h2
    cases l with
    | cons d l => simp at h1
    | nil =>
      cases k with
      | cons d k => simp at h2
      | nil => exact ⟨fun q => absurd q (Nat.lt_irrefl _), fun q => q.elim⟩
  | succ n ih =>
    intro l k hl hk h1 h2
    cases l with
    | nil =>
      cases k with
      | nil => exact ⟨fun q => absurd q (Nat.lt_irrefl _), fun q => q.elim⟩
      | cons e k =>
        refine ⟨fun _ => trivial, fun _ => ?_⟩
        show 0 < e * b ^ n + val b n k
        have := (dig_cons hk).1.1
        have : 0 < e * b ^ n := Nat.mul_pos (by omega) (Nat.pow_pos hb)
        omega
    | cons d l =>
      cases k with
      | nil => exact ⟨fun q => absurd q (Nat.not_lt_zero _), fun q => q.elim⟩
      | cons e k =>
        obtain ⟨a1, a2⟩ := dig_cons hl
        obtain ⟨b1, b2⟩ := dig_cons hk
        have i1 := ih l k a2 b2 (by simp at h1; omega) (by simp at h2; omega)
        have v1 := val_lt hb n l a2
        have v2 := val_lt hb n k b2
        show d * b ^ n + val b n l < e * b ^ n + val b n k ↔ (d < e ∨ (d = e ∧ dlt l k))
        rcases Nat.lt_trichotomy d e with q | q | q
        · exact ⟨fun _ => Or.inl q, fun _ => val_split v1 q⟩
        · subst q
          rw [← i1]
          omega
        · have := @val_split b n e d (val b n k) (val b n l) v2 q
          omega
theorem dlt_irr : ∀ l, ¬ dlt l l := by
  intro l
  induction l with
  | nil => exact fun q => q
  | cons d l ih => exact fun q => q.elim (fun h => Nat.lt_irrefl _ h) (fun h => ih h.2)
theorem dlt_tri : ∀ l k, dlt l k ∨ l = k ∨ dlt k l := by
  intro l
  induction l with
  | nil => intro k; cases k with
    | nil => exact Or.inr (Or.inl rfl)
    | cons e k => exact Or.inl trivial
  | cons d l ih =>
    intro k
    cases k with
    | nil => exact Or.inr (Or.inr trivial)
    | cons e k =>
      rcases Nat.lt_trichotomy d e with q | q | q
      · exact Or.inl (Or.inl q)
      · subst q
        rcases ih k with h | h | h
        · exact Or.inl (Or.inr ⟨rfl, h⟩)
        · subst h; exact Or.inr (Or.inl rfl)
        · exact Or.inr (Or.inr (Or.inr ⟨rfl, h⟩))
      · exact Or.inr (Or.inr (Or.inl q))
theorem val_inj {b : Nat} (hb : 0 < b) {n : Nat} {l k : List Nat} (hl : dig b l) (hk : dig b k) (h1 : l.length ≤ n) (h2 : k.length ≤ n) : val b n l = val b n k ↔ l = k := by
  refine ⟨fun h => ?_, fun h => by rw [h]⟩
  rcases dlt_tri l k with q | q | q
  · have := (val_ltI hb n l k hl hk h1 h2).mpr q; omega
  · exact q
  · have := (val_ltI hb n k l hk hl h2 h1).mpr q; omega
theorem up96_len (l : List Nat) : (up96 l).length = l.length := by unfold up96; simp
theorem up96_snoc (l : List Nat) (d : Nat) : up96 (l ++ [d]) = up96 l ++ [96 + d] := by unfold up96; simp
theorem up96_inj : ∀ l k : List Nat, up96 l = up96 k → l = k := by
  intro l
  induction l with
  | nil => intro k h; cases k with
    | nil => rfl
    | cons e k => cases h
  | cons d l ih =>
    intro k h
    cases k with
    | nil => cases h
    | cons e k =>
      have h1 : 96 + d = 96 + e := (List.cons.inj h).1
      have h2 : up96 l = up96 k := (List.cons.inj h).2
      rw [ih k h2, show d = e by omega]
theorem dlt_up : ∀ l k : List Nat, dlt (up96 l) (up96 k) ↔ dlt l k := by
  intro l
  induction l with
  | nil => intro k; cases k with
    | nil => exact Iff.rfl
    | cons e k => exact Iff.rfl
  | cons d l ih =>
    intro k
    cases k with
    | nil => exact Iff.rfl
    | cons e k =>
      show (96 + d < 96 + e ∨ (96 + d = 96 + e ∧ dlt (up96 l) (up96 k))) ↔ (d < e ∨ (d = e ∧ dlt l k))
      rw [ih k]
      refine ⟨fun q => ?_, fun q => ?_⟩
      · rcases q with q | ⟨q1, q2⟩
        · exact Or.inl (by omega)
        · exact Or.inr ⟨by omega, q2⟩
      · rcases q with q | ⟨q1, q2⟩
        · exact Or.inl (by omega)
        · exact Or.inr ⟨by omega, q2⟩
/-- the class's number of a NAME, the reference's -/
def cN (l : List Nat) : Nat := val 32 6 l
def rN (l : List Nat) : Nat := val 256 l.length (up96 l)
/-- a NAME -/
def isN (l : List Nat) : Prop := nam l ∧ 1 ≤ l.length ∧ l.length ≤ 6
theorem cN_lt {l : List Nat} (h : nam l) : cN l < 2 ^ 30 := val_lt (b := 32) (by omega) 6 l (nam_dig h)
theorem rN_lt {l : List Nat} (h : nam l) (h6 : l.length ≤ 6) : rN l < 2 ^ 48 := by
  have h1 := val_lt (b := 256) (by omega) l.length (up96 l) (nam_up h)
  have h2 : 256 ^ l.length ≤ 256 ^ 6 := Nat.pow_le_pow_right (by omega) h6
  have h3 : (256 : Nat) ^ 6 = 2 ^ 48 := by decide
  unfold rN
  omega
theorem cN_inj {l k : List Nat} (hl : nam l) (hk : nam k) (h1 : l.length ≤ 6) (h2 : k.length ≤ 6) : nI (cN l) = nI (cN k) ↔ l = k := by
  have a := cN_lt hl
  have b := cN_lt hk
  rw [nI_eq (by omega) (by omega)]
  exact val_inj (by omega) (nam_dig hl) (nam_dig hk) h1 h2
/-- numbers of another length differ, for no digit is 0 -/
theorem val_big {b : Nat} (hb : 0 < b) : ∀ (l : List Nat), dig b l → 0 < l.length → b ^ (l.length - 1) ≤ val b l.length l := by
  intro l hl h0
  cases l with
  | nil => simp at h0
  | cons d l =>
    have h1 := (dig_cons hl).1.1
    show b ^ (l.length + 1 - 1) ≤ d * b ^ l.length + val b l.length l
    rw [show l.length + 1 - 1 = l.length by omega]
    have : 1 * b ^ l.length ≤ d * b ^ l.length := Nat.mul_le_mul_right _ h1
    omega
theorem rN_inj' {l k : List Nat} (hl : nam l) (hk : nam k) (h : rN l = rN k) : l = k := by
  have key : ∀ {l k : List Nat}, nam l → nam k → l.length < k.length → rN l < rN k := by
    intro l k hl hk hlt
    have h1 := val_lt (b := 256) (by omega) l.length (up96 l) (nam_up hl)
    have h2 := val_big (b := 256) (by omega) (up96 k) (nam_up hk) (by rw [up96_len]; omega)
    rw [up96_len] at h2
    have h3 : 256 ^ l.length ≤ 256 ^ (k.length - 1) := Nat.pow_le_pow_right (by omega) (by omega)
    unfold rN
    omega
  have e : l.length = k.length := by
    rcases Nat.lt_trichotomy l.length k.length with q | q | q
    · have := key hl hk q; omega
    · exact q
    · have := key hk hl q; omega
  unfold rN at h
  rw [e] at h
  exact up96_inj l k ((val_inj (by omega) (nam_up hl) (nam_up hk) (by rw [up96_len]; omega) (by rw [up96_len]; omega)).mp h)
theorem rN_inj {l k : List Nat} (hl : nam l) (hk : nam k) (h1 : l.length ≤ 6) (h2 : k.length ≤ 6) : lN (rN l) = lN (rN k) ↔ l = k := by
  have a := rN_lt hl h1
  have b := rN_lt hk h2
  rw [pk_lEQ (by omega) (by omega)]
  exact ⟨rN_inj' hl hk, fun q => by rw [q]⟩
theorem fa_or (a b : Nat) : nI a ||| nI b = nI (a ||| b) := by
  apply Int32.toBitVec_inj.1
  show BitVec.ofNat 32 a ||| BitVec.ofNat 32 b = BitVec.ofNat 32 (a ||| b)
  apply BitVec.eq_of_getLsbD_eq
  intro i hi
  simp [hi]
theorem fa_or_sum {a k : Nat} (b : Nat) (h : a < 2 ^ k) : nI (2 ^ k * b) ||| nI a = nI (2 ^ k * b + a) := by rw [fa_or, Nat.two_pow_add_eq_or_of_lt h]
theorem fb_orL (a b : Nat) : lN a ||| lN b = lN (a ||| b) := by
  apply Int64.toBitVec_inj.1
  show BitVec.ofNat 64 a ||| BitVec.ofNat 64 b = BitVec.ofNat 64 (a ||| b)
  apply BitVec.eq_of_getLsbD_eq
  intro i hi
  simp [hi]
theorem fb_or_sumL {a k : Nat} (b : Nat) (h : a < 2 ^ k) : lN (2 ^ k * b) ||| lN a = lN (2 ^ k * b + a) := by rw [fb_orL, Nat.two_pow_add_eq_or_of_lt h]
theorem wb_tb (n : Nat) : (lN n).toBitVec = BitVec.ofNat 64 n := rfl
theorem wb_inj {a b : Int64} (h : a.toBitVec = b.toBitVec) : a = b := Int64.toBitVec_inj.mp h
theorem wb_c : ∀ k, k < 64 → ((nI k).toInt64 &&& 63) = lN k := by decide +kernel
theorem wb_sm : ∀ k, k < 64 → (BitVec.ofNat 64 k).smod 64 = BitVec.ofNat 64 k := by decide +kernel
theorem wb_shl (n : Nat) {k : Nat} (hk : k < 64) : lN n <<< ((nI k).toInt64 &&& 63) = lN (n * 2 ^ k) := by
  rw [wb_c k hk]
  apply wb_inj
  rw [Int64.toBitVec_shiftLeft, wb_tb, wb_tb, wb_tb, wb_sm k hk]
  apply BitVec.eq_of_toNat_eq
  rw [BitVec.shiftLeft_eq', BitVec.toNat_shiftLeft, BitVec.toNat_ofNat, BitVec.toNat_ofNat, BitVec.toNat_ofNat, Nat.mod_eq_of_lt (show k < 2 ^ 64 by omega), Nat.shiftLeft_eq, Nat.mul_mod, Nat.mod_mod, ← Nat.mul_mod]
/-- the first k of the digits are 0 behind place 5 * (6 - k) -/
theorem val_div (b : Nat) : ∀ (n : Nat) (l : List Nat), l.length ≤ n → ∃ m, val b n l = b ^ (n - l.length) * m := by
  intro n
  induction n with
  | zero => intro l h; exact ⟨0, by rw [Nat.mul_zero]; rfl⟩
  | succ n ih =>
    intro l h
    cases l with
    | nil => exact ⟨0, by rw [Nat.mul_zero]; rfl⟩
    | cons d l =>
      have h' : l.length ≤ n := by simp at h; omega
      obtain ⟨m, hm⟩ := ih l h'
      refine ⟨d * b ^ l.length + m, ?_⟩
      show d * b ^ n + val b n l = b ^ (n + 1 - (l.length + 1)) * (d * b ^ l.length + m)
      rw [hm, show n + 1 - (l.length + 1) = n - l.length by omega, Nat.mul_add]
      have : b ^ n = b ^ (n - l.length) * b ^ l.length := by rw [← Nat.pow_add, show n - l.length + l.length = n by omega]
      rw [this, Nat.mul_comm d, Nat.mul_assoc, Nat.mul_comm (b ^ l.length) d]
theorem sh5 : ∀ n, n < 6 → ((5 * (5 - nI n) : Int32) &&& 31) = nI (5 * (5 - n)) := by decide +kernel
theorem sh5b : ∀ n, n < 6 → ((nI (5 * (5 - n)) : Int32).toBitVec.smod 32).toNat = 5 * (5 - n) := by decide +kernel
theorem cwith {l : List Nat} {d : Nat} (hl : nam l) (hd : 1 ≤ d ∧ d ≤ 26) (h6 : l.length < 6) : mX11_withLetter (nI (cN l)) (nI l.length) (nI (96 + d)) = some (nI (cN (l ++ [d]))) := by
  unfold mX11_withLetter mX11_shiftOf
  rw [if_neg (nI_pos (by omega)), if_pos (show nI l.length < 6 from nI_lt (b := 6) h6 (by omega))]
  show some (nI (cN l) ||| (((nI (96 + d) - 97) + 1) <<< ((5 * (5 - nI l.length)) &&& 31))) = _
  have e1 : (nI (96 + d) - 97 + 1 : Int32) = nI d := by
    obtain ⟨e, rfl⟩ : ∃ e, d = e + 1 := ⟨d - 1, by omega⟩
    have : nI (96 + (e + 1)) - (97 : Int32) = nI e := by
      have := pk_sub (a := 96 + (e + 1)) (b := 97) (by omega)
      rw [show 96 + (e + 1) - 97 = e by omega] at this
      exact this
    rw [this, nI_1]
  have hp : 2 ^ (5 * (5 - l.length)) ≤ 2 ^ 25 := Nat.pow_le_pow_right (by omega) (by omega)
  have hdp : d * 2 ^ (5 * (5 - l.length)) ≤ 26 * 2 ^ 25 := Nat.mul_le_mul (by omega) hp
  rw [e1, sh5 _ h6, pk_shlN _ _ (sh5b _ h6) (by omega)]
  obtain ⟨m, hm⟩ := val_div 32 6 l (by omega)
  have h32 : ∀ k, (32 : Nat) ^ k = 2 ^ (5 * k) := fun k => by rw [show (32 : Nat) = 2 ^ 5 from rfl, ← Nat.pow_mul]
  have e2 : cN (l ++ [d]) = cN l + d * 2 ^ (5 * (5 - l.length)) := by
    unfold cN
    rw [val_snoc 32 6 l d (by omega), h32, show 6 - 1 - l.length = 5 - l.length by omega]
  rw [e2]
  unfold cN
  rw [hm, h32, fa_or_sum m (by
    have : 5 * (6 - l.length) = 5 * (5 - l.length) + 5 := by omega
    rw [this, Nat.pow_add]
    have : d * 2 ^ (5 * (5 - l.length)) < 32 * 2 ^ (5 * (5 - l.length)) := Nat.mul_lt_mul_of_pos_right (by omega) (Nat.pow_pos (by omega))
    omega)]
theorem cwith6 (x y : Int32) {n : Nat} (h6 : 6 ≤ n) (hn : n < 2 ^ 31) : mX11_withLetter x (nI n) y = some x := by
  unfold mX11_withLetter
  rw [if_neg (nI_pos hn), if_neg (show ¬ nI n < 6 from nI_nlt (b := 6) h6 hn)]
theorem rwith {l : List Nat} {d : Nat} (hl : nam l) (hd : 1 ≤ d ∧ d ≤ 26) (h6 : l.length < 6) : (lN (rN l) <<< ((Int32.toInt64 8) &&& 63)) ||| (nI (96 + d)).toInt64 = lN (rN (l ++ [d])) := by
  have e0 : (Int32.toInt64 8 : Int64) = (nI 8).toInt64 := rfl
  rw [e0, wb_shl _ (by omega), nI_l (by omega), Nat.mul_comm (rN l) (2 ^ 8), fb_or_sumL _ (by omega)]
  congr 1
  unfold rN
  rw [up96_snoc]
  have := val_horner 256 (up96 l) (96 + d)
  rw [up96_len] at this
  rw [List.length_append, List.length_singleton, this]
theorem lg_eq0 (x y : Int64) : lg_cmp x y = 0 ↔ x = y := by
  unfold lg_cmp
  by_cases h : x > y
  · rw [if_pos h]
    refine ⟨fun q => absurd q (by decide), fun q => ?_⟩
    subst q
    exact (Int64.lt_irrefl h).elim
  · rw [if_neg h]
    by_cases h2 : x = y
    · rw [if_pos h2]; exact ⟨fun _ => h2, fun _ => rfl⟩
    · rw [if_neg h2]; exact ⟨fun q => absurd q (by decide), fun q => absurd q h2⟩
/-- the WORDS -/
def wl : List (List Nat) := [[20, 25, 16, 5], [4, 5, 6], [5, 14, 4], [16, 21, 20], [7, 5, 20], [19, 5, 14, 4], [20, 1, 11, 5], [16, 9, 3, 11], [3, 1, 19, 5], [14, 5, 23], [19, 1, 13, 5], [7, 15], [9, 6], [5, 12, 19, 5], [19, 1, 25], [3, 12, 15, 19, 5], [23, 1, 9, 20]]
def wcs : List Int32 := wl.map (fun l => nI (cN l))
def wk (l : List Nat) : Nat := if [20, 25, 16, 5] = l then 300 else if [4, 5, 6] = l then 301 else if [5, 14, 4] = l then 302 else if [16, 21, 20] = l then 303 else if [7, 5, 20] = l then 304 else if [19, 5, 14, 4] = l then 305 else if [20, 1, 11, 5] = l then 306 else if [16, 9, 3, 11] = l then 307 else if [3, 1, 19, 5] = l then 308 else if [14, 5, 23] = l then 309 else if [19, 1, 13, 5] = l then 310 else if [7, 15] = l then 311 else if [9, 6] = l then 312 else if [5, 12, 19, 5] = l then 313 else if [19, 1, 25] = l then 314 else if [3, 12, 15, 19, 5] = l then 315 else if [23, 1, 9, 20] = l then 316 else 256
def wi (l : List Nat) : Int32 := if [20, 25, 16, 5] = l then nI 0 else if [4, 5, 6] = l then nI 1 else if [5, 14, 4] = l then nI 2 else if [16, 21, 20] = l then nI 3 else if [7, 5, 20] = l then nI 4 else if [19, 5, 14, 4] = l then nI 5 else if [20, 1, 11, 5] = l then nI 6 else if [16, 9, 3, 11] = l then nI 7 else if [3, 1, 19, 5] = l then nI 8 else if [14, 5, 23] = l then nI 9 else if [19, 1, 13, 5] = l then nI 10 else if [7, 15] = l then nI 11 else if [9, 6] = l then nI 12 else if [5, 12, 19, 5] = l then nI 13 else if [19, 1, 25] = l then nI 14 else if [3, 12, 15, 19, 5] = l then nI 15 else if [23, 1, 9, 20] = l then nI 16 else -1
theorem wl_nam : ∀ k ∈ wl, (∀ d ∈ k, 1 ≤ d ∧ d ≤ 26) ∧ k.length ≤ 6 := by decide +kernel
theorem cword {l : List Nat} (hl : nam l) (h6 : l.length ≤ 6) : lfind wcs (nI (cN l)) = wi l := by
  have key : ∀ k ∈ wl, (nI (cN k) = nI (cN l)) = (k = l) := fun k hk => propext (cN_inj (wl_nam k hk).1 hl (wl_nam k hk).2 h6)
  have k0 := key [20, 25, 16, 5] (by decide)
  have k1 := key [4, 5, 6] (by decide)
  have k2 := key [5, 14, 4] (by decide)
  have k3 := key [16, 21, 20] (by decide)
  have k4 := key [7, 5, 20] (by decide)
  have k5 := key [19, 5, 14, 4] (by decide)
  have k6 := key [20, 1, 11, 5] (by decide)
  have k7 := key [16, 9, 3, 11] (by decide)
  have k8 := key [3, 1, 19, 5] (by decide)
  have k9 := key [14, 5, 23] (by decide)
  have k10 := key [19, 1, 13, 5] (by decide)
  have k11 := key [7, 15] (by decide)
  have k12 := key [9, 6] (by decide)
  have k13 := key [5, 12, 19, 5] (by decide)
  have k14 := key [19, 1, 25] (by decide)
  have k15 := key [3, 12, 15, 19, 5] (by decide)
  have k16 := key [23, 1, 9, 20] (by decide)
  unfold lfind wcs wl wi
  simp only [List.map, lfindF, k0, k1, k2, k3, k4, k5, k6, k7, k8, k9, k10, k11, k12, k13, k14, k15, k16]
theorem rword {J : jT} {l : List Nat} (hl : nam l) (h6 : l.length ≤ 6) (hJ : J 186 6 = lN (rN l)) : mX12_word J = some (nI (if wk l = 256 then 2 else wk l - 200)) := by
  have key : ∀ k ∈ wl, (lN (rN l) = lN (rN k)) = (k = l) := fun k hk => propext ((rN_inj hl (wl_nam k hk).1 h6 (wl_nam k hk).2).trans ⟨fun q => q.symm, fun q => q.symm⟩)
  have k0 := key [20, 25, 16, 5] (by decide)
  rw [show lN (rN [20, 25, 16, 5]) = (1954115685 : Int64) from by decide +kernel] at k0
  have k1 := key [4, 5, 6] (by decide)
  rw [show lN (rN [4, 5, 6]) = (6579558 : Int64) from by decide +kernel] at k1
  have k2 := key [5, 14, 4] (by decide)
  rw [show lN (rN [5, 14, 4]) = (6647396 : Int64) from by decide +kernel] at k2
  have k3 := key [16, 21, 20] (by decide)
  rw [show lN (rN [16, 21, 20]) = (7370100 : Int64) from by decide +kernel] at k3
  have k4 := key [7, 5, 20] (by decide)
  rw [show lN (rN [7, 5, 20]) = (6776180 : Int64) from by decide +kernel] at k4
  have k5 := key [19, 5, 14, 4] (by decide)
  rw [show lN (rN [19, 5, 14, 4]) = (1936027236 : Int64) from by decide +kernel] at k5
  have k6 := key [20, 1, 11, 5] (by decide)
  rw [show lN (rN [20, 1, 11, 5]) = (1952541541 : Int64) from by decide +kernel] at k6
  have k7 := key [16, 9, 3, 11] (by decide)
  rw [show lN (rN [16, 9, 3, 11]) = (1885954923 : Int64) from by decide +kernel] at k7
  have k8 := key [3, 1, 19, 5] (by decide)
  rw [show lN (rN [3, 1, 19, 5]) = (1667330917 : Int64) from by decide +kernel] at k8
  have k9 := key [14, 5, 23] (by decide)
  rw [show lN (rN [14, 5, 23]) = (7234935 : Int64) from by decide +kernel] at k9
  have k10 := key [19, 1, 13, 5] (by decide)
  rw [show lN (rN [19, 1, 13, 5]) = (1935764837 : Int64) from by decide +kernel] at k10
  have k11 := key [7, 15] (by decide)
  rw [show lN (rN [7, 15]) = (26479 : Int64) from by decide +kernel] at k11
  have k12 := key [9, 6] (by decide)
  rw [show lN (rN [9, 6]) = (26982 : Int64) from by decide +kernel] at k12
  have k13 := key [5, 12, 19, 5] (by decide)
  rw [show lN (rN [5, 12, 19, 5]) = (1701606245 : Int64) from by decide +kernel] at k13
  have k14 := key [19, 1, 25] (by decide)
  rw [show lN (rN [19, 1, 25]) = (7561593 : Int64) from by decide +kernel] at k14
  have k15 := key [3, 12, 15, 19, 5] (by decide)
  rw [show lN (rN [3, 12, 15, 19, 5]) = (427021005669 : Int64) from by decide +kernel] at k15
  have k16 := key [23, 1, 9, 20] (by decide)
  rw [show lN (rN [23, 1, 9, 20]) = (2002872692 : Int64) from by decide +kernel] at k16
  unfold mX12_word wk
  simp only [lg_eq0, hJ, k0, k1, k2, k3, k4, k5, k6, k7, k8, k9, k10, k11, k12, k13, k14, k15, k16]
  by_cases h0 : [20, 25, 16, 5] = l
  · simp only [if_pos h0]; rfl
  simp only [if_neg h0]
  by_cases h1 : [4, 5, 6] = l
  · simp only [if_pos h1]; rfl
  simp only [if_neg h1]
  by_cases h2 : [5, 14, 4] = l
  · simp only [if_pos h2]; rfl
  simp only [if_neg h2]
  by_cases h3 : [16, 21, 20] = l
  · simp only [if_pos h3]; rfl
  simp only [if_neg h3]
  by_cases h4 : [7, 5, 20] = l
  · simp only [if_pos h4]; rfl
  simp only [if_neg h4]
  by_cases h5 : [19, 5, 14, 4] = l
  · simp only [if_pos h5]; rfl
  simp only [if_neg h5]
  by_cases h6 : [20, 1, 11, 5] = l
  · simp only [if_pos h6]; rfl
  simp only [if_neg h6]
  by_cases h7 : [16, 9, 3, 11] = l
  · simp only [if_pos h7]; rfl
  simp only [if_neg h7]
  by_cases h8 : [3, 1, 19, 5] = l
  · simp only [if_pos h8]; rfl
  simp only [if_neg h8]
  by_cases h9 : [14, 5, 23] = l
  · simp only [if_pos h9]; rfl
  simp only [if_neg h9]
  by_cases h10 : [19, 1, 13, 5] = l
  · simp only [if_pos h10]; rfl
  simp only [if_neg h10]
  by_cases h11 : [7, 15] = l
  · simp only [if_pos h11]; rfl
  simp only [if_neg h11]
  by_cases h12 : [9, 6] = l
  · simp only [if_pos h12]; rfl
  simp only [if_neg h12]
  by_cases h13 : [5, 12, 19, 5] = l
  · simp only [if_pos h13]; rfl
  simp only [if_neg h13]
  by_cases h14 : [19, 1, 25] = l
  · simp only [if_pos h14]; rfl
  simp only [if_neg h14]
  by_cases h15 : [3, 12, 15, 19, 5] = l
  · simp only [if_pos h15]; rfl
  simp only [if_neg h15]
  by_cases h16 : [23, 1, 9, 20] = l
  · simp only [if_pos h16]; rfl
  simp only [if_neg h16]
  rfl
