/-! STRING CONSTANTS, by their places -/
def STRB : List (List Int32) := [[116, 121, 112, 101, 32, 100, 101, 102, 32, 101, 110, 100, 32, 112, 117, 116, 32, 103, 101, 116, 32, 115, 101, 110, 100, 32, 116, 97, 107, 101, 32, 112, 105, 99, 107, 32, 99, 97, 115, 101, 32, 110, 101, 119, 32, 115, 97, 109, 101, 32, 103, 111, 32, 105, 102, 32, 101, 108, 115, 101, 32, 115, 97, 121, 32, 99, 108, 111, 115, 101, 32, 119, 97, 105, 116, 32], [40, 41, 123, 125, 44, 59, 58, 46, 61, 33, 63, 62, 60, 43, 45, 42, 38, 124], [32, 125], [32, 123, 32], [32, 44, 32], [32, 58, 32], [101, 110, 100], [32, 46, 32]]
def srk (c : String) (i : Nat) : Option Nat := if c = "TalkHouse$Cursor" ∧ i = 37 then some 0 else if c = "TalkHouse$Cursor" ∧ i = 96 then some 1 else if c = "TalkHouse$Types" ∧ i = 96 then some 2 else if c = "TalkHouse$Types" ∧ i = 98 then some 3 else if c = "TalkHouse$Types" ∧ i = 100 then some 4 else if c = "TalkHouse$Types" ∧ i = 108 then some 5 else if c = "TalkHouse$Types" ∧ i = 88 then some 6 else if c = "TalkHouse$Types" ∧ i = 94 then some 7 else none
def isStr (s : Nat) : Prop := 1000000 ≤ s ∧ s < 1000008
def strB (s : Nat) : List Int32 := STRB.getD (s - 1000000) []
def strLen (s : Nat) : Int32 := nI (strB s).length
def strAt (s : Nat) (i : Int32) : Int32 := (strB s).getD i.toNatClampNeg 0
def strIxF (c : Int32) : List Int32 → Nat → Int32
  | [], _ => -1
  | b :: l, k => if b = c then nI k else strIxF c l (k + 1)
def strIx (s : Nat) (c : Int32) : Int32 := strIxF c (strB s) 0
/-- the rules of length, charAt, indexOf and of a constant's load -/
def StrOK (l : Launch) (K : a_KT) (g : a_GT) : Prop :=
  (∀ (s : Nat) {d nc ns : Nat} {y : MethodName} {cc : ByteArray} {nL : Nat} {ret : Option FieldType} {pc idx : Nat} {ls st : List Value} {h : aH} {Q : Option Value → aH → Prop}, decode cc pc = .ok (.invokevirtual idx, 3) → a_mv y.cls idx yJ0_length_8abf5 cJ0_length_8abf5 1 (some .int) 0 → 13 ≤ d → isStr s → (st.map fun v => v.category).sum ≤ 8 → E l K g d nc ns y cc nL ret (pc + 3) ls (.int (strLen s) :: st) h Q → E l K g d nc ns y cc nL ret pc ls (.ref s :: st) h Q) ∧
  (∀ (s : Nat) {d nc ns : Nat} {y : MethodName} {cc : ByteArray} {nL : Nat} {ret : Option FieldType} {pc idx : Nat} {ls st : List Value} {h : aH} {i : Int32} {Q : Option Value → aH → Prop}, decode cc pc = .ok (.invokevirtual idx, 3) → a_mv y.cls idx yJ0_charAt_5068e cJ0_charAt_5068e 2 (some .char) 1 → 13 ≤ d → isStr s → (st.map fun v => v.category).sum ≤ 8 → inb i (strLen s).toNatClampNeg → E l K g d nc ns y cc nL ret (pc + 3) ls (.int (strAt s i) :: st) h Q → E l K g d nc ns y cc nL ret pc ls (.int i :: .ref s :: st) h Q) ∧
  (∀ (s : Nat) {d nc ns : Nat} {y : MethodName} {cc : ByteArray} {nL : Nat} {ret : Option FieldType} {pc idx : Nat} {ls st : List Value} {h : aH} {c : Int32} {Q : Option Value → aH → Prop}, decode cc pc = .ok (.invokevirtual idx, 3) → a_mv y.cls idx yJ0_indexOf_0f7a4 cJ0_indexOf_0f7a4 2 (some .int) 1 → 13 ≤ d → isStr s → (st.map fun v => v.category).sum ≤ 8 → E l K g d nc ns y cc nL ret (pc + 3) ls (.int (strIx s c) :: st) h Q → E l K g d nc ns y cc nL ret pc ls (.int c :: .ref s :: st) h Q) ∧
  (∀ (k : Nat) {d nc ns : Nat} {y : MethodName} {cc : ByteArray} {nL : Nat} {ret : Option FieldType} {pc idx : Nat} {ls st : List Value} {h : aH} {Q : Option Value → aH → Prop}, decode cc pc = .ok (.ldc idx, 2) → k < 8 → srk y.cls idx = some k → E l K g d nc ns y cc nL ret (pc + 2) ls (.ref (1000000 + k) :: st) h Q → E l K g d nc ns y cc nL ret pc ls st h Q)
def LF : Nat := 100000
def SF : Nat := 450
def mx_ok : Cond → Bool
  | .methodLinkNest _ _ y _ => !(y.cls == "java/lang/Math")
  | _ => true
theorem mx_no {own host n d : String} {idx : Nat} (h : Cond.methodLinkNest own idx ⟨"java/lang/Math", n, d⟩ host ∈ NW) : False := by
  have h1 : ∀ w ∈ NW, mx_ok w = true := by decide +kernel
  have h2 := h1 _ h
  simp [mx_ok] at h2
section
variable {l : Launch} {K : a_KT} {g : a_GT} {d nc ns : Nat} {y : MethodName} {cc : ByteArray} {nL : Nat} {ret : Option FieldType} {pc : Nat} {ls st : List Value} {h : aH} {Q : Option Value → aH → Prop} {idx : Nat} {x z : Int32}
theorem e_mmax (hd : decode cc pc = .ok (.invokestatic idx, 3)) (hm : a_ms y.cls idx yJ9_max_7cf53 cJ9_max_7cf53 2 (some .int) 2) (hd1 : 1 ≤ d) (hst : (st.map fun v => v.category).sum ≤ 8) (k : E l K g d nc ns y cc nL ret (pc + 3) ls (.int (if x < z then z else x) :: st) h Q) : E l K g d nc ns y cc nL ret pc ls (.int z :: .int x :: st) h Q := by
  intro p e s m args below meth cd cx R hR1 hR2 σ A H locs lsA cells slots Qw hcl hs ha hl hk
  obtain ⟨⟨hlk, hini, hcode, -, -⟩, hsm⟩ := hm
  rcases hlk with hw | ⟨host, hw⟩
  · exact va_mmax cx.1 cx.2.1 (by rw [cx.2.2.2.1]; exact hl.1.symm) cx.2.2.2.2.1 (cx.2.2.2.2.2.1 _ hw) (cx.2.2.2.2.2.1 _ hsm) (cx.2.2.2.2.2.1 _ hini) (cx.2.2.2.2.2.1 _ hcode) (by omega) (by rw [a_catsum]; omega) (by omega) (by omega) hd (k p e s m args below meth cd cx R hR1 hR2 σ A H locs lsA cells slots Qw hcl hs ha hl hk)
  · exact absurd (mx_no hw) id
theorem e_mmin (hd : decode cc pc = .ok (.invokestatic idx, 3)) (hm : a_ms y.cls idx yJ9_min_7cf53 cJ9_min_7cf53 2 (some .int) 2) (hd1 : 1 ≤ d) (hst : (st.map fun v => v.category).sum ≤ 8) (k : E l K g d nc ns y cc nL ret (pc + 3) ls (.int (if z < x then z else x) :: st) h Q) : E l K g d nc ns y cc nL ret pc ls (.int z :: .int x :: st) h Q := by
  intro p e s m args below meth cd cx R hR1 hR2 σ A H locs lsA cells slots Qw hcl hs ha hl hk
  obtain ⟨⟨hlk, hini, hcode, -, -⟩, hsm⟩ := hm
  rcases hlk with hw | ⟨host, hw⟩
  · exact va_mmin cx.1 cx.2.1 (by rw [cx.2.2.2.1]; exact hl.1.symm) cx.2.2.2.2.1 (cx.2.2.2.2.2.1 _ hw) (cx.2.2.2.2.2.1 _ hsm) (cx.2.2.2.2.2.1 _ hini) (cx.2.2.2.2.2.1 _ hcode) (by omega) (by rw [a_catsum]; omega) (by omega) (by omega) hd (k p e s m args below meth cd cx R hR1 hR2 σ A H locs lsA cells slots Qw hcl hs ha hl hk)
  · exact absurd (mx_no hw) id
end
theorem fk_1_5 {F : fT} (hF : FK F) {v : Nat} (hv : isBook v) : FK (a_u2 F 1 5 v) := ⟨hF.1.put (by decide +kernel), by rw [a_u2_s]; exact hv, by rw [a_u2_n _ _ (by decide)]; exact hF.2.2.1, by rw [a_u2_n _ _ (by decide)]; exact hF.2.2.2.1, by rw [a_u2_n _ _ (by decide)]; exact hF.2.2.2.2.1, by rw [a_u2_n _ _ (by decide)]; exact hF.2.2.2.2.2.1, by rw [a_u2_n _ _ (by decide)]; exact hF.2.2.2.2.2.2⟩
theorem fk_1_6 {F : fT} (hF : FK F) {v : Nat} (hv : isBook v) : FK (a_u2 F 1 6 v) := ⟨hF.1.put (by decide +kernel), by rw [a_u2_n _ _ (by decide)]; exact hF.2.1, by rw [a_u2_s]; exact hv, by rw [a_u2_n _ _ (by decide)]; exact hF.2.2.2.1, by rw [a_u2_n _ _ (by decide)]; exact hF.2.2.2.2.1, by rw [a_u2_n _ _ (by decide)]; exact hF.2.2.2.2.2.1, by rw [a_u2_n _ _ (by decide)]; exact hF.2.2.2.2.2.2⟩
theorem fk_134_4 {F : fT} (hF : FK F) {v : Nat} (hv : isBook v) : FK (a_u2 F 134 4 v) := ⟨hF.1.put (by decide +kernel), by rw [a_u2_n _ _ (by decide)]; exact hF.2.1, by rw [a_u2_n _ _ (by decide)]; exact hF.2.2.1, by rw [a_u2_s]; exact hv, by rw [a_u2_n _ _ (by decide)]; exact hF.2.2.2.2.1, by rw [a_u2_n _ _ (by decide)]; exact hF.2.2.2.2.2.1, by rw [a_u2_n _ _ (by decide)]; exact hF.2.2.2.2.2.2⟩
theorem fk_142_3 {F : fT} (hF : FK F) {v : Nat} (hv : isBook v) : FK (a_u2 F 142 3 v) := ⟨hF.1.put (by decide +kernel), by rw [a_u2_n _ _ (by decide)]; exact hF.2.1, by rw [a_u2_n _ _ (by decide)]; exact hF.2.2.1, by rw [a_u2_n _ _ (by decide)]; exact hF.2.2.2.1, by rw [a_u2_s]; exact hv, by rw [a_u2_n _ _ (by decide)]; exact hF.2.2.2.2.2.1, by rw [a_u2_n _ _ (by decide)]; exact hF.2.2.2.2.2.2⟩
theorem fk_147_2 {F : fT} (hF : FK F) {v : Nat} (hv : isSums v) : FK (a_u2 F 147 2 v) := ⟨hF.1.put (by decide +kernel), by rw [a_u2_n _ _ (by decide)]; exact hF.2.1, by rw [a_u2_n _ _ (by decide)]; exact hF.2.2.1, by rw [a_u2_n _ _ (by decide)]; exact hF.2.2.2.1, by rw [a_u2_n _ _ (by decide)]; exact hF.2.2.2.2.1, by rw [a_u2_s]; exact hv, by rw [a_u2_n _ _ (by decide)]; exact hF.2.2.2.2.2.2⟩
theorem fk_148_12 {F : fT} (hF : FK F) {v : Nat} (hv : isBook v) : FK (a_u2 F 148 12 v) := ⟨hF.1.put (by decide +kernel), by rw [a_u2_n _ _ (by decide)]; exact hF.2.1, by rw [a_u2_n _ _ (by decide)]; exact hF.2.2.1, by rw [a_u2_n _ _ (by decide)]; exact hF.2.2.2.1, by rw [a_u2_n _ _ (by decide)]; exact hF.2.2.2.2.1, by rw [a_u2_n _ _ (by decide)]; exact hF.2.2.2.2.2.1, by rw [a_u2_s]; exact hv⟩
