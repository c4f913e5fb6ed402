/-! what the decompiled methods need: books, fewer locals, small calls -/
def a_le : List Value → List Value → Prop
  | [], [] => True
  | [], _ :: _ => False
  | _ :: _, [] => False
  | v :: l', w :: l => (match v with
    | Value.null => True
    | u => u = w) ∧ a_le l' l
theorem a_le_sub : ∀ (l' l : List Value), a_le l' l → l'.length = l.length ∧ ∀ (i : Nat) (v : Value), l'[i]? = some v → v ≠ .null → l[i]? = some v := by
  intro l'
  induction l' with
  | nil =>
    intro l h
    cases l with
    | nil => exact ⟨rfl, fun i v hi => by simp at hi⟩
    | cons w l => exact absurd h (by simp [a_le])
  | cons u l' ih =>
    intro l h
    cases l with
    | nil => exact absurd h (by simp [a_le])
    | cons w l =>
      obtain ⟨h1, h2⟩ := h
      obtain ⟨i1, i2⟩ := ih l h2
      refine ⟨by simp [i1], fun i v hi hv => ?_⟩
      cases i with
      | zero =>
        have e : u = v := by simpa using hi
        subst e
        cases u <;> first | exact absurd rfl hv | (have h3 : _ = w := h1; rw [← h3]; rfl)
      | succ i => exact i2 i v (by simpa using hi) hv
section
variable {l : Launch} {K : a_KT} {g : a_GT} {d nc ns : Nat} {y : MethodName} {cc : ByteArray} {nL : Nat} {ret : Option FieldType} {pc : Nat} {ls st : List Value} {h : aH} {Q : Option Value → aH → Prop}
/-- fewer of the locals are known -/
theorem e_weak (ls' : List Value) (hle : a_le ls' ls) (hE : E l K g d nc ns y cc nL ret pc ls' st h Q) : E l K g d nc ns y cc nL ret pc ls st h Q := by
  obtain ⟨h1, h2⟩ := a_le_sub ls' ls hle
  intro p e s m args below meth c cx R hR1 hR2 σ A H locs lsA cells slots Qw hc hs ha hl hk
  exact hE p e s m args below meth c cx R hR1 hR2 σ A H locs lsA cells slots Qw hc hs ha ⟨hl.1, hl.2.1, h1.trans hl.2.2.1, fun i v hi hv => hl.2.2.2 i v (h2 i v hi hv) hv⟩ hk
variable {idx d2 c a : Nat} {y2 : MethodName} {cc2 : ByteArray} {nL2 : Nat} {ret2 : Option FieldType} {Qy : Option Value → aH → Prop}
theorem e_cV0 (hko : a_kok K) (hd : decode cc pc = .ok (.invokevirtual idx, 3)) (hm : a_mv y.cls idx y2 cc2 nL2 ret2 0) (hc : a_is h a c) (hc13 : c < 13) (hrc : a_rc c = y2.cls) (hd2 : d2 + 1 ≤ d) (hst : (st.map fun v => v.category).sum ≤ 8) (hC : C l K g d2 0 0 y2 cc2 nL2 ret2 [.ref a] h Qy) (kk : ∀ (r : Option Value) (h' : aH), Qy r h' → E l K g d nc ns y cc nL ret (pc + 3) ls (r.toList ++ st) h' Q) : E l K g d nc ns y cc nL ret pc ls (.ref a :: st) h Q := e_callV (as := []) hko hd hm hc hc13 hrc rfl hd2 hst hC kk
theorem e_cV1 {x1 : Value} (hko : a_kok K) (hd : decode cc pc = .ok (.invokevirtual idx, 3)) (hm : a_mv y.cls idx y2 cc2 nL2 ret2 1) (hc : a_is h a c) (hc13 : c < 13) (hrc : a_rc c = y2.cls) (hd2 : d2 + 1 ≤ d) (hst : (st.map fun v => v.category).sum ≤ 8) (hC : C l K g d2 0 0 y2 cc2 nL2 ret2 [.ref a, x1] h Qy) (kk : ∀ (r : Option Value) (h' : aH), Qy r h' → E l K g d nc ns y cc nL ret (pc + 3) ls (r.toList ++ st) h' Q) : E l K g d nc ns y cc nL ret pc ls (x1 :: .ref a :: st) h Q := e_callV (as := [x1]) hko hd hm hc hc13 hrc rfl hd2 hst hC kk
theorem e_cV2 {x1 x2 : Value} (hko : a_kok K) (hd : decode cc pc = .ok (.invokevirtual idx, 3)) (hm : a_mv y.cls idx y2 cc2 nL2 ret2 2) (hc : a_is h a c) (hc13 : c < 13) (hrc : a_rc c = y2.cls) (hd2 : d2 + 1 ≤ d) (hst : (st.map fun v => v.category).sum ≤ 8) (hC : C l K g d2 0 0 y2 cc2 nL2 ret2 [.ref a, x1, x2] h Qy) (kk : ∀ (r : Option Value) (h' : aH), Qy r h' → E l K g d nc ns y cc nL ret (pc + 3) ls (r.toList ++ st) h' Q) : E l K g d nc ns y cc nL ret pc ls (x2 :: x1 :: .ref a :: st) h Q := e_callV (as := [x1, x2]) hko hd hm hc hc13 hrc rfl hd2 hst hC kk
theorem e_cV3 {x1 x2 x3 : Value} (hko : a_kok K) (hd : decode cc pc = .ok (.invokevirtual idx, 3)) (hm : a_mv y.cls idx y2 cc2 nL2 ret2 3) (hc : a_is h a c) (hc13 : c < 13) (hrc : a_rc c = y2.cls) (hd2 : d2 + 1 ≤ d) (hst : (st.map fun v => v.category).sum ≤ 8) (hC : C l K g d2 0 0 y2 cc2 nL2 ret2 [.ref a, x1, x2, x3] h Qy) (kk : ∀ (r : Option Value) (h' : aH), Qy r h' → E l K g d nc ns y cc nL ret (pc + 3) ls (r.toList ++ st) h' Q) : E l K g d nc ns y cc nL ret pc ls (x3 :: x2 :: x1 :: .ref a :: st) h Q := e_callV (as := [x1, x2, x3]) hko hd hm hc hc13 hrc rfl hd2 hst hC kk
theorem e_cV4 {x1 x2 x3 x4 : Value} (hko : a_kok K) (hd : decode cc pc = .ok (.invokevirtual idx, 3)) (hm : a_mv y.cls idx y2 cc2 nL2 ret2 4) (hc : a_is h a c) (hc13 : c < 13) (hrc : a_rc c = y2.cls) (hd2 : d2 + 1 ≤ d) (hst : (st.map fun v => v.category).sum ≤ 8) (hC : C l K g d2 0 0 y2 cc2 nL2 ret2 [.ref a, x1, x2, x3, x4] h Qy) (kk : ∀ (r : Option Value) (h' : aH), Qy r h' → E l K g d nc ns y cc nL ret (pc + 3) ls (r.toList ++ st) h' Q) : E l K g d nc ns y cc nL ret pc ls (x4 :: x3 :: x2 :: x1 :: .ref a :: st) h Q := e_callV (as := [x1, x2, x3, x4]) hko hd hm hc hc13 hrc rfl hd2 hst hC kk
theorem e_cV5 {x1 x2 x3 x4 x5 : Value} (hko : a_kok K) (hd : decode cc pc = .ok (.invokevirtual idx, 3)) (hm : a_mv y.cls idx y2 cc2 nL2 ret2 5) (hc : a_is h a c) (hc13 : c < 13) (hrc : a_rc c = y2.cls) (hd2 : d2 + 1 ≤ d) (hst : (st.map fun v => v.category).sum ≤ 8) (hC : C l K g d2 0 0 y2 cc2 nL2 ret2 [.ref a, x1, x2, x3, x4, x5] h Qy) (kk : ∀ (r : Option Value) (h' : aH), Qy r h' → E l K g d nc ns y cc nL ret (pc + 3) ls (r.toList ++ st) h' Q) : E l K g d nc ns y cc nL ret pc ls (x5 :: x4 :: x3 :: x2 :: x1 :: .ref a :: st) h Q := e_callV (as := [x1, x2, x3, x4, x5]) hko hd hm hc hc13 hrc rfl hd2 hst hC kk
theorem e_cS1 {x1 : Value} (hko : a_kok K) (hd : decode cc pc = .ok (.invokestatic idx, 3)) (hm : a_ms y.cls idx y2 cc2 nL2 ret2 1) (hd2 : d2 + 1 ≤ d) (hst : (st.map fun v => v.category).sum ≤ 8) (hC : C l K g d2 0 0 y2 cc2 nL2 ret2 [x1] h Qy) (kk : ∀ (r : Option Value) (h' : aH), Qy r h' → E l K g d nc ns y cc nL ret (pc + 3) ls (r.toList ++ st) h' Q) : E l K g d nc ns y cc nL ret pc ls (x1 :: st) h Q := e_callS (as := [x1]) hko hd hm rfl hd2 hst hC kk
theorem e_cS2 {x1 x2 : Value} (hko : a_kok K) (hd : decode cc pc = .ok (.invokestatic idx, 3)) (hm : a_ms y.cls idx y2 cc2 nL2 ret2 2) (hd2 : d2 + 1 ≤ d) (hst : (st.map fun v => v.category).sum ≤ 8) (hC : C l K g d2 0 0 y2 cc2 nL2 ret2 [x1, x2] h Qy) (kk : ∀ (r : Option Value) (h' : aH), Qy r h' → E l K g d nc ns y cc nL ret (pc + 3) ls (r.toList ++ st) h' Q) : E l K g d nc ns y cc nL ret pc ls (x2 :: x1 :: st) h Q := e_callS (as := [x1, x2]) hko hd hm rfl hd2 hst hC kk
theorem e_cS3 {x1 x2 x3 : Value} (hko : a_kok K) (hd : decode cc pc = .ok (.invokestatic idx, 3)) (hm : a_ms y.cls idx y2 cc2 nL2 ret2 3) (hd2 : d2 + 1 ≤ d) (hst : (st.map fun v => v.category).sum ≤ 8) (hC : C l K g d2 0 0 y2 cc2 nL2 ret2 [x1, x2, x3] h Qy) (kk : ∀ (r : Option Value) (h' : aH), Qy r h' → E l K g d nc ns y cc nL ret (pc + 3) ls (r.toList ++ st) h' Q) : E l K g d nc ns y cc nL ret pc ls (x3 :: x2 :: x1 :: st) h Q := e_callS (as := [x1, x2, x3]) hko hd hm rfl hd2 hst hC kk
end
def isBook (b : Nat) : Prop := b = 12 ∨ b = 73
def isTypes (b : Nat) : Prop := b = 13 ∨ b = 74
def isSums (b : Nat) : Prop := b = 30 ∨ b = 91
/-- the six references that change point where they should -/
def FK (F : fT) : Prop := FOK F ∧ isBook (F 1 5) ∧ isBook (F 1 6) ∧ isBook (F 134 4) ∧ isBook (F 142 3) ∧ isSums (F 147 2) ∧ isBook (F 148 12)
theorem iz_bk {b : Nat} (h : isBook b) : iz 231 b 0 := by rcases h with rfl | rfl <;> exact ⟨by decide +kernel, by decide, by decide⟩
theorem iz_ty {b : Nat} (h : isTypes b) : iz 231 b 10 := by rcases h with rfl | rfl <;> exact ⟨by decide +kernel, by decide, by decide⟩
theorem iz_su {b : Nat} (h : isSums b) : iz 231 b 8 := by rcases h with rfl | rfl <;> exact ⟨by decide +kernel, by decide, by decide⟩
theorem bb_le {b : Nat} (h : isBook b) : b ≤ 185 := by rcases h with rfl | rfl <;> decide
theorem tb_le {b : Nat} (h : isTypes b) : b ≤ 185 := by rcases h with rfl | rfl <;> decide
theorem ub_le {b : Nat} (h : isSums b) : b ≤ 185 := by rcases h with rfl | rfl <;> decide
theorem bk_ty {b : Nat} (h : isBook b) : isTypes (b + 1) := by rcases h with rfl | rfl <;> first | exact Or.inl rfl | exact Or.inr rfl
theorem bk_su {b : Nat} (h : isBook b) : isSums (b + 18) := by rcases h with rfl | rfl <;> first | exact Or.inl rfl | exact Or.inr rfl
theorem frb_0 {F : fT} (hF : FOK F) {b : Nat} (h : isBook b) : F b 0 = b + 1 := by exact h.elim (fun e => by subst e; exact hF (12, 0, 13) (by decide +kernel)) (fun e => by subst e; exact hF (73, 0, 74) (by decide +kernel))
theorem frb_1 {F : fT} (hF : FOK F) {b : Nat} (h : isBook b) : F b 1 = b + 18 := by exact h.elim (fun e => by subst e; exact hF (12, 1, 30) (by decide +kernel)) (fun e => by subst e; exact hF (73, 1, 91) (by decide +kernel))
theorem frb_2 {F : fT} (hF : FOK F) {b : Nat} (h : isBook b) : F b 2 = b + 29 := by exact h.elim (fun e => by subst e; exact hF (12, 2, 41) (by decide +kernel)) (fun e => by subst e; exact hF (73, 2, 102) (by decide +kernel))
theorem rwb_29 {b : Nat} (h : isBook b) : isRow (b + 29) := by rcases h with rfl | rfl <;> exact ⟨by decide +kernel, by decide +kernel, by decide, by decide, by decide +kernel⟩
theorem frb_3 {F : fT} (hF : FOK F) {b : Nat} (h : isBook b) : F b 3 = b + 31 := by exact h.elim (fun e => by subst e; exact hF (12, 3, 43) (by decide +kernel)) (fun e => by subst e; exact hF (73, 3, 104) (by decide +kernel))
theorem rwb_31 {b : Nat} (h : isBook b) : isRow (b + 31) := by rcases h with rfl | rfl <;> exact ⟨by decide +kernel, by decide +kernel, by decide, by decide, by decide +kernel⟩
theorem frb_4 {F : fT} (hF : FOK F) {b : Nat} (h : isBook b) : F b 4 = b + 33 := by exact h.elim (fun e => by subst e; exact hF (12, 4, 45) (by decide +kernel)) (fun e => by subst e; exact hF (73, 4, 106) (by decide +kernel))
theorem rwb_33 {b : Nat} (h : isBook b) : isRow (b + 33) := by rcases h with rfl | rfl <;> exact ⟨by decide +kernel, by decide +kernel, by decide, by decide, by decide +kernel⟩
theorem frb_5 {F : fT} (hF : FOK F) {b : Nat} (h : isBook b) : F b 5 = b + 35 := by exact h.elim (fun e => by subst e; exact hF (12, 5, 47) (by decide +kernel)) (fun e => by subst e; exact hF (73, 5, 108) (by decide +kernel))
theorem rwb_35 {b : Nat} (h : isBook b) : isRow (b + 35) := by rcases h with rfl | rfl <;> exact ⟨by decide +kernel, by decide +kernel, by decide, by decide, by decide +kernel⟩
theorem frb_6 {F : fT} (hF : FOK F) {b : Nat} (h : isBook b) : F b 6 = b + 37 := by exact h.elim (fun e => by subst e; exact hF (12, 6, 49) (by decide +kernel)) (fun e => by subst e; exact hF (73, 6, 110) (by decide +kernel))
theorem rwb_37 {b : Nat} (h : isBook b) : isRow (b + 37) := by rcases h with rfl | rfl <;> exact ⟨by decide +kernel, by decide +kernel, by decide, by decide, by decide +kernel⟩
theorem frb_7 {F : fT} (hF : FOK F) {b : Nat} (h : isBook b) : F b 7 = b + 39 := by exact h.elim (fun e => by subst e; exact hF (12, 7, 51) (by decide +kernel)) (fun e => by subst e; exact hF (73, 7, 112) (by decide +kernel))
theorem rwb_39 {b : Nat} (h : isBook b) : isRow (b + 39) := by rcases h with rfl | rfl <;> exact ⟨by decide +kernel, by decide +kernel, by decide, by decide, by decide +kernel⟩
theorem frb_8 {F : fT} (hF : FOK F) {b : Nat} (h : isBook b) : F b 8 = b + 41 := by exact h.elim (fun e => by subst e; exact hF (12, 8, 53) (by decide +kernel)) (fun e => by subst e; exact hF (73, 8, 114) (by decide +kernel))
theorem rwb_41 {b : Nat} (h : isBook b) : isRow (b + 41) := by rcases h with rfl | rfl <;> exact ⟨by decide +kernel, by decide +kernel, by decide, by decide, by decide +kernel⟩
theorem frb_9 {F : fT} (hF : FOK F) {b : Nat} (h : isBook b) : F b 9 = b + 43 := by exact h.elim (fun e => by subst e; exact hF (12, 9, 55) (by decide +kernel)) (fun e => by subst e; exact hF (73, 9, 116) (by decide +kernel))
theorem rwb_43 {b : Nat} (h : isBook b) : isRow (b + 43) := by rcases h with rfl | rfl <;> exact ⟨by decide +kernel, by decide +kernel, by decide, by decide, by decide +kernel⟩
theorem frb_10 {F : fT} (hF : FOK F) {b : Nat} (h : isBook b) : F b 10 = b + 45 := by exact h.elim (fun e => by subst e; exact hF (12, 10, 57) (by decide +kernel)) (fun e => by subst e; exact hF (73, 10, 118) (by decide +kernel))
theorem rwb_45 {b : Nat} (h : isBook b) : isRow (b + 45) := by rcases h with rfl | rfl <;> exact ⟨by decide +kernel, by decide +kernel, by decide, by decide, by decide +kernel⟩
theorem frb_11 {F : fT} (hF : FOK F) {b : Nat} (h : isBook b) : F b 11 = b + 47 := by exact h.elim (fun e => by subst e; exact hF (12, 11, 59) (by decide +kernel)) (fun e => by subst e; exact hF (73, 11, 120) (by decide +kernel))
theorem rwb_47 {b : Nat} (h : isBook b) : isRow (b + 47) := by rcases h with rfl | rfl <;> exact ⟨by decide +kernel, by decide +kernel, by decide, by decide, by decide +kernel⟩
theorem frb_12 {F : fT} (hF : FOK F) {b : Nat} (h : isBook b) : F b 12 = b + 49 := by exact h.elim (fun e => by subst e; exact hF (12, 12, 61) (by decide +kernel)) (fun e => by subst e; exact hF (73, 12, 122) (by decide +kernel))
theorem rwb_49 {b : Nat} (h : isBook b) : isRow (b + 49) := by rcases h with rfl | rfl <;> exact ⟨by decide +kernel, by decide +kernel, by decide, by decide, by decide +kernel⟩
theorem frb_13 {F : fT} (hF : FOK F) {b : Nat} (h : isBook b) : F b 13 = b + 51 := by exact h.elim (fun e => by subst e; exact hF (12, 13, 63) (by decide +kernel)) (fun e => by subst e; exact hF (73, 13, 124) (by decide +kernel))
theorem rwb_51 {b : Nat} (h : isBook b) : isRow (b + 51) := by rcases h with rfl | rfl <;> exact ⟨by decide +kernel, by decide +kernel, by decide, by decide, by decide +kernel⟩
theorem frb_14 {F : fT} (hF : FOK F) {b : Nat} (h : isBook b) : F b 14 = b + 53 := by exact h.elim (fun e => by subst e; exact hF (12, 14, 65) (by decide +kernel)) (fun e => by subst e; exact hF (73, 14, 126) (by decide +kernel))
theorem rwb_53 {b : Nat} (h : isBook b) : isRow (b + 53) := by rcases h with rfl | rfl <;> exact ⟨by decide +kernel, by decide +kernel, by decide, by decide, by decide +kernel⟩
theorem frb_15 {F : fT} (hF : FOK F) {b : Nat} (h : isBook b) : F b 15 = b + 55 := by exact h.elim (fun e => by subst e; exact hF (12, 15, 67) (by decide +kernel)) (fun e => by subst e; exact hF (73, 15, 128) (by decide +kernel))
theorem rwb_55 {b : Nat} (h : isBook b) : isRow (b + 55) := by rcases h with rfl | rfl <;> exact ⟨by decide +kernel, by decide +kernel, by decide, by decide, by decide +kernel⟩
theorem frb_16 {F : fT} (hF : FOK F) {b : Nat} (h : isBook b) : F b 16 = b + 57 := by exact h.elim (fun e => by subst e; exact hF (12, 16, 69) (by decide +kernel)) (fun e => by subst e; exact hF (73, 16, 130) (by decide +kernel))
theorem rwb_57 {b : Nat} (h : isBook b) : isRow (b + 57) := by rcases h with rfl | rfl <;> exact ⟨by decide +kernel, by decide +kernel, by decide, by decide, by decide +kernel⟩
theorem frb_17 {F : fT} (hF : FOK F) {b : Nat} (h : isBook b) : F b 17 = b + 59 := by exact h.elim (fun e => by subst e; exact hF (12, 17, 71) (by decide +kernel)) (fun e => by subst e; exact hF (73, 17, 132) (by decide +kernel))
theorem rwb_59 {b : Nat} (h : isBook b) : isRow (b + 59) := by rcases h with rfl | rfl <;> exact ⟨by decide +kernel, by decide +kernel, by decide, by decide, by decide +kernel⟩
theorem frt_0 {F : fT} (hF : FOK F) {b : Nat} (h : isTypes b) : F b 0 = b + 1 := by exact h.elim (fun e => by subst e; exact hF (13, 0, 14) (by decide +kernel)) (fun e => by subst e; exact hF (74, 0, 75) (by decide +kernel))
theorem rwt_1 {b : Nat} (h : isTypes b) : isRow (b + 1) := by rcases h with rfl | rfl <;> exact ⟨by decide +kernel, by decide +kernel, by decide, by decide, by decide +kernel⟩
theorem frt_1 {F : fT} (hF : FOK F) {b : Nat} (h : isTypes b) : F b 1 = b + 3 := by exact h.elim (fun e => by subst e; exact hF (13, 1, 16) (by decide +kernel)) (fun e => by subst e; exact hF (74, 1, 77) (by decide +kernel))
theorem rwt_3 {b : Nat} (h : isTypes b) : isRow (b + 3) := by rcases h with rfl | rfl <;> exact ⟨by decide +kernel, by decide +kernel, by decide, by decide, by decide +kernel⟩
theorem frt_2 {F : fT} (hF : FOK F) {b : Nat} (h : isTypes b) : F b 2 = b + 5 := by exact h.elim (fun e => by subst e; exact hF (13, 2, 18) (by decide +kernel)) (fun e => by subst e; exact hF (74, 2, 79) (by decide +kernel))
theorem rwt_5 {b : Nat} (h : isTypes b) : isRow (b + 5) := by rcases h with rfl | rfl <;> exact ⟨by decide +kernel, by decide +kernel, by decide, by decide, by decide +kernel⟩
theorem frt_3 {F : fT} (hF : FOK F) {b : Nat} (h : isTypes b) : F b 3 = b + 7 := by exact h.elim (fun e => by subst e; exact hF (13, 3, 20) (by decide +kernel)) (fun e => by subst e; exact hF (74, 3, 81) (by decide +kernel))
theorem rwt_7 {b : Nat} (h : isTypes b) : isRow (b + 7) := by rcases h with rfl | rfl <;> exact ⟨by decide +kernel, by decide +kernel, by decide, by decide, by decide +kernel⟩
theorem frt_4 {F : fT} (hF : FOK F) {b : Nat} (h : isTypes b) : F b 4 = b + 9 := by exact h.elim (fun e => by subst e; exact hF (13, 4, 22) (by decide +kernel)) (fun e => by subst e; exact hF (74, 4, 83) (by decide +kernel))
theorem rwt_9 {b : Nat} (h : isTypes b) : isRow (b + 9) := by rcases h with rfl | rfl <;> exact ⟨by decide +kernel, by decide +kernel, by decide, by decide, by decide +kernel⟩
theorem frt_5 {F : fT} (hF : FOK F) {b : Nat} (h : isTypes b) : F b 5 = b + 11 := by exact h.elim (fun e => by subst e; exact hF (13, 5, 24) (by decide +kernel)) (fun e => by subst e; exact hF (74, 5, 85) (by decide +kernel))
theorem rwt_11 {b : Nat} (h : isTypes b) : isRow (b + 11) := by rcases h with rfl | rfl <;> exact ⟨by decide +kernel, by decide +kernel, by decide, by decide, by decide +kernel⟩
theorem frt_6 {F : fT} (hF : FOK F) {b : Nat} (h : isTypes b) : F b 6 = b + 13 := by exact h.elim (fun e => by subst e; exact hF (13, 6, 26) (by decide +kernel)) (fun e => by subst e; exact hF (74, 6, 87) (by decide +kernel))
theorem rwt_13 {b : Nat} (h : isTypes b) : isRow (b + 13) := by rcases h with rfl | rfl <;> exact ⟨by decide +kernel, by decide +kernel, by decide, by decide, by decide +kernel⟩
theorem frt_7 {F : fT} (hF : FOK F) {b : Nat} (h : isTypes b) : F b 7 = b + 15 := by exact h.elim (fun e => by subst e; exact hF (13, 7, 28) (by decide +kernel)) (fun e => by subst e; exact hF (74, 7, 89) (by decide +kernel))
theorem rwt_15 {b : Nat} (h : isTypes b) : isRow (b + 15) := by rcases h with rfl | rfl <;> exact ⟨by decide +kernel, by decide +kernel, by decide, by decide, by decide +kernel⟩
theorem fru_0 {F : fT} (hF : FOK F) {b : Nat} (h : isSums b) : F b 0 = b + 1 := by exact h.elim (fun e => by subst e; exact hF (30, 0, 31) (by decide +kernel)) (fun e => by subst e; exact hF (91, 0, 92) (by decide +kernel))
theorem rwu_1 {b : Nat} (h : isSums b) : isRow (b + 1) := by rcases h with rfl | rfl <;> exact ⟨by decide +kernel, by decide +kernel, by decide, by decide, by decide +kernel⟩
theorem fru_1 {F : fT} (hF : FOK F) {b : Nat} (h : isSums b) : F b 1 = b + 3 := by exact h.elim (fun e => by subst e; exact hF (30, 1, 33) (by decide +kernel)) (fun e => by subst e; exact hF (91, 1, 94) (by decide +kernel))
theorem rwu_3 {b : Nat} (h : isSums b) : isRow (b + 3) := by rcases h with rfl | rfl <;> exact ⟨by decide +kernel, by decide +kernel, by decide, by decide, by decide +kernel⟩
theorem fru_2 {F : fT} (hF : FOK F) {b : Nat} (h : isSums b) : F b 2 = b + 5 := by exact h.elim (fun e => by subst e; exact hF (30, 2, 35) (by decide +kernel)) (fun e => by subst e; exact hF (91, 2, 96) (by decide +kernel))
theorem rwu_5 {b : Nat} (h : isSums b) : isRow (b + 5) := by rcases h with rfl | rfl <;> exact ⟨by decide +kernel, by decide +kernel, by decide, by decide, by decide +kernel⟩
theorem fru_3 {F : fT} (hF : FOK F) {b : Nat} (h : isSums b) : F b 3 = b + 7 := by exact h.elim (fun e => by subst e; exact hF (30, 3, 37) (by decide +kernel)) (fun e => by subst e; exact hF (91, 3, 98) (by decide +kernel))
theorem rwu_7 {b : Nat} (h : isSums b) : isRow (b + 7) := by rcases h with rfl | rfl <;> exact ⟨by decide +kernel, by decide +kernel, by decide, by decide, by decide +kernel⟩
theorem fru_4 {F : fT} (hF : FOK F) {b : Nat} (h : isSums b) : F b 4 = b + 9 := by exact h.elim (fun e => by subst e; exact hF (30, 4, 39) (by decide +kernel)) (fun e => by subst e; exact hF (91, 4, 100) (by decide +kernel))
theorem rwu_9 {b : Nat} (h : isSums b) : isRow (b + 9) := by rcases h with rfl | rfl <;> exact ⟨by decide +kernel, by decide +kernel, by decide, by decide, by decide +kernel⟩
abbrev inb (i : Int32) (n : Nat) : Prop := ¬ (i < 0 ∨ n ≤ i.toNatClampNeg)
theorem inb_in {i : Int32} {a n : Nat} (hl : LEN a = n) (h : inb i n) : vp_in i (LEN a) := by rw [hl]; exact h
theorem ic_1 {x : Int32} : x + Int32.ofInt 1 = x + 1 := by rw [show Int32.ofInt 1 = 1 from by decide]
theorem ic_m1 {x : Int32} : x + Int32.ofInt (-1) = x + (-1) := by rw [show Int32.ofInt (-1) = -1 from by decide]
theorem ic_m8 {x : Int32} : x + Int32.ofInt (-8) = x + (-8) := by rw [show Int32.ofInt (-8) = -8 from by decide]
theorem ic_6 {x : Int32} : x + Int32.ofInt 6 = x + 6 := by rw [show Int32.ofInt 6 = 6 from by decide]
theorem zz_nar {x : Int32} (h : x = 0 ∨ x = 1) : narrow .boolean (.int x) = .int x := by rcases h with rfl | rfl <;> rfl
theorem ob_some {α β : Type} {x : Option α} {f : α → Option β} {b : β} (h : x.bind f = some b) : ∃ a, x = some a ∧ f a = some b := by
  cases x with
  | none => cases h
  | some a => exact ⟨a, rfl, h⟩
theorem if_t {c : Prop} [Decidable c] {α : Type} {a b : α} {P : α → Prop} (hc : c) (h : P (if c then a else b)) : P a := by rw [if_pos hc] at h; exact h
theorem some_in {α : Type} {a b : α} (h : some a = some b) : a = b := Option.some.inj h
theorem gd_s {c : Prop} [Decidable c] {α : Type} {a : Option α} {b : α} (h : (if c then a else none) = some b) : c ∧ a = some b := by
  by_cases hc : c
  · rw [if_pos hc] at h; exact ⟨hc, h⟩
  · rw [if_neg hc] at h; cases h
theorem it_p {c : Prop} [Decidable c] {α : Type} {a b : Option α} {r : α} (hc : c) (h : (if c then a else b) = some r) : a = some r := by rw [if_pos hc] at h; exact h
theorem it_n {c : Prop} [Decidable c] {α : Type} {a b : Option α} {r : α} (hc : ¬ c) (h : (if c then a else b) = some r) : b = some r := by rw [if_neg hc] at h; exact h
