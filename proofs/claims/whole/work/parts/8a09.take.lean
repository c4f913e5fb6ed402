/-! A MESSAGE IS LAID in the reference; the first one is taken, in both (pure) -/
theorem in160 {x : Nat} (h : x < 160) : inb (nI x) 160 := vp_in_nI h (by omega)
theorem cl160 {x : Nat} (h : x < 160) : (nI x).toNatClampNeg = x := nI_clamp (by omega)
theorem in700 {x : Nat} (h : x < 700) : inb (nI x) 700 := vp_in_nI h (by omega)
theorem cl700 {x : Nat} (h : x < 700) : (nI x).toNatClampNeg = x := nI_clamp (by omega)
theorem nI_m (n : Nat) : nI (n + 1) + -1 = nI n := by
  rw [← Int32.sub_eq_add_neg]
  exact nI_pred n
theorem cq_mem {g : Nat → Int32} : ∀ (l : List Nat) (x : Int32), cq g x l → ∀ m ∈ l, m < 600 := by
  intro l
  induction l with
  | nil => intro _ _ m h; cases h
  | cons y l ih =>
    intro x h m hm
    rcases List.mem_cons.mp hm with q | q
    · subst q; exact h.2.1
    · exact ih _ h.2.2 m q
theorem rq_mem {g : Nat → Int32} : ∀ (l : List Nat) (x : Int32), rq g x l → ∀ m ∈ l, m < 700 := by
  intro l
  induction l with
  | nil => intro _ _ m h; cases h
  | cons y l ih =>
    intro x h m hm
    rcases List.mem_cons.mp hm with q | q
    · subst q; exact h.2.1
    · exact ih _ h.2.2 m q
section
variable {R : lT} {I B : iT} {J : jT}
theorem lay_r {nm r : Nat} {l : List Nat} (h64 : B 186 64 = nI nm) (hm : nm < 700) (hr : r < 160) (hQ : QCr B r l) (hlt : ∀ m ∈ l, m < nm) (hnd : l.Nodup) (x2 x3 : Int32) (w : Int64) : ∃ B' J', mX12_lay B J (nI r) x2 x3 w = some (B', J') ∧ QCr B' r (l ++ [nm]) ∧ (∀ r' l', r' ≠ r → QCr B r' l' → (∀ m ∈ l', m < nm ∧ ∀ a z, l = a ++ [z] → m ≠ z) → QCr B' r' l') ∧ B' 186 64 = nI (nm + 1) ∧ B' 223 nm = x2 ∧ B' 224 nm = x3 ∧ J' 226 nm = w ∧ (∀ q i, ¬ (q = 186 ∧ i = 64) → ¬ ((q = 221 ∨ q = 222) ∧ i = r) → ¬ ((q = 223 ∨ q = 224) ∧ i = nm) → q ≠ 225 → B' q i = B q i) ∧ (∀ q i, ¬ (q = 226 ∧ i = nm) → J' q i = J q i) := by
  obtain ⟨q1, q2⟩ := hQ
  have i7 := in700 hm
  have c7 := cl700 hm
  have i1 := in160 hr
  have c1 := cl160 hr
  have fB1 : ∀ q i, ¬ (q = 186 ∧ i = 64) → ¬ ((q = 223 ∨ q = 224 ∨ q = 225) ∧ i = nm) → (a_u2 (a_u2 (a_u2 (a_u2 B 186 64 (nI (nm + 1))) 223 nm x2) 224 nm x3) 225 nm (-1)) q i = B q i := fun q i w1 w2 => by rw [a_u2_n _ _ (by omega), a_u2_n _ _ (by omega), a_u2_n _ _ (by omega), a_u2_n _ _ (by omega)]
  have g64 : (a_u2 (a_u2 (a_u2 (a_u2 B 186 64 (nI (nm + 1))) 223 nm x2) 224 nm x3) 225 nm (-1)) 186 64 = nI (nm + 1) := by rw [a_u2_n _ _ (by omega), a_u2_n _ _ (by omega), a_u2_n _ _ (by omega), a_u2_s]
  have g223 : (a_u2 (a_u2 (a_u2 (a_u2 B 186 64 (nI (nm + 1))) 223 nm x2) 224 nm x3) 225 nm (-1)) 223 nm = x2 := by rw [a_u2_n _ _ (by omega), a_u2_n _ _ (by omega), a_u2_s]
  have g224 : (a_u2 (a_u2 (a_u2 (a_u2 B 186 64 (nI (nm + 1))) 223 nm x2) 224 nm x3) 225 nm (-1)) 224 nm = x3 := by rw [a_u2_n _ _ (by omega), a_u2_s]
  have g225 : (a_u2 (a_u2 (a_u2 (a_u2 B 186 64 (nI (nm + 1))) 223 nm x2) 224 nm x3) 225 nm (-1)) 225 nm = -1 := a_u2_s _ _ _ _
  unfold mX12_lay mX12_lay_83
  rw [h64, if_pos i7, if_pos i7, if_pos i7, if_pos i7, if_pos i1, nI_1, c7]
  generalize (a_u2 (a_u2 (a_u2 (a_u2 B 186 64 (nI (nm + 1))) 223 nm x2) 224 nm x3) 225 nm (-1)) = B1 at fB1 g64 g223 g224 g225 ⊢
  have fJ : ∀ q i, ¬ (q = 226 ∧ i = nm) → (a_u2 J 226 nm w) q i = J q i := fun q i w1 => a_u2_n _ _ w1
  have e1r : B1 221 (nI r).toNatClampNeg = B1 221 r := congrArg (B1 221) c1
  have e2r : B1 222 (nI r).toNatClampNeg = B1 222 r := congrArg (B1 222) c1
  have e221 : ∀ i, B1 221 i = B 221 i := fun i => fB1 _ _ (by omega) (by omega)
  have e222 : ∀ i, B1 222 i = B 222 i := fun i => fB1 _ _ (by omega) (by omega)
  have e225 : ∀ i, i ≠ nm → B1 225 i = B 225 i := fun i hi => fB1 _ _ (by omega) (by omega)
  rcases snoc_cases l with rfl | ⟨a, z, rfl⟩
  · have h1 : B1 221 r = -1 := (e221 r).trans q1
    rw [if_pos (e1r.trans h1), if_pos i1, if_pos i1, c1]
    refine ⟨_, _, rfl, ⟨?_, fun b y hb => ?_⟩, fun r' l' hr' hq hl => ⟨?_, fun b y hb => ?_⟩, ?_, ?_, ?_, a_u2_s _ _ _ _, fun q i w1 w2 w3 w4 => ?_, fJ⟩
    · rw [a_u2_n _ _ (by omega), a_u2_s]
      refine ⟨rfl, hm, ?_⟩
      show (a_u2 (a_u2 B1 221 r (nI nm)) 222 r (nI nm)) 225 nm = -1
      rw [a_u2_n _ _ (by omega), a_u2_n _ _ (by omega), g225]
    · have := (snoc_inj (a := []) (b := b) (x := nm) (y := y) hb).2
      subst this
      exact a_u2_s _ _ _ _
    · rw [a_u2_n _ _ (by omega), a_u2_n _ _ (by omega), e221]
      refine rq_to _ _ hq.1 (fun y hy => ?_)
      rw [a_u2_n _ _ (by omega), a_u2_n _ _ (by omega)]
      exact e225 y (by have := (hl y hy).1; omega)
    · rw [a_u2_n _ _ (by omega), a_u2_n _ _ (by omega), e222]; exact hq.2 b y hb
    · rw [a_u2_n _ _ (by omega), a_u2_n _ _ (by omega)]; exact g64
    · rw [a_u2_n _ _ (by omega), a_u2_n _ _ (by omega)]; exact g223
    · rw [a_u2_n _ _ (by omega), a_u2_n _ _ (by omega)]; exact g224
    · rw [a_u2_n _ _ (by omega), a_u2_n _ _ (by omega)]; exact fB1 q i w1 (by omega)
  · have hz : B1 222 r = nI z := (e222 r).trans (q2 a z rfl)
    have hzl : z < nm := hlt z (List.mem_append.mpr (Or.inr (List.mem_cons_self ..)))
    have hza := nd_last a z hnd
    have h1 : ¬ B1 221 r = -1 := by
      rw [e221, rq_ne q1]
      simp
    have iz : inb (nI z) 700 := in700 (by omega)
    have cz := cl700 (show z < 700 by omega)
    rw [if_neg (fun w => h1 (e1r.symm.trans w)), e2r, hz, if_pos i1, if_pos iz, if_pos i1, cz, c1]
    have fB2 : ∀ q i, ¬ (q = 222 ∧ i = r) → ¬ (q = 225 ∧ i = z) → (a_u2 (a_u2 B1 225 z (nI nm)) 222 r (nI nm)) q i = B1 q i := fun q i w1 w2 => by rw [a_u2_n _ _ w1, a_u2_n _ _ w2]
    have g225z : (a_u2 (a_u2 B1 225 z (nI nm)) 222 r (nI nm)) 225 z = nI nm := by rw [a_u2_n _ _ (by omega), a_u2_s]
    refine ⟨_, _, rfl, ⟨?_, fun b y hb => ?_⟩, fun r' l' hr' hq hl => ⟨?_, fun b y hb => ?_⟩, ?_, ?_, ?_, a_u2_s _ _ _ _, fun q i w1 w2 w3 w4 => ?_, fJ⟩
    · rw [fB2 _ _ (by omega) (by omega), e221]
      refine rq_app a _ q1 (fun y hy => ?_) ?_
      · rw [fB2 _ _ (by omega) (fun w => hza (w.2 ▸ hy))]
        exact e225 y (by have := hlt y (List.mem_append.mpr (Or.inl hy)); omega)
      · refine ⟨g225z, hm, ?_⟩
        show (a_u2 (a_u2 B1 225 z (nI nm)) 222 r (nI nm)) 225 nm = -1
        rw [fB2 _ _ (by omega) (by omega), g225]
    · have := (snoc_inj (x := nm) (y := y) hb).2
      subst this
      exact a_u2_s _ _ _ _
    · rw [fB2 _ _ (by omega) (by omega), e221]
      refine rq_to _ _ hq.1 (fun y hy => ?_)
      rw [fB2 _ _ (by omega) (fun w => (hl y hy).2 a z rfl w.2)]
      exact e225 y (by have := (hl y hy).1; omega)
    · rw [fB2 _ _ (by omega) (by omega), e222]; exact hq.2 b y hb
    · rw [fB2 _ _ (by omega) (by omega)]; exact g64
    · rw [fB2 _ _ (by omega) (by omega)]; exact g223
    · rw [fB2 _ _ (by omega) (by omega)]; exact g224
    · rw [fB2 _ _ (by omega) (by omega)]; exact fB1 q i w1 (by omega)
/-- the class takes the first MESSAGE -/
theorem take_c {np nm c s m : Nat} {l : List Nat} (hN : RN I R) (hL : CHL np nm R) (hs : s < 2) (hc : c < np) (hQ : QCc R (2 * c + s) (m :: l)) : ∃ I' R', mX1_takeFirst I (nI c) (nI s) = some (gI (R 160) m, I') ∧ RN I' R' ∧ QCc R' (2 * c + s) l ∧ (∀ r' l', r' ≠ 2 * c + s → QCc R r' l' → QCc R' r' l') ∧ (∀ a, a ≠ 152 → a ≠ 156 → R' a = R a) ∧ (R' 152).length = (R 152).length ∧ (R' 156).length = (R 156).length ∧ ∀ q, ¬ (152 ≤ q ∧ q ≤ 157) → I' q = I q := by
  obtain ⟨h1, h2, h3, h4, h5, h6, h7, h8⟩ := hL
  obtain ⟨q1, ⟨q2, q2b, q2c⟩, q3⟩ := hQ
  obtain ⟨I1, a1, a2, a3⟩ := rn_put hN (a := 152) (by unfold rnA; omega) (j := 2 * c + s) (by omega) (gI (R 162) m)
  obtain ⟨I2, b1, b2, b3⟩ := rn_bump a2 (a := 156) (by unfold rnA; omega) (j := 2 * c + s) (by omega) (-1)
  rw [upL_n _ _ (by omega), q1, List.length_cons, nI_m] at b2
  refine ⟨I2, _, ?_, b2, ⟨?_, ?_, fun a z hz => ?_⟩, fun r' l' hr hq => ⟨?_, ?_, fun a z hz => ?_⟩, fun a w1 w2 => ?_, ?_, ?_, fun q w => by rw [b3 q (by omega) (by omega), a3 q (by omega) (by omega)]⟩
  · unfold mX1_takeFirst
    rw [r2s, rn_g hN (by unfold rnA; omega) (by omega), sb, q2, rn_g hN (by unfold rnA; omega) (by omega), sb, a1, sb, b1, sb, rn_g b2 (by unfold rnA; omega) (by omega), sb, upL_n _ _ (by omega), upL_n _ _ (by omega)]
  all_goals simp only [upL, Nat.reduceEqDiff, if_true, if_false, ite_true, ite_false, List.length_set]
  · exact gI_se (by omega) _
  · rw [gI_se (by omega)]
    exact q2c
  · exact q3 (m :: a) z (by rw [hz]; rfl)
  · rw [gI_sn hr]; exact hq.1
  · rw [gI_sn hr]; exact hq.2.1
  · exact hq.2.2 a z hz
  · rw [if_neg w2, if_neg w1]
theorem take_r {r m : Nat} {l : List Nat} (hr : r < 160) (hQ : QCr B r (m :: l)) : ∃ B', mX12_take B (nI r) = some (nI m, B') ∧ QCr B' r l ∧ (∀ r' l', r' ≠ r → QCr B r' l' → QCr B' r' l') ∧ ∀ q i, ¬ (q = 221 ∧ i = r) → B' q i = B q i := by
  obtain ⟨⟨q1, q1b, q1c⟩, q2⟩ := hQ
  have i1 := in160 hr
  have c1 := cl160 hr
  have fB : ∀ q i, ¬ (q = 221 ∧ i = r) → (a_u2 B 221 r (B 225 m)) q i = B q i := fun q i w => a_u2_n _ _ w
  refine ⟨a_u2 B 221 r (B 225 m), ?_, ⟨?_, fun a z hz => ?_⟩, fun r' l' hr' hq => ⟨?_, fun a z hz => ?_⟩, fB⟩
  · have g1 : B 221 (nI r).toNatClampNeg = nI m := (congrArg (B 221) c1).trans q1
    have g2 : B 225 (nI m).toNatClampNeg = B 225 m := congrArg (B 225) (cl700 q1b)
    unfold mX12_take
    rw [if_pos i1, g1, if_pos (in700 q1b), if_pos i1, g2, c1]
  · rw [a_u2_s]
    exact rq_to _ _ q1c (fun y _ => fB _ _ (by omega))
  · rw [fB _ _ (by omega)]
    exact q2 (m :: a) z (by rw [hz]; rfl)
  · rw [fB _ _ (by omega)]
    exact rq_to _ _ hq.1 (fun y _ => fB _ _ (by omega))
  · rw [fB _ _ (by omega)]
    exact hq.2 a z hz
end
