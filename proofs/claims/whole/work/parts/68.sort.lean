/-! NAMES IN THEIR ORDER, in both; the class's drafts are sorted (pure) -/
theorem pf_lI {a : Nat} (h : a < 2 ^ 63) : (lN a).toInt = (a : Int) := lg_ofNat_toInt h
theorem pf_shr {a d : Nat} {D : Int64} (hD : (D.toBitVec.smod 64).toNat = d) (h : a < 2 ^ 62) : lN a >>> D = lN (a / 2 ^ d) := by
  have hd : a / 2 ^ d ≤ a := Nat.div_le_self _ _
  apply Int64.toInt_inj.mp
  have e : (lN a >>> D).toInt = (lN a).toInt >>> d := by
    rw [← hD]
    exact BitVec.toInt_sshiftRight ..
  rw [e, Int.shiftRight_eq_div_pow, pf_lI (by omega), pf_lI (by omega)]
  rfl
theorem val_pad (b : Nat) : ∀ (l : List Nat) (j : Nat), val b (l.length + j) l = val b l.length l * b ^ j := by
  intro l
  induction l with
  | nil => intro j; rw [val_nil, val_nil, Nat.zero_mul]
  | cons d l ih =>
    intro j
    have e1 : (d :: l).length + j = (l.length + j) + 1 := by rw [List.length_cons]; omega
    rw [e1, List.length_cons]
    show d * b ^ (l.length + j) + val b (l.length + j) l = (d * b ^ l.length + val b l.length l) * b ^ j
    rw [ih j, Nat.add_mul, Nat.pow_add, Nat.mul_assoc]
def alN (w : List Nat) : Nat := val 256 6 (up96 w)
theorem cdl {a b : List Nat} (ha : isN a) (hb : isN b) : cN a < cN b ↔ dlt a b := val_ltI (b := 32) (by omega) 6 a b (nam_dig ha.1) (nam_dig hb.1) ha.2.2 hb.2.2
theorem adl {a b : List Nat} (ha : isN a) (hb : isN b) : alN a < alN b ↔ dlt a b := by
  rw [← dlt_up]
  exact val_ltI (b := 256) (by omega) 6 (up96 a) (up96 b) (nam_up ha.1) (nam_up hb.1) (by rw [up96_len]; exact ha.2.2) (by rw [up96_len]; exact hb.2.2)
theorem alN_lt {a : List Nat} (ha : isN a) : alN a < 2 ^ 48 := by
  have := val_lt (b := 256) (by omega) 6 (up96 a) (nam_up ha.1)
  have e : (256 : Nat) ^ 6 = 2 ^ 48 := by decide
  unfold alN
  omega
theorem aligned_ok {w : List Nat} (h : isN w) : mX12_aligned (lN (rN w)) = some (lN (alN w)) := by
  obtain ⟨h1, h2, h3⟩ := h
  have hr1 : rN w < 256 ^ w.length := by
    have := val_lt (b := 256) (by omega) w.length (up96 w) (nam_up h1)
    exact this
  have hr2 : 256 ^ (w.length - 1) ≤ rN w := by
    have := val_big (b := 256) (by omega) (up96 w) (nam_up h1) (by rw [up96_len]; omega)
    rw [up96_len] at this
    exact this
  have hfin : alN w = rN w * 256 ^ (6 - w.length) := by
    have := val_pad 256 (up96 w) (6 - w.length)
    rw [up96_len, show w.length + (6 - w.length) = 6 by omega] at this
    exact this
  have e8 : ∀ n : Nat, lN n <<< ((Int32.toInt64 8) &&& 63) = lN (n * 2 ^ 8) := fun n => wb_shl n (k := 8) (by omega)
  have p40 : (256 : Nat) ^ 5 = 2 ^ 40 := by decide
  have p48 : (256 : Nat) ^ 6 = 2 ^ 48 := by decide
  have loop : ∀ (j i n : Nat) (w0 : Int64), i + j = 6 - w.length → j < n → mX12_aligned_2 n w0 (lN (rN w * 256 ^ i)) = some (lN (rN w * 256 ^ (6 - w.length))) := by
    intro j
    induction j with
    | zero =>
      intro i n w0 hi hn
      obtain ⟨n, rfl⟩ : ∃ m, n = m + 1 := ⟨n - 1, by omega⟩
      have hu : rN w * 256 ^ i < 2 ^ 48 := by
        have a1 : rN w * 256 ^ i < 256 ^ w.length * 256 ^ i := Nat.mul_lt_mul_of_pos_right hr1 (Nat.pow_pos (by omega))
        rw [← Nat.pow_add, show w.length + i = 6 by omega] at a1
        omega
      have hl : 2 ^ 40 ≤ rN w * 256 ^ i := by
        have a1 : 256 ^ (w.length - 1) * 256 ^ i ≤ rN w * 256 ^ i := Nat.mul_le_mul_right _ hr2
        rw [← Nat.pow_add, show w.length - 1 + i = 5 by omega] at a1
        omega
      have hne : ¬ lg_cmp (lN (rN w * 256 ^ i / 2 ^ 40)) 0 = 0 := by
        rw [lg_eq0]
        intro q
        have q1 : (lN (rN w * 256 ^ i / 2 ^ 40)).toInt = ((rN w * 256 ^ i / 2 ^ 40 : Nat) : Int) := pf_lI (by have := Nat.div_le_self (rN w * 256 ^ i) (2 ^ 40); omega)
        rw [q] at q1
        have q2 : (0 : Int64).toInt = 0 := by decide
        have q3 : 1 ≤ rN w * 256 ^ i / 2 ^ 40 := by rw [Nat.le_div_iff_mul_le (by omega)]; omega
        omega
      rw [mX12_aligned_2, pf_shr (d := 40) (by decide +kernel) (by omega), if_neg hne, show i = 6 - w.length by omega]
    | succ j ih =>
      intro i n w0 hi hn
      obtain ⟨n, rfl⟩ : ∃ m, n = m + 1 := ⟨n - 1, by omega⟩
      have hu : rN w * 256 ^ i < 2 ^ 40 := by
        have a1 : rN w * 256 ^ i < 256 ^ w.length * 256 ^ i := Nat.mul_lt_mul_of_pos_right hr1 (Nat.pow_pos (by omega))
        rw [← Nat.pow_add] at a1
        have a2 : 256 ^ (w.length + i) ≤ 256 ^ 5 := Nat.pow_le_pow_right (by omega) (by omega)
        omega
      have hz : rN w * 256 ^ i / 2 ^ 40 = 0 := Nat.div_eq_of_lt hu
      rw [mX12_aligned_2, pf_shr (d := 40) (by decide +kernel) (by omega), hz, if_pos (by decide), e8, Nat.mul_assoc, show (256 : Nat) ^ i * 2 ^ 8 = 256 ^ (i + 1) from (Nat.pow_succ 256 i).symm]
      exact ih (i + 1) n w0 (by omega) (by omega)
  have := loop (6 - w.length) 0 LF (lN (rN w)) (by omega) (by unfold LF; omega)
  rw [Nat.pow_zero, Nat.mul_one] at this
  unfold mX12_aligned
  rw [this, hfin]
theorem lg_ge {a b : Nat} (ha : a < 2 ^ 62) (hb : b < 2 ^ 62) : 0 ≤ lg_cmp (lN a) (lN b) ↔ b ≤ a := by
  have e1 : lN a > lN b ↔ b < a := by
    show lN b < lN a ↔ b < a
    rw [Int64.lt_iff_toInt_lt, pf_lI (by omega), pf_lI (by omega)]; omega
  have e2 : lN a = lN b ↔ a = b := by
    constructor
    · intro q
      have q1 := pf_lI (a := a) (by omega)
      rw [q, pf_lI (by omega)] at q1
      omega
    · intro q; rw [q]
  unfold lg_cmp
  by_cases h : lN a > lN b
  · rw [if_pos h]
    have := e1.mp h
    exact ⟨fun _ => by omega, fun _ => by decide⟩
  · rw [if_neg h]
    by_cases h2 : lN a = lN b
    · rw [if_pos h2]
      have := e2.mp h2
      exact ⟨fun _ => by omega, fun _ => by decide⟩
    · rw [if_neg h2]
      refine ⟨fun q => absurd q (by decide), fun q => ?_⟩
      have n1 : ¬ b < a := fun z => h (e1.mpr z)
      exact absurd (e2.mpr (by omega)) h2
theorem dlt_trans {a b c : List Nat} (ha : isN a) (hb : isN b) (hc : isN c) (h1 : dlt a b) (h2 : dlt b c) : dlt a c := by
  rw [← cdl ha hc]
  have e1 := (cdl ha hb).mpr h1
  have e2 := (cdl hb hc).mpr h2
  omega
/-- where a new NAME stands in a sorted row -/
theorem bl_split {w0 : List Nat} (h0 : isN w0) : ∀ bl : List Br, (∀ e ∈ bl, isN e.2.1) → bl.Pairwise (fun a b => dlt a.2.1 b.2.1) → (∀ e ∈ bl, e.2.1 ≠ w0) → ∃ a c, bl = a ++ c ∧ (∀ e ∈ a, dlt e.2.1 w0) ∧ (∀ e ∈ c, dlt w0 e.2.1) := by
  intro bl
  induction bl with
  | nil => intro _ _ _; exact ⟨[], [], rfl, fun e h => (by cases h), fun e h => (by cases h)⟩
  | cons x l ih =>
    intro hN hP hD
    obtain ⟨p1, p2⟩ := List.pairwise_cons.mp hP
    rcases dlt_tri x.2.1 w0 with q | q | q
    · obtain ⟨a, c, e1, e2, e3⟩ := ih (fun e h => hN e (by simp [h])) p2 (fun e h => hD e (by simp [h]))
      refine ⟨x :: a, c, by rw [e1]; rfl, fun e h => ?_, e3⟩
      rcases List.mem_cons.mp h with z | z
      · rw [z]; exact q
      · exact e2 e z
    · exact (hD x (by simp) q).elim
    · refine ⟨[], x :: l, rfl, fun e h => (by cases h), fun e h => ?_⟩
      rcases List.mem_cons.mp h with z | z
      · rw [z]; exact q
      · exact dlt_trans h0 (hN x (by simp)) (hN e (by simp [z])) q (p1 e z)
theorem bl_pair {a c : List Br} {e : Br} (hP : (a ++ c).Pairwise (fun a b => dlt a.2.1 b.2.1)) (ha : ∀ x ∈ a, dlt x.2.1 e.2.1) (hc : ∀ x ∈ c, dlt e.2.1 x.2.1) : (a ++ e :: c).Pairwise (fun a b => dlt a.2.1 b.2.1) := by
  rw [List.pairwise_append] at hP ⊢
  obtain ⟨h1, h2, h3⟩ := hP
  refine ⟨h1, List.pairwise_cons.mpr ⟨hc, h2⟩, fun x hx y hy => ?_⟩
  rcases List.mem_cons.mp hy with z | z
  · rw [z]; exact ha x hx
  · exact h3 x hx y z
theorem set_mid {α : Type} (P C : List α) (x v : α) : (P ++ x :: C).set P.length v = P ++ v :: C := by
  induction P with
  | nil => rfl
  | cons p P ih => show p :: ((P ++ x :: C).set P.length v) = _; rw [ih]; rfl
theorem gI_mid (P C : List Int32) (x : Int32) : gI (P ++ x :: C) P.length = x := by
  have := gI_r P (x :: C) 0
  rw [Nat.add_zero] at this
  rw [this]; rfl
theorem gI_mid2 (P C : List Int32) (x y : Int32) : gI (P ++ x :: y :: C) (P.length + 1) = y := by
  rw [gI_r]; rfl
theorem lput_nI (l : List Int32) {n : Nat} (h : n < 2 ^ 31) (v : Int32) : lput l (nI n) v = l.set n v := by
  unfold lput
  rw [if_neg (nI_not0 h), nI_clamp h]
def nmB (e : Br) : Int32 := nI (cN e.2.1)
def tmB (e : Br) : Int32 := nI e.2.2.2.1
/-- one turn of sortLast -/
theorem sort_swap {I : iT} {k : Nat} {L : lT} (h : RS I k L) (P C P2 C2 : List Int32) (z x z2 x2 : Int32) (hl : P2.length = P.length) (hn : L 143 = P ++ z :: x :: C) (ht : L 145 = P2 ++ z2 :: x2 :: C2) (hlen : P.length < 100) (hx : x ≤ z) (from0 n : Nat) (hf : from0 ≤ P.length) : ∃ I', mX9_sortLast_10 (n + 1) I (nI from0) (nI (P.length + 1)) = mX9_sortLast_10 n I' (nI from0) (nI P.length) ∧ RS I' k (upL (upL L 143 (P ++ x :: z :: C)) 145 (P2 ++ x2 :: z2 :: C2)) ∧ (∀ b, ¬ (143 ≤ b ∧ b ≤ 146) → I' b = I b) := by
  have hk := h.1
  have m1 : nI (P.length + 1) - 1 = nI P.length := nI_pred _
  have m2 : nI (P.length + 1) + (-1) = nI P.length := by
    rw [← m1, Int32.sub_eq_add_neg]
  obtain ⟨I1, a1, a2, a3⟩ := rs_put h (a := 143) (by unfold rowA; omega) (nI (P.length + 1)) z
  have s1 : lput (L 143) (nI (P.length + 1)) z = P ++ z :: z :: C := by
    rw [lput_nI _ (by omega), hn]
    have := set_mid (P ++ [z]) C x z
    rw [List.length_append, List.append_assoc, List.append_assoc] at this
    exact this
  rw [s1] at a2
  obtain ⟨I2, b1, b2, b3⟩ := rs_put a2 (a := 145) (by unfold rowA; omega) (nI (P.length + 1)) z2
  have s2 : lput (upL L 143 (P ++ z :: z :: C) 145) (nI (P.length + 1)) z2 = P2 ++ z2 :: z2 :: C2 := by
    rw [upL_n _ _ (by decide), lput_nI _ (by omega), ht, ← hl]
    have := set_mid (P2 ++ [z2]) C2 x2 z2
    rw [List.length_append, List.append_assoc, List.append_assoc] at this
    exact this
  rw [s2] at b2
  obtain ⟨I3, c1, c2, c3⟩ := rs_put b2 (a := 143) (by unfold rowA; omega) (nI P.length) x
  have s3 : lput (upL (upL L 143 (P ++ z :: z :: C)) 145 (P2 ++ z2 :: z2 :: C2) 143) (nI P.length) x = P ++ x :: z :: C := by
    rw [upL_n _ _ (by decide), upL_s, lput_nI _ (by omega)]
    exact set_mid P (z :: C) z x
  rw [s3] at c2
  obtain ⟨I4, d1, d2, d3⟩ := rs_put c2 (a := 145) (by unfold rowA; omega) (nI P.length) x2
  have s4 : lput (upL (upL (upL L 143 (P ++ z :: z :: C)) 145 (P2 ++ z2 :: z2 :: C2)) 143 (P ++ x :: z :: C) 145) (nI P.length) x2 = P2 ++ x2 :: z2 :: C2 := by
    rw [upL_n _ _ (by decide), upL_s, lput_nI _ (by omega), ← hl]
    exact set_mid P2 (z2 :: C2) z2 x2
  rw [s4] at d2
  have eL : upL (upL (upL (upL L 143 (P ++ z :: z :: C)) 145 (P2 ++ z2 :: z2 :: C2)) 143 (P ++ x :: z :: C)) 145 (P2 ++ x2 :: z2 :: C2) = upL (upL L 143 (P ++ x :: z :: C)) 145 (P2 ++ x2 :: z2 :: C2) := by
    funext q
    by_cases e5 : q = 145
    · subst e5; rw [upL_s, upL_s]
    · rw [upL_n _ _ e5, upL_n _ _ e5]
      by_cases e3 : q = 143
      · subst e3; rw [upL_s, upL_s]
      · rw [upL_n _ _ e3, upL_n _ _ e5, upL_n _ _ e3, upL_n _ _ e3]
  rw [eL] at d2
  have g1 : mX4_at 143 I (nI (P.length + 1)) = some x := by rw [rs_g h (by unfold rowA; omega) (by omega), hn, gI_mid2]
  have g2 : mX4_at 145 I (nI (P.length + 1)) = some x2 := by rw [rs_g h (by unfold rowA; omega) (by omega), ht, ← hl, gI_mid2]
  have g3 : mX4_at 143 I (nI P.length) = some z := by rw [rs_g h (by unfold rowA; omega) (by omega), hn, gI_mid]
  have g4 : mX4_at 145 I1 (nI P.length) = some z2 := by rw [rs_g a2 (by unfold rowA; omega) (by omega), upL_n _ _ (by decide), ht, ← hl, gI_mid]
  refine ⟨I4, ?_, d2, fun b q => ?_⟩
  · rw [mX9_sortLast_10, if_neg (nI_ge (by omega) (by omega)), g1, sb, g2, sb, m1, g3, sb, if_pos hx, sb, a1, sb, g4, sb, b1, sb, c1, sb, d1, sb, m2]
  · rw [d3 b (by omega) (by omega), c3 b (by omega) (by omega), b3 b (by omega) (by omega), a3 b (by omega) (by omega)]
/-- the last draft comes to its place -/
theorem sort_ok {I : iT} {k : Nat} {L : lT} (h : RS I k L) {pn pt : List Int32} (hpt : pt.length = pn.length) {w0 : List Nat} (h0 : isN w0) (t0 : Int32) {a c : List Br} (hN : ∀ e ∈ a ++ c, isN e.2.1) (ha : ∀ e ∈ a, dlt e.2.1 w0) (hc : ∀ e ∈ c, dlt w0 e.2.1) (hn : L 143 = pn ++ (a ++ c).map nmB ++ [nI (cN w0)]) (ht : L 145 = pt ++ (a ++ c).map tmB ++ [t0]) (hlen : pn.length + (a ++ c).length < 90) :
    ∃ I', mX9_sortLast I (nI pn.length) = some I' ∧ RS I' k (upL (upL L 143 (pn ++ a.map nmB ++ nI (cN w0) :: c.map nmB)) 145 (pt ++ a.map tmB ++ t0 :: c.map tmB)) ∧ (∀ b, ¬ (143 ≤ b ∧ b ≤ 146) → I' b = I b) := by
  have hk := h.1
  have c0 := cN_lt h0.1
  have loop : ∀ (m : Nat) (c1 c2 : List Br) (I : iT) (L : lT) (n : Nat), c1.length = m → c = c1 ++ c2 → RS I k L → L 143 = pn ++ (a ++ c1).map nmB ++ nI (cN w0) :: c2.map nmB → L 145 = pt ++ (a ++ c1).map tmB ++ t0 :: c2.map tmB → m < n → ∃ I', mX9_sortLast_10 n I (nI pn.length) (nI (pn.length + (a ++ c1).length)) = some I' ∧ RS I' k (upL (upL L 143 (pn ++ a.map nmB ++ nI (cN w0) :: c.map nmB)) 145 (pt ++ a.map tmB ++ t0 :: c.map tmB)) ∧ (∀ b, ¬ (143 ≤ b ∧ b ≤ 146) → I' b = I b) := by
    intro m
    induction m with
    | zero =>
      intro c1 c2 I L n hm hcc hR h1 h2 hn'
      obtain ⟨n, rfl⟩ : ∃ m, n = m + 1 := ⟨n - 1, by omega⟩
      have e1 : c1 = [] := List.length_eq_zero_iff.mp hm
      subst e1
      rw [List.append_nil] at h1 h2 ⊢
      have e2 : c2 = c := by rw [hcc]; rfl
      rw [e2] at h1 h2
      have fin : RS I k (upL (upL L 143 (pn ++ a.map nmB ++ nI (cN w0) :: c.map nmB)) 145 (pt ++ a.map tmB ++ t0 :: c.map tmB)) := by
        have eL : upL (upL L 143 (pn ++ a.map nmB ++ nI (cN w0) :: c.map nmB)) 145 (pt ++ a.map tmB ++ t0 :: c.map tmB) = L := by
          funext q
          by_cases e5 : q = 145
          · subst e5; rw [upL_s, h2]
          · rw [upL_n _ _ e5]
            by_cases e3 : q = 143
            · subst e3; rw [upL_s, h1]
            · rw [upL_n _ _ e3]
        rw [eL]; exact hR
      rcases List.eq_nil_or_concat a with q | ⟨a', z, q⟩
      · refine ⟨I, ?_, fin, fun _ _ => rfl⟩
        rw [mX9_sortLast_10, q, if_pos (nI_le (by simp) (by omega))]
      · have q' : a = a' ++ [z] := by rw [q]; simp
        have hzz : z ∈ a := by rw [q']; simp
        have zN := hN z (by simp [hzz])
        have zlt := (cdl zN h0).mpr (ha z hzz)
        have al : a.length = a'.length + 1 := by rw [q']; simp
        have alc : a.length ≤ (a ++ c).length := by simp
        have e3 : L 143 = (pn ++ a'.map nmB) ++ nmB z :: nI (cN w0) :: c.map nmB := by rw [h1, q']; simp
        have el : (pn ++ a'.map nmB).length = pn.length + a'.length := by simp
        have g1 : mX4_at 143 I (nI (pn.length + a.length)) = some (nI (cN w0)) := by
          rw [rs_g hR (by unfold rowA; omega) (by omega), e3, show pn.length + a.length = (pn ++ a'.map nmB).length + 1 by rw [el]; omega, gI_mid2]
        have g3 : mX4_at 143 I (nI (pn.length + a.length) - 1) = some (nmB z) := by
          rw [show pn.length + a.length = (pn.length + a'.length) + 1 by omega, nI_pred, rs_g hR (by unfold rowA; omega) (by omega), e3, ← el, gI_mid]
        have hgt : ¬ nI (cN w0) ≤ nmB z := nI_ge zlt (by omega)
        refine ⟨I, ?_, fin, fun _ _ => rfl⟩
        rw [mX9_sortLast_10, if_neg (nI_ge (by omega) (by omega)), g1, sb, rs_g hR (by unfold rowA; omega) (by omega), sb, g3, sb, if_neg hgt]
    | succ m ih =>
      intro c1 c2 I L n hm hcc hR h1 h2 hn'
      obtain ⟨n, rfl⟩ : ∃ m, n = m + 1 := ⟨n - 1, by omega⟩
      rcases List.eq_nil_or_concat c1 with q | ⟨c1', z, q⟩
      · rw [q] at hm; simp at hm
      · have q' : c1 = c1' ++ [z] := by rw [q]; simp
        have hzc : z ∈ c := by rw [hcc, q']; simp
        have zN := hN z (by simp [hzc])
        have zlt := (cdl h0 zN).mpr (hc z hzc)
        have zc := cN_lt zN.1
        have cl : c1.length = c1'.length + 1 := by rw [q']; simp
        have ccl : c1.length ≤ c.length := by rw [hcc]; simp
        have e3 : L 143 = (pn ++ (a ++ c1').map nmB) ++ nmB z :: nI (cN w0) :: c2.map nmB := by rw [h1, q']; simp
        have e5 : L 145 = (pt ++ (a ++ c1').map tmB) ++ tmB z :: t0 :: c2.map tmB := by rw [h2, q']; simp
        have el : (pn ++ (a ++ c1').map nmB).length = pn.length + (a ++ c1').length := by simp
        have el2 : (pt ++ (a ++ c1').map tmB).length = (pn ++ (a ++ c1').map nmB).length := by simp; exact hpt
        have all : (a ++ c).length = a.length + c.length := by simp
        have al1 : (a ++ c1).length = a.length + c1.length := by simp
        have al2 : (a ++ c1').length = a.length + c1'.length := by simp
        obtain ⟨I1, s1, s2, s3⟩ := sort_swap hR _ _ _ _ _ _ _ _ el2 e3 e5 (by omega) (show nI (cN w0) ≤ nmB z from nI_le (by omega) (by omega)) pn.length n (by omega)
        rw [el] at s1
        obtain ⟨I2, t1, t2, t3⟩ := ih c1' (z :: c2) I1 _ n (by omega) (by rw [hcc, q']; simp) s2 (by rw [upL_n _ _ (by decide), upL_s]; rfl) (by rw [upL_s]; rfl) (by omega)
        refine ⟨I2, ?_, ?_, fun b hb => by rw [t3 b hb, s3 b hb]⟩
        · rw [show pn.length + (a ++ c1).length = pn.length + (a ++ c1').length + 1 by omega, s1]
          exact t1
        · have eL : ∀ (A A' D D' : List Int32), upL (upL (upL (upL L 143 A) 145 D) 143 A') 145 D' = upL (upL L 143 A') 145 D' := by
            intro A A' D D'
            funext x
            by_cases e5 : x = 145
            · subst e5; rw [upL_s, upL_s]
            · rw [upL_n _ _ e5, upL_n _ _ e5]
              by_cases e3 : x = 143
              · subst e3; rw [upL_s, upL_s]
              · rw [upL_n _ _ e3, upL_n _ _ e5, upL_n _ _ e3, upL_n _ _ e3]
          rw [eL] at t2
          exact t2
  have hsz : (L 143).length = pn.length + (a ++ c).length + 1 := by rw [hn]; simp; omega
  have e0 : mX9_sortLast I (nI pn.length) = mX9_sortLast_10 LF I (nI pn.length) (nI (pn.length + (a ++ c).length)) := by
    unfold mX9_sortLast
    rw [rs_size h (by unfold rowA; omega), sb, hsz, nI_pred]
  rw [e0]
  exact loop c.length c [] I L LF rfl (by simp) h (by rw [hn]; rfl) (by rw [ht]; rfl) (by have : c.length ≤ (a ++ c).length := by simp
                                                                                          unfold LF; omega)
