/-! IFS ARE GONE THROUGH, in both (pure) -/
def SFr (k : Nat) (I I' : iT) : Prop := ∀ q, q ≠ 166 → q ≠ 167 → q ≠ k + 27 → q ≠ k + 28 → I' q = I q
def SR1 (p : Nat) (R R' : lT) : Prop := (∀ a, a ≠ 166 → R' a = R a) ∧ (R' 166).length = (R 166).length ∧ ∀ j, j ≠ p → gI (R' 166) j = gI (R 166) j
theorem SFr.rfl {k : Nat} {I : iT} : SFr k I I := fun _ _ _ _ _ => Eq.refl _
theorem SFr.trans {k : Nat} {I I1 I2 : iT} (a : SFr k I I1) (b : SFr k I1 I2) : SFr k I I2 := fun q w1 w2 w3 w4 => by rw [b q w1 w2 w3 w4, a q w1 w2 w3 w4]
theorem SR1.rfl {p : Nat} {R : lT} : SR1 p R R := ⟨fun _ _ => Eq.refl _, Eq.refl _, fun _ _ => Eq.refl _⟩
theorem SR1.trans {p : Nat} {R R1 R2 : lT} (a : SR1 p R R1) (b : SR1 p R1 R2) : SR1 p R R2 := ⟨fun x w => by rw [b.1 x w, a.1 x w], by rw [b.2.1, a.2.1], fun j w => by rw [b.2.2 j w, a.2.2 j w]⟩
section
variable {k p n : Nat} {L R : lT} {I B B0 : iT} {J J0 : jT} {F : fT} {Q Rn Rc : Nat → Prop}
theorem sr1_put (v : Int32) : SR1 p R (upL R 166 ((R 166).set p v)) := ⟨fun a w => upL_n _ _ w, by rw [upL_s, List.length_set], fun j w => by rw [upL_s, gI_sn w]⟩
/-- the class settles where nobody asks for it -/
theorem se_tot (hk : k = 12 ∨ k = 73) (hE : ∀ i, EB (gI (L (k + 25)) i)) (hX : ∀ j, j < (L (k + 47)).length → EB (gI (L (k + 53)) j)) (hF : F 148 12 = k) (hp : p < 80) : ∀ (c i m : Nat) (I : iT) (R : lT), i + c = 250 → RK I k L → RN I R → ∃ I' R', mX6_settle_2 (m + c + 1) I F (nI p) (nI i) = some I' ∧ RK I' k L ∧ RN I' R' ∧ SR1 p R R' ∧ SFr k I I' := by
  intro c
  induction c with
  | zero =>
    intro i m I R hi hK hN
    exact ⟨I, R, by rw [mX6_settle_2, if_pos (show (250 : Int32) ≤ nI i from nI_le (a := 250) (by omega) (by omega))], hK, hN, SR1.rfl, SFr.rfl⟩
  | succ c ih =>
    intro i m I R hi hK hN
    have e47 : ∀ x, mX4_at (k + 47) I x = some (lat (L (k + 47)) x) := fun x => rk_at hK (by unfold rkA; omega) x
    show ∃ I' R', mX6_settle_2 (m + c + 1 + 1) I F (nI p) (nI i) = some I' ∧ _
    rw [mX6_settle_2, if_neg (show ¬ (250 : Int32) ≤ nI i from nI_ge (b := 250) (by omega) (by omega)), rn_g hN (by unfold rnA; omega) (by omega), sb, hF, e47, sb]
    by_cases q : lat (L (k + 47)) (gI (R 166) p) = 312
    · obtain ⟨t, ht, htl⟩ := lat_ch (l := L (k + 47)) (x := gI (R 166) p) (by rw [q]; decide)
      have e53 : mX4_at (k + 53) I (gI (R 166) p) = some (gI (L (k + 53)) t) := by rw [rk_at hK (by unfold rkA; omega), htl]
      obtain ⟨v, I1, a1, a2, a3, a4⟩ := nu_tot hk hK hN hE hF (hX t ht) (nI p)
      rw [if_pos q, e53, sb, a1, sb]
      have fin : ∀ w z, ∃ I' R', mX6_settle_91 (mX6_settle_2 (m + c + 1)) I1 F (nI p) (nI i) (gI (R 166) p) z w (nI p) = some I' ∧ RK I' k L ∧ RN I' R' ∧ SR1 p R R' ∧ SFr k I I' := by
        intro w z
        obtain ⟨I2, b1, b2, b3⟩ := rn_put a3 (a := 166) (by unfold rnA; omega) (j := p) (by omega) w
        have hK2 := rk_keep a2 (I' := I2) (fun a w1 w2 => b3 a (by omega) (by omega))
        obtain ⟨I3, R3, c1, c2, c3, c4, c5⟩ := ih (i + 1) m I2 _ (by omega) hK2 b2
        refine ⟨I3, R3, ?_, c2, c3, (sr1_put w).trans c4, fun q w1 w2 w3 w4 => by rw [c5 q w1 w2 w3 w4, b3 q w1 w2, a4 q w3 (by omega)]⟩
        unfold mX6_settle_91
        rw [b1, sb, nI_1]
        exact c1
      have f2 : ∀ z, ∃ I' R', mX6_settle_62 (mX6_settle_2 (m + c + 1)) I1 F (nI p) (nI i) (gI (R 166) p) z = some I' ∧ RK I' k L ∧ RN I' R' ∧ SR1 p R R' ∧ SFr k I I' := by
        intro z
        unfold mX6_settle_62
        by_cases y : z = 0
        · rw [if_pos y, hF, rk_at a2 (by unfold rkA; omega), sb]
          exact fin _ _
        · rw [if_neg y]
          exact fin _ _
      show ∃ I' R', (if v = 0 then mX6_settle_62 (mX6_settle_2 (m + c + 1)) I1 F (nI p) (nI i) (gI (R 166) p) 0 else mX6_settle_62 (mX6_settle_2 (m + c + 1)) I1 F (nI p) (nI i) (gI (R 166) p) 1) = some I' ∧ _
      by_cases y : v = 0
      · rw [if_pos y]
        exact f2 0
      · rw [if_neg y]
        exact f2 1
    · rw [if_neg q]
      exact ⟨I, R, rfl, hK, hN, SR1.rfl, SFr.rfl⟩
/-- a node of a P: an if, or not -/
theorem ph_if {X : Nat → Nat → Nat → Gm → Prop} {D : List Df} {u κ l : Nat} {Γ : Gm} (h : PH k n D L B J Q Rn Rc X u κ l Γ) : (B 188 u ≠ 52 ∧ gI (L (k + 47)) κ ≠ 312) ∨ (∃ e root f d uy un κ2 l1 l2, B 188 u = 52 ∧ gI (L (k + 47)) κ = 312 ∧ B 189 u = nI e ∧ gI (L (k + 53)) κ = nI root ∧ ER k n (nsG Γ) L B Q d e root f 28 ∧ B 190 u = nI uy ∧ J 192 u = lN un ∧ gI (L (k + 51)) κ = nI κ2 ∧ l = min l1 l2 ∧ X uy (κ + 1) l1 Γ ∧ X un κ2 l2 Γ) := by
  obtain ⟨_, _, _, _, h⟩ := h
  rcases h with ⟨_, a, b, _⟩ | ⟨_, _, _, _, a, b, _⟩ | ⟨_, _, _, _, _, _, _, _, _, a, b, _⟩ | ⟨_, _, _, _, _, a, b, _⟩ | ⟨_, _, _, _, _, _, _, a, b, _⟩ | ⟨_, _, _, _, _, _, a, b, _⟩ | ⟨_, _, _, _, _, _, _, _, _, a, b, _⟩ | ⟨_, _, _, _, _, _, a, b, _⟩ | ⟨_, _, _, _, _, _, a, b, _⟩ | ⟨_, _, _, _, a, b, _⟩ | ⟨_, _, a, b, _⟩ | ⟨_, _, _, _, _, _, a, b, _⟩ | h
  all_goals first | exact Or.inr h | (left; rw [a, b]; exact ⟨by decide, by decide⟩)
/-- what going through the ifs comes to -/
def SEc (k p : Nat) (L : lT) (N : Nat → Prop) (s : Nat → Int32) (κ κ' i m : Nat) : Prop := ∀ (I : iT) (R : lT) (F : fT) (m0 : Nat), RK I k L → RN I R → F 148 12 = k → (∀ j, N j → gI (R 176) (p * 85 + j) = s j) → gI (R 166) p = nI κ → p < (R 166).length → ∃ I' R', mX6_settle_2 (m0 + m) I F (nI p) (nI i) = some I' ∧ RK I' k L ∧ RN I' R' ∧ gI (R' 166) p = nI κ' ∧ SR1 p R R' ∧ SFr k I I'
def SEr (p n : Nat) (B0 : iT) (J0 : jT) (N : Nat → Prop) (s : Nat → Int32) (u u' m : Nat) : Prop := ∀ (B : iT) (J : jT) (m0 : Nat), VA p n B0 N s B → B 186 76 = nI 0 → B 213 p = nI u → (∀ v, J 192 v = J0 192 v) → ∃ B', mX12_settles_0 (m0 + m) B J (nI p) = some B' ∧ B' 186 76 = nI 0 ∧ B' 213 p = nI u' ∧ (∀ q i, ¬ (q = 186 ∧ i = 76) → q ≠ 229 → ¬ (q = 213 ∧ i = p) → B' q i = B q i)
theorem in80 {x : Nat} (h : x < 80) : inb (nI x) 80 := vp_in_nI h (by omega)
theorem cl80 {x : Nat} (h : x < 80) : (nI x).toNatClampNeg = x := nI_clamp (by omega)
theorem se_ok {D : List Df} {s : Nat → Int32} {Γ : Gm} (hk : k = 12 ∨ k = 73) (hp : p < 80) (hn : n ≤ 4) (hL : (L (k + 19)).length ≤ 1000) (hlen : (L (k + 47)).length ≤ 250) : ∀ (m u κ l i : Nat), i + m ≤ 250 → PR k n D L B0 J0 Q Rn Rc m u κ l Γ → ∃ u' κ' l' m', m' ≤ m ∧ PR k n D L B0 J0 Q Rn Rc m' u' κ' l' Γ ∧ B0 188 u' ≠ 52 ∧ gI (L (k + 47)) κ' ≠ 312 ∧ SEc k p L (nsG Γ) s κ κ' i m ∧ SEr p n B0 J0 (nsG Γ) s u u' m := by
  intro m
  induction m with
  | zero => intro u κ l i _ h; exact h.elim
  | succ m ih =>
    intro u κ l i hi h
    have i80 := in80 hp
    have c80 := cl80 hp
    have hu : u < 2800 := h.1
    have hκ : κ < (L (k + 47)).length := h.2.2.1
    have i28 := in28 hu
    have c28 := cl28 hu
    rcases ph_if h with ⟨q1, q2⟩ | ⟨e, root, f, d, uy, un, κ2, l1, l2, a1, a2, a3, a4, a5, a6, a7, a8, a9, a10, a11⟩
    · refine ⟨u, κ, l, m + 1, Nat.le_refl _, h, q1, q2, fun I R F m0 hK hN hF hs h166 hpl => ?_, fun B J m0 hV hc h213 hJ => ?_⟩
      · refine ⟨I, R, ?_, hK, hN, h166, SR1.rfl, SFr.rfl⟩
        show mX6_settle_2 (m0 + m + 1) I F (nI p) (nI i) = _
        rw [mX6_settle_2, if_neg (show ¬ (250 : Int32) ≤ nI i from nI_ge (b := 250) (by omega) (by omega)), rn_g hN (by unfold rnA; omega) (by omega), sb, h166, hF, rk_g hK (by unfold rkA; omega) (by omega), sb, if_neg q2]
      · refine ⟨B, ?_, hc, h213, fun _ _ _ _ _ => rfl⟩
        show mX12_settles_0 (m0 + m + 1) B J (nI p) = _
        have g213 : B 213 (nI p).toNatClampNeg = nI u := (congrArg (B 213) c80).trans h213
        have g188 : ¬ B 188 (nI u).toNatClampNeg = 52 := by rw [congrArg (B 188) c28, hV.1 188 (by omega) (by omega)]; exact q1
        rw [mX12_settles_0, if_pos i80, g213, if_pos i28, if_neg g188]
    · obtain ⟨v, hvc, hvr⟩ := no_ok (s := s) hk hp hn hL a5
      have huy : uy < 2800 ∧ κ + 1 < 2 ^ 31 := ⟨(pr_m a10).1, by omega⟩
      have hun : un < 2800 := (pr_m a11).1
      -- the ref's one turn
      have rturn : ∀ (B : iT) (J : jT) (m0 : Nat), VA p n B0 (nsG Γ) s B → B 186 76 = nI 0 → B 213 p = nI u → (∀ v, J 192 v = J0 192 v) → ∃ B', mX12_settles_0 (m0 + (m + 1)) B J (nI p) = mX12_settles_0 (m0 + m) B' J (nI p) ∧ VA p n B0 (nsG Γ) s B' ∧ B' 186 76 = nI 0 ∧ B' 213 p = (if v = 0 then nI un else nI uy) ∧ (∀ q i, ¬ (q = 186 ∧ i = 76) → q ≠ 229 → ¬ (q = 213 ∧ i = p) → B' q i = B q i) := by
        intro B J m0 hV hc h213 hJ
        obtain ⟨B1, b1, b2, b3⟩ := hvr B hV hc
        have g213 : B 213 (nI p).toNatClampNeg = nI u := (congrArg (B 213) c80).trans h213
        have g188 : B 188 (nI u).toNatClampNeg = 52 := by rw [congrArg (B 188) c28, hV.1 188 (by omega) (by omega)]; exact a1
        have g189 : B 189 (nI u).toNatClampNeg = nI e := by rw [congrArg (B 189) c28, hV.1 189 (by omega) (by omega)]; exact a3
        have g190 : B1 190 (nI u).toNatClampNeg = nI uy := by rw [congrArg (B1 190) c28, b2.1 190 (by omega) (by omega)]; exact a6
        have g192 : (J 192 (nI u).toNatClampNeg).toInt32 = nI un := by rw [congrArg (J 192) c28, hJ, a7, lN_i]
        have hV' : ∀ x, VA p n B0 (nsG Γ) s (a_u2 B1 213 p x) := fun x => ⟨fun q w1 w2 => by rw [← b2.1 q w1 w2]; exact funext fun j => a_u2_n _ _ (by omega), fun j hj => by rw [a_u2_n _ _ (by omega)]; exact b2.2 j hj⟩
        refine ⟨a_u2 B1 213 p (if v = 0 then nI un else nI uy), ?_, hV' _, by rw [a_u2_n _ _ (by omega)]; exact b3.1, a_u2_s _ _ _ _, fun q i w1 w2 w3 => by rw [a_u2_n _ _ w3]; exact b3.2.2 q i w1 w2⟩
        show mX12_settles_0 (m0 + m + 1) B J (nI p) = _
        rw [mX12_settles_0, if_pos i80, g213, if_pos i28, if_pos g188, if_pos i80, if_pos i28, g189, b1, sb]
        show (if v = 0 then if inb (nI u) 2800 then mX12_settles_58 (mX12_settles_0 (m0 + m)) B1 J (nI p) (nI u) ((J 192 (nI u).toNatClampNeg).toInt32) (nI p) else none else if inb (nI u) 2800 then mX12_settles_58 (mX12_settles_0 (m0 + m)) B1 J (nI p) (nI u) (B1 190 (nI u).toNatClampNeg) (nI p) else none) = _
        rw [g192, g190]
        unfold mX12_settles_58
        by_cases y : v = 0
        · rw [if_pos y, if_pos y, if_pos i28, if_pos i80, c80]
        · rw [if_neg y, if_neg y, if_pos i28, if_pos i80, c80]
      -- the class's
      have cturn : ∀ (I : iT) (R : lT) (F : fT) (m0 : Nat), RK I k L → RN I R → F 148 12 = k → (∀ j, nsG Γ j → gI (R 176) (p * 85 + j) = s j) → gI (R 166) p = nI κ → p < (R 166).length → ∃ I' R', mX6_settle_2 (m0 + (m + 1)) I F (nI p) (nI i) = mX6_settle_2 (m0 + m) I' F (nI p) (nI (i + 1)) ∧ RK I' k L ∧ RN I' R' ∧ (∀ j, nsG Γ j → gI (R' 176) (p * 85 + j) = s j) ∧ gI (R' 166) p = (if v = 0 then nI κ2 else nI (κ + 1)) ∧ SR1 p R R' ∧ SFr k I I' := by
        intro I R F m0 hK hN hF hs h166 hpl
        obtain ⟨I1, b1, b2, b3, b4⟩ := hvc I R F hK hN hF hs
        obtain ⟨I2, d1, d2, d3⟩ := rn_put b3 (a := 166) (by unfold rnA; omega) (j := p) (by omega) (if v = 0 then nI κ2 else nI (κ + 1))
        refine ⟨I2, _, ?_, rk_keep b2 (fun a w1 w2 => d3 a (by omega) (by omega)), d2, fun j hj => by rw [upL_n _ _ (by omega)]; exact hs j hj, by rw [upL_s]; exact gI_se hpl _, sr1_put _, fun q w1 w2 w3 w4 => by rw [d3 q w1 w2, b4 q w3 (by omega)]⟩
        show mX6_settle_2 (m0 + m + 1) I F (nI p) (nI i) = _
        rw [mX6_settle_2, if_neg (show ¬ (250 : Int32) ≤ nI i from nI_ge (b := 250) (by omega) (by omega)), rn_g hN (by unfold rnA; omega) (by omega), sb, h166, hF, rk_g hK (by unfold rkA; omega) (by omega), sb, if_pos a2, rk_g hK (by unfold rkA; omega) (by omega), sb, a4, b1, sb]
        show (if v = 0 then mX6_settle_62 (mX6_settle_2 (m0 + m)) I1 F (nI p) (nI i) (nI κ) 0 else mX6_settle_62 (mX6_settle_2 (m0 + m)) I1 F (nI p) (nI i) (nI κ) 1) = _
        unfold mX6_settle_62 mX6_settle_91
        by_cases y : v = 0
        · rw [if_pos y] at d1
          rw [if_pos y, if_pos rfl, hF, rk_g b2 (by unfold rkA; omega) (by omega), sb, a8, d1, sb, nI_1]
        · rw [if_neg y] at d1
          rw [if_neg y, if_neg (by decide), nI_1, d1, sb, nI_1]
      by_cases y : v = 0
      · obtain ⟨u', κ', l', m', e1, e2, e3, e4, e5, e6⟩ := ih un κ2 l2 (i + 1) (by omega) a11
        refine ⟨u', κ', l', m', by omega, e2, e3, e4, fun I R F m0 hK hN hF hs h166 hpl => ?_, fun B J m0 hV hc h213 hJ => ?_⟩
        · obtain ⟨I1, R1, b1, b2, b3, b4, b5, b6, b7⟩ := cturn I R F m0 hK hN hF hs h166 hpl
          rw [if_pos y] at b5
          obtain ⟨I2, R2, g1, g2, g3, g4, g5, g6⟩ := e5 I1 R1 F m0 b2 b3 hF b4 b5 (by rw [b6.2.1]; exact hpl)
          exact ⟨I2, R2, by rw [b1]; exact g1, g2, g3, g4, b6.trans g5, b7.trans g6⟩
        · obtain ⟨B1, b1, b2, b3, b4, b5⟩ := rturn B J m0 hV hc h213 hJ
          rw [if_pos y] at b4
          obtain ⟨B2, g1, g2, g3, g4⟩ := e6 B1 J m0 b2 b3 b4 hJ
          exact ⟨B2, by rw [b1]; exact g1, g2, g3, fun q i w1 w2 w3 => by rw [g4 q i w1 w2 w3, b5 q i w1 w2 w3]⟩
      · obtain ⟨u', κ', l', m', e1, e2, e3, e4, e5, e6⟩ := ih uy (κ + 1) l1 (i + 1) (by omega) a10
        refine ⟨u', κ', l', m', by omega, e2, e3, e4, fun I R F m0 hK hN hF hs h166 hpl => ?_, fun B J m0 hV hc h213 hJ => ?_⟩
        · obtain ⟨I1, R1, b1, b2, b3, b4, b5, b6, b7⟩ := cturn I R F m0 hK hN hF hs h166 hpl
          rw [if_neg y] at b5
          obtain ⟨I2, R2, g1, g2, g3, g4, g5, g6⟩ := e5 I1 R1 F m0 b2 b3 hF b4 b5 (by rw [b6.2.1]; exact hpl)
          exact ⟨I2, R2, by rw [b1]; exact g1, g2, g3, g4, b6.trans g5, b7.trans g6⟩
        · obtain ⟨B1, b1, b2, b3, b4, b5⟩ := rturn B J m0 hV hc h213 hJ
          rw [if_neg y] at b4
          obtain ⟨B2, g1, g2, g3, g4⟩ := e6 B1 J m0 b2 b3 b4 hJ
          exact ⟨B2, by rw [b1]; exact g1, g2, g3, fun q i w1 w2 w3 => by rw [g4 q i w1 w2 w3, b5 q i w1 w2 w3]⟩
end
