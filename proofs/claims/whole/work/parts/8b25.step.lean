/-! advance against step; run (pure) -/
theorem m1_lt {n : Nat} (h : n < 2 ^ 31) : (-1 : Int32) < nI n := by
  rw [Int32.lt_iff_toInt_lt, nI_toInt h]
  have e : (-1 : Int32).toInt = -1 := by decide
  rw [e]
  omega
theorem gI_map {l : List Nat} {j y : Nat} (h : l[j]? = some y) : gI (l.map nI) j = nI y := by
  unfold gI
  rw [List.getD_eq_getElem?_getD, List.getElem?_map, h]
  rfl
theorem gI_out {l : List Int32} {j : Nat} (h : l.length ≤ j) : gI l j = -1 := by
  unfold gI
  rw [List.getD_eq_getElem?_getD, List.getElem?_eq_none h]
  rfl
/-- a run, and who is ready -/
def RUNR (k h md : Nat) (D : List Df) (L : lT) (B0 : iT) (J0 : jT) (F : fT) (I B : iT) (J : jT) : Prop := ∃ (sp : Int32) (np nm dn sd : Nat) (R : lT), RUN sp k h md D L B0 J0 F I B J np nm dn sd R (fun _ => True) ∧ ((sp = 0 ∧ R 180 = (rdF (rdB R B) 0 np).map nI) ∨ (sp = 1 ∧ R 180 = []))
section
variable {sp : Int32} {k h md : Nat} {D : List Df} {L : lT} {B0 : iT} {J0 : jT} {F : fT} {I B : iT} {J : jT} {np nm dn sd : Nat} {R : lT} {z : Nat → Prop}
theorem run_65 (H : RUN sp k h md D L B0 J0 F I B J np nm dn sd R z) : B 186 65 = sp ∧ I 148 15 = sp := by
  have s7 := H.2.2.2.2.2.2.1
  have e := s7.2.2.2.2.2.2.2.2.2.2.2
  exact ⟨e, by rw [s7.2.2.2.2.2.2.2.2.2.2.1]; exact e⟩
theorem which_ok (H : RUN sp k h md D L B0 J0 F I B J np nm dn sd R z) (hc : (sp = 0 ∧ R 180 = (rdF (rdB R B) 0 np).map nI) ∨ (sp = 1 ∧ R 180 = [])) (x1 : Int32) : ∃ r, mX4_at 180 I x1 = some r ∧ mX12_which B x1 = some r ∧ (r = -1 ∨ (sp = 0 ∧ ∃ p, r = nI p ∧ p < np ∧ rdB R B p = true)) ∧ (∀ j, j < (R 180).length → x1 = nI j → r ≠ -1) ∧ mX12_ready B = some (nI (R 180).length) ∧ (R 180).length ≤ 80 := by
  have h80 := run_80 H
  obtain ⟨hK, hN, hPC⟩ := run_RK H
  have h33 : B 186 33 = 1 := H.2.1.2.2.2.1
  have h65 := (run_65 H).1
  have hat : mX4_at 180 I x1 = some (lat (R 180) x1) := rn_at hN (by unfold rnA; omega) x1
  rcases hc with ⟨rfl, h180⟩ | ⟨rfl, h180⟩
  · have hl := rdF_len (rdB R B) np 0
    have hrd := rdy_ok H h65
    have hlen : (R 180).length = (rdF (rdB R B) 0 np).length := by rw [h180, List.length_map]
    rw [hlen]
    have hw0 : mX12_which B x1 = (mX12_isIn x1 0 (nI (rdF (rdB R B) 0 np).length - 1)).bind fun q3 => if q3 = 0 then some ((-1)) else mX12_which_20 LF B x1 ((-1)) 0 := by
      unfold mX12_which
      rw [hrd, sb]
    rcases i32_cases x1 with hx | ⟨j, hj, rfl⟩
    · refine ⟨-1, by rw [hat, lat_neg hx], ?_, Or.inl rfl, fun j hj e => ?_, hrd, by omega⟩
      · rw [hw0]
        unfold mX12_isIn
        rw [if_pos hx, sb, if_pos rfl]
      · rw [e] at hx
        exact absurd hx (nI_not0 (by omega))
    · rw [lat_g hj] at hat
      by_cases c : j < (rdF (rdB R B) 0 np).length
      · have e0 : (rdF (rdB R B) 0 np)[j]? = some (rdF (rdB R B) 0 np)[j] := List.getElem?_eq_getElem c
        obtain ⟨y, ey⟩ : ∃ y, (rdF (rdB R B) 0 np)[j] = y := ⟨_, rfl⟩
        rw [ey] at e0
        have hm := rdF_mem (rdB R B) np 0 y (by rw [← ey]; exact List.getElem_mem c)
        have hw := w20 H j 0 np 0 j (LF - j - 2) y (-1) (by omega) rfl (by omega) (by omega) e0
        have e1 : LF - j - 2 + j + 2 = LF := by unfold LF; omega
        rw [e1] at hw
        refine ⟨nI y, by rw [hat, h180, gI_map e0], ?_, Or.inr ⟨rfl, y, rfl, by omega, hm.2.2⟩, fun _ _ _ => nIm (by omega), hrd, by omega⟩
        rw [hw0]
        unfold mX12_isIn
        rw [if_neg (nI_not0 hj), nI_sub1 (by omega), if_neg (Int32.not_lt.mpr (nI_le (by omega) (by omega))), sb, if_neg (by decide)]
        exact hw
      · refine ⟨-1, by rw [hat, gI_out (by omega)], ?_, Or.inl rfl, fun j' hj' e => ?_, hrd, by omega⟩
        · have e1 : nI (rdF (rdB R B) 0 np).length - 1 < nI j := by
            by_cases c0 : (rdF (rdB R B) 0 np).length = 0
            · rw [c0]
              have : nI 0 - 1 = (-1 : Int32) := by decide
              rw [this]
              exact m1_lt hj
            · rw [nI_sub1 (by omega)]
              exact nI_lt (by omega) hj
          rw [hw0]
          unfold mX12_isIn
          rw [if_neg (nI_not0 hj), if_pos e1, sb, if_pos rfl]
        · have := (nI_eq hj (by omega)).mp e
          omega
  · have hrd : mX12_ready B = some 0 := by
      unfold mX12_ready
      rw [h33, if_neg (by decide), h65, if_neg (by decide)]
    rw [h180] at hat
    refine ⟨-1, ?_, ?_, Or.inl rfl, fun j hj _ => ?_, by rw [h180]; exact hrd, by rw [h180]; exact Nat.zero_le _⟩
    · rcases i32_cases x1 with hx | ⟨j, hj, rfl⟩
      · rw [hat, lat_neg hx]
      · rw [hat, lat_g hj]; rfl
    · unfold mX12_which mX12_isIn
      rw [hrd, sb]
      rcases i32_cases x1 with hx | ⟨j, hj, rfl⟩
      · rw [if_pos hx, sb, if_pos rfl]
      · have : (0 : Int32) - 1 = -1 := by decide
        rw [if_neg (nI_not0 hj), this, if_pos (m1_lt hj), sb, if_pos rfl]
    · rw [h180] at hj; exact absurd hj (Nat.not_lt_zero _)
/-- it is SPENT now -/
theorem sp_ok (H : RUN 0 k h md D L B0 J0 F I B J np nm dn sd R z) : ∃ I' R', mX4_clear 180 (a_u2 I 148 15 1) = some I' ∧ RUN 1 k h md D L B0 J0 F I' (a_u2 B 186 65 1) J np nm dn sd R' z ∧ R' 180 = [] := by
  obtain ⟨s1, s2, s3, s4, s5, s6, s7, s8, Γ, ch, rl, dp, ow, Gt, Ht, q, mr, rk, t1, t2, t3, t4, t5, t6⟩ := H
  have hk := s4.1
  have hN0 : RN (a_u2 I 148 15 1) R := rn_keep s5 (fun a w1 w2 => funext fun i => a_u2_n _ _ (by omega))
  have hK0 : RK (a_u2 I 148 15 1) k L := rk_keep s4 (fun a w1 w2 => funext fun i => a_u2_n _ _ (by omega))
  obtain ⟨I1, a1, a2, a3⟩ := rn_clear hN0 (a := 180) (by unfold rnA; omega)
  obtain ⟨⟨z1, z2, z3, z4, z5, z6, z7⟩, z8⟩ := s6
  obtain ⟨n1, n2, n3, n4, n5, n6, n7, n8, n9, n10, n11, n12⟩ := s7
  obtain ⟨R1, hR1⟩ : ∃ X, X = upL R 180 [] := ⟨_, rfl⟩
  rw [← hR1] at a2
  have hR : ∀ a, a ≠ 180 → R1 a = R a := fun a w => by rw [hR1, upL_n _ _ w]
  have fB : ∀ q i, ¬ (q = 186 ∧ i = 65) → a_u2 B 186 65 1 q i = B q i := fun q i w => a_u2_n _ _ w
  have f148 : ∀ i, i ≠ 15 → I1 148 i = I 148 i := fun i hi => by rw [a3 148 (by omega) (by omega), a_u2_n _ _ (by omega)]
  have e15 : I1 148 15 = 1 := by rw [a3 148 (by omega) (by omega), a_u2_s]
  rw [← hR 158 (by omega), ← hR 160 (by omega), show (fun x => gI (R 168) x = 0) = (fun x => gI (R1 168) x = 0) by rw [hR 168 (by omega)]] at t1
  refine ⟨I1, R1, a1, ⟨s1, ⟨fun q w1 w2 => ?_, s2.2.1, by rw [fB _ _ (by omega)]; exact s2.2.2.1, by rw [fB _ _ (by omega)]; exact s2.2.2.2.1, by rw [fB _ _ (by omega)]; exact s2.2.2.2.2⟩, s3, rk_keep hK0 (fun a w1 w2 => a3 a (by omega) (by omega)), a2, ⟨⟨by rw [hR 164 (by omega)]; exact z1, by rw [hR 166 (by omega)]; exact z2, by rw [hR 168 (by omega)]; exact z3, by rw [hR 170 (by omega)]; exact z4, by rw [hR 172 (by omega)]; exact z5, by rw [hR 174 (by omega)]; exact z6, by rw [hR 176 (by omega)]; exact z7⟩, fun y hy => ?_⟩, ⟨by rw [fB _ _ (by omega)]; exact n1, by rw [fB _ _ (by omega)]; exact n2, by rw [f148 _ (by omega)]; exact n3, by rw [fB _ _ (by omega)]; exact n4, n5, n6, by rw [fB _ _ (by omega)]; exact n7, by rw [f148 _ (by omega)]; exact n8, by rw [fB _ _ (by omega)]; exact n9, n10, by rw [e15, a_u2_s], a_u2_s _ _ _ _⟩, ?_, Γ, ch, rl, dp, ow, Gt, Ht, q, mr, rk, t1, chc_keep t2 (hR 150 (by omega)) (fun i => fB _ _ (by omega)), fun x hx => by rw [hR 168 (by omega)]; exact t3 x hx, chl_keep t4 (fun a _ _ => hR a (by omega)), qal_keep t5 (fun a _ _ => hR a (by omega)) (fun a i _ _ => fB _ _ (by omega)) (fun _ => rfl), fun y hy hal => ?_⟩, by rw [hR1, upL_s]⟩
  · rw [← s2.1 q w1 w2]
    exact funext fun i => fB _ _ (by omega)
  · rw [hR 168 (by omega), hR 170 (by omega), hR 174 (by omega), hR 164 (by omega), hR 172 (by omega), hR 176 (by omega), fB 219 _ (by omega), fB 215 _ (by omega), fB 216 _ (by omega), fB 214 _ (by omega), fB 212 _ (by omega), fB 217 _ (by omega)]
    exact z8 y hy
  · unfold SAI
    rw [hR 182 (by omega), hR 184 (by omega)]
    refine ⟨s8.1, s8.2.1, fun i hi => ?_⟩
    rw [fB _ _ (by omega), fB _ _ (by omega)]
    exact s8.2.2 i hi
  · rw [hR 168 (by omega)] at hal
    exact prc_keep (σ := id) (t6 y hy hal) (fun f e hf => (bk_def s1 hf).2.1) (by rw [hR 164 (by omega)]) (by rw [hR 166 (by omega)]) (fB _ _ (by omega)) (fun i _ => by rw [hR 176 (by omega)]) (fun i _ => fB _ _ (by omega)) (Nat.le_refl _) (fun _ _ => rfl) (fun _ _ _ => rfl) (fun h => h)
theorem ph_new {n u κ l : Nat} {D : List Df} {G : Gm} {X : Nat → Nat → Nat → Gm → Prop} {Q Rn Rc : Nat → Prop} (h : PH k n D L B0 J0 Q Rn Rc X u κ l G) : B0 188 u = 48 ↔ gI (L (k + 47)) κ = 309 := by
  obtain ⟨_, _, _, _, h⟩ := h
  rcases h with ⟨_, a, b, _⟩ | ⟨_, _, _, _, a, b, _⟩ | ⟨_, _, _, _, _, _, _, _, _, a, b, _⟩ | ⟨_, _, _, _, _, a, b, _⟩ | ⟨_, _, _, _, _, _, _, a, b, _⟩ | ⟨_, _, _, _, _, _, a, b, _⟩ | ⟨_, _, _, _, _, _, _, _, _, a, b, _⟩ | ⟨_, _, _, _, _, _, a, b, _⟩ | ⟨_, _, _, _, _, _, a, b, _⟩ | ⟨_, _, _, _, a, b, _⟩ | ⟨_, _, a, b, _⟩ | ⟨_, _, _, _, _, _, a, b, _⟩ | ⟨_, _, _, _, _, _, _, _, _, a, b, _⟩
  all_goals rw [a, b]; decide
theorem step_ok (H : RUNR k h md D L B0 J0 F I B J) (x1 : Int32) : ∃ r I' B' J', mX6_advance I F x1 = some (r, I') ∧ mX12_step B J x1 = some (r, B', J') ∧ RUNR k h md D L B0 J0 F I' B' J' ∧ (r = -1 → mX4_size 180 I' = some 0 ∨ ∀ j n, mX4_size 180 I = some (nI n) → n ≤ 80 → j < n → x1 ≠ nI j) := by
  have H0 := H
  obtain ⟨sp, np, nm, dn, sd, R, H, hc⟩ := H
  have h80 := run_80 H
  obtain ⟨hK, hN, hPC⟩ := run_RK H
  have hk := hK.1
  have hF := H.2.2.1
  obtain ⟨r, w1, w2, w3, w4, w5, w6⟩ := which_ok H hc x1
  have hsz : mX4_size 180 I = some (nI (R 180).length) := rn_size hN (by unfold rnA; omega)
  rcases w3 with rfl | ⟨rfl, p, rfl, hp, hP⟩
  · refine ⟨-1, I, B, J, ?_, ?_, H0, fun _ => Or.inr (fun j n hn h8 hj e => ?_)⟩
    · unfold mX6_advance
      rw [w1, sb, if_pos rfl]
    · unfold mX12_step
      rw [w2, sb, if_pos rfl]
    · rw [hsz] at hn
      have := (nI_eq (by omega) (by omega)).mp (Option.some.inj hn)
      exact w4 j (by omega) e rfl
  · unfold rdB at hP
    have hP' := Bool.and_eq_true_iff.mp hP
    have hal : gI (R 168) p = 0 := of_decide_eq_true hP'.1
    have hw : mX12_waits B (nI p) = some 0 := of_decide_eq_true hP'.2
    have hsc := H.2.2.2.2.2.2.1
    -- the node
    obtain ⟨s1, s2, s3, s4, s5, s6, s7, s8, Γ, ch, rl, dp, ow, Gt, Ht, q, mr, rk, t1, t2, t3, t4, t5, t6⟩ := id H
    obtain ⟨f, e, u, κ, l, m, Q, Rn, Rc, a1, a2, a3, a4, a5, a6, a7, a8, a9, a10, a11, a12⟩ := t6 p hp hal
    obtain ⟨m, rfl⟩ : ∃ y, m = y + 1 := by
      cases m with
      | zero => exact a5.elim
      | succ m => exact ⟨m, rfl⟩
    have hu : u < 2800 := a5.1
    have hκ : κ < 2 ^ 31 := by
      have := a5.2.2.1
      have := s1.2.2.2.2.2.2.2.2.1.2.1
      omega
    have hnew := ph_new a5
    have e213 : B 213 (nI p).toNatClampNeg = nI u := by rw [congrArg (B 213) (cl80 (show p < 80 by omega))]; exact a4
    have e188 : B 188 (nI u).toNatClampNeg = B0 188 u := by rw [congrArg (B 188) (cl28 hu), s2.1 188 (by omega) (by omega)]
    -- both sides
    have cA : mX6_advance I F x1 = (if gI (L (k + 47)) κ = 309 then mX6_advance_45 I F x1 (nI p) 1 else mX6_advance_45 I F x1 (nI p) 0) := by
      unfold mX6_advance
      rw [w1, sb, if_neg (nIm (by omega)), rn_g hN (by unfold rnA; omega) (by omega), sb, a3, hF, rk_g hK (by unfold rkA; omega) hκ, sb]
    have rA : mX12_step B J x1 = (if nI dn = 600 then mX12_step_48 B J x1 (nI p) else if B0 188 u = 48 then if nI np = 80 then mX12_step_48 B J x1 (nI p) else mX12_step_55 B J x1 (nI p) else mX12_step_55 B J x1 (nI p)) := by
      unfold mX12_step
      rw [w2, sb, if_neg (nIm (by omega)), hsc.2.2.2.1, if_pos (in80 (by omega)), e213, if_pos (in28 hu), e188, hsc.1]
    have c600 : (nI dn = 600) = (dn = 600) := by
      have := nI_eq (a := dn) (b := 600) (by have := hsc.2.2.2.2.1; omega) (by omega)
      exact propext this
    have c80' : (nI np = 80) = (np = 80) := by
      have := nI_eq (a := np) (b := 80) (by omega) (by omega)
      exact propext this
    have spent : ∀ y : Int32, ∃ r I' B' J', mX6_advance_69 I F x1 (nI p) y = some (r, I') ∧ mX12_step_48 B J x1 (nI p) = some (r, B', J') ∧ RUNR k h md D L B0 J0 F I' B' J' ∧ (r = -1 → mX4_size 180 I' = some 0 ∨ ∀ j n, mX4_size 180 I = some (nI n) → n ≤ 80 → j < n → x1 ≠ nI j) := by
      intro y
      obtain ⟨I', R', b1, b2, b3⟩ := sp_ok H
      refine ⟨-1, I', a_u2 B 186 65 1, J, ?_, rfl, ⟨1, np, nm, dn, sd, R', b2, Or.inr ⟨rfl, b3⟩⟩, fun _ => Or.inl ?_⟩
      · unfold mX6_advance_69
        rw [b1, sb]
      · rw [rn_size (run_RK b2).2.1 (by unfold rnA; omega), b3]; rfl
    have core : ∀ y : Int32, dn < 600 → (gI (L (k + 47)) κ = 309 → np < 80) → ∃ r I' B' J', mX6_advance_83 I F x1 (nI p) y = some (r, I') ∧ mX12_step_55 B J x1 (nI p) = some (r, B', J') ∧ RUNR k h md D L B0 J0 F I' B' J' ∧ (r = -1 → mX4_size 180 I' = some 0 ∨ ∀ j n, mX4_size 180 I = some (nI n) → n ≤ 80 → j < n → x1 ≠ nI j) := by
      intro y hd hn
      obtain ⟨I1, B1, J1, R1, np', nm', sd', b1, b2, b3⟩ := core_ok H hp hal hw hd (fun κ' e1 e2 e3 => by
        have : κ' = κ := by
          rw [a3] at e1
          exact ((nI_eq hκ e2).mp e1).symm
        subst this
        exact hn e3) x1 y x1
      obtain ⟨I', R', c1, c2, c3, _, _⟩ := fr_ok b3
      refine ⟨nI p, I', B1, J1, ?_, b2, ⟨0, np', nm', dn + 1, sd', R', c2, Or.inl ⟨rfl, c3⟩⟩, fun y => absurd y (nIm (by omega))⟩
      rw [b1, c1, sb]
    have e14 : I 148 14 = nI dn := hsc.2.2.1
    rw [cA, rA]
    unfold mX6_advance_45
    rw [e14]
    by_cases d6 : dn = 600
    · rw [if_pos (show nI dn = 600 by rw [c600]; exact d6), if_pos (show (600 : Int32) ≤ nI dn from nI_le (a := 600) (by omega) (by omega)), if_pos (show (600 : Int32) ≤ nI dn from nI_le (a := 600) (by omega) (by omega))]
      by_cases c : gI (L (k + 47)) κ = 309
      · rw [if_pos c]; exact spent _
      · rw [if_neg c]; exact spent _
    · have hd : dn < 600 := by have := hsc.2.2.2.2.1; omega
      rw [if_neg (show ¬ nI dn = 600 by rw [c600]; exact d6), if_neg (show ¬ (600 : Int32) ≤ nI dn from nI_ge (b := 600) (by omega) (by omega)), if_neg (show ¬ (600 : Int32) ≤ nI dn from nI_ge (b := 600) (by omega) (by omega))]
      by_cases c : gI (L (k + 47)) κ = 309
      · rw [if_pos c, if_pos (hnew.mpr c), if_neg (by decide), made_ok H, sb]
        by_cases c8 : np = 80
        · rw [if_pos (show nI np = 80 by rw [c80']; exact c8), if_neg (show ¬ nI np < 80 from Int32.not_lt.mpr (show (80 : Int32) ≤ nI np from nI_le (a := 80) (by omega) (by omega)))]
          exact spent _
        · rw [if_neg (show ¬ nI np = 80 by rw [c80']; exact c8), if_pos (show nI np < 80 from nI_lt (b := 80) (by omega) (by omega))]
          exact core _ hd (fun _ => by omega)
      · rw [if_neg c, if_neg (fun y => c (hnew.mp y)), if_pos rfl]
        exact core _ hd (fun y => absurd y c)
end
