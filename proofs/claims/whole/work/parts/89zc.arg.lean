/-! ONE ARG, in both (pure) -/
section
variable {k h M n : Nat} {D : List Df} {F : fT} {I B : iT} {J : jT} {L : lT} {bs : List Nat} {t : Tok} {r : List Tok} {P md nest wd b z : Nat} {S : List Sl} {a6 a8 a0 : List Int32}
/-- the class adds an ARG -/
theorem ps_a59 (H : PS k h M n D F I B J L P md nest S a6 a8 a0 wd b z) (h59 : 2 * (L (k + 59)).length + 2 ≤ P) (hP : P ≤ 1000) (v : Int32) : ∃ I', mX4_add (k + 59) I v = some (nI (L (k + 59)).length, I') ∧ PS k h M n D F I' B J (upL L (k + 59) (L (k + 59) ++ [v])) P md nest S a6 a8 a0 wd b z ∧ (∀ q, ¬ (k + 59 ≤ q ∧ q ≤ k + 60) → I' q = I q) := by
  have hk := H.1.1.1
  have z7 := (lenN hk).2.2.2.2.2.2
  obtain ⟨I', e1, e2, e3⟩ := rs_add H.1.1 (a := k + 59) (by unfold rowA; omega) (by omega) v
  have hb := H.2.2.2.2.2.1
  obtain ⟨a1, a2, a3, a4⟩ := H.2.2.1
  refine ⟨I', e1, ps_L H e2 (fun c q => upL_n _ _ (by omega)) (fun q w => e3 q (by omega) (by omega)) ?_ (by rw [upL_n _ _ (by omega)]; exact hb.1) (by rw [upL_s]; simp; omega) (by rw [upL_n _ _ (by omega)]; exact hb.2.2), fun q w => e3 q (by omega) (by omega)⟩
  unfold nodL
  rw [upL_n _ _ (by omega), upL_n _ _ (by omega), upL_n _ _ (by omega), upL_n _ _ (by omega), upL_n _ _ (by omega), upL_n _ _ (by omega)]
  exact ⟨a1, a2, a3, a4⟩
/-- what one ARG is -/
def ONE (k h n : Nat) (L : lT) (B : iT) (md md8 : Nat) (S S8 : List Sl) (q : Nat × Nat) (x : Nat) : Prop :=
  (q.1 = 1 ∧ B 188 (1400 * h + md8) = 55 ∧ S8 = S ∧ ∃ e f d, B 189 (1400 * h + md8) = nI e ∧ ER k n (nsG (gm S)) L B (fun v => 1400 * h + md ≤ v ∧ v < 1400 * h + md8) d e x f 28) ∨
  (q.1 = 2 ∧ B 188 (1400 * h + md8) = 54 ∧ S8 = S.set x (0, [], 0, 0, 0) ∧ 1 ≤ x ∧ (gm S)[x]? = some (2, q.2) ∧ B 189 (1400 * h + md8) = nI (sg n x))
theorem arg_ok (hC : CR I B J bs t r) (H : PS k h M n D F I B J L t.2.2 md nest S a6 a8 a0 wd b z) (hmd : md + 1 ≤ t.2.2) {fd i : Nat} {df : Df} {q : Nat × Nat} (hd : D[fd]? = some df) (hq : df.2.1[i]? = some q) (K : iT → jT → Int32 → Int32 → Int32 → Int32 → Option (Int32 × iT × jT)) (x2 x3 : Int32) :
    ∃ q6, mX0_paramT k I (nI fd) (nI i) = some q6 ∧
    ((∃ x I' B' J', cArg I F (nI nest) q6 = some (x, I') ∧ mX12_call_149 K B J (nI fd) x2 x3 (nI i) = some (0, B', J') ∧ PL k h b I B J I' B' J') ∨
     (∃ x I8 B8 J8 t8 r8 L8 S8 md8 c6 c8 x5 x7, cArg I F (nI nest) q6 = some (nI x, I8) ∧ mX12_call_149 K B J (nI fd) x2 x3 (nI i) = mX12_call_329 K B8 J8 (nI fd) x2 x3 (nI i) x5 (nI (1400 * h + md8)) x7 ∧ CR I8 B8 J8 bs t8 r8 ∧ PS k h M n D F I8 B8 J8 L8 t8.2.2 (md8 + 1) nest S8 c6 c8 a0 wd b z ∧ B8 186 50 = B 186 50 ∧ B8 186 46 = B 186 46 ∧ md ≤ md8 ∧ B8 191 (1400 * h + md8) = -1 ∧ ONE k h n L8 B8 md md8 S S8 q x ∧ SE k L L8 ∧ (∀ a, ¬ (k + 19 ≤ a ∧ a ≤ k + 27) → L8 a = L a) ∧ (L8 (k + 19)).length + t.2.2 ≤ (L (k + 19)).length + t8.2.2 ∧ md8 + t.2.2 ≤ md + t8.2.2 ∧ t.2.2 + 1 ≤ t8.2.2 ∧ cQ k I I8 ∧ rP h md nest B J B8 J8 ∧ LK nest a6 a8 a0 c6 c8 a0)) := by
  have hk0 := H.1.1.1
  have hF := H.2.1.1
  have hDD := H.2.2.2.1
  have hbb := H.2.2.2.2.2.2.2.2
  have hh := H.1.2.2.2.2.1.1
  have h32 := H.2.1.2
  have hfd : fd < D.length := (List.getElem?_eq_some_iff.mp hd).1
  have h12 := hDD.2.2.1
  obtain ⟨x1', _, _, _, _, _, x4', x10⟩ := hDD.2.2.2 fd df hd
  have hil : i < df.2.1.length := (List.getElem?_eq_some_iff.mp hq).1
  have hP := cr_end hC
  have e45 : mX4_at (k + 45) I (nI (fd * 4 + i)) = some (gI (L (k + 45)) (fd * 4 + i)) := rs_g H.1.1 (a := k + 45) (by unfold rowA; omega) (by omega)
  have ePT : mX0_paramT k I (nI fd) (nI i) = some (gI (L (k + 45)) (fd * 4 + i)) := by
    obtain ⟨p1, p2, p3, p4⟩ := ar_pt fd (by omega) i (by omega)
    unfold mX0_paramT mX0_paramT_24
    rw [if_neg p1, if_neg p2, if_neg p3, if_neg p4, if_neg i10, ar_x, e45, sb]
  have eix : (4 * ((12 * (B 186 32)) + nI fd)) + nI i = nI (4 * (12 * h + fd) + i) := by
    have a1 : (12 : Int32) * nI h = nI (12 * h) := pk_mul 12 h
    have a2 : (4 : Int32) * nI (12 * h + fd) = nI (4 * (12 * h + fd)) := pk_mul 4 _
    rw [h32, a1, nI_add, a2, nI_add]
  have i96 : inb (nI (4 * (12 * h + fd) + i)) 96 := vp_in_nI (by omega) (by omega)
  have c96 : (nI (4 * (12 * h + fd) + i)).toNatClampNeg = 4 * (12 * h + fd) + i := nI_clamp (by omega)
  refine ⟨_, ePT, ?_⟩
  have hx := x10 i q hq
  rcases hx with ⟨g1, g2, g3⟩ | ⟨g1, g2, ut, pt, g3, g4, g5⟩
  · -- a NUMBER
    have eC : cArg I F (nI nest) (gI (L (k + 45)) (fd * 4 + i)) = mX7_readSum SF I F 0 (nI nest) := by unfold cArg; rw [if_pos g2]
    have eR : mX12_call_149 K B J (nI fd) x2 x3 (nI i) = (mX12_expression SF B J).bind fun q3 => if q3.1 = 0 then some (0, q3.2.1, q3.2.2) else (mX12_node (a_u2 q3.2.1 186 50 (B 186 50)) q3.2.2 55 ((a_u2 q3.2.1 186 50 (B 186 50)) 186 47) ((-1)) 0).bind fun q4 => mX12_call_329 K q4.2.1 q4.2.2 (nI fd) x2 x3 (nI i) (-1) q4.1 (B 186 50) := by
      unfold mX12_call_149
      rw [eix, if_pos i96, congrArg (B 199) c96, g3, if_pos rfl]
    rw [eC, eR]
    obtain ⟨x, I8, v, B7, J7, e1, e2, ho⟩ := ps_expr hC H
    rw [e1, e2, sb]
    rcases ho with ⟨rfl, hpl⟩ | ⟨rfl, root, L8, t8, r8, md8, e, d, o1, o2, o3, o4, o5, o6, o7, o8, o9, o10, o11, o12, o13⟩
    · exact Or.inl ⟨x, I8, B7, J7, rfl, by rw [if_pos rfl], hpl⟩
    · right
      have H7 := ps_49 o3 50 (by omega) (B 186 50)
      obtain ⟨B8, J8, m1, m2, m3, m4, m5, m6, m7, m8, m9, m10⟩ := ps_rnode H7 (by have := cr_end o2; omega) (by omega) 55 (nI e) (-1) 0
      have hC8 : CR I8 B8 J8 bs t8 r8 := CR_B o2 (fun j _ _ => by rw [m9 _ _ (by omega) (by omega), a_u2_n _ _ (by omega)]) (funext fun j => by rw [m9 _ _ (by omega) (by omega), a_u2_n _ _ (by omega)]) (m10 _ _ (by omega))
      have e47 : (a_u2 B7 186 50 (B 186 50)) 186 47 = nI e := by rw [a_u2_n _ _ (by omega)]; exact o5
      refine ⟨root, I8, B8, J8, t8, r8, L8, S, md8, a6, a8, -1, B 186 50, by rw [o1], ?_, hC8, m2, by rw [m9 _ _ (by omega) (by omega), a_u2_s], by rw [m9 _ _ (by omega) (by omega), a_u2_n _ _ (by omega), o13.1 _ _ (by omega) (by omega)], o8, m6, Or.inl ⟨g1, m3, rfl, e, (L (k + 19)).length, d, m4, ?_⟩, o6, o7, o9, o10, o11, cS_cQ o12, ((rS_rP o13).trans (rP_sc (by omega) _) (Nat.le_refl md) (Nat.le_refl nest)).trans (rS_rP m8) o8 (Nat.le_refl nest), lk_rfl⟩
      · rw [if_neg i10]
        show ((mX12_node (a_u2 B7 186 50 (B 186 50)) J7 55 ((a_u2 B7 186 50 (B 186 50)) 186 47) ((-1)) 0).bind _) = _
        rw [e47, m1, sb]
      · exact er_to o3.1.2.2.2.1 SE.rfl (fun w hw => ⟨by rw [m9 _ _ (by omega) (by omega), a_u2_n _ _ (by omega)], by rw [m9 _ _ (by omega) (by omega), a_u2_n _ _ (by omega)], by rw [m9 _ _ (by omega) (by omega), a_u2_n _ _ (by omega)]⟩) (fun w hw => hw) _ _ _ _ _ _ _ (Nat.le_refl _) (Nat.le_refl _) o4
  · -- a CHANNEL
    have hq2 := tr_u g5
    have hK0 := rs_K H.1.1
    have hN5 := len10 H.1.1
    have hT := H.1.2.2.1
    have eC : cArg I F (nI nest) (gI (L (k + 45)) (fd * 4 + i)) = mX3_readChannelArg I (nI q.2) := by unfold cArg; rw [g2, if_neg (nIm (by omega))]
    have eR : mX12_call_149 K B J (nI fd) x2 x3 (nI i) = refJ B J (fun _ => rBad B J 3 (B 186 4)) (fun q5 => if inb q5 128 then (mX12_alike SF B J (B 209 q5.toNatClampNeg) (nI ut)).bind fun q6 => if q6 = 0 then rBad B J 3 (B 186 4) else if inb q5 128 then (mX12_node B (a_u2 J 206 q5.toNatClampNeg 0) 54 q5 ((-1)) 0).bind fun q7 => (mX12_look0 q7.2.1 q7.2.2).bind fun q8 => mX12_call_329 K q8.1 q8.2 (nI fd) x2 x3 (nI i) (nI ut) q7.1 q5 else none else none) := by
      unfold mX12_call_149
      rw [eix, if_pos i96, congrArg (B 199) c96, g3, if_neg (nIm (by omega))]
      rfl
    rw [eC, eR]
    rcases jnm hC H.1 with ⟨I9, B9, a1, a2, a3⟩ | ⟨I3, v, I9, B9, v1, v2, v3, a1, a2, a3⟩ | ⟨u3, r3, I3, B3, J3, j, s, z1, z2, z3, z4, z5, z6, z7, z8, z9, z10, z11, z12, z13, z14, z15, z16, z17, z18, z19⟩
    · left
      obtain ⟨x, I', b1, b2⟩ := pfo_PL (fail_PL a3 (ps_scp H) (by omega)) (fun f p hf => pf_cArgR hf 0 (nI q.2) (nI t.2.2))
      refine ⟨x, I', B9, J, ?_, a2 _ _, b2⟩
      unfold mX3_readChannelArg
      rw [a1, sb, cr_8 hC]
      exact b1
    · left
      obtain ⟨x, I', b1, b2⟩ := pfo_PL (fail_PL a3 (ps_scp H) (by omega)) (fun f p hf => pf_cArg48 hf (nI q.2) (nI t.2.2) v (-1))
      refine ⟨x, I', B9, J, ?_, a2 _ _, b2⟩
      unfold mX3_readChannelArg
      rw [v1, sb, cr_8 hC, v2, sb, v3, sb, if_pos rfl, a1, sb]
      exact b1
    · have us := tr_u z19
      have eJ : mX3_readChannelArg I (nI q.2) = mX3_readChannelArg_48 I3 (nI q.2) (nI t.2.2) (nI j) (nI s.2.2.2.1) := by
        unfold mX3_readChannelArg
        rw [z3, sb, cr_8 hC, z12, sb, z13, sb, if_neg (nIm (by omega))]
      rw [eJ, z14]
      -- both refuse
      have bad3 : (nI s.2.2.2.1 = nI q.2 → j = 0) → ∃ x I' B', mX3_readChannelArg_48 I3 (nI q.2) (nI t.2.2) (nI j) (nI s.2.2.2.1) = some (x, I') ∧ rBad B J 3 (B 186 4) = some (0, B', J) ∧ PL k h b I B J I' B' J := by
        intro hj
        obtain ⟨I9, B9, a1, a2, a3⟩ := jbad2 hC (cf_RS z8 H.1.1) (cr_9 z6) (cf_FX z8) h (f := 3) (by decide) (nI t.2.2)
        obtain ⟨x, I', b1, b2⟩ := pfo_PL (fail_PL a3 (ps_scp H) (by omega)) (fun f p hf => pf_cArg67 hf (nI q.2) (nI t.2.2) (nI j) (nI s.2.2.2.1))
        refine ⟨x, I', B9, ?_, by rw [cr_4 hC]; exact rBad_ok a2, b2⟩
        unfold mX3_readChannelArg_48 mX3_readChannelArg_58
        rw [a1, sb]
        by_cases e1 : nI s.2.2.2.1 = nI q.2
        · rw [if_pos e1, hj e1, if_pos (show nI 0 = 0 from rfl), ← b1, hj e1]
        · rw [if_neg e1]; exact b1
      by_cases ej : j = 0
      · rw [if_pos ej]
        obtain ⟨x, I', B9, c1, c2, c3⟩ := bad3 (fun _ => ej)
        exact Or.inl ⟨x, I', B9, J, c1, c2, c3⟩
      · rw [if_neg ej]
        have j128 := in128 (show sg n j < 128 by omega)
        have jc := cl128 (show sg n j < 128 by omega)
        have hal := al_ok hT hK0 hN5 _ _ _ _ _ _ _ _ SF z19 g5 (by unfold SF; omega)
        rw [if_pos j128, if_pos j128, jc, z17, hal, sb]
        by_cases et : s.2.2.2.1 = q.2
        · right
          rw [if_pos et, if_neg i10]
          obtain ⟨I9, y1, y2, y3⟩ := ps_drop0 (ps_cur H z8 (rf_rfl (B := B) (J := J)) (Nat.le_refl _)) z10 (by omega)
          obtain ⟨B5, J5, m1, m2, m3, m4, m5, m6, m7, m8, m9, m10⟩ := ps_rnode y2 (by omega) (by omega) 54 (nI (sg n j)) (-1) 0
          have hC5 : CR I B5 J5 bs t r := CR_B hC (fun j _ _ => m9 _ _ (by omega) (by omega)) (funext fun j => m9 _ _ (by omega) (by omega)) (by rw [m10 _ _ (by omega), a_u2_n _ _ (by omega)])
          obtain ⟨u8, r8, I8b, B8, J8, w1, w2, w3, w4, w5, w6, w7⟩ := jadv hC5 (by omega)
          have eI : I8b = I3 := Option.some.inj (w2.symm.trans z4)
          subst eI
          have htl2 : tl t.1 = 1 := by rw [z2]; decide
          rw [htl2] at w5
          have hC8 : CR I9 B8 J8 bs u8 r8 := CR_I w4 (y3 6 (by omega)) (y3 9 (by omega)) (y3 10 (by omega)) (y3 11 (by omega))
          have H8 := ps_cur m2 (cf_rfl (I := I9)) w7 (P' := u8.2.2) (by omega)
          refine ⟨j, I9, B8, J8, u8, r8, L, S.set j (0, [], 0, 0, 0), md, _, _, nI ut, nI (sg n j), ?_, ?_, hC8, H8, by rw [w7.1 _ _ (by omega), m9 _ _ (by omega) (by omega)], by rw [w7.1 _ _ (by omega), m9 _ _ (by omega) (by omega)], Nat.le_refl _, by rw [w7.1 _ _ (by omega)]; exact m6, Or.inr ⟨g1, by rw [w7.1 _ _ (by omega)]; exact m3, rfl, by omega, by rw [gm_get z10, z11, et], by rw [w7.1 _ _ (by omega)]; exact m4⟩, SE.rfl, fun _ _ => rfl, by omega, by omega, w5, (cf_cQ w6).trans (fun c w1 w2 w3 => y3 c (by omega)), ((rP_206 (sg n j) 0).trans (rS_rP m8) (Nat.le_refl md) (Nat.le_refl nest)).trans (rf_rP w7) (Nat.le_refl md) (Nat.le_refl nest), by repeat (first | exact lk_rfl | apply lk_6 | apply lk_8 | apply lk_0)⟩
          · unfold mX3_readChannelArg_48 mX3_readChannelArg_67
            rw [if_pos (by rw [et]), if_neg (nI_ne0 (by omega) (by omega)), y1, sb]
          · rw [m1, sb]
            show ((mX12_look0 B5 J5).bind _) = _
            rw [w3, sb]
        · rw [if_neg et, if_pos rfl]
          obtain ⟨x, I', B9, c1, c2, c3⟩ := bad3 (fun z => (et ((nI_eq (by omega) (by omega)).mp z)).elim)
          exact Or.inl ⟨x, I', B9, J, c1, c2, c3⟩
end
