/-! CASE (pure) -/
def WO1 (k h M n : Nat) (D : List Df) (F : fT) (I B : iT) (J : jT) (L : lT) (bs : List Nat) (P md nest : Nat) (S : List Sl) (a6 a8 a0 : List Int32) (wd b : Nat) (oc : Option (Int32 × iT)) (or : Option (Int32 × iT × jT)) : Prop :=
  ∃ x I' v B' J', oc = some (x, I') ∧ or = some (v, B', J') ∧ ((v = 0 ∧ PL k h (b + 1) I B J I' B' J') ∨ (v = 1 ∧ ∃ l, x = nI l ∧ ∀ w0, w0 + 1 = wd → WG k h M n D F I B J L bs P md nest (gm S) a6 a8 a0 w0 b I' B' J' (l + 1)))
section
variable {k h M n : Nat} {D : List Df} {F : fT} {I B : iT} {J : jT} {L : lT} {bs : List Nat} {t : Tok} {r : List Tok} {P md nest wd b z : Nat} {S : List Sl} {a6 a8 a0 c6 c8 c0 : List Int32}
/-- behind the { of a case -/
theorem case2 {Rc Rc2 : sc_3readAlternativeT} {Rr Rr2 : sc_12actT} (h1 : Rc.1 = bX3_readAlternative Rc2) (hP : HP k h M n D F bs b (nest + 1) Rc2.2.2.2.2 Rr2.2.2.2) (hcc : ∀ f p b I x, PF k f p b I → Rc2.2.2.2.2 I F x = some (-1, I)) (H : PS k h M n D F I B J L P md nest S a6 a8 a0 wd b 0) {i : Nat} {s : Sl} (hs : S[i]? = some s) (hs2 : s.1 = 2) {kd f : Nat} {brs : List Br} (hk : gI (L (k + 2)) s.2.2.2.1 = nI kd) (hki : nI kd = (if i = 0 then 38 else 43)) (hkd : kd = 43 ∨ kd = 38)
    {I8 B8 : iT} {J8 : jT} (hcho : CHO k (caL k L i f brs.length) B8 J8 (fun v => 1400 * h ≤ v ∧ v < M) s.2.2.1 s.2.2.2.1 f brs) (hC8 : CR I8 B8 J8 bs t r) (H8 : PT k h M n D F I8 B8 J8 (caL k L i f brs.length) t.2.2 md (nest + 1) nest S a6 a8 a0 wd b 0) (hPt : P + 6 ≤ t.2.2) (hcw : cW k I I8) (hrp : rP h md nest B J B8 J8) (x3 x4 : Int32) :
    WO1 k h M n D F I B J L bs P md nest S a6 a8 a0 wd b (mX3_readCase_119 Rc LF I8 F (nI nest) (nI (L (k + 47)).length) x3 x4 (nI brs.length) 80 0 0) (((mX12_node B8 J8 47 (nI (sg n i)) (-1) 0).bind fun q18 => (mX12_save q18.2.1 q18.2.2 (q18.2.1 186 45)).bind fun q19 => mX12_cases_67 Rr2 LF q19.1 q19.2 (nI (sg n i)) (nI s.2.2.1) q18.1 (q18.2.1 186 45) (q18.2.1 186 43) (-1)).bind fun q2 => mX12_act_38 Rr q2.2.1 q2.2.2 108 q2.1) := by
  have hk0 := H.1.1.1
  have hnod := H.2.2.1
  have hb6 := hcho.2.2.2.2.2.1
  have bb := H.1.2.2.2.2.2.2.2
  have bn := H.2.2.2.2.2.1
  have hbb := H.2.2.2.2.2.2.2.2
  have hend := cr_end hC8
  have hh := H.1.2.2.2.2.1
  obtain ⟨B9, J9, n1, H9, n3, n4, n5, n6, n7, n8, n9, n10⟩ := pt_rnode H8 (by omega) (by omega) 47 (nI (sg n i)) (-1) 0
  obtain ⟨B10, J10, v1, H10, v3, v4, v5⟩ := pt_save H9
  have e45 : B9 186 45 = nI (nest + 1) := H9.1.2.2.2.2.2.2.1.1
  have e43 : B9 186 43 = nI S.length := H9.1.2.2.2.2.2.1.2.1.2.2.2.2.2.2
  have hC10 : CR I8 B10 J10 bs t r := CR_B (CR_B hC8 (fun j _ _ => n9 _ _ (by omega) (by omega)) (funext fun j => n9 _ _ (by omega) (by omega)) (n10 _ _ (by omega))) (fun j _ _ => v4 _ _ (by omega)) (funext fun j => v4 _ _ (by omega)) (v5 _ _ (by omega))
  have fB : ∀ c v, 188 ≤ c → c ≤ 191 → v ≠ 1400 * h + md → B10 c v = B8 c v := fun c v w1 w2 w3 => by rw [v4 c v (by omega), n9 c v (by omega) (by omega)]
  have fB' : ∀ c v, 188 ≤ c → c ≤ 191 → B10 c v = B9 c v := fun c v w1 w2 => v4 c v (by omega)
  have fJ : ∀ v, v ≠ 1400 * h + md → J10 192 v = J8 192 v := fun v w3 => by rw [v5 192 v (by omega), n10 192 v (by omega)]
  have hok := (sr_cp H10.1.2.2.2.2.2.1).2
  have hQs : 1400 * h ≤ s.2.2.1 ∧ s.2.2.1 < M := (tr_u ((hok.2.2.2.2.1 i s hs).2.2 hs2).2).2.1
  have hcho10 : CHO k (caL k L i f brs.length) B10 J10 (fun v => 1400 * h ≤ v ∧ v < M) s.2.2.1 s.2.2.2.1 f brs := cho_to H8.1.2.2.1 (fun _ _ _ => rfl) hQs (fun v hv => by
    have w : v ≠ 1400 * h + md := by omega
    exact ⟨fB _ _ (by decide) (by decide) w, fB _ _ (by decide) (by decide) w, fB _ _ (by decide) (by decide) w, fB _ _ (by decide) (by decide) w, fJ _ w⟩) hcho
  have hbl0 : B10 190 (1400 * h + md) = -1 := by rw [fB' _ _ (by decide) (by decide)]; exact n5
  have hpg0 : PG0 k L (caL k L i f brs.length) P t.2.2 md (md + 1) := caL_pg hnod hPt (by have := hcho.2.2.2.2.2.1; omega)
  have l55 : (caL k L i f brs.length (k + 55)).length = (L (k + 55)).length + brs.length := by rw [caL_55, List.length_append, nmL_len]
  have l47 : (caL k L i f brs.length (k + 47)).length = (L (k + 47)).length + 1 := by rw [caL_47, List.length_append]; rfl
  have hn57 : (L (k + 57)).length = (L (k + 55)).length := hnod.2.2.2
  have HCI : CAi k h M n D F nest b S i s f brs (L (k + 47)).length (1400 * h + md) I B J L P md wd a6 a8 a0 I8 B10 J10 (caL k L i f brs.length) t.2.2 (md + 1) wd a6 a8 a0 [] 0 1 := by
    refine ⟨⟨pt_pu H10, hok, v3, by omega, hcho10⟩, ⟨rfl, by rw [caL_47, gI_e]; rfl, by rw [caL_49 hnod, gI_la hnod.1], by rw [caL_51 hnod, gI_la hnod.2.1], by rw [caL_53 hnod, gI_la hnod.2.2.1]⟩, ⟨by omega, fun j e' he' => ?_⟩, ⟨rfl, by omega, by omega, by rw [fB' _ _ (by decide) (by decide)]; exact n3, by rw [fB' _ _ (by decide) (by decide)]; exact n4⟩, ⟨hbl0, List.nodup_nil, List.nodup_nil⟩, fun j e' he' => ⟨fun _ e he => absurd he (List.not_mem_nil), fun _ => ?_⟩, fun e he => absurd he (List.not_mem_nil), by omega, hpg0, by rw [l55, List.length_nil]; omega, ⟨Nat.le_refl _, fun e he => absurd he (List.not_mem_nil)⟩, hcw, ?_, lk_rfl⟩
    · have hj : j < brs.length := (List.getElem?_eq_some_iff.mp he').1
      obtain ⟨z1, z2, z3, z4, z5, z6⟩ := hcho.2.2.2.2.2.2.2.2.2 j e' he'
      rw [caL_55, gI_r, nmL_g hj, ← z3, caL_n (by omega)]
    · rw [caL_57, ← hn57, gI_r, gI_rep]
    · exact (hrp.trans (rS_rP n8) (Nat.le_refl md) (Nat.le_refl nest)).trans ⟨fun c v w1 w2 w3 w4 => v4 c v (by omega), fun c v w1 w2 w3 w4 => v5 c v (by omega)⟩ (Nat.le_refl md) (Nat.le_refl nest)
  have eR : ((mX12_node B8 J8 47 (nI (sg n i)) (-1) 0).bind fun q18 => (mX12_save q18.2.1 q18.2.2 (q18.2.1 186 45)).bind fun q19 => mX12_cases_67 Rr2 LF q19.1 q19.2 (nI (sg n i)) (nI s.2.2.1) q18.1 (q18.2.1 186 45) (q18.2.1 186 43) (-1)) = mX12_cases_77 Rr2 (mX12_cases_67 Rr2 99999) B10 J10 (nI (sg n i)) (nI s.2.2.1) (nI (1400 * h + md)) (nI (nest + 1)) (nI S.length) (-1) := by
    rw [n1, sb]
    show ((mX12_save B9 J9 (B9 186 45)).bind fun q19 => mX12_cases_67 Rr2 LF q19.1 q19.2 (nI (sg n i)) (nI s.2.2.1) (nI (1400 * h + md)) (B9 186 45) (B9 186 43) (-1)) = _
    rw [e45, e43, v1, sb, lf_s, mX12_cases_67, if_pos rfl]
  rw [eR]
  rcases cai_loop (R := Rr2) h1 hP hcc hs hs2 hk hkd x3 x4 7 [] I8 B10 J10 _ t r (md + 1) wd a6 a8 a0 0 LF 99999 (-1) rfl (by unfold LF; omega) (by omega) hC10 HCI (Or.inl ⟨rfl, rfl⟩) with ⟨x, I', B', J', e1, e2, e3⟩ | ⟨bl', I', B', J', t', r', L', md', wd', d6, d8, d0, mm', e1, e2, e3, e4, e5⟩
  · refine ⟨x, I', 0, a_u2 B' 186 45 (B' 186 45 - 1), J', e1, ?_, Or.inl ⟨rfl, pl_45 e3 _⟩⟩
    rw [e2, sb]
    unfold mX12_act_38
    rw [if_pos (Or.inl rfl)]
  · have hend' := cr_end e3
    have hpr := fun (hw1 : 1 ≤ wd) => cai_pr hs hs2 (hk.trans hki) e4 hend' e5 hw1
    have hln := cai_len e4
    obtain ⟨⟨HU, hok', hv', hmd', hcho'⟩, ⟨hκ0, c47, c49, c51, c53⟩, ⟨hn55, hnm⟩, ⟨huk, hm0, hMu, u188, u189⟩, ⟨hal, hnd1, hnd2⟩, hus, hbl, hmm, hpg, hbud, hwd, hcw', hrp', hlk⟩ := e4
    have hbl1 : ∃ e, e ∈ bl' := by
      cases hb : bl' with
      | nil =>
        rw [hb] at e5
        have := hcho'.2.2.2.2.1
        exact absurd e5 (by rw [List.length_nil]; omega)
      | cons e l => exact ⟨e, List.mem_cons_self ..⟩
    obtain ⟨e0, he0⟩ := hbl1
    have hmA := minA_le bl' e0 he0
    have hmB := (hbl e0 he0).2.2.2.2
    have hmC := hwd.2 e0 he0
    have HU2 := pu_B HU (B' := a_u2 B' 186 49 (nI (1400 * h + md))) (J' := J') (md' := md') (fun q i w1 w2 => a_u2_n _ _ (fun z => w1 ⟨z.1, Or.inr (Or.inl ⟨by omega, by omega⟩)⟩)) (fun _ _ _ => rfl) (by rw [a_u2_n _ _ (by omega)]; exact HU.2.2.2.2.2.2.1.2.2.1) (Nat.le_refl _) (by omega)
    have e45' : (a_u2 B' 186 49 (nI (1400 * h + md))) 186 45 - 1 = nI nest := by rw [a_u2_n _ _ (by omega), HU.2.2.2.2.2.2.2.2.1.1, nI_pred]
    have h55f : 3 * (L' (k + 55)).length + P ≤ 3 * (L (k + 55)).length + t'.2.2 := by omega
    have HPE := pu_pe HU2 (by omega)
    have hC' : CR I' (a_u2 (a_u2 B' 186 49 (nI (1400 * h + md))) 186 45 (nI nest)) J' bs t' r' := CR_B (CR_B e3 (fun j _ _ => a_u2_n _ _ (by omega)) (funext fun j => a_u2_n _ _ (by omega)) rfl) (fun j _ _ => a_u2_n _ _ (by omega)) (funext fun j => a_u2_n _ _ (by omega)) rfl
    have hPRg := fun (hw1 : 1 ≤ wd) => pr_sm (B' := a_u2 (a_u2 B' 186 49 (nI (1400 * h + md))) 186 45 (nI nest)) (J' := J') HU.2.2.1 HU.2.2.2.1 (fun v hv => ⟨hv, by rw [a_u2_n _ _ (by omega), a_u2_n _ _ (by omega)], by rw [a_u2_n _ _ (by omega), a_u2_n _ _ (by omega)], by rw [a_u2_n _ _ (by omega), a_u2_n _ _ (by omega)], by rw [a_u2_n _ _ (by omega), a_u2_n _ _ (by omega)], rfl⟩) (fun v hv => hv) (fun v hv => hv) (Nat.le_refl _) (hpr hw1)
    refine ⟨nI (minA bl'), I', 1, _, J', e1, ?_, Or.inr ⟨rfl, minA bl', rfl, fun w0 hw0 => ⟨1400 * h + md, L', t', r', md', d6, d8, d0, wd', mm' + 1, hC', HPE, ?_, hPRg (by omega), ⟨by omega, by omega⟩, by omega, pg0_pgr hpg h55f, hcw', (hrp'.trans (rP_sc (by omega) _) (Nat.le_refl md) (Nat.le_refl nest)).trans (rP_sc (by omega) _) (Nat.le_refl md) (Nat.le_refl nest), lk_le hlk (Nat.le_succ nest)⟩⟩⟩
    · rw [e2, sb]
      unfold mX12_act_38
      rw [if_pos (Or.inr rfl), e45']
    · rw [a_u2_n _ _ (by omega), a_u2_s]
end
