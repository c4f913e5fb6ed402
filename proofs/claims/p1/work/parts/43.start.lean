/-! THE START: printed by wip/whole/gen_start.py -/
def I00 : iT := fun _ _ => 0
def J00 : jT := fun _ _ => 0
def F00 : fT := fun _ _ => 0
def IC0 : iT := (mX2_init_62 LF (a_u2 (a_u2 I00 6 6 260) 6 10 (-1)) 0 0 0).getD I00
/-- the cells' ints behind both constructors -/
def IA0 : iT := (a_u2 (fillR (a_u2 (fillR (fillR (fillR IC0 136 0) 138 (-1)) 140 0) 134 6 (-1)) 176 0) 186 10 (-1))
def FA0 : fT := Fn12_186 (Fn11_1 F00)
theorem IC0_ok : mX2_init_62 LF (a_u2 (a_u2 I00 6 6 260) 6 10 (-1)) 0 0 0 = some IC0 := by
  have h : (mX2_init_62 LF (a_u2 (a_u2 I00 6 6 260) 6 10 (-1)) 0 0 0).isSome = true := by decide +kernel
  unfold IC0
  cases hx : mX2_init_62 LF (a_u2 (a_u2 I00 6 6 260) 6 10 (-1)) 0 0 0 with
  | none => rw [hx] at h; cases h
  | some v => rfl
theorem FA0_fok : ∀ q ∈ FRL, FA0 q.1 q.2.1 = q.2.2 := by decide +kernel
theorem FA0_ok : FK FA0 := ⟨FA0_fok, Or.inl (by decide +kernel), Or.inr (by decide +kernel), Or.inr (by decide +kernel), Or.inr (by decide +kernel), Or.inr (by decide +kernel), Or.inl (by decide +kernel)⟩
theorem glue_same (I : iT) : glue I I = I := by
  funext a
  unfold glue
  split <;> rfl
theorem z00 : ZR 0 I00 J00 F00 := ⟨fun _ _ => rfl, fun _ _ => rfl, fun _ _ => rfl, fun _ _ => Nat.le_refl _⟩
set_option maxRecDepth 100000 in
set_option maxHeartbeats 4000000 in
theorem law_E {l : Launch} {K : a_KT} {g : a_GT} (hko : a_kok K) (hS : StrOK l K g) {L : Nat} {xs : Nat → Int32} (hX : KX K L xs) {q : Int32} (hm : mLaw L xs LF IA0 IA0 J00 FA0 0 = some q) : E l K g 1000 231 89349 x code 4 ret 0 [.ref 2000000, .null, .null, .null] [] (hq 0 I00 J00 F00) (fun r2 h2 => r2 = some (.int q)) := by
  have hz1 := z00.up
  have hz2 := zn11_1 IC0_ok hz1
  have hz3 := hz2.up
  refine q_new (nc := 230) (ns := 89341) hko 11 8 rfl dL_law_0 (by decide) nl_RL_7 z00 (by decide +kernel) (by decide +kernel) (by decide) rfl rfl ?_
  refine e_dup rfl dL_law_3 ?_
  refine q_cI (nc := 46) (ns := 43137) [] hko dL_law_4 ml_RL_9 (by decide) rfl (by decide) (Nat.le_of_ble_eq_true rfl) rfl rfl (n11_1 hko hS hz1 IC0_ok) ?_
  refine q_astore_n (i := 1) (by decide) (by decide) rfl dL_law_7 ?_
  refine q_new (nc := 45) (ns := 43056) hko 12 81 rfl dL_law_8 (by decide) nl_RL_10 hz2 (by decide +kernel) (by decide +kernel) (by decide) rfl rfl ?_
  refine e_dup rfl dL_law_11 ?_
  refine q_cI (nc := 0) (ns := 0) [] hko dL_law_12 ml_RL_12 (by decide) rfl (by decide) (Nat.le_of_ble_eq_true rfl) rfl rfl (n12_186 hko hz3) ?_
  refine q_astore_n (i := 2) (by decide) (by decide) rfl dL_law_15 ?_
  refine e_iconst (v := 0) (by decide) dL_law_16 ?_
  refine q_istore_n (i := 3) (by decide) rfl dL_law_17 ?_
  refine e_weak [.ref 2000000, .ref 1, .ref 186, .int 0] ⟨rfl, ⟨rfl, ⟨rfl, ⟨rfl, trivial⟩⟩⟩⟩ ?_
  have hE := tLaw hko hS hX LF IA0 IA0 J00 FA0 0 FA0_ok q hm
  have eh : hg IA0 IA0 J00 FA0 = hq 231 IA0 J00 FA0 := by
    show hq 231 (glue IA0 IA0) J00 FA0 = _
    rw [glue_same]
  rw [eh] at hE
  exact hE
/-- the world's constants and the script -/
def KK (L : Nat) (xs : Nat → Int32) : a_KT := fun U H A σ => KTs U H A σ ∧ va_X (σ 2000000) L xs U H ∧ σ 2000000 < H.size ∧ ¬ A (σ 2000000)
theorem kk_X {L : Nat} {xs : Nat → Int32} : KX (KK L xs) L xs := fun _ _ _ h => h.2
theorem kk_T {L : Nat} {xs : Nat → Int32} : KT (KK L xs) := fun _ _ _ h => h.1
theorem kk_ok {L : Nat} {xs : Nat → Int32} : a_kok (KK L xs) := by
  refine ⟨?_, ?_, ?_, ?_, ?_⟩
  · rintro u U H A σ hv ⟨⟨h1, h2, h3, h4⟩, h5, h6⟩
    have ha : u.vm.Alike U.vm := by rw [hv]; exact Vm.Alike.refl _
    exact ⟨⟨h1.moved ha, h2.moved ha, h3.elim (fun z => Or.inl (z.moved ha)) (fun z => Or.inr (z.moved ha)), fun k own idx hk => (h4 k own idx hk).same hv⟩, h5.moved ha, h6⟩
  · rintro s U H A σ hW ⟨⟨h1, h2, h3, h4⟩, h5, h6⟩
    have ha := hW.alike
    exact ⟨⟨h1.moved ha, h2.moved ha, h3.elim (fun z => Or.inl (z.moved ha)) (fun z => Or.inr (z.moved ha)), fun k own idx hk => (h4 k own idx hk).warm hW⟩, h5.moved ha, h6⟩
  · rintro U H H1 A σ ⟨⟨h1, h2, h3, h4⟩, h5, h6, h7⟩ hq
    have hb := hq _ h6 h7
    refine ⟨⟨h1.kept hq, h2.kept hq, h3.elim (fun z => Or.inl (z.kept hq)) (fun z => Or.inr (z.kept hq)), h4⟩, h5.kept hb, ?_, h7⟩
    obtain ⟨scr, hc, -⟩ := h5
    rw [← hb] at hc
    exact (Array.getElem?_eq_some_iff.mp hc).1
  · rintro U H A B σ ⟨⟨h1, h2, h3, h4⟩, h5, h6, h7⟩ hAB
    exact ⟨⟨h1.narrow hAB, h2.narrow hAB, h3.elim (fun z => Or.inl (z.narrow hAB)) (fun z => Or.inr (z.narrow hAB)), h4⟩, h5, h6, fun z => h7 (hAB _ z)⟩
  · rintro U H A σ σ' ⟨⟨h1, h2, h3, h4⟩, h5, h6, h7⟩ he
    have e1 : (fun i => σ' (1000000 + i)) = (fun i => σ (1000000 + i)) := by funext i; exact he _ (by omega)
    have e2 : (fun i => σ' (1000100 + i)) = (fun i => σ (1000100 + i)) := by funext i; exact he _ (by omega)
    have e3 : σ' 2000000 = σ 2000000 := he _ (by omega)
    have e4 : σ' 1000300 = σ 1000300 := he _ (by omega)
    refine ⟨⟨by rw [e1, e2]; exact h1, h2, by rw [e4]; exact h3, fun k own idx hk => by rw [he _ (by omega)]; exact h4 k own idx hk⟩, by rw [e3]; exact h5, by rw [e3]; exact h6, by rw [e3]; exact h7⟩
