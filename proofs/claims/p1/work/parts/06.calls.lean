/-! CALLS -/
theorem nw_on {w : Cond} (h : w ∈ NW) : w.onTables = true := by
  have h1 := (List.mem_filter.mp h).2
  cases w <;> first | rfl | cases h1
theorem nw_warm {w : Cond} (h : w ∈ NW) {s U : State} (hW : s.WarmedH U.vm) (hZ : va_Nw w s) : va_Nw w U := by
  have h1 := (List.mem_filter.mp h).2
  cases w <;> first | exact va_Nw.warmF hW hZ | exact va_Nw.warmM hW hZ | cases h1
def a_mk (own : String) (idx : Nat) (y : MethodName) (cc : ByteArray) (nL : Nat) (ret : Option FieldType) (n : Nat) : Prop :=
  (Cond.methodLink own idx y ∈ WS ∨ ∃ host, Cond.methodLinkNest own idx y host ∈ NW) ∧ Cond.initialized y.cls ∈ WS ∧ Cond.code y cc nL ret ∈ WS ∧ (y.cls ≠ "java/lang/invoke/MethodHandle" ∧ y.cls ≠ "java/lang/invoke/VarHandle" ∧ (parseMethodDescriptor y.desc).map (fun d => d.parameters.length) = some n) ∧ nL ≤ 29
/-- an instance method, a static one, a constructor, behind own's entry idx -/
def a_mv (own : String) (idx : Nat) (y : MethodName) (cc : ByteArray) (nL : Nat) (ret : Option FieldType) (n : Nat) : Prop := a_mk own idx y cc nL ret n ∧ Cond.instanceMethod y ∈ WS ∧ Cond.selects y.cls y y ∈ WS
def a_ms (own : String) (idx : Nat) (y : MethodName) (cc : ByteArray) (nL : Nat) (ret : Option FieldType) (n : Nat) : Prop := a_mk own idx y cc nL ret n ∧ Cond.static y ∈ WS
def a_mi (own : String) (idx : Nat) (y : MethodName) (cc : ByteArray) (nL : Nat) (n : Nat) : Prop := a_mk own idx y cc nL none n ∧ y.name = "<init>" ∧ Cond.instanceMethod y ∈ WS
theorem ws_good {w : Cond} (h : w ∈ WS) : goodWord w = true := (List.mem_filter.mp h).2
theorem ws_goodIn {y : MethodName} {cc : ByteArray} {nL : Nat} {ret : Option FieldType} (h : Cond.code y cc nL ret ∈ WS) : GoodIn WS (Cond.code y cc nL ret :: WS) := by
  intro w hw
  rcases List.mem_cons.mp hw with rfl | hw
  · exact ⟨h, good_of_word (ws_good h)⟩
  · exact ⟨hw, good_of_word (ws_good hw)⟩
section
variable {l : Launch} {K : a_KT} {g : a_GT} {d nc ns : Nat} {y : MethodName} {cc : ByteArray} {nL : Nat} {ret : Option FieldType} {pc : Nat} {ls st : List Value} {h : aH} {Q : Option Value → aH → Prop}
theorem a_blind (hko : a_kok K) {σ : Nat → Nat} {sz : Nat} {av : List Value} : FrameBlind (va_Pc av (a_pre K g σ h sz)) := by
  intro a U gf mk q
  obtain ⟨q1, q2, q3, q4, q5, q6, q7⟩ := q
  exact ⟨q1, q2, q3, va_K.moved (u := U) (U := U.calling gf mk a) (Vm.Alike.refl U.vm) q4, q5, fun w hw => va_Nw.same (nw_on hw) (u := U) (U := U.calling gf mk a) rfl (q6 w hw), hko.1 U (U.calling gf mk a) _ _ _ rfl q7⟩
theorem a_preOf (hko : a_kok K) {σ : Nat → Nat} {av : List Value} {p : Program} {s : State} {m : MethodId} {args : Array Value} {meth : Method} {c : Code} (cx : a_cx g y cc nL ret p s m args meth c) {A : Nat → Prop} {H : Heap} {locs : List Loc} (ha : a_at K g s σ A h H locs) (U : State) (hU : U.heap = H) (hW : s.WarmedH U.vm) : va_Pc av (a_pre K g σ h H.size) av.toArray U := by
  obtain ⟨hP, hD, hS, hA, hKc⟩ := ha
  refine ⟨rfl, by rw [hU], by rw [hU]; exact hP, va_K.moved hW.alike cx.2.2.2.2.2.2.2.2.2, hD.weaken (fun _ _ _ _ => trivial), fun w hw => nw_warm hw hW (cx.2.2.2.2.2.2.1 w hw), ?_⟩
  have h1 := hko.2.2.1 s s.heap H A σ hKc hS.2.1
  have h2 := hko.2.1 s U H A σ hW h1
  rw [hU]
  refine hko.2.2.2.1 U H A _ σ h2 (fun q hq => ?_)
  rcases hq with ⟨k, e, hk⟩ | hq
  · exact hD.2 k (q, e) hk
  · exact hA q (Nat.le_trans hS.1 hq)
/-- behind a call -/
theorem a_after (hko : a_kok K) {p : Program} {e : Env} {R : Room} {s : State} {m : MethodId} {args : Array Value} {below : List Frame} {meth : Method} {c : Code} {H : Heap} {locs : List Loc} {cells slots mc ms : Nat} {Qw : State → Prop} {lsA : Array Slot} {st0 rest : List Value} {σ : Nat → Nat} {A : Nat → Prop} {Qy : Option Value → aH → Prop} {av : Array Value}
    (hr : va_Run p l e R s m args below meth c H locs cells slots mc ms (F0 m pc lsA st0) rest (a_post g σ h H.size mc Qy av) (va_A (a_w g σ h) H.size)) (ha : a_at K g s σ A h H locs)
    (kk : ∀ (r : Option Value) (h' : aH) (σ' : Nat → Nat) (H1 : Heap) (locs1 : List Loc), Qy r h' → a_at K g s σ' A h' H1 locs1 → a_ext σ (aN h) σ' (aN h') → (mc = 0 → σ' = σ) → W p l e R s m args below meth c H1 locs1 (cells + mc) (slots + ms) Qw (F0 m (pc + 3) lsA ((r.map (a_cv σ')).toList ++ rest))) : W p l e R s m args below meth c H locs cells slots Qw (F0 m pc lsA st0) := by
  intro T hT X
  obtain ⟨v, st₀, t, T', L, h0, X', hL, e1, e2, ⟨r, h', σ', hq, hv, hext, hσ, hP', hD', hz, hk⟩, st⟩ := hr T hT X
  cases hv
  rw [h0] at hz hk
  obtain ⟨hP, hD, hS, hA, hKc⟩ := ha
  have hAf : ∀ q, va_A (a_w g σ h) H.size q → A q := by
    intro q hq
    rcases hq with ⟨k, e, hk⟩ | hq
    · exact hD.2 k (q, e) hk
    · exact hA q (Nat.le_trans hS.1 hq)
  obtain ⟨t2, a1, b1⟩ := kk r h' σ' T'.heap (locs ++ L) hq ⟨by rw [e1]; exact hP', hD'.weaken (fun k q _ hq => hAf q.1 hq), ⟨Nat.le_trans hS.1 (by rw [e1]; exact hz), fun q h1 h2 => by rw [e1, hk q (Nat.lt_of_lt_of_le h1 hS.1) (fun z => h2 (hAf q z))]; exact hS.2.1 q h1 h2, fun q hq => by
      rcases List.mem_append.mp hq with h | h
      · exact hS.2.2 q h
      · exact hAf _ (hL q h)⟩, hA, hko.2.2.2.2 _ _ _ _ _ hKc hext.big⟩ hext hσ T' rfl X'
  exact ⟨t2, st t2 a1, b1⟩
theorem a_toList {σ : Nat → Nat} {r : Option Value} {st : List Value} : (r.map (a_cv σ)).toList ++ st.map (a_cv σ) = (r.toList ++ st).map (a_cv σ) := by
  cases r <;> rfl
theorem a_callB {p : Program} {s : State} {m : MethodId} {args : Array Value} {meth : Method} {c : Code} (cx : a_cx g y cc nL ret p s m args meth c) {R : Room} {idx n d2 mc ms : Nat} {y2 : MethodName} {cc2 : ByteArray} {nL2 : Nat} {ret2 : Option FieldType} (hm : a_mk y.cls idx y2 cc2 nL2 ret2 n) (hd2 : d2 + 1 ≤ d) (hR1 : d ≤ R.frames) (hR2 : 48 * d ≤ R.locals) :
    (CallB R s args y.cls idx y2 cc2 nL2 ret2 (Cond.code y2 cc2 nL2 ret2 :: WS) ({ frames := d2, cells := mc, slots := ms, locals := 48 * d2 }) mc ms n) ∨ ∃ host, va_CN R s args y.cls idx y2 host cc2 nL2 ret2 (Cond.code y2 cc2 nL2 ret2 :: WS) ({ frames := d2, cells := mc, slots := ms, locals := 48 * d2 }) mc ms n := by
  obtain ⟨hlk, hini, hcode, hdd, hL2⟩ := hm
  have hR : ({ frames := d2, cells := mc, slots := ms, locals := 48 * d2 } : Room).frames + 1 ≤ R.frames ∧ 8 + (nL2 + 11) + ({ frames := d2, cells := mc, slots := ms, locals := 48 * d2 } : Room).locals ≤ R.locals := ⟨by show d2 + 1 ≤ _; omega, by show 8 + (nL2 + 11) + 48 * d2 ≤ _; omega⟩
  rcases hlk with hw | ⟨host, hw⟩
  · exact Or.inl (callB_of n cx.2.2.2.2.2.1 (ws_goodIn hcode) rfl rfl rfl (cx.2.2.2.2.2.1 _ hini) (cx.2.2.2.2.2.1 _ hw) hdd hR)
  · exact Or.inr ⟨host, va_cnB n cx.2.2.2.2.2.1 (ws_goodIn hcode) rfl rfl rfl (cx.2.2.2.2.2.2.1 _ hw) (cx.2.2.2.2.2.1 _ hini) hdd hR⟩
theorem a_fixOf {p : Program} {s : State} {m : MethodId} {args : Array Value} {meth : Method} {c : Code} (cx : a_cx g y cc nL ret p s m args meth c) : CallFix p m c cc nL s args WS y.cls := ⟨cx.1, cx.2.1, cx.2.2.2.1, cx.2.2.2.2.1, cx.2.2.2.2.2.1⟩
theorem a_catsum {σ : Nat → Nat} (l : List Value) : ((l.map (a_cv σ)).map fun v => v.category) = l.map fun v => v.category := by
  rw [List.map_map]
  exact List.map_congr_left (fun v _ => a_cv_cat)
theorem a_revmap {σ : Nat → Nat} (as : List Value) (rest : List Value) : (as.reverse ++ rest).map (a_cv σ) = (as.map (a_cv σ)).reverse ++ rest.map (a_cv σ) := by
  rw [List.map_append, List.map_reverse]
/-- invokevirtual, of a method that makes no cells -/
theorem e_callV (hko : a_kok K) {idx n d2 c a : Nat} {y2 : MethodName} {cc2 : ByteArray} {nL2 : Nat} {ret2 : Option FieldType} {as : List Value} {Qy : Option Value → aH → Prop} (hd : decode cc pc = .ok (.invokevirtual idx, 3)) (hm : a_mv y.cls idx y2 cc2 nL2 ret2 n) (hc : a_is h a c) (hc13 : c < 13) (hrc : a_rc c = y2.cls) (hn : as.length = n) (hd2 : d2 + 1 ≤ d) (hst : (st.map fun v => v.category).sum ≤ 8)
    (hC : C l K g d2 0 0 y2 cc2 nL2 ret2 (.ref a :: as) h Qy) (kk : ∀ (r : Option Value) (h' : aH), Qy r h' → E l K g d nc ns y cc nL ret (pc + 3) ls (r.toList ++ st) h' Q) : E l K g d nc ns y cc nL ret pc ls (as.reverse ++ .ref a :: st) h Q := by
  intro p e s m args below meth cd cx R hR1 hR2 σ A H locs lsA cells slots Qw hcl hs ha hl hk
  obtain ⟨hmk, hin, hse⟩ := hm
  obtain ⟨hc2, h0, h1⟩ := hc
  have he := a_w_at (g := g) (σ := σ) h0 h1
  rw [a_cell_o hc2 hc13] at he
  have hm0 : (as.reverse ++ .ref a :: st).map (a_cv σ) = (as.map (a_cv σ)).reverse ++ .ref (σ a) :: st.map (a_cv σ) := by rw [a_revmap, List.map_cons, a_cvr h0]
  rw [hm0]
  have hrcv := va_recv cx.2.2.2.2.2.2.2.2.2 ha.1 (a_clc c hc13) he
  rw [show (a_rc c, a_tb c, a_nf c).1 = y2.cls from hrc] at hrcv
  have hM := hC σ H.size
  rw [List.map_cons, a_cvr h0] at hM
  have hp : PreV s H y2.cls (σ a) (va_Pc (.ref (σ a) :: as.map (a_cv σ)) (a_pre K g σ h H.size)) (as.map (a_cv σ)) := ⟨a_blind hko, hrcv, fun U hU hW => a_preOf hko cx ha U hU hW⟩
  have hroom : 2 * (F0 m pc lsA ((as.map (a_cv σ)).reverse ++ .ref (σ a) :: st.map (a_cv σ))).monitorRoom + ((st.map (a_cv σ)).map fun v => v.category).sum ≤ 8 := lv_room (by rw [a_catsum]; exact hst)
  have hrun : va_Run p l e R s m args below meth cd H locs cells slots 0 0 (F0 m pc lsA ((as.map (a_cv σ)).reverse ++ .ref (σ a) :: st.map (a_cv σ))) (st.map (a_cv σ)) (a_post g σ h H.size 0 Qy (Value.ref (σ a) :: as.map (a_cv σ)).toArray) (va_A (a_w g σ h) H.size) := by
    rcases a_callB (d := d) cx hmk hd2 hR1 hR2 with hB | ⟨host, hB⟩
    · exact va_runV (a_fixOf cx) hM ⟨hB, cx.2.2.2.2.2.1 _ hin, cx.2.2.2.2.2.1 _ hse⟩ hp rfl (by rw [List.length_map]; exact hn) hl.1 rfl hroom hd ⟨by omega, by omega⟩
    · exact va_runVN (a_fixOf cx) hM ⟨hB, cx.2.2.2.2.2.1 _ hin, cx.2.2.2.2.2.1 _ hse⟩ hp rfl (by rw [List.length_map]; exact hn) hl.1 rfl hroom hd ⟨by omega, by omega⟩
  refine a_after hko hrun ha (fun r h' σ' H1 locs1 hq ha1 hext hσ => ?_)
  have e0 := hσ rfl
  subst e0
  rw [a_toList]
  exact kk r h' hq p e s m args below meth cd cx R hR1 hR2 σ' A H1 locs1 lsA cells slots Qw hcl hs ha1 hl (fun r2 h2 σ2 H2 locs2 ls2 pc2 c2 s2 q1 q2 q3 q4 q5 q6 q7 => hk r2 h2 σ2 H2 locs2 ls2 pc2 c2 s2 q1 q2 (hext.tr q3) q4 q5 q6 q7)
/-- invokestatic -/
theorem e_callS (hko : a_kok K) {idx n d2 : Nat} {y2 : MethodName} {cc2 : ByteArray} {nL2 : Nat} {ret2 : Option FieldType} {as : List Value} {Qy : Option Value → aH → Prop} (hd : decode cc pc = .ok (.invokestatic idx, 3)) (hm : a_ms y.cls idx y2 cc2 nL2 ret2 n) (hn : as.length = n) (hd2 : d2 + 1 ≤ d) (hst : (st.map fun v => v.category).sum ≤ 8)
    (hC : C l K g d2 0 0 y2 cc2 nL2 ret2 as h Qy) (kk : ∀ (r : Option Value) (h' : aH), Qy r h' → E l K g d nc ns y cc nL ret (pc + 3) ls (r.toList ++ st) h' Q) : E l K g d nc ns y cc nL ret pc ls (as.reverse ++ st) h Q := by
  intro p e s m args below meth cd cx R hR1 hR2 σ A H locs lsA cells slots Qw hcl hs ha hl hk
  obtain ⟨hmk, hin⟩ := hm
  rw [a_revmap]
  have hM := hC σ H.size
  have hp : PreS s H (va_Pc (as.map (a_cv σ)) (a_pre K g σ h H.size)) (as.map (a_cv σ)) := ⟨a_blind hko, fun U hU hW => a_preOf hko cx ha U hU hW⟩
  have hroom : 2 * (F0 m pc lsA ((as.map (a_cv σ)).reverse ++ st.map (a_cv σ))).monitorRoom + ((st.map (a_cv σ)).map fun v => v.category).sum ≤ 8 := lv_room (by rw [a_catsum]; exact hst)
  have hrun : va_Run p l e R s m args below meth cd H locs cells slots 0 0 (F0 m pc lsA ((as.map (a_cv σ)).reverse ++ st.map (a_cv σ))) (st.map (a_cv σ)) (a_post g σ h H.size 0 Qy (as.map (a_cv σ)).toArray) (va_A (a_w g σ h) H.size) := by
    rcases a_callB (d := d) cx hmk hd2 hR1 hR2 with hB | ⟨host, hB⟩
    · exact va_runS (a_fixOf cx) hM ⟨hB, cx.2.2.2.2.2.1 _ hin⟩ hp rfl (by rw [List.length_map]; exact hn) hl.1 rfl hroom hd ⟨by omega, by omega⟩
    · exact va_runSN (a_fixOf cx) hM ⟨hB, cx.2.2.2.2.2.1 _ hin, trivial⟩ hp rfl (by rw [List.length_map]; exact hn) hl.1 rfl hroom hd ⟨by omega, by omega⟩
  refine a_after hko hrun ha (fun r h' σ' H1 locs1 hq ha1 hext hσ => ?_)
  have e0 := hσ rfl
  subst e0
  rw [a_toList]
  exact kk r h' hq p e s m args below meth cd cx R hR1 hR2 σ' A H1 locs1 lsA cells slots Qw hcl hs ha1 hl (fun r2 h2 σ2 H2 locs2 ls2 pc2 c2 s2 q1 q2 q3 q4 q5 q6 q7 => hk r2 h2 σ2 H2 locs2 ls2 pc2 c2 s2 q1 q2 (hext.tr q3) q4 q5 q6 q7)
theorem a_lv_ext {σ σ' : Nat → Nat} {n : Nat} {lsA : Array Slot} {nL : Nat} {ls : List Value} (hok : a_okl n ls) (he : ∀ a, (a ≤ n ∨ 1000000 ≤ a) → σ' a = σ a) (hl : a_lv σ lsA nL ls) : a_lv σ' lsA nL ls := by
  refine ⟨hl.1, hl.2.1, hl.2.2.1, fun i v hi hv => ?_⟩
  rw [a_cv_ext (hok v (List.mem_of_getElem? hi)) he]
  exact hl.2.2.2 i v hi hv
/-- invokespecial of a constructor: mc cells of ms slots come -/
theorem e_callI (hko : a_kok K) {idx n d2 a mc ms : Nat} {y2 : MethodName} {cc2 : ByteArray} {nL2 : Nat} {as : List Value} {Qy : Option Value → aH → Prop} (hd : decode cc pc = .ok (.invokespecial idx, 3)) (hm : a_mi y.cls idx y2 cc2 nL2 n) (h0 : 0 < a) (hn : as.length = n) (hd2 : d2 + 1 ≤ d) (hst : (st.map fun v => v.category).sum ≤ 8) (hok : a_okl (aN h) ls ∧ a_okl (aN h) st)
    (hC : C l K g d2 mc ms y2 cc2 nL2 none (.ref a :: as) h Qy) (hqr : ∀ r h', Qy r h' → r = none) (kk : ∀ (h' : aH), Qy none h' → E l K g d nc ns y cc nL ret (pc + 3) ls st h' Q) : E l K g d (nc + mc) (ns + ms) y cc nL ret pc ls (as.reverse ++ .ref a :: st) h Q := by
  intro p e s m args below meth cd cx R hR1 hR2 σ A H locs lsA cells slots Qw hcl hs ha hl hk
  obtain ⟨hmk, hnm, hin⟩ := hm
  have hm0 : (as.reverse ++ .ref a :: st).map (a_cv σ) = (as.map (a_cv σ)).reverse ++ .ref (σ a) :: st.map (a_cv σ) := by rw [a_revmap, List.map_cons, a_cvr h0]
  rw [hm0]
  have hM := hC σ H.size
  rw [List.map_cons, a_cvr h0] at hM
  have hp : PreS s H (va_Pc (.ref (σ a) :: as.map (a_cv σ)) (a_pre K g σ h H.size)) (.ref (σ a) :: as.map (a_cv σ)) := ⟨a_blind hko, fun U hU hW => a_preOf hko cx ha U hU hW⟩
  have hroom : 2 * (F0 m pc lsA ((as.map (a_cv σ)).reverse ++ .ref (σ a) :: st.map (a_cv σ))).monitorRoom + ((st.map (a_cv σ)).map fun v => v.category).sum ≤ 8 := lv_room (by rw [a_catsum]; exact hst)
  have hrun : va_Run p l e R s m args below meth cd H locs cells slots mc ms (F0 m pc lsA ((as.map (a_cv σ)).reverse ++ .ref (σ a) :: st.map (a_cv σ))) (st.map (a_cv σ)) (a_post g σ h H.size mc Qy (Value.ref (σ a) :: as.map (a_cv σ)).toArray) (va_A (a_w g σ h) H.size) := by
    rcases a_callB (d := d) cx hmk hd2 hR1 hR2 with hB | ⟨host, hB⟩
    · exact va_runI (a_fixOf cx) hM ⟨hB, hnm, cx.2.2.2.2.2.1 _ hin⟩ hp rfl (by rw [List.length_map]; exact hn) hl.1 rfl hroom hd ⟨by omega, by omega⟩
    · exact va_runIN (a_fixOf cx) hM ⟨hB, hnm, cx.2.2.2.2.2.1 _ hin⟩ hp rfl (by rw [List.length_map]; exact hn) hl.1 rfl hroom hd ⟨by omega, by omega⟩
  refine a_after hko hrun ha (fun r h' σ' H1 locs1 hq ha1 hext hσ => ?_)
  have er := hqr _ _ hq
  subst er
  rw [← a_map_ext hok.2 hext.low, show (Option.map (a_cv σ') none).toList ++ st.map (a_cv σ') = st.map (a_cv σ') from rfl]
  exact kk h' hq p e s m args below meth cd cx R hR1 hR2 σ' A H1 locs1 lsA (cells + mc) (slots + ms) Qw (by omega) (by omega) ha1 (a_lv_ext hok.1 hext.low hl) (fun r2 h2 σ2 H2 locs2 ls2 pc2 c2 s2 q1 q2 q3 q4 q5 q6 q7 => hk r2 h2 σ2 H2 locs2 ls2 pc2 c2 s2 q1 q2 (hext.tr q3) (by omega) (by omega) (fun z => by rw [q6 (by omega), hσ (by omega)]) q7)
/-- Object's constructor -/
theorem e_objInit {idx a : Nat} (hd : decode cc pc = .ok (.invokespecial idx, 3)) (hw : Cond.methodLink y.cls idx objectInit ∈ WS) (hin : Cond.instanceMethod objectInit ∈ WS) (hco : Cond.code objectInit ⟨#[0xb1]⟩ 1 none ∈ WS) (h0 : 0 < a) (hd1 : 1 ≤ d) (hst : (st.map fun v => v.category).sum ≤ 8) (k : E l K g d nc ns y cc nL ret (pc + 3) ls st h Q) : E l K g d nc ns y cc nL ret pc ls (.ref a :: st) h Q := by
  intro p e s m args below meth cd cx R hR1 hR2 σ A H locs lsA cells slots Qw hcl hs ha hl hk
  have hm0 : (Value.ref a :: st).map (a_cv σ) = .ref (σ a) :: st.map (a_cv σ) := by rw [List.map_cons, a_cvr h0]
  rw [hm0]
  have hroom : 2 * (F0 m pc lsA (.ref (σ a) :: st.map (a_cv σ))).monitorRoom + ((st.map (a_cv σ)).map fun v => v.category).sum ≤ 8 := lv_room (by rw [a_catsum]; exact hst)
  exact W.objInit cx.1 cx.2.1 cx.2.2.2.2.1 (cx.2.2.2.2.2.1 _ hw) (cx.2.2.2.2.2.1 _ hin) (cx.2.2.2.2.2.1 _ hco) rfl (by rw [cx.2.2.2.1]; exact hl.1) rfl hd (by omega) (by omega) (k p e s m args below meth cd cx R hR1 hR2 σ A H locs lsA cells slots Qw hcl hs ha hl hk)
end
