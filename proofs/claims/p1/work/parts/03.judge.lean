/-! THE JUDGEMENT E: from this place, with these locals, this stack, this heap, the method comes to a return with Q. -/
def a_isN : Cond → Bool
  | .fieldLinkNest .. => true
  | .methodLinkNest .. => true
  | _ => false
def WS : List Cond := lw_tbl.filter goodWord
def NW : List Cond := lw_tbl.filter a_isN
theorem ws_t {w : Cond} (p : Nat) (h : tables_1[p]? = some w) (hg : goodWord w = true) : w ∈ WS := List.mem_filter.mpr ⟨List.mem_append_right _ (List.mem_of_getElem? h), hg⟩
theorem ws_s {q : MethodName × Nat} (p : Nat) (h : lw_privs[p]? = some q) : Cond.selects q.1.cls q.1 q.1 ∈ WS := List.mem_filter.mpr ⟨List.mem_append_left _ (List.mem_map.mpr ⟨q, List.mem_of_getElem? h, rfl⟩), rfl⟩
theorem nw_t {w : Cond} (p : Nat) (h : tables_1[p]? = some w) (hg : a_isN w = true) : w ∈ NW := List.mem_filter.mpr ⟨List.mem_append_right _ (List.mem_of_getElem? h), hg⟩
/-- what is known of constants lasts -/
def a_kok (K : a_KT) : Prop := (∀ (u U : State) (H : Heap) (A : Nat → Prop) (σ : Nat → Nat), U.vm = u.vm → K u H A σ → K U H A σ) ∧ (∀ (s U : State) (H : Heap) (A : Nat → Prop) (σ : Nat → Nat), s.WarmedH U.vm → K s H A σ → K U H A σ) ∧
  (∀ (U : State) (H H1 : Heap) (A : Nat → Prop) (σ : Nat → Nat), K U H A σ → (∀ q : Nat, q < H.size → ¬ A q → H1[q]? = H[q]?) → K U H1 A σ) ∧ (∀ (U : State) (H : Heap) (A B : Nat → Prop) (σ : Nat → Nat), K U H A σ → (∀ q, B q → A q) → K U H B σ) ∧
  (∀ (U : State) (H : Heap) (A : Nat → Prop) (σ σ' : Nat → Nat), K U H A σ → (∀ a, 1000000 ≤ a → σ' a = σ a) → K U H A σ')
def a_cx (g : a_GT) (y : MethodName) (cc : ByteArray) (nL : Nat) (ret : Option FieldType) (p : Program) (s : State) (m : MethodId) (args : Array Value) (meth : Method) (c : Code) : Prop :=
  p.tables.exec = Jvm.exec ∧ c.code = cc ∧ meth.sig.returnType = ret ∧ c.maxLocals = nL ∧ s.vm.findClass y.cls = some m.cls ∧ (∀ w ∈ WS, w.before args s = true) ∧ (∀ w ∈ NW, va_Nw w s) ∧ meth.locks = false ∧ (y.name = "<init>" → meth.name = "<init>") ∧ va_K g.1 vwCl (a_tys g) s
/-- the locals: l by their places; null is a place that holds nothing known -/
def a_lv (σ : Nat → Nat) (ls : Array Slot) (nL : Nat) (l : List Value) : Prop := ls.size = nL ∧ lv_wf ls ∧ l.length = nL ∧ ∀ (i : Nat) (v : Value), l[i]? = some v → v ≠ .null → ls[i]? = some (.val (a_cv σ v))
def a_at (K : a_KT) (g : a_GT) (s : State) (σ : Nat → Nat) (A : Nat → Prop) (h : aH) (H : Heap) (locs : List Loc) : Prop :=
  va_P g.1 vwCl (a_w g σ h) H ∧ va_D A (a_w g σ h) ∧ va_S A s.heap H locs ∧ (∀ q, s.heap.size ≤ q → A q) ∧ K s s.heap A σ
def a_ret (cc : ByteArray) (ret : Option FieldType) (pc : Nat) (r : Option Value) : Prop :=
  (r = none ∧ ret = none ∧ decode cc pc = .ok (.return_, 1)) ∨ (∃ (x : Int32) (ty : FieldType), r = some (.int x) ∧ ret = some ty ∧ narrow ty (.int x) = .int x ∧ decode cc pc = .ok (.ireturn, 1)) ∨ (∃ x : Int64, r = some (.long x) ∧ ret = some .long ∧ decode cc pc = .ok (.lreturn, 1))
def E (l : Launch) (K : a_KT) (g : a_GT) (d nc ns : Nat) (y : MethodName) (cc : ByteArray) (nL : Nat) (ret : Option FieldType) (pc : Nat) (ls st : List Value) (h : aH) (Q : Option Value → aH → Prop) : Prop :=
  ∀ (p : Program) (e : Env) (s : State) (m : MethodId) (args : Array Value) (below : List Frame) (meth : Method) (c : Code), a_cx g y cc nL ret p s m args meth c →
  ∀ (R : Room), d ≤ R.frames → 48 * d ≤ R.locals → ∀ (σ : Nat → Nat) (A : Nat → Prop) (H : Heap) (locs : List Loc) (lsA : Array Slot) (cells slots : Nat) (Qw : State → Prop), cells + nc ≤ R.cells → slots + ns ≤ R.slots →
  a_at K g s σ A h H locs → a_lv σ lsA nL ls →
  (∀ (r : Option Value) (h' : aH) (σ' : Nat → Nat) (H' : Heap) (locs' : List Loc) (lsA' : Array Slot) (pc' cells' slots' : Nat), Q r h' → a_at K g s σ' A h' H' locs' → a_ext σ (aN h) σ' (aN h') → cells' ≤ cells + nc → slots' ≤ slots + ns → (nc = 0 → σ' = σ) → a_ret cc ret pc' r →
    W p l e R s m args below meth c H' locs' cells' slots' Qw (F0 m pc' lsA' (r.map (a_cv σ')).toList)) →
  W p l e R s m args below meth c H locs cells slots Qw (F0 m pc lsA (st.map (a_cv σ)))
def a_pre (K : a_KT) (g : a_GT) (σ : Nat → Nat) (h : aH) (sz : Nat) (U : State) : Prop :=
  U.heap.size = sz ∧ va_P g.1 vwCl (a_w g σ h) U.heap ∧ va_K g.1 vwCl (a_tys g) U ∧ va_D (fun _ => True) (a_w g σ h) ∧ (∀ w ∈ NW, va_Nw w U) ∧ K U U.heap (va_A (a_w g σ h) sz) σ
def a_post (g : a_GT) (σ : Nat → Nat) (h : aH) (sz nc : Nat) (Q : Option Value → aH → Prop) : Array Value → State → Outcome → State → Prop := fun _ st oc t =>
  ∃ (r : Option Value) (h' : aH) (σ' : Nat → Nat), Q r h' ∧ oc = .returned (r.map (a_cv σ')) ∧ a_ext σ (aN h) σ' (aN h') ∧ (nc = 0 → σ' = σ) ∧ va_P g.1 vwCl (a_w g σ' h') t.heap ∧ va_D (va_A (a_w g σ h) sz) (a_w g σ' h') ∧ va_F (va_A (a_w g σ h) sz) st t
/-- THE CONTRACT -/
def C (l : Launch) (K : a_KT) (g : a_GT) (d nc ns : Nat) (y : MethodName) (cc : ByteArray) (nL : Nat) (ret : Option FieldType) (as : List Value) (h : aH) (Q : Option Value → aH → Prop) : Prop :=
  ∀ (σ : Nat → Nat) (sz : Nat), Met l y (Cond.code y cc nL ret :: WS) ({ frames := d, cells := nc, slots := ns, locals := 48 * d }) (va_Pc (as.map (a_cv σ)) (a_pre K g σ h sz)) (a_post g σ h sz nc Q) nc ns (va_A (a_w g σ h) sz)
/-- the locals at a method's beginning -/
def a_sl : List Value → List Value
  | [] => []
  | v :: vs => if v.category = 2 then v :: .null :: a_sl vs else v :: a_sl vs
def a_ls (nL : Nat) (as : List Value) : List Value := a_sl as ++ List.replicate (nL - (a_sl as).length) .null
theorem a_cv_cat {σ : Nat → Nat} {v : Value} : (a_cv σ v).category = v.category := by
  cases v with
  | ref a =>
    simp only [a_cv]
    split <;> rfl
  | _ => rfl
theorem a_sl_len {σ : Nat → Nat} (as : List Value) : (lg_sl (as.map (a_cv σ))).length = (a_sl as).length := by
  induction as with
  | nil => rfl
  | cons v vs ih =>
    have ih' : (List.flatMap (fun v : Value => if v.category = 2 then [Slot.val v, Slot.second] else [Slot.val v]) (List.map (a_cv σ) vs)).length = (a_sl vs).length := ih
    unfold lg_sl
    rw [List.map_cons, List.flatMap_cons, List.length_append, ih', a_cv_cat, show a_sl (v :: vs) = if v.category = 2 then v :: .null :: a_sl vs else v :: a_sl vs from rfl]
    split <;> simp <;> omega
theorem a_args_in {σ : Nat → Nat} (as : List Value) : ∀ (k i : Nat) (v : Value), (a_sl as)[i]? = some v → v ≠ .null → (k + i, a_cv σ v) ∈ lv_args k (as.map (a_cv σ)) := by
  induction as with
  | nil => intro k i v h; simp [a_sl] at h
  | cons w ws ih =>
    intro k i v h hv
    rw [List.map_cons, lv_args, a_cv_cat]
    unfold a_sl at h
    by_cases hc : w.category = 2
    · rw [if_pos hc] at h ⊢
      match i, h with
      | 0, h => cases h; exact List.mem_cons_self
      | 1, h => cases h; exact absurd rfl hv
      | i + 2, h =>
        have := ih (k + 2) i v (by simpa using h) hv
        exact List.mem_cons_of_mem _ (by rw [show k + (i + 2) = k + 2 + i by omega]; exact this)
    · rw [if_neg hc] at h ⊢
      match i, h with
      | 0, h => cases h; exact List.mem_cons_self
      | i + 1, h =>
        have := ih (k + 1) i v (by simpa using h) hv
        exact List.mem_cons_of_mem _ (by rw [show k + (i + 1) = k + 1 + i by omega]; exact this)
theorem a_entry {σ : Nat → Nat} {nL : Nat} {as : List Value} (hn : (a_sl as).length ≤ nL) : a_lv σ ((lg_sl (as.map (a_cv σ)) ++ List.replicate (nL - (lg_sl (as.map (a_cv σ))).length) Slot.unset).toArray) nL (a_ls nL as) := by
  obtain ⟨h1, h2, h3⟩ := lv_entry (as.map (a_cv σ)) (n := nL) (by rw [a_sl_len]; exact hn)
  refine ⟨h1, h2, by simp [a_ls]; omega, fun i v hi hv => ?_⟩
  unfold a_ls at hi
  by_cases hl : i < (a_sl as).length
  · rw [List.getElem?_append_left hl] at hi
    have := a_args_in (σ := σ) as 0 i v hi hv
    rw [Nat.zero_add] at this
    exact h3 _ this
  · rw [List.getElem?_append_right (by omega), List.getElem?_replicate] at hi
    split at hi
    · cases hi; exact absurd rfl hv
    · cases hi
section
variable {l : Launch} {K : a_KT} {g : a_GT} {d nc ns : Nat} {y : MethodName} {cc : ByteArray} {nL : Nat} {ret : Option FieldType} {pc : Nat} {ls st : List Value} {h : aH} {Q : Option Value → aH → Prop}
theorem C.of (hy : plainName y.cls = true) {as : List Value} (hn : (a_sl as).length ≤ nL) (hE : E l K g d nc ns y cc nL ret 0 (a_ls nL as) [] h Q) : C l K g d nc ns y cc nL ret as h Q := by
  intro σ sz
  refine Met.ofW (cc := cc) (maxL := nL) (ret := ret) hy rfl ?_
  intro p e s m args below meth c s₁ B hml hv
  obtain ⟨rfl, rfl, hP, hK, hD0, hN, hKc⟩ := hv
  have hts := atoms_spec (ws := Cond.code y cc nL ret :: WS) B.pre
  have hin : meth.name = y.name := (name_of_methodNamed B.named B.method).1
  have hlocks := B.notSynchronized
  have hx := B.exec
  have hb := B.bytes
  have hr := B.returns
  rw [lg_entry_eq]
  refine hE p e s m _ below meth c ⟨hx, hb, hr, hml, findClass_of_methodNamed B.named, fun w hw => hts w (List.mem_cons_of_mem _ hw), hN, hlocks, fun q => by rw [hin, q], hK⟩ _ (Nat.le_refl _) (Nat.le_refl _) σ (va_A (a_w g σ h) s.heap.size) s.heap [] _ 0 0 _ (by show 0 + nc ≤ nc; omega) (by show 0 + ns ≤ ns; omega) ⟨hP, hD0.self, va_S.rf, fun q hq => Or.inr hq, hKc⟩ (a_entry hn) ?_
  intro r h' σ' H' locs' lsA' pc' cells' slots' hQ ha hext hc hs hσ hret
  obtain ⟨hP', hD', hS', hA', hK'⟩ := ha
  refine W.widen (k := nc) (n := ns) (by omega) (by omega) ?_
  rcases hret with ⟨rfl, rfl, hd⟩ | ⟨x, ty, rfl, rfl, hnar, hd⟩ | ⟨x, rfl, rfl, hd⟩
  · exact W.vret hx hb hr (fun t ht hW => ⟨none, h', σ', hQ, rfl, hext, hσ, by rw [ht]; exact hP', hD', hS'.F ht⟩) hS'.2.2 hd
  · exact W.zret (v := x) hx hb hr hnar (fun t ht hW => ⟨some (.int x), h', σ', hQ, rfl, hext, hσ, by rw [ht]; exact hP', hD', hS'.F ht⟩) hS'.2.2 hd
  · exact W.lret (v := x) hx hb hr (fun t ht hW => ⟨some (.long x), h', σ', hQ, rfl, hext, hσ, by rw [ht]; exact hP', hD', hS'.F ht⟩) hS'.2.2 hd
theorem C.post {as : List Value} {Q' : Option Value → aH → Prop} (hC : C l K g d nc ns y cc nL ret as h Q) (hq : ∀ r h', Q r h' → Q' r h') : C l K g d nc ns y cc nL ret as h Q' := by
  intro σ sz p e h1 h2 h3 s m args below h4 h5 h6 h7
  obtain ⟨k, o, g1, g2, g3, ⟨⟨r, h', σ', g4, g5⟩, g6⟩⟩ := hC σ sz p e h1 h2 h3 s m args below h4 h5 h6 h7
  exact ⟨k, o, g1, g2, g3, ⟨⟨r, h', σ', hq _ _ g4, g5⟩, g6⟩⟩
theorem E.post {Q' : Option Value → aH → Prop} (hE : E l K g d nc ns y cc nL ret pc ls st h Q) (hq : ∀ r h', Q r h' → Q' r h') : E l K g d nc ns y cc nL ret pc ls st h Q' := by
  intro p e s m args below meth c cx R hR1 hR2 σ A H locs lsA cells slots Qw hc hs ha hl hk
  exact hE p e s m args below meth c cx R hR1 hR2 σ A H locs lsA cells slots Qw hc hs ha hl (fun r h' σ' H' locs' lsA' pc' cells' slots' q => hk r h' σ' H' locs' lsA' pc' cells' slots' (hq _ _ q))
theorem E.deep {d' : Nat} (hd : d ≤ d') (hE : E l K g d nc ns y cc nL ret pc ls st h Q) : E l K g d' nc ns y cc nL ret pc ls st h Q := by
  intro p e s m args below meth c cx R hR1 hR2
  exact hE p e s m args below meth c cx R (by omega) (by omega)
/-- returns -/
theorem e_vret (hd : decode cc pc = .ok (.return_, 1)) (hr : ret = none) (hq : Q none h) : E l K g d nc ns y cc nL ret pc ls [] h Q := by
  intro p e s m args below meth c cx R hR1 hR2 σ A H locs lsA cells slots Qw hc hs ha hl hk
  exact hk none h σ H locs lsA pc cells slots hq ha a_ext.rf (by omega) (by omega) (fun _ => rfl) (Or.inl ⟨rfl, hr, hd⟩)
theorem e_iret {x : Int32} (hd : decode cc pc = .ok (.ireturn, 1)) (hr : ret = some .int) (hq : Q (some (.int x)) h) : E l K g d nc ns y cc nL ret pc ls [.int x] h Q := by
  intro p e s m args below meth c cx R hR1 hR2 σ A H locs lsA cells slots Qw hc hs ha hl hk
  exact hk (some (.int x)) h σ H locs lsA pc cells slots hq ha a_ext.rf (by omega) (by omega) (fun _ => rfl) (Or.inr (Or.inl ⟨x, .int, rfl, hr, rfl, hd⟩))
/-- a boolean or char answer -/
theorem e_zret {x : Int32} {ty : FieldType} (hd : decode cc pc = .ok (.ireturn, 1)) (hr : ret = some ty) (hn : narrow ty (.int x) = .int x) (hq : Q (some (.int x)) h) : E l K g d nc ns y cc nL ret pc ls [.int x] h Q := by
  intro p e s m args below meth c cx R hR1 hR2 σ A H locs lsA cells slots Qw hc hs ha hl hk
  exact hk (some (.int x)) h σ H locs lsA pc cells slots hq ha a_ext.rf (by omega) (by omega) (fun _ => rfl) (Or.inr (Or.inl ⟨x, ty, rfl, hr, hn, hd⟩))
theorem e_lret {x : Int64} (hd : decode cc pc = .ok (.lreturn, 1)) (hr : ret = some .long) (hq : Q (some (.long x)) h) : E l K g d nc ns y cc nL ret pc ls [.long x] h Q := by
  intro p e s m args below meth c cx R hR1 hR2 σ A H locs lsA cells slots Qw hc hs ha hl hk
  exact hk (some (.long x)) h σ H locs lsA pc cells slots hq ha a_ext.rf (by omega) (by omega) (fun _ => rfl) (Or.inr (Or.inr ⟨x, rfl, hr, hd⟩))
end
