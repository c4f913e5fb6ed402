/-! THE CLAIM OUT OF ONE WALK OF THE LAW'S BODY. Your part is whole_start (and what it stands on); all else here is the same for every law, but numbers. -/
def R_law : String := "TalkHouseLaw"
def lw_P (b : Addr) (xs : List Int32) (args : Array Value) (s : State) : Prop := args = #[.ref b] ∧ s.IntsAt b xs ∧ xs.length ≤ 6 ∧ (Jvm.Cond.and given_1 narrow_1).before args s = true
def lw_Q (_ : Array Value) (s : State) (o : Outcome) (t : State) : Prop := o = .returned (some (.int 1)) ∧ Framed s o t [] 600000 7302250
def lw_Z (below : List Frame) (a : Array Value) (s : State) : State → Prop := fun t => ∃ o, t.status = .running ∧ Ended t below o ∧ lw_Q a s o t
/-- the law's own end, with 1 on the stack, nothing written that was there before, its room as the claim has it -/
theorem lw_ret {p : Program} {l : Launch} {e : Env} {s : State} {m : MethodId} {below : List Frame} {meth : Method} {c : Code} {b : Nat} (hx : p.tables.exec = Jvm.exec) (hb : c.code = code) (hr : meth.sig.returnType = ret) (hlocks : meth.locks = false) {pc : Nat} {H : Heap} {ls : Array Slot} (hdg : decode code pc = .ok (.ireturn, 1)) : W p l e room_1 s m #[Value.ref b] below meth c H [] 600000 7302250 (lw_Z below #[Value.ref b] s) (F0 m pc ls [.int 1]) := by
  intro T hT X
  obtain ⟨fs, hret, hrun, hended, hW, hframe⟩ := X.leave (v := some (.int 1)) (hlocks := hlocks) (fun h => by rw [hr] at h; cases h)
  have hmeth' : T.vm.method? m = some meth := X.method'
  refine ⟨T.setFrames fs, ?_, .returned (some (.int 1)), hrun, hended, rfl, ⟨_, rfl⟩, hW, hframe⟩
  jvm_step X.here [X.here.top, hx, hb, hdg, hmeth', hr, ret, narrow_b1]
  (try refine ⟨rfl, ?_⟩); (try refine ⟨rfl, ?_⟩)
  first | (intro acts; rw [hret _ acts rfl rfl rfl]) | rw [hret _ _ rfl rfl rfl]
  exact Steps.refl _
/-- what holds at the law's entry: the machine, the code, the tables' words (any of lw_tbl by 'hts w (by decide +kernel)'), the script of L ints xs at the cell b, what the Statement gives of the start (any of its parts by flat_of_before) -/
def lw_At (p : Program) (s : State) (m : MethodId) (meth : Method) (c : Code) (b L : Nat) (xs : Nat → Int32) : Prop :=
  p.tables.exec = Jvm.exec ∧ c.code = code ∧ meth.sig.returnType = ret ∧ c.maxLocals = 4 ∧ s.vm.findClass R_law = some m.cls ∧ (∀ w ∈ lw_tbl, w.before #[Value.ref b] s = true) ∧ va_X b L xs s s.heap ∧ b < s.heap.size ∧ meth.locks = false ∧ (Jvm.Cond.and given_1 narrow_1).before #[Value.ref b] s = true
def tmS (i : Nat) : Term := match i with
  | 0 => .string "TalkHouse$Cursor" 37
  | 1 => .string "TalkHouse$Cursor" 96
  | 2 => .string "TalkHouse$Types" 96
  | 3 => .string "TalkHouse$Types" 98
  | 4 => .string "TalkHouse$Types" 100
  | 5 => .string "TalkHouse$Types" 108
  | 6 => .string "TalkHouse$Types" 88
  | _ => .string "TalkHouse$Types" 94
theorem ts_ex : ∀ i, i < 8 → Cond.exactly (tmS i) "java/lang/String" ∈ flatC (Jvm.Cond.and given_1 narrow_1) := by decide +kernel
theorem ts_co : ∀ i, i < 8 → Cond.eq (.field (tmS i) "java/lang/String" "coder" "B") (.int 0) ∈ flatC (Jvm.Cond.and given_1 narrow_1) := by decide +kernel
theorem ts_ar : ∀ i, i < 8 → Cond.arrayOf (.field (tmS i) "java/lang/String" "value" "[B") .byte ∈ flatC (Jvm.Cond.and given_1 narrow_1) := by decide +kernel
theorem ts_le : ∀ i, i < 8 → Cond.eq (.length (.field (tmS i) "java/lang/String" "value" "[B")) (.int (Int32.ofNat (SLEN.getD i 0))) ∈ flatC (Jvm.Cond.and given_1 narrow_1) := by decide +kernel
theorem ts_el : ∀ i, i < 8 → ∀ j, j < SLEN.getD i 0 → Cond.eq (.elem (.field (tmS i) "java/lang/String" "value" "[B") (.int (Int32.ofNat j))) (.int ((STRB.getD i []).getD j 0)) ∈ flatC (Jvm.Cond.and given_1 narrow_1) := by decide +kernel
theorem ts_ne : ∀ i, i < 8 → ∀ j, j < 8 → i ≠ j → Cond.not (Cond.eq (tmS i) (tmS j)) ∈ flatC (Jvm.Cond.and given_1 narrow_1) ∨ Cond.not (Cond.eq (tmS j) (tmS i)) ∈ flatC (Jvm.Cond.and given_1 narrow_1) := by decide +kernel
theorem ts_zc : Cond.eq (.static "java/lang/String" "COMPACT_STRINGS" "Z") (.int 1) ∈ flatC (Jvm.Cond.and given_1 narrow_1) := by decide +kernel
theorem ts_zp : Cond.isRef (.static "jdk/internal/util/Preconditions" "SIOOBE_FORMATTER" "Ljava/util/function/BiFunction;") ∈ flatC (Jvm.Cond.and given_1 narrow_1) := by decide +kernel
def srO : List (String × Nat) := [("TalkHouse$Cursor", 37), ("TalkHouse$Cursor", 96), ("TalkHouse$Types", 96), ("TalkHouse$Types", 98), ("TalkHouse$Types", 100), ("TalkHouse$Types", 108), ("TalkHouse$Types", 88), ("TalkHouse$Types", 94)]
theorem srk_inv {own : String} {idx k : Nat} (h : srk own idx = some k) : k < 8 ∧ srO[k]? = some (own, idx) := by
  unfold srk at h
  split at h
  · rename_i q; cases h; rw [q.1, q.2]; exact ⟨by decide, rfl⟩
  split at h
  · rename_i q; cases h; rw [q.1, q.2]; exact ⟨by decide, rfl⟩
  split at h
  · rename_i q; cases h; rw [q.1, q.2]; exact ⟨by decide, rfl⟩
  split at h
  · rename_i q; cases h; rw [q.1, q.2]; exact ⟨by decide, rfl⟩
  split at h
  · rename_i q; cases h; rw [q.1, q.2]; exact ⟨by decide, rfl⟩
  split at h
  · rename_i q; cases h; rw [q.1, q.2]; exact ⟨by decide, rfl⟩
  split at h
  · rename_i q; cases h; rw [q.1, q.2]; exact ⟨by decide, rfl⟩
  split at h
  · rename_i q; cases h; rw [q.1, q.2]; exact ⟨by decide, rfl⟩
  · cases h
theorem sr_w : ∀ k, k < 8 → Cond.stringRef (srO.getD k ("", 0)).1 (srO.getD k ("", 0)).2 (STX.getD k "") ∈ tables_1 := by decide +kernel
theorem tm_sr : ∀ k, k < 8 → tmS k = .string (srO.getD k ("", 0)).1 (srO.getD k ("", 0)).2 := by
  intro k hk
  rcases (show k = 0 ∨ k = 1 ∨ k = 2 ∨ k = 3 ∨ k = 4 ∨ k = 5 ∨ k = 6 ∨ k = 7 by omega) with rfl | rfl | rfl | rfl | rfl | rfl | rfl | rfl <;> rfl
theorem lz_c : Cond.laysStatic "java/lang/String" "COMPACT_STRINGS" "Z" ∈ tables_1 := List.mem_of_getElem? (i := 63) (by decide +kernel)
theorem lz_p : Cond.laysStatic "jdk/internal/util/Preconditions" "SIOOBE_FORMATTER" "Ljava/util/function/BiFunction;" ∈ tables_1 := List.mem_of_getElem? (i := 79) (by decide +kernel)
theorem in_tb {w : Cond} (h : w ∈ tables_1) : w ∈ lw_tbl := List.mem_append_right _ h
theorem ws_tb {w : Cond} (h : w ∈ WS) : w ∈ lw_tbl := (List.mem_filter.mp h).1
theorem nw_tb {w : Cond} (h : w ∈ NW) : w ∈ lw_tbl := (List.mem_filter.mp h).1
theorem arr_kn {args : Array Value} {s : State} {ty : FieldType} (hty : ty = .int ∨ ty = .long ∨ ty = .boolean) (h : (Cond.arrayClass ty).before args s = true) : ∃ cA : ClassId, ArrOfT s cA ty ∧ va_RA s cA ty := by
  obtain ⟨c, k, comp, h1, h2, h3⟩ := Cond.arrayClass_spec h
  refine ⟨c, fun n z => ⟨fun k h => (by cases h), k, h2, comp, h3⟩, ?_⟩
  rcases hty with rfl | rfl | rfl <;> exact h1
set_option maxHeartbeats 4000000 in
set_option maxRecDepth 100000 in
/-- the law's walk, from the pure law -/
theorem whole_open (hpure : ∀ (L : Nat) (xs : Nat → Int32), L ≤ 6 → mLaw L xs LF IA0 IA0 J00 FA0 0 = some 1) {p : Program} {e : Env} {s : State} {m : MethodId} {below : List Frame} {meth : Method} {c : Code} (l : Launch) {b L : Nat} {xs : Nat → Int32} (hL : L ≤ 6) (C0 : lw_At p s m meth c b L xs) : W p l e room_1 s m #[Value.ref b] below meth c s.heap [] 0 0 (lw_Z below #[Value.ref b] s) (entryFrame m ([Value.ref b] : List Value).toArray 4) := by
  obtain ⟨hx, hb, hr, hml, hown, hts, hX, hbl, hlocks, hgv⟩ := id C0
  have hs := flat_of_before _ hgv
  have hA : ∀ q : Nat, s.heap.size ≤ q → (fun q : Nat => s.heap.size ≤ q) q := fun _ h => h
  have hA0 : ∀ q : Nat, q < s.heap.size → ¬ (fun q : Nat => s.heap.size ≤ q) q := fun q h z => by have : s.heap.size ≤ q := z; omega
  obtain ⟨adK, adV, hVS, hev⟩ := vk_Sof (s := s) (args := #[Value.ref b]) (N := 8) (tm := tmS) (len := SLEN) (byt := STRB) (A := fun q : Nat => s.heap.size ≤ q) (by decide +kernel) (fun i hi => hs _ (ts_ex i hi)) (fun i hi => hs _ (ts_co i hi)) (fun i hi => hs _ (ts_ar i hi)) (fun i hi => hs _ (ts_le i hi)) (fun i hi j hj => hs _ (ts_el i hi j hj)) (fun i j hi hj hn => (ts_ne i hi j hj hn).elim (fun z => Or.inl (hs _ z)) (fun z => Or.inr (hs _ z))) hA0
  have hZ1 := va_Zof (A := fun q : Nat => s.heap.size ≤ q) (hts _ (in_tb lz_c)) (hts _ (ws_tb in_RJ0)) (va_eqi (hs _ ts_zc)) hA0
  have hZ2 := va_Zqof (A := fun q : Nat => s.heap.size ≤ q) (hts _ (in_tb lz_p)) (hts _ (ws_tb in_RJ3)) (hs _ ts_zp) hA0
  obtain ⟨tq, hZ3⟩ : ∃ tq : Nat, va_Z "jdk/internal/util/Preconditions" "SIOOBE_FORMATTER" "Ljava/util/function/BiFunction;" .null (fun q : Nat => s.heap.size ≤ q) s s.heap ∨ va_Z "jdk/internal/util/Preconditions" "SIOOBE_FORMATTER" "Ljava/util/function/BiFunction;" (.ref tq) (fun q : Nat => s.heap.size ≤ q) s s.heap := by
    rcases hZ2 with z | ⟨t, z⟩
    · exact ⟨0, Or.inl z⟩
    · exact ⟨t, Or.inr z⟩
  have hkn : ∀ k : Nat, ∃ cI : ClassId × (Nat → Nat), k < 13 → u_Kn s (a_rc k) (a_tb k) (a_nf k) cI.1 cI.2 := by
    intro k
    by_cases hk : k < 13
    · have hin : ∀ w ∈ u_ws (a_rc k) (a_tb k) (a_nf k), w ∈ lw_tbl := fun w hw => ws_tb (lays_ok k hk w hw)
      have hi : ∀ k, k < 13 → Cond.instantiable (a_rc k) (a_nf k) ∈ tables_1 := by decide +kernel
      obtain ⟨cC, iS, h⟩ := u_known hts hin (hts _ (in_tb (hi k hk)))
      exact ⟨(cC, iS), fun _ => h⟩
    · exact ⟨(0, fun _ => 0), fun h => absurd h hk⟩
  obtain ⟨dcI, hdcI⟩ := Classical.axiomOfChoice hkn
  obtain ⟨c0, hc0⟩ := arr_kn (Or.inl rfl) (hts _ (ws_tb ac_int))
  obtain ⟨c1, hc1⟩ := arr_kn (Or.inr (Or.inl rfl)) (hts _ (ws_tb ac_long))
  obtain ⟨c2, hc2⟩ := arr_kn (Or.inr (Or.inr rfl)) (hts _ (ws_tb ac_boolean))
  obtain ⟨g, hg1⟩ : ∃ g : a_GT, g = ((fun k => (dcI k).1, fun k => (dcI k).2), fun t => if t = 0 then c0 else if t = 1 then c1 else c2) := ⟨_, rfl⟩
  have hK : va_K g.1 vwCl (a_tys g) s := by
    subst hg1
    refine ⟨fun k q hq => ?_, fun k q hq => ?_⟩
    · have hk : k < 13 := (List.getElem?_eq_some_iff.mp hq).1
      rw [a_clc k hk] at hq
      cases hq
      exact hdcI k hk
    · have hk : k < 3 := (List.getElem?_eq_some_iff.mp hq).1
      rcases (show k = 0 ∨ k = 1 ∨ k = 2 by omega) with rfl | rfl | rfl
      · cases hq; exact hc0
      · cases hq; exact hc1
      · cases hq; exact hc2
  obtain ⟨σ, hσ⟩ : ∃ σ : Nat → Nat, σ = fun a => if a = 2000000 then b else if a = 1000300 then tq else if 1000100 ≤ a then adV (a - 1000100) else adK (a - 1000000) := ⟨_, rfl⟩
  have s1 : σ 2000000 = b := by rw [hσ]; rfl
  have s2 : σ 1000300 = tq := by rw [hσ]; rfl
  have hKK : KK L xs s s.heap (fun q : Nat => s.heap.size ≤ q) σ := by
    refine ⟨⟨?_, hZ1, by rw [s2]; exact hZ3, fun k own idx hk => ?_⟩, by rw [s1]; exact hX, by rw [s1]; exact hbl, by rw [s1]; exact hA0 _ hbl⟩
    · have e1 : ∀ i, i < 8 → σ (1000000 + i) = adK i := by
        intro i hi
        rw [hσ]
        show (if _ then _ else _) = _
        rw [if_neg (by omega), if_neg (by omega), if_neg (by omega), show 1000000 + i - 1000000 = i by omega]
      have e2 : ∀ i, i < 8 → σ (1000100 + i) = adV i := by
        intro i hi
        rw [hσ]
        show (if _ then _ else _) = _
        rw [if_neg (by omega), if_neg (by omega), if_pos (by omega), show 1000100 + i - 1000100 = i by omega]
      refine ⟨fun i hi => ?_, fun i j hi hj hij => ?_⟩
      · dsimp only
        rw [e1 i hi, e2 i hi]
        exact hVS.1 i hi
      · dsimp only at hij
        rw [e1 i hi, e1 j hj] at hij
        exact hVS.2 i j hi hj hij
    · obtain ⟨hk8, hk2⟩ := srk_inv hk
      have e1 : σ (1000000 + k) = adK k := by
        rw [hσ]
        show (if _ then _ else _) = _
        rw [if_neg (by omega), if_neg (by omega), if_neg (by omega), show 1000000 + k - 1000000 = k by omega]
      have e3 : srO.getD k ("", 0) = (own, idx) := by rw [List.getD_eq_getElem?_getD, hk2]; rfl
      have hw := sr_w k hk8
      have hv := hev k hk8
      rw [tm_sr k hk8, e3] at hv
      rw [e3] at hw
      rw [e1]
      exact vk_R.of (hts _ (in_tb hw)) hv
  have hE := law_E (l := l) (g := g) kk_ok (str_ok kk_ok kk_T) kk_X (hpure L xs hL)
  rw [lg_entry_eq]
  have hcv : ([Value.ref b] : List Value) = [Value.ref 2000000].map (a_cv σ) := by rw [List.map_cons, a_cvr (by omega), s1]; rfl
  have hl0 := a_entry (σ := σ) (nL := 4) (as := [Value.ref 2000000]) (by decide)
  rw [← hcv] at hl0
  have hw0 : a_w g σ (hq 0 I00 J00 F00) = [] := rfl
  refine hE p e s m #[Value.ref b] below meth c ⟨hx, hb, hr, hml, hown, fun w hw => hts w (ws_tb hw), fun w hw => va_Nw.of (nw_on hw) (hts w (nw_tb hw)), hlocks, fun q => absurd q (by decide), hK⟩ room_1 (by decide) (by decide) σ (fun q : Nat => s.heap.size ≤ q) s.heap [] _ 0 0 _ (by decide) (by decide) ⟨by rw [hw0]; exact fun k q h => by simp at h, by rw [hw0]; exact ⟨fun i j p q h => by simp at h, fun k q h => by simp at h⟩, va_S.rf, hA, hKK⟩ hl0 ?_
  intro r h' σ' H' locs' lsA' pc' cells' slots' hq ha hext hc hs' hσ' hret
  obtain ⟨hP', hD', hS', hA', hK'⟩ := ha
  subst hq
  rcases hret with ⟨q1, -, -⟩ | ⟨x1, ty, q1, q2, q3, q4⟩ | ⟨x1, q1, -, -⟩
  · cases q1
  · cases q1
    refine va_forget (fun q hq => hS'.2.2 q hq) ?_
    refine W.widen (k := 600000) (n := 7302250) (by omega) (by omega) ?_
    exact lw_ret hx hb hr hlocks q4
  · cases q1
