/-! A PROCESS that waits; one that acts (pure) -/
section
variable {sp : Int32} {k h md : Nat} {D : List Df} {L : lT} {B0 : iT} {J0 : jT} {F : fT} {I B : iT} {J : jT} {np nm dn sd : Nat} {R : lT} {z : Nat → Prop} {p : Nat} {Γ : Nat → Gm} {ch : Nat → Nat → Nat} {rl dp : Nat → Nat} {ow : Nat → Nat × Nat × Nat} {Gt Ht : Nat → Nat} {q : Nat → List Nat} {mr rk : Nat → Nat} {Q Rn Rc : Nat → Prop}
/-- kinds of nodes: who reads, where -/
theorem ph_rd {n u κ l : Nat} {D : List Df} {G : Gm} {X : Nat → Nat → Nat → Gm → Prop} (h : PH k n D L B0 J0 Q Rn Rc X u κ l G) : (∃ i t, ((B0 188 u = 41 ∧ gI (L (k + 47)) κ = 316) ∨ (B0 188 u = 43 ∧ gI (L (k + 47)) κ = 304) ∨ (B0 188 u = 45 ∧ gI (L (k + 47)) κ = 306) ∨ (B0 188 u = 47 ∧ gI (L (k + 47)) κ = 308)) ∧ B0 189 u = nI (sg n i) ∧ gI (L (k + 49)) κ = nI i ∧ G[i]? = some (2, t)) ∨ (B0 188 u ≠ 41 ∧ B0 188 u ≠ 43 ∧ B0 188 u ≠ 45 ∧ B0 188 u ≠ 47 ∧ gI (L (k + 47)) κ ≠ 316 ∧ gI (L (k + 47)) κ ≠ 304 ∧ gI (L (k + 47)) κ ≠ 306 ∧ gI (L (k + 47)) κ ≠ 308) := by
  obtain ⟨_, _, _, _, h⟩ := h
  rcases h with ⟨_, a, b, _⟩ | ⟨i, t, _, _, a, b, c, d, _, e, _⟩ | ⟨_, _, _, _, _, _, _, _, _, a, b, _⟩ | ⟨i, t, _, _, _, a, b, c, d, e, _⟩ | ⟨_, _, _, _, _, _, _, a, b, _⟩ | ⟨i, t, _, _, _, _, a, b, c, d, e, _⟩ | ⟨_, _, _, _, _, _, _, _, _, a, b, _⟩ | ⟨i, t, _, _, _, _, a, b, c, d, e, _⟩ | ⟨_, _, _, _, _, _, a, b, _⟩ | ⟨_, _, _, _, a, b, _⟩ | ⟨_, _, a, b, _⟩ | ⟨_, _, _, _, _, _, a, b, _⟩ | ⟨_, _, _, _, _, _, _, _, _, a, b, _⟩
  all_goals first
    | exact Or.inl ⟨i, t, Or.inl ⟨a, b⟩, c, d, e⟩
    | exact Or.inl ⟨i, t, Or.inr (Or.inl ⟨a, b⟩), c, d, e⟩
    | exact Or.inl ⟨i, t, Or.inr (Or.inr (Or.inl ⟨a, b⟩)), c, d, e⟩
    | exact Or.inl ⟨i, t, Or.inr (Or.inr (Or.inr ⟨a, b⟩)), c, d, e⟩
    | (right; rw [a, b]; exact ⟨by decide, by decide, by decide, by decide, by decide, by decide, by decide, by decide⟩)
theorem nil_1 {r : Nat} {l : List Nat} (h1 : QCc R r l) (h2 : QCr B r l) (hl : l.length < 1000) : (if (0 : Int32) < gI (R 156) r then some (0 : Int32) else some 1) = some (if l = [] then 1 else 0) ∧ (if B 221 r = -1 then some (1 : Int32) else some 0) = some (if l = [] then 1 else 0) := by
  have e := rq_ne h2.1
  by_cases c : l = []
  · rw [if_pos c, if_pos (e.mpr c), h1.1, c, if_neg (by decide)]
    exact ⟨rfl, rfl⟩
  · rw [if_neg c, if_neg (fun y => c (e.mp y)), h1.1]
    have : 0 < l.length := by cases l with | nil => exact absurd rfl c | cons _ _ => simp
    rw [if_pos (show (0 : Int32) < nI l.length from nI_lt (a := 0) this (by omega))]
    exact ⟨rfl, rfl⟩
theorem wait_ok (hF : F 148 12 = k) (hBK : BK k h md D L B0 J0) (hSB : SB h B0 J0 B J) (hK : RK I k L) (hN : RN I R) (hPC : PCc np R B) (hT : TYI k L np nm (fun p => gI (R 168) p = 0) Γ ch rl ow Gt Ht q mr rk (gI (R 158)) (gI (R 160))) (hC : CHC np R B rl dp) (hnm : nm ≤ 600) (hQ : QAL np rl q R B J) (hp : p < np) (hal : gI (R 168) p = 0) (hP : PRC k D L B0 J0 np rl ch R B z p (Γ p)) : ∃ w, mX6_isWaiting I F (nI p) = some w ∧ mX12_waits B (nI p) = some w ∧ (w = 0 ∨ w = 1) ∧ (w = 0 → ∀ (n u κ i t : Nat), B 213 p = nI u → gI (R 166) p = nI κ → u < 2 ^ 31 → κ < 2 ^ 31 → (gI (L (k + 47)) κ = 316 ∨ gI (L (k + 47)) κ = 304 ∨ gI (L (k + 47)) κ = 306 ∨ gI (L (k + 47)) κ = 308) → gI (L (k + 49)) κ = nI i → i < 85 → ∃ m l, q (rdX rl ch p i) = m :: l) := by
  have hk := hK.1
  obtain ⟨f, e, u, κ, l, m, Q, Rn, Rc, a1, a2, a3, a4, a5, a6, a7, a8, a9, a10, a11, a12⟩ := hP
  obtain ⟨d1, d2, d3⟩ := bk_def hBK a1
  have h80 := ty_80 hT
  have hp80 : p < 80 := by omega
  obtain ⟨m, rfl⟩ : ∃ y, m = y + 1 := by
    cases m with
    | zero => exact a5.elim
    | succ m => exact ⟨m, rfl⟩
  have hu : u < 2800 := a5.1
  have hκ : κ < 2 ^ 31 := by
    have := a5.2.2.1
    have := hBK.2.2.2.2.2.2.2.2.1.2.1
    omega
  have g219 : B 219 (nI p).toNatClampNeg = 0 := by rw [congrArg (B 219) (cl80 hp80), (hPC.2 p hp).2.1]; exact hal
  have g213 : B 213 (nI p).toNatClampNeg = nI u := by rw [congrArg (B 213) (cl80 hp80)]; exact a4
  have g188 : B 188 (nI u).toNatClampNeg = B0 188 u := by rw [congrArg (B 188) (cl28 hu), hSB.1 188 (by omega) (by omega)]
  have g189 : B 189 (nI u).toNatClampNeg = B0 189 u := by rw [congrArg (B 189) (cl28 hu), hSB.1 189 (by omega) (by omega)]
  have c0 : mX6_isWaiting I F (nI p) = (if gI (L (k + 47)) κ = 304 then mX6_isWaiting_49 I F (nI p) (nI κ) (gI (L (k + 47)) κ) else if gI (L (k + 47)) κ = 306 then mX6_isWaiting_49 I F (nI p) (nI κ) (gI (L (k + 47)) κ) else if gI (L (k + 47)) κ = 308 then mX6_isWaiting_49 I F (nI p) (nI κ) (gI (L (k + 47)) κ) else if gI (L (k + 47)) κ = 316 then mX6_isWaiting_49 I F (nI p) (nI κ) (gI (L (k + 47)) κ) else mX6_isWaiting_54 I F (nI p) (nI κ) (gI (L (k + 47)) κ) 0) := by
    unfold mX6_isWaiting
    rw [rn_g hN (by unfold rnA; omega) (by omega), sb, a3, hF, rk_g hK (by unfold rkA; omega) hκ, sb]
  have r0 : mX12_waits B (nI p) = (mX12_isReading (B0 188 u)).bind fun q1 => if q1 = 0 then some 0 else if inb (nI u) 2800 then (mX12_reads B (nI p) (B0 189 u)).bind fun q2 => if inb q2 160 then if (B 221 q2.toNatClampNeg) = ((-1)) then some 1 else some 0 else none else none := by
    unfold mX12_waits
    rw [if_pos (in80 hp80), if_pos (in80 hp80), if_pos g219, g213, if_pos (in28 hu), g188, g189]
  rcases ph_rd a5 with ⟨i, t, hkk, b1, b2, b3⟩ | ⟨y1, y2, y3, y4, y5, y6, y7, y8⟩
  · have hi : i < 85 := by have := (List.getElem?_eq_some_iff.mp b3).1; omega
    obtain ⟨x, y, x1, x2, x3, x4, x5, x6⟩ := a11 i t b3
    obtain ⟨e1, e2, _⟩ := ty_ch hT hp hal b3
    have hrd := (rw_ok hC hp80 hi d2 hSB.2.2.1 hBK.2.1 (show B 212 p = nI f by rw [(hPC.2 p hp).2.2.2.2.2.1]; exact a2) d1 (by rw [hSB.1 198 (by omega) (by omega)]; exact d3) x2 x4 x6).2
    have er := rdX_eq (rl := rl) (ch := ch) p i
    have hs : (if i = 0 then 1 else 0) < 2 := by split <;> omega
    obtain ⟨q1, q2, _⟩ := hQ _ e1 e2 _ hs
    rw [← er] at q1 q2
    obtain ⟨nd, ml⟩ := ty_q hT e1 e2 hs
    rw [← er] at nd ml
    have hlen := nd_len nm _ nd (fun m hm => (ml m hm).1)
    obtain ⟨n1, n2⟩ := nil_1 q1 q2 (by omega)
    refine ⟨if q (rdX rl ch p i) = [] then 1 else 0, ?_, ?_, by split <;> simp, fun hw n' u' κ' i' t' v1 v2 v3 v4 v5 v6 v7 => ?_⟩
    · have c1 : mX6_isWaiting_49 I F (nI p) (nI κ) (gI (L (k + 47)) κ) = some (if q (rdX rl ch p i) = [] then 1 else 0) := by
        unfold mX6_isWaiting_49 mX6_isWaiting_54 mX1_count
        rw [if_neg (by decide), rn_g hN (by unfold rnA; omega) (by omega), sb, if_pos hal, to_ok hF hK hN hC hp80 hκ hi b2 x1 x3 x5, sb, std_ok hF hK hκ hi b2, sb, r2s, ← er, rn_g hN (by unfold rnA; omega) (by have := er; omega), sb]
        exact n1
      rw [c0]
      rcases hkk with ⟨_, w⟩ | ⟨_, w⟩ | ⟨_, w⟩ | ⟨_, w⟩
      · rw [w] at c1 ⊢
        rw [if_neg (by decide), if_neg (by decide), if_neg (by decide), if_pos rfl]; exact c1
      · rw [w] at c1 ⊢
        rw [if_pos rfl]; exact c1
      · rw [w] at c1 ⊢
        rw [if_neg (by decide), if_pos rfl]; exact c1
      · rw [w] at c1 ⊢
        rw [if_neg (by decide), if_neg (by decide), if_pos rfl]; exact c1
    · have hir : mX12_isReading (B0 188 u) = some 1 := by
        rcases hkk with ⟨w, _⟩ | ⟨w, _⟩ | ⟨w, _⟩ | ⟨w, _⟩ <;> rw [w] <;> rfl
      have hlt : rdX rl ch p i < 160 := by have := er; omega
      rw [r0, hir, sb, if_neg (by decide), if_pos (in28 hu), b1, hrd, sb, if_pos (in160 hlt), cl160 hlt]
      exact n2
    · have eκ : κ' = κ := by
        rw [a3] at v2
        exact ((nI_eq hκ v4).mp v2).symm
      subst eκ
      have ei : i' = i := by
        rw [b2] at v6
        exact ((nI_eq (by omega) (by omega)).mp v6).symm
      subst ei
      cases hq : q (rdX rl ch p i') with
      | nil => rw [hq, if_pos rfl] at hw; exact absurd hw (by decide)
      | cons m l => exact ⟨m, l, rfl⟩
  · refine ⟨0, ?_, ?_, Or.inl rfl, fun _ n' u' κ' i' t' v1 v2 v3 v4 v5 v6 v7 => ?_⟩
    · rw [c0, if_neg y6, if_neg y7, if_neg y8, if_neg y5]
      rfl
    · rw [r0]
      unfold mX12_isReading
      rw [if_neg y2, if_neg y3, if_neg y4, if_neg y1, sb, if_pos rfl]
    · have eκ : κ' = κ := by
        rw [a3] at v2
        exact ((nI_eq hκ v4).mp v2).symm
      subst eκ
      rcases v5 with w | w | w | w
      · exact absurd w y5
      · exact absurd w y6
      · exact absurd w y7
      · exact absurd w y8
end
