/-! THE CHANNEL GIVEN JOINS THE PARAMS (pure) -/
theorem sr_first {k h M : Nat} {L : lT} {I B : iT} {J : jT} {S : List Sl} {a6 a8 a0 : List Int32} (H : QR k h M L I B J S a6 a8 a0) (hT : tabL k L) {g : List Nat} (hg : isN g) (hno : ∀ (i : Nat) (s : Sl), S[i]? = some s → s.2.1 ≠ g) {uu tt p : Nat} (hp : p ≤ 200) (hTR : TR k L B J (fun v => 1400 * h ≤ v ∧ v < M) p uu tt p) :
    ∃ I', mX5_set I 0 (nI (cN g)) (nI tt) = some I' ∧ SR k h M L I' (a_u2 (a_u2 (a_u2 B 208 S.length 1) 209 S.length (nI uu)) 186 43 (nI (S.length + 1))) (a_u2 J 206 S.length (lN (rN g))) S.length 0 ((2, g, uu, tt, p) :: S) (a6.set 0 (nI (cN g))) (a8.set 0 (nI tt)) a0 ∧ (∀ q, ¬ (136 ≤ q ∧ q ≤ 139) → I' q = I q) := by
  obtain ⟨g1, ⟨y1, y2, y3, y4, y5, y6⟩, g3, g4⟩ := H
  obtain ⟨I', a1, a2, a3⟩ := sw_set g1 (lv := 0) (i := 0) y1 (by omega) (by omega) (nI (cN g)) (nI tt)
  rw [Nat.zero_mul, Nat.zero_add] at a2
  have hl6 : a6.length = 765 := g1.2.2.2.1
  have hl8 : a8.length = 765 := g1.2.2.2.2.1
  have fB : ∀ q i, ¬ (q = 186 ∧ i = 43) → ¬ ((q = 208 ∨ q = 209) ∧ i = S.length) → (a_u2 (a_u2 (a_u2 B 208 S.length 1) 209 S.length (nI uu)) 186 43 (nI (S.length + 1))) q i = B q i := fun q i w1 w2 => by rw [a_u2_n _ _ w1, a_u2_n _ _ (by omega), a_u2_n _ _ (by omega)]
  have fJ : ∀ q i, ¬ (q = 206 ∧ i = S.length) → (a_u2 J 206 S.length (lN (rN g))) q i = J q i := fun q i w => a_u2_n _ _ w
  have g208 : (a_u2 (a_u2 (a_u2 B 208 S.length 1) 209 S.length (nI uu)) 186 43 (nI (S.length + 1))) 208 S.length = 1 := by rw [a_u2_n _ _ (by omega), a_u2_n _ _ (by omega), a_u2_s]
  have g209 : (a_u2 (a_u2 (a_u2 B 208 S.length 1) 209 S.length (nI uu)) 186 43 (nI (S.length + 1))) 209 S.length = nI uu := by rw [a_u2_n _ _ (by omega), a_u2_s]
  have g43 : (a_u2 (a_u2 (a_u2 B 208 S.length 1) 209 S.length (nI uu)) 186 43 (nI (S.length + 1))) 186 43 = nI (S.length + 1) := a_u2_s _ _ _ _
  have g206 : (a_u2 J 206 S.length (lN (rN g))) 206 S.length = lN (rN g) := a_u2_s _ _ _ _
  generalize (a_u2 (a_u2 (a_u2 B 208 S.length 1) 209 S.length (nI uu)) 186 43 (nI (S.length + 1))) = B2 at fB g208 g209 g43 ⊢
  generalize (a_u2 J 206 S.length (lN (rN g))) = J2 at fJ g206 ⊢
  have hA : ∀ v, (B2 188 v = B 188 v ∧ B2 189 v = B 189 v ∧ B2 190 v = B 190 v ∧ B2 191 v = B 191 v ∧ J2 192 v = J 192 v) := fun v => ⟨fB _ _ (by omega) (by omega), fB _ _ (by omega) (by omega), fB _ _ (by omega) (by omega), fB _ _ (by omega) (by omega), fJ _ _ (by omega)⟩
  have tr2 : ∀ {p u t : Nat}, TR k L B J (fun v => 1400 * h ≤ v ∧ v < M) p u t p → TR k L B2 J2 (fun v => 1400 * h ≤ v ∧ v < M) p u t p := fun z => tr_to hT TE.rfl (fun v _ => hA v) (fun v hv => hv) _ _ _ _ _ (Nat.le_refl _) z
  have hcons : ∀ (i : Nat) (s : Sl), ((2, g, uu, tt, p) :: S)[i]? = some s → (i = 0 ∧ s = (2, g, uu, tt, p)) ∨ (∃ j, i = j + 1 ∧ S[j]? = some s) := by
    intro i s he
    cases i with
    | zero =>
      rw [List.getElem?_cons_zero] at he
      exact Or.inl ⟨rfl, (Option.some.inj he).symm⟩
    | succ j =>
      rw [List.getElem?_cons_succ] at he
      exact Or.inr ⟨j, rfl, he⟩
  refine ⟨I', a1, ⟨a2, ⟨by rw [a3 135 (by omega)]; exact y1, by omega, y2, by rw [List.length_cons]; omega, y3, by rw [List.length_cons]; omega, g43⟩, fun i s he => ?_, fun i j s1 s2 e1 e2 n1 n2 en => ?_, (2, g, uu, tt, p), rfl, rfl⟩, a3⟩
  · rcases hcons i s he with ⟨x, rfl⟩ | ⟨j, x, he2⟩
    · subst x
      refine ⟨Nat.le_refl _, ⟨?_, ?_⟩, ?_, fun _ => ⟨hg, ?_⟩, fun _ => ⟨?_, hp, tr2 hTR⟩⟩
      · show gI (a6.set 0 (nI (cN g))) (0 * 85 + 0) = nI (cN g)
        exact gI_se (by omega) _
      · show gI (a8.set 0 (nI tt)) (0 * 85 + 0) = nI tt
        exact gI_se (by omega) _
      · show J2 206 (sg S.length 0) = lN (rN g)
        exact g206
      · show B2 208 (sg S.length 0) = 1
        exact g208
      · show B2 209 (sg S.length 0) = nI uu
        exact g209
    · subst x
      have hj : j < S.length := (List.getElem?_eq_some_iff.mp he2).1
      obtain ⟨w1, w2, w3, w4, w5, w6, w7⟩ := g3 j s he2
      have hs0 : ¬ s.1 = 0 := by omega
      have hsg : sg S.length (j + 1) = j := by
        rcases sg_spec S.length (j + 1) with z | z | z <;> omega
      have e0 : 0 * 85 + (j + 1) = j + 1 := by omega
      refine ⟨by omega, ⟨?_, ?_⟩, ?_, fun _ => ⟨w2, ?_⟩, fun q => ?_⟩
      · rw [e0, gI_sn (by omega), if_neg hs0]; exact w3
      · rw [e0, gI_sn (by omega)]; exact w4
      · rw [hsg, if_neg hs0, fJ _ _ (by omega)]; exact w5
      · rw [hsg, fB _ _ (by omega) (by omega), w6]
        by_cases z : s.1 = 1
        · rw [if_pos z, if_pos z]
        · rw [if_neg z, if_neg z, if_neg (by omega)]
      · obtain ⟨v1, v2, v3⟩ := w7 q
        exact ⟨by rw [hsg, fB _ _ (by omega) (by omega)]; exact v1, v2, tr2 v3⟩
  · rcases hcons i s1 e1 with ⟨x, f1⟩ | ⟨i', x, f1⟩
    · rcases hcons j s2 e2 with ⟨x2, f2⟩ | ⟨j', x2, f2⟩
      · omega
      · exact absurd (by rw [← en, f1]) (hno j' s2 f2)
    · rcases hcons j s2 e2 with ⟨x2, f2⟩ | ⟨j', x2, f2⟩
      · exact absurd (by rw [en, f2]) (hno i' s1 f1)
      · have := g4 i' j' s1 s2 f1 f2 n1 n2 en
        omega
/-- the reference's end of a DEF -/
def dfE (h d m : Nat) (B : iT) (J : jT) : Option (Int32 × iT × jT) := some (1, a_u2 (a_u2 (a_u2 B 201 d (B 186 49)) 202 d (B 186 44)) 205 h (nI (m + 1)), J)
def dfG (B : iT) (J : jT) (x1 : Int32) : Option (Int32 × iT × jT) := if inb x1 24 then if inb x1 24 then if inb ((a_u2 (a_u2 B 201 x1.toNatClampNeg (B 186 49)) 202 x1.toNatClampNeg ((a_u2 B 201 x1.toNatClampNeg (B 186 49)) 186 44)) 186 32) 2 then if inb ((a_u2 (a_u2 B 201 x1.toNatClampNeg (B 186 49)) 202 x1.toNatClampNeg ((a_u2 B 201 x1.toNatClampNeg (B 186 49)) 186 44)) 186 32) 2 then some (1, a_u2 (a_u2 (a_u2 B 201 x1.toNatClampNeg (B 186 49)) 202 x1.toNatClampNeg ((a_u2 B 201 x1.toNatClampNeg (B 186 49)) 186 44)) 205 ((a_u2 (a_u2 B 201 x1.toNatClampNeg (B 186 49)) 202 x1.toNatClampNeg ((a_u2 B 201 x1.toNatClampNeg (B 186 49)) 186 44)) 186 32).toNatClampNeg (((a_u2 (a_u2 B 201 x1.toNatClampNeg (B 186 49)) 202 x1.toNatClampNeg ((a_u2 B 201 x1.toNatClampNeg (B 186 49)) 186 44)) 205 ((a_u2 (a_u2 B 201 x1.toNatClampNeg (B 186 49)) 202 x1.toNatClampNeg ((a_u2 B 201 x1.toNatClampNeg (B 186 49)) 186 44)) 186 32).toNatClampNeg) + 1), J) else none else none else none else none
theorem dfG_eq {h d m : Nat} {B : iT} {J : jT} (hh : h < 2) (hd : d < 24) (e32 : B 186 32 = nI h) (e205 : B 205 h = nI m) : dfG B J (nI d) = dfE h d m B J := by
  have c2 : (nI h).toNatClampNeg = h := nI_clamp (by omega)
  have c24 : (nI d).toNatClampNeg = d := nI_clamp (by omega)
  have i2 : inb (nI h) 2 := vp_in_nI hh (by omega)
  have i24 : inb (nI d) 24 := vp_in_nI hd (by omega)
  have f1 : ∀ v w, (a_u2 (a_u2 B 201 d v) 202 d w) 186 32 = nI h := fun v w => by rw [a_u2_n _ _ (by omega), a_u2_n _ _ (by omega)]; exact e32
  have f2 : ∀ v w, (a_u2 (a_u2 B 201 d v) 202 d w) 205 h = nI m := fun v w => by rw [a_u2_n _ _ (by omega), a_u2_n _ _ (by omega)]; exact e205
  have f3 : ∀ v, (a_u2 B 201 d v) 186 44 = B 186 44 := fun v => a_u2_n _ _ (by omega)
  unfold dfG dfE
  simp only [c24, f1, c2, f2, f3, nI_1, if_pos i2, if_pos i24]
def dfP (B : iT) (J : jT) (x1 : Int32) : Option (Int32 × iT × jT) := (mX12_readProcess SF B J).bind fun q16 => if q16.1 = 0 then some (0, q16.2.1, q16.2.2) else dfG q16.2.1 q16.2.2 x1
/-- the reference behind the ) in pieces -/
def dfW (B : iT) (J : jT) (x1 : Int32) : Option (Int32 × iT × jT) := (mX12_wholeType B J).bind fun q13 => if q13.1 = 0 then some (0, q13.2.1, q13.2.2) else if inb x1 24 then if inb x1 24 then (mX12_newSlot (a_u2 q13.2.1 200 x1.toNatClampNeg (q13.2.1 186 36)) q13.2.2 (q13.2.2 196 x1.toNatClampNeg) 1 ((a_u2 q13.2.1 200 x1.toNatClampNeg (q13.2.1 186 36)) 186 36)).bind fun q14 => (mX12_need (a_u2 q14.2.1 186 51 q14.1) q14.2.2 61).bind fun q15 => if q15.1 = 0 then some (0, q15.2.1, q15.2.2) else (mX12_readProcess SF q15.2.1 q15.2.2).bind fun q16 => if q16.1 = 0 then some (0, q16.2.1, q16.2.2) else dfG q16.2.1 q16.2.2 x1 else none else none
theorem dfX_eq (B : iT) (J : jT) (x1 x2 : Int32) : dfX B J x1 x2 = if inb x1 24 then (mX12_isFree (a_u2 B 198 x1.toNatClampNeg x2) J).bind fun q10 => if q10.1 = 0 then some (0, q10.2, J) else if inb x1 24 then (mX12_look0 q10.2 (a_u2 J 196 x1.toNatClampNeg (J 186 6))).bind fun q11 => (mX12_need q11.1 q11.2 58).bind fun q12 => if q12.1 = 0 then some (0, q12.2.1, q12.2.2) else dfW q12.2.1 q12.2.2 x1 else none else none := rfl
