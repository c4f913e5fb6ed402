/-! ALIKE: the reference compares trees, the class numbers (pure) -/
theorem al_succ (n : Nat) (B : iT) (J : jT) (x y : Int32) : mX12_alike (n + 1) B J x y = bX12_alike (sc_12alike n) B J x y := rfl
theorem al_self (n : Nat) (B : iT) (J : jT) (x : Int32) : mX12_alike (n + 1) B J x x = some 1 := by
  rw [al_succ]
  unfold bX12_alike
  rw [if_pos rfl]
theorem al_m1 (n : Nat) (B : iT) (J : jT) {u : Nat} (h : u < 2800) : mX12_alike (n + 1) B J (-1) (nI u) = some 0 ∧ mX12_alike (n + 1) B J (nI u) (-1) = some 0 := by
  have e1 : ¬ nI u = -1 := nIm (by omega)
  constructor
  · rw [al_succ]
    unfold bX12_alike
    rw [if_neg (fun z => e1 z.symm), if_pos rfl]
  · rw [al_succ]
    unfold bX12_alike
    rw [if_neg e1, if_neg e1, if_pos rfl]
theorem al_step (n : Nat) (B : iT) (J : jT) {u v : Nat} (hu : u < 2800) (hv : v < 2800) (hne : u ≠ v) : mX12_alike (n + 1) B J (nI u) (nI v) = if B 188 u = B 188 v then if J 192 u = J 192 v then (mX12_alike n B J (B 189 u) (B 189 v)).bind fun q1 => if q1 = 0 then some 0 else (mX12_alike n B J (B 190 u) (B 190 v)).bind fun q2 => if q2 = 0 then some 0 else if B 188 u = 8 then (mX12_alike n B J (B 191 u) (B 191 v)).bind fun q3 => if q3 = 0 then some 0 else some 1 else some 1 else some 0 else some 0 := by
  have iu := in28 hu
  have iv := in28 hv
  have cu := cl28 hu
  have cv := cl28 hv
  rw [al_succ]
  unfold bX12_alike
  rw [if_neg (fun z => hne ((nI_eq (by omega) (by omega)).mp z)), if_neg (nIm (by omega)), if_neg (nIm (by omega)), if_pos iu, if_pos iv, congrArg (B 188) cu, congrArg (B 188) cv]
  by_cases q1 : B 188 u = B 188 v
  · rw [if_pos q1, if_pos q1, if_pos iu, if_pos iv, congrArg (J 192) cu, congrArg (J 192) cv]
    by_cases q2 : J 192 u = J 192 v
    · rw [if_pos ((lg_eq0 _ _).mpr q2), if_pos q2, if_pos iu, if_pos iv, congrArg (B 189) cu, congrArg (B 189) cv, congrArg (B 190) cu, congrArg (B 190) cv, congrArg (B 191) cu, congrArg (B 191) cv, if_pos iu, if_pos iv, if_pos iu, if_pos iu, if_pos iv]
      rfl
    · rw [if_neg (fun z => q2 ((lg_eq0 _ _).mp z)), if_neg q2]
  · rw [if_neg q1, if_neg q1]
def ntB (l : List Br) : List (List Nat × Nat) := l.map (fun e => (e.2.1, e.2.2.2.1))
section
variable {k : Nat} {L : lT} {B : iT} {J : jT}
theorem al_chain (b1 : List Br) : ∀ (b2 : List Br) (x1 x2 : Int32) (n : Nat), chain B J x1 b1 → chain B J x2 b2 → (∀ e ∈ b1, isN e.2.1 ∧ 1 ≤ e.2.2.2.2) → (∀ e ∈ b2, isN e.2.1) → (∀ e ∈ b1, ∀ e' ∈ b2, ∀ n, 2 * e.2.2.2.2 + 1 ≤ n → mX12_alike n B J (nI e.2.2.1) (nI e'.2.2.1) = some (if e.2.2.2.1 = e'.2.2.2.1 then 1 else 0)) → 2 * psm b1 + 2 ≤ n → mX12_alike n B J x1 x2 = some (if ntB b1 = ntB b2 then 1 else 0) := by
  induction b1 with
  | nil =>
    intro b2 x1 x2 n h1 h2 _ _ _ hn
    obtain ⟨n, rfl⟩ : ∃ m, n = m + 1 := ⟨n - 1, by omega⟩
    have e1 : x1 = -1 := h1
    cases b2 with
    | nil =>
      have e2 : x2 = -1 := h2
      rw [e1, e2, al_self, if_pos rfl]
    | cons e l =>
      rw [e1, h2.1, (al_m1 n B J h2.2.1).1, if_neg (by unfold ntB; simp)]
  | cons e l ih =>
    intro b2 x1 x2 n h1 h2 hN1 hN2 hA hn
    obtain ⟨n, rfl⟩ : ∃ m, n = m + 1 := ⟨n - 1, by omega⟩
    obtain ⟨a1, a2, a3, a4, a5, a6, a7⟩ := h1
    have hps : psm (e :: l) = e.2.2.2.2 + psm l := rfl
    have hp1 := (hN1 e (by simp)).2
    cases b2 with
    | nil =>
      have e2 : x2 = -1 := h2
      rw [a1, e2, (al_m1 n B J a2).2, if_neg (by unfold ntB; simp)]
    | cons e' l' =>
      obtain ⟨c1, c2, c3, c4, c5, c6, c7⟩ := h2
      have hw := rN_inj (hN1 e (by simp)).1.1 (hN2 e' (by simp)).1 (hN1 e (by simp)).1.2.2 (hN2 e' (by simp)).2.2
      have hone := hA e (by simp) e' (by simp) n (by omega)
      have hnext := ih l' (B 191 e.1) (B 191 e'.1) n a7 c7 (fun y hy => hN1 y (by simp [hy])) (fun y hy => hN2 y (by simp [hy])) (fun y hy y' hy' => hA y (by simp [hy]) y' (by simp [hy'])) (by omega)
      have hcons : ntB (e :: l) = ntB (e' :: l') ↔ (e.2.1 = e'.2.1 ∧ e.2.2.2.1 = e'.2.2.2.1) ∧ ntB l = ntB l' := by
        unfold ntB
        simp
      obtain ⟨n, rfl⟩ : ∃ m, n = m + 1 := ⟨n - 1, by omega⟩
      rw [a1, c1]
      by_cases hs : e.1 = e'.1
      · rw [hs, al_self]
        have z1 : e.2.1 = e'.2.1 := hw.mp (by rw [← a6, ← c6, hs])
        have z2 : e.2.2.2.1 = e'.2.2.2.1 := by
          have : B 189 e.1 = B 189 e'.1 := by rw [hs]
          rw [a4, c4] at this
          rw [this, al_self] at hone
          by_cases y : e.2.2.2.1 = e'.2.2.2.1
          · exact y
          · rw [if_neg y] at hone; exact absurd hone (by decide)
        have z3 : ntB l = ntB l' := by
          have : B 191 e.1 = B 191 e'.1 := by rw [hs]
          rw [this, al_self] at hnext
          by_cases y : ntB l = ntB l'
          · exact y
          · rw [if_neg y] at hnext; exact absurd hnext (by decide)
        rw [if_pos (hcons.mpr ⟨⟨z1, z2⟩, z3⟩)]
      · rw [al_step (n + 1) B J a2 c2 hs, a3, c3, if_pos rfl, a6, c6, a4, c4, a5, c5, hone, hnext, al_self]
        by_cases y1 : e.2.1 = e'.2.1
        · rw [if_pos (hw.mpr y1), sb]
          by_cases y2 : e.2.2.2.1 = e'.2.2.2.1
          · rw [if_pos y2, if_neg i10, sb, if_neg i10, if_pos rfl, sb]
            by_cases y3 : ntB l = ntB l'
            · rw [if_pos y3, if_neg i10, if_pos (hcons.mpr ⟨⟨y1, y2⟩, y3⟩)]
            · rw [if_neg y3, if_pos rfl, if_neg (fun z => y3 (hcons.mp z).2)]
          · rw [if_neg y2, if_pos rfl, if_neg (fun z => y2 (hcons.mp z).1.2)]
        · rw [if_neg (fun z => y1 (hw.mp z)), if_neg (fun z => y1 (hcons.mp z).1.1)]
def KW (kd w : Nat) : Prop := (kd = 302 ∧ w = 1) ∨ kw6 kd w
theorem tr_kw {Q : Nat → Prop} {n u t p : Nat} (h : TR k L B J Q n u t p) : ∃ kd w, KW kd w ∧ gI (L (k + 2)) t = nI kd ∧ B 188 u = nI w ∧ J 192 u = 0 := by
  cases n with
  | zero => exact h.elim
  | succ n =>
    obtain ⟨h1, h2, h3, h4, h5⟩ := h
    rcases h5 with h | ⟨kd, w, u1, t1, p1, c1, c2, c3, _⟩ | ⟨kd, w, u1, t1, p1, u2, t2, p2, c1, c2, c3, _⟩ | ⟨kd, w, f, bl, c1, c2, c3, _⟩
    · exact ⟨302, 1, Or.inl ⟨rfl, rfl⟩, h.1, h.2.1, h4⟩
    · exact ⟨kd, w, Or.inr (by unfold kw6; omega), c2, c3, h4⟩
    · exact ⟨kd, w, Or.inr (by unfold kw6; omega), c2, c3, h4⟩
    · exact ⟨kd, w, Or.inr (by unfold kw6; omega), c2, c3, h4⟩
theorem al_ok {Q1 Q2 : Nat → Prop} (hT : tabL k L) (hK : (L (k + 2)).length ≤ 1000) (hN5 : (L (k + 10)).length ≤ 500) : ∀ (d1 u1 t1 p1 d2 u2 t2 p2 n : Nat), TR k L B J Q1 d1 u1 t1 p1 → TR k L B J Q2 d2 u2 t2 p2 → 2 * p1 + 1 ≤ n → mX12_alike n B J (nI u1) (nI u2) = some (if t1 = t2 then 1 else 0) := by
  obtain ⟨_, tb, tc, td, te, tf⟩ := hT
  intro d1
  induction d1 with
  | zero => intro u1 t1 p1 d2 u2 t2 p2 n h; exact h.elim
  | succ d1 ih =>
    intro u1 t1 p1 d2 u2 t2 p2 n h1 h2 hn
    obtain ⟨n, rfl⟩ : ∃ m, n = m + 1 := ⟨n - 1, by omega⟩
    have hp := tr_p h1
    obtain ⟨n, rfl⟩ : ∃ m, n = m + 1 := ⟨n - 1, by omega⟩
    obtain ⟨kd1, w1, kw1, ck1, cw1, cj1⟩ := tr_kw h1
    obtain ⟨kd2, w2, kw2, ck2, cw2, cj2⟩ := tr_kw h2
    have hu1 := tr_u h1
    have hu2 := tr_u h2
    have hb : kd1 < 1000 ∧ kd2 < 1000 ∧ w1 < 10 ∧ w2 < 10 ∧ (w1 = w2 ↔ kd1 = kd2) := by unfold KW kw6 at kw1 kw2; omega
    have hww : B 188 u1 = B 188 u2 ↔ w1 = w2 := by rw [cw1, cw2]; exact nI_eq (by omega) (by omega)
    have htk : t1 = t2 → kd1 = kd2 := fun z => (nI_eq (by omega) (by omega)).mp (by rw [← ck1, ← ck2, z])
    have h8 : ¬ B 188 u1 = 8 := by
      rw [cw1]
      intro z
      have := (nI_eq (a := w1) (b := 8) (by omega) (by omega)).mp z
      unfold KW kw6 at kw1
      omega
    -- what is left: the children decide
    by_cases hw : w1 = w2
    · have hk := hb.2.2.2.2.mp hw
      have hk12 : gI (L (k + 2)) t1 = gI (L (k + 2)) t2 := by rw [ck1, ck2, hk]
      -- the children's answer v says whether the Ts are one
      have key : ∀ (v1 v2 : Int32), mX12_alike (n + 1) B J (B 189 u1) (B 189 u2) = some v1 → mX12_alike (n + 1) B J (B 190 u1) (B 190 u2) = some v2 → ((v1 ≠ 0 ∧ v2 ≠ 0) ↔ t1 = t2) → mX12_alike (n + 1 + 1) B J (nI u1) (nI u2) = some (if t1 = t2 then 1 else 0) := by
        intro v1 v2 e1 e2 hiff
        by_cases hs : u1 = u2
        · subst hs
          rw [al_self]
          rw [al_self] at e1 e2
          have y1 : v1 = 1 := (Option.some.inj e1).symm
          have y2 : v2 = 1 := (Option.some.inj e2).symm
          rw [if_pos (hiff.mp ⟨by rw [y1]; decide, by rw [y2]; decide⟩)]
        · rw [al_step (n + 1) B J hu1.1 hu2.1 hs, if_pos (hww.mpr hw), if_pos (by rw [cj1, cj2]), e1, sb, e2]
          by_cases y1 : v1 = 0
          · rw [if_pos y1, if_neg (fun z => (hiff.mpr z).1 y1)]
          · rw [if_neg y1, sb]
            by_cases y2 : v2 = 0
            · rw [if_pos y2, if_neg (fun z => (hiff.mpr z).2 y2)]
            · rw [if_neg y2, if_neg h8, if_pos (hiff.mp ⟨y1, y2⟩)]
      have vif : ∀ (c : Prop) [Decidable c], (if c then (1 : Int32) else 0) ≠ 0 ↔ c := by
        intro c _
        by_cases z : c
        · rw [if_pos z]; exact ⟨fun _ => z, fun _ => by decide⟩
        · rw [if_neg z]; exact ⟨fun y => absurd rfl y, fun y => absurd y z⟩
      cases d2 with
      | zero => exact h2.elim
      | succ d2 =>
        obtain ⟨x1, x2, x3, x4, x5⟩ := h1
        obtain ⟨y1, y2, y3, y4, y5⟩ := h2
        rcases x5 with a | ⟨kd, w, u11, t11, p11, a1, a2, a3, a4, a5, a6, a7, a8, a9⟩ | ⟨kd, w, u11, t11, p11, u12, t12, p12, a1, a2, a3, a4, a5, a6, a7, a8, a9, a10⟩ | ⟨kd, w, f, bl, a1, a2, a3, a4, a5, a6, a7, a8, a9, a10, a11, a12, a13⟩
        · have w1' : w1 = 1 := (nI_eq (b := 1) (by omega) (by omega)).mp (cw1.symm.trans a.2.1)
          rcases y5 with b | ⟨kd', w', u21, t21, p21, b1, b2, b3, _⟩ | ⟨kd', w', u21, t21, p21, u22, t22, p22, b1, b2, b3, _⟩ | ⟨kd', w', f', bl', b1, b2, b3, _⟩
          · refine key 1 1 (by rw [a.2.2.1, b.2.2.1]; exact al_self _ _ _ _) (by rw [a.2.2.2.1, b.2.2.2.1]; exact al_self _ _ _ _) ⟨fun _ => ?_, fun _ => ⟨by decide, by decide⟩⟩
            exact te t1 t2 x3 y3 hk12 (by rw [a.1]; unfold ch; decide) (by rw [a.2.2.2.2.1, b.2.2.2.2.1]) (by rw [a.2.2.2.2.2.1, b.2.2.2.2.2.1])
          · exfalso; have := (nI_eq (a := w2) (b := w') (by omega) (by omega)).mp (cw2.symm.trans b3); omega
          · exfalso; have := (nI_eq (a := w2) (b := w') (by omega) (by omega)).mp (cw2.symm.trans b3); omega
          · exfalso; have := (nI_eq (a := w2) (b := w') (by omega) (by omega)).mp (cw2.symm.trans b3); omega
        · have w1' : w1 = w := (nI_eq (by omega) (by omega)).mp (cw1.symm.trans a3)
          rcases y5 with b | ⟨kd', w', u21, t21, p21, b1, b2, b3, b4, b5, b6, b7, b8, b9⟩ | ⟨kd', w', u21, t21, p21, u22, t22, p22, b1, b2, b3, _⟩ | ⟨kd', w', f', bl', b1, b2, b3, _⟩
          · exfalso; have := (nI_eq (a := w2) (b := 1) (by omega) (by omega)).mp (cw2.symm.trans b.2.1); omega
          · refine key _ 1 (by rw [a4, b4]; exact ih u11 t11 p11 d2 u21 t21 p21 (n + 1) a9 b9 (by omega)) (by rw [a5, b5]; exact al_self _ _ _ _) ?_
            have q1 := (tr_u a9).2.2
            have q2 := (tr_u b9).2.2
            rw [vif]
            constructor
            · intro z
              exact te t1 t2 x3 y3 hk12 (by rw [a2]; unfold ch; rcases a1 with ⟨z, _⟩ | ⟨z, _⟩ <;> subst z <;> decide) (by rw [a6, b6]) (by rw [a7, b7, z.1])
            · intro z
              refine ⟨(nI_eq (by omega) (by omega)).mp ?_, by decide⟩
              rw [← a7, ← b7, z]
          · exfalso; have := (nI_eq (a := w2) (b := w') (by omega) (by omega)).mp (cw2.symm.trans b3); omega
          · exfalso; have := (nI_eq (a := w2) (b := w') (by omega) (by omega)).mp (cw2.symm.trans b3); omega
        · have w1' : w1 = w := (nI_eq (by omega) (by omega)).mp (cw1.symm.trans a3)
          rcases y5 with b | ⟨kd', w', u21, t21, p21, b1, b2, b3, _⟩ | ⟨kd', w', u21, t21, p21, u22, t22, p22, b1, b2, b3, b4, b5, b6, b7, b8, b9, b10⟩ | ⟨kd', w', f', bl', b1, b2, b3, _⟩
          · exfalso; have := (nI_eq (a := w2) (b := 1) (by omega) (by omega)).mp (cw2.symm.trans b.2.1); omega
          · exfalso; have := (nI_eq (a := w2) (b := w') (by omega) (by omega)).mp (cw2.symm.trans b3); omega
          · refine key _ _ (by rw [a4, b4]; exact ih u11 t11 p11 d2 u21 t21 p21 (n + 1) a9 b9 (by omega)) (by rw [a5, b5]; exact ih u12 t12 p12 d2 u22 t22 p22 (n + 1) a10 b10 (by omega)) ?_
            have q1 := (tr_u a9).2.2
            have q2 := (tr_u b9).2.2
            have q3 := (tr_u a10).2.2
            have q4 := (tr_u b10).2.2
            rw [vif, vif]
            constructor
            · intro z
              exact te t1 t2 x3 y3 hk12 (by rw [a2]; unfold ch; rcases a1 with ⟨z, _⟩ | ⟨z, _⟩ <;> subst z <;> decide) (by rw [a6, b6, z.1]) (by rw [a7, b7, z.2])
            · intro z
              exact ⟨(nI_eq (by omega) (by omega)).mp (by rw [← a6, ← b6, z]), (nI_eq (by omega) (by omega)).mp (by rw [← a7, ← b7, z])⟩
          · exfalso; have := (nI_eq (a := w2) (b := w') (by omega) (by omega)).mp (cw2.symm.trans b3); omega
        · have w1' : w1 = w := (nI_eq (by omega) (by omega)).mp (cw1.symm.trans a3)
          rcases y5 with b | ⟨kd', w', u21, t21, p21, b1, b2, b3, _⟩ | ⟨kd', w', u21, t21, p21, u22, t22, p22, b1, b2, b3, _⟩ | ⟨kd', w', f', bl', b1, b2, b3, b4, b5, b6, b7, b8, b9, b10, b11, b12, b13⟩
          · exfalso; have := (nI_eq (a := w2) (b := 1) (by omega) (by omega)).mp (cw2.symm.trans b.2.1); omega
          · exfalso; have := (nI_eq (a := w2) (b := w') (by omega) (by omega)).mp (cw2.symm.trans b3); omega
          · exfalso; have := (nI_eq (a := w2) (b := w') (by omega) (by omega)).mp (cw2.symm.trans b3); omega
          · have hch := al_chain bl bl' (B 189 u1) (B 189 u2) (n + 1) a10 b10 (fun e he => by
              obtain ⟨i, hi⟩ := List.getElem?_of_mem he
              exact ⟨(a13 i e hi).2.1, tr_p (a13 i e hi).2.2.2.2⟩) (fun e he => by
              obtain ⟨i, hi⟩ := List.getElem?_of_mem he
              exact (b13 i e hi).2.1) (fun e he e' he' m hm => by
              obtain ⟨i, hi⟩ := List.getElem?_of_mem he
              obtain ⟨i', hi'⟩ := List.getElem?_of_mem he'
              exact ih _ _ _ _ _ _ _ m (a13 i e hi).2.2.2.2 (b13 i' e' hi').2.2.2.2 hm) (by omega)
            refine key _ 1 hch (by rw [a4, b4]; exact al_self _ _ _ _) ?_
            rw [vif]
            constructor
            · intro z
              have hlen : bl.length = bl'.length := by
                have := congrArg List.length z.1
                unfold ntB at this
                rw [List.length_map, List.length_map] at this
                exact this
              refine tf t1 t2 f f' bl.length x3 y3 hk12 (by rw [a2]; unfold ch; rcases a1 with ⟨z, _⟩ | ⟨z, _⟩ <;> subst z <;> decide) a5 b5 a6 (by rw [hlen]; exact b6) a9 (by rw [hlen]; exact b9) (fun i hi => ?_)
              obtain ⟨e, he⟩ : ∃ e, bl[i]? = some e := ⟨bl[i], List.getElem?_eq_getElem hi⟩
              obtain ⟨e', he'⟩ : ∃ e, bl'[i]? = some e := ⟨bl'[i]'(by omega), List.getElem?_eq_getElem (by omega)⟩
              have hz := congrArg (fun l => l[i]?) z.1
              unfold ntB at hz
              simp only [List.getElem?_map, he, he'] at hz
              have hz2 : (e.2.1, e.2.2.2.1) = (e'.2.1, e'.2.2.2.1) := Option.some.inj hz
              have hz3 : e.2.1 = e'.2.1 := congrArg (fun y : List Nat × Nat => y.1) hz2
              have hz4 : e.2.2.2.1 = e'.2.2.2.1 := congrArg (fun y : List Nat × Nat => y.2) hz2
              rw [(a13 i e he).2.2.1, (b13 i e' he').2.2.1, (a13 i e he).2.2.2.1, (b13 i e' he').2.2.2.1, hz3, hz4]
              exact ⟨rfl, rfl⟩
            · intro z
              refine ⟨?_, by decide⟩
              subst z
              have ef : f = f' := (nI_eq (by omega) (by omega)).mp (a5.symm.trans b5)
              have el : bl.length = bl'.length := (nI_eq (by omega) (by omega)).mp (a6.symm.trans b6)
              subst ef
              unfold ntB
              apply List.ext_getElem?
              intro i
              rw [List.getElem?_map, List.getElem?_map]
              by_cases hi : i < bl.length
              · obtain ⟨e, he⟩ : ∃ e, bl[i]? = some e := ⟨bl[i], List.getElem?_eq_getElem hi⟩
                obtain ⟨e', he'⟩ : ∃ e, bl'[i]? = some e := ⟨bl'[i]'(by omega), List.getElem?_eq_getElem (by omega)⟩
                obtain ⟨r1, r2, r3, r4, r5⟩ := a13 i e he
                obtain ⟨s1, s2, s3, s4, s5⟩ := b13 i e' he'
                have m1 : e.2.1 = e'.2.1 := (cN_inj r2.1 s2.1 r2.2.2 s2.2.2).mp (r3.symm.trans s3)
                have q1 := (tr_u r5).2.2
                have q2 := (tr_u s5).2.2
                have m2 : e.2.2.2.1 = e'.2.2.2.1 := (nI_eq (by omega) (by omega)).mp (r4.symm.trans s4)
                rw [he, he']
                show some (e.2.1, e.2.2.2.1) = some (e'.2.1, e'.2.2.2.1)
                rw [m1, m2]
              · rw [List.getElem?_eq_none (by omega), List.getElem?_eq_none (by omega)]
    · rw [if_neg (fun z => hw (hb.2.2.2.2.mpr (htk z)))]
      have hs : u1 ≠ u2 := fun z => hw (hww.mp (by rw [z]))
      rw [al_step (n + 1) B J hu1.1 hu2.1 hs, if_neg (fun z => hw (hww.mp z))]
end
