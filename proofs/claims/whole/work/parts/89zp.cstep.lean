/-! ONE MORE ALTERNATIVE OF A case, linked (pure) -/
section
variable {k h M n : Nat} {D : List Df} {F : fT} {I B : iT} {J : jT} {L : lT} {bs : List Nat} {t : Tok} {r : List Tok} {P md nest wd b z : Nat} {S : List Sl} {a6 a8 a0 c6 c8 c0 : List Int32} {i : Nat} {s : Sl} {kd f : Nat} {brs : List Br} {κ uk : Nat} {I0 B0 : iT} {J0 : jT} {L0 : lT} {P0 md0 wd0 : Nat} {s6 s8 s0 : List Int32} {bl : List Alt} {mm : Nat}
theorem cai_len (H : CAi k h M n D F nest b S i s f brs κ uk I0 B0 J0 L0 P0 md0 wd0 s6 s8 s0 I B J L P md wd a6 a8 a0 bl mm z) : bl.length ≤ brs.length ∧ brs.length ≤ 6 := by
  obtain ⟨⟨HU, hok, hv, hmd, hcho⟩, _, _, _, ⟨hal, hnd1, hnd2⟩, hus, hbl, _⟩ := H
  have := pig brs.length (bl.map (fun e => e.2.1)) hnd2 (fun x hx => by
    obtain ⟨e, he, rfl⟩ := List.mem_map.mp hx
    obtain ⟨e', y1, _⟩ := (hbl e he).1
    exact (List.getElem?_eq_some_iff.mp y1).1)
  rw [List.length_map] at this
  exact ⟨this, hcho.2.2.2.2.2.1⟩
/-- how the reference links -/
theorem csL_ok {R : sc_12actT} {K : iT → jT → Int32 → Int32 → Int32 → Int32 → Int32 → Int32 → Option (Int32 × iT × jT)} {x1 x2 x4 x5 x6 y : Int32} {nb : Nat} (hnb : nb < 2800) (huk : uk < 2800) (hQ : ∀ e ∈ bl, e.1 < 2800) (hx6 : (bl = [] ∧ x6 = -1) ∨ ∃ et, bl.getLast? = some et ∧ x6 = nI et.1) : ∃ lc li, ((bl = [] ∧ lc = 190 ∧ li = uk) ∨ (∃ et, bl.getLast? = some et ∧ lc = 191 ∧ li = et.1)) ∧ csL R K B J x1 x2 (nI uk) x4 x5 x6 y (nI nb) = mX12_cases_273 R K (a_u2 (a_u2 B 189 nb (B 186 49)) lc li (nI nb)) J x1 x2 (nI uk) x4 x5 x6 y (nI nb) := by
  rcases hx6 with ⟨h1, h2⟩ | ⟨et, h1, h2⟩
  · refine ⟨190, uk, Or.inl ⟨h1, rfl, rfl⟩, ?_⟩
    unfold csL
    rw [if_pos (in28 hnb), if_pos h2, if_pos (in28 huk), cl28 hnb, cl28 huk]
  · have he := hQ et (List.mem_of_getLast? h1)
    refine ⟨191, et.1, Or.inr ⟨et, h1, rfl, rfl⟩, ?_⟩
    unfold csL
    rw [if_pos (in28 hnb), h2, if_neg (nIm (by omega)), if_pos (in28 he), cl28 hnb, cl28 he]
/-- what the link changes -/
theorem lnk_fr {B' : iT} {md' lc li u : Nat} (hlc1 : lc = 190 ∨ lc = 191) (hli1 : md' ≤ li) (hli2 : li < 1400 * h + md) (e8 : B' 186 49 = nI u) (e10 : B' 191 (1400 * h + md) = -1) : ∃ B2, B2 = a_u2 (a_u2 B' 189 (1400 * h + md) (B' 186 49)) lc li (nI (1400 * h + md)) ∧ (∀ c v, c < 188 → B2 c v = B' c v) ∧ (∀ c v, 191 < c → B2 c v = B' c v) ∧ (∀ c v, v < md' → B2 c v = B' c v) ∧ (∀ c v, v ≠ 1400 * h + md → v ≠ li → B2 c v = B' c v) ∧ (∀ v, B2 188 v = B' 188 v) ∧ (∀ v, v ≠ 1400 * h + md → B2 189 v = B' 189 v) ∧ (lc = 191 → ∀ v, B2 190 v = B' 190 v) ∧ B2 189 (1400 * h + md) = nI u ∧ B2 lc li = nI (1400 * h + md) ∧ B2 191 (1400 * h + md) = -1 := by
  have fB2 : ∀ c v, ¬ (c = 189 ∧ v = 1400 * h + md) → ¬ (c = lc ∧ v = li) → (a_u2 (a_u2 B' 189 (1400 * h + md) (B' 186 49)) lc li (nI (1400 * h + md))) c v = B' c v := fun c v w1 w2 => by rw [a_u2_n _ _ w2, a_u2_n _ _ w1]
  refine ⟨_, rfl, fun c v w => fB2 c v (by omega) (by omega), fun c v w => fB2 c v (by omega) (by omega), fun c v w => fB2 c v (by omega) (by omega), fun c v w1 w2 => fB2 c v (by omega) (by omega), fun v => fB2 _ v (by omega) (by omega), fun v w => fB2 _ v (by omega) (by omega), fun w v => fB2 _ v (by omega) (by omega), ?_, a_u2_s _ _ _ _, ?_⟩
  · rw [a_u2_n _ _ (by omega), a_u2_s, e8]
  · rw [fB2 _ _ (by omega) (by omega)]
    exact e10
theorem cai_step {Rc : sc_3readAlternativeT} {R : sc_12actT} {K : iT → jT → Int32 → Int32 → Int32 → Int32 → Int32 → Int32 → Option (Int32 × iT × jT)} (hP : HP k h M n D F bs b (nest + 1) Rc.2.2.2.2 R.2.2.2) (hcc : ∀ f p b I x, PF k f p b I → Rc.2.2.2.2 I F x = some (-1, I)) (hs : S[i]? = some s) (hs2 : s.1 = 2) (hk : gI (L0 (k + 2)) s.2.2.2.1 = nI kd) (hkd : kd = 43 ∨ kd = 38) (hC : CR I B J bs t r) (H : CAi k h M n D F nest b S i s f brs κ uk I0 B0 J0 L0 P0 md0 wd0 s6 s8 s0 I B J L t.2.2 md wd a6 a8 a0 bl mm 1) (x6 : Int32) (hx6 : (bl = [] ∧ x6 = -1) ∨ ∃ et, bl.getLast? = some et ∧ x6 = nI et.1) :
    (∃ x I' B' J', bX3_readAlternative Rc I F (nI κ) (nI (nest + 1)) = some (x, I') ∧ mX12_cases_77 R K B J (nI (sg n i)) (nI s.2.2.1) (nI uk) (nI (nest + 1)) (nI S.length) x6 = some (0, B', J') ∧ PL k h (b + 1) I0 B0 J0 I' B' J') ∨
    (∃ (eN : Alt) (I' B' : iT) (J' : jT) (t' : Tok) (r' : List Tok) (L' : lT) (md' : Nat) (d6 d8 d0 : List Int32) (wd' mm' : Nat) (y7 : Int32), bX3_readAlternative Rc I F (nI κ) (nI (nest + 1)) = some (nI eN.2.2.2.2.2.2, I') ∧ mX12_cases_77 R K B J (nI (sg n i)) (nI s.2.2.1) (nI uk) (nI (nest + 1)) (nI S.length) x6 = mX12_cases_273 R K B' J' (nI (sg n i)) (nI s.2.2.1) (nI uk) (nI (nest + 1)) (nI S.length) x6 y7 (nI eN.1) ∧ CR I' B' J' bs t' r' ∧ eN.2.2.2.2.2.2 < 1000 ∧ eN.1 < 2800 ∧ CAi k h M n D F nest b S i s f brs κ uk I0 B0 J0 L0 P0 md0 wd0 s6 s8 s0 I' B' J' L' t'.2.2 md' wd' d6 d8 d0 (bl ++ [eN]) mm' 0) := by
  have hln := cai_len H
  obtain ⟨⟨HU, hok, hv, hmd, hcho⟩, ⟨hκ0, c47, c49, c51, c53⟩, ⟨hn55, hnm⟩, ⟨huk, hm0, hMu, u188, u189⟩, ⟨hal, hnd1, hnd2⟩, hus, hbl, hmm, hpg, hbud, hwd, hcw, hrp, hlk⟩ := H
  have hwd1 := hwd.1
  have hPe := cr_end hC
  have hbd := HU.2.2.2.2.2.2.2.2.2.2.1
  have hh := HU.2.2.2.2.2.2.1
  have hT := HU.2.2.1
  have hS := HU.2.2.2.1
  have hnod := HU.2.2.2.2.1
  have hK2 : gI (L (k + 2)) s.2.2.2.1 = nI kd := by rw [hpg.2.1 _ (by omega)]; exact hk
  have h28 : 1400 * h + md < 2800 := by omega
  have huk28 : uk < 2800 := by omega
  have hκ : κ < (L (k + 47)).length := by omega
  rcases alt_ok (K := K) hP hcc hC HU hok hv hmd hs hs2 hcho hK2 hkd (κ := κ) (a := (L0 (k + 55)).length) (uk := uk) (by omega) c49 c51 hn55 huk28 hal (by unfold LF; omega) (fun e he => ⟨(hbl e he).2.1, e.2.1, by
      obtain ⟨e', y1, y2, _⟩ := (hbl e he).1
      exact ⟨e', y1, y2⟩⟩) hus x6 with ⟨x, I', B', J', e1, e2, e3⟩ | ⟨j, e, l, I', B', J', t', r', L', md', d6, d8, d0, wd', u, m, e1, e2, e3, e4, e5, e6, e7, e8, e9, e10, e11, e12, e13, e14, e15, e16, e17, e18, e19⟩
  · left
    exact ⟨x, I', B', J', e1, e2, PL.pre (cW_FQ hcw) (rP_RX hrp) e3⟩
  · right
    have hjl : j < brs.length := (List.getElem?_eq_some_iff.mp e1).1
    have gl := pgr_lt e14
    have gmd := pgr_md e14
    have hPe' := cr_end e6
    have hbd' := e7.2.2.2.2.2.2.2.2.2.2.1
    have hn : ∀ x, x ≠ k + 57 → (upL L (k + 57) ((L (k + 57)).set ((L0 (k + 55)).length + j) (nI (L (k + 47)).length))) x = L x := fun x w => upL_n _ _ w
    have l47 : (L (k + 47)).length ≤ (L' (k + 47)).length := by have := e14.2.2.2.2.2.2.1; rw [hn _ (by omega)] at this; exact this
    have l55 : (L (k + 55)).length ≤ (L' (k + 55)).length := by have := e14.2.2.2.2.2.2.2.1; rw [hn _ (by omega)] at this; exact this
    have b55 : 3 * (L' (k + 55)).length + (t.2.2 + 2) ≤ 3 * (L (k + 55)).length + t'.2.2 := by have := e14.2.2.2.2.2.2.2.2.2.2.2.2.2.2; rw [hn _ (by omega)] at this; exact this
    have hLx : ∀ a, ¬ (k + 19 ≤ a ∧ a ≤ k + 59) → L' a = L a := fun a w => by rw [e14.2.1 a w, hn a (by omega)]
    have f47 : ∀ x, x < (L (k + 47)).length → gI (L' (k + 47)) x = gI (L (k + 47)) x ∧ gI (L' (k + 49)) x = gI (L (k + 49)) x ∧ gI (L' (k + 51)) x = gI (L (k + 51)) x ∧ gI (L' (k + 53)) x = gI (L (k + 53)) x := fun x w => by
      have := e14.2.2.2.1 x (by rw [hn _ (by omega)]; exact w)
      rw [hn _ (by omega), hn _ (by omega), hn _ (by omega), hn _ (by omega)] at this
      exact this
    have f55 : ∀ x, x < (L (k + 55)).length → gI (L' (k + 55)) x = gI (L (k + 55)) x ∧ gI (L' (k + 57)) x = gI ((L (k + 57)).set ((L0 (k + 55)).length + j) (nI (L (k + 47)).length)) x := fun x w => by
      have := e14.2.2.2.2.1 x (by rw [hn _ (by omega)]; exact w)
      rw [hn (k + 55) (by omega), upL_s] at this
      exact this
    have hblQ : ∀ e ∈ bl, 1400 * h + md0 + 1 ≤ e.1 ∧ e.1 < 1400 * h + md := alt_Q bl _ hal
    obtain ⟨lc, li, hlc, hcs⟩ := csL_ok (B := B') (J := J') (R := R) (K := K) (bl := bl) (uk := uk) (x1 := nI (sg n i)) (x2 := nI s.2.2.1) (x4 := nI (nest + 1)) (x5 := nI S.length) (x6 := x6) (y := nI e.1) h28 huk28 (fun e he => by have := hblQ e he; omega) hx6
    have hlc' : (lc = 190 ∨ lc = 191) ∧ 1400 * h + md0 ≤ li ∧ li < 1400 * h + md ∧ (li = uk ∨ ∃ e ∈ bl, li = e.1) := by
      rcases hlc with ⟨_, y2, y3⟩ | ⟨et, y1, y2, y3⟩
      · exact ⟨Or.inl y2, by omega, by omega, Or.inl y3⟩
      · have hm := List.mem_of_getLast? y1
        have := hblQ et hm
        exact ⟨Or.inr y2, by omega, by omega, Or.inr ⟨et, hm, y3⟩⟩
    obtain ⟨hlc1, hli1, hli2, hli3⟩ := hlc'
    have hM := hh.2.2.2.1
    clear hx6 hkd
    have hlc : Unit → _ := fun _ => hlc
    have hli3 : Unit → _ := fun _ => hli3
    obtain ⟨B2, hB2, fBl, fBh, fBo, fBv, fB8, fB9, fB0, g189, gli, g191⟩ := lnk_fr (B' := B') hlc1 hli1 hli2 e8 e10
    clear hlc1
    rw [← hB2] at hcs
    clear hB2
    have fBn : ∀ c v, 188 ≤ c → c ≤ 191 → v < 1400 * h + md → v ≠ li → B2 c v = B c v := fun c v w1 w2 w3 w4 => by rw [fBv c v (Nat.ne_of_lt w3) w4]; exact e17 c v w1 w2 w3
    have hCR : CR I' B2 J' bs t' r' := CR_B e6 (fun j _ _ => fBl _ _ (by decide)) (funext fun j => fBl _ _ (by decide)) rfl
    have HU2 := pu_B e7 (B' := B2) (J' := J') (md' := md') (fun q i w1 w2 => by
      rcases Nat.lt_or_ge q 188 with x | x
      · exact fBl q i x
      · rcases Nat.lt_or_ge 191 q with y | y
        · exact fBh q i y
        · exact fBo q i (Nat.lt_of_lt_of_le (Nat.lt_of_not_le (fun z => w2 ⟨x, y, z⟩)) (huk ▸ hMu))) (fun _ _ _ => rfl) (by rw [fBl _ _ (by decide)]; exact e7.2.2.2.2.2.2.1.2.2.1) (Nat.le_refl _) (by omega)
    have hAM : ∀ v, (1400 * h ≤ v ∧ v < M) → (B2 188 v = B 188 v ∧ B2 189 v = B 189 v ∧ B2 190 v = B 190 v ∧ B2 191 v = B 191 v ∧ J' 192 v = J 192 v) := fun v w => by
      have w1 : v < 1400 * h + md := by omega
      have w2 : v ≠ li := by omega
      exact ⟨fBn _ _ (by decide) (by decide) w1 w2, fBn _ _ (by decide) (by decide) w1 w2, fBn _ _ (by decide) (by decide) w1 w2, fBn _ _ (by decide) (by decide) w1 w2, e18 v w1⟩
    have hok2 : SOK k h M L' B2 J' n nest S := sok_to hok hT (TE_eq (fun a q1 q2 => hLx a (by omega))) (fun v w1 w2 => hAM v ⟨w1, w2⟩)
    have hv2 : SV B2 J' n (nest + 1) S := sv_to hv ⟨hok.2.2.2.1, hok.2.1⟩ (fun c i w1 w2 w3 => by rw [fBh c i (by omega)]; exact e16.1 c i (by omega) (by omega) (by omega) (by omega)) (fun i w1 w2 => e16.2 207 i (by omega) (by omega) (by omega) (by omega))
    have hcho2 := cho_to (B' := B2) (J' := J') (L' := L') hT (fun a q1 q2 => hLx a (by omega)) (tr_u ((hok.2.2.2.2.1 i s hs).2.2 hs2).2).2.1 hAM hcho
    obtain ⟨k1, k2, k3, k4⟩ := f47 κ hκ
    have h57l : (L (k + 57)).length = (L (k + 55)).length := hnod.2.2.2
    have hjne : ∀ x ∈ bl, x.2.1 ≠ j := by
      intro x hx w
      obtain ⟨e', y1, y2, y3⟩ := (hbl x hx).1
      rw [w, e1] at y1
      have := (hus j e e1).mp e3 x hx
      rw [Option.some.inj y1] at this
      exact this y2.symm
    refine ⟨(1400 * h + md, j, e.2.1, e.2.2.2.1, u, (L (k + 47)).length, l), I', B2, J', t', r', L', md', d6, d8, d0, wd', max mm m, nI e.1, e4, e5.trans hcs, hCR, by show l < 1000; omega, h28, ⟨HU2, hok2, hv2, by omega, hcho2⟩, ⟨hκ0, k1.trans c47, k2.trans c49, k3.trans c51, k4.trans c53⟩, ⟨by omega, fun j' e' he' => ?_⟩, ⟨huk, by omega, hMu, ?_, ?_⟩, ⟨?_, ?_, ?_⟩, fun j' e' he' => ?_, fun x hx => ?_, by omega, pg0_alt hpg e14 (by omega) rfl, ?_, ⟨by omega, fun x hx => ?_⟩, hcw.trans e15, ?_, hlk.trans e19⟩
    · have hj' : j' < brs.length := (List.getElem?_eq_some_iff.mp he').1
      rw [(f55 _ (by omega)).1]
      exact hnm j' e' he'
    · rw [fB8, e17 _ _ (by decide) (by decide) (by omega)]
      exact u188
    · rw [fB9 _ (by omega), e17 _ _ (by decide) (by decide) (by omega)]
      exact u189
    · rcases hlc () with ⟨y1, y2, y3⟩ | ⟨et, y1, y2, y3⟩
      · subst y1 y2 y3
        exact ⟨gli, h28, ⟨by show 1400 * h + md0 + 1 ≤ 1400 * h + md; omega, by show 1400 * h + md < 1400 * h + md'; omega⟩, e9, g189, g191⟩
      · subst y2 y3
        have h190 : B2 190 uk = B 190 uk := by rw [fB0 rfl, e17 _ _ (by decide) (by decide) (by omega)]
        rw [h190]
        exact alt_snoc (B := B) (J := J) (et := et) (eN := (1400 * h + md, j, e.2.1, e.2.2.2.1, u, (L (k + 47)).length, l)) (fun v hv => ⟨⟨hv.1, by omega⟩, by rw [fB9 _ (by omega), e17 _ _ (by decide) (by decide) hv.2], e18 v hv.2, fun w => fBn _ _ (by decide) (by decide) hv.2 w⟩) gli ⟨h28, ⟨by show 1400 * h + md0 + 1 ≤ 1400 * h + md; omega, by show 1400 * h + md < 1400 * h + md'; omega⟩, e9, g189, g191⟩ bl _ hal y1 hnd1
    · rw [List.map_append]
      refine nd_snoc _ _ hnd1 (fun z => ?_)
      obtain ⟨x, hx, w⟩ := List.mem_map.mp z
      have := hblQ x hx
      have w : x.1 = 1400 * h + md := w
      omega
    · rw [List.map_append]
      refine nd_snoc _ _ hnd2 (fun z => ?_)
      obtain ⟨x, hx, w⟩ := List.mem_map.mp z
      exact hjne x hx w
    · have hj' : j' < brs.length := (List.getElem?_eq_some_iff.mp he').1
      rw [(f55 _ (by omega)).2]
      by_cases w : j' = j
      · subst w
        have : e' = e := Option.some.inj (he'.symm.trans e1)
        subst this
        rw [gI_se (by omega)]
        exact ⟨fun z => absurd z (nIm (by omega)), fun z => absurd rfl (z _ (List.mem_append_right _ (List.mem_cons_self ..)))⟩
      · rw [gI_sn (by omega)]
        refine ⟨fun z x hx => ?_, fun z => (hus j' e' he').mpr (fun x hx => z x (List.mem_append_left _ hx))⟩
        rcases List.mem_append.mp hx with hx | hx
        · exact (hus j' e' he').mp z x hx
        · have hx : x = (1400 * h + md, j, e.2.1, e.2.2.2.1, u, (L (k + 47)).length, l) := by simpa using hx
          subst hx
          intro v
          exact w (bl_inj hcho.2.2.2.2.2.2.2.2.1 j' j e' e he' e1 v.symm)
    · rcases List.mem_append.mp hx with hx | hx
      · obtain ⟨⟨e', y1, y2, y3⟩, y4, y5, y6, y7⟩ := hbl x hx
        have hxl : x.2.1 < brs.length := (List.getElem?_eq_some_iff.mp y1).1
        have hxj := hjne x hx
        refine ⟨⟨e', y1, y2, y3⟩, y4, by rw [(f55 _ (by omega)).2, gI_sn (by omega)]; exact y5, ?_, by omega⟩
        refine pr_to (pk_alt (Q := fun v => (1400 * h + md0 + 1 ≤ v ∧ v < 1400 * h + md) ∧ ∀ x ∈ bl, v ≠ x.1) (Rn := fun x => κ + 1 ≤ x ∧ x < (L (k + 47)).length) (Rc := fun c => (L0 (k + 55)).length + brs.length ≤ c ∧ c < (L (k + 55)).length) e14 hT hS (fun v hv => ?_) (fun x hx => hx.2) (fun x hx => ⟨hx.2, by omega⟩)) (fun v hv => ⟨⟨hv.1.1, by omega⟩, fun x hx => ?_⟩) (fun v hv => ⟨hv.1, by omega⟩) (fun v hv => ⟨hv.1, by omega⟩) mm (max mm m) (Nat.le_max_left _ _) _ _ _ _ y6
        · have hne : v ≠ li := by
            rcases hli3 () with w | ⟨x', hx', w⟩
            · omega
            · rw [w]; exact hv.2 x' hx'
          exact ⟨fBn _ _ (by decide) (by decide) hv.1.2 hne, fBn _ _ (by decide) (by decide) hv.1.2 hne, fBn _ _ (by decide) (by decide) hv.1.2 hne, fBn _ _ (by decide) (by decide) hv.1.2 hne, e18 v hv.1.2⟩
        · rcases List.mem_append.mp hx with hx | hx
          · exact hv.2 x hx
          · have hx : x = (1400 * h + md, j, e.2.1, e.2.2.2.1, u, (L (k + 47)).length, l) := by simpa using hx
            subst hx
            show v ≠ 1400 * h + md
            omega
      · have hx : x = (1400 * h + md, j, e.2.1, e.2.2.2.1, u, (L (k + 47)).length, l) := by simpa using hx
        subst hx
        refine ⟨⟨e, e1, rfl, rfl⟩, e2, by show gI (L' (k + 57)) ((L0 (k + 55)).length + j) = nI (L (k + 47)).length; rw [(f55 _ (by omega)).2, gI_se (by omega)], ?_, by show l ≤ max mm m; omega⟩
        refine pr_sm e7.2.2.1 e7.2.2.2.1 (fun v hv => ⟨⟨⟨by omega, hv.2⟩, fun x hx => ?_⟩, fBv _ _ (by omega) (by omega), fBv _ _ (by omega) (by omega), fBv _ _ (by omega) (by omega), fBv _ _ (by omega) (by omega), rfl⟩) (fun v hv => ⟨by omega, hv.2⟩) (fun v hv => ⟨by omega, hv.2⟩) (Nat.le_max_right _ _) e11
        rcases List.mem_append.mp hx with hx | hx
        · have := hblQ x hx
          omega
        · have hx : x = (1400 * h + md, j, e.2.1, e.2.2.2.1, u, (L (k + 47)).length, l) := by simpa using hx
          subst hx
          show v ≠ 1400 * h + md
          omega
    · rw [List.length_append]
      show 3 * (L' (k + 55)).length + P0 + 3 * (bl.length + 1) + 0 ≤ _
      omega
    · rcases List.mem_append.mp hx with hx | hx
      · have := hwd.2 x hx
        omega
      · have hx : x = (1400 * h + md, j, e.2.1, e.2.2.2.1, u, (L (k + 47)).length, l) := by simpa using hx
        subst hx
        show wd0 + l ≤ wd'
        omega
    · exact (hrp.trans e16 (by omega) (Nat.le_succ nest)).trans ⟨fun c v w1 w2 w3 w4 => by
      rcases Nat.lt_or_ge c 188 with x | x
      · exact fBl c v x
      · rcases Nat.lt_or_ge 191 c with y | y
        · exact fBh c v y
        · rcases Nat.lt_or_ge v (1400 * h + md0) with z | z
          · exact fBo c v z
          · exact fBv c v (fun q => w2 ⟨x, y, z, by omega⟩) (fun q => w2 ⟨x, y, z, by omega⟩), fun _ _ _ _ _ _ => rfl⟩ (Nat.le_refl md0) (Nat.le_refl nest)
end
