/-! WHAT A CURSOR LEAVES; a talk begins in both (pure) -/
theorem if_some {α : Type} {c : Prop} [Decidable c] {a b : Option α} {y : α} (h : (if c then a else b) = some y) : a = some y ∨ b = some y := by
  by_cases q : c
  · rw [if_pos q] at h; exact Or.inl h
  · rw [if_neg q] at h; exact Or.inr h
theorem adv_fr {I I' : iT} (h : mX2_advance I = some I') : ∀ b, b ≠ 6 → I' b = I b := by
  intro b hb
  unfold mX2_advance at h
  have self : some I = some I' → I' b = I b := fun z => by rw [Option.some.inj z]
  rcases if_some h with h | h
  · rcases if_some h with h | h
    · exact self h
    · rcases if_some h with h | h
      · exact self h
      · rcases if_some h with h | h
        · rcases if_some h with h | h
          · rcases if_some h with h | h
            · have e := Option.some.inj h
              subst e
              repeat rw [a_u2_r _ _ hb]
            · cases h
          · cases h
        · cases h
  · exact self h
theorem ref_fr {I I' : iT} {x y : Int32} (h : mX2_refuse I x y = some I') : ∀ b, b ≠ 6 → I' b = I b := by
  intro b hb
  unfold mX2_refuse at h
  rcases if_some h with h | h
  · have e := Option.some.inj h
    subst e
    rw [a_u2_r _ _ hb, a_u2_r _ _ hb, a_u2_r _ _ hb]
  · rw [Option.some.inj h]
theorem bi_some {α β : Type} {o : Option α} {g : α → Option β} {y : β} (h : o.bind g = some y) : ∃ x, o = some x ∧ g x = some y := Option.bind_eq_some_iff.mp h
theorem tn_fr {I I' : iT} {x : Int32} (h : mX2_takeName I = some (x, I')) : ∀ b, b ≠ 6 → I' b = I b := by
  unfold mX2_takeName at h
  rcases if_some h with h | h
  · obtain ⟨y, e1, e2⟩ := bi_some h
    have e := congrArg Prod.snd (Option.some.inj e2)
    have e : y = I' := e
    subst e
    exact adv_fr e1
  · obtain ⟨y, e1, e2⟩ := bi_some h
    have e := congrArg Prod.snd (Option.some.inj e2)
    have e : y = I' := e
    subst e
    exact ref_fr e1
theorem rc_fr {I I' : iT} {F : fT} {w x : Int32} (h : mX3_readChannel I F w = some (x, I')) : ∀ b, b ≠ 6 → I' b = I b := by
  have h73 : ∀ {I I' : iT} {x1 x2 x3 x4 s0 s1 s2 x : Int32}, mX3_readChannel_73 I F x1 x2 x3 x4 s0 s1 s2 = some (x, I') → ∀ b, b ≠ 6 → I' b = I b := by
    intro I I' x1 x2 x3 x4 s0 s1 s2 x h b hb
    unfold mX3_readChannel_73 at h
    obtain ⟨y, _, h⟩ := bi_some h
    rcases if_some h with h | h
    · have e : I = I' := congrArg Prod.snd (Option.some.inj h)
      rw [e]
    · obtain ⟨z, e1, e2⟩ := bi_some h
      have e : z = I' := congrArg Prod.snd (Option.some.inj e2)
      subst e
      exact ref_fr e1 b hb
  have h48 : ∀ {I I' : iT} {x1 x2 x3 x4 x : Int32}, mX3_readChannel_48 I F x1 x2 x3 x4 = some (x, I') → ∀ b, b ≠ 6 → I' b = I b := by
    intro I I' x1 x2 x3 x4 x h
    unfold mX3_readChannel_48 at h
    obtain ⟨y, _, h⟩ := bi_some h
    rcases if_some h with h | h
    · exact h73 h
    · exact h73 h
  intro b hb
  unfold mX3_readChannel at h
  obtain ⟨y, e1, h⟩ := bi_some h
  obtain ⟨y2, _, h⟩ := bi_some h
  obtain ⟨y3, _, h⟩ := bi_some h
  have f1 := tn_fr (x := y.1) (I' := y.2) e1 b hb
  rcases if_some h with h | h
  · obtain ⟨z, e2, h⟩ := bi_some h
    rw [h48 h b hb, ref_fr e2 b hb, f1]
  · rw [h48 h b hb, f1]
/-- the Ts of a failed reader -/
def TB (k : Nat) (I : iT) : Prop := ∃ L, RS I k L ∧ tabL k L
theorem tb_keep {k : Nat} {f p : Int32} {L : lT} {I I' : iT} (h : RS I k L) (hT : tabL k L) (hF : FM k f p I') (hf : ∀ a, k + 2 ≤ a → a ≤ k + 13 → I' a = I a) : TB k I' := by
  obtain ⟨L', hL'⟩ := hF.1
  have hk := h.1
  refine ⟨fun a => if k + 2 ≤ a ∧ a ≤ k + 12 then L a else L' a, ⟨h.1, fun a ha => ?_⟩, tab_eq (fun a q1 q2 => if_pos ⟨q1, q2⟩) hT⟩
  by_cases q : k + 2 ≤ a ∧ a ≤ k + 12
  · show rowIs I' a (if k + 2 ≤ a ∧ a ≤ k + 12 then L a else L' a)
    rw [if_pos q]
    exact (h.2 a ha).keep (hf a (by omega) (by omega)) (hf (a + 1) (by omega) (by omega))
  · show rowIs I' a (if k + 2 ≤ a ∧ a ≤ k + 12 then L a else L' a)
    rw [if_neg q]
    exact hL'.2 a ha
