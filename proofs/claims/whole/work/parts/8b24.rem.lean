/-! REMAINDERS (pure) -/
theorem rem_ok (u : UInt32) {q : Nat} (hq : 1 ≤ q) (hq8 : q ≤ 80) : ∃ j, j < q ∧ (((u >>> (Int32.toUInt32 16 &&& Int32.toUInt32 31)).toInt32) - (((u >>> (Int32.toUInt32 16 &&& Int32.toUInt32 31)).toInt32) / nI q * nI q)) = nI j := by
  have e16 : (Int32.toUInt32 16 &&& Int32.toUInt32 31) = 16 := by decide
  rw [e16]
  have hu : (u >>> 16).toNat < 65536 := by
    rw [UInt32.toNat_shiftRight]
    have := u.toNat_lt
    simp only [UInt32.reduceToNat, Nat.reduceMod, Nat.shiftRight_eq_div_pow]
    omega
  rw [irem_eq_mod]
  have tq : (nI q).toInt = q := Int32.toInt_ofNat_of_lt (by omega)
  have tv : ((u >>> 16).toInt32).toInt = (u >>> 16).toNat := by
    show (if 2 * (u >>> 16).toNat < 2 ^ 32 then ((u >>> 16).toNat : Int) else ((u >>> 16).toNat : Int) - ((2 ^ 32 : Nat) : Int)) = _
    rw [if_pos (by omega)]
  refine ⟨(u >>> 16).toNat % q, Nat.mod_lt _ hq, ?_⟩
  apply Int32.toInt_inj.mp
  have tr : (nI ((u >>> 16).toNat % q)).toInt = (((u >>> 16).toNat % q : Nat) : Int) := Int32.toInt_ofNat_of_lt (by have := Nat.mod_lt (u >>> 16).toNat hq; omega)
  rw [Int32.toInt_mod, tv, tq, tr]
  exact (Int.ofNat_tmod _ _).symm
