/-! a run of many steps (pure) -/
section
variable {k h md : Nat} {D : List Df} {L : lT} {B0 : iT} {J0 : jT} {F : fT} {N : Nat}
theorem run_loop (hN6 : N ≤ 600) (y1 y2 : Int32) : ∀ (d i m m' : Nat) (I B : iT) (J : jT) (seed : Int32), RUNR k h md D L B0 J0 F I B J → i + d = N → ∃ (cnt : Int32) (I' B' : iT) (J' : jT), mX11_run_21 (m + d + 2) I F y1 (nI N) seed (nI i) (nI i) = some (cnt, I') ∧ mX12_run_18 (m' + d + 1) B J y2 (nI N) seed (nI i) = some (cnt, B', J') ∧ RUNR k h md D L B0 J0 F I' B' J' := by
  intro d
  induction d with
  | zero =>
    intro i m m' I B J seed H hi
    refine ⟨nI i, I, B, J, ?_, ?_, H⟩
    · show mX11_run_21 (m + 0 + 1 + 1) I F y1 (nI N) seed (nI i) (nI i) = _
      rw [mX11_run_21, if_pos (nI_le (by omega) (by omega))]
    · rw [mX12_run_18, if_pos (nI_le (by omega) (by omega))]
  | succ d ih =>
    intro i m m' I B J seed H hi
    have hst := fun x => step_ok H x
    obtain ⟨sp, np, nm, dn, sd, R, HR, hc⟩ := id H
    obtain ⟨_, _, _, _, _, hrd, h80⟩ := which_ok HR hc 0
    have hsz : mX4_size 180 I = some (nI (R 180).length) := rn_size (run_RK HR).2.1 (by unfold rnA; omega)
    by_cases c0 : (R 180).length = 0
    · refine ⟨nI i, I, B, J, ?_, ?_, H⟩
      · show mX11_run_21 (m + d + 2 + 1) I F y1 (nI N) seed (nI i) (nI i) = _
        rw [mX11_run_21, if_neg (nI_ge (by omega) (by omega)), hsz, sb, c0, if_neg (by decide)]
      · show mX12_run_18 (m' + d + 1 + 1) B J y2 (nI N) seed (nI i) = _
        rw [mX12_run_18, if_neg (nI_ge (by omega) (by omega)), hrd, sb, c0, if_pos (by decide)]
    · obtain ⟨j, hj, ej⟩ := rem_ok (((seed * 1103515245) + 12345).toUInt32) (q := (R 180).length) (by omega) h80
      obtain ⟨r, I', B', J', a1, a2, a3, a4⟩ := hst (nI j)
      have hne : ¬ nI (R 180).length = 0 := fun y => by
        have := (nI_eq (a := (R 180).length) (b := 0) (by omega) (by omega)).mp y
        omega
      have e1 : mX11_run_21 (m + (d + 1) + 2) I F y1 (nI N) seed (nI i) (nI i) = (if r = -1 then mX11_run_77 (mX11_run_21 (m + d + 2)) I' F y1 (nI N) ((seed * 1103515245) + 12345) (nI i) (nI i) (nI (R 180).length) else mX11_run_77 (mX11_run_21 (m + d + 2)) I' F y1 (nI N) ((seed * 1103515245) + 12345) (nI i + 1) (nI i) (nI (R 180).length)) := by
        show mX11_run_21 (m + d + 2 + 1) I F y1 (nI N) seed (nI i) (nI i) = _
        rw [mX11_run_21, if_neg (nI_ge (by omega) (by omega)), hsz, sb, if_pos (show (0 : Int32) < nI (R 180).length from nI_lt (a := 0) (by omega) (by omega)), if_pos hne, ej, a1, sb]
      have e2 : mX12_run_18 (m' + (d + 1) + 1) B J y2 (nI N) seed (nI i) = (if r = -1 then some (nI i, B', J') else mX12_run_18 (m' + d + 1) B' J' y2 (nI N) ((seed * 1103515245) + 12345) (nI i + 1)) := by
        show mX12_run_18 (m' + d + 1 + 1) B J y2 (nI N) seed (nI i) = _
        rw [mX12_run_18, if_neg (nI_ge (by omega) (by omega)), hrd, sb, if_neg (show ¬ nI (R 180).length ≤ 0 from Int32.not_le.mpr (show (0 : Int32) < nI (R 180).length from nI_lt (a := 0) (by omega) (by omega))), sb, if_pos hne, ej, a2, sb]
      rw [e1, e2]
      by_cases hr : r = -1
      · rw [if_pos hr, if_pos hr]
        refine ⟨nI i, I', B', J', ?_, rfl, a3⟩
        have hz : mX4_size 180 I' = some 0 := by
          rcases a4 hr with y | y
          · exact y
          · exact absurd rfl (y j _ hsz h80 hj)
        unfold mX11_run_77
        show mX11_run_21 (m + d + 1 + 1) I' F y1 (nI N) ((seed * 1103515245) + 12345) (nI i) (nI i + 1) = _
        rw [mX11_run_21, hz, sb, if_neg (show ¬ (0 : Int32) < 0 by decide), ite_self]
      · rw [if_neg hr, if_neg hr]
        unfold mX11_run_77
        rw [nI_1]
        exact ih (i + 1) m m' I' B' J' _ a3 (by omega)
theorem run_ok {I B : iT} {J : jT} (H : RUNR k h md D L B0 J0 F I B J) (x1 x2 : Int32) : ∃ (r : Int32) (I' B' : iT) (J' : jT), mX11_run I F x1 x2 = some (r, I') ∧ mX12_run B J x1 x2 = some (r, B', J') ∧ RUNR k h md D L B0 J0 F I' B' J' := by
  unfold mX11_run mX12_run mX12_isIn
  rcases i32_cases x2 with hx | ⟨n, hn, rfl⟩
  · rw [if_pos hx, if_pos hx, sb, if_pos rfl]
    exact ⟨-1, I, B, J, rfl, rfl, H⟩
  · rw [if_neg (nI_not0 hn), if_neg (nI_not0 hn)]
    by_cases c : n ≤ 600
    · have c1 : nI n ≤ 600 := nI_le (b := 600) c (by omega)
      have c2 : ¬ (600 : Int32) < nI n := Int32.not_lt.mpr c1
      obtain ⟨r, I', B', J', a1, a2, a3⟩ := run_loop (N := n) c x1 x1 n 0 (LF - n - 2) (LF - n - 1) I B J x1 H (by omega)
      have e1 : LF - n - 2 + n + 2 = LF := by unfold LF; omega
      have e2 : LF - n - 1 + n + 1 = LF := by unfold LF; omega
      rw [e1] at a1
      rw [e2] at a2
      rw [if_pos c1, if_neg c2, sb, if_neg (by decide)]
      exact ⟨r, I', B', J', a1, a2, a3⟩
    · have c2 : (600 : Int32) < nI n := nI_lt (a := 600) (by omega) hn
      have c1 : ¬ nI n ≤ 600 := Int32.not_le.mpr c2
      rw [if_neg c1, if_pos c2, sb, if_pos rfl]
      exact ⟨-1, I, B, J, rfl, rfl, H⟩
end
