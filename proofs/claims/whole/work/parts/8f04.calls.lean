/-! EVERY CALL, in both (pure) -/
theorem au2_id {α : Type} {f : Nat → Nat → α} {a j : Nat} {v : α} (h : f a j = v) : a_u2 f a j v = f := by
  funext x
  funext i
  by_cases q : x = a ∧ i = j
  · rw [q.1, q.2, a_u2_s, h]
  · rw [a_u2_n _ _ q]
section
variable {b : Nat} {I B : iT} {J : jT} {F : fT}
theorem hs_mono (H : HS b I B J F) {b' : Nat} (h : b ≤ b') : HS b' I B J F := ⟨H.1, H.2.1, H.2.2.1, H.2.2.2.1, H.2.2.2.2.1.mono h, H.2.2.2.2.2⟩
theorem hs_rows (H : HS b I B J F) : (∃ l, rowIs I (F 1 5 + 14) l) ∧ ∃ l, rowIs I (F 1 5 + 16) l := by
  obtain ⟨_, _, _, _, _, ⟨⟨L12, h6⟩, L73, h7⟩, h8, _⟩ := H
  rcases h8 with ⟨w, _⟩ | ⟨w, _⟩ <;> rw [w]
  · exact ⟨⟨_, h6.2 (12 + 14) (by unfold rowA; omega)⟩, ⟨_, h6.2 (12 + 16) (by unfold rowA; omega)⟩⟩
  · exact ⟨⟨_, h7.2 (73 + 14) (by unfold rowA; omega)⟩, ⟨_, h7.2 (73 + 16) (by unfold rowA; omega)⟩⟩
theorem hs_k (H : HS b I B J F) : F 1 5 = 12 ∨ F 1 5 = 73 := H.2.2.2.2.2.2.1.elim (fun w => Or.inl w.1) (fun w => Or.inr w.1)
theorem op_feed (H : HS b I B J F) (x1 x2 x3 x4 x5 : Int32) : ∃ r I' B', mX11_feed I x1 x2 x3 x4 x5 = some (r, I') ∧ mX12_feed B x1 x2 x3 x4 x5 = some (r, B') ∧ HS b I' B' J F := by
  have hk := hs_k H
  obtain ⟨r, I', B', a1, a2, a3, a4, a5⟩ := tp_feed H.1 x1 x2 x3 x4 x5
  obtain ⟨o, hO⟩ := H.2.2.1
  obtain ⟨⟨l1, r1⟩, l2, r2⟩ := hs_rows H
  exact ⟨r, I', B', a1, a2, hs_move H (fun q w1 _ => a4 q (by omega) (by omega)) (fun q i w1 w2 w3 => a5 q i (by omega) w1) a3 ⟨o, hO.1.keep (a4 _ (by omega) (by omega)) (a4 _ (by omega) (by omega)), hO.2.1, by rw [a5 _ _ (by omega) (by omega)]; exact hO.2.2.1, fun i hi => by rw [a5 _ _ (by omega) (by omega)]; exact hO.2.2.2 i hi⟩ ⟨⟨l1, r1.keep (a4 _ (by omega) (by omega)) (a4 _ (by omega) (by omega))⟩, l2, r2.keep (a4 _ (by omega) (by omega)) (a4 _ (by omega) (by omega))⟩⟩
theorem op_end (H : HS b I B J F) (x : Int32) : ∃ r I' B', mX11_end I x = some (r, I') ∧ mX12_end B x = some (r, B') ∧ HS b I' B' J F := by
  have hk := hs_k H
  obtain ⟨r, I', B', a1, a2, a3, a4, a5⟩ := tp_end H.1 x
  obtain ⟨o, hO⟩ := H.2.2.1
  obtain ⟨⟨l1, r1⟩, l2, r2⟩ := hs_rows H
  exact ⟨r, I', B', a1, a2, hs_move H (fun q w1 _ => a4 q (by omega) (by omega)) (fun q i w1 w2 w3 => a5 q i (by omega)) a3 ⟨o, hO.1.keep (a4 _ (by omega) (by omega)) (a4 _ (by omega) (by omega)), hO.2.1, by rw [a5 _ _ (by omega)]; exact hO.2.2.1, fun i hi => by rw [a5 _ _ (by omega)]; exact hO.2.2.2 i hi⟩ ⟨⟨l1, r1.keep (a4 _ (by omega) (by omega)) (a4 _ (by omega) (by omega))⟩, l2, r2.keep (a4 _ (by omega) (by omega)) (a4 _ (by omega) (by omega))⟩⟩
theorem op_fault (H : HS b I B J F) (x : Int32) : ∃ r, mX11_fault I x = some r ∧ mX12_fault B x = some r := fault_eq H.2.1 x
theorem op_out (H : HS b I B J F) (x : Int32) : ∃ r, mX11_out I x = some r ∧ mX12_out B x = some r := by
  obtain ⟨o, hO⟩ := H.2.2.1
  exact out_eq hO x
theorem op_look (H : HS b I B J F) (x : Int32) : ∃ r, mX11_look I F x = some r ∧ mX12_look B x = some r := by
  rcases H.2.2.2.2.2.2.2 with ⟨u1, _⟩ | ⟨u1, h, md, D, L, B0, J0, sp, np, nm, dn, sd, R, HR, _⟩
  · exact ul_look u1 F x
  · exact look_ok HR rfl u1 x
theorem op_def (H : HS b I B J F) (x y : Int32) : ∃ r, mX11_def I F x y = some r ∧ mX12_def B J x y = some r := by
  rcases H.2.2.2.2.2.2.2 with ⟨u1, _⟩ | ⟨u1, h, md, D, L, B0, J0, sp, np, nm, dn, sd, R, HR, _⟩
  · exact ⟨-1, ul_def u1 F J x y⟩
  · exact def_ok HR rfl u1 x y
theorem op_print (H : HS b I B J F) (x y : Int32) : ∃ r I' B', mX11_print I F x y = some (r, I') ∧ mX12_print B J x y = some (r, B') ∧ HS b I' B' J F := by
  have H0 := H
  have hk := hs_k H
  have hrows := hs_rows H
  obtain ⟨⟨bs, hT, hby⟩, _, ⟨o, hO⟩, _, _, _, _, hrun⟩ := H
  rcases hrun with ⟨u1, _⟩ | ⟨u1, h, md, D, L, B0, J0, sp, np, nm, dn, sd, R, HR, _⟩
  · obtain ⟨e1, e2⟩ := ul_print u1 F J x y
    exact ⟨-1, I, B, e1, e2, H0⟩
  · obtain ⟨r, I', B', o', a1, a2, a3, a4, a5, a6, a7⟩ := print_ok HR rfl u1 hO hrows x y
    exact ⟨r, I', B', a1, a2, hs_move H0 (fun q w1 w2 => a4 q (by omega) (by omega) w2) (fun q i w1 w2 w3 => a5 q i w2 (by omega)) ⟨bs, ⟨hT.1.keep (a4 _ (by omega) (by omega) (by omega)) (a4 _ (by omega) (by omega) (by omega)), hT.2.1, by rw [a5 _ _ (by omega) (by omega)]; exact hT.2.2.1, fun i hi => by rw [a5 _ _ (by omega) (by omega)]; exact hT.2.2.2 i hi⟩, hby⟩ ⟨o', a3⟩ ⟨a6, a7⟩⟩
theorem op_same (H : HS b I B J F) (x y v w : Int32) : ∃ r, mX11_same I F x y v w = some r ∧ mX12_same B J x y v w = some r := by
  rcases H.2.2.2.2.2.2.2 with ⟨u1, _⟩ | ⟨u1, h, md, D, L, B0, J0, sp, np, nm, dn, sd, R, HR, _⟩
  · exact ⟨0, ul_same u1 F J x y v w⟩
  · exact same_ok HR rfl u1 x y v w
theorem op_ready (H : HS b I B J F) : ∃ r, mX11_ready I = some r ∧ mX12_ready B = some r := by
  rcases H.2.2.2.2.2.2.2 with ⟨u1, _⟩ | ⟨u1, h, md, D, L, B0, J0, sp, np, nm, dn, sd, R, HR, hc⟩
  · exact ⟨0, ul_ready u1⟩
  · obtain ⟨_, _, _, _, _, w5, _⟩ := which_ok HR hc 0
    refine ⟨nI (R 180).length, ?_, w5⟩
    unfold mX11_ready
    rw [rn_size HR.2.2.2.2.1 (by unfold rnA; omega), sb]
theorem op_which (H : HS b I B J F) (x : Int32) : ∃ r, mX11_which I x = some r ∧ mX12_which B x = some r := by
  rcases H.2.2.2.2.2.2.2 with ⟨u1, _⟩ | ⟨u1, h, md, D, L, B0, J0, sp, np, nm, dn, sd, R, HR, hc⟩
  · exact ⟨-1, ul_which u1 x⟩
  · obtain ⟨r, w1, w2, _⟩ := which_ok HR hc x
    refine ⟨r, ?_, w2⟩
    unfold mX11_which
    rw [w1, sb]
theorem op_process (H : HS b I B J F) (x y : Int32) : ∃ r, mX11_process I F x y = some r ∧ mX12_process B x y = some r := by
  rcases H.2.2.2.2.2.2.2 with ⟨u1, _⟩ | ⟨u1, h, md, D, L, B0, J0, sp, np, nm, dn, sd, R, HR, hc⟩
  · exact ⟨-1, ul_process u1 F x y⟩
  · exact proc_ok HR x y
theorem op_channel (H : HS b I B J F) (x y : Int32) : ∃ r, mX11_channel I x y = some r ∧ mX12_channel B x y = some r := by
  rcases H.2.2.2.2.2.2.2 with ⟨u1, _⟩ | ⟨u1, h, md, D, L, B0, J0, sp, np, nm, dn, sd, R, HR, hc⟩
  · exact ⟨-1, ul_channel u1 x y⟩
  · exact chan_ok HR x y
theorem op_message (H : HS b I B J F) (x y v : Int32) : ∃ r, mX11_message I x y v = some r ∧ mX12_message B J x y v = some r := by
  rcases H.2.2.2.2.2.2.2 with ⟨u1, _⟩ | ⟨u1, h, md, D, L, B0, J0, sp, np, nm, dn, sd, R, HR, hc⟩
  · exact ⟨-1, ul_message u1 J x y v⟩
  · exact msg_ok HR x y v
theorem op_said (H : HS b I B J F) (x y : Int32) : ∃ r, mX11_said I x y = some r ∧ mX12_said B x y = some r := by
  rcases H.2.2.2.2.2.2.2 with ⟨u1, _⟩ | ⟨u1, h, md, D, L, B0, J0, sp, np, nm, dn, sd, R, HR, hc⟩
  · exact ⟨-1, ul_said u1 x y⟩
  · exact said_ok HR x y
theorem op_step (H : HS b I B J F) (x : Int32) : ∃ r I' B' J', mX11_step I F x = some (r, I') ∧ mX12_step B J x = some (r, B', J') ∧ HS b I' B' J' F := by
  rcases H.2.2.2.2.2.2.2 with ⟨u1, _⟩ | ⟨u1, h, md, D, L, B0, J0, u2⟩
  · obtain ⟨e1, e2⟩ := ul_step u1 F J x
    exact ⟨-1, I, B, J, e1, e2, H⟩
  · have hF : F 148 12 = F 1 5 := by
      have hz := u2
      obtain ⟨sp, np, nm, dn, sd, R, HR, _⟩ := hz
      exact HR.2.2.1
    obtain ⟨r, I', B', J', a1, a2, a3, _⟩ := step_ok u2 x
    have hc := fc_mX6_advance (F := F) (I0 := I) (I := I) (fun _ _ _ => rfl) x _ a1
    have hr := fz_mX12_step (I0 := B) (I := B) (fun _ _ _ => rfl) J x _ a2
    refine ⟨r, I', B', J', by unfold mX11_step; rw [a1, sb], a2, hs_run H u1 hF (fun q w1 w2 w3 => funext fun i => hc q i (by unfold TC; omega)) (fun q i w1 w2 => hr q i (by unfold TMr; omega)) ⟨h, md, D, L, B0, J0, a3⟩⟩
theorem op_run (H : HS b I B J F) (x y : Int32) : ∃ r I' B' J', mX11_run I F x y = some (r, I') ∧ mX12_run B J x y = some (r, B', J') ∧ HS b I' B' J' F := by
  rcases H.2.2.2.2.2.2.2 with ⟨u1, _⟩ | ⟨u1, h, md, D, L, B0, J0, u2⟩
  · obtain ⟨r, e1, e2⟩ := ul_run u1 F J x y
    exact ⟨r, I, B, J, e1, e2, H⟩
  · have hF : F 148 12 = F 1 5 := by
      have hz := u2
      obtain ⟨sp, np, nm, dn, sd, R, HR, _⟩ := hz
      exact HR.2.2.1
    obtain ⟨r, I', B', J', a1, a2, a3⟩ := run_ok u2 x y
    have hc := fc_mX11_run (F := F) (I0 := I) (I := I) (fun _ _ _ => rfl) x y _ a1
    have hr := fz_mX12_run (I0 := B) (I := B) (fun _ _ _ => rfl) J x y _ a2
    exact ⟨r, I', B', J', a1, a2, hs_run H u1 hF (fun q w1 w2 w3 => funext fun i => hc q i (by unfold TC; omega)) (fun q i w1 w2 => hr q i (by unfold TMr; omega)) ⟨h, md, D, L, B0, J0, a3⟩⟩
theorem op_begin (H : HS b I B J F) : ∃ r I' B' F', mX11_begin I F = some (r, I', F') ∧ mX12_begin B J = some (r, B') ∧ HS b I' B' J F' := by
  rcases H.2.2.2.2.2.2.2 with ⟨u1, _⟩ | ⟨u1, h, md, D, L, B0, J0, sp, np, nm, dn, sd, R, HR, _⟩
  · obtain ⟨e1, e2⟩ := ul_begin u1 F J
    exact ⟨0, I, B, F, e1, e2, H⟩
  · have hF := HR.2.2.1
    have hSB := HR.2.1
    have h31 := hSB.2.2.1
    have h33 := hSB.2.2.2.1
    have hBK : BK (F 1 5) h md D L B J := bk_move HR.1 (fun q i w1 w2 w3 => by rw [hSB.1 q (by unfold RBc at w1; omega) w2]) (fun q i w1 w2 => by rw [hSB.2.1 q (by unfold RJc at w1; omega) (by unfold RJc at w1; omega)]) h31
    obtain ⟨I', B', a1, a2, a3, a4, a5⟩ := strt_ok (F := F) hBK HR.2.2.2.1 HR.2.2.2.2.1 HR.2.2.2.2.2.1.1.2.2.2.2.2.2 h31 h33 hSB.2.2.2.2
    have hk := hs_k H
    rw [au2_id hF] at a1 a3
    have h1 : I' 1 7 = 1 := by rw [a4 1 (by omega) (by omega) (by omega)]; exact u1
    have e10 : ¬ (1 : Int32) = 0 := by decide
    refine ⟨1, I', B', F, ?_, ?_, hs_run H u1 hF (fun q w1 w2 w3 => a4 q w3 w1 w2) (fun q i w1 w2 => a5 q i (by omega) (by omega) (by omega) (by omega)) ⟨h, md, D, L, B, J, a3⟩⟩
    · unfold mX11_begin mX11_begin_18
      rw [u1, if_neg e10, a1, sb]
      show (if I' 1 7 = 0 ∨ I' 1 7 = 1 then some (I' 1 7, I', F) else none) = _
      rw [h1, if_pos (Or.inr rfl)]
    · unfold mX12_begin
      rw [h33, if_neg e10, a2, sb]
end
