/-! WITHOUT A TEXT: both sides answer alike, and nothing changes (pure) -/
def unl (I B : iT) : Prop := I 1 7 = 0 ∧ B 186 33 = 0 ∧ rowIs I 164 [] ∧ rowIs I 180 [] ∧ rowIs I 182 [] ∧ rowIs I 184 [] ∧ rowIs I 150 []
theorem nI_m1 (n : Nat) : nI (n + 1) - 1 = nI n := nI_pred n
theorem isIn_eq (x a b : Int32) : mX12_isIn x a b = some (if x < a ∨ b < x then 0 else 1) := by
  unfold mX12_isIn
  by_cases h1 : x < a
  · rw [if_pos h1, if_pos (Or.inl h1)]
  · rw [if_neg h1]
    by_cases h2 : b < x
    · rw [if_pos h2, if_pos (Or.inr h2)]
    · rw [if_neg h2, if_neg (fun q => q.elim h1 h2)]
theorem lat_nil (x : Int32) : lat [] x = -1 := by
  unfold lat
  split
  · rfl
  · simp
theorem ul_look {I B : iT} (h : unl I B) (F : fT) (x : Int32) : ∃ r, mX11_look I F x = some r ∧ mX12_look B x = some r := by
  unfold mX11_look mX12_look
  rw [isIn_eq, h.1, h.2.1]
  by_cases h1 : x < 0
  · exact ⟨-1, by rw [if_pos h1], by simp [h1]⟩
  · by_cases h2 : x ≤ 7
    · refine ⟨0, by rw [if_neg h1, if_pos h2]; rfl, ?_⟩
      have h3 : ¬ (7 : Int32) < x := Int32.not_lt.mpr h2
      simp [h1, h3]
    · have h3 : (7 : Int32) < x := Int32.not_le.mp h2
      exact ⟨-1, by rw [if_neg h1, if_neg h2], by simp [h3]⟩
theorem ul_def {I B : iT} (h : unl I B) (F : fT) (J : jT) (x z : Int32) : mX11_def I F x z = some (-1) ∧ mX12_def B J x z = some (-1) := by
  unfold mX11_def mX12_def mX12_isDef
  rw [h.1, h.2.1]
  exact ⟨rfl, rfl⟩
theorem ul_talk {I B : iT} (h : unl I B) (F : fT) (x z : Int32) : mX11_talkOf I F x z = some (-1) ∧ mX12_typeOf B x z = some (-1) := by
  unfold mX11_talkOf mX12_typeOf mX12_isDef
  rw [h.1, h.2.1]
  exact ⟨rfl, rfl⟩
theorem ul_print {I B : iT} (h : unl I B) (F : fT) (J : jT) (x z : Int32) : mX11_print I F x z = some (-1, I) ∧ mX12_print B J x z = some (-1, B) := by
  unfold mX11_print mX12_print
  rw [(ul_talk h F x z).1, (ul_talk h F x z).2]
  exact ⟨rfl, rfl⟩
theorem ul_same {I B : iT} (h : unl I B) (F : fT) (J : jT) (x z v w : Int32) : mX11_same I F x z v w = some 0 ∧ mX12_same B J x z v w = some 0 := by
  unfold mX11_same mX12_same
  rw [(ul_talk h F x z).1, (ul_talk h F x z).2]
  exact ⟨rfl, rfl⟩
theorem ul_ready {I B : iT} (h : unl I B) : mX11_ready I = some 0 ∧ mX12_ready B = some 0 := by
  unfold mX11_ready mX12_ready
  rw [row_size h.2.2.2.1, h.2.1]
  exact ⟨rfl, rfl⟩
theorem ul_which {I B : iT} (h : unl I B) (x : Int32) : mX11_which I x = some (-1) ∧ mX12_which B x = some (-1) := by
  unfold mX11_which mX12_which
  rw [row_at h.2.2.2.1, (ul_ready h).2, lat_nil]
  refine ⟨rfl, ?_⟩
  show (mX12_isIn x 0 (0 - 1)).bind _ = _
  rw [isIn_eq]
  have h1 : x < 0 ∨ (0 - 1 : Int32) < x := by
    by_cases q : x < 0
    · exact Or.inl q
    · right
      have : (0 : Int32) ≤ x := Int32.not_lt.mp q
      rw [Int32.lt_iff_toInt_lt]
      rw [Int32.le_iff_toInt_le, Int32.toInt_zero] at this
      have e : (0 - 1 : Int32).toInt = -1 := by decide
      omega
  rw [if_pos h1]
  rfl
theorem ul_step {I B : iT} (h : unl I B) (F : fT) (J : jT) (x : Int32) : mX11_step I F x = some (-1, I) ∧ mX12_step B J x = some (-1, B, J) := by
  unfold mX11_step mX12_step mX6_advance
  rw [row_at h.2.2.2.1, (ul_which h x).2, lat_nil]
  exact ⟨rfl, rfl⟩
theorem ul_run {I B : iT} (h : unl I B) (F : fT) (J : jT) (x z : Int32) : ∃ r, mX11_run I F x z = some (r, I) ∧ mX12_run B J x z = some (r, B, J) := by
  unfold mX11_run mX12_run
  rw [isIn_eq]
  by_cases h1 : z < 0
  · exact ⟨-1, by rw [if_pos h1], by simp [h1]⟩
  · by_cases h2 : z ≤ 600
    · have h3 : ¬ (600 : Int32) < z := Int32.not_lt.mpr h2
      refine ⟨0, ?_, ?_⟩
      · rw [if_neg h1, if_pos h2, show LF = 99999 + 1 from rfl, mX11_run_21]
        by_cases h4 : z ≤ 0
        · rw [if_pos h4]
        · rw [if_neg h4, row_size h.2.2.2.1]; rfl
      · rw [if_neg (fun q => q.elim h1 h3)]
        show (if (1 : Int32) = 0 then some (-1, B, J) else mX12_run_18 LF B J x z x 0) = _
        rw [if_neg (by decide), show LF = 99999 + 1 from rfl, mX12_run_18]
        by_cases h4 : z ≤ 0
        · rw [if_pos h4]
        · rw [if_neg h4, (ul_ready h).2]; rfl
    · have h3 : (600 : Int32) < z := Int32.not_le.mp h2
      exact ⟨-1, by rw [if_neg h1, if_neg h2], by simp [h3]⟩
theorem ul_process {I B : iT} (h : unl I B) (F : fT) (x z : Int32) : mX11_process I F x z = some (-1) ∧ mX12_process B x z = some (-1) := by
  unfold mX11_process mX12_process mX6_made
  rw [h.2.1, row_size h.2.2.1]
  refine ⟨?_, rfl⟩
  by_cases h1 : x < 0
  · rw [if_pos h1]
  · rw [if_neg h1]
    show (if x < nI 0 then _ else _) = _
    rw [nI_0, if_neg h1]
theorem ul_channel {I B : iT} (h : unl I B) (x z : Int32) : mX11_channel I x z = some (-1) ∧ mX12_channel B x z = some (-1) := by
  unfold mX11_channel mX12_channel mX1_made
  rw [h.2.1, row_size h.2.2.2.2.2.2]
  refine ⟨?_, rfl⟩
  by_cases h1 : x < 0
  · rw [if_pos h1]
  · rw [if_neg h1]
    show (if x < nI 0 then _ else _) = _
    rw [nI_0, if_neg h1]
theorem ul_message {I B : iT} (h : unl I B) (J : jT) (x z v : Int32) : mX11_message I x z v = some (-1) ∧ mX12_message B J x z v = some (-1) := by
  have hf : mX1_follow I x = some x := by
    unfold mX1_follow
    rw [show LF = 99999 + 1 from rfl, mX1_follow_4, if_neg (by decide), row_at h.2.2.2.2.2.2, lat_nil]
    rfl
  have hd : mX1_find I x z = some (-1) := by
    unfold mX1_find mX1_made
    rw [row_size h.2.2.2.2.2.2]
    by_cases h1 : x < 0
    · rw [if_pos h1]
    · rw [if_neg h1]
      show (if nI 0 ≤ x then _ else _) = _
      rw [nI_0, if_pos (Int32.not_lt.mp h1)]
  unfold mX11_message mX12_message
  rw [h.2.1, hf]
  refine ⟨?_, rfl⟩
  show (mX1_find I x z).bind _ = _
  rw [hd]
  rfl
theorem ul_said {I B : iT} (h : unl I B) (x z : Int32) : mX11_said I x z = some (-1) ∧ mX12_said B x z = some (-1) := by
  unfold mX11_said mX12_said
  rw [h.2.1, row_at h.2.2.2.2.1, row_at h.2.2.2.2.2.1, lat_nil]
  refine ⟨?_, rfl⟩
  by_cases h1 : z = 0
  · rw [if_pos h1]; rfl
  · rw [if_neg h1]
    by_cases h2 : z = 1
    · rw [if_pos h2]; rfl
    · rw [if_neg h2]
theorem ul_begin {I B : iT} (h : unl I B) (F : fT) (J : jT) : mX11_begin I F = some (0, I, F) ∧ mX12_begin B J = some (0, B) := by
  unfold mX11_begin mX11_begin_18 mX12_begin
  rw [h.1, h.2.1]
  exact ⟨rfl, rfl⟩
