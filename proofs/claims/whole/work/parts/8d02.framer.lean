/-! FRAMES of the reference (pure; printed by wip/whole/gen_frame.py) -/
def TMr (q i : Nat) : Prop := (q = 186 ∧ ((60 ≤ i ∧ i ≤ 65) ∨ i = 76 ∨ i = 78)) ∨ (212 ≤ q ∧ q ≤ 230)
section
variable {I0 : iT}
theorem fz_mX12_step_48 {I : iT} (h : PTf TMr I0 I) (J : jT) (x1 : Int32) (x2 : Int32) : OWf gQ (PTf TMr I0) (mX12_step_48 I J x1 x2) := by
  unfold mX12_step_48
  repeat' first
    | with_reducible assumption
    | with_reducible exact ow_n
    | with_reducible apply ow_sU
    | with_reducible apply ow_sP
    | with_reducible apply ow_sJ
    | with_reducible apply ow_sQ
    | with_reducible apply ow_if
    | with_reducible apply ow_bU
    | with_reducible apply ow_bP
    | with_reducible apply ow_bJ
    | with_reducible apply ow_bQ
    | with_reducible apply ow_r
    | with_reducible apply pt_w
    | with_reducible rfl
    | (intro i; unfold TMr; omega)
    | (unfold TMr; omega)
    | intro _
theorem fz_mX12_lay_83 {I : iT} (h : PTf TMr I0 I) (J : jT) (x1 : Int32) (x2 : Int32) (x3 : Int32) (w4 : Int64) (x6 : Int32) : OWf gJ (PTf TMr I0) (mX12_lay_83 I J x1 x2 x3 w4 x6) := by
  unfold mX12_lay_83
  repeat' first
    | with_reducible assumption
    | with_reducible exact ow_n
    | with_reducible apply ow_sU
    | with_reducible apply ow_sP
    | with_reducible apply ow_sJ
    | with_reducible apply ow_sQ
    | with_reducible apply ow_if
    | with_reducible apply ow_bU
    | with_reducible apply ow_bP
    | with_reducible apply ow_bJ
    | with_reducible apply ow_bQ
    | with_reducible apply ow_r
    | with_reducible apply pt_w
    | with_reducible rfl
    | (intro i; unfold TMr; omega)
    | (unfold TMr; omega)
    | intro _
theorem fz_mX12_lay {I : iT} (h : PTf TMr I0 I) (J : jT) (x1 : Int32) (x2 : Int32) (x3 : Int32) (w4 : Int64) : OWf gJ (PTf TMr I0) (mX12_lay I J x1 x2 x3 w4) := by
  unfold mX12_lay
  repeat' first
    | with_reducible assumption
    | with_reducible exact ow_n
    | with_reducible apply ow_sU
    | with_reducible apply ow_sP
    | with_reducible apply ow_sJ
    | with_reducible apply ow_sQ
    | with_reducible apply ow_if
    | with_reducible apply fz_mX12_lay_83
    | with_reducible apply ow_bU
    | with_reducible apply ow_bP
    | with_reducible apply ow_bJ
    | with_reducible apply ow_bQ
    | with_reducible apply ow_r
    | with_reducible apply pt_w
    | with_reducible rfl
    | (intro i; unfold TMr; omega)
    | (unfold TMr; omega)
    | intro _
theorem fz_mX12_take {I : iT} (h : PTf TMr I0 I) (x1 : Int32) : OWf gP (PTf TMr I0) (mX12_take I x1) := by
  unfold mX12_take
  repeat' first
    | with_reducible assumption
    | with_reducible exact ow_n
    | with_reducible apply ow_sU
    | with_reducible apply ow_sP
    | with_reducible apply ow_sJ
    | with_reducible apply ow_sQ
    | with_reducible apply ow_if
    | with_reducible apply ow_bU
    | with_reducible apply ow_bP
    | with_reducible apply ow_bJ
    | with_reducible apply ow_bQ
    | with_reducible apply ow_r
    | with_reducible apply pt_w
    | with_reducible rfl
    | (intro i; unfold TMr; omega)
    | (unfold TMr; omega)
    | intro _
theorem fz_mX12_worth_117 (R : sc_12worthT) (hR : ∀ (I : iT) (y1 y2 : Int32), PTf TMr I0 I → OWf gP (PTf TMr I0) (R I y1 y2)) : ∀ (n : Nat) (I : iT) (z1 : Int32) (z2 : Int32) (z3 : Int32) (z4 : Int32) (z5 : Int32), PTf TMr I0 I → OWf gP (PTf TMr I0) (mX12_worth_117 R n I z1 z2 z3 z4 z5) := by
  intro n
  induction n with
  | zero =>
    intros
    exact ow_n
  | succ n ih =>
    intro I z1 z2 z3 z4 z5 h
    rw [mX12_worth_117]
    repeat' first
      | with_reducible assumption
      | with_reducible exact ow_n
      | with_reducible apply ow_sU
      | with_reducible apply ow_sP
      | with_reducible apply ow_sJ
      | with_reducible apply ow_sQ
      | with_reducible apply ow_if
      | with_reducible apply hR
      | with_reducible apply ih
      | with_reducible apply ow_bU
      | with_reducible apply ow_bP
      | with_reducible apply ow_bJ
      | with_reducible apply ow_bQ
      | with_reducible apply ow_r
      | with_reducible apply pt_w
      | with_reducible rfl
      | (intro i; unfold TMr; omega)
      | (unfold TMr; omega)
      | intro _
theorem fz_mX12_worth_115 (R : sc_12worthT) {I : iT} (hR : ∀ (I : iT) (y1 y2 : Int32), PTf TMr I0 I → OWf gP (PTf TMr I0) (R I y1 y2)) (h : PTf TMr I0 I) (x1 : Int32) (x2 : Int32) (x3 : Int32) (x4 : Int32) (s0 : Int32) : OWf gP (PTf TMr I0) (mX12_worth_115 R I x1 x2 x3 x4 s0) := by
  unfold mX12_worth_115
  repeat' first
    | with_reducible assumption
    | with_reducible exact ow_n
    | with_reducible apply ow_sU
    | with_reducible apply ow_sP
    | with_reducible apply ow_sJ
    | with_reducible apply ow_sQ
    | with_reducible apply ow_if
    | with_reducible apply hR
    | with_reducible apply fz_mX12_worth_117
    | with_reducible apply ow_bU
    | with_reducible apply ow_bP
    | with_reducible apply ow_bJ
    | with_reducible apply ow_bQ
    | with_reducible apply ow_r
    | with_reducible apply pt_w
    | with_reducible rfl
    | (intro i; unfold TMr; omega)
    | (unfold TMr; omega)
    | intro _
theorem fz_mX12_worth_8 (R : sc_12worthT) (hR : ∀ (I : iT) (y1 y2 : Int32), PTf TMr I0 I → OWf gP (PTf TMr I0) (R I y1 y2)) : ∀ (n : Nat) (I : iT) (z1 : Int32) (z2 : Int32) (z3 : Int32) (z4 : Int32), PTf TMr I0 I → OWf gP (PTf TMr I0) (mX12_worth_8 R n I z1 z2 z3 z4) := by
  intro n
  induction n with
  | zero =>
    intros
    exact ow_n
  | succ n ih =>
    intro I z1 z2 z3 z4 h
    rw [mX12_worth_8]
    repeat' first
      | with_reducible assumption
      | with_reducible exact ow_n
      | with_reducible apply ow_sU
      | with_reducible apply ow_sP
      | with_reducible apply ow_sJ
      | with_reducible apply ow_sQ
      | with_reducible apply ow_if
      | with_reducible apply hR
      | with_reducible apply ih
      | with_reducible apply fz_mX12_worth_115
      | with_reducible apply ow_bU
      | with_reducible apply ow_bP
      | with_reducible apply ow_bJ
      | with_reducible apply ow_bQ
      | with_reducible apply ow_r
      | with_reducible apply pt_w
      | with_reducible rfl
      | (intro i; unfold TMr; omega)
      | (unfold TMr; omega)
      | intro _
theorem fz_bX12_worth (R : sc_12worthT) {I : iT} (hR : ∀ (I : iT) (y1 y2 : Int32), PTf TMr I0 I → OWf gP (PTf TMr I0) (R I y1 y2)) (h : PTf TMr I0 I) (x1 : Int32) (x2 : Int32) : OWf gP (PTf TMr I0) (bX12_worth R I x1 x2) := by
  unfold bX12_worth
  repeat' first
    | with_reducible assumption
    | with_reducible exact ow_n
    | with_reducible apply ow_sU
    | with_reducible apply ow_sP
    | with_reducible apply ow_sJ
    | with_reducible apply ow_sQ
    | with_reducible apply ow_if
    | with_reducible apply hR
    | with_reducible apply fz_mX12_worth_8
    | with_reducible apply ow_bU
    | with_reducible apply ow_bP
    | with_reducible apply ow_bJ
    | with_reducible apply ow_bQ
    | with_reducible apply ow_r
    | with_reducible apply pt_w
    | with_reducible rfl
    | (intro i; unfold TMr; omega)
    | (unfold TMr; omega)
    | intro _
theorem fz_sc_12worth : ∀ (n : Nat) (I : iT) (x1 x2 : Int32), PTf TMr I0 I → OWf gP (PTf TMr I0) (sc_12worth n I x1 x2) := by
  intro n
  induction n with
  | zero => intro I x1 x2 h; exact ow_n
  | succ n ih =>
    intro I x1 x2 h
    show OWf gP (PTf TMr I0) (bX12_worth (sc_12worth n) I x1 x2)
    exact fz_bX12_worth _ ih h _ _
theorem fz_mX12_worth (n : Nat) (I : iT) (x1 x2 : Int32) (h : PTf TMr I0 I) : OWf gP (PTf TMr I0) (mX12_worth n I x1 x2) := fz_sc_12worth n I x1 x2 h
theorem fz_mX12_goesOn_362 (k330 : iT → jT → Int32 → Int32 → Int32 → Int64 → Int32 → Option (iT × jT)) {I : iT} (hk330 : ∀ (y0 : iT) (y1 : jT) (y2 : Int32) (y3 : Int32) (y4 : Int32) (y5 : Int64) (y6 : Int32), PTf TMr I0 y0 → OWf gJ (PTf TMr I0) (k330 y0 y1 y2 y3 y4 y5 y6)) (h : PTf TMr I0 I) (J : jT) (x1 : Int32) (x2 : Int32) (x3 : Int32) (w4 : Int64) (x6 : Int32) : OWf gJ (PTf TMr I0) (mX12_goesOn_362 k330 I J x1 x2 x3 w4 x6) := by
  unfold mX12_goesOn_362
  repeat' first
    | with_reducible assumption
    | with_reducible exact ow_n
    | with_reducible apply ow_sU
    | with_reducible apply ow_sP
    | with_reducible apply ow_sJ
    | with_reducible apply ow_sQ
    | with_reducible apply ow_if
    | with_reducible apply hk330
    | with_reducible apply ow_bU
    | with_reducible apply ow_bP
    | with_reducible apply ow_bJ
    | with_reducible apply ow_bQ
    | with_reducible apply ow_r
    | with_reducible apply pt_w
    | with_reducible rfl
    | (intro i; unfold TMr; omega)
    | (unfold TMr; omega)
    | intro _
theorem fz_mX12_goesOn_330  : ∀ (n : Nat) (I : iT) (J : jT) (z2 : Int32) (z3 : Int32) (z4 : Int32) (z5 : Int64) (z6 : Int32), PTf TMr I0 I → OWf gJ (PTf TMr I0) (mX12_goesOn_330 n I J z2 z3 z4 z5 z6) := by
  intro n
  induction n with
  | zero =>
    intros
    exact ow_n
  | succ n ih =>
    intro I J z2 z3 z4 z5 z6 h
    rw [mX12_goesOn_330]
    repeat' first
      | with_reducible assumption
      | with_reducible exact ow_n
      | with_reducible apply ow_sU
      | with_reducible apply ow_sP
      | with_reducible apply ow_sJ
      | with_reducible apply ow_sQ
      | with_reducible apply ow_if
      | with_reducible apply ih
      | with_reducible apply fz_mX12_goesOn_362
      | with_reducible apply ow_bU
      | with_reducible apply ow_bP
      | with_reducible apply ow_bJ
      | with_reducible apply ow_bQ
      | with_reducible apply ow_r
      | with_reducible apply pt_w
      | with_reducible rfl
      | (intro i; unfold TMr; omega)
      | (unfold TMr; omega)
      | intro _
theorem fz_mX12_fresh0 {I : iT} (h : PTf TMr I0 I) (x1 : Int32) : OWf gU (PTf TMr I0) (mX12_fresh0 I x1) := by
  unfold mX12_fresh0
  repeat' first
    | with_reducible assumption
    | with_reducible exact ow_n
    | with_reducible apply ow_sU
    | with_reducible apply ow_sP
    | with_reducible apply ow_sJ
    | with_reducible apply ow_sQ
    | with_reducible apply ow_if
    | with_reducible apply ow_bU
    | with_reducible apply ow_bP
    | with_reducible apply ow_bJ
    | with_reducible apply ow_bQ
    | with_reducible apply ow_r
    | with_reducible apply pt_w
    | with_reducible rfl
    | (intro i; unfold TMr; omega)
    | (unfold TMr; omega)
    | intro _
theorem fz_mX12_newChannel_24  : ∀ (n : Nat) (I : iT) (z1 : Int32) (z2 : Int32), PTf TMr I0 I → OWf gP (PTf TMr I0) (mX12_newChannel_24 n I z1 z2) := by
  intro n
  induction n with
  | zero =>
    intros
    exact ow_n
  | succ n ih =>
    intro I z1 z2 h
    rw [mX12_newChannel_24]
    repeat' first
      | with_reducible assumption
      | with_reducible exact ow_n
      | with_reducible apply ow_sU
      | with_reducible apply ow_sP
      | with_reducible apply ow_sJ
      | with_reducible apply ow_sQ
      | with_reducible apply ow_if
      | with_reducible apply ih
      | with_reducible apply ow_bU
      | with_reducible apply ow_bP
      | with_reducible apply ow_bJ
      | with_reducible apply ow_bQ
      | with_reducible apply ow_r
      | with_reducible apply pt_w
      | with_reducible rfl
      | (intro i; unfold TMr; omega)
      | (unfold TMr; omega)
      | intro _
theorem fz_mX12_newChannel {I : iT} (h : PTf TMr I0 I) : OWf gP (PTf TMr I0) (mX12_newChannel I) := by
  unfold mX12_newChannel
  repeat' first
    | with_reducible assumption
    | with_reducible exact ow_n
    | with_reducible apply ow_sU
    | with_reducible apply ow_sP
    | with_reducible apply ow_sJ
    | with_reducible apply ow_sQ
    | with_reducible apply ow_if
    | with_reducible apply fz_mX12_newChannel_24
    | with_reducible apply ow_bU
    | with_reducible apply ow_bP
    | with_reducible apply ow_bJ
    | with_reducible apply ow_bQ
    | with_reducible apply ow_r
    | with_reducible apply pt_w
    | with_reducible rfl
    | (intro i; unfold TMr; omega)
    | (unfold TMr; omega)
    | intro _
theorem fz_mX12_tells_105  : ∀ (n : Nat) (I : iT) (z1 : Int32) (z2 : Int32) (z3 : Int32) (z4 : Int32) (z5 : Int32) (z6 : Int32) (z7 : Int32), PTf TMr I0 I → OWf gP (PTf TMr I0) (mX12_tells_105 n I z1 z2 z3 z4 z5 z6 z7) := by
  intro n
  induction n with
  | zero =>
    intros
    exact ow_n
  | succ n ih =>
    intro I z1 z2 z3 z4 z5 z6 z7 h
    rw [mX12_tells_105]
    repeat' first
      | with_reducible assumption
      | with_reducible exact ow_n
      | with_reducible apply ow_sU
      | with_reducible apply ow_sP
      | with_reducible apply ow_sJ
      | with_reducible apply ow_sQ
      | with_reducible apply ow_if
      | with_reducible apply ih
      | with_reducible apply ow_bU
      | with_reducible apply ow_bP
      | with_reducible apply ow_bJ
      | with_reducible apply ow_bQ
      | with_reducible apply ow_r
      | with_reducible apply pt_w
      | with_reducible rfl
      | (intro i; unfold TMr; omega)
      | (unfold TMr; omega)
      | intro _
theorem fz_mX12_tells_87 (k9 : iT → Int32 → Int32 → Int32 → Int32 → Int32 → Int32 → Int32 → Option (Int32 × iT)) {I : iT} (hk9 : ∀ (y0 : iT) (y1 : Int32) (y2 : Int32) (y3 : Int32) (y4 : Int32) (y5 : Int32) (y6 : Int32) (y7 : Int32), PTf TMr I0 y0 → OWf gP (PTf TMr I0) (k9 y0 y1 y2 y3 y4 y5 y6 y7)) (h : PTf TMr I0 I) (x1 : Int32) (x2 : Int32) (x3 : Int32) (x4 : Int32) (x5 : Int32) (x6 : Int32) (x7 : Int32) (x8 : Int32) (s0 : Int32) (s1 : Int32) : OWf gP (PTf TMr I0) (mX12_tells_87 k9 I x1 x2 x3 x4 x5 x6 x7 x8 s0 s1) := by
  unfold mX12_tells_87
  repeat' first
    | with_reducible assumption
    | with_reducible exact ow_n
    | with_reducible apply ow_sU
    | with_reducible apply ow_sP
    | with_reducible apply ow_sJ
    | with_reducible apply ow_sQ
    | with_reducible apply ow_if
    | with_reducible apply hk9
    | with_reducible apply ow_bU
    | with_reducible apply ow_bP
    | with_reducible apply ow_bJ
    | with_reducible apply ow_bQ
    | with_reducible apply ow_r
    | with_reducible apply pt_w
    | with_reducible rfl
    | (intro i; unfold TMr; omega)
    | (unfold TMr; omega)
    | intro _
theorem fz_mX12_tells_54 (k9 : iT → Int32 → Int32 → Int32 → Int32 → Int32 → Int32 → Int32 → Option (Int32 × iT)) {I : iT} (hk9 : ∀ (y0 : iT) (y1 : Int32) (y2 : Int32) (y3 : Int32) (y4 : Int32) (y5 : Int32) (y6 : Int32) (y7 : Int32), PTf TMr I0 y0 → OWf gP (PTf TMr I0) (k9 y0 y1 y2 y3 y4 y5 y6 y7)) (h : PTf TMr I0 I) (x1 : Int32) (x2 : Int32) (x3 : Int32) (x4 : Int32) (x5 : Int32) (x6 : Int32) (x7 : Int32) (s0 : Int32) : OWf gP (PTf TMr I0) (mX12_tells_54 k9 I x1 x2 x3 x4 x5 x6 x7 s0) := by
  unfold mX12_tells_54
  repeat' first
    | with_reducible assumption
    | with_reducible exact ow_n
    | with_reducible apply ow_sU
    | with_reducible apply ow_sP
    | with_reducible apply ow_sJ
    | with_reducible apply ow_sQ
    | with_reducible apply ow_if
    | with_reducible apply hk9
    | with_reducible apply fz_mX12_tells_87
    | with_reducible apply ow_bU
    | with_reducible apply ow_bP
    | with_reducible apply ow_bJ
    | with_reducible apply ow_bQ
    | with_reducible apply ow_r
    | with_reducible apply pt_w
    | with_reducible rfl
    | (intro i; unfold TMr; omega)
    | (unfold TMr; omega)
    | intro _
theorem fz_mX12_tells_9  : ∀ (n : Nat) (I : iT) (z1 : Int32) (z2 : Int32) (z3 : Int32) (z4 : Int32) (z5 : Int32) (z6 : Int32) (z7 : Int32), PTf TMr I0 I → OWf gP (PTf TMr I0) (mX12_tells_9 n I z1 z2 z3 z4 z5 z6 z7) := by
  intro n
  induction n with
  | zero =>
    intros
    exact ow_n
  | succ n ih =>
    intro I z1 z2 z3 z4 z5 z6 z7 h
    rw [mX12_tells_9]
    repeat' first
      | with_reducible assumption
      | with_reducible exact ow_n
      | with_reducible apply ow_sU
      | with_reducible apply ow_sP
      | with_reducible apply ow_sJ
      | with_reducible apply ow_sQ
      | with_reducible apply ow_if
      | with_reducible apply ih
      | with_reducible apply fz_mX12_tells_105
      | with_reducible apply fz_mX12_worth
      | with_reducible apply fz_mX12_tells_54
      | with_reducible apply ow_bU
      | with_reducible apply ow_bP
      | with_reducible apply ow_bJ
      | with_reducible apply ow_bQ
      | with_reducible apply ow_r
      | with_reducible apply pt_w
      | with_reducible rfl
      | (intro i; unfold TMr; omega)
      | (unfold TMr; omega)
      | intro _
theorem fz_mX12_tells {I : iT} (h : PTf TMr I0 I) (x1 : Int32) (x2 : Int32) (x3 : Int32) (x4 : Int32) : OWf gP (PTf TMr I0) (mX12_tells I x1 x2 x3 x4) := by
  unfold mX12_tells
  repeat' first
    | with_reducible assumption
    | with_reducible exact ow_n
    | with_reducible apply ow_sU
    | with_reducible apply ow_sP
    | with_reducible apply ow_sJ
    | with_reducible apply ow_sQ
    | with_reducible apply ow_if
    | with_reducible apply fz_mX12_tells_9
    | with_reducible apply ow_bU
    | with_reducible apply ow_bP
    | with_reducible apply ow_bJ
    | with_reducible apply ow_bQ
    | with_reducible apply ow_r
    | with_reducible apply pt_w
    | with_reducible rfl
    | (intro i; unfold TMr; omega)
    | (unfold TMr; omega)
    | intro _
theorem fz_mX12_enters {I : iT} (h : PTf TMr I0 I) (x1 : Int32) (x2 : Int32) : OWf gU (PTf TMr I0) (mX12_enters I x1 x2) := by
  unfold mX12_enters
  repeat' first
    | with_reducible assumption
    | with_reducible exact ow_n
    | with_reducible apply ow_sU
    | with_reducible apply ow_sP
    | with_reducible apply ow_sJ
    | with_reducible apply ow_sQ
    | with_reducible apply ow_if
    | with_reducible apply ow_bU
    | with_reducible apply ow_bP
    | with_reducible apply ow_bJ
    | with_reducible apply ow_bQ
    | with_reducible apply ow_r
    | with_reducible apply pt_w
    | with_reducible rfl
    | (intro i; unfold TMr; omega)
    | (unfold TMr; omega)
    | intro _
theorem fz_mX12_settles_58 (k0 : iT → jT → Int32 → Option (iT)) {I : iT} (hk0 : ∀ (y0 : iT) (y1 : jT) (y2 : Int32), PTf TMr I0 y0 → OWf gU (PTf TMr I0) (k0 y0 y1 y2)) (h : PTf TMr I0 I) (J : jT) (x1 : Int32) (x2 : Int32) (s0 : Int32) (s1 : Int32) : OWf gU (PTf TMr I0) (mX12_settles_58 k0 I J x1 x2 s0 s1) := by
  unfold mX12_settles_58
  repeat' first
    | with_reducible assumption
    | with_reducible exact ow_n
    | with_reducible apply ow_sU
    | with_reducible apply ow_sP
    | with_reducible apply ow_sJ
    | with_reducible apply ow_sQ
    | with_reducible apply ow_if
    | with_reducible apply hk0
    | with_reducible apply ow_bU
    | with_reducible apply ow_bP
    | with_reducible apply ow_bJ
    | with_reducible apply ow_bQ
    | with_reducible apply ow_r
    | with_reducible apply pt_w
    | with_reducible rfl
    | (intro i; unfold TMr; omega)
    | (unfold TMr; omega)
    | intro _
theorem fz_mX12_settles_0  : ∀ (n : Nat) (I : iT) (J : jT) (z2 : Int32), PTf TMr I0 I → OWf gU (PTf TMr I0) (mX12_settles_0 n I J z2) := by
  intro n
  induction n with
  | zero =>
    intros
    exact ow_n
  | succ n ih =>
    intro I J z2 h
    rw [mX12_settles_0]
    repeat' first
      | with_reducible assumption
      | with_reducible exact ow_n
      | with_reducible apply ow_sU
      | with_reducible apply ow_sP
      | with_reducible apply ow_sJ
      | with_reducible apply ow_sQ
      | with_reducible apply ow_if
      | with_reducible apply ih
      | with_reducible apply fz_mX12_worth
      | with_reducible apply fz_mX12_settles_58
      | with_reducible apply ow_bU
      | with_reducible apply ow_bP
      | with_reducible apply ow_bJ
      | with_reducible apply ow_bQ
      | with_reducible apply ow_r
      | with_reducible apply pt_w
      | with_reducible rfl
      | (intro i; unfold TMr; omega)
      | (unfold TMr; omega)
      | intro _
theorem fz_mX12_settles {I : iT} (h : PTf TMr I0 I) (J : jT) (x1 : Int32) : OWf gU (PTf TMr I0) (mX12_settles I J x1) := by
  unfold mX12_settles
  repeat' first
    | with_reducible assumption
    | with_reducible exact ow_n
    | with_reducible apply ow_sU
    | with_reducible apply ow_sP
    | with_reducible apply ow_sJ
    | with_reducible apply ow_sQ
    | with_reducible apply ow_if
    | with_reducible apply fz_mX12_settles_0
    | with_reducible apply ow_bU
    | with_reducible apply ow_bP
    | with_reducible apply ow_bJ
    | with_reducible apply ow_bQ
    | with_reducible apply ow_r
    | with_reducible apply pt_w
    | with_reducible rfl
    | (intro i; unfold TMr; omega)
    | (unfold TMr; omega)
    | intro _
theorem fz_mX12_makes {I : iT} (h : PTf TMr I0 I) (J : jT) (x1 : Int32) (x2 : Int32) : OWf gU (PTf TMr I0) (mX12_makes I J x1 x2) := by
  unfold mX12_makes
  repeat' first
    | with_reducible assumption
    | with_reducible exact ow_n
    | with_reducible apply ow_sU
    | with_reducible apply ow_sP
    | with_reducible apply ow_sJ
    | with_reducible apply ow_sQ
    | with_reducible apply ow_if
    | with_reducible apply fz_mX12_fresh0
    | with_reducible apply fz_mX12_newChannel
    | with_reducible apply fz_mX12_tells
    | with_reducible apply fz_mX12_enters
    | with_reducible apply fz_mX12_settles
    | with_reducible apply ow_bU
    | with_reducible apply ow_bP
    | with_reducible apply ow_bJ
    | with_reducible apply ow_bQ
    | with_reducible apply ow_r
    | with_reducible apply pt_w
    | with_reducible rfl
    | (intro i; unfold TMr; omega)
    | (unfold TMr; omega)
    | intro _
theorem fz_mX12_append_91 {I : iT} (h : PTf TMr I0 I) (x1 : Int32) (x2 : Int32) (x3 : Int32) (x4 : Int32) (x5 : Int32) : OWf gU (PTf TMr I0) (mX12_append_91 I x1 x2 x3 x4 x5) := by
  unfold mX12_append_91
  repeat' first
    | with_reducible assumption
    | with_reducible exact ow_n
    | with_reducible apply ow_sU
    | with_reducible apply ow_sP
    | with_reducible apply ow_sJ
    | with_reducible apply ow_sQ
    | with_reducible apply ow_if
    | with_reducible apply ow_bU
    | with_reducible apply ow_bP
    | with_reducible apply ow_bJ
    | with_reducible apply ow_bQ
    | with_reducible apply ow_r
    | with_reducible apply pt_w
    | with_reducible rfl
    | (intro i; unfold TMr; omega)
    | (unfold TMr; omega)
    | intro _
theorem fz_mX12_append_52 {I : iT} (h : PTf TMr I0 I) (x1 : Int32) (x2 : Int32) (x3 : Int32) (x4 : Int32) (s0 : Int32) : OWf gU (PTf TMr I0) (mX12_append_52 I x1 x2 x3 x4 s0) := by
  unfold mX12_append_52
  repeat' first
    | with_reducible assumption
    | with_reducible exact ow_n
    | with_reducible apply ow_sU
    | with_reducible apply ow_sP
    | with_reducible apply ow_sJ
    | with_reducible apply ow_sQ
    | with_reducible apply ow_if
    | with_reducible apply fz_mX12_append_91
    | with_reducible apply ow_bU
    | with_reducible apply ow_bP
    | with_reducible apply ow_bJ
    | with_reducible apply ow_bQ
    | with_reducible apply ow_r
    | with_reducible apply pt_w
    | with_reducible rfl
    | (intro i; unfold TMr; omega)
    | (unfold TMr; omega)
    | intro _
theorem fz_mX12_append_25 {I : iT} (h : PTf TMr I0 I) (x1 : Int32) (x2 : Int32) (x3 : Int32) (s0 : Int32) : OWf gU (PTf TMr I0) (mX12_append_25 I x1 x2 x3 s0) := by
  unfold mX12_append_25
  repeat' first
    | with_reducible assumption
    | with_reducible exact ow_n
    | with_reducible apply ow_sU
    | with_reducible apply ow_sP
    | with_reducible apply ow_sJ
    | with_reducible apply ow_sQ
    | with_reducible apply ow_if
    | with_reducible apply fz_mX12_append_52
    | with_reducible apply ow_bU
    | with_reducible apply ow_bP
    | with_reducible apply ow_bJ
    | with_reducible apply ow_bQ
    | with_reducible apply ow_r
    | with_reducible apply pt_w
    | with_reducible rfl
    | (intro i; unfold TMr; omega)
    | (unfold TMr; omega)
    | intro _
theorem fz_mX12_append {I : iT} (h : PTf TMr I0 I) (x1 : Int32) (x2 : Int32) (x3 : Int32) : OWf gU (PTf TMr I0) (mX12_append I x1 x2 x3) := by
  unfold mX12_append
  repeat' first
    | with_reducible assumption
    | with_reducible exact ow_n
    | with_reducible apply ow_sU
    | with_reducible apply ow_sP
    | with_reducible apply ow_sJ
    | with_reducible apply ow_sQ
    | with_reducible apply ow_if
    | with_reducible apply fz_mX12_append_25
    | with_reducible apply ow_bU
    | with_reducible apply ow_bP
    | with_reducible apply ow_bJ
    | with_reducible apply ow_bQ
    | with_reducible apply ow_r
    | with_reducible apply pt_w
    | with_reducible rfl
    | (intro i; unfold TMr; omega)
    | (unfold TMr; omega)
    | intro _
theorem fz_mX12_joins {I : iT} (h : PTf TMr I0 I) (x1 : Int32) (x2 : Int32) : OWf gU (PTf TMr I0) (mX12_joins I x1 x2) := by
  unfold mX12_joins
  repeat' first
    | with_reducible assumption
    | with_reducible exact ow_n
    | with_reducible apply ow_sU
    | with_reducible apply ow_sP
    | with_reducible apply ow_sJ
    | with_reducible apply ow_sQ
    | with_reducible apply ow_if
    | with_reducible apply fz_mX12_append
    | with_reducible apply ow_bU
    | with_reducible apply ow_bP
    | with_reducible apply ow_bJ
    | with_reducible apply ow_bQ
    | with_reducible apply ow_r
    | with_reducible apply pt_w
    | with_reducible rfl
    | (intro i; unfold TMr; omega)
    | (unfold TMr; omega)
    | intro _
theorem fz_mX12_says_30 {I : iT} (h : PTf TMr I0 I) (x1 : Int32) (x2 : Int32) : OWf gU (PTf TMr I0) (mX12_says_30 I x1 x2) := by
  unfold mX12_says_30
  repeat' first
    | with_reducible assumption
    | with_reducible exact ow_n
    | with_reducible apply ow_sU
    | with_reducible apply ow_sP
    | with_reducible apply ow_sJ
    | with_reducible apply ow_sQ
    | with_reducible apply ow_if
    | with_reducible apply ow_bU
    | with_reducible apply ow_bP
    | with_reducible apply ow_bJ
    | with_reducible apply ow_bQ
    | with_reducible apply ow_r
    | with_reducible apply pt_w
    | with_reducible rfl
    | (intro i; unfold TMr; omega)
    | (unfold TMr; omega)
    | intro _
theorem fz_mX12_says {I : iT} (h : PTf TMr I0 I) (x1 : Int32) (x2 : Int32) : OWf gU (PTf TMr I0) (mX12_says I x1 x2) := by
  unfold mX12_says
  repeat' first
    | with_reducible assumption
    | with_reducible exact ow_n
    | with_reducible apply ow_sU
    | with_reducible apply ow_sP
    | with_reducible apply ow_sJ
    | with_reducible apply ow_sQ
    | with_reducible apply ow_if
    | with_reducible apply fz_mX12_says_30
    | with_reducible apply ow_bU
    | with_reducible apply ow_bP
    | with_reducible apply ow_bJ
    | with_reducible apply ow_bQ
    | with_reducible apply ow_r
    | with_reducible apply pt_w
    | with_reducible rfl
    | (intro i; unfold TMr; omega)
    | (unfold TMr; omega)
    | intro _
theorem fz_mX12_goesOn {I : iT} (h : PTf TMr I0 I) (J : jT) (x1 : Int32) : OWf gJ (PTf TMr I0) (mX12_goesOn I J x1) := by
  unfold mX12_goesOn
  repeat' first
    | with_reducible assumption
    | with_reducible exact ow_n
    | with_reducible apply ow_sU
    | with_reducible apply ow_sP
    | with_reducible apply ow_sJ
    | with_reducible apply ow_sQ
    | with_reducible apply ow_if
    | with_reducible apply fz_mX12_lay
    | with_reducible apply fz_mX12_take
    | with_reducible apply fz_mX12_worth
    | with_reducible apply fz_mX12_goesOn_330
    | with_reducible apply fz_mX12_makes
    | with_reducible apply fz_mX12_tells
    | with_reducible apply fz_mX12_enters
    | with_reducible apply fz_mX12_joins
    | with_reducible apply fz_mX12_says
    | with_reducible apply ow_bU
    | with_reducible apply ow_bP
    | with_reducible apply ow_bJ
    | with_reducible apply ow_bQ
    | with_reducible apply ow_r
    | with_reducible apply pt_w
    | with_reducible rfl
    | (intro i; unfold TMr; omega)
    | (unfold TMr; omega)
    | intro _
theorem fz_mX12_step_55 {I : iT} (h : PTf TMr I0 I) (J : jT) (x1 : Int32) (x2 : Int32) : OWf gQ (PTf TMr I0) (mX12_step_55 I J x1 x2) := by
  unfold mX12_step_55
  repeat' first
    | with_reducible assumption
    | with_reducible exact ow_n
    | with_reducible apply ow_sU
    | with_reducible apply ow_sP
    | with_reducible apply ow_sJ
    | with_reducible apply ow_sQ
    | with_reducible apply ow_if
    | with_reducible apply fz_mX12_goesOn
    | with_reducible apply fz_mX12_settles
    | with_reducible apply ow_bU
    | with_reducible apply ow_bP
    | with_reducible apply ow_bJ
    | with_reducible apply ow_bQ
    | with_reducible apply ow_r
    | with_reducible apply pt_w
    | with_reducible rfl
    | (intro i; unfold TMr; omega)
    | (unfold TMr; omega)
    | intro _
theorem fz_mX12_step {I : iT} (h : PTf TMr I0 I) (J : jT) (x1 : Int32) : OWf gQ (PTf TMr I0) (mX12_step I J x1) := by
  unfold mX12_step
  repeat' first
    | with_reducible assumption
    | with_reducible exact ow_n
    | with_reducible apply ow_sU
    | with_reducible apply ow_sP
    | with_reducible apply ow_sJ
    | with_reducible apply ow_sQ
    | with_reducible apply ow_if
    | with_reducible apply fz_mX12_step_48
    | with_reducible apply fz_mX12_step_55
    | with_reducible apply ow_bU
    | with_reducible apply ow_bP
    | with_reducible apply ow_bJ
    | with_reducible apply ow_bQ
    | with_reducible apply ow_r
    | with_reducible apply pt_w
    | with_reducible rfl
    | (intro i; unfold TMr; omega)
    | (unfold TMr; omega)
    | intro _
theorem fz_mX12_run_18  : ∀ (n : Nat) (I : iT) (J : jT) (z2 : Int32) (z3 : Int32) (z4 : Int32) (z5 : Int32), PTf TMr I0 I → OWf gQ (PTf TMr I0) (mX12_run_18 n I J z2 z3 z4 z5) := by
  intro n
  induction n with
  | zero =>
    intros
    exact ow_n
  | succ n ih =>
    intro I J z2 z3 z4 z5 h
    rw [mX12_run_18]
    repeat' first
      | with_reducible assumption
      | with_reducible exact ow_n
      | with_reducible apply ow_sU
      | with_reducible apply ow_sP
      | with_reducible apply ow_sJ
      | with_reducible apply ow_sQ
      | with_reducible apply ow_if
      | with_reducible apply ih
      | with_reducible apply fz_mX12_step
      | with_reducible apply ow_bU
      | with_reducible apply ow_bP
      | with_reducible apply ow_bJ
      | with_reducible apply ow_bQ
      | with_reducible apply ow_r
      | with_reducible apply pt_w
      | with_reducible rfl
      | (intro i; unfold TMr; omega)
      | (unfold TMr; omega)
      | intro _
theorem fz_mX12_run {I : iT} (h : PTf TMr I0 I) (J : jT) (x1 : Int32) (x2 : Int32) : OWf gQ (PTf TMr I0) (mX12_run I J x1 x2) := by
  unfold mX12_run
  repeat' first
    | with_reducible assumption
    | with_reducible exact ow_n
    | with_reducible apply ow_sU
    | with_reducible apply ow_sP
    | with_reducible apply ow_sJ
    | with_reducible apply ow_sQ
    | with_reducible apply ow_if
    | with_reducible apply fz_mX12_run_18
    | with_reducible apply ow_bU
    | with_reducible apply ow_bP
    | with_reducible apply ow_bJ
    | with_reducible apply ow_bQ
    | with_reducible apply ow_r
    | with_reducible apply pt_w
    | with_reducible rfl
    | (intro i; unfold TMr; omega)
    | (unfold TMr; omega)
    | intro _
end
