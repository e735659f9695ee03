/-! THE LAW: the component's calls, each tried. Printed by wip/whole/mk98l.py. -/
section LW
variable {V : bk_V} {d n : Nat} {B : Nat × Nat} {Q : bk_R → bk_H → Nat → Prop} {h : bk_H} {x o : Nat} {T : List Int32} {P : Nat → bT} {S : bS} {ep : Int32} {gl : Nat → Int64}
theorem CM.ob (h0 : CM h x T P S ep) : ∃ fs : List Value, h x = some (.inr (10, fs)) := by
  obtain ⟨p, f, g, s, er, et, sP, S2, b1, b2, hC⟩ := h0
  exact ⟨_, hC.2.2.2.2.2.2.2⟩
/-- what a call leaves: all but the component and the place of the answer -/
def fo (h h' : bk_H) (x o : Nat) : Prop := ∀ q, (q < x ∨ x + 70 ≤ q) → q ≠ o → h' q = h q
def LO1 (h : bk_H) (o : Nat) (g : Nat → Int64) : Prop := h o = some (.inl (1, 1, .inr (.inl g)))
theorem bw_feed {a0 a1 a2 a3 a4 : Int32}  (ho : LO1 h o gl) (hxo : o < x ∨ x + 70 ≤ o) (hB1 : 1 ≤ B.1) (hB2 : 6 ≤ B.2) (hC : CM h x T P S ep) (hE : ¬ T.length ≤ 1980 → ∀ n', n ≤ n' → Q (.inl (some (.int 1))) h n') (hQ : T.length ≤ 1980 → ∀ h', CM h' x (T ++ bys a0 ++ bys a1 ++ bys a2 ++ bys a3 ++ bys a4) P S ep → fo h h' x o → LO1 h' o (vp_updL gl 0 ((nI (T.length + 20))).toInt64) → Q (.inl (some (.int 0))) h' n) : bk_wp V (d + 3) 226 [.ref x, .int a0, .int a1, .int a2, .int a3, .int a4, .ref o] h n B Q := by
  refine bg_in rfl rfl ?_
  refine bg_aload6 rfl ?_
  refine bg_iconst rfl ?_
  refine bg_aload0 rfl ?_
  refine bg_iload1 rfl ?_
  refine bg_iload2 rfl ?_
  refine bg_iload3 rfl ?_
  refine bg_iload4 rfl ?_
  refine bg_iload5 rfl ?_
  refine bg_try (b := (1, 6)) rfl rfl rfl rfl rfl rfl (CM.ob hC) (by show 0 + 1 ≤ B.1; omega) (by show 0 + 6 ≤ B.2; omega) ?_
  refine bb_feed hC ?_ ?_
  · refine fun e0 => ⟨Nat.le_refl _, Nat.le_refl _, fun n' hn => Or.inr ⟨_, _, rfl, rfl, rfl, ?_⟩⟩
    refine bg_iconst rfl ?_
    refine bg_iret rfl rfl (by rfl) ?_
    exact hE e0 n' hn
  · refine fun e0 h2 hC2 w2 => Or.inl ⟨_, rfl, ?_⟩
    have ho2 : LO1 h2 o gl := (w2 o (by omega)).trans ho
    refine bg_i2l rfl ?_
    refine bg_lastore rfl ho2 (by unfold vp_in; decide) (fun h15 f15 g15 => ?_)
    refine bg_goto rfl ?_
    refine bg_iconst rfl ?_
    refine bg_iret rfl rfl (by rfl) ?_
    exact hQ e0 h15 (hC2.kp (fr.one g15) (by omega)) (fun q q1 q2 => (g15 q q2).trans (w2 q q1)) f15
theorem bw_trim {v : Int32}  (ho : LO1 h o gl) (hxo : o < x ∨ x + 70 ≤ o) (hB1 : 1 ≤ B.1) (hB2 : 6 ≤ B.2) (hC : CM h x T P S ep) (hE : ¬ inR v 0 (nI T.length) → ∀ n', n ≤ n' → Q (.inl (some (.int 1))) h n') (hQ : inR v 0 (nI T.length) → ∀ h', CM h' x (T.take v.toNatClampNeg) P S ep → fo h h' x o → LO1 h' o (vp_updL gl 0 (v).toInt64) → Q (.inl (some (.int 0))) h' n) : bk_wp V (d + 3) 227 [.ref x, .int v, .ref o] h n B Q := by
  refine bg_in rfl rfl ?_
  refine bg_aload2 rfl ?_
  refine bg_iconst rfl ?_
  refine bg_aload0 rfl ?_
  refine bg_iload1 rfl ?_
  refine bg_try (b := (1, 6)) rfl rfl rfl rfl rfl rfl (CM.ob hC) (by show 0 + 1 ≤ B.1; omega) (by show 0 + 6 ≤ B.2; omega) ?_
  refine bb_trim hC ?_ ?_
  · refine fun e0 => ⟨Nat.le_refl _, Nat.le_refl _, fun n' hn => Or.inr ⟨_, _, rfl, rfl, rfl, ?_⟩⟩
    refine bg_iconst rfl ?_
    refine bg_iret rfl rfl (by rfl) ?_
    exact hE e0 n' hn
  · refine fun e0 h2 hC2 w2 => Or.inl ⟨_, rfl, ?_⟩
    have ho2 : LO1 h2 o gl := (w2 o (by omega)).trans ho
    refine bg_i2l rfl ?_
    refine bg_lastore rfl ho2 (by unfold vp_in; decide) (fun h8 f8 g8 => ?_)
    refine bg_goto rfl ?_
    refine bg_iconst rfl ?_
    refine bg_iret rfl rfl (by rfl) ?_
    exact hQ e0 h8 (hC2.kp (fr.one g8) (by omega)) (fun q q1 q2 => (g8 q q2).trans (w2 q q1)) f8
theorem bw_count {w : Int32}  (ho : LO1 h o gl) (hxo : o < x ∨ x + 70 ≤ o) (hB1 : 1 ≤ B.1) (hB2 : 6 ≤ B.2) (hC : CM h x T P S ep) (hE : ¬ w15 w → ∀ n', n ≤ n' → Q (.inl (some (.int 1))) h n') (hQ : w15 w → ∀ h', CM h' x T P S ep → fo h h' x o → LO1 h' o (vp_updL gl 0 ((cnV T P S w)).toInt64) → Q (.inl (some (.int 0))) h' n) : bk_wp V (d + 3) 228 [.ref x, .int w, .ref o] h n B Q := by
  refine bg_in rfl rfl ?_
  refine bg_aload2 rfl ?_
  refine bg_iconst rfl ?_
  refine bg_aload0 rfl ?_
  refine bg_iload1 rfl ?_
  refine bg_try (b := (1, 6)) rfl rfl rfl rfl rfl rfl (CM.ob hC) (by show 0 + 1 ≤ B.1; omega) (by show 0 + 6 ≤ B.2; omega) ?_
  refine bb_count hC ?_ ?_
  · refine fun e0 => ⟨Nat.le_refl _, Nat.le_refl _, fun n' hn => Or.inr ⟨_, _, rfl, rfl, rfl, ?_⟩⟩
    refine bg_iconst rfl ?_
    refine bg_iret rfl rfl (by rfl) ?_
    exact hE e0 n' hn
  · refine fun e0 => Or.inl ⟨_, rfl, ?_⟩
    refine bg_i2l rfl ?_
    refine bg_lastore rfl ho (by unfold vp_in; decide) (fun h8 f8 g8 => ?_)
    refine bg_goto rfl ?_
    refine bg_iconst rfl ?_
    refine bg_iret rfl rfl (by rfl) ?_
    exact hQ e0 h8 (hC.kp (fr.one g8) (by omega)) (fun q q1 q2 => g8 q q2) f8
theorem bw_bark {b w : Int32}  (ho : LO1 h o gl) (hxo : o < x ∨ x + 70 ≤ o) (hB1 : 1 ≤ B.1) (hB2 : 6 ≤ B.2) (hC : CM h x T P S ep) (hE : ¬ (isI (P 0) b ∧ w5 w) → ∀ n', n ≤ n' → Q (.inl (some (.int 1))) h n') (hQ : isI (P 0) b ∧ w5 w → ∀ h', CM h' x T P S ep → fo h h' x o → LO1 h' o (vp_updL gl 0 ((bkV P S b w)).toInt64) → Q (.inl (some (.int 0))) h' n) : bk_wp V (d + 3) 229 [.ref x, .int b, .int w, .ref o] h n B Q := by
  refine bg_in rfl rfl ?_
  refine bg_aload3 rfl ?_
  refine bg_iconst rfl ?_
  refine bg_aload0 rfl ?_
  refine bg_iload1 rfl ?_
  refine bg_iload2 rfl ?_
  refine bg_try (b := (1, 6)) rfl rfl rfl rfl rfl rfl (CM.ob hC) (by show 0 + 1 ≤ B.1; omega) (by show 0 + 6 ≤ B.2; omega) ?_
  refine bb_bark hC ?_ ?_
  · refine fun e0 => ⟨Nat.le_refl _, Nat.le_refl _, fun n' hn => Or.inr ⟨_, _, rfl, rfl, rfl, ?_⟩⟩
    refine bg_iconst rfl ?_
    refine bg_iret rfl rfl (by rfl) ?_
    exact hE e0 n' hn
  · refine fun e0 => Or.inl ⟨_, rfl, ?_⟩
    refine bg_i2l rfl ?_
    refine bg_lastore rfl ho (by unfold vp_in; decide) (fun h9 f9 g9 => ?_)
    refine bg_goto rfl ?_
    refine bg_iconst rfl ?_
    refine bg_iret rfl rfl (by rfl) ?_
    exact hQ e0 h9 (hC.kp (fr.one g9) (by omega)) (fun q q1 q2 => g9 q q2) f9
theorem bw_beater {b w : Int32}  (ho : LO1 h o gl) (hxo : o < x ∨ x + 70 ≤ o) (hB1 : 1 ≤ B.1) (hB2 : 6 ≤ B.2) (hC : CM h x T P S ep) (hW : WP P) (hE : ¬ (isI (P 1) b ∧ w4 w) → ∀ n', n ≤ n' → Q (.inl (some (.int 1))) h n') (hQ : isI (P 1) b ∧ w4 w → ∀ h', CM h' x T P S ep → fo h h' x o → LO1 h' o (vp_updL gl 0 ((beV P S b w)).toInt64) → Q (.inl (some (.int 0))) h' n) : bk_wp V (d + 6) 230 [.ref x, .int b, .int w, .ref o] h n B Q := by
  refine bg_in rfl rfl ?_
  refine bg_aload3 rfl ?_
  refine bg_iconst rfl ?_
  refine bg_aload0 rfl ?_
  refine bg_iload1 rfl ?_
  refine bg_iload2 rfl ?_
  refine bg_try (b := (1, 6)) rfl rfl rfl rfl rfl rfl (CM.ob hC) (by show 0 + 1 ≤ B.1; omega) (by show 0 + 6 ≤ B.2; omega) ?_
  refine bb_beater hC hW ?_ ?_
  · refine fun e0 => ⟨Nat.le_refl _, Nat.le_refl _, fun n' hn => Or.inr ⟨_, _, rfl, rfl, rfl, ?_⟩⟩
    refine bg_iconst rfl ?_
    refine bg_iret rfl rfl (by rfl) ?_
    exact hE e0 n' hn
  · refine fun e0 h2 hC2 w2 => Or.inl ⟨_, rfl, ?_⟩
    have ho2 : LO1 h2 o gl := (w2 o (by omega)).trans ho
    refine bg_i2l rfl ?_
    refine bg_lastore rfl ho2 (by unfold vp_in; decide) (fun h9 f9 g9 => ?_)
    refine bg_goto rfl ?_
    refine bg_iconst rfl ?_
    refine bg_iret rfl rfl (by rfl) ?_
    exact hQ e0 h9 (hC2.kp (fr.one g9) (by omega)) (fun q q1 q2 => (g9 q q2).trans (w2 q q1)) f9
theorem bw_spirit {b w : Int32}  (ho : LO1 h o gl) (hxo : o < x ∨ x + 70 ≤ o) (hB1 : 1 ≤ B.1) (hB2 : 6 ≤ B.2) (hC : CM h x T P S ep) (hE : ¬ (isI (P 2) b ∧ w5 w) → ∀ n', n ≤ n' → Q (.inl (some (.int 1))) h n') (hQ : isI (P 2) b ∧ w5 w → ∀ h', CM h' x T P S ep → fo h h' x o → LO1 h' o (vp_updL gl 0 ((spV P S b w)).toInt64) → Q (.inl (some (.int 0))) h' n) : bk_wp V (d + 3) 231 [.ref x, .int b, .int w, .ref o] h n B Q := by
  refine bg_in rfl rfl ?_
  refine bg_aload3 rfl ?_
  refine bg_iconst rfl ?_
  refine bg_aload0 rfl ?_
  refine bg_iload1 rfl ?_
  refine bg_iload2 rfl ?_
  refine bg_try (b := (1, 6)) rfl rfl rfl rfl rfl rfl (CM.ob hC) (by show 0 + 1 ≤ B.1; omega) (by show 0 + 6 ≤ B.2; omega) ?_
  refine bb_spirit hC ?_ ?_
  · refine fun e0 => ⟨Nat.le_refl _, Nat.le_refl _, fun n' hn => Or.inr ⟨_, _, rfl, rfl, rfl, ?_⟩⟩
    refine bg_iconst rfl ?_
    refine bg_iret rfl rfl (by rfl) ?_
    exact hE e0 n' hn
  · refine fun e0 => Or.inl ⟨_, rfl, ?_⟩
    refine bg_i2l rfl ?_
    refine bg_lastore rfl ho (by unfold vp_in; decide) (fun h9 f9 g9 => ?_)
    refine bg_goto rfl ?_
    refine bg_iconst rfl ?_
    refine bg_iret rfl rfl (by rfl) ?_
    exact hQ e0 h9 (hC.kp (fr.one g9) (by omega)) (fun q q1 q2 => g9 q q2) f9
theorem bw_sheet {b w : Int32}  (ho : LO1 h o gl) (hxo : o < x ∨ x + 70 ≤ o) (hB1 : 1 ≤ B.1) (hB2 : 6 ≤ B.2) (hC : CM h x T P S ep) (hE : ¬ (isI (S.2 3) b ∧ w4 w) → ∀ n', n ≤ n' → Q (.inl (some (.int 1))) h n') (hQ : isI (S.2 3) b ∧ w4 w → ∀ h', CM h' x T P S ep → fo h h' x o → LO1 h' o (vp_updL gl 0 ((shV S b w)).toInt64) → Q (.inl (some (.int 0))) h' n) : bk_wp V (d + 3) 232 [.ref x, .int b, .int w, .ref o] h n B Q := by
  refine bg_in rfl rfl ?_
  refine bg_aload3 rfl ?_
  refine bg_iconst rfl ?_
  refine bg_aload0 rfl ?_
  refine bg_iload1 rfl ?_
  refine bg_iload2 rfl ?_
  refine bg_try (b := (1, 6)) rfl rfl rfl rfl rfl rfl (CM.ob hC) (by show 0 + 1 ≤ B.1; omega) (by show 0 + 6 ≤ B.2; omega) ?_
  refine bb_sheet hC ?_ ?_
  · refine fun e0 => ⟨Nat.le_refl _, Nat.le_refl _, fun n' hn => Or.inr ⟨_, _, rfl, rfl, rfl, ?_⟩⟩
    refine bg_iconst rfl ?_
    refine bg_iret rfl rfl (by rfl) ?_
    exact hE e0 n' hn
  · refine fun e0 => Or.inl ⟨_, rfl, ?_⟩
    refine bg_i2l rfl ?_
    refine bg_lastore rfl ho (by unfold vp_in; decide) (fun h9 f9 g9 => ?_)
    refine bg_goto rfl ?_
    refine bg_iconst rfl ?_
    refine bg_iret rfl rfl (by rfl) ?_
    exact hQ e0 h9 (hC.kp (fr.one g9) (by omega)) (fun q q1 q2 => g9 q q2) f9
theorem bw_figure {b w : Int32}  (ho : LO1 h o gl) (hxo : o < x ∨ x + 70 ≤ o) (hB1 : 1 ≤ B.1) (hB2 : 6 ≤ B.2) (hC : CM h x T P S ep) (hE : ¬ (isI (S.2 4) b ∧ w3 w) → ∀ n', n ≤ n' → Q (.inl (some (.int 1))) h n') (hQ : isI (S.2 4) b ∧ w3 w → ∀ h', CM h' x T P S ep → fo h h' x o → LO1 h' o (vp_updL gl 0 ((fiV P S b w)).toInt64) → Q (.inl (some (.int 0))) h' n) : bk_wp V (d + 4) 233 [.ref x, .int b, .int w, .ref o] h n B Q := by
  refine bg_in rfl rfl ?_
  refine bg_aload3 rfl ?_
  refine bg_iconst rfl ?_
  refine bg_aload0 rfl ?_
  refine bg_iload1 rfl ?_
  refine bg_iload2 rfl ?_
  refine bg_try (b := (1, 6)) rfl rfl rfl rfl rfl rfl (CM.ob hC) (by show 0 + 1 ≤ B.1; omega) (by show 0 + 6 ≤ B.2; omega) ?_
  refine bb_figure hC ?_ ?_
  · refine fun e0 => ⟨Nat.le_refl _, Nat.le_refl _, fun n' hn => Or.inr ⟨_, _, rfl, rfl, rfl, ?_⟩⟩
    refine bg_iconst rfl ?_
    refine bg_iret rfl rfl (by rfl) ?_
    exact hE e0 n' hn
  · refine fun e0 => Or.inl ⟨_, rfl, ?_⟩
    refine bg_i2l rfl ?_
    refine bg_lastore rfl ho (by unfold vp_in; decide) (fun h9 f9 g9 => ?_)
    refine bg_goto rfl ?_
    refine bg_iconst rfl ?_
    refine bg_iret rfl rfl (by rfl) ?_
    exact hQ e0 h9 (hC.kp (fr.one g9) (by omega)) (fun q q1 q2 => g9 q q2) f9
theorem bw_force {b : Int32}  (ho : LO1 h o gl) (hxo : o < x ∨ x + 70 ≤ o) (hB1 : 1 ≤ B.1) (hB2 : 6 ≤ B.2) (hW : WP P) (hC : CM h x T P S ep) (hE : ¬ isI (P 0) b → ∀ n', n ≤ n' → Q (.inl (some (.int 1))) h n') (hQ : isI (P 0) b → ∀ h', CM h' x T P S ep → fo h h' x o → LO1 h' o (vp_updL gl 0 ((fcF P S (bsF P S (P 1).length) b)).toInt64) → Q (.inl (some (.int 0))) h' n) : bk_wp V (d + 7) 234 [.ref x, .int b, .ref o] h n B Q := by
  refine bg_in rfl rfl ?_
  refine bg_aload2 rfl ?_
  refine bg_iconst rfl ?_
  refine bg_aload0 rfl ?_
  refine bg_iload1 rfl ?_
  refine bg_try (b := (1, 6)) rfl rfl rfl rfl rfl rfl (CM.ob hC) (by show 0 + 1 ≤ B.1; omega) (by show 0 + 6 ≤ B.2; omega) ?_
  refine bb_force hW hC ?_ ?_
  · refine fun e0 => ⟨Nat.le_refl _, Nat.le_refl _, fun n' hn => Or.inr ⟨_, _, rfl, rfl, rfl, ?_⟩⟩
    refine bg_iconst rfl ?_
    refine bg_iret rfl rfl (by rfl) ?_
    exact hE e0 n' hn
  · refine fun e0 h2 hC2 w2 => Or.inl ⟨_, rfl, ?_⟩
    have ho2 : LO1 h2 o gl := (w2 o (by omega)).trans ho
    refine bg_i2l rfl ?_
    refine bg_lastore rfl ho2 (by unfold vp_in; decide) (fun h8 f8 g8 => ?_)
    refine bg_goto rfl ?_
    refine bg_iconst rfl ?_
    refine bg_iret rfl rfl (by rfl) ?_
    exact hQ e0 h8 (hC2.kp (fr.one g8) (by omega)) (fun q q1 q2 => (g8 q q2).trans (w2 q q1)) f8
theorem bw_setWeather {v : Int32}  (ho : LO1 h o gl) (hxo : o < x ∨ x + 70 ≤ o) (hB1 : 1 ≤ B.1) (hB2 : 6 ≤ B.2) (hC : CM h x T P S ep) (hE : ¬ inR v 0 5 → ∀ n', n ≤ n' → Q (.inl (some (.int 1))) h n') (hQ : inR v 0 5 → ∀ h', CM h' x T P (upd S.1 1 v, S.2) ep → fo h h' x o → LO1 h' o (vp_updL gl 0 ((S.1 1)).toInt64) → Q (.inl (some (.int 0))) h' n) : bk_wp V (d + 2) 235 [.ref x, .int v, .ref o] h n B Q := by
  refine bg_in rfl rfl ?_
  refine bg_aload2 rfl ?_
  refine bg_iconst rfl ?_
  refine bg_aload0 rfl ?_
  refine bg_iload1 rfl ?_
  refine bg_try (b := (1, 6)) rfl rfl rfl rfl rfl rfl (CM.ob hC) (by show 0 + 1 ≤ B.1; omega) (by show 0 + 6 ≤ B.2; omega) ?_
  refine bb_setWeather hC ?_ ?_
  · refine fun e0 => ⟨Nat.le_refl _, Nat.le_refl _, fun n' hn => Or.inr ⟨_, _, rfl, rfl, rfl, ?_⟩⟩
    refine bg_iconst rfl ?_
    refine bg_iret rfl rfl (by rfl) ?_
    exact hE e0 n' hn
  · refine fun e0 h2 hC2 w2 => Or.inl ⟨_, rfl, ?_⟩
    have ho2 : LO1 h2 o gl := (w2 o (by omega)).trans ho
    refine bg_i2l rfl ?_
    refine bg_lastore rfl ho2 (by unfold vp_in; decide) (fun h8 f8 g8 => ?_)
    refine bg_goto rfl ?_
    refine bg_iconst rfl ?_
    refine bg_iret rfl rfl (by rfl) ?_
    exact hQ e0 h8 (hC2.kp (fr.one g8) (by omega)) (fun q q1 q2 => (g8 q q2).trans (w2 q q1)) f8
theorem bw_setTourists {v : Int32}  (ho : LO1 h o gl) (hxo : o < x ∨ x + 70 ≤ o) (hB1 : 1 ≤ B.1) (hB2 : 6 ≤ B.2) (hC : CM h x T P S ep) (hE : ¬ inR v 0 20 → ∀ n', n ≤ n' → Q (.inl (some (.int 1))) h n') (hQ : inR v 0 20 → ∀ h', CM h' x T P (upd S.1 2 v, S.2) ep → fo h h' x o → LO1 h' o (vp_updL gl 0 ((S.1 2)).toInt64) → Q (.inl (some (.int 0))) h' n) : bk_wp V (d + 2) 236 [.ref x, .int v, .ref o] h n B Q := by
  refine bg_in rfl rfl ?_
  refine bg_aload2 rfl ?_
  refine bg_iconst rfl ?_
  refine bg_aload0 rfl ?_
  refine bg_iload1 rfl ?_
  refine bg_try (b := (1, 6)) rfl rfl rfl rfl rfl rfl (CM.ob hC) (by show 0 + 1 ≤ B.1; omega) (by show 0 + 6 ≤ B.2; omega) ?_
  refine bb_setTourists hC ?_ ?_
  · refine fun e0 => ⟨Nat.le_refl _, Nat.le_refl _, fun n' hn => Or.inr ⟨_, _, rfl, rfl, rfl, ?_⟩⟩
    refine bg_iconst rfl ?_
    refine bg_iret rfl rfl (by rfl) ?_
    exact hE e0 n' hn
  · refine fun e0 h2 hC2 w2 => Or.inl ⟨_, rfl, ?_⟩
    have ho2 : LO1 h2 o gl := (w2 o (by omega)).trans ho
    refine bg_i2l rfl ?_
    refine bg_lastore rfl ho2 (by unfold vp_in; decide) (fun h8 f8 g8 => ?_)
    refine bg_goto rfl ?_
    refine bg_iconst rfl ?_
    refine bg_iret rfl rfl (by rfl) ?_
    exact hQ e0 h8 (hC2.kp (fr.one g8) (by omega)) (fun q q1 q2 => (g8 q q2).trans (w2 q q1)) f8
theorem bw_tune {b v : Int32}  (ho : LO1 h o gl) (hxo : o < x ∨ x + 70 ≤ o) (hB1 : 1 ≤ B.1) (hB2 : 6 ≤ B.2) (hC : CM h x T P S ep) (hE : ¬ isI (P 1) b → ∀ n', n ≤ n' → Q (.inl (some (.int 1))) h n') (hE2 : isI (P 1) b → ¬ inR v 1 6 → ∀ n', n ≤ n' → Q (.inl (some (.int 2))) h n') (hQ : isI (P 1) b → inR v 1 6 → ∀ h', CM h' x T P (S.1, uT S.2 1 (rS (S.2 1) b 0 v)) ep → fo h h' x o → LO1 h' o (vp_updL gl 0 ((rG (S.2 1) b 0)).toInt64) → Q (.inl (some (.int 0))) h' n) : bk_wp V (d + 3) 237 [.ref x, .int b, .int v, .ref o] h n B Q := by
  refine bg_in rfl rfl ?_
  refine bg_aload3 rfl ?_
  refine bg_iconst rfl ?_
  refine bg_aload0 rfl ?_
  refine bg_iload1 rfl ?_
  refine bg_iload2 rfl ?_
  refine bg_try (b := (1, 6)) rfl rfl rfl rfl rfl rfl (CM.ob hC) (by show 0 + 1 ≤ B.1; omega) (by show 0 + 6 ≤ B.2; omega) ?_
  refine bb_tune hC ?_ ?_ ?_
  · refine fun e0 => ⟨Nat.le_refl _, Nat.le_refl _, fun n' hn => Or.inr ⟨_, _, rfl, rfl, rfl, ?_⟩⟩
    refine bg_iconst rfl ?_
    refine bg_iret rfl rfl (by rfl) ?_
    exact hE e0 n' hn
  · refine fun e0 e1 => ⟨Nat.le_refl _, Nat.le_refl _, fun n' hn => Or.inr ⟨_, _, rfl, rfl, rfl, ?_⟩⟩
    refine bg_iconst rfl ?_
    refine bg_iret rfl rfl (by rfl) ?_
    exact hE2 e0 e1 n' hn
  · refine fun e0 e1 h2 hC2 w2 => Or.inl ⟨_, rfl, ?_⟩
    have ho2 : LO1 h2 o gl := (w2 o (by omega)).trans ho
    refine bg_i2l rfl ?_
    refine bg_lastore rfl ho2 (by unfold vp_in; decide) (fun h9 f9 g9 => ?_)
    refine bg_goto rfl ?_
    refine bg_iconst rfl ?_
    refine bg_iret rfl rfl (by rfl) ?_
    exact hQ e0 e1 h9 (hC2.kp (fr.one g9) (by omega)) (fun q q1 q2 => (g9 q q2).trans (w2 q q1)) f9
theorem bw_burn {b : Int32}  (ho : LO1 h o gl) (hxo : o < x ∨ x + 70 ≤ o) (hB1 : 1 ≤ B.1) (hB2 : 6 ≤ B.2) (hC : CM h x T P S ep) (hE : ¬ isI (S.2 3) b → ∀ n', n ≤ n' → Q (.inl (some (.int 1))) h n') (hQ : isI (S.2 3) b → ∀ h', CM h' x T P (S.1, uT S.2 3 (rE (S.2 3) b)) ep → fo h h' x o → LO1 h' o (vp_updL gl 0 ((rG (S.2 3) b 3)).toInt64) → Q (.inl (some (.int 0))) h' n) : bk_wp V (d + 3) 238 [.ref x, .int b, .ref o] h n B Q := by
  refine bg_in rfl rfl ?_
  refine bg_aload2 rfl ?_
  refine bg_iconst rfl ?_
  refine bg_aload0 rfl ?_
  refine bg_iload1 rfl ?_
  refine bg_try (b := (1, 6)) rfl rfl rfl rfl rfl rfl (CM.ob hC) (by show 0 + 1 ≤ B.1; omega) (by show 0 + 6 ≤ B.2; omega) ?_
  refine bb_burn hC ?_ ?_
  · refine fun e0 => ⟨Nat.le_refl _, Nat.le_refl _, fun n' hn => Or.inr ⟨_, _, rfl, rfl, rfl, ?_⟩⟩
    refine bg_iconst rfl ?_
    refine bg_iret rfl rfl (by rfl) ?_
    exact hE e0 n' hn
  · refine fun e0 h2 hC2 w2 => Or.inl ⟨_, rfl, ?_⟩
    have ho2 : LO1 h2 o gl := (w2 o (by omega)).trans ho
    refine bg_i2l rfl ?_
    refine bg_lastore rfl ho2 (by unfold vp_in; decide) (fun h8 f8 g8 => ?_)
    refine bg_goto rfl ?_
    refine bg_iconst rfl ?_
    refine bg_iret rfl rfl (by rfl) ?_
    exact hQ e0 h8 (hC2.kp (fr.one g8) (by omega)) (fun q q1 q2 => (g8 q q2).trans (w2 q q1)) f8
theorem bw_bring {b v : Int32}  (ho : LO1 h o gl) (hxo : o < x ∨ x + 70 ≤ o) (hB1 : 1 ≤ B.1) (hB2 : 6 ≤ B.2) (hC : CM h x T P S ep) (hE : ¬ isI (P 0) b → ∀ n', n ≤ n' → Q (.inl (some (.int 1))) h n') (hE2 : isI (P 0) b → ¬ inR v 1 500 → ∀ n', n ≤ n' → Q (.inl (some (.int 2))) h n') (hQ : isI (P 0) b → inR v 1 500 → ∀ h', CM h' x T P (S.1, uT S.2 0 (rS (S.2 0) b 0 (iMin 500 (rG (S.2 0) b 0 + v)))) ep → fo h h' x o → LO1 h' o (vp_updL gl 0 ((iMin 500 (rG (S.2 0) b 0 + v))).toInt64) → Q (.inl (some (.int 0))) h' n) : bk_wp V (d + 3) 239 [.ref x, .int b, .int v, .ref o] h n B Q := by
  refine bg_in rfl rfl ?_
  refine bg_aload3 rfl ?_
  refine bg_iconst rfl ?_
  refine bg_aload0 rfl ?_
  refine bg_iload1 rfl ?_
  refine bg_iload2 rfl ?_
  refine bg_try (b := (1, 6)) rfl rfl rfl rfl rfl rfl (CM.ob hC) (by show 0 + 1 ≤ B.1; omega) (by show 0 + 6 ≤ B.2; omega) ?_
  refine bb_bring hC ?_ ?_ ?_
  · refine fun e0 => ⟨Nat.le_refl _, Nat.le_refl _, fun n' hn => Or.inr ⟨_, _, rfl, rfl, rfl, ?_⟩⟩
    refine bg_iconst rfl ?_
    refine bg_iret rfl rfl (by rfl) ?_
    exact hE e0 n' hn
  · refine fun e0 e1 => ⟨Nat.le_refl _, Nat.le_refl _, fun n' hn => Or.inr ⟨_, _, rfl, rfl, rfl, ?_⟩⟩
    refine bg_iconst rfl ?_
    refine bg_iret rfl rfl (by rfl) ?_
    exact hE2 e0 e1 n' hn
  · refine fun e0 e1 h2 hC2 w2 => Or.inl ⟨_, rfl, ?_⟩
    have ho2 : LO1 h2 o gl := (w2 o (by omega)).trans ho
    refine bg_i2l rfl ?_
    refine bg_lastore rfl ho2 (by unfold vp_in; decide) (fun h9 f9 g9 => ?_)
    refine bg_goto rfl ?_
    refine bg_iconst rfl ?_
    refine bg_iret rfl rfl (by rfl) ?_
    exact hQ e0 e1 h9 (hC2.kp (fr.one g9) (by omega)) (fun q q1 q2 => (g9 q q2).trans (w2 q q1)) f9
theorem bw_pass {v : Int32}  (ho : LO1 h o gl) (hxo : o < x ∨ x + 70 ≤ o) (hB1 : 1 ≤ B.1) (hB2 : 6 ≤ B.2) (hW : WP P) (hC : CM h x T P S ep) (hE : ¬ inR v 1 96 → ∀ n', n ≤ n' → Q (.inl (some (.int 1))) h n') (hQ : inR v 1 96 → ∀ h', CM h' x T P (goF P v.toNatClampNeg S) ep → fo h h' x o → LO1 h' o (vp_updL gl 0 (((goF P v.toNatClampNeg S).1 3 - S.1 3)).toInt64) → Q (.inl (some (.int 0))) h' n) : bk_wp V (d + 8) 240 [.ref x, .int v, .ref o] h n B Q := by
  refine bg_in rfl rfl ?_
  refine bg_aload2 rfl ?_
  refine bg_iconst rfl ?_
  refine bg_aload0 rfl ?_
  refine bg_iload1 rfl ?_
  refine bg_try (b := (1, 6)) rfl rfl rfl rfl rfl rfl (CM.ob hC) (by show 0 + 1 ≤ B.1; omega) (by show 0 + 6 ≤ B.2; omega) ?_
  refine bb_pass hW hC ?_ ?_
  · refine fun e0 => ⟨Nat.le_refl _, Nat.le_refl _, fun n' hn => Or.inr ⟨_, _, rfl, rfl, rfl, ?_⟩⟩
    refine bg_iconst rfl ?_
    refine bg_iret rfl rfl (by rfl) ?_
    exact hE e0 n' hn
  · refine fun e0 h2 hC2 w2 => Or.inl ⟨_, rfl, ?_⟩
    have ho2 : LO1 h2 o gl := (w2 o (by omega)).trans ho
    refine bg_i2l rfl ?_
    refine bg_lastore rfl ho2 (by unfold vp_in; decide) (fun h8 f8 g8 => ?_)
    refine bg_goto rfl ?_
    refine bg_iconst rfl ?_
    refine bg_iret rfl rfl (by rfl) ?_
    exact hQ e0 h8 (hC2.kp (fr.one g8) (by omega)) (fun q q1 q2 => (g8 q q2).trans (w2 q q1)) f8
theorem bw_until {b : Int32}  (ho : LO1 h o gl) (hxo : o < x ∨ x + 70 ≤ o) (hB1 : 1 ≤ B.1) (hB2 : 6 ≤ B.2) (hW : WP P) (hC : CM h x T P S ep) (hE : ¬ isI (P 2) b → ∀ n', n ≤ n' → Q (.inl (some (.int 1))) h n') (hQ : isI (P 2) b → ∀ h', CM h' x T P S ep → fo h h' x o → LO1 h' o (vp_updL gl 0 ((utL P b 121 0 S)).toInt64) → Q (.inl (some (.int 0))) h' n) : bk_wp V (d + 8) 241 [.ref x, .int b, .ref o] h n B Q := by
  refine bg_in rfl rfl ?_
  refine bg_aload2 rfl ?_
  refine bg_iconst rfl ?_
  refine bg_aload0 rfl ?_
  refine bg_iload1 rfl ?_
  refine bg_try (b := (1, 6)) rfl rfl rfl rfl rfl rfl (CM.ob hC) (by show 0 + 1 ≤ B.1; omega) (by show 0 + 6 ≤ B.2; omega) ?_
  refine bb_until hW hC ?_ ?_
  · refine fun e0 => ⟨Nat.le_refl _, Nat.le_refl _, fun n' hn => Or.inr ⟨_, _, rfl, rfl, rfl, ?_⟩⟩
    refine bg_iconst rfl ?_
    refine bg_iret rfl rfl (by rfl) ?_
    exact hE e0 n' hn
  · refine fun e0 h2 hC2 w2 => Or.inl ⟨_, rfl, ?_⟩
    have ho2 : LO1 h2 o gl := (w2 o (by omega)).trans ho
    refine bg_i2l rfl ?_
    refine bg_lastore rfl ho2 (by unfold vp_in; decide) (fun h8 f8 g8 => ?_)
    refine bg_goto rfl ?_
    refine bg_iconst rfl ?_
    refine bg_iret rfl rfl (by rfl) ?_
    exact hQ e0 h8 (hC2.kp (fr.one g8) (by omega)) (fun q q1 q2 => (g8 q q2).trans (w2 q q1)) f8
theorem bw_foresee {v w : Int32}  (ho : LO1 h o gl) (hxo : o < x ∨ x + 70 ≤ o) (hB1 : 1 ≤ B.1) (hB2 : 6 ≤ B.2) (hW : WP P) (hC : CM h x T P S ep) (hE : ¬ inR v 1 96 → ∀ n', n ≤ n' → Q (.inl (some (.int 1))) h n') (hE2 : inR v 1 96 → ¬ inR w 0 4 → ∀ n', n ≤ n' → Q (.inl (some (.int 2))) h n') (hQ : inR v 1 96 → inR w 0 4 → ∀ h', CM h' x T P S ep → fo h h' x o → LO1 h' o (vp_updL gl 0 ((foV S (goF P v.toNatClampNeg S) w)).toInt64) → Q (.inl (some (.int 0))) h' n) : bk_wp V (d + 8) 242 [.ref x, .int v, .int w, .ref o] h n B Q := by
  refine bg_in rfl rfl ?_
  refine bg_aload3 rfl ?_
  refine bg_iconst rfl ?_
  refine bg_aload0 rfl ?_
  refine bg_iload1 rfl ?_
  refine bg_iload2 rfl ?_
  refine bg_try (b := (1, 6)) rfl rfl rfl rfl rfl rfl (CM.ob hC) (by show 0 + 1 ≤ B.1; omega) (by show 0 + 6 ≤ B.2; omega) ?_
  refine bb_foresee hW hC ?_ ?_ ?_
  · refine fun e0 => ⟨Nat.le_refl _, Nat.le_refl _, fun n' hn => Or.inr ⟨_, _, rfl, rfl, rfl, ?_⟩⟩
    refine bg_iconst rfl ?_
    refine bg_iret rfl rfl (by rfl) ?_
    exact hE e0 n' hn
  · refine fun e0 e1 => ⟨Nat.le_refl _, Nat.le_refl _, fun n' hn => Or.inr ⟨_, _, rfl, rfl, rfl, ?_⟩⟩
    refine bg_iconst rfl ?_
    refine bg_iret rfl rfl (by rfl) ?_
    exact hE2 e0 e1 n' hn
  · refine fun e0 e1 h2 hC2 w2 => Or.inl ⟨_, rfl, ?_⟩
    have ho2 : LO1 h2 o gl := (w2 o (by omega)).trans ho
    refine bg_i2l rfl ?_
    refine bg_lastore rfl ho2 (by unfold vp_in; decide) (fun h9 f9 g9 => ?_)
    refine bg_goto rfl ?_
    refine bg_iconst rfl ?_
    refine bg_iret rfl rfl (by rfl) ?_
    exact hQ e0 e1 h9 (hC2.kp (fr.one g9) (by omega)) (fun q q1 q2 => (g9 q q2).trans (w2 q q1)) f9
theorem bw_advise {b : Int32}  (ho : LO1 h o gl) (hxo : o < x ∨ x + 70 ≤ o) (hB1 : 1 ≤ B.1) (hB2 : 6 ≤ B.2) (hW : WP P) (hC : CM h x T P S ep) (hE : ¬ isI (P 1) b → ∀ n', n ≤ n' → Q (.inl (some (.int 1))) h n') (hQ : isI (P 1) b → ∀ h', CM h' x T P S ep → fo h h' x o → LO1 h' o (vp_updL gl 0 (((adL P S b 6 1 (-1, 1)).2)).toInt64) → Q (.inl (some (.int 0))) h' n) : bk_wp V (d + 8) 243 [.ref x, .int b, .ref o] h n B Q := by
  refine bg_in rfl rfl ?_
  refine bg_aload2 rfl ?_
  refine bg_iconst rfl ?_
  refine bg_aload0 rfl ?_
  refine bg_iload1 rfl ?_
  refine bg_try (b := (1, 6)) rfl rfl rfl rfl rfl rfl (CM.ob hC) (by show 0 + 1 ≤ B.1; omega) (by show 0 + 6 ≤ B.2; omega) ?_
  refine bb_advise hW hC ?_ ?_
  · refine fun e0 => ⟨Nat.le_refl _, Nat.le_refl _, fun n' hn => Or.inr ⟨_, _, rfl, rfl, rfl, ?_⟩⟩
    refine bg_iconst rfl ?_
    refine bg_iret rfl rfl (by rfl) ?_
    exact hE e0 n' hn
  · refine fun e0 h2 hC2 w2 => Or.inl ⟨_, rfl, ?_⟩
    have ho2 : LO1 h2 o gl := (w2 o (by omega)).trans ho
    refine bg_i2l rfl ?_
    refine bg_lastore rfl ho2 (by unfold vp_in; decide) (fun h8 f8 g8 => ?_)
    refine bg_goto rfl ?_
    refine bg_iconst rfl ?_
    refine bg_iret rfl rfl (by rfl) ?_
    exact hQ e0 h8 (hC2.kp (fr.one g8) (by omega)) (fun q q1 q2 => (g8 q q2).trans (w2 q q1)) f8
theorem bw_best {v : Int32}  (ho : LO1 h o gl) (hxo : o < x ∨ x + 70 ≤ o) (hB1 : 1 ≤ B.1) (hB2 : 6 ≤ B.2) (hW : WP P) (hC : CM h x T P S ep) (hE : ¬ inR v 1 72 → ∀ n', n ≤ n' → Q (.inl (some (.int 1))) h n') (hQ : inR v 1 72 → ∀ h', CM h' x T P S ep → fo h h' x o → LO1 h' o (vp_updL gl 0 (((bsL P S v.toNatClampNeg 6 0 (-1, 0)).2)).toInt64) → Q (.inl (some (.int 0))) h' n) : bk_wp V (d + 8) 244 [.ref x, .int v, .ref o] h n B Q := by
  refine bg_in rfl rfl ?_
  refine bg_aload2 rfl ?_
  refine bg_iconst rfl ?_
  refine bg_aload0 rfl ?_
  refine bg_iload1 rfl ?_
  refine bg_try (b := (1, 6)) rfl rfl rfl rfl rfl rfl (CM.ob hC) (by show 0 + 1 ≤ B.1; omega) (by show 0 + 6 ≤ B.2; omega) ?_
  refine bb_best hW hC ?_ ?_
  · refine fun e0 => ⟨Nat.le_refl _, Nat.le_refl _, fun n' hn => Or.inr ⟨_, _, rfl, rfl, rfl, ?_⟩⟩
    refine bg_iconst rfl ?_
    refine bg_iret rfl rfl (by rfl) ?_
    exact hE e0 n' hn
  · refine fun e0 h2 hC2 w2 => Or.inl ⟨_, rfl, ?_⟩
    have ho2 : LO1 h2 o gl := (w2 o (by omega)).trans ho
    refine bg_i2l rfl ?_
    refine bg_lastore rfl ho2 (by unfold vp_in; decide) (fun h8 f8 g8 => ?_)
    refine bg_goto rfl ?_
    refine bg_iconst rfl ?_
    refine bg_iret rfl rfl (by rfl) ?_
    exact hQ e0 h8 (hC2.kp (fr.one g8) (by omega)) (fun q q1 q2 => (g8 q q2).trans (w2 q q1)) f8
theorem bw_spare {v : Int32}  (ho : LO1 h o gl) (hxo : o < x ∨ x + 70 ≤ o) (hB1 : 1 ≤ B.1) (hB2 : 6 ≤ B.2) (hW : WP P) (hC : CM h x T P S ep) (hE : ¬ inR v 1 72 → ∀ n', n ≤ n' → Q (.inl (some (.int 1))) h n') (hQ : inR v 1 72 → ∀ h', CM h' x T P S ep → fo h h' x o → LO1 h' o (vp_updL gl 0 (((spL P S v.toNatClampNeg ((P 1).length + 1) 0 (-1, -1)).2)).toInt64) → Q (.inl (some (.int 0))) h' n) : bk_wp V (d + 8) 245 [.ref x, .int v, .ref o] h n B Q := by
  refine bg_in rfl rfl ?_
  refine bg_aload2 rfl ?_
  refine bg_iconst rfl ?_
  refine bg_aload0 rfl ?_
  refine bg_iload1 rfl ?_
  refine bg_try (b := (1, 6)) rfl rfl rfl rfl rfl rfl (CM.ob hC) (by show 0 + 1 ≤ B.1; omega) (by show 0 + 6 ≤ B.2; omega) ?_
  refine bb_spare hW hC ?_ ?_
  · refine fun e0 => ⟨Nat.le_refl _, Nat.le_refl _, fun n' hn => Or.inr ⟨_, _, rfl, rfl, rfl, ?_⟩⟩
    refine bg_iconst rfl ?_
    refine bg_iret rfl rfl (by rfl) ?_
    exact hE e0 n' hn
  · refine fun e0 h2 hC2 w2 => Or.inl ⟨_, rfl, ?_⟩
    have ho2 : LO1 h2 o gl := (w2 o (by omega)).trans ho
    refine bg_i2l rfl ?_
    refine bg_lastore rfl ho2 (by unfold vp_in; decide) (fun h8 f8 g8 => ?_)
    refine bg_goto rfl ?_
    refine bg_iconst rfl ?_
    refine bg_iret rfl rfl (by rfl) ?_
    exact hQ e0 h8 (hC2.kp (fr.one g8) (by omega)) (fun q q1 q2 => (g8 q q2).trans (w2 q q1)) f8
end LW
