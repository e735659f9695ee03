/-! THE REFERENCE: a step of its code. k: the step's kind as the component has it, w: as the reference has it. Printed by wip/whole/mk51.py. -/
def kP (k w : Int32) : Prop := (k = 31 ∧ w = 30) ∨ (k = 18 ∧ w = 17) ∨ (k = 23 ∧ w = 22) ∨ (k = 24 ∧ w = 23) ∨ (k = 2 ∧ w = 1) ∨ (k = 19 ∧ w = 18) ∨ (k = 20 ∧ w = 19) ∨ (k = 21 ∧ w = 20) ∨ (k = 22 ∧ w = 21)
def kU (k w : Int32) : Prop := (k = 48 ∧ w = 31) ∨ (k = 25 ∧ w = 24)
def kB (k w : Int32) : Prop := (k = 38 ∧ w = 32) ∨ (k = 39 ∧ w = 33) ∨ (k = 40 ∧ w = 34) ∨ (k = 41 ∧ w = 35) ∨ (k = 28 ∧ w = 27) ∨ (k = 29 ∧ w = 28) ∨ (k = 42 ∧ w = 36) ∨ (k = 43 ∧ w = 37) ∨ (k = 44 ∧ w = 38) ∨ (k = 45 ∧ w = 39) ∨ (k = 46 ∧ w = 40) ∨ (k = 26 ∧ w = 25) ∨ (k = 27 ∧ w = 26)
abbrev ofR (w : Int32) : Prop := w = 1 ∨ (¬ w < 18 ∧ ¬ 21 < w)
abbrev alR (w : Int32) : Prop := w = 17 ∨ w = 22 ∨ w = 23
abbrev puR (w : Int32) : Prop := w = 30 ∨ alR w ∨ ofR w
/-- a value that a name means -/
def vlR (P : Nat → bT) (k v : Int32) : Prop := (k = 2 ∨ k = 19 ∨ k = 20) → ∃ b, b < (P 0).length ∧ v = nI b
section RB
variable {V : bk_V} {d n : Nat} {B : Nat × Nat} {Q : bk_R → bk_H → Nat → Prop} {h : bk_H} {r y u : Nat} {P : Nat → bT} {S : bS} {I : rI} {A : rA} {cs : Nat × Nat}
theorem rb_isIn {v a b : Int32} (hQ : Q (.inl (some (.int (if ¬ v < a ∧ ¬ b < v then 1 else 0)))) h n) : bk_wp V (d + 1) 149 [.int v, .int a, .int b] h n B Q := by
  refine bg_in rfl rfl ?_
  refine bg_iload0 rfl ?_
  refine bg_iload1 rfl ?_
  refine bg_icmp_lt rfl (fun e2 => ?_) (fun e2 => ?_)
  · refine bg_iconst rfl ?_
    refine bg_iret rfl rfl (by rfl) ?_
    exact bQ hQ (by simp [*])
  · refine bg_iload0 rfl ?_
    refine bg_iload2 rfl ?_
    refine bg_icmp_gt rfl (fun e7 => ?_) (fun e7 => ?_)
    · refine bg_iconst rfl ?_
      refine bg_iret rfl rfl (by rfl) ?_
      exact bQ hQ (by simp [*])
    · refine bg_iconst rfl ?_
      refine bg_goto rfl ?_
      refine bg_iret rfl rfl (by rfl) ?_
      exact bQ hQ (by simp [*])
theorem rb_isOf {w : Int32} (hQ : Q (.inl (some (.int (if ofR w then 1 else 0)))) h n) : bk_wp V (d + 2) 153 [.int w] h n B Q := by
  refine bg_in rfl rfl ?_
  refine bg_iload0 rfl ?_
  refine bg_iconst rfl ?_
  refine bg_icmp_eq rfl (fun e2 => ?_) (fun e2 => ?_)
  · rw [if_pos (Or.inl e2)] at hQ
    refine bg_iconst rfl ?_
    refine bg_goto rfl ?_
    refine bg_iret rfl rfl (by rfl) ?_
    exact hQ
  · refine bg_iload0 rfl ?_
    refine bg_bipush rfl ?_
    refine bg_bipush rfl ?_
    refine bg_stat3 rfl rfl rfl rfl ?_
    refine rb_isIn (bk_Ki ?_)
    refine bg_ifeq_b rfl (fun e13 => ?_) (fun e13 => ?_)
    · rw [if_neg (fun q => q.elim e2 e13)] at hQ
      refine bg_iconst rfl ?_
      refine bg_iret rfl rfl (by rfl) ?_
      exact hQ
    · rw [if_pos (Or.inr e13)] at hQ
      refine bg_iconst rfl ?_
      refine bg_goto rfl ?_
      refine bg_iret rfl rfl (by rfl) ?_
      exact hQ
theorem rb_isAlone {w : Int32} (hQ : Q (.inl (some (.int (if alR w then 1 else 0)))) h n) : bk_wp V (d + 1) 154 [.int w] h n B Q := by
  refine bg_in rfl rfl ?_
  refine bg_iload0 rfl ?_
  refine bg_bipush rfl ?_
  refine bg_icmp_eq rfl (fun e3 => ?_) (fun e3 => ?_)
  · refine bg_iconst rfl ?_
    refine bg_goto rfl ?_
    refine bg_iret rfl rfl (by rfl) ?_
    exact bQ hQ (by simp [*])
  · refine bg_iload0 rfl ?_
    refine bg_bipush rfl ?_
    refine bg_icmp_eq rfl (fun e9 => ?_) (fun e9 => ?_)
    · refine bg_iconst rfl ?_
      refine bg_goto rfl ?_
      refine bg_iret rfl rfl (by rfl) ?_
      exact bQ hQ (by simp [*])
    · refine bg_iload0 rfl ?_
      refine bg_bipush rfl ?_
      refine bg_icmp_ne rfl (fun e15 => ?_) (fun e15 => ?_)
      · refine bg_iconst rfl ?_
        refine bg_iret rfl rfl (by rfl) ?_
        exact bQ hQ (by simp [*])
      · refine bg_iconst rfl ?_
        refine bg_goto rfl ?_
        refine bg_iret rfl rfl (by rfl) ?_
        exact bQ hQ (by simp [*])
theorem rb_isPushed {w : Int32} (hQ : Q (.inl (some (.int (if puR w then 1 else 0)))) h n) : bk_wp V (d + 3) 155 [.int w] h n B Q := by
  refine bg_in rfl rfl ?_
  refine bg_iload0 rfl ?_
  refine bg_bipush rfl ?_
  refine bg_icmp_eq rfl (fun e3 => ?_) (fun e3 => ?_)
  · rw [if_pos (Or.inl e3)] at hQ
    refine bg_iconst rfl ?_
    refine bg_goto rfl ?_
    refine bg_iret rfl rfl (by rfl) ?_
    exact hQ
  · refine bg_iload0 rfl ?_
    refine bg_stat1 rfl rfl rfl rfl ?_
    refine rb_isAlone (bk_Ki ?_)
    refine bg_ifne_b rfl (fun e10 => ?_) (fun e10 => ?_)
    · rw [if_pos (Or.inr (Or.inl e10))] at hQ
      refine bg_iconst rfl ?_
      refine bg_goto rfl ?_
      refine bg_iret rfl rfl (by rfl) ?_
      exact hQ
    · refine bg_iload0 rfl ?_
      refine bg_stat1 rfl rfl rfl rfl ?_
      refine rb_isOf (bk_Ki ?_)
      refine bg_ifeq_b rfl (fun e17 => ?_) (fun e17 => ?_)
      · rw [if_neg (fun q => q.elim e3 (fun q => q.elim e10 e17))] at hQ
        refine bg_iconst rfl ?_
        refine bg_iret rfl rfl (by rfl) ?_
        exact hQ
      · rw [if_pos (Or.inr (Or.inr e17))] at hQ
        refine bg_iconst rfl ?_
        refine bg_goto rfl ?_
        refine bg_iret rfl rfl (by rfl) ?_
        exact hQ
theorem rb_both {k w l r : Int32} (hk : kB k w) (hQ : Q (.inl (some (.int (rO k l r)))) h n) : bk_wp V (d + 1) 156 [.int w, .int l, .int r] h n B Q := by
  unfold kB at hk
  refine bg_in rfl rfl ?_
  refine bg_iload0 rfl ?_
  refine bg_tsw rfl ?_
  refine bk_sw_c (fun e1_25 => ?_) (fun n1_25 => ?_)
  · obtain rfl : k = 26 := by
      rcases hk with ⟨a1, a2⟩ | ⟨a1, a2⟩ | ⟨a1, a2⟩ | ⟨a1, a2⟩ | ⟨a1, a2⟩ | ⟨a1, a2⟩ | ⟨a1, a2⟩ | ⟨a1, a2⟩ | ⟨a1, a2⟩ | ⟨a1, a2⟩ | ⟨a1, a2⟩ | ⟨a1, a2⟩ | ⟨a1, a2⟩ <;> first | exact a1 | exact absurd (a2.symm.trans e1_25) (by decide)
    refine bg_iload1 rfl ?_
    refine bg_iload2 rfl ?_
    refine bg_iand rfl ?_
    refine bg_iret rfl rfl (by rfl) ?_
    exact bQ hQ (by clear hQ; simp [rO, iMin, iMax, qO, *])
  refine bk_sw_c (fun e1_26 => ?_) (fun n1_26 => ?_)
  · obtain rfl : k = 27 := by
      rcases hk with ⟨a1, a2⟩ | ⟨a1, a2⟩ | ⟨a1, a2⟩ | ⟨a1, a2⟩ | ⟨a1, a2⟩ | ⟨a1, a2⟩ | ⟨a1, a2⟩ | ⟨a1, a2⟩ | ⟨a1, a2⟩ | ⟨a1, a2⟩ | ⟨a1, a2⟩ | ⟨a1, a2⟩ | ⟨a1, a2⟩ <;> first | exact a1 | exact absurd (a2.symm.trans e1_26) (by decide)
    refine bg_iload1 rfl ?_
    refine bg_iload2 rfl ?_
    refine bg_ior rfl ?_
    refine bg_iret rfl rfl (by rfl) ?_
    exact bQ hQ (by clear hQ; simp [rO, iMin, iMax, qO, *])
  refine bk_sw_c (fun e1_27 => ?_) (fun n1_27 => ?_)
  · obtain rfl : k = 28 := by
      rcases hk with ⟨a1, a2⟩ | ⟨a1, a2⟩ | ⟨a1, a2⟩ | ⟨a1, a2⟩ | ⟨a1, a2⟩ | ⟨a1, a2⟩ | ⟨a1, a2⟩ | ⟨a1, a2⟩ | ⟨a1, a2⟩ | ⟨a1, a2⟩ | ⟨a1, a2⟩ | ⟨a1, a2⟩ | ⟨a1, a2⟩ <;> first | exact a1 | exact absurd (a2.symm.trans e1_27) (by decide)
    refine bg_iload1 rfl ?_
    refine bg_iload2 rfl ?_
    refine bg_min rfl rfl rfl ?_
    refine bg_iret rfl rfl (by rfl) ?_
    exact bQ hQ (by clear hQ; simp [rO, iMin, iMax, qO, *])
  refine bk_sw_c (fun e1_28 => ?_) (fun n1_28 => ?_)
  · obtain rfl : k = 29 := by
      rcases hk with ⟨a1, a2⟩ | ⟨a1, a2⟩ | ⟨a1, a2⟩ | ⟨a1, a2⟩ | ⟨a1, a2⟩ | ⟨a1, a2⟩ | ⟨a1, a2⟩ | ⟨a1, a2⟩ | ⟨a1, a2⟩ | ⟨a1, a2⟩ | ⟨a1, a2⟩ | ⟨a1, a2⟩ | ⟨a1, a2⟩ <;> first | exact a1 | exact absurd (a2.symm.trans e1_28) (by decide)
    refine bg_iload1 rfl ?_
    refine bg_iload2 rfl ?_
    refine bg_max rfl rfl rfl ?_
    refine bg_iret rfl rfl (by rfl) ?_
    exact bQ hQ (by clear hQ; simp [rO, iMin, iMax, qO, *])
  refine bk_sw_c (fun e1_29 => ?_) (fun n1_29 => ?_)
  · exfalso
    rcases hk with ⟨a1, a2⟩ | ⟨a1, a2⟩ | ⟨a1, a2⟩ | ⟨a1, a2⟩ | ⟨a1, a2⟩ | ⟨a1, a2⟩ | ⟨a1, a2⟩ | ⟨a1, a2⟩ | ⟨a1, a2⟩ | ⟨a1, a2⟩ | ⟨a1, a2⟩ | ⟨a1, a2⟩ | ⟨a1, a2⟩ <;> exact absurd (a2.symm.trans e1_29) (by decide)
  refine bk_sw_c (fun e1_30 => ?_) (fun n1_30 => ?_)
  · exfalso
    rcases hk with ⟨a1, a2⟩ | ⟨a1, a2⟩ | ⟨a1, a2⟩ | ⟨a1, a2⟩ | ⟨a1, a2⟩ | ⟨a1, a2⟩ | ⟨a1, a2⟩ | ⟨a1, a2⟩ | ⟨a1, a2⟩ | ⟨a1, a2⟩ | ⟨a1, a2⟩ | ⟨a1, a2⟩ | ⟨a1, a2⟩ <;> exact absurd (a2.symm.trans e1_30) (by decide)
  refine bk_sw_c (fun e1_31 => ?_) (fun n1_31 => ?_)
  · exfalso
    rcases hk with ⟨a1, a2⟩ | ⟨a1, a2⟩ | ⟨a1, a2⟩ | ⟨a1, a2⟩ | ⟨a1, a2⟩ | ⟨a1, a2⟩ | ⟨a1, a2⟩ | ⟨a1, a2⟩ | ⟨a1, a2⟩ | ⟨a1, a2⟩ | ⟨a1, a2⟩ | ⟨a1, a2⟩ | ⟨a1, a2⟩ <;> exact absurd (a2.symm.trans e1_31) (by decide)
  refine bk_sw_c (fun e1_32 => ?_) (fun n1_32 => ?_)
  · obtain rfl : k = 38 := by
      rcases hk with ⟨a1, a2⟩ | ⟨a1, a2⟩ | ⟨a1, a2⟩ | ⟨a1, a2⟩ | ⟨a1, a2⟩ | ⟨a1, a2⟩ | ⟨a1, a2⟩ | ⟨a1, a2⟩ | ⟨a1, a2⟩ | ⟨a1, a2⟩ | ⟨a1, a2⟩ | ⟨a1, a2⟩ | ⟨a1, a2⟩ <;> first | exact a1 | exact absurd (a2.symm.trans e1_32) (by decide)
    refine bg_iload1 rfl ?_
    refine bg_iload2 rfl ?_
    refine bg_iadd rfl ?_
    refine bg_iret rfl rfl (by rfl) ?_
    exact bQ hQ (by clear hQ; simp [rO, iMin, iMax, qO, *])
  refine bk_sw_c (fun e1_33 => ?_) (fun n1_33 => ?_)
  · obtain rfl : k = 39 := by
      rcases hk with ⟨a1, a2⟩ | ⟨a1, a2⟩ | ⟨a1, a2⟩ | ⟨a1, a2⟩ | ⟨a1, a2⟩ | ⟨a1, a2⟩ | ⟨a1, a2⟩ | ⟨a1, a2⟩ | ⟨a1, a2⟩ | ⟨a1, a2⟩ | ⟨a1, a2⟩ | ⟨a1, a2⟩ | ⟨a1, a2⟩ <;> first | exact a1 | exact absurd (a2.symm.trans e1_33) (by decide)
    refine bg_iload1 rfl ?_
    refine bg_iload2 rfl ?_
    refine bg_isub rfl ?_
    refine bg_iret rfl rfl (by rfl) ?_
    exact bQ hQ (by clear hQ; simp [rO, iMin, iMax, qO, *])
  refine bk_sw_c (fun e1_34 => ?_) (fun n1_34 => ?_)
  · obtain rfl : k = 40 := by
      rcases hk with ⟨a1, a2⟩ | ⟨a1, a2⟩ | ⟨a1, a2⟩ | ⟨a1, a2⟩ | ⟨a1, a2⟩ | ⟨a1, a2⟩ | ⟨a1, a2⟩ | ⟨a1, a2⟩ | ⟨a1, a2⟩ | ⟨a1, a2⟩ | ⟨a1, a2⟩ | ⟨a1, a2⟩ | ⟨a1, a2⟩ <;> first | exact a1 | exact absurd (a2.symm.trans e1_34) (by decide)
    refine bg_iload1 rfl ?_
    refine bg_iload2 rfl ?_
    refine bg_imul rfl ?_
    refine bg_iret rfl rfl (by rfl) ?_
    exact bQ hQ (by clear hQ; simp [rO, iMin, iMax, qO, *])
  refine bk_sw_c (fun e1_35 => ?_) (fun n1_35 => ?_)
  · obtain rfl : k = 41 := by
      rcases hk with ⟨a1, a2⟩ | ⟨a1, a2⟩ | ⟨a1, a2⟩ | ⟨a1, a2⟩ | ⟨a1, a2⟩ | ⟨a1, a2⟩ | ⟨a1, a2⟩ | ⟨a1, a2⟩ | ⟨a1, a2⟩ | ⟨a1, a2⟩ | ⟨a1, a2⟩ | ⟨a1, a2⟩ | ⟨a1, a2⟩ <;> first | exact a1 | exact absurd (a2.symm.trans e1_35) (by decide)
    refine bg_iload2 rfl ?_
    refine bg_if_ne rfl (fun e93 => ?_) (fun e93 => ?_)
    · refine bg_iload1 rfl ?_
      refine bg_iload2 rfl ?_
      refine bg_idiv rfl e93 ?_
      refine bg_iret rfl rfl (by rfl) ?_
      exact bQ hQ (by clear hQ; simp [rO, iMin, iMax, qO, *])
    · refine bg_iconst rfl ?_
      refine bg_goto rfl ?_
      refine bg_iret rfl rfl (by rfl) ?_
      exact bQ hQ (by clear hQ; simp [rO, iMin, iMax, qO, *])
  refine bk_sw_c (fun e1_36 => ?_) (fun n1_36 => ?_)
  · obtain rfl : k = 42 := by
      rcases hk with ⟨a1, a2⟩ | ⟨a1, a2⟩ | ⟨a1, a2⟩ | ⟨a1, a2⟩ | ⟨a1, a2⟩ | ⟨a1, a2⟩ | ⟨a1, a2⟩ | ⟨a1, a2⟩ | ⟨a1, a2⟩ | ⟨a1, a2⟩ | ⟨a1, a2⟩ | ⟨a1, a2⟩ | ⟨a1, a2⟩ <;> first | exact a1 | exact absurd (a2.symm.trans e1_36) (by decide)
    refine bg_iload1 rfl ?_
    refine bg_iload2 rfl ?_
    refine bg_icmp_ge rfl (fun e118 => ?_) (fun e118 => ?_)
    · refine bg_iconst rfl ?_
      refine bg_iret rfl rfl (by rfl) ?_
      exact bQ hQ (by clear hQ; simp [rO, iMin, iMax, qO, *])
    · refine bg_iconst rfl ?_
      refine bg_goto rfl ?_
      refine bg_iret rfl rfl (by rfl) ?_
      exact bQ hQ (by clear hQ; simp [rO, iMin, iMax, qO, *])
  refine bk_sw_c (fun e1_37 => ?_) (fun n1_37 => ?_)
  · obtain rfl : k = 43 := by
      rcases hk with ⟨a1, a2⟩ | ⟨a1, a2⟩ | ⟨a1, a2⟩ | ⟨a1, a2⟩ | ⟨a1, a2⟩ | ⟨a1, a2⟩ | ⟨a1, a2⟩ | ⟨a1, a2⟩ | ⟨a1, a2⟩ | ⟨a1, a2⟩ | ⟨a1, a2⟩ | ⟨a1, a2⟩ | ⟨a1, a2⟩ <;> first | exact a1 | exact absurd (a2.symm.trans e1_37) (by decide)
    refine bg_iload1 rfl ?_
    refine bg_iload2 rfl ?_
    refine bg_icmp_le rfl (fun e129 => ?_) (fun e129 => ?_)
    · refine bg_iconst rfl ?_
      refine bg_iret rfl rfl (by rfl) ?_
      exact bQ hQ (by clear hQ; simp [rO, iMin, iMax, qO, *])
    · refine bg_iconst rfl ?_
      refine bg_goto rfl ?_
      refine bg_iret rfl rfl (by rfl) ?_
      exact bQ hQ (by clear hQ; simp [rO, iMin, iMax, qO, *])
  refine bk_sw_c (fun e1_38 => ?_) (fun n1_38 => ?_)
  · obtain rfl : k = 44 := by
      rcases hk with ⟨a1, a2⟩ | ⟨a1, a2⟩ | ⟨a1, a2⟩ | ⟨a1, a2⟩ | ⟨a1, a2⟩ | ⟨a1, a2⟩ | ⟨a1, a2⟩ | ⟨a1, a2⟩ | ⟨a1, a2⟩ | ⟨a1, a2⟩ | ⟨a1, a2⟩ | ⟨a1, a2⟩ | ⟨a1, a2⟩ <;> first | exact a1 | exact absurd (a2.symm.trans e1_38) (by decide)
    refine bg_iload1 rfl ?_
    refine bg_iload2 rfl ?_
    refine bg_icmp_ne rfl (fun e140 => ?_) (fun e140 => ?_)
    · refine bg_iconst rfl ?_
      refine bg_iret rfl rfl (by rfl) ?_
      exact bQ hQ (by clear hQ; simp [rO, iMin, iMax, qO, *])
    · refine bg_iconst rfl ?_
      refine bg_goto rfl ?_
      refine bg_iret rfl rfl (by rfl) ?_
      exact bQ hQ (by clear hQ; simp [rO, iMin, iMax, qO, *])
  refine bk_sw_c (fun e1_39 => ?_) (fun n1_39 => ?_)
  · obtain rfl : k = 45 := by
      rcases hk with ⟨a1, a2⟩ | ⟨a1, a2⟩ | ⟨a1, a2⟩ | ⟨a1, a2⟩ | ⟨a1, a2⟩ | ⟨a1, a2⟩ | ⟨a1, a2⟩ | ⟨a1, a2⟩ | ⟨a1, a2⟩ | ⟨a1, a2⟩ | ⟨a1, a2⟩ | ⟨a1, a2⟩ | ⟨a1, a2⟩ <;> first | exact a1 | exact absurd (a2.symm.trans e1_39) (by decide)
    refine bg_iload1 rfl ?_
    refine bg_iload2 rfl ?_
    refine bg_icmp_gt rfl (fun e151 => ?_) (fun e151 => ?_)
    · refine bg_iconst rfl ?_
      refine bg_iret rfl rfl (by rfl) ?_
      exact bQ hQ (by clear hQ; simp [rO, iMin, iMax, qO, *])
    · refine bg_iconst rfl ?_
      refine bg_goto rfl ?_
      refine bg_iret rfl rfl (by rfl) ?_
      exact bQ hQ (by clear hQ; simp [rO, iMin, iMax, qO, *])
  refine bk_sw_c (fun e1_40 => ?_) (fun n1_40 => ?_)
  · obtain rfl : k = 46 := by
      rcases hk with ⟨a1, a2⟩ | ⟨a1, a2⟩ | ⟨a1, a2⟩ | ⟨a1, a2⟩ | ⟨a1, a2⟩ | ⟨a1, a2⟩ | ⟨a1, a2⟩ | ⟨a1, a2⟩ | ⟨a1, a2⟩ | ⟨a1, a2⟩ | ⟨a1, a2⟩ | ⟨a1, a2⟩ | ⟨a1, a2⟩ <;> first | exact a1 | exact absurd (a2.symm.trans e1_40) (by decide)
    refine bg_iload1 rfl ?_
    refine bg_iload2 rfl ?_
    refine bg_icmp_lt rfl (fun e162 => ?_) (fun e162 => ?_)
    · refine bg_iconst rfl ?_
      refine bg_iret rfl rfl (by rfl) ?_
      exact bQ hQ (by clear hQ; simp [rO, iMin, iMax, qO, *])
    · refine bg_iconst rfl ?_
      refine bg_goto rfl ?_
      refine bg_iret rfl rfl (by rfl) ?_
      exact bQ hQ (by clear hQ; simp [rO, iMin, iMax, qO, *])
  refine bk_sw_n ?_
  exfalso
  rcases hk with ⟨a1, a2⟩ | ⟨a1, a2⟩ | ⟨a1, a2⟩ | ⟨a1, a2⟩ | ⟨a1, a2⟩ | ⟨a1, a2⟩ | ⟨a1, a2⟩ | ⟨a1, a2⟩ | ⟨a1, a2⟩ | ⟨a1, a2⟩ | ⟨a1, a2⟩ | ⟨a1, a2⟩ | ⟨a1, a2⟩ <;> contradiction
end RB
