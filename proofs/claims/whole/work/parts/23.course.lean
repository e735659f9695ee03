/-! THE HOURS: contracts of Course. Printed by wip/whole/mk23.py. -/
section BC
variable {V : bk_V} {d n : Nat} {B : Nat × Nat} {Q : bk_R → bk_H → Nat → Prop} {h : bk_H} {a lo mo : Nat} {P : Nat → bT} {S : bS} {bs : bT} {cs : Nat × Nat}
theorem bc_quot {x y : Int32} (hQ : Q (.inl (some (.int (qO x y)))) h n) : bk_wp V (d + 1) 28 [.int x, .int y] h n B Q := by
  refine bg_in rfl rfl ?_
  refine bg_iload1 rfl ?_
  refine bg_if_ne rfl (fun e1 => ?_) (fun e1 => ?_)
  · refine bg_iload0 rfl ?_
    refine bg_iload1 rfl ?_
    refine bg_idiv rfl e1 ?_
    refine bg_iret rfl rfl (by rfl) ?_
    exact bQ hQ (by simp [qO, *])
  · refine bg_iconst rfl ?_
    refine bg_goto rfl ?_
    refine bg_iret rfl rfl (by rfl) ?_
    exact bQ hQ (by simp [qO, *])
theorem bc_value {x v : Int32} (hX : CX h a lo mo P S bs) (hQ : Q (.inl (some (.int (vO S x v)))) h n) : bk_wp V (d + 2) 26 [.ref a, .int x, .int v] h n B Q := by
  obtain ⟨⟨l0, l1, l2, l3, l4, l5⟩, ⟨m0, m1, m2, m3, m4, m5⟩, ⟨c0, cb, cf⟩, hlo, hmo⟩ := id hX
  refine bg_in rfl rfl ?_
  refine bg_iload1 rfl ?_
  refine bg_tsw rfl ?_
  refine bk_sw_c (fun e1_2 => ?_) (fun n1_2 => ?_)
  · refine bg_aload0 rfl ?_
    refine bg_getfield rfl rfl c0 (by rfl) ?_
    refine bg_getfield rfl rfl m0 (by rfl) ?_
    refine bg_iload2 rfl ?_
    refine bg_iconst rfl ?_
    refine bg_virt2 rfl rfl rfl rfl (TB.o m1) ?_
    refine bt_get m1 rfl (by decide) (bk_Ki ?_)
    refine bg_iret rfl rfl (by rfl) ?_
    exact bQ hQ (by clear hQ hX l0 l1 l2 l3 l4 l5 m0 m1 m2 m3 m4 m5 c0 cb cf; simp [vO, *])
  refine bk_sw_c (fun e1_3 => ?_) (fun n1_3 => ?_)
  · refine bg_iload2 rfl ?_
    refine bg_iret rfl rfl (by rfl) ?_
    exact bQ hQ (by clear hQ hX l0 l1 l2 l3 l4 l5 m0 m1 m2 m3 m4 m5 c0 cb cf; simp [vO, *])
  refine bk_sw_c (fun e1_4 => ?_) (fun n1_4 => ?_)
  · refine bg_iload2 rfl ?_
    refine bg_iret rfl rfl (by rfl) ?_
    exact bQ hQ (by clear hQ hX l0 l1 l2 l3 l4 l5 m0 m1 m2 m3 m4 m5 c0 cb cf; simp [vO, *])
  refine bk_sw_c (fun e1_5 => ?_) (fun n1_5 => ?_)
  · refine bg_iload2 rfl ?_
    refine bg_iret rfl rfl (by rfl) ?_
    exact bQ hQ (by clear hQ hX l0 l1 l2 l3 l4 l5 m0 m1 m2 m3 m4 m5 c0 cb cf; simp [vO, *])
  refine bk_sw_c (fun e1_6 => ?_) (fun n1_6 => ?_)
  · refine bg_iload2 rfl ?_
    refine bg_iret rfl rfl (by rfl) ?_
    exact bQ hQ (by clear hQ hX l0 l1 l2 l3 l4 l5 m0 m1 m2 m3 m4 m5 c0 cb cf; simp [vO, *])
  refine bk_sw_c (fun e1_7 => ?_) (fun n1_7 => ?_)
  · refine bg_iload2 rfl ?_
    refine bg_iret rfl rfl (by rfl) ?_
    exact bQ hQ (by clear hQ hX l0 l1 l2 l3 l4 l5 m0 m1 m2 m3 m4 m5 c0 cb cf; simp [vO, *])
  refine bk_sw_c (fun e1_8 => ?_) (fun n1_8 => ?_)
  · refine bg_iload2 rfl ?_
    refine bg_iret rfl rfl (by rfl) ?_
    exact bQ hQ (by clear hQ hX l0 l1 l2 l3 l4 l5 m0 m1 m2 m3 m4 m5 c0 cb cf; simp [vO, *])
  refine bk_sw_c (fun e1_9 => ?_) (fun n1_9 => ?_)
  · refine bg_iload2 rfl ?_
    refine bg_iret rfl rfl (by rfl) ?_
    exact bQ hQ (by clear hQ hX l0 l1 l2 l3 l4 l5 m0 m1 m2 m3 m4 m5 c0 cb cf; simp [vO, *])
  refine bk_sw_c (fun e1_10 => ?_) (fun n1_10 => ?_)
  · refine bg_iload2 rfl ?_
    refine bg_iret rfl rfl (by rfl) ?_
    exact bQ hQ (by clear hQ hX l0 l1 l2 l3 l4 l5 m0 m1 m2 m3 m4 m5 c0 cb cf; simp [vO, *])
  refine bk_sw_c (fun e1_11 => ?_) (fun n1_11 => ?_)
  · refine bg_iload2 rfl ?_
    refine bg_iret rfl rfl (by rfl) ?_
    exact bQ hQ (by clear hQ hX l0 l1 l2 l3 l4 l5 m0 m1 m2 m3 m4 m5 c0 cb cf; simp [vO, *])
  refine bk_sw_c (fun e1_12 => ?_) (fun n1_12 => ?_)
  · refine bg_iload2 rfl ?_
    refine bg_iret rfl rfl (by rfl) ?_
    exact bQ hQ (by clear hQ hX l0 l1 l2 l3 l4 l5 m0 m1 m2 m3 m4 m5 c0 cb cf; simp [vO, *])
  refine bk_sw_c (fun e1_13 => ?_) (fun n1_13 => ?_)
  · refine bg_iload2 rfl ?_
    refine bg_iret rfl rfl (by rfl) ?_
    exact bQ hQ (by clear hQ hX l0 l1 l2 l3 l4 l5 m0 m1 m2 m3 m4 m5 c0 cb cf; simp [vO, *])
  refine bk_sw_c (fun e1_14 => ?_) (fun n1_14 => ?_)
  · refine bg_iload2 rfl ?_
    refine bg_iret rfl rfl (by rfl) ?_
    exact bQ hQ (by clear hQ hX l0 l1 l2 l3 l4 l5 m0 m1 m2 m3 m4 m5 c0 cb cf; simp [vO, *])
  refine bk_sw_c (fun e1_15 => ?_) (fun n1_15 => ?_)
  · refine bg_iload2 rfl ?_
    refine bg_iret rfl rfl (by rfl) ?_
    exact bQ hQ (by clear hQ hX l0 l1 l2 l3 l4 l5 m0 m1 m2 m3 m4 m5 c0 cb cf; simp [vO, *])
  refine bk_sw_c (fun e1_16 => ?_) (fun n1_16 => ?_)
  · refine bg_iload2 rfl ?_
    refine bg_iret rfl rfl (by rfl) ?_
    exact bQ hQ (by clear hQ hX l0 l1 l2 l3 l4 l5 m0 m1 m2 m3 m4 m5 c0 cb cf; simp [vO, *])
  refine bk_sw_c (fun e1_17 => ?_) (fun n1_17 => ?_)
  · refine bg_iload2 rfl ?_
    refine bg_iret rfl rfl (by rfl) ?_
    exact bQ hQ (by clear hQ hX l0 l1 l2 l3 l4 l5 m0 m1 m2 m3 m4 m5 c0 cb cf; simp [vO, *])
  refine bk_sw_c (fun e1_18 => ?_) (fun n1_18 => ?_)
  · refine bg_aload0 rfl ?_
    refine bg_getfield rfl rfl c0 (by rfl) ?_
    refine bg_getfield rfl rfl m0 (by rfl) ?_
    refine bg_iret rfl rfl (by rfl) ?_
    exact bQ hQ (by clear hQ hX l0 l1 l2 l3 l4 l5 m0 m1 m2 m3 m4 m5 c0 cb cf; simp [vO, *])
  refine bk_sw_c (fun e1_19 => ?_) (fun n1_19 => ?_)
  · refine bg_aload0 rfl ?_
    refine bg_getfield rfl rfl c0 (by rfl) ?_
    refine bg_getfield rfl rfl m0 (by rfl) ?_
    refine bg_iload2 rfl ?_
    refine bg_iconst rfl ?_
    refine bg_virt2 rfl rfl rfl rfl (TB.o m1) ?_
    refine bt_get m1 rfl (by decide) (bk_Ki ?_)
    refine bg_iret rfl rfl (by rfl) ?_
    exact bQ hQ (by clear hQ hX l0 l1 l2 l3 l4 l5 m0 m1 m2 m3 m4 m5 c0 cb cf; simp [vO, *])
  refine bk_sw_c (fun e1_20 => ?_) (fun n1_20 => ?_)
  · refine bg_aload0 rfl ?_
    refine bg_getfield rfl rfl c0 (by rfl) ?_
    refine bg_getfield rfl rfl m0 (by rfl) ?_
    refine bg_iload2 rfl ?_
    refine bg_iconst rfl ?_
    refine bg_virt2 rfl rfl rfl rfl (TB.o m1) ?_
    refine bt_get m1 rfl (by decide) (bk_Ki ?_)
    refine bg_iret rfl rfl (by rfl) ?_
    exact bQ hQ (by clear hQ hX l0 l1 l2 l3 l4 l5 m0 m1 m2 m3 m4 m5 c0 cb cf; simp [vO, *])
  refine bk_sw_c (fun e1_21 => ?_) (fun n1_21 => ?_)
  · refine bg_aload0 rfl ?_
    refine bg_getfield rfl rfl c0 (by rfl) ?_
    refine bg_getfield rfl rfl m0 (by rfl) ?_
    refine bg_iconst rfl ?_
    refine bg_iload2 rfl ?_
    refine bg_virt2 rfl rfl rfl rfl (TB.o m4) ?_
    refine bt_countOf m4 rfl (by decide) (bk_Ki ?_)
    refine bg_iret rfl rfl (by rfl) ?_
    exact bQ hQ (by clear hQ hX l0 l1 l2 l3 l4 l5 m0 m1 m2 m3 m4 m5 c0 cb cf; simp [vO, *])
  refine bk_sw_c (fun e1_22 => ?_) (fun n1_22 => ?_)
  · refine bg_aload0 rfl ?_
    refine bg_getfield rfl rfl c0 (by rfl) ?_
    refine bg_getfield rfl rfl m0 (by rfl) ?_
    refine bg_iconst rfl ?_
    refine bg_iload2 rfl ?_
    refine bg_virt2 rfl rfl rfl rfl (TB.o m5) ?_
    refine bt_countOf m5 rfl (by decide) (bk_Ki ?_)
    refine bg_iret rfl rfl (by rfl) ?_
    exact bQ hQ (by clear hQ hX l0 l1 l2 l3 l4 l5 m0 m1 m2 m3 m4 m5 c0 cb cf; simp [vO, *])
  refine bk_sw_c (fun e1_23 => ?_) (fun n1_23 => ?_)
  · refine bg_aload0 rfl ?_
    refine bg_getfield rfl rfl c0 (by rfl) ?_
    refine bg_getfield rfl rfl m0 (by rfl) ?_
    refine bg_iret rfl rfl (by rfl) ?_
    exact bQ hQ (by clear hQ hX l0 l1 l2 l3 l4 l5 m0 m1 m2 m3 m4 m5 c0 cb cf; simp [vO, *])
  refine bk_sw_c (fun e1_24 => ?_) (fun n1_24 => ?_)
  · refine bg_aload0 rfl ?_
    refine bg_getfield rfl rfl c0 (by rfl) ?_
    refine bg_getfield rfl rfl m0 (by rfl) ?_
    refine bg_iret rfl rfl (by rfl) ?_
    exact bQ hQ (by clear hQ hX l0 l1 l2 l3 l4 l5 m0 m1 m2 m3 m4 m5 c0 cb cf; simp [vO, *])
  refine bk_sw_n ?_
  refine bg_iload2 rfl ?_
  refine bg_iret rfl rfl (by rfl) ?_
  exact bQ hQ (by clear hQ hX l0 l1 l2 l3 l4 l5 m0 m1 m2 m3 m4 m5 c0 cb cf; simp [vO, *])
theorem bc_result {x l r : Int32} (hQ : Q (.inl (some (.int (rO x l r)))) h n) : bk_wp V (d + 2) 27 [.int x, .int l, .int r] h n B Q := by
  refine bg_in rfl rfl ?_
  refine bg_iload0 rfl ?_
  refine bg_tsw rfl ?_
  refine bk_sw_c (fun e1_25 => ?_) (fun n1_25 => ?_)
  · refine bg_iconst rfl ?_
    refine bg_iload2 rfl ?_
    refine bg_isub rfl ?_
    refine bg_iret rfl rfl (by rfl) ?_
    exact bQ hQ (by clear hQ; simp [rO, iMin, iMax, *])
  refine bk_sw_c (fun e1_26 => ?_) (fun n1_26 => ?_)
  · refine bg_iload1 rfl ?_
    refine bg_iload2 rfl ?_
    refine bg_iand rfl ?_
    refine bg_iret rfl rfl (by rfl) ?_
    exact bQ hQ (by clear hQ; simp [rO, iMin, iMax, *])
  refine bk_sw_c (fun e1_27 => ?_) (fun n1_27 => ?_)
  · refine bg_iload1 rfl ?_
    refine bg_iload2 rfl ?_
    refine bg_ior rfl ?_
    refine bg_iret rfl rfl (by rfl) ?_
    exact bQ hQ (by clear hQ; simp [rO, iMin, iMax, *])
  refine bk_sw_c (fun e1_28 => ?_) (fun n1_28 => ?_)
  · refine bg_iload1 rfl ?_
    refine bg_iload2 rfl ?_
    refine bg_min rfl rfl rfl ?_
    refine bg_iret rfl rfl (by rfl) ?_
    exact bQ hQ (by clear hQ; simp [rO, iMin, iMax, *])
  refine bk_sw_c (fun e1_29 => ?_) (fun n1_29 => ?_)
  · refine bg_iload1 rfl ?_
    refine bg_iload2 rfl ?_
    refine bg_max rfl rfl rfl ?_
    refine bg_iret rfl rfl (by rfl) ?_
    exact bQ hQ (by clear hQ; simp [rO, iMin, iMax, *])
  refine bk_sw_c (fun e1_30 => ?_) (fun n1_30 => ?_)
  · refine bg_iconst rfl ?_
    refine bg_iret rfl rfl (by rfl) ?_
    exact bQ hQ (by clear hQ; simp [rO, iMin, iMax, *])
  refine bk_sw_c (fun e1_31 => ?_) (fun n1_31 => ?_)
  · refine bg_iconst rfl ?_
    refine bg_iret rfl rfl (by rfl) ?_
    exact bQ hQ (by clear hQ; simp [rO, iMin, iMax, *])
  refine bk_sw_c (fun e1_32 => ?_) (fun n1_32 => ?_)
  · refine bg_iconst rfl ?_
    refine bg_iret rfl rfl (by rfl) ?_
    exact bQ hQ (by clear hQ; simp [rO, iMin, iMax, *])
  refine bk_sw_c (fun e1_33 => ?_) (fun n1_33 => ?_)
  · refine bg_iconst rfl ?_
    refine bg_iret rfl rfl (by rfl) ?_
    exact bQ hQ (by clear hQ; simp [rO, iMin, iMax, *])
  refine bk_sw_c (fun e1_34 => ?_) (fun n1_34 => ?_)
  · refine bg_iconst rfl ?_
    refine bg_iret rfl rfl (by rfl) ?_
    exact bQ hQ (by clear hQ; simp [rO, iMin, iMax, *])
  refine bk_sw_c (fun e1_35 => ?_) (fun n1_35 => ?_)
  · refine bg_iconst rfl ?_
    refine bg_iret rfl rfl (by rfl) ?_
    exact bQ hQ (by clear hQ; simp [rO, iMin, iMax, *])
  refine bk_sw_c (fun e1_36 => ?_) (fun n1_36 => ?_)
  · refine bg_iconst rfl ?_
    refine bg_iret rfl rfl (by rfl) ?_
    exact bQ hQ (by clear hQ; simp [rO, iMin, iMax, *])
  refine bk_sw_c (fun e1_37 => ?_) (fun n1_37 => ?_)
  · refine bg_iconst rfl ?_
    refine bg_iret rfl rfl (by rfl) ?_
    exact bQ hQ (by clear hQ; simp [rO, iMin, iMax, *])
  refine bk_sw_c (fun e1_38 => ?_) (fun n1_38 => ?_)
  · refine bg_iload1 rfl ?_
    refine bg_iload2 rfl ?_
    refine bg_iadd rfl ?_
    refine bg_iret rfl rfl (by rfl) ?_
    exact bQ hQ (by clear hQ; simp [rO, iMin, iMax, *])
  refine bk_sw_c (fun e1_39 => ?_) (fun n1_39 => ?_)
  · refine bg_iload1 rfl ?_
    refine bg_iload2 rfl ?_
    refine bg_isub rfl ?_
    refine bg_iret rfl rfl (by rfl) ?_
    exact bQ hQ (by clear hQ; simp [rO, iMin, iMax, *])
  refine bk_sw_c (fun e1_40 => ?_) (fun n1_40 => ?_)
  · refine bg_iload1 rfl ?_
    refine bg_iload2 rfl ?_
    refine bg_imul rfl ?_
    refine bg_iret rfl rfl (by rfl) ?_
    exact bQ hQ (by clear hQ; simp [rO, iMin, iMax, *])
  refine bk_sw_c (fun e1_41 => ?_) (fun n1_41 => ?_)
  · refine bg_iload1 rfl ?_
    refine bg_iload2 rfl ?_
    refine bg_stat2 rfl rfl rfl rfl ?_
    refine bc_quot (bk_Ki ?_)
    refine bg_iret rfl rfl (by rfl) ?_
    exact bQ hQ (by clear hQ; simp [rO, iMin, iMax, *])
  refine bk_sw_c (fun e1_42 => ?_) (fun n1_42 => ?_)
  · refine bg_iload1 rfl ?_
    refine bg_iload2 rfl ?_
    refine bg_icmp_ge rfl (fun e147 => ?_) (fun e147 => ?_)
    · refine bg_iconst rfl ?_
      refine bg_iret rfl rfl (by rfl) ?_
      exact bQ hQ (by clear hQ; simp [rO, iMin, iMax, *])
    · refine bg_iconst rfl ?_
      refine bg_goto rfl ?_
      refine bg_iret rfl rfl (by rfl) ?_
      exact bQ hQ (by clear hQ; simp [rO, iMin, iMax, *])
  refine bk_sw_c (fun e1_43 => ?_) (fun n1_43 => ?_)
  · refine bg_iload1 rfl ?_
    refine bg_iload2 rfl ?_
    refine bg_icmp_le rfl (fun e158 => ?_) (fun e158 => ?_)
    · refine bg_iconst rfl ?_
      refine bg_iret rfl rfl (by rfl) ?_
      exact bQ hQ (by clear hQ; simp [rO, iMin, iMax, *])
    · refine bg_iconst rfl ?_
      refine bg_goto rfl ?_
      refine bg_iret rfl rfl (by rfl) ?_
      exact bQ hQ (by clear hQ; simp [rO, iMin, iMax, *])
  refine bk_sw_c (fun e1_44 => ?_) (fun n1_44 => ?_)
  · refine bg_iload1 rfl ?_
    refine bg_iload2 rfl ?_
    refine bg_icmp_ne rfl (fun e169 => ?_) (fun e169 => ?_)
    · refine bg_iconst rfl ?_
      refine bg_iret rfl rfl (by rfl) ?_
      exact bQ hQ (by clear hQ; simp [rO, iMin, iMax, *])
    · refine bg_iconst rfl ?_
      refine bg_goto rfl ?_
      refine bg_iret rfl rfl (by rfl) ?_
      exact bQ hQ (by clear hQ; simp [rO, iMin, iMax, *])
  refine bk_sw_c (fun e1_45 => ?_) (fun n1_45 => ?_)
  · refine bg_iload1 rfl ?_
    refine bg_iload2 rfl ?_
    refine bg_icmp_gt rfl (fun e180 => ?_) (fun e180 => ?_)
    · refine bg_iconst rfl ?_
      refine bg_iret rfl rfl (by rfl) ?_
      exact bQ hQ (by clear hQ; simp [rO, iMin, iMax, *])
    · refine bg_iconst rfl ?_
      refine bg_goto rfl ?_
      refine bg_iret rfl rfl (by rfl) ?_
      exact bQ hQ (by clear hQ; simp [rO, iMin, iMax, *])
  refine bk_sw_c (fun e1_46 => ?_) (fun n1_46 => ?_)
  · refine bg_iload1 rfl ?_
    refine bg_iload2 rfl ?_
    refine bg_icmp_lt rfl (fun e191 => ?_) (fun e191 => ?_)
    · refine bg_iconst rfl ?_
      refine bg_iret rfl rfl (by rfl) ?_
      exact bQ hQ (by clear hQ; simp [rO, iMin, iMax, *])
    · refine bg_iconst rfl ?_
      refine bg_goto rfl ?_
      refine bg_iret rfl rfl (by rfl) ?_
      exact bQ hQ (by clear hQ; simp [rO, iMin, iMax, *])
  refine bk_sw_c (fun e1_47 => ?_) (fun n1_47 => ?_)
  · refine bg_iconst rfl ?_
    refine bg_iret rfl rfl (by rfl) ?_
    exact bQ hQ (by clear hQ; simp [rO, iMin, iMax, *])
  refine bk_sw_c (fun e1_48 => ?_) (fun n1_48 => ?_)
  · refine bg_iload2 rfl ?_
    refine bg_ineg rfl ?_
    refine bg_iret rfl rfl (by rfl) ?_
    exact bQ hQ (by clear hQ; simp [rO, iMin, iMax, *])
  refine bk_sw_n ?_
  refine bg_iconst rfl ?_
  refine bg_iret rfl rfl (by rfl) ?_
  exact bQ hQ (by clear hQ; simp [rO, iMin, iMax, *])
theorem SR_upd {f : Nat → Int32} {k : Nat} {v : Int32} : ∀ {s : List Int32}, SR f s → s.length ≤ k → SR (upd f k v) s
  | [], _, _ => trivial
  | x :: r, h, hk => by
    have hk' : r.length + 1 ≤ k := hk
    exact ⟨(pk_un (by omega)).trans h.1, SR_upd h.2 (by omega)⟩
theorem CX.cf {h : bk_H} {a lo mo : Nat} {P : Nat → bT} {S : bS} {bs : bT} (q : CX h a lo mo P S bs) : ∃ f : Nat → Int32, h (a + 3) = some (.inl (0, 64, .inl f)) := q.2.2.1.2.2
theorem bc_reckL {e : Nat} (he : e ≤ 400) : ∀ (c i : Nat) (stk : List Int32) (h : bk_H) (f : Nat → Int32), CX h a lo mo P S bs → h (a + 3) = some (.inl (0, 64, .inl f)) → SR f stk → stk.length ≤ 64 → wfN P c i stk.length → i + c = e →
    (∀ h', CX h' a lo mo P S bs → fr h h' (a + 3) (a + 4) → Q (.inl (some (.int ((evN P S c i stk).headD 1)))) h' n) → ∀ x1 x2 x3 x8 x9 x10 x11, bk_g V (d + 2) 25 B Q 34 [some (.ref a), x1, x2, x3, some (.int (nI e)), some (.int (nI stk.length)), some (.int (stk.headD 1)), some (.int (nI i)), x8, x9, x10, x11] [] h n cs := by
  intro c
  induction c with
  | zero =>
    intro i stk h f hX hf hs hlen hw hi hQ x1 x2 x3 x8 x9 x10 x11
    refine bg_iload7 rfl ?_
    refine bg_iload4 rfl ?_
    refine bg_icmp_ge rfl (fun e38 => ?_) (fun e38 => absurd e38 (nI_nlt (by omega) (by omega)))
    refine bg_iload6 rfl ?_
    refine bg_iret rfl rfl (by rfl) ?_
    exact hQ h hX fr.refl
  | succ c ih =>
    intro i stk h f hX hf hs hlen hw hi hQ x1 x2 x3 x8 x9 x10 x11
    obtain ⟨⟨l0, l1, l2, l3, l4, l5⟩, ⟨m0, m1, m2, m3, m4, m5⟩, ⟨c0, cb, cf⟩, hlo, hmo⟩ := id hX
    have hw0 := hw
    rcases hw0 with ⟨hsd, hk, hw3⟩ | ⟨hsd, hk, hw3⟩ | ⟨hsd, hk, hw3⟩
    · have hev : evN P S (c + 1) i stk = evN P S c (i + 1) (vO S (rG (P 4) (nI i) 0) (rG (P 4) (nI i) 1) :: stk) := by
        show evN P S c (i + 1) (ev1 _ _ _ _ _) = _
        unfold ev1
        rw [if_pos hsd]
      simp only [hev] at hQ
      refine bg_iload7 rfl ?_
      refine bg_iload4 rfl ?_
      refine bg_icmp_ge rfl (fun e38 => absurd (nI_lt (by omega) (by omega)) e38) (fun e38 => ?_)
      refine bg_aload0 rfl ?_
      refine bg_getfield rfl rfl c0 (by rfl) ?_
      refine bg_getfield rfl rfl l0 (by rfl) ?_
      refine bg_iload7 rfl ?_
      refine bg_iconst rfl ?_
      refine bg_virt2 rfl rfl rfl rfl (TB.o l5) ?_
      refine bt_get l5 rfl (by decide) (bk_Ki ?_)
      refine bg_istore8 rfl rfl ?_
      refine bg_aload0 rfl ?_
      refine bg_getfield rfl rfl c0 (by rfl) ?_
      refine bg_getfield rfl rfl l0 (by rfl) ?_
      refine bg_iload7 rfl ?_
      refine bg_iconst rfl ?_
      refine bg_virt2 rfl rfl rfl rfl (TB.o l5) ?_
      refine bt_get l5 rfl (by decide) (bk_Ki ?_)
      rw [hsd]
      refine bg_istore9 rfl rfl ?_
      refine bg_iload9 rfl ?_
      refine bg_iconst rfl ?_
      refine bg_icmp_lt rfl (fun e74 => ?_) (fun e74 => absurd (by decide) e74)
      refine bg_iconst rfl ?_
      refine bg_istore10 rfl rfl ?_
      refine bg_iload9 rfl ?_
      refine bg_iconst rfl ?_
      refine bg_icmp_lt rfl (fun e111 => ?_) (fun e111 => absurd (by decide) e111)
      refine bg_iconst rfl ?_
      refine bg_istore11 rfl rfl ?_
      refine bg_iload9 rfl ?_
      refine bg_if_ne rfl (fun e147 => absurd rfl e147) (fun e147 => ?_)
      refine bg_aload0 rfl ?_
      refine bg_iload8 rfl ?_
      refine bg_aload0 rfl ?_
      refine bg_getfield rfl rfl c0 (by rfl) ?_
      refine bg_getfield rfl rfl l0 (by rfl) ?_
      refine bg_iload7 rfl ?_
      refine bg_iconst rfl ?_
      refine bg_virt2 rfl rfl rfl rfl (TB.o l5) ?_
      refine bt_get l5 rfl (by decide) (bk_Ki ?_)
      refine bg_virt2 rfl rfl rfl rfl ⟨_, c0⟩ ?_
      refine bc_value hX (bk_Ki ?_)
      refine bg_goto rfl ?_
      refine bg_istore6 rfl rfl ?_
      refine bg_iload5 rfl ?_
      refine bg_iload9 rfl ?_
      refine bg_isub rfl ?_
      rw [Int32.sub_zero]
      refine bg_istore5 rfl rfl ?_
      refine bg_iload5 rfl ?_
      refine bg_if_lt rfl (fun e192 => absurd e192 (nI_pos (by omega))) (fun e192 => ?_)
      refine bg_iload5 rfl ?_
      refine bg_aload0 rfl ?_
      refine bg_getfield rfl rfl c0 (by rfl) ?_
      refine bg_alen rfl hf (by decide) ?_
      refine bg_icmp_ge rfl (fun e202 => absurd (nI_lt (by omega) (by decide)) e202) (fun e202 => ?_)
      refine bg_aload0 rfl ?_
      refine bg_getfield rfl rfl c0 (by rfl) ?_
      refine bg_iload5 rfl ?_
      refine bg_iload6 rfl ?_
      refine bg_iastore_n rfl hf (by decide) (by omega) (fun h213 f213 g213 => ?_)
      refine bg_iinc5 rfl rfl ?_
      rw [nI_1]
      refine bg_iinc7 rfl rfl ?_
      rw [nI_1]
      refine bg_goto rfl ?_
      refine ih (i + 1) (vO S (rG (P 4) (nI i) 0) (rG (P 4) (nI i) 1) :: stk) h213 _ (hX.s f213 g213).1 f213 ⟨pk_us, SR_upd hs (by omega)⟩ (by show stk.length + 1 ≤ 64; omega) hw3 (by omega) (fun h' kx kg => hQ h' kx (fun q hq => (kg q hq).trans (g213 q (by omega)))) _ _ _ _ _ _ _
    · obtain ⟨y, r, rfl⟩ : ∃ y r, stk = y :: r := by
        cases stk with
        | nil => exact absurd hk (by simp)
        | cons y r => exact ⟨y, r, rfl⟩
      have hl1 : r.length + 1 ≤ 64 := hlen
      have hl2 : (y :: r).length = r.length + 1 := rfl
      have hev : evN P S (c + 1) i (y :: r) = evN P S c (i + 1) (rO (rG (P 4) (nI i) 0) 0 y :: r) := by
        show evN P S c (i + 1) (ev1 _ _ _ _ _) = _
        unfold ev1
        rw [hsd]
        rfl
      simp only [hev] at hQ
      refine bg_iload7 rfl ?_
      refine bg_iload4 rfl ?_
      refine bg_icmp_ge rfl (fun e38 => absurd (nI_lt (by omega) (by omega)) e38) (fun e38 => ?_)
      refine bg_aload0 rfl ?_
      refine bg_getfield rfl rfl c0 (by rfl) ?_
      refine bg_getfield rfl rfl l0 (by rfl) ?_
      refine bg_iload7 rfl ?_
      refine bg_iconst rfl ?_
      refine bg_virt2 rfl rfl rfl rfl (TB.o l5) ?_
      refine bt_get l5 rfl (by decide) (bk_Ki ?_)
      refine bg_istore8 rfl rfl ?_
      refine bg_aload0 rfl ?_
      refine bg_getfield rfl rfl c0 (by rfl) ?_
      refine bg_getfield rfl rfl l0 (by rfl) ?_
      refine bg_iload7 rfl ?_
      refine bg_iconst rfl ?_
      refine bg_virt2 rfl rfl rfl rfl (TB.o l5) ?_
      refine bt_get l5 rfl (by decide) (bk_Ki ?_)
      rw [hsd]
      refine bg_istore9 rfl rfl ?_
      refine bg_iload9 rfl ?_
      refine bg_iconst rfl ?_
      refine bg_icmp_lt rfl (fun e74 => absurd e74 (by decide)) (fun e74 => ?_)
      refine bg_iload5 rfl ?_
      refine bg_iconst rfl ?_
      refine bg_icmp_lt rfl (fun e80 => absurd e80 (nI_nlt (b := 1) (by omega) (by omega))) (fun e80 => ?_)
      refine bg_iload5 rfl ?_
      refine bg_aload0 rfl ?_
      refine bg_getfield rfl rfl c0 (by rfl) ?_
      refine bg_alen rfl hf (by decide) ?_
      refine bg_icmp_gt rfl (fun e90 => absurd e90 (nI_nlt (by omega) (by omega))) (fun e90 => ?_)
      refine bg_aload0 rfl ?_
      refine bg_getfield rfl rfl c0 (by rfl) ?_
      refine bg_iload5 rfl ?_
      refine bg_iconst rfl ?_
      refine bg_isub rfl ?_
      rw [show nI (y :: r).length - 1 = nI r.length from nI_pred _]
      refine bg_iaload_n rfl hf (by decide) (by omega) ?_
      rw [hs.1]
      refine bg_goto rfl ?_
      refine bg_istore10 rfl rfl ?_
      refine bg_iload9 rfl ?_
      refine bg_iconst rfl ?_
      refine bg_icmp_lt rfl (fun e111 => ?_) (fun e111 => absurd (by decide) e111)
      refine bg_iconst rfl ?_
      refine bg_istore11 rfl rfl ?_
      refine bg_iload9 rfl ?_
      refine bg_if_ne rfl (fun e147 => ?_) (fun e147 => absurd e147 (by decide))
      refine bg_iload8 rfl ?_
      refine bg_iload11 rfl ?_
      refine bg_iload10 rfl ?_
      refine bg_stat3 rfl rfl rfl rfl ?_
      refine bc_result (bk_Ki ?_)
      refine bg_istore6 rfl rfl ?_
      refine bg_iload5 rfl ?_
      refine bg_iload9 rfl ?_
      refine bg_isub rfl ?_
      rw [show nI (y :: r).length - 1 = nI r.length from nI_pred _]
      refine bg_istore5 rfl rfl ?_
      refine bg_iload5 rfl ?_
      refine bg_if_lt rfl (fun e192 => absurd e192 (nI_pos (by omega))) (fun e192 => ?_)
      refine bg_iload5 rfl ?_
      refine bg_aload0 rfl ?_
      refine bg_getfield rfl rfl c0 (by rfl) ?_
      refine bg_alen rfl hf (by decide) ?_
      refine bg_icmp_ge rfl (fun e202 => absurd (nI_lt (by omega) (by decide)) e202) (fun e202 => ?_)
      refine bg_aload0 rfl ?_
      refine bg_getfield rfl rfl c0 (by rfl) ?_
      refine bg_iload5 rfl ?_
      refine bg_iload6 rfl ?_
      refine bg_iastore_n rfl hf (by decide) (by omega) (fun h213 f213 g213 => ?_)
      refine bg_iinc5 rfl rfl ?_
      rw [nI_1]
      refine bg_iinc7 rfl rfl ?_
      rw [nI_1]
      refine bg_goto rfl ?_
      refine ih (i + 1) (rO (rG (P 4) (nI i) 0) 0 y :: r) h213 _ (hX.s f213 g213).1 f213 ⟨pk_us, SR_upd hs.2 (by omega)⟩ (by show r.length + 1 ≤ 64; omega) hw3 (by omega) (fun h' kx kg => hQ h' kx (fun q hq => (kg q hq).trans (g213 q (by omega)))) _ _ _ _ _ _ _
    · obtain ⟨y, x, r, rfl⟩ : ∃ y x r, stk = y :: x :: r := by
        cases stk with
        | nil => exact absurd hk (by simp)
        | cons y r =>
          cases r with
          | nil => exact absurd hk (by simp)
          | cons x r => exact ⟨y, x, r, rfl⟩
      have hl1 : r.length + 2 ≤ 64 := hlen
      have hl2 : (y :: x :: r).length = r.length + 2 := rfl
      have hl3 : (x :: r).length = r.length + 1 := rfl
      have hev : evN P S (c + 1) i (y :: x :: r) = evN P S c (i + 1) (rO (rG (P 4) (nI i) 0) x y :: r) := by
        show evN P S c (i + 1) (ev1 _ _ _ _ _) = _
        unfold ev1
        rw [hsd]
        rfl
      simp only [hev] at hQ
      refine bg_iload7 rfl ?_
      refine bg_iload4 rfl ?_
      refine bg_icmp_ge rfl (fun e38 => absurd (nI_lt (by omega) (by omega)) e38) (fun e38 => ?_)
      refine bg_aload0 rfl ?_
      refine bg_getfield rfl rfl c0 (by rfl) ?_
      refine bg_getfield rfl rfl l0 (by rfl) ?_
      refine bg_iload7 rfl ?_
      refine bg_iconst rfl ?_
      refine bg_virt2 rfl rfl rfl rfl (TB.o l5) ?_
      refine bt_get l5 rfl (by decide) (bk_Ki ?_)
      refine bg_istore8 rfl rfl ?_
      refine bg_aload0 rfl ?_
      refine bg_getfield rfl rfl c0 (by rfl) ?_
      refine bg_getfield rfl rfl l0 (by rfl) ?_
      refine bg_iload7 rfl ?_
      refine bg_iconst rfl ?_
      refine bg_virt2 rfl rfl rfl rfl (TB.o l5) ?_
      refine bt_get l5 rfl (by decide) (bk_Ki ?_)
      rw [hsd]
      refine bg_istore9 rfl rfl ?_
      refine bg_iload9 rfl ?_
      refine bg_iconst rfl ?_
      refine bg_icmp_lt rfl (fun e74 => absurd e74 (by decide)) (fun e74 => ?_)
      refine bg_iload5 rfl ?_
      refine bg_iconst rfl ?_
      refine bg_icmp_lt rfl (fun e80 => absurd e80 (nI_nlt (b := 1) (by omega) (by omega))) (fun e80 => ?_)
      refine bg_iload5 rfl ?_
      refine bg_aload0 rfl ?_
      refine bg_getfield rfl rfl c0 (by rfl) ?_
      refine bg_alen rfl hf (by decide) ?_
      refine bg_icmp_gt rfl (fun e90 => absurd e90 (nI_nlt (by omega) (by omega))) (fun e90 => ?_)
      refine bg_aload0 rfl ?_
      refine bg_getfield rfl rfl c0 (by rfl) ?_
      refine bg_iload5 rfl ?_
      refine bg_iconst rfl ?_
      refine bg_isub rfl ?_
      rw [show nI (y :: x :: r).length - 1 = nI (x :: r).length from nI_pred _]
      refine bg_iaload_n rfl hf (by decide) (by omega) ?_
      rw [hs.1]
      refine bg_goto rfl ?_
      refine bg_istore10 rfl rfl ?_
      refine bg_iload9 rfl ?_
      refine bg_iconst rfl ?_
      refine bg_icmp_lt rfl (fun e111 => absurd e111 (by decide)) (fun e111 => ?_)
      refine bg_iload5 rfl ?_
      refine bg_iconst rfl ?_
      refine bg_icmp_lt rfl (fun e117 => absurd e117 (nI_nlt (b := 2) (by omega) (by omega))) (fun e117 => ?_)
      refine bg_iload5 rfl ?_
      refine bg_aload0 rfl ?_
      refine bg_getfield rfl rfl c0 (by rfl) ?_
      refine bg_alen rfl hf (by decide) ?_
      refine bg_icmp_gt rfl (fun e127 => absurd e127 (nI_nlt (by omega) (by omega))) (fun e127 => ?_)
      refine bg_aload0 rfl ?_
      refine bg_getfield rfl rfl c0 (by rfl) ?_
      refine bg_iload5 rfl ?_
      refine bg_iconst rfl ?_
      refine bg_isub rfl ?_
      rw [show nI (y :: x :: r).length - 2 = nI r.length from pk_sub (b := 2) (by omega)]
      refine bg_iaload_n rfl hf (by decide) (by omega) ?_
      rw [hs.2.1]
      refine bg_goto rfl ?_
      refine bg_istore11 rfl rfl ?_
      refine bg_iload9 rfl ?_
      refine bg_if_ne rfl (fun e147 => ?_) (fun e147 => absurd e147 (by decide))
      refine bg_iload8 rfl ?_
      refine bg_iload11 rfl ?_
      refine bg_iload10 rfl ?_
      refine bg_stat3 rfl rfl rfl rfl ?_
      refine bc_result (bk_Ki ?_)
      refine bg_istore6 rfl rfl ?_
      refine bg_iload5 rfl ?_
      refine bg_iload9 rfl ?_
      refine bg_isub rfl ?_
      rw [show nI (y :: x :: r).length - 2 = nI r.length from pk_sub (b := 2) (by omega)]
      refine bg_istore5 rfl rfl ?_
      refine bg_iload5 rfl ?_
      refine bg_if_lt rfl (fun e192 => absurd e192 (nI_pos (by omega))) (fun e192 => ?_)
      refine bg_iload5 rfl ?_
      refine bg_aload0 rfl ?_
      refine bg_getfield rfl rfl c0 (by rfl) ?_
      refine bg_alen rfl hf (by decide) ?_
      refine bg_icmp_ge rfl (fun e202 => absurd (nI_lt (by omega) (by decide)) e202) (fun e202 => ?_)
      refine bg_aload0 rfl ?_
      refine bg_getfield rfl rfl c0 (by rfl) ?_
      refine bg_iload5 rfl ?_
      refine bg_iload6 rfl ?_
      refine bg_iastore_n rfl hf (by decide) (by omega) (fun h213 f213 g213 => ?_)
      refine bg_iinc5 rfl rfl ?_
      rw [nI_1]
      refine bg_iinc7 rfl rfl ?_
      rw [nI_1]
      refine bg_goto rfl ?_
      refine ih (i + 1) (rO (rG (P 4) (nI i) 0) x y :: r) h213 _ (hX.s f213 g213).1 f213 ⟨pk_us, SR_upd hs.2.2 (by omega)⟩ (by show r.length + 1 ≤ 64; omega) hw3 (by omega) (fun h' kx kg => hQ h' kx (fun q hq => (kg q hq).trans (g213 q (by omega)))) _ _ _ _ _ _ _
theorem bc_reck {o f b : Nat} {x y : Int32} (hX : CX h a lo mo P S bs) (hx : x = nI f) (hy : y = nI b) (hf : f < 2 ^ 31) (hb : b < 2 ^ 31) (hs : sgm P o f b) (hQ : ∀ h', CX h' a lo mo P S bs → fr h h' (a + 3) (a + 4) → Q (.inl (some (.int (rck P S (nI o) f b)))) h' n) :
    bk_wp V (d + 3) 25 [.ref a, .int (nI o), .int x, .int y] h n B Q := by
  subst hx hy
  obtain ⟨⟨l0, l1, l2, l3, l4, l5⟩, ⟨m0, m1, m2, m3, m4, m5⟩, ⟨c0, cb, cf⟩, hlo, hmo⟩ := id hX
  obtain ⟨i, e, s1, s2, s3, s4, s5⟩ := hs
  obtain ⟨g, hg⟩ := hX.cf
  refine bg_in rfl rfl ?_
  refine bg_aload0 rfl ?_
  refine bg_getfield rfl rfl c0 (by rfl) ?_
  refine bg_getfield rfl rfl l0 (by rfl) ?_
  refine bg_iload1 rfl ?_
  refine bg_iload3 rfl ?_
  refine bg_virt2 rfl rfl rfl rfl (TB.o l4) ?_
  refine bt_get l4 rfl hb (bk_Ki ?_)
  rw [s2]
  refine bg_istore4 rfl rfl ?_
  refine bg_iconst rfl ?_
  refine bg_istore5 rfl rfl ?_
  refine bg_iconst rfl ?_
  refine bg_istore6 rfl rfl ?_
  refine bg_aload0 rfl ?_
  refine bg_getfield rfl rfl c0 (by rfl) ?_
  refine bg_getfield rfl rfl l0 (by rfl) ?_
  refine bg_iload1 rfl ?_
  refine bg_iload2 rfl ?_
  refine bg_virt2 rfl rfl rfl rfl (TB.o l4) ?_
  refine bt_get l4 rfl hf (bk_Ki ?_)
  rw [s1]
  refine bg_istore7 rfl rfl ?_
  refine bc_reckL s4 (e - i) i [] h g hX hg trivial (by decide) s5 (by omega) (fun h' kx kg => ?_) _ _ _ _ _ _ _
  refine bQ (hQ h' kx kg) ?_
  unfold rck
  rw [s1, s2, nI_clamp (by omega), nI_clamp (by omega)]
end BC
