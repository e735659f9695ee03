/-! THE HOURS, last: cut, sell, go. Printed by wip/whole/mk26.py. -/
section BC
variable {V : bk_V} {d n : Nat} {B : Nat × Nat} {Q : bk_R → bk_H → Nat → Prop} {h : bk_H} {a lo mo : Nat} {P : Nat → bT} {S : bS} {bs : bT} {cs : Nat × Nat}
theorem bt_clamp {x : Int32} : x.toNatClampNeg < 2 ^ 31 := by
  have := Int32.toInt_lt x
  show x.toInt.toNat < 2 ^ 31
  omega
theorem bc_shL {g b : Int32} (hX : CX h a lo mo P S bs) (hQ : Q (.inl (some (.int (shL P (S.2 3) g b (S.2 3).length 0)))) h n) : ∀ (c i : Nat), i + c = (S.2 3).length → shL P (S.2 3) g b (S.2 3).length 0 = shL P (S.2 3) g b c i → ∀ x5, bk_g V (d + 1) 20 B Q 16 [some (.ref a), some (.int g), some (.int b), some (.int (rG (P 2) g 0)), some (.int (nI i)), x5] [] h n cs := by
  obtain ⟨⟨l0, l1, l2, l3, l4, l5⟩, ⟨m0, m1, m2, m3, m4, m5⟩, ⟨c0, cb, cf⟩, hlo, hmo⟩ := id hX
  have m44 := m4.2.2.1
  intro c
  induction c with
  | zero =>
    intro i hi he x5
    refine bg_iload4 rfl ?_
    refine bg_aload0 rfl ?_
    refine bg_getfield rfl rfl c0 (by rfl) ?_
    refine bg_getfield rfl rfl m0 (by rfl) ?_
    refine bg_virt0 rfl rfl rfl rfl (TB.o m4) ?_
    refine bt_size m4 (bk_Ki ?_)
    refine bg_icmp_ge rfl (fun e28 => ?_) (fun e28 => absurd e28 (nI_nlt (by omega) (by omega)))
    refine bg_iconst rfl ?_
    refine bg_iret rfl rfl (by rfl) ?_
    exact bQ hQ he
  | succ c ih =>
    intro i hi he x5
    refine bg_iload4 rfl ?_
    refine bg_aload0 rfl ?_
    refine bg_getfield rfl rfl c0 (by rfl) ?_
    refine bg_getfield rfl rfl m0 (by rfl) ?_
    refine bg_virt0 rfl rfl rfl rfl (TB.o m4) ?_
    refine bt_size m4 (bk_Ki ?_)
    refine bg_icmp_ge rfl (fun e28 => absurd (nI_lt (by omega) (by omega)) e28) (fun e28 => ?_)
    refine bg_iload3 rfl ?_
    refine bg_if_eq rfl (fun e32 => ?_) (fun e32 => ?_)
    · have et : rG (P 2) g 0 = 0 ∨ ¬ qO 12 (rG (P 2) g 0) < rG (S.2 3) (nI i) 1 := Or.inl e32
      refine bg_iconst rfl ?_
      refine bg_goto rfl ?_
      refine bg_istore5 rfl rfl ?_
      refine bg_iload5 rfl ?_
      refine bg_if_eq rfl (fun e66 => absurd e66 (by decide)) (fun e66 => ?_)
      refine bg_aload0 rfl ?_
      refine bg_getfield rfl rfl c0 (by rfl) ?_
      refine bg_getfield rfl rfl m0 (by rfl) ?_
      refine bg_iload4 rfl ?_
      refine bg_iconst rfl ?_
      refine bg_virt2 rfl rfl rfl rfl (TB.o m4) ?_
      refine bt_get m4 rfl (by decide) (bk_Ki ?_)
      refine bg_iload2 rfl ?_
      refine bg_icmp_ne rfl (fun e83 => ?_) (fun e83 => ?_)
      · have hno : shL P (S.2 3) g b (c + 1) i = shL P (S.2 3) g b c (i + 1) := if_neg (fun q => e83 q.2.1)
        refine bg_iinc4 rfl rfl ?_
        rw [nI_1]
        refine bg_goto rfl ?_
        exact ih (i + 1) (by omega) (he.trans hno) _
      · refine bg_aload0 rfl ?_
        refine bg_getfield rfl rfl c0 (by rfl) ?_
        refine bg_getfield rfl rfl m0 (by rfl) ?_
        refine bg_iload4 rfl ?_
        refine bg_iconst rfl ?_
        refine bg_virt2 rfl rfl rfl rfl (TB.o m4) ?_
        refine bt_get m4 rfl (by decide) (bk_Ki ?_)
        refine bg_if_ne rfl (fun e99 => ?_) (fun e99 => ?_)
        · have hno : shL P (S.2 3) g b (c + 1) i = shL P (S.2 3) g b c (i + 1) := if_neg (fun q => e99 q.2.2.1)
          refine bg_iinc4 rfl rfl ?_
          rw [nI_1]
          refine bg_goto rfl ?_
          exact ih (i + 1) (by omega) (he.trans hno) _
        · refine bg_aload0 rfl ?_
          refine bg_getfield rfl rfl c0 (by rfl) ?_
          refine bg_getfield rfl rfl m0 (by rfl) ?_
          refine bg_iload4 rfl ?_
          refine bg_iconst rfl ?_
          refine bg_virt2 rfl rfl rfl rfl (TB.o m4) ?_
          refine bt_get m4 rfl (by decide) (bk_Ki ?_)
          refine bg_iconst rfl ?_
          refine bg_icmp_ge rfl (fun e116 => ?_) (fun e116 => ?_)
          · have hno : shL P (S.2 3) g b (c + 1) i = shL P (S.2 3) g b c (i + 1) := if_neg (fun q => e116 q.2.2.2)
            refine bg_iinc4 rfl rfl ?_
            rw [nI_1]
            refine bg_goto rfl ?_
            exact ih (i + 1) (by omega) (he.trans hno) _
          · have hye : shL P (S.2 3) g b (c + 1) i = nI i := if_pos ⟨et, e83, e99, e116⟩
            refine bg_iload4 rfl ?_
            refine bg_iret rfl rfl (by rfl) ?_
            exact bQ hQ (he.trans hye)
    · refine bg_aload0 rfl ?_
      refine bg_getfield rfl rfl c0 (by rfl) ?_
      refine bg_getfield rfl rfl m0 (by rfl) ?_
      refine bg_iload4 rfl ?_
      refine bg_iconst rfl ?_
      refine bg_virt2 rfl rfl rfl rfl (TB.o m4) ?_
      refine bt_get m4 rfl (by decide) (bk_Ki ?_)
      refine bg_bipush rfl ?_
      refine bg_iload3 rfl ?_
      refine bg_stat2 rfl rfl rfl rfl ?_
      refine bc_quot (bk_Ki ?_)
      refine bg_icmp_gt rfl (fun e54 => ?_) (fun e54 => ?_)
      · have et : ¬ (rG (P 2) g 0 = 0 ∨ ¬ qO 12 (rG (P 2) g 0) < rG (S.2 3) (nI i) 1) := fun q => q.elim e32 (fun z => z e54)
        have hno : shL P (S.2 3) g b (c + 1) i = shL P (S.2 3) g b c (i + 1) := if_neg (fun q => et q.1)
        refine bg_iconst rfl ?_
        refine bg_istore5 rfl rfl ?_
        refine bg_iload5 rfl ?_
        refine bg_if_eq rfl (fun e66 => ?_) (fun e66 => absurd rfl e66)
        refine bg_iinc4 rfl rfl ?_
        rw [nI_1]
        refine bg_goto rfl ?_
        exact ih (i + 1) (by omega) (he.trans hno) _
      · have et : rG (P 2) g 0 = 0 ∨ ¬ qO 12 (rG (P 2) g 0) < rG (S.2 3) (nI i) 1 := Or.inr e54
        refine bg_iconst rfl ?_
        refine bg_goto rfl ?_
        refine bg_istore5 rfl rfl ?_
        refine bg_iload5 rfl ?_
        refine bg_if_eq rfl (fun e66 => absurd e66 (by decide)) (fun e66 => ?_)
        refine bg_aload0 rfl ?_
        refine bg_getfield rfl rfl c0 (by rfl) ?_
        refine bg_getfield rfl rfl m0 (by rfl) ?_
        refine bg_iload4 rfl ?_
        refine bg_iconst rfl ?_
        refine bg_virt2 rfl rfl rfl rfl (TB.o m4) ?_
        refine bt_get m4 rfl (by decide) (bk_Ki ?_)
        refine bg_iload2 rfl ?_
        refine bg_icmp_ne rfl (fun e83 => ?_) (fun e83 => ?_)
        · have hno : shL P (S.2 3) g b (c + 1) i = shL P (S.2 3) g b c (i + 1) := if_neg (fun q => e83 q.2.1)
          refine bg_iinc4 rfl rfl ?_
          rw [nI_1]
          refine bg_goto rfl ?_
          exact ih (i + 1) (by omega) (he.trans hno) _
        · refine bg_aload0 rfl ?_
          refine bg_getfield rfl rfl c0 (by rfl) ?_
          refine bg_getfield rfl rfl m0 (by rfl) ?_
          refine bg_iload4 rfl ?_
          refine bg_iconst rfl ?_
          refine bg_virt2 rfl rfl rfl rfl (TB.o m4) ?_
          refine bt_get m4 rfl (by decide) (bk_Ki ?_)
          refine bg_if_ne rfl (fun e99 => ?_) (fun e99 => ?_)
          · have hno : shL P (S.2 3) g b (c + 1) i = shL P (S.2 3) g b c (i + 1) := if_neg (fun q => e99 q.2.2.1)
            refine bg_iinc4 rfl rfl ?_
            rw [nI_1]
            refine bg_goto rfl ?_
            exact ih (i + 1) (by omega) (he.trans hno) _
          · refine bg_aload0 rfl ?_
            refine bg_getfield rfl rfl c0 (by rfl) ?_
            refine bg_getfield rfl rfl m0 (by rfl) ?_
            refine bg_iload4 rfl ?_
            refine bg_iconst rfl ?_
            refine bg_virt2 rfl rfl rfl rfl (TB.o m4) ?_
            refine bt_get m4 rfl (by decide) (bk_Ki ?_)
            refine bg_iconst rfl ?_
            refine bg_icmp_ge rfl (fun e116 => ?_) (fun e116 => ?_)
            · have hno : shL P (S.2 3) g b (c + 1) i = shL P (S.2 3) g b c (i + 1) := if_neg (fun q => e116 q.2.2.2)
              refine bg_iinc4 rfl rfl ?_
              rw [nI_1]
              refine bg_goto rfl ?_
              exact ih (i + 1) (by omega) (he.trans hno) _
            · have hye : shL P (S.2 3) g b (c + 1) i = nI i := if_pos ⟨et, e83, e99, e116⟩
              refine bg_iload4 rfl ?_
              refine bg_iret rfl rfl (by rfl) ?_
              exact bQ hQ (he.trans hye)

theorem bc_sheetFor {g b : Int32} (hX : CX h a lo mo P S bs) (hQ : Q (.inl (some (.int (shL P (S.2 3) g b (S.2 3).length 0)))) h n) : bk_wp V (d + 2) 20 [.ref a, .int g, .int b] h n B Q := by
  obtain ⟨⟨l0, l1, l2, l3, l4, l5⟩, ⟨m0, m1, m2, m3, m4, m5⟩, ⟨c0, cb, cf⟩, hlo, hmo⟩ := id hX
  refine bg_in rfl rfl ?_
  refine bg_aload0 rfl ?_
  refine bg_getfield rfl rfl c0 (by rfl) ?_
  refine bg_getfield rfl rfl l0 (by rfl) ?_
  refine bg_iload1 rfl ?_
  refine bg_iconst rfl ?_
  refine bg_virt2 rfl rfl rfl rfl (TB.o l3) ?_
  refine bt_get l3 rfl (by decide) (bk_Ki ?_)
  refine bg_istore3 rfl rfl ?_
  refine bg_iconst rfl ?_
  refine bg_istore4 rfl rfl ?_
  exact bc_shL hX hQ (S.2 3).length 0 (by omega) rfl _
theorem bc_cutOut {g x : Int32} (hX : CX h a lo mo P S bs) (hl : ¬ 30 ≤ (S.2 4).length) (hQ : ∀ h', CX h' a lo mo P (cutO P g x S) bs → fx h h' mo a → Q (.inl none) h' n) : bk_wp V (d + 2) 21 [.ref a, .int g, .int x] h n B Q := by
  obtain ⟨⟨l0, l1, l2, l3, l4, l5⟩, ⟨m0, m1, m2, m3, m4, m5⟩, ⟨c0, cb, cf⟩, hlo, hmo⟩ := id hX
  refine bg_in rfl rfl ?_
  refine bg_aload0 rfl ?_
  refine bg_getfield rfl rfl c0 (by rfl) ?_
  refine bg_getfield rfl rfl l0 (by rfl) ?_
  refine bg_iload1 rfl ?_
  refine bg_iconst rfl ?_
  refine bg_virt2 rfl rfl rfl rfl (TB.o l3) ?_
  refine bt_get l3 rfl (by decide) (bk_Ki ?_)
  refine bg_istore3 rfl rfl ?_
  refine bg_aload0 rfl ?_
  refine bg_getfield rfl rfl c0 (by rfl) ?_
  refine bg_getfield rfl rfl l0 (by rfl) ?_
  refine bg_iload1 rfl ?_
  refine bg_iconst rfl ?_
  refine bg_virt2 rfl rfl rfl rfl (TB.o l3) ?_
  refine bt_get l3 rfl (by decide) (bk_Ki ?_)
  refine bg_istore4 rfl rfl ?_
  refine bg_aload0 rfl ?_
  refine bg_getfield rfl rfl c0 (by rfl) ?_
  refine bg_getfield rfl rfl m0 (by rfl) ?_
  refine bg_iload2 rfl ?_
  refine bg_iconst rfl ?_
  refine bg_virt2 rfl rfl rfl rfl (TB.o m4) ?_
  refine bt_get m4 rfl (by decide) (bk_Ki ?_)
  refine bg_istore5 rfl rfl ?_
  refine bg_aload0 rfl ?_
  refine bg_getfield rfl rfl c0 (by rfl) ?_
  refine bg_getfield rfl rfl m0 (by rfl) ?_
  refine bg_iload2 rfl ?_
  refine bg_iconst rfl ?_
  refine bg_virt2 rfl rfl rfl rfl (TB.o m4) ?_
  refine bt_get m4 rfl (by decide) (bk_Ki ?_)
  refine bg_istore6 rfl rfl ?_
  refine bg_aload0 rfl ?_
  refine bg_getfield rfl rfl c0 (by rfl) ?_
  refine bg_getfield rfl rfl m0 (by rfl) ?_
  refine bg_iload2 rfl ?_
  refine bg_virt1 rfl rfl rfl rfl (TB.o m4) ?_
  refine bt_remove m4 (fun hA kA gA => bk_Kv ?_)
  obtain ⟨hXA, gxA⟩ := hX.m3 kA gA
  obtain ⟨⟨l0, l1, l2, l3, l4, l5⟩, ⟨m0, m1, m2, m3, m4, m5⟩, ⟨c0, cb, cf⟩, hlo, hmo⟩ := id hXA
  refine bg_aload0 rfl ?_
  refine bg_getfield rfl rfl c0 (by rfl) ?_
  refine bg_getfield rfl rfl m0 (by rfl) ?_
  refine bg_virt0 rfl rfl rfl rfl (TB.o m5) ?_
  refine bt_add m5 (fun q => absurd (Nat.lt_of_not_le hl) q) (fun _ hB kB gB => bk_Ki ?_)
  obtain ⟨hXB, gxB⟩ := hXA.m4 kB gB
  obtain ⟨⟨l0, l1, l2, l3, l4, l5⟩, ⟨m0, m1, m2, m3, m4, m5⟩, ⟨c0, cb, cf⟩, hlo, hmo⟩ := id hXB
  have hl30 : (S.2 4).length < 30 := Nat.lt_of_not_le hl
  refine bg_istore7 rfl rfl ?_
  refine bg_aload0 rfl ?_
  refine bg_getfield rfl rfl c0 (by rfl) ?_
  refine bg_getfield rfl rfl m0 (by rfl) ?_
  refine bg_iload7 rfl ?_
  refine bg_iconst rfl ?_
  refine bg_iload1 rfl ?_
  refine bg_virt3 rfl rfl rfl rfl (TB.o m5) ?_
  refine bt_set m5 rfl (by decide) (fun hC kC gC => bk_Kv ?_)
  simp only [uT_s] at kC
  change TB hC _ _ _ (rS (S.2 4 ++ [List.replicate 2 0]) (nI (S.2 4).length) 0 g) at kC
  rw [rS_last (by omega)] at kC
  obtain ⟨hXC, gxC⟩ := hXB.m4 kC gC
  obtain ⟨⟨l0, l1, l2, l3, l4, l5⟩, ⟨m0, m1, m2, m3, m4, m5⟩, ⟨c0, cb, cf⟩, hlo, hmo⟩ := id hXC
  refine bg_aload0 rfl ?_
  refine bg_getfield rfl rfl c0 (by rfl) ?_
  refine bg_getfield rfl rfl m0 (by rfl) ?_
  refine bg_iload7 rfl ?_
  refine bg_iconst rfl ?_
  refine bg_iconst rfl ?_
  refine bg_iload4 rfl ?_
  refine bg_iload3 rfl ?_
  refine bg_iconst rfl ?_
  refine bg_iadd rfl ?_
  refine bg_imul rfl ?_
  refine bg_iload5 rfl ?_
  refine bg_iload3 rfl ?_
  refine bg_imul rfl ?_
  refine bg_isub rfl ?_
  refine bg_iconst rfl ?_
  refine bg_iload6 rfl ?_
  refine bg_imul rfl ?_
  refine bg_isub rfl ?_
  refine bg_max rfl rfl rfl ?_
  refine bg_virt3 rfl rfl rfl rfl (TB.o m5) ?_
  refine bt_set m5 rfl (by decide) (fun hD kD gD => bk_Kv ?_)
  simp only [uT_s] at kD
  change TB hD _ _ _ (rS (S.2 4 ++ [(List.replicate 2 0).set 0 g]) (nI (S.2 4).length) 1 (btyF P g (rG (S.2 3) x 1) (rG (S.2 3) x 3))) at kD
  rw [rS_last (by omega)] at kD
  obtain ⟨hXD, gxD⟩ := hXC.m4 kD gD
  obtain ⟨⟨l0, l1, l2, l3, l4, l5⟩, ⟨m0, m1, m2, m3, m4, m5⟩, ⟨c0, cb, cf⟩, hlo, hmo⟩ := id hXD
  refine bg_aload0 rfl ?_
  refine bg_getfield rfl rfl c0 (by rfl) ?_
  refine bg_dup rfl rfl ?_
  refine bg_getfield rfl rfl m0 (by rfl) ?_
  refine bg_iconst rfl ?_
  refine bg_iadd rfl ?_
  refine bg_putfield rfl rfl m0 (by rfl) ⟨rfl, rfl⟩ (by rfl) (fun h135 f135 g135 => ?_)
  obtain ⟨hXE, gxE⟩ := hXD.i5 f135 g135
  refine bg_ret rfl rfl ?_
  simp only [uT_uT] at hXE
  exact hQ _ hXE ((((gxA.trans gxB).trans gxC).trans gxD).trans gxE)
theorem bc_cutL (hW : WP P) : ∀ (c o : Nat) (h : bk_H), CX h a lo mo P (itN (cut1 P) o S) bs → (∀ h', CX h' a lo mo P (cutF P S) bs → fx h h' mo a → Q (.inl none) h' n) → o + c = (P 3).length → ∀ x2 x3, bk_g V (d + 3) 19 B Q 2 [some (.ref a), some (.int (nI o)), x2, x3] [] h n cs := by
  intro c
  induction c with
  | zero =>
    intro o h hX hQ ho x2 x3
    obtain ⟨⟨l0, l1, l2, l3, l4, l5⟩, ⟨m0, m1, m2, m3, m4, m5⟩, ⟨c0, cb, cf⟩, hlo, hmo⟩ := id hX
    have l44 := l4.2.2.1
    refine bg_iload1 rfl ?_
    refine bg_aload0 rfl ?_
    refine bg_getfield rfl rfl c0 (by rfl) ?_
    refine bg_getfield rfl rfl l0 (by rfl) ?_
    refine bg_virt0 rfl rfl rfl rfl (TB.o l4) ?_
    refine bt_size l4 (bk_Ki ?_)
    refine bg_icmp_ge rfl (fun e13 => ?_) (fun e13 => absurd e13 (nI_nlt (by omega) (by omega)))
    refine bg_ret rfl rfl ?_
    rw [show o = (P 3).length by omega] at hX
    exact hQ h hX fx.refl
  | succ c ih =>
    intro o h hX hQ ho x2 x3
    obtain ⟨⟨l0, l1, l2, l3, l4, l5⟩, ⟨m0, m1, m2, m3, m4, m5⟩, ⟨c0, cb, cf⟩, hlo, hmo⟩ := id hX
    have l44 := l4.2.2.1
    have kX := hX
    have gC : fx h h mo a := fx.refl
    refine bg_iload1 rfl ?_
    refine bg_aload0 rfl ?_
    refine bg_getfield rfl rfl c0 (by rfl) ?_
    refine bg_getfield rfl rfl l0 (by rfl) ?_
    refine bg_virt0 rfl rfl rfl rfl (TB.o l4) ?_
    refine bt_size l4 (bk_Ki ?_)
    refine bg_icmp_ge rfl (fun e13 => absurd (nI_lt (by omega) (by omega)) e13) (fun e13 => ?_)
    refine bg_aload0 rfl ?_
    refine bg_getfield rfl rfl c0 (by rfl) ?_
    refine bg_getfield rfl rfl l0 (by rfl) ?_
    refine bg_iload1 rfl ?_
    refine bg_iconst rfl ?_
    refine bg_virt2 rfl rfl rfl rfl (TB.o l4) ?_
    refine bt_get l4 rfl (by decide) (bk_Ki ?_)
    refine bg_bipush rfl ?_
    refine bg_icmp_ne rfl (fun e30 => ?_) (fun e30 => ?_)
    · have hno : cut1 P o (itN (cut1 P) o S) = itN (cut1 P) o S := if_neg (fun q => e30 q.1)
      refine bg_iinc1 rfl rfl ?_
      rw [nI_1]
      refine bg_goto rfl ?_
      refine ih (o + 1) _ (by rw [itN_s]; first | exact kX | (rw [hno]; exact kX)) (fun h' kx kg => hQ h' kx (gC.trans kg)) (by omega) _ _
    · refine bg_aload0 rfl ?_
      refine bg_getfield rfl rfl c0 (by rfl) ?_
      refine bg_getfield rfl rfl m0 (by rfl) ?_
      refine bg_virt0 rfl rfl rfl rfl (TB.o m5) ?_
      refine bt_isFull m5 (bk_Ki ?_)
      refine bg_ifne_b rfl (fun e43 => ?_) (fun e43 => ?_)
      · have hno : cut1 P o (itN (cut1 P) o S) = itN (cut1 P) o S := if_neg (fun q => q.2.1 e43)
        refine bg_iinc1 rfl rfl ?_
        rw [nI_1]
        refine bg_goto rfl ?_
        refine ih (o + 1) _ (by rw [itN_s]; first | exact kX | (rw [hno]; exact kX)) (fun h' kx kg => hQ h' kx (gC.trans kg)) (by omega) _ _
      · refine bg_aload0 rfl ?_
        refine bg_iload1 rfl ?_
        refine bg_iconst rfl ?_
        refine bg_bipush rfl ?_
        refine bg_virt3 rfl rfl rfl rfl ⟨_, by assumption⟩ ?_
        refine bc_reck hX rfl rfl (by decide) (by decide) (hW o (by omega)).1 (fun hA kX kg => bk_Ki ?_)
        have gC : fx h hA mo a := kg.fxa (by omega) (by omega)
        obtain ⟨⟨l0, l1, l2, l3, l4, l5⟩, ⟨m0, m1, m2, m3, m4, m5⟩, ⟨c0, cb, cf⟩, hlo, hmo⟩ := id kX
        refine bg_if_eq rfl (fun e54 => ?_) (fun e54 => ?_)
        · have hno : cut1 P o (itN (cut1 P) o S) = itN (cut1 P) o S := if_neg (fun q => q.2.2 e54)
          refine bg_iinc1 rfl rfl ?_
          rw [nI_1]
          refine bg_goto rfl ?_
          refine ih (o + 1) _ (by rw [itN_s]; first | exact kX | (rw [hno]; exact kX)) (fun h' kx kg => hQ h' kx (gC.trans kg)) (by omega) _ _
        · have hye : cut1 P o (itN (cut1 P) o S) = _ := if_pos ⟨e30, e43, e54⟩
          refine bg_aload0 rfl ?_
          refine bg_getfield rfl rfl c0 (by rfl) ?_
          refine bg_getfield rfl rfl l0 (by rfl) ?_
          refine bg_iload1 rfl ?_
          refine bg_iconst rfl ?_
          refine bg_virt2 rfl rfl rfl rfl (TB.o l4) ?_
          refine bt_get l4 rfl (by decide) (bk_Ki ?_)
          refine bg_istore2 rfl rfl ?_
          refine bg_aload0 rfl ?_
          refine bg_iload2 rfl ?_
          refine bg_aload0 rfl ?_
          refine bg_getfield rfl rfl c0 (by rfl) ?_
          refine bg_getfield rfl rfl l0 (by rfl) ?_
          refine bg_iload1 rfl ?_
          refine bg_iconst rfl ?_
          refine bg_virt2 rfl rfl rfl rfl (TB.o l4) ?_
          refine bt_get l4 rfl (by decide) (bk_Ki ?_)
          refine bg_virt2 rfl rfl rfl rfl ⟨_, c0⟩ ?_
          refine bc_sheetFor kX (bk_Ki ?_)
          refine bg_istore3 rfl rfl ?_
          refine bg_iload3 rfl ?_
          refine bg_if_lt rfl (fun e89 => ?_) (fun e89 => ?_)
          · have hno := hye.trans (if_pos e89)
            refine bg_iinc1 rfl rfl ?_
            rw [nI_1]
            refine bg_goto rfl ?_
            refine ih (o + 1) _ (by rw [itN_s]; first | exact kX | (rw [hno]; exact kX)) (fun h' kx kg => hQ h' kx (gC.trans kg)) (by omega) _ _
          · have hye := hye.trans (if_neg e89)
            refine bg_aload0 rfl ?_
            refine bg_iload2 rfl ?_
            refine bg_iload3 rfl ?_
            refine bg_virt2 rfl rfl rfl rfl ⟨_, c0⟩ ?_
            refine bc_cutOut kX e43 (fun hB kX kg => bk_Kv ?_)
            rw [← hye] at kX
            have gC := gC.trans kg
            refine bg_iinc1 rfl rfl ?_
            rw [nI_1]
            refine bg_goto rfl ?_
            refine ih (o + 1) _ (by rw [itN_s]; first | exact kX | (rw [hno]; exact kX)) (fun h' kx kg => hQ h' kx (gC.trans kg)) (by omega) _ _

theorem bc_cut (hX : CX h a lo mo P S bs) (hW : WP P) (hQ : ∀ h', CX h' a lo mo P (cutF P S) bs → fx h h' mo a → Q (.inl none) h' n) : bk_wp V (d + 4) 19 [.ref a] h n B Q := by
  refine bg_in rfl rfl ?_
  refine bg_iconst rfl ?_
  refine bg_istore1 rfl rfl ?_
  exact bc_cutL hW (P 3).length 0 h hX hQ (by omega) _ _
theorem bc_drL (hX : CX h a lo mo P S bs) (hQ : Q (.inl (some (.int (nI (dear P (S.2 4)))))) h n) : ∀ (c i q : Nat), 1 ≤ i → i + c = max 1 (S.2 4).length → dear P (S.2 4) = drL P (S.2 4) c i q → bk_g V (d + 2) 23 B Q 4 [some (.ref a), some (.int (nI q)), some (.int (nI i))] [] h n cs := by
  obtain ⟨⟨l0, l1, l2, l3, l4, l5⟩, ⟨m0, m1, m2, m3, m4, m5⟩, ⟨c0, cb, cf⟩, hlo, hmo⟩ := id hX
  have m55 := m5.2.2.1
  intro c
  induction c with
  | zero =>
    intro i q h1i hi he
    refine bg_iload2 rfl ?_
    refine bg_aload0 rfl ?_
    refine bg_getfield rfl rfl c0 (by rfl) ?_
    refine bg_getfield rfl rfl m0 (by rfl) ?_
    refine bg_virt0 rfl rfl rfl rfl (TB.o m5) ?_
    refine bt_size m5 (bk_Ki ?_)
    refine bg_icmp_ge rfl (fun e15 => ?_) (fun e15 => absurd e15 (nI_nlt (by omega) (by omega)))
    refine bg_iload1 rfl ?_
    refine bg_iret rfl rfl (by rfl) ?_
    rw [he] at hQ
    exact hQ
  | succ c ih =>
    intro i q h1i hi he
    refine bg_iload2 rfl ?_
    refine bg_aload0 rfl ?_
    refine bg_getfield rfl rfl c0 (by rfl) ?_
    refine bg_getfield rfl rfl m0 (by rfl) ?_
    refine bg_virt0 rfl rfl rfl rfl (TB.o m5) ?_
    refine bt_size m5 (bk_Ki ?_)
    refine bg_icmp_ge rfl (fun e15 => absurd (nI_lt (by omega) (by omega)) e15) (fun e15 => ?_)
    refine bg_aload0 rfl ?_
    refine bg_iload2 rfl ?_
    refine bg_virt1 rfl rfl rfl rfl ⟨_, c0⟩ ?_
    refine bc_paid hX (bk_Ki ?_)
    refine bg_aload0 rfl ?_
    refine bg_iload1 rfl ?_
    refine bg_virt1 rfl rfl rfl rfl ⟨_, c0⟩ ?_
    refine bc_paid hX (bk_Ki ?_)
    refine bg_icmp_le rfl (fun e28 => ?_) (fun e28 => ?_)
    · have hst : drL P (S.2 4) (c + 1) i q = drL P (S.2 4) c (i + 1) q := congrArg (drL P (S.2 4) c (i + 1)) (if_neg e28)
      refine bg_iinc2 rfl rfl ?_
      rw [nI_1]
      refine bg_goto rfl ?_
      exact ih (i + 1) _ (by omega) (by omega) (he.trans hst)
    · have hst : drL P (S.2 4) (c + 1) i q = drL P (S.2 4) c (i + 1) i := congrArg (drL P (S.2 4) c (i + 1)) (if_pos e28)
      refine bg_iload2 rfl ?_
      refine bg_istore1 rfl rfl ?_
      refine bg_iinc2 rfl rfl ?_
      rw [nI_1]
      refine bg_goto rfl ?_
      exact ih (i + 1) _ (by omega) (by omega) (he.trans hst)

theorem bc_dear (hX : CX h a lo mo P S bs) (hQ : Q (.inl (some (.int (nI (dear P (S.2 4)))))) h n) : bk_wp V (d + 3) 23 [.ref a] h n B Q := by
  refine bg_in rfl rfl ?_
  refine bg_iconst rfl ?_
  refine bg_istore1 rfl rfl ?_
  refine bg_iconst rfl ?_
  refine bg_istore2 rfl rfl ?_
  exact bc_drL hX hQ ((S.2 4).length - 1) 1 0 (by omega) (by omega) rfl
theorem bc_sellL : ∀ (c i : Nat) (S : bS) (h : bk_H), CX h a lo mo P S bs → (∀ h', CX h' a lo mo P (sellL P c S) bs → fx h h' mo a → Q (.inl none) h' n) → i + c = (S.1 2).toNatClampNeg → ∀ x2 x3, bk_g V (d + 3) 22 B Q 2 [some (.ref a), some (.int (nI i)), x2, x3] [] h n cs := by
  intro c
  induction c with
  | zero =>
    intro i S h hX hQ hi x2 x3
    obtain ⟨⟨l0, l1, l2, l3, l4, l5⟩, ⟨m0, m1, m2, m3, m4, m5⟩, ⟨c0, cb, cf⟩, hlo, hmo⟩ := id hX
    have hc : (S.1 2).toNatClampNeg < 2 ^ 31 := bt_clamp
    refine bg_iload1 rfl ?_
    refine bg_aload0 rfl ?_
    refine bg_getfield rfl rfl c0 (by rfl) ?_
    refine bg_getfield rfl rfl m0 (by rfl) ?_
    refine bg_icmp_ge rfl (fun e10 => ?_) (fun e10 => absurd ((nI_ltc (by omega)).mp e10) (by omega))
    refine bg_ret rfl rfl ?_
    exact hQ h hX fx.refl
  | succ c ih =>
    intro i S h hX hQ hi x2 x3
    obtain ⟨⟨l0, l1, l2, l3, l4, l5⟩, ⟨m0, m1, m2, m3, m4, m5⟩, ⟨c0, cb, cf⟩, hlo, hmo⟩ := id hX
    have hc : (S.1 2).toNatClampNeg < 2 ^ 31 := bt_clamp
    have m55 := m5.2.2.1
    refine bg_iload1 rfl ?_
    refine bg_aload0 rfl ?_
    refine bg_getfield rfl rfl c0 (by rfl) ?_
    refine bg_getfield rfl rfl m0 (by rfl) ?_
    refine bg_icmp_ge rfl (fun e10 => absurd ((nI_ltc (by omega)).mpr (by omega)) e10) (fun e10 => ?_)
    refine bg_aload0 rfl ?_
    refine bg_getfield rfl rfl c0 (by rfl) ?_
    refine bg_getfield rfl rfl m0 (by rfl) ?_
    refine bg_virt0 rfl rfl rfl rfl (TB.o m5) ?_
    refine bt_size m5 (bk_Ki ?_)
    refine bg_if_le rfl (fun e23 => ?_) (fun e23 => ?_)
    · have e0 : sellL P (c + 1) S = S := if_pos (Decidable.byContradiction fun q => e23 (nI_lt (a := 0) (by omega) (by omega)))
      rw [e0] at hQ
      refine bg_ret rfl rfl ?_
      exact hQ h hX fx.refl
    · have e0 : sellL P (c + 1) S = sellL P c (sell1 P S) := if_neg (fun q => by rw [q] at e23; exact absurd e23 (by decide))
      rw [e0] at hQ
      refine bg_aload0 rfl ?_
      refine bg_virt0 rfl rfl rfl rfl ⟨_, c0⟩ ?_
      refine bc_dear hX (bk_Ki ?_)
      refine bg_istore2 rfl rfl ?_
      refine bg_aload0 rfl ?_
      refine bg_getfield rfl rfl c0 (by rfl) ?_
      refine bg_getfield rfl rfl m0 (by rfl) ?_
      refine bg_iload2 rfl ?_
      refine bg_iconst rfl ?_
      refine bg_virt2 rfl rfl rfl rfl (TB.o m5) ?_
      refine bt_get m5 rfl (by decide) (bk_Ki ?_)
      refine bg_istore3 rfl rfl ?_
      refine bg_aload0 rfl ?_
      refine bg_getfield rfl rfl c0 (by rfl) ?_
      refine bg_dup rfl rfl ?_
      refine bg_getfield rfl rfl m0 (by rfl) ?_
      refine bg_aload0 rfl ?_
      refine bg_iload2 rfl ?_
      refine bg_virt1 rfl rfl rfl rfl ⟨_, c0⟩ ?_
      refine bc_paid hX (bk_Ki ?_)
      refine bg_iadd rfl ?_
      refine bg_putfield rfl rfl m0 (by rfl) ⟨rfl, rfl⟩ (by rfl) (fun h58 f58 g58 => ?_)
      obtain ⟨hXA, gxA⟩ := hX.i3 f58 g58
      obtain ⟨⟨l0, l1, l2, l3, l4, l5⟩, ⟨m0, m1, m2, m3, m4, m5⟩, ⟨c0, cb, cf⟩, hlo, hmo⟩ := id hXA
      refine bg_aload0 rfl ?_
      refine bg_getfield rfl rfl c0 (by rfl) ?_
      refine bg_dup rfl rfl ?_
      refine bg_getfield rfl rfl m0 (by rfl) ?_
      refine bg_iconst rfl ?_
      refine bg_iadd rfl ?_
      refine bg_putfield rfl rfl m0 (by rfl) ⟨rfl, rfl⟩ (by rfl) (fun h71 f71 g71 => ?_)
      obtain ⟨hXB, gxB⟩ := hXA.i6 f71 g71
      obtain ⟨⟨l0, l1, l2, l3, l4, l5⟩, ⟨m0, m1, m2, m3, m4, m5⟩, ⟨c0, cb, cf⟩, hlo, hmo⟩ := id hXB
      refine bg_aload0 rfl ?_
      refine bg_getfield rfl rfl c0 (by rfl) ?_
      refine bg_getfield rfl rfl m0 (by rfl) ?_
      refine bg_iload3 rfl ?_
      refine bg_iconst rfl ?_
      refine bg_aload0 rfl ?_
      refine bg_getfield rfl rfl c0 (by rfl) ?_
      refine bg_getfield rfl rfl m0 (by rfl) ?_
      refine bg_iload3 rfl ?_
      refine bg_iconst rfl ?_
      refine bg_virt2 rfl rfl rfl rfl (TB.o m3) ?_
      refine bt_get m3 rfl (by decide) (bk_Ki ?_)
      refine bg_iconst rfl ?_
      refine bg_iadd rfl ?_
      refine bg_virt3 rfl rfl rfl rfl (TB.o m3) ?_
      refine bt_set m3 rfl (by decide) (fun hC kC gC => bk_Kv ?_)
      obtain ⟨hXC, gxC⟩ := hXB.m2 kC gC
      obtain ⟨⟨l0, l1, l2, l3, l4, l5⟩, ⟨m0, m1, m2, m3, m4, m5⟩, ⟨c0, cb, cf⟩, hlo, hmo⟩ := id hXC
      refine bg_aload0 rfl ?_
      refine bg_getfield rfl rfl c0 (by rfl) ?_
      refine bg_getfield rfl rfl m0 (by rfl) ?_
      refine bg_iload2 rfl ?_
      refine bg_virt1 rfl rfl rfl rfl (TB.o m5) ?_
      refine bt_remove m5 (fun hD kD gD => bk_Kv ?_)
      obtain ⟨hXD, gxD⟩ := hXC.m4 kD gD
      refine bg_iinc1 rfl rfl ?_
      rw [nI_1]
      refine bg_goto rfl ?_
      exact ih (i + 1) (sell1 P S) hD hXD (fun h' kx kg => hQ h' kx ((((gxA.trans gxB).trans gxC).trans gxD).trans kg)) (by show i + 1 + c = (S.1 2).toNatClampNeg; omega) _ _

theorem bc_sell (hX : CX h a lo mo P S bs) (hQ : ∀ h', CX h' a lo mo P (sellL P (S.1 2).toNatClampNeg S) bs → fx h h' mo a → Q (.inl none) h' n) : bk_wp V (d + 4) 22 [.ref a] h n B Q := by
  refine bg_in rfl rfl ?_
  refine bg_iconst rfl ?_
  refine bg_istore1 rfl rfl ?_
  exact bc_sellL (S.1 2).toNatClampNeg 0 S h hX hQ (by omega) _ _
theorem bc_beatsL {S0 : bS} : ∀ (c k : Nat) (h : bk_H), CX h a lo mo P (itN (fun k => beatF P (bsF P S0 (P 1).length) (nI k)) k S0) (bsF P S0 (P 1).length) → ∀ x1 x2, (∀ h', CX h' a lo mo P (beatA P S0) (bsF P S0 (P 1).length) → fx h h' mo a → ∀ x3, bk_g V (d + 5) 10 B Q 42 [some (.ref a), x1, some (.int x2), x3] [] h' n cs) → k + c = (P 0).length → bk_g V (d + 5) 10 B Q 17 [some (.ref a), x1, some (.int x2), some (.int (nI k))] [] h n cs := by
  intro c
  induction c with
  | zero =>
    intro k h hX x1 x2 hQ hk
    obtain ⟨⟨l0, l1, l2, l3, l4, l5⟩, ⟨m0, m1, m2, m3, m4, m5⟩, ⟨c0, cb, cf⟩, hlo, hmo⟩ := id hX
    have l11 := l1.2.2.1
    refine bg_iload3 rfl ?_
    refine bg_aload0 rfl ?_
    refine bg_getfield rfl rfl c0 (by rfl) ?_
    refine bg_getfield rfl rfl l0 (by rfl) ?_
    refine bg_virt0 rfl rfl rfl rfl (TB.o l1) ?_
    refine bt_size l1 (bk_Ki ?_)
    refine bg_icmp_ge rfl (fun e28 => ?_) (fun e28 => absurd e28 (nI_nlt (by omega) (by omega)))
    rw [show k = (P 0).length by omega] at hX
    exact hQ h hX fx.refl _
  | succ c ih =>
    intro k h hX x1 x2 hQ hk
    obtain ⟨⟨l0, l1, l2, l3, l4, l5⟩, ⟨m0, m1, m2, m3, m4, m5⟩, ⟨c0, cb, cf⟩, hlo, hmo⟩ := id hX
    have l11 := l1.2.2.1
    refine bg_iload3 rfl ?_
    refine bg_aload0 rfl ?_
    refine bg_getfield rfl rfl c0 (by rfl) ?_
    refine bg_getfield rfl rfl l0 (by rfl) ?_
    refine bg_virt0 rfl rfl rfl rfl (TB.o l1) ?_
    refine bt_size l1 (bk_Ki ?_)
    refine bg_icmp_ge rfl (fun e28 => absurd (nI_lt (by omega) (by omega)) e28) (fun e28 => ?_)
    refine bg_aload0 rfl ?_
    refine bg_iload3 rfl ?_
    refine bg_virt1 rfl rfl rfl rfl ⟨_, c0⟩ ?_
    refine bc_beat hX (fun hA kA gA => bk_Kv ?_)
    refine bg_iinc3 rfl rfl ?_
    rw [nI_1]
    refine bg_goto rfl ?_
    exact ih (k + 1) hA kA _ _ (fun h' kx kg => hQ h' kx (gA.trans kg)) (by omega)

theorem bc_goL (hW : WP P) {N : Nat} (hN : N < 2 ^ 31) : ∀ (c k : Nat) (h : bk_H) (bs : bT), CX h a lo mo P (itN (fun _ => hourF P) k S) bs → (∀ h' bs', CX h' a lo mo P (goF P N S) bs' → fx h h' mo a → Q (.inl none) h' n) → k + c = N → ∀ x3, bk_g V (d + 5) 10 B Q 2 [some (.ref a), some (.int (nI N)), some (.int (nI k)), x3] [] h n cs := by
  intro c
  induction c with
  | zero =>
    intro k h bs hX hQ hk x3
    refine bg_iload2 rfl ?_
    refine bg_iload1 rfl ?_
    refine bg_icmp_ge rfl (fun e4 => ?_) (fun e4 => absurd e4 (nI_nlt (by omega) (by omega)))
    refine bg_ret rfl rfl ?_
    rw [show k = N by omega] at hX
    exact hQ h bs hX fx.refl
  | succ c ih =>
    intro k h bs hX hQ hk x3
    obtain ⟨⟨l0, l1, l2, l3, l4, l5⟩, ⟨m0, m1, m2, m3, m4, m5⟩, ⟨c0, cb, cf⟩, hlo, hmo⟩ := id hX
    generalize hS0 : itN (fun _ => hourF P) k S = S0 at hX m0 m1 m2 m3 m4 m5
    refine bg_iload2 rfl ?_
    refine bg_iload1 rfl ?_
    refine bg_icmp_ge rfl (fun e4 => absurd (nI_lt (by omega) (by omega)) e4) (fun e4 => ?_)
    refine bg_aload0 rfl ?_
    refine bg_virt0 rfl rfl rfl rfl ⟨_, c0⟩ ?_
    refine bc_soak hX hW (fun hA hXA gA => bk_Kv ?_)
    obtain ⟨⟨l0, l1, l2, l3, l4, l5⟩, ⟨m0, m1, m2, m3, m4, m5⟩, ⟨c0, cb, cf⟩, hlo, hmo⟩ := id hXA
    refine bg_aload0 rfl ?_
    refine bg_virt0 rfl rfl rfl rfl ⟨_, c0⟩ ?_
    refine bc_cho hXA hW (fun hB hXB gB => bk_Kv ?_)
    refine bg_iconst rfl ?_
    refine bg_istore3 rfl rfl ?_
    refine bc_beatsL (S0 := soakF P S0) (P 0).length 0 hB hXB _ _ (fun hC hXC gC x3 => ?_) (by omega)
    have gx := ((gA.trans gB).trans gC)
    obtain ⟨⟨l0, l1, l2, l3, l4, l5⟩, ⟨m0, m1, m2, m3, m4, m5⟩, ⟨c0, cb, cf⟩, hlo, hmo⟩ := id hXC
    refine bg_aload0 rfl ?_
    refine bg_virt0 rfl rfl rfl rfl ⟨_, c0⟩ ?_
    refine bc_dry hXC (fun hD hXD gD => bk_Kv ?_)
    obtain ⟨⟨l0, l1, l2, l3, l4, l5⟩, ⟨m0, m1, m2, m3, m4, m5⟩, ⟨c0, cb, cf⟩, hlo, hmo⟩ := id hXD
    refine bg_aload0 rfl ?_
    refine bg_virt0 rfl rfl rfl rfl ⟨_, c0⟩ ?_
    refine bc_cut hXD hW (fun hE hXE gE => bk_Kv ?_)
    obtain ⟨⟨l0, l1, l2, l3, l4, l5⟩, ⟨m0, m1, m2, m3, m4, m5⟩, ⟨c0, cb, cf⟩, hlo, hmo⟩ := id hXE
    refine bg_aload0 rfl ?_
    refine bg_getfield rfl rfl c0 (by rfl) ?_
    refine bg_getfield rfl rfl m0 (by rfl) ?_
    refine bg_bipush rfl ?_
    refine bg_irem rfl (by decide) ?_
    refine bg_bipush rfl ?_
    refine bg_icmp_ne rfl (fun e62 => ?_) (fun e62 => ?_)
    · have hX6 : CX hE a lo mo P (endF P (cutF P (dryF (beatA P (soakF P S0))))) (bsF P (soakF P S0) (P 1).length) := by
        unfold endF
        rw [if_neg e62]
        exact hXE
      have gE9 := (gD.trans gE)
      have m0 := hX6.2.1.1
      refine bg_aload0 rfl ?_
      refine bg_getfield rfl rfl c0 (by rfl) ?_
      refine bg_dup rfl rfl ?_
      refine bg_getfield rfl rfl m0 (by rfl) ?_
      refine bg_iconst rfl ?_
      refine bg_iadd rfl ?_
      refine bg_putfield rfl rfl m0 (by rfl) ⟨rfl, rfl⟩ (by rfl) (fun h79 f79 g79 => ?_)
      obtain ⟨hXF, gxF⟩ := hX6.i0 f79 g79
      refine bg_iinc2 rfl rfl ?_
      rw [nI_1]
      refine bg_goto rfl ?_
      refine ih (k + 1) _ (bsF P (soakF P S0) (P 1).length) ?_ (fun h' bs' kx kg => hQ h' bs' kx (((gx.trans gE9).trans gxF).trans kg)) (by omega) _
      rw [itN_s, hS0]
      exact hXF
    · have h7 : endF P (cutF P (dryF (beatA P (soakF P S0)))) = _ := if_pos e62
      refine bg_aload0 rfl ?_
      refine bg_virt0 rfl rfl rfl rfl ⟨_, c0⟩ ?_
      refine bc_sell hXE (fun hG hX6 gG => bk_Kv ?_)
      rw [← h7] at hX6
      have gE9 := ((gD.trans gE).trans gG)
      obtain ⟨⟨l0, l1, l2, l3, l4, l5⟩, ⟨m0, m1, m2, m3, m4, m5⟩, ⟨c0, cb, cf⟩, hlo, hmo⟩ := id hX6
      refine bg_aload0 rfl ?_
      refine bg_getfield rfl rfl c0 (by rfl) ?_
      refine bg_dup rfl rfl ?_
      refine bg_getfield rfl rfl m0 (by rfl) ?_
      refine bg_iconst rfl ?_
      refine bg_iadd rfl ?_
      refine bg_putfield rfl rfl m0 (by rfl) ⟨rfl, rfl⟩ (by rfl) (fun h79 f79 g79 => ?_)
      obtain ⟨hXF, gxF⟩ := hX6.i0 f79 g79
      refine bg_iinc2 rfl rfl ?_
      rw [nI_1]
      refine bg_goto rfl ?_
      refine ih (k + 1) _ (bsF P (soakF P S0) (P 1).length) ?_ (fun h' bs' kx kg => hQ h' bs' kx (((gx.trans gE9).trans gxF).trans kg)) (by omega) _
      rw [itN_s, hS0]
      exact hXF

theorem bc_go {N : Nat} {x : Int32} (hx : x = nI N) (hN : N < 2 ^ 31) (hX : CX h a lo mo P S bs) (hW : WP P) (hQ : ∀ h' bs', CX h' a lo mo P (goF P N S) bs' → fx h h' mo a → Q (.inl none) h' n) : bk_wp V (d + 6) 10 [.ref a, .int x] h n B Q := by
  subst hx
  refine bg_in rfl rfl ?_
  refine bg_iconst rfl ?_
  refine bg_istore2 rfl rfl ?_
  exact bc_goL hW hN N 0 h bs hX hQ (by omega) _
end BC
