/-! THE HOURS, on: the other methods of Course. Printed by wip/whole/mk24.py. -/
section BC
variable {V : bk_V} {d n : Nat} {B : Nat × Nat} {Q : bk_R → bk_H → Nat → Prop} {h : bk_H} {a lo mo : Nat} {P : Nat → bT} {S : bS} {bs : bT} {cs : Nat × Nat}
theorem bc_paid {x : Int32} (hX : CX h a lo mo P S bs) (hQ : Q (.inl (some (.int (paid P (S.2 4) x)))) h n) : bk_wp V (d + 2) 24 [.ref a, .int x] h n B Q := by
  obtain ⟨⟨l0, l1, l2, l3, l4, l5⟩, ⟨m0, m1, m2, m3, m4, m5⟩, ⟨c0, cb, cf⟩, hlo, hmo⟩ := id hX
  refine bg_in rfl rfl ?_
  refine bg_aload0 rfl ?_
  refine bg_getfield rfl rfl c0 (by rfl) ?_
  refine bg_getfield rfl rfl m0 (by rfl) ?_
  refine bg_iload1 rfl ?_
  refine bg_iconst rfl ?_
  refine bg_virt2 rfl rfl rfl rfl (TB.o m5) ?_
  refine bt_get m5 rfl (by decide) (bk_Ki ?_)
  refine bg_istore2 rfl rfl ?_
  refine bg_aload0 rfl ?_
  refine bg_getfield rfl rfl c0 (by rfl) ?_
  refine bg_getfield rfl rfl l0 (by rfl) ?_
  refine bg_iload2 rfl ?_
  refine bg_iconst rfl ?_
  refine bg_virt2 rfl rfl rfl rfl (TB.o l3) ?_
  refine bt_get l3 rfl (by decide) (bk_Ki ?_)
  refine bg_aload0 rfl ?_
  refine bg_getfield rfl rfl c0 (by rfl) ?_
  refine bg_getfield rfl rfl m0 (by rfl) ?_
  refine bg_iload1 rfl ?_
  refine bg_iconst rfl ?_
  refine bg_virt2 rfl rfl rfl rfl (TB.o m5) ?_
  refine bt_get m5 rfl (by decide) (bk_Ki ?_)
  refine bg_iconst rfl ?_
  refine bg_idiv rfl (by decide) ?_
  refine bg_iadd rfl ?_
  refine bg_iret rfl rfl (by rfl) ?_
  exact hQ
theorem bc_htb {x : Int32} (hX : CX h a lo mo P S bs) (hQ : Q (.inl (some (.int (htb S x)))) h n) : bk_wp V (d + 2) 13 [.ref a, .int x] h n B Q := by
  obtain ⟨⟨l0, l1, l2, l3, l4, l5⟩, ⟨m0, m1, m2, m3, m4, m5⟩, ⟨c0, cb, cf⟩, hlo, hmo⟩ := id hX
  unfold htb gone at hQ
  refine bg_in rfl rfl ?_
  refine bg_aload0 rfl ?_
  refine bg_getfield rfl rfl c0 (by rfl) ?_
  refine bg_getfield rfl rfl m0 (by rfl) ?_
  refine bg_iload1 rfl ?_
  refine bg_iconst rfl ?_
  refine bg_virt2 rfl rfl rfl rfl (TB.o m2) ?_
  refine bt_get m2 rfl (by decide) (bk_Ki ?_)
  refine bg_istore2 rfl rfl ?_
  refine bg_iload2 rfl ?_
  refine bg_if_le rfl (fun e14 => ?_) (fun e14 => ?_)
  · rw [if_neg e14] at hQ
    refine bg_iconst rfl ?_
    refine bg_istore3 rfl rfl ?_
    refine bg_iload3 rfl ?_
    refine bg_if_ne rfl (fun e32 => ?_) (fun e32 => ?_)
    · rw [if_neg e32] at hQ
      refine bg_iload2 rfl ?_
      refine bg_iload3 rfl ?_
      refine bg_isub rfl ?_
      refine bg_iret rfl rfl (by rfl) ?_
      exact hQ
    · rw [if_pos e32] at hQ
      refine bg_iconst rfl ?_
      refine bg_goto rfl ?_
      refine bg_iret rfl rfl (by rfl) ?_
      exact hQ
  · rw [if_pos e14] at hQ
    have e14q : ¬ rG (S.2 1) x 0 = 0 := fun q => by
      rw [q] at e14
      exact absurd e14 (by decide)
    refine bg_aload0 rfl ?_
    refine bg_getfield rfl rfl c0 (by rfl) ?_
    refine bg_getfield rfl rfl m0 (by rfl) ?_
    refine bg_iload2 rfl ?_
    refine bg_irem rfl (fun q => e14q q) ?_
    refine bg_goto rfl ?_
    refine bg_istore3 rfl rfl ?_
    refine bg_iload3 rfl ?_
    refine bg_if_ne rfl (fun e32 => ?_) (fun e32 => ?_)
    · rw [if_neg e32] at hQ
      refine bg_iload2 rfl ?_
      refine bg_iload3 rfl ?_
      refine bg_isub rfl ?_
      refine bg_iret rfl rfl (by rfl) ?_
      exact hQ
    · rw [if_pos e32] at hQ
      refine bg_iconst rfl ?_
      refine bg_goto rfl ?_
      refine bg_iret rfl rfl (by rfl) ?_
      exact hQ
theorem bc_boardL {x : Int32} (hW : WP P) : ∀ (c o : Nat) (h : bk_H), CX h a lo mo P S bs → (∀ h', CX h' a lo mo P S bs → fr h h' (a + 3) (a + 4) → Q (.inl (some (.int (brL P S x c o)))) h' n) → o + c = (P 3).length → bk_g V (d + 3) 14 B Q 23 [some (.ref a), some (.int x), some (.int (nI o))] [] h n cs := by
  intro c
  induction c with
  | zero =>
    intro o h hX hQ ho
    obtain ⟨⟨l0, l1, l2, l3, l4, l5⟩, ⟨m0, m1, m2, m3, m4, m5⟩, ⟨c0, cb, cf⟩, hlo, hmo⟩ := id hX
    have l44 := l4.2.2.1
    refine bg_iload2 rfl ?_
    refine bg_aload0 rfl ?_
    refine bg_getfield rfl rfl c0 (by rfl) ?_
    refine bg_getfield rfl rfl l0 (by rfl) ?_
    refine bg_virt0 rfl rfl rfl rfl (TB.o l4) ?_
    refine bt_size l4 (bk_Ki ?_)
    refine bg_icmp_ge rfl (fun e34 => ?_) (fun e34 => absurd e34 (nI_nlt (by omega) (by omega)))
    refine bg_iconst rfl ?_
    refine bg_iret rfl rfl (by rfl) ?_
    exact hQ h hX fr.refl
  | succ c ih =>
    intro o h hX hQ ho
    obtain ⟨⟨l0, l1, l2, l3, l4, l5⟩, ⟨m0, m1, m2, m3, m4, m5⟩, ⟨c0, cb, cf⟩, hlo, hmo⟩ := id hX
    have l44 := l4.2.2.1
    have kX := hX
    have gC : fr h h (a + 3) (a + 4) := fr.refl
    refine bg_iload2 rfl ?_
    refine bg_aload0 rfl ?_
    refine bg_getfield rfl rfl c0 (by rfl) ?_
    refine bg_getfield rfl rfl l0 (by rfl) ?_
    refine bg_virt0 rfl rfl rfl rfl (TB.o l4) ?_
    refine bt_size l4 (bk_Ki ?_)
    refine bg_icmp_ge rfl (fun e34 => absurd (nI_lt (by omega) (by omega)) e34) (fun e34 => ?_)
    refine bg_aload0 rfl ?_
    refine bg_getfield rfl rfl c0 (by rfl) ?_
    refine bg_getfield rfl rfl l0 (by rfl) ?_
    refine bg_iload2 rfl ?_
    refine bg_iconst rfl ?_
    refine bg_virt2 rfl rfl rfl rfl (TB.o l4) ?_
    refine bt_get l4 rfl (by decide) (bk_Ki ?_)
    refine bg_bipush rfl ?_
    refine bg_icmp_ne rfl (fun e51 => ?_) (fun e51 => ?_)
    · have hno : brL P S x (c + 1) o = brL P S x c (o + 1) := if_neg (fun q => e51 q.1)
      refine bg_iinc2 rfl rfl ?_
      rw [nI_1]
      refine bg_goto rfl ?_
      exact ih (o + 1) _ kX (fun h' kx kg => by
        have := hQ h' kx ((fr.trans gC kg))
        rw [hno] at this
        exact this) (by omega)
    · refine bg_aload0 rfl ?_
      refine bg_getfield rfl rfl c0 (by rfl) ?_
      refine bg_getfield rfl rfl l0 (by rfl) ?_
      refine bg_iload2 rfl ?_
      refine bg_iconst rfl ?_
      refine bg_virt2 rfl rfl rfl rfl (TB.o l4) ?_
      refine bt_get l4 rfl (by decide) (bk_Ki ?_)
      refine bg_iload1 rfl ?_
      refine bg_icmp_ne rfl (fun e67 => ?_) (fun e67 => ?_)
      · have hno : brL P S x (c + 1) o = brL P S x c (o + 1) := if_neg (fun q => e67 q.2.1)
        refine bg_iinc2 rfl rfl ?_
        rw [nI_1]
        refine bg_goto rfl ?_
        exact ih (o + 1) _ kX (fun h' kx kg => by
          have := hQ h' kx ((fr.trans gC kg))
          rw [hno] at this
          exact this) (by omega)
      · refine bg_aload0 rfl ?_
        refine bg_iload2 rfl ?_
        refine bg_iconst rfl ?_
        refine bg_bipush rfl ?_
        refine bg_virt3 rfl rfl rfl rfl ⟨_, by assumption⟩ ?_
        refine bc_reck hX rfl rfl (by decide) (by decide) (hW o (by omega)).1 (fun hA kX gC => bk_Ki ?_)
        obtain ⟨⟨l0, l1, l2, l3, l4, l5⟩, ⟨m0, m1, m2, m3, m4, m5⟩, ⟨c0, cb, cf⟩, hlo, hmo⟩ := id kX
        refine bg_if_eq rfl (fun e78 => ?_) (fun e78 => ?_)
        · have hno : brL P S x (c + 1) o = brL P S x c (o + 1) := if_neg (fun q => q.2.2 e78)
          refine bg_iinc2 rfl rfl ?_
          rw [nI_1]
          refine bg_goto rfl ?_
          exact ih (o + 1) _ kX (fun h' kx kg => by
            have := hQ h' kx ((fr.trans gC kg))
            rw [hno] at this
            exact this) (by omega)
        · have hye : brL P S x (c + 1) o = rG (P 3) (nI o) 2 := if_pos ⟨e51, e67, e78⟩
          refine bg_aload0 rfl ?_
          refine bg_getfield rfl rfl c0 (by rfl) ?_
          refine bg_getfield rfl rfl l0 (by rfl) ?_
          refine bg_iload2 rfl ?_
          refine bg_iconst rfl ?_
          refine bg_virt2 rfl rfl rfl rfl (TB.o l4) ?_
          refine bt_get l4 rfl (by decide) (bk_Ki ?_)
          refine bg_iret rfl rfl (by rfl) ?_
          exact bQ (hQ hA kX gC) hye

theorem bc_board {x : Int32} (hX : CX h a lo mo P S bs) (hW : WP P) (hQ : ∀ h', CX h' a lo mo P S bs → fr h h' (a + 3) (a + 4) → Q (.inl (some (.int (brd P S x)))) h' n) : bk_wp V (d + 4) 14 [.ref a, .int x] h n B Q := by
  obtain ⟨⟨l0, l1, l2, l3, l4, l5⟩, ⟨m0, m1, m2, m3, m4, m5⟩, ⟨c0, cb, cf⟩, hlo, hmo⟩ := id hX
  unfold brd at hQ
  refine bg_in rfl rfl ?_
  refine bg_iload1 rfl ?_
  refine bg_aload0 rfl ?_
  refine bg_getfield rfl rfl c0 (by rfl) ?_
  refine bg_getfield rfl rfl m0 (by rfl) ?_
  refine bg_icmp_eq rfl (fun e8 => ?_) (fun e8 => ?_)
  · rw [if_pos (Or.inl e8)] at hQ
    refine bg_iconst rfl ?_
    refine bg_iret rfl rfl (by rfl) ?_
    exact hQ h hX fr.refl
  · refine bg_aload0 rfl ?_
    refine bg_iload1 rfl ?_
    refine bg_virt1 rfl rfl rfl rfl ⟨_, c0⟩ ?_
    refine bc_htb hX (bk_Ki ?_)
    refine bg_if_eq rfl (fun e16 => ?_) (fun e16 => ?_)
    · rw [if_neg (fun q => q.elim e8 (fun q => q e16))] at hQ
      refine bg_iconst rfl ?_
      refine bg_istore2 rfl rfl ?_
      exact bc_boardL hW (P 3).length 0 h hX hQ (by omega)
    · rw [if_pos (Or.inr e16)] at hQ
      refine bg_iconst rfl ?_
      refine bg_iret rfl rfl (by rfl) ?_
      exact hQ h hX fr.refl
theorem bsF_len {P : Nat → bT} {S : bS} {k : Nat} : (bsF P S k).length = k := by
  unfold bsF
  rw [List.length_map, List.length_range]
theorem bsF_s {P : Nat → bT} {S : bS} {k : Nat} (hk : k < 2 ^ 31) : rS (bsF P S k ++ [List.replicate 1 0]) (nI k) 0 (brd P S (nI k)) = bsF P S (k + 1) := by
  unfold rS
  rw [if_neg (nI_pos hk), nI_clamp hk]
  unfold tS
  have e : (bsF P S k ++ [List.replicate 1 0]).getD k [] = [0] := by
    rw [gD_lt (by rw [List.length_append, bsF_len]; exact Nat.lt_succ_self k), List.getElem_append_right (by rw [bsF_len]; exact Nat.le_refl k)]
    simp [bsF_len]
  rw [e, List.set_append_right _ _ (by rw [bsF_len]; exact Nat.le_refl k), bsF_len, Nat.sub_self]
  unfold bsF
  rw [List.range_succ, List.map_append]
  rfl
theorem bc_choL (hW : WP P) : ∀ (c k : Nat) (h : bk_H), CX h a lo mo P S (bsF P S k) → (∀ h', CX h' a lo mo P S (bsF P S (P 1).length) → fx h h' mo a → Q (.inl none) h' n) → k + c = (P 1).length → bk_g V (d + 4) 12 B Q 9 [some (.ref a), some (.int (nI k))] [] h n cs := by
  intro c
  induction c with
  | zero =>
    intro k h hX hQ hk
    obtain ⟨⟨l0, l1, l2, l3, l4, l5⟩, ⟨m0, m1, m2, m3, m4, m5⟩, ⟨c0, cb, cf⟩, hlo, hmo⟩ := id hX
    have l22 := l2.2.2.1
    refine bg_iload1 rfl ?_
    refine bg_aload0 rfl ?_
    refine bg_getfield rfl rfl c0 (by rfl) ?_
    refine bg_getfield rfl rfl l0 (by rfl) ?_
    refine bg_virt0 rfl rfl rfl rfl (TB.o l2) ?_
    refine bt_size l2 (bk_Ki ?_)
    refine bg_icmp_ge rfl (fun e20 => ?_) (fun e20 => absurd e20 (nI_nlt (by omega) (by omega)))
    refine bg_ret rfl rfl ?_
    rw [show k = (P 1).length by omega] at hX
    exact hQ h hX fx.refl
  | succ c ih =>
    intro k h hX hQ hk
    obtain ⟨⟨l0, l1, l2, l3, l4, l5⟩, ⟨m0, m1, m2, m3, m4, m5⟩, ⟨c0, cb, cf⟩, hlo, hmo⟩ := id hX
    have l22 := l2.2.2.1
    refine bg_iload1 rfl ?_
    refine bg_aload0 rfl ?_
    refine bg_getfield rfl rfl c0 (by rfl) ?_
    refine bg_getfield rfl rfl l0 (by rfl) ?_
    refine bg_virt0 rfl rfl rfl rfl (TB.o l2) ?_
    refine bt_size l2 (bk_Ki ?_)
    refine bg_icmp_ge rfl (fun e20 => absurd (nI_lt (by omega) (by omega)) e20) (fun e20 => ?_)
    refine bg_aload0 rfl ?_
    refine bg_getfield rfl rfl c0 (by rfl) ?_
    refine bg_aload0 rfl ?_
    refine bg_getfield rfl rfl c0 (by rfl) ?_
    refine bg_virt0 rfl rfl rfl rfl (TB.o cb) ?_
    refine bt_add cb (fun q => absurd (by rw [bsF_len]; omega) q) (fun _ hA kA gA => bk_Ki ?_)
    obtain ⟨hX1, gx1⟩ := hX.b kA gA
    rw [bsF_len]
    obtain ⟨⟨l0, l1, l2, l3, l4, l5⟩, ⟨m0, m1, m2, m3, m4, m5⟩, ⟨c0, cb, cf⟩, hlo, hmo⟩ := id hX1
    refine bg_iconst rfl ?_
    refine bg_aload0 rfl ?_
    refine bg_iload1 rfl ?_
    refine bg_virt1 rfl rfl rfl rfl ⟨_, c0⟩ ?_
    refine bc_board hX1 hW (fun hB hX2 gB => bk_Ki ?_)
    obtain ⟨⟨l0, l1, l2, l3, l4, l5⟩, ⟨m0, m1, m2, m3, m4, m5⟩, ⟨c0, cb, cf⟩, hlo, hmo⟩ := id hX2
    refine bg_virt3 rfl rfl rfl rfl (TB.o cb) ?_
    refine bt_set cb rfl (by decide) (fun hC kC gC => bk_Kv ?_)
    rw [bsF_s (by omega)] at kC
    obtain ⟨hX3, gx3⟩ := hX2.b kC gC
    refine bg_iinc1 rfl rfl ?_
    rw [nI_1]
    refine bg_goto rfl ?_
    exact ih (k + 1) hC hX3 (fun h' kx kg => hQ h' kx (((gx1.trans (gB.fxa (by omega) (by omega))).trans gx3).trans kg)) (by omega)

theorem bc_cho (hX : CX h a lo mo P S bs) (hW : WP P) (hQ : ∀ h', CX h' a lo mo P S (bsF P S (P 1).length) → fx h h' mo a → Q (.inl none) h' n) : bk_wp V (d + 5) 12 [.ref a] h n B Q := by
  obtain ⟨⟨l0, l1, l2, l3, l4, l5⟩, ⟨m0, m1, m2, m3, m4, m5⟩, ⟨c0, cb, cf⟩, hlo, hmo⟩ := id hX
  refine bg_in rfl rfl ?_
  refine bg_aload0 rfl ?_
  refine bg_getfield rfl rfl c0 (by rfl) ?_
  refine bg_virt0 rfl rfl rfl rfl (TB.o cb) ?_
  refine bt_clear cb (fun hA kA gA => bk_Kv ?_)
  obtain ⟨hX1, gx1⟩ := hX.b kA gA
  refine bg_iconst rfl ?_
  refine bg_istore1 rfl rfl ?_
  exact bc_choL hW (P 1).length 0 hA hX1 (fun h' kx kg => hQ h' kx (gx1.trans kg)) (by omega)
theorem bc_forL {b : Int32} (hX : CX h a lo mo P S bs) : ∀ (c k : Nat) (q : Int32 × Int32 × Int32 × Int32), (q.2.2.2 = 0 ∨ q.2.2.2 = 1) → k + c = bs.length → itN (fr1 P S bs b) k (0, 0, 0, 1) = q → Q (.inl (some (.int (fcF P S bs b)))) h n → ∀ x7, bk_g V (d + 1) 15 B Q 13 [some (.ref a), some (.int b), some (.int q.1), some (.int q.2.1), some (.int q.2.2.1), some (.int q.2.2.2), some (.int (nI k)), x7] [] h n cs := by
  obtain ⟨⟨l0, l1, l2, l3, l4, l5⟩, ⟨m0, m1, m2, m3, m4, m5⟩, ⟨c0, cb, cf⟩, hlo, hmo⟩ := id hX
  have cb4 := cb.2.2.1
  intro c
  induction c with
  | zero =>
    intro k q hq hk hit hQ x7
    have hf : fcF P S bs b = fcE q := by
      unfold fcF
      rw [show bs.length = k by omega, hit]
    rw [hf] at hQ
    unfold fcE at hQ
    refine bg_iload6 rfl ?_
    refine bg_aload0 rfl ?_
    refine bg_getfield rfl rfl c0 (by rfl) ?_
    refine bg_virt0 rfl rfl rfl rfl (TB.o cb) ?_
    refine bt_size cb (bk_Ki ?_)
    refine bg_icmp_ge rfl (fun e22 => ?_) (fun e22 => absurd e22 (nI_nlt (by omega) (by omega)))
    refine bg_iload3 rfl ?_
    refine bg_iconst rfl ?_
    refine bg_icmp_ge rfl (fun e108 => ?_) (fun e108 => ?_)
    · rw [if_neg e108] at hQ
      refine bg_iload5 rfl ?_
      refine bg_if_eq rfl (fun e115 => ?_) (fun e115 => ?_)
      · rw [if_neg (fun z => z e115)] at hQ
        refine bg_iload2 rfl ?_
        refine bg_iconst rfl ?_
        refine bg_idiv rfl (by decide) ?_
        refine bg_iret rfl rfl (by rfl) ?_
        exact hQ
      · rw [if_pos e115] at hQ
        refine bg_iload2 rfl ?_
        refine bg_iload3 rfl ?_
        refine bg_iadd rfl ?_
        refine bg_goto rfl ?_
        refine bg_iret rfl rfl (by rfl) ?_
        exact hQ
    · rw [if_pos e108] at hQ
      refine bg_iload2 rfl ?_
      refine bg_iret rfl rfl (by rfl) ?_
      exact hQ
  | succ c ih =>
    intro k q hq hk hit hQ x7
    have hst : itN (fr1 P S bs b) (k + 1) (0, 0, 0, 1) = fr1 P S bs b k q := by
      show fr1 P S bs b k (itN (fr1 P S bs b) k (0, 0, 0, 1)) = _
      rw [hit]
    unfold fr1 at hst
    refine bg_iload6 rfl ?_
    refine bg_aload0 rfl ?_
    refine bg_getfield rfl rfl c0 (by rfl) ?_
    refine bg_virt0 rfl rfl rfl rfl (TB.o cb) ?_
    refine bt_size cb (bk_Ki ?_)
    refine bg_icmp_ge rfl (fun e22 => absurd (nI_lt (by omega) (by omega)) e22) (fun e22 => ?_)
    refine bg_aload0 rfl ?_
    refine bg_getfield rfl rfl c0 (by rfl) ?_
    refine bg_iload6 rfl ?_
    refine bg_iconst rfl ?_
    refine bg_virt2 rfl rfl rfl rfl (TB.o cb) ?_
    refine bt_get cb rfl (by decide) (bk_Ki ?_)
    refine bg_iload1 rfl ?_
    refine bg_icmp_ne rfl (fun e36 => ?_) (fun e36 => ?_)
    · rw [if_neg e36] at hst
      refine bg_iinc6 rfl rfl ?_
      rw [nI_1]
      refine bg_goto rfl ?_
      exact ih (k + 1) _ (by first | exact hq | exact Or.inl rfl | exact Or.inr rfl) (by omega) hst hQ _
    · rw [if_pos e36] at hst
      refine bg_aload0 rfl ?_
      refine bg_getfield rfl rfl c0 (by rfl) ?_
      refine bg_getfield rfl rfl m0 (by rfl) ?_
      refine bg_iload6 rfl ?_
      refine bg_iconst rfl ?_
      refine bg_virt2 rfl rfl rfl rfl (TB.o m2) ?_
      refine bt_get m2 rfl (by decide) (bk_Ki ?_)
      refine bg_istore7 rfl rfl ?_
      refine bg_iload5 rfl ?_
      refine bg_if_eq rfl (fun e56 => ?_) (fun e56 => ?_)
      · rw [if_neg (fun z => z.1 e56)] at hst
        refine bg_iconst rfl ?_
        refine bg_istore5 rfl rfl ?_
        refine bg_iload7 rfl ?_
        refine bg_istore4 rfl rfl ?_
        refine bg_iload2 rfl ?_
        refine bg_aload0 rfl ?_
        refine bg_getfield rfl rfl c0 (by rfl) ?_
        refine bg_getfield rfl rfl l0 (by rfl) ?_
        refine bg_iload6 rfl ?_
        refine bg_iconst rfl ?_
        refine bg_virt2 rfl rfl rfl rfl (TB.o l2) ?_
        refine bt_get l2 rfl (by decide) (bk_Ki ?_)
        refine bg_iadd rfl ?_
        refine bg_istore2 rfl rfl ?_
        refine bg_iinc3 rfl rfl ?_
        refine bg_iinc6 rfl rfl ?_
        rw [nI_1]
        refine bg_goto rfl ?_
        exact ih (k + 1) _ (by first | exact hq | exact Or.inl rfl | exact Or.inr rfl) (by omega) hst hQ _
      · refine bg_iload3 rfl ?_
        refine bg_if_eq rfl (fun e60 => ?_) (fun e60 => ?_)
        · rw [if_pos ⟨e56, Or.inl e60⟩] at hst
          refine bg_iconst rfl ?_
          refine bg_goto rfl ?_
          refine bg_istore5 rfl rfl ?_
          refine bg_iload7 rfl ?_
          refine bg_istore4 rfl rfl ?_
          refine bg_iload2 rfl ?_
          refine bg_aload0 rfl ?_
          refine bg_getfield rfl rfl c0 (by rfl) ?_
          refine bg_getfield rfl rfl l0 (by rfl) ?_
          refine bg_iload6 rfl ?_
          refine bg_iconst rfl ?_
          refine bg_virt2 rfl rfl rfl rfl (TB.o l2) ?_
          refine bt_get l2 rfl (by decide) (bk_Ki ?_)
          refine bg_iadd rfl ?_
          refine bg_istore2 rfl rfl ?_
          refine bg_iinc3 rfl rfl ?_
          refine bg_iinc6 rfl rfl ?_
          rw [nI_1]
          refine bg_goto rfl ?_
          exact ih (k + 1) _ (by first | exact hq | exact Or.inl rfl | exact Or.inr rfl) (by omega) hst hQ _
        · refine bg_iload7 rfl ?_
          refine bg_iload4 rfl ?_
          refine bg_icmp_ne rfl (fun e67 => ?_) (fun e67 => ?_)
          · rw [if_neg (fun z => z.2.elim e60 e67)] at hst
            refine bg_iconst rfl ?_
            refine bg_istore5 rfl rfl ?_
            refine bg_iload7 rfl ?_
            refine bg_istore4 rfl rfl ?_
            refine bg_iload2 rfl ?_
            refine bg_aload0 rfl ?_
            refine bg_getfield rfl rfl c0 (by rfl) ?_
            refine bg_getfield rfl rfl l0 (by rfl) ?_
            refine bg_iload6 rfl ?_
            refine bg_iconst rfl ?_
            refine bg_virt2 rfl rfl rfl rfl (TB.o l2) ?_
            refine bt_get l2 rfl (by decide) (bk_Ki ?_)
            refine bg_iadd rfl ?_
            refine bg_istore2 rfl rfl ?_
            refine bg_iinc3 rfl rfl ?_
            refine bg_iinc6 rfl rfl ?_
            rw [nI_1]
            refine bg_goto rfl ?_
            exact ih (k + 1) _ (by first | exact hq | exact Or.inl rfl | exact Or.inr rfl) (by omega) hst hQ _
          · rw [if_pos ⟨e56, Or.inr e67⟩] at hst
            refine bg_iconst rfl ?_
            refine bg_goto rfl ?_
            refine bg_istore5 rfl rfl ?_
            refine bg_iload7 rfl ?_
            refine bg_istore4 rfl rfl ?_
            refine bg_iload2 rfl ?_
            refine bg_aload0 rfl ?_
            refine bg_getfield rfl rfl c0 (by rfl) ?_
            refine bg_getfield rfl rfl l0 (by rfl) ?_
            refine bg_iload6 rfl ?_
            refine bg_iconst rfl ?_
            refine bg_virt2 rfl rfl rfl rfl (TB.o l2) ?_
            refine bt_get l2 rfl (by decide) (bk_Ki ?_)
            refine bg_iadd rfl ?_
            refine bg_istore2 rfl rfl ?_
            refine bg_iinc3 rfl rfl ?_
            refine bg_iinc6 rfl rfl ?_
            rw [nI_1]
            refine bg_goto rfl ?_
            exact ih (k + 1) _ (by first | exact hq | exact Or.inl rfl | exact Or.inr rfl) (by omega) hst hQ _

theorem bc_force {b : Int32} (hX : CX h a lo mo P S bs) (hQ : Q (.inl (some (.int (fcF P S bs b)))) h n) : bk_wp V (d + 2) 15 [.ref a, .int b] h n B Q := by
  refine bg_in rfl rfl ?_
  refine bg_iconst rfl ?_
  refine bg_istore2 rfl rfl ?_
  refine bg_iconst rfl ?_
  refine bg_istore3 rfl rfl ?_
  refine bg_iconst rfl ?_
  refine bg_istore4 rfl rfl ?_
  refine bg_iconst rfl ?_
  refine bg_istore5 rfl rfl ?_
  refine bg_iconst rfl ?_
  refine bg_istore6 rfl rfl ?_
  exact bc_forL hX bs.length 0 (0, 0, 0, 1) (Or.inr rfl) (by omega) rfl hQ _
theorem rS_last {t : bT} {r : List Int32} {c : Nat} {v : Int32} (ht : t.length < 2 ^ 31) : rS (t ++ [r]) (nI t.length) c v = t ++ [r.set c v] := by
  unfold rS
  rw [if_neg (nI_pos ht), nI_clamp ht]
  unfold tS
  rw [List.getD_eq_getElem?_getD, List.getElem?_append_right (Nat.le_refl _), List.set_append_right _ _ (Nat.le_refl _), Nat.sub_self]
  rfl
theorem bc_make {b th : Int32} (hX : CX h a lo mo P S bs) (hl : (S.2 3).length < 30) (hQ : ∀ h', CX h' a lo mo P (shF b th S) bs → fx h h' mo a → Q (.inl none) h' n) : bk_wp V (d + 2) 17 [.ref a, .int b, .int th] h n B Q := by
  obtain ⟨⟨l0, l1, l2, l3, l4, l5⟩, ⟨m0, m1, m2, m3, m4, m5⟩, ⟨c0, cb, cf⟩, hlo, hmo⟩ := id hX
  refine bg_in rfl rfl ?_
  refine bg_aload0 rfl ?_
  refine bg_getfield rfl rfl c0 (by rfl) ?_
  refine bg_getfield rfl rfl m0 (by rfl) ?_
  refine bg_virt0 rfl rfl rfl rfl (TB.o m4) ?_
  refine bt_add m4 (fun q => absurd hl q) (fun _ hA kA gA => bk_Ki ?_)
  obtain ⟨hXA, gxA⟩ := hX.m3 kA gA
  obtain ⟨⟨l0, l1, l2, l3, l4, l5⟩, ⟨m0, m1, m2, m3, m4, m5⟩, ⟨c0, cb, cf⟩, hlo, hmo⟩ := id hXA
  refine bg_istore3 rfl rfl ?_
  refine bg_aload0 rfl ?_
  refine bg_getfield rfl rfl c0 (by rfl) ?_
  refine bg_getfield rfl rfl m0 (by rfl) ?_
  refine bg_iload3 rfl ?_
  refine bg_iconst rfl ?_
  refine bg_iload1 rfl ?_
  refine bg_virt3 rfl rfl rfl rfl (TB.o m4) ?_
  refine bt_set m4 rfl (by decide) (fun hB kB gB => bk_Kv ?_)
  simp only [uT_s] at kB
  rw [rS_last (by omega)] at kB
  obtain ⟨hXB, gxB⟩ := hXA.m3 kB gB
  obtain ⟨⟨l0, l1, l2, l3, l4, l5⟩, ⟨m0, m1, m2, m3, m4, m5⟩, ⟨c0, cb, cf⟩, hlo, hmo⟩ := id hXB
  refine bg_aload0 rfl ?_
  refine bg_getfield rfl rfl c0 (by rfl) ?_
  refine bg_getfield rfl rfl m0 (by rfl) ?_
  refine bg_iload3 rfl ?_
  refine bg_iconst rfl ?_
  refine bg_iload2 rfl ?_
  refine bg_virt3 rfl rfl rfl rfl (TB.o m4) ?_
  refine bt_set m4 rfl (by decide) (fun hC kC gC => bk_Kv ?_)
  simp only [uT_s] at kC
  rw [rS_last (by omega)] at kC
  obtain ⟨hXC, gxC⟩ := hXB.m3 kC gC
  obtain ⟨⟨l0, l1, l2, l3, l4, l5⟩, ⟨m0, m1, m2, m3, m4, m5⟩, ⟨c0, cb, cf⟩, hlo, hmo⟩ := id hXC
  refine bg_aload0 rfl ?_
  refine bg_getfield rfl rfl c0 (by rfl) ?_
  refine bg_getfield rfl rfl m0 (by rfl) ?_
  refine bg_iload3 rfl ?_
  refine bg_iconst rfl ?_
  refine bg_iconst rfl ?_
  refine bg_virt3 rfl rfl rfl rfl (TB.o m4) ?_
  refine bt_set m4 rfl (by decide) (fun hD kD gD => bk_Kv ?_)
  simp only [uT_s] at kD
  rw [rS_last (by omega)] at kD
  obtain ⟨hXD, gxD⟩ := hXC.m3 kD gD
  obtain ⟨⟨l0, l1, l2, l3, l4, l5⟩, ⟨m0, m1, m2, m3, m4, m5⟩, ⟨c0, cb, cf⟩, hlo, hmo⟩ := id hXD
  refine bg_aload0 rfl ?_
  refine bg_getfield rfl rfl c0 (by rfl) ?_
  refine bg_dup rfl rfl ?_
  refine bg_getfield rfl rfl m0 (by rfl) ?_
  refine bg_iconst rfl ?_
  refine bg_iadd rfl ?_
  refine bg_putfield rfl rfl m0 (by rfl) ⟨rfl, rfl⟩ (by rfl) (fun h60 f60 g60 => ?_)
  obtain ⟨hXE, gxE⟩ := hXD.i4 f60 g60
  refine bg_ret rfl rfl ?_
  simp only [uT_uT] at hXE
  exact hQ _ hXE ((((gxA.trans gxB).trans gxC).trans gxD).trans gxE)
end BC
