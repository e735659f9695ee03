/-! BarkMakers made. Printed by wip/whole/mk42.py. -/
section CMm
variable {V : bk_V} {d n : Nat} {B : Nat × Nat} {Q : bk_R → bk_H → Nat → Prop} {h : bk_H} {x a : Nat} {T : List Int32} {cs : Nat × Nat}
theorem bi_course {lo mo : Nat} (o : h a = some (.inr (1, [.null, .null, .null, .null]))) (hn : n = a + 1) (hB1 : 3 ≤ B.1) (hB2 : 74 ≤ B.2) (hQ : ∀ h', CO h' a lo mo [] → fr h h' a (a + 4) → Q (.inl none) h' (n + 3)) : bk_wp V (d + 2) 9 [.ref a, .ref lo, .ref mo] h n B Q := by
  subst hn
  refine bg_in rfl rfl ?_
  refine bg_aload0 rfl ?_
  refine bg_objinit rfl rfl rfl ?_
  refine bg_aload0 rfl ?_
  refine bg_aload1 rfl ?_
  refine bg_putfield rfl rfl o (by rfl) ⟨rfl, rfl⟩ (by rfl) (fun h6 f6 g6 => ?_)
  have o := f6
  refine bg_aload0 rfl ?_
  refine bg_aload2 rfl ?_
  refine bg_putfield rfl rfl o (by rfl) ⟨rfl, rfl⟩ (by rfl) (fun h11 f11 g11 => ?_)
  have o := f11
  refine bg_aload0 rfl ?_
  refine bg_new rfl rfl (by rfl) (by show 0 + 1 ≤ B.1; omega) (by show 0 + 4 ≤ B.2; omega) (fun h15 f15 g15 => ?_)
  have o := (g15 a (by omega)).trans o
  refine bg_dup rfl rfl ?_
  refine bg_iconst rfl ?_
  refine bg_bipush rfl ?_
  refine bg_spec2B (b := (1, 6)) rfl rfl rfl rfl (by show 1 + 1 ≤ B.1; omega) (by show 4 + 6 ≤ B.2; omega) ?_
  refine bt_init (w := 1) (r := 6) rfl rfl (by decide) f15 (by omega) (fun hT T0 gT => bk_Kv ?_) (Nat.le_refl _) (Nat.le_refl _)
  have o := (gT a (by omega)).trans o
  refine bg_putfield rfl rfl o (by rfl) ⟨rfl, rfl⟩ (by rfl) (fun h25 f25 g25 => ?_)
  have o := f25
  have T0 := T0.kp (fr.one g25) (by omega)
  refine bg_aload0 rfl ?_
  refine bg_bipush rfl ?_
  refine bg_newarray_int rfl (N := 64) (by decide) (by decide) (by show 2 + 1 ≤ B.1; omega) (by show 10 + 64 ≤ B.2; omega) (by decide) (fun h31 f31 g31 => ?_)
  have o := (g31 a (by omega)).trans o
  have T0 := T0.kp (fr.one g31) (by omega)
  refine bg_putfield rfl rfl o (by rfl) ⟨rfl, rfl⟩ (by rfl) (fun h33 f33 g33 => ?_)
  have o := f33
  have T0 := T0.kp (fr.one g33) (by omega)
  have k3 := (g33 _ (by omega)).trans f31
  refine bg_ret rfl rfl ?_
  refine hQ _ ⟨o, T0, _, k3⟩ (fun q hq => ?_)
  rw [g33 q (by omega), g31 q (by omega), g25 q (by omega), gT q (by omega), g15 q (by omega), g11 q (by omega), g6 q (by omega)]
theorem bi_checker {tk tp p : Nat} {rows : bT} {f : Nat → Int32} {g : Nat → Int64} (hK : KO h tk tp T p rows f g) (hka : tk + 7 ≤ a) (o : h a = some (.inr (0, [.null, .null, .null, .null, .int 0, .int 0, .int 0]))) (hn : n = a + 1) (hB1 : 6 ≤ B.1) (hB2 : 23 ≤ B.2) (hQ : ∀ h', HO h' a tk tp T p f g (fun _ => [], 0, rows) 0 0 → fr h h' a (a + 7) → Q (.inl none) h' (n + 6)) : bk_wp V (d + 2) 0 [.ref a, .ref tk] h n B Q := by
  subst hn
  have ktp := hK.2.2.2.2.2.2
  refine bg_in rfl rfl ?_
  refine bg_aload0 rfl ?_
  refine bg_objinit rfl rfl rfl ?_
  refine bg_aload0 rfl ?_
  refine bg_aload1 rfl ?_
  refine bg_putfield rfl rfl o (by rfl) ⟨rfl, rfl⟩ (by rfl) (fun h6 f6 g6 => ?_)
  have o := f6
  have hK := hK.kp (fr.one g6) (by omega)
  refine bg_aload0 rfl ?_
  refine bg_new rfl rfl (by rfl) (by show 0 + 1 ≤ B.1; omega) (by show 0 + 2 ≤ B.2; omega) (fun h10 f10 g10 => ?_)
  have o := (g10 a (by omega)).trans o
  have hK := hK.kp (fr.one g10) (by omega)
  refine bg_dup rfl rfl ?_
  refine bg_iconst rfl ?_
  refine bg_spec1B (b := (1, 5)) rfl rfl rfl rfl (by show 1 + 1 ≤ B.1; omega) (by show 2 + 5 ≤ B.2; omega) ?_
  refine bn_init (r := 5) rfl (by decide) f10 (by omega) (fun hN0 N0 gN0 => bk_Kv ?_) (Nat.le_refl _) (Nat.le_refl _)
  have o := (gN0 a (by omega)).trans o
  have hK := hK.kp gN0 (by omega)
  refine bg_putfield rfl rfl o (by rfl) ⟨rfl, rfl⟩ (by rfl) (fun h18 f18 g18 => ?_)
  have o := f18
  have N0 := N0.kp (fr.one g18) (by omega)
  have hK := hK.kp (fr.one g18) (by omega)
  refine bg_aload0 rfl ?_
  refine bg_new rfl rfl (by rfl) (by show 2 + 1 ≤ B.1; omega) (by show 7 + 2 ≤ B.2; omega) (fun h22 f22 g22 => ?_)
  have o := (g22 a (by omega)).trans o
  have N0 := N0.kp (fr.one g22) (by omega)
  have hK := hK.kp (fr.one g22) (by omega)
  refine bg_dup rfl rfl ?_
  refine bg_bipush rfl ?_
  refine bg_spec1B (b := (1, 6)) rfl rfl rfl rfl (by show 3 + 1 ≤ B.1; omega) (by show 9 + 6 ≤ B.2; omega) ?_
  refine bn_init (r := 6) rfl (by decide) f22 (by omega) (fun hN1 N1 gN1 => bk_Kv ?_) (Nat.le_refl _) (Nat.le_refl _)
  have o := (gN1 a (by omega)).trans o
  have N0 := N0.kp gN1 (by omega)
  have hK := hK.kp gN1 (by omega)
  refine bg_putfield rfl rfl o (by rfl) ⟨rfl, rfl⟩ (by rfl) (fun h31 f31 g31 => ?_)
  have o := f31
  have N0 := N0.kp (fr.one g31) (by omega)
  have N1 := N1.kp (fr.one g31) (by omega)
  have hK := hK.kp (fr.one g31) (by omega)
  refine bg_aload0 rfl ?_
  refine bg_new rfl rfl (by rfl) (by show 4 + 1 ≤ B.1; omega) (by show 15 + 2 ≤ B.2; omega) (fun h35 f35 g35 => ?_)
  have o := (g35 a (by omega)).trans o
  have N0 := N0.kp (fr.one g35) (by omega)
  have N1 := N1.kp (fr.one g35) (by omega)
  have hK := hK.kp (fr.one g35) (by omega)
  refine bg_dup rfl rfl ?_
  refine bg_bipush rfl ?_
  refine bg_spec1B (b := (1, 6)) rfl rfl rfl rfl (by show 5 + 1 ≤ B.1; omega) (by show 17 + 6 ≤ B.2; omega) ?_
  refine bn_init (r := 6) rfl (by decide) f35 (by omega) (fun hN2 N2 gN2 => bk_Kv ?_) (Nat.le_refl _) (Nat.le_refl _)
  have o := (gN2 a (by omega)).trans o
  have N0 := N0.kp gN2 (by omega)
  have N1 := N1.kp gN2 (by omega)
  have hK := hK.kp gN2 (by omega)
  refine bg_putfield rfl rfl o (by rfl) ⟨rfl, rfl⟩ (by rfl) (fun h44 f44 g44 => ?_)
  have o := f44
  have N0 := N0.kp (fr.one g44) (by omega)
  have N1 := N1.kp (fr.one g44) (by omega)
  have N2 := N2.kp (fr.one g44) (by omega)
  have hK := hK.kp (fr.one g44) (by omega)
  refine bg_aload0 rfl ?_
  refine bg_iconst rfl ?_
  refine bg_putfield rfl rfl o (by rfl) ⟨rfl, rfl⟩ (by rfl) (fun h49 f49 g49 => ?_)
  have o := f49
  have N0 := N0.kp (fr.one g49) (by omega)
  have N1 := N1.kp (fr.one g49) (by omega)
  have N2 := N2.kp (fr.one g49) (by omega)
  have hK := hK.kp (fr.one g49) (by omega)
  refine bg_aload0 rfl ?_
  refine bg_iconst rfl ?_
  refine bg_putfield rfl rfl o (by rfl) ⟨rfl, rfl⟩ (by rfl) (fun h54 f54 g54 => ?_)
  have o := f54
  have N0 := N0.kp (fr.one g54) (by omega)
  have N1 := N1.kp (fr.one g54) (by omega)
  have N2 := N2.kp (fr.one g54) (by omega)
  have hK := hK.kp (fr.one g54) (by omega)
  refine bg_aload0 rfl ?_
  refine bg_iconst rfl ?_
  refine bg_putfield rfl rfl o (by rfl) ⟨rfl, rfl⟩ (by rfl) (fun h59 f59 g59 => ?_)
  have o := f59
  have N0 := N0.kp (fr.one g59) (by omega)
  have N1 := N1.kp (fr.one g59) (by omega)
  have N2 := N2.kp (fr.one g59) (by omega)
  have hK := hK.kp (fr.one g59) (by omega)
  refine bg_ret rfl rfl ?_
  refine hQ _ ⟨hK, o, N0, N1, N2, hka⟩ (fun q hq => ?_)
  rw [g59 q (by omega), g54 q (by omega), g49 q (by omega), g44 q (by omega), gN2 q (by omega), g35 q (by omega), g31 q (by omega), gN1 q (by omega), g22 q (by omega), g18 q (by omega), gN0 q (by omega), g10 q (by omega), g6 q (by omega)]
theorem bi_parser {tk dr : Nat} (o : h a = some (.inr (6, [.null, .null, .int 0, .int 0]))) (hQ : ∀ h', h' a = some (.inr (6, [.ref tk, .ref dr, .int 0, .int 0])) → (∀ q, q ≠ a → h' q = h q) → Q (.inl none) h' n) : bk_wp V (d + 1) 41 [.ref a, .ref tk, .ref dr] h n B Q := by
  refine bg_in rfl rfl ?_
  refine bg_aload0 rfl ?_
  refine bg_objinit rfl rfl rfl ?_
  refine bg_aload0 rfl ?_
  refine bg_aload1 rfl ?_
  refine bg_putfield rfl rfl o (by rfl) ⟨rfl, rfl⟩ (by rfl) (fun h6 f6 g6 => ?_)
  have o := f6
  refine bg_aload0 rfl ?_
  refine bg_aload2 rfl ?_
  refine bg_putfield rfl rfl o (by rfl) ⟨rfl, rfl⟩ (by rfl) (fun h11 f11 g11 => ?_)
  have o := f11
  refine bg_aload0 rfl ?_
  refine bg_iconst rfl ?_
  refine bg_putfield rfl rfl o (by rfl) ⟨rfl, rfl⟩ (by rfl) (fun h16 f16 g16 => ?_)
  have o := f16
  refine bg_aload0 rfl ?_
  refine bg_iconst rfl ?_
  refine bg_putfield rfl rfl o (by rfl) ⟨rfl, rfl⟩ (by rfl) (fun h21 f21 g21 => ?_)
  have o := f21
  refine bg_ret rfl rfl ?_
  refine hQ _ o (fun q hq => ?_)
  rw [g21 q hq, g16 q hq, g11 q hq, g6 q hq]
theorem bi_tokL {tp : Nat} : ∀ (c i : Nat) (l : List Int64) (cd : Int64) (x5 : Option Value) (h : bk_H), NM h (a + 5) 29 l → h a = some (.inr (9, [.ref tp, .ref (a + 5), .ref (a + 1), .ref (a + 3), .ref (a + 4), .int 0])) → i + c = (bk_sB 0).length → kwL = l ++ kwS ((bk_sB 0).drop i) cd → (∀ h', NM h' (a + 5) 29 kwL → fr h h' (a + 5) (a + 7) → Q (.inl none) h' n) → bk_g V (d + 2) 78 B Q 65 [some (.ref a), some (.ref tp), some (.long cd), none, some (.int (nI i)), x5] [] h n cs := by
  have hlen : (bk_sB 0).length < 1000 := by decide +kernel
  intro c
  induction c with
  | zero =>
    intro i l cd x5 h hN o hi hk hQ
    refine bg_iload4 rfl ?_
    refine bg_ldc rfl rfl ?_
    refine bg_strlen (k := 0) rfl rfl rfl (by decide) rfl ?_
    refine bg_icmp_ge rfl (fun e72 => ?_) (fun e72 => absurd e72 (nI_nlt (by omega) (by omega)))
    refine bg_ret rfl rfl ?_
    rw [List.drop_eq_nil_of_le (by omega)] at hk
    have hk : kwL = l := hk.trans (List.append_nil l)
    exact hQ h (by rw [hk]; exact hN) fr.refl
  | succ c ih =>
    intro i l cd x5 h hN o hi hk hQ
    have hi1 : i < (bk_sB 0).length := by omega
    rw [List.drop_eq_getElem_cons hi1] at hk
    refine bg_iload4 rfl ?_
    refine bg_ldc rfl rfl ?_
    refine bg_strlen (k := 0) rfl rfl rfl (by decide) rfl ?_
    refine bg_icmp_ge rfl (fun e72 => absurd (nI_lt hi1 (by omega)) e72) (fun e72 => ?_)
    refine bg_ldc rfl rfl ?_
    refine bg_iload4 rfl ?_
    refine bg_charat (k := 0) rfl rfl rfl (by decide) rfl (vp_in_nI hi1 (by omega)) ?_
    rw [nI_clamp (by omega), gD_lt hi1]
    refine bg_istore5 rfl rfl ?_
    refine bg_iload5 rfl ?_
    refine bg_bipush rfl ?_
    refine bg_icmp_ne rfl (fun e88 => ?_) (fun e88 => ?_)
    · have hk : kwL = l ++ kwS ((bk_sB 0).drop (i + 1)) (xtF cd (bk_sB 0)[i]) := hk.trans (congrArg (l ++ ·) (if_neg e88))
      refine bg_lload2 rfl ?_
      refine bg_iload5 rfl ?_
      refine bg_stat2 rfl rfl rfl rfl ?_
      refine bk_ext (bk_Ki ?_)
      refine bg_lstore2 rfl rfl ?_
      refine bg_iinc4 rfl rfl ?_
      rw [nI_1]
      refine bg_goto rfl ?_
      first
        | exact ih (i + 1) _ _ _ hA kA oA (by omega) hk (fun h' q1 q2 => hQ h' q1 (gA.trans q2))
        | exact ih (i + 1) _ _ _ h hN o (by omega) hk hQ
    · have hk : kwL = (l ++ [cd]) ++ kwS ((bk_sB 0).drop (i + 1)) 0 := hk.trans ((congrArg (l ++ ·) (if_pos e88)).trans (by rw [List.append_assoc]; rfl))
      have hll : l.length < 29 := by
        have := congrArg List.length hk
        rw [kwL_len, List.length_append, List.length_append] at this
        have : 29 = l.length + 1 + _ := this
        omega
      refine bg_aload0 rfl ?_
      refine bg_getfield rfl rfl o (by rfl) ?_
      refine bg_lload2 rfl ?_
      refine bg_virt1 rfl rfl rfl rfl ⟨_, hN.1⟩ ?_
      refine bn_add hN hll (fun hA kA gA => bk_Kv ?_)
      have oA := (gA a (by omega)).trans o
      refine bg_lconst rfl ?_
      refine bg_lstore2 rfl rfl ?_
      refine bg_goto rfl ?_
      refine bg_iinc4 rfl rfl ?_
      rw [nI_1]
      refine bg_goto rfl ?_
      first
        | exact ih (i + 1) _ _ _ hA kA oA (by omega) hk (fun h' q1 q2 => hQ h' q1 (gA.trans q2))
        | exact ih (i + 1) _ _ _ h hN o (by omega) hk hQ

theorem bi_tokens {tp : Nat} (tA : TA h tp T) (hta : tp + 2 ≤ a) (o : h a = some (.inr (9, [.null, .null, .null, .null, .null, .int 0]))) (hn : n = a + 1) (hB1 : 6 ≤ B.1) (hB2 : 1639 ≤ B.2) (hQ : ∀ h' f g, KO h' a tp T 0 [] f g → fr h h' a (a + 7) → Q (.inl none) h' (n + 6)) : bk_wp V (d + 3) 78 [.ref a, .ref tp] h n B Q := by
  subst hn
  refine bg_in rfl rfl ?_
  refine bg_aload0 rfl ?_
  refine bg_objinit rfl rfl rfl ?_
  refine bg_aload0 rfl ?_
  refine bg_aload1 rfl ?_
  refine bg_putfield rfl rfl o (by rfl) ⟨rfl, rfl⟩ (by rfl) (fun h6 f6 g6 => ?_)
  have o := f6
  have tA := tA.kp (fr.one g6) (by omega)
  
  refine bg_aload0 rfl ?_
  refine bg_new rfl rfl (by rfl) (by show 0 + 1 ≤ B.1; omega) (by show 0 + 4 ≤ B.2; omega) (fun h10 f10 g10 => ?_)
  have o := (g10 a (by omega)).trans o
  have tA := tA.kp (fr.one g10) (by omega)
  
  refine bg_dup rfl rfl ?_
  refine bg_iconst rfl ?_
  refine bg_sipush rfl ?_
  refine bg_spec2B (b := (1, 802)) rfl rfl rfl rfl (by show 1 + 1 ≤ B.1; omega) (by show 4 + 802 ≤ B.2; omega) ?_
  refine bt_init (w := 2) (r := 401) rfl rfl (by decide) f10 (by omega) (fun hT T0 gT => bk_Kv ?_) (Nat.le_refl _) (Nat.le_refl _)
  have o := (gT a (by omega)).trans o
  have tA := tA.kp gT (by omega)
  
  refine bg_putfield rfl rfl o (by rfl) ⟨rfl, rfl⟩ (by rfl) (fun h21 f21 g21 => ?_)
  have o := f21
  have T0 := T0.kp (fr.one g21) (by omega)
  have tA := tA.kp (fr.one g21) (by omega)
  
  refine bg_aload0 rfl ?_
  refine bg_sipush rfl ?_
  refine bg_newarray_int rfl (N := 401) (by decide) (by decide) (by show 2 + 1 ≤ B.1; omega) (by show 806 + 401 ≤ B.2; omega) (by decide) (fun h28 f28 g28 => ?_)
  have o := (g28 a (by omega)).trans o
  have T0 := T0.kp (fr.one g28) (by omega)
  have tA := tA.kp (fr.one g28) (by omega)
  
  refine bg_putfield rfl rfl o (by rfl) ⟨rfl, rfl⟩ (by rfl) (fun h30 f30 g30 => ?_)
  have o := f30
  have T0 := T0.kp (fr.one g30) (by omega)
  have k2 := (g30 _ (by omega)).trans f28
  have tA := tA.kp (fr.one g30) (by omega)
  
  refine bg_aload0 rfl ?_
  refine bg_sipush rfl ?_
  refine bg_newarray_long rfl (N := 401) (by decide) (by decide) (by show 3 + 1 ≤ B.1; omega) (by show 1207 + 401 ≤ B.2; omega) (by decide) (fun h37 f37 g37 => ?_)
  have o := (g37 a (by omega)).trans o
  have T0 := T0.kp (fr.one g37) (by omega)
  have k2 := (g37 _ (by omega)).trans k2
  have tA := tA.kp (fr.one g37) (by omega)
  
  refine bg_putfield rfl rfl o (by rfl) ⟨rfl, rfl⟩ (by rfl) (fun h39 f39 g39 => ?_)
  have o := f39
  have T0 := T0.kp (fr.one g39) (by omega)
  have k2 := (g39 _ (by omega)).trans k2
  have k3 := (g39 _ (by omega)).trans f37
  have tA := tA.kp (fr.one g39) (by omega)
  
  refine bg_aload0 rfl ?_
  refine bg_iconst rfl ?_
  refine bg_putfield rfl rfl o (by rfl) ⟨rfl, rfl⟩ (by rfl) (fun h44 f44 g44 => ?_)
  have o := f44
  have T0 := T0.kp (fr.one g44) (by omega)
  have k2 := (g44 _ (by omega)).trans k2
  have k3 := (g44 _ (by omega)).trans k3
  have tA := tA.kp (fr.one g44) (by omega)
  
  refine bg_aload0 rfl ?_
  refine bg_new rfl rfl (by rfl) (by show 4 + 1 ≤ B.1; omega) (by show 1608 + 2 ≤ B.2; omega) (fun h48 f48 g48 => ?_)
  have o := (g48 a (by omega)).trans o
  have T0 := T0.kp (fr.one g48) (by omega)
  have k2 := (g48 _ (by omega)).trans k2
  have k3 := (g48 _ (by omega)).trans k3
  have tA := tA.kp (fr.one g48) (by omega)
  
  refine bg_dup rfl rfl ?_
  refine bg_bipush rfl ?_
  refine bg_spec1B (b := (1, 29)) rfl rfl rfl rfl (by show 5 + 1 ≤ B.1; omega) (by show 1610 + 29 ≤ B.2; omega) ?_
  refine bn_init (r := 29) rfl (by decide) f48 (by omega) (fun hN N0 gN => bk_Kv ?_) (Nat.le_refl _) (Nat.le_refl _)
  have o := (gN a (by omega)).trans o
  have T0 := T0.kp gN (by omega)
  have k2 := (gN _ (by omega)).trans k2
  have k3 := (gN _ (by omega)).trans k3
  have tA := tA.kp gN (by omega)
  
  refine bg_putfield rfl rfl o (by rfl) ⟨rfl, rfl⟩ (by rfl) (fun h57 f57 g57 => ?_)
  have o := f57
  have T0 := T0.kp (fr.one g57) (by omega)
  have k2 := (g57 _ (by omega)).trans k2
  have k3 := (g57 _ (by omega)).trans k3
  have N0 := N0.kp (fr.one g57) (by omega)
  have tA := tA.kp (fr.one g57) (by omega)
  
  refine bg_lconst rfl ?_
  refine bg_lstore2 rfl rfl ?_
  refine bg_iconst rfl ?_
  refine bg_istore4 rfl rfl ?_
  refine bi_tokL (bk_sB 0).length 0 [] 0 _ _ N0 o (Nat.zero_add _) rfl (fun hZ kZ gZ => ?_)
  refine hQ hZ _ _ ⟨tA.kp gZ (by omega), (gZ _ (by omega)).trans o, T0.kp gZ (by omega), (gZ _ (by omega)).trans k2, (gZ _ (by omega)).trans k3, kZ, hta⟩ (fun q hq => ?_)
  rw [gZ q (by omega), g57 q (by omega), gN q (by omega), g48 q (by omega), g44 q (by omega), g39 q (by omega), g37 q (by omega), g30 q (by omega), g28 q (by omega), g21 q (by omega), gT q (by omega), g10 q (by omega), g6 q (by omega)]
theorem bi_make (o : h x = some (.inr (10, [.null, .null, .null, .null, .null, .null, .null, .null, .null, .null, .int 0]))) (hn : n = x + 1) (hB1 : 69 ≤ B.1) (hB2 : 7183 ≤ B.2) (hQ : ∀ h', CM h' x [] (fun _ => []) S0F (-1) → fr h h' x (x + 70) → Q (.inl none) h' (n + 69)) : bk_wp V (d + 4) 94 [.ref x] h n B Q := by
  subst hn
  refine bg_in rfl rfl ?_
  refine bg_aload0 rfl ?_
  refine bg_objinit rfl rfl rfl ?_
  refine bg_aload0 rfl ?_
  refine bg_new rfl rfl (by rfl) (by show 0 + 1 ≤ B.1; omega) (by show 0 + 2 ≤ B.2; omega) (fun h5 f5 g5 => ?_)
  have o := (g5 x (by omega)).trans o
  
  refine bg_dup rfl rfl ?_
  refine bg_spec0B (b := (1, 2000)) rfl rfl rfl rfl (by show 1 + 1 ≤ B.1; omega) (by show 2 + 2000 ≤ B.2; omega) ?_
  refine ba_init f5 (by omega) (fun hI0 tA gI0 => bk_Kv ?_) (Nat.le_refl _) (Nat.le_refl _)
  have o := (gI0 x (by omega)).trans o
  
  refine bg_putfield rfl rfl o (by rfl) ⟨rfl, rfl⟩ (by rfl) (fun h12 f12 g12 => ?_)
  have o := f12
  have tA := tA.kp (fr.one g12) (by omega)
  
  refine bg_aload0 rfl ?_
  refine bg_new rfl rfl (by rfl) (by show 2 + 1 ≤ B.1; omega) (by show 2002 + 6 ≤ B.2; omega) (fun h16 f16 g16 => ?_)
  have o := (g16 x (by omega)).trans o
  have tA := tA.kp (fr.one g16) (by omega)
  
  refine bg_dup rfl rfl ?_
  refine bg_aload0 rfl ?_
  refine bg_getfield rfl rfl o (by rfl) ?_
  refine bg_spec1B (b := (6, 1639)) rfl rfl rfl rfl (by show 3 + 6 ≤ B.1; omega) (by show 2008 + 1639 ≤ B.2; omega) ?_
  refine bi_tokens tA (by omega) f16 (by omega) (Nat.le_refl _) (Nat.le_refl _) (fun hI1 kf kg hK gI1 => bk_Kv ?_)
  have o := (gI1 x (by omega)).trans o
  
  refine bg_putfield rfl rfl o (by rfl) ⟨rfl, rfl⟩ (by rfl) (fun h27 f27 g27 => ?_)
  have o := f27
  have hK := hK.kp (fr.one g27) (by omega)
  
  refine bg_aload0 rfl ?_
  refine bg_new rfl rfl (by rfl) (by show 9 + 1 ≤ B.1; omega) (by show 3647 + 7 ≤ B.2; omega) (fun h31 f31 g31 => ?_)
  have o := (g31 x (by omega)).trans o
  have hK := hK.kp (fr.one g31) (by omega)
  
  refine bg_dup rfl rfl ?_
  refine bg_aload0 rfl ?_
  refine bg_getfield rfl rfl o (by rfl) ?_
  refine bg_spec1B (b := (6, 23)) rfl rfl rfl rfl (by show 10 + 6 ≤ B.1; omega) (by show 3654 + 23 ≤ B.2; omega) ?_
  refine bi_checker hK (by omega) f31 (by omega) (Nat.le_refl _) (Nat.le_refl _) (fun hI2 hH gI2 => bk_Kv ?_)
  have o := (gI2 x (by omega)).trans o
  
  refine bg_putfield rfl rfl o (by rfl) ⟨rfl, rfl⟩ (by rfl) (fun h42 f42 g42 => ?_)
  have o := f42
  have hH := hH.kp (fr.one g42) (by omega)
  
  refine bg_aload0 rfl ?_
  refine bg_new rfl rfl (by rfl) (by show 16 + 1 ≤ B.1; omega) (by show 3677 + 5 ≤ B.2; omega) (fun h46 f46 g46 => ?_)
  have o := (g46 x (by omega)).trans o
  have hH := hH.kp (fr.one g46) (by omega)
  
  refine bg_dup rfl rfl ?_
  refine bg_spec0B (b := (10, 1428)) rfl rfl rfl rfl (by show 17 + 10 ≤ B.1; omega) (by show 3682 + 1428 ≤ B.2; omega) ?_
  refine bi_lore f46 (by omega) (Nat.le_refl _) (Nat.le_refl _) (fun hI3 hD gI3 => bk_Kv ?_)
  have o := (gI3 x (by omega)).trans o
  have hH := hH.kp gI3 (by omega)
  
  refine bg_putfield rfl rfl o (by rfl) ⟨rfl, rfl⟩ (by rfl) (fun h53 f53 g53 => ?_)
  have o := f53
  have hH := hH.kp (fr.one g53) (by omega)
  have hD := hD.kp (fr.one g53) (by omega)
  
  refine bg_aload0 rfl ?_
  refine bg_new rfl rfl (by rfl) (by show 27 + 1 ≤ B.1; omega) (by show 5110 + 4 ≤ B.2; omega) (fun h57 f57 g57 => ?_)
  have o := (g57 x (by omega)).trans o
  have hH := hH.kp (fr.one g57) (by omega)
  have hD := hD.kp (fr.one g57) (by omega)
  
  refine bg_dup rfl rfl ?_
  refine bg_aload0 rfl ?_
  refine bg_getfield rfl rfl o (by rfl) ?_
  refine bg_aload0 rfl ?_
  refine bg_getfield rfl rfl o (by rfl) ?_
  refine bg_spec2 rfl rfl rfl rfl ?_
  refine bi_parser f57 (fun hI4 pr gI4 => bk_Kv ?_)
  have o := (gI4 x (by omega)).trans o
  have hH := hH.kp (fr.one gI4) (by omega)
  have hD := hD.kp (fr.one gI4) (by omega)
  
  refine bg_putfield rfl rfl o (by rfl) ⟨rfl, rfl⟩ (by rfl) (fun h72 f72 g72 => ?_)
  have o := f72
  have hH := hH.kp (fr.one g72) (by omega)
  have hD := hD.kp (fr.one g72) (by omega)
  have pr := (g72 _ (by omega)).trans pr
  
  refine bg_aload0 rfl ?_
  refine bg_new rfl rfl (by rfl) (by show 28 + 1 ≤ B.1; omega) (by show 5114 + 5 ≤ B.2; omega) (fun h76 f76 g76 => ?_)
  have o := (g76 x (by omega)).trans o
  have hH := hH.kp (fr.one g76) (by omega)
  have hD := hD.kp (fr.one g76) (by omega)
  have pr := (g76 _ (by omega)).trans pr
  
  refine bg_dup rfl rfl ?_
  refine bg_spec0B (b := (10, 1428)) rfl rfl rfl rfl (by show 29 + 10 ≤ B.1; omega) (by show 5119 + 1428 ≤ B.2; omega) ?_
  refine bi_lore f76 (by omega) (Nat.le_refl _) (Nat.le_refl _) (fun hI5 hLo gI5 => bk_Kv ?_)
  have o := (gI5 x (by omega)).trans o
  have hH := hH.kp gI5 (by omega)
  have hD := hD.kp gI5 (by omega)
  have pr := (gI5 _ (by omega)).trans pr
  
  refine bg_putfield rfl rfl o (by rfl) ⟨rfl, rfl⟩ (by rfl) (fun h83 f83 g83 => ?_)
  have o := f83
  have hH := hH.kp (fr.one g83) (by omega)
  have hD := hD.kp (fr.one g83) (by omega)
  have pr := (g83 _ (by omega)).trans pr
  have hLo := hLo.kp (fr.one g83) (by omega)
  
  refine bg_aload0 rfl ?_
  refine bg_new rfl rfl (by rfl) (by show 39 + 1 ≤ B.1; omega) (by show 6547 + 13 ≤ B.2; omega) (fun h87 f87 g87 => ?_)
  have o := (g87 x (by omega)).trans o
  have hH := hH.kp (fr.one g87) (by omega)
  have hD := hD.kp (fr.one g87) (by omega)
  have pr := (g87 _ (by omega)).trans pr
  have hLo := hLo.kp (fr.one g87) (by omega)
  
  refine bg_dup rfl rfl ?_
  refine bg_spec0B (b := (10, 227)) rfl rfl rfl rfl (by show 40 + 10 ≤ B.1; omega) (by show 6560 + 227 ≤ B.2; omega) ?_
  refine bi_mount f87 (by omega) (Nat.le_refl _) (Nat.le_refl _) (fun hI6 hMo gI6 => bk_Kv ?_)
  have o := (gI6 x (by omega)).trans o
  have hH := hH.kp gI6 (by omega)
  have hD := hD.kp gI6 (by omega)
  have pr := (gI6 _ (by omega)).trans pr
  have hLo := hLo.kp gI6 (by omega)
  
  refine bg_putfield rfl rfl o (by rfl) ⟨rfl, rfl⟩ (by rfl) (fun h94 f94 g94 => ?_)
  have o := f94
  have hH := hH.kp (fr.one g94) (by omega)
  have hD := hD.kp (fr.one g94) (by omega)
  have pr := (g94 _ (by omega)).trans pr
  have hLo := hLo.kp (fr.one g94) (by omega)
  have hMo := hMo.kp (fr.one g94) (by omega)
  
  refine bg_aload0 rfl ?_
  refine bg_new rfl rfl (by rfl) (by show 50 + 1 ≤ B.1; omega) (by show 6787 + 13 ≤ B.2; omega) (fun h98 f98 g98 => ?_)
  have o := (g98 x (by omega)).trans o
  have hH := hH.kp (fr.one g98) (by omega)
  have hD := hD.kp (fr.one g98) (by omega)
  have pr := (g98 _ (by omega)).trans pr
  have hLo := hLo.kp (fr.one g98) (by omega)
  have hMo := hMo.kp (fr.one g98) (by omega)
  
  refine bg_dup rfl rfl ?_
  refine bg_spec0B (b := (10, 227)) rfl rfl rfl rfl (by show 51 + 10 ≤ B.1; omega) (by show 6800 + 227 ≤ B.2; omega) ?_
  refine bi_mount f98 (by omega) (Nat.le_refl _) (Nat.le_refl _) (fun hI7 hMt gI7 => bk_Kv ?_)
  have o := (gI7 x (by omega)).trans o
  have hH := hH.kp gI7 (by omega)
  have hD := hD.kp gI7 (by omega)
  have pr := (gI7 _ (by omega)).trans pr
  have hLo := hLo.kp gI7 (by omega)
  have hMo := hMo.kp gI7 (by omega)
  
  refine bg_putfield rfl rfl o (by rfl) ⟨rfl, rfl⟩ (by rfl) (fun h105 f105 g105 => ?_)
  have o := f105
  have hH := hH.kp (fr.one g105) (by omega)
  have hD := hD.kp (fr.one g105) (by omega)
  have pr := (g105 _ (by omega)).trans pr
  have hLo := hLo.kp (fr.one g105) (by omega)
  have hMo := hMo.kp (fr.one g105) (by omega)
  have hMt := hMt.kp (fr.one g105) (by omega)
  
  refine bg_aload0 rfl ?_
  refine bg_new rfl rfl (by rfl) (by show 61 + 1 ≤ B.1; omega) (by show 7027 + 4 ≤ B.2; omega) (fun h109 f109 g109 => ?_)
  have o := (g109 x (by omega)).trans o
  have hH := hH.kp (fr.one g109) (by omega)
  have hD := hD.kp (fr.one g109) (by omega)
  have pr := (g109 _ (by omega)).trans pr
  have hLo := hLo.kp (fr.one g109) (by omega)
  have hMo := hMo.kp (fr.one g109) (by omega)
  have hMt := hMt.kp (fr.one g109) (by omega)
  
  refine bg_dup rfl rfl ?_
  refine bg_aload0 rfl ?_
  refine bg_getfield rfl rfl o (by rfl) ?_
  refine bg_aload0 rfl ?_
  refine bg_getfield rfl rfl o (by rfl) ?_
  refine bg_spec2B (b := (3, 74)) rfl rfl rfl rfl (by show 62 + 3 ≤ B.1; omega) (by show 7031 + 74 ≤ B.2; omega) ?_
  refine bi_course f109 (by omega) (Nat.le_refl _) (Nat.le_refl _) (fun hI8 hCo gI8 => bk_Kv ?_)
  have o := (gI8 x (by omega)).trans o
  have hH := hH.kp gI8 (by omega)
  have hD := hD.kp gI8 (by omega)
  have pr := (gI8 _ (by omega)).trans pr
  have hLo := hLo.kp gI8 (by omega)
  have hMo := hMo.kp gI8 (by omega)
  have hMt := hMt.kp gI8 (by omega)
  
  refine bg_putfield rfl rfl o (by rfl) ⟨rfl, rfl⟩ (by rfl) (fun h124 f124 g124 => ?_)
  have o := f124
  have hH := hH.kp (fr.one g124) (by omega)
  have hD := hD.kp (fr.one g124) (by omega)
  have pr := (g124 _ (by omega)).trans pr
  have hLo := hLo.kp (fr.one g124) (by omega)
  have hMo := hMo.kp (fr.one g124) (by omega)
  have hMt := hMt.kp (fr.one g124) (by omega)
  have hCo := hCo.kp (fr.one g124) (by omega)
  
  refine bg_aload0 rfl ?_
  refine bg_new rfl rfl (by rfl) (by show 65 + 1 ≤ B.1; omega) (by show 7105 + 4 ≤ B.2; omega) (fun h128 f128 g128 => ?_)
  have o := (g128 x (by omega)).trans o
  have hH := hH.kp (fr.one g128) (by omega)
  have hD := hD.kp (fr.one g128) (by omega)
  have pr := (g128 _ (by omega)).trans pr
  have hLo := hLo.kp (fr.one g128) (by omega)
  have hMo := hMo.kp (fr.one g128) (by omega)
  have hMt := hMt.kp (fr.one g128) (by omega)
  have hCo := hCo.kp (fr.one g128) (by omega)
  
  refine bg_dup rfl rfl ?_
  refine bg_aload0 rfl ?_
  refine bg_getfield rfl rfl o (by rfl) ?_
  refine bg_aload0 rfl ?_
  refine bg_getfield rfl rfl o (by rfl) ?_
  refine bg_spec2B (b := (3, 74)) rfl rfl rfl rfl (by show 66 + 3 ≤ B.1; omega) (by show 7109 + 74 ≤ B.2; omega) ?_
  refine bi_course f128 (by omega) (Nat.le_refl _) (Nat.le_refl _) (fun hI9 hCt gI9 => bk_Kv ?_)
  have o := (gI9 x (by omega)).trans o
  have hH := hH.kp gI9 (by omega)
  have hD := hD.kp gI9 (by omega)
  have pr := (gI9 _ (by omega)).trans pr
  have hLo := hLo.kp gI9 (by omega)
  have hMo := hMo.kp gI9 (by omega)
  have hMt := hMt.kp gI9 (by omega)
  have hCo := hCo.kp gI9 (by omega)
  
  refine bg_putfield rfl rfl o (by rfl) ⟨rfl, rfl⟩ (by rfl) (fun h143 f143 g143 => ?_)
  have o := f143
  have hH := hH.kp (fr.one g143) (by omega)
  have hD := hD.kp (fr.one g143) (by omega)
  have pr := (g143 _ (by omega)).trans pr
  have hLo := hLo.kp (fr.one g143) (by omega)
  have hMo := hMo.kp (fr.one g143) (by omega)
  have hMt := hMt.kp (fr.one g143) (by omega)
  have hCo := hCo.kp (fr.one g143) (by omega)
  have hCt := hCt.kp (fr.one g143) (by omega)
  
  refine bg_aload0 rfl ?_
  refine bg_iconst rfl ?_
  refine bg_putfield rfl rfl o (by rfl) ⟨rfl, rfl⟩ (by rfl) (fun h148 f148 g148 => ?_)
  have o := f148
  have hH := hH.kp (fr.one g148) (by omega)
  have hD := hD.kp (fr.one g148) (by omega)
  have pr := (g148 _ (by omega)).trans pr
  have hLo := hLo.kp (fr.one g148) (by omega)
  have hMo := hMo.kp (fr.one g148) (by omega)
  have hMt := hMt.kp (fr.one g148) (by omega)
  have hCo := hCo.kp (fr.one g148) (by omega)
  have hCt := hCt.kp (fr.one g148) (by omega)
  
  refine bg_ret rfl rfl ?_
  refine hQ _ ⟨_, _, _, _, _, _, (0, (fun _ => []), 0), _, _, _, hH, ⟨hD, pr⟩, hLo, hMo, hMt, hCo, hCt, o⟩ (fun q hq => ?_)
  rw [g148 q (by omega), g143 q (by omega), gI9 q (by omega), g128 q (by omega), g124 q (by omega), gI8 q (by omega), g109 q (by omega), g105 q (by omega), gI7 q (by omega), g98 q (by omega), g94 q (by omega), gI6 q (by omega), g87 q (by omega), g83 q (by omega), gI5 q (by omega), g76 q (by omega), g72 q (by omega), gI4 q (by omega), g57 q (by omega), g53 q (by omega), gI3 q (by omega), g46 q (by omega), g42 q (by omega), gI2 q (by omega), g31 q (by omega), g27 q (by omega), gI1 q (by omega), g16 q (by omega), g12 q (by omega), gI0 q (by omega), g5 q (by omega)]
-- 69 7183
end CMm
