/-! The parser's lines, on. Printed by wip/whole/mk36.py. -/
theorem tkS_p {K : Nat → Int32} {k : Int32} {s : bP} (h : (tkS K k s).1 = true) : K s.1 = k ∧ (tkS K k s).2 = (s.1 + 1, s.2) := by
  unfold tkS at h ⊢
  by_cases e : K s.1 = k
  · rw [if_pos e]
    exact ⟨e, rfl⟩
  · rw [if_neg e] at h
    exact Bool.noConfusion h
theorem tkS_q {K : Nat → Int32} {k : Int32} {s : bP} (h : ¬ (tkS K k s).1 = true) : ¬ K s.1 = k ∧ (tkS K k s).2 = s := by
  unfold tkS at h ⊢
  by_cases e : K s.1 = k
  · rw [if_pos e] at h
    exact absurd rfl h
  · rw [if_neg e]
    exact ⟨e, rfl⟩
section BP
variable {V : bk_V} {D n : Nat} {B : Nat × Nat} {Q : bk_R → bk_H → Nat → Prop} {h : bk_H} {dr tk tp p N : Nat} {T : List Int32} {rows : bT} {f K : Nat → Int32} {g : Nat → Int64} {s : bP} {cs : Nat × Nat}
theorem bs_bark (hF : ∀ i, i < N → f i = K i) (hN : N ≤ 401) (hE : K (N - 1) = 47 ∨ K (N - 1) = 0) (hv : SV N s) (hX : XS h dr tk tp T p rows f g s) (hQ : ∀ h', XS h' dr tk tp T p rows f g (lnBark K rows s).2 → fr h h' dr (dr + 12) → Q (.inl (some (.int (if (lnBark K rows s).1 = true then 1 else 0)))) h' n) : bk_wp V (D + 58) 45 [.ref (dr + 11)] h n B Q := by
  unfold lnBark at hQ
  have hL := hX.L
  obtain ⟨l0, l1, l2, l3, l4, l5⟩ := id hL
  obtain ⟨hK, -, p0, htk⟩ := id hX
  refine bg_in rfl rfl ?_
  refine bg_aload0 rfl ?_
  refine bg_getfield rfl rfl p0 (by rfl) ?_
  refine bg_getfield rfl rfl l0 (by rfl) ?_
  refine bg_virt0 rfl rfl rfl rfl ⟨_, l1.1⟩ ?_
  refine bt_addC l1 (fun hA kA gA => bk_Ki ?_)
  have hXA : XS hA dr tk tp T p rows f g (adS 0 2 5 s) := hX.up (hL.t0 kA gA) (gA.wide (by omega) (by omega))
  have gx : fr h hA dr (dr + 12) := gA.wide (by omega) (by omega)
  have hvA : SV N (adS 0 2 5 s) := hv
  have hL := hXA.L
  obtain ⟨l0, l1, l2, l3, l4, l5⟩ := id hL
  obtain ⟨hK, -, p0, htk⟩ := id hXA
  refine bg_istore1 rfl rfl ?_
  refine bg_aload0 rfl ?_
  refine bg_iconst rfl ?_
  refine bg_virt1 rfl rfl rfl rfl ⟨_, p0⟩ ?_
  refine bs_take hF hN hvA hXA (fun hB hXB gB => bk_Ki ?_)
  have gx := gx.trans gB
  have v1 := tkS_k (k := 1) hE hvA (by decide) (by decide)
  have hL := hXB.L
  obtain ⟨l0, l1, l2, l3, l4, l5⟩ := id hL
  obtain ⟨hK, -, p0, htk⟩ := id hXB
  refine bg_ifeq_b rfl (fun e16 => ?_) (fun e16 => ?_)
  · rw [sqS_f e16, if_neg e16] at hQ
    have hfin := hQ hB hXB gx
    refine bg_iconst rfl ?_
    refine bg_iret rfl rfl (by rfl) ?_
    exact hfin
  · rw [sqS_t e16] at hQ
    refine bg_aload0 rfl ?_
    refine bg_bipush rfl ?_
    refine bg_virt1 rfl rfl rfl rfl ⟨_, p0⟩ ?_
    refine bs_take hF hN v1.1 hXB (fun hC hXC gC => bk_Ki ?_)
    have gx := gx.trans gC
    have v2 := tkS_k (k := 30) hE v1.1 (by decide) (by decide)
    have hL := hXC.L
    obtain ⟨l0, l1, l2, l3, l4, l5⟩ := id hL
    obtain ⟨hK, -, p0, htk⟩ := id hXC
    refine bg_ifeq_b rfl (fun e25 => ?_) (fun e25 => ?_)
    · rw [sqS_f e25, if_neg e25] at hQ
      have hfin := hQ hC hXC gx
      refine bg_iconst rfl ?_
      refine bg_iret rfl rfl (by rfl) ?_
      exact hfin
    · rw [sqS_t e25] at hQ
      refine bg_aload0 rfl ?_
      refine bg_iconst rfl ?_
      refine bg_aload0 rfl ?_
      refine bg_getfield rfl rfl p0 (by rfl) ?_
      refine bg_getfield rfl rfl l0 (by rfl) ?_
      refine bg_iload1 rfl ?_
      refine bg_iconst rfl ?_
      refine bg_virt4 rfl rfl rfl rfl ⟨_, p0⟩ ?_
      refine bs_num0 hF hN hE (by decide) (by decide) rfl (by decide) v2.1 hXC (fun hD1 hXD gD => bk_Ki ?_)
      have gx := gx.trans gD
      have wD := tnS_k (rows := rows) (i := 0) (c := 0) (k := 2) (x := adI (s.2.1 0) 5) hE (by decide) v2.1 (by decide) (by decide)
      have hL := hXD.L
      obtain ⟨l0, l1, l2, l3, l4, l5⟩ := id hL
      obtain ⟨hK, -, p0, htk⟩ := id hXD
      refine bg_ifeq_b rfl (fun e42 => ?_) (fun e42 => ?_)
      · rw [sqS_f e42, if_neg e42] at hQ
        have hfin := hQ hD1 hXD gx
        refine bg_iconst rfl ?_
        refine bg_iret rfl rfl (by rfl) ?_
        exact hfin
      · rw [sqS_t e42] at hQ
        refine bg_aload0 rfl ?_
        refine bg_iconst rfl ?_
        refine bg_aload0 rfl ?_
        refine bg_getfield rfl rfl p0 (by rfl) ?_
        refine bg_getfield rfl rfl l0 (by rfl) ?_
        refine bg_iload1 rfl ?_
        refine bg_iconst rfl ?_
        refine bg_virt4 rfl rfl rfl rfl ⟨_, p0⟩ ?_
        refine bs_num0 hF hN hE (by decide) (by decide) rfl (by decide) wD.1 hXD (fun hE1 hXE gE => bk_Ki ?_)
        have gx := gx.trans gE
        have wE := tnS_k (rows := rows) (i := 0) (c := 1) (k := 3) (x := adI (s.2.1 0) 5) hE (by decide) wD.1 (by decide) (by decide)
        have hL := hXE.L
        obtain ⟨l0, l1, l2, l3, l4, l5⟩ := id hL
        obtain ⟨hK, -, p0, htk⟩ := id hXE
        refine bg_ifeq_b rfl (fun e59 => ?_) (fun e59 => ?_)
        · rw [if_neg e59] at hQ
          have hfin := hQ hE1 hXE gx
          refine bg_iconst rfl ?_
          refine bg_iret rfl rfl (by rfl) ?_
          exact hfin
        · rw [if_pos e59] at hQ
          have hfin := hQ hE1 hXE gx
          refine bg_iconst rfl ?_
          refine bg_goto rfl ?_
          refine bg_iret rfl rfl (by rfl) ?_
          exact hfin
theorem bs_beater (hF : ∀ i, i < N → f i = K i) (hN : N ≤ 401) (hE : K (N - 1) = 47 ∨ K (N - 1) = 0) (hv : SV N s) (hX : XS h dr tk tp T p rows f g s) (hQ : ∀ h', XS h' dr tk tp T p rows f g (lnBeater K rows s).2 → fr h h' dr (dr + 12) → Q (.inl (some (.int (if (lnBeater K rows s).1 = true then 1 else 0)))) h' n) : bk_wp V (D + 58) 46 [.ref (dr + 11)] h n B Q := by
  unfold lnBeater at hQ
  have hL := hX.L
  obtain ⟨l0, l1, l2, l3, l4, l5⟩ := id hL
  obtain ⟨hK, -, p0, htk⟩ := id hX
  refine bg_in rfl rfl ?_
  refine bg_aload0 rfl ?_
  refine bg_getfield rfl rfl p0 (by rfl) ?_
  refine bg_getfield rfl rfl l0 (by rfl) ?_
  refine bg_virt0 rfl rfl rfl rfl ⟨_, l2.1⟩ ?_
  refine bt_addC l2 (fun hA kA gA => bk_Ki ?_)
  have hXA : XS hA dr tk tp T p rows f g (adS 1 2 6 s) := hX.up (hL.t1 kA gA) (gA.wide (by omega) (by omega))
  have gx : fr h hA dr (dr + 12) := gA.wide (by omega) (by omega)
  have hvA : SV N (adS 1 2 6 s) := hv
  have hL := hXA.L
  obtain ⟨l0, l1, l2, l3, l4, l5⟩ := id hL
  obtain ⟨hK, -, p0, htk⟩ := id hXA
  refine bg_istore1 rfl rfl ?_
  refine bg_aload0 rfl ?_
  refine bg_iconst rfl ?_
  refine bg_virt1 rfl rfl rfl rfl ⟨_, p0⟩ ?_
  refine bs_take hF hN hvA hXA (fun hB hXB gB => bk_Ki ?_)
  have gx := gx.trans gB
  have v1 := tkS_k (k := 4) hE hvA (by decide) (by decide)
  have hL := hXB.L
  obtain ⟨l0, l1, l2, l3, l4, l5⟩ := id hL
  obtain ⟨hK, -, p0, htk⟩ := id hXB
  refine bg_ifeq_b rfl (fun e16 => ?_) (fun e16 => ?_)
  · rw [sqS_f e16, if_neg e16] at hQ
    have hfin := hQ hB hXB gx
    refine bg_iconst rfl ?_
    refine bg_iret rfl rfl (by rfl) ?_
    exact hfin
  · rw [sqS_t e16] at hQ
    refine bg_aload0 rfl ?_
    refine bg_bipush rfl ?_
    refine bg_virt1 rfl rfl rfl rfl ⟨_, p0⟩ ?_
    refine bs_take hF hN v1.1 hXB (fun hC hXC gC => bk_Ki ?_)
    have gx := gx.trans gC
    have v2 := tkS_k (k := 30) hE v1.1 (by decide) (by decide)
    have hL := hXC.L
    obtain ⟨l0, l1, l2, l3, l4, l5⟩ := id hL
    obtain ⟨hK, -, p0, htk⟩ := id hXC
    refine bg_ifeq_b rfl (fun e25 => ?_) (fun e25 => ?_)
    · rw [sqS_f e25, if_neg e25] at hQ
      have hfin := hQ hC hXC gx
      refine bg_iconst rfl ?_
      refine bg_iret rfl rfl (by rfl) ?_
      exact hfin
    · rw [sqS_t e25] at hQ
      refine bg_aload0 rfl ?_
      refine bg_iconst rfl ?_
      refine bg_aload0 rfl ?_
      refine bg_getfield rfl rfl p0 (by rfl) ?_
      refine bg_getfield rfl rfl l0 (by rfl) ?_
      refine bg_iload1 rfl ?_
      refine bg_iconst rfl ?_
      refine bg_virt4 rfl rfl rfl rfl ⟨_, p0⟩ ?_
      refine bs_num1 hF hN hE (by decide) (by decide) rfl (by decide) v2.1 hXC (fun hD1 hXD gD => bk_Ki ?_)
      have gx := gx.trans gD
      have wD := tnS_k (rows := rows) (i := 1) (c := 0) (k := 5) (x := adI (s.2.1 1) 6) hE (by decide) v2.1 (by decide) (by decide)
      have hL := hXD.L
      obtain ⟨l0, l1, l2, l3, l4, l5⟩ := id hL
      obtain ⟨hK, -, p0, htk⟩ := id hXD
      refine bg_ifeq_b rfl (fun e42 => ?_) (fun e42 => ?_)
      · rw [sqS_f e42, if_neg e42] at hQ
        have hfin := hQ hD1 hXD gx
        refine bg_iconst rfl ?_
        refine bg_iret rfl rfl (by rfl) ?_
        exact hfin
      · rw [sqS_t e42] at hQ
        refine bg_aload0 rfl ?_
        refine bg_bipush rfl ?_
        refine bg_aload0 rfl ?_
        refine bg_getfield rfl rfl p0 (by rfl) ?_
        refine bg_getfield rfl rfl l0 (by rfl) ?_
        refine bg_iload1 rfl ?_
        refine bg_iconst rfl ?_
        refine bg_virt4 rfl rfl rfl rfl ⟨_, p0⟩ ?_
        refine bs_num1 hF hN hE (by decide) (by decide) rfl (by decide) wD.1 hXD (fun hE1 hXE gE => bk_Ki ?_)
        have gx := gx.trans gE
        have wE := tnS_k (rows := rows) (i := 1) (c := 1) (k := 6) (x := adI (s.2.1 1) 6) hE (by decide) wD.1 (by decide) (by decide)
        have hL := hXE.L
        obtain ⟨l0, l1, l2, l3, l4, l5⟩ := id hL
        obtain ⟨hK, -, p0, htk⟩ := id hXE
        refine bg_ifeq_b rfl (fun e60 => ?_) (fun e60 => ?_)
        · rw [if_neg e60] at hQ
          have hfin := hQ hE1 hXE gx
          refine bg_iconst rfl ?_
          refine bg_iret rfl rfl (by rfl) ?_
          exact hfin
        · rw [if_pos e60] at hQ
          have hfin := hQ hE1 hXE gx
          refine bg_iconst rfl ?_
          refine bg_goto rfl ?_
          refine bg_iret rfl rfl (by rfl) ?_
          exact hfin
theorem bs_spirit (hF : ∀ i, i < N → f i = K i) (hN : N ≤ 401) (hE : K (N - 1) = 47 ∨ K (N - 1) = 0) (hv : SV N s) (hX : XS h dr tk tp T p rows f g s) (hQ : ∀ h', XS h' dr tk tp T p rows f g (lnSpirit K rows s).2 → fr h h' dr (dr + 12) → Q (.inl (some (.int (if (lnSpirit K rows s).1 = true then 1 else 0)))) h' n) : bk_wp V (D + 58) 47 [.ref (dr + 11)] h n B Q := by
  unfold lnSpirit at hQ
  have hL := hX.L
  obtain ⟨l0, l1, l2, l3, l4, l5⟩ := id hL
  obtain ⟨hK, -, p0, htk⟩ := id hX
  refine bg_in rfl rfl ?_
  refine bg_aload0 rfl ?_
  refine bg_getfield rfl rfl p0 (by rfl) ?_
  refine bg_getfield rfl rfl l0 (by rfl) ?_
  refine bg_virt0 rfl rfl rfl rfl ⟨_, l3.1⟩ ?_
  refine bt_addC l3 (fun hA kA gA => bk_Ki ?_)
  have hXA : XS hA dr tk tp T p rows f g (adS 2 3 6 s) := hX.up (hL.t2 kA gA) (gA.wide (by omega) (by omega))
  have gx : fr h hA dr (dr + 12) := gA.wide (by omega) (by omega)
  have hvA : SV N (adS 2 3 6 s) := hv
  have hL := hXA.L
  obtain ⟨l0, l1, l2, l3, l4, l5⟩ := id hL
  obtain ⟨hK, -, p0, htk⟩ := id hXA
  refine bg_istore1 rfl rfl ?_
  refine bg_aload0 rfl ?_
  refine bg_bipush rfl ?_
  refine bg_virt1 rfl rfl rfl rfl ⟨_, p0⟩ ?_
  refine bs_take hF hN hvA hXA (fun hB hXB gB => bk_Ki ?_)
  have gx := gx.trans gB
  have v1 := tkS_k (k := 7) hE hvA (by decide) (by decide)
  have hL := hXB.L
  obtain ⟨l0, l1, l2, l3, l4, l5⟩ := id hL
  obtain ⟨hK, -, p0, htk⟩ := id hXB
  refine bg_ifeq_b rfl (fun e17 => ?_) (fun e17 => ?_)
  · rw [sqS_f e17, if_neg e17] at hQ
    have hfin := hQ hB hXB gx
    refine bg_iconst rfl ?_
    refine bg_iret rfl rfl (by rfl) ?_
    exact hfin
  · rw [sqS_t e17] at hQ
    refine bg_aload0 rfl ?_
    refine bg_bipush rfl ?_
    refine bg_virt1 rfl rfl rfl rfl ⟨_, p0⟩ ?_
    refine bs_take hF hN v1.1 hXB (fun hC hXC gC => bk_Ki ?_)
    have gx := gx.trans gC
    have v2 := tkS_k (k := 30) hE v1.1 (by decide) (by decide)
    have hL := hXC.L
    obtain ⟨l0, l1, l2, l3, l4, l5⟩ := id hL
    obtain ⟨hK, -, p0, htk⟩ := id hXC
    refine bg_ifeq_b rfl (fun e26 => ?_) (fun e26 => ?_)
    · rw [sqS_f e26, if_neg e26] at hQ
      have hfin := hQ hC hXC gx
      refine bg_iconst rfl ?_
      refine bg_iret rfl rfl (by rfl) ?_
      exact hfin
    · rw [sqS_t e26] at hQ
      refine bg_aload0 rfl ?_
      refine bg_bipush rfl ?_
      refine bg_aload0 rfl ?_
      refine bg_getfield rfl rfl p0 (by rfl) ?_
      refine bg_getfield rfl rfl l0 (by rfl) ?_
      refine bg_iload1 rfl ?_
      refine bg_iconst rfl ?_
      refine bg_virt4 rfl rfl rfl rfl ⟨_, p0⟩ ?_
      refine bs_num2 hF hN hE (by decide) (by decide) rfl (by decide) v2.1 hXC (fun hD1 hXD gD => bk_Ki ?_)
      have gx := gx.trans gD
      have wD := tnS_k (rows := rows) (i := 2) (c := 0) (k := 8) (x := adI (s.2.1 2) 6) hE (by decide) v2.1 (by decide) (by decide)
      have hL := hXD.L
      obtain ⟨l0, l1, l2, l3, l4, l5⟩ := id hL
      obtain ⟨hK, -, p0, htk⟩ := id hXD
      refine bg_ifeq_b rfl (fun e44 => ?_) (fun e44 => ?_)
      · rw [sqS_f e44, if_neg e44] at hQ
        have hfin := hQ hD1 hXD gx
        refine bg_iconst rfl ?_
        refine bg_iret rfl rfl (by rfl) ?_
        exact hfin
      · rw [sqS_t e44] at hQ
        refine bg_aload0 rfl ?_
        refine bg_bipush rfl ?_
        refine bg_aload0 rfl ?_
        refine bg_getfield rfl rfl p0 (by rfl) ?_
        refine bg_getfield rfl rfl l0 (by rfl) ?_
        refine bg_iload1 rfl ?_
        refine bg_iconst rfl ?_
        refine bg_virt4 rfl rfl rfl rfl ⟨_, p0⟩ ?_
        refine bs_num2 hF hN hE (by decide) (by decide) rfl (by decide) wD.1 hXD (fun hE1 hXE gE => bk_Ki ?_)
        have gx := gx.trans gE
        have wE := tnS_k (rows := rows) (i := 2) (c := 1) (k := 9) (x := adI (s.2.1 2) 6) hE (by decide) wD.1 (by decide) (by decide)
        have hL := hXE.L
        obtain ⟨l0, l1, l2, l3, l4, l5⟩ := id hL
        obtain ⟨hK, -, p0, htk⟩ := id hXE
        refine bg_ifeq_b rfl (fun e62 => ?_) (fun e62 => ?_)
        · rw [sqS_f e62, if_neg e62] at hQ
          have hfin := hQ hE1 hXE gx
          refine bg_iconst rfl ?_
          refine bg_iret rfl rfl (by rfl) ?_
          exact hfin
        · rw [sqS_t e62] at hQ
          refine bg_aload0 rfl ?_
          refine bg_bipush rfl ?_
          refine bg_aload0 rfl ?_
          refine bg_getfield rfl rfl p0 (by rfl) ?_
          refine bg_getfield rfl rfl l0 (by rfl) ?_
          refine bg_iload1 rfl ?_
          refine bg_iconst rfl ?_
          refine bg_virt4 rfl rfl rfl rfl ⟨_, p0⟩ ?_
          refine bs_num2 hF hN hE (by decide) (by decide) rfl (by decide) wE.1 hXE (fun hG1 hXG gG => bk_Ki ?_)
          have gx := gx.trans gG
          have wG := tnS_k (rows := rows) (i := 2) (c := 2) (k := 10) (x := adI (s.2.1 2) 6) hE (by decide) wE.1 (by decide) (by decide)
          have hL := hXG.L
          obtain ⟨l0, l1, l2, l3, l4, l5⟩ := id hL
          obtain ⟨hK, -, p0, htk⟩ := id hXG
          refine bg_ifeq_b rfl (fun e80 => ?_) (fun e80 => ?_)
          · rw [if_neg e80] at hQ
            have hfin := hQ hG1 hXG gx
            refine bg_iconst rfl ?_
            refine bg_iret rfl rfl (by rfl) ?_
            exact hfin
          · rw [if_pos e80] at hQ
            have hfin := hQ hG1 hXG gx
            refine bg_iconst rfl ?_
            refine bg_goto rfl ?_
            refine bg_iret rfl rfl (by rfl) ?_
            exact hfin
theorem bs_pair {a b : Int32} (a1 : ¬ a = 47) (a2 : ¬ a = 0) (b1 : ¬ b = 47) (b2 : ¬ b = 0) (hF : ∀ i, i < N → f i = K i) (hN : N ≤ 401) (hE : K (N - 1) = 47 ∨ K (N - 1) = 0) (hv : SV N s) (hX : XS h dr tk tp T p rows f g s) (hQ : ∀ h', XS h' dr tk tp T p rows f g (lnPair K rows a b s).2 → fr h h' dr (dr + 12) → Q (.inl (some (.int (if (lnPair K rows a b s).1 = true then 1 else 0)))) h' n) : bk_wp V (D + 58) 49 [.ref (dr + 11), .int a, .int b] h n B Q := by
  unfold lnPair at hQ
  have hL := hX.L
  obtain ⟨l0, l1, l2, l3, l4, l5⟩ := id hL
  obtain ⟨hK, -, p0, htk⟩ := id hX
  refine bg_in rfl rfl ?_
  refine bg_aload0 rfl ?_
  refine bg_aload0 rfl ?_
  refine bg_getfield rfl rfl p0 (by rfl) ?_
  refine bg_getfield rfl rfl l0 (by rfl) ?_
  refine bg_virt0 rfl rfl rfl rfl ⟨_, l4.1⟩ ?_
  refine bt_addC l4 (fun hA kA gA => bk_Ki ?_)
  have hXA : XS hA dr tk tp T p rows f g (s.1, uT s.2.1 3 (adT (s.2.1 3) 7 24), s.2.2) := hX.up (hL.t3 kA gA) (gA.wide (by omega) (by omega))
  have gx : fr h hA dr (dr + 12) := gA.wide (by omega) (by omega)
  have hL := hXA.L
  obtain ⟨l0, l1, l2, l3, l4, l5⟩ := id hL
  obtain ⟨hK, -, p0, htk⟩ := id hXA
  refine bg_putfield rfl rfl p0 (by rfl) ⟨rfl, rfl⟩ (by rfl) (fun h11 f11 g11 => ?_)
  have hXB : XS h11 dr tk tp T p rows f g (adO s) := hXA.od f11 g11
  have gx := gx.trans ((fr.one g11).wide (by omega) (by omega))
  have hL := hXB.L
  obtain ⟨l0, l1, l2, l3, l4, l5⟩ := id hL
  obtain ⟨hK, -, p0, htk⟩ := id hXB
  refine bg_aload0 rfl ?_
  refine bg_getfield rfl rfl p0 (by rfl) ?_
  refine bg_getfield rfl rfl l0 (by rfl) ?_
  refine bg_aload0 rfl ?_
  refine bg_getfield rfl rfl p0 (by rfl) ?_
  refine bg_iconst rfl ?_
  refine bg_iload1 rfl ?_
  refine bg_virt3 rfl rfl rfl rfl ⟨_, l4.1⟩ ?_
  refine bt_set l4 rfl (by decide) (fun hC kC gC => bk_Kv ?_)
  have hXC : XS hC dr tk tp T p rows f g (stO 0 a (adO s)) := hXB.up (hL.t3 kC gC) (gC.wide (by omega) (by omega))
  have gx := gx.trans (gC.wide (by omega) (by omega))
  have hvC : SV N (stO 0 a (adO s)) := hv
  have hL := hXC.L
  obtain ⟨l0, l1, l2, l3, l4, l5⟩ := id hL
  obtain ⟨hK, -, p0, htk⟩ := id hXC
  refine bg_aload0 rfl ?_
  refine bg_iload1 rfl ?_
  refine bg_iconst rfl ?_
  refine bg_virt2 rfl rfl rfl rfl ⟨_, p0⟩ ?_
  refine bs_name hF hN hE a1 a2 rfl (by decide) hvC hXC (fun hD hXD gD => bk_Ki ?_)
  have gx := gx.trans gD
  have v1 := tmS_k (rows := rows) (c := 1) hE hvC a1 a2
  have hL := hXD.L
  obtain ⟨l0, l1, l2, l3, l4, l5⟩ := id hL
  obtain ⟨hK, -, p0, htk⟩ := id hXD
  refine bg_ifeq_b rfl (fun e36 => ?_) (fun e36 => ?_)
  · rw [sqS_f e36, if_neg e36] at hQ
    have hfin := hQ hD hXD gx
    refine bg_iconst rfl ?_
    refine bg_iret rfl rfl (by rfl) ?_
    exact hfin
  · rw [sqS_t e36] at hQ
    refine bg_aload0 rfl ?_
    refine bg_iload2 rfl ?_
    refine bg_iconst rfl ?_
    refine bg_virt2 rfl rfl rfl rfl ⟨_, p0⟩ ?_
    refine bs_name hF hN hE b1 b2 rfl (by decide) v1.1 hXD (fun hE1 hXE gE => bk_Ki ?_)
    have gx := gx.trans gE
    refine bg_ifeq_b rfl (fun e45 => ?_) (fun e45 => ?_)
    · rw [if_neg e45] at hQ
      have hfin := hQ hE1 hXE gx
      refine bg_iconst rfl ?_
      refine bg_iret rfl rfl (by rfl) ?_
      exact hfin
    · rw [if_pos e45] at hQ
      have hfin := hQ hE1 hXE gx
      refine bg_iconst rfl ?_
      refine bg_goto rfl ?_
      refine bg_iret rfl rfl (by rfl) ?_
      exact hfin
theorem bs_soak (hF : ∀ i, i < N → f i = K i) (hN : N ≤ 401) (hE : K (N - 1) = 47 ∨ K (N - 1) = 0) (hv : SV N s) (hX : XS h dr tk tp T p rows f g s) (hQ : ∀ h', XS h' dr tk tp T p rows f g (lnSoak K rows s).2 → fr h h' dr (dr + 12) → Q (.inl (some (.int (if (lnSoak K rows s).1 = true then 1 else 0)))) h' n) : bk_wp V (D + 58) 48 [.ref (dr + 11)] h n B Q := by
  unfold lnSoak at hQ
  have hL := hX.L
  obtain ⟨l0, l1, l2, l3, l4, l5⟩ := id hL
  obtain ⟨hK, -, p0, htk⟩ := id hX
  refine bg_in rfl rfl ?_
  refine bg_aload0 rfl ?_
  refine bg_aload0 rfl ?_
  refine bg_getfield rfl rfl p0 (by rfl) ?_
  refine bg_getfield rfl rfl l0 (by rfl) ?_
  refine bg_virt0 rfl rfl rfl rfl ⟨_, l4.1⟩ ?_
  refine bt_addC l4 (fun hA kA gA => bk_Ki ?_)
  have hXA : XS hA dr tk tp T p rows f g (s.1, uT s.2.1 3 (adT (s.2.1 3) 7 24), s.2.2) := hX.up (hL.t3 kA gA) (gA.wide (by omega) (by omega))
  have gx : fr h hA dr (dr + 12) := gA.wide (by omega) (by omega)
  have hL := hXA.L
  obtain ⟨l0, l1, l2, l3, l4, l5⟩ := id hL
  obtain ⟨hK, -, p0, htk⟩ := id hXA
  refine bg_putfield rfl rfl p0 (by rfl) ⟨rfl, rfl⟩ (by rfl) (fun h11 f11 g11 => ?_)
  have hXB : XS h11 dr tk tp T p rows f g (adO s) := hXA.od f11 g11
  have gx := gx.trans ((fr.one g11).wide (by omega) (by omega))
  have hL := hXB.L
  obtain ⟨l0, l1, l2, l3, l4, l5⟩ := id hL
  obtain ⟨hK, -, p0, htk⟩ := id hXB
  refine bg_aload0 rfl ?_
  refine bg_getfield rfl rfl p0 (by rfl) ?_
  refine bg_getfield rfl rfl l0 (by rfl) ?_
  refine bg_aload0 rfl ?_
  refine bg_getfield rfl rfl p0 (by rfl) ?_
  refine bg_iconst rfl ?_
  refine bg_bipush rfl ?_
  refine bg_virt3 rfl rfl rfl rfl ⟨_, l4.1⟩ ?_
  refine bt_set l4 rfl (by decide) (fun hC kC gC => bk_Kv ?_)
  have hXC : XS hC dr tk tp T p rows f g (stO 0 11 (adO s)) := hXB.up (hL.t3 kC gC) (gC.wide (by omega) (by omega))
  have gx := gx.trans (gC.wide (by omega) (by omega))
  have hvC : SV N (stO 0 11 (adO s)) := hv
  have hL := hXC.L
  obtain ⟨l0, l1, l2, l3, l4, l5⟩ := id hL
  obtain ⟨hK, -, p0, htk⟩ := id hXC
  refine bg_aload0 rfl ?_
  refine bg_bipush rfl ?_
  refine bg_iconst rfl ?_
  refine bg_virt2 rfl rfl rfl rfl ⟨_, p0⟩ ?_
  refine bs_name hF hN hE (by decide) (by decide) rfl (by decide) hvC hXC (fun hD hXD gD => bk_Ki ?_)
  have gx := gx.trans gD
  have v1 := tmS_k (rows := rows) (c := 1) (k := 11) hE hvC (by decide) (by decide)
  have hL := hXD.L
  obtain ⟨l0, l1, l2, l3, l4, l5⟩ := id hL
  obtain ⟨hK, -, p0, htk⟩ := id hXD
  refine bg_ifeq_b rfl (fun e38 => ?_) (fun e38 => ?_)
  · rw [sqS_f e38, if_neg e38] at hQ
    have hfin := hQ hD hXD gx
    refine bg_iconst rfl ?_
    refine bg_iret rfl rfl (by rfl) ?_
    exact hfin
  · rw [sqS_t e38] at hQ
    refine bg_aload0 rfl ?_
    refine bg_bipush rfl ?_
    refine bg_virt1 rfl rfl rfl rfl ⟨_, p0⟩ ?_
    refine bs_take hF hN v1.1 hXD (fun hE1 hXE gE => bk_Ki ?_)
    have gx := gx.trans gE
    have v2 := tkS_k (k := 12) hE v1.1 (by decide) (by decide)
    have hL := hXE.L
    obtain ⟨l0, l1, l2, l3, l4, l5⟩ := id hL
    obtain ⟨hK, -, p0, htk⟩ := id hXE
    refine bg_ifne_b rfl (fun e47 => ?_) (fun e47 => ?_)
    · rw [sqS_t e47] at hQ
      have v2 := v2.1
      generalize (tkS K 12 (tmS K rows 11 1 (stO 0 11 (adO s))).2).2 = s2 at *
      refine bg_aload0 rfl ?_
      refine bg_getfield rfl rfl p0 (by rfl) ?_
      refine bg_getfield rfl rfl l0 (by rfl) ?_
      refine bg_aload0 rfl ?_
      refine bg_getfield rfl rfl p0 (by rfl) ?_
      refine bg_iconst rfl ?_
      refine bg_aload0 rfl ?_
      refine bg_getfield rfl rfl p0 (by rfl) ?_
      refine bg_getfield rfl rfl l0 (by rfl) ?_
      refine bg_virt0 rfl rfl rfl rfl ⟨_, l5.1⟩ ?_
      refine bt_size l5 (bk_Ki ?_)
      refine bg_virt3 rfl rfl rfl rfl ⟨_, l4.1⟩ ?_
      refine bt_set l4 rfl (by decide) (fun hG kG gG => bk_Kv ?_)
      have hXG : XS hG dr tk tp T p rows f g (stO 3 (nI (s2.2.1 4).length) s2) := hXE.up (hL.t3 kG gG) (gG.wide (by omega) (by omega))
      have gx := gx.trans (gG.wide (by omega) (by omega))
      have hvG : SV N (stO 3 (nI (s2.2.1 4).length) s2) := v2
      have hL := hXG.L
      obtain ⟨l0, l1, l2, l3, l4, l5⟩ := id hL
      obtain ⟨hK, -, p0, htk⟩ := id hXG
      refine bg_aload0 rfl ?_
      refine bg_iconst rfl ?_
      refine bg_virt1 rfl rfl rfl rfl ⟨_, p0⟩ ?_
      refine (bp_all hF hN hE 3300).2.2.2.1 _ 0 _ _ _ _ _ _ (Nat.zero_le _) hvG.1 hvG.2 (by omega) (by omega) hXG (fun hI kI gI => bk_Ki ?_)
      have hXI := hXG.pp (tag := 3) kI
      have gx := gx.trans gI
      have hL := hXI.L
      obtain ⟨l0, l1, l2, l3, l4, l5⟩ := id hL
      obtain ⟨hK, -, p0, htk⟩ := id hXI
      refine bg_istore1 rfl rfl ?_
      refine bg_aload0 rfl ?_
      refine bg_getfield rfl rfl p0 (by rfl) ?_
      refine bg_getfield rfl rfl l0 (by rfl) ?_
      refine bg_aload0 rfl ?_
      refine bg_getfield rfl rfl p0 (by rfl) ?_
      refine bg_iconst rfl ?_
      refine bg_aload0 rfl ?_
      refine bg_getfield rfl rfl p0 (by rfl) ?_
      refine bg_getfield rfl rfl l0 (by rfl) ?_
      refine bg_virt0 rfl rfl rfl rfl ⟨_, l5.1⟩ ?_
      refine bt_size l5 (bk_Ki ?_)
      refine bg_virt3 rfl rfl rfl rfl ⟨_, l4.1⟩ ?_
      refine bt_set l4 rfl (by decide) (fun hJ kJ gJ => bk_Kv ?_)
      have hXJ := hXI.up (hL.t3 kJ gJ) (gJ.wide (by omega) (by omega))
      have gx := gx.trans (gJ.wide (by omega) (by omega))
      refine bg_iload1 rfl ?_
      refine bg_iret rfl rfl (by split <;> rfl) ?_
      exact hQ hJ hXJ gx
    · rw [sqS_f e47, if_neg e47] at hQ
      have hfin := hQ hE1 hXE gx
      refine bg_iconst rfl ?_
      refine bg_iret rfl rfl (by rfl) ?_
      exact hfin
theorem bs_when (hF : ∀ i, i < N → f i = K i) (hN : N ≤ 401) (hE : K (N - 1) = 47 ∨ K (N - 1) = 0) (hv : SV N s) (hX : XS h dr tk tp T p rows f g s) (hQ : ∀ h', XS h' dr tk tp T p rows f g (lnWhen K rows s).2 → fr h h' dr (dr + 12) → Q (.inl (some (.int (if (lnWhen K rows s).1 = true then 1 else 0)))) h' n) : bk_wp V (D + 58) 50 [.ref (dr + 11)] h n B Q := by
  unfold lnWhen en at hQ
  have hL := hX.L
  obtain ⟨l0, l1, l2, l3, l4, l5⟩ := id hL
  obtain ⟨hK, -, p0, htk⟩ := id hX
  refine bg_in rfl rfl ?_
  refine bg_aload0 rfl ?_
  refine bg_getfield rfl rfl p0 (by rfl) ?_
  refine bg_getfield rfl rfl l0 (by rfl) ?_
  refine bg_aload0 rfl ?_
  refine bg_getfield rfl rfl p0 (by rfl) ?_
  refine bg_iconst rfl ?_
  refine bg_aload0 rfl ?_
  refine bg_getfield rfl rfl p0 (by rfl) ?_
  refine bg_getfield rfl rfl l0 (by rfl) ?_
  refine bg_virt0 rfl rfl rfl rfl ⟨_, l5.1⟩ ?_
  refine bt_size l5 (bk_Ki ?_)
  refine bg_virt3 rfl rfl rfl rfl ⟨_, l4.1⟩ ?_
  refine bt_set l4 rfl (by decide) (fun hA kA gA => bk_Kv ?_)
  have hXA : XS hA dr tk tp T p rows f g (stO 5 (nI (s.2.1 4).length) s) := hX.up (hL.t3 kA gA) (gA.wide (by omega) (by omega))
  have gx : fr h hA dr (dr + 12) := gA.wide (by omega) (by omega)
  have hvA : SV N (stO 5 (nI (s.2.1 4).length) s) := hv
  have hL := hXA.L
  obtain ⟨l0, l1, l2, l3, l4, l5⟩ := id hL
  obtain ⟨hK, -, p0, htk⟩ := id hXA
  refine bg_aload0 rfl ?_
  refine bg_bipush rfl ?_
  refine bg_virt1 rfl rfl rfl rfl ⟨_, p0⟩ ?_
  refine bs_take hF hN hvA hXA (fun hB hXB gB => bk_Ki ?_)
  have gx := gx.trans gB
  have v1 := tkS_k (k := 17) hE hvA (by decide) (by decide)
  have hL := hXB.L
  obtain ⟨l0, l1, l2, l3, l4, l5⟩ := id hL
  obtain ⟨hK, -, p0, htk⟩ := id hXB
  refine bg_ifeq_b rfl (fun e31 => ?_) (fun e31 => ?_)
  · obtain ⟨q1, q2⟩ := tkS_q e31
    change ¬ K s.1 = 17 at q1
    rw [q2] at hXB
    rw [if_neg q1] at hQ
    have hXI := hXB
    have hr : (1 : Int32) = (if ((true, (stO 5 (nI (s.2.1 4).length) s)) : Bool × bP).1 = true then 1 else 0) := rfl
    have hL := hXB.L
    obtain ⟨l0, l1, l2, l3, l4, l5⟩ := id hL
    obtain ⟨hK, -, p0, htk⟩ := id hXB
    refine bg_iconst rfl ?_
    refine bg_goto rfl ?_
    refine bg_istore1 rfl rfl ?_
    refine bg_aload0 rfl ?_
    refine bg_getfield rfl rfl p0 (by rfl) ?_
    refine bg_getfield rfl rfl l0 (by rfl) ?_
    refine bg_aload0 rfl ?_
    refine bg_getfield rfl rfl p0 (by rfl) ?_
    refine bg_bipush rfl ?_
    refine bg_aload0 rfl ?_
    refine bg_getfield rfl rfl p0 (by rfl) ?_
    refine bg_getfield rfl rfl l0 (by rfl) ?_
    refine bg_virt0 rfl rfl rfl rfl ⟨_, l5.1⟩ ?_
    refine bt_size l5 (bk_Ki ?_)
    refine bg_virt3 rfl rfl rfl rfl ⟨_, l4.1⟩ ?_
    refine bt_set l4 rfl (by decide) (fun hJ kJ gJ => bk_Kv ?_)
    have hXJ := hXI.up (hL.t3 kJ gJ) (gJ.wide (by omega) (by omega))
    have gx := gx.trans (gJ.wide (by omega) (by omega))
    refine bg_iload1 rfl ?_
    refine bg_iret rfl rfl (by rfl) ?_
    exact bQ (hQ hJ hXJ gx) hr.symm
  · obtain ⟨q1, q2⟩ := tkS_p e31
    change K s.1 = 17 at q1
    have v1 := v1.1
    rw [q2] at hXB v1
    rw [if_pos q1] at hQ
    have hL := hXB.L
    obtain ⟨l0, l1, l2, l3, l4, l5⟩ := id hL
    obtain ⟨hK, -, p0, htk⟩ := id hXB
    refine bg_aload0 rfl ?_
    refine bg_iconst rfl ?_
    refine bg_virt1 rfl rfl rfl rfl ⟨_, p0⟩ ?_
    refine (bp_all hF hN hE 3300).2.2.2.2.2.2.2.2.1 _ 0 _ _ _ _ _ _ (Nat.zero_le _) v1.1 v1.2 (by omega) (by omega) hXB (fun hI kI gI => bk_Ki ?_)
    have hXI := hXB.pp (tag := 8) kI
    have gx := gx.trans gI
    have hL := hXI.L
    obtain ⟨l0, l1, l2, l3, l4, l5⟩ := id hL
    obtain ⟨hK, -, p0, htk⟩ := id hXI
    refine bg_ifeq_b rfl (fun e39 => ?_) (fun e39 => ?_)
    · have hr : (0 : Int32) = (if (ppS K rows 8 (s.1 + 1, (stO 5 (nI (s.2.1 4).length) s).2)).1 = true then 1 else 0) := (if_neg e39).symm
      refine bg_iconst rfl ?_
      refine bg_istore1 rfl rfl ?_
      refine bg_aload0 rfl ?_
      refine bg_getfield rfl rfl p0 (by rfl) ?_
      refine bg_getfield rfl rfl l0 (by rfl) ?_
      refine bg_aload0 rfl ?_
      refine bg_getfield rfl rfl p0 (by rfl) ?_
      refine bg_bipush rfl ?_
      refine bg_aload0 rfl ?_
      refine bg_getfield rfl rfl p0 (by rfl) ?_
      refine bg_getfield rfl rfl l0 (by rfl) ?_
      refine bg_virt0 rfl rfl rfl rfl ⟨_, l5.1⟩ ?_
      refine bt_size l5 (bk_Ki ?_)
      refine bg_virt3 rfl rfl rfl rfl ⟨_, l4.1⟩ ?_
      refine bt_set l4 rfl (by decide) (fun hJ kJ gJ => bk_Kv ?_)
      have hXJ := hXI.up (hL.t3 kJ gJ) (gJ.wide (by omega) (by omega))
      have gx := gx.trans (gJ.wide (by omega) (by omega))
      refine bg_iload1 rfl ?_
      refine bg_iret rfl rfl (by rfl) ?_
      exact bQ (hQ hJ hXJ gx) hr.symm
    · have hr : (1 : Int32) = (if (ppS K rows 8 (s.1 + 1, (stO 5 (nI (s.2.1 4).length) s).2)).1 = true then 1 else 0) := (if_pos e39).symm
      refine bg_iconst rfl ?_
      refine bg_goto rfl ?_
      refine bg_istore1 rfl rfl ?_
      refine bg_aload0 rfl ?_
      refine bg_getfield rfl rfl p0 (by rfl) ?_
      refine bg_getfield rfl rfl l0 (by rfl) ?_
      refine bg_aload0 rfl ?_
      refine bg_getfield rfl rfl p0 (by rfl) ?_
      refine bg_bipush rfl ?_
      refine bg_aload0 rfl ?_
      refine bg_getfield rfl rfl p0 (by rfl) ?_
      refine bg_getfield rfl rfl l0 (by rfl) ?_
      refine bg_virt0 rfl rfl rfl rfl ⟨_, l5.1⟩ ?_
      refine bt_size l5 (bk_Ki ?_)
      refine bg_virt3 rfl rfl rfl rfl ⟨_, l4.1⟩ ?_
      refine bt_set l4 rfl (by decide) (fun hJ kJ gJ => bk_Kv ?_)
      have hXJ := hXI.up (hL.t3 kJ gJ) (gJ.wide (by omega) (by omega))
      have gx := gx.trans (gJ.wide (by omega) (by omega))
      refine bg_iload1 rfl ?_
      refine bg_iret rfl rfl (by rfl) ?_
      exact bQ (hQ hJ hXJ gx) hr.symm
theorem lnPair_k {a b : Int32} (hE : K (N - 1) = 47 ∨ K (N - 1) = 0) (h : SV N s) (a1 : ¬ a = 47) (a2 : ¬ a = 0) (b1 : ¬ b = 47) (b2 : ¬ b = 0) : SK N 1 s.1 (lnPair K rows a b s) :=
  SKs (m' := 0) (t := s.1) (tmS_k (s := stO 0 a (adO s)) hE h a1 a2) (fun v => ⟨(tmS_k hE v b1 b2).1, (tmS_k hE v b1 b2).2.1, fun _ => (tmS_k hE v b1 b2).2.1⟩) (Nat.le_refl _) (by omega)
theorem lnSoak_k (hE : K (N - 1) = 47 ∨ K (N - 1) = 0) (h : SV N s) : SK N 1 s.1 (lnSoak K rows s) := by
  refine SKs (m' := 0) (t := s.1) (tmS_k (s := stO 0 11 (adO s)) hE h (by decide) (by decide)) (fun v => SKs (m' := 0) (tkS_k hE v (by decide) (by decide)) (fun v => ?_) (Nat.le_refl _) (by omega)) (Nat.le_refl _) (by omega)
  obtain ⟨k1, k2, k3⟩ := ppS_k (tag := 3) (rows := rows) (s := stO 3 (nI (((tkS K 12 (tmS K rows 11 1 (stO 0 11 (adO s))).2).2).2.1 4).length) ((tkS K 12 (tmS K rows 11 1 (stO 0 11 (adO s))).2).2)) hE v
  exact ⟨k1, k2, fun _ => k2⟩
theorem bs_line (hF : ∀ i, i < N → f i = K i) (hN : N ≤ 401) (hE : K (N - 1) = 47 ∨ K (N - 1) = 0) (hv : SV N s) (hX : XS h dr tk tp T p rows f g s) (hQ : ∀ h', XS h' dr tk tp T p rows f g (lnAll K rows s).2 → fr h h' dr (dr + 12) → Q (.inl (some (.int (if (lnAll K rows s).1 = true then 1 else 0)))) h' n) : bk_wp V (D + 59) 44 [.ref (dr + 11)] h n B Q := by
  have hL := hX.L
  obtain ⟨l0, l1, l2, l3, l4, l5⟩ := id hL
  obtain ⟨hK, -, p0, htk⟩ := id hX
  refine bg_in rfl rfl ?_
  refine bg_aload0 rfl ?_
  refine bg_virt0 rfl rfl rfl rfl ⟨_, p0⟩ ?_
  refine bp_kind hF hN hv.1 hX (bk_Ki ?_)
  refine bg_tsw rfl ?_
  refine bk_sw_c (fun e4_1 => ?_) (fun n4_1 => ?_)
  · have hu : lnAll K rows s = lnBark K rows s := if_pos e4_1
    rw [hu] at hQ
    refine bg_aload0 rfl ?_
    refine bg_virt0 rfl rfl rfl rfl ⟨_, p0⟩ ?_
    refine bs_bark hF hN hE hv hX (fun hA hXA gA => bk_Ki ?_)
    refine bg_iret rfl rfl (by split <;> rfl) ?_
    exact hQ hA hXA gA
  refine bk_sw_c (fun e4_2 => ?_) (fun n4_2 => ?_)
  · have hu : lnAll K rows s = (false, s) := by
      unfold lnAll
      rw [e4_2]
      rfl
    rw [hu] at hQ
    refine bg_iconst rfl ?_
    refine bg_iret rfl rfl (by rfl) ?_
    exact hQ h hX fr.refl
  refine bk_sw_c (fun e4_3 => ?_) (fun n4_3 => ?_)
  · have hu : lnAll K rows s = (false, s) := by
      unfold lnAll
      rw [e4_3]
      rfl
    rw [hu] at hQ
    refine bg_iconst rfl ?_
    refine bg_iret rfl rfl (by rfl) ?_
    exact hQ h hX fr.refl
  refine bk_sw_c (fun e4_4 => ?_) (fun n4_4 => ?_)
  · have hu : lnAll K rows s = lnBeater K rows s := (if_neg (by rw [e4_4]; decide)).trans (if_pos e4_4)
    rw [hu] at hQ
    refine bg_aload0 rfl ?_
    refine bg_virt0 rfl rfl rfl rfl ⟨_, p0⟩ ?_
    refine bs_beater hF hN hE hv hX (fun hA hXA gA => bk_Ki ?_)
    refine bg_iret rfl rfl (by split <;> rfl) ?_
    exact hQ hA hXA gA
  refine bk_sw_c (fun e4_5 => ?_) (fun n4_5 => ?_)
  · have hu : lnAll K rows s = (false, s) := by
      unfold lnAll
      rw [e4_5]
      rfl
    rw [hu] at hQ
    refine bg_iconst rfl ?_
    refine bg_iret rfl rfl (by rfl) ?_
    exact hQ h hX fr.refl
  refine bk_sw_c (fun e4_6 => ?_) (fun n4_6 => ?_)
  · have hu : lnAll K rows s = (false, s) := by
      unfold lnAll
      rw [e4_6]
      rfl
    rw [hu] at hQ
    refine bg_iconst rfl ?_
    refine bg_iret rfl rfl (by rfl) ?_
    exact hQ h hX fr.refl
  refine bk_sw_c (fun e4_7 => ?_) (fun n4_7 => ?_)
  · have hu : lnAll K rows s = lnSpirit K rows s := (if_neg (by rw [e4_7]; decide)).trans ((if_neg (by rw [e4_7]; decide)).trans (if_pos e4_7))
    rw [hu] at hQ
    refine bg_aload0 rfl ?_
    refine bg_virt0 rfl rfl rfl rfl ⟨_, p0⟩ ?_
    refine bs_spirit hF hN hE hv hX (fun hA hXA gA => bk_Ki ?_)
    refine bg_iret rfl rfl (by split <;> rfl) ?_
    exact hQ hA hXA gA
  refine bk_sw_c (fun e4_8 => ?_) (fun n4_8 => ?_)
  · have hu : lnAll K rows s = (false, s) := by
      unfold lnAll
      rw [e4_8]
      rfl
    rw [hu] at hQ
    refine bg_iconst rfl ?_
    refine bg_iret rfl rfl (by rfl) ?_
    exact hQ h hX fr.refl
  refine bk_sw_c (fun e4_9 => ?_) (fun n4_9 => ?_)
  · have hu : lnAll K rows s = (false, s) := by
      unfold lnAll
      rw [e4_9]
      rfl
    rw [hu] at hQ
    refine bg_iconst rfl ?_
    refine bg_iret rfl rfl (by rfl) ?_
    exact hQ h hX fr.refl
  refine bk_sw_c (fun e4_10 => ?_) (fun n4_10 => ?_)
  · have hu : lnAll K rows s = (false, s) := by
      unfold lnAll
      rw [e4_10]
      rfl
    rw [hu] at hQ
    refine bg_iconst rfl ?_
    refine bg_iret rfl rfl (by rfl) ?_
    exact hQ h hX fr.refl
  refine bk_sw_c (fun e4_11 => ?_) (fun n4_11 => ?_)
  · have hu : lnAll K rows s = sqS (lnSoak K rows s) fun s => lnWhen K rows s := (if_neg (by rw [e4_11]; decide)).trans ((if_neg (by rw [e4_11]; decide)).trans ((if_neg (by rw [e4_11]; decide)).trans (if_pos e4_11)))
    rw [hu] at hQ
    refine bg_aload0 rfl ?_
    refine bg_virt0 rfl rfl rfl rfl ⟨_, p0⟩ ?_
    refine bs_soak hF hN hE hv hX (fun hA hXA gA => bk_Ki ?_)
    have hvv := lnSoak_k (rows := rows) hE hv
    have p0 := hXA.2.2.1
    have kk := (show SK N 0 s.1 (lnSoak K rows s) from ⟨hvv.1, hvv.2.1, fun _ => hvv.2.1⟩)
    refine bg_ifeq_b rfl (fun e99 => ?_) (fun e99 => ?_)
    · rw [sqS_f e99, if_neg e99] at hQ
      have hfin := hQ hA hXA gA
      refine bg_iconst rfl ?_
      refine bg_iret rfl rfl (by rfl) ?_
      exact hfin
    · rw [sqS_t e99] at hQ
      refine bg_aload0 rfl ?_
      refine bg_virt0 rfl rfl rfl rfl ⟨_, p0⟩ ?_
      refine bs_when hF hN hE kk.1 hXA (fun hB hXB gB => bk_Ki ?_)
      have gx := gA.trans gB
      refine bg_ifeq_b rfl (fun e106 => ?_) (fun e106 => ?_)
      · rw [if_neg e106] at hQ
        have hfin := hQ hB hXB gx
        refine bg_iconst rfl ?_
        refine bg_iret rfl rfl (by rfl) ?_
        exact hfin
      · rw [if_pos e106] at hQ
        have hfin := hQ hB hXB gx
        refine bg_iconst rfl ?_
        refine bg_goto rfl ?_
        refine bg_iret rfl rfl (by rfl) ?_
        exact hfin
  refine bk_sw_c (fun e4_12 => ?_) (fun n4_12 => ?_)
  · have hu : lnAll K rows s = (false, s) := by
      unfold lnAll
      rw [e4_12]
      rfl
    rw [hu] at hQ
    refine bg_iconst rfl ?_
    refine bg_iret rfl rfl (by rfl) ?_
    exact hQ h hX fr.refl
  refine bk_sw_c (fun e4_13 => ?_) (fun n4_13 => ?_)
  · have hu : lnAll K rows s = sqS (lnPair K rows 13 14 s) fun s => lnWhen K rows s := (if_neg (by rw [e4_13]; decide)).trans ((if_neg (by rw [e4_13]; decide)).trans ((if_neg (by rw [e4_13]; decide)).trans ((if_neg (by rw [e4_13]; decide)).trans (if_pos e4_13))))
    rw [hu] at hQ
    refine bg_aload0 rfl ?_
    refine bg_bipush rfl ?_
    refine bg_bipush rfl ?_
    refine bg_virt2 rfl rfl rfl rfl ⟨_, p0⟩ ?_
    refine bs_pair (by decide) (by decide) (by decide) (by decide) hF hN hE hv hX (fun hA hXA gA => bk_Ki ?_)
    have hvv := lnPair_k (rows := rows) (a := 13) (b := 14) hE hv (by decide) (by decide) (by decide) (by decide)
    have p0 := hXA.2.2.1
    have kk := (show SK N 0 s.1 (lnPair K rows 13 14 s) from ⟨hvv.1, hvv.2.1, fun _ => hvv.2.1⟩)
    refine bg_ifeq_b rfl (fun e123 => ?_) (fun e123 => ?_)
    · rw [sqS_f e123, if_neg e123] at hQ
      have hfin := hQ hA hXA gA
      refine bg_iconst rfl ?_
      refine bg_iret rfl rfl (by rfl) ?_
      exact hfin
    · rw [sqS_t e123] at hQ
      refine bg_aload0 rfl ?_
      refine bg_virt0 rfl rfl rfl rfl ⟨_, p0⟩ ?_
      refine bs_when hF hN hE kk.1 hXA (fun hB hXB gB => bk_Ki ?_)
      have gx := gA.trans gB
      refine bg_ifeq_b rfl (fun e130 => ?_) (fun e130 => ?_)
      · rw [if_neg e130] at hQ
        have hfin := hQ hB hXB gx
        refine bg_iconst rfl ?_
        refine bg_iret rfl rfl (by rfl) ?_
        exact hfin
      · rw [if_pos e130] at hQ
        have hfin := hQ hB hXB gx
        refine bg_iconst rfl ?_
        refine bg_goto rfl ?_
        refine bg_iret rfl rfl (by rfl) ?_
        exact hfin
  refine bk_sw_c (fun e4_14 => ?_) (fun n4_14 => ?_)
  · have hu : lnAll K rows s = (false, s) := by
      unfold lnAll
      rw [e4_14]
      rfl
    rw [hu] at hQ
    refine bg_iconst rfl ?_
    refine bg_iret rfl rfl (by rfl) ?_
    exact hQ h hX fr.refl
  refine bk_sw_c (fun e4_15 => ?_) (fun n4_15 => ?_)
  · have hu : lnAll K rows s = sqS (lnPair K rows 15 16 s) fun s => lnWhen K rows s := (if_neg (by rw [e4_15]; decide)).trans ((if_neg (by rw [e4_15]; decide)).trans ((if_neg (by rw [e4_15]; decide)).trans ((if_neg (by rw [e4_15]; decide)).trans ((if_neg (by rw [e4_15]; decide)).trans (if_pos e4_15)))))
    rw [hu] at hQ
    refine bg_aload0 rfl ?_
    refine bg_bipush rfl ?_
    refine bg_bipush rfl ?_
    refine bg_virt2 rfl rfl rfl rfl ⟨_, p0⟩ ?_
    refine bs_pair (by decide) (by decide) (by decide) (by decide) hF hN hE hv hX (fun hA hXA gA => bk_Ki ?_)
    have hvv := lnPair_k (rows := rows) (a := 15) (b := 16) hE hv (by decide) (by decide) (by decide) (by decide)
    have p0 := hXA.2.2.1
    have kk := (show SK N 0 s.1 (lnPair K rows 15 16 s) from ⟨hvv.1, hvv.2.1, fun _ => hvv.2.1⟩)
    refine bg_ifeq_b rfl (fun e147 => ?_) (fun e147 => ?_)
    · rw [sqS_f e147, if_neg e147] at hQ
      have hfin := hQ hA hXA gA
      refine bg_iconst rfl ?_
      refine bg_iret rfl rfl (by rfl) ?_
      exact hfin
    · rw [sqS_t e147] at hQ
      refine bg_aload0 rfl ?_
      refine bg_virt0 rfl rfl rfl rfl ⟨_, p0⟩ ?_
      refine bs_when hF hN hE kk.1 hXA (fun hB hXB gB => bk_Ki ?_)
      have gx := gA.trans gB
      refine bg_ifeq_b rfl (fun e154 => ?_) (fun e154 => ?_)
      · rw [if_neg e154] at hQ
        have hfin := hQ hB hXB gx
        refine bg_iconst rfl ?_
        refine bg_iret rfl rfl (by rfl) ?_
        exact hfin
      · rw [if_pos e154] at hQ
        have hfin := hQ hB hXB gx
        refine bg_iconst rfl ?_
        refine bg_goto rfl ?_
        refine bg_iret rfl rfl (by rfl) ?_
        exact hfin
  refine bk_sw_n ?_
  have hu : lnAll K rows s = (false, s) := (if_neg n4_1).trans ((if_neg n4_4).trans ((if_neg n4_7).trans ((if_neg n4_11).trans ((if_neg n4_13).trans (if_neg n4_15)))))
  rw [hu] at hQ
  refine bg_iconst rfl ?_
  refine bg_iret rfl rfl (by rfl) ?_
  exact hQ h hX fr.refl
theorem bs_listE {x0 : Option Value} {m : Nat} (hQ : Q (.inl (some (.int 0))) h n) : bk_g V D 43 B Q 16 [x0, some (.int 0), some (.int (nI m))] [] h n cs := by
  refine bg_iload2 rfl ?_
  refine bg_sipush rfl ?_
  refine bg_icmp_ge rfl (fun e20 => ?_) (fun e20 => ?_)
  · refine bg_iload1 rfl ?_
    refine bg_iret rfl rfl (by rfl) ?_
    exact hQ
  · refine bg_iload1 rfl ?_
    refine bg_if_eq rfl (fun e24 => ?_) (fun e24 => absurd rfl e24)
    refine bg_iload1 rfl ?_
    refine bg_iret rfl rfl (by rfl) ?_
    exact hQ
theorem bs_listL (hF : ∀ i, i < N → f i = K i) (hN : N ≤ 401) (hE : K (N - 1) = 47 ∨ K (N - 1) = 0) : ∀ (c m : Nat) (s : bP) (h : bk_H), SV N s → N ≤ s.1 + c → 2 * m ≤ s.1 → XS h dr tk tp T p rows f g s → (∀ h', XS h' dr tk tp T p rows f g (lsL K rows c s).2 → fr h h' dr (dr + 12) → Q (.inl (some (.int (if (lsL K rows c s).1 = true then 1 else 0)))) h' n) → bk_g V (D + 59) 43 B Q 16 [some (.ref (dr + 11)), some (.int 1), some (.int (nI m))] [] h n cs := by
  intro c
  induction c with
  | zero =>
    intro m s h hv hc
    exact absurd hv.1 (by omega)
  | succ c ih =>
    intro m s h hv hc hm hX hQ
    have hv1 := hv.1
    have hL := hX.L
    obtain ⟨l0, l1, l2, l3, l4, l5⟩ := id hL
    obtain ⟨hK, -, p0, htk⟩ := id hX
    refine bg_iload2 rfl ?_
    refine bg_sipush rfl ?_
    refine bg_icmp_ge rfl (fun e20 => absurd (nI_lt (b := 400) (by omega) (by decide)) e20) (fun e20 => ?_)
    refine bg_iload1 rfl ?_
    refine bg_if_eq rfl (fun e24 => absurd e24 (by decide)) (fun e24 => ?_)
    refine bg_aload0 rfl ?_
    refine bg_virt0 rfl rfl rfl rfl ⟨_, p0⟩ ?_
    refine bp_kind hF hN hv.1 hX (bk_Ki ?_)
    refine bg_bipush rfl ?_
    refine bg_icmp_eq rfl (fun e33 => ?_) (fun e33 => ?_)
    · have hu : lsL K rows (c + 1) s = (true, s) := if_pos e33
      rw [hu] at hQ
      refine bg_iload1 rfl ?_
      refine bg_iret rfl rfl (by rfl) ?_
      exact hQ h hX fr.refl
    · have hu : lsL K rows (c + 1) s = sqS (sqS (lnAll K rows s) fun s => tkS K 36 s) (lsL K rows c) := if_neg e33
      rw [hu] at hQ
      refine bg_aload0 rfl ?_
      refine bg_virt0 rfl rfl rfl rfl ⟨_, p0⟩ ?_
      refine bs_line hF hN hE hv hX (fun hA hXA gA => bk_Ki ?_)
      have v1 := lnAll_k (rows := rows) hE hv
      have p0 := hXA.2.2.1
      refine bg_ifeq_b rfl (fun e40 => ?_) (fun e40 => ?_)
      · rw [sqS_f (a := lnAll K rows s) e40, sqS_f e40, if_neg e40] at hQ
        have hfin := hQ hA hXA gA
        refine bg_iconst rfl ?_
        refine bg_istore1 rfl rfl ?_
        refine bg_iinc2 rfl rfl ?_
        rw [nI_1]
        refine bg_goto rfl ?_
        first
          | exact bs_listE hfin
          | exact ih (m + 1) _ hB v2.1 (by omega) (by omega) hXB (fun h' q1 q2 => hQ h' q1 (gx.trans q2))
      · rw [sqS_t (a := lnAll K rows s) e40] at hQ
        have w1 := v1.2.2 e40
        refine bg_aload0 rfl ?_
        refine bg_bipush rfl ?_
        refine bg_virt1 rfl rfl rfl rfl ⟨_, p0⟩ ?_
        refine bs_take hF hN v1.1 hXA (fun hB hXB gB => bk_Ki ?_)
        have gx := gA.trans gB
        have v2 := tkS_k (k := 36) hE v1.1 (by decide) (by decide)
        refine bg_ifeq_b rfl (fun e49 => ?_) (fun e49 => ?_)
        · rw [sqS_f e49, if_neg e49] at hQ
          have hfin := hQ hB hXB gx
          refine bg_iconst rfl ?_
          refine bg_istore1 rfl rfl ?_
          refine bg_iinc2 rfl rfl ?_
          rw [nI_1]
          refine bg_goto rfl ?_
          first
            | exact bs_listE hfin
            | exact ih (m + 1) _ hB v2.1 (by omega) (by omega) hXB (fun h' q1 q2 => hQ h' q1 (gx.trans q2))
        · rw [sqS_t e49] at hQ
          have w2 := v2.2.2 e49
          refine bg_iconst rfl ?_
          refine bg_goto rfl ?_
          refine bg_istore1 rfl rfl ?_
          refine bg_iinc2 rfl rfl ?_
          rw [nI_1]
          refine bg_goto rfl ?_
          first
            | exact bs_listE hfin
            | exact ih (m + 1) _ hB v2.1 (by omega) (by omega) hXB (fun h' q1 q2 => hQ h' q1 (gx.trans q2))

theorem bs_list (hF : ∀ i, i < N → f i = K i) (hN : N ≤ 401) (hE : K (N - 1) = 47 ∨ K (N - 1) = 0) (h0 : 0 < N) (hX : XS h dr tk tp T p rows f g s) (hQ : ∀ h', XS h' dr tk tp T p rows f g (lsL K rows 401 (0, (fun _ => []), s.2.2)).2 → fr h h' dr (dr + 12) → Q (.inl (some (.int (if (lsL K rows 401 (0, (fun _ => []), s.2.2)).1 = true then 1 else 0)))) h' n) : bk_wp V (D + 60) 43 [.ref (dr + 11)] h n B Q := by
  have hL := hX.L
  obtain ⟨l0, l1, l2, l3, l4, l5⟩ := id hL
  obtain ⟨hK, -, p0, htk⟩ := id hX
  refine bg_in rfl rfl ?_
  refine bg_aload0 rfl ?_
  refine bg_getfield rfl rfl p0 (by rfl) ?_
  refine bg_virt0 rfl rfl rfl rfl ⟨_, l0⟩ ?_
  refine bm_lclear hL (fun hA kA gA => bk_Kv ?_)
  have hXA := hX.up kA gA
  have p0 := hXA.2.2.1
  refine bg_aload0 rfl ?_
  refine bg_iconst rfl ?_
  refine bg_putfield rfl rfl p0 (by rfl) ⟨rfl, rfl⟩ (by rfl) (fun h9 f9 g9 => ?_)
  have hXB : XS h9 dr tk tp T p rows f g (0, (fun _ => []), s.2.2) := PX.to hXA f9 g9
  refine bg_iconst rfl ?_
  refine bg_istore1 rfl rfl ?_
  refine bg_iconst rfl ?_
  refine bg_istore2 rfl rfl ?_
  exact bs_listL hF hN hE 401 0 (0, (fun _ => []), s.2.2) h9 ⟨h0, Nat.le_refl 0⟩ (by omega) (Nat.zero_le _) hXB (fun h' q1 q2 => hQ h' q1 (((gA.wide (by omega) (by omega)).trans ((fr.one g9).wide (by omega) (by omega))).trans q2))
end BP
