/-! THE REFERENCE: an hour, hours. Printed by wip/whole/mk64.py. -/
theorem SH_soak1 {P : Nat → bT} {S : bS} {o : Nat} (h : SH P S) : SH P (soak1 P o S) := by
  unfold soak1
  split
  · exact SH_0 h (by rw [rS_len, rS_len]) (shT_rS (shT_rS h.2.1.1)).2
  · exact h
theorem IV_soak1 {P : Nat → bT} {S : bS} {o : Nat} (h : IV P S) : IV P (soak1 P o S) := by
  unfold soak1
  split
  · exact h
  · exact h
section RB
variable {V : bk_V} {d n : Nat} {B : Nat × Nat} {Q : bk_R → bk_H → Nat → Prop} {h : bk_H} {r y u v : Nat} {P : Nat → bT} {S : bS} {I J K : rI} {A C : rA} {bs : bT} {cs : Nat × Nat}
theorem rw_soak {o : Nat} (ho : o < (P 3).length) (hW : RW h r y u v P S J K C bs) (hQ : ∀ h', RW h' r y u v P (soak1 P o S) J K C [] → fr h h' r (r + 14) → Q (.inl none) h' n) : bk_wp V (d + 6) 130 [.ref r, .int (nI o)] h n B Q := by
  obtain ⟨I, A, hR, hr, hP, hY, hp, hs, hv, hd1, hd2, hbs⟩ := hW
  exact rb_soak ho hp hs hd1 hd2 hR hr hP hY (fun h' I' A' a b c => hQ h' (RW_i a b (hP.kp c (by omega)) ((c y (by omega)).trans hY) hp (SH_soak1 hs) (IV_soak1 hv) hd1 hd2 (fun k hk => absurd hk (Nat.not_lt_zero k))) c)
theorem rw_pL1 {h0 : bk_H} (hK : ∀ h' x, RW h' r y u v P (itN (soak1 P) (P 3).length S) J K C [] → fr h0 h' r (r + 14) → bk_g V (d + 7) 142 B Q 27 [some (.ref r), some (.int x)] [] h' n cs) : ∀ (c i : Nat) {h : bk_H}, i + c = (P 3).length → RW h r y u v P (itN (soak1 P) i S) J K C [] → fr h0 h r (r + 14) → bk_g V (d + 7) 142 B Q 2 [some (.ref r), some (.int (nI i))] [] h n cs := by
  intro c
  induction c with
  | zero =>
    intro i h hi hW hF
    obtain ⟨I, A, hR, hr, hP, hY, hp, hs, hv, hd1, hd2, hbs⟩ := id hW
    have hl24 : (P 3).length ≤ 24 := hs.1.2.2.2.1.1
    have hB : K 3 = nI (P 3).length := hp.1 3 (by decide)
    refine bg_iload1 rfl ?_
    refine bg_aload0 rfl ?_
    refine bg_getfield rfl rfl hR.1 (by rfl) ?_
    refine bg_getfield rfl rfl hY (by rfl) ?_
    refine bg_getfield rfl rfl hP.1 (by rfl) ?_
    refine bg_icmp_ge rfl (fun e13 => ?_) (fun e13 => absurd e13 (by rw [hB]; exact nI_nlt (by omega) (by omega)))
    have hi2 : i = (P 3).length := by omega
    subst hi2
    exact hK h _ hW hF
  | succ c ih =>
    intro i h hi hW hF
    obtain ⟨I, A, hR, hr, hP, hY, hp, hs, hv, hd1, hd2, hbs⟩ := id hW
    have hl24 : (P 3).length ≤ 24 := hs.1.2.2.2.1.1
    have hB : K 3 = nI (P 3).length := hp.1 3 (by decide)
    refine bg_iload1 rfl ?_
    refine bg_aload0 rfl ?_
    refine bg_getfield rfl rfl hR.1 (by rfl) ?_
    refine bg_getfield rfl rfl hY (by rfl) ?_
    refine bg_getfield rfl rfl hP.1 (by rfl) ?_
    refine bg_icmp_ge rfl (fun e13 => absurd (by rw [hB]; exact nI_lt (by omega) (by omega)) e13) (fun e13 => ?_)
    refine bg_aload0 rfl ?_
    refine bg_iload1 rfl ?_
    refine bg_virt1 rfl rfl rfl rfl ⟨_, hR.1⟩ ?_
    refine rw_soak (by omega) hW (fun h2 hW2 hF2 => bk_Kv ?_)
    refine bg_iinc1 rfl rfl ?_
    rw [nI_1]
    refine bg_goto rfl ?_
    exact ih (i + 1) (by omega) hW2 (hF.trans hF2)

theorem rw_pL3 {h0 : bk_H} (hl : bs.length = (P 1).length) (hK : ∀ h' x, RW h' r y u v P (itN (fun k => beatF P bs (nI k)) (P 0).length S) J K C bs → fr h0 h' r (r + 14) → bk_g V (d + 7) 142 B Q 58 [some (.ref r), some (.int x)] [] h' n cs) : ∀ (c i : Nat) {h : bk_H}, i + c = (P 0).length → RW h r y u v P (itN (fun k => beatF P bs (nI k)) i S) J K C bs → fr h0 h r (r + 14) → bk_g V (d + 7) 142 B Q 33 [some (.ref r), some (.int (nI i))] [] h n cs := by
  intro c
  induction c with
  | zero =>
    intro i h hi hW hF
    obtain ⟨I, A, hR, hr, hP, hY, hp, hs, hv, hd1, hd2, hbs⟩ := id hW
    have hl5 : (P 0).length ≤ 5 := hs.1.1.1
    have hB : K 0 = nI (P 0).length := hp.1 0 (by decide)
    refine bg_iload1 rfl ?_
    refine bg_aload0 rfl ?_
    refine bg_getfield rfl rfl hR.1 (by rfl) ?_
    refine bg_getfield rfl rfl hY (by rfl) ?_
    refine bg_getfield rfl rfl hP.1 (by rfl) ?_
    refine bg_icmp_ge rfl (fun e44 => ?_) (fun e44 => absurd e44 (by rw [hB]; exact nI_nlt (by omega) (by omega)))
    have hi2 : i = (P 0).length := by omega
    subst hi2
    exact hK h _ hW hF
  | succ c ih =>
    intro i h hi hW hF
    obtain ⟨I, A, hR, hr, hP, hY, hp, hs, hv, hd1, hd2, hbs⟩ := id hW
    have hl5 : (P 0).length ≤ 5 := hs.1.1.1
    have hB : K 0 = nI (P 0).length := hp.1 0 (by decide)
    refine bg_iload1 rfl ?_
    refine bg_aload0 rfl ?_
    refine bg_getfield rfl rfl hR.1 (by rfl) ?_
    refine bg_getfield rfl rfl hY (by rfl) ?_
    refine bg_getfield rfl rfl hP.1 (by rfl) ?_
    refine bg_icmp_ge rfl (fun e44 => absurd (by rw [hB]; exact nI_lt (by omega) (by omega)) e44) (fun e44 => ?_)
    refine bg_aload0 rfl ?_
    refine bg_iload1 rfl ?_
    refine bg_virt1 rfl rfl rfl rfl ⟨_, hR.1⟩ ?_
    refine rw_beat (by omega) hl hW (fun h2 hW2 hF2 => bk_Kv ?_)
    refine bg_iinc1 rfl rfl ?_
    rw [nI_1]
    refine bg_goto rfl ?_
    exact ih (i + 1) (by omega) hW2 (hF.trans hF2)

theorem dryN_len {w : Int32} {i : Nat} {t : bT} : (itN (dry1 w) i t).length = t.length := by
  induction i with
  | zero => rfl
  | succ i ih => exact dry1_len.trans ih
theorem rw_pL4 {h0 : bk_H} (hK : ∀ h' x, RW h' r y u v P (S.1, uT S.2 3 (itN (dry1 (S.1 1)) (S.2 3).length (S.2 3))) J K C bs → fr h0 h' r (r + 14) → bk_g V (d + 7) 142 B Q 79 [some (.ref r), some (.int x)] [] h' n cs) : ∀ (c i : Nat) {h : bk_H}, i + c = (S.2 3).length → RW h r y u v P (S.1, uT S.2 3 (itN (dry1 (S.1 1)) i (S.2 3))) J K C bs → fr h0 h r (r + 14) → bk_g V (d + 7) 142 B Q 60 [some (.ref r), some (.int (nI i))] [] h n cs := by
  intro c
  induction c with
  | zero =>
    intro i h hi hW hF
    obtain ⟨I, A, hR, hr, hP, hY, hp, hs, hv, hd1, hd2, hbs⟩ := id hW
    have hl3 : (S.2 3).length ≤ 30 := by
      have := hs.2.1.2.2.2.1.1
      rw [← dryN_len (w := S.1 1) (i := i) (t := S.2 3)]
      exact this
    have hB : I 6 = nI (S.2 3).length := by
      rw [hr.1.2.1]
      show nI (itN (dry1 (S.1 1)) i (S.2 3)).length = _
      rw [dryN_len]
    refine bg_iload1 rfl ?_
    refine bg_aload0 rfl ?_
    refine bg_getfield rfl rfl hR.1 (by rfl) ?_
    refine bg_icmp_ge rfl (fun e65 => ?_) (fun e65 => absurd e65 (by rw [hB]; exact nI_nlt (by omega) (by omega)))
    have hi2 : i = (S.2 3).length := by omega
    subst hi2
    exact hK h _ hW hF
  | succ c ih =>
    intro i h hi hW hF
    obtain ⟨I, A, hR, hr, hP, hY, hp, hs, hv, hd1, hd2, hbs⟩ := id hW
    have hl3 : (S.2 3).length ≤ 30 := by
      have := hs.2.1.2.2.2.1.1
      rw [← dryN_len (w := S.1 1) (i := i) (t := S.2 3)]
      exact this
    have hB : I 6 = nI (S.2 3).length := by
      rw [hr.1.2.1]
      show nI (itN (dry1 (S.1 1)) i (S.2 3)).length = _
      rw [dryN_len]
    refine bg_iload1 rfl ?_
    refine bg_aload0 rfl ?_
    refine bg_getfield rfl rfl hR.1 (by rfl) ?_
    refine bg_icmp_ge rfl (fun e65 => absurd (by rw [hB]; exact nI_lt (by omega) (by omega)) e65) (fun e65 => ?_)
    refine bg_aload0 rfl ?_
    refine bg_iload1 rfl ?_
    refine bg_virt1 rfl rfl rfl rfl ⟨_, hR.1⟩ ?_
    refine rw_weather (by show i < (itN (dry1 (S.1 1)) i (S.2 3)).length; rw [dryN_len]; omega) hW (fun h2 hW2 hF2 => bk_Kv ?_)
    replace hW2 := RW_cast hW2 (show _ = (S.1, uT S.2 3 (itN (dry1 (S.1 1)) (i + 1) (S.2 3))) from bS_ext rfl (fun k => by
      show uT (uT S.2 3 (itN (dry1 (S.1 1)) i (S.2 3))) 3 (dry1 (S.1 1) i (itN (dry1 (S.1 1)) i (S.2 3))) k = _
      rw [uT_uT]
      rfl))
    refine bg_iinc1 rfl rfl ?_
    rw [nI_1]
    refine bg_goto rfl ?_
    exact ih (i + 1) (by omega) hW2 (hF.trans hF2)

theorem rw_pL5 {h0 : bk_H} (hK : ∀ h' x, RW h' r y u v P (itN (cut1 P) (P 3).length S) J K C [] → fr h0 h' r (r + 14) → bk_g V (d + 7) 142 B Q 106 [some (.ref r), some (.int x)] [] h' n cs) : ∀ (c i : Nat) {h : bk_H}, i + c = (P 3).length → RW h r y u v P (itN (cut1 P) i S) J K C [] → fr h0 h r (r + 14) → bk_g V (d + 7) 142 B Q 81 [some (.ref r), some (.int (nI i))] [] h n cs := by
  intro c
  induction c with
  | zero =>
    intro i h hi hW hF
    obtain ⟨I, A, hR, hr, hP, hY, hp, hs, hv, hd1, hd2, hbs⟩ := id hW
    have hl24 : (P 3).length ≤ 24 := hs.1.2.2.2.1.1
    have hB : K 3 = nI (P 3).length := hp.1 3 (by decide)
    refine bg_iload1 rfl ?_
    refine bg_aload0 rfl ?_
    refine bg_getfield rfl rfl hR.1 (by rfl) ?_
    refine bg_getfield rfl rfl hY (by rfl) ?_
    refine bg_getfield rfl rfl hP.1 (by rfl) ?_
    refine bg_icmp_ge rfl (fun e92 => ?_) (fun e92 => absurd e92 (by rw [hB]; exact nI_nlt (by omega) (by omega)))
    have hi2 : i = (P 3).length := by omega
    subst hi2
    exact hK h _ hW hF
  | succ c ih =>
    intro i h hi hW hF
    obtain ⟨I, A, hR, hr, hP, hY, hp, hs, hv, hd1, hd2, hbs⟩ := id hW
    have hl24 : (P 3).length ≤ 24 := hs.1.2.2.2.1.1
    have hB : K 3 = nI (P 3).length := hp.1 3 (by decide)
    refine bg_iload1 rfl ?_
    refine bg_aload0 rfl ?_
    refine bg_getfield rfl rfl hR.1 (by rfl) ?_
    refine bg_getfield rfl rfl hY (by rfl) ?_
    refine bg_getfield rfl rfl hP.1 (by rfl) ?_
    refine bg_icmp_ge rfl (fun e92 => absurd (by rw [hB]; exact nI_lt (by omega) (by omega)) e92) (fun e92 => ?_)
    refine bg_aload0 rfl ?_
    refine bg_iload1 rfl ?_
    refine bg_virt1 rfl rfl rfl rfl ⟨_, hR.1⟩ ?_
    refine rw_cut (by omega) hW (fun h2 hW2 hF2 => bk_Kv ?_)
    refine bg_iinc1 rfl rfl ?_
    rw [nI_1]
    refine bg_goto rfl ?_
    exact ih (i + 1) (by omega) hW2 (hF.trans hF2)

theorem rw_pL6 {h0 : bk_H} : ∀ (c i : Nat) {h : bk_H} {S : bS}, i + c = (S.1 2).toNatClampNeg → RW h r y u v P S J K C [] → S.1 0 - S.1 0 / 8 * 8 = 7 → fr h0 h r (r + 14) → (∀ h' x, RW h' r y u v P (sellL P c S) J K C [] → fr h0 h' r (r + 14) → bk_g V (d + 7) 142 B Q 145 [some (.ref r), some (.int x)] [] h' n cs) → bk_g V (d + 7) 142 B Q 108 [some (.ref r), some (.int (nI i))] [] h n cs := by
  intro c
  induction c with
  | zero =>
    intro i h S hi hW hm hF hK
    obtain ⟨I, A, hR, hr, hP, hY, hp, hs, hv, hd1, hd2, hbs⟩ := id hW
    have hl4 : (S.2 4).length ≤ 30 := hs.2.1.2.2.2.2.1
    have hI7 : I 7 = nI (S.2 4).length := hr.1.2.2.1
    have hI0 : I 0 = S.1 0 := hr.1.1 0 (by decide)
    have hI2 : I 2 = S.1 2 := hr.1.1 2 (by decide)
    have hcl : (S.1 2).toNatClampNeg < 2 ^ 31 := Int32.toNatClampNeg_lt _
    refine bg_iload1 rfl ?_
    refine bg_aload0 rfl ?_
    refine bg_getfield rfl rfl hR.1 (by rfl) ?_
    refine bg_icmp_ge rfl (fun e113 => ?_) (fun e113 => absurd ((nI_ltc (x := S.1 2) (i := i) (by omega)).mp (by rw [← hI2]; exact e113)) (by omega))
    exact hK h _ (RW_bs hW) hF
  | succ c ih =>
    intro i h S hi hW hm hF hK
    obtain ⟨I, A, hR, hr, hP, hY, hp, hs, hv, hd1, hd2, hbs⟩ := id hW
    have hl4 : (S.2 4).length ≤ 30 := hs.2.1.2.2.2.2.1
    have hI7 : I 7 = nI (S.2 4).length := hr.1.2.2.1
    have hI0 : I 0 = S.1 0 := hr.1.1 0 (by decide)
    have hI2 : I 2 = S.1 2 := hr.1.1 2 (by decide)
    have hcl : (S.1 2).toNatClampNeg < 2 ^ 31 := Int32.toNatClampNeg_lt _
    refine bg_iload1 rfl ?_
    refine bg_aload0 rfl ?_
    refine bg_getfield rfl rfl hR.1 (by rfl) ?_
    refine bg_icmp_ge rfl (fun e113 => absurd (by rw [hI2]; exact (nI_ltc (i := i) (by omega)).mpr (by omega)) e113) (fun e113 => ?_)
    refine bg_aload0 rfl ?_
    refine bg_getfield rfl rfl hR.1 (by rfl) ?_
    refine bg_if_le rfl (fun e120 => ?_) (fun e120 => ?_)
    · have hf : (S.2 4).length = 0 := Nat.eq_zero_of_not_pos (fun z => e120 (by rw [hI7]; exact nI_lt (a := 0) z (by omega)))
      rw [show sellL P (c + 1) S = S from if_pos hf] at hK
      exact hK h _ (RW_bs hW) hF
    · have hf : 0 < (S.2 4).length := Nat.pos_of_ne_zero (fun z => absurd e120 (by rw [hI7, z]; decide))
      rw [show sellL P (c + 1) S = sellL P c (sell1 P S) from if_neg (by omega)] at hK
      refine bg_aload0 rfl ?_
      refine bg_getfield rfl rfl hR.1 (by rfl) ?_
      refine bg_bipush rfl ?_
      refine bg_irem rfl (by decide) ?_
      refine bg_bipush rfl ?_
      refine bg_icmp_ne rfl (fun e132 => (e132 (by rw [hI0]; exact hm)).elim) (fun e132 => ?_)
      refine bg_aload0 rfl ?_
      refine bg_virt0 rfl rfl rfl rfl ⟨_, hR.1⟩ ?_
      refine rw_sell hf hW (fun h2 hW2 hF2 => bk_Kv ?_)
      refine bg_iinc1 rfl rfl ?_
      rw [nI_1]
      refine bg_goto rfl ?_
      exact ih (i + 1) (by show _ = (S.1 2).toNatClampNeg; omega) hW2 hm (hF.trans hF2) hK

theorem rw_pL0 {h0 : bk_H} (hW : RW h r y u v P S J K C []) (hm : ¬ S.1 0 - S.1 0 / 8 * 8 = 7) (hF : fr h0 h r (r + 14)) (hK : ∀ h' x, RW h' r y u v P S J K C [] → fr h0 h' r (r + 14) → bk_g V (d + 7) 142 B Q 145 [some (.ref r), some (.int x)] [] h' n cs) : bk_g V (d + 7) 142 B Q 108 [some (.ref r), some (.int 0)] [] h n cs := by
  obtain ⟨I, A, hR, hr, hP, hY, hp, hs, hv, hd1, hd2, hbs⟩ := id hW
  have hl4 : (S.2 4).length ≤ 30 := hs.2.1.2.2.2.2.1
  have hI7 : I 7 = nI (S.2 4).length := hr.1.2.2.1
  have hI0 : I 0 = S.1 0 := hr.1.1 0 (by decide)
  have hI2 : I 2 = S.1 2 := hr.1.1 2 (by decide)
  have hcl : (S.1 2).toNatClampNeg < 2 ^ 31 := Int32.toNatClampNeg_lt _
  refine bg_iload1 rfl ?_
  refine bg_aload0 rfl ?_
  refine bg_getfield rfl rfl hR.1 (by rfl) ?_
  refine bg_icmp_ge rfl (fun e113 => ?_) (fun e113 => ?_)
  · exact hK h _ hW hF
  · refine bg_aload0 rfl ?_
    refine bg_getfield rfl rfl hR.1 (by rfl) ?_
    refine bg_if_le rfl (fun e120 => ?_) (fun e120 => ?_)
    · exact hK h _ hW hF
    · refine bg_aload0 rfl ?_
      refine bg_getfield rfl rfl hR.1 (by rfl) ?_
      refine bg_bipush rfl ?_
      refine bg_irem rfl (by decide) ?_
      refine bg_bipush rfl ?_
      refine bg_icmp_ne rfl (fun e132 => ?_) (fun e132 => (hm (by rw [← hI0]; exact e132)).elim)
      exact hK h _ hW hF
theorem rw_hour (hW : RW h r y u v P S J K C bs) (hQ : ∀ h', RW h' r y u v P (hourF P S) J K C [] → fr h h' r (r + 14) → Q (.inl none) h' n) : bk_wp V (d + 8) 142 [.ref r] h n B Q := by
  obtain ⟨h0, hh⟩ : ∃ h0 : bk_H, h0 = h := ⟨h, rfl⟩
  rw [← hh] at hQ
  refine bg_in rfl rfl ?_
  refine bg_iconst rfl ?_
  refine bg_istore1 rfl rfl ?_
  refine rw_pL1 (h0 := h0) (S := S) (fun h x hW hF => ?_) (P 3).length 0 (Nat.zero_add _) (RW_bs hW) (by rw [hh]; exact fr.refl)
  obtain ⟨I, A, hR, hr, hP, hY, hp, hs, hv, hd1, hd2, hbs⟩ := id hW
  refine bg_aload0 rfl ?_
  refine bg_virt0 rfl rfl rfl rfl ⟨_, hR.1⟩ ?_
  refine rw_choose hW (fun h2 hW2 hF2 => bk_Kv ?_)
  refine bg_iconst rfl ?_
  refine bg_istore1 rfl rfl ?_
  refine rw_pL3 (S := (soakF P S)) (bs := bsF P (soakF P S) (P 1).length) bsf_len (fun h x hW hF => ?_) (P 0).length 0 (Nat.zero_add _) hW2 (hF.trans hF2)
  refine bg_iconst rfl ?_
  refine bg_istore1 rfl rfl ?_
  refine rw_pL4 (S := (beatA P (soakF P S))) (fun h x hW hF => ?_) ((beatA P (soakF P S)).2 3).length 0 (Nat.zero_add _) (RW_cast hW (bS_ext rfl (fun k => by
    show _ = uT ((beatA P (soakF P S))).2 3 (((beatA P (soakF P S))).2 3) k
    unfold uT
    split
    · rename_i z
      rw [z]
      rfl
    · rfl))) hF
  refine bg_iconst rfl ?_
  refine bg_istore1 rfl rfl ?_
  refine rw_pL5 (S := (dryF (beatA P (soakF P S)))) (fun h x hW hF => ?_) (P 3).length 0 (Nat.zero_add _) (RW_bs hW) hF
  refine bg_iconst rfl ?_
  refine bg_istore1 rfl rfl ?_
  have hend : ∀ (h1 : bk_H) (x : Int32), RW h1 r y u v P (endF P (cutF P (dryF (beatA P (soakF P S))))) J K C [] → fr h0 h1 r (r + 14) → bk_g V (d + 7) 142 B Q 145 [some (.ref r), some (.int x)] [] h1 n (0, 0) := fun h x hW hF => by
    obtain ⟨I, A, hR, hr, hP, hY, hp, hs, hv, hd1, hd2, hbs⟩ := id hW
    have hI0 : I 0 = (endF P (cutF P (dryF (beatA P (soakF P S))))).1 0 := hr.1.1 0 (by decide)
    refine bg_aload0 rfl ?_
    refine bg_dup rfl rfl ?_
    refine bg_getfield rfl rfl hR.1 (by rfl) ?_
    refine bg_iconst rfl ?_
    refine bg_iadd rfl ?_
    refine bg_putfield rfl rfl hR.1 (by rfl) ⟨rfl, rfl⟩ (by rfl) (fun h152 f152 g152 => ?_)
    obtain ⟨hR, hF1⟩ := RO.i0 hR f152 g152
    replace hP := hP.kp hF1 (by omega)
    replace hY : YO h152 y J u v := (hF1 y (by omega)).trans hY
    replace hF := hF.trans hF1
    replace hr := RRof hR (RR_i0 hr)
    refine bg_ret rfl rfl ?_
    exact hQ h152 (RW_i hR (RR_cast hr (by rw [hI0]; rfl)) hP hY hp hs hv hd1 hd2 hbs) hF
  by_cases hm : (cutF P (dryF (beatA P (soakF P S)))).1 0 - (cutF P (dryF (beatA P (soakF P S)))).1 0 / 8 * 8 = 7
  · rw [show endF P (cutF P (dryF (beatA P (soakF P S)))) = _ from if_pos hm] at hend
    exact rw_pL6 ((cutF P (dryF (beatA P (soakF P S)))).1 2).toNatClampNeg 0 (Nat.zero_add _) hW hm hF hend
  · rw [show endF P (cutF P (dryF (beatA P (soakF P S)))) = _ from if_neg hm] at hend
    exact rw_pL0 hW hm hF hend
theorem rw_goL {h0 : bk_H} {N : Nat} (hN : N < 2 ^ 31) (hQ : ∀ h', RW h' r y u v P (goF P N S) J K C [] → fr h0 h' r (r + 14) → Q (.inl none) h' n) : ∀ (c i : Nat) {h : bk_H}, i + c = N → RW h r y u v P (itN (fun _ => hourF P) i S) J K C [] → fr h0 h r (r + 14) → bk_g V (d + 8) 143 B Q 2 [some (.ref r), some (.int (nI N)), some (.int (nI i))] [] h n cs := by
  intro c
  induction c with
  | zero =>
    intro i h hi hW hF
    obtain ⟨I, A, hR, hr, hP, hY, hp, hs, hv, hd1, hd2, hbs⟩ := id hW
    refine bg_iload2 rfl ?_
    refine bg_iload1 rfl ?_
    refine bg_icmp_ge rfl (fun e4 => ?_) (fun e4 => absurd e4 (nI_nlt (by omega) (by omega)))
    refine bg_ret rfl rfl ?_
    have hi2 : i = N := by omega
    subst hi2
    exact hQ h hW hF
  | succ c ih =>
    intro i h hi hW hF
    obtain ⟨I, A, hR, hr, hP, hY, hp, hs, hv, hd1, hd2, hbs⟩ := id hW
    refine bg_iload2 rfl ?_
    refine bg_iload1 rfl ?_
    refine bg_icmp_ge rfl (fun e4 => absurd (nI_lt (by omega) (by omega)) e4) (fun e4 => ?_)
    refine bg_aload0 rfl ?_
    refine bg_virt0 rfl rfl rfl rfl ⟨_, hR.1⟩ ?_
    refine rw_hour hW (fun h2 hW2 hF2 => bk_Kv ?_)
    refine bg_iinc2 rfl rfl ?_
    rw [nI_1]
    refine bg_goto rfl ?_
    exact ih (i + 1) (by omega) hW2 (hF.trans hF2)

theorem rw_go {N : Nat} (hN : N < 2 ^ 31) (hW : RW h r y u v P S J K C bs) (hQ : ∀ h', RW h' r y u v P (goF P N S) J K C [] → fr h h' r (r + 14) → Q (.inl none) h' n) : bk_wp V (d + 9) 143 [.ref r, .int (nI N)] h n B Q := by
  refine bg_in rfl rfl ?_
  refine bg_iconst rfl ?_
  refine bg_istore2 rfl rfl ?_
  exact rw_goL hN hQ N 0 (Nat.zero_add _) (RW_bs hW) fr.refl
end RB
