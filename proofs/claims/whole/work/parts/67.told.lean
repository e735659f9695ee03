/-! THE REFERENCE: what the model answers. Printed by wip/whole/mk67.py. -/
theorem rem_n {m e : Nat} (hm : m < 2 ^ 31) (he : 1 ≤ e) (he2 : e < 2 ^ 31) : nI m - nI m / nI e * nI e = nI (m % e) := by
  refine Int32.toInt.inj ?_
  have h1 : 0 < (nI e).toInt := by
    rw [rx_nI he2]
    omega
  have h2 : m % e < 2 ^ 31 := Nat.lt_of_le_of_lt (Nat.mod_le m e) hm
  rw [rx_remI h1, rx_nI hm, rx_nI he2, rx_nI h2]
  exact (Int.ofNat_tmod m e).symm
theorem htb_r {S : bS} {b : Int32} {m e : Nat} (h0 : S.1 0 = nI m) (hm : m < 2 ^ 31) (h1 : 1 ≤ e) (h2 : e ≤ 6) (he : rG (S.2 1) b 0 = nI e) : htb S b = nI e - nI (m % e) - (nI e - nI (m % e)) / nI e * nI e := by
  have hr : m % e < e := Nat.mod_lt m h1
  unfold htb
  rw [he, (gone_ne h1 h2).1, h0, rem_n hm h1 (by omega)]
  have h3 : m % e < 6 := by omega
  generalize m % e = q at hr h3
  have q1 : q = 0 ∨ q = 1 ∨ q = 2 ∨ q = 3 ∨ q = 4 ∨ q = 5 := by omega
  have q2 : e = 1 ∨ e = 2 ∨ e = 3 ∨ e = 4 ∨ e = 5 ∨ e = 6 := by omega
  rcases q1 with rfl | rfl | rfl | rfl | rfl | rfl <;> rcases q2 with rfl | rfl | rfl | rfl | rfl | rfl <;> first | decide | exact absurd hr (by decide)
theorem w15_iff {w : Int32} : w15 w ↔ (¬ w < 0 ∧ ¬ 14 < w) := ⟨fun z => by
  rcases z with rfl | rfl | rfl | rfl | rfl | rfl | rfl | rfl | rfl | rfl | rfl | rfl | rfl | rfl | rfl <;> decide, fun z => by
  obtain ⟨k, _, hk, rfl⟩ := inR_nI (a := 0) (b := 14) (by decide) (by decide) z
  exact w15_n (by omega)⟩
theorem w5_iff {w : Int32} : w5 w ↔ (¬ w < 0 ∧ ¬ 4 < w) := ⟨fun z => by
  rcases z with rfl | rfl | rfl | rfl | rfl <;> decide, fun z => by
  obtain ⟨k, _, hk, rfl⟩ := inR_nI (a := 0) (b := 4) (by decide) (by decide) z
  exact w5_n (by omega)⟩
theorem w4_iff {w : Int32} : w4 w ↔ (¬ w < 0 ∧ ¬ 3 < w) := ⟨fun z => by
  rcases z with rfl | rfl | rfl | rfl <;> decide, fun z => by
  obtain ⟨k, _, hk, rfl⟩ := inR_nI (a := 0) (b := 3) (by decide) (by decide) z
  exact w4_n (by omega)⟩
theorem w3_iff {w : Int32} : w3 w ↔ (¬ w < 0 ∧ ¬ 2 < w) := ⟨fun z => by
  rcases z with rfl | rfl | rfl <;> decide, fun z => by
  obtain ⟨k, _, hk, rfl⟩ := inR_nI (a := 0) (b := 2) (by decide) (by decide) z
  exact w3_n (by omega)⟩
section MM
variable {V : bk_V} {d n : Nat} {B : Nat × Nat} {Q : bk_R → bk_H → Nat → Prop} {h : bk_H} {y u v : Nat} {T : List Int32} {P : Nat → bT} {S : bS} {I J K : rI} {A C : rA} {cs : Nat × Nat}
theorem mo_sheetTold {k b : Nat} (hb : b < (S.2 3).length) (hk : k < 4) (hM : MD h y u v T P S J K C) (hQ : Q (.inl (some (.int (shV S (nI b) (nI k))))) h n) : bk_wp V (d + 1) 207 [.ref y, .int (nI b), .int (nI k)] h n B Q := by
  obtain ⟨hTp, har, hah, ⟨I, A, hR, hr, hP, hY, hp, hs, hv, hd1, hd2, hbs⟩, hJ1, hT2, hu⟩ := id hM
  have hl3 : (S.2 3).length ≤ 30 := hs.2.1.2.2.2.1.1
  have hb31 : b < 2 ^ 31 := by omega
  obtain ⟨a0, a1, a2, a3⟩ := hr.2.2.2.2.1 b hb
  have hz : k = 0 ∨ k = 1 ∨ k = 2 ∨ k = 3 := by omega
  rcases hz with rfl | rfl | rfl | rfl
  · refine bg_in rfl rfl ?_
    refine bg_iload2 rfl ?_
    refine bg_if_ne rfl (fun e1 => absurd rfl e1) (fun e1 => ?_)
    refine bg_aload0 rfl ?_
    refine bg_getfield rfl rfl hY (by rfl) ?_
    refine bg_getfield rfl rfl hR.1 (by rfl) ?_
    refine bg_iload1 rfl ?_
    refine bg_iaload_n rfl (sR6 hR) (by omega) (by omega) ?_
    refine bg_goto rfl ?_
    refine bg_iret rfl rfl (by rfl) ?_
    exact bQ hQ ((rG_nI hb31).trans a0.symm)
  · refine bg_in rfl rfl ?_
    refine bg_iload2 rfl ?_
    refine bg_if_ne rfl (fun e1 => ?_) (fun e1 => absurd e1 (by decide))
    refine bg_iload2 rfl ?_
    refine bg_iconst rfl ?_
    refine bg_icmp_ne rfl (fun e18 => absurd rfl e18) (fun e18 => ?_)
    refine bg_aload0 rfl ?_
    refine bg_getfield rfl rfl hY (by rfl) ?_
    refine bg_getfield rfl rfl hR.1 (by rfl) ?_
    refine bg_iload1 rfl ?_
    refine bg_iaload_n rfl (sR7 hR) (by omega) (by omega) ?_
    refine bg_goto rfl ?_
    refine bg_iret rfl rfl (by rfl) ?_
    exact bQ hQ ((rG_nI hb31).trans a1.symm)
  · refine bg_in rfl rfl ?_
    refine bg_iload2 rfl ?_
    refine bg_if_ne rfl (fun e1 => ?_) (fun e1 => absurd e1 (by decide))
    refine bg_iload2 rfl ?_
    refine bg_iconst rfl ?_
    refine bg_icmp_ne rfl (fun e18 => ?_) (fun e18 => absurd e18 (by decide))
    refine bg_iload2 rfl ?_
    refine bg_iconst rfl ?_
    refine bg_icmp_ne rfl (fun e35 => absurd rfl e35) (fun e35 => ?_)
    refine bg_aload0 rfl ?_
    refine bg_getfield rfl rfl hY (by rfl) ?_
    refine bg_getfield rfl rfl hR.1 (by rfl) ?_
    refine bg_iload1 rfl ?_
    refine bg_iaload_n rfl (sR8 hR) (by omega) (by omega) ?_
    refine bg_goto rfl ?_
    refine bg_iret rfl rfl (by rfl) ?_
    exact bQ hQ ((rG_nI hb31).trans a2.symm)
  · refine bg_in rfl rfl ?_
    refine bg_iload2 rfl ?_
    refine bg_if_ne rfl (fun e1 => ?_) (fun e1 => absurd e1 (by decide))
    refine bg_iload2 rfl ?_
    refine bg_iconst rfl ?_
    refine bg_icmp_ne rfl (fun e18 => ?_) (fun e18 => absurd e18 (by decide))
    refine bg_iload2 rfl ?_
    refine bg_iconst rfl ?_
    refine bg_icmp_ne rfl (fun e35 => ?_) (fun e35 => absurd e35 (by decide))
    refine bg_aload0 rfl ?_
    refine bg_getfield rfl rfl hY (by rfl) ?_
    refine bg_getfield rfl rfl hR.1 (by rfl) ?_
    refine bg_iload1 rfl ?_
    refine bg_iaload_n rfl (sR9 hR) (by omega) (by omega) ?_
    refine bg_iret rfl rfl (by rfl) ?_
    exact bQ hQ ((rG_nI hb31).trans a3.symm)
theorem mo_figureTold {k b : Nat} (hb : b < (S.2 4).length) (hk : k < 3) (hM : MD h y u v T P S J K C) (hQ : Q (.inl (some (.int (fiV P S (nI b) (nI k))))) h n) : bk_wp V (d + 2) 209 [.ref y, .int (nI b), .int (nI k)] h n B Q := by
  obtain ⟨hTp, har, hah, ⟨I, A, hR, hr, hP, hY, hp, hs, hv, hd1, hd2, hbs⟩, hJ1, hT2, hu⟩ := id hM
  have hl4 : (S.2 4).length ≤ 30 := hs.2.1.2.2.2.2.1
  have hb31 : b < 2 ^ 31 := by omega
  obtain ⟨a0, a1⟩ := hr.2.2.2.2.2 b hb
  have hz : k = 0 ∨ k = 1 ∨ k = 2 := by omega
  rcases hz with rfl | rfl | rfl
  · refine bg_in rfl rfl ?_
    refine bg_iload2 rfl ?_
    refine bg_if_ne rfl (fun e1 => absurd rfl e1) (fun e1 => ?_)
    refine bg_aload0 rfl ?_
    refine bg_getfield rfl rfl hY (by rfl) ?_
    refine bg_getfield rfl rfl hR.1 (by rfl) ?_
    refine bg_iload1 rfl ?_
    refine bg_iaload_n rfl (sR10 hR) (by omega) (by omega) ?_
    refine bg_goto rfl ?_
    refine bg_iret rfl rfl (by rfl) ?_
    exact bQ hQ ((rG_nI hb31).trans a0.symm)
  · refine bg_in rfl rfl ?_
    refine bg_iload2 rfl ?_
    refine bg_if_ne rfl (fun e1 => ?_) (fun e1 => absurd e1 (by decide))
    refine bg_iload2 rfl ?_
    refine bg_iconst rfl ?_
    refine bg_icmp_ne rfl (fun e18 => absurd rfl e18) (fun e18 => ?_)
    refine bg_aload0 rfl ?_
    refine bg_getfield rfl rfl hY (by rfl) ?_
    refine bg_getfield rfl rfl hR.1 (by rfl) ?_
    refine bg_iload1 rfl ?_
    refine bg_iaload_n rfl (sR11 hR) (by omega) (by omega) ?_
    refine bg_goto rfl ?_
    refine bg_iret rfl rfl (by rfl) ?_
    exact bQ hQ ((rG_nI hb31).trans a1.symm)
  · refine bg_in rfl rfl ?_
    refine bg_iload2 rfl ?_
    refine bg_if_ne rfl (fun e1 => ?_) (fun e1 => absurd e1 (by decide))
    refine bg_iload2 rfl ?_
    refine bg_iconst rfl ?_
    refine bg_icmp_ne rfl (fun e18 => ?_) (fun e18 => absurd e18 (by decide))
    refine bg_aload0 rfl ?_
    refine bg_getfield rfl rfl hY (by rfl) ?_
    refine bg_iload1 rfl ?_
    refine bg_virt1 rfl rfl rfl rfl ⟨_, hR.1⟩ ?_
    refine rw_paid hb hM.2.2.2.1 (bk_Ki ?_)
    refine bg_iret rfl rfl (by rfl) ?_
    exact hQ
theorem mo_beaterTold {k b : Nat} {m : Nat} (h0 : S.1 0 = nI m) (hm : m < 2 ^ 31) (hb : b < (P 1).length) (hk : k < 4) (hM : MD h y u v T P S J K C) (hQ : ∀ h', MD h' y u v T P S J K C → fm h h' y n → Q (.inl (some (.int (beV P S (nI b) (nI k))))) h' n) : bk_wp V (d + 7) 203 [.ref y, .int (nI b), .int (nI k)] h n B Q := by
  obtain ⟨hTp, har, hah, ⟨I, A, hR, hr, hP, hY, hp, hs, hv, hd1, hd2, hbs⟩, hJ1, hT2, hu⟩ := id hM
  have hl1 : (P 1).length ≤ 6 := hs.1.2.1.1
  have hb31 : b < 2 ^ 31 := by omega
  have hb2 : b < (S.2 1).length := by rw [hs.2.2.2.1]; exact hb
  have a0 := hr.2.2.1 b hb2
  obtain ⟨c0, c1⟩ := hp.2.2.1 b hb
  obtain ⟨e, he1, he2, he⟩ := hv.2.1 b hb2
  have hI0 : I 0 = S.1 0 := hr.1.1 0 (by decide)
  have hne : ¬ nI e = 0 := fun z => by
    have := nI_z (by omega) z
    omega
  have hz : k = 0 ∨ k = 1 ∨ k = 2 ∨ k = 3 := by omega
  rcases hz with rfl | rfl | rfl | rfl
  · refine bg_in rfl rfl ?_
    refine bg_iload2 rfl ?_
    refine bg_if_ne rfl (fun e1 => absurd rfl e1) (fun e1 => ?_)
    refine bg_aload0 rfl ?_
    refine bg_getfield rfl rfl hY (by rfl) ?_
    refine bg_getfield rfl rfl hP.1 (by rfl) ?_
    refine bg_iload1 rfl ?_
    refine bg_iaload_n rfl (pR3 hP) (by omega) (by omega) ?_
    refine bg_iret rfl rfl (by rfl) ?_
    exact bQ (hQ h hM fm.refl) ((rG_nI hb31).trans c0.symm)
  · refine bg_in rfl rfl ?_
    refine bg_iload2 rfl ?_
    refine bg_if_ne rfl (fun e1 => ?_) (fun e1 => absurd e1 (by decide))
    refine bg_aload0 rfl ?_
    refine bg_getfield rfl rfl hY (by rfl) ?_
    refine bg_getfield rfl rfl hR.1 (by rfl) ?_
    refine bg_iload1 rfl ?_
    refine bg_iaload_n rfl (sR4 hR) (by omega) (by omega) ?_
    rw [a0, he]
    refine bg_istore3 rfl rfl ?_
    refine bg_iload2 rfl ?_
    refine bg_iconst rfl ?_
    refine bg_icmp_ne rfl (fun e26 => absurd rfl e26) (fun e26 => ?_)
    refine bg_iload3 rfl ?_
    refine bg_goto rfl ?_
    refine bg_iret rfl rfl (by rfl) ?_
    exact bQ (hQ h hM fm.refl) ((rG_nI hb31).trans he)
  · refine bg_in rfl rfl ?_
    refine bg_iload2 rfl ?_
    refine bg_if_ne rfl (fun e1 => ?_) (fun e1 => absurd e1 (by decide))
    refine bg_aload0 rfl ?_
    refine bg_getfield rfl rfl hY (by rfl) ?_
    refine bg_getfield rfl rfl hR.1 (by rfl) ?_
    refine bg_iload1 rfl ?_
    refine bg_iaload_n rfl (sR4 hR) (by omega) (by omega) ?_
    rw [a0, he]
    refine bg_istore3 rfl rfl ?_
    refine bg_iload2 rfl ?_
    refine bg_iconst rfl ?_
    refine bg_icmp_ne rfl (fun e26 => ?_) (fun e26 => absurd e26 (by decide))
    refine bg_iload2 rfl ?_
    refine bg_iconst rfl ?_
    refine bg_icmp_ne rfl (fun e35 => absurd rfl e35) (fun e35 => ?_)
    refine bg_iload3 rfl ?_
    refine bg_aload0 rfl ?_
    refine bg_getfield rfl rfl hY (by rfl) ?_
    refine bg_getfield rfl rfl hR.1 (by rfl) ?_
    refine bg_iload3 rfl ?_
    rw [hI0, h0]
    refine bg_irem rfl hne ?_
    rw [rem_n hm he1 (by omega)]
    refine bg_isub rfl ?_
    refine bg_iload3 rfl ?_
    refine bg_irem rfl hne ?_
    refine bg_goto rfl ?_
    refine bg_iret rfl rfl (by rfl) ?_
    exact bQ (hQ h hM fm.refl) (htb_r h0 hm he1 he2 (by rw [rG_nI hb31]; exact he))
  · refine bg_in rfl rfl ?_
    refine bg_iload2 rfl ?_
    refine bg_if_ne rfl (fun e1 => ?_) (fun e1 => absurd e1 (by decide))
    refine bg_aload0 rfl ?_
    refine bg_getfield rfl rfl hY (by rfl) ?_
    refine bg_getfield rfl rfl hR.1 (by rfl) ?_
    refine bg_iload1 rfl ?_
    refine bg_iaload_n rfl (sR4 hR) (by omega) (by omega) ?_
    rw [a0, he]
    refine bg_istore3 rfl rfl ?_
    refine bg_iload2 rfl ?_
    refine bg_iconst rfl ?_
    refine bg_icmp_ne rfl (fun e26 => ?_) (fun e26 => absurd e26 (by decide))
    refine bg_iload2 rfl ?_
    refine bg_iconst rfl ?_
    refine bg_icmp_ne rfl (fun e35 => ?_) (fun e35 => absurd e35 (by decide))
    refine bg_aload0 rfl ?_
    refine bg_getfield rfl rfl hY (by rfl) ?_
    refine bg_iload1 rfl ?_
    refine bg_virt1 rfl rfl rfl rfl ⟨_, hR.1⟩ ?_
    refine rw_goes hb hM.2.2.2.1 (fun h2 hW2 hF2 => bk_Ki ?_)
    refine bg_iret rfl rfl (by rfl) ?_
    exact hQ h2 (hM.w hW2 (hF2.wide (by omega) (by omega))) (hF2.fm (by omega) (by omega))
theorem mo_forceOn {b : Int32} (hM : MD h y u v T P S J K C) (hQ : ∀ h', MD h' y u v T P S J K C → fm h h' y n → Q (.inl (some (.int (fcF P S (bsF P S (P 1).length) b)))) h' n) : bk_wp V (d + 8) 211 [.ref y, .int b] h n B Q := by
  obtain ⟨hTp, har, hah, ⟨I, A, hR, hr, hP, hY, hp, hs, hv, hd1, hd2, hbs⟩, hJ1, hT2, hu⟩ := id hM
  refine bg_in rfl rfl ?_
  refine bg_aload0 rfl ?_
  refine bg_getfield rfl rfl hY (by rfl) ?_
  refine bg_virt0 rfl rfl rfl rfl ⟨_, hR.1⟩ ?_
  refine rw_choose hM.2.2.2.1 (fun h2 hW2 hF2 => bk_Kv ?_)
  replace hY : YO h2 y J u v := (hF2 y (by omega)).trans hY
  obtain ⟨I, A, hR, _⟩ := id hW2
  refine bg_aload0 rfl ?_
  refine bg_getfield rfl rfl hY (by rfl) ?_
  refine bg_iload1 rfl ?_
  refine bg_virt1 rfl rfl rfl rfl ⟨_, hR.1⟩ ?_
  refine rw_force bsf_len hW2 (bk_Ki ?_)
  refine bg_iret rfl rfl (by rfl) ?_
  exact hQ h2 (hM.w (RW_bs hW2) (hF2.wide (by omega) (by omega))) (hF2.fm (by omega) (by omega))
theorem mo_errorAt (hM : MD h y u v T P S J K C) (hQ : ∀ (h' : bk_H) (J' : rI), MD h' y u v T P S J' K C → J' 0 = 0 → J' 2 = J 2 → fm h h' y n → Q (.inl (some (.int (J 2)))) h' n) : bk_wp V (d + 1) 198 [.ref y] h n B Q := by
  obtain ⟨hTp, har, hah, ⟨I, A, hR, hr, hP, hY, hp, hs, hv, hd1, hd2, hbs⟩, hJ1, hT2, hu⟩ := id hM
  refine bg_in rfl rfl ?_
  refine bg_aload0 rfl ?_
  refine bg_iconst rfl ?_
  refine bg_putfield rfl rfl hY (by rfl) ⟨rfl, rfl⟩ (by rfl) (fun h2 f2 g2 => ?_)
  have hM1 := hM.j (J' := upd J 0 0) f2 g2 rfl
  have hm : fm h h2 y n := fun q _ q2 => g2 q (by omega)
  obtain ⟨hTp, har, hah, ⟨I, A, hR, hr, hP, hY, hp, hs, hv, hd1, hd2, hbs⟩, hJ1, hT2, hu⟩ := id hM1
  refine bg_aload0 rfl ?_
  refine bg_getfield rfl rfl hY (by rfl) ?_
  refine bg_iret rfl rfl (by rfl) ?_
  exact hQ h2 _ hM1 rfl rfl hm
theorem mo_count {w : Int32} (hM : MD h y u v T P S J K C) (hn : y + 51 ≤ n ∧ u + 16 ≤ n) (hsd : sdL (S.2 2) 6 0 0 = S.1 6) (hB1 : 1 ≤ B.1) (hB2 : 15 ≤ B.2) (hE : ¬ w15 w → ∀ (h' : bk_H) (J' : rI), MD h' y u v T P S J' K C → J' 0 = 1 → J' 2 = J 2 → fm h h' y n → Q (.inl (some (.int 0))) h' n) (hQ : w15 w → ∀ (h' : bk_H) (n' : Nat) (J' : rI), MD h' y u v T P S J' K C → J' 0 = 0 → J' 2 = J 2 → n ≤ n' → fm h h' y n → Q (.inl (some (.int (cnV T P S w)))) h' n') : bk_wp V (d + 4) 200 [.ref y, .int w] h n B Q := by
  obtain ⟨hTp, har, hah, ⟨I, A, hR, hr, hP, hY, hp, hs, hv, hd1, hd2, hbs⟩, hJ1, hT2, hu⟩ := id hM
  refine bg_in rfl rfl ?_
  refine bg_aload0 rfl ?_
  refine bg_iconst rfl ?_
  refine bg_putfield rfl rfl hY (by rfl) ⟨rfl, rfl⟩ (by rfl) (fun h2 f2 g2 => ?_)
  have hM1 := hM.j (J' := upd J 0 0) f2 g2 rfl
  have hm : fm h h2 y n := fun q _ q2 => g2 q (by omega)
  obtain ⟨hTp, har, hah, ⟨I, A, hR, hr, hP, hY, hp, hs, hv, hd1, hd2, hbs⟩, hJ1, hT2, hu⟩ := id hM1
  refine bg_iload1 rfl ?_
  refine bg_iconst rfl ?_
  refine bg_bipush rfl ?_
  refine bg_stat3 rfl rfl rfl rfl ?_
  refine rb_isIn (bk_Ki ?_)
  refine bg_ifeq_b rfl (fun e12 => ?_) (fun e12 => ?_)
  · have hc : ¬ w15 w := fun z => e12 (w15_iff.mp z)
    refine bg_aload0 rfl ?_
    refine bg_iconst rfl ?_
    refine bg_virt1 rfl rfl rfl rfl ⟨_, hY⟩ ?_
    refine mo_no hM1 (fun h3 hM3 g3 => bk_Ki ?_)
    refine bg_iret rfl rfl (by rfl) ?_
    first
      | exact hQ hc hA4 (n + 1) _ (hM1.kp (fun q hq => gA q (by omega))) rfl rfl (Nat.le_succ n) (hm.trans (fm.new gA) (Nat.le_refl n))
      | exact hE hc h3 _ hM3 rfl rfl (fun q q1 q2 => (g3 q (by omega)).trans (hm q q1 q2))
  · have hc : w15 w := w15_iff.mpr e12
    obtain ⟨k, _, hk14, rfl⟩ := inR_nI (a := 0) (b := 14) (by decide) (by decide) e12
    refine bg_aload0 rfl ?_
    refine bg_iload1 rfl ?_
    refine bg_virt1B (b := (1, 15)) rfl rfl rfl rfl ⟨_, hY⟩ (by show 0 + 1 ≤ B.1; omega) (by show 0 + 15 ≤ B.2; omega) ?_
    refine mo_counted (k := k) hsd (by omega) hM1 hn (Nat.le_refl 1) (Nat.le_refl 15) (fun hA4 gA => bk_Ki ?_)
    refine bg_goto rfl ?_
    refine bg_iret rfl rfl (by rfl) ?_
    first
      | exact hQ hc hA4 (n + 1) _ (hM1.kp (fun q hq => gA q (by omega))) rfl rfl (Nat.le_succ n) (hm.trans (fm.new gA) (Nat.le_refl n))
      | exact hE hc h3 _ hM3 rfl rfl (fun q q1 q2 => (g3 q (by omega)).trans (hm q q1 q2))
theorem mo_bark {b w : Int32} (hM : MD h y u v T P S J K C) (hn : y + 51 ≤ n ∧ u + 16 ≤ n) (hB1 : 1 ≤ B.1) (hB2 : 5 ≤ B.2) (hE : ¬ (isI (P 0) b ∧ w5 w) → ∀ (h' : bk_H) (J' : rI), MD h' y u v T P S J' K C → J' 0 = 1 → J' 2 = J 2 → fm h h' y n → Q (.inl (some (.int 0))) h' n) (hQ : isI (P 0) b ∧ w5 w → ∀ (h' : bk_H) (n' : Nat) (J' : rI), MD h' y u v T P S J' K C → J' 0 = 0 → J' 2 = J 2 → n ≤ n' → fm h h' y n → Q (.inl (some (.int (bkV P S b w)))) h' n') : bk_wp V (d + 4) 202 [.ref y, .int b, .int w] h n B Q := by
  obtain ⟨hTp, har, hah, ⟨I, A, hR, hr, hP, hY, hp, hs, hv, hd1, hd2, hbs⟩, hJ1, hT2, hu⟩ := id hM
  have hl : (P 0).length ≤ 30 := Nat.le_trans hs.1.1.1 (by decide)
  refine bg_in rfl rfl ?_
  refine bg_aload0 rfl ?_
  refine bg_iconst rfl ?_
  refine bg_putfield rfl rfl hY (by rfl) ⟨rfl, rfl⟩ (by rfl) (fun h2 f2 g2 => ?_)
  have hM1 := hM.j (J' := upd J 0 0) f2 g2 rfl
  have hm : fm h h2 y n := fun q _ q2 => g2 q (by omega)
  obtain ⟨hTp, har, hah, ⟨I, A, hR, hr, hP, hY, hp, hs, hv, hd1, hd2, hbs⟩, hJ1, hT2, hu⟩ := id hM1
  refine bg_aload0 rfl ?_
  refine bg_iload1 rfl ?_
  refine bg_virt1 rfl rfl rfl rfl ⟨_, hY⟩ ?_
  refine mo_isBark hM1 (bk_Ki ?_)
  refine bg_ifeq_b rfl (fun e10 => ?_) (fun e10 => ?_)
  · have hc : ¬ (isI (P 0) b ∧ w5 w) := fun z => e10 z.1
    refine bg_aload0 rfl ?_
    refine bg_iconst rfl ?_
    refine bg_virt1 rfl rfl rfl rfl ⟨_, hY⟩ ?_
    refine mo_no hM1 (fun h3 hM3 g3 => bk_Ki ?_)
    refine bg_iret rfl rfl (by rfl) ?_
    first
      | exact hQ hc hA4 (n + 1) _ (hM1.kp (fun q hq => gA q (by omega))) rfl rfl (Nat.le_succ n) (hm.trans (fm.new gA) (Nat.le_refl n))
      | exact hE hc h3 _ hM3 rfl rfl (fun q q1 q2 => (g3 q (by omega)).trans (hm q q1 q2))
  · have hb := e10
    obtain ⟨c, hc1, rfl⟩ := isI_n e10 (by omega)
    refine bg_iload2 rfl ?_
    refine bg_iconst rfl ?_
    refine bg_iconst rfl ?_
    refine bg_stat3 rfl rfl rfl rfl ?_
    refine rb_isIn (bk_Ki ?_)
    refine bg_ifeq_b rfl (fun e19 => ?_) (fun e19 => ?_)
    · have hc : ¬ (isI (P 0) (nI c) ∧ w5 w) := fun z => e19 (w5_iff.mp z.2)
      refine bg_aload0 rfl ?_
      refine bg_iconst rfl ?_
      refine bg_virt1 rfl rfl rfl rfl ⟨_, hY⟩ ?_
      refine mo_no hM1 (fun h3 hM3 g3 => bk_Ki ?_)
      refine bg_iret rfl rfl (by rfl) ?_
      first
        | exact hQ hc hA4 (n + 1) _ (hM1.kp (fun q hq => gA q (by omega))) rfl rfl (Nat.le_succ n) (hm.trans (fm.new gA) (Nat.le_refl n))
        | exact hE hc h3 _ hM3 rfl rfl (fun q q1 q2 => (g3 q (by omega)).trans (hm q q1 q2))
    · have hc : isI (P 0) (nI c) ∧ w5 w := ⟨hb, w5_iff.mpr e19⟩
      obtain ⟨k, _, hk14, rfl⟩ := inR_nI (a := 0) (b := 4) (by decide) (by decide) e19
      refine bg_aload0 rfl ?_
      refine bg_iload1 rfl ?_
      refine bg_iload2 rfl ?_
      refine bg_virt2B (b := (1, 5)) rfl rfl rfl rfl ⟨_, hY⟩ (by show 0 + 1 ≤ B.1; omega) (by show 0 + 5 ≤ B.2; omega) ?_
      refine mo_barkTold (k := k) hc1 (by omega) hM1 hn (Nat.le_refl 1) (Nat.le_refl 5) (fun hA4 gA => bk_Ki ?_)
      refine bg_goto rfl ?_
      refine bg_iret rfl rfl (by rfl) ?_
      first
        | exact hQ hc hA4 (n + 1) _ (hM1.kp (fun q hq => gA q (by omega))) rfl rfl (Nat.le_succ n) (hm.trans (fm.new gA) (Nat.le_refl n))
        | exact hE hc h3 _ hM3 rfl rfl (fun q q1 q2 => (g3 q (by omega)).trans (hm q q1 q2))
theorem mo_spirit {b w : Int32} (hM : MD h y u v T P S J K C) (hn : y + 51 ≤ n ∧ u + 16 ≤ n) (hB1 : 1 ≤ B.1) (hB2 : 5 ≤ B.2) (hE : ¬ (isI (P 2) b ∧ w5 w) → ∀ (h' : bk_H) (J' : rI), MD h' y u v T P S J' K C → J' 0 = 1 → J' 2 = J 2 → fm h h' y n → Q (.inl (some (.int 0))) h' n) (hQ : isI (P 2) b ∧ w5 w → ∀ (h' : bk_H) (n' : Nat) (J' : rI), MD h' y u v T P S J' K C → J' 0 = 0 → J' 2 = J 2 → n ≤ n' → fm h h' y n → Q (.inl (some (.int (spV P S b w)))) h' n') : bk_wp V (d + 4) 206 [.ref y, .int b, .int w] h n B Q := by
  obtain ⟨hTp, har, hah, ⟨I, A, hR, hr, hP, hY, hp, hs, hv, hd1, hd2, hbs⟩, hJ1, hT2, hu⟩ := id hM
  have hl : (P 2).length ≤ 30 := Nat.le_trans hs.1.2.2.1.1 (by decide)
  refine bg_in rfl rfl ?_
  refine bg_aload0 rfl ?_
  refine bg_iconst rfl ?_
  refine bg_putfield rfl rfl hY (by rfl) ⟨rfl, rfl⟩ (by rfl) (fun h2 f2 g2 => ?_)
  have hM1 := hM.j (J' := upd J 0 0) f2 g2 rfl
  have hm : fm h h2 y n := fun q _ q2 => g2 q (by omega)
  obtain ⟨hTp, har, hah, ⟨I, A, hR, hr, hP, hY, hp, hs, hv, hd1, hd2, hbs⟩, hJ1, hT2, hu⟩ := id hM1
  refine bg_aload0 rfl ?_
  refine bg_iload1 rfl ?_
  refine bg_virt1 rfl rfl rfl rfl ⟨_, hY⟩ ?_
  refine mo_isSpirit hM1 (bk_Ki ?_)
  refine bg_ifeq_b rfl (fun e10 => ?_) (fun e10 => ?_)
  · have hc : ¬ (isI (P 2) b ∧ w5 w) := fun z => e10 z.1
    refine bg_aload0 rfl ?_
    refine bg_iconst rfl ?_
    refine bg_virt1 rfl rfl rfl rfl ⟨_, hY⟩ ?_
    refine mo_no hM1 (fun h3 hM3 g3 => bk_Ki ?_)
    refine bg_iret rfl rfl (by rfl) ?_
    first
      | exact hQ hc hA4 (n + 1) _ (hM1.kp (fun q hq => gA q (by omega))) rfl rfl (Nat.le_succ n) (hm.trans (fm.new gA) (Nat.le_refl n))
      | exact hE hc h3 _ hM3 rfl rfl (fun q q1 q2 => (g3 q (by omega)).trans (hm q q1 q2))
  · have hb := e10
    obtain ⟨c, hc1, rfl⟩ := isI_n e10 (by omega)
    refine bg_iload2 rfl ?_
    refine bg_iconst rfl ?_
    refine bg_iconst rfl ?_
    refine bg_stat3 rfl rfl rfl rfl ?_
    refine rb_isIn (bk_Ki ?_)
    refine bg_ifeq_b rfl (fun e19 => ?_) (fun e19 => ?_)
    · have hc : ¬ (isI (P 2) (nI c) ∧ w5 w) := fun z => e19 (w5_iff.mp z.2)
      refine bg_aload0 rfl ?_
      refine bg_iconst rfl ?_
      refine bg_virt1 rfl rfl rfl rfl ⟨_, hY⟩ ?_
      refine mo_no hM1 (fun h3 hM3 g3 => bk_Ki ?_)
      refine bg_iret rfl rfl (by rfl) ?_
      first
        | exact hQ hc hA4 (n + 1) _ (hM1.kp (fun q hq => gA q (by omega))) rfl rfl (Nat.le_succ n) (hm.trans (fm.new gA) (Nat.le_refl n))
        | exact hE hc h3 _ hM3 rfl rfl (fun q q1 q2 => (g3 q (by omega)).trans (hm q q1 q2))
    · have hc : isI (P 2) (nI c) ∧ w5 w := ⟨hb, w5_iff.mpr e19⟩
      obtain ⟨k, _, hk14, rfl⟩ := inR_nI (a := 0) (b := 4) (by decide) (by decide) e19
      refine bg_aload0 rfl ?_
      refine bg_iload1 rfl ?_
      refine bg_iload2 rfl ?_
      refine bg_virt2B (b := (1, 5)) rfl rfl rfl rfl ⟨_, hY⟩ (by show 0 + 1 ≤ B.1; omega) (by show 0 + 5 ≤ B.2; omega) ?_
      refine mo_spiritTold (k := k) hc1 (by omega) hM1 hn (Nat.le_refl 1) (Nat.le_refl 5) (fun hA4 gA => bk_Ki ?_)
      refine bg_goto rfl ?_
      refine bg_iret rfl rfl (by rfl) ?_
      first
        | exact hQ hc hA4 (n + 1) _ (hM1.kp (fun q hq => gA q (by omega))) rfl rfl (Nat.le_succ n) (hm.trans (fm.new gA) (Nat.le_refl n))
        | exact hE hc h3 _ hM3 rfl rfl (fun q q1 q2 => (g3 q (by omega)).trans (hm q q1 q2))
theorem mo_sheet {b w : Int32} (hM : MD h y u v T P S J K C) (hn : y + 51 ≤ n ∧ u + 16 ≤ n) (hE : ¬ (isI (S.2 3) b ∧ w4 w) → ∀ (h' : bk_H) (J' : rI), MD h' y u v T P S J' K C → J' 0 = 1 → J' 2 = J 2 → fm h h' y n → Q (.inl (some (.int 0))) h' n) (hQ : isI (S.2 3) b ∧ w4 w → ∀ (h' : bk_H) (n' : Nat) (J' : rI), MD h' y u v T P S J' K C → J' 0 = 0 → J' 2 = J 2 → n ≤ n' → fm h h' y n → Q (.inl (some (.int (shV S b w)))) h' n') : bk_wp V (d + 3) 208 [.ref y, .int b, .int w] h n B Q := by
  obtain ⟨hTp, har, hah, ⟨I, A, hR, hr, hP, hY, hp, hs, hv, hd1, hd2, hbs⟩, hJ1, hT2, hu⟩ := id hM
  have hl : (S.2 3).length ≤ 30 := hs.2.1.2.2.2.1.1
  refine bg_in rfl rfl ?_
  refine bg_aload0 rfl ?_
  refine bg_iconst rfl ?_
  refine bg_putfield rfl rfl hY (by rfl) ⟨rfl, rfl⟩ (by rfl) (fun h2 f2 g2 => ?_)
  have hM1 := hM.j (J' := upd J 0 0) f2 g2 rfl
  have hm : fm h h2 y n := fun q _ q2 => g2 q (by omega)
  obtain ⟨hTp, har, hah, ⟨I, A, hR, hr, hP, hY, hp, hs, hv, hd1, hd2, hbs⟩, hJ1, hT2, hu⟩ := id hM1
  refine bg_iload1 rfl ?_
  refine bg_iconst rfl ?_
  refine bg_aload0 rfl ?_
  refine bg_getfield rfl rfl hY (by rfl) ?_
  refine bg_getfield rfl rfl hR.1 (by rfl) ?_
  refine bg_iconst rfl ?_
  refine bg_isub rfl ?_
  refine bg_stat3 rfl rfl rfl rfl ?_
  refine rb_isIn (bk_Ki ?_)
  refine bg_ifeq_b rfl (fun e19 => ?_) (fun e19 => ?_)
  · have hc : ¬ (isI (S.2 3) b ∧ w4 w) := fun z => e19 (by rw [hr.1.2.1]; exact (in_isI (by omega)).mpr z.1)
    refine bg_aload0 rfl ?_
    refine bg_iconst rfl ?_
    refine bg_virt1 rfl rfl rfl rfl ⟨_, hY⟩ ?_
    refine mo_no hM1 (fun h3 hM3 g3 => bk_Ki ?_)
    refine bg_iret rfl rfl (by rfl) ?_
    first
      | exact hQ hc h2 n _ hM1 rfl rfl (Nat.le_refl n) hm
      | exact hE hc h3 _ hM3 rfl rfl (fun q q1 q2 => (g3 q (by omega)).trans (hm q q1 q2))
  · have hb : isI (S.2 3) b := by
      rw [hr.1.2.1] at e19
      exact (in_isI (by omega)).mp e19
    obtain ⟨c, hc1, rfl⟩ := isI_n hb (by omega)
    refine bg_iload2 rfl ?_
    refine bg_iconst rfl ?_
    refine bg_iconst rfl ?_
    refine bg_stat3 rfl rfl rfl rfl ?_
    refine rb_isIn (bk_Ki ?_)
    refine bg_ifeq_b rfl (fun e28 => ?_) (fun e28 => ?_)
    · have hc : ¬ (isI (S.2 3) (nI c) ∧ w4 w) := fun z => e28 (w4_iff.mp z.2)
      refine bg_aload0 rfl ?_
      refine bg_iconst rfl ?_
      refine bg_virt1 rfl rfl rfl rfl ⟨_, hY⟩ ?_
      refine mo_no hM1 (fun h3 hM3 g3 => bk_Ki ?_)
      refine bg_iret rfl rfl (by rfl) ?_
      first
        | exact hQ hc h2 n _ hM1 rfl rfl (Nat.le_refl n) hm
        | exact hE hc h3 _ hM3 rfl rfl (fun q q1 q2 => (g3 q (by omega)).trans (hm q q1 q2))
    · have hc : isI (S.2 3) (nI c) ∧ w4 w := ⟨hb, w4_iff.mpr e28⟩
      obtain ⟨k, _, hk14, rfl⟩ := inR_nI (a := 0) (b := 3) (by decide) (by decide) e28
      refine bg_aload0 rfl ?_
      refine bg_iload1 rfl ?_
      refine bg_iload2 rfl ?_
      refine bg_virt2 rfl rfl rfl rfl ⟨_, hY⟩ ?_
      refine mo_sheetTold (k := k) hc1 (by omega) hM1 (bk_Ki ?_)
      refine bg_goto rfl ?_
      refine bg_iret rfl rfl (by rfl) ?_
      first
        | exact hQ hc h2 n _ hM1 rfl rfl (Nat.le_refl n) hm
        | exact hE hc h3 _ hM3 rfl rfl (fun q q1 q2 => (g3 q (by omega)).trans (hm q q1 q2))
theorem mo_figure {b w : Int32} (hM : MD h y u v T P S J K C) (hn : y + 51 ≤ n ∧ u + 16 ≤ n) (hE : ¬ (isI (S.2 4) b ∧ w3 w) → ∀ (h' : bk_H) (J' : rI), MD h' y u v T P S J' K C → J' 0 = 1 → J' 2 = J 2 → fm h h' y n → Q (.inl (some (.int 0))) h' n) (hQ : isI (S.2 4) b ∧ w3 w → ∀ (h' : bk_H) (n' : Nat) (J' : rI), MD h' y u v T P S J' K C → J' 0 = 0 → J' 2 = J 2 → n ≤ n' → fm h h' y n → Q (.inl (some (.int (fiV P S b w)))) h' n') : bk_wp V (d + 4) 210 [.ref y, .int b, .int w] h n B Q := by
  obtain ⟨hTp, har, hah, ⟨I, A, hR, hr, hP, hY, hp, hs, hv, hd1, hd2, hbs⟩, hJ1, hT2, hu⟩ := id hM
  have hl : (S.2 4).length ≤ 30 := hs.2.1.2.2.2.2.1
  refine bg_in rfl rfl ?_
  refine bg_aload0 rfl ?_
  refine bg_iconst rfl ?_
  refine bg_putfield rfl rfl hY (by rfl) ⟨rfl, rfl⟩ (by rfl) (fun h2 f2 g2 => ?_)
  have hM1 := hM.j (J' := upd J 0 0) f2 g2 rfl
  have hm : fm h h2 y n := fun q _ q2 => g2 q (by omega)
  obtain ⟨hTp, har, hah, ⟨I, A, hR, hr, hP, hY, hp, hs, hv, hd1, hd2, hbs⟩, hJ1, hT2, hu⟩ := id hM1
  refine bg_iload1 rfl ?_
  refine bg_iconst rfl ?_
  refine bg_aload0 rfl ?_
  refine bg_getfield rfl rfl hY (by rfl) ?_
  refine bg_getfield rfl rfl hR.1 (by rfl) ?_
  refine bg_iconst rfl ?_
  refine bg_isub rfl ?_
  refine bg_stat3 rfl rfl rfl rfl ?_
  refine rb_isIn (bk_Ki ?_)
  refine bg_ifeq_b rfl (fun e19 => ?_) (fun e19 => ?_)
  · have hc : ¬ (isI (S.2 4) b ∧ w3 w) := fun z => e19 (by rw [hr.1.2.2.1]; exact (in_isI (by omega)).mpr z.1)
    refine bg_aload0 rfl ?_
    refine bg_iconst rfl ?_
    refine bg_virt1 rfl rfl rfl rfl ⟨_, hY⟩ ?_
    refine mo_no hM1 (fun h3 hM3 g3 => bk_Ki ?_)
    refine bg_iret rfl rfl (by rfl) ?_
    first
      | exact hQ hc h2 n _ hM1 rfl rfl (Nat.le_refl n) hm
      | exact hE hc h3 _ hM3 rfl rfl (fun q q1 q2 => (g3 q (by omega)).trans (hm q q1 q2))
  · have hb : isI (S.2 4) b := by
      rw [hr.1.2.2.1] at e19
      exact (in_isI (by omega)).mp e19
    obtain ⟨c, hc1, rfl⟩ := isI_n hb (by omega)
    refine bg_iload2 rfl ?_
    refine bg_iconst rfl ?_
    refine bg_iconst rfl ?_
    refine bg_stat3 rfl rfl rfl rfl ?_
    refine rb_isIn (bk_Ki ?_)
    refine bg_ifeq_b rfl (fun e28 => ?_) (fun e28 => ?_)
    · have hc : ¬ (isI (S.2 4) (nI c) ∧ w3 w) := fun z => e28 (w3_iff.mp z.2)
      refine bg_aload0 rfl ?_
      refine bg_iconst rfl ?_
      refine bg_virt1 rfl rfl rfl rfl ⟨_, hY⟩ ?_
      refine mo_no hM1 (fun h3 hM3 g3 => bk_Ki ?_)
      refine bg_iret rfl rfl (by rfl) ?_
      first
        | exact hQ hc h2 n _ hM1 rfl rfl (Nat.le_refl n) hm
        | exact hE hc h3 _ hM3 rfl rfl (fun q q1 q2 => (g3 q (by omega)).trans (hm q q1 q2))
    · have hc : isI (S.2 4) (nI c) ∧ w3 w := ⟨hb, w3_iff.mpr e28⟩
      obtain ⟨k, _, hk14, rfl⟩ := inR_nI (a := 0) (b := 2) (by decide) (by decide) e28
      refine bg_aload0 rfl ?_
      refine bg_iload1 rfl ?_
      refine bg_iload2 rfl ?_
      refine bg_virt2 rfl rfl rfl rfl ⟨_, hY⟩ ?_
      refine mo_figureTold (k := k) hc1 (by omega) hM1 (bk_Ki ?_)
      refine bg_goto rfl ?_
      refine bg_iret rfl rfl (by rfl) ?_
      first
        | exact hQ hc h2 n _ hM1 rfl rfl (Nat.le_refl n) hm
        | exact hE hc h3 _ hM3 rfl rfl (fun q q1 q2 => (g3 q (by omega)).trans (hm q q1 q2))
theorem mo_beater {b w : Int32} (hM : MD h y u v T P S J K C) (hn : y + 51 ≤ n ∧ u + 16 ≤ n) {m : Nat} (h0 : S.1 0 = nI m) (hm0 : m < 2 ^ 31) (hE : ¬ (isI (P 1) b ∧ w4 w) → ∀ (h' : bk_H) (J' : rI), MD h' y u v T P S J' K C → J' 0 = 1 → J' 2 = J 2 → fm h h' y n → Q (.inl (some (.int 0))) h' n) (hQ : isI (P 1) b ∧ w4 w → ∀ (h' : bk_H) (n' : Nat) (J' : rI), MD h' y u v T P S J' K C → J' 0 = 0 → J' 2 = J 2 → n ≤ n' → fm h h' y n → Q (.inl (some (.int (beV P S b w)))) h' n') : bk_wp V (d + 9) 204 [.ref y, .int b, .int w] h n B Q := by
  obtain ⟨hTp, har, hah, ⟨I, A, hR, hr, hP, hY, hp, hs, hv, hd1, hd2, hbs⟩, hJ1, hT2, hu⟩ := id hM
  have hl : (P 1).length ≤ 30 := Nat.le_trans hs.1.2.1.1 (by decide)
  refine bg_in rfl rfl ?_
  refine bg_aload0 rfl ?_
  refine bg_iconst rfl ?_
  refine bg_putfield rfl rfl hY (by rfl) ⟨rfl, rfl⟩ (by rfl) (fun h2 f2 g2 => ?_)
  have hM1 := hM.j (J' := upd J 0 0) f2 g2 rfl
  have hm : fm h h2 y n := fun q _ q2 => g2 q (by omega)
  obtain ⟨hTp, har, hah, ⟨I, A, hR, hr, hP, hY, hp, hs, hv, hd1, hd2, hbs⟩, hJ1, hT2, hu⟩ := id hM1
  refine bg_aload0 rfl ?_
  refine bg_iload1 rfl ?_
  refine bg_virt1 rfl rfl rfl rfl ⟨_, hY⟩ ?_
  refine mo_isBeater hM1 (bk_Ki ?_)
  refine bg_ifeq_b rfl (fun e10 => ?_) (fun e10 => ?_)
  · have hc : ¬ (isI (P 1) b ∧ w4 w) := fun z => e10 z.1
    refine bg_aload0 rfl ?_
    refine bg_iconst rfl ?_
    refine bg_virt1 rfl rfl rfl rfl ⟨_, hY⟩ ?_
    refine mo_no hM1 (fun h3 hM3 g3 => bk_Ki ?_)
    refine bg_iret rfl rfl (by rfl) ?_
    first
      | exact hQ hc h4 n _ hM4 rfl rfl (Nat.le_refl n) (hm.trans hF4 (Nat.le_refl n))
      | exact hE hc h3 _ hM3 rfl rfl (fun q q1 q2 => (g3 q (by omega)).trans (hm q q1 q2))
  · have hb := e10
    obtain ⟨c, hc1, rfl⟩ := isI_n e10 (by omega)
    refine bg_iload2 rfl ?_
    refine bg_iconst rfl ?_
    refine bg_iconst rfl ?_
    refine bg_stat3 rfl rfl rfl rfl ?_
    refine rb_isIn (bk_Ki ?_)
    refine bg_ifeq_b rfl (fun e19 => ?_) (fun e19 => ?_)
    · have hc : ¬ (isI (P 1) (nI c) ∧ w4 w) := fun z => e19 (w4_iff.mp z.2)
      refine bg_aload0 rfl ?_
      refine bg_iconst rfl ?_
      refine bg_virt1 rfl rfl rfl rfl ⟨_, hY⟩ ?_
      refine mo_no hM1 (fun h3 hM3 g3 => bk_Ki ?_)
      refine bg_iret rfl rfl (by rfl) ?_
      first
        | exact hQ hc h4 n _ hM4 rfl rfl (Nat.le_refl n) (hm.trans hF4 (Nat.le_refl n))
        | exact hE hc h3 _ hM3 rfl rfl (fun q q1 q2 => (g3 q (by omega)).trans (hm q q1 q2))
    · have hc : isI (P 1) (nI c) ∧ w4 w := ⟨hb, w4_iff.mpr e19⟩
      obtain ⟨k, _, hk14, rfl⟩ := inR_nI (a := 0) (b := 3) (by decide) (by decide) e19
      refine bg_aload0 rfl ?_
      refine bg_iload1 rfl ?_
      refine bg_iload2 rfl ?_
      refine bg_virt2 rfl rfl rfl rfl ⟨_, hY⟩ ?_
      refine mo_beaterTold (k := k) h0 hm0 hc1 (by omega) hM1 (fun h4 hM4 hF4 => bk_Ki ?_)
      refine bg_goto rfl ?_
      refine bg_iret rfl rfl (by rfl) ?_
      first
        | exact hQ hc h4 n _ hM4 rfl rfl (Nat.le_refl n) (hm.trans hF4 (Nat.le_refl n))
        | exact hE hc h3 _ hM3 rfl rfl (fun q q1 q2 => (g3 q (by omega)).trans (hm q q1 q2))
theorem mo_force {b : Int32} (hM : MD h y u v T P S J K C) (hE : ¬ isI (P 0) b → ∀ (h' : bk_H) (J' : rI), MD h' y u v T P S J' K C → J' 0 = 1 → J' 2 = J 2 → fm h h' y n → Q (.inl (some (.int 0))) h' n) (hQ : isI (P 0) b → ∀ (h' : bk_H) (n' : Nat) (J' : rI), MD h' y u v T P S J' K C → J' 0 = 0 → J' 2 = J 2 → n ≤ n' → fm h h' y n → Q (.inl (some (.int (fcF P S (bsF P S (P 1).length) b)))) h' n') : bk_wp V (d + 9) 212 [.ref y, .int b] h n B Q := by
  obtain ⟨hTp, har, hah, ⟨I, A, hR, hr, hP, hY, hp, hs, hv, hd1, hd2, hbs⟩, hJ1, hT2, hu⟩ := id hM
  refine bg_in rfl rfl ?_
  refine bg_aload0 rfl ?_
  refine bg_iconst rfl ?_
  refine bg_putfield rfl rfl hY (by rfl) ⟨rfl, rfl⟩ (by rfl) (fun h2 f2 g2 => ?_)
  have hM1 := hM.j (J' := upd J 0 0) f2 g2 rfl
  have hm : fm h h2 y n := fun q _ q2 => g2 q (by omega)
  obtain ⟨hTp, har, hah, ⟨I, A, hR, hr, hP, hY, hp, hs, hv, hd1, hd2, hbs⟩, hJ1, hT2, hu⟩ := id hM1
  refine bg_aload0 rfl ?_
  refine bg_iload1 rfl ?_
  refine bg_virt1 rfl rfl rfl rfl ⟨_, hY⟩ ?_
  refine mo_isBark hM1 (bk_Ki ?_)
  refine bg_ifeq_b rfl (fun e10 => ?_) (fun e10 => ?_)
  · have hc := e10
    refine bg_aload0 rfl ?_
    refine bg_iconst rfl ?_
    refine bg_virt1 rfl rfl rfl rfl ⟨_, hY⟩ ?_
    refine mo_no hM1 (fun h3 hM3 g3 => bk_Ki ?_)
    refine bg_iret rfl rfl (by rfl) ?_
    first
      | exact hQ hc h4 n _ hM4 rfl rfl (Nat.le_refl n) (hm.trans hF4 (Nat.le_refl n))
      | exact hE hc h3 _ hM3 rfl rfl (fun q q1 q2 => (g3 q (by omega)).trans (hm q q1 q2))
  · have hc := e10
    refine bg_aload0 rfl ?_
    refine bg_iload1 rfl ?_
    refine bg_virt1 rfl rfl rfl rfl ⟨_, hY⟩ ?_
    refine mo_forceOn hM1 (fun h4 hM4 hF4 => bk_Ki ?_)
    refine bg_goto rfl ?_
    refine bg_iret rfl rfl (by rfl) ?_
    first
      | exact hQ hc h4 n _ hM4 rfl rfl (Nat.le_refl n) (hm.trans hF4 (Nat.le_refl n))
      | exact hE hc h3 _ hM3 rfl rfl (fun q q1 q2 => (g3 q (by omega)).trans (hm q q1 q2))
end MM
