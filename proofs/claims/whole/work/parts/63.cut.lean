/-! THE REFERENCE: cutting, selling. Printed by wip/whole/mk63.py. -/
section RB
variable {V : bk_V} {d n : Nat} {B : Nat × Nat} {Q : bk_R → bk_H → Nat → Prop} {h : bk_H} {r y u v : Nat} {P : Nat → bT} {S : bS} {I J K : rI} {A C : rA} {bs : bT} {cs : Nat × Nat}
theorem RW_cast {S' : bS} (hW : RW h r y u v P S J K C bs) (e : S = S') : RW h r y u v P S' J K C bs := e ▸ hW
theorem rw_cutL {g b o : Nat} (ho : o < (P 3).length) (hg : g < (P 2).length) (hC9 : C 9 o = nI b) (hf : (S.2 4).length < 30) (hW : RW h r y u v P S J K C bs) : ∀ (c i : Nat), i + c = (S.2 3).length → (∀ h', RW h' r y u v P (if (shL P (S.2 3) (nI g) (nI b) c i) < 0 then S else cutO P (nI g) (shL P (S.2 3) (nI g) (nI b) c i) S) J K C bs → fr h h' r (r + 14) → Q (.inl none) h' n) → bk_g V (d + 1) 139 B Q 64 [some (.ref r), some (.int (nI o)), some (.int (nI g)), some (.int (rG (P 2) (nI g) 0)), some (.int (nI i))] [] h n cs := by
  intro c
  induction c with
  | zero =>
    intro i hi hQ
    obtain ⟨I, A, hR, hr, hP, hY, hp, hs, hv, hd1, hd2, hbs⟩ := id hW
    have hl3 : (S.2 3).length ≤ 30 := hs.2.1.2.2.2.1.1
    have hl4 : (S.2 4).length ≤ 30 := hs.2.1.2.2.2.2.1
    have hI6 : I 6 = nI (S.2 3).length := hr.1.2.1
    have hI7 : I 7 = nI (S.2 4).length := hr.1.2.2.1
    have hl24 : (P 3).length ≤ 24 := hs.1.2.2.2.1.1
    have hlg : (P 2).length ≤ 6 := hs.1.2.2.1.1
    have hF : fr h h r (r + 14) := fr.refl
    refine bg_iload4 rfl ?_
    refine bg_aload0 rfl ?_
    refine bg_getfield rfl rfl hR.1 (by rfl) ?_
    refine bg_icmp_ge rfl (fun e70 => ?_) (fun e70 => absurd e70 (by rw [hI6]; exact nI_nlt (by omega) (by omega)))
    refine bg_ret rfl rfl ?_
    exact hQ h hW fr.refl
  | succ c ih =>
    intro i hi hQ
    obtain ⟨I, A, hR, hr, hP, hY, hp, hs, hv, hd1, hd2, hbs⟩ := id hW
    have hl3 : (S.2 3).length ≤ 30 := hs.2.1.2.2.2.1.1
    have hl4 : (S.2 4).length ≤ 30 := hs.2.1.2.2.2.2.1
    have hI6 : I 6 = nI (S.2 3).length := hr.1.2.1
    have hI7 : I 7 = nI (S.2 4).length := hr.1.2.2.1
    have hl24 : (P 3).length ≤ 24 := hs.1.2.2.2.1.1
    have hlg : (P 2).length ≤ 6 := hs.1.2.2.1.1
    have hF : fr h h r (r + 14) := fr.refl
    have hst : (shL P (S.2 3) (nI g) (nI b) (c + 1) i) = if fitC P (S.2 3) (nI g) (nI b) i then nI i else (shL P (S.2 3) (nI g) (nI b) c (i + 1)) := rfl
    have hi1 : i < (S.2 3).length := by omega
    obtain ⟨hA5, hA6, hA7, hA8⟩ := hr.2.2.2.2.1 i hi1
    have hC5 : C 5 g = rG (P 2) (nI g) 1 := by
      rw [rG_nI (by omega)]
      exact (hp.2.2.2.1 g hg).2.1
    have hI5 : I 5 = S.1 5 := hr.1.1 5 (by decide)
    refine bg_iload4 rfl ?_
    refine bg_aload0 rfl ?_
    refine bg_getfield rfl rfl hR.1 (by rfl) ?_
    refine bg_icmp_ge rfl (fun e70 => absurd (by rw [hI6]; exact nI_lt (by omega) (by omega)) e70) (fun e70 => ?_)
    refine bg_aload0 rfl ?_
    refine bg_iload4 rfl ?_
    refine bg_aload0 rfl ?_
    refine bg_getfield rfl rfl hR.1 (by rfl) ?_
    refine bg_getfield rfl rfl hY (by rfl) ?_
    refine bg_getfield rfl rfl hP.1 (by rfl) ?_
    refine bg_iload1 rfl ?_
    refine bg_iaload_n rfl (pR10 hP) (by omega) (by omega) ?_
    refine bg_iload3 rfl ?_
    refine bg_virt3 rfl rfl rfl rfl ⟨_, hR.1⟩ ?_
    rw [hC9]
    refine rw_fits (by omega) hW (bk_Ki ?_)
    refine bg_ifne_b rfl (fun e92 => ?_) (fun e92 => ?_)
    · rw [hst, if_pos e92, if_neg (nI_pos (by omega))] at hQ
      refine bg_aload0 rfl ?_
      refine bg_getfield rfl rfl hR.1 (by rfl) ?_
      refine bg_aload0 rfl ?_
      refine bg_getfield rfl rfl hR.1 (by rfl) ?_
      rw [hI7]
      refine bg_iload2 rfl ?_
      refine bg_iastore_n rfl (sR10 hR) (by omega) (by omega) (fun h107 f107 g107 => ?_)
      obtain ⟨hR, hF1⟩ := RO.a9 hR f107 g107
      replace hP := hP.kp hF1 (by omega)
      replace hY : YO h107 y J u v := (hF1 y (by omega)).trans hY
      replace hF := hF.trans hF1
      replace hr := RRof hR (RR_b9 (i0 := (S.2 4).length) hr (Nat.le_refl _))
      refine bg_aload0 rfl ?_
      refine bg_getfield rfl rfl hR.1 (by rfl) ?_
      refine bg_aload0 rfl ?_
      refine bg_getfield rfl rfl hR.1 (by rfl) ?_
      rw [hI7]
      refine bg_iconst rfl ?_
      refine bg_aload0 rfl ?_
      refine bg_getfield rfl rfl hR.1 (by rfl) ?_
      refine bg_getfield rfl rfl hY (by rfl) ?_
      refine bg_getfield rfl rfl hP.1 (by rfl) ?_
      refine bg_iload2 rfl ?_
      refine bg_iaload_n rfl (pR6 hP) (by omega) (by omega) ?_
      refine bg_iload3 rfl ?_
      refine bg_iconst rfl ?_
      refine bg_iadd rfl ?_
      refine bg_imul rfl ?_
      refine bg_aload0 rfl ?_
      refine bg_getfield rfl rfl hR.1 (by rfl) ?_
      refine bg_iload4 rfl ?_
      refine bg_iaload_n rfl (sR7 hR) (by omega) (by omega) ?_
      refine bg_iload3 rfl ?_
      refine bg_imul rfl ?_
      refine bg_isub rfl ?_
      refine bg_iconst rfl ?_
      refine bg_aload0 rfl ?_
      refine bg_getfield rfl rfl hR.1 (by rfl) ?_
      refine bg_iload4 rfl ?_
      refine bg_iaload_n rfl (sR9 hR) (by omega) (by omega) ?_
      refine bg_imul rfl ?_
      refine bg_isub rfl ?_
      refine bg_max rfl rfl rfl ?_
      rw [show (if 0 < C 5 g * (rG (P 2) (nI g) 0 + 1) - uA A 9 (upd (A 9) (S.2 4).length (nI g)) 6 i * rG (P 2) (nI g) 0 - 2 * uA A 9 (upd (A 9) (S.2 4).length (nI g)) 8 i then C 5 g * (rG (P 2) (nI g) 0 + 1) - uA A 9 (upd (A 9) (S.2 4).length (nI g)) 6 i * rG (P 2) (nI g) 0 - 2 * uA A 9 (upd (A 9) (S.2 4).length (nI g)) 8 i else 0) = (btyF P (nI g) (tg (S.2 3) i 1) (tg (S.2 3) i 3)) from by
        show iMax 0 (C 5 g * (rG (P 2) (nI g) 0 + 1) - A 6 i * rG (P 2) (nI g) 0 - 2 * A 8 i) = _
        rw [hC5, hA6, hA8]
        rfl]
      refine bg_iastore_n rfl (sR11 hR) (by omega) (by omega) (fun h156 f156 g156 => ?_)
      obtain ⟨hR, hF1⟩ := RO.a10 hR f156 g156
      replace hP := hP.kp hF1 (by omega)
      replace hY : YO h156 y J u v := (hF1 y (by omega)).trans hY
      replace hF := hF.trans hF1
      replace hr := RRof hR (RR_b10 (i0 := (S.2 4).length) hr (Nat.le_refl _))
      refine bg_aload0 rfl ?_
      refine bg_dup rfl rfl ?_
      refine bg_getfield rfl rfl hR.1 (by rfl) ?_
      refine bg_iconst rfl ?_
      refine bg_iadd rfl ?_
      refine bg_putfield rfl rfl hR.1 (by rfl) ⟨rfl, rfl⟩ (by rfl) (fun h164 f164 g164 => ?_)
      obtain ⟨hR, hF1⟩ := RO.i7 hR f164 g164
      replace hP := hP.kp hF1 (by omega)
      replace hY : YO h164 y J u v := (hF1 y (by omega)).trans hY
      replace hF := hF.trans hF1
      replace hr := RRof hR (RR_p4 hr)
      refine bg_aload0 rfl ?_
      refine bg_dup rfl rfl ?_
      refine bg_getfield rfl rfl hR.1 (by rfl) ?_
      refine bg_iconst rfl ?_
      refine bg_iadd rfl ?_
      refine bg_putfield rfl rfl hR.1 (by rfl) ⟨rfl, rfl⟩ (by rfl) (fun h174 f174 g174 => ?_)
      obtain ⟨hR, hF1⟩ := RO.i5 hR f174 g174
      replace hP := hP.kp hF1 (by omega)
      replace hY : YO h174 y J u v := (hF1 y (by omega)).trans hY
      replace hF := hF.trans hF1
      replace hr := RRof hR (RR_i5 hr)
      have hr9 : RR (upd S.1 5 (S.1 5 + 1), uT S.2 4 (S.2 4 ++ [[nI g, (btyF P (nI g) (tg (S.2 3) i 1) (tg (S.2 3) i 3))]])) _ _ := RR_cast hr (bS_ext (by
        show upd S.1 5 (I 5 + 1) = upd S.1 5 (S.1 5 + 1)
        rw [show I 5 = S.1 5 from hI5]) (fun k => by
        show uT S.2 4 (S.2 4 ++ [[upd (A 9) (S.2 4).length (nI g) (S.2 4).length, upd (A 10) (S.2 4).length (btyF P (nI g) (tg (S.2 3) i 1) (tg (S.2 3) i 3)) (S.2 4).length]]) k = _
        rw [upd_same, upd_same]))
      have hW9 := RW_i hR hr9 hP hY hp (SH_4 hs (shT_app hs.2.1.2.2.2.2 (by omega) rfl)) (IV_4 hv (fun j hj => by
        rw [List.length_append] at hj
        by_cases e : j < (S.2 4).length
        · rw [tg_app e]
          exact hv.2.2.2 j e
        · have e1 : j = (S.2 4).length := by
            have : j < (S.2 4).length + 1 := hj
            omega
          rw [e1, tg_new]
          exact ⟨g, hg, rfl⟩)) hd1 hd2 hbs
      refine bg_aload0 rfl ?_
      refine bg_iload4 rfl ?_
      refine bg_virt1 rfl rfl rfl rfl ⟨_, hR.1⟩ ?_
      refine rw_take (p := i) (by exact hi1) hW9 (fun h2 hW2 hF2 => bk_Kv ?_)
      replace hW2 := RW_cast hW2 (show _ = cutO P (nI g) (nI i) S from bS_ext rfl (fun k => by
        show uT (uT S.2 4 _) 3 ((S.2 3).eraseIdx i) k = uT (uT S.2 3 (rE (S.2 3) (nI i))) 4 (S.2 4 ++ [[nI g, btyF P (nI g) (rG (S.2 3) (nI i) 1) (rG (S.2 3) (nI i) 3)]]) k
        rw [rE_nI (by omega), rG_nI (by omega), rG_nI (by omega)]
        by_cases k3 : k = 3
        · subst k3
          rfl
        · by_cases k4 : k = 4
          · subst k4
            rfl
          · unfold uT
            simp only [if_neg k3, if_neg k4]))
      refine bg_ret rfl rfl ?_
      exact hQ h2 hW2 (hF.trans hF2)
    · rw [hst, if_neg e92] at hQ
      refine bg_goto rfl ?_
      refine bg_iinc4 rfl rfl ?_
      rw [nI_1]
      refine bg_goto rfl ?_
      exact ih (i + 1) (by omega) hQ

theorem RW_bs (hW : RW h r y u v P S J K C bs) : RW h r y u v P S J K C [] := by
  obtain ⟨I, A, hR, hr, hP, hY, hp, hs, hv, hd1, hd2, hbs⟩ := hW
  exact RW_i hR hr hP hY hp hs hv hd1 hd2 (fun k hk => absurd hk (Nat.not_lt_zero k))
theorem rw_cut {o : Nat} (ho : o < (P 3).length) (hW : RW h r y u v P S J K C bs) (hQ : ∀ h', RW h' r y u v P (cut1 P o S) J K C [] → fr h h' r (r + 14) → Q (.inl none) h' n) : bk_wp V (d + 6) 139 [.ref r, .int (nI o)] h n B Q := by
  obtain ⟨I, A, hR, hr, hP, hY, hp, hs, hv, hd1, hd2, hbs⟩ := id hW
  have hl4 : (S.2 4).length ≤ 30 := hs.2.1.2.2.2.2.1
  have hl24 : (P 3).length ≤ 24 := hs.1.2.2.2.1.1
  have hlg : (P 2).length ≤ 6 := hs.1.2.2.1.1
  obtain ⟨hc7, h11, h13, h15, _, _⟩ := hp.2.2.2.2 o ho
  refine bg_in rfl rfl ?_
  refine bg_aload0 rfl ?_
  refine bg_getfield rfl rfl hR.1 (by rfl) ?_
  refine bg_getfield rfl rfl hY (by rfl) ?_
  refine bg_getfield rfl rfl hP.1 (by rfl) ?_
  refine bg_iload1 rfl ?_
  refine bg_iaload_n rfl (pR8 hP) (by omega) (by omega) ?_
  refine bg_bipush rfl ?_
  refine bg_icmp_ne rfl (fun e14 => ?_) (fun e14 => ?_)
  · refine bg_ret rfl rfl ?_
    exact hQ h (RW_bs (RW_cast hW (if_neg (fun z => e14 (hc7.trans (by rw [z.1]; rfl)))).symm)) fr.refl
  · have hk15 : rG (P 3) (nI o) 0 = 15 := (Int32.sub_add_cancel _ 1).symm.trans (by rw [← hc7, e14]; rfl)
    obtain ⟨⟨g, hg, hg1, hg2⟩, b, hb, hb1, hb2⟩ := h15 hk15
    refine bg_aload0 rfl ?_
    refine bg_iload1 rfl ?_
    refine bg_virt1 rfl rfl rfl rfl ⟨_, hR.1⟩ ?_
    refine rw_test ho hW (fun h2 hW2 hF2 => bk_Ki ?_)
    refine bg_ifeq_b rfl (fun e22 => ?_) (fun e22 => ?_)
    · refine bg_ret rfl rfl ?_
      exact hQ h2 (RW_bs (RW_cast hW2 (if_neg (fun z => e22 z.2.2)).symm)) (hF2.wide (by omega) (by omega))
    · obtain ⟨I, A, hR, hr, hP, hY, hp, hs, hv, hd1, hd2, hbs⟩ := id hW2
      have hI7 : I 7 = nI (S.2 4).length := hr.1.2.2.1
      have hC4 : C 4 g = rG (P 2) (nI g) 0 := by
        rw [rG_nI (by omega)]
        exact (hp.2.2.2.1 g hg).1
      refine bg_aload0 rfl ?_
      refine bg_getfield rfl rfl hR.1 (by rfl) ?_
      refine bg_bipush rfl ?_
      refine bg_icmp_ne rfl (fun e31 => ?_) (fun e31 => ?_)
      · have hf : (S.2 4).length < 30 := Nat.lt_of_le_of_ne hl4 (fun z => e31 (by rw [hI7, z]; rfl))
        refine bg_aload0 rfl ?_
        refine bg_getfield rfl rfl hR.1 (by rfl) ?_
        refine bg_getfield rfl rfl hY (by rfl) ?_
        refine bg_getfield rfl rfl hP.1 (by rfl) ?_
        refine bg_iload1 rfl ?_
        refine bg_iaload_n rfl (pR9 hP) (by omega) (by omega) ?_
        rw [hg2]
        refine bg_istore2 rfl rfl ?_
        refine bg_aload0 rfl ?_
        refine bg_getfield rfl rfl hR.1 (by rfl) ?_
        refine bg_getfield rfl rfl hY (by rfl) ?_
        refine bg_getfield rfl rfl hP.1 (by rfl) ?_
        refine bg_iload2 rfl ?_
        refine bg_iaload_n rfl (pR5 hP) (by omega) (by omega) ?_
        rw [hC4]
        refine bg_istore3 rfl rfl ?_
        refine bg_iconst rfl ?_
        refine bg_istore4 rfl rfl ?_
        refine rw_cutL ho hg hb2 hf hW2 (S.2 3).length 0 (Nat.zero_add _) (fun h' a b => hQ h' (RW_bs (RW_cast a ?_)) ((hF2.wide (by omega) (by omega)).trans b))
        refine (Eq.trans (show cut1 P o S = _ from if_pos ⟨hk15, Nat.not_le.mpr hf, e22⟩) ?_).symm
        rw [hg1, hb1]
      · have hf : (S.2 4).length = 30 := by
          rw [hI7] at e31
          have z := congrArg Int32.toInt e31
          rw [rx_nI (by omega)] at z
          exact Int.ofNat.inj z
        refine bg_ret rfl rfl ?_
        exact hQ h2 (RW_bs (RW_cast hW2 (if_neg (fun z => z.2.1 (Nat.le_of_eq hf.symm))).symm)) (hF2.wide (by omega) (by omega))
theorem rw_paid {i : Nat} (hi : i < (S.2 4).length) (hW : RW h r y u v P S J K C bs) (hQ : Q (.inl (some (.int (paid P (S.2 4) (nI i))))) h n) : bk_wp V (d + 1) 140 [.ref r, .int (nI i)] h n B Q := by
  obtain ⟨I, A, hR, hr, hP, hY, hp, hs, hv, hd1, hd2, hbs⟩ := id hW
  have hl4 : (S.2 4).length ≤ 30 := hs.2.1.2.2.2.2.1
  have hlg : (P 2).length ≤ 6 := hs.1.2.2.1.1
  obtain ⟨hA9, hA10⟩ := hr.2.2.2.2.2 i hi
  obtain ⟨g, hg, hg1⟩ := hv.2.2.2 i hi
  have hC6 : C 6 g = rG (P 2) (nI g) 2 := by
    rw [rG_nI (by omega)]
    exact (hp.2.2.2.1 g hg).2.2
  have hpd : paid P (S.2 4) (nI i) = rG (P 2) (nI g) 2 + tg (S.2 4) i 1 / 4 := by
    unfold paid
    rw [rG_nI (by omega), rG_nI (by omega), hg1]
  refine bg_in rfl rfl ?_
  refine bg_aload0 rfl ?_
  refine bg_getfield rfl rfl hR.1 (by rfl) ?_
  refine bg_getfield rfl rfl hY (by rfl) ?_
  refine bg_getfield rfl rfl hP.1 (by rfl) ?_
  refine bg_aload0 rfl ?_
  refine bg_getfield rfl rfl hR.1 (by rfl) ?_
  refine bg_iload1 rfl ?_
  refine bg_iaload_n rfl (sR10 hR) (by omega) (by omega) ?_
  rw [hA9, hg1]
  refine bg_iaload_n rfl (pR7 hP) (by omega) (by omega) ?_
  refine bg_aload0 rfl ?_
  refine bg_getfield rfl rfl hR.1 (by rfl) ?_
  refine bg_iload1 rfl ?_
  refine bg_iaload_n rfl (sR11 hR) (by omega) (by omega) ?_
  refine bg_iconst rfl ?_
  refine bg_idiv rfl (by decide) ?_
  refine bg_iadd rfl ?_
  refine bg_iret rfl rfl (by rfl) ?_
  exact bQ hQ (by rw [hpd, hC6, hA10])
theorem rw_drL (hW : RW h r y u v P S J K C bs) (hK : bk_g V (d + 1) 141 B Q 33 [some (.ref r), some (.int (nI (dear P (S.2 4)))), some (.int (nI (S.2 4).length))] [] h n cs) : ∀ (c i q : Nat), i + c = (S.2 4).length → 1 ≤ i → q < i → dear P (S.2 4) = drL P (S.2 4) c i q → bk_g V (d + 1) 141 B Q 4 [some (.ref r), some (.int (nI q)), some (.int (nI i))] [] h n cs := by
  intro c
  induction c with
  | zero =>
    intro i q hi hi1 hq hd
    obtain ⟨I, A, hR, hr, hP, hY, hp, hs, hv, hd1, hd2, hbs⟩ := id hW
    have hl3 : (S.2 3).length ≤ 30 := hs.2.1.2.2.2.1.1
    have hl4 : (S.2 4).length ≤ 30 := hs.2.1.2.2.2.2.1
    have hI6 : I 6 = nI (S.2 3).length := hr.1.2.1
    have hI7 : I 7 = nI (S.2 4).length := hr.1.2.2.1
    have hl24 : (P 3).length ≤ 24 := hs.1.2.2.2.1.1
    have hlg : (P 2).length ≤ 6 := hs.1.2.2.1.1
    have hF : fr h h r (r + 14) := fr.refl
    refine bg_iload2 rfl ?_
    refine bg_aload0 rfl ?_
    refine bg_getfield rfl rfl hR.1 (by rfl) ?_
    refine bg_icmp_ge rfl (fun e9 => ?_) (fun e9 => absurd e9 (by rw [hI7]; exact nI_nlt (by omega) (by omega)))
    have hi2 : i = (S.2 4).length := by omega
    subst hi2
    rw [show q = dear P (S.2 4) from hd.symm]
    exact hK
  | succ c ih =>
    intro i q hi hi1 hq hd
    obtain ⟨I, A, hR, hr, hP, hY, hp, hs, hv, hd1, hd2, hbs⟩ := id hW
    have hl3 : (S.2 3).length ≤ 30 := hs.2.1.2.2.2.1.1
    have hl4 : (S.2 4).length ≤ 30 := hs.2.1.2.2.2.2.1
    have hI6 : I 6 = nI (S.2 3).length := hr.1.2.1
    have hI7 : I 7 = nI (S.2 4).length := hr.1.2.2.1
    have hl24 : (P 3).length ≤ 24 := hs.1.2.2.2.1.1
    have hlg : (P 2).length ≤ 6 := hs.1.2.2.1.1
    have hF : fr h h r (r + 14) := fr.refl
    refine bg_iload2 rfl ?_
    refine bg_aload0 rfl ?_
    refine bg_getfield rfl rfl hR.1 (by rfl) ?_
    refine bg_icmp_ge rfl (fun e9 => absurd (by rw [hI7]; exact nI_lt (by omega) (by omega)) e9) (fun e9 => ?_)
    refine bg_aload0 rfl ?_
    refine bg_iload2 rfl ?_
    refine bg_virt1 rfl rfl rfl rfl ⟨_, hR.1⟩ ?_
    refine rw_paid (by omega) hW (bk_Ki ?_)
    refine bg_aload0 rfl ?_
    refine bg_iload1 rfl ?_
    refine bg_virt1 rfl rfl rfl rfl ⟨_, hR.1⟩ ?_
    refine rw_paid (by omega) hW (bk_Ki ?_)
    refine bg_icmp_le rfl (fun e22 => ?_) (fun e22 => ?_)
    · have hst : drL P (S.2 4) (c + 1) i q = drL P (S.2 4) c (i + 1) q := congrArg (drL P (S.2 4) c (i + 1)) (if_neg e22)
      refine bg_iinc2 rfl rfl ?_
      rw [nI_1]
      refine bg_goto rfl ?_
      exact ih (i + 1) _ (by omega) (by omega) (by omega) (hd.trans hst)
    · have hst : drL P (S.2 4) (c + 1) i q = drL P (S.2 4) c (i + 1) i := congrArg (drL P (S.2 4) c (i + 1)) (if_pos e22)
      refine bg_iload2 rfl ?_
      refine bg_istore1 rfl rfl ?_
      refine bg_iinc2 rfl rfl ?_
      rw [nI_1]
      refine bg_goto rfl ?_
      exact ih (i + 1) _ (by omega) (by omega) (by omega) (hd.trans hst)

theorem drL_lt {P : Nat → bT} {t : bT} : ∀ (c i q : Nat), i + c = t.length → q < t.length → drL P t c i q < t.length := by
  intro c
  induction c with
  | zero => exact fun i q _ h => h
  | succ c ih =>
    intro i q h1 h2
    exact ih (i + 1) _ (by omega) (by split <;> omega)
theorem dear_lt {P : Nat → bT} {t : bT} (h : 0 < t.length) : dear P t < t.length := drL_lt _ _ _ (by omega) h
/-- the figures' rows while those behind p move up, up to k -/
def TJ (S : bS) (A : rA) (p k : Nat) : Prop := ∀ i, i < (S.2 4).length → A 9 i = tg (S.2 4) (if p ≤ i ∧ i < k then i + 1 else i) 0 ∧ A 10 i = tg (S.2 4) (if p ≤ i ∧ i < k then i + 1 else i) 1
theorem TJ_fin {p : Nat} {I' : rI} {A' : rA} (hr : RR S I A) (hp : p < (S.2 4).length) (hI : I' = upd I 7 (nI ((S.2 4).length - 1))) (hA : ∀ a, a < 9 ∨ 11 ≤ a → A' a = A a) (hT : TJ S A' p ((S.2 4).length - 1)) : RR (S.1, uT S.2 4 ((S.2 4).eraseIdx p)) I' A' := by
  obtain ⟨⟨q1, q2, q3, q4⟩, h2, h3, h4, h5, h6⟩ := hr
  subst hI
  have hlen : ((S.2 4).eraseIdx p).length = (S.2 4).length - 1 := List.length_eraseIdx_of_lt hp
  refine ⟨⟨fun k hk => ?_, q2, ?_, q4⟩, ?_, ?_, ?_, ?_, ?_⟩
  · show upd I 7 _ k = _
    unfold upd
    rw [if_neg (by omega)]
    exact q1 k hk
  · show nI ((S.2 4).length - 1) = nI ((S.2 4).eraseIdx p).length
    rw [hlen]
  · intro i hi
    rw [hA 0 (by decide), hA 1 (by decide), hA 2 (by decide)]
    exact h2 i hi
  · intro i hi
    rw [hA 3 (by decide)]
    exact h3 i hi
  · intro i hi
    rw [hA 4 (by decide)]
    exact h4 i hi
  · intro i hi
    rw [hA 5 (by decide), hA 6 (by decide), hA 7 (by decide), hA 8 (by decide)]
    exact h5 i hi
  · show ∀ i, i < ((S.2 4).eraseIdx p).length → A' 9 i = tg ((S.2 4).eraseIdx p) i 0 ∧ A' 10 i = tg ((S.2 4).eraseIdx p) i 1
    intro i hi
    rw [hlen] at hi
    have e : (if p ≤ i ∧ i < (S.2 4).length - 1 then i + 1 else i) = if i < p then i else i + 1 := by
      by_cases z : i < p
      · rw [if_pos z, if_neg (by omega)]
      · rw [if_neg z, if_pos (by omega)]
    obtain ⟨a0, a1⟩ := hT i (by omega)
    rw [e] at a0 a1
    rw [tg_erase, tg_erase]
    exact ⟨a0, a1⟩
theorem TJ_s {p k : Nat} {t0 t1 : Int32} (hp : p ≤ k) (hk : k + 1 < (S.2 4).length) (hT : TJ S A p k) (h0 : t0 = A 9 (k + 1)) (h1 : t1 = A 10 (k + 1)) : TJ S (uA (uA A 9 (upd (A 9) k t0)) 10 (upd (A 10) k t1)) p (k + 1) := by
  intro i hi
  show upd (A 9) k t0 i = _ ∧ upd (A 10) k t1 i = _
  obtain ⟨a0, a1⟩ := hT i hi
  obtain ⟨b0, b1⟩ := hT (k + 1) hk
  rw [if_neg (by omega)] at b0 b1
  unfold upd
  by_cases e : i = k
  · subst e
    rw [if_pos rfl, if_pos rfl, if_pos (by omega), h0, h1]
    exact ⟨b0, b1⟩
  · rw [if_neg e, if_neg e]
    by_cases z : p ≤ i ∧ i < k
    · rw [if_pos z] at a0 a1
      rw [if_pos (by omega)]
      exact ⟨a0, a1⟩
    · rw [if_neg z] at a0 a1
      rw [if_neg (by omega)]
      exact ⟨a0, a1⟩
theorem rw_shiftL {h0 : bk_H} {p : Nat} {p0 : Int32} {I1 : rI} (hI7 : I1 7 = nI ((S.2 4).length - 1)) (hl : (S.2 4).length ≤ 30) (hd1 : u + 16 ≤ r ∨ r + 14 ≤ u) (hd2 : y < r ∨ r + 14 ≤ y) (hQ : ∀ h' A', RO h' r y I1 A' → PO h' u K C → YO h' y J u v → (∀ a, a < 9 ∨ 11 ≤ a → A' a = A a) → TJ S A' p ((S.2 4).length - 1) → fr h0 h' r (r + 14) → Q (.inl none) h' n) : ∀ (c k : Nat) {h : bk_H} {A1 : rA}, k + c + 1 = (S.2 4).length → p ≤ k → RO h r y I1 A1 → PO h u K C → YO h y J u v → (∀ a, a < 9 ∨ 11 ≤ a → A1 a = A a) → TJ S A1 p k → fr h0 h r (r + 14) → bk_g V d 141 B Q 74 [some (.ref r), some (.int p0), some (.int (nI k))] [] h n cs := by
  intro c
  induction c with
  | zero =>
    intro k h A1 hc hpk hR hP hY hA hT hF
    refine bg_iload2 rfl ?_
    refine bg_aload0 rfl ?_
    refine bg_getfield rfl rfl hR.1 (by rfl) ?_
    refine bg_icmp_ge rfl (fun e79 => ?_) (fun e79 => absurd e79 (by rw [hI7]; exact nI_nlt (by omega) (by omega)))
    refine bg_ret rfl rfl ?_
    have hk : k = (S.2 4).length - 1 := by omega
    subst hk
    exact hQ h A1 hR hP hY hA hT hF
  | succ c ih =>
    intro k h A1 hc hpk hR hP hY hA hT hF
    refine bg_iload2 rfl ?_
    refine bg_aload0 rfl ?_
    refine bg_getfield rfl rfl hR.1 (by rfl) ?_
    refine bg_icmp_ge rfl (fun e79 => absurd (by rw [hI7]; exact nI_lt (by omega) (by omega)) e79) (fun e79 => ?_)
    refine bg_aload0 rfl ?_
    refine bg_getfield rfl rfl hR.1 (by rfl) ?_
    refine bg_iload2 rfl ?_
    refine bg_aload0 rfl ?_
    refine bg_getfield rfl rfl hR.1 (by rfl) ?_
    refine bg_iload2 rfl ?_
    refine bg_iconst rfl ?_
    refine bg_iadd rfl ?_
    rw [nI_1]
    refine bg_iaload_n rfl (sR10 hR) (by omega) (by omega) ?_
    refine bg_iastore_n rfl (sR10 hR) (by omega) (by omega) (fun h95 f95 g95 => ?_)
    obtain ⟨hR, hF1⟩ := RO.a9 hR f95 g95
    replace hP := hP.kp hF1 (by omega)
    replace hY : YO h95 y J u v := (hF1 y (by omega)).trans hY
    replace hF := hF.trans hF1
    refine bg_aload0 rfl ?_
    refine bg_getfield rfl rfl hR.1 (by rfl) ?_
    refine bg_iload2 rfl ?_
    refine bg_aload0 rfl ?_
    refine bg_getfield rfl rfl hR.1 (by rfl) ?_
    refine bg_iload2 rfl ?_
    refine bg_iconst rfl ?_
    refine bg_iadd rfl ?_
    rw [nI_1]
    refine bg_iaload_n rfl (sR11 hR) (by omega) (by omega) ?_
    refine bg_iastore_n rfl (sR11 hR) (by omega) (by omega) (fun h109 f109 g109 => ?_)
    obtain ⟨hR, hF1⟩ := RO.a10 hR f109 g109
    replace hP := hP.kp hF1 (by omega)
    replace hY : YO h109 y J u v := (hF1 y (by omega)).trans hY
    replace hF := hF.trans hF1
    refine bg_iinc2 rfl rfl ?_
    rw [nI_1]
    refine bg_goto rfl ?_
    exact ih (k + 1) (by omega) (by omega) hR hP hY (fun a ha => by
      show (if a = 10 then _ else if a = 9 then _ else A1 a) = A a
      rw [if_neg (by omega), if_neg (by omega)]
      exact hA a ha) (TJ_s hpk (by omega) hT rfl rfl) hF

theorem RR_6 {S' : bS} (hr : RR S I A) (h1 : ∀ k, ¬ k = 6 → S.1 k = S'.1 k) (h2 : ∀ k, S.2 k = S'.2 k) : RR S' I A := by
  obtain ⟨⟨q1, q2, q3, q4⟩, q5⟩ := hr
  have e : S.2 = S'.2 := funext h2
  rw [e] at q2 q3 q5
  exact ⟨⟨fun k hk => (q1 k hk).trans (h1 k (by omega)), q2, q3, q4.trans (h1 7 (by decide))⟩, q5⟩
theorem rw_sell (h0 : 0 < (S.2 4).length) (hW : RW h r y u v P S J K C bs) (hQ : ∀ h', RW h' r y u v P (sell1 P S) J K C [] → fr h h' r (r + 14) → Q (.inl none) h' n) : bk_wp V (d + 2) 141 [.ref r] h n B Q := by
  obtain ⟨I, A, hR, hr, hP, hY, hp, hs, hv, hd1, hd2, hbs⟩ := id hW
  have hl3 : (S.2 3).length ≤ 30 := hs.2.1.2.2.2.1.1
  have hl4 : (S.2 4).length ≤ 30 := hs.2.1.2.2.2.2.1
  have hI6 : I 6 = nI (S.2 3).length := hr.1.2.1
  have hI7 : I 7 = nI (S.2 4).length := hr.1.2.2.1
  have hl24 : (P 3).length ≤ 24 := hs.1.2.2.2.1.1
  have hlg : (P 2).length ≤ 6 := hs.1.2.2.1.1
  have hF : fr h h r (r + 14) := fr.refl
  have hdl : (dear P (S.2 4)) < (S.2 4).length := dear_lt h0
  have h22 : (S.2 2).length ≤ 6 := hs.2.1.2.2.1.1
  have hw2 : ∀ z ∈ S.2 2, z.length = 1 := hs.2.1.2.2.1.2
  obtain ⟨hA9, hA10⟩ := hr.2.2.2.2.2 _ hdl
  obtain ⟨g, hg, hg1⟩ := hv.2.2.2 _ hdl
  have hg2 : g < (S.2 2).length := by rw [hs.2.2.2.2]; exact hg
  have hA4 : A 4 g = tg (S.2 2) g 0 := hr.2.2.2.1 g (by omega)
  have hI3 : I 3 = S.1 3 := hr.1.1 3 (by decide)
  have hdn : I 7 - 1 = nI ((S.2 4).length - 1) := by
    rw [hI7, show (S.2 4).length = (S.2 4).length - 1 + 1 by omega, nI_dn, Nat.add_sub_cancel]
  refine bg_in rfl rfl ?_
  refine bg_iconst rfl ?_
  refine bg_istore1 rfl rfl ?_
  refine bg_iconst rfl ?_
  refine bg_istore2 rfl rfl ?_
  refine rw_drL hW ?_ ((S.2 4).length - 1) 1 0 (by omega) (Nat.le_refl 1) (by decide) rfl
  refine bg_aload0 rfl ?_
  refine bg_dup rfl rfl ?_
  refine bg_getfield rfl rfl hR.1 (by rfl) ?_
  refine bg_aload0 rfl ?_
  refine bg_iload1 rfl ?_
  refine bg_virt1 rfl rfl rfl rfl ⟨_, hR.1⟩ ?_
  refine rw_paid hdl hW (bk_Ki ?_)
  refine bg_iadd rfl ?_
  refine bg_putfield rfl rfl hR.1 (by rfl) ⟨rfl, rfl⟩ (by rfl) (fun h44 f44 g44 => ?_)
  obtain ⟨hR, hF1⟩ := RO.i3 hR f44 g44
  replace hP := hP.kp hF1 (by omega)
  replace hY : YO h44 y J u v := (hF1 y (by omega)).trans hY
  replace hF := hF.trans hF1
  replace hr := RRof hR (RR_i3 hr)
  refine bg_aload0 rfl ?_
  refine bg_getfield rfl rfl hR.1 (by rfl) ?_
  refine bg_aload0 rfl ?_
  refine bg_getfield rfl rfl hR.1 (by rfl) ?_
  refine bg_iload1 rfl ?_
  refine bg_iaload_n rfl (sR10 hR) (by omega) (by omega) ?_
  rw [hA9, hg1]
  refine bg_dup2 rfl rfl rfl ?_
  refine bg_iaload_n rfl (sR5 hR) (by omega) (by omega) ?_
  refine bg_iconst rfl ?_
  refine bg_iadd rfl ?_
  refine bg_iastore_n rfl (sR5 hR) (by omega) (by omega) (fun h61 f61 g61 => ?_)
  obtain ⟨hR, hF1⟩ := RO.a4 hR f61 g61
  replace hP := hP.kp hF1 (by omega)
  replace hY : YO h61 y J u v := (hF1 y (by omega)).trans hY
  replace hF := hF.trans hF1
  replace hr := RRof hR (RR_t4 hr hw2 hg2)
  refine bg_aload0 rfl ?_
  refine bg_dup rfl rfl ?_
  refine bg_getfield rfl rfl hR.1 (by rfl) ?_
  refine bg_iconst rfl ?_
  refine bg_isub rfl ?_
  refine bg_putfield rfl rfl hR.1 (by rfl) ⟨rfl, rfl⟩ (by rfl) (fun h69 f69 g69 => ?_)
  have hr8 := hr
  obtain ⟨hR, hF1⟩ := RO.i7 hR f69 g69
  replace hP := hP.kp hF1 (by omega)
  replace hY : YO h69 y J u v := (hF1 y (by omega)).trans hY
  replace hF := hF.trans hF1
  refine bg_iload1 rfl ?_
  refine bg_istore2 rfl rfl ?_
  have hr9 : ∀ A' : rA, TJ (upd S.1 3 (I 3 + paid P (S.2 4) (nI (dear P (S.2 4)))), uT S.2 2 (tS (S.2 2) g 0 (A 4 g + 1))) A' (dear P (S.2 4)) ((S.2 4).length - 1) → (∀ a, a < 9 ∨ 11 ≤ a → A' a = uA A 4 (upd (A 4) g (A 4 g + 1)) a) → RR (sell1 P S) (upd (upd I 3 (I 3 + paid P (S.2 4) (nI (dear P (S.2 4))))) 7 (I 7 - 1)) A' := fun A' f e => by
    have hz := TJ_fin hr8 hdl (congrArg (upd (upd I 3 (I 3 + paid P (S.2 4) (nI (dear P (S.2 4))))) 7) hdn) e f
    refine RR_6 hz (fun k hk => ?_) (fun k => ?_)
    · show upd S.1 3 (I 3 + paid P (S.2 4) (nI (dear P (S.2 4)))) k = upd (upd S.1 3 (S.1 3 + paid P (S.2 4) (nI (dear P (S.2 4))))) 6 (S.1 6 + 1) k
      rw [hI3]
      exact (if_neg hk).symm
    · show uT (uT S.2 2 (tS (S.2 2) g 0 (A 4 g + 1))) 4 ((S.2 4).eraseIdx (dear P (S.2 4))) k = uT (uT S.2 2 (rS (S.2 2) (rG (S.2 4) (nI (dear P (S.2 4))) 0) 0 (rG (S.2 2) (rG (S.2 4) (nI (dear P (S.2 4))) 0) 0 + 1))) 4 (rE (S.2 4) (nI (dear P (S.2 4)))) k
      rw [rE_nI (by omega), rG_nI (by omega), hg1, rG_nI (by omega), rS_nI (by omega), hA4]
  refine rw_shiftL (S := (upd S.1 3 (I 3 + paid P (S.2 4) (nI (dear P (S.2 4)))), uT S.2 2 (tS (S.2 2) g 0 (A 4 g + 1)))) (A := uA A 4 (upd (A 4) g (A 4 g + 1))) (I1 := upd (upd I 3 (I 3 + paid P (S.2 4) (nI (dear P (S.2 4))))) 7 (I 7 - 1)) (p := (dear P (S.2 4))) hdn hl4 hd1 hd2 (fun h' A' a b c e f gg => hQ h' (RW_i (bs := []) a (hr9 A' f e) b c hp ?_ ?_ hd1 hd2 (fun k hk => absurd hk (Nat.not_lt_zero k))) gg) ((S.2 4).length - 1 - (dear P (S.2 4))) (dear P (S.2 4)) (by show _ + _ + 1 = (S.2 4).length; omega) (Nat.le_refl _) hR hP hY (fun a _ => rfl) (fun i hi2 => ?_) hF
  · exact SH_4 (N := _) (S := (S.1, uT S.2 2 _)) (SH_2 hs rS_len (shT_rS hs.2.1.2.2.1).2) (by rw [rE_nI (by omega)]; exact shT_er hs.2.1.2.2.2.2)
  · refine IV_4 (S := (S.1, uT S.2 2 _)) (IV_2 hv) (fun i hi2 => ?_)
    rw [rE_nI (by omega)] at hi2 ⊢
    rw [List.length_eraseIdx_of_lt hdl] at hi2
    rw [tg_erase]
    exact hv.2.2.2 _ (by split <;> omega)
  · rw [if_neg (by omega)]
    exact hr.2.2.2.2.2 i hi2
end RB
