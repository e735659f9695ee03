/-! THE REFERENCE: what is done by hand. Printed by wip/whole/mk69.py. -/
theorem RW.kp {h h' : bk_H} {r y u v lo hi : Nat} {P : Nat → bT} {S : bS} {J K : rI} {C : rA} {bs : bT} (hW : RW h r y u v P S J K C bs) (w : fr h h' lo hi) (h1 : r + 14 ≤ lo ∨ hi ≤ r) (h2 : u + 16 ≤ lo ∨ hi ≤ u) (h3 : y < lo ∨ hi ≤ y) : RW h' r y u v P S J K C bs := by
  obtain ⟨I, A, hR, hr, hP, hY, hp, hs, hv, hd1, hd2, hbs⟩ := hW
  exact ⟨I, A, hR.kp w h1, hr, hP.kp w h2, (w y h3).trans hY, hp, hs, hv, hd1, hd2, hbs⟩
section MM
variable {V : bk_V} {d n : Nat} {B : Nat × Nat} {Q : bk_R → bk_H → Nat → Prop} {h : bk_H} {y u v : Nat} {T : List Int32} {P : Nat → bT} {S : bS} {I J K : rI} {A C : rA} {cs : Nat × Nat}
theorem mo_setWeather {w : Int32} (hM : MD h y u v T P S J K C) (hE : ¬ inR w 0 5 → ∀ (h' : bk_H) (J' : rI), MD h' y u v T P S J' K C → J' 0 = 1 → J' 2 = J 2 → fm h h' y n → Q (.inl (some (.int 0))) h' n) (hQ : inR w 0 5 → ∀ (h' : bk_H) (n' : Nat) (J' : rI), MD h' y u v T P (upd S.1 1 w, S.2) J' K C → J' 0 = 0 → J' 2 = J 2 → n ≤ n' → fm h h' y n → Q (.inl (some (.int (S.1 1)))) h' n') : bk_wp V (d + 2) 213 [.ref y, .int w] h n B Q := by
  obtain ⟨hTp, har, hah, ⟨I, A, hR, hr, hP, hY, hp, hs, hv, hd1, hd2, hbs⟩, hJ1, hT2, hu⟩ := id hM
  refine bg_in rfl rfl ?_
  refine bg_aload0 rfl ?_
  refine bg_iconst rfl ?_
  refine bg_putfield rfl rfl hY (by rfl) ⟨rfl, rfl⟩ (by rfl) (fun h2 f2 g2 => ?_)
  have hM1 := hM.j (J' := upd J 0 0) f2 g2 rfl
  have hm : fm h h2 y n := fun q _ q2 => g2 q (by omega)
  obtain ⟨hTp, har, hah, ⟨I, A, hR, hr, hP, hY, hp, hs, hv, hd1, hd2, hbs⟩, hJ1, hT2, hu⟩ := id hM1
  refine bg_iload1 rfl ?_
  refine bg_iconst rfl ?_
  refine bg_iconst rfl ?_
  refine bg_stat3 rfl rfl rfl rfl ?_
  refine rb_isIn (bk_Ki ?_)
  refine bg_ifne_b rfl (fun e11 => ?_) (fun e11 => ?_)
  · have hc : inR w 0 5 := e11
    refine bg_aload0 rfl ?_
    refine bg_getfield rfl rfl hY (by rfl) ?_
    refine bg_getfield rfl rfl hR.1 (by rfl) ?_
    refine bg_istore2 rfl rfl ?_
    refine bg_aload0 rfl ?_
    refine bg_getfield rfl rfl hY (by rfl) ?_
    refine bg_iload1 rfl ?_
    refine bg_putfield rfl rfl hR.1 (by rfl) ⟨rfl, rfl⟩ (by rfl) (fun h33 f33 g33 => ?_)
    obtain ⟨hR, hF1⟩ := RO.i1 hR f33 g33
    have hM2 := hM1.w (RW_i hR (RR_i1 hr) (hP.kp hF1 (by omega)) ((hF1 y (by omega)).trans hY) hp (SH_N hs) (IV_N hv) hd1 hd2 (fun k hk => absurd hk (Nat.not_lt_zero k))) (hF1.wide (by omega) (by omega))
    refine bg_iload2 rfl ?_
    refine bg_iret rfl rfl (by rfl) ?_
    first
      | exact bQ (hQ hc _ n _ hM2 rfl rfl (Nat.le_refl n) (hm.trans (hF1.fm (by omega) (by omega)) (Nat.le_refl n))) (hr.1.1 1 (by decide)).symm
      | exact hE hc h3 _ hM3 rfl rfl (fun q q1 q2 => (g3 q (by omega)).trans (hm q q1 q2))
  · have hc : ¬ (inR w 0 5) := e11
    refine bg_aload0 rfl ?_
    refine bg_iconst rfl ?_
    refine bg_virt1 rfl rfl rfl rfl ⟨_, hY⟩ ?_
    refine mo_no hM1 (fun h3 hM3 g3 => bk_Ki ?_)
    refine bg_iret rfl rfl (by rfl) ?_
    first
      | exact bQ (hQ hc _ n _ hM2 rfl rfl (Nat.le_refl n) (hm.trans (hF1.fm (by omega) (by omega)) (Nat.le_refl n))) (hr.1.1 1 (by decide)).symm
      | exact hE hc h3 _ hM3 rfl rfl (fun q q1 q2 => (g3 q (by omega)).trans (hm q q1 q2))
theorem mo_setTourists {w : Int32} (hM : MD h y u v T P S J K C) (hE : ¬ inR w 0 20 → ∀ (h' : bk_H) (J' : rI), MD h' y u v T P S J' K C → J' 0 = 1 → J' 2 = J 2 → fm h h' y n → Q (.inl (some (.int 0))) h' n) (hQ : inR w 0 20 → ∀ (h' : bk_H) (n' : Nat) (J' : rI), MD h' y u v T P (upd S.1 2 w, S.2) J' K C → J' 0 = 0 → J' 2 = J 2 → n ≤ n' → fm h h' y n → Q (.inl (some (.int (S.1 2)))) h' n') : bk_wp V (d + 2) 214 [.ref y, .int w] h n B Q := by
  obtain ⟨hTp, har, hah, ⟨I, A, hR, hr, hP, hY, hp, hs, hv, hd1, hd2, hbs⟩, hJ1, hT2, hu⟩ := id hM
  refine bg_in rfl rfl ?_
  refine bg_aload0 rfl ?_
  refine bg_iconst rfl ?_
  refine bg_putfield rfl rfl hY (by rfl) ⟨rfl, rfl⟩ (by rfl) (fun h2 f2 g2 => ?_)
  have hM1 := hM.j (J' := upd J 0 0) f2 g2 rfl
  have hm : fm h h2 y n := fun q _ q2 => g2 q (by omega)
  obtain ⟨hTp, har, hah, ⟨I, A, hR, hr, hP, hY, hp, hs, hv, hd1, hd2, hbs⟩, hJ1, hT2, hu⟩ := id hM1
  refine bg_iload1 rfl ?_
  refine bg_iconst rfl ?_
  refine bg_bipush rfl ?_
  refine bg_stat3 rfl rfl rfl rfl ?_
  refine rb_isIn (bk_Ki ?_)
  refine bg_ifne_b rfl (fun e12 => ?_) (fun e12 => ?_)
  · have hc : inR w 0 20 := e12
    refine bg_aload0 rfl ?_
    refine bg_getfield rfl rfl hY (by rfl) ?_
    refine bg_getfield rfl rfl hR.1 (by rfl) ?_
    refine bg_istore2 rfl rfl ?_
    refine bg_aload0 rfl ?_
    refine bg_getfield rfl rfl hY (by rfl) ?_
    refine bg_iload1 rfl ?_
    refine bg_putfield rfl rfl hR.1 (by rfl) ⟨rfl, rfl⟩ (by rfl) (fun h34 f34 g34 => ?_)
    obtain ⟨hR, hF1⟩ := RO.i2 hR f34 g34
    have hM2 := hM1.w (RW_i hR (RR_i2 hr) (hP.kp hF1 (by omega)) ((hF1 y (by omega)).trans hY) hp (SH_N hs) (IV_N hv) hd1 hd2 (fun k hk => absurd hk (Nat.not_lt_zero k))) (hF1.wide (by omega) (by omega))
    refine bg_iload2 rfl ?_
    refine bg_iret rfl rfl (by rfl) ?_
    first
      | exact bQ (hQ hc _ n _ hM2 rfl rfl (Nat.le_refl n) (hm.trans (hF1.fm (by omega) (by omega)) (Nat.le_refl n))) (hr.1.1 2 (by decide)).symm
      | exact hE hc h3 _ hM3 rfl rfl (fun q q1 q2 => (g3 q (by omega)).trans (hm q q1 q2))
  · have hc : ¬ (inR w 0 20) := e12
    refine bg_aload0 rfl ?_
    refine bg_iconst rfl ?_
    refine bg_virt1 rfl rfl rfl rfl ⟨_, hY⟩ ?_
    refine mo_no hM1 (fun h3 hM3 g3 => bk_Ki ?_)
    refine bg_iret rfl rfl (by rfl) ?_
    first
      | exact bQ (hQ hc _ n _ hM2 rfl rfl (Nat.le_refl n) (hm.trans (hF1.fm (by omega) (by omega)) (Nat.le_refl n))) (hr.1.1 2 (by decide)).symm
      | exact hE hc h3 _ hM3 rfl rfl (fun q q1 q2 => (g3 q (by omega)).trans (hm q q1 q2))
theorem mo_tune {b w : Int32} (hM : MD h y u v T P S J K C) (hE : ¬ isI (P 1) b → ∀ (h' : bk_H) (J' : rI), MD h' y u v T P S J' K C → J' 0 = 1 → J' 2 = J 2 → fm h h' y n → Q (.inl (some (.int 0))) h' n) (hE2 : isI (P 1) b → ¬ inR w 1 6 → ∀ (h' : bk_H) (J' : rI), MD h' y u v T P S J' K C → J' 0 = 2 → J' 2 = J 2 → fm h h' y n → Q (.inl (some (.int 0))) h' n) (hQ : isI (P 1) b → inR w 1 6 → ∀ (h' : bk_H) (n' : Nat) (J' : rI), MD h' y u v T P (S.1, uT S.2 1 (rS (S.2 1) b 0 w)) J' K C → J' 0 = 0 → J' 2 = J 2 → n ≤ n' → fm h h' y n → Q (.inl (some (.int (rG (S.2 1) b 0)))) h' n') : bk_wp V (d + 3) 215 [.ref y, .int b, .int w] h n B Q := by
  obtain ⟨hTp, har, hah, ⟨I, A, hR, hr, hP, hY, hp, hs, hv, hd1, hd2, hbs⟩, hJ1, hT2, hu⟩ := id hM
  have hl : (P 1).length ≤ 6 := hs.1.2.1.1
  have hl1 := hs.2.2.2.1
  refine bg_in rfl rfl ?_
  refine bg_aload0 rfl ?_
  refine bg_iconst rfl ?_
  refine bg_putfield rfl rfl hY (by rfl) ⟨rfl, rfl⟩ (by rfl) (fun h2 f2 g2 => ?_)
  have hM1 := hM.j (J' := upd J 0 0) f2 g2 rfl
  have hm : fm h h2 y n := fun q _ q2 => g2 q (by omega)
  obtain ⟨hTp, har, hah, ⟨I, A, hR, hr, hP, hY, hp, hs, hv, hd1, hd2, hbs⟩, hJ1, hT2, hu⟩ := id hM1
  refine bg_aload0 rfl ?_
  refine bg_iload1 rfl ?_
  refine bg_virt1 rfl rfl rfl rfl ⟨_, hY⟩ ?_
  refine mo_isBeater hM1 (bk_Ki ?_)
  refine bg_ifne_b rfl (fun e10 => ?_) (fun e10 => ?_)
  · have hc : isI (P 1) b := e10
    refine bg_iload2 rfl ?_
    refine bg_iconst rfl ?_
    refine bg_bipush rfl ?_
    refine bg_stat3 rfl rfl rfl rfl ?_
    refine rb_isIn (bk_Ki ?_)
    refine bg_ifne_b rfl (fun e26 => ?_) (fun e26 => ?_)
    · have hc2 : inR w 1 6 := e26
      obtain ⟨c, hc1, rfl⟩ := isI_n hc (by omega)
      obtain ⟨kw, k1, k6, rfl⟩ := inR_nI (a := 1) (b := 6) (by decide) (by decide) hc2
      have hQ3 := hQ hc hc2
      rw [rS_nI (by omega), rG_nI (by omega)] at hQ3
      have hcl : c < (S.2 1).length := by omega
      refine bg_aload0 rfl ?_
      refine bg_getfield rfl rfl hY (by rfl) ?_
      refine bg_getfield rfl rfl hR.1 (by rfl) ?_
      refine bg_iload1 rfl ?_
      refine bg_iaload_n rfl (sR4 hR) (by omega) (by omega) ?_
      refine bg_istore3 rfl rfl ?_
      refine bg_aload0 rfl ?_
      refine bg_getfield rfl rfl hY (by rfl) ?_
      refine bg_getfield rfl rfl hR.1 (by rfl) ?_
      refine bg_iload1 rfl ?_
      refine bg_iload2 rfl ?_
      refine bg_iastore_n rfl (sR4 hR) (by omega) (by omega) (fun h54 f54 g54 => ?_)
      have hiv : IV P (S.1, uT S.2 1 (tS (S.2 1) c 0 (nI kw))) := IV_1 hv (fun i hi => by
        rw [tg_tS hs.2.1.2.1.2 hcl (by decide)]
        split
        · exact ⟨kw, k1, k6, rfl⟩
        · exact hv.2.1 i (by rw [tS_len] at hi; exact hi))
      obtain ⟨hR, hF1⟩ := RO.a3 hR f54 g54
      have hM2 := hM1.w (RW_i hR (RR_t3 hr hs.2.1.2.1.2 hcl) (hP.kp hF1 (by omega)) ((hF1 y (by omega)).trans hY) hp (SH_1 hs tS_len (tS_w hs.2.1.2.1.2)) (hiv) hd1 hd2 (fun k hk => absurd hk (Nat.not_lt_zero k))) (hF1.wide (by omega) (by omega))
      refine bg_iload3 rfl ?_
      refine bg_iret rfl rfl (by rfl) ?_
      first
        | exact bQ (hQ3 _ n _ hM2 rfl rfl (Nat.le_refl n) (hm.trans (hF1.fm (by omega) (by omega)) (Nat.le_refl n))) (hr.2.2.1 c hcl).symm
        | exact hE hc h3 _ hM3 rfl rfl (fun q q1 q2 => (g3 q (by omega)).trans (hm q q1 q2))
        | exact hE2 hc hc2 h3 _ hM3 rfl rfl (fun q q1 q2 => (g3 q (by omega)).trans (hm q q1 q2))
    · have hc2 : ¬ inR w 1 6 := e26
      refine bg_aload0 rfl ?_
      refine bg_iconst rfl ?_
      refine bg_virt1 rfl rfl rfl rfl ⟨_, hY⟩ ?_
      refine mo_no hM1 (fun h3 hM3 g3 => bk_Ki ?_)
      refine bg_iret rfl rfl (by rfl) ?_
      first
        | exact bQ (hQ3 _ n _ hM2 rfl rfl (Nat.le_refl n) (hm.trans (hF1.fm (by omega) (by omega)) (Nat.le_refl n))) (hr.2.2.1 c hcl).symm
        | exact hE hc h3 _ hM3 rfl rfl (fun q q1 q2 => (g3 q (by omega)).trans (hm q q1 q2))
        | exact hE2 hc hc2 h3 _ hM3 rfl rfl (fun q q1 q2 => (g3 q (by omega)).trans (hm q q1 q2))
  · have hc : ¬ (isI (P 1) b) := e10
    refine bg_aload0 rfl ?_
    refine bg_iconst rfl ?_
    refine bg_virt1 rfl rfl rfl rfl ⟨_, hY⟩ ?_
    refine mo_no hM1 (fun h3 hM3 g3 => bk_Ki ?_)
    refine bg_iret rfl rfl (by rfl) ?_
    first
      | exact bQ (hQ3 _ n _ hM2 rfl rfl (Nat.le_refl n) (hm.trans (hF1.fm (by omega) (by omega)) (Nat.le_refl n))) (hr.2.2.1 c hcl).symm
      | exact hE hc h3 _ hM3 rfl rfl (fun q q1 q2 => (g3 q (by omega)).trans (hm q q1 q2))
      | exact hE2 hc hc2 h3 _ hM3 rfl rfl (fun q q1 q2 => (g3 q (by omega)).trans (hm q q1 q2))
theorem mo_burn {b : Int32} (hM : MD h y u v T P S J K C) (hE : ¬ isI (S.2 3) b → ∀ (h' : bk_H) (J' : rI), MD h' y u v T P S J' K C → J' 0 = 1 → J' 2 = J 2 → fm h h' y n → Q (.inl (some (.int 0))) h' n) (hQ : isI (S.2 3) b → ∀ (h' : bk_H) (n' : Nat) (J' : rI), MD h' y u v T P (S.1, uT S.2 3 (rE (S.2 3) b)) J' K C → J' 0 = 0 → J' 2 = J 2 → n ≤ n' → fm h h' y n → Q (.inl (some (.int (rG (S.2 3) b 3)))) h' n') : bk_wp V (d + 3) 216 [.ref y, .int b] h n B Q := by
  obtain ⟨hTp, har, hah, ⟨I, A, hR, hr, hP, hY, hp, hs, hv, hd1, hd2, hbs⟩, hJ1, hT2, hu⟩ := id hM
  have hl3 : (S.2 3).length ≤ 30 := hs.2.1.2.2.2.1.1
  refine bg_in rfl rfl ?_
  refine bg_aload0 rfl ?_
  refine bg_iconst rfl ?_
  refine bg_putfield rfl rfl hY (by rfl) ⟨rfl, rfl⟩ (by rfl) (fun h2 f2 g2 => ?_)
  have hM1 := hM.j (J' := upd J 0 0) f2 g2 rfl
  have hm : fm h h2 y n := fun q _ q2 => g2 q (by omega)
  obtain ⟨hTp, har, hah, ⟨I, A, hR, hr, hP, hY, hp, hs, hv, hd1, hd2, hbs⟩, hJ1, hT2, hu⟩ := id hM1
  refine bg_iload1 rfl ?_
  refine bg_iconst rfl ?_
  refine bg_aload0 rfl ?_
  refine bg_getfield rfl rfl hY (by rfl) ?_
  refine bg_getfield rfl rfl hR.1 (by rfl) ?_
  refine bg_iconst rfl ?_
  refine bg_isub rfl ?_
  refine bg_stat3 rfl rfl rfl rfl ?_
  refine rb_isIn (bk_Ki ?_)
  refine bg_ifne_b rfl (fun e19 => ?_) (fun e19 => ?_)
  · have hc : isI (S.2 3) b := by
      rw [hr.1.2.1] at e19
      exact (in_isI (by omega)).mp e19
    obtain ⟨c, hc1, rfl⟩ := isI_n hc (by omega)
    have hQ3 := hQ hc
    rw [rE_nI (by omega), rG_nI (by omega)] at hQ3
    refine bg_aload0 rfl ?_
    refine bg_getfield rfl rfl hY (by rfl) ?_
    refine bg_getfield rfl rfl hR.1 (by rfl) ?_
    refine bg_iload1 rfl ?_
    refine bg_iaload_n rfl (sR9 hR) (by omega) (by omega) ?_
    refine bg_istore2 rfl rfl ?_
    refine bg_aload0 rfl ?_
    refine bg_getfield rfl rfl hY (by rfl) ?_
    refine bg_iload1 rfl ?_
    refine bg_virt1 rfl rfl rfl rfl ⟨_, hR.1⟩ ?_
    refine rw_take hc1 hM1.2.2.2.1 (fun h4 hW4 hF1 => bk_Kv ?_)
    have hM2 := hM1.w hW4 (hF1.wide (by omega) (by omega))
    refine bg_iload2 rfl ?_
    refine bg_iret rfl rfl (by rfl) ?_
    first
      | exact bQ (hQ3 _ n _ hM2 rfl rfl (Nat.le_refl n) (hm.trans (hF1.fm (by omega) (by omega)) (Nat.le_refl n))) (hr.2.2.2.2.1 c hc1).2.2.2.symm
      | exact hE hc h3 _ hM3 rfl rfl (fun q q1 q2 => (g3 q (by omega)).trans (hm q q1 q2))
  · have hc : ¬ isI (S.2 3) b := fun z => e19 (by
      rw [hr.1.2.1]
      exact (in_isI (by omega)).mpr z)
    refine bg_aload0 rfl ?_
    refine bg_iconst rfl ?_
    refine bg_virt1 rfl rfl rfl rfl ⟨_, hY⟩ ?_
    refine mo_no hM1 (fun h3 hM3 g3 => bk_Ki ?_)
    refine bg_iret rfl rfl (by rfl) ?_
    first
      | exact bQ (hQ3 _ n _ hM2 rfl rfl (Nat.le_refl n) (hm.trans (hF1.fm (by omega) (by omega)) (Nat.le_refl n))) (hr.2.2.2.2.1 c hc1).2.2.2.symm
      | exact hE hc h3 _ hM3 rfl rfl (fun q q1 q2 => (g3 q (by omega)).trans (hm q q1 q2))
theorem mo_bring {b w : Int32} (hM : MD h y u v T P S J K C) (hE : ¬ isI (P 0) b → ∀ (h' : bk_H) (J' : rI), MD h' y u v T P S J' K C → J' 0 = 1 → J' 2 = J 2 → fm h h' y n → Q (.inl (some (.int 0))) h' n) (hE2 : isI (P 0) b → ¬ inR w 1 500 → ∀ (h' : bk_H) (J' : rI), MD h' y u v T P S J' K C → J' 0 = 2 → J' 2 = J 2 → fm h h' y n → Q (.inl (some (.int 0))) h' n) (hQ : isI (P 0) b → inR w 1 500 → ∀ (h' : bk_H) (n' : Nat) (J' : rI), MD h' y u v T P (S.1, uT S.2 0 (rS (S.2 0) b 0 (iMin 500 (rG (S.2 0) b 0 + w)))) J' K C → J' 0 = 0 → J' 2 = J 2 → n ≤ n' → fm h h' y n → Q (.inl (some (.int (iMin 500 (rG (S.2 0) b 0 + w))))) h' n') : bk_wp V (d + 3) 217 [.ref y, .int b, .int w] h n B Q := by
  obtain ⟨hTp, har, hah, ⟨I, A, hR, hr, hP, hY, hp, hs, hv, hd1, hd2, hbs⟩, hJ1, hT2, hu⟩ := id hM
  have hl : (P 0).length ≤ 5 := hs.1.1.1
  have hl1 := hs.2.2.1
  refine bg_in rfl rfl ?_
  refine bg_aload0 rfl ?_
  refine bg_iconst rfl ?_
  refine bg_putfield rfl rfl hY (by rfl) ⟨rfl, rfl⟩ (by rfl) (fun h2 f2 g2 => ?_)
  have hM1 := hM.j (J' := upd J 0 0) f2 g2 rfl
  have hm : fm h h2 y n := fun q _ q2 => g2 q (by omega)
  obtain ⟨hTp, har, hah, ⟨I, A, hR, hr, hP, hY, hp, hs, hv, hd1, hd2, hbs⟩, hJ1, hT2, hu⟩ := id hM1
  refine bg_aload0 rfl ?_
  refine bg_iload1 rfl ?_
  refine bg_virt1 rfl rfl rfl rfl ⟨_, hY⟩ ?_
  refine mo_isBark hM1 (bk_Ki ?_)
  refine bg_ifne_b rfl (fun e10 => ?_) (fun e10 => ?_)
  · have hc : isI (P 0) b := e10
    refine bg_iload2 rfl ?_
    refine bg_iconst rfl ?_
    refine bg_sipush rfl ?_
    refine bg_stat3 rfl rfl rfl rfl ?_
    refine rb_isIn (bk_Ki ?_)
    refine bg_ifne_b rfl (fun e27 => ?_) (fun e27 => ?_)
    · have hc2 : inR w 1 500 := e27
      obtain ⟨c, hc1, rfl⟩ := isI_n hc (by omega)
      have hQ3 := hQ hc hc2
      rw [rG_nI (by omega), rS_nI (by omega)] at hQ3
      have hcl : c < (S.2 0).length := by omega
      rw [← (hr.2.1 c hcl).1] at hQ3
      refine bg_aload0 rfl ?_
      refine bg_getfield rfl rfl hY (by rfl) ?_
      refine bg_getfield rfl rfl hR.1 (by rfl) ?_
      refine bg_iload1 rfl ?_
      refine bg_sipush rfl ?_
      refine bg_aload0 rfl ?_
      refine bg_getfield rfl rfl hY (by rfl) ?_
      refine bg_getfield rfl rfl hR.1 (by rfl) ?_
      refine bg_iload1 rfl ?_
      refine bg_iaload_n rfl (sR1 hR) (by omega) (by omega) ?_
      refine bg_iload2 rfl ?_
      refine bg_iadd rfl ?_
      refine bg_min rfl rfl rfl ?_
      refine bg_iastore_n rfl (sR1 hR) (by omega) (by omega) (fun h61 f61 g61 => ?_)
      obtain ⟨hR, hF1⟩ := RO.a0 hR f61 g61
      have hM2 := hM1.w (RW_i hR (RR_t0 hr hs.2.1.1.2 hcl) (hP.kp hF1 (by omega)) ((hF1 y (by omega)).trans hY) hp (SH_0 hs tS_len (tS_w hs.2.1.1.2)) (IV_0 hv) hd1 hd2 (fun k hk => absurd hk (Nat.not_lt_zero k))) (hF1.wide (by omega) (by omega))
      replace hY : YO h61 y (upd J 0 0) u v := (hF1 y (by omega)).trans hY
      refine bg_aload0 rfl ?_
      refine bg_getfield rfl rfl hY (by rfl) ?_
      refine bg_getfield rfl rfl hR.1 (by rfl) ?_
      refine bg_iload1 rfl ?_
      refine bg_iaload_n rfl (sR1 hR) (by omega) (by omega) ?_
      refine bg_iret rfl rfl (by rfl) ?_
      first
        | exact bQ (hQ3 _ n _ hM2 rfl rfl (Nat.le_refl n) (hm.trans (hF1.fm (by omega) (by omega)) (Nat.le_refl n))) (uA_us).symm
        | exact hE hc h3 _ hM3 rfl rfl (fun q q1 q2 => (g3 q (by omega)).trans (hm q q1 q2))
        | exact hE2 hc hc2 h3 _ hM3 rfl rfl (fun q q1 q2 => (g3 q (by omega)).trans (hm q q1 q2))
    · have hc2 : ¬ inR w 1 500 := e27
      refine bg_aload0 rfl ?_
      refine bg_iconst rfl ?_
      refine bg_virt1 rfl rfl rfl rfl ⟨_, hY⟩ ?_
      refine mo_no hM1 (fun h3 hM3 g3 => bk_Ki ?_)
      refine bg_iret rfl rfl (by rfl) ?_
      first
        | exact bQ (hQ3 _ n _ hM2 rfl rfl (Nat.le_refl n) (hm.trans (hF1.fm (by omega) (by omega)) (Nat.le_refl n))) (uA_us).symm
        | exact hE hc h3 _ hM3 rfl rfl (fun q q1 q2 => (g3 q (by omega)).trans (hm q q1 q2))
        | exact hE2 hc hc2 h3 _ hM3 rfl rfl (fun q q1 q2 => (g3 q (by omega)).trans (hm q q1 q2))
  · have hc : ¬ (isI (P 0) b) := e10
    refine bg_aload0 rfl ?_
    refine bg_iconst rfl ?_
    refine bg_virt1 rfl rfl rfl rfl ⟨_, hY⟩ ?_
    refine mo_no hM1 (fun h3 hM3 g3 => bk_Ki ?_)
    refine bg_iret rfl rfl (by rfl) ?_
    first
      | exact bQ (hQ3 _ n _ hM2 rfl rfl (Nat.le_refl n) (hm.trans (hF1.fm (by omega) (by omega)) (Nat.le_refl n))) (uA_us).symm
      | exact hE hc h3 _ hM3 rfl rfl (fun q q1 q2 => (g3 q (by omega)).trans (hm q q1 q2))
      | exact hE2 hc hc2 h3 _ hM3 rfl rfl (fun q q1 q2 => (g3 q (by omega)).trans (hm q q1 q2))
theorem mo_pass {w : Int32} (hM : MD h y u v T P S J K C) (hE : ¬ inR w 1 96 → ∀ (h' : bk_H) (J' : rI), MD h' y u v T P S J' K C → J' 0 = 1 → J' 2 = J 2 → fm h h' y n → Q (.inl (some (.int 0))) h' n) (hQ : inR w 1 96 → ∀ (h' : bk_H) (n' : Nat) (J' : rI), MD h' y u v T P (goF P w.toNatClampNeg S) J' K C → J' 0 = 0 → J' 2 = J 2 → n ≤ n' → fm h h' y n → Q (.inl (some (.int ((goF P w.toNatClampNeg S).1 3 - S.1 3)))) h' n') : bk_wp V (d + 10) 218 [.ref y, .int w] h n B Q := by
  obtain ⟨hTp, har, hah, ⟨I, A, hR, hr, hP, hY, hp, hs, hv, hd1, hd2, hbs⟩, hJ1, hT2, hu⟩ := id hM
  refine bg_in rfl rfl ?_
  refine bg_aload0 rfl ?_
  refine bg_iconst rfl ?_
  refine bg_putfield rfl rfl hY (by rfl) ⟨rfl, rfl⟩ (by rfl) (fun h2 f2 g2 => ?_)
  have hM1 := hM.j (J' := upd J 0 0) f2 g2 rfl
  have hm : fm h h2 y n := fun q _ q2 => g2 q (by omega)
  obtain ⟨hTp, har, hah, ⟨I, A, hR, hr, hP, hY, hp, hs, hv, hd1, hd2, hbs⟩, hJ1, hT2, hu⟩ := id hM1
  refine bg_iload1 rfl ?_
  refine bg_iconst rfl ?_
  refine bg_bipush rfl ?_
  refine bg_stat3 rfl rfl rfl rfl ?_
  refine rb_isIn (bk_Ki ?_)
  refine bg_ifne_b rfl (fun e12 => ?_) (fun e12 => ?_)
  · have hc : inR w 1 96 := e12
    have hQ3 := hQ hc
    obtain ⟨j, j1, j2, rfl⟩ := inR_nI (a := 1) (b := 96) (by decide) (by decide) hc
    rw [nI_clamp (by omega)] at hQ3
    refine bg_aload0 rfl ?_
    refine bg_getfield rfl rfl hY (by rfl) ?_
    refine bg_getfield rfl rfl hR.1 (by rfl) ?_
    refine bg_istore2 rfl rfl ?_
    refine bg_aload0 rfl ?_
    refine bg_getfield rfl rfl hY (by rfl) ?_
    refine bg_iload1 rfl ?_
    refine bg_virt1 rfl rfl rfl rfl ⟨_, hR.1⟩ ?_
    refine rw_go (by omega) hM1.2.2.2.1 (fun h4 hW4 hF1 => bk_Kv ?_)
    have hM2 := hM1.w hW4 (hF1.wide (by omega) (by omega))
    obtain ⟨I4, A4, hR4, hr4, hP4, hY4, _⟩ := id hW4
    refine bg_aload0 rfl ?_
    refine bg_getfield rfl rfl hY4 (by rfl) ?_
    refine bg_getfield rfl rfl hR4.1 (by rfl) ?_
    refine bg_iload2 rfl ?_
    refine bg_isub rfl ?_
    refine bg_iret rfl rfl (by rfl) ?_
    first
      | exact bQ (hQ3 _ n _ hM2 rfl rfl (Nat.le_refl n) (hm.trans (hF1.fm (by omega) (by omega)) (Nat.le_refl n))) (by rw [hr4.1.1 3 (by decide), hr.1.1 3 (by decide)])
      | exact hE hc h3 _ hM3 rfl rfl (fun q q1 q2 => (g3 q (by omega)).trans (hm q q1 q2))
  · have hc : ¬ inR w 1 96 := e12
    refine bg_aload0 rfl ?_
    refine bg_iconst rfl ?_
    refine bg_virt1 rfl rfl rfl rfl ⟨_, hY⟩ ?_
    refine mo_no hM1 (fun h3 hM3 g3 => bk_Ki ?_)
    refine bg_iret rfl rfl (by rfl) ?_
    first
      | exact bQ (hQ3 _ n _ hM2 rfl rfl (Nat.le_refl n) (hm.trans (hF1.fm (by omega) (by omega)) (Nat.le_refl n))) (by rw [hr4.1.1 3 (by decide), hr.1.1 3 (by decide)])
      | exact hE hc h3 _ hM3 rfl rfl (fun q q1 q2 => (g3 q (by omega)).trans (hm q q1 q2))
theorem mo_trim {w : Int32} (hM : MD h y u v T P S J K C) (hE : ¬ inR w 0 (nI T.length) → ∀ (h' : bk_H) (J' : rI), MD h' y u v T P S J' K C → J' 0 = 1 → J' 2 = J 2 → fm h h' y n → Q (.inl (some (.int 0))) h' n) (hQ : inR w 0 (nI T.length) → ∀ (h' : bk_H) (n' : Nat) (J' : rI), MD h' y u v (T.take w.toNatClampNeg) P S J' K C → J' 0 = 0 → J' 2 = J 2 → n ≤ n' → fm h h' y n → Q (.inl (some (.int (w)))) h' n') : bk_wp V (d + 2) 196 [.ref y, .int w] h n B Q := by
  obtain ⟨hTp, har, hah, ⟨I, A, hR, hr, hP, hY, hp, hs, hv, hd1, hd2, hbs⟩, hJ1, hT2, hu⟩ := id hM
  refine bg_in rfl rfl ?_
  refine bg_aload0 rfl ?_
  refine bg_iconst rfl ?_
  refine bg_putfield rfl rfl hY (by rfl) ⟨rfl, rfl⟩ (by rfl) (fun h2 f2 g2 => ?_)
  have hM1 := hM.j (J' := upd J 0 0) f2 g2 rfl
  have hm : fm h h2 y n := fun q _ q2 => g2 q (by omega)
  obtain ⟨hTp, har, hah, ⟨I, A, hR, hr, hP, hY, hp, hs, hv, hd1, hd2, hbs⟩, hJ1, hT2, hu⟩ := id hM1
  refine bg_iload1 rfl ?_
  refine bg_iconst rfl ?_
  refine bg_aload0 rfl ?_
  refine bg_getfield rfl rfl hY (by rfl) ?_
  refine bg_stat3 rfl rfl rfl rfl ?_
  refine rb_isIn (bk_Ki ?_)
  refine bg_ifne_b rfl (fun e14 => ?_) (fun e14 => ?_)
  · have e1 : (upd J 0 0) 1 = nI T.length := hJ1
    rw [e1] at e14
    have hc : inR w 0 (nI T.length) := e14
    have hQ3 := hQ hc
    obtain ⟨j, j1, j2, rfl⟩ := inR_nI (a := 0) (by decide) (by omega) hc
    rw [nI_clamp (by omega)] at hQ3
    refine bg_aload0 rfl ?_
    refine bg_iload1 rfl ?_
    refine bg_putfield rfl rfl hY (by rfl) ⟨rfl, rfl⟩ (by rfl) (fun h25 f25 g25 => ?_)
    obtain ⟨⟨tp, ht, ht2⟩, ⟨f0, f1, f2x, f3, f4, b0, b1, b2, b3, b4⟩, ⟨I2, A2, hR2⟩, hWx, _, _, _⟩ := id hM1
    have hlt : (T.take j).length = j := List.length_take_of_le j2
    have hM2 : MD h25 y u v (T.take j) P S (upd (upd J 0 0) 1 (nI j)) K C := ⟨⟨tp, (g25 _ (by omega)).trans ht, fun i hi => by
      rw [hlt] at hi
      rw [ht2 i (by omega), List.getD_eq_getElem?_getD, List.getD_eq_getElem?_getD, List.getElem?_take_of_lt hi]⟩, ⟨f0, f1, f2x, f3, f4, (g25 _ (by omega)).trans b0, (g25 _ (by omega)).trans b1, (g25 _ (by omega)).trans b2, (g25 _ (by omega)).trans b3, (g25 _ (by omega)).trans b4⟩, ⟨I2, A2, hR2.kq fun q q1 q2 => g25 q (by omega)⟩, ⟨I, A, hR.kq fun q q1 q2 => g25 q (by omega), hr, hP.kq fun q q1 q2 => g25 q (by omega), f25, hp, hs, hv, hd1, hd2, hbs⟩, by rw [hlt]; rfl, by omega, hu⟩
    refine bg_iload1 rfl ?_
    refine bg_iret rfl rfl (by rfl) ?_
    first
      | exact hQ3 _ n _ hM2 rfl rfl (Nat.le_refl n) (fun q q1 q2 => (g25 q (by omega)).trans (hm q q1 q2))
      | exact hE hc h3 _ hM3 rfl rfl (fun q q1 q2 => (g3 q (by omega)).trans (hm q q1 q2))
  · have e1 : (upd J 0 0) 1 = nI T.length := hJ1
    rw [e1] at e14
    have hc : ¬ inR w 0 (nI T.length) := e14
    refine bg_aload0 rfl ?_
    refine bg_iconst rfl ?_
    refine bg_virt1 rfl rfl rfl rfl ⟨_, hY⟩ ?_
    refine mo_no hM1 (fun h3 hM3 g3 => bk_Ki ?_)
    refine bg_iret rfl rfl (by rfl) ?_
    first
      | exact hQ3 _ n _ hM2 rfl rfl (Nat.le_refl n) (fun q q1 q2 => (g25 q (by omega)).trans (hm q q1 q2))
      | exact hE hc h3 _ hM3 rfl rfl (fun q q1 q2 => (g3 q (by omega)).trans (hm q q1 q2))
end MM
