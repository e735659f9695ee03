/-! THE REFERENCE: what would be. Printed by wip/whole/mk70.py. -/
/-- the reference's way through the rhythms: downwards -/
def rAd (P : Nat → bT) (S : bS) (b : Int32) : Nat → Int32 × Int32 → Int32 × Int32
  | 0, q => q
  | e + 1, q => rAd P S b e (if q.1 < (goF P 48 (S.1, uT S.2 1 (rS (S.2 1) b 0 (nI (e + 1))))).1 4 then ((goF P 48 (S.1, uT S.2 1 (rS (S.2 1) b 0 (nI (e + 1))))).1 4, nI (e + 1)) else q)
def rSp (P : Nat → bT) (S : bS) (H : Nat) : Nat → Nat → Int32 × Int32 → Int32 × Int32
  | 0, _, q => q
  | c + 1, k, q => rSp P S H c (k + 1) (if q.1 < (goF P H (upd S.1 7 (nI k), S.2)).1 4 then ((goF P H (upd S.1 7 (nI k), S.2)).1 4, nI k) else q)
section MM
variable {V : bk_V} {d n : Nat} {B : Nat × Nat} {Q : bk_R → bk_H → Nat → Prop} {h : bk_H} {y u v : Nat} {T : List Int32} {P : Nat → bT} {S : bS} {I J K : rI} {A C : rA} {cs : Nat × Nat}
theorem mo_untilL {b : Int32} {h0 : bk_H} (hu : (y + 7 ≤ u ∧ u + 16 ≤ y + 23) ∨ y + 51 ≤ u) : ∀ (c k : Nat) (S2 : bS) {h : bk_H}, k + c = 121 → RW h (y + 37) y u v P S2 J K C [] → RW h (y + 23) y u v P S J K C [] → fr h0 h (y + 37) (y + 51) → (∀ h', (∃ I2 A2, RO h' (y + 37) y I2 A2) → fr h0 h' (y + 37) (y + 51) → Q (.inl (some (.int (utL P b c k S2)))) h' n) → bk_g V (d + 8) 219 B Q 32 [some (.ref y), some (.int b), some (.int (nI k))] [] h n cs := by
  intro c
  induction c with
  | zero =>
    intro k S2 h hk hWa hWs hF hQ
    obtain ⟨Ia, Aa, hRa, hra, hPa, hYa, hpa, hsa, hva, hda1, hda2, hbsa⟩ := id hWa
    obtain ⟨I, A, hR, hr, hP, hY, hp, hs, hv, hd1, hd2, hbs⟩ := id hWs
    refine bg_iload2 rfl ?_
    refine bg_bipush rfl ?_
    refine bg_icmp_gt rfl (fun e35 => ?_) (fun e35 => absurd (nI_lt (a := 120) (by omega) (by omega)) e35)
    refine bg_iload2 rfl ?_
    refine bg_bipush rfl ?_
    refine bg_icmp_le rfl (fun e65 => absurd (nI_lt (a := 120) (by omega) (by omega)) e65) (fun e65 => ?_)
    refine bg_iconst rfl ?_
    refine bg_goto rfl ?_
    refine bg_iret rfl rfl (by rfl) ?_
    exact hQ h ⟨_, _, hRa⟩ hF
  | succ c ih =>
    intro k S2 h hk hWa hWs hF hQ
    obtain ⟨Ia, Aa, hRa, hra, hPa, hYa, hpa, hsa, hva, hda1, hda2, hbsa⟩ := id hWa
    obtain ⟨I, A, hR, hr, hP, hY, hp, hs, hv, hd1, hd2, hbs⟩ := id hWs
    have hl4 : (S2.2 4).length ≤ 30 := hsa.2.1.2.2.2.2.1
    have hle := tC_le (t := S2.2 4) (c := 0) (v := b)
    refine bg_iload2 rfl ?_
    refine bg_bipush rfl ?_
    refine bg_icmp_gt rfl (fun e35 => absurd e35 (nI_nlt (a := 120) (by omega) (by omega))) (fun e35 => ?_)
    refine bg_aload0 rfl ?_
    refine bg_getfield rfl rfl hY (by rfl) ?_
    refine bg_iload1 rfl ?_
    refine bg_virt1 rfl rfl rfl rfl ⟨_, hRa.1⟩ ?_
    refine rb_figuresOf hRa hra hl4 (bk_Ki ?_)
    show bk_g V _ 219 B Q _ _ [.int (nI (tC (S2.2 4) 0 b))] _ _ _
    refine bg_if_ne rfl (fun e46 => ?_) (fun e46 => ?_)
    · have hv2 : utL P b (c + 1) k S2 = nI k := if_pos (Nat.pos_of_ne_zero fun z => e46 (by rw [z]; rfl))
      rw [hv2] at hQ
      refine bg_iload2 rfl ?_
      refine bg_bipush rfl ?_
      refine bg_icmp_le rfl (fun e65 => ?_) (fun e65 => absurd e65 (nI_nlt (a := 120) (by omega) (by omega)))
      refine bg_iload2 rfl ?_
      refine bg_iret rfl rfl (by rfl) ?_
      exact hQ h ⟨_, _, hRa⟩ hF
    · have hv2 : utL P b (c + 1) k S2 = utL P b c (k + 1) (hourF P S2) := if_neg (fun z => absurd (nI_z (by omega) e46) (by omega))
      rw [hv2] at hQ
      refine bg_aload0 rfl ?_
      refine bg_getfield rfl rfl hY (by rfl) ?_
      refine bg_virt0 rfl rfl rfl rfl ⟨_, hRa.1⟩ ?_
      refine rw_hour hWa (fun h5 hW5 hF5 => bk_Kv ?_)
      have hWs5 := hWs.kp hF5 (by omega) (by omega) (by omega)
      refine bg_iinc2 rfl rfl ?_
      rw [nI_1]
      refine bg_goto rfl ?_
      exact ih (k + 1) _ (by omega) hW5 hWs5 (hF.trans (hF5.wide (by omega) (by omega))) hQ

theorem mo_until {b : Int32} (h7 : S.1 7 = -1) (hM : MD h y u v T P S J K C) (hE : ¬ isI (P 2) b → ∀ (h' : bk_H) (J' : rI), MD h' y u v T P S J' K C → J' 0 = 1 → J' 2 = J 2 → fm h h' y n → Q (.inl (some (.int 0))) h' n) (hQ : isI (P 2) b → ∀ (h' : bk_H) (n' : Nat) (J' : rI), MD h' y u v T P S J' K C → J' 0 = 0 → J' 2 = J 2 → n ≤ n' → fm h h' y n → Q (.inl (some (.int (utL P b 121 0 S)))) h' n') : bk_wp V (d + 9) 219 [.ref y, .int b] h n B Q := by
  obtain ⟨hTp, har, hah, ⟨I, A, hR, hr, hP, hY, hp, hs, hv, hd1, hd2, hbs⟩, hJ1, hT2, hu⟩ := id hM
  refine bg_in rfl rfl ?_
  refine bg_aload0 rfl ?_
  refine bg_iconst rfl ?_
  refine bg_putfield rfl rfl hY (by rfl) ⟨rfl, rfl⟩ (by rfl) (fun h2 f2 g2 => ?_)
  have hM1 := hM.j (J' := upd J 0 0) f2 g2 rfl
  have hm : fm h h2 y n := fun q _ q2 => g2 q (by omega)
  obtain ⟨hTp, har, hah, ⟨I, A, hR, hr, hP, hY, hp, hs, hv, hd1, hd2, hbs⟩, hJ1, hT2, hu⟩ := id hM1
  obtain ⟨Ia0, Aa0, hRa0⟩ := hM1.2.2.1
  
  refine bg_aload0 rfl ?_
  refine bg_iload1 rfl ?_
  refine bg_virt1 rfl rfl rfl rfl ⟨_, hY⟩ ?_
  refine mo_isSpirit hM1 (bk_Ki ?_)
  refine bg_ifne_b rfl (fun e10 => ?_) (fun e10 => ?_)
  · have hc : isI (P 2) b := e10
    refine bg_aload0 rfl ?_
    refine bg_getfield rfl rfl hY (by rfl) ?_
    refine bg_aload0 rfl ?_
    refine bg_getfield rfl rfl hY (by rfl) ?_
    refine bg_virt1 rfl rfl rfl rfl ⟨_, hRa0.1⟩ ?_
    refine rw_become hRa0 hM1.2.2.2.1 h7 (by omega) (by omega) (by omega) (fun h4 hW4 hWs4 hF4 => bk_Kv ?_)
    obtain ⟨Ia, Aa, hRa, hra, hPa, hYa, hpa, hsa, hva, hda1, hda2, hbsa⟩ := id hW4
    obtain ⟨I, A, hR, hr, hP, hY, hp, hs, hv, hd1, hd2, hbs⟩ := id hWs4
    refine bg_iconst rfl ?_
    refine bg_istore2 rfl rfl ?_
    exact mo_untilL (h0 := h2) hu 121 0 S rfl hW4 hWs4 (hF4.wide (by omega) (by omega)) (fun h' hR2 hF2 => hQ hc h' n _ (hM1.a hR2 hF2) rfl rfl (Nat.le_refl n) (hm.trans (hF2.fm (by omega) (by omega)) (Nat.le_refl n)))
  · have hc : ¬ (isI (P 2) b) := e10
    refine bg_aload0 rfl ?_
    refine bg_iconst rfl ?_
    refine bg_virt1 rfl rfl rfl rfl ⟨_, hY⟩ ?_
    refine mo_no hM1 (fun h3 hM3 g3 => bk_Ki ?_)
    refine bg_iret rfl rfl (by rfl) ?_
    exact hE hc h3 _ hM3 rfl rfl (fun q q1 q2 => (g3 q (by omega)).trans (hm q q1 q2))
theorem mo_foresee {w0 w : Int32} (h7 : S.1 7 = -1) (hM : MD h y u v T P S J K C) (hE : ¬ inR w0 1 96 → ∀ (h' : bk_H) (J' : rI), MD h' y u v T P S J' K C → J' 0 = 1 → J' 2 = J 2 → fm h h' y n → Q (.inl (some (.int 0))) h' n) (hE2 : inR w0 1 96 → ¬ inR w 0 4 → ∀ (h' : bk_H) (J' : rI), MD h' y u v T P S J' K C → J' 0 = 2 → J' 2 = J 2 → fm h h' y n → Q (.inl (some (.int 0))) h' n) (hQ : inR w0 1 96 → inR w 0 4 → ∀ (h' : bk_H) (n' : Nat) (J' : rI), MD h' y u v T P S J' K C → J' 0 = 0 → J' 2 = J 2 → n ≤ n' → fm h h' y n → Q (.inl (some (.int (foV S (goF P w0.toNatClampNeg S) w)))) h' n') : bk_wp V (d + 10) 220 [.ref y, .int w0, .int w] h n B Q := by
  obtain ⟨hTp, har, hah, ⟨I, A, hR, hr, hP, hY, hp, hs, hv, hd1, hd2, hbs⟩, hJ1, hT2, hu⟩ := id hM
  refine bg_in rfl rfl ?_
  refine bg_aload0 rfl ?_
  refine bg_iconst rfl ?_
  refine bg_putfield rfl rfl hY (by rfl) ⟨rfl, rfl⟩ (by rfl) (fun h2 f2 g2 => ?_)
  have hM1 := hM.j (J' := upd J 0 0) f2 g2 rfl
  have hm : fm h h2 y n := fun q _ q2 => g2 q (by omega)
  obtain ⟨hTp, har, hah, ⟨I, A, hR, hr, hP, hY, hp, hs, hv, hd1, hd2, hbs⟩, hJ1, hT2, hu⟩ := id hM1
  obtain ⟨Ia0, Aa0, hRa0⟩ := hM1.2.2.1
  
  refine bg_iload1 rfl ?_
  refine bg_iconst rfl ?_
  refine bg_bipush rfl ?_
  refine bg_stat3 rfl rfl rfl rfl ?_
  refine rb_isIn (bk_Ki ?_)
  refine bg_ifne_b rfl (fun e12 => ?_) (fun e12 => ?_)
  · have hc : inR w0 1 96 := e12
    have hQ3 := hQ hc
    obtain ⟨j, j1, j2, rfl⟩ := inR_nI (a := 1) (b := 96) (by decide) (by decide) hc
    rw [nI_clamp (by omega)] at hQ3
    refine bg_iload2 rfl ?_
    refine bg_iconst rfl ?_
    refine bg_iconst rfl ?_
    refine bg_stat3 rfl rfl rfl rfl ?_
    refine rb_isIn (bk_Ki ?_)
    refine bg_ifne_b rfl (fun e27 => ?_) (fun e27 => ?_)
    · have hc2 : inR w 0 4 := e27
      refine bg_aload0 rfl ?_
      refine bg_getfield rfl rfl hY (by rfl) ?_
      refine bg_aload0 rfl ?_
      refine bg_getfield rfl rfl hY (by rfl) ?_
      refine bg_virt1 rfl rfl rfl rfl ⟨_, hRa0.1⟩ ?_
      refine rw_become hRa0 hM1.2.2.2.1 h7 (by omega) (by omega) (by omega) (fun h4 hW4 hWs4 hF4 => bk_Kv ?_)
      obtain ⟨Ia, Aa, hRa, hra, hPa, hYa, hpa, hsa, hva, hda1, hda2, hbsa⟩ := id hW4
      obtain ⟨I, A, hR, hr, hP, hY, hp, hs, hv, hd1, hd2, hbs⟩ := id hWs4
      refine bg_aload0 rfl ?_
      refine bg_getfield rfl rfl hY (by rfl) ?_
      refine bg_iload1 rfl ?_
      refine bg_virt1 rfl rfl rfl rfl ⟨_, hRa.1⟩ ?_
      refine rw_go (N := j) (by omega) hW4 (fun h5 hW5 hF5 => bk_Kv ?_)
      have hWs5 := hWs4.kp hF5 (by omega) (by omega) (by omega)
      obtain ⟨Ia, Aa, hRa, hra, hPa, hYa, hpa, hsa, hva, hda1, hda2, hbsa⟩ := id hW5
      obtain ⟨I, A, hR, hr, hP, hY, hp, hs, hv, hd1, hd2, hbs⟩ := id hWs5
      have hl3a : ((goF P j S).2 3).length ≤ 30 := hsa.2.1.2.2.2.1.1
      refine bg_iload2 rfl ?_
      refine bg_tsw rfl ?_
      refine bk_sw_c (fun e56_0 => ?_) (fun n56_0 => ?_)
      · have hval := (if_pos e56_0 : foV S (goF P j S) w = _)
        refine bg_aload0 rfl ?_
        refine bg_getfield rfl rfl hY (by rfl) ?_
        refine bg_getfield rfl rfl hRa.1 (by rfl) ?_
        refine bg_aload0 rfl ?_
        refine bg_getfield rfl rfl hY (by rfl) ?_
        refine bg_getfield rfl rfl hR.1 (by rfl) ?_
        refine bg_isub rfl ?_
        refine bg_iret rfl rfl (by rfl) ?_
        first
          | exact bQ (hQ3 hc2 h5 n _ (hM1.a ⟨_, _, hRa⟩ ((hF4.trans hF5).wide (by omega) (by omega))) rfl rfl (Nat.le_refl n) (hm.trans ((hF4.trans hF5).fm (by omega) (by omega)) (Nat.le_refl n))) (hval.trans (by rw [hra.1.1 3 (by decide), hr.1.1 3 (by decide)]))
          | exact bQ (hQ3 hc2 h5 n _ (hM1.a ⟨_, _, hRa⟩ ((hF4.trans hF5).wide (by omega) (by omega))) rfl rfl (Nat.le_refl n) (hm.trans ((hF4.trans hF5).fm (by omega) (by omega)) (Nat.le_refl n))) (hval.trans (hra.1.2.1.symm))
          | exact bQ (hQ3 hc2 h5 n _ (hM1.a ⟨_, _, hRa⟩ ((hF4.trans hF5).wide (by omega) (by omega))) rfl rfl (Nat.le_refl n) (hm.trans ((hF4.trans hF5).fm (by omega) (by omega)) (Nat.le_refl n))) (hval.trans (hra.1.2.2.1.symm))
          | exact bQ (hQ3 hc2 h5 n _ (hM1.a ⟨_, _, hRa⟩ ((hF4.trans hF5).wide (by omega) (by omega))) rfl rfl (Nat.le_refl n) (hm.trans ((hF4.trans hF5).fm (by omega) (by omega)) (Nat.le_refl n))) (hval.trans (by rw [hra.1.1 4 (by decide), hr.1.1 4 (by decide)]))
          | exact bQ (hQ3 hc2 h5 n _ (hM1.a ⟨_, _, hRa⟩ ((hF4.trans hF5).wide (by omega) (by omega))) rfl rfl (Nat.le_refl n) (hm.trans ((hF4.trans hF5).fm (by omega) (by omega)) (Nat.le_refl n))) (hval.trans (rfl))
          | exact hE hc h3 _ hM3 rfl rfl (fun q q1 q2 => (g3 q (by omega)).trans (hm q q1 q2))
          | exact hE2 hc hc2 h3 _ hM3 rfl rfl (fun q q1 q2 => (g3 q (by omega)).trans (hm q q1 q2))
      refine bk_sw_c (fun e56_1 => ?_) (fun n56_1 => ?_)
      · have hval := ((if_neg n56_0).trans (if_pos e56_1) : foV S (goF P j S) w = _)
        refine bg_aload0 rfl ?_
        refine bg_getfield rfl rfl hY (by rfl) ?_
        refine bg_getfield rfl rfl hRa.1 (by rfl) ?_
        refine bg_iret rfl rfl (by rfl) ?_
        first
          | exact bQ (hQ3 hc2 h5 n _ (hM1.a ⟨_, _, hRa⟩ ((hF4.trans hF5).wide (by omega) (by omega))) rfl rfl (Nat.le_refl n) (hm.trans ((hF4.trans hF5).fm (by omega) (by omega)) (Nat.le_refl n))) (hval.trans (by rw [hra.1.1 3 (by decide), hr.1.1 3 (by decide)]))
          | exact bQ (hQ3 hc2 h5 n _ (hM1.a ⟨_, _, hRa⟩ ((hF4.trans hF5).wide (by omega) (by omega))) rfl rfl (Nat.le_refl n) (hm.trans ((hF4.trans hF5).fm (by omega) (by omega)) (Nat.le_refl n))) (hval.trans (hra.1.2.1.symm))
          | exact bQ (hQ3 hc2 h5 n _ (hM1.a ⟨_, _, hRa⟩ ((hF4.trans hF5).wide (by omega) (by omega))) rfl rfl (Nat.le_refl n) (hm.trans ((hF4.trans hF5).fm (by omega) (by omega)) (Nat.le_refl n))) (hval.trans (hra.1.2.2.1.symm))
          | exact bQ (hQ3 hc2 h5 n _ (hM1.a ⟨_, _, hRa⟩ ((hF4.trans hF5).wide (by omega) (by omega))) rfl rfl (Nat.le_refl n) (hm.trans ((hF4.trans hF5).fm (by omega) (by omega)) (Nat.le_refl n))) (hval.trans (by rw [hra.1.1 4 (by decide), hr.1.1 4 (by decide)]))
          | exact bQ (hQ3 hc2 h5 n _ (hM1.a ⟨_, _, hRa⟩ ((hF4.trans hF5).wide (by omega) (by omega))) rfl rfl (Nat.le_refl n) (hm.trans ((hF4.trans hF5).fm (by omega) (by omega)) (Nat.le_refl n))) (hval.trans (rfl))
          | exact hE hc h3 _ hM3 rfl rfl (fun q q1 q2 => (g3 q (by omega)).trans (hm q q1 q2))
          | exact hE2 hc hc2 h3 _ hM3 rfl rfl (fun q q1 q2 => (g3 q (by omega)).trans (hm q q1 q2))
      refine bk_sw_c (fun e56_2 => ?_) (fun n56_2 => ?_)
      · have hval := ((if_neg n56_0).trans ((if_neg n56_1).trans (if_pos e56_2)) : foV S (goF P j S) w = _)
        refine bg_aload0 rfl ?_
        refine bg_getfield rfl rfl hY (by rfl) ?_
        refine bg_getfield rfl rfl hRa.1 (by rfl) ?_
        refine bg_iret rfl rfl (by rfl) ?_
        first
          | exact bQ (hQ3 hc2 h5 n _ (hM1.a ⟨_, _, hRa⟩ ((hF4.trans hF5).wide (by omega) (by omega))) rfl rfl (Nat.le_refl n) (hm.trans ((hF4.trans hF5).fm (by omega) (by omega)) (Nat.le_refl n))) (hval.trans (by rw [hra.1.1 3 (by decide), hr.1.1 3 (by decide)]))
          | exact bQ (hQ3 hc2 h5 n _ (hM1.a ⟨_, _, hRa⟩ ((hF4.trans hF5).wide (by omega) (by omega))) rfl rfl (Nat.le_refl n) (hm.trans ((hF4.trans hF5).fm (by omega) (by omega)) (Nat.le_refl n))) (hval.trans (hra.1.2.1.symm))
          | exact bQ (hQ3 hc2 h5 n _ (hM1.a ⟨_, _, hRa⟩ ((hF4.trans hF5).wide (by omega) (by omega))) rfl rfl (Nat.le_refl n) (hm.trans ((hF4.trans hF5).fm (by omega) (by omega)) (Nat.le_refl n))) (hval.trans (hra.1.2.2.1.symm))
          | exact bQ (hQ3 hc2 h5 n _ (hM1.a ⟨_, _, hRa⟩ ((hF4.trans hF5).wide (by omega) (by omega))) rfl rfl (Nat.le_refl n) (hm.trans ((hF4.trans hF5).fm (by omega) (by omega)) (Nat.le_refl n))) (hval.trans (by rw [hra.1.1 4 (by decide), hr.1.1 4 (by decide)]))
          | exact bQ (hQ3 hc2 h5 n _ (hM1.a ⟨_, _, hRa⟩ ((hF4.trans hF5).wide (by omega) (by omega))) rfl rfl (Nat.le_refl n) (hm.trans ((hF4.trans hF5).fm (by omega) (by omega)) (Nat.le_refl n))) (hval.trans (rfl))
          | exact hE hc h3 _ hM3 rfl rfl (fun q q1 q2 => (g3 q (by omega)).trans (hm q q1 q2))
          | exact hE2 hc hc2 h3 _ hM3 rfl rfl (fun q q1 q2 => (g3 q (by omega)).trans (hm q q1 q2))
      refine bk_sw_c (fun e56_3 => ?_) (fun n56_3 => ?_)
      · have hval := ((if_neg n56_0).trans ((if_neg n56_1).trans ((if_neg n56_2).trans (if_pos e56_3))) : foV S (goF P j S) w = _)
        refine bg_aload0 rfl ?_
        refine bg_getfield rfl rfl hY (by rfl) ?_
        refine bg_getfield rfl rfl hRa.1 (by rfl) ?_
        refine bg_aload0 rfl ?_
        refine bg_getfield rfl rfl hY (by rfl) ?_
        refine bg_getfield rfl rfl hR.1 (by rfl) ?_
        refine bg_isub rfl ?_
        refine bg_iret rfl rfl (by rfl) ?_
        first
          | exact bQ (hQ3 hc2 h5 n _ (hM1.a ⟨_, _, hRa⟩ ((hF4.trans hF5).wide (by omega) (by omega))) rfl rfl (Nat.le_refl n) (hm.trans ((hF4.trans hF5).fm (by omega) (by omega)) (Nat.le_refl n))) (hval.trans (by rw [hra.1.1 3 (by decide), hr.1.1 3 (by decide)]))
          | exact bQ (hQ3 hc2 h5 n _ (hM1.a ⟨_, _, hRa⟩ ((hF4.trans hF5).wide (by omega) (by omega))) rfl rfl (Nat.le_refl n) (hm.trans ((hF4.trans hF5).fm (by omega) (by omega)) (Nat.le_refl n))) (hval.trans (hra.1.2.1.symm))
          | exact bQ (hQ3 hc2 h5 n _ (hM1.a ⟨_, _, hRa⟩ ((hF4.trans hF5).wide (by omega) (by omega))) rfl rfl (Nat.le_refl n) (hm.trans ((hF4.trans hF5).fm (by omega) (by omega)) (Nat.le_refl n))) (hval.trans (hra.1.2.2.1.symm))
          | exact bQ (hQ3 hc2 h5 n _ (hM1.a ⟨_, _, hRa⟩ ((hF4.trans hF5).wide (by omega) (by omega))) rfl rfl (Nat.le_refl n) (hm.trans ((hF4.trans hF5).fm (by omega) (by omega)) (Nat.le_refl n))) (hval.trans (by rw [hra.1.1 4 (by decide), hr.1.1 4 (by decide)]))
          | exact bQ (hQ3 hc2 h5 n _ (hM1.a ⟨_, _, hRa⟩ ((hF4.trans hF5).wide (by omega) (by omega))) rfl rfl (Nat.le_refl n) (hm.trans ((hF4.trans hF5).fm (by omega) (by omega)) (Nat.le_refl n))) (hval.trans (rfl))
          | exact hE hc h3 _ hM3 rfl rfl (fun q q1 q2 => (g3 q (by omega)).trans (hm q q1 q2))
          | exact hE2 hc hc2 h3 _ hM3 rfl rfl (fun q q1 q2 => (g3 q (by omega)).trans (hm q q1 q2))
      refine bk_sw_n ?_
      have hval := ((if_neg n56_0).trans ((if_neg n56_1).trans ((if_neg n56_2).trans (if_neg n56_3))) : foV S (goF P j S) w = _)
      refine bg_aload0 rfl ?_
      refine bg_getfield rfl rfl hY (by rfl) ?_
      refine bg_virt0 rfl rfl rfl rfl ⟨_, hRa.1⟩ ?_
      refine rb_rotten hRa hra hl3a (bk_Ki ?_)
      refine bg_iret rfl rfl (by rfl) ?_
      first
        | exact bQ (hQ3 hc2 h5 n _ (hM1.a ⟨_, _, hRa⟩ ((hF4.trans hF5).wide (by omega) (by omega))) rfl rfl (Nat.le_refl n) (hm.trans ((hF4.trans hF5).fm (by omega) (by omega)) (Nat.le_refl n))) (hval.trans (by rw [hra.1.1 3 (by decide), hr.1.1 3 (by decide)]))
        | exact bQ (hQ3 hc2 h5 n _ (hM1.a ⟨_, _, hRa⟩ ((hF4.trans hF5).wide (by omega) (by omega))) rfl rfl (Nat.le_refl n) (hm.trans ((hF4.trans hF5).fm (by omega) (by omega)) (Nat.le_refl n))) (hval.trans (hra.1.2.1.symm))
        | exact bQ (hQ3 hc2 h5 n _ (hM1.a ⟨_, _, hRa⟩ ((hF4.trans hF5).wide (by omega) (by omega))) rfl rfl (Nat.le_refl n) (hm.trans ((hF4.trans hF5).fm (by omega) (by omega)) (Nat.le_refl n))) (hval.trans (hra.1.2.2.1.symm))
        | exact bQ (hQ3 hc2 h5 n _ (hM1.a ⟨_, _, hRa⟩ ((hF4.trans hF5).wide (by omega) (by omega))) rfl rfl (Nat.le_refl n) (hm.trans ((hF4.trans hF5).fm (by omega) (by omega)) (Nat.le_refl n))) (hval.trans (by rw [hra.1.1 4 (by decide), hr.1.1 4 (by decide)]))
        | exact bQ (hQ3 hc2 h5 n _ (hM1.a ⟨_, _, hRa⟩ ((hF4.trans hF5).wide (by omega) (by omega))) rfl rfl (Nat.le_refl n) (hm.trans ((hF4.trans hF5).fm (by omega) (by omega)) (Nat.le_refl n))) (hval.trans (rfl))
        | exact hE hc h3 _ hM3 rfl rfl (fun q q1 q2 => (g3 q (by omega)).trans (hm q q1 q2))
        | exact hE2 hc hc2 h3 _ hM3 rfl rfl (fun q q1 q2 => (g3 q (by omega)).trans (hm q q1 q2))
    · have hc2 : ¬ (inR w 0 4) := e27
      refine bg_aload0 rfl ?_
      refine bg_iconst rfl ?_
      refine bg_virt1 rfl rfl rfl rfl ⟨_, hY⟩ ?_
      refine mo_no hM1 (fun h3 hM3 g3 => bk_Ki ?_)
      refine bg_iret rfl rfl (by rfl) ?_
      first
        | exact bQ (hQ3 hc2 h5 n _ (hM1.a ⟨_, _, hRa⟩ ((hF4.trans hF5).wide (by omega) (by omega))) rfl rfl (Nat.le_refl n) (hm.trans ((hF4.trans hF5).fm (by omega) (by omega)) (Nat.le_refl n))) (hval.trans (by rw [hra.1.1 3 (by decide), hr.1.1 3 (by decide)]))
        | exact bQ (hQ3 hc2 h5 n _ (hM1.a ⟨_, _, hRa⟩ ((hF4.trans hF5).wide (by omega) (by omega))) rfl rfl (Nat.le_refl n) (hm.trans ((hF4.trans hF5).fm (by omega) (by omega)) (Nat.le_refl n))) (hval.trans (hra.1.2.1.symm))
        | exact bQ (hQ3 hc2 h5 n _ (hM1.a ⟨_, _, hRa⟩ ((hF4.trans hF5).wide (by omega) (by omega))) rfl rfl (Nat.le_refl n) (hm.trans ((hF4.trans hF5).fm (by omega) (by omega)) (Nat.le_refl n))) (hval.trans (hra.1.2.2.1.symm))
        | exact bQ (hQ3 hc2 h5 n _ (hM1.a ⟨_, _, hRa⟩ ((hF4.trans hF5).wide (by omega) (by omega))) rfl rfl (Nat.le_refl n) (hm.trans ((hF4.trans hF5).fm (by omega) (by omega)) (Nat.le_refl n))) (hval.trans (by rw [hra.1.1 4 (by decide), hr.1.1 4 (by decide)]))
        | exact bQ (hQ3 hc2 h5 n _ (hM1.a ⟨_, _, hRa⟩ ((hF4.trans hF5).wide (by omega) (by omega))) rfl rfl (Nat.le_refl n) (hm.trans ((hF4.trans hF5).fm (by omega) (by omega)) (Nat.le_refl n))) (hval.trans (rfl))
        | exact hE hc h3 _ hM3 rfl rfl (fun q q1 q2 => (g3 q (by omega)).trans (hm q q1 q2))
        | exact hE2 hc hc2 h3 _ hM3 rfl rfl (fun q q1 q2 => (g3 q (by omega)).trans (hm q q1 q2))
  · have hc : ¬ inR w0 1 96 := e12
    refine bg_aload0 rfl ?_
    refine bg_iconst rfl ?_
    refine bg_virt1 rfl rfl rfl rfl ⟨_, hY⟩ ?_
    refine mo_no hM1 (fun h3 hM3 g3 => bk_Ki ?_)
    refine bg_iret rfl rfl (by rfl) ?_
    first
      | exact bQ (hQ3 hc2 h5 n _ (hM1.a ⟨_, _, hRa⟩ ((hF4.trans hF5).wide (by omega) (by omega))) rfl rfl (Nat.le_refl n) (hm.trans ((hF4.trans hF5).fm (by omega) (by omega)) (Nat.le_refl n))) (hval.trans (by rw [hra.1.1 3 (by decide), hr.1.1 3 (by decide)]))
      | exact bQ (hQ3 hc2 h5 n _ (hM1.a ⟨_, _, hRa⟩ ((hF4.trans hF5).wide (by omega) (by omega))) rfl rfl (Nat.le_refl n) (hm.trans ((hF4.trans hF5).fm (by omega) (by omega)) (Nat.le_refl n))) (hval.trans (hra.1.2.1.symm))
      | exact bQ (hQ3 hc2 h5 n _ (hM1.a ⟨_, _, hRa⟩ ((hF4.trans hF5).wide (by omega) (by omega))) rfl rfl (Nat.le_refl n) (hm.trans ((hF4.trans hF5).fm (by omega) (by omega)) (Nat.le_refl n))) (hval.trans (hra.1.2.2.1.symm))
      | exact bQ (hQ3 hc2 h5 n _ (hM1.a ⟨_, _, hRa⟩ ((hF4.trans hF5).wide (by omega) (by omega))) rfl rfl (Nat.le_refl n) (hm.trans ((hF4.trans hF5).fm (by omega) (by omega)) (Nat.le_refl n))) (hval.trans (by rw [hra.1.1 4 (by decide), hr.1.1 4 (by decide)]))
      | exact bQ (hQ3 hc2 h5 n _ (hM1.a ⟨_, _, hRa⟩ ((hF4.trans hF5).wide (by omega) (by omega))) rfl rfl (Nat.le_refl n) (hm.trans ((hF4.trans hF5).fm (by omega) (by omega)) (Nat.le_refl n))) (hval.trans (rfl))
      | exact hE hc h3 _ hM3 rfl rfl (fun q q1 q2 => (g3 q (by omega)).trans (hm q q1 q2))
      | exact hE2 hc hc2 h3 _ hM3 rfl rfl (fun q q1 q2 => (g3 q (by omega)).trans (hm q q1 q2))
theorem mo_advL {b : Nat} {h0 : bk_H} (hb : b < (P 1).length) (h7 : S.1 7 = -1) (hu : (y + 7 ≤ u ∧ u + 16 ≤ y + 23) ∨ y + 51 ≤ u) : ∀ (e : Nat) (q : Int32 × Int32) {h : bk_H}, e ≤ 6 → (∃ I2 A2, RO h (y + 37) y I2 A2) → RW h (y + 23) y u v P S J K C [] → fr h0 h (y + 37) (y + 51) → (∀ h', (∃ I2 A2, RO h' (y + 37) y I2 A2) → fr h0 h' (y + 37) (y + 51) → Q (.inl (some (.int ((rAd P S (nI b) e q).2)))) h' n) → bk_g V (d + 9) 221 B Q 27 [some (.ref y), some (.int (nI b)), some (.int q.2), some (.int q.1), some (.int (nI e))] [] h n cs := by
  intro e
  induction e with
  | zero =>
    intro q h he hA hWs hF hQ
    obtain ⟨Ia, Aa, hRa⟩ := hA
    obtain ⟨I, A, hR, hr, hP, hY, hp, hs, hv, hd1, hd2, hbs⟩ := id hWs
    refine bg_iload4 rfl ?_
    refine bg_if_le rfl (fun e29 => ?_) (fun e29 => absurd e29 (by decide))
    refine bg_iload2 rfl ?_
    refine bg_iret rfl rfl (by rfl) ?_
    exact hQ h ⟨_, _, hRa⟩ hF
  | succ e ih =>
    intro q h he hA hWs hF hQ
    obtain ⟨Ia0, Aa0, hRa0⟩ := hA
    obtain ⟨I, A, hR, hr, hP, hY, hp, hs, hv, hd1, hd2, hbs⟩ := id hWs
    have hl : (P 1).length ≤ 6 := hs.1.2.1.1
    have hbl : b < (S.2 1).length := by rw [hs.2.2.2.1]; exact hb
    refine bg_iload4 rfl ?_
    refine bg_if_le rfl (fun e29 => absurd (nI_lt (a := 0) (Nat.succ_pos e) (by omega)) e29) (fun e29 => ?_)
    refine bg_aload0 rfl ?_
    refine bg_getfield rfl rfl hY (by rfl) ?_
    refine bg_aload0 rfl ?_
    refine bg_getfield rfl rfl hY (by rfl) ?_
    refine bg_virt1 rfl rfl rfl rfl ⟨_, hRa0.1⟩ ?_
    refine rw_become hRa0 hWs h7 (by omega) (by omega) (by omega) (fun h4 hW4 hWs4 hF4 => bk_Kv ?_)
    obtain ⟨Ia, Aa, hRa, hra, hPa, hYa, hpa, hsa, hva, hda1, hda2, hbsa⟩ := id hW4
    obtain ⟨I, A, hR, hr, hP, hY, hp, hs, hv, hd1, hd2, hbs⟩ := id hWs4
    refine bg_aload0 rfl ?_
    refine bg_getfield rfl rfl hY (by rfl) ?_
    refine bg_getfield rfl rfl hRa.1 (by rfl) ?_
    refine bg_iload1 rfl ?_
    refine bg_iload4 rfl ?_
    refine bg_iastore_n rfl (sR4 hRa) (by omega) (by omega) (fun h53 f53 g53 => ?_)
    obtain ⟨hRa2, hF6⟩ := RO.a3 hRa f53 g53
    have hiv : IV P (S.1, uT S.2 1 (tS (S.2 1) b 0 (nI (e + 1)))) := IV_1 hva (fun i hi => by
      rw [tg_tS hsa.2.1.2.1.2 hbl (by decide)]
      split
      · exact ⟨e + 1, Nat.succ_pos e, he, rfl⟩
      · exact hva.2.1 i (by rw [tS_len] at hi; exact hi))
    have hW6 : RW h53 (y + 37) y u v P (S.1, uT S.2 1 (tS (S.2 1) b 0 (nI (e + 1)))) J K C [] := RW_i hRa2 (RR_t3 hra hsa.2.1.2.1.2 hbl) (hPa.kp hF6 (by omega)) ((hF6 y (by omega)).trans hYa) hpa (SH_1 hsa tS_len (tS_w hsa.2.1.2.1.2)) hiv hda1 hda2 (fun k hk => absurd hk (Nat.not_lt_zero k))
    have hWs6 := hWs4.kp hF6 (by omega) (by omega) (by omega)
    obtain ⟨Ia, Aa, hRa, hra, hPa, hYa, hpa, hsa, hva, hda1, hda2, hbsa⟩ := id hW6
    obtain ⟨I, A, hR, hr, hP, hY, hp, hs, hv, hd1, hd2, hbs⟩ := id hWs6
    refine bg_aload0 rfl ?_
    refine bg_getfield rfl rfl hY (by rfl) ?_
    refine bg_bipush rfl ?_
    refine bg_virt1 rfl rfl rfl rfl ⟨_, hRa.1⟩ ?_
    refine rw_go (N := 48) (by omega) hW6 (fun h5 hW5 hF5 => bk_Kv ?_)
    have hWs5 := hWs6.kp hF5 (by omega) (by omega) (by omega)
    obtain ⟨Ia, Aa, hRa, hra, hPa, hYa, hpa, hsa, hva, hda1, hda2, hbsa⟩ := id hW5
    obtain ⟨I, A, hR, hr, hP, hY, hp, hs, hv, hd1, hd2, hbs⟩ := id hWs5
    have hst : rAd P S (nI b) (e + 1) q = rAd P S (nI b) e (if q.1 < (goF P 48 (S.1, uT S.2 1 (tS (S.2 1) b 0 (nI (e + 1))))).1 4 then ((goF P 48 (S.1, uT S.2 1 (tS (S.2 1) b 0 (nI (e + 1))))).1 4, nI (e + 1)) else q) := by
      rw [← rS_nI (show b < 2 ^ 31 by omega)]
      rfl
    have hFF := hF.trans (((hF4.trans hF6).trans hF5).wide (by omega) (by omega))
    have hm4 := hra.1.1 4 (by decide)
    rw [← hm4] at hst
    refine bg_aload0 rfl ?_
    refine bg_getfield rfl rfl hY (by rfl) ?_
    refine bg_getfield rfl rfl hRa.1 (by rfl) ?_
    refine bg_iload3 rfl ?_
    refine bg_icmp_gt rfl (fun e71 => ?_) (fun e71 => ?_)
    · rw [if_pos e71] at hst
      refine bg_aload0 rfl ?_
      refine bg_getfield rfl rfl hY (by rfl) ?_
      refine bg_getfield rfl rfl hRa.1 (by rfl) ?_
      refine bg_istore3 rfl rfl ?_
      refine bg_iload4 rfl ?_
      refine bg_istore2 rfl rfl ?_
      refine bg_iinc4 rfl rfl ?_
      rw [nI_dn']
      refine bg_goto rfl ?_
      rw [hst] at hQ
      exact ih _ (by omega) ⟨_, _, hRa⟩ hWs5 hFF hQ
    · rw [if_neg e71] at hst
      refine bg_goto rfl ?_
      refine bg_iinc4 rfl rfl ?_
      rw [nI_dn']
      refine bg_goto rfl ?_
      rw [hst] at hQ
      exact ih _ (by omega) ⟨_, _, hRa⟩ hWs5 hFF hQ

theorem mo_advise {b : Int32} (h7 : S.1 7 = -1) (hM : MD h y u v T P S J K C) (hE : ¬ isI (P 1) b → ∀ (h' : bk_H) (J' : rI), MD h' y u v T P S J' K C → J' 0 = 1 → J' 2 = J 2 → fm h h' y n → Q (.inl (some (.int 0))) h' n) (hQ : isI (P 1) b → ∀ (h' : bk_H) (n' : Nat) (J' : rI), MD h' y u v T P S J' K C → J' 0 = 0 → J' 2 = J 2 → n ≤ n' → fm h h' y n → Q (.inl (some (.int ((rAd P S b 6 (-1, 0)).2)))) h' n') : bk_wp V (d + 10) 221 [.ref y, .int b] h n B Q := by
  obtain ⟨hTp, har, hah, ⟨I, A, hR, hr, hP, hY, hp, hs, hv, hd1, hd2, hbs⟩, hJ1, hT2, hu⟩ := id hM
  have hl : (P 1).length ≤ 6 := hs.1.2.1.1
  refine bg_in rfl rfl ?_
  refine bg_aload0 rfl ?_
  refine bg_iconst rfl ?_
  refine bg_putfield rfl rfl hY (by rfl) ⟨rfl, rfl⟩ (by rfl) (fun h2 f2 g2 => ?_)
  have hM1 := hM.j (J' := upd J 0 0) f2 g2 rfl
  have hm : fm h h2 y n := fun q _ q2 => g2 q (by omega)
  obtain ⟨hTp, har, hah, ⟨I, A, hR, hr, hP, hY, hp, hs, hv, hd1, hd2, hbs⟩, hJ1, hT2, hu⟩ := id hM1
  refine bg_aload0 rfl ?_
  refine bg_iload1 rfl ?_
  refine bg_virt1 rfl rfl rfl rfl ⟨_, hY⟩ ?_
  refine mo_isBeater hM1 (bk_Ki ?_)
  refine bg_ifne_b rfl (fun e10 => ?_) (fun e10 => ?_)
  · have hc := e10
    obtain ⟨c, hc1, rfl⟩ := isI_n e10 (by omega)
    refine bg_iconst rfl ?_
    refine bg_istore2 rfl rfl ?_
    refine bg_iconst rfl ?_
    refine bg_istore3 rfl rfl ?_
    refine bg_bipush rfl ?_
    refine bg_istore4 rfl rfl ?_
    exact mo_advL (h0 := h2) hc1 h7 hu 6 (-1, 0) (Nat.le_refl 6) hM1.2.2.1 hM1.2.2.2.1 fr.refl (fun h' hR2 hF2 => hQ hc h' n _ (hM1.a hR2 hF2) rfl rfl (Nat.le_refl n) (hm.trans (hF2.fm (by omega) (by omega)) (Nat.le_refl n)))
  · have hc := e10
    refine bg_aload0 rfl ?_
    refine bg_iconst rfl ?_
    refine bg_virt1 rfl rfl rfl rfl ⟨_, hY⟩ ?_
    refine mo_no hM1 (fun h3 hM3 g3 => bk_Ki ?_)
    refine bg_iret rfl rfl (by rfl) ?_
    exact hE hc h3 _ hM3 rfl rfl (fun q q1 q2 => (g3 q (by omega)).trans (hm q q1 q2))
theorem mo_bestL {H : Nat} {h0 : bk_H} (hH : H < 2 ^ 31) (h7 : S.1 7 = -1) (hu : (y + 7 ≤ u ∧ u + 16 ≤ y + 23) ∨ y + 51 ≤ u) : ∀ (c w : Nat) (q : Int32 × Int32) {h : bk_H}, w + c = 6 → (∃ I2 A2, RO h (y + 37) y I2 A2) → RW h (y + 23) y u v P S J K C [] → fr h0 h (y + 37) (y + 51) → (∀ h', (∃ I2 A2, RO h' (y + 37) y I2 A2) → fr h0 h' (y + 37) (y + 51) → Q (.inl (some (.int ((bsL P S H c w q).2)))) h' n) → bk_g V (d + 9) 222 B Q 28 [some (.ref y), some (.int (nI H)), some (.int q.2), some (.int q.1), some (.int (nI w))] [] h n cs := by
  intro c
  induction c with
  | zero =>
    intro w q h hw hA hWs hF hQ
    obtain ⟨Ia, Aa, hRa⟩ := hA
    obtain ⟨I, A, hR, hr, hP, hY, hp, hs, hv, hd1, hd2, hbs⟩ := id hWs
    refine bg_iload4 rfl ?_
    refine bg_iconst rfl ?_
    refine bg_icmp_gt rfl (fun e31 => ?_) (fun e31 => absurd (nI_lt (a := 5) (by omega) (by omega)) e31)
    refine bg_iload2 rfl ?_
    refine bg_iret rfl rfl (by rfl) ?_
    exact hQ h ⟨_, _, hRa⟩ hF
  | succ c ih =>
    intro w q h hw hA hWs hF hQ
    obtain ⟨Ia0, Aa0, hRa0⟩ := hA
    obtain ⟨I, A, hR, hr, hP, hY, hp, hs, hv, hd1, hd2, hbs⟩ := id hWs
    refine bg_iload4 rfl ?_
    refine bg_iconst rfl ?_
    refine bg_icmp_gt rfl (fun e31 => absurd e31 (nI_nlt (a := 5) (by omega) (by omega))) (fun e31 => ?_)
    refine bg_aload0 rfl ?_
    refine bg_getfield rfl rfl hY (by rfl) ?_
    refine bg_aload0 rfl ?_
    refine bg_getfield rfl rfl hY (by rfl) ?_
    refine bg_virt1 rfl rfl rfl rfl ⟨_, hRa0.1⟩ ?_
    refine rw_become hRa0 hWs h7 (by omega) (by omega) (by omega) (fun h4 hW4 hWs4 hF4 => bk_Kv ?_)
    obtain ⟨Ia, Aa, hRa, hra, hPa, hYa, hpa, hsa, hva, hda1, hda2, hbsa⟩ := id hW4
    obtain ⟨I, A, hR, hr, hP, hY, hp, hs, hv, hd1, hd2, hbs⟩ := id hWs4
    refine bg_aload0 rfl ?_
    refine bg_getfield rfl rfl hY (by rfl) ?_
    refine bg_iload4 rfl ?_
    refine bg_putfield rfl rfl hRa.1 (by rfl) ⟨rfl, rfl⟩ (by rfl) (fun h51 f51 g51 => ?_)
    obtain ⟨hRa2, hF6⟩ := RO.i1 hRa f51 g51
    have hW6 : RW h51 (y + 37) y u v P (upd S.1 1 (nI w), S.2) J K C [] := RW_i hRa2 (RR_i1 hra) (hPa.kp hF6 (by omega)) ((hF6 y (by omega)).trans hYa) hpa (SH_N hsa) (IV_N hva) hda1 hda2 (fun k hk => absurd hk (Nat.not_lt_zero k))
    have hWs6 := hWs4.kp hF6 (by omega) (by omega) (by omega)
    obtain ⟨Ia, Aa, hRa, hra, hPa, hYa, hpa, hsa, hva, hda1, hda2, hbsa⟩ := id hW6
    obtain ⟨I, A, hR, hr, hP, hY, hp, hs, hv, hd1, hd2, hbs⟩ := id hWs6
    refine bg_aload0 rfl ?_
    refine bg_getfield rfl rfl hY (by rfl) ?_
    refine bg_iload1 rfl ?_
    refine bg_virt1 rfl rfl rfl rfl ⟨_, hRa.1⟩ ?_
    refine rw_go (N := H) (by omega) hW6 (fun h5 hW5 hF5 => bk_Kv ?_)
    have hWs5 := hWs6.kp hF5 (by omega) (by omega) (by omega)
    obtain ⟨Ia, Aa, hRa, hra, hPa, hYa, hpa, hsa, hva, hda1, hda2, hbsa⟩ := id hW5
    obtain ⟨I, A, hR, hr, hP, hY, hp, hs, hv, hd1, hd2, hbs⟩ := id hWs5
    have hst : bsL P S H (c + 1) w q = bsL P S H c (w + 1) (if q.1 < (goF P H (upd S.1 1 (nI w), S.2)).1 3 then ((goF P H (upd S.1 1 (nI w), S.2)).1 3, nI w) else q) := rfl
    have hFF := hF.trans (((hF4.trans hF6).trans hF5).wide (by omega) (by omega))
    have hm4 := hra.1.1 3 (by decide)
    rw [← hm4] at hst
    refine bg_aload0 rfl ?_
    refine bg_getfield rfl rfl hY (by rfl) ?_
    refine bg_getfield rfl rfl hRa.1 (by rfl) ?_
    refine bg_iload3 rfl ?_
    refine bg_icmp_gt rfl (fun e70 => ?_) (fun e70 => ?_)
    · rw [if_pos e70] at hst
      refine bg_aload0 rfl ?_
      refine bg_getfield rfl rfl hY (by rfl) ?_
      refine bg_getfield rfl rfl hRa.1 (by rfl) ?_
      refine bg_istore3 rfl rfl ?_
      refine bg_iload4 rfl ?_
      refine bg_istore2 rfl rfl ?_
      refine bg_iinc4 rfl rfl ?_
      rw [nI_1]
      refine bg_goto rfl ?_
      rw [hst] at hQ
      exact ih _ _ (by omega) ⟨_, _, hRa⟩ hWs5 hFF hQ
    · rw [if_neg e70] at hst
      refine bg_goto rfl ?_
      refine bg_iinc4 rfl rfl ?_
      rw [nI_1]
      refine bg_goto rfl ?_
      rw [hst] at hQ
      exact ih _ _ (by omega) ⟨_, _, hRa⟩ hWs5 hFF hQ

theorem mo_best {w : Int32} (h7 : S.1 7 = -1) (hM : MD h y u v T P S J K C) (hE : ¬ inR w 1 72 → ∀ (h' : bk_H) (J' : rI), MD h' y u v T P S J' K C → J' 0 = 1 → J' 2 = J 2 → fm h h' y n → Q (.inl (some (.int 0))) h' n) (hQ : inR w 1 72 → ∀ (h' : bk_H) (n' : Nat) (J' : rI), MD h' y u v T P S J' K C → J' 0 = 0 → J' 2 = J 2 → n ≤ n' → fm h h' y n → Q (.inl (some (.int ((bsL P S w.toNatClampNeg 6 0 (-1, 0)).2)))) h' n') : bk_wp V (d + 10) 222 [.ref y, .int w] h n B Q := by
  obtain ⟨hTp, har, hah, ⟨I, A, hR, hr, hP, hY, hp, hs, hv, hd1, hd2, hbs⟩, hJ1, hT2, hu⟩ := id hM
  refine bg_in rfl rfl ?_
  refine bg_aload0 rfl ?_
  refine bg_iconst rfl ?_
  refine bg_putfield rfl rfl hY (by rfl) ⟨rfl, rfl⟩ (by rfl) (fun h2 f2 g2 => ?_)
  have hM1 := hM.j (J' := upd J 0 0) f2 g2 rfl
  have hm : fm h h2 y n := fun q _ q2 => g2 q (by omega)
  obtain ⟨hTp, har, hah, ⟨I, A, hR, hr, hP, hY, hp, hs, hv, hd1, hd2, hbs⟩, hJ1, hT2, hu⟩ := id hM1
  refine bg_iload1 rfl ?_
  refine bg_iconst rfl ?_
  refine bg_bipush rfl ?_
  refine bg_stat3 rfl rfl rfl rfl ?_
  refine rb_isIn (bk_Ki ?_)
  refine bg_ifne_b rfl (fun e12 => ?_) (fun e12 => ?_)
  · have hc : inR w 1 72 := e12
    have hQ3 := hQ hc
    obtain ⟨j, j1, j2, rfl⟩ := inR_nI (a := 1) (b := 72) (by decide) (by decide) hc
    rw [nI_clamp (by omega)] at hQ3
    refine bg_iconst rfl ?_
    refine bg_istore2 rfl rfl ?_
    refine bg_iconst rfl ?_
    refine bg_istore3 rfl rfl ?_
    refine bg_iconst rfl ?_
    refine bg_istore4 rfl rfl ?_
    exact mo_bestL (h0 := h2) (H := j) (by omega) h7 hu 6 0 (-1, 0) rfl hM1.2.2.1 hM1.2.2.2.1 fr.refl (fun h' hR2 hF2 => hQ3 h' n _ (hM1.a hR2 (hF2)) rfl rfl (Nat.le_refl n) (hm.trans (hF2.fm (by omega) (by omega)) (Nat.le_refl n)))
  · have hc : ¬ inR w 1 72 := e12
    refine bg_aload0 rfl ?_
    refine bg_iconst rfl ?_
    refine bg_virt1 rfl rfl rfl rfl ⟨_, hY⟩ ?_
    refine mo_no hM1 (fun h3 hM3 g3 => bk_Ki ?_)
    refine bg_iret rfl rfl (by rfl) ?_
    exact hE hc h3 _ hM3 rfl rfl (fun q q1 q2 => (g3 q (by omega)).trans (hm q q1 q2))
theorem mo_spaL {H : Nat} {h0 : bk_H} (hH : H < 2 ^ 31) (h7 : S.1 7 = -1) (hu : (y + 7 ≤ u ∧ u + 16 ≤ y + 23) ∨ y + 51 ≤ u) : ∀ (c k : Nat) (q : Int32 × Int32) {h : bk_H}, k + c = (P 1).length → (∃ I2 A2, RO h (y + 37) y I2 A2) → RW h (y + 23) y u v P S J K C [] → fr h0 h (y + 37) (y + 51) → (∀ h', (∃ I2 A2, RO h' (y + 37) y I2 A2) → fr h0 h' (y + 37) (y + 51) → Q (.inl (some (.int ((rSp P S H c k q).2)))) h' n) → bk_g V (d + 9) 223 B Q 55 [some (.ref y), some (.int (nI H)), some (.int q.1), some (.int q.2), some (.int (nI k))] [] h n cs := by
  intro c
  induction c with
  | zero =>
    intro k q h hw hA hWs hF hQ
    obtain ⟨Ia, Aa, hRa⟩ := hA
    obtain ⟨I, A, hR, hr, hP, hY, hp, hs, hv, hd1, hd2, hbs⟩ := id hWs
    have hl : (P 1).length ≤ 6 := hs.1.2.1.1
    have hK1 : K 1 = nI (P 1).length := hp.1 1 (by decide)
    refine bg_iload4 rfl ?_
    refine bg_aload0 rfl ?_
    refine bg_getfield rfl rfl hY (by rfl) ?_
    refine bg_getfield rfl rfl hP.1 (by rfl) ?_
    refine bg_icmp_ge rfl (fun e64 => ?_) (fun e64 => absurd e64 (by rw [hK1]; exact nI_nlt (by omega) (by omega)))
    refine bg_iload3 rfl ?_
    refine bg_iret rfl rfl (by rfl) ?_
    exact hQ h ⟨_, _, hRa⟩ hF
  | succ c ih =>
    intro k q h hw hA hWs hF hQ
    obtain ⟨Ia0, Aa0, hRa0⟩ := hA
    obtain ⟨I, A, hR, hr, hP, hY, hp, hs, hv, hd1, hd2, hbs⟩ := id hWs
    have hl : (P 1).length ≤ 6 := hs.1.2.1.1
    have hK1 : K 1 = nI (P 1).length := hp.1 1 (by decide)
    refine bg_iload4 rfl ?_
    refine bg_aload0 rfl ?_
    refine bg_getfield rfl rfl hY (by rfl) ?_
    refine bg_getfield rfl rfl hP.1 (by rfl) ?_
    refine bg_icmp_ge rfl (fun e64 => absurd (by rw [hK1]; exact nI_lt (by omega) (by omega)) e64) (fun e64 => ?_)
    refine bg_aload0 rfl ?_
    refine bg_getfield rfl rfl hY (by rfl) ?_
    refine bg_aload0 rfl ?_
    refine bg_getfield rfl rfl hY (by rfl) ?_
    refine bg_virt1 rfl rfl rfl rfl ⟨_, hRa0.1⟩ ?_
    refine rw_become hRa0 hWs h7 (by omega) (by omega) (by omega) (fun h4 hW4 hWs4 hF4 => bk_Kv ?_)
    obtain ⟨Ia, Aa, hRa, hra, hPa, hYa, hpa, hsa, hva, hda1, hda2, hbsa⟩ := id hW4
    obtain ⟨I, A, hR, hr, hP, hY, hp, hs, hv, hd1, hd2, hbs⟩ := id hWs4
    refine bg_aload0 rfl ?_
    refine bg_getfield rfl rfl hY (by rfl) ?_
    refine bg_iload4 rfl ?_
    refine bg_putfield rfl rfl hRa.1 (by rfl) ⟨rfl, rfl⟩ (by rfl) (fun h84 f84 g84 => ?_)
    obtain ⟨hRa2, hF6⟩ := RO.i8 hRa f84 g84
    have hW6 : RW h84 (y + 37) y u v P (upd S.1 7 (nI k), S.2) J K C [] := RW_i hRa2 (RR_i8 hra) (hPa.kp hF6 (by omega)) ((hF6 y (by omega)).trans hYa) hpa (SH_N hsa) (IV_N hva) hda1 hda2 (fun k hk => absurd hk (Nat.not_lt_zero k))
    have hWs6 := hWs4.kp hF6 (by omega) (by omega) (by omega)
    obtain ⟨Ia, Aa, hRa, hra, hPa, hYa, hpa, hsa, hva, hda1, hda2, hbsa⟩ := id hW6
    obtain ⟨I, A, hR, hr, hP, hY, hp, hs, hv, hd1, hd2, hbs⟩ := id hWs6
    refine bg_aload0 rfl ?_
    refine bg_getfield rfl rfl hY (by rfl) ?_
    refine bg_iload1 rfl ?_
    refine bg_virt1 rfl rfl rfl rfl ⟨_, hRa.1⟩ ?_
    refine rw_go (N := H) (by omega) hW6 (fun h5 hW5 hF5 => bk_Kv ?_)
    have hWs5 := hWs6.kp hF5 (by omega) (by omega) (by omega)
    obtain ⟨Ia, Aa, hRa, hra, hPa, hYa, hpa, hsa, hva, hda1, hda2, hbsa⟩ := id hW5
    obtain ⟨I, A, hR, hr, hP, hY, hp, hs, hv, hd1, hd2, hbs⟩ := id hWs5
    have hst : rSp P S H (c + 1) k q = rSp P S H c (k + 1) (if q.1 < (goF P H (upd S.1 7 (nI k), S.2)).1 4 then ((goF P H (upd S.1 7 (nI k), S.2)).1 4, nI k) else q) := rfl
    have hFF := hF.trans (((hF4.trans hF6).trans hF5).wide (by omega) (by omega))
    have hm4 := hra.1.1 4 (by decide)
    rw [← hm4] at hst
    refine bg_aload0 rfl ?_
    refine bg_getfield rfl rfl hY (by rfl) ?_
    refine bg_getfield rfl rfl hRa.1 (by rfl) ?_
    refine bg_iload2 rfl ?_
    refine bg_icmp_gt rfl (fun e103 => ?_) (fun e103 => ?_)
    · rw [if_pos e103] at hst
      refine bg_aload0 rfl ?_
      refine bg_getfield rfl rfl hY (by rfl) ?_
      refine bg_getfield rfl rfl hRa.1 (by rfl) ?_
      refine bg_istore2 rfl rfl ?_
      refine bg_iload4 rfl ?_
      refine bg_istore3 rfl rfl ?_
      refine bg_iinc4 rfl rfl ?_
      rw [nI_1]
      refine bg_goto rfl ?_
      rw [hst] at hQ
      exact ih _ _ (by omega) ⟨_, _, hRa⟩ hWs5 hFF hQ
    · rw [if_neg e103] at hst
      refine bg_goto rfl ?_
      refine bg_iinc4 rfl rfl ?_
      rw [nI_1]
      refine bg_goto rfl ?_
      rw [hst] at hQ
      exact ih _ _ (by omega) ⟨_, _, hRa⟩ hWs5 hFF hQ

theorem mo_spare {w : Int32} (h7 : S.1 7 = -1) (hM : MD h y u v T P S J K C) (hE : ¬ inR w 1 72 → ∀ (h' : bk_H) (J' : rI), MD h' y u v T P S J' K C → J' 0 = 1 → J' 2 = J 2 → fm h h' y n → Q (.inl (some (.int 0))) h' n) (hQ : inR w 1 72 → ∀ (h' : bk_H) (n' : Nat) (J' : rI), MD h' y u v T P S J' K C → J' 0 = 0 → J' 2 = J 2 → n ≤ n' → fm h h' y n → Q (.inl (some (.int ((rSp P S w.toNatClampNeg (P 1).length 0 ((goF P w.toNatClampNeg S).1 4 - 1, -1)).2)))) h' n') : bk_wp V (d + 10) 223 [.ref y, .int w] h n B Q := by
  obtain ⟨hTp, har, hah, ⟨I, A, hR, hr, hP, hY, hp, hs, hv, hd1, hd2, hbs⟩, hJ1, hT2, hu⟩ := id hM
  refine bg_in rfl rfl ?_
  refine bg_aload0 rfl ?_
  refine bg_iconst rfl ?_
  refine bg_putfield rfl rfl hY (by rfl) ⟨rfl, rfl⟩ (by rfl) (fun h2 f2 g2 => ?_)
  have hM1 := hM.j (J' := upd J 0 0) f2 g2 rfl
  have hm : fm h h2 y n := fun q _ q2 => g2 q (by omega)
  obtain ⟨hTp, har, hah, ⟨I, A, hR, hr, hP, hY, hp, hs, hv, hd1, hd2, hbs⟩, hJ1, hT2, hu⟩ := id hM1
  obtain ⟨Ia0, Aa0, hRa0⟩ := hM1.2.2.1
  
  refine bg_iload1 rfl ?_
  refine bg_iconst rfl ?_
  refine bg_bipush rfl ?_
  refine bg_stat3 rfl rfl rfl rfl ?_
  refine rb_isIn (bk_Ki ?_)
  refine bg_ifne_b rfl (fun e12 => ?_) (fun e12 => ?_)
  · have hc : inR w 1 72 := e12
    have hQ3 := hQ hc
    obtain ⟨j, j1, j2, rfl⟩ := inR_nI (a := 1) (b := 72) (by decide) (by decide) hc
    rw [nI_clamp (by omega)] at hQ3
    refine bg_aload0 rfl ?_
    refine bg_getfield rfl rfl hY (by rfl) ?_
    refine bg_aload0 rfl ?_
    refine bg_getfield rfl rfl hY (by rfl) ?_
    refine bg_virt1 rfl rfl rfl rfl ⟨_, hRa0.1⟩ ?_
    refine rw_become hRa0 hM1.2.2.2.1 h7 (by omega) (by omega) (by omega) (fun h4 hW4 hWs4 hF4 => bk_Kv ?_)
    obtain ⟨Ia, Aa, hRa, hra, hPa, hYa, hpa, hsa, hva, hda1, hda2, hbsa⟩ := id hW4
    obtain ⟨I, A, hR, hr, hP, hY, hp, hs, hv, hd1, hd2, hbs⟩ := id hWs4
    refine bg_aload0 rfl ?_
    refine bg_getfield rfl rfl hY (by rfl) ?_
    refine bg_iload1 rfl ?_
    refine bg_virt1 rfl rfl rfl rfl ⟨_, hRa.1⟩ ?_
    refine rw_go (N := j) (by omega) hW4 (fun h5 hW5 hF5 => bk_Kv ?_)
    have hWs5 := hWs4.kp hF5 (by omega) (by omega) (by omega)
    obtain ⟨Ia, Aa, hRa, hra, hPa, hYa, hpa, hsa, hva, hda1, hda2, hbsa⟩ := id hW5
    obtain ⟨I, A, hR, hr, hP, hY, hp, hs, hv, hd1, hd2, hbs⟩ := id hWs5
    refine bg_aload0 rfl ?_
    refine bg_getfield rfl rfl hY (by rfl) ?_
    refine bg_getfield rfl rfl hRa.1 (by rfl) ?_
    refine bg_iconst rfl ?_
    rw [hra.1.1 4 (by decide)]
    refine bg_isub rfl ?_
    refine bg_istore2 rfl rfl ?_
    refine bg_iconst rfl ?_
    refine bg_istore3 rfl rfl ?_
    refine bg_iconst rfl ?_
    refine bg_istore4 rfl rfl ?_
    exact mo_spaL (h0 := h5) (H := j) (by omega) h7 hu (P 1).length 0 ((goF P j S).1 4 - 1, -1) (Nat.zero_add _) ⟨_, _, hRa⟩ hWs5 fr.refl (fun h' hR2 hF2 => hQ3 h' n _ (hM1.a hR2 (((hF4.trans hF5).wide (by omega) (by omega)).trans hF2)) rfl rfl (Nat.le_refl n) (hm.trans ((((hF4.trans hF5).wide (by omega) (by omega)).trans hF2).fm (by omega) (by omega)) (Nat.le_refl n)))
  · have hc : ¬ inR w 1 72 := e12
    refine bg_aload0 rfl ?_
    refine bg_iconst rfl ?_
    refine bg_virt1 rfl rfl rfl rfl ⟨_, hY⟩ ?_
    refine mo_no hM1 (fun h3 hM3 g3 => bk_Ki ?_)
    refine bg_iret rfl rfl (by rfl) ?_
    exact hE hc h3 _ hM3 rfl rfl (fun q q1 q2 => (g3 q (by omega)).trans (hm q q1 q2))
end MM
