/-! THE REFERENCE: soaking. Printed by wip/whole/mk57.py. -/
theorem iMin_as {x y z : Int32} : iMin (iMin x y) z = iMin x (iMin y z) := by
  unfold iMin
  simp only [Int32.le_iff_toInt_le]
  repeat' split
  all_goals first | rfl | (exfalso; omega)
section RB
variable {V : bk_V} {d n : Nat} {B : Nat × Nat} {Q : bk_R → bk_H → Nat → Prop} {h : bk_H} {r y u v : Nat} {P : Nat → bT} {S : bS} {I J K : rI} {A C : rA} {cs : Nat × Nat}
theorem rb_soak {o : Nat} (ho : o < (P 3).length) (hp : RP P K C) (hs : SH P S) (hd1 : u + 16 ≤ r ∨ r + 14 ≤ u) (hd2 : y < r ∨ r + 14 ≤ y) (hR : RO h r y I A) (hr : RR S I A) (hP : PO h u K C) (hY : YO h y J u v) (hQ : ∀ h' I' A', RO h' r y I' A' → RR (soak1 P o S) I' A' → fr h h' r (r + 14) → Q (.inl none) h' n) : bk_wp V (d + 6) 130 [.ref r, .int (nI o)] h n B Q := by
  obtain ⟨s0, s1, s2, s3, s4, s5, s6, s7, s8, s9, s10, s11, s12, s13⟩ := id hR
  obtain ⟨p0, p1, p2, p3, p4, p5, p6, p7, p8, p9, p10, p11, p12, p13, p14, p15⟩ := id hP
  have y0 := hY
  have hl0 : (S.2 0).length = (P 0).length := hs.2.2.1
  have hl5 : (P 0).length ≤ 5 := hs.1.1.1
  have hl24 : (P 3).length ≤ 24 := hs.1.2.2.2.1.1
  obtain ⟨hC, h11, _, _, _, _⟩ := hp.2.2.2.2 o ho
  by_cases hk : rG (P 3) (nI o) 0 = 11
  · obtain ⟨⟨b, hb, hb1, hC9⟩, a, e, ha, hea, ⟨i, c, hg1, hg2, hl, he, hg⟩, hlt⟩ := h11 hk
    replace hg := hg.elim (fun q => absurd q.2 (Nat.ne_of_lt hlt)) (fun q => q.2)
    have hk3 : rck P S (nI o) 3 4 = (evN P S c i []).headD 1 := rck_sg hg1 hg2 hl
    refine bg_in rfl rfl ?_
    refine bg_aload0 rfl ?_
    refine bg_getfield rfl rfl s0 (by rfl) ?_
    refine bg_getfield rfl rfl y0 (by rfl) ?_
    refine bg_getfield rfl rfl p0 (by rfl) ?_
    refine bg_iload1 rfl ?_
    refine bg_iaload_n rfl p8 (by omega) (by omega) ?_
    refine bg_bipush rfl ?_
    refine bg_icmp_ne rfl (fun e14 => (e14 (hC.trans (by rw [hk]; rfl))).elim) (fun e14 => ?_)
    refine bg_aload0 rfl ?_
    refine bg_iload1 rfl ?_
    refine bg_virt1 rfl rfl rfl rfl ⟨_, by assumption⟩ ?_
    refine rb_test ho hp hs hd1 hd2 hR hr hP hY (fun h2 A2 hR2 hr2 hF2 => bk_Ki ?_)
    obtain ⟨s0, s1, s2, s3, s4, s5, s6, s7, s8, s9, s10, s11, s12, s13⟩ := id hR2
    have hP2 := hP.kp hF2 (by omega)
    obtain ⟨p0, p1, p2, p3, p4, p5, p6, p7, p8, p9, p10, p11, p12, p13, p14, p15⟩ := id hP2
    have y0 : YO h2 y J u v := (hF2 y (by omega)).trans hY
    have hY2 := y0
    refine bg_ifne_b rfl (fun e22 => ?_) (fun e22 => ?_)
    · refine bg_aload0 rfl ?_
      refine bg_getfield rfl rfl s0 (by rfl) ?_
      refine bg_getfield rfl rfl y0 (by rfl) ?_
      refine bg_getfield rfl rfl p0 (by rfl) ?_
      refine bg_iload1 rfl ?_
      refine bg_iaload_n rfl p10 (by omega) (by omega) ?_
      rw [hC9]
      refine bg_istore2 rfl rfl ?_
      refine bg_aload0 rfl ?_
      refine bg_aload0 rfl ?_
      refine bg_getfield rfl rfl s0 (by rfl) ?_
      refine bg_getfield rfl rfl y0 (by rfl) ?_
      refine bg_getfield rfl rfl p0 (by rfl) ?_
      refine bg_iload1 rfl ?_
      refine bg_iaload_n rfl p11 (by omega) (by omega) ?_
      refine bg_aload0 rfl ?_
      refine bg_getfield rfl rfl s0 (by rfl) ?_
      refine bg_getfield rfl rfl y0 (by rfl) ?_
      refine bg_getfield rfl rfl p0 (by rfl) ?_
      refine bg_iload1 rfl ?_
      refine bg_iaload_n rfl p12 (by omega) (by omega) ?_
      rw [ha, hea]
      refine bg_virt2 rfl rfl rfl rfl ⟨_, by assumption⟩ ?_
      refine rb_carry he hs hd1 hd2 hR2 hr2 hP2 hY2 hg (fun h3 A3 hR3 hr3 hF3 => bk_Ki ?_)
      obtain ⟨s0, s1, s2, s3, s4, s5, s6, s7, s8, s9, s10, s11, s12, s13⟩ := id hR3
      have hP3 := hP2.kp hF3 (by omega)
      obtain ⟨p0, p1, p2, p3, p4, p5, p6, p7, p8, p9, p10, p11, p12, p13, p14, p15⟩ := id hP3
      have y0 : YO h3 y J u v := (hF3 y (by omega)).trans hY2
      have hY3 := y0
      rw [← hk3]
      refine bg_aload0 rfl ?_
      refine bg_getfield rfl rfl s0 (by rfl) ?_
      refine bg_iload2 rfl ?_
      refine bg_iaload_n rfl s1 (by omega) (by omega) ?_
      refine bg_min rfl rfl rfl ?_
      refine bg_bipush rfl ?_
      refine bg_aload0 rfl ?_
      refine bg_getfield rfl rfl s0 (by rfl) ?_
      refine bg_iload2 rfl ?_
      refine bg_iaload_n rfl s2 (by omega) (by omega) ?_
      refine bg_isub rfl ?_
      refine bg_min rfl rfl rfl ?_
      refine bg_istore3 rfl rfl ?_
      refine bg_iload3 rfl ?_
      refine bg_if_gt rfl (fun e90 => ?_) (fun e90 => ?_)
      · refine bg_aload0 rfl ?_
        refine bg_getfield rfl rfl s0 (by rfl) ?_
        refine bg_iload2 rfl ?_
        refine bg_dup2 rfl rfl rfl ?_
        refine bg_iaload_n rfl s1 (by omega) (by omega) ?_
        refine bg_iload3 rfl ?_
        refine bg_isub rfl ?_
        refine bg_iastore_n rfl s1 (by omega) (by omega) (fun h103 f103 g103 => ?_)
        obtain ⟨hR4, hF4⟩ := RO.a0 hR3 f103 g103
        obtain ⟨s0, s1, s2, s3, s4, s5, s6, s7, s8, s9, s10, s11, s12, s13⟩ := id hR4
        refine bg_aload0 rfl ?_
        refine bg_getfield rfl rfl s0 (by rfl) ?_
        refine bg_iload2 rfl ?_
        refine bg_dup2 rfl rfl rfl ?_
        refine bg_iaload_n rfl s2 (by omega) (by omega) ?_
        refine bg_iload3 rfl ?_
        refine bg_iadd rfl ?_
        refine bg_iastore_n rfl s2 (by omega) (by omega) (fun h113 f113 g113 => ?_)
        obtain ⟨hR5, hF5⟩ := RO.a1 hR4 f113 g113
        have hw : ∀ q ∈ S.2 0, q.length = 3 := hs.2.1.1.2
        have hrow := hr3.2.1 b (by omega)
        have hS1 : soak1 P o S = soak2 P o S := if_pos ⟨hk, e22⟩
        have hS2 : soak2 P o S = (S.1, uT S.2 0 (rS (rS (S.2 0) (nI b) 0 (A3 0 b - iMax 0 (iMin (iMin (rck P S (nI o) 3 4) (A3 0 b)) (60 - A3 1 b)))) (nI b) 1 (A3 1 b + iMax 0 (iMin (iMin (rck P S (nI o) 3 4) (A3 0 b)) (60 - A3 1 b))))) := by
          unfold soak2
          simp only [hb1, rG_nI (show b < 2 ^ 31 by omega)]
          rw [← hrow.1, ← hrow.2.1, iMin_as]
        have hfin := RR_soak (x := A3 0 b - iMin (iMin (rck P S (nI o) 3 4) (A3 0 b)) (60 - A3 1 b)) (z := A3 1 b + iMin (iMin (rck P S (nI o) 3 4) (A3 0 b)) (60 - A3 1 b)) hs hr3 (show b < (S.2 0).length by omega)
        rw [show iMax 0 (iMin (iMin (rck P S (nI o) 3 4) (A3 0 b)) (60 - A3 1 b)) = iMin (iMin (rck P S (nI o) 3 4) (A3 0 b)) (60 - A3 1 b) from if_pos e90] at hS2
        rw [← hS2, ← hS1] at hfin
        refine bg_ret rfl rfl ?_
        first
          | exact hQ h2 I A2 hR2 (by rw [show soak1 P o S = S from if_neg (fun q => q.2 (Decidable.not_not.mp e22))]; exact hr2) (hF2.wide (by omega) (by omega))
          | exact hQ h3 I A3 hR3 hfin ((hF2.trans hF3).wide (by omega) (by omega))
          | exact hQ h113 I _ hR5 hfin ((((hF2.trans hF3).wide (by omega) (by omega)).trans hF4).trans hF5)
      · have hw : ∀ q ∈ S.2 0, q.length = 3 := hs.2.1.1.2
        have hrow := hr3.2.1 b (by omega)
        have hS1 : soak1 P o S = soak2 P o S := if_pos ⟨hk, e22⟩
        have hS2 : soak2 P o S = (S.1, uT S.2 0 (rS (rS (S.2 0) (nI b) 0 (A3 0 b - iMax 0 (iMin (iMin (rck P S (nI o) 3 4) (A3 0 b)) (60 - A3 1 b)))) (nI b) 1 (A3 1 b + iMax 0 (iMin (iMin (rck P S (nI o) 3 4) (A3 0 b)) (60 - A3 1 b))))) := by
          unfold soak2
          simp only [hb1, rG_nI (show b < 2 ^ 31 by omega)]
          rw [← hrow.1, ← hrow.2.1, iMin_as]
        have hfin : RR (soak1 P o S) I A3 := by
          rw [hS1, hS2, show iMax 0 (iMin (iMin (rck P S (nI o) 3 4) (A3 0 b)) (60 - A3 1 b)) = 0 from if_neg e90, Int32.sub_zero, Int32.add_zero, hrow.1, hrow.2.1, rS_nI (show b < 2 ^ 31 by omega), rS_nI (show b < 2 ^ 31 by omega), tS_self (r := b) (c := 0) hw (by decide), tS_self (r := b) (c := 1) hw (by decide)]
          have e3 : uT S.2 0 (S.2 0) = S.2 := by
            funext k
            unfold uT
            split
            · subst k
              rfl
            · rfl
          rw [e3]
          exact hr3
        refine bg_ret rfl rfl ?_
        first
          | exact hQ h2 I A2 hR2 (by rw [show soak1 P o S = S from if_neg (fun q => q.2 (Decidable.not_not.mp e22))]; exact hr2) (hF2.wide (by omega) (by omega))
          | exact hQ h3 I A3 hR3 hfin ((hF2.trans hF3).wide (by omega) (by omega))
          | exact hQ h113 I _ hR5 hfin ((((hF2.trans hF3).wide (by omega) (by omega)).trans hF4).trans hF5)
    · refine bg_ret rfl rfl ?_
      first
        | exact hQ h2 I A2 hR2 (by rw [show soak1 P o S = S from if_neg (fun q => q.2 (Decidable.not_not.mp e22))]; exact hr2) (hF2.wide (by omega) (by omega))
        | exact hQ h3 I A3 hR3 hfin ((hF2.trans hF3).wide (by omega) (by omega))
        | exact hQ h113 I _ hR5 hfin ((((hF2.trans hF3).wide (by omega) (by omega)).trans hF4).trans hF5)
  · have hS : soak1 P o S = S := if_neg (fun q => hk q.1)
    refine bg_in rfl rfl ?_
    refine bg_aload0 rfl ?_
    refine bg_getfield rfl rfl s0 (by rfl) ?_
    refine bg_getfield rfl rfl y0 (by rfl) ?_
    refine bg_getfield rfl rfl p0 (by rfl) ?_
    refine bg_iload1 rfl ?_
    refine bg_iaload_n rfl p8 (by omega) (by omega) ?_
    refine bg_bipush rfl ?_
    refine bg_icmp_ne rfl (fun e14 => ?_) (fun e14 => (hk ((Int32.sub_add_cancel _ 1).symm.trans (by rw [← hC, e14]; rfl))).elim)
    refine bg_ret rfl rfl ?_
    exact hQ h I A hR (by rw [hS]; exact hr) fr.refl
end RB
