/-! THE REFERENCE: reading a single test; sums and tests together. Printed by wip/whole/mk81.py. -/
theorem cmp5 {x : Int32} (h : ¬ x < 42 ∧ ¬ 46 < x) : x = 42 ∨ x = 43 ∨ x = 44 ∨ x = 45 ∨ x = 46 := by
  obtain ⟨j, j1, j2, rfl⟩ := inR_nI (a := 42) (b := 46) (by decide) (by decide) h
  have : j = 42 ∨ j = 43 ∨ j = 44 ∨ j = 45 ∨ j = 46 := by omega
  rcases this with rfl | rfl | rfl | rfl | rfl <;> decide
section MM
variable {V : bk_V} {D n : Nat} {B : Nat × Nat} {Q : bk_R → bk_H → Nat → Prop} {h0 h : bk_H} {y u v t d N : Nat} {T : List Int32} {P : Nat → bT} {S : bS} {K J : rI} {C Fx : rA} {Kd : Nat → Int32} {nv : Nat → Int32} {W : rW} {cl : List Int32} {ol : List Nat} {it : List bIt} {cs : Nat × Nat}
theorem rp_single {n : Nat} (hF : FXk Fx Kd N) (ih3 : rpS V h0 y u v T P S K C Fx Kd N nv W (pp Kd n 3) 3 180 n) (ih5 : rpS V h0 y u v T P S K C Fx Kd N nv W (pp Kd n 5) 4 179 n) (ih8 : rpS V h0 y u v T P S K C Fx Kd N nv W (pp Kd n 8) 6 175 n) : rpS V h0 y u v T P S K C Fx Kd N nv W (pp Kd (n + 1) 5) 4 179 (n + 1) := by
  intro D d t it h nn B Q hd ht hl hpv hw hD hX hQ
  obtain ⟨D, rfl⟩ : ∃ D', D = D' + 6 := ⟨D - 6, by omega⟩
  have hNN := hF.2.2.1
  have hE := hF.2.2.2
  obtain ⟨J, F, K2, C2, hM, j0, j3, j4, ⟨f0, f1, f2, f4⟩, hR, ⟨c5, c13, c6, c14⟩, hO⟩ := id hX
  refine bg_in rfl rfl ?_
  refine bg_aload0 rfl ?_
  refine bg_bipush rfl ?_
  refine bg_virt1 rfl rfl rfl rfl ⟨_, hM.Y⟩ ?_
  refine rp_is (wKe (k := 25) 25 (by decide) (by decide) (by decide)) hF ht hX (bk_Ki ?_)
  refine bg_ifeq_b rfl (fun e6 => ?_) (fun e6 => ?_)
  · have k1 := e6
    refine bg_aload0 rfl ?_
    refine bg_bipush rfl ?_
    refine bg_virt1 rfl rfl rfl rfl ⟨_, hM.Y⟩ ?_
    refine rp_isSign (wKe (k := 34) 34 (by decide) (by decide) (by decide)) hF ht hX (bk_Ki ?_)
    refine bg_ifeq_b rfl (fun e49 => ?_) (fun e49 => ?_)
    · have k2 := e49
      have hu : pp Kd (n + 1) 5 d t = sq (pp Kd n 3 d t) (fun t1 => if ¬ Kd t1 < 42 ∧ ¬ 46 < Kd t1 then sq (pp Kd n 3 d (t1 + 1)) (em (Kd t1) none) else no t1) := (if_neg k1).trans (if_neg k2)
      refine bg_aload0 rfl ?_
      refine bg_virt0 rfl rfl rfl rfl ⟨_, hM.Y⟩ ?_
      refine ih3 _ d t it _ _ _ _ hd ht hl hpv (by omega) (by omega) hX (fun h3 b3 hb3 => bk_Ki ?_)
      refine bg_if_ne rfl (fun e89 => ?_) (fun e89 => ?_)
      · obtain ⟨-, r1, hX⟩ := hb3.resolve_right (fun z => e89 z.1)
        rw [sq_t r1] at hu
        have kk1 := pp_k hE n 3 d t ht
        have kk3 : t + 1 ≤ (pp Kd n 3 d t).2.1 := kk1.2.2.1 r1
        have kk4 := kk1.2.2.2
        have kk5 := kk1.1
        obtain ⟨J, F, K2, C2, hM, j0, j3, j4, ⟨f0, f1, f2, f4⟩, hR, ⟨c5, c13, c6, c14⟩, hO⟩ := id hX
        refine bg_aload0 rfl ?_
        refine bg_bipush rfl ?_
        refine bg_virt1 rfl rfl rfl rfl ⟨_, hM.Y⟩ ?_
        refine rp_isSign (wKe (k := 42) 42 (by decide) (by decide) (by decide)) hF kk5 hX (bk_Ki ?_)
        refine bg_ifeq_b rfl (fun e100 => ?_) (fun e100 => ?_)
        · refine bg_aload0 rfl ?_
          refine bg_bipush rfl ?_
          refine bg_virt1 rfl rfl rfl rfl ⟨_, hM.Y⟩ ?_
          refine rp_isSign (wKe (k := 43) 43 (by decide) (by decide) (by decide)) hF kk5 hX (bk_Ki ?_)
          refine bg_ifeq_b rfl (fun e114 => ?_) (fun e114 => ?_)
          · refine bg_aload0 rfl ?_
            refine bg_bipush rfl ?_
            refine bg_virt1 rfl rfl rfl rfl ⟨_, hM.Y⟩ ?_
            refine rp_isSign (wKe (k := 44) 44 (by decide) (by decide) (by decide)) hF kk5 hX (bk_Ki ?_)
            refine bg_ifeq_b rfl (fun e128 => ?_) (fun e128 => ?_)
            · refine bg_aload0 rfl ?_
              refine bg_sipush rfl ?_
              refine bg_virt1 rfl rfl rfl rfl ⟨_, hM.Y⟩ ?_
              refine rp_is (wKe (k := 45) 45 (by decide) (by decide) (by decide)) hF kk5 hX (bk_Ki ?_)
              refine bg_ifeq_b rfl (fun e143 => ?_) (fun e143 => ?_)
              · refine bg_aload0 rfl ?_
                refine bg_sipush rfl ?_
                refine bg_virt1 rfl rfl rfl rfl ⟨_, hM.Y⟩ ?_
                refine rp_is (wKe (k := 46) 46 (by decide) (by decide) (by decide)) hF kk5 hX (bk_Ki ?_)
                refine bg_ifeq_b rfl (fun e158 => ?_) (fun e158 => ?_)
                · refine bg_iconst rfl ?_
                  refine bg_istore1 rfl rfl ?_
                  refine bg_iload1 rfl ?_
                  refine bg_iconst rfl ?_
                  refine bg_icmp_ne rfl (fun e170 => absurd rfl e170) (fun e170 => ?_)
                  refine bg_iconst rfl ?_
                  refine bg_iret rfl rfl (by rfl) ?_
                  have hcmp : ¬ (¬ Kd (pp Kd n 3 d t).2.1 < 42 ∧ ¬ 46 < Kd (pp Kd n 3 d t).2.1) := fun z => by
                    rcases cmp5 z with z | z | z | z | z
                    · exact e100 z
                    · exact e114 z
                    · exact e128 z
                    · exact e143 z
                    · exact e158 z
                  rw [if_neg hcmp] at hu
                  have hX2 := hX.e
                  refine hQ h3 0 (Or.inr ⟨rfl, ?_⟩)
                  rw [hu]
                  exact ⟨Bool.false_ne_true, hX2⟩
                · have hkt := e158
                  have hcmp : ¬ Kd (pp Kd n 3 d t).2.1 < 42 ∧ ¬ 46 < Kd (pp Kd n 3 d t).2.1 := by rw [hkt]; decide
                  rw [if_pos hcmp] at hu
                  have ht1 : (pp Kd n 3 d t).2.1 + 1 < N := KEk hE kk5 hkt (by decide) (by decide)
                  obtain ⟨J, F, K2, C2, hM, j0, j3, j4, ⟨f0, f1, f2, f4⟩, hR, ⟨c5, c13, c6, c14⟩, hO⟩ := id hX
                  refine bg_bipush rfl ?_
                  refine bg_goto rfl ?_
                  refine bg_istore1 rfl rfl ?_
                  refine bg_iload1 rfl ?_
                  refine bg_iconst rfl ?_
                  refine bg_icmp_ne rfl (fun e170 => ?_) (fun e170 => absurd e170 (by decide))
                  refine bg_aload0 rfl ?_
                  refine bg_dup rfl rfl ?_
                  refine bg_getfield rfl rfl hM.Y (by rfl) ?_
                  refine bg_iconst rfl ?_
                  refine bg_iadd rfl ?_
                  refine bg_putfield rfl rfl hM.Y (by rfl) ⟨rfl, rfl⟩ (by rfl) (fun h182 f182 g182 => ?_)
                  rw [j3, nI_1] at f182
                  have hM := hM.j (J' := upd J 3 (nI ((pp Kd n 3 d t).2.1 + 1))) f182 g182 rfl
                  have hX : PR h0 y u v T P S K C Fx Kd N W (rcL nv (it ++ (pp Kd n 3 d t).2.2)) (opL (it ++ (pp Kd n 3 d t).2.2) 0) ((pp Kd n 3 d t).2.1 + 1) d h182 := ⟨_, F, K2, C2, hM, j0, rfl, j4, ⟨f0, f1, f2, f4⟩, RoL_0 hR kk5 (rof_0 (by rw [hkt]; decide)), ⟨c5, c13, c6, c14⟩, hO⟩
                  refine bg_aload0 rfl ?_
                  refine bg_virt0 rfl rfl rfl rfl ⟨_, hM.Y⟩ ?_
                  refine ih3 _ d ((pp Kd n 3 d t).2.1 + 1) (it ++ (pp Kd n 3 d t).2.2) _ _ _ _ hd ht1 (by rw [List.length_append]; omega) ⟨_, rfl, by rw [hkt]; decide⟩ (by omega) (by omega) hX (fun h4 b4 hb4 => bk_Ki ?_)
                  refine bg_if_ne rfl (fun e189 => ?_) (fun e189 => ?_)
                  · obtain ⟨-, r2, hX⟩ := hb4.resolve_right (fun z => e189 z.1)
                    have kk6 := pp_k hE n 3 d ((pp Kd n 3 d t).2.1 + 1) ht1
                    have kk7 := kk6.2.2.2
                    have kk8 := kk6.1
                    rw [sq_t r2] at hu
                    obtain ⟨J, F, K2, C2, hM, j0, j3, j4, ⟨f0, f1, f2, f4⟩, hR, ⟨c5, c13, c6, c14⟩, hO⟩ := id hX
                    refine bg_aload0 rfl ?_
                    refine bg_iload1 rfl ?_
                    refine bg_virt1 rfl rfl rfl rfl ⟨_, hM.Y⟩ ?_
                    refine rp_put (by rw [rcL_len]; have := lnL_le (it ++ (pp Kd n 3 d t).2.2 ++ (pp Kd n 3 d ((pp Kd n 3 d t).2.1 + 1)).2.2); rw [List.length_append, List.length_append] at this; omega) hX (fun h5 hX => bk_Kv ?_)
                    refine bg_iconst rfl ?_
                    refine bg_iret rfl rfl (by rfl) ?_
                    refine hQ h5 1 (Or.inl ⟨rfl, ?_⟩)
                    rw [hu]
                    refine ⟨rfl, ?_⟩
                    show PR h0 y u v T P S K C Fx Kd N W (rcL nv (it ++ ((pp Kd n 3 d t).2.2 ++ ((pp Kd n 3 d ((pp Kd n 3 d t).2.1 + 1)).2.2 ++ [(Kd (pp Kd n 3 d t).2.1, none)])))) (opL (it ++ ((pp Kd n 3 d t).2.2 ++ ((pp Kd n 3 d ((pp Kd n 3 d t).2.1 + 1)).2.2 ++ [(Kd (pp Kd n 3 d t).2.1, none)]))) 0) (pp Kd n 3 d ((pp Kd n 3 d t).2.1 + 1)).2.1 d h5
                    rw [← List.append_assoc, ← List.append_assoc, (rc_op (nv := nv)).1, (rc_op (nv := nv)).2, show oW (Kd (pp Kd n 3 d t).2.1) = 40 from by rw [hkt]; decide]
                    exact hX
                  · obtain ⟨-, r2, hX⟩ := hb4.resolve_left (fun z => absurd (z.1.symm.trans e189) (by decide))
                    rw [sq_f r2] at hu
                    refine bg_iconst rfl ?_
                    refine bg_iret rfl rfl (by rfl) ?_
                    refine hQ h4 0 (Or.inr ⟨rfl, ?_⟩)
                    rw [hu]
                    exact ⟨r2, hX⟩
              · have hkt := e143
                have hcmp : ¬ Kd (pp Kd n 3 d t).2.1 < 42 ∧ ¬ 46 < Kd (pp Kd n 3 d t).2.1 := by rw [hkt]; decide
                rw [if_pos hcmp] at hu
                have ht1 : (pp Kd n 3 d t).2.1 + 1 < N := KEk hE kk5 hkt (by decide) (by decide)
                obtain ⟨J, F, K2, C2, hM, j0, j3, j4, ⟨f0, f1, f2, f4⟩, hR, ⟨c5, c13, c6, c14⟩, hO⟩ := id hX
                refine bg_bipush rfl ?_
                refine bg_goto rfl ?_
                refine bg_istore1 rfl rfl ?_
                refine bg_iload1 rfl ?_
                refine bg_iconst rfl ?_
                refine bg_icmp_ne rfl (fun e170 => ?_) (fun e170 => absurd e170 (by decide))
                refine bg_aload0 rfl ?_
                refine bg_dup rfl rfl ?_
                refine bg_getfield rfl rfl hM.Y (by rfl) ?_
                refine bg_iconst rfl ?_
                refine bg_iadd rfl ?_
                refine bg_putfield rfl rfl hM.Y (by rfl) ⟨rfl, rfl⟩ (by rfl) (fun h182 f182 g182 => ?_)
                rw [j3, nI_1] at f182
                have hM := hM.j (J' := upd J 3 (nI ((pp Kd n 3 d t).2.1 + 1))) f182 g182 rfl
                have hX : PR h0 y u v T P S K C Fx Kd N W (rcL nv (it ++ (pp Kd n 3 d t).2.2)) (opL (it ++ (pp Kd n 3 d t).2.2) 0) ((pp Kd n 3 d t).2.1 + 1) d h182 := ⟨_, F, K2, C2, hM, j0, rfl, j4, ⟨f0, f1, f2, f4⟩, RoL_0 hR kk5 (rof_0 (by rw [hkt]; decide)), ⟨c5, c13, c6, c14⟩, hO⟩
                refine bg_aload0 rfl ?_
                refine bg_virt0 rfl rfl rfl rfl ⟨_, hM.Y⟩ ?_
                refine ih3 _ d ((pp Kd n 3 d t).2.1 + 1) (it ++ (pp Kd n 3 d t).2.2) _ _ _ _ hd ht1 (by rw [List.length_append]; omega) ⟨_, rfl, by rw [hkt]; decide⟩ (by omega) (by omega) hX (fun h4 b4 hb4 => bk_Ki ?_)
                refine bg_if_ne rfl (fun e189 => ?_) (fun e189 => ?_)
                · obtain ⟨-, r2, hX⟩ := hb4.resolve_right (fun z => e189 z.1)
                  have kk6 := pp_k hE n 3 d ((pp Kd n 3 d t).2.1 + 1) ht1
                  have kk7 := kk6.2.2.2
                  have kk8 := kk6.1
                  rw [sq_t r2] at hu
                  obtain ⟨J, F, K2, C2, hM, j0, j3, j4, ⟨f0, f1, f2, f4⟩, hR, ⟨c5, c13, c6, c14⟩, hO⟩ := id hX
                  refine bg_aload0 rfl ?_
                  refine bg_iload1 rfl ?_
                  refine bg_virt1 rfl rfl rfl rfl ⟨_, hM.Y⟩ ?_
                  refine rp_put (by rw [rcL_len]; have := lnL_le (it ++ (pp Kd n 3 d t).2.2 ++ (pp Kd n 3 d ((pp Kd n 3 d t).2.1 + 1)).2.2); rw [List.length_append, List.length_append] at this; omega) hX (fun h5 hX => bk_Kv ?_)
                  refine bg_iconst rfl ?_
                  refine bg_iret rfl rfl (by rfl) ?_
                  refine hQ h5 1 (Or.inl ⟨rfl, ?_⟩)
                  rw [hu]
                  refine ⟨rfl, ?_⟩
                  show PR h0 y u v T P S K C Fx Kd N W (rcL nv (it ++ ((pp Kd n 3 d t).2.2 ++ ((pp Kd n 3 d ((pp Kd n 3 d t).2.1 + 1)).2.2 ++ [(Kd (pp Kd n 3 d t).2.1, none)])))) (opL (it ++ ((pp Kd n 3 d t).2.2 ++ ((pp Kd n 3 d ((pp Kd n 3 d t).2.1 + 1)).2.2 ++ [(Kd (pp Kd n 3 d t).2.1, none)]))) 0) (pp Kd n 3 d ((pp Kd n 3 d t).2.1 + 1)).2.1 d h5
                  rw [← List.append_assoc, ← List.append_assoc, (rc_op (nv := nv)).1, (rc_op (nv := nv)).2, show oW (Kd (pp Kd n 3 d t).2.1) = 39 from by rw [hkt]; decide]
                  exact hX
                · obtain ⟨-, r2, hX⟩ := hb4.resolve_left (fun z => absurd (z.1.symm.trans e189) (by decide))
                  rw [sq_f r2] at hu
                  refine bg_iconst rfl ?_
                  refine bg_iret rfl rfl (by rfl) ?_
                  refine hQ h4 0 (Or.inr ⟨rfl, ?_⟩)
                  rw [hu]
                  exact ⟨r2, hX⟩
            · have hkt := e128
              have hcmp : ¬ Kd (pp Kd n 3 d t).2.1 < 42 ∧ ¬ 46 < Kd (pp Kd n 3 d t).2.1 := by rw [hkt]; decide
              rw [if_pos hcmp] at hu
              have ht1 : (pp Kd n 3 d t).2.1 + 1 < N := KEk hE kk5 hkt (by decide) (by decide)
              obtain ⟨J, F, K2, C2, hM, j0, j3, j4, ⟨f0, f1, f2, f4⟩, hR, ⟨c5, c13, c6, c14⟩, hO⟩ := id hX
              refine bg_bipush rfl ?_
              refine bg_goto rfl ?_
              refine bg_istore1 rfl rfl ?_
              refine bg_iload1 rfl ?_
              refine bg_iconst rfl ?_
              refine bg_icmp_ne rfl (fun e170 => ?_) (fun e170 => absurd e170 (by decide))
              refine bg_aload0 rfl ?_
              refine bg_dup rfl rfl ?_
              refine bg_getfield rfl rfl hM.Y (by rfl) ?_
              refine bg_iconst rfl ?_
              refine bg_iadd rfl ?_
              refine bg_putfield rfl rfl hM.Y (by rfl) ⟨rfl, rfl⟩ (by rfl) (fun h182 f182 g182 => ?_)
              rw [j3, nI_1] at f182
              have hM := hM.j (J' := upd J 3 (nI ((pp Kd n 3 d t).2.1 + 1))) f182 g182 rfl
              have hX : PR h0 y u v T P S K C Fx Kd N W (rcL nv (it ++ (pp Kd n 3 d t).2.2)) (opL (it ++ (pp Kd n 3 d t).2.2) 0) ((pp Kd n 3 d t).2.1 + 1) d h182 := ⟨_, F, K2, C2, hM, j0, rfl, j4, ⟨f0, f1, f2, f4⟩, RoL_0 hR kk5 (rof_0 (by rw [hkt]; decide)), ⟨c5, c13, c6, c14⟩, hO⟩
              refine bg_aload0 rfl ?_
              refine bg_virt0 rfl rfl rfl rfl ⟨_, hM.Y⟩ ?_
              refine ih3 _ d ((pp Kd n 3 d t).2.1 + 1) (it ++ (pp Kd n 3 d t).2.2) _ _ _ _ hd ht1 (by rw [List.length_append]; omega) ⟨_, rfl, by rw [hkt]; decide⟩ (by omega) (by omega) hX (fun h4 b4 hb4 => bk_Ki ?_)
              refine bg_if_ne rfl (fun e189 => ?_) (fun e189 => ?_)
              · obtain ⟨-, r2, hX⟩ := hb4.resolve_right (fun z => e189 z.1)
                have kk6 := pp_k hE n 3 d ((pp Kd n 3 d t).2.1 + 1) ht1
                have kk7 := kk6.2.2.2
                have kk8 := kk6.1
                rw [sq_t r2] at hu
                obtain ⟨J, F, K2, C2, hM, j0, j3, j4, ⟨f0, f1, f2, f4⟩, hR, ⟨c5, c13, c6, c14⟩, hO⟩ := id hX
                refine bg_aload0 rfl ?_
                refine bg_iload1 rfl ?_
                refine bg_virt1 rfl rfl rfl rfl ⟨_, hM.Y⟩ ?_
                refine rp_put (by rw [rcL_len]; have := lnL_le (it ++ (pp Kd n 3 d t).2.2 ++ (pp Kd n 3 d ((pp Kd n 3 d t).2.1 + 1)).2.2); rw [List.length_append, List.length_append] at this; omega) hX (fun h5 hX => bk_Kv ?_)
                refine bg_iconst rfl ?_
                refine bg_iret rfl rfl (by rfl) ?_
                refine hQ h5 1 (Or.inl ⟨rfl, ?_⟩)
                rw [hu]
                refine ⟨rfl, ?_⟩
                show PR h0 y u v T P S K C Fx Kd N W (rcL nv (it ++ ((pp Kd n 3 d t).2.2 ++ ((pp Kd n 3 d ((pp Kd n 3 d t).2.1 + 1)).2.2 ++ [(Kd (pp Kd n 3 d t).2.1, none)])))) (opL (it ++ ((pp Kd n 3 d t).2.2 ++ ((pp Kd n 3 d ((pp Kd n 3 d t).2.1 + 1)).2.2 ++ [(Kd (pp Kd n 3 d t).2.1, none)]))) 0) (pp Kd n 3 d ((pp Kd n 3 d t).2.1 + 1)).2.1 d h5
                rw [← List.append_assoc, ← List.append_assoc, (rc_op (nv := nv)).1, (rc_op (nv := nv)).2, show oW (Kd (pp Kd n 3 d t).2.1) = 38 from by rw [hkt]; decide]
                exact hX
              · obtain ⟨-, r2, hX⟩ := hb4.resolve_left (fun z => absurd (z.1.symm.trans e189) (by decide))
                rw [sq_f r2] at hu
                refine bg_iconst rfl ?_
                refine bg_iret rfl rfl (by rfl) ?_
                refine hQ h4 0 (Or.inr ⟨rfl, ?_⟩)
                rw [hu]
                exact ⟨r2, hX⟩
          · have hkt := e114
            have hcmp : ¬ Kd (pp Kd n 3 d t).2.1 < 42 ∧ ¬ 46 < Kd (pp Kd n 3 d t).2.1 := by rw [hkt]; decide
            rw [if_pos hcmp] at hu
            have ht1 : (pp Kd n 3 d t).2.1 + 1 < N := KEk hE kk5 hkt (by decide) (by decide)
            obtain ⟨J, F, K2, C2, hM, j0, j3, j4, ⟨f0, f1, f2, f4⟩, hR, ⟨c5, c13, c6, c14⟩, hO⟩ := id hX
            refine bg_bipush rfl ?_
            refine bg_goto rfl ?_
            refine bg_istore1 rfl rfl ?_
            refine bg_iload1 rfl ?_
            refine bg_iconst rfl ?_
            refine bg_icmp_ne rfl (fun e170 => ?_) (fun e170 => absurd e170 (by decide))
            refine bg_aload0 rfl ?_
            refine bg_dup rfl rfl ?_
            refine bg_getfield rfl rfl hM.Y (by rfl) ?_
            refine bg_iconst rfl ?_
            refine bg_iadd rfl ?_
            refine bg_putfield rfl rfl hM.Y (by rfl) ⟨rfl, rfl⟩ (by rfl) (fun h182 f182 g182 => ?_)
            rw [j3, nI_1] at f182
            have hM := hM.j (J' := upd J 3 (nI ((pp Kd n 3 d t).2.1 + 1))) f182 g182 rfl
            have hX : PR h0 y u v T P S K C Fx Kd N W (rcL nv (it ++ (pp Kd n 3 d t).2.2)) (opL (it ++ (pp Kd n 3 d t).2.2) 0) ((pp Kd n 3 d t).2.1 + 1) d h182 := ⟨_, F, K2, C2, hM, j0, rfl, j4, ⟨f0, f1, f2, f4⟩, RoL_0 hR kk5 (rof_0 (by rw [hkt]; decide)), ⟨c5, c13, c6, c14⟩, hO⟩
            refine bg_aload0 rfl ?_
            refine bg_virt0 rfl rfl rfl rfl ⟨_, hM.Y⟩ ?_
            refine ih3 _ d ((pp Kd n 3 d t).2.1 + 1) (it ++ (pp Kd n 3 d t).2.2) _ _ _ _ hd ht1 (by rw [List.length_append]; omega) ⟨_, rfl, by rw [hkt]; decide⟩ (by omega) (by omega) hX (fun h4 b4 hb4 => bk_Ki ?_)
            refine bg_if_ne rfl (fun e189 => ?_) (fun e189 => ?_)
            · obtain ⟨-, r2, hX⟩ := hb4.resolve_right (fun z => e189 z.1)
              have kk6 := pp_k hE n 3 d ((pp Kd n 3 d t).2.1 + 1) ht1
              have kk7 := kk6.2.2.2
              have kk8 := kk6.1
              rw [sq_t r2] at hu
              obtain ⟨J, F, K2, C2, hM, j0, j3, j4, ⟨f0, f1, f2, f4⟩, hR, ⟨c5, c13, c6, c14⟩, hO⟩ := id hX
              refine bg_aload0 rfl ?_
              refine bg_iload1 rfl ?_
              refine bg_virt1 rfl rfl rfl rfl ⟨_, hM.Y⟩ ?_
              refine rp_put (by rw [rcL_len]; have := lnL_le (it ++ (pp Kd n 3 d t).2.2 ++ (pp Kd n 3 d ((pp Kd n 3 d t).2.1 + 1)).2.2); rw [List.length_append, List.length_append] at this; omega) hX (fun h5 hX => bk_Kv ?_)
              refine bg_iconst rfl ?_
              refine bg_iret rfl rfl (by rfl) ?_
              refine hQ h5 1 (Or.inl ⟨rfl, ?_⟩)
              rw [hu]
              refine ⟨rfl, ?_⟩
              show PR h0 y u v T P S K C Fx Kd N W (rcL nv (it ++ ((pp Kd n 3 d t).2.2 ++ ((pp Kd n 3 d ((pp Kd n 3 d t).2.1 + 1)).2.2 ++ [(Kd (pp Kd n 3 d t).2.1, none)])))) (opL (it ++ ((pp Kd n 3 d t).2.2 ++ ((pp Kd n 3 d ((pp Kd n 3 d t).2.1 + 1)).2.2 ++ [(Kd (pp Kd n 3 d t).2.1, none)]))) 0) (pp Kd n 3 d ((pp Kd n 3 d t).2.1 + 1)).2.1 d h5
              rw [← List.append_assoc, ← List.append_assoc, (rc_op (nv := nv)).1, (rc_op (nv := nv)).2, show oW (Kd (pp Kd n 3 d t).2.1) = 37 from by rw [hkt]; decide]
              exact hX
            · obtain ⟨-, r2, hX⟩ := hb4.resolve_left (fun z => absurd (z.1.symm.trans e189) (by decide))
              rw [sq_f r2] at hu
              refine bg_iconst rfl ?_
              refine bg_iret rfl rfl (by rfl) ?_
              refine hQ h4 0 (Or.inr ⟨rfl, ?_⟩)
              rw [hu]
              exact ⟨r2, hX⟩
        · have hkt := e100
          have hcmp : ¬ Kd (pp Kd n 3 d t).2.1 < 42 ∧ ¬ 46 < Kd (pp Kd n 3 d t).2.1 := by rw [hkt]; decide
          rw [if_pos hcmp] at hu
          have ht1 : (pp Kd n 3 d t).2.1 + 1 < N := KEk hE kk5 hkt (by decide) (by decide)
          obtain ⟨J, F, K2, C2, hM, j0, j3, j4, ⟨f0, f1, f2, f4⟩, hR, ⟨c5, c13, c6, c14⟩, hO⟩ := id hX
          refine bg_bipush rfl ?_
          refine bg_goto rfl ?_
          refine bg_istore1 rfl rfl ?_
          refine bg_iload1 rfl ?_
          refine bg_iconst rfl ?_
          refine bg_icmp_ne rfl (fun e170 => ?_) (fun e170 => absurd e170 (by decide))
          refine bg_aload0 rfl ?_
          refine bg_dup rfl rfl ?_
          refine bg_getfield rfl rfl hM.Y (by rfl) ?_
          refine bg_iconst rfl ?_
          refine bg_iadd rfl ?_
          refine bg_putfield rfl rfl hM.Y (by rfl) ⟨rfl, rfl⟩ (by rfl) (fun h182 f182 g182 => ?_)
          rw [j3, nI_1] at f182
          have hM := hM.j (J' := upd J 3 (nI ((pp Kd n 3 d t).2.1 + 1))) f182 g182 rfl
          have hX : PR h0 y u v T P S K C Fx Kd N W (rcL nv (it ++ (pp Kd n 3 d t).2.2)) (opL (it ++ (pp Kd n 3 d t).2.2) 0) ((pp Kd n 3 d t).2.1 + 1) d h182 := ⟨_, F, K2, C2, hM, j0, rfl, j4, ⟨f0, f1, f2, f4⟩, RoL_0 hR kk5 (rof_0 (by rw [hkt]; decide)), ⟨c5, c13, c6, c14⟩, hO⟩
          refine bg_aload0 rfl ?_
          refine bg_virt0 rfl rfl rfl rfl ⟨_, hM.Y⟩ ?_
          refine ih3 _ d ((pp Kd n 3 d t).2.1 + 1) (it ++ (pp Kd n 3 d t).2.2) _ _ _ _ hd ht1 (by rw [List.length_append]; omega) ⟨_, rfl, by rw [hkt]; decide⟩ (by omega) (by omega) hX (fun h4 b4 hb4 => bk_Ki ?_)
          refine bg_if_ne rfl (fun e189 => ?_) (fun e189 => ?_)
          · obtain ⟨-, r2, hX⟩ := hb4.resolve_right (fun z => e189 z.1)
            have kk6 := pp_k hE n 3 d ((pp Kd n 3 d t).2.1 + 1) ht1
            have kk7 := kk6.2.2.2
            have kk8 := kk6.1
            rw [sq_t r2] at hu
            obtain ⟨J, F, K2, C2, hM, j0, j3, j4, ⟨f0, f1, f2, f4⟩, hR, ⟨c5, c13, c6, c14⟩, hO⟩ := id hX
            refine bg_aload0 rfl ?_
            refine bg_iload1 rfl ?_
            refine bg_virt1 rfl rfl rfl rfl ⟨_, hM.Y⟩ ?_
            refine rp_put (by rw [rcL_len]; have := lnL_le (it ++ (pp Kd n 3 d t).2.2 ++ (pp Kd n 3 d ((pp Kd n 3 d t).2.1 + 1)).2.2); rw [List.length_append, List.length_append] at this; omega) hX (fun h5 hX => bk_Kv ?_)
            refine bg_iconst rfl ?_
            refine bg_iret rfl rfl (by rfl) ?_
            refine hQ h5 1 (Or.inl ⟨rfl, ?_⟩)
            rw [hu]
            refine ⟨rfl, ?_⟩
            show PR h0 y u v T P S K C Fx Kd N W (rcL nv (it ++ ((pp Kd n 3 d t).2.2 ++ ((pp Kd n 3 d ((pp Kd n 3 d t).2.1 + 1)).2.2 ++ [(Kd (pp Kd n 3 d t).2.1, none)])))) (opL (it ++ ((pp Kd n 3 d t).2.2 ++ ((pp Kd n 3 d ((pp Kd n 3 d t).2.1 + 1)).2.2 ++ [(Kd (pp Kd n 3 d t).2.1, none)]))) 0) (pp Kd n 3 d ((pp Kd n 3 d t).2.1 + 1)).2.1 d h5
            rw [← List.append_assoc, ← List.append_assoc, (rc_op (nv := nv)).1, (rc_op (nv := nv)).2, show oW (Kd (pp Kd n 3 d t).2.1) = 36 from by rw [hkt]; decide]
            exact hX
          · obtain ⟨-, r2, hX⟩ := hb4.resolve_left (fun z => absurd (z.1.symm.trans e189) (by decide))
            rw [sq_f r2] at hu
            refine bg_iconst rfl ?_
            refine bg_iret rfl rfl (by rfl) ?_
            refine hQ h4 0 (Or.inr ⟨rfl, ?_⟩)
            rw [hu]
            exact ⟨r2, hX⟩
      · obtain ⟨-, r1, hX⟩ := hb3.resolve_left (fun z => absurd (z.1.symm.trans e89) (by decide))
        rw [sq_f r1] at hu
        refine bg_iconst rfl ?_
        refine bg_iret rfl rfl (by rfl) ?_
        refine hQ h3 0 (Or.inr ⟨rfl, ?_⟩)
        rw [hu]
        exact ⟨r1, hX⟩
    · have hk1 : Kd t = 34 := e49
      have ht1 : t + 1 < N := KEk hE ht hk1 (by decide) (by decide)
      have hu : pp Kd (n + 1) 5 d t = (if d < 8 then sq (pp Kd n 8 (d + 1) (t + 1)) (tk1 Kd 35) else no t) := (if_neg k1).trans (if_pos hk1)
      have hpv1 : pvK Kd (t + 1) := ⟨t, rfl, by rw [hk1]; decide⟩
      refine bg_aload0 rfl ?_
      refine bg_virt0 rfl rfl rfl rfl ⟨_, hM.Y⟩ ?_
      refine rq_deeper hd (rof_0 (by rw [hk1]; decide)) hF ht hX (fun h1 b1 hb1 => bk_Ki ?_)
      refine bg_if_eq rfl (fun e56 => ?_) (fun e56 => ?_)
      · obtain ⟨-, hd8, hX⟩ := hb1.resolve_left (fun z => absurd (z.1.symm.trans e56) (by decide))
        rw [if_neg hd8] at hu
        refine bg_iconst rfl ?_
        refine bg_iret rfl rfl (by rfl) ?_
        first
          | (have hX2 := hX.e
             refine hQ h1 0 (Or.inr ⟨rfl, ?_⟩)
             rw [hu]
             exact ⟨Bool.false_ne_true, hX2⟩)
          | (refine hQ h3 0 (Or.inr ⟨rfl, ?_⟩)
             rw [hu]
             exact ⟨r1, hX⟩)
      · obtain ⟨-, hd8, hX⟩ := hb1.resolve_right (fun z => e56 z.1)
        rw [if_pos hd8] at hu
        obtain ⟨J, F, K2, C2, hM, j0, j3, j4, ⟨f0, f1, f2, f4⟩, hR, ⟨c5, c13, c6, c14⟩, hO⟩ := id hX
        refine bg_aload0 rfl ?_
        refine bg_virt0 rfl rfl rfl rfl ⟨_, hM.Y⟩ ?_
        refine ih8 _ (d + 1) (t + 1) it _ _ _ _ (by omega) ht1 (by omega) hpv1 (by omega) (by omega) hX (fun h3 b3 hb3 => bk_Ki ?_)
        refine bg_if_ne rfl (fun e63 => ?_) (fun e63 => ?_)
        · obtain ⟨-, r1, hX⟩ := hb3.resolve_right (fun z => e63 z.1)
          rw [sq_t r1] at hu
          have kk1 := pp_k hE n 8 (d + 1) (t + 1) ht1
          have kk5 := kk1.1
          obtain ⟨J, F, K2, C2, hM, j0, j3, j4, ⟨f0, f1, f2, f4⟩, hR, ⟨c5, c13, c6, c14⟩, hO⟩ := id hX
          refine bg_aload0 rfl ?_
          refine bg_dup rfl rfl ?_
          refine bg_getfield rfl rfl hM.Y (by rfl) ?_
          refine bg_iconst rfl ?_
          refine bg_isub rfl ?_
          refine bg_putfield rfl rfl hM.Y (by rfl) ⟨rfl, rfl⟩ (by rfl) (fun h75 f75 g75 => ?_)
          rw [j4, nI_dn] at f75
          have hM := hM.j (J' := upd J 4 (nI d)) f75 g75 rfl
          have hX : PR h0 y u v T P S K C Fx Kd N W (rcL nv (it ++ (pp Kd n 8 (d + 1) (t + 1)).2.2)) (opL (it ++ (pp Kd n 8 (d + 1) (t + 1)).2.2) 0) (pp Kd n 8 (d + 1) (t + 1)).2.1 d h75 := ⟨_, F, K2, C2, hM, j0, j3, rfl, ⟨f0, f1, f2, f4⟩, hR, ⟨c5, c13, c6, c14⟩, hO⟩
          
          refine bg_aload0 rfl ?_
          refine bg_bipush rfl ?_
          refine bg_virt1 rfl rfl rfl rfl ⟨_, hM.Y⟩ ?_
          refine rq_eatSign (wKe (k := 35) 35 (by decide) (by decide) (by decide)) (fun z => rof_0 (by rw [z]; decide)) hF kk5 hX (fun h4 b4 hb4 => bk_Ki ?_)
          refine bg_iret rfl rfl (by rcases hb4 with ⟨e, _⟩ | ⟨e, _⟩ <;> rw [e] <;> rfl) ?_
          refine hQ h4 b4 ?_
          rw [hu]
          unfold tk1
          rcases hb4 with ⟨e, z, hx⟩ | ⟨e, z, hx⟩
          · rw [if_pos z]
            refine Or.inl ⟨e, rfl, ?_⟩
            show PR h0 y u v T P S K C Fx Kd N W (rcL nv (it ++ ((pp Kd n 8 (d + 1) (t + 1)).2.2 ++ []))) (opL (it ++ ((pp Kd n 8 (d + 1) (t + 1)).2.2 ++ [])) 0) ((pp Kd n 8 (d + 1) (t + 1)).2.1 + 1) d h4
            rw [List.append_nil]
            exact hx
          · rw [if_neg z]
            exact Or.inr ⟨e, Bool.false_ne_true, hx.e⟩
        · obtain ⟨-, r1, hX⟩ := hb3.resolve_left (fun z => absurd (z.1.symm.trans e63) (by decide))
          rw [sq_f r1] at hu
          refine bg_iconst rfl ?_
          refine bg_iret rfl rfl (by rfl) ?_
          first
            | (have hX2 := hX.e
               refine hQ h1 0 (Or.inr ⟨rfl, ?_⟩)
               rw [hu]
               exact ⟨Bool.false_ne_true, hX2⟩)
            | (refine hQ h3 0 (Or.inr ⟨rfl, ?_⟩)
               rw [hu]
               exact ⟨r1, hX⟩)
  · have hk1 : Kd t = 25 := e6
    have ht1 : t + 1 < N := KEk hE ht hk1 (by decide) (by decide)
    have hu : pp Kd (n + 1) 5 d t = (if d < 8 then sq (pp Kd n 5 (d + 1) (t + 1)) (em 25 none) else no t) := if_pos hk1
    have hpv1 : pvK Kd (t + 1) := ⟨t, rfl, by rw [hk1]; decide⟩
    refine bg_aload0 rfl ?_
    refine bg_virt0 rfl rfl rfl rfl ⟨_, hM.Y⟩ ?_
    refine rq_deeper hd (rof_0 (by rw [hk1]; decide)) hF ht hX (fun h1 b1 hb1 => bk_Ki ?_)
    refine bg_if_eq rfl (fun e13 => ?_) (fun e13 => ?_)
    · obtain ⟨-, hd8, hX⟩ := hb1.resolve_left (fun z => absurd (z.1.symm.trans e13) (by decide))
      rw [if_neg hd8] at hu
      refine bg_iconst rfl ?_
      refine bg_iret rfl rfl (by rfl) ?_
      first
        | (have hX2 := hX.e
           refine hQ h1 0 (Or.inr ⟨rfl, ?_⟩)
           rw [hu]
           exact ⟨Bool.false_ne_true, hX2⟩)
        | (refine hQ h3 0 (Or.inr ⟨rfl, ?_⟩)
           rw [hu]
           exact ⟨r1, hX⟩)
    · obtain ⟨-, hd8, hX⟩ := hb1.resolve_right (fun z => e13 z.1)
      rw [if_pos hd8] at hu
      obtain ⟨J, F, K2, C2, hM, j0, j3, j4, ⟨f0, f1, f2, f4⟩, hR, ⟨c5, c13, c6, c14⟩, hO⟩ := id hX
      refine bg_aload0 rfl ?_
      refine bg_virt0 rfl rfl rfl rfl ⟨_, hM.Y⟩ ?_
      refine ih5 _ (d + 1) (t + 1) it _ _ _ _ (by omega) ht1 (by omega) hpv1 (by omega) (by omega) hX (fun h3 b3 hb3 => bk_Ki ?_)
      refine bg_if_ne rfl (fun e20 => ?_) (fun e20 => ?_)
      · obtain ⟨-, r1, hX⟩ := hb3.resolve_right (fun z => e20 z.1)
        rw [sq_t r1] at hu
        have kk1 := pp_k hE n 5 (d + 1) (t + 1) ht1
        have kk4 := kk1.2.2.2
        have kk5 := kk1.1
        obtain ⟨J, F, K2, C2, hM, j0, j3, j4, ⟨f0, f1, f2, f4⟩, hR, ⟨c5, c13, c6, c14⟩, hO⟩ := id hX
        refine bg_aload0 rfl ?_
        refine bg_dup rfl rfl ?_
        refine bg_getfield rfl rfl hM.Y (by rfl) ?_
        refine bg_iconst rfl ?_
        refine bg_isub rfl ?_
        refine bg_putfield rfl rfl hM.Y (by rfl) ⟨rfl, rfl⟩ (by rfl) (fun h32 f32 g32 => ?_)
        rw [j4, nI_dn] at f32
        have hM := hM.j (J' := upd J 4 (nI d)) f32 g32 rfl
        have hX : PR h0 y u v T P S K C Fx Kd N W (rcL nv (it ++ (pp Kd n 5 (d + 1) (t + 1)).2.2)) (opL (it ++ (pp Kd n 5 (d + 1) (t + 1)).2.2) 0) (pp Kd n 5 (d + 1) (t + 1)).2.1 d h32 := ⟨_, F, K2, C2, hM, j0, j3, rfl, ⟨f0, f1, f2, f4⟩, hR, ⟨c5, c13, c6, c14⟩, hO⟩
        
        refine bg_aload0 rfl ?_
        refine bg_bipush rfl ?_
        refine bg_virt1 rfl rfl rfl rfl ⟨_, hM.Y⟩ ?_
        refine rp_put (by rw [rcL_len]; have := lnL_le (it ++ (pp Kd n 5 (d + 1) (t + 1)).2.2); rw [List.length_append] at this; omega) hX (fun h4 hX => bk_Kv ?_)
        refine bg_iconst rfl ?_
        refine bg_iret rfl rfl (by rfl) ?_
        refine hQ h4 1 (Or.inl ⟨rfl, ?_⟩)
        rw [hu]
        refine ⟨rfl, ?_⟩
        show PR h0 y u v T P S K C Fx Kd N W (rcL nv (it ++ ((pp Kd n 5 (d + 1) (t + 1)).2.2 ++ [(25, none)]))) (opL (it ++ ((pp Kd n 5 (d + 1) (t + 1)).2.2 ++ [(25, none)])) 0) (pp Kd n 5 (d + 1) (t + 1)).2.1 d h4
        rw [← List.append_assoc, (rc_op (nv := nv)).1, (rc_op (nv := nv)).2]
        exact hX
      · obtain ⟨-, r1, hX⟩ := hb3.resolve_left (fun z => absurd (z.1.symm.trans e20) (by decide))
        rw [sq_f r1] at hu
        refine bg_iconst rfl ?_
        refine bg_iret rfl rfl (by rfl) ?_
        first
          | (have hX2 := hX.e
             refine hQ h1 0 (Or.inr ⟨rfl, ?_⟩)
             rw [hu]
             exact ⟨Bool.false_ne_true, hX2⟩)
          | (refine hQ h3 0 (Or.inr ⟨rfl, ?_⟩)
             rw [hu]
             exact ⟨r1, hX⟩)
theorem rp_all (hF : FXk Fx Kd N) (hV : NVk Fx Kd N T nv) : ∀ n, (rpS V h0 y u v T P S K C Fx Kd N nv W (pp Kd n 0) 1 182 n) ∧ (rpS V h0 y u v T P S K C Fx Kd N nv W (pp Kd n 1) 2 181 n) ∧ (rpL V h0 y u v T P S K C Fx Kd N nv W (pp Kd n 2) 2 181 1 n) ∧ (rpS V h0 y u v T P S K C Fx Kd N nv W (pp Kd n 3) 3 180 n) ∧ (rpL V h0 y u v T P S K C Fx Kd N nv W (pp Kd n 4) 3 180 1 n) ∧ (rpS V h0 y u v T P S K C Fx Kd N nv W (pp Kd n 5) 4 179 n) ∧ (rpS V h0 y u v T P S K C Fx Kd N nv W (pp Kd n 6) 5 176 n) ∧ (rpL V h0 y u v T P S K C Fx Kd N nv W (pp Kd n 7) 5 176 0 n) ∧ (rpS V h0 y u v T P S K C Fx Kd N nv W (pp Kd n 8) 6 175 n) ∧ (rpL V h0 y u v T P S K C Fx Kd N nv W (pp Kd n 9) 6 175 0 n) := by
  intro n
  induction n with
  | zero =>
    have z1 : ∀ (pf : Nat → Nat → bR3) (w j : Nat), 1 ≤ w → rpS V h0 y u v T P S K C Fx Kd N nv W pf w j 0 := fun pf w j hw D d t it h nn B Q _ ht _ _ h8 => by omega
    have z2 : ∀ (pf : Nat → Nat → bR3) (w j k : Nat), rpL V h0 y u v T P S K C Fx Kd N nv W pf w j k 0 := fun pf w j k D d t it h nn B cs Q xt _ _ ht _ h8 => by omega
    exact ⟨z1 _ _ _ (by decide), z1 _ _ _ (by decide), z2 _ _ _ _, z1 _ _ _ (by decide), z2 _ _ _ _, z1 _ _ _ (by decide), z1 _ _ _ (by decide), z2 _ _ _ _, z1 _ _ _ (by decide), z2 _ _ _ _⟩
  | succ n ih =>
    obtain ⟨i0, i1, i2, i3, i4, i5, i6, i7, i8, i9⟩ := ih
    exact ⟨rp_value hF hV i0 i3, rp_mProd hF i0 i2, rp_lProd hF i0 i2, rp_mSum hF i1 i4, rp_lSum hF i1 i4, rp_single hF i3 i5 i8, rp_mBoth hF i5 i7, rp_lBoth hF i5 i7, rp_mTest hF i6 i9, rp_lTest hF i6 i9⟩
end MM
