/-! THE REFERENCE: reading sums and tests. Printed by wip/whole/mk80.py. -/
def rpL (V : bk_V) (h0 : bk_H) (y u v : Nat) (T : List Int32) (P : Nat → bT) (S : bS) (K : rI) (C Fx : rA) (Kd : Nat → Int32) (N : Nat) (nv : Nat → Int32) (W : rW) (pf : Nat → Nat → bR3) (w j k n : Nat) : Prop :=
  ∀ (D d t : Nat) (it : List bIt) (h : bk_H) (nn : Nat) (B cs : Nat × Nat) (Q : bk_R → bk_H → Nat → Prop) (xt : bk_L), xt.length = k → d ≤ 8 → t < N → it.length ≤ t → 8 * (N - t) + 1 ≤ n → 6 * (8 - d) + w + 5 ≤ D + 1 → PR h0 y u v T P S K C Fx Kd N W (rcL nv it) (opL it 0) t d h →
    (∀ (h' : bk_H) (b : Int32), (b = 1 ∧ (pf d t).1 = true ∧ PR h0 y u v T P S K C Fx Kd N W (rcL nv (it ++ (pf d t).2.2)) (opL (it ++ (pf d t).2.2) 0) (pf d t).2.1 d h') ∨ (b = 0 ∧ ¬ (pf d t).1 = true ∧ PE h0 y u v T P S K C Fx (pf d t).2.1 h') → Q (.inl (some (.int b))) h' nn) → bk_g V D j B Q 9 (some (.ref y) :: xt) [] h nn cs
section MM
variable {V : bk_V} {D n : Nat} {B : Nat × Nat} {Q : bk_R → bk_H → Nat → Prop} {h0 h : bk_H} {y u v t d N : Nat} {T : List Int32} {P : Nat → bT} {S : bS} {K J : rI} {C Fx : rA} {Kd : Nat → Int32} {nv : Nat → Int32} {W : rW} {cl : List Int32} {ol : List Nat} {it : List bIt} {cs : Nat × Nat}
theorem rp_lProd {n : Nat} (hF : FXk Fx Kd N) (ih1 : rpS V h0 y u v T P S K C Fx Kd N nv W (pp Kd n 0) 1 182 n) (ih2 : rpL V h0 y u v T P S K C Fx Kd N nv W (pp Kd n 2) 2 181 1 n) : rpL V h0 y u v T P S K C Fx Kd N nv W (pp Kd (n + 1) 2) 2 181 1 (n + 1) := by
  intro D d t it h nn B cs Q xt hxt hd ht hl hw hD hX hQ
  obtain ⟨D, rfl⟩ : ∃ D', D = D' + 5 := ⟨D - 5, by omega⟩
  have hNN := hF.2.2.1
  have hE := hF.2.2.2
  obtain ⟨x1, rfl⟩ : ∃ x1, xt = [x1] := by
    cases xt with
    | nil => exact nomatch hxt
    | cons x r =>
      cases r with
      | nil => exact ⟨x, rfl⟩
      | cons y r => exact nomatch hxt
  obtain ⟨J, F, K2, C2, hM, j0, j3, j4, ⟨f0, f1, f2, f4⟩, hR, ⟨c5, c13, c6, c14⟩, hO⟩ := id hX
  refine bg_aload0 rfl ?_
  refine bg_bipush rfl ?_
  refine bg_virt1 rfl rfl rfl rfl ⟨_, hM.Y⟩ ?_
  refine rp_isSign (wKe (k := 40) 40 (by decide) (by decide) (by decide)) hF ht hX (bk_Ki ?_)
  refine bg_ifne_b rfl (fun e15 => ?_) (fun e15 => ?_)
  · have hkt := e15
    have hk : Kd t = 40 ∨ Kd t = 41 := Or.inl hkt
    have ht1 : t + 1 < N := KEk hE ht hkt (by decide) (by decide)
    have hu : pp Kd (n + 1) 2 d t = sq (pp Kd n 0 d (t + 1)) (fun t1 => sq (em (Kd t) none t1) (pp Kd n 2 d)) := by
      show (if Kd t = 40 ∨ Kd t = 41 then _ else _) = _
      rw [if_pos hk]
    have kk1 := pp_k hE n 0 d (t + 1) ht1
    have kk4 := kk1.2.2.2
    have kk5 := kk1.1
    have hpv1 : pvK Kd (t + 1) := ⟨t, rfl, by rw [hkt]; decide⟩
    refine bg_aload0 rfl ?_
    refine bg_bipush rfl ?_
    refine bg_virt1 rfl rfl rfl rfl ⟨_, hM.Y⟩ ?_
    refine rp_isSign (wKe (k := 40) 40 (by decide) (by decide) (by decide)) hF ht hX (bk_Ki ?_)
    refine bg_ifeq_b rfl (fun e33 => (e33 hkt).elim) (fun e33 => ?_)
    refine bg_bipush rfl ?_
    refine bg_goto rfl ?_
    refine bg_istore1 rfl rfl ?_
    refine bg_aload0 rfl ?_
    refine bg_dup rfl rfl ?_
    refine bg_getfield rfl rfl hM.Y (by rfl) ?_
    refine bg_iconst rfl ?_
    refine bg_iadd rfl ?_
    refine bg_putfield rfl rfl hM.Y (by rfl) ⟨rfl, rfl⟩ (by rfl) (fun h51 f51 g51 => ?_)
    rw [j3, nI_1] at f51
    have hM := hM.j (J' := upd J 3 (nI (t + 1))) f51 g51 rfl
    have hX : PR h0 y u v T P S K C Fx Kd N W (rcL nv it) (opL it 0) (t + 1) d h51 := ⟨_, F, K2, C2, hM, j0, rfl, j4, ⟨f0, f1, f2, f4⟩, RoL_0 hR ht (rof_0 (by rw [hkt]; decide)), ⟨c5, c13, c6, c14⟩, hO⟩
    refine bg_aload0 rfl ?_
    refine bg_virt0 rfl rfl rfl rfl ⟨_, hM.Y⟩ ?_
    refine ih1 _ d (t + 1) it _ _ _ _ hd ht1 (by omega) hpv1 (by omega) (by omega) hX (fun h3 b3 hb3 => bk_Ki ?_)
    refine bg_if_ne rfl (fun e58 => ?_) (fun e58 => ?_)
    · obtain ⟨-, r1, hX⟩ := hb3.resolve_right (fun z => e58 z.1)
      have hu2 : pp Kd (n + 1) 2 d t = ((pp Kd n 2 d (pp Kd n 0 d (t + 1)).2.1).1, (pp Kd n 2 d (pp Kd n 0 d (t + 1)).2.1).2.1, (pp Kd n 0 d (t + 1)).2.2 ++ ([(Kd t, none)] ++ (pp Kd n 2 d (pp Kd n 0 d (t + 1)).2.1).2.2)) := hu.trans (by rw [sq_t r1]; rfl)
      have kk3 : t + 1 + 1 ≤ (pp Kd n 0 d (t + 1)).2.1 := kk1.2.2.1 r1
      obtain ⟨J, F, K2, C2, hM, j0, j3, j4, ⟨f0, f1, f2, f4⟩, hR, ⟨c5, c13, c6, c14⟩, hO⟩ := id hX
      refine bg_aload0 rfl ?_
      refine bg_iload1 rfl ?_
      refine bg_virt1 rfl rfl rfl rfl ⟨_, hM.Y⟩ ?_
      refine rp_put (by rw [rcL_len]; have := lnL_le (it ++ (pp Kd n 0 d (t + 1)).2.2); rw [List.length_append] at this; omega) hX (fun h4 hX => bk_Kv ?_)
      refine bg_goto rfl ?_
      have hX : PR h0 y u v T P S K C Fx Kd N W (rcL nv (it ++ (pp Kd n 0 d (t + 1)).2.2 ++ [(Kd t, none)])) (opL (it ++ (pp Kd n 0 d (t + 1)).2.2 ++ [(Kd t, none)]) 0) (pp Kd n 0 d (t + 1)).2.1 d h4 := by
        rw [(rc_op (nv := nv)).1, (rc_op (nv := nv)).2, show oW (Kd t) = 34 from by rw [hkt]; decide]
        exact hX
      refine ih2 _ d (pp Kd n 0 d (t + 1)).2.1 (it ++ (pp Kd n 0 d (t + 1)).2.2 ++ [(Kd t, none)]) _ _ B _ Q _ (by rfl) hd kk5 (by rw [List.length_append, List.length_append]; show _ + 1 ≤ _; omega) (by omega) (by omega) hX (fun h' b hb => hQ h' b ?_)
      rw [hu2]
      have e : it ++ ((pp Kd n 0 d (t + 1)).2.2 ++ ([(Kd t, none)] ++ (pp Kd n 2 d (pp Kd n 0 d (t + 1)).2.1).2.2)) = it ++ (pp Kd n 0 d (t + 1)).2.2 ++ [(Kd t, none)] ++ (pp Kd n 2 d (pp Kd n 0 d (t + 1)).2.1).2.2 := by simp only [List.append_assoc]
      rcases hb with ⟨e1, e2, hx⟩ | hb
      · refine Or.inl ⟨e1, e2, ?_⟩
        show PR h0 y u v T P S K C Fx Kd N W (rcL nv (it ++ ((pp Kd n 0 d (t + 1)).2.2 ++ ([(Kd t, none)] ++ (pp Kd n 2 d (pp Kd n 0 d (t + 1)).2.1).2.2)))) (opL (it ++ ((pp Kd n 0 d (t + 1)).2.2 ++ ([(Kd t, none)] ++ (pp Kd n 2 d (pp Kd n 0 d (t + 1)).2.1).2.2))) 0) (pp Kd n 2 d (pp Kd n 0 d (t + 1)).2.1).2.1 d h'
        rw [e]
        exact hx
      · exact Or.inr hb
    · obtain ⟨-, r1, hX⟩ := hb3.resolve_left (fun z => absurd (z.1.symm.trans e58) (by decide))
      rw [sq_f r1] at hu
      refine bg_iconst rfl ?_
      refine bg_iret rfl rfl (by rfl) ?_
      refine hQ h3 0 (Or.inr ⟨rfl, ?_⟩)
      rw [hu]
      exact ⟨r1, hX⟩
  · refine bg_aload0 rfl ?_
    refine bg_bipush rfl ?_
    refine bg_virt1 rfl rfl rfl rfl ⟨_, hM.Y⟩ ?_
    refine rp_isSign (wKe (k := 41) 41 (by decide) (by decide) (by decide)) hF ht hX (bk_Ki ?_)
    refine bg_ifeq_b rfl (fun e24 => ?_) (fun e24 => ?_)
    · refine bg_iconst rfl ?_
      refine bg_iret rfl rfl (by rfl) ?_
      have hu : pp Kd (n + 1) 2 d t = (true, t, []) := if_neg (fun q => q.elim e15 e24)
      refine hQ h 1 (Or.inl ⟨rfl, ?_⟩)
      rw [hu]
      refine ⟨rfl, ?_⟩
      rw [show it ++ (true, t, ([] : List bIt)).2.2 = it from List.append_nil it]
      exact hX
    · have hkt := e24
      have hk : Kd t = 40 ∨ Kd t = 41 := Or.inr hkt
      have ht1 : t + 1 < N := KEk hE ht hkt (by decide) (by decide)
      have hu : pp Kd (n + 1) 2 d t = sq (pp Kd n 0 d (t + 1)) (fun t1 => sq (em (Kd t) none t1) (pp Kd n 2 d)) := by
        show (if Kd t = 40 ∨ Kd t = 41 then _ else _) = _
        rw [if_pos hk]
      have kk1 := pp_k hE n 0 d (t + 1) ht1
      have kk4 := kk1.2.2.2
      have kk5 := kk1.1
      have hpv1 : pvK Kd (t + 1) := ⟨t, rfl, by rw [hkt]; decide⟩
      refine bg_aload0 rfl ?_
      refine bg_bipush rfl ?_
      refine bg_virt1 rfl rfl rfl rfl ⟨_, hM.Y⟩ ?_
      refine rp_isSign (wKe (k := 40) 40 (by decide) (by decide) (by decide)) hF ht hX (bk_Ki ?_)
      refine bg_ifeq_b rfl (fun e33 => ?_) (fun e33 => absurd (hkt.symm.trans e33) (by decide))
      refine bg_bipush rfl ?_
      refine bg_istore1 rfl rfl ?_
      refine bg_aload0 rfl ?_
      refine bg_dup rfl rfl ?_
      refine bg_getfield rfl rfl hM.Y (by rfl) ?_
      refine bg_iconst rfl ?_
      refine bg_iadd rfl ?_
      refine bg_putfield rfl rfl hM.Y (by rfl) ⟨rfl, rfl⟩ (by rfl) (fun h51 f51 g51 => ?_)
      rw [j3, nI_1] at f51
      have hM := hM.j (J' := upd J 3 (nI (t + 1))) f51 g51 rfl
      have hX : PR h0 y u v T P S K C Fx Kd N W (rcL nv it) (opL it 0) (t + 1) d h51 := ⟨_, F, K2, C2, hM, j0, rfl, j4, ⟨f0, f1, f2, f4⟩, RoL_0 hR ht (rof_0 (by rw [hkt]; decide)), ⟨c5, c13, c6, c14⟩, hO⟩
      refine bg_aload0 rfl ?_
      refine bg_virt0 rfl rfl rfl rfl ⟨_, hM.Y⟩ ?_
      refine ih1 _ d (t + 1) it _ _ _ _ hd ht1 (by omega) hpv1 (by omega) (by omega) hX (fun h3 b3 hb3 => bk_Ki ?_)
      refine bg_if_ne rfl (fun e58 => ?_) (fun e58 => ?_)
      · obtain ⟨-, r1, hX⟩ := hb3.resolve_right (fun z => e58 z.1)
        have hu2 : pp Kd (n + 1) 2 d t = ((pp Kd n 2 d (pp Kd n 0 d (t + 1)).2.1).1, (pp Kd n 2 d (pp Kd n 0 d (t + 1)).2.1).2.1, (pp Kd n 0 d (t + 1)).2.2 ++ ([(Kd t, none)] ++ (pp Kd n 2 d (pp Kd n 0 d (t + 1)).2.1).2.2)) := hu.trans (by rw [sq_t r1]; rfl)
        have kk3 : t + 1 + 1 ≤ (pp Kd n 0 d (t + 1)).2.1 := kk1.2.2.1 r1
        obtain ⟨J, F, K2, C2, hM, j0, j3, j4, ⟨f0, f1, f2, f4⟩, hR, ⟨c5, c13, c6, c14⟩, hO⟩ := id hX
        refine bg_aload0 rfl ?_
        refine bg_iload1 rfl ?_
        refine bg_virt1 rfl rfl rfl rfl ⟨_, hM.Y⟩ ?_
        refine rp_put (by rw [rcL_len]; have := lnL_le (it ++ (pp Kd n 0 d (t + 1)).2.2); rw [List.length_append] at this; omega) hX (fun h4 hX => bk_Kv ?_)
        refine bg_goto rfl ?_
        have hX : PR h0 y u v T P S K C Fx Kd N W (rcL nv (it ++ (pp Kd n 0 d (t + 1)).2.2 ++ [(Kd t, none)])) (opL (it ++ (pp Kd n 0 d (t + 1)).2.2 ++ [(Kd t, none)]) 0) (pp Kd n 0 d (t + 1)).2.1 d h4 := by
          rw [(rc_op (nv := nv)).1, (rc_op (nv := nv)).2, show oW (Kd t) = 35 from by rw [hkt]; decide]
          exact hX
        refine ih2 _ d (pp Kd n 0 d (t + 1)).2.1 (it ++ (pp Kd n 0 d (t + 1)).2.2 ++ [(Kd t, none)]) _ _ B _ Q _ (by rfl) hd kk5 (by rw [List.length_append, List.length_append]; show _ + 1 ≤ _; omega) (by omega) (by omega) hX (fun h' b hb => hQ h' b ?_)
        rw [hu2]
        have e : it ++ ((pp Kd n 0 d (t + 1)).2.2 ++ ([(Kd t, none)] ++ (pp Kd n 2 d (pp Kd n 0 d (t + 1)).2.1).2.2)) = it ++ (pp Kd n 0 d (t + 1)).2.2 ++ [(Kd t, none)] ++ (pp Kd n 2 d (pp Kd n 0 d (t + 1)).2.1).2.2 := by simp only [List.append_assoc]
        rcases hb with ⟨e1, e2, hx⟩ | hb
        · refine Or.inl ⟨e1, e2, ?_⟩
          show PR h0 y u v T P S K C Fx Kd N W (rcL nv (it ++ ((pp Kd n 0 d (t + 1)).2.2 ++ ([(Kd t, none)] ++ (pp Kd n 2 d (pp Kd n 0 d (t + 1)).2.1).2.2)))) (opL (it ++ ((pp Kd n 0 d (t + 1)).2.2 ++ ([(Kd t, none)] ++ (pp Kd n 2 d (pp Kd n 0 d (t + 1)).2.1).2.2))) 0) (pp Kd n 2 d (pp Kd n 0 d (t + 1)).2.1).2.1 d h'
          rw [e]
          exact hx
        · exact Or.inr hb
      · obtain ⟨-, r1, hX⟩ := hb3.resolve_left (fun z => absurd (z.1.symm.trans e58) (by decide))
        rw [sq_f r1] at hu
        refine bg_iconst rfl ?_
        refine bg_iret rfl rfl (by rfl) ?_
        refine hQ h3 0 (Or.inr ⟨rfl, ?_⟩)
        rw [hu]
        exact ⟨r1, hX⟩

theorem rp_mProd {n : Nat} (hF : FXk Fx Kd N) (ih1 : rpS V h0 y u v T P S K C Fx Kd N nv W (pp Kd n 0) 1 182 n) (ih2 : rpL V h0 y u v T P S K C Fx Kd N nv W (pp Kd n 2) 2 181 1 n) : rpS V h0 y u v T P S K C Fx Kd N nv W (pp Kd (n + 1) 1) 2 181 (n + 1) := by
  intro D d t it h nn B Q hd ht hl hpv hw hD hX hQ
  obtain ⟨D, rfl⟩ : ∃ D', D = D' + 6 := ⟨D - 6, by omega⟩
  have hNN := hF.2.2.1
  have hE := hF.2.2.2
  obtain ⟨J, F, K2, C2, hM, j0, j3, j4, ⟨f0, f1, f2, f4⟩, hR, ⟨c5, c13, c6, c14⟩, hO⟩ := id hX
  have hu : pp Kd (n + 1) 1 d t = sq (pp Kd n 0 d t) (pp Kd n 2 d) := rfl
  have kk1 := pp_k hE n 0 d t ht
  have kk4 := kk1.2.2.2
  have kk5 := kk1.1
  refine bg_in rfl rfl ?_
  refine bg_aload0 rfl ?_
  refine bg_virt0 rfl rfl rfl rfl ⟨_, hM.Y⟩ ?_
  refine ih1 _ d t it _ _ _ _ hd ht hl hpv (by omega) (by omega) hX (fun h3 b3 hb3 => bk_Ki ?_)
  refine bg_if_ne rfl (fun e4 => ?_) (fun e4 => ?_)
  · obtain ⟨-, r1, hX⟩ := hb3.resolve_right (fun z => e4 z.1)
    rw [sq_t r1] at hu
    have kk3 : t + 1 ≤ (pp Kd n 0 d t).2.1 := kk1.2.2.1 r1
    refine ih2 _ d (pp Kd n 0 d t).2.1 (it ++ (pp Kd n 0 d t).2.2) _ _ B _ Q _ (by rfl) hd kk5 (by rw [List.length_append]; omega) (by omega) (by omega) hX (fun h' b hb => hQ h' b ?_)
    rw [hu]
    rcases hb with ⟨e1, e2, hx⟩ | hb
    · refine Or.inl ⟨e1, e2, ?_⟩
      show PR h0 y u v T P S K C Fx Kd N W (rcL nv (it ++ ((pp Kd n 0 d t).2.2 ++ (pp Kd n 2 d (pp Kd n 0 d t).2.1).2.2))) (opL (it ++ ((pp Kd n 0 d t).2.2 ++ (pp Kd n 2 d (pp Kd n 0 d t).2.1).2.2)) 0) (pp Kd n 2 d (pp Kd n 0 d t).2.1).2.1 d h'
      rw [← List.append_assoc]
      exact hx
    · exact Or.inr hb
  · obtain ⟨-, r1, hX⟩ := hb3.resolve_left (fun z => absurd (z.1.symm.trans e4) (by decide))
    rw [sq_f r1] at hu
    refine bg_iconst rfl ?_
    refine bg_iret rfl rfl (by rfl) ?_
    refine hQ h3 0 (Or.inr ⟨rfl, ?_⟩)
    rw [hu]
    exact ⟨r1, hX⟩
theorem rp_lSum {n : Nat} (hF : FXk Fx Kd N) (ih1 : rpS V h0 y u v T P S K C Fx Kd N nv W (pp Kd n 1) 2 181 n) (ih2 : rpL V h0 y u v T P S K C Fx Kd N nv W (pp Kd n 4) 3 180 1 n) : rpL V h0 y u v T P S K C Fx Kd N nv W (pp Kd (n + 1) 4) 3 180 1 (n + 1) := by
  intro D d t it h nn B cs Q xt hxt hd ht hl hw hD hX hQ
  obtain ⟨D, rfl⟩ : ∃ D', D = D' + 5 := ⟨D - 5, by omega⟩
  have hNN := hF.2.2.1
  have hE := hF.2.2.2
  obtain ⟨x1, rfl⟩ : ∃ x1, xt = [x1] := by
    cases xt with
    | nil => exact nomatch hxt
    | cons x r =>
      cases r with
      | nil => exact ⟨x, rfl⟩
      | cons y r => exact nomatch hxt
  obtain ⟨J, F, K2, C2, hM, j0, j3, j4, ⟨f0, f1, f2, f4⟩, hR, ⟨c5, c13, c6, c14⟩, hO⟩ := id hX
  refine bg_aload0 rfl ?_
  refine bg_bipush rfl ?_
  refine bg_virt1 rfl rfl rfl rfl ⟨_, hM.Y⟩ ?_
  refine rp_isSign (wKe (k := 38) 38 (by decide) (by decide) (by decide)) hF ht hX (bk_Ki ?_)
  refine bg_ifne_b rfl (fun e15 => ?_) (fun e15 => ?_)
  · have hkt := e15
    have hk : Kd t = 38 ∨ Kd t = 39 := Or.inl hkt
    have ht1 : t + 1 < N := KEk hE ht hkt (by decide) (by decide)
    have hu : pp Kd (n + 1) 4 d t = sq (pp Kd n 1 d (t + 1)) (fun t1 => sq (em (Kd t) none t1) (pp Kd n 4 d)) := by
      show (if Kd t = 38 ∨ Kd t = 39 then _ else _) = _
      rw [if_pos hk]
    have kk1 := pp_k hE n 1 d (t + 1) ht1
    have kk4 := kk1.2.2.2
    have kk5 := kk1.1
    have hpv1 : pvK Kd (t + 1) := ⟨t, rfl, by rw [hkt]; decide⟩
    refine bg_aload0 rfl ?_
    refine bg_bipush rfl ?_
    refine bg_virt1 rfl rfl rfl rfl ⟨_, hM.Y⟩ ?_
    refine rp_isSign (wKe (k := 38) 38 (by decide) (by decide) (by decide)) hF ht hX (bk_Ki ?_)
    refine bg_ifeq_b rfl (fun e33 => (e33 hkt).elim) (fun e33 => ?_)
    refine bg_bipush rfl ?_
    refine bg_goto rfl ?_
    refine bg_istore1 rfl rfl ?_
    refine bg_aload0 rfl ?_
    refine bg_dup rfl rfl ?_
    refine bg_getfield rfl rfl hM.Y (by rfl) ?_
    refine bg_iconst rfl ?_
    refine bg_iadd rfl ?_
    refine bg_putfield rfl rfl hM.Y (by rfl) ⟨rfl, rfl⟩ (by rfl) (fun h51 f51 g51 => ?_)
    rw [j3, nI_1] at f51
    have hM := hM.j (J' := upd J 3 (nI (t + 1))) f51 g51 rfl
    have hX : PR h0 y u v T P S K C Fx Kd N W (rcL nv it) (opL it 0) (t + 1) d h51 := ⟨_, F, K2, C2, hM, j0, rfl, j4, ⟨f0, f1, f2, f4⟩, RoL_0 hR ht (rof_0 (by rw [hkt]; decide)), ⟨c5, c13, c6, c14⟩, hO⟩
    refine bg_aload0 rfl ?_
    refine bg_virt0 rfl rfl rfl rfl ⟨_, hM.Y⟩ ?_
    refine ih1 _ d (t + 1) it _ _ _ _ hd ht1 (by omega) hpv1 (by omega) (by omega) hX (fun h3 b3 hb3 => bk_Ki ?_)
    refine bg_if_ne rfl (fun e58 => ?_) (fun e58 => ?_)
    · obtain ⟨-, r1, hX⟩ := hb3.resolve_right (fun z => e58 z.1)
      have hu2 : pp Kd (n + 1) 4 d t = ((pp Kd n 4 d (pp Kd n 1 d (t + 1)).2.1).1, (pp Kd n 4 d (pp Kd n 1 d (t + 1)).2.1).2.1, (pp Kd n 1 d (t + 1)).2.2 ++ ([(Kd t, none)] ++ (pp Kd n 4 d (pp Kd n 1 d (t + 1)).2.1).2.2)) := hu.trans (by rw [sq_t r1]; rfl)
      have kk3 : t + 1 + 1 ≤ (pp Kd n 1 d (t + 1)).2.1 := kk1.2.2.1 r1
      obtain ⟨J, F, K2, C2, hM, j0, j3, j4, ⟨f0, f1, f2, f4⟩, hR, ⟨c5, c13, c6, c14⟩, hO⟩ := id hX
      refine bg_aload0 rfl ?_
      refine bg_iload1 rfl ?_
      refine bg_virt1 rfl rfl rfl rfl ⟨_, hM.Y⟩ ?_
      refine rp_put (by rw [rcL_len]; have := lnL_le (it ++ (pp Kd n 1 d (t + 1)).2.2); rw [List.length_append] at this; omega) hX (fun h4 hX => bk_Kv ?_)
      refine bg_goto rfl ?_
      have hX : PR h0 y u v T P S K C Fx Kd N W (rcL nv (it ++ (pp Kd n 1 d (t + 1)).2.2 ++ [(Kd t, none)])) (opL (it ++ (pp Kd n 1 d (t + 1)).2.2 ++ [(Kd t, none)]) 0) (pp Kd n 1 d (t + 1)).2.1 d h4 := by
        rw [(rc_op (nv := nv)).1, (rc_op (nv := nv)).2, show oW (Kd t) = 32 from by rw [hkt]; decide]
        exact hX
      refine ih2 _ d (pp Kd n 1 d (t + 1)).2.1 (it ++ (pp Kd n 1 d (t + 1)).2.2 ++ [(Kd t, none)]) _ _ B _ Q _ (by rfl) hd kk5 (by rw [List.length_append, List.length_append]; show _ + 1 ≤ _; omega) (by omega) (by omega) hX (fun h' b hb => hQ h' b ?_)
      rw [hu2]
      have e : it ++ ((pp Kd n 1 d (t + 1)).2.2 ++ ([(Kd t, none)] ++ (pp Kd n 4 d (pp Kd n 1 d (t + 1)).2.1).2.2)) = it ++ (pp Kd n 1 d (t + 1)).2.2 ++ [(Kd t, none)] ++ (pp Kd n 4 d (pp Kd n 1 d (t + 1)).2.1).2.2 := by simp only [List.append_assoc]
      rcases hb with ⟨e1, e2, hx⟩ | hb
      · refine Or.inl ⟨e1, e2, ?_⟩
        show PR h0 y u v T P S K C Fx Kd N W (rcL nv (it ++ ((pp Kd n 1 d (t + 1)).2.2 ++ ([(Kd t, none)] ++ (pp Kd n 4 d (pp Kd n 1 d (t + 1)).2.1).2.2)))) (opL (it ++ ((pp Kd n 1 d (t + 1)).2.2 ++ ([(Kd t, none)] ++ (pp Kd n 4 d (pp Kd n 1 d (t + 1)).2.1).2.2))) 0) (pp Kd n 4 d (pp Kd n 1 d (t + 1)).2.1).2.1 d h'
        rw [e]
        exact hx
      · exact Or.inr hb
    · obtain ⟨-, r1, hX⟩ := hb3.resolve_left (fun z => absurd (z.1.symm.trans e58) (by decide))
      rw [sq_f r1] at hu
      refine bg_iconst rfl ?_
      refine bg_iret rfl rfl (by rfl) ?_
      refine hQ h3 0 (Or.inr ⟨rfl, ?_⟩)
      rw [hu]
      exact ⟨r1, hX⟩
  · refine bg_aload0 rfl ?_
    refine bg_bipush rfl ?_
    refine bg_virt1 rfl rfl rfl rfl ⟨_, hM.Y⟩ ?_
    refine rp_isSign (wKe (k := 39) 39 (by decide) (by decide) (by decide)) hF ht hX (bk_Ki ?_)
    refine bg_ifeq_b rfl (fun e24 => ?_) (fun e24 => ?_)
    · refine bg_iconst rfl ?_
      refine bg_iret rfl rfl (by rfl) ?_
      have hu : pp Kd (n + 1) 4 d t = (true, t, []) := if_neg (fun q => q.elim e15 e24)
      refine hQ h 1 (Or.inl ⟨rfl, ?_⟩)
      rw [hu]
      refine ⟨rfl, ?_⟩
      rw [show it ++ (true, t, ([] : List bIt)).2.2 = it from List.append_nil it]
      exact hX
    · have hkt := e24
      have hk : Kd t = 38 ∨ Kd t = 39 := Or.inr hkt
      have ht1 : t + 1 < N := KEk hE ht hkt (by decide) (by decide)
      have hu : pp Kd (n + 1) 4 d t = sq (pp Kd n 1 d (t + 1)) (fun t1 => sq (em (Kd t) none t1) (pp Kd n 4 d)) := by
        show (if Kd t = 38 ∨ Kd t = 39 then _ else _) = _
        rw [if_pos hk]
      have kk1 := pp_k hE n 1 d (t + 1) ht1
      have kk4 := kk1.2.2.2
      have kk5 := kk1.1
      have hpv1 : pvK Kd (t + 1) := ⟨t, rfl, by rw [hkt]; decide⟩
      refine bg_aload0 rfl ?_
      refine bg_bipush rfl ?_
      refine bg_virt1 rfl rfl rfl rfl ⟨_, hM.Y⟩ ?_
      refine rp_isSign (wKe (k := 38) 38 (by decide) (by decide) (by decide)) hF ht hX (bk_Ki ?_)
      refine bg_ifeq_b rfl (fun e33 => ?_) (fun e33 => absurd (hkt.symm.trans e33) (by decide))
      refine bg_bipush rfl ?_
      refine bg_istore1 rfl rfl ?_
      refine bg_aload0 rfl ?_
      refine bg_dup rfl rfl ?_
      refine bg_getfield rfl rfl hM.Y (by rfl) ?_
      refine bg_iconst rfl ?_
      refine bg_iadd rfl ?_
      refine bg_putfield rfl rfl hM.Y (by rfl) ⟨rfl, rfl⟩ (by rfl) (fun h51 f51 g51 => ?_)
      rw [j3, nI_1] at f51
      have hM := hM.j (J' := upd J 3 (nI (t + 1))) f51 g51 rfl
      have hX : PR h0 y u v T P S K C Fx Kd N W (rcL nv it) (opL it 0) (t + 1) d h51 := ⟨_, F, K2, C2, hM, j0, rfl, j4, ⟨f0, f1, f2, f4⟩, RoL_0 hR ht (rof_0 (by rw [hkt]; decide)), ⟨c5, c13, c6, c14⟩, hO⟩
      refine bg_aload0 rfl ?_
      refine bg_virt0 rfl rfl rfl rfl ⟨_, hM.Y⟩ ?_
      refine ih1 _ d (t + 1) it _ _ _ _ hd ht1 (by omega) hpv1 (by omega) (by omega) hX (fun h3 b3 hb3 => bk_Ki ?_)
      refine bg_if_ne rfl (fun e58 => ?_) (fun e58 => ?_)
      · obtain ⟨-, r1, hX⟩ := hb3.resolve_right (fun z => e58 z.1)
        have hu2 : pp Kd (n + 1) 4 d t = ((pp Kd n 4 d (pp Kd n 1 d (t + 1)).2.1).1, (pp Kd n 4 d (pp Kd n 1 d (t + 1)).2.1).2.1, (pp Kd n 1 d (t + 1)).2.2 ++ ([(Kd t, none)] ++ (pp Kd n 4 d (pp Kd n 1 d (t + 1)).2.1).2.2)) := hu.trans (by rw [sq_t r1]; rfl)
        have kk3 : t + 1 + 1 ≤ (pp Kd n 1 d (t + 1)).2.1 := kk1.2.2.1 r1
        obtain ⟨J, F, K2, C2, hM, j0, j3, j4, ⟨f0, f1, f2, f4⟩, hR, ⟨c5, c13, c6, c14⟩, hO⟩ := id hX
        refine bg_aload0 rfl ?_
        refine bg_iload1 rfl ?_
        refine bg_virt1 rfl rfl rfl rfl ⟨_, hM.Y⟩ ?_
        refine rp_put (by rw [rcL_len]; have := lnL_le (it ++ (pp Kd n 1 d (t + 1)).2.2); rw [List.length_append] at this; omega) hX (fun h4 hX => bk_Kv ?_)
        refine bg_goto rfl ?_
        have hX : PR h0 y u v T P S K C Fx Kd N W (rcL nv (it ++ (pp Kd n 1 d (t + 1)).2.2 ++ [(Kd t, none)])) (opL (it ++ (pp Kd n 1 d (t + 1)).2.2 ++ [(Kd t, none)]) 0) (pp Kd n 1 d (t + 1)).2.1 d h4 := by
          rw [(rc_op (nv := nv)).1, (rc_op (nv := nv)).2, show oW (Kd t) = 33 from by rw [hkt]; decide]
          exact hX
        refine ih2 _ d (pp Kd n 1 d (t + 1)).2.1 (it ++ (pp Kd n 1 d (t + 1)).2.2 ++ [(Kd t, none)]) _ _ B _ Q _ (by rfl) hd kk5 (by rw [List.length_append, List.length_append]; show _ + 1 ≤ _; omega) (by omega) (by omega) hX (fun h' b hb => hQ h' b ?_)
        rw [hu2]
        have e : it ++ ((pp Kd n 1 d (t + 1)).2.2 ++ ([(Kd t, none)] ++ (pp Kd n 4 d (pp Kd n 1 d (t + 1)).2.1).2.2)) = it ++ (pp Kd n 1 d (t + 1)).2.2 ++ [(Kd t, none)] ++ (pp Kd n 4 d (pp Kd n 1 d (t + 1)).2.1).2.2 := by simp only [List.append_assoc]
        rcases hb with ⟨e1, e2, hx⟩ | hb
        · refine Or.inl ⟨e1, e2, ?_⟩
          show PR h0 y u v T P S K C Fx Kd N W (rcL nv (it ++ ((pp Kd n 1 d (t + 1)).2.2 ++ ([(Kd t, none)] ++ (pp Kd n 4 d (pp Kd n 1 d (t + 1)).2.1).2.2)))) (opL (it ++ ((pp Kd n 1 d (t + 1)).2.2 ++ ([(Kd t, none)] ++ (pp Kd n 4 d (pp Kd n 1 d (t + 1)).2.1).2.2))) 0) (pp Kd n 4 d (pp Kd n 1 d (t + 1)).2.1).2.1 d h'
          rw [e]
          exact hx
        · exact Or.inr hb
      · obtain ⟨-, r1, hX⟩ := hb3.resolve_left (fun z => absurd (z.1.symm.trans e58) (by decide))
        rw [sq_f r1] at hu
        refine bg_iconst rfl ?_
        refine bg_iret rfl rfl (by rfl) ?_
        refine hQ h3 0 (Or.inr ⟨rfl, ?_⟩)
        rw [hu]
        exact ⟨r1, hX⟩

theorem rp_mSum {n : Nat} (hF : FXk Fx Kd N) (ih1 : rpS V h0 y u v T P S K C Fx Kd N nv W (pp Kd n 1) 2 181 n) (ih2 : rpL V h0 y u v T P S K C Fx Kd N nv W (pp Kd n 4) 3 180 1 n) : rpS V h0 y u v T P S K C Fx Kd N nv W (pp Kd (n + 1) 3) 3 180 (n + 1) := by
  intro D d t it h nn B Q hd ht hl hpv hw hD hX hQ
  obtain ⟨D, rfl⟩ : ∃ D', D = D' + 6 := ⟨D - 6, by omega⟩
  have hNN := hF.2.2.1
  have hE := hF.2.2.2
  obtain ⟨J, F, K2, C2, hM, j0, j3, j4, ⟨f0, f1, f2, f4⟩, hR, ⟨c5, c13, c6, c14⟩, hO⟩ := id hX
  have hu : pp Kd (n + 1) 3 d t = sq (pp Kd n 1 d t) (pp Kd n 4 d) := rfl
  have kk1 := pp_k hE n 1 d t ht
  have kk4 := kk1.2.2.2
  have kk5 := kk1.1
  refine bg_in rfl rfl ?_
  refine bg_aload0 rfl ?_
  refine bg_virt0 rfl rfl rfl rfl ⟨_, hM.Y⟩ ?_
  refine ih1 _ d t it _ _ _ _ hd ht hl hpv (by omega) (by omega) hX (fun h3 b3 hb3 => bk_Ki ?_)
  refine bg_if_ne rfl (fun e4 => ?_) (fun e4 => ?_)
  · obtain ⟨-, r1, hX⟩ := hb3.resolve_right (fun z => e4 z.1)
    rw [sq_t r1] at hu
    have kk3 : t + 1 ≤ (pp Kd n 1 d t).2.1 := kk1.2.2.1 r1
    refine ih2 _ d (pp Kd n 1 d t).2.1 (it ++ (pp Kd n 1 d t).2.2) _ _ B _ Q _ (by rfl) hd kk5 (by rw [List.length_append]; omega) (by omega) (by omega) hX (fun h' b hb => hQ h' b ?_)
    rw [hu]
    rcases hb with ⟨e1, e2, hx⟩ | hb
    · refine Or.inl ⟨e1, e2, ?_⟩
      show PR h0 y u v T P S K C Fx Kd N W (rcL nv (it ++ ((pp Kd n 1 d t).2.2 ++ (pp Kd n 4 d (pp Kd n 1 d t).2.1).2.2))) (opL (it ++ ((pp Kd n 1 d t).2.2 ++ (pp Kd n 4 d (pp Kd n 1 d t).2.1).2.2)) 0) (pp Kd n 4 d (pp Kd n 1 d t).2.1).2.1 d h'
      rw [← List.append_assoc]
      exact hx
    · exact Or.inr hb
  · obtain ⟨-, r1, hX⟩ := hb3.resolve_left (fun z => absurd (z.1.symm.trans e4) (by decide))
    rw [sq_f r1] at hu
    refine bg_iconst rfl ?_
    refine bg_iret rfl rfl (by rfl) ?_
    refine hQ h3 0 (Or.inr ⟨rfl, ?_⟩)
    rw [hu]
    exact ⟨r1, hX⟩
theorem rp_lBoth {n : Nat} (hF : FXk Fx Kd N) (ih1 : rpS V h0 y u v T P S K C Fx Kd N nv W (pp Kd n 5) 4 179 n) (ih2 : rpL V h0 y u v T P S K C Fx Kd N nv W (pp Kd n 7) 5 176 0 n) : rpL V h0 y u v T P S K C Fx Kd N nv W (pp Kd (n + 1) 7) 5 176 0 (n + 1) := by
  intro D d t it h nn B cs Q xt hxt hd ht hl hw hD hX hQ
  obtain ⟨D, rfl⟩ : ∃ D', D = D' + 5 := ⟨D - 5, by omega⟩
  have hNN := hF.2.2.1
  have hE := hF.2.2.2
  obtain rfl : xt = [] := List.eq_nil_of_length_eq_zero hxt
  obtain ⟨J, F, K2, C2, hM, j0, j3, j4, ⟨f0, f1, f2, f4⟩, hR, ⟨c5, c13, c6, c14⟩, hO⟩ := id hX
  refine bg_aload0 rfl ?_
  refine bg_bipush rfl ?_
  refine bg_virt1 rfl rfl rfl rfl ⟨_, hM.Y⟩ ?_
  refine rq_eat (wKe (k := 26) 26 (by decide) (by decide) (by decide)) (fun z => rof_0 (by rw [z]; decide)) hF ht hX (fun h1 b1 hb1 => bk_Ki ?_)
  refine bg_if_eq rfl (fun e15 => ?_) (fun e15 => ?_)
  · obtain ⟨-, hkn, hX⟩ := hb1.resolve_left (fun z => absurd (z.1.symm.trans e15) (by decide))
    refine bg_iconst rfl ?_
    refine bg_iret rfl rfl (by rfl) ?_
    have hu : pp Kd (n + 1) 7 d t = (true, t, []) := if_neg hkn
    refine hQ h1 1 (Or.inl ⟨rfl, ?_⟩)
    rw [hu]
    refine ⟨rfl, ?_⟩
    rw [show it ++ (true, t, ([] : List bIt)).2.2 = it from List.append_nil it]
    exact hX
  · obtain ⟨-, hkt, hX⟩ := hb1.resolve_right (fun z => e15 z.1)
    have hk : Kd t = 26 := hkt
    have ht1 : t + 1 < N := KEk hE ht hkt (by decide) (by decide)
    have hu : pp Kd (n + 1) 7 d t = sq (pp Kd n 5 d (t + 1)) (fun t1 => sq (em (26) none t1) (pp Kd n 7 d)) := by
      show (if Kd t = 26 then _ else _) = _
      rw [if_pos hk]
    have kk1 := pp_k hE n 5 d (t + 1) ht1
    have kk4 := kk1.2.2.2
    have kk5 := kk1.1
    have hpv1 : pvK Kd (t + 1) := ⟨t, rfl, by rw [hkt]; decide⟩
    obtain ⟨J, F, K2, C2, hM, j0, j3, j4, ⟨f0, f1, f2, f4⟩, hR, ⟨c5, c13, c6, c14⟩, hO⟩ := id hX
    refine bg_aload0 rfl ?_
    refine bg_virt0 rfl rfl rfl rfl ⟨_, hM.Y⟩ ?_
    refine ih1 _ d (t + 1) it _ _ _ _ hd ht1 (by omega) hpv1 (by omega) (by omega) hX (fun h3 b3 hb3 => bk_Ki ?_)
    refine bg_if_ne rfl (fun e22 => ?_) (fun e22 => ?_)
    · obtain ⟨-, r1, hX⟩ := hb3.resolve_right (fun z => e22 z.1)
      have hu2 : pp Kd (n + 1) 7 d t = ((pp Kd n 7 d (pp Kd n 5 d (t + 1)).2.1).1, (pp Kd n 7 d (pp Kd n 5 d (t + 1)).2.1).2.1, (pp Kd n 5 d (t + 1)).2.2 ++ ([(26, none)] ++ (pp Kd n 7 d (pp Kd n 5 d (t + 1)).2.1).2.2)) := hu.trans (by rw [sq_t r1]; rfl)
      have kk3 : t + 1 + 1 ≤ (pp Kd n 5 d (t + 1)).2.1 := kk1.2.2.1 r1
      obtain ⟨J, F, K2, C2, hM, j0, j3, j4, ⟨f0, f1, f2, f4⟩, hR, ⟨c5, c13, c6, c14⟩, hO⟩ := id hX
      refine bg_aload0 rfl ?_
      refine bg_bipush rfl ?_
      refine bg_virt1 rfl rfl rfl rfl ⟨_, hM.Y⟩ ?_
      refine rp_put (by rw [rcL_len]; have := lnL_le (it ++ (pp Kd n 5 d (t + 1)).2.2); rw [List.length_append] at this; omega) hX (fun h4 hX => bk_Kv ?_)
      refine bg_goto rfl ?_
      have hX : PR h0 y u v T P S K C Fx Kd N W (rcL nv (it ++ (pp Kd n 5 d (t + 1)).2.2 ++ [(26, none)])) (opL (it ++ (pp Kd n 5 d (t + 1)).2.2 ++ [(26, none)]) 0) (pp Kd n 5 d (t + 1)).2.1 d h4 := by
        rw [(rc_op (nv := nv)).1, (rc_op (nv := nv)).2, show oW (26) = 25 from by decide]
        exact hX
      refine ih2 _ d (pp Kd n 5 d (t + 1)).2.1 (it ++ (pp Kd n 5 d (t + 1)).2.2 ++ [(26, none)]) _ _ B _ Q _ (by rfl) hd kk5 (by rw [List.length_append, List.length_append]; show _ + 1 ≤ _; omega) (by omega) (by omega) hX (fun h' b hb => hQ h' b ?_)
      rw [hu2]
      have e : it ++ ((pp Kd n 5 d (t + 1)).2.2 ++ ([(26, none)] ++ (pp Kd n 7 d (pp Kd n 5 d (t + 1)).2.1).2.2)) = it ++ (pp Kd n 5 d (t + 1)).2.2 ++ [(26, none)] ++ (pp Kd n 7 d (pp Kd n 5 d (t + 1)).2.1).2.2 := by simp only [List.append_assoc]
      rcases hb with ⟨e1, e2, hx⟩ | hb
      · refine Or.inl ⟨e1, e2, ?_⟩
        show PR h0 y u v T P S K C Fx Kd N W (rcL nv (it ++ ((pp Kd n 5 d (t + 1)).2.2 ++ ([(26, none)] ++ (pp Kd n 7 d (pp Kd n 5 d (t + 1)).2.1).2.2)))) (opL (it ++ ((pp Kd n 5 d (t + 1)).2.2 ++ ([(26, none)] ++ (pp Kd n 7 d (pp Kd n 5 d (t + 1)).2.1).2.2))) 0) (pp Kd n 7 d (pp Kd n 5 d (t + 1)).2.1).2.1 d h'
        rw [e]
        exact hx
      · exact Or.inr hb
    · obtain ⟨-, r1, hX⟩ := hb3.resolve_left (fun z => absurd (z.1.symm.trans e22) (by decide))
      rw [sq_f r1] at hu
      refine bg_iconst rfl ?_
      refine bg_iret rfl rfl (by rfl) ?_
      refine hQ h3 0 (Or.inr ⟨rfl, ?_⟩)
      rw [hu]
      exact ⟨r1, hX⟩

theorem rp_mBoth {n : Nat} (hF : FXk Fx Kd N) (ih1 : rpS V h0 y u v T P S K C Fx Kd N nv W (pp Kd n 5) 4 179 n) (ih2 : rpL V h0 y u v T P S K C Fx Kd N nv W (pp Kd n 7) 5 176 0 n) : rpS V h0 y u v T P S K C Fx Kd N nv W (pp Kd (n + 1) 6) 5 176 (n + 1) := by
  intro D d t it h nn B Q hd ht hl hpv hw hD hX hQ
  obtain ⟨D, rfl⟩ : ∃ D', D = D' + 6 := ⟨D - 6, by omega⟩
  have hNN := hF.2.2.1
  have hE := hF.2.2.2
  obtain ⟨J, F, K2, C2, hM, j0, j3, j4, ⟨f0, f1, f2, f4⟩, hR, ⟨c5, c13, c6, c14⟩, hO⟩ := id hX
  have hu : pp Kd (n + 1) 6 d t = sq (pp Kd n 5 d t) (pp Kd n 7 d) := rfl
  have kk1 := pp_k hE n 5 d t ht
  have kk4 := kk1.2.2.2
  have kk5 := kk1.1
  refine bg_in rfl rfl ?_
  refine bg_aload0 rfl ?_
  refine bg_virt0 rfl rfl rfl rfl ⟨_, hM.Y⟩ ?_
  refine ih1 _ d t it _ _ _ _ hd ht hl hpv (by omega) (by omega) hX (fun h3 b3 hb3 => bk_Ki ?_)
  refine bg_if_ne rfl (fun e4 => ?_) (fun e4 => ?_)
  · obtain ⟨-, r1, hX⟩ := hb3.resolve_right (fun z => e4 z.1)
    rw [sq_t r1] at hu
    have kk3 : t + 1 ≤ (pp Kd n 5 d t).2.1 := kk1.2.2.1 r1
    refine ih2 _ d (pp Kd n 5 d t).2.1 (it ++ (pp Kd n 5 d t).2.2) _ _ B _ Q _ (by rfl) hd kk5 (by rw [List.length_append]; omega) (by omega) (by omega) hX (fun h' b hb => hQ h' b ?_)
    rw [hu]
    rcases hb with ⟨e1, e2, hx⟩ | hb
    · refine Or.inl ⟨e1, e2, ?_⟩
      show PR h0 y u v T P S K C Fx Kd N W (rcL nv (it ++ ((pp Kd n 5 d t).2.2 ++ (pp Kd n 7 d (pp Kd n 5 d t).2.1).2.2))) (opL (it ++ ((pp Kd n 5 d t).2.2 ++ (pp Kd n 7 d (pp Kd n 5 d t).2.1).2.2)) 0) (pp Kd n 7 d (pp Kd n 5 d t).2.1).2.1 d h'
      rw [← List.append_assoc]
      exact hx
    · exact Or.inr hb
  · obtain ⟨-, r1, hX⟩ := hb3.resolve_left (fun z => absurd (z.1.symm.trans e4) (by decide))
    rw [sq_f r1] at hu
    refine bg_iconst rfl ?_
    refine bg_iret rfl rfl (by rfl) ?_
    refine hQ h3 0 (Or.inr ⟨rfl, ?_⟩)
    rw [hu]
    exact ⟨r1, hX⟩
theorem rp_lTest {n : Nat} (hF : FXk Fx Kd N) (ih1 : rpS V h0 y u v T P S K C Fx Kd N nv W (pp Kd n 6) 5 176 n) (ih2 : rpL V h0 y u v T P S K C Fx Kd N nv W (pp Kd n 9) 6 175 0 n) : rpL V h0 y u v T P S K C Fx Kd N nv W (pp Kd (n + 1) 9) 6 175 0 (n + 1) := by
  intro D d t it h nn B cs Q xt hxt hd ht hl hw hD hX hQ
  obtain ⟨D, rfl⟩ : ∃ D', D = D' + 5 := ⟨D - 5, by omega⟩
  have hNN := hF.2.2.1
  have hE := hF.2.2.2
  obtain rfl : xt = [] := List.eq_nil_of_length_eq_zero hxt
  obtain ⟨J, F, K2, C2, hM, j0, j3, j4, ⟨f0, f1, f2, f4⟩, hR, ⟨c5, c13, c6, c14⟩, hO⟩ := id hX
  refine bg_aload0 rfl ?_
  refine bg_bipush rfl ?_
  refine bg_virt1 rfl rfl rfl rfl ⟨_, hM.Y⟩ ?_
  refine rq_eat (wKe (k := 27) 27 (by decide) (by decide) (by decide)) (fun z => rof_0 (by rw [z]; decide)) hF ht hX (fun h1 b1 hb1 => bk_Ki ?_)
  refine bg_if_eq rfl (fun e15 => ?_) (fun e15 => ?_)
  · obtain ⟨-, hkn, hX⟩ := hb1.resolve_left (fun z => absurd (z.1.symm.trans e15) (by decide))
    refine bg_iconst rfl ?_
    refine bg_iret rfl rfl (by rfl) ?_
    have hu : pp Kd (n + 1) 9 d t = (true, t, []) := if_neg hkn
    refine hQ h1 1 (Or.inl ⟨rfl, ?_⟩)
    rw [hu]
    refine ⟨rfl, ?_⟩
    rw [show it ++ (true, t, ([] : List bIt)).2.2 = it from List.append_nil it]
    exact hX
  · obtain ⟨-, hkt, hX⟩ := hb1.resolve_right (fun z => e15 z.1)
    have hk : Kd t = 27 := hkt
    have ht1 : t + 1 < N := KEk hE ht hkt (by decide) (by decide)
    have hu : pp Kd (n + 1) 9 d t = sq (pp Kd n 6 d (t + 1)) (fun t1 => sq (em (27) none t1) (pp Kd n 9 d)) := by
      show (if Kd t = 27 then _ else _) = _
      rw [if_pos hk]
    have kk1 := pp_k hE n 6 d (t + 1) ht1
    have kk4 := kk1.2.2.2
    have kk5 := kk1.1
    have hpv1 : pvK Kd (t + 1) := ⟨t, rfl, by rw [hkt]; decide⟩
    obtain ⟨J, F, K2, C2, hM, j0, j3, j4, ⟨f0, f1, f2, f4⟩, hR, ⟨c5, c13, c6, c14⟩, hO⟩ := id hX
    refine bg_aload0 rfl ?_
    refine bg_virt0 rfl rfl rfl rfl ⟨_, hM.Y⟩ ?_
    refine ih1 _ d (t + 1) it _ _ _ _ hd ht1 (by omega) hpv1 (by omega) (by omega) hX (fun h3 b3 hb3 => bk_Ki ?_)
    refine bg_if_ne rfl (fun e22 => ?_) (fun e22 => ?_)
    · obtain ⟨-, r1, hX⟩ := hb3.resolve_right (fun z => e22 z.1)
      have hu2 : pp Kd (n + 1) 9 d t = ((pp Kd n 9 d (pp Kd n 6 d (t + 1)).2.1).1, (pp Kd n 9 d (pp Kd n 6 d (t + 1)).2.1).2.1, (pp Kd n 6 d (t + 1)).2.2 ++ ([(27, none)] ++ (pp Kd n 9 d (pp Kd n 6 d (t + 1)).2.1).2.2)) := hu.trans (by rw [sq_t r1]; rfl)
      have kk3 : t + 1 + 1 ≤ (pp Kd n 6 d (t + 1)).2.1 := kk1.2.2.1 r1
      obtain ⟨J, F, K2, C2, hM, j0, j3, j4, ⟨f0, f1, f2, f4⟩, hR, ⟨c5, c13, c6, c14⟩, hO⟩ := id hX
      refine bg_aload0 rfl ?_
      refine bg_bipush rfl ?_
      refine bg_virt1 rfl rfl rfl rfl ⟨_, hM.Y⟩ ?_
      refine rp_put (by rw [rcL_len]; have := lnL_le (it ++ (pp Kd n 6 d (t + 1)).2.2); rw [List.length_append] at this; omega) hX (fun h4 hX => bk_Kv ?_)
      refine bg_goto rfl ?_
      have hX : PR h0 y u v T P S K C Fx Kd N W (rcL nv (it ++ (pp Kd n 6 d (t + 1)).2.2 ++ [(27, none)])) (opL (it ++ (pp Kd n 6 d (t + 1)).2.2 ++ [(27, none)]) 0) (pp Kd n 6 d (t + 1)).2.1 d h4 := by
        rw [(rc_op (nv := nv)).1, (rc_op (nv := nv)).2, show oW (27) = 26 from by decide]
        exact hX
      refine ih2 _ d (pp Kd n 6 d (t + 1)).2.1 (it ++ (pp Kd n 6 d (t + 1)).2.2 ++ [(27, none)]) _ _ B _ Q _ (by rfl) hd kk5 (by rw [List.length_append, List.length_append]; show _ + 1 ≤ _; omega) (by omega) (by omega) hX (fun h' b hb => hQ h' b ?_)
      rw [hu2]
      have e : it ++ ((pp Kd n 6 d (t + 1)).2.2 ++ ([(27, none)] ++ (pp Kd n 9 d (pp Kd n 6 d (t + 1)).2.1).2.2)) = it ++ (pp Kd n 6 d (t + 1)).2.2 ++ [(27, none)] ++ (pp Kd n 9 d (pp Kd n 6 d (t + 1)).2.1).2.2 := by simp only [List.append_assoc]
      rcases hb with ⟨e1, e2, hx⟩ | hb
      · refine Or.inl ⟨e1, e2, ?_⟩
        show PR h0 y u v T P S K C Fx Kd N W (rcL nv (it ++ ((pp Kd n 6 d (t + 1)).2.2 ++ ([(27, none)] ++ (pp Kd n 9 d (pp Kd n 6 d (t + 1)).2.1).2.2)))) (opL (it ++ ((pp Kd n 6 d (t + 1)).2.2 ++ ([(27, none)] ++ (pp Kd n 9 d (pp Kd n 6 d (t + 1)).2.1).2.2))) 0) (pp Kd n 9 d (pp Kd n 6 d (t + 1)).2.1).2.1 d h'
        rw [e]
        exact hx
      · exact Or.inr hb
    · obtain ⟨-, r1, hX⟩ := hb3.resolve_left (fun z => absurd (z.1.symm.trans e22) (by decide))
      rw [sq_f r1] at hu
      refine bg_iconst rfl ?_
      refine bg_iret rfl rfl (by rfl) ?_
      refine hQ h3 0 (Or.inr ⟨rfl, ?_⟩)
      rw [hu]
      exact ⟨r1, hX⟩

theorem rp_mTest {n : Nat} (hF : FXk Fx Kd N) (ih1 : rpS V h0 y u v T P S K C Fx Kd N nv W (pp Kd n 6) 5 176 n) (ih2 : rpL V h0 y u v T P S K C Fx Kd N nv W (pp Kd n 9) 6 175 0 n) : rpS V h0 y u v T P S K C Fx Kd N nv W (pp Kd (n + 1) 8) 6 175 (n + 1) := by
  intro D d t it h nn B Q hd ht hl hpv hw hD hX hQ
  obtain ⟨D, rfl⟩ : ∃ D', D = D' + 6 := ⟨D - 6, by omega⟩
  have hNN := hF.2.2.1
  have hE := hF.2.2.2
  obtain ⟨J, F, K2, C2, hM, j0, j3, j4, ⟨f0, f1, f2, f4⟩, hR, ⟨c5, c13, c6, c14⟩, hO⟩ := id hX
  have hu : pp Kd (n + 1) 8 d t = sq (pp Kd n 6 d t) (pp Kd n 9 d) := rfl
  have kk1 := pp_k hE n 6 d t ht
  have kk4 := kk1.2.2.2
  have kk5 := kk1.1
  refine bg_in rfl rfl ?_
  refine bg_aload0 rfl ?_
  refine bg_virt0 rfl rfl rfl rfl ⟨_, hM.Y⟩ ?_
  refine ih1 _ d t it _ _ _ _ hd ht hl hpv (by omega) (by omega) hX (fun h3 b3 hb3 => bk_Ki ?_)
  refine bg_if_ne rfl (fun e4 => ?_) (fun e4 => ?_)
  · obtain ⟨-, r1, hX⟩ := hb3.resolve_right (fun z => e4 z.1)
    rw [sq_t r1] at hu
    have kk3 : t + 1 ≤ (pp Kd n 6 d t).2.1 := kk1.2.2.1 r1
    refine ih2 _ d (pp Kd n 6 d t).2.1 (it ++ (pp Kd n 6 d t).2.2) _ _ B _ Q _ (by rfl) hd kk5 (by rw [List.length_append]; omega) (by omega) (by omega) hX (fun h' b hb => hQ h' b ?_)
    rw [hu]
    rcases hb with ⟨e1, e2, hx⟩ | hb
    · refine Or.inl ⟨e1, e2, ?_⟩
      show PR h0 y u v T P S K C Fx Kd N W (rcL nv (it ++ ((pp Kd n 6 d t).2.2 ++ (pp Kd n 9 d (pp Kd n 6 d t).2.1).2.2))) (opL (it ++ ((pp Kd n 6 d t).2.2 ++ (pp Kd n 9 d (pp Kd n 6 d t).2.1).2.2)) 0) (pp Kd n 9 d (pp Kd n 6 d t).2.1).2.1 d h'
      rw [← List.append_assoc]
      exact hx
    · exact Or.inr hb
  · obtain ⟨-, r1, hX⟩ := hb3.resolve_left (fun z => absurd (z.1.symm.trans e4) (by decide))
    rw [sq_f r1] at hu
    refine bg_iconst rfl ?_
    refine bg_iret rfl rfl (by rfl) ?_
    refine hQ h3 0 (Or.inr ⟨rfl, ?_⟩)
    rw [hu]
    exact ⟨r1, hX⟩
end MM
