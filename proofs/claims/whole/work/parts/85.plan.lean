/-! THE REFERENCE: isPlan. Printed by wip/whole/mk85.py. -/
theorem lsL_s {K : Nat → Int32} {rows : bT} {c : Nat} {s : bP} (h : ¬ K s.1 = 47) : lsL K rows (c + 1) s = sqS (sqS (lnAll K rows s) fun s => tkS K 36 s) (lsL K rows c) := if_neg h
theorem lsL_e {K : Nat → Int32} {rows : bT} {c : Nat} {s : bP} (h : K s.1 = 47) : lsL K rows (c + 1) s = (true, s) := if_pos h
section MM
variable {V : bk_V} {D n : Nat} {B : Nat × Nat} {Q : bk_R → bk_H → Nat → Prop} {h0 h : bk_H} {y u v t d N : Nat} {T : List Int32} {P : Nat → bT} {S : bS} {K J : rI} {C Fx : rA} {Kd : Nat → Int32} {nv : Nat → Int32} {W : rW} {cl : List Int32} {ol : List Nat} {it : List bIt} {cs : Nat × Nat} {rows : bT} {Pt : Nat → bT} {od : Int32}
theorem rp_lineN (hF : FXk Fx Kd N) (ht : t < N) (k11 : ¬ Kd t = 11) (k13 : ¬ Kd t = 13) (k15 : ¬ Kd t = 15) (hX : PR h0 y u v T P S K C Fx Kd N W (rcL nv it) (opL it 0) t 0 h) (hQ : Q (.inl (some (.int 0))) h n) : bk_wp V (D + 62) 173 [.ref y] h n B Q := by
  obtain ⟨J, F, K2, C2, hM, j0, j3, j4, ⟨f0, f1, f2, f4⟩, hR, ⟨c5, c13, c6, c14⟩, hO⟩ := id hX
  have hNN := hF.2.2.1
  have hkk : F 0 t = wK (Kd t) := by
    rw [f0]
    exact hF.1 t ht
  obtain ⟨jj, hj, ej⟩ := hF.2.1 t ht
  have n1 : ¬ wK (Kd t) = 10 := fun z => k11 (by rw [ej] at z ⊢; exact (wKe (k := 11) 11 (by decide) (by decide) (by decide) jj hj).mp z)
  have n2 : ¬ wK (Kd t) = 12 := fun z => k13 (by rw [ej] at z ⊢; exact (wKe (k := 13) 13 (by decide) (by decide) (by decide) jj hj).mp z)
  have n3 : ¬ wK (Kd t) = 14 := fun z => k15 (by rw [ej] at z ⊢; exact (wKe (k := 15) 15 (by decide) (by decide) (by decide) jj hj).mp z)
  refine bg_in rfl rfl ?_
  refine bg_aload0 rfl ?_
  refine bg_getfield rfl rfl hM.Y (by rfl) ?_
  refine bg_aload0 rfl ?_
  refine bg_getfield rfl rfl hM.Y (by rfl) ?_
  rw [j3]
  refine bg_iaload_n rfl hM.f0 (by decide) (by omega) ?_
  rw [hkk]
  refine bg_istore1 rfl rfl ?_
  refine bg_iload1 rfl ?_
  refine bg_bipush rfl ?_
  refine bg_icmp_eq rfl (fun e13 => absurd e13 n1) (fun e13 => ?_)
  refine bg_iload1 rfl ?_
  refine bg_bipush rfl ?_
  refine bg_icmp_eq rfl (fun e19 => absurd e19 n2) (fun e19 => ?_)
  refine bg_iload1 rfl ?_
  refine bg_bipush rfl ?_
  refine bg_icmp_eq rfl (fun e25 => absurd e25 n3) (fun e25 => ?_)
  refine bg_iconst rfl ?_
  refine bg_iret rfl rfl (by rfl) ?_
  exact hQ
theorem rp_planL (hF : FXk Fx Kd N) (hV : NVk Fx Kd N T nv) : ∀ (c t : Nat) (Pt : Nat → bT) (od : Int32) (it : List bIt) (W : rW) (x1 : Option Value) (h : bk_H), SV N (t, Pt, od) → N ≤ (t, Pt, od).1 + c → LR Kd rows (t, Pt, od) it W → PR h0 y u v T P S K C Fx Kd N W (rcL nv it) (opL it 0) t 0 h → (∀ (h' : bk_H) (b : Int32), LB h0 y u v T P S K C Fx Kd N nv rows (lsL Kd rows c (t, Pt, od)) h' b → Q (.inl (some (.int b))) h' n) → bk_g V (D + 63) 169 B Q 0 [some (.ref y), x1] [] h n cs := by
  intro c
  induction c with
  | zero =>
    intro t Pt od it W x1 h hv hc
    exact absurd hv.1 (by show ¬ t < N; have : N ≤ t + 0 := hc; omega)
  | succ c ih =>
    intro t Pt od it W x1 h hv hc hL hX hQ
    obtain ⟨J, F, K2, C2, hM, j0, j3, j4, ⟨f0, f1, f2, f4⟩, hR, ⟨c5, c13, c6, c14⟩, hO⟩ := id hX
    have hE := hF.2.2.2
    have hNN := hF.2.2.1
    have ht : t < N := hv.1
    have hc : N ≤ t + (c + 1) := hc
    have hsk : SK N 1 t (lnAll Kd rows (t, Pt, od)) := lnAll_k hE hv
    have hl : it.length ≤ t := by
      have e : Pt 4 = it.map (rwF rows) := hL.1
      have := hv.2
      have e2 : (Pt 4).length ≤ t := this
      rw [e, List.length_map] at e2
      exact e2
    refine bg_aload0 rfl ?_
    refine bg_sipush rfl ?_
    refine bg_virt1 rfl rfl rfl rfl ⟨_, hM.Y⟩ ?_
    refine rp_is (wKe (k := 47) 47 (by decide) (by decide) (by decide)) hF ht hX (bk_Ki ?_)
    refine bg_ifne_b rfl (fun e7 => ?_) (fun e7 => ?_)
    · have hu := lsL_e (K := Kd) (rows := rows) (c := c) (s := (t, Pt, od)) e7
      rw [hu] at hQ
      refine bg_iconst rfl ?_
      refine bg_iret rfl rfl (by rfl) ?_
      exact hQ h 1 (Or.inl ⟨rfl, rfl, it, W, hL, hX⟩)
    · have hk47 : ¬ Kd t = 47 := e7
      refine bg_aload0 rfl ?_
      refine bg_iconst rfl ?_
      refine bg_virt1 rfl rfl rfl rfl ⟨_, hM.Y⟩ ?_
      refine rp_is (wKe (k := 1) 1 (by decide) (by decide) (by decide)) hF ht hX (bk_Ki ?_)
      refine bg_ifeq_b rfl (fun e15 => ?_) (fun e15 => ?_)
      · refine bg_aload0 rfl ?_
        refine bg_iconst rfl ?_
        refine bg_virt1 rfl rfl rfl rfl ⟨_, hM.Y⟩ ?_
        refine rp_is (wKe (k := 4) 4 (by decide) (by decide) (by decide)) hF ht hX (bk_Ki ?_)
        refine bg_ifeq_b rfl (fun e30 => ?_) (fun e30 => ?_)
        · refine bg_aload0 rfl ?_
          refine bg_bipush rfl ?_
          refine bg_virt1 rfl rfl rfl rfl ⟨_, hM.Y⟩ ?_
          refine rp_is (wKe (k := 7) 7 (by decide) (by decide) (by decide)) hF ht hX (bk_Ki ?_)
          refine bg_ifeq_b rfl (fun e46 => ?_) (fun e46 => ?_)
          · by_cases k11 : Kd t = 11
            · refine bg_aload0 rfl ?_
              refine bg_virt0 rfl rfl rfl rfl ⟨_, hM.Y⟩ ?_
              refine rp_lineS hF hV ht k11 hl hL hX (fun h5 b5 hb5 => bk_Ki ?_)
              refine bg_istore1 rfl rfl ?_
              refine bg_iload1 rfl ?_
              refine bg_if_eq rfl (fun e62 => ?_) (fun e62 => ?_)
              · obtain ⟨-, r1, hX⟩ := hb5.resolve_left (fun z => absurd (z.1.symm.trans e62) (by decide))
                refine bg_iconst rfl ?_
                refine bg_iret rfl rfl (by rfl) ?_
                first
                  | (refine hQ h5 0 (Or.inr ⟨rfl, ?_⟩)
                     rw [lsL_s hk47, sqS_f (a := lnAll Kd rows (t, Pt, od)) (b := fun s => tkS Kd 36 s) r1, sqS_f r1]
                     exact ⟨r1, hX⟩)
                  | (refine hQ h9 0 (Or.inr ⟨rfl, ?_⟩)
                     rw [hu]
                     exact ⟨Bool.false_ne_true, hX.e⟩)
              · obtain ⟨-, r1, it, W, hL, hX⟩ := hb5.resolve_right (fun z => e62 z.1)
                have kk := hsk.2.2 r1
                have ht2 := hsk.1.1
                obtain ⟨J, F, K2, C2, hM, j0, j3, j4, ⟨f0, f1, f2, f4⟩, hR, ⟨c5, c13, c6, c14⟩, hO⟩ := id hX
                refine bg_aload0 rfl ?_
                refine bg_bipush rfl ?_
                refine bg_virt1 rfl rfl rfl rfl ⟨_, hM.Y⟩ ?_
                refine rq_eatSign (wKe (k := 36) 36 (by decide) (by decide) (by decide)) (fun z => rof_0 (by rw [z]; decide)) hF ht2 hX (fun h9 b9 hb9 => bk_Ki ?_)
                refine bg_if_ne rfl (fun e71 => ?_) (fun e71 => ?_)
                · obtain ⟨-, r2, hX⟩ := hb9.resolve_right (fun z => e71 z.1)
                  have hu : lsL Kd rows (c + 1) (t, Pt, od) = lsL Kd rows c ((lnAll Kd rows (t, Pt, od)).2.1 + 1, (lnAll Kd rows (t, Pt, od)).2.2) := by
                    rw [lsL_s hk47, sqS_t (b := fun s => tkS Kd 36 s) r1]
                    exact tk_t r2
                  have hv2 : SV N ((lnAll Kd rows (t, Pt, od)).2.1 + 1, (lnAll Kd rows (t, Pt, od)).2.2) := ⟨KEk hE ht2 r2 (by decide) (by decide), Nat.le_succ_of_le hsk.1.2⟩
                  refine bg_goto rfl ?_
                  rw [hu] at hQ
                  refine ih _ _ _ _ _ _ _ hv2 (by show N ≤ (lnAll Kd rows (t, Pt, od)).2.1 + 1 + c; have : (lnAll Kd rows (t, Pt, od)).2.1 ≥ t + 1 := kk; omega) ⟨hL.1, hL.2.1, hL.2.2.1, Nat.le_succ_of_le hL.2.2.2.1, hL.2.2.2.2⟩ hX hQ
                · obtain ⟨-, r2, hX⟩ := hb9.resolve_left (fun z => absurd (z.1.symm.trans e71) (by decide))
                  have hu : lsL Kd rows (c + 1) (t, Pt, od) = (false, (lnAll Kd rows (t, Pt, od)).2) := by
                    rw [lsL_s hk47, sqS_t (b := fun s => tkS Kd 36 s) r1]
                    exact tk_f r2
                  refine bg_iconst rfl ?_
                  refine bg_iret rfl rfl (by rfl) ?_
                  first
                    | (refine hQ h5 0 (Or.inr ⟨rfl, ?_⟩)
                       rw [lsL_s hk47, sqS_f (a := lnAll Kd rows (t, Pt, od)) (b := fun s => tkS Kd 36 s) r1, sqS_f r1]
                       exact ⟨r1, hX⟩)
                    | (refine hQ h9 0 (Or.inr ⟨rfl, ?_⟩)
                       rw [hu]
                       exact ⟨Bool.false_ne_true, hX.e⟩)
            · by_cases k13 : Kd t = 13
              · refine bg_aload0 rfl ?_
                refine bg_virt0 rfl rfl rfl rfl ⟨_, hM.Y⟩ ?_
                refine rp_lineB hF hV ht k13 hl hL hX (fun h5 b5 hb5 => bk_Ki ?_)
                refine bg_istore1 rfl rfl ?_
                refine bg_iload1 rfl ?_
                refine bg_if_eq rfl (fun e62 => ?_) (fun e62 => ?_)
                · obtain ⟨-, r1, hX⟩ := hb5.resolve_left (fun z => absurd (z.1.symm.trans e62) (by decide))
                  refine bg_iconst rfl ?_
                  refine bg_iret rfl rfl (by rfl) ?_
                  first
                    | (refine hQ h5 0 (Or.inr ⟨rfl, ?_⟩)
                       rw [lsL_s hk47, sqS_f (a := lnAll Kd rows (t, Pt, od)) (b := fun s => tkS Kd 36 s) r1, sqS_f r1]
                       exact ⟨r1, hX⟩)
                    | (refine hQ h9 0 (Or.inr ⟨rfl, ?_⟩)
                       rw [hu]
                       exact ⟨Bool.false_ne_true, hX.e⟩)
                · obtain ⟨-, r1, it, W, hL, hX⟩ := hb5.resolve_right (fun z => e62 z.1)
                  have kk := hsk.2.2 r1
                  have ht2 := hsk.1.1
                  obtain ⟨J, F, K2, C2, hM, j0, j3, j4, ⟨f0, f1, f2, f4⟩, hR, ⟨c5, c13, c6, c14⟩, hO⟩ := id hX
                  refine bg_aload0 rfl ?_
                  refine bg_bipush rfl ?_
                  refine bg_virt1 rfl rfl rfl rfl ⟨_, hM.Y⟩ ?_
                  refine rq_eatSign (wKe (k := 36) 36 (by decide) (by decide) (by decide)) (fun z => rof_0 (by rw [z]; decide)) hF ht2 hX (fun h9 b9 hb9 => bk_Ki ?_)
                  refine bg_if_ne rfl (fun e71 => ?_) (fun e71 => ?_)
                  · obtain ⟨-, r2, hX⟩ := hb9.resolve_right (fun z => e71 z.1)
                    have hu : lsL Kd rows (c + 1) (t, Pt, od) = lsL Kd rows c ((lnAll Kd rows (t, Pt, od)).2.1 + 1, (lnAll Kd rows (t, Pt, od)).2.2) := by
                      rw [lsL_s hk47, sqS_t (b := fun s => tkS Kd 36 s) r1]
                      exact tk_t r2
                    have hv2 : SV N ((lnAll Kd rows (t, Pt, od)).2.1 + 1, (lnAll Kd rows (t, Pt, od)).2.2) := ⟨KEk hE ht2 r2 (by decide) (by decide), Nat.le_succ_of_le hsk.1.2⟩
                    refine bg_goto rfl ?_
                    rw [hu] at hQ
                    refine ih _ _ _ _ _ _ _ hv2 (by show N ≤ (lnAll Kd rows (t, Pt, od)).2.1 + 1 + c; have : (lnAll Kd rows (t, Pt, od)).2.1 ≥ t + 1 := kk; omega) ⟨hL.1, hL.2.1, hL.2.2.1, Nat.le_succ_of_le hL.2.2.2.1, hL.2.2.2.2⟩ hX hQ
                  · obtain ⟨-, r2, hX⟩ := hb9.resolve_left (fun z => absurd (z.1.symm.trans e71) (by decide))
                    have hu : lsL Kd rows (c + 1) (t, Pt, od) = (false, (lnAll Kd rows (t, Pt, od)).2) := by
                      rw [lsL_s hk47, sqS_t (b := fun s => tkS Kd 36 s) r1]
                      exact tk_f r2
                    refine bg_iconst rfl ?_
                    refine bg_iret rfl rfl (by rfl) ?_
                    first
                      | (refine hQ h5 0 (Or.inr ⟨rfl, ?_⟩)
                         rw [lsL_s hk47, sqS_f (a := lnAll Kd rows (t, Pt, od)) (b := fun s => tkS Kd 36 s) r1, sqS_f r1]
                         exact ⟨r1, hX⟩)
                      | (refine hQ h9 0 (Or.inr ⟨rfl, ?_⟩)
                         rw [hu]
                         exact ⟨Bool.false_ne_true, hX.e⟩)
              · by_cases k15 : Kd t = 15
                · refine bg_aload0 rfl ?_
                  refine bg_virt0 rfl rfl rfl rfl ⟨_, hM.Y⟩ ?_
                  refine rp_lineC hF hV ht k15 hl hL hX (fun h5 b5 hb5 => bk_Ki ?_)
                  refine bg_istore1 rfl rfl ?_
                  refine bg_iload1 rfl ?_
                  refine bg_if_eq rfl (fun e62 => ?_) (fun e62 => ?_)
                  · obtain ⟨-, r1, hX⟩ := hb5.resolve_left (fun z => absurd (z.1.symm.trans e62) (by decide))
                    refine bg_iconst rfl ?_
                    refine bg_iret rfl rfl (by rfl) ?_
                    first
                      | (refine hQ h5 0 (Or.inr ⟨rfl, ?_⟩)
                         rw [lsL_s hk47, sqS_f (a := lnAll Kd rows (t, Pt, od)) (b := fun s => tkS Kd 36 s) r1, sqS_f r1]
                         exact ⟨r1, hX⟩)
                      | (refine hQ h9 0 (Or.inr ⟨rfl, ?_⟩)
                         rw [hu]
                         exact ⟨Bool.false_ne_true, hX.e⟩)
                  · obtain ⟨-, r1, it, W, hL, hX⟩ := hb5.resolve_right (fun z => e62 z.1)
                    have kk := hsk.2.2 r1
                    have ht2 := hsk.1.1
                    obtain ⟨J, F, K2, C2, hM, j0, j3, j4, ⟨f0, f1, f2, f4⟩, hR, ⟨c5, c13, c6, c14⟩, hO⟩ := id hX
                    refine bg_aload0 rfl ?_
                    refine bg_bipush rfl ?_
                    refine bg_virt1 rfl rfl rfl rfl ⟨_, hM.Y⟩ ?_
                    refine rq_eatSign (wKe (k := 36) 36 (by decide) (by decide) (by decide)) (fun z => rof_0 (by rw [z]; decide)) hF ht2 hX (fun h9 b9 hb9 => bk_Ki ?_)
                    refine bg_if_ne rfl (fun e71 => ?_) (fun e71 => ?_)
                    · obtain ⟨-, r2, hX⟩ := hb9.resolve_right (fun z => e71 z.1)
                      have hu : lsL Kd rows (c + 1) (t, Pt, od) = lsL Kd rows c ((lnAll Kd rows (t, Pt, od)).2.1 + 1, (lnAll Kd rows (t, Pt, od)).2.2) := by
                        rw [lsL_s hk47, sqS_t (b := fun s => tkS Kd 36 s) r1]
                        exact tk_t r2
                      have hv2 : SV N ((lnAll Kd rows (t, Pt, od)).2.1 + 1, (lnAll Kd rows (t, Pt, od)).2.2) := ⟨KEk hE ht2 r2 (by decide) (by decide), Nat.le_succ_of_le hsk.1.2⟩
                      refine bg_goto rfl ?_
                      rw [hu] at hQ
                      refine ih _ _ _ _ _ _ _ hv2 (by show N ≤ (lnAll Kd rows (t, Pt, od)).2.1 + 1 + c; have : (lnAll Kd rows (t, Pt, od)).2.1 ≥ t + 1 := kk; omega) ⟨hL.1, hL.2.1, hL.2.2.1, Nat.le_succ_of_le hL.2.2.2.1, hL.2.2.2.2⟩ hX hQ
                    · obtain ⟨-, r2, hX⟩ := hb9.resolve_left (fun z => absurd (z.1.symm.trans e71) (by decide))
                      have hu : lsL Kd rows (c + 1) (t, Pt, od) = (false, (lnAll Kd rows (t, Pt, od)).2) := by
                        rw [lsL_s hk47, sqS_t (b := fun s => tkS Kd 36 s) r1]
                        exact tk_f r2
                      refine bg_iconst rfl ?_
                      refine bg_iret rfl rfl (by rfl) ?_
                      first
                        | (refine hQ h5 0 (Or.inr ⟨rfl, ?_⟩)
                           rw [lsL_s hk47, sqS_f (a := lnAll Kd rows (t, Pt, od)) (b := fun s => tkS Kd 36 s) r1, sqS_f r1]
                           exact ⟨r1, hX⟩)
                        | (refine hQ h9 0 (Or.inr ⟨rfl, ?_⟩)
                           rw [hu]
                           exact ⟨Bool.false_ne_true, hX.e⟩)
                · refine bg_aload0 rfl ?_
                  refine bg_virt0 rfl rfl rfl rfl ⟨_, hM.Y⟩ ?_
                  refine rp_lineN hF ht k11 k13 k15 hX (bk_Ki ?_)
                  have hla : lnAll Kd rows (t, Pt, od) = (false, (t, Pt, od)) := (if_neg e15).trans ((if_neg e30).trans ((if_neg e46).trans ((if_neg k11).trans ((if_neg k13).trans (if_neg k15)))))
                  have hb5 : LB h0 y u v T P S K C Fx Kd N nv rows (lnAll Kd rows (t, Pt, od)) h 0 := Or.inr ⟨rfl, by rw [hla]; exact Bool.false_ne_true, by rw [hla]; exact hX.e⟩
                  refine bg_istore1 rfl rfl ?_
                  refine bg_iload1 rfl ?_
                  refine bg_if_eq rfl (fun e62 => ?_) (fun e62 => ?_)
                  · obtain ⟨-, r1, hX⟩ := hb5.resolve_left (fun z => absurd (z.1.symm.trans e62) (by decide))
                    refine bg_iconst rfl ?_
                    refine bg_iret rfl rfl (by rfl) ?_
                    first
                      | (refine hQ h 0 (Or.inr ⟨rfl, ?_⟩)
                         rw [lsL_s hk47, sqS_f (a := lnAll Kd rows (t, Pt, od)) (b := fun s => tkS Kd 36 s) r1, sqS_f r1]
                         exact ⟨r1, hX⟩)
                      | (refine hQ h9 0 (Or.inr ⟨rfl, ?_⟩)
                         rw [hu]
                         exact ⟨Bool.false_ne_true, hX.e⟩)
                  · obtain ⟨-, r1, it, W, hL, hX⟩ := hb5.resolve_right (fun z => e62 z.1)
                    have kk := hsk.2.2 r1
                    have ht2 := hsk.1.1
                    obtain ⟨J, F, K2, C2, hM, j0, j3, j4, ⟨f0, f1, f2, f4⟩, hR, ⟨c5, c13, c6, c14⟩, hO⟩ := id hX
                    refine bg_aload0 rfl ?_
                    refine bg_bipush rfl ?_
                    refine bg_virt1 rfl rfl rfl rfl ⟨_, hM.Y⟩ ?_
                    refine rq_eatSign (wKe (k := 36) 36 (by decide) (by decide) (by decide)) (fun z => rof_0 (by rw [z]; decide)) hF ht2 hX (fun h9 b9 hb9 => bk_Ki ?_)
                    refine bg_if_ne rfl (fun e71 => ?_) (fun e71 => ?_)
                    · obtain ⟨-, r2, hX⟩ := hb9.resolve_right (fun z => e71 z.1)
                      have hu : lsL Kd rows (c + 1) (t, Pt, od) = lsL Kd rows c ((lnAll Kd rows (t, Pt, od)).2.1 + 1, (lnAll Kd rows (t, Pt, od)).2.2) := by
                        rw [lsL_s hk47, sqS_t (b := fun s => tkS Kd 36 s) r1]
                        exact tk_t r2
                      have hv2 : SV N ((lnAll Kd rows (t, Pt, od)).2.1 + 1, (lnAll Kd rows (t, Pt, od)).2.2) := ⟨KEk hE ht2 r2 (by decide) (by decide), Nat.le_succ_of_le hsk.1.2⟩
                      refine bg_goto rfl ?_
                      rw [hu] at hQ
                      refine ih _ _ _ _ _ _ _ hv2 (by show N ≤ (lnAll Kd rows (t, Pt, od)).2.1 + 1 + c; have : (lnAll Kd rows (t, Pt, od)).2.1 ≥ t + 1 := kk; omega) ⟨hL.1, hL.2.1, hL.2.2.1, Nat.le_succ_of_le hL.2.2.2.1, hL.2.2.2.2⟩ hX hQ
                    · obtain ⟨-, r2, hX⟩ := hb9.resolve_left (fun z => absurd (z.1.symm.trans e71) (by decide))
                      have hu : lsL Kd rows (c + 1) (t, Pt, od) = (false, (lnAll Kd rows (t, Pt, od)).2) := by
                        rw [lsL_s hk47, sqS_t (b := fun s => tkS Kd 36 s) r1]
                        exact tk_f r2
                      refine bg_iconst rfl ?_
                      refine bg_iret rfl rfl (by rfl) ?_
                      first
                        | (refine hQ h 0 (Or.inr ⟨rfl, ?_⟩)
                           rw [lsL_s hk47, sqS_f (a := lnAll Kd rows (t, Pt, od)) (b := fun s => tkS Kd 36 s) r1, sqS_f r1]
                           exact ⟨r1, hX⟩)
                        | (refine hQ h9 0 (Or.inr ⟨rfl, ?_⟩)
                           rw [hu]
                           exact ⟨Bool.false_ne_true, hX.e⟩)
          · refine bg_aload0 rfl ?_
            refine bg_virt0 rfl rfl rfl rfl ⟨_, hM.Y⟩ ?_
            have hla : lnAll Kd rows (t, Pt, od) = lnSpirit Kd rows (t, Pt, od) := (if_neg e15).trans ((if_neg e30).trans (if_pos e46))
            refine rp_spiritLine hF ht e46 hL hX (fun h5 b5 hb5 => bk_Ki ?_)
            rw [← hla] at hb5
            refine bg_goto rfl ?_
            refine bg_istore1 rfl rfl ?_
            refine bg_iload1 rfl ?_
            refine bg_if_eq rfl (fun e62 => ?_) (fun e62 => ?_)
            · obtain ⟨-, r1, hX⟩ := hb5.resolve_left (fun z => absurd (z.1.symm.trans e62) (by decide))
              refine bg_iconst rfl ?_
              refine bg_iret rfl rfl (by rfl) ?_
              first
                | (refine hQ h5 0 (Or.inr ⟨rfl, ?_⟩)
                   rw [lsL_s hk47, sqS_f (a := lnAll Kd rows (t, Pt, od)) (b := fun s => tkS Kd 36 s) r1, sqS_f r1]
                   exact ⟨r1, hX⟩)
                | (refine hQ h9 0 (Or.inr ⟨rfl, ?_⟩)
                   rw [hu]
                   exact ⟨Bool.false_ne_true, hX.e⟩)
            · obtain ⟨-, r1, it, W, hL, hX⟩ := hb5.resolve_right (fun z => e62 z.1)
              have kk := hsk.2.2 r1
              have ht2 := hsk.1.1
              obtain ⟨J, F, K2, C2, hM, j0, j3, j4, ⟨f0, f1, f2, f4⟩, hR, ⟨c5, c13, c6, c14⟩, hO⟩ := id hX
              refine bg_aload0 rfl ?_
              refine bg_bipush rfl ?_
              refine bg_virt1 rfl rfl rfl rfl ⟨_, hM.Y⟩ ?_
              refine rq_eatSign (wKe (k := 36) 36 (by decide) (by decide) (by decide)) (fun z => rof_0 (by rw [z]; decide)) hF ht2 hX (fun h9 b9 hb9 => bk_Ki ?_)
              refine bg_if_ne rfl (fun e71 => ?_) (fun e71 => ?_)
              · obtain ⟨-, r2, hX⟩ := hb9.resolve_right (fun z => e71 z.1)
                have hu : lsL Kd rows (c + 1) (t, Pt, od) = lsL Kd rows c ((lnAll Kd rows (t, Pt, od)).2.1 + 1, (lnAll Kd rows (t, Pt, od)).2.2) := by
                  rw [lsL_s hk47, sqS_t (b := fun s => tkS Kd 36 s) r1]
                  exact tk_t r2
                have hv2 : SV N ((lnAll Kd rows (t, Pt, od)).2.1 + 1, (lnAll Kd rows (t, Pt, od)).2.2) := ⟨KEk hE ht2 r2 (by decide) (by decide), Nat.le_succ_of_le hsk.1.2⟩
                refine bg_goto rfl ?_
                rw [hu] at hQ
                refine ih _ _ _ _ _ _ _ hv2 (by show N ≤ (lnAll Kd rows (t, Pt, od)).2.1 + 1 + c; have : (lnAll Kd rows (t, Pt, od)).2.1 ≥ t + 1 := kk; omega) ⟨hL.1, hL.2.1, hL.2.2.1, Nat.le_succ_of_le hL.2.2.2.1, hL.2.2.2.2⟩ hX hQ
              · obtain ⟨-, r2, hX⟩ := hb9.resolve_left (fun z => absurd (z.1.symm.trans e71) (by decide))
                have hu : lsL Kd rows (c + 1) (t, Pt, od) = (false, (lnAll Kd rows (t, Pt, od)).2) := by
                  rw [lsL_s hk47, sqS_t (b := fun s => tkS Kd 36 s) r1]
                  exact tk_f r2
                refine bg_iconst rfl ?_
                refine bg_iret rfl rfl (by rfl) ?_
                first
                  | (refine hQ h5 0 (Or.inr ⟨rfl, ?_⟩)
                     rw [lsL_s hk47, sqS_f (a := lnAll Kd rows (t, Pt, od)) (b := fun s => tkS Kd 36 s) r1, sqS_f r1]
                     exact ⟨r1, hX⟩)
                  | (refine hQ h9 0 (Or.inr ⟨rfl, ?_⟩)
                     rw [hu]
                     exact ⟨Bool.false_ne_true, hX.e⟩)
        · refine bg_aload0 rfl ?_
          refine bg_virt0 rfl rfl rfl rfl ⟨_, hM.Y⟩ ?_
          have hla : lnAll Kd rows (t, Pt, od) = lnBeater Kd rows (t, Pt, od) := (if_neg e15).trans (if_pos e30)
          refine rp_beaterLine hF ht e30 hL hX (fun h5 b5 hb5 => bk_Ki ?_)
          rw [← hla] at hb5
          refine bg_goto rfl ?_
          refine bg_istore1 rfl rfl ?_
          refine bg_iload1 rfl ?_
          refine bg_if_eq rfl (fun e62 => ?_) (fun e62 => ?_)
          · obtain ⟨-, r1, hX⟩ := hb5.resolve_left (fun z => absurd (z.1.symm.trans e62) (by decide))
            refine bg_iconst rfl ?_
            refine bg_iret rfl rfl (by rfl) ?_
            first
              | (refine hQ h5 0 (Or.inr ⟨rfl, ?_⟩)
                 rw [lsL_s hk47, sqS_f (a := lnAll Kd rows (t, Pt, od)) (b := fun s => tkS Kd 36 s) r1, sqS_f r1]
                 exact ⟨r1, hX⟩)
              | (refine hQ h9 0 (Or.inr ⟨rfl, ?_⟩)
                 rw [hu]
                 exact ⟨Bool.false_ne_true, hX.e⟩)
          · obtain ⟨-, r1, it, W, hL, hX⟩ := hb5.resolve_right (fun z => e62 z.1)
            have kk := hsk.2.2 r1
            have ht2 := hsk.1.1
            obtain ⟨J, F, K2, C2, hM, j0, j3, j4, ⟨f0, f1, f2, f4⟩, hR, ⟨c5, c13, c6, c14⟩, hO⟩ := id hX
            refine bg_aload0 rfl ?_
            refine bg_bipush rfl ?_
            refine bg_virt1 rfl rfl rfl rfl ⟨_, hM.Y⟩ ?_
            refine rq_eatSign (wKe (k := 36) 36 (by decide) (by decide) (by decide)) (fun z => rof_0 (by rw [z]; decide)) hF ht2 hX (fun h9 b9 hb9 => bk_Ki ?_)
            refine bg_if_ne rfl (fun e71 => ?_) (fun e71 => ?_)
            · obtain ⟨-, r2, hX⟩ := hb9.resolve_right (fun z => e71 z.1)
              have hu : lsL Kd rows (c + 1) (t, Pt, od) = lsL Kd rows c ((lnAll Kd rows (t, Pt, od)).2.1 + 1, (lnAll Kd rows (t, Pt, od)).2.2) := by
                rw [lsL_s hk47, sqS_t (b := fun s => tkS Kd 36 s) r1]
                exact tk_t r2
              have hv2 : SV N ((lnAll Kd rows (t, Pt, od)).2.1 + 1, (lnAll Kd rows (t, Pt, od)).2.2) := ⟨KEk hE ht2 r2 (by decide) (by decide), Nat.le_succ_of_le hsk.1.2⟩
              refine bg_goto rfl ?_
              rw [hu] at hQ
              refine ih _ _ _ _ _ _ _ hv2 (by show N ≤ (lnAll Kd rows (t, Pt, od)).2.1 + 1 + c; have : (lnAll Kd rows (t, Pt, od)).2.1 ≥ t + 1 := kk; omega) ⟨hL.1, hL.2.1, hL.2.2.1, Nat.le_succ_of_le hL.2.2.2.1, hL.2.2.2.2⟩ hX hQ
            · obtain ⟨-, r2, hX⟩ := hb9.resolve_left (fun z => absurd (z.1.symm.trans e71) (by decide))
              have hu : lsL Kd rows (c + 1) (t, Pt, od) = (false, (lnAll Kd rows (t, Pt, od)).2) := by
                rw [lsL_s hk47, sqS_t (b := fun s => tkS Kd 36 s) r1]
                exact tk_f r2
              refine bg_iconst rfl ?_
              refine bg_iret rfl rfl (by rfl) ?_
              first
                | (refine hQ h5 0 (Or.inr ⟨rfl, ?_⟩)
                   rw [lsL_s hk47, sqS_f (a := lnAll Kd rows (t, Pt, od)) (b := fun s => tkS Kd 36 s) r1, sqS_f r1]
                   exact ⟨r1, hX⟩)
                | (refine hQ h9 0 (Or.inr ⟨rfl, ?_⟩)
                   rw [hu]
                   exact ⟨Bool.false_ne_true, hX.e⟩)
      · refine bg_aload0 rfl ?_
        refine bg_virt0 rfl rfl rfl rfl ⟨_, hM.Y⟩ ?_
        have hla : lnAll Kd rows (t, Pt, od) = lnBark Kd rows (t, Pt, od) := if_pos e15
        refine rp_barkLine hF ht e15 hL hX (fun h5 b5 hb5 => bk_Ki ?_)
        rw [← hla] at hb5
        refine bg_goto rfl ?_
        refine bg_istore1 rfl rfl ?_
        refine bg_iload1 rfl ?_
        refine bg_if_eq rfl (fun e62 => ?_) (fun e62 => ?_)
        · obtain ⟨-, r1, hX⟩ := hb5.resolve_left (fun z => absurd (z.1.symm.trans e62) (by decide))
          refine bg_iconst rfl ?_
          refine bg_iret rfl rfl (by rfl) ?_
          first
            | (refine hQ h5 0 (Or.inr ⟨rfl, ?_⟩)
               rw [lsL_s hk47, sqS_f (a := lnAll Kd rows (t, Pt, od)) (b := fun s => tkS Kd 36 s) r1, sqS_f r1]
               exact ⟨r1, hX⟩)
            | (refine hQ h9 0 (Or.inr ⟨rfl, ?_⟩)
               rw [hu]
               exact ⟨Bool.false_ne_true, hX.e⟩)
        · obtain ⟨-, r1, it, W, hL, hX⟩ := hb5.resolve_right (fun z => e62 z.1)
          have kk := hsk.2.2 r1
          have ht2 := hsk.1.1
          obtain ⟨J, F, K2, C2, hM, j0, j3, j4, ⟨f0, f1, f2, f4⟩, hR, ⟨c5, c13, c6, c14⟩, hO⟩ := id hX
          refine bg_aload0 rfl ?_
          refine bg_bipush rfl ?_
          refine bg_virt1 rfl rfl rfl rfl ⟨_, hM.Y⟩ ?_
          refine rq_eatSign (wKe (k := 36) 36 (by decide) (by decide) (by decide)) (fun z => rof_0 (by rw [z]; decide)) hF ht2 hX (fun h9 b9 hb9 => bk_Ki ?_)
          refine bg_if_ne rfl (fun e71 => ?_) (fun e71 => ?_)
          · obtain ⟨-, r2, hX⟩ := hb9.resolve_right (fun z => e71 z.1)
            have hu : lsL Kd rows (c + 1) (t, Pt, od) = lsL Kd rows c ((lnAll Kd rows (t, Pt, od)).2.1 + 1, (lnAll Kd rows (t, Pt, od)).2.2) := by
              rw [lsL_s hk47, sqS_t (b := fun s => tkS Kd 36 s) r1]
              exact tk_t r2
            have hv2 : SV N ((lnAll Kd rows (t, Pt, od)).2.1 + 1, (lnAll Kd rows (t, Pt, od)).2.2) := ⟨KEk hE ht2 r2 (by decide) (by decide), Nat.le_succ_of_le hsk.1.2⟩
            refine bg_goto rfl ?_
            rw [hu] at hQ
            refine ih _ _ _ _ _ _ _ hv2 (by show N ≤ (lnAll Kd rows (t, Pt, od)).2.1 + 1 + c; have : (lnAll Kd rows (t, Pt, od)).2.1 ≥ t + 1 := kk; omega) ⟨hL.1, hL.2.1, hL.2.2.1, Nat.le_succ_of_le hL.2.2.2.1, hL.2.2.2.2⟩ hX hQ
          · obtain ⟨-, r2, hX⟩ := hb9.resolve_left (fun z => absurd (z.1.symm.trans e71) (by decide))
            have hu : lsL Kd rows (c + 1) (t, Pt, od) = (false, (lnAll Kd rows (t, Pt, od)).2) := by
              rw [lsL_s hk47, sqS_t (b := fun s => tkS Kd 36 s) r1]
              exact tk_f r2
            refine bg_iconst rfl ?_
            refine bg_iret rfl rfl (by rfl) ?_
            first
              | (refine hQ h5 0 (Or.inr ⟨rfl, ?_⟩)
                 rw [lsL_s hk47, sqS_f (a := lnAll Kd rows (t, Pt, od)) (b := fun s => tkS Kd 36 s) r1, sqS_f r1]
                 exact ⟨r1, hX⟩)
              | (refine hQ h9 0 (Or.inr ⟨rfl, ?_⟩)
                 rw [hu]
                 exact ⟨Bool.false_ne_true, hX.e⟩)

theorem rp_plan (hF : FXk Fx Kd N) (hV : NVk Fx Kd N T nv) (h0N : 0 < N) (hX : PR h0 y u v T P S K C Fx Kd N W [] [] 0 0 h) (hW : W.1 = 0) (hQ : (∀ (h' : bk_H) (b : Int32), LB h0 y u v T P S K C Fx Kd N nv rows (lsL Kd rows 401 (0, (fun _ => []), od)) h' b → Q (.inl (some (.int b))) h' n)) : bk_wp V (D + 64) 169 [.ref y] h n B Q := by
  have hNN := hF.2.2.1
  refine bg_in rfl rfl ?_
  exact rp_planL hF hV 401 0 (fun _ => []) od [] W none h ⟨h0N, Nat.le_refl 0⟩ (by show N ≤ 0 + 401; omega) ⟨rfl, by rw [hW]; rfl, fun q hq => absurd hq List.not_mem_nil, by rw [hW]; exact Nat.le_refl 0, fun o ho => absurd ho (Nat.not_lt_zero o), fun q hq => absurd hq List.not_mem_nil⟩ hX hQ
end MM
