/-! THE REFERENCE: lines of orders. Printed by wip/whole/mk84.py. -/
section MM
variable {V : bk_V} {D n : Nat} {B : Nat × Nat} {Q : bk_R → bk_H → Nat → Prop} {h0 h : bk_H} {y u v t d N : Nat} {T : List Int32} {P : Nat → bT} {S : bS} {K J : rI} {C Fx : rA} {Kd : Nat → Int32} {nv : Nat → Int32} {W : rW} {cl : List Int32} {ol : List Nat} {it : List bIt} {cs : Nat × Nat} {rows : bT} {Pt : Nat → bT} {od : Int32}
theorem rp_ordS (hF : FXk Fx Kd N) (hV : NVk Fx Kd N T nv) (hk0 : Kd t = 11) (q1 : t + 1 < N) (hl : it.length ≤ t) (hX : PR h0 y u v T P S K C Fx Kd N W (rcL nv it) (opL it 0) (t + 1) 0 h) (hQ : ∀ (h' : bk_H) (b : Int32), (b = 1 ∧ Kd (t + 1) = 30 ∧ Kd (t + 2) = 12 ∧ (pp Kd 3300 3 0 (t + 3)).1 = true ∧ PR h0 y u v T P S K C Fx Kd N W (rcL nv (it ++ (pp Kd 3300 3 0 (t + 3)).2.2)) (opL (it ++ (pp Kd 3300 3 0 (t + 3)).2.2) 0) (pp Kd 3300 3 0 (t + 3)).2.1 0 h') ∨ (b = 0 ∧ ((¬ Kd (t + 1) = 30 ∧ PE h0 y u v T P S K C Fx (t + 1) h') ∨ (Kd (t + 1) = 30 ∧ ¬ Kd (t + 2) = 12 ∧ PE h0 y u v T P S K C Fx (t + 2) h') ∨ (Kd (t + 1) = 30 ∧ Kd (t + 2) = 12 ∧ ¬ (pp Kd 3300 3 0 (t + 3)).1 = true ∧ PE h0 y u v T P S K C Fx (pp Kd 3300 3 0 (t + 3)).2.1 h'))) → Q (.inl (some (.int b))) h' n) : bk_wp V (D + 61) 174 [.ref y, .int 10] h n B Q := by
  obtain ⟨i0, i1, i2, i3, i4, i5, i6, i7, i8, i9⟩ := rp_all (h0 := h0) (y := y) (u := u) (v := v) (P := P) (S := S) (K := K) (C := C) (W := W) (V := V) hF hV 3300
  have hE := hF.2.2.2
  have hNN := hF.2.2.1
  obtain ⟨J, F, K2, C2, hM, j0, j3, j4, ⟨f0, f1, f2, f4⟩, hR, ⟨c5, c13, c6, c14⟩, hO⟩ := id hX
  refine bg_in rfl rfl ?_
  refine bg_iload1 rfl ?_
  refine bg_bipush rfl ?_
  refine bg_icmp_ne rfl (fun e3 => absurd rfl e3) (fun e3 => ?_)
  refine bg_aload0 rfl ?_
  refine bg_bipush rfl ?_
  refine bg_bipush rfl ?_
  refine bg_virt2 rfl rfl rfl rfl ⟨_, hM.Y⟩ ?_
  refine rq_eatAs (t := t + 1) (wKe (k := 30) 30 (by decide) (by decide) (by decide)) (fun z => by rw [rof_s, z, hk0]; decide) hF q1 hX (fun h1 b1 hb1 => bk_Ki ?_)
  refine bg_if_eq rfl (fun e14 => ?_) (fun e14 => ?_)
  · obtain ⟨-, w, hX⟩ := hb1.resolve_left (fun z => absurd (z.1.symm.trans e14) (by decide))
    have hfin := hQ h1 0 (Or.inr ⟨rfl, Or.inl ⟨w, hX⟩⟩)
    refine bg_iconst rfl ?_
    refine bg_iret rfl rfl (by rfl) ?_
    exact hfin
  · obtain ⟨-, k1, hX⟩ := hb1.resolve_right (fun z => e14 z.1)
    have q2 : t + 2 < N := KEk hE q1 k1 (by decide) (by decide)
    obtain ⟨J, F, K2, C2, hM, j0, j3, j4, ⟨f0, f1, f2, f4⟩, hR, ⟨c5, c13, c6, c14⟩, hO⟩ := id hX
    refine bg_aload0 rfl ?_
    refine bg_bipush rfl ?_
    refine bg_virt1 rfl rfl rfl rfl ⟨_, hM.Y⟩ ?_
    refine rq_eat (t := t + 2) (wKe (k := 12) 12 (by decide) (by decide) (by decide)) (fun z => rof_0 (by rw [z]; decide)) hF q2 hX (fun h2 b2 hb2 => bk_Ki ?_)
    refine bg_if_eq rfl (fun e23 => ?_) (fun e23 => ?_)
    · obtain ⟨-, w, hX⟩ := hb2.resolve_left (fun z => absurd (z.1.symm.trans e23) (by decide))
      have hfin := hQ h2 0 (Or.inr ⟨rfl, Or.inr (Or.inl ⟨k1, w, hX.e⟩)⟩)
      refine bg_iconst rfl ?_
      refine bg_iret rfl rfl (by rfl) ?_
      exact hfin
    · obtain ⟨-, k2, hX⟩ := hb2.resolve_right (fun z => e23 z.1)
      have q3 : t + 3 < N := KEk hE q2 k2 (by decide) (by decide)
      obtain ⟨J, F, K2, C2, hM, j0, j3, j4, ⟨f0, f1, f2, f4⟩, hR, ⟨c5, c13, c6, c14⟩, hO⟩ := id hX
      refine bg_aload0 rfl ?_
      refine bg_virt0 rfl rfl rfl rfl ⟨_, hM.Y⟩ ?_
      refine i3 _ 0 (t + 3) it _ _ _ _ (by decide) q3 (by omega) ⟨t + 2, rfl, by rw [k2]; decide⟩ (by omega) (by omega) hX (fun h3 b3 hb3 => bk_Ki ?_)
      refine bg_if_eq rfl (fun e30 => ?_) (fun e30 => ?_)
      · obtain ⟨-, r1, hX⟩ := hb3.resolve_left (fun z => absurd (z.1.symm.trans e30) (by decide))
        have hfin := hQ h3 0 (Or.inr ⟨rfl, Or.inr (Or.inr ⟨k1, k2, r1, hX⟩)⟩)
        refine bg_iconst rfl ?_
        refine bg_iret rfl rfl (by rfl) ?_
        exact hfin
      · obtain ⟨-, r1, hX⟩ := hb3.resolve_right (fun z => e30 z.1)
        have hfin := hQ h3 1 (Or.inl ⟨rfl, k1, k2, r1, hX⟩)
        refine bg_iconst rfl ?_
        refine bg_goto rfl ?_
        refine bg_iret rfl rfl (by rfl) ?_
        exact hfin
theorem rp_ordB (hF : FXk Fx Kd N) (hk0 : Kd t = 13) (q1 : t + 1 < N) (hX : PR h0 y u v T P S K C Fx Kd N W (rcL nv it) (opL it 0) (t + 1) 0 h) (hQ : ∀ (h' : bk_H) (b : Int32), (b = 1 ∧ Kd (t + 1) = 30 ∧ Kd (t + 2) = 14 ∧ Kd (t + 3) = 30 ∧ PR h0 y u v T P S K C Fx Kd N W (rcL nv it) (opL it 0) (t + 4) 0 h') ∨ (b = 0 ∧ ((¬ Kd (t + 1) = 30 ∧ PE h0 y u v T P S K C Fx (t + 1) h') ∨ (Kd (t + 1) = 30 ∧ ¬ Kd (t + 2) = 14 ∧ PE h0 y u v T P S K C Fx (t + 2) h') ∨ (Kd (t + 1) = 30 ∧ Kd (t + 2) = 14 ∧ ¬ Kd (t + 3) = 30 ∧ PE h0 y u v T P S K C Fx (t + 3) h'))) → Q (.inl (some (.int b))) h' n) : bk_wp V (D + 61) 174 [.ref y, .int 12] h n B Q := by
  have hE := hF.2.2.2
  have hNN := hF.2.2.1
  obtain ⟨J, F, K2, C2, hM, j0, j3, j4, ⟨f0, f1, f2, f4⟩, hR, ⟨c5, c13, c6, c14⟩, hO⟩ := id hX
  refine bg_in rfl rfl ?_
  refine bg_iload1 rfl ?_
  refine bg_bipush rfl ?_
  refine bg_icmp_ne rfl (fun e3 => ?_) (fun e3 => absurd e3 (by decide))
  refine bg_iload1 rfl ?_
  refine bg_bipush rfl ?_
  refine bg_icmp_ne rfl (fun e42 => absurd rfl e42) (fun e42 => ?_)
  refine bg_aload0 rfl ?_
  refine bg_bipush rfl ?_
  refine bg_bipush rfl ?_
  refine bg_virt2 rfl rfl rfl rfl ⟨_, hM.Y⟩ ?_
  refine rq_eatAs (t := t + 1) (wKe (k := 30) 30 (by decide) (by decide) (by decide)) (fun z => by rw [rof_s, z, hk0]; decide) hF q1 hX (fun h1 b1 hb1 => bk_Ki ?_)
  refine bg_if_eq rfl (fun e53 => ?_) (fun e53 => ?_)
  · obtain ⟨-, w, hX⟩ := hb1.resolve_left (fun z => absurd (z.1.symm.trans e53) (by decide))
    have hfin := hQ h1 0 (Or.inr ⟨rfl, Or.inl ⟨w, hX⟩⟩)
    refine bg_iconst rfl ?_
    refine bg_iret rfl rfl (by rfl) ?_
    exact hfin
  · obtain ⟨-, k1, hX⟩ := hb1.resolve_right (fun z => e53 z.1)
    have q2 : t + 2 < N := KEk hE q1 k1 (by decide) (by decide)
    obtain ⟨J, F, K2, C2, hM, j0, j3, j4, ⟨f0, f1, f2, f4⟩, hR, ⟨c5, c13, c6, c14⟩, hO⟩ := id hX
    refine bg_aload0 rfl ?_
    refine bg_bipush rfl ?_
    refine bg_virt1 rfl rfl rfl rfl ⟨_, hM.Y⟩ ?_
    refine rq_eat (t := t + 2) (wKe (k := 14) 14 (by decide) (by decide) (by decide)) (fun z => rof_0 (by rw [z]; decide)) hF q2 hX (fun h2 b2 hb2 => bk_Ki ?_)
    refine bg_if_eq rfl (fun e62 => ?_) (fun e62 => ?_)
    · obtain ⟨-, w, hX⟩ := hb2.resolve_left (fun z => absurd (z.1.symm.trans e62) (by decide))
      have hfin := hQ h2 0 (Or.inr ⟨rfl, Or.inr (Or.inl ⟨k1, w, hX.e⟩)⟩)
      refine bg_iconst rfl ?_
      refine bg_iret rfl rfl (by rfl) ?_
      exact hfin
    · obtain ⟨-, k2, hX⟩ := hb2.resolve_right (fun z => e62 z.1)
      have q3 : t + 3 < N := KEk hE q2 k2 (by decide) (by decide)
      obtain ⟨J, F, K2, C2, hM, j0, j3, j4, ⟨f0, f1, f2, f4⟩, hR, ⟨c5, c13, c6, c14⟩, hO⟩ := id hX
      refine bg_aload0 rfl ?_
      refine bg_bipush rfl ?_
      refine bg_bipush rfl ?_
      refine bg_virt2 rfl rfl rfl rfl ⟨_, hM.Y⟩ ?_
      refine rq_eatAs (t := t + 3) (wKe (k := 30) 30 (by decide) (by decide) (by decide)) (fun z => by rw [rof_s, z, k2]; decide) hF q3 hX (fun h3 b3 hb3 => bk_Ki ?_)
      refine bg_if_eq rfl (fun e73 => ?_) (fun e73 => ?_)
      · obtain ⟨-, w, hX⟩ := hb3.resolve_left (fun z => absurd (z.1.symm.trans e73) (by decide))
        have hfin := hQ h3 0 (Or.inr ⟨rfl, Or.inr (Or.inr ⟨k1, k2, w, hX⟩)⟩)
        refine bg_iconst rfl ?_
        refine bg_iret rfl rfl (by rfl) ?_
        exact hfin
      · obtain ⟨-, k3, hX⟩ := hb3.resolve_right (fun z => e73 z.1)
        have q4 : t + 4 < N := KEk hE q3 k3 (by decide) (by decide)
        obtain ⟨J, F, K2, C2, hM, j0, j3, j4, ⟨f0, f1, f2, f4⟩, hR, ⟨c5, c13, c6, c14⟩, hO⟩ := id hX
        have hfin := hQ h3 1 (Or.inl ⟨rfl, k1, k2, k3, hX⟩)
        refine bg_iconst rfl ?_
        refine bg_goto rfl ?_
        refine bg_iret rfl rfl (by rfl) ?_
        exact hfin
theorem rp_ordC (hF : FXk Fx Kd N) (hk0 : Kd t = 15) (q1 : t + 1 < N) (hX : PR h0 y u v T P S K C Fx Kd N W (rcL nv it) (opL it 0) (t + 1) 0 h) (hQ : ∀ (h' : bk_H) (b : Int32), (b = 1 ∧ Kd (t + 1) = 30 ∧ Kd (t + 2) = 16 ∧ Kd (t + 3) = 30 ∧ PR h0 y u v T P S K C Fx Kd N W (rcL nv it) (opL it 0) (t + 4) 0 h') ∨ (b = 0 ∧ ((¬ Kd (t + 1) = 30 ∧ PE h0 y u v T P S K C Fx (t + 1) h') ∨ (Kd (t + 1) = 30 ∧ ¬ Kd (t + 2) = 16 ∧ PE h0 y u v T P S K C Fx (t + 2) h') ∨ (Kd (t + 1) = 30 ∧ Kd (t + 2) = 16 ∧ ¬ Kd (t + 3) = 30 ∧ PE h0 y u v T P S K C Fx (t + 3) h'))) → Q (.inl (some (.int b))) h' n) : bk_wp V (D + 61) 174 [.ref y, .int 14] h n B Q := by
  have hE := hF.2.2.2
  have hNN := hF.2.2.1
  obtain ⟨J, F, K2, C2, hM, j0, j3, j4, ⟨f0, f1, f2, f4⟩, hR, ⟨c5, c13, c6, c14⟩, hO⟩ := id hX
  refine bg_in rfl rfl ?_
  refine bg_iload1 rfl ?_
  refine bg_bipush rfl ?_
  refine bg_icmp_ne rfl (fun e3 => ?_) (fun e3 => absurd e3 (by decide))
  refine bg_iload1 rfl ?_
  refine bg_bipush rfl ?_
  refine bg_icmp_ne rfl (fun e42 => ?_) (fun e42 => absurd e42 (by decide))
  refine bg_aload0 rfl ?_
  refine bg_bipush rfl ?_
  refine bg_bipush rfl ?_
  refine bg_virt2 rfl rfl rfl rfl ⟨_, hM.Y⟩ ?_
  refine rq_eatAs (t := t + 1) (wKe (k := 30) 30 (by decide) (by decide) (by decide)) (fun z => by rw [rof_s, z, hk0]; decide) hF q1 hX (fun h1 b1 hb1 => bk_Ki ?_)
  refine bg_if_eq rfl (fun e90 => ?_) (fun e90 => ?_)
  · obtain ⟨-, w, hX⟩ := hb1.resolve_left (fun z => absurd (z.1.symm.trans e90) (by decide))
    have hfin := hQ h1 0 (Or.inr ⟨rfl, Or.inl ⟨w, hX⟩⟩)
    refine bg_iconst rfl ?_
    refine bg_iret rfl rfl (by rfl) ?_
    exact hfin
  · obtain ⟨-, k1, hX⟩ := hb1.resolve_right (fun z => e90 z.1)
    have q2 : t + 2 < N := KEk hE q1 k1 (by decide) (by decide)
    obtain ⟨J, F, K2, C2, hM, j0, j3, j4, ⟨f0, f1, f2, f4⟩, hR, ⟨c5, c13, c6, c14⟩, hO⟩ := id hX
    refine bg_aload0 rfl ?_
    refine bg_bipush rfl ?_
    refine bg_virt1 rfl rfl rfl rfl ⟨_, hM.Y⟩ ?_
    refine rq_eat (t := t + 2) (wKe (k := 16) 16 (by decide) (by decide) (by decide)) (fun z => rof_0 (by rw [z]; decide)) hF q2 hX (fun h2 b2 hb2 => bk_Ki ?_)
    refine bg_if_eq rfl (fun e99 => ?_) (fun e99 => ?_)
    · obtain ⟨-, w, hX⟩ := hb2.resolve_left (fun z => absurd (z.1.symm.trans e99) (by decide))
      have hfin := hQ h2 0 (Or.inr ⟨rfl, Or.inr (Or.inl ⟨k1, w, hX.e⟩)⟩)
      refine bg_iconst rfl ?_
      refine bg_iret rfl rfl (by rfl) ?_
      exact hfin
    · obtain ⟨-, k2, hX⟩ := hb2.resolve_right (fun z => e99 z.1)
      have q3 : t + 3 < N := KEk hE q2 k2 (by decide) (by decide)
      obtain ⟨J, F, K2, C2, hM, j0, j3, j4, ⟨f0, f1, f2, f4⟩, hR, ⟨c5, c13, c6, c14⟩, hO⟩ := id hX
      refine bg_aload0 rfl ?_
      refine bg_bipush rfl ?_
      refine bg_bipush rfl ?_
      refine bg_virt2 rfl rfl rfl rfl ⟨_, hM.Y⟩ ?_
      refine rq_eatAs (t := t + 3) (wKe (k := 30) 30 (by decide) (by decide) (by decide)) (fun z => by rw [rof_s, z, k2]; decide) hF q3 hX (fun h3 b3 hb3 => bk_Ki ?_)
      refine bg_if_eq rfl (fun e110 => ?_) (fun e110 => ?_)
      · obtain ⟨-, w, hX⟩ := hb3.resolve_left (fun z => absurd (z.1.symm.trans e110) (by decide))
        have hfin := hQ h3 0 (Or.inr ⟨rfl, Or.inr (Or.inr ⟨k1, k2, w, hX⟩)⟩)
        refine bg_iconst rfl ?_
        refine bg_iret rfl rfl (by rfl) ?_
        exact hfin
      · obtain ⟨-, k3, hX⟩ := hb3.resolve_right (fun z => e110 z.1)
        have q4 : t + 4 < N := KEk hE q3 k3 (by decide) (by decide)
        obtain ⟨J, F, K2, C2, hM, j0, j3, j4, ⟨f0, f1, f2, f4⟩, hR, ⟨c5, c13, c6, c14⟩, hO⟩ := id hX
        have hfin := hQ h3 1 (Or.inl ⟨rfl, k1, k2, k3, hX⟩)
        refine bg_iconst rfl ?_
        refine bg_goto rfl ?_
        refine bg_iret rfl rfl (by rfl) ?_
        exact hfin
theorem rp_lineS (hF : FXk Fx Kd N) (hV : NVk Fx Kd N T nv) (ht : t < N) (hk0 : Kd t = 11) (hl : it.length ≤ t) (hL : LR Kd rows (t, Pt, od) it W) (hX : PR h0 y u v T P S K C Fx Kd N W (rcL nv it) (opL it 0) t 0 h) (hQ : (∀ (h' : bk_H) (b : Int32), LB h0 y u v T P S K C Fx Kd N nv rows (lnAll Kd rows (t, Pt, od)) h' b → Q (.inl (some (.int b))) h' n)) : bk_wp V (D + 62) 173 [.ref y] h n B Q := by
  obtain ⟨J, F, K2, C2, hM, j0, j3, j4, ⟨f0, f1, f2, f4⟩, hR, ⟨c5, c13, c6, c14⟩, hO⟩ := id hX
  have hE := hF.2.2.2
  have hNN := hF.2.2.1
  have hW1 : W.1 ≤ t := hL.2.2.2.1
  have hP4 : Pt 4 = it.map (rwF rows) := hL.1
  have hl3 : (Pt 3).length < 2 ^ 31 := by
    have : (Pt 3).length = min W.1 24 := hL.2.1
    omega
  have hit : it.length ≤ t := hl
  have hmin : iMin (nI W.1) 24 = nI (min W.1 24) := bt_min (y := 24) (by omega) (by decide)
  have hm25 : (min W.1 24) < 25 := by omega
  have hkk : F 0 t = 10 := by
    rw [f0, hF.1 t ht, hk0]
    decide
  have q1 : t + 1 < N := KEk hE ht hk0 (by decide) (by decide)
  have hrof : rof Kd t = 4 := by
    unfold rof roF
    rw [hk0]
    rfl
  refine bg_in rfl rfl ?_
  refine bg_aload0 rfl ?_
  refine bg_getfield rfl rfl hM.Y (by rfl) ?_
  refine bg_aload0 rfl ?_
  refine bg_getfield rfl rfl hM.Y (by rfl) ?_
  rw [j3]
  refine bg_iaload_n rfl hM.f0 (by decide) (by omega) ?_
  rw [hkk]
  refine bg_istore1 rfl rfl ?_
  refine bg_iload1 rfl ?_
  refine bg_bipush rfl ?_
  refine bg_icmp_eq rfl (fun e13 => ?_) (fun e13 => absurd rfl e13)
  refine bg_aload0 rfl ?_
  refine bg_getfield rfl rfl hM.Y (by rfl) ?_
  refine bg_aload0 rfl ?_
  refine bg_getfield rfl rfl hM.Y (by rfl) ?_
  refine bg_iload1 rfl ?_
  refine bg_bipush rfl ?_
  refine bg_icmp_ne rfl (fun e41 => absurd rfl e41) (fun e41 => ?_)
  refine bg_iconst rfl ?_
  refine bg_goto rfl ?_
  rw [j3]
  refine bg_iastore_n rfl hM.f3 (by decide) (by omega) (fun h60 f60 g60 => ?_)
  have hM := hM.ff3 f60 g60
  refine bg_aload0 rfl ?_
  refine bg_dup rfl rfl ?_
  refine bg_getfield rfl rfl hM.Y (by rfl) ?_
  refine bg_iconst rfl ?_
  refine bg_iadd rfl ?_
  refine bg_putfield rfl rfl hM.Y (by rfl) ⟨rfl, rfl⟩ (by rfl) (fun h68 f68 g68 => ?_)
  rw [j3, nI_1] at f68
  have hM := hM.j (J' := upd J 3 (nI (t + 1))) f68 g68 rfl
  refine bg_aload0 rfl ?_
  refine bg_getfield rfl rfl hM.Y (by rfl) ?_
  refine bg_getfield rfl rfl hM.R.1 (by rfl) ?_
  rw [hO.2.1]
  refine bg_bipush rfl ?_
  refine bg_min rfl rfl rfl ?_
  change bk_g _ _ _ _ _ _ _ [.int (iMin (nI W.1) 24)] _ _ _
  rw [hmin]
  refine bg_istore2 rfl rfl ?_
  refine bg_aload0 rfl ?_
  refine bg_getfield rfl rfl hM.Y (by rfl) ?_
  refine bg_dup rfl rfl ?_
  refine bg_getfield rfl rfl hM.R.1 (by rfl) ?_
  refine bg_iconst rfl ?_
  refine bg_iadd rfl ?_
  refine bg_putfield rfl rfl hM.R.1 (by rfl) ⟨rfl, rfl⟩ (by rfl) (fun h94 f94 g94 => ?_)
  rw [hO.2.1, nI_1] at f94
  have hM := hM.kk4 f94 g94
  refine bg_aload0 rfl ?_
  refine bg_getfield rfl rfl hM.Y (by rfl) ?_
  refine bg_getfield rfl rfl hM.R.1 (by rfl) ?_
  refine bg_iload2 rfl ?_
  refine bg_aload0 rfl ?_
  refine bg_getfield rfl rfl hM.Y (by rfl) ?_
  refine bg_getfield rfl rfl hM.R.1 (by rfl) ?_
  rw [show upd K2 4 (nI (W.1 + 1)) 5 = nI (lnL it) from c5.trans (by rw [rcL_len])]
  refine bg_iastore_n rfl (pR11 hM.R) (by decide) (by omega) (fun h112 f112 g112 => ?_)
  have hM := hM.cc10 f112 g112
  have hX : PR h0 y u v T P S K C Fx Kd N (W.1 + 1, upd W.2.1 (min W.1 24) (nI (lnL it)), W.2.2.1, W.2.2.2) (rcL nv it) (opL it 0) (t + 1) 0 h112 := ⟨_, _, _, _, hM, j0, rfl, j4, ⟨f0, f1, f2, f4⟩, RoL_s hR hrof, ⟨c5, c13, c6, c14⟩, ⟨fun k hk => (if_neg (by omega)).trans (hO.1 k hk), rfl, (congrArg (fun f => upd f (min W.1 24) (nI (lnL it))) hO.2.2.1 : _), hO.2.2.2⟩⟩
  refine bg_aload0 rfl ?_
  refine bg_iload1 rfl ?_
  refine bg_virt1 rfl rfl rfl rfl ⟨_, hM.Y⟩ ?_
  refine rp_ordS hF hV hk0 q1 hl hX (fun h4 b4 hb4 => bk_Ki ?_)
  refine bg_if_ne rfl (fun e118 => ?_) (fun e118 => ?_)
  · obtain ⟨-, k1, k2, r1, hX⟩ := hb4.resolve_right (fun z => e118 z.1)
    have kk1 := pp_k hE 3300 3 0 (t + 3) (by have a1 := KEk hE q1 k1 (by decide) (by decide); exact KEk hE a1 k2 (by decide) (by decide))
    have kk4 := kk1.2.2.2
    have kk5 := kk1.1
    have kk6 := kk1.2.1
    obtain ⟨J, F, K2, C2, hM, j0, j3, j4, ⟨f0, f1, f2, f4⟩, hR, ⟨c5, c13, c6, c14⟩, hO⟩ := id hX
    refine bg_aload0 rfl ?_
    refine bg_getfield rfl rfl hM.Y (by rfl) ?_
    refine bg_getfield rfl rfl hM.R.1 (by rfl) ?_
    refine bg_iload2 rfl ?_
    refine bg_aload0 rfl ?_
    refine bg_getfield rfl rfl hM.Y (by rfl) ?_
    refine bg_getfield rfl rfl hM.R.1 (by rfl) ?_
    rw [show K2 5 = nI (lnL (it ++ (pp Kd 3300 3 0 (t + 3)).2.2)) from c5.trans (by rw [rcL_len])]
    refine bg_iastore_n rfl (pR12 hM.R) (by decide) (by omega) (fun h138 f138 g138 => ?_)
    have hM := hM.cc11 f138 g138
    have hX : PR h0 y u v T P S K C Fx Kd N (W.1 + 1, upd W.2.1 (min W.1 24) (nI (lnL it)), upd W.2.2.1 (min W.1 24) (nI (lnL (it ++ (pp Kd 3300 3 0 (t + 3)).2.2))), W.2.2.2) (rcL nv (it ++ (pp Kd 3300 3 0 (t + 3)).2.2)) (opL (it ++ (pp Kd 3300 3 0 (t + 3)).2.2) 0) (pp Kd 3300 3 0 (t + 3)).2.1 0 h138 := ⟨_, _, _, _, hM, j0, j3, j4, ⟨f0, f1, f2, f4⟩, hR, ⟨c5, c13, c6, c14⟩, ⟨hO.1, hO.2.1, hO.2.2.1, (congrArg (fun f => upd f (min W.1 24) (nI (lnL (it ++ (pp Kd 3300 3 0 (t + 3)).2.2)))) hO.2.2.2.1 : _), hO.2.2.2.2⟩⟩
    refine bg_aload0 rfl ?_
    refine bg_bipush rfl ?_
    refine bg_virt1 rfl rfl rfl rfl ⟨_, hM.Y⟩ ?_
    refine rq_eat (wKe (k := 17) 17 (by decide) (by decide) (by decide)) (fun z => rof_0 (by rw [z]; decide)) hF kk5 hX (fun h5 b5 hb5 => bk_Ki ?_)
    refine bg_if_eq rfl (fun e145 => ?_) (fun e145 => ?_)
    · obtain ⟨-, hw, hX⟩ := hb5.resolve_left (fun z => absurd (z.1.symm.trans e145) (by decide))
      obtain ⟨J, F, K2, C2, hM, j0, j3, j4, ⟨f0, f1, f2, f4⟩, hR, ⟨c5, c13, c6, c14⟩, hO⟩ := id hX
      refine bg_aload0 rfl ?_
      refine bg_getfield rfl rfl hM.Y (by rfl) ?_
      refine bg_getfield rfl rfl hM.R.1 (by rfl) ?_
      refine bg_iload2 rfl ?_
      refine bg_aload0 rfl ?_
      refine bg_getfield rfl rfl hM.Y (by rfl) ?_
      refine bg_getfield rfl rfl hM.R.1 (by rfl) ?_
      rw [show K2 5 = nI (lnL (it ++ (pp Kd 3300 3 0 (t + 3)).2.2)) from c5.trans (by rw [rcL_len])]
      refine bg_iastore_n rfl (pR13 hM.R) (by decide) (by omega) (fun h172 f172 g172 => ?_)
      have hM := hM.cc12 f172 g172
      refine bg_iconst rfl ?_
      refine bg_iret rfl rfl (by rfl) ?_
      have hX : PR h0 y u v T P S K C Fx Kd N (W.1 + 1, upd W.2.1 (min W.1 24) (nI (lnL it)), upd W.2.2.1 (min W.1 24) (nI (lnL (it ++ (pp Kd 3300 3 0 (t + 3)).2.2))), upd W.2.2.2 (min W.1 24) (nI (lnL (it ++ (pp Kd 3300 3 0 (t + 3)).2.2)))) (rcL nv (it ++ (pp Kd 3300 3 0 (t + 3)).2.2)) (opL (it ++ (pp Kd 3300 3 0 (t + 3)).2.2) 0) (pp Kd 3300 3 0 (t + 3)).2.1 0 h172 := ⟨_, _, _, _, hM, j0, j3, j4, ⟨f0, f1, f2, f4⟩, hR, ⟨c5, c13, c6, c14⟩, ⟨hO.1, hO.2.1, hO.2.2.1, hO.2.2.2.1, (congrArg (fun f => upd f (min W.1 24) (nI (lnL (it ++ (pp Kd 3300 3 0 (t + 3)).2.2)))) hO.2.2.2.2 : _)⟩⟩
      have hu : lnAll Kd rows (t, Pt, od) = _ := ((soak_y hl3 hk0 k1 k2).trans (sqS_t (a := (_, _)) r1)).trans (when_1 hl3 hw)
      simp only [hP4, ← List.map_append, List.length_map] at hu
      have hlr := LR_new (Kd := Kd) (rows := rows) (Pt := Pt) (t := t) (t2 := (pp Kd 3300 3 0 (t + 3)).2.1) (od := od) (k := 11) (x := rG rows (nI (t + 1)) 1) (z := 0) (a3 := nI it.length) (b4 := nI (it ++ (pp Kd 3300 3 0 (t + 3)).2.2).length) (it := it) (i1 := (pp Kd 3300 3 0 (t + 3)).2.2) (i2 := []) (W := W) (W' := (W.1 + 1, upd W.2.1 (min W.1 24) (nI (lnL it)), upd W.2.2.1 (min W.1 24) (nI (lnL (it ++ (pp Kd 3300 3 0 (t + 3)).2.2))), upd W.2.2.2 (min W.1 24) (nI (lnL (it ++ (pp Kd 3300 3 0 (t + 3)).2.2))))) hL (by omega) (by decide) rfl rfl (by first | rfl | simp only [List.append_nil]) (by first | rfl | simp only [List.append_nil]) (fun _ => ⟨rfl, rfl, pp_ok 3300 3 0 (t + 3) (by decide) r1⟩) (Or.inl rfl) (Or.inl rfl)
      try simp only [List.append_nil] at hlr
      refine hQ h172 1 (Or.inl ⟨rfl, ?_⟩)
      rw [hu]
      exact ⟨rfl, _, _, hlr, hX⟩
    · obtain ⟨-, hw, hX⟩ := hb5.resolve_right (fun z => e145 z.1)
      have kk7 : (pp Kd 3300 3 0 (t + 3)).2.1 + 1 < N := KEk hE kk5 hw (by decide) (by decide)
      obtain ⟨J, F, K2, C2, hM, j0, j3, j4, ⟨f0, f1, f2, f4⟩, hR, ⟨c5, c13, c6, c14⟩, hO⟩ := id hX
      refine bg_aload0 rfl ?_
      refine bg_virt0 rfl rfl rfl rfl ⟨_, hM.Y⟩ ?_
      obtain ⟨_, _, _, _, _, _, _, _, i8, _⟩ := rp_all (h0 := h0) (y := y) (u := u) (v := v) (P := P) (S := S) (K := K) (C := C) (W := (W.1 + 1, upd W.2.1 (min W.1 24) (nI (lnL it)), upd W.2.2.1 (min W.1 24) (nI (lnL (it ++ (pp Kd 3300 3 0 (t + 3)).2.2))), W.2.2.2)) (V := V) hF hV 3300
      refine i8 _ 0 ((pp Kd 3300 3 0 (t + 3)).2.1 + 1) (it ++ (pp Kd 3300 3 0 (t + 3)).2.2) _ _ _ _ (by decide) kk7 (by rw [List.length_append]; omega) ⟨_, rfl, by rw [hw]; decide⟩ (by omega) (by omega) hX (fun h6 b6 hb6 => bk_Ki ?_)
      refine bg_if_ne rfl (fun e152 => ?_) (fun e152 => ?_)
      · obtain ⟨-, r8, hX⟩ := hb6.resolve_right (fun z => e152 z.1)
        have kk8 := (pp_k hE 3300 8 0 ((pp Kd 3300 3 0 (t + 3)).2.1 + 1) kk7).2.1
        obtain ⟨J, F, K2, C2, hM, j0, j3, j4, ⟨f0, f1, f2, f4⟩, hR, ⟨c5, c13, c6, c14⟩, hO⟩ := id hX
        refine bg_aload0 rfl ?_
        refine bg_getfield rfl rfl hM.Y (by rfl) ?_
        refine bg_getfield rfl rfl hM.R.1 (by rfl) ?_
        refine bg_iload2 rfl ?_
        refine bg_aload0 rfl ?_
        refine bg_getfield rfl rfl hM.Y (by rfl) ?_
        refine bg_getfield rfl rfl hM.R.1 (by rfl) ?_
        rw [show K2 5 = nI (lnL ((it ++ (pp Kd 3300 3 0 (t + 3)).2.2) ++ (pp Kd 3300 8 0 ((pp Kd 3300 3 0 (t + 3)).2.1 + 1)).2.2)) from c5.trans (by rw [rcL_len])]
        refine bg_iastore_n rfl (pR13 hM.R) (by decide) (by omega) (fun h172 f172 g172 => ?_)
        have hM := hM.cc12 f172 g172
        refine bg_iconst rfl ?_
        refine bg_iret rfl rfl (by rfl) ?_
        have hX : PR h0 y u v T P S K C Fx Kd N (W.1 + 1, upd W.2.1 (min W.1 24) (nI (lnL it)), upd W.2.2.1 (min W.1 24) (nI (lnL (it ++ (pp Kd 3300 3 0 (t + 3)).2.2))), upd W.2.2.2 (min W.1 24) (nI (lnL ((it ++ (pp Kd 3300 3 0 (t + 3)).2.2) ++ (pp Kd 3300 8 0 ((pp Kd 3300 3 0 (t + 3)).2.1 + 1)).2.2)))) (rcL nv ((it ++ (pp Kd 3300 3 0 (t + 3)).2.2) ++ (pp Kd 3300 8 0 ((pp Kd 3300 3 0 (t + 3)).2.1 + 1)).2.2)) (opL ((it ++ (pp Kd 3300 3 0 (t + 3)).2.2) ++ (pp Kd 3300 8 0 ((pp Kd 3300 3 0 (t + 3)).2.1 + 1)).2.2) 0) (pp Kd 3300 8 0 ((pp Kd 3300 3 0 (t + 3)).2.1 + 1)).2.1 0 h172 := ⟨_, _, _, _, hM, j0, j3, j4, ⟨f0, f1, f2, f4⟩, hR, ⟨c5, c13, c6, c14⟩, ⟨hO.1, hO.2.1, hO.2.2.1, hO.2.2.2.1, (congrArg (fun f => upd f (min W.1 24) (nI (lnL ((it ++ (pp Kd 3300 3 0 (t + 3)).2.2) ++ (pp Kd 3300 8 0 ((pp Kd 3300 3 0 (t + 3)).2.1 + 1)).2.2)))) hO.2.2.2.2 : _)⟩⟩
        have hu : lnAll Kd rows (t, Pt, od) = _ := ((soak_y hl3 hk0 k1 k2).trans (sqS_t (a := (_, _)) r1)).trans (when_2 hl3 hw)
        simp only [hP4, ← List.map_append, List.length_map] at hu
        have hlr := LR_new (Kd := Kd) (rows := rows) (Pt := Pt) (t := t) (t2 := (pp Kd 3300 8 0 ((pp Kd 3300 3 0 (t + 3)).2.1 + 1)).2.1) (od := od) (k := 11) (x := rG rows (nI (t + 1)) 1) (z := 0) (a3 := nI it.length) (b4 := nI (it ++ (pp Kd 3300 3 0 (t + 3)).2.2).length) (it := it) (i1 := (pp Kd 3300 3 0 (t + 3)).2.2) (i2 := (pp Kd 3300 8 0 ((pp Kd 3300 3 0 (t + 3)).2.1 + 1)).2.2) (W := W) (W' := (W.1 + 1, upd W.2.1 (min W.1 24) (nI (lnL it)), upd W.2.2.1 (min W.1 24) (nI (lnL (it ++ (pp Kd 3300 3 0 (t + 3)).2.2))), upd W.2.2.2 (min W.1 24) (nI (lnL ((it ++ (pp Kd 3300 3 0 (t + 3)).2.2) ++ (pp Kd 3300 8 0 ((pp Kd 3300 3 0 (t + 3)).2.1 + 1)).2.2))))) hL (by omega) (by decide) rfl rfl (by first | rfl | simp only [List.append_nil]) (by first | rfl | simp only [List.append_nil]) (fun _ => ⟨rfl, rfl, pp_ok 3300 3 0 (t + 3) (by decide) r1⟩) (Or.inr (pp_ok 3300 8 0 ((pp Kd 3300 3 0 (t + 3)).2.1 + 1) (by decide) r8)) (Or.inl rfl)
        try simp only [List.append_nil] at hlr
        refine hQ h172 1 (Or.inl ⟨rfl, ?_⟩)
        rw [hu]
        exact ⟨r8, _, _, hlr, hX⟩
      · obtain ⟨-, r8, hX⟩ := hb6.resolve_left (fun z => absurd (z.1.symm.trans e152) (by decide))
        refine bg_iconst rfl ?_
        refine bg_iret rfl rfl (by rfl) ?_
        refine hQ h6 0 (Or.inr ⟨rfl, ?_⟩)
        rw [((soak_y hl3 hk0 k1 k2).trans (sqS_t (a := (_, _)) r1)).trans (when_2 hl3 hw)]
        exact ⟨r8, hX⟩
  · refine bg_iconst rfl ?_
    refine bg_iret rfl rfl (by rfl) ?_
    rcases (hb4.resolve_left (fun z => absurd (z.1.symm.trans e118) (by decide))).2 with ⟨w, hX⟩ | ⟨k1, w, hX⟩ | ⟨k1, k2, r1, hX⟩
    · exact hQ _ 0 (Or.inr ⟨rfl, ⟨by rw [(soak_1 hl3 hk0 w).1]; exact Bool.false_ne_true, by rw [(soak_1 hl3 hk0 w).2]; exact hX⟩⟩)
    · exact hQ _ 0 (Or.inr ⟨rfl, ⟨by rw [(soak_2 hl3 hk0 k1 w).1]; exact Bool.false_ne_true, by rw [(soak_2 hl3 hk0 k1 w).2]; exact hX⟩⟩)
    · refine hQ _ 0 (Or.inr ⟨rfl, ?_⟩)
      rw [soak_y hl3 hk0 k1 k2, sqS_f (a := (_, _)) r1]
      exact ⟨r1, hX⟩
theorem rp_lineB (hF : FXk Fx Kd N) (hV : NVk Fx Kd N T nv) (ht : t < N) (hk0 : Kd t = 13) (hl : it.length ≤ t) (hL : LR Kd rows (t, Pt, od) it W) (hX : PR h0 y u v T P S K C Fx Kd N W (rcL nv it) (opL it 0) t 0 h) (hQ : (∀ (h' : bk_H) (b : Int32), LB h0 y u v T P S K C Fx Kd N nv rows (lnAll Kd rows (t, Pt, od)) h' b → Q (.inl (some (.int b))) h' n)) : bk_wp V (D + 62) 173 [.ref y] h n B Q := by
  obtain ⟨J, F, K2, C2, hM, j0, j3, j4, ⟨f0, f1, f2, f4⟩, hR, ⟨c5, c13, c6, c14⟩, hO⟩ := id hX
  have hE := hF.2.2.2
  have hNN := hF.2.2.1
  have hW1 : W.1 ≤ t := hL.2.2.2.1
  have hP4 : Pt 4 = it.map (rwF rows) := hL.1
  have hl3 : (Pt 3).length < 2 ^ 31 := by
    have : (Pt 3).length = min W.1 24 := hL.2.1
    omega
  have hit : it.length ≤ t := hl
  have hmin : iMin (nI W.1) 24 = nI (min W.1 24) := bt_min (y := 24) (by omega) (by decide)
  have hm25 : (min W.1 24) < 25 := by omega
  have hkk : F 0 t = 12 := by
    rw [f0, hF.1 t ht, hk0]
    decide
  have q1 : t + 1 < N := KEk hE ht hk0 (by decide) (by decide)
  have hrof : rof Kd t = 5 := by
    unfold rof roF
    rw [hk0]
    rfl
  refine bg_in rfl rfl ?_
  refine bg_aload0 rfl ?_
  refine bg_getfield rfl rfl hM.Y (by rfl) ?_
  refine bg_aload0 rfl ?_
  refine bg_getfield rfl rfl hM.Y (by rfl) ?_
  rw [j3]
  refine bg_iaload_n rfl hM.f0 (by decide) (by omega) ?_
  rw [hkk]
  refine bg_istore1 rfl rfl ?_
  refine bg_iload1 rfl ?_
  refine bg_bipush rfl ?_
  refine bg_icmp_eq rfl (fun e13 => absurd e13 (by decide)) (fun e13 => ?_)
  refine bg_iload1 rfl ?_
  refine bg_bipush rfl ?_
  refine bg_icmp_eq rfl (fun e19 => ?_) (fun e19 => absurd rfl e19)
  refine bg_aload0 rfl ?_
  refine bg_getfield rfl rfl hM.Y (by rfl) ?_
  refine bg_aload0 rfl ?_
  refine bg_getfield rfl rfl hM.Y (by rfl) ?_
  refine bg_iload1 rfl ?_
  refine bg_bipush rfl ?_
  refine bg_icmp_ne rfl (fun e41 => ?_) (fun e41 => absurd e41 (by decide))
  refine bg_iload1 rfl ?_
  refine bg_bipush rfl ?_
  refine bg_icmp_ne rfl (fun e51 => absurd rfl e51) (fun e51 => ?_)
  refine bg_iconst rfl ?_
  refine bg_goto rfl ?_
  rw [j3]
  refine bg_iastore_n rfl hM.f3 (by decide) (by omega) (fun h60 f60 g60 => ?_)
  have hM := hM.ff3 f60 g60
  refine bg_aload0 rfl ?_
  refine bg_dup rfl rfl ?_
  refine bg_getfield rfl rfl hM.Y (by rfl) ?_
  refine bg_iconst rfl ?_
  refine bg_iadd rfl ?_
  refine bg_putfield rfl rfl hM.Y (by rfl) ⟨rfl, rfl⟩ (by rfl) (fun h68 f68 g68 => ?_)
  rw [j3, nI_1] at f68
  have hM := hM.j (J' := upd J 3 (nI (t + 1))) f68 g68 rfl
  refine bg_aload0 rfl ?_
  refine bg_getfield rfl rfl hM.Y (by rfl) ?_
  refine bg_getfield rfl rfl hM.R.1 (by rfl) ?_
  rw [hO.2.1]
  refine bg_bipush rfl ?_
  refine bg_min rfl rfl rfl ?_
  change bk_g _ _ _ _ _ _ _ [.int (iMin (nI W.1) 24)] _ _ _
  rw [hmin]
  refine bg_istore2 rfl rfl ?_
  refine bg_aload0 rfl ?_
  refine bg_getfield rfl rfl hM.Y (by rfl) ?_
  refine bg_dup rfl rfl ?_
  refine bg_getfield rfl rfl hM.R.1 (by rfl) ?_
  refine bg_iconst rfl ?_
  refine bg_iadd rfl ?_
  refine bg_putfield rfl rfl hM.R.1 (by rfl) ⟨rfl, rfl⟩ (by rfl) (fun h94 f94 g94 => ?_)
  rw [hO.2.1, nI_1] at f94
  have hM := hM.kk4 f94 g94
  refine bg_aload0 rfl ?_
  refine bg_getfield rfl rfl hM.Y (by rfl) ?_
  refine bg_getfield rfl rfl hM.R.1 (by rfl) ?_
  refine bg_iload2 rfl ?_
  refine bg_aload0 rfl ?_
  refine bg_getfield rfl rfl hM.Y (by rfl) ?_
  refine bg_getfield rfl rfl hM.R.1 (by rfl) ?_
  rw [show upd K2 4 (nI (W.1 + 1)) 5 = nI (lnL it) from c5.trans (by rw [rcL_len])]
  refine bg_iastore_n rfl (pR11 hM.R) (by decide) (by omega) (fun h112 f112 g112 => ?_)
  have hM := hM.cc10 f112 g112
  have hX : PR h0 y u v T P S K C Fx Kd N (W.1 + 1, upd W.2.1 (min W.1 24) (nI (lnL it)), W.2.2.1, W.2.2.2) (rcL nv it) (opL it 0) (t + 1) 0 h112 := ⟨_, _, _, _, hM, j0, rfl, j4, ⟨f0, f1, f2, f4⟩, RoL_s hR hrof, ⟨c5, c13, c6, c14⟩, ⟨fun k hk => (if_neg (by omega)).trans (hO.1 k hk), rfl, (congrArg (fun f => upd f (min W.1 24) (nI (lnL it))) hO.2.2.1 : _), hO.2.2.2⟩⟩
  refine bg_aload0 rfl ?_
  refine bg_iload1 rfl ?_
  refine bg_virt1 rfl rfl rfl rfl ⟨_, hM.Y⟩ ?_
  refine rp_ordB hF hk0 q1 hX (fun h4 b4 hb4 => bk_Ki ?_)
  refine bg_if_ne rfl (fun e118 => ?_) (fun e118 => ?_)
  · obtain ⟨-, k1, k2, k3, hX⟩ := hb4.resolve_right (fun z => e118 z.1)
    have kk5 : t + 4 < N := by
      have a1 := KEk hE q1 k1 (by decide) (by decide)
      have a2 := KEk hE a1 k2 (by decide) (by decide)
      exact KEk hE a2 k3 (by decide) (by decide)
    obtain ⟨J, F, K2, C2, hM, j0, j3, j4, ⟨f0, f1, f2, f4⟩, hR, ⟨c5, c13, c6, c14⟩, hO⟩ := id hX
    refine bg_aload0 rfl ?_
    refine bg_getfield rfl rfl hM.Y (by rfl) ?_
    refine bg_getfield rfl rfl hM.R.1 (by rfl) ?_
    refine bg_iload2 rfl ?_
    refine bg_aload0 rfl ?_
    refine bg_getfield rfl rfl hM.Y (by rfl) ?_
    refine bg_getfield rfl rfl hM.R.1 (by rfl) ?_
    rw [show K2 5 = nI (lnL it) from c5.trans (by rw [rcL_len])]
    refine bg_iastore_n rfl (pR12 hM.R) (by decide) (by omega) (fun h138 f138 g138 => ?_)
    have hM := hM.cc11 f138 g138
    have hX : PR h0 y u v T P S K C Fx Kd N (W.1 + 1, upd W.2.1 (min W.1 24) (nI (lnL it)), upd W.2.2.1 (min W.1 24) (nI (lnL it)), W.2.2.2) (rcL nv it) (opL it 0) (t + 4) 0 h138 := ⟨_, _, _, _, hM, j0, j3, j4, ⟨f0, f1, f2, f4⟩, hR, ⟨c5, c13, c6, c14⟩, ⟨hO.1, hO.2.1, hO.2.2.1, (congrArg (fun f => upd f (min W.1 24) (nI (lnL it))) hO.2.2.2.1 : _), hO.2.2.2.2⟩⟩
    refine bg_aload0 rfl ?_
    refine bg_bipush rfl ?_
    refine bg_virt1 rfl rfl rfl rfl ⟨_, hM.Y⟩ ?_
    refine rq_eat (wKe (k := 17) 17 (by decide) (by decide) (by decide)) (fun z => rof_0 (by rw [z]; decide)) hF kk5 hX (fun h5 b5 hb5 => bk_Ki ?_)
    refine bg_if_eq rfl (fun e145 => ?_) (fun e145 => ?_)
    · obtain ⟨-, hw, hX⟩ := hb5.resolve_left (fun z => absurd (z.1.symm.trans e145) (by decide))
      obtain ⟨J, F, K2, C2, hM, j0, j3, j4, ⟨f0, f1, f2, f4⟩, hR, ⟨c5, c13, c6, c14⟩, hO⟩ := id hX
      refine bg_aload0 rfl ?_
      refine bg_getfield rfl rfl hM.Y (by rfl) ?_
      refine bg_getfield rfl rfl hM.R.1 (by rfl) ?_
      refine bg_iload2 rfl ?_
      refine bg_aload0 rfl ?_
      refine bg_getfield rfl rfl hM.Y (by rfl) ?_
      refine bg_getfield rfl rfl hM.R.1 (by rfl) ?_
      rw [show K2 5 = nI (lnL it) from c5.trans (by rw [rcL_len])]
      refine bg_iastore_n rfl (pR13 hM.R) (by decide) (by omega) (fun h172 f172 g172 => ?_)
      have hM := hM.cc12 f172 g172
      refine bg_iconst rfl ?_
      refine bg_iret rfl rfl (by rfl) ?_
      have hX : PR h0 y u v T P S K C Fx Kd N (W.1 + 1, upd W.2.1 (min W.1 24) (nI (lnL it)), upd W.2.2.1 (min W.1 24) (nI (lnL it)), upd W.2.2.2 (min W.1 24) (nI (lnL it))) (rcL nv it) (opL it 0) (t + 4) 0 h172 := ⟨_, _, _, _, hM, j0, j3, j4, ⟨f0, f1, f2, f4⟩, hR, ⟨c5, c13, c6, c14⟩, ⟨hO.1, hO.2.1, hO.2.2.1, hO.2.2.2.1, (congrArg (fun f => upd f (min W.1 24) (nI (lnL it))) hO.2.2.2.2 : _)⟩⟩
      have hu : lnAll Kd rows (t, Pt, od) = _ := (pair_4 (all_13 hk0) hl3 hk0 k1 k2 k3).trans (when_1 hl3 hw)
      simp only [hP4, ← List.map_append, List.length_map] at hu
      have hlr := LR_new (Kd := Kd) (rows := rows) (Pt := Pt) (t := t) (t2 := (t + 4)) (od := od) (k := 13) (x := rG rows (nI (t + 1)) 1) (z := rG rows (nI (t + 3)) 1) (a3 := 0) (b4 := 0) (it := it) (i1 := []) (i2 := []) (W := W) (W' := (W.1 + 1, upd W.2.1 (min W.1 24) (nI (lnL it)), upd W.2.2.1 (min W.1 24) (nI (lnL it)), upd W.2.2.2 (min W.1 24) (nI (lnL it)))) hL (by omega) (by decide) rfl rfl (by first | rfl | simp only [List.append_nil]) (by first | rfl | simp only [List.append_nil]) (fun q => absurd q (by decide)) (Or.inl rfl) (Or.inr rfl)
      try simp only [List.append_nil] at hlr
      refine hQ h172 1 (Or.inl ⟨rfl, ?_⟩)
      rw [hu]
      exact ⟨rfl, _, _, hlr, hX⟩
    · obtain ⟨-, hw, hX⟩ := hb5.resolve_right (fun z => e145 z.1)
      have kk7 : (t + 4) + 1 < N := KEk hE kk5 hw (by decide) (by decide)
      obtain ⟨J, F, K2, C2, hM, j0, j3, j4, ⟨f0, f1, f2, f4⟩, hR, ⟨c5, c13, c6, c14⟩, hO⟩ := id hX
      refine bg_aload0 rfl ?_
      refine bg_virt0 rfl rfl rfl rfl ⟨_, hM.Y⟩ ?_
      obtain ⟨_, _, _, _, _, _, _, _, i8, _⟩ := rp_all (h0 := h0) (y := y) (u := u) (v := v) (P := P) (S := S) (K := K) (C := C) (W := (W.1 + 1, upd W.2.1 (min W.1 24) (nI (lnL it)), upd W.2.2.1 (min W.1 24) (nI (lnL it)), W.2.2.2)) (V := V) hF hV 3300
      refine i8 _ 0 ((t + 4) + 1) it _ _ _ _ (by decide) kk7 (by omega) ⟨_, rfl, by rw [hw]; decide⟩ (by omega) (by omega) hX (fun h6 b6 hb6 => bk_Ki ?_)
      refine bg_if_ne rfl (fun e152 => ?_) (fun e152 => ?_)
      · obtain ⟨-, r8, hX⟩ := hb6.resolve_right (fun z => e152 z.1)
        have kk8 := (pp_k hE 3300 8 0 ((t + 4) + 1) kk7).2.1
        obtain ⟨J, F, K2, C2, hM, j0, j3, j4, ⟨f0, f1, f2, f4⟩, hR, ⟨c5, c13, c6, c14⟩, hO⟩ := id hX
        refine bg_aload0 rfl ?_
        refine bg_getfield rfl rfl hM.Y (by rfl) ?_
        refine bg_getfield rfl rfl hM.R.1 (by rfl) ?_
        refine bg_iload2 rfl ?_
        refine bg_aload0 rfl ?_
        refine bg_getfield rfl rfl hM.Y (by rfl) ?_
        refine bg_getfield rfl rfl hM.R.1 (by rfl) ?_
        rw [show K2 5 = nI (lnL (it ++ (pp Kd 3300 8 0 ((t + 4) + 1)).2.2)) from c5.trans (by rw [rcL_len])]
        refine bg_iastore_n rfl (pR13 hM.R) (by decide) (by omega) (fun h172 f172 g172 => ?_)
        have hM := hM.cc12 f172 g172
        refine bg_iconst rfl ?_
        refine bg_iret rfl rfl (by rfl) ?_
        have hX : PR h0 y u v T P S K C Fx Kd N (W.1 + 1, upd W.2.1 (min W.1 24) (nI (lnL it)), upd W.2.2.1 (min W.1 24) (nI (lnL it)), upd W.2.2.2 (min W.1 24) (nI (lnL (it ++ (pp Kd 3300 8 0 ((t + 4) + 1)).2.2)))) (rcL nv (it ++ (pp Kd 3300 8 0 ((t + 4) + 1)).2.2)) (opL (it ++ (pp Kd 3300 8 0 ((t + 4) + 1)).2.2) 0) (pp Kd 3300 8 0 ((t + 4) + 1)).2.1 0 h172 := ⟨_, _, _, _, hM, j0, j3, j4, ⟨f0, f1, f2, f4⟩, hR, ⟨c5, c13, c6, c14⟩, ⟨hO.1, hO.2.1, hO.2.2.1, hO.2.2.2.1, (congrArg (fun f => upd f (min W.1 24) (nI (lnL (it ++ (pp Kd 3300 8 0 ((t + 4) + 1)).2.2)))) hO.2.2.2.2 : _)⟩⟩
        have hu : lnAll Kd rows (t, Pt, od) = _ := (pair_4 (all_13 hk0) hl3 hk0 k1 k2 k3).trans (when_2 hl3 hw)
        simp only [hP4, ← List.map_append, List.length_map] at hu
        have hlr := LR_new (Kd := Kd) (rows := rows) (Pt := Pt) (t := t) (t2 := (pp Kd 3300 8 0 ((t + 4) + 1)).2.1) (od := od) (k := 13) (x := rG rows (nI (t + 1)) 1) (z := rG rows (nI (t + 3)) 1) (a3 := 0) (b4 := 0) (it := it) (i1 := []) (i2 := (pp Kd 3300 8 0 ((t + 4) + 1)).2.2) (W := W) (W' := (W.1 + 1, upd W.2.1 (min W.1 24) (nI (lnL it)), upd W.2.2.1 (min W.1 24) (nI (lnL it)), upd W.2.2.2 (min W.1 24) (nI (lnL (it ++ (pp Kd 3300 8 0 ((t + 4) + 1)).2.2))))) hL (by omega) (by decide) rfl rfl (by first | rfl | simp only [List.append_nil]) (by first | rfl | simp only [List.append_nil]) (fun q => absurd q (by decide)) (Or.inr (pp_ok 3300 8 0 ((t + 4) + 1) (by decide) r8)) (Or.inr rfl)
        try simp only [List.append_nil] at hlr
        refine hQ h172 1 (Or.inl ⟨rfl, ?_⟩)
        rw [hu]
        exact ⟨r8, _, _, hlr, hX⟩
      · obtain ⟨-, r8, hX⟩ := hb6.resolve_left (fun z => absurd (z.1.symm.trans e152) (by decide))
        refine bg_iconst rfl ?_
        refine bg_iret rfl rfl (by rfl) ?_
        refine hQ h6 0 (Or.inr ⟨rfl, ?_⟩)
        rw [(pair_4 (all_13 hk0) hl3 hk0 k1 k2 k3).trans (when_2 hl3 hw)]
        exact ⟨r8, hX⟩
  · refine bg_iconst rfl ?_
    refine bg_iret rfl rfl (by rfl) ?_
    rcases (hb4.resolve_left (fun z => absurd (z.1.symm.trans e118) (by decide))).2 with ⟨w, hX⟩ | ⟨k1, w, hX⟩ | ⟨k1, k2, w, hX⟩
    · exact hQ _ 0 (Or.inr ⟨rfl, ⟨by rw [(pair_1 (all_13 hk0) hl3 hk0 w).1]; exact Bool.false_ne_true, by rw [(pair_1 (all_13 hk0) hl3 hk0 w).2]; exact hX⟩⟩)
    · exact hQ _ 0 (Or.inr ⟨rfl, ⟨by rw [(pair_2 (all_13 hk0) hl3 hk0 k1 w).1]; exact Bool.false_ne_true, by rw [(pair_2 (all_13 hk0) hl3 hk0 k1 w).2]; exact hX⟩⟩)
    · exact hQ _ 0 (Or.inr ⟨rfl, ⟨by rw [(pair_3 (all_13 hk0) hl3 hk0 k1 k2 w).1]; exact Bool.false_ne_true, by rw [(pair_3 (all_13 hk0) hl3 hk0 k1 k2 w).2]; exact hX⟩⟩)
theorem rp_lineC (hF : FXk Fx Kd N) (hV : NVk Fx Kd N T nv) (ht : t < N) (hk0 : Kd t = 15) (hl : it.length ≤ t) (hL : LR Kd rows (t, Pt, od) it W) (hX : PR h0 y u v T P S K C Fx Kd N W (rcL nv it) (opL it 0) t 0 h) (hQ : (∀ (h' : bk_H) (b : Int32), LB h0 y u v T P S K C Fx Kd N nv rows (lnAll Kd rows (t, Pt, od)) h' b → Q (.inl (some (.int b))) h' n)) : bk_wp V (D + 62) 173 [.ref y] h n B Q := by
  obtain ⟨J, F, K2, C2, hM, j0, j3, j4, ⟨f0, f1, f2, f4⟩, hR, ⟨c5, c13, c6, c14⟩, hO⟩ := id hX
  have hE := hF.2.2.2
  have hNN := hF.2.2.1
  have hW1 : W.1 ≤ t := hL.2.2.2.1
  have hP4 : Pt 4 = it.map (rwF rows) := hL.1
  have hl3 : (Pt 3).length < 2 ^ 31 := by
    have : (Pt 3).length = min W.1 24 := hL.2.1
    omega
  have hit : it.length ≤ t := hl
  have hmin : iMin (nI W.1) 24 = nI (min W.1 24) := bt_min (y := 24) (by omega) (by decide)
  have hm25 : (min W.1 24) < 25 := by omega
  have hkk : F 0 t = 14 := by
    rw [f0, hF.1 t ht, hk0]
    decide
  have q1 : t + 1 < N := KEk hE ht hk0 (by decide) (by decide)
  have hrof : rof Kd t = 6 := by
    unfold rof roF
    rw [hk0]
    rfl
  refine bg_in rfl rfl ?_
  refine bg_aload0 rfl ?_
  refine bg_getfield rfl rfl hM.Y (by rfl) ?_
  refine bg_aload0 rfl ?_
  refine bg_getfield rfl rfl hM.Y (by rfl) ?_
  rw [j3]
  refine bg_iaload_n rfl hM.f0 (by decide) (by omega) ?_
  rw [hkk]
  refine bg_istore1 rfl rfl ?_
  refine bg_iload1 rfl ?_
  refine bg_bipush rfl ?_
  refine bg_icmp_eq rfl (fun e13 => absurd e13 (by decide)) (fun e13 => ?_)
  refine bg_iload1 rfl ?_
  refine bg_bipush rfl ?_
  refine bg_icmp_eq rfl (fun e19 => absurd e19 (by decide)) (fun e19 => ?_)
  refine bg_iload1 rfl ?_
  refine bg_bipush rfl ?_
  refine bg_icmp_eq rfl (fun e25 => ?_) (fun e25 => absurd rfl e25)
  refine bg_aload0 rfl ?_
  refine bg_getfield rfl rfl hM.Y (by rfl) ?_
  refine bg_aload0 rfl ?_
  refine bg_getfield rfl rfl hM.Y (by rfl) ?_
  refine bg_iload1 rfl ?_
  refine bg_bipush rfl ?_
  refine bg_icmp_ne rfl (fun e41 => ?_) (fun e41 => absurd e41 (by decide))
  refine bg_iload1 rfl ?_
  refine bg_bipush rfl ?_
  refine bg_icmp_ne rfl (fun e51 => ?_) (fun e51 => absurd e51 (by decide))
  refine bg_bipush rfl ?_
  rw [j3]
  refine bg_iastore_n rfl hM.f3 (by decide) (by omega) (fun h60 f60 g60 => ?_)
  have hM := hM.ff3 f60 g60
  refine bg_aload0 rfl ?_
  refine bg_dup rfl rfl ?_
  refine bg_getfield rfl rfl hM.Y (by rfl) ?_
  refine bg_iconst rfl ?_
  refine bg_iadd rfl ?_
  refine bg_putfield rfl rfl hM.Y (by rfl) ⟨rfl, rfl⟩ (by rfl) (fun h68 f68 g68 => ?_)
  rw [j3, nI_1] at f68
  have hM := hM.j (J' := upd J 3 (nI (t + 1))) f68 g68 rfl
  refine bg_aload0 rfl ?_
  refine bg_getfield rfl rfl hM.Y (by rfl) ?_
  refine bg_getfield rfl rfl hM.R.1 (by rfl) ?_
  rw [hO.2.1]
  refine bg_bipush rfl ?_
  refine bg_min rfl rfl rfl ?_
  change bk_g _ _ _ _ _ _ _ [.int (iMin (nI W.1) 24)] _ _ _
  rw [hmin]
  refine bg_istore2 rfl rfl ?_
  refine bg_aload0 rfl ?_
  refine bg_getfield rfl rfl hM.Y (by rfl) ?_
  refine bg_dup rfl rfl ?_
  refine bg_getfield rfl rfl hM.R.1 (by rfl) ?_
  refine bg_iconst rfl ?_
  refine bg_iadd rfl ?_
  refine bg_putfield rfl rfl hM.R.1 (by rfl) ⟨rfl, rfl⟩ (by rfl) (fun h94 f94 g94 => ?_)
  rw [hO.2.1, nI_1] at f94
  have hM := hM.kk4 f94 g94
  refine bg_aload0 rfl ?_
  refine bg_getfield rfl rfl hM.Y (by rfl) ?_
  refine bg_getfield rfl rfl hM.R.1 (by rfl) ?_
  refine bg_iload2 rfl ?_
  refine bg_aload0 rfl ?_
  refine bg_getfield rfl rfl hM.Y (by rfl) ?_
  refine bg_getfield rfl rfl hM.R.1 (by rfl) ?_
  rw [show upd K2 4 (nI (W.1 + 1)) 5 = nI (lnL it) from c5.trans (by rw [rcL_len])]
  refine bg_iastore_n rfl (pR11 hM.R) (by decide) (by omega) (fun h112 f112 g112 => ?_)
  have hM := hM.cc10 f112 g112
  have hX : PR h0 y u v T P S K C Fx Kd N (W.1 + 1, upd W.2.1 (min W.1 24) (nI (lnL it)), W.2.2.1, W.2.2.2) (rcL nv it) (opL it 0) (t + 1) 0 h112 := ⟨_, _, _, _, hM, j0, rfl, j4, ⟨f0, f1, f2, f4⟩, RoL_s hR hrof, ⟨c5, c13, c6, c14⟩, ⟨fun k hk => (if_neg (by omega)).trans (hO.1 k hk), rfl, (congrArg (fun f => upd f (min W.1 24) (nI (lnL it))) hO.2.2.1 : _), hO.2.2.2⟩⟩
  refine bg_aload0 rfl ?_
  refine bg_iload1 rfl ?_
  refine bg_virt1 rfl rfl rfl rfl ⟨_, hM.Y⟩ ?_
  refine rp_ordC hF hk0 q1 hX (fun h4 b4 hb4 => bk_Ki ?_)
  refine bg_if_ne rfl (fun e118 => ?_) (fun e118 => ?_)
  · obtain ⟨-, k1, k2, k3, hX⟩ := hb4.resolve_right (fun z => e118 z.1)
    have kk5 : t + 4 < N := by
      have a1 := KEk hE q1 k1 (by decide) (by decide)
      have a2 := KEk hE a1 k2 (by decide) (by decide)
      exact KEk hE a2 k3 (by decide) (by decide)
    obtain ⟨J, F, K2, C2, hM, j0, j3, j4, ⟨f0, f1, f2, f4⟩, hR, ⟨c5, c13, c6, c14⟩, hO⟩ := id hX
    refine bg_aload0 rfl ?_
    refine bg_getfield rfl rfl hM.Y (by rfl) ?_
    refine bg_getfield rfl rfl hM.R.1 (by rfl) ?_
    refine bg_iload2 rfl ?_
    refine bg_aload0 rfl ?_
    refine bg_getfield rfl rfl hM.Y (by rfl) ?_
    refine bg_getfield rfl rfl hM.R.1 (by rfl) ?_
    rw [show K2 5 = nI (lnL it) from c5.trans (by rw [rcL_len])]
    refine bg_iastore_n rfl (pR12 hM.R) (by decide) (by omega) (fun h138 f138 g138 => ?_)
    have hM := hM.cc11 f138 g138
    have hX : PR h0 y u v T P S K C Fx Kd N (W.1 + 1, upd W.2.1 (min W.1 24) (nI (lnL it)), upd W.2.2.1 (min W.1 24) (nI (lnL it)), W.2.2.2) (rcL nv it) (opL it 0) (t + 4) 0 h138 := ⟨_, _, _, _, hM, j0, j3, j4, ⟨f0, f1, f2, f4⟩, hR, ⟨c5, c13, c6, c14⟩, ⟨hO.1, hO.2.1, hO.2.2.1, (congrArg (fun f => upd f (min W.1 24) (nI (lnL it))) hO.2.2.2.1 : _), hO.2.2.2.2⟩⟩
    refine bg_aload0 rfl ?_
    refine bg_bipush rfl ?_
    refine bg_virt1 rfl rfl rfl rfl ⟨_, hM.Y⟩ ?_
    refine rq_eat (wKe (k := 17) 17 (by decide) (by decide) (by decide)) (fun z => rof_0 (by rw [z]; decide)) hF kk5 hX (fun h5 b5 hb5 => bk_Ki ?_)
    refine bg_if_eq rfl (fun e145 => ?_) (fun e145 => ?_)
    · obtain ⟨-, hw, hX⟩ := hb5.resolve_left (fun z => absurd (z.1.symm.trans e145) (by decide))
      obtain ⟨J, F, K2, C2, hM, j0, j3, j4, ⟨f0, f1, f2, f4⟩, hR, ⟨c5, c13, c6, c14⟩, hO⟩ := id hX
      refine bg_aload0 rfl ?_
      refine bg_getfield rfl rfl hM.Y (by rfl) ?_
      refine bg_getfield rfl rfl hM.R.1 (by rfl) ?_
      refine bg_iload2 rfl ?_
      refine bg_aload0 rfl ?_
      refine bg_getfield rfl rfl hM.Y (by rfl) ?_
      refine bg_getfield rfl rfl hM.R.1 (by rfl) ?_
      rw [show K2 5 = nI (lnL it) from c5.trans (by rw [rcL_len])]
      refine bg_iastore_n rfl (pR13 hM.R) (by decide) (by omega) (fun h172 f172 g172 => ?_)
      have hM := hM.cc12 f172 g172
      refine bg_iconst rfl ?_
      refine bg_iret rfl rfl (by rfl) ?_
      have hX : PR h0 y u v T P S K C Fx Kd N (W.1 + 1, upd W.2.1 (min W.1 24) (nI (lnL it)), upd W.2.2.1 (min W.1 24) (nI (lnL it)), upd W.2.2.2 (min W.1 24) (nI (lnL it))) (rcL nv it) (opL it 0) (t + 4) 0 h172 := ⟨_, _, _, _, hM, j0, j3, j4, ⟨f0, f1, f2, f4⟩, hR, ⟨c5, c13, c6, c14⟩, ⟨hO.1, hO.2.1, hO.2.2.1, hO.2.2.2.1, (congrArg (fun f => upd f (min W.1 24) (nI (lnL it))) hO.2.2.2.2 : _)⟩⟩
      have hu : lnAll Kd rows (t, Pt, od) = _ := (pair_4 (all_15 hk0) hl3 hk0 k1 k2 k3).trans (when_1 hl3 hw)
      simp only [hP4, ← List.map_append, List.length_map] at hu
      have hlr := LR_new (Kd := Kd) (rows := rows) (Pt := Pt) (t := t) (t2 := (t + 4)) (od := od) (k := 15) (x := rG rows (nI (t + 1)) 1) (z := rG rows (nI (t + 3)) 1) (a3 := 0) (b4 := 0) (it := it) (i1 := []) (i2 := []) (W := W) (W' := (W.1 + 1, upd W.2.1 (min W.1 24) (nI (lnL it)), upd W.2.2.1 (min W.1 24) (nI (lnL it)), upd W.2.2.2 (min W.1 24) (nI (lnL it)))) hL (by omega) (by decide) rfl rfl (by first | rfl | simp only [List.append_nil]) (by first | rfl | simp only [List.append_nil]) (fun q => absurd q (by decide)) (Or.inl rfl) (Or.inr rfl)
      try simp only [List.append_nil] at hlr
      refine hQ h172 1 (Or.inl ⟨rfl, ?_⟩)
      rw [hu]
      exact ⟨rfl, _, _, hlr, hX⟩
    · obtain ⟨-, hw, hX⟩ := hb5.resolve_right (fun z => e145 z.1)
      have kk7 : (t + 4) + 1 < N := KEk hE kk5 hw (by decide) (by decide)
      obtain ⟨J, F, K2, C2, hM, j0, j3, j4, ⟨f0, f1, f2, f4⟩, hR, ⟨c5, c13, c6, c14⟩, hO⟩ := id hX
      refine bg_aload0 rfl ?_
      refine bg_virt0 rfl rfl rfl rfl ⟨_, hM.Y⟩ ?_
      obtain ⟨_, _, _, _, _, _, _, _, i8, _⟩ := rp_all (h0 := h0) (y := y) (u := u) (v := v) (P := P) (S := S) (K := K) (C := C) (W := (W.1 + 1, upd W.2.1 (min W.1 24) (nI (lnL it)), upd W.2.2.1 (min W.1 24) (nI (lnL it)), W.2.2.2)) (V := V) hF hV 3300
      refine i8 _ 0 ((t + 4) + 1) it _ _ _ _ (by decide) kk7 (by omega) ⟨_, rfl, by rw [hw]; decide⟩ (by omega) (by omega) hX (fun h6 b6 hb6 => bk_Ki ?_)
      refine bg_if_ne rfl (fun e152 => ?_) (fun e152 => ?_)
      · obtain ⟨-, r8, hX⟩ := hb6.resolve_right (fun z => e152 z.1)
        have kk8 := (pp_k hE 3300 8 0 ((t + 4) + 1) kk7).2.1
        obtain ⟨J, F, K2, C2, hM, j0, j3, j4, ⟨f0, f1, f2, f4⟩, hR, ⟨c5, c13, c6, c14⟩, hO⟩ := id hX
        refine bg_aload0 rfl ?_
        refine bg_getfield rfl rfl hM.Y (by rfl) ?_
        refine bg_getfield rfl rfl hM.R.1 (by rfl) ?_
        refine bg_iload2 rfl ?_
        refine bg_aload0 rfl ?_
        refine bg_getfield rfl rfl hM.Y (by rfl) ?_
        refine bg_getfield rfl rfl hM.R.1 (by rfl) ?_
        rw [show K2 5 = nI (lnL (it ++ (pp Kd 3300 8 0 ((t + 4) + 1)).2.2)) from c5.trans (by rw [rcL_len])]
        refine bg_iastore_n rfl (pR13 hM.R) (by decide) (by omega) (fun h172 f172 g172 => ?_)
        have hM := hM.cc12 f172 g172
        refine bg_iconst rfl ?_
        refine bg_iret rfl rfl (by rfl) ?_
        have hX : PR h0 y u v T P S K C Fx Kd N (W.1 + 1, upd W.2.1 (min W.1 24) (nI (lnL it)), upd W.2.2.1 (min W.1 24) (nI (lnL it)), upd W.2.2.2 (min W.1 24) (nI (lnL (it ++ (pp Kd 3300 8 0 ((t + 4) + 1)).2.2)))) (rcL nv (it ++ (pp Kd 3300 8 0 ((t + 4) + 1)).2.2)) (opL (it ++ (pp Kd 3300 8 0 ((t + 4) + 1)).2.2) 0) (pp Kd 3300 8 0 ((t + 4) + 1)).2.1 0 h172 := ⟨_, _, _, _, hM, j0, j3, j4, ⟨f0, f1, f2, f4⟩, hR, ⟨c5, c13, c6, c14⟩, ⟨hO.1, hO.2.1, hO.2.2.1, hO.2.2.2.1, (congrArg (fun f => upd f (min W.1 24) (nI (lnL (it ++ (pp Kd 3300 8 0 ((t + 4) + 1)).2.2)))) hO.2.2.2.2 : _)⟩⟩
        have hu : lnAll Kd rows (t, Pt, od) = _ := (pair_4 (all_15 hk0) hl3 hk0 k1 k2 k3).trans (when_2 hl3 hw)
        simp only [hP4, ← List.map_append, List.length_map] at hu
        have hlr := LR_new (Kd := Kd) (rows := rows) (Pt := Pt) (t := t) (t2 := (pp Kd 3300 8 0 ((t + 4) + 1)).2.1) (od := od) (k := 15) (x := rG rows (nI (t + 1)) 1) (z := rG rows (nI (t + 3)) 1) (a3 := 0) (b4 := 0) (it := it) (i1 := []) (i2 := (pp Kd 3300 8 0 ((t + 4) + 1)).2.2) (W := W) (W' := (W.1 + 1, upd W.2.1 (min W.1 24) (nI (lnL it)), upd W.2.2.1 (min W.1 24) (nI (lnL it)), upd W.2.2.2 (min W.1 24) (nI (lnL (it ++ (pp Kd 3300 8 0 ((t + 4) + 1)).2.2))))) hL (by omega) (by decide) rfl rfl (by first | rfl | simp only [List.append_nil]) (by first | rfl | simp only [List.append_nil]) (fun q => absurd q (by decide)) (Or.inr (pp_ok 3300 8 0 ((t + 4) + 1) (by decide) r8)) (Or.inr rfl)
        try simp only [List.append_nil] at hlr
        refine hQ h172 1 (Or.inl ⟨rfl, ?_⟩)
        rw [hu]
        exact ⟨r8, _, _, hlr, hX⟩
      · obtain ⟨-, r8, hX⟩ := hb6.resolve_left (fun z => absurd (z.1.symm.trans e152) (by decide))
        refine bg_iconst rfl ?_
        refine bg_iret rfl rfl (by rfl) ?_
        refine hQ h6 0 (Or.inr ⟨rfl, ?_⟩)
        rw [(pair_4 (all_15 hk0) hl3 hk0 k1 k2 k3).trans (when_2 hl3 hw)]
        exact ⟨r8, hX⟩
  · refine bg_iconst rfl ?_
    refine bg_iret rfl rfl (by rfl) ?_
    rcases (hb4.resolve_left (fun z => absurd (z.1.symm.trans e118) (by decide))).2 with ⟨w, hX⟩ | ⟨k1, w, hX⟩ | ⟨k1, k2, w, hX⟩
    · exact hQ _ 0 (Or.inr ⟨rfl, ⟨by rw [(pair_1 (all_15 hk0) hl3 hk0 w).1]; exact Bool.false_ne_true, by rw [(pair_1 (all_15 hk0) hl3 hk0 w).2]; exact hX⟩⟩)
    · exact hQ _ 0 (Or.inr ⟨rfl, ⟨by rw [(pair_2 (all_15 hk0) hl3 hk0 k1 w).1]; exact Bool.false_ne_true, by rw [(pair_2 (all_15 hk0) hl3 hk0 k1 w).2]; exact hX⟩⟩)
    · exact hQ _ 0 (Or.inr ⟨rfl, ⟨by rw [(pair_3 (all_15 hk0) hl3 hk0 k1 k2 w).1]; exact Bool.false_ne_true, by rw [(pair_3 (all_15 hk0) hl3 hk0 k1 k2 w).2]; exact hX⟩⟩)
end MM
