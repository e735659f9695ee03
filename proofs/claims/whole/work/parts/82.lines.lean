/-! THE REFERENCE: lines, simple ones. Printed by wip/whole/mk82.py. -/
theorem tk_t {K : Nat → Int32} {k : Int32} {s : bP} {b : bP → Bool × bP} (h : K s.1 = k) : sqS (tkS K k s) b = b (s.1 + 1, s.2) := by
  unfold sqS tkS
  rw [if_pos h]
  exact if_pos rfl
theorem tk_f {K : Nat → Int32} {k : Int32} {s : bP} {b : bP → Bool × bP} (h : ¬ K s.1 = k) : sqS (tkS K k s) b = (false, s) := by
  unfold sqS tkS
  rw [if_neg h]
  exact if_neg Bool.false_ne_true
theorem sqS_sqS {a : Bool × bP} {b c : bP → Bool × bP} : sqS (sqS a b) c = sqS a (fun s => sqS (b s) c) := by
  by_cases h : a.1 = true
  · rw [sqS_t h, sqS_t h]
  · rw [sqS_f h, sqS_f h, sqS_f h]
theorem sqS_1 {s : bP} {b : bP → Bool × bP} : sqS (true, s) b = b s := if_pos rfl
theorem rof_s {Kd : Nat → Int32} {t : Nat} : rof Kd (t + 1) = roF (Kd t) (Kd (t + 1)) := by
  unfold rof pvF
  rw [if_neg (Nat.succ_ne_zero t), Nat.add_sub_cancel]
/-- a place among the reference's integers -/
def pos (it : List bIt) (a : Nat) : Nat := lnL (it.take a)
def sgT (Kd : Nat → Int32) (tag : Nat) (it : List bIt) (a b : Nat) : Prop := a ≤ b ∧ b ≤ it.length ∧ okT Kd tag 0 ((it.take b).drop a)
def LRo (Kd : Nat → Int32) (it : List bIt) (W : rW) (t3 : bT) (o : Nat) : Prop :=
  (tg t3 o 0 = 11 → ∃ a b, tg t3 o 3 = nI a ∧ tg t3 o 4 = nI b ∧ W.2.1 o = nI (pos it a) ∧ W.2.2.1 o = nI (pos it b) ∧ sgT Kd 3 it a b) ∧
  (∃ a b, tg t3 o 5 = nI a ∧ tg t3 o 6 = nI b ∧ W.2.2.1 o = nI (pos it a) ∧ W.2.2.2 o = nI (pos it b) ∧ a ≤ b ∧ b ≤ it.length ∧ (a = b ∨ sgT Kd 8 it a b)) ∧
  (tg t3 o 0 = 11 ∨ tg t3 o 0 = 13 ∨ tg t3 o 0 = 15)
/-- the names in the code are names -/
def JB (Kd : Nat → Int32) (it : List bIt) : Prop := ∀ q ∈ it, ∀ j, q.2 = some j → isNm q.1 → Kd j = 30
def LR (Kd : Nat → Int32) (rows : bT) (s : bP) (it : List bIt) (W : rW) : Prop :=
  s.2.1 4 = it.map (rwF rows) ∧ (s.2.1 3).length = min W.1 24 ∧ (∀ q ∈ s.2.1 3, q.length = 7) ∧ W.1 ≤ s.1 ∧ (∀ o, o < (s.2.1 3).length → LRo Kd it W (s.2.1 3) o) ∧ JB Kd it
def LB (h0 : bk_H) (y u v : Nat) (T : List Int32) (P : Nat → bT) (S : bS) (K : rI) (C Fx : rA) (Kd : Nat → Int32) (N : Nat) (nv : Nat → Int32) (rows : bT) (r : Bool × bP) (h : bk_H) (b : Int32) : Prop :=
  (b = 1 ∧ r.1 = true ∧ ∃ (it : List bIt) (W : rW), LR Kd rows r.2 it W ∧ PR h0 y u v T P S K C Fx Kd N W (rcL nv it) (opL it 0) r.2.1 0 h) ∨ (b = 0 ∧ ¬ r.1 = true ∧ PE h0 y u v T P S K C Fx r.2.1 h)
section MM
variable {V : bk_V} {D n : Nat} {B : Nat × Nat} {Q : bk_R → bk_H → Nat → Prop} {h0 h : bk_H} {y u v t d N : Nat} {T : List Int32} {P : Nat → bT} {S : bS} {K J : rI} {C Fx : rA} {Kd : Nat → Int32} {nv : Nat → Int32} {W : rW} {cl : List Int32} {ol : List Nat} {it : List bIt} {cs : Nat × Nat} {rows : bT} {Pt : Nat → bT} {od : Int32}
theorem rp_barkLine (hF : FXk Fx Kd N) (ht : t < N) (hk0 : Kd t = 1) (hL : LR Kd rows (t, Pt, od) it W) (hX : PR h0 y u v T P S K C Fx Kd N W (rcL nv it) (opL it 0) t 0 h) (hQ : (∀ (h' : bk_H) (b : Int32), LB h0 y u v T P S K C Fx Kd N nv rows (lnBark Kd rows (t, Pt, od)) h' b → Q (.inl (some (.int b))) h' n)) : bk_wp V (D + 4) 170 [.ref y] h n B Q := by
  obtain ⟨J, F, K2, C2, hM, j0, j3, j4, ⟨f0, f1, f2, f4⟩, hR, ⟨c5, c13, c6, c14⟩, hO⟩ := id hX
  have hE := hF.2.2.2
  have hu : lnBark Kd rows (t, Pt, od) = lnBark Kd rows (t, Pt, od) := rfl
  conv at hu => rhs; unfold lnBark tnS
  simp only [sqS_sqS, sqS_1] at hu
  replace hu := hu.trans (tk_t hk0)
  refine bg_in rfl rfl ?_
  refine bg_aload0 rfl ?_
  refine bg_dup rfl rfl ?_
  refine bg_getfield rfl rfl hM.Y (by rfl) ?_
  refine bg_iconst rfl ?_
  refine bg_iadd rfl ?_
  refine bg_putfield rfl rfl hM.Y (by rfl) ⟨rfl, rfl⟩ (by rfl) (fun h7 f7 g7 => ?_)
  rw [j3, nI_1] at f7
  have hM := hM.j (J' := upd J 3 (nI (t + 1))) f7 g7 rfl
  have hX : PR h0 y u v T P S K C Fx Kd N W (rcL nv it) (opL it 0) (t + 1) 0 h7 := ⟨_, F, K2, C2, hM, j0, rfl, j4, ⟨f0, f1, f2, f4⟩, RoL_0 hR ht (rof_0 (by rw [hk0]; decide)), ⟨c5, c13, c6, c14⟩, hO⟩
  have q1 : t + 1 < N := KEk hE ht hk0 (by decide) (by decide)
  have kk0 := hk0
  refine bg_aload0 rfl ?_
  refine bg_bipush rfl ?_
  refine bg_iconst rfl ?_
  refine bg_virt2 rfl rfl rfl rfl ⟨_, hM.Y⟩ ?_
  refine rq_eatAs (t := t + 1) (wKe (k := 30) 30 (by decide) (by decide) (by decide)) (fun z => by rw [rof_s, z, kk0]; decide) hF q1 hX (fun h1 b1 hb1 => bk_Ki ?_)
  refine bg_if_eq rfl (fun e17 => ?_) (fun e17 => ?_)
  · obtain ⟨-, w, hX⟩ := hb1.resolve_left (fun z => absurd (z.1.symm.trans e17) (by decide))
    have hu := hu.trans (tk_f w)
    have hfin : ¬ (lnBark Kd rows (t, Pt, od)).1 = true ∧ PE h0 y u v T P S K C Fx (lnBark Kd rows (t, Pt, od)).2.1 h1 := by
      rw [hu]
      exact ⟨Bool.false_ne_true, hX⟩
    refine bg_iconst rfl ?_
    refine bg_iret rfl rfl (by rfl) ?_
    first
      | exact hQ _ 0 (Or.inr ⟨rfl, hfin⟩)
      | (refine hQ h5 1 (Or.inl ⟨rfl, ?_⟩)
         rw [hu]
         exact ⟨rfl, it, W, ⟨hL.1, hL.2.1, hL.2.2.1, Nat.le_trans hL.2.2.2.1 (show t ≤ t + 6 from Nat.le_add_right t 6), hL.2.2.2.2⟩, hX⟩)
  · obtain ⟨-, kk1, hX⟩ := hb1.resolve_right (fun z => e17 z.1)
    have hu := hu.trans (tk_t kk1)
    obtain ⟨J, F, K2, C2, hM, j0, j3, j4, ⟨f0, f1, f2, f4⟩, hR, ⟨c5, c13, c6, c14⟩, hO⟩ := id hX
    have q2 : t + 2 < N := KEk hE q1 kk1 (by decide) (by decide)
    refine bg_aload0 rfl ?_
    refine bg_iconst rfl ?_
    refine bg_virt1 rfl rfl rfl rfl ⟨_, hM.Y⟩ ?_
    refine rq_eat (t := t + 2) (wKe (k := 2) 2 (by decide) (by decide) (by decide)) (fun z => rof_0 (by rw [z]; decide)) hF q2 hX (fun h2 b2 hb2 => bk_Ki ?_)
    refine bg_if_eq rfl (fun e25 => ?_) (fun e25 => ?_)
    · obtain ⟨-, w, hX⟩ := hb2.resolve_left (fun z => absurd (z.1.symm.trans e25) (by decide))
      have hu := hu.trans (tk_f w)
      have hfin : ¬ (lnBark Kd rows (t, Pt, od)).1 = true ∧ PE h0 y u v T P S K C Fx (lnBark Kd rows (t, Pt, od)).2.1 h2 := by
        rw [hu]
        exact ⟨Bool.false_ne_true, hX.e⟩
      refine bg_iconst rfl ?_
      refine bg_iret rfl rfl (by rfl) ?_
      first
        | exact hQ _ 0 (Or.inr ⟨rfl, hfin⟩)
        | (refine hQ h5 1 (Or.inl ⟨rfl, ?_⟩)
           rw [hu]
           exact ⟨rfl, it, W, ⟨hL.1, hL.2.1, hL.2.2.1, Nat.le_trans hL.2.2.2.1 (show t ≤ t + 6 from Nat.le_add_right t 6), hL.2.2.2.2⟩, hX⟩)
    · obtain ⟨-, kk2, hX⟩ := hb2.resolve_right (fun z => e25 z.1)
      have hu := hu.trans (tk_t kk2)
      obtain ⟨J, F, K2, C2, hM, j0, j3, j4, ⟨f0, f1, f2, f4⟩, hR, ⟨c5, c13, c6, c14⟩, hO⟩ := id hX
      have q3 : t + 3 < N := KEk hE q2 kk2 (by decide) (by decide)
      refine bg_aload0 rfl ?_
      refine bg_bipush rfl ?_
      refine bg_bipush rfl ?_
      refine bg_virt2 rfl rfl rfl rfl ⟨_, hM.Y⟩ ?_
      refine rq_eatAs (t := t + 3) (wKe (k := 31) 31 (by decide) (by decide) (by decide)) (fun z => by rw [rof_s, z, kk2]; decide) hF q3 hX (fun h3 b3 hb3 => bk_Ki ?_)
      refine bg_if_eq rfl (fun e36 => ?_) (fun e36 => ?_)
      · obtain ⟨-, w, hX⟩ := hb3.resolve_left (fun z => absurd (z.1.symm.trans e36) (by decide))
        have hu := hu.trans (tk_f w)
        have hfin : ¬ (lnBark Kd rows (t, Pt, od)).1 = true ∧ PE h0 y u v T P S K C Fx (lnBark Kd rows (t, Pt, od)).2.1 h3 := by
          rw [hu]
          exact ⟨Bool.false_ne_true, hX⟩
        refine bg_iconst rfl ?_
        refine bg_iret rfl rfl (by rfl) ?_
        first
          | exact hQ _ 0 (Or.inr ⟨rfl, hfin⟩)
          | (refine hQ h5 1 (Or.inl ⟨rfl, ?_⟩)
             rw [hu]
             exact ⟨rfl, it, W, ⟨hL.1, hL.2.1, hL.2.2.1, Nat.le_trans hL.2.2.2.1 (show t ≤ t + 6 from Nat.le_add_right t 6), hL.2.2.2.2⟩, hX⟩)
      · obtain ⟨-, kk3, hX⟩ := hb3.resolve_right (fun z => e36 z.1)
        have hu := hu.trans (tk_t kk3)
        obtain ⟨J, F, K2, C2, hM, j0, j3, j4, ⟨f0, f1, f2, f4⟩, hR, ⟨c5, c13, c6, c14⟩, hO⟩ := id hX
        have q4 : t + 4 < N := KEk hE q3 kk3 (by decide) (by decide)
        refine bg_aload0 rfl ?_
        refine bg_iconst rfl ?_
        refine bg_virt1 rfl rfl rfl rfl ⟨_, hM.Y⟩ ?_
        refine rq_eat (t := t + 4) (wKe (k := 3) 3 (by decide) (by decide) (by decide)) (fun z => rof_0 (by rw [z]; decide)) hF q4 hX (fun h4 b4 hb4 => bk_Ki ?_)
        refine bg_if_eq rfl (fun e44 => ?_) (fun e44 => ?_)
        · obtain ⟨-, w, hX⟩ := hb4.resolve_left (fun z => absurd (z.1.symm.trans e44) (by decide))
          have hu := hu.trans (tk_f w)
          have hfin : ¬ (lnBark Kd rows (t, Pt, od)).1 = true ∧ PE h0 y u v T P S K C Fx (lnBark Kd rows (t, Pt, od)).2.1 h4 := by
            rw [hu]
            exact ⟨Bool.false_ne_true, hX.e⟩
          refine bg_iconst rfl ?_
          refine bg_iret rfl rfl (by rfl) ?_
          first
            | exact hQ _ 0 (Or.inr ⟨rfl, hfin⟩)
            | (refine hQ h5 1 (Or.inl ⟨rfl, ?_⟩)
               rw [hu]
               exact ⟨rfl, it, W, ⟨hL.1, hL.2.1, hL.2.2.1, Nat.le_trans hL.2.2.2.1 (show t ≤ t + 6 from Nat.le_add_right t 6), hL.2.2.2.2⟩, hX⟩)
        · obtain ⟨-, kk4, hX⟩ := hb4.resolve_right (fun z => e44 z.1)
          have hu := hu.trans (tk_t kk4)
          obtain ⟨J, F, K2, C2, hM, j0, j3, j4, ⟨f0, f1, f2, f4⟩, hR, ⟨c5, c13, c6, c14⟩, hO⟩ := id hX
          have q5 : t + 5 < N := KEk hE q4 kk4 (by decide) (by decide)
          refine bg_aload0 rfl ?_
          refine bg_bipush rfl ?_
          refine bg_bipush rfl ?_
          refine bg_virt2 rfl rfl rfl rfl ⟨_, hM.Y⟩ ?_
          refine rq_eatAs (t := t + 5) (wKe (k := 31) 31 (by decide) (by decide) (by decide)) (fun z => by rw [rof_s, z, kk4]; decide) hF q5 hX (fun h5 b5 hb5 => bk_Ki ?_)
          refine bg_if_eq rfl (fun e55 => ?_) (fun e55 => ?_)
          · obtain ⟨-, w, hX⟩ := hb5.resolve_left (fun z => absurd (z.1.symm.trans e55) (by decide))
            have hu := hu.trans (tk_f w)
            have hfin : ¬ (lnBark Kd rows (t, Pt, od)).1 = true ∧ PE h0 y u v T P S K C Fx (lnBark Kd rows (t, Pt, od)).2.1 h5 := by
              rw [hu]
              exact ⟨Bool.false_ne_true, hX⟩
            refine bg_iconst rfl ?_
            refine bg_iret rfl rfl (by rfl) ?_
            first
              | exact hQ _ 0 (Or.inr ⟨rfl, hfin⟩)
              | (refine hQ h5 1 (Or.inl ⟨rfl, ?_⟩)
                 rw [hu]
                 exact ⟨rfl, it, W, ⟨hL.1, hL.2.1, hL.2.2.1, Nat.le_trans hL.2.2.2.1 (show t ≤ t + 6 from Nat.le_add_right t 6), hL.2.2.2.2⟩, hX⟩)
          · obtain ⟨-, kk5, hX⟩ := hb5.resolve_right (fun z => e55 z.1)
            have hu := hu.trans (tk_t kk5)
            obtain ⟨J, F, K2, C2, hM, j0, j3, j4, ⟨f0, f1, f2, f4⟩, hR, ⟨c5, c13, c6, c14⟩, hO⟩ := id hX
            refine bg_iconst rfl ?_
            refine bg_goto rfl ?_
            refine bg_iret rfl rfl (by rfl) ?_
            first
              | exact hQ _ 0 (Or.inr ⟨rfl, hfin⟩)
              | (refine hQ h5 1 (Or.inl ⟨rfl, ?_⟩)
                 rw [hu]
                 exact ⟨rfl, it, W, ⟨hL.1, hL.2.1, hL.2.2.1, Nat.le_trans hL.2.2.2.1 (show t ≤ t + 6 from Nat.le_add_right t 6), hL.2.2.2.2⟩, hX⟩)
theorem rp_beaterLine (hF : FXk Fx Kd N) (ht : t < N) (hk0 : Kd t = 4) (hL : LR Kd rows (t, Pt, od) it W) (hX : PR h0 y u v T P S K C Fx Kd N W (rcL nv it) (opL it 0) t 0 h) (hQ : (∀ (h' : bk_H) (b : Int32), LB h0 y u v T P S K C Fx Kd N nv rows (lnBeater Kd rows (t, Pt, od)) h' b → Q (.inl (some (.int b))) h' n)) : bk_wp V (D + 4) 171 [.ref y] h n B Q := by
  obtain ⟨J, F, K2, C2, hM, j0, j3, j4, ⟨f0, f1, f2, f4⟩, hR, ⟨c5, c13, c6, c14⟩, hO⟩ := id hX
  have hE := hF.2.2.2
  have hu : lnBeater Kd rows (t, Pt, od) = lnBeater Kd rows (t, Pt, od) := rfl
  conv at hu => rhs; unfold lnBeater tnS
  simp only [sqS_sqS, sqS_1] at hu
  replace hu := hu.trans (tk_t hk0)
  refine bg_in rfl rfl ?_
  refine bg_aload0 rfl ?_
  refine bg_dup rfl rfl ?_
  refine bg_getfield rfl rfl hM.Y (by rfl) ?_
  refine bg_iconst rfl ?_
  refine bg_iadd rfl ?_
  refine bg_putfield rfl rfl hM.Y (by rfl) ⟨rfl, rfl⟩ (by rfl) (fun h7 f7 g7 => ?_)
  rw [j3, nI_1] at f7
  have hM := hM.j (J' := upd J 3 (nI (t + 1))) f7 g7 rfl
  have hX : PR h0 y u v T P S K C Fx Kd N W (rcL nv it) (opL it 0) (t + 1) 0 h7 := ⟨_, F, K2, C2, hM, j0, rfl, j4, ⟨f0, f1, f2, f4⟩, RoL_0 hR ht (rof_0 (by rw [hk0]; decide)), ⟨c5, c13, c6, c14⟩, hO⟩
  have q1 : t + 1 < N := KEk hE ht hk0 (by decide) (by decide)
  have kk0 := hk0
  refine bg_aload0 rfl ?_
  refine bg_bipush rfl ?_
  refine bg_iconst rfl ?_
  refine bg_virt2 rfl rfl rfl rfl ⟨_, hM.Y⟩ ?_
  refine rq_eatAs (t := t + 1) (wKe (k := 30) 30 (by decide) (by decide) (by decide)) (fun z => by rw [rof_s, z, kk0]; decide) hF q1 hX (fun h1 b1 hb1 => bk_Ki ?_)
  refine bg_if_eq rfl (fun e17 => ?_) (fun e17 => ?_)
  · obtain ⟨-, w, hX⟩ := hb1.resolve_left (fun z => absurd (z.1.symm.trans e17) (by decide))
    have hu := hu.trans (tk_f w)
    have hfin : ¬ (lnBeater Kd rows (t, Pt, od)).1 = true ∧ PE h0 y u v T P S K C Fx (lnBeater Kd rows (t, Pt, od)).2.1 h1 := by
      rw [hu]
      exact ⟨Bool.false_ne_true, hX⟩
    refine bg_iconst rfl ?_
    refine bg_iret rfl rfl (by rfl) ?_
    first
      | exact hQ _ 0 (Or.inr ⟨rfl, hfin⟩)
      | (refine hQ h5 1 (Or.inl ⟨rfl, ?_⟩)
         rw [hu]
         exact ⟨rfl, it, W, ⟨hL.1, hL.2.1, hL.2.2.1, Nat.le_trans hL.2.2.2.1 (show t ≤ t + 6 from Nat.le_add_right t 6), hL.2.2.2.2⟩, hX⟩)
  · obtain ⟨-, kk1, hX⟩ := hb1.resolve_right (fun z => e17 z.1)
    have hu := hu.trans (tk_t kk1)
    obtain ⟨J, F, K2, C2, hM, j0, j3, j4, ⟨f0, f1, f2, f4⟩, hR, ⟨c5, c13, c6, c14⟩, hO⟩ := id hX
    have q2 : t + 2 < N := KEk hE q1 kk1 (by decide) (by decide)
    refine bg_aload0 rfl ?_
    refine bg_iconst rfl ?_
    refine bg_virt1 rfl rfl rfl rfl ⟨_, hM.Y⟩ ?_
    refine rq_eat (t := t + 2) (wKe (k := 5) 5 (by decide) (by decide) (by decide)) (fun z => rof_0 (by rw [z]; decide)) hF q2 hX (fun h2 b2 hb2 => bk_Ki ?_)
    refine bg_if_eq rfl (fun e25 => ?_) (fun e25 => ?_)
    · obtain ⟨-, w, hX⟩ := hb2.resolve_left (fun z => absurd (z.1.symm.trans e25) (by decide))
      have hu := hu.trans (tk_f w)
      have hfin : ¬ (lnBeater Kd rows (t, Pt, od)).1 = true ∧ PE h0 y u v T P S K C Fx (lnBeater Kd rows (t, Pt, od)).2.1 h2 := by
        rw [hu]
        exact ⟨Bool.false_ne_true, hX.e⟩
      refine bg_iconst rfl ?_
      refine bg_iret rfl rfl (by rfl) ?_
      first
        | exact hQ _ 0 (Or.inr ⟨rfl, hfin⟩)
        | (refine hQ h5 1 (Or.inl ⟨rfl, ?_⟩)
           rw [hu]
           exact ⟨rfl, it, W, ⟨hL.1, hL.2.1, hL.2.2.1, Nat.le_trans hL.2.2.2.1 (show t ≤ t + 6 from Nat.le_add_right t 6), hL.2.2.2.2⟩, hX⟩)
    · obtain ⟨-, kk2, hX⟩ := hb2.resolve_right (fun z => e25 z.1)
      have hu := hu.trans (tk_t kk2)
      obtain ⟨J, F, K2, C2, hM, j0, j3, j4, ⟨f0, f1, f2, f4⟩, hR, ⟨c5, c13, c6, c14⟩, hO⟩ := id hX
      have q3 : t + 3 < N := KEk hE q2 kk2 (by decide) (by decide)
      refine bg_aload0 rfl ?_
      refine bg_bipush rfl ?_
      refine bg_bipush rfl ?_
      refine bg_virt2 rfl rfl rfl rfl ⟨_, hM.Y⟩ ?_
      refine rq_eatAs (t := t + 3) (wKe (k := 31) 31 (by decide) (by decide) (by decide)) (fun z => by rw [rof_s, z, kk2]; decide) hF q3 hX (fun h3 b3 hb3 => bk_Ki ?_)
      refine bg_if_eq rfl (fun e36 => ?_) (fun e36 => ?_)
      · obtain ⟨-, w, hX⟩ := hb3.resolve_left (fun z => absurd (z.1.symm.trans e36) (by decide))
        have hu := hu.trans (tk_f w)
        have hfin : ¬ (lnBeater Kd rows (t, Pt, od)).1 = true ∧ PE h0 y u v T P S K C Fx (lnBeater Kd rows (t, Pt, od)).2.1 h3 := by
          rw [hu]
          exact ⟨Bool.false_ne_true, hX⟩
        refine bg_iconst rfl ?_
        refine bg_iret rfl rfl (by rfl) ?_
        first
          | exact hQ _ 0 (Or.inr ⟨rfl, hfin⟩)
          | (refine hQ h5 1 (Or.inl ⟨rfl, ?_⟩)
             rw [hu]
             exact ⟨rfl, it, W, ⟨hL.1, hL.2.1, hL.2.2.1, Nat.le_trans hL.2.2.2.1 (show t ≤ t + 6 from Nat.le_add_right t 6), hL.2.2.2.2⟩, hX⟩)
      · obtain ⟨-, kk3, hX⟩ := hb3.resolve_right (fun z => e36 z.1)
        have hu := hu.trans (tk_t kk3)
        obtain ⟨J, F, K2, C2, hM, j0, j3, j4, ⟨f0, f1, f2, f4⟩, hR, ⟨c5, c13, c6, c14⟩, hO⟩ := id hX
        have q4 : t + 4 < N := KEk hE q3 kk3 (by decide) (by decide)
        refine bg_aload0 rfl ?_
        refine bg_iconst rfl ?_
        refine bg_virt1 rfl rfl rfl rfl ⟨_, hM.Y⟩ ?_
        refine rq_eat (t := t + 4) (wKe (k := 6) 6 (by decide) (by decide) (by decide)) (fun z => rof_0 (by rw [z]; decide)) hF q4 hX (fun h4 b4 hb4 => bk_Ki ?_)
        refine bg_if_eq rfl (fun e44 => ?_) (fun e44 => ?_)
        · obtain ⟨-, w, hX⟩ := hb4.resolve_left (fun z => absurd (z.1.symm.trans e44) (by decide))
          have hu := hu.trans (tk_f w)
          have hfin : ¬ (lnBeater Kd rows (t, Pt, od)).1 = true ∧ PE h0 y u v T P S K C Fx (lnBeater Kd rows (t, Pt, od)).2.1 h4 := by
            rw [hu]
            exact ⟨Bool.false_ne_true, hX.e⟩
          refine bg_iconst rfl ?_
          refine bg_iret rfl rfl (by rfl) ?_
          first
            | exact hQ _ 0 (Or.inr ⟨rfl, hfin⟩)
            | (refine hQ h5 1 (Or.inl ⟨rfl, ?_⟩)
               rw [hu]
               exact ⟨rfl, it, W, ⟨hL.1, hL.2.1, hL.2.2.1, Nat.le_trans hL.2.2.2.1 (show t ≤ t + 6 from Nat.le_add_right t 6), hL.2.2.2.2⟩, hX⟩)
        · obtain ⟨-, kk4, hX⟩ := hb4.resolve_right (fun z => e44 z.1)
          have hu := hu.trans (tk_t kk4)
          obtain ⟨J, F, K2, C2, hM, j0, j3, j4, ⟨f0, f1, f2, f4⟩, hR, ⟨c5, c13, c6, c14⟩, hO⟩ := id hX
          have q5 : t + 5 < N := KEk hE q4 kk4 (by decide) (by decide)
          refine bg_aload0 rfl ?_
          refine bg_bipush rfl ?_
          refine bg_bipush rfl ?_
          refine bg_virt2 rfl rfl rfl rfl ⟨_, hM.Y⟩ ?_
          refine rq_eatAs (t := t + 5) (wKe (k := 31) 31 (by decide) (by decide) (by decide)) (fun z => by rw [rof_s, z, kk4]; decide) hF q5 hX (fun h5 b5 hb5 => bk_Ki ?_)
          refine bg_if_eq rfl (fun e55 => ?_) (fun e55 => ?_)
          · obtain ⟨-, w, hX⟩ := hb5.resolve_left (fun z => absurd (z.1.symm.trans e55) (by decide))
            have hu := hu.trans (tk_f w)
            have hfin : ¬ (lnBeater Kd rows (t, Pt, od)).1 = true ∧ PE h0 y u v T P S K C Fx (lnBeater Kd rows (t, Pt, od)).2.1 h5 := by
              rw [hu]
              exact ⟨Bool.false_ne_true, hX⟩
            refine bg_iconst rfl ?_
            refine bg_iret rfl rfl (by rfl) ?_
            first
              | exact hQ _ 0 (Or.inr ⟨rfl, hfin⟩)
              | (refine hQ h5 1 (Or.inl ⟨rfl, ?_⟩)
                 rw [hu]
                 exact ⟨rfl, it, W, ⟨hL.1, hL.2.1, hL.2.2.1, Nat.le_trans hL.2.2.2.1 (show t ≤ t + 6 from Nat.le_add_right t 6), hL.2.2.2.2⟩, hX⟩)
          · obtain ⟨-, kk5, hX⟩ := hb5.resolve_right (fun z => e55 z.1)
            have hu := hu.trans (tk_t kk5)
            obtain ⟨J, F, K2, C2, hM, j0, j3, j4, ⟨f0, f1, f2, f4⟩, hR, ⟨c5, c13, c6, c14⟩, hO⟩ := id hX
            refine bg_iconst rfl ?_
            refine bg_goto rfl ?_
            refine bg_iret rfl rfl (by rfl) ?_
            first
              | exact hQ _ 0 (Or.inr ⟨rfl, hfin⟩)
              | (refine hQ h5 1 (Or.inl ⟨rfl, ?_⟩)
                 rw [hu]
                 exact ⟨rfl, it, W, ⟨hL.1, hL.2.1, hL.2.2.1, Nat.le_trans hL.2.2.2.1 (show t ≤ t + 6 from Nat.le_add_right t 6), hL.2.2.2.2⟩, hX⟩)
theorem rp_spiritLine (hF : FXk Fx Kd N) (ht : t < N) (hk0 : Kd t = 7) (hL : LR Kd rows (t, Pt, od) it W) (hX : PR h0 y u v T P S K C Fx Kd N W (rcL nv it) (opL it 0) t 0 h) (hQ : (∀ (h' : bk_H) (b : Int32), LB h0 y u v T P S K C Fx Kd N nv rows (lnSpirit Kd rows (t, Pt, od)) h' b → Q (.inl (some (.int b))) h' n)) : bk_wp V (D + 4) 172 [.ref y] h n B Q := by
  obtain ⟨J, F, K2, C2, hM, j0, j3, j4, ⟨f0, f1, f2, f4⟩, hR, ⟨c5, c13, c6, c14⟩, hO⟩ := id hX
  have hE := hF.2.2.2
  have hu : lnSpirit Kd rows (t, Pt, od) = lnSpirit Kd rows (t, Pt, od) := rfl
  conv at hu => rhs; unfold lnSpirit tnS
  simp only [sqS_sqS, sqS_1] at hu
  replace hu := hu.trans (tk_t hk0)
  refine bg_in rfl rfl ?_
  refine bg_aload0 rfl ?_
  refine bg_dup rfl rfl ?_
  refine bg_getfield rfl rfl hM.Y (by rfl) ?_
  refine bg_iconst rfl ?_
  refine bg_iadd rfl ?_
  refine bg_putfield rfl rfl hM.Y (by rfl) ⟨rfl, rfl⟩ (by rfl) (fun h7 f7 g7 => ?_)
  rw [j3, nI_1] at f7
  have hM := hM.j (J' := upd J 3 (nI (t + 1))) f7 g7 rfl
  have hX : PR h0 y u v T P S K C Fx Kd N W (rcL nv it) (opL it 0) (t + 1) 0 h7 := ⟨_, F, K2, C2, hM, j0, rfl, j4, ⟨f0, f1, f2, f4⟩, RoL_0 hR ht (rof_0 (by rw [hk0]; decide)), ⟨c5, c13, c6, c14⟩, hO⟩
  have q1 : t + 1 < N := KEk hE ht hk0 (by decide) (by decide)
  have kk0 := hk0
  refine bg_aload0 rfl ?_
  refine bg_bipush rfl ?_
  refine bg_iconst rfl ?_
  refine bg_virt2 rfl rfl rfl rfl ⟨_, hM.Y⟩ ?_
  refine rq_eatAs (t := t + 1) (wKe (k := 30) 30 (by decide) (by decide) (by decide)) (fun z => by rw [rof_s, z, kk0]; decide) hF q1 hX (fun h1 b1 hb1 => bk_Ki ?_)
  refine bg_if_eq rfl (fun e17 => ?_) (fun e17 => ?_)
  · obtain ⟨-, w, hX⟩ := hb1.resolve_left (fun z => absurd (z.1.symm.trans e17) (by decide))
    have hu := hu.trans (tk_f w)
    have hfin : ¬ (lnSpirit Kd rows (t, Pt, od)).1 = true ∧ PE h0 y u v T P S K C Fx (lnSpirit Kd rows (t, Pt, od)).2.1 h1 := by
      rw [hu]
      exact ⟨Bool.false_ne_true, hX⟩
    refine bg_iconst rfl ?_
    refine bg_iret rfl rfl (by rfl) ?_
    first
      | exact hQ _ 0 (Or.inr ⟨rfl, hfin⟩)
      | (refine hQ h7 1 (Or.inl ⟨rfl, ?_⟩)
         rw [hu]
         exact ⟨rfl, it, W, ⟨hL.1, hL.2.1, hL.2.2.1, Nat.le_trans hL.2.2.2.1 (show t ≤ t + 8 from Nat.le_add_right t 8), hL.2.2.2.2⟩, hX⟩)
  · obtain ⟨-, kk1, hX⟩ := hb1.resolve_right (fun z => e17 z.1)
    have hu := hu.trans (tk_t kk1)
    obtain ⟨J, F, K2, C2, hM, j0, j3, j4, ⟨f0, f1, f2, f4⟩, hR, ⟨c5, c13, c6, c14⟩, hO⟩ := id hX
    have q2 : t + 2 < N := KEk hE q1 kk1 (by decide) (by decide)
    refine bg_aload0 rfl ?_
    refine bg_bipush rfl ?_
    refine bg_virt1 rfl rfl rfl rfl ⟨_, hM.Y⟩ ?_
    refine rq_eat (t := t + 2) (wKe (k := 8) 8 (by decide) (by decide) (by decide)) (fun z => rof_0 (by rw [z]; decide)) hF q2 hX (fun h2 b2 hb2 => bk_Ki ?_)
    refine bg_if_eq rfl (fun e26 => ?_) (fun e26 => ?_)
    · obtain ⟨-, w, hX⟩ := hb2.resolve_left (fun z => absurd (z.1.symm.trans e26) (by decide))
      have hu := hu.trans (tk_f w)
      have hfin : ¬ (lnSpirit Kd rows (t, Pt, od)).1 = true ∧ PE h0 y u v T P S K C Fx (lnSpirit Kd rows (t, Pt, od)).2.1 h2 := by
        rw [hu]
        exact ⟨Bool.false_ne_true, hX.e⟩
      refine bg_iconst rfl ?_
      refine bg_iret rfl rfl (by rfl) ?_
      first
        | exact hQ _ 0 (Or.inr ⟨rfl, hfin⟩)
        | (refine hQ h7 1 (Or.inl ⟨rfl, ?_⟩)
           rw [hu]
           exact ⟨rfl, it, W, ⟨hL.1, hL.2.1, hL.2.2.1, Nat.le_trans hL.2.2.2.1 (show t ≤ t + 8 from Nat.le_add_right t 8), hL.2.2.2.2⟩, hX⟩)
    · obtain ⟨-, kk2, hX⟩ := hb2.resolve_right (fun z => e26 z.1)
      have hu := hu.trans (tk_t kk2)
      obtain ⟨J, F, K2, C2, hM, j0, j3, j4, ⟨f0, f1, f2, f4⟩, hR, ⟨c5, c13, c6, c14⟩, hO⟩ := id hX
      have q3 : t + 3 < N := KEk hE q2 kk2 (by decide) (by decide)
      refine bg_aload0 rfl ?_
      refine bg_bipush rfl ?_
      refine bg_bipush rfl ?_
      refine bg_virt2 rfl rfl rfl rfl ⟨_, hM.Y⟩ ?_
      refine rq_eatAs (t := t + 3) (wKe (k := 31) 31 (by decide) (by decide) (by decide)) (fun z => by rw [rof_s, z, kk2]; decide) hF q3 hX (fun h3 b3 hb3 => bk_Ki ?_)
      refine bg_if_eq rfl (fun e37 => ?_) (fun e37 => ?_)
      · obtain ⟨-, w, hX⟩ := hb3.resolve_left (fun z => absurd (z.1.symm.trans e37) (by decide))
        have hu := hu.trans (tk_f w)
        have hfin : ¬ (lnSpirit Kd rows (t, Pt, od)).1 = true ∧ PE h0 y u v T P S K C Fx (lnSpirit Kd rows (t, Pt, od)).2.1 h3 := by
          rw [hu]
          exact ⟨Bool.false_ne_true, hX⟩
        refine bg_iconst rfl ?_
        refine bg_iret rfl rfl (by rfl) ?_
        first
          | exact hQ _ 0 (Or.inr ⟨rfl, hfin⟩)
          | (refine hQ h7 1 (Or.inl ⟨rfl, ?_⟩)
             rw [hu]
             exact ⟨rfl, it, W, ⟨hL.1, hL.2.1, hL.2.2.1, Nat.le_trans hL.2.2.2.1 (show t ≤ t + 8 from Nat.le_add_right t 8), hL.2.2.2.2⟩, hX⟩)
      · obtain ⟨-, kk3, hX⟩ := hb3.resolve_right (fun z => e37 z.1)
        have hu := hu.trans (tk_t kk3)
        obtain ⟨J, F, K2, C2, hM, j0, j3, j4, ⟨f0, f1, f2, f4⟩, hR, ⟨c5, c13, c6, c14⟩, hO⟩ := id hX
        have q4 : t + 4 < N := KEk hE q3 kk3 (by decide) (by decide)
        refine bg_aload0 rfl ?_
        refine bg_bipush rfl ?_
        refine bg_virt1 rfl rfl rfl rfl ⟨_, hM.Y⟩ ?_
        refine rq_eat (t := t + 4) (wKe (k := 9) 9 (by decide) (by decide) (by decide)) (fun z => rof_0 (by rw [z]; decide)) hF q4 hX (fun h4 b4 hb4 => bk_Ki ?_)
        refine bg_if_eq rfl (fun e46 => ?_) (fun e46 => ?_)
        · obtain ⟨-, w, hX⟩ := hb4.resolve_left (fun z => absurd (z.1.symm.trans e46) (by decide))
          have hu := hu.trans (tk_f w)
          have hfin : ¬ (lnSpirit Kd rows (t, Pt, od)).1 = true ∧ PE h0 y u v T P S K C Fx (lnSpirit Kd rows (t, Pt, od)).2.1 h4 := by
            rw [hu]
            exact ⟨Bool.false_ne_true, hX.e⟩
          refine bg_iconst rfl ?_
          refine bg_iret rfl rfl (by rfl) ?_
          first
            | exact hQ _ 0 (Or.inr ⟨rfl, hfin⟩)
            | (refine hQ h7 1 (Or.inl ⟨rfl, ?_⟩)
               rw [hu]
               exact ⟨rfl, it, W, ⟨hL.1, hL.2.1, hL.2.2.1, Nat.le_trans hL.2.2.2.1 (show t ≤ t + 8 from Nat.le_add_right t 8), hL.2.2.2.2⟩, hX⟩)
        · obtain ⟨-, kk4, hX⟩ := hb4.resolve_right (fun z => e46 z.1)
          have hu := hu.trans (tk_t kk4)
          obtain ⟨J, F, K2, C2, hM, j0, j3, j4, ⟨f0, f1, f2, f4⟩, hR, ⟨c5, c13, c6, c14⟩, hO⟩ := id hX
          have q5 : t + 5 < N := KEk hE q4 kk4 (by decide) (by decide)
          refine bg_aload0 rfl ?_
          refine bg_bipush rfl ?_
          refine bg_bipush rfl ?_
          refine bg_virt2 rfl rfl rfl rfl ⟨_, hM.Y⟩ ?_
          refine rq_eatAs (t := t + 5) (wKe (k := 31) 31 (by decide) (by decide) (by decide)) (fun z => by rw [rof_s, z, kk4]; decide) hF q5 hX (fun h5 b5 hb5 => bk_Ki ?_)
          refine bg_if_eq rfl (fun e57 => ?_) (fun e57 => ?_)
          · obtain ⟨-, w, hX⟩ := hb5.resolve_left (fun z => absurd (z.1.symm.trans e57) (by decide))
            have hu := hu.trans (tk_f w)
            have hfin : ¬ (lnSpirit Kd rows (t, Pt, od)).1 = true ∧ PE h0 y u v T P S K C Fx (lnSpirit Kd rows (t, Pt, od)).2.1 h5 := by
              rw [hu]
              exact ⟨Bool.false_ne_true, hX⟩
            refine bg_iconst rfl ?_
            refine bg_iret rfl rfl (by rfl) ?_
            first
              | exact hQ _ 0 (Or.inr ⟨rfl, hfin⟩)
              | (refine hQ h7 1 (Or.inl ⟨rfl, ?_⟩)
                 rw [hu]
                 exact ⟨rfl, it, W, ⟨hL.1, hL.2.1, hL.2.2.1, Nat.le_trans hL.2.2.2.1 (show t ≤ t + 8 from Nat.le_add_right t 8), hL.2.2.2.2⟩, hX⟩)
          · obtain ⟨-, kk5, hX⟩ := hb5.resolve_right (fun z => e57 z.1)
            have hu := hu.trans (tk_t kk5)
            obtain ⟨J, F, K2, C2, hM, j0, j3, j4, ⟨f0, f1, f2, f4⟩, hR, ⟨c5, c13, c6, c14⟩, hO⟩ := id hX
            have q6 : t + 6 < N := KEk hE q5 kk5 (by decide) (by decide)
            refine bg_aload0 rfl ?_
            refine bg_bipush rfl ?_
            refine bg_virt1 rfl rfl rfl rfl ⟨_, hM.Y⟩ ?_
            refine rq_eat (t := t + 6) (wKe (k := 10) 10 (by decide) (by decide) (by decide)) (fun z => rof_0 (by rw [z]; decide)) hF q6 hX (fun h6 b6 hb6 => bk_Ki ?_)
            refine bg_if_eq rfl (fun e66 => ?_) (fun e66 => ?_)
            · obtain ⟨-, w, hX⟩ := hb6.resolve_left (fun z => absurd (z.1.symm.trans e66) (by decide))
              have hu := hu.trans (tk_f w)
              have hfin : ¬ (lnSpirit Kd rows (t, Pt, od)).1 = true ∧ PE h0 y u v T P S K C Fx (lnSpirit Kd rows (t, Pt, od)).2.1 h6 := by
                rw [hu]
                exact ⟨Bool.false_ne_true, hX.e⟩
              refine bg_iconst rfl ?_
              refine bg_iret rfl rfl (by rfl) ?_
              first
                | exact hQ _ 0 (Or.inr ⟨rfl, hfin⟩)
                | (refine hQ h7 1 (Or.inl ⟨rfl, ?_⟩)
                   rw [hu]
                   exact ⟨rfl, it, W, ⟨hL.1, hL.2.1, hL.2.2.1, Nat.le_trans hL.2.2.2.1 (show t ≤ t + 8 from Nat.le_add_right t 8), hL.2.2.2.2⟩, hX⟩)
            · obtain ⟨-, kk6, hX⟩ := hb6.resolve_right (fun z => e66 z.1)
              have hu := hu.trans (tk_t kk6)
              obtain ⟨J, F, K2, C2, hM, j0, j3, j4, ⟨f0, f1, f2, f4⟩, hR, ⟨c5, c13, c6, c14⟩, hO⟩ := id hX
              have q7 : t + 7 < N := KEk hE q6 kk6 (by decide) (by decide)
              refine bg_aload0 rfl ?_
              refine bg_bipush rfl ?_
              refine bg_bipush rfl ?_
              refine bg_virt2 rfl rfl rfl rfl ⟨_, hM.Y⟩ ?_
              refine rq_eatAs (t := t + 7) (wKe (k := 31) 31 (by decide) (by decide) (by decide)) (fun z => by rw [rof_s, z, kk6]; decide) hF q7 hX (fun h7 b7 hb7 => bk_Ki ?_)
              refine bg_if_eq rfl (fun e77 => ?_) (fun e77 => ?_)
              · obtain ⟨-, w, hX⟩ := hb7.resolve_left (fun z => absurd (z.1.symm.trans e77) (by decide))
                have hu := hu.trans (tk_f w)
                have hfin : ¬ (lnSpirit Kd rows (t, Pt, od)).1 = true ∧ PE h0 y u v T P S K C Fx (lnSpirit Kd rows (t, Pt, od)).2.1 h7 := by
                  rw [hu]
                  exact ⟨Bool.false_ne_true, hX⟩
                refine bg_iconst rfl ?_
                refine bg_iret rfl rfl (by rfl) ?_
                first
                  | exact hQ _ 0 (Or.inr ⟨rfl, hfin⟩)
                  | (refine hQ h7 1 (Or.inl ⟨rfl, ?_⟩)
                     rw [hu]
                     exact ⟨rfl, it, W, ⟨hL.1, hL.2.1, hL.2.2.1, Nat.le_trans hL.2.2.2.1 (show t ≤ t + 8 from Nat.le_add_right t 8), hL.2.2.2.2⟩, hX⟩)
              · obtain ⟨-, kk7, hX⟩ := hb7.resolve_right (fun z => e77 z.1)
                have hu := hu.trans (tk_t kk7)
                obtain ⟨J, F, K2, C2, hM, j0, j3, j4, ⟨f0, f1, f2, f4⟩, hR, ⟨c5, c13, c6, c14⟩, hO⟩ := id hX
                refine bg_iconst rfl ?_
                refine bg_goto rfl ?_
                refine bg_iret rfl rfl (by rfl) ?_
                first
                  | exact hQ _ 0 (Or.inr ⟨rfl, hfin⟩)
                  | (refine hQ h7 1 (Or.inl ⟨rfl, ?_⟩)
                     rw [hu]
                     exact ⟨rfl, it, W, ⟨hL.1, hL.2.1, hL.2.2.1, Nat.le_trans hL.2.2.2.1 (show t ≤ t + 8 from Nat.le_add_right t 8), hL.2.2.2.2⟩, hX⟩)
end MM
