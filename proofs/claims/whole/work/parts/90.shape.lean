/-! THE REFERENCE: what a line is; which tokens may stand where. Printed by wip/whole/mk90.py. -/
theorem tk_i {K : Nat → Int32} {k : Int32} {s : bP} {b : bP → Bool × bP} (h : (sqS (tkS K k s) b).1 = true) : K s.1 = k ∧ sqS (tkS K k s) b = b (s.1 + 1, s.2) := by
  by_cases e : K s.1 = k
  · exact ⟨e, tk_t e⟩
  · rw [tk_f e] at h
    exact Bool.noConfusion h
theorem sq_le (a : bR3) (b : Nat → bR3) (x : Nat) (h : x ≤ a.2.1) (g : ∀ y, y ≤ (b y).2.1) : x ≤ (sq a b).2.1 := by
  by_cases q : a.1 = true
  · rw [sq_t q]
    exact Nat.le_trans h (g a.2.1)
  · rw [sq_f q]
    exact h
theorem tk1_le {K : Nat → Int32} {k : Int32} {t : Nat} : t ≤ (tk1 K k t).2.1 := by
  unfold tk1
  split
  · exact Nat.le_succ t
  · exact Nat.le_refl t
def vL (rw : bT) (i : Nat) : Int32 := rG rw (nI i) 1
/-- what a line that fits looks like -/
def LSh (Kd : Nat → Int32) (rw : bT) (t : Nat) (Pt : Nat → bT) (s' : bP) : Prop :=
  (Kd t = 1 ∧ Kd (t + 1) = 30 ∧ Kd (t + 2) = 2 ∧ Kd (t + 3) = 31 ∧ Kd (t + 4) = 3 ∧ Kd (t + 5) = 31 ∧ s'.1 = t + 6 ∧ ((Pt 0).length < 5 → s'.2.1 0 = Pt 0 ++ [[vL rw (t + 3), vL rw (t + 5)]]) ∧ (∀ k, ¬ k = 0 → s'.2.1 k = Pt k)) ∨ (Kd t = 4 ∧ Kd (t + 1) = 30 ∧ Kd (t + 2) = 5 ∧ Kd (t + 3) = 31 ∧ Kd (t + 4) = 6 ∧ Kd (t + 5) = 31 ∧ s'.1 = t + 6 ∧ ((Pt 1).length < 6 → s'.2.1 1 = Pt 1 ++ [[vL rw (t + 3), vL rw (t + 5)]]) ∧ (∀ k, ¬ k = 1 → s'.2.1 k = Pt k)) ∨ (Kd t = 7 ∧ Kd (t + 1) = 30 ∧ Kd (t + 2) = 8 ∧ Kd (t + 3) = 31 ∧ Kd (t + 4) = 9 ∧ Kd (t + 5) = 31 ∧ Kd (t + 6) = 10 ∧ Kd (t + 7) = 31 ∧ s'.1 = t + 8 ∧ ((Pt 2).length < 6 → s'.2.1 2 = Pt 2 ++ [[vL rw (t + 3), vL rw (t + 5), vL rw (t + 7)]]) ∧ (∀ k, ¬ k = 2 → s'.2.1 k = Pt k)) ∨ (∃ q : List Int32, Kd t = 11 ∧ Kd (t + 1) = 30 ∧ Kd (t + 2) = 12 ∧ QI Kd (t + 3) s'.1 ∧ t + 3 ≤ s'.1 ∧ ((Pt 3).length < 24 → s'.2.1 3 = Pt 3 ++ [11 :: vL rw (t + 1) :: q]) ∧ (¬ (Pt 3).length < 24 → s'.2.1 3 = Pt 3) ∧ (∀ k, k < 3 → s'.2.1 k = Pt k)) ∨ (∃ (q : List Int32) (a l : Int32), ((a = 13 ∧ l = 14) ∨ (a = 15 ∧ l = 16)) ∧ Kd t = a ∧ Kd (t + 1) = 30 ∧ Kd (t + 2) = l ∧ Kd (t + 3) = 30 ∧ QI Kd (t + 4) s'.1 ∧ t + 4 ≤ s'.1 ∧ ((Pt 3).length < 24 → s'.2.1 3 = Pt 3 ++ [a :: vL rw (t + 1) :: vL rw (t + 3) :: q]) ∧ (¬ (Pt 3).length < 24 → s'.2.1 3 = Pt 3) ∧ (∀ k, k < 3 → s'.2.1 k = Pt k))
section LN
variable {Kd : Nat → Int32} {rw : bT} {Pt : Nat → bT} {t : Nat} {od : Int32}
theorem sh_bark (h : (lnBark Kd rw (t, Pt, od)).1 = true) : Kd t = 1 ∧ Kd (t + 1) = 30 ∧ Kd (t + 2) = 2 ∧ Kd (t + 3) = 31 ∧ Kd (t + 4) = 3 ∧ Kd (t + 5) = 31 ∧ (lnBark Kd rw (t, Pt, od)).2.1 = t + 6 ∧ ((Pt 0).length < 5 → (lnBark Kd rw (t, Pt, od)).2.2.1 0 = Pt 0 ++ [[vL rw (t + 3), vL rw (t + 5)]]) ∧ (∀ k, ¬ k = 0 → (lnBark Kd rw (t, Pt, od)).2.2.1 k = Pt k) := by
  have hu : lnBark Kd rw (t, Pt, od) = lnBark Kd rw (t, Pt, od) := rfl
  conv at hu => rhs; unfold lnBark tnS
  simp only [sqS_sqS, sqS_1] at hu
  rw [hu] at h
  obtain ⟨k0, e0⟩ := tk_i h
  rw [← hu] at h
  replace hu := hu.trans e0
  rw [hu] at h
  obtain ⟨k1, e1⟩ := tk_i h
  rw [← hu] at h
  replace hu := hu.trans e1
  rw [hu] at h
  obtain ⟨k2, e2⟩ := tk_i h
  rw [← hu] at h
  replace hu := hu.trans e2
  rw [hu] at h
  obtain ⟨k3, e3⟩ := tk_i h
  rw [← hu] at h
  replace hu := hu.trans e3
  rw [hu] at h
  obtain ⟨k4, e4⟩ := tk_i h
  rw [← hu] at h
  replace hu := hu.trans e4
  rw [hu] at h
  obtain ⟨k5, e5⟩ := tk_i h
  rw [← hu] at h
  replace hu := hu.trans e5
  rw [hu]
  refine ⟨k0, k1, k2, k3, k4, k5, rfl, fun hr => ?_, fun k hk => ?_⟩
  · show (rS (rS (adT (Pt 0) 2 5) (adI (Pt 0) 5) 0 (vL rw (t + 3))) (adI (Pt 0) 5) 1 (vL rw (t + 5))) = _
    have e1 : adT (Pt 0) 2 5 = Pt 0 ++ [List.replicate 2 0] := if_pos hr
    have e2 : adI (Pt 0) 5 = nI (Pt 0).length := if_pos hr
    rw [e1, e2, rS_last (by omega), rS_last (by omega)]
    rfl
  · show (uT (uT (uT Pt 0 (adT (Pt 0) 2 5)) 0 (rS ((uT Pt 0 (adT (Pt 0) 2 5)) 0) (adI (Pt 0) 5) 0 (vL rw (t + 3)))) 0 (rS ((uT (uT Pt 0 (adT (Pt 0) 2 5)) 0 (rS ((uT Pt 0 (adT (Pt 0) 2 5)) 0) (adI (Pt 0) 5) 0 (vL rw (t + 3)))) 0) (adI (Pt 0) 5) 1 (vL rw (t + 5)))) k = _
    unfold uT
    repeat rw [if_neg hk]
theorem sh_beater (h : (lnBeater Kd rw (t, Pt, od)).1 = true) : Kd t = 4 ∧ Kd (t + 1) = 30 ∧ Kd (t + 2) = 5 ∧ Kd (t + 3) = 31 ∧ Kd (t + 4) = 6 ∧ Kd (t + 5) = 31 ∧ (lnBeater Kd rw (t, Pt, od)).2.1 = t + 6 ∧ ((Pt 1).length < 6 → (lnBeater Kd rw (t, Pt, od)).2.2.1 1 = Pt 1 ++ [[vL rw (t + 3), vL rw (t + 5)]]) ∧ (∀ k, ¬ k = 1 → (lnBeater Kd rw (t, Pt, od)).2.2.1 k = Pt k) := by
  have hu : lnBeater Kd rw (t, Pt, od) = lnBeater Kd rw (t, Pt, od) := rfl
  conv at hu => rhs; unfold lnBeater tnS
  simp only [sqS_sqS, sqS_1] at hu
  rw [hu] at h
  obtain ⟨k0, e0⟩ := tk_i h
  rw [← hu] at h
  replace hu := hu.trans e0
  rw [hu] at h
  obtain ⟨k1, e1⟩ := tk_i h
  rw [← hu] at h
  replace hu := hu.trans e1
  rw [hu] at h
  obtain ⟨k2, e2⟩ := tk_i h
  rw [← hu] at h
  replace hu := hu.trans e2
  rw [hu] at h
  obtain ⟨k3, e3⟩ := tk_i h
  rw [← hu] at h
  replace hu := hu.trans e3
  rw [hu] at h
  obtain ⟨k4, e4⟩ := tk_i h
  rw [← hu] at h
  replace hu := hu.trans e4
  rw [hu] at h
  obtain ⟨k5, e5⟩ := tk_i h
  rw [← hu] at h
  replace hu := hu.trans e5
  rw [hu]
  refine ⟨k0, k1, k2, k3, k4, k5, rfl, fun hr => ?_, fun k hk => ?_⟩
  · show (rS (rS (adT (Pt 1) 2 6) (adI (Pt 1) 6) 0 (vL rw (t + 3))) (adI (Pt 1) 6) 1 (vL rw (t + 5))) = _
    have e1 : adT (Pt 1) 2 6 = Pt 1 ++ [List.replicate 2 0] := if_pos hr
    have e2 : adI (Pt 1) 6 = nI (Pt 1).length := if_pos hr
    rw [e1, e2, rS_last (by omega), rS_last (by omega)]
    rfl
  · show (uT (uT (uT Pt 1 (adT (Pt 1) 2 6)) 1 (rS ((uT Pt 1 (adT (Pt 1) 2 6)) 1) (adI (Pt 1) 6) 0 (vL rw (t + 3)))) 1 (rS ((uT (uT Pt 1 (adT (Pt 1) 2 6)) 1 (rS ((uT Pt 1 (adT (Pt 1) 2 6)) 1) (adI (Pt 1) 6) 0 (vL rw (t + 3)))) 1) (adI (Pt 1) 6) 1 (vL rw (t + 5)))) k = _
    unfold uT
    repeat rw [if_neg hk]
theorem sh_spirit (h : (lnSpirit Kd rw (t, Pt, od)).1 = true) : Kd t = 7 ∧ Kd (t + 1) = 30 ∧ Kd (t + 2) = 8 ∧ Kd (t + 3) = 31 ∧ Kd (t + 4) = 9 ∧ Kd (t + 5) = 31 ∧ Kd (t + 6) = 10 ∧ Kd (t + 7) = 31 ∧ (lnSpirit Kd rw (t, Pt, od)).2.1 = t + 8 ∧ ((Pt 2).length < 6 → (lnSpirit Kd rw (t, Pt, od)).2.2.1 2 = Pt 2 ++ [[vL rw (t + 3), vL rw (t + 5), vL rw (t + 7)]]) ∧ (∀ k, ¬ k = 2 → (lnSpirit Kd rw (t, Pt, od)).2.2.1 k = Pt k) := by
  have hu : lnSpirit Kd rw (t, Pt, od) = lnSpirit Kd rw (t, Pt, od) := rfl
  conv at hu => rhs; unfold lnSpirit tnS
  simp only [sqS_sqS, sqS_1] at hu
  rw [hu] at h
  obtain ⟨k0, e0⟩ := tk_i h
  rw [← hu] at h
  replace hu := hu.trans e0
  rw [hu] at h
  obtain ⟨k1, e1⟩ := tk_i h
  rw [← hu] at h
  replace hu := hu.trans e1
  rw [hu] at h
  obtain ⟨k2, e2⟩ := tk_i h
  rw [← hu] at h
  replace hu := hu.trans e2
  rw [hu] at h
  obtain ⟨k3, e3⟩ := tk_i h
  rw [← hu] at h
  replace hu := hu.trans e3
  rw [hu] at h
  obtain ⟨k4, e4⟩ := tk_i h
  rw [← hu] at h
  replace hu := hu.trans e4
  rw [hu] at h
  obtain ⟨k5, e5⟩ := tk_i h
  rw [← hu] at h
  replace hu := hu.trans e5
  rw [hu] at h
  obtain ⟨k6, e6⟩ := tk_i h
  rw [← hu] at h
  replace hu := hu.trans e6
  rw [hu] at h
  obtain ⟨k7, e7⟩ := tk_i h
  rw [← hu] at h
  replace hu := hu.trans e7
  rw [hu]
  refine ⟨k0, k1, k2, k3, k4, k5, k6, k7, rfl, fun hr => ?_, fun k hk => ?_⟩
  · show (rS (rS (rS (adT (Pt 2) 3 6) (adI (Pt 2) 6) 0 (vL rw (t + 3))) (adI (Pt 2) 6) 1 (vL rw (t + 5))) (adI (Pt 2) 6) 2 (vL rw (t + 7))) = _
    have e1 : adT (Pt 2) 3 6 = Pt 2 ++ [List.replicate 3 0] := if_pos hr
    have e2 : adI (Pt 2) 6 = nI (Pt 2).length := if_pos hr
    rw [e1, e2, rS_last (by omega), rS_last (by omega), rS_last (by omega)]
    rfl
  · show (uT (uT (uT (uT Pt 2 (adT (Pt 2) 3 6)) 2 (rS ((uT Pt 2 (adT (Pt 2) 3 6)) 2) (adI (Pt 2) 6) 0 (vL rw (t + 3)))) 2 (rS ((uT (uT Pt 2 (adT (Pt 2) 3 6)) 2 (rS ((uT Pt 2 (adT (Pt 2) 3 6)) 2) (adI (Pt 2) 6) 0 (vL rw (t + 3)))) 2) (adI (Pt 2) 6) 1 (vL rw (t + 5)))) 2 (rS ((uT (uT (uT Pt 2 (adT (Pt 2) 3 6)) 2 (rS ((uT Pt 2 (adT (Pt 2) 3 6)) 2) (adI (Pt 2) 6) 0 (vL rw (t + 3)))) 2 (rS ((uT (uT Pt 2 (adT (Pt 2) 3 6)) 2 (rS ((uT Pt 2 (adT (Pt 2) 3 6)) 2) (adI (Pt 2) 6) 0 (vL rw (t + 3)))) 2) (adI (Pt 2) 6) 1 (vL rw (t + 5)))) 2) (adI (Pt 2) 6) 2 (vL rw (t + 7)))) k = _
    unfold uT
    repeat rw [if_neg hk]
theorem ppk_le {K : Nat → Int32} : ∀ (n tag d t : Nat), t ≤ (pp K n tag d t).2.1
  | 0, _, _, t => Nat.le_refl t
  | n + 1, 0, d, t => by
    have ih := ppk_le (K := K) n
    have sl : ∀ (a : bR3) (b : Nat → bR3) (x : Nat), x ≤ a.2.1 → (∀ y, y ≤ (b y).2.1) → x ≤ (sq a b).2.1 := sq_le
    unfold pp
    repeat' split
    · exact Nat.le_succ t
    · exact Nat.le_add_right t 2
    · exact Nat.le_succ t
    · exact sl _ _ _ (Nat.le_trans (Nat.le_succ t) (ih _ _ _)) (fun y => Nat.le_refl y)
    · exact Nat.le_refl t
    · exact sl _ _ _ (Nat.le_trans (Nat.le_succ t) (ih _ _ _)) (fun y => tk1_le)
    · exact Nat.le_refl t
    · exact sl _ _ _ (Nat.le_trans (Nat.le_add_right t 2) (ih _ _ _)) (fun y => sl _ _ _ tk1_le (fun y => sl _ _ _ (ih _ _ _) (fun y => sl _ _ _ tk1_le (fun y => Nat.le_refl y))))
    · exact Nat.le_succ t
    · exact Nat.le_refl t
  | n + 1, 1, d, t => sq_le _ _ _ (ppk_le n 0 d t) (fun y => ppk_le n 2 d y)
  | n + 1, 2, d, t => by
    unfold pp
    split
    · exact sq_le _ _ _ (Nat.le_trans (Nat.le_succ t) (ppk_le n 0 d _)) (fun y => sq_le _ _ _ (Nat.le_refl y) (fun y => ppk_le n 2 d y))
    · exact Nat.le_refl t
  | n + 1, 3, d, t => sq_le _ _ _ (ppk_le n 1 d t) (fun y => ppk_le n 4 d y)
  | n + 1, 4, d, t => by
    unfold pp
    split
    · exact sq_le _ _ _ (Nat.le_trans (Nat.le_succ t) (ppk_le n 1 d _)) (fun y => sq_le _ _ _ (Nat.le_refl y) (fun y => ppk_le n 4 d y))
    · exact Nat.le_refl t
  | n + 1, 5, d, t => by
    have ih := ppk_le (K := K) n
    unfold pp
    repeat' split
    · exact sq_le _ _ _ (Nat.le_trans (Nat.le_succ t) (ih _ _ _)) (fun y => Nat.le_refl y)
    · exact Nat.le_refl t
    · exact sq_le _ _ _ (Nat.le_trans (Nat.le_succ t) (ih _ _ _)) (fun y => tk1_le)
    · exact Nat.le_refl t
    · refine sq_le _ _ _ (ih _ _ _) (fun y => ?_)
      show y ≤ (if _ then _ else _ : bR3).2.1
      split
      · exact sq_le _ _ _ (Nat.le_trans (Nat.le_succ y) (ih _ _ _)) (fun y => Nat.le_refl y)
      · exact Nat.le_refl y
  | n + 1, 6, d, t => sq_le _ _ _ (ppk_le n 5 d t) (fun y => ppk_le n 7 d y)
  | n + 1, 7, d, t => by
    unfold pp
    split
    · exact sq_le _ _ _ (Nat.le_trans (Nat.le_succ t) (ppk_le n 5 d _)) (fun y => sq_le _ _ _ (Nat.le_refl y) (fun y => ppk_le n 7 d y))
    · exact Nat.le_refl t
  | n + 1, 8, d, t => sq_le _ _ _ (ppk_le n 6 d t) (fun y => ppk_le n 9 d y)
  | n + 1, 9, d, t => by
    unfold pp
    split
    · exact sq_le _ _ _ (Nat.le_trans (Nat.le_succ t) (ppk_le n 6 d _)) (fun y => sq_le _ _ _ (Nat.le_refl y) (fun y => ppk_le n 9 d y))
    · exact Nat.le_refl t
  | n + 1, _ + 10, d, t => Nat.le_refl t
theorem when_sh {k x z a b : Int32} {cd : bT} (hl : (Pt 3).length < 2 ^ 31) (h : (lnWhen Kd rw (NS Pt t [k, x, z, a, b, 0, 0] cd)).1 = true) : t ≤ (lnWhen Kd rw (NS Pt t [k, x, z, a, b, 0, 0] cd)).2.1 ∧ QI Kd t (lnWhen Kd rw (NS Pt t [k, x, z, a, b, 0, 0] cd)).2.1 ∧ ∃ c e cd', (lnWhen Kd rw (NS Pt t [k, x, z, a, b, 0, 0] cd)).2 = NS Pt (lnWhen Kd rw (NS Pt t [k, x, z, a, b, 0, 0] cd)).2.1 [k, x, z, a, b, c, e] cd' := by
  by_cases hw : Kd t = 17
  · rw [when_2 hl hw] at h ⊢
    have hq := pp_q 3300 8 0 (t + 1) h (fun _ => ⟨t, rfl, by rw [hw]; decide⟩)
    have hk := ppk_le (K := Kd) 3300 8 0 (t + 1)
    exact ⟨by show t ≤ (pp Kd 3300 8 0 (t + 1)).2.1; omega, (QI.one (quT_k (by rw [hw]; decide))).app hq, _, _, _, rfl⟩
  · rw [when_1 hl hw]
    exact ⟨Nat.le_refl t, QI.nil, _, _, _, rfl⟩
theorem NS_o {t2 : Nat} {r : List Int32} {cd : bT} : ((Pt 3).length < 24 → (NS Pt t2 r cd).2.1 3 = Pt 3 ++ [r]) ∧ (¬ (Pt 3).length < 24 → (NS Pt t2 r cd).2.1 3 = Pt 3) ∧ (∀ k, k < 3 → (NS Pt t2 r cd).2.1 k = Pt k) := by
  refine ⟨fun h => if_pos h, fun h => if_neg h, fun k hk => ?_⟩
  show uT (uT Pt 4 cd) 3 _ k = _
  rw [uT_n (by omega), uT_n (by omega)]
theorem shape (hl : (Pt 3).length < 2 ^ 31) (h : (lnAll Kd rw (t, Pt, od)).1 = true) : LSh Kd rw t Pt (lnAll Kd rw (t, Pt, od)).2 := by
  by_cases k1 : Kd t = 1
  · have e : lnAll Kd rw (t, Pt, od) = lnBark Kd rw (t, Pt, od) := if_pos k1
    rw [e] at h ⊢
    exact Or.inl (sh_bark h)
  by_cases k4 : Kd t = 4
  · have e : lnAll Kd rw (t, Pt, od) = lnBeater Kd rw (t, Pt, od) := (if_neg k1).trans (if_pos k4)
    rw [e] at h ⊢
    exact Or.inr (Or.inl (sh_beater h))
  by_cases k7 : Kd t = 7
  · have e : lnAll Kd rw (t, Pt, od) = lnSpirit Kd rw (t, Pt, od) := (if_neg k1).trans ((if_neg k4).trans (if_pos k7))
    rw [e] at h ⊢
    exact Or.inr (Or.inr (Or.inl (sh_spirit h)))
  by_cases k11 : Kd t = 11
  · refine Or.inr (Or.inr (Or.inr (Or.inl ?_)))
    have c1 : Kd (t + 1) = 30 := Decidable.byContradiction fun q => by
      rw [(soak_1 (rows := rw) hl k11 q).1] at h
      exact Bool.noConfusion h
    have c2 : Kd (t + 2) = 12 := Decidable.byContradiction fun q => by
      rw [(soak_2 (rows := rw) hl k11 c1 q).1] at h
      exact Bool.noConfusion h
    have e := soak_y (rows := rw) (od := od) hl k11 c1 c2
    by_cases r1 : (pp Kd 3300 3 0 (t + 3)).1 = true
    · rw [sqS_t (a := (_, _)) r1] at e
      rw [e] at h ⊢
      obtain ⟨w1, w2, c, e2, cd', w3⟩ := when_sh hl h
      have q1 := pp_q 3300 3 0 (t + 3) r1 (fun _ => ⟨t + 2, rfl, by rw [c2]; decide⟩)
      have q2 := ppk_le (K := Kd) 3300 3 0 (t + 3)
      have w4 := NS_o (Pt := Pt) (t2 := (lnWhen Kd rw (NS Pt (pp Kd 3300 3 0 (t + 3)).2.1 [11, rG rw (nI (t + 1)) 1, 0, nI (Pt 4).length, nI (Pt 4 ++ (pp Kd 3300 3 0 (t + 3)).2.2.map (rwF rw)).length, 0, 0] (Pt 4 ++ (pp Kd 3300 3 0 (t + 3)).2.2.map (rwF rw)))).2.1) (r := [11, rG rw (nI (t + 1)) 1, 0, nI (Pt 4).length, nI (Pt 4 ++ (pp Kd 3300 3 0 (t + 3)).2.2.map (rwF rw)).length, c, e2]) (cd := cd')
      rw [← w3] at w4
      exact ⟨_, k11, c1, c2, q1.app w2, Nat.le_trans q2 w1, w4.1, w4.2.1, w4.2.2⟩
    · rw [sqS_f (a := (_, _)) r1] at e
      rw [e] at h
      exact absurd h r1
  by_cases k13 : Kd t = 13
  · refine Or.inr (Or.inr (Or.inr (Or.inr ?_)))
    have ha := all_13 (rows := rw) (Pt := Pt) (od := od) k13
    have c1 : Kd (t + 1) = 30 := Decidable.byContradiction fun q => by
      rw [(pair_1 ha hl k13 q).1] at h
      exact Bool.noConfusion h
    have c2 : Kd (t + 2) = 14 := Decidable.byContradiction fun q => by
      rw [(pair_2 ha hl k13 c1 q).1] at h
      exact Bool.noConfusion h
    have c3 : Kd (t + 3) = 30 := Decidable.byContradiction fun q => by
      rw [(pair_3 ha hl k13 c1 c2 q).1] at h
      exact Bool.noConfusion h
    have e := pair_4 ha hl k13 c1 c2 c3
    rw [e] at h ⊢
    obtain ⟨w1, w2, c, e2, cd', w3⟩ := when_sh hl h
    have w4 := NS_o (Pt := Pt) (t2 := (lnWhen Kd rw (NS Pt (t + 4) [13, rG rw (nI (t + 1)) 1, rG rw (nI (t + 3)) 1, 0, 0, 0, 0] (Pt 4))).2.1) (r := [13, rG rw (nI (t + 1)) 1, rG rw (nI (t + 3)) 1, 0, 0, c, e2]) (cd := cd')
    rw [← w3] at w4
    exact ⟨_, 13, 14, Or.inl ⟨rfl, rfl⟩, k13, c1, c2, c3, w2, w1, w4.1, w4.2.1, w4.2.2⟩
  by_cases k15 : Kd t = 15
  · refine Or.inr (Or.inr (Or.inr (Or.inr ?_)))
    have ha := all_15 (rows := rw) (Pt := Pt) (od := od) k15
    have c1 : Kd (t + 1) = 30 := Decidable.byContradiction fun q => by
      rw [(pair_1 ha hl k15 q).1] at h
      exact Bool.noConfusion h
    have c2 : Kd (t + 2) = 16 := Decidable.byContradiction fun q => by
      rw [(pair_2 ha hl k15 c1 q).1] at h
      exact Bool.noConfusion h
    have c3 : Kd (t + 3) = 30 := Decidable.byContradiction fun q => by
      rw [(pair_3 ha hl k15 c1 c2 q).1] at h
      exact Bool.noConfusion h
    have e := pair_4 ha hl k15 c1 c2 c3
    rw [e] at h ⊢
    obtain ⟨w1, w2, c, e2, cd', w3⟩ := when_sh hl h
    have w4 := NS_o (Pt := Pt) (t2 := (lnWhen Kd rw (NS Pt (t + 4) [15, rG rw (nI (t + 1)) 1, rG rw (nI (t + 3)) 1, 0, 0, 0, 0] (Pt 4))).2.1) (r := [15, rG rw (nI (t + 1)) 1, rG rw (nI (t + 3)) 1, 0, 0, c, e2]) (cd := cd')
    rw [← w3] at w4
    exact ⟨_, 15, 16, Or.inr ⟨rfl, rfl⟩, k15, c1, c2, c3, w2, w1, w4.1, w4.2.1, w4.2.2⟩
  have e : lnAll Kd rw (t, Pt, od) = (false, (t, Pt, od)) := (if_neg k1).trans ((if_neg k4).trans ((if_neg k7).trans ((if_neg k11).trans ((if_neg k13).trans (if_neg k15)))))
  rw [e] at h
  exact Bool.noConfusion h
end LN
theorem okt_q {Kd : Nat → Int32} {i : Nat} (h : quT Kd i) : OKT Kd i := by
  unfold OKT
  rcases h with e | e | e <;> rw [e] <;> exact ⟨fun z => absurd z (by decide), fun z => absurd z (by decide), fun z => absurd z (by decide), fun z => absurd z (by decide)⟩
theorem okt_r {Kd : Nat → Int32} {i : Nat} {r : Int32} (h : rof Kd i = r) (hr : ¬ r = 7 ∧ ¬ r = 8 ∧ ¬ r = 9 ∧ ¬ r = 10 ∧ ¬ r = 11 ∧ ¬ r = 12 ∧ ¬ r = 13 ∧ ¬ r = 14 ∧ ¬ r = 15 ∧ ¬ r = 16 ∧ ¬ r = 17 ∧ ¬ r = 18) : OKT Kd i := by
  obtain ⟨a, b, c, d, e, f, g, p, q, x, z, w⟩ := hr
  unfold OKT
  rw [h]
  exact ⟨fun y => y.elim (fun y => absurd y a) (fun y => absurd y b), fun y => y.elim (fun y => absurd y c) (fun y => absurd y d), fun y => y.elim (fun y => absurd y e) (fun y => y.elim (fun y => absurd y f) (fun y => absurd y g)), fun y => y.elim (fun y => absurd y p) (fun y => y.elim (fun y => absurd y q) (fun y => y.elim (fun y => absurd y x) (fun y => y.elim (fun y => absurd y z) (fun y => absurd y w))))⟩
theorem rof_k {Kd : Nat → Int32} {i : Nat} {a b r : Int32} (h0 : Kd i = a) (h1 : Kd (i + 1) = b) (h : roF a b = r) : rof Kd (i + 1) = r := by
  rw [rof_s, h0, h1, h]
theorem okt_line {Kd : Nat → Int32} {rw : bT} {t : Nat} {Pt : Nat → bT} {s' : bP} (h : LSh Kd rw t Pt s') : ∀ i, t ≤ i → i < s'.1 → OKT Kd i := by
  intro i h1 h2
  rcases h with ⟨k0, k1, k2, k3, k4, k5, e, _, _⟩ | ⟨k0, k1, k2, k3, k4, k5, e, _, _⟩ | ⟨k0, k1, k2, k3, k4, k5, k6, k7, e, _, _⟩ | ⟨q, k0, k1, k2, hq, hl, _, _, _⟩ | ⟨q, a, l, hal, k0, k1, k2, k3, hq, hl, _, _, _⟩
  · rw [e] at h2
    have r1 : rof Kd (t + 1) = 1 := rof_k k0 k1 (by decide)
    have : i = t ∨ i = t + 1 ∨ i = t + 2 ∨ i = t + 3 ∨ i = t + 4 ∨ i = t + 5 := by omega
    rcases this with rfl | rfl | rfl | rfl | rfl | rfl
    · exact okt_q (quT_k (by rw [k0]; decide))
    · exact okt_r r1 (by decide)
    · exact okt_q (quT_k (by rw [k2]; decide))
    · unfold OKT
      rw [rof_k (r := 7) k2 k3 (by decide)]
      exact ⟨fun _ => ⟨t + 1, by omega, r1⟩, fun z => absurd z (by decide), fun z => absurd z (by decide), fun z => absurd z (by decide)⟩
    · exact okt_q (quT_k (by rw [k4]; decide))
    · unfold OKT
      rw [rof_k (r := 8) k4 k5 (by decide)]
      exact ⟨fun _ => ⟨t + 1, by omega, r1⟩, fun z => absurd z (by decide), fun z => absurd z (by decide), fun z => absurd z (by decide)⟩
  · rw [e] at h2
    have r1 : rof Kd (t + 1) = 2 := rof_k k0 k1 (by decide)
    have : i = t ∨ i = t + 1 ∨ i = t + 2 ∨ i = t + 3 ∨ i = t + 4 ∨ i = t + 5 := by omega
    rcases this with rfl | rfl | rfl | rfl | rfl | rfl
    · exact okt_q (quT_k (by rw [k0]; decide))
    · exact okt_r r1 (by decide)
    · exact okt_q (quT_k (by rw [k2]; decide))
    · unfold OKT
      rw [rof_k (r := 9) k2 k3 (by decide)]
      exact ⟨fun z => absurd z (by decide), fun _ => ⟨t + 1, by omega, r1⟩, fun z => absurd z (by decide), fun z => absurd z (by decide)⟩
    · exact okt_q (quT_k (by rw [k4]; decide))
    · unfold OKT
      rw [rof_k (r := 10) k4 k5 (by decide)]
      exact ⟨fun z => absurd z (by decide), fun _ => ⟨t + 1, by omega, r1⟩, fun z => absurd z (by decide), fun z => absurd z (by decide)⟩
  · rw [e] at h2
    have r1 : rof Kd (t + 1) = 3 := rof_k k0 k1 (by decide)
    have : i = t ∨ i = t + 1 ∨ i = t + 2 ∨ i = t + 3 ∨ i = t + 4 ∨ i = t + 5 ∨ i = t + 6 ∨ i = t + 7 := by omega
    rcases this with rfl | rfl | rfl | rfl | rfl | rfl | rfl | rfl
    · exact okt_q (quT_k (by rw [k0]; decide))
    · exact okt_r r1 (by decide)
    · exact okt_q (quT_k (by rw [k2]; decide))
    · unfold OKT
      rw [rof_k (r := 11) k2 k3 (by decide)]
      exact ⟨fun z => absurd z (by decide), fun z => absurd z (by decide), fun _ => ⟨t + 1, by omega, r1⟩, fun z => absurd z (by decide)⟩
    · exact okt_q (quT_k (by rw [k4]; decide))
    · unfold OKT
      rw [rof_k (r := 12) k4 k5 (by decide)]
      exact ⟨fun z => absurd z (by decide), fun z => absurd z (by decide), fun _ => ⟨t + 1, by omega, r1⟩, fun z => absurd z (by decide)⟩
    · exact okt_q (quT_k (by rw [k6]; decide))
    · unfold OKT
      rw [rof_k (r := 13) k6 k7 (by decide)]
      exact ⟨fun z => absurd z (by decide), fun z => absurd z (by decide), fun _ => ⟨t + 1, by omega, r1⟩, fun z => absurd z (by decide)⟩
  · by_cases c0 : i = t
    · rw [c0]
      exact okt_r (r := 4) (by unfold rof roF; rw [k0]; rfl) (by decide)
    by_cases c1 : i = t + 1
    · rw [c1]
      unfold OKT
      rw [rof_k (r := 14) k0 k1 (by decide)]
      exact ⟨fun z => absurd z (by decide), fun z => absurd z (by decide), fun z => absurd z (by decide), fun _ => ⟨t, by omega, Or.inl k0⟩⟩
    by_cases c2 : i = t + 2
    · rw [c2]
      exact okt_q (quT_k (by rw [k2]; decide))
    exact okt_q (hq i (by omega) h2)
  · have hord : Kd t = 11 ∨ Kd t = 13 ∨ Kd t = 15 := by rw [k0]; rcases hal with ⟨x, _⟩ | ⟨x, _⟩ <;> rw [x] <;> decide
    by_cases c0 : i = t
    · rw [c0]
      rcases hal with ⟨x, z⟩ | ⟨x, z⟩
      · exact okt_r (r := 5) (by unfold rof roF; rw [k0, x]; rfl) (by decide)
      · exact okt_r (r := 6) (by unfold rof roF; rw [k0, x]; rfl) (by decide)
    by_cases c1 : i = t + 1
    · rw [c1]
      unfold OKT
      rcases hal with ⟨x, z⟩ | ⟨x, z⟩
      · rw [rof_k (r := 15) k0 k1 (by rw [x]; decide)]
        exact ⟨fun z => absurd z (by decide), fun z => absurd z (by decide), fun z => absurd z (by decide), fun _ => ⟨t, by omega, hord⟩⟩
      · rw [rof_k (r := 17) k0 k1 (by rw [x]; decide)]
        exact ⟨fun z => absurd z (by decide), fun z => absurd z (by decide), fun z => absurd z (by decide), fun _ => ⟨t, by omega, hord⟩⟩
    by_cases c2 : i = t + 2
    · rw [c2]
      exact okt_q (quT_k (by rw [k2]; rcases hal with ⟨_, x⟩ | ⟨_, x⟩ <;> rw [x] <;> decide))
    by_cases c3 : i = t + 3
    · rw [c3]
      unfold OKT
      rcases hal with ⟨_, x⟩ | ⟨_, x⟩
      · rw [rof_k (r := 16) k2 k3 (by rw [x]; decide)]
        exact ⟨fun z => absurd z (by decide), fun z => absurd z (by decide), fun z => absurd z (by decide), fun _ => ⟨t, by omega, hord⟩⟩
      · rw [rof_k (r := 18) k2 k3 (by rw [x]; decide)]
        exact ⟨fun z => absurd z (by decide), fun z => absurd z (by decide), fun z => absurd z (by decide), fun _ => ⟨t, by omega, hord⟩⟩
    exact okt_q (hq i (by omega) h2)
