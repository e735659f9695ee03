/-! BarkMakers: teach. Printed by wip/whole/mk39.py. -/
def kkF (tk : tK) (i : Nat) : Int32 := ((tk[i]?).map fun t => t.1).getD 47
theorem tkL_len {T : List Int32} : ∀ (k i p : Nat), (tkL T k i p).length ≤ k
  | 0, _, _ => Nat.le_refl 0
  | k + 1, i, p => by
    show (List.length (_ :: (if _ then [] else _))) ≤ k + 1
    rw [List.length_cons]
    split
    · exact Nat.succ_le_succ (Nat.zero_le k)
    · exact Nat.succ_le_succ (tkL_len k (i + 1) _)
theorem tkK_400 {T : List Int32} {p : Nat} : tkK T 400 p = 47 ∨ tkK T 400 p = 0 := by
  unfold tkK
  by_cases h : bA T p < 0
  · rw [if_pos h]
    exact Or.inl rfl
  · rw [if_neg h, if_pos (Nat.le_refl 400)]
    exact Or.inr rfl
theorem tkL_end {T : List Int32} : ∀ (k i p : Nat), i + k = 400 → ∃ t, (tkL T (k + 1) i p)[(tkL T (k + 1) i p).length - 1]? = some t ∧ (t.1 = 47 ∨ t.1 = 0) ∧ 0 < (tkL T (k + 1) i p).length
  | 0, i, p, hi => by
    have e : tkL T 1 i p = [(tkK T i (skP T p), skP T p, tkE T i (skP T p))] := by
      show (_ :: (if _ then [] else _)) = _
      split <;> rfl
    rw [e]
    have h4 : i = 400 := by omega
    subst h4
    exact ⟨_, rfl, tkK_400, Nat.succ_pos _⟩
  | k + 1, i, p, hi => by
    have e : tkL T (k + 2) i p = (tkK T i (skP T p), skP T p, tkE T i (skP T p)) :: (if tkK T i (skP T p) = 47 ∨ tkK T i (skP T p) = 0 then [] else tkL T (k + 1) (i + 1) (tkE T i (skP T p))) := rfl
    rw [e]
    by_cases h : tkK T i (skP T p) = 47 ∨ tkK T i (skP T p) = 0
    · rw [if_pos h]
      exact ⟨_, rfl, h, Nat.succ_pos _⟩
    · rw [if_neg h]
      obtain ⟨t, t1, t2, t3⟩ := tkL_end k (i + 1) (tkE T i (skP T p)) (by omega)
      refine ⟨t, ?_, t2, Nat.succ_pos _⟩
      rw [List.length_cons, Nat.add_sub_cancel]
      cases hL : (tkL T (k + 1) (i + 1) (tkE T i (skP T p))).length with
      | zero => exact absurd t3 (by rw [hL]; decide)
      | succ m =>
        rw [hL, Nat.add_sub_cancel] at t1
        rw [List.getElem?_cons_succ]
        exact t1
theorem toks_E {T : List Int32} : (kkF (toks T) ((toks T).length - 1) = 47 ∨ kkF (toks T) ((toks T).length - 1) = 0) ∧ 0 < (toks T).length ∧ (toks T).length ≤ 401 := by
  obtain ⟨t, t1, t2, t3⟩ := tkL_end (T := T) 400 0 0 rfl
  refine ⟨?_, t3, tkL_len 401 0 0⟩
  unfold kkF
  rw [show (toks T)[(toks T).length - 1]? = some t from t1]
  exact t2
theorem SCN_f {T : List Int32} {rows : bT} {f : Nat → Int32} {g : Nat → Int64} (h : SCN T (toks T) rows f g) (i : Nat) (hi : i < (toks T).length) : f i = kkF (toks T) i := by
  have e : (toks T)[i]? = some (toks T)[i] := List.getElem?_eq_getElem hi
  unfold kkF
  rw [e]
  exact (h i _ e).1
theorem ckL_len {f : Nat → Int32} {g : Nat → Int64} : ∀ (c i : Nat) (q : Int32 × Int32 × bC), (ckL f g c i q).2.2.2.2.length = q.2.2.2.2.length
  | 0, _, _ => rfl
  | c + 1, i, q => by
    show (if _ then _ else _ : Int32 × Int32 × bC).2.2.2.2.length = _
    split
    · exact (ckL_len c (i + 1) _).trans ck1_len
    · rfl
section CMm
variable {V : bk_V} {d n : Nat} {B : Nat × Nat} {Q : bk_R → bk_H → Nat → Prop} {h : bk_H} {x : Nat} {T : List Int32} {P : Nat → bT} {S : bS} {ep : Int32} {cs : Nat × Nat}
theorem bh_error {a tk tp p : Nat} {f : Nat → Int32} {g : Nat → Int64} {s : bC} {er et : Int32} (hH : HO h a tk tp T p f g s er et) (hQ : Q (.inl (some (.int er))) h n) : bk_wp V (d + 1) 1 [.ref a] h n B Q := by
  have o0 := hH.2.1
  refine bg_in rfl rfl ?_
  refine bg_aload0 rfl ?_
  refine bg_getfield rfl rfl o0 (by rfl) ?_
  refine bg_iret rfl rfl (by rfl) ?_
  assumption
theorem bh_errTok {a tk tp p : Nat} {f : Nat → Int32} {g : Nat → Int64} {s : bC} {er et : Int32} (hH : HO h a tk tp T p f g s er et) (hQ : Q (.inl (some (.int et))) h n) : bk_wp V (d + 1) 2 [.ref a] h n B Q := by
  have o0 := hH.2.1
  refine bg_in rfl rfl ?_
  refine bg_aload0 rfl ?_
  refine bg_getfield rfl rfl o0 (by rfl) ?_
  refine bg_iret rfl rfl (by rfl) ?_
  assumption
theorem bp_token {dr tk tp p : Nat} {rows : bT} {f : Nat → Int32} {g : Nat → Int64} {s : bP} (hX : XS h dr tk tp T p rows f g s) (hQ : Q (.inl (some (.int (nI s.1)))) h n) : bk_wp V (d + 1) 42 [.ref (dr + 11)] h n B Q := by
  have p0 := hX.2.2.1
  refine bg_in rfl rfl ?_
  refine bg_aload0 rfl ?_
  refine bg_getfield rfl rfl p0 (by rfl) ?_
  refine bg_iret rfl rfl (by rfl) ?_
  assumption
theorem bb_teach (hC : CM h x T P S ep) (hQ : ∀ (rows : bT) (f : Nat → Int32) (g : Nat → Int64) (et0 od0 : Int32), SCN T (toks T) rows f g → rows.length = (toks T).length →
      ((lsL (kkF (toks T)) (ckF f g et0 rows).2.2.2.2 401 (0, (fun _ => []), od0)).1 = true → (ckF f g et0 rows).1 = 0 → ∀ h', CM h' x [] (lsL (kkF (toks T)) (ckF f g et0 rows).2.2.2.2 401 (0, (fun _ => []), od0)).2.2.1 (beginF (lsL (kkF (toks T)) (ckF f g et0 rows).2.2.2.2 401 (0, (fun _ => []), od0)).2.2.1 S) (-1) → fr h h' x (x + 70) → Q (.inl (some (.int 0))) h' n) ∧
      ((lsL (kkF (toks T)) (ckF f g et0 rows).2.2.2.2 401 (0, (fun _ => []), od0)).1 = true → ¬ (ckF f g et0 rows).1 = 0 → ∀ h', CM h' x [] P S (rG (ckF f g et0 rows).2.2.2.2 (ckF f g et0 rows).2.1 0) → fr h h' x (x + 70) → Q (.inl (some (.int (ckF f g et0 rows).1))) h' n) ∧
      (¬ (lsL (kkF (toks T)) (ckF f g et0 rows).2.2.2.2 401 (0, (fun _ => []), od0)).1 = true → ∀ h', CM h' x [] P S (rG (ckF f g et0 rows).2.2.2.2 (nI (lsL (kkF (toks T)) (ckF f g et0 rows).2.2.2.2 401 (0, (fun _ => []), od0)).2.1) 0) → fr h h' x (x + 70) → Q (.inl (some (.int 1))) h' n)) : bk_wp V (d + 61) 97 [.ref x] h n B Q := by
  obtain ⟨p, f, g, s, er, et, sP, S2, b1, b2, hC0⟩ := id hC
  obtain ⟨⟨⟨tA, k0, k1, k2, k3, k4, ktp⟩, o0, n0, n1, n2, otk⟩, ⟨⟨d0, d1, d2, d3, d4, d5⟩, pr0⟩, ⟨l0, l1, l2, l3, l4, l5⟩, ⟨m0, m1, m2, m3, m4, m5⟩, ⟨u0, u1, u2, u3, u4, u5⟩, ⟨c0, cb, cf⟩, ⟨t0, tb, tf⟩, hx⟩ := id hC0
  refine bg_in rfl rfl ?_
  refine bg_aload0 rfl ?_
  refine bg_getfield rfl rfl hx (by rfl) ?_
  refine bg_virt0 rfl rfl rfl rfl ⟨_, k0⟩ ?_
  refine bk_scan hC0.1.1 (fun hA pA rows f g kA sA lA gA => bk_Kv ?_)
  have hHA : HO hA (x + 10) (x + 3) (x + 1) T pA f g (s.1, s.2.1, rows) er et := by
    obtain ⟨-, o0, n0, n1, n2, otk⟩ := hC0.1
    exact ⟨kA, (gA _ (by omega)).trans o0, n0.kp gA (by omega), n1.kp gA (by omega), n2.kp gA (by omega), otk⟩
  have hCA := hC0.ho hHA (gA.wide (by omega) (by omega))
  have gx : fr h hA x (x + 70) := gA.wide (by omega) (by omega)
  obtain ⟨kE, k0N, kN⟩ := toks_E (T := T)
  have hx := hCA.2.2.2.2.2.2.2
  have o0 := hHA.2.1
  refine bg_aload0 rfl ?_
  refine bg_getfield rfl rfl hx (by rfl) ?_
  refine bg_virt0 rfl rfl rfl rfl ⟨_, o0⟩ ?_
  refine bh_check hHA (by show rows.length ≤ 401; omega) (fun hB kB gB => bk_Kv ?_)
  have hCB := hCA.ho kB gB
  have gx := gx.trans (gB.wide (by omega) (by omega))
  have hx := hCB.2.2.2.2.2.2.2
  have pr0 := hCB.2.1.2
  change CMx hB x T P S ep _ f g (ckF f g et rows).2.2 (ckF f g et rows).1 (ckF f g et rows).2.1 sP S2 b1 b2 at hCB
  refine bg_aload0 rfl ?_
  refine bg_getfield rfl rfl hx (by rfl) ?_
  refine bg_virt0 rfl rfl rfl rfl ⟨_, pr0⟩ ?_
  refine bs_list (K := kkF (toks T)) (N := (toks T).length) (fun i hi => SCN_f sA i hi) kN kE k0N hCB.XS (fun hD kD gD => bk_Ki ?_)
  have hCD := hCB.xs kD gD
  have gx := gx.trans (gD.wide (by omega) (by omega))
  have hx := hCD.2.2.2.2.2.2.2
  have o0 := hCD.1.2.1
  have pr0 := hCD.2.1.2
  have k0 := hCD.1.1.2.1
  have hQ3 := hQ rows f g et sP.2.2 sA lA
  refine bg_istore1 rfl rfl ?_
  refine bg_iload1 rfl ?_
  refine bg_ifeq_b rfl (fun e23 => ?_) (fun e23 => ?_)
  · refine bg_iconst rfl ?_
    refine bg_istore2 rfl rfl ?_
    refine bg_aload0 rfl ?_
    refine bg_iconst rfl ?_
    refine bg_putfield rfl rfl hx (by rfl) ⟨rfl, rfl⟩ (by rfl) (fun h40 f40 g40 => ?_)
    have hCE := hCD.eP f40 g40
    have gx := gx.trans ((fr.one g40).wide (by omega) (by omega))
    obtain ⟨-, ⟨⟨d0, d1, d2, d3, d4, d5⟩, pr0⟩, ⟨l0, l1, l2, l3, l4, l5⟩, ⟨m0, m1, m2, m3, m4, m5⟩, ⟨u0, u1, u2, u3, u4, u5⟩, ⟨c0, cb, cf⟩, ⟨t0, tb, tf⟩, hx⟩ := id hCE
    have o0 := hCE.1.2.1
    have k0 := hCE.1.1.2.1
    have pr0 := hCE.2.1.2
    have tA := hCE.1.1.1
    refine bg_iload2 rfl ?_
    refine bg_if_eq rfl (fun e44 => absurd e44 (by decide)) (fun e44 => ?_)
    refine bg_aload0 rfl ?_
    refine bg_aload0 rfl ?_
    refine bg_getfield rfl rfl hx (by rfl) ?_
    refine bg_iload1 rfl ?_
    refine bg_ifeq_b rfl (fun e53 => ?_) (fun e53 => absurd e53 e23)
    refine bg_aload0 rfl ?_
    refine bg_getfield rfl rfl hx (by rfl) ?_
    refine bg_virt0 rfl rfl rfl rfl ⟨_, pr0⟩ ?_
    refine bp_token hCE.XS (bk_Ki ?_)
    refine bg_virt1 rfl rfl rfl rfl ⟨_, k0⟩ ?_
    refine bk_start hCE.1.1 (bk_Ki ?_)
    refine bg_putfield rfl rfl hx (by rfl) ⟨rfl, rfl⟩ (by rfl) (fun h76 f76 g76 => ?_)
    have hCF := hCE.eP f76 g76
    have gx := gx.trans ((fr.one g76).wide (by omega) (by omega))
    have hx := hCF.2.2.2.2.2.2.2
    have tA := hCF.1.1.1
    refine bg_goto rfl ?_
    refine bg_aload0 rfl ?_
    refine bg_getfield rfl rfl hx (by rfl) ?_
    refine bg_iconst rfl ?_
    refine bg_virt1 rfl rfl rfl rfl ⟨_, tA.1⟩ ?_
    refine ba_shorten (m := 0) (Nat.zero_le _) hCF.1.1.1 (fun hZ kZ gZ => bk_Kv ?_)
    rw [List.take_zero] at kZ
    have hCZ := hCF.ta kZ gZ
    have gx := gx.trans (gZ.wide (by omega) (by omega))
    refine bg_iload2 rfl ?_
    refine bg_iret rfl rfl (by rfl) ?_
    exact hQ3.2.2 e23 _ ⟨_, _, _, _, _, _, _, _, _, _, hCZ⟩ gx
  · refine bg_aload0 rfl ?_
    refine bg_getfield rfl rfl hx (by rfl) ?_
    refine bg_virt0 rfl rfl rfl rfl ⟨_, o0⟩ ?_
    refine bh_error hCD.1 (bk_Ki ?_)
    refine bg_goto rfl ?_
    refine bg_istore2 rfl rfl ?_
    refine bg_aload0 rfl ?_
    refine bg_iconst rfl ?_
    refine bg_putfield rfl rfl hx (by rfl) ⟨rfl, rfl⟩ (by rfl) (fun h40 f40 g40 => ?_)
    have hCE := hCD.eP f40 g40
    have gx := gx.trans ((fr.one g40).wide (by omega) (by omega))
    obtain ⟨-, ⟨⟨d0, d1, d2, d3, d4, d5⟩, pr0⟩, ⟨l0, l1, l2, l3, l4, l5⟩, ⟨m0, m1, m2, m3, m4, m5⟩, ⟨u0, u1, u2, u3, u4, u5⟩, ⟨c0, cb, cf⟩, ⟨t0, tb, tf⟩, hx⟩ := id hCE
    have o0 := hCE.1.2.1
    have k0 := hCE.1.1.2.1
    have pr0 := hCE.2.1.2
    have tA := hCE.1.1.1
    refine bg_iload2 rfl ?_
    refine bg_if_eq rfl (fun e44 => ?_) (fun e44 => ?_)
    · refine bg_aload0 rfl ?_
      refine bg_getfield rfl rfl hx (by rfl) ?_
      refine bg_aload0 rfl ?_
      refine bg_getfield rfl rfl hx (by rfl) ?_
      refine bg_virt1 rfl rfl rfl rfl ⟨_, l0⟩ ?_
      refine bm_lcopy hCE.2.2.1 hCE.2.1.1 (by omega) (fun hF kF gF => bk_Kv ?_)
      have hCF := hCE.lo kF gF
      have gx := gx.trans (gF.wide (by omega) (by omega))
      obtain ⟨-, ⟨⟨d0, d1, d2, d3, d4, d5⟩, pr0⟩, ⟨l0, l1, l2, l3, l4, l5⟩, ⟨m0, m1, m2, m3, m4, m5⟩, ⟨u0, u1, u2, u3, u4, u5⟩, ⟨c0, cb, cf⟩, ⟨t0, tb, tf⟩, hx⟩ := id hCF
      refine bg_aload0 rfl ?_
      refine bg_getfield rfl rfl hx (by rfl) ?_
      refine bg_aload0 rfl ?_
      refine bg_getfield rfl rfl hx (by rfl) ?_
      refine bg_virt1 rfl rfl rfl rfl ⟨_, m0⟩ ?_
      refine bm_begin hCF.2.2.2.1 hCF.2.2.1 (by omega) (fun hG kG kL gG => bk_Kv ?_)
      have hCF := hCF.mo kG gG
      have gx := gx.trans (gG.wide (by omega) (by omega))
      have hx := hCF.2.2.2.2.2.2.2
      have tA := hCF.1.1.1
      refine bg_aload0 rfl ?_
      refine bg_getfield rfl rfl hx (by rfl) ?_
      refine bg_iconst rfl ?_
      refine bg_virt1 rfl rfl rfl rfl ⟨_, tA.1⟩ ?_
      refine ba_shorten (m := 0) (Nat.zero_le _) hCF.1.1.1 (fun hZ kZ gZ => bk_Kv ?_)
      rw [List.take_zero] at kZ
      have hCZ := hCF.ta kZ gZ
      have gx := gx.trans (gZ.wide (by omega) (by omega))
      refine bg_iload2 rfl ?_
      refine bg_iret rfl rfl (by rfl) ?_
      first
        | (rw [e44]; exact hQ3.1 e23 e44 _ ⟨_, _, _, _, _, _, _, _, _, _, hCZ⟩ gx)
        | exact hQ3.2.1 e23 e44 _ ⟨_, _, _, _, _, _, _, _, _, _, hCZ⟩ gx
    · refine bg_aload0 rfl ?_
      refine bg_aload0 rfl ?_
      refine bg_getfield rfl rfl hx (by rfl) ?_
      refine bg_iload1 rfl ?_
      refine bg_ifeq_b rfl (fun e53 => absurd e23 e53) (fun e53 => ?_)
      refine bg_aload0 rfl ?_
      refine bg_getfield rfl rfl hx (by rfl) ?_
      refine bg_virt0 rfl rfl rfl rfl ⟨_, o0⟩ ?_
      refine bh_errTok hCE.1 (bk_Ki ?_)
      refine bg_goto rfl ?_
      refine bg_virt1 rfl rfl rfl rfl ⟨_, k0⟩ ?_
      refine bk_start hCE.1.1 (bk_Ki ?_)
      refine bg_putfield rfl rfl hx (by rfl) ⟨rfl, rfl⟩ (by rfl) (fun h76 f76 g76 => ?_)
      have hCF := hCE.eP f76 g76
      have gx := gx.trans ((fr.one g76).wide (by omega) (by omega))
      have hx := hCF.2.2.2.2.2.2.2
      have tA := hCF.1.1.1
      refine bg_goto rfl ?_
      refine bg_aload0 rfl ?_
      refine bg_getfield rfl rfl hx (by rfl) ?_
      refine bg_iconst rfl ?_
      refine bg_virt1 rfl rfl rfl rfl ⟨_, tA.1⟩ ?_
      refine ba_shorten (m := 0) (Nat.zero_le _) hCF.1.1.1 (fun hZ kZ gZ => bk_Kv ?_)
      rw [List.take_zero] at kZ
      have hCZ := hCF.ta kZ gZ
      have gx := gx.trans (gZ.wide (by omega) (by omega))
      refine bg_iload2 rfl ?_
      refine bg_iret rfl rfl (by rfl) ?_
      first
        | (rw [e44]; exact hQ3.1 e23 e44 _ ⟨_, _, _, _, _, _, _, _, _, _, hCZ⟩ gx)
        | exact hQ3.2.1 e23 e44 _ ⟨_, _, _, _, _, _, _, _, _, _, hCZ⟩ gx
end CMm
