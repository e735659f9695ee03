/-! THE TOKENS: what is known of each; the component's teach once more, the width of its rows told. Printed by wip/whole/mk98d.py. -/
theorem tkL_at {T : List Int32} : ∀ (k i p j : Nat) (t : Int32 × Nat × Nat), (tkL T k i p)[j]? = some t → ∃ p', t = (tkK T (i + j) p', p', tkE T (i + j) p')
  | 0, i, p, j, t, h => (by rw [show tkL T 0 i p = [] from rfl, List.getElem?_nil] at h; cases h)
  | k + 1, i, p, j, t, h => by
    rw [tkL_1] at h
    cases j with
    | zero =>
      rw [List.getElem?_cons_zero] at h
      injection h with h
      exact ⟨_, h.symm⟩
    | succ j =>
      rw [List.getElem?_cons_succ] at h
      by_cases c : tkK T i (skP T p) = 47 ∨ tkK T i (skP T p) = 0
      · rw [if_pos c, List.getElem?_nil] at h
        cases h
      · rw [if_neg c] at h
        obtain ⟨p', e⟩ := tkL_at k (i + 1) _ j t h
        exact ⟨p', by rw [e, show i + 1 + j = i + (j + 1) by omega]⟩
theorem ixL_rg {c : Int64} : ∀ (l : List Int64) (m : Nat), ixL l c m = -1 ∨ ∃ k, k < l.length ∧ ixL l c m = nI (m + k)
  | [], _ => Or.inl rfl
  | x :: l, m => by
    by_cases e : x = c
    · exact Or.inr ⟨0, Nat.succ_pos _, if_pos e⟩
    · rcases ixL_rg (c := c) l (m + 1) with h | ⟨k, h1, h2⟩
      · exact Or.inl ((if_neg e).trans h)
      · exact Or.inr ⟨k + 1, Nat.succ_lt_succ h1, (if_neg e).trans (h2.trans (by rw [show m + 1 + k = m + (k + 1) by omega]))⟩
theorem kw_d : ∀ k, k < 29 → ¬ nI k < 0 ∧ 1 + nI k = nI (k + 1) ∧ ¬ 1 + nI k = 31 := by decide +kernel
theorem kwF_rg {c : Int64} : (∃ j, j < 48 ∧ kwF c = nI j) ∧ ¬ kwF c = 31 := by
  unfold kwF
  rcases ixL_rg (c := c) kwL 0 with h | ⟨k, h1, h2⟩
  · rw [h, if_pos (by decide)]
    exact ⟨⟨30, by decide, rfl⟩, by decide⟩
  · rw [kwL_len] at h1
    rw [Nat.zero_add] at h2
    obtain ⟨a, b, e⟩ := kw_d k h1
    rw [h2, if_neg a]
    exact ⟨⟨k + 1, by omega, b⟩, e⟩
theorem sg_rg : ∀ b, b < 256 → ¬ sgF (nI b) < 0 → (32 + sgF (nI b)).toNatClampNeg < 48 ∧ 32 + sgF (nI b) = nI (32 + sgF (nI b)).toNatClampNeg ∧ ¬ 32 + sgF (nI b) = 30 ∧ ¬ 32 + sgF (nI b) = 31 := by decide +kernel
theorem bA_by {T : List Int32} {p : Nat} (hT : ∀ b ∈ T, ∃ k, k < 256 ∧ b = nI k) (h : ¬ bA T p < 0) : p < T.length ∧ ∃ k, k < 256 ∧ bA T p = nI k := by
  have hp : p < T.length := Nat.lt_of_not_le fun z => h (by rw [bA_ge z]; decide)
  exact ⟨hp, bA_lt hT hp⟩
/-- what a token's kind says -/
theorem tkK_rg {T : List Int32} {i p : Nat} (hT : ∀ b ∈ T, ∃ k, k < 256 ∧ b = nI k) : (∃ j, j < 48 ∧ tkK T i p = nI j) ∧ (tkK T i p = 30 → isL (bA T p) ∧ ¬ bA T p < 0 ∧ ¬ 400 ≤ i ∧ ¬ 10 < wE T p - p) ∧ (tkK T i p = 31 → ¬ isL (bA T p) ∧ isD (bA T p) ∧ ¬ bA T p < 0 ∧ ¬ 400 ≤ i) := by
  unfold tkK
  by_cases a : bA T p < 0
  · rw [if_pos a]
    exact ⟨⟨47, by decide, rfl⟩, fun z => absurd z (by decide), fun z => absurd z (by decide)⟩
  rw [if_neg a]
  by_cases b : 400 ≤ i
  · rw [if_pos b]
    exact ⟨⟨0, by decide, rfl⟩, fun z => absurd z (by decide), fun z => absurd z (by decide)⟩
  rw [if_neg b]
  by_cases c : isL (bA T p)
  · rw [if_pos c]
    by_cases c2 : 10 < wE T p - p
    · rw [if_pos c2]
      exact ⟨⟨0, by decide, rfl⟩, fun z => absurd z (by decide), fun z => absurd z (by decide)⟩
    · rw [if_neg c2]
      exact ⟨kwF_rg.1, fun _ => ⟨c, a, b, c2⟩, fun z => absurd z kwF_rg.2⟩
  rw [if_neg c]
  by_cases e : isD (bA T p)
  · rw [if_pos e]
    by_cases e2 : 6 < dE T p - p
    · rw [if_pos e2]
      exact ⟨⟨0, by decide, rfl⟩, fun z => absurd z (by decide), fun z => absurd z (by decide)⟩
    · rw [if_neg e2]
      exact ⟨⟨31, by decide, rfl⟩, fun z => absurd z (by decide), fun _ => ⟨c, e, a, b⟩⟩
  rw [if_neg e]
  by_cases q : sgF (bA T p) < 0
  · rw [if_pos q]
    exact ⟨⟨0, by decide, rfl⟩, fun z => absurd z (by decide), fun z => absurd z (by decide)⟩
  rw [if_neg q]
  by_cases r : sg2 T p
  · rw [if_pos r]
    by_cases r2 : 32 + sgF (bA T p) = 42
    · rw [if_pos r2]
      exact ⟨⟨45, by decide, rfl⟩, fun z => absurd z (by decide), fun z => absurd z (by decide)⟩
    · rw [if_neg r2]
      exact ⟨⟨46, by decide, rfl⟩, fun z => absurd z (by decide), fun z => absurd z (by decide)⟩
  rw [if_neg r]
  obtain ⟨_, k, hk, ek⟩ := bA_by hT a
  rw [ek] at q ⊢
  obtain ⟨u1, u2, u3, u4⟩ := sg_rg k hk q
  exact ⟨⟨_, u1, u2⟩, fun z => absurd z u3, fun z => absurd z u4⟩
theorem kk_at {T : List Int32} {i : Nat} {t : Int32 × Nat × Nat} (h : (toks T)[i]? = some t) : kkF (toks T) i = t.1 := by
  unfold kkF
  rw [h]
  rfl
section TK
variable {T : List Int32} {F : rA} {f : Nat → Int32} {g : Nat → Int64} {rows : bT}
theorem FXk_of (hT : ∀ b ∈ T, ∃ k, k < 256 ∧ b = nI k) (hF : RSc (toks T) F) : FXk F (kkF (toks T)) (toks T).length := by
  obtain ⟨kE, k0N, kN⟩ := toks_E (T := T)
  refine ⟨fun i hi => ?_, fun i hi => ?_, kN, kE⟩
  · have ht := List.getElem?_eq_getElem hi
    rw [kk_at ht]
    exact (hF i _ ht).1
  · have ht := List.getElem?_eq_getElem hi
    obtain ⟨p, e⟩ := tkL_at 401 0 0 i _ ht
    rw [kk_at ht, e]
    exact (tkK_rg hT).1
theorem NMk_of (hT : ∀ b ∈ T, ∃ k, k < 256 ∧ b = nI k) (hF : RSc (toks T) F) (hS : SCN T (toks T) rows f g) : NMk F (kkF (toks T)) (toks T).length T g := fun i hi hk => by
  obtain ⟨t, ht⟩ : ∃ t, (toks T)[i]? = some t := ⟨_, List.getElem?_eq_getElem hi⟩
  obtain ⟨p, e⟩ := tkL_at 401 0 0 i t ht
  rw [kk_at ht, e] at hk
  have hk : tkK T (0 + i) p = 30 := hk
  obtain ⟨n1, n2, n3, n4⟩ := (tkK_rg hT).2.1 hk
  have e2 : tkE T (0 + i) p = wE T p := by
    unfold tkE
    rw [if_neg n2, if_neg n3, if_pos n1]
  have hp := (bA_by hT n2).1
  have g1 : p ≤ wE T p ∧ wE T p ≤ p + (T.length - p) := wL_ge (T := T) (T.length - p) p
  obtain ⟨_, s1, s2, _, _⟩ := hF i _ ht
  obtain ⟨_, _, _, s4⟩ := hS i _ ht
  rw [e] at s1 s2 s4
  have s2 : ¬ tkK T (0 + i) p = 47 → ¬ tkK T (0 + i) p = 0 → F 2 i = nI (tkE T (0 + i) p - p) := s2
  rw [hk, e2] at s2
  refine ⟨p, wE T p - p, s1, s2 (by decide) (by decide), by omega, by omega, fun j hj => vb_of hT (wL_all (T.length - p) p _ (Nat.le_add_right p j) ?_), s4 hk⟩
  show p + j < wE T p
  omega
theorem NVk_of (hT : ∀ b ∈ T, ∃ k, k < 256 ∧ b = nI k) (hF : RSc (toks T) F) (hS : SCN T (toks T) rows f g) : NVk F (kkF (toks T)) (toks T).length T (fun i => rG rows (nI i) 1) := fun i hi hk => by
  obtain ⟨kE, k0N, kN⟩ := toks_E (T := T)
  obtain ⟨t, ht⟩ : ∃ t, (toks T)[i]? = some t := ⟨_, List.getElem?_eq_getElem hi⟩
  obtain ⟨p, e⟩ := tkL_at 401 0 0 i t ht
  rw [kk_at ht, e] at hk
  have hk : tkK T (0 + i) p = 31 := hk
  obtain ⟨n0, n1, n2, n3⟩ := (tkK_rg hT).2.2 hk
  have e2 : tkE T (0 + i) p = dE T p := by
    unfold tkE
    rw [if_neg n2, if_neg n3, if_neg n0, if_pos n1]
  have hp := (bA_by hT n2).1
  have g1 : p ≤ dE T p ∧ dE T p ≤ p + (T.length - p) := dL_ge (T := T) (T.length - p) p
  obtain ⟨_, s1, s2, _, _⟩ := hF i _ ht
  obtain ⟨_, _, s4, _⟩ := hS i _ ht
  rw [e] at s1 s2 s4
  have s2 : ¬ tkK T (0 + i) p = 47 → ¬ tkK T (0 + i) p = 0 → F 2 i = nI (tkE T (0 + i) p - p) := s2
  rw [hk, e2] at s2
  exact ⟨p, dE T p - p, s1, s2 (by decide) (by decide), by omega, (rG_nI (by omega)).trans (s4 hk)⟩
end TK
section CMm
variable {V : bk_V} {d n : Nat} {B : Nat × Nat} {Q : bk_R → bk_H → Nat → Prop} {h : bk_H} {x : Nat} {T : List Int32} {P : Nat → bT} {S : bS} {ep : Int32} {cs : Nat × Nat}
theorem bb_teach2 (hC : CM h x T P S ep) (hQ : ∀ (rows : bT) (f : Nat → Int32) (g : Nat → Int64) (et0 od0 : Int32), SCN T (toks T) rows f g → rows.length = (toks T).length → (∀ q ∈ rows, q.length = 2) →
      ((lsL (kkF (toks T)) (ckF f g et0 rows).2.2.2.2 401 (0, (fun _ => []), od0)).1 = true → (ckF f g et0 rows).1 = 0 → ∀ h', CM h' x [] (lsL (kkF (toks T)) (ckF f g et0 rows).2.2.2.2 401 (0, (fun _ => []), od0)).2.2.1 (beginF (lsL (kkF (toks T)) (ckF f g et0 rows).2.2.2.2 401 (0, (fun _ => []), od0)).2.2.1 S) (-1) → fr h h' x (x + 70) → Q (.inl (some (.int 0))) h' n) ∧
      ((lsL (kkF (toks T)) (ckF f g et0 rows).2.2.2.2 401 (0, (fun _ => []), od0)).1 = true → ¬ (ckF f g et0 rows).1 = 0 → ∀ h', CM h' x [] P S (rG (ckF f g et0 rows).2.2.2.2 (ckF f g et0 rows).2.1 0) → fr h h' x (x + 70) → Q (.inl (some (.int (ckF f g et0 rows).1))) h' n) ∧
      (¬ (lsL (kkF (toks T)) (ckF f g et0 rows).2.2.2.2 401 (0, (fun _ => []), od0)).1 = true → ∀ h', CM h' x [] P S (rG (ckF f g et0 rows).2.2.2.2 (nI (lsL (kkF (toks T)) (ckF f g et0 rows).2.2.2.2 401 (0, (fun _ => []), od0)).2.1) 0) → fr h h' x (x + 70) → Q (.inl (some (.int 1))) h' n)) : bk_wp V (d + 61) 97 [.ref x] h n B Q := by
  obtain ⟨p, f, g, s, er, et, sP, S2, b1, b2, hC0⟩ := id hC
  obtain ⟨⟨⟨tA, k0, k1, k2, k3, k4, ktp⟩, o0, n0, n1, n2, otk⟩, ⟨⟨d0, d1, d2, d3, d4, d5⟩, pr0⟩, ⟨l0, l1, l2, l3, l4, l5⟩, ⟨m0, m1, m2, m3, m4, m5⟩, ⟨u0, u1, u2, u3, u4, u5⟩, ⟨c0, cb, cf⟩, ⟨t0, tb, tf⟩, hx⟩ := id hC0
  refine bg_in rfl rfl ?_
  refine bg_aload0 rfl ?_
  refine bg_getfield rfl rfl hx (by rfl) ?_
  refine bg_virt0 rfl rfl rfl rfl ⟨_, k0⟩ ?_
  refine bk_scan hC0.1.1 (fun hA pA rows f g kA sA lA gA => bk_Kv ?_)
  have hHA : HO hA (x + 10) (x + 3) (x + 1) T pA f g (s.1, s.2.1, rows) er et := by
    obtain ⟨-, o0, n0, n1, n2, otk⟩ := hC0.1
    exact ⟨kA, (gA _ (by omega)).trans o0, n0.kp gA (by omega), n1.kp gA (by omega), n2.kp gA (by omega), otk⟩
  have hCA := hC0.ho hHA (gA.wide (by omega) (by omega))
  have gx : fr h hA x (x + 70) := gA.wide (by omega) (by omega)
  obtain ⟨kE, k0N, kN⟩ := toks_E (T := T)
  have hx := hCA.2.2.2.2.2.2.2
  have o0 := hHA.2.1
  refine bg_aload0 rfl ?_
  refine bg_getfield rfl rfl hx (by rfl) ?_
  refine bg_virt0 rfl rfl rfl rfl ⟨_, o0⟩ ?_
  refine bh_check hHA (by show rows.length ≤ 401; omega) (fun hB kB gB => bk_Kv ?_)
  have hCB := hCA.ho kB gB
  have gx := gx.trans (gB.wide (by omega) (by omega))
  have hx := hCB.2.2.2.2.2.2.2
  have pr0 := hCB.2.1.2
  change CMx hB x T P S ep _ f g (ckF f g et rows).2.2 (ckF f g et rows).1 (ckF f g et rows).2.1 sP S2 b1 b2 at hCB
  refine bg_aload0 rfl ?_
  refine bg_getfield rfl rfl hx (by rfl) ?_
  refine bg_virt0 rfl rfl rfl rfl ⟨_, pr0⟩ ?_
  refine bs_list (K := kkF (toks T)) (N := (toks T).length) (fun i hi => SCN_f sA i hi) kN kE k0N hCB.XS (fun hD kD gD => bk_Ki ?_)
  have hCD := hCB.xs kD gD
  have gx := gx.trans (gD.wide (by omega) (by omega))
  have hx := hCD.2.2.2.2.2.2.2
  have o0 := hCD.1.2.1
  have pr0 := hCD.2.1.2
  have k0 := hCD.1.1.2.1
  have hQ3 := hQ rows f g et sP.2.2 sA lA kA.2.2.1.2.2.2.1
  refine bg_istore1 rfl rfl ?_
  refine bg_iload1 rfl ?_
  refine bg_ifeq_b rfl (fun e23 => ?_) (fun e23 => ?_)
  · refine bg_iconst rfl ?_
    refine bg_istore2 rfl rfl ?_
    refine bg_aload0 rfl ?_
    refine bg_iconst rfl ?_
    refine bg_putfield rfl rfl hx (by rfl) ⟨rfl, rfl⟩ (by rfl) (fun h40 f40 g40 => ?_)
    have hCE := hCD.eP f40 g40
    have gx := gx.trans ((fr.one g40).wide (by omega) (by omega))
    obtain ⟨-, ⟨⟨d0, d1, d2, d3, d4, d5⟩, pr0⟩, ⟨l0, l1, l2, l3, l4, l5⟩, ⟨m0, m1, m2, m3, m4, m5⟩, ⟨u0, u1, u2, u3, u4, u5⟩, ⟨c0, cb, cf⟩, ⟨t0, tb, tf⟩, hx⟩ := id hCE
    have o0 := hCE.1.2.1
    have k0 := hCE.1.1.2.1
    have pr0 := hCE.2.1.2
    have tA := hCE.1.1.1
    refine bg_iload2 rfl ?_
    refine bg_if_eq rfl (fun e44 => absurd e44 (by decide)) (fun e44 => ?_)
    refine bg_aload0 rfl ?_
    refine bg_aload0 rfl ?_
    refine bg_getfield rfl rfl hx (by rfl) ?_
    refine bg_iload1 rfl ?_
    refine bg_ifeq_b rfl (fun e53 => ?_) (fun e53 => absurd e53 e23)
    refine bg_aload0 rfl ?_
    refine bg_getfield rfl rfl hx (by rfl) ?_
    refine bg_virt0 rfl rfl rfl rfl ⟨_, pr0⟩ ?_
    refine bp_token hCE.XS (bk_Ki ?_)
    refine bg_virt1 rfl rfl rfl rfl ⟨_, k0⟩ ?_
    refine bk_start hCE.1.1 (bk_Ki ?_)
    refine bg_putfield rfl rfl hx (by rfl) ⟨rfl, rfl⟩ (by rfl) (fun h76 f76 g76 => ?_)
    have hCF := hCE.eP f76 g76
    have gx := gx.trans ((fr.one g76).wide (by omega) (by omega))
    have hx := hCF.2.2.2.2.2.2.2
    have tA := hCF.1.1.1
    refine bg_goto rfl ?_
    refine bg_aload0 rfl ?_
    refine bg_getfield rfl rfl hx (by rfl) ?_
    refine bg_iconst rfl ?_
    refine bg_virt1 rfl rfl rfl rfl ⟨_, tA.1⟩ ?_
    refine ba_shorten (m := 0) (Nat.zero_le _) hCF.1.1.1 (fun hZ kZ gZ => bk_Kv ?_)
    rw [List.take_zero] at kZ
    have hCZ := hCF.ta kZ gZ
    have gx := gx.trans (gZ.wide (by omega) (by omega))
    refine bg_iload2 rfl ?_
    refine bg_iret rfl rfl (by rfl) ?_
    exact hQ3.2.2 e23 _ ⟨_, _, _, _, _, _, _, _, _, _, hCZ⟩ gx
  · refine bg_aload0 rfl ?_
    refine bg_getfield rfl rfl hx (by rfl) ?_
    refine bg_virt0 rfl rfl rfl rfl ⟨_, o0⟩ ?_
    refine bh_error hCD.1 (bk_Ki ?_)
    refine bg_goto rfl ?_
    refine bg_istore2 rfl rfl ?_
    refine bg_aload0 rfl ?_
    refine bg_iconst rfl ?_
    refine bg_putfield rfl rfl hx (by rfl) ⟨rfl, rfl⟩ (by rfl) (fun h40 f40 g40 => ?_)
    have hCE := hCD.eP f40 g40
    have gx := gx.trans ((fr.one g40).wide (by omega) (by omega))
    obtain ⟨-, ⟨⟨d0, d1, d2, d3, d4, d5⟩, pr0⟩, ⟨l0, l1, l2, l3, l4, l5⟩, ⟨m0, m1, m2, m3, m4, m5⟩, ⟨u0, u1, u2, u3, u4, u5⟩, ⟨c0, cb, cf⟩, ⟨t0, tb, tf⟩, hx⟩ := id hCE
    have o0 := hCE.1.2.1
    have k0 := hCE.1.1.2.1
    have pr0 := hCE.2.1.2
    have tA := hCE.1.1.1
    refine bg_iload2 rfl ?_
    refine bg_if_eq rfl (fun e44 => ?_) (fun e44 => ?_)
    · refine bg_aload0 rfl ?_
      refine bg_getfield rfl rfl hx (by rfl) ?_
      refine bg_aload0 rfl ?_
      refine bg_getfield rfl rfl hx (by rfl) ?_
      refine bg_virt1 rfl rfl rfl rfl ⟨_, l0⟩ ?_
      refine bm_lcopy hCE.2.2.1 hCE.2.1.1 (by omega) (fun hF kF gF => bk_Kv ?_)
      have hCF := hCE.lo kF gF
      have gx := gx.trans (gF.wide (by omega) (by omega))
      obtain ⟨-, ⟨⟨d0, d1, d2, d3, d4, d5⟩, pr0⟩, ⟨l0, l1, l2, l3, l4, l5⟩, ⟨m0, m1, m2, m3, m4, m5⟩, ⟨u0, u1, u2, u3, u4, u5⟩, ⟨c0, cb, cf⟩, ⟨t0, tb, tf⟩, hx⟩ := id hCF
      refine bg_aload0 rfl ?_
      refine bg_getfield rfl rfl hx (by rfl) ?_
      refine bg_aload0 rfl ?_
      refine bg_getfield rfl rfl hx (by rfl) ?_
      refine bg_virt1 rfl rfl rfl rfl ⟨_, m0⟩ ?_
      refine bm_begin hCF.2.2.2.1 hCF.2.2.1 (by omega) (fun hG kG kL gG => bk_Kv ?_)
      have hCF := hCF.mo kG gG
      have gx := gx.trans (gG.wide (by omega) (by omega))
      have hx := hCF.2.2.2.2.2.2.2
      have tA := hCF.1.1.1
      refine bg_aload0 rfl ?_
      refine bg_getfield rfl rfl hx (by rfl) ?_
      refine bg_iconst rfl ?_
      refine bg_virt1 rfl rfl rfl rfl ⟨_, tA.1⟩ ?_
      refine ba_shorten (m := 0) (Nat.zero_le _) hCF.1.1.1 (fun hZ kZ gZ => bk_Kv ?_)
      rw [List.take_zero] at kZ
      have hCZ := hCF.ta kZ gZ
      have gx := gx.trans (gZ.wide (by omega) (by omega))
      refine bg_iload2 rfl ?_
      refine bg_iret rfl rfl (by rfl) ?_
      first
        | (rw [e44]; exact hQ3.1 e23 e44 _ ⟨_, _, _, _, _, _, _, _, _, _, hCZ⟩ gx)
        | exact hQ3.2.1 e23 e44 _ ⟨_, _, _, _, _, _, _, _, _, _, hCZ⟩ gx
    · refine bg_aload0 rfl ?_
      refine bg_aload0 rfl ?_
      refine bg_getfield rfl rfl hx (by rfl) ?_
      refine bg_iload1 rfl ?_
      refine bg_ifeq_b rfl (fun e53 => absurd e23 e53) (fun e53 => ?_)
      refine bg_aload0 rfl ?_
      refine bg_getfield rfl rfl hx (by rfl) ?_
      refine bg_virt0 rfl rfl rfl rfl ⟨_, o0⟩ ?_
      refine bh_errTok hCE.1 (bk_Ki ?_)
      refine bg_goto rfl ?_
      refine bg_virt1 rfl rfl rfl rfl ⟨_, k0⟩ ?_
      refine bk_start hCE.1.1 (bk_Ki ?_)
      refine bg_putfield rfl rfl hx (by rfl) ⟨rfl, rfl⟩ (by rfl) (fun h76 f76 g76 => ?_)
      have hCF := hCE.eP f76 g76
      have gx := gx.trans ((fr.one g76).wide (by omega) (by omega))
      have hx := hCF.2.2.2.2.2.2.2
      have tA := hCF.1.1.1
      refine bg_goto rfl ?_
      refine bg_aload0 rfl ?_
      refine bg_getfield rfl rfl hx (by rfl) ?_
      refine bg_iconst rfl ?_
      refine bg_virt1 rfl rfl rfl rfl ⟨_, tA.1⟩ ?_
      refine ba_shorten (m := 0) (Nat.zero_le _) hCF.1.1.1 (fun hZ kZ gZ => bk_Kv ?_)
      rw [List.take_zero] at kZ
      have hCZ := hCF.ta kZ gZ
      have gx := gx.trans (gZ.wide (by omega) (by omega))
      refine bg_iload2 rfl ?_
      refine bg_iret rfl rfl (by rfl) ?_
      first
        | (rw [e44]; exact hQ3.1 e23 e44 _ ⟨_, _, _, _, _, _, _, _, _, _, hCZ⟩ gx)
        | exact hQ3.2.1 e23 e44 _ ⟨_, _, _, _, _, _, _, _, _, _, hCZ⟩ gx
end CMm
