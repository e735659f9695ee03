/-! THE REFERENCE: mean, digest. Printed by wip/whole/mk71.py. -/
/-- the component's way upwards and the reference's way downwards choose the same -/
def upL (f : Nat → Int32) : Nat → Nat → Int32 × Int32 → Int32 × Int32
  | 0, _, q => q
  | c + 1, e, q => upL f c (e + 1) (if ¬ f e < q.1 then (f e, nI e) else q)
def dnL (f : Nat → Int32) : Nat → Int32 × Int32 → Int32 × Int32
  | 0, q => q
  | e + 1, q => dnL f e (if q.1 < f (e + 1) then (f (e + 1), nI (e + 1)) else q)
theorem adL_up {P : Nat → bT} {S : bS} {b : Int32} : ∀ (c e : Nat) (q : Int32 × Int32), adL P S b c e q = upL (fun e => (goF P 48 (S.1, uT S.2 1 (rS (S.2 1) b 0 (nI e)))).1 4) c e q
  | 0, _, _ => rfl
  | c + 1, e, q => adL_up c (e + 1) _
theorem rAd_dn {P : Nat → bT} {S : bS} {b : Int32} : ∀ (e : Nat) (q : Int32 × Int32), rAd P S b e q = dnL (fun e => (goF P 48 (S.1, uT S.2 1 (rS (S.2 1) b 0 (nI e)))).1 4) e q
  | 0, _ => rfl
  | e + 1, q => rAd_dn e _
/-- the largest of those that are dearest -/
def isBest (f : Nat → Int32) (lo hi e : Nat) : Prop := lo ≤ e ∧ e < hi ∧ ∀ i, lo ≤ i → i < hi → ¬ f e < f i ∧ (e < i → f i < f e)
theorem isBest_u {f : Nat → Int32} {lo hi a b : Nat} (x : isBest f lo hi a) (y : isBest f lo hi b) : a = b := by
  obtain ⟨x1, x2, x3⟩ := x
  obtain ⟨y1, y2, y3⟩ := y
  by_cases h : a < b
  · exact absurd ((x3 b y1 y2).2 h) (y3 a x1 x2).1
  · by_cases h2 : b < a
    · exact absurd ((y3 a x1 x2).2 h2) (x3 b y1 y2).1
    · omega
theorem up_best {f : Nat → Int32} : ∀ (c e b : Nat), 1 ≤ e → isBest f 1 e b → ∃ b', isBest f 1 (e + c) b' ∧ upL f c e (f b, nI b) = (f b', nI b')
  | 0, e, b, _, h => ⟨b, h, rfl⟩
  | c + 1, e, b, he, h => by
    show ∃ b', isBest f 1 (e + (c + 1)) b' ∧ upL f c (e + 1) (if ¬ f e < f b then (f e, nI e) else (f b, nI b)) = _
    obtain ⟨h1, h2, h3⟩ := h
    by_cases q : f e < f b
    · rw [if_neg (fun z => z q)]
      obtain ⟨b', x, y⟩ := up_best (f := f) c (e + 1) b (by omega) ⟨h1, by omega, fun i i1 i2 => by
        by_cases z : i = e
        · subst z
          exact ⟨fun w => absurd (Int32.lt_trans w q) (Int32.lt_irrefl), fun _ => q⟩
        · exact h3 i i1 (by omega)⟩
      exact ⟨b', by rw [show e + (c + 1) = e + 1 + c by omega]; exact x, y⟩
    · rw [if_pos q]
      obtain ⟨b', x, y⟩ := up_best (f := f) c (e + 1) e (by omega) ⟨he, by omega, fun i i1 i2 => by
        by_cases z : i = e
        · subst z
          exact ⟨Int32.lt_irrefl, fun w => by omega⟩
        · refine ⟨fun w => (h3 i i1 (by omega)).1 (Int32.lt_of_le_of_lt (Int32.not_lt.mp q) w), fun w => by omega⟩⟩
      exact ⟨b', by rw [show e + (c + 1) = e + 1 + c by omega]; exact x, y⟩
theorem dn_best {f : Nat → Int32} {hi : Nat} : ∀ (e b : Nat), e < hi → isBest f (e + 1) hi b → ∃ b', isBest f 1 hi b' ∧ dnL f e (f b, nI b) = (f b', nI b')
  | 0, b, _, h => ⟨b, h, rfl⟩
  | e + 1, b, he, h => by
    show ∃ b', isBest f 1 hi b' ∧ dnL f e (if f b < f (e + 1) then (f (e + 1), nI (e + 1)) else (f b, nI b)) = _
    obtain ⟨h1, h2, h3⟩ := h
    by_cases q : f b < f (e + 1)
    · rw [if_pos q]
      exact dn_best e (e + 1) (by omega) ⟨Nat.le_refl _, he, fun i i1 i2 => by
        by_cases z : i = e + 1
        · subst z
          exact ⟨Int32.lt_irrefl, fun w => by omega⟩
        · have h4 := (h3 i (by omega) i2).1
          have h5 : f i < f (e + 1) := Int32.lt_of_le_of_lt (Int32.not_lt.mp h4) q
          exact ⟨fun w => absurd (Int32.lt_trans w h5) (Int32.lt_irrefl), fun _ => h5⟩⟩
    · rw [if_neg q]
      exact dn_best e b (by omega) ⟨by omega, h2, fun i i1 i2 => by
        by_cases z : i = e + 1
        · subst z
          exact ⟨q, fun w => by omega⟩
        · exact h3 i (by omega) i2⟩
theorem ad_same {f : Nat → Int32} (h0 : ∀ e, 1 ≤ e → e ≤ 6 → ¬ f e < -1 ∧ -1 < f e) : (upL f 6 1 (-1, 1)).2 = (dnL f 6 (-1, 0)).2 := by
  have e1 : upL f 6 1 (-1, 1) = upL f 5 2 (f 1, nI 1) := by
    show upL f 5 2 (if ¬ f 1 < -1 then (f 1, nI 1) else (-1, 1)) = _
    rw [if_pos (h0 1 (by decide) (by decide)).1]
  have e2 : dnL f 6 (-1, 0) = dnL f 5 (f 6, nI 6) := by
    show dnL f 5 (if -1 < f 6 then (f 6, nI 6) else (-1, 0)) = _
    rw [if_pos (h0 6 (by decide) (by decide)).2]
  obtain ⟨a, a1, a2⟩ := up_best (f := f) 5 2 1 (by decide) ⟨by decide, by decide, fun i i1 i2 => by
    have : i = 1 := by omega
    subst this
    exact ⟨Int32.lt_irrefl, fun w => by omega⟩⟩
  obtain ⟨b, b1, b2⟩ := dn_best (f := f) (hi := 7) 5 6 (by decide) ⟨by decide, by decide, fun i i1 i2 => by
    have : i = 6 := by omega
    subst this
    exact ⟨Int32.lt_irrefl, fun w => by omega⟩⟩
  rw [e1, e2, a2, b2, isBest_u a1 b1]
theorem spare_same {P : Nat → bT} {S : bS} {H : Nat} (hm : ∀ k, ∃ m, (goF P H (upd S.1 7 (nI k), S.2)).1 4 = nI m ∧ m < 2 ^ 30) : ∀ (c k : Nat) (a : Nat) (s : Int32) (a' : Int32), a < 2 ^ 30 → k + c < 2 ^ 20 → ((s = -1 ∧ a' = nI a - 1) ∨ (¬ s = -1 ∧ a' = nI a)) → (spL P S H c (k + 1) (nI a, s)).2 = (rSp P S H c k (a', s)).2
  | 0, _, _, _, _, _, _, _ => rfl
  | c + 1, k, a, s, a', ha, hk, h => by
    obtain ⟨m, e, hm2⟩ := hm k
    show (spL P S H c (k + 2) (if nI a < (goF P H (upd S.1 7 (nI (k + 1) - 1), S.2)).1 4 ∨ ((goF P H (upd S.1 7 (nI (k + 1) - 1), S.2)).1 4 = nI a ∧ s = -1) then ((goF P H (upd S.1 7 (nI (k + 1) - 1), S.2)).1 4, nI (k + 1) - 1) else (nI a, s))).2 = (rSp P S H c (k + 1) (if a' < (goF P H (upd S.1 7 (nI k), S.2)).1 4 then ((goF P H (upd S.1 7 (nI k), S.2)).1 4, nI k) else (a', s))).2
    rw [nI_dn, e]
    by_cases hc : nI a < nI m ∨ (nI m = nI a ∧ s = -1)
    · have h2 : a' < nI m := by
        rcases h with ⟨h3, h4⟩ | ⟨h3, h4⟩
        · rw [h4]
          refine (nI_pl ha hm2).mpr ?_
          rcases hc with h5 | ⟨h5, _⟩
          · have := (nI_ltI (by omega) (by omega)).mp h5
            omega
          · have := (nI_eq (by omega) (by omega)).mp h5
            omega
        · rw [h4]
          rcases hc with h5 | ⟨_, h5⟩
          · exact h5
          · exact absurd h5 h3
      rw [if_pos hc, if_pos h2]
      exact spare_same hm c (k + 1) m (nI k) (nI m) hm2 (by omega) (Or.inr ⟨nI_m1 (by omega), rfl⟩)
    · have h2 : ¬ a' < nI m := fun h2 => by
        rcases h with ⟨h3, h4⟩ | ⟨h3, h4⟩
        · rw [h4] at h2
          have h6 := (nI_pl ha hm2).mp h2
          by_cases h7 : a = m
          · exact hc (Or.inr ⟨by rw [h7], h3⟩)
          · exact hc (Or.inl (nI_lt (by omega) (by omega)))
        · rw [h4] at h2
          exact hc (Or.inl h2)
      rw [if_neg hc, if_neg h2]
      exact spare_same hm c (k + 1) a s a' ha (by omega) h
section MM
variable {V : bk_V} {d n : Nat} {B : Nat × Nat} {Q : bk_R → bk_H → Nat → Prop} {h : bk_H} {y u v : Nat} {T : List Int32} {P : Nat → bT} {S : bS} {I J K : rI} {A C : rA} {cs : Nat × Nat}
theorem mo_meanL (hM : MD h y u v T P S J K C) (hN : ¬ (S.2 4).length = 0 → vf_n64 (FP.ddiv (FP.i2d (meL (S.2 4) (S.2 4).length 0 0)) (FP.i2d (nI (S.2 4).length)))) (hQ : Q (.inl (some (.double (meF (S.2 4))))) h n) : ∀ (c i : Nat) (s : Int32), i + c = (S.2 4).length → meL (S.2 4) (S.2 4).length 0 0 = meL (S.2 4) c i s → bk_g V (d + 1) 224 B Q 9 [some (.ref y), some (.int s), some (.int (nI i))] [] h n cs := by
  obtain ⟨hTp, har, hah, ⟨I, A, hR, hr, hP, hY, hp, hs, hv, hd1, hd2, hbs⟩, hJ1, hT2, hu⟩ := id hM
  have hl4 : (S.2 4).length ≤ 30 := hs.2.1.2.2.2.2.1
  intro c
  induction c with
  | zero =>
    intro i s hi he
    refine bg_iload2 rfl ?_
    refine bg_aload0 rfl ?_
    refine bg_getfield rfl rfl hY (by rfl) ?_
    refine bg_getfield rfl rfl hR.1 (by rfl) ?_
    refine bg_icmp_ge rfl (fun e17 => ?_) (fun e17 => absurd e17 (by rw [hr.1.2.2.1]; exact nI_nlt (by omega) (by omega)))
    refine bg_aload0 rfl ?_
    refine bg_getfield rfl rfl hY (by rfl) ?_
    refine bg_getfield rfl rfl hR.1 (by rfl) ?_
    refine bg_if_ne rfl (fun e45 => ?_) (fun e45 => ?_)
    · have h0 : ¬ (S.2 4).length = 0 := fun q => e45 (by rw [hr.1.2.2.1, q]; rfl)
      unfold meF at hQ
      rw [if_neg h0, he] at hQ
      have hN2 := hN h0
      rw [he] at hN2
      refine bg_iload1 rfl ?_
      refine bg_i2d rfl ?_
      refine bg_aload0 rfl ?_
      refine bg_getfield rfl rfl hY (by rfl) ?_
      refine bg_getfield rfl rfl hR.1 (by rfl) ?_
      rw [hr.1.2.2.1]
      refine bg_i2d rfl ?_
      refine bg_ddiv rfl hN2 ?_
      refine bg_dret rfl rfl ?_
      exact hQ
    · have h0 : (S.2 4).length = 0 := nI_z (by omega) (by rw [← hr.1.2.2.1]; exact e45)
      unfold meF at hQ
      rw [if_pos h0] at hQ
      refine bg_dconst rfl rfl ?_
      refine bg_goto rfl ?_
      refine bg_dret rfl rfl ?_
      exact hQ
  | succ c ih =>
    intro i s hi he
    refine bg_iload2 rfl ?_
    refine bg_aload0 rfl ?_
    refine bg_getfield rfl rfl hY (by rfl) ?_
    refine bg_getfield rfl rfl hR.1 (by rfl) ?_
    refine bg_icmp_ge rfl (fun e17 => absurd (by rw [hr.1.2.2.1]; exact nI_lt (by omega) (by omega)) e17) (fun e17 => ?_)
    refine bg_iload1 rfl ?_
    refine bg_aload0 rfl ?_
    refine bg_getfield rfl rfl hY (by rfl) ?_
    refine bg_getfield rfl rfl hR.1 (by rfl) ?_
    refine bg_iload2 rfl ?_
    refine bg_iaload_n rfl (sR11 hR) (by omega) (by omega) ?_
    rw [(hr.2.2.2.2.2 i (by omega)).2, ← rG_nI (show i < 2 ^ 31 by omega)]
    refine bg_iadd rfl ?_
    refine bg_istore1 rfl rfl ?_
    refine bg_iinc2 rfl rfl ?_
    rw [nI_1]
    refine bg_goto rfl ?_
    exact ih (i + 1) _ (by omega) he

theorem mo_mean (hM : MD h y u v T P S J K C) (hN : ¬ (S.2 4).length = 0 → vf_n64 (FP.ddiv (FP.i2d (meL (S.2 4) (S.2 4).length 0 0)) (FP.i2d (nI (S.2 4).length)))) (hQ : ∀ (h' : bk_H) (J' : rI), MD h' y u v T P S J' K C → J' 0 = 0 → J' 2 = J 2 → fm h h' y n → Q (.inl (some (.double (meF (S.2 4))))) h' n) : bk_wp V (d + 2) 224 [.ref y] h n B Q := by
  obtain ⟨hTp, har, hah, ⟨I, A, hR, hr, hP, hY, hp, hs, hv, hd1, hd2, hbs⟩, hJ1, hT2, hu⟩ := id hM
  refine bg_in rfl rfl ?_
  refine bg_aload0 rfl ?_
  refine bg_iconst rfl ?_
  refine bg_putfield rfl rfl hY (by rfl) ⟨rfl, rfl⟩ (by rfl) (fun h2 f2 g2 => ?_)
  have hM1 := hM.j (J' := upd J 0 0) f2 g2 rfl
  have hm : fm h h2 y n := fun q _ q2 => g2 q (by omega)
  obtain ⟨hTp, har, hah, ⟨I, A, hR, hr, hP, hY, hp, hs, hv, hd1, hd2, hbs⟩, hJ1, hT2, hu⟩ := id hM1
  refine bg_iconst rfl ?_
  refine bg_istore1 rfl rfl ?_
  refine bg_iconst rfl ?_
  refine bg_istore2 rfl rfl ?_
  exact mo_meanL hM1 hN (hQ h2 _ hM1 rfl rfl hm) (S.2 4).length 0 0 (Nat.zero_add _) rfl
theorem mg_cnt (hsd : sdL (S.2 2) 6 0 0 = S.1 6) : ∀ (c i : Nat) (dd : Int64) (h : bk_H) (n : Nat) (cs : Nat × Nat) (x4 : Option Value), MD h y u v T P S J K C → (y + 51 ≤ n ∧ u + 16 ≤ n) → i + c = 15 → cs.1 + c * 1 ≤ B.1 → cs.2 + c * 15 ≤ B.2 → (∀ (h' : bk_H) (n' : Nat) (cs' : Nat × Nat), MD h' y u v T P S J K C → n ≤ n' → fm h h' y n → cs'.1 ≤ cs.1 + c * 1 → cs'.2 ≤ cs.2 + c * 15 → ∀ (x3 x4 : Option Value), bk_g V (d + 9) 225 B Q 36 [some (.ref y), some (.long (dgI (cnV T P S) c i dd)), none, x3, x4] [] h' n' cs') → bk_g V (d + 9) 225 B Q 11 [some (.ref y), some (.long dd), none, some (.int (nI i)), x4] [] h n cs := by
  intro c
  induction c with
  | zero =>
    intro i dd h n cs x4 hM hn hi hb1 hb2 hQ
    refine bg_iload3 rfl ?_
    refine bg_bipush rfl ?_
    refine bg_icmp_gt rfl (fun e14 => ?_) (fun e14 => absurd (nI_lt (a := 14) (by omega) (by omega)) e14)
    exact hQ h n cs hM (Nat.le_refl n) fm.refl (Nat.le_add_right _ _) (Nat.le_add_right _ _) _ _
  | succ c ih =>
    intro i dd h n cs x4 hM hn hi hb1 hb2 hQ
    obtain ⟨hTp, har, hah, ⟨I, A, hR, hr, hP, hY, hp, hs, hv, hd1, hd2, hbs⟩, hJ1, hT2, hu⟩ := id hM
    have hl0 : (P 0).length ≤ 5 := hs.1.1.1
    have hl1 : (P 1).length ≤ 6 := hs.1.2.1.1
    have hl2 : (P 2).length ≤ 6 := hs.1.2.2.1.1
    have hl3 : (S.2 3).length ≤ 30 := hs.2.1.2.2.2.1.1
    have hl4 : (S.2 4).length ≤ 30 := hs.2.1.2.2.2.2.1
    refine bg_iload3 rfl ?_
    refine bg_bipush rfl ?_
    refine bg_icmp_gt rfl (fun e14 => absurd e14 (nI_nlt (a := 14) (by omega) (by omega))) (fun e14 => ?_)
    refine bg_lload1 rfl ?_
    refine bg_ldc2 rfl rfl ?_
    refine bg_lmul rfl ?_
    refine bg_aload0 rfl ?_
    refine bg_iload3 rfl ?_
    refine bg_virt1B (b := (1, 15)) rfl rfl rfl rfl ⟨_, hY⟩ (by show cs.1 + 1 ≤ B.1; omega) (by show cs.2 + 15 ≤ B.2; omega) ?_
    refine mo_counted (k := i) hsd (by omega) hM hn (Nat.le_refl 1) (Nat.le_refl 15) (fun hA4 gA => bk_Ki ?_)
    have hM2 := hM.kp (fun q hq => gA q (by omega))
    have gx := fm.new (y := y) gA
    refine bg_i2l rfl ?_
    refine bg_ladd rfl ?_
    rw [dg_lm]
    refine bg_lstore1 rfl rfl ?_
    refine bg_iinc3 rfl rfl ?_
    rw [nI_1]
    refine bg_goto rfl ?_
    exact ih (i + 1) _ _ _ _ _ hM2 (by omega) (by omega) (by show cs.1 + 1 + c * 1 ≤ B.1; omega) (by show cs.2 + 15 + c * 15 ≤ B.2; omega) (fun h' n' cs' q1 q2 q3 q4 q5 => hQ h' n' cs' q1 (by omega) (gx.trans q3 (by omega)) (Nat.le_trans q4 (by show cs.1 + 1 + c * 1 ≤ cs.1 + (c + 1) * 1; omega)) (Nat.le_trans q5 (by show cs.2 + 15 + c * 15 ≤ cs.2 + (c + 1) * 15; omega)))

theorem mg_bark {b : Nat} (hb : b < (P 0).length) : ∀ (c i : Nat) (dd : Int64) (h : bk_H) (n : Nat) (cs : Nat × Nat), MD h y u v T P S J K C → (y + 51 ≤ n ∧ u + 16 ≤ n) → i + c = 5 → cs.1 + c * 1 ≤ B.1 → cs.2 + c * 5 ≤ B.2 → (∀ (h' : bk_H) (n' : Nat) (cs' : Nat × Nat), MD h' y u v T P S J K C → n ≤ n' → fm h h' y n → cs'.1 ≤ cs.1 + c * 1 → cs'.2 ≤ cs.2 + c * 5 → ∀ (x4 : Option Value), bk_g V (d + 9) 225 B Q 79 [some (.ref y), some (.long (dgI (bkV P S (nI b)) c i dd)), none, some (.int (nI b)), x4] [] h' n' cs') → bk_g V (d + 9) 225 B Q 52 [some (.ref y), some (.long dd), none, some (.int (nI b)), some (.int (nI i))] [] h n cs := by
  intro c
  induction c with
  | zero =>
    intro i dd h n cs hM hn hi hb1 hb2 hQ
    refine bg_iload4 rfl ?_
    refine bg_iconst rfl ?_
    refine bg_icmp_gt rfl (fun e55 => ?_) (fun e55 => absurd (nI_lt (a := 4) (by omega) (by omega)) e55)
    exact hQ h n cs hM (Nat.le_refl n) fm.refl (Nat.le_add_right _ _) (Nat.le_add_right _ _) _
  | succ c ih =>
    intro i dd h n cs hM hn hi hb1 hb2 hQ
    obtain ⟨hTp, har, hah, ⟨I, A, hR, hr, hP, hY, hp, hs, hv, hd1, hd2, hbs⟩, hJ1, hT2, hu⟩ := id hM
    have hl0 : (P 0).length ≤ 5 := hs.1.1.1
    have hl1 : (P 1).length ≤ 6 := hs.1.2.1.1
    have hl2 : (P 2).length ≤ 6 := hs.1.2.2.1.1
    have hl3 : (S.2 3).length ≤ 30 := hs.2.1.2.2.2.1.1
    have hl4 : (S.2 4).length ≤ 30 := hs.2.1.2.2.2.2.1
    refine bg_iload4 rfl ?_
    refine bg_iconst rfl ?_
    refine bg_icmp_gt rfl (fun e55 => absurd e55 (nI_nlt (a := 4) (by omega) (by omega))) (fun e55 => ?_)
    refine bg_lload1 rfl ?_
    refine bg_ldc2 rfl rfl ?_
    refine bg_lmul rfl ?_
    refine bg_aload0 rfl ?_
    refine bg_iload3 rfl ?_
    refine bg_iload4 rfl ?_
    refine bg_virt2B (b := (1, 5)) rfl rfl rfl rfl ⟨_, hY⟩ (by show cs.1 + 1 ≤ B.1; omega) (by show cs.2 + 5 ≤ B.2; omega) ?_
    refine mo_barkTold (k := i) hb (by omega) hM hn (Nat.le_refl 1) (Nat.le_refl 5) (fun hA4 gA => bk_Ki ?_)
    have hM2 := hM.kp (fun q hq => gA q (by omega))
    have gx := fm.new (y := y) gA
    refine bg_i2l rfl ?_
    refine bg_ladd rfl ?_
    rw [dg_lm]
    refine bg_lstore1 rfl rfl ?_
    refine bg_iinc4 rfl rfl ?_
    rw [nI_1]
    refine bg_goto rfl ?_
    exact ih (i + 1) _ _ _ _ hM2 (by omega) (by omega) (by show cs.1 + 1 + c * 1 ≤ B.1; omega) (by show cs.2 + 5 + c * 5 ≤ B.2; omega) (fun h' n' cs' q1 q2 q3 q4 q5 => hQ h' n' cs' q1 (by omega) (gx.trans q3 (by omega)) (Nat.le_trans q4 (by show cs.1 + 1 + c * 1 ≤ cs.1 + (c + 1) * 1; omega)) (Nat.le_trans q5 (by show cs.2 + 5 + c * 5 ≤ cs.2 + (c + 1) * 5; omega)))

theorem mg_beat {b m : Nat} (h0 : S.1 0 = nI m) (hm0 : m < 2 ^ 31) (hb : b < (P 1).length) : ∀ (c i : Nat) (dd : Int64) (h : bk_H) (n : Nat) (cs : Nat × Nat), MD h y u v T P S J K C → (y + 51 ≤ n ∧ u + 16 ≤ n) → i + c = 4 → cs.1 + c * 0 ≤ B.1 → cs.2 + c * 0 ≤ B.2 → (∀ (h' : bk_H) (n' : Nat) (cs' : Nat × Nat), MD h' y u v T P S J K C → n ≤ n' → fm h h' y n → cs'.1 ≤ cs.1 + c * 0 → cs'.2 ≤ cs.2 + c * 0 → ∀ (x4 : Option Value), bk_g V (d + 9) 225 B Q 141 [some (.ref y), some (.long (dgI (beV P S (nI b)) c i dd)), none, some (.int (nI b)), x4] [] h' n' cs') → bk_g V (d + 9) 225 B Q 114 [some (.ref y), some (.long dd), none, some (.int (nI b)), some (.int (nI i))] [] h n cs := by
  intro c
  induction c with
  | zero =>
    intro i dd h n cs hM hn hi hb1 hb2 hQ
    refine bg_iload4 rfl ?_
    refine bg_iconst rfl ?_
    refine bg_icmp_gt rfl (fun e117 => ?_) (fun e117 => absurd (nI_lt (a := 3) (by omega) (by omega)) e117)
    exact hQ h n cs hM (Nat.le_refl n) fm.refl (Nat.le_add_right _ _) (Nat.le_add_right _ _) _
  | succ c ih =>
    intro i dd h n cs hM hn hi hb1 hb2 hQ
    obtain ⟨hTp, har, hah, ⟨I, A, hR, hr, hP, hY, hp, hs, hv, hd1, hd2, hbs⟩, hJ1, hT2, hu⟩ := id hM
    have hl0 : (P 0).length ≤ 5 := hs.1.1.1
    have hl1 : (P 1).length ≤ 6 := hs.1.2.1.1
    have hl2 : (P 2).length ≤ 6 := hs.1.2.2.1.1
    have hl3 : (S.2 3).length ≤ 30 := hs.2.1.2.2.2.1.1
    have hl4 : (S.2 4).length ≤ 30 := hs.2.1.2.2.2.2.1
    refine bg_iload4 rfl ?_
    refine bg_iconst rfl ?_
    refine bg_icmp_gt rfl (fun e117 => absurd e117 (nI_nlt (a := 3) (by omega) (by omega))) (fun e117 => ?_)
    refine bg_lload1 rfl ?_
    refine bg_ldc2 rfl rfl ?_
    refine bg_lmul rfl ?_
    refine bg_aload0 rfl ?_
    refine bg_iload3 rfl ?_
    refine bg_iload4 rfl ?_
    refine bg_virt2 rfl rfl rfl rfl ⟨_, hY⟩ ?_
    refine mo_beaterTold (k := i) h0 hm0 hb (by omega) hM (fun h4 hM2 gx => bk_Ki ?_)
    refine bg_i2l rfl ?_
    refine bg_ladd rfl ?_
    rw [dg_lm]
    refine bg_lstore1 rfl rfl ?_
    refine bg_iinc4 rfl rfl ?_
    rw [nI_1]
    refine bg_goto rfl ?_
    exact ih (i + 1) _ _ _ _ hM2 (by omega) (by omega) (by show cs.1 + 0 + c * 0 ≤ B.1; omega) (by show cs.2 + 0 + c * 0 ≤ B.2; omega) (fun h' n' cs' q1 q2 q3 q4 q5 => hQ h' n' cs' q1 (by omega) (gx.trans q3 (by omega)) (Nat.le_trans q4 (by show cs.1 + 0 + c * 0 ≤ cs.1 + (c + 1) * 0; omega)) (Nat.le_trans q5 (by show cs.2 + 0 + c * 0 ≤ cs.2 + (c + 1) * 0; omega)))

theorem mg_spir {b : Nat} (hb : b < (P 2).length) : ∀ (c i : Nat) (dd : Int64) (h : bk_H) (n : Nat) (cs : Nat × Nat), MD h y u v T P S J K C → (y + 51 ≤ n ∧ u + 16 ≤ n) → i + c = 5 → cs.1 + c * 1 ≤ B.1 → cs.2 + c * 5 ≤ B.2 → (∀ (h' : bk_H) (n' : Nat) (cs' : Nat × Nat), MD h' y u v T P S J K C → n ≤ n' → fm h h' y n → cs'.1 ≤ cs.1 + c * 1 → cs'.2 ≤ cs.2 + c * 5 → ∀ (x4 : Option Value), bk_g V (d + 9) 225 B Q 190 [some (.ref y), some (.long (dgI (spV P S (nI b)) c i dd)), none, some (.int (nI b)), x4] [] h' n' cs') → bk_g V (d + 9) 225 B Q 163 [some (.ref y), some (.long dd), none, some (.int (nI b)), some (.int (nI i))] [] h n cs := by
  intro c
  induction c with
  | zero =>
    intro i dd h n cs hM hn hi hb1 hb2 hQ
    refine bg_iload4 rfl ?_
    refine bg_iconst rfl ?_
    refine bg_icmp_gt rfl (fun e166 => ?_) (fun e166 => absurd (nI_lt (a := 4) (by omega) (by omega)) e166)
    exact hQ h n cs hM (Nat.le_refl n) fm.refl (Nat.le_add_right _ _) (Nat.le_add_right _ _) _
  | succ c ih =>
    intro i dd h n cs hM hn hi hb1 hb2 hQ
    obtain ⟨hTp, har, hah, ⟨I, A, hR, hr, hP, hY, hp, hs, hv, hd1, hd2, hbs⟩, hJ1, hT2, hu⟩ := id hM
    have hl0 : (P 0).length ≤ 5 := hs.1.1.1
    have hl1 : (P 1).length ≤ 6 := hs.1.2.1.1
    have hl2 : (P 2).length ≤ 6 := hs.1.2.2.1.1
    have hl3 : (S.2 3).length ≤ 30 := hs.2.1.2.2.2.1.1
    have hl4 : (S.2 4).length ≤ 30 := hs.2.1.2.2.2.2.1
    refine bg_iload4 rfl ?_
    refine bg_iconst rfl ?_
    refine bg_icmp_gt rfl (fun e166 => absurd e166 (nI_nlt (a := 4) (by omega) (by omega))) (fun e166 => ?_)
    refine bg_lload1 rfl ?_
    refine bg_ldc2 rfl rfl ?_
    refine bg_lmul rfl ?_
    refine bg_aload0 rfl ?_
    refine bg_iload3 rfl ?_
    refine bg_iload4 rfl ?_
    refine bg_virt2B (b := (1, 5)) rfl rfl rfl rfl ⟨_, hY⟩ (by show cs.1 + 1 ≤ B.1; omega) (by show cs.2 + 5 ≤ B.2; omega) ?_
    refine mo_spiritTold (k := i) hb (by omega) hM hn (Nat.le_refl 1) (Nat.le_refl 5) (fun hA4 gA => bk_Ki ?_)
    have hM2 := hM.kp (fun q hq => gA q (by omega))
    have gx := fm.new (y := y) gA
    refine bg_i2l rfl ?_
    refine bg_ladd rfl ?_
    rw [dg_lm]
    refine bg_lstore1 rfl rfl ?_
    refine bg_iinc4 rfl rfl ?_
    rw [nI_1]
    refine bg_goto rfl ?_
    exact ih (i + 1) _ _ _ _ hM2 (by omega) (by omega) (by show cs.1 + 1 + c * 1 ≤ B.1; omega) (by show cs.2 + 5 + c * 5 ≤ B.2; omega) (fun h' n' cs' q1 q2 q3 q4 q5 => hQ h' n' cs' q1 (by omega) (gx.trans q3 (by omega)) (Nat.le_trans q4 (by show cs.1 + 1 + c * 1 ≤ cs.1 + (c + 1) * 1; omega)) (Nat.le_trans q5 (by show cs.2 + 5 + c * 5 ≤ cs.2 + (c + 1) * 5; omega)))

theorem mg_shee {b : Nat} (hb : b < (S.2 3).length) : ∀ (c i : Nat) (dd : Int64) (h : bk_H) (n : Nat) (cs : Nat × Nat), MD h y u v T P S J K C → (y + 51 ≤ n ∧ u + 16 ≤ n) → i + c = 4 → cs.1 + c * 0 ≤ B.1 → cs.2 + c * 0 ≤ B.2 → (∀ (h' : bk_H) (n' : Nat) (cs' : Nat × Nat), MD h' y u v T P S J K C → n ≤ n' → fm h h' y n → cs'.1 ≤ cs.1 + c * 0 → cs'.2 ≤ cs.2 + c * 0 → ∀ (x4 : Option Value), bk_g V (d + 9) 225 B Q 239 [some (.ref y), some (.long (dgI (shV S (nI b)) c i dd)), none, some (.int (nI b)), x4] [] h' n' cs') → bk_g V (d + 9) 225 B Q 212 [some (.ref y), some (.long dd), none, some (.int (nI b)), some (.int (nI i))] [] h n cs := by
  intro c
  induction c with
  | zero =>
    intro i dd h n cs hM hn hi hb1 hb2 hQ
    refine bg_iload4 rfl ?_
    refine bg_iconst rfl ?_
    refine bg_icmp_gt rfl (fun e215 => ?_) (fun e215 => absurd (nI_lt (a := 3) (by omega) (by omega)) e215)
    exact hQ h n cs hM (Nat.le_refl n) fm.refl (Nat.le_add_right _ _) (Nat.le_add_right _ _) _
  | succ c ih =>
    intro i dd h n cs hM hn hi hb1 hb2 hQ
    obtain ⟨hTp, har, hah, ⟨I, A, hR, hr, hP, hY, hp, hs, hv, hd1, hd2, hbs⟩, hJ1, hT2, hu⟩ := id hM
    have hl0 : (P 0).length ≤ 5 := hs.1.1.1
    have hl1 : (P 1).length ≤ 6 := hs.1.2.1.1
    have hl2 : (P 2).length ≤ 6 := hs.1.2.2.1.1
    have hl3 : (S.2 3).length ≤ 30 := hs.2.1.2.2.2.1.1
    have hl4 : (S.2 4).length ≤ 30 := hs.2.1.2.2.2.2.1
    refine bg_iload4 rfl ?_
    refine bg_iconst rfl ?_
    refine bg_icmp_gt rfl (fun e215 => absurd e215 (nI_nlt (a := 3) (by omega) (by omega))) (fun e215 => ?_)
    refine bg_lload1 rfl ?_
    refine bg_ldc2 rfl rfl ?_
    refine bg_lmul rfl ?_
    refine bg_aload0 rfl ?_
    refine bg_iload3 rfl ?_
    refine bg_iload4 rfl ?_
    refine bg_virt2 rfl rfl rfl rfl ⟨_, hY⟩ ?_
    refine mo_sheetTold (k := i) hb (by omega) hM (bk_Ki ?_)
    have hM2 := hM
    have gx : fm h h y n := fm.refl
    refine bg_i2l rfl ?_
    refine bg_ladd rfl ?_
    rw [dg_lm]
    refine bg_lstore1 rfl rfl ?_
    refine bg_iinc4 rfl rfl ?_
    rw [nI_1]
    refine bg_goto rfl ?_
    exact ih (i + 1) _ _ _ _ hM2 (by omega) (by omega) (by show cs.1 + 0 + c * 0 ≤ B.1; omega) (by show cs.2 + 0 + c * 0 ≤ B.2; omega) (fun h' n' cs' q1 q2 q3 q4 q5 => hQ h' n' cs' q1 (by omega) (gx.trans q3 (by omega)) (Nat.le_trans q4 (by show cs.1 + 0 + c * 0 ≤ cs.1 + (c + 1) * 0; omega)) (Nat.le_trans q5 (by show cs.2 + 0 + c * 0 ≤ cs.2 + (c + 1) * 0; omega)))

theorem mg_figu {b : Nat} (hb : b < (S.2 4).length) : ∀ (c i : Nat) (dd : Int64) (h : bk_H) (n : Nat) (cs : Nat × Nat), MD h y u v T P S J K C → (y + 51 ≤ n ∧ u + 16 ≤ n) → i + c = 3 → cs.1 + c * 0 ≤ B.1 → cs.2 + c * 0 ≤ B.2 → (∀ (h' : bk_H) (n' : Nat) (cs' : Nat × Nat), MD h' y u v T P S J K C → n ≤ n' → fm h h' y n → cs'.1 ≤ cs.1 + c * 0 → cs'.2 ≤ cs.2 + c * 0 → ∀ (x4 : Option Value), bk_g V (d + 9) 225 B Q 288 [some (.ref y), some (.long (dgI (fiV P S (nI b)) c i dd)), none, some (.int (nI b)), x4] [] h' n' cs') → bk_g V (d + 9) 225 B Q 261 [some (.ref y), some (.long dd), none, some (.int (nI b)), some (.int (nI i))] [] h n cs := by
  intro c
  induction c with
  | zero =>
    intro i dd h n cs hM hn hi hb1 hb2 hQ
    refine bg_iload4 rfl ?_
    refine bg_iconst rfl ?_
    refine bg_icmp_gt rfl (fun e264 => ?_) (fun e264 => absurd (nI_lt (a := 2) (by omega) (by omega)) e264)
    exact hQ h n cs hM (Nat.le_refl n) fm.refl (Nat.le_add_right _ _) (Nat.le_add_right _ _) _
  | succ c ih =>
    intro i dd h n cs hM hn hi hb1 hb2 hQ
    obtain ⟨hTp, har, hah, ⟨I, A, hR, hr, hP, hY, hp, hs, hv, hd1, hd2, hbs⟩, hJ1, hT2, hu⟩ := id hM
    have hl0 : (P 0).length ≤ 5 := hs.1.1.1
    have hl1 : (P 1).length ≤ 6 := hs.1.2.1.1
    have hl2 : (P 2).length ≤ 6 := hs.1.2.2.1.1
    have hl3 : (S.2 3).length ≤ 30 := hs.2.1.2.2.2.1.1
    have hl4 : (S.2 4).length ≤ 30 := hs.2.1.2.2.2.2.1
    refine bg_iload4 rfl ?_
    refine bg_iconst rfl ?_
    refine bg_icmp_gt rfl (fun e264 => absurd e264 (nI_nlt (a := 2) (by omega) (by omega))) (fun e264 => ?_)
    refine bg_lload1 rfl ?_
    refine bg_ldc2 rfl rfl ?_
    refine bg_lmul rfl ?_
    refine bg_aload0 rfl ?_
    refine bg_iload3 rfl ?_
    refine bg_iload4 rfl ?_
    refine bg_virt2 rfl rfl rfl rfl ⟨_, hY⟩ ?_
    refine mo_figureTold (k := i) hb (by omega) hM (bk_Ki ?_)
    have hM2 := hM
    have gx : fm h h y n := fm.refl
    refine bg_i2l rfl ?_
    refine bg_ladd rfl ?_
    rw [dg_lm]
    refine bg_lstore1 rfl rfl ?_
    refine bg_iinc4 rfl rfl ?_
    rw [nI_1]
    refine bg_goto rfl ?_
    exact ih (i + 1) _ _ _ _ hM2 (by omega) (by omega) (by show cs.1 + 0 + c * 0 ≤ B.1; omega) (by show cs.2 + 0 + c * 0 ≤ B.2; omega) (fun h' n' cs' q1 q2 q3 q4 q5 => hQ h' n' cs' q1 (by omega) (gx.trans q3 (by omega)) (Nat.le_trans q4 (by show cs.1 + 0 + c * 0 ≤ cs.1 + (c + 1) * 0; omega)) (Nat.le_trans q5 (by show cs.2 + 0 + c * 0 ≤ cs.2 + (c + 1) * 0; omega)))

theorem mg_obark : ∀ (c i : Nat) (dd : Int64) (h : bk_H) (n : Nat) (cs : Nat × Nat) (x4 : Option Value), MD h y u v T P S J K C → (y + 51 ≤ n ∧ u + 16 ≤ n) → i + c = (P 0).length → cs.1 + c * 5 ≤ B.1 → cs.2 + c * 25 ≤ B.2 → (∀ (h' : bk_H) (n' : Nat) (cs' : Nat × Nat), MD h' y u v T P S J K C → n ≤ n' → fm h h' y n → cs'.1 ≤ cs.1 + c * 5 → cs'.2 ≤ cs.2 + c * 25 → ∀ (x3 x4 : Option Value), bk_g V (d + 9) 225 B Q 98 [some (.ref y), some (.long (dgO (fun i d => dx (dgI (bkV P S (nI i)) 5 0 d) (fcF P S (bsF P S (P 1).length) (nI i))) c i dd)), none, x3, x4] [] h' n' cs') → bk_g V (d + 9) 225 B Q 38 [some (.ref y), some (.long dd), none, some (.int (nI i)), x4] [] h n cs := by
  intro c
  induction c with
  | zero =>
    intro i dd h n cs x4 hM hn hi hb1 hb2 hQ
    obtain ⟨hTp, har, hah, ⟨I, A, hR, hr, hP, hY, hp, hs, hv, hd1, hd2, hbs⟩, hJ1, hT2, hu⟩ := id hM
    have hl0 : (P 0).length ≤ 5 := hs.1.1.1
    have hl1 : (P 1).length ≤ 6 := hs.1.2.1.1
    have hl2 : (P 2).length ≤ 6 := hs.1.2.2.1.1
    have hl3 : (S.2 3).length ≤ 30 := hs.2.1.2.2.2.1.1
    have hl4 : (S.2 4).length ≤ 30 := hs.2.1.2.2.2.2.1
    have hB := (hp.1 0 (by decide) : K 0 = nI (P 0).length)
    refine bg_iload3 rfl ?_
    refine bg_aload0 rfl ?_
    refine bg_getfield rfl rfl hY (by rfl) ?_
    refine bg_getfield rfl rfl hP.1 (by rfl) ?_
    refine bg_icmp_ge rfl (fun e46 => ?_) (fun e46 => absurd e46 (by rw [hB]; exact nI_nlt (by omega) (by omega)))
    exact hQ h n cs hM (Nat.le_refl n) fm.refl (Nat.le_add_right _ _) (Nat.le_add_right _ _) _ _
  | succ c ih =>
    intro i dd h n cs x4 hM hn hi hb1 hb2 hQ
    obtain ⟨hTp, har, hah, ⟨I, A, hR, hr, hP, hY, hp, hs, hv, hd1, hd2, hbs⟩, hJ1, hT2, hu⟩ := id hM
    have hl0 : (P 0).length ≤ 5 := hs.1.1.1
    have hl1 : (P 1).length ≤ 6 := hs.1.2.1.1
    have hl2 : (P 2).length ≤ 6 := hs.1.2.2.1.1
    have hl3 : (S.2 3).length ≤ 30 := hs.2.1.2.2.2.1.1
    have hl4 : (S.2 4).length ≤ 30 := hs.2.1.2.2.2.2.1
    have hB := (hp.1 0 (by decide) : K 0 = nI (P 0).length)
    refine bg_iload3 rfl ?_
    refine bg_aload0 rfl ?_
    refine bg_getfield rfl rfl hY (by rfl) ?_
    refine bg_getfield rfl rfl hP.1 (by rfl) ?_
    refine bg_icmp_ge rfl (fun e46 => absurd (by rw [hB]; exact nI_lt (by omega) (by omega)) e46) (fun e46 => ?_)
    refine bg_iconst rfl ?_
    refine bg_istore4 rfl rfl ?_
    refine mg_bark (by omega) 5 0 _ h n cs hM hn (Nat.zero_add _) (by omega) (by omega) (fun hA n1 cs1 hMA hn1 gA c1 c2 x4 => ?_)
    obtain ⟨hTp, har, hah, ⟨I, A, hR, hr, hP, hY, hp, hs, hv, hd1, hd2, hbs⟩, hJ1, hT2, hu⟩ := id hMA
    refine bg_lload1 rfl ?_
    refine bg_ldc2 rfl rfl ?_
    refine bg_lmul rfl ?_
    refine bg_aload0 rfl ?_
    refine bg_iload3 rfl ?_
    refine bg_virt1 rfl rfl rfl rfl ⟨_, hY⟩ ?_
    refine mo_forceOn hMA (fun hB2 hM2 gB => bk_Ki ?_)
    have gx := gA.trans gB (by omega)
    refine bg_i2l rfl ?_
    refine bg_ladd rfl ?_
    rw [dg_lm]
    refine bg_lstore1 rfl rfl ?_
    refine bg_iinc3 rfl rfl ?_
    rw [nI_1]
    refine bg_goto rfl ?_
    exact ih (i + 1) _ _ _ _ _ hM2 (by omega) (by omega) (by show cs1.1 + c * 5 ≤ B.1; omega) (by show cs1.2 + c * 25 ≤ B.2; omega) (fun h' n' cs' q1 q2 q3 q4 q5 => hQ h' n' cs' q1 (by omega) (gx.trans q3 (by omega)) (Nat.le_trans q4 (by show cs1.1 + c * 5 ≤ cs.1 + (c + 1) * 5; omega)) (Nat.le_trans q5 (by show cs1.2 + c * 25 ≤ cs.2 + (c + 1) * 25; omega)))

theorem mg_obeat {m : Nat} (h0 : S.1 0 = nI m) (hm0 : m < 2 ^ 31) : ∀ (c i : Nat) (dd : Int64) (h : bk_H) (n : Nat) (cs : Nat × Nat) (x4 : Option Value), MD h y u v T P S J K C → (y + 51 ≤ n ∧ u + 16 ≤ n) → i + c = (P 1).length → cs.1 + c * 0 ≤ B.1 → cs.2 + c * 0 ≤ B.2 → (∀ (h' : bk_H) (n' : Nat) (cs' : Nat × Nat), MD h' y u v T P S J K C → n ≤ n' → fm h h' y n → cs'.1 ≤ cs.1 + c * 0 → cs'.2 ≤ cs.2 + c * 0 → ∀ (x3 x4 : Option Value), bk_g V (d + 9) 225 B Q 147 [some (.ref y), some (.long (dgO (fun i d => dgI (beV P S (nI i)) 4 0 d) c i dd)), none, x3, x4] [] h' n' cs') → bk_g V (d + 9) 225 B Q 100 [some (.ref y), some (.long dd), none, some (.int (nI i)), x4] [] h n cs := by
  intro c
  induction c with
  | zero =>
    intro i dd h n cs x4 hM hn hi hb1 hb2 hQ
    obtain ⟨hTp, har, hah, ⟨I, A, hR, hr, hP, hY, hp, hs, hv, hd1, hd2, hbs⟩, hJ1, hT2, hu⟩ := id hM
    have hl0 : (P 0).length ≤ 5 := hs.1.1.1
    have hl1 : (P 1).length ≤ 6 := hs.1.2.1.1
    have hl2 : (P 2).length ≤ 6 := hs.1.2.2.1.1
    have hl3 : (S.2 3).length ≤ 30 := hs.2.1.2.2.2.1.1
    have hl4 : (S.2 4).length ≤ 30 := hs.2.1.2.2.2.2.1
    have hB := (hp.1 1 (by decide) : K 1 = nI (P 1).length)
    refine bg_iload3 rfl ?_
    refine bg_aload0 rfl ?_
    refine bg_getfield rfl rfl hY (by rfl) ?_
    refine bg_getfield rfl rfl hP.1 (by rfl) ?_
    refine bg_icmp_ge rfl (fun e108 => ?_) (fun e108 => absurd e108 (by rw [hB]; exact nI_nlt (by omega) (by omega)))
    exact hQ h n cs hM (Nat.le_refl n) fm.refl (Nat.le_add_right _ _) (Nat.le_add_right _ _) _ _
  | succ c ih =>
    intro i dd h n cs x4 hM hn hi hb1 hb2 hQ
    obtain ⟨hTp, har, hah, ⟨I, A, hR, hr, hP, hY, hp, hs, hv, hd1, hd2, hbs⟩, hJ1, hT2, hu⟩ := id hM
    have hl0 : (P 0).length ≤ 5 := hs.1.1.1
    have hl1 : (P 1).length ≤ 6 := hs.1.2.1.1
    have hl2 : (P 2).length ≤ 6 := hs.1.2.2.1.1
    have hl3 : (S.2 3).length ≤ 30 := hs.2.1.2.2.2.1.1
    have hl4 : (S.2 4).length ≤ 30 := hs.2.1.2.2.2.2.1
    have hB := (hp.1 1 (by decide) : K 1 = nI (P 1).length)
    refine bg_iload3 rfl ?_
    refine bg_aload0 rfl ?_
    refine bg_getfield rfl rfl hY (by rfl) ?_
    refine bg_getfield rfl rfl hP.1 (by rfl) ?_
    refine bg_icmp_ge rfl (fun e108 => absurd (by rw [hB]; exact nI_lt (by omega) (by omega)) e108) (fun e108 => ?_)
    refine bg_iconst rfl ?_
    refine bg_istore4 rfl rfl ?_
    refine mg_beat h0 hm0 (by omega) 4 0 _ h n cs hM hn (Nat.zero_add _) (by omega) (by omega) (fun hA n1 cs1 hMA hn1 gA c1 c2 x4 => ?_)
    have hM2 := hMA
    have gx := gA
    refine bg_iinc3 rfl rfl ?_
    rw [nI_1]
    refine bg_goto rfl ?_
    exact ih (i + 1) _ _ _ _ _ hM2 (by omega) (by omega) (by show cs1.1 + c * 0 ≤ B.1; omega) (by show cs1.2 + c * 0 ≤ B.2; omega) (fun h' n' cs' q1 q2 q3 q4 q5 => hQ h' n' cs' q1 (by omega) (gx.trans q3 (by omega)) (Nat.le_trans q4 (by show cs1.1 + c * 0 ≤ cs.1 + (c + 1) * 0; omega)) (Nat.le_trans q5 (by show cs1.2 + c * 0 ≤ cs.2 + (c + 1) * 0; omega)))

theorem mg_ospir : ∀ (c i : Nat) (dd : Int64) (h : bk_H) (n : Nat) (cs : Nat × Nat) (x4 : Option Value), MD h y u v T P S J K C → (y + 51 ≤ n ∧ u + 16 ≤ n) → i + c = (P 2).length → cs.1 + c * 5 ≤ B.1 → cs.2 + c * 25 ≤ B.2 → (∀ (h' : bk_H) (n' : Nat) (cs' : Nat × Nat), MD h' y u v T P S J K C → n ≤ n' → fm h h' y n → cs'.1 ≤ cs.1 + c * 5 → cs'.2 ≤ cs.2 + c * 25 → ∀ (x3 x4 : Option Value), bk_g V (d + 9) 225 B Q 196 [some (.ref y), some (.long (dgO (fun i d => dgI (spV P S (nI i)) 5 0 d) c i dd)), none, x3, x4] [] h' n' cs') → bk_g V (d + 9) 225 B Q 149 [some (.ref y), some (.long dd), none, some (.int (nI i)), x4] [] h n cs := by
  intro c
  induction c with
  | zero =>
    intro i dd h n cs x4 hM hn hi hb1 hb2 hQ
    obtain ⟨hTp, har, hah, ⟨I, A, hR, hr, hP, hY, hp, hs, hv, hd1, hd2, hbs⟩, hJ1, hT2, hu⟩ := id hM
    have hl0 : (P 0).length ≤ 5 := hs.1.1.1
    have hl1 : (P 1).length ≤ 6 := hs.1.2.1.1
    have hl2 : (P 2).length ≤ 6 := hs.1.2.2.1.1
    have hl3 : (S.2 3).length ≤ 30 := hs.2.1.2.2.2.1.1
    have hl4 : (S.2 4).length ≤ 30 := hs.2.1.2.2.2.2.1
    have hB := (hp.1 2 (by decide) : K 2 = nI (P 2).length)
    refine bg_iload3 rfl ?_
    refine bg_aload0 rfl ?_
    refine bg_getfield rfl rfl hY (by rfl) ?_
    refine bg_getfield rfl rfl hP.1 (by rfl) ?_
    refine bg_icmp_ge rfl (fun e157 => ?_) (fun e157 => absurd e157 (by rw [hB]; exact nI_nlt (by omega) (by omega)))
    exact hQ h n cs hM (Nat.le_refl n) fm.refl (Nat.le_add_right _ _) (Nat.le_add_right _ _) _ _
  | succ c ih =>
    intro i dd h n cs x4 hM hn hi hb1 hb2 hQ
    obtain ⟨hTp, har, hah, ⟨I, A, hR, hr, hP, hY, hp, hs, hv, hd1, hd2, hbs⟩, hJ1, hT2, hu⟩ := id hM
    have hl0 : (P 0).length ≤ 5 := hs.1.1.1
    have hl1 : (P 1).length ≤ 6 := hs.1.2.1.1
    have hl2 : (P 2).length ≤ 6 := hs.1.2.2.1.1
    have hl3 : (S.2 3).length ≤ 30 := hs.2.1.2.2.2.1.1
    have hl4 : (S.2 4).length ≤ 30 := hs.2.1.2.2.2.2.1
    have hB := (hp.1 2 (by decide) : K 2 = nI (P 2).length)
    refine bg_iload3 rfl ?_
    refine bg_aload0 rfl ?_
    refine bg_getfield rfl rfl hY (by rfl) ?_
    refine bg_getfield rfl rfl hP.1 (by rfl) ?_
    refine bg_icmp_ge rfl (fun e157 => absurd (by rw [hB]; exact nI_lt (by omega) (by omega)) e157) (fun e157 => ?_)
    refine bg_iconst rfl ?_
    refine bg_istore4 rfl rfl ?_
    refine mg_spir (by omega) 5 0 _ h n cs hM hn (Nat.zero_add _) (by omega) (by omega) (fun hA n1 cs1 hMA hn1 gA c1 c2 x4 => ?_)
    have hM2 := hMA
    have gx := gA
    refine bg_iinc3 rfl rfl ?_
    rw [nI_1]
    refine bg_goto rfl ?_
    exact ih (i + 1) _ _ _ _ _ hM2 (by omega) (by omega) (by show cs1.1 + c * 5 ≤ B.1; omega) (by show cs1.2 + c * 25 ≤ B.2; omega) (fun h' n' cs' q1 q2 q3 q4 q5 => hQ h' n' cs' q1 (by omega) (gx.trans q3 (by omega)) (Nat.le_trans q4 (by show cs1.1 + c * 5 ≤ cs.1 + (c + 1) * 5; omega)) (Nat.le_trans q5 (by show cs1.2 + c * 25 ≤ cs.2 + (c + 1) * 25; omega)))

theorem mg_oshee : ∀ (c i : Nat) (dd : Int64) (h : bk_H) (n : Nat) (cs : Nat × Nat) (x4 : Option Value), MD h y u v T P S J K C → (y + 51 ≤ n ∧ u + 16 ≤ n) → i + c = (S.2 3).length → cs.1 + c * 0 ≤ B.1 → cs.2 + c * 0 ≤ B.2 → (∀ (h' : bk_H) (n' : Nat) (cs' : Nat × Nat), MD h' y u v T P S J K C → n ≤ n' → fm h h' y n → cs'.1 ≤ cs.1 + c * 0 → cs'.2 ≤ cs.2 + c * 0 → ∀ (x3 x4 : Option Value), bk_g V (d + 9) 225 B Q 245 [some (.ref y), some (.long (dgO (fun i d => dgI (shV S (nI i)) 4 0 d) c i dd)), none, x3, x4] [] h' n' cs') → bk_g V (d + 9) 225 B Q 198 [some (.ref y), some (.long dd), none, some (.int (nI i)), x4] [] h n cs := by
  intro c
  induction c with
  | zero =>
    intro i dd h n cs x4 hM hn hi hb1 hb2 hQ
    obtain ⟨hTp, har, hah, ⟨I, A, hR, hr, hP, hY, hp, hs, hv, hd1, hd2, hbs⟩, hJ1, hT2, hu⟩ := id hM
    have hl0 : (P 0).length ≤ 5 := hs.1.1.1
    have hl1 : (P 1).length ≤ 6 := hs.1.2.1.1
    have hl2 : (P 2).length ≤ 6 := hs.1.2.2.1.1
    have hl3 : (S.2 3).length ≤ 30 := hs.2.1.2.2.2.1.1
    have hl4 : (S.2 4).length ≤ 30 := hs.2.1.2.2.2.2.1
    have hB := hr.1.2.1
    refine bg_iload3 rfl ?_
    refine bg_aload0 rfl ?_
    refine bg_getfield rfl rfl hY (by rfl) ?_
    refine bg_getfield rfl rfl hR.1 (by rfl) ?_
    refine bg_icmp_ge rfl (fun e206 => ?_) (fun e206 => absurd e206 (by rw [hB]; exact nI_nlt (by omega) (by omega)))
    exact hQ h n cs hM (Nat.le_refl n) fm.refl (Nat.le_add_right _ _) (Nat.le_add_right _ _) _ _
  | succ c ih =>
    intro i dd h n cs x4 hM hn hi hb1 hb2 hQ
    obtain ⟨hTp, har, hah, ⟨I, A, hR, hr, hP, hY, hp, hs, hv, hd1, hd2, hbs⟩, hJ1, hT2, hu⟩ := id hM
    have hl0 : (P 0).length ≤ 5 := hs.1.1.1
    have hl1 : (P 1).length ≤ 6 := hs.1.2.1.1
    have hl2 : (P 2).length ≤ 6 := hs.1.2.2.1.1
    have hl3 : (S.2 3).length ≤ 30 := hs.2.1.2.2.2.1.1
    have hl4 : (S.2 4).length ≤ 30 := hs.2.1.2.2.2.2.1
    have hB := hr.1.2.1
    refine bg_iload3 rfl ?_
    refine bg_aload0 rfl ?_
    refine bg_getfield rfl rfl hY (by rfl) ?_
    refine bg_getfield rfl rfl hR.1 (by rfl) ?_
    refine bg_icmp_ge rfl (fun e206 => absurd (by rw [hB]; exact nI_lt (by omega) (by omega)) e206) (fun e206 => ?_)
    refine bg_iconst rfl ?_
    refine bg_istore4 rfl rfl ?_
    refine mg_shee (by omega) 4 0 _ h n cs hM hn (Nat.zero_add _) (by omega) (by omega) (fun hA n1 cs1 hMA hn1 gA c1 c2 x4 => ?_)
    have hM2 := hMA
    have gx := gA
    refine bg_iinc3 rfl rfl ?_
    rw [nI_1]
    refine bg_goto rfl ?_
    exact ih (i + 1) _ _ _ _ _ hM2 (by omega) (by omega) (by show cs1.1 + c * 0 ≤ B.1; omega) (by show cs1.2 + c * 0 ≤ B.2; omega) (fun h' n' cs' q1 q2 q3 q4 q5 => hQ h' n' cs' q1 (by omega) (gx.trans q3 (by omega)) (Nat.le_trans q4 (by show cs1.1 + c * 0 ≤ cs.1 + (c + 1) * 0; omega)) (Nat.le_trans q5 (by show cs1.2 + c * 0 ≤ cs.2 + (c + 1) * 0; omega)))

theorem mg_ofigu : ∀ (c i : Nat) (dd : Int64) (h : bk_H) (n : Nat) (cs : Nat × Nat) (x4 : Option Value), MD h y u v T P S J K C → (y + 51 ≤ n ∧ u + 16 ≤ n) → i + c = (S.2 4).length → cs.1 + c * 0 ≤ B.1 → cs.2 + c * 0 ≤ B.2 → (∀ (h' : bk_H) (n' : Nat) (cs' : Nat × Nat), MD h' y u v T P S J K C → n ≤ n' → fm h h' y n → cs'.1 ≤ cs.1 + c * 0 → cs'.2 ≤ cs.2 + c * 0 → ∀ (x3 x4 : Option Value), bk_g V (d + 9) 225 B Q 294 [some (.ref y), some (.long (dgO (fun i d => dgI (fiV P S (nI i)) 3 0 d) c i dd)), none, x3, x4] [] h' n' cs') → bk_g V (d + 9) 225 B Q 247 [some (.ref y), some (.long dd), none, some (.int (nI i)), x4] [] h n cs := by
  intro c
  induction c with
  | zero =>
    intro i dd h n cs x4 hM hn hi hb1 hb2 hQ
    obtain ⟨hTp, har, hah, ⟨I, A, hR, hr, hP, hY, hp, hs, hv, hd1, hd2, hbs⟩, hJ1, hT2, hu⟩ := id hM
    have hl0 : (P 0).length ≤ 5 := hs.1.1.1
    have hl1 : (P 1).length ≤ 6 := hs.1.2.1.1
    have hl2 : (P 2).length ≤ 6 := hs.1.2.2.1.1
    have hl3 : (S.2 3).length ≤ 30 := hs.2.1.2.2.2.1.1
    have hl4 : (S.2 4).length ≤ 30 := hs.2.1.2.2.2.2.1
    have hB := hr.1.2.2.1
    refine bg_iload3 rfl ?_
    refine bg_aload0 rfl ?_
    refine bg_getfield rfl rfl hY (by rfl) ?_
    refine bg_getfield rfl rfl hR.1 (by rfl) ?_
    refine bg_icmp_ge rfl (fun e255 => ?_) (fun e255 => absurd e255 (by rw [hB]; exact nI_nlt (by omega) (by omega)))
    exact hQ h n cs hM (Nat.le_refl n) fm.refl (Nat.le_add_right _ _) (Nat.le_add_right _ _) _ _
  | succ c ih =>
    intro i dd h n cs x4 hM hn hi hb1 hb2 hQ
    obtain ⟨hTp, har, hah, ⟨I, A, hR, hr, hP, hY, hp, hs, hv, hd1, hd2, hbs⟩, hJ1, hT2, hu⟩ := id hM
    have hl0 : (P 0).length ≤ 5 := hs.1.1.1
    have hl1 : (P 1).length ≤ 6 := hs.1.2.1.1
    have hl2 : (P 2).length ≤ 6 := hs.1.2.2.1.1
    have hl3 : (S.2 3).length ≤ 30 := hs.2.1.2.2.2.1.1
    have hl4 : (S.2 4).length ≤ 30 := hs.2.1.2.2.2.2.1
    have hB := hr.1.2.2.1
    refine bg_iload3 rfl ?_
    refine bg_aload0 rfl ?_
    refine bg_getfield rfl rfl hY (by rfl) ?_
    refine bg_getfield rfl rfl hR.1 (by rfl) ?_
    refine bg_icmp_ge rfl (fun e255 => absurd (by rw [hB]; exact nI_lt (by omega) (by omega)) e255) (fun e255 => ?_)
    refine bg_iconst rfl ?_
    refine bg_istore4 rfl rfl ?_
    refine mg_figu (by omega) 3 0 _ h n cs hM hn (Nat.zero_add _) (by omega) (by omega) (fun hA n1 cs1 hMA hn1 gA c1 c2 x4 => ?_)
    have hM2 := hMA
    have gx := gA
    refine bg_iinc3 rfl rfl ?_
    rw [nI_1]
    refine bg_goto rfl ?_
    exact ih (i + 1) _ _ _ _ _ hM2 (by omega) (by omega) (by show cs1.1 + c * 0 ≤ B.1; omega) (by show cs1.2 + c * 0 ≤ B.2; omega) (fun h' n' cs' q1 q2 q3 q4 q5 => hQ h' n' cs' q1 (by omega) (gx.trans q3 (by omega)) (Nat.le_trans q4 (by show cs1.1 + c * 0 ≤ cs.1 + (c + 1) * 0; omega)) (Nat.le_trans q5 (by show cs1.2 + c * 0 ≤ cs.2 + (c + 1) * 0; omega)))

theorem mo_digest {m : Nat} (hsd : sdL (S.2 2) 6 0 0 = S.1 6) (h0 : S.1 0 = nI m) (hm0 : m < 2 ^ 31) (hM : MD h y u v T P S J K C) (hn : y + 51 ≤ n ∧ u + 16 ≤ n) (hB1 : 70 ≤ B.1) (hB2 : 500 ≤ B.2) (hQ : ∀ (h' : bk_H) (n' : Nat) (J' : rI), MD h' y u v T P S J' K C → J' 0 = 0 → J' 2 = J 2 → n ≤ n' → fm h h' y n → Q (.inl (some (.long (dgF T P S)))) h' n') : bk_wp V (d + 10) 225 [.ref y] h n B Q := by
  obtain ⟨hTp, har, hah, ⟨I, A, hR, hr, hP, hY, hp, hs, hv, hd1, hd2, hbs⟩, hJ1, hT2, hu⟩ := id hM
  have hl0 : (P 0).length ≤ 5 := hs.1.1.1
  have hl1 : (P 1).length ≤ 6 := hs.1.2.1.1
  have hl2 : (P 2).length ≤ 6 := hs.1.2.2.1.1
  have hl3 : (S.2 3).length ≤ 30 := hs.2.1.2.2.2.1.1
  have hl4 : (S.2 4).length ≤ 30 := hs.2.1.2.2.2.2.1
  refine bg_in rfl rfl ?_
  refine bg_aload0 rfl ?_
  refine bg_iconst rfl ?_
  refine bg_putfield rfl rfl hY (by rfl) ⟨rfl, rfl⟩ (by rfl) (fun h2 f2 g2 => ?_)
  have hM1 := hM.j (J' := upd J 0 0) f2 g2 rfl
  have hm : fm h h2 y n := fun q _ q2 => g2 q (by omega)
  obtain ⟨hTp, har, hah, ⟨I, A, hR, hr, hP, hY, hp, hs, hv, hd1, hd2, hbs⟩, hJ1, hT2, hu⟩ := id hM1
  refine bg_ldc2 rfl rfl ?_
  refine bg_lstore1 rfl rfl ?_
  refine bg_iconst rfl ?_
  refine bg_istore3 rfl rfl ?_
  refine mg_cnt hsd 15 0 _ h2 n _ _ hM1 hn rfl (by show 0 + 15 * 1 ≤ B.1; omega) (by show 0 + 15 * 15 ≤ B.2; omega) (fun hF1 nF1 csF1 hMF1 hnF1 gF1 c1F1 c2F1 x3 x4 => ?_)
  replace c1F1 : csF1.1 ≤ 0 + 15 * 1 := c1F1
  replace c2F1 : csF1.2 ≤ 0 + 15 * 15 := c2F1
  obtain ⟨hTp, har, hah, ⟨I, A, hR, hr, hP, hY, hp, hs, hv, hd1, hd2, hbs⟩, hJ1, hT2, hu⟩ := id hMF1
  refine bg_iconst rfl ?_
  refine bg_istore3 rfl rfl ?_
  refine mg_obark (P 0).length 0 _ hF1 nF1 csF1 _ hMF1 (by omega) (Nat.zero_add _) (by omega) (by omega) (fun hF2 nF2 csF2 hMF2 hnF2 gF2 c1F2 c2F2 x3 x4 => ?_)
  --simp only [] at c1F2 c2F2
  obtain ⟨hTp, har, hah, ⟨I, A, hR, hr, hP, hY, hp, hs, hv, hd1, hd2, hbs⟩, hJ1, hT2, hu⟩ := id hMF2
  refine bg_iconst rfl ?_
  refine bg_istore3 rfl rfl ?_
  refine mg_obeat h0 hm0 (P 1).length 0 _ hF2 nF2 csF2 _ hMF2 (by omega) (Nat.zero_add _) (by omega) (by omega) (fun hF3 nF3 csF3 hMF3 hnF3 gF3 c1F3 c2F3 x3 x4 => ?_)
  --simp only [] at c1F3 c2F3
  obtain ⟨hTp, har, hah, ⟨I, A, hR, hr, hP, hY, hp, hs, hv, hd1, hd2, hbs⟩, hJ1, hT2, hu⟩ := id hMF3
  refine bg_iconst rfl ?_
  refine bg_istore3 rfl rfl ?_
  refine mg_ospir (P 2).length 0 _ hF3 nF3 csF3 _ hMF3 (by omega) (Nat.zero_add _) (by omega) (by omega) (fun hF4 nF4 csF4 hMF4 hnF4 gF4 c1F4 c2F4 x3 x4 => ?_)
  --simp only [] at c1F4 c2F4
  obtain ⟨hTp, har, hah, ⟨I, A, hR, hr, hP, hY, hp, hs, hv, hd1, hd2, hbs⟩, hJ1, hT2, hu⟩ := id hMF4
  refine bg_iconst rfl ?_
  refine bg_istore3 rfl rfl ?_
  refine mg_oshee (S.2 3).length 0 _ hF4 nF4 csF4 _ hMF4 (by omega) (Nat.zero_add _) (by omega) (by omega) (fun hF5 nF5 csF5 hMF5 hnF5 gF5 c1F5 c2F5 x3 x4 => ?_)
  --simp only [] at c1F5 c2F5
  obtain ⟨hTp, har, hah, ⟨I, A, hR, hr, hP, hY, hp, hs, hv, hd1, hd2, hbs⟩, hJ1, hT2, hu⟩ := id hMF5
  refine bg_iconst rfl ?_
  refine bg_istore3 rfl rfl ?_
  refine mg_ofigu (S.2 4).length 0 _ hF5 nF5 csF5 _ hMF5 (by omega) (Nat.zero_add _) (by omega) (by omega) (fun hF6 nF6 csF6 hMF6 hnF6 gF6 c1F6 c2F6 x3 x4 => ?_)
  --simp only [] at c1F6 c2F6
  obtain ⟨hTp, har, hah, ⟨I, A, hR, hr, hP, hY, hp, hs, hv, hd1, hd2, hbs⟩, hJ1, hT2, hu⟩ := id hMF6
  refine bg_lload1 rfl ?_
  refine bg_lret rfl rfl ?_
  exact hQ hF6 nF6 _ hMF6 rfl rfl (by omega) (hm.trans (((((gF1.trans gF2 (by omega)).trans gF3 (by omega)).trans gF4 (by omega)).trans gF5 (by omega)).trans gF6 (by omega)) (Nat.le_refl n))
end MM
