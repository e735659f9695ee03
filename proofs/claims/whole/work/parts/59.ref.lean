/-! THE REFERENCE: choosing, forces. Printed by wip/whole/mk59.py. -/
theorem bsf_len {P : Nat → bT} {S : bS} {n : Nat} : (bsF P S n).length = n := by
  unfold bsF
  rw [List.length_map, List.length_range]
theorem bsf_tg {P : Nat → bT} {S : bS} {n k : Nat} (h : k < n) : tg (bsF P S n) k 0 = brd P S (nI k) := by
  unfold tg
  rw [gD_lt (l := bsF P S n) (by rw [bsf_len]; exact h)]
  unfold bsF
  rw [List.getElem_map, List.getElem_range]
  rfl
theorem nI_m1 {k : Nat} (h : k < 2 ^ 31) : ¬ nI k = -1 := fun q => by
  have := congrArg Int32.toInt q
  rw [rx_nI h] at this
  exact absurd this (by show ¬ (k : Int) = -1; omega)
/-- how the reference's reckoning of a force stands to the component's -/
def FI (P : Nat → bT) (S : bS) (bs : bT) (b : Int32) (q : Int32 × Int32 × Int32 × Int32) (first : Int32) (i : Nat) : Prop :=
  q.2.1 = nI (tCp (fun x => decide (x = b)) (bs.take i) 0) ∧ ((q.2.1 = 0 ∧ first = -1 ∧ q.2.2.2 = 1) ∨ (¬ q.2.1 = 0 ∧ ∃ f, f < (P 1).length ∧ first = nI f ∧ (q.2.2.2 = 0 ∨ (q.2.2.2 = 1 ∧ q.2.2.1 = rG (S.2 1) (nI f) 0))))
theorem fr1_n {P : Nat → bT} {S : bS} {bs : bT} {b first : Int32} {q : Int32 × Int32 × Int32 × Int32} {i : Nat} (hb : ¬ tg bs i 0 = b) (hi : i < bs.length) (hl : i < 2 ^ 31) (hF : FI P S bs b q first i) : fr1 P S bs b i q = q ∧ FI P S bs b q first (i + 1) := by
  have e1 : rG bs (nI i) 0 = tg bs i 0 := rG_nI hl
  refine ⟨?_, ?_, hF.2⟩
  · unfold fr1
    rw [e1, if_neg hb]
  · rw [hF.1, tCp_s hi, if_neg (fun z => hb (of_decide_eq_true z))]
    rfl
theorem fr1_y {P : Nat → bT} {S : bS} {bs : bT} {b first first' : Int32} {q : Int32 × Int32 × Int32 × Int32} {i : Nat} (hb : tg bs i 0 = b) (hi : i < bs.length) (hl : bs.length ≤ 6) (hP : bs.length = (P 1).length) (hF : FI P S bs b q first i) (hf : first' = if first = -1 then nI i else first) :
    FI P S bs b (fr1 P S bs b i q) first' (i + 1) ∧ (fr1 P S bs b i q).1 = q.1 + rG (P 1) (nI i) 0 ∧ (fr1 P S bs b i q).2.2.2 = q.2.2.2 &&& (if rG (S.2 1) (nI i) 0 = rG (S.2 1) first' 0 then 1 else 0) := by
  have e1 : rG bs (nI i) 0 = tg bs i 0 := rG_nI (by omega)
  have e2 : fr1 P S bs b i q = (q.1 + rG (P 1) (nI i) 0, q.2.1 + 1, rG (S.2 1) (nI i) 0, if ¬ q.2.2.2 = 0 ∧ (q.2.1 = 0 ∨ rG (S.2 1) (nI i) 0 = q.2.2.1) then 1 else 0) := by
    unfold fr1
    rw [e1, if_pos hb]
  have hc : tCp (fun x => decide (x = b)) (bs.take i) 0 ≤ 6 := by
    refine Nat.le_trans List.countP_le_length ?_
    rw [List.length_take]
    omega
  have e3 : q.2.1 + 1 = nI (tCp (fun x => decide (x = b)) (bs.take (i + 1)) 0) := by
    rw [hF.1, tCp_s hi, if_pos (decide_eq_true hb), nI_1]
  have e4 : ¬ q.2.1 + 1 = 0 := by
    rw [hF.1, nI_1]
    exact fun z => absurd (congrArg Int32.toInt z) (by rw [rx_nI (by omega)]; show ¬ ((_ : Nat) : Int) = 0; omega)
  rcases hF.2 with ⟨f1, f2, f3⟩ | ⟨f1, f, f2, f3, f4⟩
  · have hf' : first' = nI i := by rw [hf, if_pos f2]
    subst hf'
    rw [e2]
    refine ⟨⟨e3, Or.inr ⟨e4, i, by omega, rfl, Or.inr ⟨?_, rfl⟩⟩⟩, rfl, ?_⟩
    · exact if_pos ⟨by rw [f3]; decide, Or.inl f1⟩
    · show (if _ then _ else _) = _
      rw [if_pos ⟨by rw [f3]; decide, Or.inl f1⟩, if_pos rfl, f3]
      decide
  · have hne : ¬ first = -1 := by
      rw [f3]
      exact nI_m1 (by omega)
    have hf' : first' = nI f := by rw [hf, if_neg hne, f3]
    subst hf'
    rw [e2]
    rcases f4 with f4 | ⟨f4, f5⟩
    · have e5 : (if ¬ q.2.2.2 = 0 ∧ (q.2.1 = 0 ∨ rG (S.2 1) (nI i) 0 = q.2.2.1) then (1 : Int32) else 0) = 0 := if_neg (fun z => z.1 f4)
      rw [e5]
      refine ⟨⟨e3, Or.inr ⟨e4, f, f2, rfl, Or.inl rfl⟩⟩, rfl, ?_⟩
      show (0 : Int32) = _
      rw [f4]
      split <;> decide
    · by_cases e6 : rG (S.2 1) (nI i) 0 = rG (S.2 1) (nI f) 0
      · have e5 : (if ¬ q.2.2.2 = 0 ∧ (q.2.1 = 0 ∨ rG (S.2 1) (nI i) 0 = q.2.2.1) then (1 : Int32) else 0) = 1 := if_pos ⟨by rw [f4]; decide, Or.inr (by rw [f5, e6])⟩
        rw [e5]
        refine ⟨⟨e3, Or.inr ⟨e4, f, f2, rfl, Or.inr ⟨rfl, e6⟩⟩⟩, rfl, ?_⟩
        show (1 : Int32) = _
        rw [f4, if_pos e6]
        decide
      · have e5 : (if ¬ q.2.2.2 = 0 ∧ (q.2.1 = 0 ∨ rG (S.2 1) (nI i) 0 = q.2.2.1) then (1 : Int32) else 0) = 0 := if_neg (fun z => z.2.elim f1 (fun w => e6 (by rw [w, f5])))
        rw [e5]
        refine ⟨⟨e3, Or.inr ⟨e4, f, f2, rfl, Or.inl rfl⟩⟩, rfl, ?_⟩
        show (0 : Int32) = _
        rw [f4, if_neg e6]
        decide
section RB
variable {V : bk_V} {d n : Nat} {B : Nat × Nat} {Q : bk_R → bk_H → Nat → Prop} {h : bk_H} {r y u v : Nat} {P : Nat → bT} {S : bS} {I J K : rI} {A C : rA} {bs : bT} {cs : Nat × Nat}
theorem rw_chooseL {h0 : bk_H} (hQ : ∀ h', RW h' r y u v P S J K C (bsF P S (P 1).length) → fr h0 h' r (r + 14) → Q (.inl none) h' n) : ∀ (c k : Nat) {h : bk_H}, k + c = (P 1).length → RW h r y u v P S J K C (bsF P S k) → fr h0 h r (r + 14) → bk_g V (d + 6) 132 B Q 2 [some (.ref r), some (.int (nI k))] [] h n cs := by
  intro c
  induction c with
  | zero =>
    intro k h hi hW hF
    obtain ⟨I, A, hR, hr, hP, hY, hp, hs, hv, hd1, hd2, hbs⟩ := id hW
    obtain ⟨s0, s1, s2, s3, s4, s5, s6, s7, s8, s9, s10, s11, s12, s13⟩ := id hR
    obtain ⟨p0, p1, p2, p3, p4, p5, p6, p7, p8, p9, p10, p11, p12, p13, p14, p15⟩ := id hP
    have y0 := hY
    have hl6 : (P 1).length ≤ 6 := hs.1.2.1.1
    refine bg_iload1 rfl ?_
    refine bg_aload0 rfl ?_
    refine bg_getfield rfl rfl s0 (by rfl) ?_
    refine bg_getfield rfl rfl y0 (by rfl) ?_
    refine bg_getfield rfl rfl p0 (by rfl) ?_
    refine bg_icmp_ge rfl (fun e13 => ?_) (fun e13 => absurd e13 (by rw [hp.1 1 (by decide)]; exact nI_nlt (by omega) (by omega)))
    refine bg_ret rfl rfl ?_
    have hk : k = (P 1).length := by omega
    subst hk
    exact hQ h hW hF
  | succ c ih =>
    intro k h hi hW hF
    obtain ⟨I, A, hR, hr, hP, hY, hp, hs, hv, hd1, hd2, hbs⟩ := id hW
    obtain ⟨s0, s1, s2, s3, s4, s5, s6, s7, s8, s9, s10, s11, s12, s13⟩ := id hR
    obtain ⟨p0, p1, p2, p3, p4, p5, p6, p7, p8, p9, p10, p11, p12, p13, p14, p15⟩ := id hP
    have y0 := hY
    have hl6 : (P 1).length ≤ 6 := hs.1.2.1.1
    refine bg_iload1 rfl ?_
    refine bg_aload0 rfl ?_
    refine bg_getfield rfl rfl s0 (by rfl) ?_
    refine bg_getfield rfl rfl y0 (by rfl) ?_
    refine bg_getfield rfl rfl p0 (by rfl) ?_
    refine bg_icmp_ge rfl (fun e13 => absurd (by rw [hp.1 1 (by decide)]; exact nI_lt (by omega) (by omega)) e13) (fun e13 => ?_)
    refine bg_aload0 rfl ?_
    refine bg_getfield rfl rfl s0 (by rfl) ?_
    refine bg_iload1 rfl ?_
    refine bg_aload0 rfl ?_
    refine bg_iload1 rfl ?_
    refine bg_virt1 rfl rfl rfl rfl ⟨_, by assumption⟩ ?_
    refine rw_goes (by omega) hW (fun h2 hW2 hF2 => bk_Ki ?_)
    obtain ⟨I, A, hR, hr, hP, hY, hp, hs, hv, hd1, hd2, hbs⟩ := id hW2
    obtain ⟨s0, s1, s2, s3, s4, s5, s6, s7, s8, s9, s10, s11, s12, s13⟩ := id hR
    obtain ⟨p0, p1, p2, p3, p4, p5, p6, p7, p8, p9, p10, p11, p12, p13, p14, p15⟩ := id hP
    have y0 : YO h2 y J u v := hY
    refine bg_iastore_n rfl s12 (by omega) (by omega) (fun h26 f26 g26 => ?_)
    obtain ⟨hR1, hF1⟩ := RO.a11 hR f26 g26
    have hW3 : RW h26 r y u v P S J K C (bsF P S (k + 1)) := ⟨I, _, hR1, hr, hP.kp hF1 (by omega), (hF1 y (by omega)).trans hY, hp, hs, hv, hd1, hd2, fun j hj => by
      rw [bsf_len] at hj
      rw [bsf_tg hj]
      show upd (A 11) k _ j = _
      unfold upd
      by_cases e : j = k
      · rw [if_pos e, e]
      · rw [if_neg e, hbs j (by rw [bsf_len]; omega), bsf_tg (by omega)]⟩
    refine bg_iinc1 rfl rfl ?_
    rw [nI_1]
    refine bg_goto rfl ?_
    exact ih (k + 1) (by omega) hW3 ((hF.trans (hF2.wide (by omega) (by omega))).trans hF1)

theorem rw_choose (hW : RW h r y u v P S J K C bs) (hQ : ∀ h', RW h' r y u v P S J K C (bsF P S (P 1).length) → fr h h' r (r + 14) → Q (.inl none) h' n) : bk_wp V (d + 7) 132 [.ref r] h n B Q := by
  obtain ⟨I, A, hR, hr, hP, hY, hp, hs, hv, hd1, hd2, hbs⟩ := hW
  refine bg_in rfl rfl ?_
  refine bg_iconst rfl ?_
  refine bg_istore1 rfl rfl ?_
  exact rw_chooseL hQ (P 1).length 0 (Nat.zero_add _) ⟨I, A, hR, hr, hP, hY, hp, hs, hv, hd1, hd2, fun j hj => absurd hj (Nat.not_lt_zero j)⟩ fr.refl
theorem rw_beatersL {b : Int32} (hl : bs.length = (P 1).length) (hl6 : (P 1).length ≤ 6) (hW : RW h r y u v P S J K C bs) (hQ : Q (.inl (some (.int (nI (tCp (fun x => decide (x = b)) bs 0))))) h n) : ∀ (c i : Nat), i + c = (P 1).length → bk_g V d 133 B Q 4 [some (.ref r), some (.int b), some (.int (nI (tCp (fun x => decide (x = b)) (bs.take i) 0))), some (.int (nI i))] [] h n cs := by
  intro c
  induction c with
  | zero =>
    intro i hi
    obtain ⟨I, A, hR, hr, hP, hY, hp, hs, hv, hd1, hd2, hbs⟩ := id hW
    obtain ⟨s0, s1, s2, s3, s4, s5, s6, s7, s8, s9, s10, s11, s12, s13⟩ := id hR
    obtain ⟨p0, p1, p2, p3, p4, p5, p6, p7, p8, p9, p10, p11, p12, p13, p14, p15⟩ := id hP
    have y0 := hY
    refine bg_iload3 rfl ?_
    refine bg_aload0 rfl ?_
    refine bg_getfield rfl rfl s0 (by rfl) ?_
    refine bg_getfield rfl rfl y0 (by rfl) ?_
    refine bg_getfield rfl rfl p0 (by rfl) ?_
    refine bg_icmp_ge rfl (fun e15 => ?_) (fun e15 => absurd e15 (by rw [hp.1 1 (by decide)]; exact nI_nlt (by omega) (by omega)))
    refine bg_iload2 rfl ?_
    refine bg_iret rfl rfl (by rfl) ?_
    rw [List.take_of_length_le (by omega)] 
    exact hQ
  | succ c ih =>
    intro i hi
    obtain ⟨I, A, hR, hr, hP, hY, hp, hs, hv, hd1, hd2, hbs⟩ := id hW
    obtain ⟨s0, s1, s2, s3, s4, s5, s6, s7, s8, s9, s10, s11, s12, s13⟩ := id hR
    obtain ⟨p0, p1, p2, p3, p4, p5, p6, p7, p8, p9, p10, p11, p12, p13, p14, p15⟩ := id hP
    have y0 := hY
    have hv1 := hbs i (by omega)
    have hi1 : i < bs.length := by omega
    refine bg_iload3 rfl ?_
    refine bg_aload0 rfl ?_
    refine bg_getfield rfl rfl s0 (by rfl) ?_
    refine bg_getfield rfl rfl y0 (by rfl) ?_
    refine bg_getfield rfl rfl p0 (by rfl) ?_
    refine bg_icmp_ge rfl (fun e15 => absurd (by rw [hp.1 1 (by decide)]; exact nI_lt (by omega) (by omega)) e15) (fun e15 => ?_)
    refine bg_iload2 rfl ?_
    refine bg_aload0 rfl ?_
    refine bg_getfield rfl rfl s0 (by rfl) ?_
    refine bg_iload3 rfl ?_
    refine bg_iaload_n rfl s12 (by omega) (by omega) ?_
    refine bg_iload1 rfl ?_
    refine bg_icmp_ne rfl (fun e26 => ?_) (fun e26 => ?_)
    · rw [hv1] at e26
      have e1 : tCp (fun x => decide (x = b)) (bs.take (i + 1)) 0 = tCp (fun x => decide (x = b)) (bs.take i) 0 := by
        rw [tCp_s hi1, if_neg (fun q => e26 (of_decide_eq_true q))]
        rfl
      refine bg_iconst rfl ?_
      refine bg_iadd rfl ?_
      first
        | rw [show nI (tCp (fun x => decide (x = b)) (bs.take i) 0) + 1 = nI (tCp (fun x => decide (x = b)) (bs.take (i + 1)) 0) by rw [nI_1, e1]]
        | rw [show nI (tCp (fun x => decide (x = b)) (bs.take i) 0) + 0 = nI (tCp (fun x => decide (x = b)) (bs.take (i + 1)) 0) by rw [Int32.add_zero, e1]]
      refine bg_istore2 rfl rfl ?_
      refine bg_iinc3 rfl rfl ?_
      rw [nI_1]
      refine bg_goto rfl ?_
      exact ih (i + 1) (by omega)
    · rw [hv1] at e26
      have e1 : tCp (fun x => decide (x = b)) (bs.take (i + 1)) 0 = tCp (fun x => decide (x = b)) (bs.take i) 0 + 1 := by
        rw [tCp_s hi1, if_pos (decide_eq_true e26)]
      refine bg_iconst rfl ?_
      refine bg_goto rfl ?_
      refine bg_iadd rfl ?_
      first
        | rw [show nI (tCp (fun x => decide (x = b)) (bs.take i) 0) + 1 = nI (tCp (fun x => decide (x = b)) (bs.take (i + 1)) 0) by rw [nI_1, e1]]
        | rw [show nI (tCp (fun x => decide (x = b)) (bs.take i) 0) + 0 = nI (tCp (fun x => decide (x = b)) (bs.take (i + 1)) 0) by rw [Int32.add_zero, e1]]
      refine bg_istore2 rfl rfl ?_
      refine bg_iinc3 rfl rfl ?_
      rw [nI_1]
      refine bg_goto rfl ?_
      exact ih (i + 1) (by omega)

theorem rw_beaters {b : Int32} (hl : bs.length = (P 1).length) (hW : RW h r y u v P S J K C bs) (hQ : Q (.inl (some (.int (nI (tC bs 0 b))))) h n) : bk_wp V (d + 1) 133 [.ref r, .int b] h n B Q := by
  have hl6 : (P 1).length ≤ 6 := by
    obtain ⟨I, A, hR, hr, hP, hY, hp, hs, hv, hd1, hd2, hbs⟩ := hW
    exact hs.1.2.1.1
  refine bg_in rfl rfl ?_
  refine bg_iconst rfl ?_
  refine bg_istore2 rfl rfl ?_
  refine bg_iconst rfl ?_
  refine bg_istore3 rfl rfl ?_
  exact rw_beatersL hl hl6 hW hQ (P 1).length 0 (Nat.zero_add _)
theorem rw_forceL {b : Int32} (hl : bs.length = (P 1).length) (hl6 : (P 1).length ≤ 6) (hW : RW h r y u v P S J K C bs) (hQ : Q (.inl (some (.int (fcF P S bs b)))) h n) : ∀ (c i : Nat) (first : Int32), i + c = (P 1).length → FI P S bs b (itN (fr1 P S bs b) i (0, 0, 0, 1)) first i → bk_g V (d + 1) 134 B Q 10 [some (.ref r), some (.int b), some (.int (itN (fr1 P S bs b) i (0, 0, 0, 1)).1), some (.int first), some (.int (itN (fr1 P S bs b) i (0, 0, 0, 1)).2.2.2), some (.int (nI i))] [] h n cs := by
  intro c
  induction c with
  | zero =>
    intro i first hi hI
    obtain ⟨I, A, hR, hr, hP, hY, hp, hs, hv, hd1, hd2, hbs⟩ := id hW
    obtain ⟨s0, s1, s2, s3, s4, s5, s6, s7, s8, s9, s10, s11, s12, s13⟩ := id hR
    obtain ⟨p0, p1, p2, p3, p4, p5, p6, p7, p8, p9, p10, p11, p12, p13, p14, p15⟩ := id hP
    have y0 := hY
    have hi2 : i = bs.length := by omega
    subst hi2
    have hq1 : (itN (fr1 P S bs b) bs.length (0, 0, 0, 1)).2.1 = nI (tC bs 0 b) := by
      rw [hI.1, List.take_of_length_le (Nat.le_refl _)]
      rfl
    have hq4 : fcF P S bs b = fcE (itN (fr1 P S bs b) bs.length (0, 0, 0, 1)) := rfl
    rw [hq4] at hQ
    generalize (itN (fr1 P S bs b) bs.length (0, 0, 0, 1)) = q at hI hq1 hQ ⊢
    unfold fcE at hQ
    rw [hq1] at hQ
    refine bg_iload5 rfl ?_
    refine bg_aload0 rfl ?_
    refine bg_getfield rfl rfl s0 (by rfl) ?_
    refine bg_getfield rfl rfl y0 (by rfl) ?_
    refine bg_getfield rfl rfl p0 (by rfl) ?_
    refine bg_icmp_ge rfl (fun e22 => ?_) (fun e22 => absurd e22 (by rw [hp.1 1 (by decide)]; exact nI_nlt (by omega) (by omega)))
    refine bg_aload0 rfl ?_
    refine bg_iload1 rfl ?_
    refine bg_virt1 rfl rfl rfl rfl ⟨_, by assumption⟩ ?_
    refine rw_beaters hl hW (bk_Ki ?_)
    refine bg_istore5 rfl rfl ?_
    refine bg_iload5 rfl ?_
    refine bg_iconst rfl ?_
    refine bg_icmp_ge rfl (fun e105 => ?_) (fun e105 => ?_)
    · rw [if_neg e105] at hQ
      refine bg_iload4 rfl ?_
      refine bg_if_eq rfl (fun e114 => ?_) (fun e114 => ?_)
      · rw [if_neg (fun z => z e114)] at hQ
        refine bg_iload2 rfl ?_
        refine bg_iconst rfl ?_
        refine bg_idiv rfl (by decide) ?_
        refine bg_iret rfl rfl (by rfl) ?_
        exact hQ
      · rw [if_pos e114] at hQ
        refine bg_iload2 rfl ?_
        refine bg_iload5 rfl ?_
        refine bg_iadd rfl ?_
        refine bg_goto rfl ?_
        refine bg_iret rfl rfl (by rfl) ?_
        exact hQ
    · rw [if_pos e105] at hQ
      refine bg_iload2 rfl ?_
      refine bg_goto rfl ?_
      refine bg_iret rfl rfl (by rfl) ?_
      exact hQ
  | succ c ih =>
    intro i first hi hI
    obtain ⟨I, A, hR, hr, hP, hY, hp, hs, hv, hd1, hd2, hbs⟩ := id hW
    obtain ⟨s0, s1, s2, s3, s4, s5, s6, s7, s8, s9, s10, s11, s12, s13⟩ := id hR
    obtain ⟨p0, p1, p2, p3, p4, p5, p6, p7, p8, p9, p10, p11, p12, p13, p14, p15⟩ := id hP
    have y0 := hY
    have hv1 := hbs i (by omega)
    have hi1 : i < bs.length := by omega
    have hC2 : C 2 i = rG (P 1) (nI i) 0 := by
      rw [rG_nI (by omega)]
      exact (hp.2.2.1 i (by omega)).1
    have hA3 : ∀ f, f < (P 1).length → A 3 f = rG (S.2 1) (nI f) 0 := fun f hf => by
      rw [rG_nI (by omega)]
      exact hr.2.2.1 f (by rw [hs.2.2.2.1]; exact hf)
    refine bg_iload5 rfl ?_
    refine bg_aload0 rfl ?_
    refine bg_getfield rfl rfl s0 (by rfl) ?_
    refine bg_getfield rfl rfl y0 (by rfl) ?_
    refine bg_getfield rfl rfl p0 (by rfl) ?_
    refine bg_icmp_ge rfl (fun e22 => absurd (by rw [hp.1 1 (by decide)]; exact nI_lt (by omega) (by omega)) e22) (fun e22 => ?_)
    refine bg_aload0 rfl ?_
    refine bg_getfield rfl rfl s0 (by rfl) ?_
    refine bg_iload5 rfl ?_
    refine bg_iaload_n rfl s12 (by omega) (by omega) ?_
    refine bg_iload1 rfl ?_
    refine bg_icmp_eq rfl (fun e33 => ?_) (fun e33 => ?_)
    · rw [hv1] at e33
      refine bg_iload2 rfl ?_
      refine bg_aload0 rfl ?_
      refine bg_getfield rfl rfl s0 (by rfl) ?_
      refine bg_getfield rfl rfl y0 (by rfl) ?_
      refine bg_getfield rfl rfl p0 (by rfl) ?_
      refine bg_iload5 rfl ?_
      refine bg_iaload_n rfl p3 (by omega) (by omega) ?_
      refine bg_iadd rfl ?_
      refine bg_istore2 rfl rfl ?_
      refine bg_iload3 rfl ?_
      refine bg_iconst rfl ?_
      refine bg_icmp_ne rfl (fun e57 => ?_) (fun e57 => ?_)
      · obtain ⟨f, hf1, hf2⟩ : ∃ f, f < (P 1).length ∧ first = nI f := by
          rcases hI.2 with z | ⟨_, f, z1, z2, _⟩
          · exact absurd z.2.1 e57
          · exact ⟨f, z1, z2⟩
        obtain ⟨z1, z2, z3⟩ := fr1_y (P := P) (S := S) e33 hi1 (by omega) hl hI (if_neg e57).symm
        subst hf2
        rw [hC2, ← z2]
        refine bg_iload4 rfl ?_
        refine bg_aload0 rfl ?_
        refine bg_getfield rfl rfl s0 (by rfl) ?_
        refine bg_iload5 rfl ?_
        refine bg_iaload_n rfl s4 (by omega) (by omega) ?_
        refine bg_aload0 rfl ?_
        refine bg_getfield rfl rfl s0 (by rfl) ?_
        refine bg_iload3 rfl ?_
        refine bg_iaload_n rfl s4 (by omega) (by omega) ?_
        refine bg_icmp_ne rfl (fun e78 => ?_) (fun e78 => ?_)
        · have a1 := hA3 i (by omega)
          have a2 := hA3 _ hf1
          rw [a1] at e78
          try rw [a2] at e78
          rw [if_neg e78] at z3
          refine bg_iconst rfl ?_
          refine bg_iand rfl ?_
          rw [← z3]
          refine bg_istore4 rfl rfl ?_
          refine bg_iinc5 rfl rfl ?_
          rw [nI_1]
          refine bg_goto rfl ?_
          first
            | exact ih (i + 1) _ (by omega) z1
            | exact ih (i + 1) _ (by omega) (show FI P S bs b (itN (fr1 P S bs b) (i + 1) (0, 0, 0, 1)) _ _ from z1)
            | (have z4 : itN (fr1 P S bs b) (i + 1) (0, 0, 0, 1) = itN (fr1 P S bs b) i (0, 0, 0, 1) := z1
               rw [← z4] at z2 ⊢
               exact ih (i + 1) _ (by omega) z2)
        · have a1 := hA3 i (by omega)
          have a2 := hA3 _ hf1
          rw [a1] at e78
          try rw [a2] at e78
          rw [if_pos e78] at z3
          refine bg_iconst rfl ?_
          refine bg_goto rfl ?_
          refine bg_iand rfl ?_
          rw [← z3]
          refine bg_istore4 rfl rfl ?_
          refine bg_iinc5 rfl rfl ?_
          rw [nI_1]
          refine bg_goto rfl ?_
          first
            | exact ih (i + 1) _ (by omega) z1
            | exact ih (i + 1) _ (by omega) (show FI P S bs b (itN (fr1 P S bs b) (i + 1) (0, 0, 0, 1)) _ _ from z1)
            | (have z4 : itN (fr1 P S bs b) (i + 1) (0, 0, 0, 1) = itN (fr1 P S bs b) i (0, 0, 0, 1) := z1
               rw [← z4] at z2 ⊢
               exact ih (i + 1) _ (by omega) z2)
      · obtain ⟨z1, z2, z3⟩ := fr1_y (P := P) (S := S) e33 hi1 (by omega) hl hI (if_pos e57).symm
        have hf1 : i < (P 1).length := by omega
        rw [hC2, ← z2]
        refine bg_iload5 rfl ?_
        refine bg_istore3 rfl rfl ?_
        refine bg_iload4 rfl ?_
        refine bg_aload0 rfl ?_
        refine bg_getfield rfl rfl s0 (by rfl) ?_
        refine bg_iload5 rfl ?_
        refine bg_iaload_n rfl s4 (by omega) (by omega) ?_
        refine bg_aload0 rfl ?_
        refine bg_getfield rfl rfl s0 (by rfl) ?_
        refine bg_iload3 rfl ?_
        refine bg_iaload_n rfl s4 (by omega) (by omega) ?_
        refine bg_icmp_ne rfl (fun e78 => ?_) (fun e78 => ?_)
        · have a1 := hA3 i (by omega)
          have a2 := hA3 _ hf1
          rw [a1] at e78
          try rw [a2] at e78
          rw [if_neg e78] at z3
          refine bg_iconst rfl ?_
          refine bg_iand rfl ?_
          rw [← z3]
          refine bg_istore4 rfl rfl ?_
          refine bg_iinc5 rfl rfl ?_
          rw [nI_1]
          refine bg_goto rfl ?_
          first
            | exact ih (i + 1) _ (by omega) z1
            | exact ih (i + 1) _ (by omega) (show FI P S bs b (itN (fr1 P S bs b) (i + 1) (0, 0, 0, 1)) _ _ from z1)
            | (have z4 : itN (fr1 P S bs b) (i + 1) (0, 0, 0, 1) = itN (fr1 P S bs b) i (0, 0, 0, 1) := z1
               rw [← z4] at z2 ⊢
               exact ih (i + 1) _ (by omega) z2)
        · have a1 := hA3 i (by omega)
          have a2 := hA3 _ hf1
          rw [a1] at e78
          try rw [a2] at e78
          rw [if_pos e78] at z3
          refine bg_iconst rfl ?_
          refine bg_goto rfl ?_
          refine bg_iand rfl ?_
          rw [← z3]
          refine bg_istore4 rfl rfl ?_
          refine bg_iinc5 rfl rfl ?_
          rw [nI_1]
          refine bg_goto rfl ?_
          first
            | exact ih (i + 1) _ (by omega) z1
            | exact ih (i + 1) _ (by omega) (show FI P S bs b (itN (fr1 P S bs b) (i + 1) (0, 0, 0, 1)) _ _ from z1)
            | (have z4 : itN (fr1 P S bs b) (i + 1) (0, 0, 0, 1) = itN (fr1 P S bs b) i (0, 0, 0, 1) := z1
               rw [← z4] at z2 ⊢
               exact ih (i + 1) _ (by omega) z2)
    · rw [hv1] at e33
      obtain ⟨z1, z2⟩ := fr1_n (P := P) (S := S) e33 hi1 (by omega) hI
      refine bg_goto rfl ?_
      refine bg_iinc5 rfl rfl ?_
      rw [nI_1]
      refine bg_goto rfl ?_
      first
        | exact ih (i + 1) _ (by omega) z1
        | exact ih (i + 1) _ (by omega) (show FI P S bs b (itN (fr1 P S bs b) (i + 1) (0, 0, 0, 1)) _ _ from z1)
        | (have z4 : itN (fr1 P S bs b) (i + 1) (0, 0, 0, 1) = itN (fr1 P S bs b) i (0, 0, 0, 1) := z1
           rw [← z4] at z2 ⊢
           exact ih (i + 1) _ (by omega) z2)

theorem rw_force {b : Int32} (hl : bs.length = (P 1).length) (hW : RW h r y u v P S J K C bs) (hQ : Q (.inl (some (.int (fcF P S bs b)))) h n) : bk_wp V (d + 2) 134 [.ref r, .int b] h n B Q := by
  have hl6 : (P 1).length ≤ 6 := by
    obtain ⟨I, A, hR, hr, hP, hY, hp, hs, hv, hd1, hd2, hbs⟩ := hW
    exact hs.1.2.1.1
  refine bg_in rfl rfl ?_
  refine bg_iconst rfl ?_
  refine bg_istore2 rfl rfl ?_
  refine bg_iconst rfl ?_
  refine bg_istore3 rfl rfl ?_
  refine bg_iconst rfl ?_
  refine bg_istore4 rfl rfl ?_
  refine bg_iconst rfl ?_
  refine bg_istore5 rfl rfl ?_
  exact rw_forceL hl hl6 hW hQ (P 1).length 0 (-1) (Nat.zero_add _) ⟨rfl, Or.inl ⟨rfl, rfl, rfl⟩⟩
end RB
