/-! THE REFERENCE: where a beater goes. Printed by wip/whole/mk58.py. -/
theorem rx_remI {x e : Int32} (he : 0 < e.toInt) : (x - x / e * e).toInt = x.toInt.tmod e.toInt := by
  have h1 : e ≠ -1 := fun q => by
    rw [q] at he
    exact absurd he (by decide)
  have b1 := Int.tmod_lt_of_pos x.toInt he
  have b2 := Int.lt_tmod_of_pos x.toInt he
  have b3 := e.toInt_lt
  rw [Int32.toInt_sub, Int32.toInt_mul, Int32.toInt_div_of_ne_right x e h1, Int.sub_bmod_bmod]
  rw [show x.toInt - x.toInt.tdiv e.toInt * e.toInt = x.toInt.tmod e.toInt by rw [Int.tmod_def, Int.mul_comm]]
  exact Int.bmod_eq_of_le (by omega) (by omega)
theorem rx_nI {k : Nat} (h : k < 2 ^ 31) : (nI k).toInt = k := by
  unfold nI
  rw [Int32.toInt_ofNat']
  exact Int.bmod_eq_of_le (by omega) (by show (k : Int) < (4294967296 + 1) / 2; omega)
/-- what the list and a mountain keep -/
def IV (P : Nat → bT) (S : bS) : Prop :=
  (∀ i, i < (P 0).length → ∃ k, 1 ≤ k ∧ k ≤ 9 ∧ tg (P 0) i 1 = nI k) ∧ (∀ i, i < (S.2 1).length → ∃ k, 1 ≤ k ∧ k ≤ 6 ∧ tg (S.2 1) i 0 = nI k) ∧
  (∀ i, i < (S.2 3).length → ∃ k, k ≤ 9 ∧ tg (S.2 3) i 2 = nI k) ∧ (∀ i, i < (S.2 4).length → ∃ g, g < (P 2).length ∧ tg (S.2 4) i 0 = nI g)
theorem gone_ne {k : Nat} {x : Int32} (h1 : 1 ≤ k) (h2 : k ≤ 6) : gone (nI k) x = x - x / nI k * nI k ∧ ¬ nI k - gone (nI k) x = 0 := by
  have hk : (nI k).toInt = k := rx_nI (by omega)
  have e1 : gone (nI k) x = x - x / nI k * nI k := if_pos (by
    rw [Int32.lt_iff_toInt_lt, hk]
    show (0 : Int) < k
    omega)
  refine ⟨e1, fun q => ?_⟩
  have q1 : nI k = gone (nI k) x := by
    have z := Int32.sub_add_cancel (nI k) (gone (nI k) x)
    rw [q, Int32.zero_add] at z
    exact z.symm
  have q2 := congrArg Int32.toInt q1
  have hp : 0 < (nI k).toInt := by
    rw [hk]
    omega
  have := Int.tmod_lt_of_pos x.toInt hp
  rw [e1, rx_remI hp] at q2
  omega
theorem htb_0 {S : bS} {k : Nat} {x : Int32} (h1 : 1 ≤ k) (h2 : k ≤ 6) (hk : rG (S.2 1) x 0 = nI k) : htb S x = 0 ↔ S.1 0 - S.1 0 / nI k * nI k = 0 := by
  obtain ⟨e1, e2⟩ := gone_ne (x := S.1 0) h1 h2
  unfold htb
  rw [hk]
  by_cases q : gone (nI k) (S.1 0) = 0
  · rw [if_pos q, ← e1]
    exact ⟨fun _ => q, fun _ => rfl⟩
  · rw [if_neg q, ← e1]
    exact ⟨fun z => absurd z e2, fun z => absurd z q⟩
/-- the reference's State at r says the mountain S, its Plan the list P; bs is what at holds -/
def RW (h : bk_H) (r y u v : Nat) (P : Nat → bT) (S : bS) (J K : rI) (C : rA) (bs : bT) : Prop :=
  ∃ (I : rI) (A : rA), RO h r y I A ∧ RR S I A ∧ PO h u K C ∧ YO h y J u v ∧ RP P K C ∧ SH P S ∧ IV P S ∧ (u + 16 ≤ r ∨ r + 14 ≤ u) ∧ (y < r ∨ r + 14 ≤ y) ∧ ∀ k, k < bs.length → A 11 k = tg bs k 0
section RB
variable {V : bk_V} {d n : Nat} {B : Nat × Nat} {Q : bk_R → bk_H → Nat → Prop} {h : bk_H} {r y u v : Nat} {P : Nat → bT} {S : bS} {I J K : rI} {A C : rA} {bs : bT} {cs : Nat × Nat}
theorem RO_11 {h h' : bk_H} {I I' : rI} {A A' : rA} (a : RO h r y I A) (b : RO h' r y I' A') (w : h' (r + 12) = h (r + 12)) : A' 11 = A 11 := by
  obtain ⟨s0, s1, s2, s3, s4, s5, s6, s7, s8, s9, s10, s11, s12, s13⟩ := a
  obtain ⟨z0, z1, z2, z3, z4, z5, z6, z7, z8, z9, z10, z11, z12, z13⟩ := b
  have := z12.symm.trans (w.trans s12)
  injection this with q
  injection q with q
  injection q with _ q
  injection q with _ q
  injection q
theorem rw_test {o : Nat} (ho : o < (P 3).length) (hW : RW h r y u v P S J K C bs) (hQ : ∀ h', RW h' r y u v P S J K C bs → fr h h' (r + 13) (r + 14) → Q (.inl (some (.int (if ¬ rck P S (nI o) 5 6 = 0 then 1 else 0)))) h' n) : bk_wp V (d + 5) 129 [.ref r, .int (nI o)] h n B Q := by
  obtain ⟨I, A, hR, hr, hP, hY, hp, hs, hv, hd1, hd2, hbs⟩ := hW
  refine rb_test ho hp hs hd1 hd2 hR hr hP hY (fun h' A' a b c => hQ h' ⟨I, A', a, b, hP.kp c (by omega), (c y (by omega)).trans hY, hp, hs, hv, hd1, hd2, ?_⟩ c)
  rw [RO_11 hR a (c _ (by omega))]
  exact hbs
theorem rw_goesL {h0 : bk_H} {k : Nat} : ∀ (c o : Nat) {h : bk_H}, o + c = (P 3).length → RW h r y u v P S J K C bs → fr h0 h (r + 13) (r + 14) → (∀ h', RW h' r y u v P S J K C bs → fr h0 h' (r + 13) (r + 14) → Q (.inl (some (.int (brL P S (nI k) c o)))) h' n) → bk_g V (d + 5) 131 B Q 26 [some (.ref r), some (.int (nI k)), some (.int (nI o))] [] h n cs := by
  intro c
  induction c with
  | zero =>
    intro o h hi hW hF hQ
    obtain ⟨I, A, hR, hr, hP, hY, hp, hs, hv, hd1, hd2, hbs⟩ := id hW
    obtain ⟨s0, s1, s2, s3, s4, s5, s6, s7, s8, s9, s10, s11, s12, s13⟩ := id hR
    obtain ⟨p0, p1, p2, p3, p4, p5, p6, p7, p8, p9, p10, p11, p12, p13, p14, p15⟩ := id hP
    have y0 := hY
    have hl24 : (P 3).length ≤ 24 := hs.1.2.2.2.1.1
    refine bg_iload2 rfl ?_
    refine bg_aload0 rfl ?_
    refine bg_getfield rfl rfl s0 (by rfl) ?_
    refine bg_getfield rfl rfl y0 (by rfl) ?_
    refine bg_getfield rfl rfl p0 (by rfl) ?_
    refine bg_icmp_ge rfl (fun e37 => ?_) (fun e37 => absurd e37 (by rw [hp.1 3 (by decide)]; exact nI_nlt (by omega) (by omega)))
    refine bg_iconst rfl ?_
    refine bg_iret rfl rfl (by rfl) ?_
    exact hQ h hW hF
  | succ c ih =>
    intro o h hi hW hF hQ
    obtain ⟨I, A, hR, hr, hP, hY, hp, hs, hv, hd1, hd2, hbs⟩ := id hW
    obtain ⟨s0, s1, s2, s3, s4, s5, s6, s7, s8, s9, s10, s11, s12, s13⟩ := id hR
    obtain ⟨p0, p1, p2, p3, p4, p5, p6, p7, p8, p9, p10, p11, p12, p13, p14, p15⟩ := id hP
    have y0 := hY
    have hl24 : (P 3).length ≤ 24 := hs.1.2.2.2.1.1
    have ho : o < (P 3).length := by omega
    obtain ⟨hc7, h11, h13, h15, _, _⟩ := hp.2.2.2.2 o ho
    have hbr : brL P S (nI k) (c + 1) o = if rG (P 3) (nI o) 0 = 13 ∧ rG (P 3) (nI o) 1 = nI k ∧ ¬ rck P S (nI o) 5 6 = 0 then rG (P 3) (nI o) 2 else brL P S (nI k) c (o + 1) := rfl
    refine bg_iload2 rfl ?_
    refine bg_aload0 rfl ?_
    refine bg_getfield rfl rfl s0 (by rfl) ?_
    refine bg_getfield rfl rfl y0 (by rfl) ?_
    refine bg_getfield rfl rfl p0 (by rfl) ?_
    refine bg_icmp_ge rfl (fun e37 => absurd (by rw [hp.1 3 (by decide)]; exact nI_lt ho (by omega)) e37) (fun e37 => ?_)
    refine bg_aload0 rfl ?_
    refine bg_getfield rfl rfl s0 (by rfl) ?_
    refine bg_getfield rfl rfl y0 (by rfl) ?_
    refine bg_getfield rfl rfl p0 (by rfl) ?_
    refine bg_iload2 rfl ?_
    refine bg_iaload_n rfl p8 (by omega) (by omega) ?_
    refine bg_bipush rfl ?_
    refine bg_icmp_ne rfl (fun e54 => ?_) (fun e54 => ?_)
    · skip
      refine bg_iinc2 rfl rfl ?_
      refine bg_goto rfl ?_
      rw [nI_1]
      exact ih (o + 1) (by omega) hW hF (fun h' a b => bQ (hQ h' a b) (by rw [hbr, if_neg (fun q => e54 (hc7.trans (by rw [q.1]; rfl)))]))
    · have hk13 : rG (P 3) (nI o) 0 = 13 := (Int32.sub_add_cancel _ 1).symm.trans (by rw [← hc7, e54]; rfl)
      obtain ⟨⟨b1, hb1, hb2, hb3⟩, b4, hb4, hb5, hb6⟩ := h13 hk13
      refine bg_aload0 rfl ?_
      refine bg_getfield rfl rfl s0 (by rfl) ?_
      refine bg_getfield rfl rfl y0 (by rfl) ?_
      refine bg_getfield rfl rfl p0 (by rfl) ?_
      refine bg_iload2 rfl ?_
      refine bg_iaload_n rfl p9 (by omega) (by omega) ?_
      refine bg_iload1 rfl ?_
      refine bg_icmp_ne rfl (fun e70 => ?_) (fun e70 => ?_)
      · refine bg_iinc2 rfl rfl ?_
        refine bg_goto rfl ?_
        rw [nI_1]
        exact ih (o + 1) (by omega) hW hF (fun h' a b => bQ (hQ h' a b) (by rw [hbr, if_neg (fun q => e70 (hb3.trans (hb2.symm.trans q.2.1)))]))
      · refine bg_aload0 rfl ?_
        refine bg_iload2 rfl ?_
        refine bg_virt1 rfl rfl rfl rfl ⟨_, by assumption⟩ ?_
        refine rw_test ho hW (fun h2 hW2 hF2 => bk_Ki ?_)
        refine bg_ifeq_b rfl (fun e78 => ?_) (fun e78 => ?_)
        · refine bg_iinc2 rfl rfl ?_
          refine bg_goto rfl ?_
          rw [nI_1]
          exact ih (o + 1) (by omega) hW2 (hF.trans hF2) (fun h' a b => bQ (hQ h' a b) (by rw [hbr, if_neg (fun q => e78 q.2.2)]))
        · obtain ⟨I, A2, hR, hr, hP, hY, hp2, hs2, hv2, _, _, _⟩ := id hW2
          obtain ⟨s0, s1, s2, s3, s4, s5, s6, s7, s8, s9, s10, s11, s12, s13⟩ := id hR
          obtain ⟨p0, p1, p2, p3, p4, p5, p6, p7, p8, p9, p10, p11, p12, p13, p14, p15⟩ := id hP
          have y0 : YO h2 y J u v := hY
          refine bg_aload0 rfl ?_
          refine bg_getfield rfl rfl s0 (by rfl) ?_
          refine bg_getfield rfl rfl y0 (by rfl) ?_
          refine bg_getfield rfl rfl p0 (by rfl) ?_
          refine bg_iload2 rfl ?_
          refine bg_iaload_n rfl p10 (by omega) (by omega) ?_
          refine bg_iret rfl rfl (by rfl) ?_
          refine bQ (hQ h2 hW2 (hF.trans hF2)) ?_
          rw [hbr, if_pos ⟨hk13, hb2.trans (hb3.symm.trans e70), e78⟩, hb5, hb6]

theorem rw_goes {k : Nat} (hk : k < (P 1).length) (hW : RW h r y u v P S J K C bs) (hQ : ∀ h', RW h' r y u v P S J K C bs → fr h h' (r + 13) (r + 14) → Q (.inl (some (.int (brd P S (nI k))))) h' n) : bk_wp V (d + 6) 131 [.ref r, .int (nI k)] h n B Q := by
  obtain ⟨I, A, hR, hr, hP, hY, hp, hs, hv, hd1, hd2, hbs⟩ := id hW
  obtain ⟨s0, s1, s2, s3, s4, s5, s6, s7, s8, s9, s10, s11, s12, s13⟩ := id hR
  obtain ⟨p0, p1, p2, p3, p4, p5, p6, p7, p8, p9, p10, p11, p12, p13, p14, p15⟩ := id hP
  have y0 := hY
  have hl6 : (S.2 1).length ≤ 6 := hs.2.1.2.1.1
  have hk1 : k < (S.2 1).length := by rw [hs.2.2.2.1]; exact hk
  obtain ⟨e, he1, he2, he⟩ := hv.2.1 k hk1
  have hA3 : A 3 k = nI e := (hr.2.2.1 k hk1).trans he
  have hI0 : I 0 = S.1 0 := hr.1.1 0 (by decide)
  have hI8 : I 8 = S.1 7 := hr.1.2.2.2
  have hh := htb_0 (S := S) (x := nI k) he1 he2 (by rw [rG_nI (by omega)]; exact he)
  have hne : ¬ nI e = 0 := fun q => by
    have := congrArg Int32.toInt q
    rw [rx_nI (by omega)] at this
    exact absurd this (by show ¬ (e : Int) = 0; omega)
  refine bg_in rfl rfl ?_
  refine bg_aload0 rfl ?_
  refine bg_getfield rfl rfl s0 (by rfl) ?_
  refine bg_aload0 rfl ?_
  refine bg_getfield rfl rfl s0 (by rfl) ?_
  refine bg_iload1 rfl ?_
  refine bg_iaload_n rfl s4 (by omega) (by omega) ?_
  refine bg_irem rfl (by rw [hA3]; exact hne) ?_
  refine bg_if_ne rfl (fun e11 => ?_) (fun e11 => ?_)
  · rw [hA3, hI0] at e11
    refine bg_iconst rfl ?_
    refine bg_iret rfl rfl (by rfl) ?_
    refine bQ (hQ h hW fr.refl) ?_
    exact if_pos (Or.inr fun q => e11 (hh.mp q))
  · rw [hA3, hI0] at e11
    refine bg_iload1 rfl ?_
    refine bg_aload0 rfl ?_
    refine bg_getfield rfl rfl s0 (by rfl) ?_
    refine bg_icmp_ne rfl (fun e19 => ?_) (fun e19 => ?_)
    · rw [hI8] at e19
      refine bg_iconst rfl ?_
      refine bg_istore2 rfl rfl ?_
      exact rw_goesL (P 3).length 0 (Nat.zero_add _) hW fr.refl (fun h' a b => bQ (hQ h' a b) (if_neg (fun q : nI k = S.1 7 ∨ ¬ htb S (nI k) = 0 => q.elim (fun q => e19 q) (fun q => q (hh.mpr e11)))))
    · rw [hI8] at e19
      refine bg_iconst rfl ?_
      refine bg_iret rfl rfl (by rfl) ?_
      refine bQ (hQ h hW fr.refl) ?_
      exact if_pos (Or.inl e19)
end RB
