/-! THE HOURS, end: beatAt, dry, cut, sell, soak, go. Printed by wip/whole/mk25.py. -/
theorem tC_le {t : bT} {c : Nat} {v : Int32} : tC t c v ≤ t.length := List.countP_le_length
theorem nI_ltc {x : Int32} {i : Nat} (hi : i < 2 ^ 31) : nI i < x ↔ i < x.toNatClampNeg := by
  by_cases h : x < 0
  · have h1 : x.toNatClampNeg = 0 := by
      have := Int32.lt_iff_toInt_lt.mp h
      have h2 : x.toInt < 0 := this
      show x.toInt.toNat = 0
      omega
    rw [h1]
    constructor
    · intro q
      have q1 := Int32.lt_iff_toInt_lt.mp q
      have q2 : x.toInt < 0 := Int32.lt_iff_toInt_lt.mp h
      rw [nI_toInt hi] at q1
      omega
    · intro q
      omega
  · obtain ⟨j, hj, rfl⟩ := nI_of h
    rw [nI_clamp hj]
    exact nI_ltI hi hj
section BC
variable {V : bk_V} {d n : Nat} {B : Nat × Nat} {Q : bk_R → bk_H → Nat → Prop} {h : bk_H} {a lo mo : Nat} {P : Nat → bT} {S : bS} {bs : bT} {cs : Nat × Nat}
theorem bc_soakL (hW : WP P) : ∀ (c o : Nat) (h : bk_H), CX h a lo mo P (itN (soak1 P) o S) bs → (∀ h', CX h' a lo mo P (soakF P S) bs → fx h h' mo a → Q (.inl none) h' n) → o + c = (P 3).length → ∀ x2 x3 x4 x5 x6, bk_g V (d + 3) 11 B Q 2 [some (.ref a), some (.int (nI o)), x2, x3, x4, x5, x6] [] h n cs := by
  intro c
  induction c with
  | zero =>
    intro o h hX hQ ho x2 x3 x4 x5 x6
    obtain ⟨⟨l0, l1, l2, l3, l4, l5⟩, ⟨m0, m1, m2, m3, m4, m5⟩, ⟨c0, cb, cf⟩, hlo, hmo⟩ := id hX
    have l44 := l4.2.2.1
    refine bg_iload1 rfl ?_
    refine bg_aload0 rfl ?_
    refine bg_getfield rfl rfl c0 (by rfl) ?_
    refine bg_getfield rfl rfl l0 (by rfl) ?_
    refine bg_virt0 rfl rfl rfl rfl (TB.o l4) ?_
    refine bt_size l4 (bk_Ki ?_)
    refine bg_icmp_ge rfl (fun e13 => ?_) (fun e13 => absurd e13 (nI_nlt (by omega) (by omega)))
    refine bg_ret rfl rfl ?_
    rw [show o = (P 3).length by omega] at hX
    exact hQ h hX fx.refl
  | succ c ih =>
    intro o h hX hQ ho x2 x3 x4 x5 x6
    obtain ⟨⟨l0, l1, l2, l3, l4, l5⟩, ⟨m0, m1, m2, m3, m4, m5⟩, ⟨c0, cb, cf⟩, hlo, hmo⟩ := id hX
    have l44 := l4.2.2.1
    have kX := hX
    have gC : fx h h mo a := fx.refl
    refine bg_iload1 rfl ?_
    refine bg_aload0 rfl ?_
    refine bg_getfield rfl rfl c0 (by rfl) ?_
    refine bg_getfield rfl rfl l0 (by rfl) ?_
    refine bg_virt0 rfl rfl rfl rfl (TB.o l4) ?_
    refine bt_size l4 (bk_Ki ?_)
    refine bg_icmp_ge rfl (fun e13 => absurd (nI_lt (by omega) (by omega)) e13) (fun e13 => ?_)
    refine bg_aload0 rfl ?_
    refine bg_getfield rfl rfl c0 (by rfl) ?_
    refine bg_getfield rfl rfl l0 (by rfl) ?_
    refine bg_iload1 rfl ?_
    refine bg_iconst rfl ?_
    refine bg_virt2 rfl rfl rfl rfl (TB.o l4) ?_
    refine bt_get l4 rfl (by decide) (bk_Ki ?_)
    refine bg_bipush rfl ?_
    refine bg_icmp_ne rfl (fun e30 => ?_) (fun e30 => ?_)
    · have hno : soak1 P o (itN (soak1 P) o S) = itN (soak1 P) o S := if_neg (fun q => e30 q.1)
      refine bg_iinc1 rfl rfl ?_
      rw [nI_1]
      refine bg_goto rfl ?_
      refine ih (o + 1) _ (by first | exact kX | (show CX _ a lo mo P (soak1 P o (itN (soak1 P) o S)) bs; rw [hno]; exact kX)) (fun h' kx kg => hQ h' kx (gC.trans kg)) (by omega) _ _ _ _ _
    · refine bg_aload0 rfl ?_
      refine bg_iload1 rfl ?_
      refine bg_iconst rfl ?_
      refine bg_bipush rfl ?_
      refine bg_virt3 rfl rfl rfl rfl ⟨_, by assumption⟩ ?_
      refine bc_reck hX rfl rfl (by decide) (by decide) (hW o (by omega)).1 (fun hA kX kg => bk_Ki ?_)
      have gC : fx h hA mo a := kg.fxa (by omega) (by omega)
      obtain ⟨⟨l0, l1, l2, l3, l4, l5⟩, ⟨m0, m1, m2, m3, m4, m5⟩, ⟨c0, cb, cf⟩, hlo, hmo⟩ := id kX
      refine bg_if_eq rfl (fun e41 => ?_) (fun e41 => ?_)
      · have hno : soak1 P o (itN (soak1 P) o S) = itN (soak1 P) o S := if_neg (fun q => q.2 e41)
        refine bg_iinc1 rfl rfl ?_
        rw [nI_1]
        refine bg_goto rfl ?_
        refine ih (o + 1) _ (by first | exact kX | (show CX _ a lo mo P (soak1 P o (itN (soak1 P) o S)) bs; rw [hno]; exact kX)) (fun h' kx kg => hQ h' kx (gC.trans kg)) (by omega) _ _ _ _ _
      · have hye : soak1 P o (itN (soak1 P) o S) = soak2 P o (itN (soak1 P) o S) := if_pos ⟨e30, e41⟩
        refine bg_aload0 rfl ?_
        refine bg_getfield rfl rfl c0 (by rfl) ?_
        refine bg_getfield rfl rfl l0 (by rfl) ?_
        refine bg_iload1 rfl ?_
        refine bg_iconst rfl ?_
        refine bg_virt2 rfl rfl rfl rfl (TB.o l4) ?_
        refine bt_get l4 rfl (by decide) (bk_Ki ?_)
        refine bg_istore2 rfl rfl ?_
        refine bg_aload0 rfl ?_
        refine bg_getfield rfl rfl c0 (by rfl) ?_
        refine bg_getfield rfl rfl m0 (by rfl) ?_
        refine bg_iload2 rfl ?_
        refine bg_iconst rfl ?_
        refine bg_virt2 rfl rfl rfl rfl (TB.o m1) ?_
        refine bt_get m1 rfl (by decide) (bk_Ki ?_)
        refine bg_istore3 rfl rfl ?_
        refine bg_aload0 rfl ?_
        refine bg_getfield rfl rfl c0 (by rfl) ?_
        refine bg_getfield rfl rfl m0 (by rfl) ?_
        refine bg_iload2 rfl ?_
        refine bg_iconst rfl ?_
        refine bg_virt2 rfl rfl rfl rfl (TB.o m1) ?_
        refine bt_get m1 rfl (by decide) (bk_Ki ?_)
        refine bg_istore4 rfl rfl ?_
        refine bg_aload0 rfl ?_
        refine bg_iload1 rfl ?_
        refine bg_iconst rfl ?_
        refine bg_iconst rfl ?_
        refine bg_virt3 rfl rfl rfl rfl ⟨_, by assumption⟩ ?_
        refine bc_reck kX rfl rfl (by decide) (by decide) ((hW o (by omega)).2 e30) (fun hB kXB kgB => bk_Ki ?_)
        obtain ⟨⟨l0, l1, l2, l3, l4, l5⟩, ⟨m0, m1, m2, m3, m4, m5⟩, ⟨c0, cb, cf⟩, hlo, hmo⟩ := id kXB
        refine bg_istore5 rfl rfl ?_
        refine bg_iconst rfl ?_
        refine bg_iload5 rfl ?_
        refine bg_iload3 rfl ?_
        refine bg_bipush rfl ?_
        refine bg_iload4 rfl ?_
        refine bg_isub rfl ?_
        refine bg_min rfl rfl rfl ?_
        refine bg_min rfl rfl rfl ?_
        refine bg_max rfl rfl rfl ?_
        refine bg_istore6 rfl rfl ?_
        refine bg_aload0 rfl ?_
        refine bg_getfield rfl rfl c0 (by rfl) ?_
        refine bg_getfield rfl rfl m0 (by rfl) ?_
        refine bg_iload2 rfl ?_
        refine bg_iconst rfl ?_
        refine bg_iload3 rfl ?_
        refine bg_iload6 rfl ?_
        refine bg_isub rfl ?_
        refine bg_virt3 rfl rfl rfl rfl (TB.o m1) ?_
        refine bt_set m1 rfl (by decide) (fun hC kC gC1 => bk_Kv ?_)
        obtain ⟨hXC, gxC⟩ := kXB.m0 kC gC1
        obtain ⟨⟨l0, l1, l2, l3, l4, l5⟩, ⟨m0, m1, m2, m3, m4, m5⟩, ⟨c0, cb, cf⟩, hlo, hmo⟩ := id hXC
        refine bg_aload0 rfl ?_
        refine bg_getfield rfl rfl c0 (by rfl) ?_
        refine bg_getfield rfl rfl m0 (by rfl) ?_
        refine bg_iload2 rfl ?_
        refine bg_iconst rfl ?_
        refine bg_iload4 rfl ?_
        refine bg_iload6 rfl ?_
        refine bg_iadd rfl ?_
        refine bg_virt3 rfl rfl rfl rfl (TB.o m1) ?_
        refine bt_set m1 rfl (by decide) (fun hD kD gD => bk_Kv ?_)
        obtain ⟨hXD, gxD⟩ := hXC.m0 kD gD
        have kX : CX hD a lo mo P (itN (soak1 P) (o + 1) S) bs := by
          show CX hD a lo mo P (soak1 P o (itN (soak1 P) o S)) bs
          rw [hye]
          simp only [uT_s, uT_uT] at hXD
          exact hXD
        have gC : fx h hD mo a := ((gC.trans (kgB.fxa (by omega) (by omega))).trans gxC).trans gxD
        have hno : True := trivial
        refine bg_iinc1 rfl rfl ?_
        rw [nI_1]
        refine bg_goto rfl ?_
        refine ih (o + 1) _ (by first | exact kX | (show CX _ a lo mo P (soak1 P o (itN (soak1 P) o S)) bs; rw [hno]; exact kX)) (fun h' kx kg => hQ h' kx (gC.trans kg)) (by omega) _ _ _ _ _

theorem bc_soak (hX : CX h a lo mo P S bs) (hW : WP P) (hQ : ∀ h', CX h' a lo mo P (soakF P S) bs → fx h h' mo a → Q (.inl none) h' n) : bk_wp V (d + 4) 11 [.ref a] h n B Q := by
  refine bg_in rfl rfl ?_
  refine bg_iconst rfl ?_
  refine bg_istore1 rfl rfl ?_
  exact bc_soakL hW (P 3).length 0 h hX hQ (by omega) _ _ _ _ _
theorem bc_beatL {b th fi nb : Int32} (hth : iMax 1 (fi + 3 - nb) = th) : ∀ (k : Nat) (p : Int32) (S : bS) (h : bk_H), k = 30 - (S.2 3).length → CX h a lo mo P S bs → ∀ x4 x5i, (∀ h', CX h' a lo mo P (mkL b th k (p, S)).2 bs → fx h h' mo a → bk_g V (d + 2) 16 B Q 132 [some (.ref a), some (.int b), some (.int nb), some (.int fi), x4, some (.int x5i), some (.int (mkL b th k (p, S)).1)] [] h' n cs) → bk_g V (d + 2) 16 B Q 92 [some (.ref a), some (.int b), some (.int nb), some (.int fi), x4, some (.int x5i), some (.int p)] [] h n cs := by
  intro k
  induction k with
  | zero =>
    intro p S h hk hX x4 x5i hQ
    obtain ⟨⟨l0, l1, l2, l3, l4, l5⟩, ⟨m0, m1, m2, m3, m4, m5⟩, ⟨c0, cb, cf⟩, hlo, hmo⟩ := id hX
    have m44 := m4.2.2.1
    refine bg_iload6 rfl ?_
    refine bg_bipush rfl ?_
    refine bg_icmp_lt rfl (fun e96 => ?_) (fun e96 => ?_)
    · exact hQ h hX fx.refl
    · refine bg_aload0 rfl ?_
      refine bg_getfield rfl rfl c0 (by rfl) ?_
      refine bg_getfield rfl rfl m0 (by rfl) ?_
      refine bg_virt0 rfl rfl rfl rfl (TB.o m4) ?_
      refine bt_isFull m4 (bk_Ki ?_)
      refine bg_ifne_b rfl (fun e109 => ?_) (fun e109 => absurd (by omega) e109)
      exact hQ h hX fx.refl
  | succ k ih =>
    intro p S h hk hX x4 x5i hQ
    obtain ⟨⟨l0, l1, l2, l3, l4, l5⟩, ⟨m0, m1, m2, m3, m4, m5⟩, ⟨c0, cb, cf⟩, hlo, hmo⟩ := id hX
    have m44 := m4.2.2.1
    refine bg_iload6 rfl ?_
    refine bg_bipush rfl ?_
    refine bg_icmp_lt rfl (fun e96 => ?_) (fun e96 => ?_)
    · have e0 : mkL b th (k + 1) (p, S) = (p, S) := if_pos e96
      rw [e0] at hQ
      exact hQ h hX fx.refl
    · have e0 : mkL b th (k + 1) (p, S) = mkL b th k (p - 10, shF b th S) := if_neg e96
      rw [e0] at hQ
      refine bg_aload0 rfl ?_
      refine bg_getfield rfl rfl c0 (by rfl) ?_
      refine bg_getfield rfl rfl m0 (by rfl) ?_
      refine bg_virt0 rfl rfl rfl rfl (TB.o m4) ?_
      refine bt_isFull m4 (bk_Ki ?_)
      refine bg_ifne_b rfl (fun e109 => absurd e109 (by omega)) (fun e109 => ?_)
      refine bg_aload0 rfl ?_
      refine bg_iload1 rfl ?_
      refine bg_iconst rfl ?_
      refine bg_iload3 rfl ?_
      refine bg_iconst rfl ?_
      refine bg_iadd rfl ?_
      refine bg_iload2 rfl ?_
      refine bg_isub rfl ?_
      refine bg_max rfl rfl rfl ?_
      refine bg_virt2 rfl rfl rfl rfl ⟨_, c0⟩ ?_
      rw [show (if (1 : Int32) < fi + 3 - nb then fi + 3 - nb else 1) = th from hth]
      refine bc_make hX (by omega) (fun hA kA gA => bk_Kv ?_)
      refine bg_iinc6 rfl rfl ?_
      rw [show p + (-10) = p - 10 from (Int32.sub_eq_add_neg p 10).symm]
      refine bg_goto rfl ?_
      exact ih (p - 10) (shF b th S) hA (by show k = 30 - (uT S.2 3 (S.2 3 ++ [[b, th, 4, 0]]) 3).length; rw [uT_s, List.length_append]; show k = 30 - ((S.2 3).length + 1); omega) kA _ _ (fun h' kx kg => hQ h' kx (gA.trans kg))

theorem bc_beat {b : Int32} (hX : CX h a lo mo P S bs) (hQ : ∀ h', CX h' a lo mo P (beatF P bs b S) bs → fx h h' mo a → Q (.inl none) h' n) : bk_wp V (d + 3) 16 [.ref a, .int b] h n B Q := by
  obtain ⟨⟨l0, l1, l2, l3, l4, l5⟩, ⟨m0, m1, m2, m3, m4, m5⟩, ⟨c0, cb, cf⟩, hlo, hmo⟩ := id hX
  have tc := tC_le (t := bs) (c := 0) (v := b)
  have b6 := cb.2.2.1
  refine bg_in rfl rfl ?_
  refine bg_aload0 rfl ?_
  refine bg_getfield rfl rfl c0 (by rfl) ?_
  refine bg_iconst rfl ?_
  refine bg_iload1 rfl ?_
  refine bg_virt2 rfl rfl rfl rfl (TB.o cb) ?_
  refine bt_countOf cb rfl (by decide) (bk_Ki ?_)
  refine bg_istore2 rfl rfl ?_
  refine bg_iload2 rfl ?_
  refine bg_if_ne rfl (fun e11 => ?_) (fun e11 => ?_)
  · have e0 : beatF P bs b S = beat2 P bs b S := if_neg (fun q => e11 (by rw [q]; rfl))
    rw [e0] at hQ
    refine bg_aload0 rfl ?_
    refine bg_getfield rfl rfl c0 (by rfl) ?_
    refine bg_getfield rfl rfl l0 (by rfl) ?_
    refine bg_iload1 rfl ?_
    refine bg_iconst rfl ?_
    refine bg_virt2 rfl rfl rfl rfl (TB.o l1) ?_
    refine bt_get l1 rfl (by decide) (bk_Ki ?_)
    refine bg_istore3 rfl rfl ?_
    refine bg_aload0 rfl ?_
    refine bg_getfield rfl rfl c0 (by rfl) ?_
    refine bg_getfield rfl rfl m0 (by rfl) ?_
    refine bg_iload1 rfl ?_
    refine bg_iconst rfl ?_
    refine bg_virt2 rfl rfl rfl rfl (TB.o m1) ?_
    refine bt_get m1 rfl (by decide) (bk_Ki ?_)
    refine bg_istore4 rfl rfl ?_
    refine bg_iload4 rfl ?_
    refine bg_aload0 rfl ?_
    refine bg_iload1 rfl ?_
    refine bg_virt1 rfl rfl rfl rfl ⟨_, c0⟩ ?_
    refine bc_force hX (bk_Ki ?_)
    refine bg_iload3 rfl ?_
    refine bg_stat2 rfl rfl rfl rfl ?_
    refine bc_quot (bk_Ki ?_)
    refine bg_min rfl rfl rfl ?_
    refine bg_istore5 rfl rfl ?_
    refine bg_aload0 rfl ?_
    refine bg_getfield rfl rfl c0 (by rfl) ?_
    refine bg_getfield rfl rfl m0 (by rfl) ?_
    refine bg_iload1 rfl ?_
    refine bg_iconst rfl ?_
    refine bg_iload4 rfl ?_
    refine bg_iload5 rfl ?_
    refine bg_isub rfl ?_
    refine bg_virt3 rfl rfl rfl rfl (TB.o m1) ?_
    refine bt_set m1 rfl (by decide) (fun hA kA gA => bk_Kv ?_)
    obtain ⟨hXA, gxA⟩ := hX.m0 kA gA
    obtain ⟨⟨l0, l1, l2, l3, l4, l5⟩, ⟨m0, m1, m2, m3, m4, m5⟩, ⟨c0, cb, cf⟩, hlo, hmo⟩ := id hXA
    refine bg_aload0 rfl ?_
    refine bg_getfield rfl rfl c0 (by rfl) ?_
    refine bg_getfield rfl rfl m0 (by rfl) ?_
    refine bg_iload1 rfl ?_
    refine bg_iconst rfl ?_
    refine bg_virt2 rfl rfl rfl rfl (TB.o m1) ?_
    refine bt_get m1 rfl (by decide) (bk_Ki ?_)
    refine bg_iload5 rfl ?_
    refine bg_iadd rfl ?_
    refine bg_istore6 rfl rfl ?_
    refine bc_beatL rfl (30 - (S.2 3).length) _ _ hA ?_ hXA _ _ (fun hB hXB gxB => ?_)
    · rfl
    obtain ⟨⟨l0, l1, l2, l3, l4, l5⟩, ⟨m0, m1, m2, m3, m4, m5⟩, ⟨c0, cb, cf⟩, hlo, hmo⟩ := id hXB
    refine bg_aload0 rfl ?_
    refine bg_getfield rfl rfl c0 (by rfl) ?_
    refine bg_getfield rfl rfl m0 (by rfl) ?_
    refine bg_iload1 rfl ?_
    refine bg_iconst rfl ?_
    refine bg_iload6 rfl ?_
    refine bg_virt3 rfl rfl rfl rfl (TB.o m1) ?_
    refine bt_set m1 rfl (by decide) (fun hC kC gC => bk_Kv ?_)
    obtain ⟨hXC, gxC⟩ := hXB.m0 kC gC
    refine bg_ret rfl rfl ?_
    refine hQ hC ?_ ((gxA.trans gxB).trans gxC)
    exact hXC
  · have e0 : beatF P bs b S = S := if_pos ((nI_eq (a := tC bs 0 b) (b := 0) (by omega) (by omega)).mp e11)
    rw [e0] at hQ
    refine bg_ret rfl rfl ?_
    exact hQ h hX fx.refl
theorem ite_len {p : Prop} [Decidable p] {x y : bT} {n : Nat} (hx : x.length = n) (hy : y.length = n) : (if p then x else y).length = n := by split <;> assumption
theorem dry1_len {w : Int32} {i : Nat} {t : bT} : (dry1 w i t).length = t.length := by
  unfold dry1
  exact ite_len (rS_len.trans rS_len) rS_len
def wtF (t : bT) (i : Nat) (ch : Int32) : Int32 := iMax 0 (iMin 9 (rG t (nI i) 2 + ch))
theorem dry1_eq {w ch : Int32} {i : Nat} {t : bT} (hch : (if ¬ 2 < w then -1 else if ¬ w < 4 then 1 else 0) = ch) : dry1 w i t = if ¬ wtF t i ch < 3 ∨ w = 5 then rS (rS t (nI i) 2 (wtF t i ch)) (nI i) 3 (iMin 9 (rG (rS t (nI i) 2 (wtF t i ch)) (nI i) 3 + 1)) else rS t (nI i) 2 (wtF t i ch) := by
  unfold dry1 wtF
  rw [hch]
theorem itN_len {f : Nat → bT → bT} (hf : ∀ k t, (f k t).length = t.length) : ∀ (k : Nat) (t : bT), (itN f k t).length = t.length
  | 0, _ => rfl
  | k + 1, t => (hf _ _).trans (itN_len hf k t)
theorem bc_dryL {w ch : Int32} {t : bT} (hch : (if ¬ 2 < w then -1 else if ¬ w < 4 then 1 else 0) = ch) : ∀ (c i : Nat) (h : bk_H), CX h a lo mo P (S.1, uT S.2 3 (itN (dry1 w) i t)) bs → (∀ h', CX h' a lo mo P (S.1, uT S.2 3 (itN (dry1 w) t.length t)) bs → fx h h' mo a → Q (.inl none) h' n) → i + c = t.length → ∀ x4 x5, bk_g V (d + 1) 18 B Q 30 [some (.ref a), some (.int w), some (.int ch), some (.int (nI i)), x4, x5] [] h n cs := by
  intro c
  induction c with
  | zero =>
    intro i h hX hQ hi x4 x5
    obtain ⟨⟨l0, l1, l2, l3, l4, l5⟩, ⟨m0, m1, m2, m3, m4, m5⟩, ⟨c0, cb, cf⟩, hlo, hmo⟩ := id hX
    have m44 := m4.2.2.1
    simp only [uT_s] at m4 m44
    have hl := itN_len (f := dry1 w) (fun _ _ => dry1_len) i t
    refine bg_iload3 rfl ?_
    refine bg_aload0 rfl ?_
    refine bg_getfield rfl rfl c0 (by rfl) ?_
    refine bg_getfield rfl rfl m0 (by rfl) ?_
    refine bg_virt0 rfl rfl rfl rfl (TB.o m4) ?_
    refine bt_size m4 (bk_Ki ?_)
    refine bg_icmp_ge rfl (fun e41 => ?_) (fun e41 => absurd e41 (nI_nlt (by omega) (by omega)))
    refine bg_ret rfl rfl ?_
    rw [show i = t.length by omega] at hX
    exact hQ h hX fx.refl
  | succ c ih =>
    intro i h hX hQ hi x4 x5
    obtain ⟨⟨l0, l1, l2, l3, l4, l5⟩, ⟨m0, m1, m2, m3, m4, m5⟩, ⟨c0, cb, cf⟩, hlo, hmo⟩ := id hX
    have m44 := m4.2.2.1
    simp only [uT_s] at m4 m44
    have hl := itN_len (f := dry1 w) (fun _ _ => dry1_len) i t
    have hst := dry1_eq (i := i) (t := itN (dry1 w) i t) hch
    refine bg_iload3 rfl ?_
    refine bg_aload0 rfl ?_
    refine bg_getfield rfl rfl c0 (by rfl) ?_
    refine bg_getfield rfl rfl m0 (by rfl) ?_
    refine bg_virt0 rfl rfl rfl rfl (TB.o m4) ?_
    refine bt_size m4 (bk_Ki ?_)
    refine bg_icmp_ge rfl (fun e41 => absurd (nI_lt (by omega) (by omega)) e41) (fun e41 => ?_)
    refine bg_iconst rfl ?_
    refine bg_bipush rfl ?_
    refine bg_aload0 rfl ?_
    refine bg_getfield rfl rfl c0 (by rfl) ?_
    refine bg_getfield rfl rfl m0 (by rfl) ?_
    refine bg_iload3 rfl ?_
    refine bg_iconst rfl ?_
    refine bg_virt2 rfl rfl rfl rfl (TB.o m4) ?_
    refine bt_get m4 rfl (by decide) (bk_Ki ?_)
    refine bg_iload2 rfl ?_
    refine bg_iadd rfl ?_
    refine bg_min rfl rfl rfl ?_
    refine bg_max rfl rfl rfl ?_
    change bk_g V (d + 1) 18 B Q 67 _ (.int (wtF (itN (dry1 w) i t) i ch) :: []) h n cs
    generalize wtF (itN (dry1 w) i t) i ch = wet at hst ⊢
    refine bg_istore4 rfl rfl ?_
    refine bg_aload0 rfl ?_
    refine bg_getfield rfl rfl c0 (by rfl) ?_
    refine bg_getfield rfl rfl m0 (by rfl) ?_
    refine bg_iload3 rfl ?_
    refine bg_iconst rfl ?_
    refine bg_iload4 rfl ?_
    refine bg_virt3 rfl rfl rfl rfl (TB.o m4) ?_
    refine bt_set m4 rfl (by decide) (fun hA kA gA => bk_Kv ?_)
    obtain ⟨hXA, gxA⟩ := hX.m3 kA gA
    simp only [uT_uT] at hXA
    obtain ⟨⟨l0, l1, l2, l3, l4, l5⟩, ⟨m0, m1, m2, m3, m4, m5⟩, ⟨c0, cb, cf⟩, hlo, hmo⟩ := id hXA
    simp only [uT_s] at m4
    refine bg_iload4 rfl ?_
    refine bg_iconst rfl ?_
    refine bg_icmp_ge rfl (fun e86 => ?_) (fun e86 => ?_)
    · have hst := hst.trans (if_pos (Or.inl e86))
      refine bg_aload0 rfl ?_
      refine bg_getfield rfl rfl c0 (by rfl) ?_
      refine bg_getfield rfl rfl m0 (by rfl) ?_
      refine bg_iload3 rfl ?_
      refine bg_iconst rfl ?_
      refine bg_virt2 rfl rfl rfl rfl (TB.o m4) ?_
      refine bt_get m4 rfl (by decide) (bk_Ki ?_)
      refine bg_istore5 rfl rfl ?_
      refine bg_aload0 rfl ?_
      refine bg_getfield rfl rfl c0 (by rfl) ?_
      refine bg_getfield rfl rfl m0 (by rfl) ?_
      refine bg_iload3 rfl ?_
      refine bg_iconst rfl ?_
      refine bg_bipush rfl ?_
      refine bg_iload5 rfl ?_
      refine bg_iconst rfl ?_
      refine bg_iadd rfl ?_
      refine bg_min rfl rfl rfl ?_
      refine bg_virt3 rfl rfl rfl rfl (TB.o m4) ?_
      refine bt_set m4 rfl (by decide) (fun hB kB gB => bk_Kv ?_)
      obtain ⟨hC, gxB⟩ := hXA.m3 kB gB
      simp only [uT_uT] at hC
      have gC := gxA.trans gxB
      refine bg_iinc3 rfl rfl ?_
      rw [nI_1]
      refine bg_goto rfl ?_
      refine ih (i + 1) _ ?_ (fun h' kx kg => hQ h' kx (gC.trans kg)) (by omega) _ _
      rw [itN_s, hst]
      exact hC
    · refine bg_iload1 rfl ?_
      refine bg_iconst rfl ?_
      refine bg_icmp_ne rfl (fun e91 => ?_) (fun e91 => ?_)
      · have hst := hst.trans (if_neg (fun q => q.elim (fun z => z e86) e91))
        have hC := hXA
        have gC := gxA
        refine bg_iinc3 rfl rfl ?_
        rw [nI_1]
        refine bg_goto rfl ?_
        refine ih (i + 1) _ ?_ (fun h' kx kg => hQ h' kx (gC.trans kg)) (by omega) _ _
        rw [itN_s, hst]
        exact hC
      · have hst := hst.trans (if_pos (Or.inr e91))
        refine bg_aload0 rfl ?_
        refine bg_getfield rfl rfl c0 (by rfl) ?_
        refine bg_getfield rfl rfl m0 (by rfl) ?_
        refine bg_iload3 rfl ?_
        refine bg_iconst rfl ?_
        refine bg_virt2 rfl rfl rfl rfl (TB.o m4) ?_
        refine bt_get m4 rfl (by decide) (bk_Ki ?_)
        refine bg_istore5 rfl rfl ?_
        refine bg_aload0 rfl ?_
        refine bg_getfield rfl rfl c0 (by rfl) ?_
        refine bg_getfield rfl rfl m0 (by rfl) ?_
        refine bg_iload3 rfl ?_
        refine bg_iconst rfl ?_
        refine bg_bipush rfl ?_
        refine bg_iload5 rfl ?_
        refine bg_iconst rfl ?_
        refine bg_iadd rfl ?_
        refine bg_min rfl rfl rfl ?_
        refine bg_virt3 rfl rfl rfl rfl (TB.o m4) ?_
        refine bt_set m4 rfl (by decide) (fun hB kB gB => bk_Kv ?_)
        obtain ⟨hC, gxB⟩ := hXA.m3 kB gB
        simp only [uT_uT] at hC
        have gC := gxA.trans gxB
        refine bg_iinc3 rfl rfl ?_
        rw [nI_1]
        refine bg_goto rfl ?_
        refine ih (i + 1) _ ?_ (fun h' kx kg => hQ h' kx (gC.trans kg)) (by omega) _ _
        rw [itN_s, hst]
        exact hC

theorem bc_dry (hX : CX h a lo mo P S bs) (hQ : ∀ h', CX h' a lo mo P (dryF S) bs → fx h h' mo a → Q (.inl none) h' n) : bk_wp V (d + 2) 18 [.ref a] h n B Q := by
  obtain ⟨⟨l0, l1, l2, l3, l4, l5⟩, ⟨m0, m1, m2, m3, m4, m5⟩, ⟨c0, cb, cf⟩, hlo, hmo⟩ := id hX
  have hX0 : CX h a lo mo P (S.1, uT S.2 3 (itN (dry1 (S.1 1)) 0 (S.2 3))) bs := by
    have e : uT S.2 3 (S.2 3) = S.2 := by
      funext k
      unfold uT
      split
      · rename_i q
        rw [q]
      · rfl
    show CX h a lo mo P (S.1, uT S.2 3 (S.2 3)) bs
    rw [e]
    exact hX
  refine bg_in rfl rfl ?_
  refine bg_aload0 rfl ?_
  refine bg_getfield rfl rfl c0 (by rfl) ?_
  refine bg_getfield rfl rfl m0 (by rfl) ?_
  refine bg_istore1 rfl rfl ?_
  refine bg_iload1 rfl ?_
  refine bg_iconst rfl ?_
  refine bg_icmp_gt rfl (fun e10 => ?_) (fun e10 => ?_)
  · refine bg_iload1 rfl ?_
    refine bg_iconst rfl ?_
    refine bg_icmp_lt rfl (fun e19 => ?_) (fun e19 => ?_)
    · refine bg_iconst rfl ?_
      refine bg_istore2 rfl rfl ?_
      refine bg_iconst rfl ?_
      refine bg_istore3 rfl rfl ?_
      exact bc_dryL (S := S) (t := S.2 3) (by first | rw [if_pos e10] | rw [if_neg (fun z => z e10), if_pos e19] | rw [if_neg (fun z => z e10), if_neg (fun z => z e19)]) (S.2 3).length 0 h hX0 hQ (by omega) _ _
    · refine bg_iconst rfl ?_
      refine bg_goto rfl ?_
      refine bg_istore2 rfl rfl ?_
      refine bg_iconst rfl ?_
      refine bg_istore3 rfl rfl ?_
      exact bc_dryL (S := S) (t := S.2 3) (by first | rw [if_pos e10] | rw [if_neg (fun z => z e10), if_pos e19] | rw [if_neg (fun z => z e10), if_neg (fun z => z e19)]) (S.2 3).length 0 h hX0 hQ (by omega) _ _
  · refine bg_iconst rfl ?_
    refine bg_goto rfl ?_
    refine bg_istore2 rfl rfl ?_
    refine bg_iconst rfl ?_
    refine bg_istore3 rfl rfl ?_
    exact bc_dryL (S := S) (t := S.2 3) (by first | rw [if_pos e10] | rw [if_neg (fun z => z e10), if_pos e19] | rw [if_neg (fun z => z e10), if_neg (fun z => z e19)]) (S.2 3).length 0 h hX0 hQ (by omega) _ _
end BC
