/-! THE REFERENCE: carryOut, holds. Printed by wip/whole/mk54.py. -/
/-- the reference's integers from a to e say the calculation that stands in columns f and b of the order o -/
def sgO (P : Nat → bT) (g : Nat → Int32) (o f b a e : Nat) : Prop :=
  ∃ i c : Nat, rG (P 3) (nI o) f = nI i ∧ rG (P 3) (nI o) b = nI (i + c) ∧ i + c ≤ 400 ∧ e ≤ 800 ∧ ((c = 0 ∧ a = e) ∨ (a < e ∧ sgR P g c i a e 0))
section RB
variable {V : bk_V} {d n : Nat} {B : Nat × Nat} {Q : bk_R → bk_H → Nat → Prop} {h : bk_H} {r y u v : Nat} {P : Nat → bT} {S : bS} {I J K : rI} {A C : rA} {cs : Nat × Nat}
theorem rck_sg {x : Int32} {f b i c : Nat} (h1 : rG (P 3) x f = nI i) (h2 : rG (P 3) x b = nI (i + c)) (hl : i + c ≤ 400) : rck P S x f b = (evN P S c i []).headD 1 := by
  unfold rck
  rw [h1, h2, nI_clamp (by omega), nI_clamp (by omega), Nat.add_sub_cancel_left]
theorem rb_carry {e a c i : Nat} (he : e ≤ 800) (hs : SH P S) (hd1 : u + 16 ≤ r ∨ r + 14 ≤ u) (hd2 : y < r ∨ r + 14 ≤ y) (hR : RO h r y I A) (hr : RR S I A) (hP : PO h u K C) (hY : YO h y J u v) (hg : sgR P (C 13) c i a e 0) (hQ : ∀ h' A', RO h' r y I A' → RR S I A' → fr h h' (r + 13) (r + 14) → Q (.inl (some (.int ((evN P S c i []).headD 1)))) h' n) : bk_wp V (d + 4) 144 [.ref r, .int (nI a), .int (nI e)] h n B Q := by
  refine bg_in rfl rfl ?_
  refine bg_iconst rfl ?_
  refine bg_istore3 rfl rfl ?_
  refine bg_iload1 rfl ?_
  refine bg_istore4 rfl rfl ?_
  exact rb_carryL he hs hd1 hd2 c i a [] (-1) none hR hr hP hY fr.refl trivial (by decide) (by decide) hg hQ
theorem rb_holds {o : Nat} (ho1 : o < 24) (hs : SH P S) (hd1 : u + 16 ≤ r ∨ r + 14 ≤ u) (hd2 : y < r ∨ r + 14 ≤ y) (hR : RO h r y I A) (hr : RR S I A) (hP : PO h u K C) (hY : YO h y J u v) (ho : ∃ a e, C 11 o = nI a ∧ C 12 o = nI e ∧ sgO P (C 13) o 5 6 a e) (hQ : ∀ h' A', RO h' r y I A' → RR S I A' → fr h h' (r + 13) (r + 14) → Q (.inl (some (.int ((if rck P S (nI o) 5 6 = 1 then 1 else 0))))) h' n) : bk_wp V (d + 5) 129 [.ref r, .int (nI o)] h n B Q := by
  obtain ⟨s0, s1, s2, s3, s4, s5, s6, s7, s8, s9, s10, s11, s12, s13⟩ := id hR
  obtain ⟨p0, p1, p2, p3, p4, p5, p6, p7, p8, p9, p10, p11, p12, p13, p14, p15⟩ := id hP
  have y0 := hY
  obtain ⟨a, e, hca, hce, i, c, hg1, hg2, hl, he, hg⟩ := ho
  have hk : rck P S (nI o) 5 6 = (evN P S c i []).headD 1 := rck_sg hg1 hg2 hl
  rcases hg with ⟨hc0, hae⟩ | ⟨hae, hg⟩
  · have hr0 : rck P S (nI o) 5 6 = 1 := by
      rw [hk, hc0]
      rfl
    refine bg_in rfl rfl ?_
    refine bg_aload0 rfl ?_
    refine bg_getfield rfl rfl s0 (by rfl) ?_
    refine bg_getfield rfl rfl y0 (by rfl) ?_
    refine bg_getfield rfl rfl p0 (by rfl) ?_
    refine bg_iload1 rfl ?_
    refine bg_iaload_n rfl p13 (by omega) (by omega) ?_
    refine bg_aload0 rfl ?_
    refine bg_getfield rfl rfl s0 (by rfl) ?_
    refine bg_getfield rfl rfl y0 (by rfl) ?_
    refine bg_getfield rfl rfl p0 (by rfl) ?_
    refine bg_iload1 rfl ?_
    refine bg_iaload_n rfl p12 (by omega) (by omega) ?_
    refine bg_icmp_eq rfl (fun e24 => ?_) (fun e24 => (e24 (by rw [hca, hce, hae])).elim)
    refine bg_iconst rfl ?_
    refine bg_goto rfl ?_
    refine bg_iret rfl rfl (by rfl) ?_
    exact bQ (hQ h A hR hr fr.refl) (if_pos hr0)
  · have hne : ¬ nI e = nI a := fun q => by
      have := congrArg Int32.toNatClampNeg q
      rw [nI_clamp (by omega), nI_clamp (by omega)] at this
      omega
    refine bg_in rfl rfl ?_
    refine bg_aload0 rfl ?_
    refine bg_getfield rfl rfl s0 (by rfl) ?_
    refine bg_getfield rfl rfl y0 (by rfl) ?_
    refine bg_getfield rfl rfl p0 (by rfl) ?_
    refine bg_iload1 rfl ?_
    refine bg_iaload_n rfl p13 (by omega) (by omega) ?_
    refine bg_aload0 rfl ?_
    refine bg_getfield rfl rfl s0 (by rfl) ?_
    refine bg_getfield rfl rfl y0 (by rfl) ?_
    refine bg_getfield rfl rfl p0 (by rfl) ?_
    refine bg_iload1 rfl ?_
    refine bg_iaload_n rfl p12 (by omega) (by omega) ?_
    refine bg_icmp_eq rfl (fun e24 => (hne (by rw [← hca, ← hce]; exact e24)).elim) (fun e24 => ?_)
    refine bg_aload0 rfl ?_
    refine bg_aload0 rfl ?_
    refine bg_getfield rfl rfl s0 (by rfl) ?_
    refine bg_getfield rfl rfl y0 (by rfl) ?_
    refine bg_getfield rfl rfl p0 (by rfl) ?_
    refine bg_iload1 rfl ?_
    refine bg_iaload_n rfl p12 (by omega) (by omega) ?_
    refine bg_aload0 rfl ?_
    refine bg_getfield rfl rfl s0 (by rfl) ?_
    refine bg_getfield rfl rfl y0 (by rfl) ?_
    refine bg_getfield rfl rfl p0 (by rfl) ?_
    refine bg_iload1 rfl ?_
    refine bg_iaload_n rfl p13 (by omega) (by omega) ?_
    rw [hca, hce]
    refine bg_virt2 rfl rfl rfl rfl ⟨_, by assumption⟩ ?_
    refine rb_carry he hs hd1 hd2 hR hr hP hY hg (fun h2 A2 hR2 hr2 hF2 => bk_Ki ?_)
    refine bg_iconst rfl ?_
    refine bg_icmp_ne rfl (fun e56 => ?_) (fun e56 => ?_)
    · rw [← hk] at e56
      refine bg_iconst rfl ?_
      refine bg_iret rfl rfl (by rfl) ?_
      exact bQ (hQ h2 A2 hR2 hr2 hF2) (by first | exact if_pos e56 | exact if_neg e56)
    · rw [← hk] at e56
      refine bg_iconst rfl ?_
      refine bg_goto rfl ?_
      refine bg_iret rfl rfl (by rfl) ?_
      exact bQ (hQ h2 A2 hR2 hr2 hF2) (by first | exact if_pos e56 | exact if_neg e56)
end RB
