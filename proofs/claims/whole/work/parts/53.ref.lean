/-! THE REFERENCE: a calculation carried out. The model at y (numbers J: 0 thrown 1 size 2 errorAt 3 token 4 depth), its Plans u (obeyed) and v (being read). Printed by wip/whole/mk53.py. -/
def YO (h : bk_H) (y : Nat) (J : rI) (u v : Nat) : Prop := h y = some (.inr (13, [.int (J 0), .ref (y + 1), .int (J 1), .int (J 2), .ref (y + 2), .ref (y + 3), .ref (y + 4), .ref (y + 5), .ref (y + 6), .int (J 3), .int (J 4), .ref u, .ref v, .ref (y + 23), .ref (y + 37)]))
/-- the reference's integers f from a to e say the component's rows from i; k values wait -/
def sgR (P : Nat → bT) (f : Nat → Int32) : Nat → Nat → Nat → Nat → Nat → Prop
  | 0, _, a, e, k => a = e ∧ k = 1
  | c + 1, i, a, e, k =>
    (rG (P 4) (nI i) 2 = 0 ∧ k < 64 ∧ kP (rG (P 4) (nI i) 0) (f a) ∧ vlR P (rG (P 4) (nI i) 0) (rG (P 4) (nI i) 1) ∧
      ((f a = 30 ∧ f (a + 1) = rG (P 4) (nI i) 1 ∧ a + 2 ≤ e ∧ sgR P f c (i + 1) (a + 2) e (k + 1)) ∨ (f a ≠ 30 ∧ ofR (f a) ∧ f (a + 1) = rG (P 4) (nI i) 1 ∧ a + 2 ≤ e ∧ sgR P f c (i + 1) (a + 2) e (k + 1)) ∨ (alR (f a) ∧ a < e ∧ sgR P f c (i + 1) (a + 1) e (k + 1)))) ∨
    (rG (P 4) (nI i) 2 = 1 ∧ 1 ≤ k ∧ kU (rG (P 4) (nI i) 0) (f a) ∧ a < e ∧ sgR P f c (i + 1) (a + 1) e k) ∨
    (rG (P 4) (nI i) 2 = 2 ∧ 2 ≤ k ∧ kB (rG (P 4) (nI i) 0) (f a) ∧ a < e ∧ sgR P f c (i + 1) (a + 1) e (k - 1))
theorem kU_n {k w : Int32} (h : kU k w) : ¬ puR w ∧ (w = 31 ∧ k = 48 ∨ w = 24 ∧ k = 25) := by
  rcases h with ⟨a1, a2⟩ | ⟨a1, a2⟩ <;> subst a1 a2 <;> decide
theorem kB_n {k w : Int32} (h : kB k w) : ¬ puR w ∧ w ≠ 31 ∧ w ≠ 24 := by
  rcases h with ⟨a1, a2⟩ | ⟨a1, a2⟩ | ⟨a1, a2⟩ | ⟨a1, a2⟩ | ⟨a1, a2⟩ | ⟨a1, a2⟩ | ⟨a1, a2⟩ | ⟨a1, a2⟩ | ⟨a1, a2⟩ | ⟨a1, a2⟩ | ⟨a1, a2⟩ | ⟨a1, a2⟩ | ⟨a1, a2⟩ <;> subst a1 a2 <;> decide
theorem alR_n {w : Int32} (h : alR w) : w ≠ 30 ∧ ¬ ofR w ∧ puR w := by
  rcases h with rfl | rfl | rfl <;> decide
theorem nI_up (k : Nat) : nI k - 1 + 1 = nI k := Int32.sub_add_cancel _ _
theorem nI_dn (k : Nat) : nI (k + 1) - 1 = nI k := by
  rw [← nI_1]
  exact Int32.add_sub_cancel _ _
theorem nI_dn' (k : Nat) : nI (k + 1) + (-1) = nI k := (Int32.sub_eq_add_neg _ 1).symm.trans (nI_dn k)
section RB
variable {V : bk_V} {d n : Nat} {B : Nat × Nat} {Q : bk_R → bk_H → Nat → Prop} {h : bk_H} {r y u v : Nat} {P : Nat → bT} {S : bS} {I J K : rI} {A C : rA} {cs : Nat × Nat}
theorem RR_12 {S : bS} {I : rI} {A : rA} {f : Nat → Int32} (h : RR S I A) : RR S I (uA A 12 f) := h
theorem RO.b12 {h h' : bk_H} {r y : Nat} {I : rI} {A : rA} {f : Nat → Int32} (z : RO h r y I A) (k : h' (r + 13) = some (.inl (0, 400, .inl f))) (w : ∀ q, q ≠ r + 13 → h' q = h q) : RO h' r y I (uA A 12 f) ∧ fr h h' (r + 13) (r + 14) := ⟨(RO.a12 z k w).1, fr.one w⟩
theorem nI_lt_self {a : Int32} (h : a < a) : False := absurd h ((Int32.lt_irrefl))
theorem vl_al {k w : Int32} (q : k = 2 ∨ k = 19 ∨ k = 20) (ha : alR w) : ¬ kP k w := by
  rcases q with rfl | rfl | rfl <;> rcases ha with rfl | rfl | rfl <;> (unfold kP; decide)
theorem vO_al {k w a b : Int32} {S : bS} (hk : kP k w) (ha : alR w) : vO S k a = vO S k b := by
  rcases hk with ⟨a1, a2⟩ | ⟨a1, a2⟩ | ⟨a1, a2⟩ | ⟨a1, a2⟩ | ⟨a1, a2⟩ | ⟨a1, a2⟩ | ⟨a1, a2⟩ | ⟨a1, a2⟩ | ⟨a1, a2⟩ <;> subst a1 a2 <;> first | rfl | exact absurd ha (by decide)
theorem rb_carryL {e : Nat} {h0 : bk_H} {b0 : Int32} (he : e ≤ 800) (hs : SH P S) (hd1 : u + 16 ≤ r ∨ r + 14 ≤ u) (hd2 : y < r ∨ r + 14 ≤ y) : ∀ (c : Nat) {h : bk_H} {A : rA} (i a : Nat) (stk : List Int32) (t : Int32) (x : Option Value), RO h r y I A → RR S I A → PO h u K C → YO h y J u v → fr h0 h (r + 13) (r + 14) → SR (A 12) stk → t = nI stk.length - 1 → stk.length ≤ 64 → sgR P (C 13) c i a e stk.length → (∀ h' A', RO h' r y I A' → RR S I A' → fr h0 h' (r + 13) (r + 14) → Q (.inl (some (.int ((evN P S c i stk).headD 1)))) h' n) → bk_g V (d + 3) 144 B Q 5 [some (.ref r), some (.int b0), some (.int (nI e)), some (.int t), some (.int (nI a)), x] [] h n cs := by
  intro c
  induction c with
  | zero =>
    intro h A i a stk t x hR hr hP hY hF hS ht hl hg hQ
    obtain ⟨rfl, hk1⟩ := hg
    obtain ⟨z, rfl⟩ : ∃ z, stk = [z] := List.length_eq_one_iff.mp hk1
    have hz : A 12 0 = z := hS.1
    obtain ⟨s0, s1, s2, s3, s4, s5, s6, s7, s8, s9, s10, s11, s12, s13⟩ := id hR
    refine bg_iload4 rfl ?_
    refine bg_iload2 rfl ?_
    refine bg_icmp_ge rfl (fun e8 => ?_) (fun e8 => (nI_lt_self e8).elim)
    refine bg_aload0 rfl ?_
    refine bg_getfield rfl rfl s0 (by rfl) ?_
    refine bg_iconst rfl ?_
    refine bg_iaload_n (i := 0) rfl s13 (by omega) (by omega) ?_
    refine bg_iret rfl rfl (by rfl) ?_
    rw [hz]
    exact hQ h A hR hr hF
  | succ c ih =>
    intro h A i a stk t x hR hr hP hY hF hS ht hl hg hQ
    obtain ⟨s0, s1, s2, s3, s4, s5, s6, s7, s8, s9, s10, s11, s12, s13⟩ := id hR
    obtain ⟨p0, p1, p2, p3, p4, p5, p6, p7, p8, p9, p10, p11, p12, p13, p14, p15⟩ := id hP
    have y0 := hY
    rcases hg with ⟨hsd, hk64, hkP, hvl, hg⟩ | ⟨hsd, hk1, hkU, hae, hg⟩ | ⟨hsd, hk2, hkB, hae, hg⟩
    · have hev : evN P S (c + 1) i stk = evN P S c (i + 1) (vO S (rG (P 4) (nI i) 0) (rG (P 4) (nI i) 1) :: stk) := by
        show evN P S c (i + 1) (ev1 S _ _ _ stk) = _
        rw [hsd]
        rfl
      rw [hev] at hQ
      subst ht
      rcases hg with hg | hg | hg
      · obtain ⟨hw, hop, hae, hg⟩ := hg
        have hpu : puR (C 13 a) := Or.inl hw
        refine bg_iload4 rfl ?_
        refine bg_iload2 rfl ?_
        refine bg_icmp_ge rfl (fun e8 => absurd (nI_lt (by omega) (by omega)) e8) (fun e8 => ?_)
        refine bg_aload0 rfl ?_
        refine bg_getfield rfl rfl s0 (by rfl) ?_
        refine bg_getfield rfl rfl y0 (by rfl) ?_
        refine bg_getfield rfl rfl p0 (by rfl) ?_
        refine bg_iload4 rfl ?_
        refine bg_iaload_n rfl p14 (by omega) (by omega) ?_
        refine bg_istore5 rfl rfl ?_
        refine bg_iinc4 rfl rfl ?_
        rw [nI_1]
        refine bg_iload5 rfl ?_
        refine bg_stat1 rfl rfl rfl rfl ?_
        refine rb_isPushed (bk_Ki ?_)
        refine bg_ifeq_b rfl (fun e34 => (e34 hpu).elim) (fun e34 => ?_)
        refine bg_iinc3 rfl rfl ?_
        rw [nI_up]
        refine bg_aload0 rfl ?_
        refine bg_getfield rfl rfl s0 (by rfl) ?_
        refine bg_iload3 rfl ?_
        refine bg_aload0 rfl ?_
        refine bg_iload5 rfl ?_
        refine bg_iload5 rfl ?_
        refine bg_bipush rfl ?_
        refine bg_icmp_eq rfl (fun e52 => ?_) (fun e52 => (e52 hw).elim)
        refine bg_aload0 rfl ?_
        refine bg_getfield rfl rfl s0 (by rfl) ?_
        refine bg_getfield rfl rfl y0 (by rfl) ?_
        refine bg_getfield rfl rfl p0 (by rfl) ?_
        refine bg_iload4 rfl ?_
        refine bg_iaload_n rfl p14 (by omega) (by omega) ?_
        refine bg_goto rfl ?_
        rw [hop]
        refine bg_virt2 rfl rfl rfl rfl ⟨_, by assumption⟩ ?_
        refine rb_pushed hkP hvl hR hr hs (bk_Ki ?_)
        refine bg_iastore_n rfl s13 (by omega) (by omega) (fun h83 f83 g83 => ?_)
        obtain ⟨hR1, hF1⟩ := RO.b12 hR f83 g83
        refine bg_iload4 rfl ?_
        refine bg_iload5 rfl ?_
        refine bg_bipush rfl ?_
        refine bg_icmp_eq rfl (fun e90 => ?_) (fun e90 => (e90 hw).elim)
        refine bg_iconst rfl ?_
        refine bg_goto rfl ?_
        refine bg_iadd rfl ?_
        rw [nI_1]
        refine bg_istore4 rfl rfl ?_
        refine bg_goto rfl ?_
        exact ih (i + 1) (a + 2) (_ :: stk) _ _ hR1 (RR_12 hr) (hP.kp hF1 (by omega)) ((hF1 y (by omega)).trans hY) (hF.trans hF1) (⟨if_pos rfl, SR_upd hS (Nat.le_refl _)⟩) ((nI_dn _).symm) (by simp only [List.length_cons] at hl ⊢; omega) (hg) hQ
      · obtain ⟨hw, hof, hop, hae, hg⟩ := hg
        have hpu : puR (C 13 a) := Or.inr (Or.inr hof)
        refine bg_iload4 rfl ?_
        refine bg_iload2 rfl ?_
        refine bg_icmp_ge rfl (fun e8 => absurd (nI_lt (by omega) (by omega)) e8) (fun e8 => ?_)
        refine bg_aload0 rfl ?_
        refine bg_getfield rfl rfl s0 (by rfl) ?_
        refine bg_getfield rfl rfl y0 (by rfl) ?_
        refine bg_getfield rfl rfl p0 (by rfl) ?_
        refine bg_iload4 rfl ?_
        refine bg_iaload_n rfl p14 (by omega) (by omega) ?_
        refine bg_istore5 rfl rfl ?_
        refine bg_iinc4 rfl rfl ?_
        rw [nI_1]
        refine bg_iload5 rfl ?_
        refine bg_stat1 rfl rfl rfl rfl ?_
        refine rb_isPushed (bk_Ki ?_)
        refine bg_ifeq_b rfl (fun e34 => (e34 hpu).elim) (fun e34 => ?_)
        refine bg_iinc3 rfl rfl ?_
        rw [nI_up]
        refine bg_aload0 rfl ?_
        refine bg_getfield rfl rfl s0 (by rfl) ?_
        refine bg_iload3 rfl ?_
        refine bg_aload0 rfl ?_
        refine bg_iload5 rfl ?_
        refine bg_iload5 rfl ?_
        refine bg_bipush rfl ?_
        refine bg_icmp_eq rfl (fun e52 => (hw e52).elim) (fun e52 => ?_)
        refine bg_iload5 rfl ?_
        refine bg_stat1 rfl rfl rfl rfl ?_
        refine rb_isOf (bk_Ki ?_)
        refine bg_ifeq_b rfl (fun e60 => (e60 hof).elim) (fun e60 => ?_)
        refine bg_aload0 rfl ?_
        refine bg_getfield rfl rfl s0 (by rfl) ?_
        refine bg_getfield rfl rfl y0 (by rfl) ?_
        refine bg_getfield rfl rfl p0 (by rfl) ?_
        refine bg_iload4 rfl ?_
        refine bg_iaload_n rfl p14 (by omega) (by omega) ?_
        refine bg_goto rfl ?_
        rw [hop]
        refine bg_virt2 rfl rfl rfl rfl ⟨_, by assumption⟩ ?_
        refine rb_pushed hkP hvl hR hr hs (bk_Ki ?_)
        refine bg_iastore_n rfl s13 (by omega) (by omega) (fun h83 f83 g83 => ?_)
        obtain ⟨hR1, hF1⟩ := RO.b12 hR f83 g83
        refine bg_iload4 rfl ?_
        refine bg_iload5 rfl ?_
        refine bg_bipush rfl ?_
        refine bg_icmp_eq rfl (fun e90 => (hw e90).elim) (fun e90 => ?_)
        refine bg_iload5 rfl ?_
        refine bg_stat1 rfl rfl rfl rfl ?_
        refine rb_isOf (bk_Ki ?_)
        refine bg_ifeq_b rfl (fun e98 => (e98 hof).elim) (fun e98 => ?_)
        refine bg_iconst rfl ?_
        refine bg_goto rfl ?_
        refine bg_iadd rfl ?_
        rw [nI_1]
        refine bg_istore4 rfl rfl ?_
        refine bg_goto rfl ?_
        exact ih (i + 1) (a + 2) (_ :: stk) _ _ hR1 (RR_12 hr) (hP.kp hF1 (by omega)) ((hF1 y (by omega)).trans hY) (hF.trans hF1) (⟨if_pos rfl, SR_upd hS (Nat.le_refl _)⟩) ((nI_dn _).symm) (by simp only [List.length_cons] at hl ⊢; omega) (hg) hQ
      · obtain ⟨hal, hae, hg⟩ := hg
        obtain ⟨hw, hof, hpu⟩ := alR_n hal
        refine bg_iload4 rfl ?_
        refine bg_iload2 rfl ?_
        refine bg_icmp_ge rfl (fun e8 => absurd (nI_lt (by omega) (by omega)) e8) (fun e8 => ?_)
        refine bg_aload0 rfl ?_
        refine bg_getfield rfl rfl s0 (by rfl) ?_
        refine bg_getfield rfl rfl y0 (by rfl) ?_
        refine bg_getfield rfl rfl p0 (by rfl) ?_
        refine bg_iload4 rfl ?_
        refine bg_iaload_n rfl p14 (by omega) (by omega) ?_
        refine bg_istore5 rfl rfl ?_
        refine bg_iinc4 rfl rfl ?_
        rw [nI_1]
        refine bg_iload5 rfl ?_
        refine bg_stat1 rfl rfl rfl rfl ?_
        refine rb_isPushed (bk_Ki ?_)
        refine bg_ifeq_b rfl (fun e34 => (e34 hpu).elim) (fun e34 => ?_)
        refine bg_iinc3 rfl rfl ?_
        rw [nI_up]
        refine bg_aload0 rfl ?_
        refine bg_getfield rfl rfl s0 (by rfl) ?_
        refine bg_iload3 rfl ?_
        refine bg_aload0 rfl ?_
        refine bg_iload5 rfl ?_
        refine bg_iload5 rfl ?_
        refine bg_bipush rfl ?_
        refine bg_icmp_eq rfl (fun e52 => (hw e52).elim) (fun e52 => ?_)
        refine bg_iload5 rfl ?_
        refine bg_stat1 rfl rfl rfl rfl ?_
        refine rb_isOf (bk_Ki ?_)
        refine bg_ifeq_b rfl (fun e60 => ?_) (fun e60 => (hof e60).elim)
        refine bg_iconst rfl ?_
        refine bg_virt2 rfl rfl rfl rfl ⟨_, by assumption⟩ ?_
        have hva : vlR P (rG (P 4) (nI i) 0) (-1) := fun q => absurd hkP (vl_al q hal)
        have hve : vO S (rG (P 4) (nI i) 0) (-1) = vO S (rG (P 4) (nI i) 0) (rG (P 4) (nI i) 1) := vO_al hkP hal
        refine rb_pushed hkP hva hR hr hs (bk_Ki ?_)
        rw [hve]
        refine bg_iastore_n rfl s13 (by omega) (by omega) (fun h83 f83 g83 => ?_)
        obtain ⟨hR1, hF1⟩ := RO.b12 hR f83 g83
        refine bg_iload4 rfl ?_
        refine bg_iload5 rfl ?_
        refine bg_bipush rfl ?_
        refine bg_icmp_eq rfl (fun e90 => (hw e90).elim) (fun e90 => ?_)
        refine bg_iload5 rfl ?_
        refine bg_stat1 rfl rfl rfl rfl ?_
        refine rb_isOf (bk_Ki ?_)
        refine bg_ifeq_b rfl (fun e98 => ?_) (fun e98 => (hof e98).elim)
        refine bg_iconst rfl ?_
        refine bg_iadd rfl ?_
        rw [Int32.add_zero]
        refine bg_istore4 rfl rfl ?_
        refine bg_goto rfl ?_
        exact ih (i + 1) (a + 1) (_ :: stk) _ _ hR1 (RR_12 hr) (hP.kp hF1 (by omega)) ((hF1 y (by omega)).trans hY) (hF.trans hF1) (⟨if_pos rfl, SR_upd hS (Nat.le_refl _)⟩) ((nI_dn _).symm) (by simp only [List.length_cons] at hl ⊢; omega) (hg) hQ
    · obtain ⟨s, tl, rfl⟩ : ∃ s tl, stk = s :: tl := by
        cases stk with
        | nil => exact absurd hk1 (by decide)
        | cons s tl => exact ⟨s, tl, rfl⟩
      have hev : evN P S (c + 1) i (s :: tl) = evN P S c (i + 1) (rO (rG (P 4) (nI i) 0) 0 s :: tl) := by
        show evN P S c (i + 1) (ev1 S _ _ _ (s :: tl)) = _
        rw [hsd]
        rfl
      rw [hev] at hQ
      have ht1 : t = nI tl.length := ht.trans (nI_dn _)
      subst ht1
      have hl1 : tl.length + 1 ≤ 64 := hl
      obtain ⟨hnp, hU⟩ := kU_n hkU
      have hs0 : A 12 tl.length = s := hS.1
      rcases hU with ⟨hw, hk⟩ | ⟨hw, hk⟩
      · refine bg_iload4 rfl ?_
        refine bg_iload2 rfl ?_
        refine bg_icmp_ge rfl (fun e8 => absurd (nI_lt (by omega) (by omega)) e8) (fun e8 => ?_)
        refine bg_aload0 rfl ?_
        refine bg_getfield rfl rfl s0 (by rfl) ?_
        refine bg_getfield rfl rfl y0 (by rfl) ?_
        refine bg_getfield rfl rfl p0 (by rfl) ?_
        refine bg_iload4 rfl ?_
        refine bg_iaload_n rfl p14 (by omega) (by omega) ?_
        refine bg_istore5 rfl rfl ?_
        refine bg_iinc4 rfl rfl ?_
        rw [nI_1]
        refine bg_iload5 rfl ?_
        refine bg_stat1 rfl rfl rfl rfl ?_
        refine rb_isPushed (bk_Ki ?_)
        refine bg_ifeq_b rfl (fun e34 => ?_) (fun e34 => (hnp e34).elim)
        refine bg_iload5 rfl ?_
        refine bg_bipush rfl ?_
        refine bg_icmp_eq rfl (fun e116 => ?_) (fun e116 => (e116 hw).elim)
        refine bg_aload0 rfl ?_
        refine bg_getfield rfl rfl s0 (by rfl) ?_
        refine bg_iload3 rfl ?_
        refine bg_iload5 rfl ?_
        refine bg_bipush rfl ?_
        refine bg_icmp_ne rfl (fun e135 => (e135 hw).elim) (fun e135 => ?_)
        refine bg_aload0 rfl ?_
        refine bg_getfield rfl rfl s0 (by rfl) ?_
        refine bg_iload3 rfl ?_
        refine bg_iaload_n rfl s13 (by omega) (by omega) ?_
        refine bg_ineg rfl ?_
        refine bg_goto rfl ?_
        refine bg_iastore_n rfl s13 (by omega) (by omega) (fun h156 f156 g156 => ?_)
        obtain ⟨hR1, hF1⟩ := RO.b12 hR f156 g156
        refine bg_goto rfl ?_
        exact ih (i + 1) (a + 1) (rO (rG (P 4) (nI i) 0) 0 s :: tl) _ _ hR1 (RR_12 hr) (hP.kp hF1 (by omega)) ((hF1 y (by omega)).trans hY) (hF.trans hF1) (⟨(if_pos rfl).trans (by rw [hk, hs0]; rfl), SR_upd hS.2 (Nat.le_refl _)⟩) ((nI_dn _).symm) (by simp only [List.length_cons] at hl ⊢; omega) (hg) hQ
      · refine bg_iload4 rfl ?_
        refine bg_iload2 rfl ?_
        refine bg_icmp_ge rfl (fun e8 => absurd (nI_lt (by omega) (by omega)) e8) (fun e8 => ?_)
        refine bg_aload0 rfl ?_
        refine bg_getfield rfl rfl s0 (by rfl) ?_
        refine bg_getfield rfl rfl y0 (by rfl) ?_
        refine bg_getfield rfl rfl p0 (by rfl) ?_
        refine bg_iload4 rfl ?_
        refine bg_iaload_n rfl p14 (by omega) (by omega) ?_
        refine bg_istore5 rfl rfl ?_
        refine bg_iinc4 rfl rfl ?_
        rw [nI_1]
        refine bg_iload5 rfl ?_
        refine bg_stat1 rfl rfl rfl rfl ?_
        refine rb_isPushed (bk_Ki ?_)
        refine bg_ifeq_b rfl (fun e34 => ?_) (fun e34 => (hnp e34).elim)
        refine bg_iload5 rfl ?_
        refine bg_bipush rfl ?_
        refine bg_icmp_eq rfl (fun e116 => absurd (hw.symm.trans e116) (by decide)) (fun e116 => ?_)
        refine bg_iload5 rfl ?_
        refine bg_bipush rfl ?_
        refine bg_icmp_ne rfl (fun e123 => (e123 hw).elim) (fun e123 => ?_)
        refine bg_aload0 rfl ?_
        refine bg_getfield rfl rfl s0 (by rfl) ?_
        refine bg_iload3 rfl ?_
        refine bg_iload5 rfl ?_
        refine bg_bipush rfl ?_
        refine bg_icmp_ne rfl (fun e135 => ?_) (fun e135 => absurd (hw.symm.trans e135) (by decide))
        refine bg_iconst rfl ?_
        refine bg_aload0 rfl ?_
        refine bg_getfield rfl rfl s0 (by rfl) ?_
        refine bg_iload3 rfl ?_
        refine bg_iaload_n rfl s13 (by omega) (by omega) ?_
        refine bg_isub rfl ?_
        refine bg_iastore_n rfl s13 (by omega) (by omega) (fun h156 f156 g156 => ?_)
        obtain ⟨hR1, hF1⟩ := RO.b12 hR f156 g156
        refine bg_goto rfl ?_
        exact ih (i + 1) (a + 1) (rO (rG (P 4) (nI i) 0) 0 s :: tl) _ _ hR1 (RR_12 hr) (hP.kp hF1 (by omega)) ((hF1 y (by omega)).trans hY) (hF.trans hF1) (⟨(if_pos rfl).trans (by rw [hk, hs0]; rfl), SR_upd hS.2 (Nat.le_refl _)⟩) ((nI_dn _).symm) (by simp only [List.length_cons] at hl ⊢; omega) (hg) hQ
    · obtain ⟨s, z, tl, rfl⟩ : ∃ s z tl, stk = s :: z :: tl := by
        rcases stk with _ | ⟨s, _ | ⟨z, tl⟩⟩
        · exact absurd hk2 (by simp)
        · exact absurd hk2 (by simp)
        · exact ⟨s, z, tl, rfl⟩
      have hev : evN P S (c + 1) i (s :: z :: tl) = evN P S c (i + 1) (rO (rG (P 4) (nI i) 0) z s :: tl) := by
        show evN P S c (i + 1) (ev1 S _ _ _ (s :: z :: tl)) = _
        rw [hsd]
        rfl
      rw [hev] at hQ
      have ht1 : t = nI (tl.length + 1) := ht.trans (nI_dn _)
      subst ht1
      have hl1 : tl.length + 2 ≤ 64 := hl
      obtain ⟨hnp, hw1, hw2⟩ := kB_n hkB
      have hs0 : A 12 (tl.length + 1) = s := hS.1
      have hs1 : A 12 tl.length = z := hS.2.1
      refine bg_iload4 rfl ?_
      refine bg_iload2 rfl ?_
      refine bg_icmp_ge rfl (fun e8 => absurd (nI_lt (by omega) (by omega)) e8) (fun e8 => ?_)
      refine bg_aload0 rfl ?_
      refine bg_getfield rfl rfl s0 (by rfl) ?_
      refine bg_getfield rfl rfl y0 (by rfl) ?_
      refine bg_getfield rfl rfl p0 (by rfl) ?_
      refine bg_iload4 rfl ?_
      refine bg_iaload_n rfl p14 (by omega) (by omega) ?_
      refine bg_istore5 rfl rfl ?_
      refine bg_iinc4 rfl rfl ?_
      rw [nI_1]
      refine bg_iload5 rfl ?_
      refine bg_stat1 rfl rfl rfl rfl ?_
      refine rb_isPushed (bk_Ki ?_)
      refine bg_ifeq_b rfl (fun e34 => ?_) (fun e34 => (hnp e34).elim)
      refine bg_iload5 rfl ?_
      refine bg_bipush rfl ?_
      refine bg_icmp_eq rfl (fun e116 => (hw1 e116).elim) (fun e116 => ?_)
      refine bg_iload5 rfl ?_
      refine bg_bipush rfl ?_
      refine bg_icmp_ne rfl (fun e123 => ?_) (fun e123 => (hw2 e123).elim)
      refine bg_iinc3 rfl rfl ?_
      rw [nI_dn']
      refine bg_aload0 rfl ?_
      refine bg_getfield rfl rfl s0 (by rfl) ?_
      refine bg_iload3 rfl ?_
      refine bg_iload5 rfl ?_
      refine bg_aload0 rfl ?_
      refine bg_getfield rfl rfl s0 (by rfl) ?_
      refine bg_iload3 rfl ?_
      refine bg_iaload_n rfl s13 (by omega) (by omega) ?_
      refine bg_aload0 rfl ?_
      refine bg_getfield rfl rfl s0 (by rfl) ?_
      refine bg_iload3 rfl ?_
      refine bg_iconst rfl ?_
      refine bg_iadd rfl ?_
      rw [nI_1]
      refine bg_iaload_n rfl s13 (by omega) (by omega) ?_
      refine bg_stat3 rfl rfl rfl rfl ?_
      refine rb_both hkB (bk_Ki ?_)
      refine bg_iastore_n rfl s13 (by omega) (by omega) (fun h187 f187 g187 => ?_)
      obtain ⟨hR1, hF1⟩ := RO.b12 hR f187 g187
      refine bg_goto rfl ?_
      exact ih (i + 1) (a + 1) (rO (rG (P 4) (nI i) 0) z s :: tl) _ _ hR1 (RR_12 hr) (hP.kp hF1 (by omega)) ((hF1 y (by omega)).trans hY) (hF.trans hF1) (⟨(if_pos rfl).trans (by rw [hs0, hs1]), SR_upd hS.2.2 (Nat.le_refl _)⟩) ((nI_dn _).symm) (by simp only [List.length_cons] at hl ⊢; omega) (hg) hQ

end RB
