/-! THE LAW: teach, mean. -/
theorem dc_same {x : UInt64} (h : vf_n64 x) : FP.dcmp x x = some .eq := by
  unfold vf_n64 at h
  rw [UInt64.le_iff_toNat_le, UInt64.toNat_and] at h
  have h2 : x.toNat &&& (2 ^ 63 - 1) ≤ 2047 * 2 ^ 52 := h
  rw [Nat.and_two_pow_sub_one_eq_mod] at h2
  have hx := de_ok h2
  show FP.Core.order (FP.Core.decode FP.Core.b64 x.toNat) (FP.Core.decode FP.Core.b64 x.toNat) = _
  generalize FP.Core.decode FP.Core.b64 x.toNat = dx at hx ⊢
  have hi : ∀ a : Int, compareOfLessAndEq a a = .eq := fun a => by
    unfold compareOfLessAndEq
    rw [if_neg (Int.lt_irrefl a), if_pos rfl]
  cases dx with
  | nan => exact absurd rfl hx
  | inf s => exact congrArg some (hi _)
  | fin s c q => exact congrArg some (hi _)
theorem me_ok {t : bT} (h : t.length ≤ 30) : vf_n64 (meF t) := by
  unfold meF
  by_cases e : t.length = 0
  · rw [if_pos e]
    unfold vf_n64
    decide
  · rw [if_neg e]
    exact dv_ok e h
section LC
variable {V : bk_V} {d n : Nat} {B : Nat × Nat} {Q : bk_R → bk_H → Nat → Prop} {h : bk_H} {a m x y o i H : Nat} {w : Nat → Int32} {cs : Nat × Nat} {z5 z6 z7 z8 : Option Value}
theorem lc_mean (z : LI V h n a m w x y o H) (hL : LW n a x y o) (hN : ∀ (h' : bk_H) (z5 z6 z7 z8 : Option Value), LI V h' n a m w x y o H → bk_g V (d + 70) 246 B Q 1497 [some (.ref a), some (.ref x), some (.ref y), some (.ref o), some (.int (nI i)), z5, z6, z7, z8] [] h' n cs) : bk_g V (d + 70) 246 B Q 1442 [some (.ref a), some (.ref x), some (.ref y), some (.ref o), some (.int (nI i)), z5, z6, z7, z8] [] h n cs := by
  obtain ⟨u, v, T, P, S, J, K, C, ep, gl, hC, hM, jep, hwp, hov, hgi, h7, hlo, har, hu⟩ := z
  obtain ⟨l1, l2, l3, l4⟩ := hL
  have h30 : (S.2 4).length ≤ 30 := hgi.1.2.2.1
  have hv := me_ok h30
  refine bg_aload1 rfl ?_
  refine bg_virt0 rfl rfl rfl rfl (CM.ob hC) ?_
  refine bb_mean hC (fun e => dv_ok e h30) (bk_Ki ?_)
  refine bg_dstore5 rfl rfl ?_
  refine bg_aload2 rfl ?_
  refine bg_virt0 rfl rfl rfl rfl (MD.ob hM) ?_
  refine mo_mean hM (fun e => dv_ok e h30) (fun h2 J2 hM j0 jj hf => bk_Ki ?_)
  refine bg_dstore7 rfl rfl ?_
  refine bg_dload5 rfl ?_
  refine bg_dload7 rfl ?_
  refine bg_dcmp rfl ?_
  rw [dc_same hv]
  refine bg_if_eq rfl (fun _ => ?_) (fun e => absurd rfl e)
  refine bg_goto rfl ?_
  exact hN h2 _ _ _ _ ⟨u, v, _, _, _, J2, K, C, ep, _, hC.kq fun q q1 q2 => hf q (by omega) (by omega), hM, jj.trans jep, hwp, hov, hgi, h7, (hf o (by omega) (by omega)).trans hlo, har, hu⟩
theorem lc_teach (z : LI V h n a m w x y o H) (hL : LW n a x y o) (b1 : cs.1 + 71 ≤ B.1) (b2 : cs.2 + 1415 ≤ B.2) (hN : ∀ (h' : bk_H) (n' : Nat) (cs' : Nat × Nat), LI V h' n' a m w x y o H → n ≤ n' → cs'.1 ≤ cs.1 + 71 → cs'.2 ≤ cs.2 + 1415 → bk_g V (d + 70) 246 B Q 1497 [some (.ref a), some (.ref x), some (.ref y), some (.ref o), some (.int (nI i)), z5, z6, z7, z8] [] h' n' cs') : bk_g V (d + 70) 246 B Q 312 [some (.ref a), some (.ref x), some (.ref y), some (.ref o), some (.int (nI i)), z5, z6, z7, z8] [] h n cs := by
  obtain ⟨u, v, T, P, S, J, K, C, ep, gl, hC, hM, jep, hwp, hov, hgi, h7, hlo, har, hu⟩ := z
  obtain ⟨l1, l2, l3, l4⟩ := hL
  refine bg_aload1 rfl ?_
  refine bg_virt0 rfl rfl rfl rfl (CM.ob hC) ?_
  refine bb_teach2 (d := d + 9) hC (fun rows f g et0 od0 hS hl hw => ⟨fun e1 e2 h1 hC1 w1 => bk_Ki ?_, fun e1 e2 h1 hC1 w1 => bk_Ki ?_, fun e1 h1 hC1 w1 => bk_Ki ?_⟩)
  · have hM := hM.kp (h' := h1) fun q hq => w1 q (by omega)
    have hlo : LO1 h1 o gl := (w1 o (by omega)).trans hlo
    refine bg_aload2 rfl ?_
    refine bg_virt0B (b := (16, 1409)) rfl rfl rfl rfl (MD.ob hM) (by show cs.1 + 16 ≤ _; omega) (by show cs.2 + 1409 ≤ _; omega) ?_
    refine mt_teach (d := d + 4) (et := et0) (od := od0) (CM.by hC).2 hS hl hw hM (by omega) hu.1 (Nat.le_refl _) (Nat.le_refl _) ⟨fun z1 z2 h2 J2 K2 C2 hM2 j2 hp hf => bk_Ki ?_, fun z1 z2 => absurd e2 z2, fun z1 => absurd e1 z1⟩
    refine bg_icmp_eq rfl (fun _ => ?_) (fun e => absurd rfl e)
    exact hN h2 (n + 16) _ ⟨n, n, [], _, _, J2, K2, C2, -1, gl, hC1.kq fun q q1 q2 => hf q (by omega) (by omega), hM2, j2, hp.2.1, hp.2.2.1, GI_b hgi hp, h7, (hf o (by omega) (by omega)).trans hlo, har, by omega⟩ (by omega) (by show cs.1 + 16 ≤ _; omega) (by show cs.2 + 1409 ≤ _; omega)
  · have hM := hM.kp (h' := h1) fun q hq => w1 q (by omega)
    have hlo : LO1 h1 o gl := (w1 o (by omega)).trans hlo
    refine bg_aload2 rfl ?_
    refine bg_virt0B (b := (16, 1409)) rfl rfl rfl rfl (MD.ob hM) (by show cs.1 + 16 ≤ _; omega) (by show cs.2 + 1409 ≤ _; omega) ?_
    refine mt_teach (d := d + 4) (et := et0) (od := od0) (CM.by hC).2 hS hl hw hM (by omega) hu.1 (Nat.le_refl _) (Nat.le_refl _) ⟨fun z1 z2 => absurd z2 e2, fun z1 z2 h2 J2 hM2 j2 hf => bk_Ki ?_, fun z1 => absurd e1 z1⟩
    refine bg_icmp_eq rfl (fun _ => ?_) (fun e => absurd rfl e)
    exact hN h2 (n + 16) _ ⟨u, n, [], _, _, J2, K, C, _, gl, hC1.kq fun q q1 q2 => hf q (by omega) (by omega), hM2, j2, hwp, hov, hgi, h7, (hf o (by omega) (by omega)).trans hlo, har, by omega⟩ (by omega) (by show cs.1 + 16 ≤ _; omega) (by show cs.2 + 1409 ≤ _; omega)
  · have hM := hM.kp (h' := h1) fun q hq => w1 q (by omega)
    have hlo : LO1 h1 o gl := (w1 o (by omega)).trans hlo
    refine bg_aload2 rfl ?_
    refine bg_virt0B (b := (16, 1409)) rfl rfl rfl rfl (MD.ob hM) (by show cs.1 + 16 ≤ _; omega) (by show cs.2 + 1409 ≤ _; omega) ?_
    refine mt_teach (d := d + 4) (et := et0) (od := od0) (CM.by hC).2 hS hl hw hM (by omega) hu.1 (Nat.le_refl _) (Nat.le_refl _) ⟨fun z1 => absurd z1 e1, fun z1 => absurd z1 e1, fun z1 h2 J2 hM2 j2 hf => bk_Ki ?_⟩
    refine bg_icmp_eq rfl (fun _ => ?_) (fun e => absurd rfl e)
    exact hN h2 (n + 16) _ ⟨u, n, [], _, _, J2, K, C, _, gl, hC1.kq fun q q1 q2 => hf q (by omega) (by omega), hM2, j2, hwp, hov, hgi, h7, (hf o (by omega) (by omega)).trans hlo, har, by omega⟩ (by omega) (by show cs.1 + 16 ≤ _; omega) (by show cs.2 + 1409 ≤ _; omega)
end LC
