/-! THE LAW: the cases that are not tried. -/
section LC
variable {V : bk_V} {d n : Nat} {B : Nat × Nat} {Q : bk_R → bk_H → Nat → Prop} {h : bk_H} {a m x y o i H : Nat} {w : Nat → Int32} {cs : Nat × Nat} {z5 z6 z7 z8 : Option Value}
theorem lc_errorAt (z : LI V h n a m w x y o H) (hL : LW n a x y o) (hN : ∀ (h' : bk_H), LI V h' n a m w x y o H → bk_g V (d + 70) 246 B Q 1497 [some (.ref a), some (.ref x), some (.ref y), some (.ref o), some (.int (nI i)), z5, z6, z7, z8] [] h' n cs) : bk_g V (d + 70) 246 B Q 325 [some (.ref a), some (.ref x), some (.ref y), some (.ref o), some (.int (nI i)), z5, z6, z7, z8] [] h n cs := by
  obtain ⟨u, v, T, P, S, J, K, C, ep, gl, hC, hM, jep, hwp, hov, hgi, h7, hlo, har, hu⟩ := z
  obtain ⟨l1, l2, l3, l4⟩ := hL
  refine bg_aload1 rfl ?_
  refine bg_virt0 rfl rfl rfl rfl (CM.ob hC) ?_
  refine bb_errorAt hC (bk_Ki ?_)
  refine bg_aload2 rfl ?_
  refine bg_virt0 rfl rfl rfl rfl (MD.ob hM) ?_
  refine mo_errorAt hM (fun h2 J2 hM j0 jj hf => bk_Ki ?_)
  rw [jep]
  refine bg_icmp_eq rfl (fun _ => ?_) (fun e => absurd rfl e)
  exact hN h2 ⟨u, v, _, _, _, J2, K, C, ep, _, hC.kq fun q q1 q2 => hf q (by omega) (by omega), hM, jj.trans jep, hwp, hov, hgi, h7, (hf o (by omega) (by omega)).trans hlo, har, hu⟩
theorem lc_digest (z : LI V h n a m w x y o H) (hL : LW n a x y o) (hH : H + 300 < 10000000) (b1 : cs.1 + 71 ≤ B.1) (b2 : cs.2 + 1415 ≤ B.2) (hN : ∀ (h' : bk_H) (n' : Nat) (cs' : Nat × Nat), LI V h' n' a m w x y o H → n ≤ n' → cs'.1 ≤ cs.1 + 71 → cs'.2 ≤ cs.2 + 1415 → bk_g V (d + 70) 246 B Q 1497 [some (.ref a), some (.ref x), some (.ref y), some (.ref o), some (.int (nI i)), z5, z6, z7, z8] [] h' n' cs') : bk_g V (d + 70) 246 B Q 1483 [some (.ref a), some (.ref x), some (.ref y), some (.ref o), some (.int (nI i)), z5, z6, z7, z8] [] h n cs := by
  obtain ⟨u, v, T, P, S, J, K, C, ep, gl, hC, hM, jep, hwp, hov, hgi, h7, hlo, har, hu⟩ := z
  obtain ⟨l1, l2, l3, l4⟩ := hL
  obtain ⟨mh, kh, hb0, hb4, hb1, hb2⟩ := hgi.2.2.1
  refine bg_aload1 rfl ?_
  refine bg_virt0 rfl rfl rfl rfl (CM.ob hC) ?_
  refine bb_digest hwp hC (fun h1 hC w1 => bk_Ki ?_)
  have hM := hM.kp (h' := h1) fun q hq => w1 q (by omega)
  have hlo : LO1 h1 o gl := (w1 o (by omega)).trans hlo
  refine bg_aload2 rfl ?_
  refine bg_virt0B (b := (70, 500)) rfl rfl rfl rfl (MD.ob hM) (by show cs.1 + 70 ≤ _; omega) (by show cs.2 + 500 ≤ _; omega) ?_
  refine mo_digest hgi.2.1 hb0 (by omega) hM ⟨by omega, by omega⟩ (Nat.le_refl _) (Nat.le_refl _) (fun h2 n2 J2 hM j0 jj hn2 hf => bk_Ki ?_)
  refine bg_lcmp rfl ?_
  rw [lc_same]
  refine bg_if_eq rfl (fun _ => ?_) (fun e => absurd rfl e)
  exact hN h2 n2 _ ⟨u, v, _, _, _, J2, K, C, ep, _, hC.kq fun q q1 q2 => hf q (by omega) (by omega), hM, jj.trans jep, hwp, hov, hgi, h7, (hf o (by omega) (by omega)).trans hlo, har, by omega⟩ hn2 (by show cs.1 + 70 ≤ _; omega) (by show cs.2 + 500 ≤ _; omega)
end LC
