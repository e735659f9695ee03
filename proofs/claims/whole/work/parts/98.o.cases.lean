/-! THE LAW: its cases. Printed by wip/whole/mk98o.py. -/
section LC
variable {V : bk_V} {d n : Nat} {B : Nat × Nat} {Q : bk_R → bk_H → Nat → Prop} {h : bk_H} {a m x y o i H : Nat} {w : Nat → Int32} {cs : Nat × Nat} {z5 z6 z7 z8 : Option Value}
theorem MD.yo {h : bk_H} {y u v : Nat} {T : List Int32} {P : Nat → bT} {S : bS} {J K : rI} {C : rA} (q : MD h y u v T P S J K C) : YO h y J u v := by
  obtain ⟨_, _, _, ⟨_, _, _, _, _, z, _⟩, _⟩ := q
  exact z
theorem MD.ob {h : bk_H} {y u v : Nat} {T : List Int32} {P : Nat → bT} {S : bS} {J K : rI} {C : rA} (q : MD h y u v T P S J K C) : ∃ fs : List Value, h y = some (.inr (13, fs)) := ⟨_, q.yo⟩
theorem MD.fo {h h' : bk_H} {x o y u v : Nat} {T : List Int32} {P : Nat → bT} {S : bS} {J K : rI} {C : rA} (q : MD h y u v T P S J K C) (w : fo h h' x o) (h1 : x + 70 ≤ y) (h2 : y + 51 ≤ o) (h3 : (y + 7 ≤ u ∧ u + 16 ≤ y + 23) ∨ o < u) : MD h' y u v T P S J K C := q.kp fun q hq => w q (by omega) (by omega)
theorem up_l {g : Nat → Int64} {x : Int64} : vp_updL g 0 x 0 = x := if_pos rfl
theorem lc_same {x : Int64} : lg_cmp x x = 0 := by
  unfold lg_cmp
  rw [if_neg (Int64.lt_irrefl), if_pos rfl]
theorem lc_trim (z : LI h n a m w x y o H) (hL : LW n a x y o) (hi : i + 6 ≤ m) (hm : m ≤ 65536) (hH : H + 300 < 10000000) (b1 : cs.1 + 71 ≤ B.1) (b2 : cs.2 + 1415 ≤ B.2) (hN : ∀ (h' : bk_H) (n' : Nat) (z5 z6 : Option Value) (cs' : Nat × Nat), LI h' n' a m w x y o (H + 96) → n ≤ n' → cs'.1 ≤ cs.1 + 71 → cs'.2 ≤ cs.2 + 1415 → bk_g V (d + 70) 246 B Q 1497 [some (.ref a), some (.ref x), some (.ref y), some (.ref o), some (.int (nI i)), z5, z6, z7, z8] [] h' n' cs') : bk_g V (d + 70) 246 B Q 256 [some (.ref a), some (.ref x), some (.ref y), some (.ref o), some (.int (nI i)), z5, z6, z7, z8] [] h n cs := by
  obtain ⟨u, v, T, P, S, J, K, C, ep, gl, hC, hM, jep, hwp, hov, hgi, h7, hlo, har, hu⟩ := z
  obtain ⟨l1, l2, l3, l4⟩ := hL
  refine bg_aload1 rfl ?_
  refine bg_aload0 rfl ?_
  refine bg_iload4 rfl ?_
  refine bg_iconst rfl ?_
  refine bg_iadd rfl ?_
  rw [show nI i + 1 = nI (i + 1) from nI_ad]
  refine bg_iaload_n rfl har (by omega) (by omega) ?_
  refine bg_aload3 rfl ?_
  refine bg_stat3B (b := (1, 6)) rfl rfl rfl rfl (by show cs.1 + 1 ≤ _; omega) (by show cs.2 + 6 ≤ _; omega) ?_
  refine bw_trim hlo (by omega) (Nat.le_refl _) (Nat.le_refl _) hC (fun e0 n1 hn1 => bk_Ki ?_) (fun e0 h1 hC w1 hlo => bk_Ki ?_)
  · refine bg_istore5 rfl rfl ?_
    refine bg_aload2 rfl ?_
    refine bg_aload0 rfl ?_
    refine bg_iload4 rfl ?_
    refine bg_iconst rfl ?_
    refine bg_iadd rfl ?_
    rw [show nI i + 1 = nI (i + 1) from nI_ad]
    refine bg_iaload_n rfl har (by omega) (by omega) ?_
    refine bg_virt1 rfl rfl rfl rfl (MD.ob hM) ?_
    refine mo_trim hM (fun _ h2 J2 hM j0 jj hf => bk_Ki ?_) (fun z0 => absurd z0 e0)
    refine bg_istore6 rfl rfl ?_
    refine bg_aload2 rfl ?_
    refine bg_virt0 rfl rfl rfl rfl (MD.ob hM) ?_
    refine mo_thrown (MD.yo hM) (bk_Ki ?_)
    rw [j0]
    refine bg_iload5 rfl ?_
    refine bg_icmp_eq rfl (fun e287 => ?_) (fun e287 => absurd rfl e287)
    refine bg_iload5 rfl ?_
    refine bg_if_ne rfl (fun e294 => ?_) (fun e294 => absurd e294 (by decide))
    refine bg_goto rfl ?_
    refine hN h2 n1 _ _ _ ⟨u, v, _, _, _, J2, K, C, ep, _, hC.kq fun q q1 q2 => hf q (by omega) (by omega), hM, jj.trans jep, hwp, hov, GI_up hgi (by omega), h7, (hf o (by omega) (by omega)).trans hlo, (hf a (by omega) (by omega)).trans har, by omega⟩ (by omega) (by show cs.1 + _ ≤ _; omega) (by show cs.2 + _ ≤ _; omega)
  · have hM := hM.fo w1 l2 l3 (by omega)
    have har : AR h1 a m w := (w1 a (by omega) (by omega)).trans har
    refine bg_istore5 rfl rfl ?_
    refine bg_aload2 rfl ?_
    refine bg_aload0 rfl ?_
    refine bg_iload4 rfl ?_
    refine bg_iconst rfl ?_
    refine bg_iadd rfl ?_
    rw [show nI i + 1 = nI (i + 1) from nI_ad]
    refine bg_iaload_n rfl har (by omega) (by omega) ?_
    refine bg_virt1 rfl rfl rfl rfl (MD.ob hM) ?_
    refine mo_trim hM (fun z0 => absurd e0 z0) (fun _ h2 n2 J2 hM j0 jj hn2 hf => bk_Ki ?_)
    refine bg_istore6 rfl rfl ?_
    refine bg_aload2 rfl ?_
    refine bg_virt0 rfl rfl rfl rfl (MD.ob hM) ?_
    refine mo_thrown (MD.yo hM) (bk_Ki ?_)
    rw [j0]
    have hlo2 : LO1 h2 o _ := (hf o (by omega) (by omega)).trans hlo
    refine bg_iload5 rfl ?_
    refine bg_icmp_eq rfl (fun e287 => ?_) (fun e287 => absurd rfl e287)
    refine bg_iload5 rfl ?_
    refine bg_if_ne rfl (fun e294 => absurd rfl e294) (fun e294 => ?_)
    refine bg_aload3 rfl ?_
    refine bg_iconst rfl ?_
    refine bg_laload rfl hlo2 (by unfold vp_in; decide) ?_
    refine bg_iload6 rfl ?_
    refine bg_i2l rfl ?_
    refine bg_lcmp rfl ?_
    rw [show (0 : Int32).toNatClampNeg = 0 from rfl, up_l, lc_same]
    refine bg_if_eq rfl (fun e304 => ?_) (fun e304 => absurd rfl e304)
    refine bg_goto rfl ?_
    refine hN h2 n2 _ _ _ ⟨u, v, _, _, _, J2, K, C, ep, _, hC.kq fun q q1 q2 => hf q (by omega) (by omega), hM, jj.trans jep, hwp, hov, GI_up hgi (by omega), h7, (hf o (by omega) (by omega)).trans hlo, (hf a (by omega) (by omega)).trans har, by omega⟩ (by omega) (by show cs.1 + _ ≤ _; omega) (by show cs.2 + _ ≤ _; omega)
end LC
