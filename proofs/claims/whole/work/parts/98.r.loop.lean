/-! THE LAW: its loop and its head. -/
theorem lc_lt6 {i m : Nat} (hi : i < 2 ^ 30) (hm : m < 2 ^ 30) : nI m - 6 < nI i ↔ m < i + 6 := by
  rw [Int32.lt_iff_toInt_lt, Int32.toInt_sub, rx_nI (by omega), rx_nI (by omega), show (6 : Int32).toInt = 6 from by decide, Int.bmod_eq_of_le (by omega) (by omega)]
  omega
theorem LW_up {n n' a x y o : Nat} (h : LW n a x y o) (q : n ≤ n') : LW n' a x y o := ⟨h.1, h.2.1, h.2.2.1, by have := h.2.2.2; omega⟩
theorem LI_up {V : bk_V} {h : bk_H} {n a m x y o H : Nat} {w : Nat → Int32} (z : LI V h n a m w x y o H) : LI V h n a m w x y o (H + 96) := by
  obtain ⟨u, v, T, P, S, J, K, C, ep, gl, hC, hM, jep, hwp, hov, hgi, r⟩ := z
  exact ⟨u, v, T, P, S, J, K, C, ep, gl, hC, hM, jep, hwp, hov, GI_up hgi (by omega), r⟩
section LL
variable {V : bk_V} {d : Nat} {B : Nat × Nat} {Q : bk_R → bk_H → Nat → Prop} {a m x y o : Nat} {w : Nat → Int32}
theorem law_nx {i n c H : Nat} {h : bk_H} {cs cs' : Nat × Nat} {z5 z6 z7 z8 : Option Value} (z : ∀ z5 z6 z7 z8, bk_g V (d + 70) 246 B Q 23 [some (.ref a), some (.ref x), some (.ref y), some (.ref o), some (.int (nI (i + 6))), z5, z6, z7, z8] [] h n cs) : bk_g V (d + 70) 246 B Q 1497 [some (.ref a), some (.ref x), some (.ref y), some (.ref o), some (.int (nI i)), z5, z6, z7, z8] [] h n cs := by
  refine bg_iinc4 rfl rfl ?_
  refine bg_goto rfl ?_
  rw [show nI i + 6 = nI (i + 6) from nI_ad]
  exact z _ _ _ _
theorem law_loop (hV : AV V a m w) (hm : m ≤ 65536) (hQ : ∀ h n, Q (.inl (some (.int 1))) h n) : ∀ (c i H n : Nat) (h : bk_H) (cs : Nat × Nat) (z5 z6 z7 z8 : Option Value), LI V h n a m w x y o H → LW n a x y o → m < i + 6 * c + 6 → i ≤ m + 5 → H + 96 * c + 300 < 10000000 → cs.1 + 71 * c ≤ B.1 → cs.2 + 1415 * c ≤ B.2 → bk_g V (d + 70) 246 B Q 23 [some (.ref a), some (.ref x), some (.ref y), some (.ref o), some (.int (nI i)), z5, z6, z7, z8] [] h n cs := by
  intro c
  induction c with
  | zero =>
    intro i H n h cs z5 z6 z7 z8 z hL hc hi hH b1 b2
    refine bg_iload4 rfl ?_
    refine bg_aload0 rfl ?_
    refine bg_alen_v rfl hV ?_
    refine bg_bipush rfl ?_
    refine bg_isub rfl ?_
    refine bg_icmp_gt rfl (fun _ => ?_) (fun e => absurd ((lc_lt6 (by omega) (by omega)).mpr (by omega)) e)
    refine bg_iconst rfl ?_
    exact bg_iret rfl rfl (by rfl) (hQ _ _)
  | succ c ih =>
    intro i H n h cs z5 z6 z7 z8 z hL hc hi hH b1 b2
    refine bg_iload4 rfl ?_
    refine bg_aload0 rfl ?_
    refine bg_alen_v rfl hV ?_
    refine bg_bipush rfl ?_
    refine bg_isub rfl ?_
    refine bg_icmp_gt rfl (fun _ => ?_) (fun e => ?_)
    · refine bg_iconst rfl ?_
      exact bg_iret rfl rfl (by rfl) (hQ _ _)
    have hi6 : i + 6 ≤ m := Nat.le_of_not_lt fun q => e ((lc_lt6 (by omega) (by omega)).mpr q)
    have hHc : H + 300 < 10000000 := by omega
    have hb1 : cs.1 + 71 ≤ B.1 := by omega
    have hb2 : cs.2 + 1415 ≤ B.2 := Nat.le_trans (Nat.add_le_add_left (Nat.le_mul_of_pos_right 1415 (Nat.succ_pos c)) cs.2) b2
    have hN : ∀ (h' : bk_H) (n' : Nat) (z5 z6 z7 z8 : Option Value) (cs' : Nat × Nat), LI V h' n' a m w x y o (H + 96) → n ≤ n' → cs'.1 ≤ cs.1 + 71 → cs'.2 ≤ cs.2 + 1415 → bk_g V (d + 70) 246 B Q 1497 [some (.ref a), some (.ref x), some (.ref y), some (.ref o), some (.int (nI i)), z5, z6, z7, z8] [] h' n' cs' := fun h' n' z5 z6 z7 z8 cs' zL q1 q2 q3 => law_nx (c := c) (H := H) (cs' := cs) (z5 := z5) (z6 := z6) (z7 := z7) (z8 := z8) fun y5 y6 y7 y8 => ih (i + 6) (H + 96) n' h' cs' y5 y6 y7 y8 zL (LW_up hL q1) (by omega) (by omega) (by omega) (by omega) (by omega)
    refine bg_aload0 rfl ?_
    refine bg_iload4 rfl ?_
    refine bg_iaload_v rfl hV (by omega) (by omega) ?_
    refine bg_bipush rfl ?_
    refine bg_iand rfl ?_
    refine bg_tsw rfl ?_
    generalize w i &&& 31 = sw
    refine bk_sw_c (fun _ => lc_feed z hL hi6 hm hHc hb1 hb2 (fun h' n' y5 y6 cs' zL q1 q2 q3 => hN h' n' y5 y6 z7 z8 cs' zL q1 q2 q3)) (fun _ => ?_)
    refine bk_sw_c (fun _ => lc_trim z hL hi6 hm hHc hb1 hb2 (fun h' n' y5 y6 cs' zL q1 q2 q3 => hN h' n' y5 y6 z7 z8 cs' zL q1 q2 q3)) (fun _ => ?_)
    refine bk_sw_c (fun _ => lc_teach z hL hb1 hb2 (fun h' n' cs' zL q1 q2 q3 => hN h' n' z5 z6 z7 z8 cs' (LI_up zL) q1 q2 q3)) (fun _ => ?_)
    refine bk_sw_c (fun _ => lc_errorAt z hL (fun h' zL => hN h' n z5 z6 z7 z8 cs (LI_up zL) (Nat.le_refl _) (Nat.le_add_right _ _) (Nat.le_add_right _ _))) (fun _ => ?_)
    refine bk_sw_c (fun _ => lc_count z hL hi6 hm hHc hb1 hb2 (fun h' n' y5 y6 cs' zL q1 q2 q3 => hN h' n' y5 y6 z7 z8 cs' zL q1 q2 q3)) (fun _ => ?_)
    refine bk_sw_c (fun _ => lc_bark z hL hi6 hm hHc hb1 hb2 (fun h' n' y5 y6 cs' zL q1 q2 q3 => hN h' n' y5 y6 z7 z8 cs' zL q1 q2 q3)) (fun _ => ?_)
    refine bk_sw_c (fun _ => lc_beater z hL hi6 hm hHc hb1 hb2 (fun h' n' y5 y6 cs' zL q1 q2 q3 => hN h' n' y5 y6 z7 z8 cs' zL q1 q2 q3)) (fun _ => ?_)
    refine bk_sw_c (fun _ => lc_spirit z hL hi6 hm hHc hb1 hb2 (fun h' n' y5 y6 cs' zL q1 q2 q3 => hN h' n' y5 y6 z7 z8 cs' zL q1 q2 q3)) (fun _ => ?_)
    refine bk_sw_c (fun _ => lc_sheet z hL hi6 hm hHc hb1 hb2 (fun h' n' y5 y6 cs' zL q1 q2 q3 => hN h' n' y5 y6 z7 z8 cs' zL q1 q2 q3)) (fun _ => ?_)
    refine bk_sw_c (fun _ => lc_figure z hL hi6 hm hHc hb1 hb2 (fun h' n' y5 y6 cs' zL q1 q2 q3 => hN h' n' y5 y6 z7 z8 cs' zL q1 q2 q3)) (fun _ => ?_)
    refine bk_sw_c (fun _ => lc_force z hL hi6 hm hHc hb1 hb2 (fun h' n' y5 y6 cs' zL q1 q2 q3 => hN h' n' y5 y6 z7 z8 cs' zL q1 q2 q3)) (fun _ => ?_)
    refine bk_sw_c (fun _ => lc_setWeather z hL hi6 hm hHc hb1 hb2 (fun h' n' y5 y6 cs' zL q1 q2 q3 => hN h' n' y5 y6 z7 z8 cs' zL q1 q2 q3)) (fun _ => ?_)
    refine bk_sw_c (fun _ => lc_setTourists z hL hi6 hm hHc hb1 hb2 (fun h' n' y5 y6 cs' zL q1 q2 q3 => hN h' n' y5 y6 z7 z8 cs' zL q1 q2 q3)) (fun _ => ?_)
    refine bk_sw_c (fun _ => lc_tune z hL hi6 hm hHc hb1 hb2 (fun h' n' y5 y6 cs' zL q1 q2 q3 => hN h' n' y5 y6 z7 z8 cs' zL q1 q2 q3)) (fun _ => ?_)
    refine bk_sw_c (fun _ => lc_burn z hL hi6 hm hHc hb1 hb2 (fun h' n' y5 y6 cs' zL q1 q2 q3 => hN h' n' y5 y6 z7 z8 cs' zL q1 q2 q3)) (fun _ => ?_)
    refine bk_sw_c (fun _ => lc_bring z hL hi6 hm hHc hb1 hb2 (fun h' n' y5 y6 cs' zL q1 q2 q3 => hN h' n' y5 y6 z7 z8 cs' zL q1 q2 q3)) (fun _ => ?_)
    refine bk_sw_c (fun _ => lc_pass z hL hi6 hm hHc hb1 hb2 (fun h' n' y5 y6 cs' zL q1 q2 q3 => hN h' n' y5 y6 z7 z8 cs' zL q1 q2 q3)) (fun _ => ?_)
    refine bk_sw_c (fun _ => lc_until z hL hi6 hm hHc hb1 hb2 (fun h' n' y5 y6 cs' zL q1 q2 q3 => hN h' n' y5 y6 z7 z8 cs' zL q1 q2 q3)) (fun _ => ?_)
    refine bk_sw_c (fun _ => lc_foresee z hL hi6 hm hHc hb1 hb2 (fun h' n' y5 y6 cs' zL q1 q2 q3 => hN h' n' y5 y6 z7 z8 cs' zL q1 q2 q3)) (fun _ => ?_)
    refine bk_sw_c (fun _ => lc_advise z hL hi6 hm hHc hb1 hb2 (fun h' n' y5 y6 cs' zL q1 q2 q3 => hN h' n' y5 y6 z7 z8 cs' zL q1 q2 q3)) (fun _ => ?_)
    refine bk_sw_c (fun _ => lc_best z hL hi6 hm hHc hb1 hb2 (fun h' n' y5 y6 cs' zL q1 q2 q3 => hN h' n' y5 y6 z7 z8 cs' zL q1 q2 q3)) (fun _ => ?_)
    refine bk_sw_c (fun _ => lc_spare z hL hi6 hm hHc hb1 hb2 (fun h' n' y5 y6 cs' zL q1 q2 q3 => hN h' n' y5 y6 z7 z8 cs' zL q1 q2 q3)) (fun _ => ?_)
    refine bk_sw_c (fun _ => lc_mean z hL (fun h' y5 y6 y7 y8 zL => hN h' n y5 y6 y7 y8 cs (LI_up zL) (Nat.le_refl _) (Nat.le_add_right _ _) (Nat.le_add_right _ _))) (fun _ => ?_)
    refine bk_sw_c (fun _ => lc_digest z hL hHc hb1 hb2 (fun h' n' cs' zL q1 q2 q3 => hN h' n' z5 z6 z7 z8 cs' (LI_up zL) q1 q2 q3)) (fun _ => ?_)
    exact bk_sw_n (hN h n z5 z6 z7 z8 cs (LI_up z) (Nat.le_refl _) (Nat.le_add_right _ _) (Nat.le_add_right _ _))
end LL
