/-! THE LAW: its cases. Printed by wip/whole/mk98o.py. -/
section R7
variable {V : bk_V} {d j pc nx : Nat} {B : Nat × Nat} {Q : bk_R → bk_H → Nat → Prop} {L : bk_L} {st r : List Value} {h : bk_H} {n : Nat} {cs : Nat × Nat} {c : Int32} {sw : List (Int32 × Nat)}
theorem bg_stat7B {ix k p} {x1 x2 x3 x4 x5 x6 x7 : Value} {b : Nat × Nat} (hi : bk_ins j pc = some (.invokestatic ix, nx, sw, c)) (hk : bk_cal (bk_own j) ix = some (0, k, p)) (hn : bk_np k = 7) (hr : Nat.ble r.length 4 = true) (hb1 : cs.1 + b.1 ≤ B.1) (hb2 : cs.2 + b.2 ≤ B.2) (z : bk_wp V d k [x1, x2, x3, x4, x5, x6, x7] h n b (bk_K0 V d j B Q nx L r (cs.1 + b.1, cs.2 + b.2))) : bk_g V d j B Q pc L (x7 :: x6 :: x5 :: x4 :: x3 :: x2 :: x1 :: r) h n cs := by
  refine bk_go_s (bk_wp_mono d) ?_
  unfold bk_s1
  rw [hi]
  simp only [hk]
  rw [hn]
  exact bk_gdI (Nat.ble_eq_true_of_le (by simp only [List.length_cons]; omega)) (bk_clB hr hb1 hb2 z)
end R7
section LC
variable {V : bk_V} {d n : Nat} {B : Nat × Nat} {Q : bk_R → bk_H → Nat → Prop} {h : bk_H} {a m x y o i H : Nat} {w : Nat → Int32} {cs : Nat × Nat} {z5 z6 z7 z8 : Option Value}
theorem MD.yo {h : bk_H} {y u v : Nat} {T : List Int32} {P : Nat → bT} {S : bS} {J K : rI} {C : rA} (q : MD h y u v T P S J K C) : YO h y J u v := by
  obtain ⟨_, _, _, ⟨_, _, _, _, _, z, _⟩, _⟩ := q
  exact z
theorem MD.ob {h : bk_H} {y u v : Nat} {T : List Int32} {P : Nat → bT} {S : bS} {J K : rI} {C : rA} (q : MD h y u v T P S J K C) : ∃ fs : List Value, h y = some (.inr (13, fs)) := ⟨_, q.yo⟩
theorem MD.fo {h h' : bk_H} {x o y u v : Nat} {T : List Int32} {P : Nat → bT} {S : bS} {J K : rI} {C : rA} (q : MD h y u v T P S J K C) (w : fo h h' x o) (h1 : x + 70 ≤ y) (h2 : y + 51 ≤ o) (h3 : (y + 7 ≤ u ∧ u + 16 ≤ y + 23) ∨ o < u) : MD h' y u v T P S J K C := q.kp fun q hq => w q (by omega) (by omega)
theorem nI_gm {k : Nat} (h : k < 2 ^ 30) : ¬ nI k < -1 ∧ -1 < nI k := by
  rw [Int32.lt_iff_toInt_lt, Int32.lt_iff_toInt_lt, rx_nI (by omega)]
  have : (-1 : Int32).toInt = -1 := by decide
  omega
theorem inR_96 {v : Int32} (h : inR v 1 96) : v.toNatClampNeg ≤ 96 := by
  have h1 := h.1
  have h2 := h.2
  rw [Int32.lt_iff_toInt_lt] at h1 h2
  have e1 : (1 : Int32).toInt = 1 := by decide
  have e2 : (96 : Int32).toInt = 96 := by decide
  show v.toInt.toNat ≤ 96
  omega
theorem ad_ok {P : Nat → bT} {S : bS} {H : Nat} {b : Int32} (hov : OV P) (hgi : GI P H S) (hH : H + 48 < 10000000) : (adL P S b 6 1 (-1, 1)).2 = (rAd P S b 6 (-1, 0)).2 := by
  rw [adL_up, rAd_dn]
  refine ad_same (fun e _ _ => ?_)
  obtain ⟨k, e1, e2⟩ := GI_m (GI_go hov (GI_1 (t := rS (S.2 1) b 0 (nI e)) hgi) 48 hH).1 hH
  rw [e1]
  exact nI_gm e2
theorem inR_72 {v : Int32} (h : inR v 1 72) : v.toNatClampNeg ≤ 72 := by
  have h1 := h.1
  have h2 := h.2
  rw [Int32.lt_iff_toInt_lt] at h1 h2
  have e1 : (1 : Int32).toInt = 1 := by decide
  have e2 : (72 : Int32).toInt = 72 := by decide
  show v.toInt.toNat ≤ 72
  omega
theorem GI_7 {P : Nat → bT} {S : bS} {H : Nat} {v : Int32} (h : GI P H S) : GI P H (upd S.1 7 v, S.2) := ⟨h.1, h.2.1, h.2.2.1, h.2.2.2⟩
theorem sp_ok {P : Nat → bT} {S : bS} {H N : Nat} (hov : OV P) (hgi : GI P H S) (h7 : S.1 7 = -1) (hH : H + N < 10000000) (hl : (P 1).length ≤ 6) : (spL P S N ((P 1).length + 1) 0 (-1, -1)).2 = (rSp P S N (P 1).length 0 ((goF P N S).1 4 - 1, -1)).2 := by
  have hS : (upd S.1 7 (nI 0 - 1), S.2) = S := by
    have e : upd S.1 7 (nI 0 - 1) = S.1 := by
      funext k
      unfold upd
      by_cases e : k = 7
      · rw [if_pos e, e, h7]
        rfl
      · rw [if_neg e]
    rw [e]
  obtain ⟨m0, e1, e2⟩ := GI_m (GI_go hov hgi N hH).1 hH
  show (spL P S N (P 1).length (0 + 1) (if (-1 : Int32) < (goF P N (upd S.1 7 (nI 0 - 1), S.2)).1 4 ∨ _ then _ else _)).2 = _
  rw [hS, e1, if_pos (Or.inl (nI_gm e2).2)]
  exact spare_same (fun k => GI_m (GI_go hov (GI_7 hgi) N hH).1 hH) _ 0 m0 _ _ e2 (by omega) (Or.inl ⟨rfl, rfl⟩)
theorem MD.l1 {h : bk_H} {y u v : Nat} {T : List Int32} {P : Nat → bT} {S : bS} {J K : rI} {C : rA} (q : MD h y u v T P S J K C) : (P 1).length ≤ 6 := by
  obtain ⟨_, _, _, ⟨_, _, _, _, _, _, _, hs, _⟩, _⟩ := q
  exact hs.1.2.1.1
theorem up_l {g : Nat → Int64} {x : Int64} : vp_updL g 0 x 0 = x := if_pos rfl
theorem lc_same {x : Int64} : lg_cmp x x = 0 := by
  unfold lg_cmp
  rw [if_neg (Int64.lt_irrefl), if_pos rfl]
theorem lc_trim (z : LI V h n a m w x y o H) (hL : LW n a x y o) (hi : i + 6 ≤ m) (hm : m ≤ 65536) (hH : H + 300 < 10000000) (b1 : cs.1 + 71 ≤ B.1) (b2 : cs.2 + 1415 ≤ B.2) (hN : ∀ (h' : bk_H) (n' : Nat) (z5 z6 : Option Value) (cs' : Nat × Nat), LI V h' n' a m w x y o (H + 96) → n ≤ n' → cs'.1 ≤ cs.1 + 71 → cs'.2 ≤ cs.2 + 1415 → bk_g V (d + 70) 246 B Q 1497 [some (.ref a), some (.ref x), some (.ref y), some (.ref o), some (.int (nI i)), z5, z6, z7, z8] [] h' n' cs') : bk_g V (d + 70) 246 B Q 256 [some (.ref a), some (.ref x), some (.ref y), some (.ref o), some (.int (nI i)), z5, z6, z7, z8] [] h n cs := by
  obtain ⟨u, v, T, P, S, J, K, C, ep, gl, hC, hM, jep, hwp, hov, hgi, h7, hlo, har, hu⟩ := z
  obtain ⟨l1, l2, l3, l4⟩ := hL
  refine bg_aload1 rfl ?_
  refine bg_aload0 rfl ?_
  refine bg_iload4 rfl ?_
  refine bg_iconst rfl ?_
  refine bg_iadd rfl ?_
  rw [show nI i + 1 = nI (i + 1) from nI_ad]
  refine bg_iaload_v rfl har (by omega) (by omega) ?_
  refine bg_aload3 rfl ?_
  refine bg_stat3B (b := (1, 6)) rfl rfl rfl rfl (by show cs.1 + 1 ≤ _; omega) (by show cs.2 + 6 ≤ _; omega) ?_
  refine bw_trim hlo (by omega) (Nat.le_refl _) (Nat.le_refl _) hC (fun e0 n1 hn1 => bk_Ki ?_) (fun e0 h1 hC w1 hlo => bk_Ki ?_)
  · refine bg_istore5 rfl rfl ?_
    refine bg_aload2 rfl ?_
    refine bg_aload0 rfl ?_
    refine bg_iload4 rfl ?_
    refine bg_iconst rfl ?_
    refine bg_iadd rfl ?_
    rw [show nI i + 1 = nI (i + 1) from nI_ad]
    refine bg_iaload_v rfl har (by omega) (by omega) ?_
    refine bg_virt1 rfl rfl rfl rfl (MD.ob hM) ?_
    refine mo_trim hM (fun _ h2 J2 hM j0 jj hf => bk_Ki ?_) (fun z0 => absurd z0 e0)
    refine bg_istore6 rfl rfl ?_
    refine bg_aload2 rfl ?_
    refine bg_virt0 rfl rfl rfl rfl (MD.ob hM) ?_
    refine mo_thrown (MD.yo hM) (bk_Ki ?_)
    rw [j0]
    refine bg_iload5 rfl ?_
    refine bg_icmp_eq rfl (fun e287 => ?_) (fun e287 => absurd rfl e287)
    refine bg_iload5 rfl ?_
    refine bg_if_ne rfl (fun e294 => ?_) (fun e294 => absurd e294 (by decide))
    refine bg_goto rfl ?_
    refine hN h2 n1 _ _ _ ⟨u, v, _, _, _, J2, K, C, ep, _, hC.kq fun q q1 q2 => hf q (by omega) (by omega), hM, jj.trans jep, hwp, hov, GI_up hgi (by omega), h7, (hf o (by omega) (by omega)).trans hlo, har, by omega⟩ (by omega) (by show cs.1 + 1 ≤ _; omega) (by show cs.2 + 6 ≤ _; omega)
  · have hM := hM.fo w1 l2 l3 (by omega)
    refine bg_istore5 rfl rfl ?_
    refine bg_aload2 rfl ?_
    refine bg_aload0 rfl ?_
    refine bg_iload4 rfl ?_
    refine bg_iconst rfl ?_
    refine bg_iadd rfl ?_
    rw [show nI i + 1 = nI (i + 1) from nI_ad]
    refine bg_iaload_v rfl har (by omega) (by omega) ?_
    refine bg_virt1 rfl rfl rfl rfl (MD.ob hM) ?_
    refine mo_trim hM (fun z0 => absurd e0 z0) (fun _ h2 n2 J2 hM j0 jj hn2 hf => bk_Ki ?_)
    refine bg_istore6 rfl rfl ?_
    refine bg_aload2 rfl ?_
    refine bg_virt0 rfl rfl rfl rfl (MD.ob hM) ?_
    refine mo_thrown (MD.yo hM) (bk_Ki ?_)
    rw [j0]
    have hlo2 : LO1 h2 o _ := (hf o (by omega) (by omega)).trans hlo
    refine bg_iload5 rfl ?_
    refine bg_icmp_eq rfl (fun e287 => ?_) (fun e287 => absurd rfl e287)
    refine bg_iload5 rfl ?_
    refine bg_if_ne rfl (fun e294 => absurd rfl e294) (fun e294 => ?_)
    refine bg_aload3 rfl ?_
    refine bg_iconst rfl ?_
    refine bg_laload rfl hlo2 (by unfold vp_in; decide) ?_
    refine bg_iload6 rfl ?_
    refine bg_i2l rfl ?_
    refine bg_lcmp rfl ?_
    rw [show (0 : Int32).toNatClampNeg = 0 from rfl, up_l, lc_same]
    refine bg_if_eq rfl (fun e304 => ?_) (fun e304 => absurd rfl e304)
    refine bg_goto rfl ?_
    refine hN h2 n2 _ _ _ ⟨u, v, _, _, _, J2, K, C, ep, _, hC.kq fun q q1 q2 => hf q (by omega) (by omega), hM, jj.trans jep, hwp, hov, GI_up hgi (by omega), h7, (hf o (by omega) (by omega)).trans hlo, har, by omega⟩ (by omega) (by show cs.1 + 1 ≤ _; omega) (by show cs.2 + 6 ≤ _; omega)
theorem lc_feed (z : LI V h n a m w x y o H) (hL : LW n a x y o) (hi : i + 6 ≤ m) (hm : m ≤ 65536) (hH : H + 300 < 10000000) (b1 : cs.1 + 71 ≤ B.1) (b2 : cs.2 + 1415 ≤ B.2) (hN : ∀ (h' : bk_H) (n' : Nat) (z5 z6 : Option Value) (cs' : Nat × Nat), LI V h' n' a m w x y o (H + 96) → n ≤ n' → cs'.1 ≤ cs.1 + 71 → cs'.2 ≤ cs.2 + 1415 → bk_g V (d + 70) 246 B Q 1497 [some (.ref a), some (.ref x), some (.ref y), some (.ref o), some (.int (nI i)), z5, z6, z7, z8] [] h' n' cs') : bk_g V (d + 70) 246 B Q 152 [some (.ref a), some (.ref x), some (.ref y), some (.ref o), some (.int (nI i)), z5, z6, z7, z8] [] h n cs := by
  obtain ⟨u, v, T, P, S, J, K, C, ep, gl, hC, hM, jep, hwp, hov, hgi, h7, hlo, har, hu⟩ := z
  obtain ⟨l1, l2, l3, l4⟩ := hL
  refine bg_aload1 rfl ?_
  refine bg_aload0 rfl ?_
  refine bg_iload4 rfl ?_
  refine bg_iconst rfl ?_
  refine bg_iadd rfl ?_
  rw [show nI i + 1 = nI (i + 1) from nI_ad]
  refine bg_iaload_v rfl har (by omega) (by omega) ?_
  refine bg_aload0 rfl ?_
  refine bg_iload4 rfl ?_
  refine bg_iconst rfl ?_
  refine bg_iadd rfl ?_
  rw [show nI i + 2 = nI (i + 2) from nI_ad]
  refine bg_iaload_v rfl har (by omega) (by omega) ?_
  refine bg_aload0 rfl ?_
  refine bg_iload4 rfl ?_
  refine bg_iconst rfl ?_
  refine bg_iadd rfl ?_
  rw [show nI i + 3 = nI (i + 3) from nI_ad]
  refine bg_iaload_v rfl har (by omega) (by omega) ?_
  refine bg_aload0 rfl ?_
  refine bg_iload4 rfl ?_
  refine bg_iconst rfl ?_
  refine bg_iadd rfl ?_
  rw [show nI i + 4 = nI (i + 4) from nI_ad]
  refine bg_iaload_v rfl har (by omega) (by omega) ?_
  refine bg_aload0 rfl ?_
  refine bg_iload4 rfl ?_
  refine bg_iconst rfl ?_
  refine bg_iadd rfl ?_
  rw [show nI i + 5 = nI (i + 5) from nI_ad]
  refine bg_iaload_v rfl har (by omega) (by omega) ?_
  refine bg_aload3 rfl ?_
  refine bg_stat7B (b := (1, 6)) rfl rfl rfl rfl (by show cs.1 + 1 ≤ _; omega) (by show cs.2 + 6 ≤ _; omega) ?_
  refine bw_feed hlo (by omega) (Nat.le_refl _) (Nat.le_refl _) hC (fun e0 n1 hn1 => bk_Ki ?_) (fun e0 h1 hC w1 hlo => bk_Ki ?_)
  · refine bg_istore5 rfl rfl ?_
    refine bg_aload2 rfl ?_
    refine bg_aload0 rfl ?_
    refine bg_iload4 rfl ?_
    refine bg_iconst rfl ?_
    refine bg_iadd rfl ?_
    rw [show nI i + 1 = nI (i + 1) from nI_ad]
    refine bg_iaload_v rfl har (by omega) (by omega) ?_
    refine bg_aload0 rfl ?_
    refine bg_iload4 rfl ?_
    refine bg_iconst rfl ?_
    refine bg_iadd rfl ?_
    rw [show nI i + 2 = nI (i + 2) from nI_ad]
    refine bg_iaload_v rfl har (by omega) (by omega) ?_
    refine bg_aload0 rfl ?_
    refine bg_iload4 rfl ?_
    refine bg_iconst rfl ?_
    refine bg_iadd rfl ?_
    rw [show nI i + 3 = nI (i + 3) from nI_ad]
    refine bg_iaload_v rfl har (by omega) (by omega) ?_
    refine bg_aload0 rfl ?_
    refine bg_iload4 rfl ?_
    refine bg_iconst rfl ?_
    refine bg_iadd rfl ?_
    rw [show nI i + 4 = nI (i + 4) from nI_ad]
    refine bg_iaload_v rfl har (by omega) (by omega) ?_
    refine bg_aload0 rfl ?_
    refine bg_iload4 rfl ?_
    refine bg_iconst rfl ?_
    refine bg_iadd rfl ?_
    rw [show nI i + 5 = nI (i + 5) from nI_ad]
    refine bg_iaload_v rfl har (by omega) (by omega) ?_
    refine bg_virt5B (b := (1, 5)) rfl rfl rfl rfl (MD.ob hM) (by show cs.1 + 1 + 1 ≤ _; omega) (by show cs.2 + 6 + 5 ≤ _; omega) ?_
    refine mo_feed hM ⟨by omega, by omega⟩ (Nat.le_refl _) (Nat.le_refl _) (fun _ h2 J2 hM j0 jj hf => bk_Ki ?_) (fun z0 => absurd z0 e0)
    refine bg_istore6 rfl rfl ?_
    refine bg_aload2 rfl ?_
    refine bg_virt0 rfl rfl rfl rfl (MD.ob hM) ?_
    refine mo_thrown (MD.yo hM) (bk_Ki ?_)
    rw [j0]
    refine bg_iload5 rfl ?_
    refine bg_icmp_eq rfl (fun e231 => ?_) (fun e231 => absurd rfl e231)
    refine bg_iload5 rfl ?_
    refine bg_if_ne rfl (fun e238 => ?_) (fun e238 => absurd e238 (by decide))
    refine bg_goto rfl ?_
    refine hN h2 n1 _ _ _ ⟨u, v, _, _, _, J2, K, C, ep, _, hC.kq fun q q1 q2 => hf q (by omega) (by omega), hM, jj.trans jep, hwp, hov, GI_up hgi (by omega), h7, (hf o (by omega) (by omega)).trans hlo, har, by omega⟩ (by omega) (by show cs.1 + 1 + 1 ≤ _; omega) (by show cs.2 + 6 + 5 ≤ _; omega)
  · have hM := hM.fo w1 l2 l3 (by omega)
    refine bg_istore5 rfl rfl ?_
    refine bg_aload2 rfl ?_
    refine bg_aload0 rfl ?_
    refine bg_iload4 rfl ?_
    refine bg_iconst rfl ?_
    refine bg_iadd rfl ?_
    rw [show nI i + 1 = nI (i + 1) from nI_ad]
    refine bg_iaload_v rfl har (by omega) (by omega) ?_
    refine bg_aload0 rfl ?_
    refine bg_iload4 rfl ?_
    refine bg_iconst rfl ?_
    refine bg_iadd rfl ?_
    rw [show nI i + 2 = nI (i + 2) from nI_ad]
    refine bg_iaload_v rfl har (by omega) (by omega) ?_
    refine bg_aload0 rfl ?_
    refine bg_iload4 rfl ?_
    refine bg_iconst rfl ?_
    refine bg_iadd rfl ?_
    rw [show nI i + 3 = nI (i + 3) from nI_ad]
    refine bg_iaload_v rfl har (by omega) (by omega) ?_
    refine bg_aload0 rfl ?_
    refine bg_iload4 rfl ?_
    refine bg_iconst rfl ?_
    refine bg_iadd rfl ?_
    rw [show nI i + 4 = nI (i + 4) from nI_ad]
    refine bg_iaload_v rfl har (by omega) (by omega) ?_
    refine bg_aload0 rfl ?_
    refine bg_iload4 rfl ?_
    refine bg_iconst rfl ?_
    refine bg_iadd rfl ?_
    rw [show nI i + 5 = nI (i + 5) from nI_ad]
    refine bg_iaload_v rfl har (by omega) (by omega) ?_
    refine bg_virt5B (b := (1, 5)) rfl rfl rfl rfl (MD.ob hM) (by show cs.1 + 1 + 1 ≤ _; omega) (by show cs.2 + 6 + 5 ≤ _; omega) ?_
    refine mo_feed hM ⟨by omega, by omega⟩ (Nat.le_refl _) (Nat.le_refl _) (fun z0 => absurd e0 z0) (fun _ h2 n2 J2 hM j0 jj hn2 hf => bk_Ki ?_)
    refine bg_istore6 rfl rfl ?_
    refine bg_aload2 rfl ?_
    refine bg_virt0 rfl rfl rfl rfl (MD.ob hM) ?_
    refine mo_thrown (MD.yo hM) (bk_Ki ?_)
    rw [j0]
    have hlo2 : LO1 h2 o _ := (hf o (by omega) (by omega)).trans hlo
    refine bg_iload5 rfl ?_
    refine bg_icmp_eq rfl (fun e231 => ?_) (fun e231 => absurd rfl e231)
    refine bg_iload5 rfl ?_
    refine bg_if_ne rfl (fun e238 => absurd rfl e238) (fun e238 => ?_)
    refine bg_aload3 rfl ?_
    refine bg_iconst rfl ?_
    refine bg_laload rfl hlo2 (by unfold vp_in; decide) ?_
    refine bg_iload6 rfl ?_
    refine bg_i2l rfl ?_
    refine bg_lcmp rfl ?_
    rw [show (0 : Int32).toNatClampNeg = 0 from rfl, up_l, lc_same]
    refine bg_if_eq rfl (fun e248 => ?_) (fun e248 => absurd rfl e248)
    refine bg_goto rfl ?_
    refine hN h2 n2 _ _ _ ⟨u, v, _, _, _, J2, K, C, ep, _, hC.kq fun q q1 q2 => hf q (by omega) (by omega), hM, jj.trans jep, hwp, hov, GI_up hgi (by omega), h7, (hf o (by omega) (by omega)).trans hlo, har, by omega⟩ (by omega) (by show cs.1 + 1 + 1 ≤ _; omega) (by show cs.2 + 6 + 5 ≤ _; omega)
theorem lc_count (z : LI V h n a m w x y o H) (hL : LW n a x y o) (hi : i + 6 ≤ m) (hm : m ≤ 65536) (hH : H + 300 < 10000000) (b1 : cs.1 + 71 ≤ B.1) (b2 : cs.2 + 1415 ≤ B.2) (hN : ∀ (h' : bk_H) (n' : Nat) (z5 z6 : Option Value) (cs' : Nat × Nat), LI V h' n' a m w x y o (H + 96) → n ≤ n' → cs'.1 ≤ cs.1 + 71 → cs'.2 ≤ cs.2 + 1415 → bk_g V (d + 70) 246 B Q 1497 [some (.ref a), some (.ref x), some (.ref y), some (.ref o), some (.int (nI i)), z5, z6, z7, z8] [] h' n' cs') : bk_g V (d + 70) 246 B Q 338 [some (.ref a), some (.ref x), some (.ref y), some (.ref o), some (.int (nI i)), z5, z6, z7, z8] [] h n cs := by
  obtain ⟨u, v, T, P, S, J, K, C, ep, gl, hC, hM, jep, hwp, hov, hgi, h7, hlo, har, hu⟩ := z
  obtain ⟨l1, l2, l3, l4⟩ := hL
  refine bg_aload1 rfl ?_
  refine bg_aload0 rfl ?_
  refine bg_iload4 rfl ?_
  refine bg_iconst rfl ?_
  refine bg_iadd rfl ?_
  rw [show nI i + 1 = nI (i + 1) from nI_ad]
  refine bg_iaload_v rfl har (by omega) (by omega) ?_
  refine bg_aload3 rfl ?_
  refine bg_stat3B (b := (1, 6)) rfl rfl rfl rfl (by show cs.1 + 1 ≤ _; omega) (by show cs.2 + 6 ≤ _; omega) ?_
  refine bw_count hlo (by omega) (Nat.le_refl _) (Nat.le_refl _) hC (fun e0 n1 hn1 => bk_Ki ?_) (fun e0 h1 hC w1 hlo => bk_Ki ?_)
  · refine bg_istore5 rfl rfl ?_
    refine bg_aload2 rfl ?_
    refine bg_aload0 rfl ?_
    refine bg_iload4 rfl ?_
    refine bg_iconst rfl ?_
    refine bg_iadd rfl ?_
    rw [show nI i + 1 = nI (i + 1) from nI_ad]
    refine bg_iaload_v rfl har (by omega) (by omega) ?_
    refine bg_virt1B (b := (1, 15)) rfl rfl rfl rfl (MD.ob hM) (by show cs.1 + 1 + 1 ≤ _; omega) (by show cs.2 + 6 + 15 ≤ _; omega) ?_
    refine mo_count hM ⟨by omega, by omega⟩ hgi.2.1 (Nat.le_refl _) (Nat.le_refl _) (fun _ h2 J2 hM j0 jj hf => bk_Ki ?_) (fun z0 => absurd z0 e0)
    refine bg_istore6 rfl rfl ?_
    refine bg_aload2 rfl ?_
    refine bg_virt0 rfl rfl rfl rfl (MD.ob hM) ?_
    refine mo_thrown (MD.yo hM) (bk_Ki ?_)
    rw [j0]
    refine bg_iload5 rfl ?_
    refine bg_icmp_eq rfl (fun e369 => ?_) (fun e369 => absurd rfl e369)
    refine bg_iload5 rfl ?_
    refine bg_if_ne rfl (fun e376 => ?_) (fun e376 => absurd e376 (by decide))
    refine bg_goto rfl ?_
    refine hN h2 n1 _ _ _ ⟨u, v, _, _, _, J2, K, C, ep, _, hC.kq fun q q1 q2 => hf q (by omega) (by omega), hM, jj.trans jep, hwp, hov, GI_up hgi (by omega), h7, (hf o (by omega) (by omega)).trans hlo, har, by omega⟩ (by omega) (by show cs.1 + 1 + 1 ≤ _; omega) (by show cs.2 + 6 + 15 ≤ _; omega)
  · have hM := hM.fo w1 l2 l3 (by omega)
    refine bg_istore5 rfl rfl ?_
    refine bg_aload2 rfl ?_
    refine bg_aload0 rfl ?_
    refine bg_iload4 rfl ?_
    refine bg_iconst rfl ?_
    refine bg_iadd rfl ?_
    rw [show nI i + 1 = nI (i + 1) from nI_ad]
    refine bg_iaload_v rfl har (by omega) (by omega) ?_
    refine bg_virt1B (b := (1, 15)) rfl rfl rfl rfl (MD.ob hM) (by show cs.1 + 1 + 1 ≤ _; omega) (by show cs.2 + 6 + 15 ≤ _; omega) ?_
    refine mo_count hM ⟨by omega, by omega⟩ hgi.2.1 (Nat.le_refl _) (Nat.le_refl _) (fun z0 => absurd e0 z0) (fun _ h2 n2 J2 hM j0 jj hn2 hf => bk_Ki ?_)
    refine bg_istore6 rfl rfl ?_
    refine bg_aload2 rfl ?_
    refine bg_virt0 rfl rfl rfl rfl (MD.ob hM) ?_
    refine mo_thrown (MD.yo hM) (bk_Ki ?_)
    rw [j0]
    have hlo2 : LO1 h2 o _ := (hf o (by omega) (by omega)).trans hlo
    refine bg_iload5 rfl ?_
    refine bg_icmp_eq rfl (fun e369 => ?_) (fun e369 => absurd rfl e369)
    refine bg_iload5 rfl ?_
    refine bg_if_ne rfl (fun e376 => absurd rfl e376) (fun e376 => ?_)
    refine bg_aload3 rfl ?_
    refine bg_iconst rfl ?_
    refine bg_laload rfl hlo2 (by unfold vp_in; decide) ?_
    refine bg_iload6 rfl ?_
    refine bg_i2l rfl ?_
    refine bg_lcmp rfl ?_
    rw [show (0 : Int32).toNatClampNeg = 0 from rfl, up_l, lc_same]
    refine bg_if_eq rfl (fun e386 => ?_) (fun e386 => absurd rfl e386)
    refine bg_goto rfl ?_
    refine hN h2 n2 _ _ _ ⟨u, v, _, _, _, J2, K, C, ep, _, hC.kq fun q q1 q2 => hf q (by omega) (by omega), hM, jj.trans jep, hwp, hov, GI_up hgi (by omega), h7, (hf o (by omega) (by omega)).trans hlo, har, by omega⟩ (by omega) (by show cs.1 + 1 + 1 ≤ _; omega) (by show cs.2 + 6 + 15 ≤ _; omega)
theorem lc_bark (z : LI V h n a m w x y o H) (hL : LW n a x y o) (hi : i + 6 ≤ m) (hm : m ≤ 65536) (hH : H + 300 < 10000000) (b1 : cs.1 + 71 ≤ B.1) (b2 : cs.2 + 1415 ≤ B.2) (hN : ∀ (h' : bk_H) (n' : Nat) (z5 z6 : Option Value) (cs' : Nat × Nat), LI V h' n' a m w x y o (H + 96) → n ≤ n' → cs'.1 ≤ cs.1 + 71 → cs'.2 ≤ cs.2 + 1415 → bk_g V (d + 70) 246 B Q 1497 [some (.ref a), some (.ref x), some (.ref y), some (.ref o), some (.int (nI i)), z5, z6, z7, z8] [] h' n' cs') : bk_g V (d + 70) 246 B Q 394 [some (.ref a), some (.ref x), some (.ref y), some (.ref o), some (.int (nI i)), z5, z6, z7, z8] [] h n cs := by
  obtain ⟨u, v, T, P, S, J, K, C, ep, gl, hC, hM, jep, hwp, hov, hgi, h7, hlo, har, hu⟩ := z
  obtain ⟨l1, l2, l3, l4⟩ := hL
  refine bg_aload1 rfl ?_
  refine bg_aload0 rfl ?_
  refine bg_iload4 rfl ?_
  refine bg_iconst rfl ?_
  refine bg_iadd rfl ?_
  rw [show nI i + 1 = nI (i + 1) from nI_ad]
  refine bg_iaload_v rfl har (by omega) (by omega) ?_
  refine bg_aload0 rfl ?_
  refine bg_iload4 rfl ?_
  refine bg_iconst rfl ?_
  refine bg_iadd rfl ?_
  rw [show nI i + 2 = nI (i + 2) from nI_ad]
  refine bg_iaload_v rfl har (by omega) (by omega) ?_
  refine bg_aload3 rfl ?_
  refine bg_stat4B (b := (1, 6)) rfl rfl rfl rfl (by show cs.1 + 1 ≤ _; omega) (by show cs.2 + 6 ≤ _; omega) ?_
  refine bw_bark hlo (by omega) (Nat.le_refl _) (Nat.le_refl _) hC (fun e0 n1 hn1 => bk_Ki ?_) (fun e0 h1 hC w1 hlo => bk_Ki ?_)
  · refine bg_istore5 rfl rfl ?_
    refine bg_aload2 rfl ?_
    refine bg_aload0 rfl ?_
    refine bg_iload4 rfl ?_
    refine bg_iconst rfl ?_
    refine bg_iadd rfl ?_
    rw [show nI i + 1 = nI (i + 1) from nI_ad]
    refine bg_iaload_v rfl har (by omega) (by omega) ?_
    refine bg_aload0 rfl ?_
    refine bg_iload4 rfl ?_
    refine bg_iconst rfl ?_
    refine bg_iadd rfl ?_
    rw [show nI i + 2 = nI (i + 2) from nI_ad]
    refine bg_iaload_v rfl har (by omega) (by omega) ?_
    refine bg_virt2B (b := (1, 5)) rfl rfl rfl rfl (MD.ob hM) (by show cs.1 + 1 + 1 ≤ _; omega) (by show cs.2 + 6 + 5 ≤ _; omega) ?_
    refine mo_bark hM ⟨by omega, by omega⟩ (Nat.le_refl _) (Nat.le_refl _) (fun _ h2 J2 hM j0 jj hf => bk_Ki ?_) (fun z0 => absurd z0 e0)
    refine bg_istore6 rfl rfl ?_
    refine bg_aload2 rfl ?_
    refine bg_virt0 rfl rfl rfl rfl (MD.ob hM) ?_
    refine mo_thrown (MD.yo hM) (bk_Ki ?_)
    rw [j0]
    refine bg_iload5 rfl ?_
    refine bg_icmp_eq rfl (fun e437 => ?_) (fun e437 => absurd rfl e437)
    refine bg_iload5 rfl ?_
    refine bg_if_ne rfl (fun e444 => ?_) (fun e444 => absurd e444 (by decide))
    refine bg_goto rfl ?_
    refine hN h2 n1 _ _ _ ⟨u, v, _, _, _, J2, K, C, ep, _, hC.kq fun q q1 q2 => hf q (by omega) (by omega), hM, jj.trans jep, hwp, hov, GI_up hgi (by omega), h7, (hf o (by omega) (by omega)).trans hlo, har, by omega⟩ (by omega) (by show cs.1 + 1 + 1 ≤ _; omega) (by show cs.2 + 6 + 5 ≤ _; omega)
  · have hM := hM.fo w1 l2 l3 (by omega)
    refine bg_istore5 rfl rfl ?_
    refine bg_aload2 rfl ?_
    refine bg_aload0 rfl ?_
    refine bg_iload4 rfl ?_
    refine bg_iconst rfl ?_
    refine bg_iadd rfl ?_
    rw [show nI i + 1 = nI (i + 1) from nI_ad]
    refine bg_iaload_v rfl har (by omega) (by omega) ?_
    refine bg_aload0 rfl ?_
    refine bg_iload4 rfl ?_
    refine bg_iconst rfl ?_
    refine bg_iadd rfl ?_
    rw [show nI i + 2 = nI (i + 2) from nI_ad]
    refine bg_iaload_v rfl har (by omega) (by omega) ?_
    refine bg_virt2B (b := (1, 5)) rfl rfl rfl rfl (MD.ob hM) (by show cs.1 + 1 + 1 ≤ _; omega) (by show cs.2 + 6 + 5 ≤ _; omega) ?_
    refine mo_bark hM ⟨by omega, by omega⟩ (Nat.le_refl _) (Nat.le_refl _) (fun z0 => absurd e0 z0) (fun _ h2 n2 J2 hM j0 jj hn2 hf => bk_Ki ?_)
    refine bg_istore6 rfl rfl ?_
    refine bg_aload2 rfl ?_
    refine bg_virt0 rfl rfl rfl rfl (MD.ob hM) ?_
    refine mo_thrown (MD.yo hM) (bk_Ki ?_)
    rw [j0]
    have hlo2 : LO1 h2 o _ := (hf o (by omega) (by omega)).trans hlo
    refine bg_iload5 rfl ?_
    refine bg_icmp_eq rfl (fun e437 => ?_) (fun e437 => absurd rfl e437)
    refine bg_iload5 rfl ?_
    refine bg_if_ne rfl (fun e444 => absurd rfl e444) (fun e444 => ?_)
    refine bg_aload3 rfl ?_
    refine bg_iconst rfl ?_
    refine bg_laload rfl hlo2 (by unfold vp_in; decide) ?_
    refine bg_iload6 rfl ?_
    refine bg_i2l rfl ?_
    refine bg_lcmp rfl ?_
    rw [show (0 : Int32).toNatClampNeg = 0 from rfl, up_l, lc_same]
    refine bg_if_eq rfl (fun e454 => ?_) (fun e454 => absurd rfl e454)
    refine bg_goto rfl ?_
    refine hN h2 n2 _ _ _ ⟨u, v, _, _, _, J2, K, C, ep, _, hC.kq fun q q1 q2 => hf q (by omega) (by omega), hM, jj.trans jep, hwp, hov, GI_up hgi (by omega), h7, (hf o (by omega) (by omega)).trans hlo, har, by omega⟩ (by omega) (by show cs.1 + 1 + 1 ≤ _; omega) (by show cs.2 + 6 + 5 ≤ _; omega)
theorem lc_beater (z : LI V h n a m w x y o H) (hL : LW n a x y o) (hi : i + 6 ≤ m) (hm : m ≤ 65536) (hH : H + 300 < 10000000) (b1 : cs.1 + 71 ≤ B.1) (b2 : cs.2 + 1415 ≤ B.2) (hN : ∀ (h' : bk_H) (n' : Nat) (z5 z6 : Option Value) (cs' : Nat × Nat), LI V h' n' a m w x y o (H + 96) → n ≤ n' → cs'.1 ≤ cs.1 + 71 → cs'.2 ≤ cs.2 + 1415 → bk_g V (d + 70) 246 B Q 1497 [some (.ref a), some (.ref x), some (.ref y), some (.ref o), some (.int (nI i)), z5, z6, z7, z8] [] h' n' cs') : bk_g V (d + 70) 246 B Q 462 [some (.ref a), some (.ref x), some (.ref y), some (.ref o), some (.int (nI i)), z5, z6, z7, z8] [] h n cs := by
  obtain ⟨u, v, T, P, S, J, K, C, ep, gl, hC, hM, jep, hwp, hov, hgi, h7, hlo, har, hu⟩ := z
  obtain ⟨l1, l2, l3, l4⟩ := hL
  obtain ⟨mh, kh, hb0, hb4, hb1, hb2⟩ := hgi.2.2.1
  refine bg_aload1 rfl ?_
  refine bg_aload0 rfl ?_
  refine bg_iload4 rfl ?_
  refine bg_iconst rfl ?_
  refine bg_iadd rfl ?_
  rw [show nI i + 1 = nI (i + 1) from nI_ad]
  refine bg_iaload_v rfl har (by omega) (by omega) ?_
  refine bg_aload0 rfl ?_
  refine bg_iload4 rfl ?_
  refine bg_iconst rfl ?_
  refine bg_iadd rfl ?_
  rw [show nI i + 2 = nI (i + 2) from nI_ad]
  refine bg_iaload_v rfl har (by omega) (by omega) ?_
  refine bg_aload3 rfl ?_
  refine bg_stat4B (b := (1, 6)) rfl rfl rfl rfl (by show cs.1 + 1 ≤ _; omega) (by show cs.2 + 6 ≤ _; omega) ?_
  refine bw_beater hlo (by omega) (Nat.le_refl _) (Nat.le_refl _) hC hwp (fun e0 n1 hn1 => bk_Ki ?_) (fun e0 h1 hC w1 hlo => bk_Ki ?_)
  · refine bg_istore5 rfl rfl ?_
    refine bg_aload2 rfl ?_
    refine bg_aload0 rfl ?_
    refine bg_iload4 rfl ?_
    refine bg_iconst rfl ?_
    refine bg_iadd rfl ?_
    rw [show nI i + 1 = nI (i + 1) from nI_ad]
    refine bg_iaload_v rfl har (by omega) (by omega) ?_
    refine bg_aload0 rfl ?_
    refine bg_iload4 rfl ?_
    refine bg_iconst rfl ?_
    refine bg_iadd rfl ?_
    rw [show nI i + 2 = nI (i + 2) from nI_ad]
    refine bg_iaload_v rfl har (by omega) (by omega) ?_
    refine bg_virt2 rfl rfl rfl rfl (MD.ob hM) ?_
    refine mo_beater hM ⟨by omega, by omega⟩ hb0 (by omega) (fun _ h2 J2 hM j0 jj hf => bk_Ki ?_) (fun z0 => absurd z0 e0)
    refine bg_istore6 rfl rfl ?_
    refine bg_aload2 rfl ?_
    refine bg_virt0 rfl rfl rfl rfl (MD.ob hM) ?_
    refine mo_thrown (MD.yo hM) (bk_Ki ?_)
    rw [j0]
    refine bg_iload5 rfl ?_
    refine bg_icmp_eq rfl (fun e505 => ?_) (fun e505 => absurd rfl e505)
    refine bg_iload5 rfl ?_
    refine bg_if_ne rfl (fun e512 => ?_) (fun e512 => absurd e512 (by decide))
    refine bg_goto rfl ?_
    refine hN h2 n1 _ _ _ ⟨u, v, _, _, _, J2, K, C, ep, _, hC.kq fun q q1 q2 => hf q (by omega) (by omega), hM, jj.trans jep, hwp, hov, GI_up hgi (by omega), h7, (hf o (by omega) (by omega)).trans hlo, har, by omega⟩ (by omega) (by show cs.1 + 1 ≤ _; omega) (by show cs.2 + 6 ≤ _; omega)
  · have hM := hM.fo w1 l2 l3 (by omega)
    refine bg_istore5 rfl rfl ?_
    refine bg_aload2 rfl ?_
    refine bg_aload0 rfl ?_
    refine bg_iload4 rfl ?_
    refine bg_iconst rfl ?_
    refine bg_iadd rfl ?_
    rw [show nI i + 1 = nI (i + 1) from nI_ad]
    refine bg_iaload_v rfl har (by omega) (by omega) ?_
    refine bg_aload0 rfl ?_
    refine bg_iload4 rfl ?_
    refine bg_iconst rfl ?_
    refine bg_iadd rfl ?_
    rw [show nI i + 2 = nI (i + 2) from nI_ad]
    refine bg_iaload_v rfl har (by omega) (by omega) ?_
    refine bg_virt2 rfl rfl rfl rfl (MD.ob hM) ?_
    refine mo_beater hM ⟨by omega, by omega⟩ hb0 (by omega) (fun z0 => absurd e0 z0) (fun _ h2 n2 J2 hM j0 jj hn2 hf => bk_Ki ?_)
    refine bg_istore6 rfl rfl ?_
    refine bg_aload2 rfl ?_
    refine bg_virt0 rfl rfl rfl rfl (MD.ob hM) ?_
    refine mo_thrown (MD.yo hM) (bk_Ki ?_)
    rw [j0]
    have hlo2 : LO1 h2 o _ := (hf o (by omega) (by omega)).trans hlo
    refine bg_iload5 rfl ?_
    refine bg_icmp_eq rfl (fun e505 => ?_) (fun e505 => absurd rfl e505)
    refine bg_iload5 rfl ?_
    refine bg_if_ne rfl (fun e512 => absurd rfl e512) (fun e512 => ?_)
    refine bg_aload3 rfl ?_
    refine bg_iconst rfl ?_
    refine bg_laload rfl hlo2 (by unfold vp_in; decide) ?_
    refine bg_iload6 rfl ?_
    refine bg_i2l rfl ?_
    refine bg_lcmp rfl ?_
    rw [show (0 : Int32).toNatClampNeg = 0 from rfl, up_l, lc_same]
    refine bg_if_eq rfl (fun e522 => ?_) (fun e522 => absurd rfl e522)
    refine bg_goto rfl ?_
    refine hN h2 n2 _ _ _ ⟨u, v, _, _, _, J2, K, C, ep, _, hC.kq fun q q1 q2 => hf q (by omega) (by omega), hM, jj.trans jep, hwp, hov, GI_up hgi (by omega), h7, (hf o (by omega) (by omega)).trans hlo, har, by omega⟩ (by omega) (by show cs.1 + 1 ≤ _; omega) (by show cs.2 + 6 ≤ _; omega)
theorem lc_spirit (z : LI V h n a m w x y o H) (hL : LW n a x y o) (hi : i + 6 ≤ m) (hm : m ≤ 65536) (hH : H + 300 < 10000000) (b1 : cs.1 + 71 ≤ B.1) (b2 : cs.2 + 1415 ≤ B.2) (hN : ∀ (h' : bk_H) (n' : Nat) (z5 z6 : Option Value) (cs' : Nat × Nat), LI V h' n' a m w x y o (H + 96) → n ≤ n' → cs'.1 ≤ cs.1 + 71 → cs'.2 ≤ cs.2 + 1415 → bk_g V (d + 70) 246 B Q 1497 [some (.ref a), some (.ref x), some (.ref y), some (.ref o), some (.int (nI i)), z5, z6, z7, z8] [] h' n' cs') : bk_g V (d + 70) 246 B Q 530 [some (.ref a), some (.ref x), some (.ref y), some (.ref o), some (.int (nI i)), z5, z6, z7, z8] [] h n cs := by
  obtain ⟨u, v, T, P, S, J, K, C, ep, gl, hC, hM, jep, hwp, hov, hgi, h7, hlo, har, hu⟩ := z
  obtain ⟨l1, l2, l3, l4⟩ := hL
  refine bg_aload1 rfl ?_
  refine bg_aload0 rfl ?_
  refine bg_iload4 rfl ?_
  refine bg_iconst rfl ?_
  refine bg_iadd rfl ?_
  rw [show nI i + 1 = nI (i + 1) from nI_ad]
  refine bg_iaload_v rfl har (by omega) (by omega) ?_
  refine bg_aload0 rfl ?_
  refine bg_iload4 rfl ?_
  refine bg_iconst rfl ?_
  refine bg_iadd rfl ?_
  rw [show nI i + 2 = nI (i + 2) from nI_ad]
  refine bg_iaload_v rfl har (by omega) (by omega) ?_
  refine bg_aload3 rfl ?_
  refine bg_stat4B (b := (1, 6)) rfl rfl rfl rfl (by show cs.1 + 1 ≤ _; omega) (by show cs.2 + 6 ≤ _; omega) ?_
  refine bw_spirit hlo (by omega) (Nat.le_refl _) (Nat.le_refl _) hC (fun e0 n1 hn1 => bk_Ki ?_) (fun e0 h1 hC w1 hlo => bk_Ki ?_)
  · refine bg_istore5 rfl rfl ?_
    refine bg_aload2 rfl ?_
    refine bg_aload0 rfl ?_
    refine bg_iload4 rfl ?_
    refine bg_iconst rfl ?_
    refine bg_iadd rfl ?_
    rw [show nI i + 1 = nI (i + 1) from nI_ad]
    refine bg_iaload_v rfl har (by omega) (by omega) ?_
    refine bg_aload0 rfl ?_
    refine bg_iload4 rfl ?_
    refine bg_iconst rfl ?_
    refine bg_iadd rfl ?_
    rw [show nI i + 2 = nI (i + 2) from nI_ad]
    refine bg_iaload_v rfl har (by omega) (by omega) ?_
    refine bg_virt2B (b := (1, 5)) rfl rfl rfl rfl (MD.ob hM) (by show cs.1 + 1 + 1 ≤ _; omega) (by show cs.2 + 6 + 5 ≤ _; omega) ?_
    refine mo_spirit hM ⟨by omega, by omega⟩ (Nat.le_refl _) (Nat.le_refl _) (fun _ h2 J2 hM j0 jj hf => bk_Ki ?_) (fun z0 => absurd z0 e0)
    refine bg_istore6 rfl rfl ?_
    refine bg_aload2 rfl ?_
    refine bg_virt0 rfl rfl rfl rfl (MD.ob hM) ?_
    refine mo_thrown (MD.yo hM) (bk_Ki ?_)
    rw [j0]
    refine bg_iload5 rfl ?_
    refine bg_icmp_eq rfl (fun e573 => ?_) (fun e573 => absurd rfl e573)
    refine bg_iload5 rfl ?_
    refine bg_if_ne rfl (fun e580 => ?_) (fun e580 => absurd e580 (by decide))
    refine bg_goto rfl ?_
    refine hN h2 n1 _ _ _ ⟨u, v, _, _, _, J2, K, C, ep, _, hC.kq fun q q1 q2 => hf q (by omega) (by omega), hM, jj.trans jep, hwp, hov, GI_up hgi (by omega), h7, (hf o (by omega) (by omega)).trans hlo, har, by omega⟩ (by omega) (by show cs.1 + 1 + 1 ≤ _; omega) (by show cs.2 + 6 + 5 ≤ _; omega)
  · have hM := hM.fo w1 l2 l3 (by omega)
    refine bg_istore5 rfl rfl ?_
    refine bg_aload2 rfl ?_
    refine bg_aload0 rfl ?_
    refine bg_iload4 rfl ?_
    refine bg_iconst rfl ?_
    refine bg_iadd rfl ?_
    rw [show nI i + 1 = nI (i + 1) from nI_ad]
    refine bg_iaload_v rfl har (by omega) (by omega) ?_
    refine bg_aload0 rfl ?_
    refine bg_iload4 rfl ?_
    refine bg_iconst rfl ?_
    refine bg_iadd rfl ?_
    rw [show nI i + 2 = nI (i + 2) from nI_ad]
    refine bg_iaload_v rfl har (by omega) (by omega) ?_
    refine bg_virt2B (b := (1, 5)) rfl rfl rfl rfl (MD.ob hM) (by show cs.1 + 1 + 1 ≤ _; omega) (by show cs.2 + 6 + 5 ≤ _; omega) ?_
    refine mo_spirit hM ⟨by omega, by omega⟩ (Nat.le_refl _) (Nat.le_refl _) (fun z0 => absurd e0 z0) (fun _ h2 n2 J2 hM j0 jj hn2 hf => bk_Ki ?_)
    refine bg_istore6 rfl rfl ?_
    refine bg_aload2 rfl ?_
    refine bg_virt0 rfl rfl rfl rfl (MD.ob hM) ?_
    refine mo_thrown (MD.yo hM) (bk_Ki ?_)
    rw [j0]
    have hlo2 : LO1 h2 o _ := (hf o (by omega) (by omega)).trans hlo
    refine bg_iload5 rfl ?_
    refine bg_icmp_eq rfl (fun e573 => ?_) (fun e573 => absurd rfl e573)
    refine bg_iload5 rfl ?_
    refine bg_if_ne rfl (fun e580 => absurd rfl e580) (fun e580 => ?_)
    refine bg_aload3 rfl ?_
    refine bg_iconst rfl ?_
    refine bg_laload rfl hlo2 (by unfold vp_in; decide) ?_
    refine bg_iload6 rfl ?_
    refine bg_i2l rfl ?_
    refine bg_lcmp rfl ?_
    rw [show (0 : Int32).toNatClampNeg = 0 from rfl, up_l, lc_same]
    refine bg_if_eq rfl (fun e590 => ?_) (fun e590 => absurd rfl e590)
    refine bg_goto rfl ?_
    refine hN h2 n2 _ _ _ ⟨u, v, _, _, _, J2, K, C, ep, _, hC.kq fun q q1 q2 => hf q (by omega) (by omega), hM, jj.trans jep, hwp, hov, GI_up hgi (by omega), h7, (hf o (by omega) (by omega)).trans hlo, har, by omega⟩ (by omega) (by show cs.1 + 1 + 1 ≤ _; omega) (by show cs.2 + 6 + 5 ≤ _; omega)
theorem lc_sheet (z : LI V h n a m w x y o H) (hL : LW n a x y o) (hi : i + 6 ≤ m) (hm : m ≤ 65536) (hH : H + 300 < 10000000) (b1 : cs.1 + 71 ≤ B.1) (b2 : cs.2 + 1415 ≤ B.2) (hN : ∀ (h' : bk_H) (n' : Nat) (z5 z6 : Option Value) (cs' : Nat × Nat), LI V h' n' a m w x y o (H + 96) → n ≤ n' → cs'.1 ≤ cs.1 + 71 → cs'.2 ≤ cs.2 + 1415 → bk_g V (d + 70) 246 B Q 1497 [some (.ref a), some (.ref x), some (.ref y), some (.ref o), some (.int (nI i)), z5, z6, z7, z8] [] h' n' cs') : bk_g V (d + 70) 246 B Q 598 [some (.ref a), some (.ref x), some (.ref y), some (.ref o), some (.int (nI i)), z5, z6, z7, z8] [] h n cs := by
  obtain ⟨u, v, T, P, S, J, K, C, ep, gl, hC, hM, jep, hwp, hov, hgi, h7, hlo, har, hu⟩ := z
  obtain ⟨l1, l2, l3, l4⟩ := hL
  refine bg_aload1 rfl ?_
  refine bg_aload0 rfl ?_
  refine bg_iload4 rfl ?_
  refine bg_iconst rfl ?_
  refine bg_iadd rfl ?_
  rw [show nI i + 1 = nI (i + 1) from nI_ad]
  refine bg_iaload_v rfl har (by omega) (by omega) ?_
  refine bg_aload0 rfl ?_
  refine bg_iload4 rfl ?_
  refine bg_iconst rfl ?_
  refine bg_iadd rfl ?_
  rw [show nI i + 2 = nI (i + 2) from nI_ad]
  refine bg_iaload_v rfl har (by omega) (by omega) ?_
  refine bg_aload3 rfl ?_
  refine bg_stat4B (b := (1, 6)) rfl rfl rfl rfl (by show cs.1 + 1 ≤ _; omega) (by show cs.2 + 6 ≤ _; omega) ?_
  refine bw_sheet hlo (by omega) (Nat.le_refl _) (Nat.le_refl _) hC (fun e0 n1 hn1 => bk_Ki ?_) (fun e0 h1 hC w1 hlo => bk_Ki ?_)
  · refine bg_istore5 rfl rfl ?_
    refine bg_aload2 rfl ?_
    refine bg_aload0 rfl ?_
    refine bg_iload4 rfl ?_
    refine bg_iconst rfl ?_
    refine bg_iadd rfl ?_
    rw [show nI i + 1 = nI (i + 1) from nI_ad]
    refine bg_iaload_v rfl har (by omega) (by omega) ?_
    refine bg_aload0 rfl ?_
    refine bg_iload4 rfl ?_
    refine bg_iconst rfl ?_
    refine bg_iadd rfl ?_
    rw [show nI i + 2 = nI (i + 2) from nI_ad]
    refine bg_iaload_v rfl har (by omega) (by omega) ?_
    refine bg_virt2 rfl rfl rfl rfl (MD.ob hM) ?_
    refine mo_sheet hM ⟨by omega, by omega⟩ (fun _ h2 J2 hM j0 jj hf => bk_Ki ?_) (fun z0 => absurd z0 e0)
    refine bg_istore6 rfl rfl ?_
    refine bg_aload2 rfl ?_
    refine bg_virt0 rfl rfl rfl rfl (MD.ob hM) ?_
    refine mo_thrown (MD.yo hM) (bk_Ki ?_)
    rw [j0]
    refine bg_iload5 rfl ?_
    refine bg_icmp_eq rfl (fun e641 => ?_) (fun e641 => absurd rfl e641)
    refine bg_iload5 rfl ?_
    refine bg_if_ne rfl (fun e648 => ?_) (fun e648 => absurd e648 (by decide))
    refine bg_goto rfl ?_
    refine hN h2 n1 _ _ _ ⟨u, v, _, _, _, J2, K, C, ep, _, hC.kq fun q q1 q2 => hf q (by omega) (by omega), hM, jj.trans jep, hwp, hov, GI_up hgi (by omega), h7, (hf o (by omega) (by omega)).trans hlo, har, by omega⟩ (by omega) (by show cs.1 + 1 ≤ _; omega) (by show cs.2 + 6 ≤ _; omega)
  · have hM := hM.fo w1 l2 l3 (by omega)
    refine bg_istore5 rfl rfl ?_
    refine bg_aload2 rfl ?_
    refine bg_aload0 rfl ?_
    refine bg_iload4 rfl ?_
    refine bg_iconst rfl ?_
    refine bg_iadd rfl ?_
    rw [show nI i + 1 = nI (i + 1) from nI_ad]
    refine bg_iaload_v rfl har (by omega) (by omega) ?_
    refine bg_aload0 rfl ?_
    refine bg_iload4 rfl ?_
    refine bg_iconst rfl ?_
    refine bg_iadd rfl ?_
    rw [show nI i + 2 = nI (i + 2) from nI_ad]
    refine bg_iaload_v rfl har (by omega) (by omega) ?_
    refine bg_virt2 rfl rfl rfl rfl (MD.ob hM) ?_
    refine mo_sheet hM ⟨by omega, by omega⟩ (fun z0 => absurd e0 z0) (fun _ h2 n2 J2 hM j0 jj hn2 hf => bk_Ki ?_)
    refine bg_istore6 rfl rfl ?_
    refine bg_aload2 rfl ?_
    refine bg_virt0 rfl rfl rfl rfl (MD.ob hM) ?_
    refine mo_thrown (MD.yo hM) (bk_Ki ?_)
    rw [j0]
    have hlo2 : LO1 h2 o _ := (hf o (by omega) (by omega)).trans hlo
    refine bg_iload5 rfl ?_
    refine bg_icmp_eq rfl (fun e641 => ?_) (fun e641 => absurd rfl e641)
    refine bg_iload5 rfl ?_
    refine bg_if_ne rfl (fun e648 => absurd rfl e648) (fun e648 => ?_)
    refine bg_aload3 rfl ?_
    refine bg_iconst rfl ?_
    refine bg_laload rfl hlo2 (by unfold vp_in; decide) ?_
    refine bg_iload6 rfl ?_
    refine bg_i2l rfl ?_
    refine bg_lcmp rfl ?_
    rw [show (0 : Int32).toNatClampNeg = 0 from rfl, up_l, lc_same]
    refine bg_if_eq rfl (fun e658 => ?_) (fun e658 => absurd rfl e658)
    refine bg_goto rfl ?_
    refine hN h2 n2 _ _ _ ⟨u, v, _, _, _, J2, K, C, ep, _, hC.kq fun q q1 q2 => hf q (by omega) (by omega), hM, jj.trans jep, hwp, hov, GI_up hgi (by omega), h7, (hf o (by omega) (by omega)).trans hlo, har, by omega⟩ (by omega) (by show cs.1 + 1 ≤ _; omega) (by show cs.2 + 6 ≤ _; omega)
theorem lc_figure (z : LI V h n a m w x y o H) (hL : LW n a x y o) (hi : i + 6 ≤ m) (hm : m ≤ 65536) (hH : H + 300 < 10000000) (b1 : cs.1 + 71 ≤ B.1) (b2 : cs.2 + 1415 ≤ B.2) (hN : ∀ (h' : bk_H) (n' : Nat) (z5 z6 : Option Value) (cs' : Nat × Nat), LI V h' n' a m w x y o (H + 96) → n ≤ n' → cs'.1 ≤ cs.1 + 71 → cs'.2 ≤ cs.2 + 1415 → bk_g V (d + 70) 246 B Q 1497 [some (.ref a), some (.ref x), some (.ref y), some (.ref o), some (.int (nI i)), z5, z6, z7, z8] [] h' n' cs') : bk_g V (d + 70) 246 B Q 666 [some (.ref a), some (.ref x), some (.ref y), some (.ref o), some (.int (nI i)), z5, z6, z7, z8] [] h n cs := by
  obtain ⟨u, v, T, P, S, J, K, C, ep, gl, hC, hM, jep, hwp, hov, hgi, h7, hlo, har, hu⟩ := z
  obtain ⟨l1, l2, l3, l4⟩ := hL
  refine bg_aload1 rfl ?_
  refine bg_aload0 rfl ?_
  refine bg_iload4 rfl ?_
  refine bg_iconst rfl ?_
  refine bg_iadd rfl ?_
  rw [show nI i + 1 = nI (i + 1) from nI_ad]
  refine bg_iaload_v rfl har (by omega) (by omega) ?_
  refine bg_aload0 rfl ?_
  refine bg_iload4 rfl ?_
  refine bg_iconst rfl ?_
  refine bg_iadd rfl ?_
  rw [show nI i + 2 = nI (i + 2) from nI_ad]
  refine bg_iaload_v rfl har (by omega) (by omega) ?_
  refine bg_aload3 rfl ?_
  refine bg_stat4B (b := (1, 6)) rfl rfl rfl rfl (by show cs.1 + 1 ≤ _; omega) (by show cs.2 + 6 ≤ _; omega) ?_
  refine bw_figure hlo (by omega) (Nat.le_refl _) (Nat.le_refl _) hC (fun e0 n1 hn1 => bk_Ki ?_) (fun e0 h1 hC w1 hlo => bk_Ki ?_)
  · refine bg_istore5 rfl rfl ?_
    refine bg_aload2 rfl ?_
    refine bg_aload0 rfl ?_
    refine bg_iload4 rfl ?_
    refine bg_iconst rfl ?_
    refine bg_iadd rfl ?_
    rw [show nI i + 1 = nI (i + 1) from nI_ad]
    refine bg_iaload_v rfl har (by omega) (by omega) ?_
    refine bg_aload0 rfl ?_
    refine bg_iload4 rfl ?_
    refine bg_iconst rfl ?_
    refine bg_iadd rfl ?_
    rw [show nI i + 2 = nI (i + 2) from nI_ad]
    refine bg_iaload_v rfl har (by omega) (by omega) ?_
    refine bg_virt2 rfl rfl rfl rfl (MD.ob hM) ?_
    refine mo_figure hM ⟨by omega, by omega⟩ (fun _ h2 J2 hM j0 jj hf => bk_Ki ?_) (fun z0 => absurd z0 e0)
    refine bg_istore6 rfl rfl ?_
    refine bg_aload2 rfl ?_
    refine bg_virt0 rfl rfl rfl rfl (MD.ob hM) ?_
    refine mo_thrown (MD.yo hM) (bk_Ki ?_)
    rw [j0]
    refine bg_iload5 rfl ?_
    refine bg_icmp_eq rfl (fun e709 => ?_) (fun e709 => absurd rfl e709)
    refine bg_iload5 rfl ?_
    refine bg_if_ne rfl (fun e716 => ?_) (fun e716 => absurd e716 (by decide))
    refine bg_goto rfl ?_
    refine hN h2 n1 _ _ _ ⟨u, v, _, _, _, J2, K, C, ep, _, hC.kq fun q q1 q2 => hf q (by omega) (by omega), hM, jj.trans jep, hwp, hov, GI_up hgi (by omega), h7, (hf o (by omega) (by omega)).trans hlo, har, by omega⟩ (by omega) (by show cs.1 + 1 ≤ _; omega) (by show cs.2 + 6 ≤ _; omega)
  · have hM := hM.fo w1 l2 l3 (by omega)
    refine bg_istore5 rfl rfl ?_
    refine bg_aload2 rfl ?_
    refine bg_aload0 rfl ?_
    refine bg_iload4 rfl ?_
    refine bg_iconst rfl ?_
    refine bg_iadd rfl ?_
    rw [show nI i + 1 = nI (i + 1) from nI_ad]
    refine bg_iaload_v rfl har (by omega) (by omega) ?_
    refine bg_aload0 rfl ?_
    refine bg_iload4 rfl ?_
    refine bg_iconst rfl ?_
    refine bg_iadd rfl ?_
    rw [show nI i + 2 = nI (i + 2) from nI_ad]
    refine bg_iaload_v rfl har (by omega) (by omega) ?_
    refine bg_virt2 rfl rfl rfl rfl (MD.ob hM) ?_
    refine mo_figure hM ⟨by omega, by omega⟩ (fun z0 => absurd e0 z0) (fun _ h2 n2 J2 hM j0 jj hn2 hf => bk_Ki ?_)
    refine bg_istore6 rfl rfl ?_
    refine bg_aload2 rfl ?_
    refine bg_virt0 rfl rfl rfl rfl (MD.ob hM) ?_
    refine mo_thrown (MD.yo hM) (bk_Ki ?_)
    rw [j0]
    have hlo2 : LO1 h2 o _ := (hf o (by omega) (by omega)).trans hlo
    refine bg_iload5 rfl ?_
    refine bg_icmp_eq rfl (fun e709 => ?_) (fun e709 => absurd rfl e709)
    refine bg_iload5 rfl ?_
    refine bg_if_ne rfl (fun e716 => absurd rfl e716) (fun e716 => ?_)
    refine bg_aload3 rfl ?_
    refine bg_iconst rfl ?_
    refine bg_laload rfl hlo2 (by unfold vp_in; decide) ?_
    refine bg_iload6 rfl ?_
    refine bg_i2l rfl ?_
    refine bg_lcmp rfl ?_
    rw [show (0 : Int32).toNatClampNeg = 0 from rfl, up_l, lc_same]
    refine bg_if_eq rfl (fun e726 => ?_) (fun e726 => absurd rfl e726)
    refine bg_goto rfl ?_
    refine hN h2 n2 _ _ _ ⟨u, v, _, _, _, J2, K, C, ep, _, hC.kq fun q q1 q2 => hf q (by omega) (by omega), hM, jj.trans jep, hwp, hov, GI_up hgi (by omega), h7, (hf o (by omega) (by omega)).trans hlo, har, by omega⟩ (by omega) (by show cs.1 + 1 ≤ _; omega) (by show cs.2 + 6 ≤ _; omega)
theorem lc_force (z : LI V h n a m w x y o H) (hL : LW n a x y o) (hi : i + 6 ≤ m) (hm : m ≤ 65536) (hH : H + 300 < 10000000) (b1 : cs.1 + 71 ≤ B.1) (b2 : cs.2 + 1415 ≤ B.2) (hN : ∀ (h' : bk_H) (n' : Nat) (z5 z6 : Option Value) (cs' : Nat × Nat), LI V h' n' a m w x y o (H + 96) → n ≤ n' → cs'.1 ≤ cs.1 + 71 → cs'.2 ≤ cs.2 + 1415 → bk_g V (d + 70) 246 B Q 1497 [some (.ref a), some (.ref x), some (.ref y), some (.ref o), some (.int (nI i)), z5, z6, z7, z8] [] h' n' cs') : bk_g V (d + 70) 246 B Q 734 [some (.ref a), some (.ref x), some (.ref y), some (.ref o), some (.int (nI i)), z5, z6, z7, z8] [] h n cs := by
  obtain ⟨u, v, T, P, S, J, K, C, ep, gl, hC, hM, jep, hwp, hov, hgi, h7, hlo, har, hu⟩ := z
  obtain ⟨l1, l2, l3, l4⟩ := hL
  refine bg_aload1 rfl ?_
  refine bg_aload0 rfl ?_
  refine bg_iload4 rfl ?_
  refine bg_iconst rfl ?_
  refine bg_iadd rfl ?_
  rw [show nI i + 1 = nI (i + 1) from nI_ad]
  refine bg_iaload_v rfl har (by omega) (by omega) ?_
  refine bg_aload3 rfl ?_
  refine bg_stat3B (b := (1, 6)) rfl rfl rfl rfl (by show cs.1 + 1 ≤ _; omega) (by show cs.2 + 6 ≤ _; omega) ?_
  refine bw_force hlo (by omega) (Nat.le_refl _) (Nat.le_refl _) hwp hC (fun e0 n1 hn1 => bk_Ki ?_) (fun e0 h1 hC w1 hlo => bk_Ki ?_)
  · refine bg_istore5 rfl rfl ?_
    refine bg_aload2 rfl ?_
    refine bg_aload0 rfl ?_
    refine bg_iload4 rfl ?_
    refine bg_iconst rfl ?_
    refine bg_iadd rfl ?_
    rw [show nI i + 1 = nI (i + 1) from nI_ad]
    refine bg_iaload_v rfl har (by omega) (by omega) ?_
    refine bg_virt1 rfl rfl rfl rfl (MD.ob hM) ?_
    refine mo_force hM (fun _ h2 J2 hM j0 jj hf => bk_Ki ?_) (fun z0 => absurd z0 e0)
    refine bg_istore6 rfl rfl ?_
    refine bg_aload2 rfl ?_
    refine bg_virt0 rfl rfl rfl rfl (MD.ob hM) ?_
    refine mo_thrown (MD.yo hM) (bk_Ki ?_)
    rw [j0]
    refine bg_iload5 rfl ?_
    refine bg_icmp_eq rfl (fun e765 => ?_) (fun e765 => absurd rfl e765)
    refine bg_iload5 rfl ?_
    refine bg_if_ne rfl (fun e772 => ?_) (fun e772 => absurd e772 (by decide))
    refine bg_goto rfl ?_
    refine hN h2 n1 _ _ _ ⟨u, v, _, _, _, J2, K, C, ep, _, hC.kq fun q q1 q2 => hf q (by omega) (by omega), hM, jj.trans jep, hwp, hov, GI_up hgi (by omega), h7, (hf o (by omega) (by omega)).trans hlo, har, by omega⟩ (by omega) (by show cs.1 + 1 ≤ _; omega) (by show cs.2 + 6 ≤ _; omega)
  · have hM := hM.fo w1 l2 l3 (by omega)
    refine bg_istore5 rfl rfl ?_
    refine bg_aload2 rfl ?_
    refine bg_aload0 rfl ?_
    refine bg_iload4 rfl ?_
    refine bg_iconst rfl ?_
    refine bg_iadd rfl ?_
    rw [show nI i + 1 = nI (i + 1) from nI_ad]
    refine bg_iaload_v rfl har (by omega) (by omega) ?_
    refine bg_virt1 rfl rfl rfl rfl (MD.ob hM) ?_
    refine mo_force hM (fun z0 => absurd e0 z0) (fun _ h2 n2 J2 hM j0 jj hn2 hf => bk_Ki ?_)
    refine bg_istore6 rfl rfl ?_
    refine bg_aload2 rfl ?_
    refine bg_virt0 rfl rfl rfl rfl (MD.ob hM) ?_
    refine mo_thrown (MD.yo hM) (bk_Ki ?_)
    rw [j0]
    have hlo2 : LO1 h2 o _ := (hf o (by omega) (by omega)).trans hlo
    refine bg_iload5 rfl ?_
    refine bg_icmp_eq rfl (fun e765 => ?_) (fun e765 => absurd rfl e765)
    refine bg_iload5 rfl ?_
    refine bg_if_ne rfl (fun e772 => absurd rfl e772) (fun e772 => ?_)
    refine bg_aload3 rfl ?_
    refine bg_iconst rfl ?_
    refine bg_laload rfl hlo2 (by unfold vp_in; decide) ?_
    refine bg_iload6 rfl ?_
    refine bg_i2l rfl ?_
    refine bg_lcmp rfl ?_
    rw [show (0 : Int32).toNatClampNeg = 0 from rfl, up_l, lc_same]
    refine bg_if_eq rfl (fun e782 => ?_) (fun e782 => absurd rfl e782)
    refine bg_goto rfl ?_
    refine hN h2 n2 _ _ _ ⟨u, v, _, _, _, J2, K, C, ep, _, hC.kq fun q q1 q2 => hf q (by omega) (by omega), hM, jj.trans jep, hwp, hov, GI_up hgi (by omega), h7, (hf o (by omega) (by omega)).trans hlo, har, by omega⟩ (by omega) (by show cs.1 + 1 ≤ _; omega) (by show cs.2 + 6 ≤ _; omega)
theorem lc_setWeather (z : LI V h n a m w x y o H) (hL : LW n a x y o) (hi : i + 6 ≤ m) (hm : m ≤ 65536) (hH : H + 300 < 10000000) (b1 : cs.1 + 71 ≤ B.1) (b2 : cs.2 + 1415 ≤ B.2) (hN : ∀ (h' : bk_H) (n' : Nat) (z5 z6 : Option Value) (cs' : Nat × Nat), LI V h' n' a m w x y o (H + 96) → n ≤ n' → cs'.1 ≤ cs.1 + 71 → cs'.2 ≤ cs.2 + 1415 → bk_g V (d + 70) 246 B Q 1497 [some (.ref a), some (.ref x), some (.ref y), some (.ref o), some (.int (nI i)), z5, z6, z7, z8] [] h' n' cs') : bk_g V (d + 70) 246 B Q 790 [some (.ref a), some (.ref x), some (.ref y), some (.ref o), some (.int (nI i)), z5, z6, z7, z8] [] h n cs := by
  obtain ⟨u, v, T, P, S, J, K, C, ep, gl, hC, hM, jep, hwp, hov, hgi, h7, hlo, har, hu⟩ := z
  obtain ⟨l1, l2, l3, l4⟩ := hL
  refine bg_aload1 rfl ?_
  refine bg_aload0 rfl ?_
  refine bg_iload4 rfl ?_
  refine bg_iconst rfl ?_
  refine bg_iadd rfl ?_
  rw [show nI i + 1 = nI (i + 1) from nI_ad]
  refine bg_iaload_v rfl har (by omega) (by omega) ?_
  refine bg_aload3 rfl ?_
  refine bg_stat3B (b := (1, 6)) rfl rfl rfl rfl (by show cs.1 + 1 ≤ _; omega) (by show cs.2 + 6 ≤ _; omega) ?_
  refine bw_setWeather hlo (by omega) (Nat.le_refl _) (Nat.le_refl _) hC (fun e0 n1 hn1 => bk_Ki ?_) (fun e0 h1 hC w1 hlo => bk_Ki ?_)
  · refine bg_istore5 rfl rfl ?_
    refine bg_aload2 rfl ?_
    refine bg_aload0 rfl ?_
    refine bg_iload4 rfl ?_
    refine bg_iconst rfl ?_
    refine bg_iadd rfl ?_
    rw [show nI i + 1 = nI (i + 1) from nI_ad]
    refine bg_iaload_v rfl har (by omega) (by omega) ?_
    refine bg_virt1 rfl rfl rfl rfl (MD.ob hM) ?_
    refine mo_setWeather hM (fun _ h2 J2 hM j0 jj hf => bk_Ki ?_) (fun z0 => absurd z0 e0)
    refine bg_istore6 rfl rfl ?_
    refine bg_aload2 rfl ?_
    refine bg_virt0 rfl rfl rfl rfl (MD.ob hM) ?_
    refine mo_thrown (MD.yo hM) (bk_Ki ?_)
    rw [j0]
    refine bg_iload5 rfl ?_
    refine bg_icmp_eq rfl (fun e821 => ?_) (fun e821 => absurd rfl e821)
    refine bg_iload5 rfl ?_
    refine bg_if_ne rfl (fun e828 => ?_) (fun e828 => absurd e828 (by decide))
    refine bg_goto rfl ?_
    refine hN h2 n1 _ _ _ ⟨u, v, _, _, _, J2, K, C, ep, _, hC.kq fun q q1 q2 => hf q (by omega) (by omega), hM, jj.trans jep, hwp, hov, GI_up hgi (by omega), h7, (hf o (by omega) (by omega)).trans hlo, har, by omega⟩ (by omega) (by show cs.1 + 1 ≤ _; omega) (by show cs.2 + 6 ≤ _; omega)
  · have hM := hM.fo w1 l2 l3 (by omega)
    refine bg_istore5 rfl rfl ?_
    refine bg_aload2 rfl ?_
    refine bg_aload0 rfl ?_
    refine bg_iload4 rfl ?_
    refine bg_iconst rfl ?_
    refine bg_iadd rfl ?_
    rw [show nI i + 1 = nI (i + 1) from nI_ad]
    refine bg_iaload_v rfl har (by omega) (by omega) ?_
    refine bg_virt1 rfl rfl rfl rfl (MD.ob hM) ?_
    refine mo_setWeather hM (fun z0 => absurd e0 z0) (fun _ h2 n2 J2 hM j0 jj hn2 hf => bk_Ki ?_)
    refine bg_istore6 rfl rfl ?_
    refine bg_aload2 rfl ?_
    refine bg_virt0 rfl rfl rfl rfl (MD.ob hM) ?_
    refine mo_thrown (MD.yo hM) (bk_Ki ?_)
    rw [j0]
    have hlo2 : LO1 h2 o _ := (hf o (by omega) (by omega)).trans hlo
    refine bg_iload5 rfl ?_
    refine bg_icmp_eq rfl (fun e821 => ?_) (fun e821 => absurd rfl e821)
    refine bg_iload5 rfl ?_
    refine bg_if_ne rfl (fun e828 => absurd rfl e828) (fun e828 => ?_)
    refine bg_aload3 rfl ?_
    refine bg_iconst rfl ?_
    refine bg_laload rfl hlo2 (by unfold vp_in; decide) ?_
    refine bg_iload6 rfl ?_
    refine bg_i2l rfl ?_
    refine bg_lcmp rfl ?_
    rw [show (0 : Int32).toNatClampNeg = 0 from rfl, up_l, lc_same]
    refine bg_if_eq rfl (fun e838 => ?_) (fun e838 => absurd rfl e838)
    refine bg_goto rfl ?_
    refine hN h2 n2 _ _ _ ⟨u, v, _, _, _, J2, K, C, ep, _, hC.kq fun q q1 q2 => hf q (by omega) (by omega), hM, jj.trans jep, hwp, hov, GI_up (GI_w hgi) (by omega), h7, (hf o (by omega) (by omega)).trans hlo, har, by omega⟩ (by omega) (by show cs.1 + 1 ≤ _; omega) (by show cs.2 + 6 ≤ _; omega)
theorem lc_setTourists (z : LI V h n a m w x y o H) (hL : LW n a x y o) (hi : i + 6 ≤ m) (hm : m ≤ 65536) (hH : H + 300 < 10000000) (b1 : cs.1 + 71 ≤ B.1) (b2 : cs.2 + 1415 ≤ B.2) (hN : ∀ (h' : bk_H) (n' : Nat) (z5 z6 : Option Value) (cs' : Nat × Nat), LI V h' n' a m w x y o (H + 96) → n ≤ n' → cs'.1 ≤ cs.1 + 71 → cs'.2 ≤ cs.2 + 1415 → bk_g V (d + 70) 246 B Q 1497 [some (.ref a), some (.ref x), some (.ref y), some (.ref o), some (.int (nI i)), z5, z6, z7, z8] [] h' n' cs') : bk_g V (d + 70) 246 B Q 846 [some (.ref a), some (.ref x), some (.ref y), some (.ref o), some (.int (nI i)), z5, z6, z7, z8] [] h n cs := by
  obtain ⟨u, v, T, P, S, J, K, C, ep, gl, hC, hM, jep, hwp, hov, hgi, h7, hlo, har, hu⟩ := z
  obtain ⟨l1, l2, l3, l4⟩ := hL
  refine bg_aload1 rfl ?_
  refine bg_aload0 rfl ?_
  refine bg_iload4 rfl ?_
  refine bg_iconst rfl ?_
  refine bg_iadd rfl ?_
  rw [show nI i + 1 = nI (i + 1) from nI_ad]
  refine bg_iaload_v rfl har (by omega) (by omega) ?_
  refine bg_aload3 rfl ?_
  refine bg_stat3B (b := (1, 6)) rfl rfl rfl rfl (by show cs.1 + 1 ≤ _; omega) (by show cs.2 + 6 ≤ _; omega) ?_
  refine bw_setTourists hlo (by omega) (Nat.le_refl _) (Nat.le_refl _) hC (fun e0 n1 hn1 => bk_Ki ?_) (fun e0 h1 hC w1 hlo => bk_Ki ?_)
  · refine bg_istore5 rfl rfl ?_
    refine bg_aload2 rfl ?_
    refine bg_aload0 rfl ?_
    refine bg_iload4 rfl ?_
    refine bg_iconst rfl ?_
    refine bg_iadd rfl ?_
    rw [show nI i + 1 = nI (i + 1) from nI_ad]
    refine bg_iaload_v rfl har (by omega) (by omega) ?_
    refine bg_virt1 rfl rfl rfl rfl (MD.ob hM) ?_
    refine mo_setTourists hM (fun _ h2 J2 hM j0 jj hf => bk_Ki ?_) (fun z0 => absurd z0 e0)
    refine bg_istore6 rfl rfl ?_
    refine bg_aload2 rfl ?_
    refine bg_virt0 rfl rfl rfl rfl (MD.ob hM) ?_
    refine mo_thrown (MD.yo hM) (bk_Ki ?_)
    rw [j0]
    refine bg_iload5 rfl ?_
    refine bg_icmp_eq rfl (fun e877 => ?_) (fun e877 => absurd rfl e877)
    refine bg_iload5 rfl ?_
    refine bg_if_ne rfl (fun e884 => ?_) (fun e884 => absurd e884 (by decide))
    refine bg_goto rfl ?_
    refine hN h2 n1 _ _ _ ⟨u, v, _, _, _, J2, K, C, ep, _, hC.kq fun q q1 q2 => hf q (by omega) (by omega), hM, jj.trans jep, hwp, hov, GI_up hgi (by omega), h7, (hf o (by omega) (by omega)).trans hlo, har, by omega⟩ (by omega) (by show cs.1 + 1 ≤ _; omega) (by show cs.2 + 6 ≤ _; omega)
  · have hM := hM.fo w1 l2 l3 (by omega)
    refine bg_istore5 rfl rfl ?_
    refine bg_aload2 rfl ?_
    refine bg_aload0 rfl ?_
    refine bg_iload4 rfl ?_
    refine bg_iconst rfl ?_
    refine bg_iadd rfl ?_
    rw [show nI i + 1 = nI (i + 1) from nI_ad]
    refine bg_iaload_v rfl har (by omega) (by omega) ?_
    refine bg_virt1 rfl rfl rfl rfl (MD.ob hM) ?_
    refine mo_setTourists hM (fun z0 => absurd e0 z0) (fun _ h2 n2 J2 hM j0 jj hn2 hf => bk_Ki ?_)
    refine bg_istore6 rfl rfl ?_
    refine bg_aload2 rfl ?_
    refine bg_virt0 rfl rfl rfl rfl (MD.ob hM) ?_
    refine mo_thrown (MD.yo hM) (bk_Ki ?_)
    rw [j0]
    have hlo2 : LO1 h2 o _ := (hf o (by omega) (by omega)).trans hlo
    refine bg_iload5 rfl ?_
    refine bg_icmp_eq rfl (fun e877 => ?_) (fun e877 => absurd rfl e877)
    refine bg_iload5 rfl ?_
    refine bg_if_ne rfl (fun e884 => absurd rfl e884) (fun e884 => ?_)
    refine bg_aload3 rfl ?_
    refine bg_iconst rfl ?_
    refine bg_laload rfl hlo2 (by unfold vp_in; decide) ?_
    refine bg_iload6 rfl ?_
    refine bg_i2l rfl ?_
    refine bg_lcmp rfl ?_
    rw [show (0 : Int32).toNatClampNeg = 0 from rfl, up_l, lc_same]
    refine bg_if_eq rfl (fun e894 => ?_) (fun e894 => absurd rfl e894)
    refine bg_goto rfl ?_
    refine hN h2 n2 _ _ _ ⟨u, v, _, _, _, J2, K, C, ep, _, hC.kq fun q q1 q2 => hf q (by omega) (by omega), hM, jj.trans jep, hwp, hov, GI_up (GI_t hgi) (by omega), h7, (hf o (by omega) (by omega)).trans hlo, har, by omega⟩ (by omega) (by show cs.1 + 1 ≤ _; omega) (by show cs.2 + 6 ≤ _; omega)
theorem lc_tune (z : LI V h n a m w x y o H) (hL : LW n a x y o) (hi : i + 6 ≤ m) (hm : m ≤ 65536) (hH : H + 300 < 10000000) (b1 : cs.1 + 71 ≤ B.1) (b2 : cs.2 + 1415 ≤ B.2) (hN : ∀ (h' : bk_H) (n' : Nat) (z5 z6 : Option Value) (cs' : Nat × Nat), LI V h' n' a m w x y o (H + 96) → n ≤ n' → cs'.1 ≤ cs.1 + 71 → cs'.2 ≤ cs.2 + 1415 → bk_g V (d + 70) 246 B Q 1497 [some (.ref a), some (.ref x), some (.ref y), some (.ref o), some (.int (nI i)), z5, z6, z7, z8] [] h' n' cs') : bk_g V (d + 70) 246 B Q 902 [some (.ref a), some (.ref x), some (.ref y), some (.ref o), some (.int (nI i)), z5, z6, z7, z8] [] h n cs := by
  obtain ⟨u, v, T, P, S, J, K, C, ep, gl, hC, hM, jep, hwp, hov, hgi, h7, hlo, har, hu⟩ := z
  obtain ⟨l1, l2, l3, l4⟩ := hL
  refine bg_aload1 rfl ?_
  refine bg_aload0 rfl ?_
  refine bg_iload4 rfl ?_
  refine bg_iconst rfl ?_
  refine bg_iadd rfl ?_
  rw [show nI i + 1 = nI (i + 1) from nI_ad]
  refine bg_iaload_v rfl har (by omega) (by omega) ?_
  refine bg_aload0 rfl ?_
  refine bg_iload4 rfl ?_
  refine bg_iconst rfl ?_
  refine bg_iadd rfl ?_
  rw [show nI i + 2 = nI (i + 2) from nI_ad]
  refine bg_iaload_v rfl har (by omega) (by omega) ?_
  refine bg_aload3 rfl ?_
  refine bg_stat4B (b := (1, 6)) rfl rfl rfl rfl (by show cs.1 + 1 ≤ _; omega) (by show cs.2 + 6 ≤ _; omega) ?_
  refine bw_tune hlo (by omega) (Nat.le_refl _) (Nat.le_refl _) hC (fun e0 n1 hn1 => bk_Ki ?_) (fun e0 e1 n1 hn1 => bk_Ki ?_) (fun e0 e1 h1 hC w1 hlo => bk_Ki ?_)
  · refine bg_istore5 rfl rfl ?_
    refine bg_aload2 rfl ?_
    refine bg_aload0 rfl ?_
    refine bg_iload4 rfl ?_
    refine bg_iconst rfl ?_
    refine bg_iadd rfl ?_
    rw [show nI i + 1 = nI (i + 1) from nI_ad]
    refine bg_iaload_v rfl har (by omega) (by omega) ?_
    refine bg_aload0 rfl ?_
    refine bg_iload4 rfl ?_
    refine bg_iconst rfl ?_
    refine bg_iadd rfl ?_
    rw [show nI i + 2 = nI (i + 2) from nI_ad]
    refine bg_iaload_v rfl har (by omega) (by omega) ?_
    refine bg_virt2 rfl rfl rfl rfl (MD.ob hM) ?_
    refine mo_tune hM (fun _ h2 J2 hM j0 jj hf => bk_Ki ?_) (fun z0 z1 => absurd z0 e0) (fun z0 z1 => absurd z0 e0)
    refine bg_istore6 rfl rfl ?_
    refine bg_aload2 rfl ?_
    refine bg_virt0 rfl rfl rfl rfl (MD.ob hM) ?_
    refine mo_thrown (MD.yo hM) (bk_Ki ?_)
    rw [j0]
    refine bg_iload5 rfl ?_
    refine bg_icmp_eq rfl (fun e945 => ?_) (fun e945 => absurd rfl e945)
    refine bg_iload5 rfl ?_
    refine bg_if_ne rfl (fun e952 => ?_) (fun e952 => absurd e952 (by decide))
    refine bg_goto rfl ?_
    refine hN h2 n1 _ _ _ ⟨u, v, _, _, _, J2, K, C, ep, _, hC.kq fun q q1 q2 => hf q (by omega) (by omega), hM, jj.trans jep, hwp, hov, GI_up hgi (by omega), h7, (hf o (by omega) (by omega)).trans hlo, har, by omega⟩ (by omega) (by show cs.1 + 1 ≤ _; omega) (by show cs.2 + 6 ≤ _; omega)
  · refine bg_istore5 rfl rfl ?_
    refine bg_aload2 rfl ?_
    refine bg_aload0 rfl ?_
    refine bg_iload4 rfl ?_
    refine bg_iconst rfl ?_
    refine bg_iadd rfl ?_
    rw [show nI i + 1 = nI (i + 1) from nI_ad]
    refine bg_iaload_v rfl har (by omega) (by omega) ?_
    refine bg_aload0 rfl ?_
    refine bg_iload4 rfl ?_
    refine bg_iconst rfl ?_
    refine bg_iadd rfl ?_
    rw [show nI i + 2 = nI (i + 2) from nI_ad]
    refine bg_iaload_v rfl har (by omega) (by omega) ?_
    refine bg_virt2 rfl rfl rfl rfl (MD.ob hM) ?_
    refine mo_tune hM (fun z0 => absurd e0 z0) (fun _ _ h2 J2 hM j0 jj hf => bk_Ki ?_) (fun z0 z1 => absurd z1 e1)
    refine bg_istore6 rfl rfl ?_
    refine bg_aload2 rfl ?_
    refine bg_virt0 rfl rfl rfl rfl (MD.ob hM) ?_
    refine mo_thrown (MD.yo hM) (bk_Ki ?_)
    rw [j0]
    refine bg_iload5 rfl ?_
    refine bg_icmp_eq rfl (fun e945 => ?_) (fun e945 => absurd rfl e945)
    refine bg_iload5 rfl ?_
    refine bg_if_ne rfl (fun e952 => ?_) (fun e952 => absurd e952 (by decide))
    refine bg_goto rfl ?_
    refine hN h2 n1 _ _ _ ⟨u, v, _, _, _, J2, K, C, ep, _, hC.kq fun q q1 q2 => hf q (by omega) (by omega), hM, jj.trans jep, hwp, hov, GI_up hgi (by omega), h7, (hf o (by omega) (by omega)).trans hlo, har, by omega⟩ (by omega) (by show cs.1 + 1 ≤ _; omega) (by show cs.2 + 6 ≤ _; omega)
  · have hM := hM.fo w1 l2 l3 (by omega)
    refine bg_istore5 rfl rfl ?_
    refine bg_aload2 rfl ?_
    refine bg_aload0 rfl ?_
    refine bg_iload4 rfl ?_
    refine bg_iconst rfl ?_
    refine bg_iadd rfl ?_
    rw [show nI i + 1 = nI (i + 1) from nI_ad]
    refine bg_iaload_v rfl har (by omega) (by omega) ?_
    refine bg_aload0 rfl ?_
    refine bg_iload4 rfl ?_
    refine bg_iconst rfl ?_
    refine bg_iadd rfl ?_
    rw [show nI i + 2 = nI (i + 2) from nI_ad]
    refine bg_iaload_v rfl har (by omega) (by omega) ?_
    refine bg_virt2 rfl rfl rfl rfl (MD.ob hM) ?_
    refine mo_tune hM (fun z0 => absurd e0 z0) (fun z0 z1 => absurd e1 z1) (fun _ _ h2 n2 J2 hM j0 jj hn2 hf => bk_Ki ?_)
    refine bg_istore6 rfl rfl ?_
    refine bg_aload2 rfl ?_
    refine bg_virt0 rfl rfl rfl rfl (MD.ob hM) ?_
    refine mo_thrown (MD.yo hM) (bk_Ki ?_)
    rw [j0]
    have hlo2 : LO1 h2 o _ := (hf o (by omega) (by omega)).trans hlo
    refine bg_iload5 rfl ?_
    refine bg_icmp_eq rfl (fun e945 => ?_) (fun e945 => absurd rfl e945)
    refine bg_iload5 rfl ?_
    refine bg_if_ne rfl (fun e952 => absurd rfl e952) (fun e952 => ?_)
    refine bg_aload3 rfl ?_
    refine bg_iconst rfl ?_
    refine bg_laload rfl hlo2 (by unfold vp_in; decide) ?_
    refine bg_iload6 rfl ?_
    refine bg_i2l rfl ?_
    refine bg_lcmp rfl ?_
    rw [show (0 : Int32).toNatClampNeg = 0 from rfl, up_l, lc_same]
    refine bg_if_eq rfl (fun e962 => ?_) (fun e962 => absurd rfl e962)
    refine bg_goto rfl ?_
    refine hN h2 n2 _ _ _ ⟨u, v, _, _, _, J2, K, C, ep, _, hC.kq fun q q1 q2 => hf q (by omega) (by omega), hM, jj.trans jep, hwp, hov, GI_up (GI_1 hgi) (by omega), h7, (hf o (by omega) (by omega)).trans hlo, har, by omega⟩ (by omega) (by show cs.1 + 1 ≤ _; omega) (by show cs.2 + 6 ≤ _; omega)
theorem lc_burn (z : LI V h n a m w x y o H) (hL : LW n a x y o) (hi : i + 6 ≤ m) (hm : m ≤ 65536) (hH : H + 300 < 10000000) (b1 : cs.1 + 71 ≤ B.1) (b2 : cs.2 + 1415 ≤ B.2) (hN : ∀ (h' : bk_H) (n' : Nat) (z5 z6 : Option Value) (cs' : Nat × Nat), LI V h' n' a m w x y o (H + 96) → n ≤ n' → cs'.1 ≤ cs.1 + 71 → cs'.2 ≤ cs.2 + 1415 → bk_g V (d + 70) 246 B Q 1497 [some (.ref a), some (.ref x), some (.ref y), some (.ref o), some (.int (nI i)), z5, z6, z7, z8] [] h' n' cs') : bk_g V (d + 70) 246 B Q 970 [some (.ref a), some (.ref x), some (.ref y), some (.ref o), some (.int (nI i)), z5, z6, z7, z8] [] h n cs := by
  obtain ⟨u, v, T, P, S, J, K, C, ep, gl, hC, hM, jep, hwp, hov, hgi, h7, hlo, har, hu⟩ := z
  obtain ⟨l1, l2, l3, l4⟩ := hL
  refine bg_aload1 rfl ?_
  refine bg_aload0 rfl ?_
  refine bg_iload4 rfl ?_
  refine bg_iconst rfl ?_
  refine bg_iadd rfl ?_
  rw [show nI i + 1 = nI (i + 1) from nI_ad]
  refine bg_iaload_v rfl har (by omega) (by omega) ?_
  refine bg_aload3 rfl ?_
  refine bg_stat3B (b := (1, 6)) rfl rfl rfl rfl (by show cs.1 + 1 ≤ _; omega) (by show cs.2 + 6 ≤ _; omega) ?_
  refine bw_burn hlo (by omega) (Nat.le_refl _) (Nat.le_refl _) hC (fun e0 n1 hn1 => bk_Ki ?_) (fun e0 h1 hC w1 hlo => bk_Ki ?_)
  · refine bg_istore5 rfl rfl ?_
    refine bg_aload2 rfl ?_
    refine bg_aload0 rfl ?_
    refine bg_iload4 rfl ?_
    refine bg_iconst rfl ?_
    refine bg_iadd rfl ?_
    rw [show nI i + 1 = nI (i + 1) from nI_ad]
    refine bg_iaload_v rfl har (by omega) (by omega) ?_
    refine bg_virt1 rfl rfl rfl rfl (MD.ob hM) ?_
    refine mo_burn hM (fun _ h2 J2 hM j0 jj hf => bk_Ki ?_) (fun z0 => absurd z0 e0)
    refine bg_istore6 rfl rfl ?_
    refine bg_aload2 rfl ?_
    refine bg_virt0 rfl rfl rfl rfl (MD.ob hM) ?_
    refine mo_thrown (MD.yo hM) (bk_Ki ?_)
    rw [j0]
    refine bg_iload5 rfl ?_
    refine bg_icmp_eq rfl (fun e1001 => ?_) (fun e1001 => absurd rfl e1001)
    refine bg_iload5 rfl ?_
    refine bg_if_ne rfl (fun e1008 => ?_) (fun e1008 => absurd e1008 (by decide))
    refine bg_goto rfl ?_
    refine hN h2 n1 _ _ _ ⟨u, v, _, _, _, J2, K, C, ep, _, hC.kq fun q q1 q2 => hf q (by omega) (by omega), hM, jj.trans jep, hwp, hov, GI_up hgi (by omega), h7, (hf o (by omega) (by omega)).trans hlo, har, by omega⟩ (by omega) (by show cs.1 + 1 ≤ _; omega) (by show cs.2 + 6 ≤ _; omega)
  · have hM := hM.fo w1 l2 l3 (by omega)
    refine bg_istore5 rfl rfl ?_
    refine bg_aload2 rfl ?_
    refine bg_aload0 rfl ?_
    refine bg_iload4 rfl ?_
    refine bg_iconst rfl ?_
    refine bg_iadd rfl ?_
    rw [show nI i + 1 = nI (i + 1) from nI_ad]
    refine bg_iaload_v rfl har (by omega) (by omega) ?_
    refine bg_virt1 rfl rfl rfl rfl (MD.ob hM) ?_
    refine mo_burn hM (fun z0 => absurd e0 z0) (fun _ h2 n2 J2 hM j0 jj hn2 hf => bk_Ki ?_)
    refine bg_istore6 rfl rfl ?_
    refine bg_aload2 rfl ?_
    refine bg_virt0 rfl rfl rfl rfl (MD.ob hM) ?_
    refine mo_thrown (MD.yo hM) (bk_Ki ?_)
    rw [j0]
    have hlo2 : LO1 h2 o _ := (hf o (by omega) (by omega)).trans hlo
    refine bg_iload5 rfl ?_
    refine bg_icmp_eq rfl (fun e1001 => ?_) (fun e1001 => absurd rfl e1001)
    refine bg_iload5 rfl ?_
    refine bg_if_ne rfl (fun e1008 => absurd rfl e1008) (fun e1008 => ?_)
    refine bg_aload3 rfl ?_
    refine bg_iconst rfl ?_
    refine bg_laload rfl hlo2 (by unfold vp_in; decide) ?_
    refine bg_iload6 rfl ?_
    refine bg_i2l rfl ?_
    refine bg_lcmp rfl ?_
    rw [show (0 : Int32).toNatClampNeg = 0 from rfl, up_l, lc_same]
    refine bg_if_eq rfl (fun e1018 => ?_) (fun e1018 => absurd rfl e1018)
    refine bg_goto rfl ?_
    refine hN h2 n2 _ _ _ ⟨u, v, _, _, _, J2, K, C, ep, _, hC.kq fun q q1 q2 => hf q (by omega) (by omega), hM, jj.trans jep, hwp, hov, GI_up (GI_3 hgi rE_le) (by omega), h7, (hf o (by omega) (by omega)).trans hlo, har, by omega⟩ (by omega) (by show cs.1 + 1 ≤ _; omega) (by show cs.2 + 6 ≤ _; omega)
theorem lc_bring (z : LI V h n a m w x y o H) (hL : LW n a x y o) (hi : i + 6 ≤ m) (hm : m ≤ 65536) (hH : H + 300 < 10000000) (b1 : cs.1 + 71 ≤ B.1) (b2 : cs.2 + 1415 ≤ B.2) (hN : ∀ (h' : bk_H) (n' : Nat) (z5 z6 : Option Value) (cs' : Nat × Nat), LI V h' n' a m w x y o (H + 96) → n ≤ n' → cs'.1 ≤ cs.1 + 71 → cs'.2 ≤ cs.2 + 1415 → bk_g V (d + 70) 246 B Q 1497 [some (.ref a), some (.ref x), some (.ref y), some (.ref o), some (.int (nI i)), z5, z6, z7, z8] [] h' n' cs') : bk_g V (d + 70) 246 B Q 1026 [some (.ref a), some (.ref x), some (.ref y), some (.ref o), some (.int (nI i)), z5, z6, z7, z8] [] h n cs := by
  obtain ⟨u, v, T, P, S, J, K, C, ep, gl, hC, hM, jep, hwp, hov, hgi, h7, hlo, har, hu⟩ := z
  obtain ⟨l1, l2, l3, l4⟩ := hL
  refine bg_aload1 rfl ?_
  refine bg_aload0 rfl ?_
  refine bg_iload4 rfl ?_
  refine bg_iconst rfl ?_
  refine bg_iadd rfl ?_
  rw [show nI i + 1 = nI (i + 1) from nI_ad]
  refine bg_iaload_v rfl har (by omega) (by omega) ?_
  refine bg_aload0 rfl ?_
  refine bg_iload4 rfl ?_
  refine bg_iconst rfl ?_
  refine bg_iadd rfl ?_
  rw [show nI i + 2 = nI (i + 2) from nI_ad]
  refine bg_iaload_v rfl har (by omega) (by omega) ?_
  refine bg_aload3 rfl ?_
  refine bg_stat4B (b := (1, 6)) rfl rfl rfl rfl (by show cs.1 + 1 ≤ _; omega) (by show cs.2 + 6 ≤ _; omega) ?_
  refine bw_bring hlo (by omega) (Nat.le_refl _) (Nat.le_refl _) hC (fun e0 n1 hn1 => bk_Ki ?_) (fun e0 e1 n1 hn1 => bk_Ki ?_) (fun e0 e1 h1 hC w1 hlo => bk_Ki ?_)
  · refine bg_istore5 rfl rfl ?_
    refine bg_aload2 rfl ?_
    refine bg_aload0 rfl ?_
    refine bg_iload4 rfl ?_
    refine bg_iconst rfl ?_
    refine bg_iadd rfl ?_
    rw [show nI i + 1 = nI (i + 1) from nI_ad]
    refine bg_iaload_v rfl har (by omega) (by omega) ?_
    refine bg_aload0 rfl ?_
    refine bg_iload4 rfl ?_
    refine bg_iconst rfl ?_
    refine bg_iadd rfl ?_
    rw [show nI i + 2 = nI (i + 2) from nI_ad]
    refine bg_iaload_v rfl har (by omega) (by omega) ?_
    refine bg_virt2 rfl rfl rfl rfl (MD.ob hM) ?_
    refine mo_bring hM (fun _ h2 J2 hM j0 jj hf => bk_Ki ?_) (fun z0 z1 => absurd z0 e0) (fun z0 z1 => absurd z0 e0)
    refine bg_istore6 rfl rfl ?_
    refine bg_aload2 rfl ?_
    refine bg_virt0 rfl rfl rfl rfl (MD.ob hM) ?_
    refine mo_thrown (MD.yo hM) (bk_Ki ?_)
    rw [j0]
    refine bg_iload5 rfl ?_
    refine bg_icmp_eq rfl (fun e1069 => ?_) (fun e1069 => absurd rfl e1069)
    refine bg_iload5 rfl ?_
    refine bg_if_ne rfl (fun e1076 => ?_) (fun e1076 => absurd e1076 (by decide))
    refine bg_goto rfl ?_
    refine hN h2 n1 _ _ _ ⟨u, v, _, _, _, J2, K, C, ep, _, hC.kq fun q q1 q2 => hf q (by omega) (by omega), hM, jj.trans jep, hwp, hov, GI_up hgi (by omega), h7, (hf o (by omega) (by omega)).trans hlo, har, by omega⟩ (by omega) (by show cs.1 + 1 ≤ _; omega) (by show cs.2 + 6 ≤ _; omega)
  · refine bg_istore5 rfl rfl ?_
    refine bg_aload2 rfl ?_
    refine bg_aload0 rfl ?_
    refine bg_iload4 rfl ?_
    refine bg_iconst rfl ?_
    refine bg_iadd rfl ?_
    rw [show nI i + 1 = nI (i + 1) from nI_ad]
    refine bg_iaload_v rfl har (by omega) (by omega) ?_
    refine bg_aload0 rfl ?_
    refine bg_iload4 rfl ?_
    refine bg_iconst rfl ?_
    refine bg_iadd rfl ?_
    rw [show nI i + 2 = nI (i + 2) from nI_ad]
    refine bg_iaload_v rfl har (by omega) (by omega) ?_
    refine bg_virt2 rfl rfl rfl rfl (MD.ob hM) ?_
    refine mo_bring hM (fun z0 => absurd e0 z0) (fun _ _ h2 J2 hM j0 jj hf => bk_Ki ?_) (fun z0 z1 => absurd z1 e1)
    refine bg_istore6 rfl rfl ?_
    refine bg_aload2 rfl ?_
    refine bg_virt0 rfl rfl rfl rfl (MD.ob hM) ?_
    refine mo_thrown (MD.yo hM) (bk_Ki ?_)
    rw [j0]
    refine bg_iload5 rfl ?_
    refine bg_icmp_eq rfl (fun e1069 => ?_) (fun e1069 => absurd rfl e1069)
    refine bg_iload5 rfl ?_
    refine bg_if_ne rfl (fun e1076 => ?_) (fun e1076 => absurd e1076 (by decide))
    refine bg_goto rfl ?_
    refine hN h2 n1 _ _ _ ⟨u, v, _, _, _, J2, K, C, ep, _, hC.kq fun q q1 q2 => hf q (by omega) (by omega), hM, jj.trans jep, hwp, hov, GI_up hgi (by omega), h7, (hf o (by omega) (by omega)).trans hlo, har, by omega⟩ (by omega) (by show cs.1 + 1 ≤ _; omega) (by show cs.2 + 6 ≤ _; omega)
  · have hM := hM.fo w1 l2 l3 (by omega)
    refine bg_istore5 rfl rfl ?_
    refine bg_aload2 rfl ?_
    refine bg_aload0 rfl ?_
    refine bg_iload4 rfl ?_
    refine bg_iconst rfl ?_
    refine bg_iadd rfl ?_
    rw [show nI i + 1 = nI (i + 1) from nI_ad]
    refine bg_iaload_v rfl har (by omega) (by omega) ?_
    refine bg_aload0 rfl ?_
    refine bg_iload4 rfl ?_
    refine bg_iconst rfl ?_
    refine bg_iadd rfl ?_
    rw [show nI i + 2 = nI (i + 2) from nI_ad]
    refine bg_iaload_v rfl har (by omega) (by omega) ?_
    refine bg_virt2 rfl rfl rfl rfl (MD.ob hM) ?_
    refine mo_bring hM (fun z0 => absurd e0 z0) (fun z0 z1 => absurd e1 z1) (fun _ _ h2 n2 J2 hM j0 jj hn2 hf => bk_Ki ?_)
    refine bg_istore6 rfl rfl ?_
    refine bg_aload2 rfl ?_
    refine bg_virt0 rfl rfl rfl rfl (MD.ob hM) ?_
    refine mo_thrown (MD.yo hM) (bk_Ki ?_)
    rw [j0]
    have hlo2 : LO1 h2 o _ := (hf o (by omega) (by omega)).trans hlo
    refine bg_iload5 rfl ?_
    refine bg_icmp_eq rfl (fun e1069 => ?_) (fun e1069 => absurd rfl e1069)
    refine bg_iload5 rfl ?_
    refine bg_if_ne rfl (fun e1076 => absurd rfl e1076) (fun e1076 => ?_)
    refine bg_aload3 rfl ?_
    refine bg_iconst rfl ?_
    refine bg_laload rfl hlo2 (by unfold vp_in; decide) ?_
    refine bg_iload6 rfl ?_
    refine bg_i2l rfl ?_
    refine bg_lcmp rfl ?_
    rw [show (0 : Int32).toNatClampNeg = 0 from rfl, up_l, lc_same]
    refine bg_if_eq rfl (fun e1086 => ?_) (fun e1086 => absurd rfl e1086)
    refine bg_goto rfl ?_
    refine hN h2 n2 _ _ _ ⟨u, v, _, _, _, J2, K, C, ep, _, hC.kq fun q q1 q2 => hf q (by omega) (by omega), hM, jj.trans jep, hwp, hov, GI_up (GI_0 hgi) (by omega), h7, (hf o (by omega) (by omega)).trans hlo, har, by omega⟩ (by omega) (by show cs.1 + 1 ≤ _; omega) (by show cs.2 + 6 ≤ _; omega)
theorem lc_until (z : LI V h n a m w x y o H) (hL : LW n a x y o) (hi : i + 6 ≤ m) (hm : m ≤ 65536) (hH : H + 300 < 10000000) (b1 : cs.1 + 71 ≤ B.1) (b2 : cs.2 + 1415 ≤ B.2) (hN : ∀ (h' : bk_H) (n' : Nat) (z5 z6 : Option Value) (cs' : Nat × Nat), LI V h' n' a m w x y o (H + 96) → n ≤ n' → cs'.1 ≤ cs.1 + 71 → cs'.2 ≤ cs.2 + 1415 → bk_g V (d + 70) 246 B Q 1497 [some (.ref a), some (.ref x), some (.ref y), some (.ref o), some (.int (nI i)), z5, z6, z7, z8] [] h' n' cs') : bk_g V (d + 70) 246 B Q 1150 [some (.ref a), some (.ref x), some (.ref y), some (.ref o), some (.int (nI i)), z5, z6, z7, z8] [] h n cs := by
  obtain ⟨u, v, T, P, S, J, K, C, ep, gl, hC, hM, jep, hwp, hov, hgi, h7, hlo, har, hu⟩ := z
  obtain ⟨l1, l2, l3, l4⟩ := hL
  refine bg_aload1 rfl ?_
  refine bg_aload0 rfl ?_
  refine bg_iload4 rfl ?_
  refine bg_iconst rfl ?_
  refine bg_iadd rfl ?_
  rw [show nI i + 1 = nI (i + 1) from nI_ad]
  refine bg_iaload_v rfl har (by omega) (by omega) ?_
  refine bg_aload3 rfl ?_
  refine bg_stat3B (b := (1, 6)) rfl rfl rfl rfl (by show cs.1 + 1 ≤ _; omega) (by show cs.2 + 6 ≤ _; omega) ?_
  refine bw_until hlo (by omega) (Nat.le_refl _) (Nat.le_refl _) hwp hC (fun e0 n1 hn1 => bk_Ki ?_) (fun e0 h1 hC w1 hlo => bk_Ki ?_)
  · refine bg_istore5 rfl rfl ?_
    refine bg_aload2 rfl ?_
    refine bg_aload0 rfl ?_
    refine bg_iload4 rfl ?_
    refine bg_iconst rfl ?_
    refine bg_iadd rfl ?_
    rw [show nI i + 1 = nI (i + 1) from nI_ad]
    refine bg_iaload_v rfl har (by omega) (by omega) ?_
    refine bg_virt1 rfl rfl rfl rfl (MD.ob hM) ?_
    refine mo_until h7 hM (fun _ h2 J2 hM j0 jj hf => bk_Ki ?_) (fun z0 => absurd z0 e0)
    refine bg_istore6 rfl rfl ?_
    refine bg_aload2 rfl ?_
    refine bg_virt0 rfl rfl rfl rfl (MD.ob hM) ?_
    refine mo_thrown (MD.yo hM) (bk_Ki ?_)
    rw [j0]
    refine bg_iload5 rfl ?_
    refine bg_icmp_eq rfl (fun e1181 => ?_) (fun e1181 => absurd rfl e1181)
    refine bg_iload5 rfl ?_
    refine bg_if_ne rfl (fun e1188 => ?_) (fun e1188 => absurd e1188 (by decide))
    refine bg_goto rfl ?_
    refine hN h2 n1 _ _ _ ⟨u, v, _, _, _, J2, K, C, ep, _, hC.kq fun q q1 q2 => hf q (by omega) (by omega), hM, jj.trans jep, hwp, hov, GI_up hgi (by omega), h7, (hf o (by omega) (by omega)).trans hlo, har, by omega⟩ (by omega) (by show cs.1 + 1 ≤ _; omega) (by show cs.2 + 6 ≤ _; omega)
  · have hM := hM.fo w1 l2 l3 (by omega)
    refine bg_istore5 rfl rfl ?_
    refine bg_aload2 rfl ?_
    refine bg_aload0 rfl ?_
    refine bg_iload4 rfl ?_
    refine bg_iconst rfl ?_
    refine bg_iadd rfl ?_
    rw [show nI i + 1 = nI (i + 1) from nI_ad]
    refine bg_iaload_v rfl har (by omega) (by omega) ?_
    refine bg_virt1 rfl rfl rfl rfl (MD.ob hM) ?_
    refine mo_until h7 hM (fun z0 => absurd e0 z0) (fun _ h2 n2 J2 hM j0 jj hn2 hf => bk_Ki ?_)
    refine bg_istore6 rfl rfl ?_
    refine bg_aload2 rfl ?_
    refine bg_virt0 rfl rfl rfl rfl (MD.ob hM) ?_
    refine mo_thrown (MD.yo hM) (bk_Ki ?_)
    rw [j0]
    have hlo2 : LO1 h2 o _ := (hf o (by omega) (by omega)).trans hlo
    refine bg_iload5 rfl ?_
    refine bg_icmp_eq rfl (fun e1181 => ?_) (fun e1181 => absurd rfl e1181)
    refine bg_iload5 rfl ?_
    refine bg_if_ne rfl (fun e1188 => absurd rfl e1188) (fun e1188 => ?_)
    refine bg_aload3 rfl ?_
    refine bg_iconst rfl ?_
    refine bg_laload rfl hlo2 (by unfold vp_in; decide) ?_
    refine bg_iload6 rfl ?_
    refine bg_i2l rfl ?_
    refine bg_lcmp rfl ?_
    rw [show (0 : Int32).toNatClampNeg = 0 from rfl, up_l, lc_same]
    refine bg_if_eq rfl (fun e1198 => ?_) (fun e1198 => absurd rfl e1198)
    refine bg_goto rfl ?_
    refine hN h2 n2 _ _ _ ⟨u, v, _, _, _, J2, K, C, ep, _, hC.kq fun q q1 q2 => hf q (by omega) (by omega), hM, jj.trans jep, hwp, hov, GI_up hgi (by omega), h7, (hf o (by omega) (by omega)).trans hlo, har, by omega⟩ (by omega) (by show cs.1 + 1 ≤ _; omega) (by show cs.2 + 6 ≤ _; omega)
theorem lc_foresee (z : LI V h n a m w x y o H) (hL : LW n a x y o) (hi : i + 6 ≤ m) (hm : m ≤ 65536) (hH : H + 300 < 10000000) (b1 : cs.1 + 71 ≤ B.1) (b2 : cs.2 + 1415 ≤ B.2) (hN : ∀ (h' : bk_H) (n' : Nat) (z5 z6 : Option Value) (cs' : Nat × Nat), LI V h' n' a m w x y o (H + 96) → n ≤ n' → cs'.1 ≤ cs.1 + 71 → cs'.2 ≤ cs.2 + 1415 → bk_g V (d + 70) 246 B Q 1497 [some (.ref a), some (.ref x), some (.ref y), some (.ref o), some (.int (nI i)), z5, z6, z7, z8] [] h' n' cs') : bk_g V (d + 70) 246 B Q 1206 [some (.ref a), some (.ref x), some (.ref y), some (.ref o), some (.int (nI i)), z5, z6, z7, z8] [] h n cs := by
  obtain ⟨u, v, T, P, S, J, K, C, ep, gl, hC, hM, jep, hwp, hov, hgi, h7, hlo, har, hu⟩ := z
  obtain ⟨l1, l2, l3, l4⟩ := hL
  refine bg_aload1 rfl ?_
  refine bg_aload0 rfl ?_
  refine bg_iload4 rfl ?_
  refine bg_iconst rfl ?_
  refine bg_iadd rfl ?_
  rw [show nI i + 1 = nI (i + 1) from nI_ad]
  refine bg_iaload_v rfl har (by omega) (by omega) ?_
  refine bg_aload0 rfl ?_
  refine bg_iload4 rfl ?_
  refine bg_iconst rfl ?_
  refine bg_iadd rfl ?_
  rw [show nI i + 2 = nI (i + 2) from nI_ad]
  refine bg_iaload_v rfl har (by omega) (by omega) ?_
  refine bg_aload3 rfl ?_
  refine bg_stat4B (b := (1, 6)) rfl rfl rfl rfl (by show cs.1 + 1 ≤ _; omega) (by show cs.2 + 6 ≤ _; omega) ?_
  refine bw_foresee hlo (by omega) (Nat.le_refl _) (Nat.le_refl _) hwp hC (fun e0 n1 hn1 => bk_Ki ?_) (fun e0 e1 n1 hn1 => bk_Ki ?_) (fun e0 e1 h1 hC w1 hlo => bk_Ki ?_)
  · refine bg_istore5 rfl rfl ?_
    refine bg_aload2 rfl ?_
    refine bg_aload0 rfl ?_
    refine bg_iload4 rfl ?_
    refine bg_iconst rfl ?_
    refine bg_iadd rfl ?_
    rw [show nI i + 1 = nI (i + 1) from nI_ad]
    refine bg_iaload_v rfl har (by omega) (by omega) ?_
    refine bg_aload0 rfl ?_
    refine bg_iload4 rfl ?_
    refine bg_iconst rfl ?_
    refine bg_iadd rfl ?_
    rw [show nI i + 2 = nI (i + 2) from nI_ad]
    refine bg_iaload_v rfl har (by omega) (by omega) ?_
    refine bg_virt2 rfl rfl rfl rfl (MD.ob hM) ?_
    refine mo_foresee h7 hM (fun _ h2 J2 hM j0 jj hf => bk_Ki ?_) (fun z0 z1 => absurd z0 e0) (fun z0 z1 => absurd z0 e0)
    refine bg_istore6 rfl rfl ?_
    refine bg_aload2 rfl ?_
    refine bg_virt0 rfl rfl rfl rfl (MD.ob hM) ?_
    refine mo_thrown (MD.yo hM) (bk_Ki ?_)
    rw [j0]
    refine bg_iload5 rfl ?_
    refine bg_icmp_eq rfl (fun e1249 => ?_) (fun e1249 => absurd rfl e1249)
    refine bg_iload5 rfl ?_
    refine bg_if_ne rfl (fun e1256 => ?_) (fun e1256 => absurd e1256 (by decide))
    refine bg_goto rfl ?_
    refine hN h2 n1 _ _ _ ⟨u, v, _, _, _, J2, K, C, ep, _, hC.kq fun q q1 q2 => hf q (by omega) (by omega), hM, jj.trans jep, hwp, hov, GI_up hgi (by omega), h7, (hf o (by omega) (by omega)).trans hlo, har, by omega⟩ (by omega) (by show cs.1 + 1 ≤ _; omega) (by show cs.2 + 6 ≤ _; omega)
  · refine bg_istore5 rfl rfl ?_
    refine bg_aload2 rfl ?_
    refine bg_aload0 rfl ?_
    refine bg_iload4 rfl ?_
    refine bg_iconst rfl ?_
    refine bg_iadd rfl ?_
    rw [show nI i + 1 = nI (i + 1) from nI_ad]
    refine bg_iaload_v rfl har (by omega) (by omega) ?_
    refine bg_aload0 rfl ?_
    refine bg_iload4 rfl ?_
    refine bg_iconst rfl ?_
    refine bg_iadd rfl ?_
    rw [show nI i + 2 = nI (i + 2) from nI_ad]
    refine bg_iaload_v rfl har (by omega) (by omega) ?_
    refine bg_virt2 rfl rfl rfl rfl (MD.ob hM) ?_
    refine mo_foresee h7 hM (fun z0 => absurd e0 z0) (fun _ _ h2 J2 hM j0 jj hf => bk_Ki ?_) (fun z0 z1 => absurd z1 e1)
    refine bg_istore6 rfl rfl ?_
    refine bg_aload2 rfl ?_
    refine bg_virt0 rfl rfl rfl rfl (MD.ob hM) ?_
    refine mo_thrown (MD.yo hM) (bk_Ki ?_)
    rw [j0]
    refine bg_iload5 rfl ?_
    refine bg_icmp_eq rfl (fun e1249 => ?_) (fun e1249 => absurd rfl e1249)
    refine bg_iload5 rfl ?_
    refine bg_if_ne rfl (fun e1256 => ?_) (fun e1256 => absurd e1256 (by decide))
    refine bg_goto rfl ?_
    refine hN h2 n1 _ _ _ ⟨u, v, _, _, _, J2, K, C, ep, _, hC.kq fun q q1 q2 => hf q (by omega) (by omega), hM, jj.trans jep, hwp, hov, GI_up hgi (by omega), h7, (hf o (by omega) (by omega)).trans hlo, har, by omega⟩ (by omega) (by show cs.1 + 1 ≤ _; omega) (by show cs.2 + 6 ≤ _; omega)
  · have hM := hM.fo w1 l2 l3 (by omega)
    refine bg_istore5 rfl rfl ?_
    refine bg_aload2 rfl ?_
    refine bg_aload0 rfl ?_
    refine bg_iload4 rfl ?_
    refine bg_iconst rfl ?_
    refine bg_iadd rfl ?_
    rw [show nI i + 1 = nI (i + 1) from nI_ad]
    refine bg_iaload_v rfl har (by omega) (by omega) ?_
    refine bg_aload0 rfl ?_
    refine bg_iload4 rfl ?_
    refine bg_iconst rfl ?_
    refine bg_iadd rfl ?_
    rw [show nI i + 2 = nI (i + 2) from nI_ad]
    refine bg_iaload_v rfl har (by omega) (by omega) ?_
    refine bg_virt2 rfl rfl rfl rfl (MD.ob hM) ?_
    refine mo_foresee h7 hM (fun z0 => absurd e0 z0) (fun z0 z1 => absurd e1 z1) (fun _ _ h2 n2 J2 hM j0 jj hn2 hf => bk_Ki ?_)
    refine bg_istore6 rfl rfl ?_
    refine bg_aload2 rfl ?_
    refine bg_virt0 rfl rfl rfl rfl (MD.ob hM) ?_
    refine mo_thrown (MD.yo hM) (bk_Ki ?_)
    rw [j0]
    have hlo2 : LO1 h2 o _ := (hf o (by omega) (by omega)).trans hlo
    refine bg_iload5 rfl ?_
    refine bg_icmp_eq rfl (fun e1249 => ?_) (fun e1249 => absurd rfl e1249)
    refine bg_iload5 rfl ?_
    refine bg_if_ne rfl (fun e1256 => absurd rfl e1256) (fun e1256 => ?_)
    refine bg_aload3 rfl ?_
    refine bg_iconst rfl ?_
    refine bg_laload rfl hlo2 (by unfold vp_in; decide) ?_
    refine bg_iload6 rfl ?_
    refine bg_i2l rfl ?_
    refine bg_lcmp rfl ?_
    rw [show (0 : Int32).toNatClampNeg = 0 from rfl, up_l, lc_same]
    refine bg_if_eq rfl (fun e1266 => ?_) (fun e1266 => absurd rfl e1266)
    refine bg_goto rfl ?_
    refine hN h2 n2 _ _ _ ⟨u, v, _, _, _, J2, K, C, ep, _, hC.kq fun q q1 q2 => hf q (by omega) (by omega), hM, jj.trans jep, hwp, hov, GI_up hgi (by omega), h7, (hf o (by omega) (by omega)).trans hlo, har, by omega⟩ (by omega) (by show cs.1 + 1 ≤ _; omega) (by show cs.2 + 6 ≤ _; omega)
theorem lc_best (z : LI V h n a m w x y o H) (hL : LW n a x y o) (hi : i + 6 ≤ m) (hm : m ≤ 65536) (hH : H + 300 < 10000000) (b1 : cs.1 + 71 ≤ B.1) (b2 : cs.2 + 1415 ≤ B.2) (hN : ∀ (h' : bk_H) (n' : Nat) (z5 z6 : Option Value) (cs' : Nat × Nat), LI V h' n' a m w x y o (H + 96) → n ≤ n' → cs'.1 ≤ cs.1 + 71 → cs'.2 ≤ cs.2 + 1415 → bk_g V (d + 70) 246 B Q 1497 [some (.ref a), some (.ref x), some (.ref y), some (.ref o), some (.int (nI i)), z5, z6, z7, z8] [] h' n' cs') : bk_g V (d + 70) 246 B Q 1330 [some (.ref a), some (.ref x), some (.ref y), some (.ref o), some (.int (nI i)), z5, z6, z7, z8] [] h n cs := by
  obtain ⟨u, v, T, P, S, J, K, C, ep, gl, hC, hM, jep, hwp, hov, hgi, h7, hlo, har, hu⟩ := z
  obtain ⟨l1, l2, l3, l4⟩ := hL
  refine bg_aload1 rfl ?_
  refine bg_aload0 rfl ?_
  refine bg_iload4 rfl ?_
  refine bg_iconst rfl ?_
  refine bg_iadd rfl ?_
  rw [show nI i + 1 = nI (i + 1) from nI_ad]
  refine bg_iaload_v rfl har (by omega) (by omega) ?_
  refine bg_aload3 rfl ?_
  refine bg_stat3B (b := (1, 6)) rfl rfl rfl rfl (by show cs.1 + 1 ≤ _; omega) (by show cs.2 + 6 ≤ _; omega) ?_
  refine bw_best hlo (by omega) (Nat.le_refl _) (Nat.le_refl _) hwp hC (fun e0 n1 hn1 => bk_Ki ?_) (fun e0 h1 hC w1 hlo => bk_Ki ?_)
  · refine bg_istore5 rfl rfl ?_
    refine bg_aload2 rfl ?_
    refine bg_aload0 rfl ?_
    refine bg_iload4 rfl ?_
    refine bg_iconst rfl ?_
    refine bg_iadd rfl ?_
    rw [show nI i + 1 = nI (i + 1) from nI_ad]
    refine bg_iaload_v rfl har (by omega) (by omega) ?_
    refine bg_virt1 rfl rfl rfl rfl (MD.ob hM) ?_
    refine mo_best h7 hM (fun _ h2 J2 hM j0 jj hf => bk_Ki ?_) (fun z0 => absurd z0 e0)
    refine bg_istore6 rfl rfl ?_
    refine bg_aload2 rfl ?_
    refine bg_virt0 rfl rfl rfl rfl (MD.ob hM) ?_
    refine mo_thrown (MD.yo hM) (bk_Ki ?_)
    rw [j0]
    refine bg_iload5 rfl ?_
    refine bg_icmp_eq rfl (fun e1361 => ?_) (fun e1361 => absurd rfl e1361)
    refine bg_iload5 rfl ?_
    refine bg_if_ne rfl (fun e1368 => ?_) (fun e1368 => absurd e1368 (by decide))
    refine bg_goto rfl ?_
    refine hN h2 n1 _ _ _ ⟨u, v, _, _, _, J2, K, C, ep, _, hC.kq fun q q1 q2 => hf q (by omega) (by omega), hM, jj.trans jep, hwp, hov, GI_up hgi (by omega), h7, (hf o (by omega) (by omega)).trans hlo, har, by omega⟩ (by omega) (by show cs.1 + 1 ≤ _; omega) (by show cs.2 + 6 ≤ _; omega)
  · have hM := hM.fo w1 l2 l3 (by omega)
    refine bg_istore5 rfl rfl ?_
    refine bg_aload2 rfl ?_
    refine bg_aload0 rfl ?_
    refine bg_iload4 rfl ?_
    refine bg_iconst rfl ?_
    refine bg_iadd rfl ?_
    rw [show nI i + 1 = nI (i + 1) from nI_ad]
    refine bg_iaload_v rfl har (by omega) (by omega) ?_
    refine bg_virt1 rfl rfl rfl rfl (MD.ob hM) ?_
    refine mo_best h7 hM (fun z0 => absurd e0 z0) (fun _ h2 n2 J2 hM j0 jj hn2 hf => bk_Ki ?_)
    refine bg_istore6 rfl rfl ?_
    refine bg_aload2 rfl ?_
    refine bg_virt0 rfl rfl rfl rfl (MD.ob hM) ?_
    refine mo_thrown (MD.yo hM) (bk_Ki ?_)
    rw [j0]
    have hlo2 : LO1 h2 o _ := (hf o (by omega) (by omega)).trans hlo
    refine bg_iload5 rfl ?_
    refine bg_icmp_eq rfl (fun e1361 => ?_) (fun e1361 => absurd rfl e1361)
    refine bg_iload5 rfl ?_
    refine bg_if_ne rfl (fun e1368 => absurd rfl e1368) (fun e1368 => ?_)
    refine bg_aload3 rfl ?_
    refine bg_iconst rfl ?_
    refine bg_laload rfl hlo2 (by unfold vp_in; decide) ?_
    refine bg_iload6 rfl ?_
    refine bg_i2l rfl ?_
    refine bg_lcmp rfl ?_
    rw [show (0 : Int32).toNatClampNeg = 0 from rfl, up_l, lc_same]
    refine bg_if_eq rfl (fun e1378 => ?_) (fun e1378 => absurd rfl e1378)
    refine bg_goto rfl ?_
    refine hN h2 n2 _ _ _ ⟨u, v, _, _, _, J2, K, C, ep, _, hC.kq fun q q1 q2 => hf q (by omega) (by omega), hM, jj.trans jep, hwp, hov, GI_up hgi (by omega), h7, (hf o (by omega) (by omega)).trans hlo, har, by omega⟩ (by omega) (by show cs.1 + 1 ≤ _; omega) (by show cs.2 + 6 ≤ _; omega)
theorem lc_pass (z : LI V h n a m w x y o H) (hL : LW n a x y o) (hi : i + 6 ≤ m) (hm : m ≤ 65536) (hH : H + 300 < 10000000) (b1 : cs.1 + 71 ≤ B.1) (b2 : cs.2 + 1415 ≤ B.2) (hN : ∀ (h' : bk_H) (n' : Nat) (z5 z6 : Option Value) (cs' : Nat × Nat), LI V h' n' a m w x y o (H + 96) → n ≤ n' → cs'.1 ≤ cs.1 + 71 → cs'.2 ≤ cs.2 + 1415 → bk_g V (d + 70) 246 B Q 1497 [some (.ref a), some (.ref x), some (.ref y), some (.ref o), some (.int (nI i)), z5, z6, z7, z8] [] h' n' cs') : bk_g V (d + 70) 246 B Q 1094 [some (.ref a), some (.ref x), some (.ref y), some (.ref o), some (.int (nI i)), z5, z6, z7, z8] [] h n cs := by
  obtain ⟨u, v, T, P, S, J, K, C, ep, gl, hC, hM, jep, hwp, hov, hgi, h7, hlo, har, hu⟩ := z
  obtain ⟨l1, l2, l3, l4⟩ := hL
  refine bg_aload1 rfl ?_
  refine bg_aload0 rfl ?_
  refine bg_iload4 rfl ?_
  refine bg_iconst rfl ?_
  refine bg_iadd rfl ?_
  rw [show nI i + 1 = nI (i + 1) from nI_ad]
  refine bg_iaload_v rfl har (by omega) (by omega) ?_
  refine bg_aload3 rfl ?_
  refine bg_stat3B (b := (1, 6)) rfl rfl rfl rfl (by show cs.1 + 1 ≤ _; omega) (by show cs.2 + 6 ≤ _; omega) ?_
  refine bw_pass hlo (by omega) (Nat.le_refl _) (Nat.le_refl _) hwp hC (fun e0 n1 hn1 => bk_Ki ?_) (fun e0 h1 hC w1 hlo => bk_Ki ?_)
  · refine bg_istore5 rfl rfl ?_
    refine bg_aload2 rfl ?_
    refine bg_aload0 rfl ?_
    refine bg_iload4 rfl ?_
    refine bg_iconst rfl ?_
    refine bg_iadd rfl ?_
    rw [show nI i + 1 = nI (i + 1) from nI_ad]
    refine bg_iaload_v rfl har (by omega) (by omega) ?_
    refine bg_virt1 rfl rfl rfl rfl (MD.ob hM) ?_
    refine mo_pass hM (fun _ h2 J2 hM j0 jj hf => bk_Ki ?_) (fun z0 => absurd z0 e0)
    refine bg_istore6 rfl rfl ?_
    refine bg_aload2 rfl ?_
    refine bg_virt0 rfl rfl rfl rfl (MD.ob hM) ?_
    refine mo_thrown (MD.yo hM) (bk_Ki ?_)
    rw [j0]
    refine bg_iload5 rfl ?_
    refine bg_icmp_eq rfl (fun e1125 => ?_) (fun e1125 => absurd rfl e1125)
    refine bg_iload5 rfl ?_
    refine bg_if_ne rfl (fun e1132 => ?_) (fun e1132 => absurd e1132 (by decide))
    refine bg_goto rfl ?_
    refine hN h2 n1 _ _ _ ⟨u, v, _, _, _, J2, K, C, ep, _, hC.kq fun q q1 q2 => hf q (by omega) (by omega), hM, jj.trans jep, hwp, hov, GI_up hgi (by omega), h7, (hf o (by omega) (by omega)).trans hlo, har, by omega⟩ (by omega) (by show cs.1 + 1 ≤ _; omega) (by show cs.2 + 6 ≤ _; omega)
  · have hN96 := inR_96 e0
    have hM := hM.fo w1 l2 l3 (by omega)
    refine bg_istore5 rfl rfl ?_
    refine bg_aload2 rfl ?_
    refine bg_aload0 rfl ?_
    refine bg_iload4 rfl ?_
    refine bg_iconst rfl ?_
    refine bg_iadd rfl ?_
    rw [show nI i + 1 = nI (i + 1) from nI_ad]
    refine bg_iaload_v rfl har (by omega) (by omega) ?_
    refine bg_virt1 rfl rfl rfl rfl (MD.ob hM) ?_
    refine mo_pass hM (fun z0 => absurd e0 z0) (fun _ h2 n2 J2 hM j0 jj hn2 hf => bk_Ki ?_)
    refine bg_istore6 rfl rfl ?_
    refine bg_aload2 rfl ?_
    refine bg_virt0 rfl rfl rfl rfl (MD.ob hM) ?_
    refine mo_thrown (MD.yo hM) (bk_Ki ?_)
    rw [j0]
    have hlo2 : LO1 h2 o _ := (hf o (by omega) (by omega)).trans hlo
    refine bg_iload5 rfl ?_
    refine bg_icmp_eq rfl (fun e1125 => ?_) (fun e1125 => absurd rfl e1125)
    refine bg_iload5 rfl ?_
    refine bg_if_ne rfl (fun e1132 => absurd rfl e1132) (fun e1132 => ?_)
    refine bg_aload3 rfl ?_
    refine bg_iconst rfl ?_
    refine bg_laload rfl hlo2 (by unfold vp_in; decide) ?_
    refine bg_iload6 rfl ?_
    refine bg_i2l rfl ?_
    refine bg_lcmp rfl ?_
    rw [show (0 : Int32).toNatClampNeg = 0 from rfl, up_l, lc_same]
    refine bg_if_eq rfl (fun e1142 => ?_) (fun e1142 => absurd rfl e1142)
    refine bg_goto rfl ?_
    refine hN h2 n2 _ _ _ ⟨u, v, _, _, _, J2, K, C, ep, _, hC.kq fun q q1 q2 => hf q (by omega) (by omega), hM, jj.trans jep, hwp, hov, GI_up (GI_go hov hgi _ (by omega)).1 (by omega), (GI_go hov hgi _ (by omega)).2.trans h7, (hf o (by omega) (by omega)).trans hlo, har, by omega⟩ (by omega) (by show cs.1 + 1 ≤ _; omega) (by show cs.2 + 6 ≤ _; omega)
theorem lc_advise (z : LI V h n a m w x y o H) (hL : LW n a x y o) (hi : i + 6 ≤ m) (hm : m ≤ 65536) (hH : H + 300 < 10000000) (b1 : cs.1 + 71 ≤ B.1) (b2 : cs.2 + 1415 ≤ B.2) (hN : ∀ (h' : bk_H) (n' : Nat) (z5 z6 : Option Value) (cs' : Nat × Nat), LI V h' n' a m w x y o (H + 96) → n ≤ n' → cs'.1 ≤ cs.1 + 71 → cs'.2 ≤ cs.2 + 1415 → bk_g V (d + 70) 246 B Q 1497 [some (.ref a), some (.ref x), some (.ref y), some (.ref o), some (.int (nI i)), z5, z6, z7, z8] [] h' n' cs') : bk_g V (d + 70) 246 B Q 1274 [some (.ref a), some (.ref x), some (.ref y), some (.ref o), some (.int (nI i)), z5, z6, z7, z8] [] h n cs := by
  obtain ⟨u, v, T, P, S, J, K, C, ep, gl, hC, hM, jep, hwp, hov, hgi, h7, hlo, har, hu⟩ := z
  obtain ⟨l1, l2, l3, l4⟩ := hL
  refine bg_aload1 rfl ?_
  refine bg_aload0 rfl ?_
  refine bg_iload4 rfl ?_
  refine bg_iconst rfl ?_
  refine bg_iadd rfl ?_
  rw [show nI i + 1 = nI (i + 1) from nI_ad]
  refine bg_iaload_v rfl har (by omega) (by omega) ?_
  refine bg_aload3 rfl ?_
  refine bg_stat3B (b := (1, 6)) rfl rfl rfl rfl (by show cs.1 + 1 ≤ _; omega) (by show cs.2 + 6 ≤ _; omega) ?_
  refine bw_advise hlo (by omega) (Nat.le_refl _) (Nat.le_refl _) hwp hC (fun e0 n1 hn1 => bk_Ki ?_) (fun e0 h1 hC w1 hlo => bk_Ki ?_)
  · refine bg_istore5 rfl rfl ?_
    refine bg_aload2 rfl ?_
    refine bg_aload0 rfl ?_
    refine bg_iload4 rfl ?_
    refine bg_iconst rfl ?_
    refine bg_iadd rfl ?_
    rw [show nI i + 1 = nI (i + 1) from nI_ad]
    refine bg_iaload_v rfl har (by omega) (by omega) ?_
    refine bg_virt1 rfl rfl rfl rfl (MD.ob hM) ?_
    refine mo_advise h7 hM (fun _ h2 J2 hM j0 jj hf => bk_Ki ?_) (fun z0 => absurd z0 e0)
    refine bg_istore6 rfl rfl ?_
    refine bg_aload2 rfl ?_
    refine bg_virt0 rfl rfl rfl rfl (MD.ob hM) ?_
    refine mo_thrown (MD.yo hM) (bk_Ki ?_)
    rw [j0]
    refine bg_iload5 rfl ?_
    refine bg_icmp_eq rfl (fun e1305 => ?_) (fun e1305 => absurd rfl e1305)
    refine bg_iload5 rfl ?_
    refine bg_if_ne rfl (fun e1312 => ?_) (fun e1312 => absurd e1312 (by decide))
    refine bg_goto rfl ?_
    refine hN h2 n1 _ _ _ ⟨u, v, _, _, _, J2, K, C, ep, _, hC.kq fun q q1 q2 => hf q (by omega) (by omega), hM, jj.trans jep, hwp, hov, GI_up hgi (by omega), h7, (hf o (by omega) (by omega)).trans hlo, har, by omega⟩ (by omega) (by show cs.1 + 1 ≤ _; omega) (by show cs.2 + 6 ≤ _; omega)
  · have hv := ad_ok hov hgi (by omega) (b := w (i + 1))
    have hM := hM.fo w1 l2 l3 (by omega)
    refine bg_istore5 rfl rfl ?_
    refine bg_aload2 rfl ?_
    refine bg_aload0 rfl ?_
    refine bg_iload4 rfl ?_
    refine bg_iconst rfl ?_
    refine bg_iadd rfl ?_
    rw [show nI i + 1 = nI (i + 1) from nI_ad]
    refine bg_iaload_v rfl har (by omega) (by omega) ?_
    refine bg_virt1 rfl rfl rfl rfl (MD.ob hM) ?_
    refine mo_advise h7 hM (fun z0 => absurd e0 z0) (fun _ h2 n2 J2 hM j0 jj hn2 hf => bk_Ki ?_)
    refine bg_istore6 rfl rfl ?_
    refine bg_aload2 rfl ?_
    refine bg_virt0 rfl rfl rfl rfl (MD.ob hM) ?_
    refine mo_thrown (MD.yo hM) (bk_Ki ?_)
    rw [j0]
    have hlo2 : LO1 h2 o _ := (hf o (by omega) (by omega)).trans hlo
    refine bg_iload5 rfl ?_
    refine bg_icmp_eq rfl (fun e1305 => ?_) (fun e1305 => absurd rfl e1305)
    refine bg_iload5 rfl ?_
    refine bg_if_ne rfl (fun e1312 => absurd rfl e1312) (fun e1312 => ?_)
    refine bg_aload3 rfl ?_
    refine bg_iconst rfl ?_
    refine bg_laload rfl hlo2 (by unfold vp_in; decide) ?_
    refine bg_iload6 rfl ?_
    refine bg_i2l rfl ?_
    refine bg_lcmp rfl ?_
    rw [show (0 : Int32).toNatClampNeg = 0 from rfl, up_l, hv, lc_same]
    refine bg_if_eq rfl (fun e1322 => ?_) (fun e1322 => absurd rfl e1322)
    refine bg_goto rfl ?_
    refine hN h2 n2 _ _ _ ⟨u, v, _, _, _, J2, K, C, ep, _, hC.kq fun q q1 q2 => hf q (by omega) (by omega), hM, jj.trans jep, hwp, hov, GI_up hgi (by omega), h7, (hf o (by omega) (by omega)).trans hlo, har, by omega⟩ (by omega) (by show cs.1 + 1 ≤ _; omega) (by show cs.2 + 6 ≤ _; omega)
theorem lc_spare (z : LI V h n a m w x y o H) (hL : LW n a x y o) (hi : i + 6 ≤ m) (hm : m ≤ 65536) (hH : H + 300 < 10000000) (b1 : cs.1 + 71 ≤ B.1) (b2 : cs.2 + 1415 ≤ B.2) (hN : ∀ (h' : bk_H) (n' : Nat) (z5 z6 : Option Value) (cs' : Nat × Nat), LI V h' n' a m w x y o (H + 96) → n ≤ n' → cs'.1 ≤ cs.1 + 71 → cs'.2 ≤ cs.2 + 1415 → bk_g V (d + 70) 246 B Q 1497 [some (.ref a), some (.ref x), some (.ref y), some (.ref o), some (.int (nI i)), z5, z6, z7, z8] [] h' n' cs') : bk_g V (d + 70) 246 B Q 1386 [some (.ref a), some (.ref x), some (.ref y), some (.ref o), some (.int (nI i)), z5, z6, z7, z8] [] h n cs := by
  obtain ⟨u, v, T, P, S, J, K, C, ep, gl, hC, hM, jep, hwp, hov, hgi, h7, hlo, har, hu⟩ := z
  obtain ⟨l1, l2, l3, l4⟩ := hL
  refine bg_aload1 rfl ?_
  refine bg_aload0 rfl ?_
  refine bg_iload4 rfl ?_
  refine bg_iconst rfl ?_
  refine bg_iadd rfl ?_
  rw [show nI i + 1 = nI (i + 1) from nI_ad]
  refine bg_iaload_v rfl har (by omega) (by omega) ?_
  refine bg_aload3 rfl ?_
  refine bg_stat3B (b := (1, 6)) rfl rfl rfl rfl (by show cs.1 + 1 ≤ _; omega) (by show cs.2 + 6 ≤ _; omega) ?_
  refine bw_spare hlo (by omega) (Nat.le_refl _) (Nat.le_refl _) hwp hC (fun e0 n1 hn1 => bk_Ki ?_) (fun e0 h1 hC w1 hlo => bk_Ki ?_)
  · refine bg_istore5 rfl rfl ?_
    refine bg_aload2 rfl ?_
    refine bg_aload0 rfl ?_
    refine bg_iload4 rfl ?_
    refine bg_iconst rfl ?_
    refine bg_iadd rfl ?_
    rw [show nI i + 1 = nI (i + 1) from nI_ad]
    refine bg_iaload_v rfl har (by omega) (by omega) ?_
    refine bg_virt1 rfl rfl rfl rfl (MD.ob hM) ?_
    refine mo_spare h7 hM (fun _ h2 J2 hM j0 jj hf => bk_Ki ?_) (fun z0 => absurd z0 e0)
    refine bg_istore6 rfl rfl ?_
    refine bg_aload2 rfl ?_
    refine bg_virt0 rfl rfl rfl rfl (MD.ob hM) ?_
    refine mo_thrown (MD.yo hM) (bk_Ki ?_)
    rw [j0]
    refine bg_iload5 rfl ?_
    refine bg_icmp_eq rfl (fun e1417 => ?_) (fun e1417 => absurd rfl e1417)
    refine bg_iload5 rfl ?_
    refine bg_if_ne rfl (fun e1424 => ?_) (fun e1424 => absurd e1424 (by decide))
    refine bg_goto rfl ?_
    refine hN h2 n1 _ _ _ ⟨u, v, _, _, _, J2, K, C, ep, _, hC.kq fun q q1 q2 => hf q (by omega) (by omega), hM, jj.trans jep, hwp, hov, GI_up hgi (by omega), h7, (hf o (by omega) (by omega)).trans hlo, har, by omega⟩ (by omega) (by show cs.1 + 1 ≤ _; omega) (by show cs.2 + 6 ≤ _; omega)
  · have hN72 := inR_72 e0
    have hv := sp_ok hov hgi h7 (show H + (w (i + 1)).toNatClampNeg < 10000000 by omega) hM.l1
    have hM := hM.fo w1 l2 l3 (by omega)
    refine bg_istore5 rfl rfl ?_
    refine bg_aload2 rfl ?_
    refine bg_aload0 rfl ?_
    refine bg_iload4 rfl ?_
    refine bg_iconst rfl ?_
    refine bg_iadd rfl ?_
    rw [show nI i + 1 = nI (i + 1) from nI_ad]
    refine bg_iaload_v rfl har (by omega) (by omega) ?_
    refine bg_virt1 rfl rfl rfl rfl (MD.ob hM) ?_
    refine mo_spare h7 hM (fun z0 => absurd e0 z0) (fun _ h2 n2 J2 hM j0 jj hn2 hf => bk_Ki ?_)
    refine bg_istore6 rfl rfl ?_
    refine bg_aload2 rfl ?_
    refine bg_virt0 rfl rfl rfl rfl (MD.ob hM) ?_
    refine mo_thrown (MD.yo hM) (bk_Ki ?_)
    rw [j0]
    have hlo2 : LO1 h2 o _ := (hf o (by omega) (by omega)).trans hlo
    refine bg_iload5 rfl ?_
    refine bg_icmp_eq rfl (fun e1417 => ?_) (fun e1417 => absurd rfl e1417)
    refine bg_iload5 rfl ?_
    refine bg_if_ne rfl (fun e1424 => absurd rfl e1424) (fun e1424 => ?_)
    refine bg_aload3 rfl ?_
    refine bg_iconst rfl ?_
    refine bg_laload rfl hlo2 (by unfold vp_in; decide) ?_
    refine bg_iload6 rfl ?_
    refine bg_i2l rfl ?_
    refine bg_lcmp rfl ?_
    rw [show (0 : Int32).toNatClampNeg = 0 from rfl, up_l, hv, lc_same]
    refine bg_if_eq rfl (fun e1434 => ?_) (fun e1434 => absurd rfl e1434)
    refine bg_goto rfl ?_
    refine hN h2 n2 _ _ _ ⟨u, v, _, _, _, J2, K, C, ep, _, hC.kq fun q q1 q2 => hf q (by omega) (by omega), hM, jj.trans jep, hwp, hov, GI_up hgi (by omega), h7, (hf o (by omega) (by omega)).trans hlo, har, by omega⟩ (by omega) (by show cs.1 + 1 ≤ _; omega) (by show cs.2 + 6 ≤ _; omega)
end LC
