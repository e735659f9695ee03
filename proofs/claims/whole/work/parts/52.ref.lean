/-! THE REFERENCE: what a step puts down. Printed by wip/whole/mk52.py. -/
section RB
variable {V : bk_V} {d n : Nat} {B : Nat × Nat} {Q : bk_R → bk_H → Nat → Prop} {h : bk_H} {r y u : Nat} {P : Nat → bT} {S : bS} {I : rI} {A : rA} {cs : Nat × Nat}
theorem rb_pushed {k w v : Int32} (hk : kP k w) (hv : vlR P k v) (hR : RO h r y I A) (hr : RR S I A) (hs : SH P S) (hQ : Q (.inl (some (.int (vO S k v)))) h n) : bk_wp V (d + 2) 145 [.ref r, .int w, .int v] h n B Q := by
  unfold kP at hk
  have hl0 := hs.2.2.1
  have hl3 : (S.2 3).length ≤ 30 := hs.2.1.2.2.2.1.1
  have hl4 : (S.2 4).length ≤ 30 := hs.2.1.2.2.2.2.1
  obtain ⟨s0, s1, s2, s3, s4, s5, s6, s7, s8, s9, s10, s11, s12, s13⟩ := id hR
  refine bg_in rfl rfl ?_
  refine bg_iload1 rfl ?_
  refine bg_tsw rfl ?_
  refine bk_sw_c (fun e1_1 => ?_) (fun n1_1 => ?_)
  · obtain rfl : k = 2 := by
      rcases hk with ⟨a1, a2⟩ | ⟨a1, a2⟩ | ⟨a1, a2⟩ | ⟨a1, a2⟩ | ⟨a1, a2⟩ | ⟨a1, a2⟩ | ⟨a1, a2⟩ | ⟨a1, a2⟩ | ⟨a1, a2⟩ <;> first | exact a1 | exact absurd (a2.symm.trans e1_1) (by decide)
    obtain ⟨b, hb, rfl⟩ := hv (by decide)
    have hb5 : b < 5 := Nat.lt_of_lt_of_le hb hs.1.1.1
    have eF : vO S 2 (nI b) = A 0 b := by
      rw [(hr.2.1 b (by omega)).1]
      exact rG_nI (by omega)
    refine bg_aload0 rfl ?_
    refine bg_getfield rfl rfl s0 (by rfl) ?_
    refine bg_iload2 rfl ?_
    refine bg_iaload_n rfl s1 (by omega) (by omega) ?_
    refine bg_iret rfl rfl (by rfl) ?_
    exact bQ hQ eF
  refine bk_sw_c (fun e1_2 => ?_) (fun n1_2 => ?_)
  · exfalso
    rcases hk with ⟨a1, a2⟩ | ⟨a1, a2⟩ | ⟨a1, a2⟩ | ⟨a1, a2⟩ | ⟨a1, a2⟩ | ⟨a1, a2⟩ | ⟨a1, a2⟩ | ⟨a1, a2⟩ | ⟨a1, a2⟩ <;> exact absurd (a2.symm.trans e1_2) (by decide)
  refine bk_sw_c (fun e1_3 => ?_) (fun n1_3 => ?_)
  · exfalso
    rcases hk with ⟨a1, a2⟩ | ⟨a1, a2⟩ | ⟨a1, a2⟩ | ⟨a1, a2⟩ | ⟨a1, a2⟩ | ⟨a1, a2⟩ | ⟨a1, a2⟩ | ⟨a1, a2⟩ | ⟨a1, a2⟩ <;> exact absurd (a2.symm.trans e1_3) (by decide)
  refine bk_sw_c (fun e1_4 => ?_) (fun n1_4 => ?_)
  · exfalso
    rcases hk with ⟨a1, a2⟩ | ⟨a1, a2⟩ | ⟨a1, a2⟩ | ⟨a1, a2⟩ | ⟨a1, a2⟩ | ⟨a1, a2⟩ | ⟨a1, a2⟩ | ⟨a1, a2⟩ | ⟨a1, a2⟩ <;> exact absurd (a2.symm.trans e1_4) (by decide)
  refine bk_sw_c (fun e1_5 => ?_) (fun n1_5 => ?_)
  · exfalso
    rcases hk with ⟨a1, a2⟩ | ⟨a1, a2⟩ | ⟨a1, a2⟩ | ⟨a1, a2⟩ | ⟨a1, a2⟩ | ⟨a1, a2⟩ | ⟨a1, a2⟩ | ⟨a1, a2⟩ | ⟨a1, a2⟩ <;> exact absurd (a2.symm.trans e1_5) (by decide)
  refine bk_sw_c (fun e1_6 => ?_) (fun n1_6 => ?_)
  · exfalso
    rcases hk with ⟨a1, a2⟩ | ⟨a1, a2⟩ | ⟨a1, a2⟩ | ⟨a1, a2⟩ | ⟨a1, a2⟩ | ⟨a1, a2⟩ | ⟨a1, a2⟩ | ⟨a1, a2⟩ | ⟨a1, a2⟩ <;> exact absurd (a2.symm.trans e1_6) (by decide)
  refine bk_sw_c (fun e1_7 => ?_) (fun n1_7 => ?_)
  · exfalso
    rcases hk with ⟨a1, a2⟩ | ⟨a1, a2⟩ | ⟨a1, a2⟩ | ⟨a1, a2⟩ | ⟨a1, a2⟩ | ⟨a1, a2⟩ | ⟨a1, a2⟩ | ⟨a1, a2⟩ | ⟨a1, a2⟩ <;> exact absurd (a2.symm.trans e1_7) (by decide)
  refine bk_sw_c (fun e1_8 => ?_) (fun n1_8 => ?_)
  · exfalso
    rcases hk with ⟨a1, a2⟩ | ⟨a1, a2⟩ | ⟨a1, a2⟩ | ⟨a1, a2⟩ | ⟨a1, a2⟩ | ⟨a1, a2⟩ | ⟨a1, a2⟩ | ⟨a1, a2⟩ | ⟨a1, a2⟩ <;> exact absurd (a2.symm.trans e1_8) (by decide)
  refine bk_sw_c (fun e1_9 => ?_) (fun n1_9 => ?_)
  · exfalso
    rcases hk with ⟨a1, a2⟩ | ⟨a1, a2⟩ | ⟨a1, a2⟩ | ⟨a1, a2⟩ | ⟨a1, a2⟩ | ⟨a1, a2⟩ | ⟨a1, a2⟩ | ⟨a1, a2⟩ | ⟨a1, a2⟩ <;> exact absurd (a2.symm.trans e1_9) (by decide)
  refine bk_sw_c (fun e1_10 => ?_) (fun n1_10 => ?_)
  · exfalso
    rcases hk with ⟨a1, a2⟩ | ⟨a1, a2⟩ | ⟨a1, a2⟩ | ⟨a1, a2⟩ | ⟨a1, a2⟩ | ⟨a1, a2⟩ | ⟨a1, a2⟩ | ⟨a1, a2⟩ | ⟨a1, a2⟩ <;> exact absurd (a2.symm.trans e1_10) (by decide)
  refine bk_sw_c (fun e1_11 => ?_) (fun n1_11 => ?_)
  · exfalso
    rcases hk with ⟨a1, a2⟩ | ⟨a1, a2⟩ | ⟨a1, a2⟩ | ⟨a1, a2⟩ | ⟨a1, a2⟩ | ⟨a1, a2⟩ | ⟨a1, a2⟩ | ⟨a1, a2⟩ | ⟨a1, a2⟩ <;> exact absurd (a2.symm.trans e1_11) (by decide)
  refine bk_sw_c (fun e1_12 => ?_) (fun n1_12 => ?_)
  · exfalso
    rcases hk with ⟨a1, a2⟩ | ⟨a1, a2⟩ | ⟨a1, a2⟩ | ⟨a1, a2⟩ | ⟨a1, a2⟩ | ⟨a1, a2⟩ | ⟨a1, a2⟩ | ⟨a1, a2⟩ | ⟨a1, a2⟩ <;> exact absurd (a2.symm.trans e1_12) (by decide)
  refine bk_sw_c (fun e1_13 => ?_) (fun n1_13 => ?_)
  · exfalso
    rcases hk with ⟨a1, a2⟩ | ⟨a1, a2⟩ | ⟨a1, a2⟩ | ⟨a1, a2⟩ | ⟨a1, a2⟩ | ⟨a1, a2⟩ | ⟨a1, a2⟩ | ⟨a1, a2⟩ | ⟨a1, a2⟩ <;> exact absurd (a2.symm.trans e1_13) (by decide)
  refine bk_sw_c (fun e1_14 => ?_) (fun n1_14 => ?_)
  · exfalso
    rcases hk with ⟨a1, a2⟩ | ⟨a1, a2⟩ | ⟨a1, a2⟩ | ⟨a1, a2⟩ | ⟨a1, a2⟩ | ⟨a1, a2⟩ | ⟨a1, a2⟩ | ⟨a1, a2⟩ | ⟨a1, a2⟩ <;> exact absurd (a2.symm.trans e1_14) (by decide)
  refine bk_sw_c (fun e1_15 => ?_) (fun n1_15 => ?_)
  · exfalso
    rcases hk with ⟨a1, a2⟩ | ⟨a1, a2⟩ | ⟨a1, a2⟩ | ⟨a1, a2⟩ | ⟨a1, a2⟩ | ⟨a1, a2⟩ | ⟨a1, a2⟩ | ⟨a1, a2⟩ | ⟨a1, a2⟩ <;> exact absurd (a2.symm.trans e1_15) (by decide)
  refine bk_sw_c (fun e1_16 => ?_) (fun n1_16 => ?_)
  · exfalso
    rcases hk with ⟨a1, a2⟩ | ⟨a1, a2⟩ | ⟨a1, a2⟩ | ⟨a1, a2⟩ | ⟨a1, a2⟩ | ⟨a1, a2⟩ | ⟨a1, a2⟩ | ⟨a1, a2⟩ | ⟨a1, a2⟩ <;> exact absurd (a2.symm.trans e1_16) (by decide)
  refine bk_sw_c (fun e1_17 => ?_) (fun n1_17 => ?_)
  · obtain rfl : k = 18 := by
      rcases hk with ⟨a1, a2⟩ | ⟨a1, a2⟩ | ⟨a1, a2⟩ | ⟨a1, a2⟩ | ⟨a1, a2⟩ | ⟨a1, a2⟩ | ⟨a1, a2⟩ | ⟨a1, a2⟩ | ⟨a1, a2⟩ <;> first | exact a1 | exact absurd (a2.symm.trans e1_17) (by decide)
    have eF : vO S 18 v = I 0 := (hr.1.1 0 (by decide)).symm
    refine bg_aload0 rfl ?_
    refine bg_getfield rfl rfl s0 (by rfl) ?_
    refine bg_iret rfl rfl (by rfl) ?_
    exact bQ hQ eF
  refine bk_sw_c (fun e1_18 => ?_) (fun n1_18 => ?_)
  · obtain rfl : k = 19 := by
      rcases hk with ⟨a1, a2⟩ | ⟨a1, a2⟩ | ⟨a1, a2⟩ | ⟨a1, a2⟩ | ⟨a1, a2⟩ | ⟨a1, a2⟩ | ⟨a1, a2⟩ | ⟨a1, a2⟩ | ⟨a1, a2⟩ <;> first | exact a1 | exact absurd (a2.symm.trans e1_18) (by decide)
    obtain ⟨b, hb, rfl⟩ := hv (by decide)
    have hb5 : b < 5 := Nat.lt_of_lt_of_le hb hs.1.1.1
    have eF : vO S 19 (nI b) = A 1 b := by
      rw [(hr.2.1 b (by omega)).2.1]
      exact rG_nI (by omega)
    refine bg_aload0 rfl ?_
    refine bg_getfield rfl rfl s0 (by rfl) ?_
    refine bg_iload2 rfl ?_
    refine bg_iaload_n rfl s2 (by omega) (by omega) ?_
    refine bg_iret rfl rfl (by rfl) ?_
    exact bQ hQ eF
  refine bk_sw_c (fun e1_19 => ?_) (fun n1_19 => ?_)
  · obtain rfl : k = 20 := by
      rcases hk with ⟨a1, a2⟩ | ⟨a1, a2⟩ | ⟨a1, a2⟩ | ⟨a1, a2⟩ | ⟨a1, a2⟩ | ⟨a1, a2⟩ | ⟨a1, a2⟩ | ⟨a1, a2⟩ | ⟨a1, a2⟩ <;> first | exact a1 | exact absurd (a2.symm.trans e1_19) (by decide)
    obtain ⟨b, hb, rfl⟩ := hv (by decide)
    have hb5 : b < 5 := Nat.lt_of_lt_of_le hb hs.1.1.1
    have eF : vO S 20 (nI b) = A 2 b := by
      rw [(hr.2.1 b (by omega)).2.2]
      exact rG_nI (by omega)
    refine bg_aload0 rfl ?_
    refine bg_getfield rfl rfl s0 (by rfl) ?_
    refine bg_iload2 rfl ?_
    refine bg_iaload_n rfl s3 (by omega) (by omega) ?_
    refine bg_iret rfl rfl (by rfl) ?_
    exact bQ hQ eF
  refine bk_sw_c (fun e1_20 => ?_) (fun n1_20 => ?_)
  · obtain rfl : k = 21 := by
      rcases hk with ⟨a1, a2⟩ | ⟨a1, a2⟩ | ⟨a1, a2⟩ | ⟨a1, a2⟩ | ⟨a1, a2⟩ | ⟨a1, a2⟩ | ⟨a1, a2⟩ | ⟨a1, a2⟩ | ⟨a1, a2⟩ <;> first | exact a1 | exact absurd (a2.symm.trans e1_20) (by decide)
    have eF : vO S 21 v = nI (tCp (fun x => decide (x = v)) (S.2 3) 0) := rfl
    refine bg_aload0 rfl ?_
    refine bg_iload2 rfl ?_
    refine bg_virt1 rfl rfl rfl rfl ⟨_, by assumption⟩ ?_
    refine rb_sheetsOf hR hr hl3 (bk_Ki ?_)
    refine bg_iret rfl rfl (by rfl) ?_
    exact bQ hQ eF
  refine bk_sw_c (fun e1_21 => ?_) (fun n1_21 => ?_)
  · obtain rfl : k = 22 := by
      rcases hk with ⟨a1, a2⟩ | ⟨a1, a2⟩ | ⟨a1, a2⟩ | ⟨a1, a2⟩ | ⟨a1, a2⟩ | ⟨a1, a2⟩ | ⟨a1, a2⟩ | ⟨a1, a2⟩ | ⟨a1, a2⟩ <;> first | exact a1 | exact absurd (a2.symm.trans e1_21) (by decide)
    have eF : vO S 22 v = nI (tCp (fun x => decide (x = v)) (S.2 4) 0) := rfl
    refine bg_aload0 rfl ?_
    refine bg_iload2 rfl ?_
    refine bg_virt1 rfl rfl rfl rfl ⟨_, by assumption⟩ ?_
    refine rb_figuresOf hR hr hl4 (bk_Ki ?_)
    refine bg_iret rfl rfl (by rfl) ?_
    exact bQ hQ eF
  refine bk_sw_c (fun e1_22 => ?_) (fun n1_22 => ?_)
  · obtain rfl : k = 23 := by
      rcases hk with ⟨a1, a2⟩ | ⟨a1, a2⟩ | ⟨a1, a2⟩ | ⟨a1, a2⟩ | ⟨a1, a2⟩ | ⟨a1, a2⟩ | ⟨a1, a2⟩ | ⟨a1, a2⟩ | ⟨a1, a2⟩ <;> first | exact a1 | exact absurd (a2.symm.trans e1_22) (by decide)
    have eF : vO S 23 v = I 3 := (hr.1.1 3 (by decide)).symm
    refine bg_aload0 rfl ?_
    refine bg_getfield rfl rfl s0 (by rfl) ?_
    refine bg_iret rfl rfl (by rfl) ?_
    exact bQ hQ eF
  refine bk_sw_c (fun e1_23 => ?_) (fun n1_23 => ?_)
  · obtain rfl : k = 24 := by
      rcases hk with ⟨a1, a2⟩ | ⟨a1, a2⟩ | ⟨a1, a2⟩ | ⟨a1, a2⟩ | ⟨a1, a2⟩ | ⟨a1, a2⟩ | ⟨a1, a2⟩ | ⟨a1, a2⟩ | ⟨a1, a2⟩ <;> first | exact a1 | exact absurd (a2.symm.trans e1_23) (by decide)
    have eF : vO S 24 v = I 1 := (hr.1.1 1 (by decide)).symm
    refine bg_aload0 rfl ?_
    refine bg_getfield rfl rfl s0 (by rfl) ?_
    refine bg_iret rfl rfl (by rfl) ?_
    exact bQ hQ eF
  refine bk_sw_c (fun e1_24 => ?_) (fun n1_24 => ?_)
  · exfalso
    rcases hk with ⟨a1, a2⟩ | ⟨a1, a2⟩ | ⟨a1, a2⟩ | ⟨a1, a2⟩ | ⟨a1, a2⟩ | ⟨a1, a2⟩ | ⟨a1, a2⟩ | ⟨a1, a2⟩ | ⟨a1, a2⟩ <;> exact absurd (a2.symm.trans e1_24) (by decide)
  refine bk_sw_c (fun e1_25 => ?_) (fun n1_25 => ?_)
  · exfalso
    rcases hk with ⟨a1, a2⟩ | ⟨a1, a2⟩ | ⟨a1, a2⟩ | ⟨a1, a2⟩ | ⟨a1, a2⟩ | ⟨a1, a2⟩ | ⟨a1, a2⟩ | ⟨a1, a2⟩ | ⟨a1, a2⟩ <;> exact absurd (a2.symm.trans e1_25) (by decide)
  refine bk_sw_c (fun e1_26 => ?_) (fun n1_26 => ?_)
  · exfalso
    rcases hk with ⟨a1, a2⟩ | ⟨a1, a2⟩ | ⟨a1, a2⟩ | ⟨a1, a2⟩ | ⟨a1, a2⟩ | ⟨a1, a2⟩ | ⟨a1, a2⟩ | ⟨a1, a2⟩ | ⟨a1, a2⟩ <;> exact absurd (a2.symm.trans e1_26) (by decide)
  refine bk_sw_c (fun e1_27 => ?_) (fun n1_27 => ?_)
  · exfalso
    rcases hk with ⟨a1, a2⟩ | ⟨a1, a2⟩ | ⟨a1, a2⟩ | ⟨a1, a2⟩ | ⟨a1, a2⟩ | ⟨a1, a2⟩ | ⟨a1, a2⟩ | ⟨a1, a2⟩ | ⟨a1, a2⟩ <;> exact absurd (a2.symm.trans e1_27) (by decide)
  refine bk_sw_c (fun e1_28 => ?_) (fun n1_28 => ?_)
  · exfalso
    rcases hk with ⟨a1, a2⟩ | ⟨a1, a2⟩ | ⟨a1, a2⟩ | ⟨a1, a2⟩ | ⟨a1, a2⟩ | ⟨a1, a2⟩ | ⟨a1, a2⟩ | ⟨a1, a2⟩ | ⟨a1, a2⟩ <;> exact absurd (a2.symm.trans e1_28) (by decide)
  refine bk_sw_c (fun e1_29 => ?_) (fun n1_29 => ?_)
  · exfalso
    rcases hk with ⟨a1, a2⟩ | ⟨a1, a2⟩ | ⟨a1, a2⟩ | ⟨a1, a2⟩ | ⟨a1, a2⟩ | ⟨a1, a2⟩ | ⟨a1, a2⟩ | ⟨a1, a2⟩ | ⟨a1, a2⟩ <;> exact absurd (a2.symm.trans e1_29) (by decide)
  refine bk_sw_c (fun e1_30 => ?_) (fun n1_30 => ?_)
  · obtain rfl : k = 31 := by
      rcases hk with ⟨a1, a2⟩ | ⟨a1, a2⟩ | ⟨a1, a2⟩ | ⟨a1, a2⟩ | ⟨a1, a2⟩ | ⟨a1, a2⟩ | ⟨a1, a2⟩ | ⟨a1, a2⟩ | ⟨a1, a2⟩ <;> first | exact a1 | exact absurd (a2.symm.trans e1_30) (by decide)
    have eF : vO S 31 v = v := rfl
    refine bg_iload2 rfl ?_
    refine bg_iret rfl rfl (by rfl) ?_
    exact bQ hQ eF
  refine bk_sw_n ?_
  exfalso
  rcases hk with ⟨a1, a2⟩ | ⟨a1, a2⟩ | ⟨a1, a2⟩ | ⟨a1, a2⟩ | ⟨a1, a2⟩ | ⟨a1, a2⟩ | ⟨a1, a2⟩ | ⟨a1, a2⟩ | ⟨a1, a2⟩ <;> contradiction
end RB
