/-! THE REFERENCE: the model made. Printed by wip/whole/mk98c.py. -/
section RB
variable {V : bk_V} {d n : Nat} {B : Nat × Nat} {Q : bk_R → bk_H → Nat → Prop} {h : bk_H} {r y u v : Nat} {P : Nat → bT} {S : bS} {I J K : rI} {A C : rA} {bs : bT} {cs : Nat × Nat}
def J0F : rI := fun k => if k = 2 then -1 else 0
theorem RP_0 : RP (fun _ => []) K0F C0F := ⟨fun k _ => rfl, fun i hi => absurd hi (Nat.not_lt_zero i), fun i hi => absurd hi (Nat.not_lt_zero i), fun i hi => absurd hi (Nat.not_lt_zero i), fun i hi => absurd hi (Nat.not_lt_zero i)⟩
theorem shT_0 {w m : Nat} : shT [] w m := ⟨Nat.zero_le _, fun q hq => absurd hq List.not_mem_nil⟩
theorem SH_n : SH (fun _ => []) S0F := ⟨⟨shT_0, shT_0, shT_0, shT_0, shT_0⟩, ⟨shT_0, shT_0, shT_0, shT_0, shT_0⟩, rfl, rfl, rfl⟩
theorem IV_n : IV (fun _ => []) S0F := ⟨fun i hi => absurd hi (Nat.not_lt_zero i), fun i hi => absurd hi (Nat.not_lt_zero i), fun i hi => absurd hi (Nat.not_lt_zero i), fun i hi => absurd hi (Nat.not_lt_zero i)⟩
theorem RR_0 {I : rI} {A : rA} (h : RR (beginF (fun _ => []) S0F) I A) : RR S0F I A := by
  obtain ⟨⟨q1, q2, q3, q4⟩, _, _, h4, _, _⟩ := h
  refine ⟨⟨fun k hk => ?_, q2, q3, q4⟩, fun i hi => absurd hi (Nat.not_lt_zero i), fun i hi => absurd hi (Nat.not_lt_zero i), h4, fun i hi => absurd hi (Nat.not_lt_zero i), fun i hi => absurd hi (Nat.not_lt_zero i)⟩
  rw [q1 k hk]
  have : k = 0 ∨ k = 1 ∨ k = 2 ∨ k = 3 ∨ k = 4 ∨ k = 5 := by omega
  rcases this with rfl | rfl | rfl | rfl | rfl | rfl <;> rfl
theorem ri_model (o : h y = some (.inr (13, [.int 0, .null, .int 0, .int 0, .null, .null, .null, .null, .null, .int 0, .int 0, .null, .null, .null, .null]))) (hn : n = y + 1) (hB1 : 50 ≤ B.1) (hB2 : 6686 ≤ B.2) (hQ : ∀ h', MD h' y (y + 7) (y + 7) [] (fun _ => []) S0F J0F K0F C0F → fr h h' y (y + 51) → Q (.inl none) h' (n + 50)) : bk_wp V (d + 3) 146 [.ref y] h n B Q := by
  subst hn
  refine bg_in rfl rfl ?_
  refine bg_aload0 rfl ?_
  refine bg_objinit rfl rfl rfl ?_
  refine bg_aload0 rfl ?_
  refine bg_sipush rfl ?_
  refine bg_newarray_int rfl (N := 2000) (by decide) (by decide) (by show 0 + 1 ≤ B.1; omega) (by show 0 + 2000 ≤ B.2; omega) (by decide) (fun h8 f8 g8 => ?_)
  have o := (g8 y (by omega)).trans o
  refine bg_putfield rfl rfl o (by rfl) ⟨rfl, rfl⟩ (by rfl) (fun h10 f10 g10 => ?_)
  have o := f10
  have k1 := (g10 _ (by omega)).trans f8
  refine bg_aload0 rfl ?_
  refine bg_iconst rfl ?_
  refine bg_putfield rfl rfl o (by rfl) ⟨rfl, rfl⟩ (by rfl) (fun h15 f15 g15 => ?_)
  have o := f15
  have k1 := (g15 _ (by omega)).trans k1
  refine bg_aload0 rfl ?_
  refine bg_sipush rfl ?_
  refine bg_newarray_int rfl (N := 401) (by decide) (by decide) (by show 1 + 1 ≤ B.1; omega) (by show 2000 + 401 ≤ B.2; omega) (by decide) (fun h22 f22 g22 => ?_)
  have o := (g22 y (by omega)).trans o
  have k1 := (g22 _ (by omega)).trans k1
  refine bg_putfield rfl rfl o (by rfl) ⟨rfl, rfl⟩ (by rfl) (fun h24 f24 g24 => ?_)
  have o := f24
  have k1 := (g24 _ (by omega)).trans k1
  have k2 := (g24 _ (by omega)).trans f22
  refine bg_aload0 rfl ?_
  refine bg_sipush rfl ?_
  refine bg_newarray_int rfl (N := 401) (by decide) (by decide) (by show 2 + 1 ≤ B.1; omega) (by show 2401 + 401 ≤ B.2; omega) (by decide) (fun h31 f31 g31 => ?_)
  have o := (g31 y (by omega)).trans o
  have k1 := (g31 _ (by omega)).trans k1
  have k2 := (g31 _ (by omega)).trans k2
  refine bg_putfield rfl rfl o (by rfl) ⟨rfl, rfl⟩ (by rfl) (fun h33 f33 g33 => ?_)
  have o := f33
  have k1 := (g33 _ (by omega)).trans k1
  have k2 := (g33 _ (by omega)).trans k2
  have k3 := (g33 _ (by omega)).trans f31
  refine bg_aload0 rfl ?_
  refine bg_sipush rfl ?_
  refine bg_newarray_int rfl (N := 401) (by decide) (by decide) (by show 3 + 1 ≤ B.1; omega) (by show 2802 + 401 ≤ B.2; omega) (by decide) (fun h40 f40 g40 => ?_)
  have o := (g40 y (by omega)).trans o
  have k1 := (g40 _ (by omega)).trans k1
  have k2 := (g40 _ (by omega)).trans k2
  have k3 := (g40 _ (by omega)).trans k3
  refine bg_putfield rfl rfl o (by rfl) ⟨rfl, rfl⟩ (by rfl) (fun h42 f42 g42 => ?_)
  have o := f42
  have k1 := (g42 _ (by omega)).trans k1
  have k2 := (g42 _ (by omega)).trans k2
  have k3 := (g42 _ (by omega)).trans k3
  have k4 := (g42 _ (by omega)).trans f40
  refine bg_aload0 rfl ?_
  refine bg_sipush rfl ?_
  refine bg_newarray_int rfl (N := 401) (by decide) (by decide) (by show 4 + 1 ≤ B.1; omega) (by show 3203 + 401 ≤ B.2; omega) (by decide) (fun h49 f49 g49 => ?_)
  have o := (g49 y (by omega)).trans o
  have k1 := (g49 _ (by omega)).trans k1
  have k2 := (g49 _ (by omega)).trans k2
  have k3 := (g49 _ (by omega)).trans k3
  have k4 := (g49 _ (by omega)).trans k4
  refine bg_putfield rfl rfl o (by rfl) ⟨rfl, rfl⟩ (by rfl) (fun h51 f51 g51 => ?_)
  have o := f51
  have k1 := (g51 _ (by omega)).trans k1
  have k2 := (g51 _ (by omega)).trans k2
  have k3 := (g51 _ (by omega)).trans k3
  have k4 := (g51 _ (by omega)).trans k4
  have k5 := (g51 _ (by omega)).trans f49
  refine bg_aload0 rfl ?_
  refine bg_sipush rfl ?_
  refine bg_newarray_int rfl (N := 401) (by decide) (by decide) (by show 5 + 1 ≤ B.1; omega) (by show 3604 + 401 ≤ B.2; omega) (by decide) (fun h58 f58 g58 => ?_)
  have o := (g58 y (by omega)).trans o
  have k1 := (g58 _ (by omega)).trans k1
  have k2 := (g58 _ (by omega)).trans k2
  have k3 := (g58 _ (by omega)).trans k3
  have k4 := (g58 _ (by omega)).trans k4
  have k5 := (g58 _ (by omega)).trans k5
  refine bg_putfield rfl rfl o (by rfl) ⟨rfl, rfl⟩ (by rfl) (fun h60 f60 g60 => ?_)
  have o := f60
  have k1 := (g60 _ (by omega)).trans k1
  have k2 := (g60 _ (by omega)).trans k2
  have k3 := (g60 _ (by omega)).trans k3
  have k4 := (g60 _ (by omega)).trans k4
  have k5 := (g60 _ (by omega)).trans k5
  have k6 := (g60 _ (by omega)).trans f58
  refine bg_aload0 rfl ?_
  refine bg_new rfl rfl (by rfl) (by show 6 + 1 ≤ B.1; omega) (by show 4005 + 22 ≤ B.2; omega) (fun h64 f64 g64 => ?_)
  have o := (g64 y (by omega)).trans o
  have k1 := (g64 _ (by omega)).trans k1
  have k2 := (g64 _ (by omega)).trans k2
  have k3 := (g64 _ (by omega)).trans k3
  have k4 := (g64 _ (by omega)).trans k4
  have k5 := (g64 _ (by omega)).trans k5
  have k6 := (g64 _ (by omega)).trans k6
  refine bg_dup rfl rfl ?_
  refine bg_spec0B (b := (15, 1387)) rfl rfl rfl rfl (by show 7 + 15 ≤ B.1; omega) (by show 4027 + 1387 ≤ B.2; omega) ?_
  refine ri_plan f64 (by omega) (Nat.le_refl _) (Nat.le_refl _) (fun hI0 hP gI0 => bk_Kv ?_)
  have o := (gI0 y (by omega)).trans o
  have k1 := (gI0 _ (by omega)).trans k1
  have k2 := (gI0 _ (by omega)).trans k2
  have k3 := (gI0 _ (by omega)).trans k3
  have k4 := (gI0 _ (by omega)).trans k4
  have k5 := (gI0 _ (by omega)).trans k5
  have k6 := (gI0 _ (by omega)).trans k6
  refine bg_putfield rfl rfl o (by rfl) ⟨rfl, rfl⟩ (by rfl) (fun h71 f71 g71 => ?_)
  have o := f71
  have k1 := (g71 _ (by omega)).trans k1
  have k2 := (g71 _ (by omega)).trans k2
  have k3 := (g71 _ (by omega)).trans k3
  have k4 := (g71 _ (by omega)).trans k4
  have k5 := (g71 _ (by omega)).trans k5
  have k6 := (g71 _ (by omega)).trans k6
  have hP := hP.kp (fr.one g71) (by omega)
  refine bg_aload0 rfl ?_
  refine bg_aload0 rfl ?_
  refine bg_getfield rfl rfl o (by rfl) ?_
  refine bg_putfield rfl rfl o (by rfl) ⟨rfl, rfl⟩ (by rfl) (fun h79 f79 g79 => ?_)
  have o := f79
  have k1 := (g79 _ (by omega)).trans k1
  have k2 := (g79 _ (by omega)).trans k2
  have k3 := (g79 _ (by omega)).trans k3
  have k4 := (g79 _ (by omega)).trans k4
  have k5 := (g79 _ (by omega)).trans k5
  have k6 := (g79 _ (by omega)).trans k6
  have hP := hP.kp (fr.one g79) (by omega)
  refine bg_aload0 rfl ?_
  refine bg_new rfl rfl (by rfl) (by show 22 + 1 ≤ B.1; omega) (by show 5414 + 23 ≤ B.2; omega) (fun h83 f83 g83 => ?_)
  have o := (g83 y (by omega)).trans o
  have k1 := (g83 _ (by omega)).trans k1
  have k2 := (g83 _ (by omega)).trans k2
  have k3 := (g83 _ (by omega)).trans k3
  have k4 := (g83 _ (by omega)).trans k4
  have k5 := (g83 _ (by omega)).trans k5
  have k6 := (g83 _ (by omega)).trans k6
  have hP := hP.kp (fr.one g83) (by omega)
  refine bg_dup rfl rfl ?_
  refine bg_aload0 rfl ?_
  refine bg_spec1B (b := (13, 613)) rfl rfl rfl rfl (by show 23 + 13 ≤ B.1; omega) (by show 5437 + 613 ≤ B.2; omega) ?_
  refine ri_state f83 (by omega) (Nat.le_refl _) (Nat.le_refl _) (fun hI1 hR gI1 => bk_Kv ?_)
  have o := (gI1 y (by omega)).trans o
  have k1 := (gI1 _ (by omega)).trans k1
  have k2 := (gI1 _ (by omega)).trans k2
  have k3 := (gI1 _ (by omega)).trans k3
  have k4 := (gI1 _ (by omega)).trans k4
  have k5 := (gI1 _ (by omega)).trans k5
  have k6 := (gI1 _ (by omega)).trans k6
  have hP := hP.kp gI1 (by omega)
  refine bg_putfield rfl rfl o (by rfl) ⟨rfl, rfl⟩ (by rfl) (fun h91 f91 g91 => ?_)
  have o := f91
  have k1 := (g91 _ (by omega)).trans k1
  have k2 := (g91 _ (by omega)).trans k2
  have k3 := (g91 _ (by omega)).trans k3
  have k4 := (g91 _ (by omega)).trans k4
  have k5 := (g91 _ (by omega)).trans k5
  have k6 := (g91 _ (by omega)).trans k6
  have hP := hP.kp (fr.one g91) (by omega)
  have hR := hR.kp (fr.one g91) (by omega)
  refine bg_aload0 rfl ?_
  refine bg_new rfl rfl (by rfl) (by show 36 + 1 ≤ B.1; omega) (by show 6050 + 23 ≤ B.2; omega) (fun h95 f95 g95 => ?_)
  have o := (g95 y (by omega)).trans o
  have k1 := (g95 _ (by omega)).trans k1
  have k2 := (g95 _ (by omega)).trans k2
  have k3 := (g95 _ (by omega)).trans k3
  have k4 := (g95 _ (by omega)).trans k4
  have k5 := (g95 _ (by omega)).trans k5
  have k6 := (g95 _ (by omega)).trans k6
  have hP := hP.kp (fr.one g95) (by omega)
  have hR := hR.kp (fr.one g95) (by omega)
  refine bg_dup rfl rfl ?_
  refine bg_aload0 rfl ?_
  refine bg_spec1B (b := (13, 613)) rfl rfl rfl rfl (by show 37 + 13 ≤ B.1; omega) (by show 6073 + 613 ≤ B.2; omega) ?_
  refine ri_state f95 (by omega) (Nat.le_refl _) (Nat.le_refl _) (fun hI2 hA gI2 => bk_Kv ?_)
  have o := (gI2 y (by omega)).trans o
  have k1 := (gI2 _ (by omega)).trans k1
  have k2 := (gI2 _ (by omega)).trans k2
  have k3 := (gI2 _ (by omega)).trans k3
  have k4 := (gI2 _ (by omega)).trans k4
  have k5 := (gI2 _ (by omega)).trans k5
  have k6 := (gI2 _ (by omega)).trans k6
  have hP := hP.kp gI2 (by omega)
  have hR := hR.kp gI2 (by omega)
  refine bg_putfield rfl rfl o (by rfl) ⟨rfl, rfl⟩ (by rfl) (fun h103 f103 g103 => ?_)
  have o := f103
  have k1 := (g103 _ (by omega)).trans k1
  have k2 := (g103 _ (by omega)).trans k2
  have k3 := (g103 _ (by omega)).trans k3
  have k4 := (g103 _ (by omega)).trans k4
  have k5 := (g103 _ (by omega)).trans k5
  have k6 := (g103 _ (by omega)).trans k6
  have hP := hP.kp (fr.one g103) (by omega)
  have hR := hR.kp (fr.one g103) (by omega)
  have hA := hA.kp (fr.one g103) (by omega)
  refine bg_aload0 rfl ?_
  refine bg_getfield rfl rfl o (by rfl) ?_
  refine bg_virt0 rfl rfl rfl rfl ⟨_, hR.1⟩ ?_
  refine rb_begin (u := y + 7) (v := y + 7) (J := J0F) (P := fun _ => []) (S := S0F) hR hP o (by omega) (by omega) RP_0 (Nat.zero_le _) (Nat.zero_le _) (Nat.zero_le _) (fun k hk => ?_) rfl (fun hZ I2 A2 hR hr gZ => bk_Kv ?_)
  · have : k = 0 ∨ k = 1 ∨ k = 2 := by omega
    rcases this with rfl | rfl | rfl <;> rfl
  have o := (gZ y (by omega)).trans o
  have k1 := (gZ _ (by omega)).trans k1
  have k2 := (gZ _ (by omega)).trans k2
  have k3 := (gZ _ (by omega)).trans k3
  have k4 := (gZ _ (by omega)).trans k4
  have k5 := (gZ _ (by omega)).trans k5
  have k6 := (gZ _ (by omega)).trans k6
  have hP := hP.kp gZ (by omega)
  have hA := hA.kp gZ (by omega)
  refine bg_ret rfl rfl ?_
  refine hQ _ ⟨⟨_, k1, fun i hi => absurd hi (Nat.not_lt_zero i)⟩, ⟨_, _, _, _, _, k2, k3, k4, k5, k6⟩, ⟨_, _, hA⟩, ⟨_, _, hR, RR_0 hr, hP, o, RP_0, SH_n, IV_n, by omega, by omega, fun k hk => absurd hk (Nat.not_lt_zero k)⟩, rfl, Nat.zero_le _, by omega⟩ (fun q hq => ?_)
  rw [gZ q (by omega), g103 q (by omega), gI2 q (by omega), g95 q (by omega), g91 q (by omega), gI1 q (by omega), g83 q (by omega), g79 q (by omega), g71 q (by omega), gI0 q (by omega), g64 q (by omega), g60 q (by omega), g58 q (by omega), g51 q (by omega), g49 q (by omega), g42 q (by omega), g40 q (by omega), g33 q (by omega), g31 q (by omega), g24 q (by omega), g22 q (by omega), g15 q (by omega), g10 q (by omega), g8 q (by omega)]
end RB
-- 50 6686
