/-! THE REFERENCE: a Plan, a State and the model made; a State begins. Printed by wip/whole/mk98b.py. -/
section RB
variable {V : bk_V} {d n : Nat} {B : Nat × Nat} {Q : bk_R → bk_H → Nat → Prop} {h : bk_H} {r y u v : Nat} {P : Nat → bT} {S : bS} {I J K : rI} {A C : rA} {bs : bT} {cs : Nat × Nat}
def K0F : rI := fun _ => 0
def C0F : rA := fun _ _ => 0
theorem ri_plan (o : h u = some (.inr (11, [.int 0, .null, .null, .int 0, .null, .null, .int 0, .null, .null, .null, .int 0, .int 0, .null, .null, .null, .null, .null, .null, .null, .int 0, .null, .int 0]))) (hn : n = u + 1) (hB1 : 15 ≤ B.1) (hB2 : 1387 ≤ B.2) (hQ : ∀ h', PO h' u K0F C0F → fr h h' u (u + 16) → Q (.inl none) h' (n + 15)) : bk_wp V (d + 1) 119 [.ref u] h n B Q := by
  subst hn
  refine bg_in rfl rfl ?_
  refine bg_aload0 rfl ?_
  refine bg_objinit rfl rfl rfl ?_
  refine bg_aload0 rfl ?_
  refine bg_iconst rfl ?_
  refine bg_newarray_int rfl (N := 5) (by decide) (by decide) (by show 0 + 1 ≤ B.1; omega) (by show 0 + 5 ≤ B.2; omega) (by decide) (fun h6 f6 g6 => ?_)
  have o := (g6 u (by omega)).trans o
  refine bg_putfield rfl rfl o (by rfl) ⟨rfl, rfl⟩ (by rfl) (fun h8 f8 g8 => ?_)
  have o := f8
  have k1 := (g8 _ (by omega)).trans f6
  refine bg_aload0 rfl ?_
  refine bg_iconst rfl ?_
  refine bg_newarray_int rfl (N := 5) (by decide) (by decide) (by show 1 + 1 ≤ B.1; omega) (by show 5 + 5 ≤ B.2; omega) (by decide) (fun h13 f13 g13 => ?_)
  have o := (g13 u (by omega)).trans o
  have k1 := (g13 _ (by omega)).trans k1
  refine bg_putfield rfl rfl o (by rfl) ⟨rfl, rfl⟩ (by rfl) (fun h15 f15 g15 => ?_)
  have o := f15
  have k1 := (g15 _ (by omega)).trans k1
  have k2 := (g15 _ (by omega)).trans f13
  refine bg_aload0 rfl ?_
  refine bg_bipush rfl ?_
  refine bg_newarray_int rfl (N := 6) (by decide) (by decide) (by show 2 + 1 ≤ B.1; omega) (by show 10 + 6 ≤ B.2; omega) (by decide) (fun h21 f21 g21 => ?_)
  have o := (g21 u (by omega)).trans o
  have k1 := (g21 _ (by omega)).trans k1
  have k2 := (g21 _ (by omega)).trans k2
  refine bg_putfield rfl rfl o (by rfl) ⟨rfl, rfl⟩ (by rfl) (fun h23 f23 g23 => ?_)
  have o := f23
  have k1 := (g23 _ (by omega)).trans k1
  have k2 := (g23 _ (by omega)).trans k2
  have k3 := (g23 _ (by omega)).trans f21
  refine bg_aload0 rfl ?_
  refine bg_bipush rfl ?_
  refine bg_newarray_int rfl (N := 6) (by decide) (by decide) (by show 3 + 1 ≤ B.1; omega) (by show 16 + 6 ≤ B.2; omega) (by decide) (fun h29 f29 g29 => ?_)
  have o := (g29 u (by omega)).trans o
  have k1 := (g29 _ (by omega)).trans k1
  have k2 := (g29 _ (by omega)).trans k2
  have k3 := (g29 _ (by omega)).trans k3
  refine bg_putfield rfl rfl o (by rfl) ⟨rfl, rfl⟩ (by rfl) (fun h31 f31 g31 => ?_)
  have o := f31
  have k1 := (g31 _ (by omega)).trans k1
  have k2 := (g31 _ (by omega)).trans k2
  have k3 := (g31 _ (by omega)).trans k3
  have k4 := (g31 _ (by omega)).trans f29
  refine bg_aload0 rfl ?_
  refine bg_bipush rfl ?_
  refine bg_newarray_int rfl (N := 6) (by decide) (by decide) (by show 4 + 1 ≤ B.1; omega) (by show 22 + 6 ≤ B.2; omega) (by decide) (fun h37 f37 g37 => ?_)
  have o := (g37 u (by omega)).trans o
  have k1 := (g37 _ (by omega)).trans k1
  have k2 := (g37 _ (by omega)).trans k2
  have k3 := (g37 _ (by omega)).trans k3
  have k4 := (g37 _ (by omega)).trans k4
  refine bg_putfield rfl rfl o (by rfl) ⟨rfl, rfl⟩ (by rfl) (fun h39 f39 g39 => ?_)
  have o := f39
  have k1 := (g39 _ (by omega)).trans k1
  have k2 := (g39 _ (by omega)).trans k2
  have k3 := (g39 _ (by omega)).trans k3
  have k4 := (g39 _ (by omega)).trans k4
  have k5 := (g39 _ (by omega)).trans f37
  refine bg_aload0 rfl ?_
  refine bg_bipush rfl ?_
  refine bg_newarray_int rfl (N := 6) (by decide) (by decide) (by show 5 + 1 ≤ B.1; omega) (by show 28 + 6 ≤ B.2; omega) (by decide) (fun h45 f45 g45 => ?_)
  have o := (g45 u (by omega)).trans o
  have k1 := (g45 _ (by omega)).trans k1
  have k2 := (g45 _ (by omega)).trans k2
  have k3 := (g45 _ (by omega)).trans k3
  have k4 := (g45 _ (by omega)).trans k4
  have k5 := (g45 _ (by omega)).trans k5
  refine bg_putfield rfl rfl o (by rfl) ⟨rfl, rfl⟩ (by rfl) (fun h47 f47 g47 => ?_)
  have o := f47
  have k1 := (g47 _ (by omega)).trans k1
  have k2 := (g47 _ (by omega)).trans k2
  have k3 := (g47 _ (by omega)).trans k3
  have k4 := (g47 _ (by omega)).trans k4
  have k5 := (g47 _ (by omega)).trans k5
  have k6 := (g47 _ (by omega)).trans f45
  refine bg_aload0 rfl ?_
  refine bg_bipush rfl ?_
  refine bg_newarray_int rfl (N := 6) (by decide) (by decide) (by show 6 + 1 ≤ B.1; omega) (by show 34 + 6 ≤ B.2; omega) (by decide) (fun h53 f53 g53 => ?_)
  have o := (g53 u (by omega)).trans o
  have k1 := (g53 _ (by omega)).trans k1
  have k2 := (g53 _ (by omega)).trans k2
  have k3 := (g53 _ (by omega)).trans k3
  have k4 := (g53 _ (by omega)).trans k4
  have k5 := (g53 _ (by omega)).trans k5
  have k6 := (g53 _ (by omega)).trans k6
  refine bg_putfield rfl rfl o (by rfl) ⟨rfl, rfl⟩ (by rfl) (fun h55 f55 g55 => ?_)
  have o := f55
  have k1 := (g55 _ (by omega)).trans k1
  have k2 := (g55 _ (by omega)).trans k2
  have k3 := (g55 _ (by omega)).trans k3
  have k4 := (g55 _ (by omega)).trans k4
  have k5 := (g55 _ (by omega)).trans k5
  have k6 := (g55 _ (by omega)).trans k6
  have k7 := (g55 _ (by omega)).trans f53
  refine bg_aload0 rfl ?_
  refine bg_bipush rfl ?_
  refine bg_newarray_int rfl (N := 24) (by decide) (by decide) (by show 7 + 1 ≤ B.1; omega) (by show 40 + 24 ≤ B.2; omega) (by decide) (fun h61 f61 g61 => ?_)
  have o := (g61 u (by omega)).trans o
  have k1 := (g61 _ (by omega)).trans k1
  have k2 := (g61 _ (by omega)).trans k2
  have k3 := (g61 _ (by omega)).trans k3
  have k4 := (g61 _ (by omega)).trans k4
  have k5 := (g61 _ (by omega)).trans k5
  have k6 := (g61 _ (by omega)).trans k6
  have k7 := (g61 _ (by omega)).trans k7
  refine bg_putfield rfl rfl o (by rfl) ⟨rfl, rfl⟩ (by rfl) (fun h63 f63 g63 => ?_)
  have o := f63
  have k1 := (g63 _ (by omega)).trans k1
  have k2 := (g63 _ (by omega)).trans k2
  have k3 := (g63 _ (by omega)).trans k3
  have k4 := (g63 _ (by omega)).trans k4
  have k5 := (g63 _ (by omega)).trans k5
  have k6 := (g63 _ (by omega)).trans k6
  have k7 := (g63 _ (by omega)).trans k7
  have k8 := (g63 _ (by omega)).trans f61
  refine bg_aload0 rfl ?_
  refine bg_bipush rfl ?_
  refine bg_newarray_int rfl (N := 24) (by decide) (by decide) (by show 8 + 1 ≤ B.1; omega) (by show 64 + 24 ≤ B.2; omega) (by decide) (fun h69 f69 g69 => ?_)
  have o := (g69 u (by omega)).trans o
  have k1 := (g69 _ (by omega)).trans k1
  have k2 := (g69 _ (by omega)).trans k2
  have k3 := (g69 _ (by omega)).trans k3
  have k4 := (g69 _ (by omega)).trans k4
  have k5 := (g69 _ (by omega)).trans k5
  have k6 := (g69 _ (by omega)).trans k6
  have k7 := (g69 _ (by omega)).trans k7
  have k8 := (g69 _ (by omega)).trans k8
  refine bg_putfield rfl rfl o (by rfl) ⟨rfl, rfl⟩ (by rfl) (fun h71 f71 g71 => ?_)
  have o := f71
  have k1 := (g71 _ (by omega)).trans k1
  have k2 := (g71 _ (by omega)).trans k2
  have k3 := (g71 _ (by omega)).trans k3
  have k4 := (g71 _ (by omega)).trans k4
  have k5 := (g71 _ (by omega)).trans k5
  have k6 := (g71 _ (by omega)).trans k6
  have k7 := (g71 _ (by omega)).trans k7
  have k8 := (g71 _ (by omega)).trans k8
  have k9 := (g71 _ (by omega)).trans f69
  refine bg_aload0 rfl ?_
  refine bg_bipush rfl ?_
  refine bg_newarray_int rfl (N := 24) (by decide) (by decide) (by show 9 + 1 ≤ B.1; omega) (by show 88 + 24 ≤ B.2; omega) (by decide) (fun h77 f77 g77 => ?_)
  have o := (g77 u (by omega)).trans o
  have k1 := (g77 _ (by omega)).trans k1
  have k2 := (g77 _ (by omega)).trans k2
  have k3 := (g77 _ (by omega)).trans k3
  have k4 := (g77 _ (by omega)).trans k4
  have k5 := (g77 _ (by omega)).trans k5
  have k6 := (g77 _ (by omega)).trans k6
  have k7 := (g77 _ (by omega)).trans k7
  have k8 := (g77 _ (by omega)).trans k8
  have k9 := (g77 _ (by omega)).trans k9
  refine bg_putfield rfl rfl o (by rfl) ⟨rfl, rfl⟩ (by rfl) (fun h79 f79 g79 => ?_)
  have o := f79
  have k1 := (g79 _ (by omega)).trans k1
  have k2 := (g79 _ (by omega)).trans k2
  have k3 := (g79 _ (by omega)).trans k3
  have k4 := (g79 _ (by omega)).trans k4
  have k5 := (g79 _ (by omega)).trans k5
  have k6 := (g79 _ (by omega)).trans k6
  have k7 := (g79 _ (by omega)).trans k7
  have k8 := (g79 _ (by omega)).trans k8
  have k9 := (g79 _ (by omega)).trans k9
  have k10 := (g79 _ (by omega)).trans f77
  refine bg_aload0 rfl ?_
  refine bg_bipush rfl ?_
  refine bg_newarray_int rfl (N := 25) (by decide) (by decide) (by show 10 + 1 ≤ B.1; omega) (by show 112 + 25 ≤ B.2; omega) (by decide) (fun h85 f85 g85 => ?_)
  have o := (g85 u (by omega)).trans o
  have k1 := (g85 _ (by omega)).trans k1
  have k2 := (g85 _ (by omega)).trans k2
  have k3 := (g85 _ (by omega)).trans k3
  have k4 := (g85 _ (by omega)).trans k4
  have k5 := (g85 _ (by omega)).trans k5
  have k6 := (g85 _ (by omega)).trans k6
  have k7 := (g85 _ (by omega)).trans k7
  have k8 := (g85 _ (by omega)).trans k8
  have k9 := (g85 _ (by omega)).trans k9
  have k10 := (g85 _ (by omega)).trans k10
  refine bg_putfield rfl rfl o (by rfl) ⟨rfl, rfl⟩ (by rfl) (fun h87 f87 g87 => ?_)
  have o := f87
  have k1 := (g87 _ (by omega)).trans k1
  have k2 := (g87 _ (by omega)).trans k2
  have k3 := (g87 _ (by omega)).trans k3
  have k4 := (g87 _ (by omega)).trans k4
  have k5 := (g87 _ (by omega)).trans k5
  have k6 := (g87 _ (by omega)).trans k6
  have k7 := (g87 _ (by omega)).trans k7
  have k8 := (g87 _ (by omega)).trans k8
  have k9 := (g87 _ (by omega)).trans k9
  have k10 := (g87 _ (by omega)).trans k10
  have k11 := (g87 _ (by omega)).trans f85
  refine bg_aload0 rfl ?_
  refine bg_bipush rfl ?_
  refine bg_newarray_int rfl (N := 25) (by decide) (by decide) (by show 11 + 1 ≤ B.1; omega) (by show 137 + 25 ≤ B.2; omega) (by decide) (fun h93 f93 g93 => ?_)
  have o := (g93 u (by omega)).trans o
  have k1 := (g93 _ (by omega)).trans k1
  have k2 := (g93 _ (by omega)).trans k2
  have k3 := (g93 _ (by omega)).trans k3
  have k4 := (g93 _ (by omega)).trans k4
  have k5 := (g93 _ (by omega)).trans k5
  have k6 := (g93 _ (by omega)).trans k6
  have k7 := (g93 _ (by omega)).trans k7
  have k8 := (g93 _ (by omega)).trans k8
  have k9 := (g93 _ (by omega)).trans k9
  have k10 := (g93 _ (by omega)).trans k10
  have k11 := (g93 _ (by omega)).trans k11
  refine bg_putfield rfl rfl o (by rfl) ⟨rfl, rfl⟩ (by rfl) (fun h95 f95 g95 => ?_)
  have o := f95
  have k1 := (g95 _ (by omega)).trans k1
  have k2 := (g95 _ (by omega)).trans k2
  have k3 := (g95 _ (by omega)).trans k3
  have k4 := (g95 _ (by omega)).trans k4
  have k5 := (g95 _ (by omega)).trans k5
  have k6 := (g95 _ (by omega)).trans k6
  have k7 := (g95 _ (by omega)).trans k7
  have k8 := (g95 _ (by omega)).trans k8
  have k9 := (g95 _ (by omega)).trans k9
  have k10 := (g95 _ (by omega)).trans k10
  have k11 := (g95 _ (by omega)).trans k11
  have k12 := (g95 _ (by omega)).trans f93
  refine bg_aload0 rfl ?_
  refine bg_bipush rfl ?_
  refine bg_newarray_int rfl (N := 25) (by decide) (by decide) (by show 12 + 1 ≤ B.1; omega) (by show 162 + 25 ≤ B.2; omega) (by decide) (fun h101 f101 g101 => ?_)
  have o := (g101 u (by omega)).trans o
  have k1 := (g101 _ (by omega)).trans k1
  have k2 := (g101 _ (by omega)).trans k2
  have k3 := (g101 _ (by omega)).trans k3
  have k4 := (g101 _ (by omega)).trans k4
  have k5 := (g101 _ (by omega)).trans k5
  have k6 := (g101 _ (by omega)).trans k6
  have k7 := (g101 _ (by omega)).trans k7
  have k8 := (g101 _ (by omega)).trans k8
  have k9 := (g101 _ (by omega)).trans k9
  have k10 := (g101 _ (by omega)).trans k10
  have k11 := (g101 _ (by omega)).trans k11
  have k12 := (g101 _ (by omega)).trans k12
  refine bg_putfield rfl rfl o (by rfl) ⟨rfl, rfl⟩ (by rfl) (fun h103 f103 g103 => ?_)
  have o := f103
  have k1 := (g103 _ (by omega)).trans k1
  have k2 := (g103 _ (by omega)).trans k2
  have k3 := (g103 _ (by omega)).trans k3
  have k4 := (g103 _ (by omega)).trans k4
  have k5 := (g103 _ (by omega)).trans k5
  have k6 := (g103 _ (by omega)).trans k6
  have k7 := (g103 _ (by omega)).trans k7
  have k8 := (g103 _ (by omega)).trans k8
  have k9 := (g103 _ (by omega)).trans k9
  have k10 := (g103 _ (by omega)).trans k10
  have k11 := (g103 _ (by omega)).trans k11
  have k12 := (g103 _ (by omega)).trans k12
  have k13 := (g103 _ (by omega)).trans f101
  refine bg_aload0 rfl ?_
  refine bg_sipush rfl ?_
  refine bg_newarray_int rfl (N := 800) (by decide) (by decide) (by show 13 + 1 ≤ B.1; omega) (by show 187 + 800 ≤ B.2; omega) (by decide) (fun h110 f110 g110 => ?_)
  have o := (g110 u (by omega)).trans o
  have k1 := (g110 _ (by omega)).trans k1
  have k2 := (g110 _ (by omega)).trans k2
  have k3 := (g110 _ (by omega)).trans k3
  have k4 := (g110 _ (by omega)).trans k4
  have k5 := (g110 _ (by omega)).trans k5
  have k6 := (g110 _ (by omega)).trans k6
  have k7 := (g110 _ (by omega)).trans k7
  have k8 := (g110 _ (by omega)).trans k8
  have k9 := (g110 _ (by omega)).trans k9
  have k10 := (g110 _ (by omega)).trans k10
  have k11 := (g110 _ (by omega)).trans k11
  have k12 := (g110 _ (by omega)).trans k12
  have k13 := (g110 _ (by omega)).trans k13
  refine bg_putfield rfl rfl o (by rfl) ⟨rfl, rfl⟩ (by rfl) (fun h112 f112 g112 => ?_)
  have o := f112
  have k1 := (g112 _ (by omega)).trans k1
  have k2 := (g112 _ (by omega)).trans k2
  have k3 := (g112 _ (by omega)).trans k3
  have k4 := (g112 _ (by omega)).trans k4
  have k5 := (g112 _ (by omega)).trans k5
  have k6 := (g112 _ (by omega)).trans k6
  have k7 := (g112 _ (by omega)).trans k7
  have k8 := (g112 _ (by omega)).trans k8
  have k9 := (g112 _ (by omega)).trans k9
  have k10 := (g112 _ (by omega)).trans k10
  have k11 := (g112 _ (by omega)).trans k11
  have k12 := (g112 _ (by omega)).trans k12
  have k13 := (g112 _ (by omega)).trans k13
  have k14 := (g112 _ (by omega)).trans f110
  refine bg_aload0 rfl ?_
  refine bg_sipush rfl ?_
  refine bg_newarray_int rfl (N := 400) (by decide) (by decide) (by show 14 + 1 ≤ B.1; omega) (by show 987 + 400 ≤ B.2; omega) (by decide) (fun h119 f119 g119 => ?_)
  have o := (g119 u (by omega)).trans o
  have k1 := (g119 _ (by omega)).trans k1
  have k2 := (g119 _ (by omega)).trans k2
  have k3 := (g119 _ (by omega)).trans k3
  have k4 := (g119 _ (by omega)).trans k4
  have k5 := (g119 _ (by omega)).trans k5
  have k6 := (g119 _ (by omega)).trans k6
  have k7 := (g119 _ (by omega)).trans k7
  have k8 := (g119 _ (by omega)).trans k8
  have k9 := (g119 _ (by omega)).trans k9
  have k10 := (g119 _ (by omega)).trans k10
  have k11 := (g119 _ (by omega)).trans k11
  have k12 := (g119 _ (by omega)).trans k12
  have k13 := (g119 _ (by omega)).trans k13
  have k14 := (g119 _ (by omega)).trans k14
  refine bg_putfield rfl rfl o (by rfl) ⟨rfl, rfl⟩ (by rfl) (fun h121 f121 g121 => ?_)
  have o := f121
  have k1 := (g121 _ (by omega)).trans k1
  have k2 := (g121 _ (by omega)).trans k2
  have k3 := (g121 _ (by omega)).trans k3
  have k4 := (g121 _ (by omega)).trans k4
  have k5 := (g121 _ (by omega)).trans k5
  have k6 := (g121 _ (by omega)).trans k6
  have k7 := (g121 _ (by omega)).trans k7
  have k8 := (g121 _ (by omega)).trans k8
  have k9 := (g121 _ (by omega)).trans k9
  have k10 := (g121 _ (by omega)).trans k10
  have k11 := (g121 _ (by omega)).trans k11
  have k12 := (g121 _ (by omega)).trans k12
  have k13 := (g121 _ (by omega)).trans k13
  have k14 := (g121 _ (by omega)).trans k14
  have k15 := (g121 _ (by omega)).trans f119
  refine bg_ret rfl rfl ?_
  refine hQ _ ⟨o, k1, k2, k3, k4, k5, k6, k7, k8, k9, k10, k11, k12, k13, k14, k15⟩ (fun q hq => ?_)
  rw [g121 q (by omega), g119 q (by omega), g112 q (by omega), g110 q (by omega), g103 q (by omega), g101 q (by omega), g95 q (by omega), g93 q (by omega), g87 q (by omega), g85 q (by omega), g79 q (by omega), g77 q (by omega), g71 q (by omega), g69 q (by omega), g63 q (by omega), g61 q (by omega), g55 q (by omega), g53 q (by omega), g47 q (by omega), g45 q (by omega), g39 q (by omega), g37 q (by omega), g31 q (by omega), g29 q (by omega), g23 q (by omega), g21 q (by omega), g15 q (by omega), g13 q (by omega), g8 q (by omega), g6 q (by omega)]
def I0F : rI := fun k => if k = 1 then 2 else if k = 2 then 3 else if k = 8 then -1 else 0
theorem ri_state (o : h r = some (.inr (12, [.int 0, .int 0, .int 0, .int 0, .int 0, .int 0, .null, .null, .null, .null, .null, .int 0, .null, .null, .null, .null, .int 0, .null, .null, .null, .int 0, .null, .null]))) (hn : n = r + 1) (hB1 : 13 ≤ B.1) (hB2 : 613 ≤ B.2) (hQ : ∀ h', RO h' r y I0F C0F → fr h h' r (r + 14) → Q (.inl none) h' (n + 13)) : bk_wp V (d + 1) 120 [.ref r, .ref y] h n B Q := by
  subst hn
  refine bg_in rfl rfl ?_
  refine bg_aload0 rfl ?_
  refine bg_aload1 rfl ?_
  refine bg_putfield rfl rfl o (by rfl) ⟨rfl, rfl⟩ (by rfl) (fun h2 f2 g2 => ?_)
  have o := f2
  refine bg_aload0 rfl ?_
  refine bg_objinit rfl rfl rfl ?_
  refine bg_aload0 rfl ?_
  refine bg_iconst rfl ?_
  refine bg_putfield rfl rfl o (by rfl) ⟨rfl, rfl⟩ (by rfl) (fun h11 f11 g11 => ?_)
  have o := f11
  refine bg_aload0 rfl ?_
  refine bg_iconst rfl ?_
  refine bg_putfield rfl rfl o (by rfl) ⟨rfl, rfl⟩ (by rfl) (fun h16 f16 g16 => ?_)
  have o := f16
  refine bg_aload0 rfl ?_
  refine bg_iconst rfl ?_
  refine bg_newarray_int rfl (N := 5) (by decide) (by decide) (by show 0 + 1 ≤ B.1; omega) (by show 0 + 5 ≤ B.2; omega) (by decide) (fun h21 f21 g21 => ?_)
  have o := (g21 r (by omega)).trans o
  refine bg_putfield rfl rfl o (by rfl) ⟨rfl, rfl⟩ (by rfl) (fun h23 f23 g23 => ?_)
  have o := f23
  have k1 := (g23 _ (by omega)).trans f21
  refine bg_aload0 rfl ?_
  refine bg_iconst rfl ?_
  refine bg_newarray_int rfl (N := 5) (by decide) (by decide) (by show 1 + 1 ≤ B.1; omega) (by show 5 + 5 ≤ B.2; omega) (by decide) (fun h28 f28 g28 => ?_)
  have o := (g28 r (by omega)).trans o
  have k1 := (g28 _ (by omega)).trans k1
  refine bg_putfield rfl rfl o (by rfl) ⟨rfl, rfl⟩ (by rfl) (fun h30 f30 g30 => ?_)
  have o := f30
  have k1 := (g30 _ (by omega)).trans k1
  have k2 := (g30 _ (by omega)).trans f28
  refine bg_aload0 rfl ?_
  refine bg_iconst rfl ?_
  refine bg_newarray_int rfl (N := 5) (by decide) (by decide) (by show 2 + 1 ≤ B.1; omega) (by show 10 + 5 ≤ B.2; omega) (by decide) (fun h35 f35 g35 => ?_)
  have o := (g35 r (by omega)).trans o
  have k1 := (g35 _ (by omega)).trans k1
  have k2 := (g35 _ (by omega)).trans k2
  refine bg_putfield rfl rfl o (by rfl) ⟨rfl, rfl⟩ (by rfl) (fun h37 f37 g37 => ?_)
  have o := f37
  have k1 := (g37 _ (by omega)).trans k1
  have k2 := (g37 _ (by omega)).trans k2
  have k3 := (g37 _ (by omega)).trans f35
  refine bg_aload0 rfl ?_
  refine bg_bipush rfl ?_
  refine bg_newarray_int rfl (N := 6) (by decide) (by decide) (by show 3 + 1 ≤ B.1; omega) (by show 15 + 6 ≤ B.2; omega) (by decide) (fun h43 f43 g43 => ?_)
  have o := (g43 r (by omega)).trans o
  have k1 := (g43 _ (by omega)).trans k1
  have k2 := (g43 _ (by omega)).trans k2
  have k3 := (g43 _ (by omega)).trans k3
  refine bg_putfield rfl rfl o (by rfl) ⟨rfl, rfl⟩ (by rfl) (fun h45 f45 g45 => ?_)
  have o := f45
  have k1 := (g45 _ (by omega)).trans k1
  have k2 := (g45 _ (by omega)).trans k2
  have k3 := (g45 _ (by omega)).trans k3
  have k4 := (g45 _ (by omega)).trans f43
  refine bg_aload0 rfl ?_
  refine bg_bipush rfl ?_
  refine bg_newarray_int rfl (N := 6) (by decide) (by decide) (by show 4 + 1 ≤ B.1; omega) (by show 21 + 6 ≤ B.2; omega) (by decide) (fun h51 f51 g51 => ?_)
  have o := (g51 r (by omega)).trans o
  have k1 := (g51 _ (by omega)).trans k1
  have k2 := (g51 _ (by omega)).trans k2
  have k3 := (g51 _ (by omega)).trans k3
  have k4 := (g51 _ (by omega)).trans k4
  refine bg_putfield rfl rfl o (by rfl) ⟨rfl, rfl⟩ (by rfl) (fun h53 f53 g53 => ?_)
  have o := f53
  have k1 := (g53 _ (by omega)).trans k1
  have k2 := (g53 _ (by omega)).trans k2
  have k3 := (g53 _ (by omega)).trans k3
  have k4 := (g53 _ (by omega)).trans k4
  have k5 := (g53 _ (by omega)).trans f51
  refine bg_aload0 rfl ?_
  refine bg_bipush rfl ?_
  refine bg_newarray_int rfl (N := 30) (by decide) (by decide) (by show 5 + 1 ≤ B.1; omega) (by show 27 + 30 ≤ B.2; omega) (by decide) (fun h59 f59 g59 => ?_)
  have o := (g59 r (by omega)).trans o
  have k1 := (g59 _ (by omega)).trans k1
  have k2 := (g59 _ (by omega)).trans k2
  have k3 := (g59 _ (by omega)).trans k3
  have k4 := (g59 _ (by omega)).trans k4
  have k5 := (g59 _ (by omega)).trans k5
  refine bg_putfield rfl rfl o (by rfl) ⟨rfl, rfl⟩ (by rfl) (fun h61 f61 g61 => ?_)
  have o := f61
  have k1 := (g61 _ (by omega)).trans k1
  have k2 := (g61 _ (by omega)).trans k2
  have k3 := (g61 _ (by omega)).trans k3
  have k4 := (g61 _ (by omega)).trans k4
  have k5 := (g61 _ (by omega)).trans k5
  have k6 := (g61 _ (by omega)).trans f59
  refine bg_aload0 rfl ?_
  refine bg_bipush rfl ?_
  refine bg_newarray_int rfl (N := 30) (by decide) (by decide) (by show 6 + 1 ≤ B.1; omega) (by show 57 + 30 ≤ B.2; omega) (by decide) (fun h67 f67 g67 => ?_)
  have o := (g67 r (by omega)).trans o
  have k1 := (g67 _ (by omega)).trans k1
  have k2 := (g67 _ (by omega)).trans k2
  have k3 := (g67 _ (by omega)).trans k3
  have k4 := (g67 _ (by omega)).trans k4
  have k5 := (g67 _ (by omega)).trans k5
  have k6 := (g67 _ (by omega)).trans k6
  refine bg_putfield rfl rfl o (by rfl) ⟨rfl, rfl⟩ (by rfl) (fun h69 f69 g69 => ?_)
  have o := f69
  have k1 := (g69 _ (by omega)).trans k1
  have k2 := (g69 _ (by omega)).trans k2
  have k3 := (g69 _ (by omega)).trans k3
  have k4 := (g69 _ (by omega)).trans k4
  have k5 := (g69 _ (by omega)).trans k5
  have k6 := (g69 _ (by omega)).trans k6
  have k7 := (g69 _ (by omega)).trans f67
  refine bg_aload0 rfl ?_
  refine bg_bipush rfl ?_
  refine bg_newarray_int rfl (N := 30) (by decide) (by decide) (by show 7 + 1 ≤ B.1; omega) (by show 87 + 30 ≤ B.2; omega) (by decide) (fun h75 f75 g75 => ?_)
  have o := (g75 r (by omega)).trans o
  have k1 := (g75 _ (by omega)).trans k1
  have k2 := (g75 _ (by omega)).trans k2
  have k3 := (g75 _ (by omega)).trans k3
  have k4 := (g75 _ (by omega)).trans k4
  have k5 := (g75 _ (by omega)).trans k5
  have k6 := (g75 _ (by omega)).trans k6
  have k7 := (g75 _ (by omega)).trans k7
  refine bg_putfield rfl rfl o (by rfl) ⟨rfl, rfl⟩ (by rfl) (fun h77 f77 g77 => ?_)
  have o := f77
  have k1 := (g77 _ (by omega)).trans k1
  have k2 := (g77 _ (by omega)).trans k2
  have k3 := (g77 _ (by omega)).trans k3
  have k4 := (g77 _ (by omega)).trans k4
  have k5 := (g77 _ (by omega)).trans k5
  have k6 := (g77 _ (by omega)).trans k6
  have k7 := (g77 _ (by omega)).trans k7
  have k8 := (g77 _ (by omega)).trans f75
  refine bg_aload0 rfl ?_
  refine bg_bipush rfl ?_
  refine bg_newarray_int rfl (N := 30) (by decide) (by decide) (by show 8 + 1 ≤ B.1; omega) (by show 117 + 30 ≤ B.2; omega) (by decide) (fun h83 f83 g83 => ?_)
  have o := (g83 r (by omega)).trans o
  have k1 := (g83 _ (by omega)).trans k1
  have k2 := (g83 _ (by omega)).trans k2
  have k3 := (g83 _ (by omega)).trans k3
  have k4 := (g83 _ (by omega)).trans k4
  have k5 := (g83 _ (by omega)).trans k5
  have k6 := (g83 _ (by omega)).trans k6
  have k7 := (g83 _ (by omega)).trans k7
  have k8 := (g83 _ (by omega)).trans k8
  refine bg_putfield rfl rfl o (by rfl) ⟨rfl, rfl⟩ (by rfl) (fun h85 f85 g85 => ?_)
  have o := f85
  have k1 := (g85 _ (by omega)).trans k1
  have k2 := (g85 _ (by omega)).trans k2
  have k3 := (g85 _ (by omega)).trans k3
  have k4 := (g85 _ (by omega)).trans k4
  have k5 := (g85 _ (by omega)).trans k5
  have k6 := (g85 _ (by omega)).trans k6
  have k7 := (g85 _ (by omega)).trans k7
  have k8 := (g85 _ (by omega)).trans k8
  have k9 := (g85 _ (by omega)).trans f83
  refine bg_aload0 rfl ?_
  refine bg_bipush rfl ?_
  refine bg_newarray_int rfl (N := 30) (by decide) (by decide) (by show 9 + 1 ≤ B.1; omega) (by show 147 + 30 ≤ B.2; omega) (by decide) (fun h91 f91 g91 => ?_)
  have o := (g91 r (by omega)).trans o
  have k1 := (g91 _ (by omega)).trans k1
  have k2 := (g91 _ (by omega)).trans k2
  have k3 := (g91 _ (by omega)).trans k3
  have k4 := (g91 _ (by omega)).trans k4
  have k5 := (g91 _ (by omega)).trans k5
  have k6 := (g91 _ (by omega)).trans k6
  have k7 := (g91 _ (by omega)).trans k7
  have k8 := (g91 _ (by omega)).trans k8
  have k9 := (g91 _ (by omega)).trans k9
  refine bg_putfield rfl rfl o (by rfl) ⟨rfl, rfl⟩ (by rfl) (fun h93 f93 g93 => ?_)
  have o := f93
  have k1 := (g93 _ (by omega)).trans k1
  have k2 := (g93 _ (by omega)).trans k2
  have k3 := (g93 _ (by omega)).trans k3
  have k4 := (g93 _ (by omega)).trans k4
  have k5 := (g93 _ (by omega)).trans k5
  have k6 := (g93 _ (by omega)).trans k6
  have k7 := (g93 _ (by omega)).trans k7
  have k8 := (g93 _ (by omega)).trans k8
  have k9 := (g93 _ (by omega)).trans k9
  have k10 := (g93 _ (by omega)).trans f91
  refine bg_aload0 rfl ?_
  refine bg_bipush rfl ?_
  refine bg_newarray_int rfl (N := 30) (by decide) (by decide) (by show 10 + 1 ≤ B.1; omega) (by show 177 + 30 ≤ B.2; omega) (by decide) (fun h99 f99 g99 => ?_)
  have o := (g99 r (by omega)).trans o
  have k1 := (g99 _ (by omega)).trans k1
  have k2 := (g99 _ (by omega)).trans k2
  have k3 := (g99 _ (by omega)).trans k3
  have k4 := (g99 _ (by omega)).trans k4
  have k5 := (g99 _ (by omega)).trans k5
  have k6 := (g99 _ (by omega)).trans k6
  have k7 := (g99 _ (by omega)).trans k7
  have k8 := (g99 _ (by omega)).trans k8
  have k9 := (g99 _ (by omega)).trans k9
  have k10 := (g99 _ (by omega)).trans k10
  refine bg_putfield rfl rfl o (by rfl) ⟨rfl, rfl⟩ (by rfl) (fun h101 f101 g101 => ?_)
  have o := f101
  have k1 := (g101 _ (by omega)).trans k1
  have k2 := (g101 _ (by omega)).trans k2
  have k3 := (g101 _ (by omega)).trans k3
  have k4 := (g101 _ (by omega)).trans k4
  have k5 := (g101 _ (by omega)).trans k5
  have k6 := (g101 _ (by omega)).trans k6
  have k7 := (g101 _ (by omega)).trans k7
  have k8 := (g101 _ (by omega)).trans k8
  have k9 := (g101 _ (by omega)).trans k9
  have k10 := (g101 _ (by omega)).trans k10
  have k11 := (g101 _ (by omega)).trans f99
  refine bg_aload0 rfl ?_
  refine bg_bipush rfl ?_
  refine bg_newarray_int rfl (N := 6) (by decide) (by decide) (by show 11 + 1 ≤ B.1; omega) (by show 207 + 6 ≤ B.2; omega) (by decide) (fun h107 f107 g107 => ?_)
  have o := (g107 r (by omega)).trans o
  have k1 := (g107 _ (by omega)).trans k1
  have k2 := (g107 _ (by omega)).trans k2
  have k3 := (g107 _ (by omega)).trans k3
  have k4 := (g107 _ (by omega)).trans k4
  have k5 := (g107 _ (by omega)).trans k5
  have k6 := (g107 _ (by omega)).trans k6
  have k7 := (g107 _ (by omega)).trans k7
  have k8 := (g107 _ (by omega)).trans k8
  have k9 := (g107 _ (by omega)).trans k9
  have k10 := (g107 _ (by omega)).trans k10
  have k11 := (g107 _ (by omega)).trans k11
  refine bg_putfield rfl rfl o (by rfl) ⟨rfl, rfl⟩ (by rfl) (fun h109 f109 g109 => ?_)
  have o := f109
  have k1 := (g109 _ (by omega)).trans k1
  have k2 := (g109 _ (by omega)).trans k2
  have k3 := (g109 _ (by omega)).trans k3
  have k4 := (g109 _ (by omega)).trans k4
  have k5 := (g109 _ (by omega)).trans k5
  have k6 := (g109 _ (by omega)).trans k6
  have k7 := (g109 _ (by omega)).trans k7
  have k8 := (g109 _ (by omega)).trans k8
  have k9 := (g109 _ (by omega)).trans k9
  have k10 := (g109 _ (by omega)).trans k10
  have k11 := (g109 _ (by omega)).trans k11
  have k12 := (g109 _ (by omega)).trans f107
  refine bg_aload0 rfl ?_
  refine bg_iconst rfl ?_
  refine bg_putfield rfl rfl o (by rfl) ⟨rfl, rfl⟩ (by rfl) (fun h114 f114 g114 => ?_)
  have o := f114
  have k1 := (g114 _ (by omega)).trans k1
  have k2 := (g114 _ (by omega)).trans k2
  have k3 := (g114 _ (by omega)).trans k3
  have k4 := (g114 _ (by omega)).trans k4
  have k5 := (g114 _ (by omega)).trans k5
  have k6 := (g114 _ (by omega)).trans k6
  have k7 := (g114 _ (by omega)).trans k7
  have k8 := (g114 _ (by omega)).trans k8
  have k9 := (g114 _ (by omega)).trans k9
  have k10 := (g114 _ (by omega)).trans k10
  have k11 := (g114 _ (by omega)).trans k11
  have k12 := (g114 _ (by omega)).trans k12
  refine bg_aload0 rfl ?_
  refine bg_sipush rfl ?_
  refine bg_newarray_int rfl (N := 400) (by decide) (by decide) (by show 12 + 1 ≤ B.1; omega) (by show 213 + 400 ≤ B.2; omega) (by decide) (fun h121 f121 g121 => ?_)
  have o := (g121 r (by omega)).trans o
  have k1 := (g121 _ (by omega)).trans k1
  have k2 := (g121 _ (by omega)).trans k2
  have k3 := (g121 _ (by omega)).trans k3
  have k4 := (g121 _ (by omega)).trans k4
  have k5 := (g121 _ (by omega)).trans k5
  have k6 := (g121 _ (by omega)).trans k6
  have k7 := (g121 _ (by omega)).trans k7
  have k8 := (g121 _ (by omega)).trans k8
  have k9 := (g121 _ (by omega)).trans k9
  have k10 := (g121 _ (by omega)).trans k10
  have k11 := (g121 _ (by omega)).trans k11
  have k12 := (g121 _ (by omega)).trans k12
  refine bg_putfield rfl rfl o (by rfl) ⟨rfl, rfl⟩ (by rfl) (fun h123 f123 g123 => ?_)
  have o := f123
  have k1 := (g123 _ (by omega)).trans k1
  have k2 := (g123 _ (by omega)).trans k2
  have k3 := (g123 _ (by omega)).trans k3
  have k4 := (g123 _ (by omega)).trans k4
  have k5 := (g123 _ (by omega)).trans k5
  have k6 := (g123 _ (by omega)).trans k6
  have k7 := (g123 _ (by omega)).trans k7
  have k8 := (g123 _ (by omega)).trans k8
  have k9 := (g123 _ (by omega)).trans k9
  have k10 := (g123 _ (by omega)).trans k10
  have k11 := (g123 _ (by omega)).trans k11
  have k12 := (g123 _ (by omega)).trans k12
  have k13 := (g123 _ (by omega)).trans f121
  refine bg_ret rfl rfl ?_
  refine hQ _ ⟨o, k1, k2, k3, k4, k5, k6, k7, k8, k9, k10, k11, k12, k13⟩ (fun q hq => ?_)
  rw [g123 q (by omega), g121 q (by omega), g114 q (by omega), g109 q (by omega), g107 q (by omega), g101 q (by omega), g99 q (by omega), g93 q (by omega), g91 q (by omega), g85 q (by omega), g83 q (by omega), g77 q (by omega), g75 q (by omega), g69 q (by omega), g67 q (by omega), g61 q (by omega), g59 q (by omega), g53 q (by omega), g51 q (by omega), g45 q (by omega), g43 q (by omega), g37 q (by omega), g35 q (by omega), g30 q (by omega), g28 q (by omega), g23 q (by omega), g21 q (by omega), g16 q (by omega), g11 q (by omega), g2 q (by omega)]
theorem rb_begL {h0 : bk_H} {A0 : rA} (hQ : ∀ (h' : bk_H) (A' : rA), RO h' r y I A' → (∀ j, j < 5 → A' 1 j = 0 ∧ A' 2 j = 0) → (∀ k, k ≠ 1 → k ≠ 2 → A' k = A0 k) → fr h0 h' r (r + 14) → bk_g V d 123 B Q 88 [some (.ref r), some (.int (nI 5))] [] h' n cs) : ∀ (c i : Nat) (h : bk_H) (A : rA), i + c = 5 → RO h r y I A → (∀ j, j < i → A 1 j = 0 ∧ A 2 j = 0) → (∀ k, k ≠ 1 → k ≠ 2 → A k = A0 k) → fr h0 h r (r + 14) → bk_g V d 123 B Q 63 [some (.ref r), some (.int (nI i))] [] h n cs := by
  intro c
  induction c with
  | zero =>
    intro i h A hi hR hz hk hF
    obtain rfl : i = 5 := by omega
    refine bg_iload1 rfl ?_
    refine bg_iconst rfl ?_
    refine bg_icmp_ge rfl (fun e65 => ?_) (fun e65 => absurd e65 (show ¬ nI 5 < nI 5 from nI_nlt (by omega) (by omega)))
    exact hQ h A hR hz hk hF
  | succ c ih =>
    intro i h A hi hR hz hk hF
    refine bg_iload1 rfl ?_
    refine bg_iconst rfl ?_
    refine bg_icmp_ge rfl (fun e65 => absurd (nI_lt (b := 5) (by omega) (by decide)) e65) (fun e65 => ?_)
    refine bg_aload0 rfl ?_
    refine bg_getfield rfl rfl hR.1 (by rfl) ?_
    refine bg_iload1 rfl ?_
    refine bg_iconst rfl ?_
    refine bg_iastore_n rfl (sR2 hR) (by omega) (by omega) (fun h74 f74 g74 => ?_)
    obtain ⟨hR, hF1⟩ := RO.a1 hR f74 g74
    replace hF := hF.trans hF1
    refine bg_aload0 rfl ?_
    refine bg_getfield rfl rfl hR.1 (by rfl) ?_
    refine bg_iload1 rfl ?_
    refine bg_iconst rfl ?_
    refine bg_iastore_n rfl (sR3 hR) (by omega) (by omega) (fun h81 f81 g81 => ?_)
    obtain ⟨hR, hF2⟩ := RO.a2 hR f81 g81
    replace hF := hF.trans hF2
    refine bg_iinc1 rfl rfl ?_
    rw [nI_1]
    refine bg_goto rfl ?_
    refine ih (i + 1) _ _ (by omega) hR (fun j hj => ?_) (fun k k1 k2 => ?_) hF
    · show upd (A 1) i 0 j = 0 ∧ upd (A 2) i 0 j = 0
      unfold upd
      by_cases e : j = i
      · rw [if_pos e, if_pos e]
        exact ⟨rfl, rfl⟩
      · rw [if_neg e, if_neg e]
        exact hz j (by omega)
    · rw [uA_n k2, uA_n k1]
      exact hk k k1 k2

theorem rb_begM {h0 : bk_H} {A0 : rA} (hQ : ∀ (h' : bk_H) (A' : rA), RO h' r y I A' → (∀ j, j < 6 → A' 4 j = 0) → (∀ k, k ≠ 4 → A' k = A0 k) → fr h0 h' r (r + 14) → Q (.inl none) h' n) : ∀ (c i : Nat) (h : bk_H) (A : rA), i + c = 6 → RO h r y I A → (∀ j, j < i → A 4 j = 0) → (∀ k, k ≠ 4 → A k = A0 k) → fr h0 h r (r + 14) → bk_g V d 123 B Q 90 [some (.ref r), some (.int (nI i))] [] h n cs := by
  intro c
  induction c with
  | zero =>
    intro i h A hi hR hz hk hF
    obtain rfl : i = 6 := by omega
    refine bg_iload1 rfl ?_
    refine bg_bipush rfl ?_
    refine bg_icmp_ge rfl (fun e93 => ?_) (fun e93 => absurd e93 (show ¬ nI 6 < nI 6 from nI_nlt (by omega) (by omega)))
    refine bg_ret rfl rfl ?_
    exact hQ h A hR hz hk hF
  | succ c ih =>
    intro i h A hi hR hz hk hF
    refine bg_iload1 rfl ?_
    refine bg_bipush rfl ?_
    refine bg_icmp_ge rfl (fun e93 => absurd (nI_lt (b := 6) (by omega) (by decide)) e93) (fun e93 => ?_)
    refine bg_aload0 rfl ?_
    refine bg_getfield rfl rfl hR.1 (by rfl) ?_
    refine bg_iload1 rfl ?_
    refine bg_iconst rfl ?_
    refine bg_iastore_n rfl (sR5 hR) (by omega) (by omega) (fun h102 f102 g102 => ?_)
    obtain ⟨hR, hF1⟩ := RO.a4 hR f102 g102
    replace hF := hF.trans hF1
    refine bg_iinc1 rfl rfl ?_
    rw [nI_1]
    refine bg_goto rfl ?_
    refine ih (i + 1) _ _ (by omega) hR (fun j hj => ?_) (fun k k1 => ?_) hF
    · show upd (A 4) i 0 j = 0
      unfold upd
      by_cases e : j = i
      · rw [if_pos e]
      · rw [if_neg e]
        exact hz j (by omega)
    · rw [uA_n k1]
      exact hk k k1

theorem tg_bg0 {P : Nat → bT} {i w k : Nat} (hi : i < k) : tg (bgT P 0 k) i w = [rG (P 0) (nI i) 0, 0, 0].getD w 0 := by
  unfold tg bgT
  rw [List.getD_eq_getElem?_getD (l := List.map _ _), List.getElem?_map, List.getElem?_range hi]
  rfl
theorem tg_bg1 {P : Nat → bT} {i w k : Nat} (hi : i < k) : tg (bgT P 1 k) i w = [rG (P 1) (nI i) 1].getD w 0 := by
  unfold tg bgT
  rw [List.getD_eq_getElem?_getD (l := List.map _ _), List.getElem?_map, List.getElem?_range hi]
  rfl
theorem tg_bg2 {P : Nat → bT} {i w k : Nat} (hi : i < k) : tg (bgT P 2 k) i w = ([0] : List Int32).getD w 0 := by
  unfold tg bgT
  rw [List.getD_eq_getElem?_getD (l := List.map _ _), List.getElem?_map, List.getElem?_range hi]
  rfl
theorem rb_begin (hR : RO h r y I A) (hP : PO h u K C) (hY : YO h y J u v) (hd1 : u + 16 ≤ r ∨ r + 14 ≤ u) (hd2 : y < r ∨ r + 14 ≤ y) (hp : RP P K C) (l0 : (P 0).length ≤ 5) (l1 : (P 1).length ≤ 6) (l2 : (P 2).length ≤ 6) (hI : ∀ k, k < 3 → I k = S.1 k) (hs7 : I 8 = S.1 7) (hQ : ∀ h' I' A', RO h' r y I' A' → RR (beginF P S) I' A' → fr h h' r (r + 14) → Q (.inl none) h' n) : bk_wp V (d + 2) 123 [.ref r] h n B Q := by
  have hF : fr h h r (r + 14) := fr.refl
  refine bg_in rfl rfl ?_
  refine bg_aload0 rfl ?_
  refine bg_iconst rfl ?_
  refine bg_putfield rfl rfl hR.1 (by rfl) ⟨rfl, rfl⟩ (by rfl) (fun h2 f2 g2 => ?_)
  obtain ⟨hR, hF1⟩ := RO.i3 hR f2 g2
  replace hP := hP.kp hF1 (by omega)
  replace hY : YO h2 y J u v := (hF1 y (by omega)).trans hY
  replace hF := hF.trans hF1
  refine bg_aload0 rfl ?_
  refine bg_iconst rfl ?_
  refine bg_putfield rfl rfl hR.1 (by rfl) ⟨rfl, rfl⟩ (by rfl) (fun h7 f7 g7 => ?_)
  obtain ⟨hR, hF1⟩ := RO.i4 hR f7 g7
  replace hP := hP.kp hF1 (by omega)
  replace hY : YO h7 y J u v := (hF1 y (by omega)).trans hY
  replace hF := hF.trans hF1
  refine bg_aload0 rfl ?_
  refine bg_iconst rfl ?_
  refine bg_putfield rfl rfl hR.1 (by rfl) ⟨rfl, rfl⟩ (by rfl) (fun h12 f12 g12 => ?_)
  obtain ⟨hR, hF1⟩ := RO.i5 hR f12 g12
  replace hP := hP.kp hF1 (by omega)
  replace hY : YO h12 y J u v := (hF1 y (by omega)).trans hY
  replace hF := hF.trans hF1
  refine bg_aload0 rfl ?_
  refine bg_iconst rfl ?_
  refine bg_putfield rfl rfl hR.1 (by rfl) ⟨rfl, rfl⟩ (by rfl) (fun h17 f17 g17 => ?_)
  obtain ⟨hR, hF1⟩ := RO.i6 hR f17 g17
  replace hP := hP.kp hF1 (by omega)
  replace hY : YO h17 y J u v := (hF1 y (by omega)).trans hY
  replace hF := hF.trans hF1
  refine bg_aload0 rfl ?_
  refine bg_iconst rfl ?_
  refine bg_putfield rfl rfl hR.1 (by rfl) ⟨rfl, rfl⟩ (by rfl) (fun h22 f22 g22 => ?_)
  obtain ⟨hR, hF1⟩ := RO.i7 hR f22 g22
  replace hP := hP.kp hF1 (by omega)
  replace hY : YO h22 y J u v := (hF1 y (by omega)).trans hY
  replace hF := hF.trans hF1
  refine bg_aload0 rfl ?_
  refine bg_aload0 rfl ?_
  refine bg_getfield rfl rfl hR.1 (by rfl) ?_
  refine bg_getfield rfl rfl hY (by rfl) ?_
  refine bg_getfield rfl rfl hP.1 (by rfl) ?_
  refine bg_aload0 rfl ?_
  refine bg_getfield rfl rfl hR.1 (by rfl) ?_
  refine bg_virt2 rfl rfl rfl rfl ⟨_, hR.1⟩ ?_
  refine rb_copy (pR1 hP) (sR1 hR) (by omega) (by decide) (fun h40 f40 g40 => bk_Kv ?_)
  obtain ⟨hR, hF1⟩ := RO.a0 hR f40 g40
  replace hP := hP.kp hF1 (by omega)
  replace hY : YO h40 y J u v := (hF1 y (by omega)).trans hY
  replace hF := hF.trans hF1
  refine bg_aload0 rfl ?_
  refine bg_aload0 rfl ?_
  refine bg_getfield rfl rfl hR.1 (by rfl) ?_
  refine bg_getfield rfl rfl hY (by rfl) ?_
  refine bg_getfield rfl rfl hP.1 (by rfl) ?_
  refine bg_aload0 rfl ?_
  refine bg_getfield rfl rfl hR.1 (by rfl) ?_
  refine bg_virt2 rfl rfl rfl rfl ⟨_, hR.1⟩ ?_
  refine rb_copy (pR4 hP) (sR4 hR) (by omega) (by decide) (fun h58 f58 g58 => bk_Kv ?_)
  obtain ⟨hR, hF1⟩ := RO.a3 hR f58 g58
  replace hP := hP.kp hF1 (by omega)
  replace hY : YO h58 y J u v := (hF1 y (by omega)).trans hY
  replace hF := hF.trans hF1
  refine bg_iconst rfl ?_
  refine bg_istore1 rfl rfl ?_
  refine rb_begL (fun h2 A2 hR2 hz hk hF2 => ?_) 5 0 _ _ rfl hR (fun j hj => absurd hj (Nat.not_lt_zero j)) (fun _ _ _ => rfl) hF
  refine bg_iconst rfl ?_
  refine bg_istore1 rfl rfl ?_
  refine rb_begM (fun h3 A3 hR3 hz3 hk3 hF3 => ?_) 6 0 _ _ rfl hR2 (fun j hj => absurd hj (Nat.not_lt_zero j)) (fun _ _ => rfl) hF2
  refine hQ h3 _ A3 hR3 ⟨⟨fun k hk => ?_, rfl, rfl, hs7⟩, fun i hi => ?_, fun i hi => ?_, fun i hi => ?_, fun i hi => absurd hi (Nat.not_lt_zero i), fun i hi => absurd hi (Nat.not_lt_zero i)⟩ hF3
  · have : k = 0 ∨ k = 1 ∨ k = 2 ∨ k = 3 ∨ k = 4 ∨ k = 5 := by omega
    rcases this with rfl | rfl | rfl | rfl | rfl | rfl
    · exact hI 0 (by decide)
    · exact hI 1 (by decide)
    · exact hI 2 (by decide)
    · rfl
    · rfl
    · rfl
  · have hi : i < (P 0).length := by rw [show (beginF P S).2 0 = bgT P 0 (P 0).length from rfl, bgT_len] at hi; exact hi
    rw [hk3 0 (by decide), hk3 1 (by decide), hk3 2 (by decide), hk 0 (by decide) (by decide), show (beginF P S).2 0 = bgT P 0 (P 0).length from rfl, tg_bg0 hi, tg_bg0 hi, tg_bg0 hi]
    refine ⟨(sb_cpy0 (by omega)).trans ((hp.2.1 i hi).1.trans (rG_nI (by omega)).symm), (hz i (by omega)).1, (hz i (by omega)).2⟩
  · have hi : i < (P 1).length := by rw [show (beginF P S).2 1 = bgT P 1 (P 1).length from rfl, bgT_len] at hi; exact hi
    rw [hk3 3 (by decide), hk 3 (by decide) (by decide), show (beginF P S).2 1 = bgT P 1 (P 1).length from rfl, tg_bg1 hi]
    exact (sb_cpy0 (by omega)).trans ((hp.2.2.1 i hi).2.trans (rG_nI (by omega)).symm)
  · rw [hz3 i hi, show (beginF P S).2 2 = bgT P 2 (P 2).length from rfl]
    by_cases hi2 : i < (P 2).length
    · rw [tg_bg2 hi2]
      rfl
    · have hl : (bgT P 2 (P 2).length).length ≤ i := by rw [bgT_len]; omega
      unfold tg
      rw [List.getD_eq_getElem?_getD (l := bgT P 2 _), List.getElem?_eq_none hl]
      rfl
end RB
