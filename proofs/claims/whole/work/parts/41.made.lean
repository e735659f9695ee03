/-! BarkMakers: mean, and the making. Printed by wip/whole/mk41.py. -/
def meL (t : bT) : Nat → Nat → Int32 → Int32
  | 0, _, s => s
  | c + 1, i, s => meL t c (i + 1) (s + rG t (nI i) 1)
def meF (t : bT) : UInt64 := if t.length = 0 then FP.dconst0 else FP.ddiv (FP.i2d (meL t t.length 0 0)) (FP.i2d (nI t.length))
section CMm
variable {V : bk_V} {d n : Nat} {B : Nat × Nat} {Q : bk_R → bk_H → Nat → Prop} {h : bk_H} {x a : Nat} {T : List Int32} {P : Nat → bT} {S : bS} {ep : Int32} {cs : Nat × Nat}
theorem bb_meanL (hC : CM h x T P S ep) (h0 : ¬ (S.2 4).length = 0) (hN : vf_n64 (FP.ddiv (FP.i2d (meL (S.2 4) (S.2 4).length 0 0)) (FP.i2d (nI (S.2 4).length)))) (hQ : Q (.inl (some (.double (meF (S.2 4))))) h n) : ∀ (c i : Nat) (s : Int32), i + c = (S.2 4).length → meL (S.2 4) (S.2 4).length 0 0 = meL (S.2 4) c i s → bk_g V (d + 1) 117 B Q 21 [some (.ref x), some (.int (nI (S.2 4).length)), some (.int s), some (.int (nI i))] [] h n cs := by
  obtain ⟨p, f, g, s, er, et, sP, S2, b1, b2, hC0⟩ := id hC
  obtain ⟨⟨⟨tA, k0, k1, k2, k3, k4, ktp⟩, o0, n0, n1, n2, otk⟩, ⟨⟨d0, d1, d2, d3, d4, d5⟩, pr0⟩, ⟨l0, l1, l2, l3, l4, l5⟩, ⟨m0, m1, m2, m3, m4, m5⟩, ⟨u0, u1, u2, u3, u4, u5⟩, ⟨c0, cb, cf⟩, ⟨t0, tb, tf⟩, hx⟩ := id hC0
  have m55 := m5.2.2.1
  intro c
  induction c with
  | zero =>
    intro i s9 hi he
    refine bg_iload3 rfl ?_
    refine bg_iload1 rfl ?_
    refine bg_icmp_ge rfl (fun e23 => ?_) (fun e23 => absurd e23 (nI_nlt (by omega) (by omega)))
    unfold meF at hQ
    rw [if_neg h0, he] at hQ
    rw [he] at hN
    refine bg_iload2 rfl ?_
    refine bg_i2d rfl ?_
    refine bg_iload1 rfl ?_
    refine bg_i2d rfl ?_
    refine bg_ddiv rfl hN ?_
    refine bg_dret rfl rfl ?_
    exact hQ
  | succ c ih =>
    intro i s9 hi he
    refine bg_iload3 rfl ?_
    refine bg_iload1 rfl ?_
    refine bg_icmp_ge rfl (fun e23 => absurd (nI_lt (by omega) (by omega)) e23) (fun e23 => ?_)
    refine bg_iload2 rfl ?_
    refine bg_aload0 rfl ?_
    refine bg_getfield rfl rfl hx (by rfl) ?_
    refine bg_getfield rfl rfl m0 (by rfl) ?_
    refine bg_iload3 rfl ?_
    refine bg_iconst rfl ?_
    refine bg_virt2 rfl rfl rfl rfl ⟨_, m5.1⟩ ?_
    refine bt_get m5 rfl (by decide) (bk_Ki ?_)
    refine bg_iadd rfl ?_
    refine bg_istore2 rfl rfl ?_
    refine bg_iinc3 rfl rfl ?_
    rw [nI_1]
    refine bg_goto rfl ?_
    exact ih (i + 1) _ (by omega) he

theorem bb_mean (hC : CM h x T P S ep) (hN : ¬ (S.2 4).length = 0 → vf_n64 (FP.ddiv (FP.i2d (meL (S.2 4) (S.2 4).length 0 0)) (FP.i2d (nI (S.2 4).length)))) (hQ : Q (.inl (some (.double (meF (S.2 4))))) h n) : bk_wp V (d + 2) 117 [.ref x] h n B Q := by
  obtain ⟨p, f, g, s, er, et, sP, S2, b1, b2, hC0⟩ := id hC
  obtain ⟨⟨⟨tA, k0, k1, k2, k3, k4, ktp⟩, o0, n0, n1, n2, otk⟩, ⟨⟨d0, d1, d2, d3, d4, d5⟩, pr0⟩, ⟨l0, l1, l2, l3, l4, l5⟩, ⟨m0, m1, m2, m3, m4, m5⟩, ⟨u0, u1, u2, u3, u4, u5⟩, ⟨c0, cb, cf⟩, ⟨t0, tb, tf⟩, hx⟩ := id hC0
  have m55 := m5.2.2.1
  refine bg_in rfl rfl ?_
  refine bg_aload0 rfl ?_
  refine bg_getfield rfl rfl hx (by rfl) ?_
  refine bg_getfield rfl rfl m0 (by rfl) ?_
  refine bg_virt0 rfl rfl rfl rfl ⟨_, m5.1⟩ ?_
  refine bt_size m5 (bk_Ki ?_)
  refine bg_istore1 rfl rfl ?_
  refine bg_iload1 rfl ?_
  refine bg_if_ne rfl (fun e12 => ?_) (fun e12 => ?_)
  · have h0 : ¬ (S.2 4).length = 0 := fun q => e12 (by rw [q]; rfl)
    refine bg_iconst rfl ?_
    refine bg_istore2 rfl rfl ?_
    refine bg_iconst rfl ?_
    refine bg_istore3 rfl rfl ?_
    exact bb_meanL hC h0 (hN h0) hQ (S.2 4).length 0 0 (Nat.zero_add _) rfl
  · have h0 : (S.2 4).length = 0 := (nI_eq (b := 0) (by omega) (by omega)).mp e12
    unfold meF at hQ
    rw [if_pos h0] at hQ
    refine bg_dconst rfl rfl ?_
    refine bg_dret rfl rfl ?_
    exact hQ
theorem bi_lore (o : h a = some (.inr (3, [.null, .null, .null, .null, .null]))) (hn : n = a + 1) (hB1 : 10 ≤ B.1) (hB2 : 1428 ≤ B.2) (hQ : ∀ h', LO h' a (fun _ => []) → fr h h' a (a + 11) → Q (.inl none) h' (n + 10)) : bk_wp V (d + 2) 29 [.ref a] h n B Q := by
  subst hn
  have g00 : fr h h a (a + 11) := fr.refl
  refine bg_in rfl rfl ?_
  refine bg_aload0 rfl ?_
  refine bg_objinit rfl rfl rfl ?_
  refine bg_aload0 rfl ?_
  refine bg_new rfl rfl (by rfl) (by show 0 + 1 ≤ B.1; omega) (by show 0 + 4 ≤ B.2; omega) (fun h5 f5 g5 => ?_)
  have o0 := (g5 a (by omega)).trans o
  
  refine bg_dup rfl rfl ?_
  refine bg_iconst rfl ?_
  refine bg_iconst rfl ?_
  refine bg_spec2B (b := (1, 10)) rfl rfl rfl rfl (by show 1 + 1 ≤ B.1; omega) (by show 4 + 10 ≤ B.2; omega) ?_
  refine bt_init (w := 2) (r := 5) rfl rfl (by decide) f5 (by omega) (fun hT0 T0 gT0 => bk_Kv ?_) (Nat.le_refl _) (Nat.le_refl _)
  have o := (gT0 a (by omega)).trans o0
  
  refine bg_putfield rfl rfl o (by rfl) ⟨rfl, rfl⟩ (by rfl) (fun h14 f14 g14 => ?_)
  have o := f14
  have T0 := T0.kp (fr.one g14) (by omega)
  
  refine bg_aload0 rfl ?_
  refine bg_new rfl rfl (by rfl) (by show 2 + 1 ≤ B.1; omega) (by show 14 + 4 ≤ B.2; omega) (fun h18 f18 g18 => ?_)
  have o1 := (g18 a (by omega)).trans o
  have T0 := T0.kp (fr.one g18) (by omega)
  
  refine bg_dup rfl rfl ?_
  refine bg_iconst rfl ?_
  refine bg_bipush rfl ?_
  refine bg_spec2B (b := (1, 12)) rfl rfl rfl rfl (by show 3 + 1 ≤ B.1; omega) (by show 18 + 12 ≤ B.2; omega) ?_
  refine bt_init (w := 2) (r := 6) rfl rfl (by decide) f18 (by omega) (fun hT1 T1 gT1 => bk_Kv ?_) (Nat.le_refl _) (Nat.le_refl _)
  have o := (gT1 a (by omega)).trans o1
  have T0 := T0.kp gT1 (by omega)
  
  refine bg_putfield rfl rfl o (by rfl) ⟨rfl, rfl⟩ (by rfl) (fun h28 f28 g28 => ?_)
  have o := f28
  have T0 := T0.kp (fr.one g28) (by omega)
  have T1 := T1.kp (fr.one g28) (by omega)
  
  refine bg_aload0 rfl ?_
  refine bg_new rfl rfl (by rfl) (by show 4 + 1 ≤ B.1; omega) (by show 30 + 4 ≤ B.2; omega) (fun h32 f32 g32 => ?_)
  have o2 := (g32 a (by omega)).trans o
  have T0 := T0.kp (fr.one g32) (by omega)
  have T1 := T1.kp (fr.one g32) (by omega)
  
  refine bg_dup rfl rfl ?_
  refine bg_iconst rfl ?_
  refine bg_bipush rfl ?_
  refine bg_spec2B (b := (1, 18)) rfl rfl rfl rfl (by show 5 + 1 ≤ B.1; omega) (by show 34 + 18 ≤ B.2; omega) ?_
  refine bt_init (w := 3) (r := 6) rfl rfl (by decide) f32 (by omega) (fun hT2 T2 gT2 => bk_Kv ?_) (Nat.le_refl _) (Nat.le_refl _)
  have o := (gT2 a (by omega)).trans o2
  have T0 := T0.kp gT2 (by omega)
  have T1 := T1.kp gT2 (by omega)
  
  refine bg_putfield rfl rfl o (by rfl) ⟨rfl, rfl⟩ (by rfl) (fun h42 f42 g42 => ?_)
  have o := f42
  have T0 := T0.kp (fr.one g42) (by omega)
  have T1 := T1.kp (fr.one g42) (by omega)
  have T2 := T2.kp (fr.one g42) (by omega)
  
  refine bg_aload0 rfl ?_
  refine bg_new rfl rfl (by rfl) (by show 6 + 1 ≤ B.1; omega) (by show 52 + 4 ≤ B.2; omega) (fun h46 f46 g46 => ?_)
  have o3 := (g46 a (by omega)).trans o
  have T0 := T0.kp (fr.one g46) (by omega)
  have T1 := T1.kp (fr.one g46) (by omega)
  have T2 := T2.kp (fr.one g46) (by omega)
  
  refine bg_dup rfl rfl ?_
  refine bg_bipush rfl ?_
  refine bg_bipush rfl ?_
  refine bg_spec2B (b := (1, 168)) rfl rfl rfl rfl (by show 7 + 1 ≤ B.1; omega) (by show 56 + 168 ≤ B.2; omega) ?_
  refine bt_init (w := 7) (r := 24) rfl rfl (by decide) f46 (by omega) (fun hT3 T3 gT3 => bk_Kv ?_) (Nat.le_refl _) (Nat.le_refl _)
  have o := (gT3 a (by omega)).trans o3
  have T0 := T0.kp gT3 (by omega)
  have T1 := T1.kp gT3 (by omega)
  have T2 := T2.kp gT3 (by omega)
  
  refine bg_putfield rfl rfl o (by rfl) ⟨rfl, rfl⟩ (by rfl) (fun h57 f57 g57 => ?_)
  have o := f57
  have T0 := T0.kp (fr.one g57) (by omega)
  have T1 := T1.kp (fr.one g57) (by omega)
  have T2 := T2.kp (fr.one g57) (by omega)
  have T3 := T3.kp (fr.one g57) (by omega)
  
  refine bg_aload0 rfl ?_
  refine bg_new rfl rfl (by rfl) (by show 8 + 1 ≤ B.1; omega) (by show 224 + 4 ≤ B.2; omega) (fun h61 f61 g61 => ?_)
  have o4 := (g61 a (by omega)).trans o
  have T0 := T0.kp (fr.one g61) (by omega)
  have T1 := T1.kp (fr.one g61) (by omega)
  have T2 := T2.kp (fr.one g61) (by omega)
  have T3 := T3.kp (fr.one g61) (by omega)
  
  refine bg_dup rfl rfl ?_
  refine bg_iconst rfl ?_
  refine bg_sipush rfl ?_
  refine bg_spec2B (b := (1, 1200)) rfl rfl rfl rfl (by show 9 + 1 ≤ B.1; omega) (by show 228 + 1200 ≤ B.2; omega) ?_
  refine bt_init (w := 3) (r := 400) rfl rfl (by decide) f61 (by omega) (fun hT4 T4 gT4 => bk_Kv ?_) (Nat.le_refl _) (Nat.le_refl _)
  have o := (gT4 a (by omega)).trans o4
  have T0 := T0.kp gT4 (by omega)
  have T1 := T1.kp gT4 (by omega)
  have T2 := T2.kp gT4 (by omega)
  have T3 := T3.kp gT4 (by omega)
  
  refine bg_putfield rfl rfl o (by rfl) ⟨rfl, rfl⟩ (by rfl) (fun h72 f72 g72 => ?_)
  have o := f72
  have T0 := T0.kp (fr.one g72) (by omega)
  have T1 := T1.kp (fr.one g72) (by omega)
  have T2 := T2.kp (fr.one g72) (by omega)
  have T3 := T3.kp (fr.one g72) (by omega)
  have T4 := T4.kp (fr.one g72) (by omega)
  
  refine bg_ret rfl rfl ?_
  refine hQ _ ⟨o, T0, T1, T2, T3, T4⟩ ?_
  exact g00.trans ((((((((((((((((fr.one g5).wide (by omega) (by omega)).trans (gT0.wide (by omega) (by omega))).trans ((fr.one g14).wide (by omega) (by omega))).trans ((fr.one g18).wide (by omega) (by omega))).trans (gT1.wide (by omega) (by omega))).trans ((fr.one g28).wide (by omega) (by omega))).trans ((fr.one g32).wide (by omega) (by omega))).trans (gT2.wide (by omega) (by omega))).trans ((fr.one g42).wide (by omega) (by omega))).trans ((fr.one g46).wide (by omega) (by omega))).trans (gT3.wide (by omega) (by omega))).trans ((fr.one g57).wide (by omega) (by omega))).trans ((fr.one g61).wide (by omega) (by omega))).trans (gT4.wide (by omega) (by omega))).trans ((fr.one g72).wide (by omega) (by omega)))
def S0F : bS := (fun k => if k = 1 then 2 else if k = 2 then 3 else if k = 7 then -1 else 0, fun _ => [])
theorem bi_mount (o : h a = some (.inr (4, [.null, .null, .null, .null, .null, .int 0, .int 0, .int 0, .int 0, .int 0, .int 0, .int 0, .int 0]))) (hn : n = a + 1) (hB1 : 10 ≤ B.1) (hB2 : 227 ≤ B.2) (hQ : ∀ h', MO h' a S0F → fr h h' a (a + 11) → Q (.inl none) h' (n + 10)) : bk_wp V (d + 2) 32 [.ref a] h n B Q := by
  subst hn
  have g00 : fr h h a (a + 11) := fr.refl
  refine bg_in rfl rfl ?_
  refine bg_aload0 rfl ?_
  refine bg_objinit rfl rfl rfl ?_
  refine bg_aload0 rfl ?_
  refine bg_new rfl rfl (by rfl) (by show 0 + 1 ≤ B.1; omega) (by show 0 + 4 ≤ B.2; omega) (fun h5 f5 g5 => ?_)
  have o0 := (g5 a (by omega)).trans o
  
  refine bg_dup rfl rfl ?_
  refine bg_iconst rfl ?_
  refine bg_iconst rfl ?_
  refine bg_spec2B (b := (1, 15)) rfl rfl rfl rfl (by show 1 + 1 ≤ B.1; omega) (by show 4 + 15 ≤ B.2; omega) ?_
  refine bt_init (w := 3) (r := 5) rfl rfl (by decide) f5 (by omega) (fun hT0 T0 gT0 => bk_Kv ?_) (Nat.le_refl _) (Nat.le_refl _)
  have o := (gT0 a (by omega)).trans o0
  
  refine bg_putfield rfl rfl o (by rfl) ⟨rfl, rfl⟩ (by rfl) (fun h14 f14 g14 => ?_)
  have o := f14
  have T0 := T0.kp (fr.one g14) (by omega)
  
  refine bg_aload0 rfl ?_
  refine bg_new rfl rfl (by rfl) (by show 2 + 1 ≤ B.1; omega) (by show 19 + 4 ≤ B.2; omega) (fun h18 f18 g18 => ?_)
  have o1 := (g18 a (by omega)).trans o
  have T0 := T0.kp (fr.one g18) (by omega)
  
  refine bg_dup rfl rfl ?_
  refine bg_iconst rfl ?_
  refine bg_bipush rfl ?_
  refine bg_spec2B (b := (1, 6)) rfl rfl rfl rfl (by show 3 + 1 ≤ B.1; omega) (by show 23 + 6 ≤ B.2; omega) ?_
  refine bt_init (w := 1) (r := 6) rfl rfl (by decide) f18 (by omega) (fun hT1 T1 gT1 => bk_Kv ?_) (Nat.le_refl _) (Nat.le_refl _)
  have o := (gT1 a (by omega)).trans o1
  have T0 := T0.kp gT1 (by omega)
  
  refine bg_putfield rfl rfl o (by rfl) ⟨rfl, rfl⟩ (by rfl) (fun h28 f28 g28 => ?_)
  have o := f28
  have T0 := T0.kp (fr.one g28) (by omega)
  have T1 := T1.kp (fr.one g28) (by omega)
  
  refine bg_aload0 rfl ?_
  refine bg_new rfl rfl (by rfl) (by show 4 + 1 ≤ B.1; omega) (by show 29 + 4 ≤ B.2; omega) (fun h32 f32 g32 => ?_)
  have o2 := (g32 a (by omega)).trans o
  have T0 := T0.kp (fr.one g32) (by omega)
  have T1 := T1.kp (fr.one g32) (by omega)
  
  refine bg_dup rfl rfl ?_
  refine bg_iconst rfl ?_
  refine bg_bipush rfl ?_
  refine bg_spec2B (b := (1, 6)) rfl rfl rfl rfl (by show 5 + 1 ≤ B.1; omega) (by show 33 + 6 ≤ B.2; omega) ?_
  refine bt_init (w := 1) (r := 6) rfl rfl (by decide) f32 (by omega) (fun hT2 T2 gT2 => bk_Kv ?_) (Nat.le_refl _) (Nat.le_refl _)
  have o := (gT2 a (by omega)).trans o2
  have T0 := T0.kp gT2 (by omega)
  have T1 := T1.kp gT2 (by omega)
  
  refine bg_putfield rfl rfl o (by rfl) ⟨rfl, rfl⟩ (by rfl) (fun h42 f42 g42 => ?_)
  have o := f42
  have T0 := T0.kp (fr.one g42) (by omega)
  have T1 := T1.kp (fr.one g42) (by omega)
  have T2 := T2.kp (fr.one g42) (by omega)
  
  refine bg_aload0 rfl ?_
  refine bg_new rfl rfl (by rfl) (by show 6 + 1 ≤ B.1; omega) (by show 39 + 4 ≤ B.2; omega) (fun h46 f46 g46 => ?_)
  have o3 := (g46 a (by omega)).trans o
  have T0 := T0.kp (fr.one g46) (by omega)
  have T1 := T1.kp (fr.one g46) (by omega)
  have T2 := T2.kp (fr.one g46) (by omega)
  
  refine bg_dup rfl rfl ?_
  refine bg_iconst rfl ?_
  refine bg_bipush rfl ?_
  refine bg_spec2B (b := (1, 120)) rfl rfl rfl rfl (by show 7 + 1 ≤ B.1; omega) (by show 43 + 120 ≤ B.2; omega) ?_
  refine bt_init (w := 4) (r := 30) rfl rfl (by decide) f46 (by omega) (fun hT3 T3 gT3 => bk_Kv ?_) (Nat.le_refl _) (Nat.le_refl _)
  have o := (gT3 a (by omega)).trans o3
  have T0 := T0.kp gT3 (by omega)
  have T1 := T1.kp gT3 (by omega)
  have T2 := T2.kp gT3 (by omega)
  
  refine bg_putfield rfl rfl o (by rfl) ⟨rfl, rfl⟩ (by rfl) (fun h56 f56 g56 => ?_)
  have o := f56
  have T0 := T0.kp (fr.one g56) (by omega)
  have T1 := T1.kp (fr.one g56) (by omega)
  have T2 := T2.kp (fr.one g56) (by omega)
  have T3 := T3.kp (fr.one g56) (by omega)
  
  refine bg_aload0 rfl ?_
  refine bg_new rfl rfl (by rfl) (by show 8 + 1 ≤ B.1; omega) (by show 163 + 4 ≤ B.2; omega) (fun h60 f60 g60 => ?_)
  have o4 := (g60 a (by omega)).trans o
  have T0 := T0.kp (fr.one g60) (by omega)
  have T1 := T1.kp (fr.one g60) (by omega)
  have T2 := T2.kp (fr.one g60) (by omega)
  have T3 := T3.kp (fr.one g60) (by omega)
  
  refine bg_dup rfl rfl ?_
  refine bg_iconst rfl ?_
  refine bg_bipush rfl ?_
  refine bg_spec2B (b := (1, 60)) rfl rfl rfl rfl (by show 9 + 1 ≤ B.1; omega) (by show 167 + 60 ≤ B.2; omega) ?_
  refine bt_init (w := 2) (r := 30) rfl rfl (by decide) f60 (by omega) (fun hT4 T4 gT4 => bk_Kv ?_) (Nat.le_refl _) (Nat.le_refl _)
  have o := (gT4 a (by omega)).trans o4
  have T0 := T0.kp gT4 (by omega)
  have T1 := T1.kp gT4 (by omega)
  have T2 := T2.kp gT4 (by omega)
  have T3 := T3.kp gT4 (by omega)
  
  refine bg_putfield rfl rfl o (by rfl) ⟨rfl, rfl⟩ (by rfl) (fun h70 f70 g70 => ?_)
  have o := f70
  have T0 := T0.kp (fr.one g70) (by omega)
  have T1 := T1.kp (fr.one g70) (by omega)
  have T2 := T2.kp (fr.one g70) (by omega)
  have T3 := T3.kp (fr.one g70) (by omega)
  have T4 := T4.kp (fr.one g70) (by omega)
  
  refine bg_aload0 rfl ?_
  refine bg_iconst rfl ?_
  refine bg_putfield rfl rfl o (by rfl) ⟨rfl, rfl⟩ (by rfl) (fun h75 f75 g75 => ?_)
  have o := f75
  have T0 := T0.kp (fr.one g75) (by omega)
  have T1 := T1.kp (fr.one g75) (by omega)
  have T2 := T2.kp (fr.one g75) (by omega)
  have T3 := T3.kp (fr.one g75) (by omega)
  have T4 := T4.kp (fr.one g75) (by omega)
  
  refine bg_aload0 rfl ?_
  refine bg_iconst rfl ?_
  refine bg_putfield rfl rfl o (by rfl) ⟨rfl, rfl⟩ (by rfl) (fun h80 f80 g80 => ?_)
  have o := f80
  have T0 := T0.kp (fr.one g80) (by omega)
  have T1 := T1.kp (fr.one g80) (by omega)
  have T2 := T2.kp (fr.one g80) (by omega)
  have T3 := T3.kp (fr.one g80) (by omega)
  have T4 := T4.kp (fr.one g80) (by omega)
  
  refine bg_aload0 rfl ?_
  refine bg_iconst rfl ?_
  refine bg_putfield rfl rfl o (by rfl) ⟨rfl, rfl⟩ (by rfl) (fun h85 f85 g85 => ?_)
  have o := f85
  have T0 := T0.kp (fr.one g85) (by omega)
  have T1 := T1.kp (fr.one g85) (by omega)
  have T2 := T2.kp (fr.one g85) (by omega)
  have T3 := T3.kp (fr.one g85) (by omega)
  have T4 := T4.kp (fr.one g85) (by omega)
  
  refine bg_aload0 rfl ?_
  refine bg_iconst rfl ?_
  refine bg_putfield rfl rfl o (by rfl) ⟨rfl, rfl⟩ (by rfl) (fun h90 f90 g90 => ?_)
  have o := f90
  have T0 := T0.kp (fr.one g90) (by omega)
  have T1 := T1.kp (fr.one g90) (by omega)
  have T2 := T2.kp (fr.one g90) (by omega)
  have T3 := T3.kp (fr.one g90) (by omega)
  have T4 := T4.kp (fr.one g90) (by omega)
  
  refine bg_aload0 rfl ?_
  refine bg_iconst rfl ?_
  refine bg_putfield rfl rfl o (by rfl) ⟨rfl, rfl⟩ (by rfl) (fun h95 f95 g95 => ?_)
  have o := f95
  have T0 := T0.kp (fr.one g95) (by omega)
  have T1 := T1.kp (fr.one g95) (by omega)
  have T2 := T2.kp (fr.one g95) (by omega)
  have T3 := T3.kp (fr.one g95) (by omega)
  have T4 := T4.kp (fr.one g95) (by omega)
  
  refine bg_aload0 rfl ?_
  refine bg_iconst rfl ?_
  refine bg_putfield rfl rfl o (by rfl) ⟨rfl, rfl⟩ (by rfl) (fun h100 f100 g100 => ?_)
  have o := f100
  have T0 := T0.kp (fr.one g100) (by omega)
  have T1 := T1.kp (fr.one g100) (by omega)
  have T2 := T2.kp (fr.one g100) (by omega)
  have T3 := T3.kp (fr.one g100) (by omega)
  have T4 := T4.kp (fr.one g100) (by omega)
  
  refine bg_aload0 rfl ?_
  refine bg_iconst rfl ?_
  refine bg_putfield rfl rfl o (by rfl) ⟨rfl, rfl⟩ (by rfl) (fun h105 f105 g105 => ?_)
  have o := f105
  have T0 := T0.kp (fr.one g105) (by omega)
  have T1 := T1.kp (fr.one g105) (by omega)
  have T2 := T2.kp (fr.one g105) (by omega)
  have T3 := T3.kp (fr.one g105) (by omega)
  have T4 := T4.kp (fr.one g105) (by omega)
  
  refine bg_aload0 rfl ?_
  refine bg_iconst rfl ?_
  refine bg_putfield rfl rfl o (by rfl) ⟨rfl, rfl⟩ (by rfl) (fun h110 f110 g110 => ?_)
  have o := f110
  have T0 := T0.kp (fr.one g110) (by omega)
  have T1 := T1.kp (fr.one g110) (by omega)
  have T2 := T2.kp (fr.one g110) (by omega)
  have T3 := T3.kp (fr.one g110) (by omega)
  have T4 := T4.kp (fr.one g110) (by omega)
  
  refine bg_ret rfl rfl ?_
  refine hQ _ ⟨o, T0, T1, T2, T3, T4⟩ ?_
  exact g00.trans ((((((((((((((((((((((((fr.one g5).wide (by omega) (by omega)).trans (gT0.wide (by omega) (by omega))).trans ((fr.one g14).wide (by omega) (by omega))).trans ((fr.one g18).wide (by omega) (by omega))).trans (gT1.wide (by omega) (by omega))).trans ((fr.one g28).wide (by omega) (by omega))).trans ((fr.one g32).wide (by omega) (by omega))).trans (gT2.wide (by omega) (by omega))).trans ((fr.one g42).wide (by omega) (by omega))).trans ((fr.one g46).wide (by omega) (by omega))).trans (gT3.wide (by omega) (by omega))).trans ((fr.one g56).wide (by omega) (by omega))).trans ((fr.one g60).wide (by omega) (by omega))).trans (gT4.wide (by omega) (by omega))).trans ((fr.one g70).wide (by omega) (by omega))).trans ((fr.one g75).wide (by omega) (by omega))).trans ((fr.one g80).wide (by omega) (by omega))).trans ((fr.one g85).wide (by omega) (by omega))).trans ((fr.one g90).wide (by omega) (by omega))).trans ((fr.one g95).wide (by omega) (by omega))).trans ((fr.one g100).wide (by omega) (by omega))).trans ((fr.one g105).wide (by omega) (by omega))).trans ((fr.one g110).wide (by omega) (by omega)))
-- (10, 1428) (10, 227)
end CMm
