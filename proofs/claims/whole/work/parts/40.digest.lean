/-! BarkMakers: digest. Printed by wip/whole/mk40.py. -/
def dx (d : Int64) (x : Int32) : Int64 := d * 31 + x.toInt64
def dgI (f : Int32 → Int32) : Nat → Nat → Int64 → Int64
  | 0, _, d => d
  | c + 1, i, d => dgI f c (i + 1) (dx d (f (nI i)))
def dgO (g : Nat → Int64 → Int64) : Nat → Nat → Int64 → Int64
  | 0, _, d => d
  | c + 1, i, d => dgO g c (i + 1) (g i d)
def dgF (T : List Int32) (P : Nat → bT) (S : bS) : Int64 :=
  dgO (fun i d => dgI (fiV P S (nI i)) 3 0 d) (S.2 4).length 0 (dgO (fun i d => dgI (shV S (nI i)) 4 0 d) (S.2 3).length 0 (dgO (fun i d => dgI (spV P S (nI i)) 5 0 d) (P 2).length 0 (dgO (fun i d => dgI (beV P S (nI i)) 4 0 d) (P 1).length 0
    (dgO (fun i d => dx (dgI (bkV P S (nI i)) 5 0 d) (fcF P S (bsF P S (P 1).length) (nI i))) (P 0).length 0 (dgI (cnV T P S) 15 0 821)))))
theorem isI_nI {t : bT} {i : Nat} (h : i < t.length) (ht : t.length < 2 ^ 31) : isI t (nI i) := ⟨nI_pos (by omega), nI_lt h ht⟩
theorem dg_lm (d : Int64) (x : Int32) : d * 31 + x.toInt64 = dx d x := rfl
section CMm
variable {V : bk_V} {d n : Nat} {B : Nat × Nat} {Q : bk_R → bk_H → Nat → Prop} {h : bk_H} {x : Nat} {T : List Int32} {P : Nat → bT} {S : bS} {ep : Int32} {cs : Nat × Nat}
theorem w3_n {k : Nat} (h : k < 3) : w3 (nI k) := by
  have : k = 0 ∨ k = 1 ∨ k = 2 := by omega
  rcases this with rfl | rfl | rfl <;> decide
theorem w4_n {k : Nat} (h : k < 4) : w4 (nI k) := by
  have : k = 0 ∨ k = 1 ∨ k = 2 ∨ k = 3 := by omega
  rcases this with rfl | rfl | rfl | rfl <;> decide
theorem w5_n {k : Nat} (h : k < 5) : w5 (nI k) := by
  have : k = 0 ∨ k = 1 ∨ k = 2 ∨ k = 3 ∨ k = 4 := by omega
  rcases this with rfl | rfl | rfl | rfl | rfl <;> decide
theorem w15_n {k : Nat} (h : k < 15) : w15 (nI k) := by
  have : k = 0 ∨ k = 1 ∨ k = 2 ∨ k = 3 ∨ k = 4 ∨ k = 5 ∨ k = 6 ∨ k = 7 ∨ k = 8 ∨ k = 9 ∨ k = 10 ∨ k = 11 ∨ k = 12 ∨ k = 13 ∨ k = 14 := by omega
  rcases this with rfl | rfl | rfl | rfl | rfl | rfl | rfl | rfl | rfl | rfl | rfl | rfl | rfl | rfl | rfl <;> decide
theorem bd_cnt (hW : WP P) : ∀ (c i : Nat) (dd : Int64) (h : bk_H) (x4 : Option Value), CM h x T P S ep → i + c = 15 → (∀ h', CM h' x T P S ep → fr h h' x (x + 70) → ∀ x3 x4, bk_g V (d + 6) 118 B Q 31 [some (.ref x), some (.long (dgI (cnV T P S) c i dd)), none, x3, x4] [] h' n cs) → bk_g V (d + 6) 118 B Q 6 [some (.ref x), some (.long dd), none, some (.int (nI i)), x4] [] h n cs := by
  intro c
  induction c with
  | zero =>
    intro i dd h x4 hC hi hQ
    refine bg_iload3 rfl ?_
    refine bg_bipush rfl ?_
    refine bg_icmp_gt rfl (fun e9 => ?_) (fun e9 => absurd (nI_lt (a := 14) (by omega) (by omega)) e9)
    exact hQ h hC fr.refl _ _
  | succ c ih =>
    intro i dd h x4 hC hi hQ
    obtain ⟨p, f, g, s, er, et, sP, S2, b1, b2, hC0⟩ := id hC
    obtain ⟨⟨⟨tA, k0, k1, k2, k3, k4, ktp⟩, o0, n0, n1, n2, otk⟩, ⟨⟨d0, d1, d2, d3, d4, d5⟩, pr0⟩, ⟨l0, l1, l2, l3, l4, l5⟩, ⟨m0, m1, m2, m3, m4, m5⟩, ⟨u0, u1, u2, u3, u4, u5⟩, ⟨c0, cb, cf⟩, ⟨t0, tb, tf⟩, hx⟩ := id hC0
    refine bg_iload3 rfl ?_
    refine bg_bipush rfl ?_
    refine bg_icmp_gt rfl (fun e9 => absurd e9 (nI_nlt (a := 14) (by omega) (by omega))) (fun e9 => ?_)
    refine bg_lload1 rfl ?_
    refine bg_ldc2 rfl rfl ?_
    refine bg_lmul rfl ?_
    refine bg_aload0 rfl ?_
    refine bg_iload3 rfl ?_
    refine bg_virt1 rfl rfl rfl rfl ⟨_, hx⟩ ?_
    refine bb_count hC (fun q => absurd (w15_n (k := i) (by omega)) q) (fun _ => bk_Ki ?_)
    have hC1 := hC
    have gx : fr h h x (x + 70) := fr.refl
    refine bg_i2l rfl ?_
    refine bg_ladd rfl ?_
    rw [dg_lm]
    refine bg_lstore1 rfl rfl ?_
    refine bg_iinc3 rfl rfl ?_
    rw [nI_1]
    refine bg_goto rfl ?_
    exact ih (i + 1) _ _ _ hC1 (by omega) (fun h' q1 q2 => hQ h' q1 (gx.trans q2))

theorem bd_bark {b : Nat} (hb : isI (P 0) (nI b)) (hW : WP P) : ∀ (c i : Nat) (dd : Int64) (h : bk_H), CM h x T P S ep → i + c = 5 → (∀ h', CM h' x T P S ep → fr h h' x (x + 70) → ∀ x4, bk_g V (d + 6) 118 B Q 77 [some (.ref x), some (.long (dgI (bkV P S (nI b)) c i dd)), none, some (.int (nI b)), x4] [] h' n cs) → bk_g V (d + 6) 118 B Q 50 [some (.ref x), some (.long dd), none, some (.int (nI b)), some (.int (nI i))] [] h n cs := by
  intro c
  induction c with
  | zero =>
    intro i dd h hC hi hQ
    refine bg_iload4 rfl ?_
    refine bg_iconst rfl ?_
    refine bg_icmp_gt rfl (fun e53 => ?_) (fun e53 => absurd (nI_lt (a := 4) (by omega) (by omega)) e53)
    exact hQ h hC fr.refl _
  | succ c ih =>
    intro i dd h hC hi hQ
    obtain ⟨p, f, g, s, er, et, sP, S2, b1, b2, hC0⟩ := id hC
    obtain ⟨⟨⟨tA, k0, k1, k2, k3, k4, ktp⟩, o0, n0, n1, n2, otk⟩, ⟨⟨d0, d1, d2, d3, d4, d5⟩, pr0⟩, ⟨l0, l1, l2, l3, l4, l5⟩, ⟨m0, m1, m2, m3, m4, m5⟩, ⟨u0, u1, u2, u3, u4, u5⟩, ⟨c0, cb, cf⟩, ⟨t0, tb, tf⟩, hx⟩ := id hC0
    refine bg_iload4 rfl ?_
    refine bg_iconst rfl ?_
    refine bg_icmp_gt rfl (fun e53 => absurd e53 (nI_nlt (a := 4) (by omega) (by omega))) (fun e53 => ?_)
    refine bg_lload1 rfl ?_
    refine bg_ldc2 rfl rfl ?_
    refine bg_lmul rfl ?_
    refine bg_aload0 rfl ?_
    refine bg_iload3 rfl ?_
    refine bg_iload4 rfl ?_
    refine bg_virt2 rfl rfl rfl rfl ⟨_, hx⟩ ?_
    refine bb_bark hC (fun q => absurd ⟨hb, w5_n (k := i) (by omega)⟩ q) (fun _ => bk_Ki ?_)
    have hC1 := hC
    have gx : fr h h x (x + 70) := fr.refl
    refine bg_i2l rfl ?_
    refine bg_ladd rfl ?_
    rw [dg_lm]
    refine bg_lstore1 rfl rfl ?_
    refine bg_iinc4 rfl rfl ?_
    rw [nI_1]
    refine bg_goto rfl ?_
    exact ih (i + 1) _ _ hC1 (by omega) (fun h' q1 q2 => hQ h' q1 (gx.trans q2))

theorem bd_beat {b : Nat} (hb : isI (P 1) (nI b)) (hW : WP P) : ∀ (c i : Nat) (dd : Int64) (h : bk_H), CM h x T P S ep → i + c = 4 → (∀ h', CM h' x T P S ep → fr h h' x (x + 70) → ∀ x4, bk_g V (d + 6) 118 B Q 142 [some (.ref x), some (.long (dgI (beV P S (nI b)) c i dd)), none, some (.int (nI b)), x4] [] h' n cs) → bk_g V (d + 6) 118 B Q 115 [some (.ref x), some (.long dd), none, some (.int (nI b)), some (.int (nI i))] [] h n cs := by
  intro c
  induction c with
  | zero =>
    intro i dd h hC hi hQ
    refine bg_iload4 rfl ?_
    refine bg_iconst rfl ?_
    refine bg_icmp_gt rfl (fun e118 => ?_) (fun e118 => absurd (nI_lt (a := 3) (by omega) (by omega)) e118)
    exact hQ h hC fr.refl _
  | succ c ih =>
    intro i dd h hC hi hQ
    obtain ⟨p, f, g, s, er, et, sP, S2, b1, b2, hC0⟩ := id hC
    obtain ⟨⟨⟨tA, k0, k1, k2, k3, k4, ktp⟩, o0, n0, n1, n2, otk⟩, ⟨⟨d0, d1, d2, d3, d4, d5⟩, pr0⟩, ⟨l0, l1, l2, l3, l4, l5⟩, ⟨m0, m1, m2, m3, m4, m5⟩, ⟨u0, u1, u2, u3, u4, u5⟩, ⟨c0, cb, cf⟩, ⟨t0, tb, tf⟩, hx⟩ := id hC0
    refine bg_iload4 rfl ?_
    refine bg_iconst rfl ?_
    refine bg_icmp_gt rfl (fun e118 => absurd e118 (nI_nlt (a := 3) (by omega) (by omega))) (fun e118 => ?_)
    refine bg_lload1 rfl ?_
    refine bg_ldc2 rfl rfl ?_
    refine bg_lmul rfl ?_
    refine bg_aload0 rfl ?_
    refine bg_iload3 rfl ?_
    refine bg_iload4 rfl ?_
    refine bg_virt2 rfl rfl rfl rfl ⟨_, hx⟩ ?_
    refine bb_beater hC hW (fun q => absurd ⟨hb, w4_n (k := i) (by omega)⟩ q) (fun _ hA hC1 gx => bk_Ki ?_)
    refine bg_i2l rfl ?_
    refine bg_ladd rfl ?_
    rw [dg_lm]
    refine bg_lstore1 rfl rfl ?_
    refine bg_iinc4 rfl rfl ?_
    rw [nI_1]
    refine bg_goto rfl ?_
    exact ih (i + 1) _ _ hC1 (by omega) (fun h' q1 q2 => hQ h' q1 (gx.trans q2))

theorem bd_spir {b : Nat} (hb : isI (P 2) (nI b)) (hW : WP P) : ∀ (c i : Nat) (dd : Int64) (h : bk_H), CM h x T P S ep → i + c = 5 → (∀ h', CM h' x T P S ep → fr h h' x (x + 70) → ∀ x4, bk_g V (d + 6) 118 B Q 194 [some (.ref x), some (.long (dgI (spV P S (nI b)) c i dd)), none, some (.int (nI b)), x4] [] h' n cs) → bk_g V (d + 6) 118 B Q 167 [some (.ref x), some (.long dd), none, some (.int (nI b)), some (.int (nI i))] [] h n cs := by
  intro c
  induction c with
  | zero =>
    intro i dd h hC hi hQ
    refine bg_iload4 rfl ?_
    refine bg_iconst rfl ?_
    refine bg_icmp_gt rfl (fun e170 => ?_) (fun e170 => absurd (nI_lt (a := 4) (by omega) (by omega)) e170)
    exact hQ h hC fr.refl _
  | succ c ih =>
    intro i dd h hC hi hQ
    obtain ⟨p, f, g, s, er, et, sP, S2, b1, b2, hC0⟩ := id hC
    obtain ⟨⟨⟨tA, k0, k1, k2, k3, k4, ktp⟩, o0, n0, n1, n2, otk⟩, ⟨⟨d0, d1, d2, d3, d4, d5⟩, pr0⟩, ⟨l0, l1, l2, l3, l4, l5⟩, ⟨m0, m1, m2, m3, m4, m5⟩, ⟨u0, u1, u2, u3, u4, u5⟩, ⟨c0, cb, cf⟩, ⟨t0, tb, tf⟩, hx⟩ := id hC0
    refine bg_iload4 rfl ?_
    refine bg_iconst rfl ?_
    refine bg_icmp_gt rfl (fun e170 => absurd e170 (nI_nlt (a := 4) (by omega) (by omega))) (fun e170 => ?_)
    refine bg_lload1 rfl ?_
    refine bg_ldc2 rfl rfl ?_
    refine bg_lmul rfl ?_
    refine bg_aload0 rfl ?_
    refine bg_iload3 rfl ?_
    refine bg_iload4 rfl ?_
    refine bg_virt2 rfl rfl rfl rfl ⟨_, hx⟩ ?_
    refine bb_spirit hC (fun q => absurd ⟨hb, w5_n (k := i) (by omega)⟩ q) (fun _ => bk_Ki ?_)
    have hC1 := hC
    have gx : fr h h x (x + 70) := fr.refl
    refine bg_i2l rfl ?_
    refine bg_ladd rfl ?_
    rw [dg_lm]
    refine bg_lstore1 rfl rfl ?_
    refine bg_iinc4 rfl rfl ?_
    rw [nI_1]
    refine bg_goto rfl ?_
    exact ih (i + 1) _ _ hC1 (by omega) (fun h' q1 q2 => hQ h' q1 (gx.trans q2))

theorem bd_shee {b : Nat} (hb : isI (S.2 3) (nI b)) (hW : WP P) : ∀ (c i : Nat) (dd : Int64) (h : bk_H), CM h x T P S ep → i + c = 4 → (∀ h', CM h' x T P S ep → fr h h' x (x + 70) → ∀ x4, bk_g V (d + 6) 118 B Q 246 [some (.ref x), some (.long (dgI (shV S (nI b)) c i dd)), none, some (.int (nI b)), x4] [] h' n cs) → bk_g V (d + 6) 118 B Q 219 [some (.ref x), some (.long dd), none, some (.int (nI b)), some (.int (nI i))] [] h n cs := by
  intro c
  induction c with
  | zero =>
    intro i dd h hC hi hQ
    refine bg_iload4 rfl ?_
    refine bg_iconst rfl ?_
    refine bg_icmp_gt rfl (fun e222 => ?_) (fun e222 => absurd (nI_lt (a := 3) (by omega) (by omega)) e222)
    exact hQ h hC fr.refl _
  | succ c ih =>
    intro i dd h hC hi hQ
    obtain ⟨p, f, g, s, er, et, sP, S2, b1, b2, hC0⟩ := id hC
    obtain ⟨⟨⟨tA, k0, k1, k2, k3, k4, ktp⟩, o0, n0, n1, n2, otk⟩, ⟨⟨d0, d1, d2, d3, d4, d5⟩, pr0⟩, ⟨l0, l1, l2, l3, l4, l5⟩, ⟨m0, m1, m2, m3, m4, m5⟩, ⟨u0, u1, u2, u3, u4, u5⟩, ⟨c0, cb, cf⟩, ⟨t0, tb, tf⟩, hx⟩ := id hC0
    refine bg_iload4 rfl ?_
    refine bg_iconst rfl ?_
    refine bg_icmp_gt rfl (fun e222 => absurd e222 (nI_nlt (a := 3) (by omega) (by omega))) (fun e222 => ?_)
    refine bg_lload1 rfl ?_
    refine bg_ldc2 rfl rfl ?_
    refine bg_lmul rfl ?_
    refine bg_aload0 rfl ?_
    refine bg_iload3 rfl ?_
    refine bg_iload4 rfl ?_
    refine bg_virt2 rfl rfl rfl rfl ⟨_, hx⟩ ?_
    refine bb_sheet hC (fun q => absurd ⟨hb, w4_n (k := i) (by omega)⟩ q) (fun _ => bk_Ki ?_)
    have hC1 := hC
    have gx : fr h h x (x + 70) := fr.refl
    refine bg_i2l rfl ?_
    refine bg_ladd rfl ?_
    rw [dg_lm]
    refine bg_lstore1 rfl rfl ?_
    refine bg_iinc4 rfl rfl ?_
    rw [nI_1]
    refine bg_goto rfl ?_
    exact ih (i + 1) _ _ hC1 (by omega) (fun h' q1 q2 => hQ h' q1 (gx.trans q2))

theorem bd_figu {b : Nat} (hb : isI (S.2 4) (nI b)) (hW : WP P) : ∀ (c i : Nat) (dd : Int64) (h : bk_H), CM h x T P S ep → i + c = 3 → (∀ h', CM h' x T P S ep → fr h h' x (x + 70) → ∀ x4, bk_g V (d + 6) 118 B Q 298 [some (.ref x), some (.long (dgI (fiV P S (nI b)) c i dd)), none, some (.int (nI b)), x4] [] h' n cs) → bk_g V (d + 6) 118 B Q 271 [some (.ref x), some (.long dd), none, some (.int (nI b)), some (.int (nI i))] [] h n cs := by
  intro c
  induction c with
  | zero =>
    intro i dd h hC hi hQ
    refine bg_iload4 rfl ?_
    refine bg_iconst rfl ?_
    refine bg_icmp_gt rfl (fun e274 => ?_) (fun e274 => absurd (nI_lt (a := 2) (by omega) (by omega)) e274)
    exact hQ h hC fr.refl _
  | succ c ih =>
    intro i dd h hC hi hQ
    obtain ⟨p, f, g, s, er, et, sP, S2, b1, b2, hC0⟩ := id hC
    obtain ⟨⟨⟨tA, k0, k1, k2, k3, k4, ktp⟩, o0, n0, n1, n2, otk⟩, ⟨⟨d0, d1, d2, d3, d4, d5⟩, pr0⟩, ⟨l0, l1, l2, l3, l4, l5⟩, ⟨m0, m1, m2, m3, m4, m5⟩, ⟨u0, u1, u2, u3, u4, u5⟩, ⟨c0, cb, cf⟩, ⟨t0, tb, tf⟩, hx⟩ := id hC0
    refine bg_iload4 rfl ?_
    refine bg_iconst rfl ?_
    refine bg_icmp_gt rfl (fun e274 => absurd e274 (nI_nlt (a := 2) (by omega) (by omega))) (fun e274 => ?_)
    refine bg_lload1 rfl ?_
    refine bg_ldc2 rfl rfl ?_
    refine bg_lmul rfl ?_
    refine bg_aload0 rfl ?_
    refine bg_iload3 rfl ?_
    refine bg_iload4 rfl ?_
    refine bg_virt2 rfl rfl rfl rfl ⟨_, hx⟩ ?_
    refine bb_figure hC (fun q => absurd ⟨hb, w3_n (k := i) (by omega)⟩ q) (fun _ => bk_Ki ?_)
    have hC1 := hC
    have gx : fr h h x (x + 70) := fr.refl
    refine bg_i2l rfl ?_
    refine bg_ladd rfl ?_
    rw [dg_lm]
    refine bg_lstore1 rfl rfl ?_
    refine bg_iinc4 rfl rfl ?_
    rw [nI_1]
    refine bg_goto rfl ?_
    exact ih (i + 1) _ _ hC1 (by omega) (fun h' q1 q2 => hQ h' q1 (gx.trans q2))

theorem bd_obark (hW : WP P) : ∀ (c i : Nat) (dd : Int64) (h : bk_H) (x4 : Option Value), CM h x T P S ep → i + c = (P 0).length → (∀ h', CM h' x T P S ep → fr h h' x (x + 70) → ∀ x3 x4, bk_g V (d + 6) 118 B Q 96 [some (.ref x), some (.long (dgO (fun i d => dx (dgI (bkV P S (nI i)) 5 0 d) (fcF P S (bsF P S (P 1).length) (nI i))) c i dd)), none, x3, x4] [] h' n cs) → bk_g V (d + 6) 118 B Q 33 [some (.ref x), some (.long dd), none, some (.int (nI i)), x4] [] h n cs := by
  intro c
  induction c with
  | zero =>
    intro i dd h x4 hC hi hQ
    obtain ⟨p, f, g, s, er, et, sP, S2, b1, b2, hC0⟩ := id hC
    obtain ⟨⟨⟨tA, k0, k1, k2, k3, k4, ktp⟩, o0, n0, n1, n2, otk⟩, ⟨⟨d0, d1, d2, d3, d4, d5⟩, pr0⟩, ⟨l0, l1, l2, l3, l4, l5⟩, ⟨m0, m1, m2, m3, m4, m5⟩, ⟨u0, u1, u2, u3, u4, u5⟩, ⟨c0, cb, cf⟩, ⟨t0, tb, tf⟩, hx⟩ := id hC0
    have hl : (P 0).length ≤ 30 := by have := l1.2.2.1; omega
    refine bg_iload3 rfl ?_
    refine bg_aload0 rfl ?_
    refine bg_getfield rfl rfl hx (by rfl) ?_
    refine bg_getfield rfl rfl l0 (by rfl) ?_
    refine bg_virt0 rfl rfl rfl rfl ⟨_, l1.1⟩ ?_
    refine bt_size l1 (bk_Ki ?_)
    refine bg_icmp_ge rfl (fun e44 => ?_) (fun e44 => absurd e44 (nI_nlt (by omega) (by omega)))
    exact hQ h hC fr.refl _ _
  | succ c ih =>
    intro i dd h x4 hC hi hQ
    obtain ⟨p, f, g, s, er, et, sP, S2, b1, b2, hC0⟩ := id hC
    obtain ⟨⟨⟨tA, k0, k1, k2, k3, k4, ktp⟩, o0, n0, n1, n2, otk⟩, ⟨⟨d0, d1, d2, d3, d4, d5⟩, pr0⟩, ⟨l0, l1, l2, l3, l4, l5⟩, ⟨m0, m1, m2, m3, m4, m5⟩, ⟨u0, u1, u2, u3, u4, u5⟩, ⟨c0, cb, cf⟩, ⟨t0, tb, tf⟩, hx⟩ := id hC0
    have hl : (P 0).length ≤ 30 := by have := l1.2.2.1; omega
    have hb : isI (P 0) (nI i) := isI_nI (by omega) (by omega)
    refine bg_iload3 rfl ?_
    refine bg_aload0 rfl ?_
    refine bg_getfield rfl rfl hx (by rfl) ?_
    refine bg_getfield rfl rfl l0 (by rfl) ?_
    refine bg_virt0 rfl rfl rfl rfl ⟨_, l1.1⟩ ?_
    refine bt_size l1 (bk_Ki ?_)
    refine bg_icmp_ge rfl (fun e44 => absurd (nI_lt (by omega) (by omega)) e44) (fun e44 => ?_)
    refine bg_iconst rfl ?_
    refine bg_istore4 rfl rfl ?_
    refine bd_bark hb hW _ 0 _ h hC (Nat.zero_add _) (fun hA hCA gA x4 => ?_)
    obtain ⟨p, f, g, s, er, et, sP, S2, b1, b2, hC0⟩ := id hCA
    have hx := hC0.2.2.2.2.2.2.2
    refine bg_lload1 rfl ?_
    refine bg_ldc2 rfl rfl ?_
    refine bg_lmul rfl ?_
    refine bg_aload0 rfl ?_
    refine bg_iload3 rfl ?_
    refine bg_virt1 rfl rfl rfl rfl ⟨_, hx⟩ ?_
    refine bb_force hW hCA (fun q => absurd hb q) (fun _ hB hC2 gB => bk_Ki ?_)
    have gx := gA.trans gB
    refine bg_i2l rfl ?_
    refine bg_ladd rfl ?_
    rw [dg_lm]
    refine bg_lstore1 rfl rfl ?_
    refine bg_iinc3 rfl rfl ?_
    rw [nI_1]
    refine bg_goto rfl ?_
    exact ih (i + 1) _ _ _ hC2 (by omega) (fun h' q1 q2 => hQ h' q1 (gx.trans q2))

theorem bd_obeat (hW : WP P) : ∀ (c i : Nat) (dd : Int64) (h : bk_H) (x4 : Option Value), CM h x T P S ep → i + c = (P 1).length → (∀ h', CM h' x T P S ep → fr h h' x (x + 70) → ∀ x3 x4, bk_g V (d + 6) 118 B Q 148 [some (.ref x), some (.long (dgO (fun i d => dgI (beV P S (nI i)) 4 0 d) c i dd)), none, x3, x4] [] h' n cs) → bk_g V (d + 6) 118 B Q 98 [some (.ref x), some (.long dd), none, some (.int (nI i)), x4] [] h n cs := by
  intro c
  induction c with
  | zero =>
    intro i dd h x4 hC hi hQ
    obtain ⟨p, f, g, s, er, et, sP, S2, b1, b2, hC0⟩ := id hC
    obtain ⟨⟨⟨tA, k0, k1, k2, k3, k4, ktp⟩, o0, n0, n1, n2, otk⟩, ⟨⟨d0, d1, d2, d3, d4, d5⟩, pr0⟩, ⟨l0, l1, l2, l3, l4, l5⟩, ⟨m0, m1, m2, m3, m4, m5⟩, ⟨u0, u1, u2, u3, u4, u5⟩, ⟨c0, cb, cf⟩, ⟨t0, tb, tf⟩, hx⟩ := id hC0
    have hl : (P 1).length ≤ 30 := by have := l2.2.2.1; omega
    refine bg_iload3 rfl ?_
    refine bg_aload0 rfl ?_
    refine bg_getfield rfl rfl hx (by rfl) ?_
    refine bg_getfield rfl rfl l0 (by rfl) ?_
    refine bg_virt0 rfl rfl rfl rfl ⟨_, l2.1⟩ ?_
    refine bt_size l2 (bk_Ki ?_)
    refine bg_icmp_ge rfl (fun e109 => ?_) (fun e109 => absurd e109 (nI_nlt (by omega) (by omega)))
    exact hQ h hC fr.refl _ _
  | succ c ih =>
    intro i dd h x4 hC hi hQ
    obtain ⟨p, f, g, s, er, et, sP, S2, b1, b2, hC0⟩ := id hC
    obtain ⟨⟨⟨tA, k0, k1, k2, k3, k4, ktp⟩, o0, n0, n1, n2, otk⟩, ⟨⟨d0, d1, d2, d3, d4, d5⟩, pr0⟩, ⟨l0, l1, l2, l3, l4, l5⟩, ⟨m0, m1, m2, m3, m4, m5⟩, ⟨u0, u1, u2, u3, u4, u5⟩, ⟨c0, cb, cf⟩, ⟨t0, tb, tf⟩, hx⟩ := id hC0
    have hl : (P 1).length ≤ 30 := by have := l2.2.2.1; omega
    have hb : isI (P 1) (nI i) := isI_nI (by omega) (by omega)
    refine bg_iload3 rfl ?_
    refine bg_aload0 rfl ?_
    refine bg_getfield rfl rfl hx (by rfl) ?_
    refine bg_getfield rfl rfl l0 (by rfl) ?_
    refine bg_virt0 rfl rfl rfl rfl ⟨_, l2.1⟩ ?_
    refine bt_size l2 (bk_Ki ?_)
    refine bg_icmp_ge rfl (fun e109 => absurd (nI_lt (by omega) (by omega)) e109) (fun e109 => ?_)
    refine bg_iconst rfl ?_
    refine bg_istore4 rfl rfl ?_
    refine bd_beat hb hW _ 0 _ h hC (Nat.zero_add _) (fun hA hCA gA x4 => ?_)
    have hC2 := hCA
    have gx := gA
    refine bg_iinc3 rfl rfl ?_
    rw [nI_1]
    refine bg_goto rfl ?_
    exact ih (i + 1) _ _ _ hC2 (by omega) (fun h' q1 q2 => hQ h' q1 (gx.trans q2))

theorem bd_ospir (hW : WP P) : ∀ (c i : Nat) (dd : Int64) (h : bk_H) (x4 : Option Value), CM h x T P S ep → i + c = (P 2).length → (∀ h', CM h' x T P S ep → fr h h' x (x + 70) → ∀ x3 x4, bk_g V (d + 6) 118 B Q 200 [some (.ref x), some (.long (dgO (fun i d => dgI (spV P S (nI i)) 5 0 d) c i dd)), none, x3, x4] [] h' n cs) → bk_g V (d + 6) 118 B Q 150 [some (.ref x), some (.long dd), none, some (.int (nI i)), x4] [] h n cs := by
  intro c
  induction c with
  | zero =>
    intro i dd h x4 hC hi hQ
    obtain ⟨p, f, g, s, er, et, sP, S2, b1, b2, hC0⟩ := id hC
    obtain ⟨⟨⟨tA, k0, k1, k2, k3, k4, ktp⟩, o0, n0, n1, n2, otk⟩, ⟨⟨d0, d1, d2, d3, d4, d5⟩, pr0⟩, ⟨l0, l1, l2, l3, l4, l5⟩, ⟨m0, m1, m2, m3, m4, m5⟩, ⟨u0, u1, u2, u3, u4, u5⟩, ⟨c0, cb, cf⟩, ⟨t0, tb, tf⟩, hx⟩ := id hC0
    have hl : (P 2).length ≤ 30 := by have := l3.2.2.1; omega
    refine bg_iload3 rfl ?_
    refine bg_aload0 rfl ?_
    refine bg_getfield rfl rfl hx (by rfl) ?_
    refine bg_getfield rfl rfl l0 (by rfl) ?_
    refine bg_virt0 rfl rfl rfl rfl ⟨_, l3.1⟩ ?_
    refine bt_size l3 (bk_Ki ?_)
    refine bg_icmp_ge rfl (fun e161 => ?_) (fun e161 => absurd e161 (nI_nlt (by omega) (by omega)))
    exact hQ h hC fr.refl _ _
  | succ c ih =>
    intro i dd h x4 hC hi hQ
    obtain ⟨p, f, g, s, er, et, sP, S2, b1, b2, hC0⟩ := id hC
    obtain ⟨⟨⟨tA, k0, k1, k2, k3, k4, ktp⟩, o0, n0, n1, n2, otk⟩, ⟨⟨d0, d1, d2, d3, d4, d5⟩, pr0⟩, ⟨l0, l1, l2, l3, l4, l5⟩, ⟨m0, m1, m2, m3, m4, m5⟩, ⟨u0, u1, u2, u3, u4, u5⟩, ⟨c0, cb, cf⟩, ⟨t0, tb, tf⟩, hx⟩ := id hC0
    have hl : (P 2).length ≤ 30 := by have := l3.2.2.1; omega
    have hb : isI (P 2) (nI i) := isI_nI (by omega) (by omega)
    refine bg_iload3 rfl ?_
    refine bg_aload0 rfl ?_
    refine bg_getfield rfl rfl hx (by rfl) ?_
    refine bg_getfield rfl rfl l0 (by rfl) ?_
    refine bg_virt0 rfl rfl rfl rfl ⟨_, l3.1⟩ ?_
    refine bt_size l3 (bk_Ki ?_)
    refine bg_icmp_ge rfl (fun e161 => absurd (nI_lt (by omega) (by omega)) e161) (fun e161 => ?_)
    refine bg_iconst rfl ?_
    refine bg_istore4 rfl rfl ?_
    refine bd_spir hb hW _ 0 _ h hC (Nat.zero_add _) (fun hA hCA gA x4 => ?_)
    have hC2 := hCA
    have gx := gA
    refine bg_iinc3 rfl rfl ?_
    rw [nI_1]
    refine bg_goto rfl ?_
    exact ih (i + 1) _ _ _ hC2 (by omega) (fun h' q1 q2 => hQ h' q1 (gx.trans q2))

theorem bd_oshee (hW : WP P) : ∀ (c i : Nat) (dd : Int64) (h : bk_H) (x4 : Option Value), CM h x T P S ep → i + c = (S.2 3).length → (∀ h', CM h' x T P S ep → fr h h' x (x + 70) → ∀ x3 x4, bk_g V (d + 6) 118 B Q 252 [some (.ref x), some (.long (dgO (fun i d => dgI (shV S (nI i)) 4 0 d) c i dd)), none, x3, x4] [] h' n cs) → bk_g V (d + 6) 118 B Q 202 [some (.ref x), some (.long dd), none, some (.int (nI i)), x4] [] h n cs := by
  intro c
  induction c with
  | zero =>
    intro i dd h x4 hC hi hQ
    obtain ⟨p, f, g, s, er, et, sP, S2, b1, b2, hC0⟩ := id hC
    obtain ⟨⟨⟨tA, k0, k1, k2, k3, k4, ktp⟩, o0, n0, n1, n2, otk⟩, ⟨⟨d0, d1, d2, d3, d4, d5⟩, pr0⟩, ⟨l0, l1, l2, l3, l4, l5⟩, ⟨m0, m1, m2, m3, m4, m5⟩, ⟨u0, u1, u2, u3, u4, u5⟩, ⟨c0, cb, cf⟩, ⟨t0, tb, tf⟩, hx⟩ := id hC0
    have hl : (S.2 3).length ≤ 30 := by have := m4.2.2.1; omega
    refine bg_iload3 rfl ?_
    refine bg_aload0 rfl ?_
    refine bg_getfield rfl rfl hx (by rfl) ?_
    refine bg_getfield rfl rfl m0 (by rfl) ?_
    refine bg_virt0 rfl rfl rfl rfl ⟨_, m4.1⟩ ?_
    refine bt_size m4 (bk_Ki ?_)
    refine bg_icmp_ge rfl (fun e213 => ?_) (fun e213 => absurd e213 (nI_nlt (by omega) (by omega)))
    exact hQ h hC fr.refl _ _
  | succ c ih =>
    intro i dd h x4 hC hi hQ
    obtain ⟨p, f, g, s, er, et, sP, S2, b1, b2, hC0⟩ := id hC
    obtain ⟨⟨⟨tA, k0, k1, k2, k3, k4, ktp⟩, o0, n0, n1, n2, otk⟩, ⟨⟨d0, d1, d2, d3, d4, d5⟩, pr0⟩, ⟨l0, l1, l2, l3, l4, l5⟩, ⟨m0, m1, m2, m3, m4, m5⟩, ⟨u0, u1, u2, u3, u4, u5⟩, ⟨c0, cb, cf⟩, ⟨t0, tb, tf⟩, hx⟩ := id hC0
    have hl : (S.2 3).length ≤ 30 := by have := m4.2.2.1; omega
    have hb : isI (S.2 3) (nI i) := isI_nI (by omega) (by omega)
    refine bg_iload3 rfl ?_
    refine bg_aload0 rfl ?_
    refine bg_getfield rfl rfl hx (by rfl) ?_
    refine bg_getfield rfl rfl m0 (by rfl) ?_
    refine bg_virt0 rfl rfl rfl rfl ⟨_, m4.1⟩ ?_
    refine bt_size m4 (bk_Ki ?_)
    refine bg_icmp_ge rfl (fun e213 => absurd (nI_lt (by omega) (by omega)) e213) (fun e213 => ?_)
    refine bg_iconst rfl ?_
    refine bg_istore4 rfl rfl ?_
    refine bd_shee hb hW _ 0 _ h hC (Nat.zero_add _) (fun hA hCA gA x4 => ?_)
    have hC2 := hCA
    have gx := gA
    refine bg_iinc3 rfl rfl ?_
    rw [nI_1]
    refine bg_goto rfl ?_
    exact ih (i + 1) _ _ _ hC2 (by omega) (fun h' q1 q2 => hQ h' q1 (gx.trans q2))

theorem bd_ofigu (hW : WP P) : ∀ (c i : Nat) (dd : Int64) (h : bk_H) (x4 : Option Value), CM h x T P S ep → i + c = (S.2 4).length → (∀ h', CM h' x T P S ep → fr h h' x (x + 70) → ∀ x3 x4, bk_g V (d + 6) 118 B Q 304 [some (.ref x), some (.long (dgO (fun i d => dgI (fiV P S (nI i)) 3 0 d) c i dd)), none, x3, x4] [] h' n cs) → bk_g V (d + 6) 118 B Q 254 [some (.ref x), some (.long dd), none, some (.int (nI i)), x4] [] h n cs := by
  intro c
  induction c with
  | zero =>
    intro i dd h x4 hC hi hQ
    obtain ⟨p, f, g, s, er, et, sP, S2, b1, b2, hC0⟩ := id hC
    obtain ⟨⟨⟨tA, k0, k1, k2, k3, k4, ktp⟩, o0, n0, n1, n2, otk⟩, ⟨⟨d0, d1, d2, d3, d4, d5⟩, pr0⟩, ⟨l0, l1, l2, l3, l4, l5⟩, ⟨m0, m1, m2, m3, m4, m5⟩, ⟨u0, u1, u2, u3, u4, u5⟩, ⟨c0, cb, cf⟩, ⟨t0, tb, tf⟩, hx⟩ := id hC0
    have hl : (S.2 4).length ≤ 30 := by have := m5.2.2.1; omega
    refine bg_iload3 rfl ?_
    refine bg_aload0 rfl ?_
    refine bg_getfield rfl rfl hx (by rfl) ?_
    refine bg_getfield rfl rfl m0 (by rfl) ?_
    refine bg_virt0 rfl rfl rfl rfl ⟨_, m5.1⟩ ?_
    refine bt_size m5 (bk_Ki ?_)
    refine bg_icmp_ge rfl (fun e265 => ?_) (fun e265 => absurd e265 (nI_nlt (by omega) (by omega)))
    exact hQ h hC fr.refl _ _
  | succ c ih =>
    intro i dd h x4 hC hi hQ
    obtain ⟨p, f, g, s, er, et, sP, S2, b1, b2, hC0⟩ := id hC
    obtain ⟨⟨⟨tA, k0, k1, k2, k3, k4, ktp⟩, o0, n0, n1, n2, otk⟩, ⟨⟨d0, d1, d2, d3, d4, d5⟩, pr0⟩, ⟨l0, l1, l2, l3, l4, l5⟩, ⟨m0, m1, m2, m3, m4, m5⟩, ⟨u0, u1, u2, u3, u4, u5⟩, ⟨c0, cb, cf⟩, ⟨t0, tb, tf⟩, hx⟩ := id hC0
    have hl : (S.2 4).length ≤ 30 := by have := m5.2.2.1; omega
    have hb : isI (S.2 4) (nI i) := isI_nI (by omega) (by omega)
    refine bg_iload3 rfl ?_
    refine bg_aload0 rfl ?_
    refine bg_getfield rfl rfl hx (by rfl) ?_
    refine bg_getfield rfl rfl m0 (by rfl) ?_
    refine bg_virt0 rfl rfl rfl rfl ⟨_, m5.1⟩ ?_
    refine bt_size m5 (bk_Ki ?_)
    refine bg_icmp_ge rfl (fun e265 => absurd (nI_lt (by omega) (by omega)) e265) (fun e265 => ?_)
    refine bg_iconst rfl ?_
    refine bg_istore4 rfl rfl ?_
    refine bd_figu hb hW _ 0 _ h hC (Nat.zero_add _) (fun hA hCA gA x4 => ?_)
    have hC2 := hCA
    have gx := gA
    refine bg_iinc3 rfl rfl ?_
    rw [nI_1]
    refine bg_goto rfl ?_
    exact ih (i + 1) _ _ _ hC2 (by omega) (fun h' q1 q2 => hQ h' q1 (gx.trans q2))

theorem bb_digest (hW : WP P) (hC : CM h x T P S ep) (hQ : ∀ h', CM h' x T P S ep → fr h h' x (x + 70) → Q (.inl (some (.long (dgF T P S)))) h' n) : bk_wp V (d + 7) 118 [.ref x] h n B Q := by
  refine bg_in rfl rfl ?_
  refine bg_ldc2 rfl rfl ?_
  refine bg_lstore1 rfl rfl ?_
  refine bg_iconst rfl ?_
  refine bg_istore3 rfl rfl ?_
  refine bd_cnt hW 15 0 _ h _ hC rfl (fun hA1 hCA gA x3 x4 => ?_)
  refine bg_iconst rfl ?_
  refine bg_istore3 rfl rfl ?_
  refine bd_obark hW _ 0 _ _ _ hCA (Nat.zero_add _) (fun hB1 hCB gB x3 x4 => ?_)
  refine bg_iconst rfl ?_
  refine bg_istore3 rfl rfl ?_
  refine bd_obeat hW _ 0 _ _ _ hCB (Nat.zero_add _) (fun hC1 hCC gC x3 x4 => ?_)
  refine bg_iconst rfl ?_
  refine bg_istore3 rfl rfl ?_
  refine bd_ospir hW _ 0 _ _ _ hCC (Nat.zero_add _) (fun hD1 hCD gD x3 x4 => ?_)
  refine bg_iconst rfl ?_
  refine bg_istore3 rfl rfl ?_
  refine bd_oshee hW _ 0 _ _ _ hCD (Nat.zero_add _) (fun hE1 hCE gE x3 x4 => ?_)
  refine bg_iconst rfl ?_
  refine bg_istore3 rfl rfl ?_
  refine bd_ofigu hW _ 0 _ _ _ hCE (Nat.zero_add _) (fun hF1 hCF gF x3 x4 => ?_)
  refine bg_lload1 rfl ?_
  refine bg_lret rfl rfl ?_
  exact hQ _ hCF (((((gA.trans gB).trans gC).trans gD).trans gE).trans gF)
end CMm
