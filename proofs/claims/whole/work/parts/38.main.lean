/-! BarkMakers: by hand, hours, what would be. Printed by wip/whole/mk38.py. -/
abbrev inR (v a b : Int32) : Prop := ¬ v < a ∧ ¬ b < v
def utL (P : Nat → bT) (g : Int32) : Nat → Nat → bS → Int32
  | 0, _, _ => -1
  | c + 1, k, S => if 0 < tC (S.2 4) 0 g then nI k else utL P g c (k + 1) (hourF P S)
def foV (S S2 : bS) (w : Int32) : Int32 := if w = 0 then S2.1 3 - S.1 3 else if w = 1 then nI (S2.2 3).length else if w = 2 then nI (S2.2 4).length else if w = 3 then S2.1 4 - S.1 4 else nI (tCp (fun x => !decide (x < 5)) (S2.2 3) 3)
def adL (P : Nat → bT) (S : bS) (b : Int32) : Nat → Nat → Int32 × Int32 → Int32 × Int32
  | 0, _, q => q
  | c + 1, e, q => adL P S b c (e + 1) (if ¬ (goF P 48 (S.1, uT S.2 1 (rS (S.2 1) b 0 (nI e)))).1 4 < q.1 then ((goF P 48 (S.1, uT S.2 1 (rS (S.2 1) b 0 (nI e)))).1 4, nI e) else q)
def bsL (P : Nat → bT) (S : bS) (H : Nat) : Nat → Nat → Int32 × Int32 → Int32 × Int32
  | 0, _, q => q
  | c + 1, w, q => bsL P S H c (w + 1) (if q.1 < (goF P H (upd S.1 1 (nI w), S.2)).1 3 then ((goF P H (upd S.1 1 (nI w), S.2)).1 3, nI w) else q)
def spL (P : Nat → bT) (S : bS) (H : Nat) : Nat → Nat → Int32 × Int32 → Int32 × Int32
  | 0, _, q => q
  | c + 1, k, q => spL P S H c (k + 1) (if q.1 < (goF P H (upd S.1 7 (nI k - 1), S.2)).1 4 ∨ ((goF P H (upd S.1 7 (nI k - 1), S.2)).1 4 = q.1 ∧ q.2 = -1) then ((goF P H (upd S.1 7 (nI k - 1), S.2)).1 4, nI k - 1) else q)
theorem inR_nI {v : Int32} {a b : Nat} (ha : a < 2 ^ 31) (hb : b < 2 ^ 31) (h : inR v (nI a) (nI b)) : ∃ j, a ≤ j ∧ j ≤ b ∧ v = nI j := by
  have h0 : ¬ v < 0 := fun q => h.1 (Int32.lt_of_lt_of_le q (nI_pos' ha))
  obtain ⟨j, hj, rfl⟩ := nI_of h0
  exact ⟨j, Nat.le_of_not_lt fun q => h.1 (nI_lt q ha), Nat.le_of_not_lt fun q => h.2 (nI_lt q hj), rfl⟩
section CMm
variable {V : bk_V} {d n : Nat} {B : Nat × Nat} {Q : bk_R → bk_H → Nat → Prop} {h : bk_H} {x : Nat} {T : List Int32} {P : Nat → bT} {S : bS} {ep : Int32} {cs : Nat × Nat}
theorem bb_force {b : Int32}  (hW : WP P) (hC : CM h x T P S ep) (hE : ¬ isI (P 0) b → 1 ≤ B.1 ∧ 6 ≤ B.2 ∧ ∀ n', n ≤ n' → Q (.inr "java/lang/IndexOutOfBoundsException") h n') (hQ : isI (P 0) b → ∀ h', CM h' x T P S ep → fr h h' x (x + 70) → Q (.inl (some (.int (fcF P S (bsF P S (P 1).length) b)))) h' n) : bk_wp V (d + 6) 105 [.ref x, .int b] h n B Q := by
  obtain ⟨p, f, g, s, er, et, sP, S2, b1, b2, hC0⟩ := id hC
  obtain ⟨⟨⟨tA, k0, k1, k2, k3, k4, ktp⟩, o0, n0, n1, n2, otk⟩, ⟨⟨d0, d1, d2, d3, d4, d5⟩, pr0⟩, ⟨l0, l1, l2, l3, l4, l5⟩, ⟨m0, m1, m2, m3, m4, m5⟩, ⟨u0, u1, u2, u3, u4, u5⟩, ⟨c0, cb, cf⟩, ⟨t0, tb, tf⟩, hx⟩ := id hC0
  refine bg_in rfl rfl ?_
  refine bg_aload0 rfl ?_
  refine bg_getfield rfl rfl hx (by rfl) ?_
  refine bg_getfield rfl rfl l0 (by rfl) ?_
  refine bg_iload1 rfl ?_
  refine bg_virt1 rfl rfl rfl rfl ⟨_, l1.1⟩ ?_
  refine bt_has l1 (bk_Ki ?_)
  refine bg_ifne_b rfl (fun e11 => ?_) (fun e11 => ?_)
  · refine bg_aload0 rfl ?_
    refine bg_getfield rfl rfl hx (by rfl) ?_
    refine bg_virt0 rfl rfl rfl rfl ⟨_, c0⟩ ?_
    refine bc_cho hC0.course hW (fun hA kA gA => bk_Kv ?_)
    obtain ⟨z1, gA⟩ := hC0.now kA gA
    have hCA : CM hA x T P S ep := ⟨_, _, _, _, _, _, _, _, _, _, z1⟩
    have hx := z1.2.2.2.2.2.2.2
    have c0 := kA.2.2.1.1
    refine bg_aload0 rfl ?_
    refine bg_getfield rfl rfl hx (by rfl) ?_
    refine bg_iload1 rfl ?_
    refine bg_virt1 rfl rfl rfl rfl ⟨_, c0⟩ ?_
    refine bc_force kA (bk_Ki ?_)
    refine bg_iret rfl rfl (by rfl) ?_
    exact hQ e11 hA hCA gA
  · have hno := hE e11
    exact bg_throw rfl rfl rfl (by show 0 + 1 ≤ B.1; have := hno.1; omega) (by show 0 + 6 ≤ B.2; have := hno.2.1; omega) hno.2.2
theorem bb_setWeather {v : Int32}  (hC : CM h x T P S ep) (hE : ¬ inR v 0 5 → 1 ≤ B.1 ∧ 6 ≤ B.2 ∧ ∀ n', n ≤ n' → Q (.inr "java/lang/IllegalArgumentException") h n') (hQ : inR v 0 5 → ∀ h', CM h' x T P (upd S.1 1 v, S.2) ep → fr h h' x (x + 70) → Q (.inl (some (.int (S.1 1)))) h' n) : bk_wp V (d + 1) 106 [.ref x, .int v] h n B Q := by
  obtain ⟨p, f, g, s, er, et, sP, S2, b1, b2, hC0⟩ := id hC
  obtain ⟨⟨⟨tA, k0, k1, k2, k3, k4, ktp⟩, o0, n0, n1, n2, otk⟩, ⟨⟨d0, d1, d2, d3, d4, d5⟩, pr0⟩, ⟨l0, l1, l2, l3, l4, l5⟩, ⟨m0, m1, m2, m3, m4, m5⟩, ⟨u0, u1, u2, u3, u4, u5⟩, ⟨c0, cb, cf⟩, ⟨t0, tb, tf⟩, hx⟩ := id hC0
  refine bg_in rfl rfl ?_
  refine bg_iload1 rfl ?_
  refine bg_if_lt rfl (fun e1 => ?_) (fun e1 => ?_)
  · have hno := hE (fun q => q.1 e1)
    exact bg_throw rfl rfl rfl (by show 0 + 1 ≤ B.1; have := hno.1; omega) (by show 0 + 6 ≤ B.2; have := hno.2.1; omega) hno.2.2
  · refine bg_iload1 rfl ?_
    refine bg_iconst rfl ?_
    refine bg_icmp_le rfl (fun e6 => ?_) (fun e6 => ?_)
    · refine bg_aload0 rfl ?_
      refine bg_getfield rfl rfl hx (by rfl) ?_
      refine bg_getfield rfl rfl m0 (by rfl) ?_
      refine bg_istore2 rfl rfl ?_
      refine bg_aload0 rfl ?_
      refine bg_getfield rfl rfl hx (by rfl) ?_
      refine bg_iload1 rfl ?_
      refine bg_putfield rfl rfl m0 (by rfl) ⟨rfl, rfl⟩ (by rfl) (fun h32 f32 g32 => ?_)
      have hM := hC0.2.2.2.1.i1 f32 g32
      have z1 := hC0.mo hM ((fr.one g32).wide (by omega) (by omega))
      have hCA : CM h32 x T P _ ep := ⟨_, _, _, _, _, _, _, _, _, _, z1⟩
      refine bg_iload2 rfl ?_
      refine bg_iret rfl rfl (by rfl) ?_
      exact hQ ⟨e1, e6⟩ h32 hCA ((fr.one g32).wide (by omega) (by omega))
    · have hno := hE (fun q => q.2 e6)
      exact bg_throw rfl rfl rfl (by show 0 + 1 ≤ B.1; have := hno.1; omega) (by show 0 + 6 ≤ B.2; have := hno.2.1; omega) hno.2.2
theorem bb_setTourists {v : Int32}  (hC : CM h x T P S ep) (hE : ¬ inR v 0 20 → 1 ≤ B.1 ∧ 6 ≤ B.2 ∧ ∀ n', n ≤ n' → Q (.inr "java/lang/IllegalArgumentException") h n') (hQ : inR v 0 20 → ∀ h', CM h' x T P (upd S.1 2 v, S.2) ep → fr h h' x (x + 70) → Q (.inl (some (.int (S.1 2)))) h' n) : bk_wp V (d + 1) 107 [.ref x, .int v] h n B Q := by
  obtain ⟨p, f, g, s, er, et, sP, S2, b1, b2, hC0⟩ := id hC
  obtain ⟨⟨⟨tA, k0, k1, k2, k3, k4, ktp⟩, o0, n0, n1, n2, otk⟩, ⟨⟨d0, d1, d2, d3, d4, d5⟩, pr0⟩, ⟨l0, l1, l2, l3, l4, l5⟩, ⟨m0, m1, m2, m3, m4, m5⟩, ⟨u0, u1, u2, u3, u4, u5⟩, ⟨c0, cb, cf⟩, ⟨t0, tb, tf⟩, hx⟩ := id hC0
  refine bg_in rfl rfl ?_
  refine bg_iload1 rfl ?_
  refine bg_if_lt rfl (fun e1 => ?_) (fun e1 => ?_)
  · have hno := hE (fun q => q.1 e1)
    exact bg_throw rfl rfl rfl (by show 0 + 1 ≤ B.1; have := hno.1; omega) (by show 0 + 6 ≤ B.2; have := hno.2.1; omega) hno.2.2
  · refine bg_iload1 rfl ?_
    refine bg_bipush rfl ?_
    refine bg_icmp_le rfl (fun e7 => ?_) (fun e7 => ?_)
    · refine bg_aload0 rfl ?_
      refine bg_getfield rfl rfl hx (by rfl) ?_
      refine bg_getfield rfl rfl m0 (by rfl) ?_
      refine bg_istore2 rfl rfl ?_
      refine bg_aload0 rfl ?_
      refine bg_getfield rfl rfl hx (by rfl) ?_
      refine bg_iload1 rfl ?_
      refine bg_putfield rfl rfl m0 (by rfl) ⟨rfl, rfl⟩ (by rfl) (fun h33 f33 g33 => ?_)
      have hM := hC0.2.2.2.1.i2 f33 g33
      have z1 := hC0.mo hM ((fr.one g33).wide (by omega) (by omega))
      have hCA : CM h33 x T P _ ep := ⟨_, _, _, _, _, _, _, _, _, _, z1⟩
      refine bg_iload2 rfl ?_
      refine bg_iret rfl rfl (by rfl) ?_
      exact hQ ⟨e1, e7⟩ h33 hCA ((fr.one g33).wide (by omega) (by omega))
    · have hno := hE (fun q => q.2 e7)
      exact bg_throw rfl rfl rfl (by show 0 + 1 ≤ B.1; have := hno.1; omega) (by show 0 + 6 ≤ B.2; have := hno.2.1; omega) hno.2.2
theorem bb_tune {b v : Int32}  (hC : CM h x T P S ep) (hE : ¬ isI (P 1) b → 1 ≤ B.1 ∧ 6 ≤ B.2 ∧ ∀ n', n ≤ n' → Q (.inr "java/lang/IndexOutOfBoundsException") h n') (hE2 : isI (P 1) b → ¬ inR v 1 6 → 1 ≤ B.1 ∧ 6 ≤ B.2 ∧ ∀ n', n ≤ n' → Q (.inr "java/lang/IllegalArgumentException") h n') (hQ : isI (P 1) b → inR v 1 6 → ∀ h', CM h' x T P (S.1, uT S.2 1 (rS (S.2 1) b 0 v)) ep → fr h h' x (x + 70) → Q (.inl (some (.int (rG (S.2 1) b 0)))) h' n) : bk_wp V (d + 2) 108 [.ref x, .int b, .int v] h n B Q := by
  obtain ⟨p, f, g, s, er, et, sP, S2, b1, b2, hC0⟩ := id hC
  obtain ⟨⟨⟨tA, k0, k1, k2, k3, k4, ktp⟩, o0, n0, n1, n2, otk⟩, ⟨⟨d0, d1, d2, d3, d4, d5⟩, pr0⟩, ⟨l0, l1, l2, l3, l4, l5⟩, ⟨m0, m1, m2, m3, m4, m5⟩, ⟨u0, u1, u2, u3, u4, u5⟩, ⟨c0, cb, cf⟩, ⟨t0, tb, tf⟩, hx⟩ := id hC0
  refine bg_in rfl rfl ?_
  refine bg_aload0 rfl ?_
  refine bg_getfield rfl rfl hx (by rfl) ?_
  refine bg_getfield rfl rfl l0 (by rfl) ?_
  refine bg_iload1 rfl ?_
  refine bg_virt1 rfl rfl rfl rfl ⟨_, l2.1⟩ ?_
  refine bt_has l2 (bk_Ki ?_)
  refine bg_ifne_b rfl (fun e11 => ?_) (fun e11 => ?_)
  · refine bg_iload2 rfl ?_
    refine bg_iconst rfl ?_
    refine bg_icmp_lt rfl (fun e26 => ?_) (fun e26 => ?_)
    · have hno := hE2 e11 (fun q => q.1 e26)
      exact bg_throw rfl rfl rfl (by show 0 + 1 ≤ B.1; have := hno.1; omega) (by show 0 + 6 ≤ B.2; have := hno.2.1; omega) hno.2.2
    · refine bg_iload2 rfl ?_
      refine bg_bipush rfl ?_
      refine bg_icmp_le rfl (fun e32 => ?_) (fun e32 => ?_)
      · refine bg_aload0 rfl ?_
        refine bg_getfield rfl rfl hx (by rfl) ?_
        refine bg_getfield rfl rfl m0 (by rfl) ?_
        refine bg_iload1 rfl ?_
        refine bg_iconst rfl ?_
        refine bg_virt2 rfl rfl rfl rfl ⟨_, m2.1⟩ ?_
        refine bt_get m2 rfl (by decide) (bk_Ki ?_)
        refine bg_istore3 rfl rfl ?_
        refine bg_aload0 rfl ?_
        refine bg_getfield rfl rfl hx (by rfl) ?_
        refine bg_getfield rfl rfl m0 (by rfl) ?_
        refine bg_iload1 rfl ?_
        refine bg_iconst rfl ?_
        refine bg_iload2 rfl ?_
        refine bg_virt3 rfl rfl rfl rfl ⟨_, m2.1⟩ ?_
        refine bt_set m2 rfl (by decide) (fun hA kA gA => bk_Kv ?_)
        have z1 := hC0.mo (hC0.2.2.2.1.t1 kA gA) (gA.wide (by omega) (by omega))
        have hCA : CM hA x T P _ ep := ⟨_, _, _, _, _, _, _, _, _, _, z1⟩
        refine bg_iload3 rfl ?_
        refine bg_iret rfl rfl (by rfl) ?_
        exact hQ e11 ⟨e26, e32⟩ hA hCA (gA.wide (by omega) (by omega))
      · have hno := hE2 e11 (fun q => q.2 e32)
        exact bg_throw rfl rfl rfl (by show 0 + 1 ≤ B.1; have := hno.1; omega) (by show 0 + 6 ≤ B.2; have := hno.2.1; omega) hno.2.2
  · have hno := hE e11
    exact bg_throw rfl rfl rfl (by show 0 + 1 ≤ B.1; have := hno.1; omega) (by show 0 + 6 ≤ B.2; have := hno.2.1; omega) hno.2.2
theorem bb_burn {b : Int32}  (hC : CM h x T P S ep) (hE : ¬ isI (S.2 3) b → 1 ≤ B.1 ∧ 6 ≤ B.2 ∧ ∀ n', n ≤ n' → Q (.inr "java/lang/IndexOutOfBoundsException") h n') (hQ : isI (S.2 3) b → ∀ h', CM h' x T P (S.1, uT S.2 3 (rE (S.2 3) b)) ep → fr h h' x (x + 70) → Q (.inl (some (.int (rG (S.2 3) b 3)))) h' n) : bk_wp V (d + 2) 109 [.ref x, .int b] h n B Q := by
  obtain ⟨p, f, g, s, er, et, sP, S2, b1, b2, hC0⟩ := id hC
  obtain ⟨⟨⟨tA, k0, k1, k2, k3, k4, ktp⟩, o0, n0, n1, n2, otk⟩, ⟨⟨d0, d1, d2, d3, d4, d5⟩, pr0⟩, ⟨l0, l1, l2, l3, l4, l5⟩, ⟨m0, m1, m2, m3, m4, m5⟩, ⟨u0, u1, u2, u3, u4, u5⟩, ⟨c0, cb, cf⟩, ⟨t0, tb, tf⟩, hx⟩ := id hC0
  refine bg_in rfl rfl ?_
  refine bg_aload0 rfl ?_
  refine bg_getfield rfl rfl hx (by rfl) ?_
  refine bg_getfield rfl rfl m0 (by rfl) ?_
  refine bg_iload1 rfl ?_
  refine bg_virt1 rfl rfl rfl rfl ⟨_, m4.1⟩ ?_
  refine bt_has m4 (bk_Ki ?_)
  refine bg_ifne_b rfl (fun e11 => ?_) (fun e11 => ?_)
  · refine bg_aload0 rfl ?_
    refine bg_getfield rfl rfl hx (by rfl) ?_
    refine bg_getfield rfl rfl m0 (by rfl) ?_
    refine bg_iload1 rfl ?_
    refine bg_iconst rfl ?_
    refine bg_virt2 rfl rfl rfl rfl ⟨_, m4.1⟩ ?_
    refine bt_get m4 rfl (by decide) (bk_Ki ?_)
    refine bg_istore2 rfl rfl ?_
    refine bg_aload0 rfl ?_
    refine bg_getfield rfl rfl hx (by rfl) ?_
    refine bg_getfield rfl rfl m0 (by rfl) ?_
    refine bg_iload1 rfl ?_
    refine bg_virt1 rfl rfl rfl rfl ⟨_, m4.1⟩ ?_
    refine bt_remove m4 (fun hA kA gA => bk_Kv ?_)
    have z1 := hC0.mo (hC0.2.2.2.1.t3 kA gA) (gA.wide (by omega) (by omega))
    have hCA : CM hA x T P _ ep := ⟨_, _, _, _, _, _, _, _, _, _, z1⟩
    refine bg_iload2 rfl ?_
    refine bg_iret rfl rfl (by rfl) ?_
    exact hQ e11 hA hCA (gA.wide (by omega) (by omega))
  · have hno := hE e11
    exact bg_throw rfl rfl rfl (by show 0 + 1 ≤ B.1; have := hno.1; omega) (by show 0 + 6 ≤ B.2; have := hno.2.1; omega) hno.2.2
theorem bb_bring {b v : Int32}  (hC : CM h x T P S ep) (hE : ¬ isI (P 0) b → 1 ≤ B.1 ∧ 6 ≤ B.2 ∧ ∀ n', n ≤ n' → Q (.inr "java/lang/IndexOutOfBoundsException") h n') (hE2 : isI (P 0) b → ¬ inR v 1 500 → 1 ≤ B.1 ∧ 6 ≤ B.2 ∧ ∀ n', n ≤ n' → Q (.inr "java/lang/IllegalArgumentException") h n') (hQ : isI (P 0) b → inR v 1 500 → ∀ h', CM h' x T P (S.1, uT S.2 0 (rS (S.2 0) b 0 (iMin 500 (rG (S.2 0) b 0 + v)))) ep → fr h h' x (x + 70) → Q (.inl (some (.int (iMin 500 (rG (S.2 0) b 0 + v))))) h' n) : bk_wp V (d + 2) 110 [.ref x, .int b, .int v] h n B Q := by
  obtain ⟨p, f, g, s, er, et, sP, S2, b1, b2, hC0⟩ := id hC
  obtain ⟨⟨⟨tA, k0, k1, k2, k3, k4, ktp⟩, o0, n0, n1, n2, otk⟩, ⟨⟨d0, d1, d2, d3, d4, d5⟩, pr0⟩, ⟨l0, l1, l2, l3, l4, l5⟩, ⟨m0, m1, m2, m3, m4, m5⟩, ⟨u0, u1, u2, u3, u4, u5⟩, ⟨c0, cb, cf⟩, ⟨t0, tb, tf⟩, hx⟩ := id hC0
  refine bg_in rfl rfl ?_
  refine bg_aload0 rfl ?_
  refine bg_getfield rfl rfl hx (by rfl) ?_
  refine bg_getfield rfl rfl l0 (by rfl) ?_
  refine bg_iload1 rfl ?_
  refine bg_virt1 rfl rfl rfl rfl ⟨_, l1.1⟩ ?_
  refine bt_has l1 (bk_Ki ?_)
  refine bg_ifne_b rfl (fun e11 => ?_) (fun e11 => ?_)
  · refine bg_iload2 rfl ?_
    refine bg_iconst rfl ?_
    refine bg_icmp_lt rfl (fun e26 => ?_) (fun e26 => ?_)
    · have hno := hE2 e11 (fun q => q.1 e26)
      exact bg_throw rfl rfl rfl (by show 0 + 1 ≤ B.1; have := hno.1; omega) (by show 0 + 6 ≤ B.2; have := hno.2.1; omega) hno.2.2
    · refine bg_iload2 rfl ?_
      refine bg_sipush rfl ?_
      refine bg_icmp_le rfl (fun e33 => ?_) (fun e33 => ?_)
      · refine bg_sipush rfl ?_
        refine bg_aload0 rfl ?_
        refine bg_getfield rfl rfl hx (by rfl) ?_
        refine bg_getfield rfl rfl m0 (by rfl) ?_
        refine bg_iload1 rfl ?_
        refine bg_iconst rfl ?_
        refine bg_virt2 rfl rfl rfl rfl ⟨_, m1.1⟩ ?_
        refine bt_get m1 rfl (by decide) (bk_Ki ?_)
        refine bg_iload2 rfl ?_
        refine bg_iadd rfl ?_
        refine bg_min rfl rfl rfl ?_
        refine bg_istore3 rfl rfl ?_
        refine bg_aload0 rfl ?_
        refine bg_getfield rfl rfl hx (by rfl) ?_
        refine bg_getfield rfl rfl m0 (by rfl) ?_
        refine bg_iload1 rfl ?_
        refine bg_iconst rfl ?_
        refine bg_iload3 rfl ?_
        refine bg_virt3 rfl rfl rfl rfl ⟨_, m1.1⟩ ?_
        refine bt_set m1 rfl (by decide) (fun hA kA gA => bk_Kv ?_)
        have z1 := hC0.mo (hC0.2.2.2.1.t0 kA gA) (gA.wide (by omega) (by omega))
        have hCA : CM hA x T P _ ep := ⟨_, _, _, _, _, _, _, _, _, _, z1⟩
        refine bg_iload3 rfl ?_
        refine bg_iret rfl rfl (by rfl) ?_
        exact hQ e11 ⟨e26, e33⟩ hA hCA (gA.wide (by omega) (by omega))
      · have hno := hE2 e11 (fun q => q.2 e33)
        exact bg_throw rfl rfl rfl (by show 0 + 1 ≤ B.1; have := hno.1; omega) (by show 0 + 6 ≤ B.2; have := hno.2.1; omega) hno.2.2
  · have hno := hE e11
    exact bg_throw rfl rfl rfl (by show 0 + 1 ≤ B.1; have := hno.1; omega) (by show 0 + 6 ≤ B.2; have := hno.2.1; omega) hno.2.2
theorem bb_pass {v : Int32}  (hW : WP P) (hC : CM h x T P S ep) (hE : ¬ inR v 1 96 → 1 ≤ B.1 ∧ 6 ≤ B.2 ∧ ∀ n', n ≤ n' → Q (.inr "java/lang/IllegalArgumentException") h n') (hQ : inR v 1 96 → ∀ h', CM h' x T P (goF P v.toNatClampNeg S) ep → fr h h' x (x + 70) → Q (.inl (some (.int ((goF P v.toNatClampNeg S).1 3 - S.1 3)))) h' n) : bk_wp V (d + 7) 111 [.ref x, .int v] h n B Q := by
  obtain ⟨p, f, g, s, er, et, sP, S2, b1, b2, hC0⟩ := id hC
  obtain ⟨⟨⟨tA, k0, k1, k2, k3, k4, ktp⟩, o0, n0, n1, n2, otk⟩, ⟨⟨d0, d1, d2, d3, d4, d5⟩, pr0⟩, ⟨l0, l1, l2, l3, l4, l5⟩, ⟨m0, m1, m2, m3, m4, m5⟩, ⟨u0, u1, u2, u3, u4, u5⟩, ⟨c0, cb, cf⟩, ⟨t0, tb, tf⟩, hx⟩ := id hC0
  refine bg_in rfl rfl ?_
  refine bg_iload1 rfl ?_
  refine bg_iconst rfl ?_
  refine bg_icmp_lt rfl (fun e2 => ?_) (fun e2 => ?_)
  · have hno := hE (fun q => q.1 e2)
    exact bg_throw rfl rfl rfl (by show 0 + 1 ≤ B.1; have := hno.1; omega) (by show 0 + 6 ≤ B.2; have := hno.2.1; omega) hno.2.2
  · refine bg_iload1 rfl ?_
    refine bg_bipush rfl ?_
    refine bg_icmp_le rfl (fun e8 => ?_) (fun e8 => ?_)
    · have hr : inR v 1 96 := ⟨e2, e8⟩
      have hQ := hQ hr
      obtain ⟨j, j1, j2, rfl⟩ := inR_nI (a := 1) (b := 96) (by decide) (by decide) hr
      rw [nI_clamp (by omega)] at hQ
      refine bg_aload0 rfl ?_
      refine bg_getfield rfl rfl hx (by rfl) ?_
      refine bg_getfield rfl rfl m0 (by rfl) ?_
      refine bg_istore2 rfl rfl ?_
      refine bg_aload0 rfl ?_
      refine bg_getfield rfl rfl hx (by rfl) ?_
      refine bg_iload1 rfl ?_
      refine bg_virt1 rfl rfl rfl rfl ⟨_, c0⟩ ?_
      refine bc_go rfl (by omega) hC0.course hW (fun hA bA kA gA => bk_Kv ?_)
      obtain ⟨z1, gA⟩ := hC0.now kA gA
      have hx := z1.2.2.2.2.2.2.2
      have m0 := z1.2.2.2.1.1
      have hCA : CM hA x T P _ ep := ⟨_, _, _, _, _, _, _, _, _, _, z1⟩
      refine bg_aload0 rfl ?_
      refine bg_getfield rfl rfl hx (by rfl) ?_
      refine bg_getfield rfl rfl m0 (by rfl) ?_
      refine bg_iload2 rfl ?_
      refine bg_isub rfl ?_
      refine bg_iret rfl rfl (by rfl) ?_
      exact hQ hA hCA gA
    · have hno := hE (fun q => q.2 e8)
      exact bg_throw rfl rfl rfl (by show 0 + 1 ≤ B.1; have := hno.1; omega) (by show 0 + 6 ≤ B.2; have := hno.2.1; omega) hno.2.2
theorem bb_untilL {gg : Int32} (hW : WP P) {p f g s er et sP b1} : ∀ (c k : Nat) (S2 : bS) (b2 : bT) (h : bk_H), CMx h x T P S ep p f g s er et sP S2 b1 b2 → k + c = 121 → (∀ h', CM h' x T P S ep → fr h h' x (x + 70) → Q (.inl (some (.int (utL P gg c k S2)))) h' n) → bk_g V (d + 6) 112 B Q 37 [some (.ref x), some (.int gg), some (.int (nI k))] [] h n cs := by
  intro c
  induction c with
  | zero =>
    intro k S2 b2 h hC1 hk hQ
    refine bg_iload2 rfl ?_
    refine bg_bipush rfl ?_
    refine bg_icmp_gt rfl (fun e40 => ?_) (fun e40 => absurd (nI_lt (a := 120) (by omega) (by omega)) e40)
    refine bg_iconst rfl ?_
    refine bg_iret rfl rfl (by rfl) ?_
    exact hQ h ⟨_, _, _, _, _, _, _, _, _, _, hC1⟩ fr.refl
  | succ c ih =>
    intro k S2 b2 h hC1 hk hQ
    obtain ⟨-, ⟨⟨d0, d1, d2, d3, d4, d5⟩, pr0⟩, ⟨l0, l1, l2, l3, l4, l5⟩, ⟨m0, m1, m2, m3, m4, m5⟩, ⟨u0, u1, u2, u3, u4, u5⟩, ⟨c0, cb, cf⟩, ⟨t0, tb, tf⟩, hx⟩ := id hC1
    have tc := tC_le (t := S2.2 4) (c := 0) (v := gg)
    have u55 := u5.2.2.1
    refine bg_iload2 rfl ?_
    refine bg_bipush rfl ?_
    refine bg_icmp_gt rfl (fun e40 => absurd e40 (nI_nlt (a := 120) (by omega) (by omega))) (fun e40 => ?_)
    refine bg_aload0 rfl ?_
    refine bg_getfield rfl rfl hx (by rfl) ?_
    refine bg_getfield rfl rfl u0 (by rfl) ?_
    refine bg_iconst rfl ?_
    refine bg_iload1 rfl ?_
    refine bg_virt2 rfl rfl rfl rfl ⟨_, u5.1⟩ ?_
    refine bt_countOf u5 rfl (by decide) (bk_Ki ?_)
    refine bg_if_le rfl (fun e55 => ?_) (fun e55 => ?_)
    · have he : utL P gg (c + 1) k S2 = utL P gg c (k + 1) (hourF P S2) := if_neg (fun q => e55 (nI_lt (a := 0) (b := tC (S2.2 4) 0 gg) q (by omega)))
      rw [he] at hQ
      refine bg_aload0 rfl ?_
      refine bg_getfield rfl rfl hx (by rfl) ?_
      refine bg_iconst rfl ?_
      refine bg_virt1 rfl rfl rfl rfl ⟨_, t0⟩ ?_
      refine bc_go (N := 1) rfl (by decide) hC1.thought hW (fun hB bB kB gB => bk_Kv ?_)
      obtain ⟨hC2, gB⟩ := hC1.th kB gB
      
      refine bg_iinc2 rfl rfl ?_
      rw [nI_1]
      refine bg_goto rfl ?_
      exact ih (k + 1) _ _ hB hC2 (by omega) (fun h' q1 q2 => hQ h' q1 (gB.trans q2))
    · have he : utL P gg (c + 1) k S2 = nI k := if_pos ((nI_ltI (a := 0) (b := tC (S2.2 4) 0 gg) (by omega) (by omega)).mp e55)
      rw [he] at hQ
      refine bg_iload2 rfl ?_
      refine bg_iret rfl rfl (by rfl) ?_
      exact hQ h ⟨_, _, _, _, _, _, _, _, _, _, hC1⟩ fr.refl

theorem bb_until {b : Int32}  (hW : WP P) (hC : CM h x T P S ep) (hE : ¬ isI (P 2) b → 1 ≤ B.1 ∧ 6 ≤ B.2 ∧ ∀ n', n ≤ n' → Q (.inr "java/lang/IndexOutOfBoundsException") h n') (hQ : isI (P 2) b → ∀ h', CM h' x T P S ep → fr h h' x (x + 70) → Q (.inl (some (.int (utL P b 121 0 S)))) h' n) : bk_wp V (d + 7) 112 [.ref x, .int b] h n B Q := by
  obtain ⟨p, f, g, s, er, et, sP, S2, b1, b2, hC0⟩ := id hC
  obtain ⟨⟨⟨tA, k0, k1, k2, k3, k4, ktp⟩, o0, n0, n1, n2, otk⟩, ⟨⟨d0, d1, d2, d3, d4, d5⟩, pr0⟩, ⟨l0, l1, l2, l3, l4, l5⟩, ⟨m0, m1, m2, m3, m4, m5⟩, ⟨u0, u1, u2, u3, u4, u5⟩, ⟨c0, cb, cf⟩, ⟨t0, tb, tf⟩, hx⟩ := id hC0
  refine bg_in rfl rfl ?_
  refine bg_aload0 rfl ?_
  refine bg_getfield rfl rfl hx (by rfl) ?_
  refine bg_getfield rfl rfl l0 (by rfl) ?_
  refine bg_iload1 rfl ?_
  refine bg_virt1 rfl rfl rfl rfl ⟨_, l3.1⟩ ?_
  refine bt_has l3 (bk_Ki ?_)
  refine bg_ifne_b rfl (fun e11 => ?_) (fun e11 => ?_)
  · refine bg_aload0 rfl ?_
    refine bg_getfield rfl rfl hx (by rfl) ?_
    refine bg_aload0 rfl ?_
    refine bg_getfield rfl rfl hx (by rfl) ?_
    refine bg_virt1 rfl rfl rfl rfl ⟨_, u0⟩ ?_
    refine bm_copy hC0.2.2.2.2.1 hC0.2.2.2.1 (by omega) (fun hA kA gA => bk_Kv ?_)
    have hC1 := hC0.mt kA (gA.wide (by omega) (by omega))
    have gx : fr h hA x (x + 70) := gA.wide (by omega) (by omega)
    obtain ⟨-, ⟨⟨d0, d1, d2, d3, d4, d5⟩, pr0⟩, ⟨l0, l1, l2, l3, l4, l5⟩, ⟨m0, m1, m2, m3, m4, m5⟩, ⟨u0, u1, u2, u3, u4, u5⟩, ⟨c0, cb, cf⟩, ⟨t0, tb, tf⟩, hx⟩ := id hC1
    refine bg_iconst rfl ?_
    refine bg_istore2 rfl rfl ?_
    exact bb_untilL hW 121 0 S _ hA hC1 rfl (fun h' q1 q2 => hQ e11 h' q1 (gx.trans q2))
  · have hno := hE e11
    exact bg_throw rfl rfl rfl (by show 0 + 1 ≤ B.1; have := hno.1; omega) (by show 0 + 6 ≤ B.2; have := hno.2.1; omega) hno.2.2
theorem bb_foresee {v w : Int32}  (hW : WP P) (hC : CM h x T P S ep) (hE : ¬ inR v 1 96 → 1 ≤ B.1 ∧ 6 ≤ B.2 ∧ ∀ n', n ≤ n' → Q (.inr "java/lang/IllegalArgumentException") h n') (hE2 : inR v 1 96 → ¬ inR w 0 4 → 1 ≤ B.1 ∧ 6 ≤ B.2 ∧ ∀ n', n ≤ n' → Q (.inr "java/lang/IndexOutOfBoundsException") h n') (hQ : inR v 1 96 → inR w 0 4 → ∀ h', CM h' x T P S ep → fr h h' x (x + 70) → Q (.inl (some (.int (foV S (goF P v.toNatClampNeg S) w)))) h' n) : bk_wp V (d + 7) 113 [.ref x, .int v, .int w] h n B Q := by
  obtain ⟨p, f, g, s, er, et, sP, S2, b1, b2, hC0⟩ := id hC
  obtain ⟨⟨⟨tA, k0, k1, k2, k3, k4, ktp⟩, o0, n0, n1, n2, otk⟩, ⟨⟨d0, d1, d2, d3, d4, d5⟩, pr0⟩, ⟨l0, l1, l2, l3, l4, l5⟩, ⟨m0, m1, m2, m3, m4, m5⟩, ⟨u0, u1, u2, u3, u4, u5⟩, ⟨c0, cb, cf⟩, ⟨t0, tb, tf⟩, hx⟩ := id hC0
  refine bg_in rfl rfl ?_
  refine bg_iload1 rfl ?_
  refine bg_iconst rfl ?_
  refine bg_icmp_lt rfl (fun e2 => ?_) (fun e2 => ?_)
  · have hno := hE (fun q => q.1 e2)
    exact bg_throw rfl rfl rfl (by show 0 + 1 ≤ B.1; have := hno.1; omega) (by show 0 + 6 ≤ B.2; have := hno.2.1; omega) hno.2.2
  · refine bg_iload1 rfl ?_
    refine bg_bipush rfl ?_
    refine bg_icmp_le rfl (fun e8 => ?_) (fun e8 => ?_)
    · have hr : inR v 1 96 := ⟨e2, e8⟩
      have hQ3 := hQ hr
      have hE3 := hE2 hr
      obtain ⟨j, j1, j2, rfl⟩ := inR_nI (a := 1) (b := 96) (by decide) (by decide) hr
      rw [nI_clamp (by omega)] at hQ3
      refine bg_iload2 rfl ?_
      refine bg_if_lt rfl (fun e22 => ?_) (fun e22 => ?_)
      · have hno := hE3 (fun q => q.1 e22)
        exact bg_throw rfl rfl rfl (by show 0 + 1 ≤ B.1; have := hno.1; omega) (by show 0 + 6 ≤ B.2; have := hno.2.1; omega) hno.2.2
      · refine bg_iload2 rfl ?_
        refine bg_iconst rfl ?_
        refine bg_icmp_le rfl (fun e27 => ?_) (fun e27 => ?_)
        · have hQ4 := hQ3 ⟨e22, e27⟩
          refine bg_aload0 rfl ?_
          refine bg_getfield rfl rfl hx (by rfl) ?_
          refine bg_aload0 rfl ?_
          refine bg_getfield rfl rfl hx (by rfl) ?_
          refine bg_virt1 rfl rfl rfl rfl ⟨_, u0⟩ ?_
          refine bm_copy hC0.2.2.2.2.1 hC0.2.2.2.1 (by omega) (fun hA kA gA => bk_Kv ?_)
          have hC1 := hC0.mt kA (gA.wide (by omega) (by omega))
          have gx : fr h hA x (x + 70) := gA.wide (by omega) (by omega)
          obtain ⟨-, ⟨⟨d0, d1, d2, d3, d4, d5⟩, pr0⟩, ⟨l0, l1, l2, l3, l4, l5⟩, ⟨m0, m1, m2, m3, m4, m5⟩, ⟨u0, u1, u2, u3, u4, u5⟩, ⟨c0, cb, cf⟩, ⟨t0, tb, tf⟩, hx⟩ := id hC1
          refine bg_aload0 rfl ?_
          refine bg_getfield rfl rfl hx (by rfl) ?_
          refine bg_iload1 rfl ?_
          refine bg_virt1 rfl rfl rfl rfl ⟨_, t0⟩ ?_
          refine bc_go (N := j) rfl (by omega) hC1.thought hW (fun hB bB kB gB => bk_Kv ?_)
          obtain ⟨hC2, gB⟩ := hC1.th kB gB
          have hCB : CM hB x T P S ep := ⟨_, _, _, _, _, _, _, _, _, _, hC2⟩
          obtain ⟨-, ⟨⟨d0, d1, d2, d3, d4, d5⟩, pr0⟩, ⟨l0, l1, l2, l3, l4, l5⟩, ⟨m0, m1, m2, m3, m4, m5⟩, ⟨u0, u1, u2, u3, u4, u5⟩, ⟨c0, cb, cf⟩, ⟨t0, tb, tf⟩, hx⟩ := id hC2
          refine bg_iload2 rfl ?_
          refine bg_tsw rfl ?_
          refine bk_sw_c (fun e60_0 => ?_) (fun n60_0 => ?_)
          · refine bg_aload0 rfl ?_
            refine bg_getfield rfl rfl hx (by rfl) ?_
            refine bg_getfield rfl rfl u0 (by rfl) ?_
            refine bg_aload0 rfl ?_
            refine bg_getfield rfl rfl hx (by rfl) ?_
            refine bg_getfield rfl rfl m0 (by rfl) ?_
            refine bg_isub rfl ?_
            refine bg_iret rfl rfl (by rfl) ?_
            exact bQ (hQ4 hB hCB (gx.trans gB)) (by clear hQ hQ3 hQ4 hE3 hE hE2 hC hC0 hC1 hC2 hCB tA k0 k1 k2 k3 k4 o0 n0 n1 n2 d0 d1 d2 d3 d4 d5 pr0 l0 l1 l2 l3 l4 l5 m0 m1 m2 m3 m4 m5 u0 u1 u2 u3 u4 u5 c0 cb cf t0 tb tf hx kA kB; simp [foV, *])
          refine bk_sw_c (fun e60_1 => ?_) (fun n60_1 => ?_)
          · refine bg_aload0 rfl ?_
            refine bg_getfield rfl rfl hx (by rfl) ?_
            refine bg_getfield rfl rfl u0 (by rfl) ?_
            refine bg_virt0 rfl rfl rfl rfl ⟨_, u4.1⟩ ?_
            refine bt_size u4 (bk_Ki ?_)
            refine bg_iret rfl rfl (by rfl) ?_
            exact bQ (hQ4 hB hCB (gx.trans gB)) (by clear hQ hQ3 hQ4 hE3 hE hE2 hC hC0 hC1 hC2 hCB tA k0 k1 k2 k3 k4 o0 n0 n1 n2 d0 d1 d2 d3 d4 d5 pr0 l0 l1 l2 l3 l4 l5 m0 m1 m2 m3 m4 m5 u0 u1 u2 u3 u4 u5 c0 cb cf t0 tb tf hx kA kB; simp [foV, *])
          refine bk_sw_c (fun e60_2 => ?_) (fun n60_2 => ?_)
          · refine bg_aload0 rfl ?_
            refine bg_getfield rfl rfl hx (by rfl) ?_
            refine bg_getfield rfl rfl u0 (by rfl) ?_
            refine bg_virt0 rfl rfl rfl rfl ⟨_, u5.1⟩ ?_
            refine bt_size u5 (bk_Ki ?_)
            refine bg_iret rfl rfl (by rfl) ?_
            exact bQ (hQ4 hB hCB (gx.trans gB)) (by clear hQ hQ3 hQ4 hE3 hE hE2 hC hC0 hC1 hC2 hCB tA k0 k1 k2 k3 k4 o0 n0 n1 n2 d0 d1 d2 d3 d4 d5 pr0 l0 l1 l2 l3 l4 l5 m0 m1 m2 m3 m4 m5 u0 u1 u2 u3 u4 u5 c0 cb cf t0 tb tf hx kA kB; simp [foV, *])
          refine bk_sw_c (fun e60_3 => ?_) (fun n60_3 => ?_)
          · refine bg_aload0 rfl ?_
            refine bg_getfield rfl rfl hx (by rfl) ?_
            refine bg_getfield rfl rfl u0 (by rfl) ?_
            refine bg_aload0 rfl ?_
            refine bg_getfield rfl rfl hx (by rfl) ?_
            refine bg_getfield rfl rfl m0 (by rfl) ?_
            refine bg_isub rfl ?_
            refine bg_iret rfl rfl (by rfl) ?_
            exact bQ (hQ4 hB hCB (gx.trans gB)) (by clear hQ hQ3 hQ4 hE3 hE hE2 hC hC0 hC1 hC2 hCB tA k0 k1 k2 k3 k4 o0 n0 n1 n2 d0 d1 d2 d3 d4 d5 pr0 l0 l1 l2 l3 l4 l5 m0 m1 m2 m3 m4 m5 u0 u1 u2 u3 u4 u5 c0 cb cf t0 tb tf hx kA kB; simp [foV, *])
          refine bk_sw_n ?_
          refine bg_aload0 rfl ?_
          refine bg_getfield rfl rfl hx (by rfl) ?_
          refine bg_virt0 rfl rfl rfl rfl ⟨_, u0⟩ ?_
          refine bm_mouldy hC2.2.2.2.2.1 (bk_Ki ?_)
          refine bg_iret rfl rfl (by rfl) ?_
          exact bQ (hQ4 hB hCB (gx.trans gB)) (by clear hQ hQ3 hQ4 hE3 hE hE2 hC hC0 hC1 hC2 hCB tA k0 k1 k2 k3 k4 o0 n0 n1 n2 d0 d1 d2 d3 d4 d5 pr0 l0 l1 l2 l3 l4 l5 m0 m1 m2 m3 m4 m5 u0 u1 u2 u3 u4 u5 c0 cb cf t0 tb tf hx kA kB; simp [foV, *])
        · have hno := hE3 (fun q => q.2 e27)
          exact bg_throw rfl rfl rfl (by show 0 + 1 ≤ B.1; have := hno.1; omega) (by show 0 + 6 ≤ B.2; have := hno.2.1; omega) hno.2.2
    · have hno := hE (fun q => q.2 e8)
      exact bg_throw rfl rfl rfl (by show 0 + 1 ≤ B.1; have := hno.1; omega) (by show 0 + 6 ≤ B.2; have := hno.2.1; omega) hno.2.2
theorem bb_advL {b : Int32} (hW : WP P) {p f g s er et sP} : ∀ (c e : Nat) (q : Int32 × Int32) (S2 : bS) (b1 b2 : bT) (h : bk_H), CMx h x T P S ep p f g s er et sP S2 b1 b2 → e + c = 7 → (∀ h', CM h' x T P S ep → fr h h' x (x + 70) → Q (.inl (some (.int (adL P S b c e q).2))) h' n) → bk_g V (d + 6) 114 B Q 31 [some (.ref x), some (.int b), some (.int q.1), some (.int q.2), some (.int (nI e))] [] h n cs := by
  intro c
  induction c with
  | zero =>
    intro e q S2 b1 b2 h hC0 he hQ
    refine bg_iload4 rfl ?_
    refine bg_bipush rfl ?_
    refine bg_icmp_gt rfl (fun e35 => ?_) (fun e35 => absurd (nI_lt (a := 6) (by omega) (by omega)) e35)
    refine bg_iload3 rfl ?_
    refine bg_iret rfl rfl (by rfl) ?_
    exact hQ h ⟨_, _, _, _, _, _, _, _, _, _, hC0⟩ fr.refl
  | succ c ih =>
    intro e q S2 b1 b2 h hC0 he hQ
    obtain ⟨-, ⟨⟨d0, d1, d2, d3, d4, d5⟩, pr0⟩, ⟨l0, l1, l2, l3, l4, l5⟩, ⟨m0, m1, m2, m3, m4, m5⟩, ⟨u0, u1, u2, u3, u4, u5⟩, ⟨c0, cb, cf⟩, ⟨t0, tb, tf⟩, hx⟩ := id hC0
    refine bg_iload4 rfl ?_
    refine bg_bipush rfl ?_
    refine bg_icmp_gt rfl (fun e35 => absurd e35 (nI_nlt (a := 6) (by omega) (by omega))) (fun e35 => ?_)
    refine bg_aload0 rfl ?_
    refine bg_getfield rfl rfl hx (by rfl) ?_
    refine bg_aload0 rfl ?_
    refine bg_getfield rfl rfl hx (by rfl) ?_
    refine bg_virt1 rfl rfl rfl rfl ⟨_, u0⟩ ?_
    refine bm_copy hC0.2.2.2.2.1 hC0.2.2.2.1 (by omega) (fun hA kA gA => bk_Kv ?_)
    have hC1 := hC0.mt kA (gA.wide (by omega) (by omega))
    have gx : fr h hA x (x + 70) := gA.wide (by omega) (by omega)
    obtain ⟨-, ⟨⟨d0, d1, d2, d3, d4, d5⟩, pr0⟩, ⟨l0, l1, l2, l3, l4, l5⟩, ⟨m0, m1, m2, m3, m4, m5⟩, ⟨u0, u1, u2, u3, u4, u5⟩, ⟨c0, cb, cf⟩, ⟨t0, tb, tf⟩, hx⟩ := id hC1
    refine bg_aload0 rfl ?_
    refine bg_getfield rfl rfl hx (by rfl) ?_
    refine bg_getfield rfl rfl u0 (by rfl) ?_
    refine bg_iload1 rfl ?_
    refine bg_iconst rfl ?_
    refine bg_iload4 rfl ?_
    refine bg_virt3 rfl rfl rfl rfl ⟨_, u2.1⟩ ?_
    refine bt_set u2 rfl (by decide) (fun hD kD gD => bk_Kv ?_)
    have hC1 := hC1.mt (hC1.2.2.2.2.1.t1 kD gD) (gD.wide (by omega) (by omega))
    have gx := gx.trans (gD.wide (by omega) (by omega))
    obtain ⟨-, ⟨⟨d0, d1, d2, d3, d4, d5⟩, pr0⟩, ⟨l0, l1, l2, l3, l4, l5⟩, ⟨m0, m1, m2, m3, m4, m5⟩, ⟨u0, u1, u2, u3, u4, u5⟩, ⟨c0, cb, cf⟩, ⟨t0, tb, tf⟩, hx⟩ := id hC1
    refine bg_aload0 rfl ?_
    refine bg_getfield rfl rfl hx (by rfl) ?_
    refine bg_bipush rfl ?_
    refine bg_virt1 rfl rfl rfl rfl ⟨_, t0⟩ ?_
    refine bc_go (N := 48) rfl (by decide) hC1.thought hW (fun hB bB kB gB => bk_Kv ?_)
    obtain ⟨hC2, gB⟩ := hC1.th kB gB
    
    have gx := gx.trans gB
    obtain ⟨-, ⟨⟨d0, d1, d2, d3, d4, d5⟩, pr0⟩, ⟨l0, l1, l2, l3, l4, l5⟩, ⟨m0, m1, m2, m3, m4, m5⟩, ⟨u0, u1, u2, u3, u4, u5⟩, ⟨c0, cb, cf⟩, ⟨t0, tb, tf⟩, hx⟩ := id hC2
    have hst : adL P S b (c + 1) e q = adL P S b c (e + 1) (if ¬ (goF P 48 (S.1, uT S.2 1 (rS (S.2 1) b 0 (nI e)))).1 4 < q.1 then ((goF P 48 (S.1, uT S.2 1 (rS (S.2 1) b 0 (nI e)))).1 4, nI e) else q) := rfl
    refine bg_aload0 rfl ?_
    refine bg_getfield rfl rfl hx (by rfl) ?_
    refine bg_getfield rfl rfl u0 (by rfl) ?_
    refine bg_iload2 rfl ?_
    refine bg_icmp_lt rfl (fun e80 => ?_) (fun e80 => ?_)
    · rw [if_neg (fun z => z e80)] at hst
      refine bg_iinc4 rfl rfl ?_
      rw [nI_1]
      refine bg_goto rfl ?_
      rw [hst] at hQ
      exact ih (e + 1) _ _ _ _ hB hC2 (by omega) (fun h' q1 q2 => hQ h' q1 (gx.trans q2))
    · rw [if_pos e80] at hst
      refine bg_aload0 rfl ?_
      refine bg_getfield rfl rfl hx (by rfl) ?_
      refine bg_getfield rfl rfl u0 (by rfl) ?_
      refine bg_istore2 rfl rfl ?_
      refine bg_iload4 rfl ?_
      refine bg_istore3 rfl rfl ?_
      refine bg_iinc4 rfl rfl ?_
      rw [nI_1]
      refine bg_goto rfl ?_
      rw [hst] at hQ
      exact ih (e + 1) _ _ _ _ hB hC2 (by omega) (fun h' q1 q2 => hQ h' q1 (gx.trans q2))

theorem bb_advise {b : Int32}  (hW : WP P) (hC : CM h x T P S ep) (hE : ¬ isI (P 1) b → 1 ≤ B.1 ∧ 6 ≤ B.2 ∧ ∀ n', n ≤ n' → Q (.inr "java/lang/IndexOutOfBoundsException") h n') (hQ : isI (P 1) b → ∀ h', CM h' x T P S ep → fr h h' x (x + 70) → Q (.inl (some (.int ((adL P S b 6 1 (-1, 1)).2)))) h' n) : bk_wp V (d + 7) 114 [.ref x, .int b] h n B Q := by
  obtain ⟨p, f, g, s, er, et, sP, S2, b1, b2, hC0⟩ := id hC
  obtain ⟨⟨⟨tA, k0, k1, k2, k3, k4, ktp⟩, o0, n0, n1, n2, otk⟩, ⟨⟨d0, d1, d2, d3, d4, d5⟩, pr0⟩, ⟨l0, l1, l2, l3, l4, l5⟩, ⟨m0, m1, m2, m3, m4, m5⟩, ⟨u0, u1, u2, u3, u4, u5⟩, ⟨c0, cb, cf⟩, ⟨t0, tb, tf⟩, hx⟩ := id hC0
  refine bg_in rfl rfl ?_
  refine bg_aload0 rfl ?_
  refine bg_getfield rfl rfl hx (by rfl) ?_
  refine bg_getfield rfl rfl l0 (by rfl) ?_
  refine bg_iload1 rfl ?_
  refine bg_virt1 rfl rfl rfl rfl ⟨_, l2.1⟩ ?_
  refine bt_has l2 (bk_Ki ?_)
  refine bg_ifne_b rfl (fun e11 => ?_) (fun e11 => ?_)
  · refine bg_iconst rfl ?_
    refine bg_istore2 rfl rfl ?_
    refine bg_iconst rfl ?_
    refine bg_istore3 rfl rfl ?_
    refine bg_iconst rfl ?_
    refine bg_istore4 rfl rfl ?_
    exact bb_advL hW 6 1 (-1, 1) S2 b1 b2 h hC0 rfl (fun h' q1 q2 => hQ e11 h' q1 q2)
  · have hno := hE e11
    exact bg_throw rfl rfl rfl (by show 0 + 1 ≤ B.1; have := hno.1; omega) (by show 0 + 6 ≤ B.2; have := hno.2.1; omega) hno.2.2
theorem bb_bestL {H : Nat} (hH : H < 2 ^ 31) (hW : WP P) {p f g s er et sP} : ∀ (c w : Nat) (q : Int32 × Int32) (S2 : bS) (b1 b2 : bT) (h : bk_H), CMx h x T P S ep p f g s er et sP S2 b1 b2 → w + c = 6 → (∀ h', CM h' x T P S ep → fr h h' x (x + 70) → Q (.inl (some (.int (bsL P S H c w q).2))) h' n) → bk_g V (d + 6) 115 B Q 29 [some (.ref x), some (.int (nI H)), some (.int q.1), some (.int q.2), some (.int (nI w))] [] h n cs := by
  intro c
  induction c with
  | zero =>
    intro w q S2 b1 b2 h hC0 he hQ
    refine bg_iload4 rfl ?_
    refine bg_iconst rfl ?_
    refine bg_icmp_gt rfl (fun e32 => ?_) (fun e32 => absurd (nI_lt (a := 5) (by omega) (by omega)) e32)
    refine bg_iload3 rfl ?_
    refine bg_iret rfl rfl (by rfl) ?_
    exact hQ h ⟨_, _, _, _, _, _, _, _, _, _, hC0⟩ fr.refl
  | succ c ih =>
    intro w q S2 b1 b2 h hC0 he hQ
    obtain ⟨-, ⟨⟨d0, d1, d2, d3, d4, d5⟩, pr0⟩, ⟨l0, l1, l2, l3, l4, l5⟩, ⟨m0, m1, m2, m3, m4, m5⟩, ⟨u0, u1, u2, u3, u4, u5⟩, ⟨c0, cb, cf⟩, ⟨t0, tb, tf⟩, hx⟩ := id hC0
    refine bg_iload4 rfl ?_
    refine bg_iconst rfl ?_
    refine bg_icmp_gt rfl (fun e32 => absurd e32 (nI_nlt (a := 5) (by omega) (by omega))) (fun e32 => ?_)
    refine bg_aload0 rfl ?_
    refine bg_getfield rfl rfl hx (by rfl) ?_
    refine bg_aload0 rfl ?_
    refine bg_getfield rfl rfl hx (by rfl) ?_
    refine bg_virt1 rfl rfl rfl rfl ⟨_, u0⟩ ?_
    refine bm_copy hC0.2.2.2.2.1 hC0.2.2.2.1 (by omega) (fun hA kA gA => bk_Kv ?_)
    have hC1 := hC0.mt kA (gA.wide (by omega) (by omega))
    have gx : fr h hA x (x + 70) := gA.wide (by omega) (by omega)
    obtain ⟨-, ⟨⟨d0, d1, d2, d3, d4, d5⟩, pr0⟩, ⟨l0, l1, l2, l3, l4, l5⟩, ⟨m0, m1, m2, m3, m4, m5⟩, ⟨u0, u1, u2, u3, u4, u5⟩, ⟨c0, cb, cf⟩, ⟨t0, tb, tf⟩, hx⟩ := id hC1
    refine bg_aload0 rfl ?_
    refine bg_getfield rfl rfl hx (by rfl) ?_
    refine bg_iload4 rfl ?_
    refine bg_putfield rfl rfl u0 (by rfl) ⟨rfl, rfl⟩ (by rfl) (fun h52 f52 g52 => ?_)
    have hM := hC1.2.2.2.2.1.i1 f52 g52
    have hC1 := hC1.mt hM ((fr.one g52).wide (by omega) (by omega))
    have gx := gx.trans ((fr.one g52).wide (by omega) (by omega))
    obtain ⟨-, ⟨⟨d0, d1, d2, d3, d4, d5⟩, pr0⟩, ⟨l0, l1, l2, l3, l4, l5⟩, ⟨m0, m1, m2, m3, m4, m5⟩, ⟨u0, u1, u2, u3, u4, u5⟩, ⟨c0, cb, cf⟩, ⟨t0, tb, tf⟩, hx⟩ := id hC1
    refine bg_aload0 rfl ?_
    refine bg_getfield rfl rfl hx (by rfl) ?_
    refine bg_iload1 rfl ?_
    refine bg_virt1 rfl rfl rfl rfl ⟨_, t0⟩ ?_
    refine bc_go (N := H) rfl (by exact hH) hC1.thought hW (fun hB bB kB gB => bk_Kv ?_)
    obtain ⟨hC2, gB⟩ := hC1.th kB gB
    
    have gx := gx.trans gB
    obtain ⟨-, ⟨⟨d0, d1, d2, d3, d4, d5⟩, pr0⟩, ⟨l0, l1, l2, l3, l4, l5⟩, ⟨m0, m1, m2, m3, m4, m5⟩, ⟨u0, u1, u2, u3, u4, u5⟩, ⟨c0, cb, cf⟩, ⟨t0, tb, tf⟩, hx⟩ := id hC2
    have hst : bsL P S H (c + 1) w q = bsL P S H c (w + 1) (if q.1 < (goF P H (upd S.1 1 (nI w), S.2)).1 3 then ((goF P H (upd S.1 1 (nI w), S.2)).1 3, nI w) else q) := rfl
    refine bg_aload0 rfl ?_
    refine bg_getfield rfl rfl hx (by rfl) ?_
    refine bg_getfield rfl rfl u0 (by rfl) ?_
    refine bg_iload2 rfl ?_
    refine bg_icmp_le rfl (fun e71 => ?_) (fun e71 => ?_)
    · rw [if_neg e71] at hst
      refine bg_iinc4 rfl rfl ?_
      rw [nI_1]
      refine bg_goto rfl ?_
      rw [hst] at hQ
      exact ih (w + 1) _ _ _ _ hB hC2 (by omega) (fun h' q1 q2 => hQ h' q1 (gx.trans q2))
    · rw [if_pos e71] at hst
      refine bg_aload0 rfl ?_
      refine bg_getfield rfl rfl hx (by rfl) ?_
      refine bg_getfield rfl rfl u0 (by rfl) ?_
      refine bg_istore2 rfl rfl ?_
      refine bg_iload4 rfl ?_
      refine bg_istore3 rfl rfl ?_
      refine bg_iinc4 rfl rfl ?_
      rw [nI_1]
      refine bg_goto rfl ?_
      rw [hst] at hQ
      exact ih (w + 1) _ _ _ _ hB hC2 (by omega) (fun h' q1 q2 => hQ h' q1 (gx.trans q2))

theorem bb_best {v : Int32}  (hW : WP P) (hC : CM h x T P S ep) (hE : ¬ inR v 1 72 → 1 ≤ B.1 ∧ 6 ≤ B.2 ∧ ∀ n', n ≤ n' → Q (.inr "java/lang/IllegalArgumentException") h n') (hQ : inR v 1 72 → ∀ h', CM h' x T P S ep → fr h h' x (x + 70) → Q (.inl (some (.int ((bsL P S v.toNatClampNeg 6 0 (-1, 0)).2)))) h' n) : bk_wp V (d + 7) 115 [.ref x, .int v] h n B Q := by
  obtain ⟨p, f, g, s, er, et, sP, S2, b1, b2, hC0⟩ := id hC
  obtain ⟨⟨⟨tA, k0, k1, k2, k3, k4, ktp⟩, o0, n0, n1, n2, otk⟩, ⟨⟨d0, d1, d2, d3, d4, d5⟩, pr0⟩, ⟨l0, l1, l2, l3, l4, l5⟩, ⟨m0, m1, m2, m3, m4, m5⟩, ⟨u0, u1, u2, u3, u4, u5⟩, ⟨c0, cb, cf⟩, ⟨t0, tb, tf⟩, hx⟩ := id hC0
  refine bg_in rfl rfl ?_
  refine bg_iload1 rfl ?_
  refine bg_iconst rfl ?_
  refine bg_icmp_lt rfl (fun e2 => ?_) (fun e2 => ?_)
  · have hno := hE (fun q => q.1 e2)
    exact bg_throw rfl rfl rfl (by show 0 + 1 ≤ B.1; have := hno.1; omega) (by show 0 + 6 ≤ B.2; have := hno.2.1; omega) hno.2.2
  · refine bg_iload1 rfl ?_
    refine bg_bipush rfl ?_
    refine bg_icmp_le rfl (fun e8 => ?_) (fun e8 => ?_)
    · have hr : inR v 1 72 := ⟨e2, e8⟩
      have hQ3 := hQ hr
      obtain ⟨j, j1, j2, rfl⟩ := inR_nI (a := 1) (b := 72) (by decide) (by decide) hr
      rw [nI_clamp (by omega)] at hQ3
      refine bg_iconst rfl ?_
      refine bg_istore2 rfl rfl ?_
      refine bg_iconst rfl ?_
      refine bg_istore3 rfl rfl ?_
      refine bg_iconst rfl ?_
      refine bg_istore4 rfl rfl ?_
      exact bb_bestL (H := j) (by omega) hW 6 0 (-1, 0) S2 b1 b2 h hC0 rfl (fun h' q1 q2 => hQ3 h' q1 q2)
    · have hno := hE (fun q => q.2 e8)
      exact bg_throw rfl rfl rfl (by show 0 + 1 ≤ B.1; have := hno.1; omega) (by show 0 + 6 ≤ B.2; have := hno.2.1; omega) hno.2.2
theorem nI_pm (k : Nat) : nI k - 1 + 1 = nI (k + 1) - 1 := by
  rw [Int32.sub_add_cancel]
  exact (nI_pred k).symm
theorem nI_pl {k m : Nat} (hk : k < 2 ^ 30) (hm : m < 2 ^ 30) : nI k - 1 < nI m ↔ k ≤ m := by
  have h1 : (nI k - 1).toInt = (k : Int) - 1 := pk_sub_toInt (b := 1) hk (by decide)
  rw [Int32.lt_iff_toInt_lt, h1, nI_toInt (by omega)]
  omega
theorem bb_spaL {H : Nat} (hH : H < 2 ^ 31) (hW : WP P) {p f g s er et sP} : ∀ (c k : Nat) (q : Int32 × Int32) (S2 : bS) (b1 b2 : bT) (h : bk_H), CMx h x T P S ep p f g s er et sP S2 b1 b2 → k + c = (P 1).length + 1 → (∀ h', CM h' x T P S ep → fr h h' x (x + 70) → Q (.inl (some (.int (spL P S H c k q).2))) h' n) → bk_g V (d + 6) 116 B Q 29 [some (.ref x), some (.int (nI H)), some (.int q.1), some (.int q.2), some (.int (nI k - 1))] [] h n cs := by
  intro c
  induction c with
  | zero =>
    intro k q S2 b1 b2 h hC0 he hQ
    obtain ⟨-, ⟨⟨d0, d1, d2, d3, d4, d5⟩, pr0⟩, ⟨l0, l1, l2, l3, l4, l5⟩, ⟨m0, m1, m2, m3, m4, m5⟩, ⟨u0, u1, u2, u3, u4, u5⟩, ⟨c0, cb, cf⟩, ⟨t0, tb, tf⟩, hx⟩ := id hC0
    have l22 := l2.2.2.1
    refine bg_iload4 rfl ?_
    refine bg_aload0 rfl ?_
    refine bg_getfield rfl rfl hx (by rfl) ?_
    refine bg_getfield rfl rfl l0 (by rfl) ?_
    refine bg_virt0 rfl rfl rfl rfl ⟨_, l2.1⟩ ?_
    refine bt_size l2 (bk_Ki ?_)
    refine bg_icmp_ge rfl (fun e41 => ?_) (fun e41 => absurd ((nI_pl (by omega) (by omega)).mp e41) (by omega))
    refine bg_iload3 rfl ?_
    refine bg_iret rfl rfl (by rfl) ?_
    exact hQ h ⟨_, _, _, _, _, _, _, _, _, _, hC0⟩ fr.refl
  | succ c ih =>
    intro k q S2 b1 b2 h hC0 he hQ
    obtain ⟨-, ⟨⟨d0, d1, d2, d3, d4, d5⟩, pr0⟩, ⟨l0, l1, l2, l3, l4, l5⟩, ⟨m0, m1, m2, m3, m4, m5⟩, ⟨u0, u1, u2, u3, u4, u5⟩, ⟨c0, cb, cf⟩, ⟨t0, tb, tf⟩, hx⟩ := id hC0
    have l22 := l2.2.2.1
    refine bg_iload4 rfl ?_
    refine bg_aload0 rfl ?_
    refine bg_getfield rfl rfl hx (by rfl) ?_
    refine bg_getfield rfl rfl l0 (by rfl) ?_
    refine bg_virt0 rfl rfl rfl rfl ⟨_, l2.1⟩ ?_
    refine bt_size l2 (bk_Ki ?_)
    refine bg_icmp_ge rfl (fun e41 => absurd ((nI_pl (by omega) (by omega)).mpr (by omega)) e41) (fun e41 => ?_)
    refine bg_aload0 rfl ?_
    refine bg_getfield rfl rfl hx (by rfl) ?_
    refine bg_aload0 rfl ?_
    refine bg_getfield rfl rfl hx (by rfl) ?_
    refine bg_virt1 rfl rfl rfl rfl ⟨_, u0⟩ ?_
    refine bm_copy hC0.2.2.2.2.1 hC0.2.2.2.1 (by omega) (fun hA kA gA => bk_Kv ?_)
    have hC1 := hC0.mt kA (gA.wide (by omega) (by omega))
    have gx : fr h hA x (x + 70) := gA.wide (by omega) (by omega)
    obtain ⟨-, ⟨⟨d0, d1, d2, d3, d4, d5⟩, pr0⟩, ⟨l0, l1, l2, l3, l4, l5⟩, ⟨m0, m1, m2, m3, m4, m5⟩, ⟨u0, u1, u2, u3, u4, u5⟩, ⟨c0, cb, cf⟩, ⟨t0, tb, tf⟩, hx⟩ := id hC1
    refine bg_aload0 rfl ?_
    refine bg_getfield rfl rfl hx (by rfl) ?_
    refine bg_iload4 rfl ?_
    refine bg_putfield rfl rfl u0 (by rfl) ⟨rfl, rfl⟩ (by rfl) (fun h61 f61 g61 => ?_)
    have hM := hC1.2.2.2.2.1.i7 f61 g61
    have hC1 := hC1.mt hM ((fr.one g61).wide (by omega) (by omega))
    have gx := gx.trans ((fr.one g61).wide (by omega) (by omega))
    obtain ⟨-, ⟨⟨d0, d1, d2, d3, d4, d5⟩, pr0⟩, ⟨l0, l1, l2, l3, l4, l5⟩, ⟨m0, m1, m2, m3, m4, m5⟩, ⟨u0, u1, u2, u3, u4, u5⟩, ⟨c0, cb, cf⟩, ⟨t0, tb, tf⟩, hx⟩ := id hC1
    refine bg_aload0 rfl ?_
    refine bg_getfield rfl rfl hx (by rfl) ?_
    refine bg_iload1 rfl ?_
    refine bg_virt1 rfl rfl rfl rfl ⟨_, t0⟩ ?_
    refine bc_go (N := H) rfl (by exact hH) hC1.thought hW (fun hB bB kB gB => bk_Kv ?_)
    obtain ⟨hC2, gB⟩ := hC1.th kB gB
    
    have gx := gx.trans gB
    obtain ⟨-, ⟨⟨d0, d1, d2, d3, d4, d5⟩, pr0⟩, ⟨l0, l1, l2, l3, l4, l5⟩, ⟨m0, m1, m2, m3, m4, m5⟩, ⟨u0, u1, u2, u3, u4, u5⟩, ⟨c0, cb, cf⟩, ⟨t0, tb, tf⟩, hx⟩ := id hC2
    have hst : spL P S H (c + 1) k q = spL P S H c (k + 1) (if q.1 < (goF P H (upd S.1 7 (nI k - 1), S.2)).1 4 ∨ ((goF P H (upd S.1 7 (nI k - 1), S.2)).1 4 = q.1 ∧ q.2 = -1) then ((goF P H (upd S.1 7 (nI k - 1), S.2)).1 4, nI k - 1) else q) := rfl
    refine bg_aload0 rfl ?_
    refine bg_getfield rfl rfl hx (by rfl) ?_
    refine bg_getfield rfl rfl u0 (by rfl) ?_
    refine bg_iload2 rfl ?_
    refine bg_icmp_gt rfl (fun e80 => ?_) (fun e80 => ?_)
    · rw [if_pos (Or.inl e80)] at hst
      refine bg_aload0 rfl ?_
      refine bg_getfield rfl rfl hx (by rfl) ?_
      refine bg_getfield rfl rfl u0 (by rfl) ?_
      refine bg_istore2 rfl rfl ?_
      refine bg_iload4 rfl ?_
      refine bg_istore3 rfl rfl ?_
      refine bg_iinc4 rfl rfl ?_
      rw [nI_pm]
      refine bg_goto rfl ?_
      rw [hst] at hQ
      exact ih (k + 1) _ _ _ _ hB hC2 (by omega) (fun h' q1 q2 => hQ h' q1 (gx.trans q2))
    · refine bg_aload0 rfl ?_
      refine bg_getfield rfl rfl hx (by rfl) ?_
      refine bg_getfield rfl rfl u0 (by rfl) ?_
      refine bg_iload2 rfl ?_
      refine bg_icmp_ne rfl (fun e91 => ?_) (fun e91 => ?_)
      · rw [if_neg (fun z => z.elim e80 (fun z => e91 z.1))] at hst
        refine bg_iinc4 rfl rfl ?_
        rw [nI_pm]
        refine bg_goto rfl ?_
        rw [hst] at hQ
        exact ih (k + 1) _ _ _ _ hB hC2 (by omega) (fun h' q1 q2 => hQ h' q1 (gx.trans q2))
      · refine bg_iload3 rfl ?_
        refine bg_iconst rfl ?_
        refine bg_icmp_ne rfl (fun e96 => ?_) (fun e96 => ?_)
        · rw [if_neg (fun z => z.elim e80 (fun z => e96 z.2))] at hst
          refine bg_iinc4 rfl rfl ?_
          rw [nI_pm]
          refine bg_goto rfl ?_
          rw [hst] at hQ
          exact ih (k + 1) _ _ _ _ hB hC2 (by omega) (fun h' q1 q2 => hQ h' q1 (gx.trans q2))
        · rw [if_pos (Or.inr ⟨e91, e96⟩)] at hst
          refine bg_aload0 rfl ?_
          refine bg_getfield rfl rfl hx (by rfl) ?_
          refine bg_getfield rfl rfl u0 (by rfl) ?_
          refine bg_istore2 rfl rfl ?_
          refine bg_iload4 rfl ?_
          refine bg_istore3 rfl rfl ?_
          refine bg_iinc4 rfl rfl ?_
          rw [nI_pm]
          refine bg_goto rfl ?_
          rw [hst] at hQ
          exact ih (k + 1) _ _ _ _ hB hC2 (by omega) (fun h' q1 q2 => hQ h' q1 (gx.trans q2))

theorem bb_spare {v : Int32}  (hW : WP P) (hC : CM h x T P S ep) (hE : ¬ inR v 1 72 → 1 ≤ B.1 ∧ 6 ≤ B.2 ∧ ∀ n', n ≤ n' → Q (.inr "java/lang/IllegalArgumentException") h n') (hQ : inR v 1 72 → ∀ h', CM h' x T P S ep → fr h h' x (x + 70) → Q (.inl (some (.int ((spL P S v.toNatClampNeg ((P 1).length + 1) 0 (-1, -1)).2)))) h' n) : bk_wp V (d + 7) 116 [.ref x, .int v] h n B Q := by
  obtain ⟨p, f, g, s, er, et, sP, S2, b1, b2, hC0⟩ := id hC
  obtain ⟨⟨⟨tA, k0, k1, k2, k3, k4, ktp⟩, o0, n0, n1, n2, otk⟩, ⟨⟨d0, d1, d2, d3, d4, d5⟩, pr0⟩, ⟨l0, l1, l2, l3, l4, l5⟩, ⟨m0, m1, m2, m3, m4, m5⟩, ⟨u0, u1, u2, u3, u4, u5⟩, ⟨c0, cb, cf⟩, ⟨t0, tb, tf⟩, hx⟩ := id hC0
  refine bg_in rfl rfl ?_
  refine bg_iload1 rfl ?_
  refine bg_iconst rfl ?_
  refine bg_icmp_lt rfl (fun e2 => ?_) (fun e2 => ?_)
  · have hno := hE (fun q => q.1 e2)
    exact bg_throw rfl rfl rfl (by show 0 + 1 ≤ B.1; have := hno.1; omega) (by show 0 + 6 ≤ B.2; have := hno.2.1; omega) hno.2.2
  · refine bg_iload1 rfl ?_
    refine bg_bipush rfl ?_
    refine bg_icmp_le rfl (fun e8 => ?_) (fun e8 => ?_)
    · have hr : inR v 1 72 := ⟨e2, e8⟩
      have hQ3 := hQ hr
      obtain ⟨j, j1, j2, rfl⟩ := inR_nI (a := 1) (b := 72) (by decide) (by decide) hr
      rw [nI_clamp (by omega)] at hQ3
      refine bg_iconst rfl ?_
      refine bg_istore2 rfl rfl ?_
      refine bg_iconst rfl ?_
      refine bg_istore3 rfl rfl ?_
      refine bg_iconst rfl ?_
      refine bg_istore4 rfl rfl ?_
      exact bb_spaL (H := j) (by omega) hW ((P 1).length + 1) 0 (-1, -1) S2 b1 b2 h hC0 (Nat.zero_add _) (fun h' q1 q2 => hQ3 h' q1 q2)
    · have hno := hE (fun q => q.2 e8)
      exact bg_throw rfl rfl rfl (by show 0 + 1 ≤ B.1; have := hno.1; omega) (by show 0 + 6 ≤ B.2; have := hno.2.1; omega) hno.2.2
theorem bys_len {x : Int32} : (bys x).length = 4 := rfl
theorem bb_feed {a0 a1 a2 a3 a4 : Int32}  (hC : CM h x T P S ep) (hE : ¬ T.length ≤ 1980 → 1 ≤ B.1 ∧ 6 ≤ B.2 ∧ ∀ n', n ≤ n' → Q (.inr "java/lang/IllegalStateException") h n') (hQ : T.length ≤ 1980 → ∀ h', CM h' x (T ++ bys a0 ++ bys a1 ++ bys a2 ++ bys a3 ++ bys a4) P S ep → fr h h' x (x + 70) → Q (.inl (some (.int (nI (T.length + 20))))) h' n) : bk_wp V (d + 2) 95 [.ref x, .int a0, .int a1, .int a2, .int a3, .int a4] h n B Q := by
  obtain ⟨p, f, g, s, er, et, sP, S2, b1, b2, hC0⟩ := id hC
  obtain ⟨⟨⟨tA, k0, k1, k2, k3, k4, ktp⟩, o0, n0, n1, n2, otk⟩, ⟨⟨d0, d1, d2, d3, d4, d5⟩, pr0⟩, ⟨l0, l1, l2, l3, l4, l5⟩, ⟨m0, m1, m2, m3, m4, m5⟩, ⟨u0, u1, u2, u3, u4, u5⟩, ⟨c0, cb, cf⟩, ⟨t0, tb, tf⟩, hx⟩ := id hC0
  have t3 := tA.2.2.1
  refine bg_in rfl rfl ?_
  refine bg_aload0 rfl ?_
  refine bg_getfield rfl rfl hx (by rfl) ?_
  refine bg_virt0 rfl rfl rfl rfl ⟨_, tA.1⟩ ?_
  refine ba_length tA (bk_Ki ?_)
  refine bg_bipush rfl ?_
  refine bg_iadd rfl ?_
  rw [show nI T.length + 20 = nI (T.length + 20) from nI_add _ 20]
  refine bg_sipush rfl ?_
  refine bg_icmp_le rfl (fun e13 => ?_) (fun e13 => ?_)
  · have hle : T.length ≤ 1980 := Nat.le_of_not_lt fun q => e13 (nI_lt (a := 2000) (by omega) (by omega))
    have hQ := hQ hle
    refine bg_aload0 rfl ?_
    refine bg_getfield rfl rfl hx (by rfl) ?_
    refine bg_iload1 rfl ?_
    refine bg_virt1 rfl rfl rfl rfl ⟨_, tA.1⟩ ?_
    refine ba_append hC0.1.1.1 (by (try simp only [List.length_append, bys_len]); omega) (fun hA1 kA gA => bk_Kv ?_)
    have hCA := hC0.ta kA gA
    have hx := hCA.2.2.2.2.2.2.2
    have tA := kA
    refine bg_aload0 rfl ?_
    refine bg_getfield rfl rfl hx (by rfl) ?_
    refine bg_iload2 rfl ?_
    refine bg_virt1 rfl rfl rfl rfl ⟨_, tA.1⟩ ?_
    refine ba_append hCA.1.1.1 (by (try simp only [List.length_append, bys_len]); omega) (fun hB1 kB gB => bk_Kv ?_)
    have hCB := hCA.ta kB gB
    have hx := hCB.2.2.2.2.2.2.2
    have tA := kB
    refine bg_aload0 rfl ?_
    refine bg_getfield rfl rfl hx (by rfl) ?_
    refine bg_iload3 rfl ?_
    refine bg_virt1 rfl rfl rfl rfl ⟨_, tA.1⟩ ?_
    refine ba_append hCB.1.1.1 (by (try simp only [List.length_append, bys_len]); omega) (fun hC1 kC gC => bk_Kv ?_)
    have hCC := hCB.ta kC gC
    have hx := hCC.2.2.2.2.2.2.2
    have tA := kC
    refine bg_aload0 rfl ?_
    refine bg_getfield rfl rfl hx (by rfl) ?_
    refine bg_iload4 rfl ?_
    refine bg_virt1 rfl rfl rfl rfl ⟨_, tA.1⟩ ?_
    refine ba_append hCC.1.1.1 (by (try simp only [List.length_append, bys_len]); omega) (fun hD1 kD gD => bk_Kv ?_)
    have hCD := hCC.ta kD gD
    have hx := hCD.2.2.2.2.2.2.2
    have tA := kD
    refine bg_aload0 rfl ?_
    refine bg_getfield rfl rfl hx (by rfl) ?_
    refine bg_iload5 rfl ?_
    refine bg_virt1 rfl rfl rfl rfl ⟨_, tA.1⟩ ?_
    refine ba_append hCD.1.1.1 (by (try simp only [List.length_append, bys_len]); omega) (fun hE1 kE gE => bk_Kv ?_)
    have hCE := hCD.ta kE gE
    have hx := hCE.2.2.2.2.2.2.2
    have tA := kE
    refine bg_aload0 rfl ?_
    refine bg_getfield rfl rfl hx (by rfl) ?_
    refine bg_virt0 rfl rfl rfl rfl ⟨_, tA.1⟩ ?_
    refine ba_length tA (bk_Ki ?_)
    refine bg_iret rfl rfl (by rfl) ?_
    refine bQ (hQ hE1 ⟨_, _, _, _, _, _, _, _, _, _, hCE⟩ (((((gA.wide (by omega) (by omega)).trans (gB.wide (by omega) (by omega))).trans (gC.wide (by omega) (by omega))).trans (gD.wide (by omega) (by omega))).trans (gE.wide (by omega) (by omega)))) ?_
    simp only [List.length_append, bys_len]
  · have hno := hE (fun q => absurd ((nI_ltI (a := 2000) (by decide) (by omega)).mp e13) (by omega))
    exact bg_throw rfl rfl rfl (by show 0 + 1 ≤ B.1; have := hno.1; omega) (by show 0 + 6 ≤ B.2; have := hno.2.1; omega) hno.2.2
theorem bb_trim {v : Int32}  (hC : CM h x T P S ep) (hE : ¬ inR v 0 (nI T.length) → 1 ≤ B.1 ∧ 6 ≤ B.2 ∧ ∀ n', n ≤ n' → Q (.inr "java/lang/IllegalArgumentException") h n') (hQ : inR v 0 (nI T.length) → ∀ h', CM h' x (T.take v.toNatClampNeg) P S ep → fr h h' x (x + 70) → Q (.inl (some (.int v))) h' n) : bk_wp V (d + 2) 96 [.ref x, .int v] h n B Q := by
  obtain ⟨p, f, g, s, er, et, sP, S2, b1, b2, hC0⟩ := id hC
  obtain ⟨⟨⟨tA, k0, k1, k2, k3, k4, ktp⟩, o0, n0, n1, n2, otk⟩, ⟨⟨d0, d1, d2, d3, d4, d5⟩, pr0⟩, ⟨l0, l1, l2, l3, l4, l5⟩, ⟨m0, m1, m2, m3, m4, m5⟩, ⟨u0, u1, u2, u3, u4, u5⟩, ⟨c0, cb, cf⟩, ⟨t0, tb, tf⟩, hx⟩ := id hC0
  have t3 := tA.2.2.1
  refine bg_in rfl rfl ?_
  refine bg_iload1 rfl ?_
  refine bg_if_lt rfl (fun e1 => ?_) (fun e1 => ?_)
  · have hno := hE (fun q => q.1 e1)
    exact bg_throw rfl rfl rfl (by show 0 + 1 ≤ B.1; have := hno.1; omega) (by show 0 + 6 ≤ B.2; have := hno.2.1; omega) hno.2.2
  · refine bg_iload1 rfl ?_
    refine bg_aload0 rfl ?_
    refine bg_getfield rfl rfl hx (by rfl) ?_
    refine bg_virt0 rfl rfl rfl rfl ⟨_, tA.1⟩ ?_
    refine ba_length tA (bk_Ki ?_)
    refine bg_icmp_le rfl (fun e12 => ?_) (fun e12 => ?_)
    · have hr : inR v 0 (nI T.length) := ⟨e1, e12⟩
      have hQ3 := hQ hr
      obtain ⟨j, j1, j2, rfl⟩ := inR_nI (a := 0) (by decide) (by omega) hr
      rw [nI_clamp (by omega)] at hQ3
      refine bg_aload0 rfl ?_
      refine bg_getfield rfl rfl hx (by rfl) ?_
      refine bg_iload1 rfl ?_
      refine bg_virt1 rfl rfl rfl rfl ⟨_, tA.1⟩ ?_
      refine ba_shorten j2 tA (fun hA kA gA => bk_Kv ?_)
      have hCA := hC0.ta kA gA
      refine bg_iload1 rfl ?_
      refine bg_iret rfl rfl (by rfl) ?_
      exact hQ3 hA ⟨_, _, _, _, _, _, _, _, _, _, hCA⟩ (gA.wide (by omega) (by omega))
    · have hno := hE (fun q => q.2 e12)
      exact bg_throw rfl rfl rfl (by show 0 + 1 ≤ B.1; have := hno.1; omega) (by show 0 + 6 ≤ B.2; have := hno.2.1; omega) hno.2.2
end CMm
