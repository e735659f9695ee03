/-! THE REFERENCE: the model, what it tells. Printed by wip/whole/mk66.py. -/
/-- old cells that are not the model's are as they were -/
def fm (h h' : bk_H) (y n : Nat) : Prop := ∀ q, q < n → (q < y ∨ y + 51 ≤ q) → h' q = h q
theorem fm.refl {h : bk_H} {y n : Nat} : fm h h y n := fun _ _ _ => rfl
theorem fm.trans {h h1 h2 : bk_H} {y n n1 : Nat} (a : fm h h1 y n) (b : fm h1 h2 y n1) (hn : n ≤ n1) : fm h h2 y n := fun q q1 q2 => (b q (by omega) q2).trans (a q q1 q2)
theorem fr.fm {h h' : bk_H} {y n lo hi : Nat} (a : fr h h' lo hi) (h1 : y ≤ lo) (h2 : hi ≤ y + 51) : fm h h' y n := fun q _ q2 => a q (by omega)
theorem fm.new {h h' : bk_H} {y n : Nat} (a : ∀ q, q ≠ n → h' q = h q) : fm h h' y n := fun q q1 _ => a q (by omega)
/-- the model at y: the tape T, the list P in its Plan u, the mountain S in its State s -/
def MD (h : bk_H) (y u v : Nat) (T : List Int32) (P : Nat → bT) (S : bS) (J K : rI) (C : rA) : Prop :=
  (∃ tp, AR h (y + 1) 2000 tp ∧ ∀ i, i < T.length → tp i = T.getD i 0) ∧ (∃ f0 f1 f2 f3 f4, AR h (y + 2) 401 f0 ∧ AR h (y + 3) 401 f1 ∧ AR h (y + 4) 401 f2 ∧ AR h (y + 5) 401 f3 ∧ AR h (y + 6) 401 f4) ∧
  (∃ I2 A2, RO h (y + 37) y I2 A2) ∧ RW h (y + 23) y u v P S J K C [] ∧ J 1 = nI T.length ∧ T.length ≤ 2000 ∧ ((y + 7 ≤ u ∧ u + 16 ≤ y + 23) ∨ y + 51 ≤ u)
section MM
variable {V : bk_V} {d n : Nat} {B : Nat × Nat} {Q : bk_R → bk_H → Nat → Prop} {h : bk_H} {y u v : Nat} {T : List Int32} {P : Nat → bT} {S : bS} {I J K : rI} {A C : rA} {cs : Nat × Nat}
theorem RO.kq {h' : bk_H} {r : Nat} (z : RO h r y I A) (w : ∀ q, r ≤ q → q < r + 14 → h' q = h q) : RO h' r y I A := by
  obtain ⟨z0, z1, z2, z3, z4, z5, z6, z7, z8, z9, z10, z11, z12, z13⟩ := z
  exact ⟨(w _ (by omega) (by omega)).trans z0, (w _ (by omega) (by omega)).trans z1, (w _ (by omega) (by omega)).trans z2, (w _ (by omega) (by omega)).trans z3, (w _ (by omega) (by omega)).trans z4, (w _ (by omega) (by omega)).trans z5, (w _ (by omega) (by omega)).trans z6, (w _ (by omega) (by omega)).trans z7, (w _ (by omega) (by omega)).trans z8, (w _ (by omega) (by omega)).trans z9, (w _ (by omega) (by omega)).trans z10, (w _ (by omega) (by omega)).trans z11, (w _ (by omega) (by omega)).trans z12, (w _ (by omega) (by omega)).trans z13⟩
theorem PO.kq {h' : bk_H} (z : PO h u K C) (w : ∀ q, u ≤ q → q < u + 16 → h' q = h q) : PO h' u K C := by
  obtain ⟨z0, z1, z2, z3, z4, z5, z6, z7, z8, z9, z10, z11, z12, z13, z14, z15⟩ := z
  exact ⟨(w _ (by omega) (by omega)).trans z0, (w _ (by omega) (by omega)).trans z1, (w _ (by omega) (by omega)).trans z2, (w _ (by omega) (by omega)).trans z3, (w _ (by omega) (by omega)).trans z4, (w _ (by omega) (by omega)).trans z5, (w _ (by omega) (by omega)).trans z6, (w _ (by omega) (by omega)).trans z7, (w _ (by omega) (by omega)).trans z8, (w _ (by omega) (by omega)).trans z9, (w _ (by omega) (by omega)).trans z10, (w _ (by omega) (by omega)).trans z11, (w _ (by omega) (by omega)).trans z12, (w _ (by omega) (by omega)).trans z13, (w _ (by omega) (by omega)).trans z14, (w _ (by omega) (by omega)).trans z15⟩
theorem MD.kp {h' : bk_H} (hM : MD h y u v T P S J K C) (w : ∀ q, (y ≤ q ∧ q < y + 51) ∨ (u ≤ q ∧ q < u + 16) → h' q = h q) : MD h' y u v T P S J K C := by
  obtain ⟨⟨tp, ht, ht2⟩, ⟨f0, f1, f2, f3, f4, a0, a1, a2, a3, a4⟩, ⟨I2, A2, hR2⟩, ⟨I, A, hR, hr, hP, hY, hp, hs, hv, hd1, hd2, hbs⟩, hJ1, hT2, hu⟩ := hM
  exact ⟨⟨tp, (w _ (by omega)).trans ht, ht2⟩, ⟨f0, f1, f2, f3, f4, (w _ (by omega)).trans a0, (w _ (by omega)).trans a1, (w _ (by omega)).trans a2, (w _ (by omega)).trans a3, (w _ (by omega)).trans a4⟩, ⟨I2, A2, hR2.kq fun q q1 q2 => w q (by omega)⟩, ⟨I, A, hR.kq fun q q1 q2 => w q (by omega), hr, hP.kq fun q q1 q2 => w q (by omega), (w y (by omega)).trans hY, hp, hs, hv, hd1, hd2, hbs⟩, hJ1, hT2, hu⟩
theorem MD.j {h' : bk_H} {J' : rI} (hM : MD h y u v T P S J K C) (hY' : YO h' y J' u v) (w : ∀ q, q ≠ y → h' q = h q) (hJ : J' 1 = J 1) : MD h' y u v T P S J' K C := by
  obtain ⟨⟨tp, ht, ht2⟩, ⟨f0, f1, f2, f3, f4, a0, a1, a2, a3, a4⟩, ⟨I2, A2, hR2⟩, ⟨I, A, hR, hr, hP, hY, hp, hs, hv, hd1, hd2, hbs⟩, hJ1, hT2, hu⟩ := hM
  exact ⟨⟨tp, (w _ (by omega)).trans ht, ht2⟩, ⟨f0, f1, f2, f3, f4, (w _ (by omega)).trans a0, (w _ (by omega)).trans a1, (w _ (by omega)).trans a2, (w _ (by omega)).trans a3, (w _ (by omega)).trans a4⟩, ⟨I2, A2, hR2.kq fun q q1 q2 => w q (by omega)⟩, ⟨I, A, hR.kq fun q q1 q2 => w q (by omega), hr, hP.kq fun q q1 q2 => w q (by omega), hY', hp, hs, hv, hd1, hd2, hbs⟩, hJ.trans hJ1, hT2, hu⟩
/-- the State s has become another mountain -/
theorem MD.w {h' : bk_H} {S' : bS} (hM : MD h y u v T P S J K C) (hW : RW h' (y + 23) y u v P S' J K C []) (w : fr h h' (y + 23) (y + 37)) : MD h' y u v T P S' J K C := by
  obtain ⟨⟨tp, ht, ht2⟩, ⟨f0, f1, f2, f3, f4, a0, a1, a2, a3, a4⟩, ⟨I2, A2, hR2⟩, _, hJ1, hT2, hu⟩ := hM
  exact ⟨⟨tp, (w _ (by omega)).trans ht, ht2⟩, ⟨f0, f1, f2, f3, f4, (w _ (by omega)).trans a0, (w _ (by omega)).trans a1, (w _ (by omega)).trans a2, (w _ (by omega)).trans a3, (w _ (by omega)).trans a4⟩, ⟨I2, A2, hR2.kp w (by omega)⟩, hW, hJ1, hT2, hu⟩
/-- the State ahead has changed -/
theorem MD.a {h' : bk_H} (hM : MD h y u v T P S J K C) (hA : ∃ I2 A2, RO h' (y + 37) y I2 A2) (w : fr h h' (y + 37) (y + 51)) : MD h' y u v T P S J K C := by
  obtain ⟨⟨tp, ht, ht2⟩, ⟨f0, f1, f2, f3, f4, a0, a1, a2, a3, a4⟩, _, ⟨I, A, hR, hr, hP, hY, hp, hs, hv, hd1, hd2, hbs⟩, hJ1, hT2, hu⟩ := hM
  exact ⟨⟨tp, (w _ (by omega)).trans ht, ht2⟩, ⟨f0, f1, f2, f3, f4, (w _ (by omega)).trans a0, (w _ (by omega)).trans a1, (w _ (by omega)).trans a2, (w _ (by omega)).trans a3, (w _ (by omega)).trans a4⟩, hA, ⟨I, A, hR.kp w (by omega), hr, hP.kp w (by omega), (w y (by omega)).trans hY, hp, hs, hv, hd1, hd2, hbs⟩, hJ1, hT2, hu⟩
theorem in_isI {l : Nat} {b : Int32} (hl : l < 2 ^ 31) : (¬ b < 0 ∧ ¬ nI l - 1 < b) ↔ (¬ b < 0 ∧ b < nI l) := by
  refine ⟨fun z => ⟨z.1, ?_⟩, fun z => ⟨z.1, ?_⟩⟩
  · obtain ⟨j, hj, rfl⟩ := nI_of z.1
    cases l with
    | zero => exact (z.2 (Int32.lt_of_lt_of_le (show nI 0 - 1 < 0 by decide) (nI_pos' hj))).elim
    | succ m =>
      have := z.2
      rw [nI_dn] at this
      exact nI_lt (Nat.lt_succ_of_le (Nat.le_of_not_lt fun q => this (nI_lt q hj))) hl
  · obtain ⟨j, hj, rfl⟩ := nI_of z.1
    cases l with
    | zero => exact absurd z.2 (nI_nlt (Nat.zero_le j) hj)
    | succ m =>
      rw [nI_dn]
      refine nI_nlt ?_ (by omega)
      refine Decidable.byContradiction fun q => ?_
      exact absurd z.2 (nI_nlt (by omega) hj)
theorem isI_n {t : bT} {b : Int32} (h : isI t b) (hl : t.length < 2 ^ 31) : ∃ j, j < t.length ∧ b = nI j := by
  obtain ⟨j, hj, rfl⟩ := nI_of h.1
  exact ⟨j, Decidable.byContradiction fun q => absurd h.2 (nI_nlt (by omega) hj), rfl⟩
theorem mo_thrown (hY : YO h y J u v) (hQ : Q (.inl (some (.int (J 0)))) h n) : bk_wp V (d + 1) 147 [.ref y] h n B Q := by
  refine bg_in rfl rfl ?_
  refine bg_aload0 rfl ?_
  refine bg_getfield rfl rfl hY (by rfl) ?_
  refine bg_iret rfl rfl (by rfl) ?_
  exact hQ
theorem mo_no {t : Int32} (hM : MD h y u v T P S J K C) (hQ : ∀ h', MD h' y u v T P S (upd J 0 t) K C → (∀ q, q ≠ y → h' q = h q) → Q (.inl (some (.int 0))) h' n) : bk_wp V (d + 1) 148 [.ref y, .int t] h n B Q := by
  obtain ⟨hTp, har, hah, ⟨I, A, hR, hr, hP, hY, hp, hs, hv, hd1, hd2, hbs⟩, hJ1, hT2, hu⟩ := id hM
  refine bg_in rfl rfl ?_
  refine bg_aload0 rfl ?_
  refine bg_iload1 rfl ?_
  refine bg_putfield rfl rfl hY (by rfl) ⟨rfl, rfl⟩ (by rfl) (fun h2 f2 g2 => ?_)
  have hM2 := hM.j (J' := upd J 0 t) f2 g2 rfl
  refine bg_iconst rfl ?_
  refine bg_iret rfl rfl (by rfl) ?_
  exact hQ h2 hM2 g2
theorem mo_isBark {b : Int32} (hM : MD h y u v T P S J K C) (hQ : Q (.inl (some (.int (if isI (P 0) b then 1 else 0)))) h n) : bk_wp V (d + 2) 150 [.ref y, .int b] h n B Q := by
  obtain ⟨hTp, har, hah, ⟨I, A, hR, hr, hP, hY, hp, hs, hv, hd1, hd2, hbs⟩, hJ1, hT2, hu⟩ := id hM
  have hl : (P 0).length ≤ 5 := hs.1.1.1
  have hB : K 0 = nI (P 0).length := hp.1 0 (by decide)
  refine bg_in rfl rfl ?_
  refine bg_iload1 rfl ?_
  refine bg_iconst rfl ?_
  refine bg_aload0 rfl ?_
  refine bg_getfield rfl rfl hY (by rfl) ?_
  refine bg_getfield rfl rfl hP.1 (by rfl) ?_
  refine bg_iconst rfl ?_
  refine bg_isub rfl ?_
  refine bg_stat3 rfl rfl rfl rfl ?_
  refine rb_isIn (bk_Ki ?_)
  refine bg_iret rfl rfl (by split <;> rfl) ?_
  refine bQ hQ ?_
  rw [hB]
  by_cases z : isI (P 0) b
  · rw [if_pos z, if_pos ((in_isI (by omega)).mpr z)]
  · rw [if_neg z, if_neg (fun q => z ((in_isI (by omega)).mp q))]
theorem mo_isBeater {b : Int32} (hM : MD h y u v T P S J K C) (hQ : Q (.inl (some (.int (if isI (P 1) b then 1 else 0)))) h n) : bk_wp V (d + 2) 151 [.ref y, .int b] h n B Q := by
  obtain ⟨hTp, har, hah, ⟨I, A, hR, hr, hP, hY, hp, hs, hv, hd1, hd2, hbs⟩, hJ1, hT2, hu⟩ := id hM
  have hl : (P 1).length ≤ 6 := hs.1.2.1.1
  have hB : K 1 = nI (P 1).length := hp.1 1 (by decide)
  refine bg_in rfl rfl ?_
  refine bg_iload1 rfl ?_
  refine bg_iconst rfl ?_
  refine bg_aload0 rfl ?_
  refine bg_getfield rfl rfl hY (by rfl) ?_
  refine bg_getfield rfl rfl hP.1 (by rfl) ?_
  refine bg_iconst rfl ?_
  refine bg_isub rfl ?_
  refine bg_stat3 rfl rfl rfl rfl ?_
  refine rb_isIn (bk_Ki ?_)
  refine bg_iret rfl rfl (by split <;> rfl) ?_
  refine bQ hQ ?_
  rw [hB]
  by_cases z : isI (P 1) b
  · rw [if_pos z, if_pos ((in_isI (by omega)).mpr z)]
  · rw [if_neg z, if_neg (fun q => z ((in_isI (by omega)).mp q))]
theorem mo_isSpirit {b : Int32} (hM : MD h y u v T P S J K C) (hQ : Q (.inl (some (.int (if isI (P 2) b then 1 else 0)))) h n) : bk_wp V (d + 2) 152 [.ref y, .int b] h n B Q := by
  obtain ⟨hTp, har, hah, ⟨I, A, hR, hr, hP, hY, hp, hs, hv, hd1, hd2, hbs⟩, hJ1, hT2, hu⟩ := id hM
  have hl : (P 2).length ≤ 6 := hs.1.2.2.1.1
  have hB : K 2 = nI (P 2).length := hp.1 2 (by decide)
  refine bg_in rfl rfl ?_
  refine bg_iload1 rfl ?_
  refine bg_iconst rfl ?_
  refine bg_aload0 rfl ?_
  refine bg_getfield rfl rfl hY (by rfl) ?_
  refine bg_getfield rfl rfl hP.1 (by rfl) ?_
  refine bg_iconst rfl ?_
  refine bg_isub rfl ?_
  refine bg_stat3 rfl rfl rfl rfl ?_
  refine rb_isIn (bk_Ki ?_)
  refine bg_iret rfl rfl (by split <;> rfl) ?_
  refine bQ hQ ?_
  rw [hB]
  by_cases z : isI (P 2) b
  · rw [if_pos z, if_pos ((in_isI (by omega)).mpr z)]
  · rw [if_neg z, if_neg (fun q => z ((in_isI (by omega)).mp q))]
theorem mo_counted {k : Nat} (hsd : sdL (S.2 2) 6 0 0 = S.1 6) (hk : k < 15) (hM : MD h y u v T P S J K C) (hn : y + 51 ≤ n ∧ u + 16 ≤ n) (hB1 : 1 ≤ B.1) (hB2 : 15 ≤ B.2) (hQ : ∀ h', (∀ q, q ≠ n → h' q = h q) → Q (.inl (some (.int (cnV T P S (nI k))))) h' (n + 1)) : bk_wp V (d + 2) 199 [.ref y, .int (nI k)] h n B Q := by
  obtain ⟨hTp, har, hah, ⟨I, A, hR, hr, hP, hY, hp, hs, hv, hd1, hd2, hbs⟩, hJ1, hT2, hu⟩ := id hM
  have hl3 : (S.2 3).length ≤ 30 := hs.2.1.2.2.2.1.1
  refine bg_in rfl rfl ?_
  refine bg_bipush rfl ?_
  refine bg_newarray_int rfl (N := 15) rfl (by decide) (by show 0 + 1 ≤ B.1; omega) (by show 0 + 15 ≤ B.2; omega) (by decide) (fun h2 f2 g2 => ?_)
  have hE : ∀ q, q ≠ n → h2 q = h q := g2
  have hA := f2
  refine bg_dup rfl rfl ?_
  refine bg_iconst rfl ?_
  refine bg_aload0 rfl ?_
  refine bg_getfield rfl rfl ((hE _ (by omega)).trans hY) (by rfl) ?_
  refine bg_getfield rfl rfl ((hE _ (by omega)).trans hR.1) (by rfl) ?_
  refine bg_iastore_n (i := 0) rfl hA (by decide) (by decide) (fun h13 f13 g13 => ?_)
  replace hE : ∀ q, q ≠ n → h13 q = h q := fun q z => (g13 q z).trans (hE q z)
  replace hA := f13
  refine bg_dup rfl rfl ?_
  refine bg_iconst rfl ?_
  refine bg_aload0 rfl ?_
  refine bg_getfield rfl rfl ((hE _ (by omega)).trans hY) (by rfl) ?_
  refine bg_getfield rfl rfl ((hE _ (by omega)).trans hR.1) (by rfl) ?_
  refine bg_iastore_n (i := 1) rfl hA (by decide) (by decide) (fun h23 f23 g23 => ?_)
  replace hE : ∀ q, q ≠ n → h23 q = h q := fun q z => (g23 q z).trans (hE q z)
  replace hA := f23
  refine bg_dup rfl rfl ?_
  refine bg_iconst rfl ?_
  refine bg_aload0 rfl ?_
  refine bg_getfield rfl rfl ((hE _ (by omega)).trans hY) (by rfl) ?_
  refine bg_getfield rfl rfl ((hE _ (by omega)).trans hR.1) (by rfl) ?_
  refine bg_iastore_n (i := 2) rfl hA (by decide) (by decide) (fun h33 f33 g33 => ?_)
  replace hE : ∀ q, q ≠ n → h33 q = h q := fun q z => (g33 q z).trans (hE q z)
  replace hA := f33
  refine bg_dup rfl rfl ?_
  refine bg_iconst rfl ?_
  refine bg_aload0 rfl ?_
  refine bg_getfield rfl rfl ((hE _ (by omega)).trans hY) (by rfl) ?_
  refine bg_getfield rfl rfl ((hE _ (by omega)).trans hP.1) (by rfl) ?_
  refine bg_iastore_n (i := 3) rfl hA (by decide) (by decide) (fun h43 f43 g43 => ?_)
  replace hE : ∀ q, q ≠ n → h43 q = h q := fun q z => (g43 q z).trans (hE q z)
  replace hA := f43
  refine bg_dup rfl rfl ?_
  refine bg_iconst rfl ?_
  refine bg_aload0 rfl ?_
  refine bg_getfield rfl rfl ((hE _ (by omega)).trans hY) (by rfl) ?_
  refine bg_getfield rfl rfl ((hE _ (by omega)).trans hP.1) (by rfl) ?_
  refine bg_iastore_n (i := 4) rfl hA (by decide) (by decide) (fun h53 f53 g53 => ?_)
  replace hE : ∀ q, q ≠ n → h53 q = h q := fun q z => (g53 q z).trans (hE q z)
  replace hA := f53
  refine bg_dup rfl rfl ?_
  refine bg_iconst rfl ?_
  refine bg_aload0 rfl ?_
  refine bg_getfield rfl rfl ((hE _ (by omega)).trans hY) (by rfl) ?_
  refine bg_getfield rfl rfl ((hE _ (by omega)).trans hP.1) (by rfl) ?_
  refine bg_iastore_n (i := 5) rfl hA (by decide) (by decide) (fun h63 f63 g63 => ?_)
  replace hE : ∀ q, q ≠ n → h63 q = h q := fun q z => (g63 q z).trans (hE q z)
  replace hA := f63
  refine bg_dup rfl rfl ?_
  refine bg_bipush rfl ?_
  refine bg_aload0 rfl ?_
  refine bg_getfield rfl rfl ((hE _ (by omega)).trans hY) (by rfl) ?_
  refine bg_getfield rfl rfl ((hE _ (by omega)).trans hP.1) (by rfl) ?_
  refine bg_iastore_n (i := 6) rfl hA (by decide) (by decide) (fun h74 f74 g74 => ?_)
  replace hE : ∀ q, q ≠ n → h74 q = h q := fun q z => (g74 q z).trans (hE q z)
  replace hA := f74
  refine bg_dup rfl rfl ?_
  refine bg_bipush rfl ?_
  refine bg_aload0 rfl ?_
  refine bg_getfield rfl rfl ((hE _ (by omega)).trans hY) (by rfl) ?_
  refine bg_getfield rfl rfl ((hE _ (by omega)).trans hR.1) (by rfl) ?_
  refine bg_iastore_n (i := 7) rfl hA (by decide) (by decide) (fun h85 f85 g85 => ?_)
  replace hE : ∀ q, q ≠ n → h85 q = h q := fun q z => (g85 q z).trans (hE q z)
  replace hA := f85
  refine bg_dup rfl rfl ?_
  refine bg_bipush rfl ?_
  refine bg_aload0 rfl ?_
  refine bg_getfield rfl rfl ((hE _ (by omega)).trans hY) (by rfl) ?_
  refine bg_virt0 rfl rfl rfl rfl ⟨_, ((hE _ (by omega)).trans hR.1)⟩ ?_
  refine rb_dry (hR.kp (lo := n) (hi := n + 1) (fun q hq => hE q (by omega)) (by omega)) hr hl3 (bk_Ki ?_)
  refine bg_iastore_n (i := 8) rfl hA (by decide) (by decide) (fun h96 f96 g96 => ?_)
  replace hE : ∀ q, q ≠ n → h96 q = h q := fun q z => (g96 q z).trans (hE q z)
  replace hA := f96
  refine bg_dup rfl rfl ?_
  refine bg_bipush rfl ?_
  refine bg_aload0 rfl ?_
  refine bg_getfield rfl rfl ((hE _ (by omega)).trans hY) (by rfl) ?_
  refine bg_getfield rfl rfl ((hE _ (by omega)).trans hR.1) (by rfl) ?_
  refine bg_iastore_n (i := 9) rfl hA (by decide) (by decide) (fun h107 f107 g107 => ?_)
  replace hE : ∀ q, q ≠ n → h107 q = h q := fun q z => (g107 q z).trans (hE q z)
  replace hA := f107
  refine bg_dup rfl rfl ?_
  refine bg_bipush rfl ?_
  refine bg_aload0 rfl ?_
  refine bg_getfield rfl rfl ((hE _ (by omega)).trans hY) (by rfl) ?_
  refine bg_getfield rfl rfl ((hE _ (by omega)).trans hR.1) (by rfl) ?_
  refine bg_iastore_n (i := 10) rfl hA (by decide) (by decide) (fun h118 f118 g118 => ?_)
  replace hE : ∀ q, q ≠ n → h118 q = h q := fun q z => (g118 q z).trans (hE q z)
  replace hA := f118
  refine bg_dup rfl rfl ?_
  refine bg_bipush rfl ?_
  refine bg_aload0 rfl ?_
  refine bg_getfield rfl rfl ((hE _ (by omega)).trans hY) (by rfl) ?_
  refine bg_getfield rfl rfl ((hE _ (by omega)).trans hR.1) (by rfl) ?_
  refine bg_iastore_n (i := 11) rfl hA (by decide) (by decide) (fun h129 f129 g129 => ?_)
  replace hE : ∀ q, q ≠ n → h129 q = h q := fun q z => (g129 q z).trans (hE q z)
  replace hA := f129
  refine bg_dup rfl rfl ?_
  refine bg_bipush rfl ?_
  refine bg_aload0 rfl ?_
  refine bg_getfield rfl rfl ((hE _ (by omega)).trans hY) (by rfl) ?_
  refine bg_getfield rfl rfl ((hE _ (by omega)).trans hR.1) (by rfl) ?_
  refine bg_iastore_n (i := 12) rfl hA (by decide) (by decide) (fun h140 f140 g140 => ?_)
  replace hE : ∀ q, q ≠ n → h140 q = h q := fun q z => (g140 q z).trans (hE q z)
  replace hA := f140
  refine bg_dup rfl rfl ?_
  refine bg_bipush rfl ?_
  refine bg_aload0 rfl ?_
  refine bg_getfield rfl rfl ((hE _ (by omega)).trans hY) (by rfl) ?_
  refine bg_virt0 rfl rfl rfl rfl ⟨_, ((hE _ (by omega)).trans hR.1)⟩ ?_
  refine rb_allSold (hR.kp (lo := n) (hi := n + 1) (fun q hq => hE q (by omega)) (by omega)) hr (bk_Ki ?_)
  refine bg_iastore_n (i := 13) rfl hA (by decide) (by decide) (fun h151 f151 g151 => ?_)
  replace hE : ∀ q, q ≠ n → h151 q = h q := fun q z => (g151 q z).trans (hE q z)
  replace hA := f151
  refine bg_dup rfl rfl ?_
  refine bg_bipush rfl ?_
  refine bg_aload0 rfl ?_
  refine bg_getfield rfl rfl ((hE _ (by omega)).trans hY) (by rfl) ?_
  refine bg_iastore_n (i := 14) rfl hA (by decide) (by decide) (fun h159 f159 g159 => ?_)
  replace hE : ∀ q, q ≠ n → h159 q = h q := fun q z => (g159 q z).trans (hE q z)
  replace hA := f159
  refine bg_astore2 rfl rfl ?_
  refine bg_aload2 rfl ?_
  refine bg_iload1 rfl ?_
  refine bg_iaload_n rfl hA (by decide) hk ?_
  refine bg_iret rfl rfl (by rfl) ?_
  refine bQ (hQ _ hE) ?_
  have hz : k = 0 ∨ k = 1 ∨ k = 2 ∨ k = 3 ∨ k = 4 ∨ k = 5 ∨ k = 6 ∨ k = 7 ∨ k = 8 ∨ k = 9 ∨ k = 10 ∨ k = 11 ∨ k = 12 ∨ k = 13 ∨ k = 14 := by omega
  rcases hz with rfl | rfl | rfl | rfl | rfl | rfl | rfl | rfl | rfl | rfl | rfl | rfl | rfl | rfl | rfl
  · exact (hr.1.1 0 (by decide)).symm
  · exact (hr.1.1 1 (by decide)).symm
  · exact (hr.1.1 2 (by decide)).symm
  · exact (hp.1 0 (by decide)).symm
  · exact (hp.1 1 (by decide)).symm
  · exact (hp.1 2 (by decide)).symm
  · exact (hp.1 3 (by decide)).symm
  · exact hr.1.2.1.symm
  · exact rfl
  · exact hr.1.2.2.1.symm
  · exact (hr.1.1 3 (by decide)).symm
  · exact (hr.1.1 4 (by decide)).symm
  · exact (hr.1.1 5 (by decide)).symm
  · exact hsd.symm
  · exact hJ1.symm
theorem mo_barkTold {k : Nat} {b : Nat} (hb : b < (P 0).length) (hk : k < 5) (hM : MD h y u v T P S J K C) (hn : y + 51 ≤ n ∧ u + 16 ≤ n) (hB1 : 1 ≤ B.1) (hB2 : 5 ≤ B.2) (hQ : ∀ h', (∀ q, q ≠ n → h' q = h q) → Q (.inl (some (.int (bkV P S (nI b) (nI k))))) h' (n + 1)) : bk_wp V (d + 2) 201 [.ref y, .int (nI b), .int (nI k)] h n B Q := by
  obtain ⟨hTp, har, hah, ⟨I, A, hR, hr, hP, hY, hp, hs, hv, hd1, hd2, hbs⟩, hJ1, hT2, hu⟩ := id hM
  have hl3 : (S.2 3).length ≤ 30 := hs.2.1.2.2.2.1.1
  have hl5 : (P 0).length ≤ 5 := hs.1.1.1
  have hb31 : b < 2 ^ 31 := by omega
  obtain ⟨a0, a1, a2⟩ := hr.2.1 b (by rw [hs.2.2.1]; exact hb)
  have c1 := (hp.2.1 b hb).2
  refine bg_in rfl rfl ?_
  refine bg_iconst rfl ?_
  refine bg_newarray_int rfl (N := 5) rfl (by decide) (by show 0 + 1 ≤ B.1; omega) (by show 0 + 5 ≤ B.2; omega) (by decide) (fun h1 f1 g1 => ?_)
  have hE : ∀ q, q ≠ n → h1 q = h q := g1
  have hA := f1
  refine bg_dup rfl rfl ?_
  refine bg_iconst rfl ?_
  refine bg_aload0 rfl ?_
  refine bg_getfield rfl rfl ((hE _ (by omega)).trans hY) (by rfl) ?_
  refine bg_getfield rfl rfl ((hE _ (by omega)).trans hR.1) (by rfl) ?_
  refine bg_iload1 rfl ?_
  refine bg_iaload_n rfl ((hE _ (by omega)).trans (sR1 hR)) (by omega) (by omega) ?_
  refine bg_iastore_n (i := 0) rfl hA (by decide) (by decide) (fun h14 f14 g14 => ?_)
  replace hE : ∀ q, q ≠ n → h14 q = h q := fun q z => (g14 q z).trans (hE q z)
  replace hA := f14
  refine bg_dup rfl rfl ?_
  refine bg_iconst rfl ?_
  refine bg_aload0 rfl ?_
  refine bg_getfield rfl rfl ((hE _ (by omega)).trans hY) (by rfl) ?_
  refine bg_getfield rfl rfl ((hE _ (by omega)).trans hR.1) (by rfl) ?_
  refine bg_iload1 rfl ?_
  refine bg_iaload_n rfl ((hE _ (by omega)).trans (sR2 hR)) (by omega) (by omega) ?_
  refine bg_iastore_n (i := 1) rfl hA (by decide) (by decide) (fun h26 f26 g26 => ?_)
  replace hE : ∀ q, q ≠ n → h26 q = h q := fun q z => (g26 q z).trans (hE q z)
  replace hA := f26
  refine bg_dup rfl rfl ?_
  refine bg_iconst rfl ?_
  refine bg_aload0 rfl ?_
  refine bg_getfield rfl rfl ((hE _ (by omega)).trans hY) (by rfl) ?_
  refine bg_getfield rfl rfl ((hE _ (by omega)).trans hR.1) (by rfl) ?_
  refine bg_iload1 rfl ?_
  refine bg_iaload_n rfl ((hE _ (by omega)).trans (sR3 hR)) (by omega) (by omega) ?_
  refine bg_iastore_n (i := 2) rfl hA (by decide) (by decide) (fun h38 f38 g38 => ?_)
  replace hE : ∀ q, q ≠ n → h38 q = h q := fun q z => (g38 q z).trans (hE q z)
  replace hA := f38
  refine bg_dup rfl rfl ?_
  refine bg_iconst rfl ?_
  refine bg_aload0 rfl ?_
  refine bg_getfield rfl rfl ((hE _ (by omega)).trans hY) (by rfl) ?_
  refine bg_getfield rfl rfl ((hE _ (by omega)).trans hP.1) (by rfl) ?_
  refine bg_iload1 rfl ?_
  refine bg_iaload_n rfl ((hE _ (by omega)).trans (pR2 hP)) (by omega) (by omega) ?_
  refine bg_iastore_n (i := 3) rfl hA (by decide) (by decide) (fun h50 f50 g50 => ?_)
  replace hE : ∀ q, q ≠ n → h50 q = h q := fun q z => (g50 q z).trans (hE q z)
  replace hA := f50
  refine bg_dup rfl rfl ?_
  refine bg_iconst rfl ?_
  refine bg_aload0 rfl ?_
  refine bg_getfield rfl rfl ((hE _ (by omega)).trans hY) (by rfl) ?_
  refine bg_iload1 rfl ?_
  refine bg_virt1 rfl rfl rfl rfl ⟨_, ((hE _ (by omega)).trans hR.1)⟩ ?_
  refine rb_sheetsOf (hR.kp (lo := n) (hi := n + 1) (fun q hq => hE q (by omega)) (by omega)) hr hl3 (bk_Ki ?_)
  refine bg_iastore_n (i := 4) rfl hA (by decide) (by decide) (fun h61 f61 g61 => ?_)
  replace hE : ∀ q, q ≠ n → h61 q = h q := fun q z => (g61 q z).trans (hE q z)
  replace hA := f61
  refine bg_astore3 rfl rfl ?_
  refine bg_aload3 rfl ?_
  refine bg_iload2 rfl ?_
  refine bg_iaload_n rfl hA (by decide) hk ?_
  refine bg_iret rfl rfl (by rfl) ?_
  refine bQ (hQ _ hE) ?_
  have hz : k = 0 ∨ k = 1 ∨ k = 2 ∨ k = 3 ∨ k = 4 := by omega
  rcases hz with rfl | rfl | rfl | rfl | rfl
  · exact (rG_nI hb31).trans a0.symm
  · exact (rG_nI hb31).trans a1.symm
  · exact (rG_nI hb31).trans a2.symm
  · exact (rG_nI hb31).trans c1.symm
  · exact rfl
theorem mo_spiritTold {k : Nat} {b : Nat} (hb : b < (P 2).length) (hk : k < 5) (hM : MD h y u v T P S J K C) (hn : y + 51 ≤ n ∧ u + 16 ≤ n) (hB1 : 1 ≤ B.1) (hB2 : 5 ≤ B.2) (hQ : ∀ h', (∀ q, q ≠ n → h' q = h q) → Q (.inl (some (.int (spV P S (nI b) (nI k))))) h' (n + 1)) : bk_wp V (d + 2) 205 [.ref y, .int (nI b), .int (nI k)] h n B Q := by
  obtain ⟨hTp, har, hah, ⟨I, A, hR, hr, hP, hY, hp, hs, hv, hd1, hd2, hbs⟩, hJ1, hT2, hu⟩ := id hM
  have hl4 : (S.2 4).length ≤ 30 := hs.2.1.2.2.2.2.1
  have hl6 : (P 2).length ≤ 6 := hs.1.2.2.1.1
  have hb31 : b < 2 ^ 31 := by omega
  have a0 := hr.2.2.2.1 b (by omega)
  obtain ⟨c0, c1, c2⟩ := hp.2.2.2.1 b hb
  refine bg_in rfl rfl ?_
  refine bg_iconst rfl ?_
  refine bg_newarray_int rfl (N := 5) rfl (by decide) (by show 0 + 1 ≤ B.1; omega) (by show 0 + 5 ≤ B.2; omega) (by decide) (fun h1 f1 g1 => ?_)
  have hE : ∀ q, q ≠ n → h1 q = h q := g1
  have hA := f1
  refine bg_dup rfl rfl ?_
  refine bg_iconst rfl ?_
  refine bg_aload0 rfl ?_
  refine bg_getfield rfl rfl ((hE _ (by omega)).trans hY) (by rfl) ?_
  refine bg_getfield rfl rfl ((hE _ (by omega)).trans hP.1) (by rfl) ?_
  refine bg_iload1 rfl ?_
  refine bg_iaload_n rfl ((hE _ (by omega)).trans (pR5 hP)) (by omega) (by omega) ?_
  refine bg_iastore_n (i := 0) rfl hA (by decide) (by decide) (fun h14 f14 g14 => ?_)
  replace hE : ∀ q, q ≠ n → h14 q = h q := fun q z => (g14 q z).trans (hE q z)
  replace hA := f14
  refine bg_dup rfl rfl ?_
  refine bg_iconst rfl ?_
  refine bg_aload0 rfl ?_
  refine bg_getfield rfl rfl ((hE _ (by omega)).trans hY) (by rfl) ?_
  refine bg_getfield rfl rfl ((hE _ (by omega)).trans hP.1) (by rfl) ?_
  refine bg_iload1 rfl ?_
  refine bg_iaload_n rfl ((hE _ (by omega)).trans (pR6 hP)) (by omega) (by omega) ?_
  refine bg_iastore_n (i := 1) rfl hA (by decide) (by decide) (fun h26 f26 g26 => ?_)
  replace hE : ∀ q, q ≠ n → h26 q = h q := fun q z => (g26 q z).trans (hE q z)
  replace hA := f26
  refine bg_dup rfl rfl ?_
  refine bg_iconst rfl ?_
  refine bg_aload0 rfl ?_
  refine bg_getfield rfl rfl ((hE _ (by omega)).trans hY) (by rfl) ?_
  refine bg_getfield rfl rfl ((hE _ (by omega)).trans hP.1) (by rfl) ?_
  refine bg_iload1 rfl ?_
  refine bg_iaload_n rfl ((hE _ (by omega)).trans (pR7 hP)) (by omega) (by omega) ?_
  refine bg_iastore_n (i := 2) rfl hA (by decide) (by decide) (fun h38 f38 g38 => ?_)
  replace hE : ∀ q, q ≠ n → h38 q = h q := fun q z => (g38 q z).trans (hE q z)
  replace hA := f38
  refine bg_dup rfl rfl ?_
  refine bg_iconst rfl ?_
  refine bg_aload0 rfl ?_
  refine bg_getfield rfl rfl ((hE _ (by omega)).trans hY) (by rfl) ?_
  refine bg_iload1 rfl ?_
  refine bg_virt1 rfl rfl rfl rfl ⟨_, ((hE _ (by omega)).trans hR.1)⟩ ?_
  refine rb_figuresOf (hR.kp (lo := n) (hi := n + 1) (fun q hq => hE q (by omega)) (by omega)) hr hl4 (bk_Ki ?_)
  refine bg_iastore_n (i := 3) rfl hA (by decide) (by decide) (fun h49 f49 g49 => ?_)
  replace hE : ∀ q, q ≠ n → h49 q = h q := fun q z => (g49 q z).trans (hE q z)
  replace hA := f49
  refine bg_dup rfl rfl ?_
  refine bg_iconst rfl ?_
  refine bg_aload0 rfl ?_
  refine bg_getfield rfl rfl ((hE _ (by omega)).trans hY) (by rfl) ?_
  refine bg_getfield rfl rfl ((hE _ (by omega)).trans hR.1) (by rfl) ?_
  refine bg_iload1 rfl ?_
  refine bg_iaload_n rfl ((hE _ (by omega)).trans (sR5 hR)) (by omega) (by omega) ?_
  refine bg_iastore_n (i := 4) rfl hA (by decide) (by decide) (fun h61 f61 g61 => ?_)
  replace hE : ∀ q, q ≠ n → h61 q = h q := fun q z => (g61 q z).trans (hE q z)
  replace hA := f61
  refine bg_astore3 rfl rfl ?_
  refine bg_aload3 rfl ?_
  refine bg_iload2 rfl ?_
  refine bg_iaload_n rfl hA (by decide) hk ?_
  refine bg_iret rfl rfl (by rfl) ?_
  refine bQ (hQ _ hE) ?_
  have hz : k = 0 ∨ k = 1 ∨ k = 2 ∨ k = 3 ∨ k = 4 := by omega
  rcases hz with rfl | rfl | rfl | rfl | rfl
  · exact (rG_nI hb31).trans c0.symm
  · exact (rG_nI hb31).trans c1.symm
  · exact (rG_nI hb31).trans c2.symm
  · exact rfl
  · exact (rG_nI hb31).trans a0.symm
end MM
