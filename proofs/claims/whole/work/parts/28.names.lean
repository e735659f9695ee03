/-! Names and Tape. Printed by wip/whole/mk28.py. -/
def NM (h : bk_H) (a r : Nat) (l : List Int64) : Prop :=
  h a = some (.inr (5, [.ref (a + 1), .int (nI l.length)])) ∧ (∃ f : Nat → Int64, h (a + 1) = some (.inl (1, r, .inr (.inl f))) ∧ ∀ i, i < l.length → f i = l.getD i 0) ∧ l.length ≤ r ∧ r ≤ 401
theorem NM.kp {h h' : bk_H} {a r lo hi : Nat} {l : List Int64} (q : NM h a r l) (g : fr h h' lo hi) (hd : a + 1 < lo ∨ hi ≤ a) : NM h' a r l := by
  obtain ⟨h1, ⟨f, h2, h3⟩, h4⟩ := q
  exact ⟨(g a (by omega)).trans h1, ⟨f, (g (a + 1) (by omega)).trans h2, h3⟩, h4⟩
def ixL : List Int64 → Int64 → Nat → Int32
  | [], _, _ => -1
  | x :: r, c, k => if x = c then nI k else ixL r c (k + 1)
def byF (x s : Int32) : Int32 := (x >>> s) &&& 255
def bys (x : Int32) : List Int32 := [byF x 24, byF x 16, byF x 8, byF x 0]
def TA (h : bk_H) (a : Nat) (T : List Int32) : Prop :=
  h a = some (.inr (8, [.ref (a + 1), .int (nI T.length)])) ∧ (∃ f : Nat → Int32, h (a + 1) = some (.inl (2, 2000, .inl f)) ∧ ∀ i, i < T.length → f i &&& 255 = T.getD i 0) ∧ T.length ≤ 2000 ∧ (∀ b ∈ T, ∃ k, k < 256 ∧ b = nI k)
theorem TA.kp {h h' : bk_H} {a lo hi : Nat} {T : List Int32} (q : TA h a T) (g : fr h h' lo hi) (hd : a + 1 < lo ∨ hi ≤ a) : TA h' a T := by
  obtain ⟨h1, ⟨f, h2, h3⟩, h4⟩ := q
  exact ⟨(g a (by omega)).trans h1, ⟨f, (g (a + 1) (by omega)).trans h2, h3⟩, h4⟩
def bA (T : List Int32) (p : Nat) : Int32 := T.getD p (-1)
theorem byF_nI (x s : Int32) : ∃ k, k < 256 ∧ byF x s = nI k := pk_andE _ 8 rfl
theorem bA_lt {T : List Int32} {p : Nat} (hT : ∀ b ∈ T, ∃ k, k < 256 ∧ b = nI k) (hp : p < T.length) : ∃ k, k < 256 ∧ bA T p = nI k := by
  unfold bA
  rw [gD_lt hp]
  exact hT _ (List.getElem_mem hp)
theorem bA_ge {T : List Int32} {p : Nat} (hp : T.length ≤ p) : bA T p = -1 := gD_ge hp
section BN
variable {V : bk_V} {d n : Nat} {B : Nat × Nat} {Q : bk_R → bk_H → Nat → Prop} {h : bk_H} {a r : Nat} {l : List Int64} {T : List Int32} {cs : Nat × Nat}
theorem bn_isFull (hN : NM h a r l) (hQ : Q (.inl (some (.int (if r ≤ l.length then 1 else 0)))) h n) : bk_wp V (d + 1) 37 [.ref a] h n B Q := by
  obtain ⟨h1, ⟨f, h2, h3⟩, h4, h5⟩ := hN
  refine bg_in rfl rfl ?_
  refine bg_aload0 rfl ?_
  refine bg_getfield rfl rfl h1 (by rfl) ?_
  refine bg_aload0 rfl ?_
  refine bg_getfield rfl rfl h1 (by rfl) ?_
  refine bg_alen rfl h2 (by decide) ?_
  refine bg_icmp_lt rfl (fun e9 => ?_) (fun e9 => ?_)
  · rw [if_neg (fun q => nI_nlt q (by omega) e9)] at hQ
    refine bg_iconst rfl ?_
    refine bg_iret rfl rfl (by rfl) ?_
    assumption
  · rw [if_pos (Nat.le_of_not_lt fun q => e9 (nI_lt q (by omega)))] at hQ
    refine bg_iconst rfl ?_
    refine bg_goto rfl ?_
    refine bg_iret rfl rfl (by rfl) ?_
    assumption
theorem bn_clear (hN : NM h a r l) (hQ : ∀ h', NM h' a r [] → fr h h' a (a + 2) → Q (.inl none) h' n) : bk_wp V (d + 1) 38 [.ref a] h n B Q := by
  obtain ⟨h1, ⟨f, h2, h3⟩, h4, h5⟩ := hN
  refine bg_in rfl rfl ?_
  have hq := h2
  refine bg_aload0 rfl ?_
  refine bg_iconst rfl ?_
  refine bg_putfield rfl rfl h1 (by rfl) ⟨rfl, rfl⟩ (by rfl) (fun h2 f2 g2 => ?_)
  refine bg_ret rfl rfl ?_
  exact hQ h2 ⟨f2, ⟨f, (g2 _ (by omega)).trans hq, fun i k => absurd k (Nat.not_lt_zero i)⟩, Nat.zero_le r, h5⟩ (fun q hq => g2 q (by omega))
theorem bn_add {x : Int64} (hN : NM h a r l) (hl : l.length < r) (hQ : ∀ h', NM h' a r (l ++ [x]) → fr h h' a (a + 2) → Q (.inl none) h' n) : bk_wp V (d + 1) 39 [.ref a, .long x] h n B Q := by
  obtain ⟨h1, ⟨f, h2, h3⟩, h4, h5⟩ := hN
  refine bg_in rfl rfl ?_
  refine bg_aload0 rfl ?_
  refine bg_getfield rfl rfl h1 (by rfl) ?_
  refine bg_if_lt rfl (fun e4 => absurd e4 (nI_pos (by omega))) (fun e4 => ?_)
  refine bg_aload0 rfl ?_
  refine bg_getfield rfl rfl h1 (by rfl) ?_
  refine bg_aload0 rfl ?_
  refine bg_getfield rfl rfl h1 (by rfl) ?_
  refine bg_alen rfl h2 (by decide) ?_
  refine bg_icmp_ge rfl (fun e16 => absurd (nI_lt hl (by omega)) e16) (fun e16 => ?_)
  refine bg_aload0 rfl ?_
  refine bg_getfield rfl rfl h1 (by rfl) ?_
  refine bg_aload0 rfl ?_
  refine bg_getfield rfl rfl h1 (by rfl) ?_
  refine bg_lload1 rfl ?_
  refine bg_lastore rfl h2 (vp_in_nI hl (by omega)) (fun h28 f28 g28 => ?_)
  rw [nI_clamp (by omega)] at f28
  have j1 := (g28 a (by omega)).trans h1
  refine bg_aload0 rfl ?_
  refine bg_dup rfl rfl ?_
  refine bg_getfield rfl rfl j1 (by rfl) ?_
  refine bg_iconst rfl ?_
  refine bg_iadd rfl ?_
  refine bg_putfield rfl rfl j1 (by rfl) ⟨rfl, rfl⟩ (by rfl) (fun h36 f36 g36 => ?_)
  refine bg_ret rfl rfl ?_
  rw [nI_1] at f36
  refine hQ h36 ⟨by rw [List.length_append]; exact f36, ⟨_, (g36 _ (by omega)).trans f28, fun i hi => ?_⟩, by rw [List.length_append]; exact hl, h5⟩ (fun q hq => (g36 q (by omega)).trans (g28 q (by omega)))
  rw [List.length_append] at hi
  have hi : i < l.length + 1 := hi
  by_cases hq : i = l.length
  · subst hq
    rw [pk_uLs, List.getD_eq_getElem?_getD, List.getElem?_append_right (Nat.le_refl _), Nat.sub_self]
    rfl
  · rw [pk_uLn hq, h3 i (by omega), List.getD_eq_getElem?_getD, List.getD_eq_getElem?_getD, List.getElem?_append_left (by omega)]
theorem bn_findL {x : Int64} {x2 : Option Value} (hN : NM h a r l) (hQ : Q (.inl (some (.int (ixL l x 0)))) h n) : ∀ (c i : Nat), i + c = l.length → ixL l x 0 = ixL (l.drop i) x i → bk_g V d 40 B Q 2 [some (.ref a), some (.long x), none, some (.int (nI i))] [] h n cs := by
  obtain ⟨h1, ⟨f, h2, h3⟩, h4, h5⟩ := hN
  intro c
  induction c with
  | zero =>
    intro i hi he
    refine bg_iload3 rfl ?_
    refine bg_aload0 rfl ?_
    refine bg_getfield rfl rfl h1 (by rfl) ?_
    refine bg_icmp_ge rfl (fun e7 => ?_) (fun e7 => absurd e7 (nI_nlt (by omega) (by omega)))
    refine bg_iconst rfl ?_
    refine bg_iret rfl rfl (by rfl) ?_
    rw [he, List.drop_eq_nil_of_le (by omega)] at hQ
    exact hQ
  | succ c ih =>
    intro i hi he
    have hi1 : i < l.length := by omega
    rw [List.drop_eq_getElem_cons hi1] at he
    refine bg_iload3 rfl ?_
    refine bg_aload0 rfl ?_
    refine bg_getfield rfl rfl h1 (by rfl) ?_
    refine bg_icmp_ge rfl (fun e7 => absurd (nI_lt hi1 (by omega)) e7) (fun e7 => ?_)
    refine bg_iload3 rfl ?_
    refine bg_aload0 rfl ?_
    refine bg_getfield rfl rfl h1 (by rfl) ?_
    refine bg_alen rfl h2 (by decide) ?_
    refine bg_icmp_ge rfl (fun e16 => absurd (nI_lt (by omega) (by omega)) e16) (fun e16 => ?_)
    refine bg_aload0 rfl ?_
    refine bg_getfield rfl rfl h1 (by rfl) ?_
    refine bg_iload3 rfl ?_
    refine bg_laload rfl h2 (vp_in_nI (by omega) (by omega)) ?_
    rw [nI_clamp (by omega), h3 i hi1, gD_lt hi1]
    refine bg_lload1 rfl ?_
    refine bg_lcmp rfl ?_
    refine bg_if_ne rfl (fun e27 => ?_) (fun e27 => ?_)
    · have e27 := fun q => e27 ((lg_cmp_eq _ _).mpr q)
      have he := he.trans (if_neg e27)
      refine bg_iinc3 rfl rfl ?_
      rw [nI_1]
      refine bg_goto rfl ?_
      exact ih (i + 1) (by omega) he
    · have e27 := (lg_cmp_eq _ _).mp e27
      have he := he.trans (if_pos e27)
      refine bg_iload3 rfl ?_
      refine bg_iret rfl rfl (by rfl) ?_
      exact bQ hQ he

theorem bn_find {x : Int64} (hN : NM h a r l) (hQ : Q (.inl (some (.int (ixL l x 0)))) h n) : bk_wp V (d + 1) 40 [.ref a, .long x] h n B Q := by
  refine bg_in rfl rfl ?_
  refine bg_iconst rfl ?_
  refine bg_istore3 rfl rfl ?_
  exact bn_findL (x2 := none) hN hQ l.length 0 (by omega) rfl
theorem bn_init {x : Int32} (hx : x = nI r) (hr : r ≤ 401) (ha : h a = some (.inr (5, [.null, .int 0]))) (hn : n = a + 1) (hQ : ∀ h', NM h' a r [] → fr h h' a (a + 2) → Q (.inl none) h' (n + 1)) (hB1 : 1 ≤ B.1) (hB2 : r ≤ B.2) : bk_wp V (d + 1) 36 [.ref a, .int x] h n B Q := by
  subst hx hn
  have z8 : (if (0 : Int32) < nI r then nI r else 0) = nI r := (bt_max (x := 0) (by omega) (by omega)).trans (by rw [Nat.zero_max])
  refine bg_in rfl rfl ?_
  refine bg_aload0 rfl ?_
  refine bg_objinit rfl rfl rfl ?_
  refine bg_aload0 rfl ?_
  refine bg_iconst rfl ?_
  refine bg_iload1 rfl ?_
  refine bg_max rfl rfl rfl ?_
  rw [z8]
  refine bg_newarray_long rfl (nI_clamp (by omega)) (nI_pos (by omega)) (by show 0 + 1 ≤ B.1; omega) (by show 0 + r ≤ B.2; omega) (by omega) (fun h10 f10 g10 => ?_)
  have j1 := (g10 a (by omega)).trans ha
  refine bg_putfield rfl rfl j1 (by rfl) ⟨rfl, rfl⟩ (by rfl) (fun h12 f12 g12 => ?_)
  refine bg_aload0 rfl ?_
  refine bg_iconst rfl ?_
  refine bg_putfield rfl rfl f12 (by rfl) ⟨rfl, rfl⟩ (by rfl) (fun h17 f17 g17 => ?_)
  refine bg_ret rfl rfl ?_
  refine hQ h17 ⟨f17, ⟨_, (g17 _ (by omega)).trans ((g12 _ (by omega)).trans f10), fun i hi => absurd hi (Nat.not_lt_zero i)⟩, Nat.zero_le r, hr⟩ fun q hq => ?_
  rw [g17 q (by omega), g12 q (by omega), g10 q (by omega)]
theorem ba_length (hT : TA h a T) (hQ : Q (.inl (some (.int (nI T.length)))) h n) : bk_wp V (d + 1) 74 [.ref a] h n B Q := by
  obtain ⟨h1, ⟨f, h2, h3⟩, h4, h5⟩ := hT
  refine bg_in rfl rfl ?_
  refine bg_aload0 rfl ?_
  refine bg_getfield rfl rfl h1 (by rfl) ?_
  refine bg_iret rfl rfl (by rfl) ?_
  assumption
theorem ba_at {p : Nat} (hp : p < 2 ^ 31) (hT : TA h a T) (hQ : Q (.inl (some (.int (bA T p)))) h n) : bk_wp V (d + 1) 77 [.ref a, .int (nI p)] h n B Q := by
  obtain ⟨h1, ⟨f, h2, h3⟩, h4, h5⟩ := hT
  refine bg_in rfl rfl ?_
  refine bg_iload1 rfl ?_
  refine bg_if_lt rfl (fun e1 => absurd e1 (nI_pos hp)) (fun e1 => ?_)
  refine bg_iload1 rfl ?_
  refine bg_aload0 rfl ?_
  refine bg_getfield rfl rfl h1 (by rfl) ?_
  refine bg_icmp_ge rfl (fun e9 => ?_) (fun e9 => ?_)
  · rw [bA_ge (Nat.le_of_not_lt fun q => e9 (nI_lt q (by omega)))] at hQ
    refine bg_iconst rfl ?_
    refine bg_iret rfl rfl (by rfl) ?_
    exact hQ
  · have hp1 := (nI_ltI hp (by omega)).mp e9
    refine bg_iload1 rfl ?_
    refine bg_aload0 rfl ?_
    refine bg_getfield rfl rfl h1 (by rfl) ?_
    refine bg_alen rfl h2 (by decide) ?_
    refine bg_icmp_lt rfl (fun e18 => ?_) (fun e18 => absurd (nI_lt (by omega) (by omega)) e18)
    refine bg_aload0 rfl ?_
    refine bg_getfield rfl rfl h1 (by rfl) ?_
    refine bg_iload1 rfl ?_
    refine bg_baload rfl h2 (vp_in_nI (by omega) (by omega)) ?_
    refine bg_sipush rfl ?_
    rw [nI_clamp (by omega)]
    refine bg_iand rfl ?_
    rw [h3 p hp1]
    unfold bA at hQ
    rw [gD_lt hp1] at hQ
    rw [gD_lt hp1]
    refine bg_iret rfl rfl (by rfl) ?_
    exact hQ
theorem ba_shorten {m : Nat} (hm : m ≤ T.length) (hT : TA h a T) (hQ : ∀ h', TA h' a (T.take m) → fr h h' a (a + 2) → Q (.inl none) h' n) : bk_wp V (d + 1) 75 [.ref a, .int (nI m)] h n B Q := by
  have hT0 := hT
  obtain ⟨h1, ⟨f, h2, h3⟩, h4, h5⟩ := hT
  refine bg_in rfl rfl ?_
  refine bg_iload1 rfl ?_
  refine bg_if_lt rfl (fun e1 => absurd e1 (nI_pos (by omega))) (fun e1 => ?_)
  refine bg_iload1 rfl ?_
  refine bg_aload0 rfl ?_
  refine bg_getfield rfl rfl h1 (by rfl) ?_
  refine bg_icmp_ge rfl (fun e9 => ?_) (fun e9 => ?_)
  · have e0 : T.take m = T := List.take_of_length_le (Nat.le_of_not_lt fun q => e9 (nI_lt q (by omega)))
    rw [e0] at hQ
    refine bg_ret rfl rfl ?_
    exact hQ h hT0 fr.refl
  · refine bg_aload0 rfl ?_
    refine bg_iload1 rfl ?_
    refine bg_putfield rfl rfl h1 (by rfl) ⟨rfl, rfl⟩ (by rfl) (fun h14 f14 g14 => ?_)
    refine bg_ret rfl rfl ?_
    refine hQ h14 ⟨by rw [List.length_take, Nat.min_eq_left hm]; exact f14, ⟨f, (g14 _ (by omega)).trans h2, fun i hi => ?_⟩, by rw [List.length_take]; omega, fun b hb => h5 b (List.mem_of_mem_take hb)⟩ (fun q hq => g14 q (by omega))
    rw [List.length_take] at hi
    rw [h3 i (by omega), List.getD_eq_getElem?_getD, List.getD_eq_getElem?_getD, List.getElem?_take, if_pos (by omega)]
theorem bp_b (x : Int32) : x.toInt8.toInt32 &&& 255 = x &&& 255 := by
  apply Int32.toBitVec_inj.mp
  rw [Int32.toBitVec_and, Int32.toBitVec_and, Int8.toBitVec_toInt32, Int32.toBitVec_toInt8]
  apply BitVec.eq_of_getLsbD_eq
  intro i hi
  rw [BitVec.getLsbD_and, BitVec.getLsbD_and]
  have hm : ∀ i < 32, 8 ≤ i → (255 : Int32).toBitVec.getLsbD i = false := by decide
  rcases Nat.lt_or_ge i 8 with z | z
  · rw [BitVec.getLsbD_signExtend, BitVec.getLsbD_signExtend, if_pos z, if_pos hi]
    simp only [z, hi, decide_true, Bool.true_and]
  · rw [hm i hi z]; simp
theorem by_eq (x : Int32) {s : Int32} {k : Nat} (hk : k ≤ 24) (hs : s = nI k) : ((x.toUInt32 >>> (s.toUInt32 &&& Int32.toUInt32 31)).toInt32.toInt8.toInt32) &&& 255 = byF x s := by
  unfold byF
  rw [bp_b, pk_and _ 8 rfl, pk_and _ 8 rfl]
  congr 1
  have q1 : ∀ j, j ≤ 24 → (((nI j).toUInt32 &&& Int32.toUInt32 31).toBitVec % 32).toNat = j := by decide
  have q2 : ∀ j, j ≤ 24 → ((nI j).toBitVec.smod 32).toNat = j := by decide
  subst hs
  have e1 := pk_ushr x (nI k) k (q1 k hk)
  have e2 := pk_shr x (nI k) k (q2 k hk)
  rw [e1]
  have e3 : (x >>> nI k).toBitVec = x.toBitVec.sshiftRight k := by
    apply BitVec.eq_of_toInt_eq
    rw [BitVec.toInt_sshiftRight]
    exact e2
  rw [e3]
  have e4 : ∀ (v : BitVec 32), v.toNat / 2 ^ k % 2 ^ 8 = (v.sshiftRight k).toNat % 2 ^ 8 := by
    intro v
    rw [← Nat.shiftRight_eq_div_pow]
    apply Nat.eq_of_testBit_eq
    intro i
    rw [Nat.testBit_mod_two_pow, Nat.testBit_mod_two_pow, Nat.testBit_shiftRight, BitVec.testBit_toNat, BitVec.testBit_toNat, BitVec.getLsbD_sshiftRight]
    by_cases hi : i < 8
    · simp [hi, show i < 32 by omega, show k + i < 32 by omega]
    · simp [hi]
  exact e4 _
def bysD (x : Int32) : Nat → List Int32
  | 0 => [byF x 0]
  | j + 1 => byF x (nI (8 * (j + 1))) :: bysD x j
theorem ba_appL {x : Int32} : ∀ (j : Nat) (T : List Int32) (h : bk_H), j ≤ 3 → TA h a T → T.length + j + 1 ≤ 2000 → (∀ h', TA h' a (T ++ bysD x j) → fr h h' a (a + 2) → Q (.inl none) h' n) → bk_g V d 76 B Q 3 [some (.ref a), some (.int x), some (.int (nI (8 * j)))] [] h n cs := by
  intro j
  induction j with
  | zero =>
    intro T h hj hT hl hQ
    obtain ⟨h1, ⟨f, h2, h3⟩, h4, h5⟩ := hT
    refine bg_iload2 rfl ?_
    refine bg_if_lt rfl (fun e4 => absurd e4 (nI_pos (by omega))) (fun e4 => ?_)
    refine bg_aload0 rfl ?_
    refine bg_getfield rfl rfl h1 (by rfl) ?_
    refine bg_if_lt rfl (fun e11 => absurd e11 (nI_pos (by omega))) (fun e11 => ?_)
    refine bg_aload0 rfl ?_
    refine bg_getfield rfl rfl h1 (by rfl) ?_
    refine bg_aload0 rfl ?_
    refine bg_getfield rfl rfl h1 (by rfl) ?_
    refine bg_alen rfl h2 (by decide) ?_
    refine bg_icmp_ge rfl (fun e23 => absurd (nI_lt (by omega) (by omega)) e23) (fun e23 => ?_)
    refine bg_aload0 rfl ?_
    refine bg_getfield rfl rfl h1 (by rfl) ?_
    refine bg_aload0 rfl ?_
    refine bg_getfield rfl rfl h1 (by rfl) ?_
    refine bg_iload1 rfl ?_
    refine bg_iload2 rfl ?_
    refine bg_iushr rfl ?_
    refine bg_i2b rfl ?_
    refine bg_bastore rfl h2 (vp_in_nI (by omega) (by omega)) (pk_fb _) (fun h38 f38 g38 => ?_)
    rw [nI_clamp (by omega)] at f38
    have j1 := (g38 a (by omega)).trans h1
    refine bg_aload0 rfl ?_
    refine bg_dup rfl rfl ?_
    refine bg_getfield rfl rfl j1 (by rfl) ?_
    refine bg_iconst rfl ?_
    refine bg_iadd rfl ?_
    refine bg_putfield rfl rfl j1 (by rfl) ⟨rfl, rfl⟩ (by rfl) (fun h46 f46 g46 => ?_)
    rw [nI_1] at f46
    have hT1 : TA h46 a (T ++ [byF x (nI (8 * 0))]) := by
      refine ⟨by rw [List.length_append]; exact f46, ⟨_, (g46 _ (by omega)).trans f38, fun i hi => ?_⟩, by rw [List.length_append]; show T.length + 1 ≤ 2000; omega, fun b hb => ?_⟩
      · rw [List.length_append] at hi
        have hi : i < T.length + 1 := hi
        by_cases hq : i = T.length
        · subst hq
          rw [pk_us, by_eq x (k := 8 * 0) (by omega) rfl, List.getD_eq_getElem?_getD, List.getElem?_append_right (Nat.le_refl _), Nat.sub_self]
          rfl
        · rw [pk_un hq, h3 i (by omega), List.getD_eq_getElem?_getD, List.getD_eq_getElem?_getD, List.getElem?_append_left (by omega)]
      · rcases List.mem_append.mp hb with q | q
        · exact h5 b q
        · rw [List.mem_singleton.mp q]
          exact byF_nI x _
    have hF : fr h h46 a (a + 2) := fun q hq => (g46 q (by omega)).trans (g38 q (by omega))
    refine bg_iinc2 rfl rfl ?_
    refine bg_goto rfl ?_
    refine bg_iload2 rfl ?_
    refine bg_if_lt rfl (fun _ => ?_) (fun e => absurd (by decide) e)
    refine bg_ret rfl rfl ?_
    exact hQ _ hT1 hF
  | succ j ih =>
    intro T h hj hT hl hQ
    obtain ⟨h1, ⟨f, h2, h3⟩, h4, h5⟩ := hT
    refine bg_iload2 rfl ?_
    refine bg_if_lt rfl (fun e4 => absurd e4 (nI_pos (by omega))) (fun e4 => ?_)
    refine bg_aload0 rfl ?_
    refine bg_getfield rfl rfl h1 (by rfl) ?_
    refine bg_if_lt rfl (fun e11 => absurd e11 (nI_pos (by omega))) (fun e11 => ?_)
    refine bg_aload0 rfl ?_
    refine bg_getfield rfl rfl h1 (by rfl) ?_
    refine bg_aload0 rfl ?_
    refine bg_getfield rfl rfl h1 (by rfl) ?_
    refine bg_alen rfl h2 (by decide) ?_
    refine bg_icmp_ge rfl (fun e23 => absurd (nI_lt (by omega) (by omega)) e23) (fun e23 => ?_)
    refine bg_aload0 rfl ?_
    refine bg_getfield rfl rfl h1 (by rfl) ?_
    refine bg_aload0 rfl ?_
    refine bg_getfield rfl rfl h1 (by rfl) ?_
    refine bg_iload1 rfl ?_
    refine bg_iload2 rfl ?_
    refine bg_iushr rfl ?_
    refine bg_i2b rfl ?_
    refine bg_bastore rfl h2 (vp_in_nI (by omega) (by omega)) (pk_fb _) (fun h38 f38 g38 => ?_)
    rw [nI_clamp (by omega)] at f38
    have j1 := (g38 a (by omega)).trans h1
    refine bg_aload0 rfl ?_
    refine bg_dup rfl rfl ?_
    refine bg_getfield rfl rfl j1 (by rfl) ?_
    refine bg_iconst rfl ?_
    refine bg_iadd rfl ?_
    refine bg_putfield rfl rfl j1 (by rfl) ⟨rfl, rfl⟩ (by rfl) (fun h46 f46 g46 => ?_)
    rw [nI_1] at f46
    have hT1 : TA h46 a (T ++ [byF x (nI (8 * (j + 1)))]) := by
      refine ⟨by rw [List.length_append]; exact f46, ⟨_, (g46 _ (by omega)).trans f38, fun i hi => ?_⟩, by rw [List.length_append]; show T.length + 1 ≤ 2000; omega, fun b hb => ?_⟩
      · rw [List.length_append] at hi
        have hi : i < T.length + 1 := hi
        by_cases hq : i = T.length
        · subst hq
          rw [pk_us, by_eq x (k := 8 * (j + 1)) (by omega) rfl, List.getD_eq_getElem?_getD, List.getElem?_append_right (Nat.le_refl _), Nat.sub_self]
          rfl
        · rw [pk_un hq, h3 i (by omega), List.getD_eq_getElem?_getD, List.getD_eq_getElem?_getD, List.getElem?_append_left (by omega)]
      · rcases List.mem_append.mp hb with q | q
        · exact h5 b q
        · rw [List.mem_singleton.mp q]
          exact byF_nI x _
    have hF : fr h h46 a (a + 2) := fun q hq => (g46 q (by omega)).trans (g38 q (by omega))
    refine bg_iinc2 rfl rfl ?_
    refine bg_goto rfl ?_
    rw [show nI (8 * (j + 1)) + (-8) = nI (8 * j) from (Int32.sub_eq_add_neg _ _).symm.trans (pk_sub (a := 8 * (j + 1)) (b := 8) (by omega))]
    refine ih _ h46 (by omega) hT1 (by rw [List.length_append]; show T.length + 1 + j + 1 ≤ 2000; omega) (fun h' q1 q2 => hQ h' ?_ (hF.trans q2))
    rw [List.append_assoc] at q1
    exact q1

theorem ba_append {x : Int32} (hT : TA h a T) (hl : T.length + 4 ≤ 2000) (hQ : ∀ h', TA h' a (T ++ bys x) → fr h h' a (a + 2) → Q (.inl none) h' n) : bk_wp V (d + 1) 76 [.ref a, .int x] h n B Q := by
  refine bg_in rfl rfl ?_
  refine bg_bipush rfl ?_
  refine bg_istore2 rfl rfl ?_
  exact ba_appL 3 T h (by decide) hT hl hQ
theorem ba_init (ha : h a = some (.inr (8, [.null, .int 0]))) (hn : n = a + 1) (hQ : ∀ h', TA h' a [] → fr h h' a (a + 2) → Q (.inl none) h' (n + 1)) (hB1 : 1 ≤ B.1) (hB2 : 2000 ≤ B.2) : bk_wp V (d + 1) 73 [.ref a] h n B Q := by
  subst hn
  refine bg_in rfl rfl ?_
  refine bg_aload0 rfl ?_
  refine bg_objinit rfl rfl rfl ?_
  refine bg_aload0 rfl ?_
  refine bg_sipush rfl ?_
  refine bg_newarray_byte (N := 2000) rfl (by decide) (by decide) (by show 0 + 1 ≤ B.1; omega) (by show 0 + 2000 ≤ B.2; omega) (by decide) (fun h8 f8 g8 => ?_)
  have j1 := (g8 a (by omega)).trans ha
  refine bg_putfield rfl rfl j1 (by rfl) ⟨rfl, rfl⟩ (by rfl) (fun h10 f10 g10 => ?_)
  refine bg_aload0 rfl ?_
  refine bg_iconst rfl ?_
  refine bg_putfield rfl rfl f10 (by rfl) ⟨rfl, rfl⟩ (by rfl) (fun h15 f15 g15 => ?_)
  refine bg_ret rfl rfl ?_
  refine hQ h15 ⟨f15, ⟨_, (g15 _ (by omega)).trans ((g10 _ (by omega)).trans f8), fun i hi => absurd hi (Nat.not_lt_zero i)⟩, Nat.zero_le _, fun b hb => absurd hb List.not_mem_nil⟩ fun q hq => ?_
  rw [g15 q (by omega), g10 q (by omega), g8 q (by omega)]
end BN
