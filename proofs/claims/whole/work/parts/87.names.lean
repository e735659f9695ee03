/-! THE REFERENCE: names told. Printed by wip/whole/mk87.py. -/
def NMk (Fx : rA) (Kd : Nat → Int32) (N : Nat) (T : List Int32) (g : Nat → Int64) : Prop := ∀ i, i < N → Kd i = 30 → ∃ s l, Fx 1 i = nI s ∧ Fx 2 i = nI l ∧ s + l ≤ T.length ∧ l ≤ 10 ∧ (∀ j, j < l → ∃ w, bA T (s + j) = nI w ∧ vb w) ∧ g i = cdL T l s 0
def tdL (Kd : Nat → Int32) (g : Nat → Int64) (m idx : Nat) : Nat → Nat → Nat → Int32
  | 0, _, _ => -1
  | c + 1, k, q => if rof Kd k = nI (m + 1) then (if g k = g idx then nI q else tdL Kd g m idx c (k + 1) (q + 1)) else tdL Kd g m idx c (k + 1) q
theorem tdL_ix {Kd : Nat → Int32} {g : Nat → Int64} {m idx : Nat} : ∀ (c k q : Nat), tdL Kd g m idx c k q = ixL (((List.range' k c).filter fun k => decide (rof Kd k = nI (m + 1))).map g) (g idx) q
  | 0, _, _ => rfl
  | c + 1, k, q => by
    rw [List.range'_succ]
    show (if rof Kd k = nI (m + 1) then _ else _) = _
    by_cases h : rof Kd k = nI (m + 1)
    · rw [if_pos h, List.filter_cons_of_pos (p := fun k => decide (rof Kd k = nI (m + 1))) (decide_eq_true h)]
      show (if g k = g idx then _ else _) = (if g k = g idx then _ else _)
      rw [tdL_ix c (k + 1) (q + 1)]
    · rw [if_neg h, List.filter_cons_of_neg (p := fun k => decide (rof Kd k = nI (m + 1))) (by rw [decide_eq_false h]; decide), tdL_ix c (k + 1) q]
theorem tdL_0 {Kd : Nat → Int32} {g : Nat → Int64} {m idx : Nat} : tdL Kd g m idx idx 0 0 = ixL ((nmI Kd m idx).map g) (g idx) 0 := by
  rw [tdL_ix]
  unfold nmI
  rw [List.range_eq_range']
theorem rof_new {Kd : Nat → Int32} {k m : Nat} (hm : m < 3) (h : rof Kd k = nI (m + 1)) : Kd k = 30 := by
  refine Decidable.byContradiction fun q => ?_
  unfold rof roF at h
  rw [if_neg q] at h
  have m3 : nI (m + 1) = 1 ∨ nI (m + 1) = 2 ∨ nI (m + 1) = 3 := by
    have : m = 0 ∨ m = 1 ∨ m = 2 := by omega
    rcases this with rfl | rfl | rfl <;> decide
  revert h
  rcases m3 with e | e | e <;> rw [e] <;> (repeat' split) <;> decide
section MM
variable {V : bk_V} {D n : Nat} {B : Nat × Nat} {Q : bk_R → bk_H → Nat → Prop} {h0 h : bk_H} {y u v N m idx no : Nat} {T : List Int32} {P : Nat → bT} {S : bS} {K J K2 : rI} {C Fx F C2 : rA} {Kd : Nat → Int32} {nv : Nat → Int32} {g : Nat → Int64} {cs : Nat × Nat}
theorem mt_sameL {a b sa sb la : Nat} (hM : MT h0 h y u v T P S K C J F K2 C2) (ha : a < 401) (hb : b < 401) (a1 : F 1 a = nI sa) (a2 : F 2 a = nI la) (b1 : F 1 b = nI sb) (ta : sa + la ≤ T.length) (tb : sb + la ≤ T.length) (hQ1 : (∀ j, j < la → bA T (sa + j) = bA T (sb + j)) → Q (.inl (some (.int 1))) h n) (hQ0 : (∃ j, j < la ∧ ¬ bA T (sa + j) = bA T (sb + j)) → Q (.inl (some (.int 0))) h n) : ∀ (c k : Nat), k + c = la → (∀ j, j < k → bA T (sa + j) = bA T (sb + j)) → bk_g V D 184 B Q 19 [some (.ref y), some (.int (nI a)), some (.int (nI b)), some (.int (nI k))] [] h n cs := by
  obtain ⟨tp, ht, ht2⟩ := hM.mb.tp
  have hT2 := hM.mb.T2
  intro c
  induction c with
  | zero =>
    intro k hk hp
    refine bg_iload3 rfl ?_
    refine bg_aload0 rfl ?_
    refine bg_getfield rfl rfl hM.Y (by rfl) ?_
    refine bg_iload1 rfl ?_
    refine bg_iaload_n rfl hM.f2 (by decide) (by omega) ?_
    refine bg_icmp_ge rfl (fun e26 => ?_) (fun e26 => absurd e26 (by rw [a2]; exact nI_nlt (by omega) (by omega)))
    refine bg_iconst rfl ?_
    refine bg_iret rfl rfl (by rfl) ?_
    exact hQ1 (fun j hj => hp j (by omega))
  | succ c ih =>
    intro k hk hp
    refine bg_iload3 rfl ?_
    refine bg_aload0 rfl ?_
    refine bg_getfield rfl rfl hM.Y (by rfl) ?_
    refine bg_iload1 rfl ?_
    refine bg_iaload_n rfl hM.f2 (by decide) (by omega) ?_
    refine bg_icmp_ge rfl (fun e26 => absurd (by rw [a2]; exact nI_lt (by omega) (by omega)) e26) (fun e26 => ?_)
    refine bg_aload0 rfl ?_
    refine bg_getfield rfl rfl hM.Y (by rfl) ?_
    refine bg_aload0 rfl ?_
    refine bg_getfield rfl rfl hM.Y (by rfl) ?_
    refine bg_iload1 rfl ?_
    refine bg_iaload_n rfl hM.f1 (by decide) (by omega) ?_
    refine bg_iload3 rfl ?_
    refine bg_iadd rfl ?_
    rw [a1, nI_add]
    refine bg_iaload_n rfl ht (by decide) (by omega) ?_
    refine bg_aload0 rfl ?_
    refine bg_getfield rfl rfl hM.Y (by rfl) ?_
    refine bg_aload0 rfl ?_
    refine bg_getfield rfl rfl hM.Y (by rfl) ?_
    refine bg_iload2 rfl ?_
    refine bg_iaload_n rfl hM.f1 (by decide) (by omega) ?_
    refine bg_iload3 rfl ?_
    refine bg_iadd rfl ?_
    rw [b1, nI_add]
    refine bg_iaload_n rfl ht (by decide) (by omega) ?_
    refine bg_icmp_eq rfl (fun e55 => ?_) (fun e55 => ?_)
    · have bsa : tp (sa + k) = bA T (sa + k) := by
        rw [ht2 _ (by omega)]
        unfold bA
        rw [gD_lt (by omega), gD_lt (by omega)]
      have bsb : tp (sb + k) = bA T (sb + k) := by
        rw [ht2 _ (by omega)]
        unfold bA
        rw [gD_lt (by omega), gD_lt (by omega)]
      rw [bsa, bsb] at e55
      refine bg_iinc3 rfl rfl ?_
      rw [nI_1]
      refine bg_goto rfl ?_
      exact ih (k + 1) (by omega) (fun j hj => by
        by_cases z : j = k
        · rw [z]
          exact e55
        · exact hp j (by omega))
    · have bsa : tp (sa + k) = bA T (sa + k) := by
        rw [ht2 _ (by omega)]
        unfold bA
        rw [gD_lt (by omega), gD_lt (by omega)]
      have bsb : tp (sb + k) = bA T (sb + k) := by
        rw [ht2 _ (by omega)]
        unfold bA
        rw [gD_lt (by omega), gD_lt (by omega)]
      rw [bsa, bsb] at e55
      refine bg_iconst rfl ?_
      refine bg_iret rfl rfl (by rfl) ?_
      exact hQ0 ⟨k, by omega, e55⟩

theorem mt_same {a b : Nat} (hM : MT h0 h y u v T P S K C J F K2 C2) (hF1 : F 1 = Fx 1) (hF2 : F 2 = Fx 2) (hm : NMk Fx Kd N T g) (hN : N ≤ 401) (ha : a < N) (hb : b < N) (ka : Kd a = 30) (kb : Kd b = 30) (hQ : Q (.inl (some (.int (if g a = g b then 1 else 0)))) h n) : bk_wp V (D + 1) 184 [.ref y, .int (nI a), .int (nI b)] h n B Q := by
  obtain ⟨sa, la, a1, a2, ta, la10, va, ga⟩ := hm a ha ka
  obtain ⟨sb, lb, b1, b2, tb, lb10, vb_, gb⟩ := hm b hb kb
  rw [← hF1] at a1 b1
  rw [← hF2] at a2 b2
  have hT2 := hM.mb.T2
  have hc := cd_inj (T := T) (p := sa) (q := sb) la10 lb10 va vb_
  rw [← ga, ← gb] at hc
  refine bg_in rfl rfl ?_
  refine bg_aload0 rfl ?_
  refine bg_getfield rfl rfl hM.Y (by rfl) ?_
  refine bg_iload1 rfl ?_
  refine bg_iaload_n rfl hM.f2 (by decide) (by omega) ?_
  refine bg_aload0 rfl ?_
  refine bg_getfield rfl rfl hM.Y (by rfl) ?_
  refine bg_iload2 rfl ?_
  refine bg_iaload_n rfl hM.f2 (by decide) (by omega) ?_
  refine bg_icmp_eq rfl (fun e12 => ?_) (fun e12 => ?_)
  · have hlab : la = lb := (nI_eq (by omega) (by omega)).mp (by rw [← a2, ← b2]; exact e12)
    subst hlab
    refine bg_iconst rfl ?_
    refine bg_istore3 rfl rfl ?_
    exact mt_sameL hM (by omega) (by omega) a1 a2 b1 ta tb (fun z => by rw [if_pos (hc.mpr ⟨rfl, z⟩)] at hQ; exact hQ) (fun z => by
      obtain ⟨j, j1, j2⟩ := z
      rw [if_neg (fun w => j2 ((hc.mp w).2 j j1))] at hQ
      exact hQ) la 0 (Nat.zero_add _) (fun j hj => absurd hj (Nat.not_lt_zero j))
  · have hne : ¬ g a = g b := fun z => e12 (by rw [a2, b2, (hc.mp z).1])
    rw [if_neg hne] at hQ
    refine bg_iconst rfl ?_
    refine bg_iret rfl rfl (by rfl) ?_
    exact hQ
theorem mt_toldL (hM : MT h0 h y u v T P S K C J F K2 C2) (hm3 : m < 3) (hF1 : F 1 = Fx 1) (hF2 : F 2 = Fx 2) (hm : NMk Fx Kd N T g) (hN : N ≤ 401) (hi : idx < N) (ki : Kd idx = 30) (hF3 : ∀ k, k ≤ idx → F 3 k = rof Kd k) : ∀ (c k q : Nat), k + c = idx → Q (.inl (some (.int (tdL Kd g m idx c k q)))) h n → bk_g V (D + 1) 185 B Q 5 [some (.ref y), some (.int (nI idx)), some (.int (nI (m + 1))), some (.int (nI q)), some (.int (nI k))] [] h n cs := by
  intro c
  induction c with
  | zero =>
    intro k q hk hQ
    refine bg_iload4 rfl ?_
    refine bg_iload1 rfl ?_
    refine bg_icmp_ge rfl (fun e8 => ?_) (fun e8 => absurd e8 (nI_nlt (by omega) (by omega)))
    refine bg_iconst rfl ?_
    refine bg_iret rfl rfl (by rfl) ?_
    exact hQ
  | succ c ih =>
    intro k q hk hQ
    refine bg_iload4 rfl ?_
    refine bg_iload1 rfl ?_
    refine bg_icmp_ge rfl (fun e8 => absurd (nI_lt (by omega) (by omega)) e8) (fun e8 => ?_)
    refine bg_aload0 rfl ?_
    refine bg_getfield rfl rfl hM.Y (by rfl) ?_
    refine bg_iload4 rfl ?_
    refine bg_iaload_n rfl hM.f3 (by decide) (by omega) ?_
    rw [hF3 k (by omega)]
    refine bg_iload2 rfl ?_
    refine bg_icmp_eq rfl (fun e19 => ?_) (fun e19 => ?_)
    · have kk := rof_new hm3 e19
      refine bg_aload0 rfl ?_
      refine bg_iload4 rfl ?_
      refine bg_iload1 rfl ?_
      refine bg_virt2 rfl rfl rfl rfl ⟨_, hM.Y⟩ ?_
      refine mt_same hM hF1 hF2 hm hN (by omega) hi kk ki (bk_Ki ?_)
      refine bg_ifeq_b rfl (fun e32 => ?_) (fun e32 => ?_)
      · have hu : tdL Kd g m idx (c + 1) k q = tdL Kd g m idx c (k + 1) (q + 1) := (if_pos e19).trans (if_neg e32)
        rw [hu] at hQ
        refine bg_iinc3 rfl rfl ?_
        
        refine bg_iinc4 rfl rfl ?_
        first
          | rw [nI_1, nI_1]
          | rw [nI_1]
        refine bg_goto rfl ?_
        exact ih (k + 1) _ (by omega) hQ
      · have hu : tdL Kd g m idx (c + 1) k q = nI q := (if_pos e19).trans (if_pos e32)
        rw [hu] at hQ
        refine bg_iload3 rfl ?_
        refine bg_iret rfl rfl (by rfl) ?_
        exact hQ
    · have hu : tdL Kd g m idx (c + 1) k q = tdL Kd g m idx c (k + 1) q := if_neg e19
      rw [hu] at hQ
      refine bg_goto rfl ?_
      
      refine bg_iinc4 rfl rfl ?_
      first
        | rw [nI_1, nI_1]
        | rw [nI_1]
      refine bg_goto rfl ?_
      exact ih (k + 1) _ (by omega) hQ

theorem mt_told {a : Int32} (ha : a = nI (m + 1)) (hM : MT h0 h y u v T P S K C J F K2 C2) (hm3 : m < 3) (hF1 : F 1 = Fx 1) (hF2 : F 2 = Fx 2) (hm : NMk Fx Kd N T g) (hN : N ≤ 401) (hi : idx < N) (ki : Kd idx = 30) (hF3 : ∀ k, k ≤ idx → F 3 k = rof Kd k) (hQ : Q (.inl (some (.int (ixL ((nmI Kd m idx).map g) (g idx) 0)))) h n) : bk_wp V (D + 2) 185 [.ref y, .int (nI idx), .int a] h n B Q := by
  subst ha
  refine bg_in rfl rfl ?_
  refine bg_iconst rfl ?_
  refine bg_istore3 rfl rfl ?_
  refine bg_iconst rfl ?_
  refine bg_istore4 rfl rfl ?_
  exact mt_toldL hM hm3 hF1 hF2 hm hN hi ki hF3 idx 0 0 (Nat.zero_add _) (by rw [tdL_0]; exact hQ)
theorem ixL_m1 {l : List Int64} {c : Int64} (hl : l.length < 2 ^ 31) : ixL l c 0 = -1 ↔ ixL l c 0 < 0 := by
  rcases ixLC l c 0 with h | ⟨j, h1, h2⟩
  · rw [h]
    decide
  · rw [h2, Nat.zero_add]
    exact ⟨fun q => absurd q (nI_m1 (by omega)), fun q => absurd q (nI_pos (by omega))⟩
theorem nmI_len {Kd : Nat → Int32} {m i : Nat} : (nmI Kd m i).length ≤ i := by
  unfold nmI
  exact Nat.le_trans (List.length_filter_le _ _) (Nat.le_of_eq List.length_range)
theorem mt_look {a : Int32} (ha : a = nI (m + 1)) (hM : MT h0 h y u v T P S K C J F K2 C2) (hm3 : m < 3) (hF1 : F 1 = Fx 1) (hF2 : F 2 = Fx 2) (hm : NMk Fx Kd N T g) (hN : N ≤ 401) (hi : idx < N) (ki : Kd idx = 30) (hF3 : ∀ k, k ≤ idx → F 3 k = rof Kd k) (hQ : ∀ h', MT h0 h' y u v T P S K C J (uA F 4 (upd (F 4) idx (ixL ((nmI Kd m idx).map g) (g idx) 0))) K2 C2 → Q (.inl (some (.int (if (ixL ((nmI Kd m idx).map g) (g idx) 0) < 0 then 3 else 0)))) h' n) : bk_wp V (D + 3) 186 [.ref y, .int (nI idx), .int a] h n B Q := by
  have hx1 : (ixL ((nmI Kd m idx).map g) (g idx) 0) = -1 ↔ (ixL ((nmI Kd m idx).map g) (g idx) 0) < 0 := ixL_m1 (by rw [List.length_map]; have := nmI_len (Kd := Kd) (m := m) (i := idx); omega)
  refine bg_in rfl rfl ?_
  refine bg_aload0 rfl ?_
  refine bg_getfield rfl rfl hM.Y (by rfl) ?_
  refine bg_iload1 rfl ?_
  refine bg_aload0 rfl ?_
  refine bg_iload1 rfl ?_
  refine bg_iload2 rfl ?_
  refine bg_virt2 rfl rfl rfl rfl ⟨_, hM.Y⟩ ?_
  refine mt_told ha hM hm3 hF1 hF2 hm hN hi ki hF3 (bk_Ki ?_)
  refine bg_iastore_n rfl hM.f4 (by decide) (by omega) (fun h11 f11 g11 => ?_)
  have hM := hM.ff4 f11 g11
  have hv : (uA F 4 (upd (F 4) idx (ixL ((nmI Kd m idx).map g) (g idx) 0))) 4 idx = (ixL ((nmI Kd m idx).map g) (g idx) 0) := if_pos rfl
  refine bg_aload0 rfl ?_
  refine bg_getfield rfl rfl hM.Y (by rfl) ?_
  refine bg_iload1 rfl ?_
  refine bg_iaload_n rfl hM.f4 (by decide) (by omega) ?_
  rw [hv]
  refine bg_iconst rfl ?_
  refine bg_icmp_ne rfl (fun e19 => ?_) (fun e19 => ?_)
  · have hQ := hQ h11 hM
    rw [if_neg (fun z => e19 (hx1.mpr z))] at hQ
    refine bg_iconst rfl ?_
    refine bg_iret rfl rfl (by rfl) ?_
    exact hQ
  · have hQ := hQ h11 hM
    rw [if_pos (hx1.mp e19)] at hQ
    refine bg_iconst rfl ?_
    refine bg_goto rfl ?_
    refine bg_iret rfl rfl (by rfl) ?_
    exact hQ
theorem mt_isNew {ct : Nat} {r : Nat} {a b : Int32} (ha : a = nI ct) (hb : b = nI r) (hc : ct ≤ 400) (hr : r ≤ 400) (hrof : rof Kd idx = nI (m + 1)) (hM : MT h0 h y u v T P S K C J F K2 C2) (hm3 : m < 3) (hF1 : F 1 = Fx 1) (hF2 : F 2 = Fx 2) (hm : NMk Fx Kd N T g) (hN : N ≤ 401) (hi : idx < N) (ki : Kd idx = 30) (hF3 : ∀ k, k ≤ idx → F 3 k = rof Kd k) (hQ : Q (.inl (some (.int (if ¬ (ixL ((nmI Kd m idx).map g) (g idx) 0) < 0 then 2 else if ct = r then 4 else 0)))) h n) : bk_wp V (D + 3) 187 [.ref y, .int (nI idx), .int a, .int b] h n B Q := by
  subst ha hb
  have hx1 : (ixL ((nmI Kd m idx).map g) (g idx) 0) = -1 ↔ (ixL ((nmI Kd m idx).map g) (g idx) 0) < 0 := ixL_m1 (by rw [List.length_map]; have := nmI_len (Kd := Kd) (m := m) (i := idx); omega)
  refine bg_in rfl rfl ?_
  refine bg_aload0 rfl ?_
  refine bg_iload1 rfl ?_
  refine bg_aload0 rfl ?_
  refine bg_getfield rfl rfl hM.Y (by rfl) ?_
  refine bg_iload1 rfl ?_
  refine bg_iaload_n rfl hM.f3 (by decide) (by omega) ?_
  refine bg_virt2 rfl rfl rfl rfl ⟨_, hM.Y⟩ ?_
  rw [hF3 idx (Nat.le_refl _), hrof]
  refine mt_told rfl hM hm3 hF1 hF2 hm hN hi ki hF3 (bk_Ki ?_)
  refine bg_iconst rfl ?_
  refine bg_icmp_eq rfl (fun e12 => ?_) (fun e12 => ?_)
  · rw [if_neg (fun z => z (hx1.mp e12))] at hQ
    refine bg_iload2 rfl ?_
    refine bg_iload3 rfl ?_
    refine bg_icmp_ne rfl (fun e21 => ?_) (fun e21 => ?_)
    · rw [if_neg (fun z => e21 (by rw [z]))] at hQ
      refine bg_iconst rfl ?_
      refine bg_iret rfl rfl (by rfl) ?_
      exact hQ
    · rw [if_pos ((nI_eq (by omega) (by omega)).mp e21)] at hQ
      refine bg_iconst rfl ?_
      refine bg_goto rfl ?_
      refine bg_iret rfl rfl (by rfl) ?_
      exact hQ
  · rw [if_pos (fun z => e12 (hx1.mpr z))] at hQ
    refine bg_iconst rfl ?_
    refine bg_goto rfl ?_
    refine bg_iret rfl rfl (by rfl) ?_
    exact hQ
theorem mt_inRange {lo hi : Int32} {j s l : Nat} (hM : MT h0 h y u v T P S K C J F K2 C2) (h1 : F 1 j = nI s) (h2 : F 2 j = nI l) (h3 : s + l ≤ T.length) (hj : j < 401) (hQ : Q (.inl (some (.int (if ¬ nmL T l s 0 < lo ∧ ¬ hi < nmL T l s 0 then 0 else 5)))) h n) : bk_wp V (D + 2) 188 [.ref y, .int (nI j), .int lo, .int hi] h n B Q := by
  refine bg_in rfl rfl ?_
  refine bg_aload0 rfl ?_
  refine bg_iload1 rfl ?_
  refine bg_virt1 rfl rfl rfl rfl ⟨_, hM.Y⟩ ?_
  refine mt_number hM h1 h2 h3 hj (bk_Ki ?_)
  refine bg_iload2 rfl ?_
  refine bg_iload3 rfl ?_
  refine bg_stat3 rfl rfl rfl rfl ?_
  refine rb_isIn (bk_Ki ?_)
  refine bg_ifeq_b rfl (fun e10 => ?_) (fun e10 => ?_)
  · rw [if_neg e10] at hQ
    refine bg_iconst rfl ?_
    refine bg_iret rfl rfl (by rfl) ?_
    exact hQ
  · rw [if_pos e10] at hQ
    refine bg_iconst rfl ?_
    refine bg_goto rfl ?_
    refine bg_iret rfl rfl (by rfl) ?_
    exact hQ
theorem mt_order {a : Int32} (hM : MT h0 h y u v T P S K C J F K2 C2) (ho : K2 3 = nI no) (h24 : no ≤ 24) (hT : no < 24 → ∀ h', MT h0 h' y u v T P S K C J F (upd K2 3 (nI (no + 1))) (uA C2 7 (upd (C2 7) no a)) → Q (.inl (some (.int 0))) h' n) (hN : no = 24 → Q (.inl (some (.int 4))) h n) : bk_wp V (D + 1) 189 [.ref y, .int a] h n B Q := by
  refine bg_in rfl rfl ?_
  refine bg_aload0 rfl ?_
  refine bg_getfield rfl rfl hM.Y (by rfl) ?_
  refine bg_astore2 rfl rfl ?_
  refine bg_aload2 rfl ?_
  refine bg_getfield rfl rfl hM.R.1 (by rfl) ?_
  refine bg_bipush rfl ?_
  refine bg_icmp_ne rfl (fun e11 => ?_) (fun e11 => ?_)
  · have hlt : no < 24 := Nat.lt_of_le_of_ne h24 (fun z => e11 (by rw [ho, z]; rfl))
    refine bg_aload2 rfl ?_
    refine bg_getfield rfl rfl hM.R.1 (by rfl) ?_
    refine bg_aload2 rfl ?_
    refine bg_getfield rfl rfl hM.R.1 (by rfl) ?_
    refine bg_iload1 rfl ?_
    rw [ho]
    refine bg_iastore_n rfl (pR8 hM.R) (by decide) (by omega) (fun h25 f25 g25 => ?_)
    have hM := hM.cc7 f25 g25
    refine bg_aload2 rfl ?_
    refine bg_dup rfl rfl ?_
    refine bg_getfield rfl rfl hM.R.1 (by rfl) ?_
    refine bg_iconst rfl ?_
    refine bg_iadd rfl ?_
    refine bg_putfield rfl rfl hM.R.1 (by rfl) ⟨rfl, rfl⟩ (by rfl) (fun h33 f33 g33 => ?_)
    rw [ho, nI_1] at f33
    have hM := hM.kk3 f33 g33
    refine bg_iconst rfl ?_
    refine bg_iret rfl rfl (by rfl) ?_
    first
      | exact hN heq
      | exact hT hlt _ hM
  · have heq : no = 24 := (nI_eq (b := 24) (by omega) (by decide)).mp (by rw [← ho]; exact e11)
    refine bg_iconst rfl ?_
    refine bg_iret rfl rfl (by rfl) ?_
    first
      | exact hN heq
      | exact hT hlt _ hM
theorem mt_orderWho {a : Int32} (ha : a = nI (m + 1)) (hM : MT h0 h y u v T P S K C J F K2 C2) (ho : K2 3 = nI no) (h1 : 1 ≤ no) (h24 : no ≤ 24) (hm3 : m < 3) (hF1 : F 1 = Fx 1) (hF2 : F 2 = Fx 2) (hm : NMk Fx Kd N T g) (hN : N ≤ 401) (hi : idx < N) (ki : Kd idx = 30) (hF3 : ∀ k, k ≤ idx → F 3 k = rof Kd k) (hQ : ∀ h', MT h0 h' y u v T P S K C J (uA F 4 (upd (F 4) idx (ixL ((nmI Kd m idx).map g) (g idx) 0))) K2 (uA C2 8 (upd (C2 8) (no - 1) (ixL ((nmI Kd m idx).map g) (g idx) 0))) → Q (.inl (some (.int (if (ixL ((nmI Kd m idx).map g) (g idx) 0) < 0 then 3 else 0)))) h' n) : bk_wp V (D + 4) 190 [.ref y, .int (nI idx), .int a] h n B Q := by
  have hno : nI no - 1 = nI (no - 1) := by
    obtain ⟨q, rfl⟩ : ∃ q, no = q + 1 := ⟨no - 1, by omega⟩
    exact nI_dn q
  refine bg_in rfl rfl ?_
  refine bg_aload0 rfl ?_
  refine bg_iload1 rfl ?_
  refine bg_iload2 rfl ?_
  refine bg_virt2 rfl rfl rfl rfl ⟨_, hM.Y⟩ ?_
  refine mt_look ha hM hm3 hF1 hF2 hm hN hi ki hF3 (fun h3 hM => bk_Ki ?_)
  have hv : (uA F 4 (upd (F 4) idx (ixL ((nmI Kd m idx).map g) (g idx) 0))) 4 idx = (ixL ((nmI Kd m idx).map g) (g idx) 0) := if_pos rfl
  refine bg_istore3 rfl rfl ?_
  refine bg_aload0 rfl ?_
  refine bg_getfield rfl rfl hM.Y (by rfl) ?_
  refine bg_getfield rfl rfl hM.R.1 (by rfl) ?_
  refine bg_aload0 rfl ?_
  refine bg_getfield rfl rfl hM.Y (by rfl) ?_
  refine bg_getfield rfl rfl hM.R.1 (by rfl) ?_
  refine bg_iconst rfl ?_
  refine bg_isub rfl ?_
  refine bg_aload0 rfl ?_
  refine bg_getfield rfl rfl hM.Y (by rfl) ?_
  refine bg_iload1 rfl ?_
  refine bg_iaload_n rfl hM.f4 (by decide) (by omega) ?_
  rw [hv, ho, hno]
  refine bg_iastore_n rfl (pR9 hM.R) (by decide) (by omega) (fun h29 f29 g29 => ?_)
  have hM := hM.cc8 f29 g29
  refine bg_iload3 rfl ?_
  refine bg_iret rfl rfl (by rfl) ?_
  exact hQ _ hM
theorem mt_orderWhere (hm0 : m = 0) (hM : MT h0 h y u v T P S K C J F K2 C2) (ho : K2 3 = nI no) (h1 : 1 ≤ no) (h24 : no ≤ 24) (hm3 : m < 3) (hF1 : F 1 = Fx 1) (hF2 : F 2 = Fx 2) (hm : NMk Fx Kd N T g) (hN : N ≤ 401) (hi : idx < N) (ki : Kd idx = 30) (hF3 : ∀ k, k ≤ idx → F 3 k = rof Kd k) (hQ : ∀ h', MT h0 h' y u v T P S K C J (uA F 4 (upd (F 4) idx (ixL ((nmI Kd m idx).map g) (g idx) 0))) K2 (uA C2 9 (upd (C2 9) (no - 1) (ixL ((nmI Kd m idx).map g) (g idx) 0))) → Q (.inl (some (.int (if (ixL ((nmI Kd m idx).map g) (g idx) 0) < 0 then 3 else 0)))) h' n) : bk_wp V (D + 4) 191 [.ref y, .int (nI idx)] h n B Q := by
  have hno : nI no - 1 = nI (no - 1) := by
    obtain ⟨q, rfl⟩ : ∃ q, no = q + 1 := ⟨no - 1, by omega⟩
    exact nI_dn q
  refine bg_in rfl rfl ?_
  refine bg_aload0 rfl ?_
  refine bg_iload1 rfl ?_
  refine bg_iconst rfl ?_
  refine bg_virt2 rfl rfl rfl rfl ⟨_, hM.Y⟩ ?_
  refine mt_look (by rw [hm0]; rfl) hM hm3 hF1 hF2 hm hN hi ki hF3 (fun h3 hM => bk_Ki ?_)
  have hv : (uA F 4 (upd (F 4) idx (ixL ((nmI Kd m idx).map g) (g idx) 0))) 4 idx = (ixL ((nmI Kd m idx).map g) (g idx) 0) := if_pos rfl
  refine bg_istore2 rfl rfl ?_
  refine bg_aload0 rfl ?_
  refine bg_getfield rfl rfl hM.Y (by rfl) ?_
  refine bg_getfield rfl rfl hM.R.1 (by rfl) ?_
  refine bg_aload0 rfl ?_
  refine bg_getfield rfl rfl hM.Y (by rfl) ?_
  refine bg_getfield rfl rfl hM.R.1 (by rfl) ?_
  refine bg_iconst rfl ?_
  refine bg_isub rfl ?_
  refine bg_aload0 rfl ?_
  refine bg_getfield rfl rfl hM.Y (by rfl) ?_
  refine bg_iload1 rfl ?_
  refine bg_iaload_n rfl hM.f4 (by decide) (by omega) ?_
  rw [hv, ho, hno]
  refine bg_iastore_n rfl (pR10 hM.R) (by decide) (by omega) (fun h29 f29 g29 => ?_)
  have hM := hM.cc9 f29 g29
  refine bg_iload2 rfl ?_
  refine bg_iret rfl rfl (by rfl) ?_
  exact hQ _ hM
end MM
