/-! THE REFERENCE: the row of tokens. Printed by wip/whole/mk76.py. -/
theorem uA_id {A : rA} {k : Nat} : uA A k (A k) = A := by
  funext j
  unfold uA
  by_cases h : j = k
  · rw [if_pos h, h]
  · rw [if_neg h]
theorem uA_uA {A : rA} {k : Nat} {f g : Nat → Int32} : uA (uA A k f) k g = uA A k g := by
  funext j
  unfold uA
  by_cases h : j = k
  · rw [if_pos h, if_pos h]
  · rw [if_neg h, if_neg h, if_neg h]
theorem nI_sb {a b : Nat} (h : b ≤ a) : nI a - nI b = nI (a - b) := by
  have e : nI a = nI (a - b) + nI b := by rw [nI_add, Nat.sub_add_cancel h]
  rw [e, Int32.add_sub_cancel]
theorem wL_all {T : List Int32} : ∀ (k p j : Nat), p ≤ j → j < wL T k p → isL (bA T j) ∨ isD (bA T j)
  | 0, p, j, h1, h2 => absurd h2 (Nat.not_lt.mpr h1)
  | k + 1, p, j, h1, h2 => by
    have h3 : j < if isL (bA T p) ∨ isD (bA T p) then wL T k (p + 1) else p := h2
    by_cases z : isL (bA T p) ∨ isD (bA T p)
    · rw [if_pos z] at h3
      by_cases e : j = p
      · rw [e]
        exact z
      · exact wL_all k (p + 1) j (by omega) h3
    · rw [if_neg z] at h3
      omega
theorem vb_of {T : List Int32} {p : Nat} (hT : ∀ b ∈ T, ∃ k, k < 256 ∧ b = nI k) (h : isL (bA T p) ∨ isD (bA T p)) : ∃ w, bA T p = nI w ∧ vb w := by
  by_cases hp : p < T.length
  · obtain ⟨k, hk, e⟩ := bA_lt hT hp
    refine ⟨k, e, ?_⟩
    rw [e] at h
    rcases h with h | h
    · have h1 : ¬ k < 97 := fun q => h.1 (nI_lt q (by decide))
      have h2 : ¬ 122 < k := fun q => h.2 (nI_lt q (by omega))
      omega
    · have h1 : ¬ k < 48 := fun q => h.1 (nI_lt q (by decide))
      have h2 : ¬ 57 < k := fun q => h.2 (nI_lt q (by omega))
      omega
  · rw [bA_ge (by omega)] at h
    exact absurd h (by decide)
theorem sg_d1 : ∀ b, b < 256 → ¬ sgF (nI b) < 0 → 0 < b ∧ b < 128 ∧ wK (32 + sgF (nI b)) = 50 + nI b := by decide +kernel
theorem sg_d2 : ∀ b, b < 256 → (32 + sgF (nI b) = 42 ↔ nI b = 60) := by decide +kernel
theorem sg_d3 : ∀ b, b < 256 → (32 + sgF (nI b) = 43 ↔ nI b = 62) := by decide +kernel
theorem tkK_r {T : List Int32} {i p : Nat} (hT : ∀ b ∈ T, ∃ k, k < 256 ∧ b = nI k) : (tkK T i p = 47 ↔ bA T p < 0) ∧ (wK (tkK T i p) = 900 ↔ bA T p < 0) ∧ (¬ wK (tkK T i p) < 900 ↔ (tkK T i p = 47 ∨ tkK T i p = 0)) := by
  have kw : ∀ c : Int64, ∃ j, 1 ≤ j ∧ j ≤ 30 ∧ kwF c = nI j := fun c => by
    unfold kwF
    rcases ixLC kwL c 0 with h | ⟨j, h1, h2⟩
    · rw [h]
      exact ⟨30, by decide, by decide, by decide⟩
    · rw [kwL_len] at h1
      rw [h2, Nat.zero_add, if_neg (nI_pos (by omega))]
      exact ⟨1 + j, by omega, by omega, nI_add 1 j⟩
  have all : ∀ j, j < 47 → ¬ nI j = 47 ∧ ¬ wK (nI j) = 900 ∧ (¬ wK (nI j) < 900 ↔ (nI j = 47 ∨ nI j = 0)) := by decide +kernel
  have fin : ∀ (j : Nat) (p : Prop), j < 47 → ¬ p → (nI j = 47 ↔ p) ∧ (wK (nI j) = 900 ↔ p) ∧ (¬ wK (nI j) < 900 ↔ (nI j = 47 ∨ nI j = 0)) := fun j p hj hp => ⟨⟨fun q => absurd q (all j hj).1, fun q => absurd q hp⟩, ⟨fun q => absurd q (all j hj).2.1, fun q => absurd q hp⟩, (all j hj).2.2⟩
  unfold tkK
  by_cases h0 : bA T p < 0
  · rw [if_pos h0]
    exact ⟨⟨fun _ => h0, fun _ => rfl⟩, ⟨fun _ => h0, fun _ => by decide⟩, by decide⟩
  rw [if_neg h0]
  by_cases h1 : 400 ≤ i
  · rw [if_pos h1]
    exact fin 0 _ (by decide) h0
  rw [if_neg h1]
  by_cases h2 : isL (bA T p)
  · rw [if_pos h2]
    split
    · exact fin 0 _ (by decide) h0
    · obtain ⟨j, j1, j2, e⟩ := kw (wC T p)
      rw [e]
      exact fin j _ (by omega) h0
  rw [if_neg h2]
  by_cases h3 : isD (bA T p)
  · rw [if_pos h3]
    split
    · exact fin 0 _ (by decide) h0
    · exact fin 31 _ (by decide) h0
  rw [if_neg h3]
  by_cases h4 : sgF (bA T p) < 0
  · rw [if_pos h4]
    exact fin 0 _ (by decide) h0
  rw [if_neg h4]
  by_cases h5 : sg2 T p
  · rw [if_pos h5]
    split
    · exact fin 45 _ (by decide) h0
    · exact fin 46 _ (by decide) h0
  · rw [if_neg h5]
    have hp : p < T.length := Nat.lt_of_not_le fun q => h0 (by rw [bA_ge q]; decide)
    obtain ⟨b, hb, e⟩ := bA_lt hT hp
    have al2 : ∀ b, b < 256 → ¬ sgF (nI b) < 0 → ∃ j, j < 47 ∧ 32 + sgF (nI b) = nI j := by decide +kernel
    rw [e] at h4 ⊢
    obtain ⟨j, hj, e2⟩ := al2 b hb h4
    rw [e2]
    exact fin j _ hj (by rw [← e]; exact h0)
theorem tkK_lt {T : List Int32} {i p : Nat} (h : i < 400) : tkK T i p = tkK T 0 p := by
  unfold tkK
  rw [if_neg (show ¬ 400 ≤ i by omega), if_neg (show ¬ 400 ≤ 0 by decide)]
theorem tkE_lt {T : List Int32} {i p : Nat} (h : i < 400) : tkE T i p = tkE T 0 p := by
  unfold tkE
  rw [if_neg (show ¬ 400 ≤ i by omega), if_neg (show ¬ 400 ≤ 0 by decide)]
section MM
variable {V : bk_V} {d n : Nat} {B : Nat × Nat} {Q : bk_R → bk_H → Nat → Prop} {h0 h : bk_H} {y u v : Nat} {T : List Int32} {P : Nat → bT} {S : bS} {K J K2 : rI} {C F C2 : rA} {cs : Nat × Nat}
theorem mt_kindW {p i : Nat} {x5 : Option Value} (hM : MT h0 h y u v T P S K C J F K2 C2) (hL : isL (bA T p)) : ∀ (c e : Nat) (x5 : Option Value), c = T.length - e → e ≤ 2002 → bk_g V (d + 2) 160 B Q 71 [some (.ref y), some (.int (nI p)), some (.int (nI i)), some (.int (bA T p)), some (.int (nI (wL T c e))), x5] [] h n cs → bk_g V (d + 2) 160 B Q 34 [some (.ref y), some (.int (nI p)), some (.int (nI i)), some (.int (bA T p)), some (.int (nI e)), x5] [] h n cs := by
  have hT2 := hM.mb.T2
  intro c
  induction c with
  | zero =>
    intro e x5 hc he hK
    have hb : bA T e = -1 := bA_ge (by omega)
    refine bg_aload0 rfl ?_
    refine bg_iload4 rfl ?_
    refine bg_virt1 rfl rfl rfl rfl ⟨_, hM.Y⟩ ?_
    refine mt_byteOf (p := e) hM (by omega) (bk_Ki ?_)
    refine bg_stat1 rfl rfl rfl rfl ?_
    refine mt_isD (bk_Ki ?_)
    refine bg_ifne_b rfl (fun e43 => absurd e43 (by rw [hb]; decide)) (fun e43 => ?_)
    refine bg_iload3 rfl ?_
    refine bg_stat1 rfl rfl rfl rfl ?_
    refine mt_isL (bk_Ki ?_)
    refine bg_ifeq_b rfl (fun e50 => absurd hL e50) (fun e50 => ?_)
    refine bg_aload0 rfl ?_
    refine bg_iload4 rfl ?_
    refine bg_virt1 rfl rfl rfl rfl ⟨_, hM.Y⟩ ?_
    refine mt_byteOf (p := e) hM (by omega) (bk_Ki ?_)
    refine bg_stat1 rfl rfl rfl rfl ?_
    refine mt_isL (bk_Ki ?_)
    refine bg_ifeq_b rfl (fun e62 => ?_) (fun e62 => absurd e62 (by rw [hb]; decide))
    exact hK
  | succ c ih =>
    intro e x5 hc he hK
    refine bg_aload0 rfl ?_
    refine bg_iload4 rfl ?_
    refine bg_virt1 rfl rfl rfl rfl ⟨_, hM.Y⟩ ?_
    refine mt_byteOf (p := e) hM (by omega) (bk_Ki ?_)
    refine bg_stat1 rfl rfl rfl rfl ?_
    refine mt_isD (bk_Ki ?_)
    refine bg_ifne_b rfl (fun e43 => ?_) (fun e43 => ?_)
    · have hw : wL T (c + 1) e = wL T c (e + 1) := if_pos (Or.inr e43)
      refine bg_iinc4 rfl rfl ?_
      rw [nI_1]
      refine bg_goto rfl ?_
      rw [hw] at hK
      exact ih (e + 1) _ (by omega) (by omega) hK
    · refine bg_iload3 rfl ?_
      refine bg_stat1 rfl rfl rfl rfl ?_
      refine mt_isL (bk_Ki ?_)
      refine bg_ifeq_b rfl (fun e50 => absurd hL e50) (fun e50 => ?_)
      refine bg_aload0 rfl ?_
      refine bg_iload4 rfl ?_
      refine bg_virt1 rfl rfl rfl rfl ⟨_, hM.Y⟩ ?_
      refine mt_byteOf (p := e) hM (by omega) (bk_Ki ?_)
      refine bg_stat1 rfl rfl rfl rfl ?_
      refine mt_isL (bk_Ki ?_)
      refine bg_ifeq_b rfl (fun e62 => ?_) (fun e62 => ?_)
      · have hw : wL T (c + 1) e = e := if_neg (fun q => q.elim e62 e43)
        rw [hw] at hK
        exact hK
      · have hw : wL T (c + 1) e = wL T c (e + 1) := if_pos (Or.inl e62)
        refine bg_iinc4 rfl rfl ?_
        rw [nI_1]
        refine bg_goto rfl ?_
        rw [hw] at hK
        exact ih (e + 1) _ (by omega) (by omega) hK

theorem mt_kindN {p i : Nat} (hM : MT h0 h y u v T P S K C J F K2 C2) (hL : ¬ isL (bA T p)) : ∀ (c e : Nat) (x5 : Option Value), c = T.length - e → e ≤ 2002 → bk_g V (d + 2) 160 B Q 71 [some (.ref y), some (.int (nI p)), some (.int (nI i)), some (.int (bA T p)), some (.int (nI (dL T c e))), x5] [] h n cs → bk_g V (d + 2) 160 B Q 34 [some (.ref y), some (.int (nI p)), some (.int (nI i)), some (.int (bA T p)), some (.int (nI e)), x5] [] h n cs := by
  have hT2 := hM.mb.T2
  intro c
  induction c with
  | zero =>
    intro e x5 hc he hK
    have hb : bA T e = -1 := bA_ge (by omega)
    refine bg_aload0 rfl ?_
    refine bg_iload4 rfl ?_
    refine bg_virt1 rfl rfl rfl rfl ⟨_, hM.Y⟩ ?_
    refine mt_byteOf (p := e) hM (by omega) (bk_Ki ?_)
    refine bg_stat1 rfl rfl rfl rfl ?_
    refine mt_isD (bk_Ki ?_)
    refine bg_ifne_b rfl (fun e43 => absurd e43 (by rw [hb]; decide)) (fun e43 => ?_)
    refine bg_iload3 rfl ?_
    refine bg_stat1 rfl rfl rfl rfl ?_
    refine mt_isL (bk_Ki ?_)
    refine bg_ifeq_b rfl (fun e50 => ?_) (fun e50 => absurd e50 hL)
    exact hK
  | succ c ih =>
    intro e x5 hc he hK
    refine bg_aload0 rfl ?_
    refine bg_iload4 rfl ?_
    refine bg_virt1 rfl rfl rfl rfl ⟨_, hM.Y⟩ ?_
    refine mt_byteOf (p := e) hM (by omega) (bk_Ki ?_)
    refine bg_stat1 rfl rfl rfl rfl ?_
    refine mt_isD (bk_Ki ?_)
    refine bg_ifne_b rfl (fun e43 => ?_) (fun e43 => ?_)
    · have hw : dL T (c + 1) e = dL T c (e + 1) := if_pos e43
      refine bg_iinc4 rfl rfl ?_
      rw [nI_1]
      refine bg_goto rfl ?_
      rw [hw] at hK
      exact ih (e + 1) _ (by omega) (by omega) hK
    · have hw : dL T (c + 1) e = e := if_neg e43
      rw [hw] at hK
      refine bg_iload3 rfl ?_
      refine bg_stat1 rfl rfl rfl rfl ?_
      refine mt_isL (bk_Ki ?_)
      refine bg_ifeq_b rfl (fun e50 => ?_) (fun e50 => absurd e50 hL)
      exact hK

theorem mt_kindAt {p i : Nat} (hT : ∀ b ∈ T, ∃ k, k < 256 ∧ b = nI k) (hp : p ≤ 2002) (hi : i ≤ 400) (hM : MT h0 h y u v T P S K C J F K2 C2) (hQ : ∀ (h' : bk_H) (f : Nat → Int32), MT h0 h' y u v T P S K C J (uA F 2 f) K2 C2 → (∀ j, j ≠ i → f j = F 2 j) → (¬ tkK T 0 p = 47 → ¬ tkK T 0 p = 0 → f i = nI (tkE T 0 p - p)) → Q (.inl (some (.int (wK (tkK T 0 p))))) h' n) : bk_wp V (d + 3) 160 [.ref y, .int (nI p), .int (nI i)] h n B Q := by
  have hT2 := hM.mb.T2
  refine bg_in rfl rfl ?_
  refine bg_aload0 rfl ?_
  refine bg_iload1 rfl ?_
  refine bg_virt1 rfl rfl rfl rfl ⟨_, hM.Y⟩ ?_
  refine mt_byteOf (p := p) hM (by omega) (bk_Ki ?_)
  refine bg_istore3 rfl rfl ?_
  refine bg_iload1 rfl ?_
  refine bg_iconst rfl ?_
  refine bg_iadd rfl ?_
  rw [nI_1]
  refine bg_istore4 rfl rfl ?_
  refine bg_iload3 rfl ?_
  refine bg_iconst rfl ?_
  refine bg_icmp_ne rfl (fun e13 => ?_) (fun e13 => ?_)
  · have hpl : p < T.length := Nat.lt_of_not_le fun q => e13 (bA_ge q)
    obtain ⟨b0, hb0, hb⟩ := bA_lt hT hpl
    have hn0 : ¬ bA T p < 0 := by rw [hb]; exact nI_pos (by omega)
    refine bg_iload3 rfl ?_
    refine bg_stat1 rfl rfl rfl rfl ?_
    refine mt_isL (bk_Ki ?_)
    refine bg_ifne_b rfl (fun e24 => ?_) (fun e24 => ?_)
    · have hL := e24
      first
        | have hwE : wE T p = wL T (T.length - (p + 1)) (p + 1) := by
            unfold wE
            rw [show T.length - p = (T.length - (p + 1)) + 1 by omega]
            exact if_pos (Or.inl hL)
          have hge := wL_ge (T := T) (T.length - (p + 1)) (p + 1)
          rw [← hwE] at hge
          refine mt_kindW (x5 := none) hM hL (T.length - (p + 1)) (p + 1) _ rfl (by omega) ?_
          rw [← hwE]
          have hkk : tkK T 0 p = if 10 < wE T p - p then 0 else kwF (wC T p) := by
            unfold tkK
            rw [if_neg hn0, if_neg (by decide), if_pos hL]
          have hke : tkE T 0 p = wE T p := by
            unfold tkE
            rw [if_neg hn0, if_neg (by decide), if_pos hL]
          refine bg_aload0 rfl ?_
          refine bg_getfield rfl rfl hM.Y (by rfl) ?_
          refine bg_iload2 rfl ?_
          refine bg_iload4 rfl ?_
          refine bg_iload1 rfl ?_
          refine bg_isub rfl ?_
          rw [nI_sb (by omega)]
          refine bg_iastore_n rfl hM.f2 (by decide) (by omega) (fun h80 f80 g80 => ?_)
          have hM := hM.ff2 f80 g80
          have hQ2 := hQ h80 _ hM (fun j hj => if_neg hj) (fun _ _ => (if_pos rfl).trans (by rw [hke]))
          refine bg_iload4 rfl ?_
          refine bg_iload1 rfl ?_
          refine bg_isub rfl ?_
          rw [nI_sb (by omega)]
          refine bg_iload3 rfl ?_
          refine bg_stat1 rfl rfl rfl rfl ?_
          refine mt_isL (bk_Ki ?_)
          refine bg_ifeq_b rfl (fun e89 => absurd hL e89) (fun e89 => ?_)
          refine bg_bipush rfl ?_
          refine bg_goto rfl ?_
          refine bg_icmp_le rfl (fun e99 => ?_) (fun e99 => ?_)
          · have hle : (wE T p) - p ≤ 10 := Nat.le_of_not_lt fun q => e99 (nI_lt (a := 10) q (by omega))
            rw [if_neg (show ¬ 10 < (wE T p) - p by omega)] at hkk
            rw [hkk] at hQ2
            refine bg_iload3 rfl ?_
            refine bg_stat1 rfl rfl rfl rfl ?_
            refine mt_isL (bk_Ki ?_)
            refine bg_ifeq_b rfl (fun e110 => absurd hL e110) (fun e110 => ?_)
            refine bg_aload0 rfl ?_
            refine bg_iload1 rfl ?_
            refine bg_iload4 rfl ?_
            refine bg_iload1 rfl ?_
            refine bg_isub rfl ?_
            rw [nI_sb (by omega)]
            refine bg_virt2 rfl rfl rfl rfl ⟨_, hM.Y⟩ ?_
            refine mt_word (p := p) (len := wE T p - p) hM (by omega) hle (fun j hj => vb_of hT (wL_all (T.length - p) p (p + j) (Nat.le_add_right p j) (by show p + j < wE T p; omega))) (bk_Ki ?_)
            refine bg_goto rfl ?_
            refine bg_iret rfl rfl (by rfl) ?_
            exact hQ2
          · have hgt : 10 < (wE T p) - p := Nat.lt_of_not_le fun q => absurd e99 (nI_nlt (b := (wE T p) - p) (a := 10) q (by decide))
            rw [if_pos hgt] at hkk
            rw [hkk] at hQ2
            refine bg_sipush rfl ?_
            refine bg_iret rfl rfl (by rfl) ?_
            exact hQ2
        | have hwE : dE T p = dL T (T.length - (p + 1)) (p + 1) := by
            unfold dE
            rw [show T.length - p = (T.length - (p + 1)) + 1 by omega]
            exact if_pos hD
          have hge := dL_ge (T := T) (T.length - (p + 1)) (p + 1)
          rw [← hwE] at hge
          refine mt_kindN hM hL (T.length - (p + 1)) (p + 1) _ rfl (by omega) ?_
          rw [← hwE]
          have hkk : tkK T 0 p = if 6 < dE T p - p then 0 else 31 := by
            unfold tkK
            rw [if_neg hn0, if_neg (by decide), if_neg hL, if_pos hD]
          have hke : tkE T 0 p = dE T p := by
            unfold tkE
            rw [if_neg hn0, if_neg (by decide), if_neg hL, if_pos hD]
          refine bg_aload0 rfl ?_
          refine bg_getfield rfl rfl hM.Y (by rfl) ?_
          refine bg_iload2 rfl ?_
          refine bg_iload4 rfl ?_
          refine bg_iload1 rfl ?_
          refine bg_isub rfl ?_
          rw [nI_sb (by omega)]
          refine bg_iastore_n rfl hM.f2 (by decide) (by omega) (fun h80 f80 g80 => ?_)
          have hM := hM.ff2 f80 g80
          have hQ2 := hQ h80 _ hM (fun j hj => if_neg hj) (fun _ _ => (if_pos rfl).trans (by rw [hke]))
          refine bg_iload4 rfl ?_
          refine bg_iload1 rfl ?_
          refine bg_isub rfl ?_
          rw [nI_sb (by omega)]
          refine bg_iload3 rfl ?_
          refine bg_stat1 rfl rfl rfl rfl ?_
          refine mt_isL (bk_Ki ?_)
          refine bg_ifeq_b rfl (fun e89 => ?_) (fun e89 => absurd e89 hL)
          refine bg_bipush rfl ?_
          refine bg_icmp_le rfl (fun e99 => ?_) (fun e99 => ?_)
          · have hle : (dE T p) - p ≤ 6 := Nat.le_of_not_lt fun q => e99 (nI_lt (a := 6) q (by omega))
            rw [if_neg (show ¬ 6 < (dE T p) - p by omega)] at hkk
            rw [hkk] at hQ2
            refine bg_iload3 rfl ?_
            refine bg_stat1 rfl rfl rfl rfl ?_
            refine mt_isL (bk_Ki ?_)
            refine bg_ifeq_b rfl (fun e110 => ?_) (fun e110 => absurd e110 hL)
            refine bg_bipush rfl ?_
            refine bg_iret rfl rfl (by rfl) ?_
            exact hQ2
          · have hgt : 6 < (dE T p) - p := Nat.lt_of_not_le fun q => absurd e99 (nI_nlt (b := (dE T p) - p) (a := 6) q (by decide))
            rw [if_pos hgt] at hkk
            rw [hkk] at hQ2
            refine bg_sipush rfl ?_
            refine bg_iret rfl rfl (by rfl) ?_
            exact hQ2
    · have hL := e24
      refine bg_iload3 rfl ?_
      refine bg_stat1 rfl rfl rfl rfl ?_
      refine mt_isD (bk_Ki ?_)
      refine bg_ifeq_b rfl (fun e31 => ?_) (fun e31 => ?_)
      · have hD := e31
        have hkk : tkK T 0 p = if sgF (bA T p) < 0 then 0 else if sg2 T p then (if 32 + sgF (bA T p) = 42 then 45 else 46) else 32 + sgF (bA T p) := by
          unfold tkK
          rw [if_neg hn0, if_neg (by decide), if_neg hL, if_neg hD]
        have hke : tkE T 0 p = if sgF (bA T p) < 0 then p else if sg2 T p then p + 2 else p + 1 := by
          unfold tkE
          rw [if_neg hn0, if_neg (by decide), if_neg hL, if_neg hD]
        have g2 := sg_d1 b0 hb0
        have g3 := sg_d2 b0 hb0
        have g4 := sg_d3 b0 hb0
        rw [← hb] at g2 g3 g4
        refine bg_iload3 rfl ?_
        refine bg_bipush rfl ?_
        refine bg_icmp_eq rfl (fun e131 => ?_) (fun e131 => ?_)
        · have hl60 := e131
          refine bg_aload0 rfl ?_
          refine bg_iload4 rfl ?_
          refine bg_virt1 rfl rfl rfl rfl ⟨_, hM.Y⟩ ?_
          refine mt_byteOf (p := (p + 1)) hM (by omega) (bk_Ki ?_)
          refine bg_bipush rfl ?_
          refine bg_icmp_ne rfl (fun e148 => ?_) (fun e148 => ?_)
          · have hs2 : ¬ sg2 T p := fun q => e148 q.1
            rw [if_neg hs2] at hkk hke
            refine bg_iconst rfl ?_
            refine bg_istore5 rfl rfl ?_
            refine bg_aload0 rfl ?_
            refine bg_getfield rfl rfl hM.Y (by rfl) ?_
            refine bg_iload2 rfl ?_
            refine bg_iload5 rfl ?_
            refine bg_if_eq rfl (fun e165 => ?_) (fun e165 => absurd rfl e165)
            refine bg_iconst rfl ?_
            refine bg_iastore_n rfl hM.f2 (by decide) (by omega) (fun h173 f173 g173 => ?_)
            have hQ2 := hQ h173 _ (hM.ff2 f173 g173) (fun j hj => if_neg hj) (fun z1 z2 => (if_pos rfl).trans (by
              rw [hke]
              have hs0 : ¬ sgF (bA T p) < 0 := fun q => z2 (by rw [hkk, if_pos q])
              rw [if_neg hs0, show p + 1 - p = 1 by omega]
              rfl))
            refine bg_iload5 rfl ?_
            refine bg_if_eq rfl (fun e176 => ?_) (fun e176 => absurd rfl e176)
            refine bg_iload3 rfl ?_
            refine bg_if_le rfl (fun e196 => ?_) (fun e196 => ?_)
            · have hs0 : sgF (bA T p) < 0 := Decidable.byContradiction fun q => e196 (by rw [hb]; exact nI_lt (a := 0) (g2 q).1 (by omega))
              rw [if_pos hs0] at hkk
              rw [hkk] at hQ2
              refine bg_sipush rfl ?_
              refine bg_iret rfl rfl (by rfl) ?_
              exact hQ2
            · refine bg_iload3 rfl ?_
              refine bg_sipush rfl ?_
              refine bg_icmp_ge rfl (fun e203 => ?_) (fun e203 => ?_)
              · have hs0 : sgF (bA T p) < 0 := Decidable.byContradiction fun q => e203 (by rw [hb]; exact nI_lt (b := 128) (g2 q).2.1 (by decide))
                rw [if_pos hs0] at hkk
                rw [hkk] at hQ2
                refine bg_sipush rfl ?_
                refine bg_iret rfl rfl (by rfl) ?_
                exact hQ2
              · refine bg_ldc rfl rfl ?_
                refine bg_iload3 rfl ?_
                refine bg_i2c rfl ?_
                rw [i2c_b (bA_lt hT hpl)]
                refine bg_indexof (k := 1) rfl rfl rfl (by decide) rfl ?_
                change bk_g _ _ _ _ _ _ _ [.int (sgF (bA T p))] _ _ _
                refine bg_if_lt rfl (fun e213 => ?_) (fun e213 => ?_)
                · have hs0 := e213
                  rw [if_pos hs0] at hkk
                  rw [hkk] at hQ2
                  refine bg_sipush rfl ?_
                  refine bg_iret rfl rfl (by rfl) ?_
                  exact hQ2
                · have hs0 := e213
                  rw [if_neg hs0] at hkk
                  rw [hkk, (g2 hs0).2.2] at hQ2
                  refine bg_bipush rfl ?_
                  refine bg_iload3 rfl ?_
                  refine bg_iadd rfl ?_
                  refine bg_goto rfl ?_
                  refine bg_iret rfl rfl (by rfl) ?_
                  exact hQ2
          · have h4243 : 32 + sgF (bA T p) = 42 ∨ 32 + sgF (bA T p) = 43 := by
              first
                | exact Or.inl (g3.mpr hl60)
                | exact Or.inr (g4.mpr hl62)
            have hs2 : sg2 T p := ⟨e148, h4243⟩
            have hs0 : ¬ sgF (bA T p) < 0 := by
              intro q
              rcases h4243 with z | z
              · have e9 := g3.mp z
                rw [e9] at q
                exact absurd q (by decide)
              · have e9 := g4.mp z
                rw [e9] at q
                exact absurd q (by decide)
            rw [if_neg hs0, if_pos hs2] at hkk hke
            refine bg_iconst rfl ?_
            refine bg_goto rfl ?_
            refine bg_istore5 rfl rfl ?_
            refine bg_aload0 rfl ?_
            refine bg_getfield rfl rfl hM.Y (by rfl) ?_
            refine bg_iload2 rfl ?_
            refine bg_iload5 rfl ?_
            refine bg_if_eq rfl (fun e165 => absurd e165 (by decide)) (fun e165 => ?_)
            refine bg_iconst rfl ?_
            refine bg_goto rfl ?_
            refine bg_iastore_n rfl hM.f2 (by decide) (by omega) (fun h173 f173 g173 => ?_)
            have hQ2 := hQ h173 _ (hM.ff2 f173 g173) (fun j hj => if_neg hj) (fun z1 z2 => (if_pos rfl).trans (by
              rw [hke]
              rw [show p + 2 - p = 2 by omega]
              rfl))
            refine bg_iload5 rfl ?_
            refine bg_if_eq rfl (fun e176 => absurd e176 (by decide)) (fun e176 => ?_)
            refine bg_iload3 rfl ?_
            refine bg_bipush rfl ?_
            refine bg_icmp_ne rfl (fun e182 => ?_) (fun e182 => ?_)
            · rw [if_neg (fun z => e182 (g3.mp z))] at hkk
              rw [hkk] at hQ2
              refine bg_sipush rfl ?_
              refine bg_iret rfl rfl (by rfl) ?_
              exact hQ2
            · rw [if_pos (g3.mpr e182)] at hkk
              rw [hkk] at hQ2
              refine bg_sipush rfl ?_
              refine bg_goto rfl ?_
              refine bg_iret rfl rfl (by rfl) ?_
              exact hQ2
        · have hl60 := e131
          refine bg_iload3 rfl ?_
          refine bg_bipush rfl ?_
          refine bg_icmp_ne rfl (fun e137 => ?_) (fun e137 => ?_)
          · have hs2 : ¬ sg2 T p := fun q => q.2.elim (fun z => e131 (g3.mp z)) (fun z => e137 (g4.mp z))
            rw [if_neg hs2] at hkk hke
            refine bg_iconst rfl ?_
            refine bg_istore5 rfl rfl ?_
            refine bg_aload0 rfl ?_
            refine bg_getfield rfl rfl hM.Y (by rfl) ?_
            refine bg_iload2 rfl ?_
            refine bg_iload5 rfl ?_
            refine bg_if_eq rfl (fun e165 => ?_) (fun e165 => absurd rfl e165)
            refine bg_iconst rfl ?_
            refine bg_iastore_n rfl hM.f2 (by decide) (by omega) (fun h173 f173 g173 => ?_)
            have hQ2 := hQ h173 _ (hM.ff2 f173 g173) (fun j hj => if_neg hj) (fun z1 z2 => (if_pos rfl).trans (by
              rw [hke]
              have hs0 : ¬ sgF (bA T p) < 0 := fun q => z2 (by rw [hkk, if_pos q])
              rw [if_neg hs0, show p + 1 - p = 1 by omega]
              rfl))
            refine bg_iload5 rfl ?_
            refine bg_if_eq rfl (fun e176 => ?_) (fun e176 => absurd rfl e176)
            refine bg_iload3 rfl ?_
            refine bg_if_le rfl (fun e196 => ?_) (fun e196 => ?_)
            · have hs0 : sgF (bA T p) < 0 := Decidable.byContradiction fun q => e196 (by rw [hb]; exact nI_lt (a := 0) (g2 q).1 (by omega))
              rw [if_pos hs0] at hkk
              rw [hkk] at hQ2
              refine bg_sipush rfl ?_
              refine bg_iret rfl rfl (by rfl) ?_
              exact hQ2
            · refine bg_iload3 rfl ?_
              refine bg_sipush rfl ?_
              refine bg_icmp_ge rfl (fun e203 => ?_) (fun e203 => ?_)
              · have hs0 : sgF (bA T p) < 0 := Decidable.byContradiction fun q => e203 (by rw [hb]; exact nI_lt (b := 128) (g2 q).2.1 (by decide))
                rw [if_pos hs0] at hkk
                rw [hkk] at hQ2
                refine bg_sipush rfl ?_
                refine bg_iret rfl rfl (by rfl) ?_
                exact hQ2
              · refine bg_ldc rfl rfl ?_
                refine bg_iload3 rfl ?_
                refine bg_i2c rfl ?_
                rw [i2c_b (bA_lt hT hpl)]
                refine bg_indexof (k := 1) rfl rfl rfl (by decide) rfl ?_
                change bk_g _ _ _ _ _ _ _ [.int (sgF (bA T p))] _ _ _
                refine bg_if_lt rfl (fun e213 => ?_) (fun e213 => ?_)
                · have hs0 := e213
                  rw [if_pos hs0] at hkk
                  rw [hkk] at hQ2
                  refine bg_sipush rfl ?_
                  refine bg_iret rfl rfl (by rfl) ?_
                  exact hQ2
                · have hs0 := e213
                  rw [if_neg hs0] at hkk
                  rw [hkk, (g2 hs0).2.2] at hQ2
                  refine bg_bipush rfl ?_
                  refine bg_iload3 rfl ?_
                  refine bg_iadd rfl ?_
                  refine bg_goto rfl ?_
                  refine bg_iret rfl rfl (by rfl) ?_
                  exact hQ2
          · have hl62 := e137
            refine bg_aload0 rfl ?_
            refine bg_iload4 rfl ?_
            refine bg_virt1 rfl rfl rfl rfl ⟨_, hM.Y⟩ ?_
            refine mt_byteOf (p := (p + 1)) hM (by omega) (bk_Ki ?_)
            refine bg_bipush rfl ?_
            refine bg_icmp_ne rfl (fun e148 => ?_) (fun e148 => ?_)
            · have hs2 : ¬ sg2 T p := fun q => e148 q.1
              rw [if_neg hs2] at hkk hke
              refine bg_iconst rfl ?_
              refine bg_istore5 rfl rfl ?_
              refine bg_aload0 rfl ?_
              refine bg_getfield rfl rfl hM.Y (by rfl) ?_
              refine bg_iload2 rfl ?_
              refine bg_iload5 rfl ?_
              refine bg_if_eq rfl (fun e165 => ?_) (fun e165 => absurd rfl e165)
              refine bg_iconst rfl ?_
              refine bg_iastore_n rfl hM.f2 (by decide) (by omega) (fun h173 f173 g173 => ?_)
              have hQ2 := hQ h173 _ (hM.ff2 f173 g173) (fun j hj => if_neg hj) (fun z1 z2 => (if_pos rfl).trans (by
                rw [hke]
                have hs0 : ¬ sgF (bA T p) < 0 := fun q => z2 (by rw [hkk, if_pos q])
                rw [if_neg hs0, show p + 1 - p = 1 by omega]
                rfl))
              refine bg_iload5 rfl ?_
              refine bg_if_eq rfl (fun e176 => ?_) (fun e176 => absurd rfl e176)
              refine bg_iload3 rfl ?_
              refine bg_if_le rfl (fun e196 => ?_) (fun e196 => ?_)
              · have hs0 : sgF (bA T p) < 0 := Decidable.byContradiction fun q => e196 (by rw [hb]; exact nI_lt (a := 0) (g2 q).1 (by omega))
                rw [if_pos hs0] at hkk
                rw [hkk] at hQ2
                refine bg_sipush rfl ?_
                refine bg_iret rfl rfl (by rfl) ?_
                exact hQ2
              · refine bg_iload3 rfl ?_
                refine bg_sipush rfl ?_
                refine bg_icmp_ge rfl (fun e203 => ?_) (fun e203 => ?_)
                · have hs0 : sgF (bA T p) < 0 := Decidable.byContradiction fun q => e203 (by rw [hb]; exact nI_lt (b := 128) (g2 q).2.1 (by decide))
                  rw [if_pos hs0] at hkk
                  rw [hkk] at hQ2
                  refine bg_sipush rfl ?_
                  refine bg_iret rfl rfl (by rfl) ?_
                  exact hQ2
                · refine bg_ldc rfl rfl ?_
                  refine bg_iload3 rfl ?_
                  refine bg_i2c rfl ?_
                  rw [i2c_b (bA_lt hT hpl)]
                  refine bg_indexof (k := 1) rfl rfl rfl (by decide) rfl ?_
                  change bk_g _ _ _ _ _ _ _ [.int (sgF (bA T p))] _ _ _
                  refine bg_if_lt rfl (fun e213 => ?_) (fun e213 => ?_)
                  · have hs0 := e213
                    rw [if_pos hs0] at hkk
                    rw [hkk] at hQ2
                    refine bg_sipush rfl ?_
                    refine bg_iret rfl rfl (by rfl) ?_
                    exact hQ2
                  · have hs0 := e213
                    rw [if_neg hs0] at hkk
                    rw [hkk, (g2 hs0).2.2] at hQ2
                    refine bg_bipush rfl ?_
                    refine bg_iload3 rfl ?_
                    refine bg_iadd rfl ?_
                    refine bg_goto rfl ?_
                    refine bg_iret rfl rfl (by rfl) ?_
                    exact hQ2
            · have h4243 : 32 + sgF (bA T p) = 42 ∨ 32 + sgF (bA T p) = 43 := by
                first
                  | exact Or.inl (g3.mpr hl60)
                  | exact Or.inr (g4.mpr hl62)
              have hs2 : sg2 T p := ⟨e148, h4243⟩
              have hs0 : ¬ sgF (bA T p) < 0 := by
                intro q
                rcases h4243 with z | z
                · have e9 := g3.mp z
                  rw [e9] at q
                  exact absurd q (by decide)
                · have e9 := g4.mp z
                  rw [e9] at q
                  exact absurd q (by decide)
              rw [if_neg hs0, if_pos hs2] at hkk hke
              refine bg_iconst rfl ?_
              refine bg_goto rfl ?_
              refine bg_istore5 rfl rfl ?_
              refine bg_aload0 rfl ?_
              refine bg_getfield rfl rfl hM.Y (by rfl) ?_
              refine bg_iload2 rfl ?_
              refine bg_iload5 rfl ?_
              refine bg_if_eq rfl (fun e165 => absurd e165 (by decide)) (fun e165 => ?_)
              refine bg_iconst rfl ?_
              refine bg_goto rfl ?_
              refine bg_iastore_n rfl hM.f2 (by decide) (by omega) (fun h173 f173 g173 => ?_)
              have hQ2 := hQ h173 _ (hM.ff2 f173 g173) (fun j hj => if_neg hj) (fun z1 z2 => (if_pos rfl).trans (by
                rw [hke]
                rw [show p + 2 - p = 2 by omega]
                rfl))
              refine bg_iload5 rfl ?_
              refine bg_if_eq rfl (fun e176 => absurd e176 (by decide)) (fun e176 => ?_)
              refine bg_iload3 rfl ?_
              refine bg_bipush rfl ?_
              refine bg_icmp_ne rfl (fun e182 => ?_) (fun e182 => ?_)
              · rw [if_neg (fun z => e182 (g3.mp z))] at hkk
                rw [hkk] at hQ2
                refine bg_sipush rfl ?_
                refine bg_iret rfl rfl (by rfl) ?_
                exact hQ2
              · rw [if_pos (g3.mpr e182)] at hkk
                rw [hkk] at hQ2
                refine bg_sipush rfl ?_
                refine bg_goto rfl ?_
                refine bg_iret rfl rfl (by rfl) ?_
                exact hQ2
      · have hD := e31
        first
          | have hwE : wE T p = wL T (T.length - (p + 1)) (p + 1) := by
              unfold wE
              rw [show T.length - p = (T.length - (p + 1)) + 1 by omega]
              exact if_pos (Or.inl hL)
            have hge := wL_ge (T := T) (T.length - (p + 1)) (p + 1)
            rw [← hwE] at hge
            refine mt_kindW (x5 := none) hM hL (T.length - (p + 1)) (p + 1) _ rfl (by omega) ?_
            rw [← hwE]
            have hkk : tkK T 0 p = if 10 < wE T p - p then 0 else kwF (wC T p) := by
              unfold tkK
              rw [if_neg hn0, if_neg (by decide), if_pos hL]
            have hke : tkE T 0 p = wE T p := by
              unfold tkE
              rw [if_neg hn0, if_neg (by decide), if_pos hL]
            refine bg_aload0 rfl ?_
            refine bg_getfield rfl rfl hM.Y (by rfl) ?_
            refine bg_iload2 rfl ?_
            refine bg_iload4 rfl ?_
            refine bg_iload1 rfl ?_
            refine bg_isub rfl ?_
            rw [nI_sb (by omega)]
            refine bg_iastore_n rfl hM.f2 (by decide) (by omega) (fun h80 f80 g80 => ?_)
            have hM := hM.ff2 f80 g80
            have hQ2 := hQ h80 _ hM (fun j hj => if_neg hj) (fun _ _ => (if_pos rfl).trans (by rw [hke]))
            refine bg_iload4 rfl ?_
            refine bg_iload1 rfl ?_
            refine bg_isub rfl ?_
            rw [nI_sb (by omega)]
            refine bg_iload3 rfl ?_
            refine bg_stat1 rfl rfl rfl rfl ?_
            refine mt_isL (bk_Ki ?_)
            refine bg_ifeq_b rfl (fun e89 => absurd hL e89) (fun e89 => ?_)
            refine bg_bipush rfl ?_
            refine bg_goto rfl ?_
            refine bg_icmp_le rfl (fun e99 => ?_) (fun e99 => ?_)
            · have hle : (wE T p) - p ≤ 10 := Nat.le_of_not_lt fun q => e99 (nI_lt (a := 10) q (by omega))
              rw [if_neg (show ¬ 10 < (wE T p) - p by omega)] at hkk
              rw [hkk] at hQ2
              refine bg_iload3 rfl ?_
              refine bg_stat1 rfl rfl rfl rfl ?_
              refine mt_isL (bk_Ki ?_)
              refine bg_ifeq_b rfl (fun e110 => absurd hL e110) (fun e110 => ?_)
              refine bg_aload0 rfl ?_
              refine bg_iload1 rfl ?_
              refine bg_iload4 rfl ?_
              refine bg_iload1 rfl ?_
              refine bg_isub rfl ?_
              rw [nI_sb (by omega)]
              refine bg_virt2 rfl rfl rfl rfl ⟨_, hM.Y⟩ ?_
              refine mt_word (p := p) (len := wE T p - p) hM (by omega) hle (fun j hj => vb_of hT (wL_all (T.length - p) p (p + j) (Nat.le_add_right p j) (by show p + j < wE T p; omega))) (bk_Ki ?_)
              refine bg_goto rfl ?_
              refine bg_iret rfl rfl (by rfl) ?_
              exact hQ2
            · have hgt : 10 < (wE T p) - p := Nat.lt_of_not_le fun q => absurd e99 (nI_nlt (b := (wE T p) - p) (a := 10) q (by decide))
              rw [if_pos hgt] at hkk
              rw [hkk] at hQ2
              refine bg_sipush rfl ?_
              refine bg_iret rfl rfl (by rfl) ?_
              exact hQ2
          | have hwE : dE T p = dL T (T.length - (p + 1)) (p + 1) := by
              unfold dE
              rw [show T.length - p = (T.length - (p + 1)) + 1 by omega]
              exact if_pos hD
            have hge := dL_ge (T := T) (T.length - (p + 1)) (p + 1)
            rw [← hwE] at hge
            refine mt_kindN hM hL (T.length - (p + 1)) (p + 1) _ rfl (by omega) ?_
            rw [← hwE]
            have hkk : tkK T 0 p = if 6 < dE T p - p then 0 else 31 := by
              unfold tkK
              rw [if_neg hn0, if_neg (by decide), if_neg hL, if_pos hD]
            have hke : tkE T 0 p = dE T p := by
              unfold tkE
              rw [if_neg hn0, if_neg (by decide), if_neg hL, if_pos hD]
            refine bg_aload0 rfl ?_
            refine bg_getfield rfl rfl hM.Y (by rfl) ?_
            refine bg_iload2 rfl ?_
            refine bg_iload4 rfl ?_
            refine bg_iload1 rfl ?_
            refine bg_isub rfl ?_
            rw [nI_sb (by omega)]
            refine bg_iastore_n rfl hM.f2 (by decide) (by omega) (fun h80 f80 g80 => ?_)
            have hM := hM.ff2 f80 g80
            have hQ2 := hQ h80 _ hM (fun j hj => if_neg hj) (fun _ _ => (if_pos rfl).trans (by rw [hke]))
            refine bg_iload4 rfl ?_
            refine bg_iload1 rfl ?_
            refine bg_isub rfl ?_
            rw [nI_sb (by omega)]
            refine bg_iload3 rfl ?_
            refine bg_stat1 rfl rfl rfl rfl ?_
            refine mt_isL (bk_Ki ?_)
            refine bg_ifeq_b rfl (fun e89 => ?_) (fun e89 => absurd e89 hL)
            refine bg_bipush rfl ?_
            refine bg_icmp_le rfl (fun e99 => ?_) (fun e99 => ?_)
            · have hle : (dE T p) - p ≤ 6 := Nat.le_of_not_lt fun q => e99 (nI_lt (a := 6) q (by omega))
              rw [if_neg (show ¬ 6 < (dE T p) - p by omega)] at hkk
              rw [hkk] at hQ2
              refine bg_iload3 rfl ?_
              refine bg_stat1 rfl rfl rfl rfl ?_
              refine mt_isL (bk_Ki ?_)
              refine bg_ifeq_b rfl (fun e110 => ?_) (fun e110 => absurd e110 hL)
              refine bg_bipush rfl ?_
              refine bg_iret rfl rfl (by rfl) ?_
              exact hQ2
            · have hgt : 6 < (dE T p) - p := Nat.lt_of_not_le fun q => absurd e99 (nI_nlt (b := (dE T p) - p) (a := 6) q (by decide))
              rw [if_pos hgt] at hkk
              rw [hkk] at hQ2
              refine bg_sipush rfl ?_
              refine bg_iret rfl rfl (by rfl) ?_
              exact hQ2
  · have hn : bA T p < 0 := by rw [e13]; decide
    have hkk : tkK T 0 p = 47 := ((tkK_r hT).1).mpr hn
    have hQ2 := hQ h (F 2) (by rw [uA_id]; exact hM) (fun _ _ => rfl) (fun z => absurd hkk z)
    rw [hkk] at hQ2
    refine bg_sipush rfl ?_
    refine bg_iret rfl rfl (by rfl) ?_
    exact hQ2
end MM
