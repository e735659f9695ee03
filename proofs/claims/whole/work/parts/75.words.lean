/-! THE REFERENCE: words. Printed by wip/whole/mk75.py. -/
/-- a kind of token, as the reference has it -/
def wK (k : Int32) : Int32 := if k = 0 then 901 else if k = 47 then 900 else if k = 31 then 41 else if k = 30 then 40 else if k < 30 then k - 1 else if k = 45 then 300 else if k = 46 then 301 else 50 + (bk_sB 1).getD (k - 32).toNatClampNeg 0
def bv (w : Nat) : Nat := if w ≤ 57 then w - 48 + 27 else w - 96
abbrev vb (w : Nat) : Prop := (48 ≤ w ∧ w ≤ 57) ∨ (97 ≤ w ∧ w ≤ 122)
def cF (f : Nat → Nat) : Nat → Nat
  | 0 => 0
  | k + 1 => cF f k * 37 + bv (f k)
theorem bv_r {w : Nat} (h : vb w) : 1 ≤ bv w ∧ bv w ≤ 36 := by
  unfold bv
  split <;> omega
theorem bv_inj {a b : Nat} (ha : vb a) (hb : vb b) (h : bv a = bv b) : a = b := by
  unfold bv at h
  split at h <;> split at h <;> omega
theorem cF_lt {f : Nat → Nat} : ∀ k, (∀ i, i < k → vb (f i)) → cF f k < 37 ^ k
  | 0, _ => Nat.one_pos
  | k + 1, h => by
    have h1 := cF_lt k (fun i hi => h i (by omega))
    have h2 := bv_r (h k (by omega))
    show cF f k * 37 + bv (f k) < 37 ^ (k + 1)
    rw [Nat.pow_succ]
    omega
theorem cF_inj {f g : Nat → Nat} : ∀ (k m : Nat), (∀ i, i < k → vb (f i)) → (∀ i, i < m → vb (g i)) → cF f k = cF g m → k = m ∧ ∀ i, i < k → f i = g i
  | 0, 0, _, _, _ => ⟨rfl, fun i hi => absurd hi (Nat.not_lt_zero i)⟩
  | 0, m + 1, _, hg, h => by
    have h2 := bv_r (hg m (by omega))
    have : 0 = cF g m * 37 + bv (g m) := h
    omega
  | k + 1, 0, hf, _, h => by
    have h2 := bv_r (hf k (by omega))
    have : cF f k * 37 + bv (f k) = 0 := h
    omega
  | k + 1, m + 1, hf, hg, h => by
    have h1 := bv_r (hf k (by omega))
    have h2 := bv_r (hg m (by omega))
    have h3 : cF f k * 37 + bv (f k) = cF g m * 37 + bv (g m) := h
    have h4 : bv (f k) = bv (g m) := by omega
    obtain ⟨e, e2⟩ := cF_inj k m (fun i hi => hf i (by omega)) (fun i hi => hg i (by omega)) (by omega)
    subst e
    refine ⟨rfl, fun i hi => ?_⟩
    by_cases z : i = k
    · subst z
      exact bv_inj (hf i (by omega)) (hg i (by omega)) h4
    · exact e2 i (by omega)
theorem cF_cg {f g : Nat → Nat} : ∀ k, (∀ i, i < k → f i = g i) → cF f k = cF g k
  | 0, _ => rfl
  | k + 1, h => by
    show cF f k * 37 + bv (f k) = cF g k * 37 + bv (g k)
    rw [cF_cg k (fun i hi => h i (by omega)), h k (by omega)]
theorem xt_d : ∀ w, w < 123 → vb w → (if isD (nI w) then nI w - 48 + 27 else nI w - 97 + 1).toInt64 = Int64.ofNat (bv w) := by decide +kernel
theorem xt_n {c w : Nat} (h : vb w) : xtF (Int64.ofNat c) (nI w) = Int64.ofNat (c * 37 + bv w) := by
  unfold xtF
  rw [xt_d w (by omega) h]
  show Int64.ofNat c * Int64.ofNat 37 + Int64.ofNat (bv w) = _
  rw [← Int64.ofNat_mul, ← Int64.ofNat_add]
theorem of64_inj {a b : Nat} (ha : a < 2 ^ 63) (hb : b < 2 ^ 63) (h : Int64.ofNat a = Int64.ofNat b) : a = b := by
  have := congrArg Int64.toInt h
  rw [Int64.toInt_ofNat_of_lt ha, Int64.toInt_ofNat_of_lt hb] at this
  exact Int.ofNat.inj this
theorem cdL_cF {T : List Int32} {p : Nat} : ∀ k, (∀ i, i < k → ∃ w, bA T (p + i) = nI w ∧ vb w) → cdL T k p 0 = Int64.ofNat (cF (fun i => (bA T (p + i)).toNatClampNeg) k)
  | 0, _ => rfl
  | k + 1, h => by
    obtain ⟨w, e, hw⟩ := h k (by omega)
    rw [cdL_s, cdL_cF k (fun i hi => h i (by omega)), e, xt_n hw]
    show _ = Int64.ofNat (cF _ k * 37 + bv (bA T (p + k)).toNatClampNeg)
    rw [e, nI_clamp (by omega)]
theorem kw_f : ∀ k, k < 29 → kwL.getD k 0 = Int64.ofNat (cF (fun i => ((bk_sB (bk_wd k)).getD i 0).toNatClampNeg) (bk_sB (bk_wd k)).length) ∧ (bk_sB (bk_wd k)).length ≤ 10 ∧ ∀ i, i < (bk_sB (bk_wd k)).length → (bk_sB (bk_wd k)).getD i 0 = nI ((bk_sB (bk_wd k)).getD i 0).toNatClampNeg ∧ vb (((bk_sB (bk_wd k)).getD i 0).toNatClampNeg) := by decide +kernel
def wEq (T : List Int32) (p len k : Nat) : Prop := (bk_sB (bk_wd k)).length = len ∧ ∀ i, i < len → (bk_sB (bk_wd k)).getD i 0 = bA T (p + i)
theorem p63 {k c : Nat} (hk : k ≤ 10) (h : c < 37 ^ k) : c < 2 ^ 63 := Nat.lt_of_lt_of_le h (Nat.le_trans (Nat.pow_le_pow_right (by decide) hk) (by decide))
/-- a word's code says its letters -/
theorem cd_inj {T : List Int32} {p q m k : Nat} (hk : k ≤ 10) (hm : m ≤ 10) (hv : ∀ i, i < k → ∃ w, bA T (p + i) = nI w ∧ vb w) (hw : ∀ i, i < m → ∃ w, bA T (q + i) = nI w ∧ vb w) : cdL T k p 0 = cdL T m q 0 ↔ (k = m ∧ ∀ i, i < k → bA T (p + i) = bA T (q + i)) := by
  have cl : ∀ (p k : Nat), (∀ i, i < k → ∃ w, bA T (p + i) = nI w ∧ vb w) → ∀ i, i < k → vb (bA T (p + i)).toNatClampNeg ∧ bA T (p + i) = nI (bA T (p + i)).toNatClampNeg := fun p k h i hi => by
    obtain ⟨w, e, hw⟩ := h i hi
    rw [e, nI_clamp (by omega)]
    exact ⟨hw, rfl⟩
  rw [cdL_cF k hv, cdL_cF m hw]
  constructor
  · intro h
    obtain ⟨e, e2⟩ := cF_inj k m (fun i hi => (cl p k hv i hi).1) (fun i hi => (cl q m hw i hi).1) (of64_inj (p63 hk (cF_lt k fun i hi => (cl p k hv i hi).1)) (p63 hm (cF_lt m fun i hi => (cl q m hw i hi).1)) h)
    refine ⟨e, fun i hi => ?_⟩
    rw [(cl p k hv i hi).2, (cl q m hw i (by omega)).2, e2 i hi]
  · rintro ⟨rfl, h⟩
    rw [cF_cg k (fun i hi => by show (bA T (p + i)).toNatClampNeg = (bA T (q + i)).toNatClampNeg; rw [h i hi])]
theorem wEq_iff {T : List Int32} {p len k : Nat} (hk : k < 29) (hl : len ≤ 10) (hv : ∀ i, i < len → ∃ w, bA T (p + i) = nI w ∧ vb w) : wEq T p len k ↔ kwL.getD k 0 = cdL T len p 0 := by
  obtain ⟨e, l10, hb⟩ := kw_f k hk
  have cl : ∀ i, i < len → vb (bA T (p + i)).toNatClampNeg ∧ bA T (p + i) = nI (bA T (p + i)).toNatClampNeg := fun i hi => by
    obtain ⟨w, e, hw⟩ := hv i hi
    rw [e, nI_clamp (by omega)]
    exact ⟨hw, rfl⟩
  rw [e, cdL_cF len hv]
  constructor
  · rintro ⟨h1, h2⟩
    rw [h1, cF_cg len (fun i hi => by show ((bk_sB (bk_wd k)).getD i 0).toNatClampNeg = (bA T (p + i)).toNatClampNeg; rw [h2 i hi])]
  · intro h
    obtain ⟨e1, e2⟩ := cF_inj _ len (fun i hi => (hb i hi).2) (fun i hi => (cl i hi).1) (of64_inj (p63 l10 (cF_lt _ fun i hi => (hb i hi).2)) (p63 hl (cF_lt len fun i hi => (cl i hi).1)) h)
    refine ⟨e1, fun i hi => ?_⟩
    rw [(hb i (by omega)).1, (cl i hi).2, e2 i (by omega)]
theorem ixL_at {c : Int64} : ∀ (l : List Int64) (k m : Nat), (∀ i, i < k → ¬ l.getD i 0 = c) → k < l.length → l.getD k 0 = c → ixL l c m = nI (m + k)
  | [], k, m, _, h, _ => absurd h (Nat.not_lt_zero k)
  | x :: r, 0, m, _, _, h => if_pos h
  | x :: r, k + 1, m, h, hk, e => by
    have h0 : ¬ x = c := h 0 (Nat.succ_pos k)
    show (if x = c then nI m else ixL r c (m + 1)) = _
    rw [if_neg h0, ixL_at r k (m + 1) (fun i hi => h (i + 1) (by omega)) (Nat.lt_of_succ_lt_succ hk) e]
    congr 1
    omega
theorem ixL_no {c : Int64} : ∀ (l : List Int64) (m : Nat), (∀ i, i < l.length → ¬ l.getD i 0 = c) → ixL l c m = -1
  | [], _, _ => rfl
  | x :: r, m, h => by
    have h0 : ¬ x = c := h 0 (Nat.succ_pos _)
    show (if x = c then nI m else ixL r c (m + 1)) = _
    rw [if_neg h0]
    exact ixL_no r (m + 1) (fun i hi => h (i + 1) (Nat.succ_lt_succ hi))
theorem wK_kw : ∀ k, k < 29 → wK (1 + nI k) = nI k := by decide +kernel
theorem wK_at {c : Int64} {k : Nat} (hk : k < 29) (h : ixL kwL c 0 = nI k) : wK (kwF c) = nI k := by
  unfold kwF
  rw [h, if_neg (nI_pos (by omega))]
  exact wK_kw k hk
theorem wK_no {c : Int64} (h : ixL kwL c 0 = -1) : wK (kwF c) = 40 := by
  unfold kwF
  rw [h]
  decide
section MM
variable {V : bk_V} {d n : Nat} {B : Nat × Nat} {Q : bk_R → bk_H → Nat → Prop} {h0 h : bk_H} {y u v : Nat} {T : List Int32} {P : Nat → bT} {S : bS} {K J K2 : rI} {C F C2 : rA} {cs : Nat × Nat}
theorem mt_wordI {p len k : Nat} (hM : MT h0 h y u v T P S K C J F K2 C2) (hk : k < 29) (hp : p + len ≤ T.length) (hL : (bk_sB (bk_wd k)).length = len) (hT : (∀ i, i < len → (bk_sB (bk_wd k)).getD i 0 = bA T (p + i)) → bk_g V d 161 B Q 78 [some (.ref y), some (.int (nI p)), some (.int (nI len)), some (.int (nI k)), some (.int 1), some (.int (nI len))] [] h n cs) (hF : (∃ i, i < len ∧ ¬ (bk_sB (bk_wd k)).getD i 0 = bA T (p + i)) → ∀ x5, bk_g V d 161 B Q 78 [some (.ref y), some (.int (nI p)), some (.int (nI len)), some (.int (nI k)), some (.int 0), x5] [] h n cs) : ∀ (c i : Nat), i + c = len → (∀ j, j < i → (bk_sB (bk_wd k)).getD j 0 = bA T (p + j)) → bk_g V d 161 B Q 32 [some (.ref y), some (.int (nI p)), some (.int (nI len)), some (.int (nI k)), some (.int 1), some (.int (nI i))] [] h n cs := by
  obtain ⟨tp, ht, ht2⟩ := hM.mb.tp
  have hT2 := hM.mb.T2
  intro c
  induction c with
  | zero =>
    intro i hi he
    refine bg_iload4 rfl ?_
    refine bg_if_eq rfl (fun e34 => absurd e34 (by decide)) (fun e34 => ?_)
    refine bg_iload5 rfl ?_
    refine bg_iload2 rfl ?_
    refine bg_icmp_ge rfl (fun e40 => ?_) (fun e40 => absurd e40 (nI_nlt (by omega) (by omega)))
    have hi2 : i = len := by omega
    subst hi2
    exact hT he
  | succ c ih =>
    intro i hi he
    refine bg_iload4 rfl ?_
    refine bg_if_eq rfl (fun e34 => absurd e34 (by decide)) (fun e34 => ?_)
    refine bg_iload5 rfl ?_
    refine bg_iload2 rfl ?_
    refine bg_icmp_ge rfl (fun e40 => absurd (nI_lt (by omega) (by omega)) e40) (fun e40 => ?_)
    refine bg_getstatic rfl ?_
    refine bg_iload3 rfl ?_
    refine bg_aaload rfl (vp_in_nI hk (by decide)) ?_
    rw [nI_clamp (by omega)]
    refine bg_iload5 rfl ?_
    refine bg_charat (k := bk_wd k) rfl rfl rfl (by show k + 2 < 31; omega) rfl (vp_in_nI (show i < (bk_sB (bk_wd k)).length by omega) (by omega)) ?_
    rw [nI_clamp (by omega)]
    refine bg_aload0 rfl ?_
    refine bg_getfield rfl rfl hM.Y (by rfl) ?_
    refine bg_iload1 rfl ?_
    refine bg_iload5 rfl ?_
    refine bg_iadd rfl ?_
    rw [nI_add]
    refine bg_iaload_n rfl ht (by decide) (by omega) ?_
    refine bg_icmp_ne rfl (fun e62 => ?_) (fun e62 => ?_)
    · have hne : ¬ (bk_sB (bk_wd k)).getD i 0 = bA T (p + i) := fun z => e62 (by rw [z, ht2 _ (by omega)]; unfold bA; rw [gD_lt (by omega), gD_lt (by omega)])
      refine bg_iconst rfl ?_
      refine bg_istore4 rfl rfl ?_
      refine bg_iinc5 rfl rfl ?_
      rw [nI_1]
      refine bg_goto rfl ?_
      first
        | exact ih (i + 1) (by omega) (fun j hj => by
            by_cases z : j = i
            · subst z
              exact heq
            · exact he j (by omega))
        | skip
          refine bg_iload4 rfl ?_
          refine bg_if_eq rfl (fun e34 => ?_) (fun e34 => absurd rfl e34)
          exact hF ⟨i, by omega, hne⟩ _
    · have heq : (bk_sB (bk_wd k)).getD i 0 = bA T (p + i) := by
        rw [e62, ht2 _ (by omega)]
        unfold bA
        rw [gD_lt (by omega), gD_lt (by omega)]
      refine bg_iconst rfl ?_
      refine bg_goto rfl ?_
      refine bg_istore4 rfl rfl ?_
      refine bg_iinc5 rfl rfl ?_
      rw [nI_1]
      refine bg_goto rfl ?_
      first
        | exact ih (i + 1) (by omega) (fun j hj => by
            by_cases z : j = i
            · subst z
              exact heq
            · exact he j (by omega))
        | skip
          refine bg_iload4 rfl ?_
          refine bg_if_eq rfl (fun e34 => ?_) (fun e34 => absurd rfl e34)
          exact hF ⟨i, by omega, hne⟩ _

theorem mt_wordL {p len : Nat} (hM : MT h0 h y u v T P S K C J F K2 C2) (hp : p + len ≤ T.length) (hl : len ≤ 10) (hv : ∀ i, i < len → ∃ w, bA T (p + i) = nI w ∧ vb w) (hQ : Q (.inl (some (.int (wK (kwF (cdL T len p 0)))))) h n) : ∀ (c k : Nat) (x4 x5 : Option Value), k + c = 29 → (∀ i, i < k → ¬ kwL.getD i 0 = cdL T len p 0) → bk_g V d 161 B Q 2 [some (.ref y), some (.int (nI p)), some (.int (nI len)), some (.int (nI k)), x4, x5] [] h n cs := by
  obtain ⟨tp, ht, ht2⟩ := hM.mb.tp
  have hT2 := hM.mb.T2
  intro c
  induction c with
  | zero =>
    intro k x4 x5 hk hno
    refine bg_iload3 rfl ?_
    refine bg_getstatic rfl ?_
    refine bg_alen_w rfl ?_
    refine bg_icmp_ge rfl (fun e7 => ?_) (fun e7 => absurd e7 (nI_nlt (b := 29) (by omega) (by omega)))
    refine bg_bipush rfl ?_
    refine bg_iret rfl rfl (by rfl) ?_
    refine bQ hQ (wK_no (ixL_no _ _ fun i hi => ?_))
    rw [kwL_len] at hi
    exact hno i (by omega)
  | succ c ih =>
    intro k x4 x5 hk hno
    have hk : k < 29 := by omega
    refine bg_iload3 rfl ?_
    refine bg_getstatic rfl ?_
    refine bg_alen_w rfl ?_
    refine bg_icmp_ge rfl (fun e7 => absurd (nI_lt (b := 29) hk (by decide)) e7) (fun e7 => ?_)
    refine bg_getstatic rfl ?_
    refine bg_iload3 rfl ?_
    refine bg_aaload rfl (vp_in_nI hk (by decide)) ?_
    rw [nI_clamp (by omega)]
    refine bg_strlen (k := bk_wd k) rfl rfl rfl (by show k + 2 < 31; omega) rfl ?_
    refine bg_iload2 rfl ?_
    refine bg_icmp_ne rfl (fun e19 => ?_) (fun e19 => ?_)
    · have hnot : ¬ wEq T p len k := fun q => e19 (by show nI _ = _; rw [q.1])
      refine bg_iconst rfl ?_
      refine bg_istore4 rfl rfl ?_
      refine bg_iconst rfl ?_
      refine bg_istore5 rfl rfl ?_
      first
        | refine mt_wordI hM hk hp hL (fun hall => ?_) (fun hex x5 => ?_) len 0 (Nat.zero_add _) (fun j hj => absurd hj (Nat.not_lt_zero j))
          · refine bg_iload4 rfl ?_
            refine bg_if_eq rfl (fun e80 => absurd e80 (by decide)) (fun e80 => ?_)
            refine bg_iload3 rfl ?_
            refine bg_iret rfl rfl (by rfl) ?_
            refine bQ hQ (wK_at hk ((ixL_at kwL k 0 hno (by rw [kwL_len]; exact hk) ((wEq_iff hk hl hv).mp ⟨hL, hall⟩)).trans (by rw [Nat.zero_add])))
          · have hnot : ¬ wEq T p len k := fun q => by
              obtain ⟨i, i1, i2⟩ := hex
              exact i2 (q.2 i i1)
            refine bg_iload4 rfl ?_
            refine bg_if_eq rfl (fun e80 => ?_) (fun e80 => absurd rfl e80)
            refine bg_iinc3 rfl rfl ?_
            rw [nI_1]
            refine bg_goto rfl ?_
            exact ih (k + 1) _ _ (by omega) (fun i hi => by
              by_cases z : i = k
              · subst z
                exact fun q => hnot ((wEq_iff hk hl hv).mpr q)
              · exact hno i (by omega))
        | refine bg_iload4 rfl ?_
          refine bg_if_eq rfl (fun e34 => ?_) (fun e34 => absurd rfl e34)
          refine bg_iload4 rfl ?_
          refine bg_if_eq rfl (fun e80 => ?_) (fun e80 => absurd rfl e80)
          refine bg_iinc3 rfl rfl ?_
          rw [nI_1]
          refine bg_goto rfl ?_
          exact ih (k + 1) _ _ (by omega) (fun i hi => by
            by_cases z : i = k
            · subst z
              exact fun q => hnot ((wEq_iff hk hl hv).mpr q)
            · exact hno i (by omega))
    · have hL : (bk_sB (bk_wd k)).length = len := (nI_eq (by have := (kw_f k hk).2.1; omega) (by omega)).mp e19
      refine bg_iconst rfl ?_
      refine bg_goto rfl ?_
      refine bg_istore4 rfl rfl ?_
      refine bg_iconst rfl ?_
      refine bg_istore5 rfl rfl ?_
      first
        | refine mt_wordI hM hk hp hL (fun hall => ?_) (fun hex x5 => ?_) len 0 (Nat.zero_add _) (fun j hj => absurd hj (Nat.not_lt_zero j))
          · refine bg_iload4 rfl ?_
            refine bg_if_eq rfl (fun e80 => absurd e80 (by decide)) (fun e80 => ?_)
            refine bg_iload3 rfl ?_
            refine bg_iret rfl rfl (by rfl) ?_
            refine bQ hQ (wK_at hk ((ixL_at kwL k 0 hno (by rw [kwL_len]; exact hk) ((wEq_iff hk hl hv).mp ⟨hL, hall⟩)).trans (by rw [Nat.zero_add])))
          · have hnot : ¬ wEq T p len k := fun q => by
              obtain ⟨i, i1, i2⟩ := hex
              exact i2 (q.2 i i1)
            refine bg_iload4 rfl ?_
            refine bg_if_eq rfl (fun e80 => ?_) (fun e80 => absurd rfl e80)
            refine bg_iinc3 rfl rfl ?_
            rw [nI_1]
            refine bg_goto rfl ?_
            exact ih (k + 1) _ _ (by omega) (fun i hi => by
              by_cases z : i = k
              · subst z
                exact fun q => hnot ((wEq_iff hk hl hv).mpr q)
              · exact hno i (by omega))
        | refine bg_iload4 rfl ?_
          refine bg_if_eq rfl (fun e34 => ?_) (fun e34 => absurd rfl e34)
          refine bg_iload4 rfl ?_
          refine bg_if_eq rfl (fun e80 => ?_) (fun e80 => absurd rfl e80)
          refine bg_iinc3 rfl rfl ?_
          rw [nI_1]
          refine bg_goto rfl ?_
          exact ih (k + 1) _ _ (by omega) (fun i hi => by
            by_cases z : i = k
            · subst z
              exact fun q => hnot ((wEq_iff hk hl hv).mpr q)
            · exact hno i (by omega))

theorem mt_word {p len : Nat} (hM : MT h0 h y u v T P S K C J F K2 C2) (hp : p + len ≤ T.length) (hl : len ≤ 10) (hv : ∀ i, i < len → ∃ w, bA T (p + i) = nI w ∧ vb w) (hQ : Q (.inl (some (.int (wK (kwF (cdL T len p 0)))))) h n) : bk_wp V (d + 1) 161 [.ref y, .int (nI p), .int (nI len)] h n B Q := by
  refine bg_in rfl rfl ?_
  refine bg_iconst rfl ?_
  refine bg_istore3 rfl rfl ?_
  exact mt_wordL hM hp hl hv hQ 29 0 _ _ rfl (fun i hi => absurd hi (Nat.not_lt_zero i))
end MM
