/-! TABLES: rows of numbers, as the class Table holds them. Printed by wip/whole/mk21.py. -/
abbrev bT : Type := List (List Int32)
def tg (t : bT) (r c : Nat) : Int32 := (t.getD r []).getD c 0
/-- reading and writing at a row that may be none -/
def rG (t : bT) (x : Int32) (c : Nat) : Int32 := if x < 0 then 0 else tg t x.toNatClampNeg c
def tS (t : bT) (r c : Nat) (v : Int32) : bT := t.set r ((t.getD r []).set c v)
def rS (t : bT) (x : Int32) (c : Nat) (v : Int32) : bT := if x < 0 then t else tS t x.toNatClampNeg c v
def tC (t : bT) (c : Nat) (v : Int32) : Nat := t.countP (fun q => decide (q.getD c 0 = v))
def TB (h : bk_H) (a w r : Nat) (t : bT) : Prop :=
  h a = some (.inr (7, [.int (nI w), .int (nI r), .ref (a + 1), .int (nI t.length)])) ∧
  (∃ f : Nat → Int32, h (a + 1) = some (.inl (0, w * r, .inl f)) ∧ ∀ i k, i < t.length → k < w → f (i * w + k) = tg t i k) ∧
  t.length ≤ r ∧ (∀ q ∈ t, q.length = w) ∧ (0 < w ∧ w ≤ 7 ∧ r ≤ 401)
/-- nothing between lo and hi but there has changed -/
def fr (h h' : bk_H) (lo hi : Nat) : Prop := ∀ q, q < lo ∨ hi ≤ q → h' q = h q
theorem fr.refl {h : bk_H} {lo hi : Nat} : fr h h lo hi := fun _ _ => rfl
theorem fr.trans {h h1 h2 : bk_H} {lo hi : Nat} (a : fr h h1 lo hi) (b : fr h1 h2 lo hi) : fr h h2 lo hi := fun q hq => (b q hq).trans (a q hq)
theorem fr.wide {h h1 : bk_H} {lo hi lo' hi' : Nat} (a : fr h h1 lo hi) (w1 : lo' ≤ lo) (w2 : hi ≤ hi') : fr h h1 lo' hi' := fun q hq => a q (by omega)
theorem fr.one {h h1 : bk_H} {a : Nat} (g : ∀ q, q ≠ a → h1 q = h q) : fr h h1 a (a + 1) := fun q hq => g q (by omega)
theorem TB.o {h : bk_H} {a w r : Nat} {t : bT} (q : TB h a w r t) : ∃ fs : List Value, h a = some (.inr (7, fs)) := ⟨_, q.1⟩
theorem TB.kp {h h' : bk_H} {a w r lo hi : Nat} {t : bT} (q : TB h a w r t) (g : fr h h' lo hi) (hd : a + 1 < lo ∨ hi ≤ a) : TB h' a w r t := by
  obtain ⟨h1, ⟨f, h2, h3⟩, h4, h5, h6⟩ := q
  exact ⟨(g a (by omega)).trans h1, ⟨f, (g (a + 1) (by omega)).trans h2, h3⟩, h4, h5, h6⟩
theorem bt_mul {i s w : Nat} (h : i < s) : i * w + w ≤ s * w := by
  have := Nat.mul_le_mul_right w h
  rw [Nat.succ_mul] at this
  exact this
theorem bt_ix {i s r w k : Nat} (hi : i < s) (hs : s ≤ r) (hw : w ≤ 7) (hr : r ≤ 401) (hk : k < w) : i * w + k < w * r ∧ i * w + k < 2 ^ 31 ∧ w * r < 2 ^ 31 := by
  have h1 := bt_mul (w := w) hi
  have h2 : s * w ≤ r * w := Nat.mul_le_mul_right w hs
  have h3 : r * w ≤ 401 * 7 := Nat.mul_le_mul hr hw
  rw [Nat.mul_comm w r]
  omega
theorem rG_nI {t : bT} {i c : Nat} (h : i < 2 ^ 31) : rG t (nI i) c = tg t i c := by
  unfold rG
  rw [if_neg (nI_pos h), nI_clamp h]
theorem gD_lt {α : Type} {l : List α} {i : Nat} {x : α} (h : i < l.length) : l.getD i x = l[i] := by
  rw [List.getD_eq_getElem?_getD, List.getElem?_eq_getElem h]
  rfl
theorem gD_ge {α : Type} {l : List α} {i : Nat} {x : α} (h : l.length ≤ i) : l.getD i x = x := by
  rw [List.getD_eq_getElem?_getD, List.getElem?_eq_none h]
  rfl
theorem tg_row {t : bT} {i : Nat} (h : t.length ≤ i) (c : Nat) : tg t i c = 0 := by
  unfold tg
  rw [gD_ge h]
  rfl
theorem tg_col {t : bT} {w c : Nat} (hw : ∀ q ∈ t, q.length = w) (i : Nat) (hc : w ≤ c) : tg t i c = 0 := by
  unfold tg
  by_cases hi : i < t.length
  · rw [gD_lt hi, gD_ge (by rw [hw _ (List.getElem_mem hi)]; exact hc)]
  · rw [gD_ge (l := t) (by omega)]
    rfl
theorem rG_out {t : bT} {x : Int32} {w c n : Nat} (hn : t.length = n) (hl : n < 2 ^ 31) (hw : ∀ q ∈ t, q.length = w) (h : x < 0 ∨ ¬ x < nI n ∨ w ≤ c) : rG t x c = 0 := by
  unfold rG
  split
  · rfl
  · rename_i h0
    rcases h with h | h | h
    · exact absurd h h0
    · obtain ⟨j, hj, rfl⟩ := nI_of h0
      rw [nI_clamp hj]
      refine tg_row ?_ c
      rw [hn]
      exact Nat.le_of_not_lt fun q => h (nI_lt q hl)
    · exact tg_col hw _ h
theorem rS_out {t : bT} {x : Int32} {w c n : Nat} {v : Int32} (hn : t.length = n) (hl : n < 2 ^ 31) (hw : ∀ q ∈ t, q.length = w) (h : x < 0 ∨ ¬ x < nI n ∨ w ≤ c) : rS t x c v = t := by
  unfold rS
  split
  · rfl
  · rename_i h0
    unfold tS
    rcases h with h | h | h
    · exact absurd h h0
    · obtain ⟨j, hj, rfl⟩ := nI_of h0
      rw [nI_clamp hj]
      refine List.set_eq_of_length_le ?_
      rw [hn]
      exact Nat.le_of_not_lt fun q => h (nI_lt q hl)
    · by_cases hi : x.toNatClampNeg < t.length
      · rw [gD_lt hi, List.set_eq_of_length_le (l := t[x.toNatClampNeg]) (by rw [hw _ (List.getElem_mem hi)]; exact h), List.set_getElem_self]
      · exact List.set_eq_of_length_le (by omega)
theorem tS_len {t : bT} {r c : Nat} {v : Int32} : (tS t r c v).length = t.length := by
  unfold tS
  rw [List.length_set]
theorem rS_len {t : bT} {x : Int32} {c : Nat} {v : Int32} : (rS t x c v).length = t.length := by
  unfold rS
  split
  · rfl
  · exact tS_len
theorem tS_w {t : bT} {r c w : Nat} {v : Int32} (hw : ∀ q ∈ t, q.length = w) : ∀ q ∈ tS t r c v, q.length = w := by
  intro q hq
  unfold tS at hq
  by_cases hi : r < t.length
  · rcases List.mem_or_eq_of_mem_set hq with h | h
    · exact hw q h
    · rw [h, List.length_set, gD_lt hi]
      exact hw _ (List.getElem_mem hi)
  · rw [List.set_eq_of_length_le (by omega)] at hq
    exact hw q hq
theorem tg_tS {t : bT} {r c i k w : Nat} {v : Int32} (hw : ∀ q ∈ t, q.length = w) (hr : r < t.length) (hc : c < w) : tg (tS t r c v) i k = if i = r ∧ k = c then v else tg t i k := by
  have hrow : (t.getD r []).length = w := by
    rw [gD_lt hr]
    exact hw _ (List.getElem_mem hr)
  unfold tg tS
  by_cases h1 : i = r
  · subst h1
    have e : (t.set i ((t.getD i []).set c v)).getD i [] = (t.getD i []).set c v := by
      rw [gD_lt (by rw [List.length_set]; exact hr), List.getElem_set_self]
    rw [e]
    by_cases h2 : k = c
    · subst h2
      rw [if_pos ⟨rfl, rfl⟩, gD_lt (by rw [List.length_set, hrow]; exact hc), List.getElem_set_self]
    · rw [if_neg (fun q => h2 q.2), List.getD_eq_getElem?_getD, List.getElem?_set_ne (fun q => h2 q.symm), ← List.getD_eq_getElem?_getD]
  · rw [if_neg (fun q => h1 q.1), List.getD_eq_getElem?_getD (l := t.set _ _), List.getElem?_set_ne (fun q => h1 q.symm), ← List.getD_eq_getElem?_getD]
section BT
variable {V : bk_V} {d n : Nat} {B : Nat × Nat} {Q : bk_R → bk_H → Nat → Prop} {h : bk_H} {a w r : Nat} {t : bT}
theorem bt_size (hT : TB h a w r t) (hQ : Q (.inl (some (.int (nI t.length)))) h n) : bk_wp V (d + 1) 63 [.ref a] h n B Q := by
  obtain ⟨h1, ⟨f, h2, h3⟩, h4, h5, h6, h7, h8⟩ := hT
  refine bg_in rfl rfl ?_
  refine bg_aload0 rfl ?_
  refine bg_getfield rfl rfl (by assumption) (by rfl) ?_
  refine bg_iret rfl rfl (by rfl) ?_
  assumption
theorem bt_isFull (hT : TB h a w r t) (hQ : Q (.inl (some (.int (if r ≤ t.length then 1 else 0)))) h n) : bk_wp V (d + 1) 64 [.ref a] h n B Q := by
  obtain ⟨h1, ⟨f, h2, h3⟩, h4, h5, h6, h7, h8⟩ := hT
  refine bg_in rfl rfl ?_
  refine bg_aload0 rfl ?_
  refine bg_getfield rfl rfl (by assumption) (by rfl) ?_
  refine bg_aload0 rfl ?_
  refine bg_getfield rfl rfl (by assumption) (by rfl) ?_
  refine bg_icmp_lt rfl (fun e8 => ?_) (fun e8 => ?_)
  · rw [if_neg (fun q => nI_nlt q (by omega) e8)] at hQ
    refine bg_iconst rfl ?_
    refine bg_iret rfl rfl (by rfl) ?_
    assumption
  · rw [if_pos (Nat.le_of_not_lt fun q => e8 (nI_lt q (by omega)))] at hQ
    refine bg_iconst rfl ?_
    refine bg_goto rfl ?_
    refine bg_iret rfl rfl (by rfl) ?_
    assumption
theorem bt_has {x : Int32} (hT : TB h a w r t) (hQ : Q (.inl (some (.int (if ¬ x < 0 ∧ x < nI t.length then 1 else 0)))) h n) : bk_wp V (d + 1) 65 [.ref a, .int x] h n B Q := by
  obtain ⟨h1, ⟨f, h2, h3⟩, h4, h5, h6, h7, h8⟩ := hT
  refine bg_in rfl rfl ?_
  refine bg_iload1 rfl ?_
  refine bg_if_lt rfl (fun e1 => ?_) (fun e1 => ?_)
  · rw [if_neg (fun q => q.1 e1)] at hQ
    refine bg_iconst rfl ?_
    refine bg_iret rfl rfl (by rfl) ?_
    assumption
  · refine bg_iload1 rfl ?_
    refine bg_aload0 rfl ?_
    refine bg_getfield rfl rfl (by assumption) (by rfl) ?_
    refine bg_icmp_ge rfl (fun e9 => ?_) (fun e9 => ?_)
    · rw [if_neg (fun q => e9 q.2)] at hQ
      refine bg_iconst rfl ?_
      refine bg_iret rfl rfl (by rfl) ?_
      assumption
    · rw [if_pos ⟨e1, e9⟩] at hQ
      refine bg_iconst rfl ?_
      refine bg_goto rfl ?_
      refine bg_iret rfl rfl (by rfl) ?_
      assumption
theorem bt_clear (hT : TB h a w r t) (hQ : ∀ h', TB h' a w r [] → fr h h' a (a + 2) → Q (.inl none) h' n) : bk_wp V (d + 1) 66 [.ref a] h n B Q := by
  obtain ⟨h1, ⟨f, h2, h3⟩, h4, h5, h6, h7, h8⟩ := hT
  refine bg_in rfl rfl ?_
  have h2' := h2
  refine bg_aload0 rfl ?_
  refine bg_iconst rfl ?_
  refine bg_putfield rfl rfl (by assumption) (by rfl) ⟨rfl, rfl⟩ (by rfl) (fun h2 f2 g2 => ?_)
  refine bg_ret rfl rfl ?_
  exact hQ h2 ⟨f2, ⟨f, (g2 _ (by omega)).trans h2', fun i k q => absurd q (by simp)⟩, Nat.zero_le _, fun q hq => absurd hq (by simp), h6, h7, h8⟩ (fun q hq => g2 q (by omega))
theorem bt_get {x y : Int32} {c : Nat} (hT : TB h a w r t) (hy : y = nI c) (hc : c < 2 ^ 31) (hQ : Q (.inl (some (.int (rG t x c)))) h n) : bk_wp V (d + 1) 68 [.ref a, .int x, .int y] h n B Q := by
  obtain ⟨h1, ⟨f, h2, h3⟩, h4, h5, h6, h7, h8⟩ := hT
  subst hy
  refine bg_in rfl rfl ?_
  refine bg_iload1 rfl ?_
  refine bg_if_lt rfl (fun e1 => ?_) (fun e1 => ?_)
  · refine bg_iconst rfl ?_
    refine bg_iret rfl rfl (by rfl) ?_
    rw [rG_out rfl (by omega) h5 (by first | exact Or.inl ‹_› | exact Or.inr (Or.inl ‹_›) | exact Or.inr (Or.inr (Nat.le_of_not_lt fun q => e21 (nI_lt q (by omega)))))] at hQ
    exact hQ
  · refine bg_iload1 rfl ?_
    refine bg_aload0 rfl ?_
    refine bg_getfield rfl rfl (by assumption) (by rfl) ?_
    refine bg_icmp_ge rfl (fun e9 => ?_) (fun e9 => ?_)
    · refine bg_iconst rfl ?_
      refine bg_iret rfl rfl (by rfl) ?_
      rw [rG_out rfl (by omega) h5 (by first | exact Or.inl ‹_› | exact Or.inr (Or.inl ‹_›) | exact Or.inr (Or.inr (Nat.le_of_not_lt fun q => e21 (nI_lt q (by omega)))))] at hQ
      exact hQ
    · refine bg_iload2 rfl ?_
      refine bg_if_lt rfl (fun e13 => absurd e13 (nI_pos hc)) (fun e13 => ?_)
      refine bg_iload2 rfl ?_
      refine bg_aload0 rfl ?_
      refine bg_getfield rfl rfl (by assumption) (by rfl) ?_
      refine bg_icmp_lt rfl (fun e21 => ?_) (fun e21 => ?_)
      · obtain ⟨i, hi31, rfl⟩ := nI_of e1
        have hi : i < t.length := (nI_ltI hi31 (by omega)).mp e9
        have hk : c < w := (nI_ltI hc (by omega)).mp e21
        obtain ⟨z1, z2, z3⟩ := bt_ix hi h4 h7 h8 hk
        refine bg_iload1 rfl ?_
        refine bg_aload0 rfl ?_
        refine bg_getfield rfl rfl (by assumption) (by rfl) ?_
        refine bg_imul rfl ?_
        refine bg_iload2 rfl ?_
        refine bg_iadd rfl ?_
        rw [pk_mul, nI_add]
        refine bg_istore3 rfl rfl ?_
        refine bg_iload3 rfl ?_
        refine bg_if_lt rfl (fun e36 => absurd e36 (nI_pos z2)) (fun e36 => ?_)
        refine bg_iload3 rfl ?_
        refine bg_aload0 rfl ?_
        refine bg_getfield rfl rfl (by assumption) (by rfl) ?_
        refine bg_alen rfl (by assumption) (by decide) ?_
        refine bg_icmp_ge rfl (fun e45 => absurd (nI_lt z1 z3) e45) (fun e45 => ?_)
        refine bg_aload0 rfl ?_
        refine bg_getfield rfl rfl (by assumption) (by rfl) ?_
        refine bg_iload3 rfl ?_
        refine bg_iaload_n rfl h2 z3 z1 ?_
        rw [h3 i c hi hk]
        rw [rG_nI hi31] at hQ
        refine bg_goto rfl ?_
        refine bg_iret rfl rfl (by rfl) ?_
        assumption
      · refine bg_iconst rfl ?_
        refine bg_iret rfl rfl (by rfl) ?_
        rw [rG_out rfl (by omega) h5 (by first | exact Or.inl ‹_› | exact Or.inr (Or.inl ‹_›) | exact Or.inr (Or.inr (Nat.le_of_not_lt fun q => e21 (nI_lt q (by omega)))))] at hQ
        exact hQ
theorem bt_set {x y v : Int32} {c : Nat} (hT : TB h a w r t) (hy : y = nI c) (hc : c < 2 ^ 31) (hQ : ∀ h', TB h' a w r (rS t x c v) → fr h h' a (a + 2) → Q (.inl none) h' n) : bk_wp V (d + 1) 69 [.ref a, .int x, .int y, .int v] h n B Q := by
  have hQ0 : ∀ h', TB h' a w r (rS t x c v) → fr h h' a (a + 2) → Q (.inl none) h' n := hQ
  have hT0 := hT
  obtain ⟨h1, ⟨f, h2, h3⟩, h4, h5, h6, h7, h8⟩ := hT
  subst hy
  refine bg_in rfl rfl ?_
  refine bg_iload1 rfl ?_
  refine bg_if_lt rfl (fun e1 => ?_) (fun e1 => ?_)
  · refine bg_ret rfl rfl ?_
    refine hQ h ?_ fr.refl
    rw [rS_out rfl (by omega) h5 (by first | exact Or.inl ‹_› | exact Or.inr (Or.inl ‹_›) | exact Or.inr (Or.inr (Nat.le_of_not_lt fun q => e21 (nI_lt q (by omega)))))]
    exact hT0
  · refine bg_iload1 rfl ?_
    refine bg_aload0 rfl ?_
    refine bg_getfield rfl rfl (by assumption) (by rfl) ?_
    refine bg_icmp_ge rfl (fun e9 => ?_) (fun e9 => ?_)
    · refine bg_ret rfl rfl ?_
      refine hQ h ?_ fr.refl
      rw [rS_out rfl (by omega) h5 (by first | exact Or.inl ‹_› | exact Or.inr (Or.inl ‹_›) | exact Or.inr (Or.inr (Nat.le_of_not_lt fun q => e21 (nI_lt q (by omega)))))]
      exact hT0
    · refine bg_iload2 rfl ?_
      refine bg_if_lt rfl (fun e13 => absurd e13 (nI_pos hc)) (fun e13 => ?_)
      refine bg_iload2 rfl ?_
      refine bg_aload0 rfl ?_
      refine bg_getfield rfl rfl (by assumption) (by rfl) ?_
      refine bg_icmp_lt rfl (fun e21 => ?_) (fun e21 => ?_)
      · obtain ⟨i, hi31, rfl⟩ := nI_of e1
        have hi : i < t.length := (nI_ltI hi31 (by omega)).mp e9
        have hk : c < w := (nI_ltI hc (by omega)).mp e21
        obtain ⟨z1, z2, z3⟩ := bt_ix hi h4 h7 h8 hk
        refine bg_iload1 rfl ?_
        refine bg_aload0 rfl ?_
        refine bg_getfield rfl rfl (by assumption) (by rfl) ?_
        refine bg_imul rfl ?_
        refine bg_iload2 rfl ?_
        refine bg_iadd rfl ?_
        rw [pk_mul, nI_add]
        refine bg_istore4 rfl rfl ?_
        refine bg_iload4 rfl ?_
        refine bg_if_lt rfl (fun e37 => absurd e37 (nI_pos z2)) (fun e37 => ?_)
        refine bg_iload4 rfl ?_
        refine bg_aload0 rfl ?_
        refine bg_getfield rfl rfl (by assumption) (by rfl) ?_
        refine bg_alen rfl (by assumption) (by decide) ?_
        refine bg_icmp_ge rfl (fun e47 => absurd (nI_lt z1 z3) e47) (fun e47 => ?_)
        refine bg_aload0 rfl ?_
        refine bg_getfield rfl rfl (by assumption) (by rfl) ?_
        refine bg_iload4 rfl ?_
        refine bg_iload3 rfl ?_
        refine bg_iastore_n rfl h2 z3 z1 (fun h57 f57 g57 => ?_)
        refine bg_ret rfl rfl ?_
        have e0 : rS t (nI i) c v = tS t i c v := by
          unfold rS
          rw [if_neg (nI_pos hi31), nI_clamp hi31]
        refine hQ h57 ?_ (fun q hq => g57 q (by omega))
        rw [e0]
        refine ⟨?_, ⟨_, f57, fun i' k' hi' hk' => ?_⟩, by rw [tS_len]; exact h4, tS_w h5, h6, h7, h8⟩
        · rw [tS_len, g57 _ (by omega)]
          exact h1
        · rw [tS_len] at hi'
          rw [tg_tS h5 hi hk]
          by_cases hq : i' = i ∧ k' = c
          · rw [if_pos hq, hq.1, hq.2, pk_us]
          · rw [if_neg hq, pk_un, h3 i' k' hi' hk']
            intro hq2
            apply hq
            rcases Nat.lt_trichotomy i' i with hl | hl | hl
            · have := bt_mul (w := w) hl
              omega
            · subst hl
              exact ⟨rfl, by omega⟩
            · have := bt_mul (w := w) hl
              omega
      · refine bg_ret rfl rfl ?_
        refine hQ h ?_ fr.refl
        rw [rS_out rfl (by omega) h5 (by first | exact Or.inl ‹_› | exact Or.inr (Or.inl ‹_›) | exact Or.inr (Or.inr (Nat.le_of_not_lt fun q => e21 (nI_lt q (by omega)))))]
        exact hT0
theorem tC_y {t : bT} {i c : Nat} {v : Int32} (hi : i < t.length) (e : tg t i c = v) : tC (t.take (i + 1)) c v = tC (t.take i) c v + 1 := by
  unfold tC
  rw [List.take_succ_eq_append_getElem hi, List.countP_append, List.countP_cons, List.countP_nil]
  unfold tg at e
  rw [gD_lt hi] at e
  rw [if_pos (decide_eq_true e)]
theorem tC_n {t : bT} {i c : Nat} {v : Int32} (hi : i < t.length) (e : ¬ tg t i c = v) : tC (t.take (i + 1)) c v = tC (t.take i) c v := by
  unfold tC
  rw [List.take_succ_eq_append_getElem hi, List.countP_append, List.countP_cons, List.countP_nil]
  unfold tg at e
  rw [gD_lt hi] at e
  rw [if_neg (fun q => e (of_decide_eq_true q)), Nat.zero_add, Nat.add_zero]
theorem bt_countL {c d n : Nat} {v : Int32} {cs : Nat × Nat} (hc : c < w) (hT : TB h a w r t) (hQ : Q (.inl (some (.int (nI (tC t c v))))) h n) : ∀ k i, i + k = t.length → ∀ x5, bk_g V d 71 B Q 17 [some (.ref a), some (.int (nI c)), some (.int v), some (.int (nI (tC (t.take i) c v))), some (.int (nI i)), x5] [] h n cs := by
  obtain ⟨h1, ⟨f, h2, h3⟩, h4, h5, h6, h7, h8⟩ := hT
  intro k
  induction k with
  | zero =>
    intro i hi x5
    refine bg_iload4 rfl ?_
    refine bg_aload0 rfl ?_
    refine bg_getfield rfl rfl (by assumption) (by rfl) ?_
    refine bg_icmp_ge rfl (fun e23 => ?_) (fun e23 => absurd e23 (nI_nlt (by omega) (by omega)))
    have e0 : t.take i = t := List.take_of_length_le (by omega)
    rw [e0]
    refine bg_iload3 rfl ?_
    refine bg_iret rfl rfl (by rfl) ?_
    assumption
  | succ k ih =>
    intro i hi0 x5
    have hi : i < t.length := by omega
    obtain ⟨z1, z2, z3⟩ := bt_ix hi h4 h7 h8 hc
    refine bg_iload4 rfl ?_
    refine bg_aload0 rfl ?_
    refine bg_getfield rfl rfl (by assumption) (by rfl) ?_
    refine bg_icmp_ge rfl (fun e23 => absurd (nI_lt hi (by omega)) e23) (fun e23 => ?_)
    refine bg_iload4 rfl ?_
    refine bg_aload0 rfl ?_
    refine bg_getfield rfl rfl (by assumption) (by rfl) ?_
    refine bg_imul rfl ?_
    refine bg_iload1 rfl ?_
    refine bg_iadd rfl ?_
    rw [pk_mul, nI_add]
    refine bg_istore5 rfl rfl ?_
    refine bg_iload5 rfl ?_
    refine bg_if_lt rfl (fun e39 => absurd e39 (nI_pos z2)) (fun e39 => ?_)
    refine bg_iload5 rfl ?_
    refine bg_aload0 rfl ?_
    refine bg_getfield rfl rfl (by assumption) (by rfl) ?_
    refine bg_alen rfl (by assumption) (by decide) ?_
    refine bg_icmp_ge rfl (fun e49 => absurd (nI_lt z1 z3) e49) (fun e49 => ?_)
    refine bg_aload0 rfl ?_
    refine bg_getfield rfl rfl (by assumption) (by rfl) ?_
    refine bg_iload5 rfl ?_
    refine bg_iaload_n rfl h2 z3 z1 ?_
    rw [h3 i c hi hc]
    refine bg_iload2 rfl ?_
    refine bg_icmp_ne rfl (fun e60 => ?_) (fun e60 => ?_)
    · rw [← tC_n hi e60]
      refine bg_iinc4 rfl rfl ?_
      rw [nI_1]
      refine bg_goto rfl ?_
      exact ih (i + 1) (by omega) _
    · refine bg_iinc3 rfl rfl ?_
      rw [nI_1, ← tC_y hi e60]
      refine bg_iinc4 rfl rfl ?_
      rw [nI_1]
      refine bg_goto rfl ?_
      exact ih (i + 1) (by omega) _

theorem bt_countOf {c : Nat} {x v : Int32} (hT : TB h a w r t) (hx : x = nI c) (hc : c < w) (hQ : Q (.inl (some (.int (nI (tC t c v))))) h n) : bk_wp V (d + 1) 71 [.ref a, .int x, .int v] h n B Q := by
  have hT0 := hT
  obtain ⟨h1, ⟨f, h2, h3⟩, h4, h5, h6, h7, h8⟩ := hT
  subst hx
  refine bg_in rfl rfl ?_
  refine bg_iconst rfl ?_
  refine bg_istore3 rfl rfl ?_
  refine bg_iload1 rfl ?_
  refine bg_if_lt rfl (fun e3 => absurd e3 (nI_pos (by omega))) (fun e3 => ?_)
  refine bg_iload1 rfl ?_
  refine bg_aload0 rfl ?_
  refine bg_getfield rfl rfl (by assumption) (by rfl) ?_
  refine bg_icmp_ge rfl (fun e11 => absurd (nI_lt hc (by omega)) e11) (fun e11 => ?_)
  refine bg_iconst rfl ?_
  refine bg_istore4 rfl rfl ?_
  exact bt_countL hc hT0 hQ t.length 0 (by omega) _
theorem bt_addL {w r s d n : Nat} {cs : Nat × Nat} (hs : s + 1 ≤ r) (hw : w ≤ 7) (hr : r ≤ 401) : ∀ (k p : Nat) (h : bk_H) (f : Nat → Int32), p + k = (s + 1) * w → h a = some (.inr (7, [.int (nI w), .int (nI r), .ref (a + 1), .int (nI (s + 1))])) → h (a + 1) = some (.inl (0, w * r, .inl f)) →
    (∀ (h' : bk_H) (f' : Nat → Int32), h' (a + 1) = some (.inl (0, w * r, .inl f')) → (∀ q, q ≠ a + 1 → h' q = h q) → (∀ q, f' q = if p ≤ q ∧ q < (s + 1) * w then 0 else f q) → Q (.inl (some (.int (nI s)))) h' n) → bk_g V d 67 B Q 35 [some (.ref a), some (.int (nI s)), some (.int (nI p))] [] h n cs := by
  have z0 : (s + 1) * w ≤ w * r := by
    rw [Nat.mul_comm w r]
    exact Nat.mul_le_mul_right w hs
  have z1 : w * r ≤ 7 * 401 := Nat.mul_le_mul hw hr
  intro k
  induction k with
  | zero =>
    intro p h f hp h1 h2 hQ
    refine bg_iload2 rfl ?_
    refine bg_if_lt rfl (fun e36 => absurd e36 (nI_pos (by omega))) (fun e36 => ?_)
    refine bg_iload2 rfl ?_
    refine bg_aload0 rfl ?_
    refine bg_getfield rfl rfl (by assumption) (by rfl) ?_
    refine bg_aload0 rfl ?_
    refine bg_getfield rfl rfl (by assumption) (by rfl) ?_
    refine bg_imul rfl ?_
    rw [pk_mul]
    refine bg_icmp_ge rfl (fun e49 => ?_) (fun e49 => absurd e49 (nI_nlt (by omega) (by omega)))
    refine bg_iload1 rfl ?_
    refine bg_iret rfl rfl (by rfl) ?_
    exact hQ h f h2 (fun _ _ => rfl) (fun q => by rw [if_neg (by omega)])
  | succ k ih =>
    intro p h f hp h1 h2 hQ
    refine bg_iload2 rfl ?_
    refine bg_if_lt rfl (fun e36 => absurd e36 (nI_pos (by omega))) (fun e36 => ?_)
    refine bg_iload2 rfl ?_
    refine bg_aload0 rfl ?_
    refine bg_getfield rfl rfl (by assumption) (by rfl) ?_
    refine bg_aload0 rfl ?_
    refine bg_getfield rfl rfl (by assumption) (by rfl) ?_
    refine bg_imul rfl ?_
    rw [pk_mul]
    refine bg_icmp_ge rfl (fun e49 => absurd (nI_lt (by omega) (by omega)) e49) (fun e49 => ?_)
    refine bg_iload2 rfl ?_
    refine bg_aload0 rfl ?_
    refine bg_getfield rfl rfl (by assumption) (by rfl) ?_
    refine bg_alen rfl (by assumption) (by decide) ?_
    refine bg_icmp_ge rfl (fun e58 => absurd (nI_lt (by omega) (by omega)) e58) (fun e58 => ?_)
    refine bg_aload0 rfl ?_
    refine bg_getfield rfl rfl (by assumption) (by rfl) ?_
    refine bg_iload2 rfl ?_
    refine bg_iconst rfl ?_
    refine bg_iastore_n rfl h2 (by omega) (by omega) (fun h67 f67 g67 => ?_)
    refine bg_iinc2 rfl rfl ?_
    rw [nI_1]
    refine bg_goto rfl ?_
    refine ih (p + 1) h67 _ (by omega) ((g67 _ (by omega)).trans h1) f67 fun h' f' k1 k2 k3 => ?_
    refine hQ h' f' k1 (fun q hq => (k2 q hq).trans (g67 q hq)) fun q => ?_
    rw [k3 q]
    by_cases hq : q = p
    · subst hq
      rw [if_neg (by omega), if_pos (by omega), pk_us]
    · rw [pk_un hq]
      by_cases h9 : p ≤ q ∧ q < (s + 1) * w
      · rw [if_pos h9, if_pos (by omega)]
      · rw [if_neg h9, if_neg (by omega)]

theorem bt_add (hT : TB h a w r t) (h0 : ¬ t.length < r → Q (.inl (some (.int (-1)))) h n) (hQ : t.length < r → ∀ h', TB h' a w r (t ++ [List.replicate w 0]) → fr h h' a (a + 2) → Q (.inl (some (.int (nI t.length)))) h' n) : bk_wp V (d + 1) 67 [.ref a] h n B Q := by
  obtain ⟨h1, ⟨f, h2, h3⟩, h4, h5, h6, h7, h8⟩ := hT
  refine bg_in rfl rfl ?_
  refine bg_aload0 rfl ?_
  refine bg_getfield rfl rfl (by assumption) (by rfl) ?_
  refine bg_aload0 rfl ?_
  refine bg_getfield rfl rfl (by assumption) (by rfl) ?_
  refine bg_icmp_lt rfl (fun e8 => ?_) (fun e8 => ?_)
  · have hlt : t.length < r := (nI_ltI (by omega) (by omega)).mp e8
    have hQ := hQ hlt
    refine bg_aload0 rfl ?_
    refine bg_getfield rfl rfl (by assumption) (by rfl) ?_
    refine bg_istore1 rfl rfl ?_
    refine bg_aload0 rfl ?_
    refine bg_dup rfl rfl ?_
    refine bg_getfield rfl rfl (by assumption) (by rfl) ?_
    refine bg_iconst rfl ?_
    refine bg_iadd rfl ?_
    rw [nI_1]
    refine bg_putfield rfl rfl (by assumption) (by rfl) ⟨rfl, rfl⟩ (by rfl) (fun h25 f25 g25 => ?_)
    refine bg_iload1 rfl ?_
    refine bg_aload0 rfl ?_
    refine bg_getfield rfl rfl (by assumption) (by rfl) ?_
    refine bg_imul rfl ?_
    rw [pk_mul]
    refine bg_istore2 rfl rfl ?_
    refine bt_addL (by omega) h7 h8 w (t.length * w) h25 f (by rw [Nat.succ_mul]) f25 ((g25 _ (by omega)).trans h2) fun h' f' k1 k2 k3 => ?_
    refine hQ h' ⟨?_, ⟨f', k1, fun i k hi hk => ?_⟩, ?_, fun q hq => ?_, h6, h7, h8⟩ (fun q hq => (k2 q (by omega)).trans (g25 q (by omega)))
    · rw [k2 _ (by omega), f25, List.length_append]
      rfl
    · rw [List.length_append] at hi
      have hi : i < t.length + 1 := hi
      have hg : tg (t ++ [List.replicate w 0]) i k = if i < t.length then tg t i k else 0 := by
        unfold tg
        simp only [List.getD_eq_getElem?_getD, List.getElem?_append]
        split
        · rfl
        · rw [show i - t.length = 0 by omega]
          simp [List.getElem?_replicate, hk]
      rw [hg, k3]
      by_cases h9 : i < t.length
      · have := bt_mul (w := w) h9
        rw [if_neg (by omega), if_pos h9, h3 i k h9 hk]
      · rw [show i = t.length by omega, Nat.succ_mul, if_pos (by omega), if_neg (by omega)]
    · rw [List.length_append]
      exact hlt
    · rcases List.mem_append.mp hq with h | h
      · exact h5 q h
      · rw [List.mem_singleton.mp h, List.length_replicate]
  · have hQ0 := h0 fun q => e8 (nI_lt q (by omega))
    refine bg_iconst rfl ?_
    refine bg_iret rfl rfl (by rfl) ?_
    exact hQ0
theorem bt_remL {w r m d n e : Nat} {x1 : Option Value} {cs : Nat × Nat} (hm : m < 2 ^ 30) (hw : w ≤ 7) (he : e + w ≤ m) : ∀ (k p : Nat) (h : bk_H) (f : Nat → Int32), p + k = e → h a = some (.inr (7, [.int (nI w), .int (nI r), .ref (a + 1), .int (nI t.length)])) → h (a + 1) = some (.inl (0, m, .inl f)) →
    (∀ (h' : bk_H) (f' : Nat → Int32) x3, h' (a + 1) = some (.inl (0, m, .inl f')) → (∀ q, q ≠ a + 1 → h' q = h q) → (∀ q, f' q = if p ≤ q ∧ q < e then f (q + w) else f q) → bk_g V d 70 B Q 75 [some (.ref a), x1, some (.int (nI e)), x3] [] h' n cs) → bk_g V d 70 B Q 43 [some (.ref a), x1, some (.int (nI e)), some (.int (nI p))] [] h n cs := by
  intro k
  induction k with
  | zero =>
    intro p h f hp h1 h2 hQ
    refine bg_iload3 rfl ?_
    refine bg_if_lt rfl (fun e44 => absurd e44 (nI_pos (by omega))) (fun e44 => ?_)
    refine bg_iload3 rfl ?_
    refine bg_iload2 rfl ?_
    refine bg_icmp_ge rfl (fun e49 => ?_) (fun e49 => absurd e49 (nI_nlt (by omega) (by omega)))
    exact hQ h f _ h2 (fun _ _ => rfl) (fun q => by rw [if_neg (by omega)])
  | succ k ih =>
    intro p h f hp h1 h2 hQ
    refine bg_iload3 rfl ?_
    refine bg_if_lt rfl (fun e44 => absurd e44 (nI_pos (by omega))) (fun e44 => ?_)
    refine bg_iload3 rfl ?_
    refine bg_iload2 rfl ?_
    refine bg_icmp_ge rfl (fun e49 => absurd (nI_lt (by omega) (by omega)) e49) (fun e49 => ?_)
    refine bg_aload0 rfl ?_
    refine bg_getfield rfl rfl (by assumption) (by rfl) ?_
    refine bg_iload3 rfl ?_
    refine bg_aload0 rfl ?_
    refine bg_getfield rfl rfl (by assumption) (by rfl) ?_
    refine bg_iload3 rfl ?_
    refine bg_aload0 rfl ?_
    refine bg_getfield rfl rfl (by assumption) (by rfl) ?_
    refine bg_iadd rfl ?_
    rw [nI_add]
    refine bg_iaload_n rfl h2 (by omega) (by omega) ?_
    refine bg_iastore_n rfl h2 (by omega) (by omega) (fun h68 f68 g68 => ?_)
    refine bg_iinc3 rfl rfl ?_
    rw [nI_1]
    refine bg_goto rfl ?_
    refine ih (p + 1) h68 _ (by omega) ((g68 _ (by omega)).trans h1) f68 fun h' f' x3 k1 k2 k3 => ?_
    refine hQ h' f' x3 k1 (fun q hq => (k2 q hq).trans (g68 q hq)) fun q => ?_
    rw [k3 q]
    by_cases hq : q = p
    · subst hq
      rw [if_neg (by omega), if_pos (by omega), pk_us]
    · by_cases h9 : p ≤ q ∧ q < e
      · rw [if_pos h9, if_pos (by omega), pk_un (by omega)]
      · rw [if_neg h9, if_neg (by omega), pk_un hq]

theorem tg_erase {t : bT} {i j c : Nat} : tg (t.eraseIdx i) j c = tg t (if j < i then j else j + 1) c := by
  unfold tg
  simp only [List.getD_eq_getElem?_getD, List.getElem?_eraseIdx]
  split <;> rfl
def rE (t : bT) (x : Int32) : bT := if x < 0 then t else t.eraseIdx x.toNatClampNeg
theorem rE_nI {t : bT} {i : Nat} (h : i < 2 ^ 31) : rE t (nI i) = t.eraseIdx i := by
  unfold rE
  rw [if_neg (nI_pos h), nI_clamp h]
theorem bt_min {x y : Nat} (hx : x < 2 ^ 31) (hy : y < 2 ^ 31) : (if nI x ≤ nI y then nI x else nI y) = nI (min x y) := by
  by_cases h : x ≤ y
  · rw [if_pos (nI_le h hy), Nat.min_eq_left h]
  · rw [if_neg (nI_ge (by omega) hx), Nat.min_eq_right (by omega)]
theorem bt_max {x y : Nat} (hx : x < 2 ^ 31) (hy : y < 2 ^ 31) : (if nI x < nI y then nI y else nI x) = nI (max x y) := by
  by_cases h : x < y
  · rw [if_pos (nI_lt h hy), Nat.max_eq_right (by omega)]
  · rw [if_neg (nI_nlt (by omega) hx), Nat.max_eq_left (by omega)]
theorem bt_remove {x : Int32} (hT : TB h a w r t) (hQ : ∀ h', TB h' a w r (rE t x) → fr h h' a (a + 2) → Q (.inl none) h' n) : bk_wp V (d + 1) 70 [.ref a, .int x] h n B Q := by
  have hT0 := hT
  obtain ⟨h1, ⟨f, h2, h3⟩, h4, h5, h6, h7, h8⟩ := hT
  refine bg_in rfl rfl ?_
  refine bg_iload1 rfl ?_
  refine bg_if_lt rfl (fun e1 => ?_) (fun e1 => ?_)
  · have e0 : rE t x = t := by
      unfold rE
      rw [if_pos e1]
    refine bg_ret rfl rfl ?_
    exact hQ h (by rw [e0]; exact hT0) fr.refl
  · refine bg_iload1 rfl ?_
    refine bg_aload0 rfl ?_
    refine bg_getfield rfl rfl (by assumption) (by rfl) ?_
    refine bg_icmp_lt rfl (fun e9 => ?_) (fun e9 => ?_)
    · obtain ⟨i, hi31, rfl⟩ := nI_of e1
      have hi : i < t.length := (nI_ltI hi31 (by omega)).mp e9
      obtain ⟨z1, z2, z3⟩ := bt_ix hi h4 h7 h8 h6
      have z4 := bt_mul (w := w) hi
      have z5 : t.length * w ≤ w * r := by
        rw [Nat.mul_comm w r]
        exact Nat.mul_le_mul_right w h4
      have z6 : w * r ≤ 7 * 401 := Nat.mul_le_mul h7 h8
      refine bg_aload0 rfl ?_
      refine bg_getfield rfl rfl (by assumption) (by rfl) ?_
      refine bg_aload0 rfl ?_
      refine bg_getfield rfl rfl (by assumption) (by rfl) ?_
      refine bg_imul rfl ?_
      rw [pk_mul]
      refine bg_aload0 rfl ?_
      refine bg_getfield rfl rfl (by assumption) (by rfl) ?_
      refine bg_alen rfl (by assumption) (by decide) ?_
      refine bg_min rfl rfl rfl ?_
      rw [bt_min (by omega) z3, Nat.min_eq_left z5]
      refine bg_aload0 rfl ?_
      refine bg_getfield rfl rfl (by assumption) (by rfl) ?_
      refine bg_isub rfl ?_
      rw [pk_sub (by omega)]
      refine bg_istore2 rfl rfl ?_
      refine bg_iload1 rfl ?_
      refine bg_aload0 rfl ?_
      refine bg_getfield rfl rfl (by assumption) (by rfl) ?_
      refine bg_imul rfl ?_
      rw [pk_mul]
      refine bg_istore3 rfl rfl ?_
      refine bt_remL (w := w) (r := r) (t := t) (m := w * r) (by omega) h7 (by omega) (t.length * w - w - i * w) (i * w) h f (by omega) h1 h2 fun h' f' x3 k1 k2 k3 => ?_
      have k4 := (k2 a (by omega)).trans h1
      refine bg_aload0 rfl ?_
      refine bg_dup rfl rfl ?_
      refine bg_getfield rfl rfl k4 (by rfl) ?_
      refine bg_iconst rfl ?_
      refine bg_isub rfl ?_
      rw [show (nI t.length) - 1 = nI (t.length - 1) from pk_sub (b := 1) (by omega)]
      refine bg_putfield rfl rfl k4 (by rfl) ⟨rfl, rfl⟩ (by rfl) (fun h82 f82 g82 => ?_)
      refine bg_ret rfl rfl ?_
      refine hQ h82 ?_ (fun q hq => (g82 q (by omega)).trans (k2 q (by omega)))
      rw [rE_nI hi31]
      have hl : (t.eraseIdx i).length = t.length - 1 := by rw [List.length_eraseIdx, if_pos hi]
      refine ⟨by rw [hl]; exact f82, ⟨f', (g82 _ (by omega)).trans k1, fun i' k' hi' hk' => ?_⟩, by omega, fun q hq => h5 q (List.mem_of_mem_eraseIdx hq), h6, h7, h8⟩
      rw [hl] at hi'
      have z7 : (i' + 1) * w = i' * w + w := Nat.succ_mul i' w
      have z8 := bt_mul (w := w) (show i' + 1 < t.length by omega)
      rw [k3, tg_erase]
      by_cases h9 : i' < i
      · have z9 := bt_mul (w := w) h9
        rw [if_neg (by omega), if_pos h9, h3 i' k' (by omega) hk']
      · have z9 : i * w ≤ i' * w := Nat.mul_le_mul_right w (by omega)
        rw [if_pos (by omega), if_neg h9, ← h3 (i' + 1) k' (by omega) hk', z7]
        congr 1
        omega
    · have e0 : rE t x = t := by
        obtain ⟨i, hi31, rfl⟩ := nI_of e1
        rw [rE_nI hi31]
        exact List.eraseIdx_of_length_le (Nat.le_of_not_lt fun q => e9 (nI_lt q (by omega)))
      refine bg_ret rfl rfl ?_
      exact hQ h (by rw [e0]; exact hT0) fr.refl
theorem bt_copyL {m b d n e : Nat} {w r s w2 r2 s2 : Value} {f0 : Nat → Int32} {cs : Nat × Nat} (hm : m < 2 ^ 30) (he : e ≤ m) (hab : a + 1 ≠ b + 1 ∧ a + 1 ≠ b) : ∀ (k p : Nat) (h : bk_H) (f : Nat → Int32), p + k = e → h a = some (.inr (7, [w, r, .ref (a + 1), s])) → h (a + 1) = some (.inl (0, m, .inl f)) → h b = some (.inr (7, [w2, r2, .ref (b + 1), s2])) → h (b + 1) = some (.inl (0, m, .inl f0)) →
    (∀ (h' : bk_H) (f' : Nat → Int32), h' (a + 1) = some (.inl (0, m, .inl f')) → (∀ q, q ≠ a + 1 → h' q = h q) → (∀ q, f' q = if p ≤ q ∧ q < e then f0 q else f q) → Q (.inl none) h' n) → bk_g V d 72 B Q 43 [some (.ref a), some (.ref b), some (.int (nI e)), some (.int (nI p))] [] h n cs := by
  intro k
  induction k with
  | zero =>
    intro p h f hp h1 h2 h3 h4 hQ
    refine bg_iload3 rfl ?_
    refine bg_iload2 rfl ?_
    refine bg_icmp_ge rfl (fun e45 => ?_) (fun e45 => absurd e45 (nI_nlt (by omega) (by omega)))
    refine bg_ret rfl rfl ?_
    exact hQ h f h2 (fun _ _ => rfl) (fun q => by rw [if_neg (by omega)])
  | succ k ih =>
    intro p h f hp h1 h2 h3 h4 hQ
    refine bg_iload3 rfl ?_
    refine bg_iload2 rfl ?_
    refine bg_icmp_ge rfl (fun e45 => absurd (nI_lt (by omega) (by omega)) e45) (fun e45 => ?_)
    refine bg_aload0 rfl ?_
    refine bg_getfield rfl rfl h1 (by rfl) ?_
    refine bg_iload3 rfl ?_
    refine bg_aload1 rfl ?_
    refine bg_getfield rfl rfl h3 (by rfl) ?_
    refine bg_iload3 rfl ?_
    refine bg_iaload_n rfl h4 (by omega) (by omega) ?_
    refine bg_iastore_n rfl h2 (by omega) (by omega) (fun h59 f59 g59 => ?_)
    refine bg_iinc3 rfl rfl ?_
    rw [nI_1]
    refine bg_goto rfl ?_
    refine ih (p + 1) h59 _ (by omega) ((g59 _ (by omega)).trans h1) f59 ((g59 _ (by omega)).trans h3) ((g59 _ (by omega)).trans h4) fun h' f' k1 k2 k3 => ?_
    refine hQ h' f' k1 (fun q hq => (k2 q hq).trans (g59 q hq)) fun q => ?_
    rw [k3 q]
    by_cases hq : q = p
    · subst hq
      rw [if_neg (by omega), if_pos (by omega), pk_us]
    · rw [pk_un hq]
      by_cases h9 : p ≤ q ∧ q < e
      · rw [if_pos h9, if_pos (by omega)]
      · rw [if_neg h9, if_neg (by omega)]

theorem bt_copy {b : Nat} {t2 : bT} (hT : TB h a w r t) (hU : TB h b w r t2) (hab : a + 1 < b ∨ b + 1 < a) (hQ : ∀ h', TB h' a w r t2 → fr h h' a (a + 2) → Q (.inl none) h' n) : bk_wp V (d + 1) 72 [.ref a, .ref b] h n B Q := by
  obtain ⟨h1, ⟨f, h2, h3⟩, h4, h5, h6, h7, h8⟩ := hT
  obtain ⟨k1, ⟨f2, k2, k3⟩, k4, k5, k6, k7, k8⟩ := hU
  have z5 : t2.length * w ≤ w * r := by
    rw [Nat.mul_comm w r]
    exact Nat.mul_le_mul_right w k4
  have z6 : w * r ≤ 7 * 401 := Nat.mul_le_mul h7 h8
  refine bg_in rfl rfl ?_
  refine bg_aload0 rfl ?_
  refine bg_aload1 rfl ?_
  refine bg_getfield rfl rfl k1 (by rfl) ?_
  refine bg_aload0 rfl ?_
  refine bg_getfield rfl rfl h1 (by rfl) ?_
  refine bg_min rfl rfl rfl ?_
  rw [bt_min (by omega) (by omega), Nat.min_eq_left k4]
  refine bg_putfield rfl rfl h1 (by rfl) ⟨rfl, rfl⟩ (by rfl) (fun h12 f12 g12 => ?_)
  have j2 := (g12 (a + 1) (by omega)).trans h2
  have j3 := (g12 b (by omega)).trans k1
  have j4 := (g12 (b + 1) (by omega)).trans k2
  refine bg_aload0 rfl ?_
  refine bg_getfield rfl rfl f12 (by rfl) ?_
  refine bg_aload0 rfl ?_
  refine bg_getfield rfl rfl f12 (by rfl) ?_
  refine bg_imul rfl ?_
  rw [pk_mul]
  refine bg_aload0 rfl ?_
  refine bg_getfield rfl rfl f12 (by rfl) ?_
  refine bg_alen rfl j2 (by decide) ?_
  refine bg_aload1 rfl ?_
  refine bg_getfield rfl rfl j3 (by rfl) ?_
  refine bg_alen rfl j4 (by decide) ?_
  refine bg_min rfl rfl rfl ?_
  rw [bt_min (by omega) (by omega), Nat.min_self]
  refine bg_min rfl rfl rfl ?_
  rw [bt_min (by omega) (by omega), Nat.min_eq_left z5]
  refine bg_istore2 rfl rfl ?_
  refine bg_iconst rfl ?_
  refine bg_istore3 rfl rfl ?_
  refine bt_copyL (m := w * r) (by omega) z5 (by omega) (t2.length * w) 0 h12 f (by omega) f12 j2 j3 j4 fun h' f' q1 q2 q3 => ?_
  refine hQ h' ⟨(q2 a (by omega)).trans f12, ⟨f', q1, fun i k hi hk => ?_⟩, k4, k5, h6, h7, h8⟩ (fun q hq => (q2 q (by omega)).trans (g12 q (by omega)))
  have := bt_mul (w := w) hi
  rw [q3, if_pos (by omega), k3 i k hi hk]
theorem bt_init {x y : Int32} (hx : x = nI w) (hy : y = nI r) (hw : 0 < w ∧ w ≤ 7 ∧ r ≤ 401) (ha : h a = some (.inr (7, [.int 0, .int 0, .null, .int 0]))) (hn : n = a + 1) (hQ : ∀ h', TB h' a w r [] → fr h h' a (a + 2) → Q (.inl none) h' (n + 1)) (hB1 : 1 ≤ B.1) (hB2 : w * r ≤ B.2) : bk_wp V (d + 1) 62 [.ref a, .int x, .int y] h n B Q := by
  subst hx hy hn
  obtain ⟨hw0, hw1, hr⟩ := hw
  have z6 : w * r ≤ 7 * 401 := Nat.mul_le_mul hw1 hr
  have z7 : (if (0 : Int32) < nI w then nI w else 0) = nI w := by
    exact if_pos (nI_lt (a := 0) hw0 (by omega))
  have z8 : (if (0 : Int32) < nI r then nI r else 0) = nI r := (bt_max (x := 0) (by omega) (by omega)).trans (by rw [Nat.zero_max])
  have z9 : (if (0 : Int32) < nI (w * r) then nI (w * r) else 0) = nI (w * r) := (bt_max (x := 0) (by omega) (by omega)).trans (by rw [Nat.zero_max])
  refine bg_in rfl rfl ?_
  refine bg_aload0 rfl ?_
  refine bg_objinit rfl rfl rfl ?_
  refine bg_aload0 rfl ?_
  refine bg_iconst rfl ?_
  refine bg_iload1 rfl ?_
  refine bg_max rfl rfl rfl ?_
  rw [z7]
  refine bg_putfield rfl rfl ha (by rfl) ⟨rfl, rfl⟩ (by rfl) (fun h10 f10 g10 => ?_)
  refine bg_aload0 rfl ?_
  refine bg_iconst rfl ?_
  refine bg_iload2 rfl ?_
  refine bg_max rfl rfl rfl ?_
  rw [z8]
  refine bg_putfield rfl rfl f10 (by rfl) ⟨rfl, rfl⟩ (by rfl) (fun h19 f19 g19 => ?_)
  refine bg_aload0 rfl ?_
  refine bg_iconst rfl ?_
  refine bg_aload0 rfl ?_
  refine bg_getfield rfl rfl f19 (by rfl) ?_
  refine bg_aload0 rfl ?_
  refine bg_getfield rfl rfl f19 (by rfl) ?_
  refine bg_imul rfl ?_
  rw [pk_mul]
  refine bg_max rfl rfl rfl ?_
  rw [z9]
  refine bg_newarray_int rfl (nI_clamp (by omega)) (nI_pos (by omega)) (by show 0 + 1 ≤ B.1; omega) (by show 0 + w * r ≤ B.2; omega) (by omega) (fun h36 f36 g36 => ?_)
  have j1 := (g36 a (by omega)).trans f19
  refine bg_putfield rfl rfl j1 (by rfl) ⟨rfl, rfl⟩ (by rfl) (fun h38 f38 g38 => ?_)
  refine bg_aload0 rfl ?_
  refine bg_iconst rfl ?_
  refine bg_putfield rfl rfl f38 (by rfl) ⟨rfl, rfl⟩ (by rfl) (fun h43 f43 g43 => ?_)
  refine bg_ret rfl rfl ?_
  refine hQ h43 ⟨f43, ⟨_, (g43 _ (by omega)).trans ((g38 _ (by omega)).trans f36), fun i k hi => absurd hi (Nat.not_lt_zero i)⟩, Nat.zero_le r, fun q hq => absurd hq List.not_mem_nil, hw0, hw1, hr⟩ fun q hq => ?_
  rw [g43 q (by omega), g38 q (by omega), g36 q (by omega), g19 q (by omega), g10 q (by omega)]
end BT
