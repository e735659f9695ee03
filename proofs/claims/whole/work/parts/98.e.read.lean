/-! THE REFERENCE: it reads a list. Printed by wip/whole/mk98e.py. -/
theorem opL_at {nv : Nat → Int32} : ∀ (l : List bIt) (p x : Nat), x ∈ opL l p → ∃ q ∈ l, ∃ j, q.2 = some j ∧ isNm q.1 ∧ (rcL nv l).getD (x - p) 0 = nI j
  | [], _, _, h => absurd h List.not_mem_nil
  | q :: l, p, x, h => by
    rcases List.mem_append.mp h with h | h
    · obtain ⟨k, o⟩ := q
      cases o with
      | none => exact absurd h List.not_mem_nil
      | some j =>
        have h : x ∈ (if k = 31 then [] else if isNm k then [p + 1] else []) := h
        by_cases a : k = 31
        · rw [if_pos a] at h
          exact absurd h List.not_mem_nil
        · rw [if_neg a] at h
          by_cases b : isNm k
          · rw [if_pos b] at h
            have hx := List.mem_singleton.mp h
            refine ⟨_, List.mem_cons_self, j, rfl, b, ?_⟩
            have e : rcI nv (k, some j) = [oW k, nI j] := by
              show (if k = 31 then _ else if isNm k then _ else _) = _
              rw [if_neg a, if_pos b]
            show (rcI nv (k, some j) ++ rcL nv l).getD (x - p) 0 = nI j
            rw [e, hx, show p + 1 - p = 1 by omega]
            rfl
          · rw [if_neg b] at h
            exact absurd h List.not_mem_nil
    · obtain ⟨q', hq', j, e1, e2, e3⟩ := opL_at (nv := nv) l _ x h
      refine ⟨q', List.mem_cons_of_mem _ hq', j, e1, e2, ?_⟩
      have m := (opL_mem l _ x h).1
      have hl : (rcI nv q).length = lnI q := rcI_len
      show (rcI nv q ++ rcL nv l).getD (x - p) 0 = nI j
      rw [List.getD_eq_getElem?_getD] at e3 ⊢
      rw [List.getElem?_append_right (by omega), hl, show x - p - lnI q = x - (p + lnI q) by omega]
      exact e3
theorem ls_sv {Kd : Nat → Int32} {N : Nat} {rows : bT} (hE : Kd (N - 1) = 47 ∨ Kd (N - 1) = 0) : ∀ (c : Nat) (s : bP), SV N s → SV N (lsL Kd rows c s).2
  | 0, s, h => h
  | c + 1, s, h => by
    by_cases e : Kd s.1 = 47
    · rw [lsL_e e]
      exact h
    · rw [lsL_s e]
      have v1 := (lnAll_k (rows := rows) hE h).1
      by_cases r1 : (lnAll Kd rows s).1 = true
      · rw [sqS_t (b := fun s => tkS Kd 36 s) r1]
        have v2 := (tkS_k (k := 36) hE v1 (by decide) (by decide)).1
        by_cases r2 : (tkS Kd 36 (lnAll Kd rows s).2).1 = true
        · rw [sqS_t r2]
          exact ls_sv hE c _ v2
        · rw [sqS_f r2]
          exact v2
      · rw [sqS_f (a := lnAll Kd rows s) (b := fun s => tkS Kd 36 s) r1, sqS_f r1]
        exact v1
theorem ckF_at {f : Nat → Int32} {g : Nat → Int64} {rows : bT} {et : Int32} {k : Nat} (hk : k < rows.length) (hok : ∀ j, j < k → ckE f g rows j = 0) (hne : ¬ ckE f g rows k = 0) : ckF f g et rows = (ckE f g rows k, nI k, ckS f g rows (k + 1)) := by
  rcases ckF_r (f := f) (g := g) (rows := rows) (et := et) with ⟨m, m1, m2, m3, m4⟩ | ⟨m1, _, _⟩
  · have : m = k := by
      by_cases a : m < k
      · exact absurd (hok m a) m3
      · by_cases b : k < m
        · exact absurd (m2 k b) hne
        · omega
    rw [m4, this]
  · exact absurd (m1 k hk) hne
theorem ck_col0 {f : Nat → Int32} {g : Nat → Int64} {rows : bT} {et : Int32} (hw : ∀ q ∈ rows, q.length = 2) (hl : rows.length < 2 ^ 31) (j : Nat) : tg (ckF f g et rows).2.2.2.2 j 0 = tg rows j 0 := by
  rcases ckF_r (f := f) (g := g) (rows := rows) (et := et) with ⟨m, m1, m2, m3, m4⟩ | ⟨m1, _, m3⟩
  · rw [m4]
    exact (ckS_rows hw hl (m + 1) m1).2.2 j 0 (Or.inr (by decide))
  · rw [m3]
    exact (ckS_rows hw hl rows.length (Nat.le_refl _)).2.2 j 0 (Or.inr (by decide))
/-- what a list that was read gives -/
def PLN (P : Nat → bT) (K : rI) (C : rA) : Prop := RP P K C ∧ WP P ∧ OV P ∧ (shT (P 0) 2 5 ∧ shT (P 1) 2 6 ∧ shT (P 2) 3 6 ∧ shT (P 3) 7 24 ∧ shT (P 4) 3 400) ∧ (∀ i, i < (P 0).length → ∃ k, 1 ≤ k ∧ k ≤ 9 ∧ tg (P 0) i 1 = nI k) ∧ (∀ i, i < (P 1).length → ∃ k, 1 ≤ k ∧ k ≤ 6 ∧ tg (P 1) i 1 = nI k)

