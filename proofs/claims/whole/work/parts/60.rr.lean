/-! THE REFERENCE: what single writes leave of the relation. Printed by wip/whole/mk60.py. -/
theorem sR1 {h : bk_H} {r y : Nat} {I : rI} {A : rA} (z : RO h r y I A) : h (r + 1) = some (.inl (0, 5, .inl (A 0))) := z.2.1
theorem sR2 {h : bk_H} {r y : Nat} {I : rI} {A : rA} (z : RO h r y I A) : h (r + 2) = some (.inl (0, 5, .inl (A 1))) := z.2.2.1
theorem sR3 {h : bk_H} {r y : Nat} {I : rI} {A : rA} (z : RO h r y I A) : h (r + 3) = some (.inl (0, 5, .inl (A 2))) := z.2.2.2.1
theorem sR4 {h : bk_H} {r y : Nat} {I : rI} {A : rA} (z : RO h r y I A) : h (r + 4) = some (.inl (0, 6, .inl (A 3))) := z.2.2.2.2.1
theorem sR5 {h : bk_H} {r y : Nat} {I : rI} {A : rA} (z : RO h r y I A) : h (r + 5) = some (.inl (0, 6, .inl (A 4))) := z.2.2.2.2.2.1
theorem sR6 {h : bk_H} {r y : Nat} {I : rI} {A : rA} (z : RO h r y I A) : h (r + 6) = some (.inl (0, 30, .inl (A 5))) := z.2.2.2.2.2.2.1
theorem sR7 {h : bk_H} {r y : Nat} {I : rI} {A : rA} (z : RO h r y I A) : h (r + 7) = some (.inl (0, 30, .inl (A 6))) := z.2.2.2.2.2.2.2.1
theorem sR8 {h : bk_H} {r y : Nat} {I : rI} {A : rA} (z : RO h r y I A) : h (r + 8) = some (.inl (0, 30, .inl (A 7))) := z.2.2.2.2.2.2.2.2.1
theorem sR9 {h : bk_H} {r y : Nat} {I : rI} {A : rA} (z : RO h r y I A) : h (r + 9) = some (.inl (0, 30, .inl (A 8))) := z.2.2.2.2.2.2.2.2.2.1
theorem sR10 {h : bk_H} {r y : Nat} {I : rI} {A : rA} (z : RO h r y I A) : h (r + 10) = some (.inl (0, 30, .inl (A 9))) := z.2.2.2.2.2.2.2.2.2.2.1
theorem sR11 {h : bk_H} {r y : Nat} {I : rI} {A : rA} (z : RO h r y I A) : h (r + 11) = some (.inl (0, 30, .inl (A 10))) := z.2.2.2.2.2.2.2.2.2.2.2.1
theorem sR12 {h : bk_H} {r y : Nat} {I : rI} {A : rA} (z : RO h r y I A) : h (r + 12) = some (.inl (0, 6, .inl (A 11))) := z.2.2.2.2.2.2.2.2.2.2.2.2.1
theorem sR13 {h : bk_H} {r y : Nat} {I : rI} {A : rA} (z : RO h r y I A) : h (r + 13) = some (.inl (0, 400, .inl (A 12))) := z.2.2.2.2.2.2.2.2.2.2.2.2.2
theorem pR1 {h : bk_H} {u : Nat} {I : rI} {A : rA} (z : PO h u I A) : h (u + 1) = some (.inl (0, 5, .inl (A 0))) := z.2.1
theorem pR2 {h : bk_H} {u : Nat} {I : rI} {A : rA} (z : PO h u I A) : h (u + 2) = some (.inl (0, 5, .inl (A 1))) := z.2.2.1
theorem pR3 {h : bk_H} {u : Nat} {I : rI} {A : rA} (z : PO h u I A) : h (u + 3) = some (.inl (0, 6, .inl (A 2))) := z.2.2.2.1
theorem pR4 {h : bk_H} {u : Nat} {I : rI} {A : rA} (z : PO h u I A) : h (u + 4) = some (.inl (0, 6, .inl (A 3))) := z.2.2.2.2.1
theorem pR5 {h : bk_H} {u : Nat} {I : rI} {A : rA} (z : PO h u I A) : h (u + 5) = some (.inl (0, 6, .inl (A 4))) := z.2.2.2.2.2.1
theorem pR6 {h : bk_H} {u : Nat} {I : rI} {A : rA} (z : PO h u I A) : h (u + 6) = some (.inl (0, 6, .inl (A 5))) := z.2.2.2.2.2.2.1
theorem pR7 {h : bk_H} {u : Nat} {I : rI} {A : rA} (z : PO h u I A) : h (u + 7) = some (.inl (0, 6, .inl (A 6))) := z.2.2.2.2.2.2.2.1
theorem pR8 {h : bk_H} {u : Nat} {I : rI} {A : rA} (z : PO h u I A) : h (u + 8) = some (.inl (0, 24, .inl (A 7))) := z.2.2.2.2.2.2.2.2.1
theorem pR9 {h : bk_H} {u : Nat} {I : rI} {A : rA} (z : PO h u I A) : h (u + 9) = some (.inl (0, 24, .inl (A 8))) := z.2.2.2.2.2.2.2.2.2.1
theorem pR10 {h : bk_H} {u : Nat} {I : rI} {A : rA} (z : PO h u I A) : h (u + 10) = some (.inl (0, 24, .inl (A 9))) := z.2.2.2.2.2.2.2.2.2.2.1
theorem pR11 {h : bk_H} {u : Nat} {I : rI} {A : rA} (z : PO h u I A) : h (u + 11) = some (.inl (0, 25, .inl (A 10))) := z.2.2.2.2.2.2.2.2.2.2.2.1
theorem pR12 {h : bk_H} {u : Nat} {I : rI} {A : rA} (z : PO h u I A) : h (u + 12) = some (.inl (0, 25, .inl (A 11))) := z.2.2.2.2.2.2.2.2.2.2.2.2.1
theorem pR13 {h : bk_H} {u : Nat} {I : rI} {A : rA} (z : PO h u I A) : h (u + 13) = some (.inl (0, 25, .inl (A 12))) := z.2.2.2.2.2.2.2.2.2.2.2.2.2.1
theorem pR14 {h : bk_H} {u : Nat} {I : rI} {A : rA} (z : PO h u I A) : h (u + 14) = some (.inl (0, 800, .inl (A 13))) := z.2.2.2.2.2.2.2.2.2.2.2.2.2.2.1
theorem pR15 {h : bk_H} {u : Nat} {I : rI} {A : rA} (z : PO h u I A) : h (u + 15) = some (.inl (0, 400, .inl (A 14))) := z.2.2.2.2.2.2.2.2.2.2.2.2.2.2.2
theorem RRof {h : bk_H} {r y : Nat} {S : bS} {I : rI} {A : rA} (_ : RO h r y I A) (z : RR S I A) : RR S I A := z
theorem bS_ext {S S' : bS} (h1 : S.1 = S'.1) (h2 : ∀ k, S.2 k = S'.2 k) : S = S' := Prod.ext h1 (funext h2)
theorem tS_tS {t : bT} {r c : Nat} {v w : Int32} : tS (tS t r c v) r c w = tS t r c w := by
  unfold tS
  by_cases hr : r < t.length
  · have e : ∀ X : List Int32, (t.set r X).getD r [] = X := fun X => by rw [gD_lt (by rw [List.length_set]; exact hr), List.getElem_set_self]
    rw [e, List.set_set, List.set_set]
  · have e : ∀ X : List Int32, t.set r X = t := fun X => List.set_eq_of_length_le (by omega)
    simp only [e]
theorem shT_tS {t : bT} {w m r c : Nat} {v : Int32} (h : shT t w m) : shT (tS t r c v) w m := ⟨by rw [tS_len]; exact h.1, tS_w h.2⟩
theorem shT_rS {t : bT} {w m c : Nat} {x v : Int32} (h : shT t w m) : shT (rS t x c v) w m := by
  unfold rS
  split
  · exact h
  · exact shT_tS h
theorem shT_app {t : bT} {w m : Nat} {q : List Int32} (h : shT t w m) (hl : t.length < m) (hq : q.length = w) : shT (t ++ [q]) w m := by
  refine ⟨by rw [List.length_append]; exact hl, fun p hp => ?_⟩
  rcases List.mem_append.mp hp with z | z
  · exact h.2 p z
  · rw [List.mem_singleton.mp z]
    exact hq
theorem shT_er {t : bT} {w m i : Nat} (h : shT t w m) : shT (t.eraseIdx i) w m := ⟨Nat.le_trans (List.length_eraseIdx_le _ _) h.1, fun p hp => h.2 p (List.mem_of_mem_eraseIdx hp)⟩
theorem tg_app {t : bT} {q : List Int32} {i c : Nat} (h : i < t.length) : tg (t ++ [q]) i c = tg t i c := by
  unfold tg
  rw [gD_lt (l := t ++ [q]) (by rw [List.length_append]; omega), gD_lt h, List.getElem_append_left h]
theorem tg_new {t : bT} {q : List Int32} {c : Nat} : tg (t ++ [q]) t.length c = q.getD c 0 := by
  unfold tg
  rw [gD_lt (l := t ++ [q]) (by rw [List.length_append]; exact Nat.lt_succ_self _), List.getElem_append_right (Nat.le_refl _)]
  simp only [Nat.sub_self]
  rfl
section RR
variable {P : Nat → bT} {S : bS} {I : rI} {A : rA} {N : Nat → Int32} {t : bT} {x : Int32}
theorem SH_0 (h : SH P S) (hl : t.length = (S.2 0).length) (hw : ∀ q ∈ t, q.length = 3) : SH P (N, uT S.2 0 t) := ⟨h.1, ⟨⟨Nat.le_trans (Nat.le_of_eq hl) h.2.1.1.1, hw⟩, h.2.1.2.1, h.2.1.2.2.1, h.2.1.2.2.2.1, h.2.1.2.2.2.2⟩, hl.trans h.2.2.1, h.2.2.2.1, h.2.2.2.2⟩
theorem SH_1 (h : SH P S) (hl : t.length = (S.2 1).length) (hw : ∀ q ∈ t, q.length = 1) : SH P (N, uT S.2 1 t) := ⟨h.1, ⟨h.2.1.1, ⟨Nat.le_trans (Nat.le_of_eq hl) h.2.1.2.1.1, hw⟩, h.2.1.2.2.1, h.2.1.2.2.2.1, h.2.1.2.2.2.2⟩, h.2.2.1, hl.trans h.2.2.2.1, h.2.2.2.2⟩
theorem SH_2 (h : SH P S) (hl : t.length = (S.2 2).length) (hw : ∀ q ∈ t, q.length = 1) : SH P (N, uT S.2 2 t) := ⟨h.1, ⟨h.2.1.1, h.2.1.2.1, ⟨Nat.le_trans (Nat.le_of_eq hl) h.2.1.2.2.1.1, hw⟩, h.2.1.2.2.2.1, h.2.1.2.2.2.2⟩, h.2.2.1, h.2.2.2.1, hl.trans h.2.2.2.2⟩
theorem SH_3 (h : SH P S) (hw : shT t 4 30) : SH P (N, uT S.2 3 t) := ⟨h.1, ⟨h.2.1.1, h.2.1.2.1, h.2.1.2.2.1, hw, h.2.1.2.2.2.2⟩, h.2.2⟩
theorem SH_4 (h : SH P S) (hw : shT t 2 30) : SH P (N, uT S.2 4 t) := ⟨h.1, ⟨h.2.1.1, h.2.1.2.1, h.2.1.2.2.1, h.2.1.2.2.2.1, hw⟩, h.2.2⟩
theorem SH_N (h : SH P S) : SH P (N, S.2) := h
theorem IV_N (h : IV P S) : IV P (N, S.2) := h
theorem IV_0 (h : IV P S) : IV P (N, uT S.2 0 t) := h
theorem IV_2 (h : IV P S) : IV P (N, uT S.2 2 t) := h
theorem IV_1 (h : IV P S) (q : ∀ i, i < t.length → ∃ k, 1 ≤ k ∧ k ≤ 6 ∧ tg t i 0 = nI k) : IV P (N, uT S.2 1 t) := ⟨h.1, q, h.2.2.1, h.2.2.2⟩
theorem IV_3 (h : IV P S) (q : ∀ i, i < t.length → ∃ k, k ≤ 9 ∧ tg t i 2 = nI k) : IV P (N, uT S.2 3 t) := ⟨h.1, h.2.1, q, h.2.2.2⟩
theorem IV_4 (h : IV P S) (q : ∀ i, i < t.length → ∃ g, g < (P 2).length ∧ tg t i 0 = nI g) : IV P (N, uT S.2 4 t) := ⟨h.1, h.2.1, h.2.2.1, q⟩
theorem RR_i0 (h : RR S I A) : RR (upd S.1 0 x, S.2) (upd I 0 x) A := by
  obtain ⟨⟨q1, q2, q3, q4⟩, q5⟩ := h
  refine ⟨⟨fun k hk => ?_, q2, q3, q4⟩, q5⟩
  show upd I 0 x k = upd S.1 0 x k
  unfold upd
  by_cases e : k = 0
  · rw [if_pos e, if_pos e]
  · rw [if_neg e, if_neg e]
    exact q1 k hk
theorem RR_i1 (h : RR S I A) : RR (upd S.1 1 x, S.2) (upd I 1 x) A := by
  obtain ⟨⟨q1, q2, q3, q4⟩, q5⟩ := h
  refine ⟨⟨fun k hk => ?_, q2, q3, q4⟩, q5⟩
  show upd I 1 x k = upd S.1 1 x k
  unfold upd
  by_cases e : k = 1
  · rw [if_pos e, if_pos e]
  · rw [if_neg e, if_neg e]
    exact q1 k hk
theorem RR_i2 (h : RR S I A) : RR (upd S.1 2 x, S.2) (upd I 2 x) A := by
  obtain ⟨⟨q1, q2, q3, q4⟩, q5⟩ := h
  refine ⟨⟨fun k hk => ?_, q2, q3, q4⟩, q5⟩
  show upd I 2 x k = upd S.1 2 x k
  unfold upd
  by_cases e : k = 2
  · rw [if_pos e, if_pos e]
  · rw [if_neg e, if_neg e]
    exact q1 k hk
theorem RR_i3 (h : RR S I A) : RR (upd S.1 3 x, S.2) (upd I 3 x) A := by
  obtain ⟨⟨q1, q2, q3, q4⟩, q5⟩ := h
  refine ⟨⟨fun k hk => ?_, q2, q3, q4⟩, q5⟩
  show upd I 3 x k = upd S.1 3 x k
  unfold upd
  by_cases e : k = 3
  · rw [if_pos e, if_pos e]
  · rw [if_neg e, if_neg e]
    exact q1 k hk
theorem RR_i4 (h : RR S I A) : RR (upd S.1 4 x, S.2) (upd I 4 x) A := by
  obtain ⟨⟨q1, q2, q3, q4⟩, q5⟩ := h
  refine ⟨⟨fun k hk => ?_, q2, q3, q4⟩, q5⟩
  show upd I 4 x k = upd S.1 4 x k
  unfold upd
  by_cases e : k = 4
  · rw [if_pos e, if_pos e]
  · rw [if_neg e, if_neg e]
    exact q1 k hk
theorem RR_i5 (h : RR S I A) : RR (upd S.1 5 x, S.2) (upd I 5 x) A := by
  obtain ⟨⟨q1, q2, q3, q4⟩, q5⟩ := h
  refine ⟨⟨fun k hk => ?_, q2, q3, q4⟩, q5⟩
  show upd I 5 x k = upd S.1 5 x k
  unfold upd
  by_cases e : k = 5
  · rw [if_pos e, if_pos e]
  · rw [if_neg e, if_neg e]
    exact q1 k hk
theorem RR_i8 (h : RR S I A) : RR (upd S.1 7 x, S.2) (upd I 8 x) A := by
  obtain ⟨⟨q1, q2, q3, q4⟩, q5⟩ := h
  refine ⟨⟨fun k hk => ?_, q2, q3, rfl⟩, q5⟩
  show upd I 8 x k = upd S.1 7 x k
  unfold upd
  rw [if_neg (by omega), if_neg (by omega)]
  exact q1 k hk
theorem tg_ne {w i0 i c c1 : Nat} (hw : ∀ q ∈ t, q.length = w) (hi : i0 < t.length) (hc : c < w) (hne : c1 ≠ c) : tg (tS t i0 c x) i c1 = tg t i c1 := by
  rw [tg_tS hw hi hc, if_neg (fun q => hne q.2)]
theorem RR_t0 {i0 : Nat} (h : RR S I A) (hw : ∀ q ∈ S.2 0, q.length = 3) (hi0 : i0 < (S.2 0).length) : RR (S.1, uT S.2 0 (tS (S.2 0) i0 0 x)) I (uA A 0 (upd (A 0) i0 x)) := by
  obtain ⟨h1, h2, h3, h4, h5, h6⟩ := h
  refine ⟨h1, ?_, h3, h4, h5, h6⟩
  show ∀ i, i < (tS (S.2 0) i0 0 x).length → upd (A 0) i0 x i = tg (tS (S.2 0) i0 0 x) i 0 ∧ A 1 i = tg (tS (S.2 0) i0 0 x) i 1 ∧ A 2 i = tg (tS (S.2 0) i0 0 x) i 2
  intro i hi
  rw [tS_len] at hi
  obtain ⟨a0, a1, a2⟩ := h2 i hi
  refine ⟨?_, a1.trans (tg_ne hw hi0 (by decide) (by decide)).symm, a2.trans (tg_ne hw hi0 (by decide) (by decide)).symm⟩
  rw [tg_tS hw hi0 (by decide)]
  unfold upd
  by_cases e : i = i0
  · rw [if_pos e, if_pos ⟨e, rfl⟩]
  · rw [if_neg e, if_neg (fun q => e q.1)]
    exact a0
theorem RR_t1 {i0 : Nat} (h : RR S I A) (hw : ∀ q ∈ S.2 0, q.length = 3) (hi0 : i0 < (S.2 0).length) : RR (S.1, uT S.2 0 (tS (S.2 0) i0 1 x)) I (uA A 1 (upd (A 1) i0 x)) := by
  obtain ⟨h1, h2, h3, h4, h5, h6⟩ := h
  refine ⟨h1, ?_, h3, h4, h5, h6⟩
  show ∀ i, i < (tS (S.2 0) i0 1 x).length → A 0 i = tg (tS (S.2 0) i0 1 x) i 0 ∧ upd (A 1) i0 x i = tg (tS (S.2 0) i0 1 x) i 1 ∧ A 2 i = tg (tS (S.2 0) i0 1 x) i 2
  intro i hi
  rw [tS_len] at hi
  obtain ⟨a0, a1, a2⟩ := h2 i hi
  refine ⟨a0.trans (tg_ne hw hi0 (by decide) (by decide)).symm, ?_, a2.trans (tg_ne hw hi0 (by decide) (by decide)).symm⟩
  rw [tg_tS hw hi0 (by decide)]
  unfold upd
  by_cases e : i = i0
  · rw [if_pos e, if_pos ⟨e, rfl⟩]
  · rw [if_neg e, if_neg (fun q => e q.1)]
    exact a1
theorem RR_t2 {i0 : Nat} (h : RR S I A) (hw : ∀ q ∈ S.2 0, q.length = 3) (hi0 : i0 < (S.2 0).length) : RR (S.1, uT S.2 0 (tS (S.2 0) i0 2 x)) I (uA A 2 (upd (A 2) i0 x)) := by
  obtain ⟨h1, h2, h3, h4, h5, h6⟩ := h
  refine ⟨h1, ?_, h3, h4, h5, h6⟩
  show ∀ i, i < (tS (S.2 0) i0 2 x).length → A 0 i = tg (tS (S.2 0) i0 2 x) i 0 ∧ A 1 i = tg (tS (S.2 0) i0 2 x) i 1 ∧ upd (A 2) i0 x i = tg (tS (S.2 0) i0 2 x) i 2
  intro i hi
  rw [tS_len] at hi
  obtain ⟨a0, a1, a2⟩ := h2 i hi
  refine ⟨a0.trans (tg_ne hw hi0 (by decide) (by decide)).symm, a1.trans (tg_ne hw hi0 (by decide) (by decide)).symm, ?_⟩
  rw [tg_tS hw hi0 (by decide)]
  unfold upd
  by_cases e : i = i0
  · rw [if_pos e, if_pos ⟨e, rfl⟩]
  · rw [if_neg e, if_neg (fun q => e q.1)]
    exact a2
theorem RR_t3 {i0 : Nat} (h : RR S I A) (hw : ∀ q ∈ S.2 1, q.length = 1) (hi0 : i0 < (S.2 1).length) : RR (S.1, uT S.2 1 (tS (S.2 1) i0 0 x)) I (uA A 3 (upd (A 3) i0 x)) := by
  obtain ⟨h1, h2, h3, h4, h5, h6⟩ := h
  refine ⟨h1, h2, ?_, h4, h5, h6⟩
  show ∀ i, i < (tS (S.2 1) i0 0 x).length → upd (A 3) i0 x i = tg (tS (S.2 1) i0 0 x) i 0
  intro i hi
  rw [tS_len] at hi
  have a0 := h3 i hi
  rw [tg_tS hw hi0 (by decide)]
  unfold upd
  by_cases e : i = i0
  · rw [if_pos e, if_pos ⟨e, rfl⟩]
  · rw [if_neg e, if_neg (fun q => e q.1)]
    exact a0
theorem RR_t4 {i0 : Nat} (h : RR S I A) (hw : ∀ q ∈ S.2 2, q.length = 1) (hi0 : i0 < (S.2 2).length) : RR (S.1, uT S.2 2 (tS (S.2 2) i0 0 x)) I (uA A 4 (upd (A 4) i0 x)) := by
  obtain ⟨h1, h2, h3, h4, h5, h6⟩ := h
  refine ⟨h1, h2, h3, ?_, h5, h6⟩
  show ∀ i, i < 6 → upd (A 4) i0 x i = tg (tS (S.2 2) i0 0 x) i 0
  intro i hi
  have a0 := h4 i hi
  rw [tg_tS hw hi0 (by decide)]
  unfold upd
  by_cases e : i = i0
  · rw [if_pos e, if_pos ⟨e, rfl⟩]
  · rw [if_neg e, if_neg (fun q => e q.1)]
    exact a0
theorem RR_t5 {i0 : Nat} (h : RR S I A) (hw : ∀ q ∈ S.2 3, q.length = 4) (hi0 : i0 < (S.2 3).length) : RR (S.1, uT S.2 3 (tS (S.2 3) i0 0 x)) I (uA A 5 (upd (A 5) i0 x)) := by
  obtain ⟨h1, h2, h3, h4, h5, h6⟩ := h
  refine ⟨⟨h1.1, h1.2.1.trans (congrArg nI tS_len.symm), h1.2.2⟩, h2, h3, h4, ?_, h6⟩
  show ∀ i, i < (tS (S.2 3) i0 0 x).length → upd (A 5) i0 x i = tg (tS (S.2 3) i0 0 x) i 0 ∧ A 6 i = tg (tS (S.2 3) i0 0 x) i 1 ∧ A 7 i = tg (tS (S.2 3) i0 0 x) i 2 ∧ A 8 i = tg (tS (S.2 3) i0 0 x) i 3
  intro i hi
  rw [tS_len] at hi
  obtain ⟨a0, a1, a2, a3⟩ := h5 i hi
  refine ⟨?_, a1.trans (tg_ne hw hi0 (by decide) (by decide)).symm, a2.trans (tg_ne hw hi0 (by decide) (by decide)).symm, a3.trans (tg_ne hw hi0 (by decide) (by decide)).symm⟩
  rw [tg_tS hw hi0 (by decide)]
  unfold upd
  by_cases e : i = i0
  · rw [if_pos e, if_pos ⟨e, rfl⟩]
  · rw [if_neg e, if_neg (fun q => e q.1)]
    exact a0
theorem RR_t6 {i0 : Nat} (h : RR S I A) (hw : ∀ q ∈ S.2 3, q.length = 4) (hi0 : i0 < (S.2 3).length) : RR (S.1, uT S.2 3 (tS (S.2 3) i0 1 x)) I (uA A 6 (upd (A 6) i0 x)) := by
  obtain ⟨h1, h2, h3, h4, h5, h6⟩ := h
  refine ⟨⟨h1.1, h1.2.1.trans (congrArg nI tS_len.symm), h1.2.2⟩, h2, h3, h4, ?_, h6⟩
  show ∀ i, i < (tS (S.2 3) i0 1 x).length → A 5 i = tg (tS (S.2 3) i0 1 x) i 0 ∧ upd (A 6) i0 x i = tg (tS (S.2 3) i0 1 x) i 1 ∧ A 7 i = tg (tS (S.2 3) i0 1 x) i 2 ∧ A 8 i = tg (tS (S.2 3) i0 1 x) i 3
  intro i hi
  rw [tS_len] at hi
  obtain ⟨a0, a1, a2, a3⟩ := h5 i hi
  refine ⟨a0.trans (tg_ne hw hi0 (by decide) (by decide)).symm, ?_, a2.trans (tg_ne hw hi0 (by decide) (by decide)).symm, a3.trans (tg_ne hw hi0 (by decide) (by decide)).symm⟩
  rw [tg_tS hw hi0 (by decide)]
  unfold upd
  by_cases e : i = i0
  · rw [if_pos e, if_pos ⟨e, rfl⟩]
  · rw [if_neg e, if_neg (fun q => e q.1)]
    exact a1
theorem RR_t7 {i0 : Nat} (h : RR S I A) (hw : ∀ q ∈ S.2 3, q.length = 4) (hi0 : i0 < (S.2 3).length) : RR (S.1, uT S.2 3 (tS (S.2 3) i0 2 x)) I (uA A 7 (upd (A 7) i0 x)) := by
  obtain ⟨h1, h2, h3, h4, h5, h6⟩ := h
  refine ⟨⟨h1.1, h1.2.1.trans (congrArg nI tS_len.symm), h1.2.2⟩, h2, h3, h4, ?_, h6⟩
  show ∀ i, i < (tS (S.2 3) i0 2 x).length → A 5 i = tg (tS (S.2 3) i0 2 x) i 0 ∧ A 6 i = tg (tS (S.2 3) i0 2 x) i 1 ∧ upd (A 7) i0 x i = tg (tS (S.2 3) i0 2 x) i 2 ∧ A 8 i = tg (tS (S.2 3) i0 2 x) i 3
  intro i hi
  rw [tS_len] at hi
  obtain ⟨a0, a1, a2, a3⟩ := h5 i hi
  refine ⟨a0.trans (tg_ne hw hi0 (by decide) (by decide)).symm, a1.trans (tg_ne hw hi0 (by decide) (by decide)).symm, ?_, a3.trans (tg_ne hw hi0 (by decide) (by decide)).symm⟩
  rw [tg_tS hw hi0 (by decide)]
  unfold upd
  by_cases e : i = i0
  · rw [if_pos e, if_pos ⟨e, rfl⟩]
  · rw [if_neg e, if_neg (fun q => e q.1)]
    exact a2
theorem RR_t8 {i0 : Nat} (h : RR S I A) (hw : ∀ q ∈ S.2 3, q.length = 4) (hi0 : i0 < (S.2 3).length) : RR (S.1, uT S.2 3 (tS (S.2 3) i0 3 x)) I (uA A 8 (upd (A 8) i0 x)) := by
  obtain ⟨h1, h2, h3, h4, h5, h6⟩ := h
  refine ⟨⟨h1.1, h1.2.1.trans (congrArg nI tS_len.symm), h1.2.2⟩, h2, h3, h4, ?_, h6⟩
  show ∀ i, i < (tS (S.2 3) i0 3 x).length → A 5 i = tg (tS (S.2 3) i0 3 x) i 0 ∧ A 6 i = tg (tS (S.2 3) i0 3 x) i 1 ∧ A 7 i = tg (tS (S.2 3) i0 3 x) i 2 ∧ upd (A 8) i0 x i = tg (tS (S.2 3) i0 3 x) i 3
  intro i hi
  rw [tS_len] at hi
  obtain ⟨a0, a1, a2, a3⟩ := h5 i hi
  refine ⟨a0.trans (tg_ne hw hi0 (by decide) (by decide)).symm, a1.trans (tg_ne hw hi0 (by decide) (by decide)).symm, a2.trans (tg_ne hw hi0 (by decide) (by decide)).symm, ?_⟩
  rw [tg_tS hw hi0 (by decide)]
  unfold upd
  by_cases e : i = i0
  · rw [if_pos e, if_pos ⟨e, rfl⟩]
  · rw [if_neg e, if_neg (fun q => e q.1)]
    exact a3
theorem RR_t9 {i0 : Nat} (h : RR S I A) (hw : ∀ q ∈ S.2 4, q.length = 2) (hi0 : i0 < (S.2 4).length) : RR (S.1, uT S.2 4 (tS (S.2 4) i0 0 x)) I (uA A 9 (upd (A 9) i0 x)) := by
  obtain ⟨h1, h2, h3, h4, h5, h6⟩ := h
  refine ⟨⟨h1.1, h1.2.1, h1.2.2.1.trans (congrArg nI tS_len.symm), h1.2.2.2⟩, h2, h3, h4, h5, ?_⟩
  show ∀ i, i < (tS (S.2 4) i0 0 x).length → upd (A 9) i0 x i = tg (tS (S.2 4) i0 0 x) i 0 ∧ A 10 i = tg (tS (S.2 4) i0 0 x) i 1
  intro i hi
  rw [tS_len] at hi
  obtain ⟨a0, a1⟩ := h6 i hi
  refine ⟨?_, a1.trans (tg_ne hw hi0 (by decide) (by decide)).symm⟩
  rw [tg_tS hw hi0 (by decide)]
  unfold upd
  by_cases e : i = i0
  · rw [if_pos e, if_pos ⟨e, rfl⟩]
  · rw [if_neg e, if_neg (fun q => e q.1)]
    exact a0
theorem RR_t10 {i0 : Nat} (h : RR S I A) (hw : ∀ q ∈ S.2 4, q.length = 2) (hi0 : i0 < (S.2 4).length) : RR (S.1, uT S.2 4 (tS (S.2 4) i0 1 x)) I (uA A 10 (upd (A 10) i0 x)) := by
  obtain ⟨h1, h2, h3, h4, h5, h6⟩ := h
  refine ⟨⟨h1.1, h1.2.1, h1.2.2.1.trans (congrArg nI tS_len.symm), h1.2.2.2⟩, h2, h3, h4, h5, ?_⟩
  show ∀ i, i < (tS (S.2 4) i0 1 x).length → A 9 i = tg (tS (S.2 4) i0 1 x) i 0 ∧ upd (A 10) i0 x i = tg (tS (S.2 4) i0 1 x) i 1
  intro i hi
  rw [tS_len] at hi
  obtain ⟨a0, a1⟩ := h6 i hi
  refine ⟨a0.trans (tg_ne hw hi0 (by decide) (by decide)).symm, ?_⟩
  rw [tg_tS hw hi0 (by decide)]
  unfold upd
  by_cases e : i = i0
  · rw [if_pos e, if_pos ⟨e, rfl⟩]
  · rw [if_neg e, if_neg (fun q => e q.1)]
    exact a1
theorem RR_b5 {i0 : Nat} (h : RR S I A) (hi0 : (S.2 3).length ≤ i0) : RR S I (uA A 5 (upd (A 5) i0 x)) := by
  obtain ⟨h1, h2, h3, h4, h5, h6⟩ := h
  refine ⟨h1, h2, h3, h4, ?_, h6⟩
  show ∀ i, i < (S.2 3).length → upd (A 5) i0 x i = tg (S.2 3) i 0 ∧ A 6 i = tg (S.2 3) i 1 ∧ A 7 i = tg (S.2 3) i 2 ∧ A 8 i = tg (S.2 3) i 3
  intro i hi
  obtain ⟨a0, a1, a2, a3⟩ := h5 i hi
  refine ⟨?_, a1, a2, a3⟩
  unfold upd
  rw [if_neg (by omega)]
  exact a0
theorem RR_b6 {i0 : Nat} (h : RR S I A) (hi0 : (S.2 3).length ≤ i0) : RR S I (uA A 6 (upd (A 6) i0 x)) := by
  obtain ⟨h1, h2, h3, h4, h5, h6⟩ := h
  refine ⟨h1, h2, h3, h4, ?_, h6⟩
  show ∀ i, i < (S.2 3).length → A 5 i = tg (S.2 3) i 0 ∧ upd (A 6) i0 x i = tg (S.2 3) i 1 ∧ A 7 i = tg (S.2 3) i 2 ∧ A 8 i = tg (S.2 3) i 3
  intro i hi
  obtain ⟨a0, a1, a2, a3⟩ := h5 i hi
  refine ⟨a0, ?_, a2, a3⟩
  unfold upd
  rw [if_neg (by omega)]
  exact a1
theorem RR_b7 {i0 : Nat} (h : RR S I A) (hi0 : (S.2 3).length ≤ i0) : RR S I (uA A 7 (upd (A 7) i0 x)) := by
  obtain ⟨h1, h2, h3, h4, h5, h6⟩ := h
  refine ⟨h1, h2, h3, h4, ?_, h6⟩
  show ∀ i, i < (S.2 3).length → A 5 i = tg (S.2 3) i 0 ∧ A 6 i = tg (S.2 3) i 1 ∧ upd (A 7) i0 x i = tg (S.2 3) i 2 ∧ A 8 i = tg (S.2 3) i 3
  intro i hi
  obtain ⟨a0, a1, a2, a3⟩ := h5 i hi
  refine ⟨a0, a1, ?_, a3⟩
  unfold upd
  rw [if_neg (by omega)]
  exact a2
theorem RR_b8 {i0 : Nat} (h : RR S I A) (hi0 : (S.2 3).length ≤ i0) : RR S I (uA A 8 (upd (A 8) i0 x)) := by
  obtain ⟨h1, h2, h3, h4, h5, h6⟩ := h
  refine ⟨h1, h2, h3, h4, ?_, h6⟩
  show ∀ i, i < (S.2 3).length → A 5 i = tg (S.2 3) i 0 ∧ A 6 i = tg (S.2 3) i 1 ∧ A 7 i = tg (S.2 3) i 2 ∧ upd (A 8) i0 x i = tg (S.2 3) i 3
  intro i hi
  obtain ⟨a0, a1, a2, a3⟩ := h5 i hi
  refine ⟨a0, a1, a2, ?_⟩
  unfold upd
  rw [if_neg (by omega)]
  exact a3
theorem RR_b9 {i0 : Nat} (h : RR S I A) (hi0 : (S.2 4).length ≤ i0) : RR S I (uA A 9 (upd (A 9) i0 x)) := by
  obtain ⟨h1, h2, h3, h4, h5, h6⟩ := h
  refine ⟨h1, h2, h3, h4, h5, ?_⟩
  show ∀ i, i < (S.2 4).length → upd (A 9) i0 x i = tg (S.2 4) i 0 ∧ A 10 i = tg (S.2 4) i 1
  intro i hi
  obtain ⟨a0, a1⟩ := h6 i hi
  refine ⟨?_, a1⟩
  unfold upd
  rw [if_neg (by omega)]
  exact a0
theorem RR_b10 {i0 : Nat} (h : RR S I A) (hi0 : (S.2 4).length ≤ i0) : RR S I (uA A 10 (upd (A 10) i0 x)) := by
  obtain ⟨h1, h2, h3, h4, h5, h6⟩ := h
  refine ⟨h1, h2, h3, h4, h5, ?_⟩
  show ∀ i, i < (S.2 4).length → A 9 i = tg (S.2 4) i 0 ∧ upd (A 10) i0 x i = tg (S.2 4) i 1
  intro i hi
  obtain ⟨a0, a1⟩ := h6 i hi
  refine ⟨a0, ?_⟩
  unfold upd
  rw [if_neg (by omega)]
  exact a1
theorem RR_p3 (h : RR S I A) : RR (S.1, uT S.2 3 (S.2 3 ++ [[A 5 (S.2 3).length, A 6 (S.2 3).length, A 7 (S.2 3).length, A 8 (S.2 3).length]])) (upd I 6 (I 6 + 1)) A := by
  obtain ⟨⟨q1, q2, q3, q4⟩, h2, h3, h4, h5, h6⟩ := h
  refine ⟨⟨fun k hk => ?_, ?_, ?_, ?_⟩, h2, h3, h4, ?_, h6⟩
  · show upd I 6 _ k = _
    unfold upd
    rw [if_neg (by omega)]
    exact q1 k hk
  · show I 6 + 1 = nI (S.2 3 ++ [[A 5 (S.2 3).length, A 6 (S.2 3).length, A 7 (S.2 3).length, A 8 (S.2 3).length]]).length
    rw [q2, nI_1, List.length_append]
    rfl
  · exact q3
  · exact q4
  · show ∀ i, i < (S.2 3 ++ [[A 5 (S.2 3).length, A 6 (S.2 3).length, A 7 (S.2 3).length, A 8 (S.2 3).length]]).length → A 5 i = tg (S.2 3 ++ [[A 5 (S.2 3).length, A 6 (S.2 3).length, A 7 (S.2 3).length, A 8 (S.2 3).length]]) i 0 ∧ A 6 i = tg (S.2 3 ++ [[A 5 (S.2 3).length, A 6 (S.2 3).length, A 7 (S.2 3).length, A 8 (S.2 3).length]]) i 1 ∧ A 7 i = tg (S.2 3 ++ [[A 5 (S.2 3).length, A 6 (S.2 3).length, A 7 (S.2 3).length, A 8 (S.2 3).length]]) i 2 ∧ A 8 i = tg (S.2 3 ++ [[A 5 (S.2 3).length, A 6 (S.2 3).length, A 7 (S.2 3).length, A 8 (S.2 3).length]]) i 3
    intro i hi
    rw [List.length_append] at hi
    by_cases e : i < (S.2 3).length
    · simp only [tg_app e]
      exact h5 i e
    · have e1 : i = (S.2 3).length := by
        have : i < (S.2 3).length + 1 := hi
        omega
      subst e1
      simp only [tg_new]
      exact ⟨rfl, rfl, rfl, rfl⟩
theorem RR_p4 (h : RR S I A) : RR (S.1, uT S.2 4 (S.2 4 ++ [[A 9 (S.2 4).length, A 10 (S.2 4).length]])) (upd I 7 (I 7 + 1)) A := by
  obtain ⟨⟨q1, q2, q3, q4⟩, h2, h3, h4, h5, h6⟩ := h
  refine ⟨⟨fun k hk => ?_, ?_, ?_, ?_⟩, h2, h3, h4, h5, ?_⟩
  · show upd I 7 _ k = _
    unfold upd
    rw [if_neg (by omega)]
    exact q1 k hk
  · exact q2
  · show I 7 + 1 = nI (S.2 4 ++ [[A 9 (S.2 4).length, A 10 (S.2 4).length]]).length
    rw [q3, nI_1, List.length_append]
    rfl
  · exact q4
  · show ∀ i, i < (S.2 4 ++ [[A 9 (S.2 4).length, A 10 (S.2 4).length]]).length → A 9 i = tg (S.2 4 ++ [[A 9 (S.2 4).length, A 10 (S.2 4).length]]) i 0 ∧ A 10 i = tg (S.2 4 ++ [[A 9 (S.2 4).length, A 10 (S.2 4).length]]) i 1
    intro i hi
    rw [List.length_append] at hi
    by_cases e : i < (S.2 4).length
    · simp only [tg_app e]
      exact h6 i e
    · have e1 : i = (S.2 4).length := by
        have : i < (S.2 4).length + 1 := hi
        omega
      subst e1
      simp only [tg_new]
      exact ⟨rfl, rfl⟩
end RR
