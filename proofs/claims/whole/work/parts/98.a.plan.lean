/-! THE REFERENCE: a list that was read without an error: its Plan, and the component's tables. -/
theorem tkL_mid {T : List Int32} : ∀ (k i p j : Nat), j + 1 < (tkL T k i p).length → ∃ t, (tkL T k i p)[j]? = some t ∧ ¬ t.1 = 47 ∧ ¬ t.1 = 0
  | 0, _, _, j, h => absurd h (Nat.not_lt_zero _)
  | k + 1, i, p, j, h => by
    rw [tkL_1] at h ⊢
    by_cases c : tkK T i (skP T p) = 47 ∨ tkK T i (skP T p) = 0
    · rw [if_pos c] at h
      have : j + 1 < 1 := h
      omega
    · rw [if_neg c] at h ⊢
      cases j with
      | zero => exact ⟨_, rfl, fun z => c (Or.inl z), fun z => c (Or.inr z)⟩
      | succ j =>
        rw [List.length_cons] at h
        rw [List.getElem?_cons_succ]
        exact tkL_mid k (i + 1) _ j (by omega)
theorem kk_mid {T : List Int32} {j : Nat} (h : j + 1 < (toks T).length) : ¬ kkF (toks T) j = 47 ∧ ¬ kkF (toks T) j = 0 := by
  obtain ⟨t, t1, t2⟩ := tkL_mid 401 0 0 j h
  unfold kkF
  rw [show (toks T)[j]? = some t from t1]
  exact t2
theorem kk_out {T : List Int32} {j : Nat} (h : (toks T).length ≤ j) : kkF (toks T) j = 47 := by
  unfold kkF
  rw [List.getElem?_eq_none h]
  rfl
theorem lnL_app {a b : List bIt} : lnL (a ++ b) = lnL a + lnL b := by
  have := rcL_len (nv := fun _ => 0) (a ++ b)
  rw [rcL_app, List.length_append, rcL_len, rcL_len] at this
  exact this.symm
section PL
variable {P : Nat → bT} {Kd nv vl : Nat → Int32} {rw : bT} {W : rW} {Cb : rA} {C : rA} {K : rI} {f : Nat → Int32} {g : Nat → Int64} {rows : bT} {E o N : Nat} {od : Int32} {it : List bIt}
/-- a part of the code: what the two sides make of it -/
theorem seg_of {a b tag : Nat} (hP4 : P 4 = it.map (rwF rw)) (hl : it.length ≤ 400) (hm : mtch nv vl (C 13) it 0) (hs : sgT Kd tag it a b) (ht : tag = 3 ∨ tag = 8)
    (hn : ∀ j, Kd j = 31 → vL rw j = nv j) (hmn : ∀ j, Kd (j + 1) = 30 → isNm (Kd j) → vl (j + 1) = vL rw (j + 1)) (hr : ∀ j, Kd (j + 1) = 30 → (Kd j = 2 ∨ Kd j = 19 ∨ Kd j = 20) → ∃ b, b < (P 0).length ∧ vL rw (j + 1) = nI b) :
    a < b ∧ pos it a < pos it b ∧ sgR P (C 13) (b - a) a (pos it a) (pos it b) 0 ∧ wfN P (b - a) a 0 ∧ (tag = 8 → ∀ S : bS, ∃ x, B01 x ∧ evN P S (b - a) a [] = [x]) := by
  obtain ⟨h1, h2, h3⟩ := hs
  have nr : ¬ rsT tag := by rcases ht with rfl | rfl <;> decide
  have hd : ndT tag ≤ 5 := by rcases ht with rfl | rfl <;> decide
  have hw := h3.1 0 (by omega) (fun z => absurd z nr)
  rw [if_neg nr] at hw
  have el : ((it.take b).drop a).length = b - a := by rw [List.length_drop, List.length_take, Nat.min_eq_left h2]
  have e3 : it = it.take a ++ ((it.take b).drop a ++ it.drop b) := by
    have e1 : it.take b = it.take a ++ (it.take b).drop a := by
      have := (List.take_append_drop a (it.take b)).symm
      rw [List.take_take, Nat.min_eq_left h1] at this
      exact this
    rw [← List.append_assoc, ← e1, List.take_append_drop]
  have ea : (it.take a).length = a := by rw [List.length_take, Nat.min_eq_left (by omega)]
  have hat : rwAt P rw ((it.take b).drop a) a := by
    have := rwAt_of (P := P) (rw := rw) ((it.take b).drop a) (it.take a) (it.drop b) (by rw [← e3]; exact hP4) (by rw [← e3]; omega)
    rw [ea] at this
    exact this
  have hmt : mtch nv vl (C 13) ((it.take b).drop a) (pos it a) := by
    rw [e3] at hm
    have := (mtch_app _ _ _ (mtch_app _ _ _ hm).2).1
    rw [Nat.zero_add] at this
    exact this
  have ep : pos it b = pos it a + lnL ((it.take b).drop a) := by
    unfold pos
    rw [← lnL_app]
    congr 1
    have := (List.take_append_drop a (it.take b)).symm
    rw [List.take_take, Nat.min_eq_left h1] at this
    exact this
  have hne : ¬ (it.take b).drop a = [] := fun z => by
    rw [z] at hw
    exact absurd (show (0 : Nat) = 1 from hw) (by decide)
  have hpos : 1 ≤ lnL ((it.take b).drop a) ∧ 1 ≤ ((it.take b).drop a).length := by
    cases hq : (it.take b).drop a with
    | nil => exact absurd hq hne
    | cons q l =>
      have := (lnI_2 (q := q)).1
      exact ⟨by show 1 ≤ lnI q + lnL l; omega, Nat.succ_pos _⟩
  refine ⟨by omega, by omega, ?_, ?_, fun h8 S => ?_⟩
  · have := sg_of (fc := C 13) hn hmn hr _ a (pos it a) 0 hat hmt hw
    rw [el, ← ep] at this
    exact this
  · have := wf_of _ a 0 _ hat hw
    rw [el] at this
    exact this
  · subst h8
    obtain ⟨x, hx, e⟩ := h3.2 S (fun q => vlF rw q.2) []
    refine ⟨x, hx, ?_⟩
    rw [← el, evN_O _ a [] hat]
    exact e
/-- what a Plan must be for the hours -/
theorem plan_ok (hLR : LR Kd rw (E, P, od) it W) (hZ : ZR f g rows Kd nv Cb E P) (hl : it.length ≤ 400) (hC : ∀ j, j < 10 → C j = zA f g rows Kd nv Cb E j) (hC1 : C 10 = W.2.1) (hC2 : C 11 = W.2.2.1) (hC3 : C 12 = W.2.2.2)
    (hK : ∀ m, m < 3 → K m = nI (nmI Kd m E).length) (hK3 : K 3 = nI (noI Kd E)) (hm : mtch nv vl (C 13) it 0) (hlen : ∀ m, m < 3 → (nmI Kd m E).length ≤ rmF m)
    (hn : ∀ j, Kd j = 31 → vL rw j = nv j) (hmn : ∀ j, Kd (j + 1) = 30 → isNm (Kd j) → vl (j + 1) = vL rw (j + 1)) (hr : ∀ j, Kd (j + 1) = 30 → (Kd j = 2 ∨ Kd j = 19 ∨ Kd j = 20) → ∃ b, b < (P 0).length ∧ vL rw (j + 1) = nI b) :
    RP P K C ∧ WP P ∧ OV P ∧ (shT (P 0) 2 5 ∧ shT (P 1) 2 6 ∧ shT (P 2) 3 6 ∧ shT (P 3) 7 24 ∧ shT (P 4) 3 400) ∧ (∀ i, i < (P 0).length → ∃ k, 1 ≤ k ∧ k ≤ 9 ∧ tg (P 0) i 1 = nI k) ∧ (∀ i, i < (P 1).length → ∃ k, 1 ≤ k ∧ k ≤ 6 ∧ tg (P 1) i 1 = nI k) := by
  obtain ⟨g1, g2, g3, g4, g5, _⟩ := hLR
  have g1 : P 4 = it.map (rwF rw) := g1
  have g2 : (P 3).length = min W.1 24 := g2
  have g3 : ∀ q ∈ P 3, q.length = 7 := g3
  have g5 : ∀ o, o < (P 3).length → LRo Kd it W (P 3) o := g5
  obtain ⟨⟨l0, l1, l2, l3⟩, ⟨w0, w1, w2⟩, z0, z1, z2, z3, y0, y1⟩ := hZ
  have h0 := hlen 0 (by decide)
  have h1 := hlen 1 (by decide)
  have h2 := hlen 2 (by decide)
  have r0 : rmF 0 = 5 := rfl
  have r1 : rmF 1 = 6 := rfl
  have r2 : rmF 2 = 6 := rfl
  have h24 : (P 3).length ≤ 24 := by omega
  have rg : ∀ o c, o < (P 3).length → rG (P 3) (nI o) c = tg (P 3) o c := fun o c ho => rG_nI (by omega)
  have hpl : lnL it ≤ 800 := by have := lnL_le it; omega
  have pl : ∀ b, b ≤ it.length → pos it b ≤ 800 := fun b hb => by
    have e : lnL it = pos it b + lnL (it.drop b) := by
      unfold pos
      rw [← lnL_app, List.take_append_drop]
    omega
  have tst : ∀ o, o < (P 3).length → ∃ a b, tg (P 3) o 5 = nI a ∧ tg (P 3) o 6 = nI b ∧ C 11 o = nI (pos it a) ∧ C 12 o = nI (pos it b) ∧ a ≤ b ∧ b ≤ it.length ∧ ((a = b) ∨ (a < b ∧ pos it a < pos it b ∧ sgR P (C 13) (b - a) a (pos it a) (pos it b) 0 ∧ wfN P (b - a) a 0 ∧ ∀ S : bS, ∃ x, B01 x ∧ evN P S (b - a) a [] = [x])) := fun o ho => by
    obtain ⟨_, ⟨a, b, e1, e2, e3, e4, e5, e6, e7⟩, _⟩ := g5 o ho
    refine ⟨a, b, e1, e2, by rw [hC2]; exact e3, by rw [hC3]; exact e4, e5, e6, e7.imp id fun s => ?_⟩
    obtain ⟨q1, q2, q3, q4, q5⟩ := seg_of (C := C) g1 hl hm s (Or.inr rfl) hn hmn hr
    exact ⟨q1, q2, q3, q4, q5 rfl⟩
  have sum : ∀ o, o < (P 3).length → tg (P 3) o 0 = 11 → ∃ a b, tg (P 3) o 3 = nI a ∧ tg (P 3) o 4 = nI b ∧ C 10 o = nI (pos it a) ∧ C 11 o = nI (pos it b) ∧ a ≤ b ∧ b ≤ it.length ∧ pos it a < pos it b ∧ sgR P (C 13) (b - a) a (pos it a) (pos it b) 0 ∧ wfN P (b - a) a 0 := fun o ho h11 => by
    obtain ⟨s0, _, _⟩ := g5 o ho
    obtain ⟨a, b, e1, e2, e3, e4, e5⟩ := s0 h11
    obtain ⟨q1, q2, q3, q4, q5⟩ := seg_of (C := C) g1 hl hm e5 (Or.inl rfl) hn hmn hr
    exact ⟨a, b, e1, e2, by rw [hC1]; exact e3, by rw [hC2]; exact e4, e5.1, e5.2.1, q2, q3, q4⟩
  refine ⟨⟨fun k hk => ?_, fun i hi => ?_, fun i hi => ?_, fun i hi => ?_, fun o ho => ?_⟩, fun o ho => ⟨?_, fun h11 => ?_⟩, fun o ho h15 => ?_, ⟨⟨by omega, w0⟩, ⟨by omega, w1⟩, ⟨by omega, w2⟩, ⟨h24, g3⟩, ⟨?_, ?_⟩⟩, y0, y1⟩
  · have : k = 0 ∨ k = 1 ∨ k = 2 ∨ k = 3 := by omega
    rcases this with rfl | rfl | rfl | rfl
    · rw [hK 0 (by decide), l0]
    · rw [hK 1 (by decide), l1]
    · rw [hK 2 (by decide), l2]
    · rw [hK3, l3]
  · rw [hC 0 (by decide), hC 1 (by decide)]
    exact z0 i hi
  · rw [hC 2 (by decide), hC 3 (by decide)]
    exact z1 i hi
  · rw [hC 4 (by decide), hC 5 (by decide), hC 6 (by decide)]
    exact z2 i hi
  · obtain ⟨x1, x2, x3, x4⟩ := z3 o ho
    unfold OP
    rw [rg o 0 ho, rg o 1 ho, rg o 2 ho, hC 7 (by decide), hC 8 (by decide), hC 9 (by decide)]
    refine ⟨x1, fun h11 => ⟨?_, ?_⟩, fun h13 => ⟨?_, ?_⟩, fun h15 => ⟨?_, ?_⟩, ?_, fun S => ?_⟩
    · obtain ⟨a1, b, b1, b2⟩ := x2 h11
      exact ⟨b, b1, b2, a1.trans b2⟩
    · obtain ⟨a, b, e1, e2, e3, e4, e5, e6, e7, e8, _⟩ := sum o ho h11
      exact ⟨pos it a, pos it b, e3, e4, ⟨a, b - a, (rg o 3 ho).trans e1, (rg o 4 ho).trans (by rw [e2, show a + (b - a) = b by omega]), by omega, pl b e6, Or.inr ⟨e7, e8⟩⟩, e7⟩
    · obtain ⟨a1, a2, ⟨b, b1, b2⟩, _⟩ := x3 h13
      exact ⟨b, b1, b2, a1.trans b2⟩
    · obtain ⟨a1, a2, _, b, b1, b2⟩ := x3 h13
      exact ⟨b, b1, b2, a2.trans b2⟩
    · obtain ⟨a1, a2, ⟨b, b1, b2⟩, _⟩ := x4 h15
      exact ⟨b, b1, b2, a1.trans b2⟩
    · obtain ⟨a1, a2, _, b, b1, b2⟩ := x4 h15
      exact ⟨b, b1, b2, a2.trans b2⟩
    · obtain ⟨a, b, e1, e2, e3, e4, e5, e6, e7⟩ := tst o ho
      refine ⟨pos it a, pos it b, e3, e4, a, b - a, (rg o 5 ho).trans e1, (rg o 6 ho).trans (by rw [e2, show a + (b - a) = b by omega]), by omega, pl b e6, ?_⟩
      rcases e7 with rfl | ⟨_, e8, e9, _⟩
      · exact Or.inl ⟨Nat.sub_self _, rfl⟩
      · exact Or.inr ⟨e8, e9⟩
    · obtain ⟨a, b, e1, e2, e3, e4, e5, e6, e7⟩ := tst o ho
      have hb : b = a + (b - a) := by omega
      rw [rck_sg (S := S) (i := a) (c := b - a) ((rg o 5 ho).trans e1) ((rg o 6 ho).trans (by rw [e2, ← hb])) (by omega)]
      rcases e7 with rfl | ⟨_, _, _, _, e10⟩
      · rw [Nat.sub_self]
        exact Or.inr rfl
      · obtain ⟨x, hx, e⟩ := e10 S
        rw [e]
        exact hx
  · obtain ⟨a, b, e1, e2, e3, e4, e5, e6, e7⟩ := tst o ho
    refine ⟨a, b, (rg o 5 ho).trans e1, (rg o 6 ho).trans e2, e5, by omega, ?_⟩
    rcases e7 with rfl | ⟨_, _, _, e9, _⟩
    · rw [Nat.sub_self]
      exact trivial
    · exact e9
  · rw [rg o 0 ho] at h11
    obtain ⟨a, b, e1, e2, e3, e4, e5, e6, e7, e8, e9⟩ := sum o ho h11
    exact ⟨a, b, (rg o 3 ho).trans e1, (rg o 4 ho).trans e2, e5, by omega, e9⟩
  · rw [rg o 0 ho] at h15
    obtain ⟨_, _, _, x4⟩ := z3 o ho
    obtain ⟨a1, a2, ⟨b, b1, b2⟩, _⟩ := x4 h15
    exact ⟨b, b1, (rg o 1 ho).trans b2⟩
  · rw [g1, List.length_map]
    exact hl
  · rw [g1]
    intro q hq
    obtain ⟨x, _, rfl⟩ := List.mem_map.mp hq
    rfl
end PL
