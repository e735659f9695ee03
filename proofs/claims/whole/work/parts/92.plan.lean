/-! THE REFERENCE: a Plan that was read says the list. -/
theorem opI_mem {q : bIt} {p x : Nat} (h : x ∈ opI q p) : x = p + 1 ∧ lnI q = 2 := by
  obtain ⟨k, j⟩ := q
  cases j with
  | none => exact absurd h List.not_mem_nil
  | some j =>
    have h2 : x ∈ (if k = 31 then [] else if isNm k then [p + 1] else []) := h
    show x = p + 1 ∧ (if k = 31 then 2 else if isNm k then 2 else 1) = 2
    by_cases a : k = 31
    · rw [if_pos a] at h2
      exact absurd h2 List.not_mem_nil
    · rw [if_neg a] at h2 ⊢
      by_cases b : isNm k
      · rw [if_pos b] at h2 ⊢
        exact ⟨List.mem_singleton.mp h2, rfl⟩
      · rw [if_neg b] at h2
        exact absurd h2 List.not_mem_nil
theorem opL_mem : ∀ (l : List bIt) (p x : Nat), x ∈ opL l p → p < x ∧ x < p + lnL l
  | [], _, _, h => absurd h List.not_mem_nil
  | q :: l, p, x, h => by
    show p < x ∧ x < p + (lnI q + lnL l)
    rcases List.mem_append.mp h with h | h
    · obtain ⟨a, b⟩ := opI_mem h
      omega
    · have := opL_mem l _ x h
      have := (lnI_2 (q := q)).1
      omega
/-- each place stands once among those that are open -/
theorem opL_nd : ∀ (l : List bIt) (p k : Nat), k < (opL l p).length → ¬ (opL l p).getD k 0 ∈ (opL l p).take k
  | [], _, k, h, _ => absurd h (Nat.not_lt_zero k)
  | q :: l, p, k, h, hm => by
    have e : opL (q :: l) p = opI q p ++ opL l (p + lnI q) := rfl
    rw [e] at h hm
    rw [List.length_append] at h
    rw [List.getD_eq_getElem?_getD] at hm
    have h1 : (opI q p).length ≤ 1 := by
      cases hq : opI q p with
      | nil => exact Nat.zero_le 1
      | cons a r =>
        obtain ⟨k', j'⟩ := q
        cases j' with
        | none => exact absurd hq.symm (List.cons_ne_nil a r)
        | some j' =>
          have h2 : (if k' = 31 then [] else if isNm k' then [p + 1] else []) = a :: r := hq
          by_cases x : k' = 31
          · rw [if_pos x] at h2
            exact absurd h2.symm (List.cons_ne_nil a r)
          · rw [if_neg x] at h2
            by_cases z : isNm k'
            · rw [if_pos z] at h2
              rw [← h2]
              exact Nat.le_refl 1
            · rw [if_neg z] at h2
              exact absurd h2.symm (List.cons_ne_nil a r)
    by_cases hk : k < (opI q p).length
    · have : k = 0 := by omega
      subst this
      exact absurd hm List.not_mem_nil
    · rw [List.getElem?_append_right (by omega), List.take_append, List.mem_append] at hm
      have hk2 : k - (opI q p).length < (opL l (p + lnI q)).length := by omega
      have hg : (opL l (p + lnI q))[k - (opI q p).length]?.getD 0 = (opL l (p + lnI q)).getD (k - (opI q p).length) 0 := (List.getD_eq_getElem?_getD ..).symm
      rw [hg] at hm
      rcases hm with hm | hm
      · have m1 := opI_mem (List.mem_of_mem_take hm)
        have m2 : (opL l (p + lnI q)).getD (k - (opI q p).length) 0 ∈ opL l (p + lnI q) := by
          rw [gD_lt hk2]
          exact List.getElem_mem hk2
        have := opL_mem l _ _ m2
        omega
      · exact opL_nd l _ _ hk2 hm
def cellOK (nv vl : Nat → Int32) (fc : Nat → Int32) (q : bIt) (p : Nat) : Prop := match q.2 with
  | none => fc p = oW q.1
  | some j => if q.1 = 31 then fc p = 30 ∧ fc (p + 1) = nv j else if isNm q.1 then fc p = oW q.1 ∧ fc (p + 1) = vl j else fc p = oW q.1
def mtch (nv vl : Nat → Int32) (fc : Nat → Int32) : List bIt → Nat → Prop
  | [], _ => True
  | q :: l, p => cellOK nv vl fc q p ∧ mtch nv vl fc l (p + lnI q)
theorem mtch_app {nv vl fc : Nat → Int32} : ∀ (a b : List bIt) (p : Nat), mtch nv vl fc (a ++ b) p → mtch nv vl fc a p ∧ mtch nv vl fc b (p + lnL a)
  | [], _, _, h => ⟨trivial, h⟩
  | q :: a, b, p, h => by
    obtain ⟨h1, h2⟩ := h
    obtain ⟨h3, h4⟩ := mtch_app a b _ h2
    refine ⟨⟨h1, h3⟩, ?_⟩
    show mtch nv vl fc b (p + (lnI q + lnL a))
    rw [← Nat.add_assoc]
    exact h4
/-- the integers, with the names' numbers put in, match the steps -/
theorem mtch_of {nv vl fc : Nat → Int32} {N : Nat} (hN : N ≤ 401) : ∀ (l a : List bIt), (∀ q ∈ l, ∀ j, q.2 = some j → isNm q.1 → j < N) →
    (∀ x, x < lnL (a ++ l) → fc x = if x ∈ opL (a ++ l) 0 then vl ((rcL nv (a ++ l)).getD x 0).toNatClampNeg else (rcL nv (a ++ l)).getD x 0) → mtch nv vl fc l (lnL a)
  | [], _, _, _ => trivial
  | q :: l, a, hj, h => by
    have ln : lnL (a ++ q :: l) = lnL a + (lnI q + lnL l) := by
      have := rcL_len (nv := nv) (a ++ q :: l)
      rw [rcL_app, List.length_append, rcL_len, rcL_len] at this
      exact this.symm
    have cel : ∀ i, i < lnI q → (rcL nv (a ++ q :: l)).getD (lnL a + i) 0 = (rcI nv q).getD i 0 := fun i hi => by
      rw [rcL_app, List.getD_eq_getElem?_getD, List.getElem?_append_right (by rw [rcL_len]; omega), rcL_len, Nat.add_sub_cancel_left]
      show (rcI nv q ++ rcL nv l)[i]?.getD 0 = _
      rw [List.getElem?_append_left (by rw [rcI_len]; exact hi), List.getD_eq_getElem?_getD]
    have mem : ∀ i, i < lnI q → (lnL a + i ∈ opL (a ++ q :: l) 0 ↔ lnL a + i ∈ opI q (lnL a)) := fun i hi => by
      rw [opL_app, Nat.zero_add, List.mem_append]
      show (_ ∨ _ ∈ opI q (lnL a) ++ opL l (lnL a + lnI q)) ↔ _
      rw [List.mem_append]
      constructor
      · rintro (h1 | h1 | h1)
        · have := opL_mem a 0 _ h1
          omega
        · exact h1
        · have := opL_mem l _ _ h1
          omega
      · exact fun h1 => Or.inr (Or.inl h1)
    have hx : ∀ i, i < lnI q → fc (lnL a + i) = if lnL a + i ∈ opI q (lnL a) then vl ((rcI nv q).getD i 0).toNatClampNeg else (rcI nv q).getD i 0 := fun i hi => by
      rw [h _ (by omega), cel i hi]
      by_cases z : lnL a + i ∈ opI q (lnL a)
      · rw [if_pos z, if_pos ((mem i hi).mpr z)]
      · rw [if_neg z, if_neg (fun w => z ((mem i hi).mp w))]
    refine ⟨?_, ?_⟩
    · obtain ⟨k, j⟩ := q
      cases j with
      | none =>
        have h0 := hx 0 (Nat.lt_of_lt_of_le Nat.zero_lt_one lnI_2.1)
        rw [if_neg (fun z => absurd (opI_mem z).1 (by omega))] at h0
        exact h0
      | some j =>
        show if k = 31 then fc (lnL a) = 30 ∧ fc (lnL a + 1) = nv j else if isNm k then fc (lnL a) = oW k ∧ fc (lnL a + 1) = vl j else fc (lnL a) = oW k
        have h0 := hx 0 (Nat.lt_of_lt_of_le Nat.zero_lt_one lnI_2.1)
        rw [if_neg (fun z => absurd (opI_mem z).1 (by omega))] at h0
        have hr : rcI nv (k, some j) = if k = 31 then [30, nv j] else if isNm k then [oW k, nI j] else [oW k] := rfl
        have hn : lnI (k, some j) = if k = 31 then 2 else if isNm k then 2 else 1 := rfl
        have ho : opI (k, some j) (lnL a) = if k = 31 then [] else if isNm k then [lnL a + 1] else [] := rfl
        rw [hr] at h0
        rw [hr, hn, ho] at hx
        by_cases a1 : k = 31
        · rw [if_pos a1] at h0 ⊢
          rw [if_pos a1, if_pos a1, if_pos a1] at hx
          have h1 := hx 1 (by decide)
          rw [if_neg List.not_mem_nil] at h1
          exact ⟨h0, h1⟩
        · rw [if_neg a1] at h0 ⊢
          rw [if_neg a1, if_neg a1, if_neg a1] at hx
          by_cases b1 : isNm k
          · rw [if_pos b1] at h0 ⊢
            rw [if_pos b1, if_pos b1, if_pos b1] at hx
            have h1 := hx 1 (by decide)
            rw [if_pos (List.mem_singleton.mpr rfl)] at h1
            have h2 : fc (lnL a + 1) = vl (nI j).toNatClampNeg := h1
            have hj2 := hj (k, some j) List.mem_cons_self j rfl b1
            rw [nI_clamp (by omega)] at h2
            exact ⟨h0, h2⟩
          · rw [if_neg b1] at h0 ⊢
            exact h0
    · have e : a ++ q :: l = (a ++ [q]) ++ l := by rw [List.append_assoc]; rfl
      have ea : lnL (a ++ [q]) = lnL a + lnI q := by
        have := rcL_len (nv := nv) (a ++ [q])
        rw [rcL_app, List.length_append, rcL_len, rcL_len] at this
        exact this.symm
      rw [← ea]
      rw [e] at h
      exact mtch_of hN l (a ++ [q]) (fun q' hq' => hj q' (List.mem_cons_of_mem q hq')) h
section PL
variable {P : Nat → bT} {Kd nv vl fc : Nat → Int32} {rw : bT}
/-- the rows of the component's code from i on are these steps -/
def rwAt (P : Nat → bT) (rw : bT) : List bIt → Nat → Prop
  | [], _ => True
  | q :: l, i => (rG (P 4) (nI i) 0 = q.1 ∧ rG (P 4) (nI i) 1 = vlF rw q.2 ∧ rG (P 4) (nI i) 2 = sdF q.1) ∧ rwAt P rw l (i + 1)
theorem rwAt_of : ∀ (l a : List bIt) (b : List bIt), P 4 = (a ++ (l ++ b)).map (rwF rw) → (a ++ (l ++ b)).length < 2 ^ 31 → rwAt P rw l a.length
  | [], _, _, _, _ => trivial
  | q :: l, a, b, h, hl => by
    have hi : a.length < 2 ^ 31 := by rw [List.length_append] at hl; omega
    have e : ∀ c, rG (P 4) (nI a.length) c = (rwF rw q).getD c 0 := fun c => by
      have hg : ((a ++ (q :: l ++ b)).map (rwF rw)).getD a.length [] = rwF rw q := by
        rw [List.getD_eq_getElem?_getD, List.map_append, List.getElem?_append_right (by rw [List.length_map]; exact Nat.le_refl _), List.length_map, Nat.sub_self]
        rfl
      rw [rG_nI hi, h]
      unfold tg
      rw [hg]
    refine ⟨⟨e 0, e 1, e 2⟩, ?_⟩
    have e2 : a ++ (q :: l ++ b) = (a ++ [q]) ++ (l ++ b) := by simp only [List.append_assoc, List.cons_append, List.nil_append]
    have e3 : (a ++ [q]).length = a.length + 1 := List.length_append
    rw [← e3]
    rw [e2] at h hl
    exact rwAt_of l (a ++ [q]) b h hl
theorem evN_O {S : bS} : ∀ (l : List bIt) (i : Nat) (stk : List Int32), rwAt P rw l i → evN P S l.length i stk = evO S (fun q => vlF rw q.2) l stk
  | [], _, _, _ => rfl
  | q :: l, i, stk, h => by
    obtain ⟨⟨h0, h1, h2⟩, h3⟩ := h
    show evN P S l.length (i + 1) (ev1 S _ _ _ stk) = _
    rw [h0, h1, h2]
    exact evN_O l (i + 1) _ h3
theorem wf_of : ∀ (l : List bIt) (i k k' : Nat), rwAt P rw l i → wI Kd l k k' → wfN P l.length i k
  | [], _, _, _, _, _ => trivial
  | q :: l, i, k, k', h, w => by
    obtain ⟨⟨h0, h1, h2⟩, h3⟩ := h
    show (_ ∧ _ ∧ _) ∨ (_ ∧ _ ∧ _) ∨ (_ ∧ _ ∧ _)
    rw [h2]
    rcases w with ⟨w1, w2, _, w4⟩ | ⟨w1, w2, _, w4⟩ | ⟨w1, w2, w4⟩
    · exact Or.inl ⟨w1, w2, wf_of l _ _ _ h3 w4⟩
    · exact Or.inr (Or.inl ⟨w1, w2, wf_of l _ _ _ h3 w4⟩)
    · exact Or.inr (Or.inr ⟨w1, w2, wf_of l _ _ _ h3 w4⟩)
theorem kB_of {k : Int32} (h : sdF k = 2) : kB k (oW k) := by
  unfold sdF at h
  by_cases h1 : k = 25 ∨ k = 48
  · rw [if_pos h1] at h
    exact absurd h (by decide)
  · rw [if_neg h1] at h
    by_cases h2 : k = 38 ∨ k = 39 ∨ k = 40 ∨ k = 41 ∨ k = 42 ∨ k = 43 ∨ k = 44 ∨ k = 45 ∨ k = 46 ∨ k = 26 ∨ k = 27 ∨ k = 28 ∨ k = 29
    · unfold kB
      rcases h2 with rfl | rfl | rfl | rfl | rfl | rfl | rfl | rfl | rfl | rfl | rfl | rfl | rfl <;> decide
    · rw [if_neg h2] at h
      exact absurd h (by decide)
theorem kU_of {k : Int32} (h : k = 48 ∨ k = 25) : kU k (oW k) := by
  unfold kU
  rcases h with rfl | rfl <;> decide
theorem kP_al {k : Int32} (h : k = 18 ∨ k = 23 ∨ k = 24) : kP k (oW k) := by
  unfold kP
  rcases h with rfl | rfl | rfl <;> decide
theorem kP_nm {k : Int32} (h : isNm k) : kP k (oW k) := by
  unfold kP
  rcases h with rfl | rfl | rfl | rfl | rfl <;> decide
theorem kP_31 : kP 31 30 := by
  unfold kP
  decide
theorem sd_op {k : Int32} (h : ¬ sdF k = 0) : ¬ k = 31 ∧ ¬ isNm k := by
  refine ⟨fun e => h (by rw [e]; decide), fun e => h ?_⟩
  rcases e with rfl | rfl | rfl | rfl | rfl <;> decide
theorem cell_op {nv vl fc : Nat → Int32} {q : bIt} {p : Nat} (h : ¬ sdF q.1 = 0) (c : cellOK nv vl fc q p) : fc p = oW q.1 ∧ lnI q = 1 := by
  obtain ⟨a, b⟩ := sd_op h
  obtain ⟨x, jj⟩ := q
  cases jj with
  | none => exact ⟨c, rfl⟩
  | some j =>
    have c2 : if x = 31 then fc p = 30 ∧ fc (p + 1) = nv j else if isNm x then fc p = oW x ∧ fc (p + 1) = vl j else fc p = oW x := c
    rw [if_neg a, if_neg b] at c2
    refine ⟨c2, ?_⟩
    show (if x = 31 then 2 else if isNm x then 2 else 1) = 1
    rw [if_neg a, if_neg b]
/-- the reference's integers say the component's rows -/
theorem sg_of (hn : ∀ j, Kd j = 31 → vL rw j = nv j) (hm : ∀ j, Kd (j + 1) = 30 → isNm (Kd j) → vl (j + 1) = vL rw (j + 1)) (hr : ∀ j, Kd (j + 1) = 30 → (Kd j = 2 ∨ Kd j = 19 ∨ Kd j = 20) → ∃ b, b < (P 0).length ∧ vL rw (j + 1) = nI b) :
    ∀ (l : List bIt) (i p k : Nat), rwAt P rw l i → mtch nv vl fc l p → wI Kd l k 1 → sgR P fc l.length i p (p + lnL l) k
  | [], _, p, k, _, _, w => ⟨(Nat.add_zero p).symm, w⟩
  | q :: l, i, p, k, h, m, w => by
    obtain ⟨⟨h0, h1, h2⟩, h3⟩ := h
    obtain ⟨m1, m2⟩ := m
    have ih := fun k w => sg_of hn hm hr l (i + 1) (p + lnI q) k h3 m2 w
    have he : p + lnL (q :: l) = p + lnI q + lnL l := (Nat.add_assoc ..).symm
    rw [he]
    show (_ ∧ _ ∧ _ ∧ _ ∧ _) ∨ (_ ∧ _ ∧ _ ∧ _ ∧ _) ∨ (_ ∧ _ ∧ _ ∧ _ ∧ _)
    rw [h2, h0, h1]
    obtain ⟨x, jj⟩ := q
    rcases w with ⟨w1, w2, w3, w4⟩ | ⟨w1, w2, w3, w4⟩ | ⟨w1, w2, w4⟩
    · obtain ⟨j, e, w3⟩ := w3
      have e : jj = some j := e
      subst e
      have m1 : if x = 31 then fc p = 30 ∧ fc (p + 1) = nv j else if isNm x then fc p = oW x ∧ fc (p + 1) = vl j else fc p = oW x := m1
      have ihl := ih (k + 1) w4
      have hl : lnI (x, some j) = if x = 31 then 2 else if isNm x then 2 else 1 := rfl
      rw [hl] at ihl ⊢
      refine Or.inl ⟨w1, w2, ?_⟩
      rcases w3 with ⟨c, kj⟩ | ⟨c, kj, i', ei, ki⟩
      · by_cases x31 : x = 31
        · rw [if_pos x31] at m1 ihl ⊢
          subst x31
          refine ⟨by rw [m1.1]; exact kP_31, fun z => absurd (show (31 : Int32) = 2 ∨ (31 : Int32) = 19 ∨ (31 : Int32) = 20 from z) (by decide), Or.inl ⟨m1.1, ?_, by omega, ihl⟩⟩
          rw [m1.2]
          exact (hn j kj).symm
        · have c2 : x = 18 ∨ x = 23 ∨ x = 24 := c.resolve_left x31
          have nn : ¬ isNm x := by rcases c2 with e | e | e <;> rw [e] <;> decide
          rw [if_neg x31, if_neg nn] at m1 ihl ⊢
          refine ⟨by rw [m1]; exact kP_al c2, fun z => by
            have z : x = 2 ∨ x = 19 ∨ x = 20 := z
            rcases c2 with e | e | e <;> rw [e] at z <;> exact absurd z (by decide), Or.inr (Or.inr ⟨by rw [m1]; rcases c2 with e | e | e <;> rw [e] <;> decide, by omega, ihl⟩)⟩
      · subst ei
        have c : isNm x := c
        have ki : Kd i' = x := ki
        have x31 : ¬ x = 31 := by rcases c with e | e | e | e | e <;> rw [e] <;> decide
        have ci : isNm (Kd i') := by rw [ki]; exact c
        rw [if_neg x31, if_pos c] at m1 ihl ⊢
        refine ⟨by rw [m1.1]; exact kP_nm c, fun z => hr i' kj (by rw [ki]; exact z), Or.inr (Or.inl ⟨by rw [m1.1]; rcases c with e | e | e | e | e <;> rw [e] <;> decide, by rw [m1.1]; rcases c with e | e | e | e | e <;> rw [e] <;> decide, ?_, by omega, ihl⟩)⟩
        rw [m1.2]
        exact hm i' kj ci
    · obtain ⟨m3, m4⟩ := cell_op (by show ¬ sdF x = 0; rw [show sdF x = 1 from w1]; decide) m1
      have ihl := ih k w4
      rw [m4] at ihl ⊢
      exact Or.inr (Or.inl ⟨w1, w2, by rw [m3]; exact kU_of w3, by omega, ihl⟩)
    · obtain ⟨m3, m4⟩ := cell_op (by show ¬ sdF x = 0; rw [show sdF x = 2 from w1]; decide) m1
      have ihl := ih (k - 1) w4
      rw [m4] at ihl ⊢
      exact Or.inr (Or.inr ⟨w1, w2, by rw [m3]; exact kB_of w1, by omega, ihl⟩)
end PL
