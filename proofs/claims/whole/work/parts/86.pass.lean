/-! THE CHECK, TOKEN BY TOKEN. -/
/-- the checker's state ahead of token i, if no token ahead of it is wrong -/
def ckS (f : Nat → Int32) (g : Nat → Int64) (rows : bT) : Nat → bC
  | 0 => (fun _ => [], 0, rows)
  | i + 1 => (ck1 f g i (ckS f g rows i)).2
def ckE (f : Nat → Int32) (g : Nat → Int64) (rows : bT) (i : Nat) : Int32 := (ck1 f g i (ckS f g rows i)).1
theorem ckL_r {f : Nat → Int32} {g : Nat → Int64} {rows : bT} : ∀ (c i : Nat) (et : Int32),
    (∃ k, i ≤ k ∧ k < i + c ∧ (∀ j, i ≤ j → j < k → ckE f g rows j = 0) ∧ ¬ ckE f g rows k = 0 ∧ ckL f g c i (0, et, ckS f g rows i) = (ckE f g rows k, nI k, ckS f g rows (k + 1))) ∨
    ((∀ j, i ≤ j → j < i + c → ckE f g rows j = 0) ∧ (ckL f g c i (0, et, ckS f g rows i)).1 = 0 ∧ (ckL f g c i (0, et, ckS f g rows i)).2.2 = ckS f g rows (i + c))
  | 0, i, et => Or.inr ⟨fun j h1 h2 => absurd h2 (by omega), rfl, rfl⟩
  | c + 1, i, et => by
    have e : ckL f g (c + 1) i (0, et, ckS f g rows i) = ckL f g c (i + 1) (ckE f g rows i, nI i, ckS f g rows (i + 1)) := if_pos rfl
    rw [e]
    by_cases h : ckE f g rows i = 0
    · rw [h]
      rcases ckL_r (f := f) (g := g) (rows := rows) c (i + 1) (nI i) with ⟨k, k1, k2, k3, k4, k5⟩ | ⟨a, b, d⟩
      · refine Or.inl ⟨k, by omega, by omega, fun j j1 j2 => ?_, k4, k5⟩
        by_cases z : j = i
        · rw [z]
          exact h
        · exact k3 j (by omega) j2
      · refine Or.inr ⟨fun j j1 j2 => ?_, b, by rw [d, show i + 1 + c = i + (c + 1) by omega]⟩
        by_cases z : j = i
        · rw [z]
          exact h
        · exact a j (by omega) (by omega)
    · refine Or.inl ⟨i, Nat.le_refl i, by omega, fun j j1 j2 => absurd j2 (by omega), h, ?_⟩
      cases c with
      | zero => rfl
      | succ c => exact if_neg h
theorem ckF_r {f : Nat → Int32} {g : Nat → Int64} {rows : bT} {et : Int32} :
    (∃ k, k < rows.length ∧ (∀ j, j < k → ckE f g rows j = 0) ∧ ¬ ckE f g rows k = 0 ∧ ckF f g et rows = (ckE f g rows k, nI k, ckS f g rows (k + 1))) ∨
    ((∀ j, j < rows.length → ckE f g rows j = 0) ∧ (ckF f g et rows).1 = 0 ∧ (ckF f g et rows).2.2 = ckS f g rows rows.length) := by
  rcases ckL_r (f := f) (g := g) (rows := rows) rows.length 0 et with ⟨k, _, k2, k3, k4, k5⟩ | ⟨a, b, d⟩
  · exact Or.inl ⟨k, by omega, fun j hj => k3 j (Nat.zero_le j) hj, k4, k5⟩
  · exact Or.inr ⟨fun j hj => a j (Nat.zero_le j) (by omega), b, by rw [Nat.zero_add] at d; exact d⟩
section CK
variable {f : Nat → Int32} {g : Nat → Int64} {rows : bT} {Kd : Nat → Int32} {N i : Nat} {s : bC}
theorem ki_pv (hf : ∀ i, i < N → f i = Kd i) (hN : N ≤ 401) (hi : i < N) : kiF f (nI i - 1) = pvF Kd i := by
  unfold pvF
  by_cases h : i = 0
  · rw [if_pos h, h]
    exact if_neg (by decide)
  · rw [if_neg h]
    obtain ⟨j, rfl⟩ : ∃ j, i = j + 1 := ⟨i - 1, by omega⟩
    rw [nI_dn, kiF_n (by omega), hf j (by omega)]
    rfl
/-- what the check does, by the two kinds -/
theorem ck1_k (hf : ∀ i, i < N → f i = Kd i) (hN : N ≤ 401) (hi : i < N) : ck1 f g i s = if Kd i = 30 then ckName g i (pvF Kd i) s else if Kd i = 31 then (if rngB (rG s.2.2 (nI i) 1) (pvF Kd i) = true then 0 else 5, s) else if Kd i = 11 ∨ Kd i = 13 ∨ Kd i = 15 then (if ¬ 24 < s.2.1 + 1 then 0 else 4, (s.1, s.2.1 + 1, s.2.2)) else (0, s) := by
  unfold ck1
  rw [ki_pv hf hN hi, hf i hi]
  by_cases h1 : Kd i = 30
  · rw [if_pos h1, if_pos h1]
  rw [if_neg h1, if_neg h1]
  by_cases h2 : Kd i = 31
  · rw [if_pos h2, if_pos h2]
  rw [if_neg h2, if_neg h2]
  by_cases h3 : Kd i = 11
  · rw [if_pos h3, if_pos (Or.inl h3)]
  rw [if_neg h3]
  by_cases h4 : Kd i = 13
  · rw [if_pos h4, if_pos (Or.inr (Or.inl h4))]
  rw [if_neg h4]
  by_cases h5 : Kd i = 15
  · rw [if_pos h5, if_pos (Or.inr (Or.inr h5))]
  rw [if_neg h5, if_neg (fun z => z.elim h3 (fun z => z.elim h4 h5))]
theorem ckNew_w {m r : Nat} : (ckNew g i m r s).2.2 = s.2 := by
  unfold ckNew
  repeat' split
  all_goals rfl
theorem ck1_rows (hw : ∀ q ∈ s.2.2, q.length = 2) (hi : i < s.2.2.length) (hi2 : i < 2 ^ 31) : (ck1 f g i s).2.2.2.length = s.2.2.length ∧ (∀ q ∈ (ck1 f g i s).2.2.2, q.length = 2) ∧ ∀ j c, ¬ (j = i ∧ c = 1) → tg (ck1 f g i s).2.2.2 j c = tg s.2.2 j c := by
  have told : ∀ m, (ckTold g i m s).2.2.2.length = s.2.2.length ∧ (∀ q ∈ (ckTold g i m s).2.2.2, q.length = 2) ∧ ∀ j c, ¬ (j = i ∧ c = 1) → tg (ckTold g i m s).2.2.2 j c = tg s.2.2 j c := fun m => by
    refine ⟨rS_len, ?_, fun j c hj => ?_⟩
    · show ∀ q ∈ rS s.2.2 (nI i) 1 _, q.length = 2
      rw [rS_nI hi2]
      exact tS_w hw
    · show tg (rS s.2.2 (nI i) 1 _) j c = _
      rw [rS_nI hi2, tg_tS hw hi (by decide), if_neg hj]
  have same : ∀ s' : bC, s'.2 = s.2 → s'.2.2.length = s.2.2.length ∧ (∀ q ∈ s'.2.2, q.length = 2) ∧ ∀ j c, ¬ (j = i ∧ c = 1) → tg s'.2.2 j c = tg s.2.2 j c := fun s' e => by
    rw [e]
    exact ⟨rfl, hw, fun _ _ _ => rfl⟩
  have new : ∀ m r, (ckNew g i m r s).2.2.2.length = s.2.2.length ∧ (∀ q ∈ (ckNew g i m r s).2.2.2, q.length = 2) ∧ ∀ j c, ¬ (j = i ∧ c = 1) → tg (ckNew g i m r s).2.2.2 j c = tg s.2.2 j c := fun m r => same _ ckNew_w
  unfold ck1 ckName
  repeat' split
  all_goals first | exact told _ | exact new _ _ | exact same _ rfl | exact ⟨rfl, hw, fun _ _ _ => rfl⟩
theorem ckS_rows (hw : ∀ q ∈ rows, q.length = 2) (hl : rows.length < 2 ^ 31) : ∀ i, i ≤ rows.length → (ckS f g rows i).2.2.length = rows.length ∧ (∀ q ∈ (ckS f g rows i).2.2, q.length = 2) ∧ ∀ j c, (i ≤ j ∨ ¬ c = 1) → tg (ckS f g rows i).2.2 j c = tg rows j c
  | 0, _ => ⟨rfl, hw, fun _ _ _ => rfl⟩
  | i + 1, hi => by
    obtain ⟨a, b, c⟩ := ckS_rows hw hl i (by omega)
    obtain ⟨a2, b2, c2⟩ := ck1_rows (f := f) (g := g) (i := i) b (by rw [a]; omega) (by omega)
    refine ⟨a2.trans a, b2, fun j k hj => ?_⟩
    exact (c2 j k (by omega)).trans (c j k (by omega))
/-- what a name means stays -/
theorem ckS_mn (hw : ∀ q ∈ rows, q.length = 2) (hl : rows.length < 2 ^ 31) {j : Nat} : ∀ k, j + 1 + k ≤ rows.length → tg (ckS f g rows (j + 1 + k)).2.2 j 1 = tg (ckS f g rows (j + 1)).2.2 j 1
  | 0, _ => rfl
  | k + 1, h => by
    obtain ⟨a, b, c⟩ := ckS_rows (f := f) (g := g) hw hl (j + 1 + k) (by omega)
    obtain ⟨a2, b2, c2⟩ := ck1_rows (f := f) (g := g) (i := j + 1 + k) b (by rw [a]; omega) (by omega)
    exact (c2 j 1 (by omega)).trans (ckS_mn hw hl k (by omega))
/-- which tokens name something new: 1 bark 2 beater 3 spirit -/
def nmI (Kd : Nat → Int32) (m : Nat) (i : Nat) : List Nat := (List.range i).filter fun k => decide (rof Kd k = nI (m + 1))
theorem nmI_s {m : Nat} : nmI Kd m (i + 1) = nmI Kd m i ++ (if rof Kd i = nI (m + 1) then [i] else []) := by
  unfold nmI
  rw [List.range_succ, List.filter_append]
  congr 1
  by_cases h : rof Kd i = nI (m + 1)
  · rw [if_pos h]
    exact (List.filter_cons_of_pos (p := fun k => decide (rof Kd k = nI (m + 1))) (a := i) (l := []) (decide_eq_true h)).trans rfl
  · rw [if_neg h]
    exact (List.filter_cons_of_neg (p := fun k => decide (rof Kd k = nI (m + 1))) (a := i) (l := []) (by rw [decide_eq_false h]; decide)).trans rfl
theorem ck_new (hf : ∀ i, i < N → f i = Kd i) (hN : N ≤ 401) (hi : i < N) (hk : Kd i = 30) {m r : Nat} (h : ckName g i (pvF Kd i) s = ckNew g i m r s) : ck1 f g i s = ckNew g i m r s := by
  rw [ck1_k hf hN hi, if_pos hk, h]
theorem new_ok {m r : Nat} (h : (ckNew g i m r s).1 = 0) : ixL (s.1 m) (g i) 0 < 0 ∧ (s.1 m).length < r ∧ (ckNew g i m r s).2 = (uL s.1 m (s.1 m ++ [g i]), s.2) := by
  unfold ckNew at h ⊢
  by_cases h1 : ¬ ixL (s.1 m) (g i) 0 < 0
  · rw [if_pos h1] at h
    exact absurd (show (2 : Int32) = 0 from h) (by decide)
  · rw [if_neg h1] at h ⊢
    by_cases h2 : r ≤ (s.1 m).length
    · rw [if_pos h2] at h
      exact absurd (show (4 : Int32) = 0 from h) (by decide)
    · rw [if_neg h2]
      exact ⟨Decidable.of_not_not h1, by omega, rfl⟩
/-- roles of names, by the token ahead -/
theorem rof30 (hk : Kd i = 30) : rof Kd i = roF (pvF Kd i) 30 := by
  unfold rof
  rw [hk]
theorem ckS_L (hf : ∀ i, i < N → f i = Kd i) (hN : N ≤ 401) (hok : ∀ j, j < i → ckE f g rows j = 0) (hi : i ≤ N) : ∀ m, m < 3 → (ckS f g rows i).1 m = (nmI Kd m i).map g := by
  induction i with
  | zero => exact fun m _ => rfl
  | succ i ih =>
    intro m hm
    have ih := ih (fun j hj => hok j (by omega)) (by omega)
    have he : (ck1 f g i (ckS f g rows i)).1 = 0 := hok i (by omega)
    show (ck1 f g i (ckS f g rows i)).2.1 m = _
    rw [nmI_s, List.map_append, ← ih m hm]
    generalize ckS f g rows i = s at he
    rw [ck1_k hf hN (by omega)] at he ⊢
    have no : ∀ (L : Nat → List Int64), L = s.1 → ¬ rof Kd i = nI (m + 1) → L m = s.1 m ++ (if rof Kd i = nI (m + 1) then [i] else []).map g := fun L e q => by
      rw [e, if_neg q]
      exact (List.append_nil _).symm
    have m3 : nI (m + 1) = 1 ∨ nI (m + 1) = 2 ∨ nI (m + 1) = 3 := by
      have : m = 0 ∨ m = 1 ∨ m = 2 := by omega
      rcases this with rfl | rfl | rfl <;> decide
    by_cases h1 : Kd i = 30
    · rw [if_pos h1] at he ⊢
      rw [rof30 h1]
      rw [rof30 h1] at no
      unfold ckName at he ⊢
      have new : ∀ (m' r : Nat) (x : Int32), m' < 3 → x = nI (m' + 1) → roF (pvF Kd i) 30 = x → (ckNew g i m' r s).1 = 0 → (ckNew g i m' r s).2.1 m = s.1 m ++ (if roF (pvF Kd i) 30 = nI (m + 1) then [i] else []).map g := fun m' r x hm' hx hr hz => by
        obtain ⟨_, _, e⟩ := new_ok hz
        rw [e, hr, hx]
        show uL s.1 m' _ m = _
        unfold uL
        by_cases q : m = m'
        · subst q
          rw [if_pos rfl, if_pos rfl]
          rfl
        · rw [if_neg q, if_neg (fun z => q ((nI_eq (by omega) (by omega)).mp z |> fun w => by omega))]
          exact (List.append_nil _).symm
      by_cases b1 : pvF Kd i = 1
      · rw [if_pos b1] at he ⊢
        exact new 0 5 1 (by decide) rfl (by rw [b1]; rfl) he
      rw [if_neg b1] at he ⊢
      by_cases b4 : pvF Kd i = 4
      · rw [if_pos b4] at he ⊢
        exact new 1 6 2 (by decide) rfl (by rw [b4]; rfl) he
      rw [if_neg b4] at he ⊢
      by_cases b7 : pvF Kd i = 7
      · rw [if_pos b7] at he ⊢
        exact new 2 6 3 (by decide) rfl (by rw [b7]; rfl) he
      rw [if_neg b7] at he ⊢
      have hr : ¬ roF (pvF Kd i) 30 = 1 ∧ ¬ roF (pvF Kd i) 30 = 2 ∧ ¬ roF (pvF Kd i) 30 = 3 := by
        unfold roF
        rw [if_pos rfl, if_neg b1, if_neg b4, if_neg b7]
        repeat' split
        all_goals decide
      have hr2 : ¬ roF (pvF Kd i) 30 = nI (m + 1) := fun z => by
        rcases m3 with q | q | q <;> rw [q] at z
        · exact hr.1 z
        · exact hr.2.1 z
        · exact hr.2.2 z
      rw [if_neg hr2]
      refine Eq.trans ?_ (List.append_nil _).symm
      clear no new he
      repeat' split
      all_goals rfl
    · have hr : ¬ rof Kd i = nI (m + 1) := fun z => by
        unfold rof roF at z
        rw [if_neg h1] at z
        revert z
        rcases m3 with q | q | q <;> rw [q] <;> (repeat' split) <;> decide
      rw [if_neg h1, if_neg hr]
      refine Eq.trans ?_ (List.append_nil _).symm
      clear no he
      repeat' split
      all_goals rfl
theorem ckS_O (hf : ∀ i, i < N → f i = Kd i) (hN : N ≤ 401) (hok : ∀ j, j < i → ckE f g rows j = 0) (hi : i ≤ N) : ∃ no, no ≤ 24 ∧ (ckS f g rows i).2.1 = nI no := by
  induction i with
  | zero => exact ⟨0, by decide, rfl⟩
  | succ i ih =>
    obtain ⟨no, h1, h2⟩ := ih (fun j hj => hok j (by omega)) (by omega)
    have he : (ck1 f g i (ckS f g rows i)).1 = 0 := hok i (by omega)
    show ∃ no, no ≤ 24 ∧ (ck1 f g i (ckS f g rows i)).2.2.1 = nI no
    generalize ckS f g rows i = s at he h2
    rw [ck1_k hf hN (by omega)] at he ⊢
    have same : ∀ s' : bC, s'.2.1 = s.2.1 → ∃ no, no ≤ 24 ∧ s'.2.1 = nI no := fun s' e => ⟨no, h1, e.trans h2⟩
    have new : ∀ m r, ∃ no, no ≤ 24 ∧ (ckNew g i m r s).2.2.1 = nI no := fun m r => same _ (congrArg Prod.fst ckNew_w)
    by_cases k1 : Kd i = 30
    · rw [if_pos k1]
      unfold ckName
      repeat' split
      all_goals first | exact new _ _ | exact same _ rfl
    rw [if_neg k1] at he ⊢
    by_cases k2 : Kd i = 31
    · rw [if_pos k2]
      exact same s rfl
    rw [if_neg k2] at he ⊢
    by_cases k3 : Kd i = 11 ∨ Kd i = 13 ∨ Kd i = 15
    · rw [if_pos k3] at he ⊢
      have hz : ¬ 24 < s.2.1 + 1 := Decidable.byContradiction fun q => by
        have he2 : (if ¬ 24 < s.2.1 + 1 then (0 : Int32) else 4) = 0 := he
        rw [if_neg q] at he2
        exact absurd he2 (by decide)
      refine ⟨no + 1, ?_, ?_⟩
      · rw [h2, nI_1] at hz
        exact Nat.le_of_not_lt fun q => hz (nI_lt (a := 24) q (by omega))
      · show s.2.1 + 1 = _
        rw [h2, nI_1]
    · rw [if_neg k3]
      exact same s rfl
end CK
