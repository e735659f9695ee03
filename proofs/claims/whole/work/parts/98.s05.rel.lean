/-! LOCALS AND HEAP: what the abstract ones say of the machine's. -/
def bk_LR (ls : Array Slot) (L : bk_L) : Prop := ls.size = L.length ∧ lv_wf ls ∧ ∀ (k : Nat) (v : Value), L[k]? = some (some v) → ls[k]? = some (.val v)
def bk_pr (L : bk_L) : List (Nat × Value) := (List.range L.length).filterMap (fun k => match L[k]? with
  | some (some v) => some (k, v)
  | _ => none)
theorem bk_pr_mem {L : bk_L} {q : Nat × Value} : q ∈ bk_pr L ↔ L[q.1]? = some (some q.2) := by
  unfold bk_pr
  rw [List.mem_filterMap]
  constructor
  · rintro ⟨k, -, h⟩
    split at h
    · rename_i v hv
      cases h
      exact hv
    · cases h
  · intro h
    refine ⟨q.1, List.mem_range.mpr (List.getElem?_eq_some_iff.mp h).1, ?_⟩
    rw [h]
theorem bk_LR.has {ls : Array Slot} {L : bk_L} (h : bk_LR ls L) : lv_has ls L.length (bk_pr L) := ⟨h.1, h.2.1, fun q hq => h.2.2 q.1 q.2 (bk_pr_mem.mp hq)⟩
theorem bk_kl_len (L : bk_L) (k : Nat) : (bk_kl L k).length = L.length := by
  unfold bk_kl
  split
  · rfl
  · split
    · split
      · rw [List.length_set]
      · rfl
    · rfl
theorem bk_st_len (L : bk_L) (k : Nat) (v : Value) : (bk_st L k v).length = L.length := by
  unfold bk_st
  rw [List.length_set, bk_kl_len]
theorem bk_kl_get {L : bk_L} {k : Nat} {w : Value} {i : Nat} (h : (bk_kl L k)[i]? = some (some w)) : L[i]? = some (some w) ∧ ¬ (i + 1 = k ∧ w.category = 2) := by
  unfold bk_kl at h
  split at h
  · exact ⟨h, fun q => by omega⟩
  · rename_i j
    split at h
    · rename_i w0 hw0
      split at h
      · rename_i hc
        by_cases hij : i = j
        · subst hij
          rw [List.getElem?_set] at h
          simp only [if_true] at h
          split at h
          · cases h
          · cases h
        · rw [List.getElem?_set_ne (fun q => hij q.symm)] at h
          exact ⟨h, fun q => hij (by omega)⟩
      · rename_i hc
        refine ⟨h, fun q => hc ?_⟩
        have e : i = j := by omega
        subst e
        rw [hw0] at h
        rw [Option.some.inj (Option.some.inj h)]
        exact q.2
    · rename_i hw0
      refine ⟨h, fun q => ?_⟩
      have e : i = j := by omega
      subst e
      exact hw0 w h
theorem bk_st2_len (L : bk_L) (k : Nat) (v : Value) : (bk_st2 L k v).length = L.length := by
  unfold bk_st2
  rw [List.length_set, bk_st_len]
/-- what the list holds behind a store -/
theorem bk_st_get {L : bk_L} {k : Nat} {v w : Value} {i : Nat} (h : (bk_st L k v)[i]? = some (some w)) : (i = k ∧ w = v) ∨ (¬ i = k ∧ L[i]? = some (some w) ∧ ¬ (i + 1 = k ∧ w.category = 2)) := by
  unfold bk_st at h
  by_cases hik : i = k
  · subst hik
    refine Or.inl ⟨rfl, ?_⟩
    rw [List.getElem?_set] at h
    simp only [if_true] at h
    split at h
    · exact (Option.some.inj (Option.some.inj h)).symm
    · cases h
  · rw [List.getElem?_set_ne (fun q => hik q.symm)] at h
    exact Or.inr ⟨hik, bk_kl_get h⟩
theorem bk_LR.st {ls : Array Slot} {L : bk_L} {k : Nat} {v : Value} (h : lv_has ls L.length ((k, v) :: (bk_pr L).filter (fun q => !(q.1 == k) && !(q.1 + 1 == k && q.2.category == 2)))) : bk_LR ls (bk_st L k v) := by
  refine ⟨by rw [bk_st_len]; exact h.1, h.2.1, fun i w hw => ?_⟩
  rcases bk_st_get hw with ⟨e1, e2⟩ | ⟨e1, e2, e3⟩
  · rw [e1, e2]
    exact h.2.2 (k, v) List.mem_cons_self
  · refine h.2.2 (i, w) (List.mem_cons_of_mem _ (List.mem_filter.mpr ⟨bk_pr_mem.mpr e2, ?_⟩))
    simp only [Bool.and_eq_true, Bool.not_eq_true', beq_eq_false_iff_ne, Bool.and_eq_false_iff, beq_eq_false_iff_ne, ne_eq]
    refine ⟨e1, ?_⟩
    by_cases q : i + 1 = k
    · exact Or.inr fun c => e3 ⟨q, c⟩
    · exact Or.inl q
theorem bk_LR.st2 {ls : Array Slot} {L : bk_L} {k : Nat} {v : Value} (h : lv_has ls L.length ((k, v) :: (bk_pr L).filter (fun q => !(q.1 == k) && (!(q.1 == k + 1) && !(q.1 + 1 == k && q.2.category == 2))))) : bk_LR ls (bk_st2 L k v) := by
  refine ⟨by rw [bk_st2_len]; exact h.1, h.2.1, fun i w hw => ?_⟩
  unfold bk_st2 at hw
  by_cases hk : i = k + 1
  · subst hk
    rw [List.getElem?_set] at hw
    simp only [if_true] at hw
    split at hw <;> cases hw
  rw [List.getElem?_set_ne (fun q => hk q.symm)] at hw
  rcases bk_st_get hw with ⟨e1, e2⟩ | ⟨e1, e2, e3⟩
  · rw [e1, e2]
    exact h.2.2 (k, v) List.mem_cons_self
  · refine h.2.2 (i, w) (List.mem_cons_of_mem _ (List.mem_filter.mpr ⟨bk_pr_mem.mpr e2, ?_⟩))
    simp only [Bool.and_eq_true, Bool.not_eq_true', beq_eq_false_iff_ne, Bool.and_eq_false_iff, beq_eq_false_iff_ne, ne_eq]
    refine ⟨e1, hk, ?_⟩
    by_cases q : i + 1 = k
    · exact Or.inr fun c => e3 ⟨q, c⟩
    · exact Or.inl q
theorem bk_LR.drop {ls : Array Slot} {L : bk_L} {k : Nat} {v : Value} (h : bk_LR ls (bk_st L k v)) : bk_LR ls ((bk_st L k .null).set k none) := by
  have h1 := h.1
  rw [bk_st_len] at h1
  refine ⟨by rw [List.length_set, bk_st_len]; exact h1, h.2.1, fun i w hw => ?_⟩
  by_cases hk : i = k
  · subst hk
    rw [List.getElem?_set] at hw
    simp only [if_true] at hw
    split at hw <;> cases hw
  · rw [List.getElem?_set_ne (fun q => hk q.symm)] at hw
    refine h.2.2 i w ?_
    unfold bk_st at hw ⊢
    rw [List.getElem?_set_ne (fun q => hk q.symm)] at hw ⊢
    exact hw
theorem bk_arg_mem : ∀ (vs : List Value) (i : Nat) (k : Nat) (v : Value), (bk_arg vs)[k]? = some (some v) → (i + k, v) ∈ lv_args i vs := by
  intro vs
  induction vs with
  | nil => intro i k v h; simp [bk_arg] at h
  | cons u vs ih =>
    intro i k v h
    unfold bk_arg at h
    unfold lv_args
    cases k with
    | zero =>
      rw [List.getElem?_cons_zero] at h
      rw [Option.some.inj (Option.some.inj h)]
      exact List.mem_cons_self
    | succ k =>
      rw [List.getElem?_cons_succ] at h
      refine List.mem_cons_of_mem _ ?_
      split at h
      · rename_i hc
        rw [if_pos hc]
        cases k with
        | zero => rw [List.getElem?_cons_zero] at h; cases h
        | succ k =>
          rw [List.getElem?_cons_succ] at h
          have := ih (i + 2) k v h
          rwa [show i + 2 + k = i + (k + 1 + 1) by omega] at this
      · rename_i hc
        rw [if_neg hc]
        have := ih (i + 1) k v h
        rwa [show i + 1 + k = i + (k + 1) by omega] at this
theorem bk_arg_len : ∀ vs : List Value, (bk_arg vs).length = (lg_sl vs).length := by
  intro vs
  induction vs with
  | nil => rfl
  | cons v vs ih =>
    rcases lv_cat v with h | h
    · have h2 : ¬ v.category = 2 := by omega
      simp only [bk_arg, lg_sl, List.flatMap_cons, List.length_append, if_neg h2, List.length_cons] at ih ⊢
      rw [ih]
      simp [h2]
      omega
    · simp only [bk_arg, lg_sl, List.flatMap_cons, List.length_append, if_pos h, List.length_cons] at ih ⊢
      rw [ih]
      simp [h]
      omega
theorem bk_LR.entry {vs : List Value} {n : Nat} {ls : Array Slot} (hn : (lg_sl vs).length ≤ n) (h : lv_has ls n (lv_args 0 vs)) : bk_LR ls (bk_ent n vs) := by
  refine ⟨?_, h.2.1, fun k v hk => ?_⟩
  · unfold bk_ent
    rw [List.length_append, List.length_replicate, bk_arg_len, h.1]
    omega
  · unfold bk_ent at hk
    by_cases hl : k < (bk_arg vs).length
    · rw [List.getElem?_append_left hl] at hk
      have := bk_arg_mem vs 0 k v hk
      rw [Nat.zero_add] at this
      exact h.2.2 _ this
    · rw [List.getElem?_append_right (by omega)] at hk
      have := List.eq_of_mem_replicate (List.mem_of_getElem? hk)
      cases this
theorem bk_ent_len {vs : List Value} {n : Nat} (hn : (lg_sl vs).length ≤ n) : (bk_ent n vs).length = n := by
  unfold bk_ent
  rw [List.length_append, List.length_replicate, bk_arg_len]
  omega
/-- an abstract cell at the machine -/
def bk_cv (τ : Nat → ClassId) (e : bk_E) : va_E := match e with
  | .inl x => .inl (τ x.1, x.2)
  | .inr o => .inr o
def bk_at (D : va_G) (τ : Nat → ClassId) (a : Nat) (e : bk_E) (H : Heap) : Prop := va_at D bk_cls (a, bk_cv τ e) H
def bk_Rl (N0 : Nat) (H00 : Heap) (D : va_G) (τ : Nat → ClassId) (h : bk_H) (n : Nat) (H : Heap) : Prop :=
  H.size = n ∧ N0 ≤ n ∧ (∀ q : Nat, q < N0 → H[q]? = H00[q]?) ∧ ∀ (a : Nat) (e : bk_E), h a = some e → N0 ≤ a ∧ bk_at D τ a e H
theorem bk_Rl.put {N0 : Nat} {H00 : Heap} {D : va_G} {τ : Nat → ClassId} {h : bk_H} {n : Nat} {H H1 : Heap} {a : Nat} {e : bk_E} (r : bk_Rl N0 H00 D τ h n H) (ha : N0 ≤ a) (hz : H1.size = H.size) (ho : ∀ q : Nat, q ≠ a → H1[q]? = H[q]?) (he : bk_at D τ a e H1) : bk_Rl N0 H00 D τ (bk_up h a e) n H1 := by
  obtain ⟨r1, r2, r3, r4⟩ := r
  refine ⟨hz.trans r1, r2, fun q hq => (ho q (by omega)).trans (r3 q hq), fun b f hb => ?_⟩
  unfold bk_up at hb
  split at hb
  · rename_i e1
    cases hb
    rw [e1]
    exact ⟨ha, he⟩
  · rename_i e1
    obtain ⟨k1, k2⟩ := r4 b f hb
    exact ⟨k1, va_at.kept k2 (ho b e1)⟩
theorem bk_Rl.new {N0 : Nat} {H00 : Heap} {D : va_G} {τ : Nat → ClassId} {h : bk_H} {n : Nat} {H H1 : Heap} {e : bk_E} (r : bk_Rl N0 H00 D τ h n H) (hz : H1.size = n + 1) (ho : ∀ q : Nat, q < n → H1[q]? = H[q]?) (he : bk_at D τ n e H1) : bk_Rl N0 H00 D τ (bk_up h n e) (n + 1) H1 := by
  obtain ⟨r1, r2, r3, r4⟩ := r
  refine ⟨hz, by omega, fun q hq => (ho q (by omega)).trans (r3 q hq), fun b f hb => ?_⟩
  unfold bk_up at hb
  split at hb
  · rename_i e1
    cases hb
    rw [e1]
    exact ⟨r2, he⟩
  · rename_i e1
    obtain ⟨k1, k2⟩ := r4 b f hb
    have hl : b < H.size := va_at.lt k2
    exact ⟨k1, va_at.kept k2 (ho b (by rw [r1] at hl; exact hl))⟩
