/-! The parser's sums and tests. Printed by wip/whole/mk33.py. -/
def sdF (k : Int32) : Int32 := if k = 25 ∨ k = 48 then 1 else if k = 38 ∨ k = 39 ∨ k = 40 ∨ k = 41 ∨ k = 42 ∨ k = 43 ∨ k = 44 ∨ k = 45 ∨ k = 46 ∨ k = 26 ∨ k = 27 ∨ k = 28 ∨ k = 29 then 2 else 0
def vlF (rows : bT) (j : Option Nat) : Int32 := match j with
  | some j => rG rows (nI j) 1
  | none => 0
def rwF (rows : bT) (q : bIt) : List Int32 := [q.1, vlF rows q.2, sdF q.1]
def PX (h : bk_H) (dr tk tp : Nat) (T : List Int32) (p : Nat) (rows : bT) (f : Nat → Int32) (g : Nat → Int64) (P : Nat → bT) (od : Int32) (C : bT) (t : Nat) : Prop :=
  KO h tk tp T p rows f g ∧ LO h dr (uT P 4 C) ∧ h (dr + 11) = some (.inr (6, [.ref tk, .ref dr, .int (nI t), .int od])) ∧ tk + 7 ≤ dr
theorem rw3 {rows C : bT} {a b : List bIt} {k : Int32} (hs : sdF k = 2) : C ++ (a ++ ([(k, none)] ++ b)).map (rwF rows) = (C ++ a.map (rwF rows) ++ [[k, 0, 2]]) ++ b.map (rwF rows) := by
  rw [List.map_append, List.map_append, List.append_assoc, List.append_assoc]
  show _ = C ++ (a.map (rwF rows) ++ ([[k, 0, 2]] ++ b.map (rwF rows)))
  rw [← hs]
  rfl
theorem rw1 {rows C : bT} {a : List bIt} {k s : Int32} (hs : sdF k = s) : C ++ (a ++ [(k, none)]).map (rwF rows) = C ++ a.map (rwF rows) ++ [[k, 0, s]] := by
  rw [List.map_append, ← List.append_assoc, ← hs]
  rfl
section BP
variable {V : bk_V} {d n : Nat} {B : Nat × Nat} {Q : bk_R → bk_H → Nat → Prop} {h : bk_H} {dr tk tp p t N : Nat} {T : List Int32} {rows : bT} {f K : Nat → Int32} {g : Nat → Int64} {P : Nat → bT} {od : Int32} {C : bT} {cs : Nat × Nat}
theorem PX.to {h h' : bk_H} {t' : Nat} (q : PX h dr tk tp T p rows f g P od C t) (k : h' (dr + 11) = some (.inr (6, [.ref tk, .ref dr, .int (nI t'), .int od]))) (w : ∀ q, q ≠ dr + 11 → h' q = h q) : PX h' dr tk tp T p rows f g P od C t' := by
  obtain ⟨h1, h2, h3, h4⟩ := q
  have ktp := h1.2.2.2.2.2.2
  exact ⟨h1.kp (fr.one w) (by omega), h2.kp (fr.one w) (by omega), k, h4⟩
theorem PX.c {h h' : bk_H} {C' : bT} (q : PX h dr tk tp T p rows f g P od C t) (k : TB h' (dr + 9) 3 400 C') (w : fr h h' (dr + 9) (dr + 9 + 2)) : PX h' dr tk tp T p rows f g P od C' t := by
  obtain ⟨h1, h2, h3, h4⟩ := q
  have ktp := h1.2.2.2.2.2.2
  have := h2.t4 k w
  rw [uT_uT] at this
  exact ⟨h1.kp w (by omega), this, (w _ (by omega)).trans h3, h4⟩
theorem bp_kind (hF : ∀ i, i < N → f i = K i) (hN : N ≤ 401) (ht : t < N) (hX : PX h dr tk tp T p rows f g P od C t) (hQ : Q (.inl (some (.int (K t)))) h n) : bk_wp V (d + 2) 57 [.ref (dr + 11)] h n B Q := by
  obtain ⟨hK, ⟨l0, l1, l2, l3, l4, l5⟩, p0, htk⟩ := id hX
  refine bg_in rfl rfl ?_
  refine bg_aload0 rfl ?_
  refine bg_getfield rfl rfl p0 (by rfl) ?_
  refine bg_aload0 rfl ?_
  refine bg_getfield rfl rfl p0 (by rfl) ?_
  refine bg_virt1 rfl rfl rfl rfl ⟨_, hK.2.1⟩ ?_
  refine bk_kind hK (bk_Ki ?_)
  rw [kiF_n (by omega), hF t ht]
  refine bg_iret rfl rfl (by rfl) ?_
  exact hQ
theorem bp_take {k : Int32} (hF : ∀ i, i < N → f i = K i) (hN : N ≤ 401) (ht : t < N) (hX : PX h dr tk tp T p rows f g P od C t) (hQ : ∀ h', PX h' dr tk tp T p rows f g P od C (if K t = k then t + 1 else t) → fr h h' dr (dr + 12) → Q (.inl (some (.int (if K t = k then 1 else 0)))) h' n) : bk_wp V (d + 2) 58 [.ref (dr + 11), .int k] h n B Q := by
  obtain ⟨hK, ⟨l0, l1, l2, l3, l4, l5⟩, p0, htk⟩ := id hX
  refine bg_in rfl rfl ?_
  refine bg_aload0 rfl ?_
  refine bg_getfield rfl rfl p0 (by rfl) ?_
  refine bg_aload0 rfl ?_
  refine bg_getfield rfl rfl p0 (by rfl) ?_
  refine bg_virt1 rfl rfl rfl rfl ⟨_, hK.2.1⟩ ?_
  refine bk_kind hK (bk_Ki ?_)
  rw [kiF_n (by omega), hF t ht]
  refine bg_iload1 rfl ?_
  refine bg_icmp_eq rfl (fun e12 => ?_) (fun e12 => ?_)
  · simp only [if_pos e12] at hQ
    refine bg_aload0 rfl ?_
    refine bg_dup rfl rfl ?_
    refine bg_getfield rfl rfl p0 (by rfl) ?_
    refine bg_iconst rfl ?_
    refine bg_iadd rfl ?_
    refine bg_putfield rfl rfl p0 (by rfl) ⟨rfl, rfl⟩ (by rfl) (fun h24 f24 g24 => ?_)
    rw [nI_1] at f24
    have hXA := hX.to f24 g24
    refine bg_iconst rfl ?_
    refine bg_iret rfl rfl (by rfl) ?_
    first | exact hQ h24 hXA ((fr.one g24).wide (by omega) (by omega)) | exact hQ h hX fr.refl
  · simp only [if_neg e12] at hQ
    refine bg_iconst rfl ?_
    refine bg_iret rfl rfl (by rfl) ?_
    first | exact hQ h24 hXA ((fr.one g24).wide (by omega) (by omega)) | exact hQ h hX fr.refl
theorem bp_write {x v s : Int32} (hl : C.length < 400) (hX : PX h dr tk tp T p rows f g P od C t) (hQ : ∀ h', PX h' dr tk tp T p rows f g P od (C ++ [[x, v, s]]) t → fr h h' dr (dr + 12) → Q (.inl (some (.int 1))) h' n) : bk_wp V (d + 2) 61 [.ref (dr + 11), .int x, .int v, .int s] h n B Q := by
  obtain ⟨hK, ⟨l0, l1, l2, l3, l4, l5⟩, p0, htk⟩ := id hX
  refine bg_in rfl rfl ?_
  refine bg_aload0 rfl ?_
  refine bg_getfield rfl rfl p0 (by rfl) ?_
  refine bg_getfield rfl rfl l0 (by rfl) ?_
  refine bg_virt0 rfl rfl rfl rfl (TB.o l5) ?_
  refine bt_add l5 (fun q => absurd hl q) (fun _ hA kA gA => bk_Ki ?_)
  simp only [uT_s] at kA ⊢
  have hXA := hX.c kA gA
  obtain ⟨hK, ⟨l0, l1, l2, l3, l4, l5⟩, p0, htk⟩ := id hXA
  refine bg_istore4 rfl rfl ?_
  refine bg_aload0 rfl ?_
  refine bg_getfield rfl rfl p0 (by rfl) ?_
  refine bg_getfield rfl rfl l0 (by rfl) ?_
  refine bg_iload4 rfl ?_
  refine bg_iconst rfl ?_
  refine bg_iload1 rfl ?_
  refine bg_virt3 rfl rfl rfl rfl (TB.o l5) ?_
  refine bt_set l5 rfl (by decide) (fun hB kB gB => bk_Kv ?_)
  simp only [uT_s] at kB
  rw [rS_last (by omega)] at kB
  have hXB := hXA.c kB gB
  obtain ⟨hK, ⟨l0, l1, l2, l3, l4, l5⟩, p0, htk⟩ := id hXB
  refine bg_aload0 rfl ?_
  refine bg_getfield rfl rfl p0 (by rfl) ?_
  refine bg_getfield rfl rfl l0 (by rfl) ?_
  refine bg_iload4 rfl ?_
  refine bg_iconst rfl ?_
  refine bg_iload2 rfl ?_
  refine bg_virt3 rfl rfl rfl rfl (TB.o l5) ?_
  refine bt_set l5 rfl (by decide) (fun hC kC gC => bk_Kv ?_)
  simp only [uT_s] at kC
  rw [rS_last (by omega)] at kC
  have hXC := hXB.c kC gC
  obtain ⟨hK, ⟨l0, l1, l2, l3, l4, l5⟩, p0, htk⟩ := id hXC
  refine bg_aload0 rfl ?_
  refine bg_getfield rfl rfl p0 (by rfl) ?_
  refine bg_getfield rfl rfl l0 (by rfl) ?_
  refine bg_iload4 rfl ?_
  refine bg_iconst rfl ?_
  refine bg_iload3 rfl ?_
  refine bg_virt3 rfl rfl rfl rfl (TB.o l5) ?_
  refine bt_set l5 rfl (by decide) (fun hD kD gD => bk_Kv ?_)
  simp only [uT_s] at kD
  rw [rS_last (by omega)] at kD
  have hXD := hXC.c kD gD
  obtain ⟨hK, ⟨l0, l1, l2, l3, l4, l5⟩, p0, htk⟩ := id hXD
  refine bg_iconst rfl ?_
  refine bg_iret rfl rfl (by rfl) ?_
  exact hQ hD hXD ((((gA.trans gB).trans gC).trans gD).wide (by omega) (by omega))
def bpS (V : bk_V) (X : bk_H → bT → Nat → Prop) (rows : bT) (dr N : Nat) (pf : Nat → Nat → bR3) (w j n : Nat) : Prop :=
  ∀ (D d t : Nat) (C : bT) (h : bk_H) (nn : Nat) (B : Nat × Nat) (Q : bk_R → bk_H → Nat → Prop), d ≤ 8 → t < N → C.length ≤ t → 8 * (N - t) + w ≤ n → 6 * (8 - d) + w + 3 ≤ D → X h C t →
    (∀ h', X h' (C ++ (pf d t).2.2.map (rwF rows)) (pf d t).2.1 → fr h h' dr (dr + 12) → Q (.inl (some (.int (if (pf d t).1 = true then 1 else 0)))) h' nn) → bk_wp V D j [.ref (dr + 11), .int (nI d)] h nn B Q
def bpL (V : bk_V) (X : bk_H → bT → Nat → Prop) (rows : bT) (dr N : Nat) (pf : Nat → Nat → bR3) (w j k n : Nat) : Prop :=
  ∀ (D d t m : Nat) (C : bT) (h : bk_H) (nn : Nat) (B cs : Nat × Nat) (Q : bk_R → bk_H → Nat → Prop) (xt : bk_L), xt.length = k → d ≤ 8 → t < N → C.length ≤ t → 8 * (N - t) + 1 ≤ n → 6 * (8 - d) + w + 3 ≤ D + 1 → m ≤ t → X h C t →
    (∀ h', X h' (C ++ (pf d t).2.2.map (rwF rows)) (pf d t).2.1 → fr h h' dr (dr + 12) → Q (.inl (some (.int (if (pf d t).1 = true then 1 else 0)))) h' nn) → bk_g V D j B Q 8 (some (.ref (dr + 11)) :: some (.int (nI d)) :: some (.int 1) :: some (.int (nI m)) :: xt) [] h nn cs
theorem bp_exitSum {x0 x1 : Option Value} {m : Nat} {x4 : Option Value} (hQ : Q (.inl (some (.int 0))) h n) : bk_g V d 54 B Q 8 [x0, x1, some (.int 0), some (.int (nI m)), x4] [] h n cs := by
  refine bg_iload3 rfl ?_
  refine bg_sipush rfl ?_
  refine bg_icmp_ge rfl (fun e12 => ?_) (fun e12 => ?_)
  · refine bg_iload2 rfl ?_
    refine bg_iret rfl rfl (by rfl) ?_
    exact hQ
  · refine bg_iload2 rfl ?_
    refine bg_if_eq rfl (fun e16 => ?_) (fun e16 => absurd rfl e16)
    refine bg_iload2 rfl ?_
    refine bg_iret rfl rfl (by rfl) ?_
    exact hQ
theorem bp_exitProd {x0 x1 : Option Value} {m : Nat} {x4 : Option Value} (hQ : Q (.inl (some (.int 0))) h n) : bk_g V d 55 B Q 8 [x0, x1, some (.int 0), some (.int (nI m)), x4] [] h n cs := by
  refine bg_iload3 rfl ?_
  refine bg_sipush rfl ?_
  refine bg_icmp_ge rfl (fun e12 => ?_) (fun e12 => ?_)
  · refine bg_iload2 rfl ?_
    refine bg_iret rfl rfl (by rfl) ?_
    exact hQ
  · refine bg_iload2 rfl ?_
    refine bg_if_eq rfl (fun e16 => ?_) (fun e16 => absurd rfl e16)
    refine bg_iload2 rfl ?_
    refine bg_iret rfl rfl (by rfl) ?_
    exact hQ
theorem bp_exitTest {x0 x1 : Option Value} {m : Nat} (hQ : Q (.inl (some (.int 0))) h n) : bk_g V d 51 B Q 8 [x0, x1, some (.int 0), some (.int (nI m))] [] h n cs := by
  refine bg_iload3 rfl ?_
  refine bg_sipush rfl ?_
  refine bg_icmp_ge rfl (fun e12 => ?_) (fun e12 => ?_)
  · refine bg_iload2 rfl ?_
    refine bg_iret rfl rfl (by rfl) ?_
    exact hQ
  · refine bg_iload2 rfl ?_
    refine bg_if_eq rfl (fun e16 => ?_) (fun e16 => absurd rfl e16)
    refine bg_iload2 rfl ?_
    refine bg_iret rfl rfl (by rfl) ?_
    exact hQ
theorem bp_exitBoth {x0 x1 : Option Value} {m : Nat} (hQ : Q (.inl (some (.int 0))) h n) : bk_g V d 52 B Q 8 [x0, x1, some (.int 0), some (.int (nI m))] [] h n cs := by
  refine bg_iload3 rfl ?_
  refine bg_sipush rfl ?_
  refine bg_icmp_ge rfl (fun e12 => ?_) (fun e12 => ?_)
  · refine bg_iload2 rfl ?_
    refine bg_iret rfl rfl (by rfl) ?_
    exact hQ
  · refine bg_iload2 rfl ?_
    refine bg_if_eq rfl (fun e16 => ?_) (fun e16 => absurd rfl e16)
    refine bg_iload2 rfl ?_
    refine bg_iret rfl rfl (by rfl) ?_
    exact hQ
theorem bp_lProd (hF : ∀ i, i < N → f i = K i) (hN : N ≤ 401) (hE : K (N - 1) = 47 ∨ K (N - 1) = 0) (ih1 : bpS V (fun h C t => PX h dr tk tp T p rows f g P od C t) rows dr N (pp K n 0) 1 56 n) (ih2 : bpL V (fun h C t => PX h dr tk tp T p rows f g P od C t) rows dr N (pp K n 2) 2 55 1 n) : bpL V (fun h C t => PX h dr tk tp T p rows f g P od C t) rows dr N (pp K (n + 1) 2) 2 55 1 (n + 1) := by
  intro D d t m C h nn B cs Q xt hxt hd ht hC hw hD hm hX hQ
  obtain ⟨D, rfl⟩ : ∃ D', D = D' + 3 := ⟨D - 3, by omega⟩
  obtain ⟨x4, rfl⟩ : ∃ x4, xt = [x4] := by
    cases xt with
    | nil => exact nomatch hxt
    | cons x r =>
      cases r with
      | nil => exact ⟨x, rfl⟩
      | cons y r => exact nomatch hxt
  change PX h dr tk tp T p rows f g P od C t at hX
  obtain ⟨hK, ⟨l0, l1, l2, l3, l4, l5⟩, p0, htk⟩ := id hX
  refine bg_iload3 rfl ?_
  refine bg_sipush rfl ?_
  refine bg_icmp_ge rfl (fun e12 => ?_) (fun e12 => ?_)
  · have hm : 400 ≤ m := Nat.le_of_not_lt fun q => e12 (nI_lt (b := 400) q (by omega))
    have ht9 : t = N - 1 := by omega
    have hu : pp K (n + 1) 2 d t = (true, t, []) := if_neg (by rw [ht9]; rcases hE with q | q <;> rw [q] <;> decide)
    rw [hu] at hQ
    refine bg_iload2 rfl ?_
    refine bg_iret rfl rfl (by rfl) ?_
    exact hQ h (by rw [List.map_nil, List.append_nil]; exact hX) fr.refl
  · refine bg_iload2 rfl ?_
    refine bg_if_eq rfl (fun e16 => absurd e16 (by decide)) (fun e16 => ?_)
    refine bg_aload0 rfl ?_
    refine bg_virt0 rfl rfl rfl rfl ⟨_, p0⟩ ?_
    refine bp_kind hF hN ht hX (bk_Ki ?_)
    refine bg_bipush rfl ?_
    refine bg_icmp_eq rfl (fun e25 => ?_) (fun e25 => ?_)
    · have hk : K t = 40 ∨ K t = 41 := Or.inl e25
      have ht1 : t + 1 < N := KE hE ht (by rintro q; rw [q] at hk; revert hk; decide) (by rintro q; rw [q] at hk; revert hk; decide)
      have hu : pp K (n + 1) 2 d t = sq (pp K n 0 d (t + 1)) (fun t1 => sq (em (K t) none t1) (pp K n 2 d)) := by
        show (if K t = 40 ∨ K t = 41 then _ else _) = _
        rw [if_pos hk]
      rw [hu] at hQ
      have kk1 := pp_k hE n 0 d (t + 1) ht1
      have kk4 := kk1.2.2.2
      have kk5 := kk1.1
      have hs : sdF (K t) = 2 := by rcases hk with q | q <;> rw [q] <;> rfl
      refine bg_aload0 rfl ?_
      refine bg_virt0 rfl rfl rfl rfl ⟨_, p0⟩ ?_
      refine bp_kind hF hN ht hX (bk_Ki ?_)
      refine bg_istore4 rfl rfl ?_
      refine bg_aload0 rfl ?_
      refine bg_iload4 rfl ?_
      refine bg_virt1 rfl rfl rfl rfl ⟨_, p0⟩ ?_
      refine bp_take hF hN ht hX (fun hA hXA gA => bk_Ki ?_)
      rw [if_pos rfl] at hXA
      rw [if_pos rfl]
      obtain ⟨hK, ⟨l0, l1, l2, l3, l4, l5⟩, p0, htk⟩ := id hXA
      refine bg_if_eq rfl (fun e49 => absurd e49 (by decide)) (fun e49 => ?_)
      refine bg_aload0 rfl ?_
      refine bg_iload1 rfl ?_
      refine bg_virt1 rfl rfl rfl rfl ⟨_, p0⟩ ?_
      refine ih1 _ d (t + 1) C _ _ _ _ hd ht1 (by omega) (by omega) (by omega) hXA (fun hB hXB gB => bk_Ki ?_)
      have gx := gA.trans gB
      obtain ⟨hK, ⟨l0, l1, l2, l3, l4, l5⟩, p0, htk⟩ := id hXB
      refine bg_ifeq_b rfl (fun e57 => ?_) (fun e57 => ?_)
      · rw [sq_f e57] at hQ
        refine bg_iconst rfl ?_
        refine bg_istore2 rfl rfl ?_
        refine bg_iinc3 rfl rfl ?_
        rw [nI_1]
        refine bg_goto rfl ?_
        first
          | exact bp_exitProd (by rw [if_neg e57] at hQ; exact hQ hB hXB gx)
          | (refine ih2 _ d _ (m + 1) _ hC _ B cs Q _ (by rfl) hd kk1.1 (by rw [List.length_append, List.length_append, List.length_map]; show _ + 1 ≤ _; omega) (by omega) (by omega) (by omega) hXC (fun h' q1 q2 => ?_)
             refine hQ h' ?_ (gx.trans q2)
             change PX h' dr tk tp T p rows f g P od (C ++ ((pp K n 0 d (t + 1)).2.2 ++ ([(K t, none)] ++ (pp K n 2 d (pp K n 0 d (t + 1)).2.1).2.2)).map (rwF rows)) (pp K n 2 d (pp K n 0 d (t + 1)).2.1).2.1
             rw [rw3 hs]
             exact q1)
      · rw [sq_t e57, sq_t (a := em (K t) none (pp K n 0 d (t + 1)).2.1) rfl] at hQ
        have kk3 : t + 1 + 1 ≤ (pp K n 0 d (t + 1)).2.1 := kk1.2.2.1 e57
        refine bg_aload0 rfl ?_
        refine bg_iload4 rfl ?_
        refine bg_iconst rfl ?_
        refine bg_iconst rfl ?_
        refine bg_virt3 rfl rfl rfl rfl ⟨_, p0⟩ ?_
        refine bp_write (by rw [List.length_append, List.length_map]; omega) hXB (fun hC hXC gC => bk_Ki ?_)
        have gx := gx.trans gC
        refine bg_if_eq rfl (fun e68 => absurd e68 (by decide)) (fun e68 => ?_)
        refine bg_iconst rfl ?_
        refine bg_goto rfl ?_
        refine bg_istore2 rfl rfl ?_
        refine bg_iinc3 rfl rfl ?_
        rw [nI_1]
        refine bg_goto rfl ?_
        first
          | exact bp_exitProd (by rw [if_neg e57] at hQ; exact hQ hB hXB gx)
          | (refine ih2 _ d _ (m + 1) _ hC _ B cs Q _ (by rfl) hd kk1.1 (by rw [List.length_append, List.length_append, List.length_map]; show _ + 1 ≤ _; omega) (by omega) (by omega) (by omega) hXC (fun h' q1 q2 => ?_)
             refine hQ h' ?_ (gx.trans q2)
             change PX h' dr tk tp T p rows f g P od (C ++ ((pp K n 0 d (t + 1)).2.2 ++ ([(K t, none)] ++ (pp K n 2 d (pp K n 0 d (t + 1)).2.1).2.2)).map (rwF rows)) (pp K n 2 d (pp K n 0 d (t + 1)).2.1).2.1
             rw [rw3 hs]
             exact q1)
    · refine bg_aload0 rfl ?_
      refine bg_virt0 rfl rfl rfl rfl ⟨_, p0⟩ ?_
      refine bp_kind hF hN ht hX (bk_Ki ?_)
      refine bg_bipush rfl ?_
      refine bg_icmp_ne rfl (fun e34 => ?_) (fun e34 => ?_)
      · have hu : pp K (n + 1) 2 d t = (true, t, []) := if_neg (fun q => q.elim e25 e34)
        rw [hu] at hQ
        refine bg_iload2 rfl ?_
        refine bg_iret rfl rfl (by rfl) ?_
        exact hQ h (by rw [List.map_nil, List.append_nil]; exact hX) fr.refl
      · have hk : K t = 40 ∨ K t = 41 := Or.inr e34
        have ht1 : t + 1 < N := KE hE ht (by rintro q; rw [q] at hk; revert hk; decide) (by rintro q; rw [q] at hk; revert hk; decide)
        have hu : pp K (n + 1) 2 d t = sq (pp K n 0 d (t + 1)) (fun t1 => sq (em (K t) none t1) (pp K n 2 d)) := by
          show (if K t = 40 ∨ K t = 41 then _ else _) = _
          rw [if_pos hk]
        rw [hu] at hQ
        have kk1 := pp_k hE n 0 d (t + 1) ht1
        have kk4 := kk1.2.2.2
        have kk5 := kk1.1
        have hs : sdF (K t) = 2 := by rcases hk with q | q <;> rw [q] <;> rfl
        refine bg_aload0 rfl ?_
        refine bg_virt0 rfl rfl rfl rfl ⟨_, p0⟩ ?_
        refine bp_kind hF hN ht hX (bk_Ki ?_)
        refine bg_istore4 rfl rfl ?_
        refine bg_aload0 rfl ?_
        refine bg_iload4 rfl ?_
        refine bg_virt1 rfl rfl rfl rfl ⟨_, p0⟩ ?_
        refine bp_take hF hN ht hX (fun hA hXA gA => bk_Ki ?_)
        rw [if_pos rfl] at hXA
        rw [if_pos rfl]
        obtain ⟨hK, ⟨l0, l1, l2, l3, l4, l5⟩, p0, htk⟩ := id hXA
        refine bg_if_eq rfl (fun e49 => absurd e49 (by decide)) (fun e49 => ?_)
        refine bg_aload0 rfl ?_
        refine bg_iload1 rfl ?_
        refine bg_virt1 rfl rfl rfl rfl ⟨_, p0⟩ ?_
        refine ih1 _ d (t + 1) C _ _ _ _ hd ht1 (by omega) (by omega) (by omega) hXA (fun hB hXB gB => bk_Ki ?_)
        have gx := gA.trans gB
        obtain ⟨hK, ⟨l0, l1, l2, l3, l4, l5⟩, p0, htk⟩ := id hXB
        refine bg_ifeq_b rfl (fun e57 => ?_) (fun e57 => ?_)
        · rw [sq_f e57] at hQ
          refine bg_iconst rfl ?_
          refine bg_istore2 rfl rfl ?_
          refine bg_iinc3 rfl rfl ?_
          rw [nI_1]
          refine bg_goto rfl ?_
          first
            | exact bp_exitProd (by rw [if_neg e57] at hQ; exact hQ hB hXB gx)
            | (refine ih2 _ d _ (m + 1) _ hC _ B cs Q _ (by rfl) hd kk1.1 (by rw [List.length_append, List.length_append, List.length_map]; show _ + 1 ≤ _; omega) (by omega) (by omega) (by omega) hXC (fun h' q1 q2 => ?_)
               refine hQ h' ?_ (gx.trans q2)
               change PX h' dr tk tp T p rows f g P od (C ++ ((pp K n 0 d (t + 1)).2.2 ++ ([(K t, none)] ++ (pp K n 2 d (pp K n 0 d (t + 1)).2.1).2.2)).map (rwF rows)) (pp K n 2 d (pp K n 0 d (t + 1)).2.1).2.1
               rw [rw3 hs]
               exact q1)
        · rw [sq_t e57, sq_t (a := em (K t) none (pp K n 0 d (t + 1)).2.1) rfl] at hQ
          have kk3 : t + 1 + 1 ≤ (pp K n 0 d (t + 1)).2.1 := kk1.2.2.1 e57
          refine bg_aload0 rfl ?_
          refine bg_iload4 rfl ?_
          refine bg_iconst rfl ?_
          refine bg_iconst rfl ?_
          refine bg_virt3 rfl rfl rfl rfl ⟨_, p0⟩ ?_
          refine bp_write (by rw [List.length_append, List.length_map]; omega) hXB (fun hC hXC gC => bk_Ki ?_)
          have gx := gx.trans gC
          refine bg_if_eq rfl (fun e68 => absurd e68 (by decide)) (fun e68 => ?_)
          refine bg_iconst rfl ?_
          refine bg_goto rfl ?_
          refine bg_istore2 rfl rfl ?_
          refine bg_iinc3 rfl rfl ?_
          rw [nI_1]
          refine bg_goto rfl ?_
          first
            | exact bp_exitProd (by rw [if_neg e57] at hQ; exact hQ hB hXB gx)
            | (refine ih2 _ d _ (m + 1) _ hC _ B cs Q _ (by rfl) hd kk1.1 (by rw [List.length_append, List.length_append, List.length_map]; show _ + 1 ≤ _; omega) (by omega) (by omega) (by omega) hXC (fun h' q1 q2 => ?_)
               refine hQ h' ?_ (gx.trans q2)
               change PX h' dr tk tp T p rows f g P od (C ++ ((pp K n 0 d (t + 1)).2.2 ++ ([(K t, none)] ++ (pp K n 2 d (pp K n 0 d (t + 1)).2.1).2.2)).map (rwF rows)) (pp K n 2 d (pp K n 0 d (t + 1)).2.1).2.1
               rw [rw3 hs]
               exact q1)
theorem bp_mProd (hF : ∀ i, i < N → f i = K i) (hN : N ≤ 401) (hE : K (N - 1) = 47 ∨ K (N - 1) = 0) (ih1 : bpS V (fun h C t => PX h dr tk tp T p rows f g P od C t) rows dr N (pp K n 0) 1 56 n) (ih2 : bpL V (fun h C t => PX h dr tk tp T p rows f g P od C t) rows dr N (pp K n 2) 2 55 1 n) : bpS V (fun h C t => PX h dr tk tp T p rows f g P od C t) rows dr N (pp K (n + 1) 1) 2 55 (n + 1) := by
  intro D d t C h nn B Q hd ht hC hw hD hX hQ
  obtain ⟨D, rfl⟩ : ∃ D', D = D' + 4 := ⟨D - 4, by omega⟩
  change PX h dr tk tp T p rows f g P od C t at hX
  obtain ⟨hK, ⟨l0, l1, l2, l3, l4, l5⟩, p0, htk⟩ := id hX
  have kk1 := pp_k hE n 0 d t ht
  have hu : pp K (n + 1) 1 d t = sq (pp K n 0 d t) (pp K n 2 d) := rfl
  rw [hu] at hQ
  refine bg_in rfl rfl ?_
  refine bg_aload0 rfl ?_
  refine bg_iload1 rfl ?_
  refine bg_virt1 rfl rfl rfl rfl ⟨_, p0⟩ ?_
  refine ih1 _ d t C _ _ _ _ hd ht hC (by omega) (by omega) hX (fun hB hXB gB => bk_Ki ?_)
  obtain ⟨hK, ⟨l0, l1, l2, l3, l4, l5⟩, p0, htk⟩ := id hXB
  refine bg_istore2 rfl rfl ?_
  refine bg_iconst rfl ?_
  refine bg_istore3 rfl rfl ?_
  by_cases e : (pp K n 0 d t).1 = true
  · rw [if_pos e]
    rw [sq_t e] at hQ
    have kk3 : t + 1 ≤ (pp K n 0 d t).2.1 := kk1.2.2.1 e
    have kk4 := kk1.2.2.2
    refine ih2 _ d _ 0 _ hB _ B (0, 0) Q _ (by rfl) hd kk1.1 (by rw [List.length_append, List.length_map]; omega) (by omega) (by omega) (Nat.zero_le _) hXB (fun h' q1 q2 => ?_)
    refine hQ h' ?_ (gB.trans q2)
    rw [List.map_append, ← List.append_assoc]
    exact q1
  · rw [if_neg e]
    rw [sq_f e, if_neg e] at hQ
    exact bp_exitProd (m := 0) (hQ hB hXB gB)
theorem bp_lSum (hF : ∀ i, i < N → f i = K i) (hN : N ≤ 401) (hE : K (N - 1) = 47 ∨ K (N - 1) = 0) (ih1 : bpS V (fun h C t => PX h dr tk tp T p rows f g P od C t) rows dr N (pp K n 1) 2 55 n) (ih2 : bpL V (fun h C t => PX h dr tk tp T p rows f g P od C t) rows dr N (pp K n 4) 3 54 1 n) : bpL V (fun h C t => PX h dr tk tp T p rows f g P od C t) rows dr N (pp K (n + 1) 4) 3 54 1 (n + 1) := by
  intro D d t m C h nn B cs Q xt hxt hd ht hC hw hD hm hX hQ
  obtain ⟨D, rfl⟩ : ∃ D', D = D' + 3 := ⟨D - 3, by omega⟩
  obtain ⟨x4, rfl⟩ : ∃ x4, xt = [x4] := by
    cases xt with
    | nil => exact nomatch hxt
    | cons x r =>
      cases r with
      | nil => exact ⟨x, rfl⟩
      | cons y r => exact nomatch hxt
  change PX h dr tk tp T p rows f g P od C t at hX
  obtain ⟨hK, ⟨l0, l1, l2, l3, l4, l5⟩, p0, htk⟩ := id hX
  refine bg_iload3 rfl ?_
  refine bg_sipush rfl ?_
  refine bg_icmp_ge rfl (fun e12 => ?_) (fun e12 => ?_)
  · have hm : 400 ≤ m := Nat.le_of_not_lt fun q => e12 (nI_lt (b := 400) q (by omega))
    have ht9 : t = N - 1 := by omega
    have hu : pp K (n + 1) 4 d t = (true, t, []) := if_neg (by rw [ht9]; rcases hE with q | q <;> rw [q] <;> decide)
    rw [hu] at hQ
    refine bg_iload2 rfl ?_
    refine bg_iret rfl rfl (by rfl) ?_
    exact hQ h (by rw [List.map_nil, List.append_nil]; exact hX) fr.refl
  · refine bg_iload2 rfl ?_
    refine bg_if_eq rfl (fun e16 => absurd e16 (by decide)) (fun e16 => ?_)
    refine bg_aload0 rfl ?_
    refine bg_virt0 rfl rfl rfl rfl ⟨_, p0⟩ ?_
    refine bp_kind hF hN ht hX (bk_Ki ?_)
    refine bg_bipush rfl ?_
    refine bg_icmp_eq rfl (fun e25 => ?_) (fun e25 => ?_)
    · have hk : K t = 38 ∨ K t = 39 := Or.inl e25
      have ht1 : t + 1 < N := KE hE ht (by rintro q; rw [q] at hk; revert hk; decide) (by rintro q; rw [q] at hk; revert hk; decide)
      have hu : pp K (n + 1) 4 d t = sq (pp K n 1 d (t + 1)) (fun t1 => sq (em (K t) none t1) (pp K n 4 d)) := by
        show (if K t = 38 ∨ K t = 39 then _ else _) = _
        rw [if_pos hk]
      rw [hu] at hQ
      have kk1 := pp_k hE n 1 d (t + 1) ht1
      have kk4 := kk1.2.2.2
      have kk5 := kk1.1
      have hs : sdF (K t) = 2 := by rcases hk with q | q <;> rw [q] <;> rfl
      refine bg_aload0 rfl ?_
      refine bg_virt0 rfl rfl rfl rfl ⟨_, p0⟩ ?_
      refine bp_kind hF hN ht hX (bk_Ki ?_)
      refine bg_istore4 rfl rfl ?_
      refine bg_aload0 rfl ?_
      refine bg_iload4 rfl ?_
      refine bg_virt1 rfl rfl rfl rfl ⟨_, p0⟩ ?_
      refine bp_take hF hN ht hX (fun hA hXA gA => bk_Ki ?_)
      rw [if_pos rfl] at hXA
      rw [if_pos rfl]
      obtain ⟨hK, ⟨l0, l1, l2, l3, l4, l5⟩, p0, htk⟩ := id hXA
      refine bg_if_eq rfl (fun e49 => absurd e49 (by decide)) (fun e49 => ?_)
      refine bg_aload0 rfl ?_
      refine bg_iload1 rfl ?_
      refine bg_virt1 rfl rfl rfl rfl ⟨_, p0⟩ ?_
      refine ih1 _ d (t + 1) C _ _ _ _ hd ht1 (by omega) (by omega) (by omega) hXA (fun hB hXB gB => bk_Ki ?_)
      have gx := gA.trans gB
      obtain ⟨hK, ⟨l0, l1, l2, l3, l4, l5⟩, p0, htk⟩ := id hXB
      refine bg_ifeq_b rfl (fun e57 => ?_) (fun e57 => ?_)
      · rw [sq_f e57] at hQ
        refine bg_iconst rfl ?_
        refine bg_istore2 rfl rfl ?_
        refine bg_iinc3 rfl rfl ?_
        rw [nI_1]
        refine bg_goto rfl ?_
        first
          | exact bp_exitSum (by rw [if_neg e57] at hQ; exact hQ hB hXB gx)
          | (refine ih2 _ d _ (m + 1) _ hC _ B cs Q _ (by rfl) hd kk1.1 (by rw [List.length_append, List.length_append, List.length_map]; show _ + 1 ≤ _; omega) (by omega) (by omega) (by omega) hXC (fun h' q1 q2 => ?_)
             refine hQ h' ?_ (gx.trans q2)
             change PX h' dr tk tp T p rows f g P od (C ++ ((pp K n 1 d (t + 1)).2.2 ++ ([(K t, none)] ++ (pp K n 4 d (pp K n 1 d (t + 1)).2.1).2.2)).map (rwF rows)) (pp K n 4 d (pp K n 1 d (t + 1)).2.1).2.1
             rw [rw3 hs]
             exact q1)
      · rw [sq_t e57, sq_t (a := em (K t) none (pp K n 1 d (t + 1)).2.1) rfl] at hQ
        have kk3 : t + 1 + 1 ≤ (pp K n 1 d (t + 1)).2.1 := kk1.2.2.1 e57
        refine bg_aload0 rfl ?_
        refine bg_iload4 rfl ?_
        refine bg_iconst rfl ?_
        refine bg_iconst rfl ?_
        refine bg_virt3 rfl rfl rfl rfl ⟨_, p0⟩ ?_
        refine bp_write (by rw [List.length_append, List.length_map]; omega) hXB (fun hC hXC gC => bk_Ki ?_)
        have gx := gx.trans gC
        refine bg_if_eq rfl (fun e68 => absurd e68 (by decide)) (fun e68 => ?_)
        refine bg_iconst rfl ?_
        refine bg_goto rfl ?_
        refine bg_istore2 rfl rfl ?_
        refine bg_iinc3 rfl rfl ?_
        rw [nI_1]
        refine bg_goto rfl ?_
        first
          | exact bp_exitSum (by rw [if_neg e57] at hQ; exact hQ hB hXB gx)
          | (refine ih2 _ d _ (m + 1) _ hC _ B cs Q _ (by rfl) hd kk1.1 (by rw [List.length_append, List.length_append, List.length_map]; show _ + 1 ≤ _; omega) (by omega) (by omega) (by omega) hXC (fun h' q1 q2 => ?_)
             refine hQ h' ?_ (gx.trans q2)
             change PX h' dr tk tp T p rows f g P od (C ++ ((pp K n 1 d (t + 1)).2.2 ++ ([(K t, none)] ++ (pp K n 4 d (pp K n 1 d (t + 1)).2.1).2.2)).map (rwF rows)) (pp K n 4 d (pp K n 1 d (t + 1)).2.1).2.1
             rw [rw3 hs]
             exact q1)
    · refine bg_aload0 rfl ?_
      refine bg_virt0 rfl rfl rfl rfl ⟨_, p0⟩ ?_
      refine bp_kind hF hN ht hX (bk_Ki ?_)
      refine bg_bipush rfl ?_
      refine bg_icmp_ne rfl (fun e34 => ?_) (fun e34 => ?_)
      · have hu : pp K (n + 1) 4 d t = (true, t, []) := if_neg (fun q => q.elim e25 e34)
        rw [hu] at hQ
        refine bg_iload2 rfl ?_
        refine bg_iret rfl rfl (by rfl) ?_
        exact hQ h (by rw [List.map_nil, List.append_nil]; exact hX) fr.refl
      · have hk : K t = 38 ∨ K t = 39 := Or.inr e34
        have ht1 : t + 1 < N := KE hE ht (by rintro q; rw [q] at hk; revert hk; decide) (by rintro q; rw [q] at hk; revert hk; decide)
        have hu : pp K (n + 1) 4 d t = sq (pp K n 1 d (t + 1)) (fun t1 => sq (em (K t) none t1) (pp K n 4 d)) := by
          show (if K t = 38 ∨ K t = 39 then _ else _) = _
          rw [if_pos hk]
        rw [hu] at hQ
        have kk1 := pp_k hE n 1 d (t + 1) ht1
        have kk4 := kk1.2.2.2
        have kk5 := kk1.1
        have hs : sdF (K t) = 2 := by rcases hk with q | q <;> rw [q] <;> rfl
        refine bg_aload0 rfl ?_
        refine bg_virt0 rfl rfl rfl rfl ⟨_, p0⟩ ?_
        refine bp_kind hF hN ht hX (bk_Ki ?_)
        refine bg_istore4 rfl rfl ?_
        refine bg_aload0 rfl ?_
        refine bg_iload4 rfl ?_
        refine bg_virt1 rfl rfl rfl rfl ⟨_, p0⟩ ?_
        refine bp_take hF hN ht hX (fun hA hXA gA => bk_Ki ?_)
        rw [if_pos rfl] at hXA
        rw [if_pos rfl]
        obtain ⟨hK, ⟨l0, l1, l2, l3, l4, l5⟩, p0, htk⟩ := id hXA
        refine bg_if_eq rfl (fun e49 => absurd e49 (by decide)) (fun e49 => ?_)
        refine bg_aload0 rfl ?_
        refine bg_iload1 rfl ?_
        refine bg_virt1 rfl rfl rfl rfl ⟨_, p0⟩ ?_
        refine ih1 _ d (t + 1) C _ _ _ _ hd ht1 (by omega) (by omega) (by omega) hXA (fun hB hXB gB => bk_Ki ?_)
        have gx := gA.trans gB
        obtain ⟨hK, ⟨l0, l1, l2, l3, l4, l5⟩, p0, htk⟩ := id hXB
        refine bg_ifeq_b rfl (fun e57 => ?_) (fun e57 => ?_)
        · rw [sq_f e57] at hQ
          refine bg_iconst rfl ?_
          refine bg_istore2 rfl rfl ?_
          refine bg_iinc3 rfl rfl ?_
          rw [nI_1]
          refine bg_goto rfl ?_
          first
            | exact bp_exitSum (by rw [if_neg e57] at hQ; exact hQ hB hXB gx)
            | (refine ih2 _ d _ (m + 1) _ hC _ B cs Q _ (by rfl) hd kk1.1 (by rw [List.length_append, List.length_append, List.length_map]; show _ + 1 ≤ _; omega) (by omega) (by omega) (by omega) hXC (fun h' q1 q2 => ?_)
               refine hQ h' ?_ (gx.trans q2)
               change PX h' dr tk tp T p rows f g P od (C ++ ((pp K n 1 d (t + 1)).2.2 ++ ([(K t, none)] ++ (pp K n 4 d (pp K n 1 d (t + 1)).2.1).2.2)).map (rwF rows)) (pp K n 4 d (pp K n 1 d (t + 1)).2.1).2.1
               rw [rw3 hs]
               exact q1)
        · rw [sq_t e57, sq_t (a := em (K t) none (pp K n 1 d (t + 1)).2.1) rfl] at hQ
          have kk3 : t + 1 + 1 ≤ (pp K n 1 d (t + 1)).2.1 := kk1.2.2.1 e57
          refine bg_aload0 rfl ?_
          refine bg_iload4 rfl ?_
          refine bg_iconst rfl ?_
          refine bg_iconst rfl ?_
          refine bg_virt3 rfl rfl rfl rfl ⟨_, p0⟩ ?_
          refine bp_write (by rw [List.length_append, List.length_map]; omega) hXB (fun hC hXC gC => bk_Ki ?_)
          have gx := gx.trans gC
          refine bg_if_eq rfl (fun e68 => absurd e68 (by decide)) (fun e68 => ?_)
          refine bg_iconst rfl ?_
          refine bg_goto rfl ?_
          refine bg_istore2 rfl rfl ?_
          refine bg_iinc3 rfl rfl ?_
          rw [nI_1]
          refine bg_goto rfl ?_
          first
            | exact bp_exitSum (by rw [if_neg e57] at hQ; exact hQ hB hXB gx)
            | (refine ih2 _ d _ (m + 1) _ hC _ B cs Q _ (by rfl) hd kk1.1 (by rw [List.length_append, List.length_append, List.length_map]; show _ + 1 ≤ _; omega) (by omega) (by omega) (by omega) hXC (fun h' q1 q2 => ?_)
               refine hQ h' ?_ (gx.trans q2)
               change PX h' dr tk tp T p rows f g P od (C ++ ((pp K n 1 d (t + 1)).2.2 ++ ([(K t, none)] ++ (pp K n 4 d (pp K n 1 d (t + 1)).2.1).2.2)).map (rwF rows)) (pp K n 4 d (pp K n 1 d (t + 1)).2.1).2.1
               rw [rw3 hs]
               exact q1)
theorem bp_mSum (hF : ∀ i, i < N → f i = K i) (hN : N ≤ 401) (hE : K (N - 1) = 47 ∨ K (N - 1) = 0) (ih1 : bpS V (fun h C t => PX h dr tk tp T p rows f g P od C t) rows dr N (pp K n 1) 2 55 n) (ih2 : bpL V (fun h C t => PX h dr tk tp T p rows f g P od C t) rows dr N (pp K n 4) 3 54 1 n) : bpS V (fun h C t => PX h dr tk tp T p rows f g P od C t) rows dr N (pp K (n + 1) 3) 3 54 (n + 1) := by
  intro D d t C h nn B Q hd ht hC hw hD hX hQ
  obtain ⟨D, rfl⟩ : ∃ D', D = D' + 4 := ⟨D - 4, by omega⟩
  change PX h dr tk tp T p rows f g P od C t at hX
  obtain ⟨hK, ⟨l0, l1, l2, l3, l4, l5⟩, p0, htk⟩ := id hX
  have kk1 := pp_k hE n 1 d t ht
  have hu : pp K (n + 1) 3 d t = sq (pp K n 1 d t) (pp K n 4 d) := rfl
  rw [hu] at hQ
  refine bg_in rfl rfl ?_
  refine bg_aload0 rfl ?_
  refine bg_iload1 rfl ?_
  refine bg_virt1 rfl rfl rfl rfl ⟨_, p0⟩ ?_
  refine ih1 _ d t C _ _ _ _ hd ht hC (by omega) (by omega) hX (fun hB hXB gB => bk_Ki ?_)
  obtain ⟨hK, ⟨l0, l1, l2, l3, l4, l5⟩, p0, htk⟩ := id hXB
  refine bg_istore2 rfl rfl ?_
  refine bg_iconst rfl ?_
  refine bg_istore3 rfl rfl ?_
  by_cases e : (pp K n 1 d t).1 = true
  · rw [if_pos e]
    rw [sq_t e] at hQ
    have kk3 : t + 1 ≤ (pp K n 1 d t).2.1 := kk1.2.2.1 e
    have kk4 := kk1.2.2.2
    refine ih2 _ d _ 0 _ hB _ B (0, 0) Q _ (by rfl) hd kk1.1 (by rw [List.length_append, List.length_map]; omega) (by omega) (by omega) (Nat.zero_le _) hXB (fun h' q1 q2 => ?_)
    refine hQ h' ?_ (gB.trans q2)
    rw [List.map_append, ← List.append_assoc]
    exact q1
  · rw [if_neg e]
    rw [sq_f e, if_neg e] at hQ
    exact bp_exitSum (m := 0) (hQ hB hXB gB)
theorem bp_lBoth (hF : ∀ i, i < N → f i = K i) (hN : N ≤ 401) (hE : K (N - 1) = 47 ∨ K (N - 1) = 0) (ih1 : bpS V (fun h C t => PX h dr tk tp T p rows f g P od C t) rows dr N (pp K n 5) 4 53 n) (ih2 : bpL V (fun h C t => PX h dr tk tp T p rows f g P od C t) rows dr N (pp K n 7) 5 52 0 n) : bpL V (fun h C t => PX h dr tk tp T p rows f g P od C t) rows dr N (pp K (n + 1) 7) 5 52 0 (n + 1) := by
  intro D d t m C h nn B cs Q xt hxt hd ht hC hw hD hm hX hQ
  obtain ⟨D, rfl⟩ : ∃ D', D = D' + 3 := ⟨D - 3, by omega⟩
  obtain rfl : xt = [] := List.eq_nil_of_length_eq_zero hxt
  change PX h dr tk tp T p rows f g P od C t at hX
  obtain ⟨hK, ⟨l0, l1, l2, l3, l4, l5⟩, p0, htk⟩ := id hX
  refine bg_iload3 rfl ?_
  refine bg_sipush rfl ?_
  refine bg_icmp_ge rfl (fun e12 => ?_) (fun e12 => ?_)
  · have hm : 400 ≤ m := Nat.le_of_not_lt fun q => e12 (nI_lt (b := 400) q (by omega))
    have ht9 : t = N - 1 := by omega
    have hu : pp K (n + 1) 7 d t = (true, t, []) := if_neg (by rw [ht9]; rcases hE with q | q <;> rw [q] <;> decide)
    rw [hu] at hQ
    refine bg_iload2 rfl ?_
    refine bg_iret rfl rfl (by rfl) ?_
    exact hQ h (by rw [List.map_nil, List.append_nil]; exact hX) fr.refl
  · refine bg_iload2 rfl ?_
    refine bg_if_eq rfl (fun e16 => absurd e16 (by decide)) (fun e16 => ?_)
    refine bg_aload0 rfl ?_
    refine bg_virt0 rfl rfl rfl rfl ⟨_, p0⟩ ?_
    refine bp_kind hF hN ht hX (bk_Ki ?_)
    refine bg_bipush rfl ?_
    refine bg_icmp_ne rfl (fun e25 => ?_) (fun e25 => ?_)
    · have hu : pp K (n + 1) 7 d t = (true, t, []) := if_neg e25
      rw [hu] at hQ
      refine bg_iload2 rfl ?_
      refine bg_iret rfl rfl (by rfl) ?_
      exact hQ h (by rw [List.map_nil, List.append_nil]; exact hX) fr.refl
    · have hk : K t = 26 := e25
      have ht1 : t + 1 < N := KE hE ht (by rintro q; rw [q] at hk; revert hk; decide) (by rintro q; rw [q] at hk; revert hk; decide)
      have hu : pp K (n + 1) 7 d t = sq (pp K n 5 d (t + 1)) (fun t1 => sq (em (26) none t1) (pp K n 7 d)) := by
        show (if K t = 26 then _ else _) = _
        rw [if_pos hk]
      rw [hu] at hQ
      have kk1 := pp_k hE n 5 d (t + 1) ht1
      have kk4 := kk1.2.2.2
      have kk5 := kk1.1
      have hs : sdF (26) = 2 := rfl
      refine bg_aload0 rfl ?_
      refine bg_bipush rfl ?_
      refine bg_virt1 rfl rfl rfl rfl ⟨_, p0⟩ ?_
      refine bp_take hF hN ht hX (fun hA hXA gA => bk_Ki ?_)
      rw [if_pos hk] at hXA
      rw [if_pos hk]
      obtain ⟨hK, ⟨l0, l1, l2, l3, l4, l5⟩, p0, htk⟩ := id hXA
      refine bg_if_eq rfl (fun e34 => absurd e34 (by decide)) (fun e34 => ?_)
      refine bg_aload0 rfl ?_
      refine bg_iload1 rfl ?_
      refine bg_virt1 rfl rfl rfl rfl ⟨_, p0⟩ ?_
      refine ih1 _ d (t + 1) C _ _ _ _ hd ht1 (by omega) (by omega) (by omega) hXA (fun hB hXB gB => bk_Ki ?_)
      have gx := gA.trans gB
      obtain ⟨hK, ⟨l0, l1, l2, l3, l4, l5⟩, p0, htk⟩ := id hXB
      refine bg_ifeq_b rfl (fun e42 => ?_) (fun e42 => ?_)
      · rw [sq_f e42] at hQ
        refine bg_iconst rfl ?_
        refine bg_istore2 rfl rfl ?_
        refine bg_iinc3 rfl rfl ?_
        rw [nI_1]
        refine bg_goto rfl ?_
        first
          | exact bp_exitBoth (by rw [if_neg e42] at hQ; exact hQ hB hXB gx)
          | (refine ih2 _ d _ (m + 1) _ hC _ B cs Q _ (by rfl) hd kk1.1 (by rw [List.length_append, List.length_append, List.length_map]; show _ + 1 ≤ _; omega) (by omega) (by omega) (by omega) hXC (fun h' q1 q2 => ?_)
             refine hQ h' ?_ (gx.trans q2)
             change PX h' dr tk tp T p rows f g P od (C ++ ((pp K n 5 d (t + 1)).2.2 ++ ([(26, none)] ++ (pp K n 7 d (pp K n 5 d (t + 1)).2.1).2.2)).map (rwF rows)) (pp K n 7 d (pp K n 5 d (t + 1)).2.1).2.1
             rw [rw3 hs]
             exact q1)
      · rw [sq_t e42, sq_t (a := em (26) none (pp K n 5 d (t + 1)).2.1) rfl] at hQ
        have kk3 : t + 1 + 1 ≤ (pp K n 5 d (t + 1)).2.1 := kk1.2.2.1 e42
        refine bg_aload0 rfl ?_
        refine bg_bipush rfl ?_
        refine bg_iconst rfl ?_
        refine bg_iconst rfl ?_
        refine bg_virt3 rfl rfl rfl rfl ⟨_, p0⟩ ?_
        refine bp_write (by rw [List.length_append, List.length_map]; omega) hXB (fun hC hXC gC => bk_Ki ?_)
        have gx := gx.trans gC
        refine bg_if_eq rfl (fun e53 => absurd e53 (by decide)) (fun e53 => ?_)
        refine bg_iconst rfl ?_
        refine bg_goto rfl ?_
        refine bg_istore2 rfl rfl ?_
        refine bg_iinc3 rfl rfl ?_
        rw [nI_1]
        refine bg_goto rfl ?_
        first
          | exact bp_exitBoth (by rw [if_neg e42] at hQ; exact hQ hB hXB gx)
          | (refine ih2 _ d _ (m + 1) _ hC _ B cs Q _ (by rfl) hd kk1.1 (by rw [List.length_append, List.length_append, List.length_map]; show _ + 1 ≤ _; omega) (by omega) (by omega) (by omega) hXC (fun h' q1 q2 => ?_)
             refine hQ h' ?_ (gx.trans q2)
             change PX h' dr tk tp T p rows f g P od (C ++ ((pp K n 5 d (t + 1)).2.2 ++ ([(26, none)] ++ (pp K n 7 d (pp K n 5 d (t + 1)).2.1).2.2)).map (rwF rows)) (pp K n 7 d (pp K n 5 d (t + 1)).2.1).2.1
             rw [rw3 hs]
             exact q1)
theorem bp_mBoth (hF : ∀ i, i < N → f i = K i) (hN : N ≤ 401) (hE : K (N - 1) = 47 ∨ K (N - 1) = 0) (ih1 : bpS V (fun h C t => PX h dr tk tp T p rows f g P od C t) rows dr N (pp K n 5) 4 53 n) (ih2 : bpL V (fun h C t => PX h dr tk tp T p rows f g P od C t) rows dr N (pp K n 7) 5 52 0 n) : bpS V (fun h C t => PX h dr tk tp T p rows f g P od C t) rows dr N (pp K (n + 1) 6) 5 52 (n + 1) := by
  intro D d t C h nn B Q hd ht hC hw hD hX hQ
  obtain ⟨D, rfl⟩ : ∃ D', D = D' + 4 := ⟨D - 4, by omega⟩
  change PX h dr tk tp T p rows f g P od C t at hX
  obtain ⟨hK, ⟨l0, l1, l2, l3, l4, l5⟩, p0, htk⟩ := id hX
  have kk1 := pp_k hE n 5 d t ht
  have hu : pp K (n + 1) 6 d t = sq (pp K n 5 d t) (pp K n 7 d) := rfl
  rw [hu] at hQ
  refine bg_in rfl rfl ?_
  refine bg_aload0 rfl ?_
  refine bg_iload1 rfl ?_
  refine bg_virt1 rfl rfl rfl rfl ⟨_, p0⟩ ?_
  refine ih1 _ d t C _ _ _ _ hd ht hC (by omega) (by omega) hX (fun hB hXB gB => bk_Ki ?_)
  obtain ⟨hK, ⟨l0, l1, l2, l3, l4, l5⟩, p0, htk⟩ := id hXB
  refine bg_istore2 rfl rfl ?_
  refine bg_iconst rfl ?_
  refine bg_istore3 rfl rfl ?_
  by_cases e : (pp K n 5 d t).1 = true
  · rw [if_pos e]
    rw [sq_t e] at hQ
    have kk3 : t + 1 ≤ (pp K n 5 d t).2.1 := kk1.2.2.1 e
    have kk4 := kk1.2.2.2
    refine ih2 _ d _ 0 _ hB _ B (0, 0) Q _ (by rfl) hd kk1.1 (by rw [List.length_append, List.length_map]; omega) (by omega) (by omega) (Nat.zero_le _) hXB (fun h' q1 q2 => ?_)
    refine hQ h' ?_ (gB.trans q2)
    rw [List.map_append, ← List.append_assoc]
    exact q1
  · rw [if_neg e]
    rw [sq_f e, if_neg e] at hQ
    exact bp_exitBoth (m := 0) (hQ hB hXB gB)
theorem bp_lTest (hF : ∀ i, i < N → f i = K i) (hN : N ≤ 401) (hE : K (N - 1) = 47 ∨ K (N - 1) = 0) (ih1 : bpS V (fun h C t => PX h dr tk tp T p rows f g P od C t) rows dr N (pp K n 6) 5 52 n) (ih2 : bpL V (fun h C t => PX h dr tk tp T p rows f g P od C t) rows dr N (pp K n 9) 6 51 0 n) : bpL V (fun h C t => PX h dr tk tp T p rows f g P od C t) rows dr N (pp K (n + 1) 9) 6 51 0 (n + 1) := by
  intro D d t m C h nn B cs Q xt hxt hd ht hC hw hD hm hX hQ
  obtain ⟨D, rfl⟩ : ∃ D', D = D' + 3 := ⟨D - 3, by omega⟩
  obtain rfl : xt = [] := List.eq_nil_of_length_eq_zero hxt
  change PX h dr tk tp T p rows f g P od C t at hX
  obtain ⟨hK, ⟨l0, l1, l2, l3, l4, l5⟩, p0, htk⟩ := id hX
  refine bg_iload3 rfl ?_
  refine bg_sipush rfl ?_
  refine bg_icmp_ge rfl (fun e12 => ?_) (fun e12 => ?_)
  · have hm : 400 ≤ m := Nat.le_of_not_lt fun q => e12 (nI_lt (b := 400) q (by omega))
    have ht9 : t = N - 1 := by omega
    have hu : pp K (n + 1) 9 d t = (true, t, []) := if_neg (by rw [ht9]; rcases hE with q | q <;> rw [q] <;> decide)
    rw [hu] at hQ
    refine bg_iload2 rfl ?_
    refine bg_iret rfl rfl (by rfl) ?_
    exact hQ h (by rw [List.map_nil, List.append_nil]; exact hX) fr.refl
  · refine bg_iload2 rfl ?_
    refine bg_if_eq rfl (fun e16 => absurd e16 (by decide)) (fun e16 => ?_)
    refine bg_aload0 rfl ?_
    refine bg_virt0 rfl rfl rfl rfl ⟨_, p0⟩ ?_
    refine bp_kind hF hN ht hX (bk_Ki ?_)
    refine bg_bipush rfl ?_
    refine bg_icmp_ne rfl (fun e25 => ?_) (fun e25 => ?_)
    · have hu : pp K (n + 1) 9 d t = (true, t, []) := if_neg e25
      rw [hu] at hQ
      refine bg_iload2 rfl ?_
      refine bg_iret rfl rfl (by rfl) ?_
      exact hQ h (by rw [List.map_nil, List.append_nil]; exact hX) fr.refl
    · have hk : K t = 27 := e25
      have ht1 : t + 1 < N := KE hE ht (by rintro q; rw [q] at hk; revert hk; decide) (by rintro q; rw [q] at hk; revert hk; decide)
      have hu : pp K (n + 1) 9 d t = sq (pp K n 6 d (t + 1)) (fun t1 => sq (em (27) none t1) (pp K n 9 d)) := by
        show (if K t = 27 then _ else _) = _
        rw [if_pos hk]
      rw [hu] at hQ
      have kk1 := pp_k hE n 6 d (t + 1) ht1
      have kk4 := kk1.2.2.2
      have kk5 := kk1.1
      have hs : sdF (27) = 2 := rfl
      refine bg_aload0 rfl ?_
      refine bg_bipush rfl ?_
      refine bg_virt1 rfl rfl rfl rfl ⟨_, p0⟩ ?_
      refine bp_take hF hN ht hX (fun hA hXA gA => bk_Ki ?_)
      rw [if_pos hk] at hXA
      rw [if_pos hk]
      obtain ⟨hK, ⟨l0, l1, l2, l3, l4, l5⟩, p0, htk⟩ := id hXA
      refine bg_if_eq rfl (fun e34 => absurd e34 (by decide)) (fun e34 => ?_)
      refine bg_aload0 rfl ?_
      refine bg_iload1 rfl ?_
      refine bg_virt1 rfl rfl rfl rfl ⟨_, p0⟩ ?_
      refine ih1 _ d (t + 1) C _ _ _ _ hd ht1 (by omega) (by omega) (by omega) hXA (fun hB hXB gB => bk_Ki ?_)
      have gx := gA.trans gB
      obtain ⟨hK, ⟨l0, l1, l2, l3, l4, l5⟩, p0, htk⟩ := id hXB
      refine bg_ifeq_b rfl (fun e42 => ?_) (fun e42 => ?_)
      · rw [sq_f e42] at hQ
        refine bg_iconst rfl ?_
        refine bg_istore2 rfl rfl ?_
        refine bg_iinc3 rfl rfl ?_
        rw [nI_1]
        refine bg_goto rfl ?_
        first
          | exact bp_exitTest (by rw [if_neg e42] at hQ; exact hQ hB hXB gx)
          | (refine ih2 _ d _ (m + 1) _ hC _ B cs Q _ (by rfl) hd kk1.1 (by rw [List.length_append, List.length_append, List.length_map]; show _ + 1 ≤ _; omega) (by omega) (by omega) (by omega) hXC (fun h' q1 q2 => ?_)
             refine hQ h' ?_ (gx.trans q2)
             change PX h' dr tk tp T p rows f g P od (C ++ ((pp K n 6 d (t + 1)).2.2 ++ ([(27, none)] ++ (pp K n 9 d (pp K n 6 d (t + 1)).2.1).2.2)).map (rwF rows)) (pp K n 9 d (pp K n 6 d (t + 1)).2.1).2.1
             rw [rw3 hs]
             exact q1)
      · rw [sq_t e42, sq_t (a := em (27) none (pp K n 6 d (t + 1)).2.1) rfl] at hQ
        have kk3 : t + 1 + 1 ≤ (pp K n 6 d (t + 1)).2.1 := kk1.2.2.1 e42
        refine bg_aload0 rfl ?_
        refine bg_bipush rfl ?_
        refine bg_iconst rfl ?_
        refine bg_iconst rfl ?_
        refine bg_virt3 rfl rfl rfl rfl ⟨_, p0⟩ ?_
        refine bp_write (by rw [List.length_append, List.length_map]; omega) hXB (fun hC hXC gC => bk_Ki ?_)
        have gx := gx.trans gC
        refine bg_if_eq rfl (fun e53 => absurd e53 (by decide)) (fun e53 => ?_)
        refine bg_iconst rfl ?_
        refine bg_goto rfl ?_
        refine bg_istore2 rfl rfl ?_
        refine bg_iinc3 rfl rfl ?_
        rw [nI_1]
        refine bg_goto rfl ?_
        first
          | exact bp_exitTest (by rw [if_neg e42] at hQ; exact hQ hB hXB gx)
          | (refine ih2 _ d _ (m + 1) _ hC _ B cs Q _ (by rfl) hd kk1.1 (by rw [List.length_append, List.length_append, List.length_map]; show _ + 1 ≤ _; omega) (by omega) (by omega) (by omega) hXC (fun h' q1 q2 => ?_)
             refine hQ h' ?_ (gx.trans q2)
             change PX h' dr tk tp T p rows f g P od (C ++ ((pp K n 6 d (t + 1)).2.2 ++ ([(27, none)] ++ (pp K n 9 d (pp K n 6 d (t + 1)).2.1).2.2)).map (rwF rows)) (pp K n 9 d (pp K n 6 d (t + 1)).2.1).2.1
             rw [rw3 hs]
             exact q1)
theorem bp_mTest (hF : ∀ i, i < N → f i = K i) (hN : N ≤ 401) (hE : K (N - 1) = 47 ∨ K (N - 1) = 0) (ih1 : bpS V (fun h C t => PX h dr tk tp T p rows f g P od C t) rows dr N (pp K n 6) 5 52 n) (ih2 : bpL V (fun h C t => PX h dr tk tp T p rows f g P od C t) rows dr N (pp K n 9) 6 51 0 n) : bpS V (fun h C t => PX h dr tk tp T p rows f g P od C t) rows dr N (pp K (n + 1) 8) 6 51 (n + 1) := by
  intro D d t C h nn B Q hd ht hC hw hD hX hQ
  obtain ⟨D, rfl⟩ : ∃ D', D = D' + 4 := ⟨D - 4, by omega⟩
  change PX h dr tk tp T p rows f g P od C t at hX
  obtain ⟨hK, ⟨l0, l1, l2, l3, l4, l5⟩, p0, htk⟩ := id hX
  have kk1 := pp_k hE n 6 d t ht
  have hu : pp K (n + 1) 8 d t = sq (pp K n 6 d t) (pp K n 9 d) := rfl
  rw [hu] at hQ
  refine bg_in rfl rfl ?_
  refine bg_aload0 rfl ?_
  refine bg_iload1 rfl ?_
  refine bg_virt1 rfl rfl rfl rfl ⟨_, p0⟩ ?_
  refine ih1 _ d t C _ _ _ _ hd ht hC (by omega) (by omega) hX (fun hB hXB gB => bk_Ki ?_)
  obtain ⟨hK, ⟨l0, l1, l2, l3, l4, l5⟩, p0, htk⟩ := id hXB
  refine bg_istore2 rfl rfl ?_
  refine bg_iconst rfl ?_
  refine bg_istore3 rfl rfl ?_
  by_cases e : (pp K n 6 d t).1 = true
  · rw [if_pos e]
    rw [sq_t e] at hQ
    have kk3 : t + 1 ≤ (pp K n 6 d t).2.1 := kk1.2.2.1 e
    have kk4 := kk1.2.2.2
    refine ih2 _ d _ 0 _ hB _ B (0, 0) Q _ (by rfl) hd kk1.1 (by rw [List.length_append, List.length_map]; omega) (by omega) (by omega) (Nat.zero_le _) hXB (fun h' q1 q2 => ?_)
    refine hQ h' ?_ (gB.trans q2)
    rw [List.map_append, ← List.append_assoc]
    exact q1
  · rw [if_neg e]
    rw [sq_f e, if_neg e] at hQ
    exact bp_exitTest (m := 0) (hQ hB hXB gB)
end BP
