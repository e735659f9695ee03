/-! THE REFERENCE: it reads a list. Printed by wip/whole/mk98e.py. -/
theorem opL_at {nv : Nat → Int32} : ∀ (l : List bIt) (p x : Nat), x ∈ opL l p → ∃ q ∈ l, ∃ j, q.2 = some j ∧ isNm q.1 ∧ (rcL nv l).getD (x - p) 0 = nI j
  | [], _, _, h => absurd h List.not_mem_nil
  | q :: l, p, x, h => by
    rcases List.mem_append.mp h with h | h
    · obtain ⟨k, o⟩ := q
      cases o with
      | none => exact absurd h List.not_mem_nil
      | some j =>
        have h : x ∈ (if k = 31 then [] else if isNm k then [p + 1] else []) := h
        by_cases a : k = 31
        · rw [if_pos a] at h
          exact absurd h List.not_mem_nil
        · rw [if_neg a] at h
          by_cases b : isNm k
          · rw [if_pos b] at h
            have hx := List.mem_singleton.mp h
            refine ⟨_, List.mem_cons_self, j, rfl, b, ?_⟩
            have e : rcI nv (k, some j) = [oW k, nI j] := by
              show (if k = 31 then _ else if isNm k then _ else _) = _
              rw [if_neg a, if_pos b]
            show (rcI nv (k, some j) ++ rcL nv l).getD (x - p) 0 = nI j
            rw [e, hx, show p + 1 - p = 1 by omega]
            rfl
          · rw [if_neg b] at h
            exact absurd h List.not_mem_nil
    · obtain ⟨q', hq', j, e1, e2, e3⟩ := opL_at (nv := nv) l _ x h
      refine ⟨q', List.mem_cons_of_mem _ hq', j, e1, e2, ?_⟩
      have m := (opL_mem l _ x h).1
      have hl : (rcI nv q).length = lnI q := rcI_len
      show (rcI nv q ++ rcL nv l).getD (x - p) 0 = nI j
      rw [List.getD_eq_getElem?_getD] at e3 ⊢
      rw [List.getElem?_append_right (by omega), hl, show x - p - lnI q = x - (p + lnI q) by omega]
      exact e3
theorem ls_sv {Kd : Nat → Int32} {N : Nat} {rows : bT} (hE : Kd (N - 1) = 47 ∨ Kd (N - 1) = 0) : ∀ (c : Nat) (s : bP), SV N s → SV N (lsL Kd rows c s).2
  | 0, s, h => h
  | c + 1, s, h => by
    by_cases e : Kd s.1 = 47
    · rw [lsL_e e]
      exact h
    · rw [lsL_s e]
      have v1 := (lnAll_k (rows := rows) hE h).1
      by_cases r1 : (lnAll Kd rows s).1 = true
      · rw [sqS_t (b := fun s => tkS Kd 36 s) r1]
        have v2 := (tkS_k (k := 36) hE v1 (by decide) (by decide)).1
        by_cases r2 : (tkS Kd 36 (lnAll Kd rows s).2).1 = true
        · rw [sqS_t r2]
          exact ls_sv hE c _ v2
        · rw [sqS_f r2]
          exact v2
      · rw [sqS_f (a := lnAll Kd rows s) (b := fun s => tkS Kd 36 s) r1, sqS_f r1]
        exact v1
theorem ckF_at {f : Nat → Int32} {g : Nat → Int64} {rows : bT} {et : Int32} {k : Nat} (hk : k < rows.length) (hok : ∀ j, j < k → ckE f g rows j = 0) (hne : ¬ ckE f g rows k = 0) : ckF f g et rows = (ckE f g rows k, nI k, ckS f g rows (k + 1)) := by
  rcases ckF_r (f := f) (g := g) (rows := rows) (et := et) with ⟨m, m1, m2, m3, m4⟩ | ⟨m1, _, _⟩
  · have : m = k := by
      by_cases a : m < k
      · exact absurd (hok m a) m3
      · by_cases b : k < m
        · exact absurd (m2 k b) hne
        · omega
    rw [m4, this]
  · exact absurd (m1 k hk) hne
theorem ck_col0 {f : Nat → Int32} {g : Nat → Int64} {rows : bT} {et : Int32} (hw : ∀ q ∈ rows, q.length = 2) (hl : rows.length < 2 ^ 31) (j : Nat) : tg (ckF f g et rows).2.2.2.2 j 0 = tg rows j 0 := by
  rcases ckF_r (f := f) (g := g) (rows := rows) (et := et) with ⟨m, m1, m2, m3, m4⟩ | ⟨m1, _, m3⟩
  · rw [m4]
    exact (ckS_rows hw hl (m + 1) m1).2.2 j 0 (Or.inr (by decide))
  · rw [m3]
    exact (ckS_rows hw hl rows.length (Nat.le_refl _)).2.2 j 0 (Or.inr (by decide))
/-- what a list that was read gives -/
def PLN (P : Nat → bT) (K : rI) (C : rA) : Prop := RP P K C ∧ WP P ∧ OV P ∧ (shT (P 0) 2 5 ∧ shT (P 1) 2 6 ∧ shT (P 2) 3 6 ∧ shT (P 3) 7 24 ∧ shT (P 4) 3 400) ∧ (∀ i, i < (P 0).length → ∃ k, 1 ≤ k ∧ k ≤ 9 ∧ tg (P 0) i 1 = nI k) ∧ (∀ i, i < (P 1).length → ∃ k, 1 ≤ k ∧ k ≤ 6 ∧ tg (P 1) i 1 = nI k)
section MM
variable {V : bk_V} {D n : Nat} {B : Nat × Nat} {Q : bk_R → bk_H → Nat → Prop} {h0 h : bk_H} {y u v N m idx no : Nat} {T : List Int32} {P : Nat → bT} {S : bS} {K J K2 : rI} {C Fx F C2 : rA} {Kd : Nat → Int32} {nv : Nat → Int32} {g : Nat → Int64} {cs : Nat × Nat} {f : Nat → Int32} {rows : bT} {E : Nat} {Kz : rI} {Cz Cb : rA} {cl : List Int32} {ol : List Nat} {j2 : Int32}
theorem mt_errL (hf : ∀ i, i < N → f i = Kd i) (hN : N ≤ 401) (hEN : E ≤ N) (hT : ∀ i, i < E → OKT Kd i) (hw : ∀ q ∈ rows, q.length = 2) (hl : rows.length = N) (hm : NMk Fx Kd N T g) (hV : NVk Fx Kd N T nv) (hnv : ∀ i, i < E → Kd i = 31 → rG rows (nI i) 1 = nv i) (hQ1 : ∀ k, k < E → (∀ j, j < k → ckE f g rows j = 0) → ¬ ckE f g rows k = 0 → ∀ (h' : bk_H) (J' : rI) (F' : rA) (K2' : rI) (C2' : rA), MT h0 h' y u v T P S K C J' F' K2' C2' → J' 0 = 0 → J' 2 = Fx 1 k → Q (.inl (some (.int (ckE f g rows k)))) h' n) (hQ2 : (∀ j, j < E → ckE f g rows j = 0) → ∀ (h' : bk_H) (J' : rI) (F' : rA) (K2' : rI) (C2' : rA) (x2 : Option Value), MT h0 h' y u v T P S K C J' F' K2' C2' → J' 0 = 0 → J' 2 = j2 → ZH f g rows Kd nv Cb E Kz Cz E F' K2' C2' → bk_g V (d + 64) 194 B Q 109 [some (.ref y), some (.int (nI E)), x2] [] h' n cs) : ∀ (c i : Nat) (x2 : Option Value) (h : bk_H) (J : rI) (F : rA) (K2 : rI) (C2 : rA), i + c = E → MT h0 h y u v T P S K C J F K2 C2 → J 0 = 0 → J 2 = j2 → J 3 = nI i → F 1 = Fx 1 → F 2 = Fx 2 → ZH f g rows Kd nv Cb E Kz Cz i F K2 C2 → (∀ j, j < i → ckE f g rows j = 0) → bk_g V (d + 64) 194 B Q 57 [some (.ref y), some (.int (nI E)), x2] [] h n cs := by
  intro c
  induction c with
  | zero =>
    intro i x2 h J F K2 C2 hi hM j0 jj2 j3 hf1 hf2 hZ hok
    obtain rfl : i = E := by omega
    refine bg_aload0 rfl ?_
    refine bg_getfield rfl rfl hM.Y (by rfl) ?_
    rw [j3]
    refine bg_iload1 rfl ?_
    refine bg_icmp_ge rfl (fun e62 => ?_) (fun e62 => absurd e62 (nI_nlt (Nat.le_refl _) (by omega)))
    exact hQ2 hok h J F K2 C2 x2 hM j0 jj2 hZ
  | succ c ih =>
    intro i x2 h J F K2 C2 hi hM j0 jj2 j3 hf1 hf2 hZ hok
    have hiE : i < E := by omega
    refine bg_aload0 rfl ?_
    refine bg_getfield rfl rfl hM.Y (by rfl) ?_
    rw [j3]
    refine bg_iload1 rfl ?_
    refine bg_icmp_ge rfl (fun e62 => absurd (nI_lt hiE (by omega)) e62) (fun e62 => ?_)
    refine bg_aload0 rfl ?_
    refine bg_aload0 rfl ?_
    refine bg_getfield rfl rfl hM.Y (by rfl) ?_
    rw [j3]
    refine bg_virt1 rfl rfl rfl rfl ⟨_, hM.Y⟩ ?_
    refine mt_errorOf (Fx := Fx) (E := E) (N := N) hf hN hEN hiE hok (hT i hiE) hw hl hf1 hf2 hm hV (hnv i hiE) hM hZ (fun h3 F3 K3 C3 hM hF3 hZ3 => bk_Ki ?_)
    obtain ⟨f30, f31, f32⟩ := hF3
    refine bg_istore2 rfl rfl ?_
    refine bg_iload2 rfl ?_
    refine bg_if_ne rfl (fun e75 => ?_) (fun e75 => ?_)
    · refine bg_aload0 rfl ?_
      refine bg_aload0 rfl ?_
      refine bg_getfield rfl rfl hM.Y (by rfl) ?_
      refine bg_aload0 rfl ?_
      refine bg_getfield rfl rfl hM.Y (by rfl) ?_
      rw [j3]
      refine bg_iaload_n rfl hM.f1 (by decide) (by omega) ?_
      refine bg_putfield rfl rfl hM.Y (by rfl) ⟨rfl, rfl⟩ (by rfl) (fun h91 f91 g91 => ?_)
      have hM := hM.j f91 g91 (by rfl)
      refine bg_iload2 rfl ?_
      refine bg_iret rfl rfl (by rfl) ?_
      exact hQ1 i hiE hok e75 _ _ _ _ _ hM j0 (congrFun (f31.trans hf1) i)
    · have hZ3 := hZ3 e75
      have hM := hM
      refine bg_goto rfl ?_
      refine bg_aload0 rfl ?_
      refine bg_dup rfl rfl ?_
      refine bg_getfield rfl rfl hM.Y (by rfl) ?_
      refine bg_iconst rfl ?_
      refine bg_iadd rfl ?_
      refine bg_putfield rfl rfl hM.Y (by rfl) ⟨rfl, rfl⟩ (by rfl) (fun h103 f103 g103 => ?_)
      have hM := hM.j f103 g103 (by rfl)
      refine bg_goto rfl ?_
      refine ih (i + 1) _ _ _ _ _ _ (by omega) hM j0 jj2 (by show upd J 3 (J 3 + 1) 3 = _; rw [upd_same, j3, nI_1]) (f31.trans hf1) (f32.trans hf2) hZ3 (fun j hj => ?_)
      by_cases e : j < i
      · exact hok j e
      · rw [show j = i by omega]
        exact e75

theorem mt_openL {x1 : Option Value} (h6 : K2 6 = nI ol.length) (h14 : ∀ k, k < ol.length → Cz 14 k = nI (ol.getD k 0)) (ho : ∀ k, k < ol.length → ol.getD k 0 < cl.length ∧ ∃ j, j < 401 ∧ cl.getD (ol.getD k 0) 0 = nI j) (hnd : ∀ k, k < ol.length → ¬ ol.getD k 0 ∈ ol.take k) (hcl : cl.length ≤ 800) (hol : ol.length ≤ 400) (hQ : ∀ (h' : bk_H) (C2' : rA), MT h0 h' y u v T P S K C J F K2 C2' → (∀ j, ¬ j = 13 → C2' j = Cz j) → (∀ p, p < cl.length → C2' 13 p = if p ∈ ol then F 4 (cl.getD p 0).toNatClampNeg else cl.getD p 0) → Q (.inl (some (.int 0))) h' n) : ∀ (c k : Nat) (h : bk_H) (C2 : rA), k + c = ol.length → MT h0 h y u v T P S K C J F K2 C2 → (∀ j, ¬ j = 13 → C2 j = Cz j) → (∀ p, p < cl.length → C2 13 p = if p ∈ ol.take k then F 4 (cl.getD p 0).toNatClampNeg else cl.getD p 0) → bk_g V d 194 B Q 111 [some (.ref y), x1, some (.int (nI k))] [] h n cs := by
  intro c
  induction c with
  | zero =>
    intro k h C2 hi hM hz hc
    obtain rfl : k = ol.length := by omega
    refine bg_iload2 rfl ?_
    refine bg_aload0 rfl ?_
    refine bg_getfield rfl rfl hM.Y (by rfl) ?_
    refine bg_getfield rfl rfl hM.R.1 (by rfl) ?_
    rw [h6]
    refine bg_icmp_ge rfl (fun e119 => ?_) (fun e119 => absurd e119 (nI_nlt (Nat.le_refl _) (by omega)))
    refine bg_iconst rfl ?_
    refine bg_iret rfl rfl (by rfl) ?_
    refine hQ h C2 hM hz (fun p hp => ?_)
    rw [hc p hp, List.take_length]
  | succ c ih =>
    intro k h C2 hi hM hz hc
    have hk : k < ol.length := by omega
    obtain ⟨o1, jj, o2, o3⟩ := ho k hk
    have o14 : C2 14 k = nI (ol.getD k 0) := by rw [hz 14 (by decide)]; exact h14 k hk
    have o13 : C2 13 (ol.getD k 0) = nI jj := by rw [hc _ o1, if_neg (hnd k hk)]; exact o3
    refine bg_iload2 rfl ?_
    refine bg_aload0 rfl ?_
    refine bg_getfield rfl rfl hM.Y (by rfl) ?_
    refine bg_getfield rfl rfl hM.R.1 (by rfl) ?_
    rw [h6]
    refine bg_icmp_ge rfl (fun e119 => absurd (nI_lt hk (by omega)) e119) (fun e119 => ?_)
    refine bg_aload0 rfl ?_
    refine bg_getfield rfl rfl hM.Y (by rfl) ?_
    refine bg_getfield rfl rfl hM.R.1 (by rfl) ?_
    refine bg_aload0 rfl ?_
    refine bg_getfield rfl rfl hM.Y (by rfl) ?_
    refine bg_getfield rfl rfl hM.R.1 (by rfl) ?_
    refine bg_iload2 rfl ?_
    refine bg_iaload_n rfl (pR15 hM.R) (by decide) (by omega) ?_
    rw [o14]
    refine bg_aload0 rfl ?_
    refine bg_getfield rfl rfl hM.Y (by rfl) ?_
    refine bg_aload0 rfl ?_
    refine bg_getfield rfl rfl hM.Y (by rfl) ?_
    refine bg_getfield rfl rfl hM.R.1 (by rfl) ?_
    refine bg_aload0 rfl ?_
    refine bg_getfield rfl rfl hM.Y (by rfl) ?_
    refine bg_getfield rfl rfl hM.R.1 (by rfl) ?_
    refine bg_iload2 rfl ?_
    refine bg_iaload_n rfl (pR15 hM.R) (by decide) (by omega) ?_
    rw [o14]
    refine bg_iaload_n rfl (pR14 hM.R) (by decide) (by omega) ?_
    rw [o13]
    refine bg_iaload_n rfl hM.f4 (by decide) (by omega) ?_
    refine bg_iastore_n rfl (pR14 hM.R) (by decide) (by omega) (fun h160 f160 g160 => ?_)
    have hM := hM.cc13 f160 g160
    refine bg_iinc2 rfl rfl ?_
    rw [nI_1]
    refine bg_goto rfl ?_
    refine ih (k + 1) _ _ (by omega) hM (fun j hj => (uA_n hj).trans (hz j hj)) (fun p hp => ?_)
    rw [uA_s, List.take_add_one, show ol[k]?.toList = [ol.getD k 0] by rw [List.getD_eq_getElem?_getD, List.getElem?_eq_getElem hk]; rfl]
    by_cases e : p = ol.getD k 0
    · rw [e, upd_same, if_pos (List.mem_append_right _ (List.mem_singleton.mpr rfl)), o3, nI_clamp (by omega)]
    · have e2 : upd (C2 13) (ol.getD k 0) (F 4 jj) p = C2 13 p := if_neg e
      rw [e2, hc p hp]
      by_cases m : p ∈ ol.take k
      · rw [if_pos m, if_pos (List.mem_append_left _ m)]
      · rw [if_neg m, if_neg (fun z => (List.mem_append.mp z).elim m (fun z => e (List.mem_singleton.mp z)))]

end MM
