/-! THE REFERENCE: cut. Printed by wip/whole/mk77.py. -/
/-- the rows hold these tokens -/
def RSc (tk : tK) (F : rA) : Prop := ∀ j t, tk[j]? = some t → F 0 j = wK t.1 ∧ F 1 j = nI t.2.1 ∧ (¬ t.1 = 47 → ¬ t.1 = 0 → F 2 j = nI (t.2.2 - t.2.1)) ∧ F 3 j = 0 ∧ F 4 j = 0
theorem RSc_s {tk : tK} {F F' : rA} {t : Int32 × Nat × Nat} (h : RSc tk F) (h0 : F' 0 tk.length = wK t.1) (h1 : F' 1 tk.length = nI t.2.1) (h2 : ¬ t.1 = 47 → ¬ t.1 = 0 → F' 2 tk.length = nI (t.2.2 - t.2.1)) (h3 : F' 3 tk.length = 0) (h4 : F' 4 tk.length = 0) (hn : ∀ j, j < tk.length → F' 0 j = F 0 j ∧ F' 1 j = F 1 j ∧ F' 2 j = F 2 j ∧ F' 3 j = F 3 j ∧ F' 4 j = F 4 j) : RSc (tk ++ [t]) F' := by
  intro j t' hj
  by_cases e : j < tk.length
  · rw [List.getElem?_append_left e] at hj
    obtain ⟨a0, a1, a2, a3, a4⟩ := hn j e
    rw [a0, a1, a2, a3, a4]
    exact h j t' hj
  · have e2 : j = tk.length := by
      have h5 : j < (tk ++ [t]).length := (List.getElem?_eq_some_iff.mp hj).1
      rw [List.length_append] at h5
      have : j < tk.length + 1 := h5
      omega
    subst e2
    rw [List.getElem?_append_right (Nat.le_refl _), Nat.sub_self] at hj
    have : t = t' := Option.some.inj hj
    subst this
    exact ⟨h0, h1, h2, h3, h4⟩
theorem tkE_ge {T : List Int32} {i p : Nat} : p ≤ tkE T i p := by
  have h1 := (wL_ge (T := T) (T.length - p) p).1
  have h2 := (dL_ge (T := T) (T.length - p) p).1
  unfold tkE
  show p ≤ if bA T p < 0 then p else if 400 ≤ i then p else if isL (bA T p) then wL T (T.length - p) p else if isD (bA T p) then dL T (T.length - p) p else if sgF (bA T p) < 0 then p else if sg2 T p then p + 2 else p + 1
  repeat' split
  all_goals omega
theorem tkL_1 {T : List Int32} {k i p : Nat} : tkL T (k + 1) i p = (tkK T i (skP T p), skP T p, tkE T i (skP T p)) :: (if tkK T i (skP T p) = 47 ∨ tkK T i (skP T p) = 0 then [] else tkL T k (i + 1) (tkE T i (skP T p))) := rfl
section MM
variable {V : bk_V} {d n : Nat} {B : Nat × Nat} {Q : bk_R → bk_H → Nat → Prop} {h0 h : bk_H} {y u v : Nat} {T : List Int32} {P : Nat → bT} {S : bS} {K J K2 : rI} {C F C2 : rA} {cs : Nat × Nat}
theorem MT.gg0 {h' : bk_H} {f : Nat → Int32} (z : MT h0 h y u v T P S K C J F K2 C2) (c : AR h' (y + 2) 401 f) (w : ∀ q, q ≠ y + 2 → h' q = h q) : ∃ F', MT h0 h' y u v T P S K C J F' K2 C2 ∧ F' 0 = f ∧ ∀ j, j ≠ 0 → F' j = F j := ⟨_, z.ff0 c w, uA_s, fun _ q => uA_n q⟩
theorem MT.gg1 {h' : bk_H} {f : Nat → Int32} (z : MT h0 h y u v T P S K C J F K2 C2) (c : AR h' (y + 3) 401 f) (w : ∀ q, q ≠ y + 3 → h' q = h q) : ∃ F', MT h0 h' y u v T P S K C J F' K2 C2 ∧ F' 1 = f ∧ ∀ j, j ≠ 1 → F' j = F j := ⟨_, z.ff1 c w, uA_s, fun _ q => uA_n q⟩
theorem MT.gg2 {h' : bk_H} {f : Nat → Int32} (z : MT h0 h y u v T P S K C J F K2 C2) (c : AR h' (y + 4) 401 f) (w : ∀ q, q ≠ y + 4 → h' q = h q) : ∃ F', MT h0 h' y u v T P S K C J F' K2 C2 ∧ F' 2 = f ∧ ∀ j, j ≠ 2 → F' j = F j := ⟨_, z.ff2 c w, uA_s, fun _ q => uA_n q⟩
theorem MT.gg3 {h' : bk_H} {f : Nat → Int32} (z : MT h0 h y u v T P S K C J F K2 C2) (c : AR h' (y + 5) 401 f) (w : ∀ q, q ≠ y + 5 → h' q = h q) : ∃ F', MT h0 h' y u v T P S K C J F' K2 C2 ∧ F' 3 = f ∧ ∀ j, j ≠ 3 → F' j = F j := ⟨_, z.ff3 c w, uA_s, fun _ q => uA_n q⟩
theorem MT.gg4 {h' : bk_H} {f : Nat → Int32} (z : MT h0 h y u v T P S K C J F K2 C2) (c : AR h' (y + 6) 401 f) (w : ∀ q, q ≠ y + 6 → h' q = h q) : ∃ F', MT h0 h' y u v T P S K C J F' K2 C2 ∧ F' 4 = f ∧ ∀ j, j ≠ 4 → F' j = F j := ⟨_, z.ff4 c w, uA_s, fun _ q => uA_n q⟩
theorem mt_skipL {i : Nat} (hM : MT h0 h y u v T P S K C J F K2 C2) : ∀ (c p : Nat), c = T.length - p → p ≤ 2002 → bk_g V (d + 3) 162 B Q 37 [some (.ref y), some (.int (nI (skL T c p))), some (.int (nI i))] [] h n cs → bk_g V (d + 3) 162 B Q 11 [some (.ref y), some (.int (nI p)), some (.int (nI i))] [] h n cs := by
  have hT2 := hM.mb.T2
  intro c
  induction c with
  | zero =>
    intro p hc hp hK
    have hb : bA T p = -1 := bA_ge (by omega)
    refine bg_aload0 rfl ?_
    refine bg_iload1 rfl ?_
    refine bg_virt1 rfl rfl rfl rfl ⟨_, hM.Y⟩ ?_
    refine mt_byteOf (p := p) hM (by omega) (bk_Ki ?_)
    refine bg_bipush rfl ?_
    refine bg_icmp_eq rfl (fun e18 => absurd e18 (by rw [hb]; decide)) (fun e18 => ?_)
    refine bg_aload0 rfl ?_
    refine bg_iload1 rfl ?_
    refine bg_virt1 rfl rfl rfl rfl ⟨_, hM.Y⟩ ?_
    refine mt_byteOf (p := p) hM (by omega) (bk_Ki ?_)
    refine bg_bipush rfl ?_
    refine bg_icmp_ne rfl (fun e28 => ?_) (fun e28 => absurd e28 (by rw [hb]; decide))
    exact hK
  | succ c ih =>
    intro p hc hp hK
    refine bg_aload0 rfl ?_
    refine bg_iload1 rfl ?_
    refine bg_virt1 rfl rfl rfl rfl ⟨_, hM.Y⟩ ?_
    refine mt_byteOf (p := p) hM (by omega) (bk_Ki ?_)
    refine bg_bipush rfl ?_
    refine bg_icmp_eq rfl (fun e18 => ?_) (fun e18 => ?_)
    · have hw : skL T (c + 1) p = skL T c (p + 1) := if_pos (Or.inl e18)
      refine bg_iinc1 rfl rfl ?_
      rw [nI_1]
      refine bg_goto rfl ?_
      rw [hw] at hK
      exact ih (p + 1) (by omega) (by omega) hK
    · refine bg_aload0 rfl ?_
      refine bg_iload1 rfl ?_
      refine bg_virt1 rfl rfl rfl rfl ⟨_, hM.Y⟩ ?_
      refine mt_byteOf (p := p) hM (by omega) (bk_Ki ?_)
      refine bg_bipush rfl ?_
      refine bg_icmp_ne rfl (fun e28 => ?_) (fun e28 => ?_)
      · have hw : skL T (c + 1) p = p := if_neg (fun q => q.elim e18 e28)
        rw [hw] at hK
        exact hK
      · have hw : skL T (c + 1) p = skL T c (p + 1) := if_pos (Or.inr e28)
        refine bg_iinc1 rfl rfl ?_
        rw [nI_1]
        refine bg_goto rfl ?_
        rw [hw] at hK
        exact ih (p + 1) (by omega) (by omega) hK

theorem mt_cutL (hT : ∀ b ∈ T, ∃ k, k < 256 ∧ b = nI k) (hQ : ∀ (h' : bk_H) (F' : rA), MT h0 h' y u v T P S K C J F' K2 C2 → RSc (toks T) F' → Q (.inl none) h' n) : ∀ (c : Nat) (tk : tK) (p : Nat) (h : bk_H) (F : rA), tk.length + c = 400 → p ≤ 2002 → toks T = tk ++ tkL T (c + 1) tk.length p → RSc tk F → MT h0 h y u v T P S K C J F K2 C2 → bk_g V (d + 4) 162 B Q 4 [some (.ref y), some (.int (nI p)), some (.int (nI tk.length))] [] h n cs := by
  intro c
  induction c with
  | zero =>
    intro tk p h F hc hp htk hS hM
    have hT2 := hM.mb.T2
    have hs2 := skP_le hT2 hp
    have h400 : tk.length = 400 := by omega
    rw [tkL_1] at htk
    refine bg_iload2 rfl ?_
    refine bg_sipush rfl ?_
    refine bg_icmp_gt rfl (fun e8 => absurd e8 (nI_nlt (a := 400) (by omega) (by decide))) (fun e8 => ?_)
    refine mt_skipL hM (T.length - p) p rfl hp ?_
    have hsk : skL T (T.length - p) p = skP T p := rfl
    rw [hsk]
    refine bg_aload0 rfl ?_
    refine bg_getfield rfl rfl hM.Y (by rfl) ?_
    refine bg_iload2 rfl ?_
    refine bg_iload1 rfl ?_
    refine bg_iastore_n rfl hM.f1 (by decide) (by omega) (fun h43 f43 g43 => ?_)
    obtain ⟨Fa, hM, a0, aN⟩ := hM.gg1 f43 g43
    refine bg_aload0 rfl ?_
    refine bg_getfield rfl rfl hM.Y (by rfl) ?_
    refine bg_iload2 rfl ?_
    refine bg_iconst rfl ?_
    refine bg_iastore_n rfl hM.f3 (by decide) (by omega) (fun h50 f50 g50 => ?_)
    obtain ⟨Fb, hM, b0, bN⟩ := hM.gg3 f50 g50
    refine bg_aload0 rfl ?_
    refine bg_getfield rfl rfl hM.Y (by rfl) ?_
    refine bg_iload2 rfl ?_
    refine bg_iconst rfl ?_
    refine bg_iastore_n rfl hM.f4 (by decide) (by omega) (fun h57 f57 g57 => ?_)
    obtain ⟨Fc, hM, c0, cN⟩ := hM.gg4 f57 g57
    refine bg_aload0 rfl ?_
    refine bg_getfield rfl rfl hM.Y (by rfl) ?_
    refine bg_iload2 rfl ?_
    refine bg_aload0 rfl ?_
    refine bg_iload1 rfl ?_
    refine bg_iload2 rfl ?_
    refine bg_virt2 rfl rfl rfl rfl ⟨_, hM.Y⟩ ?_
    refine mt_kindAt (p := skP T p) (i := tk.length) hT (by omega) (by omega) hM (fun h66 f66 hM q1 q2 => bk_Ki ?_)
    obtain ⟨Fd, hM, d0, dN⟩ : ∃ F', MT h0 h66 y u v T P S K C J F' K2 C2 ∧ F' 2 = f66 ∧ ∀ j, j ≠ 2 → F' j = Fc j := ⟨_, hM, uA_s, fun _ q => uA_n q⟩
    refine bg_iastore_n rfl hM.f0 (by decide) (by omega) (fun h69 f69 g69 => ?_)
    obtain ⟨Fe, hM, e0, eN⟩ := hM.gg0 f69 g69
    have hv : Fe 0 tk.length = wK (tkK T 0 (skP T p)) := by
      rw [e0]
      exact if_pos rfl
    have n0 : ∀ j, j ≠ tk.length → Fe 0 j = F 0 j := fun j hj => by
      rw [e0, show upd (Fd 0) tk.length (wK (tkK T 0 (skP T p))) j = Fd 0 j from if_neg hj, dN 0 (by decide), cN 0 (by decide), bN 0 (by decide), aN 0 (by decide)]
    have v1 : Fe 1 = upd (F 1) tk.length (nI (skP T p)) := by rw [eN 1 (by decide), dN 1 (by decide), cN 1 (by decide), bN 1 (by decide), a0]
    have v2 : Fe 2 = f66 := by rw [eN 2 (by decide), d0]
    have v3 : Fe 3 = upd (F 3) tk.length 0 := by rw [eN 3 (by decide), dN 3 (by decide), cN 3 (by decide), b0, aN 3 (by decide)]
    have v4 : Fe 4 = upd (F 4) tk.length 0 := by rw [eN 4 (by decide), dN 4 (by decide), c0, bN 4 (by decide), aN 4 (by decide)]
    have c2 : Fc 2 = F 2 := by rw [cN 2 (by decide), bN 2 (by decide), aN 2 (by decide)]
    have w1 : Fe 1 tk.length = nI (skP T p) := by rw [v1]; exact if_pos rfl
    have w3 : Fe 3 tk.length = 0 := by rw [v3]; exact if_pos rfl
    have w4 : Fe 4 tk.length = 0 := by rw [v4]; exact if_pos rfl
    have hn : ∀ j, j < tk.length → Fe 0 j = F 0 j ∧ Fe 1 j = F 1 j ∧ Fe 2 j = F 2 j ∧ Fe 3 j = F 3 j ∧ Fe 4 j = F 4 j := fun j hj => by
      have hj2 : j ≠ tk.length := by omega
      refine ⟨n0 j hj2, ?_, ?_, ?_, ?_⟩
      · rw [v1]
        exact if_neg hj2
      · rw [v2, q1 j hj2, c2]
      · rw [v3]
        exact if_neg hj2
      · rw [v4]
        exact if_neg hj2
    refine bg_iload2 rfl ?_
    refine bg_sipush rfl ?_
    refine bg_icmp_ne rfl (fun e74 => absurd (show nI tk.length = 400 by rw [h400]; rfl) e74) (fun e74 => ?_)
    refine bg_aload0 rfl ?_
    refine bg_getfield rfl rfl hM.Y (by rfl) ?_
    refine bg_iload2 rfl ?_
    refine bg_iaload_n rfl hM.f0 (by decide) (by omega) ?_
    rw [hv]
    have hyes : tkK T tk.length (skP T p) = 47 ∨ tkK T tk.length (skP T p) = 0 := by
      rw [h400]
      exact tkK_400
    rw [if_pos hyes] at htk
    refine bg_sipush rfl ?_
    refine bg_icmp_eq rfl (fun e86 => ?_) (fun e86 => ?_)
    · have hb : bA T (skP T p) < 0 := (tkK_r hT).2.1.mp e86
      have hk47 : tkK T tk.length (skP T p) = 47 := (tkK_r hT).1.mpr hb
      have hRS := RSc_s (F' := Fe) (t := (tkK T tk.length (skP T p), skP T p, tkE T tk.length (skP T p))) hS (by rw [hv, hk47, (tkK_r hT).1.mpr hb]) w1 (fun z => absurd hk47 z) w3 w4 hn
      rw [← htk] at hRS
      have hfin : ¬ Fe 0 tk.length < 900 := by
        rw [hv, (tkK_r hT).1.mpr hb]
        decide
      refine bg_aload0 rfl ?_
      refine bg_getfield rfl rfl hM.Y (by rfl) ?_
      refine bg_iload2 rfl ?_
      refine bg_iaload_n rfl hM.f0 (by decide) (by omega) ?_
      refine bg_sipush rfl ?_
      refine bg_icmp_lt rfl (fun e107 => absurd e107 hfin) (fun e107 => ?_)
      refine bg_ret rfl rfl ?_
      exact hQ _ _ hM hRS
    · have hnb : ¬ bA T (skP T p) < 0 := fun z => e86 ((tkK_r hT).2.1.mpr z)
      have hk0 : tkK T tk.length (skP T p) = 0 := hyes.elim (fun z => absurd ((tkK_r hT).1.mp z) hnb) id
      refine bg_aload0 rfl ?_
      refine bg_getfield rfl rfl hM.Y (by rfl) ?_
      refine bg_iload2 rfl ?_
      refine bg_sipush rfl ?_
      refine bg_iastore_n rfl hM.f0 (by decide) (by omega) (fun h97 f97 g97 => ?_)
      obtain ⟨Fg, hM, g0, gN⟩ := hM.gg0 f97 g97
      have hv9 : Fg 0 tk.length = 901 := by
        rw [g0]
        exact if_pos rfl
      have hRS := RSc_s (F' := Fg) (t := (tkK T tk.length (skP T p), skP T p, tkE T tk.length (skP T p))) hS (by rw [hv9, hk0]; rfl) (by rw [gN 1 (by decide)]; exact w1) (fun _ z => absurd hk0 z) (by rw [gN 3 (by decide)]; exact w3) (by rw [gN 4 (by decide)]; exact w4) (fun j hj => by
        obtain ⟨x0, x1, x2, x3, x4⟩ := hn j hj
        refine ⟨?_, by rw [gN 1 (by decide)]; exact x1, by rw [gN 2 (by decide)]; exact x2, by rw [gN 3 (by decide)]; exact x3, by rw [gN 4 (by decide)]; exact x4⟩
        rw [g0]
        exact (if_neg (show j ≠ tk.length by omega)).trans x0)
      rw [← htk] at hRS
      have hfin : ¬ Fg 0 tk.length < 900 := by
        rw [hv9]
        decide
      refine bg_aload0 rfl ?_
      refine bg_getfield rfl rfl hM.Y (by rfl) ?_
      refine bg_iload2 rfl ?_
      refine bg_iaload_n rfl hM.f0 (by decide) (by omega) ?_
      refine bg_sipush rfl ?_
      refine bg_icmp_lt rfl (fun e107 => absurd e107 hfin) (fun e107 => ?_)
      refine bg_ret rfl rfl ?_
      exact hQ _ _ hM hRS
  | succ c ih =>
    intro tk p h F hc hp htk hS hM
    have hT2 := hM.mb.T2
    have hs2 := skP_le hT2 hp
    rw [tkL_1] at htk
    refine bg_iload2 rfl ?_
    refine bg_sipush rfl ?_
    refine bg_icmp_gt rfl (fun e8 => absurd e8 (nI_nlt (a := 400) (by omega) (by decide))) (fun e8 => ?_)
    refine mt_skipL hM (T.length - p) p rfl hp ?_
    have hsk : skL T (T.length - p) p = skP T p := rfl
    rw [hsk]
    refine bg_aload0 rfl ?_
    refine bg_getfield rfl rfl hM.Y (by rfl) ?_
    refine bg_iload2 rfl ?_
    refine bg_iload1 rfl ?_
    refine bg_iastore_n rfl hM.f1 (by decide) (by omega) (fun h43 f43 g43 => ?_)
    obtain ⟨Fa, hM, a0, aN⟩ := hM.gg1 f43 g43
    refine bg_aload0 rfl ?_
    refine bg_getfield rfl rfl hM.Y (by rfl) ?_
    refine bg_iload2 rfl ?_
    refine bg_iconst rfl ?_
    refine bg_iastore_n rfl hM.f3 (by decide) (by omega) (fun h50 f50 g50 => ?_)
    obtain ⟨Fb, hM, b0, bN⟩ := hM.gg3 f50 g50
    refine bg_aload0 rfl ?_
    refine bg_getfield rfl rfl hM.Y (by rfl) ?_
    refine bg_iload2 rfl ?_
    refine bg_iconst rfl ?_
    refine bg_iastore_n rfl hM.f4 (by decide) (by omega) (fun h57 f57 g57 => ?_)
    obtain ⟨Fc, hM, c0, cN⟩ := hM.gg4 f57 g57
    refine bg_aload0 rfl ?_
    refine bg_getfield rfl rfl hM.Y (by rfl) ?_
    refine bg_iload2 rfl ?_
    refine bg_aload0 rfl ?_
    refine bg_iload1 rfl ?_
    refine bg_iload2 rfl ?_
    refine bg_virt2 rfl rfl rfl rfl ⟨_, hM.Y⟩ ?_
    refine mt_kindAt (p := skP T p) (i := tk.length) hT (by omega) (by omega) hM (fun h66 f66 hM q1 q2 => bk_Ki ?_)
    obtain ⟨Fd, hM, d0, dN⟩ : ∃ F', MT h0 h66 y u v T P S K C J F' K2 C2 ∧ F' 2 = f66 ∧ ∀ j, j ≠ 2 → F' j = Fc j := ⟨_, hM, uA_s, fun _ q => uA_n q⟩
    refine bg_iastore_n rfl hM.f0 (by decide) (by omega) (fun h69 f69 g69 => ?_)
    obtain ⟨Fe, hM, e0, eN⟩ := hM.gg0 f69 g69
    have hv : Fe 0 tk.length = wK (tkK T 0 (skP T p)) := by
      rw [e0]
      exact if_pos rfl
    have n0 : ∀ j, j ≠ tk.length → Fe 0 j = F 0 j := fun j hj => by
      rw [e0, show upd (Fd 0) tk.length (wK (tkK T 0 (skP T p))) j = Fd 0 j from if_neg hj, dN 0 (by decide), cN 0 (by decide), bN 0 (by decide), aN 0 (by decide)]
    have v1 : Fe 1 = upd (F 1) tk.length (nI (skP T p)) := by rw [eN 1 (by decide), dN 1 (by decide), cN 1 (by decide), bN 1 (by decide), a0]
    have v2 : Fe 2 = f66 := by rw [eN 2 (by decide), d0]
    have v3 : Fe 3 = upd (F 3) tk.length 0 := by rw [eN 3 (by decide), dN 3 (by decide), cN 3 (by decide), b0, aN 3 (by decide)]
    have v4 : Fe 4 = upd (F 4) tk.length 0 := by rw [eN 4 (by decide), dN 4 (by decide), c0, bN 4 (by decide), aN 4 (by decide)]
    have c2 : Fc 2 = F 2 := by rw [cN 2 (by decide), bN 2 (by decide), aN 2 (by decide)]
    have w1 : Fe 1 tk.length = nI (skP T p) := by rw [v1]; exact if_pos rfl
    have w3 : Fe 3 tk.length = 0 := by rw [v3]; exact if_pos rfl
    have w4 : Fe 4 tk.length = 0 := by rw [v4]; exact if_pos rfl
    have hn : ∀ j, j < tk.length → Fe 0 j = F 0 j ∧ Fe 1 j = F 1 j ∧ Fe 2 j = F 2 j ∧ Fe 3 j = F 3 j ∧ Fe 4 j = F 4 j := fun j hj => by
      have hj2 : j ≠ tk.length := by omega
      refine ⟨n0 j hj2, ?_, ?_, ?_, ?_⟩
      · rw [v1]
        exact if_neg hj2
      · rw [v2, q1 j hj2, c2]
      · rw [v3]
        exact if_neg hj2
      · rw [v4]
        exact if_neg hj2
    refine bg_iload2 rfl ?_
    refine bg_sipush rfl ?_
    refine bg_icmp_ne rfl (fun e74 => ?_) (fun e74 => absurd ((nI_eq (a := tk.length) (b := 400) (by omega) (by decide)).mp e74) (by omega))
    refine bg_aload0 rfl ?_
    refine bg_getfield rfl rfl hM.Y (by rfl) ?_
    refine bg_iload2 rfl ?_
    refine bg_iaload_n rfl hM.f0 (by decide) (by omega) ?_
    rw [hv]
    have hRS := RSc_s (F' := Fe) (t := (tkK T 0 (skP T p), skP T p, tkE T 0 (skP T p))) hS hv w1 (fun z1 z2 => by rw [v2]; exact q2 z1 z2) w3 w4 hn
    rw [← tkK_lt (show tk.length < 400 by omega), ← tkE_lt (show tk.length < 400 by omega)] at hRS
    refine bg_sipush rfl ?_
    refine bg_icmp_lt rfl (fun e107 => ?_) (fun e107 => ?_)
    · have hnot : ¬ (tkK T tk.length (skP T p) = 47 ∨ tkK T tk.length (skP T p) = 0) := fun z => ((tkK_r hT).2.2.mpr z) (by rw [tkK_lt (show tk.length < 400 by omega)]; exact e107)
      refine bg_iload1 rfl ?_
      refine bg_aload0 rfl ?_
      refine bg_getfield rfl rfl hM.Y (by rfl) ?_
      refine bg_iload2 rfl ?_
      refine bg_iaload_n rfl hM.f2 (by decide) (by omega) ?_
      have hm : Fe 2 tk.length = nI (tkE T tk.length (skP T p) - skP T p) := by
        rw [tkE_lt (show tk.length < 400 by omega), v2]
        rw [tkK_lt (show tk.length < 400 by omega)] at hnot
        exact q2 (fun z => hnot (Or.inl z)) (fun z => hnot (Or.inr z))
      rw [hm]
      refine bg_iadd rfl ?_
      rw [nI_add, Nat.add_sub_cancel' tkE_ge]
      refine bg_istore1 rfl rfl ?_
      refine bg_iinc2 rfl rfl ?_
      rw [nI_1]
      refine bg_goto rfl ?_
      rw [if_neg hnot] at htk
      have hl : (tk ++ [(tkK T tk.length (skP T p), skP T p, tkE T tk.length (skP T p))]).length = tk.length + 1 := List.length_append
      refine (congrArg (fun z => bk_g V (d + 4) 162 B Q 4 [some (.ref y), some (.int (nI (tkE T tk.length (skP T p)))), some (.int (nI z))] [] h69 n cs) hl).mp ?_
      refine ih (tk ++ [(tkK T tk.length (skP T p), skP T p, tkE T tk.length (skP T p))]) (tkE T tk.length (skP T p)) _ _ (by rw [hl]; omega) (tkE_le hT2 (by omega)) ?_ hRS hM
      rw [hl, List.append_assoc]
      exact htk
    · have hyes : tkK T tk.length (skP T p) = 47 ∨ tkK T tk.length (skP T p) = 0 := (tkK_r hT).2.2.mp (by rw [tkK_lt (show tk.length < 400 by omega)]; exact e107)
      rw [if_pos hyes] at htk
      rw [← htk] at hRS
      refine bg_ret rfl rfl ?_
      exact hQ _ _ hM hRS

theorem mt_cut (hT : ∀ b ∈ T, ∃ k, k < 256 ∧ b = nI k) (hM : MT h0 h y u v T P S K C J F K2 C2) (hQ : ∀ (h' : bk_H) (F' : rA), MT h0 h' y u v T P S K C J F' K2 C2 → RSc (toks T) F' → Q (.inl none) h' n) : bk_wp V (d + 5) 162 [.ref y] h n B Q := by
  refine bg_in rfl rfl ?_
  refine bg_iconst rfl ?_
  refine bg_istore1 rfl rfl ?_
  refine bg_iconst rfl ?_
  refine bg_istore2 rfl rfl ?_
  exact mt_cutL hT hQ 400 [] 0 h F rfl (by decide) rfl (fun j t hj => by rw [List.getElem?_nil] at hj; exact absurd hj.symm (Option.some_ne_none t)) hM
end MM
