/-! The parser's sums and tests, closed. Printed by wip/whole/mk34.py. -/
section BP
variable {V : bk_V} {d n : Nat} {B : Nat × Nat} {Q : bk_R → bk_H → Nat → Prop} {h : bk_H} {dr tk tp p t N : Nat} {T : List Int32} {rows : bT} {f K : Nat → Int32} {g : Nat → Int64} {P : Nat → bT} {od : Int32} {C : bT} {cs : Nat × Nat}
theorem cmpS {x : Int32} (h : ¬ x < 42 ∧ ¬ 46 < x) : sdF x = 2 := by
  obtain ⟨j, hj, rfl⟩ := nI_of (x := x) (fun q => h.1 (Int32.lt_trans q (by decide)))
  have h1 : 42 ≤ j := Nat.le_of_not_lt fun q => h.1 (nI_lt (b := 42) q (by decide))
  have h2 : j ≤ 46 := Nat.le_of_not_lt fun q => h.2 (nI_lt (a := 46) q hj)
  have h3 : j = 42 ∨ j = 43 ∨ j = 44 ∨ j = 45 ∨ j = 46 := by omega
  rcases h3 with rfl | rfl | rfl | rfl | rfl <;> rfl
theorem bp_mSingle (hF : ∀ i, i < N → f i = K i) (hN : N ≤ 401) (hE : K (N - 1) = 47 ∨ K (N - 1) = 0) (ih3 : bpS V (fun h C t => PX h dr tk tp T p rows f g P od C t) rows dr N (pp K n 3) 3 54 n) (ih5 : bpS V (fun h C t => PX h dr tk tp T p rows f g P od C t) rows dr N (pp K n 5) 4 53 n) (ih8 : bpS V (fun h C t => PX h dr tk tp T p rows f g P od C t) rows dr N (pp K n 8) 6 51 n) : bpS V (fun h C t => PX h dr tk tp T p rows f g P od C t) rows dr N (pp K (n + 1) 5) 4 53 (n + 1) := by
  intro D d t C h nn B Q hd ht hC hw hD hX hQ
  obtain ⟨D, rfl⟩ : ∃ D', D = D' + 4 := ⟨D - 4, by omega⟩
  change PX h dr tk tp T p rows f g P od C t at hX
  obtain ⟨hK, ⟨l0, l1, l2, l3, l4, l5⟩, p0, htk⟩ := id hX
  refine bg_in rfl rfl ?_
  refine bg_aload0 rfl ?_
  refine bg_virt0 rfl rfl rfl rfl ⟨_, p0⟩ ?_
  refine bp_kind hF hN ht hX (bk_Ki ?_)
  refine bg_lsw rfl ?_
  refine bk_sw_c (fun e4_25 => ?_) (fun n4_25 => ?_)
  · have hk : K t = 25 := e4_25
    have ht1 := KEk hE ht hk (by decide) (by decide)
    have hu : pp K (n + 1) 5 d t = (if d < 8 then sq (pp K n 5 (d + 1) (t + 1)) (em 25 none) else no t) := if_pos hk
    refine bg_iload1 rfl ?_
    refine bg_bipush rfl ?_
    refine bg_icmp_ge rfl (fun e35 => ?_) (fun e35 => ?_)
    · have hd8 : ¬ d < 8 := fun q => e35 (nI_lt (b := 8) q (by decide))
      rw [if_neg hd8] at hu
      rw [hu] at hQ
      refine bg_iconst rfl ?_
      refine bg_iret rfl rfl (by rfl) ?_
      first
        | exact hfin
        | exact hQ h (by change PX _ _ _ _ _ _ _ _ _ _ _ (C ++ [].map (rwF rows)) t; rw [List.map_nil, List.append_nil]; exact hX) fr.refl
    · have hd8 : d < 8 := (nI_ltI (b := 8) (by omega) (by decide)).mp e35
      rw [if_pos hd8] at hu
      rw [hu] at hQ
      refine bg_aload0 rfl ?_
      refine bg_bipush rfl ?_
      refine bg_virt1 rfl rfl rfl rfl ⟨_, p0⟩ ?_
      refine bp_take hF hN ht hX (fun hA hXA gA => bk_Ki ?_)
      rw [if_pos hk] at hXA
      rw [if_pos hk]
      have gx := gA
      obtain ⟨hK, ⟨l0, l1, l2, l3, l4, l5⟩, p0, htk⟩ := id hXA
      refine bg_if_eq rfl (fun e44 => absurd e44 (by decide)) (fun e44 => ?_)
      refine bg_aload0 rfl ?_
      refine bg_iload1 rfl ?_
      refine bg_iconst rfl ?_
      refine bg_iadd rfl ?_
      rw [nI_1]
      refine bg_virt1 rfl rfl rfl rfl ⟨_, p0⟩ ?_
      refine ih5 _ (d + 1) (t + 1) C _ _ _ _ (by omega) ht1 (by omega) (by omega) (by omega) hXA (fun hB hXB gB => bk_Ki ?_)
      have gx := gx.trans gB
      have kk1 := pp_k hE n 5 (d + 1) (t + 1) ht1
      have kk4 := kk1.2.2.2
      have kk5 := kk1.1
      obtain ⟨hK, ⟨l0, l1, l2, l3, l4, l5⟩, p0, htk⟩ := id hXB
      refine bg_ifeq_b rfl (fun e54 => ?_) (fun e54 => ?_)
      · rw [sq_f e54, if_neg e54] at hQ
        have hfin := hQ hB hXB gx
        refine bg_iconst rfl ?_
        refine bg_iret rfl rfl (by rfl) ?_
        first
          | exact hfin
          | exact hQ h (by change PX _ _ _ _ _ _ _ _ _ _ _ (C ++ [].map (rwF rows)) t; rw [List.map_nil, List.append_nil]; exact hX) fr.refl
      · rw [sq_t e54] at hQ
        refine bg_aload0 rfl ?_
        refine bg_bipush rfl ?_
        refine bg_iconst rfl ?_
        refine bg_iconst rfl ?_
        refine bg_virt3 rfl rfl rfl rfl ⟨_, p0⟩ ?_
        refine bp_write (by rw [List.length_append, List.length_map]; omega) hXB (fun hC hXC gC => bk_Ki ?_)
        have gx := gx.trans gC
        refine bg_if_eq rfl (fun e65 => absurd e65 (by decide)) (fun e65 => ?_)
        refine bg_iconst rfl ?_
        refine bg_goto rfl ?_
        refine bg_iret rfl rfl (by rfl) ?_
        refine hQ _ ?_ gx
        change PX _ dr tk tp T p rows f g P od (C ++ ((pp K n 5 (d + 1) (t + 1)).2.2 ++ [(25, none)]).map (rwF rows)) ((pp K n 5 (d + 1) (t + 1)).2.1)
        rw [rw1 (s := 1) rfl]
        exact hXC
  refine bk_sw_c (fun e4_34 => ?_) (fun n4_34 => ?_)
  · have hk : K t = 34 := e4_34
    have ht1 := KEk hE ht hk (by decide) (by decide)
    have hu : pp K (n + 1) 5 d t = (if d < 8 then sq (pp K n 8 (d + 1) (t + 1)) (tk1 K 35) else no t) := (if_neg (by rw [hk]; decide)).trans (if_pos hk)
    refine bg_iload1 rfl ?_
    refine bg_bipush rfl ?_
    refine bg_icmp_ge rfl (fun e77 => ?_) (fun e77 => ?_)
    · have hd8 : ¬ d < 8 := fun q => e77 (nI_lt (b := 8) q (by decide))
      rw [if_neg hd8] at hu
      rw [hu] at hQ
      refine bg_iconst rfl ?_
      refine bg_iret rfl rfl (by rfl) ?_
      first
        | exact hfin
        | exact hQ h (by change PX _ _ _ _ _ _ _ _ _ _ _ (C ++ [].map (rwF rows)) t; rw [List.map_nil, List.append_nil]; exact hX) fr.refl
    · have hd8 : d < 8 := (nI_ltI (b := 8) (by omega) (by decide)).mp e77
      rw [if_pos hd8] at hu
      rw [hu] at hQ
      refine bg_aload0 rfl ?_
      refine bg_bipush rfl ?_
      refine bg_virt1 rfl rfl rfl rfl ⟨_, p0⟩ ?_
      refine bp_take hF hN ht hX (fun hA hXA gA => bk_Ki ?_)
      rw [if_pos hk] at hXA
      rw [if_pos hk]
      have gx := gA
      obtain ⟨hK, ⟨l0, l1, l2, l3, l4, l5⟩, p0, htk⟩ := id hXA
      refine bg_if_eq rfl (fun e86 => absurd e86 (by decide)) (fun e86 => ?_)
      refine bg_aload0 rfl ?_
      refine bg_iload1 rfl ?_
      refine bg_iconst rfl ?_
      refine bg_iadd rfl ?_
      rw [nI_1]
      refine bg_virt1 rfl rfl rfl rfl ⟨_, p0⟩ ?_
      refine ih8 _ (d + 1) (t + 1) C _ _ _ _ (by omega) ht1 (by omega) (by omega) (by omega) hXA (fun hB hXB gB => bk_Ki ?_)
      have gx := gx.trans gB
      have kk1 := pp_k hE n 8 (d + 1) (t + 1) ht1
      have kk5 := kk1.1
      obtain ⟨hK, ⟨l0, l1, l2, l3, l4, l5⟩, p0, htk⟩ := id hXB
      refine bg_ifeq_b rfl (fun e96 => ?_) (fun e96 => ?_)
      · rw [sq_f e96, if_neg e96] at hQ
        have hfin := hQ hB hXB gx
        refine bg_iconst rfl ?_
        refine bg_iret rfl rfl (by rfl) ?_
        first
          | exact hfin
          | exact hQ h (by change PX _ _ _ _ _ _ _ _ _ _ _ (C ++ [].map (rwF rows)) t; rw [List.map_nil, List.append_nil]; exact hX) fr.refl
      · rw [sq_t e96] at hQ
        unfold tk1 at hQ
        refine bg_aload0 rfl ?_
        refine bg_bipush rfl ?_
        refine bg_virt1 rfl rfl rfl rfl ⟨_, p0⟩ ?_
        refine bp_take hF hN kk5 hXB (fun hC hXC gC => bk_Ki ?_)
        have gx := gx.trans gC
        refine bg_ifeq_b rfl (fun e105 => ?_) (fun e105 => ?_)
        · rw [if_neg e105] at hXC
          rw [if_neg e105] at hQ
          have hfin : Q (.inl (some (.int 0))) hC nn := by
            refine hQ _ ?_ gx
            change PX _ _ _ _ _ _ _ _ _ _ _ (C ++ ((pp K n 8 (d + 1) (t + 1)).2.2 ++ []).map (rwF rows)) (pp K n 8 (d + 1) (t + 1)).2.1
            rw [List.append_nil]
            exact hXC
          refine bg_iconst rfl ?_
          refine bg_iret rfl rfl (by rfl) ?_
          first
            | exact hfin
            | exact hQ h (by change PX _ _ _ _ _ _ _ _ _ _ _ (C ++ [].map (rwF rows)) t; rw [List.map_nil, List.append_nil]; exact hX) fr.refl
        · rw [if_pos e105] at hXC
          rw [if_pos e105] at hQ
          refine bg_iconst rfl ?_
          refine bg_goto rfl ?_
          refine bg_iret rfl rfl (by rfl) ?_
          refine hQ _ ?_ gx
          change PX _ dr tk tp T p rows f g P od (C ++ ((pp K n 8 (d + 1) (t + 1)).2.2 ++ []).map (rwF rows)) ((pp K n 8 (d + 1) (t + 1)).2.1 + 1)
          rw [List.append_nil]
          exact hXC
  refine bk_sw_n ?_
  have hu : pp K (n + 1) 5 d t = sq (pp K n 3 d t) (fun t1 => if ¬ K t1 < 42 ∧ ¬ 46 < K t1 then sq (pp K n 3 d (t1 + 1)) (em (K t1) none) else no t1) := (if_neg n4_25).trans (if_neg n4_34)
  rw [hu] at hQ
  have kk1 := pp_k hE n 3 d t ht
  have kk2 := kk1.2.1
  have kk4 := kk1.2.2.2
  have kk5 := kk1.1
  refine bg_aload0 rfl ?_
  refine bg_iload1 rfl ?_
  refine bg_virt1 rfl rfl rfl rfl ⟨_, p0⟩ ?_
  refine ih3 _ d t C _ _ _ _ hd ht hC (by omega) (by omega) hX (fun hA hXA gA => bk_Ki ?_)
  have gx := gA
  obtain ⟨hK, ⟨l0, l1, l2, l3, l4, l5⟩, p0, htk⟩ := id hXA
  refine bg_ifne_b rfl (fun e119 => ?_) (fun e119 => ?_)
  · rw [sq_t e119] at hQ
    have kk6 : t + 1 ≤ (pp K n 3 d t).2.1 := kk1.2.2.1 e119
    generalize hr : pp K n 3 d t = r at *
    obtain ⟨b1, t1, its⟩ := r
    change PX hA _ _ _ _ _ _ _ _ _ _ (C ++ its.map (rwF rows)) t1 at hXA
    refine bg_aload0 rfl ?_
    refine bg_virt0 rfl rfl rfl rfl ⟨_, p0⟩ ?_
    refine bp_kind hF hN kk5 hXA (bk_Ki ?_)
    change bk_g _ _ _ _ _ _ _ [.int (K t1)] _ _ _
    refine bg_istore2 rfl rfl ?_
    refine bg_iload2 rfl ?_
    refine bg_bipush rfl ?_
    refine bg_icmp_lt rfl (fun e132 => ?_) (fun e132 => ?_)
    · have hc : ¬ (¬ K t1 < 42 ∧ ¬ 46 < K t1) := fun q => q.1 e132
      refine bg_iconst rfl ?_
      refine bg_istore3 rfl rfl ?_
      refine bg_iload3 rfl ?_
      refine bg_if_eq rfl (fun e148 => ?_) (fun e148 => absurd rfl e148)
      simp only [if_neg hc] at hQ
      have hfin : Q (.inl (some (.int 0))) hA nn := by
        refine hQ _ ?_ gx
        change PX _ _ _ _ _ _ _ _ _ _ _ (C ++ (its ++ []).map (rwF rows)) t1
        rw [List.append_nil]
        exact hXA
      refine bg_iconst rfl ?_
      refine bg_iret rfl rfl (by rfl) ?_
      exact hfin
    · refine bg_iload2 rfl ?_
      refine bg_bipush rfl ?_
      refine bg_icmp_gt rfl (fun e138 => ?_) (fun e138 => ?_)
      · have hc : ¬ (¬ K t1 < 42 ∧ ¬ 46 < K t1) := fun q => q.2 e138
        refine bg_iconst rfl ?_
        refine bg_istore3 rfl rfl ?_
        refine bg_iload3 rfl ?_
        refine bg_if_eq rfl (fun e148 => ?_) (fun e148 => absurd rfl e148)
        simp only [if_neg hc] at hQ
        have hfin : Q (.inl (some (.int 0))) hA nn := by
          refine hQ _ ?_ gx
          change PX _ _ _ _ _ _ _ _ _ _ _ (C ++ (its ++ []).map (rwF rows)) t1
          rw [List.append_nil]
          exact hXA
        refine bg_iconst rfl ?_
        refine bg_iret rfl rfl (by rfl) ?_
        exact hfin
      · have hc : ¬ K t1 < 42 ∧ ¬ 46 < K t1 := ⟨e132, e138⟩
        refine bg_iconst rfl ?_
        refine bg_goto rfl ?_
        refine bg_istore3 rfl rfl ?_
        refine bg_iload3 rfl ?_
        refine bg_if_eq rfl (fun e148 => absurd e148 (by decide)) (fun e148 => ?_)
        simp only [if_pos hc] at hQ
        have ht1 : t1 + 1 < N := KE hE kk5 (fun q => hc.2 (by rw [q]; decide)) (fun q => hc.1 (by rw [q]; decide))
        refine bg_aload0 rfl ?_
        refine bg_iload2 rfl ?_
        refine bg_virt1 rfl rfl rfl rfl ⟨_, p0⟩ ?_
        refine bp_take hF hN kk5 hXA (fun hB hXB gB => bk_Ki ?_)
        rw [if_pos rfl] at hXB
        rw [if_pos rfl]
        have gx := gx.trans gB
        obtain ⟨hK, ⟨l0, l1, l2, l3, l4, l5⟩, p0, htk⟩ := id hXB
        refine bg_if_eq rfl (fun e156 => absurd e156 (by decide)) (fun e156 => ?_)
        refine bg_aload0 rfl ?_
        refine bg_iload1 rfl ?_
        refine bg_virt1 rfl rfl rfl rfl ⟨_, p0⟩ ?_
        refine ih3 _ d (t1 + 1) _ _ _ _ _ hd ht1 (by rw [List.length_append, List.length_map]; have : its.length + t ≤ t1 := kk4; omega) (by have : t + 1 ≤ t1 := kk6; omega) (by omega) hXB (fun hC hXC gC => bk_Ki ?_)
        have gx := gx.trans gC
        have jj1 := pp_k hE n 3 d (t1 + 1) ht1
        have jj4 := jj1.2.2.2
        have jj5 := jj1.1
        obtain ⟨hK, ⟨l0, l1, l2, l3, l4, l5⟩, p0, htk⟩ := id hXC
        refine bg_ifeq_b rfl (fun e164 => ?_) (fun e164 => ?_)
        · simp only [sq_f e164, if_neg e164] at hQ
          have hfin : Q (.inl (some (.int 0))) hC nn := by
            refine hQ _ ?_ gx
            change PX _ _ _ _ _ _ _ _ _ _ _ (C ++ (its ++ (pp K n 3 d (t1 + 1)).2.2).map (rwF rows)) (pp K n 3 d (t1 + 1)).2.1
            rw [List.map_append, ← List.append_assoc]
            exact hXC
          refine bg_iconst rfl ?_
          refine bg_iret rfl rfl (by rfl) ?_
          exact hfin
        · simp only [sq_t e164] at hQ
          refine bg_aload0 rfl ?_
          refine bg_iload2 rfl ?_
          refine bg_iconst rfl ?_
          refine bg_iconst rfl ?_
          refine bg_virt3 rfl rfl rfl rfl ⟨_, p0⟩ ?_
          refine bp_write (by rw [List.length_append, List.length_append, List.length_map, List.length_map]; have : its.length + t ≤ t1 := kk4; omega) hXC (fun hD hXD gD => bk_Ki ?_)
          have gx := gx.trans gD
          refine bg_if_eq rfl (fun e174 => absurd e174 (by decide)) (fun e174 => ?_)
          refine bg_iconst rfl ?_
          refine bg_goto rfl ?_
          refine bg_iret rfl rfl (by rfl) ?_
          have hs : sdF (K t1) = 2 := cmpS hc
          refine hQ _ ?_ gx
          change PX _ _ _ _ _ _ _ _ _ _ _ (C ++ (its ++ ((pp K n 3 d (t1 + 1)).2.2 ++ [(K t1, none)])).map (rwF rows)) (pp K n 3 d (t1 + 1)).2.1
          rw [← List.append_assoc its, rw1 hs, List.map_append, ← List.append_assoc]
          exact hXD
  · rw [sq_f e119, if_neg e119] at hQ
    refine bg_iconst rfl ?_
    refine bg_iret rfl rfl (by rfl) ?_
    exact hQ hA hXA gx
theorem bp_vA (hF : ∀ i, i < N → f i = K i) (hN : N ≤ 401) (hE : K (N - 1) = 47 ∨ K (N - 1) = 0) {D d t : Nat} {C : bT} {h : bk_H} {nn : Nat} {B cs : Nat × Nat} {Q : bk_R → bk_H → Nat → Prop} (hd : d ≤ 8) (ht : t < N) (hC : C.length ≤ t) (hk : K t = 31 ∨ K t = 18 ∨ K t = 23 ∨ K t = 24) (hX : PX h dr tk tp T p rows f g P od C t) (hQ : ∀ h', PX h' dr tk tp T p rows f g P od (C ++ (pp K (n + 1) 0 d t).2.2.map (rwF rows)) (pp K (n + 1) 0 d t).2.1 → fr h h' dr (dr + 12) → Q (.inl (some (.int (if (pp K (n + 1) 0 d t).1 = true then 1 else 0)))) h' nn) : bk_g V (D + 3) 56 B Q 172 [some (.ref (dr + 11)), some (.int (nI d)), some (.int (K t))] [] h nn cs := by
  obtain ⟨hK, ⟨l0, l1, l2, l3, l4, l5⟩, p0, htk⟩ := id hX
  have gx : fr h h dr (dr + 12) := fr.refl
  have ht1 : t + 1 < N := KE hE ht (by rintro q; rw [q] at hk; revert hk; decide) (by rintro q; rw [q] at hk; revert hk; decide)
  have hu : pp K (n + 1) 0 d t = (true, t + 1, [(K t, some t)]) := by
    unfold pp
    rw [if_pos hk]
  rw [hu] at hQ
  have hs : [(K t, some t)].map (rwF rows) = [[K t, rG rows (nI t) 1, 0]] := by
    show [[K t, rG rows (nI t) 1, sdF (K t)]] = _
    rw [show sdF (K t) = 0 by rcases hk with q | q | q | q <;> rw [q] <;> rfl]
  refine bg_aload0 rfl ?_
  refine bg_iload2 rfl ?_
  refine bg_virt1 rfl rfl rfl rfl ⟨_, p0⟩ ?_
  refine bp_take hF hN ht hX (fun hA hXA gA => bk_Ki ?_)
  rw [if_pos rfl] at hXA
  rw [if_pos rfl]
  have gx := gx.trans gA
  obtain ⟨hK, ⟨l0, l1, l2, l3, l4, l5⟩, p0, htk⟩ := id hXA
  refine bg_if_eq rfl (fun e177 => absurd e177 (by decide)) (fun e177 => ?_)
  refine bg_aload0 rfl ?_
  refine bg_iload2 rfl ?_
  refine bg_aload0 rfl ?_
  refine bg_getfield rfl rfl p0 (by rfl) ?_
  refine bg_aload0 rfl ?_
  refine bg_getfield rfl rfl p0 (by rfl) ?_
  refine bg_iconst rfl ?_
  refine bg_isub rfl ?_
  rw [show nI (t + 1) - 1 = nI t from nI_pred t]
  refine bg_virt1 rfl rfl rfl rfl ⟨_, hK.2.1⟩ ?_
  refine bk_value hK (bk_Ki ?_)
  refine bg_iconst rfl ?_
  refine bg_virt3 rfl rfl rfl rfl ⟨_, p0⟩ ?_
  refine bp_write (by omega) hXA (fun hB hXB gB => bk_Ki ?_)
  have gx := gx.trans gB
  refine bg_if_eq rfl (fun e199 => absurd e199 (by decide)) (fun e199 => ?_)
  refine bg_iconst rfl ?_
  refine bg_goto rfl ?_
  refine bg_iret rfl rfl (by rfl) ?_
  refine hQ _ ?_ gx
  change PX _ _ _ _ _ _ _ _ _ _ _ (C ++ [(K t, some t)].map (rwF rows)) (t + 1)
  rw [hs]
  exact hXB
theorem bp_vN (hF : ∀ i, i < N → f i = K i) (hN : N ≤ 401) (hE : K (N - 1) = 47 ∨ K (N - 1) = 0) {D d t : Nat} {C : bT} {h : bk_H} {nn : Nat} {B cs : Nat × Nat} {Q : bk_R → bk_H → Nat → Prop} (hd : d ≤ 8) (ht : t < N) (hC : C.length ≤ t) (hk : K t = 2 ∨ K t = 19 ∨ K t = 20 ∨ K t = 21 ∨ K t = 22) (hX : PX h dr tk tp T p rows f g P od C t) (hQ : ∀ h', PX h' dr tk tp T p rows f g P od (C ++ (pp K (n + 1) 0 d t).2.2.map (rwF rows)) (pp K (n + 1) 0 d t).2.1 → fr h h' dr (dr + 12) → Q (.inl (some (.int (if (pp K (n + 1) 0 d t).1 = true then 1 else 0)))) h' nn) : bk_g V (D + 3) 56 B Q 208 [some (.ref (dr + 11)), some (.int (nI d)), some (.int (K t))] [] h nn cs := by
  obtain ⟨hK, ⟨l0, l1, l2, l3, l4, l5⟩, p0, htk⟩ := id hX
  have gx : fr h h dr (dr + 12) := fr.refl
  have ht1 : t + 1 < N := KE hE ht (by rintro q; rw [q] at hk; revert hk; decide) (by rintro q; rw [q] at hk; revert hk; decide)
  have hu : pp K (n + 1) 0 d t = (if K (t + 1) = 30 then (true, t + 2, [(K t, some (t + 1))]) else no (t + 1)) := by
    unfold pp
    rw [if_neg (by rcases hk with q | q | q | q | q <;> rw [q] <;> decide), if_pos hk]
  have hs : [(K t, some (t + 1))].map (rwF rows) = [[K t, rG rows (nI (t + 1)) 1, 0]] := by
    show [[K t, rG rows (nI (t + 1)) 1, sdF (K t)]] = _
    rw [show sdF (K t) = 0 by rcases hk with q | q | q | q | q <;> rw [q] <;> rfl]
  refine bg_aload0 rfl ?_
  refine bg_iload2 rfl ?_
  refine bg_virt1 rfl rfl rfl rfl ⟨_, p0⟩ ?_
  refine bp_take hF hN ht hX (fun hA hXA gA => bk_Ki ?_)
  rw [if_pos rfl] at hXA
  rw [if_pos rfl]
  have gx := gx.trans gA
  obtain ⟨hK, ⟨l0, l1, l2, l3, l4, l5⟩, p0, htk⟩ := id hXA
  refine bg_if_eq rfl (fun e213 => absurd e213 (by decide)) (fun e213 => ?_)
  refine bg_aload0 rfl ?_
  refine bg_bipush rfl ?_
  refine bg_virt1 rfl rfl rfl rfl ⟨_, p0⟩ ?_
  refine bp_take hF hN ht1 hXA (fun hB hXB gB => bk_Ki ?_)
  have gx := gx.trans gB
  
  refine bg_ifeq_b rfl (fun e222 => ?_) (fun e222 => ?_)
  · rw [if_neg e222] at hXB
    rw [if_neg e222] at hu
    rw [hu] at hQ
    have hfin : Q (.inl (some (.int 0))) hB nn := by
      refine hQ _ ?_ gx
      change PX _ _ _ _ _ _ _ _ _ _ _ (C ++ [].map (rwF rows)) (t + 1)
      rw [List.map_nil, List.append_nil]
      exact hXB
    refine bg_iconst rfl ?_
    refine bg_iret rfl rfl (by rfl) ?_
    exact hfin
  · rw [if_pos e222] at hXB
    rw [if_pos e222] at hu
    rw [hu] at hQ
    obtain ⟨hK, ⟨l0, l1, l2, l3, l4, l5⟩, p0, htk⟩ := id hXB
    refine bg_aload0 rfl ?_
    refine bg_iload2 rfl ?_
    refine bg_aload0 rfl ?_
    refine bg_getfield rfl rfl p0 (by rfl) ?_
    refine bg_aload0 rfl ?_
    refine bg_getfield rfl rfl p0 (by rfl) ?_
    refine bg_iconst rfl ?_
    refine bg_isub rfl ?_
    rw [show nI (t + 1 + 1) - 1 = nI (t + 1) from nI_pred (t + 1)]
    refine bg_virt1 rfl rfl rfl rfl ⟨_, hK.2.1⟩ ?_
    refine bk_value hK (bk_Ki ?_)
    refine bg_iconst rfl ?_
    refine bg_virt3 rfl rfl rfl rfl ⟨_, p0⟩ ?_
    refine bp_write (by omega) hXB (fun hC hXC gC => bk_Ki ?_)
    have gx := gx.trans gC
    refine bg_if_eq rfl (fun e244 => absurd e244 (by decide)) (fun e244 => ?_)
    refine bg_iconst rfl ?_
    refine bg_goto rfl ?_
    refine bg_iret rfl rfl (by rfl) ?_
    refine hQ _ ?_ gx
    change PX _ _ _ _ _ _ _ _ _ _ _ (C ++ [(K t, some (t + 1))].map (rwF rows)) (t + 2)
    rw [hs]
    exact hXC
theorem bp_vM (hF : ∀ i, i < N → f i = K i) (hN : N ≤ 401) (hE : K (N - 1) = 47 ∨ K (N - 1) = 0) {D d t : Nat} {C : bT} {h : bk_H} {nn : Nat} {B cs : Nat × Nat} {Q : bk_R → bk_H → Nat → Prop} (hd : d ≤ 8) (ht : t < N) (hC : C.length ≤ t) (hw : 8 * (N - t) + 1 ≤ n + 1) (hD : 6 * (8 - d) + 1 + 3 ≤ D + 4) (ih0 : bpS V (fun h C t => PX h dr tk tp T p rows f g P od C t) rows dr N (pp K n 0) 1 56 n) (hk : K t = 39) (hX : PX h dr tk tp T p rows f g P od C t) (hQ : ∀ h', PX h' dr tk tp T p rows f g P od (C ++ (pp K (n + 1) 0 d t).2.2.map (rwF rows)) (pp K (n + 1) 0 d t).2.1 → fr h h' dr (dr + 12) → Q (.inl (some (.int (if (pp K (n + 1) 0 d t).1 = true then 1 else 0)))) h' nn) : bk_g V (D + 3) 56 B Q 253 [some (.ref (dr + 11)), some (.int (nI d)), some (.int (K t))] [] h nn cs := by
  obtain ⟨hK, ⟨l0, l1, l2, l3, l4, l5⟩, p0, htk⟩ := id hX
  have gx : fr h h dr (dr + 12) := fr.refl
  have ht1 := KEk hE ht hk (by decide) (by decide)
  have hu : pp K (n + 1) 0 d t = (if d < 8 then sq (pp K n 0 (d + 1) (t + 1)) (em 48 none) else no t) := (if_neg (by rw [hk]; decide)).trans ((if_neg (by rw [hk]; decide)).trans (if_pos hk))
  refine bg_iload1 rfl ?_
  refine bg_bipush rfl ?_
  refine bg_icmp_ge rfl (fun e256 => ?_) (fun e256 => ?_)
  · have hd8 : ¬ d < 8 := fun q => e256 (nI_lt (b := 8) q (by decide))
    rw [if_neg hd8] at hu
    rw [hu] at hQ
    refine bg_iconst rfl ?_
    refine bg_iret rfl rfl (by rfl) ?_
    first
      | exact hfin
      | exact hQ h (by change PX _ _ _ _ _ _ _ _ _ _ _ (C ++ [].map (rwF rows)) t; rw [List.map_nil, List.append_nil]; exact hX) fr.refl
  · have hd8 : d < 8 := (nI_ltI (b := 8) (by omega) (by decide)).mp e256
    rw [if_pos hd8] at hu
    rw [hu] at hQ
    refine bg_aload0 rfl ?_
    refine bg_iload2 rfl ?_
    refine bg_virt1 rfl rfl rfl rfl ⟨_, p0⟩ ?_
    refine bp_take hF hN ht hX (fun hA hXA gA => bk_Ki ?_)
    rw [if_pos rfl] at hXA
    rw [if_pos rfl]
    have gx := gx.trans gA
    obtain ⟨hK, ⟨l0, l1, l2, l3, l4, l5⟩, p0, htk⟩ := id hXA
    refine bg_if_eq rfl (fun e264 => absurd e264 (by decide)) (fun e264 => ?_)
    refine bg_aload0 rfl ?_
    refine bg_iload1 rfl ?_
    refine bg_iconst rfl ?_
    refine bg_iadd rfl ?_
    rw [nI_1]
    refine bg_virt1 rfl rfl rfl rfl ⟨_, p0⟩ ?_
    refine ih0 _ (d + 1) (t + 1) C _ _ _ _ (by omega) ht1 (by omega) (by omega) (by omega) hXA (fun hB hXB gB => bk_Ki ?_)
    have gx := gx.trans gB
    have kk1 := pp_k hE n 0 (d + 1) (t + 1) ht1
    have kk4 := kk1.2.2.2
    have kk5 := kk1.1
    obtain ⟨hK, ⟨l0, l1, l2, l3, l4, l5⟩, p0, htk⟩ := id hXB
    refine bg_ifeq_b rfl (fun e274 => ?_) (fun e274 => ?_)
    · rw [sq_f e274, if_neg e274] at hQ
      have hfin := hQ hB hXB gx
      refine bg_iconst rfl ?_
      refine bg_iret rfl rfl (by rfl) ?_
      first
        | exact hfin
        | exact hQ h (by change PX _ _ _ _ _ _ _ _ _ _ _ (C ++ [].map (rwF rows)) t; rw [List.map_nil, List.append_nil]; exact hX) fr.refl
    · rw [sq_t e274] at hQ
      refine bg_aload0 rfl ?_
      refine bg_bipush rfl ?_
      refine bg_iconst rfl ?_
      refine bg_iconst rfl ?_
      refine bg_virt3 rfl rfl rfl rfl ⟨_, p0⟩ ?_
      refine bp_write (by rw [List.length_append, List.length_map]; omega) hXB (fun hC hXC gC => bk_Ki ?_)
      have gx := gx.trans gC
      refine bg_if_eq rfl (fun e285 => absurd e285 (by decide)) (fun e285 => ?_)
      refine bg_iconst rfl ?_
      refine bg_goto rfl ?_
      refine bg_iret rfl rfl (by rfl) ?_
      refine hQ _ ?_ gx
      change PX _ _ _ _ _ _ _ _ _ _ _ (C ++ ((pp K n 0 (d + 1) (t + 1)).2.2 ++ [(48, none)]).map (rwF rows)) ((pp K n 0 (d + 1) (t + 1)).2.1)
      rw [rw1 (s := 1) rfl]
      exact hXC
theorem bp_vP (hF : ∀ i, i < N → f i = K i) (hN : N ≤ 401) (hE : K (N - 1) = 47 ∨ K (N - 1) = 0) {D d t : Nat} {C : bT} {h : bk_H} {nn : Nat} {B cs : Nat × Nat} {Q : bk_R → bk_H → Nat → Prop} (hd : d ≤ 8) (ht : t < N) (hC : C.length ≤ t) (hw : 8 * (N - t) + 1 ≤ n + 1) (hD : 6 * (8 - d) + 1 + 3 ≤ D + 4) (ih3 : bpS V (fun h C t => PX h dr tk tp T p rows f g P od C t) rows dr N (pp K n 3) 3 54 n) (hk : K t = 32) (hX : PX h dr tk tp T p rows f g P od C t) (hQ : ∀ h', PX h' dr tk tp T p rows f g P od (C ++ (pp K (n + 1) 0 d t).2.2.map (rwF rows)) (pp K (n + 1) 0 d t).2.1 → fr h h' dr (dr + 12) → Q (.inl (some (.int (if (pp K (n + 1) 0 d t).1 = true then 1 else 0)))) h' nn) : bk_g V (D + 3) 56 B Q 294 [some (.ref (dr + 11)), some (.int (nI d)), some (.int (K t))] [] h nn cs := by
  obtain ⟨hK, ⟨l0, l1, l2, l3, l4, l5⟩, p0, htk⟩ := id hX
  have gx : fr h h dr (dr + 12) := fr.refl
  have ht1 := KEk hE ht hk (by decide) (by decide)
  have hu : pp K (n + 1) 0 d t = (if d < 8 then sq (pp K n 3 (d + 1) (t + 1)) (tk1 K 33) else no t) := (if_neg (by rw [hk]; decide)).trans ((if_neg (by rw [hk]; decide)).trans ((if_neg (by rw [hk]; decide)).trans (if_pos hk)))
  refine bg_iload1 rfl ?_
  refine bg_bipush rfl ?_
  refine bg_icmp_ge rfl (fun e297 => ?_) (fun e297 => ?_)
  · have hd8 : ¬ d < 8 := fun q => e297 (nI_lt (b := 8) q (by decide))
    rw [if_neg hd8] at hu
    rw [hu] at hQ
    refine bg_iconst rfl ?_
    refine bg_iret rfl rfl (by rfl) ?_
    first
      | exact hfin
      | exact hQ h (by change PX _ _ _ _ _ _ _ _ _ _ _ (C ++ [].map (rwF rows)) t; rw [List.map_nil, List.append_nil]; exact hX) fr.refl
  · have hd8 : d < 8 := (nI_ltI (b := 8) (by omega) (by decide)).mp e297
    rw [if_pos hd8] at hu
    rw [hu] at hQ
    refine bg_aload0 rfl ?_
    refine bg_iload2 rfl ?_
    refine bg_virt1 rfl rfl rfl rfl ⟨_, p0⟩ ?_
    refine bp_take hF hN ht hX (fun hA hXA gA => bk_Ki ?_)
    rw [if_pos rfl] at hXA
    rw [if_pos rfl]
    have gx := gx.trans gA
    obtain ⟨hK, ⟨l0, l1, l2, l3, l4, l5⟩, p0, htk⟩ := id hXA
    refine bg_if_eq rfl (fun e305 => absurd e305 (by decide)) (fun e305 => ?_)
    refine bg_aload0 rfl ?_
    refine bg_iload1 rfl ?_
    refine bg_iconst rfl ?_
    refine bg_iadd rfl ?_
    rw [nI_1]
    refine bg_virt1 rfl rfl rfl rfl ⟨_, p0⟩ ?_
    refine ih3 _ (d + 1) (t + 1) C _ _ _ _ (by omega) ht1 (by omega) (by omega) (by omega) hXA (fun hB hXB gB => bk_Ki ?_)
    have gx := gx.trans gB
    have kk1 := pp_k hE n 3 (d + 1) (t + 1) ht1
    have kk5 := kk1.1
    obtain ⟨hK, ⟨l0, l1, l2, l3, l4, l5⟩, p0, htk⟩ := id hXB
    refine bg_ifeq_b rfl (fun e315 => ?_) (fun e315 => ?_)
    · rw [sq_f e315, if_neg e315] at hQ
      have hfin := hQ hB hXB gx
      refine bg_iconst rfl ?_
      refine bg_iret rfl rfl (by rfl) ?_
      first
        | exact hfin
        | exact hQ h (by change PX _ _ _ _ _ _ _ _ _ _ _ (C ++ [].map (rwF rows)) t; rw [List.map_nil, List.append_nil]; exact hX) fr.refl
    · rw [sq_t e315] at hQ
      unfold tk1 at hQ
      refine bg_aload0 rfl ?_
      refine bg_bipush rfl ?_
      refine bg_virt1 rfl rfl rfl rfl ⟨_, p0⟩ ?_
      refine bp_take hF hN kk5 hXB (fun hC hXC gC => bk_Ki ?_)
      have gx := gx.trans gC
      refine bg_ifeq_b rfl (fun e324 => ?_) (fun e324 => ?_)
      · rw [if_neg e324] at hXC
        rw [if_neg e324] at hQ
        have hfin : Q (.inl (some (.int 0))) hC nn := by
          refine hQ _ ?_ gx
          change PX _ _ _ _ _ _ _ _ _ _ _ (C ++ ((pp K n 3 (d + 1) (t + 1)).2.2 ++ []).map (rwF rows)) (pp K n 3 (d + 1) (t + 1)).2.1
          rw [List.append_nil]
          exact hXC
        refine bg_iconst rfl ?_
        refine bg_iret rfl rfl (by rfl) ?_
        first
          | exact hfin
          | exact hQ h (by change PX _ _ _ _ _ _ _ _ _ _ _ (C ++ [].map (rwF rows)) t; rw [List.map_nil, List.append_nil]; exact hX) fr.refl
      · rw [if_pos e324] at hXC
        rw [if_pos e324] at hQ
        refine bg_iconst rfl ?_
        refine bg_goto rfl ?_
        refine bg_iret rfl rfl (by rfl) ?_
        refine hQ _ ?_ gx
        change PX _ _ _ _ _ _ _ _ _ _ _ (C ++ ((pp K n 3 (d + 1) (t + 1)).2.2 ++ []).map (rwF rows)) ((pp K n 3 (d + 1) (t + 1)).2.1 + 1)
        rw [List.append_nil]
        exact hXC
theorem bp_vX (hF : ∀ i, i < N → f i = K i) (hN : N ≤ 401) (hE : K (N - 1) = 47 ∨ K (N - 1) = 0) {D d t : Nat} {C : bT} {h : bk_H} {nn : Nat} {B cs : Nat × Nat} {Q : bk_R → bk_H → Nat → Prop} (hd : d ≤ 8) (ht : t < N) (hC : C.length ≤ t) (hw : 8 * (N - t) + 1 ≤ n + 1) (hD : 6 * (8 - d) + 1 + 3 ≤ D + 4) (ih3 : bpS V (fun h C t => PX h dr tk tp T p rows f g P od C t) rows dr N (pp K n 3) 3 54 n) (hk : K t = 28 ∨ K t = 29) (hX : PX h dr tk tp T p rows f g P od C t) (hQ : ∀ h', PX h' dr tk tp T p rows f g P od (C ++ (pp K (n + 1) 0 d t).2.2.map (rwF rows)) (pp K (n + 1) 0 d t).2.1 → fr h h' dr (dr + 12) → Q (.inl (some (.int (if (pp K (n + 1) 0 d t).1 = true then 1 else 0)))) h' nn) : bk_g V (D + 3) 56 B Q 333 [some (.ref (dr + 11)), some (.int (nI d)), some (.int (K t))] [] h nn cs := by
  obtain ⟨hK, ⟨l0, l1, l2, l3, l4, l5⟩, p0, htk⟩ := id hX
  have gx : fr h h dr (dr + 12) := fr.refl
  have ht1 : t + 1 < N := KE hE ht (by rintro q; rw [q] at hk; revert hk; decide) (by rintro q; rw [q] at hk; revert hk; decide)
  have hu : pp K (n + 1) 0 d t = (if d < 8 ∧ K (t + 1) = 32 then sq (pp K n 3 (d + 1) (t + 2)) (fun t1 => sq (tk1 K 37 t1) (fun t2 => sq (pp K n 3 (d + 1) t2) (fun t3 => sq (tk1 K 33 t3) (em (K t) none)))) else no (t + 1)) := (if_neg (by rcases hk with q | q <;> rw [q] <;> decide)).trans ((if_neg (by rcases hk with q | q <;> rw [q] <;> decide)).trans ((if_neg (by rcases hk with q | q <;> rw [q] <;> decide)).trans ((if_neg (by rcases hk with q | q <;> rw [q] <;> decide)).trans (if_pos hk))))
  refine bg_aload0 rfl ?_
  refine bg_iload2 rfl ?_
  refine bg_virt1 rfl rfl rfl rfl ⟨_, p0⟩ ?_
  refine bp_take hF hN ht hX (fun hA hXA gA => bk_Ki ?_)
  rw [if_pos rfl] at hXA
  rw [if_pos rfl]
  have gx := gx.trans gA
  obtain ⟨hK, ⟨l0, l1, l2, l3, l4, l5⟩, p0, htk⟩ := id hXA
  refine bg_if_eq rfl (fun e338 => absurd e338 (by decide)) (fun e338 => ?_)
  refine bg_iload1 rfl ?_
  refine bg_bipush rfl ?_
  refine bg_icmp_ge rfl (fun e344 => ?_) (fun e344 => ?_)
  · have hd8 : ¬ d < 8 := fun q => e344 (nI_lt (b := 8) q (by decide))
    rw [if_neg (fun q => hd8 q.1)] at hu
    rw [hu] at hQ
    have hfin : Q (.inl (some (.int 0))) hA nn := by
      refine hQ _ ?_ gx
      change PX _ _ _ _ _ _ _ _ _ _ _ (C ++ [].map (rwF rows)) (t + 1)
      rw [List.map_nil, List.append_nil]
      exact hXA
    refine bg_iconst rfl ?_
    refine bg_iret rfl rfl (by rfl) ?_
    exact hfin
  · have hd8 : d < 8 := (nI_ltI (b := 8) (by omega) (by decide)).mp e344
    
    refine bg_aload0 rfl ?_
    refine bg_bipush rfl ?_
    refine bg_virt1 rfl rfl rfl rfl ⟨_, p0⟩ ?_
    refine bp_take hF hN ht1 hXA (fun hB hXB gB => bk_Ki ?_)
    have gx := gx.trans gB
    refine bg_ifeq_b rfl (fun e353 => ?_) (fun e353 => ?_)
    · rw [if_neg e353] at hXB
      rw [if_neg (fun q => e353 q.2)] at hu
      rw [hu] at hQ
      have hfin : Q (.inl (some (.int 0))) hB nn := by
        refine hQ _ ?_ gx
        change PX _ _ _ _ _ _ _ _ _ _ _ (C ++ [].map (rwF rows)) (t + 1)
        rw [List.map_nil, List.append_nil]
        exact hXB
      refine bg_iconst rfl ?_
      refine bg_iret rfl rfl (by rfl) ?_
      exact hfin
    · rw [if_pos e353] at hXB
      rw [if_pos ⟨hd8, e353⟩] at hu
      rw [hu] at hQ
      have ht2 : t + 2 < N := KEk hE ht1 e353 (by decide) (by decide)
      obtain ⟨hK, ⟨l0, l1, l2, l3, l4, l5⟩, p0, htk⟩ := id hXB
      refine bg_aload0 rfl ?_
      refine bg_iload1 rfl ?_
      refine bg_iconst rfl ?_
      refine bg_iadd rfl ?_
      rw [nI_1]
      refine bg_virt1 rfl rfl rfl rfl ⟨_, p0⟩ ?_
      refine ih3 _ (d + 1) (t + 2) C _ _ _ _ (by omega) ht2 (by omega) (by omega) (by omega) hXB (fun hC hXC gC => bk_Ki ?_)
      have gx := gx.trans gC
      have kk1 := pp_k hE n 3 (d + 1) (t + 2) ht2
      have kk4 := kk1.2.2.2
      have kk5 := kk1.1
      obtain ⟨hK, ⟨l0, l1, l2, l3, l4, l5⟩, p0, htk⟩ := id hXC
      refine bg_ifeq_b rfl (fun e363 => ?_) (fun e363 => ?_)
      · rw [sq_f e363, if_neg e363] at hQ
        have hfin := hQ hC hXC gx
        refine bg_iconst rfl ?_
        refine bg_iret rfl rfl (by rfl) ?_
        exact hfin
      · have kk6 : t + 2 + 1 ≤ (pp K n 3 (d + 1) (t + 2)).2.1 := kk1.2.2.1 e363
        rw [sq_t e363] at hQ
        generalize hr : pp K n 3 (d + 1) (t + 2) = r at *
        obtain ⟨b1, t1, its⟩ := r
        change t1 < N at kk5
        change its.length + (t + 2) ≤ t1 at kk4
        change t + 2 + 1 ≤ t1 at kk6
        change PX hC _ _ _ _ _ _ _ _ _ _ (C ++ its.map (rwF rows)) t1 at hXC
        refine bg_aload0 rfl ?_
        refine bg_bipush rfl ?_
        refine bg_virt1 rfl rfl rfl rfl ⟨_, p0⟩ ?_
        refine bp_take hF hN kk5 hXC (fun hD hXD gD => bk_Ki ?_)
        have gx := gx.trans gD
        refine bg_ifeq_b rfl (fun e372 => ?_) (fun e372 => ?_)
        · rw [if_neg e372] at hXD
          rw [show tk1 K 37 t1 = (false, t1, []) from if_neg e372, sq_f (fun q => Bool.noConfusion q)] at hQ
          have hfin : Q (.inl (some (.int 0))) hD nn := by
            refine hQ _ ?_ gx
            change PX _ _ _ _ _ _ _ _ _ _ _ (C ++ (its ++ []).map (rwF rows)) t1
            rw [List.append_nil]
            exact hXD
          refine bg_iconst rfl ?_
          refine bg_iret rfl rfl (by rfl) ?_
          exact hfin
        · rw [if_pos e372] at hXD
          have ht3 : t1 + 1 < N := KEk hE kk5 e372 (by decide) (by decide)
          rw [show tk1 K 37 t1 = (true, t1 + 1, []) from if_pos e372, sq_t rfl] at hQ
          obtain ⟨hK, ⟨l0, l1, l2, l3, l4, l5⟩, p0, htk⟩ := id hXD
          refine bg_aload0 rfl ?_
          refine bg_iload1 rfl ?_
          refine bg_iconst rfl ?_
          refine bg_iadd rfl ?_
          rw [nI_1]
          refine bg_virt1 rfl rfl rfl rfl ⟨_, p0⟩ ?_
          refine ih3 _ (d + 1) (t1 + 1) _ _ _ _ _ (by omega) ht3 (by rw [List.length_append, List.length_map]; omega) (by omega) (by omega) hXD (fun hE1 hXE gE => bk_Ki ?_)
          have gx := gx.trans gE
          have jj1 := pp_k hE n 3 (d + 1) (t1 + 1) ht3
          have jj4 := jj1.2.2.2
          have jj5 := jj1.1
          obtain ⟨hK, ⟨l0, l1, l2, l3, l4, l5⟩, p0, htk⟩ := id hXE
          refine bg_ifeq_b rfl (fun e382 => ?_) (fun e382 => ?_)
          · rw [sq_f e382] at hQ
            have hfin : Q (.inl (some (.int 0))) hE1 nn := by
              rw [if_neg e382] at hQ
              refine hQ _ ?_ gx
              change PX _ _ _ _ _ _ _ _ _ _ _ (C ++ (its ++ (pp K n 3 (d + 1) (t1 + 1)).2.2).map (rwF rows)) (pp K n 3 (d + 1) (t1 + 1)).2.1
              rw [List.map_append, ← List.append_assoc]
              exact hXE
            refine bg_iconst rfl ?_
            refine bg_iret rfl rfl (by rfl) ?_
            exact hfin
          · rw [sq_t e382] at hQ
            generalize hr2 : pp K n 3 (d + 1) (t1 + 1) = r2 at *
            obtain ⟨b2, t2, its2⟩ := r2
            change t2 < N at jj5
            change its2.length + (t1 + 1) ≤ t2 at jj4
            change PX hE1 _ _ _ _ _ _ _ _ _ _ (C ++ its.map (rwF rows) ++ its2.map (rwF rows)) t2 at hXE
            change ∀ h', PX h' dr tk tp T p rows f g P od (C ++ (its ++ (its2 ++ (sq (tk1 K 33 t2) (em (K t) none)).2.2)).map (rwF rows)) (sq (tk1 K 33 t2) (em (K t) none)).2.1 → fr h h' dr (dr + 12) → Q (.inl (some (.int (if (sq (tk1 K 33 t2) (em (K t) none)).1 = true then 1 else 0)))) h' nn at hQ
            refine bg_aload0 rfl ?_
            refine bg_bipush rfl ?_
            refine bg_virt1 rfl rfl rfl rfl ⟨_, p0⟩ ?_
            refine bp_take hF hN jj5 hXE (fun hG hXG gG => bk_Ki ?_)
            have gx := gx.trans gG
            refine bg_ifeq_b rfl (fun e391 => ?_) (fun e391 => ?_)
            · rw [if_neg e391] at hXG
              have hq3 : sq (tk1 K 33 t2) (em (K t) none) = (false, t2, []) := by
                rw [show tk1 K 33 t2 = (false, t2, []) from if_neg e391, sq_f (fun q => Bool.noConfusion q)]
              rw [hq3] at hQ
              have hfin : Q (.inl (some (.int 0))) hG nn := by
                refine hQ _ ?_ gx
                change PX _ _ _ _ _ _ _ _ _ _ _ (C ++ (its ++ (its2 ++ [])).map (rwF rows)) t2
                rw [List.append_nil, List.map_append, ← List.append_assoc]
                exact hXG
              refine bg_iconst rfl ?_
              refine bg_iret rfl rfl (by rfl) ?_
              exact hfin
            · rw [if_pos e391] at hXG
              have hq3 : sq (tk1 K 33 t2) (em (K t) none) = (true, t2 + 1, [(K t, none)]) := by
                rw [show tk1 K 33 t2 = (true, t2 + 1, []) from if_pos e391, sq_t rfl]
                rfl
              rw [hq3] at hQ
              obtain ⟨hK, ⟨l0, l1, l2, l3, l4, l5⟩, p0, htk⟩ := id hXG
              refine bg_aload0 rfl ?_
              refine bg_iload2 rfl ?_
              refine bg_iconst rfl ?_
              refine bg_iconst rfl ?_
              refine bg_virt3 rfl rfl rfl rfl ⟨_, p0⟩ ?_
              refine bp_write (by rw [List.length_append, List.length_append, List.length_map, List.length_map]; omega) hXG (fun hI hXI gI => bk_Ki ?_)
              have gx := gx.trans gI
              refine bg_if_eq rfl (fun e401 => absurd e401 (by decide)) (fun e401 => ?_)
              refine bg_iconst rfl ?_
              refine bg_goto rfl ?_
              refine bg_iret rfl rfl (by rfl) ?_
              refine hQ _ ?_ gx
              change PX _ _ _ _ _ _ _ _ _ _ _ (C ++ (its ++ (its2 ++ [(K t, none)])).map (rwF rows)) (t2 + 1)
              rw [← List.append_assoc its, rw1 (s := 2) (by rcases hk with q | q <;> rw [q] <;> rfl), List.map_append, ← List.append_assoc]
              exact hXI
theorem bp_mValue (hF : ∀ i, i < N → f i = K i) (hN : N ≤ 401) (hE : K (N - 1) = 47 ∨ K (N - 1) = 0) (ih0 : bpS V (fun h C t => PX h dr tk tp T p rows f g P od C t) rows dr N (pp K n 0) 1 56 n) (ih3 : bpS V (fun h C t => PX h dr tk tp T p rows f g P od C t) rows dr N (pp K n 3) 3 54 n) : bpS V (fun h C t => PX h dr tk tp T p rows f g P od C t) rows dr N (pp K (n + 1) 0) 1 56 (n + 1) := by
  intro D d t C h nn B Q hd ht hC hw hD hX hQ
  obtain ⟨D, rfl⟩ : ∃ D', D = D' + 4 := ⟨D - 4, by omega⟩
  change PX h dr tk tp T p rows f g P od C t at hX
  obtain ⟨hK, ⟨l0, l1, l2, l3, l4, l5⟩, p0, htk⟩ := id hX
  refine bg_in rfl rfl ?_
  refine bg_aload0 rfl ?_
  refine bg_virt0 rfl rfl rfl rfl ⟨_, p0⟩ ?_
  refine bp_kind hF hN ht hX (bk_Ki ?_)
  refine bg_istore2 rfl rfl ?_
  refine bg_iload2 rfl ?_
  refine bg_tsw rfl ?_
  refine bk_sw_c (fun e6_2 => ?_) (fun n6_2 => ?_)
  · have hk : K t = 2 ∨ K t = 19 ∨ K t = 20 ∨ K t = 21 ∨ K t = 22 := Or.inl e6_2
    exact bp_vN hF hN hE hd ht hC hk hX hQ
  refine bk_sw_c (fun e6_3 => ?_) (fun n6_3 => ?_)
  · have hu : pp K (n + 1) 0 d t = no t := by
      unfold pp
      rw [e6_3]
      rfl
    rw [hu] at hQ
    refine bg_iconst rfl ?_
    refine bg_iret rfl rfl (by rfl) ?_
    exact hQ h (by change PX _ _ _ _ _ _ _ _ _ _ _ (C ++ [].map (rwF rows)) t; rw [List.map_nil, List.append_nil]; exact hX) fr.refl
  refine bk_sw_c (fun e6_4 => ?_) (fun n6_4 => ?_)
  · have hu : pp K (n + 1) 0 d t = no t := by
      unfold pp
      rw [e6_4]
      rfl
    rw [hu] at hQ
    refine bg_iconst rfl ?_
    refine bg_iret rfl rfl (by rfl) ?_
    exact hQ h (by change PX _ _ _ _ _ _ _ _ _ _ _ (C ++ [].map (rwF rows)) t; rw [List.map_nil, List.append_nil]; exact hX) fr.refl
  refine bk_sw_c (fun e6_5 => ?_) (fun n6_5 => ?_)
  · have hu : pp K (n + 1) 0 d t = no t := by
      unfold pp
      rw [e6_5]
      rfl
    rw [hu] at hQ
    refine bg_iconst rfl ?_
    refine bg_iret rfl rfl (by rfl) ?_
    exact hQ h (by change PX _ _ _ _ _ _ _ _ _ _ _ (C ++ [].map (rwF rows)) t; rw [List.map_nil, List.append_nil]; exact hX) fr.refl
  refine bk_sw_c (fun e6_6 => ?_) (fun n6_6 => ?_)
  · have hu : pp K (n + 1) 0 d t = no t := by
      unfold pp
      rw [e6_6]
      rfl
    rw [hu] at hQ
    refine bg_iconst rfl ?_
    refine bg_iret rfl rfl (by rfl) ?_
    exact hQ h (by change PX _ _ _ _ _ _ _ _ _ _ _ (C ++ [].map (rwF rows)) t; rw [List.map_nil, List.append_nil]; exact hX) fr.refl
  refine bk_sw_c (fun e6_7 => ?_) (fun n6_7 => ?_)
  · have hu : pp K (n + 1) 0 d t = no t := by
      unfold pp
      rw [e6_7]
      rfl
    rw [hu] at hQ
    refine bg_iconst rfl ?_
    refine bg_iret rfl rfl (by rfl) ?_
    exact hQ h (by change PX _ _ _ _ _ _ _ _ _ _ _ (C ++ [].map (rwF rows)) t; rw [List.map_nil, List.append_nil]; exact hX) fr.refl
  refine bk_sw_c (fun e6_8 => ?_) (fun n6_8 => ?_)
  · have hu : pp K (n + 1) 0 d t = no t := by
      unfold pp
      rw [e6_8]
      rfl
    rw [hu] at hQ
    refine bg_iconst rfl ?_
    refine bg_iret rfl rfl (by rfl) ?_
    exact hQ h (by change PX _ _ _ _ _ _ _ _ _ _ _ (C ++ [].map (rwF rows)) t; rw [List.map_nil, List.append_nil]; exact hX) fr.refl
  refine bk_sw_c (fun e6_9 => ?_) (fun n6_9 => ?_)
  · have hu : pp K (n + 1) 0 d t = no t := by
      unfold pp
      rw [e6_9]
      rfl
    rw [hu] at hQ
    refine bg_iconst rfl ?_
    refine bg_iret rfl rfl (by rfl) ?_
    exact hQ h (by change PX _ _ _ _ _ _ _ _ _ _ _ (C ++ [].map (rwF rows)) t; rw [List.map_nil, List.append_nil]; exact hX) fr.refl
  refine bk_sw_c (fun e6_10 => ?_) (fun n6_10 => ?_)
  · have hu : pp K (n + 1) 0 d t = no t := by
      unfold pp
      rw [e6_10]
      rfl
    rw [hu] at hQ
    refine bg_iconst rfl ?_
    refine bg_iret rfl rfl (by rfl) ?_
    exact hQ h (by change PX _ _ _ _ _ _ _ _ _ _ _ (C ++ [].map (rwF rows)) t; rw [List.map_nil, List.append_nil]; exact hX) fr.refl
  refine bk_sw_c (fun e6_11 => ?_) (fun n6_11 => ?_)
  · have hu : pp K (n + 1) 0 d t = no t := by
      unfold pp
      rw [e6_11]
      rfl
    rw [hu] at hQ
    refine bg_iconst rfl ?_
    refine bg_iret rfl rfl (by rfl) ?_
    exact hQ h (by change PX _ _ _ _ _ _ _ _ _ _ _ (C ++ [].map (rwF rows)) t; rw [List.map_nil, List.append_nil]; exact hX) fr.refl
  refine bk_sw_c (fun e6_12 => ?_) (fun n6_12 => ?_)
  · have hu : pp K (n + 1) 0 d t = no t := by
      unfold pp
      rw [e6_12]
      rfl
    rw [hu] at hQ
    refine bg_iconst rfl ?_
    refine bg_iret rfl rfl (by rfl) ?_
    exact hQ h (by change PX _ _ _ _ _ _ _ _ _ _ _ (C ++ [].map (rwF rows)) t; rw [List.map_nil, List.append_nil]; exact hX) fr.refl
  refine bk_sw_c (fun e6_13 => ?_) (fun n6_13 => ?_)
  · have hu : pp K (n + 1) 0 d t = no t := by
      unfold pp
      rw [e6_13]
      rfl
    rw [hu] at hQ
    refine bg_iconst rfl ?_
    refine bg_iret rfl rfl (by rfl) ?_
    exact hQ h (by change PX _ _ _ _ _ _ _ _ _ _ _ (C ++ [].map (rwF rows)) t; rw [List.map_nil, List.append_nil]; exact hX) fr.refl
  refine bk_sw_c (fun e6_14 => ?_) (fun n6_14 => ?_)
  · have hu : pp K (n + 1) 0 d t = no t := by
      unfold pp
      rw [e6_14]
      rfl
    rw [hu] at hQ
    refine bg_iconst rfl ?_
    refine bg_iret rfl rfl (by rfl) ?_
    exact hQ h (by change PX _ _ _ _ _ _ _ _ _ _ _ (C ++ [].map (rwF rows)) t; rw [List.map_nil, List.append_nil]; exact hX) fr.refl
  refine bk_sw_c (fun e6_15 => ?_) (fun n6_15 => ?_)
  · have hu : pp K (n + 1) 0 d t = no t := by
      unfold pp
      rw [e6_15]
      rfl
    rw [hu] at hQ
    refine bg_iconst rfl ?_
    refine bg_iret rfl rfl (by rfl) ?_
    exact hQ h (by change PX _ _ _ _ _ _ _ _ _ _ _ (C ++ [].map (rwF rows)) t; rw [List.map_nil, List.append_nil]; exact hX) fr.refl
  refine bk_sw_c (fun e6_16 => ?_) (fun n6_16 => ?_)
  · have hu : pp K (n + 1) 0 d t = no t := by
      unfold pp
      rw [e6_16]
      rfl
    rw [hu] at hQ
    refine bg_iconst rfl ?_
    refine bg_iret rfl rfl (by rfl) ?_
    exact hQ h (by change PX _ _ _ _ _ _ _ _ _ _ _ (C ++ [].map (rwF rows)) t; rw [List.map_nil, List.append_nil]; exact hX) fr.refl
  refine bk_sw_c (fun e6_17 => ?_) (fun n6_17 => ?_)
  · have hu : pp K (n + 1) 0 d t = no t := by
      unfold pp
      rw [e6_17]
      rfl
    rw [hu] at hQ
    refine bg_iconst rfl ?_
    refine bg_iret rfl rfl (by rfl) ?_
    exact hQ h (by change PX _ _ _ _ _ _ _ _ _ _ _ (C ++ [].map (rwF rows)) t; rw [List.map_nil, List.append_nil]; exact hX) fr.refl
  refine bk_sw_c (fun e6_18 => ?_) (fun n6_18 => ?_)
  · have hk : K t = 31 ∨ K t = 18 ∨ K t = 23 ∨ K t = 24 := Or.inr (Or.inl e6_18)
    exact bp_vA hF hN hE hd ht hC hk hX hQ
  refine bk_sw_c (fun e6_19 => ?_) (fun n6_19 => ?_)
  · have hk : K t = 2 ∨ K t = 19 ∨ K t = 20 ∨ K t = 21 ∨ K t = 22 := Or.inr (Or.inl e6_19)
    exact bp_vN hF hN hE hd ht hC hk hX hQ
  refine bk_sw_c (fun e6_20 => ?_) (fun n6_20 => ?_)
  · have hk : K t = 2 ∨ K t = 19 ∨ K t = 20 ∨ K t = 21 ∨ K t = 22 := Or.inr (Or.inr (Or.inl e6_20))
    exact bp_vN hF hN hE hd ht hC hk hX hQ
  refine bk_sw_c (fun e6_21 => ?_) (fun n6_21 => ?_)
  · have hk : K t = 2 ∨ K t = 19 ∨ K t = 20 ∨ K t = 21 ∨ K t = 22 := Or.inr (Or.inr (Or.inr (Or.inl e6_21)))
    exact bp_vN hF hN hE hd ht hC hk hX hQ
  refine bk_sw_c (fun e6_22 => ?_) (fun n6_22 => ?_)
  · have hk : K t = 2 ∨ K t = 19 ∨ K t = 20 ∨ K t = 21 ∨ K t = 22 := Or.inr (Or.inr (Or.inr (Or.inr e6_22)))
    exact bp_vN hF hN hE hd ht hC hk hX hQ
  refine bk_sw_c (fun e6_23 => ?_) (fun n6_23 => ?_)
  · have hk : K t = 31 ∨ K t = 18 ∨ K t = 23 ∨ K t = 24 := Or.inr (Or.inr (Or.inl e6_23))
    exact bp_vA hF hN hE hd ht hC hk hX hQ
  refine bk_sw_c (fun e6_24 => ?_) (fun n6_24 => ?_)
  · have hk : K t = 31 ∨ K t = 18 ∨ K t = 23 ∨ K t = 24 := Or.inr (Or.inr (Or.inr e6_24))
    exact bp_vA hF hN hE hd ht hC hk hX hQ
  refine bk_sw_c (fun e6_25 => ?_) (fun n6_25 => ?_)
  · have hu : pp K (n + 1) 0 d t = no t := by
      unfold pp
      rw [e6_25]
      rfl
    rw [hu] at hQ
    refine bg_iconst rfl ?_
    refine bg_iret rfl rfl (by rfl) ?_
    exact hQ h (by change PX _ _ _ _ _ _ _ _ _ _ _ (C ++ [].map (rwF rows)) t; rw [List.map_nil, List.append_nil]; exact hX) fr.refl
  refine bk_sw_c (fun e6_26 => ?_) (fun n6_26 => ?_)
  · have hu : pp K (n + 1) 0 d t = no t := by
      unfold pp
      rw [e6_26]
      rfl
    rw [hu] at hQ
    refine bg_iconst rfl ?_
    refine bg_iret rfl rfl (by rfl) ?_
    exact hQ h (by change PX _ _ _ _ _ _ _ _ _ _ _ (C ++ [].map (rwF rows)) t; rw [List.map_nil, List.append_nil]; exact hX) fr.refl
  refine bk_sw_c (fun e6_27 => ?_) (fun n6_27 => ?_)
  · have hu : pp K (n + 1) 0 d t = no t := by
      unfold pp
      rw [e6_27]
      rfl
    rw [hu] at hQ
    refine bg_iconst rfl ?_
    refine bg_iret rfl rfl (by rfl) ?_
    exact hQ h (by change PX _ _ _ _ _ _ _ _ _ _ _ (C ++ [].map (rwF rows)) t; rw [List.map_nil, List.append_nil]; exact hX) fr.refl
  refine bk_sw_c (fun e6_28 => ?_) (fun n6_28 => ?_)
  · have hk : K t = 28 ∨ K t = 29 := Or.inl e6_28
    exact bp_vX hF hN hE hd ht hC hw hD ih3 hk hX hQ
  refine bk_sw_c (fun e6_29 => ?_) (fun n6_29 => ?_)
  · have hk : K t = 28 ∨ K t = 29 := Or.inr e6_29
    exact bp_vX hF hN hE hd ht hC hw hD ih3 hk hX hQ
  refine bk_sw_c (fun e6_30 => ?_) (fun n6_30 => ?_)
  · have hu : pp K (n + 1) 0 d t = no t := by
      unfold pp
      rw [e6_30]
      rfl
    rw [hu] at hQ
    refine bg_iconst rfl ?_
    refine bg_iret rfl rfl (by rfl) ?_
    exact hQ h (by change PX _ _ _ _ _ _ _ _ _ _ _ (C ++ [].map (rwF rows)) t; rw [List.map_nil, List.append_nil]; exact hX) fr.refl
  refine bk_sw_c (fun e6_31 => ?_) (fun n6_31 => ?_)
  · have hk : K t = 31 ∨ K t = 18 ∨ K t = 23 ∨ K t = 24 := Or.inl e6_31
    exact bp_vA hF hN hE hd ht hC hk hX hQ
  refine bk_sw_c (fun e6_32 => ?_) (fun n6_32 => ?_)
  · have hk : K t = 32 := e6_32
    exact bp_vP hF hN hE hd ht hC hw hD ih3 hk hX hQ
  refine bk_sw_c (fun e6_33 => ?_) (fun n6_33 => ?_)
  · have hu : pp K (n + 1) 0 d t = no t := by
      unfold pp
      rw [e6_33]
      rfl
    rw [hu] at hQ
    refine bg_iconst rfl ?_
    refine bg_iret rfl rfl (by rfl) ?_
    exact hQ h (by change PX _ _ _ _ _ _ _ _ _ _ _ (C ++ [].map (rwF rows)) t; rw [List.map_nil, List.append_nil]; exact hX) fr.refl
  refine bk_sw_c (fun e6_34 => ?_) (fun n6_34 => ?_)
  · have hu : pp K (n + 1) 0 d t = no t := by
      unfold pp
      rw [e6_34]
      rfl
    rw [hu] at hQ
    refine bg_iconst rfl ?_
    refine bg_iret rfl rfl (by rfl) ?_
    exact hQ h (by change PX _ _ _ _ _ _ _ _ _ _ _ (C ++ [].map (rwF rows)) t; rw [List.map_nil, List.append_nil]; exact hX) fr.refl
  refine bk_sw_c (fun e6_35 => ?_) (fun n6_35 => ?_)
  · have hu : pp K (n + 1) 0 d t = no t := by
      unfold pp
      rw [e6_35]
      rfl
    rw [hu] at hQ
    refine bg_iconst rfl ?_
    refine bg_iret rfl rfl (by rfl) ?_
    exact hQ h (by change PX _ _ _ _ _ _ _ _ _ _ _ (C ++ [].map (rwF rows)) t; rw [List.map_nil, List.append_nil]; exact hX) fr.refl
  refine bk_sw_c (fun e6_36 => ?_) (fun n6_36 => ?_)
  · have hu : pp K (n + 1) 0 d t = no t := by
      unfold pp
      rw [e6_36]
      rfl
    rw [hu] at hQ
    refine bg_iconst rfl ?_
    refine bg_iret rfl rfl (by rfl) ?_
    exact hQ h (by change PX _ _ _ _ _ _ _ _ _ _ _ (C ++ [].map (rwF rows)) t; rw [List.map_nil, List.append_nil]; exact hX) fr.refl
  refine bk_sw_c (fun e6_37 => ?_) (fun n6_37 => ?_)
  · have hu : pp K (n + 1) 0 d t = no t := by
      unfold pp
      rw [e6_37]
      rfl
    rw [hu] at hQ
    refine bg_iconst rfl ?_
    refine bg_iret rfl rfl (by rfl) ?_
    exact hQ h (by change PX _ _ _ _ _ _ _ _ _ _ _ (C ++ [].map (rwF rows)) t; rw [List.map_nil, List.append_nil]; exact hX) fr.refl
  refine bk_sw_c (fun e6_38 => ?_) (fun n6_38 => ?_)
  · have hu : pp K (n + 1) 0 d t = no t := by
      unfold pp
      rw [e6_38]
      rfl
    rw [hu] at hQ
    refine bg_iconst rfl ?_
    refine bg_iret rfl rfl (by rfl) ?_
    exact hQ h (by change PX _ _ _ _ _ _ _ _ _ _ _ (C ++ [].map (rwF rows)) t; rw [List.map_nil, List.append_nil]; exact hX) fr.refl
  refine bk_sw_c (fun e6_39 => ?_) (fun n6_39 => ?_)
  · have hk : K t = 39 := e6_39
    exact bp_vM hF hN hE hd ht hC hw hD ih0 hk hX hQ
  refine bk_sw_n ?_
  have hu : pp K (n + 1) 0 d t = no t := by
    unfold pp
    rw [if_neg (by rintro (q | q | q | q) <;> contradiction), if_neg (by rintro (q | q | q | q | q) <;> contradiction), if_neg n6_39, if_neg n6_32, if_neg (by rintro (q | q) <;> contradiction)]
  rw [hu] at hQ
  refine bg_iconst rfl ?_
  refine bg_iret rfl rfl (by rfl) ?_
  exact hQ h (by change PX _ _ _ _ _ _ _ _ _ _ _ (C ++ [].map (rwF rows)) t; rw [List.map_nil, List.append_nil]; exact hX) fr.refl
theorem bp_all (hF : ∀ i, i < N → f i = K i) (hN : N ≤ 401) (hE : K (N - 1) = 47 ∨ K (N - 1) = 0) : ∀ n, (bpS V (fun h C t => PX h dr tk tp T p rows f g P od C t) rows dr N (pp K n 0) 1 56 n) ∧ (bpS V (fun h C t => PX h dr tk tp T p rows f g P od C t) rows dr N (pp K n 1) 2 55 n) ∧ (bpL V (fun h C t => PX h dr tk tp T p rows f g P od C t) rows dr N (pp K n 2) 2 55 1 n) ∧ (bpS V (fun h C t => PX h dr tk tp T p rows f g P od C t) rows dr N (pp K n 3) 3 54 n) ∧ (bpL V (fun h C t => PX h dr tk tp T p rows f g P od C t) rows dr N (pp K n 4) 3 54 1 n) ∧ (bpS V (fun h C t => PX h dr tk tp T p rows f g P od C t) rows dr N (pp K n 5) 4 53 n) ∧ (bpS V (fun h C t => PX h dr tk tp T p rows f g P od C t) rows dr N (pp K n 6) 5 52 n) ∧ (bpL V (fun h C t => PX h dr tk tp T p rows f g P od C t) rows dr N (pp K n 7) 5 52 0 n) ∧ (bpS V (fun h C t => PX h dr tk tp T p rows f g P od C t) rows dr N (pp K n 8) 6 51 n) ∧ (bpL V (fun h C t => PX h dr tk tp T p rows f g P od C t) rows dr N (pp K n 9) 6 51 0 n)
  | 0 => ⟨fun D d t C h nn B Q _ _ _ hw => absurd hw (by omega), fun D d t C h nn B Q _ _ _ hw => absurd hw (by omega), fun D d t m C h nn B cs Q xt _ _ _ _ hw => absurd hw (by omega), fun D d t C h nn B Q _ _ _ hw => absurd hw (by omega), fun D d t m C h nn B cs Q xt _ _ _ _ hw => absurd hw (by omega),
    fun D d t C h nn B Q _ _ _ hw => absurd hw (by omega), fun D d t C h nn B Q _ _ _ hw => absurd hw (by omega), fun D d t m C h nn B cs Q xt _ _ _ _ hw => absurd hw (by omega), fun D d t C h nn B Q _ _ _ hw => absurd hw (by omega), fun D d t m C h nn B cs Q xt _ _ _ _ hw => absurd hw (by omega)⟩
  | n + 1 => by
    obtain ⟨i0, i1, i2, i3, i4, i5, i6, i7, i8, i9⟩ := bp_all hF hN hE n
    exact ⟨bp_mValue hF hN hE i0 i3, bp_mProd hF hN hE i0 i2, bp_lProd hF hN hE i0 i2, bp_mSum hF hN hE i1 i4, bp_lSum hF hN hE i1 i4, bp_mSingle hF hN hE i3 i5 i8, bp_mBoth hF hN hE i5 i7, bp_lBoth hF hN hE i5 i7, bp_mTest hF hN hE i6 i9, bp_lTest hF hN hE i6 i9⟩
end BP
