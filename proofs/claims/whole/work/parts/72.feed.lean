/-! THE REFERENCE: feed. Printed by wip/whole/mk72.py. -/
theorem fd_ix {k : Nat} (h : k < 20) : nI k / 4 = nI (k / 4) ∧ 24 - 8 * (nI k - nI (k / 4) * 4) = nI (24 - 8 * (k % 4)) ∧ k / 4 < 5 ∧ nI (24 - 8 * (k % 4)) &&& 31 = nI (24 - 8 * (k % 4)) := by
  have : k = 0 ∨ k = 1 ∨ k = 2 ∨ k = 3 ∨ k = 4 ∨ k = 5 ∨ k = 6 ∨ k = 7 ∨ k = 8 ∨ k = 9 ∨ k = 10 ∨ k = 11 ∨ k = 12 ∨ k = 13 ∨ k = 14 ∨ k = 15 ∨ k = 16 ∨ k = 17 ∨ k = 18 ∨ k = 19 := by omega
  rcases this with rfl | rfl | rfl | rfl | rfl | rfl | rfl | rfl | rfl | rfl | rfl | rfl | rfl | rfl | rfl | rfl | rfl | rfl | rfl | rfl <;> decide
theorem fd_by {k : Nat} {a0 a1 a2 a3 a4 : Int32} (h : k < 20) : ((upd (upd (upd (upd (upd (fun _ => 0) 0 a0) 1 a1) 2 a2) 3 a3) 4 a4) (k / 4) >>> nI (24 - 8 * (k % 4))) &&& 255 = (bys a0 ++ (bys a1 ++ (bys a2 ++ (bys a3 ++ bys a4)))).getD k 0 := by
  have : k = 0 ∨ k = 1 ∨ k = 2 ∨ k = 3 ∨ k = 4 ∨ k = 5 ∨ k = 6 ∨ k = 7 ∨ k = 8 ∨ k = 9 ∨ k = 10 ∨ k = 11 ∨ k = 12 ∨ k = 13 ∨ k = 14 ∨ k = 15 ∨ k = 16 ∨ k = 17 ∨ k = 18 ∨ k = 19 := by omega
  rcases this with rfl | rfl | rfl | rfl | rfl | rfl | rfl | rfl | rfl | rfl | rfl | rfl | rfl | rfl | rfl | rfl | rfl | rfl | rfl | rfl <;> rfl
section MM
variable {V : bk_V} {d n : Nat} {B : Nat × Nat} {Q : bk_R → bk_H → Nat → Prop} {h : bk_H} {y u v : Nat} {T : List Int32} {P : Nat → bT} {S : bS} {I J K : rI} {A C : rA} {cs : Nat × Nat}
theorem mo_feedL {h0 : bk_H} {m : Nat} {a0 a1 a2 a3 a4 : Int32} (hM : MD h0 y u v T P S J K C) (hl : T.length ≤ 1980) (hm : ¬ m = y + 1) (hQ : ∀ (h' : bk_H) (J' : rI), MD h' y u v (T ++ bys a0 ++ bys a1 ++ bys a2 ++ bys a3 ++ bys a4) P S J' K C → J' 0 = J 0 → J' 2 = J 2 → (∀ q, q ≠ y → q ≠ y + 1 → h' q = h0 q) → Q (.inl (some (.int (nI (T.length + 20))))) h' n) : ∀ (c k : Nat) {h : bk_H} (tp : Nat → Int32), k + c = 20 → (∀ q, q ≠ y + 1 → h q = h0 q) → AR h (y + 1) 2000 tp → AR h m 5 (upd (upd (upd (upd (upd (fun _ => 0) 0 a0) 1 a1) 2 a2) 3 a3) 4 a4) → (∀ i, i < T.length + k → tp i = (T ++ (bys a0 ++ (bys a1 ++ (bys a2 ++ (bys a3 ++ bys a4))))).getD i 0) → bk_g V (d + 1) 195 B Q 51 [some (.ref y), some (.int a0), some (.int a1), some (.int a2), some (.int a3), some (.int a4), some (.ref m), some (.int (nI k))] [] h n cs := by
  obtain ⟨⟨tp0, ht0, ht2⟩, ⟨f0, f1, f2x, f3, f4, b0, b1, b2, b3, b4⟩, ⟨I2, A2, hR2⟩, ⟨I, A, hR, hr, hP, hY1, hp, hs, hv, hd1, hd2, hbs⟩, hJ1, hT2, hu⟩ := id hM
  intro c
  induction c with
  | zero =>
    intro k h tp hk hF ht hA htp
    have hY := (hF y (by omega)).trans hY1
    refine bg_iload7 rfl ?_
    refine bg_bipush rfl ?_
    refine bg_icmp_ge rfl (fun e55 => ?_) (fun e55 => absurd e55 (nI_nlt (b := 20) (by omega) (by omega)))
    refine bg_aload0 rfl ?_
    refine bg_dup rfl rfl ?_
    refine bg_getfield rfl rfl hY (by rfl) ?_
    refine bg_bipush rfl ?_
    refine bg_iadd rfl ?_
    refine bg_putfield rfl rfl hY (by rfl) ⟨rfl, rfl⟩ (by rfl) (fun h106 f106 g106 => ?_)
    have e106 : ∀ q, q ≠ y → q ≠ y + 1 → h106 q = h0 q := fun q q1 q2 => (g106 q q1).trans (hF q q2)
    have hlen : (T ++ bys a0 ++ bys a1 ++ bys a2 ++ bys a3 ++ bys a4).length = T.length + 20 := by simp only [List.length_append, bys_len]
    have hMF : MD h106 y u v (T ++ bys a0 ++ bys a1 ++ bys a2 ++ bys a3 ++ bys a4) P S (upd J 1 (J 1 + 20)) K C := by
      refine ⟨⟨tp, (g106 _ (by omega)).trans ht, fun i hi => ?_⟩, ⟨f0, f1, f2x, f3, f4, (e106 _ (by omega) (by omega)).trans b0, (e106 _ (by omega) (by omega)).trans b1, (e106 _ (by omega) (by omega)).trans b2, (e106 _ (by omega) (by omega)).trans b3, (e106 _ (by omega) (by omega)).trans b4⟩, ⟨I2, A2, hR2.kq fun q q1 q2 => e106 q (by omega) (by omega)⟩, ⟨I, A, hR.kq fun q q1 q2 => e106 q (by omega) (by omega), hr, hP.kq fun q q1 q2 => e106 q (by omega) (by omega), f106, hp, hs, hv, hd1, hd2, hbs⟩, ?_, by omega, hu⟩
      · rw [htp i (by omega)]
        simp only [List.append_assoc]
      · show J 1 + 20 = _
        rw [hJ1, hlen]
        exact nI_add _ 20
    replace hY : YO h106 y (upd J 1 (J 1 + 20)) u v := f106
    refine bg_aload0 rfl ?_
    refine bg_getfield rfl rfl hY (by rfl) ?_
    refine bg_iret rfl rfl (by rfl) ?_
    refine bQ (hQ _ _ hMF rfl rfl e106) ?_
    show nI (T.length + 20) = J 1 + 20
    rw [hJ1]
    exact (nI_add _ 20).symm
  | succ c ih =>
    intro k h tp hk hF ht hA htp
    have hY := (hF y (by omega)).trans hY1
    obtain ⟨x1, x2, x3, x4⟩ := fd_ix (k := k) (by omega)
    refine bg_iload7 rfl ?_
    refine bg_bipush rfl ?_
    refine bg_icmp_ge rfl (fun e55 => absurd (nI_lt (b := 20) (by omega) (by decide)) e55) (fun e55 => ?_)
    refine bg_aload0 rfl ?_
    refine bg_getfield rfl rfl hY (by rfl) ?_
    refine bg_aload0 rfl ?_
    refine bg_getfield rfl rfl hY (by rfl) ?_
    refine bg_iload7 rfl ?_
    refine bg_iadd rfl ?_
    rw [hJ1, nI_add]
    refine bg_aload6 rfl ?_
    refine bg_iload7 rfl ?_
    refine bg_iconst rfl ?_
    refine bg_idiv rfl (by decide) ?_
    rw [x1]
    refine bg_iaload_n rfl hA (by decide) x3 ?_
    refine bg_bipush rfl ?_
    refine bg_bipush rfl ?_
    refine bg_iload7 rfl ?_
    refine bg_iconst rfl ?_
    refine bg_irem rfl (by decide) ?_
    rw [x1]
    refine bg_imul rfl ?_
    refine bg_isub rfl ?_
    rw [x2]
    refine bg_ishr rfl ?_
    refine bg_sipush rfl ?_
    refine bg_iand rfl ?_
    refine bg_iastore_n rfl ht (by decide) (by omega) (fun h91 f91 g91 => ?_)
    refine bg_iinc7 rfl rfl ?_
    rw [x4, fd_by (k := k) (by omega)] at f91
    rw [nI_1]
    refine bg_goto rfl ?_
    exact ih (k + 1) _ (by omega) (fun q q1 => (g91 q q1).trans (hF q q1)) f91 ((g91 _ (by omega)).trans hA) (fun i hi => by
      show (if i = T.length + k then _ else tp i) = _
      by_cases e : i = T.length + k
      · rw [if_pos e, e, List.getD_eq_getElem?_getD, List.getD_eq_getElem?_getD, List.getElem?_append_right (Nat.le_add_right _ _), Nat.add_sub_cancel_left]
      · rw [if_neg e]
        exact htp i (by omega))

theorem mo_feed {a0 a1 a2 a3 a4 : Int32} (hM : MD h y u v T P S J K C) (hn : y + 51 ≤ n ∧ u + 16 ≤ n) (hB1 : 1 ≤ B.1) (hB2 : 5 ≤ B.2) (hE : ¬ T.length ≤ 1980 → ∀ (h' : bk_H) (J' : rI), MD h' y u v T P S J' K C → J' 0 = 1 → J' 2 = J 2 → fm h h' y n → Q (.inl (some (.int 0))) h' n) (hQ : T.length ≤ 1980 → ∀ (h' : bk_H) (n' : Nat) (J' : rI), MD h' y u v (T ++ bys a0 ++ bys a1 ++ bys a2 ++ bys a3 ++ bys a4) P S J' K C → J' 0 = 0 → J' 2 = J 2 → n ≤ n' → fm h h' y n → Q (.inl (some (.int (nI (T.length + 20))))) h' n') : bk_wp V (d + 2) 195 [.ref y, .int a0, .int a1, .int a2, .int a3, .int a4] h n B Q := by
  obtain ⟨hTp, har, hah, ⟨I, A, hR, hr, hP, hY, hp, hs, hv, hd1, hd2, hbs⟩, hJ1, hT2, hu⟩ := id hM
  refine bg_in rfl rfl ?_
  refine bg_aload0 rfl ?_
  refine bg_iconst rfl ?_
  refine bg_putfield rfl rfl hY (by rfl) ⟨rfl, rfl⟩ (by rfl) (fun h2 f2 g2 => ?_)
  have hM1 := hM.j (J' := upd J 0 0) f2 g2 rfl
  have hm : fm h h2 y n := fun q _ q2 => g2 q (by omega)
  obtain ⟨hTp, har, hah, ⟨I, A, hR, hr, hP, hY, hp, hs, hv, hd1, hd2, hbs⟩, hJ1, hT2, hu⟩ := id hM1
  refine bg_aload0 rfl ?_
  refine bg_getfield rfl rfl hY (by rfl) ?_
  refine bg_sipush rfl ?_
  refine bg_icmp_le rfl (fun e12 => ?_) (fun e12 => ?_)
  · have e1 : (upd J 0 0) 1 = nI T.length := hJ1
    have hc : T.length ≤ 1980 := Nat.le_of_not_lt fun q => e12 (by rw [e1]; exact nI_lt q (by omega))
    refine bg_iconst rfl ?_
    refine bg_newarray_int rfl (N := 5) rfl (by decide) (by show 0 + 1 ≤ B.1; omega) (by show 0 + 5 ≤ B.2; omega) (by decide) (fun h22 f22 g22 => ?_)
    have hA := f22
    have hE9 : ∀ q, q ≠ n → h22 q = h2 q := g22
    refine bg_dup rfl rfl ?_
    refine bg_iconst rfl ?_
    refine bg_iload1 rfl ?_
    refine bg_iastore_n (i := 0) rfl hA (by decide) (by decide) (fun h27 f27 g27 => ?_)
    replace hA := f27
    replace hE9 : ∀ q, q ≠ n → h27 q = h2 q := fun q z => (g27 q z).trans (hE9 q z)
    refine bg_dup rfl rfl ?_
    refine bg_iconst rfl ?_
    refine bg_iload2 rfl ?_
    refine bg_iastore_n (i := 1) rfl hA (by decide) (by decide) (fun h31 f31 g31 => ?_)
    replace hA := f31
    replace hE9 : ∀ q, q ≠ n → h31 q = h2 q := fun q z => (g31 q z).trans (hE9 q z)
    refine bg_dup rfl rfl ?_
    refine bg_iconst rfl ?_
    refine bg_iload3 rfl ?_
    refine bg_iastore_n (i := 2) rfl hA (by decide) (by decide) (fun h35 f35 g35 => ?_)
    replace hA := f35
    replace hE9 : ∀ q, q ≠ n → h35 q = h2 q := fun q z => (g35 q z).trans (hE9 q z)
    refine bg_dup rfl rfl ?_
    refine bg_iconst rfl ?_
    refine bg_iload4 rfl ?_
    refine bg_iastore_n (i := 3) rfl hA (by decide) (by decide) (fun h40 f40 g40 => ?_)
    replace hA := f40
    replace hE9 : ∀ q, q ≠ n → h40 q = h2 q := fun q z => (g40 q z).trans (hE9 q z)
    refine bg_dup rfl rfl ?_
    refine bg_iconst rfl ?_
    refine bg_iload5 rfl ?_
    refine bg_iastore_n (i := 4) rfl hA (by decide) (by decide) (fun h45 f45 g45 => ?_)
    replace hA := f45
    replace hE9 : ∀ q, q ≠ n → h45 q = h2 q := fun q z => (g45 q z).trans (hE9 q z)
    refine bg_astore6 rfl rfl ?_
    refine bg_iconst rfl ?_
    refine bg_istore7 rfl rfl ?_
    have hM9 := hM1.kp (fun q hq => hE9 q (by omega))
    obtain ⟨⟨tp0, ht0, ht2⟩, _⟩ := id hM9
    exact mo_feedL (h0 := h45) (m := n) hM9 hc (by omega) (fun h' J' q1 q2 q3 q4 => hQ hc h' (n + 1) J' q1 q2 q3 (Nat.le_succ n) (fun q z1 z2 => (q4 q (by omega) (by omega)).trans ((hE9 q (by omega)).trans (hm q z1 z2)))) 20 0 tp0 rfl (fun q _ => rfl) ht0 hA (fun i hi => by
      have hi2 : i < T.length := hi
      rw [ht2 i hi2, List.getD_eq_getElem?_getD, List.getD_eq_getElem?_getD, List.getElem?_append_left hi2])
  · have e1 : (upd J 0 0) 1 = nI T.length := hJ1
    have hc : ¬ T.length ≤ 1980 := fun q => absurd e12 (by rw [e1]; exact nI_nlt (a := 1980) q (by omega))
    refine bg_aload0 rfl ?_
    refine bg_iconst rfl ?_
    refine bg_virt1 rfl rfl rfl rfl ⟨_, hY⟩ ?_
    refine mo_no hM1 (fun h3 hM3 g3 => bk_Ki ?_)
    refine bg_iret rfl rfl (by rfl) ?_
    exact hE hc h3 _ hM3 rfl rfl (fun q q1 q2 => (g3 q (by omega)).trans (hm q q1 q2))
end MM
