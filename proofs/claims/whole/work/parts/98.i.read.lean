/-! THE REFERENCE: read. Printed by wip/whole/mk98i.py. -/
section MM
variable {V : bk_V} {d n : Nat} {B : Nat × Nat} {Q : bk_R → bk_H → Nat → Prop} {h : bk_H} {y u v : Nat} {T : List Int32} {P : Nat → bT} {S : bS} {K J : rI} {C : rA} {cs : Nat × Nat} {f : Nat → Int32} {g : Nat → Int64} {rows : bT} {et od : Int32}
theorem mt_read (hT : ∀ b ∈ T, ∃ k, k < 256 ∧ b = nI k) (hS : SCN T (toks T) rows f g) (hl : rows.length = (toks T).length) (hw : ∀ q ∈ rows, q.length = 2) (hM : MD h y u v T P S J K C) (hj0 : J 0 = 0 ∧ J 2 = -1) (hn1 : y + 51 ≤ n) (hn2 : u + 16 ≤ n) (hB1 : 16 ≤ B.1) (hB2 : 1409 ≤ B.2) (hQ : ((lsL (kkF (toks T)) (ckF f g et rows).2.2.2.2 401 (0, (fun _ => []), od)).1 = true → (ckF f g et rows).1 = 0 → ∀ (h0' h' : bk_H) (J' : rI) (F' : rA) (K' : rI) (C' : rA), (∀ q, q < n → q ≠ y → h0' q = h q) → MT h0' h' y u n T P S K C J' F' K' C' → J' 0 = 0 → J' 2 = -1 → PLN (lsL (kkF (toks T)) (ckF f g et rows).2.2.2.2 401 (0, (fun _ => []), od)).2.2.1 K' C' → Q (.inl (some (.int 0))) h' (n + 16)) ∧ ((lsL (kkF (toks T)) (ckF f g et rows).2.2.2.2 401 (0, (fun _ => []), od)).1 = true → ¬ (ckF f g et rows).1 = 0 → ∀ (h0' h' : bk_H) (J' : rI) (F' : rA) (K' : rI) (C' : rA), (∀ q, q < n → q ≠ y → h0' q = h q) → MT h0' h' y u n T P S K C J' F' K' C' → J' 0 = 0 → J' 2 = rG (ckF f g et rows).2.2.2.2 (ckF f g et rows).2.1 0 → Q (.inl (some (.int (ckF f g et rows).1))) h' (n + 16)) ∧ (¬ (lsL (kkF (toks T)) (ckF f g et rows).2.2.2.2 401 (0, (fun _ => []), od)).1 = true → ∀ (h0' h' : bk_H) (J' : rI) (F' : rA) (K' : rI) (C' : rA), (∀ q, q < n → q ≠ y → h0' q = h q) → MT h0' h' y u n T P S K C J' F' K' C' → J' 0 = 0 → J' 2 = rG (ckF f g et rows).2.2.2.2 (nI (lsL (kkF (toks T)) (ckF f g et rows).2.2.2.2 401 (0, (fun _ => []), od)).2.1) 0 → Q (.inl (some (.int 1))) h' (n + 16))) : bk_wp V (d + 65) 194 [.ref y] h n B Q := by
  obtain ⟨⟨tp, ht, ht2⟩, ⟨f0, f1', f2, f3, f4, a0, a1, a2, a3, a4⟩, ⟨I2, A2, hR2⟩, ⟨I, A, hR, hr, hP, hY, hp, hs, hv, hd1, hd2, hbs⟩, hJ1, hT2, hu⟩ := id hM
  obtain ⟨kE, k0N, kN⟩ := toks_E (T := T)
  have hsv : SV (toks T).length (lsL (kkF (toks T)) (ckF f g et rows).2.2.2.2 401 (0, (fun _ => []), od)).2 := ls_sv kE 401 _ ⟨k0N, Nat.le_refl 0⟩
  have hf : ∀ i, i < (toks T).length → f i = kkF (toks T) i := fun i hi => SCN_f hS i hi
  refine bg_in rfl rfl ?_
  refine bg_aload0 rfl ?_
  refine bg_new rfl rfl (by rfl) (by show 0 + 1 ≤ B.1; omega) (by show 0 + 22 ≤ B.2; omega) (fun h1 f1 g1 => ?_)
  have hY1 : YO h1 y J u v := (g1 y (by omega)).trans hY
  refine bg_dup rfl rfl ?_
  refine bg_spec0B (b := (15, 1387)) rfl rfl rfl rfl (by show 1 + 15 ≤ B.1; omega) (by show 22 + 1387 ≤ B.2; omega) ?_
  refine ri_plan f1 rfl (Nat.le_refl _) (Nat.le_refl _) (fun hN hPn gN => bk_Kv ?_)
  have hY2 : YO hN y J u v := (gN y (by omega)).trans hY1
  refine bg_putfield rfl rfl hY2 (by rfl) ⟨rfl, rfl⟩ (by rfl) (fun h8 f8 g8 => ?_)
  have w : ∀ q, q < n → q ≠ y → h8 q = h q := fun q q1 q2 => (g8 q q2).trans ((gN q (by omega)).trans (g1 q (by omega)))
  have w2 : ∀ q, y + 1 ≤ q → q < y + 51 → h8 q = h q := fun q q1 q2 => w q (by omega) (by omega)
  have hM : MT h8 h8 y u n T P S K C J (fun k => if k = 0 then f0 else if k = 1 then f1' else if k = 2 then f2 else if k = 3 then f3 else f4) K0F C0F := ⟨⟨⟨tp, (w2 _ (by omega) (by omega)).trans ht, ht2⟩, ⟨I2, A2, hR2.kq fun q q1 q2 => w2 q (by omega) (by omega)⟩, ⟨I, A, hR.kq fun q q1 q2 => w2 q (by omega) (by omega), hr⟩, hP.kq fun q q1 q2 => w q (by omega) (by omega), hp, hs, hv, hT2⟩, f8, (w2 _ (by omega) (by omega)).trans a0, (w2 _ (by omega) (by omega)).trans a1, (w2 _ (by omega) (by omega)).trans a2, (w2 _ (by omega) (by omega)).trans a3, (w2 _ (by omega) (by omega)).trans a4, hPn.kq fun q q1 q2 => g8 q (by omega), hJ1, ⟨by omega, by omega, by omega⟩, fun _ _ _ => rfl⟩
  refine bg_aload0 rfl ?_
  refine bg_virt0 rfl rfl rfl rfl ⟨_, hM.Y⟩ ?_
  refine mt_cut hT hM (fun hC F hM hF => bk_Kv ?_)
  refine bg_aload0 rfl ?_
  refine bg_iconst rfl ?_
  refine bg_putfield rfl rfl hM.Y (by rfl) ⟨rfl, rfl⟩ (by rfl) (fun h17 f17 g17 => ?_)
  have hM := hM.j (J' := upd J 3 0) f17 g17 rfl
  refine bg_aload0 rfl ?_
  refine bg_iconst rfl ?_
  refine bg_putfield rfl rfl hM.Y (by rfl) ⟨rfl, rfl⟩ (by rfl) (fun h22 f22 g22 => ?_)
  have hM := hM.j (J' := upd (upd J 3 0) 4 0) f22 g22 rfl
  refine bg_aload0 rfl ?_
  refine bg_virt0 rfl rfl rfl rfl ⟨_, hM.Y⟩ ?_
  have hFX := FXk_of hT hF
  have hNV := NVk_of hT hF hS
  refine rp_plan (Kd := kkF (toks T)) (N := (toks T).length) (rows := (ckF f g et rows).2.2.2.2) (od := od) (W := (0, (fun _ => 0), (fun _ => 0), fun _ => 0)) hFX hNV k0N ⟨_, F, K0F, C0F, hM, hj0, rfl, rfl, ⟨rfl, rfl, rfl, rfl⟩, ⟨fun i hi => absurd hi (Nat.not_lt_zero i), fun i _ hi => (hF i _ (List.getElem?_eq_getElem hi)).2.2.2.1⟩, ⟨rfl, fun i hi => absurd hi (Nat.not_lt_zero i), rfl, fun i hi => absurd hi (Nat.not_lt_zero i)⟩, ⟨fun _ _ => rfl, rfl, rfl, rfl, rfl⟩⟩ rfl (fun hL bb hLB => bk_Ki ?_)
  refine bg_if_ne rfl (fun e29 => ?_) (fun e29 => ?_)
  · obtain ⟨hb, r1, it, W, hLR, hX⟩ := hLB.resolve_right (fun z => e29 z.1)
    obtain ⟨Ja, Fa, Ka, Ca, hM, j0, j3, j4, ⟨x0, x1, x2, x4⟩, hRo, hCD, hO⟩ := hX
    have hsv1 : (lsL (kkF (toks T)) (ckF f g et rows).2.2.2.2 401 (0, (fun _ => []), od)).2.1 < (toks T).length := hsv.1
    have row0 : ∀ i, i < (toks T).length → F 1 i = rG (ckF f g et rows).2.2.2.2 (nI i) 0 := fun i hi => by
      rw [rG_nI (by omega), ck_col0 hw (by omega)]
      have ht := List.getElem?_eq_getElem hi
      exact (hF i _ ht).2.1.trans (hS i _ ht).2.1.symm
    refine bg_aload0 rfl ?_
    refine bg_getfield rfl rfl hM.Y (by rfl) ?_
    rw [j3]
    refine bg_istore1 rfl rfl ?_
    refine bg_aload0 rfl ?_
    refine bg_iconst rfl ?_
    refine bg_putfield rfl rfl hM.Y (by rfl) ⟨rfl, rfl⟩ (by rfl) (fun h54 f54 g54 => ?_)
    have hM := hM.j (J' := upd Ja 3 0) f54 g54 rfl
    obtain ⟨kE47, okt⟩ := ls_okt (Kd := kkF (toks T)) (rw := (ckF f g et rows).2.2.2.2) (od := od) 401 0 (fun _ => []) od (Nat.zero_le _) r1
    have hE1 : (lsL (kkF (toks T)) (ckF f g et rows).2.2.2.2 401 (0, (fun _ => []), od)).2.1 + 1 = (toks T).length := by
      have a := hsv.1
      by_cases e : (lsL (kkF (toks T)) (ckF f g et rows).2.2.2.2 401 (0, (fun _ => []), od)).2.1 + 1 < (toks T).length
      · exact absurd kE47 (kk_mid e).1
      · omega
    have hit : it.length ≤ 400 := by
      have a := hsv.2
      have b := hsv.1
      rw [hLR.1, List.length_map] at a
      omega
    obtain ⟨c5, c13, c6, c14⟩ := hCD
    obtain ⟨o1, o2, o3, o4, o5⟩ := hO
    refine mt_errL (Kd := kkF (toks T)) (N := (toks T).length) (E := (lsL (kkF (toks T)) (ckF f g et rows).2.2.2.2 401 (0, (fun _ => []), od)).2.1) (f := f) (g := g) (rows := rows) (nv := fun i => rG rows (nI i) 1) (Fx := F) (Kz := Ka) (Cz := Ca) (Cb := Ca) (j2 := -1) hf kN (by omega) (fun i hi => okt i (Nat.zero_le i) hi) hw hl (NMk_of hT hF hS) hNV (fun i _ _ => rfl) (fun k hk hok hne h3 J3 F3 K3 C3 hM j30 j32 => ?_) (fun hok h3 J3 F3 K3 C3 x2' hM j30 j32 hZ => ?_) _ 0 none _ _ Fa Ka Ca (Nat.zero_add _) hM j0.1 j0.2 rfl x1 x2 ⟨fun k hk => hRo.1 k hk, fun k hk => absurd hk (Nat.not_lt_zero k), fun m hm => ?_, o1 3 (by decide), fun _ _ => rfl, fun _ _ => rfl, fun _ _ => rfl⟩ (fun j hj => absurd hj (Nat.not_lt_zero j))
    · have e := ckF_at (et := et) (show k < rows.length by omega) hok hne
      have hq := hQ.2.1 r1 (by rw [e]; exact hne)
      have e1 : (ckF f g et rows).1 = ckE f g rows k := by rw [e]
      have e2 : (ckF f g et rows).2.1 = nI k := by rw [e]
      rw [e1, e2] at hq
      exact hq h8 h3 J3 F3 K3 C3 w hM j30 (j32.trans (row0 k (by omega)))
    · refine bg_iconst rfl ?_
      refine bg_istore2 rfl rfl ?_
      refine mt_openL (cl := rcL (fun i => rG rows (nI i) 1) it) (ol := opL it 0) (Cz := C3) (F := F3) ?_ ?_ (fun k hk => ?_) (fun k hk => opL_nd it 0 k hk) ?_ (Nat.le_trans (opL_len it 0) hit) (fun h4 C4 hM hz hmm => ?_) _ 0 _ C3 (Nat.zero_add _) hM (fun _ _ => rfl) (fun p hp => ?_)
      · exact (hZ.2.2.2.2.1 6 (by decide)).trans c6
      · intro k hk
        rw [hZ.2.2.2.2.2.2 14 (by decide)]
        exact c14 k hk
      · have hmem : (opL it 0).getD k 0 ∈ opL it 0 := by
          rw [List.getD_eq_getElem?_getD, List.getElem?_eq_getElem hk]
          exact List.getElem_mem hk
        obtain ⟨_, b2⟩ := opL_mem it 0 _ hmem
        obtain ⟨q, hq, j, e1, e2, e3⟩ := opL_at (nv := fun i => rG rows (nI i) 1) it 0 _ hmem
        refine ⟨by rw [rcL_len]; omega, j, ?_, e3⟩
        have kj := hLR.2.2.2.2.2 q hq j e1 e2
        exact Nat.lt_of_not_le fun z => by
          rw [kk_out (T := T) (by omega)] at kj
          exact absurd kj (by decide)
      · rw [rcL_len]
        have := lnL_le it
        omega
      · obtain ⟨y1, y2⟩ := pln_of (et := et) (od := od) hS hl hw r1 hE1 hok hLR hZ hz o3 o4 o5 hit hmm
        exact hQ.1 r1 y1 h8 h4 J3 F3 K3 C4 w hM j30 j32 y2
      · rw [if_neg (fun z => by rw [List.take_zero] at z; exact absurd z List.not_mem_nil), hZ.2.2.2.2.2.2 13 (by decide)]
        exact c13 p hp
    · exact o1 m (by omega)
  · obtain ⟨hb, r1, Ja, Fa, Ka, Ca, hM, j0, j3, x0, x1, x2, x4⟩ := hLB.resolve_left (fun z => absurd (z.1.symm.trans e29) (by decide))
    refine bg_aload0 rfl ?_
    refine bg_aload0 rfl ?_
    refine bg_getfield rfl rfl hM.Y (by rfl) ?_
    refine bg_aload0 rfl ?_
    refine bg_getfield rfl rfl hM.Y (by rfl) ?_
    rw [j3]
    have hsv1 : (lsL (kkF (toks T)) (ckF f g et rows).2.2.2.2 401 (0, (fun _ => []), od)).2.1 < (toks T).length := hsv.1
    refine bg_iaload_n rfl hM.f1 (by decide) (by omega) ?_
    refine bg_putfield rfl rfl hM.Y (by rfl) ⟨rfl, rfl⟩ (by rfl) (fun h42 f42 g42 => ?_)
    have hM := hM.j (J' := upd Ja 2 (Fa 1 (lsL (kkF (toks T)) (ckF f g et rows).2.2.2.2 401 (0, (fun _ => []), od)).2.1)) f42 g42 rfl
    have hsv1 : (lsL (kkF (toks T)) (ckF f g et rows).2.2.2.2 401 (0, (fun _ => []), od)).2.1 < (toks T).length := hsv.1
    have row0 : ∀ i, i < (toks T).length → F 1 i = rG (ckF f g et rows).2.2.2.2 (nI i) 0 := fun i hi => by
      rw [rG_nI (by omega), ck_col0 hw (by omega)]
      have ht := List.getElem?_eq_getElem hi
      exact (hF i _ ht).2.1.trans (hS i _ ht).2.1.symm
    refine bg_iconst rfl ?_
    refine bg_iret rfl rfl (by rfl) ?_
    exact hQ.2.2 r1 h8 h42 _ _ _ _ w hM j0.1 ((congrFun x1 _).trans (row0 _ hsv.1))
end MM
