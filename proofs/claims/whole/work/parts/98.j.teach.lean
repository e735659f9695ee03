/-! THE REFERENCE: teach. Printed by wip/whole/mk98j.py. -/
theorem shT_b {P : Nat → bT} {i k w m : Nat} (hk : k ≤ m) (hi : (if i = 0 then 3 else 1) = w) : shT (bgT P i k) w m := by
  refine ⟨by rw [bgT_len]; exact hk, fun q hq => ?_⟩
  obtain ⟨j, _, rfl⟩ := List.mem_map.mp hq
  by_cases a : i = 0
  · rw [if_pos a] at hi ⊢
    exact hi
  · rw [if_neg a] at hi ⊢
    by_cases b : i = 1
    · rw [if_pos b]
      exact hi
    · rw [if_neg b]
      exact hi
theorem SH_b {P : Nat → bT} {S : bS} {K : rI} {C : rA} (h : PLN P K C) : SH P (beginF P S) := by
  obtain ⟨_, _, _, hs, _, _⟩ := h
  exact ⟨hs, ⟨shT_b hs.1.1 rfl, shT_b hs.2.1.1 rfl, shT_b hs.2.2.1.1 rfl, shT_0, shT_0⟩, bgT_len, bgT_len, bgT_len⟩
theorem IV_b {P : Nat → bT} {S : bS} {K : rI} {C : rA} (h : PLN P K C) : IV P (beginF P S) := by
  obtain ⟨_, _, _, hs, h1, h2⟩ := h
  refine ⟨h1, fun i hi => ?_, fun i hi => absurd hi (Nat.not_lt_zero i), fun i hi => absurd hi (Nat.not_lt_zero i)⟩
  have hi : i < (P 1).length := by rw [show (beginF P S).2 1 = bgT P 1 (P 1).length from rfl, bgT_len] at hi; exact hi
  have := hs.2.1.1
  rw [show (beginF P S).2 1 = bgT P 1 (P 1).length from rfl, tg_bg1 hi]
  show ∃ k, 1 ≤ k ∧ k ≤ 6 ∧ rG (P 1) (nI i) 1 = nI k
  rw [rG_nI (by omega)]
  exact h2 i hi
theorem ck1_0 {f : Nat → Int32} {g : Nat → Int64} {i : Nat} {s : bC} : (ck1 f g i s).1 = 0 ∨ 0 < (ck1 f g i s).1 := by
  unfold ck1 ckName ckNew ckTold
  repeat' split
  all_goals first | exact Or.inl rfl | exact Or.inr (show (0 : Int32) < 2 by decide) | exact Or.inr (show (0 : Int32) < 3 by decide) | exact Or.inr (show (0 : Int32) < 4 by decide) | exact Or.inr (show (0 : Int32) < 5 by decide)
theorem ckF_p {f : Nat → Int32} {g : Nat → Int64} {rows : bT} {et : Int32} (h : ¬ (ckF f g et rows).1 = 0) : 0 < (ckF f g et rows).1 := by
  rcases ckF_r (f := f) (g := g) (rows := rows) (et := et) with ⟨m, _, _, m3, m4⟩ | ⟨_, m2, _⟩
  · rw [m4]
    exact ck1_0.resolve_left m3
  · exact absurd m2 h
section MM
variable {V : bk_V} {d n : Nat} {B : Nat × Nat} {Q : bk_R → bk_H → Nat → Prop} {h : bk_H} {y u v : Nat} {T : List Int32} {P : Nat → bT} {S : bS} {K J : rI} {C : rA} {cs : Nat × Nat} {f : Nat → Int32} {g : Nat → Int64} {rows : bT} {et od : Int32}
theorem MT.md {h0 h' : bk_H} {J' : rI} {F C2 : rA} {K2 : rI} (z : MT h0 h y u v T P S K C J F K2 C2) (k : YO h' y J' u v) (w : ∀ q, q ≠ y → h' q = h q) (e : J' 1 = 0) : MD h' y u v [] P S J' K C := by
  have pv := z.pv
  obtain ⟨⟨tp, t1, t2⟩, ⟨I2, A2, a⟩, ⟨I, A, b, c⟩, p, e1, e2, e3, e4⟩ := z.mb
  exact ⟨⟨tp, (w _ (by omega)).trans t1, fun i hi => absurd hi (Nat.not_lt_zero i)⟩, ⟨F 0, F 1, F 2, F 3, F 4, (w _ (by omega)).trans z.f0, (w _ (by omega)).trans z.f1, (w _ (by omega)).trans z.f2, (w _ (by omega)).trans z.f3, (w _ (by omega)).trans z.f4⟩, ⟨I2, A2, a.kq fun q q1 q2 => w q (by omega)⟩, ⟨I, A, b.kq fun q q1 q2 => w q (by omega), c, p.kq fun q q1 q2 => w q (by omega), k, e1, e2, e3, by omega, by omega, fun k hk => absurd hk (Nat.not_lt_zero k)⟩, e, Nat.zero_le _, by omega⟩
theorem mt_teach (hT : ∀ b ∈ T, ∃ k, k < 256 ∧ b = nI k) (hS : SCN T (toks T) rows f g) (hl : rows.length = (toks T).length) (hw : ∀ q ∈ rows, q.length = 2) (hM : MD h y u v T P S J K C) (hn1 : y + 51 ≤ n) (hn2 : u + 16 ≤ n) (hB1 : 16 ≤ B.1) (hB2 : 1409 ≤ B.2) (hQ : ((lsL (kkF (toks T)) (ckF f g et rows).2.2.2.2 401 (0, (fun _ => []), od)).1 = true → (ckF f g et rows).1 = 0 → ∀ (h' : bk_H) (J' : rI) (K' : rI) (C' : rA), MD h' y n n [] (lsL (kkF (toks T)) (ckF f g et rows).2.2.2.2 401 (0, (fun _ => []), od)).2.2.1 (beginF (lsL (kkF (toks T)) (ckF f g et rows).2.2.2.2 401 (0, (fun _ => []), od)).2.2.1 S) J' K' C' → J' 2 = -1 → PLN (lsL (kkF (toks T)) (ckF f g et rows).2.2.2.2 401 (0, (fun _ => []), od)).2.2.1 K' C' → fm h h' y n → Q (.inl (some (.int 0))) h' (n + 16)) ∧ ((lsL (kkF (toks T)) (ckF f g et rows).2.2.2.2 401 (0, (fun _ => []), od)).1 = true → ¬ (ckF f g et rows).1 = 0 → ∀ (h' : bk_H) (J' : rI), MD h' y u n [] P S J' K C → J' 2 = rG (ckF f g et rows).2.2.2.2 (ckF f g et rows).2.1 0 → fm h h' y n → Q (.inl (some (.int (ckF f g et rows).1))) h' (n + 16)) ∧ (¬ (lsL (kkF (toks T)) (ckF f g et rows).2.2.2.2 401 (0, (fun _ => []), od)).1 = true → ∀ (h' : bk_H) (J' : rI), MD h' y u n [] P S J' K C → J' 2 = rG (ckF f g et rows).2.2.2.2 (nI (lsL (kkF (toks T)) (ckF f g et rows).2.2.2.2 401 (0, (fun _ => []), od)).2.1) 0 → fm h h' y n → Q (.inl (some (.int 1))) h' (n + 16))) : bk_wp V (d + 66) 197 [.ref y] h n B Q := by
  have hY : YO h y J u v := by
    obtain ⟨_, _, _, ⟨_, _, _, _, _, z, _⟩, _⟩ := hM
    exact z
  refine bg_in rfl rfl ?_
  refine bg_aload0 rfl ?_
  refine bg_iconst rfl ?_
  refine bg_putfield rfl rfl hY (by rfl) ⟨rfl, rfl⟩ (by rfl) (fun h2 f2 g2 => ?_)
  have hM := hM.j (J' := upd J 0 0) f2 g2 rfl
  have hY : YO h2 y (upd J 0 0) u v := f2
  refine bg_aload0 rfl ?_
  refine bg_iconst rfl ?_
  refine bg_putfield rfl rfl hY (by rfl) ⟨rfl, rfl⟩ (by rfl) (fun h7 f7 g7 => ?_)
  have hM := hM.j (J' := upd (upd J 0 0) 2 (-1)) f7 g7 rfl
  have hY : YO h7 y (upd (upd J 0 0) 2 (-1)) u v := f7
  have w7 : ∀ q, q ≠ y → h7 q = h q := fun q hq => (g7 q hq).trans (g2 q hq)
  refine bg_aload0 rfl ?_
  refine bg_virt0B (b := (16, 1409)) rfl rfl rfl rfl ⟨_, hY⟩ (by show 0 + 16 ≤ B.1; omega) (by show 0 + 1409 ≤ B.2; omega) ?_
  refine mt_read (et := et) (od := od) hT hS hl hw hM ⟨rfl, rfl⟩ hn1 hn2 (Nat.le_refl _) (Nat.le_refl _) ⟨fun r1 c0 h0 h' J' F' K' C' w hM j0 j2 hp => bk_Ki ?_, fun r1 c0 h0 h' J' F' K' C' w hM j0 j2 => bk_Ki ?_, fun r1 h0 h' J' F' K' C' w hM j0 j2 => bk_Ki ?_⟩
  · have hfm : fm h h' y n := fun q q1 q2 => (hM.fq q q2 (Or.inl q1)).trans ((w q q1 (by omega)).trans (w7 q (by omega)))
    refine bg_istore1 rfl rfl ?_
    refine bg_aload0 rfl ?_
    refine bg_iconst rfl ?_
    refine bg_putfield rfl rfl hM.Y (by rfl) ⟨rfl, rfl⟩ (by rfl) (fun h17 f17 g17 => ?_)
    have hY : YO h17 y (upd J' 1 0) u n := f17
    have hfm : fm h h17 y n := fun q q1 q2 => (g17 q (by omega)).trans (hfm q q1 q2)
    refine bg_iload1 rfl ?_
    refine bg_if_le rfl (fun e21 => ?_) (fun e21 => absurd e21 (by decide))
    refine bg_aload0 rfl ?_
    refine bg_aload0 rfl ?_
    refine bg_getfield rfl rfl hY (by rfl) ?_
    refine bg_putfield rfl rfl hY (by rfl) ⟨rfl, rfl⟩ (by rfl) (fun h31 f31 g31 => ?_)
    have hY : YO h31 y (upd J' 1 0) n n := f31
    have w31 : ∀ q, q ≠ y → h31 q = h' q := fun q hq => (g31 q hq).trans (g17 q hq)
    have pv := hM.pv
    obtain ⟨⟨tp, t1, t2⟩, ⟨I2, A2, hA⟩, ⟨I, A, hR, hr⟩, _, _, _, _, _⟩ := hM.mb
    have hR : RO h31 (y + 23) y I A := hR.kq fun q q1 q2 => w31 q (by omega)
    have hP : PO h31 n K' C' := hM.R.kq fun q q1 q2 => w31 q (by omega)
    have hfm : fm h h31 y n := fun q q1 q2 => (g31 q (by omega)).trans (hfm q q1 q2)
    obtain ⟨hp1, _, _, hp4, _, _⟩ := id hp
    refine bg_aload0 rfl ?_
    refine bg_getfield rfl rfl hY (by rfl) ?_
    refine bg_virt0 rfl rfl rfl rfl ⟨_, hR.1⟩ ?_
    refine rb_begin (u := n) (v := n) (P := (lsL (kkF (toks T)) (ckF f g et rows).2.2.2.2 401 (0, (fun _ => []), od)).2.2.1) (S := S) hR hP hY (by omega) (by omega) hp1 hp4.1.1 hp4.2.1.1 hp4.2.2.1.1 (fun k hk => hr.1.1 k (by omega)) hr.1.2.2.2 (fun hZ I3 A3 hR3 hr3 gZ => bk_Kv ?_)
    refine bg_iconst rfl ?_
    refine bg_iret rfl rfl (by rfl) ?_
    refine hQ.1 r1 c0 hZ (upd J' 1 0) K' C' ⟨⟨tp, (gZ _ (by omega)).trans ((w31 _ (by omega)).trans t1), fun i hi => absurd hi (Nat.not_lt_zero i)⟩, ⟨F' 0, F' 1, F' 2, F' 3, F' 4, (gZ _ (by omega)).trans ((w31 _ (by omega)).trans hM.f0), (gZ _ (by omega)).trans ((w31 _ (by omega)).trans hM.f1), (gZ _ (by omega)).trans ((w31 _ (by omega)).trans hM.f2), (gZ _ (by omega)).trans ((w31 _ (by omega)).trans hM.f3), (gZ _ (by omega)).trans ((w31 _ (by omega)).trans hM.f4)⟩, ⟨I2, A2, hA.kq fun q q1 q2 => (gZ q (by omega)).trans (w31 q (by omega))⟩, ⟨I3, A3, hR3, hr3, hP.kp gZ (by omega), (gZ y (by omega)).trans hY, hp1, SH_b hp, IV_b hp, by omega, by omega, fun k hk => absurd hk (Nat.not_lt_zero k)⟩, rfl, Nat.zero_le _, by omega⟩ j2 hp (fun q q1 q2 => (gZ q (by omega)).trans (hfm q q1 q2))
  · have hfm : fm h h' y n := fun q q1 q2 => (hM.fq q q2 (Or.inl q1)).trans ((w q q1 (by omega)).trans (w7 q (by omega)))
    refine bg_istore1 rfl rfl ?_
    refine bg_aload0 rfl ?_
    refine bg_iconst rfl ?_
    refine bg_putfield rfl rfl hM.Y (by rfl) ⟨rfl, rfl⟩ (by rfl) (fun h17 f17 g17 => ?_)
    have hY : YO h17 y (upd J' 1 0) u n := f17
    have hfm : fm h h17 y n := fun q q1 q2 => (g17 q (by omega)).trans (hfm q q1 q2)
    refine bg_iload1 rfl ?_
    refine bg_if_le rfl (fun e21 => absurd (ckF_p c0) e21) (fun e21 => ?_)
    refine bg_iload1 rfl ?_
    refine bg_iret rfl rfl (by rfl) ?_
    exact hQ.2.1 r1 c0 h17 (upd J' 1 0) (hM.md hY g17 rfl) j2 hfm
  · have hfm : fm h h' y n := fun q q1 q2 => (hM.fq q q2 (Or.inl q1)).trans ((w q q1 (by omega)).trans (w7 q (by omega)))
    refine bg_istore1 rfl rfl ?_
    refine bg_aload0 rfl ?_
    refine bg_iconst rfl ?_
    refine bg_putfield rfl rfl hM.Y (by rfl) ⟨rfl, rfl⟩ (by rfl) (fun h17 f17 g17 => ?_)
    have hY : YO h17 y (upd J' 1 0) u n := f17
    have hfm : fm h h17 y n := fun q q1 q2 => (g17 q (by omega)).trans (hfm q q1 q2)
    refine bg_iload1 rfl ?_
    refine bg_if_le rfl (fun e21 => absurd (by decide) e21) (fun e21 => ?_)
    refine bg_iload1 rfl ?_
    refine bg_iret rfl rfl (by rfl) ?_
    exact hQ.2.2 r1 h17 (upd J' 1 0) (hM.md hY g17 rfl) j2 hfm
end MM
