/-! WHAT HOURS KEEP: what was sold, one by one and in all; how much was made. -/
/-- the figures' spirits are spirits -/
def FV (P : Nat → bT) (S : bS) : Prop := shT (S.2 2) 1 6 ∧ (S.2 2).length = (P 2).length ∧ (S.2 4).length ≤ 30 ∧ ∀ i, i < (S.2 4).length → ∃ g, g < (P 2).length ∧ tg (S.2 4) i 0 = nI g
def SD (S : bS) : Prop := sdL (S.2 2) 6 0 0 = S.1 6
/-- the orders to cut name spirits -/
def OV (P : Nat → bT) : Prop := ∀ o, o < (P 3).length → rG (P 3) (nI o) 0 = 15 → ∃ g, g < (P 2).length ∧ rG (P 3) (nI o) 1 = nI g
def KQ (P : Nat → bT) (S S' : bS) : Prop := S'.1 0 = S.1 0 ∧ S'.1 4 = S.1 4 ∧ S'.1 7 = S.1 7 ∧ (FV P S → FV P S' ∧ (SD S → SD S'))
theorem KQ.refl {P : Nat → bT} {S : bS} : KQ P S S := ⟨rfl, rfl, rfl, fun h => ⟨h, id⟩⟩
theorem KQ.trans {P : Nat → bT} {S S1 S2 : bS} (a : KQ P S S1) (b : KQ P S1 S2) : KQ P S S2 := ⟨b.1.trans a.1, b.2.1.trans a.2.1, b.2.2.1.trans a.2.2.1, fun h => by
  obtain ⟨x, y⟩ := a.2.2.2 h
  obtain ⟨z, w⟩ := b.2.2.2 x
  exact ⟨z, fun q => w (y q)⟩⟩
theorem KQ_it {P : Nat → bT} {f : Nat → bS → bS} {m : Nat} (hf : ∀ k S, k < m → KQ P S (f k S)) : ∀ (k : Nat) (S : bS), k ≤ m → KQ P S (itN f k S)
  | 0, _, _ => KQ.refl
  | k + 1, S, hk => (KQ_it hf k S (by omega)).trans (hf k _ (by omega))
theorem KQ_soak1 {P : Nat → bT} {S : bS} {o : Nat} : KQ P S (soak1 P o S) := by
  unfold soak1
  split
  · exact ⟨rfl, rfl, rfl, fun h => ⟨h, fun q => q⟩⟩
  · exact KQ.refl
theorem KQ_dry {P : Nat → bT} {S : bS} : KQ P S (dryF S) := ⟨rfl, rfl, rfl, fun h => ⟨h, fun q => q⟩⟩
theorem KQ_cut1 {P : Nat → bT} {S : bS} {o : Nat} (hO : OV P) (ho : o < (P 3).length) : KQ P S (cut1 P o S) := by
  unfold cut1
  split
  · rename_i hc
    split
    · exact KQ.refl
    · refine ⟨rfl, rfl, rfl, fun h => ⟨⟨h.1, h.2.1, ?_, ?_⟩, fun q => q⟩⟩
      · show (S.2 4 ++ [_]).length ≤ 30
        rw [List.length_append]
        show (S.2 4).length + 1 ≤ 30
        have := hc.2.1
        omega
      · intro i hi
        show ∃ g, g < (P 2).length ∧ tg (S.2 4 ++ [_]) i 0 = nI g
        by_cases e : i < (S.2 4).length
        · rw [tg_app e]
          exact h.2.2.2 i e
        · have e1 : i = (S.2 4).length := by
            have h3 : i < (S.2 4 ++ [_]).length := hi
            rw [List.length_append] at h3
            have : i < (S.2 4).length + 1 := h3
            omega
          subst e1
          rw [tg_new]
          exact hO o ho hc.1
  · exact KQ.refl
theorem sdL_add {t : bT} : ∀ (c i : Nat) (s x : Int32), sdL t c i (s + x) = sdL t c i s + x
  | 0, _, _, _ => rfl
  | c + 1, i, s, x => by
    show sdL t c (i + 1) (s + x + tg t i 0) = sdL t c (i + 1) (s + tg t i 0) + x
    rw [← sdL_add c (i + 1) (s + tg t i 0) x]
    congr 1
    rw [Int32.add_assoc, Int32.add_comm x, ← Int32.add_assoc]
theorem sdL_cg {t t' : bT} : ∀ (c i : Nat) (s : Int32), (∀ j, i ≤ j → j < i + c → tg t' j 0 = tg t j 0) → sdL t' c i s = sdL t c i s
  | 0, _, _, _ => rfl
  | c + 1, i, s, h => by
    show sdL t' c (i + 1) (s + tg t' i 0) = sdL t c (i + 1) (s + tg t i 0)
    rw [h i (Nat.le_refl i) (by omega)]
    exact sdL_cg c (i + 1) _ (fun j h1 h2 => h j (by omega) (by omega))
theorem sdL_up {t t' : bT} {g : Nat} {x : Int32} (h1 : tg t' g 0 = tg t g 0 + x) (h2 : ∀ j, j ≠ g → tg t' j 0 = tg t j 0) : ∀ (c i : Nat) (s : Int32), i ≤ g → g < i + c → sdL t' c i s = sdL t c i s + x
  | 0, i, s, a, b => by omega
  | c + 1, i, s, a, b => by
    show sdL t' c (i + 1) (s + tg t' i 0) = sdL t c (i + 1) (s + tg t i 0) + x
    by_cases e : i = g
    · subst e
      rw [h1, sdL_cg c (i + 1) _ (fun j h3 _ => h2 j (by omega)), ← Int32.add_assoc]
      exact sdL_add c (i + 1) _ x
    · rw [h2 i e]
      exact sdL_up h1 h2 c (i + 1) _ (by omega) (by omega)
theorem rE_rows {t : bT} {x : Int32} {i : Nat} (h : i < (rE t x).length) : (rE t x).length ≤ t.length ∧ ∃ j, j < t.length ∧ ∀ c, tg (rE t x) i c = tg t j c := by
  unfold rE at h ⊢
  split
  · rename_i h2
    rw [if_pos h2] at h
    exact ⟨Nat.le_refl _, i, h, fun _ => rfl⟩
  · rename_i h2
    rw [if_neg h2] at h
    have hl : (t.eraseIdx x.toNatClampNeg).length ≤ t.length := List.length_eraseIdx_le _ _
    refine ⟨hl, ?_⟩
    by_cases e : x.toNatClampNeg < t.length
    · rw [List.length_eraseIdx_of_lt e] at h
      exact ⟨if i < x.toNatClampNeg then i else i + 1, by split <;> omega, fun c => tg_erase⟩
    · have e2 : t.eraseIdx x.toNatClampNeg = t := List.eraseIdx_of_length_le (by omega)
      rw [e2] at h ⊢
      exact ⟨i, h, fun _ => rfl⟩
theorem rE_le {t : bT} {x : Int32} : (rE t x).length ≤ t.length := by
  unfold rE
  split
  · exact Nat.le_refl _
  · exact List.length_eraseIdx_le _ _
theorem KQ_sell1 {P : Nat → bT} {S : bS} (h0 : 0 < (S.2 4).length) : KQ P S (sell1 P S) := by
  refine ⟨rfl, rfl, rfl, fun h => ?_⟩
  have hd : dear P (S.2 4) < (S.2 4).length := dear_lt h0
  have hl := h.2.2.1
  obtain ⟨g, hg, e⟩ := h.2.2.2 _ hd
  have hg6 : (P 2).length ≤ 6 := by rw [← h.2.1]; exact h.1.1
  have e1 : rG (S.2 4) (nI (dear P (S.2 4))) 0 = nI g := (rG_nI (by omega)).trans e
  refine ⟨⟨shT_rS h.1, rS_len.trans h.2.1, Nat.le_trans rE_le hl, fun i hi => ?_⟩, fun q => ?_⟩
  · obtain ⟨_, j, hj, e3⟩ := rE_rows hi
    show ∃ g, g < (P 2).length ∧ tg (rE (S.2 4) _) i 0 = nI g
    rw [e3 0]
    exact h.2.2.2 j hj
  · show sdL (rS (S.2 2) (rG (S.2 4) (nI (dear P (S.2 4))) 0) 0 (rG (S.2 2) (rG (S.2 4) (nI (dear P (S.2 4))) 0) 0 + 1)) 6 0 0 = S.1 6 + 1
    rw [e1, rS_nI (by omega), rG_nI (by omega), ← q]
    have hg2 : g < (S.2 2).length := by rw [h.2.1]; exact hg
    refine sdL_up (g := g) (x := 1) ?_ (fun j hj => ?_) 6 0 0 (Nat.zero_le g) (by omega)
    · rw [tg_tS h.1.2 hg2 (by decide), if_pos ⟨rfl, rfl⟩]
    · rw [tg_tS h.1.2 hg2 (by decide), if_neg (fun z => hj z.1)]
theorem KQ_sellL {P : Nat → bT} : ∀ (c : Nat) (S : bS), KQ P S (sellL P c S)
  | 0, _ => KQ.refl
  | c + 1, S => by
    show KQ P S (if (S.2 4).length = 0 then S else sellL P c (sell1 P S))
    split
    · exact KQ.refl
    · rename_i h
      exact (KQ_sell1 (by omega)).trans (KQ_sellL c _)
theorem KQ_end {P : Nat → bT} {S : bS} : KQ P S (endF P S) := by
  unfold endF
  split
  · exact KQ_sellL _ _
  · exact KQ.refl
/-- beating makes sheets -/
def BQ (P : Nat → bT) (S S' : bS) : Prop := S'.1 0 = S.1 0 ∧ S'.1 7 = S.1 7 ∧ (FV P S → FV P S' ∧ (SD S → SD S')) ∧ (S.2 3).length ≤ (S'.2 3).length ∧ ((S.2 3).length ≤ 30 → (S'.2 3).length ≤ 30) ∧ ∀ k, S.1 4 = nI k → S'.1 4 = nI (k + ((S'.2 3).length - (S.2 3).length))
theorem BQ.refl {P : Nat → bT} {S : bS} : BQ P S S := ⟨rfl, rfl, fun h => ⟨h, id⟩, Nat.le_refl _, id, fun k h => by rw [Nat.sub_self]; exact h⟩
theorem BQ.trans {P : Nat → bT} {S S1 S2 : bS} (a : BQ P S S1) (b : BQ P S1 S2) : BQ P S S2 := by
  obtain ⟨a1, a2, a3, a4, a5, a6⟩ := a
  obtain ⟨b1, b2, b3, b4, b5, b6⟩ := b
  refine ⟨b1.trans a1, b2.trans a2, fun h => ?_, Nat.le_trans a4 b4, fun h => b5 (a5 h), fun k h => ?_⟩
  · obtain ⟨x, y⟩ := a3 h
    obtain ⟨z, w⟩ := b3 x
    exact ⟨z, fun q => w (y q)⟩
  · rw [b6 _ (a6 k h)]
    congr 1
    omega
theorem BQ_sh {P : Nat → bT} {S : bS} {b th : Int32} (hl : (S.2 3).length < 30) : BQ P S (shF b th S) := by
  have e : ((shF b th S).2 3).length = (S.2 3).length + 1 := by
    show (S.2 3 ++ [_]).length = _
    rw [List.length_append]
    rfl
  refine ⟨rfl, rfl, fun h => ⟨h, fun q => q⟩, by omega, fun _ => by omega, fun k h => ?_⟩
  rw [e, Nat.add_sub_cancel_left]
  show S.1 4 + 1 = _
  rw [h, nI_1]
theorem BQ_mk {P : Nat → bT} {b th : Int32} : ∀ (c : Nat) (q : Int32 × bS), (q.2.2 3).length + c ≤ 30 → BQ P q.2 (mkL b th c q).2
  | 0, _, _ => BQ.refl
  | c + 1, q, h => by
    show BQ P q.2 (if q.1 < 10 then q else mkL b th c (q.1 - 10, shF b th q.2)).2
    split
    · exact BQ.refl
    · have e : ((shF b th q.2).2 3).length = (q.2.2 3).length + 1 := by
        show (q.2.2 3 ++ [_]).length = _
        rw [List.length_append]
        rfl
      exact (BQ_sh (by omega)).trans (BQ_mk c (q.1 - 10, shF b th q.2) (by show ((shF b th q.2).2 3).length + c ≤ 30; omega))
theorem BQ_beat {P : Nat → bT} {S : bS} {bs : bT} {b : Int32} (hl : (S.2 3).length ≤ 30) : BQ P S (beatF P bs b S) := by
  unfold beatF
  split
  · exact BQ.refl
  · have z := BQ_mk (P := P) (b := b) (th := iMax 1 (rG (P 0) b 1 + 3 - nI (tC bs 0 b))) (30 - (S.2 3).length) (rG (rS (S.2 0) b 1 (rG (S.2 0) b 1 - iMin (rG (S.2 0) b 1) (qO (fcF P S bs b) (rG (P 0) b 1)))) b 2 + iMin (rG (S.2 0) b 1) (qO (fcF P S bs b) (rG (P 0) b 1)), (S.1, uT S.2 0 (rS (S.2 0) b 1 (rG (S.2 0) b 1 - iMin (rG (S.2 0) b 1) (qO (fcF P S bs b) (rG (P 0) b 1)))))) (by show (S.2 3).length + _ ≤ 30; omega)
    exact z
theorem BQ_it {P : Nat → bT} {f : Nat → bS → bS} (hf : ∀ k S, (S.2 3).length ≤ 30 → BQ P S (f k S)) : ∀ (k : Nat) (S : bS), (S.2 3).length ≤ 30 → BQ P S (itN f k S)
  | 0, _, _ => BQ.refl
  | k + 1, S, h => (BQ_it hf k S h).trans (hf k _ ((BQ_it hf k S h).2.2.2.2.1 h))
/-- how many hours went by, how much was made -/
def BD (H : Nat) (S : bS) : Prop := ∃ m k, S.1 0 = nI m ∧ S.1 4 = nI k ∧ m ≤ H ∧ k ≤ 30 * H
theorem SH_3l {P : Nat → bT} {S : bS} (h : SH P S) : (S.2 3).length ≤ 30 := h.2.1.2.2.2.1.1
theorem cut_3l {P : Nat → bT} {S : bS} {o : Nat} : ((cut1 P o S).2 3).length ≤ (S.2 3).length := by
  unfold cut1
  split
  · split
    · exact Nat.le_refl _
    · exact rE_le
  · exact Nat.le_refl _
theorem cutN_3l {P : Nat → bT} {S : bS} : ∀ (k : Nat), ((itN (cut1 P) k S).2 3).length ≤ (S.2 3).length
  | 0 => Nat.le_refl _
  | k + 1 => Nat.le_trans cut_3l (cutN_3l k)
theorem sellL_3 {P : Nat → bT} : ∀ (c : Nat) (S : bS), (sellL P c S).2 3 = S.2 3
  | 0, _ => rfl
  | c + 1, S => by
    show (if (S.2 4).length = 0 then S else sellL P c (sell1 P S)).2 3 = _
    split
    · rfl
    · exact sellL_3 c _
theorem end_3 {P : Nat → bT} {S : bS} : (endF P S).2 3 = S.2 3 := by
  unfold endF
  split
  · exact sellL_3 _ _
  · rfl
theorem soakN_3 {P : Nat → bT} {S : bS} : ∀ (k : Nat), (itN (soak1 P) k S).2 3 = S.2 3
  | 0 => rfl
  | k + 1 => by
    refine Eq.trans ?_ (soakN_3 (P := P) (S := S) k)
    show (soak1 P k (itN (soak1 P) k S)).2 3 = (itN (soak1 P) k S).2 3
    generalize itN (soak1 P) k S = S1
    unfold soak1
    split <;> rfl
/-- an hour -/
theorem hour_k {P : Nat → bT} {S : bS} {H : Nat} (hO : OV P) (h3 : (S.2 3).length ≤ 30) (hF : FV P S) (hS : SD S) (hB : BD H S) (hH : H < 10000000) : FV P (hourF P S) ∧ SD (hourF P S) ∧ BD (H + 1) (hourF P S) ∧ (hourF P S).1 7 = S.1 7 ∧ ((hourF P S).2 3).length ≤ 30 := by
  have k1 : KQ P S (soakF P S) := KQ_it (m := (P 3).length) (fun k S _ => KQ_soak1) _ S (Nat.le_refl _)
  have l1 : ((soakF P S).2 3).length ≤ 30 := by rw [show (soakF P S).2 3 = S.2 3 from soakN_3 _]; exact h3
  have k2 : BQ P (soakF P S) (beatA P (soakF P S)) := BQ_it (fun k S h => BQ_beat h) _ _ l1
  have l2 := k2.2.2.2.2.1 l1
  have k3 : KQ P (beatA P (soakF P S)) (endF P (cutF P (dryF (beatA P (soakF P S))))) := (KQ_dry.trans (KQ_it (m := (P 3).length) (fun k S hk => KQ_cut1 hO hk) _ _ (Nat.le_refl _))).trans KQ_end
  have l3 : ((endF P (cutF P (dryF (beatA P (soakF P S))))).2 3).length ≤ 30 := by
    rw [end_3]
    refine Nat.le_trans (cutN_3l _) ?_
    refine Nat.le_trans (Nat.le_of_eq ?_) l2
    exact dryN_len
  obtain ⟨f1, s1⟩ := k1.2.2.2 hF
  obtain ⟨f2, s2⟩ := k2.2.2.1 f1
  obtain ⟨f3, s3⟩ := k3.2.2.2 f2
  refine ⟨f3, s3 (s2 (s1 hS)), ?_, ?_, l3⟩
  · obtain ⟨m, k, hm, hk, m1, m2⟩ := hB
    refine ⟨m + 1, k + (((beatA P (soakF P S)).2 3).length - ((soakF P S).2 3).length), ?_, ?_, by omega, by omega⟩
    · show (endF P (cutF P (dryF (beatA P (soakF P S))))).1 0 + 1 = _
      rw [k3.1, k2.1, k1.1, hm, nI_1]
    · show (endF P (cutF P (dryF (beatA P (soakF P S))))).1 4 = _
      rw [k3.2.1]
      exact k2.2.2.2.2.2 k (k1.2.1.trans hk)
  · show (endF P (cutF P (dryF (beatA P (soakF P S))))).1 7 = _
    rw [k3.2.2.1, k2.2.1, k1.2.2.1]
/-- what holds between the calls -/
def GI (P : Nat → bT) (H : Nat) (S : bS) : Prop := FV P S ∧ SD S ∧ BD H S ∧ (S.2 3).length ≤ 30
theorem GI_go {P : Nat → bT} {S : bS} {H : Nat} (hO : OV P) (h : GI P H S) : ∀ (N : Nat), H + N < 10000000 → GI P (H + N) (goF P N S) ∧ (goF P N S).1 7 = S.1 7
  | 0, _ => ⟨h, rfl⟩
  | N + 1, hN => by
    obtain ⟨⟨a, b, c, e⟩, z⟩ := GI_go hO h N (by omega)
    obtain ⟨a2, b2, c2, e2, f2⟩ := hour_k hO e a b c (by omega)
    exact ⟨⟨a2, b2, c2, f2⟩, e2.trans z⟩
theorem GI_m {P : Nat → bT} {S : bS} {H : Nat} (h : GI P H S) (hH : H < 10000000) : ∃ k, S.1 4 = nI k ∧ k < 2 ^ 30 := by
  obtain ⟨m, k, _, hk, _, h2⟩ := h.2.2.1
  exact ⟨k, hk, by omega⟩
