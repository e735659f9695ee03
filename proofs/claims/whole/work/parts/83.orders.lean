/-! THE REFERENCE: what the component's lines of orders come to. -/
def rO3 (T0 : bT) (r : List Int32) : bT := if T0.length < 24 then T0 ++ [r] else T0
/-- a state behind a part of a line of an order: token t, its row r, the code cd -/
def NS (Pt : Nat → bT) (t : Nat) (r : List Int32) (cd : bT) : bP := (t, uT (uT Pt 4 cd) 3 (rO3 (Pt 3) r), adI (Pt 3) 24)
theorem rO3_st {T0 : bT} {r : List Int32} {c : Nat} {v : Int32} (hl : T0.length < 2 ^ 31) : rS (rO3 T0 r) (adI T0 24) c v = rO3 T0 (r.set c v) := by
  unfold rO3 adI
  by_cases h : T0.length < 24
  · rw [if_pos h, if_pos h, if_pos h]
    exact rS_last hl
  · rw [if_neg h, if_neg h, if_neg h]
    exact if_pos (by decide)
theorem NS_st {Pt : Nat → bT} {t c : Nat} {r : List Int32} {cd : bT} {v : Int32} (hl : (Pt 3).length < 2 ^ 31) : stO c v (NS Pt t r cd) = NS Pt t (r.set c v) cd := by
  show (t, uT (uT (uT Pt 4 cd) 3 (rO3 (Pt 3) r)) 3 (rS (rO3 (Pt 3) r) (adI (Pt 3) 24) c v), adI (Pt 3) 24) = _
  rw [uT_uT, rO3_st hl]
  rfl
theorem uT_cm {P : Nat → bT} {a b : bT} : uT (uT P 3 a) 4 b = uT (uT P 4 b) 3 a := by
  funext k
  unfold uT
  by_cases h : k = 4
  · subst h
    rfl
  · rw [if_neg h, if_neg h]
theorem NS_pp {Kd : Nat → Int32} {rows : bT} {Pt : Nat → bT} {t tag : Nat} {r : List Int32} {cd : bT} : ppS Kd rows tag (NS Pt t r cd) = ((pp Kd 3300 tag 0 t).1, NS Pt (pp Kd 3300 tag 0 t).2.1 r (cd ++ (pp Kd 3300 tag 0 t).2.2.map (rwF rows))) := by
  show ((pp Kd 3300 tag 0 t).1, ((pp Kd 3300 tag 0 t).2.1, uT (uT (uT Pt 4 cd) 3 (rO3 (Pt 3) r)) 4 (cd ++ (pp Kd 3300 tag 0 t).2.2.map (rwF rows)), adI (Pt 3) 24)) = _
  rw [uT_cm, uT_uT]
  rfl
theorem NS_en {Pt : Nat → bT} {t c : Nat} {r : List Int32} {cd : bT} {b : Bool} (hl : (Pt 3).length < 2 ^ 31) : en c (b, NS Pt t r cd) = (b, NS Pt t (r.set c (nI cd.length)) cd) := by
  show (b, stO c (nI cd.length) (NS Pt t r cd)) = _
  rw [NS_st hl]
theorem NS_ad {Pt : Nat → bT} {t : Nat} {od : Int32} : adO (t, Pt, od) = NS Pt t (List.replicate 7 0) (Pt 4) := by
  unfold NS
  rw [uT_id]
  rfl
section LN
variable {Kd : Nat → Int32} {rows : bT} {Pt : Nat → bT} {t : Nat} {od : Int32}
theorem all_11 (h0 : Kd t = 11) : lnAll Kd rows (t, Pt, od) = sqS (lnSoak Kd rows (t, Pt, od)) fun s => lnWhen Kd rows s := by
  show (if Kd t = 1 then _ else if Kd t = 4 then _ else if Kd t = 7 then _ else if Kd t = 11 then _ else _) = _
  rw [if_neg (by rw [h0]; decide), if_neg (by rw [h0]; decide), if_neg (by rw [h0]; decide), if_pos h0]
theorem all_13 (h0 : Kd t = 13) : lnAll Kd rows (t, Pt, od) = sqS (lnPair Kd rows 13 14 (t, Pt, od)) fun s => lnWhen Kd rows s := by
  show (if Kd t = 1 then _ else if Kd t = 4 then _ else if Kd t = 7 then _ else if Kd t = 11 then _ else if Kd t = 13 then _ else _) = _
  rw [if_neg (by rw [h0]; decide), if_neg (by rw [h0]; decide), if_neg (by rw [h0]; decide), if_neg (by rw [h0]; decide), if_pos h0]
theorem all_15 (h0 : Kd t = 15) : lnAll Kd rows (t, Pt, od) = sqS (lnPair Kd rows 15 16 (t, Pt, od)) fun s => lnWhen Kd rows s := by
  show (if Kd t = 1 then _ else if Kd t = 4 then _ else if Kd t = 7 then _ else if Kd t = 11 then _ else if Kd t = 13 then _ else if Kd t = 15 then _ else _) = _
  rw [if_neg (by rw [h0]; decide), if_neg (by rw [h0]; decide), if_neg (by rw [h0]; decide), if_neg (by rw [h0]; decide), if_neg (by rw [h0]; decide), if_pos h0]
theorem soak_0 (hl : (Pt 3).length < 2 ^ 31) (h0 : Kd t = 11) : lnAll Kd rows (t, Pt, od) = sqS (tkS Kd 30 (NS Pt (t + 1) [11, 0, 0, 0, 0, 0, 0] (Pt 4))) fun s => sqS (tkS Kd 12 (stO 1 (rG rows (nI (s.1 - 1)) 1) s)) fun s => sqS (en 4 (ppS Kd rows 3 (stO 3 (nI (s.2.1 4).length) s))) fun s => lnWhen Kd rows s := by
  rw [all_11 h0]
  unfold lnSoak tmS
  simp only [sqS_sqS, sqS_1]
  rw [NS_ad, NS_st hl]
  exact tk_t (s := NS Pt t _ (Pt 4)) h0
theorem soak_1 (hl : (Pt 3).length < 2 ^ 31) (h0 : Kd t = 11) (h1 : ¬ Kd (t + 1) = 30) : (lnAll Kd rows (t, Pt, od)).1 = false ∧ (lnAll Kd rows (t, Pt, od)).2.1 = t + 1 := by
  rw [soak_0 hl h0, tk_f (s := NS Pt (t + 1) _ _) h1]
  exact ⟨rfl, rfl⟩
theorem soak_x (hl : (Pt 3).length < 2 ^ 31) (h0 : Kd t = 11) (h1 : Kd (t + 1) = 30) : lnAll Kd rows (t, Pt, od) = sqS (tkS Kd 12 (NS Pt (t + 2) [11, rG rows (nI (t + 1)) 1, 0, 0, 0, 0, 0] (Pt 4))) fun s => sqS (en 4 (ppS Kd rows 3 (stO 3 (nI (s.2.1 4).length) s))) fun s => lnWhen Kd rows s := by
  rw [soak_0 hl h0, tk_t (s := NS Pt (t + 1) _ _) h1]
  have e : stO 1 (rG rows (nI (t + 1)) 1) (NS Pt (t + 2) [11, 0, 0, 0, 0, 0, 0] (Pt 4)) = NS Pt (t + 2) [11, rG rows (nI (t + 1)) 1, 0, 0, 0, 0, 0] (Pt 4) := NS_st hl
  rw [← e]
  rfl
theorem soak_2 (hl : (Pt 3).length < 2 ^ 31) (h0 : Kd t = 11) (h1 : Kd (t + 1) = 30) (h2 : ¬ Kd (t + 2) = 12) : (lnAll Kd rows (t, Pt, od)).1 = false ∧ (lnAll Kd rows (t, Pt, od)).2.1 = t + 2 := by
  rw [soak_x hl h0 h1, tk_f (s := NS Pt (t + 2) _ _) h2]
  exact ⟨rfl, rfl⟩
theorem soak_y (hl : (Pt 3).length < 2 ^ 31) (h0 : Kd t = 11) (h1 : Kd (t + 1) = 30) (h2 : Kd (t + 2) = 12) : lnAll Kd rows (t, Pt, od) = sqS ((pp Kd 3300 3 0 (t + 3)).1, NS Pt (pp Kd 3300 3 0 (t + 3)).2.1 [11, rG rows (nI (t + 1)) 1, 0, nI (Pt 4).length, nI (Pt 4 ++ (pp Kd 3300 3 0 (t + 3)).2.2.map (rwF rows)).length, 0, 0] (Pt 4 ++ (pp Kd 3300 3 0 (t + 3)).2.2.map (rwF rows))) fun s => lnWhen Kd rows s := by
  rw [soak_x hl h0 h1, tk_t (s := NS Pt (t + 2) _ _) h2]
  have e : stO 3 (nI (Pt 4).length) (NS Pt (t + 3) [11, rG rows (nI (t + 1)) 1, 0, 0, 0, 0, 0] (Pt 4)) = NS Pt (t + 3) [11, rG rows (nI (t + 1)) 1, 0, nI (Pt 4).length, 0, 0, 0] (Pt 4) := NS_st hl
  have e2 : en 4 (ppS Kd rows 3 (NS Pt (t + 3) [11, rG rows (nI (t + 1)) 1, 0, nI (Pt 4).length, 0, 0, 0] (Pt 4))) = ((pp Kd 3300 3 0 (t + 3)).1, NS Pt (pp Kd 3300 3 0 (t + 3)).2.1 [11, rG rows (nI (t + 1)) 1, 0, nI (Pt 4).length, nI (Pt 4 ++ (pp Kd 3300 3 0 (t + 3)).2.2.map (rwF rows)).length, 0, 0] (Pt 4 ++ (pp Kd 3300 3 0 (t + 3)).2.2.map (rwF rows))) := by
    rw [NS_pp, NS_en hl]
    rfl
  rw [← e2, ← e]
  rfl
theorem pair_0 {a l : Int32} (ha : lnAll Kd rows (t, Pt, od) = sqS (lnPair Kd rows a l (t, Pt, od)) fun s => lnWhen Kd rows s) (hl : (Pt 3).length < 2 ^ 31) (h0 : Kd t = a) : lnAll Kd rows (t, Pt, od) = sqS (tkS Kd 30 (NS Pt (t + 1) [a, 0, 0, 0, 0, 0, 0] (Pt 4))) fun s => sqS (tkS Kd l (stO 1 (rG rows (nI (s.1 - 1)) 1) s)) fun s => sqS (tkS Kd 30 s) fun s => lnWhen Kd rows (stO 2 (rG rows (nI (s.1 - 1)) 1) s) := by
  rw [ha]
  unfold lnPair tmS
  simp only [sqS_sqS, sqS_1]
  rw [NS_ad, NS_st hl]
  exact tk_t (s := NS Pt t _ (Pt 4)) h0
theorem pair_1 {a l : Int32} (ha : lnAll Kd rows (t, Pt, od) = sqS (lnPair Kd rows a l (t, Pt, od)) fun s => lnWhen Kd rows s) (hl : (Pt 3).length < 2 ^ 31) (h0 : Kd t = a) (h1 : ¬ Kd (t + 1) = 30) : (lnAll Kd rows (t, Pt, od)).1 = false ∧ (lnAll Kd rows (t, Pt, od)).2.1 = t + 1 := by
  rw [pair_0 ha hl h0, tk_f (s := NS Pt (t + 1) _ _) h1]
  exact ⟨rfl, rfl⟩
theorem pair_x {a l : Int32} (ha : lnAll Kd rows (t, Pt, od) = sqS (lnPair Kd rows a l (t, Pt, od)) fun s => lnWhen Kd rows s) (hl : (Pt 3).length < 2 ^ 31) (h0 : Kd t = a) (h1 : Kd (t + 1) = 30) : lnAll Kd rows (t, Pt, od) = sqS (tkS Kd l (NS Pt (t + 2) [a, rG rows (nI (t + 1)) 1, 0, 0, 0, 0, 0] (Pt 4))) fun s => sqS (tkS Kd 30 s) fun s => lnWhen Kd rows (stO 2 (rG rows (nI (s.1 - 1)) 1) s) := by
  rw [pair_0 ha hl h0, tk_t (s := NS Pt (t + 1) _ _) h1]
  have e : stO 1 (rG rows (nI (t + 1)) 1) (NS Pt (t + 2) [a, 0, 0, 0, 0, 0, 0] (Pt 4)) = NS Pt (t + 2) [a, rG rows (nI (t + 1)) 1, 0, 0, 0, 0, 0] (Pt 4) := NS_st hl
  rw [← e]
  rfl
theorem pair_2 {a l : Int32} (ha : lnAll Kd rows (t, Pt, od) = sqS (lnPair Kd rows a l (t, Pt, od)) fun s => lnWhen Kd rows s) (hl : (Pt 3).length < 2 ^ 31) (h0 : Kd t = a) (h1 : Kd (t + 1) = 30) (h2 : ¬ Kd (t + 2) = l) : (lnAll Kd rows (t, Pt, od)).1 = false ∧ (lnAll Kd rows (t, Pt, od)).2.1 = t + 2 := by
  rw [pair_x ha hl h0 h1, tk_f (s := NS Pt (t + 2) _ _) h2]
  exact ⟨rfl, rfl⟩
theorem pair_y {a l : Int32} (ha : lnAll Kd rows (t, Pt, od) = sqS (lnPair Kd rows a l (t, Pt, od)) fun s => lnWhen Kd rows s) (hl : (Pt 3).length < 2 ^ 31) (h0 : Kd t = a) (h1 : Kd (t + 1) = 30) (h2 : Kd (t + 2) = l) : lnAll Kd rows (t, Pt, od) = sqS (tkS Kd 30 (NS Pt (t + 3) [a, rG rows (nI (t + 1)) 1, 0, 0, 0, 0, 0] (Pt 4))) fun s => lnWhen Kd rows (stO 2 (rG rows (nI (s.1 - 1)) 1) s) := by
  rw [pair_x ha hl h0 h1, tk_t (s := NS Pt (t + 2) _ _) h2]
  rfl
theorem pair_3 {a l : Int32} (ha : lnAll Kd rows (t, Pt, od) = sqS (lnPair Kd rows a l (t, Pt, od)) fun s => lnWhen Kd rows s) (hl : (Pt 3).length < 2 ^ 31) (h0 : Kd t = a) (h1 : Kd (t + 1) = 30) (h2 : Kd (t + 2) = l) (h3 : ¬ Kd (t + 3) = 30) : (lnAll Kd rows (t, Pt, od)).1 = false ∧ (lnAll Kd rows (t, Pt, od)).2.1 = t + 3 := by
  rw [pair_y ha hl h0 h1 h2, tk_f (s := NS Pt (t + 3) _ _) h3]
  exact ⟨rfl, rfl⟩
theorem pair_4 {a l : Int32} (ha : lnAll Kd rows (t, Pt, od) = sqS (lnPair Kd rows a l (t, Pt, od)) fun s => lnWhen Kd rows s) (hl : (Pt 3).length < 2 ^ 31) (h0 : Kd t = a) (h1 : Kd (t + 1) = 30) (h2 : Kd (t + 2) = l) (h3 : Kd (t + 3) = 30) : lnAll Kd rows (t, Pt, od) = lnWhen Kd rows (NS Pt (t + 4) [a, rG rows (nI (t + 1)) 1, rG rows (nI (t + 3)) 1, 0, 0, 0, 0] (Pt 4)) := by
  rw [pair_y ha hl h0 h1 h2, tk_t (s := NS Pt (t + 3) _ _) h3]
  have e : stO 2 (rG rows (nI (t + 3)) 1) (NS Pt (t + 4) [a, rG rows (nI (t + 1)) 1, 0, 0, 0, 0, 0] (Pt 4)) = NS Pt (t + 4) [a, rG rows (nI (t + 1)) 1, rG rows (nI (t + 3)) 1, 0, 0, 0, 0] (Pt 4) := NS_st hl
  rw [← e]
  rfl
theorem when_1 {k x z a b : Int32} {cd : bT} (hl : (Pt 3).length < 2 ^ 31) (h : ¬ Kd t = 17) : lnWhen Kd rows (NS Pt t [k, x, z, a, b, 0, 0] cd) = (true, NS Pt t [k, x, z, a, b, nI cd.length, nI cd.length] cd) := by
  have e : stO 5 (nI cd.length) (NS Pt t [k, x, z, a, b, 0, 0] cd) = NS Pt t [k, x, z, a, b, nI cd.length, 0] cd := NS_st hl
  show en 6 (if Kd t = 17 then _ else (true, stO 5 (nI cd.length) (NS Pt t [k, x, z, a, b, 0, 0] cd))) = _
  rw [if_neg h, e, NS_en hl]
  rfl
theorem when_2 {k x z a b : Int32} {cd : bT} (hl : (Pt 3).length < 2 ^ 31) (h : Kd t = 17) : lnWhen Kd rows (NS Pt t [k, x, z, a, b, 0, 0] cd) = ((pp Kd 3300 8 0 (t + 1)).1, NS Pt (pp Kd 3300 8 0 (t + 1)).2.1 [k, x, z, a, b, nI cd.length, nI (cd ++ (pp Kd 3300 8 0 (t + 1)).2.2.map (rwF rows)).length] (cd ++ (pp Kd 3300 8 0 (t + 1)).2.2.map (rwF rows))) := by
  have e : stO 5 (nI cd.length) (NS Pt (t + 1) [k, x, z, a, b, 0, 0] cd) = NS Pt (t + 1) [k, x, z, a, b, nI cd.length, 0] cd := NS_st hl
  have e2 : (t + 1, (stO 5 (nI cd.length) (NS Pt t [k, x, z, a, b, 0, 0] cd)).2) = NS Pt (t + 1) [k, x, z, a, b, nI cd.length, 0] cd := by
    rw [← e]
    rfl
  show en 6 (if Kd t = 17 then ppS Kd rows 8 (t + 1, (stO 5 (nI cd.length) (NS Pt t [k, x, z, a, b, 0, 0] cd)).2) else _) = _
  rw [if_pos h, e2, NS_pp, NS_en hl]
  rfl
end LN
theorem pos_app {it x : List bIt} {a : Nat} (h : a ≤ it.length) : pos (it ++ x) a = pos it a := by
  unfold pos
  rw [List.take_append_of_le_length h]
theorem pos_len {it : List bIt} : pos it it.length = lnL it := by
  unfold pos
  rw [List.take_length]
theorem sgT_app {Kd : Nat → Int32} {tag : Nat} {it x : List bIt} {a b : Nat} (h : sgT Kd tag it a b) : sgT Kd tag (it ++ x) a b := by
  obtain ⟨h1, h2, h3⟩ := h
  refine ⟨h1, by rw [List.length_append]; omega, ?_⟩
  rw [List.take_append_of_le_length h2]
  exact h3
theorem sgT_new {Kd : Nat → Int32} {tag : Nat} {it x : List bIt} (h : okT Kd tag 0 x) : sgT Kd tag (it ++ x) it.length (it ++ x).length := by
  refine ⟨by rw [List.length_append]; omega, Nat.le_refl _, ?_⟩
  rw [List.take_length, List.drop_left]
  exact h
theorem LRo_app {Kd : Nat → Int32} {it x : List bIt} {W W' : rW} {t3 t3' : bT} {o : Nat} (h : LRo Kd it W t3 o) (hW : W'.2.1 o = W.2.1 o ∧ W'.2.2.1 o = W.2.2.1 o ∧ W'.2.2.2 o = W.2.2.2 o) (ht : ∀ c, tg t3' o c = tg t3 o c) : LRo Kd (it ++ x) W' t3' o := by
  obtain ⟨h1, ⟨a, b, e1, e2, e3, e4, e5, e6, e7⟩, h3⟩ := h
  obtain ⟨w1, w2, w3⟩ := hW
  refine ⟨fun z => ?_, ⟨a, b, (ht 5).trans e1, (ht 6).trans e2, ?_, ?_, e5, by rw [List.length_append]; omega, e7.imp id sgT_app⟩, ?_⟩
  · rw [ht] at z
    obtain ⟨a, b, g1, g2, g3, g4, g5⟩ := h1 z
    refine ⟨a, b, (ht 3).trans g1, (ht 4).trans g2, ?_, ?_, sgT_app g5⟩
    · rw [w1, g3, pos_app (by have := g5.1; have := g5.2.1; omega)]
    · rw [w2, g4, pos_app g5.2.1]
  · rw [w2, e3, pos_app (by omega)]
  · rw [w3, e4, pos_app e6]
  · rw [ht]
    exact h3
/-- an order more -/
theorem JB_app {Kd : Nat → Int32} {a b : List bIt} (ha : JB Kd a) (hb : JB Kd b) : JB Kd (a ++ b) := fun q hq => (List.mem_append.mp hq).elim (ha q) (hb q)
theorem JB_w {Kd : Nat → Int32} : ∀ (l : List bIt) (k k' : Nat), wI Kd l k k' → JB Kd l
  | [], _, _, _ => fun q hq => absurd hq List.not_mem_nil
  | q :: l, k, k', h => by
    rcases h with ⟨_, _, ⟨i, e1, e2⟩, h⟩ | ⟨h0, _, _, h⟩ | ⟨h0, _, h⟩
    · intro q' hq j hj hn
      rcases List.mem_cons.mp hq with rfl | hq
      · rw [e1] at hj
        injection hj with hj
        subst hj
        rcases e2 with ⟨e3, _⟩ | ⟨_, e3, _⟩
        · rcases hn with hn | hn | hn | hn | hn <;> rw [hn] at e3 <;> exact absurd e3 (by decide)
        · exact e3
      · exact JB_w l _ _ h q' hq j hj hn
    · intro q' hq j hj hn
      rcases List.mem_cons.mp hq with rfl | hq
      · rcases hn with hn | hn | hn | hn | hn <;> rw [hn] at h0 <;> exact absurd h0 (by decide)
      · exact JB_w l _ _ h q' hq j hj hn
    · intro q' hq j hj hn
      rcases List.mem_cons.mp hq with rfl | hq
      · rcases hn with hn | hn | hn | hn | hn <;> rw [hn] at h0 <;> exact absurd h0 (by decide)
      · exact JB_w l _ _ h q' hq j hj hn
theorem JB_ok {Kd : Nat → Int32} {tag : Nat} {l : List bIt} (h : okT Kd tag 0 l) (ht : tag = 3 ∨ tag = 8) : JB Kd l := by
  have hd : ndT tag ≤ 5 := by rcases ht with rfl | rfl <;> decide
  have nr : ¬ rsT tag := by rcases ht with rfl | rfl <;> decide
  exact JB_w l _ _ (h.1 0 (by omega) (fun z => absurd z nr))
theorem LR_new {Kd : Nat → Int32} {rows : bT} {Pt : Nat → bT} {t t2 : Nat} {od k x z a3 b4 : Int32} {it i1 i2 : List bIt} {W W' : rW} (hL : LR Kd rows (t, Pt, od) it W) (ht : t < t2) (hk : k = 11 ∨ k = 13 ∨ k = 15)
    (hW1 : W'.1 = W.1 + 1) (hWa : W'.2.1 = upd W.2.1 (min W.1 24) (nI (lnL it))) (hWb : W'.2.2.1 = upd W.2.2.1 (min W.1 24) (nI (lnL (it ++ i1)))) (hWc : W'.2.2.2 = upd W.2.2.2 (min W.1 24) (nI (lnL (it ++ i1 ++ i2))))
    (h1 : k = 11 → a3 = nI it.length ∧ b4 = nI (it ++ i1).length ∧ okT Kd 3 0 i1) (h2 : i2 = [] ∨ okT Kd 8 0 i2) (h3 : k = 11 ∨ i1 = []) :
    LR Kd rows (NS Pt t2 [k, x, z, a3, b4, nI (it ++ i1).length, nI (it ++ i1 ++ i2).length] ((it ++ i1 ++ i2).map (rwF rows))) (it ++ i1 ++ i2) W' := by
  obtain ⟨g1, g2, g3, g4, g5, g6⟩ := hL
  have g2 : (Pt 3).length = min W.1 24 := g2
  refine ⟨rfl, ?_, ?_, ?_, ?_, JB_app (JB_app g6 ?_) ?_⟩
  rotate_left 4
  · rcases h3 with h3 | h3
    · exact JB_ok (h1 h3).2.2 (Or.inl rfl)
    · rw [h3]
      exact fun q hq => absurd hq List.not_mem_nil
  · rcases h2 with h2 | h2
    · rw [h2]
      exact fun q hq => absurd hq List.not_mem_nil
    · exact JB_ok h2 (Or.inr rfl)
  · show (rO3 (Pt 3) _).length = min W'.1 24
    unfold rO3
    rw [hW1]
    split
    · rw [List.length_append]
      show (Pt 3).length + 1 = _
      omega
    · omega
  · show ∀ q ∈ rO3 (Pt 3) _, q.length = 7
    unfold rO3
    intro q hq
    split at hq
    · rcases List.mem_append.mp hq with hq | hq
      · exact g3 q hq
      · rw [List.mem_singleton.mp hq]
        rfl
    · exact g3 q hq
  · show W'.1 ≤ t2
    have : W.1 ≤ t := g4
    omega
  · show ∀ o, o < (rO3 (Pt 3) _).length → LRo Kd (it ++ i1 ++ i2) W' (rO3 (Pt 3) _) o
    intro o ho
    by_cases e : o < (Pt 3).length
    · rw [List.append_assoc]
      have hne : ¬ o = min W.1 24 := by omega
      refine LRo_app (g5 o e) ⟨?_, ?_, ?_⟩ (fun c => ?_)
      · rw [hWa]
        exact if_neg hne
      · rw [hWb]
        exact if_neg hne
      · rw [hWc]
        exact if_neg hne
      · unfold rO3
        split
        · exact tg_app e
        · rfl
    · have hl : (Pt 3).length < 24 := Decidable.byContradiction fun q => by
        unfold rO3 at ho
        rw [if_neg q] at ho
        exact e ho
      have he : rO3 (Pt 3) [k, x, z, a3, b4, nI (it ++ i1).length, nI (it ++ i1 ++ i2).length] = Pt 3 ++ [[k, x, z, a3, b4, nI (it ++ i1).length, nI (it ++ i1 ++ i2).length]] := if_pos hl
      rw [he] at ho ⊢
      have eo : o = (Pt 3).length := by
        rw [List.length_append] at ho
        have : o < (Pt 3).length + 1 := ho
        omega
      have em : min W.1 24 = (Pt 3).length := by omega
      rw [em] at hWa hWb hWc
      subst eo
      have wa : W'.2.1 (Pt 3).length = nI (lnL it) := by
        rw [hWa]
        exact if_pos rfl
      have wb : W'.2.2.1 (Pt 3).length = nI (lnL (it ++ i1)) := by
        rw [hWb]
        exact if_pos rfl
      have wc : W'.2.2.2 (Pt 3).length = nI (lnL (it ++ i1 ++ i2)) := by
        rw [hWc]
        exact if_pos rfl
      refine ⟨fun q => ?_, ⟨(it ++ i1).length, (it ++ i1 ++ i2).length, tg_new, tg_new, ?_, ?_, ?_, Nat.le_refl _, ?_⟩, ?_⟩
      · have q2 : k = 11 := by
          rw [tg_new] at q
          exact q
        obtain ⟨m1, m2, m3⟩ := h1 q2
        refine ⟨it.length, (it ++ i1).length, tg_new.trans m1, tg_new.trans m2, ?_, ?_, sgT_app (sgT_new m3)⟩
        · rw [wa, pos_app (by rw [List.length_append]; omega), pos_app (Nat.le_refl _), pos_len]
        · rw [wb, pos_app (Nat.le_refl _), pos_len]
      · rw [wb, pos_app (Nat.le_refl _), pos_len]
      · rw [wc, pos_len]
      · have := List.length_append (as := it ++ i1) (bs := i2)
        omega
      · rcases h2 with rfl | h2
        · exact Or.inl (by rw [List.append_nil])
        · exact Or.inr (sgT_new h2)
      · rw [tg_new]
        exact hk
