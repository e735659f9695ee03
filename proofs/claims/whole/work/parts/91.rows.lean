/-! THE REFERENCE: its Plan's rows are the component's tables. Printed by wip/whole/mk91.py. -/
theorem pv_s {K : Nat → Int32} {i : Nat} : pvF K (i + 1) = K i := by
  unfold pvF
  rw [if_neg (Nat.succ_ne_zero i), Nat.add_sub_cancel]
section ZZ
variable {f : Nat → Int32} {g : Nat → Int64} {rows : bT} {Kd nv : Nat → Int32} {N i t t' m : Nat} {rw : bT} {Pt : Nat → bT} {s' : bP} {Cb : rA}
theorem nord {r : Int32} (h : rof Kd i = r) (hr : ¬ r = 4 ∧ ¬ r = 5 ∧ ¬ r = 6) : ¬ (Kd i = 11 ∨ Kd i = 13 ∨ Kd i = 15) := fun z => by
  unfold rof roF at h
  rcases z with e | e | e
  · rw [e] at h
    exact hr.1 h.symm
  · rw [e] at h
    exact hr.2.1 h.symm
  · rw [e] at h
    exact hr.2.2 h.symm
theorem noI_q {r : Int32} (h : rof Kd i = r) (hr : ¬ r = 4 ∧ ¬ r = 5 ∧ ¬ r = 6) : noI Kd (i + 1) = noI Kd i := by
  show noI Kd i + _ = _
  rw [if_neg (nord h hr)]
  exact Nat.add_zero _
theorem nmI_q {r : Int32} (h : rof Kd i = r) (hr : ¬ r = 1 ∧ ¬ r = 2 ∧ ¬ r = 3) (hm : m < 3) : nmI Kd m (i + 1) = nmI Kd m i := by
  have m3 : m = 0 ∨ m = 1 ∨ m = 2 := by omega
  have : ¬ rof Kd i = nI (m + 1) := fun z => by
    rw [h] at z
    rcases m3 with rfl | rfl | rfl
    · exact hr.1 z
    · exact hr.2.1 z
    · exact hr.2.2 z
  rw [nmI_s, if_neg this]
  exact List.append_nil _
theorem zq (h : quT Kd i) : zA f g rows Kd nv Cb (i + 1) = zA f g rows Kd nv Cb i ∧ (∀ m, m < 3 → nmI Kd m (i + 1) = nmI Kd m i) ∧ noI Kd (i + 1) = noI Kd i := by
  refine ⟨?_, fun m hm => ?_, ?_⟩
  · show zStep f g rows Kd nv i (zA f g rows Kd nv Cb i) = _
    unfold zStep
    rcases h with e | e | e <;> rw [e] <;> rfl
  · rcases h with e | e | e <;> exact nmI_q e (by decide) hm
  · rcases h with e | e | e <;> exact noI_q e (by decide)
theorem zqI : ∀ (k : Nat), QI Kd t (t + k) → zA f g rows Kd nv Cb (t + k) = zA f g rows Kd nv Cb t ∧ (∀ m, m < 3 → nmI Kd m (t + k) = nmI Kd m t) ∧ noI Kd (t + k) = noI Kd t
  | 0, _ => ⟨rfl, fun _ _ => rfl, rfl⟩
  | k + 1, h => by
    obtain ⟨a, b, c⟩ := zqI k (fun i h1 h2 => h i h1 (by omega))
    obtain ⟨a2, b2, c2⟩ := zq (f := f) (g := g) (rows := rows) (nv := nv) (h (t + k) (by omega) (by omega))
    exact ⟨a2.trans a, fun m hm => (b2 m hm).trans (b m hm), c2.trans c⟩
theorem zqJ (h : QI Kd t t') (hl : t ≤ t') : zA f g rows Kd nv Cb t' = zA f g rows Kd nv Cb t ∧ (∀ m, m < 3 → nmI Kd m t' = nmI Kd m t) ∧ noI Kd t' = noI Kd t := by
  obtain ⟨k, rfl⟩ : ∃ k, t' = t + k := ⟨t' - t, by omega⟩
  exact zqI k h
theorem nmI_mono {a b : Nat} (h : a ≤ b) : (nmI Kd m a).length ≤ (nmI Kd m b).length := by
  obtain ⟨k, rfl⟩ : ∃ k, b = a + k := ⟨b - a, by omega⟩
  clear h
  induction k with
  | zero => exact Nat.le_refl _
  | succ k ih =>
    refine Nat.le_trans ih ?_
    rw [show a + (k + 1) = a + k + 1 from rfl, nmI_s, List.length_append]
    omega
/-- what a name that is told means -/
theorem told_v (hf : ∀ i, i < N → f i = Kd i) (hN : N ≤ 401) (hi : i < N) (hok : ∀ j, j < i → ckE f g rows j = 0) (hw : ∀ q ∈ rows, q.length = 2) (hl : rows.length = N) (hm : m < 3) (hk : Kd i = 30) (hb : ∀ s, ckName g i (pvF Kd i) s = ckTold g i m s) : mnF f g rows i = ixL ((nmI Kd m i).map g) (g i) 0 ∧ ckE f g rows i = if ixL ((nmI Kd m i).map g) (g i) 0 < 0 then 3 else 0 := by
  obtain ⟨hrw1, hrw2, hrw3⟩ := ckS_rows (f := f) (g := g) (rows := rows) hw (by omega) i (by omega)
  have hLL := ckS_L (f := f) (g := g) (rows := rows) hf hN hok (show i ≤ N by omega)
  have hck : ck1 f g i (ckS f g rows i) = ckTold g i m (ckS f g rows i) := by
    rw [ck1_k hf hN hi, if_pos hk, hb]
  constructor
  · show rG (ck1 f g i (ckS f g rows i)).2.2.2 (nI i) 1 = _
    rw [hck]
    show rG (rS (ckS f g rows i).2.2 (nI i) 1 (ixL ((ckS f g rows i).1 m) (g i) 0)) (nI i) 1 = _
    rw [hLL m hm, rS_nI (by omega), rG_nI (by omega), tg_tS hrw2 (by omega) (by decide), if_pos ⟨rfl, rfl⟩]
  · unfold ckE
    rw [hck]
    unfold ckTold
    rw [hLL m hm]
def RGx (l : Nat) (x : Int32) : Prop := ∃ b, b < l ∧ x = nI b
theorem RGx.le {l l' : Nat} {x : Int32} (h : RGx l x) (g : l ≤ l') : RGx l' x := by
  obtain ⟨b, b1, b2⟩ := h
  exact ⟨b, by omega, b2⟩
theorem told_rg (hf : ∀ i, i < N → f i = Kd i) (hN : N ≤ 401) (hi : i < N) (hok : ∀ j, j ≤ i → ckE f g rows j = 0) (hw : ∀ q ∈ rows, q.length = 2) (hl : rows.length = N) (hm : m < 3) (hk : Kd i = 30) (hb : ∀ s, ckName g i (pvF Kd i) s = ckTold g i m s) : RGx (nmI Kd m i).length (mnF f g rows i) := by
  obtain ⟨a, b⟩ := told_v hf hN hi (fun j hj => hok j (by omega)) hw hl hm hk hb
  rw [hok i (Nat.le_refl i)] at b
  rcases ixLC ((nmI Kd m i).map g) (g i) 0 with e | ⟨j, j1, j2⟩
  · rw [e] at b
    exact absurd b (by decide)
  · rw [List.length_map] at j1
    exact ⟨j, j1, by rw [a, j2, Nat.zero_add]⟩
theorem num_rng (hf : ∀ i, i < N → f i = Kd i) (hN : N ≤ 401) (hi : i < N) (hok : ∀ j, j ≤ i → ckE f g rows j = 0) (hw : ∀ q ∈ rows, q.length = 2) (hl : rows.length = N) (hk : Kd i = 31) (hnv : rG rows (nI i) 1 = nv i) : rngB (nv i) (pvF Kd i) = true := by
  obtain ⟨hrw1, hrw2, hrw3⟩ := ckS_rows (f := f) (g := g) (rows := rows) hw (by omega) i (by omega)
  have h := hok i (Nat.le_refl i)
  unfold ckE at h
  rw [ck1_k hf hN hi, if_neg (by rw [hk]; decide), if_pos hk, rG_nI (by omega), hrw3 i 1 (Or.inl (Nat.le_refl _)), ← rG_nI (by omega), hnv] at h
  refine Decidable.byContradiction fun q => ?_
  have h2 : (if rngB (nv i) (pvF Kd i) = true then (0 : Int32) else 5) = 0 := h
  rw [if_neg q] at h2
  exact absurd h2 (by decide)
def ZR (f : Nat → Int32) (g : Nat → Int64) (rows : bT) (Kd nv : Nat → Int32) (Cb : rA) (t : Nat) (Pt : Nat → bT) : Prop :=
  ((Pt 0).length = (nmI Kd 0 t).length ∧ (Pt 1).length = (nmI Kd 1 t).length ∧ (Pt 2).length = (nmI Kd 2 t).length ∧ (Pt 3).length = noI Kd t) ∧
  ((∀ q ∈ Pt 0, q.length = 2) ∧ (∀ q ∈ Pt 1, q.length = 2) ∧ (∀ q ∈ Pt 2, q.length = 3)) ∧
  (∀ i, i < (Pt 0).length → zA f g rows Kd nv Cb t 0 i = tg (Pt 0) i 0 ∧ zA f g rows Kd nv Cb t 1 i = tg (Pt 0) i 1) ∧
  (∀ i, i < (Pt 1).length → zA f g rows Kd nv Cb t 2 i = tg (Pt 1) i 0 ∧ zA f g rows Kd nv Cb t 3 i = tg (Pt 1) i 1) ∧
  (∀ i, i < (Pt 2).length → zA f g rows Kd nv Cb t 4 i = tg (Pt 2) i 0 ∧ zA f g rows Kd nv Cb t 5 i = tg (Pt 2) i 1 ∧ zA f g rows Kd nv Cb t 6 i = tg (Pt 2) i 2) ∧
  (∀ o, o < (Pt 3).length → zA f g rows Kd nv Cb t 7 o = tg (Pt 3) o 0 - 1 ∧ (tg (Pt 3) o 0 = 11 → zA f g rows Kd nv Cb t 9 o = tg (Pt 3) o 1 ∧ RGx (Pt 0).length (tg (Pt 3) o 1)) ∧
    (tg (Pt 3) o 0 = 13 → zA f g rows Kd nv Cb t 8 o = tg (Pt 3) o 1 ∧ zA f g rows Kd nv Cb t 9 o = tg (Pt 3) o 2 ∧ RGx (Pt 1).length (tg (Pt 3) o 1) ∧ RGx (Pt 0).length (tg (Pt 3) o 2)) ∧
    (tg (Pt 3) o 0 = 15 → zA f g rows Kd nv Cb t 8 o = tg (Pt 3) o 1 ∧ zA f g rows Kd nv Cb t 9 o = tg (Pt 3) o 2 ∧ RGx (Pt 2).length (tg (Pt 3) o 1) ∧ RGx (Pt 0).length (tg (Pt 3) o 2))) ∧
  (∀ i, i < (Pt 0).length → ∃ k, 1 ≤ k ∧ k ≤ 9 ∧ tg (Pt 0) i 1 = nI k) ∧ (∀ i, i < (Pt 1).length → ∃ k, 1 ≤ k ∧ k ≤ 6 ∧ tg (Pt 1) i 1 = nI k)
theorem ZR_q (z : ZR f g rows Kd nv Cb t Pt) (h : quT Kd t) : ZR f g rows Kd nv Cb (t + 1) Pt := by
  obtain ⟨a, b, c⟩ := zq (f := f) (g := g) (rows := rows) (nv := nv) h
  unfold ZR at z ⊢
  rw [a, b 0 (by decide), b 1 (by decide), b 2 (by decide), c]
  exact z
theorem ZR_cg {Pt' : Nat → bT} (z : ZR f g rows Kd nv Cb t Pt) (h : ∀ k, k < 4 → Pt' k = Pt k) : ZR f g rows Kd nv Cb t Pt' := by
  unfold ZR at z ⊢
  rw [h 0 (by decide), h 1 (by decide), h 2 (by decide), h 3 (by decide)]
  exact z
theorem ZR_bark (hf : ∀ i, i < N → f i = Kd i) (hN : N ≤ 401) (hw : ∀ q ∈ rows, q.length = 2) (hl : rows.length = N) (hnv : ∀ i, i < N → Kd i = 31 → rG rows (nI i) 1 = nv i) (hv1 : ∀ i, i < N → Kd i = 31 → vL rw i = nv i) (hv2 : ∀ i, i < N → mnR Kd i → vL rw i = mnF f g rows i) (z : ZR f g rows Kd nv Cb t Pt) (k0 : Kd t = 1) (k1 : Kd (t + 1) = 30) (k2 : Kd (t + 2) = 2) (k3 : Kd (t + 3) = 31) (k4 : Kd (t + 4) = 3) (k5 : Kd (t + 5) = 31) (he : t + 6 ≤ N) (hok : ∀ j, j < t + 6 → ckE f g rows j = 0) {Pt' : Nat → bT} (hp : (Pt 0).length < 5 → Pt' 0 = Pt 0 ++ [[vL rw (t + 3), vL rw (t + 5)]]) (ho : ∀ k, ¬ k = 0 → Pt' k = Pt k) : ZR f g rows Kd nv Cb (t + 6) Pt' := by
  have r1 : rof Kd (t + 1) = 1 := rof_k k0 k1 (by decide)
  have r3 : rof Kd (t + 3) = 7 := rof_k k2 k3 (by decide)
  have r5 : rof Kd (t + 5) = 8 := rof_k k4 k5 (by decide)
  obtain ⟨a0, b0, c0⟩ := zq (Kd := Kd) (f := f) (g := g) (rows := rows) (nv := nv) (i := t) (quT_k (by rw [k0]; decide))
  obtain ⟨a2, b2, c2⟩ := zq (Kd := Kd) (f := f) (g := g) (rows := rows) (nv := nv) (i := t + 2) (quT_k (by rw [k2]; decide))
  obtain ⟨a4, b4, c4⟩ := zq (Kd := Kd) (f := f) (g := g) (rows := rows) (nv := nv) (i := t + 4) (quT_k (by rw [k4]; decide))
  have a1 : zA f g rows Kd nv Cb (t + 2) = zA f g rows Kd nv Cb (t + 1) := by
    show zStep f g rows Kd nv (t + 1) (zA f g rows Kd nv Cb (t + 1)) = _
    unfold zStep
    rw [r1]
    rfl
  have c1 : noI Kd (t + 2) = noI Kd (t + 1) := noI_q r1 (by decide)
  have b1 : nmI Kd 0 (t + 2) = nmI Kd 0 (t + 1) ++ [t + 1] := by
    rw [show t + 2 = t + 1 + 1 from rfl, nmI_s, r1]
    rfl
  have b1_1 : nmI Kd 1 (t + 2) = nmI Kd 1 (t + 1) := by
    rw [show t + 2 = t + 1 + 1 from rfl, nmI_s, r1]
    exact List.append_nil _
  have b1_2 : nmI Kd 2 (t + 2) = nmI Kd 2 (t + 1) := by
    rw [show t + 2 = t + 1 + 1 from rfl, nmI_s, r1]
    exact List.append_nil _
  have a3 : zA f g rows Kd nv Cb (t + 4) = uA (zA f g rows Kd nv Cb (t + 3)) 0 (upd (zA f g rows Kd nv Cb (t + 3) 0) ((nmI Kd 0 (t + 3)).length - 1) (nv (t + 3))) := by
    show zStep f g rows Kd nv (t + 3) (zA f g rows Kd nv Cb (t + 3)) = _
    unfold zStep
    rw [r3]
    rfl
  have c3 : noI Kd (t + 4) = noI Kd (t + 3) := noI_q r3 (by decide)
  have b3 : ∀ m, m < 3 → nmI Kd m (t + 4) = nmI Kd m (t + 3) := fun m hm => nmI_q r3 (by decide) hm
  have a5 : zA f g rows Kd nv Cb (t + 6) = uA (zA f g rows Kd nv Cb (t + 5)) 1 (upd (zA f g rows Kd nv Cb (t + 5) 1) ((nmI Kd 0 (t + 5)).length - 1) (nv (t + 5))) := by
    show zStep f g rows Kd nv (t + 5) (zA f g rows Kd nv Cb (t + 5)) = _
    unfold zStep
    rw [r5]
    rfl
  have c5 : noI Kd (t + 6) = noI Kd (t + 5) := noI_q r5 (by decide)
  have b5 : ∀ m, m < 3 → nmI Kd m (t + 6) = nmI Kd m (t + 5) := fun m hm => nmI_q r5 (by decide) hm
  have nm0 : nmI Kd 0 (t + 6) = nmI Kd 0 t ++ [t + 1] := by
    rw [b5 0 (by decide), b4 0 (by decide), b3 0 (by decide), b2 0 (by decide), b1, b0 0 (by decide)]
  have nm1 : nmI Kd 1 (t + 6) = nmI Kd 1 t := by
    rw [b5 1 (by decide), b4 1 (by decide), b3 1 (by decide), b2 1 (by decide), b1_1, b0 1 (by decide)]
  have nm2 : nmI Kd 2 (t + 6) = nmI Kd 2 t := by
    rw [b5 2 (by decide), b4 2 (by decide), b3 2 (by decide), b2 2 (by decide), b1_2, b0 2 (by decide)]
  have nn : noI Kd (t + 6) = noI Kd t := by
    rw [c5, c4, c3, c2, c1, c0]
  have p3 : (nmI Kd 0 (t + 3)).length - 1 = (Pt 0).length := by
    rw [b2 0 (by decide), b1, b0 0 (by decide), List.length_append, z.1.1]
    exact Nat.add_sub_cancel _ _
  rw [p3] at a3
  have p5 : (nmI Kd 0 (t + 5)).length - 1 = (Pt 0).length := by
    rw [b4 0 (by decide), b3 0 (by decide), b2 0 (by decide), b1, b0 0 (by decide), List.length_append, z.1.1]
    exact Nat.add_sub_cancel _ _
  rw [p5] at a5
  have hlen : (Pt 0).length < 5 := by
    have := ckS_len (f := f) (g := g) (rows := rows) hf hN (t + 6) he (fun j hj => hok j hj) 0 (by decide)
    rw [nm0, List.length_append] at this
    have h2 : (nmI Kd 0 t).length + 1 ≤ 5 := this
    have h3 := z.1.1
    omega
  have hP := hp hlen
  have old : ∀ j, ¬ j = 0 → ¬ j = 1 → zA f g rows Kd nv Cb (t + 6) j = zA f g rows Kd nv Cb t j := fun j h0 h1 => by
    rw [a5, uA_n h1, a4, a3, uA_n h0, a2, a1, a0]
  have new0 : zA f g rows Kd nv Cb (t + 6) 0 = upd (zA f g rows Kd nv Cb t 0) (Pt 0).length (vL rw (t + 3)) := by
    rw [hv1 (t + 3) (by omega) k3]
    rw [a5, uA_n (by decide), a4, a3, uA_s]
    congr 1
    rw [a2, a1, a0]
  have new1 : zA f g rows Kd nv Cb (t + 6) 1 = upd (zA f g rows Kd nv Cb t 1) (Pt 0).length (vL rw (t + 5)) := by
    rw [hv1 (t + 5) (by omega) k5]
    rw [a5, uA_s]
    congr 1
    rw [a4, a3, uA_n (by decide), a2, a1, a0]
  have g3 := num_rng (g := g) (nv := nv) hf hN (show t + 3 < N by omega) (fun j hj => hok j (by omega)) hw hl k3 (hnv _ (by omega) k3)
  rw [show pvF Kd (t + 3) = 2 from pv_s.trans k2] at g3
  have g5 := num_rng (g := g) (nv := nv) hf hN (show t + 5 < N by omega) (fun j hj => hok j (by omega)) hw hl k5 (hnv _ (by omega) k5)
  rw [show pvF Kd (t + 5) = 3 from pv_s.trans k4] at g5
  obtain ⟨⟨l0, l1, l2, l3⟩, ⟨w0, w1, w2⟩, z0, z1, z2, z3, y0, y1⟩ := z
  have e1 := ho 1 (by decide)
  have e2 := ho 2 (by decide)
  have e3 := ho 3 (by decide)
  have hll : (Pt' 0).length = (Pt 0).length + 1 := by
    rw [hP, List.length_append]
    rfl
  have cse : ∀ i, i < (Pt' 0).length → (i < (Pt 0).length ∧ ∀ c, tg (Pt' 0) i c = tg (Pt 0) i c) ∨ (i = (Pt 0).length ∧ ∀ c, tg (Pt' 0) i c = [vL rw (t + 3), vL rw (t + 5)].getD c 0) := fun i hi => by
    rw [hP]
    by_cases e : i < (Pt 0).length
    · exact Or.inl ⟨e, fun c => tg_app e⟩
    · have e2 : i = (Pt 0).length := by omega
      subst e2
      exact Or.inr ⟨rfl, fun c => tg_new⟩
  refine ⟨⟨?_, ?_, ?_, ?_⟩, ⟨?_, ?_, ?_⟩, ?_, ?_, ?_, ?_, ?_, ?_⟩
  · rw [hll, nm0, List.length_append, l0]
    rfl
  · rw [e1, nm1, l1]
  · rw [e2, nm2, l2]
  · rw [e3, nn, l3]
  · rw [hP]
    intro q hq
    rcases List.mem_append.mp hq with hq | hq
    · exact w0 q hq
    · rw [List.mem_singleton.mp hq]
      rfl
  · rw [e1]
    exact w1
  · rw [e2]
    exact w2
  · intro i hi
    rw [new0, new1]
    rcases cse i hi with ⟨hi2, et⟩ | ⟨rfl, et⟩
    · have hne : ¬ i = (Pt 0).length := by omega
      rw [et 0, et 1]
      exact ⟨(if_neg hne).trans (z0 i hi2).1, (if_neg hne).trans (z0 i hi2).2⟩
    · rw [et 0, et 1]
      exact ⟨if_pos rfl, if_pos rfl⟩
  · intro i hi
    rw [e1] at hi ⊢
    rw [old 2 (by decide) (by decide), old 3 (by decide) (by decide)]
    exact z1 i hi
  · intro i hi
    rw [e2] at hi ⊢
    rw [old 4 (by decide) (by decide), old 5 (by decide) (by decide), old 6 (by decide) (by decide)]
    exact z2 i hi
  · intro o ho2
    rw [e3] at ho2 ⊢
    rw [old 7 (by decide) (by decide), old 8 (by decide) (by decide), old 9 (by decide) (by decide)]
    obtain ⟨x1, x2, x3, x4⟩ := z3 o ho2
    exact ⟨x1, fun q => ⟨(x2 q).1, (x2 q).2.le (by rw [hll]; exact Nat.le_succ _)⟩, fun q => ⟨(x3 q).1, (x3 q).2.1, (x3 q).2.2.1.le (by rw [e1]; exact Nat.le_refl _), (x3 q).2.2.2.le (by rw [hll]; exact Nat.le_succ _)⟩, fun q => ⟨(x4 q).1, (x4 q).2.1, (x4 q).2.2.1.le (by rw [e2]; exact Nat.le_refl _), (x4 q).2.2.2.le (by rw [hll]; exact Nat.le_succ _)⟩⟩
  · intro i hi
    rcases cse i hi with ⟨hi2, et⟩ | ⟨rfl, et⟩
    · rw [et 1]
      exact y0 i hi2
    · rw [et 1]
      show ∃ k, 1 ≤ k ∧ k ≤ 9 ∧ vL rw (t + 5) = nI k
      rw [hv1 (t + 5) (by omega) k5]
      exact inR_nI (a := 1) (b := 9) (by decide) (by decide) (of_decide_eq_true g5)
  · rw [e1]
    exact y1
theorem ZR_beater (hf : ∀ i, i < N → f i = Kd i) (hN : N ≤ 401) (hw : ∀ q ∈ rows, q.length = 2) (hl : rows.length = N) (hnv : ∀ i, i < N → Kd i = 31 → rG rows (nI i) 1 = nv i) (hv1 : ∀ i, i < N → Kd i = 31 → vL rw i = nv i) (hv2 : ∀ i, i < N → mnR Kd i → vL rw i = mnF f g rows i) (z : ZR f g rows Kd nv Cb t Pt) (k0 : Kd t = 4) (k1 : Kd (t + 1) = 30) (k2 : Kd (t + 2) = 5) (k3 : Kd (t + 3) = 31) (k4 : Kd (t + 4) = 6) (k5 : Kd (t + 5) = 31) (he : t + 6 ≤ N) (hok : ∀ j, j < t + 6 → ckE f g rows j = 0) {Pt' : Nat → bT} (hp : (Pt 1).length < 6 → Pt' 1 = Pt 1 ++ [[vL rw (t + 3), vL rw (t + 5)]]) (ho : ∀ k, ¬ k = 1 → Pt' k = Pt k) : ZR f g rows Kd nv Cb (t + 6) Pt' := by
  have r1 : rof Kd (t + 1) = 2 := rof_k k0 k1 (by decide)
  have r3 : rof Kd (t + 3) = 9 := rof_k k2 k3 (by decide)
  have r5 : rof Kd (t + 5) = 10 := rof_k k4 k5 (by decide)
  obtain ⟨a0, b0, c0⟩ := zq (Kd := Kd) (f := f) (g := g) (rows := rows) (nv := nv) (i := t) (quT_k (by rw [k0]; decide))
  obtain ⟨a2, b2, c2⟩ := zq (Kd := Kd) (f := f) (g := g) (rows := rows) (nv := nv) (i := t + 2) (quT_k (by rw [k2]; decide))
  obtain ⟨a4, b4, c4⟩ := zq (Kd := Kd) (f := f) (g := g) (rows := rows) (nv := nv) (i := t + 4) (quT_k (by rw [k4]; decide))
  have a1 : zA f g rows Kd nv Cb (t + 2) = zA f g rows Kd nv Cb (t + 1) := by
    show zStep f g rows Kd nv (t + 1) (zA f g rows Kd nv Cb (t + 1)) = _
    unfold zStep
    rw [r1]
    rfl
  have c1 : noI Kd (t + 2) = noI Kd (t + 1) := noI_q r1 (by decide)
  have b1 : nmI Kd 1 (t + 2) = nmI Kd 1 (t + 1) ++ [t + 1] := by
    rw [show t + 2 = t + 1 + 1 from rfl, nmI_s, r1]
    rfl
  have b1_0 : nmI Kd 0 (t + 2) = nmI Kd 0 (t + 1) := by
    rw [show t + 2 = t + 1 + 1 from rfl, nmI_s, r1]
    exact List.append_nil _
  have b1_2 : nmI Kd 2 (t + 2) = nmI Kd 2 (t + 1) := by
    rw [show t + 2 = t + 1 + 1 from rfl, nmI_s, r1]
    exact List.append_nil _
  have a3 : zA f g rows Kd nv Cb (t + 4) = uA (zA f g rows Kd nv Cb (t + 3)) 2 (upd (zA f g rows Kd nv Cb (t + 3) 2) ((nmI Kd 1 (t + 3)).length - 1) (nv (t + 3))) := by
    show zStep f g rows Kd nv (t + 3) (zA f g rows Kd nv Cb (t + 3)) = _
    unfold zStep
    rw [r3]
    rfl
  have c3 : noI Kd (t + 4) = noI Kd (t + 3) := noI_q r3 (by decide)
  have b3 : ∀ m, m < 3 → nmI Kd m (t + 4) = nmI Kd m (t + 3) := fun m hm => nmI_q r3 (by decide) hm
  have a5 : zA f g rows Kd nv Cb (t + 6) = uA (zA f g rows Kd nv Cb (t + 5)) 3 (upd (zA f g rows Kd nv Cb (t + 5) 3) ((nmI Kd 1 (t + 5)).length - 1) (nv (t + 5))) := by
    show zStep f g rows Kd nv (t + 5) (zA f g rows Kd nv Cb (t + 5)) = _
    unfold zStep
    rw [r5]
    rfl
  have c5 : noI Kd (t + 6) = noI Kd (t + 5) := noI_q r5 (by decide)
  have b5 : ∀ m, m < 3 → nmI Kd m (t + 6) = nmI Kd m (t + 5) := fun m hm => nmI_q r5 (by decide) hm
  have nm0 : nmI Kd 0 (t + 6) = nmI Kd 0 t := by
    rw [b5 0 (by decide), b4 0 (by decide), b3 0 (by decide), b2 0 (by decide), b1_0, b0 0 (by decide)]
  have nm1 : nmI Kd 1 (t + 6) = nmI Kd 1 t ++ [t + 1] := by
    rw [b5 1 (by decide), b4 1 (by decide), b3 1 (by decide), b2 1 (by decide), b1, b0 1 (by decide)]
  have nm2 : nmI Kd 2 (t + 6) = nmI Kd 2 t := by
    rw [b5 2 (by decide), b4 2 (by decide), b3 2 (by decide), b2 2 (by decide), b1_2, b0 2 (by decide)]
  have nn : noI Kd (t + 6) = noI Kd t := by
    rw [c5, c4, c3, c2, c1, c0]
  have p3 : (nmI Kd 1 (t + 3)).length - 1 = (Pt 1).length := by
    rw [b2 1 (by decide), b1, b0 1 (by decide), List.length_append, z.1.2.1]
    exact Nat.add_sub_cancel _ _
  rw [p3] at a3
  have p5 : (nmI Kd 1 (t + 5)).length - 1 = (Pt 1).length := by
    rw [b4 1 (by decide), b3 1 (by decide), b2 1 (by decide), b1, b0 1 (by decide), List.length_append, z.1.2.1]
    exact Nat.add_sub_cancel _ _
  rw [p5] at a5
  have hlen : (Pt 1).length < 6 := by
    have := ckS_len (f := f) (g := g) (rows := rows) hf hN (t + 6) he (fun j hj => hok j hj) 1 (by decide)
    rw [nm1, List.length_append] at this
    have h2 : (nmI Kd 1 t).length + 1 ≤ 6 := this
    have h3 := z.1.2.1
    omega
  have hP := hp hlen
  have old : ∀ j, ¬ j = 2 → ¬ j = 3 → zA f g rows Kd nv Cb (t + 6) j = zA f g rows Kd nv Cb t j := fun j h2 h3 => by
    rw [a5, uA_n h3, a4, a3, uA_n h2, a2, a1, a0]
  have new2 : zA f g rows Kd nv Cb (t + 6) 2 = upd (zA f g rows Kd nv Cb t 2) (Pt 1).length (vL rw (t + 3)) := by
    rw [hv1 (t + 3) (by omega) k3]
    rw [a5, uA_n (by decide), a4, a3, uA_s]
    congr 1
    rw [a2, a1, a0]
  have new3 : zA f g rows Kd nv Cb (t + 6) 3 = upd (zA f g rows Kd nv Cb t 3) (Pt 1).length (vL rw (t + 5)) := by
    rw [hv1 (t + 5) (by omega) k5]
    rw [a5, uA_s]
    congr 1
    rw [a4, a3, uA_n (by decide), a2, a1, a0]
  have g3 := num_rng (g := g) (nv := nv) hf hN (show t + 3 < N by omega) (fun j hj => hok j (by omega)) hw hl k3 (hnv _ (by omega) k3)
  rw [show pvF Kd (t + 3) = 5 from pv_s.trans k2] at g3
  have g5 := num_rng (g := g) (nv := nv) hf hN (show t + 5 < N by omega) (fun j hj => hok j (by omega)) hw hl k5 (hnv _ (by omega) k5)
  rw [show pvF Kd (t + 5) = 6 from pv_s.trans k4] at g5
  obtain ⟨⟨l0, l1, l2, l3⟩, ⟨w0, w1, w2⟩, z0, z1, z2, z3, y0, y1⟩ := z
  have e0 := ho 0 (by decide)
  have e2 := ho 2 (by decide)
  have e3 := ho 3 (by decide)
  have hll : (Pt' 1).length = (Pt 1).length + 1 := by
    rw [hP, List.length_append]
    rfl
  have cse : ∀ i, i < (Pt' 1).length → (i < (Pt 1).length ∧ ∀ c, tg (Pt' 1) i c = tg (Pt 1) i c) ∨ (i = (Pt 1).length ∧ ∀ c, tg (Pt' 1) i c = [vL rw (t + 3), vL rw (t + 5)].getD c 0) := fun i hi => by
    rw [hP]
    by_cases e : i < (Pt 1).length
    · exact Or.inl ⟨e, fun c => tg_app e⟩
    · have e2 : i = (Pt 1).length := by omega
      subst e2
      exact Or.inr ⟨rfl, fun c => tg_new⟩
  refine ⟨⟨?_, ?_, ?_, ?_⟩, ⟨?_, ?_, ?_⟩, ?_, ?_, ?_, ?_, ?_, ?_⟩
  · rw [e0, nm0, l0]
  · rw [hll, nm1, List.length_append, l1]
    rfl
  · rw [e2, nm2, l2]
  · rw [e3, nn, l3]
  · rw [e0]
    exact w0
  · rw [hP]
    intro q hq
    rcases List.mem_append.mp hq with hq | hq
    · exact w1 q hq
    · rw [List.mem_singleton.mp hq]
      rfl
  · rw [e2]
    exact w2
  · intro i hi
    rw [e0] at hi ⊢
    rw [old 0 (by decide) (by decide), old 1 (by decide) (by decide)]
    exact z0 i hi
  · intro i hi
    rw [new2, new3]
    rcases cse i hi with ⟨hi2, et⟩ | ⟨rfl, et⟩
    · have hne : ¬ i = (Pt 1).length := by omega
      rw [et 0, et 1]
      exact ⟨(if_neg hne).trans (z1 i hi2).1, (if_neg hne).trans (z1 i hi2).2⟩
    · rw [et 0, et 1]
      exact ⟨if_pos rfl, if_pos rfl⟩
  · intro i hi
    rw [e2] at hi ⊢
    rw [old 4 (by decide) (by decide), old 5 (by decide) (by decide), old 6 (by decide) (by decide)]
    exact z2 i hi
  · intro o ho2
    rw [e3] at ho2 ⊢
    rw [old 7 (by decide) (by decide), old 8 (by decide) (by decide), old 9 (by decide) (by decide)]
    obtain ⟨x1, x2, x3, x4⟩ := z3 o ho2
    exact ⟨x1, fun q => ⟨(x2 q).1, (x2 q).2.le (by rw [e0]; exact Nat.le_refl _)⟩, fun q => ⟨(x3 q).1, (x3 q).2.1, (x3 q).2.2.1.le (by rw [hll]; exact Nat.le_succ _), (x3 q).2.2.2.le (by rw [e0]; exact Nat.le_refl _)⟩, fun q => ⟨(x4 q).1, (x4 q).2.1, (x4 q).2.2.1.le (by rw [e2]; exact Nat.le_refl _), (x4 q).2.2.2.le (by rw [e0]; exact Nat.le_refl _)⟩⟩
  · rw [e0]
    exact y0
  · intro i hi
    rcases cse i hi with ⟨hi2, et⟩ | ⟨rfl, et⟩
    · rw [et 1]
      exact y1 i hi2
    · rw [et 1]
      show ∃ k, 1 ≤ k ∧ k ≤ 6 ∧ vL rw (t + 5) = nI k
      rw [hv1 (t + 5) (by omega) k5]
      exact inR_nI (a := 1) (b := 6) (by decide) (by decide) (of_decide_eq_true g5)
theorem ZR_spirit (hf : ∀ i, i < N → f i = Kd i) (hN : N ≤ 401) (hw : ∀ q ∈ rows, q.length = 2) (hl : rows.length = N) (hnv : ∀ i, i < N → Kd i = 31 → rG rows (nI i) 1 = nv i) (hv1 : ∀ i, i < N → Kd i = 31 → vL rw i = nv i) (hv2 : ∀ i, i < N → mnR Kd i → vL rw i = mnF f g rows i) (z : ZR f g rows Kd nv Cb t Pt) (k0 : Kd t = 7) (k1 : Kd (t + 1) = 30) (k2 : Kd (t + 2) = 8) (k3 : Kd (t + 3) = 31) (k4 : Kd (t + 4) = 9) (k5 : Kd (t + 5) = 31) (k6 : Kd (t + 6) = 10) (k7 : Kd (t + 7) = 31) (he : t + 8 ≤ N) (hok : ∀ j, j < t + 8 → ckE f g rows j = 0) {Pt' : Nat → bT} (hp : (Pt 2).length < 6 → Pt' 2 = Pt 2 ++ [[vL rw (t + 3), vL rw (t + 5), vL rw (t + 7)]]) (ho : ∀ k, ¬ k = 2 → Pt' k = Pt k) : ZR f g rows Kd nv Cb (t + 8) Pt' := by
  have r1 : rof Kd (t + 1) = 3 := rof_k k0 k1 (by decide)
  have r3 : rof Kd (t + 3) = 11 := rof_k k2 k3 (by decide)
  have r5 : rof Kd (t + 5) = 12 := rof_k k4 k5 (by decide)
  have r7 : rof Kd (t + 7) = 13 := rof_k k6 k7 (by decide)
  obtain ⟨a0, b0, c0⟩ := zq (Kd := Kd) (f := f) (g := g) (rows := rows) (nv := nv) (i := t) (quT_k (by rw [k0]; decide))
  obtain ⟨a2, b2, c2⟩ := zq (Kd := Kd) (f := f) (g := g) (rows := rows) (nv := nv) (i := t + 2) (quT_k (by rw [k2]; decide))
  obtain ⟨a4, b4, c4⟩ := zq (Kd := Kd) (f := f) (g := g) (rows := rows) (nv := nv) (i := t + 4) (quT_k (by rw [k4]; decide))
  obtain ⟨a6, b6, c6⟩ := zq (Kd := Kd) (f := f) (g := g) (rows := rows) (nv := nv) (i := t + 6) (quT_k (by rw [k6]; decide))
  have a1 : zA f g rows Kd nv Cb (t + 2) = zA f g rows Kd nv Cb (t + 1) := by
    show zStep f g rows Kd nv (t + 1) (zA f g rows Kd nv Cb (t + 1)) = _
    unfold zStep
    rw [r1]
    rfl
  have c1 : noI Kd (t + 2) = noI Kd (t + 1) := noI_q r1 (by decide)
  have b1 : nmI Kd 2 (t + 2) = nmI Kd 2 (t + 1) ++ [t + 1] := by
    rw [show t + 2 = t + 1 + 1 from rfl, nmI_s, r1]
    rfl
  have b1_0 : nmI Kd 0 (t + 2) = nmI Kd 0 (t + 1) := by
    rw [show t + 2 = t + 1 + 1 from rfl, nmI_s, r1]
    exact List.append_nil _
  have b1_1 : nmI Kd 1 (t + 2) = nmI Kd 1 (t + 1) := by
    rw [show t + 2 = t + 1 + 1 from rfl, nmI_s, r1]
    exact List.append_nil _
  have a3 : zA f g rows Kd nv Cb (t + 4) = uA (zA f g rows Kd nv Cb (t + 3)) 4 (upd (zA f g rows Kd nv Cb (t + 3) 4) ((nmI Kd 2 (t + 3)).length - 1) (nv (t + 3))) := by
    show zStep f g rows Kd nv (t + 3) (zA f g rows Kd nv Cb (t + 3)) = _
    unfold zStep
    rw [r3]
    rfl
  have c3 : noI Kd (t + 4) = noI Kd (t + 3) := noI_q r3 (by decide)
  have b3 : ∀ m, m < 3 → nmI Kd m (t + 4) = nmI Kd m (t + 3) := fun m hm => nmI_q r3 (by decide) hm
  have a5 : zA f g rows Kd nv Cb (t + 6) = uA (zA f g rows Kd nv Cb (t + 5)) 5 (upd (zA f g rows Kd nv Cb (t + 5) 5) ((nmI Kd 2 (t + 5)).length - 1) (nv (t + 5))) := by
    show zStep f g rows Kd nv (t + 5) (zA f g rows Kd nv Cb (t + 5)) = _
    unfold zStep
    rw [r5]
    rfl
  have c5 : noI Kd (t + 6) = noI Kd (t + 5) := noI_q r5 (by decide)
  have b5 : ∀ m, m < 3 → nmI Kd m (t + 6) = nmI Kd m (t + 5) := fun m hm => nmI_q r5 (by decide) hm
  have a7 : zA f g rows Kd nv Cb (t + 8) = uA (zA f g rows Kd nv Cb (t + 7)) 6 (upd (zA f g rows Kd nv Cb (t + 7) 6) ((nmI Kd 2 (t + 7)).length - 1) (nv (t + 7))) := by
    show zStep f g rows Kd nv (t + 7) (zA f g rows Kd nv Cb (t + 7)) = _
    unfold zStep
    rw [r7]
    rfl
  have c7 : noI Kd (t + 8) = noI Kd (t + 7) := noI_q r7 (by decide)
  have b7 : ∀ m, m < 3 → nmI Kd m (t + 8) = nmI Kd m (t + 7) := fun m hm => nmI_q r7 (by decide) hm
  have nm0 : nmI Kd 0 (t + 8) = nmI Kd 0 t := by
    rw [b7 0 (by decide), b6 0 (by decide), b5 0 (by decide), b4 0 (by decide), b3 0 (by decide), b2 0 (by decide), b1_0, b0 0 (by decide)]
  have nm1 : nmI Kd 1 (t + 8) = nmI Kd 1 t := by
    rw [b7 1 (by decide), b6 1 (by decide), b5 1 (by decide), b4 1 (by decide), b3 1 (by decide), b2 1 (by decide), b1_1, b0 1 (by decide)]
  have nm2 : nmI Kd 2 (t + 8) = nmI Kd 2 t ++ [t + 1] := by
    rw [b7 2 (by decide), b6 2 (by decide), b5 2 (by decide), b4 2 (by decide), b3 2 (by decide), b2 2 (by decide), b1, b0 2 (by decide)]
  have nn : noI Kd (t + 8) = noI Kd t := by
    rw [c7, c6, c5, c4, c3, c2, c1, c0]
  have p3 : (nmI Kd 2 (t + 3)).length - 1 = (Pt 2).length := by
    rw [b2 2 (by decide), b1, b0 2 (by decide), List.length_append, z.1.2.2.1]
    exact Nat.add_sub_cancel _ _
  rw [p3] at a3
  have p5 : (nmI Kd 2 (t + 5)).length - 1 = (Pt 2).length := by
    rw [b4 2 (by decide), b3 2 (by decide), b2 2 (by decide), b1, b0 2 (by decide), List.length_append, z.1.2.2.1]
    exact Nat.add_sub_cancel _ _
  rw [p5] at a5
  have p7 : (nmI Kd 2 (t + 7)).length - 1 = (Pt 2).length := by
    rw [b6 2 (by decide), b5 2 (by decide), b4 2 (by decide), b3 2 (by decide), b2 2 (by decide), b1, b0 2 (by decide), List.length_append, z.1.2.2.1]
    exact Nat.add_sub_cancel _ _
  rw [p7] at a7
  have hlen : (Pt 2).length < 6 := by
    have := ckS_len (f := f) (g := g) (rows := rows) hf hN (t + 8) he (fun j hj => hok j hj) 2 (by decide)
    rw [nm2, List.length_append] at this
    have h2 : (nmI Kd 2 t).length + 1 ≤ 6 := this
    have h3 := z.1.2.2.1
    omega
  have hP := hp hlen
  have old : ∀ j, ¬ j = 4 → ¬ j = 5 → ¬ j = 6 → zA f g rows Kd nv Cb (t + 8) j = zA f g rows Kd nv Cb t j := fun j h4 h5 h6 => by
    rw [a7, uA_n h6, a6, a5, uA_n h5, a4, a3, uA_n h4, a2, a1, a0]
  have new4 : zA f g rows Kd nv Cb (t + 8) 4 = upd (zA f g rows Kd nv Cb t 4) (Pt 2).length (vL rw (t + 3)) := by
    rw [hv1 (t + 3) (by omega) k3]
    rw [a7, uA_n (by decide), a6, a5, uA_n (by decide), a4, a3, uA_s]
    congr 1
    rw [a2, a1, a0]
  have new5 : zA f g rows Kd nv Cb (t + 8) 5 = upd (zA f g rows Kd nv Cb t 5) (Pt 2).length (vL rw (t + 5)) := by
    rw [hv1 (t + 5) (by omega) k5]
    rw [a7, uA_n (by decide), a6, a5, uA_s]
    congr 1
    rw [a4, a3, uA_n (by decide), a2, a1, a0]
  have new6 : zA f g rows Kd nv Cb (t + 8) 6 = upd (zA f g rows Kd nv Cb t 6) (Pt 2).length (vL rw (t + 7)) := by
    rw [hv1 (t + 7) (by omega) k7]
    rw [a7, uA_s]
    congr 1
    rw [a6, a5, uA_n (by decide), a4, a3, uA_n (by decide), a2, a1, a0]
  have g3 := num_rng (g := g) (nv := nv) hf hN (show t + 3 < N by omega) (fun j hj => hok j (by omega)) hw hl k3 (hnv _ (by omega) k3)
  rw [show pvF Kd (t + 3) = 8 from pv_s.trans k2] at g3
  have g5 := num_rng (g := g) (nv := nv) hf hN (show t + 5 < N by omega) (fun j hj => hok j (by omega)) hw hl k5 (hnv _ (by omega) k5)
  rw [show pvF Kd (t + 5) = 9 from pv_s.trans k4] at g5
  have g7 := num_rng (g := g) (nv := nv) hf hN (show t + 7 < N by omega) (fun j hj => hok j (by omega)) hw hl k7 (hnv _ (by omega) k7)
  rw [show pvF Kd (t + 7) = 10 from pv_s.trans k6] at g7
  obtain ⟨⟨l0, l1, l2, l3⟩, ⟨w0, w1, w2⟩, z0, z1, z2, z3, y0, y1⟩ := z
  have e0 := ho 0 (by decide)
  have e1 := ho 1 (by decide)
  have e3 := ho 3 (by decide)
  have hll : (Pt' 2).length = (Pt 2).length + 1 := by
    rw [hP, List.length_append]
    rfl
  have cse : ∀ i, i < (Pt' 2).length → (i < (Pt 2).length ∧ ∀ c, tg (Pt' 2) i c = tg (Pt 2) i c) ∨ (i = (Pt 2).length ∧ ∀ c, tg (Pt' 2) i c = [vL rw (t + 3), vL rw (t + 5), vL rw (t + 7)].getD c 0) := fun i hi => by
    rw [hP]
    by_cases e : i < (Pt 2).length
    · exact Or.inl ⟨e, fun c => tg_app e⟩
    · have e2 : i = (Pt 2).length := by omega
      subst e2
      exact Or.inr ⟨rfl, fun c => tg_new⟩
  refine ⟨⟨?_, ?_, ?_, ?_⟩, ⟨?_, ?_, ?_⟩, ?_, ?_, ?_, ?_, ?_, ?_⟩
  · rw [e0, nm0, l0]
  · rw [e1, nm1, l1]
  · rw [hll, nm2, List.length_append, l2]
    rfl
  · rw [e3, nn, l3]
  · rw [e0]
    exact w0
  · rw [e1]
    exact w1
  · rw [hP]
    intro q hq
    rcases List.mem_append.mp hq with hq | hq
    · exact w2 q hq
    · rw [List.mem_singleton.mp hq]
      rfl
  · intro i hi
    rw [e0] at hi ⊢
    rw [old 0 (by decide) (by decide) (by decide), old 1 (by decide) (by decide) (by decide)]
    exact z0 i hi
  · intro i hi
    rw [e1] at hi ⊢
    rw [old 2 (by decide) (by decide) (by decide), old 3 (by decide) (by decide) (by decide)]
    exact z1 i hi
  · intro i hi
    rw [new4, new5, new6]
    rcases cse i hi with ⟨hi2, et⟩ | ⟨rfl, et⟩
    · have hne : ¬ i = (Pt 2).length := by omega
      rw [et 0, et 1, et 2]
      exact ⟨(if_neg hne).trans (z2 i hi2).1, (if_neg hne).trans (z2 i hi2).2.1, (if_neg hne).trans (z2 i hi2).2.2⟩
    · rw [et 0, et 1, et 2]
      exact ⟨if_pos rfl, if_pos rfl, if_pos rfl⟩
  · intro o ho2
    rw [e3] at ho2 ⊢
    rw [old 7 (by decide) (by decide) (by decide), old 8 (by decide) (by decide) (by decide), old 9 (by decide) (by decide) (by decide)]
    obtain ⟨x1, x2, x3, x4⟩ := z3 o ho2
    exact ⟨x1, fun q => ⟨(x2 q).1, (x2 q).2.le (by rw [e0]; exact Nat.le_refl _)⟩, fun q => ⟨(x3 q).1, (x3 q).2.1, (x3 q).2.2.1.le (by rw [e1]; exact Nat.le_refl _), (x3 q).2.2.2.le (by rw [e0]; exact Nat.le_refl _)⟩, fun q => ⟨(x4 q).1, (x4 q).2.1, (x4 q).2.2.1.le (by rw [hll]; exact Nat.le_succ _), (x4 q).2.2.2.le (by rw [e0]; exact Nat.le_refl _)⟩⟩
  · rw [e0]
    exact y0
  · rw [e1]
    exact y1
theorem ZR_soak (hf : ∀ i, i < N → f i = Kd i) (hN : N ≤ 401) (hw : ∀ q ∈ rows, q.length = 2) (hl : rows.length = N) (hnv : ∀ i, i < N → Kd i = 31 → rG rows (nI i) 1 = nv i) (hv1 : ∀ i, i < N → Kd i = 31 → vL rw i = nv i) (hv2 : ∀ i, i < N → mnR Kd i → vL rw i = mnF f g rows i) (z : ZR f g rows Kd nv Cb t Pt) (k0 : Kd t = 11) (k1 : Kd (t + 1) = 30) (k2 : Kd (t + 2) = 12) (hq : QI Kd (t + 3) t') (hqt : t + 3 ≤ t') (he : t' ≤ N) (hok : ∀ j, j < t' → ckE f g rows j = 0) {Pt' : Nat → bT} {q : List Int32} (hp : (Pt 3).length < 24 → Pt' 3 = Pt 3 ++ [(11 :: vL rw (t + 1) :: q)]) (ho : ∀ k, k < 3 → Pt' k = Pt k) : ZR f g rows Kd nv Cb t' Pt' := by
  have r0 : rof Kd t = 4 := by
    unfold rof roF
    rw [k0]
    rfl
  have r1 : rof Kd (t + 1) = 14 := rof_k k0 k1 (by decide)
  have a0 : zA f g rows Kd nv Cb (t + 1) = uA (zA f g rows Kd nv Cb t) 7 (upd (zA f g rows Kd nv Cb t 7) (noI Kd t) 10) := by
    show zStep f g rows Kd nv t (zA f g rows Kd nv Cb t) = _
    unfold zStep
    rw [r0]
    rfl
  have c0 : noI Kd (t + 1) = noI Kd t + 1 := by
    show noI Kd t + _ = _
    rw [if_pos (by rw [k0]; decide)]
  have b0 : ∀ m, m < 3 → nmI Kd m (t + 1) = nmI Kd m t := fun m hm => nmI_q r0 (by decide) hm
  obtain ⟨a2, b2, c2⟩ := zq (Kd := Kd) (f := f) (g := g) (rows := rows) (nv := nv) (i := t + 2) (quT_k (by rw [k2]; decide))
  have a1 : zA f g rows Kd nv Cb (t + 2) = uA (zA f g rows Kd nv Cb (t + 1)) 9 (upd (zA f g rows Kd nv Cb (t + 1) 9) (noI Kd (t + 1) - 1) (mnF f g rows (t + 1))) := by
    show zStep f g rows Kd nv (t + 1) (zA f g rows Kd nv Cb (t + 1)) = _
    unfold zStep
    rw [r1]
    rfl
  have c1 : noI Kd (t + 2) = noI Kd (t + 1) := noI_q r1 (by decide)
  have b1 : ∀ m, m < 3 → nmI Kd m (t + 2) = nmI Kd m (t + 1) := fun m hm => nmI_q r1 (by decide) hm
  have p1 : noI Kd (t + 1) - 1 = (Pt 3).length := by
    rw [c0, z.1.2.2.2]
    exact Nat.add_sub_cancel _ _
  rw [p1] at a1
  rw [← z.1.2.2.2] at a0
  obtain ⟨aq, bq, cq⟩ := zqJ (f := f) (g := g) (rows := rows) (nv := nv) hq hqt
  have nmm : ∀ m, m < 3 → nmI Kd m t' = nmI Kd m t := fun m hm => by
    rw [bq m hm, b2 m hm, b1 m hm, b0 m hm]
  have nn : noI Kd t' = noI Kd t + 1 := by
    rw [cq, c2, c1, c0]
  have hlen : (Pt 3).length < 24 := by
    have := (ckS_n (f := f) (g := g) (rows := rows) hf hN t' he (fun j hj => hok j hj)).2
    rw [nn] at this
    have h3 := z.1.2.2.2
    omega
  have hP := hp hlen
  have old : ∀ j, ¬ j = 7 → ¬ j = 9 → zA f g rows Kd nv Cb t' j = zA f g rows Kd nv Cb t j := fun j h7 h9 => by
    rw [aq, a2, a1, uA_n h9, a0, uA_n h7]
  have new7 : zA f g rows Kd nv Cb t' 7 = upd (zA f g rows Kd nv Cb t 7) (Pt 3).length (10) := by
    rw [aq, a2, a1, uA_n (by decide), a0, uA_s]
  have new9 : zA f g rows Kd nv Cb t' 9 = upd (zA f g rows Kd nv Cb t 9) (Pt 3).length (vL rw (t + 1)) := by
    rw [hv2 (t + 1) (by omega) ⟨k1, by rw [r1]; decide, by rw [r1]; decide, by rw [r1]; decide⟩]
    rw [aq, a2, a1, uA_s]
    congr 1
    rw [a0, uA_n (by decide)]
  have g1 : RGx (Pt 0).length (vL rw (t + 1)) := by
    rw [hv2 (t + 1) (by omega) ⟨k1, by rw [r1]; decide, by rw [r1]; decide, by rw [r1]; decide⟩]
    refine (told_rg (m := 0) hf hN (show t + 1 < N by omega) (fun j hj => hok j (by omega)) hw hl (by decide) k1 (fun s => by rw [show pvF Kd (t + 1) = 11 from pv_s.trans k0]; rfl)).le ?_
    rw [b0 0 (by decide), z.1.1]
    exact Nat.le_refl _
  obtain ⟨⟨l0, l1, l2, l3⟩, ⟨w0, w1, w2⟩, z0, z1, z2, z3, y0, y1⟩ := z
  have e0 := ho 0 (by decide)
  have e1 := ho 1 (by decide)
  have e2 := ho 2 (by decide)
  have hll : (Pt' 3).length = (Pt 3).length + 1 := by
    rw [hP, List.length_append]
    rfl
  refine ⟨⟨by rw [e0, nmm 0 (by decide), l0], by rw [e1, nmm 1 (by decide), l1], by rw [e2, nmm 2 (by decide), l2], by rw [hll, nn, l3]⟩, ⟨by rw [e0]; exact w0, by rw [e1]; exact w1, by rw [e2]; exact w2⟩, ?_, ?_, ?_, ?_, by rw [e0]; exact y0, by rw [e1]; exact y1⟩
  · intro i hi
    rw [e0] at hi ⊢
    rw [old 0 (by decide) (by decide), old 1 (by decide) (by decide)]
    exact z0 i hi
  · intro i hi
    rw [e1] at hi ⊢
    rw [old 2 (by decide) (by decide), old 3 (by decide) (by decide)]
    exact z1 i hi
  · intro i hi
    rw [e2] at hi ⊢
    rw [old 4 (by decide) (by decide), old 5 (by decide) (by decide), old 6 (by decide) (by decide)]
    exact z2 i hi
  · intro o ho2
    rw [e0, e1, e2, new7, new9, old 8 (by decide) (by decide)]
    by_cases e : o < (Pt 3).length
    · have et : ∀ c, tg (Pt' 3) o c = tg (Pt 3) o c := fun c => by
        rw [hP]
        exact tg_app e
      have hne : ¬ o = (Pt 3).length := by omega
      rw [et 0, et 1, et 2]
      obtain ⟨x1, x2, x3, x4⟩ := z3 o e
      exact ⟨(if_neg hne).trans x1, fun q => ⟨(if_neg hne).trans (x2 q).1, (x2 q).2⟩, fun q => ⟨(x3 q).1, (if_neg hne).trans (x3 q).2.1, (x3 q).2.2⟩, fun q => ⟨(x4 q).1, (if_neg hne).trans (x4 q).2.1, (x4 q).2.2⟩⟩
    · have e4 : o = (Pt 3).length := by omega
      subst e4
      have et : ∀ c, tg (Pt' 3) (Pt 3).length c = (11 :: vL rw (t + 1) :: q).getD c 0 := fun c => by
        rw [hP]
        exact tg_new
      rw [et 0, et 1, et 2]
      exact ⟨(if_pos rfl).trans (show (10 : Int32) = 11 - 1 by decide), fun _ => ⟨if_pos rfl, g1⟩, fun z => absurd (show (11 : Int32) = 13 from z) (by decide), fun z => absurd (show (11 : Int32) = 15 from z) (by decide)⟩
theorem ZR_beat (hf : ∀ i, i < N → f i = Kd i) (hN : N ≤ 401) (hw : ∀ q ∈ rows, q.length = 2) (hl : rows.length = N) (hnv : ∀ i, i < N → Kd i = 31 → rG rows (nI i) 1 = nv i) (hv1 : ∀ i, i < N → Kd i = 31 → vL rw i = nv i) (hv2 : ∀ i, i < N → mnR Kd i → vL rw i = mnF f g rows i) (z : ZR f g rows Kd nv Cb t Pt) (k0 : Kd t = 13) (k1 : Kd (t + 1) = 30) (k2 : Kd (t + 2) = 14) (k3 : Kd (t + 3) = 30) (hq : QI Kd (t + 4) t') (hqt : t + 4 ≤ t') (he : t' ≤ N) (hok : ∀ j, j < t' → ckE f g rows j = 0) {Pt' : Nat → bT} {q : List Int32} (hp : (Pt 3).length < 24 → Pt' 3 = Pt 3 ++ [(13 :: vL rw (t + 1) :: vL rw (t + 3) :: q)]) (ho : ∀ k, k < 3 → Pt' k = Pt k) : ZR f g rows Kd nv Cb t' Pt' := by
  have r0 : rof Kd t = 5 := by
    unfold rof roF
    rw [k0]
    rfl
  have r1 : rof Kd (t + 1) = 15 := rof_k k0 k1 (by decide)
  have r3 : rof Kd (t + 3) = 16 := rof_k k2 k3 (by decide)
  have a0 : zA f g rows Kd nv Cb (t + 1) = uA (zA f g rows Kd nv Cb t) 7 (upd (zA f g rows Kd nv Cb t 7) (noI Kd t) 12) := by
    show zStep f g rows Kd nv t (zA f g rows Kd nv Cb t) = _
    unfold zStep
    rw [r0]
    rfl
  have c0 : noI Kd (t + 1) = noI Kd t + 1 := by
    show noI Kd t + _ = _
    rw [if_pos (by rw [k0]; decide)]
  have b0 : ∀ m, m < 3 → nmI Kd m (t + 1) = nmI Kd m t := fun m hm => nmI_q r0 (by decide) hm
  obtain ⟨a2, b2, c2⟩ := zq (Kd := Kd) (f := f) (g := g) (rows := rows) (nv := nv) (i := t + 2) (quT_k (by rw [k2]; decide))
  have a1 : zA f g rows Kd nv Cb (t + 2) = uA (zA f g rows Kd nv Cb (t + 1)) 8 (upd (zA f g rows Kd nv Cb (t + 1) 8) (noI Kd (t + 1) - 1) (mnF f g rows (t + 1))) := by
    show zStep f g rows Kd nv (t + 1) (zA f g rows Kd nv Cb (t + 1)) = _
    unfold zStep
    rw [r1]
    rfl
  have c1 : noI Kd (t + 2) = noI Kd (t + 1) := noI_q r1 (by decide)
  have b1 : ∀ m, m < 3 → nmI Kd m (t + 2) = nmI Kd m (t + 1) := fun m hm => nmI_q r1 (by decide) hm
  have p1 : noI Kd (t + 1) - 1 = (Pt 3).length := by
    rw [c0, z.1.2.2.2]
    exact Nat.add_sub_cancel _ _
  rw [p1] at a1
  have a3 : zA f g rows Kd nv Cb (t + 4) = uA (zA f g rows Kd nv Cb (t + 3)) 9 (upd (zA f g rows Kd nv Cb (t + 3) 9) (noI Kd (t + 3) - 1) (mnF f g rows (t + 3))) := by
    show zStep f g rows Kd nv (t + 3) (zA f g rows Kd nv Cb (t + 3)) = _
    unfold zStep
    rw [r3]
    rfl
  have c3 : noI Kd (t + 4) = noI Kd (t + 3) := noI_q r3 (by decide)
  have b3 : ∀ m, m < 3 → nmI Kd m (t + 4) = nmI Kd m (t + 3) := fun m hm => nmI_q r3 (by decide) hm
  have p3 : noI Kd (t + 3) - 1 = (Pt 3).length := by
    rw [c2, c1, c0, z.1.2.2.2]
    exact Nat.add_sub_cancel _ _
  rw [p3] at a3
  rw [← z.1.2.2.2] at a0
  obtain ⟨aq, bq, cq⟩ := zqJ (f := f) (g := g) (rows := rows) (nv := nv) hq hqt
  have nmm : ∀ m, m < 3 → nmI Kd m t' = nmI Kd m t := fun m hm => by
    rw [bq m hm, b3 m hm, b2 m hm, b1 m hm, b0 m hm]
  have nn : noI Kd t' = noI Kd t + 1 := by
    rw [cq, c3, c2, c1, c0]
  have hlen : (Pt 3).length < 24 := by
    have := (ckS_n (f := f) (g := g) (rows := rows) hf hN t' he (fun j hj => hok j hj)).2
    rw [nn] at this
    have h3 := z.1.2.2.2
    omega
  have hP := hp hlen
  have old : ∀ j, ¬ j = 7 → ¬ j = 8 → ¬ j = 9 → zA f g rows Kd nv Cb t' j = zA f g rows Kd nv Cb t j := fun j h7 h8 h9 => by
    rw [aq, a3, uA_n h9, a2, a1, uA_n h8, a0, uA_n h7]
  have new7 : zA f g rows Kd nv Cb t' 7 = upd (zA f g rows Kd nv Cb t 7) (Pt 3).length (12) := by
    rw [aq, a3, uA_n (by decide), a2, a1, uA_n (by decide), a0, uA_s]
  have new8 : zA f g rows Kd nv Cb t' 8 = upd (zA f g rows Kd nv Cb t 8) (Pt 3).length (vL rw (t + 1)) := by
    rw [hv2 (t + 1) (by omega) ⟨k1, by rw [r1]; decide, by rw [r1]; decide, by rw [r1]; decide⟩]
    rw [aq, a3, uA_n (by decide), a2, a1, uA_s]
    congr 1
    rw [a0, uA_n (by decide)]
  have new9 : zA f g rows Kd nv Cb t' 9 = upd (zA f g rows Kd nv Cb t 9) (Pt 3).length (vL rw (t + 3)) := by
    rw [hv2 (t + 3) (by omega) ⟨k3, by rw [r3]; decide, by rw [r3]; decide, by rw [r3]; decide⟩]
    rw [aq, a3, uA_s]
    congr 1
    rw [a2, a1, uA_n (by decide), a0, uA_n (by decide)]
  have g1 : RGx (Pt 1).length (vL rw (t + 1)) := by
    rw [hv2 (t + 1) (by omega) ⟨k1, by rw [r1]; decide, by rw [r1]; decide, by rw [r1]; decide⟩]
    refine (told_rg (m := 1) hf hN (show t + 1 < N by omega) (fun j hj => hok j (by omega)) hw hl (by decide) k1 (fun s => by rw [show pvF Kd (t + 1) = 13 from pv_s.trans k0]; rfl)).le ?_
    rw [b0 1 (by decide), z.1.2.1]
    exact Nat.le_refl _
  have g3 : RGx (Pt 0).length (vL rw (t + 3)) := by
    rw [hv2 (t + 3) (by omega) ⟨k3, by rw [r3]; decide, by rw [r3]; decide, by rw [r3]; decide⟩]
    refine (told_rg (m := 0) hf hN (show t + 3 < N by omega) (fun j hj => hok j (by omega)) hw hl (by decide) k3 (fun s => by rw [show pvF Kd (t + 3) = 14 from pv_s.trans k2]; rfl)).le ?_
    rw [b2 0 (by decide), b1 0 (by decide), b0 0 (by decide), z.1.1]
    exact Nat.le_refl _
  obtain ⟨⟨l0, l1, l2, l3⟩, ⟨w0, w1, w2⟩, z0, z1, z2, z3, y0, y1⟩ := z
  have e0 := ho 0 (by decide)
  have e1 := ho 1 (by decide)
  have e2 := ho 2 (by decide)
  have hll : (Pt' 3).length = (Pt 3).length + 1 := by
    rw [hP, List.length_append]
    rfl
  refine ⟨⟨by rw [e0, nmm 0 (by decide), l0], by rw [e1, nmm 1 (by decide), l1], by rw [e2, nmm 2 (by decide), l2], by rw [hll, nn, l3]⟩, ⟨by rw [e0]; exact w0, by rw [e1]; exact w1, by rw [e2]; exact w2⟩, ?_, ?_, ?_, ?_, by rw [e0]; exact y0, by rw [e1]; exact y1⟩
  · intro i hi
    rw [e0] at hi ⊢
    rw [old 0 (by decide) (by decide) (by decide), old 1 (by decide) (by decide) (by decide)]
    exact z0 i hi
  · intro i hi
    rw [e1] at hi ⊢
    rw [old 2 (by decide) (by decide) (by decide), old 3 (by decide) (by decide) (by decide)]
    exact z1 i hi
  · intro i hi
    rw [e2] at hi ⊢
    rw [old 4 (by decide) (by decide) (by decide), old 5 (by decide) (by decide) (by decide), old 6 (by decide) (by decide) (by decide)]
    exact z2 i hi
  · intro o ho2
    rw [e0, e1, e2, new7, new8, new9]
    by_cases e : o < (Pt 3).length
    · have et : ∀ c, tg (Pt' 3) o c = tg (Pt 3) o c := fun c => by
        rw [hP]
        exact tg_app e
      have hne : ¬ o = (Pt 3).length := by omega
      rw [et 0, et 1, et 2]
      obtain ⟨x1, x2, x3, x4⟩ := z3 o e
      exact ⟨(if_neg hne).trans x1, fun q => ⟨(if_neg hne).trans (x2 q).1, (x2 q).2⟩, fun q => ⟨(if_neg hne).trans (x3 q).1, (if_neg hne).trans (x3 q).2.1, (x3 q).2.2⟩, fun q => ⟨(if_neg hne).trans (x4 q).1, (if_neg hne).trans (x4 q).2.1, (x4 q).2.2⟩⟩
    · have e4 : o = (Pt 3).length := by omega
      subst e4
      have et : ∀ c, tg (Pt' 3) (Pt 3).length c = (13 :: vL rw (t + 1) :: vL rw (t + 3) :: q).getD c 0 := fun c => by
        rw [hP]
        exact tg_new
      rw [et 0, et 1, et 2]
      exact ⟨(if_pos rfl).trans (show (12 : Int32) = 13 - 1 by decide), fun z => absurd (show (13 : Int32) = 11 from z) (by decide), fun _ => ⟨if_pos rfl, if_pos rfl, g1, g3⟩, fun z => absurd (show (13 : Int32) = 15 from z) (by decide)⟩
theorem ZR_cut (hf : ∀ i, i < N → f i = Kd i) (hN : N ≤ 401) (hw : ∀ q ∈ rows, q.length = 2) (hl : rows.length = N) (hnv : ∀ i, i < N → Kd i = 31 → rG rows (nI i) 1 = nv i) (hv1 : ∀ i, i < N → Kd i = 31 → vL rw i = nv i) (hv2 : ∀ i, i < N → mnR Kd i → vL rw i = mnF f g rows i) (z : ZR f g rows Kd nv Cb t Pt) (k0 : Kd t = 15) (k1 : Kd (t + 1) = 30) (k2 : Kd (t + 2) = 16) (k3 : Kd (t + 3) = 30) (hq : QI Kd (t + 4) t') (hqt : t + 4 ≤ t') (he : t' ≤ N) (hok : ∀ j, j < t' → ckE f g rows j = 0) {Pt' : Nat → bT} {q : List Int32} (hp : (Pt 3).length < 24 → Pt' 3 = Pt 3 ++ [(15 :: vL rw (t + 1) :: vL rw (t + 3) :: q)]) (ho : ∀ k, k < 3 → Pt' k = Pt k) : ZR f g rows Kd nv Cb t' Pt' := by
  have r0 : rof Kd t = 6 := by
    unfold rof roF
    rw [k0]
    rfl
  have r1 : rof Kd (t + 1) = 17 := rof_k k0 k1 (by decide)
  have r3 : rof Kd (t + 3) = 18 := rof_k k2 k3 (by decide)
  have a0 : zA f g rows Kd nv Cb (t + 1) = uA (zA f g rows Kd nv Cb t) 7 (upd (zA f g rows Kd nv Cb t 7) (noI Kd t) 14) := by
    show zStep f g rows Kd nv t (zA f g rows Kd nv Cb t) = _
    unfold zStep
    rw [r0]
    rfl
  have c0 : noI Kd (t + 1) = noI Kd t + 1 := by
    show noI Kd t + _ = _
    rw [if_pos (by rw [k0]; decide)]
  have b0 : ∀ m, m < 3 → nmI Kd m (t + 1) = nmI Kd m t := fun m hm => nmI_q r0 (by decide) hm
  obtain ⟨a2, b2, c2⟩ := zq (Kd := Kd) (f := f) (g := g) (rows := rows) (nv := nv) (i := t + 2) (quT_k (by rw [k2]; decide))
  have a1 : zA f g rows Kd nv Cb (t + 2) = uA (zA f g rows Kd nv Cb (t + 1)) 8 (upd (zA f g rows Kd nv Cb (t + 1) 8) (noI Kd (t + 1) - 1) (mnF f g rows (t + 1))) := by
    show zStep f g rows Kd nv (t + 1) (zA f g rows Kd nv Cb (t + 1)) = _
    unfold zStep
    rw [r1]
    rfl
  have c1 : noI Kd (t + 2) = noI Kd (t + 1) := noI_q r1 (by decide)
  have b1 : ∀ m, m < 3 → nmI Kd m (t + 2) = nmI Kd m (t + 1) := fun m hm => nmI_q r1 (by decide) hm
  have p1 : noI Kd (t + 1) - 1 = (Pt 3).length := by
    rw [c0, z.1.2.2.2]
    exact Nat.add_sub_cancel _ _
  rw [p1] at a1
  have a3 : zA f g rows Kd nv Cb (t + 4) = uA (zA f g rows Kd nv Cb (t + 3)) 9 (upd (zA f g rows Kd nv Cb (t + 3) 9) (noI Kd (t + 3) - 1) (mnF f g rows (t + 3))) := by
    show zStep f g rows Kd nv (t + 3) (zA f g rows Kd nv Cb (t + 3)) = _
    unfold zStep
    rw [r3]
    rfl
  have c3 : noI Kd (t + 4) = noI Kd (t + 3) := noI_q r3 (by decide)
  have b3 : ∀ m, m < 3 → nmI Kd m (t + 4) = nmI Kd m (t + 3) := fun m hm => nmI_q r3 (by decide) hm
  have p3 : noI Kd (t + 3) - 1 = (Pt 3).length := by
    rw [c2, c1, c0, z.1.2.2.2]
    exact Nat.add_sub_cancel _ _
  rw [p3] at a3
  rw [← z.1.2.2.2] at a0
  obtain ⟨aq, bq, cq⟩ := zqJ (f := f) (g := g) (rows := rows) (nv := nv) hq hqt
  have nmm : ∀ m, m < 3 → nmI Kd m t' = nmI Kd m t := fun m hm => by
    rw [bq m hm, b3 m hm, b2 m hm, b1 m hm, b0 m hm]
  have nn : noI Kd t' = noI Kd t + 1 := by
    rw [cq, c3, c2, c1, c0]
  have hlen : (Pt 3).length < 24 := by
    have := (ckS_n (f := f) (g := g) (rows := rows) hf hN t' he (fun j hj => hok j hj)).2
    rw [nn] at this
    have h3 := z.1.2.2.2
    omega
  have hP := hp hlen
  have old : ∀ j, ¬ j = 7 → ¬ j = 8 → ¬ j = 9 → zA f g rows Kd nv Cb t' j = zA f g rows Kd nv Cb t j := fun j h7 h8 h9 => by
    rw [aq, a3, uA_n h9, a2, a1, uA_n h8, a0, uA_n h7]
  have new7 : zA f g rows Kd nv Cb t' 7 = upd (zA f g rows Kd nv Cb t 7) (Pt 3).length (14) := by
    rw [aq, a3, uA_n (by decide), a2, a1, uA_n (by decide), a0, uA_s]
  have new8 : zA f g rows Kd nv Cb t' 8 = upd (zA f g rows Kd nv Cb t 8) (Pt 3).length (vL rw (t + 1)) := by
    rw [hv2 (t + 1) (by omega) ⟨k1, by rw [r1]; decide, by rw [r1]; decide, by rw [r1]; decide⟩]
    rw [aq, a3, uA_n (by decide), a2, a1, uA_s]
    congr 1
    rw [a0, uA_n (by decide)]
  have new9 : zA f g rows Kd nv Cb t' 9 = upd (zA f g rows Kd nv Cb t 9) (Pt 3).length (vL rw (t + 3)) := by
    rw [hv2 (t + 3) (by omega) ⟨k3, by rw [r3]; decide, by rw [r3]; decide, by rw [r3]; decide⟩]
    rw [aq, a3, uA_s]
    congr 1
    rw [a2, a1, uA_n (by decide), a0, uA_n (by decide)]
  have g1 : RGx (Pt 2).length (vL rw (t + 1)) := by
    rw [hv2 (t + 1) (by omega) ⟨k1, by rw [r1]; decide, by rw [r1]; decide, by rw [r1]; decide⟩]
    refine (told_rg (m := 2) hf hN (show t + 1 < N by omega) (fun j hj => hok j (by omega)) hw hl (by decide) k1 (fun s => by rw [show pvF Kd (t + 1) = 15 from pv_s.trans k0]; rfl)).le ?_
    rw [b0 2 (by decide), z.1.2.2.1]
    exact Nat.le_refl _
  have g3 : RGx (Pt 0).length (vL rw (t + 3)) := by
    rw [hv2 (t + 3) (by omega) ⟨k3, by rw [r3]; decide, by rw [r3]; decide, by rw [r3]; decide⟩]
    refine (told_rg (m := 0) hf hN (show t + 3 < N by omega) (fun j hj => hok j (by omega)) hw hl (by decide) k3 (fun s => by rw [show pvF Kd (t + 3) = 16 from pv_s.trans k2]; rfl)).le ?_
    rw [b2 0 (by decide), b1 0 (by decide), b0 0 (by decide), z.1.1]
    exact Nat.le_refl _
  obtain ⟨⟨l0, l1, l2, l3⟩, ⟨w0, w1, w2⟩, z0, z1, z2, z3, y0, y1⟩ := z
  have e0 := ho 0 (by decide)
  have e1 := ho 1 (by decide)
  have e2 := ho 2 (by decide)
  have hll : (Pt' 3).length = (Pt 3).length + 1 := by
    rw [hP, List.length_append]
    rfl
  refine ⟨⟨by rw [e0, nmm 0 (by decide), l0], by rw [e1, nmm 1 (by decide), l1], by rw [e2, nmm 2 (by decide), l2], by rw [hll, nn, l3]⟩, ⟨by rw [e0]; exact w0, by rw [e1]; exact w1, by rw [e2]; exact w2⟩, ?_, ?_, ?_, ?_, by rw [e0]; exact y0, by rw [e1]; exact y1⟩
  · intro i hi
    rw [e0] at hi ⊢
    rw [old 0 (by decide) (by decide) (by decide), old 1 (by decide) (by decide) (by decide)]
    exact z0 i hi
  · intro i hi
    rw [e1] at hi ⊢
    rw [old 2 (by decide) (by decide) (by decide), old 3 (by decide) (by decide) (by decide)]
    exact z1 i hi
  · intro i hi
    rw [e2] at hi ⊢
    rw [old 4 (by decide) (by decide) (by decide), old 5 (by decide) (by decide) (by decide), old 6 (by decide) (by decide) (by decide)]
    exact z2 i hi
  · intro o ho2
    rw [e0, e1, e2, new7, new8, new9]
    by_cases e : o < (Pt 3).length
    · have et : ∀ c, tg (Pt' 3) o c = tg (Pt 3) o c := fun c => by
        rw [hP]
        exact tg_app e
      have hne : ¬ o = (Pt 3).length := by omega
      rw [et 0, et 1, et 2]
      obtain ⟨x1, x2, x3, x4⟩ := z3 o e
      exact ⟨(if_neg hne).trans x1, fun q => ⟨(if_neg hne).trans (x2 q).1, (x2 q).2⟩, fun q => ⟨(if_neg hne).trans (x3 q).1, (if_neg hne).trans (x3 q).2.1, (x3 q).2.2⟩, fun q => ⟨(if_neg hne).trans (x4 q).1, (if_neg hne).trans (x4 q).2.1, (x4 q).2.2⟩⟩
    · have e4 : o = (Pt 3).length := by omega
      subst e4
      have et : ∀ c, tg (Pt' 3) (Pt 3).length c = (15 :: vL rw (t + 1) :: vL rw (t + 3) :: q).getD c 0 := fun c => by
        rw [hP]
        exact tg_new
      rw [et 0, et 1, et 2]
      exact ⟨(if_pos rfl).trans (show (14 : Int32) = 15 - 1 by decide), fun z => absurd (show (15 : Int32) = 11 from z) (by decide), fun z => absurd (show (15 : Int32) = 13 from z) (by decide), fun _ => ⟨if_pos rfl, if_pos rfl, g1, g3⟩⟩
theorem ZR_line (hf : ∀ i, i < N → f i = Kd i) (hN : N ≤ 401) (hw : ∀ q ∈ rows, q.length = 2) (hl : rows.length = N) (hnv : ∀ i, i < N → Kd i = 31 → rG rows (nI i) 1 = nv i) (hv1 : ∀ i, i < N → Kd i = 31 → vL rw i = nv i) (hv2 : ∀ i, i < N → mnR Kd i → vL rw i = mnF f g rows i) (z : ZR f g rows Kd nv Cb t Pt) (h : LSh Kd rw t Pt s') (he : s'.1 ≤ N) (hok : ∀ j, j < s'.1 → ckE f g rows j = 0) : ZR f g rows Kd nv Cb s'.1 s'.2.1 := by
  rcases h with ⟨k0, k1, k2, k3, k4, k5, e, hp, ho⟩ | ⟨k0, k1, k2, k3, k4, k5, e, hp, ho⟩ | ⟨k0, k1, k2, k3, k4, k5, k6, k7, e, hp, ho⟩ | ⟨q, k0, k1, k2, hq, hqt, hp, _, ho⟩ | ⟨q, a, l, hal, k0, k1, k2, k3, hq, hqt, hp, _, ho⟩
  · rw [e] at he hok ⊢
    exact ZR_bark hf hN hw hl hnv hv1 hv2 z k0 k1 k2 k3 k4 k5 he hok hp ho
  · rw [e] at he hok ⊢
    exact ZR_beater hf hN hw hl hnv hv1 hv2 z k0 k1 k2 k3 k4 k5 he hok hp ho
  · rw [e] at he hok ⊢
    exact ZR_spirit hf hN hw hl hnv hv1 hv2 z k0 k1 k2 k3 k4 k5 k6 k7 he hok hp ho
  · exact ZR_soak hf hN hw hl hnv hv1 hv2 z k0 k1 k2 hq hqt he hok hp ho
  · rcases hal with ⟨rfl, rfl⟩ | ⟨rfl, rfl⟩
    · exact ZR_beat hf hN hw hl hnv hv1 hv2 z k0 k1 k2 k3 hq hqt he hok hp ho
    · exact ZR_cut hf hN hw hl hnv hv1 hv2 z k0 k1 k2 k3 hq hqt he hok hp ho
theorem sh_le3 (h : LSh Kd rw t Pt s') (hl : (Pt 3).length ≤ 24) : (s'.2.1 3).length ≤ 24 := by
  rcases h with ⟨_, _, _, _, _, _, _, _, ho⟩ | ⟨_, _, _, _, _, _, _, _, ho⟩ | ⟨_, _, _, _, _, _, _, _, _, _, ho⟩ | ⟨_, _, _, _, _, _, hp, hn, _⟩ | ⟨_, _, _, _, _, _, _, _, _, _, hp, hn, _⟩
  · rw [ho 3 (by decide)]
    exact hl
  · rw [ho 3 (by decide)]
    exact hl
  · rw [ho 3 (by decide)]
    exact hl
  · by_cases e : (Pt 3).length < 24
    · rw [hp e, List.length_append]
      exact e
    · rw [hn e]
      exact hl
  · by_cases e : (Pt 3).length < 24
    · rw [hp e, List.length_append]
      exact e
    · rw [hn e]
      exact hl
/-- a list that fits: every token stands where it may -/
theorem ls_okt {od : Int32} : ∀ (c t : Nat) (Pt : Nat → bT) (od : Int32), (Pt 3).length ≤ 24 → (lsL Kd rw c (t, Pt, od)).1 = true → Kd (lsL Kd rw c (t, Pt, od)).2.1 = 47 ∧ ∀ i, t ≤ i → i < (lsL Kd rw c (t, Pt, od)).2.1 → OKT Kd i
  | 0, t, Pt, od, _, h => Bool.noConfusion h
  | c + 1, t, Pt, od, hl, h => by
    by_cases e : Kd t = 47
    · rw [lsL_e (s := (t, Pt, od)) e]
      exact ⟨e, fun i h1 h2 => absurd h2 (Nat.not_lt.mpr h1)⟩
    · rw [lsL_s (s := (t, Pt, od)) e] at h ⊢
      by_cases r1 : (lnAll Kd rw (t, Pt, od)).1 = true
      · rw [sqS_t (b := fun s => tkS Kd 36 s) r1] at h ⊢
        obtain ⟨k, e2⟩ := tk_i h
        rw [e2] at h ⊢
        have sh := shape (od := od) (by omega) r1
        obtain ⟨i1, i2⟩ := ls_okt (od := od) c _ _ _ (sh_le3 sh hl) h
        refine ⟨i1, fun i h1 h2 => ?_⟩
        by_cases z : i < (lnAll Kd rw (t, Pt, od)).2.1
        · exact okt_line sh i h1 z
        · by_cases z2 : i = (lnAll Kd rw (t, Pt, od)).2.1
          · rw [z2]
            exact okt_q (quT_k (by rw [k]; decide))
          · exact i2 i (by omega) h2
      · rw [sqS_f (a := lnAll Kd rw (t, Pt, od)) (b := fun s => tkS Kd 36 s) r1, sqS_f r1] at h
        exact absurd h r1
theorem ls_zr (hf : ∀ i, i < N → f i = Kd i) (hN : N ≤ 401) (hw : ∀ q ∈ rows, q.length = 2) (hl : rows.length = N) (hnv : ∀ i, i < N → Kd i = 31 → rG rows (nI i) 1 = nv i) (hv1 : ∀ i, i < N → Kd i = 31 → vL rw i = nv i) (hv2 : ∀ i, i < N → mnR Kd i → vL rw i = mnF f g rows i) (hE : Kd (N - 1) = 47 ∨ Kd (N - 1) = 0) (hok : ∀ j, j < N → ckE f g rows j = 0) : ∀ (c t : Nat) (Pt : Nat → bT) (od : Int32), SV N (t, Pt, od) → (Pt 3).length ≤ 24 → ZR f g rows Kd nv Cb t Pt → (lsL Kd rw c (t, Pt, od)).1 = true → ZR f g rows Kd nv Cb (lsL Kd rw c (t, Pt, od)).2.1 (lsL Kd rw c (t, Pt, od)).2.2.1 ∧ (lsL Kd rw c (t, Pt, od)).2.1 < N ∧ t ≤ (lsL Kd rw c (t, Pt, od)).2.1
  | 0, t, Pt, od, _, _, _, h => Bool.noConfusion h
  | c + 1, t, Pt, od, hv, hlen, z, h => by
    by_cases e : Kd t = 47
    · rw [lsL_e (s := (t, Pt, od)) e]
      exact ⟨z, hv.1, Nat.le_refl t⟩
    · rw [lsL_s (s := (t, Pt, od)) e] at h ⊢
      have hsk : SK N 1 t (lnAll Kd rw (t, Pt, od)) := lnAll_k hE hv
      by_cases r1 : (lnAll Kd rw (t, Pt, od)).1 = true
      · rw [sqS_t (b := fun s => tkS Kd 36 s) r1] at h ⊢
        obtain ⟨k, e2⟩ := tk_i h
        rw [e2] at h ⊢
        have sh := shape (od := od) (by omega) r1
        have h1 := hsk.1.1
        have z2 := ZR_line hf hN hw hl hnv hv1 hv2 z sh (by omega) (fun j hj => hok j (by omega))
        have z3 := ZR_q z2 (quT_k (by rw [k]; decide))
        obtain ⟨i1, i2, i3⟩ := ls_zr hf hN hw hl hnv hv1 hv2 hE hok c _ _ _ ⟨KEk hE h1 k (by decide) (by decide), Nat.le_succ_of_le hsk.1.2⟩ (sh_le3 sh hlen) z3 h
        exact ⟨i1, i2, Nat.le_trans hsk.2.1 (Nat.le_of_succ_le i3)⟩
      · rw [sqS_f (a := lnAll Kd rw (t, Pt, od)) (b := fun s => tkS Kd 36 s) r1, sqS_f r1] at h
        exact absurd h r1
theorem ZR_0 : ZR f g rows Kd nv Cb 0 (fun _ => []) := by
  refine ⟨⟨rfl, rfl, rfl, rfl⟩, ⟨fun q hq => absurd hq List.not_mem_nil, fun q hq => absurd hq List.not_mem_nil, fun q hq => absurd hq List.not_mem_nil⟩, ?_, ?_, ?_, ?_, ?_, ?_⟩ <;> exact fun i hi => absurd hi (Nat.not_lt_zero i)
end ZZ
