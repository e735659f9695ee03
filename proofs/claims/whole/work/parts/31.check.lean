/-! The checker: errors 2 to 5. Printed by wip/whole/mk31.py. -/
def uL (L : Nat → List Int64) (m : Nat) (l : List Int64) : Nat → List Int64 := fun k => if k = m then l else L k
abbrev bC : Type := (Nat → List Int64) × Int32 × bT
def ckNew (g : Nat → Int64) (i m r : Nat) (s : bC) : Int32 × bC := if ¬ ixL (s.1 m) (g i) 0 < 0 then (2, s) else if r ≤ (s.1 m).length then (4, s) else (0, (uL s.1 m (s.1 m ++ [g i]), s.2))
def ckTold (g : Nat → Int64) (i m : Nat) (s : bC) : Int32 × bC := (if ixL (s.1 m) (g i) 0 < 0 then 3 else 0, (s.1, s.2.1, rS s.2.2 (nI i) 1 (ixL (s.1 m) (g i) 0)))
def ckName (g : Nat → Int64) (i : Nat) (b : Int32) (s : bC) : Int32 × bC :=
  if b = 1 then ckNew g i 0 5 s else if b = 4 then ckNew g i 1 6 s else if b = 7 then ckNew g i 2 6 s else if b = 13 then ckTold g i 1 s else if b = 15 then ckTold g i 2 s else if b = 22 then ckTold g i 2 s else ckTold g i 0 s
def rngB (v b : Int32) : Bool :=
  if b = 2 then decide (¬ v < 0 ∧ ¬ 500 < v) else if b = 3 then decide (¬ v < 1 ∧ ¬ 9 < v) else if b = 5 then decide (¬ v < 1 ∧ ¬ 9 < v) else if b = 6 then decide (¬ v < 1 ∧ ¬ 6 < v)
  else if b = 8 then decide (¬ v < 0 ∧ ¬ 4 < v) else if b = 9 then decide (¬ v < 1 ∧ ¬ 30 < v) else if b = 10 then decide (¬ v < 1 ∧ ¬ 99 < v) else true
def ck1 (f : Nat → Int32) (g : Nat → Int64) (i : Nat) (s : bC) : Int32 × bC :=
  if f i = 30 then ckName g i (kiF f (nI i - 1)) s else if f i = 31 then (if rngB (rG s.2.2 (nI i) 1) (kiF f (nI i - 1)) = true then 0 else 5, s)
  else if f i = 11 then (if ¬ 24 < s.2.1 + 1 then 0 else 4, (s.1, s.2.1 + 1, s.2.2)) else if f i = 13 then (if ¬ 24 < s.2.1 + 1 then 0 else 4, (s.1, s.2.1 + 1, s.2.2)) else if f i = 15 then (if ¬ 24 < s.2.1 + 1 then 0 else 4, (s.1, s.2.1 + 1, s.2.2)) else (0, s)
def ckL (f : Nat → Int32) (g : Nat → Int64) : Nat → Nat → Int32 × Int32 × bC → Int32 × Int32 × bC
  | 0, _, q => q
  | c + 1, i, q => if q.1 = 0 then ckL f g c (i + 1) ((ck1 f g i q.2.2).1, nI i, (ck1 f g i q.2.2).2) else q
def ckF (f : Nat → Int32) (g : Nat → Int64) (et : Int32) (rows : bT) : Int32 × Int32 × bC := ckL f g rows.length 0 (0, et, (fun _ => [], 0, rows))
def HO (h : bk_H) (a tk tp : Nat) (T : List Int32) (p : Nat) (f : Nat → Int32) (g : Nat → Int64) (s : bC) (er et : Int32) : Prop :=
  KO h tk tp T p s.2.2 f g ∧ h a = some (.inr (0, [.ref tk, .ref (a + 1), .ref (a + 3), .ref (a + 5), .int s.2.1, .int er, .int et])) ∧ NM h (a + 1) 5 (s.1 0) ∧ NM h (a + 3) 6 (s.1 1) ∧ NM h (a + 5) 6 (s.1 2) ∧ tk + 7 ≤ a
theorem HO.n0 {h h' : bk_H} {a tk tp p : Nat} {T : List Int32} {f : Nat → Int32} {g : Nat → Int64} {s : bC} {er et : Int32} {l : List Int64} (q : HO h a tk tp T p f g s er et) (k : NM h' (a + 1) 5 l) (w : fr h h' (a + 1) (a + 1 + 2)) : HO h' a tk tp T p f g (uL s.1 0 l, s.2) er et := by
  obtain ⟨h1, h2, h3, h4, h5, h6⟩ := q
  have ktp := h1.2.2.2.2.2.2
  exact ⟨h1.kp w (by omega), (w a (by omega)).trans h2, k, h4.kp w (by omega), h5.kp w (by omega), h6⟩
theorem HO.n1 {h h' : bk_H} {a tk tp p : Nat} {T : List Int32} {f : Nat → Int32} {g : Nat → Int64} {s : bC} {er et : Int32} {l : List Int64} (q : HO h a tk tp T p f g s er et) (k : NM h' (a + 3) 6 l) (w : fr h h' (a + 3) (a + 3 + 2)) : HO h' a tk tp T p f g (uL s.1 1 l, s.2) er et := by
  obtain ⟨h1, h2, h3, h4, h5, h6⟩ := q
  have ktp := h1.2.2.2.2.2.2
  exact ⟨h1.kp w (by omega), (w a (by omega)).trans h2, h3.kp w (by omega), k, h5.kp w (by omega), h6⟩
theorem HO.n2 {h h' : bk_H} {a tk tp p : Nat} {T : List Int32} {f : Nat → Int32} {g : Nat → Int64} {s : bC} {er et : Int32} {l : List Int64} (q : HO h a tk tp T p f g s er et) (k : NM h' (a + 5) 6 l) (w : fr h h' (a + 5) (a + 5 + 2)) : HO h' a tk tp T p f g (uL s.1 2 l, s.2) er et := by
  obtain ⟨h1, h2, h3, h4, h5, h6⟩ := q
  have ktp := h1.2.2.2.2.2.2
  exact ⟨h1.kp w (by omega), (w a (by omega)).trans h2, h3.kp w (by omega), h4.kp w (by omega), k, h6⟩
theorem HO.v {h h' : bk_H} {a tk tp p : Nat} {T : List Int32} {f : Nat → Int32} {g : Nat → Int64} {s : bC} {er et : Int32} {rows : bT} (q : HO h a tk tp T p f g s er et) (k : KO h' tk tp T p rows f g) (w : fr h h' tk (tk + 7)) : HO h' a tk tp T p f g (s.1, s.2.1, rows) er et := by
  obtain ⟨h1, h2, h3, h4, h5, h6⟩ := q
  exact ⟨k, (w a (by omega)).trans h2, h3.kp w (by omega), h4.kp w (by omega), h5.kp w (by omega), h6⟩
theorem HO.o {h h' : bk_H} {a tk tp p : Nat} {T : List Int32} {f : Nat → Int32} {g : Nat → Int64} {s : bC} {er et od er' et' : Int32} (q : HO h a tk tp T p f g s er et) (k : h' a = some (.inr (0, [.ref tk, .ref (a + 1), .ref (a + 3), .ref (a + 5), .int od, .int er', .int et']))) (w : ∀ q, q ≠ a → h' q = h q) : HO h' a tk tp T p f g (s.1, od, s.2.2) er' et' := by
  obtain ⟨h1, h2, h3, h4, h5, h6⟩ := q
  have ktp := h1.2.2.2.2.2.2
  exact ⟨h1.kp (fr.one w) (by omega), k, h3.kp (fr.one w) (by omega), h4.kp (fr.one w) (by omega), h5.kp (fr.one w) (by omega), h6⟩
theorem HO.kp {h h' : bk_H} {a tk tp p lo hi : Nat} {T : List Int32} {f : Nat → Int32} {g : Nat → Int64} {s : bC} {er et : Int32} (q : HO h a tk tp T p f g s er et) (w : fr h h' lo hi) (hd : (tp + 2 ≤ lo ∨ hi ≤ tp) ∧ (tk + 7 ≤ lo ∨ hi ≤ tk) ∧ (a + 7 ≤ lo ∨ hi ≤ a)) : HO h' a tk tp T p f g s er et := by
  obtain ⟨h1, h2, h3, h4, h5, h6⟩ := q
  exact ⟨h1.kp w (by omega), (w a (by omega)).trans h2, h3.kp w (by omega), h4.kp w (by omega), h5.kp w (by omega), h6⟩
section BH
variable {V : bk_V} {d n : Nat} {B : Nat × Nat} {Q : bk_R → bk_H → Nat → Prop} {h : bk_H} {a tk tp p b r : Nat} {T : List Int32} {f : Nat → Int32} {g : Nat → Int64} {s : bC} {er et : Int32} {l : List Int64} {cs : Nat × Nat}
theorem bh_rng {v b : Int32} (hQ : Q (.inl (some (.int (if rngB v b = true then 1 else 0)))) h n) : bk_wp V (d + 1) 8 [.int v, .int b] h n B Q := by
  refine bg_in rfl rfl ?_
  refine bg_iload1 rfl ?_
  refine bg_tsw rfl ?_
  refine bk_sw_c (fun e1_2 => ?_) (fun n1_2 => ?_)
  · refine bg_iload0 rfl ?_
    refine bg_if_lt rfl (fun e53 => ?_) (fun e53 => ?_)
    · refine bg_iconst rfl ?_
      refine bg_iret rfl rfl (by rfl) ?_
      exact bQ hQ (by clear hQ; simp [rngB, *])
    · refine bg_iload0 rfl ?_
      refine bg_sipush rfl ?_
      refine bg_icmp_gt rfl (fun e60 => ?_) (fun e60 => ?_)
      · refine bg_iconst rfl ?_
        refine bg_iret rfl rfl (by rfl) ?_
        exact bQ hQ (by clear hQ; simp [rngB, *])
      · refine bg_iconst rfl ?_
        refine bg_goto rfl ?_
        refine bg_iret rfl rfl (by rfl) ?_
        exact bQ hQ (by clear hQ; simp [rngB, *])
  refine bk_sw_c (fun e1_3 => ?_) (fun n1_3 => ?_)
  · refine bg_iload0 rfl ?_
    refine bg_iconst rfl ?_
    refine bg_icmp_lt rfl (fun e71 => ?_) (fun e71 => ?_)
    · refine bg_iconst rfl ?_
      refine bg_iret rfl rfl (by rfl) ?_
      exact bQ hQ (by clear hQ; simp [rngB, *])
    · refine bg_iload0 rfl ?_
      refine bg_bipush rfl ?_
      refine bg_icmp_gt rfl (fun e77 => ?_) (fun e77 => ?_)
      · refine bg_iconst rfl ?_
        refine bg_iret rfl rfl (by rfl) ?_
        exact bQ hQ (by clear hQ; simp [rngB, *])
      · refine bg_iconst rfl ?_
        refine bg_goto rfl ?_
        refine bg_iret rfl rfl (by rfl) ?_
        exact bQ hQ (by clear hQ; simp [rngB, *])
  refine bk_sw_c (fun e1_4 => ?_) (fun n1_4 => ?_)
  · refine bg_iconst rfl ?_
    refine bg_iret rfl rfl (by rfl) ?_
    exact bQ hQ (by clear hQ; simp [rngB, *])
  refine bk_sw_c (fun e1_5 => ?_) (fun n1_5 => ?_)
  · refine bg_iload0 rfl ?_
    refine bg_iconst rfl ?_
    refine bg_icmp_lt rfl (fun e88 => ?_) (fun e88 => ?_)
    · refine bg_iconst rfl ?_
      refine bg_iret rfl rfl (by rfl) ?_
      exact bQ hQ (by clear hQ; simp [rngB, *])
    · refine bg_iload0 rfl ?_
      refine bg_bipush rfl ?_
      refine bg_icmp_gt rfl (fun e94 => ?_) (fun e94 => ?_)
      · refine bg_iconst rfl ?_
        refine bg_iret rfl rfl (by rfl) ?_
        exact bQ hQ (by clear hQ; simp [rngB, *])
      · refine bg_iconst rfl ?_
        refine bg_goto rfl ?_
        refine bg_iret rfl rfl (by rfl) ?_
        exact bQ hQ (by clear hQ; simp [rngB, *])
  refine bk_sw_c (fun e1_6 => ?_) (fun n1_6 => ?_)
  · refine bg_iload0 rfl ?_
    refine bg_iconst rfl ?_
    refine bg_icmp_lt rfl (fun e105 => ?_) (fun e105 => ?_)
    · refine bg_iconst rfl ?_
      refine bg_iret rfl rfl (by rfl) ?_
      exact bQ hQ (by clear hQ; simp [rngB, *])
    · refine bg_iload0 rfl ?_
      refine bg_bipush rfl ?_
      refine bg_icmp_gt rfl (fun e111 => ?_) (fun e111 => ?_)
      · refine bg_iconst rfl ?_
        refine bg_iret rfl rfl (by rfl) ?_
        exact bQ hQ (by clear hQ; simp [rngB, *])
      · refine bg_iconst rfl ?_
        refine bg_goto rfl ?_
        refine bg_iret rfl rfl (by rfl) ?_
        exact bQ hQ (by clear hQ; simp [rngB, *])
  refine bk_sw_c (fun e1_7 => ?_) (fun n1_7 => ?_)
  · refine bg_iconst rfl ?_
    refine bg_iret rfl rfl (by rfl) ?_
    exact bQ hQ (by clear hQ; simp [rngB, *])
  refine bk_sw_c (fun e1_8 => ?_) (fun n1_8 => ?_)
  · refine bg_iload0 rfl ?_
    refine bg_if_lt rfl (fun e121 => ?_) (fun e121 => ?_)
    · refine bg_iconst rfl ?_
      refine bg_iret rfl rfl (by rfl) ?_
      exact bQ hQ (by clear hQ; simp [rngB, *])
    · refine bg_iload0 rfl ?_
      refine bg_iconst rfl ?_
      refine bg_icmp_gt rfl (fun e126 => ?_) (fun e126 => ?_)
      · refine bg_iconst rfl ?_
        refine bg_iret rfl rfl (by rfl) ?_
        exact bQ hQ (by clear hQ; simp [rngB, *])
      · refine bg_iconst rfl ?_
        refine bg_goto rfl ?_
        refine bg_iret rfl rfl (by rfl) ?_
        exact bQ hQ (by clear hQ; simp [rngB, *])
  refine bk_sw_c (fun e1_9 => ?_) (fun n1_9 => ?_)
  · refine bg_iload0 rfl ?_
    refine bg_iconst rfl ?_
    refine bg_icmp_lt rfl (fun e137 => ?_) (fun e137 => ?_)
    · refine bg_iconst rfl ?_
      refine bg_iret rfl rfl (by rfl) ?_
      exact bQ hQ (by clear hQ; simp [rngB, *])
    · refine bg_iload0 rfl ?_
      refine bg_bipush rfl ?_
      refine bg_icmp_gt rfl (fun e143 => ?_) (fun e143 => ?_)
      · refine bg_iconst rfl ?_
        refine bg_iret rfl rfl (by rfl) ?_
        exact bQ hQ (by clear hQ; simp [rngB, *])
      · refine bg_iconst rfl ?_
        refine bg_goto rfl ?_
        refine bg_iret rfl rfl (by rfl) ?_
        exact bQ hQ (by clear hQ; simp [rngB, *])
  refine bk_sw_c (fun e1_10 => ?_) (fun n1_10 => ?_)
  · refine bg_iload0 rfl ?_
    refine bg_iconst rfl ?_
    refine bg_icmp_lt rfl (fun e154 => ?_) (fun e154 => ?_)
    · refine bg_iconst rfl ?_
      refine bg_iret rfl rfl (by rfl) ?_
      exact bQ hQ (by clear hQ; simp [rngB, *])
    · refine bg_iload0 rfl ?_
      refine bg_bipush rfl ?_
      refine bg_icmp_gt rfl (fun e160 => ?_) (fun e160 => ?_)
      · refine bg_iconst rfl ?_
        refine bg_iret rfl rfl (by rfl) ?_
        exact bQ hQ (by clear hQ; simp [rngB, *])
      · refine bg_iconst rfl ?_
        refine bg_goto rfl ?_
        refine bg_iret rfl rfl (by rfl) ?_
        exact bQ hQ (by clear hQ; simp [rngB, *])
  refine bk_sw_n ?_
  refine bg_iconst rfl ?_
  refine bg_iret rfl rfl (by rfl) ?_
  exact bQ hQ (by clear hQ; simp [rngB, *])
theorem bh_new {i : Nat} (hi : i < 401) (hH : HO h a tk tp T p f g s er et) (hN : NM h b r l) (h2 : ¬ ixL l (g i) 0 < 0 → Q (.inl (some (.int 2))) h n) (h4 : ixL l (g i) 0 < 0 → r ≤ l.length → Q (.inl (some (.int 4))) h n)
    (h0 : ixL l (g i) 0 < 0 → ¬ r ≤ l.length → ∀ h', NM h' b r (l ++ [g i]) → fr h h' b (b + 2) → Q (.inl (some (.int 0))) h' n) : bk_wp V (d + 2) 6 [.ref a, .ref b, .int (nI i)] h n B Q := by
  obtain ⟨hK, o0, n0, n1, n2, otk⟩ := id hH
  refine bg_in rfl rfl ?_
  refine bg_aload0 rfl ?_
  refine bg_getfield rfl rfl o0 (by rfl) ?_
  refine bg_iload2 rfl ?_
  refine bg_virt1 rfl rfl rfl rfl ⟨_, hK.2.1⟩ ?_
  refine bk_code hi hK (bk_Ki ?_)
  refine bg_lstore3 rfl rfl ?_
  refine bg_aload1 rfl ?_
  refine bg_lload3 rfl ?_
  refine bg_virt1 rfl rfl rfl rfl ⟨_, hN.1⟩ ?_
  refine bn_find hN (bk_Ki ?_)
  refine bg_if_lt rfl (fun e14 => ?_) (fun e14 => ?_)
  · refine bg_aload1 rfl ?_
    refine bg_virt0 rfl rfl rfl rfl ⟨_, hN.1⟩ ?_
    refine bn_isFull hN (bk_Ki ?_)
    refine bg_ifeq_b rfl (fun e23 => ?_) (fun e23 => ?_)
    · refine bg_aload1 rfl ?_
      refine bg_lload3 rfl ?_
      refine bg_virt1 rfl rfl rfl rfl ⟨_, hN.1⟩ ?_
      refine bn_add hN (Nat.lt_of_not_le e23) (fun hA kA gA => bk_Kv ?_)
      refine bg_iconst rfl ?_
      refine bg_iret rfl rfl (by rfl) ?_
      exact h0 e14 e23 hA kA gA
    · refine bg_iconst rfl ?_
      refine bg_iret rfl rfl (by rfl) ?_
      exact h4 e14 e23
  · refine bg_iconst rfl ?_
    refine bg_iret rfl rfl (by rfl) ?_
    exact h2 e14
theorem bh_told {i : Nat} (hi : i < 401) (hH : HO h a tk tp T p f g s er et) (hN : NM h b r l) (hQ : ∀ h', HO h' a tk tp T p f g (s.1, s.2.1, rS s.2.2 (nI i) 1 (ixL l (g i) 0)) er et → fr h h' tk (tk + 7) → Q (.inl (some (.int (if ixL l (g i) 0 < 0 then 3 else 0)))) h' n) : bk_wp V (d + 3) 7 [.ref a, .ref b, .int (nI i)] h n B Q := by
  obtain ⟨hK, o0, n0, n1, n2, otk⟩ := id hH
  refine bg_in rfl rfl ?_
  refine bg_aload1 rfl ?_
  refine bg_aload0 rfl ?_
  refine bg_getfield rfl rfl o0 (by rfl) ?_
  refine bg_iload2 rfl ?_
  refine bg_virt1 rfl rfl rfl rfl ⟨_, hK.2.1⟩ ?_
  refine bk_code hi hK (bk_Ki ?_)
  refine bg_virt1 rfl rfl rfl rfl ⟨_, hN.1⟩ ?_
  refine bn_find hN (bk_Ki ?_)
  refine bg_istore3 rfl rfl ?_
  refine bg_aload0 rfl ?_
  refine bg_getfield rfl rfl o0 (by rfl) ?_
  refine bg_iload2 rfl ?_
  refine bg_iload3 rfl ?_
  refine bg_virt2 rfl rfl rfl rfl ⟨_, hK.2.1⟩ ?_
  refine bk_setV hK (fun hA kA gA => bk_Kv ?_)
  refine bg_iload3 rfl ?_
  refine bg_if_ge rfl (fun e23 => ?_) (fun e23 => ?_)
  · have e9 : (if ixL l (g i) 0 < 0 then (3 : Int32) else 0) = 0 := if_neg e23
    refine bg_iconst rfl ?_
    refine bg_iret rfl rfl (by rfl) ?_
    exact bQ (hQ hA (hH.v kA gA) gA) e9
  · have e9 : (if ixL l (g i) 0 < 0 then (3 : Int32) else 0) = 3 := if_pos e23
    refine bg_iconst rfl ?_
    refine bg_goto rfl ?_
    refine bg_iret rfl rfl (by rfl) ?_
    exact bQ (hQ hA (hH.v kA gA) gA) e9
theorem bh_name {i : Nat} {bh : Int32} (hi : i < 401) (hH : HO h a tk tp T p f g s er et) (hQ : ∀ h', HO h' a tk tp T p f g (ckName g i bh s).2 er et → fr h h' tk (a + 7) → Q (.inl (some (.int (ckName g i bh s).1))) h' n) : bk_wp V (d + 4) 5 [.ref a, .int (nI i), .int bh] h n B Q := by
  obtain ⟨hK, o0, n0, n1, n2, otk⟩ := id hH
  refine bg_in rfl rfl ?_
  refine bg_iload2 rfl ?_
  refine bg_lsw rfl ?_
  refine bk_sw_c (fun e1_1 => ?_) (fun n1_1 => ?_)
  · subst e1_1
    have he : ckName g i 1 s = ckNew g i 0 5 s := rfl
    refine bg_aload0 rfl ?_
    refine bg_aload0 rfl ?_
    refine bg_getfield rfl rfl o0 (by rfl) ?_
    refine bg_iload1 rfl ?_
    refine bg_virt2 rfl rfl rfl rfl ⟨_, o0⟩ ?_
    refine bh_new hi hH n0 (fun q => bk_Ki ?_) (fun q q4 => bk_Ki ?_) (fun q q4 hA kA gA => bk_Ki ?_)
    · refine bg_iret rfl rfl (by rfl) ?_
      have e0 : ckNew g i 0 5 s = (2, s) := if_pos q
      rw [e0] at he
      simp only [he] at hQ
      exact hQ h hH fr.refl
    · refine bg_iret rfl rfl (by rfl) ?_
      have e0 : ckNew g i 0 5 s = (4, s) := (if_neg (fun z => z q)).trans (if_pos q4)
      rw [e0] at he
      simp only [he] at hQ
      exact hQ h hH fr.refl
    · refine bg_iret rfl rfl (by rfl) ?_
      have e0 : ckNew g i 0 5 s = (0, (uL s.1 0 (s.1 0 ++ [g i]), s.2)) := (if_neg (fun z => z q)).trans (if_neg q4)
      rw [e0] at he
      simp only [he] at hQ
      exact hQ hA (hH.n0 kA gA) (gA.wide (by omega) (by omega))
  refine bk_sw_c (fun e1_4 => ?_) (fun n1_4 => ?_)
  · subst e1_4
    have he : ckName g i 4 s = ckNew g i 1 6 s := rfl
    refine bg_aload0 rfl ?_
    refine bg_aload0 rfl ?_
    refine bg_getfield rfl rfl o0 (by rfl) ?_
    refine bg_iload1 rfl ?_
    refine bg_virt2 rfl rfl rfl rfl ⟨_, o0⟩ ?_
    refine bh_new hi hH n1 (fun q => bk_Ki ?_) (fun q q4 => bk_Ki ?_) (fun q q4 hA kA gA => bk_Ki ?_)
    · refine bg_iret rfl rfl (by rfl) ?_
      have e0 : ckNew g i 1 6 s = (2, s) := if_pos q
      rw [e0] at he
      simp only [he] at hQ
      exact hQ h hH fr.refl
    · refine bg_iret rfl rfl (by rfl) ?_
      have e0 : ckNew g i 1 6 s = (4, s) := (if_neg (fun z => z q)).trans (if_pos q4)
      rw [e0] at he
      simp only [he] at hQ
      exact hQ h hH fr.refl
    · refine bg_iret rfl rfl (by rfl) ?_
      have e0 : ckNew g i 1 6 s = (0, (uL s.1 1 (s.1 1 ++ [g i]), s.2)) := (if_neg (fun z => z q)).trans (if_neg q4)
      rw [e0] at he
      simp only [he] at hQ
      exact hQ hA (hH.n1 kA gA) (gA.wide (by omega) (by omega))
  refine bk_sw_c (fun e1_7 => ?_) (fun n1_7 => ?_)
  · subst e1_7
    have he : ckName g i 7 s = ckNew g i 2 6 s := rfl
    refine bg_aload0 rfl ?_
    refine bg_aload0 rfl ?_
    refine bg_getfield rfl rfl o0 (by rfl) ?_
    refine bg_iload1 rfl ?_
    refine bg_virt2 rfl rfl rfl rfl ⟨_, o0⟩ ?_
    refine bh_new hi hH n2 (fun q => bk_Ki ?_) (fun q q4 => bk_Ki ?_) (fun q q4 hA kA gA => bk_Ki ?_)
    · refine bg_iret rfl rfl (by rfl) ?_
      have e0 : ckNew g i 2 6 s = (2, s) := if_pos q
      rw [e0] at he
      simp only [he] at hQ
      exact hQ h hH fr.refl
    · refine bg_iret rfl rfl (by rfl) ?_
      have e0 : ckNew g i 2 6 s = (4, s) := (if_neg (fun z => z q)).trans (if_pos q4)
      rw [e0] at he
      simp only [he] at hQ
      exact hQ h hH fr.refl
    · refine bg_iret rfl rfl (by rfl) ?_
      have e0 : ckNew g i 2 6 s = (0, (uL s.1 2 (s.1 2 ++ [g i]), s.2)) := (if_neg (fun z => z q)).trans (if_neg q4)
      rw [e0] at he
      simp only [he] at hQ
      exact hQ hA (hH.n2 kA gA) (gA.wide (by omega) (by omega))
  refine bk_sw_c (fun e1_13 => ?_) (fun n1_13 => ?_)
  · subst e1_13
    have he : ckName g i 13 s = ckTold g i 1 s := rfl
    refine bg_aload0 rfl ?_
    refine bg_aload0 rfl ?_
    refine bg_getfield rfl rfl o0 (by rfl) ?_
    refine bg_iload1 rfl ?_
    refine bg_virt2 rfl rfl rfl rfl ⟨_, o0⟩ ?_
    refine bh_told hi hH n1 (fun hA kA gA => bk_Ki ?_)
    rw [he] at hQ
    refine bg_iret rfl rfl (by rfl) ?_
    exact hQ hA kA (gA.wide (by omega) (by omega))
  refine bk_sw_c (fun e1_15 => ?_) (fun n1_15 => ?_)
  · subst e1_15
    have he : ckName g i 15 s = ckTold g i 2 s := rfl
    refine bg_aload0 rfl ?_
    refine bg_aload0 rfl ?_
    refine bg_getfield rfl rfl o0 (by rfl) ?_
    refine bg_iload1 rfl ?_
    refine bg_virt2 rfl rfl rfl rfl ⟨_, o0⟩ ?_
    refine bh_told hi hH n2 (fun hA kA gA => bk_Ki ?_)
    rw [he] at hQ
    refine bg_iret rfl rfl (by rfl) ?_
    exact hQ hA kA (gA.wide (by omega) (by omega))
  refine bk_sw_c (fun e1_22 => ?_) (fun n1_22 => ?_)
  · subst e1_22
    have he : ckName g i 22 s = ckTold g i 2 s := rfl
    refine bg_aload0 rfl ?_
    refine bg_aload0 rfl ?_
    refine bg_getfield rfl rfl o0 (by rfl) ?_
    refine bg_iload1 rfl ?_
    refine bg_virt2 rfl rfl rfl rfl ⟨_, o0⟩ ?_
    refine bh_told hi hH n2 (fun hA kA gA => bk_Ki ?_)
    rw [he] at hQ
    refine bg_iret rfl rfl (by rfl) ?_
    exact hQ hA kA (gA.wide (by omega) (by omega))
  refine bk_sw_n ?_
  have he : ckName g i bh s = ckTold g i 0 s := (if_neg n1_1).trans ((if_neg n1_4).trans ((if_neg n1_7).trans ((if_neg n1_13).trans ((if_neg n1_15).trans (if_neg n1_22)))))
  refine bg_aload0 rfl ?_
  refine bg_aload0 rfl ?_
  refine bg_getfield rfl rfl o0 (by rfl) ?_
  refine bg_iload1 rfl ?_
  refine bg_virt2 rfl rfl rfl rfl ⟨_, o0⟩ ?_
  refine bh_told hi hH n0 (fun hA kA gA => bk_Ki ?_)
  rw [he] at hQ
  refine bg_iret rfl rfl (by rfl) ?_
  exact hQ hA kA (gA.wide (by omega) (by omega))
theorem bh_errorOf {i : Nat} (hi : i < 401) (hH : HO h a tk tp T p f g s er et) (hQ : ∀ h', HO h' a tk tp T p f g (ck1 f g i s).2 er et → fr h h' tk (a + 7) → Q (.inl (some (.int (ck1 f g i s).1))) h' n) : bk_wp V (d + 5) 4 [.ref a, .int (nI i)] h n B Q := by
  obtain ⟨hK, o0, n0, n1, n2, otk⟩ := id hH
  refine bg_in rfl rfl ?_
  refine bg_aload0 rfl ?_
  refine bg_getfield rfl rfl o0 (by rfl) ?_
  refine bg_iload1 rfl ?_
  refine bg_virt1 rfl rfl rfl rfl ⟨_, hK.2.1⟩ ?_
  refine bk_kind hK (bk_Ki ?_)
  rw [kiF_n hi]
  refine bg_lsw rfl ?_
  refine bk_sw_c (fun e8_11 => ?_) (fun n8_11 => ?_)
  · have he : ck1 f g i s = (if ¬ 24 < s.2.1 + 1 then (0 : Int32) else 4, (s.1, s.2.1 + 1, s.2.2)) := by
      unfold ck1
      rw [e8_11]
      rfl
    refine bg_aload0 rfl ?_
    refine bg_dup rfl rfl ?_
    refine bg_getfield rfl rfl o0 (by rfl) ?_
    refine bg_iconst rfl ?_
    refine bg_iadd rfl ?_
    refine bg_putfield rfl rfl o0 (by rfl) ⟨rfl, rfl⟩ (by rfl) (fun h113 f113 g113 => ?_)
    have hH1 := hH.o f113 g113
    have hw1 := (fr.one g113).wide (lo' := tk) (hi' := a + 7) (by omega) (by omega)
    have o0 := hH1.2.1
    refine bg_aload0 rfl ?_
    refine bg_getfield rfl rfl o0 (by rfl) ?_
    refine bg_bipush rfl ?_
    refine bg_icmp_le rfl (fun e122 => ?_) (fun e122 => ?_)
    · rw [if_pos e122] at he
      rw [he] at hQ
      refine bg_iconst rfl ?_
      refine bg_iret rfl rfl (by rfl) ?_
      first | exact hQ h hH fr.refl | exact hQ h113 hH1 hw1
    · rw [if_neg (fun q => q e122)] at he
      rw [he] at hQ
      refine bg_iconst rfl ?_
      refine bg_goto rfl ?_
      refine bg_iret rfl rfl (by rfl) ?_
      first | exact hQ h hH fr.refl | exact hQ h113 hH1 hw1
  refine bk_sw_c (fun e8_13 => ?_) (fun n8_13 => ?_)
  · have he : ck1 f g i s = (if ¬ 24 < s.2.1 + 1 then (0 : Int32) else 4, (s.1, s.2.1 + 1, s.2.2)) := by
      unfold ck1
      rw [e8_13]
      rfl
    refine bg_aload0 rfl ?_
    refine bg_dup rfl rfl ?_
    refine bg_getfield rfl rfl o0 (by rfl) ?_
    refine bg_iconst rfl ?_
    refine bg_iadd rfl ?_
    refine bg_putfield rfl rfl o0 (by rfl) ⟨rfl, rfl⟩ (by rfl) (fun h113 f113 g113 => ?_)
    have hH1 := hH.o f113 g113
    have hw1 := (fr.one g113).wide (lo' := tk) (hi' := a + 7) (by omega) (by omega)
    have o0 := hH1.2.1
    refine bg_aload0 rfl ?_
    refine bg_getfield rfl rfl o0 (by rfl) ?_
    refine bg_bipush rfl ?_
    refine bg_icmp_le rfl (fun e122 => ?_) (fun e122 => ?_)
    · rw [if_pos e122] at he
      rw [he] at hQ
      refine bg_iconst rfl ?_
      refine bg_iret rfl rfl (by rfl) ?_
      first | exact hQ h hH fr.refl | exact hQ h113 hH1 hw1
    · rw [if_neg (fun q => q e122)] at he
      rw [he] at hQ
      refine bg_iconst rfl ?_
      refine bg_goto rfl ?_
      refine bg_iret rfl rfl (by rfl) ?_
      first | exact hQ h hH fr.refl | exact hQ h113 hH1 hw1
  refine bk_sw_c (fun e8_15 => ?_) (fun n8_15 => ?_)
  · have he : ck1 f g i s = (if ¬ 24 < s.2.1 + 1 then (0 : Int32) else 4, (s.1, s.2.1 + 1, s.2.2)) := by
      unfold ck1
      rw [e8_15]
      rfl
    refine bg_aload0 rfl ?_
    refine bg_dup rfl rfl ?_
    refine bg_getfield rfl rfl o0 (by rfl) ?_
    refine bg_iconst rfl ?_
    refine bg_iadd rfl ?_
    refine bg_putfield rfl rfl o0 (by rfl) ⟨rfl, rfl⟩ (by rfl) (fun h113 f113 g113 => ?_)
    have hH1 := hH.o f113 g113
    have hw1 := (fr.one g113).wide (lo' := tk) (hi' := a + 7) (by omega) (by omega)
    have o0 := hH1.2.1
    refine bg_aload0 rfl ?_
    refine bg_getfield rfl rfl o0 (by rfl) ?_
    refine bg_bipush rfl ?_
    refine bg_icmp_le rfl (fun e122 => ?_) (fun e122 => ?_)
    · rw [if_pos e122] at he
      rw [he] at hQ
      refine bg_iconst rfl ?_
      refine bg_iret rfl rfl (by rfl) ?_
      first | exact hQ h hH fr.refl | exact hQ h113 hH1 hw1
    · rw [if_neg (fun q => q e122)] at he
      rw [he] at hQ
      refine bg_iconst rfl ?_
      refine bg_goto rfl ?_
      refine bg_iret rfl rfl (by rfl) ?_
      first | exact hQ h hH fr.refl | exact hQ h113 hH1 hw1
  refine bk_sw_c (fun e8_30 => ?_) (fun n8_30 => ?_)
  · have hk8 : f i = 30 := e8_30
    have he : ck1 f g i s = ckName g i (kiF f (nI i - 1)) s := if_pos hk8
    refine bg_aload0 rfl ?_
    refine bg_iload1 rfl ?_
    refine bg_aload0 rfl ?_
    refine bg_getfield rfl rfl o0 (by rfl) ?_
    refine bg_iload1 rfl ?_
    refine bg_iconst rfl ?_
    refine bg_isub rfl ?_
    refine bg_virt1 rfl rfl rfl rfl ⟨_, hK.2.1⟩ ?_
    refine bk_kind hK (bk_Ki ?_)
    refine bg_virt2 rfl rfl rfl rfl ⟨_, o0⟩ ?_
    refine bh_name hi hH (fun hA kA gA => bk_Ki ?_)
    refine bg_iret rfl rfl (by rfl) ?_
    rw [he] at hQ
    exact hQ hA kA gA
  refine bk_sw_c (fun e8_31 => ?_) (fun n8_31 => ?_)
  · have he : ck1 f g i s = (if rngB (rG s.2.2 (nI i) 1) (kiF f (nI i - 1)) = true then 0 else 5, s) := by
      unfold ck1
      rw [e8_31]
      rfl
    refine bg_aload0 rfl ?_
    refine bg_getfield rfl rfl o0 (by rfl) ?_
    refine bg_iload1 rfl ?_
    refine bg_virt1 rfl rfl rfl rfl ⟨_, hK.2.1⟩ ?_
    refine bk_value hK (bk_Ki ?_)
    refine bg_aload0 rfl ?_
    refine bg_getfield rfl rfl o0 (by rfl) ?_
    refine bg_iload1 rfl ?_
    refine bg_iconst rfl ?_
    refine bg_isub rfl ?_
    refine bg_virt1 rfl rfl rfl rfl ⟨_, hK.2.1⟩ ?_
    refine bk_kind hK (bk_Ki ?_)
    refine bg_stat2 rfl rfl rfl rfl ?_
    refine bh_rng (bk_Ki ?_)
    refine bg_ifeq_b rfl (fun e97 => ?_) (fun e97 => ?_)
    · rw [if_neg e97] at he
      rw [he] at hQ
      refine bg_iconst rfl ?_
      refine bg_iret rfl rfl (by rfl) ?_
      first | exact hQ h hH fr.refl | exact hQ h113 hH1 hw1
    · rw [if_pos e97] at he
      rw [he] at hQ
      refine bg_iconst rfl ?_
      refine bg_goto rfl ?_
      refine bg_iret rfl rfl (by rfl) ?_
      first | exact hQ h hH fr.refl | exact hQ h113 hH1 hw1
  refine bk_sw_n ?_
  have he : ck1 f g i s = (0, s) := (if_neg n8_30).trans ((if_neg n8_31).trans ((if_neg n8_11).trans ((if_neg n8_13).trans (if_neg n8_15))))
  rw [he] at hQ
  refine bg_iconst rfl ?_
  refine bg_iret rfl rfl (by rfl) ?_
  first | exact hQ h hH fr.refl | exact hQ h113 hH1 hw1
theorem ck1_len {f : Nat → Int32} {g : Nat → Int64} {i : Nat} {s : bC} : (ck1 f g i s).2.2.2.length = s.2.2.length := by
  have h1 : ∀ m r, (ckNew g i m r s).2.2.2.length = s.2.2.length := fun m r => by
    unfold ckNew
    repeat' split
    all_goals rfl
  have h2 : ∀ m, (ckTold g i m s).2.2.2.length = s.2.2.length := fun m => rS_len
  unfold ck1 ckName
  repeat' split
  all_goals first | rfl | exact h1 _ _ | exact h2 _
theorem bh_chkL : ∀ (c i : Nat) (er et : Int32) (s : bC) (h : bk_H), HO h a tk tp T p f g s er et → i + c = s.2.2.length → s.2.2.length ≤ 401 → (∀ h', HO h' a tk tp T p f g (ckL f g c i (er, et, s)).2.2 (ckL f g c i (er, et, s)).1 (ckL f g c i (er, et, s)).2.1 → fr h h' tk (a + 7) → Q (.inl none) h' n) → bk_g V (d + 5) 3 B Q 33 [some (.ref a), some (.int (nI i))] [] h n cs := by
  intro c
  induction c with
  | zero =>
    intro i er et s h hH hi hl hQ
    obtain ⟨hK, o0, n0, n1, n2, otk⟩ := id hH
    refine bg_iload1 rfl ?_
    refine bg_aload0 rfl ?_
    refine bg_getfield rfl rfl o0 (by rfl) ?_
    refine bg_virt0 rfl rfl rfl rfl ⟨_, hK.2.1⟩ ?_
    refine bk_size hK (bk_Ki ?_)
    refine bg_icmp_ge rfl (fun e41 => ?_) (fun e41 => absurd e41 (nI_nlt (by omega) (by omega)))
    refine bg_ret rfl rfl ?_
    exact hQ h hH fr.refl
  | succ c ih =>
    intro i er et s h hH hi hl hQ
    obtain ⟨hK, o0, n0, n1, n2, otk⟩ := id hH
    refine bg_iload1 rfl ?_
    refine bg_aload0 rfl ?_
    refine bg_getfield rfl rfl o0 (by rfl) ?_
    refine bg_virt0 rfl rfl rfl rfl ⟨_, hK.2.1⟩ ?_
    refine bk_size hK (bk_Ki ?_)
    refine bg_icmp_ge rfl (fun e41 => absurd (nI_lt (by omega) (by omega)) e41) (fun e41 => ?_)
    refine bg_aload0 rfl ?_
    refine bg_getfield rfl rfl o0 (by rfl) ?_
    refine bg_if_ne rfl (fun e48 => ?_) (fun e48 => ?_)
    · have he : ckL f g (c + 1) i (er, et, s) = (er, et, s) := if_neg e48
      rw [he] at hQ
      refine bg_ret rfl rfl ?_
      exact hQ h hH fr.refl
    · have he : ckL f g (c + 1) i (er, et, s) = ckL f g c (i + 1) ((ck1 f g i s).1, nI i, (ck1 f g i s).2) := if_pos e48
      rw [he] at hQ
      refine bg_aload0 rfl ?_
      refine bg_aload0 rfl ?_
      refine bg_iload1 rfl ?_
      refine bg_virt1 rfl rfl rfl rfl ⟨_, o0⟩ ?_
      refine bh_errorOf (by omega) hH (fun hA kA gA => bk_Ki ?_)
      have o0 := kA.2.1
      refine bg_putfield rfl rfl o0 (by rfl) ⟨rfl, rfl⟩ (by rfl) (fun h57 f57 g57 => ?_)
      have hHB := kA.o f57 g57
      have o0 := hHB.2.1
      refine bg_aload0 rfl ?_
      refine bg_iload1 rfl ?_
      refine bg_putfield rfl rfl o0 (by rfl) ⟨rfl, rfl⟩ (by rfl) (fun h62 f62 g62 => ?_)
      have hHC := hHB.o f62 g62
      refine bg_iinc1 rfl rfl ?_
      rw [nI_1]
      refine bg_goto rfl ?_
      refine ih (i + 1) _ _ (ck1 f g i s).2 h62 hHC (by rw [ck1_len]; omega) (by rw [ck1_len]; exact hl) (fun h' q1 q2 => hQ h' q1 ((gA.trans ((fr.one g57).wide (by omega) (by omega))).trans (((fr.one g62).wide (by omega) (by omega)).trans q2)))

theorem bh_check (hH : HO h a tk tp T p f g s er et) (hl : s.2.2.length ≤ 401) (hQ : ∀ h', HO h' a tk tp T p f g (ckF f g et s.2.2).2.2 (ckF f g et s.2.2).1 (ckF f g et s.2.2).2.1 → fr h h' tk (a + 7) → Q (.inl none) h' n) : bk_wp V (d + 6) 3 [.ref a] h n B Q := by
  obtain ⟨hK, o0, n0, n1, n2, otk⟩ := id hH
  refine bg_in rfl rfl ?_
  refine bg_aload0 rfl ?_
  refine bg_getfield rfl rfl o0 (by rfl) ?_
  refine bg_virt0 rfl rfl rfl rfl ⟨_, n0.1⟩ ?_
  refine bn_clear n0 (fun hA kA gA => bk_Kv ?_)
  have hHA := hH.n0 kA gA
  obtain ⟨hK, o0, n0, n1, n2, otk⟩ := id hHA
  refine bg_aload0 rfl ?_
  refine bg_getfield rfl rfl o0 (by rfl) ?_
  refine bg_virt0 rfl rfl rfl rfl ⟨_, n1.1⟩ ?_
  refine bn_clear n1 (fun hB kB gB => bk_Kv ?_)
  have hHB := hHA.n1 kB gB
  obtain ⟨hK, o0, n0, n1, n2, otk⟩ := id hHB
  refine bg_aload0 rfl ?_
  refine bg_getfield rfl rfl o0 (by rfl) ?_
  refine bg_virt0 rfl rfl rfl rfl ⟨_, n2.1⟩ ?_
  refine bn_clear n2 (fun hC kC gC => bk_Kv ?_)
  have hHC := hHB.n2 kC gC
  obtain ⟨hK, o0, n0, n1, n2, otk⟩ := id hHC
  refine bg_aload0 rfl ?_
  refine bg_iconst rfl ?_
  refine bg_putfield rfl rfl o0 (by rfl) ⟨rfl, rfl⟩ (by rfl) (fun h23 f23 g23 => ?_)
  have hHD := hHC.o f23 g23
  have o0 := hHD.2.1
  refine bg_aload0 rfl ?_
  refine bg_iconst rfl ?_
  refine bg_putfield rfl rfl o0 (by rfl) ⟨rfl, rfl⟩ (by rfl) (fun h28 f28 g28 => ?_)
  have hHE := hHD.o f28 g28
  refine bg_iconst rfl ?_
  refine bg_istore1 rfl rfl ?_
  refine bh_chkL s.2.2.length 0 0 et (fun _ => [], 0, s.2.2) h28 ?_ (Nat.zero_add _) hl (fun h' q1 q2 => hQ h' q1 ((((((gA.wide (by omega) (by omega)).trans (gB.wide (by omega) (by omega))).trans (gC.wide (by omega) (by omega))).trans ((fr.one g23).wide (by omega) (by omega))).trans ((fr.one g28).wide (by omega) (by omega))).trans q2))
  obtain ⟨q1, q2, q3, q4, q5, q6⟩ := hHE
  exact ⟨q1, q2, q3, q4, q5, q6⟩
end BH
