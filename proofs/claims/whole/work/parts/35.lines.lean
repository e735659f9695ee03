/-! The parser's lines. Printed by wip/whole/mk35.py. -/
def adI (t : bT) (r : Nat) : Int32 := if t.length < r then nI t.length else -1
def adT (t : bT) (w r : Nat) : bT := if t.length < r then t ++ [List.replicate w 0] else t
abbrev bP : Type := Nat × (Nat → bT) × Int32
def tkS (K : Nat → Int32) (k : Int32) (s : bP) : Bool × bP := if K s.1 = k then (true, (s.1 + 1, s.2)) else (false, s)
def sqS (a : Bool × bP) (b : bP → Bool × bP) : Bool × bP := if a.1 = true then b a.2 else a
def stN (rows : bT) (i : Nat) (x : Int32) (c : Nat) (s : bP) : bP := (s.1, uT s.2.1 i (rS (s.2.1 i) x c (rG rows (nI (s.1 - 1)) 1)), s.2.2)
def tnS (K : Nat → Int32) (rows : bT) (kw : Int32) (i : Nat) (x : Int32) (c : Nat) (s : bP) : Bool × bP := sqS (tkS K kw s) fun s => sqS (tkS K 31 s) fun s => (true, stN rows i x c s)
def stO (c : Nat) (v : Int32) (s : bP) : bP := (s.1, uT s.2.1 3 (rS (s.2.1 3) s.2.2 c v), s.2.2)
def tmS (K : Nat → Int32) (rows : bT) (kw : Int32) (c : Nat) (s : bP) : Bool × bP := sqS (tkS K kw s) fun s => sqS (tkS K 30 s) fun s => (true, stO c (rG rows (nI (s.1 - 1)) 1) s)
def ppS (K : Nat → Int32) (rows : bT) (tag : Nat) (s : bP) : Bool × bP := ((pp K 3300 tag 0 s.1).1, ((pp K 3300 tag 0 s.1).2.1, uT s.2.1 4 (s.2.1 4 ++ (pp K 3300 tag 0 s.1).2.2.map (rwF rows)), s.2.2))
def adS (i w r : Nat) (s : bP) : bP := (s.1, uT s.2.1 i (adT (s.2.1 i) w r), s.2.2)
def lnBark (K : Nat → Int32) (rows : bT) (s : bP) : Bool × bP := sqS (tkS K 1 (adS 0 2 5 s)) fun s1 => sqS (tkS K 30 s1) fun s1 => sqS (tnS K rows 2 0 (adI (s.2.1 0) 5) 0 s1) fun s1 => tnS K rows 3 0 (adI (s.2.1 0) 5) 1 s1
def lnBeater (K : Nat → Int32) (rows : bT) (s : bP) : Bool × bP := sqS (tkS K 4 (adS 1 2 6 s)) fun s1 => sqS (tkS K 30 s1) fun s1 => sqS (tnS K rows 5 1 (adI (s.2.1 1) 6) 0 s1) fun s1 => tnS K rows 6 1 (adI (s.2.1 1) 6) 1 s1
def lnSpirit (K : Nat → Int32) (rows : bT) (s : bP) : Bool × bP := sqS (tkS K 7 (adS 2 3 6 s)) fun s1 => sqS (tkS K 30 s1) fun s1 => sqS (tnS K rows 8 2 (adI (s.2.1 2) 6) 0 s1) fun s1 => sqS (tnS K rows 9 2 (adI (s.2.1 2) 6) 1 s1) fun s1 => tnS K rows 10 2 (adI (s.2.1 2) 6) 2 s1
def adO (s : bP) : bP := (s.1, uT s.2.1 3 (adT (s.2.1 3) 7 24), adI (s.2.1 3) 24)
def en (c : Nat) (r : Bool × bP) : Bool × bP := (r.1, stO c (nI (r.2.2.1 4).length) r.2)
def lnSoak (K : Nat → Int32) (rows : bT) (s : bP) : Bool × bP := sqS (tmS K rows 11 1 (stO 0 11 (adO s))) fun s => sqS (tkS K 12 s) fun s => en 4 (ppS K rows 3 (stO 3 (nI (s.2.1 4).length) s))
def lnPair (K : Nat → Int32) (rows : bT) (a b : Int32) (s : bP) : Bool × bP := sqS (tmS K rows a 1 (stO 0 a (adO s))) fun s => tmS K rows b 2 s
def lnWhen (K : Nat → Int32) (rows : bT) (s : bP) : Bool × bP := en 6 (if K s.1 = 17 then ppS K rows 8 (s.1 + 1, (stO 5 (nI (s.2.1 4).length) s).2) else (true, stO 5 (nI (s.2.1 4).length) s))
def lnAll (K : Nat → Int32) (rows : bT) (s : bP) : Bool × bP :=
  if K s.1 = 1 then lnBark K rows s else if K s.1 = 4 then lnBeater K rows s else if K s.1 = 7 then lnSpirit K rows s else if K s.1 = 11 then sqS (lnSoak K rows s) fun s => lnWhen K rows s
  else if K s.1 = 13 then sqS (lnPair K rows 13 14 s) fun s => lnWhen K rows s else if K s.1 = 15 then sqS (lnPair K rows 15 16 s) fun s => lnWhen K rows s else (false, s)
def lsL (K : Nat → Int32) (rows : bT) : Nat → bP → Bool × bP
  | 0, s => (false, s)
  | c + 1, s => if K s.1 = 47 then (true, s) else sqS (sqS (lnAll K rows s) fun s => tkS K 36 s) (lsL K rows c)
theorem sqS_t {a : Bool × bP} {b : bP → Bool × bP} (h : a.1 = true) : sqS a b = b a.2 := if_pos h
theorem sqS_f {a : Bool × bP} {b : bP → Bool × bP} (h : ¬ a.1 = true) : sqS a b = a := if_neg h
/-- where the parser stands: ahead of the end, with no more steps than tokens -/
def SV (N : Nat) (s : bP) : Prop := s.1 < N ∧ (s.2.1 4).length ≤ s.1
theorem tkS_v {K : Nat → Int32} {N : Nat} {k : Int32} {s : bP} (hE : K (N - 1) = 47 ∨ K (N - 1) = 0) (h : SV N s) (h1 : ¬ k = 47) (h2 : ¬ k = 0) : SV N (tkS K k s).2 ∧ s.1 ≤ (tkS K k s).2.1 ∧ ((tkS K k s).1 = true → s.1 + 1 ≤ (tkS K k s).2.1) := by
  unfold tkS
  by_cases hk : K s.1 = k
  · rw [if_pos hk]
    exact ⟨⟨KEk hE h.1 hk h1 h2, by show (s.2.1 4).length ≤ s.1 + 1; have := h.2; omega⟩, by show s.1 ≤ s.1 + 1; omega, fun _ => Nat.le_refl _⟩
  · rw [if_neg hk]
    exact ⟨h, Nat.le_refl _, fun q => Bool.noConfusion q⟩
/-- what a part of a line keeps -/
def SK (N m t : Nat) (r : Bool × bP) : Prop := SV N r.2 ∧ t ≤ r.2.1 ∧ (r.1 = true → t + m ≤ r.2.1)
theorem SKs {N m m' m0 t t0 : Nat} {a : Bool × bP} {b : bP → Bool × bP} (ha : SK N m t a) (hb : SV N a.2 → SK N m' a.2.1 (b a.2)) (h0 : t0 ≤ t) (hm : m0 + t0 ≤ t + m + m') : SK N m0 t0 (sqS a b) := by
  obtain ⟨a1, a2, a3⟩ := ha
  by_cases h : a.1 = true
  · rw [sqS_t h]
    obtain ⟨b1, b2, b3⟩ := hb a1
    have a3 := a3 h
    exact ⟨b1, by omega, fun q => by have := b3 q; omega⟩
  · rw [sqS_f h]
    exact ⟨a1, by omega, fun q => absurd q h⟩
theorem tkS_k {K : Nat → Int32} {N : Nat} {k : Int32} {s : bP} (hE : K (N - 1) = 47 ∨ K (N - 1) = 0) (h : SV N s) (h1 : ¬ k = 47) (h2 : ¬ k = 0) : SK N 1 s.1 (tkS K k s) := tkS_v hE h h1 h2
theorem tnS_k {K : Nat → Int32} {N i c : Nat} {rows : bT} {k x : Int32} {s : bP} (hE : K (N - 1) = 47 ∨ K (N - 1) = 0) (hi : i ≠ 4) (h : SV N s) (h1 : ¬ k = 47) (h2 : ¬ k = 0) : SK N 2 s.1 (tnS K rows k i x c s) :=
  SKs (m' := 1) (tkS_k hE h h1 h2) (fun v => SKs (m' := 0) (tkS_k hE v (by decide) (by decide)) (fun v2 => ⟨⟨v2.1, by show (uT _ i _ 4).length ≤ _; rw [uT_n (fun q => hi q.symm)]; exact v2.2⟩, Nat.le_refl _, fun _ => Nat.le_refl _⟩) (Nat.le_refl _) (by omega)) (Nat.le_refl _) (by omega)
theorem tmS_k {K : Nat → Int32} {N c : Nat} {rows : bT} {k : Int32} {s : bP} (hE : K (N - 1) = 47 ∨ K (N - 1) = 0) (h : SV N s) (h1 : ¬ k = 47) (h2 : ¬ k = 0) : SK N 2 s.1 (tmS K rows k c s) :=
  SKs (m' := 1) (tkS_k hE h h1 h2) (fun v => SKs (m' := 0) (tkS_k hE v (by decide) (by decide)) (fun v2 => ⟨v2, Nat.le_refl _, fun _ => Nat.le_refl _⟩) (Nat.le_refl _) (by omega)) (Nat.le_refl _) (by omega)
theorem ppS_k {K : Nat → Int32} {N tag : Nat} {rows : bT} {s : bP} (hE : K (N - 1) = 47 ∨ K (N - 1) = 0) (h : SV N s) : SK N (ppm tag) s.1 (ppS K rows tag s) := by
  obtain ⟨q1, q2, q3, q4⟩ := pp_k hE 3300 tag 0 s.1 h.1
  refine ⟨⟨q1, ?_⟩, q2, q3⟩
  show (uT s.2.1 4 (s.2.1 4 ++ (pp K 3300 tag 0 s.1).2.2.map (rwF rows)) 4).length ≤ (pp K 3300 tag 0 s.1).2.1
  rw [uT_s, List.length_append, List.length_map]
  have := h.2
  omega
theorem lnAll_k {K : Nat → Int32} {N : Nat} {rows : bT} {s : bP} (hE : K (N - 1) = 47 ∨ K (N - 1) = 0) (h : SV N s) : SK N 1 s.1 (lnAll K rows s) := by
  have hw : ∀ s, SV N s → SK N 0 s.1 (lnWhen K rows s) := fun s h => by
    unfold lnWhen
    by_cases q : K s.1 = 17
    · rw [if_pos q]
      have h1 : SV N (s.1 + 1, (stO 5 (nI (s.2.1 4).length) s).2) := ⟨KEk hE h.1 q (by decide) (by decide), by show (s.2.1 4).length ≤ s.1 + 1; have := h.2; omega⟩
      obtain ⟨k1, k2, k3⟩ := ppS_k (tag := 8) (rows := rows) hE h1
      exact ⟨k1, by show s.1 ≤ _; exact Nat.le_trans (Nat.le_succ _) k2, fun z => by show s.1 + 0 ≤ _; exact Nat.le_trans (Nat.le_succ _) k2⟩
    · rw [if_neg q]
      exact ⟨h, Nat.le_refl _, fun _ => Nat.le_refl _⟩
  have hp : ∀ a b, ¬ a = 47 → ¬ a = 0 → ¬ b = 47 → ¬ b = 0 → SK N 1 s.1 (sqS (lnPair K rows a b s) fun s => lnWhen K rows s) := fun a b a1 a2 b1 b2 =>
    SKs (m' := 0) (SKs (m0 := 1) (m' := 0) (t := s.1) (t0 := s.1) (tmS_k (s := stO 0 a (adO s)) hE h a1 a2) (fun v => (⟨(tmS_k hE v b1 b2).1, (tmS_k hE v b1 b2).2.1, fun _ => (tmS_k hE v b1 b2).2.1⟩ : SK N 0 _ _)) (Nat.le_refl _) (by omega)) (fun v => hw _ v) (Nat.le_refl _) (by omega)
  unfold lnAll
  by_cases h1 : K s.1 = 1
  · rw [if_pos h1]
    exact SKs (m' := 0) (t := s.1) (tkS_k (s := adS 0 2 5 s) hE h (by decide) (by decide)) (fun v => SKs (m' := 0) (tkS_k hE v (by decide) (by decide)) (fun v => SKs (m' := 0) (tnS_k hE (by decide) v (by decide) (by decide)) (fun v => ⟨(tnS_k hE (by decide) v (by decide) (by decide)).1, (tnS_k hE (by decide) v (by decide) (by decide)).2.1, fun _ => (tnS_k hE (by decide) v (by decide) (by decide)).2.1⟩) (Nat.le_refl _) (by omega)) (Nat.le_refl _) (by omega)) (Nat.le_refl _) (by omega)
  rw [if_neg h1]
  by_cases h1 : K s.1 = 4
  · rw [if_pos h1]
    exact SKs (m' := 0) (t := s.1) (tkS_k (s := adS 1 2 6 s) hE h (by decide) (by decide)) (fun v => SKs (m' := 0) (tkS_k hE v (by decide) (by decide)) (fun v => SKs (m' := 0) (tnS_k hE (by decide) v (by decide) (by decide)) (fun v => ⟨(tnS_k hE (by decide) v (by decide) (by decide)).1, (tnS_k hE (by decide) v (by decide) (by decide)).2.1, fun _ => (tnS_k hE (by decide) v (by decide) (by decide)).2.1⟩) (Nat.le_refl _) (by omega)) (Nat.le_refl _) (by omega)) (Nat.le_refl _) (by omega)
  rw [if_neg h1]
  by_cases h1 : K s.1 = 7
  · rw [if_pos h1]
    exact SKs (m' := 0) (t := s.1) (tkS_k (s := adS 2 3 6 s) hE h (by decide) (by decide)) (fun v => SKs (m' := 0) (tkS_k hE v (by decide) (by decide)) (fun v => SKs (m' := 0) (tnS_k hE (by decide) v (by decide) (by decide)) (fun v => SKs (m' := 0) (tnS_k hE (by decide) v (by decide) (by decide)) (fun v => ⟨(tnS_k hE (by decide) v (by decide) (by decide)).1, (tnS_k hE (by decide) v (by decide) (by decide)).2.1, fun _ => (tnS_k hE (by decide) v (by decide) (by decide)).2.1⟩) (Nat.le_refl _) (by omega)) (Nat.le_refl _) (by omega)) (Nat.le_refl _) (by omega)) (Nat.le_refl _) (by omega)
  rw [if_neg h1]
  by_cases h1 : K s.1 = 11
  · rw [if_pos h1]
    refine SKs (m' := 0) (SKs (m0 := 1) (m' := 0) (t := s.1) (t0 := s.1) (tmS_k (s := stO 0 11 (adO s)) hE h (by decide) (by decide)) (fun v => SKs (m' := 0) (tkS_k hE v (by decide) (by decide)) (fun v => ?_) (Nat.le_refl _) (by omega)) (Nat.le_refl _) (by omega)) (fun v => hw _ v) (Nat.le_refl _) (by omega)
    obtain ⟨k1, k2, k3⟩ := ppS_k (tag := 3) (rows := rows) (s := stO 3 (nI (((tkS K 12 (tmS K rows 11 1 (stO 0 11 (adO s))).2).2).2.1 4).length) ((tkS K 12 (tmS K rows 11 1 (stO 0 11 (adO s))).2).2)) hE v
    exact ⟨k1, k2, fun _ => k2⟩
  rw [if_neg h1]
  by_cases h1 : K s.1 = 13
  · rw [if_pos h1]
    exact hp 13 14 (by decide) (by decide) (by decide) (by decide)
  rw [if_neg h1]
  by_cases h1 : K s.1 = 15
  · rw [if_pos h1]
    exact hp 15 16 (by decide) (by decide) (by decide) (by decide)
  rw [if_neg h1]
  exact ⟨h, Nat.le_refl _, fun q => Bool.noConfusion q⟩
theorem bt_addC {V : bk_V} {d n : Nat} {B : Nat × Nat} {Q : bk_R → bk_H → Nat → Prop} {h : bk_H} {a w r : Nat} {t : bT} (hT : TB h a w r t) (hQ : ∀ h', TB h' a w r (adT t w r) → fr h h' a (a + 2) → Q (.inl (some (.int (adI t r)))) h' n) : bk_wp V (d + 1) 67 [.ref a] h n B Q := by
  unfold adT adI at hQ
  refine bt_add hT (fun q => ?_) (fun q h' k g => ?_)
  · simp only [if_neg q] at hQ
    exact hQ h hT fr.refl
  · simp only [if_pos q] at hQ
    exact hQ h' k g
section BP
variable {V : bk_V} {d n : Nat} {B : Nat × Nat} {Q : bk_R → bk_H → Nat → Prop} {h : bk_H} {dr tk tp p N : Nat} {T : List Int32} {rows : bT} {f K : Nat → Int32} {g : Nat → Int64} {s : bP} {cs : Nat × Nat}
def XS (h : bk_H) (dr tk tp : Nat) (T : List Int32) (p : Nat) (rows : bT) (f : Nat → Int32) (g : Nat → Int64) (s : bP) : Prop := PX h dr tk tp T p rows f g s.2.1 s.2.2 (s.2.1 4) s.1
theorem uT_id {P : Nat → bT} {i : Nat} : uT P i (P i) = P := by
  funext k
  unfold uT
  by_cases h : k = i
  · rw [if_pos h, h]
  · rw [if_neg h]
theorem XS.kp {h h' : bk_H} {lo hi : Nat} (q : XS h dr tk tp T p rows f g s) (w : fr h h' lo hi) (hd : (tp + 2 ≤ lo ∨ hi ≤ tp) ∧ (tk + 7 ≤ lo ∨ hi ≤ tk) ∧ (dr + 12 ≤ lo ∨ hi ≤ dr)) : XS h' dr tk tp T p rows f g s := by
  obtain ⟨h1, h2, h3, h4⟩ := q
  exact ⟨h1.kp w (by omega), h2.kp w (by omega), (w _ (by omega)).trans h3, h4⟩
theorem XS.L {h : bk_H} (q : XS h dr tk tp T p rows f g s) : LO h dr s.2.1 := by
  have := q.2.1
  rw [uT_id] at this
  exact this
theorem XS.up {h h' : bk_H} {P' : Nat → bT} (q : XS h dr tk tp T p rows f g s) (k : LO h' dr P') (w : fr h h' dr (dr + 11)) : XS h' dr tk tp T p rows f g (s.1, P', s.2.2) := by
  obtain ⟨h1, h2, h3, h4⟩ := q
  have ktp := h1.2.2.2.2.2.2
  exact ⟨h1.kp w (by omega), by show LO h' dr (uT P' 4 (P' 4)); rw [uT_id]; exact k, (w _ (by omega)).trans h3, h4⟩
theorem XS.od {h h' : bk_H} {x : Int32} (q : XS h dr tk tp T p rows f g s) (k : h' (dr + 11) = some (.inr (6, [.ref tk, .ref dr, .int (nI s.1), .int x]))) (w : ∀ q, q ≠ dr + 11 → h' q = h q) : XS h' dr tk tp T p rows f g (s.1, s.2.1, x) := by
  obtain ⟨h1, h2, h3, h4⟩ := q
  have ktp := h1.2.2.2.2.2.2
  exact ⟨h1.kp (fr.one w) (by omega), h2.kp (fr.one w) (by omega), k, h4⟩
theorem XS.pp {h h' : bk_H} {tag : Nat} (_q : XS h dr tk tp T p rows f g s) (k : PX h' dr tk tp T p rows f g s.2.1 s.2.2 (s.2.1 4 ++ (pp K 3300 tag 0 s.1).2.2.map (rwF rows)) (pp K 3300 tag 0 s.1).2.1) : XS h' dr tk tp T p rows f g (ppS K rows tag s).2 := by
  obtain ⟨h1, h2, h3, h4⟩ := k
  refine ⟨h1, ?_, h3, h4⟩
  show LO h' dr (uT (uT s.2.1 4 _) 4 (uT s.2.1 4 _ 4))
  rw [uT_uT, uT_s]
  exact h2
theorem bs_take {k : Int32} (hF : ∀ i, i < N → f i = K i) (hN : N ≤ 401) (hv : SV N s) (hX : XS h dr tk tp T p rows f g s) (hQ : ∀ h', XS h' dr tk tp T p rows f g (tkS K k s).2 → fr h h' dr (dr + 12) → Q (.inl (some (.int (if (tkS K k s).1 = true then 1 else 0)))) h' n) : bk_wp V (d + 2) 58 [.ref (dr + 11), .int k] h n B Q := by
  refine bp_take hF hN hv.1 hX (fun h' q1 q2 => ?_)
  unfold tkS at hQ
  by_cases e : K s.1 = k
  · simp only [if_pos e] at hQ q1
    rw [if_pos e]
    exact hQ h' q1 q2
  · simp only [if_neg e] at hQ q1
    rw [if_neg e]
    exact hQ h' q1 q2
theorem bs_num0 {kw x y : Int32} {c : Nat} (hF : ∀ i, i < N → f i = K i) (hN : N ≤ 401) (hE : K (N - 1) = 47 ∨ K (N - 1) = 0) (h1 : ¬ kw = 47) (h2 : ¬ kw = 0) (hy : y = nI c) (hc : c < 2 ^ 31) (hv : SV N s) (hX : XS h dr tk tp T p rows f g s) (hQ : ∀ h', XS h' dr tk tp T p rows f g (tnS K rows kw 0 x c s).2 → fr h h' dr (dr + 12) → Q (.inl (some (.int (if (tnS K rows kw 0 x c s).1 = true then 1 else 0)))) h' n) : bk_wp V (d + 3) 59 [.ref (dr + 11), .int kw, .ref (dr + 1), .int x, .int y] h n B Q := by
  subst hy
  unfold tnS at hQ
  have hL := hX.L
  obtain ⟨l0, l1, l2, l3, l4, l5⟩ := id hL
  obtain ⟨hK, -, p0, htk⟩ := id hX
  refine bg_in rfl rfl ?_
  refine bg_aload0 rfl ?_
  refine bg_iload1 rfl ?_
  refine bg_virt1 rfl rfl rfl rfl ⟨_, p0⟩ ?_
  refine bs_take hF hN hv hX (fun hA hXA gA => bk_Ki ?_)
  have v1 := tkS_v hE hv h1 h2
  have hL := hXA.L
  obtain ⟨l0, l1, l2, l3, l4, l5⟩ := id hL
  obtain ⟨hK, -, p0, htk⟩ := id hXA
  refine bg_ifeq_b rfl (fun e5 => ?_) (fun e5 => ?_)
  · rw [sqS_f e5, if_neg e5] at hQ
    have hfin := hQ hA hXA gA
    refine bg_iconst rfl ?_
    refine bg_iret rfl rfl (by rfl) ?_
    exact hfin
  · rw [sqS_t e5] at hQ
    refine bg_aload0 rfl ?_
    refine bg_bipush rfl ?_
    refine bg_virt1 rfl rfl rfl rfl ⟨_, p0⟩ ?_
    refine bs_take hF hN v1.1 hXA (fun hB hXB gB => bk_Ki ?_)
    have v2 := tkS_v (k := 31) hE v1.1 (by decide) (by decide)
    have hL := hXB.L
    obtain ⟨l0, l1, l2, l3, l4, l5⟩ := id hL
    obtain ⟨hK, -, p0, htk⟩ := id hXB
    refine bg_ifne_b rfl (fun e14 => ?_) (fun e14 => ?_)
    · rw [sqS_t e14] at hQ
      have v3 := v2.2.2 e14
      refine bg_aload2 rfl ?_
      refine bg_iload3 rfl ?_
      refine bg_iload4 rfl ?_
      refine bg_aload0 rfl ?_
      refine bg_getfield rfl rfl p0 (by rfl) ?_
      refine bg_aload0 rfl ?_
      refine bg_getfield rfl rfl p0 (by rfl) ?_
      refine bg_iconst rfl ?_
      refine bg_isub rfl ?_
      rw [show nI (tkS K 31 (tkS K kw s).2).2.1 - 1 = nI ((tkS K 31 (tkS K kw s).2).2.1 - 1) from pk_sub (b := 1) (by omega)]
      refine bg_virt1 rfl rfl rfl rfl ⟨_, hK.2.1⟩ ?_
      refine bk_value hK (bk_Ki ?_)
      refine bg_virt3 rfl rfl rfl rfl ⟨_, l1.1⟩ ?_
      refine bt_set l1 rfl hc (fun hC kC gC => bk_Kv ?_)
      refine bg_iconst rfl ?_
      refine bg_iret rfl rfl (by rfl) ?_
      exact hQ hC (hXB.up (hL.t0 kC gC) (gC.wide (by omega) (by omega))) ((gA.trans gB).trans (gC.wide (by omega) (by omega)))
    · rw [sqS_f e14, if_neg e14] at hQ
      have hfin := hQ hB hXB (gA.trans gB)
      refine bg_iconst rfl ?_
      refine bg_iret rfl rfl (by rfl) ?_
      exact hfin
theorem bs_num1 {kw x y : Int32} {c : Nat} (hF : ∀ i, i < N → f i = K i) (hN : N ≤ 401) (hE : K (N - 1) = 47 ∨ K (N - 1) = 0) (h1 : ¬ kw = 47) (h2 : ¬ kw = 0) (hy : y = nI c) (hc : c < 2 ^ 31) (hv : SV N s) (hX : XS h dr tk tp T p rows f g s) (hQ : ∀ h', XS h' dr tk tp T p rows f g (tnS K rows kw 1 x c s).2 → fr h h' dr (dr + 12) → Q (.inl (some (.int (if (tnS K rows kw 1 x c s).1 = true then 1 else 0)))) h' n) : bk_wp V (d + 3) 59 [.ref (dr + 11), .int kw, .ref (dr + 3), .int x, .int y] h n B Q := by
  subst hy
  unfold tnS at hQ
  have hL := hX.L
  obtain ⟨l0, l1, l2, l3, l4, l5⟩ := id hL
  obtain ⟨hK, -, p0, htk⟩ := id hX
  refine bg_in rfl rfl ?_
  refine bg_aload0 rfl ?_
  refine bg_iload1 rfl ?_
  refine bg_virt1 rfl rfl rfl rfl ⟨_, p0⟩ ?_
  refine bs_take hF hN hv hX (fun hA hXA gA => bk_Ki ?_)
  have v1 := tkS_v hE hv h1 h2
  have hL := hXA.L
  obtain ⟨l0, l1, l2, l3, l4, l5⟩ := id hL
  obtain ⟨hK, -, p0, htk⟩ := id hXA
  refine bg_ifeq_b rfl (fun e5 => ?_) (fun e5 => ?_)
  · rw [sqS_f e5, if_neg e5] at hQ
    have hfin := hQ hA hXA gA
    refine bg_iconst rfl ?_
    refine bg_iret rfl rfl (by rfl) ?_
    exact hfin
  · rw [sqS_t e5] at hQ
    refine bg_aload0 rfl ?_
    refine bg_bipush rfl ?_
    refine bg_virt1 rfl rfl rfl rfl ⟨_, p0⟩ ?_
    refine bs_take hF hN v1.1 hXA (fun hB hXB gB => bk_Ki ?_)
    have v2 := tkS_v (k := 31) hE v1.1 (by decide) (by decide)
    have hL := hXB.L
    obtain ⟨l0, l1, l2, l3, l4, l5⟩ := id hL
    obtain ⟨hK, -, p0, htk⟩ := id hXB
    refine bg_ifne_b rfl (fun e14 => ?_) (fun e14 => ?_)
    · rw [sqS_t e14] at hQ
      have v3 := v2.2.2 e14
      refine bg_aload2 rfl ?_
      refine bg_iload3 rfl ?_
      refine bg_iload4 rfl ?_
      refine bg_aload0 rfl ?_
      refine bg_getfield rfl rfl p0 (by rfl) ?_
      refine bg_aload0 rfl ?_
      refine bg_getfield rfl rfl p0 (by rfl) ?_
      refine bg_iconst rfl ?_
      refine bg_isub rfl ?_
      rw [show nI (tkS K 31 (tkS K kw s).2).2.1 - 1 = nI ((tkS K 31 (tkS K kw s).2).2.1 - 1) from pk_sub (b := 1) (by omega)]
      refine bg_virt1 rfl rfl rfl rfl ⟨_, hK.2.1⟩ ?_
      refine bk_value hK (bk_Ki ?_)
      refine bg_virt3 rfl rfl rfl rfl ⟨_, l2.1⟩ ?_
      refine bt_set l2 rfl hc (fun hC kC gC => bk_Kv ?_)
      refine bg_iconst rfl ?_
      refine bg_iret rfl rfl (by rfl) ?_
      exact hQ hC (hXB.up (hL.t1 kC gC) (gC.wide (by omega) (by omega))) ((gA.trans gB).trans (gC.wide (by omega) (by omega)))
    · rw [sqS_f e14, if_neg e14] at hQ
      have hfin := hQ hB hXB (gA.trans gB)
      refine bg_iconst rfl ?_
      refine bg_iret rfl rfl (by rfl) ?_
      exact hfin
theorem bs_num2 {kw x y : Int32} {c : Nat} (hF : ∀ i, i < N → f i = K i) (hN : N ≤ 401) (hE : K (N - 1) = 47 ∨ K (N - 1) = 0) (h1 : ¬ kw = 47) (h2 : ¬ kw = 0) (hy : y = nI c) (hc : c < 2 ^ 31) (hv : SV N s) (hX : XS h dr tk tp T p rows f g s) (hQ : ∀ h', XS h' dr tk tp T p rows f g (tnS K rows kw 2 x c s).2 → fr h h' dr (dr + 12) → Q (.inl (some (.int (if (tnS K rows kw 2 x c s).1 = true then 1 else 0)))) h' n) : bk_wp V (d + 3) 59 [.ref (dr + 11), .int kw, .ref (dr + 5), .int x, .int y] h n B Q := by
  subst hy
  unfold tnS at hQ
  have hL := hX.L
  obtain ⟨l0, l1, l2, l3, l4, l5⟩ := id hL
  obtain ⟨hK, -, p0, htk⟩ := id hX
  refine bg_in rfl rfl ?_
  refine bg_aload0 rfl ?_
  refine bg_iload1 rfl ?_
  refine bg_virt1 rfl rfl rfl rfl ⟨_, p0⟩ ?_
  refine bs_take hF hN hv hX (fun hA hXA gA => bk_Ki ?_)
  have v1 := tkS_v hE hv h1 h2
  have hL := hXA.L
  obtain ⟨l0, l1, l2, l3, l4, l5⟩ := id hL
  obtain ⟨hK, -, p0, htk⟩ := id hXA
  refine bg_ifeq_b rfl (fun e5 => ?_) (fun e5 => ?_)
  · rw [sqS_f e5, if_neg e5] at hQ
    have hfin := hQ hA hXA gA
    refine bg_iconst rfl ?_
    refine bg_iret rfl rfl (by rfl) ?_
    exact hfin
  · rw [sqS_t e5] at hQ
    refine bg_aload0 rfl ?_
    refine bg_bipush rfl ?_
    refine bg_virt1 rfl rfl rfl rfl ⟨_, p0⟩ ?_
    refine bs_take hF hN v1.1 hXA (fun hB hXB gB => bk_Ki ?_)
    have v2 := tkS_v (k := 31) hE v1.1 (by decide) (by decide)
    have hL := hXB.L
    obtain ⟨l0, l1, l2, l3, l4, l5⟩ := id hL
    obtain ⟨hK, -, p0, htk⟩ := id hXB
    refine bg_ifne_b rfl (fun e14 => ?_) (fun e14 => ?_)
    · rw [sqS_t e14] at hQ
      have v3 := v2.2.2 e14
      refine bg_aload2 rfl ?_
      refine bg_iload3 rfl ?_
      refine bg_iload4 rfl ?_
      refine bg_aload0 rfl ?_
      refine bg_getfield rfl rfl p0 (by rfl) ?_
      refine bg_aload0 rfl ?_
      refine bg_getfield rfl rfl p0 (by rfl) ?_
      refine bg_iconst rfl ?_
      refine bg_isub rfl ?_
      rw [show nI (tkS K 31 (tkS K kw s).2).2.1 - 1 = nI ((tkS K 31 (tkS K kw s).2).2.1 - 1) from pk_sub (b := 1) (by omega)]
      refine bg_virt1 rfl rfl rfl rfl ⟨_, hK.2.1⟩ ?_
      refine bk_value hK (bk_Ki ?_)
      refine bg_virt3 rfl rfl rfl rfl ⟨_, l3.1⟩ ?_
      refine bt_set l3 rfl hc (fun hC kC gC => bk_Kv ?_)
      refine bg_iconst rfl ?_
      refine bg_iret rfl rfl (by rfl) ?_
      exact hQ hC (hXB.up (hL.t2 kC gC) (gC.wide (by omega) (by omega))) ((gA.trans gB).trans (gC.wide (by omega) (by omega)))
    · rw [sqS_f e14, if_neg e14] at hQ
      have hfin := hQ hB hXB (gA.trans gB)
      refine bg_iconst rfl ?_
      refine bg_iret rfl rfl (by rfl) ?_
      exact hfin
theorem bs_name {kw y : Int32} {c : Nat} (hF : ∀ i, i < N → f i = K i) (hN : N ≤ 401) (hE : K (N - 1) = 47 ∨ K (N - 1) = 0) (h1 : ¬ kw = 47) (h2 : ¬ kw = 0) (hy : y = nI c) (hc : c < 2 ^ 31) (hv : SV N s) (hX : XS h dr tk tp T p rows f g s) (hQ : ∀ h', XS h' dr tk tp T p rows f g (tmS K rows kw c s).2 → fr h h' dr (dr + 12) → Q (.inl (some (.int (if (tmS K rows kw c s).1 = true then 1 else 0)))) h' n) : bk_wp V (d + 3) 60 [.ref (dr + 11), .int kw, .int y] h n B Q := by
  subst hy
  unfold tmS at hQ
  have hL := hX.L
  obtain ⟨l0, l1, l2, l3, l4, l5⟩ := id hL
  obtain ⟨hK, -, p0, htk⟩ := id hX
  refine bg_in rfl rfl ?_
  refine bg_aload0 rfl ?_
  refine bg_iload1 rfl ?_
  refine bg_virt1 rfl rfl rfl rfl ⟨_, p0⟩ ?_
  refine bs_take hF hN hv hX (fun hA hXA gA => bk_Ki ?_)
  have v1 := tkS_v hE hv h1 h2
  have hL := hXA.L
  obtain ⟨l0, l1, l2, l3, l4, l5⟩ := id hL
  obtain ⟨hK, -, p0, htk⟩ := id hXA
  refine bg_ifeq_b rfl (fun e5 => ?_) (fun e5 => ?_)
  · rw [sqS_f e5, if_neg e5] at hQ
    have hfin := hQ hA hXA gA
    refine bg_iconst rfl ?_
    refine bg_iret rfl rfl (by rfl) ?_
    exact hfin
  · rw [sqS_t e5] at hQ
    refine bg_aload0 rfl ?_
    refine bg_bipush rfl ?_
    refine bg_virt1 rfl rfl rfl rfl ⟨_, p0⟩ ?_
    refine bs_take hF hN v1.1 hXA (fun hB hXB gB => bk_Ki ?_)
    have v2 := tkS_v (k := 30) hE v1.1 (by decide) (by decide)
    have hL := hXB.L
    obtain ⟨l0, l1, l2, l3, l4, l5⟩ := id hL
    obtain ⟨hK, -, p0, htk⟩ := id hXB
    refine bg_ifne_b rfl (fun e14 => ?_) (fun e14 => ?_)
    · rw [sqS_t e14] at hQ
      have v3 := v2.2.2 e14
      refine bg_aload0 rfl ?_
      refine bg_getfield rfl rfl p0 (by rfl) ?_
      refine bg_getfield rfl rfl l0 (by rfl) ?_
      refine bg_aload0 rfl ?_
      refine bg_getfield rfl rfl p0 (by rfl) ?_
      refine bg_iload2 rfl ?_
      refine bg_aload0 rfl ?_
      refine bg_getfield rfl rfl p0 (by rfl) ?_
      refine bg_aload0 rfl ?_
      refine bg_getfield rfl rfl p0 (by rfl) ?_
      refine bg_iconst rfl ?_
      refine bg_isub rfl ?_
      rw [show nI (tkS K 30 (tkS K kw s).2).2.1 - 1 = nI ((tkS K 30 (tkS K kw s).2).2.1 - 1) from pk_sub (b := 1) (by omega)]
      refine bg_virt1 rfl rfl rfl rfl ⟨_, hK.2.1⟩ ?_
      refine bk_value hK (bk_Ki ?_)
      refine bg_virt3 rfl rfl rfl rfl ⟨_, l4.1⟩ ?_
      refine bt_set l4 rfl hc (fun hC kC gC => bk_Kv ?_)
      refine bg_iconst rfl ?_
      refine bg_iret rfl rfl (by rfl) ?_
      exact hQ hC (hXB.up (hL.t3 kC gC) (gC.wide (by omega) (by omega))) ((gA.trans gB).trans (gC.wide (by omega) (by omega)))
    · rw [sqS_f e14, if_neg e14] at hQ
      have hfin := hQ hB hXB (gA.trans gB)
      refine bg_iconst rfl ?_
      refine bg_iret rfl rfl (by rfl) ?_
      exact hfin
end BP
