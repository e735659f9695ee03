/-! THE GRAMMAR OF SUMS AND TESTS, over the kinds of the tokens: whether it fits, how far, and the steps that it comes to. tags: 0 value 1 product 2 its rest 3 sum 4 its rest 5 single 6 both 7 its rest 8 test 9 its rest. Printed by wip/whole/mk32.py. -/
abbrev bIt : Type := Int32 × Option Nat
abbrev bR3 : Type := Bool × Nat × List bIt
def sq (a : bR3) (b : Nat → bR3) : bR3 := if a.1 = true then ((b a.2.1).1, (b a.2.1).2.1, a.2.2 ++ (b a.2.1).2.2) else a
def tk1 (K : Nat → Int32) (k : Int32) (t : Nat) : bR3 := if K t = k then (true, t + 1, []) else (false, t, [])
def em (k : Int32) (j : Option Nat) (t : Nat) : bR3 := (true, t, [(k, j)])
def no (t : Nat) : bR3 := (false, t, [])
def pp (K : Nat → Int32) : Nat → Nat → Nat → Nat → bR3
  | 0, _, _, t => no t
  | n + 1, 0, d, t =>
    if K t = 31 ∨ K t = 18 ∨ K t = 23 ∨ K t = 24 then (true, t + 1, [(K t, some t)])
    else if K t = 2 ∨ K t = 19 ∨ K t = 20 ∨ K t = 21 ∨ K t = 22 then (if K (t + 1) = 30 then (true, t + 2, [(K t, some (t + 1))]) else no (t + 1))
    else if K t = 39 then (if d < 8 then sq (pp K n 0 (d + 1) (t + 1)) (em 48 none) else no t)
    else if K t = 32 then (if d < 8 then sq (pp K n 3 (d + 1) (t + 1)) (tk1 K 33) else no t)
    else if K t = 28 ∨ K t = 29 then (if d < 8 ∧ K (t + 1) = 32 then sq (pp K n 3 (d + 1) (t + 2)) (fun t1 => sq (tk1 K 37 t1) (fun t2 => sq (pp K n 3 (d + 1) t2) (fun t3 => sq (tk1 K 33 t3) (em (K t) none)))) else no (t + 1))
    else no t
  | n + 1, 1, d, t => sq (pp K n 0 d t) (pp K n 2 d)
  | n + 1, 2, d, t => if K t = 40 ∨ K t = 41 then sq (pp K n 0 d (t + 1)) (fun t1 => sq (em (K t) none t1) (pp K n 2 d)) else (true, t, [])
  | n + 1, 3, d, t => sq (pp K n 1 d t) (pp K n 4 d)
  | n + 1, 4, d, t => if K t = 38 ∨ K t = 39 then sq (pp K n 1 d (t + 1)) (fun t1 => sq (em (K t) none t1) (pp K n 4 d)) else (true, t, [])
  | n + 1, 5, d, t =>
    if K t = 25 then (if d < 8 then sq (pp K n 5 (d + 1) (t + 1)) (em 25 none) else no t)
    else if K t = 34 then (if d < 8 then sq (pp K n 8 (d + 1) (t + 1)) (tk1 K 35) else no t)
    else sq (pp K n 3 d t) (fun t1 => if ¬ K t1 < 42 ∧ ¬ 46 < K t1 then sq (pp K n 3 d (t1 + 1)) (em (K t1) none) else no t1)
  | n + 1, 6, d, t => sq (pp K n 5 d t) (pp K n 7 d)
  | n + 1, 7, d, t => if K t = 26 then sq (pp K n 5 d (t + 1)) (fun t1 => sq (em 26 none t1) (pp K n 7 d)) else (true, t, [])
  | n + 1, 8, d, t => sq (pp K n 6 d t) (pp K n 9 d)
  | n + 1, 9, d, t => if K t = 27 then sq (pp K n 6 d (t + 1)) (fun t1 => sq (em 27 none t1) (pp K n 9 d)) else (true, t, [])
  | _ + 1, _ + 10, _, t => no t
theorem sq_t {a : bR3} {b : Nat → bR3} (h : a.1 = true) : sq a b = ((b a.2.1).1, (b a.2.1).2.1, a.2.2 ++ (b a.2.1).2.2) := if_pos h
theorem sq_f {a : bR3} {b : Nat → bR3} (h : ¬ a.1 = true) : sq a b = a := if_neg h
/-- what a part keeps: it goes on, not past the end, and comes to no more steps than it takes tokens; m: it takes some, where it fits -/
def ppk (N m t : Nat) (r : bR3) : Prop := r.2.1 < N ∧ t ≤ r.2.1 ∧ (r.1 = true → t + m ≤ r.2.1) ∧ r.2.2.length + t ≤ r.2.1
theorem sqk {N m m' m0 t t0 : Nat} {a : bR3} {b : Nat → bR3} (ha : ppk N m t a) (hb : a.1 = true → ppk N m' a.2.1 (b a.2.1)) (h0 : t0 ≤ t) (hm : m0 + t0 ≤ t + m + m') : ppk N m0 t0 (sq a b) := by
  obtain ⟨a1, a2, a3, a4⟩ := ha
  by_cases h : a.1 = true
  · rw [sq_t h]
    obtain ⟨b1, b2, b3, b4⟩ := hb h
    have a3 := a3 h
    refine ⟨b1, by show t0 ≤ (b a.2.1).2.1; omega, fun q => ?_, ?_⟩
    · have := b3 q
      show t0 + m0 ≤ (b a.2.1).2.1
      omega
    · show (a.2.2 ++ (b a.2.1).2.2).length + t0 ≤ _
      rw [List.length_append]
      show _ ≤ (b a.2.1).2.1
      omega
  · rw [sq_f h]
    exact ⟨a1, by omega, fun q => absurd q h, by omega⟩
theorem nok {N m t t0 : Nat} (h : t < N) (h0 : t0 ≤ t) : ppk N m t0 (no t) := ⟨h, h0, fun q => Bool.noConfusion q, by show 0 + t0 ≤ t; omega⟩
/-- a token that is not the last lies ahead of the end -/
theorem KE {K : Nat → Int32} {N t : Nat} (hE : K (N - 1) = 47 ∨ K (N - 1) = 0) (h : t < N) (h1 : ¬ K t = 47) (h2 : ¬ K t = 0) : t + 1 < N := by
  by_cases q : t = N - 1
  · subst q
    exact (hE.elim h1 h2).elim
  · omega
theorem KEk {K : Nat → Int32} {N t : Nat} {k : Int32} (hE : K (N - 1) = 47 ∨ K (N - 1) = 0) (h : t < N) (hk : K t = k) (h1 : ¬ k = 47) (h2 : ¬ k = 0) : t + 1 < N := KE hE h (by rw [hk]; exact h1) (by rw [hk]; exact h2)
theorem tk1k {K : Nat → Int32} {N t : Nat} {k : Int32} (hE : K (N - 1) = 47 ∨ K (N - 1) = 0) (h : t < N) (h1 : ¬ k = 47) (h2 : ¬ k = 0) : ppk N 1 t (tk1 K k t) := by
  unfold tk1
  by_cases hk : K t = k
  · rw [if_pos hk]
    exact ⟨KEk hE h hk h1 h2, by show t ≤ t + 1; omega, fun _ => Nat.le_refl _, by show 0 + t ≤ t + 1; omega⟩
  · rw [if_neg hk]
    exact nok h (Nat.le_refl t)
theorem tke {K : Nat → Int32} {N t : Nat} {k k' : Int32} {j : Option Nat} (hE : K (N - 1) = 47 ∨ K (N - 1) = 0) (h : t < N) (h1 : ¬ k = 47) (h2 : ¬ k = 0) : ppk N 1 t (sq (tk1 K k t) (em k' j)) := by
  unfold tk1
  by_cases hk : K t = k
  · rw [if_pos hk]
    exact ⟨KEk hE h hk h1 h2, by show t ≤ t + 1; omega, fun _ => Nat.le_refl _, by show 1 + t ≤ t + 1; omega⟩
  · rw [if_neg hk]
    exact nok h (Nat.le_refl t)
def ppm (tag : Nat) : Nat := if tag = 2 ∨ tag = 4 ∨ tag = 7 ∨ tag = 9 then 0 else 1
/-- a step behind a part that took a token more than it wrote -/
theorem emk {N m t t0 : Nat} {k : Int32} {j : Option Nat} {a : bR3} (ha : ppk N m t a) (h0 : t0 + 1 ≤ t) : ppk N (m + 1) t0 (sq a (em k j)) := by
  obtain ⟨a1, a2, a3, a4⟩ := ha
  by_cases h : a.1 = true
  · rw [sq_t h]
    have a3 := a3 h
    refine ⟨a1, by show t0 ≤ a.2.1; omega, fun _ => by show t0 + (m + 1) ≤ a.2.1; omega, ?_⟩
    show (a.2.2 ++ [(k, j)]).length + t0 ≤ a.2.1
    rw [List.length_append]
    show a.2.2.length + 1 + t0 ≤ a.2.1
    omega
  · rw [sq_f h]
    exact ⟨a1, by omega, fun q => absurd q h, by omega⟩
/-- a step and a rest behind such a part -/
theorem emr {N m t t0 : Nat} {k : Int32} {j : Option Nat} {a : bR3} {b : Nat → bR3} (ha : ppk N m t a) (h0 : t0 + 1 ≤ t) (hb : a.1 = true → ppk N 0 a.2.1 (b a.2.1)) : ppk N 0 t0 (sq a (fun t1 => sq (em k j t1) b)) := by
  obtain ⟨a1, a2, a3, a4⟩ := ha
  by_cases h : a.1 = true
  · rw [sq_t h]
    have a3 := a3 h
    obtain ⟨b1, b2, b3, b4⟩ := hb h
    have e : sq (em k j a.2.1) b = ((b a.2.1).1, (b a.2.1).2.1, [(k, j)] ++ (b a.2.1).2.2) := sq_t rfl
    rw [e]
    refine ⟨b1, by show t0 ≤ (b a.2.1).2.1; omega, fun _ => by show t0 + 0 ≤ (b a.2.1).2.1; omega, ?_⟩
    show (a.2.2 ++ ([(k, j)] ++ (b a.2.1).2.2)).length + t0 ≤ (b a.2.1).2.1
    rw [List.length_append, List.length_append]
    show a.2.2.length + (1 + (b a.2.1).2.2.length) + t0 ≤ _
    omega
  · rw [sq_f h]
    exact ⟨a1, by omega, fun q => absurd q h, by omega⟩
theorem pp_k {K : Nat → Int32} {N : Nat} (hE : K (N - 1) = 47 ∨ K (N - 1) = 0) : ∀ (n tag d t : Nat), t < N → ppk N (ppm tag) t (pp K n tag d t)
  | 0, tag, d, t, h => nok h (Nat.le_refl t)
  | n + 1, 0, d, t, h => by
    have ih := pp_k hE n
    unfold pp
    by_cases h1 : K t = 31 ∨ K t = 18 ∨ K t = 23 ∨ K t = 24
    · rw [if_pos h1]
      have ht : t + 1 < N := KE hE h (by rintro q; rw [q] at h1; revert h1; decide) (by rintro q; rw [q] at h1; revert h1; decide)
      exact ⟨ht, by show t ≤ t + 1; omega, fun _ => Nat.le_refl _, by show 1 + t ≤ t + 1; omega⟩
    rw [if_neg h1]
    by_cases h2 : K t = 2 ∨ K t = 19 ∨ K t = 20 ∨ K t = 21 ∨ K t = 22
    · rw [if_pos h2]
      have ht : t + 1 < N := KE hE h (by rintro q; rw [q] at h2; revert h2; decide) (by rintro q; rw [q] at h2; revert h2; decide)
      by_cases h3 : K (t + 1) = 30
      · rw [if_pos h3]
        exact ⟨KEk hE ht h3 (by decide) (by decide), by show t ≤ t + 2; omega, fun _ => by show t + 1 ≤ t + 2; omega, by show 1 + t ≤ t + 2; omega⟩
      · rw [if_neg h3]
        exact nok ht (by omega)
    rw [if_neg h2]
    by_cases h3 : K t = 39
    · rw [if_pos h3]
      have ht := KEk hE h h3 (by decide) (by decide)
      by_cases h4 : d < 8
      · rw [if_pos h4]
        obtain ⟨q1, q2, q3, q4⟩ := emk (k := 48) (j := none) (ih 0 (d + 1) (t + 1) ht) (Nat.le_refl (t + 1))
        exact ⟨q1, q2, fun z => by have := q3 z; show t + 1 ≤ _; omega, q4⟩
      · rw [if_neg h4]
        exact nok h (Nat.le_refl t)
    rw [if_neg h3]
    by_cases h4 : K t = 32
    · rw [if_pos h4]
      have ht := KEk hE h h4 (by decide) (by decide)
      by_cases h5 : d < 8
      · rw [if_pos h5]
        exact sqk (ih 3 (d + 1) (t + 1) ht) (fun _ => tk1k hE (ih 3 (d + 1) (t + 1) ht).1 (by decide) (by decide)) (by omega) (by show 1 + t ≤ t + 1 + 1 + 1; omega)
      · rw [if_neg h5]
        exact nok h (Nat.le_refl t)
    rw [if_neg h4]
    by_cases h5 : K t = 28 ∨ K t = 29
    · rw [if_pos h5]
      have ht : t + 1 < N := KE hE h (by rintro q; rw [q] at h5; revert h5; decide) (by rintro q; rw [q] at h5; revert h5; decide)
      by_cases h6 : d < 8 ∧ K (t + 1) = 32
      · rw [if_pos h6]
        have ht2 := KEk hE ht h6.2 (by decide) (by decide)
        have s1 := ih 3 (d + 1) (t + 2) ht2
        refine sqk (m' := 0) s1 (fun _ => ?_) (by omega) (by show 1 + t ≤ t + 2 + 1 + 0; omega)
        have k1 := tk1k (k := 37) hE s1.1 (by decide) (by decide)
        refine sqk (m' := 0) k1 (fun _ => ?_) (Nat.le_refl _) (by omega)
        have s2 := ih 3 (d + 1) (tk1 K 37 (pp K n 3 (d + 1) (t + 2)).2.1).2.1 k1.1
        exact sqk (m' := 1) s2 (fun _ => tke hE s2.1 (by decide) (by decide)) (Nat.le_refl _) (by omega)
      · rw [if_neg h6]
        exact nok ht (by omega)
    rw [if_neg h5]
    exact nok h (Nat.le_refl t)
  | n + 1, 1, d, t, h => sqk (m' := 0) (pp_k hE n 0 d t h) (fun _ => pp_k hE n 2 d _ (pp_k hE n 0 d t h).1) (Nat.le_refl t) (by show 1 + t ≤ t + 1 + 0; omega)
  | n + 1, 2, d, t, h => by
    unfold pp
    by_cases h1 : K t = 40 ∨ K t = 41
    · rw [if_pos h1]
      have ht : t + 1 < N := KE hE h (by rintro q; rw [q] at h1; revert h1; decide) (by rintro q; rw [q] at h1; revert h1; decide)
      exact emr (pp_k hE n 0 d (t + 1) ht) (Nat.le_refl _) (fun _ => pp_k hE n 2 d _ (pp_k hE n 0 d (t + 1) ht).1)
    · rw [if_neg h1]
      exact ⟨h, Nat.le_refl t, fun _ => Nat.le_refl t, by show 0 + t ≤ t; omega⟩
  | n + 1, 3, d, t, h => sqk (m' := 0) (pp_k hE n 1 d t h) (fun _ => pp_k hE n 4 d _ (pp_k hE n 1 d t h).1) (Nat.le_refl t) (by show 1 + t ≤ t + 1 + 0; omega)
  | n + 1, 4, d, t, h => by
    unfold pp
    by_cases h1 : K t = 38 ∨ K t = 39
    · rw [if_pos h1]
      have ht : t + 1 < N := KE hE h (by rintro q; rw [q] at h1; revert h1; decide) (by rintro q; rw [q] at h1; revert h1; decide)
      exact emr (pp_k hE n 1 d (t + 1) ht) (Nat.le_refl _) (fun _ => pp_k hE n 4 d _ (pp_k hE n 1 d (t + 1) ht).1)
    · rw [if_neg h1]
      exact ⟨h, Nat.le_refl t, fun _ => Nat.le_refl t, by show 0 + t ≤ t; omega⟩
  | n + 1, 5, d, t, h => by
    unfold pp
    by_cases h1 : K t = 25
    · rw [if_pos h1]
      have ht := KEk hE h h1 (by decide) (by decide)
      by_cases h4 : d < 8
      · rw [if_pos h4]
        obtain ⟨q1, q2, q3, q4⟩ := emk (k := 25) (j := none) (pp_k hE n 5 (d + 1) (t + 1) ht) (Nat.le_refl (t + 1))
        exact ⟨q1, q2, fun z => by have := q3 z; show t + 1 ≤ _; omega, q4⟩
      · rw [if_neg h4]
        exact nok h (Nat.le_refl t)
    rw [if_neg h1]
    by_cases h2 : K t = 34
    · rw [if_pos h2]
      have ht := KEk hE h h2 (by decide) (by decide)
      by_cases h5 : d < 8
      · rw [if_pos h5]
        exact sqk (pp_k hE n 8 (d + 1) (t + 1) ht) (fun _ => tk1k hE (pp_k hE n 8 (d + 1) (t + 1) ht).1 (by decide) (by decide)) (by omega) (by show 1 + t ≤ t + 1 + 1 + 1; omega)
      · rw [if_neg h5]
        exact nok h (Nat.le_refl t)
    rw [if_neg h2]
    have s1 := pp_k hE n 3 d t h
    refine sqk (m' := 0) s1 (fun e1 => ?_) (Nat.le_refl t) (by show 1 + t ≤ t + 1 + 0; omega)
    by_cases h3 : ¬ K (pp K n 3 d t).2.1 < 42 ∧ ¬ 46 < K (pp K n 3 d t).2.1
    · rw [if_pos h3]
      have ht : (pp K n 3 d t).2.1 + 1 < N := KE hE s1.1 (fun q => h3.2 (by rw [q]; decide)) (fun q => h3.1 (by rw [q]; decide))
      obtain ⟨q1, q2, q3, q4⟩ := emk (k := K (pp K n 3 d t).2.1) (j := none) (pp_k hE n 3 d _ ht) (Nat.le_refl _)
      exact ⟨q1, q2, fun z => q2, q4⟩
    · rw [if_neg h3]
      exact nok s1.1 (Nat.le_refl _)
  | n + 1, 6, d, t, h => sqk (m' := 0) (pp_k hE n 5 d t h) (fun _ => pp_k hE n 7 d _ (pp_k hE n 5 d t h).1) (Nat.le_refl t) (by show 1 + t ≤ t + 1 + 0; omega)
  | n + 1, 7, d, t, h => by
    unfold pp
    by_cases h1 : K t = 26
    · rw [if_pos h1]
      have ht := KEk hE h h1 (by decide) (by decide)
      exact emr (pp_k hE n 5 d (t + 1) ht) (Nat.le_refl _) (fun _ => pp_k hE n 7 d _ (pp_k hE n 5 d (t + 1) ht).1)
    · rw [if_neg h1]
      exact ⟨h, Nat.le_refl t, fun _ => Nat.le_refl t, by show 0 + t ≤ t; omega⟩
  | n + 1, 8, d, t, h => sqk (m' := 0) (pp_k hE n 6 d t h) (fun _ => pp_k hE n 9 d _ (pp_k hE n 6 d t h).1) (Nat.le_refl t) (by show 1 + t ≤ t + 1 + 0; omega)
  | n + 1, 9, d, t, h => by
    unfold pp
    by_cases h1 : K t = 27
    · rw [if_pos h1]
      have ht := KEk hE h h1 (by decide) (by decide)
      exact emr (pp_k hE n 6 d (t + 1) ht) (Nat.le_refl _) (fun _ => pp_k hE n 9 d _ (pp_k hE n 6 d (t + 1) ht).1)
    · rw [if_neg h1]
      exact ⟨h, Nat.le_refl t, fun _ => Nat.le_refl t, by show 0 + t ≤ t; omega⟩
  | n + 1, tag + 10, d, t, h => nok h (Nat.le_refl t)
