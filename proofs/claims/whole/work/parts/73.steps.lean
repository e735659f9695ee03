/-! STEPS THAT THE GRAMMAR WRITES: they carry each other out, and a test comes to 0 or 1. -/
/-- a step that puts a value down: what token it speaks of -/
def pkI (K : Nat → Int32) (q : bIt) : Prop := ∃ j, q.2 = some j ∧ (((q.1 = 31 ∨ q.1 = 18 ∨ q.1 = 23 ∨ q.1 = 24) ∧ K j = q.1) ∨ ((q.1 = 2 ∨ q.1 = 19 ∨ q.1 = 20 ∨ q.1 = 21 ∨ q.1 = 22) ∧ K j = 30 ∧ ∃ i, j = i + 1 ∧ K i = q.1))
/-- from k values that wait to k' -/
def wI (K : Nat → Int32) : List bIt → Nat → Nat → Prop
  | [], k, k' => k = k'
  | q :: l, k, k' => (sdF q.1 = 0 ∧ k < 64 ∧ pkI K q ∧ wI K l (k + 1) k') ∨ (sdF q.1 = 1 ∧ 1 ≤ k ∧ (q.1 = 48 ∨ q.1 = 25) ∧ wI K l k k') ∨ (sdF q.1 = 2 ∧ 2 ≤ k ∧ wI K l (k - 1) k')
theorem wI_app {K : Nat → Int32} : ∀ (l m : List bIt) (a b c : Nat), wI K l a b → wI K m b c → wI K (l ++ m) a c
  | [], m, a, b, c, h, g => by
    have h : a = b := h
    subst h
    exact g
  | q :: l, m, a, b, c, h, g => by
    rcases h with ⟨h1, h2, h3, h4⟩ | ⟨h1, h2, h3, h4⟩ | ⟨h1, h2, h4⟩
    · exact Or.inl ⟨h1, h2, h3, wI_app l m _ b c h4 g⟩
    · exact Or.inr (Or.inl ⟨h1, h2, h3, wI_app l m _ b c h4 g⟩)
    · exact Or.inr (Or.inr ⟨h1, h2, wI_app l m _ b c h4 g⟩)
theorem sq_1 {a : bR3} {b : Nat → bR3} (h : (sq a b).1 = true) : a.1 = true ∧ (b a.2.1).1 = true ∧ (sq a b).2 = ((b a.2.1).2.1, a.2.2 ++ (b a.2.1).2.2) := by
  by_cases q : a.1 = true
  · rw [sq_t q] at h ⊢
    exact ⟨q, h, rfl⟩
  · rw [sq_f q] at h
    exact absurd h q
theorem tk1_1 {K : Nat → Int32} {k : Int32} {t : Nat} (h : (tk1 K k t).1 = true) : K t = k ∧ (tk1 K k t).2 = (t + 1, []) := by
  unfold tk1 at h ⊢
  by_cases q : K t = k
  · rw [if_pos q]
    exact ⟨q, rfl⟩
  · rw [if_neg q] at h
    exact Bool.noConfusion h
def ndT : Nat → Nat
  | 0 => 0
  | 1 => 1
  | 2 => 0
  | 3 => 2
  | 4 => 1
  | 5 => 3
  | 6 => 4
  | 7 => 3
  | 8 => 5
  | _ => 4
abbrev rsT (tag : Nat) : Prop := tag = 2 ∨ tag = 4 ∨ tag = 7 ∨ tag = 9
theorem wI_un {K : Nat → Int32} {x : Int32} {k : Nat} (hs : sdF x = 1) (h : x = 48 ∨ x = 25) (hk : 1 ≤ k) : wI K [(x, none)] k k := Or.inr (Or.inl ⟨hs, hk, h, rfl⟩)
theorem wI_bin {K : Nat → Int32} {x : Int32} {k : Nat} (hs : sdF x = 2) (hk : 1 ≤ k) : wI K [(x, none)] (k + 1) k := Or.inr (Or.inr ⟨hs, by omega, rfl⟩)
/-- the rest of a row of sides: an operator, a side, and the rest -/
theorem wI_rest {K : Nat → Int32} {x : Int32} {k : Nat} {a b : List bIt} (hs : sdF x = 2) (hk : 1 ≤ k) (ha : wI K a k (k + 1)) (hb : wI K b k k) : wI K (a ++ ([(x, none)] ++ b)) k k := wI_app _ _ _ _ _ ha (wI_app _ _ _ _ _ (wI_bin hs hk) hb)
theorem sq3 {a : bR3} {x : Int32} {b : Nat → bR3} (h : (sq a (fun t1 => sq (em x none t1) b)).1 = true) : a.1 = true ∧ (b a.2.1).1 = true ∧ (sq a (fun t1 => sq (em x none t1) b)).2 = ((b a.2.1).2.1, a.2.2 ++ ([(x, none)] ++ (b a.2.1).2.2)) := by
  obtain ⟨h1, h2, h3⟩ := sq_1 h
  obtain ⟨_, h5, h6⟩ := sq_1 h2
  refine ⟨h1, h5, ?_⟩
  rw [h3]
  show ((sq (em x none a.2.1) b).2.1, a.2.2 ++ (sq (em x none a.2.1) b).2.2) = _
  rw [h6]
  rfl
/-- what is asked of a value -/
def evO (S : bS) (w : bIt → Int32) : List bIt → List Int32 → List Int32
  | [], stk => stk
  | q :: l, stk => evO S w l (ev1 S q.1 (w q) (sdF q.1) stk)
theorem evO_app {S : bS} {w : bIt → Int32} : ∀ (l m : List bIt) (stk : List Int32), evO S w (l ++ m) stk = evO S w m (evO S w l stk)
  | [], _, _ => rfl
  | q :: l, m, stk => evO_app l m _
abbrev B01 (x : Int32) : Prop := x = 0 ∨ x = 1
/-- what a part comes to: tests to 0 or 1 -/
def evP (S : bS) (w : bIt → Int32) (tag : Nat) (l : List bIt) : Prop :=
  ∀ stk : List Int32, if tag = 2 ∨ tag = 4 then ∀ x, ∃ x', evO S w l (x :: stk) = x' :: stk else if tag = 7 ∨ tag = 9 then ∀ x, B01 x → ∃ x', B01 x' ∧ evO S w l (x :: stk) = x' :: stk else if tag = 5 ∨ tag = 6 ∨ tag = 8 then ∃ x, B01 x ∧ evO S w l stk = x :: stk else ∃ x, evO S w l stk = x :: stk
theorem evO_un {S : bS} {w : bIt → Int32} {x y : Int32} {stk : List Int32} (hs : sdF x = 1) : evO S w [(x, none)] (y :: stk) = rO x 0 y :: stk := by
  show ev1 S x _ (sdF x) (y :: stk) = _
  rw [hs]
  rfl
theorem evO_bin {S : bS} {w : bIt → Int32} {x y z : Int32} {stk : List Int32} (hs : sdF x = 2) : evO S w [(x, none)] (z :: y :: stk) = rO x y z :: stk := by
  show ev1 S x _ (sdF x) (z :: y :: stk) = _
  rw [hs]
  rfl
theorem evO_rest {S : bS} {w : bIt → Int32} {x y z : Int32} {a b : List bIt} {stk : List Int32} (hs : sdF x = 2) (ha : evO S w a (y :: stk) = z :: y :: stk) : evO S w (a ++ ([(x, none)] ++ b)) (y :: stk) = evO S w b (rO x y z :: stk) := by
  rw [evO_app, evO_app, ha, evO_bin hs]
theorem cmp01 {x l r : Int32} (h : ¬ x < 42 ∧ ¬ 46 < x) : B01 (rO x l r) := by
  have hx : x = 42 ∨ x = 43 ∨ x = 44 ∨ x = 45 ∨ x = 46 := by
    obtain ⟨j, j1, j2, rfl⟩ := inR_nI (a := 42) (b := 46) (by decide) (by decide) h
    have : j = 42 ∨ j = 43 ∨ j = 44 ∨ j = 45 ∨ j = 46 := by omega
    rcases this with rfl | rfl | rfl | rfl | rfl <;> decide
  have g : ∀ (p : Prop) [Decidable p], B01 (if p then 1 else 0) := fun p _ => by
    by_cases q : p
    · rw [if_pos q]
      exact Or.inr rfl
    · rw [if_neg q]
      exact Or.inl rfl
  rcases hx with rfl | rfl | rfl | rfl | rfl
  · exact g (l < r)
  · exact g (r < l)
  · exact g (l = r)
  · exact g (¬ r < l)
  · exact g (¬ l < r)
theorem and01 {x y : Int32} (h : B01 x) (g : B01 y) : B01 (rO 26 x y) := by
  rcases h with rfl | rfl <;> rcases g with rfl | rfl <;> decide
theorem or01 {x y : Int32} (h : B01 x) (g : B01 y) : B01 (rO 27 x y) := by
  rcases h with rfl | rfl <;> rcases g with rfl | rfl <;> decide
theorem not01 {y : Int32} (g : B01 y) : B01 (rO 25 0 y) := by
  rcases g with rfl | rfl <;> decide
theorem cmpK {x : Int32} (h : ¬ x < 42 ∧ ¬ 46 < x) : sdF x = 2 := cmpS h
/-- the two together -/
def okT (K : Nat → Int32) (tag d : Nat) (l : List bIt) : Prop :=
  (∀ k, k + 1 + 3 * (8 - d) + ndT tag ≤ 64 → (rsT tag → 1 ≤ k) → wI K l k (if rsT tag then k else k + 1)) ∧ ∀ (S : bS) (w : bIt → Int32), evP S w tag l
theorem ok_l {K : Nat → Int32} {tag d : Nat} {l l' : List bIt} (h : okT K tag d l) (e : l' = l) : okT K tag d l' := e ▸ h
theorem okT_nil {K : Nat → Int32} {tag d : Nat} (h : rsT tag) : okT K tag d [] := by
  refine ⟨fun k _ _ => by rw [if_pos h]; rfl, fun S w stk => ?_⟩
  rcases h with rfl | rfl | rfl | rfl
  · exact fun x => ⟨x, rfl⟩
  · exact fun x => ⟨x, rfl⟩
  · exact fun x hx => ⟨x, hx, rfl⟩
  · exact fun x hx => ⟨x, hx, rfl⟩
theorem okT_push {K : Nat → Int32} {d : Nat} {q : bIt} (hs : sdF q.1 = 0) (h : pkI K q) : okT K 0 d [q] := by
  refine ⟨fun k hk _ => Or.inl ⟨hs, by omega, h, rfl⟩, fun S w stk => ⟨vO S q.1 (w q), ?_⟩⟩
  show ev1 S q.1 (w q) (sdF q.1) stk = _
  rw [hs]
  rfl
theorem pp_ok {K : Nat → Int32} : ∀ (n tag d t : Nat), d ≤ 8 → (pp K n tag d t).1 = true → okT K tag d (pp K n tag d t).2.2
  | 0, tag, d, t, _, h => Bool.noConfusion h
  | n + 1, 0, d, t, hd, h => by
    have ih := pp_ok (K := K) n
    unfold pp at h ⊢
    by_cases h1 : K t = 31 ∨ K t = 18 ∨ K t = 23 ∨ K t = 24
    · rw [if_pos h1]
      exact okT_push (q := (K t, some t)) (by show sdF (K t) = 0; rcases h1 with e | e | e | e <;> rw [e] <;> decide) ⟨t, rfl, Or.inl ⟨h1, rfl⟩⟩
    rw [if_neg h1] at h ⊢
    by_cases h2 : K t = 2 ∨ K t = 19 ∨ K t = 20 ∨ K t = 21 ∨ K t = 22
    · rw [if_pos h2] at h ⊢
      by_cases h3 : K (t + 1) = 30
      · rw [if_pos h3]
        exact okT_push (q := (K t, some (t + 1))) (by show sdF (K t) = 0; rcases h2 with e | e | e | e | e <;> rw [e] <;> decide) ⟨t + 1, rfl, Or.inr ⟨h2, h3, t, rfl, rfl⟩⟩
      · rw [if_neg h3] at h
        exact Bool.noConfusion h
    rw [if_neg h2] at h ⊢
    by_cases h3 : K t = 39
    · rw [if_pos h3] at h ⊢
      by_cases h4 : d < 8
      · rw [if_pos h4] at h ⊢
        obtain ⟨g1, _, g3⟩ := sq_1 h
        obtain ⟨i1, i2⟩ := ih 0 (d + 1) (t + 1) (by omega) g1
        refine ok_l (l := (pp K n 0 (d + 1) (t + 1)).2.2 ++ [(48, none)]) ⟨fun k hk _ => ?_, fun S w stk => ?_⟩ (congrArg Prod.snd g3)
        · exact wI_app _ _ _ _ _ (i1 k (by show k + 1 + 3 * (8 - (d + 1)) + 0 ≤ 64; have : k + 1 + 3 * (8 - d) + 0 ≤ 64 := hk; omega) (fun z => by rcases z with z | z | z | z <;> exact absurd z (by decide))) (wI_un (by decide) (Or.inl rfl) (by show 1 ≤ k + 1; omega))
        · obtain ⟨x, hx⟩ := i2 S w stk
          exact ⟨_, by rw [evO_app, hx, evO_un (by decide)]⟩
      · rw [if_neg h4] at h
        exact Bool.noConfusion h
    rw [if_neg h3] at h ⊢
    by_cases h4 : K t = 32
    · rw [if_pos h4] at h ⊢
      by_cases h5 : d < 8
      · rw [if_pos h5] at h ⊢
        obtain ⟨g1, g2, g3⟩ := sq_1 h
        obtain ⟨_, k2⟩ := tk1_1 g2
        obtain ⟨i1, i2⟩ := ih 3 (d + 1) (t + 1) (by omega) g1
        refine ok_l (l := (pp K n 3 (d + 1) (t + 1)).2.2) ⟨fun k hk z => ?_, fun S w stk => i2 S w stk⟩ ?_
        · exact i1 k (by show k + 1 + 3 * (8 - (d + 1)) + 2 ≤ 64; have : k + 1 + 3 * (8 - d) + 0 ≤ 64 := hk; omega) (fun z => by rcases z with z | z | z | z <;> exact absurd z (by decide))
        · rw [g3, k2]
          exact List.append_nil _
      · rw [if_neg h5] at h
        exact Bool.noConfusion h
    rw [if_neg h4] at h ⊢
    by_cases h5 : K t = 28 ∨ K t = 29
    · rw [if_pos h5] at h ⊢
      by_cases h6 : d < 8 ∧ K (t + 1) = 32
      · rw [if_pos h6] at h ⊢
        have hs : sdF (K t) = 2 := by rcases h5 with e | e <;> rw [e] <;> decide
        obtain ⟨g1, g2, g3⟩ := sq_1 h
        obtain ⟨k1, k2, k3⟩ := sq_1 g2
        obtain ⟨_, m2⟩ := tk1_1 k1
        rw [m2] at k2 k3
        obtain ⟨p1, p2, p3⟩ := sq_1 k2
        obtain ⟨r1, _, r3⟩ := sq_1 p2
        obtain ⟨_, s2⟩ := tk1_1 r1
        rw [s2] at r3
        obtain ⟨i1, i2⟩ := ih 3 (d + 1) (t + 2) (by omega) g1
        obtain ⟨j1, j2⟩ := ih 3 (d + 1) _ (by omega) p1
        generalize pp K n 3 (d + 1) (t + 2) = A at *
        refine ok_l (l := A.2.2 ++ ((pp K n 3 (d + 1) (A.2.1 + 1)).2.2 ++ [(K t, none)])) ⟨fun k hk _ => ?_, fun S w stk => ?_⟩ ?_
        · have hk2 : k + 1 + 3 * (8 - d) + 0 ≤ 64 := hk
          refine wI_app _ _ _ _ _ (i1 k (by show k + 1 + 3 * (8 - (d + 1)) + 2 ≤ 64; omega) (fun z => by rcases z with z | z | z | z <;> exact absurd z (by decide))) (wI_app _ _ _ _ _ (j1 (k + 1) (by show k + 1 + 1 + 3 * (8 - (d + 1)) + 2 ≤ 64; omega) (fun z => by rcases z with z | z | z | z <;> exact absurd z (by decide))) (wI_bin hs (by show 1 ≤ k + 1; omega)))
        · obtain ⟨x, hx⟩ := i2 S w stk
          obtain ⟨y, hy⟩ := j2 S w (x :: stk)
          exact ⟨_, by rw [evO_app, hx, evO_app, hy, evO_bin hs]⟩
        · rw [g3]
          show A.2.2 ++ _ = _
          rw [k3]
          show A.2.2 ++ ([] ++ _) = _
          rw [p3]
          show A.2.2 ++ ([] ++ (_ ++ _)) = _
          rw [r3]
          rfl
      · rw [if_neg h6] at h
        exact Bool.noConfusion h
    rw [if_neg h5] at h
    exact Bool.noConfusion h
  | n + 1, 1, d, t, hd, h => by
    obtain ⟨g1, g2, g3⟩ := sq_1 (show (sq (pp K n 0 d t) (pp K n 2 d)).1 = true from h)
    obtain ⟨i1, i2⟩ := pp_ok (K := K) n 0 d t hd g1
    obtain ⟨j1, j2⟩ := pp_ok (K := K) n 2 d _ hd g2
    refine ok_l ⟨fun k hk _ => ?_, fun S w stk => ?_⟩ (congrArg Prod.snd g3)
    · have hk2 : k + 1 + 3 * (8 - d) + 1 ≤ 64 := hk
      exact wI_app _ _ _ _ _ (i1 k (by show k + 1 + 3 * (8 - d) + 0 ≤ 64; omega) (fun z => by rcases z with z | z | z | z <;> exact absurd z (by decide))) (j1 (k + 1) (by show k + 1 + 1 + 3 * (8 - d) + 0 ≤ 64; omega) (fun _ => by omega))
    · obtain ⟨x, hx⟩ := i2 S w stk
      obtain ⟨y, hy⟩ := j2 S w stk x
      exact ⟨y, by rw [evO_app, hx, hy]⟩
  | n + 1, 2, d, t, hd, h => by
    unfold pp at h ⊢
    by_cases h1 : K t = 40 ∨ K t = 41
    · rw [if_pos h1] at h ⊢
      have hs : sdF (K t) = 2 := by rcases h1 with e | e <;> rw [e] <;> decide
      obtain ⟨g1, g2, g3⟩ := sq3 h
      obtain ⟨i1, i2⟩ := pp_ok (K := K) n 0 d (t + 1) hd g1
      obtain ⟨j1, j2⟩ := pp_ok (K := K) n 2 d _ hd g2
      refine ok_l ⟨fun k hk z => ?_, fun S w stk x => ?_⟩ (congrArg Prod.snd g3)
      · have hk2 : k + 1 + 3 * (8 - d) + 0 ≤ 64 := hk
        exact wI_rest hs (z (by decide)) (i1 k hk2 (fun z => by rcases z with z | z | z | z <;> exact absurd z (by decide))) (j1 k hk2 z)
      · obtain ⟨y, hy⟩ := i2 S w (x :: stk)
        obtain ⟨z, hz⟩ := j2 S w stk (rO (K t) x y)
        exact ⟨z, by rw [evO_rest hs hy, hz]⟩
    · rw [if_neg h1]
      exact okT_nil (by decide)
  | n + 1, 3, d, t, hd, h => by
    obtain ⟨g1, g2, g3⟩ := sq_1 (show (sq (pp K n 1 d t) (pp K n 4 d)).1 = true from h)
    obtain ⟨i1, i2⟩ := pp_ok (K := K) n 1 d t hd g1
    obtain ⟨j1, j2⟩ := pp_ok (K := K) n 4 d _ hd g2
    refine ok_l ⟨fun k hk _ => ?_, fun S w stk => ?_⟩ (congrArg Prod.snd g3)
    · have hk2 : k + 1 + 3 * (8 - d) + 2 ≤ 64 := hk
      exact wI_app _ _ _ _ _ (i1 k (by show k + 1 + 3 * (8 - d) + 1 ≤ 64; omega) (fun z => by rcases z with z | z | z | z <;> exact absurd z (by decide))) (j1 (k + 1) (by show k + 1 + 1 + 3 * (8 - d) + 1 ≤ 64; omega) (fun _ => by omega))
    · obtain ⟨x, hx⟩ := i2 S w stk
      obtain ⟨y, hy⟩ := j2 S w stk x
      exact ⟨y, by rw [evO_app, hx, hy]⟩
  | n + 1, 4, d, t, hd, h => by
    unfold pp at h ⊢
    by_cases h1 : K t = 38 ∨ K t = 39
    · rw [if_pos h1] at h ⊢
      have hs : sdF (K t) = 2 := by rcases h1 with e | e <;> rw [e] <;> decide
      obtain ⟨g1, g2, g3⟩ := sq3 h
      obtain ⟨i1, i2⟩ := pp_ok (K := K) n 1 d (t + 1) hd g1
      obtain ⟨j1, j2⟩ := pp_ok (K := K) n 4 d _ hd g2
      refine ok_l ⟨fun k hk z => ?_, fun S w stk x => ?_⟩ (congrArg Prod.snd g3)
      · have hk2 : k + 1 + 3 * (8 - d) + 1 ≤ 64 := hk
        exact wI_rest hs (z (by decide)) (i1 k hk2 (fun z => by rcases z with z | z | z | z <;> exact absurd z (by decide))) (j1 k hk2 z)
      · obtain ⟨y, hy⟩ := i2 S w (x :: stk)
        obtain ⟨z, hz⟩ := j2 S w stk (rO (K t) x y)
        exact ⟨z, by rw [evO_rest hs hy, hz]⟩
    · rw [if_neg h1]
      exact okT_nil (by decide)
  | n + 1, 5, d, t, hd, h => by
    unfold pp at h ⊢
    by_cases h1 : K t = 25
    · rw [if_pos h1] at h ⊢
      by_cases h4 : d < 8
      · rw [if_pos h4] at h ⊢
        obtain ⟨g1, _, g3⟩ := sq_1 h
        obtain ⟨i1, i2⟩ := pp_ok (K := K) n 5 (d + 1) (t + 1) (by omega) g1
        refine ok_l (l := (pp K n 5 (d + 1) (t + 1)).2.2 ++ [(25, none)]) ⟨fun k hk _ => ?_, fun S w stk => ?_⟩ (congrArg Prod.snd g3)
        · exact wI_app _ _ _ _ _ (i1 k (by show k + 1 + 3 * (8 - (d + 1)) + 3 ≤ 64; have : k + 1 + 3 * (8 - d) + 3 ≤ 64 := hk; omega) (fun z => by rcases z with z | z | z | z <;> exact absurd z (by decide))) (wI_un (by decide) (Or.inr rfl) (by show 1 ≤ k + 1; omega))
        · obtain ⟨x, hb, hx⟩ := i2 S w stk
          exact ⟨_, not01 hb, by rw [evO_app, hx, evO_un (by decide)]⟩
      · rw [if_neg h4] at h
        exact Bool.noConfusion h
    rw [if_neg h1] at h ⊢
    by_cases h2 : K t = 34
    · rw [if_pos h2] at h ⊢
      by_cases h5 : d < 8
      · rw [if_pos h5] at h ⊢
        obtain ⟨g1, g2, g3⟩ := sq_1 h
        obtain ⟨_, k2⟩ := tk1_1 g2
        obtain ⟨i1, i2⟩ := pp_ok (K := K) n 8 (d + 1) (t + 1) (by omega) g1
        refine ok_l (l := (pp K n 8 (d + 1) (t + 1)).2.2) ⟨fun k hk z => ?_, fun S w stk => i2 S w stk⟩ ?_
        · exact i1 k (by show k + 1 + 3 * (8 - (d + 1)) + 5 ≤ 64; have : k + 1 + 3 * (8 - d) + 3 ≤ 64 := hk; omega) (fun z => by rcases z with z | z | z | z <;> exact absurd z (by decide))
        · rw [g3, k2]
          exact List.append_nil _
      · rw [if_neg h5] at h
        exact Bool.noConfusion h
    rw [if_neg h2] at h ⊢
    obtain ⟨g1, g2, g3⟩ := sq_1 h
    obtain ⟨i1, i2⟩ := pp_ok (K := K) n 3 d t hd g1
    generalize pp K n 3 d t = A at *
    by_cases h3 : ¬ K A.2.1 < 42 ∧ ¬ 46 < K A.2.1
    · rw [if_pos h3] at g2 g3
      obtain ⟨p1, _, p3⟩ := sq_1 g2
      obtain ⟨j1, j2⟩ := pp_ok (K := K) n 3 d _ hd p1
      have hs := cmpK h3
      refine ok_l (l := A.2.2 ++ ((pp K n 3 d (A.2.1 + 1)).2.2 ++ [(K A.2.1, none)])) ⟨fun k hk _ => ?_, fun S w stk => ?_⟩ ?_
      · have hk2 : k + 1 + 3 * (8 - d) + 3 ≤ 64 := hk
        refine wI_app _ _ _ _ _ (i1 k (by show k + 1 + 3 * (8 - d) + 2 ≤ 64; omega) (fun z => by rcases z with z | z | z | z <;> exact absurd z (by decide))) (wI_app _ _ _ _ _ (j1 (k + 1) (by show k + 1 + 1 + 3 * (8 - d) + 2 ≤ 64; omega) (fun z => by rcases z with z | z | z | z <;> exact absurd z (by decide))) (wI_bin hs (by show 1 ≤ k + 1; omega)))
      · obtain ⟨x, hx⟩ := i2 S w stk
        obtain ⟨y, hy⟩ := j2 S w (x :: stk)
        exact ⟨_, cmp01 h3, by rw [evO_app, hx, evO_app, hy, evO_bin hs]⟩
      · rw [g3]
        show A.2.2 ++ _ = _
        rw [p3]
        rfl
    · rw [if_neg h3] at g2
      exact Bool.noConfusion g2
  | n + 1, 6, d, t, hd, h => by
    obtain ⟨g1, g2, g3⟩ := sq_1 (show (sq (pp K n 5 d t) (pp K n 7 d)).1 = true from h)
    obtain ⟨i1, i2⟩ := pp_ok (K := K) n 5 d t hd g1
    obtain ⟨j1, j2⟩ := pp_ok (K := K) n 7 d _ hd g2
    refine ok_l ⟨fun k hk _ => ?_, fun S w stk => ?_⟩ (congrArg Prod.snd g3)
    · have hk2 : k + 1 + 3 * (8 - d) + 4 ≤ 64 := hk
      exact wI_app _ _ _ _ _ (i1 k (by show k + 1 + 3 * (8 - d) + 3 ≤ 64; omega) (fun z => by rcases z with z | z | z | z <;> exact absurd z (by decide))) (j1 (k + 1) (by show k + 1 + 1 + 3 * (8 - d) + 3 ≤ 64; omega) (fun _ => by omega))
    · obtain ⟨x, hb, hx⟩ := i2 S w stk
      obtain ⟨y, hb2, hy⟩ := j2 S w stk x hb
      exact ⟨y, hb2, by rw [evO_app, hx, hy]⟩
  | n + 1, 7, d, t, hd, h => by
    unfold pp at h ⊢
    by_cases h1 : K t = 26
    · rw [if_pos h1] at h ⊢
      have hs : sdF 26 = 2 := by decide
      obtain ⟨g1, g2, g3⟩ := sq3 h
      obtain ⟨i1, i2⟩ := pp_ok (K := K) n 5 d (t + 1) hd g1
      obtain ⟨j1, j2⟩ := pp_ok (K := K) n 7 d _ hd g2
      refine ok_l ⟨fun k hk z => ?_, fun S w stk x hx => ?_⟩ (congrArg Prod.snd g3)
      · have hk2 : k + 1 + 3 * (8 - d) + 3 ≤ 64 := hk
        exact wI_rest hs (z (by decide)) (i1 k hk2 (fun z => by rcases z with z | z | z | z <;> exact absurd z (by decide))) (j1 k hk2 z)
      · obtain ⟨y, hb, hy⟩ := i2 S w (x :: stk)
        obtain ⟨z, hb2, hz⟩ := j2 S w stk (rO 26 x y) (and01 hx hb)
        exact ⟨z, hb2, by rw [evO_rest hs hy, hz]⟩
    · rw [if_neg h1]
      exact okT_nil (by decide)
  | n + 1, 8, d, t, hd, h => by
    obtain ⟨g1, g2, g3⟩ := sq_1 (show (sq (pp K n 6 d t) (pp K n 9 d)).1 = true from h)
    obtain ⟨i1, i2⟩ := pp_ok (K := K) n 6 d t hd g1
    obtain ⟨j1, j2⟩ := pp_ok (K := K) n 9 d _ hd g2
    refine ok_l ⟨fun k hk _ => ?_, fun S w stk => ?_⟩ (congrArg Prod.snd g3)
    · have hk2 : k + 1 + 3 * (8 - d) + 5 ≤ 64 := hk
      exact wI_app _ _ _ _ _ (i1 k (by show k + 1 + 3 * (8 - d) + 4 ≤ 64; omega) (fun z => by rcases z with z | z | z | z <;> exact absurd z (by decide))) (j1 (k + 1) (by show k + 1 + 1 + 3 * (8 - d) + 4 ≤ 64; omega) (fun _ => by omega))
    · obtain ⟨x, hb, hx⟩ := i2 S w stk
      obtain ⟨y, hb2, hy⟩ := j2 S w stk x hb
      exact ⟨y, hb2, by rw [evO_app, hx, hy]⟩
  | n + 1, 9, d, t, hd, h => by
    unfold pp at h ⊢
    by_cases h1 : K t = 27
    · rw [if_pos h1] at h ⊢
      have hs : sdF 27 = 2 := by decide
      obtain ⟨g1, g2, g3⟩ := sq3 h
      obtain ⟨i1, i2⟩ := pp_ok (K := K) n 6 d (t + 1) hd g1
      obtain ⟨j1, j2⟩ := pp_ok (K := K) n 9 d _ hd g2
      refine ok_l ⟨fun k hk z => ?_, fun S w stk x hx => ?_⟩ (congrArg Prod.snd g3)
      · have hk2 : k + 1 + 3 * (8 - d) + 4 ≤ 64 := hk
        exact wI_rest hs (z (by decide)) (i1 k hk2 (fun z => by rcases z with z | z | z | z <;> exact absurd z (by decide))) (j1 k hk2 z)
      · obtain ⟨y, hb, hy⟩ := i2 S w (x :: stk)
        obtain ⟨z, hb2, hz⟩ := j2 S w stk (rO 27 x y) (or01 hx hb)
        exact ⟨z, hb2, by rw [evO_rest hs hy, hz]⟩
    · rw [if_neg h1]
      exact okT_nil (by decide)
  | n + 1, _ + 10, d, t, _, h => Bool.noConfusion h
