/-! THE REFERENCE: the error at any token; which tokens are quiet. Printed by wip/whole/mk89.py. -/
section MM
variable {V : bk_V} {D n : Nat} {B : Nat × Nat} {Q : bk_R → bk_H → Nat → Prop} {h0 h : bk_H} {y u v N m idx no : Nat} {T : List Int32} {P : Nat → bT} {S : bS} {K J K2 : rI} {C Fx F C2 : rA} {Kd : Nat → Int32} {nv : Nat → Int32} {g : Nat → Int64} {cs : Nat × Nat} {f : Nat → Int32} {rows : bT} {E : Nat} {Kz : rI} {Cz Cb : rA}
theorem ckE_q (hf : ∀ i, i < N → f i = Kd i) (hN : N ≤ 401) (hi : idx < N) (h1 : ¬ Kd idx = 30) (h2 : ¬ (Kd idx = 11 ∨ Kd idx = 13 ∨ Kd idx = 15)) (h3 : Kd idx = 31 → rngB (rG (ckS f g rows idx).2.2 (nI idx) 1) (pvF Kd idx) = true) : ckE f g rows idx = 0 := by
  unfold ckE
  rw [ck1_k hf hN hi, if_neg h1]
  by_cases h : Kd idx = 31
  · rw [if_pos h]
    show (if rngB _ _ = true then (0 : Int32) else 5) = 0
    rw [if_pos (h3 h)]
  · rw [if_neg h, if_neg h2]
theorem mt_errorOf (hf : ∀ i, i < N → f i = Kd i) (hN : N ≤ 401) (hE : E ≤ N) (hi : idx < E) (hok : ∀ j, j < idx → ckE f g rows j = 0) (hT : OKT Kd idx) (hw : ∀ q ∈ rows, q.length = 2) (hl : rows.length = N) (hF1 : F 1 = Fx 1) (hF2 : F 2 = Fx 2) (hm : NMk Fx Kd N T g) (hV : NVk Fx Kd N T nv) (hnv : Kd idx = 31 → rG rows (nI idx) 1 = nv idx) (hM : MT h0 h y u v T P S K C J F K2 C2) (hZ : ZH f g rows Kd nv Cb E Kz Cz idx F K2 C2) (hQ : ∀ (h' : bk_H) (F' : rA) (K2' : rI) (C2' : rA), MT h0 h' y u v T P S K C J F' K2' C2' → (F' 0 = F 0 ∧ F' 1 = F 1 ∧ F' 2 = F 2) → (ckE f g rows idx = 0 → ZH f g rows Kd nv Cb E Kz Cz (idx + 1) F' K2' C2') → Q (.inl (some (.int (ckE f g rows idx)))) h' n) : bk_wp V (D + 6) 192 [.ref y, .int (nI idx)] h n B Q := by
  by_cases k30 : Kd idx = 30
  · by_cases b1 : pvF Kd idx = 1
    · exact mt_err1 hf hN hE hi hok hT hw hl hF1 hF2 hm hV hnv hM hZ k30 b1 hQ
    by_cases b4 : pvF Kd idx = 4
    · exact mt_err2 hf hN hE hi hok hT hw hl hF1 hF2 hm hV hnv hM hZ k30 b4 hQ
    by_cases b7 : pvF Kd idx = 7
    · exact mt_err3 hf hN hE hi hok hT hw hl hF1 hF2 hm hV hnv hM hZ k30 b7 hQ
    by_cases b11 : pvF Kd idx = 11
    · exact mt_err14 hf hN hE hi hok hT hw hl hF1 hF2 hm hV hnv hM hZ k30 b11 hQ
    by_cases b13 : pvF Kd idx = 13
    · exact mt_err15 hf hN hE hi hok hT hw hl hF1 hF2 hm hV hnv hM hZ k30 b13 hQ
    by_cases b14 : pvF Kd idx = 14
    · exact mt_err16 hf hN hE hi hok hT hw hl hF1 hF2 hm hV hnv hM hZ k30 b14 hQ
    by_cases b15 : pvF Kd idx = 15
    · exact mt_err17 hf hN hE hi hok hT hw hl hF1 hF2 hm hV hnv hM hZ k30 b15 hQ
    by_cases b16 : pvF Kd idx = 16
    · exact mt_err18 hf hN hE hi hok hT hw hl hF1 hF2 hm hV hnv hM hZ k30 b16 hQ
    by_cases b22 : pvF Kd idx = 22
    · exact mt_err20 hf hN hE hi hok hT hw hl hF1 hF2 hm hV hnv hM hZ k30 b22 hQ
    exact mt_err19 hf hN hE hi hok hT hw hl hF1 hF2 hm hV hnv hM hZ k30 b1 b4 b7 b11 b13 b14 b15 b16 b22 hQ
  by_cases k31 : Kd idx = 31
  · by_cases b2 : pvF Kd idx = 2
    · exact mt_err7 hf hN hE hi hok hT hw hl hF1 hF2 hm hV hnv hM hZ k31 b2 hQ
    by_cases b3 : pvF Kd idx = 3
    · exact mt_err8 hf hN hE hi hok hT hw hl hF1 hF2 hm hV hnv hM hZ k31 b3 hQ
    by_cases b5 : pvF Kd idx = 5
    · exact mt_err9 hf hN hE hi hok hT hw hl hF1 hF2 hm hV hnv hM hZ k31 b5 hQ
    by_cases b6 : pvF Kd idx = 6
    · exact mt_err10 hf hN hE hi hok hT hw hl hF1 hF2 hm hV hnv hM hZ k31 b6 hQ
    by_cases b8 : pvF Kd idx = 8
    · exact mt_err11 hf hN hE hi hok hT hw hl hF1 hF2 hm hV hnv hM hZ k31 b8 hQ
    by_cases b9 : pvF Kd idx = 9
    · exact mt_err12 hf hN hE hi hok hT hw hl hF1 hF2 hm hV hnv hM hZ k31 b9 hQ
    by_cases b10 : pvF Kd idx = 10
    · exact mt_err13 hf hN hE hi hok hT hw hl hF1 hF2 hm hV hnv hM hZ k31 b10 hQ
    have hrof : rof Kd idx = 0 := by
      unfold rof roF
      rw [k31, if_neg (by decide), if_pos rfl, if_neg b2, if_neg b3, if_neg b5, if_neg b6, if_neg b8, if_neg b9, if_neg b10]
    have hord : ¬ (Kd idx = 11 ∨ Kd idx = 13 ∨ Kd idx = 15) := by rw [k31]; decide
    exact mt_err0 hf hN hE hi hok hT hw hl hF1 hF2 hm hV hnv hM hZ hrof k30 hord (ckE_q hf hN (by omega) k30 hord (fun _ => by unfold rngB; rw [if_neg b2, if_neg b3, if_neg b5, if_neg b6, if_neg b8, if_neg b9, if_neg b10])) hQ
  by_cases k11 : Kd idx = 11
  · exact mt_err4 hf hN hE hi hok hT hw hl hF1 hF2 hm hV hnv hM hZ k11 hQ
  by_cases k13 : Kd idx = 13
  · exact mt_err5 hf hN hE hi hok hT hw hl hF1 hF2 hm hV hnv hM hZ k13 hQ
  by_cases k15 : Kd idx = 15
  · exact mt_err6 hf hN hE hi hok hT hw hl hF1 hF2 hm hV hnv hM hZ k15 hQ
  have hord : ¬ (Kd idx = 11 ∨ Kd idx = 13 ∨ Kd idx = 15) := fun z => z.elim k11 (fun z => z.elim k13 k15)
  exact mt_err0 hf hN hE hi hok hT hw hl hF1 hF2 hm hV hnv hM hZ (rof_0 ⟨k30, k31, k11, k13, k15⟩) k30 hord (ckE_q hf hN (by omega) k30 hord (fun z => absurd z k31)) hQ
end MM
/-- a token that says nothing about the list's things -/
def quT (K : Nat → Int32) (i : Nat) : Prop := rof K i = 0 ∨ rof K i = 19 ∨ rof K i = 20
def QI (K : Nat → Int32) (t t' : Nat) : Prop := ∀ i, t ≤ i → i < t' → quT K i
theorem QI.app {K : Nat → Int32} {a b c : Nat} (x : QI K a b) (y : QI K b c) : QI K a c := fun i h1 h2 => by
  by_cases e : i < b
  · exact x i h1 e
  · exact y i (by omega) h2
theorem QI.one {K : Nat → Int32} {t : Nat} (h : quT K t) : QI K t (t + 1) := fun i h1 h2 => by
  have : i = t := by omega
  rw [this]
  exact h
theorem QI.nil {K : Nat → Int32} {t : Nat} : QI K t t := fun i h1 h2 => by omega
theorem quT_k {K : Nat → Int32} {t : Nat} (h : quK (K t)) : quT K t := Or.inl (rof_0 h)
theorem tk1_q {K : Nat → Int32} {k : Int32} {t : Nat} (h : (tk1 K k t).1 = true) (hk : quK k) : QI K t (tk1 K k t).2.1 := by
  obtain ⟨a, b⟩ := tk1_1 h
  rw [b]
  exact QI.one (quT_k (by rw [a]; exact hk))
theorem sq_q {K : Nat → Int32} {a : bR3} {b : Nat → bR3} {t : Nat} (h : (sq a b).1 = true) (x : QI K t a.2.1) (y : (b a.2.1).1 = true → QI K a.2.1 (b a.2.1).2.1) : QI K t (sq a b).2.1 := by
  obtain ⟨_, h2, h3⟩ := sq_1 h
  rw [h3]
  exact x.app (y h2)
theorem pp_q {K : Nat → Int32} : ∀ (n tag d t : Nat), (pp K n tag d t).1 = true → (¬ rsT tag → pvK K t) → QI K t (pp K n tag d t).2.1
  | 0, tag, d, t, h, _ => Bool.noConfusion h
  | n + 1, 0, d, t, h, hp => by
    have ih := pp_q (K := K) n
    have hp := hp (by decide)
    unfold pp at h ⊢
    by_cases h1 : K t = 31 ∨ K t = 18 ∨ K t = 23 ∨ K t = 24
    · rw [if_pos h1]
      refine QI.one ?_
      rcases h1 with e | e | e | e
      · exact Or.inl (rof_n e hp)
      · exact quT_k (by rw [e]; decide)
      · exact quT_k (by rw [e]; decide)
      · exact quT_k (by rw [e]; decide)
    rw [if_neg h1] at h ⊢
    by_cases h2 : K t = 2 ∨ K t = 19 ∨ K t = 20 ∨ K t = 21 ∨ K t = 22
    · rw [if_pos h2] at h ⊢
      by_cases h3 : K (t + 1) = 30
      · rw [if_pos h3]
        refine (QI.one (quT_k (by rcases h2 with e | e | e | e | e <;> rw [e] <;> decide))).app (QI.one ?_)
        show rof K (t + 1) = 0 ∨ rof K (t + 1) = 19 ∨ rof K (t + 1) = 20
        rw [rof_s, h3]
        rcases h2 with e | e | e | e | e <;> rw [e] <;> decide
      · rw [if_neg h3] at h
        exact Bool.noConfusion h
    rw [if_neg h2] at h ⊢
    by_cases h3 : K t = 39
    · rw [if_pos h3] at h ⊢
      by_cases h4 : d < 8
      · rw [if_pos h4] at h ⊢
        exact sq_q h ((QI.one (quT_k (by rw [h3]; decide))).app (ih 0 (d + 1) (t + 1) (sq_1 h).1 (fun _ => ⟨t, rfl, by rw [h3]; decide⟩))) (fun _ => QI.nil)
      · rw [if_neg h4] at h
        exact Bool.noConfusion h
    rw [if_neg h3] at h ⊢
    by_cases h4 : K t = 32
    · rw [if_pos h4] at h ⊢
      by_cases h5 : d < 8
      · rw [if_pos h5] at h ⊢
        exact sq_q h ((QI.one (quT_k (by rw [h4]; decide))).app (ih 3 (d + 1) (t + 1) (sq_1 h).1 (fun _ => ⟨t, rfl, by rw [h4]; decide⟩))) (fun z => tk1_q z (by decide))
      · rw [if_neg h5] at h
        exact Bool.noConfusion h
    rw [if_neg h4] at h ⊢
    by_cases h5 : K t = 28 ∨ K t = 29
    · rw [if_pos h5] at h ⊢
      by_cases h6 : d < 8 ∧ K (t + 1) = 32
      · rw [if_pos h6] at h ⊢
        refine sq_q h (((QI.one (quT_k (by rcases h5 with e | e <;> rw [e] <;> decide))).app (QI.one (quT_k (by rw [h6.2]; decide)))).app (ih 3 (d + 1) (t + 2) (sq_1 h).1 (fun _ => ⟨t + 1, rfl, by rw [h6.2]; decide⟩))) (fun z => ?_)
        refine sq_q z (tk1_q (sq_1 z).1 (by decide)) (fun w => ?_)
        obtain ⟨k1, k2⟩ := tk1_1 (sq_1 z).1
        have hpv : pvK K (tk1 K 37 (pp K n 3 (d + 1) (t + 2)).2.1).2.1 := by
          rw [k2]
          exact ⟨_, rfl, by rw [k1]; decide⟩
        exact sq_q w (ih 3 (d + 1) _ (sq_1 w).1 (fun _ => hpv)) (fun w2 => sq_q w2 (tk1_q (sq_1 w2).1 (by decide)) (fun _ => QI.nil))
      · rw [if_neg h6] at h
        exact Bool.noConfusion h
    rw [if_neg h5] at h
    exact Bool.noConfusion h
  | n + 1, 1, d, t, h, hp => sq_q (a := pp K n 0 d t) (b := pp K n 2 d) h (pp_q n 0 d t (sq_1 (a := pp K n 0 d t) (b := pp K n 2 d) h).1 (fun _ => hp (by decide))) (fun z => pp_q n 2 d _ z (fun q => absurd (Or.inl rfl) q))
  | n + 1, 2, d, t, h, hp => by
    unfold pp at h ⊢
    by_cases h1 : K t = 40 ∨ K t = 41
    · rw [if_pos h1] at h ⊢
      exact sq_q h ((QI.one (quT_k (by rcases h1 with e | e <;> rw [e] <;> decide))).app (pp_q n 0 d (t + 1) (sq_1 h).1 (fun _ => ⟨t, rfl, by rcases h1 with e | e <;> rw [e] <;> decide⟩))) (fun z => sq_q z QI.nil (fun w => pp_q n 2 d _ w (fun q => absurd (Or.inl rfl) q)))
    · rw [if_neg h1]
      exact QI.nil
  | n + 1, 3, d, t, h, hp => sq_q (a := pp K n 1 d t) (b := pp K n 4 d) h (pp_q n 1 d t (sq_1 (a := pp K n 1 d t) (b := pp K n 4 d) h).1 (fun _ => hp (by decide))) (fun z => pp_q n 4 d _ z (fun q => absurd (Or.inr (Or.inl rfl)) q))
  | n + 1, 4, d, t, h, hp => by
    unfold pp at h ⊢
    by_cases h1 : K t = 38 ∨ K t = 39
    · rw [if_pos h1] at h ⊢
      exact sq_q h ((QI.one (quT_k (by rcases h1 with e | e <;> rw [e] <;> decide))).app (pp_q n 1 d (t + 1) (sq_1 h).1 (fun _ => ⟨t, rfl, by rcases h1 with e | e <;> rw [e] <;> decide⟩))) (fun z => sq_q z QI.nil (fun w => pp_q n 4 d _ w (fun q => absurd (Or.inr (Or.inl rfl)) q)))
    · rw [if_neg h1]
      exact QI.nil
  | n + 1, 5, d, t, h, hp => by
    have hp := hp (by decide)
    unfold pp at h ⊢
    by_cases h1 : K t = 25
    · rw [if_pos h1] at h ⊢
      by_cases h4 : d < 8
      · rw [if_pos h4] at h ⊢
        exact sq_q h ((QI.one (quT_k (by rw [h1]; decide))).app (pp_q n 5 (d + 1) (t + 1) (sq_1 h).1 (fun _ => ⟨t, rfl, by rw [h1]; decide⟩))) (fun _ => QI.nil)
      · rw [if_neg h4] at h
        exact Bool.noConfusion h
    rw [if_neg h1] at h ⊢
    by_cases h2 : K t = 34
    · rw [if_pos h2] at h ⊢
      by_cases h5 : d < 8
      · rw [if_pos h5] at h ⊢
        exact sq_q h ((QI.one (quT_k (by rw [h2]; decide))).app (pp_q n 8 (d + 1) (t + 1) (sq_1 h).1 (fun _ => ⟨t, rfl, by rw [h2]; decide⟩))) (fun z => tk1_q z (by decide))
      · rw [if_neg h5] at h
        exact Bool.noConfusion h
    rw [if_neg h2] at h ⊢
    refine sq_q h (pp_q n 3 d t (sq_1 h).1 (fun _ => hp)) (fun z => ?_)
    by_cases h3 : ¬ K (pp K n 3 d t).2.1 < 42 ∧ ¬ 46 < K (pp K n 3 d t).2.1
    · rw [if_pos h3] at z ⊢
      have hq : quK (K (pp K n 3 d t).2.1) ∧ pvB (K (pp K n 3 d t).2.1) := by rcases cmp5 h3 with e | e | e | e | e <;> rw [e] <;> decide
      exact sq_q z ((QI.one (quT_k hq.1)).app (pp_q n 3 d _ (sq_1 z).1 (fun _ => ⟨_, rfl, hq.2⟩))) (fun _ => QI.nil)
    · rw [if_neg h3] at z
      exact Bool.noConfusion z
  | n + 1, 6, d, t, h, hp => sq_q (a := pp K n 5 d t) (b := pp K n 7 d) h (pp_q n 5 d t (sq_1 (a := pp K n 5 d t) (b := pp K n 7 d) h).1 (fun _ => hp (by decide))) (fun z => pp_q n 7 d _ z (fun q => absurd (Or.inr (Or.inr (Or.inl rfl))) q))
  | n + 1, 7, d, t, h, hp => by
    unfold pp at h ⊢
    by_cases h1 : K t = 26
    · rw [if_pos h1] at h ⊢
      exact sq_q h ((QI.one (quT_k (by rw [h1]; decide))).app (pp_q n 5 d (t + 1) (sq_1 h).1 (fun _ => ⟨t, rfl, by rw [h1]; decide⟩))) (fun z => sq_q z QI.nil (fun w => pp_q n 7 d _ w (fun q => absurd (Or.inr (Or.inr (Or.inl rfl))) q)))
    · rw [if_neg h1]
      exact QI.nil
  | n + 1, 8, d, t, h, hp => sq_q (a := pp K n 6 d t) (b := pp K n 9 d) h (pp_q n 6 d t (sq_1 (a := pp K n 6 d t) (b := pp K n 9 d) h).1 (fun _ => hp (by decide))) (fun z => pp_q n 9 d _ z (fun q => absurd (Or.inr (Or.inr (Or.inr rfl))) q))
  | n + 1, 9, d, t, h, hp => by
    unfold pp at h ⊢
    by_cases h1 : K t = 27
    · rw [if_pos h1] at h ⊢
      exact sq_q h ((QI.one (quT_k (by rw [h1]; decide))).app (pp_q n 6 d (t + 1) (sq_1 h).1 (fun _ => ⟨t, rfl, by rw [h1]; decide⟩))) (fun z => sq_q z QI.nil (fun w => pp_q n 9 d _ w (fun q => absurd (Or.inr (Or.inr (Or.inr rfl))) q)))
    · rw [if_neg h1]
      exact QI.nil
  | n + 1, _ + 10, d, t, h, _ => Bool.noConfusion h
