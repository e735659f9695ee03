/-! THE REFERENCE: it reads a list, whole. Printed by wip/whole/mk98h.py. -/
section MM
variable {V : bk_V} {d n : Nat} {B : Nat × Nat} {Q : bk_R → bk_H → Nat → Prop} {h : bk_H} {y u v : Nat} {T : List Int32} {P : Nat → bT} {S : bS} {K J : rI} {C : rA} {cs : Nat × Nat} {f : Nat → Int32} {g : Nat → Int64} {rows : bT} {et od : Int32}
/-- a list that was read without an error is a Plan -/
theorem pln_of {F' : rA} {K' : rI} {C2 C3 Cb Cz : rA} {Kz : rI} {it : List bIt} {W : rW} (hS : SCN T (toks T) rows f g) (hl : rows.length = (toks T).length) (hw : ∀ q ∈ rows, q.length = 2) (r1 : (lsL (kkF (toks T)) (ckF f g et rows).2.2.2.2 401 (0, (fun _ => []), od)).1 = true) (hE : (lsL (kkF (toks T)) (ckF f g et rows).2.2.2.2 401 (0, (fun _ => []), od)).2.1 + 1 = (toks T).length)
    (hok : ∀ j, j < (lsL (kkF (toks T)) (ckF f g et rows).2.2.2.2 401 (0, (fun _ => []), od)).2.1 → ckE f g rows j = 0) (hLR : LR (kkF (toks T)) (ckF f g et rows).2.2.2.2 (lsL (kkF (toks T)) (ckF f g et rows).2.2.2.2 401 (0, (fun _ => []), od)).2 it W) (hZ : ZH f g rows (kkF (toks T)) (fun i => rG rows (nI i) 1) Cb (lsL (kkF (toks T)) (ckF f g et rows).2.2.2.2 401 (0, (fun _ => []), od)).2.1 Kz Cz (lsL (kkF (toks T)) (ckF f g et rows).2.2.2.2 401 (0, (fun _ => []), od)).2.1 F' K' C2) (hz : ∀ j, ¬ j = 13 → C3 j = C2 j) (c10 : Cz 10 = W.2.1) (c11 : Cz 11 = W.2.2.1) (c12 : Cz 12 = W.2.2.2) (hit : it.length ≤ 400)
    (hm : ∀ p, p < (rcL (fun i => rG rows (nI i) 1) it).length → C3 13 p = if p ∈ opL it 0 then F' 4 ((rcL (fun i => rG rows (nI i) 1) it).getD p 0).toNatClampNeg else (rcL (fun i => rG rows (nI i) 1) it).getD p 0) : (ckF f g et rows).1 = 0 ∧ PLN (lsL (kkF (toks T)) (ckF f g et rows).2.2.2.2 401 (0, (fun _ => []), od)).2.2.1 K' C3 := by
  obtain ⟨kE, k0N, kN⟩ := toks_E (T := T)
  have hf : ∀ i, i < (toks T).length → f i = kkF (toks T) i := fun i hi => SCN_f hS i hi
  have hl31 : rows.length < 2 ^ 31 := by omega
  obtain ⟨kE47, okt⟩ := ls_okt (Kd := kkF (toks T)) (rw := (ckF f g et rows).2.2.2.2) (od := od) 401 0 (fun _ => []) od (Nat.zero_le _) r1
  generalize hLL : (lsL (kkF (toks T)) (ckF f g et rows).2.2.2.2 401 (0, (fun _ => []), od)) = LL at *
  obtain ⟨b1, E, P', od'⟩ := LL
  have r1 : b1 = true := r1
  have hE : E + 1 = (toks T).length := hE
  have kE47 : kkF (toks T) E = 47 := kE47
  have hok : ∀ j, j < E → ckE f g rows j = 0 := hok
  have hall : ∀ j, j < (toks T).length → ckE f g rows j = 0 := fun j hj => by
    by_cases e : j < E
    · exact hok j e
    · have e : j = E := by omega
      rw [e]
      exact ckE_q hf kN (by omega) (by rw [kE47]; decide) (by rw [kE47]; decide) (fun z => absurd (kE47.symm.trans z) (by decide))
  obtain ⟨ck0, ckN⟩ : (ckF f g et rows).1 = 0 ∧ (ckF f g et rows).2.2 = ckS f g rows rows.length := by
    rcases ckF_r (f := f) (g := g) (rows := rows) (et := et) with ⟨m, m1, _, m3, _⟩ | ⟨_, a, b⟩
    · exact absurd (hall m (by omega)) m3
    · exact ⟨a, b⟩
  refine ⟨ck0, ?_⟩
  have lk : ∀ j, kkF (toks T) j = 30 ∨ kkF (toks T) j = 31 → j < (toks T).length := fun j hj => Nat.lt_of_not_le fun z => by
    have := kk_out (T := T) z
    rw [this] at hj
    exact absurd hj (by decide)
  have sk : ∀ j, j + 1 ≤ rows.length → tg (ckS f g rows rows.length).2.2 j 1 = tg (ckS f g rows (j + 1)).2.2 j 1 := fun j hj => by
    have := ckS_mn (f := f) (g := g) hw hl31 (j := j) (rows.length - (j + 1)) (by omega)
    rw [show j + 1 + (rows.length - (j + 1)) = rows.length by omega] at this
    exact this
  have hv1 : ∀ i, i < (toks T).length → kkF (toks T) i = 31 → vL (ckF f g et rows).2.2.2.2 i = rG rows (nI i) 1 := fun i hi hk => by
    unfold vL
    rw [ckN, rG_nI (by omega), rG_nI (by omega), sk i (by omega)]
    have e : (ckS f g rows (i + 1)).2.2 = (ckS f g rows i).2.2 := by
      show (ck1 f g i (ckS f g rows i)).2.2.2 = _
      unfold ck1
      rw [hf i hi, hk, if_neg (by decide), if_pos rfl]
    rw [e]
    exact (ckS_rows hw hl31 i (by omega)).2.2 i 1 (Or.inl (Nat.le_refl i))
  have hv2 : ∀ i, i < (toks T).length → mnR (kkF (toks T)) i → vL (ckF f g et rows).2.2.2.2 i = mnF f g rows i := fun i hi hk => by
    unfold vL mnF
    rw [ckN, rG_nI (by omega), rG_nI (by omega), sk i (by omega)]
  obtain ⟨z1, z2, z3⟩ := ls_zr (Cb := Cb) (rw := (ckF f g et rows).2.2.2.2) hf kN hw hl (fun i _ _ => rfl) hv1 hv2 kE hall 401 0 (fun _ => []) od ⟨k0N, Nat.le_refl 0⟩ (Nat.zero_le _) ZR_0 (by rw [hLL]; exact r1)
  rw [hLL] at z1
  have z1 : ZR f g rows (kkF (toks T)) (fun i => rG rows (nI i) 1) Cb E P' := z1
  obtain ⟨h3, h4, hK, hK3, hK4, hC, hC4⟩ := hZ
  have hJB := hLR.2.2.2.2.2
  have mr : ∀ j, kkF (toks T) (j + 1) = 30 → isNm (kkF (toks T) j) → mnR (kkF (toks T)) (j + 1) := fun j hj hn => by
    have hr : rof (kkF (toks T)) (j + 1) = 19 ∨ rof (kkF (toks T)) (j + 1) = 20 := by
      unfold rof
      rw [pv_s, hj]
      rcases hn with hn | hn | hn | hn | hn <;> rw [hn] <;> decide
    refine ⟨hj, ?_, ?_, ?_⟩ <;> rcases hr with hr | hr <;> rw [hr] <;> decide
  have vlm : ∀ j, kkF (toks T) (j + 1) = 30 → isNm (kkF (toks T) j) → F' 4 (j + 1) = vL (ckF f g et rows).2.2.2.2 (j + 1) := fun j hj hn => by
    have hlt := lk (j + 1) (Or.inl hj)
    have hlE : j + 1 < E := by
      have : ¬ j + 1 = E := fun z => by
        rw [z, kE47] at hj
        exact absurd hj (by decide)
      omega
    rw [hv2 _ hlt (mr j hj hn)]
    exact h4 _ hlE (mr j hj hn)
  have c3 : ∀ j, ¬ j = 13 → 10 ≤ j → C3 j = Cz j := fun j a b => (hz j a).trans (hC4 j b)
  exact plan_ok (Kd := kkF (toks T)) (nv := fun i => rG rows (nI i) 1) (vl := F' 4) (rw := (ckF f g et rows).2.2.2.2) (W := W) (Cb := Cb) (C := C3) (K := K') (E := E) (P := P') (od := od') (it := it) hLR z1 hit (fun j hj => (hz j (by omega)).trans (hC j hj)) ((c3 10 (by decide) (by decide)).trans c10) ((c3 11 (by decide) (by decide)).trans c11) ((c3 12 (by decide) (by decide)).trans c12) hK hK3
    (mtch_of kN it [] (fun q hq j hj hn => lk j (Or.inl (hJB q hq j hj hn))) (fun x hx => hm x (by rw [rcL_len]; exact hx))) (fun m hm => ckS_len hf kN E (by omega) hok m hm) (fun j hj => hv1 j (lk j (Or.inr hj)) hj) vlm (fun j hj hb => by
      have hlt := lk (j + 1) (Or.inl hj)
      have hlE : j + 1 ≤ E := by omega
      have hn : isNm (kkF (toks T) j) := hb.elim Or.inl (fun z => z.elim (fun z => Or.inr (Or.inl z)) (fun z => Or.inr (Or.inr (Or.inl z))))
      rw [hv2 _ hlt (mr j hj hn), z1.1.1]
      refine (told_rg (m := 0) hf kN hlt (fun i hi => hall i (by omega)) hw hl (by decide) hj (fun s => ?_)).le (nmI_mono hlE)
      rw [pv_s]
      rcases hb with hb | hb | hb <;> rw [hb] <;> rfl)

end MM
