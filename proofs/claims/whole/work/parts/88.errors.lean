/-! THE REFERENCE: the error at a token. Printed by wip/whole/mk88.py. -/
/-- what a name means -/
def mnF (f : Nat → Int32) (g : Nat → Int64) (rows : bT) (i : Nat) : Int32 := rG (ckS f g rows (i + 1)).2.2 (nI i) 1
/-- how many orders are told ahead of a token -/
def noI (Kd : Nat → Int32) : Nat → Nat
  | 0 => 0
  | i + 1 => noI Kd i + (if Kd i = 11 ∨ Kd i = 13 ∨ Kd i = 15 then 1 else 0)
/-- the rows of the reference's Plan ahead of token i -/
def zStep (f : Nat → Int32) (g : Nat → Int64) (rows : bT) (Kd nv : Nat → Int32) (i : Nat) (A : rA) : rA :=
  if rof Kd i = 4 then uA A 7 (upd (A 7) (noI Kd i) 10) else if rof Kd i = 5 then uA A 7 (upd (A 7) (noI Kd i) 12) else if rof Kd i = 6 then uA A 7 (upd (A 7) (noI Kd i) 14)
  else if rof Kd i = 7 then uA A 0 (upd (A 0) ((nmI Kd 0 i).length - 1) (nv i)) else if rof Kd i = 8 then uA A 1 (upd (A 1) ((nmI Kd 0 i).length - 1) (nv i))
  else if rof Kd i = 9 then uA A 2 (upd (A 2) ((nmI Kd 1 i).length - 1) (nv i)) else if rof Kd i = 10 then uA A 3 (upd (A 3) ((nmI Kd 1 i).length - 1) (nv i))
  else if rof Kd i = 11 then uA A 4 (upd (A 4) ((nmI Kd 2 i).length - 1) (nv i)) else if rof Kd i = 12 then uA A 5 (upd (A 5) ((nmI Kd 2 i).length - 1) (nv i)) else if rof Kd i = 13 then uA A 6 (upd (A 6) ((nmI Kd 2 i).length - 1) (nv i))
  else if rof Kd i = 14 ∨ rof Kd i = 16 ∨ rof Kd i = 18 then uA A 9 (upd (A 9) (noI Kd i - 1) (mnF f g rows i)) else if rof Kd i = 15 ∨ rof Kd i = 17 then uA A 8 (upd (A 8) (noI Kd i - 1) (mnF f g rows i)) else A
def zA (f : Nat → Int32) (g : Nat → Int64) (rows : bT) (Kd nv : Nat → Int32) (Cb : rA) : Nat → rA
  | 0 => Cb
  | i + 1 => zStep f g rows Kd nv i (zA f g rows Kd nv Cb i)
/-- a token that names something told -/
def mnR (Kd : Nat → Int32) (k : Nat) : Prop := Kd k = 30 ∧ ¬ rof Kd k = 1 ∧ ¬ rof Kd k = 2 ∧ ¬ rof Kd k = 3
def OKT (Kd : Nat → Int32) (i : Nat) : Prop :=
  ((rof Kd i = 7 ∨ rof Kd i = 8) → ∃ k, k < i ∧ rof Kd k = 1) ∧ ((rof Kd i = 9 ∨ rof Kd i = 10) → ∃ k, k < i ∧ rof Kd k = 2) ∧ ((rof Kd i = 11 ∨ rof Kd i = 12 ∨ rof Kd i = 13) → ∃ k, k < i ∧ rof Kd k = 3) ∧
  ((rof Kd i = 14 ∨ rof Kd i = 15 ∨ rof Kd i = 16 ∨ rof Kd i = 17 ∨ rof Kd i = 18) → ∃ k, k < i ∧ (Kd k = 11 ∨ Kd k = 13 ∨ Kd k = 15))
def ZH (f : Nat → Int32) (g : Nat → Int64) (rows : bT) (Kd nv : Nat → Int32) (Cb : rA) (E : Nat) (Kz : rI) (Cz : rA) (i : Nat) (F : rA) (K2 : rI) (C2 : rA) : Prop :=
  (∀ k, k < E → F 3 k = rof Kd k) ∧ (∀ k, k < i → mnR Kd k → F 4 k = mnF f g rows k) ∧ (∀ m, m < 3 → K2 m = nI (nmI Kd m i).length) ∧ K2 3 = nI (noI Kd i) ∧ (∀ j, 4 ≤ j → K2 j = Kz j) ∧ (∀ j, j < 10 → C2 j = zA f g rows Kd nv Cb i j) ∧ ∀ j, 10 ≤ j → C2 j = Cz j
section MM
variable {V : bk_V} {D n : Nat} {B : Nat × Nat} {Q : bk_R → bk_H → Nat → Prop} {h0 h : bk_H} {y u v N m idx no : Nat} {T : List Int32} {P : Nat → bT} {S : bS} {K J K2 : rI} {C Fx F C2 : rA} {Kd : Nat → Int32} {nv : Nat → Int32} {g : Nat → Int64} {cs : Nat × Nat} {f : Nat → Int32} {rows : bT} {E : Nat} {Kz : rI} {Cz Cb : rA}
theorem ckS_n (hf : ∀ i, i < N → f i = Kd i) (hN : N ≤ 401) : ∀ i, i ≤ N → (∀ j, j < i → ckE f g rows j = 0) → (ckS f g rows i).2.1 = nI (noI Kd i) ∧ noI Kd i ≤ 24
  | 0, _, _ => ⟨rfl, Nat.zero_le _⟩
  | i + 1, hi, hok => by
    obtain ⟨h1, h2⟩ := ckS_n hf hN i (by omega) (fun j hj => hok j (by omega))
    have he : (ck1 f g i (ckS f g rows i)).1 = 0 := hok i (by omega)
    show (ck1 f g i (ckS f g rows i)).2.2.1 = nI (noI Kd i + _) ∧ noI Kd i + _ ≤ 24
    generalize ckS f g rows i = s at he h1
    rw [ck1_k hf hN (by omega)] at he ⊢
    by_cases k3 : Kd i = 11 ∨ Kd i = 13 ∨ Kd i = 15
    · have k1 : ¬ Kd i = 30 := by rcases k3 with q | q | q <;> rw [q] <;> decide
      have k2 : ¬ Kd i = 31 := by rcases k3 with q | q | q <;> rw [q] <;> decide
      rw [if_neg k1, if_neg k2, if_pos k3] at he ⊢
      rw [if_pos k3]
      have hz : ¬ 24 < s.2.1 + 1 := Decidable.byContradiction fun q => by
        have he2 : (if ¬ 24 < s.2.1 + 1 then (0 : Int32) else 4) = 0 := he
        rw [if_neg q] at he2
        exact absurd he2 (by decide)
      rw [h1, nI_1] at hz
      refine ⟨?_, Nat.le_of_not_lt fun q => hz (nI_lt (a := 24) q (by omega))⟩
      show s.2.1 + 1 = _
      rw [h1, nI_1]
    · have e0 : (if Kd i = 11 ∨ Kd i = 13 ∨ Kd i = 15 then 1 else 0) = 0 := if_neg k3
      rw [e0, Nat.add_zero]
      refine ⟨?_, h2⟩
      rw [← h1]
      have new : ∀ m r, (ckNew g i m r s).2.2.1 = s.2.1 := fun m r => congrArg Prod.fst ckNew_w
      clear he
      by_cases k1 : Kd i = 30
      · rw [if_pos k1]
        unfold ckName
        repeat' split
        all_goals first | exact new _ _ | rfl
      · rw [if_neg k1, if_neg k3]
        split <;> rfl
def rmF (m : Nat) : Nat := if m = 0 then 5 else 6
theorem ckS_len (hf : ∀ i, i < N → f i = Kd i) (hN : N ≤ 401) (i : Nat) (hi : i ≤ N) (hok : ∀ j, j < i → ckE f g rows j = 0) : ∀ m, m < 3 → (nmI Kd m i).length ≤ rmF m := by
  induction i with
  | zero => exact fun m _ => Nat.zero_le _
  | succ i ih =>
    intro m hm
    have ihm := ih (by omega) (fun j hj => hok j (by omega)) m hm
    rw [nmI_s, List.length_append]
    by_cases h : rof Kd i = nI (m + 1)
    · rw [if_pos h]
      have hk : Kd i = 30 := rof_new hm h
      have he : (ck1 f g i (ckS f g rows i)).1 = 0 := hok i (by omega)
      have hL := ckS_L (f := f) (g := g) (rows := rows) hf hN (fun j hj => hok j (by omega)) (show i ≤ N by omega) m hm
      rw [ck1_k hf hN (by omega), if_pos hk] at he
      rw [rof30 hk] at h
      have hb : ckName g i (pvF Kd i) (ckS f g rows i) = ckNew g i m (rmF m) (ckS f g rows i) := by
        have m3 : m = 0 ∨ m = 1 ∨ m = 2 := by omega
        unfold roF at h
        rw [if_pos rfl] at h
        unfold ckName
        by_cases b1 : pvF Kd i = 1
        · rw [if_pos b1] at h ⊢
          rcases m3 with rfl | rfl | rfl
          · rfl
          · exact absurd h (by decide)
          · exact absurd h (by decide)
        rw [if_neg b1] at h ⊢
        by_cases b4 : pvF Kd i = 4
        · rw [if_pos b4] at h ⊢
          rcases m3 with rfl | rfl | rfl
          · exact absurd h (by decide)
          · rfl
          · exact absurd h (by decide)
        rw [if_neg b4] at h ⊢
        by_cases b7 : pvF Kd i = 7
        · rw [if_pos b7] at h ⊢
          rcases m3 with rfl | rfl | rfl
          · exact absurd h (by decide)
          · exact absurd h (by decide)
          · rfl
        rw [if_neg b7] at h
        exfalso
        revert h
        rcases m3 with rfl | rfl | rfl <;> (repeat' split) <;> decide
      rw [hb] at he
      have := (new_ok he).2.1
      rw [hL, List.length_map] at this
      exact this
    · rw [if_neg h]
      exact ihm
theorem nmI_pos {k : Nat} (hk : k < idx) (h : rof Kd k = nI (m + 1)) : 1 ≤ (nmI Kd m idx).length := List.length_pos_of_mem (a := k) (List.mem_filter.mpr ⟨List.mem_range.mpr hk, decide_eq_true h⟩)
theorem noI_pos {k : Nat} (h : Kd k = 11 ∨ Kd k = 13 ∨ Kd k = 15) : ∀ idx, k < idx → 1 ≤ noI Kd idx
  | 0, hk => absurd hk (Nat.not_lt_zero k)
  | i + 1, hk => by
    show 1 ≤ noI Kd i + _
    by_cases e : k = i
    · subst e
      rw [if_pos h]
      omega
    · have := noI_pos h i (by omega)
      omega
theorem uA_cg {A A' : rA} {k p : Nat} {x : Int32} (h : ∀ j, j < 10 → A j = A' j) (hk : k < 10) : ∀ j, j < 10 → uA A k (upd (A k) p x) j = uA A' k (upd (A' k) p x) j := fun j hj => by
  unfold uA
  by_cases e : j = k
  · rw [if_pos e, if_pos e, h k hk]
  · rw [if_neg e, if_neg e]
    exact h j hj
theorem ZH_s {F F' : rA} {K2 K2' : rI} {C2 C2' : rA} (z : ZH f g rows Kd nv Cb E Kz Cz idx F K2 C2) (h3 : F' 3 = F 3) (h4 : ∀ k, k ≠ idx → F' 4 k = F 4 k) (h4i : mnR Kd idx → F' 4 idx = mnF f g rows idx) (hK : ∀ m, m < 3 → K2' m = nI (nmI Kd m (idx + 1)).length) (hK3 : K2' 3 = nI (noI Kd (idx + 1))) (hKz : ∀ j, 4 ≤ j → K2' j = K2 j) (hC : ∀ j, j < 10 → C2' j = zA f g rows Kd nv Cb (idx + 1) j) (hCz : ∀ j, 10 ≤ j → C2' j = C2 j) : ZH f g rows Kd nv Cb E Kz Cz (idx + 1) F' K2' C2' := by
  obtain ⟨z1, z2, z3, z4, z5, z6, z7⟩ := z
  refine ⟨fun k hk => by rw [h3]; exact z1 k hk, fun k hk hr => ?_, hK, hK3, fun j hj => (hKz j hj).trans (z5 j hj), hC, fun j hj => (hCz j hj).trans (z7 j hj)⟩
  by_cases e : k = idx
  · rw [e] at hr ⊢
    exact h4i hr
  · rw [h4 k e]
    exact z2 k (by omega) hr
theorem mt_err1 (hf : ∀ i, i < N → f i = Kd i) (hN : N ≤ 401) (hE : E ≤ N) (hi : idx < E) (hok : ∀ j, j < idx → ckE f g rows j = 0) (hT : OKT Kd idx) (hw : ∀ q ∈ rows, q.length = 2) (hl : rows.length = N) (hF1 : F 1 = Fx 1) (hF2 : F 2 = Fx 2) (hm : NMk Fx Kd N T g) (hV : NVk Fx Kd N T nv) (hnv : Kd idx = 31 → rG rows (nI idx) 1 = nv idx) (hM : MT h0 h y u v T P S K C J F K2 C2) (hZ : ZH f g rows Kd nv Cb E Kz Cz idx F K2 C2) (hk : Kd idx = 30) (hb : pvF Kd idx = 1) (hQ : ∀ (h' : bk_H) (F' : rA) (K2' : rI) (C2' : rA), MT h0 h' y u v T P S K C J F' K2' C2' → (F' 0 = F 0 ∧ F' 1 = F 1 ∧ F' 2 = F 2) → (ckE f g rows idx = 0 → ZH f g rows Kd nv Cb E Kz Cz (idx + 1) F' K2' C2') → Q (.inl (some (.int (ckE f g rows idx)))) h' n) : bk_wp V (D + 6) 192 [.ref y, .int (nI idx)] h n B Q := by
  have hrof : rof Kd idx = 1 := by
    unfold rof roF
    rw [hk, hb]
    rfl
  obtain ⟨z1, z2, z3, z4, z5, z6, z7⟩ := id hZ
  have hi2 : idx < N := by omega
  have hrl : F 3 idx = 1 := (z1 idx hi).trans hrof
  have hF3 : ∀ k, k ≤ idx → F 3 k = rof Kd k := fun k hk => z1 k (by omega)
  have hLL := ckS_L (f := f) (g := g) (rows := rows) hf hN hok (show idx ≤ N by omega)
  have hlen := ckS_len (f := f) (g := g) (rows := rows) hf hN idx (by omega) hok
  obtain ⟨hno, hno24⟩ := ckS_n (f := f) (g := g) (rows := rows) hf hN idx (by omega) hok
  obtain ⟨hrw1, hrw2, hrw3⟩ := ckS_rows (f := f) (g := g) (rows := rows) hw (by omega) idx (by omega)
  have hck : ck1 f g idx (ckS f g rows idx) = ckNew g idx 0 5 (ckS f g rows idx) := by
    rw [ck1_k hf hN hi2, if_pos hk, hb]
    rfl
  have hl5 := hlen 0 (by decide)
  have hce : ckE f g rows idx = if ¬ (ixL ((nmI Kd 0 idx).map g) (g idx) 0) < 0 then 2 else if (nmI Kd 0 idx).length = 5 then 4 else 0 := by
    unfold ckE
    rw [hck]
    unfold ckNew
    rw [hLL 0 (by decide), List.length_map]
    by_cases c1 : ¬ ixL ((nmI Kd 0 idx).map g) (g idx) 0 < 0
    · rw [if_pos c1, if_pos c1]
    · rw [if_neg c1, if_neg c1]
      by_cases c2 : (nmI Kd 0 idx).length = 5
      · rw [if_pos c2, if_pos (Nat.le_of_eq c2.symm)]
      · rw [if_neg c2, if_neg (by have : (nmI Kd 0 idx).length ≤ 5 := hl5; omega)]
  have hnn : noI Kd (idx + 1) = noI Kd idx := by
    show noI Kd idx + _ = _
    rw [if_neg (by rw [hk]; decide)]
    exact Nat.add_zero _
  have hza : zA f g rows Kd nv Cb (idx + 1) = zA f g rows Kd nv Cb idx := by
    show zStep f g rows Kd nv idx (zA f g rows Kd nv Cb idx) = _
    unfold zStep
    rw [hrof]
    rfl
  refine bg_in rfl rfl ?_
  refine bg_aload0 rfl ?_
  refine bg_getfield rfl rfl hM.Y (by rfl) ?_
  refine bg_astore2 rfl rfl ?_
  refine bg_iconst rfl ?_
  refine bg_istore3 rfl rfl ?_
  refine bg_aload0 rfl ?_
  refine bg_getfield rfl rfl hM.Y (by rfl) ?_
  refine bg_iload1 rfl ?_
  refine bg_iaload_n rfl hM.f3 (by decide) (by omega) ?_
  rw [hrl]
  refine bg_tsw rfl ?_
  refine bk_sw_c (fun e13_1 => ?_) (fun n13_1 => absurd rfl n13_1)
  refine bg_aload0 rfl ?_
  refine bg_iload1 rfl ?_
  refine bg_aload2 rfl ?_
  
  refine bg_getfield rfl rfl hM.R.1 (by rfl) ?_
  refine bg_iconst rfl ?_
  refine bg_virt3 rfl rfl rfl rfl ⟨_, hM.Y⟩ ?_
  rw [z3 0 (by decide)]
  refine mt_isNew (m := 0) (ct := (nmI Kd 0 idx).length) (r := 5) rfl rfl (by have : (nmI Kd 0 idx).length ≤ 5 := hl5; omega) (by decide) (by rw [hrof]; rfl) hM (by decide) hF1 hF2 hm hN hi2 hk hF3 (bk_Ki ?_)
  rw [← hce]
  refine bg_istore3 rfl rfl ?_
  refine bg_aload2 rfl ?_
  refine bg_dup rfl rfl ?_
  refine bg_getfield rfl rfl hM.R.1 (by rfl) ?_
  refine bg_iload3 rfl ?_
  refine bg_if_ne rfl (fun e125 => ?_) (fun e125 => ?_)
  · have hz : ckE f g rows idx = 0 → False := e125
    refine bg_iconst rfl ?_
    refine bg_iadd rfl ?_
    refine bg_putfield rfl rfl hM.R.1 (by rfl) ⟨rfl, rfl⟩ (by rfl) (fun h134 f134 g134 => ?_)
    have hM := hM.kk0 f134 g134
    refine bg_iload3 rfl ?_
    refine bg_iret rfl rfl (by rfl) ?_
    first
      | exact hQ _ _ _ _ hM ⟨rfl, rfl, rfl⟩ (fun q => (hz q).elim)
      | (refine hQ _ _ _ _ hM ⟨rfl, rfl, rfl⟩ (fun _ => ZH_s hZ rfl (fun k _ => rfl) (fun q => absurd hrof q.2.1) (fun m hm3 => ?_) ?_ (fun j hj => if_neg (by omega)) (fun j hj => by rw [hza]; exact z6 j hj) (fun j _ => rfl))
         · have m3 : m = 0 ∨ m = 1 ∨ m = 2 := by omega
           have e : nmI Kd m (idx + 1) = nmI Kd m idx ++ (if (1 : Int32) = nI (m + 1) then [idx] else []) := by rw [nmI_s, hrof]
           rw [e]
           rcases m3 with rfl | rfl | rfl
           · rw [List.length_append]
             first
               | (show K2 0 = nI ((nmI Kd 0 idx).length + 0); exact z3 0 (by decide))
               | (show K2 0 + 1 = nI ((nmI Kd 0 idx).length + 1); rw [z3 0 (by decide), nI_1])
               | (show nI (nmI Kd 0 idx).length + 1 = nI ((nmI Kd 0 idx).length + 1); rw [nI_1])
           · rw [List.length_append]
             first
               | (show K2 1 = nI ((nmI Kd 1 idx).length + 0); exact z3 1 (by decide))
               | (show K2 1 + 1 = nI ((nmI Kd 1 idx).length + 1); rw [z3 1 (by decide), nI_1])
               | (show nI (nmI Kd 1 idx).length + 1 = nI ((nmI Kd 1 idx).length + 1); rw [nI_1])
           · rw [List.length_append]
             first
               | (show K2 2 = nI ((nmI Kd 2 idx).length + 0); exact z3 2 (by decide))
               | (show K2 2 + 1 = nI ((nmI Kd 2 idx).length + 1); rw [z3 2 (by decide), nI_1])
               | (show nI (nmI Kd 2 idx).length + 1 = nI ((nmI Kd 2 idx).length + 1); rw [nI_1])
         · rw [hnn]
           exact z4)
  · have hz0 : ckE f g rows idx = 0 := e125
    refine bg_iconst rfl ?_
    refine bg_goto rfl ?_
    refine bg_iadd rfl ?_
    refine bg_putfield rfl rfl hM.R.1 (by rfl) ⟨rfl, rfl⟩ (by rfl) (fun h134 f134 g134 => ?_)
    have hM := hM.kk0 f134 g134
    refine bg_iload3 rfl ?_
    refine bg_iret rfl rfl (by rfl) ?_
    first
      | exact hQ _ _ _ _ hM ⟨rfl, rfl, rfl⟩ (fun q => (hz q).elim)
      | (refine hQ _ _ _ _ hM ⟨rfl, rfl, rfl⟩ (fun _ => ZH_s hZ rfl (fun k _ => rfl) (fun q => absurd hrof q.2.1) (fun m hm3 => ?_) ?_ (fun j hj => if_neg (by omega)) (fun j hj => by rw [hza]; exact z6 j hj) (fun j _ => rfl))
         · have m3 : m = 0 ∨ m = 1 ∨ m = 2 := by omega
           have e : nmI Kd m (idx + 1) = nmI Kd m idx ++ (if (1 : Int32) = nI (m + 1) then [idx] else []) := by rw [nmI_s, hrof]
           rw [e]
           rcases m3 with rfl | rfl | rfl
           · rw [List.length_append]
             first
               | (show K2 0 = nI ((nmI Kd 0 idx).length + 0); exact z3 0 (by decide))
               | (show K2 0 + 1 = nI ((nmI Kd 0 idx).length + 1); rw [z3 0 (by decide), nI_1])
               | (show nI (nmI Kd 0 idx).length + 1 = nI ((nmI Kd 0 idx).length + 1); rw [nI_1])
           · rw [List.length_append]
             first
               | (show K2 1 = nI ((nmI Kd 1 idx).length + 0); exact z3 1 (by decide))
               | (show K2 1 + 1 = nI ((nmI Kd 1 idx).length + 1); rw [z3 1 (by decide), nI_1])
               | (show nI (nmI Kd 1 idx).length + 1 = nI ((nmI Kd 1 idx).length + 1); rw [nI_1])
           · rw [List.length_append]
             first
               | (show K2 2 = nI ((nmI Kd 2 idx).length + 0); exact z3 2 (by decide))
               | (show K2 2 + 1 = nI ((nmI Kd 2 idx).length + 1); rw [z3 2 (by decide), nI_1])
               | (show nI (nmI Kd 2 idx).length + 1 = nI ((nmI Kd 2 idx).length + 1); rw [nI_1])
         · rw [hnn]
           exact z4)
theorem mt_err2 (hf : ∀ i, i < N → f i = Kd i) (hN : N ≤ 401) (hE : E ≤ N) (hi : idx < E) (hok : ∀ j, j < idx → ckE f g rows j = 0) (hT : OKT Kd idx) (hw : ∀ q ∈ rows, q.length = 2) (hl : rows.length = N) (hF1 : F 1 = Fx 1) (hF2 : F 2 = Fx 2) (hm : NMk Fx Kd N T g) (hV : NVk Fx Kd N T nv) (hnv : Kd idx = 31 → rG rows (nI idx) 1 = nv idx) (hM : MT h0 h y u v T P S K C J F K2 C2) (hZ : ZH f g rows Kd nv Cb E Kz Cz idx F K2 C2) (hk : Kd idx = 30) (hb : pvF Kd idx = 4) (hQ : ∀ (h' : bk_H) (F' : rA) (K2' : rI) (C2' : rA), MT h0 h' y u v T P S K C J F' K2' C2' → (F' 0 = F 0 ∧ F' 1 = F 1 ∧ F' 2 = F 2) → (ckE f g rows idx = 0 → ZH f g rows Kd nv Cb E Kz Cz (idx + 1) F' K2' C2') → Q (.inl (some (.int (ckE f g rows idx)))) h' n) : bk_wp V (D + 6) 192 [.ref y, .int (nI idx)] h n B Q := by
  have hrof : rof Kd idx = 2 := by
    unfold rof roF
    rw [hk, hb]
    rfl
  obtain ⟨z1, z2, z3, z4, z5, z6, z7⟩ := id hZ
  have hi2 : idx < N := by omega
  have hrl : F 3 idx = 2 := (z1 idx hi).trans hrof
  have hF3 : ∀ k, k ≤ idx → F 3 k = rof Kd k := fun k hk => z1 k (by omega)
  have hLL := ckS_L (f := f) (g := g) (rows := rows) hf hN hok (show idx ≤ N by omega)
  have hlen := ckS_len (f := f) (g := g) (rows := rows) hf hN idx (by omega) hok
  obtain ⟨hno, hno24⟩ := ckS_n (f := f) (g := g) (rows := rows) hf hN idx (by omega) hok
  obtain ⟨hrw1, hrw2, hrw3⟩ := ckS_rows (f := f) (g := g) (rows := rows) hw (by omega) idx (by omega)
  have hck : ck1 f g idx (ckS f g rows idx) = ckNew g idx 1 6 (ckS f g rows idx) := by
    rw [ck1_k hf hN hi2, if_pos hk, hb]
    rfl
  have hl5 := hlen 1 (by decide)
  have hce : ckE f g rows idx = if ¬ (ixL ((nmI Kd 1 idx).map g) (g idx) 0) < 0 then 2 else if (nmI Kd 1 idx).length = 6 then 4 else 0 := by
    unfold ckE
    rw [hck]
    unfold ckNew
    rw [hLL 1 (by decide), List.length_map]
    by_cases c1 : ¬ ixL ((nmI Kd 1 idx).map g) (g idx) 0 < 0
    · rw [if_pos c1, if_pos c1]
    · rw [if_neg c1, if_neg c1]
      by_cases c2 : (nmI Kd 1 idx).length = 6
      · rw [if_pos c2, if_pos (Nat.le_of_eq c2.symm)]
      · rw [if_neg c2, if_neg (by have : (nmI Kd 1 idx).length ≤ 6 := hl5; omega)]
  have hnn : noI Kd (idx + 1) = noI Kd idx := by
    show noI Kd idx + _ = _
    rw [if_neg (by rw [hk]; decide)]
    exact Nat.add_zero _
  have hza : zA f g rows Kd nv Cb (idx + 1) = zA f g rows Kd nv Cb idx := by
    show zStep f g rows Kd nv idx (zA f g rows Kd nv Cb idx) = _
    unfold zStep
    rw [hrof]
    rfl
  refine bg_in rfl rfl ?_
  refine bg_aload0 rfl ?_
  refine bg_getfield rfl rfl hM.Y (by rfl) ?_
  refine bg_astore2 rfl rfl ?_
  refine bg_iconst rfl ?_
  refine bg_istore3 rfl rfl ?_
  refine bg_aload0 rfl ?_
  refine bg_getfield rfl rfl hM.Y (by rfl) ?_
  refine bg_iload1 rfl ?_
  refine bg_iaload_n rfl hM.f3 (by decide) (by omega) ?_
  rw [hrl]
  refine bg_tsw rfl ?_
  refine bk_sw_c (fun e13_1 => absurd e13_1 (by decide)) (fun n13_1 => ?_)
  refine bk_sw_c (fun e13_2 => ?_) (fun n13_2 => absurd rfl n13_2)
  refine bg_aload0 rfl ?_
  refine bg_iload1 rfl ?_
  refine bg_aload2 rfl ?_
  
  refine bg_getfield rfl rfl hM.R.1 (by rfl) ?_
  refine bg_bipush rfl ?_
  refine bg_virt3 rfl rfl rfl rfl ⟨_, hM.Y⟩ ?_
  rw [z3 1 (by decide)]
  refine mt_isNew (m := 1) (ct := (nmI Kd 1 idx).length) (r := 6) rfl rfl (by have : (nmI Kd 1 idx).length ≤ 6 := hl5; omega) (by decide) (by rw [hrof]; rfl) hM (by decide) hF1 hF2 hm hN hi2 hk hF3 (bk_Ki ?_)
  rw [← hce]
  refine bg_istore3 rfl rfl ?_
  refine bg_aload2 rfl ?_
  refine bg_dup rfl rfl ?_
  refine bg_getfield rfl rfl hM.R.1 (by rfl) ?_
  refine bg_iload3 rfl ?_
  refine bg_if_ne rfl (fun e157 => ?_) (fun e157 => ?_)
  · have hz : ckE f g rows idx = 0 → False := e157
    refine bg_iconst rfl ?_
    refine bg_iadd rfl ?_
    refine bg_putfield rfl rfl hM.R.1 (by rfl) ⟨rfl, rfl⟩ (by rfl) (fun h166 f166 g166 => ?_)
    have hM := hM.kk1 f166 g166
    refine bg_iload3 rfl ?_
    refine bg_iret rfl rfl (by rfl) ?_
    first
      | exact hQ _ _ _ _ hM ⟨rfl, rfl, rfl⟩ (fun q => (hz q).elim)
      | (refine hQ _ _ _ _ hM ⟨rfl, rfl, rfl⟩ (fun _ => ZH_s hZ rfl (fun k _ => rfl) (fun q => absurd hrof q.2.2.1) (fun m hm3 => ?_) ?_ (fun j hj => if_neg (by omega)) (fun j hj => by rw [hza]; exact z6 j hj) (fun j _ => rfl))
         · have m3 : m = 0 ∨ m = 1 ∨ m = 2 := by omega
           have e : nmI Kd m (idx + 1) = nmI Kd m idx ++ (if (2 : Int32) = nI (m + 1) then [idx] else []) := by rw [nmI_s, hrof]
           rw [e]
           rcases m3 with rfl | rfl | rfl
           · rw [List.length_append]
             first
               | (show K2 0 = nI ((nmI Kd 0 idx).length + 0); exact z3 0 (by decide))
               | (show K2 0 + 1 = nI ((nmI Kd 0 idx).length + 1); rw [z3 0 (by decide), nI_1])
               | (show nI (nmI Kd 0 idx).length + 1 = nI ((nmI Kd 0 idx).length + 1); rw [nI_1])
           · rw [List.length_append]
             first
               | (show K2 1 = nI ((nmI Kd 1 idx).length + 0); exact z3 1 (by decide))
               | (show K2 1 + 1 = nI ((nmI Kd 1 idx).length + 1); rw [z3 1 (by decide), nI_1])
               | (show nI (nmI Kd 1 idx).length + 1 = nI ((nmI Kd 1 idx).length + 1); rw [nI_1])
           · rw [List.length_append]
             first
               | (show K2 2 = nI ((nmI Kd 2 idx).length + 0); exact z3 2 (by decide))
               | (show K2 2 + 1 = nI ((nmI Kd 2 idx).length + 1); rw [z3 2 (by decide), nI_1])
               | (show nI (nmI Kd 2 idx).length + 1 = nI ((nmI Kd 2 idx).length + 1); rw [nI_1])
         · rw [hnn]
           exact z4)
  · have hz0 : ckE f g rows idx = 0 := e157
    refine bg_iconst rfl ?_
    refine bg_goto rfl ?_
    refine bg_iadd rfl ?_
    refine bg_putfield rfl rfl hM.R.1 (by rfl) ⟨rfl, rfl⟩ (by rfl) (fun h166 f166 g166 => ?_)
    have hM := hM.kk1 f166 g166
    refine bg_iload3 rfl ?_
    refine bg_iret rfl rfl (by rfl) ?_
    first
      | exact hQ _ _ _ _ hM ⟨rfl, rfl, rfl⟩ (fun q => (hz q).elim)
      | (refine hQ _ _ _ _ hM ⟨rfl, rfl, rfl⟩ (fun _ => ZH_s hZ rfl (fun k _ => rfl) (fun q => absurd hrof q.2.2.1) (fun m hm3 => ?_) ?_ (fun j hj => if_neg (by omega)) (fun j hj => by rw [hza]; exact z6 j hj) (fun j _ => rfl))
         · have m3 : m = 0 ∨ m = 1 ∨ m = 2 := by omega
           have e : nmI Kd m (idx + 1) = nmI Kd m idx ++ (if (2 : Int32) = nI (m + 1) then [idx] else []) := by rw [nmI_s, hrof]
           rw [e]
           rcases m3 with rfl | rfl | rfl
           · rw [List.length_append]
             first
               | (show K2 0 = nI ((nmI Kd 0 idx).length + 0); exact z3 0 (by decide))
               | (show K2 0 + 1 = nI ((nmI Kd 0 idx).length + 1); rw [z3 0 (by decide), nI_1])
               | (show nI (nmI Kd 0 idx).length + 1 = nI ((nmI Kd 0 idx).length + 1); rw [nI_1])
           · rw [List.length_append]
             first
               | (show K2 1 = nI ((nmI Kd 1 idx).length + 0); exact z3 1 (by decide))
               | (show K2 1 + 1 = nI ((nmI Kd 1 idx).length + 1); rw [z3 1 (by decide), nI_1])
               | (show nI (nmI Kd 1 idx).length + 1 = nI ((nmI Kd 1 idx).length + 1); rw [nI_1])
           · rw [List.length_append]
             first
               | (show K2 2 = nI ((nmI Kd 2 idx).length + 0); exact z3 2 (by decide))
               | (show K2 2 + 1 = nI ((nmI Kd 2 idx).length + 1); rw [z3 2 (by decide), nI_1])
               | (show nI (nmI Kd 2 idx).length + 1 = nI ((nmI Kd 2 idx).length + 1); rw [nI_1])
         · rw [hnn]
           exact z4)
theorem mt_err3 (hf : ∀ i, i < N → f i = Kd i) (hN : N ≤ 401) (hE : E ≤ N) (hi : idx < E) (hok : ∀ j, j < idx → ckE f g rows j = 0) (hT : OKT Kd idx) (hw : ∀ q ∈ rows, q.length = 2) (hl : rows.length = N) (hF1 : F 1 = Fx 1) (hF2 : F 2 = Fx 2) (hm : NMk Fx Kd N T g) (hV : NVk Fx Kd N T nv) (hnv : Kd idx = 31 → rG rows (nI idx) 1 = nv idx) (hM : MT h0 h y u v T P S K C J F K2 C2) (hZ : ZH f g rows Kd nv Cb E Kz Cz idx F K2 C2) (hk : Kd idx = 30) (hb : pvF Kd idx = 7) (hQ : ∀ (h' : bk_H) (F' : rA) (K2' : rI) (C2' : rA), MT h0 h' y u v T P S K C J F' K2' C2' → (F' 0 = F 0 ∧ F' 1 = F 1 ∧ F' 2 = F 2) → (ckE f g rows idx = 0 → ZH f g rows Kd nv Cb E Kz Cz (idx + 1) F' K2' C2') → Q (.inl (some (.int (ckE f g rows idx)))) h' n) : bk_wp V (D + 6) 192 [.ref y, .int (nI idx)] h n B Q := by
  have hrof : rof Kd idx = 3 := by
    unfold rof roF
    rw [hk, hb]
    rfl
  obtain ⟨z1, z2, z3, z4, z5, z6, z7⟩ := id hZ
  have hi2 : idx < N := by omega
  have hrl : F 3 idx = 3 := (z1 idx hi).trans hrof
  have hF3 : ∀ k, k ≤ idx → F 3 k = rof Kd k := fun k hk => z1 k (by omega)
  have hLL := ckS_L (f := f) (g := g) (rows := rows) hf hN hok (show idx ≤ N by omega)
  have hlen := ckS_len (f := f) (g := g) (rows := rows) hf hN idx (by omega) hok
  obtain ⟨hno, hno24⟩ := ckS_n (f := f) (g := g) (rows := rows) hf hN idx (by omega) hok
  obtain ⟨hrw1, hrw2, hrw3⟩ := ckS_rows (f := f) (g := g) (rows := rows) hw (by omega) idx (by omega)
  have hck : ck1 f g idx (ckS f g rows idx) = ckNew g idx 2 6 (ckS f g rows idx) := by
    rw [ck1_k hf hN hi2, if_pos hk, hb]
    rfl
  have hl5 := hlen 2 (by decide)
  have hce : ckE f g rows idx = if ¬ (ixL ((nmI Kd 2 idx).map g) (g idx) 0) < 0 then 2 else if (nmI Kd 2 idx).length = 6 then 4 else 0 := by
    unfold ckE
    rw [hck]
    unfold ckNew
    rw [hLL 2 (by decide), List.length_map]
    by_cases c1 : ¬ ixL ((nmI Kd 2 idx).map g) (g idx) 0 < 0
    · rw [if_pos c1, if_pos c1]
    · rw [if_neg c1, if_neg c1]
      by_cases c2 : (nmI Kd 2 idx).length = 6
      · rw [if_pos c2, if_pos (Nat.le_of_eq c2.symm)]
      · rw [if_neg c2, if_neg (by have : (nmI Kd 2 idx).length ≤ 6 := hl5; omega)]
  have hnn : noI Kd (idx + 1) = noI Kd idx := by
    show noI Kd idx + _ = _
    rw [if_neg (by rw [hk]; decide)]
    exact Nat.add_zero _
  have hza : zA f g rows Kd nv Cb (idx + 1) = zA f g rows Kd nv Cb idx := by
    show zStep f g rows Kd nv idx (zA f g rows Kd nv Cb idx) = _
    unfold zStep
    rw [hrof]
    rfl
  refine bg_in rfl rfl ?_
  refine bg_aload0 rfl ?_
  refine bg_getfield rfl rfl hM.Y (by rfl) ?_
  refine bg_astore2 rfl rfl ?_
  refine bg_iconst rfl ?_
  refine bg_istore3 rfl rfl ?_
  refine bg_aload0 rfl ?_
  refine bg_getfield rfl rfl hM.Y (by rfl) ?_
  refine bg_iload1 rfl ?_
  refine bg_iaload_n rfl hM.f3 (by decide) (by omega) ?_
  rw [hrl]
  refine bg_tsw rfl ?_
  refine bk_sw_c (fun e13_1 => absurd e13_1 (by decide)) (fun n13_1 => ?_)
  refine bk_sw_c (fun e13_2 => absurd e13_2 (by decide)) (fun n13_2 => ?_)
  refine bk_sw_c (fun e13_3 => ?_) (fun n13_3 => absurd rfl n13_3)
  refine bg_aload0 rfl ?_
  refine bg_iload1 rfl ?_
  refine bg_aload2 rfl ?_
  
  refine bg_getfield rfl rfl hM.R.1 (by rfl) ?_
  refine bg_bipush rfl ?_
  refine bg_virt3 rfl rfl rfl rfl ⟨_, hM.Y⟩ ?_
  rw [z3 2 (by decide)]
  refine mt_isNew (m := 2) (ct := (nmI Kd 2 idx).length) (r := 6) rfl rfl (by have : (nmI Kd 2 idx).length ≤ 6 := hl5; omega) (by decide) (by rw [hrof]; rfl) hM (by decide) hF1 hF2 hm hN hi2 hk hF3 (bk_Ki ?_)
  rw [← hce]
  refine bg_istore3 rfl rfl ?_
  refine bg_aload2 rfl ?_
  refine bg_dup rfl rfl ?_
  refine bg_getfield rfl rfl hM.R.1 (by rfl) ?_
  refine bg_iload3 rfl ?_
  refine bg_if_ne rfl (fun e189 => ?_) (fun e189 => ?_)
  · have hz : ckE f g rows idx = 0 → False := e189
    refine bg_iconst rfl ?_
    refine bg_iadd rfl ?_
    refine bg_putfield rfl rfl hM.R.1 (by rfl) ⟨rfl, rfl⟩ (by rfl) (fun h198 f198 g198 => ?_)
    have hM := hM.kk2 f198 g198
    refine bg_iload3 rfl ?_
    refine bg_iret rfl rfl (by rfl) ?_
    first
      | exact hQ _ _ _ _ hM ⟨rfl, rfl, rfl⟩ (fun q => (hz q).elim)
      | (refine hQ _ _ _ _ hM ⟨rfl, rfl, rfl⟩ (fun _ => ZH_s hZ rfl (fun k _ => rfl) (fun q => absurd hrof q.2.2.2) (fun m hm3 => ?_) ?_ (fun j hj => if_neg (by omega)) (fun j hj => by rw [hza]; exact z6 j hj) (fun j _ => rfl))
         · have m3 : m = 0 ∨ m = 1 ∨ m = 2 := by omega
           have e : nmI Kd m (idx + 1) = nmI Kd m idx ++ (if (3 : Int32) = nI (m + 1) then [idx] else []) := by rw [nmI_s, hrof]
           rw [e]
           rcases m3 with rfl | rfl | rfl
           · rw [List.length_append]
             first
               | (show K2 0 = nI ((nmI Kd 0 idx).length + 0); exact z3 0 (by decide))
               | (show K2 0 + 1 = nI ((nmI Kd 0 idx).length + 1); rw [z3 0 (by decide), nI_1])
               | (show nI (nmI Kd 0 idx).length + 1 = nI ((nmI Kd 0 idx).length + 1); rw [nI_1])
           · rw [List.length_append]
             first
               | (show K2 1 = nI ((nmI Kd 1 idx).length + 0); exact z3 1 (by decide))
               | (show K2 1 + 1 = nI ((nmI Kd 1 idx).length + 1); rw [z3 1 (by decide), nI_1])
               | (show nI (nmI Kd 1 idx).length + 1 = nI ((nmI Kd 1 idx).length + 1); rw [nI_1])
           · rw [List.length_append]
             first
               | (show K2 2 = nI ((nmI Kd 2 idx).length + 0); exact z3 2 (by decide))
               | (show K2 2 + 1 = nI ((nmI Kd 2 idx).length + 1); rw [z3 2 (by decide), nI_1])
               | (show nI (nmI Kd 2 idx).length + 1 = nI ((nmI Kd 2 idx).length + 1); rw [nI_1])
         · rw [hnn]
           exact z4)
  · have hz0 : ckE f g rows idx = 0 := e189
    refine bg_iconst rfl ?_
    refine bg_goto rfl ?_
    refine bg_iadd rfl ?_
    refine bg_putfield rfl rfl hM.R.1 (by rfl) ⟨rfl, rfl⟩ (by rfl) (fun h198 f198 g198 => ?_)
    have hM := hM.kk2 f198 g198
    refine bg_iload3 rfl ?_
    refine bg_iret rfl rfl (by rfl) ?_
    first
      | exact hQ _ _ _ _ hM ⟨rfl, rfl, rfl⟩ (fun q => (hz q).elim)
      | (refine hQ _ _ _ _ hM ⟨rfl, rfl, rfl⟩ (fun _ => ZH_s hZ rfl (fun k _ => rfl) (fun q => absurd hrof q.2.2.2) (fun m hm3 => ?_) ?_ (fun j hj => if_neg (by omega)) (fun j hj => by rw [hza]; exact z6 j hj) (fun j _ => rfl))
         · have m3 : m = 0 ∨ m = 1 ∨ m = 2 := by omega
           have e : nmI Kd m (idx + 1) = nmI Kd m idx ++ (if (3 : Int32) = nI (m + 1) then [idx] else []) := by rw [nmI_s, hrof]
           rw [e]
           rcases m3 with rfl | rfl | rfl
           · rw [List.length_append]
             first
               | (show K2 0 = nI ((nmI Kd 0 idx).length + 0); exact z3 0 (by decide))
               | (show K2 0 + 1 = nI ((nmI Kd 0 idx).length + 1); rw [z3 0 (by decide), nI_1])
               | (show nI (nmI Kd 0 idx).length + 1 = nI ((nmI Kd 0 idx).length + 1); rw [nI_1])
           · rw [List.length_append]
             first
               | (show K2 1 = nI ((nmI Kd 1 idx).length + 0); exact z3 1 (by decide))
               | (show K2 1 + 1 = nI ((nmI Kd 1 idx).length + 1); rw [z3 1 (by decide), nI_1])
               | (show nI (nmI Kd 1 idx).length + 1 = nI ((nmI Kd 1 idx).length + 1); rw [nI_1])
           · rw [List.length_append]
             first
               | (show K2 2 = nI ((nmI Kd 2 idx).length + 0); exact z3 2 (by decide))
               | (show K2 2 + 1 = nI ((nmI Kd 2 idx).length + 1); rw [z3 2 (by decide), nI_1])
               | (show nI (nmI Kd 2 idx).length + 1 = nI ((nmI Kd 2 idx).length + 1); rw [nI_1])
         · rw [hnn]
           exact z4)
theorem mt_err4 (hf : ∀ i, i < N → f i = Kd i) (hN : N ≤ 401) (hE : E ≤ N) (hi : idx < E) (hok : ∀ j, j < idx → ckE f g rows j = 0) (hT : OKT Kd idx) (hw : ∀ q ∈ rows, q.length = 2) (hl : rows.length = N) (hF1 : F 1 = Fx 1) (hF2 : F 2 = Fx 2) (hm : NMk Fx Kd N T g) (hV : NVk Fx Kd N T nv) (hnv : Kd idx = 31 → rG rows (nI idx) 1 = nv idx) (hM : MT h0 h y u v T P S K C J F K2 C2) (hZ : ZH f g rows Kd nv Cb E Kz Cz idx F K2 C2) (hk : Kd idx = 11) (hQ : ∀ (h' : bk_H) (F' : rA) (K2' : rI) (C2' : rA), MT h0 h' y u v T P S K C J F' K2' C2' → (F' 0 = F 0 ∧ F' 1 = F 1 ∧ F' 2 = F 2) → (ckE f g rows idx = 0 → ZH f g rows Kd nv Cb E Kz Cz (idx + 1) F' K2' C2') → Q (.inl (some (.int (ckE f g rows idx)))) h' n) : bk_wp V (D + 6) 192 [.ref y, .int (nI idx)] h n B Q := by
  have hrof : rof Kd idx = 4 := by
    unfold rof roF
    rw [hk]
    rfl
  obtain ⟨z1, z2, z3, z4, z5, z6, z7⟩ := id hZ
  have hi2 : idx < N := by omega
  have hrl : F 3 idx = 4 := (z1 idx hi).trans hrof
  have hF3 : ∀ k, k ≤ idx → F 3 k = rof Kd k := fun k hk => z1 k (by omega)
  have hLL := ckS_L (f := f) (g := g) (rows := rows) hf hN hok (show idx ≤ N by omega)
  have hlen := ckS_len (f := f) (g := g) (rows := rows) hf hN idx (by omega) hok
  obtain ⟨hno, hno24⟩ := ckS_n (f := f) (g := g) (rows := rows) hf hN idx (by omega) hok
  obtain ⟨hrw1, hrw2, hrw3⟩ := ckS_rows (f := f) (g := g) (rows := rows) hw (by omega) idx (by omega)
  have hnm : ∀ m, m < 3 → nmI Kd m (idx + 1) = nmI Kd m idx := fun m hm => by
    have : ¬ rof Kd idx = nI (m + 1) := by
      rw [hrof]
      have m3 : m = 0 ∨ m = 1 ∨ m = 2 := by omega
      rcases m3 with rfl | rfl | rfl <;> decide
    rw [nmI_s, if_neg this]
    exact List.append_nil _
  have hce : ckE f g rows idx = if ¬ 24 < nI (noI Kd idx + 1) then 0 else 4 := by
    unfold ckE
    rw [ck1_k hf hN hi2, if_neg (by rw [hk]; decide), if_neg (by rw [hk]; decide), if_pos (by rw [hk]; decide), hno, nI_1]
  have hnn : noI Kd (idx + 1) = noI Kd idx + 1 := by
    show noI Kd idx + _ = _
    rw [if_pos (by rw [hk]; decide)]
  have hza : zA f g rows Kd nv Cb (idx + 1) = uA (zA f g rows Kd nv Cb idx) 7 (upd (zA f g rows Kd nv Cb idx 7) (noI Kd idx) 10) := by
    show zStep f g rows Kd nv idx (zA f g rows Kd nv Cb idx) = _
    unfold zStep
    rw [hrof]
    rfl
  refine bg_in rfl rfl ?_
  refine bg_aload0 rfl ?_
  refine bg_getfield rfl rfl hM.Y (by rfl) ?_
  refine bg_astore2 rfl rfl ?_
  refine bg_iconst rfl ?_
  refine bg_istore3 rfl rfl ?_
  refine bg_aload0 rfl ?_
  refine bg_getfield rfl rfl hM.Y (by rfl) ?_
  refine bg_iload1 rfl ?_
  refine bg_iaload_n rfl hM.f3 (by decide) (by omega) ?_
  rw [hrl]
  refine bg_tsw rfl ?_
  refine bk_sw_c (fun e13_1 => absurd e13_1 (by decide)) (fun n13_1 => ?_)
  refine bk_sw_c (fun e13_2 => absurd e13_2 (by decide)) (fun n13_2 => ?_)
  refine bk_sw_c (fun e13_3 => absurd e13_3 (by decide)) (fun n13_3 => ?_)
  refine bk_sw_c (fun e13_4 => ?_) (fun n13_4 => absurd rfl n13_4)
  refine bg_aload0 rfl ?_
  refine bg_bipush rfl ?_
  refine bg_virt1 rfl rfl rfl rfl ⟨_, hM.Y⟩ ?_
  refine mt_order hM z4 hno24 (fun hlt h1 hM => bk_Ki ?_) (fun heq => bk_Ki ?_)
  · replace hce : ckE f g rows idx = 0 := hce.trans (if_pos (nI_nlt (a := 24) (by omega) (by omega)))
    refine bg_iret rfl rfl (by rfl) ?_
    rw [← hce]
    exact hQ _ _ _ _ hM ⟨rfl, rfl, rfl⟩ (fun _ => ZH_s hZ rfl (fun k _ => rfl) (fun q => absurd (hk.symm.trans q.1) (by decide)) (fun m hm3 => by rw [hnm m hm3]; exact (if_neg (by omega)).trans (z3 m hm3)) (by rw [hnn]; rfl) (fun j hj => if_neg (by omega)) (fun j hj => by rw [hza]; exact uA_cg z6 (by decide) j hj) (fun j hj => if_neg (by omega)))
  · replace hce : ckE f g rows idx = 4 := by
      rw [hce, heq]
      decide
    refine bg_iret rfl rfl (by rfl) ?_
    rw [← hce]
    exact hQ _ _ _ _ hM ⟨rfl, rfl, rfl⟩ (fun q => absurd (hce.symm.trans q) (by decide))
theorem mt_err5 (hf : ∀ i, i < N → f i = Kd i) (hN : N ≤ 401) (hE : E ≤ N) (hi : idx < E) (hok : ∀ j, j < idx → ckE f g rows j = 0) (hT : OKT Kd idx) (hw : ∀ q ∈ rows, q.length = 2) (hl : rows.length = N) (hF1 : F 1 = Fx 1) (hF2 : F 2 = Fx 2) (hm : NMk Fx Kd N T g) (hV : NVk Fx Kd N T nv) (hnv : Kd idx = 31 → rG rows (nI idx) 1 = nv idx) (hM : MT h0 h y u v T P S K C J F K2 C2) (hZ : ZH f g rows Kd nv Cb E Kz Cz idx F K2 C2) (hk : Kd idx = 13) (hQ : ∀ (h' : bk_H) (F' : rA) (K2' : rI) (C2' : rA), MT h0 h' y u v T P S K C J F' K2' C2' → (F' 0 = F 0 ∧ F' 1 = F 1 ∧ F' 2 = F 2) → (ckE f g rows idx = 0 → ZH f g rows Kd nv Cb E Kz Cz (idx + 1) F' K2' C2') → Q (.inl (some (.int (ckE f g rows idx)))) h' n) : bk_wp V (D + 6) 192 [.ref y, .int (nI idx)] h n B Q := by
  have hrof : rof Kd idx = 5 := by
    unfold rof roF
    rw [hk]
    rfl
  obtain ⟨z1, z2, z3, z4, z5, z6, z7⟩ := id hZ
  have hi2 : idx < N := by omega
  have hrl : F 3 idx = 5 := (z1 idx hi).trans hrof
  have hF3 : ∀ k, k ≤ idx → F 3 k = rof Kd k := fun k hk => z1 k (by omega)
  have hLL := ckS_L (f := f) (g := g) (rows := rows) hf hN hok (show idx ≤ N by omega)
  have hlen := ckS_len (f := f) (g := g) (rows := rows) hf hN idx (by omega) hok
  obtain ⟨hno, hno24⟩ := ckS_n (f := f) (g := g) (rows := rows) hf hN idx (by omega) hok
  obtain ⟨hrw1, hrw2, hrw3⟩ := ckS_rows (f := f) (g := g) (rows := rows) hw (by omega) idx (by omega)
  have hnm : ∀ m, m < 3 → nmI Kd m (idx + 1) = nmI Kd m idx := fun m hm => by
    have : ¬ rof Kd idx = nI (m + 1) := by
      rw [hrof]
      have m3 : m = 0 ∨ m = 1 ∨ m = 2 := by omega
      rcases m3 with rfl | rfl | rfl <;> decide
    rw [nmI_s, if_neg this]
    exact List.append_nil _
  have hce : ckE f g rows idx = if ¬ 24 < nI (noI Kd idx + 1) then 0 else 4 := by
    unfold ckE
    rw [ck1_k hf hN hi2, if_neg (by rw [hk]; decide), if_neg (by rw [hk]; decide), if_pos (by rw [hk]; decide), hno, nI_1]
  have hnn : noI Kd (idx + 1) = noI Kd idx + 1 := by
    show noI Kd idx + _ = _
    rw [if_pos (by rw [hk]; decide)]
  have hza : zA f g rows Kd nv Cb (idx + 1) = uA (zA f g rows Kd nv Cb idx) 7 (upd (zA f g rows Kd nv Cb idx 7) (noI Kd idx) 12) := by
    show zStep f g rows Kd nv idx (zA f g rows Kd nv Cb idx) = _
    unfold zStep
    rw [hrof]
    rfl
  refine bg_in rfl rfl ?_
  refine bg_aload0 rfl ?_
  refine bg_getfield rfl rfl hM.Y (by rfl) ?_
  refine bg_astore2 rfl rfl ?_
  refine bg_iconst rfl ?_
  refine bg_istore3 rfl rfl ?_
  refine bg_aload0 rfl ?_
  refine bg_getfield rfl rfl hM.Y (by rfl) ?_
  refine bg_iload1 rfl ?_
  refine bg_iaload_n rfl hM.f3 (by decide) (by omega) ?_
  rw [hrl]
  refine bg_tsw rfl ?_
  refine bk_sw_c (fun e13_1 => absurd e13_1 (by decide)) (fun n13_1 => ?_)
  refine bk_sw_c (fun e13_2 => absurd e13_2 (by decide)) (fun n13_2 => ?_)
  refine bk_sw_c (fun e13_3 => absurd e13_3 (by decide)) (fun n13_3 => ?_)
  refine bk_sw_c (fun e13_4 => absurd e13_4 (by decide)) (fun n13_4 => ?_)
  refine bk_sw_c (fun e13_5 => ?_) (fun n13_5 => absurd rfl n13_5)
  refine bg_aload0 rfl ?_
  refine bg_bipush rfl ?_
  refine bg_virt1 rfl rfl rfl rfl ⟨_, hM.Y⟩ ?_
  refine mt_order hM z4 hno24 (fun hlt h1 hM => bk_Ki ?_) (fun heq => bk_Ki ?_)
  · replace hce : ckE f g rows idx = 0 := hce.trans (if_pos (nI_nlt (a := 24) (by omega) (by omega)))
    refine bg_iret rfl rfl (by rfl) ?_
    rw [← hce]
    exact hQ _ _ _ _ hM ⟨rfl, rfl, rfl⟩ (fun _ => ZH_s hZ rfl (fun k _ => rfl) (fun q => absurd (hk.symm.trans q.1) (by decide)) (fun m hm3 => by rw [hnm m hm3]; exact (if_neg (by omega)).trans (z3 m hm3)) (by rw [hnn]; rfl) (fun j hj => if_neg (by omega)) (fun j hj => by rw [hza]; exact uA_cg z6 (by decide) j hj) (fun j hj => if_neg (by omega)))
  · replace hce : ckE f g rows idx = 4 := by
      rw [hce, heq]
      decide
    refine bg_iret rfl rfl (by rfl) ?_
    rw [← hce]
    exact hQ _ _ _ _ hM ⟨rfl, rfl, rfl⟩ (fun q => absurd (hce.symm.trans q) (by decide))
theorem mt_err6 (hf : ∀ i, i < N → f i = Kd i) (hN : N ≤ 401) (hE : E ≤ N) (hi : idx < E) (hok : ∀ j, j < idx → ckE f g rows j = 0) (hT : OKT Kd idx) (hw : ∀ q ∈ rows, q.length = 2) (hl : rows.length = N) (hF1 : F 1 = Fx 1) (hF2 : F 2 = Fx 2) (hm : NMk Fx Kd N T g) (hV : NVk Fx Kd N T nv) (hnv : Kd idx = 31 → rG rows (nI idx) 1 = nv idx) (hM : MT h0 h y u v T P S K C J F K2 C2) (hZ : ZH f g rows Kd nv Cb E Kz Cz idx F K2 C2) (hk : Kd idx = 15) (hQ : ∀ (h' : bk_H) (F' : rA) (K2' : rI) (C2' : rA), MT h0 h' y u v T P S K C J F' K2' C2' → (F' 0 = F 0 ∧ F' 1 = F 1 ∧ F' 2 = F 2) → (ckE f g rows idx = 0 → ZH f g rows Kd nv Cb E Kz Cz (idx + 1) F' K2' C2') → Q (.inl (some (.int (ckE f g rows idx)))) h' n) : bk_wp V (D + 6) 192 [.ref y, .int (nI idx)] h n B Q := by
  have hrof : rof Kd idx = 6 := by
    unfold rof roF
    rw [hk]
    rfl
  obtain ⟨z1, z2, z3, z4, z5, z6, z7⟩ := id hZ
  have hi2 : idx < N := by omega
  have hrl : F 3 idx = 6 := (z1 idx hi).trans hrof
  have hF3 : ∀ k, k ≤ idx → F 3 k = rof Kd k := fun k hk => z1 k (by omega)
  have hLL := ckS_L (f := f) (g := g) (rows := rows) hf hN hok (show idx ≤ N by omega)
  have hlen := ckS_len (f := f) (g := g) (rows := rows) hf hN idx (by omega) hok
  obtain ⟨hno, hno24⟩ := ckS_n (f := f) (g := g) (rows := rows) hf hN idx (by omega) hok
  obtain ⟨hrw1, hrw2, hrw3⟩ := ckS_rows (f := f) (g := g) (rows := rows) hw (by omega) idx (by omega)
  have hnm : ∀ m, m < 3 → nmI Kd m (idx + 1) = nmI Kd m idx := fun m hm => by
    have : ¬ rof Kd idx = nI (m + 1) := by
      rw [hrof]
      have m3 : m = 0 ∨ m = 1 ∨ m = 2 := by omega
      rcases m3 with rfl | rfl | rfl <;> decide
    rw [nmI_s, if_neg this]
    exact List.append_nil _
  have hce : ckE f g rows idx = if ¬ 24 < nI (noI Kd idx + 1) then 0 else 4 := by
    unfold ckE
    rw [ck1_k hf hN hi2, if_neg (by rw [hk]; decide), if_neg (by rw [hk]; decide), if_pos (by rw [hk]; decide), hno, nI_1]
  have hnn : noI Kd (idx + 1) = noI Kd idx + 1 := by
    show noI Kd idx + _ = _
    rw [if_pos (by rw [hk]; decide)]
  have hza : zA f g rows Kd nv Cb (idx + 1) = uA (zA f g rows Kd nv Cb idx) 7 (upd (zA f g rows Kd nv Cb idx 7) (noI Kd idx) 14) := by
    show zStep f g rows Kd nv idx (zA f g rows Kd nv Cb idx) = _
    unfold zStep
    rw [hrof]
    rfl
  refine bg_in rfl rfl ?_
  refine bg_aload0 rfl ?_
  refine bg_getfield rfl rfl hM.Y (by rfl) ?_
  refine bg_astore2 rfl rfl ?_
  refine bg_iconst rfl ?_
  refine bg_istore3 rfl rfl ?_
  refine bg_aload0 rfl ?_
  refine bg_getfield rfl rfl hM.Y (by rfl) ?_
  refine bg_iload1 rfl ?_
  refine bg_iaload_n rfl hM.f3 (by decide) (by omega) ?_
  rw [hrl]
  refine bg_tsw rfl ?_
  refine bk_sw_c (fun e13_1 => absurd e13_1 (by decide)) (fun n13_1 => ?_)
  refine bk_sw_c (fun e13_2 => absurd e13_2 (by decide)) (fun n13_2 => ?_)
  refine bk_sw_c (fun e13_3 => absurd e13_3 (by decide)) (fun n13_3 => ?_)
  refine bk_sw_c (fun e13_4 => absurd e13_4 (by decide)) (fun n13_4 => ?_)
  refine bk_sw_c (fun e13_5 => absurd e13_5 (by decide)) (fun n13_5 => ?_)
  refine bk_sw_c (fun e13_6 => ?_) (fun n13_6 => absurd rfl n13_6)
  refine bg_aload0 rfl ?_
  refine bg_bipush rfl ?_
  refine bg_virt1 rfl rfl rfl rfl ⟨_, hM.Y⟩ ?_
  refine mt_order hM z4 hno24 (fun hlt h1 hM => bk_Ki ?_) (fun heq => bk_Ki ?_)
  · replace hce : ckE f g rows idx = 0 := hce.trans (if_pos (nI_nlt (a := 24) (by omega) (by omega)))
    refine bg_iret rfl rfl (by rfl) ?_
    rw [← hce]
    exact hQ _ _ _ _ hM ⟨rfl, rfl, rfl⟩ (fun _ => ZH_s hZ rfl (fun k _ => rfl) (fun q => absurd (hk.symm.trans q.1) (by decide)) (fun m hm3 => by rw [hnm m hm3]; exact (if_neg (by omega)).trans (z3 m hm3)) (by rw [hnn]; rfl) (fun j hj => if_neg (by omega)) (fun j hj => by rw [hza]; exact uA_cg z6 (by decide) j hj) (fun j hj => if_neg (by omega)))
  · replace hce : ckE f g rows idx = 4 := by
      rw [hce, heq]
      decide
    refine bg_iret rfl rfl (by rfl) ?_
    rw [← hce]
    exact hQ _ _ _ _ hM ⟨rfl, rfl, rfl⟩ (fun q => absurd (hce.symm.trans q) (by decide))
theorem mt_err14 (hf : ∀ i, i < N → f i = Kd i) (hN : N ≤ 401) (hE : E ≤ N) (hi : idx < E) (hok : ∀ j, j < idx → ckE f g rows j = 0) (hT : OKT Kd idx) (hw : ∀ q ∈ rows, q.length = 2) (hl : rows.length = N) (hF1 : F 1 = Fx 1) (hF2 : F 2 = Fx 2) (hm : NMk Fx Kd N T g) (hV : NVk Fx Kd N T nv) (hnv : Kd idx = 31 → rG rows (nI idx) 1 = nv idx) (hM : MT h0 h y u v T P S K C J F K2 C2) (hZ : ZH f g rows Kd nv Cb E Kz Cz idx F K2 C2) (hk : Kd idx = 30) (hb : pvF Kd idx = 11) (hQ : ∀ (h' : bk_H) (F' : rA) (K2' : rI) (C2' : rA), MT h0 h' y u v T P S K C J F' K2' C2' → (F' 0 = F 0 ∧ F' 1 = F 1 ∧ F' 2 = F 2) → (ckE f g rows idx = 0 → ZH f g rows Kd nv Cb E Kz Cz (idx + 1) F' K2' C2') → Q (.inl (some (.int (ckE f g rows idx)))) h' n) : bk_wp V (D + 6) 192 [.ref y, .int (nI idx)] h n B Q := by
  have hrof : rof Kd idx = 14 := by
    unfold rof roF
    rw [hk, hb]
    rfl
  obtain ⟨z1, z2, z3, z4, z5, z6, z7⟩ := id hZ
  have hi2 : idx < N := by omega
  have hrl : F 3 idx = 14 := (z1 idx hi).trans hrof
  have hF3 : ∀ k, k ≤ idx → F 3 k = rof Kd k := fun k hk => z1 k (by omega)
  have hLL := ckS_L (f := f) (g := g) (rows := rows) hf hN hok (show idx ≤ N by omega)
  have hlen := ckS_len (f := f) (g := g) (rows := rows) hf hN idx (by omega) hok
  obtain ⟨hno, hno24⟩ := ckS_n (f := f) (g := g) (rows := rows) hf hN idx (by omega) hok
  obtain ⟨hrw1, hrw2, hrw3⟩ := ckS_rows (f := f) (g := g) (rows := rows) hw (by omega) idx (by omega)
  have hnm : ∀ m, m < 3 → nmI Kd m (idx + 1) = nmI Kd m idx := fun m hm => by
    have : ¬ rof Kd idx = nI (m + 1) := by
      rw [hrof]
      have m3 : m = 0 ∨ m = 1 ∨ m = 2 := by omega
      rcases m3 with rfl | rfl | rfl <;> decide
    rw [nmI_s, if_neg this]
    exact List.append_nil _
  have hnn : noI Kd (idx + 1) = noI Kd idx := by
    show noI Kd idx + _ = _
    rw [if_neg (by rw [hk]; decide)]
    exact Nat.add_zero _
  have hck : ck1 f g idx (ckS f g rows idx) = ckTold g idx 0 (ckS f g rows idx) := by
    rw [ck1_k hf hN hi2, if_pos hk]
    rw [hb]
    rfl
  have hce : ckE f g rows idx = if (ixL ((nmI Kd 0 idx).map g) (g idx) 0) < 0 then 3 else 0 := by
    unfold ckE
    rw [hck]
    unfold ckTold
    rw [hLL 0 (by decide)]
  have hmn : mnF f g rows idx = ixL ((nmI Kd 0 idx).map g) (g idx) 0 := by
    show rG (ck1 f g idx (ckS f g rows idx)).2.2.2 (nI idx) 1 = _
    rw [hck]
    show rG (rS (ckS f g rows idx).2.2 (nI idx) 1 (ixL ((ckS f g rows idx).1 0) (g idx) 0)) (nI idx) 1 = _
    rw [hLL 0 (by decide), rS_nI (by omega), rG_nI (by omega), tg_tS hrw2 (by omega) (by decide), if_pos ⟨rfl, rfl⟩]
  have hza : zA f g rows Kd nv Cb (idx + 1) = uA (zA f g rows Kd nv Cb idx) 9 (upd (zA f g rows Kd nv Cb idx 9) (noI Kd idx - 1) (mnF f g rows idx)) := by
    show zStep f g rows Kd nv idx (zA f g rows Kd nv Cb idx) = _
    unfold zStep
    rw [hrof]
    rfl
  obtain ⟨ko, ko1, ko2⟩ := hT.2.2.2 (by rw [hrof]; decide)
  have hno1 := noI_pos ko2 idx ko1
  refine bg_in rfl rfl ?_
  refine bg_aload0 rfl ?_
  refine bg_getfield rfl rfl hM.Y (by rfl) ?_
  refine bg_astore2 rfl rfl ?_
  refine bg_iconst rfl ?_
  refine bg_istore3 rfl rfl ?_
  refine bg_aload0 rfl ?_
  refine bg_getfield rfl rfl hM.Y (by rfl) ?_
  refine bg_iload1 rfl ?_
  refine bg_iaload_n rfl hM.f3 (by decide) (by omega) ?_
  rw [hrl]
  refine bg_tsw rfl ?_
  refine bk_sw_c (fun e13_1 => absurd e13_1 (by decide)) (fun n13_1 => ?_)
  refine bk_sw_c (fun e13_2 => absurd e13_2 (by decide)) (fun n13_2 => ?_)
  refine bk_sw_c (fun e13_3 => absurd e13_3 (by decide)) (fun n13_3 => ?_)
  refine bk_sw_c (fun e13_4 => absurd e13_4 (by decide)) (fun n13_4 => ?_)
  refine bk_sw_c (fun e13_5 => absurd e13_5 (by decide)) (fun n13_5 => ?_)
  refine bk_sw_c (fun e13_6 => absurd e13_6 (by decide)) (fun n13_6 => ?_)
  refine bk_sw_c (fun e13_7 => absurd e13_7 (by decide)) (fun n13_7 => ?_)
  refine bk_sw_c (fun e13_8 => absurd e13_8 (by decide)) (fun n13_8 => ?_)
  refine bk_sw_c (fun e13_9 => absurd e13_9 (by decide)) (fun n13_9 => ?_)
  refine bk_sw_c (fun e13_10 => absurd e13_10 (by decide)) (fun n13_10 => ?_)
  refine bk_sw_c (fun e13_11 => absurd e13_11 (by decide)) (fun n13_11 => ?_)
  refine bk_sw_c (fun e13_12 => absurd e13_12 (by decide)) (fun n13_12 => ?_)
  refine bk_sw_c (fun e13_13 => absurd e13_13 (by decide)) (fun n13_13 => ?_)
  refine bk_sw_c (fun e13_14 => ?_) (fun n13_14 => absurd rfl n13_14)
  refine bg_aload0 rfl ?_
  refine bg_iload1 rfl ?_
  refine bg_virt1 rfl rfl rfl rfl ⟨_, hM.Y⟩ ?_
  refine mt_orderWhere (m := 0) rfl hM z4 hno1 hno24 (by decide) hF1 hF2 hm hN hi2 hk hF3 (fun h1 hM => bk_Ki ?_)
  refine bg_iret rfl rfl (by rfl) ?_
  rw [← hce]
  exact hQ _ _ _ _ hM ⟨rfl, rfl, rfl⟩ (fun _ => ZH_s hZ rfl (fun k hk2 => if_neg hk2) (fun _ => (if_pos rfl).trans hmn.symm) (fun m hm3 => by rw [hnm m hm3]; exact z3 m hm3) (by rw [hnn]; exact z4) (fun j _ => rfl) (fun j hj => by rw [hza, hmn]; exact uA_cg z6 (by decide) j hj) (fun j hj => if_neg (by omega)))
theorem mt_err16 (hf : ∀ i, i < N → f i = Kd i) (hN : N ≤ 401) (hE : E ≤ N) (hi : idx < E) (hok : ∀ j, j < idx → ckE f g rows j = 0) (hT : OKT Kd idx) (hw : ∀ q ∈ rows, q.length = 2) (hl : rows.length = N) (hF1 : F 1 = Fx 1) (hF2 : F 2 = Fx 2) (hm : NMk Fx Kd N T g) (hV : NVk Fx Kd N T nv) (hnv : Kd idx = 31 → rG rows (nI idx) 1 = nv idx) (hM : MT h0 h y u v T P S K C J F K2 C2) (hZ : ZH f g rows Kd nv Cb E Kz Cz idx F K2 C2) (hk : Kd idx = 30) (hb : pvF Kd idx = 14) (hQ : ∀ (h' : bk_H) (F' : rA) (K2' : rI) (C2' : rA), MT h0 h' y u v T P S K C J F' K2' C2' → (F' 0 = F 0 ∧ F' 1 = F 1 ∧ F' 2 = F 2) → (ckE f g rows idx = 0 → ZH f g rows Kd nv Cb E Kz Cz (idx + 1) F' K2' C2') → Q (.inl (some (.int (ckE f g rows idx)))) h' n) : bk_wp V (D + 6) 192 [.ref y, .int (nI idx)] h n B Q := by
  have hrof : rof Kd idx = 16 := by
    unfold rof roF
    rw [hk, hb]
    rfl
  obtain ⟨z1, z2, z3, z4, z5, z6, z7⟩ := id hZ
  have hi2 : idx < N := by omega
  have hrl : F 3 idx = 16 := (z1 idx hi).trans hrof
  have hF3 : ∀ k, k ≤ idx → F 3 k = rof Kd k := fun k hk => z1 k (by omega)
  have hLL := ckS_L (f := f) (g := g) (rows := rows) hf hN hok (show idx ≤ N by omega)
  have hlen := ckS_len (f := f) (g := g) (rows := rows) hf hN idx (by omega) hok
  obtain ⟨hno, hno24⟩ := ckS_n (f := f) (g := g) (rows := rows) hf hN idx (by omega) hok
  obtain ⟨hrw1, hrw2, hrw3⟩ := ckS_rows (f := f) (g := g) (rows := rows) hw (by omega) idx (by omega)
  have hnm : ∀ m, m < 3 → nmI Kd m (idx + 1) = nmI Kd m idx := fun m hm => by
    have : ¬ rof Kd idx = nI (m + 1) := by
      rw [hrof]
      have m3 : m = 0 ∨ m = 1 ∨ m = 2 := by omega
      rcases m3 with rfl | rfl | rfl <;> decide
    rw [nmI_s, if_neg this]
    exact List.append_nil _
  have hnn : noI Kd (idx + 1) = noI Kd idx := by
    show noI Kd idx + _ = _
    rw [if_neg (by rw [hk]; decide)]
    exact Nat.add_zero _
  have hck : ck1 f g idx (ckS f g rows idx) = ckTold g idx 0 (ckS f g rows idx) := by
    rw [ck1_k hf hN hi2, if_pos hk]
    rw [hb]
    rfl
  have hce : ckE f g rows idx = if (ixL ((nmI Kd 0 idx).map g) (g idx) 0) < 0 then 3 else 0 := by
    unfold ckE
    rw [hck]
    unfold ckTold
    rw [hLL 0 (by decide)]
  have hmn : mnF f g rows idx = ixL ((nmI Kd 0 idx).map g) (g idx) 0 := by
    show rG (ck1 f g idx (ckS f g rows idx)).2.2.2 (nI idx) 1 = _
    rw [hck]
    show rG (rS (ckS f g rows idx).2.2 (nI idx) 1 (ixL ((ckS f g rows idx).1 0) (g idx) 0)) (nI idx) 1 = _
    rw [hLL 0 (by decide), rS_nI (by omega), rG_nI (by omega), tg_tS hrw2 (by omega) (by decide), if_pos ⟨rfl, rfl⟩]
  have hza : zA f g rows Kd nv Cb (idx + 1) = uA (zA f g rows Kd nv Cb idx) 9 (upd (zA f g rows Kd nv Cb idx 9) (noI Kd idx - 1) (mnF f g rows idx)) := by
    show zStep f g rows Kd nv idx (zA f g rows Kd nv Cb idx) = _
    unfold zStep
    rw [hrof]
    rfl
  obtain ⟨ko, ko1, ko2⟩ := hT.2.2.2 (by rw [hrof]; decide)
  have hno1 := noI_pos ko2 idx ko1
  refine bg_in rfl rfl ?_
  refine bg_aload0 rfl ?_
  refine bg_getfield rfl rfl hM.Y (by rfl) ?_
  refine bg_astore2 rfl rfl ?_
  refine bg_iconst rfl ?_
  refine bg_istore3 rfl rfl ?_
  refine bg_aload0 rfl ?_
  refine bg_getfield rfl rfl hM.Y (by rfl) ?_
  refine bg_iload1 rfl ?_
  refine bg_iaload_n rfl hM.f3 (by decide) (by omega) ?_
  rw [hrl]
  refine bg_tsw rfl ?_
  refine bk_sw_c (fun e13_1 => absurd e13_1 (by decide)) (fun n13_1 => ?_)
  refine bk_sw_c (fun e13_2 => absurd e13_2 (by decide)) (fun n13_2 => ?_)
  refine bk_sw_c (fun e13_3 => absurd e13_3 (by decide)) (fun n13_3 => ?_)
  refine bk_sw_c (fun e13_4 => absurd e13_4 (by decide)) (fun n13_4 => ?_)
  refine bk_sw_c (fun e13_5 => absurd e13_5 (by decide)) (fun n13_5 => ?_)
  refine bk_sw_c (fun e13_6 => absurd e13_6 (by decide)) (fun n13_6 => ?_)
  refine bk_sw_c (fun e13_7 => absurd e13_7 (by decide)) (fun n13_7 => ?_)
  refine bk_sw_c (fun e13_8 => absurd e13_8 (by decide)) (fun n13_8 => ?_)
  refine bk_sw_c (fun e13_9 => absurd e13_9 (by decide)) (fun n13_9 => ?_)
  refine bk_sw_c (fun e13_10 => absurd e13_10 (by decide)) (fun n13_10 => ?_)
  refine bk_sw_c (fun e13_11 => absurd e13_11 (by decide)) (fun n13_11 => ?_)
  refine bk_sw_c (fun e13_12 => absurd e13_12 (by decide)) (fun n13_12 => ?_)
  refine bk_sw_c (fun e13_13 => absurd e13_13 (by decide)) (fun n13_13 => ?_)
  refine bk_sw_c (fun e13_14 => absurd e13_14 (by decide)) (fun n13_14 => ?_)
  refine bk_sw_c (fun e13_15 => absurd e13_15 (by decide)) (fun n13_15 => ?_)
  refine bk_sw_c (fun e13_16 => ?_) (fun n13_16 => absurd rfl n13_16)
  refine bg_aload0 rfl ?_
  refine bg_iload1 rfl ?_
  refine bg_virt1 rfl rfl rfl rfl ⟨_, hM.Y⟩ ?_
  refine mt_orderWhere (m := 0) rfl hM z4 hno1 hno24 (by decide) hF1 hF2 hm hN hi2 hk hF3 (fun h1 hM => bk_Ki ?_)
  refine bg_iret rfl rfl (by rfl) ?_
  rw [← hce]
  exact hQ _ _ _ _ hM ⟨rfl, rfl, rfl⟩ (fun _ => ZH_s hZ rfl (fun k hk2 => if_neg hk2) (fun _ => (if_pos rfl).trans hmn.symm) (fun m hm3 => by rw [hnm m hm3]; exact z3 m hm3) (by rw [hnn]; exact z4) (fun j _ => rfl) (fun j hj => by rw [hza, hmn]; exact uA_cg z6 (by decide) j hj) (fun j hj => if_neg (by omega)))
theorem mt_err18 (hf : ∀ i, i < N → f i = Kd i) (hN : N ≤ 401) (hE : E ≤ N) (hi : idx < E) (hok : ∀ j, j < idx → ckE f g rows j = 0) (hT : OKT Kd idx) (hw : ∀ q ∈ rows, q.length = 2) (hl : rows.length = N) (hF1 : F 1 = Fx 1) (hF2 : F 2 = Fx 2) (hm : NMk Fx Kd N T g) (hV : NVk Fx Kd N T nv) (hnv : Kd idx = 31 → rG rows (nI idx) 1 = nv idx) (hM : MT h0 h y u v T P S K C J F K2 C2) (hZ : ZH f g rows Kd nv Cb E Kz Cz idx F K2 C2) (hk : Kd idx = 30) (hb : pvF Kd idx = 16) (hQ : ∀ (h' : bk_H) (F' : rA) (K2' : rI) (C2' : rA), MT h0 h' y u v T P S K C J F' K2' C2' → (F' 0 = F 0 ∧ F' 1 = F 1 ∧ F' 2 = F 2) → (ckE f g rows idx = 0 → ZH f g rows Kd nv Cb E Kz Cz (idx + 1) F' K2' C2') → Q (.inl (some (.int (ckE f g rows idx)))) h' n) : bk_wp V (D + 6) 192 [.ref y, .int (nI idx)] h n B Q := by
  have hrof : rof Kd idx = 18 := by
    unfold rof roF
    rw [hk, hb]
    rfl
  obtain ⟨z1, z2, z3, z4, z5, z6, z7⟩ := id hZ
  have hi2 : idx < N := by omega
  have hrl : F 3 idx = 18 := (z1 idx hi).trans hrof
  have hF3 : ∀ k, k ≤ idx → F 3 k = rof Kd k := fun k hk => z1 k (by omega)
  have hLL := ckS_L (f := f) (g := g) (rows := rows) hf hN hok (show idx ≤ N by omega)
  have hlen := ckS_len (f := f) (g := g) (rows := rows) hf hN idx (by omega) hok
  obtain ⟨hno, hno24⟩ := ckS_n (f := f) (g := g) (rows := rows) hf hN idx (by omega) hok
  obtain ⟨hrw1, hrw2, hrw3⟩ := ckS_rows (f := f) (g := g) (rows := rows) hw (by omega) idx (by omega)
  have hnm : ∀ m, m < 3 → nmI Kd m (idx + 1) = nmI Kd m idx := fun m hm => by
    have : ¬ rof Kd idx = nI (m + 1) := by
      rw [hrof]
      have m3 : m = 0 ∨ m = 1 ∨ m = 2 := by omega
      rcases m3 with rfl | rfl | rfl <;> decide
    rw [nmI_s, if_neg this]
    exact List.append_nil _
  have hnn : noI Kd (idx + 1) = noI Kd idx := by
    show noI Kd idx + _ = _
    rw [if_neg (by rw [hk]; decide)]
    exact Nat.add_zero _
  have hck : ck1 f g idx (ckS f g rows idx) = ckTold g idx 0 (ckS f g rows idx) := by
    rw [ck1_k hf hN hi2, if_pos hk]
    rw [hb]
    rfl
  have hce : ckE f g rows idx = if (ixL ((nmI Kd 0 idx).map g) (g idx) 0) < 0 then 3 else 0 := by
    unfold ckE
    rw [hck]
    unfold ckTold
    rw [hLL 0 (by decide)]
  have hmn : mnF f g rows idx = ixL ((nmI Kd 0 idx).map g) (g idx) 0 := by
    show rG (ck1 f g idx (ckS f g rows idx)).2.2.2 (nI idx) 1 = _
    rw [hck]
    show rG (rS (ckS f g rows idx).2.2 (nI idx) 1 (ixL ((ckS f g rows idx).1 0) (g idx) 0)) (nI idx) 1 = _
    rw [hLL 0 (by decide), rS_nI (by omega), rG_nI (by omega), tg_tS hrw2 (by omega) (by decide), if_pos ⟨rfl, rfl⟩]
  have hza : zA f g rows Kd nv Cb (idx + 1) = uA (zA f g rows Kd nv Cb idx) 9 (upd (zA f g rows Kd nv Cb idx 9) (noI Kd idx - 1) (mnF f g rows idx)) := by
    show zStep f g rows Kd nv idx (zA f g rows Kd nv Cb idx) = _
    unfold zStep
    rw [hrof]
    rfl
  obtain ⟨ko, ko1, ko2⟩ := hT.2.2.2 (by rw [hrof]; decide)
  have hno1 := noI_pos ko2 idx ko1
  refine bg_in rfl rfl ?_
  refine bg_aload0 rfl ?_
  refine bg_getfield rfl rfl hM.Y (by rfl) ?_
  refine bg_astore2 rfl rfl ?_
  refine bg_iconst rfl ?_
  refine bg_istore3 rfl rfl ?_
  refine bg_aload0 rfl ?_
  refine bg_getfield rfl rfl hM.Y (by rfl) ?_
  refine bg_iload1 rfl ?_
  refine bg_iaload_n rfl hM.f3 (by decide) (by omega) ?_
  rw [hrl]
  refine bg_tsw rfl ?_
  refine bk_sw_c (fun e13_1 => absurd e13_1 (by decide)) (fun n13_1 => ?_)
  refine bk_sw_c (fun e13_2 => absurd e13_2 (by decide)) (fun n13_2 => ?_)
  refine bk_sw_c (fun e13_3 => absurd e13_3 (by decide)) (fun n13_3 => ?_)
  refine bk_sw_c (fun e13_4 => absurd e13_4 (by decide)) (fun n13_4 => ?_)
  refine bk_sw_c (fun e13_5 => absurd e13_5 (by decide)) (fun n13_5 => ?_)
  refine bk_sw_c (fun e13_6 => absurd e13_6 (by decide)) (fun n13_6 => ?_)
  refine bk_sw_c (fun e13_7 => absurd e13_7 (by decide)) (fun n13_7 => ?_)
  refine bk_sw_c (fun e13_8 => absurd e13_8 (by decide)) (fun n13_8 => ?_)
  refine bk_sw_c (fun e13_9 => absurd e13_9 (by decide)) (fun n13_9 => ?_)
  refine bk_sw_c (fun e13_10 => absurd e13_10 (by decide)) (fun n13_10 => ?_)
  refine bk_sw_c (fun e13_11 => absurd e13_11 (by decide)) (fun n13_11 => ?_)
  refine bk_sw_c (fun e13_12 => absurd e13_12 (by decide)) (fun n13_12 => ?_)
  refine bk_sw_c (fun e13_13 => absurd e13_13 (by decide)) (fun n13_13 => ?_)
  refine bk_sw_c (fun e13_14 => absurd e13_14 (by decide)) (fun n13_14 => ?_)
  refine bk_sw_c (fun e13_15 => absurd e13_15 (by decide)) (fun n13_15 => ?_)
  refine bk_sw_c (fun e13_16 => absurd e13_16 (by decide)) (fun n13_16 => ?_)
  refine bk_sw_c (fun e13_17 => absurd e13_17 (by decide)) (fun n13_17 => ?_)
  refine bk_sw_c (fun e13_18 => ?_) (fun n13_18 => absurd rfl n13_18)
  refine bg_aload0 rfl ?_
  refine bg_iload1 rfl ?_
  refine bg_virt1 rfl rfl rfl rfl ⟨_, hM.Y⟩ ?_
  refine mt_orderWhere (m := 0) rfl hM z4 hno1 hno24 (by decide) hF1 hF2 hm hN hi2 hk hF3 (fun h1 hM => bk_Ki ?_)
  refine bg_iret rfl rfl (by rfl) ?_
  rw [← hce]
  exact hQ _ _ _ _ hM ⟨rfl, rfl, rfl⟩ (fun _ => ZH_s hZ rfl (fun k hk2 => if_neg hk2) (fun _ => (if_pos rfl).trans hmn.symm) (fun m hm3 => by rw [hnm m hm3]; exact z3 m hm3) (by rw [hnn]; exact z4) (fun j _ => rfl) (fun j hj => by rw [hza, hmn]; exact uA_cg z6 (by decide) j hj) (fun j hj => if_neg (by omega)))
theorem mt_err15 (hf : ∀ i, i < N → f i = Kd i) (hN : N ≤ 401) (hE : E ≤ N) (hi : idx < E) (hok : ∀ j, j < idx → ckE f g rows j = 0) (hT : OKT Kd idx) (hw : ∀ q ∈ rows, q.length = 2) (hl : rows.length = N) (hF1 : F 1 = Fx 1) (hF2 : F 2 = Fx 2) (hm : NMk Fx Kd N T g) (hV : NVk Fx Kd N T nv) (hnv : Kd idx = 31 → rG rows (nI idx) 1 = nv idx) (hM : MT h0 h y u v T P S K C J F K2 C2) (hZ : ZH f g rows Kd nv Cb E Kz Cz idx F K2 C2) (hk : Kd idx = 30) (hb : pvF Kd idx = 13) (hQ : ∀ (h' : bk_H) (F' : rA) (K2' : rI) (C2' : rA), MT h0 h' y u v T P S K C J F' K2' C2' → (F' 0 = F 0 ∧ F' 1 = F 1 ∧ F' 2 = F 2) → (ckE f g rows idx = 0 → ZH f g rows Kd nv Cb E Kz Cz (idx + 1) F' K2' C2') → Q (.inl (some (.int (ckE f g rows idx)))) h' n) : bk_wp V (D + 6) 192 [.ref y, .int (nI idx)] h n B Q := by
  have hrof : rof Kd idx = 15 := by
    unfold rof roF
    rw [hk, hb]
    rfl
  obtain ⟨z1, z2, z3, z4, z5, z6, z7⟩ := id hZ
  have hi2 : idx < N := by omega
  have hrl : F 3 idx = 15 := (z1 idx hi).trans hrof
  have hF3 : ∀ k, k ≤ idx → F 3 k = rof Kd k := fun k hk => z1 k (by omega)
  have hLL := ckS_L (f := f) (g := g) (rows := rows) hf hN hok (show idx ≤ N by omega)
  have hlen := ckS_len (f := f) (g := g) (rows := rows) hf hN idx (by omega) hok
  obtain ⟨hno, hno24⟩ := ckS_n (f := f) (g := g) (rows := rows) hf hN idx (by omega) hok
  obtain ⟨hrw1, hrw2, hrw3⟩ := ckS_rows (f := f) (g := g) (rows := rows) hw (by omega) idx (by omega)
  have hnm : ∀ m, m < 3 → nmI Kd m (idx + 1) = nmI Kd m idx := fun m hm => by
    have : ¬ rof Kd idx = nI (m + 1) := by
      rw [hrof]
      have m3 : m = 0 ∨ m = 1 ∨ m = 2 := by omega
      rcases m3 with rfl | rfl | rfl <;> decide
    rw [nmI_s, if_neg this]
    exact List.append_nil _
  have hnn : noI Kd (idx + 1) = noI Kd idx := by
    show noI Kd idx + _ = _
    rw [if_neg (by rw [hk]; decide)]
    exact Nat.add_zero _
  have hck : ck1 f g idx (ckS f g rows idx) = ckTold g idx 1 (ckS f g rows idx) := by
    rw [ck1_k hf hN hi2, if_pos hk]
    rw [hb]
    rfl
  have hce : ckE f g rows idx = if (ixL ((nmI Kd 1 idx).map g) (g idx) 0) < 0 then 3 else 0 := by
    unfold ckE
    rw [hck]
    unfold ckTold
    rw [hLL 1 (by decide)]
  have hmn : mnF f g rows idx = ixL ((nmI Kd 1 idx).map g) (g idx) 0 := by
    show rG (ck1 f g idx (ckS f g rows idx)).2.2.2 (nI idx) 1 = _
    rw [hck]
    show rG (rS (ckS f g rows idx).2.2 (nI idx) 1 (ixL ((ckS f g rows idx).1 1) (g idx) 0)) (nI idx) 1 = _
    rw [hLL 1 (by decide), rS_nI (by omega), rG_nI (by omega), tg_tS hrw2 (by omega) (by decide), if_pos ⟨rfl, rfl⟩]
  have hza : zA f g rows Kd nv Cb (idx + 1) = uA (zA f g rows Kd nv Cb idx) 8 (upd (zA f g rows Kd nv Cb idx 8) (noI Kd idx - 1) (mnF f g rows idx)) := by
    show zStep f g rows Kd nv idx (zA f g rows Kd nv Cb idx) = _
    unfold zStep
    rw [hrof]
    rfl
  obtain ⟨ko, ko1, ko2⟩ := hT.2.2.2 (by rw [hrof]; decide)
  have hno1 := noI_pos ko2 idx ko1
  refine bg_in rfl rfl ?_
  refine bg_aload0 rfl ?_
  refine bg_getfield rfl rfl hM.Y (by rfl) ?_
  refine bg_astore2 rfl rfl ?_
  refine bg_iconst rfl ?_
  refine bg_istore3 rfl rfl ?_
  refine bg_aload0 rfl ?_
  refine bg_getfield rfl rfl hM.Y (by rfl) ?_
  refine bg_iload1 rfl ?_
  refine bg_iaload_n rfl hM.f3 (by decide) (by omega) ?_
  rw [hrl]
  refine bg_tsw rfl ?_
  refine bk_sw_c (fun e13_1 => absurd e13_1 (by decide)) (fun n13_1 => ?_)
  refine bk_sw_c (fun e13_2 => absurd e13_2 (by decide)) (fun n13_2 => ?_)
  refine bk_sw_c (fun e13_3 => absurd e13_3 (by decide)) (fun n13_3 => ?_)
  refine bk_sw_c (fun e13_4 => absurd e13_4 (by decide)) (fun n13_4 => ?_)
  refine bk_sw_c (fun e13_5 => absurd e13_5 (by decide)) (fun n13_5 => ?_)
  refine bk_sw_c (fun e13_6 => absurd e13_6 (by decide)) (fun n13_6 => ?_)
  refine bk_sw_c (fun e13_7 => absurd e13_7 (by decide)) (fun n13_7 => ?_)
  refine bk_sw_c (fun e13_8 => absurd e13_8 (by decide)) (fun n13_8 => ?_)
  refine bk_sw_c (fun e13_9 => absurd e13_9 (by decide)) (fun n13_9 => ?_)
  refine bk_sw_c (fun e13_10 => absurd e13_10 (by decide)) (fun n13_10 => ?_)
  refine bk_sw_c (fun e13_11 => absurd e13_11 (by decide)) (fun n13_11 => ?_)
  refine bk_sw_c (fun e13_12 => absurd e13_12 (by decide)) (fun n13_12 => ?_)
  refine bk_sw_c (fun e13_13 => absurd e13_13 (by decide)) (fun n13_13 => ?_)
  refine bk_sw_c (fun e13_14 => absurd e13_14 (by decide)) (fun n13_14 => ?_)
  refine bk_sw_c (fun e13_15 => ?_) (fun n13_15 => absurd rfl n13_15)
  refine bg_aload0 rfl ?_
  refine bg_iload1 rfl ?_
  refine bg_iconst rfl ?_
  refine bg_virt2 rfl rfl rfl rfl ⟨_, hM.Y⟩ ?_
  refine mt_orderWho (m := 1) rfl hM z4 hno1 hno24 (by decide) hF1 hF2 hm hN hi2 hk hF3 (fun h1 hM => bk_Ki ?_)
  refine bg_iret rfl rfl (by rfl) ?_
  rw [← hce]
  exact hQ _ _ _ _ hM ⟨rfl, rfl, rfl⟩ (fun _ => ZH_s hZ rfl (fun k hk2 => if_neg hk2) (fun _ => (if_pos rfl).trans hmn.symm) (fun m hm3 => by rw [hnm m hm3]; exact z3 m hm3) (by rw [hnn]; exact z4) (fun j _ => rfl) (fun j hj => by rw [hza, hmn]; exact uA_cg z6 (by decide) j hj) (fun j hj => if_neg (by omega)))
theorem mt_err17 (hf : ∀ i, i < N → f i = Kd i) (hN : N ≤ 401) (hE : E ≤ N) (hi : idx < E) (hok : ∀ j, j < idx → ckE f g rows j = 0) (hT : OKT Kd idx) (hw : ∀ q ∈ rows, q.length = 2) (hl : rows.length = N) (hF1 : F 1 = Fx 1) (hF2 : F 2 = Fx 2) (hm : NMk Fx Kd N T g) (hV : NVk Fx Kd N T nv) (hnv : Kd idx = 31 → rG rows (nI idx) 1 = nv idx) (hM : MT h0 h y u v T P S K C J F K2 C2) (hZ : ZH f g rows Kd nv Cb E Kz Cz idx F K2 C2) (hk : Kd idx = 30) (hb : pvF Kd idx = 15) (hQ : ∀ (h' : bk_H) (F' : rA) (K2' : rI) (C2' : rA), MT h0 h' y u v T P S K C J F' K2' C2' → (F' 0 = F 0 ∧ F' 1 = F 1 ∧ F' 2 = F 2) → (ckE f g rows idx = 0 → ZH f g rows Kd nv Cb E Kz Cz (idx + 1) F' K2' C2') → Q (.inl (some (.int (ckE f g rows idx)))) h' n) : bk_wp V (D + 6) 192 [.ref y, .int (nI idx)] h n B Q := by
  have hrof : rof Kd idx = 17 := by
    unfold rof roF
    rw [hk, hb]
    rfl
  obtain ⟨z1, z2, z3, z4, z5, z6, z7⟩ := id hZ
  have hi2 : idx < N := by omega
  have hrl : F 3 idx = 17 := (z1 idx hi).trans hrof
  have hF3 : ∀ k, k ≤ idx → F 3 k = rof Kd k := fun k hk => z1 k (by omega)
  have hLL := ckS_L (f := f) (g := g) (rows := rows) hf hN hok (show idx ≤ N by omega)
  have hlen := ckS_len (f := f) (g := g) (rows := rows) hf hN idx (by omega) hok
  obtain ⟨hno, hno24⟩ := ckS_n (f := f) (g := g) (rows := rows) hf hN idx (by omega) hok
  obtain ⟨hrw1, hrw2, hrw3⟩ := ckS_rows (f := f) (g := g) (rows := rows) hw (by omega) idx (by omega)
  have hnm : ∀ m, m < 3 → nmI Kd m (idx + 1) = nmI Kd m idx := fun m hm => by
    have : ¬ rof Kd idx = nI (m + 1) := by
      rw [hrof]
      have m3 : m = 0 ∨ m = 1 ∨ m = 2 := by omega
      rcases m3 with rfl | rfl | rfl <;> decide
    rw [nmI_s, if_neg this]
    exact List.append_nil _
  have hnn : noI Kd (idx + 1) = noI Kd idx := by
    show noI Kd idx + _ = _
    rw [if_neg (by rw [hk]; decide)]
    exact Nat.add_zero _
  have hck : ck1 f g idx (ckS f g rows idx) = ckTold g idx 2 (ckS f g rows idx) := by
    rw [ck1_k hf hN hi2, if_pos hk]
    rw [hb]
    rfl
  have hce : ckE f g rows idx = if (ixL ((nmI Kd 2 idx).map g) (g idx) 0) < 0 then 3 else 0 := by
    unfold ckE
    rw [hck]
    unfold ckTold
    rw [hLL 2 (by decide)]
  have hmn : mnF f g rows idx = ixL ((nmI Kd 2 idx).map g) (g idx) 0 := by
    show rG (ck1 f g idx (ckS f g rows idx)).2.2.2 (nI idx) 1 = _
    rw [hck]
    show rG (rS (ckS f g rows idx).2.2 (nI idx) 1 (ixL ((ckS f g rows idx).1 2) (g idx) 0)) (nI idx) 1 = _
    rw [hLL 2 (by decide), rS_nI (by omega), rG_nI (by omega), tg_tS hrw2 (by omega) (by decide), if_pos ⟨rfl, rfl⟩]
  have hza : zA f g rows Kd nv Cb (idx + 1) = uA (zA f g rows Kd nv Cb idx) 8 (upd (zA f g rows Kd nv Cb idx 8) (noI Kd idx - 1) (mnF f g rows idx)) := by
    show zStep f g rows Kd nv idx (zA f g rows Kd nv Cb idx) = _
    unfold zStep
    rw [hrof]
    rfl
  obtain ⟨ko, ko1, ko2⟩ := hT.2.2.2 (by rw [hrof]; decide)
  have hno1 := noI_pos ko2 idx ko1
  refine bg_in rfl rfl ?_
  refine bg_aload0 rfl ?_
  refine bg_getfield rfl rfl hM.Y (by rfl) ?_
  refine bg_astore2 rfl rfl ?_
  refine bg_iconst rfl ?_
  refine bg_istore3 rfl rfl ?_
  refine bg_aload0 rfl ?_
  refine bg_getfield rfl rfl hM.Y (by rfl) ?_
  refine bg_iload1 rfl ?_
  refine bg_iaload_n rfl hM.f3 (by decide) (by omega) ?_
  rw [hrl]
  refine bg_tsw rfl ?_
  refine bk_sw_c (fun e13_1 => absurd e13_1 (by decide)) (fun n13_1 => ?_)
  refine bk_sw_c (fun e13_2 => absurd e13_2 (by decide)) (fun n13_2 => ?_)
  refine bk_sw_c (fun e13_3 => absurd e13_3 (by decide)) (fun n13_3 => ?_)
  refine bk_sw_c (fun e13_4 => absurd e13_4 (by decide)) (fun n13_4 => ?_)
  refine bk_sw_c (fun e13_5 => absurd e13_5 (by decide)) (fun n13_5 => ?_)
  refine bk_sw_c (fun e13_6 => absurd e13_6 (by decide)) (fun n13_6 => ?_)
  refine bk_sw_c (fun e13_7 => absurd e13_7 (by decide)) (fun n13_7 => ?_)
  refine bk_sw_c (fun e13_8 => absurd e13_8 (by decide)) (fun n13_8 => ?_)
  refine bk_sw_c (fun e13_9 => absurd e13_9 (by decide)) (fun n13_9 => ?_)
  refine bk_sw_c (fun e13_10 => absurd e13_10 (by decide)) (fun n13_10 => ?_)
  refine bk_sw_c (fun e13_11 => absurd e13_11 (by decide)) (fun n13_11 => ?_)
  refine bk_sw_c (fun e13_12 => absurd e13_12 (by decide)) (fun n13_12 => ?_)
  refine bk_sw_c (fun e13_13 => absurd e13_13 (by decide)) (fun n13_13 => ?_)
  refine bk_sw_c (fun e13_14 => absurd e13_14 (by decide)) (fun n13_14 => ?_)
  refine bk_sw_c (fun e13_15 => absurd e13_15 (by decide)) (fun n13_15 => ?_)
  refine bk_sw_c (fun e13_16 => absurd e13_16 (by decide)) (fun n13_16 => ?_)
  refine bk_sw_c (fun e13_17 => ?_) (fun n13_17 => absurd rfl n13_17)
  refine bg_aload0 rfl ?_
  refine bg_iload1 rfl ?_
  refine bg_iconst rfl ?_
  refine bg_virt2 rfl rfl rfl rfl ⟨_, hM.Y⟩ ?_
  refine mt_orderWho (m := 2) rfl hM z4 hno1 hno24 (by decide) hF1 hF2 hm hN hi2 hk hF3 (fun h1 hM => bk_Ki ?_)
  refine bg_iret rfl rfl (by rfl) ?_
  rw [← hce]
  exact hQ _ _ _ _ hM ⟨rfl, rfl, rfl⟩ (fun _ => ZH_s hZ rfl (fun k hk2 => if_neg hk2) (fun _ => (if_pos rfl).trans hmn.symm) (fun m hm3 => by rw [hnm m hm3]; exact z3 m hm3) (by rw [hnn]; exact z4) (fun j _ => rfl) (fun j hj => by rw [hza, hmn]; exact uA_cg z6 (by decide) j hj) (fun j hj => if_neg (by omega)))
theorem mt_err20 (hf : ∀ i, i < N → f i = Kd i) (hN : N ≤ 401) (hE : E ≤ N) (hi : idx < E) (hok : ∀ j, j < idx → ckE f g rows j = 0) (hT : OKT Kd idx) (hw : ∀ q ∈ rows, q.length = 2) (hl : rows.length = N) (hF1 : F 1 = Fx 1) (hF2 : F 2 = Fx 2) (hm : NMk Fx Kd N T g) (hV : NVk Fx Kd N T nv) (hnv : Kd idx = 31 → rG rows (nI idx) 1 = nv idx) (hM : MT h0 h y u v T P S K C J F K2 C2) (hZ : ZH f g rows Kd nv Cb E Kz Cz idx F K2 C2) (hk : Kd idx = 30) (hb : pvF Kd idx = 22) (hQ : ∀ (h' : bk_H) (F' : rA) (K2' : rI) (C2' : rA), MT h0 h' y u v T P S K C J F' K2' C2' → (F' 0 = F 0 ∧ F' 1 = F 1 ∧ F' 2 = F 2) → (ckE f g rows idx = 0 → ZH f g rows Kd nv Cb E Kz Cz (idx + 1) F' K2' C2') → Q (.inl (some (.int (ckE f g rows idx)))) h' n) : bk_wp V (D + 6) 192 [.ref y, .int (nI idx)] h n B Q := by
  have hrof : rof Kd idx = 20 := by
    unfold rof roF
    rw [hk, hb]
    rfl
  obtain ⟨z1, z2, z3, z4, z5, z6, z7⟩ := id hZ
  have hi2 : idx < N := by omega
  have hrl : F 3 idx = 20 := (z1 idx hi).trans hrof
  have hF3 : ∀ k, k ≤ idx → F 3 k = rof Kd k := fun k hk => z1 k (by omega)
  have hLL := ckS_L (f := f) (g := g) (rows := rows) hf hN hok (show idx ≤ N by omega)
  have hlen := ckS_len (f := f) (g := g) (rows := rows) hf hN idx (by omega) hok
  obtain ⟨hno, hno24⟩ := ckS_n (f := f) (g := g) (rows := rows) hf hN idx (by omega) hok
  obtain ⟨hrw1, hrw2, hrw3⟩ := ckS_rows (f := f) (g := g) (rows := rows) hw (by omega) idx (by omega)
  have hnm : ∀ m, m < 3 → nmI Kd m (idx + 1) = nmI Kd m idx := fun m hm => by
    have : ¬ rof Kd idx = nI (m + 1) := by
      rw [hrof]
      have m3 : m = 0 ∨ m = 1 ∨ m = 2 := by omega
      rcases m3 with rfl | rfl | rfl <;> decide
    rw [nmI_s, if_neg this]
    exact List.append_nil _
  have hnn : noI Kd (idx + 1) = noI Kd idx := by
    show noI Kd idx + _ = _
    rw [if_neg (by rw [hk]; decide)]
    exact Nat.add_zero _
  have hck : ck1 f g idx (ckS f g rows idx) = ckTold g idx 2 (ckS f g rows idx) := by
    rw [ck1_k hf hN hi2, if_pos hk]
    rw [hb]
    rfl
  have hce : ckE f g rows idx = if (ixL ((nmI Kd 2 idx).map g) (g idx) 0) < 0 then 3 else 0 := by
    unfold ckE
    rw [hck]
    unfold ckTold
    rw [hLL 2 (by decide)]
  have hmn : mnF f g rows idx = ixL ((nmI Kd 2 idx).map g) (g idx) 0 := by
    show rG (ck1 f g idx (ckS f g rows idx)).2.2.2 (nI idx) 1 = _
    rw [hck]
    show rG (rS (ckS f g rows idx).2.2 (nI idx) 1 (ixL ((ckS f g rows idx).1 2) (g idx) 0)) (nI idx) 1 = _
    rw [hLL 2 (by decide), rS_nI (by omega), rG_nI (by omega), tg_tS hrw2 (by omega) (by decide), if_pos ⟨rfl, rfl⟩]
  have hza : zA f g rows Kd nv Cb (idx + 1) = zA f g rows Kd nv Cb idx := by
    show zStep f g rows Kd nv idx (zA f g rows Kd nv Cb idx) = _
    unfold zStep
    rw [hrof]
    rfl
  refine bg_in rfl rfl ?_
  refine bg_aload0 rfl ?_
  refine bg_getfield rfl rfl hM.Y (by rfl) ?_
  refine bg_astore2 rfl rfl ?_
  refine bg_iconst rfl ?_
  refine bg_istore3 rfl rfl ?_
  refine bg_aload0 rfl ?_
  refine bg_getfield rfl rfl hM.Y (by rfl) ?_
  refine bg_iload1 rfl ?_
  refine bg_iaload_n rfl hM.f3 (by decide) (by omega) ?_
  rw [hrl]
  refine bg_tsw rfl ?_
  refine bk_sw_c (fun e13_1 => absurd e13_1 (by decide)) (fun n13_1 => ?_)
  refine bk_sw_c (fun e13_2 => absurd e13_2 (by decide)) (fun n13_2 => ?_)
  refine bk_sw_c (fun e13_3 => absurd e13_3 (by decide)) (fun n13_3 => ?_)
  refine bk_sw_c (fun e13_4 => absurd e13_4 (by decide)) (fun n13_4 => ?_)
  refine bk_sw_c (fun e13_5 => absurd e13_5 (by decide)) (fun n13_5 => ?_)
  refine bk_sw_c (fun e13_6 => absurd e13_6 (by decide)) (fun n13_6 => ?_)
  refine bk_sw_c (fun e13_7 => absurd e13_7 (by decide)) (fun n13_7 => ?_)
  refine bk_sw_c (fun e13_8 => absurd e13_8 (by decide)) (fun n13_8 => ?_)
  refine bk_sw_c (fun e13_9 => absurd e13_9 (by decide)) (fun n13_9 => ?_)
  refine bk_sw_c (fun e13_10 => absurd e13_10 (by decide)) (fun n13_10 => ?_)
  refine bk_sw_c (fun e13_11 => absurd e13_11 (by decide)) (fun n13_11 => ?_)
  refine bk_sw_c (fun e13_12 => absurd e13_12 (by decide)) (fun n13_12 => ?_)
  refine bk_sw_c (fun e13_13 => absurd e13_13 (by decide)) (fun n13_13 => ?_)
  refine bk_sw_c (fun e13_14 => absurd e13_14 (by decide)) (fun n13_14 => ?_)
  refine bk_sw_c (fun e13_15 => absurd e13_15 (by decide)) (fun n13_15 => ?_)
  refine bk_sw_c (fun e13_16 => absurd e13_16 (by decide)) (fun n13_16 => ?_)
  refine bk_sw_c (fun e13_17 => absurd e13_17 (by decide)) (fun n13_17 => ?_)
  refine bk_sw_c (fun e13_18 => absurd e13_18 (by decide)) (fun n13_18 => ?_)
  refine bk_sw_c (fun e13_19 => absurd e13_19 (by decide)) (fun n13_19 => ?_)
  refine bk_sw_c (fun e13_20 => ?_) (fun n13_20 => absurd rfl n13_20)
  refine bg_aload0 rfl ?_
  refine bg_iload1 rfl ?_
  refine bg_iconst rfl ?_
  refine bg_virt2 rfl rfl rfl rfl ⟨_, hM.Y⟩ ?_
  refine mt_look (m := 2) rfl hM (by decide) hF1 hF2 hm hN hi2 hk hF3 (fun h1 hM => bk_Ki ?_)
  refine bg_iret rfl rfl (by rfl) ?_
  rw [← hce]
  exact hQ _ _ _ _ hM ⟨rfl, rfl, rfl⟩ (fun _ => ZH_s hZ rfl (fun k hk2 => if_neg hk2) (fun _ => (if_pos rfl).trans hmn.symm) (fun m hm3 => by rw [hnm m hm3]; exact z3 m hm3) (by rw [hnn]; exact z4) (fun j _ => rfl) (fun j hj => by rw [hza]; exact z6 j hj) (fun j _ => rfl))
theorem mt_err19 (hf : ∀ i, i < N → f i = Kd i) (hN : N ≤ 401) (hE : E ≤ N) (hi : idx < E) (hok : ∀ j, j < idx → ckE f g rows j = 0) (hT : OKT Kd idx) (hw : ∀ q ∈ rows, q.length = 2) (hl : rows.length = N) (hF1 : F 1 = Fx 1) (hF2 : F 2 = Fx 2) (hm : NMk Fx Kd N T g) (hV : NVk Fx Kd N T nv) (hnv : Kd idx = 31 → rG rows (nI idx) 1 = nv idx) (hM : MT h0 h y u v T P S K C J F K2 C2) (hZ : ZH f g rows Kd nv Cb E Kz Cz idx F K2 C2) (hk : Kd idx = 30) (n1 : ¬ pvF Kd idx = 1) (n4 : ¬ pvF Kd idx = 4) (n7 : ¬ pvF Kd idx = 7) (n11 : ¬ pvF Kd idx = 11) (n13 : ¬ pvF Kd idx = 13) (n14 : ¬ pvF Kd idx = 14) (n15 : ¬ pvF Kd idx = 15) (n16 : ¬ pvF Kd idx = 16) (n22 : ¬ pvF Kd idx = 22) (hQ : ∀ (h' : bk_H) (F' : rA) (K2' : rI) (C2' : rA), MT h0 h' y u v T P S K C J F' K2' C2' → (F' 0 = F 0 ∧ F' 1 = F 1 ∧ F' 2 = F 2) → (ckE f g rows idx = 0 → ZH f g rows Kd nv Cb E Kz Cz (idx + 1) F' K2' C2') → Q (.inl (some (.int (ckE f g rows idx)))) h' n) : bk_wp V (D + 6) 192 [.ref y, .int (nI idx)] h n B Q := by
  have hrof : rof Kd idx = 19 := by
    unfold rof roF
    rw [hk, if_pos rfl, if_neg n1, if_neg n4, if_neg n7, if_neg n11, if_neg n13, if_neg n14, if_neg n15, if_neg n16, if_neg n22]
  obtain ⟨z1, z2, z3, z4, z5, z6, z7⟩ := id hZ
  have hi2 : idx < N := by omega
  have hrl : F 3 idx = 19 := (z1 idx hi).trans hrof
  have hF3 : ∀ k, k ≤ idx → F 3 k = rof Kd k := fun k hk => z1 k (by omega)
  have hLL := ckS_L (f := f) (g := g) (rows := rows) hf hN hok (show idx ≤ N by omega)
  have hlen := ckS_len (f := f) (g := g) (rows := rows) hf hN idx (by omega) hok
  obtain ⟨hno, hno24⟩ := ckS_n (f := f) (g := g) (rows := rows) hf hN idx (by omega) hok
  obtain ⟨hrw1, hrw2, hrw3⟩ := ckS_rows (f := f) (g := g) (rows := rows) hw (by omega) idx (by omega)
  have hnm : ∀ m, m < 3 → nmI Kd m (idx + 1) = nmI Kd m idx := fun m hm => by
    have : ¬ rof Kd idx = nI (m + 1) := by
      rw [hrof]
      have m3 : m = 0 ∨ m = 1 ∨ m = 2 := by omega
      rcases m3 with rfl | rfl | rfl <;> decide
    rw [nmI_s, if_neg this]
    exact List.append_nil _
  have hnn : noI Kd (idx + 1) = noI Kd idx := by
    show noI Kd idx + _ = _
    rw [if_neg (by rw [hk]; decide)]
    exact Nat.add_zero _
  have hck : ck1 f g idx (ckS f g rows idx) = ckTold g idx 0 (ckS f g rows idx) := by
    rw [ck1_k hf hN hi2, if_pos hk]
    unfold ckName
    rw [if_neg n1, if_neg n4, if_neg n7, if_neg n13, if_neg n15, if_neg n22]
  have hce : ckE f g rows idx = if (ixL ((nmI Kd 0 idx).map g) (g idx) 0) < 0 then 3 else 0 := by
    unfold ckE
    rw [hck]
    unfold ckTold
    rw [hLL 0 (by decide)]
  have hmn : mnF f g rows idx = ixL ((nmI Kd 0 idx).map g) (g idx) 0 := by
    show rG (ck1 f g idx (ckS f g rows idx)).2.2.2 (nI idx) 1 = _
    rw [hck]
    show rG (rS (ckS f g rows idx).2.2 (nI idx) 1 (ixL ((ckS f g rows idx).1 0) (g idx) 0)) (nI idx) 1 = _
    rw [hLL 0 (by decide), rS_nI (by omega), rG_nI (by omega), tg_tS hrw2 (by omega) (by decide), if_pos ⟨rfl, rfl⟩]
  have hza : zA f g rows Kd nv Cb (idx + 1) = zA f g rows Kd nv Cb idx := by
    show zStep f g rows Kd nv idx (zA f g rows Kd nv Cb idx) = _
    unfold zStep
    rw [hrof]
    rfl
  refine bg_in rfl rfl ?_
  refine bg_aload0 rfl ?_
  refine bg_getfield rfl rfl hM.Y (by rfl) ?_
  refine bg_astore2 rfl rfl ?_
  refine bg_iconst rfl ?_
  refine bg_istore3 rfl rfl ?_
  refine bg_aload0 rfl ?_
  refine bg_getfield rfl rfl hM.Y (by rfl) ?_
  refine bg_iload1 rfl ?_
  refine bg_iaload_n rfl hM.f3 (by decide) (by omega) ?_
  rw [hrl]
  refine bg_tsw rfl ?_
  refine bk_sw_c (fun e13_1 => absurd e13_1 (by decide)) (fun n13_1 => ?_)
  refine bk_sw_c (fun e13_2 => absurd e13_2 (by decide)) (fun n13_2 => ?_)
  refine bk_sw_c (fun e13_3 => absurd e13_3 (by decide)) (fun n13_3 => ?_)
  refine bk_sw_c (fun e13_4 => absurd e13_4 (by decide)) (fun n13_4 => ?_)
  refine bk_sw_c (fun e13_5 => absurd e13_5 (by decide)) (fun n13_5 => ?_)
  refine bk_sw_c (fun e13_6 => absurd e13_6 (by decide)) (fun n13_6 => ?_)
  refine bk_sw_c (fun e13_7 => absurd e13_7 (by decide)) (fun n13_7 => ?_)
  refine bk_sw_c (fun e13_8 => absurd e13_8 (by decide)) (fun n13_8 => ?_)
  refine bk_sw_c (fun e13_9 => absurd e13_9 (by decide)) (fun n13_9 => ?_)
  refine bk_sw_c (fun e13_10 => absurd e13_10 (by decide)) (fun n13_10 => ?_)
  refine bk_sw_c (fun e13_11 => absurd e13_11 (by decide)) (fun n13_11 => ?_)
  refine bk_sw_c (fun e13_12 => absurd e13_12 (by decide)) (fun n13_12 => ?_)
  refine bk_sw_c (fun e13_13 => absurd e13_13 (by decide)) (fun n13_13 => ?_)
  refine bk_sw_c (fun e13_14 => absurd e13_14 (by decide)) (fun n13_14 => ?_)
  refine bk_sw_c (fun e13_15 => absurd e13_15 (by decide)) (fun n13_15 => ?_)
  refine bk_sw_c (fun e13_16 => absurd e13_16 (by decide)) (fun n13_16 => ?_)
  refine bk_sw_c (fun e13_17 => absurd e13_17 (by decide)) (fun n13_17 => ?_)
  refine bk_sw_c (fun e13_18 => absurd e13_18 (by decide)) (fun n13_18 => ?_)
  refine bk_sw_c (fun e13_19 => ?_) (fun n13_19 => absurd rfl n13_19)
  refine bg_aload0 rfl ?_
  refine bg_iload1 rfl ?_
  refine bg_iconst rfl ?_
  refine bg_virt2 rfl rfl rfl rfl ⟨_, hM.Y⟩ ?_
  refine mt_look (m := 0) rfl hM (by decide) hF1 hF2 hm hN hi2 hk hF3 (fun h1 hM => bk_Ki ?_)
  refine bg_iret rfl rfl (by rfl) ?_
  rw [← hce]
  exact hQ _ _ _ _ hM ⟨rfl, rfl, rfl⟩ (fun _ => ZH_s hZ rfl (fun k hk2 => if_neg hk2) (fun _ => (if_pos rfl).trans hmn.symm) (fun m hm3 => by rw [hnm m hm3]; exact z3 m hm3) (by rw [hnn]; exact z4) (fun j _ => rfl) (fun j hj => by rw [hza]; exact z6 j hj) (fun j _ => rfl))
theorem mt_err7 (hf : ∀ i, i < N → f i = Kd i) (hN : N ≤ 401) (hE : E ≤ N) (hi : idx < E) (hok : ∀ j, j < idx → ckE f g rows j = 0) (hT : OKT Kd idx) (hw : ∀ q ∈ rows, q.length = 2) (hl : rows.length = N) (hF1 : F 1 = Fx 1) (hF2 : F 2 = Fx 2) (hm : NMk Fx Kd N T g) (hV : NVk Fx Kd N T nv) (hnv : Kd idx = 31 → rG rows (nI idx) 1 = nv idx) (hM : MT h0 h y u v T P S K C J F K2 C2) (hZ : ZH f g rows Kd nv Cb E Kz Cz idx F K2 C2) (hk : Kd idx = 31) (hb : pvF Kd idx = 2) (hQ : ∀ (h' : bk_H) (F' : rA) (K2' : rI) (C2' : rA), MT h0 h' y u v T P S K C J F' K2' C2' → (F' 0 = F 0 ∧ F' 1 = F 1 ∧ F' 2 = F 2) → (ckE f g rows idx = 0 → ZH f g rows Kd nv Cb E Kz Cz (idx + 1) F' K2' C2') → Q (.inl (some (.int (ckE f g rows idx)))) h' n) : bk_wp V (D + 6) 192 [.ref y, .int (nI idx)] h n B Q := by
  have hrof : rof Kd idx = 7 := by
    unfold rof roF
    rw [hk, hb]
    rfl
  obtain ⟨z1, z2, z3, z4, z5, z6, z7⟩ := id hZ
  have hi2 : idx < N := by omega
  have hrl : F 3 idx = 7 := (z1 idx hi).trans hrof
  have hF3 : ∀ k, k ≤ idx → F 3 k = rof Kd k := fun k hk => z1 k (by omega)
  have hLL := ckS_L (f := f) (g := g) (rows := rows) hf hN hok (show idx ≤ N by omega)
  have hlen := ckS_len (f := f) (g := g) (rows := rows) hf hN idx (by omega) hok
  obtain ⟨hno, hno24⟩ := ckS_n (f := f) (g := g) (rows := rows) hf hN idx (by omega) hok
  obtain ⟨hrw1, hrw2, hrw3⟩ := ckS_rows (f := f) (g := g) (rows := rows) hw (by omega) idx (by omega)
  have hnm : ∀ m, m < 3 → nmI Kd m (idx + 1) = nmI Kd m idx := fun m hm => by
    have : ¬ rof Kd idx = nI (m + 1) := by
      rw [hrof]
      have m3 : m = 0 ∨ m = 1 ∨ m = 2 := by omega
      rcases m3 with rfl | rfl | rfl <;> decide
    rw [nmI_s, if_neg this]
    exact List.append_nil _
  have hnn : noI Kd (idx + 1) = noI Kd idx := by
    show noI Kd idx + _ = _
    rw [if_neg (by rw [hk]; decide)]
    exact Nat.add_zero _
  have hce : ckE f g rows idx = if ¬ nv idx < 0 ∧ ¬ 500 < nv idx then 0 else 5 := by
    unfold ckE
    rw [ck1_k hf hN hi2, if_neg (by rw [hk]; decide), if_pos hk, rG_nI (by omega), hrw3 idx 1 (Or.inl (Nat.le_refl _)), ← rG_nI (by omega), hnv hk, hb]
    show (if decide (¬ nv idx < 0 ∧ ¬ 500 < nv idx) = true then (0 : Int32) else 5) = _
    by_cases c : ¬ nv idx < 0 ∧ ¬ 500 < nv idx
    · rw [if_pos (decide_eq_true c), if_pos c]
    · rw [if_neg (fun q => c (of_decide_eq_true q)), if_neg c]
  have hza : zA f g rows Kd nv Cb (idx + 1) = uA (zA f g rows Kd nv Cb idx) 0 (upd (zA f g rows Kd nv Cb idx 0) ((nmI Kd 0 idx).length - 1) (nv idx)) := by
    show zStep f g rows Kd nv idx (zA f g rows Kd nv Cb idx) = _
    unfold zStep
    rw [hrof]
    rfl
  obtain ⟨ko, ko1, ko2⟩ := hT.1 (by rw [hrof]; decide)
  have hp1 : 1 ≤ (nmI Kd 0 idx).length := nmI_pos ko1 ko2
  have hl5 : (nmI Kd 0 idx).length ≤ 5 := hlen 0 (by decide)
  have hsub : nI (nmI Kd 0 idx).length - 1 = nI ((nmI Kd 0 idx).length - 1) := by
    obtain ⟨q, hq⟩ : ∃ q, (nmI Kd 0 idx).length = q + 1 := ⟨(nmI Kd 0 idx).length - 1, by omega⟩
    rw [hq]
    exact nI_dn q
  obtain ⟨s0, l0, n1, n2, n3, n4⟩ := hV idx hi2 hk
  rw [← hF1] at n1
  rw [← hF2] at n2
  refine bg_in rfl rfl ?_
  refine bg_aload0 rfl ?_
  refine bg_getfield rfl rfl hM.Y (by rfl) ?_
  refine bg_astore2 rfl rfl ?_
  refine bg_iconst rfl ?_
  refine bg_istore3 rfl rfl ?_
  refine bg_aload0 rfl ?_
  refine bg_getfield rfl rfl hM.Y (by rfl) ?_
  refine bg_iload1 rfl ?_
  refine bg_iaload_n rfl hM.f3 (by decide) (by omega) ?_
  rw [hrl]
  refine bg_tsw rfl ?_
  refine bk_sw_c (fun e13_1 => absurd e13_1 (by decide)) (fun n13_1 => ?_)
  refine bk_sw_c (fun e13_2 => absurd e13_2 (by decide)) (fun n13_2 => ?_)
  refine bk_sw_c (fun e13_3 => absurd e13_3 (by decide)) (fun n13_3 => ?_)
  refine bk_sw_c (fun e13_4 => absurd e13_4 (by decide)) (fun n13_4 => ?_)
  refine bk_sw_c (fun e13_5 => absurd e13_5 (by decide)) (fun n13_5 => ?_)
  refine bk_sw_c (fun e13_6 => absurd e13_6 (by decide)) (fun n13_6 => ?_)
  refine bk_sw_c (fun e13_7 => ?_) (fun n13_7 => absurd rfl n13_7)
  refine bg_aload0 rfl ?_
  refine bg_iload1 rfl ?_
  refine bg_virt1 rfl rfl rfl rfl ⟨_, hM.Y⟩ ?_
  refine bg_in rfl rfl ?_
  refine bg_aload0 rfl ?_
  refine bg_getfield rfl rfl hM.Y (by rfl) ?_
  refine bg_astore2 rfl rfl ?_
  refine bg_aload0 rfl ?_
  refine bg_getfield rfl rfl hM.Y (by rfl) ?_
  refine bg_iload1 rfl ?_
  refine bg_iaload_n rfl hM.f3 (by decide) (by omega) ?_
  rw [hrl]
  refine bg_tsw rfl ?_
  refine bk_sw_c (fun e11_7 => ?_) (fun n11_7 => absurd rfl n11_7)
  refine bg_aload2 rfl ?_
  refine bg_getfield rfl rfl hM.R.1 (by rfl) ?_
  refine bg_aload2 rfl ?_
  refine bg_getfield rfl rfl hM.R.1 (by rfl) ?_
  rw [z3 0 (by decide)]
  refine bg_iconst rfl ?_
  refine bg_isub rfl ?_
  rw [hsub]
  refine bg_aload0 rfl ?_
  refine bg_iload1 rfl ?_
  refine bg_virt1 rfl rfl rfl rfl ⟨_, hM.Y⟩ ?_
  refine mt_number hM n1 n2 n3 (by omega) (bk_Ki ?_)
  rw [← n4]
  refine bg_iastore_n rfl (pR1 hM.R) (by decide) (by omega) (fun h67 f67 g67 => ?_)
  have hM := hM.cc0 f67 g67
  refine bg_aload0 rfl ?_
  refine bg_iload1 rfl ?_
  refine bg_iconst rfl ?_
  refine bg_sipush rfl ?_
  refine bg_virt3 rfl rfl rfl rfl ⟨_, hM.Y⟩ ?_
  refine mt_inRange hM n1 n2 n3 (by omega) (bk_Ki ?_)
  refine bg_iret rfl rfl (by rfl) ?_
  refine bk_Ki ?_
  refine bg_iret rfl rfl (by rfl) ?_
  rw [← n4, ← hce]
  exact hQ _ _ _ _ hM ⟨rfl, rfl, rfl⟩ (fun _ => ZH_s hZ rfl (fun k _ => rfl) (fun q => absurd (hk.symm.trans q.1) (by decide)) (fun m hm3 => by rw [hnm m hm3]; exact z3 m hm3) (by rw [hnn]; exact z4) (fun j _ => rfl) (fun j hj => by rw [hza]; exact uA_cg z6 (by decide) j hj) (fun j hj => if_neg (by omega)))
theorem mt_err8 (hf : ∀ i, i < N → f i = Kd i) (hN : N ≤ 401) (hE : E ≤ N) (hi : idx < E) (hok : ∀ j, j < idx → ckE f g rows j = 0) (hT : OKT Kd idx) (hw : ∀ q ∈ rows, q.length = 2) (hl : rows.length = N) (hF1 : F 1 = Fx 1) (hF2 : F 2 = Fx 2) (hm : NMk Fx Kd N T g) (hV : NVk Fx Kd N T nv) (hnv : Kd idx = 31 → rG rows (nI idx) 1 = nv idx) (hM : MT h0 h y u v T P S K C J F K2 C2) (hZ : ZH f g rows Kd nv Cb E Kz Cz idx F K2 C2) (hk : Kd idx = 31) (hb : pvF Kd idx = 3) (hQ : ∀ (h' : bk_H) (F' : rA) (K2' : rI) (C2' : rA), MT h0 h' y u v T P S K C J F' K2' C2' → (F' 0 = F 0 ∧ F' 1 = F 1 ∧ F' 2 = F 2) → (ckE f g rows idx = 0 → ZH f g rows Kd nv Cb E Kz Cz (idx + 1) F' K2' C2') → Q (.inl (some (.int (ckE f g rows idx)))) h' n) : bk_wp V (D + 6) 192 [.ref y, .int (nI idx)] h n B Q := by
  have hrof : rof Kd idx = 8 := by
    unfold rof roF
    rw [hk, hb]
    rfl
  obtain ⟨z1, z2, z3, z4, z5, z6, z7⟩ := id hZ
  have hi2 : idx < N := by omega
  have hrl : F 3 idx = 8 := (z1 idx hi).trans hrof
  have hF3 : ∀ k, k ≤ idx → F 3 k = rof Kd k := fun k hk => z1 k (by omega)
  have hLL := ckS_L (f := f) (g := g) (rows := rows) hf hN hok (show idx ≤ N by omega)
  have hlen := ckS_len (f := f) (g := g) (rows := rows) hf hN idx (by omega) hok
  obtain ⟨hno, hno24⟩ := ckS_n (f := f) (g := g) (rows := rows) hf hN idx (by omega) hok
  obtain ⟨hrw1, hrw2, hrw3⟩ := ckS_rows (f := f) (g := g) (rows := rows) hw (by omega) idx (by omega)
  have hnm : ∀ m, m < 3 → nmI Kd m (idx + 1) = nmI Kd m idx := fun m hm => by
    have : ¬ rof Kd idx = nI (m + 1) := by
      rw [hrof]
      have m3 : m = 0 ∨ m = 1 ∨ m = 2 := by omega
      rcases m3 with rfl | rfl | rfl <;> decide
    rw [nmI_s, if_neg this]
    exact List.append_nil _
  have hnn : noI Kd (idx + 1) = noI Kd idx := by
    show noI Kd idx + _ = _
    rw [if_neg (by rw [hk]; decide)]
    exact Nat.add_zero _
  have hce : ckE f g rows idx = if ¬ nv idx < 1 ∧ ¬ 9 < nv idx then 0 else 5 := by
    unfold ckE
    rw [ck1_k hf hN hi2, if_neg (by rw [hk]; decide), if_pos hk, rG_nI (by omega), hrw3 idx 1 (Or.inl (Nat.le_refl _)), ← rG_nI (by omega), hnv hk, hb]
    show (if decide (¬ nv idx < 1 ∧ ¬ 9 < nv idx) = true then (0 : Int32) else 5) = _
    by_cases c : ¬ nv idx < 1 ∧ ¬ 9 < nv idx
    · rw [if_pos (decide_eq_true c), if_pos c]
    · rw [if_neg (fun q => c (of_decide_eq_true q)), if_neg c]
  have hza : zA f g rows Kd nv Cb (idx + 1) = uA (zA f g rows Kd nv Cb idx) 1 (upd (zA f g rows Kd nv Cb idx 1) ((nmI Kd 0 idx).length - 1) (nv idx)) := by
    show zStep f g rows Kd nv idx (zA f g rows Kd nv Cb idx) = _
    unfold zStep
    rw [hrof]
    rfl
  obtain ⟨ko, ko1, ko2⟩ := hT.1 (by rw [hrof]; decide)
  have hp1 : 1 ≤ (nmI Kd 0 idx).length := nmI_pos ko1 ko2
  have hl5 : (nmI Kd 0 idx).length ≤ 5 := hlen 0 (by decide)
  have hsub : nI (nmI Kd 0 idx).length - 1 = nI ((nmI Kd 0 idx).length - 1) := by
    obtain ⟨q, hq⟩ : ∃ q, (nmI Kd 0 idx).length = q + 1 := ⟨(nmI Kd 0 idx).length - 1, by omega⟩
    rw [hq]
    exact nI_dn q
  obtain ⟨s0, l0, n1, n2, n3, n4⟩ := hV idx hi2 hk
  rw [← hF1] at n1
  rw [← hF2] at n2
  refine bg_in rfl rfl ?_
  refine bg_aload0 rfl ?_
  refine bg_getfield rfl rfl hM.Y (by rfl) ?_
  refine bg_astore2 rfl rfl ?_
  refine bg_iconst rfl ?_
  refine bg_istore3 rfl rfl ?_
  refine bg_aload0 rfl ?_
  refine bg_getfield rfl rfl hM.Y (by rfl) ?_
  refine bg_iload1 rfl ?_
  refine bg_iaload_n rfl hM.f3 (by decide) (by omega) ?_
  rw [hrl]
  refine bg_tsw rfl ?_
  refine bk_sw_c (fun e13_1 => absurd e13_1 (by decide)) (fun n13_1 => ?_)
  refine bk_sw_c (fun e13_2 => absurd e13_2 (by decide)) (fun n13_2 => ?_)
  refine bk_sw_c (fun e13_3 => absurd e13_3 (by decide)) (fun n13_3 => ?_)
  refine bk_sw_c (fun e13_4 => absurd e13_4 (by decide)) (fun n13_4 => ?_)
  refine bk_sw_c (fun e13_5 => absurd e13_5 (by decide)) (fun n13_5 => ?_)
  refine bk_sw_c (fun e13_6 => absurd e13_6 (by decide)) (fun n13_6 => ?_)
  refine bk_sw_c (fun e13_7 => absurd e13_7 (by decide)) (fun n13_7 => ?_)
  refine bk_sw_c (fun e13_8 => ?_) (fun n13_8 => absurd rfl n13_8)
  refine bg_aload0 rfl ?_
  refine bg_iload1 rfl ?_
  refine bg_virt1 rfl rfl rfl rfl ⟨_, hM.Y⟩ ?_
  refine bg_in rfl rfl ?_
  refine bg_aload0 rfl ?_
  refine bg_getfield rfl rfl hM.Y (by rfl) ?_
  refine bg_astore2 rfl rfl ?_
  refine bg_aload0 rfl ?_
  refine bg_getfield rfl rfl hM.Y (by rfl) ?_
  refine bg_iload1 rfl ?_
  refine bg_iaload_n rfl hM.f3 (by decide) (by omega) ?_
  rw [hrl]
  refine bg_tsw rfl ?_
  refine bk_sw_c (fun e11_7 => absurd e11_7 (by decide)) (fun n11_7 => ?_)
  refine bk_sw_c (fun e11_8 => ?_) (fun n11_8 => absurd rfl n11_8)
  refine bg_aload2 rfl ?_
  refine bg_getfield rfl rfl hM.R.1 (by rfl) ?_
  refine bg_aload2 rfl ?_
  refine bg_getfield rfl rfl hM.R.1 (by rfl) ?_
  rw [z3 0 (by decide)]
  refine bg_iconst rfl ?_
  refine bg_isub rfl ?_
  rw [hsub]
  refine bg_aload0 rfl ?_
  refine bg_iload1 rfl ?_
  refine bg_virt1 rfl rfl rfl rfl ⟨_, hM.Y⟩ ?_
  refine mt_number hM n1 n2 n3 (by omega) (bk_Ki ?_)
  rw [← n4]
  refine bg_iastore_n rfl (pR2 hM.R) (by decide) (by omega) (fun h93 f93 g93 => ?_)
  have hM := hM.cc1 f93 g93
  refine bg_aload0 rfl ?_
  refine bg_iload1 rfl ?_
  refine bg_iconst rfl ?_
  refine bg_bipush rfl ?_
  refine bg_virt3 rfl rfl rfl rfl ⟨_, hM.Y⟩ ?_
  refine mt_inRange hM n1 n2 n3 (by omega) (bk_Ki ?_)
  refine bg_iret rfl rfl (by rfl) ?_
  refine bk_Ki ?_
  refine bg_iret rfl rfl (by rfl) ?_
  rw [← n4, ← hce]
  exact hQ _ _ _ _ hM ⟨rfl, rfl, rfl⟩ (fun _ => ZH_s hZ rfl (fun k _ => rfl) (fun q => absurd (hk.symm.trans q.1) (by decide)) (fun m hm3 => by rw [hnm m hm3]; exact z3 m hm3) (by rw [hnn]; exact z4) (fun j _ => rfl) (fun j hj => by rw [hza]; exact uA_cg z6 (by decide) j hj) (fun j hj => if_neg (by omega)))
theorem mt_err9 (hf : ∀ i, i < N → f i = Kd i) (hN : N ≤ 401) (hE : E ≤ N) (hi : idx < E) (hok : ∀ j, j < idx → ckE f g rows j = 0) (hT : OKT Kd idx) (hw : ∀ q ∈ rows, q.length = 2) (hl : rows.length = N) (hF1 : F 1 = Fx 1) (hF2 : F 2 = Fx 2) (hm : NMk Fx Kd N T g) (hV : NVk Fx Kd N T nv) (hnv : Kd idx = 31 → rG rows (nI idx) 1 = nv idx) (hM : MT h0 h y u v T P S K C J F K2 C2) (hZ : ZH f g rows Kd nv Cb E Kz Cz idx F K2 C2) (hk : Kd idx = 31) (hb : pvF Kd idx = 5) (hQ : ∀ (h' : bk_H) (F' : rA) (K2' : rI) (C2' : rA), MT h0 h' y u v T P S K C J F' K2' C2' → (F' 0 = F 0 ∧ F' 1 = F 1 ∧ F' 2 = F 2) → (ckE f g rows idx = 0 → ZH f g rows Kd nv Cb E Kz Cz (idx + 1) F' K2' C2') → Q (.inl (some (.int (ckE f g rows idx)))) h' n) : bk_wp V (D + 6) 192 [.ref y, .int (nI idx)] h n B Q := by
  have hrof : rof Kd idx = 9 := by
    unfold rof roF
    rw [hk, hb]
    rfl
  obtain ⟨z1, z2, z3, z4, z5, z6, z7⟩ := id hZ
  have hi2 : idx < N := by omega
  have hrl : F 3 idx = 9 := (z1 idx hi).trans hrof
  have hF3 : ∀ k, k ≤ idx → F 3 k = rof Kd k := fun k hk => z1 k (by omega)
  have hLL := ckS_L (f := f) (g := g) (rows := rows) hf hN hok (show idx ≤ N by omega)
  have hlen := ckS_len (f := f) (g := g) (rows := rows) hf hN idx (by omega) hok
  obtain ⟨hno, hno24⟩ := ckS_n (f := f) (g := g) (rows := rows) hf hN idx (by omega) hok
  obtain ⟨hrw1, hrw2, hrw3⟩ := ckS_rows (f := f) (g := g) (rows := rows) hw (by omega) idx (by omega)
  have hnm : ∀ m, m < 3 → nmI Kd m (idx + 1) = nmI Kd m idx := fun m hm => by
    have : ¬ rof Kd idx = nI (m + 1) := by
      rw [hrof]
      have m3 : m = 0 ∨ m = 1 ∨ m = 2 := by omega
      rcases m3 with rfl | rfl | rfl <;> decide
    rw [nmI_s, if_neg this]
    exact List.append_nil _
  have hnn : noI Kd (idx + 1) = noI Kd idx := by
    show noI Kd idx + _ = _
    rw [if_neg (by rw [hk]; decide)]
    exact Nat.add_zero _
  have hce : ckE f g rows idx = if ¬ nv idx < 1 ∧ ¬ 9 < nv idx then 0 else 5 := by
    unfold ckE
    rw [ck1_k hf hN hi2, if_neg (by rw [hk]; decide), if_pos hk, rG_nI (by omega), hrw3 idx 1 (Or.inl (Nat.le_refl _)), ← rG_nI (by omega), hnv hk, hb]
    show (if decide (¬ nv idx < 1 ∧ ¬ 9 < nv idx) = true then (0 : Int32) else 5) = _
    by_cases c : ¬ nv idx < 1 ∧ ¬ 9 < nv idx
    · rw [if_pos (decide_eq_true c), if_pos c]
    · rw [if_neg (fun q => c (of_decide_eq_true q)), if_neg c]
  have hza : zA f g rows Kd nv Cb (idx + 1) = uA (zA f g rows Kd nv Cb idx) 2 (upd (zA f g rows Kd nv Cb idx 2) ((nmI Kd 1 idx).length - 1) (nv idx)) := by
    show zStep f g rows Kd nv idx (zA f g rows Kd nv Cb idx) = _
    unfold zStep
    rw [hrof]
    rfl
  obtain ⟨ko, ko1, ko2⟩ := hT.2.1 (by rw [hrof]; decide)
  have hp1 : 1 ≤ (nmI Kd 1 idx).length := nmI_pos ko1 ko2
  have hl5 : (nmI Kd 1 idx).length ≤ 6 := hlen 1 (by decide)
  have hsub : nI (nmI Kd 1 idx).length - 1 = nI ((nmI Kd 1 idx).length - 1) := by
    obtain ⟨q, hq⟩ : ∃ q, (nmI Kd 1 idx).length = q + 1 := ⟨(nmI Kd 1 idx).length - 1, by omega⟩
    rw [hq]
    exact nI_dn q
  obtain ⟨s0, l0, n1, n2, n3, n4⟩ := hV idx hi2 hk
  rw [← hF1] at n1
  rw [← hF2] at n2
  refine bg_in rfl rfl ?_
  refine bg_aload0 rfl ?_
  refine bg_getfield rfl rfl hM.Y (by rfl) ?_
  refine bg_astore2 rfl rfl ?_
  refine bg_iconst rfl ?_
  refine bg_istore3 rfl rfl ?_
  refine bg_aload0 rfl ?_
  refine bg_getfield rfl rfl hM.Y (by rfl) ?_
  refine bg_iload1 rfl ?_
  refine bg_iaload_n rfl hM.f3 (by decide) (by omega) ?_
  rw [hrl]
  refine bg_tsw rfl ?_
  refine bk_sw_c (fun e13_1 => absurd e13_1 (by decide)) (fun n13_1 => ?_)
  refine bk_sw_c (fun e13_2 => absurd e13_2 (by decide)) (fun n13_2 => ?_)
  refine bk_sw_c (fun e13_3 => absurd e13_3 (by decide)) (fun n13_3 => ?_)
  refine bk_sw_c (fun e13_4 => absurd e13_4 (by decide)) (fun n13_4 => ?_)
  refine bk_sw_c (fun e13_5 => absurd e13_5 (by decide)) (fun n13_5 => ?_)
  refine bk_sw_c (fun e13_6 => absurd e13_6 (by decide)) (fun n13_6 => ?_)
  refine bk_sw_c (fun e13_7 => absurd e13_7 (by decide)) (fun n13_7 => ?_)
  refine bk_sw_c (fun e13_8 => absurd e13_8 (by decide)) (fun n13_8 => ?_)
  refine bk_sw_c (fun e13_9 => ?_) (fun n13_9 => absurd rfl n13_9)
  refine bg_aload0 rfl ?_
  refine bg_iload1 rfl ?_
  refine bg_virt1 rfl rfl rfl rfl ⟨_, hM.Y⟩ ?_
  refine bg_in rfl rfl ?_
  refine bg_aload0 rfl ?_
  refine bg_getfield rfl rfl hM.Y (by rfl) ?_
  refine bg_astore2 rfl rfl ?_
  refine bg_aload0 rfl ?_
  refine bg_getfield rfl rfl hM.Y (by rfl) ?_
  refine bg_iload1 rfl ?_
  refine bg_iaload_n rfl hM.f3 (by decide) (by omega) ?_
  rw [hrl]
  refine bg_tsw rfl ?_
  refine bk_sw_c (fun e11_7 => absurd e11_7 (by decide)) (fun n11_7 => ?_)
  refine bk_sw_c (fun e11_8 => absurd e11_8 (by decide)) (fun n11_8 => ?_)
  refine bk_sw_c (fun e11_9 => ?_) (fun n11_9 => absurd rfl n11_9)
  refine bg_aload2 rfl ?_
  refine bg_getfield rfl rfl hM.R.1 (by rfl) ?_
  refine bg_aload2 rfl ?_
  refine bg_getfield rfl rfl hM.R.1 (by rfl) ?_
  rw [z3 1 (by decide)]
  refine bg_iconst rfl ?_
  refine bg_isub rfl ?_
  rw [hsub]
  refine bg_aload0 rfl ?_
  refine bg_iload1 rfl ?_
  refine bg_virt1 rfl rfl rfl rfl ⟨_, hM.Y⟩ ?_
  refine mt_number hM n1 n2 n3 (by omega) (bk_Ki ?_)
  rw [← n4]
  refine bg_iastore_n rfl (pR3 hM.R) (by decide) (by omega) (fun h118 f118 g118 => ?_)
  have hM := hM.cc2 f118 g118
  refine bg_aload0 rfl ?_
  refine bg_iload1 rfl ?_
  refine bg_iconst rfl ?_
  refine bg_bipush rfl ?_
  refine bg_virt3 rfl rfl rfl rfl ⟨_, hM.Y⟩ ?_
  refine mt_inRange hM n1 n2 n3 (by omega) (bk_Ki ?_)
  refine bg_iret rfl rfl (by rfl) ?_
  refine bk_Ki ?_
  refine bg_iret rfl rfl (by rfl) ?_
  rw [← n4, ← hce]
  exact hQ _ _ _ _ hM ⟨rfl, rfl, rfl⟩ (fun _ => ZH_s hZ rfl (fun k _ => rfl) (fun q => absurd (hk.symm.trans q.1) (by decide)) (fun m hm3 => by rw [hnm m hm3]; exact z3 m hm3) (by rw [hnn]; exact z4) (fun j _ => rfl) (fun j hj => by rw [hza]; exact uA_cg z6 (by decide) j hj) (fun j hj => if_neg (by omega)))
theorem mt_err10 (hf : ∀ i, i < N → f i = Kd i) (hN : N ≤ 401) (hE : E ≤ N) (hi : idx < E) (hok : ∀ j, j < idx → ckE f g rows j = 0) (hT : OKT Kd idx) (hw : ∀ q ∈ rows, q.length = 2) (hl : rows.length = N) (hF1 : F 1 = Fx 1) (hF2 : F 2 = Fx 2) (hm : NMk Fx Kd N T g) (hV : NVk Fx Kd N T nv) (hnv : Kd idx = 31 → rG rows (nI idx) 1 = nv idx) (hM : MT h0 h y u v T P S K C J F K2 C2) (hZ : ZH f g rows Kd nv Cb E Kz Cz idx F K2 C2) (hk : Kd idx = 31) (hb : pvF Kd idx = 6) (hQ : ∀ (h' : bk_H) (F' : rA) (K2' : rI) (C2' : rA), MT h0 h' y u v T P S K C J F' K2' C2' → (F' 0 = F 0 ∧ F' 1 = F 1 ∧ F' 2 = F 2) → (ckE f g rows idx = 0 → ZH f g rows Kd nv Cb E Kz Cz (idx + 1) F' K2' C2') → Q (.inl (some (.int (ckE f g rows idx)))) h' n) : bk_wp V (D + 6) 192 [.ref y, .int (nI idx)] h n B Q := by
  have hrof : rof Kd idx = 10 := by
    unfold rof roF
    rw [hk, hb]
    rfl
  obtain ⟨z1, z2, z3, z4, z5, z6, z7⟩ := id hZ
  have hi2 : idx < N := by omega
  have hrl : F 3 idx = 10 := (z1 idx hi).trans hrof
  have hF3 : ∀ k, k ≤ idx → F 3 k = rof Kd k := fun k hk => z1 k (by omega)
  have hLL := ckS_L (f := f) (g := g) (rows := rows) hf hN hok (show idx ≤ N by omega)
  have hlen := ckS_len (f := f) (g := g) (rows := rows) hf hN idx (by omega) hok
  obtain ⟨hno, hno24⟩ := ckS_n (f := f) (g := g) (rows := rows) hf hN idx (by omega) hok
  obtain ⟨hrw1, hrw2, hrw3⟩ := ckS_rows (f := f) (g := g) (rows := rows) hw (by omega) idx (by omega)
  have hnm : ∀ m, m < 3 → nmI Kd m (idx + 1) = nmI Kd m idx := fun m hm => by
    have : ¬ rof Kd idx = nI (m + 1) := by
      rw [hrof]
      have m3 : m = 0 ∨ m = 1 ∨ m = 2 := by omega
      rcases m3 with rfl | rfl | rfl <;> decide
    rw [nmI_s, if_neg this]
    exact List.append_nil _
  have hnn : noI Kd (idx + 1) = noI Kd idx := by
    show noI Kd idx + _ = _
    rw [if_neg (by rw [hk]; decide)]
    exact Nat.add_zero _
  have hce : ckE f g rows idx = if ¬ nv idx < 1 ∧ ¬ 6 < nv idx then 0 else 5 := by
    unfold ckE
    rw [ck1_k hf hN hi2, if_neg (by rw [hk]; decide), if_pos hk, rG_nI (by omega), hrw3 idx 1 (Or.inl (Nat.le_refl _)), ← rG_nI (by omega), hnv hk, hb]
    show (if decide (¬ nv idx < 1 ∧ ¬ 6 < nv idx) = true then (0 : Int32) else 5) = _
    by_cases c : ¬ nv idx < 1 ∧ ¬ 6 < nv idx
    · rw [if_pos (decide_eq_true c), if_pos c]
    · rw [if_neg (fun q => c (of_decide_eq_true q)), if_neg c]
  have hza : zA f g rows Kd nv Cb (idx + 1) = uA (zA f g rows Kd nv Cb idx) 3 (upd (zA f g rows Kd nv Cb idx 3) ((nmI Kd 1 idx).length - 1) (nv idx)) := by
    show zStep f g rows Kd nv idx (zA f g rows Kd nv Cb idx) = _
    unfold zStep
    rw [hrof]
    rfl
  obtain ⟨ko, ko1, ko2⟩ := hT.2.1 (by rw [hrof]; decide)
  have hp1 : 1 ≤ (nmI Kd 1 idx).length := nmI_pos ko1 ko2
  have hl5 : (nmI Kd 1 idx).length ≤ 6 := hlen 1 (by decide)
  have hsub : nI (nmI Kd 1 idx).length - 1 = nI ((nmI Kd 1 idx).length - 1) := by
    obtain ⟨q, hq⟩ : ∃ q, (nmI Kd 1 idx).length = q + 1 := ⟨(nmI Kd 1 idx).length - 1, by omega⟩
    rw [hq]
    exact nI_dn q
  obtain ⟨s0, l0, n1, n2, n3, n4⟩ := hV idx hi2 hk
  rw [← hF1] at n1
  rw [← hF2] at n2
  refine bg_in rfl rfl ?_
  refine bg_aload0 rfl ?_
  refine bg_getfield rfl rfl hM.Y (by rfl) ?_
  refine bg_astore2 rfl rfl ?_
  refine bg_iconst rfl ?_
  refine bg_istore3 rfl rfl ?_
  refine bg_aload0 rfl ?_
  refine bg_getfield rfl rfl hM.Y (by rfl) ?_
  refine bg_iload1 rfl ?_
  refine bg_iaload_n rfl hM.f3 (by decide) (by omega) ?_
  rw [hrl]
  refine bg_tsw rfl ?_
  refine bk_sw_c (fun e13_1 => absurd e13_1 (by decide)) (fun n13_1 => ?_)
  refine bk_sw_c (fun e13_2 => absurd e13_2 (by decide)) (fun n13_2 => ?_)
  refine bk_sw_c (fun e13_3 => absurd e13_3 (by decide)) (fun n13_3 => ?_)
  refine bk_sw_c (fun e13_4 => absurd e13_4 (by decide)) (fun n13_4 => ?_)
  refine bk_sw_c (fun e13_5 => absurd e13_5 (by decide)) (fun n13_5 => ?_)
  refine bk_sw_c (fun e13_6 => absurd e13_6 (by decide)) (fun n13_6 => ?_)
  refine bk_sw_c (fun e13_7 => absurd e13_7 (by decide)) (fun n13_7 => ?_)
  refine bk_sw_c (fun e13_8 => absurd e13_8 (by decide)) (fun n13_8 => ?_)
  refine bk_sw_c (fun e13_9 => absurd e13_9 (by decide)) (fun n13_9 => ?_)
  refine bk_sw_c (fun e13_10 => ?_) (fun n13_10 => absurd rfl n13_10)
  refine bg_aload0 rfl ?_
  refine bg_iload1 rfl ?_
  refine bg_virt1 rfl rfl rfl rfl ⟨_, hM.Y⟩ ?_
  refine bg_in rfl rfl ?_
  refine bg_aload0 rfl ?_
  refine bg_getfield rfl rfl hM.Y (by rfl) ?_
  refine bg_astore2 rfl rfl ?_
  refine bg_aload0 rfl ?_
  refine bg_getfield rfl rfl hM.Y (by rfl) ?_
  refine bg_iload1 rfl ?_
  refine bg_iaload_n rfl hM.f3 (by decide) (by omega) ?_
  rw [hrl]
  refine bg_tsw rfl ?_
  refine bk_sw_c (fun e11_7 => absurd e11_7 (by decide)) (fun n11_7 => ?_)
  refine bk_sw_c (fun e11_8 => absurd e11_8 (by decide)) (fun n11_8 => ?_)
  refine bk_sw_c (fun e11_9 => absurd e11_9 (by decide)) (fun n11_9 => ?_)
  refine bk_sw_c (fun e11_10 => ?_) (fun n11_10 => absurd rfl n11_10)
  refine bg_aload2 rfl ?_
  refine bg_getfield rfl rfl hM.R.1 (by rfl) ?_
  refine bg_aload2 rfl ?_
  refine bg_getfield rfl rfl hM.R.1 (by rfl) ?_
  rw [z3 1 (by decide)]
  refine bg_iconst rfl ?_
  refine bg_isub rfl ?_
  rw [hsub]
  refine bg_aload0 rfl ?_
  refine bg_iload1 rfl ?_
  refine bg_virt1 rfl rfl rfl rfl ⟨_, hM.Y⟩ ?_
  refine mt_number hM n1 n2 n3 (by omega) (bk_Ki ?_)
  rw [← n4]
  refine bg_iastore_n rfl (pR4 hM.R) (by decide) (by omega) (fun h143 f143 g143 => ?_)
  have hM := hM.cc3 f143 g143
  refine bg_aload0 rfl ?_
  refine bg_iload1 rfl ?_
  refine bg_iconst rfl ?_
  refine bg_bipush rfl ?_
  refine bg_virt3 rfl rfl rfl rfl ⟨_, hM.Y⟩ ?_
  refine mt_inRange hM n1 n2 n3 (by omega) (bk_Ki ?_)
  refine bg_iret rfl rfl (by rfl) ?_
  refine bk_Ki ?_
  refine bg_iret rfl rfl (by rfl) ?_
  rw [← n4, ← hce]
  exact hQ _ _ _ _ hM ⟨rfl, rfl, rfl⟩ (fun _ => ZH_s hZ rfl (fun k _ => rfl) (fun q => absurd (hk.symm.trans q.1) (by decide)) (fun m hm3 => by rw [hnm m hm3]; exact z3 m hm3) (by rw [hnn]; exact z4) (fun j _ => rfl) (fun j hj => by rw [hza]; exact uA_cg z6 (by decide) j hj) (fun j hj => if_neg (by omega)))
theorem mt_err11 (hf : ∀ i, i < N → f i = Kd i) (hN : N ≤ 401) (hE : E ≤ N) (hi : idx < E) (hok : ∀ j, j < idx → ckE f g rows j = 0) (hT : OKT Kd idx) (hw : ∀ q ∈ rows, q.length = 2) (hl : rows.length = N) (hF1 : F 1 = Fx 1) (hF2 : F 2 = Fx 2) (hm : NMk Fx Kd N T g) (hV : NVk Fx Kd N T nv) (hnv : Kd idx = 31 → rG rows (nI idx) 1 = nv idx) (hM : MT h0 h y u v T P S K C J F K2 C2) (hZ : ZH f g rows Kd nv Cb E Kz Cz idx F K2 C2) (hk : Kd idx = 31) (hb : pvF Kd idx = 8) (hQ : ∀ (h' : bk_H) (F' : rA) (K2' : rI) (C2' : rA), MT h0 h' y u v T P S K C J F' K2' C2' → (F' 0 = F 0 ∧ F' 1 = F 1 ∧ F' 2 = F 2) → (ckE f g rows idx = 0 → ZH f g rows Kd nv Cb E Kz Cz (idx + 1) F' K2' C2') → Q (.inl (some (.int (ckE f g rows idx)))) h' n) : bk_wp V (D + 6) 192 [.ref y, .int (nI idx)] h n B Q := by
  have hrof : rof Kd idx = 11 := by
    unfold rof roF
    rw [hk, hb]
    rfl
  obtain ⟨z1, z2, z3, z4, z5, z6, z7⟩ := id hZ
  have hi2 : idx < N := by omega
  have hrl : F 3 idx = 11 := (z1 idx hi).trans hrof
  have hF3 : ∀ k, k ≤ idx → F 3 k = rof Kd k := fun k hk => z1 k (by omega)
  have hLL := ckS_L (f := f) (g := g) (rows := rows) hf hN hok (show idx ≤ N by omega)
  have hlen := ckS_len (f := f) (g := g) (rows := rows) hf hN idx (by omega) hok
  obtain ⟨hno, hno24⟩ := ckS_n (f := f) (g := g) (rows := rows) hf hN idx (by omega) hok
  obtain ⟨hrw1, hrw2, hrw3⟩ := ckS_rows (f := f) (g := g) (rows := rows) hw (by omega) idx (by omega)
  have hnm : ∀ m, m < 3 → nmI Kd m (idx + 1) = nmI Kd m idx := fun m hm => by
    have : ¬ rof Kd idx = nI (m + 1) := by
      rw [hrof]
      have m3 : m = 0 ∨ m = 1 ∨ m = 2 := by omega
      rcases m3 with rfl | rfl | rfl <;> decide
    rw [nmI_s, if_neg this]
    exact List.append_nil _
  have hnn : noI Kd (idx + 1) = noI Kd idx := by
    show noI Kd idx + _ = _
    rw [if_neg (by rw [hk]; decide)]
    exact Nat.add_zero _
  have hce : ckE f g rows idx = if ¬ nv idx < 0 ∧ ¬ 4 < nv idx then 0 else 5 := by
    unfold ckE
    rw [ck1_k hf hN hi2, if_neg (by rw [hk]; decide), if_pos hk, rG_nI (by omega), hrw3 idx 1 (Or.inl (Nat.le_refl _)), ← rG_nI (by omega), hnv hk, hb]
    show (if decide (¬ nv idx < 0 ∧ ¬ 4 < nv idx) = true then (0 : Int32) else 5) = _
    by_cases c : ¬ nv idx < 0 ∧ ¬ 4 < nv idx
    · rw [if_pos (decide_eq_true c), if_pos c]
    · rw [if_neg (fun q => c (of_decide_eq_true q)), if_neg c]
  have hza : zA f g rows Kd nv Cb (idx + 1) = uA (zA f g rows Kd nv Cb idx) 4 (upd (zA f g rows Kd nv Cb idx 4) ((nmI Kd 2 idx).length - 1) (nv idx)) := by
    show zStep f g rows Kd nv idx (zA f g rows Kd nv Cb idx) = _
    unfold zStep
    rw [hrof]
    rfl
  obtain ⟨ko, ko1, ko2⟩ := hT.2.2.1 (by rw [hrof]; decide)
  have hp1 : 1 ≤ (nmI Kd 2 idx).length := nmI_pos ko1 ko2
  have hl5 : (nmI Kd 2 idx).length ≤ 6 := hlen 2 (by decide)
  have hsub : nI (nmI Kd 2 idx).length - 1 = nI ((nmI Kd 2 idx).length - 1) := by
    obtain ⟨q, hq⟩ : ∃ q, (nmI Kd 2 idx).length = q + 1 := ⟨(nmI Kd 2 idx).length - 1, by omega⟩
    rw [hq]
    exact nI_dn q
  obtain ⟨s0, l0, n1, n2, n3, n4⟩ := hV idx hi2 hk
  rw [← hF1] at n1
  rw [← hF2] at n2
  refine bg_in rfl rfl ?_
  refine bg_aload0 rfl ?_
  refine bg_getfield rfl rfl hM.Y (by rfl) ?_
  refine bg_astore2 rfl rfl ?_
  refine bg_iconst rfl ?_
  refine bg_istore3 rfl rfl ?_
  refine bg_aload0 rfl ?_
  refine bg_getfield rfl rfl hM.Y (by rfl) ?_
  refine bg_iload1 rfl ?_
  refine bg_iaload_n rfl hM.f3 (by decide) (by omega) ?_
  rw [hrl]
  refine bg_tsw rfl ?_
  refine bk_sw_c (fun e13_1 => absurd e13_1 (by decide)) (fun n13_1 => ?_)
  refine bk_sw_c (fun e13_2 => absurd e13_2 (by decide)) (fun n13_2 => ?_)
  refine bk_sw_c (fun e13_3 => absurd e13_3 (by decide)) (fun n13_3 => ?_)
  refine bk_sw_c (fun e13_4 => absurd e13_4 (by decide)) (fun n13_4 => ?_)
  refine bk_sw_c (fun e13_5 => absurd e13_5 (by decide)) (fun n13_5 => ?_)
  refine bk_sw_c (fun e13_6 => absurd e13_6 (by decide)) (fun n13_6 => ?_)
  refine bk_sw_c (fun e13_7 => absurd e13_7 (by decide)) (fun n13_7 => ?_)
  refine bk_sw_c (fun e13_8 => absurd e13_8 (by decide)) (fun n13_8 => ?_)
  refine bk_sw_c (fun e13_9 => absurd e13_9 (by decide)) (fun n13_9 => ?_)
  refine bk_sw_c (fun e13_10 => absurd e13_10 (by decide)) (fun n13_10 => ?_)
  refine bk_sw_c (fun e13_11 => ?_) (fun n13_11 => absurd rfl n13_11)
  refine bg_aload0 rfl ?_
  refine bg_iload1 rfl ?_
  refine bg_virt1 rfl rfl rfl rfl ⟨_, hM.Y⟩ ?_
  refine bg_in rfl rfl ?_
  refine bg_aload0 rfl ?_
  refine bg_getfield rfl rfl hM.Y (by rfl) ?_
  refine bg_astore2 rfl rfl ?_
  refine bg_aload0 rfl ?_
  refine bg_getfield rfl rfl hM.Y (by rfl) ?_
  refine bg_iload1 rfl ?_
  refine bg_iaload_n rfl hM.f3 (by decide) (by omega) ?_
  rw [hrl]
  refine bg_tsw rfl ?_
  refine bk_sw_c (fun e11_7 => absurd e11_7 (by decide)) (fun n11_7 => ?_)
  refine bk_sw_c (fun e11_8 => absurd e11_8 (by decide)) (fun n11_8 => ?_)
  refine bk_sw_c (fun e11_9 => absurd e11_9 (by decide)) (fun n11_9 => ?_)
  refine bk_sw_c (fun e11_10 => absurd e11_10 (by decide)) (fun n11_10 => ?_)
  refine bk_sw_c (fun e11_11 => ?_) (fun n11_11 => absurd rfl n11_11)
  refine bg_aload2 rfl ?_
  refine bg_getfield rfl rfl hM.R.1 (by rfl) ?_
  refine bg_aload2 rfl ?_
  refine bg_getfield rfl rfl hM.R.1 (by rfl) ?_
  rw [z3 2 (by decide)]
  refine bg_iconst rfl ?_
  refine bg_isub rfl ?_
  rw [hsub]
  refine bg_aload0 rfl ?_
  refine bg_iload1 rfl ?_
  refine bg_virt1 rfl rfl rfl rfl ⟨_, hM.Y⟩ ?_
  refine mt_number hM n1 n2 n3 (by omega) (bk_Ki ?_)
  rw [← n4]
  refine bg_iastore_n rfl (pR5 hM.R) (by decide) (by omega) (fun h168 f168 g168 => ?_)
  have hM := hM.cc4 f168 g168
  refine bg_aload0 rfl ?_
  refine bg_iload1 rfl ?_
  refine bg_iconst rfl ?_
  refine bg_iconst rfl ?_
  refine bg_virt3 rfl rfl rfl rfl ⟨_, hM.Y⟩ ?_
  refine mt_inRange hM n1 n2 n3 (by omega) (bk_Ki ?_)
  refine bg_iret rfl rfl (by rfl) ?_
  refine bk_Ki ?_
  refine bg_iret rfl rfl (by rfl) ?_
  rw [← n4, ← hce]
  exact hQ _ _ _ _ hM ⟨rfl, rfl, rfl⟩ (fun _ => ZH_s hZ rfl (fun k _ => rfl) (fun q => absurd (hk.symm.trans q.1) (by decide)) (fun m hm3 => by rw [hnm m hm3]; exact z3 m hm3) (by rw [hnn]; exact z4) (fun j _ => rfl) (fun j hj => by rw [hza]; exact uA_cg z6 (by decide) j hj) (fun j hj => if_neg (by omega)))
theorem mt_err12 (hf : ∀ i, i < N → f i = Kd i) (hN : N ≤ 401) (hE : E ≤ N) (hi : idx < E) (hok : ∀ j, j < idx → ckE f g rows j = 0) (hT : OKT Kd idx) (hw : ∀ q ∈ rows, q.length = 2) (hl : rows.length = N) (hF1 : F 1 = Fx 1) (hF2 : F 2 = Fx 2) (hm : NMk Fx Kd N T g) (hV : NVk Fx Kd N T nv) (hnv : Kd idx = 31 → rG rows (nI idx) 1 = nv idx) (hM : MT h0 h y u v T P S K C J F K2 C2) (hZ : ZH f g rows Kd nv Cb E Kz Cz idx F K2 C2) (hk : Kd idx = 31) (hb : pvF Kd idx = 9) (hQ : ∀ (h' : bk_H) (F' : rA) (K2' : rI) (C2' : rA), MT h0 h' y u v T P S K C J F' K2' C2' → (F' 0 = F 0 ∧ F' 1 = F 1 ∧ F' 2 = F 2) → (ckE f g rows idx = 0 → ZH f g rows Kd nv Cb E Kz Cz (idx + 1) F' K2' C2') → Q (.inl (some (.int (ckE f g rows idx)))) h' n) : bk_wp V (D + 6) 192 [.ref y, .int (nI idx)] h n B Q := by
  have hrof : rof Kd idx = 12 := by
    unfold rof roF
    rw [hk, hb]
    rfl
  obtain ⟨z1, z2, z3, z4, z5, z6, z7⟩ := id hZ
  have hi2 : idx < N := by omega
  have hrl : F 3 idx = 12 := (z1 idx hi).trans hrof
  have hF3 : ∀ k, k ≤ idx → F 3 k = rof Kd k := fun k hk => z1 k (by omega)
  have hLL := ckS_L (f := f) (g := g) (rows := rows) hf hN hok (show idx ≤ N by omega)
  have hlen := ckS_len (f := f) (g := g) (rows := rows) hf hN idx (by omega) hok
  obtain ⟨hno, hno24⟩ := ckS_n (f := f) (g := g) (rows := rows) hf hN idx (by omega) hok
  obtain ⟨hrw1, hrw2, hrw3⟩ := ckS_rows (f := f) (g := g) (rows := rows) hw (by omega) idx (by omega)
  have hnm : ∀ m, m < 3 → nmI Kd m (idx + 1) = nmI Kd m idx := fun m hm => by
    have : ¬ rof Kd idx = nI (m + 1) := by
      rw [hrof]
      have m3 : m = 0 ∨ m = 1 ∨ m = 2 := by omega
      rcases m3 with rfl | rfl | rfl <;> decide
    rw [nmI_s, if_neg this]
    exact List.append_nil _
  have hnn : noI Kd (idx + 1) = noI Kd idx := by
    show noI Kd idx + _ = _
    rw [if_neg (by rw [hk]; decide)]
    exact Nat.add_zero _
  have hce : ckE f g rows idx = if ¬ nv idx < 1 ∧ ¬ 30 < nv idx then 0 else 5 := by
    unfold ckE
    rw [ck1_k hf hN hi2, if_neg (by rw [hk]; decide), if_pos hk, rG_nI (by omega), hrw3 idx 1 (Or.inl (Nat.le_refl _)), ← rG_nI (by omega), hnv hk, hb]
    show (if decide (¬ nv idx < 1 ∧ ¬ 30 < nv idx) = true then (0 : Int32) else 5) = _
    by_cases c : ¬ nv idx < 1 ∧ ¬ 30 < nv idx
    · rw [if_pos (decide_eq_true c), if_pos c]
    · rw [if_neg (fun q => c (of_decide_eq_true q)), if_neg c]
  have hza : zA f g rows Kd nv Cb (idx + 1) = uA (zA f g rows Kd nv Cb idx) 5 (upd (zA f g rows Kd nv Cb idx 5) ((nmI Kd 2 idx).length - 1) (nv idx)) := by
    show zStep f g rows Kd nv idx (zA f g rows Kd nv Cb idx) = _
    unfold zStep
    rw [hrof]
    rfl
  obtain ⟨ko, ko1, ko2⟩ := hT.2.2.1 (by rw [hrof]; decide)
  have hp1 : 1 ≤ (nmI Kd 2 idx).length := nmI_pos ko1 ko2
  have hl5 : (nmI Kd 2 idx).length ≤ 6 := hlen 2 (by decide)
  have hsub : nI (nmI Kd 2 idx).length - 1 = nI ((nmI Kd 2 idx).length - 1) := by
    obtain ⟨q, hq⟩ : ∃ q, (nmI Kd 2 idx).length = q + 1 := ⟨(nmI Kd 2 idx).length - 1, by omega⟩
    rw [hq]
    exact nI_dn q
  obtain ⟨s0, l0, n1, n2, n3, n4⟩ := hV idx hi2 hk
  rw [← hF1] at n1
  rw [← hF2] at n2
  refine bg_in rfl rfl ?_
  refine bg_aload0 rfl ?_
  refine bg_getfield rfl rfl hM.Y (by rfl) ?_
  refine bg_astore2 rfl rfl ?_
  refine bg_iconst rfl ?_
  refine bg_istore3 rfl rfl ?_
  refine bg_aload0 rfl ?_
  refine bg_getfield rfl rfl hM.Y (by rfl) ?_
  refine bg_iload1 rfl ?_
  refine bg_iaload_n rfl hM.f3 (by decide) (by omega) ?_
  rw [hrl]
  refine bg_tsw rfl ?_
  refine bk_sw_c (fun e13_1 => absurd e13_1 (by decide)) (fun n13_1 => ?_)
  refine bk_sw_c (fun e13_2 => absurd e13_2 (by decide)) (fun n13_2 => ?_)
  refine bk_sw_c (fun e13_3 => absurd e13_3 (by decide)) (fun n13_3 => ?_)
  refine bk_sw_c (fun e13_4 => absurd e13_4 (by decide)) (fun n13_4 => ?_)
  refine bk_sw_c (fun e13_5 => absurd e13_5 (by decide)) (fun n13_5 => ?_)
  refine bk_sw_c (fun e13_6 => absurd e13_6 (by decide)) (fun n13_6 => ?_)
  refine bk_sw_c (fun e13_7 => absurd e13_7 (by decide)) (fun n13_7 => ?_)
  refine bk_sw_c (fun e13_8 => absurd e13_8 (by decide)) (fun n13_8 => ?_)
  refine bk_sw_c (fun e13_9 => absurd e13_9 (by decide)) (fun n13_9 => ?_)
  refine bk_sw_c (fun e13_10 => absurd e13_10 (by decide)) (fun n13_10 => ?_)
  refine bk_sw_c (fun e13_11 => absurd e13_11 (by decide)) (fun n13_11 => ?_)
  refine bk_sw_c (fun e13_12 => ?_) (fun n13_12 => absurd rfl n13_12)
  refine bg_aload0 rfl ?_
  refine bg_iload1 rfl ?_
  refine bg_virt1 rfl rfl rfl rfl ⟨_, hM.Y⟩ ?_
  refine bg_in rfl rfl ?_
  refine bg_aload0 rfl ?_
  refine bg_getfield rfl rfl hM.Y (by rfl) ?_
  refine bg_astore2 rfl rfl ?_
  refine bg_aload0 rfl ?_
  refine bg_getfield rfl rfl hM.Y (by rfl) ?_
  refine bg_iload1 rfl ?_
  refine bg_iaload_n rfl hM.f3 (by decide) (by omega) ?_
  rw [hrl]
  refine bg_tsw rfl ?_
  refine bk_sw_c (fun e11_7 => absurd e11_7 (by decide)) (fun n11_7 => ?_)
  refine bk_sw_c (fun e11_8 => absurd e11_8 (by decide)) (fun n11_8 => ?_)
  refine bk_sw_c (fun e11_9 => absurd e11_9 (by decide)) (fun n11_9 => ?_)
  refine bk_sw_c (fun e11_10 => absurd e11_10 (by decide)) (fun n11_10 => ?_)
  refine bk_sw_c (fun e11_11 => absurd e11_11 (by decide)) (fun n11_11 => ?_)
  refine bk_sw_c (fun e11_12 => ?_) (fun n11_12 => absurd rfl n11_12)
  refine bg_aload2 rfl ?_
  refine bg_getfield rfl rfl hM.R.1 (by rfl) ?_
  refine bg_aload2 rfl ?_
  refine bg_getfield rfl rfl hM.R.1 (by rfl) ?_
  rw [z3 2 (by decide)]
  refine bg_iconst rfl ?_
  refine bg_isub rfl ?_
  rw [hsub]
  refine bg_aload0 rfl ?_
  refine bg_iload1 rfl ?_
  refine bg_virt1 rfl rfl rfl rfl ⟨_, hM.Y⟩ ?_
  refine mt_number hM n1 n2 n3 (by omega) (bk_Ki ?_)
  rw [← n4]
  refine bg_iastore_n rfl (pR6 hM.R) (by decide) (by omega) (fun h192 f192 g192 => ?_)
  have hM := hM.cc5 f192 g192
  refine bg_aload0 rfl ?_
  refine bg_iload1 rfl ?_
  refine bg_iconst rfl ?_
  refine bg_bipush rfl ?_
  refine bg_virt3 rfl rfl rfl rfl ⟨_, hM.Y⟩ ?_
  refine mt_inRange hM n1 n2 n3 (by omega) (bk_Ki ?_)
  refine bg_iret rfl rfl (by rfl) ?_
  refine bk_Ki ?_
  refine bg_iret rfl rfl (by rfl) ?_
  rw [← n4, ← hce]
  exact hQ _ _ _ _ hM ⟨rfl, rfl, rfl⟩ (fun _ => ZH_s hZ rfl (fun k _ => rfl) (fun q => absurd (hk.symm.trans q.1) (by decide)) (fun m hm3 => by rw [hnm m hm3]; exact z3 m hm3) (by rw [hnn]; exact z4) (fun j _ => rfl) (fun j hj => by rw [hza]; exact uA_cg z6 (by decide) j hj) (fun j hj => if_neg (by omega)))
theorem mt_err13 (hf : ∀ i, i < N → f i = Kd i) (hN : N ≤ 401) (hE : E ≤ N) (hi : idx < E) (hok : ∀ j, j < idx → ckE f g rows j = 0) (hT : OKT Kd idx) (hw : ∀ q ∈ rows, q.length = 2) (hl : rows.length = N) (hF1 : F 1 = Fx 1) (hF2 : F 2 = Fx 2) (hm : NMk Fx Kd N T g) (hV : NVk Fx Kd N T nv) (hnv : Kd idx = 31 → rG rows (nI idx) 1 = nv idx) (hM : MT h0 h y u v T P S K C J F K2 C2) (hZ : ZH f g rows Kd nv Cb E Kz Cz idx F K2 C2) (hk : Kd idx = 31) (hb : pvF Kd idx = 10) (hQ : ∀ (h' : bk_H) (F' : rA) (K2' : rI) (C2' : rA), MT h0 h' y u v T P S K C J F' K2' C2' → (F' 0 = F 0 ∧ F' 1 = F 1 ∧ F' 2 = F 2) → (ckE f g rows idx = 0 → ZH f g rows Kd nv Cb E Kz Cz (idx + 1) F' K2' C2') → Q (.inl (some (.int (ckE f g rows idx)))) h' n) : bk_wp V (D + 6) 192 [.ref y, .int (nI idx)] h n B Q := by
  have hrof : rof Kd idx = 13 := by
    unfold rof roF
    rw [hk, hb]
    rfl
  obtain ⟨z1, z2, z3, z4, z5, z6, z7⟩ := id hZ
  have hi2 : idx < N := by omega
  have hrl : F 3 idx = 13 := (z1 idx hi).trans hrof
  have hF3 : ∀ k, k ≤ idx → F 3 k = rof Kd k := fun k hk => z1 k (by omega)
  have hLL := ckS_L (f := f) (g := g) (rows := rows) hf hN hok (show idx ≤ N by omega)
  have hlen := ckS_len (f := f) (g := g) (rows := rows) hf hN idx (by omega) hok
  obtain ⟨hno, hno24⟩ := ckS_n (f := f) (g := g) (rows := rows) hf hN idx (by omega) hok
  obtain ⟨hrw1, hrw2, hrw3⟩ := ckS_rows (f := f) (g := g) (rows := rows) hw (by omega) idx (by omega)
  have hnm : ∀ m, m < 3 → nmI Kd m (idx + 1) = nmI Kd m idx := fun m hm => by
    have : ¬ rof Kd idx = nI (m + 1) := by
      rw [hrof]
      have m3 : m = 0 ∨ m = 1 ∨ m = 2 := by omega
      rcases m3 with rfl | rfl | rfl <;> decide
    rw [nmI_s, if_neg this]
    exact List.append_nil _
  have hnn : noI Kd (idx + 1) = noI Kd idx := by
    show noI Kd idx + _ = _
    rw [if_neg (by rw [hk]; decide)]
    exact Nat.add_zero _
  have hce : ckE f g rows idx = if ¬ nv idx < 1 ∧ ¬ 99 < nv idx then 0 else 5 := by
    unfold ckE
    rw [ck1_k hf hN hi2, if_neg (by rw [hk]; decide), if_pos hk, rG_nI (by omega), hrw3 idx 1 (Or.inl (Nat.le_refl _)), ← rG_nI (by omega), hnv hk, hb]
    show (if decide (¬ nv idx < 1 ∧ ¬ 99 < nv idx) = true then (0 : Int32) else 5) = _
    by_cases c : ¬ nv idx < 1 ∧ ¬ 99 < nv idx
    · rw [if_pos (decide_eq_true c), if_pos c]
    · rw [if_neg (fun q => c (of_decide_eq_true q)), if_neg c]
  have hza : zA f g rows Kd nv Cb (idx + 1) = uA (zA f g rows Kd nv Cb idx) 6 (upd (zA f g rows Kd nv Cb idx 6) ((nmI Kd 2 idx).length - 1) (nv idx)) := by
    show zStep f g rows Kd nv idx (zA f g rows Kd nv Cb idx) = _
    unfold zStep
    rw [hrof]
    rfl
  obtain ⟨ko, ko1, ko2⟩ := hT.2.2.1 (by rw [hrof]; decide)
  have hp1 : 1 ≤ (nmI Kd 2 idx).length := nmI_pos ko1 ko2
  have hl5 : (nmI Kd 2 idx).length ≤ 6 := hlen 2 (by decide)
  have hsub : nI (nmI Kd 2 idx).length - 1 = nI ((nmI Kd 2 idx).length - 1) := by
    obtain ⟨q, hq⟩ : ∃ q, (nmI Kd 2 idx).length = q + 1 := ⟨(nmI Kd 2 idx).length - 1, by omega⟩
    rw [hq]
    exact nI_dn q
  obtain ⟨s0, l0, n1, n2, n3, n4⟩ := hV idx hi2 hk
  rw [← hF1] at n1
  rw [← hF2] at n2
  refine bg_in rfl rfl ?_
  refine bg_aload0 rfl ?_
  refine bg_getfield rfl rfl hM.Y (by rfl) ?_
  refine bg_astore2 rfl rfl ?_
  refine bg_iconst rfl ?_
  refine bg_istore3 rfl rfl ?_
  refine bg_aload0 rfl ?_
  refine bg_getfield rfl rfl hM.Y (by rfl) ?_
  refine bg_iload1 rfl ?_
  refine bg_iaload_n rfl hM.f3 (by decide) (by omega) ?_
  rw [hrl]
  refine bg_tsw rfl ?_
  refine bk_sw_c (fun e13_1 => absurd e13_1 (by decide)) (fun n13_1 => ?_)
  refine bk_sw_c (fun e13_2 => absurd e13_2 (by decide)) (fun n13_2 => ?_)
  refine bk_sw_c (fun e13_3 => absurd e13_3 (by decide)) (fun n13_3 => ?_)
  refine bk_sw_c (fun e13_4 => absurd e13_4 (by decide)) (fun n13_4 => ?_)
  refine bk_sw_c (fun e13_5 => absurd e13_5 (by decide)) (fun n13_5 => ?_)
  refine bk_sw_c (fun e13_6 => absurd e13_6 (by decide)) (fun n13_6 => ?_)
  refine bk_sw_c (fun e13_7 => absurd e13_7 (by decide)) (fun n13_7 => ?_)
  refine bk_sw_c (fun e13_8 => absurd e13_8 (by decide)) (fun n13_8 => ?_)
  refine bk_sw_c (fun e13_9 => absurd e13_9 (by decide)) (fun n13_9 => ?_)
  refine bk_sw_c (fun e13_10 => absurd e13_10 (by decide)) (fun n13_10 => ?_)
  refine bk_sw_c (fun e13_11 => absurd e13_11 (by decide)) (fun n13_11 => ?_)
  refine bk_sw_c (fun e13_12 => absurd e13_12 (by decide)) (fun n13_12 => ?_)
  refine bk_sw_c (fun e13_13 => ?_) (fun n13_13 => absurd rfl n13_13)
  refine bg_aload0 rfl ?_
  refine bg_iload1 rfl ?_
  refine bg_virt1 rfl rfl rfl rfl ⟨_, hM.Y⟩ ?_
  refine bg_in rfl rfl ?_
  refine bg_aload0 rfl ?_
  refine bg_getfield rfl rfl hM.Y (by rfl) ?_
  refine bg_astore2 rfl rfl ?_
  refine bg_aload0 rfl ?_
  refine bg_getfield rfl rfl hM.Y (by rfl) ?_
  refine bg_iload1 rfl ?_
  refine bg_iaload_n rfl hM.f3 (by decide) (by omega) ?_
  rw [hrl]
  refine bg_tsw rfl ?_
  refine bk_sw_c (fun e11_7 => absurd e11_7 (by decide)) (fun n11_7 => ?_)
  refine bk_sw_c (fun e11_8 => absurd e11_8 (by decide)) (fun n11_8 => ?_)
  refine bk_sw_c (fun e11_9 => absurd e11_9 (by decide)) (fun n11_9 => ?_)
  refine bk_sw_c (fun e11_10 => absurd e11_10 (by decide)) (fun n11_10 => ?_)
  refine bk_sw_c (fun e11_11 => absurd e11_11 (by decide)) (fun n11_11 => ?_)
  refine bk_sw_c (fun e11_12 => absurd e11_12 (by decide)) (fun n11_12 => ?_)
  refine bk_sw_c (fun e11_13 => ?_) (fun n11_13 => absurd rfl n11_13)
  refine bg_aload2 rfl ?_
  refine bg_getfield rfl rfl hM.R.1 (by rfl) ?_
  refine bg_aload2 rfl ?_
  refine bg_getfield rfl rfl hM.R.1 (by rfl) ?_
  rw [z3 2 (by decide)]
  refine bg_iconst rfl ?_
  refine bg_isub rfl ?_
  rw [hsub]
  refine bg_aload0 rfl ?_
  refine bg_iload1 rfl ?_
  refine bg_virt1 rfl rfl rfl rfl ⟨_, hM.Y⟩ ?_
  refine mt_number hM n1 n2 n3 (by omega) (bk_Ki ?_)
  rw [← n4]
  refine bg_iastore_n rfl (pR7 hM.R) (by decide) (by omega) (fun h217 f217 g217 => ?_)
  have hM := hM.cc6 f217 g217
  refine bg_aload0 rfl ?_
  refine bg_iload1 rfl ?_
  refine bg_iconst rfl ?_
  refine bg_bipush rfl ?_
  refine bg_virt3 rfl rfl rfl rfl ⟨_, hM.Y⟩ ?_
  refine mt_inRange hM n1 n2 n3 (by omega) (bk_Ki ?_)
  refine bg_iret rfl rfl (by rfl) ?_
  refine bk_Ki ?_
  refine bg_iret rfl rfl (by rfl) ?_
  rw [← n4, ← hce]
  exact hQ _ _ _ _ hM ⟨rfl, rfl, rfl⟩ (fun _ => ZH_s hZ rfl (fun k _ => rfl) (fun q => absurd (hk.symm.trans q.1) (by decide)) (fun m hm3 => by rw [hnm m hm3]; exact z3 m hm3) (by rw [hnn]; exact z4) (fun j _ => rfl) (fun j hj => by rw [hza]; exact uA_cg z6 (by decide) j hj) (fun j hj => if_neg (by omega)))
theorem mt_err0 (hf : ∀ i, i < N → f i = Kd i) (hN : N ≤ 401) (hE : E ≤ N) (hi : idx < E) (hok : ∀ j, j < idx → ckE f g rows j = 0) (hT : OKT Kd idx) (hw : ∀ q ∈ rows, q.length = 2) (hl : rows.length = N) (hF1 : F 1 = Fx 1) (hF2 : F 2 = Fx 2) (hm : NMk Fx Kd N T g) (hV : NVk Fx Kd N T nv) (hnv : Kd idx = 31 → rG rows (nI idx) 1 = nv idx) (hM : MT h0 h y u v T P S K C J F K2 C2) (hZ : ZH f g rows Kd nv Cb E Kz Cz idx F K2 C2) (hrof : rof Kd idx = 0) (hk30 : ¬ Kd idx = 30) (hord : ¬ (Kd idx = 11 ∨ Kd idx = 13 ∨ Kd idx = 15)) (hce : ckE f g rows idx = 0) (hQ : ∀ (h' : bk_H) (F' : rA) (K2' : rI) (C2' : rA), MT h0 h' y u v T P S K C J F' K2' C2' → (F' 0 = F 0 ∧ F' 1 = F 1 ∧ F' 2 = F 2) → (ckE f g rows idx = 0 → ZH f g rows Kd nv Cb E Kz Cz (idx + 1) F' K2' C2') → Q (.inl (some (.int (ckE f g rows idx)))) h' n) : bk_wp V (D + 6) 192 [.ref y, .int (nI idx)] h n B Q := by
  obtain ⟨z1, z2, z3, z4, z5, z6, z7⟩ := id hZ
  have hi2 : idx < N := by omega
  have hrl : F 3 idx = 0 := (z1 idx hi).trans hrof
  have hF3 : ∀ k, k ≤ idx → F 3 k = rof Kd k := fun k hk => z1 k (by omega)
  have hLL := ckS_L (f := f) (g := g) (rows := rows) hf hN hok (show idx ≤ N by omega)
  have hlen := ckS_len (f := f) (g := g) (rows := rows) hf hN idx (by omega) hok
  obtain ⟨hno, hno24⟩ := ckS_n (f := f) (g := g) (rows := rows) hf hN idx (by omega) hok
  obtain ⟨hrw1, hrw2, hrw3⟩ := ckS_rows (f := f) (g := g) (rows := rows) hw (by omega) idx (by omega)
  have hnm : ∀ m, m < 3 → nmI Kd m (idx + 1) = nmI Kd m idx := fun m hm => by
    have : ¬ rof Kd idx = nI (m + 1) := by
      rw [hrof]
      have m3 : m = 0 ∨ m = 1 ∨ m = 2 := by omega
      rcases m3 with rfl | rfl | rfl <;> decide
    rw [nmI_s, if_neg this]
    exact List.append_nil _
  have hnn : noI Kd (idx + 1) = noI Kd idx := by
    show noI Kd idx + _ = _
    rw [if_neg hord]
    exact Nat.add_zero _
  have hza : zA f g rows Kd nv Cb (idx + 1) = zA f g rows Kd nv Cb idx := by
    show zStep f g rows Kd nv idx (zA f g rows Kd nv Cb idx) = _
    unfold zStep
    rw [hrof]
    rfl
  refine bg_in rfl rfl ?_
  refine bg_aload0 rfl ?_
  refine bg_getfield rfl rfl hM.Y (by rfl) ?_
  refine bg_astore2 rfl rfl ?_
  refine bg_iconst rfl ?_
  refine bg_istore3 rfl rfl ?_
  refine bg_aload0 rfl ?_
  refine bg_getfield rfl rfl hM.Y (by rfl) ?_
  refine bg_iload1 rfl ?_
  refine bg_iaload_n rfl hM.f3 (by decide) (by omega) ?_
  rw [hrl]
  refine bg_tsw rfl ?_
  refine bk_sw_c (fun e13_1 => absurd e13_1 (by decide)) (fun n13_1 => ?_)
  refine bk_sw_c (fun e13_2 => absurd e13_2 (by decide)) (fun n13_2 => ?_)
  refine bk_sw_c (fun e13_3 => absurd e13_3 (by decide)) (fun n13_3 => ?_)
  refine bk_sw_c (fun e13_4 => absurd e13_4 (by decide)) (fun n13_4 => ?_)
  refine bk_sw_c (fun e13_5 => absurd e13_5 (by decide)) (fun n13_5 => ?_)
  refine bk_sw_c (fun e13_6 => absurd e13_6 (by decide)) (fun n13_6 => ?_)
  refine bk_sw_c (fun e13_7 => absurd e13_7 (by decide)) (fun n13_7 => ?_)
  refine bk_sw_c (fun e13_8 => absurd e13_8 (by decide)) (fun n13_8 => ?_)
  refine bk_sw_c (fun e13_9 => absurd e13_9 (by decide)) (fun n13_9 => ?_)
  refine bk_sw_c (fun e13_10 => absurd e13_10 (by decide)) (fun n13_10 => ?_)
  refine bk_sw_c (fun e13_11 => absurd e13_11 (by decide)) (fun n13_11 => ?_)
  refine bk_sw_c (fun e13_12 => absurd e13_12 (by decide)) (fun n13_12 => ?_)
  refine bk_sw_c (fun e13_13 => absurd e13_13 (by decide)) (fun n13_13 => ?_)
  refine bk_sw_c (fun e13_14 => absurd e13_14 (by decide)) (fun n13_14 => ?_)
  refine bk_sw_c (fun e13_15 => absurd e13_15 (by decide)) (fun n13_15 => ?_)
  refine bk_sw_c (fun e13_16 => absurd e13_16 (by decide)) (fun n13_16 => ?_)
  refine bk_sw_c (fun e13_17 => absurd e13_17 (by decide)) (fun n13_17 => ?_)
  refine bk_sw_c (fun e13_18 => absurd e13_18 (by decide)) (fun n13_18 => ?_)
  refine bk_sw_c (fun e13_19 => absurd e13_19 (by decide)) (fun n13_19 => ?_)
  refine bk_sw_c (fun e13_20 => absurd e13_20 (by decide)) (fun n13_20 => ?_)
  refine bk_sw_n ?_
  refine bg_aload0 rfl ?_
  refine bg_iload1 rfl ?_
  refine bg_virt1 rfl rfl rfl rfl ⟨_, hM.Y⟩ ?_
  refine bg_in rfl rfl ?_
  refine bg_aload0 rfl ?_
  refine bg_getfield rfl rfl hM.Y (by rfl) ?_
  refine bg_astore2 rfl rfl ?_
  refine bg_aload0 rfl ?_
  refine bg_getfield rfl rfl hM.Y (by rfl) ?_
  refine bg_iload1 rfl ?_
  refine bg_iaload_n rfl hM.f3 (by decide) (by omega) ?_
  rw [hrl]
  refine bg_tsw rfl ?_
  refine bk_sw_c (fun e11_7 => absurd e11_7 (by decide)) (fun n11_7 => ?_)
  refine bk_sw_c (fun e11_8 => absurd e11_8 (by decide)) (fun n11_8 => ?_)
  refine bk_sw_c (fun e11_9 => absurd e11_9 (by decide)) (fun n11_9 => ?_)
  refine bk_sw_c (fun e11_10 => absurd e11_10 (by decide)) (fun n11_10 => ?_)
  refine bk_sw_c (fun e11_11 => absurd e11_11 (by decide)) (fun n11_11 => ?_)
  refine bk_sw_c (fun e11_12 => absurd e11_12 (by decide)) (fun n11_12 => ?_)
  refine bk_sw_c (fun e11_13 => absurd e11_13 (by decide)) (fun n11_13 => ?_)
  refine bk_sw_n ?_
  refine bg_iconst rfl ?_
  refine bg_iret rfl rfl (by rfl) ?_
  refine bk_Ki ?_
  refine bg_iret rfl rfl (by rfl) ?_
  rw [← hce]
  exact hQ _ _ _ _ hM ⟨rfl, rfl, rfl⟩ (fun _ => ZH_s hZ rfl (fun k _ => rfl) (fun q => absurd q.1 hk30) (fun m hm3 => by rw [hnm m hm3]; exact z3 m hm3) (by rw [hnn]; exact z4) (fun j _ => rfl) (fun j hj => by rw [hza]; exact z6 j hj) (fun j _ => rfl))
end MM
