/-! THE LAW: what holds between its calls. -/
theorem nI_ad {a b : Nat} : nI a + nI b = nI (a + b) := (Int32.ofNat_add a b).symm
theorem GI_w {P : Nat → bT} {S : bS} {H : Nat} {v : Int32} (h : GI P H S) : GI P H (upd S.1 1 v, S.2) := ⟨h.1, h.2.1, h.2.2.1, h.2.2.2⟩
theorem GI_t {P : Nat → bT} {S : bS} {H : Nat} {v : Int32} (h : GI P H S) : GI P H (upd S.1 2 v, S.2) := ⟨h.1, h.2.1, h.2.2.1, h.2.2.2⟩
theorem GI_1 {P : Nat → bT} {S : bS} {H : Nat} {t : bT} (h : GI P H S) : GI P H (S.1, uT S.2 1 t) := ⟨h.1, h.2.1, h.2.2.1, h.2.2.2⟩
theorem GI_0 {P : Nat → bT} {S : bS} {H : Nat} {t : bT} (h : GI P H S) : GI P H (S.1, uT S.2 0 t) := ⟨h.1, h.2.1, h.2.2.1, h.2.2.2⟩
theorem GI_3 {P : Nat → bT} {S : bS} {H : Nat} {t : bT} (h : GI P H S) (ht : t.length ≤ (S.2 3).length) : GI P H (S.1, uT S.2 3 t) := ⟨h.1, h.2.1, h.2.2.1, Nat.le_trans ht h.2.2.2⟩
theorem GI_up {P : Nat → bT} {S : bS} {H H' : Nat} (h : GI P H S) (hH : H ≤ H') : GI P H' S := by
  obtain ⟨a, b, ⟨m, k, c1, c2, c3, c4⟩, e⟩ := h
  exact ⟨a, b, ⟨m, k, c1, c2, by omega, by omega⟩, e⟩
/-- the law's places: the int array at a (m long), the component x, the model y, the long at o -/
def LW (n a x y o : Nat) : Prop := a < x ∧ x + 70 ≤ y ∧ y + 51 ≤ o ∧ o < n
/-- the script, outside the abstract heap -/
def AV (V : bk_V) (a m : Nat) (w : Nat → Int32) : Prop := V.1 = a ∧ V.2.1 = m ∧ V.2.2.1 = w
theorem bg_iaload_v {V : bk_V} {d j pc nx : Nat} {B : Nat × Nat} {Q : bk_R → bk_H → Nat → Prop} {L : bk_L} {r : List Value} {h : bk_H} {n : Nat} {cs : Nat × Nat} {c : Int32} {sw : List (Int32 × Nat)} {i a m : Nat} {w : Nat → Int32} (hi : bk_ins j pc = some (.iaload, nx, sw, c)) (ha : AV V a m w) (hm : m < 2 ^ 31) (hv : i < m) (z : bk_g V d j B Q nx L (.int (w i) :: r) h n cs) : bk_g V d j B Q pc L (.int (nI i) :: .ref a :: r) h n cs := by
  obtain ⟨rfl, rfl, rfl⟩ := ha
  refine bg_iaload_s hi (vp_in_nI hv hm) ?_
  rw [nI_clamp (Nat.lt_trans hv hm)]
  exact z
theorem bg_alen_v {V : bk_V} {d j pc nx : Nat} {B : Nat × Nat} {Q : bk_R → bk_H → Nat → Prop} {L : bk_L} {r : List Value} {h : bk_H} {n : Nat} {cs : Nat × Nat} {c : Int32} {sw : List (Int32 × Nat)} {a m : Nat} {w : Nat → Int32} (hi : bk_ins j pc = some (.arraylength, nx, sw, c)) (ha : AV V a m w) (z : bk_g V d j B Q nx L (.int (nI m) :: r) h n cs) : bk_g V d j B Q pc L (.ref a :: r) h n cs := by
  obtain ⟨rfl, rfl, rfl⟩ := ha
  exact bg_alen_s hi z
/-- what holds between the calls -/
def LI (V : bk_V) (h : bk_H) (n a m : Nat) (w : Nat → Int32) (x y o H : Nat) : Prop :=
  ∃ (u v : Nat) (T : List Int32) (P : Nat → bT) (S : bS) (J K : rI) (C : rA) (ep : Int32) (gl : Nat → Int64), CM h x T P S ep ∧ MD h y u v T P S J K C ∧ J 2 = ep ∧ WP P ∧ OV P ∧ GI P H S ∧ S.1 7 = -1 ∧ LO1 h o gl ∧ AV V a m w ∧ (u + 16 ≤ n ∧ ((y + 7 ≤ u ∧ u + 16 ≤ y + 23) ∨ o < u))
theorem LI_ar {V : bk_V} {h : bk_H} {n a m x y o H : Nat} {w : Nat → Int32} (z : LI V h n a m w x y o H) : AV V a m w := by
  obtain ⟨_, _, _, _, _, _, _, _, _, _, _, _, _, _, _, _, _, _, k, _⟩ := z
  exact k
