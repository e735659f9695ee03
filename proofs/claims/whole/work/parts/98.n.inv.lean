/-! THE LAW: what holds between its calls. -/
theorem nI_ad {a b : Nat} : nI a + nI b = nI (a + b) := (Int32.ofNat_add a b).symm
theorem GI_w {P : Nat → bT} {S : bS} {H : Nat} {v : Int32} (h : GI P H S) : GI P H (upd S.1 1 v, S.2) := ⟨h.1, h.2.1, h.2.2.1, h.2.2.2⟩
theorem GI_t {P : Nat → bT} {S : bS} {H : Nat} {v : Int32} (h : GI P H S) : GI P H (upd S.1 2 v, S.2) := ⟨h.1, h.2.1, h.2.2.1, h.2.2.2⟩
theorem GI_1 {P : Nat → bT} {S : bS} {H : Nat} {t : bT} (h : GI P H S) : GI P H (S.1, uT S.2 1 t) := ⟨h.1, h.2.1, h.2.2.1, h.2.2.2⟩
theorem GI_0 {P : Nat → bT} {S : bS} {H : Nat} {t : bT} (h : GI P H S) : GI P H (S.1, uT S.2 0 t) := ⟨h.1, h.2.1, h.2.2.1, h.2.2.2⟩
theorem GI_3 {P : Nat → bT} {S : bS} {H : Nat} {t : bT} (h : GI P H S) (ht : t.length ≤ (S.2 3).length) : GI P H (S.1, uT S.2 3 t) := ⟨h.1, h.2.1, h.2.2.1, Nat.le_trans ht h.2.2.2⟩
theorem GI_up {P : Nat → bT} {S : bS} {H H' : Nat} (h : GI P H S) (hH : H ≤ H') : GI P H' S := by
  obtain ⟨a, b, ⟨m, k, c1, c2, c3, c4⟩, e⟩ := h
  exact ⟨a, b, ⟨m, k, c1, c2, by omega, by omega⟩, e⟩
/-- the law's places: the int array at a (m long), the component x, the model y, the long at o -/
def LW (n a x y o : Nat) : Prop := a < x ∧ x + 70 ≤ y ∧ y + 51 ≤ o ∧ o < n
/-- what holds between the calls -/
def LI (h : bk_H) (n a m : Nat) (w : Nat → Int32) (x y o H : Nat) : Prop :=
  ∃ (u v : Nat) (T : List Int32) (P : Nat → bT) (S : bS) (J K : rI) (C : rA) (ep : Int32) (gl : Nat → Int64), CM h x T P S ep ∧ MD h y u v T P S J K C ∧ J 2 = ep ∧ WP P ∧ OV P ∧ GI P H S ∧ S.1 7 = -1 ∧ LO1 h o gl ∧ AR h a m w ∧ (u + 16 ≤ n ∧ ((y + 7 ≤ u ∧ u + 16 ≤ y + 23) ∨ o < u))
theorem LI_ar {h : bk_H} {n a m x y o H : Nat} {w : Nat → Int32} (z : LI h n a m w x y o H) : AR h a m w := by
  obtain ⟨_, _, _, _, _, _, _, _, _, _, _, _, _, _, _, _, _, _, k, _⟩ := z
  exact k
