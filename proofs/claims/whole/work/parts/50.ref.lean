/-! THE REFERENCE: Plan at u (numbers I: 0 barks 1 beaters 2 spirits 3 orders 4 ordersRead 5 size 6 opens; rows A: 0 raw 1 fibre 2 hand 3 every 4 folds 5 cuts 6 price 7 sort 8 who 9 where 10 sum 11 sumEnd 12 tested 13 code 14 open), State at r of the model at y
(numbers I: 0 hour 1 weather 2 tourists 3 coins 4 made 5 cut 6 sheets 7 figures 8 spared; rows A: 0 raw 1 soaked 2 board 3 every 4 sold 5 of 6 thick 7 wet 8 mouldy 9 spirit 10 beauty 11 at 12 stack). Printed by wip/whole/mk50.py. -/
abbrev rA : Type := Nat → Nat → Int32
abbrev rI : Type := Nat → Int32
def uA (A : rA) (k : Nat) (f : Nat → Int32) : rA := fun j => if j = k then f else A j
def AR (h : bk_H) (a m : Nat) (f : Nat → Int32) : Prop := h a = some (.inl (0, m, .inl f))
def RO (h : bk_H) (r y : Nat) (I : rI) (A : rA) : Prop := h r = some (.inr (12, [.int (I 0), .int (I 1), .int (I 2), .int (I 3), .int (I 4), .int (I 5), .ref (r + 1), .ref (r + 2), .ref (r + 3), .ref (r + 4), .ref (r + 5), .int (I 6), .ref (r + 6), .ref (r + 7), .ref (r + 8), .ref (r + 9), .int (I 7), .ref (r + 10), .ref (r + 11), .ref (r + 12), .int (I 8), .ref (r + 13), .ref y])) ∧ h (r + 1) = some (.inl (0, 5, .inl (A 0))) ∧ h (r + 2) = some (.inl (0, 5, .inl (A 1))) ∧ h (r + 3) = some (.inl (0, 5, .inl (A 2))) ∧ h (r + 4) = some (.inl (0, 6, .inl (A 3))) ∧ h (r + 5) = some (.inl (0, 6, .inl (A 4))) ∧ h (r + 6) = some (.inl (0, 30, .inl (A 5))) ∧ h (r + 7) = some (.inl (0, 30, .inl (A 6))) ∧ h (r + 8) = some (.inl (0, 30, .inl (A 7))) ∧ h (r + 9) = some (.inl (0, 30, .inl (A 8))) ∧ h (r + 10) = some (.inl (0, 30, .inl (A 9))) ∧ h (r + 11) = some (.inl (0, 30, .inl (A 10))) ∧ h (r + 12) = some (.inl (0, 6, .inl (A 11))) ∧ h (r + 13) = some (.inl (0, 400, .inl (A 12)))
def PO (h : bk_H) (u : Nat) (I : rI) (A : rA) : Prop := h u = some (.inr (11, [.int (I 0), .ref (u + 1), .ref (u + 2), .int (I 1), .ref (u + 3), .ref (u + 4), .int (I 2), .ref (u + 5), .ref (u + 6), .ref (u + 7), .int (I 3), .int (I 4), .ref (u + 8), .ref (u + 9), .ref (u + 10), .ref (u + 11), .ref (u + 12), .ref (u + 13), .ref (u + 14), .int (I 5), .ref (u + 15), .int (I 6)])) ∧ h (u + 1) = some (.inl (0, 5, .inl (A 0))) ∧ h (u + 2) = some (.inl (0, 5, .inl (A 1))) ∧ h (u + 3) = some (.inl (0, 6, .inl (A 2))) ∧ h (u + 4) = some (.inl (0, 6, .inl (A 3))) ∧ h (u + 5) = some (.inl (0, 6, .inl (A 4))) ∧ h (u + 6) = some (.inl (0, 6, .inl (A 5))) ∧ h (u + 7) = some (.inl (0, 6, .inl (A 6))) ∧ h (u + 8) = some (.inl (0, 24, .inl (A 7))) ∧ h (u + 9) = some (.inl (0, 24, .inl (A 8))) ∧ h (u + 10) = some (.inl (0, 24, .inl (A 9))) ∧ h (u + 11) = some (.inl (0, 25, .inl (A 10))) ∧ h (u + 12) = some (.inl (0, 25, .inl (A 11))) ∧ h (u + 13) = some (.inl (0, 25, .inl (A 12))) ∧ h (u + 14) = some (.inl (0, 800, .inl (A 13))) ∧ h (u + 15) = some (.inl (0, 400, .inl (A 14)))
theorem RO.kp {h h' : bk_H} {r y : Nat} {I : rI} {A : rA} {lo hi : Nat} (z : RO h r y I A) (w : fr h h' lo hi) (hd : r + 14 ≤ lo ∨ hi ≤ r) : RO h' r y I A := by
  obtain ⟨z0, z1, z2, z3, z4, z5, z6, z7, z8, z9, z10, z11, z12, z13⟩ := z
  exact ⟨(w _ (by omega)).trans z0, (w _ (by omega)).trans z1, (w _ (by omega)).trans z2, (w _ (by omega)).trans z3, (w _ (by omega)).trans z4, (w _ (by omega)).trans z5, (w _ (by omega)).trans z6, (w _ (by omega)).trans z7, (w _ (by omega)).trans z8, (w _ (by omega)).trans z9, (w _ (by omega)).trans z10, (w _ (by omega)).trans z11, (w _ (by omega)).trans z12, (w _ (by omega)).trans z13⟩
theorem RO.a0 {h h' : bk_H} {r y : Nat} {I : rI} {A : rA} {f : Nat → Int32} (z : RO h r y I A) (k : h' (r + 1) = some (.inl (0, 5, .inl f))) (w : ∀ q, q ≠ r + 1 → h' q = h q) : RO h' r y I (uA A 0 f) ∧ fr h h' r (r + 14) := by
  obtain ⟨z0, z1, z2, z3, z4, z5, z6, z7, z8, z9, z10, z11, z12, z13⟩ := z
  exact ⟨⟨(w _ (by omega)).trans z0, k, (w _ (by omega)).trans z2, (w _ (by omega)).trans z3, (w _ (by omega)).trans z4, (w _ (by omega)).trans z5, (w _ (by omega)).trans z6, (w _ (by omega)).trans z7, (w _ (by omega)).trans z8, (w _ (by omega)).trans z9, (w _ (by omega)).trans z10, (w _ (by omega)).trans z11, (w _ (by omega)).trans z12, (w _ (by omega)).trans z13⟩, (fr.one w).wide (by omega) (by omega)⟩
theorem RO.a1 {h h' : bk_H} {r y : Nat} {I : rI} {A : rA} {f : Nat → Int32} (z : RO h r y I A) (k : h' (r + 2) = some (.inl (0, 5, .inl f))) (w : ∀ q, q ≠ r + 2 → h' q = h q) : RO h' r y I (uA A 1 f) ∧ fr h h' r (r + 14) := by
  obtain ⟨z0, z1, z2, z3, z4, z5, z6, z7, z8, z9, z10, z11, z12, z13⟩ := z
  exact ⟨⟨(w _ (by omega)).trans z0, (w _ (by omega)).trans z1, k, (w _ (by omega)).trans z3, (w _ (by omega)).trans z4, (w _ (by omega)).trans z5, (w _ (by omega)).trans z6, (w _ (by omega)).trans z7, (w _ (by omega)).trans z8, (w _ (by omega)).trans z9, (w _ (by omega)).trans z10, (w _ (by omega)).trans z11, (w _ (by omega)).trans z12, (w _ (by omega)).trans z13⟩, (fr.one w).wide (by omega) (by omega)⟩
theorem RO.a2 {h h' : bk_H} {r y : Nat} {I : rI} {A : rA} {f : Nat → Int32} (z : RO h r y I A) (k : h' (r + 3) = some (.inl (0, 5, .inl f))) (w : ∀ q, q ≠ r + 3 → h' q = h q) : RO h' r y I (uA A 2 f) ∧ fr h h' r (r + 14) := by
  obtain ⟨z0, z1, z2, z3, z4, z5, z6, z7, z8, z9, z10, z11, z12, z13⟩ := z
  exact ⟨⟨(w _ (by omega)).trans z0, (w _ (by omega)).trans z1, (w _ (by omega)).trans z2, k, (w _ (by omega)).trans z4, (w _ (by omega)).trans z5, (w _ (by omega)).trans z6, (w _ (by omega)).trans z7, (w _ (by omega)).trans z8, (w _ (by omega)).trans z9, (w _ (by omega)).trans z10, (w _ (by omega)).trans z11, (w _ (by omega)).trans z12, (w _ (by omega)).trans z13⟩, (fr.one w).wide (by omega) (by omega)⟩
theorem RO.a3 {h h' : bk_H} {r y : Nat} {I : rI} {A : rA} {f : Nat → Int32} (z : RO h r y I A) (k : h' (r + 4) = some (.inl (0, 6, .inl f))) (w : ∀ q, q ≠ r + 4 → h' q = h q) : RO h' r y I (uA A 3 f) ∧ fr h h' r (r + 14) := by
  obtain ⟨z0, z1, z2, z3, z4, z5, z6, z7, z8, z9, z10, z11, z12, z13⟩ := z
  exact ⟨⟨(w _ (by omega)).trans z0, (w _ (by omega)).trans z1, (w _ (by omega)).trans z2, (w _ (by omega)).trans z3, k, (w _ (by omega)).trans z5, (w _ (by omega)).trans z6, (w _ (by omega)).trans z7, (w _ (by omega)).trans z8, (w _ (by omega)).trans z9, (w _ (by omega)).trans z10, (w _ (by omega)).trans z11, (w _ (by omega)).trans z12, (w _ (by omega)).trans z13⟩, (fr.one w).wide (by omega) (by omega)⟩
theorem RO.a4 {h h' : bk_H} {r y : Nat} {I : rI} {A : rA} {f : Nat → Int32} (z : RO h r y I A) (k : h' (r + 5) = some (.inl (0, 6, .inl f))) (w : ∀ q, q ≠ r + 5 → h' q = h q) : RO h' r y I (uA A 4 f) ∧ fr h h' r (r + 14) := by
  obtain ⟨z0, z1, z2, z3, z4, z5, z6, z7, z8, z9, z10, z11, z12, z13⟩ := z
  exact ⟨⟨(w _ (by omega)).trans z0, (w _ (by omega)).trans z1, (w _ (by omega)).trans z2, (w _ (by omega)).trans z3, (w _ (by omega)).trans z4, k, (w _ (by omega)).trans z6, (w _ (by omega)).trans z7, (w _ (by omega)).trans z8, (w _ (by omega)).trans z9, (w _ (by omega)).trans z10, (w _ (by omega)).trans z11, (w _ (by omega)).trans z12, (w _ (by omega)).trans z13⟩, (fr.one w).wide (by omega) (by omega)⟩
theorem RO.a5 {h h' : bk_H} {r y : Nat} {I : rI} {A : rA} {f : Nat → Int32} (z : RO h r y I A) (k : h' (r + 6) = some (.inl (0, 30, .inl f))) (w : ∀ q, q ≠ r + 6 → h' q = h q) : RO h' r y I (uA A 5 f) ∧ fr h h' r (r + 14) := by
  obtain ⟨z0, z1, z2, z3, z4, z5, z6, z7, z8, z9, z10, z11, z12, z13⟩ := z
  exact ⟨⟨(w _ (by omega)).trans z0, (w _ (by omega)).trans z1, (w _ (by omega)).trans z2, (w _ (by omega)).trans z3, (w _ (by omega)).trans z4, (w _ (by omega)).trans z5, k, (w _ (by omega)).trans z7, (w _ (by omega)).trans z8, (w _ (by omega)).trans z9, (w _ (by omega)).trans z10, (w _ (by omega)).trans z11, (w _ (by omega)).trans z12, (w _ (by omega)).trans z13⟩, (fr.one w).wide (by omega) (by omega)⟩
theorem RO.a6 {h h' : bk_H} {r y : Nat} {I : rI} {A : rA} {f : Nat → Int32} (z : RO h r y I A) (k : h' (r + 7) = some (.inl (0, 30, .inl f))) (w : ∀ q, q ≠ r + 7 → h' q = h q) : RO h' r y I (uA A 6 f) ∧ fr h h' r (r + 14) := by
  obtain ⟨z0, z1, z2, z3, z4, z5, z6, z7, z8, z9, z10, z11, z12, z13⟩ := z
  exact ⟨⟨(w _ (by omega)).trans z0, (w _ (by omega)).trans z1, (w _ (by omega)).trans z2, (w _ (by omega)).trans z3, (w _ (by omega)).trans z4, (w _ (by omega)).trans z5, (w _ (by omega)).trans z6, k, (w _ (by omega)).trans z8, (w _ (by omega)).trans z9, (w _ (by omega)).trans z10, (w _ (by omega)).trans z11, (w _ (by omega)).trans z12, (w _ (by omega)).trans z13⟩, (fr.one w).wide (by omega) (by omega)⟩
theorem RO.a7 {h h' : bk_H} {r y : Nat} {I : rI} {A : rA} {f : Nat → Int32} (z : RO h r y I A) (k : h' (r + 8) = some (.inl (0, 30, .inl f))) (w : ∀ q, q ≠ r + 8 → h' q = h q) : RO h' r y I (uA A 7 f) ∧ fr h h' r (r + 14) := by
  obtain ⟨z0, z1, z2, z3, z4, z5, z6, z7, z8, z9, z10, z11, z12, z13⟩ := z
  exact ⟨⟨(w _ (by omega)).trans z0, (w _ (by omega)).trans z1, (w _ (by omega)).trans z2, (w _ (by omega)).trans z3, (w _ (by omega)).trans z4, (w _ (by omega)).trans z5, (w _ (by omega)).trans z6, (w _ (by omega)).trans z7, k, (w _ (by omega)).trans z9, (w _ (by omega)).trans z10, (w _ (by omega)).trans z11, (w _ (by omega)).trans z12, (w _ (by omega)).trans z13⟩, (fr.one w).wide (by omega) (by omega)⟩
theorem RO.a8 {h h' : bk_H} {r y : Nat} {I : rI} {A : rA} {f : Nat → Int32} (z : RO h r y I A) (k : h' (r + 9) = some (.inl (0, 30, .inl f))) (w : ∀ q, q ≠ r + 9 → h' q = h q) : RO h' r y I (uA A 8 f) ∧ fr h h' r (r + 14) := by
  obtain ⟨z0, z1, z2, z3, z4, z5, z6, z7, z8, z9, z10, z11, z12, z13⟩ := z
  exact ⟨⟨(w _ (by omega)).trans z0, (w _ (by omega)).trans z1, (w _ (by omega)).trans z2, (w _ (by omega)).trans z3, (w _ (by omega)).trans z4, (w _ (by omega)).trans z5, (w _ (by omega)).trans z6, (w _ (by omega)).trans z7, (w _ (by omega)).trans z8, k, (w _ (by omega)).trans z10, (w _ (by omega)).trans z11, (w _ (by omega)).trans z12, (w _ (by omega)).trans z13⟩, (fr.one w).wide (by omega) (by omega)⟩
theorem RO.a9 {h h' : bk_H} {r y : Nat} {I : rI} {A : rA} {f : Nat → Int32} (z : RO h r y I A) (k : h' (r + 10) = some (.inl (0, 30, .inl f))) (w : ∀ q, q ≠ r + 10 → h' q = h q) : RO h' r y I (uA A 9 f) ∧ fr h h' r (r + 14) := by
  obtain ⟨z0, z1, z2, z3, z4, z5, z6, z7, z8, z9, z10, z11, z12, z13⟩ := z
  exact ⟨⟨(w _ (by omega)).trans z0, (w _ (by omega)).trans z1, (w _ (by omega)).trans z2, (w _ (by omega)).trans z3, (w _ (by omega)).trans z4, (w _ (by omega)).trans z5, (w _ (by omega)).trans z6, (w _ (by omega)).trans z7, (w _ (by omega)).trans z8, (w _ (by omega)).trans z9, k, (w _ (by omega)).trans z11, (w _ (by omega)).trans z12, (w _ (by omega)).trans z13⟩, (fr.one w).wide (by omega) (by omega)⟩
theorem RO.a10 {h h' : bk_H} {r y : Nat} {I : rI} {A : rA} {f : Nat → Int32} (z : RO h r y I A) (k : h' (r + 11) = some (.inl (0, 30, .inl f))) (w : ∀ q, q ≠ r + 11 → h' q = h q) : RO h' r y I (uA A 10 f) ∧ fr h h' r (r + 14) := by
  obtain ⟨z0, z1, z2, z3, z4, z5, z6, z7, z8, z9, z10, z11, z12, z13⟩ := z
  exact ⟨⟨(w _ (by omega)).trans z0, (w _ (by omega)).trans z1, (w _ (by omega)).trans z2, (w _ (by omega)).trans z3, (w _ (by omega)).trans z4, (w _ (by omega)).trans z5, (w _ (by omega)).trans z6, (w _ (by omega)).trans z7, (w _ (by omega)).trans z8, (w _ (by omega)).trans z9, (w _ (by omega)).trans z10, k, (w _ (by omega)).trans z12, (w _ (by omega)).trans z13⟩, (fr.one w).wide (by omega) (by omega)⟩
theorem RO.a11 {h h' : bk_H} {r y : Nat} {I : rI} {A : rA} {f : Nat → Int32} (z : RO h r y I A) (k : h' (r + 12) = some (.inl (0, 6, .inl f))) (w : ∀ q, q ≠ r + 12 → h' q = h q) : RO h' r y I (uA A 11 f) ∧ fr h h' r (r + 14) := by
  obtain ⟨z0, z1, z2, z3, z4, z5, z6, z7, z8, z9, z10, z11, z12, z13⟩ := z
  exact ⟨⟨(w _ (by omega)).trans z0, (w _ (by omega)).trans z1, (w _ (by omega)).trans z2, (w _ (by omega)).trans z3, (w _ (by omega)).trans z4, (w _ (by omega)).trans z5, (w _ (by omega)).trans z6, (w _ (by omega)).trans z7, (w _ (by omega)).trans z8, (w _ (by omega)).trans z9, (w _ (by omega)).trans z10, (w _ (by omega)).trans z11, k, (w _ (by omega)).trans z13⟩, (fr.one w).wide (by omega) (by omega)⟩
theorem RO.a12 {h h' : bk_H} {r y : Nat} {I : rI} {A : rA} {f : Nat → Int32} (z : RO h r y I A) (k : h' (r + 13) = some (.inl (0, 400, .inl f))) (w : ∀ q, q ≠ r + 13 → h' q = h q) : RO h' r y I (uA A 12 f) ∧ fr h h' r (r + 14) := by
  obtain ⟨z0, z1, z2, z3, z4, z5, z6, z7, z8, z9, z10, z11, z12, z13⟩ := z
  exact ⟨⟨(w _ (by omega)).trans z0, (w _ (by omega)).trans z1, (w _ (by omega)).trans z2, (w _ (by omega)).trans z3, (w _ (by omega)).trans z4, (w _ (by omega)).trans z5, (w _ (by omega)).trans z6, (w _ (by omega)).trans z7, (w _ (by omega)).trans z8, (w _ (by omega)).trans z9, (w _ (by omega)).trans z10, (w _ (by omega)).trans z11, (w _ (by omega)).trans z12, k⟩, (fr.one w).wide (by omega) (by omega)⟩
theorem RO.i0 {h h' : bk_H} {r y : Nat} {I : rI} {A : rA} {x : Int32} (z : RO h r y I A) (k : h' r = some (.inr (12, [.int x, .int (I 1), .int (I 2), .int (I 3), .int (I 4), .int (I 5), .ref (r + 1), .ref (r + 2), .ref (r + 3), .ref (r + 4), .ref (r + 5), .int (I 6), .ref (r + 6), .ref (r + 7), .ref (r + 8), .ref (r + 9), .int (I 7), .ref (r + 10), .ref (r + 11), .ref (r + 12), .int (I 8), .ref (r + 13), .ref y]))) (w : ∀ q, q ≠ r → h' q = h q) : RO h' r y (upd I 0 x) A ∧ fr h h' r (r + 14) := by
  obtain ⟨z0, z1, z2, z3, z4, z5, z6, z7, z8, z9, z10, z11, z12, z13⟩ := z
  exact ⟨⟨k, (w _ (by omega)).trans z1, (w _ (by omega)).trans z2, (w _ (by omega)).trans z3, (w _ (by omega)).trans z4, (w _ (by omega)).trans z5, (w _ (by omega)).trans z6, (w _ (by omega)).trans z7, (w _ (by omega)).trans z8, (w _ (by omega)).trans z9, (w _ (by omega)).trans z10, (w _ (by omega)).trans z11, (w _ (by omega)).trans z12, (w _ (by omega)).trans z13⟩, (fr.one w).wide (by omega) (by omega)⟩
theorem RO.i1 {h h' : bk_H} {r y : Nat} {I : rI} {A : rA} {x : Int32} (z : RO h r y I A) (k : h' r = some (.inr (12, [.int (I 0), .int x, .int (I 2), .int (I 3), .int (I 4), .int (I 5), .ref (r + 1), .ref (r + 2), .ref (r + 3), .ref (r + 4), .ref (r + 5), .int (I 6), .ref (r + 6), .ref (r + 7), .ref (r + 8), .ref (r + 9), .int (I 7), .ref (r + 10), .ref (r + 11), .ref (r + 12), .int (I 8), .ref (r + 13), .ref y]))) (w : ∀ q, q ≠ r → h' q = h q) : RO h' r y (upd I 1 x) A ∧ fr h h' r (r + 14) := by
  obtain ⟨z0, z1, z2, z3, z4, z5, z6, z7, z8, z9, z10, z11, z12, z13⟩ := z
  exact ⟨⟨k, (w _ (by omega)).trans z1, (w _ (by omega)).trans z2, (w _ (by omega)).trans z3, (w _ (by omega)).trans z4, (w _ (by omega)).trans z5, (w _ (by omega)).trans z6, (w _ (by omega)).trans z7, (w _ (by omega)).trans z8, (w _ (by omega)).trans z9, (w _ (by omega)).trans z10, (w _ (by omega)).trans z11, (w _ (by omega)).trans z12, (w _ (by omega)).trans z13⟩, (fr.one w).wide (by omega) (by omega)⟩
theorem RO.i2 {h h' : bk_H} {r y : Nat} {I : rI} {A : rA} {x : Int32} (z : RO h r y I A) (k : h' r = some (.inr (12, [.int (I 0), .int (I 1), .int x, .int (I 3), .int (I 4), .int (I 5), .ref (r + 1), .ref (r + 2), .ref (r + 3), .ref (r + 4), .ref (r + 5), .int (I 6), .ref (r + 6), .ref (r + 7), .ref (r + 8), .ref (r + 9), .int (I 7), .ref (r + 10), .ref (r + 11), .ref (r + 12), .int (I 8), .ref (r + 13), .ref y]))) (w : ∀ q, q ≠ r → h' q = h q) : RO h' r y (upd I 2 x) A ∧ fr h h' r (r + 14) := by
  obtain ⟨z0, z1, z2, z3, z4, z5, z6, z7, z8, z9, z10, z11, z12, z13⟩ := z
  exact ⟨⟨k, (w _ (by omega)).trans z1, (w _ (by omega)).trans z2, (w _ (by omega)).trans z3, (w _ (by omega)).trans z4, (w _ (by omega)).trans z5, (w _ (by omega)).trans z6, (w _ (by omega)).trans z7, (w _ (by omega)).trans z8, (w _ (by omega)).trans z9, (w _ (by omega)).trans z10, (w _ (by omega)).trans z11, (w _ (by omega)).trans z12, (w _ (by omega)).trans z13⟩, (fr.one w).wide (by omega) (by omega)⟩
theorem RO.i3 {h h' : bk_H} {r y : Nat} {I : rI} {A : rA} {x : Int32} (z : RO h r y I A) (k : h' r = some (.inr (12, [.int (I 0), .int (I 1), .int (I 2), .int x, .int (I 4), .int (I 5), .ref (r + 1), .ref (r + 2), .ref (r + 3), .ref (r + 4), .ref (r + 5), .int (I 6), .ref (r + 6), .ref (r + 7), .ref (r + 8), .ref (r + 9), .int (I 7), .ref (r + 10), .ref (r + 11), .ref (r + 12), .int (I 8), .ref (r + 13), .ref y]))) (w : ∀ q, q ≠ r → h' q = h q) : RO h' r y (upd I 3 x) A ∧ fr h h' r (r + 14) := by
  obtain ⟨z0, z1, z2, z3, z4, z5, z6, z7, z8, z9, z10, z11, z12, z13⟩ := z
  exact ⟨⟨k, (w _ (by omega)).trans z1, (w _ (by omega)).trans z2, (w _ (by omega)).trans z3, (w _ (by omega)).trans z4, (w _ (by omega)).trans z5, (w _ (by omega)).trans z6, (w _ (by omega)).trans z7, (w _ (by omega)).trans z8, (w _ (by omega)).trans z9, (w _ (by omega)).trans z10, (w _ (by omega)).trans z11, (w _ (by omega)).trans z12, (w _ (by omega)).trans z13⟩, (fr.one w).wide (by omega) (by omega)⟩
theorem RO.i4 {h h' : bk_H} {r y : Nat} {I : rI} {A : rA} {x : Int32} (z : RO h r y I A) (k : h' r = some (.inr (12, [.int (I 0), .int (I 1), .int (I 2), .int (I 3), .int x, .int (I 5), .ref (r + 1), .ref (r + 2), .ref (r + 3), .ref (r + 4), .ref (r + 5), .int (I 6), .ref (r + 6), .ref (r + 7), .ref (r + 8), .ref (r + 9), .int (I 7), .ref (r + 10), .ref (r + 11), .ref (r + 12), .int (I 8), .ref (r + 13), .ref y]))) (w : ∀ q, q ≠ r → h' q = h q) : RO h' r y (upd I 4 x) A ∧ fr h h' r (r + 14) := by
  obtain ⟨z0, z1, z2, z3, z4, z5, z6, z7, z8, z9, z10, z11, z12, z13⟩ := z
  exact ⟨⟨k, (w _ (by omega)).trans z1, (w _ (by omega)).trans z2, (w _ (by omega)).trans z3, (w _ (by omega)).trans z4, (w _ (by omega)).trans z5, (w _ (by omega)).trans z6, (w _ (by omega)).trans z7, (w _ (by omega)).trans z8, (w _ (by omega)).trans z9, (w _ (by omega)).trans z10, (w _ (by omega)).trans z11, (w _ (by omega)).trans z12, (w _ (by omega)).trans z13⟩, (fr.one w).wide (by omega) (by omega)⟩
theorem RO.i5 {h h' : bk_H} {r y : Nat} {I : rI} {A : rA} {x : Int32} (z : RO h r y I A) (k : h' r = some (.inr (12, [.int (I 0), .int (I 1), .int (I 2), .int (I 3), .int (I 4), .int x, .ref (r + 1), .ref (r + 2), .ref (r + 3), .ref (r + 4), .ref (r + 5), .int (I 6), .ref (r + 6), .ref (r + 7), .ref (r + 8), .ref (r + 9), .int (I 7), .ref (r + 10), .ref (r + 11), .ref (r + 12), .int (I 8), .ref (r + 13), .ref y]))) (w : ∀ q, q ≠ r → h' q = h q) : RO h' r y (upd I 5 x) A ∧ fr h h' r (r + 14) := by
  obtain ⟨z0, z1, z2, z3, z4, z5, z6, z7, z8, z9, z10, z11, z12, z13⟩ := z
  exact ⟨⟨k, (w _ (by omega)).trans z1, (w _ (by omega)).trans z2, (w _ (by omega)).trans z3, (w _ (by omega)).trans z4, (w _ (by omega)).trans z5, (w _ (by omega)).trans z6, (w _ (by omega)).trans z7, (w _ (by omega)).trans z8, (w _ (by omega)).trans z9, (w _ (by omega)).trans z10, (w _ (by omega)).trans z11, (w _ (by omega)).trans z12, (w _ (by omega)).trans z13⟩, (fr.one w).wide (by omega) (by omega)⟩
theorem RO.i6 {h h' : bk_H} {r y : Nat} {I : rI} {A : rA} {x : Int32} (z : RO h r y I A) (k : h' r = some (.inr (12, [.int (I 0), .int (I 1), .int (I 2), .int (I 3), .int (I 4), .int (I 5), .ref (r + 1), .ref (r + 2), .ref (r + 3), .ref (r + 4), .ref (r + 5), .int x, .ref (r + 6), .ref (r + 7), .ref (r + 8), .ref (r + 9), .int (I 7), .ref (r + 10), .ref (r + 11), .ref (r + 12), .int (I 8), .ref (r + 13), .ref y]))) (w : ∀ q, q ≠ r → h' q = h q) : RO h' r y (upd I 6 x) A ∧ fr h h' r (r + 14) := by
  obtain ⟨z0, z1, z2, z3, z4, z5, z6, z7, z8, z9, z10, z11, z12, z13⟩ := z
  exact ⟨⟨k, (w _ (by omega)).trans z1, (w _ (by omega)).trans z2, (w _ (by omega)).trans z3, (w _ (by omega)).trans z4, (w _ (by omega)).trans z5, (w _ (by omega)).trans z6, (w _ (by omega)).trans z7, (w _ (by omega)).trans z8, (w _ (by omega)).trans z9, (w _ (by omega)).trans z10, (w _ (by omega)).trans z11, (w _ (by omega)).trans z12, (w _ (by omega)).trans z13⟩, (fr.one w).wide (by omega) (by omega)⟩
theorem RO.i7 {h h' : bk_H} {r y : Nat} {I : rI} {A : rA} {x : Int32} (z : RO h r y I A) (k : h' r = some (.inr (12, [.int (I 0), .int (I 1), .int (I 2), .int (I 3), .int (I 4), .int (I 5), .ref (r + 1), .ref (r + 2), .ref (r + 3), .ref (r + 4), .ref (r + 5), .int (I 6), .ref (r + 6), .ref (r + 7), .ref (r + 8), .ref (r + 9), .int x, .ref (r + 10), .ref (r + 11), .ref (r + 12), .int (I 8), .ref (r + 13), .ref y]))) (w : ∀ q, q ≠ r → h' q = h q) : RO h' r y (upd I 7 x) A ∧ fr h h' r (r + 14) := by
  obtain ⟨z0, z1, z2, z3, z4, z5, z6, z7, z8, z9, z10, z11, z12, z13⟩ := z
  exact ⟨⟨k, (w _ (by omega)).trans z1, (w _ (by omega)).trans z2, (w _ (by omega)).trans z3, (w _ (by omega)).trans z4, (w _ (by omega)).trans z5, (w _ (by omega)).trans z6, (w _ (by omega)).trans z7, (w _ (by omega)).trans z8, (w _ (by omega)).trans z9, (w _ (by omega)).trans z10, (w _ (by omega)).trans z11, (w _ (by omega)).trans z12, (w _ (by omega)).trans z13⟩, (fr.one w).wide (by omega) (by omega)⟩
theorem RO.i8 {h h' : bk_H} {r y : Nat} {I : rI} {A : rA} {x : Int32} (z : RO h r y I A) (k : h' r = some (.inr (12, [.int (I 0), .int (I 1), .int (I 2), .int (I 3), .int (I 4), .int (I 5), .ref (r + 1), .ref (r + 2), .ref (r + 3), .ref (r + 4), .ref (r + 5), .int (I 6), .ref (r + 6), .ref (r + 7), .ref (r + 8), .ref (r + 9), .int (I 7), .ref (r + 10), .ref (r + 11), .ref (r + 12), .int x, .ref (r + 13), .ref y]))) (w : ∀ q, q ≠ r → h' q = h q) : RO h' r y (upd I 8 x) A ∧ fr h h' r (r + 14) := by
  obtain ⟨z0, z1, z2, z3, z4, z5, z6, z7, z8, z9, z10, z11, z12, z13⟩ := z
  exact ⟨⟨k, (w _ (by omega)).trans z1, (w _ (by omega)).trans z2, (w _ (by omega)).trans z3, (w _ (by omega)).trans z4, (w _ (by omega)).trans z5, (w _ (by omega)).trans z6, (w _ (by omega)).trans z7, (w _ (by omega)).trans z8, (w _ (by omega)).trans z9, (w _ (by omega)).trans z10, (w _ (by omega)).trans z11, (w _ (by omega)).trans z12, (w _ (by omega)).trans z13⟩, (fr.one w).wide (by omega) (by omega)⟩
theorem PO.kp {h h' : bk_H} {u : Nat} {I : rI} {A : rA} {lo hi : Nat} (z : PO h u I A) (w : fr h h' lo hi) (hd : u + 16 ≤ lo ∨ hi ≤ u) : PO h' u I A := by
  obtain ⟨z0, z1, z2, z3, z4, z5, z6, z7, z8, z9, z10, z11, z12, z13, z14, z15⟩ := z
  exact ⟨(w _ (by omega)).trans z0, (w _ (by omega)).trans z1, (w _ (by omega)).trans z2, (w _ (by omega)).trans z3, (w _ (by omega)).trans z4, (w _ (by omega)).trans z5, (w _ (by omega)).trans z6, (w _ (by omega)).trans z7, (w _ (by omega)).trans z8, (w _ (by omega)).trans z9, (w _ (by omega)).trans z10, (w _ (by omega)).trans z11, (w _ (by omega)).trans z12, (w _ (by omega)).trans z13, (w _ (by omega)).trans z14, (w _ (by omega)).trans z15⟩
theorem PO.a0 {h h' : bk_H} {u : Nat} {I : rI} {A : rA} {f : Nat → Int32} (z : PO h u I A) (k : h' (u + 1) = some (.inl (0, 5, .inl f))) (w : ∀ q, q ≠ u + 1 → h' q = h q) : PO h' u I (uA A 0 f) ∧ fr h h' u (u + 16) := by
  obtain ⟨z0, z1, z2, z3, z4, z5, z6, z7, z8, z9, z10, z11, z12, z13, z14, z15⟩ := z
  exact ⟨⟨(w _ (by omega)).trans z0, k, (w _ (by omega)).trans z2, (w _ (by omega)).trans z3, (w _ (by omega)).trans z4, (w _ (by omega)).trans z5, (w _ (by omega)).trans z6, (w _ (by omega)).trans z7, (w _ (by omega)).trans z8, (w _ (by omega)).trans z9, (w _ (by omega)).trans z10, (w _ (by omega)).trans z11, (w _ (by omega)).trans z12, (w _ (by omega)).trans z13, (w _ (by omega)).trans z14, (w _ (by omega)).trans z15⟩, (fr.one w).wide (by omega) (by omega)⟩
theorem PO.a1 {h h' : bk_H} {u : Nat} {I : rI} {A : rA} {f : Nat → Int32} (z : PO h u I A) (k : h' (u + 2) = some (.inl (0, 5, .inl f))) (w : ∀ q, q ≠ u + 2 → h' q = h q) : PO h' u I (uA A 1 f) ∧ fr h h' u (u + 16) := by
  obtain ⟨z0, z1, z2, z3, z4, z5, z6, z7, z8, z9, z10, z11, z12, z13, z14, z15⟩ := z
  exact ⟨⟨(w _ (by omega)).trans z0, (w _ (by omega)).trans z1, k, (w _ (by omega)).trans z3, (w _ (by omega)).trans z4, (w _ (by omega)).trans z5, (w _ (by omega)).trans z6, (w _ (by omega)).trans z7, (w _ (by omega)).trans z8, (w _ (by omega)).trans z9, (w _ (by omega)).trans z10, (w _ (by omega)).trans z11, (w _ (by omega)).trans z12, (w _ (by omega)).trans z13, (w _ (by omega)).trans z14, (w _ (by omega)).trans z15⟩, (fr.one w).wide (by omega) (by omega)⟩
theorem PO.a2 {h h' : bk_H} {u : Nat} {I : rI} {A : rA} {f : Nat → Int32} (z : PO h u I A) (k : h' (u + 3) = some (.inl (0, 6, .inl f))) (w : ∀ q, q ≠ u + 3 → h' q = h q) : PO h' u I (uA A 2 f) ∧ fr h h' u (u + 16) := by
  obtain ⟨z0, z1, z2, z3, z4, z5, z6, z7, z8, z9, z10, z11, z12, z13, z14, z15⟩ := z
  exact ⟨⟨(w _ (by omega)).trans z0, (w _ (by omega)).trans z1, (w _ (by omega)).trans z2, k, (w _ (by omega)).trans z4, (w _ (by omega)).trans z5, (w _ (by omega)).trans z6, (w _ (by omega)).trans z7, (w _ (by omega)).trans z8, (w _ (by omega)).trans z9, (w _ (by omega)).trans z10, (w _ (by omega)).trans z11, (w _ (by omega)).trans z12, (w _ (by omega)).trans z13, (w _ (by omega)).trans z14, (w _ (by omega)).trans z15⟩, (fr.one w).wide (by omega) (by omega)⟩
theorem PO.a3 {h h' : bk_H} {u : Nat} {I : rI} {A : rA} {f : Nat → Int32} (z : PO h u I A) (k : h' (u + 4) = some (.inl (0, 6, .inl f))) (w : ∀ q, q ≠ u + 4 → h' q = h q) : PO h' u I (uA A 3 f) ∧ fr h h' u (u + 16) := by
  obtain ⟨z0, z1, z2, z3, z4, z5, z6, z7, z8, z9, z10, z11, z12, z13, z14, z15⟩ := z
  exact ⟨⟨(w _ (by omega)).trans z0, (w _ (by omega)).trans z1, (w _ (by omega)).trans z2, (w _ (by omega)).trans z3, k, (w _ (by omega)).trans z5, (w _ (by omega)).trans z6, (w _ (by omega)).trans z7, (w _ (by omega)).trans z8, (w _ (by omega)).trans z9, (w _ (by omega)).trans z10, (w _ (by omega)).trans z11, (w _ (by omega)).trans z12, (w _ (by omega)).trans z13, (w _ (by omega)).trans z14, (w _ (by omega)).trans z15⟩, (fr.one w).wide (by omega) (by omega)⟩
theorem PO.a4 {h h' : bk_H} {u : Nat} {I : rI} {A : rA} {f : Nat → Int32} (z : PO h u I A) (k : h' (u + 5) = some (.inl (0, 6, .inl f))) (w : ∀ q, q ≠ u + 5 → h' q = h q) : PO h' u I (uA A 4 f) ∧ fr h h' u (u + 16) := by
  obtain ⟨z0, z1, z2, z3, z4, z5, z6, z7, z8, z9, z10, z11, z12, z13, z14, z15⟩ := z
  exact ⟨⟨(w _ (by omega)).trans z0, (w _ (by omega)).trans z1, (w _ (by omega)).trans z2, (w _ (by omega)).trans z3, (w _ (by omega)).trans z4, k, (w _ (by omega)).trans z6, (w _ (by omega)).trans z7, (w _ (by omega)).trans z8, (w _ (by omega)).trans z9, (w _ (by omega)).trans z10, (w _ (by omega)).trans z11, (w _ (by omega)).trans z12, (w _ (by omega)).trans z13, (w _ (by omega)).trans z14, (w _ (by omega)).trans z15⟩, (fr.one w).wide (by omega) (by omega)⟩
theorem PO.a5 {h h' : bk_H} {u : Nat} {I : rI} {A : rA} {f : Nat → Int32} (z : PO h u I A) (k : h' (u + 6) = some (.inl (0, 6, .inl f))) (w : ∀ q, q ≠ u + 6 → h' q = h q) : PO h' u I (uA A 5 f) ∧ fr h h' u (u + 16) := by
  obtain ⟨z0, z1, z2, z3, z4, z5, z6, z7, z8, z9, z10, z11, z12, z13, z14, z15⟩ := z
  exact ⟨⟨(w _ (by omega)).trans z0, (w _ (by omega)).trans z1, (w _ (by omega)).trans z2, (w _ (by omega)).trans z3, (w _ (by omega)).trans z4, (w _ (by omega)).trans z5, k, (w _ (by omega)).trans z7, (w _ (by omega)).trans z8, (w _ (by omega)).trans z9, (w _ (by omega)).trans z10, (w _ (by omega)).trans z11, (w _ (by omega)).trans z12, (w _ (by omega)).trans z13, (w _ (by omega)).trans z14, (w _ (by omega)).trans z15⟩, (fr.one w).wide (by omega) (by omega)⟩
theorem PO.a6 {h h' : bk_H} {u : Nat} {I : rI} {A : rA} {f : Nat → Int32} (z : PO h u I A) (k : h' (u + 7) = some (.inl (0, 6, .inl f))) (w : ∀ q, q ≠ u + 7 → h' q = h q) : PO h' u I (uA A 6 f) ∧ fr h h' u (u + 16) := by
  obtain ⟨z0, z1, z2, z3, z4, z5, z6, z7, z8, z9, z10, z11, z12, z13, z14, z15⟩ := z
  exact ⟨⟨(w _ (by omega)).trans z0, (w _ (by omega)).trans z1, (w _ (by omega)).trans z2, (w _ (by omega)).trans z3, (w _ (by omega)).trans z4, (w _ (by omega)).trans z5, (w _ (by omega)).trans z6, k, (w _ (by omega)).trans z8, (w _ (by omega)).trans z9, (w _ (by omega)).trans z10, (w _ (by omega)).trans z11, (w _ (by omega)).trans z12, (w _ (by omega)).trans z13, (w _ (by omega)).trans z14, (w _ (by omega)).trans z15⟩, (fr.one w).wide (by omega) (by omega)⟩
theorem PO.a7 {h h' : bk_H} {u : Nat} {I : rI} {A : rA} {f : Nat → Int32} (z : PO h u I A) (k : h' (u + 8) = some (.inl (0, 24, .inl f))) (w : ∀ q, q ≠ u + 8 → h' q = h q) : PO h' u I (uA A 7 f) ∧ fr h h' u (u + 16) := by
  obtain ⟨z0, z1, z2, z3, z4, z5, z6, z7, z8, z9, z10, z11, z12, z13, z14, z15⟩ := z
  exact ⟨⟨(w _ (by omega)).trans z0, (w _ (by omega)).trans z1, (w _ (by omega)).trans z2, (w _ (by omega)).trans z3, (w _ (by omega)).trans z4, (w _ (by omega)).trans z5, (w _ (by omega)).trans z6, (w _ (by omega)).trans z7, k, (w _ (by omega)).trans z9, (w _ (by omega)).trans z10, (w _ (by omega)).trans z11, (w _ (by omega)).trans z12, (w _ (by omega)).trans z13, (w _ (by omega)).trans z14, (w _ (by omega)).trans z15⟩, (fr.one w).wide (by omega) (by omega)⟩
theorem PO.a8 {h h' : bk_H} {u : Nat} {I : rI} {A : rA} {f : Nat → Int32} (z : PO h u I A) (k : h' (u + 9) = some (.inl (0, 24, .inl f))) (w : ∀ q, q ≠ u + 9 → h' q = h q) : PO h' u I (uA A 8 f) ∧ fr h h' u (u + 16) := by
  obtain ⟨z0, z1, z2, z3, z4, z5, z6, z7, z8, z9, z10, z11, z12, z13, z14, z15⟩ := z
  exact ⟨⟨(w _ (by omega)).trans z0, (w _ (by omega)).trans z1, (w _ (by omega)).trans z2, (w _ (by omega)).trans z3, (w _ (by omega)).trans z4, (w _ (by omega)).trans z5, (w _ (by omega)).trans z6, (w _ (by omega)).trans z7, (w _ (by omega)).trans z8, k, (w _ (by omega)).trans z10, (w _ (by omega)).trans z11, (w _ (by omega)).trans z12, (w _ (by omega)).trans z13, (w _ (by omega)).trans z14, (w _ (by omega)).trans z15⟩, (fr.one w).wide (by omega) (by omega)⟩
theorem PO.a9 {h h' : bk_H} {u : Nat} {I : rI} {A : rA} {f : Nat → Int32} (z : PO h u I A) (k : h' (u + 10) = some (.inl (0, 24, .inl f))) (w : ∀ q, q ≠ u + 10 → h' q = h q) : PO h' u I (uA A 9 f) ∧ fr h h' u (u + 16) := by
  obtain ⟨z0, z1, z2, z3, z4, z5, z6, z7, z8, z9, z10, z11, z12, z13, z14, z15⟩ := z
  exact ⟨⟨(w _ (by omega)).trans z0, (w _ (by omega)).trans z1, (w _ (by omega)).trans z2, (w _ (by omega)).trans z3, (w _ (by omega)).trans z4, (w _ (by omega)).trans z5, (w _ (by omega)).trans z6, (w _ (by omega)).trans z7, (w _ (by omega)).trans z8, (w _ (by omega)).trans z9, k, (w _ (by omega)).trans z11, (w _ (by omega)).trans z12, (w _ (by omega)).trans z13, (w _ (by omega)).trans z14, (w _ (by omega)).trans z15⟩, (fr.one w).wide (by omega) (by omega)⟩
theorem PO.a10 {h h' : bk_H} {u : Nat} {I : rI} {A : rA} {f : Nat → Int32} (z : PO h u I A) (k : h' (u + 11) = some (.inl (0, 25, .inl f))) (w : ∀ q, q ≠ u + 11 → h' q = h q) : PO h' u I (uA A 10 f) ∧ fr h h' u (u + 16) := by
  obtain ⟨z0, z1, z2, z3, z4, z5, z6, z7, z8, z9, z10, z11, z12, z13, z14, z15⟩ := z
  exact ⟨⟨(w _ (by omega)).trans z0, (w _ (by omega)).trans z1, (w _ (by omega)).trans z2, (w _ (by omega)).trans z3, (w _ (by omega)).trans z4, (w _ (by omega)).trans z5, (w _ (by omega)).trans z6, (w _ (by omega)).trans z7, (w _ (by omega)).trans z8, (w _ (by omega)).trans z9, (w _ (by omega)).trans z10, k, (w _ (by omega)).trans z12, (w _ (by omega)).trans z13, (w _ (by omega)).trans z14, (w _ (by omega)).trans z15⟩, (fr.one w).wide (by omega) (by omega)⟩
theorem PO.a11 {h h' : bk_H} {u : Nat} {I : rI} {A : rA} {f : Nat → Int32} (z : PO h u I A) (k : h' (u + 12) = some (.inl (0, 25, .inl f))) (w : ∀ q, q ≠ u + 12 → h' q = h q) : PO h' u I (uA A 11 f) ∧ fr h h' u (u + 16) := by
  obtain ⟨z0, z1, z2, z3, z4, z5, z6, z7, z8, z9, z10, z11, z12, z13, z14, z15⟩ := z
  exact ⟨⟨(w _ (by omega)).trans z0, (w _ (by omega)).trans z1, (w _ (by omega)).trans z2, (w _ (by omega)).trans z3, (w _ (by omega)).trans z4, (w _ (by omega)).trans z5, (w _ (by omega)).trans z6, (w _ (by omega)).trans z7, (w _ (by omega)).trans z8, (w _ (by omega)).trans z9, (w _ (by omega)).trans z10, (w _ (by omega)).trans z11, k, (w _ (by omega)).trans z13, (w _ (by omega)).trans z14, (w _ (by omega)).trans z15⟩, (fr.one w).wide (by omega) (by omega)⟩
theorem PO.a12 {h h' : bk_H} {u : Nat} {I : rI} {A : rA} {f : Nat → Int32} (z : PO h u I A) (k : h' (u + 13) = some (.inl (0, 25, .inl f))) (w : ∀ q, q ≠ u + 13 → h' q = h q) : PO h' u I (uA A 12 f) ∧ fr h h' u (u + 16) := by
  obtain ⟨z0, z1, z2, z3, z4, z5, z6, z7, z8, z9, z10, z11, z12, z13, z14, z15⟩ := z
  exact ⟨⟨(w _ (by omega)).trans z0, (w _ (by omega)).trans z1, (w _ (by omega)).trans z2, (w _ (by omega)).trans z3, (w _ (by omega)).trans z4, (w _ (by omega)).trans z5, (w _ (by omega)).trans z6, (w _ (by omega)).trans z7, (w _ (by omega)).trans z8, (w _ (by omega)).trans z9, (w _ (by omega)).trans z10, (w _ (by omega)).trans z11, (w _ (by omega)).trans z12, k, (w _ (by omega)).trans z14, (w _ (by omega)).trans z15⟩, (fr.one w).wide (by omega) (by omega)⟩
theorem PO.a13 {h h' : bk_H} {u : Nat} {I : rI} {A : rA} {f : Nat → Int32} (z : PO h u I A) (k : h' (u + 14) = some (.inl (0, 800, .inl f))) (w : ∀ q, q ≠ u + 14 → h' q = h q) : PO h' u I (uA A 13 f) ∧ fr h h' u (u + 16) := by
  obtain ⟨z0, z1, z2, z3, z4, z5, z6, z7, z8, z9, z10, z11, z12, z13, z14, z15⟩ := z
  exact ⟨⟨(w _ (by omega)).trans z0, (w _ (by omega)).trans z1, (w _ (by omega)).trans z2, (w _ (by omega)).trans z3, (w _ (by omega)).trans z4, (w _ (by omega)).trans z5, (w _ (by omega)).trans z6, (w _ (by omega)).trans z7, (w _ (by omega)).trans z8, (w _ (by omega)).trans z9, (w _ (by omega)).trans z10, (w _ (by omega)).trans z11, (w _ (by omega)).trans z12, (w _ (by omega)).trans z13, k, (w _ (by omega)).trans z15⟩, (fr.one w).wide (by omega) (by omega)⟩
theorem PO.a14 {h h' : bk_H} {u : Nat} {I : rI} {A : rA} {f : Nat → Int32} (z : PO h u I A) (k : h' (u + 15) = some (.inl (0, 400, .inl f))) (w : ∀ q, q ≠ u + 15 → h' q = h q) : PO h' u I (uA A 14 f) ∧ fr h h' u (u + 16) := by
  obtain ⟨z0, z1, z2, z3, z4, z5, z6, z7, z8, z9, z10, z11, z12, z13, z14, z15⟩ := z
  exact ⟨⟨(w _ (by omega)).trans z0, (w _ (by omega)).trans z1, (w _ (by omega)).trans z2, (w _ (by omega)).trans z3, (w _ (by omega)).trans z4, (w _ (by omega)).trans z5, (w _ (by omega)).trans z6, (w _ (by omega)).trans z7, (w _ (by omega)).trans z8, (w _ (by omega)).trans z9, (w _ (by omega)).trans z10, (w _ (by omega)).trans z11, (w _ (by omega)).trans z12, (w _ (by omega)).trans z13, (w _ (by omega)).trans z14, k⟩, (fr.one w).wide (by omega) (by omega)⟩
theorem PO.i0 {h h' : bk_H} {u : Nat} {I : rI} {A : rA} {x : Int32} (z : PO h u I A) (k : h' u = some (.inr (11, [.int x, .ref (u + 1), .ref (u + 2), .int (I 1), .ref (u + 3), .ref (u + 4), .int (I 2), .ref (u + 5), .ref (u + 6), .ref (u + 7), .int (I 3), .int (I 4), .ref (u + 8), .ref (u + 9), .ref (u + 10), .ref (u + 11), .ref (u + 12), .ref (u + 13), .ref (u + 14), .int (I 5), .ref (u + 15), .int (I 6)]))) (w : ∀ q, q ≠ u → h' q = h q) : PO h' u (upd I 0 x) A ∧ fr h h' u (u + 16) := by
  obtain ⟨z0, z1, z2, z3, z4, z5, z6, z7, z8, z9, z10, z11, z12, z13, z14, z15⟩ := z
  exact ⟨⟨k, (w _ (by omega)).trans z1, (w _ (by omega)).trans z2, (w _ (by omega)).trans z3, (w _ (by omega)).trans z4, (w _ (by omega)).trans z5, (w _ (by omega)).trans z6, (w _ (by omega)).trans z7, (w _ (by omega)).trans z8, (w _ (by omega)).trans z9, (w _ (by omega)).trans z10, (w _ (by omega)).trans z11, (w _ (by omega)).trans z12, (w _ (by omega)).trans z13, (w _ (by omega)).trans z14, (w _ (by omega)).trans z15⟩, (fr.one w).wide (by omega) (by omega)⟩
theorem PO.i1 {h h' : bk_H} {u : Nat} {I : rI} {A : rA} {x : Int32} (z : PO h u I A) (k : h' u = some (.inr (11, [.int (I 0), .ref (u + 1), .ref (u + 2), .int x, .ref (u + 3), .ref (u + 4), .int (I 2), .ref (u + 5), .ref (u + 6), .ref (u + 7), .int (I 3), .int (I 4), .ref (u + 8), .ref (u + 9), .ref (u + 10), .ref (u + 11), .ref (u + 12), .ref (u + 13), .ref (u + 14), .int (I 5), .ref (u + 15), .int (I 6)]))) (w : ∀ q, q ≠ u → h' q = h q) : PO h' u (upd I 1 x) A ∧ fr h h' u (u + 16) := by
  obtain ⟨z0, z1, z2, z3, z4, z5, z6, z7, z8, z9, z10, z11, z12, z13, z14, z15⟩ := z
  exact ⟨⟨k, (w _ (by omega)).trans z1, (w _ (by omega)).trans z2, (w _ (by omega)).trans z3, (w _ (by omega)).trans z4, (w _ (by omega)).trans z5, (w _ (by omega)).trans z6, (w _ (by omega)).trans z7, (w _ (by omega)).trans z8, (w _ (by omega)).trans z9, (w _ (by omega)).trans z10, (w _ (by omega)).trans z11, (w _ (by omega)).trans z12, (w _ (by omega)).trans z13, (w _ (by omega)).trans z14, (w _ (by omega)).trans z15⟩, (fr.one w).wide (by omega) (by omega)⟩
theorem PO.i2 {h h' : bk_H} {u : Nat} {I : rI} {A : rA} {x : Int32} (z : PO h u I A) (k : h' u = some (.inr (11, [.int (I 0), .ref (u + 1), .ref (u + 2), .int (I 1), .ref (u + 3), .ref (u + 4), .int x, .ref (u + 5), .ref (u + 6), .ref (u + 7), .int (I 3), .int (I 4), .ref (u + 8), .ref (u + 9), .ref (u + 10), .ref (u + 11), .ref (u + 12), .ref (u + 13), .ref (u + 14), .int (I 5), .ref (u + 15), .int (I 6)]))) (w : ∀ q, q ≠ u → h' q = h q) : PO h' u (upd I 2 x) A ∧ fr h h' u (u + 16) := by
  obtain ⟨z0, z1, z2, z3, z4, z5, z6, z7, z8, z9, z10, z11, z12, z13, z14, z15⟩ := z
  exact ⟨⟨k, (w _ (by omega)).trans z1, (w _ (by omega)).trans z2, (w _ (by omega)).trans z3, (w _ (by omega)).trans z4, (w _ (by omega)).trans z5, (w _ (by omega)).trans z6, (w _ (by omega)).trans z7, (w _ (by omega)).trans z8, (w _ (by omega)).trans z9, (w _ (by omega)).trans z10, (w _ (by omega)).trans z11, (w _ (by omega)).trans z12, (w _ (by omega)).trans z13, (w _ (by omega)).trans z14, (w _ (by omega)).trans z15⟩, (fr.one w).wide (by omega) (by omega)⟩
theorem PO.i3 {h h' : bk_H} {u : Nat} {I : rI} {A : rA} {x : Int32} (z : PO h u I A) (k : h' u = some (.inr (11, [.int (I 0), .ref (u + 1), .ref (u + 2), .int (I 1), .ref (u + 3), .ref (u + 4), .int (I 2), .ref (u + 5), .ref (u + 6), .ref (u + 7), .int x, .int (I 4), .ref (u + 8), .ref (u + 9), .ref (u + 10), .ref (u + 11), .ref (u + 12), .ref (u + 13), .ref (u + 14), .int (I 5), .ref (u + 15), .int (I 6)]))) (w : ∀ q, q ≠ u → h' q = h q) : PO h' u (upd I 3 x) A ∧ fr h h' u (u + 16) := by
  obtain ⟨z0, z1, z2, z3, z4, z5, z6, z7, z8, z9, z10, z11, z12, z13, z14, z15⟩ := z
  exact ⟨⟨k, (w _ (by omega)).trans z1, (w _ (by omega)).trans z2, (w _ (by omega)).trans z3, (w _ (by omega)).trans z4, (w _ (by omega)).trans z5, (w _ (by omega)).trans z6, (w _ (by omega)).trans z7, (w _ (by omega)).trans z8, (w _ (by omega)).trans z9, (w _ (by omega)).trans z10, (w _ (by omega)).trans z11, (w _ (by omega)).trans z12, (w _ (by omega)).trans z13, (w _ (by omega)).trans z14, (w _ (by omega)).trans z15⟩, (fr.one w).wide (by omega) (by omega)⟩
theorem PO.i4 {h h' : bk_H} {u : Nat} {I : rI} {A : rA} {x : Int32} (z : PO h u I A) (k : h' u = some (.inr (11, [.int (I 0), .ref (u + 1), .ref (u + 2), .int (I 1), .ref (u + 3), .ref (u + 4), .int (I 2), .ref (u + 5), .ref (u + 6), .ref (u + 7), .int (I 3), .int x, .ref (u + 8), .ref (u + 9), .ref (u + 10), .ref (u + 11), .ref (u + 12), .ref (u + 13), .ref (u + 14), .int (I 5), .ref (u + 15), .int (I 6)]))) (w : ∀ q, q ≠ u → h' q = h q) : PO h' u (upd I 4 x) A ∧ fr h h' u (u + 16) := by
  obtain ⟨z0, z1, z2, z3, z4, z5, z6, z7, z8, z9, z10, z11, z12, z13, z14, z15⟩ := z
  exact ⟨⟨k, (w _ (by omega)).trans z1, (w _ (by omega)).trans z2, (w _ (by omega)).trans z3, (w _ (by omega)).trans z4, (w _ (by omega)).trans z5, (w _ (by omega)).trans z6, (w _ (by omega)).trans z7, (w _ (by omega)).trans z8, (w _ (by omega)).trans z9, (w _ (by omega)).trans z10, (w _ (by omega)).trans z11, (w _ (by omega)).trans z12, (w _ (by omega)).trans z13, (w _ (by omega)).trans z14, (w _ (by omega)).trans z15⟩, (fr.one w).wide (by omega) (by omega)⟩
theorem PO.i5 {h h' : bk_H} {u : Nat} {I : rI} {A : rA} {x : Int32} (z : PO h u I A) (k : h' u = some (.inr (11, [.int (I 0), .ref (u + 1), .ref (u + 2), .int (I 1), .ref (u + 3), .ref (u + 4), .int (I 2), .ref (u + 5), .ref (u + 6), .ref (u + 7), .int (I 3), .int (I 4), .ref (u + 8), .ref (u + 9), .ref (u + 10), .ref (u + 11), .ref (u + 12), .ref (u + 13), .ref (u + 14), .int x, .ref (u + 15), .int (I 6)]))) (w : ∀ q, q ≠ u → h' q = h q) : PO h' u (upd I 5 x) A ∧ fr h h' u (u + 16) := by
  obtain ⟨z0, z1, z2, z3, z4, z5, z6, z7, z8, z9, z10, z11, z12, z13, z14, z15⟩ := z
  exact ⟨⟨k, (w _ (by omega)).trans z1, (w _ (by omega)).trans z2, (w _ (by omega)).trans z3, (w _ (by omega)).trans z4, (w _ (by omega)).trans z5, (w _ (by omega)).trans z6, (w _ (by omega)).trans z7, (w _ (by omega)).trans z8, (w _ (by omega)).trans z9, (w _ (by omega)).trans z10, (w _ (by omega)).trans z11, (w _ (by omega)).trans z12, (w _ (by omega)).trans z13, (w _ (by omega)).trans z14, (w _ (by omega)).trans z15⟩, (fr.one w).wide (by omega) (by omega)⟩
theorem PO.i6 {h h' : bk_H} {u : Nat} {I : rI} {A : rA} {x : Int32} (z : PO h u I A) (k : h' u = some (.inr (11, [.int (I 0), .ref (u + 1), .ref (u + 2), .int (I 1), .ref (u + 3), .ref (u + 4), .int (I 2), .ref (u + 5), .ref (u + 6), .ref (u + 7), .int (I 3), .int (I 4), .ref (u + 8), .ref (u + 9), .ref (u + 10), .ref (u + 11), .ref (u + 12), .ref (u + 13), .ref (u + 14), .int (I 5), .ref (u + 15), .int x]))) (w : ∀ q, q ≠ u → h' q = h q) : PO h' u (upd I 6 x) A ∧ fr h h' u (u + 16) := by
  obtain ⟨z0, z1, z2, z3, z4, z5, z6, z7, z8, z9, z10, z11, z12, z13, z14, z15⟩ := z
  exact ⟨⟨k, (w _ (by omega)).trans z1, (w _ (by omega)).trans z2, (w _ (by omega)).trans z3, (w _ (by omega)).trans z4, (w _ (by omega)).trans z5, (w _ (by omega)).trans z6, (w _ (by omega)).trans z7, (w _ (by omega)).trans z8, (w _ (by omega)).trans z9, (w _ (by omega)).trans z10, (w _ (by omega)).trans z11, (w _ (by omega)).trans z12, (w _ (by omega)).trans z13, (w _ (by omega)).trans z14, (w _ (by omega)).trans z15⟩, (fr.one w).wide (by omega) (by omega)⟩
/-- the shapes of the list and of a mountain -/
def shT (t : bT) (w r : Nat) : Prop := t.length ≤ r ∧ ∀ q ∈ t, q.length = w
def SH (P : Nat → bT) (S : bS) : Prop :=
  (shT (P 0) 2 5 ∧ shT (P 1) 2 6 ∧ shT (P 2) 3 6 ∧ shT (P 3) 7 24 ∧ shT (P 4) 3 400) ∧ (shT (S.2 0) 3 5 ∧ shT (S.2 1) 1 6 ∧ shT (S.2 2) 1 6 ∧ shT (S.2 3) 4 30 ∧ shT (S.2 4) 2 30) ∧ (S.2 0).length = (P 0).length ∧ (S.2 1).length = (P 1).length ∧ (S.2 2).length = (P 2).length
/-- the reference's rows hold the same mountain -/
def RR (S : bS) (I : rI) (A : rA) : Prop :=
  ((∀ k, k < 6 → I k = S.1 k) ∧ I 6 = nI (S.2 3).length ∧ I 7 = nI (S.2 4).length ∧ I 8 = S.1 7) ∧
  (∀ i, i < (S.2 0).length → A 0 i = tg (S.2 0) i 0 ∧ A 1 i = tg (S.2 0) i 1 ∧ A 2 i = tg (S.2 0) i 2) ∧ (∀ i, i < (S.2 1).length → A 3 i = tg (S.2 1) i 0) ∧ (∀ i, i < 6 → A 4 i = tg (S.2 2) i 0) ∧
  (∀ i, i < (S.2 3).length → A 5 i = tg (S.2 3) i 0 ∧ A 6 i = tg (S.2 3) i 1 ∧ A 7 i = tg (S.2 3) i 2 ∧ A 8 i = tg (S.2 3) i 3) ∧ (∀ i, i < (S.2 4).length → A 9 i = tg (S.2 4) i 0 ∧ A 10 i = tg (S.2 4) i 1)
section RB
variable {V : bk_V} {d n : Nat} {B : Nat × Nat} {Q : bk_R → bk_H → Nat → Prop} {h : bk_H} {r y : Nat} {P : Nat → bT} {S : bS} {I : rI} {A : rA} {cs : Nat × Nat}
theorem rb_sheetsOfL {b : Int32} (hR : RO h r y I A) (hr : RR S I A) (hl : (S.2 3).length ≤ 30) (hQ : Q (.inl (some (.int (nI (tCp (fun x => decide (x = b)) (S.2 3) 0))))) h n) : ∀ (c i : Nat), i + c = (S.2 3).length → bk_g V d 124 B Q 4 [some (.ref r), some (.int b), some (.int (nI (tCp (fun x => decide (x = b)) ((S.2 3).take i) 0))), some (.int (nI i))] [] h n cs := by
  obtain ⟨s0, s1, s2, s3, s4, s5, s6, s7, s8, s9, s10, s11, s12, s13⟩ := id hR
  obtain ⟨⟨q1, q2, q3, q4⟩, hQ2, hQ3, hQ4, hQ5, hQ6⟩ := hr
  have hI : I 6 = nI (S.2 3).length := q2
  intro c
  induction c with
  | zero =>
    intro i hi
    refine bg_iload3 rfl ?_
    refine bg_aload0 rfl ?_
    refine bg_getfield rfl rfl s0 (by rfl) ?_
    refine bg_icmp_ge rfl (fun e9 => ?_) (fun e9 => absurd e9 (by rw [hI]; exact nI_nlt (by omega) (by omega)))
    refine bg_iload2 rfl ?_
    refine bg_iret rfl rfl (by rfl) ?_
    rw [List.take_of_length_le (by omega)]
    exact hQ
  | succ c ih =>
    intro i hi
    have hi1 : i < (S.2 3).length := by omega
    have hv := (hQ5 i hi1).1
    refine bg_iload3 rfl ?_
    refine bg_aload0 rfl ?_
    refine bg_getfield rfl rfl s0 (by rfl) ?_
    refine bg_icmp_ge rfl (fun e9 => absurd (by rw [hI]; exact nI_lt hi1 (by omega)) e9) (fun e9 => ?_)
    refine bg_iload2 rfl ?_
    refine bg_aload0 rfl ?_
    refine bg_getfield rfl rfl s0 (by rfl) ?_
    refine bg_iload3 rfl ?_
    refine bg_iaload_n rfl s6 (by omega) (by omega) ?_
    refine bg_iload1 rfl ?_
    refine bg_icmp_ne rfl (fun e20 => ?_) (fun e20 => ?_)
    · rw [hv] at e20
      have e1 : tCp (fun x => decide (x = b)) ((S.2 3).take (i + 1)) 0 = tCp (fun x => decide (x = b)) ((S.2 3).take i) 0 := by
        rw [tCp_s (by omega), if_neg (fun q => e20 (of_decide_eq_true q))]
        rfl
      refine bg_iconst rfl ?_
      refine bg_iadd rfl ?_
      first
        | rw [show nI (tCp (fun x => decide (x = b)) ((S.2 3).take i) 0) + 1 = nI (tCp (fun x => decide (x = b)) ((S.2 3).take (i + 1)) 0) by rw [nI_1, e1]]
        | rw [show nI (tCp (fun x => decide (x = b)) ((S.2 3).take i) 0) + 0 = nI (tCp (fun x => decide (x = b)) ((S.2 3).take (i + 1)) 0) by rw [Int32.add_zero, e1]]
      refine bg_istore2 rfl rfl ?_
      refine bg_iinc3 rfl rfl ?_
      rw [nI_1]
      refine bg_goto rfl ?_
      exact ih (i + 1) (by omega)
    · rw [hv] at e20
      have e1 : tCp (fun x => decide (x = b)) ((S.2 3).take (i + 1)) 0 = tCp (fun x => decide (x = b)) ((S.2 3).take i) 0 + 1 := by
        rw [tCp_s (by omega), if_pos (decide_eq_true e20)]
      refine bg_iconst rfl ?_
      refine bg_goto rfl ?_
      refine bg_iadd rfl ?_
      first
        | rw [show nI (tCp (fun x => decide (x = b)) ((S.2 3).take i) 0) + 1 = nI (tCp (fun x => decide (x = b)) ((S.2 3).take (i + 1)) 0) by rw [nI_1, e1]]
        | rw [show nI (tCp (fun x => decide (x = b)) ((S.2 3).take i) 0) + 0 = nI (tCp (fun x => decide (x = b)) ((S.2 3).take (i + 1)) 0) by rw [Int32.add_zero, e1]]
      refine bg_istore2 rfl rfl ?_
      refine bg_iinc3 rfl rfl ?_
      rw [nI_1]
      refine bg_goto rfl ?_
      exact ih (i + 1) (by omega)

theorem rb_sheetsOf {b : Int32} (hR : RO h r y I A) (hr : RR S I A) (hl : (S.2 3).length ≤ 30) (hQ : Q (.inl (some (.int (nI (tCp (fun x => decide (x = b)) (S.2 3) 0))))) h n) : bk_wp V (d + 1) 124 [.ref r, .int b] h n B Q := by
  refine bg_in rfl rfl ?_
  refine bg_iconst rfl ?_
  refine bg_istore2 rfl rfl ?_
  refine bg_iconst rfl ?_
  refine bg_istore3 rfl rfl ?_
  exact rb_sheetsOfL hR hr hl hQ (S.2 3).length 0 (Nat.zero_add _)
theorem rb_figuresOfL {b : Int32} (hR : RO h r y I A) (hr : RR S I A) (hl : (S.2 4).length ≤ 30) (hQ : Q (.inl (some (.int (nI (tCp (fun x => decide (x = b)) (S.2 4) 0))))) h n) : ∀ (c i : Nat), i + c = (S.2 4).length → bk_g V d 125 B Q 4 [some (.ref r), some (.int b), some (.int (nI (tCp (fun x => decide (x = b)) ((S.2 4).take i) 0))), some (.int (nI i))] [] h n cs := by
  obtain ⟨s0, s1, s2, s3, s4, s5, s6, s7, s8, s9, s10, s11, s12, s13⟩ := id hR
  obtain ⟨⟨q1, q2, q3, q4⟩, hQ2, hQ3, hQ4, hQ5, hQ6⟩ := hr
  have hI : I 7 = nI (S.2 4).length := q3
  intro c
  induction c with
  | zero =>
    intro i hi
    refine bg_iload3 rfl ?_
    refine bg_aload0 rfl ?_
    refine bg_getfield rfl rfl s0 (by rfl) ?_
    refine bg_icmp_ge rfl (fun e9 => ?_) (fun e9 => absurd e9 (by rw [hI]; exact nI_nlt (by omega) (by omega)))
    refine bg_iload2 rfl ?_
    refine bg_iret rfl rfl (by rfl) ?_
    rw [List.take_of_length_le (by omega)]
    exact hQ
  | succ c ih =>
    intro i hi
    have hi1 : i < (S.2 4).length := by omega
    have hv := (hQ6 i hi1).1
    refine bg_iload3 rfl ?_
    refine bg_aload0 rfl ?_
    refine bg_getfield rfl rfl s0 (by rfl) ?_
    refine bg_icmp_ge rfl (fun e9 => absurd (by rw [hI]; exact nI_lt hi1 (by omega)) e9) (fun e9 => ?_)
    refine bg_iload2 rfl ?_
    refine bg_aload0 rfl ?_
    refine bg_getfield rfl rfl s0 (by rfl) ?_
    refine bg_iload3 rfl ?_
    refine bg_iaload_n rfl s10 (by omega) (by omega) ?_
    refine bg_iload1 rfl ?_
    refine bg_icmp_ne rfl (fun e20 => ?_) (fun e20 => ?_)
    · rw [hv] at e20
      have e1 : tCp (fun x => decide (x = b)) ((S.2 4).take (i + 1)) 0 = tCp (fun x => decide (x = b)) ((S.2 4).take i) 0 := by
        rw [tCp_s (by omega), if_neg (fun q => e20 (of_decide_eq_true q))]
        rfl
      refine bg_iconst rfl ?_
      refine bg_iadd rfl ?_
      first
        | rw [show nI (tCp (fun x => decide (x = b)) ((S.2 4).take i) 0) + 1 = nI (tCp (fun x => decide (x = b)) ((S.2 4).take (i + 1)) 0) by rw [nI_1, e1]]
        | rw [show nI (tCp (fun x => decide (x = b)) ((S.2 4).take i) 0) + 0 = nI (tCp (fun x => decide (x = b)) ((S.2 4).take (i + 1)) 0) by rw [Int32.add_zero, e1]]
      refine bg_istore2 rfl rfl ?_
      refine bg_iinc3 rfl rfl ?_
      rw [nI_1]
      refine bg_goto rfl ?_
      exact ih (i + 1) (by omega)
    · rw [hv] at e20
      have e1 : tCp (fun x => decide (x = b)) ((S.2 4).take (i + 1)) 0 = tCp (fun x => decide (x = b)) ((S.2 4).take i) 0 + 1 := by
        rw [tCp_s (by omega), if_pos (decide_eq_true e20)]
      refine bg_iconst rfl ?_
      refine bg_goto rfl ?_
      refine bg_iadd rfl ?_
      first
        | rw [show nI (tCp (fun x => decide (x = b)) ((S.2 4).take i) 0) + 1 = nI (tCp (fun x => decide (x = b)) ((S.2 4).take (i + 1)) 0) by rw [nI_1, e1]]
        | rw [show nI (tCp (fun x => decide (x = b)) ((S.2 4).take i) 0) + 0 = nI (tCp (fun x => decide (x = b)) ((S.2 4).take (i + 1)) 0) by rw [Int32.add_zero, e1]]
      refine bg_istore2 rfl rfl ?_
      refine bg_iinc3 rfl rfl ?_
      rw [nI_1]
      refine bg_goto rfl ?_
      exact ih (i + 1) (by omega)

theorem rb_figuresOf {b : Int32} (hR : RO h r y I A) (hr : RR S I A) (hl : (S.2 4).length ≤ 30) (hQ : Q (.inl (some (.int (nI (tCp (fun x => decide (x = b)) (S.2 4) 0))))) h n) : bk_wp V (d + 1) 125 [.ref r, .int b] h n B Q := by
  refine bg_in rfl rfl ?_
  refine bg_iconst rfl ?_
  refine bg_istore2 rfl rfl ?_
  refine bg_iconst rfl ?_
  refine bg_istore3 rfl rfl ?_
  exact rb_figuresOfL hR hr hl hQ (S.2 4).length 0 (Nat.zero_add _)
theorem rb_dryL (hR : RO h r y I A) (hr : RR S I A) (hl : (S.2 3).length ≤ 30) (hQ : Q (.inl (some (.int (nI (tCp (fun x => decide (x = 0)) (S.2 3) 2))))) h n) : ∀ (c i : Nat), i + c = (S.2 3).length → bk_g V d 126 B Q 4 [some (.ref r), some (.int (nI (tCp (fun x => decide (x = 0)) ((S.2 3).take i) 2))), some (.int (nI i))] [] h n cs := by
  obtain ⟨s0, s1, s2, s3, s4, s5, s6, s7, s8, s9, s10, s11, s12, s13⟩ := id hR
  obtain ⟨⟨q1, q2, q3, q4⟩, hQ2, hQ3, hQ4, hQ5, hQ6⟩ := hr
  have hI : I 6 = nI (S.2 3).length := q2
  intro c
  induction c with
  | zero =>
    intro i hi
    refine bg_iload2 rfl ?_
    refine bg_aload0 rfl ?_
    refine bg_getfield rfl rfl s0 (by rfl) ?_
    refine bg_icmp_ge rfl (fun e9 => ?_) (fun e9 => absurd e9 (by rw [hI]; exact nI_nlt (by omega) (by omega)))
    refine bg_iload1 rfl ?_
    refine bg_iret rfl rfl (by rfl) ?_
    rw [List.take_of_length_le (by omega)]
    exact hQ
  | succ c ih =>
    intro i hi
    have hi1 : i < (S.2 3).length := by omega
    have hv := (hQ5 i hi1).2.2.1
    refine bg_iload2 rfl ?_
    refine bg_aload0 rfl ?_
    refine bg_getfield rfl rfl s0 (by rfl) ?_
    refine bg_icmp_ge rfl (fun e9 => absurd (by rw [hI]; exact nI_lt hi1 (by omega)) e9) (fun e9 => ?_)
    refine bg_iload1 rfl ?_
    refine bg_aload0 rfl ?_
    refine bg_getfield rfl rfl s0 (by rfl) ?_
    refine bg_iload2 rfl ?_
    refine bg_iaload_n rfl s8 (by omega) (by omega) ?_
    refine bg_if_ne rfl (fun e19 => ?_) (fun e19 => ?_)
    · rw [hv] at e19
      have e1 : tCp (fun x => decide (x = 0)) ((S.2 3).take (i + 1)) 2 = tCp (fun x => decide (x = 0)) ((S.2 3).take i) 2 := by
        rw [tCp_s (by omega), if_neg (fun q => e19 (of_decide_eq_true q))]
        rfl
      refine bg_iconst rfl ?_
      refine bg_iadd rfl ?_
      first
        | rw [show nI (tCp (fun x => decide (x = 0)) ((S.2 3).take i) 2) + 1 = nI (tCp (fun x => decide (x = 0)) ((S.2 3).take (i + 1)) 2) by rw [nI_1, e1]]
        | rw [show nI (tCp (fun x => decide (x = 0)) ((S.2 3).take i) 2) + 0 = nI (tCp (fun x => decide (x = 0)) ((S.2 3).take (i + 1)) 2) by rw [Int32.add_zero, e1]]
      refine bg_istore1 rfl rfl ?_
      refine bg_iinc2 rfl rfl ?_
      rw [nI_1]
      refine bg_goto rfl ?_
      exact ih (i + 1) (by omega)
    · rw [hv] at e19
      have e1 : tCp (fun x => decide (x = 0)) ((S.2 3).take (i + 1)) 2 = tCp (fun x => decide (x = 0)) ((S.2 3).take i) 2 + 1 := by
        rw [tCp_s (by omega), if_pos (decide_eq_true e19)]
      refine bg_iconst rfl ?_
      refine bg_goto rfl ?_
      refine bg_iadd rfl ?_
      first
        | rw [show nI (tCp (fun x => decide (x = 0)) ((S.2 3).take i) 2) + 1 = nI (tCp (fun x => decide (x = 0)) ((S.2 3).take (i + 1)) 2) by rw [nI_1, e1]]
        | rw [show nI (tCp (fun x => decide (x = 0)) ((S.2 3).take i) 2) + 0 = nI (tCp (fun x => decide (x = 0)) ((S.2 3).take (i + 1)) 2) by rw [Int32.add_zero, e1]]
      refine bg_istore1 rfl rfl ?_
      refine bg_iinc2 rfl rfl ?_
      rw [nI_1]
      refine bg_goto rfl ?_
      exact ih (i + 1) (by omega)

theorem rb_dry (hR : RO h r y I A) (hr : RR S I A) (hl : (S.2 3).length ≤ 30) (hQ : Q (.inl (some (.int (nI (tCp (fun x => decide (x = 0)) (S.2 3) 2))))) h n) : bk_wp V (d + 1) 126 [.ref r] h n B Q := by
  refine bg_in rfl rfl ?_
  refine bg_iconst rfl ?_
  refine bg_istore1 rfl rfl ?_
  refine bg_iconst rfl ?_
  refine bg_istore2 rfl rfl ?_
  exact rb_dryL hR hr hl hQ (S.2 3).length 0 (Nat.zero_add _)
theorem rb_rottenL (hR : RO h r y I A) (hr : RR S I A) (hl : (S.2 3).length ≤ 30) (hQ : Q (.inl (some (.int (nI (tCp (fun x => !decide (x < 5)) (S.2 3) 3))))) h n) : ∀ (c i : Nat), i + c = (S.2 3).length → bk_g V d 127 B Q 4 [some (.ref r), some (.int (nI (tCp (fun x => !decide (x < 5)) ((S.2 3).take i) 3))), some (.int (nI i))] [] h n cs := by
  obtain ⟨s0, s1, s2, s3, s4, s5, s6, s7, s8, s9, s10, s11, s12, s13⟩ := id hR
  obtain ⟨⟨q1, q2, q3, q4⟩, hQ2, hQ3, hQ4, hQ5, hQ6⟩ := hr
  have hI : I 6 = nI (S.2 3).length := q2
  intro c
  induction c with
  | zero =>
    intro i hi
    refine bg_iload2 rfl ?_
    refine bg_aload0 rfl ?_
    refine bg_getfield rfl rfl s0 (by rfl) ?_
    refine bg_icmp_ge rfl (fun e9 => ?_) (fun e9 => absurd e9 (by rw [hI]; exact nI_nlt (by omega) (by omega)))
    refine bg_iload1 rfl ?_
    refine bg_iret rfl rfl (by rfl) ?_
    rw [List.take_of_length_le (by omega)]
    exact hQ
  | succ c ih =>
    intro i hi
    have hi1 : i < (S.2 3).length := by omega
    have hv := (hQ5 i hi1).2.2.2
    refine bg_iload2 rfl ?_
    refine bg_aload0 rfl ?_
    refine bg_getfield rfl rfl s0 (by rfl) ?_
    refine bg_icmp_ge rfl (fun e9 => absurd (by rw [hI]; exact nI_lt hi1 (by omega)) e9) (fun e9 => ?_)
    refine bg_iload1 rfl ?_
    refine bg_aload0 rfl ?_
    refine bg_getfield rfl rfl s0 (by rfl) ?_
    refine bg_iload2 rfl ?_
    refine bg_iaload_n rfl s9 (by omega) (by omega) ?_
    refine bg_iconst rfl ?_
    refine bg_icmp_lt rfl (fun e20 => ?_) (fun e20 => ?_)
    · rw [hv] at e20
      have e1 : tCp (fun x => !decide (x < 5)) ((S.2 3).take (i + 1)) 3 = tCp (fun x => !decide (x < 5)) ((S.2 3).take i) 3 := by
        rw [tCp_s (by omega), if_neg (by simp only [decide_eq_true e20]; decide)]
        rfl
      refine bg_iconst rfl ?_
      refine bg_iadd rfl ?_
      first
        | rw [show nI (tCp (fun x => !decide (x < 5)) ((S.2 3).take i) 3) + 1 = nI (tCp (fun x => !decide (x < 5)) ((S.2 3).take (i + 1)) 3) by rw [nI_1, e1]]
        | rw [show nI (tCp (fun x => !decide (x < 5)) ((S.2 3).take i) 3) + 0 = nI (tCp (fun x => !decide (x < 5)) ((S.2 3).take (i + 1)) 3) by rw [Int32.add_zero, e1]]
      refine bg_istore1 rfl rfl ?_
      refine bg_iinc2 rfl rfl ?_
      rw [nI_1]
      refine bg_goto rfl ?_
      exact ih (i + 1) (by omega)
    · rw [hv] at e20
      have e1 : tCp (fun x => !decide (x < 5)) ((S.2 3).take (i + 1)) 3 = tCp (fun x => !decide (x < 5)) ((S.2 3).take i) 3 + 1 := by
        rw [tCp_s (by omega), if_pos (by simp only [decide_eq_false e20]; rfl)]
      refine bg_iconst rfl ?_
      refine bg_goto rfl ?_
      refine bg_iadd rfl ?_
      first
        | rw [show nI (tCp (fun x => !decide (x < 5)) ((S.2 3).take i) 3) + 1 = nI (tCp (fun x => !decide (x < 5)) ((S.2 3).take (i + 1)) 3) by rw [nI_1, e1]]
        | rw [show nI (tCp (fun x => !decide (x < 5)) ((S.2 3).take i) 3) + 0 = nI (tCp (fun x => !decide (x < 5)) ((S.2 3).take (i + 1)) 3) by rw [Int32.add_zero, e1]]
      refine bg_istore1 rfl rfl ?_
      refine bg_iinc2 rfl rfl ?_
      rw [nI_1]
      refine bg_goto rfl ?_
      exact ih (i + 1) (by omega)

theorem rb_rotten (hR : RO h r y I A) (hr : RR S I A) (hl : (S.2 3).length ≤ 30) (hQ : Q (.inl (some (.int (nI (tCp (fun x => !decide (x < 5)) (S.2 3) 3))))) h n) : bk_wp V (d + 1) 127 [.ref r] h n B Q := by
  refine bg_in rfl rfl ?_
  refine bg_iconst rfl ?_
  refine bg_istore1 rfl rfl ?_
  refine bg_iconst rfl ?_
  refine bg_istore2 rfl rfl ?_
  exact rb_rottenL hR hr hl hQ (S.2 3).length 0 (Nat.zero_add _)
theorem tC_p {t : bT} {c : Nat} {v : Int32} : tC t c v = tCp (fun x => decide (x = v)) t c := rfl
end RB
