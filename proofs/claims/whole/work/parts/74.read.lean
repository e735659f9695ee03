/-! THE REFERENCE: the model while a list is read. Its new Plan lies at v (numbers K2, rows C2); rows F: 0 kind 1 from 2 many 3 role 4 meant. Printed by wip/whole/mk74.py. -/
def MB (h : bk_H) (y u : Nat) (T : List Int32) (P : Nat → bT) (S : bS) (K : rI) (C : rA) : Prop :=
  (∃ tp, AR h (y + 1) 2000 tp ∧ ∀ i, i < T.length → tp i = T.getD i 0) ∧ (∃ I2 A2, RO h (y + 37) y I2 A2) ∧ (∃ I A, RO h (y + 23) y I A ∧ RR S I A) ∧ (PO h u K C) ∧ (RP P K C) ∧ (SH P S) ∧ (IV P S) ∧ (T.length ≤ 2000)
def MT (h0 h : bk_H) (y u v : Nat) (T : List Int32) (P : Nat → bT) (S : bS) (K : rI) (C : rA) (J : rI) (F : rA) (K2 : rI) (C2 : rA) : Prop :=
  (MB h y u T P S K C) ∧ (YO h y J u v) ∧ (AR h (y + 2) 401 (F 0)) ∧ (AR h (y + 3) 401 (F 1)) ∧ (AR h (y + 4) 401 (F 2)) ∧ (AR h (y + 5) 401 (F 3)) ∧ (AR h (y + 6) 401 (F 4)) ∧ (PO h v K2 C2) ∧ (J 1 = nI T.length) ∧ (y + 51 ≤ v ∧ u + 16 ≤ v ∧ ((y + 7 ≤ u ∧ u + 16 ≤ y + 23) ∨ y + 51 ≤ u)) ∧ (∀ q, (q < y ∨ y + 51 ≤ q) → (q < v ∨ v + 16 ≤ q) → h q = h0 q)
section MM
variable {V : bk_V} {d n : Nat} {B : Nat × Nat} {Q : bk_R → bk_H → Nat → Prop} {h0 h : bk_H} {y u v : Nat} {T : List Int32} {P : Nat → bT} {S : bS} {K J K2 : rI} {C F C2 : rA} {cs : Nat × Nat}
theorem MB.tp (z : MB h y u T P S K C) : ∃ tp, AR h (y + 1) 2000 tp ∧ ∀ i, i < T.length → tp i = T.getD i 0 := z.1
theorem MB.A (z : MB h y u T P S K C) : ∃ I2 A2, RO h (y + 37) y I2 A2 := z.2.1
theorem MB.W (z : MB h y u T P S K C) : ∃ I A, RO h (y + 23) y I A ∧ RR S I A := z.2.2.1
theorem MB.po (z : MB h y u T P S K C) : PO h u K C := z.2.2.2.1
theorem MB.rp (z : MB h y u T P S K C) : RP P K C := z.2.2.2.2.1
theorem MB.sh (z : MB h y u T P S K C) : SH P S := z.2.2.2.2.2.1
theorem MB.iv (z : MB h y u T P S K C) : IV P S := z.2.2.2.2.2.2.1
theorem MB.T2 (z : MB h y u T P S K C) : T.length ≤ 2000 := z.2.2.2.2.2.2.2
theorem MT.mb (z : MT h0 h y u v T P S K C J F K2 C2) : MB h y u T P S K C := z.1
theorem MT.Y (z : MT h0 h y u v T P S K C J F K2 C2) : YO h y J u v := z.2.1
theorem MT.f0 (z : MT h0 h y u v T P S K C J F K2 C2) : AR h (y + 2) 401 (F 0) := z.2.2.1
theorem MT.f1 (z : MT h0 h y u v T P S K C J F K2 C2) : AR h (y + 3) 401 (F 1) := z.2.2.2.1
theorem MT.f2 (z : MT h0 h y u v T P S K C J F K2 C2) : AR h (y + 4) 401 (F 2) := z.2.2.2.2.1
theorem MT.f3 (z : MT h0 h y u v T P S K C J F K2 C2) : AR h (y + 5) 401 (F 3) := z.2.2.2.2.2.1
theorem MT.f4 (z : MT h0 h y u v T P S K C J F K2 C2) : AR h (y + 6) 401 (F 4) := z.2.2.2.2.2.2.1
theorem MT.R (z : MT h0 h y u v T P S K C J F K2 C2) : PO h v K2 C2 := z.2.2.2.2.2.2.2.1
theorem MT.J1 (z : MT h0 h y u v T P S K C J F K2 C2) : J 1 = nI T.length := z.2.2.2.2.2.2.2.2.1
theorem MT.pv (z : MT h0 h y u v T P S K C J F K2 C2) : y + 51 ≤ v ∧ u + 16 ≤ v ∧ ((y + 7 ≤ u ∧ u + 16 ≤ y + 23) ∨ y + 51 ≤ u) := z.2.2.2.2.2.2.2.2.2.1
theorem MT.fq (z : MT h0 h y u v T P S K C J F K2 C2) : ∀ q, (q < y ∨ y + 51 ≤ q) → (q < v ∨ v + 16 ≤ q) → h q = h0 q := z.2.2.2.2.2.2.2.2.2.2
theorem MB.kp {h' : bk_H} (z : MB h y u T P S K C) (w : ∀ q, (q = y + 1 ∨ (y + 23 ≤ q ∧ q < y + 51) ∨ (u ≤ q ∧ q < u + 16)) → h' q = h q) : MB h' y u T P S K C := by
  obtain ⟨⟨tp, t1, t2⟩, ⟨I2, A2, a⟩, ⟨I, A, b, c⟩, p, e1, e2, e3, e4⟩ := z
  exact ⟨⟨tp, (w _ (by omega)).trans t1, t2⟩, ⟨I2, A2, a.kq fun q q1 q2 => w q (by omega)⟩, ⟨I, A, b.kq fun q q1 q2 => w q (by omega), c⟩, p.kq fun q q1 q2 => w q (by omega), e1, e2, e3, e4⟩
theorem MT.j {h' : bk_H} {J' : rI} (z : MT h0 h y u v T P S K C J F K2 C2) (k : YO h' y J' u v) (w : ∀ q, q ≠ y → h' q = h q) (e : J' 1 = J 1) : MT h0 h' y u v T P S K C J' F K2 C2 := by
  have pv := z.pv
  exact ⟨z.mb.kp fun q hq => w q (by omega), k, (w _ (by omega)).trans z.f0, (w _ (by omega)).trans z.f1, (w _ (by omega)).trans z.f2, (w _ (by omega)).trans z.f3, (w _ (by omega)).trans z.f4, z.R.kq fun q q1 q2 => w q (by omega), e.trans z.J1, pv, fun q q1 q2 => (w q (by omega)).trans (z.fq q q1 q2)⟩
theorem uA_s {A : rA} {k : Nat} {f : Nat → Int32} : uA A k f k = f := if_pos rfl
theorem uA_n {A : rA} {k j : Nat} {f : Nat → Int32} (h : j ≠ k) : uA A k f j = A j := if_neg h
theorem MT.ff0 {h' : bk_H} {f : Nat → Int32} (z : MT h0 h y u v T P S K C J F K2 C2) (c : AR h' (y + 2) 401 f) (w : ∀ q, q ≠ y + 2 → h' q = h q) : MT h0 h' y u v T P S K C J (uA F 0 f) K2 C2 := by
  have pv := z.pv
  exact ⟨z.mb.kp fun q hq => w q (by omega), (w _ (by omega)).trans z.Y, c, (w _ (by omega)).trans z.f1, (w _ (by omega)).trans z.f2, (w _ (by omega)).trans z.f3, (w _ (by omega)).trans z.f4, z.R.kq fun q q1 q2 => w q (by omega), z.J1, pv, fun q q1 q2 => (w q (by omega)).trans (z.fq q q1 q2)⟩
theorem MT.ff1 {h' : bk_H} {f : Nat → Int32} (z : MT h0 h y u v T P S K C J F K2 C2) (c : AR h' (y + 3) 401 f) (w : ∀ q, q ≠ y + 3 → h' q = h q) : MT h0 h' y u v T P S K C J (uA F 1 f) K2 C2 := by
  have pv := z.pv
  exact ⟨z.mb.kp fun q hq => w q (by omega), (w _ (by omega)).trans z.Y, (w _ (by omega)).trans z.f0, c, (w _ (by omega)).trans z.f2, (w _ (by omega)).trans z.f3, (w _ (by omega)).trans z.f4, z.R.kq fun q q1 q2 => w q (by omega), z.J1, pv, fun q q1 q2 => (w q (by omega)).trans (z.fq q q1 q2)⟩
theorem MT.ff2 {h' : bk_H} {f : Nat → Int32} (z : MT h0 h y u v T P S K C J F K2 C2) (c : AR h' (y + 4) 401 f) (w : ∀ q, q ≠ y + 4 → h' q = h q) : MT h0 h' y u v T P S K C J (uA F 2 f) K2 C2 := by
  have pv := z.pv
  exact ⟨z.mb.kp fun q hq => w q (by omega), (w _ (by omega)).trans z.Y, (w _ (by omega)).trans z.f0, (w _ (by omega)).trans z.f1, c, (w _ (by omega)).trans z.f3, (w _ (by omega)).trans z.f4, z.R.kq fun q q1 q2 => w q (by omega), z.J1, pv, fun q q1 q2 => (w q (by omega)).trans (z.fq q q1 q2)⟩
theorem MT.ff3 {h' : bk_H} {f : Nat → Int32} (z : MT h0 h y u v T P S K C J F K2 C2) (c : AR h' (y + 5) 401 f) (w : ∀ q, q ≠ y + 5 → h' q = h q) : MT h0 h' y u v T P S K C J (uA F 3 f) K2 C2 := by
  have pv := z.pv
  exact ⟨z.mb.kp fun q hq => w q (by omega), (w _ (by omega)).trans z.Y, (w _ (by omega)).trans z.f0, (w _ (by omega)).trans z.f1, (w _ (by omega)).trans z.f2, c, (w _ (by omega)).trans z.f4, z.R.kq fun q q1 q2 => w q (by omega), z.J1, pv, fun q q1 q2 => (w q (by omega)).trans (z.fq q q1 q2)⟩
theorem MT.ff4 {h' : bk_H} {f : Nat → Int32} (z : MT h0 h y u v T P S K C J F K2 C2) (c : AR h' (y + 6) 401 f) (w : ∀ q, q ≠ y + 6 → h' q = h q) : MT h0 h' y u v T P S K C J (uA F 4 f) K2 C2 := by
  have pv := z.pv
  exact ⟨z.mb.kp fun q hq => w q (by omega), (w _ (by omega)).trans z.Y, (w _ (by omega)).trans z.f0, (w _ (by omega)).trans z.f1, (w _ (by omega)).trans z.f2, (w _ (by omega)).trans z.f3, c, z.R.kq fun q q1 q2 => w q (by omega), z.J1, pv, fun q q1 q2 => (w q (by omega)).trans (z.fq q q1 q2)⟩
theorem MT.p {h' : bk_H} {K' : rI} {C' : rA} (z : MT h0 h y u v T P S K C J F K2 C2) (k : PO h' v K' C') (w : fr h h' v (v + 16)) : MT h0 h' y u v T P S K C J F K' C' := by
  have pv := z.pv
  exact ⟨z.mb.kp fun q hq => w q (by omega), (w _ (by omega)).trans z.Y, (w _ (by omega)).trans z.f0, (w _ (by omega)).trans z.f1, (w _ (by omega)).trans z.f2, (w _ (by omega)).trans z.f3, (w _ (by omega)).trans z.f4, k, z.J1, pv, fun q q1 q2 => (w q (by omega)).trans (z.fq q q1 q2)⟩
theorem MT.cc0 {h' : bk_H} {f : Nat → Int32} (z : MT h0 h y u v T P S K C J F K2 C2) (c : AR h' (v + 1) 5 f) (w : ∀ q, q ≠ v + 1 → h' q = h q) : MT h0 h' y u v T P S K C J F K2 (uA C2 0 f) := z.p (PO.a0 z.R c w).1 (PO.a0 z.R c w).2
theorem MT.cc1 {h' : bk_H} {f : Nat → Int32} (z : MT h0 h y u v T P S K C J F K2 C2) (c : AR h' (v + 2) 5 f) (w : ∀ q, q ≠ v + 2 → h' q = h q) : MT h0 h' y u v T P S K C J F K2 (uA C2 1 f) := z.p (PO.a1 z.R c w).1 (PO.a1 z.R c w).2
theorem MT.cc2 {h' : bk_H} {f : Nat → Int32} (z : MT h0 h y u v T P S K C J F K2 C2) (c : AR h' (v + 3) 6 f) (w : ∀ q, q ≠ v + 3 → h' q = h q) : MT h0 h' y u v T P S K C J F K2 (uA C2 2 f) := z.p (PO.a2 z.R c w).1 (PO.a2 z.R c w).2
theorem MT.cc3 {h' : bk_H} {f : Nat → Int32} (z : MT h0 h y u v T P S K C J F K2 C2) (c : AR h' (v + 4) 6 f) (w : ∀ q, q ≠ v + 4 → h' q = h q) : MT h0 h' y u v T P S K C J F K2 (uA C2 3 f) := z.p (PO.a3 z.R c w).1 (PO.a3 z.R c w).2
theorem MT.cc4 {h' : bk_H} {f : Nat → Int32} (z : MT h0 h y u v T P S K C J F K2 C2) (c : AR h' (v + 5) 6 f) (w : ∀ q, q ≠ v + 5 → h' q = h q) : MT h0 h' y u v T P S K C J F K2 (uA C2 4 f) := z.p (PO.a4 z.R c w).1 (PO.a4 z.R c w).2
theorem MT.cc5 {h' : bk_H} {f : Nat → Int32} (z : MT h0 h y u v T P S K C J F K2 C2) (c : AR h' (v + 6) 6 f) (w : ∀ q, q ≠ v + 6 → h' q = h q) : MT h0 h' y u v T P S K C J F K2 (uA C2 5 f) := z.p (PO.a5 z.R c w).1 (PO.a5 z.R c w).2
theorem MT.cc6 {h' : bk_H} {f : Nat → Int32} (z : MT h0 h y u v T P S K C J F K2 C2) (c : AR h' (v + 7) 6 f) (w : ∀ q, q ≠ v + 7 → h' q = h q) : MT h0 h' y u v T P S K C J F K2 (uA C2 6 f) := z.p (PO.a6 z.R c w).1 (PO.a6 z.R c w).2
theorem MT.cc7 {h' : bk_H} {f : Nat → Int32} (z : MT h0 h y u v T P S K C J F K2 C2) (c : AR h' (v + 8) 24 f) (w : ∀ q, q ≠ v + 8 → h' q = h q) : MT h0 h' y u v T P S K C J F K2 (uA C2 7 f) := z.p (PO.a7 z.R c w).1 (PO.a7 z.R c w).2
theorem MT.cc8 {h' : bk_H} {f : Nat → Int32} (z : MT h0 h y u v T P S K C J F K2 C2) (c : AR h' (v + 9) 24 f) (w : ∀ q, q ≠ v + 9 → h' q = h q) : MT h0 h' y u v T P S K C J F K2 (uA C2 8 f) := z.p (PO.a8 z.R c w).1 (PO.a8 z.R c w).2
theorem MT.cc9 {h' : bk_H} {f : Nat → Int32} (z : MT h0 h y u v T P S K C J F K2 C2) (c : AR h' (v + 10) 24 f) (w : ∀ q, q ≠ v + 10 → h' q = h q) : MT h0 h' y u v T P S K C J F K2 (uA C2 9 f) := z.p (PO.a9 z.R c w).1 (PO.a9 z.R c w).2
theorem MT.cc10 {h' : bk_H} {f : Nat → Int32} (z : MT h0 h y u v T P S K C J F K2 C2) (c : AR h' (v + 11) 25 f) (w : ∀ q, q ≠ v + 11 → h' q = h q) : MT h0 h' y u v T P S K C J F K2 (uA C2 10 f) := z.p (PO.a10 z.R c w).1 (PO.a10 z.R c w).2
theorem MT.cc11 {h' : bk_H} {f : Nat → Int32} (z : MT h0 h y u v T P S K C J F K2 C2) (c : AR h' (v + 12) 25 f) (w : ∀ q, q ≠ v + 12 → h' q = h q) : MT h0 h' y u v T P S K C J F K2 (uA C2 11 f) := z.p (PO.a11 z.R c w).1 (PO.a11 z.R c w).2
theorem MT.cc12 {h' : bk_H} {f : Nat → Int32} (z : MT h0 h y u v T P S K C J F K2 C2) (c : AR h' (v + 13) 25 f) (w : ∀ q, q ≠ v + 13 → h' q = h q) : MT h0 h' y u v T P S K C J F K2 (uA C2 12 f) := z.p (PO.a12 z.R c w).1 (PO.a12 z.R c w).2
theorem MT.cc13 {h' : bk_H} {f : Nat → Int32} (z : MT h0 h y u v T P S K C J F K2 C2) (c : AR h' (v + 14) 800 f) (w : ∀ q, q ≠ v + 14 → h' q = h q) : MT h0 h' y u v T P S K C J F K2 (uA C2 13 f) := z.p (PO.a13 z.R c w).1 (PO.a13 z.R c w).2
theorem MT.cc14 {h' : bk_H} {f : Nat → Int32} (z : MT h0 h y u v T P S K C J F K2 C2) (c : AR h' (v + 15) 400 f) (w : ∀ q, q ≠ v + 15 → h' q = h q) : MT h0 h' y u v T P S K C J F K2 (uA C2 14 f) := z.p (PO.a14 z.R c w).1 (PO.a14 z.R c w).2
theorem MT.kk0 {h' : bk_H} {x : Int32} (z : MT h0 h y u v T P S K C J F K2 C2) (c : h' v = some (.inr (11, [.int x, .ref (v + 1), .ref (v + 2), .int (K2 1), .ref (v + 3), .ref (v + 4), .int (K2 2), .ref (v + 5), .ref (v + 6), .ref (v + 7), .int (K2 3), .int (K2 4), .ref (v + 8), .ref (v + 9), .ref (v + 10), .ref (v + 11), .ref (v + 12), .ref (v + 13), .ref (v + 14), .int (K2 5), .ref (v + 15), .int (K2 6)]))) (w : ∀ q, q ≠ v → h' q = h q) : MT h0 h' y u v T P S K C J F (upd K2 0 x) C2 := z.p (PO.i0 z.R c w).1 (PO.i0 z.R c w).2
theorem MT.kk1 {h' : bk_H} {x : Int32} (z : MT h0 h y u v T P S K C J F K2 C2) (c : h' v = some (.inr (11, [.int (K2 0), .ref (v + 1), .ref (v + 2), .int x, .ref (v + 3), .ref (v + 4), .int (K2 2), .ref (v + 5), .ref (v + 6), .ref (v + 7), .int (K2 3), .int (K2 4), .ref (v + 8), .ref (v + 9), .ref (v + 10), .ref (v + 11), .ref (v + 12), .ref (v + 13), .ref (v + 14), .int (K2 5), .ref (v + 15), .int (K2 6)]))) (w : ∀ q, q ≠ v → h' q = h q) : MT h0 h' y u v T P S K C J F (upd K2 1 x) C2 := z.p (PO.i1 z.R c w).1 (PO.i1 z.R c w).2
theorem MT.kk2 {h' : bk_H} {x : Int32} (z : MT h0 h y u v T P S K C J F K2 C2) (c : h' v = some (.inr (11, [.int (K2 0), .ref (v + 1), .ref (v + 2), .int (K2 1), .ref (v + 3), .ref (v + 4), .int x, .ref (v + 5), .ref (v + 6), .ref (v + 7), .int (K2 3), .int (K2 4), .ref (v + 8), .ref (v + 9), .ref (v + 10), .ref (v + 11), .ref (v + 12), .ref (v + 13), .ref (v + 14), .int (K2 5), .ref (v + 15), .int (K2 6)]))) (w : ∀ q, q ≠ v → h' q = h q) : MT h0 h' y u v T P S K C J F (upd K2 2 x) C2 := z.p (PO.i2 z.R c w).1 (PO.i2 z.R c w).2
theorem MT.kk3 {h' : bk_H} {x : Int32} (z : MT h0 h y u v T P S K C J F K2 C2) (c : h' v = some (.inr (11, [.int (K2 0), .ref (v + 1), .ref (v + 2), .int (K2 1), .ref (v + 3), .ref (v + 4), .int (K2 2), .ref (v + 5), .ref (v + 6), .ref (v + 7), .int x, .int (K2 4), .ref (v + 8), .ref (v + 9), .ref (v + 10), .ref (v + 11), .ref (v + 12), .ref (v + 13), .ref (v + 14), .int (K2 5), .ref (v + 15), .int (K2 6)]))) (w : ∀ q, q ≠ v → h' q = h q) : MT h0 h' y u v T P S K C J F (upd K2 3 x) C2 := z.p (PO.i3 z.R c w).1 (PO.i3 z.R c w).2
theorem MT.kk4 {h' : bk_H} {x : Int32} (z : MT h0 h y u v T P S K C J F K2 C2) (c : h' v = some (.inr (11, [.int (K2 0), .ref (v + 1), .ref (v + 2), .int (K2 1), .ref (v + 3), .ref (v + 4), .int (K2 2), .ref (v + 5), .ref (v + 6), .ref (v + 7), .int (K2 3), .int x, .ref (v + 8), .ref (v + 9), .ref (v + 10), .ref (v + 11), .ref (v + 12), .ref (v + 13), .ref (v + 14), .int (K2 5), .ref (v + 15), .int (K2 6)]))) (w : ∀ q, q ≠ v → h' q = h q) : MT h0 h' y u v T P S K C J F (upd K2 4 x) C2 := z.p (PO.i4 z.R c w).1 (PO.i4 z.R c w).2
theorem MT.kk5 {h' : bk_H} {x : Int32} (z : MT h0 h y u v T P S K C J F K2 C2) (c : h' v = some (.inr (11, [.int (K2 0), .ref (v + 1), .ref (v + 2), .int (K2 1), .ref (v + 3), .ref (v + 4), .int (K2 2), .ref (v + 5), .ref (v + 6), .ref (v + 7), .int (K2 3), .int (K2 4), .ref (v + 8), .ref (v + 9), .ref (v + 10), .ref (v + 11), .ref (v + 12), .ref (v + 13), .ref (v + 14), .int x, .ref (v + 15), .int (K2 6)]))) (w : ∀ q, q ≠ v → h' q = h q) : MT h0 h' y u v T P S K C J F (upd K2 5 x) C2 := z.p (PO.i5 z.R c w).1 (PO.i5 z.R c w).2
theorem MT.kk6 {h' : bk_H} {x : Int32} (z : MT h0 h y u v T P S K C J F K2 C2) (c : h' v = some (.inr (11, [.int (K2 0), .ref (v + 1), .ref (v + 2), .int (K2 1), .ref (v + 3), .ref (v + 4), .int (K2 2), .ref (v + 5), .ref (v + 6), .ref (v + 7), .int (K2 3), .int (K2 4), .ref (v + 8), .ref (v + 9), .ref (v + 10), .ref (v + 11), .ref (v + 12), .ref (v + 13), .ref (v + 14), .int (K2 5), .ref (v + 15), .int x]))) (w : ∀ q, q ≠ v → h' q = h q) : MT h0 h' y u v T P S K C J F (upd K2 6 x) C2 := z.p (PO.i6 z.R c w).1 (PO.i6 z.R c w).2
theorem mt_byteOf {p : Nat} (hM : MT h0 h y u v T P S K C J F K2 C2) (hp : p < 2 ^ 31) (hQ : Q (.inl (some (.int (bA T p)))) h n) : bk_wp V (d + 1) 159 [.ref y, .int (nI p)] h n B Q := by
  obtain ⟨tp, ht, ht2⟩ := hM.mb.tp
  have hT2 := hM.mb.T2
  refine bg_in rfl rfl ?_
  refine bg_iload1 rfl ?_
  refine bg_aload0 rfl ?_
  refine bg_getfield rfl rfl hM.Y (by rfl) ?_
  refine bg_icmp_ge rfl (fun e5 => ?_) (fun e5 => ?_)
  · have hl : T.length ≤ p := Nat.le_of_not_lt fun q => e5 (by rw [hM.J1]; exact nI_lt q (by omega))
    rw [bA_ge hl] at hQ
    refine bg_iconst rfl ?_
    refine bg_iret rfl rfl (by rfl) ?_
    exact hQ
  · have hl : p < T.length := Nat.lt_of_not_le fun q => absurd e5 (by rw [hM.J1]; exact nI_nlt q hp)
    have he : tp p = bA T p := by
      rw [ht2 p hl]
      unfold bA
      rw [gD_lt hl, gD_lt hl]
    rw [← he] at hQ
    refine bg_aload0 rfl ?_
    refine bg_getfield rfl rfl hM.Y (by rfl) ?_
    refine bg_iload1 rfl ?_
    refine bg_iaload_n rfl ht (by decide) (by omega) ?_
    refine bg_goto rfl ?_
    refine bg_iret rfl rfl (by rfl) ?_
    exact hQ
theorem mt_isL {x : Int32} (hQ : Q (.inl (some (.int (if isL x then 1 else 0)))) h n) : bk_wp V (d + 1) 157 [.int x] h n B Q := by
  refine bg_in rfl rfl ?_
  refine bg_iload0 rfl ?_
  refine bg_bipush rfl ?_
  refine bg_icmp_lt rfl (fun e3 => ?_) (fun e3 => ?_)
  · refine bg_iconst rfl ?_
    refine bg_iret rfl rfl (by rfl) ?_
    exact bQ hQ (by simp [*])
  · refine bg_iload0 rfl ?_
    refine bg_bipush rfl ?_
    refine bg_icmp_gt rfl (fun e9 => ?_) (fun e9 => ?_)
    · refine bg_iconst rfl ?_
      refine bg_iret rfl rfl (by rfl) ?_
      exact bQ hQ (by simp [*])
    · refine bg_iconst rfl ?_
      refine bg_goto rfl ?_
      refine bg_iret rfl rfl (by rfl) ?_
      exact bQ hQ (by simp [*])
theorem mt_isD {x : Int32} (hQ : Q (.inl (some (.int (if isD x then 1 else 0)))) h n) : bk_wp V (d + 1) 158 [.int x] h n B Q := by
  refine bg_in rfl rfl ?_
  refine bg_iload0 rfl ?_
  refine bg_bipush rfl ?_
  refine bg_icmp_lt rfl (fun e3 => ?_) (fun e3 => ?_)
  · refine bg_iconst rfl ?_
    refine bg_iret rfl rfl (by rfl) ?_
    exact bQ hQ (by simp [*])
  · refine bg_iload0 rfl ?_
    refine bg_bipush rfl ?_
    refine bg_icmp_gt rfl (fun e9 => ?_) (fun e9 => ?_)
    · refine bg_iconst rfl ?_
      refine bg_iret rfl rfl (by rfl) ?_
      exact bQ hQ (by simp [*])
    · refine bg_iconst rfl ?_
      refine bg_goto rfl ?_
      refine bg_iret rfl rfl (by rfl) ?_
      exact bQ hQ (by simp [*])
end MM
