/-! THE LAW: the component stays where nothing is written into it; its bytes. -/
theorem TB.kq {h h' : bk_H} {a w r : Nat} {t : bT} (q : TB h a w r t) (g : ∀ q, a ≤ q → q < a + 2 → h' q = h q) : TB h' a w r t := by
  obtain ⟨h1, ⟨f, h2, h3⟩, h4, h5, h6⟩ := q
  exact ⟨(g a (by omega) (by omega)).trans h1, ⟨f, (g (a + 1) (by omega) (by omega)).trans h2, h3⟩, h4, h5, h6⟩
theorem NM.kq {h h' : bk_H} {a r : Nat} {l : List Int64} (q : NM h a r l) (g : ∀ q, a ≤ q → q < a + 2 → h' q = h q) : NM h' a r l := by
  obtain ⟨h1, ⟨f, h2, h3⟩, h4⟩ := q
  exact ⟨(g a (by omega) (by omega)).trans h1, ⟨f, (g (a + 1) (by omega) (by omega)).trans h2, h3⟩, h4⟩
theorem TA.kq {h h' : bk_H} {a : Nat} {T : List Int32} (q : TA h a T) (g : ∀ q, a ≤ q → q < a + 2 → h' q = h q) : TA h' a T := by
  obtain ⟨h1, ⟨f, h2, h3⟩, h4⟩ := q
  exact ⟨(g a (by omega) (by omega)).trans h1, ⟨f, (g (a + 1) (by omega) (by omega)).trans h2, h3⟩, h4⟩
theorem LO.kq {h h' : bk_H} {a : Nat} {P : Nat → bT} (q : LO h a P) (g : ∀ q, a ≤ q → q < a + 11 → h' q = h q) : LO h' a P := by
  obtain ⟨h0, h1, h2, h3, h4, h5⟩ := q
  exact ⟨(g a (by omega) (by omega)).trans h0, h1.kq fun q q1 q2 => g q (by omega) (by omega), h2.kq fun q q1 q2 => g q (by omega) (by omega), h3.kq fun q q1 q2 => g q (by omega) (by omega), h4.kq fun q q1 q2 => g q (by omega) (by omega), h5.kq fun q q1 q2 => g q (by omega) (by omega)⟩
theorem MO.kq {h h' : bk_H} {a : Nat} {S : bS} (q : MO h a S) (g : ∀ q, a ≤ q → q < a + 11 → h' q = h q) : MO h' a S := by
  obtain ⟨h0, h1, h2, h3, h4, h5⟩ := q
  exact ⟨(g a (by omega) (by omega)).trans h0, h1.kq fun q q1 q2 => g q (by omega) (by omega), h2.kq fun q q1 q2 => g q (by omega) (by omega), h3.kq fun q q1 q2 => g q (by omega) (by omega), h4.kq fun q q1 q2 => g q (by omega) (by omega), h5.kq fun q q1 q2 => g q (by omega) (by omega)⟩
theorem CO.kq {h h' : bk_H} {a l m : Nat} {bs : bT} (q : CO h a l m bs) (g : ∀ q, a ≤ q → q < a + 4 → h' q = h q) : CO h' a l m bs := by
  obtain ⟨h0, h1, f, h2⟩ := q
  exact ⟨(g a (by omega) (by omega)).trans h0, h1.kq fun q q1 q2 => g q (by omega) (by omega), f, (g (a + 3) (by omega) (by omega)).trans h2⟩
theorem CM.kq {h h' : bk_H} {x : Nat} {T : List Int32} {P : Nat → bT} {S : bS} {ep : Int32} (q : CM h x T P S ep) (g : ∀ q, x ≤ q → q < x + 70 → h' q = h q) : CM h' x T P S ep := by
  obtain ⟨p, f, g', s, er, et, sP, S2, b1, b2, q⟩ := q
  obtain ⟨⟨⟨k1, k2, k3, k4, k5, k6, k7⟩, h2, h3, h4, h5, h6⟩, ⟨q2, q2'⟩, q3, q4, q5, q6, q7, q8⟩ := q
  exact ⟨p, f, g', s, er, et, sP, S2, b1, b2, ⟨⟨k1.kq fun q q1 q2 => g q (by omega) (by omega), (g _ (by omega) (by omega)).trans k2, k3.kq fun q q1 q2 => g q (by omega) (by omega), (g _ (by omega) (by omega)).trans k4, (g _ (by omega) (by omega)).trans k5, k6.kq fun q q1 q2 => g q (by omega) (by omega), k7⟩, (g _ (by omega) (by omega)).trans h2, h3.kq fun q q1 q2 => g q (by omega) (by omega), h4.kq fun q q1 q2 => g q (by omega) (by omega), h5.kq fun q q1 q2 => g q (by omega) (by omega), h6⟩,
    ⟨q2.kq fun q q1 q2 => g q (by omega) (by omega), (g _ (by omega) (by omega)).trans q2'⟩, q3.kq fun q q1 q2 => g q (by omega) (by omega), q4.kq fun q q1 q2 => g q (by omega) (by omega), q5.kq fun q q1 q2 => g q (by omega) (by omega), q6.kq fun q q1 q2 => g q (by omega) (by omega), q7.kq fun q q1 q2 => g q (by omega) (by omega), (g _ (by omega) (by omega)).trans q8⟩
theorem CM.by {h : bk_H} {x : Nat} {T : List Int32} {P : Nat → bT} {S : bS} {ep : Int32} (q : CM h x T P S ep) : T.length ≤ 2000 ∧ ∀ b ∈ T, ∃ k, k < 256 ∧ b = nI k := by
  obtain ⟨p, f, g', s, er, et, sP, S2, b1, b2, q⟩ := q
  exact q.1.1.1.2.2
