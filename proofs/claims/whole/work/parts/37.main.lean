/-! BarkMakers: the component as a whole. T the tape, P the list, S the mountain, ep the place of the error. Printed by wip/whole/mk37.py. -/
def CMx (h : bk_H) (x : Nat) (T : List Int32) (P : Nat → bT) (S : bS) (ep : Int32) (p : Nat) (f : Nat → Int32) (g : Nat → Int64) (s : bC) (er et : Int32) (sP : bP) (S2 : bS) (b1 b2 : bT) : Prop :=
  HO h (x + 10) (x + 3) (x + 1) T p f g s er et ∧ (LO h (x + 17) sP.2.1 ∧ h (x + 28) = some (.inr (6, [.ref (x + 3), .ref (x + 17), .int (nI sP.1), .int sP.2.2]))) ∧ LO h (x + 29) P ∧ MO h (x + 40) S ∧ MO h (x + 51) S2 ∧ CO h (x + 62) (x + 29) (x + 40) b1 ∧ CO h (x + 66) (x + 29) (x + 51) b2 ∧
  h x = some (.inr (10, [.ref (x + 1), .ref (x + 3), .ref (x + 10), .ref (x + 28), .ref (x + 17), .ref (x + 29), .ref (x + 40), .ref (x + 51), .ref (x + 62), .ref (x + 66), .int ep]))
def CM (h : bk_H) (x : Nat) (T : List Int32) (P : Nat → bT) (S : bS) (ep : Int32) : Prop := ∃ p f g s er et sP S2 b1 b2, CMx h x T P S ep p f g s er et sP S2 b1 b2
theorem fx.split {h h' : bk_H} {mo a : Nat} (w : fx h h' mo a) : ∃ hm, fr h hm mo (mo + 11) ∧ fr hm h' a (a + 4) ∧ ∀ q, (mo ≤ q ∧ q < mo + 11) ∨ (a ≤ q ∧ q < a + 4) → (mo ≤ q ∧ q < mo + 11 → hm q = h' q) := by
  refine ⟨fun q => if mo ≤ q ∧ q < mo + 11 then h' q else h q, fun q hq => if_neg (by omega), fun q hq => ?_, fun q _ hq => if_pos hq⟩
  show h' q = (if _ then _ else _)
  by_cases e : mo ≤ q ∧ q < mo + 11
  · rw [if_pos e]
  · rw [if_neg e]
    exact w q (by omega) hq
section CMs
variable {h h' : bk_H} {x : Nat} {T : List Int32} {P : Nat → bT} {S : bS} {ep : Int32} {p : Nat} {f : Nat → Int32} {g : Nat → Int64} {s : bC} {er et : Int32} {sP : bP} {S2 : bS} {b1 b2 : bT}
theorem CMx.kp {lo hi : Nat} (q : CMx h x T P S ep p f g s er et sP S2 b1 b2) (w : fr h h' lo hi) (hd : hi ≤ x ∨ x + 70 ≤ lo) : CMx h' x T P S ep p f g s er et sP S2 b1 b2 := by
  obtain ⟨q1, ⟨q2, q2'⟩, q3, q4, q5, q6, q7, q8⟩ := q
  exact ⟨q1.kp w (by omega), ⟨q2.kp w (by omega), (w _ (by omega)).trans q2'⟩, q3.kp w (by omega), q4.kp w (by omega), q5.kp w (by omega), q6.kp w (by omega), q7.kp w (by omega), (w _ (by omega)).trans q8⟩
theorem CM.kp {lo hi : Nat} (q : CM h x T P S ep) (w : fr h h' lo hi) (hd : hi ≤ x ∨ x + 70 ≤ lo) : CM h' x T P S ep := by
  obtain ⟨p, f, g, s, er, et, sP, S2, b1, b2, q⟩ := q
  exact ⟨p, f, g, s, er, et, sP, S2, b1, b2, q.kp w hd⟩
theorem CMx.course (q : CMx h x T P S ep p f g s er et sP S2 b1 b2) : CX h (x + 62) (x + 29) (x + 40) P S b1 := ⟨q.2.2.1, q.2.2.2.1, q.2.2.2.2.2.1, by omega, by omega⟩
theorem CMx.thought (q : CMx h x T P S ep p f g s er et sP S2 b1 b2) : CX h (x + 66) (x + 29) (x + 51) P S2 b2 := ⟨q.2.2.1, q.2.2.2.2.1, q.2.2.2.2.2.2.1, by omega, by omega⟩
theorem CMx.now {S' : bS} {b' : bT} (q : CMx h x T P S ep p f g s er et sP S2 b1 b2) (k : CX h' (x + 62) (x + 29) (x + 40) P S' b') (w : fx h h' (x + 40) (x + 62)) : CMx h' x T P S' ep p f g s er et sP S2 b' b2 ∧ fr h h' x (x + 70) := by
  obtain ⟨hm, w1, w2, -⟩ := w.split
  obtain ⟨q1, ⟨q2, q2'⟩, q3, q4, q5, q6, q7, q8⟩ := q
  obtain ⟨k1, k2, k3, k4, k5⟩ := k
  exact ⟨⟨(q1.kp w1 (by omega)).kp w2 (by omega), ⟨(q2.kp w1 (by omega)).kp w2 (by omega), (w2 _ (by omega)).trans ((w1 _ (by omega)).trans q2')⟩, k1, k2, (q5.kp w1 (by omega)).kp w2 (by omega), k3, (q7.kp w1 (by omega)).kp w2 (by omega), (w2 _ (by omega)).trans ((w1 _ (by omega)).trans q8)⟩, fun z hz => w z (by omega) (by omega)⟩
theorem CMx.th {S' : bS} {b' : bT} (q : CMx h x T P S ep p f g s er et sP S2 b1 b2) (k : CX h' (x + 66) (x + 29) (x + 51) P S' b') (w : fx h h' (x + 51) (x + 66)) : CMx h' x T P S ep p f g s er et sP S' b1 b' ∧ fr h h' x (x + 70) := by
  obtain ⟨hm, w1, w2, -⟩ := w.split
  obtain ⟨q1, ⟨q2, q2'⟩, q3, q4, q5, q6, q7, q8⟩ := q
  obtain ⟨k1, k2, k3, k4, k5⟩ := k
  exact ⟨⟨(q1.kp w1 (by omega)).kp w2 (by omega), ⟨(q2.kp w1 (by omega)).kp w2 (by omega), (w2 _ (by omega)).trans ((w1 _ (by omega)).trans q2')⟩, k1, (q4.kp w1 (by omega)).kp w2 (by omega), k2, (q6.kp w1 (by omega)).kp w2 (by omega), k3, (w2 _ (by omega)).trans ((w1 _ (by omega)).trans q8)⟩, fun z hz => w z (by omega) (by omega)⟩
theorem CMx.mo {S' : bS} (q : CMx h x T P S ep p f g s er et sP S2 b1 b2) (k : MO h' (x + 40) S') (w : fr h h' (x + 40) (x + 51)) : CMx h' x T P S' ep p f g s er et sP S2 b1 b2 := by
  obtain ⟨q1, ⟨q2, q2'⟩, q3, q4, q5, q6, q7, q8⟩ := q
  exact ⟨q1.kp w (by omega), ⟨q2.kp w (by omega), (w _ (by omega)).trans q2'⟩, q3.kp w (by omega), k, q5.kp w (by omega), q6.kp w (by omega), q7.kp w (by omega), (w _ (by omega)).trans q8⟩
theorem CMx.mt {S' : bS} (q : CMx h x T P S ep p f g s er et sP S2 b1 b2) (k : MO h' (x + 51) S') (w : fr h h' (x + 51) (x + 62)) : CMx h' x T P S ep p f g s er et sP S' b1 b2 := by
  obtain ⟨q1, ⟨q2, q2'⟩, q3, q4, q5, q6, q7, q8⟩ := q
  exact ⟨q1.kp w (by omega), ⟨q2.kp w (by omega), (w _ (by omega)).trans q2'⟩, q3.kp w (by omega), q4.kp w (by omega), k, q6.kp w (by omega), q7.kp w (by omega), (w _ (by omega)).trans q8⟩
theorem CMx.lo {P' : Nat → bT} (q : CMx h x T P S ep p f g s er et sP S2 b1 b2) (k : LO h' (x + 29) P') (w : fr h h' (x + 29) (x + 40)) : CMx h' x T P' S ep p f g s er et sP S2 b1 b2 := by
  obtain ⟨q1, ⟨q2, q2'⟩, q3, q4, q5, q6, q7, q8⟩ := q
  exact ⟨q1.kp w (by omega), ⟨q2.kp w (by omega), (w _ (by omega)).trans q2'⟩, k, q4.kp w (by omega), q5.kp w (by omega), q6.kp w (by omega), q7.kp w (by omega), (w _ (by omega)).trans q8⟩
theorem CMx.ta {T' : List Int32} (q : CMx h x T P S ep p f g s er et sP S2 b1 b2) (k : TA h' (x + 1) T') (w : fr h h' (x + 1) (x + 1 + 2)) : CMx h' x T' P S ep p f g s er et sP S2 b1 b2 := by
  obtain ⟨⟨⟨c1, c2, c3, c4, c5, c6, c7⟩, d2, d3, d4, d5, d6⟩, ⟨q2, q2'⟩, q3, q4, q5, q6, q7, q8⟩ := q
  exact ⟨⟨⟨k, (w _ (by omega)).trans c2, c3.kp w (by omega), (w _ (by omega)).trans c4, (w _ (by omega)).trans c5, c6.kp w (by omega), c7⟩, (w _ (by omega)).trans d2, d3.kp w (by omega), d4.kp w (by omega), d5.kp w (by omega), d6⟩, ⟨q2.kp w (by omega), (w _ (by omega)).trans q2'⟩, q3.kp w (by omega), q4.kp w (by omega), q5.kp w (by omega), q6.kp w (by omega), q7.kp w (by omega), (w _ (by omega)).trans q8⟩
theorem CMx.eP {e' : Int32} (q : CMx h x T P S ep p f g s er et sP S2 b1 b2) (k : h' x = some (.inr (10, [.ref (x + 1), .ref (x + 3), .ref (x + 10), .ref (x + 28), .ref (x + 17), .ref (x + 29), .ref (x + 40), .ref (x + 51), .ref (x + 62), .ref (x + 66), .int e']))) (w : ∀ q, q ≠ x → h' q = h q) : CMx h' x T P S e' p f g s er et sP S2 b1 b2 := by
  have w := fr.one w
  obtain ⟨q1, ⟨q2, q2'⟩, q3, q4, q5, q6, q7, q8⟩ := q
  exact ⟨q1.kp w (by omega), ⟨q2.kp w (by omega), (w _ (by omega)).trans q2'⟩, q3.kp w (by omega), q4.kp w (by omega), q5.kp w (by omega), q6.kp w (by omega), q7.kp w (by omega), k⟩
theorem CMx.ho {f' : Nat → Int32} {g' : Nat → Int64} {s' : bC} {er' et' : Int32} {p' : Nat} (q : CMx h x T P S ep p f g s er et sP S2 b1 b2) (k : HO h' (x + 10) (x + 3) (x + 1) T p' f' g' s' er' et') (w : fr h h' (x + 3) (x + 17)) : CMx h' x T P S ep p' f' g' s' er' et' sP S2 b1 b2 := by
  obtain ⟨q1, ⟨q2, q2'⟩, q3, q4, q5, q6, q7, q8⟩ := q
  exact ⟨k, ⟨q2.kp w (by omega), (w _ (by omega)).trans q2'⟩, q3.kp w (by omega), q4.kp w (by omega), q5.kp w (by omega), q6.kp w (by omega), q7.kp w (by omega), (w _ (by omega)).trans q8⟩
theorem CMx.xs {sP' : bP} (q : CMx h x T P S ep p f g s er et sP S2 b1 b2) (k : XS h' (x + 17) (x + 3) (x + 1) T p s.2.2 f g sP') (w : fr h h' (x + 17) (x + 29)) : CMx h' x T P S ep p f g s er et sP' S2 b1 b2 := by
  obtain ⟨q1, q2, q3, q4, q5, q6, q7, q8⟩ := q
  exact ⟨q1.kp w (by omega), ⟨k.L, k.2.2.1⟩, q3.kp w (by omega), q4.kp w (by omega), q5.kp w (by omega), q6.kp w (by omega), q7.kp w (by omega), (w _ (by omega)).trans q8⟩
theorem CMx.XS (q : CMx h x T P S ep p f g s er et sP S2 b1 b2) : XS h (x + 17) (x + 3) (x + 1) T p s.2.2 f g sP := by
  obtain ⟨q1, ⟨q2, q2'⟩, q3⟩ := q
  refine ⟨q1.1, ?_, q2', by omega⟩
  rw [uT_id]
  exact q2
end CMs
abbrev w3 (w : Int32) : Prop := w = 0 ∨ w = 1 ∨ w = 2
abbrev w4 (w : Int32) : Prop := w = 0 ∨ w = 1 ∨ w = 2 ∨ w = 3
abbrev w5 (w : Int32) : Prop := w = 0 ∨ w = 1 ∨ w = 2 ∨ w = 3 ∨ w = 4
abbrev w15 (w : Int32) : Prop := w = 0 ∨ w = 1 ∨ w = 2 ∨ w = 3 ∨ w = 4 ∨ w = 5 ∨ w = 6 ∨ w = 7 ∨ w = 8 ∨ w = 9 ∨ w = 10 ∨ w = 11 ∨ w = 12 ∨ w = 13 ∨ w = 14
abbrev isI (t : bT) (b : Int32) : Prop := ¬ b < 0 ∧ b < nI t.length
def cnV (T : List Int32) (P : Nat → bT) (S : bS) (w : Int32) : Int32 :=
  if w = 0 then S.1 0 else if w = 1 then S.1 1 else if w = 2 then S.1 2 else if w = 3 then nI (P 0).length else if w = 4 then nI (P 1).length else if w = 5 then nI (P 2).length else if w = 6 then nI (P 3).length else if w = 7 then nI (S.2 3).length else if w = 8 then nI (tC (S.2 3) 2 0)
  else if w = 9 then nI (S.2 4).length else if w = 10 then S.1 3 else if w = 11 then S.1 4 else if w = 12 then S.1 5 else if w = 13 then S.1 6 else nI T.length
def bkV (P : Nat → bT) (S : bS) (b w : Int32) : Int32 := if w = 0 then rG (S.2 0) b 0 else if w = 1 then rG (S.2 0) b 1 else if w = 2 then rG (S.2 0) b 2 else if w = 3 then rG (P 0) b 1 else nI (tC (S.2 3) 0 b)
def beV (P : Nat → bT) (S : bS) (b w : Int32) : Int32 := if w = 0 then rG (P 1) b 0 else if w = 1 then rG (S.2 1) b 0 else if w = 2 then htb S b else brd P S b
def spV (P : Nat → bT) (S : bS) (b w : Int32) : Int32 := if w = 0 then rG (P 2) b 0 else if w = 1 then rG (P 2) b 1 else if w = 2 then rG (P 2) b 2 else if w = 3 then nI (tC (S.2 4) 0 b) else rG (S.2 2) b 0
def shV (S : bS) (b w : Int32) : Int32 := if w = 0 then rG (S.2 3) b 0 else if w = 1 then rG (S.2 3) b 1 else if w = 2 then rG (S.2 3) b 2 else rG (S.2 3) b 3
def fiV (P : Nat → bT) (S : bS) (b w : Int32) : Int32 := if w = 0 then rG (S.2 4) b 0 else if w = 1 then rG (S.2 4) b 1 else paid P (S.2 4) b
section CMm
variable {V : bk_V} {d n : Nat} {B : Nat × Nat} {Q : bk_R → bk_H → Nat → Prop} {h : bk_H} {x : Nat} {T : List Int32} {P : Nat → bT} {S : bS} {ep : Int32}
theorem bb_errorAt (hC : CM h x T P S ep) (hQ : Q (.inl (some (.int ep))) h n) : bk_wp V (d + 1) 98 [.ref x] h n B Q := by
  obtain ⟨p, f, g, s, er, et, sP, S2, b1, b2, hC0⟩ := id hC
  obtain ⟨⟨⟨tA, k0, k1, k2, k3, k4, ktp⟩, o0, n0, n1, n2, otk⟩, ⟨⟨d0, d1, d2, d3, d4, d5⟩, pr0⟩, ⟨l0, l1, l2, l3, l4, l5⟩, ⟨m0, m1, m2, m3, m4, m5⟩, ⟨u0, u1, u2, u3, u4, u5⟩, ⟨c0, cb, cf⟩, ⟨t0, tb, tf⟩, hx⟩ := id hC0
  refine bg_in rfl rfl ?_
  refine bg_aload0 rfl ?_
  refine bg_getfield rfl rfl hx (by rfl) ?_
  refine bg_iret rfl rfl (by rfl) ?_
  assumption
theorem bb_count {w : Int32}  (hC : CM h x T P S ep) (hE : ¬ w15 w → 1 ≤ B.1 ∧ 6 ≤ B.2 ∧ ∀ n', n ≤ n' → Q (.inr "java/lang/IndexOutOfBoundsException") h n') (hQ : w15 w → Q (.inl (some (.int (cnV T P S w)))) h n) : bk_wp V (d + 2) 99 [.ref x, .int w] h n B Q := by
  obtain ⟨p, f, g, s, er, et, sP, S2, b1, b2, hC0⟩ := id hC
  obtain ⟨⟨⟨tA, k0, k1, k2, k3, k4, ktp⟩, o0, n0, n1, n2, otk⟩, ⟨⟨d0, d1, d2, d3, d4, d5⟩, pr0⟩, ⟨l0, l1, l2, l3, l4, l5⟩, ⟨m0, m1, m2, m3, m4, m5⟩, ⟨u0, u1, u2, u3, u4, u5⟩, ⟨c0, cb, cf⟩, ⟨t0, tb, tf⟩, hx⟩ := id hC0
  refine bg_in rfl rfl ?_
  refine bg_iload1 rfl ?_
  refine bg_tsw rfl ?_
  refine bk_sw_c (fun e1_0 => ?_) (fun n1_0 => ?_)
  · subst e1_0
    refine bg_aload0 rfl ?_
    refine bg_getfield rfl rfl hx (by rfl) ?_
    refine bg_getfield rfl rfl m0 (by rfl) ?_
    refine bg_iret rfl rfl (by rfl) ?_
    exact hQ (by decide)
  refine bk_sw_c (fun e1_1 => ?_) (fun n1_1 => ?_)
  · subst e1_1
    refine bg_aload0 rfl ?_
    refine bg_getfield rfl rfl hx (by rfl) ?_
    refine bg_getfield rfl rfl m0 (by rfl) ?_
    refine bg_iret rfl rfl (by rfl) ?_
    exact hQ (by decide)
  refine bk_sw_c (fun e1_2 => ?_) (fun n1_2 => ?_)
  · subst e1_2
    refine bg_aload0 rfl ?_
    refine bg_getfield rfl rfl hx (by rfl) ?_
    refine bg_getfield rfl rfl m0 (by rfl) ?_
    refine bg_iret rfl rfl (by rfl) ?_
    exact hQ (by decide)
  refine bk_sw_c (fun e1_3 => ?_) (fun n1_3 => ?_)
  · subst e1_3
    refine bg_aload0 rfl ?_
    refine bg_getfield rfl rfl hx (by rfl) ?_
    refine bg_getfield rfl rfl l0 (by rfl) ?_
    refine bg_virt0 rfl rfl rfl rfl ⟨_, l1.1⟩ ?_
    refine bt_size l1 (bk_Ki ?_)
    refine bg_iret rfl rfl (by rfl) ?_
    exact hQ (by decide)
  refine bk_sw_c (fun e1_4 => ?_) (fun n1_4 => ?_)
  · subst e1_4
    refine bg_aload0 rfl ?_
    refine bg_getfield rfl rfl hx (by rfl) ?_
    refine bg_getfield rfl rfl l0 (by rfl) ?_
    refine bg_virt0 rfl rfl rfl rfl ⟨_, l2.1⟩ ?_
    refine bt_size l2 (bk_Ki ?_)
    refine bg_iret rfl rfl (by rfl) ?_
    exact hQ (by decide)
  refine bk_sw_c (fun e1_5 => ?_) (fun n1_5 => ?_)
  · subst e1_5
    refine bg_aload0 rfl ?_
    refine bg_getfield rfl rfl hx (by rfl) ?_
    refine bg_getfield rfl rfl l0 (by rfl) ?_
    refine bg_virt0 rfl rfl rfl rfl ⟨_, l3.1⟩ ?_
    refine bt_size l3 (bk_Ki ?_)
    refine bg_iret rfl rfl (by rfl) ?_
    exact hQ (by decide)
  refine bk_sw_c (fun e1_6 => ?_) (fun n1_6 => ?_)
  · subst e1_6
    refine bg_aload0 rfl ?_
    refine bg_getfield rfl rfl hx (by rfl) ?_
    refine bg_getfield rfl rfl l0 (by rfl) ?_
    refine bg_virt0 rfl rfl rfl rfl ⟨_, l4.1⟩ ?_
    refine bt_size l4 (bk_Ki ?_)
    refine bg_iret rfl rfl (by rfl) ?_
    exact hQ (by decide)
  refine bk_sw_c (fun e1_7 => ?_) (fun n1_7 => ?_)
  · subst e1_7
    refine bg_aload0 rfl ?_
    refine bg_getfield rfl rfl hx (by rfl) ?_
    refine bg_getfield rfl rfl m0 (by rfl) ?_
    refine bg_virt0 rfl rfl rfl rfl ⟨_, m4.1⟩ ?_
    refine bt_size m4 (bk_Ki ?_)
    refine bg_iret rfl rfl (by rfl) ?_
    exact hQ (by decide)
  refine bk_sw_c (fun e1_8 => ?_) (fun n1_8 => ?_)
  · subst e1_8
    refine bg_aload0 rfl ?_
    refine bg_getfield rfl rfl hx (by rfl) ?_
    refine bg_getfield rfl rfl m0 (by rfl) ?_
    refine bg_iconst rfl ?_
    refine bg_iconst rfl ?_
    refine bg_virt2 rfl rfl rfl rfl ⟨_, m4.1⟩ ?_
    refine bt_countOf m4 rfl (by decide) (bk_Ki ?_)
    refine bg_iret rfl rfl (by rfl) ?_
    exact hQ (by decide)
  refine bk_sw_c (fun e1_9 => ?_) (fun n1_9 => ?_)
  · subst e1_9
    refine bg_aload0 rfl ?_
    refine bg_getfield rfl rfl hx (by rfl) ?_
    refine bg_getfield rfl rfl m0 (by rfl) ?_
    refine bg_virt0 rfl rfl rfl rfl ⟨_, m5.1⟩ ?_
    refine bt_size m5 (bk_Ki ?_)
    refine bg_iret rfl rfl (by rfl) ?_
    exact hQ (by decide)
  refine bk_sw_c (fun e1_10 => ?_) (fun n1_10 => ?_)
  · subst e1_10
    refine bg_aload0 rfl ?_
    refine bg_getfield rfl rfl hx (by rfl) ?_
    refine bg_getfield rfl rfl m0 (by rfl) ?_
    refine bg_iret rfl rfl (by rfl) ?_
    exact hQ (by decide)
  refine bk_sw_c (fun e1_11 => ?_) (fun n1_11 => ?_)
  · subst e1_11
    refine bg_aload0 rfl ?_
    refine bg_getfield rfl rfl hx (by rfl) ?_
    refine bg_getfield rfl rfl m0 (by rfl) ?_
    refine bg_iret rfl rfl (by rfl) ?_
    exact hQ (by decide)
  refine bk_sw_c (fun e1_12 => ?_) (fun n1_12 => ?_)
  · subst e1_12
    refine bg_aload0 rfl ?_
    refine bg_getfield rfl rfl hx (by rfl) ?_
    refine bg_getfield rfl rfl m0 (by rfl) ?_
    refine bg_iret rfl rfl (by rfl) ?_
    exact hQ (by decide)
  refine bk_sw_c (fun e1_13 => ?_) (fun n1_13 => ?_)
  · subst e1_13
    refine bg_aload0 rfl ?_
    refine bg_getfield rfl rfl hx (by rfl) ?_
    refine bg_getfield rfl rfl m0 (by rfl) ?_
    refine bg_iret rfl rfl (by rfl) ?_
    exact hQ (by decide)
  refine bk_sw_c (fun e1_14 => ?_) (fun n1_14 => ?_)
  · subst e1_14
    refine bg_aload0 rfl ?_
    refine bg_getfield rfl rfl hx (by rfl) ?_
    refine bg_virt0 rfl rfl rfl rfl ⟨_, tA.1⟩ ?_
    refine ba_length tA (bk_Ki ?_)
    refine bg_iret rfl rfl (by rfl) ?_
    exact hQ (by decide)
  refine bk_sw_n ?_
  have hno := hE (fun q => by rcases q with z | z | z | z | z | z | z | z | z | z | z | z | z | z | z <;> contradiction)
  exact bg_throw rfl rfl rfl (by show 0 + 1 ≤ B.1; have := hno.1; omega) (by show 0 + 6 ≤ B.2; have := hno.2.1; omega) hno.2.2
theorem bb_bark {b w : Int32}  (hC : CM h x T P S ep) (hE : ¬ (isI (P 0) b ∧ w5 w) → 1 ≤ B.1 ∧ 6 ≤ B.2 ∧ ∀ n', n ≤ n' → Q (.inr "java/lang/IndexOutOfBoundsException") h n') (hQ : isI (P 0) b ∧ w5 w → Q (.inl (some (.int (bkV P S b w)))) h n) : bk_wp V (d + 2) 100 [.ref x, .int b, .int w] h n B Q := by
  obtain ⟨p, f, g, s, er, et, sP, S2, b1, b2, hC0⟩ := id hC
  obtain ⟨⟨⟨tA, k0, k1, k2, k3, k4, ktp⟩, o0, n0, n1, n2, otk⟩, ⟨⟨d0, d1, d2, d3, d4, d5⟩, pr0⟩, ⟨l0, l1, l2, l3, l4, l5⟩, ⟨m0, m1, m2, m3, m4, m5⟩, ⟨u0, u1, u2, u3, u4, u5⟩, ⟨c0, cb, cf⟩, ⟨t0, tb, tf⟩, hx⟩ := id hC0
  refine bg_in rfl rfl ?_
  refine bg_aload0 rfl ?_
  refine bg_getfield rfl rfl hx (by rfl) ?_
  refine bg_getfield rfl rfl l0 (by rfl) ?_
  refine bg_iload1 rfl ?_
  refine bg_virt1 rfl rfl rfl rfl ⟨_, l1.1⟩ ?_
  refine bt_has l1 (bk_Ki ?_)
  refine bg_ifne_b rfl (fun e11 => ?_) (fun e11 => ?_)
  · refine bg_iload2 rfl ?_
    refine bg_tsw rfl ?_
    refine bk_sw_c (fun e25_0 => ?_) (fun n25_0 => ?_)
    · subst e25_0
      refine bg_aload0 rfl ?_
      refine bg_getfield rfl rfl hx (by rfl) ?_
      refine bg_getfield rfl rfl m0 (by rfl) ?_
      refine bg_iload1 rfl ?_
      refine bg_iconst rfl ?_
      refine bg_virt2 rfl rfl rfl rfl ⟨_, m1.1⟩ ?_
      refine bt_get m1 rfl (by decide) (bk_Ki ?_)
      refine bg_iret rfl rfl (by rfl) ?_
      exact hQ ⟨e11, by decide⟩
    refine bk_sw_c (fun e25_1 => ?_) (fun n25_1 => ?_)
    · subst e25_1
      refine bg_aload0 rfl ?_
      refine bg_getfield rfl rfl hx (by rfl) ?_
      refine bg_getfield rfl rfl m0 (by rfl) ?_
      refine bg_iload1 rfl ?_
      refine bg_iconst rfl ?_
      refine bg_virt2 rfl rfl rfl rfl ⟨_, m1.1⟩ ?_
      refine bt_get m1 rfl (by decide) (bk_Ki ?_)
      refine bg_iret rfl rfl (by rfl) ?_
      exact hQ ⟨e11, by decide⟩
    refine bk_sw_c (fun e25_2 => ?_) (fun n25_2 => ?_)
    · subst e25_2
      refine bg_aload0 rfl ?_
      refine bg_getfield rfl rfl hx (by rfl) ?_
      refine bg_getfield rfl rfl m0 (by rfl) ?_
      refine bg_iload1 rfl ?_
      refine bg_iconst rfl ?_
      refine bg_virt2 rfl rfl rfl rfl ⟨_, m1.1⟩ ?_
      refine bt_get m1 rfl (by decide) (bk_Ki ?_)
      refine bg_iret rfl rfl (by rfl) ?_
      exact hQ ⟨e11, by decide⟩
    refine bk_sw_c (fun e25_3 => ?_) (fun n25_3 => ?_)
    · subst e25_3
      refine bg_aload0 rfl ?_
      refine bg_getfield rfl rfl hx (by rfl) ?_
      refine bg_getfield rfl rfl l0 (by rfl) ?_
      refine bg_iload1 rfl ?_
      refine bg_iconst rfl ?_
      refine bg_virt2 rfl rfl rfl rfl ⟨_, l1.1⟩ ?_
      refine bt_get l1 rfl (by decide) (bk_Ki ?_)
      refine bg_iret rfl rfl (by rfl) ?_
      exact hQ ⟨e11, by decide⟩
    refine bk_sw_c (fun e25_4 => ?_) (fun n25_4 => ?_)
    · subst e25_4
      refine bg_aload0 rfl ?_
      refine bg_getfield rfl rfl hx (by rfl) ?_
      refine bg_getfield rfl rfl m0 (by rfl) ?_
      refine bg_iconst rfl ?_
      refine bg_iload1 rfl ?_
      refine bg_virt2 rfl rfl rfl rfl ⟨_, m4.1⟩ ?_
      refine bt_countOf m4 rfl (by decide) (bk_Ki ?_)
      refine bg_iret rfl rfl (by rfl) ?_
      exact hQ ⟨e11, by decide⟩
    refine bk_sw_n ?_
    have hno := hE (fun q => by rcases q.2 with z | z | z | z | z <;> contradiction)
    exact bg_throw rfl rfl rfl (by show 0 + 1 ≤ B.1; have := hno.1; omega) (by show 0 + 6 ≤ B.2; have := hno.2.1; omega) hno.2.2
  · have hno := hE (fun q => e11 q.1)
    exact bg_throw rfl rfl rfl (by show 0 + 1 ≤ B.1; have := hno.1; omega) (by show 0 + 6 ≤ B.2; have := hno.2.1; omega) hno.2.2
theorem bb_spirit {b w : Int32}  (hC : CM h x T P S ep) (hE : ¬ (isI (P 2) b ∧ w5 w) → 1 ≤ B.1 ∧ 6 ≤ B.2 ∧ ∀ n', n ≤ n' → Q (.inr "java/lang/IndexOutOfBoundsException") h n') (hQ : isI (P 2) b ∧ w5 w → Q (.inl (some (.int (spV P S b w)))) h n) : bk_wp V (d + 2) 102 [.ref x, .int b, .int w] h n B Q := by
  obtain ⟨p, f, g, s, er, et, sP, S2, b1, b2, hC0⟩ := id hC
  obtain ⟨⟨⟨tA, k0, k1, k2, k3, k4, ktp⟩, o0, n0, n1, n2, otk⟩, ⟨⟨d0, d1, d2, d3, d4, d5⟩, pr0⟩, ⟨l0, l1, l2, l3, l4, l5⟩, ⟨m0, m1, m2, m3, m4, m5⟩, ⟨u0, u1, u2, u3, u4, u5⟩, ⟨c0, cb, cf⟩, ⟨t0, tb, tf⟩, hx⟩ := id hC0
  refine bg_in rfl rfl ?_
  refine bg_aload0 rfl ?_
  refine bg_getfield rfl rfl hx (by rfl) ?_
  refine bg_getfield rfl rfl l0 (by rfl) ?_
  refine bg_iload1 rfl ?_
  refine bg_virt1 rfl rfl rfl rfl ⟨_, l3.1⟩ ?_
  refine bt_has l3 (bk_Ki ?_)
  refine bg_ifne_b rfl (fun e11 => ?_) (fun e11 => ?_)
  · refine bg_iload2 rfl ?_
    refine bg_tsw rfl ?_
    refine bk_sw_c (fun e25_0 => ?_) (fun n25_0 => ?_)
    · subst e25_0
      refine bg_aload0 rfl ?_
      refine bg_getfield rfl rfl hx (by rfl) ?_
      refine bg_getfield rfl rfl l0 (by rfl) ?_
      refine bg_iload1 rfl ?_
      refine bg_iconst rfl ?_
      refine bg_virt2 rfl rfl rfl rfl ⟨_, l3.1⟩ ?_
      refine bt_get l3 rfl (by decide) (bk_Ki ?_)
      refine bg_iret rfl rfl (by rfl) ?_
      exact hQ ⟨e11, by decide⟩
    refine bk_sw_c (fun e25_1 => ?_) (fun n25_1 => ?_)
    · subst e25_1
      refine bg_aload0 rfl ?_
      refine bg_getfield rfl rfl hx (by rfl) ?_
      refine bg_getfield rfl rfl l0 (by rfl) ?_
      refine bg_iload1 rfl ?_
      refine bg_iconst rfl ?_
      refine bg_virt2 rfl rfl rfl rfl ⟨_, l3.1⟩ ?_
      refine bt_get l3 rfl (by decide) (bk_Ki ?_)
      refine bg_iret rfl rfl (by rfl) ?_
      exact hQ ⟨e11, by decide⟩
    refine bk_sw_c (fun e25_2 => ?_) (fun n25_2 => ?_)
    · subst e25_2
      refine bg_aload0 rfl ?_
      refine bg_getfield rfl rfl hx (by rfl) ?_
      refine bg_getfield rfl rfl l0 (by rfl) ?_
      refine bg_iload1 rfl ?_
      refine bg_iconst rfl ?_
      refine bg_virt2 rfl rfl rfl rfl ⟨_, l3.1⟩ ?_
      refine bt_get l3 rfl (by decide) (bk_Ki ?_)
      refine bg_iret rfl rfl (by rfl) ?_
      exact hQ ⟨e11, by decide⟩
    refine bk_sw_c (fun e25_3 => ?_) (fun n25_3 => ?_)
    · subst e25_3
      refine bg_aload0 rfl ?_
      refine bg_getfield rfl rfl hx (by rfl) ?_
      refine bg_getfield rfl rfl m0 (by rfl) ?_
      refine bg_iconst rfl ?_
      refine bg_iload1 rfl ?_
      refine bg_virt2 rfl rfl rfl rfl ⟨_, m5.1⟩ ?_
      refine bt_countOf m5 rfl (by decide) (bk_Ki ?_)
      refine bg_iret rfl rfl (by rfl) ?_
      exact hQ ⟨e11, by decide⟩
    refine bk_sw_c (fun e25_4 => ?_) (fun n25_4 => ?_)
    · subst e25_4
      refine bg_aload0 rfl ?_
      refine bg_getfield rfl rfl hx (by rfl) ?_
      refine bg_getfield rfl rfl m0 (by rfl) ?_
      refine bg_iload1 rfl ?_
      refine bg_iconst rfl ?_
      refine bg_virt2 rfl rfl rfl rfl ⟨_, m3.1⟩ ?_
      refine bt_get m3 rfl (by decide) (bk_Ki ?_)
      refine bg_iret rfl rfl (by rfl) ?_
      exact hQ ⟨e11, by decide⟩
    refine bk_sw_n ?_
    have hno := hE (fun q => by rcases q.2 with z | z | z | z | z <;> contradiction)
    exact bg_throw rfl rfl rfl (by show 0 + 1 ≤ B.1; have := hno.1; omega) (by show 0 + 6 ≤ B.2; have := hno.2.1; omega) hno.2.2
  · have hno := hE (fun q => e11 q.1)
    exact bg_throw rfl rfl rfl (by show 0 + 1 ≤ B.1; have := hno.1; omega) (by show 0 + 6 ≤ B.2; have := hno.2.1; omega) hno.2.2
theorem bb_sheet {b w : Int32}  (hC : CM h x T P S ep) (hE : ¬ (isI (S.2 3) b ∧ w4 w) → 1 ≤ B.1 ∧ 6 ≤ B.2 ∧ ∀ n', n ≤ n' → Q (.inr "java/lang/IndexOutOfBoundsException") h n') (hQ : isI (S.2 3) b ∧ w4 w → Q (.inl (some (.int (shV S b w)))) h n) : bk_wp V (d + 2) 103 [.ref x, .int b, .int w] h n B Q := by
  obtain ⟨p, f, g, s, er, et, sP, S2, b1, b2, hC0⟩ := id hC
  obtain ⟨⟨⟨tA, k0, k1, k2, k3, k4, ktp⟩, o0, n0, n1, n2, otk⟩, ⟨⟨d0, d1, d2, d3, d4, d5⟩, pr0⟩, ⟨l0, l1, l2, l3, l4, l5⟩, ⟨m0, m1, m2, m3, m4, m5⟩, ⟨u0, u1, u2, u3, u4, u5⟩, ⟨c0, cb, cf⟩, ⟨t0, tb, tf⟩, hx⟩ := id hC0
  refine bg_in rfl rfl ?_
  refine bg_aload0 rfl ?_
  refine bg_getfield rfl rfl hx (by rfl) ?_
  refine bg_getfield rfl rfl m0 (by rfl) ?_
  refine bg_iload1 rfl ?_
  refine bg_virt1 rfl rfl rfl rfl ⟨_, m4.1⟩ ?_
  refine bt_has m4 (bk_Ki ?_)
  refine bg_ifne_b rfl (fun e11 => ?_) (fun e11 => ?_)
  · refine bg_iload2 rfl ?_
    refine bg_tsw rfl ?_
    refine bk_sw_c (fun e25_0 => ?_) (fun n25_0 => ?_)
    · subst e25_0
      refine bg_aload0 rfl ?_
      refine bg_getfield rfl rfl hx (by rfl) ?_
      refine bg_getfield rfl rfl m0 (by rfl) ?_
      refine bg_iload1 rfl ?_
      refine bg_iconst rfl ?_
      refine bg_virt2 rfl rfl rfl rfl ⟨_, m4.1⟩ ?_
      refine bt_get m4 rfl (by decide) (bk_Ki ?_)
      refine bg_iret rfl rfl (by rfl) ?_
      exact hQ ⟨e11, by decide⟩
    refine bk_sw_c (fun e25_1 => ?_) (fun n25_1 => ?_)
    · subst e25_1
      refine bg_aload0 rfl ?_
      refine bg_getfield rfl rfl hx (by rfl) ?_
      refine bg_getfield rfl rfl m0 (by rfl) ?_
      refine bg_iload1 rfl ?_
      refine bg_iconst rfl ?_
      refine bg_virt2 rfl rfl rfl rfl ⟨_, m4.1⟩ ?_
      refine bt_get m4 rfl (by decide) (bk_Ki ?_)
      refine bg_iret rfl rfl (by rfl) ?_
      exact hQ ⟨e11, by decide⟩
    refine bk_sw_c (fun e25_2 => ?_) (fun n25_2 => ?_)
    · subst e25_2
      refine bg_aload0 rfl ?_
      refine bg_getfield rfl rfl hx (by rfl) ?_
      refine bg_getfield rfl rfl m0 (by rfl) ?_
      refine bg_iload1 rfl ?_
      refine bg_iconst rfl ?_
      refine bg_virt2 rfl rfl rfl rfl ⟨_, m4.1⟩ ?_
      refine bt_get m4 rfl (by decide) (bk_Ki ?_)
      refine bg_iret rfl rfl (by rfl) ?_
      exact hQ ⟨e11, by decide⟩
    refine bk_sw_c (fun e25_3 => ?_) (fun n25_3 => ?_)
    · subst e25_3
      refine bg_aload0 rfl ?_
      refine bg_getfield rfl rfl hx (by rfl) ?_
      refine bg_getfield rfl rfl m0 (by rfl) ?_
      refine bg_iload1 rfl ?_
      refine bg_iconst rfl ?_
      refine bg_virt2 rfl rfl rfl rfl ⟨_, m4.1⟩ ?_
      refine bt_get m4 rfl (by decide) (bk_Ki ?_)
      refine bg_iret rfl rfl (by rfl) ?_
      exact hQ ⟨e11, by decide⟩
    refine bk_sw_n ?_
    have hno := hE (fun q => by rcases q.2 with z | z | z | z <;> contradiction)
    exact bg_throw rfl rfl rfl (by show 0 + 1 ≤ B.1; have := hno.1; omega) (by show 0 + 6 ≤ B.2; have := hno.2.1; omega) hno.2.2
  · have hno := hE (fun q => e11 q.1)
    exact bg_throw rfl rfl rfl (by show 0 + 1 ≤ B.1; have := hno.1; omega) (by show 0 + 6 ≤ B.2; have := hno.2.1; omega) hno.2.2
theorem bb_figure {b w : Int32}  (hC : CM h x T P S ep) (hE : ¬ (isI (S.2 4) b ∧ w3 w) → 1 ≤ B.1 ∧ 6 ≤ B.2 ∧ ∀ n', n ≤ n' → Q (.inr "java/lang/IndexOutOfBoundsException") h n') (hQ : isI (S.2 4) b ∧ w3 w → Q (.inl (some (.int (fiV P S b w)))) h n) : bk_wp V (d + 3) 104 [.ref x, .int b, .int w] h n B Q := by
  obtain ⟨p, f, g, s, er, et, sP, S2, b1, b2, hC0⟩ := id hC
  obtain ⟨⟨⟨tA, k0, k1, k2, k3, k4, ktp⟩, o0, n0, n1, n2, otk⟩, ⟨⟨d0, d1, d2, d3, d4, d5⟩, pr0⟩, ⟨l0, l1, l2, l3, l4, l5⟩, ⟨m0, m1, m2, m3, m4, m5⟩, ⟨u0, u1, u2, u3, u4, u5⟩, ⟨c0, cb, cf⟩, ⟨t0, tb, tf⟩, hx⟩ := id hC0
  refine bg_in rfl rfl ?_
  refine bg_aload0 rfl ?_
  refine bg_getfield rfl rfl hx (by rfl) ?_
  refine bg_getfield rfl rfl m0 (by rfl) ?_
  refine bg_iload1 rfl ?_
  refine bg_virt1 rfl rfl rfl rfl ⟨_, m5.1⟩ ?_
  refine bt_has m5 (bk_Ki ?_)
  refine bg_ifne_b rfl (fun e11 => ?_) (fun e11 => ?_)
  · refine bg_iload2 rfl ?_
    refine bg_tsw rfl ?_
    refine bk_sw_c (fun e25_0 => ?_) (fun n25_0 => ?_)
    · subst e25_0
      refine bg_aload0 rfl ?_
      refine bg_getfield rfl rfl hx (by rfl) ?_
      refine bg_getfield rfl rfl m0 (by rfl) ?_
      refine bg_iload1 rfl ?_
      refine bg_iconst rfl ?_
      refine bg_virt2 rfl rfl rfl rfl ⟨_, m5.1⟩ ?_
      refine bt_get m5 rfl (by decide) (bk_Ki ?_)
      refine bg_iret rfl rfl (by rfl) ?_
      exact hQ ⟨e11, by decide⟩
    refine bk_sw_c (fun e25_1 => ?_) (fun n25_1 => ?_)
    · subst e25_1
      refine bg_aload0 rfl ?_
      refine bg_getfield rfl rfl hx (by rfl) ?_
      refine bg_getfield rfl rfl m0 (by rfl) ?_
      refine bg_iload1 rfl ?_
      refine bg_iconst rfl ?_
      refine bg_virt2 rfl rfl rfl rfl ⟨_, m5.1⟩ ?_
      refine bt_get m5 rfl (by decide) (bk_Ki ?_)
      refine bg_iret rfl rfl (by rfl) ?_
      exact hQ ⟨e11, by decide⟩
    refine bk_sw_c (fun e25_2 => ?_) (fun n25_2 => ?_)
    · subst e25_2
      refine bg_aload0 rfl ?_
      refine bg_getfield rfl rfl hx (by rfl) ?_
      refine bg_iload1 rfl ?_
      refine bg_virt1 rfl rfl rfl rfl ⟨_, c0⟩ ?_
      refine bc_paid hC0.course (bk_Ki ?_)
      refine bg_iret rfl rfl (by rfl) ?_
      exact hQ ⟨e11, by decide⟩
    refine bk_sw_n ?_
    have hno := hE (fun q => by rcases q.2 with z | z | z <;> contradiction)
    exact bg_throw rfl rfl rfl (by show 0 + 1 ≤ B.1; have := hno.1; omega) (by show 0 + 6 ≤ B.2; have := hno.2.1; omega) hno.2.2
  · have hno := hE (fun q => e11 q.1)
    exact bg_throw rfl rfl rfl (by show 0 + 1 ≤ B.1; have := hno.1; omega) (by show 0 + 6 ≤ B.2; have := hno.2.1; omega) hno.2.2
theorem bb_beater {b w : Int32}  (hC : CM h x T P S ep) (hW : WP P) (hE : ¬ (isI (P 1) b ∧ w4 w) → 1 ≤ B.1 ∧ 6 ≤ B.2 ∧ ∀ n', n ≤ n' → Q (.inr "java/lang/IndexOutOfBoundsException") h n') (hQ : isI (P 1) b ∧ w4 w → ∀ h', CM h' x T P S ep → fr h h' x (x + 70) → Q (.inl (some (.int (beV P S b w)))) h' n) : bk_wp V (d + 5) 101 [.ref x, .int b, .int w] h n B Q := by
  obtain ⟨p, f, g, s, er, et, sP, S2, b1, b2, hC0⟩ := id hC
  obtain ⟨⟨⟨tA, k0, k1, k2, k3, k4, ktp⟩, o0, n0, n1, n2, otk⟩, ⟨⟨d0, d1, d2, d3, d4, d5⟩, pr0⟩, ⟨l0, l1, l2, l3, l4, l5⟩, ⟨m0, m1, m2, m3, m4, m5⟩, ⟨u0, u1, u2, u3, u4, u5⟩, ⟨c0, cb, cf⟩, ⟨t0, tb, tf⟩, hx⟩ := id hC0
  refine bg_in rfl rfl ?_
  refine bg_aload0 rfl ?_
  refine bg_getfield rfl rfl hx (by rfl) ?_
  refine bg_getfield rfl rfl l0 (by rfl) ?_
  refine bg_iload1 rfl ?_
  refine bg_virt1 rfl rfl rfl rfl ⟨_, l2.1⟩ ?_
  refine bt_has l2 (bk_Ki ?_)
  refine bg_ifne_b rfl (fun e11 => ?_) (fun e11 => ?_)
  · refine bg_iload2 rfl ?_
    refine bg_tsw rfl ?_
    refine bk_sw_c (fun e25_0 => ?_) (fun n25_0 => ?_)
    · subst e25_0
      refine bg_aload0 rfl ?_
      refine bg_getfield rfl rfl hx (by rfl) ?_
      refine bg_getfield rfl rfl l0 (by rfl) ?_
      refine bg_iload1 rfl ?_
      refine bg_iconst rfl ?_
      refine bg_virt2 rfl rfl rfl rfl ⟨_, l2.1⟩ ?_
      refine bt_get l2 rfl (by decide) (bk_Ki ?_)
      refine bg_iret rfl rfl (by rfl) ?_
      first
        | exact hQ ⟨e11, by decide⟩ h hC fr.refl
        | exact hQ ⟨e11, by decide⟩ hA hCA gA
    refine bk_sw_c (fun e25_1 => ?_) (fun n25_1 => ?_)
    · subst e25_1
      refine bg_aload0 rfl ?_
      refine bg_getfield rfl rfl hx (by rfl) ?_
      refine bg_getfield rfl rfl m0 (by rfl) ?_
      refine bg_iload1 rfl ?_
      refine bg_iconst rfl ?_
      refine bg_virt2 rfl rfl rfl rfl ⟨_, m2.1⟩ ?_
      refine bt_get m2 rfl (by decide) (bk_Ki ?_)
      refine bg_iret rfl rfl (by rfl) ?_
      first
        | exact hQ ⟨e11, by decide⟩ h hC fr.refl
        | exact hQ ⟨e11, by decide⟩ hA hCA gA
    refine bk_sw_c (fun e25_2 => ?_) (fun n25_2 => ?_)
    · subst e25_2
      refine bg_aload0 rfl ?_
      refine bg_getfield rfl rfl hx (by rfl) ?_
      refine bg_iload1 rfl ?_
      refine bg_virt1 rfl rfl rfl rfl ⟨_, c0⟩ ?_
      refine bc_htb hC0.course (bk_Ki ?_)
      refine bg_iret rfl rfl (by rfl) ?_
      first
        | exact hQ ⟨e11, by decide⟩ h hC fr.refl
        | exact hQ ⟨e11, by decide⟩ hA hCA gA
    refine bk_sw_c (fun e25_3 => ?_) (fun n25_3 => ?_)
    · subst e25_3
      refine bg_aload0 rfl ?_
      refine bg_getfield rfl rfl hx (by rfl) ?_
      refine bg_iload1 rfl ?_
      refine bg_virt1 rfl rfl rfl rfl ⟨_, c0⟩ ?_
      refine bc_board hC0.course hW (fun hA kA gA => bk_Ki ?_)
      obtain ⟨z1, gA⟩ := hC0.now kA (gA.fxa (by omega) (by omega))
      have hCA : CM hA x T P S ep := ⟨_, _, _, _, _, _, _, _, _, _, z1⟩
      refine bg_iret rfl rfl (by rfl) ?_
      first
        | exact hQ ⟨e11, by decide⟩ h hC fr.refl
        | exact hQ ⟨e11, by decide⟩ hA hCA gA
    refine bk_sw_n ?_
    have hno := hE (fun q => by rcases q.2 with z | z | z | z <;> contradiction)
    exact bg_throw rfl rfl rfl (by show 0 + 1 ≤ B.1; have := hno.1; omega) (by show 0 + 6 ≤ B.2; have := hno.2.1; omega) hno.2.2
  · have hno := hE (fun q => e11 q.1)
    exact bg_throw rfl rfl rfl (by show 0 + 1 ≤ B.1; have := hno.1; omega) (by show 0 + 6 ≤ B.2; have := hno.2.1; omega) hno.2.2
end CMm
