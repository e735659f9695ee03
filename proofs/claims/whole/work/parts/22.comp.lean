/-! WHAT THE COMPONENT RECKONS, as functions of numbers: P the tables of a list, S a mountain's numbers and tables. Printed by wip/whole/mk22.py. -/
abbrev bS : Type := (Nat → Int32) × (Nat → bT)
def uT (T : Nat → bT) (i : Nat) (t : bT) : Nat → bT := fun k => if k = i then t else T k
theorem uT_s {T : Nat → bT} {i : Nat} {t : bT} : uT T i t i = t := if_pos rfl
theorem uT_n {T : Nat → bT} {i j : Nat} {t : bT} (h : j ≠ i) : uT T i t j = T j := if_neg h
theorem uT_uT {T : Nat → bT} {i : Nat} {t u : bT} : uT (uT T i t) i u = uT T i u := by
  funext k
  unfold uT
  by_cases h : k = i
  · rw [if_pos h, if_pos h]
  · rw [if_neg h, if_neg h, if_neg h]
def iMin (x y : Int32) : Int32 := if x ≤ y then x else y
def iMax (x y : Int32) : Int32 := if x < y then y else x
def qO (x y : Int32) : Int32 := if y = 0 then 0 else x / y
def itN {α : Type} (f : Nat → α → α) : Nat → α → α
  | 0, s => s
  | k + 1, s => f k (itN f k s)
theorem itN_s {α : Type} {f : Nat → α → α} {k : Nat} {s : α} : itN f (k + 1) s = f k (itN f k s) := rfl
def vO (S : bS) (x v : Int32) : Int32 :=
  if x = 18 then S.1 0 else if x = 23 then S.1 3 else if x = 24 then S.1 1 else if x = 2 then rG (S.2 0) v 0 else if x = 19 then rG (S.2 0) v 1 else if x = 20 then rG (S.2 0) v 2
  else if x = 21 then nI (tC (S.2 3) 0 v) else if x = 22 then nI (tC (S.2 4) 0 v) else v
def rO (x l r : Int32) : Int32 :=
  if x = 48 then -r else if x = 38 then l + r else if x = 39 then l - r else if x = 40 then l * r else if x = 41 then qO l r else if x = 28 then iMin l r else if x = 29 then iMax l r
  else if x = 42 then (if l < r then 1 else 0) else if x = 43 then (if r < l then 1 else 0) else if x = 44 then (if l = r then 1 else 0) else if x = 45 then (if ¬ r < l then 1 else 0) else if x = 46 then (if ¬ l < r then 1 else 0)
  else if x = 26 then l &&& r else if x = 27 then l ||| r else if x = 25 then 1 - r else 0
def ev1 (S : bS) (x v sd : Int32) (stk : List Int32) : List Int32 :=
  if sd = 0 then vO S x v :: stk
  else if sd = 1 then rO x 0 (stk.getD 0 0) :: stk.drop 1
  else rO x (stk.getD 1 0) (stk.getD 0 0) :: stk.drop 2
def evN (P : Nat → bT) (S : bS) : Nat → Nat → List Int32 → List Int32
  | 0, _, stk => stk
  | c + 1, i, stk => evN P S c (i + 1) (ev1 S (rG (P 4) (nI i) 0) (rG (P 4) (nI i) 1) (rG (P 4) (nI i) 2) stk)
/-- no step takes more than there is, no more than 64 wait -/
def wfN (P : Nat → bT) : Nat → Nat → Nat → Prop
  | 0, _, _ => True
  | c + 1, i, k => (rG (P 4) (nI i) 2 = 0 ∧ k < 64 ∧ wfN P c (i + 1) (k + 1)) ∨ (rG (P 4) (nI i) 2 = 1 ∧ 1 ≤ k ∧ wfN P c (i + 1) k) ∨ (rG (P 4) (nI i) 2 = 2 ∧ 2 ≤ k ∧ wfN P c (i + 1) (k - 1))
def rck (P : Nat → bT) (S : bS) (x : Int32) (f b : Nat) : Int32 := (evN P S ((rG (P 3) x b).toNatClampNeg - (rG (P 3) x f).toNatClampNeg) (rG (P 3) x f).toNatClampNeg []).headD 1
def sgm (P : Nat → bT) (o f b : Nat) : Prop := ∃ i e : Nat, rG (P 3) (nI o) f = nI i ∧ rG (P 3) (nI o) b = nI e ∧ i ≤ e ∧ e ≤ 400 ∧ wfN P (e - i) i 0
def WP (P : Nat → bT) : Prop := ∀ o, o < (P 3).length → sgm P o 5 6 ∧ (rG (P 3) (nI o) 0 = 11 → sgm P o 3 4)
def soak2 (P : Nat → bT) (o : Nat) (S : bS) : bS :=
  let b := rG (P 3) (nI o) 1
  let raw := rG (S.2 0) b 0
  let sk := rG (S.2 0) b 1
  let m := iMax 0 (iMin (rck P S (nI o) 3 4) (iMin raw (60 - sk)))
  (S.1, uT S.2 0 (rS (rS (S.2 0) b 0 (raw - m)) b 1 (sk + m)))
def soak1 (P : Nat → bT) (o : Nat) (S : bS) : bS := if rG (P 3) (nI o) 0 = 11 ∧ ¬ rck P S (nI o) 5 6 = 0 then soak2 P o S else S
def soakF (P : Nat → bT) (S : bS) : bS := itN (soak1 P) (P 3).length S
def gone (e h : Int32) : Int32 := if 0 < e then h - h / e * e else 0
def htb (S : bS) (x : Int32) : Int32 := if gone (rG (S.2 1) x 0) (S.1 0) = 0 then 0 else rG (S.2 1) x 0 - gone (rG (S.2 1) x 0) (S.1 0)
def brL (P : Nat → bT) (S : bS) (x : Int32) : Nat → Nat → Int32
  | 0, _ => -1
  | c + 1, o => if rG (P 3) (nI o) 0 = 13 ∧ rG (P 3) (nI o) 1 = x ∧ ¬ rck P S (nI o) 5 6 = 0 then rG (P 3) (nI o) 2 else brL P S x c (o + 1)
def brd (P : Nat → bT) (S : bS) (x : Int32) : Int32 := if x = S.1 7 ∨ ¬ htb S x = 0 then -1 else brL P S x (P 3).length 0
def bsF (P : Nat → bT) (S : bS) (n : Nat) : bT := (List.range n).map fun k => [brd P S (nI k)]
def fr1 (P : Nat → bT) (S : bS) (bs : bT) (b : Int32) (k : Nat) (q : Int32 × Int32 × Int32 × Int32) : Int32 × Int32 × Int32 × Int32 :=
  if rG bs (nI k) 0 = b then (q.1 + rG (P 1) (nI k) 0, q.2.1 + 1, rG (S.2 1) (nI k) 0, if ¬ q.2.2.2 = 0 ∧ (q.2.1 = 0 ∨ rG (S.2 1) (nI k) 0 = q.2.2.1) then 1 else 0) else q
def fcE (q : Int32 × Int32 × Int32 × Int32) : Int32 := if q.2.1 < 2 then q.1 else if ¬ q.2.2.2 = 0 then q.1 + q.2.1 else q.1 / 2
def fcF (P : Nat → bT) (S : bS) (bs : bT) (b : Int32) : Int32 := fcE (itN (fr1 P S bs b) bs.length (0, 0, 0, 1))
def shF (b th : Int32) (S : bS) : bS := (upd S.1 4 (S.1 4 + 1), uT S.2 3 (S.2 3 ++ [[b, th, 4, 0]]))
def mkL (b th : Int32) : Nat → Int32 × bS → Int32 × bS
  | 0, q => q
  | k + 1, q => if q.1 < 10 then q else mkL b th k (q.1 - 10, shF b th q.2)
def beat2 (P : Nat → bT) (bs : bT) (b : Int32) (S : bS) : bS :=
  let fi := rG (P 0) b 1
  let sk := rG (S.2 0) b 1
  let m := iMin sk (qO (fcF P S bs b) fi)
  let t := rS (S.2 0) b 1 (sk - m)
  let q := mkL b (iMax 1 (fi + 3 - nI (tC bs 0 b))) (30 - (S.2 3).length) (rG t b 2 + m, (S.1, uT S.2 0 t))
  (q.2.1, uT q.2.2 0 (rS (q.2.2 0) b 2 q.1))
def beatF (P : Nat → bT) (bs : bT) (b : Int32) (S : bS) : bS := if tC bs 0 b = 0 then S else beat2 P bs b S
def dry1 (w : Int32) (i : Nat) (t : bT) : bT :=
  let wet := iMax 0 (iMin 9 (rG t (nI i) 2 + (if ¬ 2 < w then -1 else if ¬ w < 4 then 1 else 0)))
  let t1 := rS t (nI i) 2 wet
  if ¬ wet < 3 ∨ w = 5 then rS t1 (nI i) 3 (iMin 9 (rG t1 (nI i) 3 + 1)) else t1
def dryF (S : bS) : bS := (S.1, uT S.2 3 (itN (dry1 (S.1 1)) (S.2 3).length (S.2 3)))
abbrev fitC (P : Nat → bT) (t : bT) (g b : Int32) (i : Nat) : Prop :=
  (rG (P 2) g 0 = 0 ∨ ¬ qO 12 (rG (P 2) g 0) < rG t (nI i) 1) ∧ rG t (nI i) 0 = b ∧ rG t (nI i) 2 = 0 ∧ rG t (nI i) 3 < 5
def shL (P : Nat → bT) (t : bT) (g b : Int32) : Nat → Nat → Int32
  | 0, _ => -1
  | c + 1, i => if fitC P t g b i then nI i else shL P t g b c (i + 1)
def btyF (P : Nat → bT) (g th mo : Int32) : Int32 := iMax 0 (rG (P 2) g 1 * (rG (P 2) g 0 + 1) - th * rG (P 2) g 0 - 2 * mo)
def cutO (P : Nat → bT) (g x : Int32) (S : bS) : bS := (upd S.1 5 (S.1 5 + 1), uT (uT S.2 3 (rE (S.2 3) x)) 4 (S.2 4 ++ [[g, btyF P g (rG (S.2 3) x 1) (rG (S.2 3) x 3)]]))
def cut1 (P : Nat → bT) (o : Nat) (S : bS) : bS :=
  if rG (P 3) (nI o) 0 = 15 ∧ ¬ 30 ≤ (S.2 4).length ∧ ¬ rck P S (nI o) 5 6 = 0 then
    (if shL P (S.2 3) (rG (P 3) (nI o) 1) (rG (P 3) (nI o) 2) (S.2 3).length 0 < 0 then S else cutO P (rG (P 3) (nI o) 1) (shL P (S.2 3) (rG (P 3) (nI o) 1) (rG (P 3) (nI o) 2) (S.2 3).length 0) S)
  else S
def cutF (P : Nat → bT) (S : bS) : bS := itN (cut1 P) (P 3).length S
def paid (P : Nat → bT) (t : bT) (x : Int32) : Int32 := rG (P 2) (rG t x 0) 2 + rG t x 1 / 4
def drL (P : Nat → bT) (t : bT) : Nat → Nat → Nat → Nat
  | 0, _, q => q
  | c + 1, i, q => drL P t c (i + 1) (if paid P t (nI q) < paid P t (nI i) then i else q)
def dear (P : Nat → bT) (t : bT) : Nat := drL P t (t.length - 1) 1 0
def sell1 (P : Nat → bT) (S : bS) : bS :=
  let x := nI (dear P (S.2 4))
  let g := rG (S.2 4) x 0
  (upd (upd S.1 3 (S.1 3 + paid P (S.2 4) x)) 6 (S.1 6 + 1), uT (uT S.2 2 (rS (S.2 2) g 0 (rG (S.2 2) g 0 + 1))) 4 (rE (S.2 4) x))
/-- c: how many tourists are left -/
def sellL (P : Nat → bT) : Nat → bS → bS
  | 0, S => S
  | c + 1, S => if (S.2 4).length = 0 then S else sellL P c (sell1 P S)
def beatA (P : Nat → bT) (S : bS) : bS := itN (fun k => beatF P (bsF P S (P 1).length) (nI k)) (P 0).length S
def endF (P : Nat → bT) (S : bS) : bS := if S.1 0 - S.1 0 / 8 * 8 = 7 then sellL P (S.1 2).toNatClampNeg S else S
def hourF (P : Nat → bT) (S0 : bS) : bS :=
  let S := endF P (cutF P (dryF (beatA P (soakF P S0))))
  (upd S.1 0 (S.1 0 + 1), S.2)
def goF (P : Nat → bT) (n : Nat) (S : bS) : bS := itN (fun _ => hourF P) n S
/-! the heap of the component -/
def LO (h : bk_H) (a : Nat) (P : Nat → bT) : Prop :=
  h a = some (.inr (3, [.ref (a + 1), .ref (a + 3), .ref (a + 5), .ref (a + 7), .ref (a + 9)])) ∧ TB h (a + 1) 2 5 (P 0) ∧ TB h (a + 3) 2 6 (P 1) ∧ TB h (a + 5) 3 6 (P 2) ∧ TB h (a + 7) 7 24 (P 3) ∧ TB h (a + 9) 3 400 (P 4)
def MO (h : bk_H) (a : Nat) (S : bS) : Prop :=
  h a = some (.inr (4, [.ref (a + 1), .ref (a + 3), .ref (a + 5), .ref (a + 7), .ref (a + 9), .int (S.1 0), .int (S.1 1), .int (S.1 2), .int (S.1 3), .int (S.1 4), .int (S.1 5), .int (S.1 6), .int (S.1 7)])) ∧
  TB h (a + 1) 3 5 (S.2 0) ∧ TB h (a + 3) 1 6 (S.2 1) ∧ TB h (a + 5) 1 6 (S.2 2) ∧ TB h (a + 7) 4 30 (S.2 3) ∧ TB h (a + 9) 2 30 (S.2 4)
/-- the stack of a reckoning: what lies lowest stands first -/
def SR (f : Nat → Int32) : List Int32 → Prop
  | [] => True
  | x :: r => f r.length = x ∧ SR f r
def CO (h : bk_H) (a lo mo : Nat) (bs : bT) : Prop :=
  h a = some (.inr (1, [.ref lo, .ref mo, .ref (a + 1), .ref (a + 3)])) ∧ TB h (a + 1) 1 6 bs ∧ ∃ f : Nat → Int32, h (a + 3) = some (.inl (0, 64, .inl f))
def CX (h : bk_H) (a lo mo : Nat) (P : Nat → bT) (S : bS) (bs : bT) : Prop := LO h lo P ∧ MO h mo S ∧ CO h a lo mo bs ∧ lo + 11 ≤ mo ∧ mo + 11 ≤ a
def fx (h h' : bk_H) (mo a : Nat) : Prop := ∀ q, (q < mo ∨ mo + 11 ≤ q) → (q < a ∨ a + 4 ≤ q) → h' q = h q
theorem fx.refl {h : bk_H} {mo a : Nat} : fx h h mo a := fun _ _ _ => rfl
theorem fx.trans {h h1 h2 : bk_H} {mo a : Nat} (x : fx h h1 mo a) (y : fx h1 h2 mo a) : fx h h2 mo a := fun q q1 q2 => (y q q1 q2).trans (x q q1 q2)
theorem fr.fxa {h h' : bk_H} {mo a lo hi : Nat} (g : fr h h' lo hi) (h1 : a ≤ lo) (h2 : hi ≤ a + 4) : fx h h' mo a := fun q _ q2 => g q (by omega)
theorem fr.fxm {h h' : bk_H} {mo a lo hi : Nat} (g : fr h h' lo hi) (h1 : mo ≤ lo) (h2 : hi ≤ mo + 11) : fx h h' mo a := fun q q1 _ => g q (by omega)
theorem LO.kp {h h' : bk_H} {a lo hi : Nat} {P : Nat → bT} (q : LO h a P) (g : fr h h' lo hi) (hd : a + 11 ≤ lo ∨ hi ≤ a) : LO h' a P := by
  obtain ⟨h0, h1, h2, h3, h4, h5⟩ := q
  exact ⟨(g a (by omega)).trans h0, h1.kp g (by omega), h2.kp g (by omega), h3.kp g (by omega), h4.kp g (by omega), h5.kp g (by omega)⟩
theorem MO.kp {h h' : bk_H} {a lo hi : Nat} {S : bS} (q : MO h a S) (g : fr h h' lo hi) (hd : a + 11 ≤ lo ∨ hi ≤ a) : MO h' a S := by
  obtain ⟨h0, h1, h2, h3, h4, h5⟩ := q
  exact ⟨(g a (by omega)).trans h0, h1.kp g (by omega), h2.kp g (by omega), h3.kp g (by omega), h4.kp g (by omega), h5.kp g (by omega)⟩
theorem CO.kp {h h' : bk_H} {a l m lo hi : Nat} {bs : bT} (q : CO h a l m bs) (g : fr h h' lo hi) (hd : a + 4 ≤ lo ∨ hi ≤ a) : CO h' a l m bs := by
  obtain ⟨h0, h1, f, h2⟩ := q
  exact ⟨(g a (by omega)).trans h0, h1.kp g (by omega), f, (g (a + 3) (by omega)).trans h2⟩
theorem MO.t0 {h h' : bk_H} {m : Nat} {S : bS} {t : bT} (q : MO h m S) (k : TB h' (m + 1) 3 5 t) (g : fr h h' (m + 1) (m + 1 + 2)) : MO h' m (S.1, uT S.2 0 t) := by
  obtain ⟨h0, h1, h2, h3, h4, h5⟩ := q
  exact ⟨(g m (by omega)).trans h0, k, h2.kp g (by omega), h3.kp g (by omega), h4.kp g (by omega), h5.kp g (by omega)⟩
theorem CX.m0 {h h' : bk_H} {a lo mo : Nat} {P : Nat → bT} {S : bS} {bs t : bT} (q : CX h a lo mo P S bs) (k : TB h' (mo + 1) 3 5 t) (g : fr h h' (mo + 1) (mo + 1 + 2)) : CX h' a lo mo P (S.1, uT S.2 0 t) bs ∧ fx h h' mo a := by
  obtain ⟨h1, h2, h3, h4, h5⟩ := q
  exact ⟨⟨h1.kp g (by omega), h2.t0 k g, h3.kp g (by omega), h4, h5⟩, g.fxm (by omega) (by omega)⟩
theorem MO.t1 {h h' : bk_H} {m : Nat} {S : bS} {t : bT} (q : MO h m S) (k : TB h' (m + 3) 1 6 t) (g : fr h h' (m + 3) (m + 3 + 2)) : MO h' m (S.1, uT S.2 1 t) := by
  obtain ⟨h0, h1, h2, h3, h4, h5⟩ := q
  exact ⟨(g m (by omega)).trans h0, h1.kp g (by omega), k, h3.kp g (by omega), h4.kp g (by omega), h5.kp g (by omega)⟩
theorem CX.m1 {h h' : bk_H} {a lo mo : Nat} {P : Nat → bT} {S : bS} {bs t : bT} (q : CX h a lo mo P S bs) (k : TB h' (mo + 3) 1 6 t) (g : fr h h' (mo + 3) (mo + 3 + 2)) : CX h' a lo mo P (S.1, uT S.2 1 t) bs ∧ fx h h' mo a := by
  obtain ⟨h1, h2, h3, h4, h5⟩ := q
  exact ⟨⟨h1.kp g (by omega), h2.t1 k g, h3.kp g (by omega), h4, h5⟩, g.fxm (by omega) (by omega)⟩
theorem MO.t2 {h h' : bk_H} {m : Nat} {S : bS} {t : bT} (q : MO h m S) (k : TB h' (m + 5) 1 6 t) (g : fr h h' (m + 5) (m + 5 + 2)) : MO h' m (S.1, uT S.2 2 t) := by
  obtain ⟨h0, h1, h2, h3, h4, h5⟩ := q
  exact ⟨(g m (by omega)).trans h0, h1.kp g (by omega), h2.kp g (by omega), k, h4.kp g (by omega), h5.kp g (by omega)⟩
theorem CX.m2 {h h' : bk_H} {a lo mo : Nat} {P : Nat → bT} {S : bS} {bs t : bT} (q : CX h a lo mo P S bs) (k : TB h' (mo + 5) 1 6 t) (g : fr h h' (mo + 5) (mo + 5 + 2)) : CX h' a lo mo P (S.1, uT S.2 2 t) bs ∧ fx h h' mo a := by
  obtain ⟨h1, h2, h3, h4, h5⟩ := q
  exact ⟨⟨h1.kp g (by omega), h2.t2 k g, h3.kp g (by omega), h4, h5⟩, g.fxm (by omega) (by omega)⟩
theorem MO.t3 {h h' : bk_H} {m : Nat} {S : bS} {t : bT} (q : MO h m S) (k : TB h' (m + 7) 4 30 t) (g : fr h h' (m + 7) (m + 7 + 2)) : MO h' m (S.1, uT S.2 3 t) := by
  obtain ⟨h0, h1, h2, h3, h4, h5⟩ := q
  exact ⟨(g m (by omega)).trans h0, h1.kp g (by omega), h2.kp g (by omega), h3.kp g (by omega), k, h5.kp g (by omega)⟩
theorem CX.m3 {h h' : bk_H} {a lo mo : Nat} {P : Nat → bT} {S : bS} {bs t : bT} (q : CX h a lo mo P S bs) (k : TB h' (mo + 7) 4 30 t) (g : fr h h' (mo + 7) (mo + 7 + 2)) : CX h' a lo mo P (S.1, uT S.2 3 t) bs ∧ fx h h' mo a := by
  obtain ⟨h1, h2, h3, h4, h5⟩ := q
  exact ⟨⟨h1.kp g (by omega), h2.t3 k g, h3.kp g (by omega), h4, h5⟩, g.fxm (by omega) (by omega)⟩
theorem MO.t4 {h h' : bk_H} {m : Nat} {S : bS} {t : bT} (q : MO h m S) (k : TB h' (m + 9) 2 30 t) (g : fr h h' (m + 9) (m + 9 + 2)) : MO h' m (S.1, uT S.2 4 t) := by
  obtain ⟨h0, h1, h2, h3, h4, h5⟩ := q
  exact ⟨(g m (by omega)).trans h0, h1.kp g (by omega), h2.kp g (by omega), h3.kp g (by omega), h4.kp g (by omega), k⟩
theorem CX.m4 {h h' : bk_H} {a lo mo : Nat} {P : Nat → bT} {S : bS} {bs t : bT} (q : CX h a lo mo P S bs) (k : TB h' (mo + 9) 2 30 t) (g : fr h h' (mo + 9) (mo + 9 + 2)) : CX h' a lo mo P (S.1, uT S.2 4 t) bs ∧ fx h h' mo a := by
  obtain ⟨h1, h2, h3, h4, h5⟩ := q
  exact ⟨⟨h1.kp g (by omega), h2.t4 k g, h3.kp g (by omega), h4, h5⟩, g.fxm (by omega) (by omega)⟩
theorem MO.i0 {h h' : bk_H} {m : Nat} {S : bS} {x : Int32} (q : MO h m S) (k : h' m = some (.inr (4, [.ref (m + 1), .ref (m + 3), .ref (m + 5), .ref (m + 7), .ref (m + 9), .int x, .int (S.1 1), .int (S.1 2), .int (S.1 3), .int (S.1 4), .int (S.1 5), .int (S.1 6), .int (S.1 7)]))) (g : ∀ q, q ≠ m → h' q = h q) : MO h' m (upd S.1 0 x, S.2) := by
  obtain ⟨h0, h1, h2, h3, h4, h5⟩ := q
  exact ⟨k, h1.kp (fr.one g) (by omega), h2.kp (fr.one g) (by omega), h3.kp (fr.one g) (by omega), h4.kp (fr.one g) (by omega), h5.kp (fr.one g) (by omega)⟩
theorem CX.i0 {h h' : bk_H} {a lo mo : Nat} {P : Nat → bT} {S : bS} {bs : bT} {x : Int32} (q : CX h a lo mo P S bs) (k : h' mo = some (.inr (4, [.ref (mo + 1), .ref (mo + 3), .ref (mo + 5), .ref (mo + 7), .ref (mo + 9), .int x, .int (S.1 1), .int (S.1 2), .int (S.1 3), .int (S.1 4), .int (S.1 5), .int (S.1 6), .int (S.1 7)]))) (g : ∀ q, q ≠ mo → h' q = h q) : CX h' a lo mo P (upd S.1 0 x, S.2) bs ∧ fx h h' mo a := by
  obtain ⟨h1, h2, h3, h4, h5⟩ := q
  exact ⟨⟨h1.kp (fr.one g) (by omega), h2.i0 k g, h3.kp (fr.one g) (by omega), h4, h5⟩, (fr.one g).fxm (by omega) (by omega)⟩
theorem MO.i1 {h h' : bk_H} {m : Nat} {S : bS} {x : Int32} (q : MO h m S) (k : h' m = some (.inr (4, [.ref (m + 1), .ref (m + 3), .ref (m + 5), .ref (m + 7), .ref (m + 9), .int (S.1 0), .int x, .int (S.1 2), .int (S.1 3), .int (S.1 4), .int (S.1 5), .int (S.1 6), .int (S.1 7)]))) (g : ∀ q, q ≠ m → h' q = h q) : MO h' m (upd S.1 1 x, S.2) := by
  obtain ⟨h0, h1, h2, h3, h4, h5⟩ := q
  exact ⟨k, h1.kp (fr.one g) (by omega), h2.kp (fr.one g) (by omega), h3.kp (fr.one g) (by omega), h4.kp (fr.one g) (by omega), h5.kp (fr.one g) (by omega)⟩
theorem CX.i1 {h h' : bk_H} {a lo mo : Nat} {P : Nat → bT} {S : bS} {bs : bT} {x : Int32} (q : CX h a lo mo P S bs) (k : h' mo = some (.inr (4, [.ref (mo + 1), .ref (mo + 3), .ref (mo + 5), .ref (mo + 7), .ref (mo + 9), .int (S.1 0), .int x, .int (S.1 2), .int (S.1 3), .int (S.1 4), .int (S.1 5), .int (S.1 6), .int (S.1 7)]))) (g : ∀ q, q ≠ mo → h' q = h q) : CX h' a lo mo P (upd S.1 1 x, S.2) bs ∧ fx h h' mo a := by
  obtain ⟨h1, h2, h3, h4, h5⟩ := q
  exact ⟨⟨h1.kp (fr.one g) (by omega), h2.i1 k g, h3.kp (fr.one g) (by omega), h4, h5⟩, (fr.one g).fxm (by omega) (by omega)⟩
theorem MO.i2 {h h' : bk_H} {m : Nat} {S : bS} {x : Int32} (q : MO h m S) (k : h' m = some (.inr (4, [.ref (m + 1), .ref (m + 3), .ref (m + 5), .ref (m + 7), .ref (m + 9), .int (S.1 0), .int (S.1 1), .int x, .int (S.1 3), .int (S.1 4), .int (S.1 5), .int (S.1 6), .int (S.1 7)]))) (g : ∀ q, q ≠ m → h' q = h q) : MO h' m (upd S.1 2 x, S.2) := by
  obtain ⟨h0, h1, h2, h3, h4, h5⟩ := q
  exact ⟨k, h1.kp (fr.one g) (by omega), h2.kp (fr.one g) (by omega), h3.kp (fr.one g) (by omega), h4.kp (fr.one g) (by omega), h5.kp (fr.one g) (by omega)⟩
theorem CX.i2 {h h' : bk_H} {a lo mo : Nat} {P : Nat → bT} {S : bS} {bs : bT} {x : Int32} (q : CX h a lo mo P S bs) (k : h' mo = some (.inr (4, [.ref (mo + 1), .ref (mo + 3), .ref (mo + 5), .ref (mo + 7), .ref (mo + 9), .int (S.1 0), .int (S.1 1), .int x, .int (S.1 3), .int (S.1 4), .int (S.1 5), .int (S.1 6), .int (S.1 7)]))) (g : ∀ q, q ≠ mo → h' q = h q) : CX h' a lo mo P (upd S.1 2 x, S.2) bs ∧ fx h h' mo a := by
  obtain ⟨h1, h2, h3, h4, h5⟩ := q
  exact ⟨⟨h1.kp (fr.one g) (by omega), h2.i2 k g, h3.kp (fr.one g) (by omega), h4, h5⟩, (fr.one g).fxm (by omega) (by omega)⟩
theorem MO.i3 {h h' : bk_H} {m : Nat} {S : bS} {x : Int32} (q : MO h m S) (k : h' m = some (.inr (4, [.ref (m + 1), .ref (m + 3), .ref (m + 5), .ref (m + 7), .ref (m + 9), .int (S.1 0), .int (S.1 1), .int (S.1 2), .int x, .int (S.1 4), .int (S.1 5), .int (S.1 6), .int (S.1 7)]))) (g : ∀ q, q ≠ m → h' q = h q) : MO h' m (upd S.1 3 x, S.2) := by
  obtain ⟨h0, h1, h2, h3, h4, h5⟩ := q
  exact ⟨k, h1.kp (fr.one g) (by omega), h2.kp (fr.one g) (by omega), h3.kp (fr.one g) (by omega), h4.kp (fr.one g) (by omega), h5.kp (fr.one g) (by omega)⟩
theorem CX.i3 {h h' : bk_H} {a lo mo : Nat} {P : Nat → bT} {S : bS} {bs : bT} {x : Int32} (q : CX h a lo mo P S bs) (k : h' mo = some (.inr (4, [.ref (mo + 1), .ref (mo + 3), .ref (mo + 5), .ref (mo + 7), .ref (mo + 9), .int (S.1 0), .int (S.1 1), .int (S.1 2), .int x, .int (S.1 4), .int (S.1 5), .int (S.1 6), .int (S.1 7)]))) (g : ∀ q, q ≠ mo → h' q = h q) : CX h' a lo mo P (upd S.1 3 x, S.2) bs ∧ fx h h' mo a := by
  obtain ⟨h1, h2, h3, h4, h5⟩ := q
  exact ⟨⟨h1.kp (fr.one g) (by omega), h2.i3 k g, h3.kp (fr.one g) (by omega), h4, h5⟩, (fr.one g).fxm (by omega) (by omega)⟩
theorem MO.i4 {h h' : bk_H} {m : Nat} {S : bS} {x : Int32} (q : MO h m S) (k : h' m = some (.inr (4, [.ref (m + 1), .ref (m + 3), .ref (m + 5), .ref (m + 7), .ref (m + 9), .int (S.1 0), .int (S.1 1), .int (S.1 2), .int (S.1 3), .int x, .int (S.1 5), .int (S.1 6), .int (S.1 7)]))) (g : ∀ q, q ≠ m → h' q = h q) : MO h' m (upd S.1 4 x, S.2) := by
  obtain ⟨h0, h1, h2, h3, h4, h5⟩ := q
  exact ⟨k, h1.kp (fr.one g) (by omega), h2.kp (fr.one g) (by omega), h3.kp (fr.one g) (by omega), h4.kp (fr.one g) (by omega), h5.kp (fr.one g) (by omega)⟩
theorem CX.i4 {h h' : bk_H} {a lo mo : Nat} {P : Nat → bT} {S : bS} {bs : bT} {x : Int32} (q : CX h a lo mo P S bs) (k : h' mo = some (.inr (4, [.ref (mo + 1), .ref (mo + 3), .ref (mo + 5), .ref (mo + 7), .ref (mo + 9), .int (S.1 0), .int (S.1 1), .int (S.1 2), .int (S.1 3), .int x, .int (S.1 5), .int (S.1 6), .int (S.1 7)]))) (g : ∀ q, q ≠ mo → h' q = h q) : CX h' a lo mo P (upd S.1 4 x, S.2) bs ∧ fx h h' mo a := by
  obtain ⟨h1, h2, h3, h4, h5⟩ := q
  exact ⟨⟨h1.kp (fr.one g) (by omega), h2.i4 k g, h3.kp (fr.one g) (by omega), h4, h5⟩, (fr.one g).fxm (by omega) (by omega)⟩
theorem MO.i5 {h h' : bk_H} {m : Nat} {S : bS} {x : Int32} (q : MO h m S) (k : h' m = some (.inr (4, [.ref (m + 1), .ref (m + 3), .ref (m + 5), .ref (m + 7), .ref (m + 9), .int (S.1 0), .int (S.1 1), .int (S.1 2), .int (S.1 3), .int (S.1 4), .int x, .int (S.1 6), .int (S.1 7)]))) (g : ∀ q, q ≠ m → h' q = h q) : MO h' m (upd S.1 5 x, S.2) := by
  obtain ⟨h0, h1, h2, h3, h4, h5⟩ := q
  exact ⟨k, h1.kp (fr.one g) (by omega), h2.kp (fr.one g) (by omega), h3.kp (fr.one g) (by omega), h4.kp (fr.one g) (by omega), h5.kp (fr.one g) (by omega)⟩
theorem CX.i5 {h h' : bk_H} {a lo mo : Nat} {P : Nat → bT} {S : bS} {bs : bT} {x : Int32} (q : CX h a lo mo P S bs) (k : h' mo = some (.inr (4, [.ref (mo + 1), .ref (mo + 3), .ref (mo + 5), .ref (mo + 7), .ref (mo + 9), .int (S.1 0), .int (S.1 1), .int (S.1 2), .int (S.1 3), .int (S.1 4), .int x, .int (S.1 6), .int (S.1 7)]))) (g : ∀ q, q ≠ mo → h' q = h q) : CX h' a lo mo P (upd S.1 5 x, S.2) bs ∧ fx h h' mo a := by
  obtain ⟨h1, h2, h3, h4, h5⟩ := q
  exact ⟨⟨h1.kp (fr.one g) (by omega), h2.i5 k g, h3.kp (fr.one g) (by omega), h4, h5⟩, (fr.one g).fxm (by omega) (by omega)⟩
theorem MO.i6 {h h' : bk_H} {m : Nat} {S : bS} {x : Int32} (q : MO h m S) (k : h' m = some (.inr (4, [.ref (m + 1), .ref (m + 3), .ref (m + 5), .ref (m + 7), .ref (m + 9), .int (S.1 0), .int (S.1 1), .int (S.1 2), .int (S.1 3), .int (S.1 4), .int (S.1 5), .int x, .int (S.1 7)]))) (g : ∀ q, q ≠ m → h' q = h q) : MO h' m (upd S.1 6 x, S.2) := by
  obtain ⟨h0, h1, h2, h3, h4, h5⟩ := q
  exact ⟨k, h1.kp (fr.one g) (by omega), h2.kp (fr.one g) (by omega), h3.kp (fr.one g) (by omega), h4.kp (fr.one g) (by omega), h5.kp (fr.one g) (by omega)⟩
theorem CX.i6 {h h' : bk_H} {a lo mo : Nat} {P : Nat → bT} {S : bS} {bs : bT} {x : Int32} (q : CX h a lo mo P S bs) (k : h' mo = some (.inr (4, [.ref (mo + 1), .ref (mo + 3), .ref (mo + 5), .ref (mo + 7), .ref (mo + 9), .int (S.1 0), .int (S.1 1), .int (S.1 2), .int (S.1 3), .int (S.1 4), .int (S.1 5), .int x, .int (S.1 7)]))) (g : ∀ q, q ≠ mo → h' q = h q) : CX h' a lo mo P (upd S.1 6 x, S.2) bs ∧ fx h h' mo a := by
  obtain ⟨h1, h2, h3, h4, h5⟩ := q
  exact ⟨⟨h1.kp (fr.one g) (by omega), h2.i6 k g, h3.kp (fr.one g) (by omega), h4, h5⟩, (fr.one g).fxm (by omega) (by omega)⟩
theorem MO.i7 {h h' : bk_H} {m : Nat} {S : bS} {x : Int32} (q : MO h m S) (k : h' m = some (.inr (4, [.ref (m + 1), .ref (m + 3), .ref (m + 5), .ref (m + 7), .ref (m + 9), .int (S.1 0), .int (S.1 1), .int (S.1 2), .int (S.1 3), .int (S.1 4), .int (S.1 5), .int (S.1 6), .int x]))) (g : ∀ q, q ≠ m → h' q = h q) : MO h' m (upd S.1 7 x, S.2) := by
  obtain ⟨h0, h1, h2, h3, h4, h5⟩ := q
  exact ⟨k, h1.kp (fr.one g) (by omega), h2.kp (fr.one g) (by omega), h3.kp (fr.one g) (by omega), h4.kp (fr.one g) (by omega), h5.kp (fr.one g) (by omega)⟩
theorem CX.i7 {h h' : bk_H} {a lo mo : Nat} {P : Nat → bT} {S : bS} {bs : bT} {x : Int32} (q : CX h a lo mo P S bs) (k : h' mo = some (.inr (4, [.ref (mo + 1), .ref (mo + 3), .ref (mo + 5), .ref (mo + 7), .ref (mo + 9), .int (S.1 0), .int (S.1 1), .int (S.1 2), .int (S.1 3), .int (S.1 4), .int (S.1 5), .int (S.1 6), .int x]))) (g : ∀ q, q ≠ mo → h' q = h q) : CX h' a lo mo P (upd S.1 7 x, S.2) bs ∧ fx h h' mo a := by
  obtain ⟨h1, h2, h3, h4, h5⟩ := q
  exact ⟨⟨h1.kp (fr.one g) (by omega), h2.i7 k g, h3.kp (fr.one g) (by omega), h4, h5⟩, (fr.one g).fxm (by omega) (by omega)⟩
theorem CX.b {h h' : bk_H} {a lo mo : Nat} {P : Nat → bT} {S : bS} {bs t : bT} (q : CX h a lo mo P S bs) (k : TB h' (a + 1) 1 6 t) (g : fr h h' (a + 1) (a + 1 + 2)) : CX h' a lo mo P S t ∧ fx h h' mo a := by
  obtain ⟨h1, h2, ⟨h3, h6, f, h7⟩, h4, h5⟩ := q
  exact ⟨⟨h1.kp g (by omega), h2.kp g (by omega), ⟨(g a (by omega)).trans h3, k, f, (g (a + 3) (by omega)).trans h7⟩, h4, h5⟩, g.fxa (by omega) (by omega)⟩
theorem CX.s {h h' : bk_H} {a lo mo : Nat} {P : Nat → bT} {S : bS} {bs : bT} {f : Nat → Int32} (q : CX h a lo mo P S bs) (k : h' (a + 3) = some (.inl (0, 64, .inl f))) (g : ∀ q, q ≠ a + 3 → h' q = h q) : CX h' a lo mo P S bs ∧ fx h h' mo a := by
  obtain ⟨h1, h2, ⟨h3, h6, f, h7⟩, h4, h5⟩ := q
  have g1 : fr h h' (a + 3) (a + 4) := fun x hx => g x (by omega)
  exact ⟨⟨h1.kp g1 (by omega), h2.kp g1 (by omega), ⟨(g1 a (by omega)).trans h3, h6.kp g1 (by omega), _, k⟩, h4, h5⟩, g1.fxa (by omega) (by omega)⟩
theorem bQ {Q : bk_R → bk_H → Nat → Prop} {x y : Int32} {h : bk_H} {n : Nat} (q : Q (.inl (some (.int x))) h n) (e : x = y) : Q (.inl (some (.int y))) h n := e ▸ q
