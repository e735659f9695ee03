/-! Tokens: the tape as a row of tokens. Printed by wip/whole/mk29.py. -/
abbrev isD (x : Int32) : Prop := ¬ x < 48 ∧ ¬ 57 < x
abbrev isL (x : Int32) : Prop := ¬ x < 97 ∧ ¬ 122 < x
def xtF (c : Int64) (b : Int32) : Int64 := c * 37 + (if isD b then b - 48 + 27 else b - 97 + 1).toInt64
def skL (T : List Int32) : Nat → Nat → Nat
  | 0, p => p
  | k + 1, p => if bA T p = 32 ∨ bA T p = 10 then skL T k (p + 1) else p
def wL (T : List Int32) : Nat → Nat → Nat
  | 0, p => p
  | k + 1, p => if isL (bA T p) ∨ isD (bA T p) then wL T k (p + 1) else p
def dL (T : List Int32) : Nat → Nat → Nat
  | 0, p => p
  | k + 1, p => if isD (bA T p) then dL T k (p + 1) else p
def cdL (T : List Int32) : Nat → Nat → Int64 → Int64
  | 0, _, c => c
  | k + 1, p, c => cdL T k (p + 1) (xtF c (bA T p))
def nmL (T : List Int32) : Nat → Nat → Int32 → Int32
  | 0, _, c => c
  | k + 1, p, c => nmL T k (p + 1) (c * 10 + bA T p - 48)
def kwS : List Int32 → Int64 → List Int64
  | [], _ => []
  | b :: r, c => if b = 32 then c :: kwS r 0 else kwS r (xtF c b)
def kwL : List Int64 := kwS (bk_sB 0) 0
def skP (T : List Int32) (p : Nat) : Nat := skL T (T.length - p) p
def wE (T : List Int32) (p : Nat) : Nat := wL T (T.length - p) p
def dE (T : List Int32) (p : Nat) : Nat := dL T (T.length - p) p
def wC (T : List Int32) (p : Nat) : Int64 := cdL T (wE T p - p) p 0
def nV (T : List Int32) (p : Nat) : Int32 := nmL T (dE T p - p) p 0
def kwF (c : Int64) : Int32 := if ixL kwL c 0 < 0 then 30 else 1 + ixL kwL c 0
def sgF (b : Int32) : Int32 := bk_ix (bk_sB 1) b 0
abbrev sg2 (T : List Int32) (p : Nat) : Prop := bA T (p + 1) = 61 ∧ (32 + sgF (bA T p) = 42 ∨ 32 + sgF (bA T p) = 43)
def tkK (T : List Int32) (i p : Nat) : Int32 :=
  if bA T p < 0 then 47 else if 400 ≤ i then 0
  else if isL (bA T p) then (if 10 < wE T p - p then 0 else kwF (wC T p))
  else if isD (bA T p) then (if 6 < dE T p - p then 0 else 31)
  else if sgF (bA T p) < 0 then 0 else if sg2 T p then (if 32 + sgF (bA T p) = 42 then 45 else 46) else 32 + sgF (bA T p)
def tkE (T : List Int32) (i p : Nat) : Nat :=
  if bA T p < 0 then p else if 400 ≤ i then p else if isL (bA T p) then wE T p else if isD (bA T p) then dE T p else if sgF (bA T p) < 0 then p else if sg2 T p then p + 2 else p + 1
def tkR (T : List Int32) (i p : Nat) (rows : bT) : bT :=
  if bA T p < 0 then rows else if 400 ≤ i then rows else if isL (bA T p) then rows else if isD (bA T p) then rS rows (nI i) 1 (nV T p) else rows
def tkG (T : List Int32) (i p : Nat) (g : Nat → Int64) : Nat → Int64 :=
  if bA T p < 0 then g else if 400 ≤ i then g else if isL (bA T p) then (if 10 < wE T p - p then g else vp_updL g i (wC T p)) else g
def KO (h : bk_H) (a tp : Nat) (T : List Int32) (p : Nat) (rows : bT) (f : Nat → Int32) (g : Nat → Int64) : Prop :=
  TA h tp T ∧ h a = some (.inr (9, [.ref tp, .ref (a + 5), .ref (a + 1), .ref (a + 3), .ref (a + 4), .int (nI p)])) ∧ TB h (a + 1) 2 401 rows ∧ h (a + 3) = some (.inl (0, 401, .inl f)) ∧ h (a + 4) = some (.inl (1, 401, .inr (.inl g))) ∧ NM h (a + 5) 29 kwL ∧ tp + 2 ≤ a
theorem KO.kp {h h' : bk_H} {a tp p lo hi : Nat} {T : List Int32} {rows : bT} {f : Nat → Int32} {g : Nat → Int64} (q : KO h a tp T p rows f g) (w : fr h h' lo hi) (hd : (tp + 2 ≤ lo ∨ hi ≤ tp) ∧ (a + 7 ≤ lo ∨ hi ≤ a)) : KO h' a tp T p rows f g := by
  obtain ⟨h1, h2, h3, h4, h5, h6, h7⟩ := q
  exact ⟨h1.kp w (by omega), (w a (by omega)).trans h2, h3.kp w (by omega), (w _ (by omega)).trans h4, (w _ (by omega)).trans h5, h6.kp w (by omega), h7⟩
theorem KO.p {h h' : bk_H} {a tp p p' : Nat} {T : List Int32} {rows : bT} {f : Nat → Int32} {g : Nat → Int64} (q : KO h a tp T p rows f g) (k : h' a = some (.inr (9, [.ref tp, .ref (a + 5), .ref (a + 1), .ref (a + 3), .ref (a + 4), .int (nI p')]))) (w : ∀ q, q ≠ a → h' q = h q) : KO h' a tp T p' rows f g := by
  obtain ⟨h1, h2, h3, h4, h5, h6, h7⟩ := q
  exact ⟨h1.kp (fr.one w) (by omega), k, h3.kp (fr.one w) (by omega), (w _ (by omega)).trans h4, (w _ (by omega)).trans h5, h6.kp (fr.one w) (by omega), h7⟩
theorem KO.r {h h' : bk_H} {a tp p : Nat} {T : List Int32} {rows rows' : bT} {f : Nat → Int32} {g : Nat → Int64} (q : KO h a tp T p rows f g) (k : TB h' (a + 1) 2 401 rows') (w : fr h h' (a + 1) (a + 1 + 2)) : KO h' a tp T p rows' f g := by
  obtain ⟨h1, h2, h3, h4, h5, h6, h7⟩ := q
  exact ⟨h1.kp w (by omega), (w a (by omega)).trans h2, k, (w _ (by omega)).trans h4, (w _ (by omega)).trans h5, h6.kp w (by omega), h7⟩
theorem KO.k {h h' : bk_H} {a tp p : Nat} {T : List Int32} {rows : bT} {f f' : Nat → Int32} {g : Nat → Int64} (q : KO h a tp T p rows f g) (k : h' (a + 3) = some (.inl (0, 401, .inl f'))) (w : ∀ q, q ≠ a + 3 → h' q = h q) : KO h' a tp T p rows f' g := by
  obtain ⟨h1, h2, h3, h4, h5, h6, h7⟩ := q
  exact ⟨h1.kp (fr.one w) (by omega), (w a (by omega)).trans h2, h3.kp (fr.one w) (by omega), k, (w _ (by omega)).trans h5, h6.kp (fr.one w) (by omega), h7⟩
theorem KO.c {h h' : bk_H} {a tp p : Nat} {T : List Int32} {rows : bT} {f : Nat → Int32} {g g' : Nat → Int64} (q : KO h a tp T p rows f g) (k : h' (a + 4) = some (.inl (1, 401, .inr (.inl g')))) (w : ∀ q, q ≠ a + 4 → h' q = h q) : KO h' a tp T p rows f g' := by
  obtain ⟨h1, h2, h3, h4, h5, h6, h7⟩ := q
  exact ⟨h1.kp (fr.one w) (by omega), (w a (by omega)).trans h2, h3.kp (fr.one w) (by omega), (w _ (by omega)).trans h4, k, h6.kp (fr.one w) (by omega), h7⟩
theorem skL_ge {T : List Int32} : ∀ (k p : Nat), p ≤ skL T k p ∧ skL T k p ≤ p + k
  | 0, p => ⟨Nat.le_refl p, Nat.le_refl p⟩
  | k + 1, p => by
    show p ≤ (if _ then _ else _) ∧ (if _ then _ else _) ≤ p + (k + 1)
    have := skL_ge (T := T) k (p + 1)
    split <;> omega
theorem wL_ge {T : List Int32} : ∀ (k p : Nat), p ≤ wL T k p ∧ wL T k p ≤ p + k
  | 0, p => ⟨Nat.le_refl p, Nat.le_refl p⟩
  | k + 1, p => by
    show p ≤ (if _ then _ else _) ∧ (if _ then _ else _) ≤ p + (k + 1)
    have := wL_ge (T := T) k (p + 1)
    split <;> omega
theorem dL_ge {T : List Int32} : ∀ (k p : Nat), p ≤ dL T k p ∧ dL T k p ≤ p + k
  | 0, p => ⟨Nat.le_refl p, Nat.le_refl p⟩
  | k + 1, p => by
    show p ≤ (if _ then _ else _) ∧ (if _ then _ else _) ≤ p + (k + 1)
    have := dL_ge (T := T) k (p + 1)
    split <;> omega
theorem cdL_s {T : List Int32} : ∀ (k p : Nat) (c : Int64), cdL T (k + 1) p c = xtF (cdL T k p c) (bA T (p + k))
  | 0, p, c => rfl
  | k + 1, p, c => by
    have := cdL_s (T := T) k (p + 1) (xtF c (bA T p))
    rw [show p + 1 + k = p + (k + 1) by omega] at this
    exact this
theorem nmL_s {T : List Int32} : ∀ (k p : Nat) (c : Int32), nmL T (k + 1) p c = nmL T k p c * 10 + bA T (p + k) - 48
  | 0, p, c => rfl
  | k + 1, p, c => by
    have := nmL_s (T := T) k (p + 1) (c * 10 + bA T p - 48)
    rw [show p + 1 + k = p + (k + 1) by omega] at this
    exact this
section BK
variable {V : bk_V} {d n : Nat} {B : Nat × Nat} {Q : bk_R → bk_H → Nat → Prop} {h : bk_H} {a tp p : Nat} {T : List Int32} {rows : bT} {f : Nat → Int32} {g : Nat → Int64} {cs : Nat × Nat}
theorem bk_isD {x : Int32} (hQ : Q (.inl (some (.int (if isD x then 1 else 0)))) h n) : bk_wp V (d + 1) 80 [.int x] h n B Q := by
  refine bg_in rfl rfl ?_
  refine bg_iload0 rfl ?_
  refine bg_bipush rfl ?_
  refine bg_icmp_lt rfl (fun e3 => ?_) (fun e3 => ?_)
  · rw [if_neg (fun q => q.1 e3)] at hQ
    refine bg_iconst rfl ?_
    refine bg_iret rfl rfl (by rfl) ?_
    exact hQ
  · refine bg_iload0 rfl ?_
    refine bg_bipush rfl ?_
    refine bg_icmp_gt rfl (fun e9 => ?_) (fun e9 => ?_)
    · rw [if_neg (fun q => q.2 e9)] at hQ
      refine bg_iconst rfl ?_
      refine bg_iret rfl rfl (by rfl) ?_
      exact hQ
    · rw [if_pos ⟨e3, e9⟩] at hQ
      refine bg_iconst rfl ?_
      refine bg_goto rfl ?_
      refine bg_iret rfl rfl (by rfl) ?_
      exact hQ
theorem bk_isL {x : Int32} (hQ : Q (.inl (some (.int (if isL x then 1 else 0)))) h n) : bk_wp V (d + 1) 81 [.int x] h n B Q := by
  refine bg_in rfl rfl ?_
  refine bg_iload0 rfl ?_
  refine bg_bipush rfl ?_
  refine bg_icmp_lt rfl (fun e3 => ?_) (fun e3 => ?_)
  · rw [if_neg (fun q => q.1 e3)] at hQ
    refine bg_iconst rfl ?_
    refine bg_iret rfl rfl (by rfl) ?_
    exact hQ
  · refine bg_iload0 rfl ?_
    refine bg_bipush rfl ?_
    refine bg_icmp_gt rfl (fun e9 => ?_) (fun e9 => ?_)
    · rw [if_neg (fun q => q.2 e9)] at hQ
      refine bg_iconst rfl ?_
      refine bg_iret rfl rfl (by rfl) ?_
      exact hQ
    · rw [if_pos ⟨e3, e9⟩] at hQ
      refine bg_iconst rfl ?_
      refine bg_goto rfl ?_
      refine bg_iret rfl rfl (by rfl) ?_
      exact hQ
theorem bk_ext {c : Int64} {x : Int32} (hQ : Q (.inl (some (.long (xtF c x)))) h n) : bk_wp V (d + 2) 79 [.long c, .int x] h n B Q := by
  unfold xtF at hQ
  refine bg_in rfl rfl ?_
  refine bg_iload2 rfl ?_
  refine bg_stat1 rfl rfl rfl rfl ?_
  refine bk_isD (bk_Ki ?_)
  refine bg_ifeq_b rfl (fun e4 => ?_) (fun e4 => ?_)
  · rw [if_neg e4] at hQ
    refine bg_iload2 rfl ?_
    refine bg_bipush rfl ?_
    refine bg_isub rfl ?_
    refine bg_iconst rfl ?_
    refine bg_iadd rfl ?_
    refine bg_istore3 rfl rfl ?_
    refine bg_lload0 rfl ?_
    refine bg_ldc2 rfl rfl ?_
    refine bg_lmul rfl ?_
    refine bg_iload3 rfl ?_
    refine bg_i2l rfl ?_
    refine bg_ladd rfl ?_
    refine bg_lret rfl rfl ?_
    exact hQ
  · rw [if_pos e4] at hQ
    refine bg_iload2 rfl ?_
    refine bg_bipush rfl ?_
    refine bg_isub rfl ?_
    refine bg_bipush rfl ?_
    refine bg_iadd rfl ?_
    refine bg_goto rfl ?_
    refine bg_istore3 rfl rfl ?_
    refine bg_lload0 rfl ?_
    refine bg_ldc2 rfl rfl ?_
    refine bg_lmul rfl ?_
    refine bg_iload3 rfl ?_
    refine bg_i2l rfl ?_
    refine bg_ladd rfl ?_
    refine bg_lret rfl rfl ?_
    exact hQ
theorem bk_skL : ∀ (c p : Nat) (h : bk_H), KO h a tp T p rows f g → c = T.length - p → p < 2 ^ 30 → (∀ h', KO h' a tp T (skL T c p) rows f g → fr h h' a (a + 7) → Q (.inl none) h' n) → bk_g V (d + 1) 89 B Q 0 [some (.ref a)] [] h n cs := by
  intro c
  induction c with
  | zero =>
    intro p h hK hc hp hQ
    obtain ⟨tA, k0, k1, k2, k3, k4, ktp⟩ := id hK
    have t3 := tA.2.2.1
    refine bg_aload0 rfl ?_
    refine bg_getfield rfl rfl k0 (by rfl) ?_
    refine bg_aload0 rfl ?_
    refine bg_getfield rfl rfl k0 (by rfl) ?_
    refine bg_virt0 rfl rfl rfl rfl ⟨_, tA.1⟩ ?_
    refine ba_length tA (bk_Ki ?_)
    refine bg_icmp_ge rfl (fun e11 => ?_) (fun e11 => absurd e11 (nI_nlt (by omega) (by omega)))
    refine bg_ret rfl rfl ?_
    exact hQ h hK fr.refl
  | succ c ih =>
    intro p h hK hc hp hQ
    obtain ⟨tA, k0, k1, k2, k3, k4, ktp⟩ := id hK
    have t3 := tA.2.2.1
    refine bg_aload0 rfl ?_
    refine bg_getfield rfl rfl k0 (by rfl) ?_
    refine bg_aload0 rfl ?_
    refine bg_getfield rfl rfl k0 (by rfl) ?_
    refine bg_virt0 rfl rfl rfl rfl ⟨_, tA.1⟩ ?_
    refine ba_length tA (bk_Ki ?_)
    refine bg_icmp_ge rfl (fun e11 => absurd (nI_lt (by omega) (by omega)) e11) (fun e11 => ?_)
    refine bg_aload0 rfl ?_
    refine bg_getfield rfl rfl k0 (by rfl) ?_
    refine bg_aload0 rfl ?_
    refine bg_getfield rfl rfl k0 (by rfl) ?_
    refine bg_virt1 rfl rfl rfl rfl ⟨_, tA.1⟩ ?_
    refine ba_at (by omega) tA (bk_Ki ?_)
    refine bg_bipush rfl ?_
    refine bg_icmp_eq rfl (fun e27 => ?_) (fun e27 => ?_)
    · have he : skL T (c + 1) p = skL T c (p + 1) := if_pos (Or.inl e27)
      refine bg_aload0 rfl ?_
      refine bg_dup rfl rfl ?_
      refine bg_getfield rfl rfl k0 (by rfl) ?_
      refine bg_iconst rfl ?_
      refine bg_iadd rfl ?_
      refine bg_putfield rfl rfl k0 (by rfl) ⟨rfl, rfl⟩ (by rfl) (fun h53 f53 g53 => ?_)
      rw [nI_1] at f53
      have hK1 := hK.p f53 g53
      rw [he] at hQ
      refine bg_goto rfl ?_
      exact ih (p + 1) h53 hK1 (by omega) (by omega) (fun h' q1 q2 => hQ h' q1 (((fr.one g53).wide (by omega) (by omega)).trans q2))
    · refine bg_aload0 rfl ?_
      refine bg_getfield rfl rfl k0 (by rfl) ?_
      refine bg_aload0 rfl ?_
      refine bg_getfield rfl rfl k0 (by rfl) ?_
      refine bg_virt1 rfl rfl rfl rfl ⟨_, tA.1⟩ ?_
      refine ba_at (by omega) tA (bk_Ki ?_)
      refine bg_bipush rfl ?_
      refine bg_icmp_ne rfl (fun e43 => ?_) (fun e43 => ?_)
      · have he : skL T (c + 1) p = p := if_neg (fun q => q.elim e27 e43)
        rw [he] at hQ
        refine bg_ret rfl rfl ?_
        exact hQ h hK fr.refl
      · have he : skL T (c + 1) p = skL T c (p + 1) := if_pos (Or.inr e43)
        refine bg_aload0 rfl ?_
        refine bg_dup rfl rfl ?_
        refine bg_getfield rfl rfl k0 (by rfl) ?_
        refine bg_iconst rfl ?_
        refine bg_iadd rfl ?_
        refine bg_putfield rfl rfl k0 (by rfl) ⟨rfl, rfl⟩ (by rfl) (fun h53 f53 g53 => ?_)
        rw [nI_1] at f53
        have hK1 := hK.p f53 g53
        rw [he] at hQ
        refine bg_goto rfl ?_
        exact ih (p + 1) h53 hK1 (by omega) (by omega) (fun h' q1 q2 => hQ h' q1 (((fr.one g53).wide (by omega) (by omega)).trans q2))

theorem bk_skip (hp : p < 2 ^ 30) (hK : KO h a tp T p rows f g) (hQ : ∀ h', KO h' a tp T (skP T p) rows f g → fr h h' a (a + 7) → Q (.inl none) h' n) : bk_wp V (d + 2) 89 [.ref a] h n B Q := by
  refine bg_in rfl rfl ?_
  exact bk_skL (T.length - p) p h hK rfl hp hQ
theorem bk_wdL {s i : Nat} : ∀ (c p : Nat) (h : bk_H), KO h a tp T p rows f g → s ≤ p → c = T.length - p → p < 2 ^ 30 → (∀ h' x5, KO h' a tp T (wL T c p) rows f g → fr h h' a (a + 7) → bk_g V (d + 2) 91 B Q 85 [some (.ref a), some (.int (nI i)), some (.long (cdL T (wL T c p - s) s 0)), none, some (.int (nI s)), x5] [] h' n cs) → ∀ x5, bk_g V (d + 2) 91 B Q 8 [some (.ref a), some (.int (nI i)), some (.long (cdL T (p - s) s 0)), none, some (.int (nI s)), x5] [] h n cs := by
  intro c
  induction c with
  | zero =>
    intro p h hK hs hc hp hQ x5
    obtain ⟨tA, k0, k1, k2, k3, k4, ktp⟩ := id hK
    have t3 := tA.2.2.1
    refine bg_aload0 rfl ?_
    refine bg_getfield rfl rfl k0 (by rfl) ?_
    refine bg_aload0 rfl ?_
    refine bg_getfield rfl rfl k0 (by rfl) ?_
    refine bg_virt0 rfl rfl rfl rfl ⟨_, tA.1⟩ ?_
    refine ba_length tA (bk_Ki ?_)
    refine bg_icmp_ge rfl (fun e19 => ?_) (fun e19 => absurd e19 (nI_nlt (by omega) (by omega)))
    exact hQ h x5 hK fr.refl
  | succ c ih =>
    intro p h hK hs hc hp hQ x5
    obtain ⟨tA, k0, k1, k2, k3, k4, ktp⟩ := id hK
    have t3 := tA.2.2.1
    refine bg_aload0 rfl ?_
    refine bg_getfield rfl rfl k0 (by rfl) ?_
    refine bg_aload0 rfl ?_
    refine bg_getfield rfl rfl k0 (by rfl) ?_
    refine bg_virt0 rfl rfl rfl rfl ⟨_, tA.1⟩ ?_
    refine ba_length tA (bk_Ki ?_)
    refine bg_icmp_ge rfl (fun e19 => absurd (nI_lt (by omega) (by omega)) e19) (fun e19 => ?_)
    refine bg_aload0 rfl ?_
    refine bg_getfield rfl rfl k0 (by rfl) ?_
    refine bg_aload0 rfl ?_
    refine bg_getfield rfl rfl k0 (by rfl) ?_
    refine bg_virt1 rfl rfl rfl rfl ⟨_, tA.1⟩ ?_
    refine ba_at (by omega) tA (bk_Ki ?_)
    refine bg_stat1 rfl rfl rfl rfl ?_
    refine bk_isL (bk_Ki ?_)
    refine bg_ifne_b rfl (fun e36 => ?_) (fun e36 => ?_)
    · have he : wL T (c + 1) p = wL T c (p + 1) := if_pos (Or.inl e36)
      refine bg_lload2 rfl ?_
      refine bg_aload0 rfl ?_
      refine bg_getfield rfl rfl k0 (by rfl) ?_
      refine bg_aload0 rfl ?_
      refine bg_getfield rfl rfl k0 (by rfl) ?_
      refine bg_virt1 rfl rfl rfl rfl ⟨_, tA.1⟩ ?_
      refine ba_at (by omega) tA (bk_Ki ?_)
      refine bg_stat2 rfl rfl rfl rfl ?_
      refine bk_ext (bk_Ki ?_)
      rw [show xtF (cdL T (p - s) s 0) (bA T p) = cdL T (p + 1 - s) s 0 by rw [show p + 1 - s = p - s + 1 by omega, cdL_s, show s + (p - s) = p by omega]]
      refine bg_lstore2 rfl rfl ?_
      refine bg_aload0 rfl ?_
      refine bg_dup rfl rfl ?_
      refine bg_getfield rfl rfl k0 (by rfl) ?_
      refine bg_iconst rfl ?_
      refine bg_iadd rfl ?_
      refine bg_putfield rfl rfl k0 (by rfl) ⟨rfl, rfl⟩ (by rfl) (fun h79 f79 g79 => ?_)
      rw [nI_1] at f79
      have hK1 := hK.p f79 g79
      rw [he] at hQ
      refine bg_goto rfl ?_
      exact ih (p + 1) h79 hK1 (by omega) (by omega) (by omega) (fun h' x5 q1 q2 => hQ h' x5 q1 (((fr.one g79).wide (by omega) (by omega)).trans q2)) x5
    · refine bg_aload0 rfl ?_
      refine bg_getfield rfl rfl k0 (by rfl) ?_
      refine bg_aload0 rfl ?_
      refine bg_getfield rfl rfl k0 (by rfl) ?_
      refine bg_virt1 rfl rfl rfl rfl ⟨_, tA.1⟩ ?_
      refine ba_at (by omega) tA (bk_Ki ?_)
      refine bg_stat1 rfl rfl rfl rfl ?_
      refine bk_isD (bk_Ki ?_)
      refine bg_ifeq_b rfl (fun e53 => ?_) (fun e53 => ?_)
      · have he : wL T (c + 1) p = p := if_neg (fun q => q.elim e36 e53)
        rw [he] at hQ
        exact hQ h x5 hK fr.refl
      · have he : wL T (c + 1) p = wL T c (p + 1) := if_pos (Or.inr e53)
        refine bg_lload2 rfl ?_
        refine bg_aload0 rfl ?_
        refine bg_getfield rfl rfl k0 (by rfl) ?_
        refine bg_aload0 rfl ?_
        refine bg_getfield rfl rfl k0 (by rfl) ?_
        refine bg_virt1 rfl rfl rfl rfl ⟨_, tA.1⟩ ?_
        refine ba_at (by omega) tA (bk_Ki ?_)
        refine bg_stat2 rfl rfl rfl rfl ?_
        refine bk_ext (bk_Ki ?_)
        rw [show xtF (cdL T (p - s) s 0) (bA T p) = cdL T (p + 1 - s) s 0 by rw [show p + 1 - s = p - s + 1 by omega, cdL_s, show s + (p - s) = p by omega]]
        refine bg_lstore2 rfl rfl ?_
        refine bg_aload0 rfl ?_
        refine bg_dup rfl rfl ?_
        refine bg_getfield rfl rfl k0 (by rfl) ?_
        refine bg_iconst rfl ?_
        refine bg_iadd rfl ?_
        refine bg_putfield rfl rfl k0 (by rfl) ⟨rfl, rfl⟩ (by rfl) (fun h79 f79 g79 => ?_)
        rw [nI_1] at f79
        have hK1 := hK.p f79 g79
        rw [he] at hQ
        refine bg_goto rfl ?_
        exact ih (p + 1) h79 hK1 (by omega) (by omega) (by omega) (fun h' x5 q1 q2 => hQ h' x5 q1 (((fr.one g79).wide (by omega) (by omega)).trans q2)) x5

theorem bk_word {i : Nat} (hi : i < 400) (hp : p < 2 ^ 30) (hK : KO h a tp T p rows f g) (hQ : ∀ h', KO h' a tp T (wE T p) rows f (if 10 < wE T p - p then g else vp_updL g i (wC T p)) → fr h h' a (a + 7) → Q (.inl (some (.int (if 10 < wE T p - p then 0 else kwF (wC T p))))) h' n) : bk_wp V (d + 3) 91 [.ref a, .int (nI i)] h n B Q := by
  obtain ⟨tA, k0, k1, k2, k3, k4, ktp⟩ := id hK
  have hge := wL_ge (T := T) (T.length - p) p
  have t3 := tA.2.2.1
  have hT30 : T.length - p ≤ 2000 := by omega
  refine bg_in rfl rfl ?_
  refine bg_lconst rfl ?_
  refine bg_lstore2 rfl rfl ?_
  refine bg_aload0 rfl ?_
  refine bg_getfield rfl rfl k0 (by rfl) ?_
  refine bg_istore4 rfl rfl ?_
  have e0 : (0 : Int64) = cdL T (p - p) p 0 := by rw [Nat.sub_self]; rfl
  refine Eq.mpr (congrArg (fun z => bk_g V (d + 2) 91 B Q 8 [some (.ref a), some (.int (nI i)), some (.long z), none, some (.int (nI p)), none] [] h n (0, 0)) e0) ?_
  refine bk_wdL (T.length - p) p h hK (Nat.le_refl p) rfl hp (fun hA x5 hKA gA => ?_) _
  change KO _ _ _ _ (wE T p) _ _ _ at hKA
  obtain ⟨tA, k0, k1, k2, k3, k4, ktp⟩ := id hKA
  change _ ≤ wE T p ∧ wE T p ≤ _ at hge
  refine bg_aload0 rfl ?_
  refine bg_getfield rfl rfl k0 (by rfl) ?_
  refine bg_iload4 rfl ?_
  refine bg_isub rfl ?_
  rw [show nI (wE T p) - nI p = nI (wE T p - p) from pk_sub hge.1]
  refine bg_bipush rfl ?_
  refine bg_icmp_le rfl (fun e94 => ?_) (fun e94 => ?_)
  · have e94 : ¬ 10 < wE T p - p := fun q => e94 (nI_lt (a := 10) q (by omega))
    simp only [if_neg e94] at hQ
    refine bg_iload1 rfl ?_
    refine bg_if_lt rfl (fun e100 => absurd e100 (nI_pos (by omega))) (fun e100 => ?_)
    refine bg_iload1 rfl ?_
    refine bg_aload0 rfl ?_
    refine bg_getfield rfl rfl k0 (by rfl) ?_
    refine bg_alen rfl k3 (by decide) ?_
    refine bg_icmp_ge rfl (fun e109 => absurd (nI_lt (by omega) (by omega)) e109) (fun e109 => ?_)
    refine bg_aload0 rfl ?_
    refine bg_getfield rfl rfl k0 (by rfl) ?_
    refine bg_iload1 rfl ?_
    refine bg_lload2 rfl ?_
    refine bg_lastore rfl k3 (vp_in_nI (by omega) (by omega)) (fun h118 f118 g118 => ?_)
    rw [nI_clamp (by omega)] at f118
    have hKB := hKA.c f118 g118
    obtain ⟨tA, k0, k1, k2, k3, k4, ktp⟩ := id hKB
    refine bg_aload0 rfl ?_
    refine bg_getfield rfl rfl k0 (by rfl) ?_
    refine bg_lload2 rfl ?_
    refine bg_virt1 rfl rfl rfl rfl ⟨_, k4.1⟩ ?_
    refine bn_find k4 (bk_Ki ?_)
    refine bg_istore5 rfl rfl ?_
    refine bg_iload5 rfl ?_
    refine bg_if_ge rfl (fun e131 => ?_) (fun e131 => ?_)
    · have he : kwF (wC T p) = 1 + ixL kwL (wC T p) 0 := if_neg e131
      refine bg_iconst rfl ?_
      refine bg_iload5 rfl ?_
      refine bg_iadd rfl ?_
      refine bg_iret rfl rfl (by rfl) ?_
      first | exact hQ hA hKA gA | (rw [he] at hQ; exact hQ h118 hKB (gA.trans ((fr.one g118).wide (by omega) (by omega))))
    · have he : kwF (wC T p) = 30 := if_pos e131
      refine bg_bipush rfl ?_
      refine bg_goto rfl ?_
      refine bg_iret rfl rfl (by rfl) ?_
      first | exact hQ hA hKA gA | (rw [he] at hQ; exact hQ h118 hKB (gA.trans ((fr.one g118).wide (by omega) (by omega))))
  · have e94 : 10 < wE T p - p := (nI_ltI (a := 10) (by omega) (by omega)).mp e94
    simp only [if_pos e94] at hQ
    refine bg_iconst rfl ?_
    refine bg_iret rfl rfl (by rfl) ?_
    first | exact hQ hA hKA gA | (rw [he] at hQ; exact hQ h118 hKB (gA.trans ((fr.one g118).wide (by omega) (by omega))))
theorem bk_nbL {s i : Nat} : ∀ (c p : Nat) (h : bk_H), KO h a tp T p rows f g → s ≤ p → c = T.length - p → p < 2 ^ 30 → (∀ h', KO h' a tp T (dL T c p) rows f g → fr h h' a (a + 7) → bk_g V (d + 1) 92 B Q 71 [some (.ref a), some (.int (nI i)), some (.int (nmL T (dL T c p - s) s 0)), some (.int (nI s))] [] h' n cs) → bk_g V (d + 1) 92 B Q 7 [some (.ref a), some (.int (nI i)), some (.int (nmL T (p - s) s 0)), some (.int (nI s))] [] h n cs := by
  intro c
  induction c with
  | zero =>
    intro p h hK hs hc hp hQ
    obtain ⟨tA, k0, k1, k2, k3, k4, ktp⟩ := id hK
    have t3 := tA.2.2.1
    refine bg_aload0 rfl ?_
    refine bg_getfield rfl rfl k0 (by rfl) ?_
    refine bg_aload0 rfl ?_
    refine bg_getfield rfl rfl k0 (by rfl) ?_
    refine bg_virt0 rfl rfl rfl rfl ⟨_, tA.1⟩ ?_
    refine ba_length tA (bk_Ki ?_)
    refine bg_icmp_ge rfl (fun e18 => ?_) (fun e18 => absurd e18 (nI_nlt (by omega) (by omega)))
    exact hQ h hK fr.refl
  | succ c ih =>
    intro p h hK hs hc hp hQ
    obtain ⟨tA, k0, k1, k2, k3, k4, ktp⟩ := id hK
    have t3 := tA.2.2.1
    refine bg_aload0 rfl ?_
    refine bg_getfield rfl rfl k0 (by rfl) ?_
    refine bg_aload0 rfl ?_
    refine bg_getfield rfl rfl k0 (by rfl) ?_
    refine bg_virt0 rfl rfl rfl rfl ⟨_, tA.1⟩ ?_
    refine ba_length tA (bk_Ki ?_)
    refine bg_icmp_ge rfl (fun e18 => absurd (nI_lt (by omega) (by omega)) e18) (fun e18 => ?_)
    refine bg_aload0 rfl ?_
    refine bg_getfield rfl rfl k0 (by rfl) ?_
    refine bg_aload0 rfl ?_
    refine bg_getfield rfl rfl k0 (by rfl) ?_
    refine bg_virt1 rfl rfl rfl rfl ⟨_, tA.1⟩ ?_
    refine ba_at (by omega) tA (bk_Ki ?_)
    refine bg_stat1 rfl rfl rfl rfl ?_
    refine bk_isD (bk_Ki ?_)
    refine bg_ifeq_b rfl (fun e35 => ?_) (fun e35 => ?_)
    · have he : dL T (c + 1) p = p := if_neg e35
      rw [he] at hQ
      exact hQ h hK fr.refl
    · have he : dL T (c + 1) p = dL T c (p + 1) := if_pos e35
      refine bg_iload2 rfl ?_
      refine bg_bipush rfl ?_
      refine bg_imul rfl ?_
      refine bg_aload0 rfl ?_
      refine bg_getfield rfl rfl k0 (by rfl) ?_
      refine bg_aload0 rfl ?_
      refine bg_getfield rfl rfl k0 (by rfl) ?_
      refine bg_virt1 rfl rfl rfl rfl ⟨_, tA.1⟩ ?_
      refine ba_at (by omega) tA (bk_Ki ?_)
      refine bg_iadd rfl ?_
      refine bg_bipush rfl ?_
      refine bg_isub rfl ?_
      rw [show nmL T (p - s) s 0 * 10 + bA T p - 48 = nmL T (p + 1 - s) s 0 by rw [show p + 1 - s = p - s + 1 by omega, nmL_s, show s + (p - s) = p by omega]]
      refine bg_istore2 rfl rfl ?_
      refine bg_aload0 rfl ?_
      refine bg_dup rfl rfl ?_
      refine bg_getfield rfl rfl k0 (by rfl) ?_
      refine bg_iconst rfl ?_
      refine bg_iadd rfl ?_
      refine bg_putfield rfl rfl k0 (by rfl) ⟨rfl, rfl⟩ (by rfl) (fun h65 f65 g65 => ?_)
      rw [nI_1] at f65
      have hK1 := hK.p f65 g65
      rw [he] at hQ
      refine bg_goto rfl ?_
      exact ih (p + 1) h65 hK1 (by omega) (by omega) (by omega) (fun h' q1 q2 => hQ h' q1 (((fr.one g65).wide (by omega) (by omega)).trans q2))

theorem bk_number {i : Nat} (hp : p < 2 ^ 30) (hK : KO h a tp T p rows f g) (hQ : ∀ h', KO h' a tp T (dE T p) (rS rows (nI i) 1 (nV T p)) f g → fr h h' a (a + 7) → Q (.inl (some (.int (if 6 < dE T p - p then 0 else 31)))) h' n) : bk_wp V (d + 2) 92 [.ref a, .int (nI i)] h n B Q := by
  obtain ⟨tA, k0, k1, k2, k3, k4, ktp⟩ := id hK
  have hge := dL_ge (T := T) (T.length - p) p
  have t3 := tA.2.2.1
  have hT30 : T.length - p ≤ 2000 := by omega
  refine bg_in rfl rfl ?_
  refine bg_iconst rfl ?_
  refine bg_istore2 rfl rfl ?_
  refine bg_aload0 rfl ?_
  refine bg_getfield rfl rfl k0 (by rfl) ?_
  refine bg_istore3 rfl rfl ?_
  have e0 : (0 : Int32) = nmL T (p - p) p 0 := by rw [Nat.sub_self]; rfl
  refine Eq.mpr (congrArg (fun z => bk_g V (d + 1) 92 B Q 7 [some (.ref a), some (.int (nI i)), some (.int z), some (.int (nI p))] [] h n (0, 0)) e0) ?_
  refine bk_nbL (T.length - p) p h hK (Nat.le_refl p) rfl hp (fun hA hKA gA => ?_)
  obtain ⟨tA, k0, k1, k2, k3, k4, ktp⟩ := id hKA
  change KO _ _ _ _ (dE T p) _ _ _ at hKA
  change _ ≤ dE T p ∧ dE T p ≤ _ at hge
  refine bg_aload0 rfl ?_
  refine bg_getfield rfl rfl k0 (by rfl) ?_
  refine bg_iload1 rfl ?_
  refine bg_iconst rfl ?_
  refine bg_iload2 rfl ?_
  refine bg_virt3 rfl rfl rfl rfl (TB.o k1) ?_
  refine bt_set k1 rfl (by decide) (fun hB kB gB => bk_Kv ?_)
  have hKB := hKA.r kB gB
  obtain ⟨tA, k0, k1, k2, k3, k4, ktp⟩ := id hKB
  refine bg_aload0 rfl ?_
  refine bg_getfield rfl rfl k0 (by rfl) ?_
  refine bg_iload3 rfl ?_
  refine bg_isub rfl ?_
  rw [show nI (dE T p) - nI p = nI (dE T p - p) from pk_sub hge.1]
  refine bg_bipush rfl ?_
  refine bg_icmp_le rfl (fun e89 => ?_) (fun e89 => ?_)
  · have e89 : ¬ 6 < dE T p - p := fun q => e89 (nI_lt (a := 6) q (by omega))
    simp only [if_neg e89] at hQ
    refine bg_bipush rfl ?_
    refine bg_iret rfl rfl (by rfl) ?_
    exact hQ hB hKB (gA.trans (gB.wide (by omega) (by omega)))
  · have e89 : 6 < dE T p - p := (nI_ltI (a := 6) (by omega) (by omega)).mp e89
    simp only [if_pos e89] at hQ
    refine bg_iconst rfl ?_
    refine bg_goto rfl ?_
    refine bg_iret rfl rfl (by rfl) ?_
    exact hQ hB hKB (gA.trans (gB.wide (by omega) (by omega)))
theorem i2c_b {b : Int32} (h : ∃ k, k < 256 ∧ b = nI k) : (b.toUInt32 % 65536).toInt32 = b := by
  obtain ⟨k, hk, rfl⟩ := h
  rw [pk_char, pk_tn (by omega), Nat.mod_eq_of_lt (by omega)]
theorem bk_ixC : ∀ (l : List Int32) (c : Int32) (k : Nat), bk_ix l c k = -1 ∨ ∃ j, j < l.length ∧ bk_ix l c k = nI (k + j)
  | [], _, _ => Or.inl rfl
  | b :: r, c, k => by
    unfold bk_ix
    by_cases h : b = c
    · rw [if_pos h]
      exact Or.inr ⟨0, Nat.succ_pos _, rfl⟩
    · rw [if_neg h]
      rcases bk_ixC r c (k + 1) with q | ⟨j, q1, q2⟩
      · exact Or.inl q
      · exact Or.inr ⟨j + 1, Nat.succ_lt_succ q1, by rw [q2, show k + 1 + j = k + (j + 1) by omega]⟩
theorem ixLC : ∀ (l : List Int64) (c : Int64) (k : Nat), ixL l c k = -1 ∨ ∃ j, j < l.length ∧ ixL l c k = nI (k + j)
  | [], _, _ => Or.inl rfl
  | b :: r, c, k => by
    unfold ixL
    by_cases h : b = c
    · rw [if_pos h]
      exact Or.inr ⟨0, Nat.succ_pos _, rfl⟩
    · rw [if_neg h]
      rcases ixLC r c (k + 1) with q | ⟨j, q1, q2⟩
      · exact Or.inl q
      · exact Or.inr ⟨j + 1, Nat.succ_lt_succ q1, by rw [q2, show k + 1 + j = k + (j + 1) by omega]⟩
theorem sgC (b : Int32) : sgF b = -1 ∨ ∃ j, j < 13 ∧ sgF b = nI j := by
  rcases bk_ixC (bk_sB 1) b 0 with h | ⟨j, h1, h2⟩
  · exact Or.inl h
  · exact Or.inr ⟨j, h1, by rw [Nat.zero_add] at h2; exact h2⟩
theorem kwL_len : kwL.length = 29 := by decide +kernel
theorem kwC (c : Int64) : kwF c = 30 ∨ ∃ j, j < 29 ∧ kwF c = nI (1 + j) := by
  unfold kwF
  rcases ixLC kwL c 0 with h | ⟨j, h1, h2⟩
  · rw [h]
    exact Or.inl rfl
  · rw [kwL_len] at h1
    rw [Nat.zero_add] at h2
    rw [h2, if_neg (nI_pos (by omega))]
    exact Or.inr ⟨j, h1, nI_add 1 j⟩
theorem bk_sign (hp : p < T.length) (hK : KO h a tp T p rows f g) (hQ : ∀ h', KO h' a tp T (if sgF (bA T p) < 0 then p else if sg2 T p then p + 2 else p + 1) rows f g → fr h h' a (a + 7) → Q (.inl (some (.int (if sgF (bA T p) < 0 then 0 else if sg2 T p then (if 32 + sgF (bA T p) = 42 then 45 else 46) else 32 + sgF (bA T p))))) h' n) : bk_wp V (d + 2) 93 [.ref a, .int (bA T p)] h n B Q := by
  obtain ⟨tA, k0, k1, k2, k3, k4, ktp⟩ := id hK
  have t3 := tA.2.2.1
  have hw1 : fr h h a (a + 7) := fr.refl
  refine bg_in rfl rfl ?_
  refine bg_ldc rfl rfl ?_
  refine bg_iload1 rfl ?_
  refine bg_i2c rfl ?_
  rw [i2c_b (bA_lt tA.2.2.2 hp)]
  refine bg_indexof (k := 1) rfl rfl rfl (by decide) rfl ?_
  change bk_g _ _ _ _ _ _ _ [.int (sgF (bA T p))] _ _ _
  refine bg_istore2 rfl rfl ?_
  refine bg_iload2 rfl ?_
  refine bg_if_ge rfl (fun e9 => ?_) (fun e9 => ?_)
  · simp only [if_neg e9] at hQ
    refine bg_aload0 rfl ?_
    refine bg_dup rfl rfl ?_
    refine bg_getfield rfl rfl k0 (by rfl) ?_
    refine bg_iconst rfl ?_
    refine bg_iadd rfl ?_
    refine bg_putfield rfl rfl k0 (by rfl) ⟨rfl, rfl⟩ (by rfl) (fun h21 f21 g21 => ?_)
    rw [nI_1] at f21
    have hKA := hK.p f21 g21
    obtain ⟨tA, k0, k1, k2, k3, k4, ktp⟩ := id hKA
    refine bg_bipush rfl ?_
    refine bg_iload2 rfl ?_
    refine bg_iadd rfl ?_
    refine bg_istore3 rfl rfl ?_
    refine bg_aload0 rfl ?_
    refine bg_getfield rfl rfl k0 (by rfl) ?_
    refine bg_aload0 rfl ?_
    refine bg_getfield rfl rfl k0 (by rfl) ?_
    refine bg_virt1 rfl rfl rfl rfl ⟨_, tA.1⟩ ?_
    refine ba_at (by omega) tA (bk_Ki ?_)
    refine bg_bipush rfl ?_
    refine bg_icmp_ne rfl (fun e42 => ?_) (fun e42 => ?_)
    · have h2 : ¬ sg2 T p := fun q => e42 q.1
      simp only [if_neg h2] at hQ
      refine bg_iload3 rfl ?_
      refine bg_iret rfl rfl (by rfl) ?_
      first | exact hQ h64 hKB (((fr.one g21).trans (fr.one g64)).wide (by omega) (by omega)) | exact hQ h21 hKA ((fr.one g21).wide (by omega) (by omega))
    · refine bg_iload3 rfl ?_
      refine bg_bipush rfl ?_
      refine bg_icmp_eq rfl (fun e48 => ?_) (fun e48 => ?_)
      · have h2 : sg2 T p := ⟨e42, Or.inl e48⟩
        simp only [if_pos h2] at hQ
        refine bg_aload0 rfl ?_
        refine bg_dup rfl rfl ?_
        refine bg_getfield rfl rfl k0 (by rfl) ?_
        refine bg_iconst rfl ?_
        refine bg_iadd rfl ?_
        refine bg_putfield rfl rfl k0 (by rfl) ⟨rfl, rfl⟩ (by rfl) (fun h64 f64 g64 => ?_)
        rw [nI_1] at f64
        have hKB := hKA.p f64 g64
        refine bg_iload3 rfl ?_
        refine bg_bipush rfl ?_
        refine bg_icmp_ne rfl (fun e70 => ?_) (fun e70 => ?_)
        · simp only [if_neg e70] at hQ
          refine bg_bipush rfl ?_
          refine bg_iret rfl rfl (by rfl) ?_
          first | exact hQ h64 hKB (((fr.one g21).trans (fr.one g64)).wide (by omega) (by omega)) | exact hQ h21 hKA ((fr.one g21).wide (by omega) (by omega))
        · simp only [if_pos e70] at hQ
          refine bg_bipush rfl ?_
          refine bg_goto rfl ?_
          refine bg_iret rfl rfl (by rfl) ?_
          first | exact hQ h64 hKB (((fr.one g21).trans (fr.one g64)).wide (by omega) (by omega)) | exact hQ h21 hKA ((fr.one g21).wide (by omega) (by omega))
      · refine bg_iload3 rfl ?_
        refine bg_bipush rfl ?_
        refine bg_icmp_ne rfl (fun e54 => ?_) (fun e54 => ?_)
        · have h2 : ¬ sg2 T p := fun q => q.2.elim e48 e54
          simp only [if_neg h2] at hQ
          refine bg_iload3 rfl ?_
          refine bg_iret rfl rfl (by rfl) ?_
          first | exact hQ h64 hKB (((fr.one g21).trans (fr.one g64)).wide (by omega) (by omega)) | exact hQ h21 hKA ((fr.one g21).wide (by omega) (by omega))
        · have h2 : sg2 T p := ⟨e42, Or.inr e54⟩
          simp only [if_pos h2] at hQ
          refine bg_aload0 rfl ?_
          refine bg_dup rfl rfl ?_
          refine bg_getfield rfl rfl k0 (by rfl) ?_
          refine bg_iconst rfl ?_
          refine bg_iadd rfl ?_
          refine bg_putfield rfl rfl k0 (by rfl) ⟨rfl, rfl⟩ (by rfl) (fun h64 f64 g64 => ?_)
          rw [nI_1] at f64
          have hKB := hKA.p f64 g64
          refine bg_iload3 rfl ?_
          refine bg_bipush rfl ?_
          refine bg_icmp_ne rfl (fun e70 => ?_) (fun e70 => ?_)
          · simp only [if_neg e70] at hQ
            refine bg_bipush rfl ?_
            refine bg_iret rfl rfl (by rfl) ?_
            first | exact hQ h64 hKB (((fr.one g21).trans (fr.one g64)).wide (by omega) (by omega)) | exact hQ h21 hKA ((fr.one g21).wide (by omega) (by omega))
          · simp only [if_pos e70] at hQ
            refine bg_bipush rfl ?_
            refine bg_goto rfl ?_
            refine bg_iret rfl rfl (by rfl) ?_
            first | exact hQ h64 hKB (((fr.one g21).trans (fr.one g64)).wide (by omega) (by omega)) | exact hQ h21 hKA ((fr.one g21).wide (by omega) (by omega))
  · simp only [if_pos e9] at hQ
    refine bg_iconst rfl ?_
    refine bg_iret rfl rfl (by rfl) ?_
    exact hQ h hK fr.refl
theorem bk_tok {i : Nat} (hi : i < 401) (hp : p < 2 ^ 30) (hK : KO h a tp T p rows f g) (hQ : ∀ h', KO h' a tp T (tkE T i p) (tkR T i p rows) f (tkG T i p g) → fr h h' a (a + 7) → Q (.inl (some (.int (tkK T i p)))) h' n) : bk_wp V (d + 4) 90 [.ref a, .int (nI i)] h n B Q := by
  obtain ⟨tA, k0, k1, k2, k3, k4, ktp⟩ := id hK
  have t3 := tA.2.2.1
  unfold tkE tkR tkG tkK at hQ
  refine bg_in rfl rfl ?_
  refine bg_aload0 rfl ?_
  refine bg_getfield rfl rfl k0 (by rfl) ?_
  refine bg_aload0 rfl ?_
  refine bg_getfield rfl rfl k0 (by rfl) ?_
  refine bg_virt1 rfl rfl rfl rfl ⟨_, tA.1⟩ ?_
  refine ba_at (by omega) tA (bk_Ki ?_)
  refine bg_istore2 rfl rfl ?_
  refine bg_iload2 rfl ?_
  refine bg_if_ge rfl (fun e13 => ?_) (fun e13 => ?_)
  · simp only [if_neg e13] at hQ
    have hp1 : p < T.length := Decidable.byContradiction fun q => e13 (by rw [bA_ge (by omega)]; decide)
    refine bg_iload1 rfl ?_
    refine bg_sipush rfl ?_
    refine bg_icmp_lt rfl (fun e23 => ?_) (fun e23 => ?_)
    · have e23 : ¬ 400 ≤ i := fun q => absurd e23 (nI_nlt (b := 400) q (by omega))
      simp only [if_neg e23] at hQ
      refine bg_iload2 rfl ?_
      refine bg_stat1 rfl rfl rfl rfl ?_
      refine bk_isL (bk_Ki ?_)
      refine bg_ifeq_b rfl (fun e32 => ?_) (fun e32 => ?_)
      · simp only [if_neg e32] at hQ
        refine bg_iload2 rfl ?_
        refine bg_stat1 rfl rfl rfl rfl ?_
        refine bk_isD (bk_Ki ?_)
        refine bg_ifeq_b rfl (fun e45 => ?_) (fun e45 => ?_)
        · simp only [if_neg e45] at hQ
          refine bg_aload0 rfl ?_
          refine bg_iload2 rfl ?_
          refine bg_virt1 rfl rfl rfl rfl ⟨_, k0⟩ ?_
          refine bk_sign hp1 hK (fun hA hKA gA => bk_Ki ?_)
          refine bg_iret rfl rfl (by rfl) ?_
          first | exact hQ _ hKA gA | exact hQ h hK fr.refl
        · simp only [if_pos e45] at hQ
          refine bg_aload0 rfl ?_
          refine bg_iload1 rfl ?_
          refine bg_virt1 rfl rfl rfl rfl ⟨_, k0⟩ ?_
          refine bk_number hp hK (fun hA hKA gA => bk_Ki ?_)
          refine bg_goto rfl ?_
          refine bg_iret rfl rfl (by rfl) ?_
          first | exact hQ _ hKA gA | exact hQ h hK fr.refl
      · simp only [if_pos e32] at hQ
        refine bg_aload0 rfl ?_
        refine bg_iload1 rfl ?_
        refine bg_virt1 rfl rfl rfl rfl ⟨_, k0⟩ ?_
        refine bk_word (by omega) hp hK (fun hA hKA gA => bk_Ki ?_)
        refine bg_iret rfl rfl (by rfl) ?_
        first | exact hQ _ hKA gA | exact hQ h hK fr.refl
    · have e23 : 400 ≤ i := Nat.le_of_not_lt fun q => e23 (nI_lt (b := 400) q (by omega))
      simp only [if_pos e23] at hQ
      refine bg_iconst rfl ?_
      refine bg_iret rfl rfl (by rfl) ?_
      first | exact hQ _ hKA gA | exact hQ h hK fr.refl
  · simp only [if_pos e13] at hQ
    refine bg_bipush rfl ?_
    refine bg_iret rfl rfl (by rfl) ?_
    first | exact hQ _ hKA gA | exact hQ h hK fr.refl
end BK
