/-! The scan. Printed by wip/whole/mk30.py. -/
abbrev tK : Type := List (Int32 × Nat × Nat)
def tkL (T : List Int32) : Nat → Nat → Nat → tK
  | 0, _, _ => []
  | k + 1, i, p => (tkK T i (skP T p), skP T p, tkE T i (skP T p)) :: (if tkK T i (skP T p) = 47 ∨ tkK T i (skP T p) = 0 then [] else tkL T k (i + 1) (tkE T i (skP T p)))
def toks (T : List Int32) : tK := tkL T 401 0 0
def SCN (T : List Int32) (tk : tK) (rows : bT) (f : Nat → Int32) (g : Nat → Int64) : Prop := ∀ j t, tk[j]? = some t → f j = t.1 ∧ tg rows j 0 = nI t.2.1 ∧ (t.1 = 31 → tg rows j 1 = nV T t.2.1) ∧ (t.1 = 30 → g j = wC T t.2.1)
theorem tkR_len {T : List Int32} {i p : Nat} {rows : bT} : (tkR T i p rows).length = rows.length := by
  unfold tkR
  repeat' split
  all_goals first | rfl | exact rS_len
theorem tkR_0 {T : List Int32} {i p j c : Nat} {rows : bT} (hw : ∀ q ∈ rows, q.length = 2) (hl : i < rows.length) (hi : i < 2 ^ 31) (hc : c = 0 ∨ j ≠ i) : tg (tkR T i p rows) j c = tg rows j c := by
  unfold tkR
  repeat' split
  all_goals try rfl
  unfold rS
  rw [if_neg (nI_pos hi), nI_clamp hi, tg_tS hw hl (by decide), if_neg (by omega)]
theorem tkK_31 {T : List Int32} {i p : Nat} (h : tkK T i p = 31) : ¬ bA T p < 0 ∧ ¬ 400 ≤ i ∧ ¬ isL (bA T p) ∧ isD (bA T p) := by
  unfold tkK at h
  by_cases h1 : bA T p < 0
  · rw [if_pos h1] at h
    exact absurd h (by decide)
  rw [if_neg h1] at h
  by_cases h2 : 400 ≤ i
  · rw [if_pos h2] at h
    exact absurd h (by decide)
  rw [if_neg h2] at h
  by_cases h3 : isL (bA T p)
  · rw [if_pos h3] at h
    exfalso
    split at h
    · exact absurd h (by decide)
    · rcases kwC (wC T p) with q | ⟨j, q1, q2⟩
      · rw [q] at h
        exact absurd h (by decide)
      · rw [q2] at h
        have := (nI_eq (b := 31) (by omega) (by omega)).mp h
        omega
  rw [if_neg h3] at h
  by_cases h4 : isD (bA T p)
  · exact ⟨h1, h2, h3, h4⟩
  rw [if_neg h4] at h
  exfalso
  split at h
  · exact absurd h (by decide)
  · split at h
    · split at h
      · exact absurd h (by decide)
      · exact absurd h (by decide)
    · rename_i h5 _
      rcases sgC (bA T p) with q | ⟨j, q1, q2⟩
      · rw [q] at h5
        exact absurd (by decide) h5
      · rw [q2, show (32 : Int32) + nI j = nI (32 + j) from nI_add 32 j] at h
        have := (nI_eq (b := 31) (by omega) (by omega)).mp h
        omega
theorem tkK_30 {T : List Int32} {i p : Nat} {g : Nat → Int64} (h : tkK T i p = 30) : tkG T i p g i = wC T p := by
  unfold tkK at h
  unfold tkG
  by_cases h1 : bA T p < 0
  · rw [if_pos h1] at h
    exact absurd h (by decide)
  rw [if_neg h1] at h ⊢
  by_cases h2 : 400 ≤ i
  · rw [if_pos h2] at h
    exact absurd h (by decide)
  rw [if_neg h2] at h ⊢
  by_cases h3 : isL (bA T p)
  · rw [if_pos h3] at h ⊢
    by_cases h4 : 10 < wE T p - p
    · rw [if_pos h4] at h
      exact absurd h (by decide)
    · rw [if_neg h4, pk_uLs]
  rw [if_neg h3] at h
  exfalso
  split at h
  · split at h
    · exact absurd h (by decide)
    · exact absurd h (by decide)
  · split at h
    · exact absurd h (by decide)
    · split at h
      · split at h
        · exact absurd h (by decide)
        · exact absurd h (by decide)
      · rename_i h5 _
        rcases sgC (bA T p) with q | ⟨j, q1, q2⟩
        · rw [q] at h5
          exact absurd (by decide) h5
        · rw [q2, show (32 : Int32) + nI j = nI (32 + j) from nI_add 32 j] at h
          have := (nI_eq (b := 30) (by omega) (by omega)).mp h
          omega
theorem tkG_n {T : List Int32} {i p j : Nat} {g : Nat → Int64} (hj : j ≠ i) : tkG T i p g j = g j := by
  unfold tkG
  repeat' split
  all_goals first | rfl | exact pk_uLn hj
theorem SCN_s {T : List Int32} {tk : tK} {rows : bT} {f : Nat → Int32} {g : Nat → Int64} {p : Nat} (h : SCN T tk rows f g) (hl : rows.length = tk.length) (hw : ∀ q ∈ rows, q.length = 2) (hi : tk.length < 401) :
    SCN T (tk ++ [(tkK T tk.length p, p, tkE T tk.length p)]) (tkR T tk.length p (rows ++ [[nI p, 0]])) (upd f tk.length (tkK T tk.length p)) (tkG T tk.length p g) := by
  have hw1 : ∀ q ∈ rows ++ [[nI p, 0]], q.length = 2 := by
    intro q hq
    rcases List.mem_append.mp hq with z | z
    · exact hw q z
    · rw [List.mem_singleton.mp z]
      rfl
  have hl1 : tk.length < (rows ++ [[nI p, 0]]).length := by
    rw [List.length_append, hl]
    exact Nat.lt_succ_self _
  intro j t ht
  by_cases hj : j = tk.length
  · subst hj
    rw [List.getElem?_append_right (Nat.le_refl _), Nat.sub_self] at ht
    cases ht
    refine ⟨pk_us, ?_, fun q => ?_, fun q => tkK_30 q⟩
    · rw [tkR_0 hw1 hl1 (by omega) (Or.inl rfl)]
      unfold tg
      rw [List.getD_eq_getElem?_getD (l := rows ++ _), List.getElem?_append_right (by omega), hl, Nat.sub_self]
      rfl
    · obtain ⟨q1, q2, q3, q4⟩ := tkK_31 q
      unfold tkR
      rw [if_neg q1, if_neg q2, if_neg q3, if_pos q4]
      unfold rS
      rw [if_neg (nI_pos (by omega)), nI_clamp (by omega), tg_tS hw1 hl1 (by decide), if_pos ⟨rfl, rfl⟩]
  · have hj1 : j < tk.length := by
      have := (List.getElem?_eq_some_iff.mp ht).1
      rw [List.length_append] at this
      have : j < tk.length + 1 := this
      omega
    rw [List.getElem?_append_left hj1] at ht
    obtain ⟨a1, a2, a3, a4⟩ := h j t ht
    have e : ∀ c, tg (tkR T tk.length p (rows ++ [[nI p, 0]])) j c = tg rows j c := fun c => by
      rw [tkR_0 hw1 hl1 (by omega) (Or.inr hj)]
      unfold tg
      rw [List.getD_eq_getElem?_getD (l := rows ++ _), List.getElem?_append_left (by omega), ← List.getD_eq_getElem?_getD]
    exact ⟨(pk_un hj).trans a1, (e 0).trans a2, fun q => (e 1).trans (a3 q), fun q => (tkG_n hj).trans (a4 q)⟩
theorem skP_le {T : List Int32} {p : Nat} (h : T.length ≤ 2000) (hp : p ≤ 2002) : skP T p ≤ 2002 := by
  have := (skL_ge (T := T) (T.length - p) p).2
  unfold skP
  omega
theorem tkE_le {T : List Int32} {i p : Nat} (h : T.length ≤ 2000) (hp : p ≤ 2002) : tkE T i p ≤ 2002 := by
  have h1 := (wL_ge (T := T) (T.length - p) p).2
  have h2 := (dL_ge (T := T) (T.length - p) p).2
  have h3 : ¬ bA T p < 0 → p < T.length := fun q => Decidable.byContradiction fun z => q (by rw [bA_ge (by omega)]; decide)
  unfold tkE wE dE
  by_cases h1 : bA T p < 0
  · rw [if_pos h1]
    exact hp
  have h4 := h3 h1
  rw [if_neg h1]
  repeat' split
  all_goals omega
section BK
variable {V : bk_V} {d n : Nat} {B : Nat × Nat} {Q : bk_R → bk_H → Nat → Prop} {h : bk_H} {a tp p : Nat} {T : List Int32} {rows : bT} {f : Nat → Int32} {g : Nat → Int64} {cs : Nat × Nat}
theorem bk_scanE {x3 x4 : Option Value} {m : Nat} (hQ : Q (.inl none) h n) : bk_g V d 88 B Q 16 [some (.ref a), some (.int 0), some (.int (nI m)), x3, x4] [] h n cs := by
  refine bg_iload2 rfl ?_
  refine bg_sipush rfl ?_
  refine bg_icmp_gt rfl (fun e20 => ?_) (fun e20 => ?_)
  · refine bg_ret rfl rfl ?_
    exact hQ
  · refine bg_iload1 rfl ?_
    refine bg_if_eq rfl (fun e24 => ?_) (fun e24 => absurd rfl e24)
    refine bg_ret rfl rfl ?_
    exact hQ
theorem bk_scanL : ∀ (c : Nat) (tk : tK) (p : Nat) (rows : bT) (f : Nat → Int32) (g : Nat → Int64) (h : bk_H), c = 401 - tk.length → tk.length ≤ 401 → p ≤ 2002 → KO h a tp T p rows f g → SCN T tk rows f g → rows.length = tk.length → toks T = tk ++ tkL T c tk.length p →
    (∀ h' p' rows' f' g', KO h' a tp T p' rows' f' g' → SCN T (toks T) rows' f' g' → rows'.length = (toks T).length → fr h h' a (a + 7) → Q (.inl none) h' n) → ∀ x3 x4, bk_g V (d + 4) 88 B Q 16 [some (.ref a), some (.int 1), some (.int (nI tk.length)), x3, x4] [] h n cs := by
  intro c
  induction c with
  | zero =>
    intro tk p rows f g h hc htk hp hK hS hl ht hQ x3 x4
    have ht : toks T = tk := ht.trans (List.append_nil _)
    refine bg_iload2 rfl ?_
    refine bg_sipush rfl ?_
    refine bg_icmp_gt rfl (fun e20 => ?_) (fun e20 => absurd (nI_lt (a := 400) (by omega) (by omega)) e20)
    refine bg_ret rfl rfl ?_
    exact hQ h p rows f g hK (by rw [ht]; exact hS) (by rw [ht]; exact hl) fr.refl
  | succ c ih =>
    intro tk p rows f g h hc htk hp hK hS hl ht hQ x3 x4
    obtain ⟨tA, k0, k1, k2, k3, k4, ktp⟩ := id hK
    have t3 := tA.2.2.1
    have hp1 := skP_le (T := T) (p := p) t3 hp
    have hp2 := tkE_le (T := T) (i := tk.length) (p := skP T p) t3 hp1
    refine bg_iload2 rfl ?_
    refine bg_sipush rfl ?_
    refine bg_icmp_gt rfl (fun e20 => absurd e20 (nI_nlt (a := 400) (b := tk.length) (by omega) (by omega))) (fun e20 => ?_)
    refine bg_iload1 rfl ?_
    refine bg_if_eq rfl (fun e24 => absurd e24 (by decide)) (fun e24 => ?_)
    refine bg_aload0 rfl ?_
    refine bg_virt0 rfl rfl rfl rfl ⟨_, k0⟩ ?_
    refine bk_skip (by omega) hK (fun hA hKA gA => bk_Kv ?_)
    have kA1 := k1
    obtain ⟨tA, k0, k1, k2, k3, k4, ktp⟩ := id hKA
    refine bg_aload0 rfl ?_
    refine bg_getfield rfl rfl k0 (by rfl) ?_
    refine bg_virt0 rfl rfl rfl rfl (TB.o k1) ?_
    refine bt_add k1 (fun q => absurd (by omega) q) (fun _ hB kB gB => bk_Ki ?_)
    have hKB := hKA.r kB gB
    obtain ⟨tA, k0, k1, k2, k3, k4, ktp⟩ := id hKB
    refine bg_istore3 rfl rfl ?_
    refine bg_aload0 rfl ?_
    refine bg_getfield rfl rfl k0 (by rfl) ?_
    refine bg_iload3 rfl ?_
    refine bg_iconst rfl ?_
    refine bg_aload0 rfl ?_
    refine bg_getfield rfl rfl k0 (by rfl) ?_
    refine bg_virt3 rfl rfl rfl rfl (TB.o k1) ?_
    refine bt_set k1 rfl (by decide) (fun hC kC gC => bk_Kv ?_)
    rw [rS_last (by omega)] at kC
    change TB hC _ _ _ (rows ++ [[nI (skP T p), 0]]) at kC
    have hKC := hKB.r kC gC
    rw [hl]
    obtain ⟨tA, k0, k1, k2, k3, k4, ktp⟩ := id hKC
    refine bg_aload0 rfl ?_
    refine bg_iload3 rfl ?_
    refine bg_virt1 rfl rfl rfl rfl ⟨_, k0⟩ ?_
    refine bk_tok (by omega) (by omega) hKC (fun hD hKD gD => bk_Ki ?_)
    obtain ⟨tA, k0, k1, k2, k3, k4, ktp⟩ := id hKD
    refine bg_istore4 rfl rfl ?_
    refine bg_iload3 rfl ?_
    refine bg_if_lt rfl (fun e60 => absurd e60 (nI_pos (by omega))) (fun e60 => ?_)
    refine bg_iload3 rfl ?_
    refine bg_aload0 rfl ?_
    refine bg_getfield rfl rfl k0 (by rfl) ?_
    refine bg_alen rfl k2 (by decide) ?_
    refine bg_icmp_ge rfl (fun e69 => absurd (nI_lt (by omega) (by omega)) e69) (fun e69 => ?_)
    refine bg_aload0 rfl ?_
    refine bg_getfield rfl rfl k0 (by rfl) ?_
    refine bg_iload3 rfl ?_
    refine bg_iload4 rfl ?_
    refine bg_iastore_n rfl k2 (by omega) (by omega) (fun h79 f79 g79 => ?_)
    have hKE := hKD.k f79 g79
    have hSE := SCN_s (p := skP T p) hS hl kA1.2.2.2.1 (by omega)
    have hlE : (tkR T tk.length (skP T p) (rows ++ [[nI (skP T p), 0]])).length = (tk ++ [(tkK T tk.length (skP T p), skP T p, tkE T tk.length (skP T p))]).length := by
      rw [tkR_len, List.length_append, List.length_append, hl]
      rfl
    have gE : fr h h79 a (a + 7) := (((gA.trans (gB.wide (by omega) (by omega))).trans (gC.wide (by omega) (by omega))).trans gD).trans ((fr.one g79).wide (by omega) (by omega))
    refine bg_iload4 rfl ?_
    refine bg_bipush rfl ?_
    refine bg_icmp_eq rfl (fun e84 => ?_) (fun e84 => ?_)
    · have hst : toks T = tk ++ [(tkK T tk.length (skP T p), skP T p, tkE T tk.length (skP T p))] := by
        rw [ht]
        show tk ++ (_ :: (if _ then [] else _)) = _
        rw [if_pos (Or.inl e84)]
      refine bg_iconst rfl ?_
      refine bg_istore1 rfl rfl ?_
      refine bg_iinc2 rfl rfl ?_
      rw [nI_1]
      refine bg_goto rfl ?_
      first
        | exact bk_scanE (hQ h79 _ _ _ _ hKE (by rw [hst]; exact hSE) (by rw [hst]; exact hlE) gE)
        | (have hn : tk.length + 1 = (tk ++ [(tkK T tk.length (skP T p), skP T p, tkE T tk.length (skP T p))]).length := by
             rw [List.length_append]
             rfl
           rw [hn] at hst ⊢
           exact ih _ _ _ _ _ h79 (by omega) (by omega) hp2 hKE hSE hlE hst (fun h' p' rows' f' g' q1 q2 q3 q4 => hQ h' p' rows' f' g' q1 q2 q3 (gE.trans q4)) _ _)
    · refine bg_iload4 rfl ?_
      refine bg_if_eq rfl (fun e89 => ?_) (fun e89 => ?_)
      · have hst : toks T = tk ++ [(tkK T tk.length (skP T p), skP T p, tkE T tk.length (skP T p))] := by
          rw [ht]
          show tk ++ (_ :: (if _ then [] else _)) = _
          rw [if_pos (Or.inr e89)]
        refine bg_iconst rfl ?_
        refine bg_istore1 rfl rfl ?_
        refine bg_iinc2 rfl rfl ?_
        rw [nI_1]
        refine bg_goto rfl ?_
        first
          | exact bk_scanE (hQ h79 _ _ _ _ hKE (by rw [hst]; exact hSE) (by rw [hst]; exact hlE) gE)
          | (have hn : tk.length + 1 = (tk ++ [(tkK T tk.length (skP T p), skP T p, tkE T tk.length (skP T p))]).length := by
               rw [List.length_append]
               rfl
             rw [hn] at hst ⊢
             exact ih _ _ _ _ _ h79 (by omega) (by omega) hp2 hKE hSE hlE hst (fun h' p' rows' f' g' q1 q2 q3 q4 => hQ h' p' rows' f' g' q1 q2 q3 (gE.trans q4)) _ _)
      · have hst : toks T = (tk ++ [(tkK T tk.length (skP T p), skP T p, tkE T tk.length (skP T p))]) ++ tkL T c (tk.length + 1) (tkE T tk.length (skP T p)) := by
          rw [ht, List.append_assoc]
          show tk ++ (_ :: (if _ then [] else _)) = _
          rw [if_neg (fun q => q.elim e84 e89)]
          rfl
        refine bg_iconst rfl ?_
        refine bg_goto rfl ?_
        refine bg_istore1 rfl rfl ?_
        refine bg_iinc2 rfl rfl ?_
        rw [nI_1]
        refine bg_goto rfl ?_
        first
          | exact bk_scanE (hQ h79 _ _ _ _ hKE (by rw [hst]; exact hSE) (by rw [hst]; exact hlE) gE)
          | (have hn : tk.length + 1 = (tk ++ [(tkK T tk.length (skP T p), skP T p, tkE T tk.length (skP T p))]).length := by
               rw [List.length_append]
               rfl
             rw [hn] at hst ⊢
             exact ih _ _ _ _ _ h79 (by omega) (by omega) hp2 hKE hSE hlE hst (fun h' p' rows' f' g' q1 q2 q3 q4 => hQ h' p' rows' f' g' q1 q2 q3 (gE.trans q4)) _ _)

theorem bk_scan (hK : KO h a tp T p rows f g) (hQ : ∀ h' p' rows' f' g', KO h' a tp T p' rows' f' g' → SCN T (toks T) rows' f' g' → rows'.length = (toks T).length → fr h h' a (a + 7) → Q (.inl none) h' n) : bk_wp V (d + 5) 88 [.ref a] h n B Q := by
  obtain ⟨tA, k0, k1, k2, k3, k4, ktp⟩ := id hK
  refine bg_in rfl rfl ?_
  refine bg_aload0 rfl ?_
  refine bg_getfield rfl rfl k0 (by rfl) ?_
  refine bg_virt0 rfl rfl rfl rfl (TB.o k1) ?_
  refine bt_clear k1 (fun hA kA gA => bk_Kv ?_)
  have hKA := hK.r kA gA
  obtain ⟨tA, k0, k1, k2, k3, k4, ktp⟩ := id hKA
  refine bg_aload0 rfl ?_
  refine bg_iconst rfl ?_
  refine bg_putfield rfl rfl k0 (by rfl) ⟨rfl, rfl⟩ (by rfl) (fun h9 f9 g9 => ?_)
  have hKB : KO h9 a tp T 0 [] f g := hKA.p f9 g9
  refine bg_iconst rfl ?_
  refine bg_istore1 rfl rfl ?_
  refine bg_iconst rfl ?_
  refine bg_istore2 rfl rfl ?_
  exact bk_scanL 401 [] 0 [] f g h9 rfl (by decide) (by decide) hKB (fun j t ht => nomatch ht) rfl rfl (fun h' p' rows' f' g' q1 q2 q3 q4 => hQ h' p' rows' f' g' q1 q2 q3 (((gA.wide (by omega) (by omega)).trans ((fr.one g9).wide (by omega) (by omega))).trans q4)) _ _
def kiF (f : Nat → Int32) (x : Int32) : Int32 := if ¬ x < 0 ∧ x < 401 then f x.toNatClampNeg else 0
theorem kiF_n {f : Nat → Int32} {i : Nat} (hi : i < 401) : kiF f (nI i) = f i := by
  unfold kiF
  rw [if_pos ⟨nI_pos (by omega), nI_lt (b := 401) hi (by decide)⟩, nI_clamp (by omega)]
theorem bk_size (hK : KO h a tp T p rows f g) (hQ : Q (.inl (some (.int (nI rows.length)))) h n) : bk_wp V (d + 2) 82 [.ref a] h n B Q := by
  obtain ⟨tA, k0, k1, k2, k3, k4, ktp⟩ := id hK
  refine bg_in rfl rfl ?_
  refine bg_aload0 rfl ?_
  refine bg_getfield rfl rfl k0 (by rfl) ?_
  refine bg_virt0 rfl rfl rfl rfl (TB.o k1) ?_
  refine bt_size k1 (bk_Ki ?_)
  refine bg_iret rfl rfl (by rfl) ?_
  exact hQ
theorem bk_kind {x : Int32} (hK : KO h a tp T p rows f g) (hQ : Q (.inl (some (.int (kiF f x)))) h n) : bk_wp V (d + 1) 83 [.ref a, .int x] h n B Q := by
  obtain ⟨tA, k0, k1, k2, k3, k4, ktp⟩ := id hK
  unfold kiF at hQ
  refine bg_in rfl rfl ?_
  refine bg_iload1 rfl ?_
  refine bg_if_lt rfl (fun e1 => ?_) (fun e1 => ?_)
  · rw [if_neg (fun q => q.1 e1)] at hQ
    refine bg_iconst rfl ?_
    refine bg_iret rfl rfl (by rfl) ?_
    exact hQ
  · refine bg_iload1 rfl ?_
    refine bg_aload0 rfl ?_
    refine bg_getfield rfl rfl k0 (by rfl) ?_
    refine bg_alen rfl k2 (by decide) ?_
    refine bg_icmp_ge rfl (fun e10 => ?_) (fun e10 => ?_)
    · rw [if_neg (fun q => e10 q.2)] at hQ
      refine bg_iconst rfl ?_
      refine bg_iret rfl rfl (by rfl) ?_
      exact hQ
    · rw [if_pos ⟨e1, e10⟩] at hQ
      have hv : vp_in x 401 := fun q => q.elim e1 (fun z => by
        obtain ⟨j, hj, rfl⟩ := nI_of e1
        rw [nI_clamp hj] at z
        exact nI_nlt z hj e10)
      refine bg_aload0 rfl ?_
      refine bg_getfield rfl rfl k0 (by rfl) ?_
      refine bg_iload1 rfl ?_
      refine bg_iaload rfl k2 hv ?_
      refine bg_goto rfl ?_
      refine bg_iret rfl rfl (by rfl) ?_
      exact hQ
theorem bk_code {i : Nat} (hi : i < 401) (hK : KO h a tp T p rows f g) (hQ : Q (.inl (some (.long (g i)))) h n) : bk_wp V (d + 1) 87 [.ref a, .int (nI i)] h n B Q := by
  obtain ⟨tA, k0, k1, k2, k3, k4, ktp⟩ := id hK
  refine bg_in rfl rfl ?_
  refine bg_iload1 rfl ?_
  refine bg_if_lt rfl (fun e1 => absurd e1 (nI_pos (by omega))) (fun e1 => ?_)
  refine bg_iload1 rfl ?_
  refine bg_aload0 rfl ?_
  refine bg_getfield rfl rfl k0 (by rfl) ?_
  refine bg_alen rfl k3 (by decide) ?_
  refine bg_icmp_ge rfl (fun e10 => absurd (nI_lt (by omega) (by omega)) e10) (fun e10 => ?_)
  refine bg_aload0 rfl ?_
  refine bg_getfield rfl rfl k0 (by rfl) ?_
  refine bg_iload1 rfl ?_
  refine bg_laload rfl k3 (vp_in_nI hi (by omega)) ?_
  rw [nI_clamp (by omega)]
  refine bg_goto rfl ?_
  refine bg_lret rfl rfl ?_
  exact hQ
theorem bk_start {x : Int32} (hK : KO h a tp T p rows f g) (hQ : Q (.inl (some (.int (rG rows x 0)))) h n) : bk_wp V (d + 2) 84 [.ref a, .int x] h n B Q := by
  obtain ⟨tA, k0, k1, k2, k3, k4, ktp⟩ := id hK
  refine bg_in rfl rfl ?_
  refine bg_aload0 rfl ?_
  refine bg_getfield rfl rfl k0 (by rfl) ?_
  refine bg_iload1 rfl ?_
  refine bg_iconst rfl ?_
  refine bg_virt2 rfl rfl rfl rfl (TB.o k1) ?_
  refine bt_get k1 rfl (by decide) (bk_Ki ?_)
  refine bg_iret rfl rfl (by rfl) ?_
  exact hQ
theorem bk_value {x : Int32} (hK : KO h a tp T p rows f g) (hQ : Q (.inl (some (.int (rG rows x 1)))) h n) : bk_wp V (d + 2) 85 [.ref a, .int x] h n B Q := by
  obtain ⟨tA, k0, k1, k2, k3, k4, ktp⟩ := id hK
  refine bg_in rfl rfl ?_
  refine bg_aload0 rfl ?_
  refine bg_getfield rfl rfl k0 (by rfl) ?_
  refine bg_iload1 rfl ?_
  refine bg_iconst rfl ?_
  refine bg_virt2 rfl rfl rfl rfl (TB.o k1) ?_
  refine bt_get k1 rfl (by decide) (bk_Ki ?_)
  refine bg_iret rfl rfl (by rfl) ?_
  exact hQ
theorem bk_setV {x v : Int32} (hK : KO h a tp T p rows f g) (hQ : ∀ h', KO h' a tp T p (rS rows x 1 v) f g → fr h h' a (a + 7) → Q (.inl none) h' n) : bk_wp V (d + 2) 86 [.ref a, .int x, .int v] h n B Q := by
  obtain ⟨tA, k0, k1, k2, k3, k4, ktp⟩ := id hK
  refine bg_in rfl rfl ?_
  refine bg_aload0 rfl ?_
  refine bg_getfield rfl rfl k0 (by rfl) ?_
  refine bg_iload1 rfl ?_
  refine bg_iconst rfl ?_
  refine bg_iload2 rfl ?_
  refine bg_virt3 rfl rfl rfl rfl (TB.o k1) ?_
  refine bt_set k1 rfl (by decide) (fun hA kA gA => bk_Kv ?_)
  refine bg_ret rfl rfl ?_
  exact hQ hA (hK.r kA gA) (gA.wide (by omega) (by omega))
end BK
