/-! THE START: what the Statement gives of it. Printed by wip/whole/mkstart.py. -/
def sk_gv : List Cond := flatC (Jvm.Cond.and given_1 narrow_1)
theorem sk_mem {i : Nat} {w : Cond} (h : decide (sk_gv[i]? = some w) = true) : w ∈ sk_gv := List.mem_of_getElem? (of_decide_eq_true h)
/-- a literal's class and entry; the term; where the start speaks of it -/
def sk_o : Nat → Nat × Nat := fun k => ([(9, 47), (9, 118), (13, 423), (13, 425), (13, 426), (13, 427), (13, 429), (13, 430), (13, 431), (13, 432), (13, 433), (13, 434), (13, 435), (13, 437), (13, 439), (13, 441), (13, 443), (13, 444), (13, 445), (13, 447), (13, 448), (13, 449), (13, 450), (13, 451), (13, 452), (13, 453), (13, 454), (13, 456), (13, 458), (13, 460), (13, 461)] : List (Nat × Nat)).getD k (0, 0)
def sk_t (k : Nat) : Term := .string (bk_rn (sk_o k).1) (sk_o k).2
def sk_v (k : Nat) : Term := .field (sk_t k) "java/lang/String" "value" "[B"
def sk_p : Nat → Nat := fun k => ([88, 245, 741, 749, 756, 765, 775, 783, 792, 802, 811, 819, 828, 836, 842, 850, 856, 863, 871, 879, 887, 897, 906, 916, 927, 936, 947, 954, 961, 967, 974] : List Nat).getD k 0
def sk_w (k : Nat) : List Cond := .exactly (sk_t k) "java/lang/String" :: .eq (.field (sk_t k) "java/lang/String" "coder" "B") (.int 0) :: .arrayOf (sk_v k) .byte :: .eq (.length (sk_v k)) (.int (Int32.ofNat (bk_sB k).length)) :: (List.range (bk_sB k).length).map (fun j => .eq (.elem (sk_v k) (.int (Int32.ofNat j))) (.int ((bk_sB k).getD j 0)))
def sk_e (k : Nat) : Bool := decide ((sk_gv.drop (sk_p k)).take (sk_w k).length = sk_w k)
theorem sk_all : (List.range 31).all sk_e = true := by decide +kernel
theorem sk_ws {k : Nat} (hk : k < 31) {w : Cond} (hw : w ∈ sk_w k) : w ∈ sk_gv := by
  have h := of_decide_eq_true (List.all_eq_true.mp sk_all k (List.mem_range.mpr hk))
  rw [← h] at hw
  exact List.mem_of_mem_drop (List.mem_of_mem_take hw)
/-- the words of the reference -/
def sk_s : Term := .static "BarkMakersModel" "WORDS" "[Ljava/lang/String;"
def sk_W : List Cond := .arrayOf sk_s (.object "java/lang/String") :: .eq (.length sk_s) (.int (Int32.ofNat 29)) :: (List.range 29).map (fun j => .eq (.elem sk_s (.int (Int32.ofNat j))) (sk_t (bk_wd j)))
theorem sk_Wall : decide ((sk_gv.drop 12).take 31 = sk_W) = true := by decide +kernel
theorem sk_Ws {w : Cond} (hw : w ∈ sk_W) : w ∈ sk_gv := by
  have h := of_decide_eq_true sk_Wall
  rw [← h] at hw
  exact List.mem_of_mem_drop (List.mem_of_mem_take hw)
/-- each literal of the tables is a String -/
def sk_sr (w : Cond) : Bool := match w with
  | .stringRef o k _ => sk_gv.any (fun c => decide (c = .exactly (.string o k) "java/lang/String"))
  | _ => true
theorem sk_srs : lw_tbl.all sk_sr = true := by decide +kernel
theorem sk_srm {o tx : String} {k : Nat} (h : Cond.stringRef o k tx ∈ lw_tbl) : Cond.exactly (.string o k) "java/lang/String" ∈ sk_gv := by
  have := List.all_eq_true.mp sk_srs _ h
  obtain ⟨c, hc, e⟩ := List.any_eq_true.mp (show sk_gv.any (fun c => decide (c = .exactly (.string o k) "java/lang/String")) = true from this)
  rw [← of_decide_eq_true e]
  exact hc
/-- the first index of a word among the tables' -/
def sk_c (own ix : Nat) (e : Nat × Nat) : Bool := decide (sk_o e.1 = (own, ix)) || (Nat.beq own 13 && Nat.beq ix 105 && Nat.beq e.1 1)
theorem sk_z0 : decide (sk_gv[4]? = some (.eq (.static "java/lang/String" "COMPACT_STRINGS" "Z") (.int (1 : Int32)))) = true := by decide +kernel
theorem sk_z1 : decide (sk_gv[5]? = some (.isRef (.static "jdk/internal/util/Preconditions" "SIOOBE_FORMATTER" "Ljava/util/function/BiFunction;"))) = true := by decide +kernel
theorem sk_z2 : decide (sk_gv[9]? = some (.isRef (.static "java/lang/Throwable" "UNASSIGNED_STACK" "[Ljava/lang/StackTraceElement;"))) = true := by decide +kernel
theorem sk_z3 : decide (sk_gv[10]? = some (.isRef (.static "java/lang/Throwable" "SUPPRESSED_SENTINEL" "Ljava/util/List;"))) = true := by decide +kernel
theorem sk_z4 : decide (sk_gv[11]? = some (.isRef (.static "BarkMakersModel" "WORDS" "[Ljava/lang/String;"))) = true := by decide +kernel
theorem sk_z5 : decide (sk_gv[740]? = some (.eq (.string "BarkMakers$Tokens" (118 : Nat)) (.string "BarkMakersModel" (105 : Nat)))) = true := by decide +kernel
theorem sk_n1 : decide (sk_gv[72]? = some (.not (.castable "java/lang/IndexOutOfBoundsException" "java/lang/IllegalArgumentException"))) = true := by decide +kernel
theorem sk_n2 : decide (sk_gv[87]? = some (.not (.castable "java/lang/IllegalArgumentException" "java/lang/IndexOutOfBoundsException"))) = true := by decide +kernel
theorem sk_str_9_ok (ix : Nat) : bk_al (sk_c 9 ix) (bk_str_9 ix) := (bk_ae (bk_af (c := sk_c 9) (by decide +kernel)) (bk_af (c := sk_c 9) (by decide +kernel)))
theorem sk_str_13_ok (ix : Nat) : bk_al (sk_c 13 ix) (bk_str_13 ix) := (bk_ae (bk_ae (bk_ae (bk_ae (bk_af (c := sk_c 13) (by decide +kernel)) (bk_ae (bk_af (c := sk_c 13) (by decide +kernel)) (bk_af (c := sk_c 13) (by decide +kernel)))) (bk_ae (bk_ae (bk_af (c := sk_c 13) (by decide +kernel)) (bk_af (c := sk_c 13) (by decide +kernel))) (bk_ae (bk_af (c := sk_c 13) (by decide +kernel)) (bk_af (c := sk_c 13) (by decide +kernel))))) (bk_ae (bk_ae (bk_ae (bk_af (c := sk_c 13) (by decide +kernel)) (bk_af (c := sk_c 13) (by decide +kernel))) (bk_ae (bk_af (c := sk_c 13) (by decide +kernel)) (bk_af (c := sk_c 13) (by decide +kernel)))) (bk_ae (bk_ae (bk_af (c := sk_c 13) (by decide +kernel)) (bk_af (c := sk_c 13) (by decide +kernel))) (bk_ae (bk_af (c := sk_c 13) (by decide +kernel)) (bk_af (c := sk_c 13) (by decide +kernel)))))) (bk_ae (bk_ae (bk_ae (bk_af (c := sk_c 13) (by decide +kernel)) (bk_ae (bk_af (c := sk_c 13) (by decide +kernel)) (bk_af (c := sk_c 13) (by decide +kernel)))) (bk_ae (bk_ae (bk_af (c := sk_c 13) (by decide +kernel)) (bk_af (c := sk_c 13) (by decide +kernel))) (bk_ae (bk_af (c := sk_c 13) (by decide +kernel)) (bk_af (c := sk_c 13) (by decide +kernel))))) (bk_ae (bk_ae (bk_ae (bk_af (c := sk_c 13) (by decide +kernel)) (bk_af (c := sk_c 13) (by decide +kernel))) (bk_ae (bk_af (c := sk_c 13) (by decide +kernel)) (bk_af (c := sk_c 13) (by decide +kernel)))) (bk_ae (bk_ae (bk_af (c := sk_c 13) (by decide +kernel)) (bk_af (c := sk_c 13) (by decide +kernel))) (bk_ae (bk_af (c := sk_c 13) (by decide +kernel)) (bk_af (c := sk_c 13) (by decide +kernel)))))))
theorem sk_str_ok (own ix : Nat) : bk_al (sk_c own ix) (bk_str own ix) := (bk_ae (bk_ao (c := fun w => sk_c w ix) (sk_str_9_ok ix)) (bk_ao (c := fun w => sk_c w ix) (sk_str_13_ok ix)))
theorem sk_news (ix : Nat) : bk_al (fun e : (Nat ⊕ String) × Nat => e.1.isLeft) (bk_new_14 ix) := bk_ae (bk_af (c := fun (_ : Nat) (e : (Nat ⊕ String) × Nat) => e.1.isLeft) rfl) (bk_af (c := fun (_ : Nat) (e : (Nat ⊕ String) × Nat) => e.1.isLeft) rfl)
def sk_zc (c : Nat) : Bool := match bk_cls[c]? with
  | some (_, _, 0) => Nat.beq c 2
  | _ => true
theorem sk_za : (List.range 14).all sk_zc = true := by decide +kernel
theorem sk_zl : (List.range 31).all (fun k => Nat.ble (bk_sB k).length 1000) = true := by decide +kernel
section SK
variable {s : State} {A : Array Value}
theorem sk_hA : ∀ a : Nat, a < s.heap.size → ¬ (fun q : Nat => s.heap.size ≤ q) a := fun _ h => Nat.not_le.mpr h
theorem sk_str1 (hs : ∀ w ∈ sk_gv, w.before A s = true) {k : Nat} (hk : k < 31) : ∃ a : Nat, (sk_t k).eval A s none [] s = some (.ref a) ∧ bk_St a (bk_sB k) s.heap.size s s.heap := by
  have hw : ∀ w ∈ sk_w k, w.before A s = true := fun w h => hs w (sk_ws hk h)
  have h1 := hw _ List.mem_cons_self
  have h2 := hw _ (List.mem_cons_of_mem _ List.mem_cons_self)
  have h3 := hw _ (List.mem_cons_of_mem _ (List.mem_cons_of_mem _ List.mem_cons_self))
  have h4 := hw _ (List.mem_cons_of_mem _ (List.mem_cons_of_mem _ (List.mem_cons_of_mem _ List.mem_cons_self)))
  have h5 : ∀ j, j < (bk_sB k).length → (Cond.eq (.elem (sk_v k) (.int (Int32.ofNat j))) (.int ((bk_sB k).getD j 0))).before A s = true := fun j hj => hw _ (List.mem_cons_of_mem _ (List.mem_cons_of_mem _ (List.mem_cons_of_mem _ (List.mem_cons_of_mem _ (List.mem_map.mpr ⟨j, List.mem_range.mpr hj, rfl⟩)))))
  have hl : (bk_sB k).length < 2 ^ 31 := by
    have := Nat.le_of_ble_eq_true (List.all_eq_true.mp sk_zl k (List.mem_range.mpr hk))
    omega
  obtain ⟨a, c, cA, kA, q1, -⟩ := Cond.exactly_spec (args := A) (first := s) (o := none) (s := s) (idx := []) (t := sk_t k) (cls := "java/lang/String") h1
  obtain ⟨t, ht, hT⟩ := va_Tof (f := fun j => .int ((bk_sB k).getD j 0)) (A := fun q => s.heap.size ≤ q) hl h3 (va_eqt h4) (fun j hj => va_eqt (h5 j hj)) sk_hA
  exact ⟨a, q1, t, va_Oof h1 q1 sk_hA, vk_OFof q1 (va_eqt h2) sk_hA, vk_OFof q1 ht sk_hA, hT⟩
theorem sk_known (hts : ∀ w ∈ lw_G, w.before A s = true) (c : Nat) (q : vw_C) (h : bk_cls[c]? = some q) : ∃ (cC : ClassId) (iS : Nat → Nat), u_Kn s q.1 q.2.1 q.2.2 cC iS := by
  obtain ⟨C, T, N⟩ := q
  obtain ⟨h1, h2⟩ := bk_lc_ok h
  rcases h2 with h2 | h2
  · have hlt : c < 14 := (List.getElem?_eq_some_iff.mp h).1
    have hz := List.all_eq_true.mp sk_za c (List.mem_range.mpr hlt)
    subst h2
    unfold sk_zc at hz
    rw [h] at hz
    have hc : c = 2 := Nat.eq_of_beq_eq_true hz
    subst hc
    cases h
    obtain ⟨-, h3⟩ := bk_lc_ok (ci := 1) rfl
    rcases h3 with h3 | h3
    · exact absurd h3 (by decide)
    · exact u_known hts h1 (hts _ h3.1)
  · exact u_known hts h1 (hts _ h2.1)
theorem sk_arr {ty : FieldType} (h : (Cond.arrayClass ty).before A s = true) : ∃ cA : ClassId, ArrOfT s cA ty ∧ s.vm.findClass ("[" ++ ty.toString) = some cA := by
  obtain ⟨cA, kA, comp, h1, h2, h3⟩ := Cond.arrayClass_spec h
  exact ⟨cA, fun n z => ⟨fun k h => (by cases h), kA, h2, comp, h3⟩, h1⟩
theorem sk_base {b L : Nat} {xs : Nat → Int32} (hts : ∀ w ∈ lw_tbl, w.before A s = true) (hs : ∀ w ∈ sk_gv, w.before A s = true) (hX : va_X b L xs s s.heap) (hb : b < s.heap.size) : ∃ (V : bk_V) (D : va_G) (τ : Nat → ClassId), V.1 = b ∧ V.2.1 = L ∧ V.2.2.1 = xs ∧ bk_Bs V s.heap.size s.heap D τ s := by
  have htG : ∀ w ∈ lw_G, w.before A s = true := fun w hw => hts w (List.mem_filter.mp hw).1
  obtain ⟨ad, had⟩ : ∃ ad : Nat → Nat, ∀ k, k < 31 → (sk_t k).eval A s none [] s = some (.ref (ad k)) ∧ bk_St (ad k) (bk_sB k) s.heap.size s s.heap := by
    have h0 : ∀ k : Nat, ∃ a : Nat, k < 31 → (sk_t k).eval A s none [] s = some (.ref a) ∧ bk_St a (bk_sB k) s.heap.size s s.heap := fun k => by
      by_cases hk : k < 31
      · obtain ⟨a, h⟩ := sk_str1 hs hk
        exact ⟨a, fun _ => h⟩
      · exact ⟨0, fun h => absurd h hk⟩
    exact Classical.axiomOfChoice h0
  obtain ⟨t, ht, hT⟩ := va_Tof (tm := sk_s) (ty := .object "java/lang/String") (N := 29) (f := fun j => .ref (ad (bk_wd j))) (A := fun q => s.heap.size ≤ q) (by decide) (hs _ (sk_Ws List.mem_cons_self)) (va_eqt (hs _ (sk_Ws (List.mem_cons_of_mem _ List.mem_cons_self)))) (fun j hj => va_eqv (hs _ (sk_Ws (List.mem_cons_of_mem _ (List.mem_cons_of_mem _ (List.mem_map.mpr ⟨j, List.mem_range.mpr hj, rfl⟩))))) (had (bk_wd j) (by show j + 2 < 31; omega)).1) sk_hA
  obtain ⟨D, hD⟩ : ∃ D : va_G, ∀ (c : Nat) (q : vw_C), bk_cls[c]? = some q → u_Kn s q.1 q.2.1 q.2.2 (D.1 c) (D.2 c) := by
    have h0 : ∀ c : Nat, ∃ p : ClassId × (Nat → Nat), ∀ q : vw_C, bk_cls[c]? = some q → u_Kn s q.1 q.2.1 q.2.2 p.1 p.2 := by
      intro c
      cases h : bk_cls[c]? with
      | none =>
        obtain ⟨cC, iS, -⟩ := sk_known htG 0 _ rfl
        exact ⟨(cC, iS), fun q z => nomatch z⟩
      | some q =>
        obtain ⟨cC, iS, hk⟩ := sk_known htG c q h
        exact ⟨(cC, iS), fun q' z => by
          cases z
          exact hk⟩
    obtain ⟨F, hF⟩ := Classical.axiomOfChoice h0
    exact ⟨(fun c => (F c).1, fun c => (F c).2), fun c q h => hF c q h⟩
  obtain ⟨c0, a0, b0⟩ := sk_arr (ty := .int) (hts _ (bk_inT (i := 174) (by decide +kernel)))
  obtain ⟨c1, a1, b1⟩ := sk_arr (ty := .long) (hts _ (bk_inT (i := 189) (by decide +kernel)))
  obtain ⟨c2, a2, b2⟩ := sk_arr (ty := .byte) (hts _ (bk_inT (i := 145) (by decide +kernel)))
  refine ⟨(b, L, xs, t, ad), D, fun k => match k with
    | 0 => c0
    | 1 => c1
    | _ => c2, rfl, rfl, rfl, ⟨hD, fun k q h => ?_⟩, rfl, hX, hb, va_Zref (hts _ (bk_inT (i := 1500) (by decide +kernel))) (hts _ (bk_inT (i := 113) (by decide +kernel))) ht sk_hA, hT, vx_Zqof (hts _ (bk_inT (i := 838) (by decide +kernel))) (hts _ (bk_inT (i := 117) (by decide +kernel))) (hs _ (sk_mem sk_z2)) sk_hA, vx_Zqof (hts _ (bk_inT (i := 840) (by decide +kernel))) (hts _ (bk_inT (i := 117) (by decide +kernel))) (hs _ (sk_mem sk_z3)) sk_hA, fun own ix k pos h => ?_, fun own k tx h => ?_, fun _ _ _ _ _ _ q => va_Nw.of rfl (hts _ q), fun _ _ _ _ q => va_Nw.of rfl (hts _ q), fun _ q => va_Nw.of rfl (hts _ q), fun _ _ q => va_Nw.of rfl (hts _ q), va_Nc.of (hs _ (sk_mem sk_n1)), va_Nc.of (hs _ (sk_mem sk_n2)), va_Zof (hts _ (bk_inT (i := 200) (by decide +kernel))) (hts _ (bk_inT (i := 104) (by decide +kernel))) (va_eqi (hs _ (sk_mem sk_z0))) sk_hA, va_Zqof (hts _ (bk_inT (i := 216) (by decide +kernel))) (hts _ (bk_inT (i := 106) (by decide +kernel))) (hs _ (sk_mem sk_z1)) sk_hA, fun k hk => (had k hk).2⟩
  · match k, h with
    | 0, h => cases h; exact ⟨a0, b0⟩
    | 1, h => cases h; exact ⟨a1, b1⟩
    | 2, h => cases h; exact ⟨a2, b2⟩
    | k + 3, h => exact nomatch h
  · obtain ⟨g1, g2⟩ := Bool.and_eq_true_iff.mp (bk_str_ok own ix _ h)
    have hk : k < 31 := of_decide_eq_true g2
    refine vk_R.of (A := A) (hts _ (bk_inT g1)) ?_
    rcases Bool.or_eq_true_iff.mp (sk_str_ok own ix _ h) with e | e
    · have e : sk_o k = (own, ix) := of_decide_eq_true e
      have q := (had k hk).1
      unfold sk_t at q
      rw [e] at q
      exact q
    · obtain ⟨e, e3⟩ := Bool.and_eq_true_iff.mp e
      obtain ⟨e1, e2⟩ := Bool.and_eq_true_iff.mp e
      have e1 : own = 13 := Nat.eq_of_beq_eq_true e1
      have e2 : ix = 105 := Nat.eq_of_beq_eq_true e2
      have e3 : k = 1 := Nat.eq_of_beq_eq_true e3
      subst e1 e2 e3
      exact va_eqR (hs _ (sk_mem sk_z5)) (had 1 (by decide)).1
  · obtain ⟨a, c, cA, kA, q1, -⟩ := Cond.exactly_spec (args := A) (first := s) (o := none) (s := s) (idx := []) (t := .string own k) (cls := "java/lang/String") (hs _ (sk_srm h))
    exact ⟨a, vk_R.of (A := A) (hts _ h) q1⟩
end SK
