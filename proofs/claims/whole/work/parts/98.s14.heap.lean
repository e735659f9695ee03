/-! ONE STEP AT THE MACHINE: fields, arrays, statics, constants, new cells. -/
section BKH
variable {p : Program} {l : Launch} {e : Env} {R : Room} {s : State} {m : MethodId} {args : Array Value} {below : List Frame} {meth : Method} {c : Code} {Z : State → Prop} {V : bk_V} {N0 : Nat} {H00 : Heap} {D : va_G} {τ : Nat → ClassId} {C : bk_P} {j : Nat} {B : Nat × Nat} {Q : bk_R → bk_H → Nat → Prop}
theorem bk_VS {H : Heap} {h : bk_H} {n : Nat} {locs : List Loc} (h0 : H00.size = N0) (r : bk_Rl N0 H00 D τ h n H) (hlo : ∀ z ∈ locs, N0 ≤ z.base) : va_S (fun q => N0 ≤ q) H00 H locs :=
  ⟨by rw [h0, r.1]; exact r.2.1, fun q hq _ => r.2.2.1 q (by rw [h0] at hq; exact hq), hlo⟩
theorem bk_VS2 {H : Heap} {h : bk_H} {n : Nat} {locs : List Loc} (h0 : N0 ≤ s.heap.size ∧ ∀ q : Nat, q < N0 → s.heap[q]? = H00[q]?) (hz : s.heap.size ≤ H.size) (r : bk_Rl N0 H00 D τ h n H) (hlo : ∀ z ∈ locs, N0 ≤ z.base) : va_S (fun q => N0 ≤ q) s.heap H locs :=
  ⟨hz, fun q _ hq => by
    have hq : q < N0 := Nat.not_le.mp hq
    rw [r.2.2.1 q hq, h0.2 q hq], hlo⟩
/-- a field's facts -/
theorem bk_cF_sp {own ix ci k pos : Nat} (h : bk_fld own ix = some (ci, k, pos)) : ∃ (C : String) (T : u_T) (N : Nat), bk_cls[ci]? = some (C, T, N) ∧ k < N ∧ (∀ w ∈ u_ws C T N, w ∈ lw_G) ∧
    (Cond.fieldLink (bk_rn own) ix (T k).1 (T k).2.1 (T k).2.2.1 ∈ lw_G ∨ Cond.fieldLinkNest (bk_rn own) ix (T k).1 (T k).2.1 (T k).2.2.1 "BarkMakersModel" ∈ lw_tbl) := by
  have h1 := bk_fld_ok own ix _ h
  unfold bk_cF at h1
  dsimp only at h1
  split at h1
  · rename_i C T N hc
    obtain ⟨h2, h3⟩ := Bool.and_eq_true_iff.mp h1
    refine ⟨C, T, N, hc, of_decide_eq_true h2, (bk_lc_ok hc).1, ?_⟩
    rcases Bool.or_eq_true_iff.mp h3 with h3 | h3
    · exact Or.inl (bk_inG h3)
    · exact Or.inr (bk_inT h3)
  · cases h1
theorem bk_a_getfield {ix : Nat} (K : bk_Cx p l e R s m args below meth c Z V N0 H00 D τ B j) : bk_Ok p l e R s m args below meth c Z V N0 H00 D τ B C j Q (.getfield ix) := by
  intro pc nx sw k L st h n cs hi h1 H ls locs hL hl hR hlo c1 c2
  obtain ⟨hx, hb, hml, hown, hts, hB, -⟩ := K
  have ok := (bk_okI hi).1
  simp only [bk_s1, hi] at h1
  obtain ⟨d, rfl⟩ := bk_dk_sp (show bk_dk (bk_cc j) pc (.getfield ix) 3 nx = true from ok)
  split at h1
  · split at h1
    · rename_i a r ci kf pos hf
      obtain ⟨fs, v, g1, g2, g3⟩ := h1
      obtain ⟨C', T, N, hc, hk, hin, hlk⟩ := bk_cF_sp hf
      have hP := (hR.at g1).2
      rcases hlk with hlk | hlk
      · exact va_get (C := C') (T := T) (N := N) (ci := ci) (ref := (T kf).1) hx hb hts hin hown hB.1 hP 0 rfl hc kf hk (hts _ hlk) (fun x q => q) g2 d (g3 H ls locs hL hl hR hlo c1 c2)
      · exact va_getN (C := C') (T := T) (N := N) (ci := ci) (ref := (T kf).1) (host := "BarkMakersModel") hx hb hts hin hown hB.1 hP 0 rfl hc kf hk (va_Nw.use rfl (hB.2.2.2.2.2.2.2.2.2.2.1 _ _ _ _ _ _ hlk)) (fun x q => q) g2 d (g3 H ls locs hL hl hR hlo c1 c2)
    · exact h1.elim
  · exact h1.elim
theorem bk_putR {h : bk_H} {n : Nat} {H H1 : Heap} {a ci k : Nat} {C' : String} {T : u_T} {N : Nat} {fs : List Value} {v : Value} {cell : Cell} (hR : bk_Rl N0 H00 D τ h n H) (hc : bk_cls[ci]? = some (C', T, N)) (ha : N0 ≤ a) (q2 : cell.cls = D.1 ci) (q3 : cell.vm = .none)
    (q4 : ∀ k, k < N → cell.slots[D.2 ci k]? = some (vp_V fs k)) (hap : ∀ x y, x < N → y < N → x ≠ y → D.2 ci x ≠ D.2 ci y) (hk : k < N) (hl : k < fs.length)
    (e1 : H1[a]? = some (cell.setSlot (D.2 ci k) v)) (e2 : H1.size = H.size) (e3 : ∀ q, q ≠ a → H1[q]? = H[q]?) : bk_Rl N0 H00 D τ (bk_up h a (.inr (ci, fs.set k v))) n H1 := by
  refine hR.put ha e2 e3 ?_
  exact ⟨_, hc, t_OB.to (V := updV (vp_V fs) k v) ⟨_, e1, q2, q3, t_set q4 hap hk v⟩ (fun j _ => vp_updV_set hl v j)⟩
theorem bk_a_putfield {ix : Nat} (K : bk_Cx p l e R s m args below meth c Z V N0 H00 D τ B j) : bk_Ok p l e R s m args below meth c Z V N0 H00 D τ B C j Q (.putfield ix) := by
  intro pc nx sw k L st h n cs hi h1 H ls locs hL hl hR hlo c1 c2
  obtain ⟨hx, hb, hml, hown, hts, hB, -, -, -, -, -, -, hini⟩ := K
  obtain ⟨ok, xt⟩ := bk_okI hi
  simp only [bk_s1, hi] at h1
  obtain ⟨d, rfl⟩ := bk_dk_sp (show bk_dk (bk_cc j) pc (.putfield ix) 3 nx = true from ok)
  split at h1
  · split at h1
    · rename_i v a r _ ci kf pos hf
      obtain ⟨fs, g1, g2, ⟨g3, g4⟩, g5⟩ := h1
      obtain ⟨C', T, N, hc, hk, hin, hlk⟩ := bk_cF_sp hf
      obtain ⟨ha, hP⟩ := hR.at g1
      obtain ⟨hty, hnm, -, -, -⟩ := bk_cls_ty ci _ hc
      have hK := hB.1
      have hap := va_apart (own := bk_rn (bk_own j)) hts hin (bk_fty ci) hty hnm hK hc
      obtain ⟨r0, h2, cell, q1, q2, q3, q4⟩ := hP 0 _ rfl
      have hr : r0 = (C', T, N) := Option.some.inj (h2.symm.trans hc)
      subst hr
      obtain ⟨hS, hfc, kC, hkC, hkind⟩ := hK.1 ci _ hc
      obtain ⟨cf, kf0, fi, f, hi0, hsl⟩ := hS kf hk
      have hst := (u_facts hfc hkC (u_lays hts hin hk) hi0).1
      have hd := hty kf hk
      have hlt : f.slot < cell.slots.size := by rw [hsl]; exact k2_hasslot (q4 kf hk)
      have hgo : ∀ H' : Heap, H'[a]? = some (cell.setSlot f.slot v) → H'.size = H.size → (∀ q, q ≠ a → H'[q]? = H[q]?) → W p l e R s m args below meth c H' (locs ++ [⟨a, f.slot⟩]) cs.1 cs.2 Z (F0 m (pc + 3) ls r) := by
        intro H' e1 e2 e3
        rw [hsl] at e1
        refine g5 H' ls _ hL hl (bk_putR hR hc ha q2 q3 q4 hap hk g2 e1 e2 e3) ?_ c1 c2
        intro z hz
        rcases List.mem_append.mp hz with hz | hz
        · exact hlo z hz
        · rw [List.mem_singleton.mp hz]
          exact ha
      have hlay := hts _ (hin _ (u_in_lay hk))
      cases hfin : (T kf).2.2.2 with
      | false =>
        unfold u_lay at hlay
        rw [if_neg (by rw [hfin]; decide)] at hlay
        have h6 := u_store hfc hkC hkind hlay hi0 hd g3 g4
        rcases hlk with hlk | hlk
        · exact W.putK hx hb (f := f) ⟨hown, hts _ hlk, ⟨_, _, _, hi0⟩, hst⟩ (by rw [q2]; exact h6) q1 q3 hlt rfl rfl d hgo
        · exact va_WputK hx hb (f := f) hown (va_Nw.use rfl (hB.2.2.2.2.2.2.2.2.2.2.1 _ _ _ _ _ _ hlk)) hi0 hst (by rw [q2]; exact h6) q1 q3 hlt rfl rfl d hgo
      | true =>
        unfold u_lay at hlay
        rw [if_pos hfin] at hlay
        have h6 := u_fits hfc hkC hkind (Or.inr hlay) hi0 hd g3 g4
        unfold bk_xt at xt
        dsimp only at xt
        rw [show bk_fld (bk_m j).2.2.2.2.2.2.1 ix = some (ci, kf, pos) from hf] at xt
        dsimp only at xt
        rw [hc] at xt
        dsimp only at xt
        rw [hfin] at xt
        simp only [Bool.not_true, Bool.false_or, Bool.and_eq_true, beq_iff_eq] at xt
        obtain ⟨⟨x1, x2⟩, x3⟩ := xt
        have hcf : m.cls = cf := by
          obtain ⟨_, _, c', _, _, _, -, -, hf', -, -, -, hown2, -⟩ := Cond.laysFinal_spec hlay
          have e1 : c' = cf := by have := hi0.symm.trans hf'; simp at this; exact this.1.symm
          rw [x2] at hown2
          rw [← e1]; exact Option.some.inj (hown.symm.trans hown2)
        have hG := bk_fld_own _ _ _ hf
        unfold bk_cG at hG
        dsimp only at hG
        rw [hc] at hG
        dsimp only at hG
        have x2' : ((T kf).1 == bk_rn (bk_own j)) = true := beq_iff_eq.mpr x2
        rw [x2', Bool.not_true, Bool.false_or] at hG
        exact W.putFinK hx hb hown (hts _ (bk_inG hG)) hi0 hst hcf (hini x1) (by rw [q2]; exact h6) q1 q3 hlt rfl rfl d hgo
    · exact h1.elim
  · exact h1.elim

theorem bk_gs {j pc ix nx : Nat} {sw : List (Int32 × Nat)} {k : Int32} (h : bk_ins j pc = some (.getstatic ix, nx, sw, k)) : Cond.fieldLink (bk_rn (bk_own j)) ix "BarkMakersModel" "WORDS" "[Ljava/lang/String;" ∈ lw_G := by
  have h1 := bk_c3_ok h
  unfold bk_c3 at h1
  rw [show (bk_m j).1 pc = some (.getstatic ix, nx, sw, k) from h] at h1
  exact List.mem_filter.mpr ⟨bk_has_in h1, rfl⟩
theorem bk_byte {x : Int32} (h : fits .byte (.int x) = true) : x.toInt8.toInt32 = x := by
  obtain ⟨h1, h2⟩ := Bool.and_eq_true_iff.mp (show (decide ((-128 : Int32) ≤ x) && decide (x ≤ 127)) = true from h)
  have h1 := Int32.le_iff_toInt_le.mp (of_decide_eq_true h1)
  have h2 := Int32.le_iff_toInt_le.mp (of_decide_eq_true h2)
  rw [show (-128 : Int32).toInt = -128 from rfl] at h1
  rw [show (127 : Int32).toInt = 127 from rfl] at h2
  apply Int32.toInt_inj.mp
  rw [Int8.toInt_toInt32, Int32.toInt_toInt8, Int.bmod_def]
  split <;> omega
theorem bk_a_getstatic {ix : Nat} (K : bk_Cx p l e R s m args below meth c Z V N0 H00 D τ B j) : bk_Ok p l e R s m args below meth c Z V N0 H00 D τ B C j Q (.getstatic ix) := by
  intro pc nx sw k L st h n cs hi h1 H ls locs hL hl hR hlo c1 c2
  obtain ⟨hx, hb, hml, hown, hts, hB, -, -, hs0, -⟩ := K
  have ok := (bk_okI hi).1
  have h9 := bk_gs hi
  simp only [bk_s1, hi] at h1
  obtain ⟨d, rfl⟩ := bk_dk_sp (show bk_dk (bk_cc j) pc (.getstatic ix) 3 nx = true from ok)
  refine bk_grow fun hz => ?_
  exact va_gets hx hb (hB.2.2.2.2.1.kept (H1 := s.heap) fun a ha hn => hs0.2 a (by rw [hB.2.1] at ha; exact ha)) (bk_VS2 hs0 hz hR hlo) hown (hts _ h9) (fun x q => q) d (h1 H ls locs hL hl hR hlo c1 c2)
theorem bk_a_ldc {ix : Nat} (K : bk_Cx p l e R s m args below meth c Z V N0 H00 D τ B j) : bk_Ok p l e R s m args below meth c Z V N0 H00 D τ B C j Q (.ldc ix) := by
  intro pc nx sw k L st h n cs hi h1 H ls locs hL hl hR hlo c1 c2
  obtain ⟨hx, hb, hml, hown, hts, hB, -⟩ := K
  have ok := (bk_okI hi).1
  simp only [bk_s1, hi] at h1
  obtain ⟨d, rfl⟩ := bk_dk_sp (show bk_dk (bk_cc j) pc (.ldc ix) 2 nx = true from ok)
  split at h1
  · rename_i kk pos hf
    exact va_ldcS hx hb hown (hB.2.2.2.2.2.2.2.2.1 _ _ _ _ hf) d (h1 H ls locs hL hl hR hlo c1 c2)
  · exact h1.elim
theorem bk_a_ldc2 {ix : Nat} (K : bk_Cx p l e R s m args below meth c Z V N0 H00 D τ B j) : bk_Ok p l e R s m args below meth c Z V N0 H00 D τ B C j Q (.ldc2_w ix) := by
  intro pc nx sw k L st h n cs hi h1 H ls locs hL hl hR hlo c1 c2
  obtain ⟨hx, hb, hml, hown, hts, hB, -⟩ := K
  have ok := (bk_okI hi).1
  simp only [bk_s1, hi] at h1
  obtain ⟨d, rfl⟩ := bk_dk_sp (show bk_dk (bk_cc j) pc (.ldc2_w ix) 3 nx = true from ok)
  split at h1
  · rename_i v pos hf
    exact lv_ldc2 hx hb hown (hts _ (bk_inG (bk_lng_ok _ _ _ hf))) d (h1 H ls locs hL hl hR hlo c1 c2)
  · exact h1.elim
theorem bk_a_iaload (K : bk_Cx p l e R s m args below meth c Z V N0 H00 D τ B j) : bk_Ok p l e R s m args below meth c Z V N0 H00 D τ B C j Q .iaload := by
  intro pc nx sw k L st h n cs hi h1 H ls locs hL hl hR hlo c1 c2
  obtain ⟨hx, hb, hml, hown, hts, hB, -⟩ := K
  have ok := (bk_okI hi).1
  simp only [bk_s1, hi] at h1
  obtain ⟨d, rfl⟩ := bk_dk_sp (show bk_dk (bk_cc j) pc .iaload 1 nx = true from ok)
  split at h1
  · rcases h1 with ⟨m0, f, g1, g2, g3⟩ | ⟨rfl, g2, g3⟩
    · exact va_iald hx hb hB.1 (hR.at g1).2 0 0 rfl rfl g2 d (g3 H ls locs hL hl hR hlo c1 c2)
    · exact va_sld hx hb hB.2.2.1 (by rw [hB.2.1]; exact hB.2.2.2.1) (A := fun q => N0 ≤ q) (fun q => absurd hB.2.2.2.1 (Nat.not_lt.mpr q)) (bk_VS hB.2.1 hR hlo) g2 d (g3 H ls locs hL hl hR hlo c1 c2)
  · exact h1.elim
theorem bk_a_baload (K : bk_Cx p l e R s m args below meth c Z V N0 H00 D τ B j) : bk_Ok p l e R s m args below meth c Z V N0 H00 D τ B C j Q .baload := by
  intro pc nx sw k L st h n cs hi h1 H ls locs hL hl hR hlo c1 c2
  obtain ⟨hx, hb, hml, hown, hts, hB, -⟩ := K
  have ok := (bk_okI hi).1
  simp only [bk_s1, hi] at h1
  obtain ⟨d, rfl⟩ := bk_dk_sp (show bk_dk (bk_cc j) pc .baload 1 nx = true from ok)
  split at h1
  · obtain ⟨m0, f, g1, g2, g3⟩ := h1
    exact va_bald hx hb hB.1 (hR.at g1).2 0 2 rfl rfl g2 d (g3 H ls locs hL hl hR hlo c1 c2)
  · exact h1.elim
theorem bk_a_laload (K : bk_Cx p l e R s m args below meth c Z V N0 H00 D τ B j) : bk_Ok p l e R s m args below meth c Z V N0 H00 D τ B C j Q .laload := by
  intro pc nx sw k L st h n cs hi h1 H ls locs hL hl hR hlo c1 c2
  obtain ⟨hx, hb, hml, hown, hts, hB, -⟩ := K
  have ok := (bk_okI hi).1
  simp only [bk_s1, hi] at h1
  obtain ⟨d, rfl⟩ := bk_dk_sp (show bk_dk (bk_cc j) pc .laload 1 nx = true from ok)
  split at h1
  · obtain ⟨m0, f, g1, g2, g3⟩ := h1
    exact va_lald hx hb hB.1 (hR.at g1).2 0 1 rfl rfl g2 d (g3 H ls locs hL hl hR hlo c1 c2)
  · exact h1.elim
theorem bk_a_aaload (K : bk_Cx p l e R s m args below meth c Z V N0 H00 D τ B j) : bk_Ok p l e R s m args below meth c Z V N0 H00 D τ B C j Q .aaload := by
  intro pc nx sw k L st h n cs hi h1 H ls locs hL hl hR hlo c1 c2
  obtain ⟨hx, hb, hml, hown, hts, hB, -, -, hs0, -⟩ := K
  have ok := (bk_okI hi).1
  simp only [bk_s1, hi] at h1
  obtain ⟨d, rfl⟩ := bk_dk_sp (show bk_dk (bk_cc j) pc .aaload 1 nx = true from ok)
  split at h1
  · obtain ⟨rfl, g2, g3⟩ := h1
    refine bk_grow fun hz => ?_
    exact vb_tq hx hb (hB.2.2.2.2.2.1.kept (H1 := s.heap) fun a ha hn => hs0.2 a (by rw [hB.2.1] at ha; exact ha)) (bk_VS2 hs0 hz hR hlo) g2 rfl d (g3 H ls locs hL hl hR hlo c1 c2)
  · exact h1.elim
theorem bk_a_alen (K : bk_Cx p l e R s m args below meth c Z V N0 H00 D τ B j) : bk_Ok p l e R s m args below meth c Z V N0 H00 D τ B C j Q .arraylength := by
  intro pc nx sw k L st h n cs hi h1 H ls locs hL hl hR hlo c1 c2
  obtain ⟨hx, hb, hml, hown, hts, hB, -, -, hs0, -⟩ := K
  have ok := (bk_okI hi).1
  simp only [bk_s1, hi] at h1
  obtain ⟨d, rfl⟩ := bk_dk_sp (show bk_dk (bk_cc j) pc .arraylength 1 nx = true from ok)
  split at h1
  · rcases h1 with ⟨t, x, g1, g2, g3⟩ | ⟨rfl, g3⟩ | ⟨rfl, g3⟩
    · have hP := (hR.at g1).2
      rcases t with _ | _ | _ | t
      · exact va_alen hx hb hB.1 hP 0 0 rfl rfl rfl d (g3 H ls locs hL hl hR hlo c1 c2)
      · exact va_alen hx hb hB.1 hP 0 1 rfl rfl rfl d (g3 H ls locs hL hl hR hlo c1 c2)
      · exact va_alen hx hb hB.1 hP 0 2 rfl rfl rfl d (g3 H ls locs hL hl hR hlo c1 c2)
      · exact absurd g2 (by omega)
    · exact va_slen hx hb hB.2.2.1 (by rw [hB.2.1]; exact hB.2.2.2.1) (A := fun q => N0 ≤ q) (fun q => absurd hB.2.2.2.1 (Nat.not_lt.mpr q)) (bk_VS hB.2.1 hR hlo) d (g3 H ls locs hL hl hR hlo c1 c2)
    · refine bk_grow fun hz => ?_
      exact va_tlen hx hb (hB.2.2.2.2.2.1.kept (H1 := s.heap) fun a ha hn => hs0.2 a (by rw [hB.2.1] at ha; exact ha)) (bk_VS2 hs0 hz hR hlo) rfl d (g3 H ls locs hL hl hR hlo c1 c2)
  · exact h1.elim
theorem bk_app1 {locs : List Loc} {a k : Nat} (hlo : ∀ z ∈ locs, N0 ≤ z.base) (ha : N0 ≤ a) : ∀ z ∈ locs ++ [⟨a, k⟩], N0 ≤ z.base := by
  intro z hz
  rcases List.mem_append.mp hz with hz | hz
  · exact hlo z hz
  · rw [List.mem_singleton.mp hz]
    exact ha
theorem bk_a_iastore (K : bk_Cx p l e R s m args below meth c Z V N0 H00 D τ B j) : bk_Ok p l e R s m args below meth c Z V N0 H00 D τ B C j Q .iastore := by
  intro pc nx sw k L st h n cs hi h1 H ls locs hL hl hR hlo c1 c2
  obtain ⟨hx, hb, hml, hown, hts, hB, -⟩ := K
  have ok := (bk_okI hi).1
  simp only [bk_s1, hi] at h1
  obtain ⟨d, rfl⟩ := bk_dk_sp (show bk_dk (bk_cc j) pc .iastore 1 nx = true from ok)
  split at h1
  · rename_i x i a r
    obtain ⟨m0, f, g1, g2, g3⟩ := h1
    obtain ⟨ha, hP⟩ := hR.at g1
    refine W.iast hx hb (hP 0 _ rfl) ((hB.1.2 0 _ rfl).1 m0 (fun j => .int (f j))) (fun q => by cases q) (by show ¬ (i < 0 ∨ (arrV _ _ _).slots.size ≤ _); rw [arrV_size]; exact g2) rfl rfl d fun H1 e1 z oq => ?_
    refine g3 H1 ls _ hL hl (hR.put ha z oq ?_) (bk_app1 hlo ha) c1 c2
    show H1[a]? = some (vp_cell _ _)
    rw [e1]
    rw [vp_cell_i, vp_cell_i, arrV_store]
    congr 2
    funext q
    by_cases hq : q = i.toNatClampNeg
    · subst hq
      simp [updV, upd]
    · simp [updV, upd, hq]
  · exact h1.elim
theorem bk_a_bastore (K : bk_Cx p l e R s m args below meth c Z V N0 H00 D τ B j) : bk_Ok p l e R s m args below meth c Z V N0 H00 D τ B C j Q .bastore := by
  intro pc nx sw k L st h n cs hi h1 H ls locs hL hl hR hlo c1 c2
  obtain ⟨hx, hb, hml, hown, hts, hB, -⟩ := K
  have ok := (bk_okI hi).1
  simp only [bk_s1, hi] at h1
  obtain ⟨d, rfl⟩ := bk_dk_sp (show bk_dk (bk_cc j) pc .bastore 1 nx = true from ok)
  split at h1
  · rename_i x i a r
    obtain ⟨m0, f, g1, g2, g4, g3⟩ := h1
    obtain ⟨ha, hP⟩ := hR.at g1
    have hx8 : x.toInt8.toInt32 = x := bk_byte g4
    refine W.bast hx hb (hP 0 _ rfl) ((hB.1.2 2 _ rfl).1 m0 (fun j => .int (f j))) (fun q => by cases q) (by show ¬ (i < 0 ∨ (arrV _ _ _).slots.size ≤ _); rw [arrV_size]; exact g2) rfl rfl d fun H1 e1 z oq => ?_
    refine g3 H1 ls _ hL hl (hR.put ha z oq ?_) (bk_app1 hlo ha) c1 c2
    show H1[a]? = some (vp_cell _ _)
    rw [e1, narrow_byte, hx8]
    rw [vp_cell_i, vp_cell_i, arrV_store]
    congr 2
    funext q
    by_cases hq : q = i.toNatClampNeg
    · subst hq
      simp [updV, upd]
    · simp [updV, upd, hq]
  · exact h1.elim
theorem bk_a_lastore (K : bk_Cx p l e R s m args below meth c Z V N0 H00 D τ B j) : bk_Ok p l e R s m args below meth c Z V N0 H00 D τ B C j Q .lastore := by
  intro pc nx sw k L st h n cs hi h1 H ls locs hL hl hR hlo c1 c2
  obtain ⟨hx, hb, hml, hown, hts, hB, -⟩ := K
  have ok := (bk_okI hi).1
  simp only [bk_s1, hi] at h1
  obtain ⟨d, rfl⟩ := bk_dk_sp (show bk_dk (bk_cc j) pc .lastore 1 nx = true from ok)
  split at h1
  · rename_i x i a r
    obtain ⟨m0, f, g1, g2, g3⟩ := h1
    obtain ⟨ha, hP⟩ := hR.at g1
    refine W.last hx hb (hP 0 _ rfl) ((hB.1.2 1 _ rfl).1 m0 (fun j => .long (f j))) (fun q => by cases q) (by show ¬ (i < 0 ∨ (arrV _ _ _).slots.size ≤ _); rw [arrV_size]; exact g2) rfl rfl d fun H1 e1 z oq => ?_
    refine g3 H1 ls _ hL hl (hR.put ha z oq ?_) (bk_app1 hlo ha) c1 c2
    show H1[a]? = some (vp_cell _ _)
    rw [e1]
    rw [vp_cell_l, vp_cell_l, arrV_store]
    congr 2
    funext q
    by_cases hq : q = i.toNatClampNeg
    · subst hq
      simp [updV, vp_updL]
    · simp [updV, vp_updL, hq]
  · exact h1.elim
end BKH
