/-! ONE STEP AT THE MACHINE: calls. -/
section BKI
variable {p : Program} {l : Launch} {e : Env} {R : Room} {s : State} {m : MethodId} {args : Array Value} {below : List Frame} {meth : Method} {c : Code} {Z : State → Prop} {V : bk_V} {N0 : Nat} {H00 : Heap} {D : va_G} {τ : Nat → ClassId} {C : bk_P} {j : Nat} {B : Nat × Nat} {Q : bk_R → bk_H → Nat → Prop}
theorem bk_wMi : Cond.initialized "java/lang/Math" ∈ lw_G := bk_inG (i := 102) (by decide +kernel)
theorem bk_wMxs : Cond.static Lib.Math.max.name ∈ lw_G := bk_inG (i := 159) (by decide +kernel)
theorem bk_wMxc : Cond.code Lib.Math.max.name Lib.Math.max.code 2 (some .int) ∈ lw_G := bk_inG (i := 160) (by decide +kernel)
theorem bk_wMns : Cond.static Lib.Math.min.name ∈ lw_G := bk_inG (i := 561) (by decide +kernel)
theorem bk_wMnc : Cond.code Lib.Math.min.name Lib.Math.min.code 2 (some .int) ∈ lw_G := bk_inG (i := 562) (by decide +kernel)
theorem bk_wSi : Cond.initialized "java/lang/System" ∈ lw_G := bk_inG (i := 116) (by decide +kernel)
theorem bk_wAs : Cond.static arraycopyName ∈ lw_G := bk_inG (i := 1401) (by decide +kernel)
theorem bk_wAn : Cond.native arraycopyName ∈ lw_G := bk_inG (i := 1402) (by decide +kernel)
theorem bk_wOi : Cond.instanceMethod objectInit ∈ lw_G := bk_inG (i := 130) (by decide +kernel)
theorem bk_wOc : Cond.code objectInit ⟨#[0xb1]⟩ 1 none ∈ lw_G := bk_inG (i := 131) (by decide +kernel)
theorem bk_vrun {H : Heap} {locs : List Loc} {cells slots mc ms : Nat} {g : JFrame} {rest : List Value} {Qa : State → Outcome → State → Prop} {XC : String → State → State → Prop} {free : Addr → Prop} (hr : vx_Run p l e R s m args below meth c H locs cells slots mc ms g rest Qa XC free) (hX : ∀ E st t, ¬ XC E st t) : va_Run p l e R s m args below meth c H locs cells slots mc ms g rest Qa free := by
  intro T hT X
  rcases hr T hT X with h | ⟨q, st₀, t, T', L, E, ce, h0, X', hL, e1, e2, hx, _⟩
  · exact h
  · exact (hX _ _ _ hx).elim
theorem bk_lk {own ix k pos : Nat} (h : bk_cal own ix = some (0, k, pos)) : Cond.methodLink (bk_rn own) ix (bk_y k) ∈ lw_G ∨ Cond.methodLinkNest (bk_rn own) ix (bk_y k) "BarkMakersModel" ∈ lw_tbl := by
  have hc : (bk_pos pos (.methodLink (bk_rn own) ix (bk_y k)) || bk_at? pos (.methodLinkNest (bk_rn own) ix (bk_y k) "BarkMakersModel")) = true := bk_cal_ok own ix _ h
  rcases Bool.or_eq_true_iff.mp hc with hc | hc
  · exact Or.inl (bk_inG hc)
  · exact Or.inr (bk_inT hc)
theorem bk_vcS {pc ix nx k pos : Nat} {sw : List (Int32 × Nat)} {i : Int32} (h : bk_ins j pc = some (.invokestatic ix, nx, sw, i)) (hc : bk_cal (bk_own j) ix = some (0, k, pos)) : k < 246 ∧ bk_vS k = true := by
  have h1 := bk_c2_ok h
  unfold bk_c2 at h1
  rw [show (bk_m j).1 pc = some (.invokestatic ix, nx, sw, i) from h] at h1
  dsimp only at h1
  rw [show bk_cal (bk_m j).2.2.2.2.2.2.1 ix = some (0, k, pos) from hc] at h1
  obtain ⟨h2, h3⟩ := Bool.and_eq_true_iff.mp (show (Nat.blt k 246 && bk_vS k) = true from h1)
  exact ⟨bk_blt h2, h3⟩
theorem bk_vcI {pc ix nx k pos : Nat} {sw : List (Int32 × Nat)} {i : Int32} (h : bk_ins j pc = some (.invokespecial ix, nx, sw, i)) (hc : bk_cal (bk_own j) ix = some (0, k, pos)) : k < 246 ∧ bk_vI k = true := by
  have h1 := bk_c2_ok h
  unfold bk_c2 at h1
  rw [show (bk_m j).1 pc = some (.invokespecial ix, nx, sw, i) from h] at h1
  dsimp only at h1
  rw [show bk_cal (bk_m j).2.2.2.2.2.2.1 ix = some (0, k, pos) from hc] at h1
  obtain ⟨h2, h3⟩ := Bool.and_eq_true_iff.mp (show (Nat.blt k 246 && bk_vI k) = true from h1)
  exact ⟨bk_blt h2, h3⟩
theorem bk_vcV {pc ix nx k pos : Nat} {sw : List (Int32 × Nat)} {i : Int32} (h : bk_ins j pc = some (.invokevirtual ix, nx, sw, i)) (hc : bk_cal (bk_own j) ix = some (0, k, pos) ∨ bk_cal (bk_own j) ix = some (5, k, pos)) : k < 246 ∧ bk_vV k = true := by
  have h1 := bk_c2_ok h
  unfold bk_c2 at h1
  rw [show (bk_m j).1 pc = some (.invokevirtual ix, nx, sw, i) from h] at h1
  dsimp only at h1
  rcases hc with hc | hc
  · rw [show bk_cal (bk_m j).2.2.2.2.2.2.1 ix = some (0, k, pos) from hc] at h1
    obtain ⟨h2, h3⟩ := Bool.and_eq_true_iff.mp (show (Nat.blt k 246 && bk_vV k) = true from h1)
    exact ⟨bk_blt h2, h3⟩
  · rw [show bk_cal (bk_m j).2.2.2.2.2.2.1 ix = some (5, k, pos) from hc] at h1
    obtain ⟨h2, h3⟩ := Bool.and_eq_true_iff.mp (show (Nat.blt k 246 && bk_vV k) = true from h1)
    exact ⟨bk_blt h2, h3⟩
theorem bk_nfw : nativeFrameWords "java/lang/System" "arraycopy" 5 ≤ 400 := by decide +kernel
theorem bk_copy {cc : ByteArray} {H : Heap} {locs : List Loc} {cells slots pc : Nat} {ls : Array Slot} {rest : List Value} {h : bk_H} {n9 : Nat} (hexec : p.tables.exec = Jvm.exec) (hb : c.code = cc) (hml : c.maxLocals = ls.size) {own : String} {index : Nat} (hown : s.vm.findClass own = some m.cls) (hlink : (Cond.methodLink own index arraycopyName).before args s = true) (hnat : (Cond.native arraycopyName).before args s = true) (hstat : (Cond.static arraycopyName).before args s = true) (hini : (Cond.initialized "java/lang/System").before args s = true)
    (hK : va_K D bk_cls [(τ 0, .int), (τ 1, .long), (τ 2, .byte)] s) (hR : bk_Rl N0 H00 D τ h n9 H) (hlo : ∀ z ∈ locs, N0 ≤ z.base) {a0 a n0 n1 : Nat} {f g : Nat → Int32} (ha0 : h a0 = some (.inl (0, n0, .inl f))) (ha1 : h a = some (.inl (0, n1, .inl g)))
    {sp dp n : Int32} (h1 : ¬ sp < 0) (h2 : ¬ dp < 0) (h3 : ¬ n < 0) (h4 : sp.toNatClampNeg + n.toNatClampNeg ≤ n0) (h5 : dp.toNatClampNeg + n.toNatClampNeg ≤ n1)
    (hframes : 1 ≤ R.frames) (hlocals : (rest.map fun v => v.category).sum + (nativeFrameWords "java/lang/System" "arraycopy" 5 + 11) ≤ R.locals) (hdg : decode cc pc = .ok (.invokestatic index, 3))
    (kk : ∀ (H1 : Heap) (locs1 : List Loc), bk_Rl N0 H00 D τ (bk_up h a (.inl (0, n1, .inl (va_cpy f g sp.toNatClampNeg dp.toNatClampNeg n.toNatClampNeg)))) n9 H1 → (∀ z ∈ locs1, N0 ≤ z.base) → W p l e R s m args below meth c H1 locs1 cells slots Z (F0 m (pc + 3) ls rest)) : W p l e R s m args below meth c H locs cells slots Z (F0 m pc ls (.int n :: .int dp :: .ref a :: .int sp :: .ref a0 :: rest)) := by
  have nn : ∀ z : Int32, ¬ z < 0 → z.toInt = (z.toNatClampNeg : Int) := by
    intro z hz
    have hz0 : (0 : Int) ≤ z.toInt := by
      have := Int32.not_lt.mp hz
      simpa using Int32.le_iff_toInt_le.mp this
    show z.toInt = ((z.toInt.toNat : Nat) : Int)
    omega
  intro T hT X
  obtain ⟨hA, hP1⟩ := hR.at ha1
  have hc0 : H[a0]? = some (vp_cell (τ 0) (n0, .inl f)) := (hR.at ha0).2 0 _ rfl
  have hc1 : H[a]? = some (vp_cell (τ 0) (n1, .inl g)) := hP1 0 _ rfl
  obtain ⟨-, k0, hk0, cm0, hkk0⟩ := (hK.2 0 _ rfl).1 n0 (fun j => .int (f j))
  obtain ⟨-, k1, hk1, cm1, hkk1⟩ := (hK.2 0 _ rfl).1 n1 (fun j => .int (g j))
  obtain ⟨vm', X', step⟩ := X.arraycopy hexec hown hlink hnat hstat hini (src := a0) (dst := a) (cs := vp_cell (τ 0) (n0, .inl f)) (cd := vp_cell (τ 0) (n1, .inl g)) (srcPos := sp) (destPos := dp) (n := n) (by rw [hT]; exact hc0) (by rw [hT]; exact hc1)
    (fun _ h => by cases h) (fun _ h => by cases h) (fun h => by cases h) (fun h => by cases h) hk0 hk1 hkk0 hkk1 (by simp [refKind]) h1 h2 h3
    (by rw [nn sp h1, nn n h3]; show ¬ _ > ((arrV (τ 0) n0 (fun j => .int (f j))).slots.size : Int); rw [arrV_size]; omega)
    (by rw [nn dp h2, nn n h3]; show ¬ _ > ((arrV (τ 0) n1 (fun j => .int (g j))).slots.size : Int); rw [arrV_size]; omega)
    (fun vm₁ _ i hi => by
      have e : (vp_cell (τ 0) (n0, .inl f)).slots.getD (sp.toNatClampNeg + i) .null = .int (f (sp.toNatClampNeg + i)) := by
        show (arrV (τ 0) n0 (fun j => .int (f j))).slots.getD _ _ = _
        rw [Array.getD_eq_getD_getElem?, arrV_read _ _ (by omega)]
        rfl
      refine ⟨?_, ?_⟩
      · rw [e]
        rfl
      · rw [e]
        exact trivial)
    (g := F0 m pc ls (.int n :: .int dp :: .ref a :: .int sp :: .ref a0 :: rest)) rfl (by rw [hml]) (rest := rest) rfl (by rw [hb]; exact hdg) hframes (by show 2 * 0 + _ + _ ≤ _; omega)
  have e1 : copied (vp_cell (τ 0) (n0, .inl f)) (vp_cell (τ 0) (n1, .inl g)) sp dp n = vp_cell (τ 0) (n1, .inl (va_cpy f g sp.toNatClampNeg dp.toNatClampNeg n.toNatClampNeg)) := va_copied (fun z => .int z) (τ 0) (τ 0) f g h4
  rw [e1] at X' step
  have hl : a < H.size := (Array.getElem?_eq_some_iff.mp hc1).1
  have hheap : ((T.setVm vm').setCell a (vp_cell (τ 0) (n1, .inl (va_cpy f g sp.toNatClampNeg dp.toNatClampNeg n.toNatClampNeg)))).heap = H.setIfInBounds a (vp_cell (τ 0) (n1, .inl (va_cpy f g sp.toNatClampNeg dp.toNatClampNeg n.toNatClampNeg))) := by rw [← hT]; rfl
  have oq : ∀ q : Nat, q ≠ a → (H.setIfInBounds a (vp_cell (τ 0) (n1, .inl (va_cpy f g sp.toNatClampNeg dp.toNatClampNeg n.toNatClampNeg))))[q]? = H[q]? := fun q hq => by simp [Array.getElem?_setIfInBounds, Ne.symm hq]
  obtain ⟨t, a1, b1⟩ := kk _ _ (hR.put hA (by simp) oq (show (H.setIfInBounds a _)[a]? = some _ by simp [Array.getElem?_setIfInBounds, hl])) (fun q hq => by
      rcases List.mem_append.mp hq with h | h
      · exact hlo q h
      · obtain ⟨z, -, hz⟩ := List.mem_map.mp h
        rw [← hz]
        exact hA) _ hheap X'
  exact ⟨t, step t a1, b1⟩
/-- no wrapper is called by a nest mate's link -/
def bk_nst (w : Cond) : Bool := match w with
  | .methodLinkNest _ _ x _ => !decide (x.cls = "BarkMakersLaw")
  | _ => true
theorem bk_nests : lw_tbl.all bk_nst = true := by decide +kernel
theorem bk_hhL : (List.range 246).all (fun k => (bk_hh k).isEmpty || decide ((bk_y k).cls = "BarkMakersLaw")) = true := by decide +kernel
theorem bk_noNW {own ix k : Nat} {q : Nat × Nat × Nat × Nat} {r : List (Nat × Nat × Nat × Nat)} (hk : k < 246) (hl9 : Cond.methodLinkNest (bk_rn own) ix (bk_y k) "BarkMakersModel" ∈ lw_tbl) (hh : bk_hh k = q :: r) : False := by
  have h1 := List.all_eq_true.mp bk_nests _ hl9
  have h2 := List.all_eq_true.mp bk_hhL k (List.mem_range.mpr hk)
  rw [hh] at h2
  have h2 : (bk_y k).cls = "BarkMakersLaw" := of_decide_eq_true h2
  unfold bk_nst at h1
  dsimp only at h1
  rw [decide_eq_true h2] at h1
  exact nomatch h1
theorem bk_drop {st r : List Value} {v : Value} {k : Nat} (h : st.drop k = v :: r) : (st.take k).reverse.length = k ∧ st = ((st.take k).reverse).reverse ++ v :: r := by
  have hl : k < st.length := by
    have h1 := congrArg List.length h
    rw [List.length_drop, List.length_cons] at h1
    omega
  refine ⟨by rw [List.length_reverse, List.length_take]; omega, ?_⟩
  rw [List.reverse_reverse, ← h, List.take_append_drop]
theorem bk_a_static {ix f lo : Nat} (K : bk_Cx p l e R s m args below meth c Z V N0 H00 D τ B j) (Ct : bk_Ct l V N0 H00 D τ C f lo) (hfr : f + 1 ≤ R.frames) (hlo9 : 39 + lo ≤ R.locals) : bk_Ok p l e R s m args below meth c Z V N0 H00 D τ B C j Q (.invokestatic ix) := by
  intro pc nx sw k0 L st h n cs hi h1 H ls locs hL hl hR hlo c1 c2
  have ok := (bk_okI hi).1
  have hv := @bk_vcS j pc ix nx
  simp only [bk_s1, hi] at h1
  obtain ⟨d, rfl⟩ := bk_dk_sp (show bk_dk (bk_cc j) pc (.invokestatic ix) 3 nx = true from ok)
  obtain ⟨hx, hb, hml, hown, hts, hB, hr1, hr2, hs0, hf11, hl445, hlk, hini⟩ := K
  have hsz : ls.size = bk_max j := hL.1.trans hl
  have hb1 : c.maxLocals = ls.size := hml.trans hsz.symm
  split at h1
  · rename_i k pos hcal
    obtain ⟨g, h1⟩ := bk_gd_el h1
    have g := Nat.le_of_ble_eq_true g
    obtain ⟨hk, hvS⟩ := hv hi hcal
    refine bk_cl_go hL hl hlo c1 c2 (fun b Q' q1 q2 q3 q4 q5 => ?_) h1
    have S : CallFix p m c (bk_cc j) (bk_max j) s args lw_G (bk_rn (bk_own j)) := ⟨hx, hb, hml, hown, hts⟩
    have hM := Ct k _ h n b Q' hk q1
    have hn : (st.take (bk_np k)).reverse.length = bk_np k := by rw [List.length_reverse, List.length_take]; omega
    have hst : st = ((st.take (bk_np k)).reverse).reverse ++ st.drop (bk_np k) := by rw [List.reverse_reverse, List.take_append_drop]
    have hw8 : 2 * (F0 m pc ls st).monitorRoom + ((st.drop (bk_np k)).map fun v => v.category).sum ≤ 8 := by
      show 2 * 0 + _ ≤ 8
      have := bk_cat8 q3
      omega
    have hroom : cs.1 + b.1 ≤ R.cells ∧ cs.2 + b.2 ≤ R.slots := ⟨by omega, by omega⟩
    rcases bk_lk hcal with hl9 | hl9
    · cases hh : bk_hh k with
      | nil => exact va_runS S (bk_met hM (bk_xno q2)) ⟨bk_cb hk hh hts hfr hlo9 hl9, hts _ (bk_inG hvS)⟩ (bk_pS hB hR) rfl hn hsz hst hw8 d hroom
      | cons q r => exact bk_vrun (vx_runSX S hM (bk_cw hk hh hts hfr hlo9 hl9 (bk_inG hvS)) (bk_pS hB hR) rfl hn hsz hst hw8 d hroom) (bk_xno q2)
    · cases hh : bk_hh k with
      | nil => exact va_runSN S (bk_met hM (bk_xno q2)) ⟨bk_cn hk hh hts hfr hlo9 (hB.nestM hl9), hts _ (bk_inG hvS), trivial⟩ (bk_pS hB hR) rfl hn hsz hst hw8 d hroom
      | cons q r => exact (bk_noNW hk hl9 hh).elim
  · rename_i _ _ hcal
    obtain ⟨x, y, r, rfl, h1⟩ := bk_x2_el h1
    obtain ⟨g, h1⟩ := bk_gd_el h1
    have g8 := bk_cat8 (Nat.le_of_ble_eq_true g)
    exact va_mmax hx hb hb1 hown (hts _ (bk_inG (bk_cal_ok _ _ _ hcal))) (hts _ bk_wMxs) (hts _ bk_wMi) (hts _ bk_wMxc) (by omega) (by omega) (by omega) (by omega) d (h1 H ls locs hL hl hR hlo c1 c2)
  · rename_i _ _ hcal
    obtain ⟨x, y, r, rfl, h1⟩ := bk_x2_el h1
    obtain ⟨g, h1⟩ := bk_gd_el h1
    have g8 := bk_cat8 (Nat.le_of_ble_eq_true g)
    have hxy : (if y < x then y else x) = (if x ≤ y then x else y) := by
      by_cases q : x ≤ y
      · rw [if_neg (Int32.not_lt.mpr q), if_pos q]
      · rw [if_pos (Int32.not_le.mp q), if_neg q]
    refine va_mmin hx hb hb1 hown (hts _ (bk_inG (bk_cal_ok _ _ _ hcal))) (hts _ bk_wMns) (hts _ bk_wMi) (hts _ bk_wMnc) (by omega) (by omega) (by omega) (by omega) d ?_
    rw [hxy]
    exact h1 H ls locs hL hl hR hlo c1 c2
  · rename_i _ _ hcal
    split at h1
    · rename_i z dp b sp a r
      obtain ⟨g, h1⟩ := bk_gd_el h1
      have g8 := bk_cat8 (Nat.le_of_ble_eq_true g)
      obtain ⟨m1, m2, f1, f2, a1, a2, hab, n1, n2, n3, i1, i2, h1⟩ := h1
      exact bk_copy hx hb hb1 hown (hts _ (bk_inG (bk_cal_ok _ _ _ hcal))) (hts _ bk_wAn) (hts _ bk_wAs) (hts _ bk_wSi) hB.1 hR hlo a1 a2 n1 n2 n3 i1 i2 (by omega) (by have := bk_nfw; omega) d (fun H1 locs1 r1 r2 => h1 H1 ls locs1 hL hl r1 r2 c1 c2)
    · exact h1.elim
  · exact h1.elim
theorem bk_a_special {ix f lo : Nat} (K : bk_Cx p l e R s m args below meth c Z V N0 H00 D τ B j) (Ct : bk_Ct l V N0 H00 D τ C f lo) (hfr : f + 1 ≤ R.frames) (hlo9 : 39 + lo ≤ R.locals) : bk_Ok p l e R s m args below meth c Z V N0 H00 D τ B C j Q (.invokespecial ix) := by
  intro pc nx sw k0 L st h n cs hi h1 H ls locs hL hl hR hlo c1 c2
  have ok := (bk_okI hi).1
  have hv := @bk_vcI j pc ix nx
  simp only [bk_s1, hi] at h1
  obtain ⟨d, rfl⟩ := bk_dk_sp (show bk_dk (bk_cc j) pc (.invokespecial ix) 3 nx = true from ok)
  obtain ⟨hx, hb, hml, hown, hts, hB, hr1, hr2, hs0, hf11, hl445, hlk, hini⟩ := K
  have hsz : ls.size = bk_max j := hL.1.trans hl
  split at h1
  · rename_i k pos hcal
    split at h1
    · rename_i b r hdr
      obtain ⟨hk, hvI⟩ := hv hi hcal
      have hh := bk_hh_nil hk (Or.inl hvI)
      obtain ⟨hvI, hret⟩ := Bool.and_eq_true_iff.mp (show (bk_pos (bk_ps k).2.1 (.instanceMethod (bk_y k)) && (bk_y k).name == "<init>" && decide (bk_ret k = none)) = true from hvI)
      obtain ⟨hin, hnm⟩ := Bool.and_eq_true_iff.mp hvI
      have hret : bk_ret k = none := of_decide_eq_true hret
      have hnm : (bk_y k).name = "<init>" := beq_iff_eq.mp hnm
      refine bk_cl_go hL hl hlo c1 c2 (fun b9 Q' q1 q2 q3 q4 q5 => ?_) h1
      have S : CallFix p m c (bk_cc j) (bk_max j) s args lw_G (bk_rn (bk_own j)) := ⟨hx, hb, hml, hown, hts⟩
      have hM := Ct k _ h n b9 Q' hk q1
      obtain ⟨hn, hst⟩ := bk_drop hdr
      have hw8 : 2 * (F0 m pc ls st).monitorRoom + (r.map fun v => v.category).sum ≤ 8 := by
        show 2 * 0 + _ ≤ 8
        have := bk_cat8 q3
        omega
      have hroom : cs.1 + b9.1 ≤ R.cells ∧ cs.2 + b9.2 ≤ R.slots := ⟨by omega, by omega⟩
      rcases bk_lk hcal with hl9 | hl9
      · have cb := bk_cb (own := bk_rn (bk_own j)) (ix := ix) (b := b9) hk hh hts hfr hlo9 hl9
        rw [hret] at cb
        exact va_runI S (bk_met hM (bk_xno q2)) ⟨cb, hnm, hts _ (bk_inG hin)⟩ (bk_pS hB hR) rfl hn hsz hst hw8 d hroom
      · have cb := bk_cn (own := bk_rn (bk_own j)) (ix := ix) (b := b9) hk hh hts hfr hlo9 (hB.nestM hl9)
        rw [hret] at cb
        exact va_runIN S (bk_met hM (bk_xno q2)) ⟨cb, hnm, hts _ (bk_inG hin)⟩ (bk_pS hB hR) rfl hn hsz hst hw8 d hroom
    · exact h1.elim
  · rename_i _ _ hcal
    split at h1
    · rename_i a r
      obtain ⟨g, h1⟩ := bk_gd_el h1
      have g8 := bk_cat8 (Nat.le_of_ble_eq_true g)
      exact W.objInit hx hb hown (hts _ (bk_inG (bk_cal_ok _ _ _ hcal))) (hts _ bk_wOi) (hts _ bk_wOc) rfl (hsz.trans hml.symm) rfl d (by omega) (by show 2 * 0 + _ + 12 ≤ _; omega) (h1 H ls locs hL hl hR hlo c1 c2)
    · exact h1.elim
  · exact h1.elim
end BKI
