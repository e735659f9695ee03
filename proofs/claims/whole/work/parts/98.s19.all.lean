/-! ONE STEP AT THE MACHINE: a throw, a return; all steps. -/
theorem bk_memset {α : Type} {l : List α} {k : Nat} {b w : α} (h : w ∈ l.set k b) : w = b ∨ w ∈ l.eraseIdx k := by
  obtain ⟨i, hi, hw⟩ := List.getElem_of_mem h
  by_cases q : k = i
  · subst q
    rw [List.getElem_set_self] at hw
    exact Or.inl hw.symm
  · rw [List.getElem_set_ne q] at hw
    exact Or.inr (List.mem_eraseIdx_iff_getElem?.mpr ⟨i, fun z => q z.symm, by rw [← hw]; exact List.getElem?_eq_getElem _⟩)
theorem bk_dc_sp {V : bk_V} {N0 : Nat} {H00 : Heap} {D : va_G} {τ : Nat → ClassId} {U : State} (h : bk_Bs V N0 H00 D τ U) {w : Cond} (hw : w ∈ lw_tbl) (hd : bk_dc w = true) (A : Array Value) : w.before A U = true := by
  unfold bk_dc at hd
  split at hd
  · exact va_Nw.use rfl (h.decl hw)
  · exact va_Nw.use rfl (h.cast hw)
  · cases hd
section BKX
variable {p : Program} {l : Launch} {e : Env} {R : Room} {s : State} {m : MethodId} {args : Array Value} {below : List Frame} {meth : Method} {c : Code} {Z : State → Prop} {V : bk_V} {N0 : Nat} {H00 : Heap} {D : va_G} {τ : Nat → ClassId} {C : bk_P} {j : Nat} {B : Nat × Nat} {Q : bk_R → bk_H → Nat → Prop}
theorem bk_hatX {E own : String} {ic : Nat} (hset : Bundle.ownAtoms own ic E bk_nmx = (Bundle.ownAtoms "" 0 E bk_nmx).set 43 (.methodLink own ic (Bundle.initS E))) (hat : ((bk_atX E).all (fun w => bk_has w && (goodWord w || bk_dc w))) = true) (hot : ((bk_atX E).all vx_ot) = true)
    (hts : ∀ w ∈ lw_G, w.before args s = true) (hB : bk_Bs V N0 H00 D τ s) (hml : Cond.methodLink own ic (Bundle.initS E) ∈ lw_G) : ∀ w ∈ vx_atS own ic E bk_nmx, w.before args s = true ∧ vx_ot w = true := by
  intro w hw
  obtain ⟨h1, h2⟩ := List.mem_filter.mp hw
  rw [hset] at h1
  rcases bk_memset h1 with rfl | h1
  · exact ⟨hts _ hml, rfl⟩
  · have hx : w ∈ bk_atX E := List.mem_filter.mpr ⟨h1, h2⟩
    refine ⟨?_, List.all_eq_true.mp hot w hx⟩
    obtain ⟨g1, g2⟩ := Bool.and_eq_true_iff.mp (List.all_eq_true.mp hat w hx)
    rcases Bool.or_eq_true_iff.mp g2 with g2 | g2
    · exact hts _ (bk_hasG g1 g2)
    · exact bk_dc_sp hB (bk_has_in g1) g2 args
theorem bk_site_sp {own ic is : Nat} {E : String} (h : bk_site? own ic is E = true) : ∃ tx : String, (E = "java/lang/IllegalStateException" ∨ E = "java/lang/IllegalArgumentException" ∨ E = "java/lang/IndexOutOfBoundsException") ∧
    Cond.methodLink (bk_rn own) ic (Bundle.initS E) ∈ lw_G ∧ Cond.stringRef (bk_rn own) is tx ∈ lw_tbl ∧ Cond.initialized E ∈ lw_G := by
  obtain ⟨q, hq, h⟩ := List.any_eq_true.mp h
  obtain ⟨h, h4⟩ := Bool.and_eq_true_iff.mp h
  obtain ⟨h, h3⟩ := Bool.and_eq_true_iff.mp h
  obtain ⟨h1, h2⟩ := Bool.and_eq_true_iff.mp h
  have h1 := Nat.eq_of_beq_eq_true h1
  have h2 := Nat.eq_of_beq_eq_true h2
  have h3 := of_decide_eq_true h3
  have h4 := Nat.eq_of_beq_eq_true h4
  have g := List.all_eq_true.mp bk_soks q hq
  unfold bk_sok at g
  rw [h1, h2, h3, h4] at g
  obtain ⟨g, g4⟩ := Bool.and_eq_true_iff.mp g
  obtain ⟨g, g3⟩ := Bool.and_eq_true_iff.mp g
  obtain ⟨g1, g2⟩ := Bool.and_eq_true_iff.mp g
  refine ⟨q.2.2.2.2, ?_, bk_hasG g2 rfl, bk_has_in g3, bk_hasG g4 rfl⟩
  rcases Bool.or_eq_true_iff.mp g1 with g1 | g1
  · rcases Bool.or_eq_true_iff.mp g1 with g1 | g1
    · exact Or.inl (of_decide_eq_true g1)
    · exact Or.inr (Or.inl (of_decide_eq_true g1))
  · exact Or.inr (Or.inr (of_decide_eq_true g1))
theorem bk_Rl.grow {h : bk_H} {n : Nat} {H H1 : Heap} (r : bk_Rl N0 H00 D τ h n H) (hz : H.size ≤ H1.size) (ho : ∀ q : Nat, q < H.size → H1[q]? = H[q]?) : bk_Rl N0 H00 D τ h H1.size H1 := by
  obtain ⟨r1, r2, r3, r4⟩ := r
  refine ⟨rfl, by omega, fun q hq => (ho q (by omega)).trans (r3 q hq), fun b f hb => ?_⟩
  obtain ⟨k1, k2⟩ := r4 b f hb
  exact ⟨k1, va_at.kept k2 (ho b (va_at.lt k2))⟩
/-- what is asked of a walk that may throw -/
def bk_TX (p : Program) (l : Launch) (e : Env) (R : Room) (s : State) (m : MethodId) (args : Array Value) (below : List Frame) (meth : Method) (c : Code) (Z : State → Prop) (V : bk_V) (N0 : Nat) (H00 : Heap) (D : va_G) (τ : Nat → ClassId) (B : Nat × Nat) (j : Nat) (Q : bk_R → bk_H → Nat → Prop) : Prop :=
  ∀ ix E pos, bk_new (bk_own j) ix = some (.inr E, pos) → Z = vx_MQ below (bk_Qc N0 H00 D τ Q) (bk_XC N0 H00 D τ Q) args s B.1 B.2 (fun q => N0 ≤ q) ∧ l.stackTraces = false
theorem bk_a_new {ix : Nat} (K : bk_Cx p l e R s m args below meth c Z V N0 H00 D τ B j) (hTab : c.exceptionTable.toList = tableOf (bk_hh j)) (hTX : bk_TX p l e R s m args below meth c Z V N0 H00 D τ B j Q) : bk_Ok p l e R s m args below meth c Z V N0 H00 D τ B C j Q (.new ix) := by
  intro pc nx sw k0 L st h n cs hi h1
  have hi0 := hi
  simp only [bk_s1, hi] at h1
  split at h1
  · rename_i ci pos hn
    exact bk_a_newO K hi0 hn h1
  · rename_i E pos hn
    intro H ls locs hL hl hR hlo c1 c2
    obtain ⟨g4, g1, g2, h1⟩ := bk_gd_el h1
    have g4 := bk_cat8 (Nat.le_of_ble_eq_true g4)
    obtain ⟨d0, d0'⟩ := bk_dk_sp (show bk_dk (bk_cc j) pc (.new ix) 3 nx = true from (bk_okI hi0).1)
    obtain ⟨rfl, hst⟩ := hTX ix E pos hn
    obtain ⟨hx, hb, hml, hown, hts, hB, hr1, hr2, hs0, hf11, hl445, hlk, hini⟩ := K
    have hc3 := bk_c3_ok hi0
    unfold bk_c3 at hc3
    rw [show (bk_m j).1 pc = some (.new ix, nx, sw, k0) from hi0] at hc3
    dsimp only at hc3
    rw [show bk_new (bk_m j).2.2.2.2.2.2.1 ix = some (.inr E, pos) from hn] at hc3
    dsimp only at hc3
    obtain ⟨hc4, hc3⟩ := Bool.and_eq_true_iff.mp hc3
    have hh : bk_hh j = [] := by
      cases q : bk_hh j with
      | nil => rfl
      | cons a b =>
        rw [show (bk_m j).2.2.2.2.2.2.2.2.1 = a :: b from q] at hc4
        cases hc4
    rw [hh] at hTab
    have hout : ∀ pc9 : Nat, ∀ x ∈ c.exceptionTable.toList, covers x pc9 = false := by
      intro pc9 x hx
      rw [hTab] at hx
      exact nomatch hx
    have hlink : (Cond.classLink (bk_rn (bk_own j)) ix E).before args s = true := hts _ (bk_inG (show bk_pos pos (.classLink (bk_rn (bk_own j)) ix E) = true from bk_new_ok _ _ _ hn))
    have hsz : ls.size = c.maxLocals := (hL.1.trans hl).trans hml.symm
    obtain ⟨z0, zU, zN⟩ := hB.zq
    have zU' := zU.kept (H1 := s.heap) fun a ha hn => hs0.2 a (by rw [z0] at ha; exact ha)
    have zN' := zN.kept (H1 := s.heap) fun a ha hn => hs0.2 a (by rw [z0] at ha; exact ha)
    have hxc : ∀ t : State, s.vm.Alike t.vm → H.size ≤ t.heap.size → (∀ q : Nat, q < H.size → t.heap[q]? = H[q]?) → bk_XC N0 H00 D τ Q E s t := fun t _ hz ho => ⟨h, t.heap.size, h1 _ (by rw [hR.1] at hz; exact hz), hR.grow hz ho⟩
    have big : ∀ ic is : Nat, bk_site? (bk_own j) ic is E = true → ∃ (tx : String) (a : Nat), vk_R (bk_rn (bk_own j)) is tx a s ∧ Bundle.fit E = true ∧ (Cond.initialized E).before args s = true ∧ (∀ w ∈ vx_atS (bk_rn (bk_own j)) ic E bk_nmx, w.before args s = true) ∧
        (∀ w ∈ Cond.classLink (bk_rn (bk_own j)) ix E :: Cond.initialized E :: vx_atS (bk_rn (bk_own j)) ic E bk_nmx, vx_ot w = true) := by
      intro ic is hs
      obtain ⟨tx, hE, k1, k2, k3⟩ := bk_site_sp hs
      obtain ⟨a, ha⟩ := hB.lit k2
      have hat : ∀ w ∈ vx_atS (bk_rn (bk_own j)) ic E bk_nmx, w.before args s = true ∧ vx_ot w = true := by
        rcases hE with rfl | rfl | rfl
        · exact bk_hatX (bk_setX_0 _ _) bk_atX_0 bk_otX_0 hts hB k1
        · exact bk_hatX (bk_setX_1 _ _) bk_atX_1 bk_otX_1 hts hB k1
        · exact bk_hatX (bk_setX_2 _ _) bk_atX_2 bk_otX_2 hts hB k1
      refine ⟨tx, a, ha, ?_, hts _ k3, fun w hw => (hat w hw).1, fun w hw => ?_⟩
      · rcases hE with rfl | rfl | rfl
        · exact bk_fitX_0
        · exact bk_fitX_1
        · exact bk_fitX_2
      · rcases List.mem_cons.mp hw with rfl | hw
        · rfl
        · rcases List.mem_cons.mp hw with rfl | hw
          · rfl
          · exact (hat w hw).2
    refine bk_grow fun hz => ?_
    have hS := bk_VS2 hs0 hz hR hlo
    split at hc3
    · rename_i r3 is r4 e3 e4
      split at hc3
      · rename_i ic r6 r9 e6 e9
        obtain ⟨tx, a, k1, k2, k3, k4, k5⟩ := big ic is hc3
        exact vx_throwS hx hb hst hown k2 bk_fitN hlink k3 k1 k4 k5 zU' zN' hS hsz d0
          (bk_dk_sp (show bk_dk (bk_cc j) (pc + 3) .dup 1 _ = true from (bk_okI (j := j) e3).1)).1
          (bk_dk_sp (show bk_dk (bk_cc j) (pc + 4) (.ldc is) 2 _ = true from (bk_okI (j := j) e4).1)).1
          (bk_dk_sp (show bk_dk (bk_cc j) (pc + 6) (.invokespecial ic) 3 _ = true from (bk_okI (j := j) e6).1)).1
          (bk_dk_sp (show bk_dk (bk_cc j) (pc + 9) .athrow 1 _ = true from (bk_okI (j := j) e9).1)).1
          (hout _) (by show 2 + 3 < R.frames; omega) (by show _ + (13 * (2 + 1) + 43) ≤ R.locals; omega) (by omega) (by omega) hlk hxc hlo g1 g2
      · cases hc3
    · rename_i r3 is r4 e3 e4
      split at hc3
      · rename_i ic r6 r9 e6 e9
        obtain ⟨tx, a, k1, k2, k3, k4, k5⟩ := big ic is hc3
        exact vx_throwSW hx hb hst hown k2 bk_fitN hlink k3 k1 k4 k5 zU' zN' hS hsz d0
          (bk_dk_sp (show bk_dk (bk_cc j) (pc + 3) .dup 1 _ = true from (bk_okI (j := j) e3).1)).1
          (bk_dk_sp (show bk_dk (bk_cc j) (pc + 4) (.ldc_w is) 3 _ = true from (bk_okI (j := j) e4).1)).1
          (bk_dk_sp (show bk_dk (bk_cc j) (pc + 7) (.invokespecial ic) 3 _ = true from (bk_okI (j := j) e6).1)).1
          (bk_dk_sp (show bk_dk (bk_cc j) (pc + 10) .athrow 1 _ = true from (bk_okI (j := j) e9).1)).1
          (hout _) (by show 2 + 3 < R.frames; omega) (by show _ + (13 * (2 + 1) + 43) ≤ R.locals; omega) (by omega) (by omega) hlk hxc hlo g1 g2
      · cases hc3
    · cases hc3
  · exact h1.elim
/-- the ends that a method may come to -/
def bk_RI (j : Nat) (I : Instr) (v : Option Value) : Prop :=
  (I = .ireturn ∧ ∃ (x : Int32) (t : FieldType), v = some (.int x) ∧ bk_ret j = some t ∧ narrow t (.int x) = .int x) ∨ (I = .lreturn ∧ ∃ x : Int64, v = some (.long x) ∧ bk_ret j = some .long) ∨
  (I = .dreturn ∧ ∃ x : UInt64, v = some (.double x) ∧ bk_ret j = some .double) ∨ (I = .return_ ∧ v = none ∧ bk_ret j = none)
def bk_RT (p : Program) (l : Launch) (e : Env) (R : Room) (s : State) (m : MethodId) (args : Array Value) (below : List Frame) (meth : Method) (c : Code) (Z : State → Prop) (_ : bk_V) (N0 : Nat) (H00 : Heap) (D : va_G) (τ : Nat → ClassId) (B : Nat × Nat) (j : Nat) (Q : bk_R → bk_H → Nat → Prop) : Prop :=
  ∀ (I : Instr) (v : Option Value) (pc : Nat) (ls : Array Slot) (H : Heap) (locs : List Loc) (cells slots : Nat) (h : bk_H) (n : Nat), Q (.inl v) h n → bk_Rl N0 H00 D τ h n H → (∀ z ∈ locs, N0 ≤ z.base) → cells ≤ B.1 → slots ≤ B.2 → decode (bk_cc j) pc = .ok (I, 1) → bk_RI j I v →
    W p l e R s m args below meth c H locs cells slots Z (F0 m pc ls v.toList)
theorem bk_a_ireturn (hRT : bk_RT p l e R s m args below meth c Z V N0 H00 D τ B j Q) : bk_Ok p l e R s m args below meth c Z V N0 H00 D τ B C j Q .ireturn := by
  intro pc nx sw k0 L st h n cs hi h1 H ls locs hL hl hR hlo c1 c2
  have ok := (bk_okI hi).1
  simp only [bk_s1, hi] at h1
  obtain ⟨d, -⟩ := bk_dk_sp (show bk_dk (bk_cc j) pc .ireturn 1 nx = true from ok)
  split at h1
  · rename_i v
    obtain ⟨g1, g2⟩ := h1
    refine hRT .ireturn (some (.int v)) pc ls H locs _ _ h n g2 hR hlo c1 c2 d (Or.inl ⟨rfl, ?_⟩)
    split at g1
    · rename_i t ht
      exact ⟨v, t, rfl, ht, g1⟩
    · exact g1.elim
  · exact h1.elim
theorem bk_a_lreturn (hRT : bk_RT p l e R s m args below meth c Z V N0 H00 D τ B j Q) : bk_Ok p l e R s m args below meth c Z V N0 H00 D τ B C j Q .lreturn := by
  intro pc nx sw k0 L st h n cs hi h1 H ls locs hL hl hR hlo c1 c2
  have ok := (bk_okI hi).1
  simp only [bk_s1, hi] at h1
  obtain ⟨d, -⟩ := bk_dk_sp (show bk_dk (bk_cc j) pc .lreturn 1 nx = true from ok)
  split at h1
  · rename_i v
    exact hRT .lreturn (some (.long v)) pc ls H locs _ _ h n h1.2 hR hlo c1 c2 d (Or.inr (Or.inl ⟨rfl, v, rfl, h1.1⟩))
  · exact h1.elim
theorem bk_a_dreturn (hRT : bk_RT p l e R s m args below meth c Z V N0 H00 D τ B j Q) : bk_Ok p l e R s m args below meth c Z V N0 H00 D τ B C j Q .dreturn := by
  intro pc nx sw k0 L st h n cs hi h1 H ls locs hL hl hR hlo c1 c2
  have ok := (bk_okI hi).1
  simp only [bk_s1, hi] at h1
  obtain ⟨d, -⟩ := bk_dk_sp (show bk_dk (bk_cc j) pc .dreturn 1 nx = true from ok)
  split at h1
  · rename_i v
    exact hRT .dreturn (some (.double v)) pc ls H locs _ _ h n h1.2 hR hlo c1 c2 d (Or.inr (Or.inr (Or.inl ⟨rfl, v, rfl, h1.1⟩)))
  · exact h1.elim
theorem bk_a_return (hRT : bk_RT p l e R s m args below meth c Z V N0 H00 D τ B j Q) : bk_Ok p l e R s m args below meth c Z V N0 H00 D τ B C j Q .return_ := by
  intro pc nx sw k0 L st h n cs hi h1 H ls locs hL hl hR hlo c1 c2
  have ok := (bk_okI hi).1
  simp only [bk_s1, hi] at h1
  obtain ⟨d, -⟩ := bk_dk_sp (show bk_dk (bk_cc j) pc .return_ 1 nx = true from ok)
  split at h1
  · exact hRT .return_ none pc ls H locs _ _ h n h1.2 hR hlo c1 c2 d (Or.inr (Or.inr (Or.inr ⟨rfl, rfl, h1.1⟩)))
  · exact h1.elim
/-! every step -/
set_option maxHeartbeats 8000000 in
theorem bk_step {f lo : Nat} (K : bk_Cx p l e R s m args below meth c Z V N0 H00 D τ B j) (Ct : bk_Ct l V N0 H00 D τ C f lo) (hfr : f + 1 ≤ R.frames) (hlo9 : 39 + lo ≤ R.locals) (hSO : bk_SO p l e R s m args below meth c Z V N0 H00 D τ B j) (hTab : c.exceptionTable.toList = tableOf (bk_hh j)) (hTX : bk_TX p l e R s m args below meth c Z V N0 H00 D τ B j Q) (hRT : bk_RT p l e R s m args below meth c Z V N0 H00 D τ B j Q) : ∀ I, bk_Ok p l e R s m args below meth c Z V N0 H00 D τ B C j Q I := by
  intro I
  cases I
  case iconst => exact bk_a_iconst K
  case bipush => exact bk_a_bipush K
  case sipush => exact bk_a_sipush K
  case lconst => exact bk_a_lconst K
  case dconst => exact bk_a_dconst K
  case iload_n => exact bk_a_iload_n K
  case iload => exact bk_a_iload K
  case lload_n => exact bk_a_lload_n K
  case lload => exact bk_a_lload K
  case dload_n => exact bk_a_dload_n K
  case dload => exact bk_a_dload K
  case aload_n => exact bk_a_aload_n K
  case aload => exact bk_a_aload K
  case istore_n => exact bk_a_istore_n K
  case istore => exact bk_a_istore K
  case astore_n => exact bk_a_astore_n K
  case astore => exact bk_a_astore K
  case lstore_n => exact bk_a_lstore_n K
  case lstore => exact bk_a_lstore K
  case dstore => exact bk_a_dstore K
  case iinc => exact bk_a_iinc K
  case iadd => exact bk_a_iadd K
  case isub => exact bk_a_isub K
  case imul => exact bk_a_imul K
  case iand => exact bk_a_iand K
  case ior => exact bk_a_ior K
  case ishr => exact bk_a_ishr K
  case iushr => exact bk_a_iushr K
  case idiv => exact bk_a_idiv K
  case irem => exact bk_a_irem K
  case ineg => exact bk_a_ineg K
  case i2l => exact bk_a_i2l K
  case i2c => exact bk_a_i2c K
  case i2b => exact bk_a_i2b K
  case i2d => exact bk_a_i2d K
  case ladd => exact bk_a_ladd K
  case lmul => exact bk_a_lmul K
  case lcmp => exact bk_a_lcmp K
  case ddiv => exact bk_a_ddiv K
  case dcmp => exact bk_a_dcmp K
  case dup => exact bk_a_dup K
  case dup2 => exact bk_a_dup2 K
  case goto => exact bk_a_goto K
  case getfield => exact bk_a_getfield K
  case putfield => exact bk_a_putfield K
  case getstatic => exact bk_a_getstatic K
  case ldc => exact bk_a_ldc K
  case iaload => exact bk_a_iaload K
  case baload => exact bk_a_baload K
  case laload => exact bk_a_laload K
  case aaload => exact bk_a_aaload K
  case iastore => exact bk_a_iastore K
  case bastore => exact bk_a_bastore K
  case lastore => exact bk_a_lastore K
  case newarray => exact bk_a_newarray K
  case ldc2_w => exact bk_a_ldc2 K
  case arraylength => exact bk_a_alen K
  case tableswitch => exact bk_a_table K
  case lookupswitch => exact bk_a_lookup K
  case ifCond o _ => cases o <;> first | exact bk_a_if_eq K | exact bk_a_if_ne K | exact bk_a_if_lt K | exact bk_a_if_ge K | exact bk_a_if_gt K | exact bk_a_if_le K
  case if_icmp o _ => cases o <;> first | exact bk_a_icmp_eq K | exact bk_a_icmp_ne K | exact bk_a_icmp_lt K | exact bk_a_icmp_ge K | exact bk_a_icmp_gt K | exact bk_a_icmp_le K
  case invokestatic => exact bk_a_static K Ct hfr hlo9
  case invokespecial => exact bk_a_special K Ct hfr hlo9
  case invokevirtual => exact bk_a_virtual K Ct hfr hlo9 hSO hTab
  case new => exact bk_a_new K hTab hTX
  case ireturn => exact bk_a_ireturn hRT
  case lreturn => exact bk_a_lreturn hRT
  case dreturn => exact bk_a_dreturn hRT
  case return_ => exact bk_a_return hRT
  all_goals
    intro pc nx sw k0 L st h n cs hi h1
    simp only [bk_s1, hi] at h1
/-- a method's ends -/
theorem bk_RTm (hx : p.tables.exec = Jvm.exec) (hb : c.code = bk_cc j) (hr : meth.sig.returnType = bk_ret j) (hlk : meth.locks = false) : bk_RT p l e R s m args below meth c (vx_MQ below (bk_Qc N0 H00 D τ Q) (bk_XC N0 H00 D τ Q) args s B.1 B.2 (fun q => N0 ≤ q)) V N0 H00 D τ B j Q := by
  intro I v pc ls H locs cells slots h n hQ hR hlo c1 c2 d hI
  refine W.widen c1 c2 (vx_ret ?_)
  rcases hI with ⟨rfl, x, t, rfl, h1, h2⟩ | ⟨rfl, x, rfl, h1⟩ | ⟨rfl, x, rfl, h1⟩ | ⟨rfl, rfl, h1⟩
  · exact W.zret hx hb (hr.trans h1) h2 (fun t ht _ => ⟨_, h, n, rfl, hQ, by rw [ht]; exact hR⟩) hlo d hlk
  · exact W.lret hx hb (hr.trans h1) (fun t ht _ => ⟨_, h, n, rfl, hQ, by rw [ht]; exact hR⟩) hlo d hlk
  · exact W.dret hx hb (hr.trans h1) (fun t ht _ => ⟨_, h, n, rfl, hQ, by rw [ht]; exact hR⟩) hlo d hlk
  · exact W.vret hx hb (hr.trans h1) (fun t ht _ => ⟨_, h, n, rfl, hQ, by rw [ht]; exact hR⟩) hlo d hlk
end BKX
