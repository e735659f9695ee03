/-! ONE STEP AT THE MACHINE: the plain instructions. -/
section BKP
variable {p : Program} {l : Launch} {e : Env} {R : Room} {s : State} {m : MethodId} {args : Array Value} {below : List Frame} {meth : Method} {c : Code} {Z : State → Prop} {V : bk_V} {N0 : Nat} {H00 : Heap} {D : va_G} {τ : Nat → ClassId} {C : bk_P} {j : Nat} {B : Nat × Nat} {Q : bk_R → bk_H → Nat → Prop}
theorem bk_a_iconst {z : Int} (K : bk_Cx p l e R s m args below meth c Z V N0 H00 D τ B j) : bk_Ok p l e R s m args below meth c Z V N0 H00 D τ B C j Q (.iconst z) := by
  intro pc nx sw k L st h n cs hi h1 H ls locs hL hl hR hlo c1 c2
  have hx := K.1
  have hb := K.2.1
  have ok := (bk_okI hi).1
  simp only [bk_s1, hi] at h1
  obtain ⟨d0, hv⟩ := Bool.and_eq_true_iff.mp (show (bk_dk (bk_cc j) pc (.iconst z) 1 nx && decide (Int32.ofInt z = k)) = true from ok)
  obtain ⟨d, rfl⟩ := bk_dk_sp d0
  exact lv_iconst hx hb d (of_decide_eq_true hv) (h1 H ls locs hL hl hR hlo c1 c2)
theorem bk_a_bipush {z : Int} (K : bk_Cx p l e R s m args below meth c Z V N0 H00 D τ B j) : bk_Ok p l e R s m args below meth c Z V N0 H00 D τ B C j Q (.bipush z) := by
  intro pc nx sw k L st h n cs hi h1 H ls locs hL hl hR hlo c1 c2
  have hx := K.1
  have hb := K.2.1
  have ok := (bk_okI hi).1
  simp only [bk_s1, hi] at h1
  obtain ⟨d0, hv⟩ := Bool.and_eq_true_iff.mp (show (bk_dk (bk_cc j) pc (.bipush z) 2 nx && decide ((Int8.ofInt z).toInt32 = k)) = true from ok)
  obtain ⟨d, rfl⟩ := bk_dk_sp d0
  exact lv_bipush hx hb d (of_decide_eq_true hv) (h1 H ls locs hL hl hR hlo c1 c2)
theorem bk_a_sipush {z : Int} (K : bk_Cx p l e R s m args below meth c Z V N0 H00 D τ B j) : bk_Ok p l e R s m args below meth c Z V N0 H00 D τ B C j Q (.sipush z) := by
  intro pc nx sw k L st h n cs hi h1 H ls locs hL hl hR hlo c1 c2
  have hx := K.1
  have hb := K.2.1
  have ok := (bk_okI hi).1
  simp only [bk_s1, hi] at h1
  obtain ⟨d0, hv⟩ := Bool.and_eq_true_iff.mp (show (bk_dk (bk_cc j) pc (.sipush z) 3 nx && decide ((Int16.ofInt z).toInt32 = k)) = true from ok)
  obtain ⟨d, rfl⟩ := bk_dk_sp d0
  exact lv_sipush hx hb d (of_decide_eq_true hv) (h1 H ls locs hL hl hR hlo c1 c2)
theorem bk_a_lconst {z : Fin 2} (K : bk_Cx p l e R s m args below meth c Z V N0 H00 D τ B j) : bk_Ok p l e R s m args below meth c Z V N0 H00 D τ B C j Q (.lconst z) := by
  intro pc nx sw k L st h n cs hi h1 H ls locs hL hl hR hlo c1 c2
  have hx := K.1
  have hb := K.2.1
  have ok := (bk_okI hi).1
  simp only [bk_s1, hi] at h1
  obtain ⟨d, rfl⟩ := bk_dk_sp (show bk_dk (bk_cc j) pc (.lconst z) 1 nx = true from ok)
  exact lv_lconst hx hb d rfl (h1 H ls locs hL hl hR hlo c1 c2)
theorem bk_a_dconst {z : Fin 2} (K : bk_Cx p l e R s m args below meth c Z V N0 H00 D τ B j) : bk_Ok p l e R s m args below meth c Z V N0 H00 D τ B C j Q (.dconst z) := by
  intro pc nx sw k L st h n cs hi h1 H ls locs hL hl hR hlo c1 c2
  have hx := K.1
  have hb := K.2.1
  have ok := (bk_okI hi).1
  simp only [bk_s1, hi] at h1
  obtain ⟨d, rfl⟩ := bk_dk_sp (show bk_dk (bk_cc j) pc (.dconst z) 1 nx = true from ok)
  obtain ⟨q, h1⟩ := bk_gd_el h1
  have e : z = 0 := Fin.ext (Nat.eq_of_beq_eq_true q)
  subst e
  exact lv_dconst0 hx hb d (h1 H ls locs hL hl hR hlo c1 c2)
theorem bk_a_iload_n {i : Fin 4} (K : bk_Cx p l e R s m args below meth c Z V N0 H00 D τ B j) : bk_Ok p l e R s m args below meth c Z V N0 H00 D τ B C j Q (.iload_n i) := by
  intro pc nx sw k L st h n cs hi h1 H ls locs hL hl hR hlo c1 c2
  have hx := K.1
  have hb := K.2.1
  have ok := (bk_okI hi).1
  simp only [bk_s1, hi] at h1
  obtain ⟨d, rfl⟩ := bk_dk_sp (show bk_dk (bk_cc j) pc (.iload_n i) 1 nx = true from ok)
  obtain ⟨x, h2, h1⟩ := bk_ldi_el h1
  exact lv_iload_n hx hb d rfl (hL.2.2 _ _ h2) (h1 H ls locs hL hl hR hlo c1 c2)
theorem bk_a_iload {i : Nat} (K : bk_Cx p l e R s m args below meth c Z V N0 H00 D τ B j) : bk_Ok p l e R s m args below meth c Z V N0 H00 D τ B C j Q (.iload i) := by
  intro pc nx sw k L st h n cs hi h1 H ls locs hL hl hR hlo c1 c2
  have hx := K.1
  have hb := K.2.1
  have ok := (bk_okI hi).1
  simp only [bk_s1, hi] at h1
  obtain ⟨d, rfl⟩ := bk_dk_sp (show bk_dk (bk_cc j) pc (.iload i) 2 nx = true from ok)
  obtain ⟨x, h2, h1⟩ := bk_ldi_el h1
  exact lv_iload hx hb d (hL.2.2 _ _ h2) (h1 H ls locs hL hl hR hlo c1 c2)
theorem bk_a_lload_n {i : Fin 4} (K : bk_Cx p l e R s m args below meth c Z V N0 H00 D τ B j) : bk_Ok p l e R s m args below meth c Z V N0 H00 D τ B C j Q (.lload_n i) := by
  intro pc nx sw k L st h n cs hi h1 H ls locs hL hl hR hlo c1 c2
  have hx := K.1
  have hb := K.2.1
  have ok := (bk_okI hi).1
  simp only [bk_s1, hi] at h1
  obtain ⟨d, rfl⟩ := bk_dk_sp (show bk_dk (bk_cc j) pc (.lload_n i) 1 nx = true from ok)
  obtain ⟨x, h2, h1⟩ := bk_ldl_el h1
  exact lv_lload_n hx hb d rfl (hL.2.2 _ _ h2) (h1 H ls locs hL hl hR hlo c1 c2)
theorem bk_a_lload {i : Nat} (K : bk_Cx p l e R s m args below meth c Z V N0 H00 D τ B j) : bk_Ok p l e R s m args below meth c Z V N0 H00 D τ B C j Q (.lload i) := by
  intro pc nx sw k L st h n cs hi h1 H ls locs hL hl hR hlo c1 c2
  have hx := K.1
  have hb := K.2.1
  have ok := (bk_okI hi).1
  simp only [bk_s1, hi] at h1
  obtain ⟨d, rfl⟩ := bk_dk_sp (show bk_dk (bk_cc j) pc (.lload i) 2 nx = true from ok)
  obtain ⟨x, h2, h1⟩ := bk_ldl_el h1
  exact lv_lload hx hb d (hL.2.2 _ _ h2) (h1 H ls locs hL hl hR hlo c1 c2)
theorem bk_a_dload_n {i : Fin 4} (K : bk_Cx p l e R s m args below meth c Z V N0 H00 D τ B j) : bk_Ok p l e R s m args below meth c Z V N0 H00 D τ B C j Q (.dload_n i) := by
  intro pc nx sw k L st h n cs hi h1 H ls locs hL hl hR hlo c1 c2
  have hx := K.1
  have hb := K.2.1
  have ok := (bk_okI hi).1
  simp only [bk_s1, hi] at h1
  obtain ⟨d, rfl⟩ := bk_dk_sp (show bk_dk (bk_cc j) pc (.dload_n i) 1 nx = true from ok)
  obtain ⟨x, h2, h1⟩ := bk_ldd_el h1
  exact lv_dload_n hx hb d rfl (hL.2.2 _ _ h2) (h1 H ls locs hL hl hR hlo c1 c2)
theorem bk_a_dload {i : Nat} (K : bk_Cx p l e R s m args below meth c Z V N0 H00 D τ B j) : bk_Ok p l e R s m args below meth c Z V N0 H00 D τ B C j Q (.dload i) := by
  intro pc nx sw k L st h n cs hi h1 H ls locs hL hl hR hlo c1 c2
  have hx := K.1
  have hb := K.2.1
  have ok := (bk_okI hi).1
  simp only [bk_s1, hi] at h1
  obtain ⟨d, rfl⟩ := bk_dk_sp (show bk_dk (bk_cc j) pc (.dload i) 2 nx = true from ok)
  obtain ⟨x, h2, h1⟩ := bk_ldd_el h1
  exact lv_dload hx hb d (hL.2.2 _ _ h2) (h1 H ls locs hL hl hR hlo c1 c2)
theorem bk_a_aload_n {i : Fin 4} (K : bk_Cx p l e R s m args below meth c Z V N0 H00 D τ B j) : bk_Ok p l e R s m args below meth c Z V N0 H00 D τ B C j Q (.aload_n i) := by
  intro pc nx sw k L st h n cs hi h1 H ls locs hL hl hR hlo c1 c2
  have hx := K.1
  have hb := K.2.1
  have ok := (bk_okI hi).1
  simp only [bk_s1, hi] at h1
  obtain ⟨d, rfl⟩ := bk_dk_sp (show bk_dk (bk_cc j) pc (.aload_n i) 1 nx = true from ok)
  obtain ⟨x, h2, h1⟩ := bk_lda_el h1
  exact lv_aload_n hx hb d rfl (hL.2.2 _ _ h2) (h1 H ls locs hL hl hR hlo c1 c2)
theorem bk_a_aload {i : Nat} (K : bk_Cx p l e R s m args below meth c Z V N0 H00 D τ B j) : bk_Ok p l e R s m args below meth c Z V N0 H00 D τ B C j Q (.aload i) := by
  intro pc nx sw k L st h n cs hi h1 H ls locs hL hl hR hlo c1 c2
  have hx := K.1
  have hb := K.2.1
  have ok := (bk_okI hi).1
  simp only [bk_s1, hi] at h1
  obtain ⟨d, rfl⟩ := bk_dk_sp (show bk_dk (bk_cc j) pc (.aload i) 2 nx = true from ok)
  obtain ⟨x, h2, h1⟩ := bk_lda_el h1
  exact lv_aload hx hb d (hL.2.2 _ _ h2) (h1 H ls locs hL hl hR hlo c1 c2)
theorem bk_a_istore_n {i : Fin 4} (K : bk_Cx p l e R s m args below meth c Z V N0 H00 D τ B j) : bk_Ok p l e R s m args below meth c Z V N0 H00 D τ B C j Q (.istore_n i) := by
  intro pc nx sw k L st h n cs hi h1 H ls locs hL hl hR hlo c1 c2
  have hx := K.1
  have hb := K.2.1
  have ok := (bk_okI hi).1
  simp only [bk_s1, hi] at h1
  obtain ⟨d, rfl⟩ := bk_dk_sp (show bk_dk (bk_cc j) pc (.istore_n i) 1 nx = true from ok)
  obtain ⟨x, r, rfl, h1⟩ := bk_x1_el h1
  obtain ⟨q, h1⟩ := bk_gd_el h1
  exact lv_istore_n hx hb d rfl hL.has (bk_blt q) rfl fun ls2 h2 => h1 H ls2 locs (bk_LR.st h2) ((bk_st_len _ _ _).trans hl) hR hlo c1 c2
theorem bk_a_istore {i : Nat} (K : bk_Cx p l e R s m args below meth c Z V N0 H00 D τ B j) : bk_Ok p l e R s m args below meth c Z V N0 H00 D τ B C j Q (.istore i) := by
  intro pc nx sw k L st h n cs hi h1 H ls locs hL hl hR hlo c1 c2
  have hx := K.1
  have hb := K.2.1
  have ok := (bk_okI hi).1
  simp only [bk_s1, hi] at h1
  obtain ⟨d, rfl⟩ := bk_dk_sp (show bk_dk (bk_cc j) pc (.istore i) 2 nx = true from ok)
  obtain ⟨x, r, rfl, h1⟩ := bk_x1_el h1
  obtain ⟨q, h1⟩ := bk_gd_el h1
  exact lv_istore hx hb d hL.has (bk_blt q) rfl fun ls2 h2 => h1 H ls2 locs (bk_LR.st h2) ((bk_st_len _ _ _).trans hl) hR hlo c1 c2
theorem bk_a_astore_n {i : Fin 4} (K : bk_Cx p l e R s m args below meth c Z V N0 H00 D τ B j) : bk_Ok p l e R s m args below meth c Z V N0 H00 D τ B C j Q (.astore_n i) := by
  intro pc nx sw k L st h n cs hi h1 H ls locs hL hl hR hlo c1 c2
  have hx := K.1
  have hb := K.2.1
  have ok := (bk_okI hi).1
  simp only [bk_s1, hi] at h1
  obtain ⟨d, rfl⟩ := bk_dk_sp (show bk_dk (bk_cc j) pc (.astore_n i) 1 nx = true from ok)
  obtain ⟨x, r, rfl, h1⟩ : ∃ (x : Nat) (r : List Value), st = .ref x :: r ∧ bk_gd (Nat.blt i L.length) (bk_Wp p l e R s m args below meth c Z V N0 H00 D τ B (bk_max j) (pc + 1) (bk_st L i (.ref x)) r h n cs) := by
    split at h1
    · exact ⟨_, _, rfl, h1⟩
    · exact h1.elim
  obtain ⟨q, h1⟩ := bk_gd_el h1
  exact lv_astore_n hx hb d rfl hL.has (bk_blt q) rfl fun ls2 h2 => h1 H ls2 locs (bk_LR.st h2) ((bk_st_len _ _ _).trans hl) hR hlo c1 c2
theorem bk_a_astore {i : Nat} (K : bk_Cx p l e R s m args below meth c Z V N0 H00 D τ B j) : bk_Ok p l e R s m args below meth c Z V N0 H00 D τ B C j Q (.astore i) := by
  intro pc nx sw k L st h n cs hi h1 H ls locs hL hl hR hlo c1 c2
  have hx := K.1
  have hb := K.2.1
  have ok := (bk_okI hi).1
  simp only [bk_s1, hi] at h1
  obtain ⟨d, rfl⟩ := bk_dk_sp (show bk_dk (bk_cc j) pc (.astore i) 2 nx = true from ok)
  obtain ⟨x, r, rfl, h1⟩ : ∃ (x : Nat) (r : List Value), st = .ref x :: r ∧ bk_gd (Nat.blt i L.length) (bk_Wp p l e R s m args below meth c Z V N0 H00 D τ B (bk_max j) (pc + 2) (bk_st L i (.ref x)) r h n cs) := by
    split at h1
    · exact ⟨_, _, rfl, h1⟩
    · exact h1.elim
  obtain ⟨q, h1⟩ := bk_gd_el h1
  exact lv_astore hx hb d hL.has (bk_blt q) rfl fun ls2 h2 => h1 H ls2 locs (bk_LR.st h2) ((bk_st_len _ _ _).trans hl) hR hlo c1 c2
theorem bk_a_lstore_n {i : Fin 4} (K : bk_Cx p l e R s m args below meth c Z V N0 H00 D τ B j) : bk_Ok p l e R s m args below meth c Z V N0 H00 D τ B C j Q (.lstore_n i) := by
  intro pc nx sw k L st h n cs hi h1 H ls locs hL hl hR hlo c1 c2
  have hx := K.1
  have hb := K.2.1
  have ok := (bk_okI hi).1
  simp only [bk_s1, hi] at h1
  obtain ⟨d, rfl⟩ := bk_dk_sp (show bk_dk (bk_cc j) pc (.lstore_n i) 1 nx = true from ok)
  obtain ⟨x, r, rfl, h1⟩ : ∃ (x : Int64) (r : List Value), st = .long x :: r ∧ bk_gd (Nat.blt (i + 1) L.length) (bk_Wp p l e R s m args below meth c Z V N0 H00 D τ B (bk_max j) (pc + 1) (bk_st2 L i (.long x)) r h n cs) := by
    split at h1
    · exact ⟨_, _, rfl, h1⟩
    · exact h1.elim
  obtain ⟨q, h1⟩ := bk_gd_el h1
  exact lv_lstore_n hx hb d rfl hL.has (bk_blt q) rfl fun ls2 h2 => h1 H ls2 locs (bk_LR.st2 h2) ((bk_st2_len _ _ _).trans hl) hR hlo c1 c2
theorem bk_a_lstore {i : Nat} (K : bk_Cx p l e R s m args below meth c Z V N0 H00 D τ B j) : bk_Ok p l e R s m args below meth c Z V N0 H00 D τ B C j Q (.lstore i) := by
  intro pc nx sw k L st h n cs hi h1 H ls locs hL hl hR hlo c1 c2
  have hx := K.1
  have hb := K.2.1
  have ok := (bk_okI hi).1
  simp only [bk_s1, hi] at h1
  obtain ⟨d, rfl⟩ := bk_dk_sp (show bk_dk (bk_cc j) pc (.lstore i) 2 nx = true from ok)
  obtain ⟨x, r, rfl, h1⟩ : ∃ (x : Int64) (r : List Value), st = .long x :: r ∧ bk_gd (Nat.blt (i + 1) L.length) (bk_Wp p l e R s m args below meth c Z V N0 H00 D τ B (bk_max j) (pc + 2) (bk_st2 L i (.long x)) r h n cs) := by
    split at h1
    · exact ⟨_, _, rfl, h1⟩
    · exact h1.elim
  obtain ⟨q, h1⟩ := bk_gd_el h1
  exact lv_lstore hx hb d hL.has (bk_blt q) rfl fun ls2 h2 => h1 H ls2 locs (bk_LR.st2 h2) ((bk_st2_len _ _ _).trans hl) hR hlo c1 c2
theorem bk_a_dstore {i : Nat} (K : bk_Cx p l e R s m args below meth c Z V N0 H00 D τ B j) : bk_Ok p l e R s m args below meth c Z V N0 H00 D τ B C j Q (.dstore i) := by
  intro pc nx sw k L st h n cs hi h1 H ls locs hL hl hR hlo c1 c2
  have hx := K.1
  have hb := K.2.1
  have ok := (bk_okI hi).1
  simp only [bk_s1, hi] at h1
  obtain ⟨d, rfl⟩ := bk_dk_sp (show bk_dk (bk_cc j) pc (.dstore i) 2 nx = true from ok)
  obtain ⟨x, r, rfl, h1⟩ : ∃ (x : UInt64) (r : List Value), st = .double x :: r ∧ bk_gd (Nat.blt (i + 1) L.length) (bk_Wp p l e R s m args below meth c Z V N0 H00 D τ B (bk_max j) (pc + 2) (bk_st2 L i (.double x)) r h n cs) := by
    split at h1
    · exact ⟨_, _, rfl, h1⟩
    · exact h1.elim
  obtain ⟨q, h1⟩ := bk_gd_el h1
  exact lv_dstore hx hb d hL.has (bk_blt q) rfl fun ls2 h2 => h1 H ls2 locs (bk_LR.st2 h2) ((bk_st2_len _ _ _).trans hl) hR hlo c1 c2
theorem bk_a_iinc {i : Nat} {z : Int} (K : bk_Cx p l e R s m args below meth c Z V N0 H00 D τ B j) : bk_Ok p l e R s m args below meth c Z V N0 H00 D τ B C j Q (.iinc i z) := by
  intro pc nx sw k L st h n cs hi h1 H ls locs hL hl hR hlo c1 c2
  have hx := K.1
  have hb := K.2.1
  have ok := (bk_okI hi).1
  simp only [bk_s1, hi] at h1
  obtain ⟨d0, hv⟩ := Bool.and_eq_true_iff.mp (show (bk_dk (bk_cc j) pc (.iinc i z) 3 nx && decide (Int32.ofInt z = k)) = true from ok)
  obtain ⟨d, rfl⟩ := bk_dk_sp d0
  obtain ⟨x, h2, h1⟩ := bk_ldi_el h1
  obtain ⟨q, h1⟩ := bk_gd_el h1
  obtain ⟨t, ht⟩ := List.getElem?_of_mem (bk_pr_mem (q := (i, Value.int x)).mpr h2)
  exact lv_iinc hx hb d hL.has ht (by rw [of_decide_eq_true hv]) (bk_blt q) rfl fun ls2 h2 => h1 H ls2 locs (bk_LR.st h2) ((bk_st_len _ _ _).trans hl) hR hlo c1 c2
theorem bk_a_iadd (K : bk_Cx p l e R s m args below meth c Z V N0 H00 D τ B j) : bk_Ok p l e R s m args below meth c Z V N0 H00 D τ B C j Q (.iadd) := by
  intro pc nx sw k L st h n cs hi h1 H ls locs hL hl hR hlo c1 c2
  have hx := K.1
  have hb := K.2.1
  have ok := (bk_okI hi).1
  simp only [bk_s1, hi] at h1
  obtain ⟨d, rfl⟩ := bk_dk_sp (show bk_dk (bk_cc j) pc (.iadd) 1 nx = true from ok)
  obtain ⟨x, y, r, rfl, h1⟩ := bk_x2_el h1
  exact lv_iadd hx hb d (h1 H ls locs hL hl hR hlo c1 c2)
theorem bk_a_isub (K : bk_Cx p l e R s m args below meth c Z V N0 H00 D τ B j) : bk_Ok p l e R s m args below meth c Z V N0 H00 D τ B C j Q (.isub) := by
  intro pc nx sw k L st h n cs hi h1 H ls locs hL hl hR hlo c1 c2
  have hx := K.1
  have hb := K.2.1
  have ok := (bk_okI hi).1
  simp only [bk_s1, hi] at h1
  obtain ⟨d, rfl⟩ := bk_dk_sp (show bk_dk (bk_cc j) pc (.isub) 1 nx = true from ok)
  obtain ⟨x, y, r, rfl, h1⟩ := bk_x2_el h1
  exact lv_isub hx hb d (h1 H ls locs hL hl hR hlo c1 c2)
theorem bk_a_imul (K : bk_Cx p l e R s m args below meth c Z V N0 H00 D τ B j) : bk_Ok p l e R s m args below meth c Z V N0 H00 D τ B C j Q (.imul) := by
  intro pc nx sw k L st h n cs hi h1 H ls locs hL hl hR hlo c1 c2
  have hx := K.1
  have hb := K.2.1
  have ok := (bk_okI hi).1
  simp only [bk_s1, hi] at h1
  obtain ⟨d, rfl⟩ := bk_dk_sp (show bk_dk (bk_cc j) pc (.imul) 1 nx = true from ok)
  obtain ⟨x, y, r, rfl, h1⟩ := bk_x2_el h1
  exact lv_imul hx hb d (h1 H ls locs hL hl hR hlo c1 c2)
theorem bk_a_iand (K : bk_Cx p l e R s m args below meth c Z V N0 H00 D τ B j) : bk_Ok p l e R s m args below meth c Z V N0 H00 D τ B C j Q (.iand) := by
  intro pc nx sw k L st h n cs hi h1 H ls locs hL hl hR hlo c1 c2
  have hx := K.1
  have hb := K.2.1
  have ok := (bk_okI hi).1
  simp only [bk_s1, hi] at h1
  obtain ⟨d, rfl⟩ := bk_dk_sp (show bk_dk (bk_cc j) pc (.iand) 1 nx = true from ok)
  obtain ⟨x, y, r, rfl, h1⟩ := bk_x2_el h1
  exact lv_iand hx hb d (h1 H ls locs hL hl hR hlo c1 c2)
theorem bk_a_ior (K : bk_Cx p l e R s m args below meth c Z V N0 H00 D τ B j) : bk_Ok p l e R s m args below meth c Z V N0 H00 D τ B C j Q (.ior) := by
  intro pc nx sw k L st h n cs hi h1 H ls locs hL hl hR hlo c1 c2
  have hx := K.1
  have hb := K.2.1
  have ok := (bk_okI hi).1
  simp only [bk_s1, hi] at h1
  obtain ⟨d, rfl⟩ := bk_dk_sp (show bk_dk (bk_cc j) pc (.ior) 1 nx = true from ok)
  obtain ⟨x, y, r, rfl, h1⟩ := bk_x2_el h1
  exact lv_ior hx hb d (h1 H ls locs hL hl hR hlo c1 c2)
theorem bk_a_ishr (K : bk_Cx p l e R s m args below meth c Z V N0 H00 D τ B j) : bk_Ok p l e R s m args below meth c Z V N0 H00 D τ B C j Q (.ishr) := by
  intro pc nx sw k L st h n cs hi h1 H ls locs hL hl hR hlo c1 c2
  have hx := K.1
  have hb := K.2.1
  have ok := (bk_okI hi).1
  simp only [bk_s1, hi] at h1
  obtain ⟨d, rfl⟩ := bk_dk_sp (show bk_dk (bk_cc j) pc (.ishr) 1 nx = true from ok)
  obtain ⟨x, y, r, rfl, h1⟩ := bk_x2_el h1
  exact lv_ishr hx hb d (h1 H ls locs hL hl hR hlo c1 c2)
theorem bk_a_iushr (K : bk_Cx p l e R s m args below meth c Z V N0 H00 D τ B j) : bk_Ok p l e R s m args below meth c Z V N0 H00 D τ B C j Q (.iushr) := by
  intro pc nx sw k L st h n cs hi h1 H ls locs hL hl hR hlo c1 c2
  have hx := K.1
  have hb := K.2.1
  have ok := (bk_okI hi).1
  simp only [bk_s1, hi] at h1
  obtain ⟨d, rfl⟩ := bk_dk_sp (show bk_dk (bk_cc j) pc (.iushr) 1 nx = true from ok)
  obtain ⟨x, y, r, rfl, h1⟩ := bk_x2_el h1
  exact lv_iushr hx hb d rfl (h1 H ls locs hL hl hR hlo c1 c2)
theorem bk_a_idiv (K : bk_Cx p l e R s m args below meth c Z V N0 H00 D τ B j) : bk_Ok p l e R s m args below meth c Z V N0 H00 D τ B C j Q (.idiv) := by
  intro pc nx sw k L st h n cs hi h1 H ls locs hL hl hR hlo c1 c2
  have hx := K.1
  have hb := K.2.1
  have ok := (bk_okI hi).1
  simp only [bk_s1, hi] at h1
  obtain ⟨d, rfl⟩ := bk_dk_sp (show bk_dk (bk_cc j) pc (.idiv) 1 nx = true from ok)
  obtain ⟨x, y, r, rfl, h0, h1⟩ := bk_x2_el h1
  exact lv_idiv hx hb d h0 (h1 H ls locs hL hl hR hlo c1 c2)
theorem bk_a_irem (K : bk_Cx p l e R s m args below meth c Z V N0 H00 D τ B j) : bk_Ok p l e R s m args below meth c Z V N0 H00 D τ B C j Q (.irem) := by
  intro pc nx sw k L st h n cs hi h1 H ls locs hL hl hR hlo c1 c2
  have hx := K.1
  have hb := K.2.1
  have ok := (bk_okI hi).1
  simp only [bk_s1, hi] at h1
  obtain ⟨d, rfl⟩ := bk_dk_sp (show bk_dk (bk_cc j) pc (.irem) 1 nx = true from ok)
  obtain ⟨x, y, r, rfl, h0, h1⟩ := bk_x2_el h1
  exact lv_irem hx hb d h0 (h1 H ls locs hL hl hR hlo c1 c2)
theorem bk_a_ineg (K : bk_Cx p l e R s m args below meth c Z V N0 H00 D τ B j) : bk_Ok p l e R s m args below meth c Z V N0 H00 D τ B C j Q (.ineg) := by
  intro pc nx sw k L st h n cs hi h1 H ls locs hL hl hR hlo c1 c2
  have hx := K.1
  have hb := K.2.1
  have ok := (bk_okI hi).1
  simp only [bk_s1, hi] at h1
  obtain ⟨d, rfl⟩ := bk_dk_sp (show bk_dk (bk_cc j) pc (.ineg) 1 nx = true from ok)
  obtain ⟨x, r, rfl, h1⟩ := bk_x1_el h1
  exact lv_ineg hx hb d (h1 H ls locs hL hl hR hlo c1 c2)
theorem bk_a_i2l (K : bk_Cx p l e R s m args below meth c Z V N0 H00 D τ B j) : bk_Ok p l e R s m args below meth c Z V N0 H00 D τ B C j Q (.i2l) := by
  intro pc nx sw k L st h n cs hi h1 H ls locs hL hl hR hlo c1 c2
  have hx := K.1
  have hb := K.2.1
  have ok := (bk_okI hi).1
  simp only [bk_s1, hi] at h1
  obtain ⟨d, rfl⟩ := bk_dk_sp (show bk_dk (bk_cc j) pc (.i2l) 1 nx = true from ok)
  obtain ⟨x, r, rfl, h1⟩ := bk_x1_el h1
  exact lv_i2l hx hb d rfl (h1 H ls locs hL hl hR hlo c1 c2)
theorem bk_a_i2c (K : bk_Cx p l e R s m args below meth c Z V N0 H00 D τ B j) : bk_Ok p l e R s m args below meth c Z V N0 H00 D τ B C j Q (.i2c) := by
  intro pc nx sw k L st h n cs hi h1 H ls locs hL hl hR hlo c1 c2
  have hx := K.1
  have hb := K.2.1
  have ok := (bk_okI hi).1
  simp only [bk_s1, hi] at h1
  obtain ⟨d, rfl⟩ := bk_dk_sp (show bk_dk (bk_cc j) pc (.i2c) 1 nx = true from ok)
  obtain ⟨x, r, rfl, h1⟩ := bk_x1_el h1
  exact lv_i2c hx hb d rfl (h1 H ls locs hL hl hR hlo c1 c2)
theorem bk_a_i2b (K : bk_Cx p l e R s m args below meth c Z V N0 H00 D τ B j) : bk_Ok p l e R s m args below meth c Z V N0 H00 D τ B C j Q (.i2b) := by
  intro pc nx sw k L st h n cs hi h1 H ls locs hL hl hR hlo c1 c2
  have hx := K.1
  have hb := K.2.1
  have ok := (bk_okI hi).1
  simp only [bk_s1, hi] at h1
  obtain ⟨d, rfl⟩ := bk_dk_sp (show bk_dk (bk_cc j) pc (.i2b) 1 nx = true from ok)
  obtain ⟨x, r, rfl, h1⟩ := bk_x1_el h1
  exact lv_i2b hx hb d rfl (h1 H ls locs hL hl hR hlo c1 c2)
theorem bk_a_i2d (K : bk_Cx p l e R s m args below meth c Z V N0 H00 D τ B j) : bk_Ok p l e R s m args below meth c Z V N0 H00 D τ B C j Q (.i2d) := by
  intro pc nx sw k L st h n cs hi h1 H ls locs hL hl hR hlo c1 c2
  have hx := K.1
  have hb := K.2.1
  have ok := (bk_okI hi).1
  simp only [bk_s1, hi] at h1
  obtain ⟨d, rfl⟩ := bk_dk_sp (show bk_dk (bk_cc j) pc (.i2d) 1 nx = true from ok)
  obtain ⟨x, r, rfl, h1⟩ := bk_x1_el h1
  exact lv_i2d hx hb d (h1 H ls locs hL hl hR hlo c1 c2)
theorem bk_a_ladd (K : bk_Cx p l e R s m args below meth c Z V N0 H00 D τ B j) : bk_Ok p l e R s m args below meth c Z V N0 H00 D τ B C j Q (.ladd) := by
  intro pc nx sw k L st h n cs hi h1 H ls locs hL hl hR hlo c1 c2
  have hx := K.1
  have hb := K.2.1
  have ok := (bk_okI hi).1
  simp only [bk_s1, hi] at h1
  obtain ⟨d, rfl⟩ := bk_dk_sp (show bk_dk (bk_cc j) pc (.ladd) 1 nx = true from ok)
  obtain ⟨x, y, r, rfl, h1⟩ := bk_xl_el h1
  exact lv_ladd hx hb d (h1 H ls locs hL hl hR hlo c1 c2)
theorem bk_a_lmul (K : bk_Cx p l e R s m args below meth c Z V N0 H00 D τ B j) : bk_Ok p l e R s m args below meth c Z V N0 H00 D τ B C j Q (.lmul) := by
  intro pc nx sw k L st h n cs hi h1 H ls locs hL hl hR hlo c1 c2
  have hx := K.1
  have hb := K.2.1
  have ok := (bk_okI hi).1
  simp only [bk_s1, hi] at h1
  obtain ⟨d, rfl⟩ := bk_dk_sp (show bk_dk (bk_cc j) pc (.lmul) 1 nx = true from ok)
  obtain ⟨x, y, r, rfl, h1⟩ := bk_xl_el h1
  exact lv_lmul hx hb d (h1 H ls locs hL hl hR hlo c1 c2)
theorem bk_a_lcmp (K : bk_Cx p l e R s m args below meth c Z V N0 H00 D τ B j) : bk_Ok p l e R s m args below meth c Z V N0 H00 D τ B C j Q (.lcmp) := by
  intro pc nx sw k L st h n cs hi h1 H ls locs hL hl hR hlo c1 c2
  have hx := K.1
  have hb := K.2.1
  have ok := (bk_okI hi).1
  simp only [bk_s1, hi] at h1
  obtain ⟨d, rfl⟩ := bk_dk_sp (show bk_dk (bk_cc j) pc (.lcmp) 1 nx = true from ok)
  obtain ⟨x, y, r, rfl, h1⟩ := bk_xl_el h1
  exact W.lcmp hx hb d (h1 H ls locs hL hl hR hlo c1 c2)
theorem bk_a_ddiv (K : bk_Cx p l e R s m args below meth c Z V N0 H00 D τ B j) : bk_Ok p l e R s m args below meth c Z V N0 H00 D τ B C j Q (.ddiv) := by
  intro pc nx sw k L st h n cs hi h1 H ls locs hL hl hR hlo c1 c2
  have hx := K.1
  have hb := K.2.1
  have ok := (bk_okI hi).1
  simp only [bk_s1, hi] at h1
  obtain ⟨d, rfl⟩ := bk_dk_sp (show bk_dk (bk_cc j) pc (.ddiv) 1 nx = true from ok)
  obtain ⟨x, y, r, rfl, h0, h1⟩ := bk_xd_el h1
  exact lv_ddiv hx hb d h0 (h1 H ls locs hL hl hR hlo c1 c2)
theorem bk_a_dcmp {op : CmpOp} (K : bk_Cx p l e R s m args below meth c Z V N0 H00 D τ B j) : bk_Ok p l e R s m args below meth c Z V N0 H00 D τ B C j Q (.dcmp op) := by
  intro pc nx sw k L st h n cs hi h1 H ls locs hL hl hR hlo c1 c2
  have hx := K.1
  have hb := K.2.1
  have ok := (bk_okI hi).1
  simp only [bk_s1, hi] at h1
  obtain ⟨d, rfl⟩ := bk_dk_sp (show bk_dk (bk_cc j) pc (.dcmp op) 1 nx = true from ok)
  obtain ⟨x, y, r, rfl, h1⟩ := bk_xd_el h1
  exact lv_dcmp hx hb d (h1 H ls locs hL hl hR hlo c1 c2)
theorem bk_a_dup (K : bk_Cx p l e R s m args below meth c Z V N0 H00 D τ B j) : bk_Ok p l e R s m args below meth c Z V N0 H00 D τ B C j Q (.dup) := by
  intro pc nx sw k L st h n cs hi h1 H ls locs hL hl hR hlo c1 c2
  have hx := K.1
  have hb := K.2.1
  have ok := (bk_okI hi).1
  simp only [bk_s1, hi] at h1
  obtain ⟨d, rfl⟩ := bk_dk_sp (show bk_dk (bk_cc j) pc (.dup) 1 nx = true from ok)
  cases st with
  | nil => exact h1.elim
  | cons v r =>
    obtain ⟨q, h1⟩ := bk_gd_el h1
    exact lv_dup hx hb d (Nat.eq_of_beq_eq_true q) (h1 H ls locs hL hl hR hlo c1 c2)
theorem bk_a_dup2 (K : bk_Cx p l e R s m args below meth c Z V N0 H00 D τ B j) : bk_Ok p l e R s m args below meth c Z V N0 H00 D τ B C j Q (.dup2) := by
  intro pc nx sw k L st h n cs hi h1 H ls locs hL hl hR hlo c1 c2
  have hx := K.1
  have hb := K.2.1
  have ok := (bk_okI hi).1
  simp only [bk_s1, hi] at h1
  obtain ⟨d, rfl⟩ := bk_dk_sp (show bk_dk (bk_cc j) pc (.dup2) 1 nx = true from ok)
  cases st with
  | nil => exact h1.elim
  | cons v r =>
    cases r with
    | nil => exact h1.elim
    | cons w r =>
      obtain ⟨q, h1⟩ := bk_gd_el h1
      obtain ⟨q2, h1⟩ := bk_gd_el h1
      exact lv_dup2_11 hx hb d (Nat.eq_of_beq_eq_true q) (Nat.eq_of_beq_eq_true q2) (h1 H ls locs hL hl hR hlo c1 c2)
theorem bk_a_goto {o : Int} (K : bk_Cx p l e R s m args below meth c Z V N0 H00 D τ B j) : bk_Ok p l e R s m args below meth c Z V N0 H00 D τ B C j Q (.goto o) := by
  intro pc nx sw k L st h n cs hi h1 H ls locs hL hl hR hlo c1 c2
  have hx := K.1
  have hb := K.2.1
  have ok := (bk_okI hi).1
  simp only [bk_s1, hi] at h1
  obtain ⟨d0, hv⟩ := Bool.and_eq_true_iff.mp (show (bk_dk (bk_cc j) pc (.goto o) 3 nx && bk_tg pc o sw) = true from ok)
  obtain ⟨d, rfl⟩ := bk_dk_sp d0
  cases sw with
  | nil => exact h1.elim
  | cons q r => exact lv_goto hx hb d (of_decide_eq_true hv) (h1 H ls locs hL hl hR hlo c1 c2)
theorem bk_a_if_eq {o : Int} (K : bk_Cx p l e R s m args below meth c Z V N0 H00 D τ B j) : bk_Ok p l e R s m args below meth c Z V N0 H00 D τ B C j Q (.ifCond .eq o) := by
  intro pc nx sw k L st h n cs hi h1 H ls locs hL hl hR hlo c1 c2
  have hx := K.1
  have hb := K.2.1
  have ok := (bk_okI hi).1
  simp only [bk_s1, hi] at h1
  obtain ⟨d0, hv⟩ := Bool.and_eq_true_iff.mp (show (bk_dk (bk_cc j) pc (.ifCond .eq o) 3 nx && bk_tg pc o sw) = true from ok)
  obtain ⟨d, rfl⟩ := bk_dk_sp d0
  cases sw with
  | nil => exact h1.elim
  | cons q r =>
    obtain ⟨x, r, rfl, h1⟩ := bk_x1_el h1
    exact lv_if_eq hx hb d (of_decide_eq_true hv) (fun z => h1.1 z H ls locs hL hl hR hlo c1 c2) (fun z => h1.2 z H ls locs hL hl hR hlo c1 c2)
theorem bk_a_icmp_eq {o : Int} (K : bk_Cx p l e R s m args below meth c Z V N0 H00 D τ B j) : bk_Ok p l e R s m args below meth c Z V N0 H00 D τ B C j Q (.if_icmp .eq o) := by
  intro pc nx sw k L st h n cs hi h1 H ls locs hL hl hR hlo c1 c2
  have hx := K.1
  have hb := K.2.1
  have ok := (bk_okI hi).1
  simp only [bk_s1, hi] at h1
  obtain ⟨d0, hv⟩ := Bool.and_eq_true_iff.mp (show (bk_dk (bk_cc j) pc (.if_icmp .eq o) 3 nx && bk_tg pc o sw) = true from ok)
  obtain ⟨d, rfl⟩ := bk_dk_sp d0
  cases sw with
  | nil => exact h1.elim
  | cons q r =>
    obtain ⟨x, y, r, rfl, h1⟩ := bk_x2_el h1
    exact lv_icmp_eq hx hb d (of_decide_eq_true hv) (fun z => h1.1 z H ls locs hL hl hR hlo c1 c2) (fun z => h1.2 z H ls locs hL hl hR hlo c1 c2)
theorem bk_a_if_ne {o : Int} (K : bk_Cx p l e R s m args below meth c Z V N0 H00 D τ B j) : bk_Ok p l e R s m args below meth c Z V N0 H00 D τ B C j Q (.ifCond .ne o) := by
  intro pc nx sw k L st h n cs hi h1 H ls locs hL hl hR hlo c1 c2
  have hx := K.1
  have hb := K.2.1
  have ok := (bk_okI hi).1
  simp only [bk_s1, hi] at h1
  obtain ⟨d0, hv⟩ := Bool.and_eq_true_iff.mp (show (bk_dk (bk_cc j) pc (.ifCond .ne o) 3 nx && bk_tg pc o sw) = true from ok)
  obtain ⟨d, rfl⟩ := bk_dk_sp d0
  cases sw with
  | nil => exact h1.elim
  | cons q r =>
    obtain ⟨x, r, rfl, h1⟩ := bk_x1_el h1
    exact lv_if_ne hx hb d (of_decide_eq_true hv) (fun z => h1.1 z H ls locs hL hl hR hlo c1 c2) (fun z => h1.2 z H ls locs hL hl hR hlo c1 c2)
theorem bk_a_icmp_ne {o : Int} (K : bk_Cx p l e R s m args below meth c Z V N0 H00 D τ B j) : bk_Ok p l e R s m args below meth c Z V N0 H00 D τ B C j Q (.if_icmp .ne o) := by
  intro pc nx sw k L st h n cs hi h1 H ls locs hL hl hR hlo c1 c2
  have hx := K.1
  have hb := K.2.1
  have ok := (bk_okI hi).1
  simp only [bk_s1, hi] at h1
  obtain ⟨d0, hv⟩ := Bool.and_eq_true_iff.mp (show (bk_dk (bk_cc j) pc (.if_icmp .ne o) 3 nx && bk_tg pc o sw) = true from ok)
  obtain ⟨d, rfl⟩ := bk_dk_sp d0
  cases sw with
  | nil => exact h1.elim
  | cons q r =>
    obtain ⟨x, y, r, rfl, h1⟩ := bk_x2_el h1
    exact lv_icmp_ne hx hb d (of_decide_eq_true hv) (fun z => h1.1 z H ls locs hL hl hR hlo c1 c2) (fun z => h1.2 z H ls locs hL hl hR hlo c1 c2)
theorem bk_a_if_lt {o : Int} (K : bk_Cx p l e R s m args below meth c Z V N0 H00 D τ B j) : bk_Ok p l e R s m args below meth c Z V N0 H00 D τ B C j Q (.ifCond .lt o) := by
  intro pc nx sw k L st h n cs hi h1 H ls locs hL hl hR hlo c1 c2
  have hx := K.1
  have hb := K.2.1
  have ok := (bk_okI hi).1
  simp only [bk_s1, hi] at h1
  obtain ⟨d0, hv⟩ := Bool.and_eq_true_iff.mp (show (bk_dk (bk_cc j) pc (.ifCond .lt o) 3 nx && bk_tg pc o sw) = true from ok)
  obtain ⟨d, rfl⟩ := bk_dk_sp d0
  cases sw with
  | nil => exact h1.elim
  | cons q r =>
    obtain ⟨x, r, rfl, h1⟩ := bk_x1_el h1
    exact lv_if_lt hx hb d (of_decide_eq_true hv) (fun z => h1.1 z H ls locs hL hl hR hlo c1 c2) (fun z => h1.2 z H ls locs hL hl hR hlo c1 c2)
theorem bk_a_icmp_lt {o : Int} (K : bk_Cx p l e R s m args below meth c Z V N0 H00 D τ B j) : bk_Ok p l e R s m args below meth c Z V N0 H00 D τ B C j Q (.if_icmp .lt o) := by
  intro pc nx sw k L st h n cs hi h1 H ls locs hL hl hR hlo c1 c2
  have hx := K.1
  have hb := K.2.1
  have ok := (bk_okI hi).1
  simp only [bk_s1, hi] at h1
  obtain ⟨d0, hv⟩ := Bool.and_eq_true_iff.mp (show (bk_dk (bk_cc j) pc (.if_icmp .lt o) 3 nx && bk_tg pc o sw) = true from ok)
  obtain ⟨d, rfl⟩ := bk_dk_sp d0
  cases sw with
  | nil => exact h1.elim
  | cons q r =>
    obtain ⟨x, y, r, rfl, h1⟩ := bk_x2_el h1
    exact lv_icmp_lt hx hb d (of_decide_eq_true hv) (fun z => h1.1 z H ls locs hL hl hR hlo c1 c2) (fun z => h1.2 z H ls locs hL hl hR hlo c1 c2)
theorem bk_a_if_ge {o : Int} (K : bk_Cx p l e R s m args below meth c Z V N0 H00 D τ B j) : bk_Ok p l e R s m args below meth c Z V N0 H00 D τ B C j Q (.ifCond .ge o) := by
  intro pc nx sw k L st h n cs hi h1 H ls locs hL hl hR hlo c1 c2
  have hx := K.1
  have hb := K.2.1
  have ok := (bk_okI hi).1
  simp only [bk_s1, hi] at h1
  obtain ⟨d0, hv⟩ := Bool.and_eq_true_iff.mp (show (bk_dk (bk_cc j) pc (.ifCond .ge o) 3 nx && bk_tg pc o sw) = true from ok)
  obtain ⟨d, rfl⟩ := bk_dk_sp d0
  cases sw with
  | nil => exact h1.elim
  | cons q r =>
    obtain ⟨x, r, rfl, h1⟩ := bk_x1_el h1
    exact lv_if_ge hx hb d (of_decide_eq_true hv) (fun z => h1.1 (Int32.not_lt.mpr z) H ls locs hL hl hR hlo c1 c2) (fun z => h1.2 (Int32.not_le.mp z) H ls locs hL hl hR hlo c1 c2)
theorem bk_a_icmp_ge {o : Int} (K : bk_Cx p l e R s m args below meth c Z V N0 H00 D τ B j) : bk_Ok p l e R s m args below meth c Z V N0 H00 D τ B C j Q (.if_icmp .ge o) := by
  intro pc nx sw k L st h n cs hi h1 H ls locs hL hl hR hlo c1 c2
  have hx := K.1
  have hb := K.2.1
  have ok := (bk_okI hi).1
  simp only [bk_s1, hi] at h1
  obtain ⟨d0, hv⟩ := Bool.and_eq_true_iff.mp (show (bk_dk (bk_cc j) pc (.if_icmp .ge o) 3 nx && bk_tg pc o sw) = true from ok)
  obtain ⟨d, rfl⟩ := bk_dk_sp d0
  cases sw with
  | nil => exact h1.elim
  | cons q r =>
    obtain ⟨x, y, r, rfl, h1⟩ := bk_x2_el h1
    exact lv_icmp_ge hx hb d (of_decide_eq_true hv) (fun z => h1.1 (Int32.not_lt.mpr z) H ls locs hL hl hR hlo c1 c2) (fun z => h1.2 (Int32.not_le.mp z) H ls locs hL hl hR hlo c1 c2)
theorem bk_a_if_gt {o : Int} (K : bk_Cx p l e R s m args below meth c Z V N0 H00 D τ B j) : bk_Ok p l e R s m args below meth c Z V N0 H00 D τ B C j Q (.ifCond .gt o) := by
  intro pc nx sw k L st h n cs hi h1 H ls locs hL hl hR hlo c1 c2
  have hx := K.1
  have hb := K.2.1
  have ok := (bk_okI hi).1
  simp only [bk_s1, hi] at h1
  obtain ⟨d0, hv⟩ := Bool.and_eq_true_iff.mp (show (bk_dk (bk_cc j) pc (.ifCond .gt o) 3 nx && bk_tg pc o sw) = true from ok)
  obtain ⟨d, rfl⟩ := bk_dk_sp d0
  cases sw with
  | nil => exact h1.elim
  | cons q r =>
    obtain ⟨x, r, rfl, h1⟩ := bk_x1_el h1
    exact lv_if_gt hx hb d (of_decide_eq_true hv) (fun z => h1.1 z H ls locs hL hl hR hlo c1 c2) (fun z => h1.2 z H ls locs hL hl hR hlo c1 c2)
theorem bk_a_icmp_gt {o : Int} (K : bk_Cx p l e R s m args below meth c Z V N0 H00 D τ B j) : bk_Ok p l e R s m args below meth c Z V N0 H00 D τ B C j Q (.if_icmp .gt o) := by
  intro pc nx sw k L st h n cs hi h1 H ls locs hL hl hR hlo c1 c2
  have hx := K.1
  have hb := K.2.1
  have ok := (bk_okI hi).1
  simp only [bk_s1, hi] at h1
  obtain ⟨d0, hv⟩ := Bool.and_eq_true_iff.mp (show (bk_dk (bk_cc j) pc (.if_icmp .gt o) 3 nx && bk_tg pc o sw) = true from ok)
  obtain ⟨d, rfl⟩ := bk_dk_sp d0
  cases sw with
  | nil => exact h1.elim
  | cons q r =>
    obtain ⟨x, y, r, rfl, h1⟩ := bk_x2_el h1
    exact lv_icmp_gt hx hb d (of_decide_eq_true hv) (fun z => h1.1 z H ls locs hL hl hR hlo c1 c2) (fun z => h1.2 z H ls locs hL hl hR hlo c1 c2)
theorem bk_a_if_le {o : Int} (K : bk_Cx p l e R s m args below meth c Z V N0 H00 D τ B j) : bk_Ok p l e R s m args below meth c Z V N0 H00 D τ B C j Q (.ifCond .le o) := by
  intro pc nx sw k L st h n cs hi h1 H ls locs hL hl hR hlo c1 c2
  have hx := K.1
  have hb := K.2.1
  have ok := (bk_okI hi).1
  simp only [bk_s1, hi] at h1
  obtain ⟨d0, hv⟩ := Bool.and_eq_true_iff.mp (show (bk_dk (bk_cc j) pc (.ifCond .le o) 3 nx && bk_tg pc o sw) = true from ok)
  obtain ⟨d, rfl⟩ := bk_dk_sp d0
  cases sw with
  | nil => exact h1.elim
  | cons q r =>
    obtain ⟨x, r, rfl, h1⟩ := bk_x1_el h1
    exact lv_if_le hx hb d (of_decide_eq_true hv) (fun z => h1.1 (Int32.not_lt.mpr z) H ls locs hL hl hR hlo c1 c2) (fun z => h1.2 (Int32.not_le.mp z) H ls locs hL hl hR hlo c1 c2)
theorem bk_a_icmp_le {o : Int} (K : bk_Cx p l e R s m args below meth c Z V N0 H00 D τ B j) : bk_Ok p l e R s m args below meth c Z V N0 H00 D τ B C j Q (.if_icmp .le o) := by
  intro pc nx sw k L st h n cs hi h1 H ls locs hL hl hR hlo c1 c2
  have hx := K.1
  have hb := K.2.1
  have ok := (bk_okI hi).1
  simp only [bk_s1, hi] at h1
  obtain ⟨d0, hv⟩ := Bool.and_eq_true_iff.mp (show (bk_dk (bk_cc j) pc (.if_icmp .le o) 3 nx && bk_tg pc o sw) = true from ok)
  obtain ⟨d, rfl⟩ := bk_dk_sp d0
  cases sw with
  | nil => exact h1.elim
  | cons q r =>
    obtain ⟨x, y, r, rfl, h1⟩ := bk_x2_el h1
    exact lv_icmp_le hx hb d (of_decide_eq_true hv) (fun z => h1.1 (Int32.not_lt.mpr z) H ls locs hL hl hR hlo c1 c2) (fun z => h1.2 (Int32.not_le.mp z) H ls locs hL hl hR hlo c1 c2)
theorem bk_any_sp {cc : ByteArray} {pc : Nat} {I : Instr} (h : bk_any cc pc I = true) : ∃ k, decode cc pc = .ok (I, k) := by
  unfold bk_any at h
  split at h
  · rename_i x hx
    obtain ⟨I', k⟩ := x
    have e : I' = I := of_decide_eq_true h
    subst e
    exact ⟨k, hx⟩
  · cases h
theorem bk_swT_go {pc : Nat} {x : Int32} {K : Nat → Prop} {d : Nat} : ∀ (offs : List Int) (sw : List (Int32 × Nat)) (lo : Int), bk_swT pc lo offs sw = true → bk_sw x K d sw →
    (∃ (i : Nat) (o : Int) (t : Nat), offs[i]? = some o ∧ x.toInt = lo + i ∧ (pc : Int) + o = (t : Int) ∧ K t) ∨ ((x.toInt < lo ∨ lo + (offs.length : Int) - 1 < x.toInt) ∧ K d) := by
  intro offs
  induction offs with
  | nil =>
    intro sw lo h1 h2
    cases sw with
    | nil => exact Or.inr ⟨by simp only [List.length_nil]; omega, h2⟩
    | cons q r => cases h1
  | cons o os ih =>
    intro sw lo h1 h2
    cases sw with
    | nil => cases h1
    | cons q r =>
      obtain ⟨h3, h4⟩ := Bool.and_eq_true_iff.mp (show (decide ((pc : Int) + o = (q.2 : Int)) && decide (q.1.toInt = lo) && bk_swT pc (lo + 1) os r) = true from h1)
      obtain ⟨h5, h6⟩ := Bool.and_eq_true_iff.mp h3
      have h5 := of_decide_eq_true h5
      have h6 := of_decide_eq_true h6
      by_cases hx : x = q.1
      · exact Or.inl ⟨0, o, q.2, rfl, by rw [hx, h6]; omega, h5, h2.1 hx⟩
      · have hne : ¬ x.toInt = lo := fun z => hx (Int32.toInt_inj.mp (z.trans h6.symm))
        rcases ih r (lo + 1) h4 (h2.2 hx) with ⟨i, o', t, g1, g2, g3, g4⟩ | ⟨g1, g2⟩
        · exact Or.inl ⟨i + 1, o', t, g1, by rw [g2]; omega, g3, g4⟩
        · refine Or.inr ⟨?_, g2⟩
          rw [List.length_cons]
          omega
theorem bk_swL_go {pc : Nat} {x : Int32} {K : Nat → Prop} {d : Nat} {dflt : Int} (hd : (pc : Int) + dflt = (d : Int)) : ∀ (ps : List (Int × Int)) (sw : List (Int32 × Nat)), bk_swL pc ps sw = true → bk_sw x K d sw →
    ∃ t : Nat, (pc : Int) + Op.lookupswitch.offset ps dflt x.toInt = (t : Int) ∧ K t := by
  intro ps
  induction ps with
  | nil =>
    intro sw h1 h2
    cases sw with
    | nil => exact ⟨d, hd, h2⟩
    | cons q r => cases h1
  | cons o os ih =>
    intro sw h1 h2
    cases sw with
    | nil => cases h1
    | cons q r =>
      obtain ⟨h3, h4⟩ := Bool.and_eq_true_iff.mp (show (decide ((pc : Int) + o.2 = (q.2 : Int)) && decide (q.1.toInt = o.1) && bk_swL pc os r) = true from h1)
      obtain ⟨h5, h6⟩ := Bool.and_eq_true_iff.mp h3
      have h5 := of_decide_eq_true h5
      have h6 := of_decide_eq_true h6
      obtain ⟨a, b⟩ := o
      dsimp only at h5 h6
      by_cases hx : x = q.1
      · refine ⟨q.2, ?_, h2.1 hx⟩
        rw [hx, h6]
        simp only [Op.lookupswitch.offset, if_true, h5]
      · have hne : ¬ a = x.toInt := fun z => hx (Int32.toInt_inj.mp (h6.trans z).symm)
        obtain ⟨t, g1, g2⟩ := ih r h4 (h2.2 hx)
        refine ⟨t, ?_, g2⟩
        simp only [Op.lookupswitch.offset]
        rw [if_neg (by first | exact hne | exact fun z => hne z.symm)]
        exact g1
theorem bk_a_table {d0 lo hi : Int} {offs : Array Int} (K : bk_Cx p l e R s m args below meth c Z V N0 H00 D τ B j) : bk_Ok p l e R s m args below meth c Z V N0 H00 D τ B C j Q (.tableswitch d0 lo hi offs) := by
  intro pc nx sw k L st h n cs hin h1 H ls locs hL hl hR hlo c1 c2
  have hx := K.1
  have hb := K.2.1
  have ok := (bk_okI hin).1
  simp only [bk_s1, hin] at h1
  obtain ⟨ok, q4⟩ := Bool.and_eq_true_iff.mp (show (bk_any (bk_cc j) pc (.tableswitch d0 lo hi offs) && decide ((pc : Int) + d0 = (nx : Int)) && bk_swT pc lo offs.toList sw && decide (hi = lo + (offs.toList.length : Int) - 1)) = true from ok)
  obtain ⟨ok, q3⟩ := Bool.and_eq_true_iff.mp ok
  obtain ⟨q1, q2⟩ := Bool.and_eq_true_iff.mp ok
  obtain ⟨len, d⟩ := bk_any_sp q1
  have q2 := of_decide_eq_true q2
  have q4 := of_decide_eq_true q4
  obtain ⟨x, r, rfl, h1⟩ := bk_x1_el h1
  rcases bk_swT_go offs.toList sw lo q3 h1 with ⟨i, o, t, g1, g2, g3, g4⟩ | ⟨g1, g2⟩
  · have hlt : i < offs.toList.length := (List.getElem?_eq_some_iff.mp g1).1
    refine lv_tableIn hx hb d (by omega) (by omega) (off := o) ?_ g3 (g4 H ls locs hL hl hR hlo c1 c2)
    rw [show (x.toInt - lo).toNat = i by omega, ← Array.getElem?_toList]
    exact g1
  · exact lv_tableOut hx hb d (by omega) q2 (g2 H ls locs hL hl hR hlo c1 c2)
theorem bk_a_lookup {d0 : Int} {ps : Array (Int × Int)} (K : bk_Cx p l e R s m args below meth c Z V N0 H00 D τ B j) : bk_Ok p l e R s m args below meth c Z V N0 H00 D τ B C j Q (.lookupswitch d0 ps) := by
  intro pc nx sw k L st h n cs hi h1 H ls locs hL hl hR hlo c1 c2
  have hx := K.1
  have hb := K.2.1
  have ok := (bk_okI hi).1
  simp only [bk_s1, hi] at h1
  obtain ⟨ok, q4⟩ := Bool.and_eq_true_iff.mp (show (bk_any (bk_cc j) pc (.lookupswitch d0 ps) && decide ((pc : Int) + d0 = (nx : Int)) && bk_swL pc ps.toList sw && (ps.toList.zip (ps.toList.drop 1)).all (fun (a, next) => a.1 < next.1)) = true from ok)
  obtain ⟨ok, q3⟩ := Bool.and_eq_true_iff.mp ok
  obtain ⟨q1, q2⟩ := Bool.and_eq_true_iff.mp ok
  obtain ⟨len, d⟩ := bk_any_sp q1
  have q2 := of_decide_eq_true q2
  obtain ⟨x, r, rfl, h1⟩ := bk_x1_el h1
  obtain ⟨t, g1, g2⟩ := bk_swL_go q2 ps.toList sw q3 h1
  exact lv_lookup hx hb d q4 rfl g1 (g2 H ls locs hL hl hR hlo c1 c2)

end BKP
