/-! THE BASE: what every method finds outside the abstract heap; the good words; the shapes of the classes. -/
def lw_G : List Cond := lw_tbl.filter goodWord
theorem bk_inG {i : Nat} {w : Cond} (h : bk_pos i w = true) : w ∈ lw_G := by
  obtain ⟨h1, h2⟩ := Bool.and_eq_true_iff.mp h
  exact List.mem_filter.mpr ⟨List.mem_of_getElem? (of_decide_eq_true h1), h2⟩
theorem bk_inT {i : Nat} {w : Cond} (h : bk_at? i w = true) : w ∈ lw_tbl := List.mem_of_getElem? (of_decide_eq_true h)
theorem bk_goodG {w : Cond} (h : w ∈ lw_G) : goodWord w = true := (List.mem_filter.mp h).2

def bk_lay : Nat → List Nat := fun c => (bif Nat.blt c 7 then (bif Nat.blt c 3 then (bif Nat.blt c 1 then [284, 286, 288, 290, 292, 294, 296] else (bif Nat.blt c 2 then [445, 447, 449, 451] else [])) else (bif Nat.blt c 5 then (bif Nat.blt c 4 then [329, 331, 333, 335, 337] else [406, 408, 410, 412, 414, 416, 418, 420, 422, 424, 426, 428, 430]) else (bif Nat.blt c 6 then [184, 186] else [350, 352, 354, 356]))) else (bif Nat.blt c 10 then (bif Nat.blt c 8 then [165, 167, 169, 171] else (bif Nat.blt c 9 then [140, 142] else [256, 258, 260, 262, 264, 266])) else (bif Nat.blt c 12 then (bif Nat.blt c 11 then [465, 467, 469, 471, 473, 475, 477, 479, 481, 483, 485] else [1251, 1253, 1255, 1257, 1259, 1261, 1263, 1265, 1267, 1269, 1271, 1273, 1275, 1277, 1279, 1281, 1283, 1285, 1287, 1289, 1291, 1293]) else (bif Nat.blt c 13 then [1345, 1347, 1349, 1351, 1353, 1355, 1357, 1359, 1361, 1363, 1365, 1367, 1369, 1371, 1373, 1375, 1377, 1379, 1381, 1383, 1385, 1387, 1389] else [1419, 1421, 1423, 1425, 1427, 1429, 1431, 1433, 1435, 1437, 1439, 1441, 1443, 1445, 1447]))))
def bk_lai : Nat → Nat × Nat := fun c => (bif Nat.blt c 7 then (bif Nat.blt c 3 then (bif Nat.blt c 1 then (270, 108) else (bif Nat.blt c 2 then (434, 112) else (0, 0))) else (bif Nat.blt c 5 then (bif Nat.blt c 4 then (300, 109) else (360, 111)) else (bif Nat.blt c 6 then (176, 103) else (341, 110)))) else (bif Nat.blt c 10 then (bif Nat.blt c 8 then (153, 101) else (bif Nat.blt c 9 then (133, 99) else (147, 100))) else (bif Nat.blt c 12 then (bif Nat.blt c 11 then (125, 98) else (1192, 114)) else (bif Nat.blt c 13 then (1297, 115) else (1186, 113)))))
def bk_lc (ci : Nat) : Bool := match bk_cls[ci]? with
  | some (C, T, N) => (List.range N).all (fun k => bk_pos ((bk_lay ci).getD k 0) (u_lay C T k)) && (Nat.beq N 0 || (bk_pos (bk_lai ci).1 (.instantiable C N) && bk_pos (bk_lai ci).2 (.initialized C)))
  | none => true
theorem bk_lcs : (List.range 14).all bk_lc = true := by decide +kernel
theorem bk_lc_ok {ci : Nat} {C : String} {T : u_T} {N : Nat} (h : bk_cls[ci]? = some (C, T, N)) : (∀ w ∈ u_ws C T N, w ∈ lw_G) ∧ (N = 0 ∨ (Cond.instantiable C N ∈ lw_G ∧ Cond.initialized C ∈ lw_G)) := by
  have hlt : ci < 14 := (List.getElem?_eq_some_iff.mp h).1
  have hq := List.all_eq_true.mp bk_lcs ci (List.mem_range.mpr hlt)
  unfold bk_lc at hq
  rw [h] at hq
  obtain ⟨h1, h2⟩ := Bool.and_eq_true_iff.mp hq
  refine ⟨fun w hw => ?_, ?_⟩
  · obtain ⟨k, hk, rfl⟩ := List.mem_map.mp hw
    exact bk_inG (List.all_eq_true.mp h1 k hk)
  · rcases Bool.or_eq_true_iff.mp h2 with h2 | h2
    · exact Or.inl (Nat.eq_of_beq_eq_true h2)
    · obtain ⟨h3, h4⟩ := Bool.and_eq_true_iff.mp h2
      exact Or.inr ⟨bk_inG h3, bk_inG h4⟩

theorem bk_cls_ty : ∀ (ci : Nat) (q : vw_C), bk_cls[ci]? = some q → (∀ k, k < q.2.2 → parseFieldDescriptor (q.2.1 k).2.2.1 = some (bk_fty ci k)) ∧ (∀ a, a < q.2.2 → ∀ b, b < q.2.2 → a ≠ b → (q.2.1 a).2.1 ≠ (q.2.1 b).2.1) ∧ (bk_blank ci).length = q.2.2 ∧ (∀ j, j < q.2.2 → defaultValue (bk_fty ci j) = vp_V (bk_blank ci) j) ∧ q.1 = bk_rn ci
  | 0, q, h => by
    cases h
    exact ⟨tyX0_ok, nmX0, rfl, by decide +kernel, rfl⟩
  | 1, q, h => by
    cases h
    exact ⟨tyX1_ok, nmX1, rfl, by decide +kernel, rfl⟩
  | 2, q, h => by
    cases h
    exact ⟨fun k hk => absurd hk (Nat.not_lt_zero k), fun k hk => absurd hk (Nat.not_lt_zero k), rfl, fun k hk => absurd hk (Nat.not_lt_zero k), rfl⟩
  | 3, q, h => by
    cases h
    exact ⟨tyX3_ok, nmX3, rfl, by decide +kernel, rfl⟩
  | 4, q, h => by
    cases h
    exact ⟨tyX4_ok, nmX4, rfl, by decide +kernel, rfl⟩
  | 5, q, h => by
    cases h
    exact ⟨tyX5_ok, nmX5, rfl, by decide +kernel, rfl⟩
  | 6, q, h => by
    cases h
    exact ⟨tyX6_ok, nmX6, rfl, by decide +kernel, rfl⟩
  | 7, q, h => by
    cases h
    exact ⟨tyX7_ok, nmX7, rfl, by decide +kernel, rfl⟩
  | 8, q, h => by
    cases h
    exact ⟨tyX8_ok, nmX8, rfl, by decide +kernel, rfl⟩
  | 9, q, h => by
    cases h
    exact ⟨tyX9_ok, nmX9, rfl, by decide +kernel, rfl⟩
  | 10, q, h => by
    cases h
    exact ⟨tyX10_ok, nmX10, rfl, by decide +kernel, rfl⟩
  | 11, q, h => by
    cases h
    exact ⟨tyX11_ok, nmX11, rfl, by decide +kernel, rfl⟩
  | 12, q, h => by
    cases h
    exact ⟨tyX12_ok, nmX12, rfl, by decide +kernel, rfl⟩
  | 13, q, h => by
    cases h
    exact ⟨tyX13_ok, nmX13, rfl, by decide +kernel, rfl⟩
  | ci + 14, q, h => nomatch h
/-- a literal: an object of String, its coder, its bytes -/
def bk_St (a : Nat) (bs : List Int32) (N0 : Nat) (U : State) (H : Heap) : Prop := ∃ q : Nat, va_O "java/lang/String" a (fun q => N0 ≤ q) U H ∧ va_OF "java/lang/String" "coder" "B" (.int 0) a (fun q => N0 ≤ q) U H ∧ va_OF "java/lang/String" "value" "[B" (.ref q) a (fun q => N0 ≤ q) U H ∧ va_T .byte q bs.length (fun j => .int (bs.getD j 0)) (fun q => N0 ≤ q) U H
theorem bk_St.moved {a : Nat} {bs : List Int32} {N0 : Nat} {u U : State} {H : Heap} (hvm : u.vm.Alike U.vm) (h : bk_St a bs N0 u H) : bk_St a bs N0 U H := by
  obtain ⟨q, h1, h2, h3, h4⟩ := h
  exact ⟨q, h1.moved hvm, h2.moved hvm, h3.moved hvm, h4.moved hvm⟩
theorem bk_St.kept {a : Nat} {bs : List Int32} {N0 : Nat} {U : State} {H H1 : Heap} (h : bk_St a bs N0 U H) (hq : ∀ a : Nat, a < H.size → ¬ N0 ≤ a → H1[a]? = H[a]?) : bk_St a bs N0 U H1 := by
  obtain ⟨q, h1, h2, h3, h4⟩ := h
  exact ⟨q, h1.kept hq, h2.kept hq, h3.kept hq, h4.kept hq⟩
/-- what is fixed outside the abstract heap, as a state's tables have it over the heap H00 -/
def bk_Bs (V : bk_V) (N0 : Nat) (H00 : Heap) (D : va_G) (τ : Nat → ClassId) (U : State) : Prop :=
  va_K D bk_cls [(τ 0, .int), (τ 1, .long), (τ 2, .byte)] U ∧ H00.size = N0 ∧ va_X V.1 V.2.1 V.2.2.1 U H00 ∧ V.1 < N0 ∧
  va_Z "BarkMakersModel" "WORDS" "[Ljava/lang/String;" (.ref V.2.2.2.1) (fun q => N0 ≤ q) U H00 ∧
  va_T (.object "java/lang/String") V.2.2.2.1 29 (fun i => .ref (V.2.2.2.2 (bk_wd i))) (fun q => N0 ≤ q) U H00 ∧
  vx_Zq Bundle.tN "UNASSIGNED_STACK" Bundle.steD (fun q => N0 ≤ q) U H00 ∧ vx_Zq Bundle.tN "SUPPRESSED_SENTINEL" Bundle.listD (fun q => N0 ≤ q) U H00 ∧
  (∀ own ix k pos, bk_str own ix = some (k, pos) → vk_R (bk_rn own) ix (bk_tx k) (V.2.2.2.2 k) U) ∧
  (∀ own k tx, Cond.stringRef own k tx ∈ lw_tbl → ∃ a, vk_R own k tx a U) ∧
  (∀ a i b n d h, Cond.fieldLinkNest a i b n d h ∈ lw_tbl → va_Nw (.fieldLinkNest a i b n d h) U) ∧
  (∀ a i x h, Cond.methodLinkNest a i x h ∈ lw_tbl → va_Nw (.methodLinkNest a i x h) U) ∧
  (∀ x, Cond.declares x ∈ lw_tbl → va_Nw (.declares x) U) ∧ (∀ a b, Cond.castable a b ∈ lw_tbl → va_Nw (.castable a b) U) ∧
  va_Nc "java/lang/IndexOutOfBoundsException" "java/lang/IllegalArgumentException" U ∧ va_Nc "java/lang/IllegalArgumentException" "java/lang/IndexOutOfBoundsException" U ∧
  va_Z "java/lang/String" "COMPACT_STRINGS" "Z" (.int 1) (fun q => N0 ≤ q) U H00 ∧ va_Zq "jdk/internal/util/Preconditions" "SIOOBE_FORMATTER" "Ljava/util/function/BiFunction;" (fun q => N0 ≤ q) U H00 ∧
  (∀ k, k < bk_nS → bk_St (V.2.2.2.2 k) (bk_sB k) N0 U H00)
theorem bk_Bs.moved {V : bk_V} {N0 : Nat} {H00 : Heap} {D : va_G} {τ : Nat → ClassId} {s U : State} (h : bk_Bs V N0 H00 D τ s) (hW : s.WarmedH U.vm) : bk_Bs V N0 H00 D τ U := by
  obtain ⟨h1, h2, h3, h4, h5, h6, h7, h8, h9, h10, h11, h12, h13, h14, h15, h16, h17, h18, h19⟩ := h
  have ha := hW.alike
  exact ⟨h1.moved ha, h2, h3.moved ha, h4, h5.moved ha, h6.moved ha, h7.moved ha, h8.moved ha, fun own ix k pos q => (h9 own ix k pos q).warm hW,
    fun own k tx q => by
      obtain ⟨a, g⟩ := h10 own k tx q
      exact ⟨a, g.warm hW⟩,
    fun a i b n d h q => (h11 a i b n d h q).warmF hW, fun a i x h q => (h12 a i x h q).warmM hW, fun x q => (h13 x q).warmD hW, fun a b q => (h14 a b q).warmC hW, h15.moved ha, h16.moved ha, h17.moved ha, h18.moved ha, fun k hk => (h19 k hk).moved ha⟩
/-- the goal of a walk, from a place on -/
def bk_Wp (p : Program) (l : Launch) (e : Env) (R : Room) (s : State) (m : MethodId) (args : Array Value) (below : List Frame) (meth : Method) (c : Code) (Z : State → Prop) (_ : bk_V) (N0 : Nat) (H00 : Heap) (D : va_G) (τ : Nat → ClassId) (B : Nat × Nat) (mx : Nat)
    (pc : Nat) (L : bk_L) (st : List Value) (h : bk_H) (n : Nat) (cs : Nat × Nat) : Prop :=
  ∀ (H : Heap) (ls : Array Slot) (locs : List Loc), bk_LR ls L → L.length = mx → bk_Rl N0 H00 D τ h n H → (∀ z ∈ locs, N0 ≤ z.base) → cs.1 ≤ B.1 → cs.2 ≤ B.2 → W p l e R s m args below meth c H locs cs.1 cs.2 Z (F0 m pc ls st)
/-- what a walk knows of its method: the machine, the code, its class, the good words, the base, the room -/
def bk_Cx (p : Program) (_ : Launch) (_ : Env) (R : Room) (s : State) (m : MethodId) (args : Array Value) (_ : List Frame) (meth : Method) (c : Code) (_ : State → Prop) (V : bk_V) (N0 : Nat) (H00 : Heap) (D : va_G) (τ : Nat → ClassId) (B : Nat × Nat) (j : Nat) : Prop :=
  p.tables.exec = Jvm.exec ∧ c.code = bk_cc j ∧ c.maxLocals = bk_max j ∧ s.vm.findClass (bk_rn (bk_own j)) = some m.cls ∧ (∀ w ∈ lw_G, w.before args s = true) ∧ bk_Bs V N0 H00 D τ s ∧ B.1 ≤ R.cells ∧ B.2 ≤ R.slots ∧
  (N0 ≤ s.heap.size ∧ ∀ q : Nat, q < N0 → s.heap[q]? = H00[q]?) ∧ 11 ≤ R.frames ∧ 445 ≤ R.locals ∧ meth.locks = false ∧ ((bk_y j).name = "<init>" → meth.name = "<init>")
def bk_Ok (p : Program) (l : Launch) (e : Env) (R : Room) (s : State) (m : MethodId) (args : Array Value) (below : List Frame) (meth : Method) (c : Code) (Z : State → Prop) (V : bk_V) (N0 : Nat) (H00 : Heap) (D : va_G) (τ : Nat → ClassId) (B : Nat × Nat) (C : bk_P) (j : Nat) (Q : bk_R → bk_H → Nat → Prop) (I : Instr) : Prop :=
  ∀ (pc nx : Nat) (sw : List (Int32 × Nat)) (k : Int32) (L : bk_L) (st : List Value) (h : bk_H) (n : Nat) (cs : Nat × Nat), bk_ins j pc = some (I, nx, sw, k) →
    bk_s1 V C j pc L st h n cs B Q (bk_Wp p l e R s m args below meth c Z V N0 H00 D τ B (bk_max j)) → bk_Wp p l e R s m args below meth c Z V N0 H00 D τ B (bk_max j) pc L st h n cs
theorem bk_dk_sp {cc : ByteArray} {pc : Nat} {I : Instr} {k nx : Nat} (h : bk_dk cc pc I k nx = true) : decode cc pc = .ok (I, k) ∧ nx = pc + k := by
  obtain ⟨h1, h2⟩ := Bool.and_eq_true_iff.mp h
  exact ⟨of_decide_eq_true h1, Nat.eq_of_beq_eq_true h2⟩
theorem bk_okI {j pc : Nat} {e : bk_I} (h : bk_ins j pc = some e) : bk_ok (bk_cc j) pc e = true ∧ bk_xt (bk_m j) pc e = true := by
  have h0 : (bk_m j).1 pc = some e := h
  have h1 := (bk_rI j).2 pc ((bk_rI j).1 pc e h0)
  unfold bk_ck at h1
  rw [h0] at h1
  exact Bool.and_eq_true_iff.mp h1
theorem bk_gd_el {b : Bool} {P : Prop} (h : bk_gd b P) : b = true ∧ P := by
  cases b
  · exact h.elim
  · exact ⟨rfl, h⟩
theorem bk_blt {a b : Nat} (h : Nat.blt a b = true) : a < b := Nat.lt_of_lt_of_le (Nat.lt_succ_self a) (Nat.le_of_ble_eq_true h)
theorem bk_x1_el {st : List Value} {f : Int32 → List Value → Prop} (h : bk_x1 st f) : ∃ x r, st = .int x :: r ∧ f x r := by
  unfold bk_x1 at h
  split at h
  · exact ⟨_, _, rfl, h⟩
  · exact h.elim
theorem bk_x2_el {st : List Value} {f : Int32 → Int32 → List Value → Prop} (h : bk_x2 st f) : ∃ x y r, st = .int y :: .int x :: r ∧ f x y r := by
  unfold bk_x2 at h
  split at h
  · exact ⟨_, _, _, rfl, h⟩
  · exact h.elim
theorem bk_xl_el {st : List Value} {f : Int64 → Int64 → List Value → Prop} (h : bk_xl st f) : ∃ x y r, st = .long y :: .long x :: r ∧ f x y r := by
  unfold bk_xl at h
  split at h
  · exact ⟨_, _, _, rfl, h⟩
  · exact h.elim
theorem bk_xd_el {st : List Value} {f : UInt64 → UInt64 → List Value → Prop} (h : bk_xd st f) : ∃ x y r, st = .double y :: .double x :: r ∧ f x y r := by
  unfold bk_xd at h
  split at h
  · exact ⟨_, _, _, rfl, h⟩
  · exact h.elim
theorem bk_ldi_el {L : bk_L} {k : Nat} {f : Int32 → Prop} (h : bk_ldi L k f) : ∃ x, L[k]? = some (some (.int x)) ∧ f x := by
  unfold bk_ldi at h
  split at h
  · rename_i x hx
    exact ⟨x, hx, h⟩
  · exact h.elim
theorem bk_ldl_el {L : bk_L} {k : Nat} {f : Int64 → Prop} (h : bk_ldl L k f) : ∃ x, L[k]? = some (some (.long x)) ∧ f x := by
  unfold bk_ldl at h
  split at h
  · rename_i x hx
    exact ⟨x, hx, h⟩
  · exact h.elim
theorem bk_ldd_el {L : bk_L} {k : Nat} {f : UInt64 → Prop} (h : bk_ldd L k f) : ∃ x, L[k]? = some (some (.double x)) ∧ f x := by
  unfold bk_ldd at h
  split at h
  · rename_i x hx
    exact ⟨x, hx, h⟩
  · exact h.elim
theorem bk_lda_el {L : bk_L} {k : Nat} {f : Nat → Prop} (h : bk_lda L k f) : ∃ x, L[k]? = some (some (.ref x)) ∧ f x := by
  unfold bk_lda at h
  split at h
  · rename_i x hx
    exact ⟨x, hx, h⟩
  · exact h.elim
section BKW
variable {p : Program} {l : Launch} {e : Env} {R : Room} {s : State} {m : MethodId} {args : Array Value} {below : List Frame} {meth : Method} {c : Code} {H : Heap} {locs : List Loc} {cells slots : Nat} {Q : State → Prop}
/-- the heap of a walk doesn't shrink -/
theorem bk_grow {g : JFrame} (k : s.heap.size ≤ H.size → W p l e R s m args below meth c H locs cells slots Q g) : W p l e R s m args below meth c H locs cells slots Q g := by
  intro T hT X
  exact k (by rw [← hT]; exact (vx_frame X.same).1) T hT X
end BKW
theorem bk_P1 {D : va_G} {cl : List vw_C} {q : Nat × va_E} {H : Heap} (h : va_at D cl q H) : va_P D cl [q] H := by
  intro k x hx
  cases k with
  | zero => cases hx; exact h
  | succ k => exact nomatch hx
theorem bk_Rl.at {N0 : Nat} {H00 : Heap} {D : va_G} {τ : Nat → ClassId} {h : bk_H} {n : Nat} {H : Heap} {a : Nat} {e : bk_E} (r : bk_Rl N0 H00 D τ h n H) (ha : h a = some e) : N0 ≤ a ∧ va_P D bk_cls [(a, bk_cv τ e)] H := ⟨(r.2.2.2 a e ha).1, bk_P1 (r.2.2.2 a e ha).2⟩
