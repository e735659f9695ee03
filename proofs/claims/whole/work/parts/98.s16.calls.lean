/-! CALLS: contracts, what a call needs, what comes back. -/
theorem bk_Bs.nestM {V : bk_V} {N0 : Nat} {H00 : Heap} {D : va_G} {τ : Nat → ClassId} {U : State} (h : bk_Bs V N0 H00 D τ U) {a : String} {i : Nat} {x : MethodName} {hh : String} (q : Cond.methodLinkNest a i x hh ∈ lw_tbl) : va_Nw (.methodLinkNest a i x hh) U := by
  obtain ⟨h1, h2, h3, h4, h5, h6, h7, h8, h9, h10, h11, h12, h13, h14, h15, h16, h17, h18, h19⟩ := h
  exact h12 _ _ _ _ q
theorem bk_Bs.decl {V : bk_V} {N0 : Nat} {H00 : Heap} {D : va_G} {τ : Nat → ClassId} {U : State} (h : bk_Bs V N0 H00 D τ U) {x : MethodName} (q : Cond.declares x ∈ lw_tbl) : va_Nw (.declares x) U := by
  obtain ⟨h1, h2, h3, h4, h5, h6, h7, h8, h9, h10, h11, h12, h13, h14, h15, h16, h17, h18, h19⟩ := h
  exact h13 _ q
theorem bk_Bs.cast {V : bk_V} {N0 : Nat} {H00 : Heap} {D : va_G} {τ : Nat → ClassId} {U : State} (h : bk_Bs V N0 H00 D τ U) {a b : String} (q : Cond.castable a b ∈ lw_tbl) : va_Nw (.castable a b) U := by
  obtain ⟨h1, h2, h3, h4, h5, h6, h7, h8, h9, h10, h11, h12, h13, h14, h15, h16, h17, h18, h19⟩ := h
  exact h14 _ _ q
theorem bk_Bs.nc {V : bk_V} {N0 : Nat} {H00 : Heap} {D : va_G} {τ : Nat → ClassId} {U : State} (h : bk_Bs V N0 H00 D τ U) : va_Nc "java/lang/IndexOutOfBoundsException" "java/lang/IllegalArgumentException" U ∧ va_Nc "java/lang/IllegalArgumentException" "java/lang/IndexOutOfBoundsException" U := by
  obtain ⟨h1, h2, h3, h4, h5, h6, h7, h8, h9, h10, h11, h12, h13, h14, h15, h16, h17, h18, h19⟩ := h
  exact ⟨h15, h16⟩
theorem bk_Bs.zq {V : bk_V} {N0 : Nat} {H00 : Heap} {D : va_G} {τ : Nat → ClassId} {U : State} (h : bk_Bs V N0 H00 D τ U) : H00.size = N0 ∧ vx_Zq Bundle.tN "UNASSIGNED_STACK" Bundle.steD (fun q => N0 ≤ q) U H00 ∧ vx_Zq Bundle.tN "SUPPRESSED_SENTINEL" Bundle.listD (fun q => N0 ≤ q) U H00 := by
  obtain ⟨h1, h2, h3, h4, h5, h6, h7, h8, h9, h10, h11, h12, h13, h14, h15, h16, h17, h18, h19⟩ := h
  exact ⟨h2, h7, h8⟩
theorem bk_Bs.lit {V : bk_V} {N0 : Nat} {H00 : Heap} {D : va_G} {τ : Nat → ClassId} {U : State} (h : bk_Bs V N0 H00 D τ U) {own tx : String} {k : Nat} (q : Cond.stringRef own k tx ∈ lw_tbl) : ∃ a, vk_R own k tx a U := by
  obtain ⟨h1, h2, h3, h4, h5, h6, h7, h8, h9, h10, h11, h12, h13, h14, h15, h16, h17, h18, h19⟩ := h
  exact h10 _ _ _ q
theorem bk_Bs.str {V : bk_V} {N0 : Nat} {H00 : Heap} {D : va_G} {τ : Nat → ClassId} {U : State} (h : bk_Bs V N0 H00 D τ U) : va_Z "java/lang/String" "COMPACT_STRINGS" "Z" (.int 1) (fun q => N0 ≤ q) U H00 ∧ va_Zq "jdk/internal/util/Preconditions" "SIOOBE_FORMATTER" "Ljava/util/function/BiFunction;" (fun q => N0 ≤ q) U H00 ∧ (∀ k, k < bk_nS → bk_St (V.2.2.2.2 k) (bk_sB k) N0 U H00) := by
  obtain ⟨h1, h2, h3, h4, h5, h6, h7, h8, h9, h10, h11, h12, h13, h14, h15, h16, h17, h18, h19⟩ := h
  exact ⟨h17, h18, h19⟩
def bk_hk (k : Nat) : Bool := (bk_hh k).isEmpty || (!bk_vI k && !bk_vV k)
theorem bk_hks : (List.range 246).all bk_hk = true := by decide +kernel
theorem bk_hh_nil {k : Nat} (hk : k < 246) (h : bk_vI k = true ∨ bk_vV k = true) : bk_hh k = [] := by
  have h1 := List.all_eq_true.mp bk_hks k (List.mem_range.mpr hk)
  unfold bk_hk at h1
  rcases Bool.or_eq_true_iff.mp h1 with h1 | h1
  · exact List.isEmpty_iff.mp h1
  · obtain ⟨h2, h3⟩ := Bool.and_eq_true_iff.mp h1
    rcases h with h | h
    · rw [h] at h2; exact nomatch h2
    · rw [h] at h3; exact nomatch h3
theorem bk_wC_nil {k : Nat} (h : bk_hh k = []) : bk_wC (bk_m k) = .code (bk_y k) (bk_cc k) (bk_max k) (bk_ret k) := by
  unfold bk_wC
  rw [show (bk_m k).2.2.2.2.2.2.2.2.1 = [] from h]
  rfl
theorem bk_wC_cons {k : Nat} {q : Nat × Nat × Nat × Nat} {r : List (Nat × Nat × Nat × Nat)} (h : bk_hh k = q :: r) : bk_wC (bk_m k) = .codeWith (bk_y k) (bk_cc k) (bk_max k) (bk_ret k) (q :: r) := by
  unfold bk_wC
  rw [show (bk_m k).2.2.2.2.2.2.2.2.1 = q :: r from h]
  rfl
/-- what the tables say of a method that is not the law's own -/
theorem bk_pw_sp {k : Nat} (hk : k < 246) : bk_wC (bk_m k) ∈ lw_G ∧ Cond.initialized (bk_y k).cls ∈ lw_G ∧ (bk_y k).cls = bk_rn (bk_own k) ∧ plainName (bk_y k).cls = true ∧ (bk_y k).cls ≠ "java/lang/invoke/MethodHandle" ∧ (bk_y k).cls ≠ "java/lang/invoke/VarHandle" ∧
    (parseMethodDescriptor (bk_y k).desc).map (fun d => d.parameters.length) = some (bk_np k) ∧ bk_max k ≤ 20 := by
  have h : bk_pw (bk_m k) = true := bk_rW k
  unfold bk_pw at h
  rcases Bool.or_eq_true_iff.mp h with h | h
  · exact absurd (of_decide_eq_true h) (bk_y_ne hk)
  · obtain ⟨h, -⟩ := Bool.and_eq_true_iff.mp h
    obtain ⟨h, h8⟩ := Bool.and_eq_true_iff.mp h
    obtain ⟨h, h7⟩ := Bool.and_eq_true_iff.mp h
    obtain ⟨h, h6⟩ := Bool.and_eq_true_iff.mp h
    obtain ⟨h, h5⟩ := Bool.and_eq_true_iff.mp h
    obtain ⟨h, h4⟩ := Bool.and_eq_true_iff.mp h
    obtain ⟨h, h3⟩ := Bool.and_eq_true_iff.mp h
    obtain ⟨h1, h2⟩ := Bool.and_eq_true_iff.mp h
    exact ⟨bk_inG h1, bk_inG h2, of_decide_eq_true h3, h4, of_decide_eq_true h5, of_decide_eq_true h6, of_decide_eq_true h7, of_decide_eq_true h8⟩
theorem bk_goodIn {w : Cond} (h : w ∈ lw_G) : GoodIn lw_G (w :: lw_G) := fun v hv => by
  have hm : v ∈ lw_G := (List.mem_cons.mp hv).elim (fun q => q ▸ h) id
  exact ⟨hm, good_of_word (bk_goodG hm)⟩
def bk_Qc (N0 : Nat) (H00 : Heap) (D : va_G) (τ : Nat → ClassId) (Q : bk_R → bk_H → Nat → Prop) : Array Value → State → Outcome → State → Prop := fun _ _ oc t => ∃ (v : Option Value) (h' : bk_H) (n' : Nat), oc = .returned v ∧ Q (.inl v) h' n' ∧ bk_Rl N0 H00 D τ h' n' t.heap
def bk_XC (N0 : Nat) (H00 : Heap) (D : va_G) (τ : Nat → ClassId) (Q : bk_R → bk_H → Nat → Prop) : String → State → State → Prop := fun E _ t => ∃ (h' : bk_H) (n' : Nat), Q (.inr E) h' n' ∧ bk_Rl N0 H00 D τ h' n' t.heap
def bk_PC (V : bk_V) (N0 : Nat) (H00 : Heap) (D : va_G) (τ : Nat → ClassId) (As : List Value) (h : bk_H) (n : Nat) : Array Value → State → Prop := va_Pc As (fun U => bk_Bs V N0 H00 D τ U ∧ bk_Rl N0 H00 D τ h n U.heap)
def bk_rm (f lo : Nat) (b : Nat × Nat) : Room := { frames := f, cells := b.1, slots := b.2, locals := lo }
def bk_Ct (l : Launch) (V : bk_V) (N0 : Nat) (H00 : Heap) (D : va_G) (τ : Nat → ClassId) (C : bk_P) (f lo : Nat) : Prop :=
  ∀ (k : Nat) (As : List Value) (h : bk_H) (n : Nat) (b : Nat × Nat) (Q : bk_R → bk_H → Nat → Prop), k < 246 → C k As h n b Q →
    vx_Met l (bk_y k) (bk_wC (bk_m k) :: lw_G) (bk_rm f lo b) (bk_PC V N0 H00 D τ As h n) (bk_Qc N0 H00 D τ Q) (bk_XC N0 H00 D τ Q) b.1 b.2 (fun q => N0 ≤ q)
theorem bk_blind {V : bk_V} {N0 : Nat} {H00 : Heap} {D : va_G} {τ : Nat → ClassId} {As : List Value} {h : bk_H} {n : Nat} : FrameBlind (bk_PC V N0 H00 D τ As h n) := fun _ U _ _ hp => ⟨hp.1, hp.2.1.moved (State.WarmedH.refl U), hp.2.2⟩
theorem bk_met {l : Launch} {y : MethodName} {ws : List Cond} {rm : Room} {Pc : Array Value → State → Prop} {Qc : Array Value → State → Outcome → State → Prop} {XC : String → State → State → Prop} {mc ms : Nat} {free : Addr → Prop}
    (hM : vx_Met l y ws rm Pc Qc XC mc ms free) (hX : ∀ E st t, ¬ XC E st t) : Met l y ws rm Pc Qc mc ms free := by
  refine MetFree.mono hM (fun _ _ h => h) (fun _ _ _ _ _ h => h) (fun a s o s' _ h => ?_)
  rcases h with h | ⟨q, _, E, ce, L, hx, _⟩
  · exact h
  · exact (hX _ _ _ hx).elim
section BKC
variable {p : Program} {l : Launch} {e : Env} {R : Room} {s : State} {m : MethodId} {args : Array Value} {below : List Frame} {meth : Method} {c : Code} {Z : State → Prop} {V : bk_V} {N0 : Nat} {H00 : Heap} {D : va_G} {τ : Nat → ClassId} {C : bk_P} {j : Nat} {B : Nat × Nat} {Q : bk_R → bk_H → Nat → Prop}
theorem bk_back {H : Heap} {locs : List Loc} {cells slots mc ms pc : Nat} {ls : Array Slot} {st0 rest : List Value} {a : Array Value} {Q' : bk_R → bk_H → Nat → Prop}
    (hr : va_Run p l e R s m args below meth c H locs cells slots mc ms (F0 m pc ls st0) rest (bk_Qc N0 H00 D τ Q' a) (fun q => N0 ≤ q)) (hlo : ∀ z ∈ locs, N0 ≤ z.base)
    (kk : ∀ (v : Option Value) (h' : bk_H) (n' : Nat) (H1 : Heap) (locs1 : List Loc), Q' (.inl v) h' n' → bk_Rl N0 H00 D τ h' n' H1 → (∀ z ∈ locs1, N0 ≤ z.base) → W p l e R s m args below meth c H1 locs1 (cells + mc) (slots + ms) Z (F0 m (pc + 3) ls (v.toList ++ rest))) :
    W p l e R s m args below meth c H locs cells slots Z (F0 m pc ls st0) := by
  intro T hT X
  obtain ⟨v, st₀, t, T', L, h0, X', hL, e1, e2, ⟨v', h', n', hv, hp, hb⟩, st⟩ := hr T hT X
  cases hv
  obtain ⟨t2, a1, b1⟩ := kk v h' n' T'.heap (locs ++ L) hp (by rw [e1]; exact hb) (fun q hq => by
    rcases List.mem_append.mp hq with h | h
    · exact hlo q h
    · exact hL q h) T' rfl X'
  exact ⟨t2, st t2 a1, b1⟩
theorem bk_backX {H : Heap} {locs : List Loc} {cells slots mc ms pc : Nat} {ls : Array Slot} {st0 rest : List Value} {a : Array Value} {Q' : bk_R → bk_H → Nat → Prop}
    (hr : vx_Run p l e R s m args below meth c H locs cells slots mc ms (F0 m pc ls st0) rest (bk_Qc N0 H00 D τ Q' a) (bk_XC N0 H00 D τ Q') (fun q => N0 ≤ q)) (hlo : ∀ z ∈ locs, N0 ≤ z.base)
    (kk : ∀ (v : Option Value) (h' : bk_H) (n' : Nat) (H1 : Heap) (locs1 : List Loc), Q' (.inl v) h' n' → bk_Rl N0 H00 D τ h' n' H1 → (∀ z ∈ locs1, N0 ≤ z.base) → W p l e R s m args below meth c H1 locs1 (cells + mc) (slots + ms) Z (F0 m (pc + 3) ls (v.toList ++ rest)))
    (kx : ∀ (E : String) (h' : bk_H) (n' : Nat) (H1 : Heap) (locs1 : List Loc) (q : Addr) (ce : Cell), Q' (.inr E) h' n' → bk_Rl N0 H00 D τ h' n' H1 → (∀ z ∈ locs1, N0 ≤ z.base) → H1[q]? = some ce → ce.vm = .none → s.vm.findClass E = some ce.cls →
      vx_W p l e R s m args below meth c H1 locs1 (cells + mc) (slots + ms) Z (F0 m pc ls rest) q) :
    W p l e R s m args below meth c H locs cells slots Z (F0 m pc ls st0) := by
  intro T hT X
  rcases hr T hT X with ⟨v, st₀, t, T', L, h0, X', hL, e1, e2, ⟨v', h', n', hv, hp, hb⟩, st⟩ | ⟨q, st₀, t, T', L, E, ce, h0, X', hL, e1, e2, ⟨h', n', hp, hb⟩, hce, hcv, hcl, st⟩
  · cases hv
    obtain ⟨t2, a1, b1⟩ := kk v h' n' T'.heap (locs ++ L) hp (by rw [e1]; exact hb) (fun q hq => by
      rcases List.mem_append.mp hq with h | h
      · exact hlo q h
      · exact hL q h) T' rfl X'
    exact ⟨t2, st t2 a1, b1⟩
  · obtain ⟨t2, a1, b1⟩ := kx E h' n' T'.heap (locs ++ L) q ce hp (by rw [e1]; exact hb) (fun q hq => by
      rcases List.mem_append.mp hq with h | h
      · exact hlo q h
      · exact hL q h) (by rw [e1]; exact hce) hcv hcl T' rfl X'
    exact ⟨t2, st.trans a1, b1⟩
theorem bk_cat8 {rest : List Value} (h : rest.length ≤ 4) : (rest.map fun v => v.category).sum ≤ 8 := by
  have : ∀ r : List Value, (r.map fun v => v.category).sum ≤ 2 * r.length := by
    intro r
    induction r with
    | nil => simp
    | cons v r ih =>
      rw [List.map_cons, List.sum_cons, List.length_cons]
      rcases lv_cat v with q | q <;> omega
  have := this rest
  omega
theorem bk_npar {k : Nat} (hk : k < 246) : ∀ sig, parseMethodDescriptor (bk_y k).desc = some sig → bk_np k = sig.parameters.length := fun sig h => by
  have h2 := (bk_pw_sp hk).2.2.2.2.2.2.1
  rw [h] at h2
  exact (Option.some.inj h2).symm
theorem bk_cb {k ix f lo : Nat} {own : String} {b : Nat × Nat} (hk : k < 246) (hh : bk_hh k = []) (hts : ∀ w ∈ lw_G, w.before args s = true) (hfr : f + 1 ≤ R.frames) (hlo : 39 + lo ≤ R.locals) (hl : Cond.methodLink own ix (bk_y k) ∈ lw_G) :
    CallB R s args own ix (bk_y k) (bk_cc k) (bk_max k) (bk_ret k) (bk_wC (bk_m k) :: lw_G) (bk_rm f lo b) b.1 b.2 (bk_np k) := by
  obtain ⟨h1, h2, h3, h4, h5, h6, h7, h8⟩ := bk_pw_sp hk
  refine ⟨rfl, rfl, hfr, ?_, pay_in hts (bk_goodIn h1), ?_, ?_, hts _ h2, ⟨h5, h6⟩, bk_npar hk, hts _ hl⟩
  · show 8 + (bk_max k + 11) + lo ≤ R.locals
    omega
  · rw [bk_wC_nil hh]
    exact List.mem_cons_self
  · rw [← bk_wC_nil hh]
    exact hts _ h1
theorem bk_cn {k ix f lo : Nat} {own host : String} {b : Nat × Nat} (hk : k < 246) (hh : bk_hh k = []) (hts : ∀ w ∈ lw_G, w.before args s = true) (hfr : f + 1 ≤ R.frames) (hlo : 39 + lo ≤ R.locals) (hl : va_Nw (.methodLinkNest own ix (bk_y k) host) s) :
    va_CN R s args own ix (bk_y k) host (bk_cc k) (bk_max k) (bk_ret k) (bk_wC (bk_m k) :: lw_G) (bk_rm f lo b) b.1 b.2 (bk_np k) := by
  obtain ⟨h1, h2, h3, h4, h5, h6, h7, h8⟩ := bk_pw_sp hk
  refine ⟨⟨rfl, rfl, hfr, ?_, pay_in hts (bk_goodIn h1), ?_⟩, ?_, hts _ h2, ⟨h5, h6⟩, bk_npar hk, va_Nw.use rfl hl⟩
  · show 8 + (bk_max k + 11) + lo ≤ R.locals
    omega
  · rw [bk_wC_nil hh]
    exact List.mem_cons_self
  · rw [← bk_wC_nil hh]
    exact hts _ h1
theorem bk_cw {k ix f lo : Nat} {own : String} {b : Nat × Nat} {q : Nat × Nat × Nat × Nat} {r : List (Nat × Nat × Nat × Nat)} (hk : k < 246) (hh : bk_hh k = q :: r) (hts : ∀ w ∈ lw_G, w.before args s = true) (hfr : f + 1 ≤ R.frames) (hlo : 39 + lo ≤ R.locals) (hl : Cond.methodLink own ix (bk_y k) ∈ lw_G) (hst : Cond.static (bk_y k) ∈ lw_G) :
    vx_CSW R s args own ix (bk_y k) (bk_cc k) (bk_max k) (bk_ret k) (q :: r) (bk_wC (bk_m k) :: lw_G) (bk_rm f lo b) b.1 b.2 (bk_np k) := by
  obtain ⟨h1, h2, h3, h4, h5, h6, h7, h8⟩ := bk_pw_sp hk
  refine ⟨⟨rfl, rfl, hfr, ?_, pay_in hts (bk_goodIn h1), ?_⟩, ?_, hts _ h2, ⟨h5, h6⟩, bk_npar hk, hts _ hl, hts _ hst⟩
  · show 8 + (bk_max k + 11) + lo ≤ R.locals
    omega
  · rw [bk_wC_cons hh]
    exact List.mem_cons_self
  · rw [← bk_wC_cons hh]
    exact hts _ h1
theorem bk_pS {As : List Value} {h : bk_H} {n : Nat} {H : Heap} (hB : bk_Bs V N0 H00 D τ s) (hR : bk_Rl N0 H00 D τ h n H) : PreS s H (bk_PC V N0 H00 D τ As h n) As :=
  ⟨bk_blind, fun U hU hW => ⟨rfl, hB.moved hW, by rw [hU]; exact hR⟩⟩
theorem bk_pV {As : List Value} {h : bk_H} {n : Nat} {H : Heap} {b ci : Nat} {fs : List Value} (hB : bk_Bs V N0 H00 D τ s) (hR : bk_Rl N0 H00 D τ h n H) (ha : h b = some (.inr (ci, fs))) : PreV s H (bk_rn ci) b (bk_PC V N0 H00 D τ (.ref b :: As) h n) As := by
  obtain ⟨⟨C', T, N⟩, hc, -⟩ : ∃ q : vw_C, bk_cls[ci]? = some q ∧ _ := (hR.at ha).2 0 _ rfl
  have hC : C' = bk_rn ci := (bk_cls_ty ci _ hc).2.2.2.2
  subst hC
  exact ⟨bk_blind, va_recv hB.1 (hR.at ha).2 hc (q0 := 0) rfl, fun U hU hW => ⟨rfl, hB.moved hW, by rw [hU]; exact hR⟩⟩
/-- a call's end out of its run, where the callee doesn't throw -/
theorem bk_cl_go {k : Nat} {As rest st : List Value} {h : bk_H} {n : Nat} {cs : Nat × Nat} {pc : Nat} {L : bk_L} {H : Heap} {ls : Array Slot} {locs : List Loc}
    (hL : bk_LR ls L) (hl : L.length = bk_max j) (hlo : ∀ z ∈ locs, N0 ≤ z.base) (c1 : cs.1 ≤ B.1) (c2 : cs.2 ≤ B.2)
    (hrun : ∀ (b : Nat × Nat) (Q' : bk_R → bk_H → Nat → Prop), C k As h n b Q' → (∀ E h n, ¬ Q' (.inr E) h n) → rest.length ≤ 4 → cs.1 + b.1 ≤ B.1 → cs.2 + b.2 ≤ B.2 →
      va_Run p l e R s m args below meth c H locs cs.1 cs.2 b.1 b.2 (F0 m pc ls st) rest (bk_Qc N0 H00 D τ Q' As.toArray) (fun q => N0 ≤ q))
    (h1 : bk_cl C k As rest h n cs B (fun st h n cs => bk_Wp p l e R s m args below meth c Z V N0 H00 D τ B (bk_max j) (pc + 3) L st h n cs)) :
    W p l e R s m args below meth c H locs cs.1 cs.2 Z (F0 m pc ls st) := by
  obtain ⟨g1, g2⟩ := bk_gd_el h1
  have hr4 : rest.length ≤ 4 := Nat.le_of_ble_eq_true g1
  rcases g2 with g2 | ⟨b, g3, g4, g2⟩
  · refine bk_back (hrun (0, 0) _ g2 (fun E h n q => q) hr4 c1 c2) hlo fun v h' n' H1 locs1 q1 q2 q3 => ?_
    exact q1 H1 ls locs1 hL hl q2 q3 c1 c2
  · refine bk_back (hrun b _ g2 (fun E h n q => q) hr4 g3 g4) hlo fun v h' n' H1 locs1 q1 q2 q3 => ?_
    exact q1 H1 ls locs1 hL hl q2 q3 g3 g4
theorem bk_xno {Q' : bk_R → bk_H → Nat → Prop} (hQ : ∀ E h n, ¬ Q' (.inr E) h n) : ∀ E st t, ¬ bk_XC N0 H00 D τ Q' E st t := fun _ _ _ ⟨_, _, h, _⟩ => hQ _ _ _ h
end BKC
