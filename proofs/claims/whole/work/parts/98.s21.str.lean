/-! STRING'S METHODS AT A LITERAL. -/
def bk_SP (V : bk_V) (N0 : Nat) (H00 : Heap) (D : va_G) (τ : Nat → ClassId) (X : State → Prop) (U : State) : Prop := bk_Bs V N0 H00 D τ U ∧ (N0 ≤ U.heap.size ∧ ∀ q : Nat, q < N0 → U.heap[q]? = H00[q]?) ∧ X U
def bk_XM (X : State → Prop) : Prop := ∀ s U : State, s.WarmedH U.vm → X s → X U
def bk_QS (v : Option Value) : Array Value → State → Outcome → State → Prop := fun _ st oc t => oc = .returned v ∧ t.heap = st.heap
def bk_SM (l : Launch) (V : bk_V) (N0 : Nat) (H00 : Heap) (D : va_G) (τ : Nat → ClassId) (X : State → Prop) (y : MethodName) (bytes : ByteArray) (maxL : Nat) (ret : Option FieldType) (fr lo : Nat) (As : List Value) (v : Option Value) : Prop :=
  Met l y (.code y bytes maxL ret :: lw_G) (bk_rm fr lo (0, 0)) (va_Pc As (bk_SP V N0 H00 D τ X)) (bk_QS v) 0 0 (fun _ => False)
/-- what a walk of such a method knows -/
def bk_SC (V : bk_V) (N0 : Nat) (H00 : Heap) (D : va_G) (τ : Nat → ClassId) (X : State → Prop) (p : Program) (s : State) (m : MethodId) (args : Array Value) (meth : Method) (c : Code) (own : String) (bytes : ByteArray) (maxL : Nat) (ret : Option FieldType) : Prop :=
  p.tables.exec = Jvm.exec ∧ c.code = bytes ∧ c.maxLocals = maxL ∧ s.vm.findClass own = some m.cls ∧ (∀ w ∈ lw_G, w.before args s = true) ∧ bk_SP V N0 H00 D τ X s ∧ meth.sig.returnType = ret ∧ meth.locks = false
section BKS
variable {l : Launch} {V : bk_V} {N0 : Nat} {H00 : Heap} {D : va_G} {τ : Nat → ClassId}
variable {p : Program} {e : Env} {R : Room} {s : State} {m : MethodId} {args : Array Value} {below : List Frame} {meth : Method} {c : Code} {Z : State → Prop}
theorem bk_SMof {X : State → Prop} {y : MethodName} {bytes : ByteArray} {maxL fr lo : Nat} {ret : Option FieldType} {As : List Value} {v : Option Value} (hy : plainName y.cls = true) (hl : (lg_sl As).length ≤ maxL)
    (body : ∀ (p : Program) (e : Env) (s : State) (m : MethodId) (below : List Frame) (meth : Method) (c : Code) (ls : Array Slot), bk_SC V N0 H00 D τ X p s m As.toArray meth c y.cls bytes maxL ret → lv_has ls maxL (lv_args 0 As) →
      W p l e (bk_rm fr lo (0, 0)) s m As.toArray below meth c s.heap [] 0 0 (MQ below (bk_QS v) As.toArray s 0 0 (fun _ => False)) (F0 m 0 ls [])) : bk_SM l V N0 H00 D τ X y bytes maxL ret fr lo As v := by
  refine Met.ofW (cc := bytes) (maxL := maxL) (ret := ret) hy rfl fun p e s m args below meth c s₁ B hml hP => ?_
  obtain ⟨rfl, hP⟩ := hP
  rw [lg_entry_eq]
  exact body p e s m below meth c _ ⟨B.exec, B.bytes, hml, findClass_of_methodNamed B.named, fun w hw => atoms_spec (ws := Cond.code y bytes maxL ret :: lw_G) B.pre w (List.mem_cons_of_mem _ hw), hP, B.returns, B.notSynchronized⟩ (lv_entry As hl)
theorem bk_Sblind {X : State → Prop} (hX : bk_XM X) {As : List Value} : FrameBlind (va_Pc As (bk_SP V N0 H00 D τ X)) := fun _ U _ _ hp => ⟨hp.1, hp.2.1.moved (State.WarmedH.refl U), hp.2.2.1, hX U _ (State.WarmedH.refl U) hp.2.2.2⟩
theorem bk_Sback {H : Heap} {pc : Nat} {ls : Array Slot} {st0 rest : List Value} {a : Array Value} {v : Option Value} {locs : List Loc} {cells slots : Nat} (hr : va_Run p l e R s m args below meth c H locs cells slots 0 0 (F0 m pc ls st0) rest (bk_QS v a) (fun _ => False))
    (kk : W p l e R s m args below meth c H locs cells slots Z (F0 m (pc + 3) ls (v.toList ++ rest))) : W p l e R s m args below meth c H locs cells slots Z (F0 m pc ls st0) := by
  intro T hT X
  obtain ⟨v', st₀, t, T', L, h0, X', hL, e1, e2, ⟨hv, hh⟩, st⟩ := hr T hT X
  cases hv
  have hL0 : L = [] := List.eq_nil_iff_forall_not_mem.mpr fun q hq => hL q hq
  subst hL0
  rw [List.append_nil] at X'
  obtain ⟨t2, a1, b1⟩ := kk T' (e1.trans (hh.trans h0)) X'
  exact ⟨t2, st t2 a1, b1⟩
theorem bk_ScB {own : String} {y' : MethodName} {bytes' : ByteArray} {maxL' fr' lo' ix n : Nat} {ret' : Option FieldType} (hts : ∀ w ∈ lw_G, w.before args s = true) (hc : Cond.code y' bytes' maxL' ret' ∈ lw_G) (hi : Cond.initialized y'.cls ∈ lw_G) (hl : Cond.methodLink own ix y' ∈ lw_G)
    (hd : y'.cls ≠ "java/lang/invoke/MethodHandle" ∧ y'.cls ≠ "java/lang/invoke/VarHandle" ∧ (parseMethodDescriptor y'.desc).map (fun d => d.parameters.length) = some n) (hfr : fr' + 1 ≤ R.frames) (hlo : 8 + (maxL' + 11) + lo' ≤ R.locals) :
    CallB R s args own ix y' bytes' maxL' ret' (.code y' bytes' maxL' ret' :: lw_G) (bk_rm fr' lo' (0, 0)) 0 0 n :=
  ⟨rfl, rfl, hfr, hlo, pay_in hts (bk_goodIn hc), List.mem_cons_self, hts _ hc, hts _ hi, ⟨hd.1, hd.2.1⟩, fun sig h => by
    have h2 := hd.2.2
    rw [h] at h2
    exact (Option.some.inj h2).symm, hts _ hl⟩
/-- a static call -/
theorem bk_Sst {X X' : State → Prop} {own : String} {bytes : ByteArray} {maxL : Nat} {ret : Option FieldType} {y' : MethodName} {bytes' : ByteArray} {maxL' fr' lo' ix n pc : Nat} {ret' : Option FieldType} {As' rest : List Value} {v' : Option Value} {ls : Array Slot}
    (K : bk_SC V N0 H00 D τ X p s m args meth c own bytes maxL ret) (hM : bk_SM l V N0 H00 D τ X' y' bytes' maxL' ret' fr' lo' As' v') (hX : bk_XM X') (hx' : X' s) (hc : Cond.code y' bytes' maxL' ret' ∈ lw_G) (hi : Cond.initialized y'.cls ∈ lw_G) (hl : Cond.methodLink own ix y' ∈ lw_G) (hs : Cond.static y' ∈ lw_G)
    (hd : y'.cls ≠ "java/lang/invoke/MethodHandle" ∧ y'.cls ≠ "java/lang/invoke/VarHandle" ∧ (parseMethodDescriptor y'.desc).map (fun d => d.parameters.length) = some n) (hn : As'.length = n) (hfr : fr' + 1 ≤ R.frames) (hlo : 8 + (maxL' + 11) + lo' ≤ R.locals) (hsz : ls.size = maxL) (hrest : rest.length ≤ 4) (hdg : decode bytes pc = .ok (.invokestatic ix, 3))
    (kk : W p l e R s m args below meth c s.heap [] 0 0 Z (F0 m (pc + 3) ls (v'.toList ++ rest))) : W p l e R s m args below meth c s.heap [] 0 0 Z (F0 m pc ls (As'.reverse ++ rest)) := by
  obtain ⟨hx, hb, hml, hown, hts, hP, -, -⟩ := K
  refine bk_Sback (va_runS (Ts := lw_G) ⟨hx, hb, hml, hown, hts⟩ hM ⟨bk_ScB hts hc hi hl hd hfr hlo, hts _ hs⟩ ⟨bk_Sblind hX, fun U hU hW => ⟨rfl, hP.1.moved hW, by rw [hU]; exact hP.2.1, hX _ _ hW hx'⟩⟩ rfl hn hsz rfl ?_ hdg ⟨Nat.zero_le _, Nat.zero_le _⟩) kk
  show 2 * 0 + _ ≤ 8
  have := bk_cat8 hrest
  omega
/-- a virtual call at a literal -/
theorem bk_Svt {X' : State → Prop} {own : String} {bytes : ByteArray} {maxL : Nat} {y' : MethodName} {bytes' : ByteArray} {maxL' fr' lo' ix n pc a : Nat} {ret' : Option FieldType} {As' rest : List Value} {v' : Option Value} {ls : Array Slot} {bs : List Int32} {locs : List Loc} {cells slots : Nat} {H : Heap}
    (hx : p.tables.exec = Jvm.exec) (hb : c.code = bytes) (hml : c.maxLocals = maxL) (hown : s.vm.findClass own = some m.cls) (hts : ∀ w ∈ lw_G, w.before args s = true) (hBs : bk_Bs V N0 H00 D τ s) (hH : N0 ≤ H.size ∧ ∀ q : Nat, q < N0 → H[q]? = H00[q]?) (hM : bk_SM l V N0 H00 D τ X' y' bytes' maxL' ret' fr' lo' (.ref a :: As') v') (hX : bk_XM X') (hx' : X' s) (hst : bk_St a bs N0 s H00) (hc : Cond.code y' bytes' maxL' ret' ∈ lw_G) (hi : Cond.initialized y'.cls ∈ lw_G) (hl : Cond.methodLink own ix y' ∈ lw_G) (hin : Cond.instanceMethod y' ∈ lw_G) (hse : Cond.selects "java/lang/String" y' y' ∈ lw_G)
    (hd : y'.cls ≠ "java/lang/invoke/MethodHandle" ∧ y'.cls ≠ "java/lang/invoke/VarHandle" ∧ (parseMethodDescriptor y'.desc).map (fun d => d.parameters.length) = some n) (hn : As'.length = n) (hfr : fr' + 1 ≤ R.frames) (hlo : 8 + (maxL' + 11) + lo' ≤ R.locals) (hsz : ls.size = maxL) (hrest : rest.length ≤ 4) (hc1 : cells ≤ R.cells) (hc2 : slots ≤ R.slots) (hdg : decode bytes pc = .ok (.invokevirtual ix, 3))
    (kk : W p l e R s m args below meth c H locs cells slots Z (F0 m (pc + 3) ls (v'.toList ++ rest))) : W p l e R s m args below meth c H locs cells slots Z (F0 m pc ls (As'.reverse ++ .ref a :: rest)) := by
  obtain ⟨q, ⟨cell, g1, g2, g3, g4⟩, -⟩ := hst
  have ha : H[a]? = some cell := by rw [hH.2 a (Nat.not_le.mp g4)]; exact g1
  refine bk_Sback (va_runV (Ts := lw_G) (C := "java/lang/String") ⟨hx, hb, hml, hown, hts⟩ hM ⟨bk_ScB hts hc hi hl hd hfr hlo, hts _ hin, hts _ hse⟩ ⟨bk_Sblind hX, ⟨cell, ha, g2, g3⟩, fun U hU hW => ⟨rfl, hBs.moved hW, by rw [hU]; exact hH, hX _ _ hW hx'⟩⟩ rfl hn hsz rfl ?_ hdg ⟨hc1, hc2⟩) kk
  show 2 * 0 + _ ≤ 8
  have := bk_cat8 hrest
  omega
theorem bk_Sret {X : State → Prop} {own : String} {bytes : ByteArray} {maxL pc : Nat} {t : FieldType} {v : Int32} {ls : Array Slot} (K : bk_SC V N0 H00 D τ X p s m args meth c own bytes maxL (some t)) (hn : narrow t (.int v) = .int v) (hd : decode bytes pc = .ok (.ireturn, 1)) : W p l e R s m args below meth c s.heap [] 0 0 (MQ below (bk_QS (some (.int v))) args s 0 0 (fun _ => False)) (F0 m pc ls [.int v]) :=
  W.zret K.1 K.2.1 K.2.2.2.2.2.2.1 hn (fun t ht _ => ⟨rfl, ht⟩) (fun z hz => nomatch hz) hd K.2.2.2.2.2.2.2
theorem bk_SZ {X : State → Prop} {own : String} {bytes : ByteArray} {maxL : Nat} {ret : Option FieldType} (K : bk_SC V N0 H00 D τ X p s m args meth c own bytes maxL ret) : va_Z "java/lang/String" "COMPACT_STRINGS" "Z" (.int 1) (fun q => N0 ≤ q) s s.heap ∧ va_Zq "jdk/internal/util/Preconditions" "SIOOBE_FORMATTER" "Ljava/util/function/BiFunction;" (fun q => N0 ≤ q) s s.heap ∧ (∀ k, k < bk_nS → bk_St (V.2.2.2.2 k) (bk_sB k) N0 s s.heap) := by
  obtain ⟨-, -, -, -, -, ⟨hB, hH, -⟩, -⟩ := K
  obtain ⟨h1, h2, h3⟩ := hB.str
  have z0 := hB.zq.1
  have hk : ∀ a : Nat, a < H00.size → ¬ N0 ≤ a → s.heap[a]? = H00[a]? := fun a ha _ => hH.2 a (by rw [z0] at ha; exact ha)
  exact ⟨h1.kept hk, h2.kept hk, fun k hk9 => (h3 k hk9).kept hk⟩
theorem bk_XT : bk_XM (fun _ => True) := fun _ _ _ _ => trivial
theorem bk_Xv {q n : Nat} {f : Nat → Value} : bk_XM (fun U => va_T .byte q n f (fun q => N0 ≤ q) U H00) := fun _ _ hW h => h.moved hW.alike

theorem bk_jc_length : Cond.code yJ0_length_8abf5 cJ0_length_8abf5 1 (some .int) ∈ lw_G := bk_inG (i := 194) (by decide +kernel)
theorem bk_ji_length : Cond.instanceMethod yJ0_length_8abf5 ∈ lw_G := bk_inG (i := 192) (by decide +kernel)
theorem bk_js_length : Cond.selects "java/lang/String" yJ0_length_8abf5 yJ0_length_8abf5 ∈ lw_G := bk_inG (i := 193) (by decide +kernel)
theorem bk_jc_coder : Cond.code yJ0_coder_7d493 cJ0_coder_7d493 1 (some .byte) ∈ lw_G := bk_inG (i := 198) (by decide +kernel)
theorem bk_ji_coder : Cond.instanceMethod yJ0_coder_7d493 ∈ lw_G := bk_inG (i := 196) (by decide +kernel)
theorem bk_js_coder : Cond.selects "java/lang/String" yJ0_coder_7d493 yJ0_coder_7d493 ∈ lw_G := bk_inG (i := 197) (by decide +kernel)
theorem bk_jc_isl : Cond.code yJ0_isLatin1_aae02 cJ0_isLatin1_aae02 1 (some .boolean) ∈ lw_G := bk_inG (i := 208) (by decide +kernel)
theorem bk_ji_isl : Cond.instanceMethod yJ0_isLatin1_aae02 ∈ lw_G := bk_inG (i := 206) (by decide +kernel)
theorem bk_js_isl : Cond.selects "java/lang/String" yJ0_isLatin1_aae02 yJ0_isLatin1_aae02 ∈ lw_G := bk_inG (i := 207) (by decide +kernel)
theorem bk_jc_charAt : Cond.code yJ0_charAt_5068e cJ0_charAt_5068e 2 (some .char) ∈ lw_G := bk_inG (i := 204) (by decide +kernel)
theorem bk_ji_charAt : Cond.instanceMethod yJ0_charAt_5068e ∈ lw_G := bk_inG (i := 202) (by decide +kernel)
theorem bk_js_charAt : Cond.selects "java/lang/String" yJ0_charAt_5068e yJ0_charAt_5068e ∈ lw_G := bk_inG (i := 203) (by decide +kernel)
theorem bk_jc_chk : Cond.code yJ0_checkIndex_df160 cJ0_checkIndex_df160 2 none ∈ lw_G := bk_inG (i := 214) (by decide +kernel)
theorem bk_jt_chk : Cond.static yJ0_checkIndex_df160 ∈ lw_G := bk_inG (i := 213) (by decide +kernel)
theorem bk_jc_lch : Cond.code yJ1_charAt_3b067 cJ1_charAt_3b067 2 (some .char) ∈ lw_G := bk_inG (i := 211) (by decide +kernel)
theorem bk_jt_lch : Cond.static yJ1_charAt_3b067 ∈ lw_G := bk_inG (i := 210) (by decide +kernel)
theorem bk_jc_pre : Cond.code yJ3_checkIndex_8e157 cJ3_checkIndex_8e157 3 (some .int) ∈ lw_G := bk_inG (i := 219) (by decide +kernel)
theorem bk_jt_pre : Cond.static yJ3_checkIndex_8e157 ∈ lw_G := bk_inG (i := 218) (by decide +kernel)
theorem bk_jc_io : Cond.code yJ0_indexOf_0f7a4 cJ0_indexOf_0f7a4 2 (some .int) ∈ lw_G := bk_inG (i := 547) (by decide +kernel)
theorem bk_ji_io : Cond.instanceMethod yJ0_indexOf_0f7a4 ∈ lw_G := bk_inG (i := 545) (by decide +kernel)
theorem bk_js_io : Cond.selects "java/lang/String" yJ0_indexOf_0f7a4 yJ0_indexOf_0f7a4 ∈ lw_G := bk_inG (i := 546) (by decide +kernel)
theorem bk_jc_io2 : Cond.code yJ0_indexOf_7cf53 cJ0_indexOf_7cf53 3 (some .int) ∈ lw_G := bk_inG (i := 551) (by decide +kernel)
theorem bk_ji_io2 : Cond.instanceMethod yJ0_indexOf_7cf53 ∈ lw_G := bk_inG (i := 549) (by decide +kernel)
theorem bk_js_io2 : Cond.selects "java/lang/String" yJ0_indexOf_7cf53 yJ0_indexOf_7cf53 ∈ lw_G := bk_inG (i := 550) (by decide +kernel)
theorem bk_jc_lio : Cond.code yJ1_indexOf_4cfef cJ1_indexOf_4cfef 4 (some .int) ∈ lw_G := bk_inG (i := 555) (by decide +kernel)
theorem bk_jt_lio : Cond.static yJ1_indexOf_4cfef ∈ lw_G := bk_inG (i := 554) (by decide +kernel)
theorem bk_jc_can : Cond.code yJ1_canEncode_9a6ad cJ1_canEncode_9a6ad 1 (some .boolean) ∈ lw_G := bk_inG (i := 558) (by decide +kernel)
theorem bk_jt_can : Cond.static yJ1_canEncode_9a6ad ∈ lw_G := bk_inG (i := 557) (by decide +kernel)
theorem bk_jc_ich : Cond.code yJ1_indexOfChar_4cfef cJ1_indexOfChar_4cfef 6 (some .int) ∈ lw_G := bk_inG (i := 565) (by decide +kernel)
theorem bk_jt_ich : Cond.static yJ1_indexOfChar_4cfef ∈ lw_G := bk_inG (i := 564) (by decide +kernel)
theorem bk_jnS : Cond.initialized "java/lang/String" ∈ lw_G := bk_inG (i := 104) (by decide +kernel)
theorem bk_jnL : Cond.initialized "java/lang/StringLatin1" ∈ lw_G := bk_inG (i := 105) (by decide +kernel)
theorem bk_jnP : Cond.initialized "jdk/internal/util/Preconditions" ∈ lw_G := bk_inG (i := 106) (by decide +kernel)
theorem bk_jfC : Cond.fieldLink "java/lang/String" 38 "java/lang/String" "COMPACT_STRINGS" "Z" ∈ lw_G := bk_inG (i := 199) (by decide +kernel)
theorem bk_jfV : Cond.fieldLink "java/lang/String" 9 "java/lang/String" "value" "[B" ∈ lw_G := bk_inG (i := 1873) (by decide +kernel)
theorem bk_jfD : Cond.fieldLink "java/lang/String" 15 "java/lang/String" "coder" "B" ∈ lw_G := bk_inG (i := 1874) (by decide +kernel)
theorem bk_jfS : Cond.fieldLink "java/lang/String" 1053 "jdk/internal/util/Preconditions" "SIOOBE_FORMATTER" "Ljava/util/function/BiFunction;" ∈ lw_G := bk_inG (i := 215) (by decide +kernel)
theorem bk_jl_335 : Cond.methodLink "java/lang/String" 335 yJ0_coder_7d493 ∈ lw_G := bk_inG (i := 195) (by decide +kernel)
theorem bk_jl_492 : Cond.methodLink "java/lang/String" 492 yJ0_isLatin1_aae02 ∈ lw_G := bk_inG (i := 205) (by decide +kernel)
theorem bk_jl_495 : Cond.methodLink "java/lang/String" 495 yJ1_charAt_3b067 ∈ lw_G := bk_inG (i := 209) (by decide +kernel)
theorem bk_jl_9 : Cond.methodLink "java/lang/StringLatin1" 9 yJ0_checkIndex_df160 ∈ lw_G := bk_inG (i := 212) (by decide +kernel)
theorem bk_jl_1059 : Cond.methodLink "java/lang/String" 1059 yJ3_checkIndex_8e157 ∈ lw_G := bk_inG (i := 217) (by decide +kernel)
theorem bk_jl_633 : Cond.methodLink "java/lang/String" 633 yJ0_indexOf_7cf53 ∈ lw_G := bk_inG (i := 548) (by decide +kernel)
theorem bk_jl_505 : Cond.methodLink "java/lang/String" 505 yJ0_length_8abf5 ∈ lw_G := bk_inG (i := 552) (by decide +kernel)
theorem bk_jl_637 : Cond.methodLink "java/lang/String" 637 yJ1_indexOf_4cfef ∈ lw_G := bk_inG (i := 553) (by decide +kernel)
theorem bk_jl_88 : Cond.methodLink "java/lang/StringLatin1" 88 yJ1_canEncode_9a6ad ∈ lw_G := bk_inG (i := 556) (by decide +kernel)
theorem bk_jl_95 : Cond.methodLink "java/lang/StringLatin1" 95 yJ1_indexOfChar_4cfef ∈ lw_G := bk_inG (i := 563) (by decide +kernel)
theorem bk_jl_92 : Cond.methodLink "java/lang/StringLatin1" 92 Lib.Math.max.name ∈ lw_G := bk_inG (i := 559) (by decide +kernel)
theorem bk_jl_38 : Cond.methodLink "java/lang/StringLatin1" 38 Lib.Math.min.name ∈ lw_G := bk_inG (i := 560) (by decide +kernel)
theorem bk_jd_coder_0 : decode cJ0_coder_7d493 0 = .ok (.getstatic 38, 3) := by decide +kernel
theorem bk_jd_coder_3 : decode cJ0_coder_7d493 3 = .ok (.ifCond .eq 10, 3) := by decide +kernel
theorem bk_jd_coder_6 : decode cJ0_coder_7d493 6 = .ok (.aload_n 0, 1) := by decide +kernel
theorem bk_jd_coder_7 : decode cJ0_coder_7d493 7 = .ok (.getfield 15, 3) := by decide +kernel
theorem bk_jd_coder_10 : decode cJ0_coder_7d493 10 = .ok (.goto 4, 3) := by decide +kernel
theorem bk_jd_coder_14 : decode cJ0_coder_7d493 14 = .ok (.ireturn, 1) := by decide +kernel
theorem bk_jd_isl_0 : decode cJ0_isLatin1_aae02 0 = .ok (.getstatic 38, 3) := by decide +kernel
theorem bk_jd_isl_3 : decode cJ0_isLatin1_aae02 3 = .ok (.ifCond .eq 14, 3) := by decide +kernel
theorem bk_jd_isl_6 : decode cJ0_isLatin1_aae02 6 = .ok (.aload_n 0, 1) := by decide +kernel
theorem bk_jd_isl_7 : decode cJ0_isLatin1_aae02 7 = .ok (.getfield 15, 3) := by decide +kernel
theorem bk_jd_isl_10 : decode cJ0_isLatin1_aae02 10 = .ok (.ifCond .ne 7, 3) := by decide +kernel
theorem bk_jd_isl_13 : decode cJ0_isLatin1_aae02 13 = .ok (.iconst 1, 1) := by decide +kernel
theorem bk_jd_isl_14 : decode cJ0_isLatin1_aae02 14 = .ok (.goto 4, 3) := by decide +kernel
theorem bk_jd_isl_18 : decode cJ0_isLatin1_aae02 18 = .ok (.ireturn, 1) := by decide +kernel
theorem bk_jd_length_0 : decode cJ0_length_8abf5 0 = .ok (.aload_n 0, 1) := by decide +kernel
theorem bk_jd_length_1 : decode cJ0_length_8abf5 1 = .ok (.getfield 9, 3) := by decide +kernel
theorem bk_jd_length_4 : decode cJ0_length_8abf5 4 = .ok (.arraylength, 1) := by decide +kernel
theorem bk_jd_length_5 : decode cJ0_length_8abf5 5 = .ok (.aload_n 0, 1) := by decide +kernel
theorem bk_jd_length_6 : decode cJ0_length_8abf5 6 = .ok (.invokevirtual 335, 3) := by decide +kernel
theorem bk_jd_length_9 : decode cJ0_length_8abf5 9 = .ok (.ishr, 1) := by decide +kernel
theorem bk_jd_length_10 : decode cJ0_length_8abf5 10 = .ok (.ireturn, 1) := by decide +kernel
theorem bk_jd_charAt_0 : decode cJ0_charAt_5068e 0 = .ok (.aload_n 0, 1) := by decide +kernel
theorem bk_jd_charAt_1 : decode cJ0_charAt_5068e 1 = .ok (.invokevirtual 492, 3) := by decide +kernel
theorem bk_jd_charAt_4 : decode cJ0_charAt_5068e 4 = .ok (.ifCond .eq 12, 3) := by decide +kernel
theorem bk_jd_charAt_7 : decode cJ0_charAt_5068e 7 = .ok (.aload_n 0, 1) := by decide +kernel
theorem bk_jd_charAt_8 : decode cJ0_charAt_5068e 8 = .ok (.getfield 9, 3) := by decide +kernel
theorem bk_jd_charAt_11 : decode cJ0_charAt_5068e 11 = .ok (.iload_n 1, 1) := by decide +kernel
theorem bk_jd_charAt_12 : decode cJ0_charAt_5068e 12 = .ok (.invokestatic 495, 3) := by decide +kernel
theorem bk_jd_charAt_15 : decode cJ0_charAt_5068e 15 = .ok (.ireturn, 1) := by decide +kernel
theorem bk_jd_lch_0 : decode cJ1_charAt_3b067 0 = .ok (.iload_n 1, 1) := by decide +kernel
theorem bk_jd_lch_1 : decode cJ1_charAt_3b067 1 = .ok (.aload_n 0, 1) := by decide +kernel
theorem bk_jd_lch_2 : decode cJ1_charAt_3b067 2 = .ok (.arraylength, 1) := by decide +kernel
theorem bk_jd_lch_3 : decode cJ1_charAt_3b067 3 = .ok (.invokestatic 9, 3) := by decide +kernel
theorem bk_jd_lch_6 : decode cJ1_charAt_3b067 6 = .ok (.aload_n 0, 1) := by decide +kernel
theorem bk_jd_lch_7 : decode cJ1_charAt_3b067 7 = .ok (.iload_n 1, 1) := by decide +kernel
theorem bk_jd_lch_8 : decode cJ1_charAt_3b067 8 = .ok (.baload, 1) := by decide +kernel
theorem bk_jd_lch_9 : decode cJ1_charAt_3b067 9 = .ok (.sipush 255, 3) := by decide +kernel
theorem bk_jd_lch_12 : decode cJ1_charAt_3b067 12 = .ok (.iand, 1) := by decide +kernel
theorem bk_jd_lch_13 : decode cJ1_charAt_3b067 13 = .ok (.i2c, 1) := by decide +kernel
theorem bk_jd_lch_14 : decode cJ1_charAt_3b067 14 = .ok (.ireturn, 1) := by decide +kernel
theorem bk_jd_chk_0 : decode cJ0_checkIndex_df160 0 = .ok (.iload_n 0, 1) := by decide +kernel
theorem bk_jd_chk_1 : decode cJ0_checkIndex_df160 1 = .ok (.iload_n 1, 1) := by decide +kernel
theorem bk_jd_chk_2 : decode cJ0_checkIndex_df160 2 = .ok (.getstatic 1053, 3) := by decide +kernel
theorem bk_jd_chk_5 : decode cJ0_checkIndex_df160 5 = .ok (.invokestatic 1059, 3) := by decide +kernel
theorem bk_jd_chk_8 : decode cJ0_checkIndex_df160 8 = .ok (.pop, 1) := by decide +kernel
theorem bk_jd_chk_9 : decode cJ0_checkIndex_df160 9 = .ok (.return_, 1) := by decide +kernel
theorem bk_jd_pre_0 : decode cJ3_checkIndex_8e157 0 = .ok (.iload_n 0, 1) := by decide +kernel
theorem bk_jd_pre_1 : decode cJ3_checkIndex_8e157 1 = .ok (.ifCond .lt 8, 3) := by decide +kernel
theorem bk_jd_pre_4 : decode cJ3_checkIndex_8e157 4 = .ok (.iload_n 0, 1) := by decide +kernel
theorem bk_jd_pre_5 : decode cJ3_checkIndex_8e157 5 = .ok (.iload_n 1, 1) := by decide +kernel
theorem bk_jd_pre_6 : decode cJ3_checkIndex_8e157 6 = .ok (.if_icmp .lt 10, 3) := by decide +kernel
theorem bk_jd_pre_16 : decode cJ3_checkIndex_8e157 16 = .ok (.iload_n 0, 1) := by decide +kernel
theorem bk_jd_pre_17 : decode cJ3_checkIndex_8e157 17 = .ok (.ireturn, 1) := by decide +kernel
theorem bk_jd_io_0 : decode cJ0_indexOf_0f7a4 0 = .ok (.aload_n 0, 1) := by decide +kernel
theorem bk_jd_io_1 : decode cJ0_indexOf_0f7a4 1 = .ok (.iload_n 1, 1) := by decide +kernel
theorem bk_jd_io_2 : decode cJ0_indexOf_0f7a4 2 = .ok (.iconst 0, 1) := by decide +kernel
theorem bk_jd_io_3 : decode cJ0_indexOf_0f7a4 3 = .ok (.invokevirtual 633, 3) := by decide +kernel
theorem bk_jd_io_6 : decode cJ0_indexOf_0f7a4 6 = .ok (.ireturn, 1) := by decide +kernel
theorem bk_jd_io2_0 : decode cJ0_indexOf_7cf53 0 = .ok (.aload_n 0, 1) := by decide +kernel
theorem bk_jd_io2_1 : decode cJ0_indexOf_7cf53 1 = .ok (.invokevirtual 492, 3) := by decide +kernel
theorem bk_jd_io2_4 : decode cJ0_indexOf_7cf53 4 = .ok (.ifCond .eq 19, 3) := by decide +kernel
theorem bk_jd_io2_7 : decode cJ0_indexOf_7cf53 7 = .ok (.aload_n 0, 1) := by decide +kernel
theorem bk_jd_io2_8 : decode cJ0_indexOf_7cf53 8 = .ok (.getfield 9, 3) := by decide +kernel
theorem bk_jd_io2_11 : decode cJ0_indexOf_7cf53 11 = .ok (.iload_n 1, 1) := by decide +kernel
theorem bk_jd_io2_12 : decode cJ0_indexOf_7cf53 12 = .ok (.iload_n 2, 1) := by decide +kernel
theorem bk_jd_io2_13 : decode cJ0_indexOf_7cf53 13 = .ok (.aload_n 0, 1) := by decide +kernel
theorem bk_jd_io2_14 : decode cJ0_indexOf_7cf53 14 = .ok (.invokevirtual 505, 3) := by decide +kernel
theorem bk_jd_io2_17 : decode cJ0_indexOf_7cf53 17 = .ok (.invokestatic 637, 3) := by decide +kernel
theorem bk_jd_io2_20 : decode cJ0_indexOf_7cf53 20 = .ok (.goto 16, 3) := by decide +kernel
theorem bk_jd_io2_36 : decode cJ0_indexOf_7cf53 36 = .ok (.ireturn, 1) := by decide +kernel
theorem bk_jd_lio_0 : decode cJ1_indexOf_4cfef 0 = .ok (.iload_n 1, 1) := by decide +kernel
theorem bk_jd_lio_1 : decode cJ1_indexOf_4cfef 1 = .ok (.invokestatic 88, 3) := by decide +kernel
theorem bk_jd_lio_4 : decode cJ1_indexOf_4cfef 4 = .ok (.ifCond .ne 5, 3) := by decide +kernel
theorem bk_jd_lio_7 : decode cJ1_indexOf_4cfef 7 = .ok (.iconst (-1), 1) := by decide +kernel
theorem bk_jd_lio_8 : decode cJ1_indexOf_4cfef 8 = .ok (.ireturn, 1) := by decide +kernel
theorem bk_jd_lio_9 : decode cJ1_indexOf_4cfef 9 = .ok (.iload_n 2, 1) := by decide +kernel
theorem bk_jd_lio_10 : decode cJ1_indexOf_4cfef 10 = .ok (.iconst 0, 1) := by decide +kernel
theorem bk_jd_lio_11 : decode cJ1_indexOf_4cfef 11 = .ok (.invokestatic 92, 3) := by decide +kernel
theorem bk_jd_lio_14 : decode cJ1_indexOf_4cfef 14 = .ok (.istore_n 2, 1) := by decide +kernel
theorem bk_jd_lio_15 : decode cJ1_indexOf_4cfef 15 = .ok (.iload_n 3, 1) := by decide +kernel
theorem bk_jd_lio_16 : decode cJ1_indexOf_4cfef 16 = .ok (.aload_n 0, 1) := by decide +kernel
theorem bk_jd_lio_17 : decode cJ1_indexOf_4cfef 17 = .ok (.arraylength, 1) := by decide +kernel
theorem bk_jd_lio_18 : decode cJ1_indexOf_4cfef 18 = .ok (.invokestatic 38, 3) := by decide +kernel
theorem bk_jd_lio_21 : decode cJ1_indexOf_4cfef 21 = .ok (.istore_n 3, 1) := by decide +kernel
theorem bk_jd_lio_22 : decode cJ1_indexOf_4cfef 22 = .ok (.iload_n 2, 1) := by decide +kernel
theorem bk_jd_lio_23 : decode cJ1_indexOf_4cfef 23 = .ok (.iload_n 3, 1) := by decide +kernel
theorem bk_jd_lio_24 : decode cJ1_indexOf_4cfef 24 = .ok (.if_icmp .lt 5, 3) := by decide +kernel
theorem bk_jd_lio_27 : decode cJ1_indexOf_4cfef 27 = .ok (.iconst (-1), 1) := by decide +kernel
theorem bk_jd_lio_28 : decode cJ1_indexOf_4cfef 28 = .ok (.ireturn, 1) := by decide +kernel
theorem bk_jd_lio_29 : decode cJ1_indexOf_4cfef 29 = .ok (.aload_n 0, 1) := by decide +kernel
theorem bk_jd_lio_30 : decode cJ1_indexOf_4cfef 30 = .ok (.iload_n 1, 1) := by decide +kernel
theorem bk_jd_lio_31 : decode cJ1_indexOf_4cfef 31 = .ok (.iload_n 2, 1) := by decide +kernel
theorem bk_jd_lio_32 : decode cJ1_indexOf_4cfef 32 = .ok (.iload_n 3, 1) := by decide +kernel
theorem bk_jd_lio_33 : decode cJ1_indexOf_4cfef 33 = .ok (.invokestatic 95, 3) := by decide +kernel
theorem bk_jd_lio_36 : decode cJ1_indexOf_4cfef 36 = .ok (.ireturn, 1) := by decide +kernel
theorem bk_jd_can_0 : decode cJ1_canEncode_9a6ad 0 = .ok (.iload_n 0, 1) := by decide +kernel
theorem bk_jd_can_1 : decode cJ1_canEncode_9a6ad 1 = .ok (.ifCond .lt 14, 3) := by decide +kernel
theorem bk_jd_can_4 : decode cJ1_canEncode_9a6ad 4 = .ok (.iload_n 0, 1) := by decide +kernel
theorem bk_jd_can_5 : decode cJ1_canEncode_9a6ad 5 = .ok (.sipush 255, 3) := by decide +kernel
theorem bk_jd_can_8 : decode cJ1_canEncode_9a6ad 8 = .ok (.if_icmp .gt 7, 3) := by decide +kernel
theorem bk_jd_can_11 : decode cJ1_canEncode_9a6ad 11 = .ok (.iconst 1, 1) := by decide +kernel
theorem bk_jd_can_12 : decode cJ1_canEncode_9a6ad 12 = .ok (.goto 4, 3) := by decide +kernel
theorem bk_jd_can_15 : decode cJ1_canEncode_9a6ad 15 = .ok (.iconst 0, 1) := by decide +kernel
theorem bk_jd_can_16 : decode cJ1_canEncode_9a6ad 16 = .ok (.ireturn, 1) := by decide +kernel
theorem bk_jd_ich_0 : decode cJ1_indexOfChar_4cfef 0 = .ok (.iload_n 1, 1) := by decide +kernel
theorem bk_jd_ich_1 : decode cJ1_indexOfChar_4cfef 1 = .ok (.i2b, 1) := by decide +kernel
theorem bk_jd_ich_2 : decode cJ1_indexOfChar_4cfef 2 = .ok (.istore 4, 2) := by decide +kernel
theorem bk_jd_ich_4 : decode cJ1_indexOfChar_4cfef 4 = .ok (.iload_n 2, 1) := by decide +kernel
theorem bk_jd_ich_5 : decode cJ1_indexOfChar_4cfef 5 = .ok (.istore 5, 2) := by decide +kernel
theorem bk_jd_ich_7 : decode cJ1_indexOfChar_4cfef 7 = .ok (.iload 5, 2) := by decide +kernel
theorem bk_jd_ich_9 : decode cJ1_indexOfChar_4cfef 9 = .ok (.iload_n 3, 1) := by decide +kernel
theorem bk_jd_ich_10 : decode cJ1_indexOfChar_4cfef 10 = .ok (.if_icmp .ge 21, 3) := by decide +kernel
theorem bk_jd_ich_13 : decode cJ1_indexOfChar_4cfef 13 = .ok (.aload_n 0, 1) := by decide +kernel
theorem bk_jd_ich_14 : decode cJ1_indexOfChar_4cfef 14 = .ok (.iload 5, 2) := by decide +kernel
theorem bk_jd_ich_16 : decode cJ1_indexOfChar_4cfef 16 = .ok (.baload, 1) := by decide +kernel
theorem bk_jd_ich_17 : decode cJ1_indexOfChar_4cfef 17 = .ok (.iload 4, 2) := by decide +kernel
theorem bk_jd_ich_19 : decode cJ1_indexOfChar_4cfef 19 = .ok (.if_icmp .ne 6, 3) := by decide +kernel
theorem bk_jd_ich_22 : decode cJ1_indexOfChar_4cfef 22 = .ok (.iload 5, 2) := by decide +kernel
theorem bk_jd_ich_24 : decode cJ1_indexOfChar_4cfef 24 = .ok (.ireturn, 1) := by decide +kernel
theorem bk_jd_ich_25 : decode cJ1_indexOfChar_4cfef 25 = .ok (.iinc 5 1, 3) := by decide +kernel
theorem bk_jd_ich_28 : decode cJ1_indexOfChar_4cfef 28 = .ok (.goto (-21), 3) := by decide +kernel
theorem bk_jd_ich_31 : decode cJ1_indexOfChar_4cfef 31 = .ok (.iconst (-1), 1) := by decide +kernel
theorem bk_jd_ich_32 : decode cJ1_indexOfChar_4cfef 32 = .ok (.ireturn, 1) := by decide +kernel
/-- coder() -/
theorem bk_m_coder {k : Nat} (hk : k < bk_nS) : bk_SM l V N0 H00 D τ (fun _ => True) yJ0_coder_7d493 cJ0_coder_7d493 1 (some .byte) 1 50 [.ref (V.2.2.2.2 k)] (some (.int 0)) := by
  refine bk_SMof rfl (Nat.le_of_ble_eq_true rfl) fun p e s m below meth c ls K hL => ?_
  obtain ⟨zC, zF, zS⟩ := bk_SZ K
  obtain ⟨q, s1, s2, s3, s4⟩ := zS k hk
  have hx := K.1
  have hb := K.2.1
  have hown := K.2.2.2.1
  have hts := K.2.2.2.2.1
  refine va_gets hx hb zC va_S.rf hown (hts _ bk_jfC) (fun x h => h) bk_jd_coder_0 ?_
  refine lv_if_eq hx hb bk_jd_coder_3 (tgt := 13) rfl (fun h => absurd h (by decide)) fun _ => ?_
  refine lv_aload_n hx hb bk_jd_coder_6 rfl (lv_at hL 0 rfl) ?_
  refine vk_getf hx hb s2 va_S.rf hown (hts _ bk_jfD) (fun x h => h) bk_jd_coder_7 ?_
  refine lv_goto hx hb bk_jd_coder_10 (tgt := 14) rfl ?_
  exact bk_Sret K rfl bk_jd_coder_14
theorem bk_m_isl {k : Nat} (hk : k < bk_nS) : bk_SM l V N0 H00 D τ (fun _ => True) yJ0_isLatin1_aae02 cJ0_isLatin1_aae02 1 (some .boolean) 1 50 [.ref (V.2.2.2.2 k)] (some (.int 1)) := by
  refine bk_SMof rfl (Nat.le_of_ble_eq_true rfl) fun p e s m below meth c ls K hL => ?_
  obtain ⟨zC, zF, zS⟩ := bk_SZ K
  obtain ⟨q, s1, s2, s3, s4⟩ := zS k hk
  have hx := K.1
  have hb := K.2.1
  have hown := K.2.2.2.1
  have hts := K.2.2.2.2.1
  refine va_gets hx hb zC va_S.rf hown (hts _ bk_jfC) (fun x h => h) bk_jd_isl_0 ?_
  refine lv_if_eq hx hb bk_jd_isl_3 (tgt := 17) rfl (fun h => absurd h (by decide)) fun _ => ?_
  refine lv_aload_n hx hb bk_jd_isl_6 rfl (lv_at hL 0 rfl) ?_
  refine vk_getf hx hb s2 va_S.rf hown (hts _ bk_jfD) (fun x h => h) bk_jd_isl_7 ?_
  refine lv_if_ne hx hb bk_jd_isl_10 (tgt := 17) rfl (fun h => absurd rfl h) fun _ => ?_
  refine lv_iconst hx hb bk_jd_isl_13 rfl ?_
  refine lv_goto hx hb bk_jd_isl_14 (tgt := 18) rfl ?_
  exact bk_Sret K rfl bk_jd_isl_18
theorem bk_shr0 (x : Int32) : x >>> ((0 : Int32) &&& 31) = x := by
  rw [show ((0 : Int32) &&& 31) = 0 from by decide]
  exact Int32.shiftRight_zero
theorem bk_m_length {k : Nat} (hk : k < bk_nS) : bk_SM l V N0 H00 D τ (fun _ => True) yJ0_length_8abf5 cJ0_length_8abf5 1 (some .int) 2 100 [.ref (V.2.2.2.2 k)] (some (.int (Int32.ofNat (bk_sB k).length))) := by
  refine bk_SMof rfl (Nat.le_of_ble_eq_true rfl) fun p e s m below meth c ls K hL => ?_
  obtain ⟨zC, zF, zS⟩ := bk_SZ K
  obtain ⟨q, s1, s2, s3, s4⟩ := zS k hk
  have hx := K.1
  have hb := K.2.1
  have hown := K.2.2.2.1
  have hts := K.2.2.2.2.1
  refine lv_aload_n hx hb bk_jd_length_0 rfl (lv_at hL 0 rfl) ?_
  refine vk_getf hx hb s3 va_S.rf hown (hts _ bk_jfV) (fun x h => h) bk_jd_length_1 ?_
  refine va_tlen hx hb s4 va_S.rf rfl bk_jd_length_4 ?_
  refine lv_aload_n hx hb bk_jd_length_5 rfl (lv_at hL 0 rfl) ?_
  refine bk_Svt (As' := []) (n := 0) hx hb K.2.2.1 hown hts K.2.2.2.2.2.1.1 K.2.2.2.2.2.1.2.1 (bk_m_coder hk) bk_XT trivial (K.2.2.2.2.2.1.1.str.2.2 k hk) bk_jc_coder bk_jnS bk_jl_335 bk_ji_coder bk_js_coder (by decide +kernel) rfl (by decide) (by decide) hL.1 (Nat.le_of_ble_eq_true rfl) (Nat.le_refl _) (Nat.le_refl _) bk_jd_length_6 ?_
  refine lv_ishr hx hb bk_jd_length_9 ?_
  rw [bk_shr0]
  exact bk_Sret K rfl bk_jd_length_10
/-- Preconditions.checkIndex -/
theorem bk_m_pre {i n : Int32} {w : Value} (hw : w.category = 1) (h1 : ¬ i < 0) (h2 : i < n) : bk_SM l V N0 H00 D τ (fun _ => True) yJ3_checkIndex_8e157 cJ3_checkIndex_8e157 3 (some .int) 1 50 [.int i, .int n, w] (some (.int i)) := by
  refine bk_SMof rfl (by cases w <;> first | exact Nat.le_of_ble_eq_true rfl | exact absurd (show (2 : Nat) = 1 from hw) (by decide)) fun p e s m below meth c ls K hL => ?_
  have hx := K.1
  have hb := K.2.1
  refine lv_iload_n hx hb bk_jd_pre_0 rfl (lv_at hL 0 rfl) ?_
  refine lv_if_lt hx hb bk_jd_pre_1 (tgt := 9) rfl (fun h => absurd h h1) fun _ => ?_
  refine lv_iload_n hx hb bk_jd_pre_4 rfl (lv_at hL 0 rfl) ?_
  refine lv_iload_n hx hb bk_jd_pre_5 rfl (lv_at hL 1 rfl) ?_
  refine lv_icmp_lt hx hb bk_jd_pre_6 (tgt := 16) rfl (fun _ => ?_) (fun h => absurd h2 h)
  refine lv_iload_n hx hb bk_jd_pre_16 rfl (lv_at hL 0 rfl) ?_
  exact bk_Sret K rfl bk_jd_pre_17
theorem bk_m_chk {i n : Int32} (h1 : ¬ i < 0) (h2 : i < n) : bk_SM l V N0 H00 D τ (fun _ => True) yJ0_checkIndex_df160 cJ0_checkIndex_df160 2 none 2 100 [.int i, .int n] none := by
  refine bk_SMof rfl (Nat.le_of_ble_eq_true rfl) fun p e s m below meth c ls K hL => ?_
  obtain ⟨zC, zF, zS⟩ := bk_SZ K
  have hx := K.1
  have hb := K.2.1
  have hown := K.2.2.2.1
  have hts := K.2.2.2.2.1
  have go : ∀ w : Value, w.category = 1 → va_Z "jdk/internal/util/Preconditions" "SIOOBE_FORMATTER" "Ljava/util/function/BiFunction;" w (fun q => N0 ≤ q) s s.heap → W p l e (bk_rm 2 100 (0, 0)) s m ([.int i, .int n] : List Value).toArray below meth c s.heap [] 0 0 (MQ below (bk_QS none) ([.int i, .int n] : List Value).toArray s 0 0 (fun _ => False)) (F0 m 0 ls []) := by
    intro w hw hz
    refine lv_iload_n hx hb bk_jd_chk_0 rfl (lv_at hL 0 rfl) ?_
    refine lv_iload_n hx hb bk_jd_chk_1 rfl (lv_at hL 1 rfl) ?_
    refine va_gets hx hb hz va_S.rf hown (hts _ bk_jfS) (fun x h => h) bk_jd_chk_2 ?_
    refine bk_Sst (As' := [.int i, .int n, w]) (n := 3) (rest := []) K (bk_m_pre hw h1 h2) bk_XT trivial bk_jc_pre bk_jnP bk_jl_1059 bk_jt_pre (by decide +kernel) rfl (by decide) (by decide) hL.1 (by decide) bk_jd_chk_5 ?_
    refine lv_pop hx hb bk_jd_chk_8 rfl ?_
    exact W.vret hx hb K.2.2.2.2.2.2.1 (fun t ht _ => ⟨rfl, ht⟩) (fun z hz => nomatch hz) bk_jd_chk_9 K.2.2.2.2.2.2.2
  rcases zF with zF | ⟨t, zF⟩
  · exact go _ rfl zF
  · exact go _ rfl zF
theorem bk_bytes : (List.range 31).all (fun k => decide ((bk_sB k).length < 2000) && (bk_sB k).all (fun b => decide (((b &&& 255).toUInt32 % 65536).toInt32 = b) && decide (0 ≤ b) && decide (b < 128))) = true := by decide +kernel
theorem bk_bytesOf {k : Nat} (hk : k < bk_nS) : (bk_sB k).length < 2000 ∧ ∀ b ∈ bk_sB k, ((b &&& 255).toUInt32 % 65536).toInt32 = b ∧ 0 ≤ b ∧ b < 128 := by
  obtain ⟨h1, h2⟩ := Bool.and_eq_true_iff.mp (List.all_eq_true.mp bk_bytes k (List.mem_range.mpr hk))
  refine ⟨of_decide_eq_true h1, fun b hb => ?_⟩
  obtain ⟨h3, h5⟩ := Bool.and_eq_true_iff.mp (List.all_eq_true.mp h2 b hb)
  obtain ⟨h3, h4⟩ := Bool.and_eq_true_iff.mp h3
  exact ⟨of_decide_eq_true h3, of_decide_eq_true h4, of_decide_eq_true h5⟩
theorem bk_vin {i : Int32} {n : Nat} (hn : n < 2000) (h : vp_in i n) : ¬ i < 0 ∧ i < Int32.ofNat n ∧ i.toNatClampNeg < n := by
  have h1 : ¬ i < 0 := fun q => h (Or.inl q)
  have h2 : i.toNatClampNeg < n := Nat.not_le.mp fun q => h (Or.inr q)
  refine ⟨h1, ?_, h2⟩
  have hz0 : (0 : Int) ≤ i.toInt := by
    have := Int32.not_lt.mp h1
    simpa using Int32.le_iff_toInt_le.mp this
  have e1 : i.toInt = (i.toNatClampNeg : Int) := by
    show i.toInt = ((i.toInt.toNat : Nat) : Int)
    omega
  rw [Int32.lt_iff_toInt_lt, e1, show (Int32.ofNat n).toInt = (n : Int) from Int32.toInt_ofNat_of_lt (by omega)]
  exact Int.ofNat_lt.mpr h2
theorem bk_nch {b : Int32} (h1 : 0 ≤ b) (h2 : b < 128) : narrow .char (.int b) = .int b := by
  have g1 := Int32.le_iff_toInt_le.mp h1
  have g2 := Int32.lt_iff_toInt_lt.mp h2
  rw [show (0 : Int32).toInt = 0 from rfl] at g1
  rw [show (128 : Int32).toInt = 128 from rfl] at g2
  first
    | (show Value.int (b.toUInt32 % 65536).toInt32 = _; rw [lg_i2c_word g1 (by omega)])
    | (show Value.int b.toUInt32.toUInt16.toUInt32.toInt32 = _; rw [lg_i2c_small g1 (by omega)])
    | (simp only [narrow]; congr 1; exact lg_i2c_small g1 (by omega))
theorem bk_m_lch {q n : Nat} {bs : List Int32} {i : Int32} (hn : bs.length < 2000) (hi : vp_in i bs.length) (hb9 : ∀ b ∈ bs, ((b &&& 255).toUInt32 % 65536).toInt32 = b ∧ 0 ≤ b ∧ b < 128) :
    bk_SM l V N0 H00 D τ (fun U => va_T .byte q bs.length (fun j => .int (bs.getD j 0)) (fun q => N0 ≤ q) U H00) yJ1_charAt_3b067 cJ1_charAt_3b067 2 (some .char) 3 150 [.ref q, .int i] (some (.int (bs.getD i.toNatClampNeg 0))) := by
  obtain ⟨i1, i2, i3⟩ := bk_vin hn hi
  refine bk_SMof rfl (Nat.le_of_ble_eq_true rfl) fun p e s m below meth c ls K hL => ?_
  have hx := K.1
  have hb := K.2.1
  have hH := K.2.2.2.2.2.1.2.1
  have z0 := K.2.2.2.2.2.1.1.zq.1
  have hT := K.2.2.2.2.2.1.2.2.kept (H1 := s.heap) fun a ha _ => hH.2 a (by rw [z0] at ha; exact ha)
  have hg : bs.getD i.toNatClampNeg 0 ∈ bs := by
    rw [List.getD_eq_getElem?_getD, List.getElem?_eq_getElem i3]
    exact List.getElem_mem i3
  have hv := (hb9 _ hg).1
  refine lv_iload_n hx hb bk_jd_lch_0 rfl (lv_at hL 1 rfl) ?_
  refine lv_aload_n hx hb bk_jd_lch_1 rfl (lv_at hL 0 rfl) ?_
  refine va_tlen hx hb hT va_S.rf rfl bk_jd_lch_2 ?_
  refine bk_Sst (As' := [.int i, .int (Int32.ofNat bs.length)]) (n := 2) (rest := []) K (bk_m_chk i1 i2) bk_XT trivial bk_jc_chk bk_jnS bk_jl_9 bk_jt_chk (by decide +kernel) rfl (by decide) (by decide) hL.1 (by decide) bk_jd_lch_3 ?_
  refine lv_aload_n hx hb bk_jd_lch_6 rfl (lv_at hL 0 rfl) ?_
  refine lv_iload_n hx hb bk_jd_lch_7 rfl (lv_at hL 1 rfl) ?_
  refine va_tb hx hb hT va_S.rf hi rfl bk_jd_lch_8 ?_
  refine lv_sipush hx hb bk_jd_lch_9 rfl ?_
  refine lv_iand hx hb bk_jd_lch_12 ?_
  refine lv_i2c hx hb bk_jd_lch_13 rfl ?_
  have hv' : ((bs.getD i.toNatClampNeg 0 &&& (Int16.ofInt 255).toInt32).toUInt32 % 65536).toInt32 = bs.getD i.toNatClampNeg 0 := hv
  rw [hv']
  refine bk_Sret K ?_ bk_jd_lch_14
  exact bk_nch (hb9 _ hg).2.1 (hb9 _ hg).2.2
theorem bk_m_charAt {k : Nat} (hk : k < bk_nS) {i : Int32} (hi : vp_in i (bk_sB k).length) : bk_SM l V N0 H00 D τ (fun _ => True) yJ0_charAt_5068e cJ0_charAt_5068e 2 (some .char) 4 200 [.ref (V.2.2.2.2 k), .int i] (some (.int ((bk_sB k).getD i.toNatClampNeg 0))) := by
  obtain ⟨b1, b2⟩ := bk_bytesOf hk
  refine bk_SMof rfl (Nat.le_of_ble_eq_true rfl) fun p e s m below meth c ls K hL => ?_
  obtain ⟨zC, zF, zS⟩ := bk_SZ K
  have s00 := K.2.2.2.2.2.1.1.str.2.2 k hk
  have s0 := s00
  obtain ⟨q, t1, t2, t3, t4⟩ := s0
  have hx := K.1
  have hb := K.2.1
  have hown := K.2.2.2.1
  have hts := K.2.2.2.2.1
  have hH := K.2.2.2.2.2.1.2.1
  have z0 := K.2.2.2.2.2.1.1.zq.1
  have s3 := t3.kept (H1 := s.heap) fun a ha _ => hH.2 a (by rw [z0] at ha; exact ha)
  refine lv_aload_n hx hb bk_jd_charAt_0 rfl (lv_at hL 0 rfl) ?_
  refine bk_Svt (As' := []) (n := 0) hx hb K.2.2.1 hown hts K.2.2.2.2.2.1.1 K.2.2.2.2.2.1.2.1 (bk_m_isl hk) bk_XT trivial s00 bk_jc_isl bk_jnS bk_jl_492 bk_ji_isl bk_js_isl (by decide +kernel) rfl (by decide) (by decide) hL.1 (Nat.le_of_ble_eq_true rfl) (Nat.le_refl _) (Nat.le_refl _) bk_jd_charAt_1 ?_
  refine lv_if_eq hx hb bk_jd_charAt_4 (tgt := 16) rfl (fun h => absurd h (by decide)) fun _ => ?_
  refine lv_aload_n hx hb bk_jd_charAt_7 rfl (lv_at hL 0 rfl) ?_
  refine vk_getf hx hb s3 va_S.rf hown (hts _ bk_jfV) (fun x h => h) bk_jd_charAt_8 ?_
  refine lv_iload_n hx hb bk_jd_charAt_11 rfl (lv_at hL 1 rfl) ?_
  refine bk_Sst (As' := [.ref q, .int i]) (n := 2) (rest := []) K (bk_m_lch (n := 0) b1 hi b2) bk_Xv t4 bk_jc_lch bk_jnL bk_jl_495 bk_jt_lch (by decide +kernel) rfl (by decide) (by decide) hL.1 (by decide) bk_jd_charAt_12 ?_
  refine bk_Sret K ?_ bk_jd_charAt_15
  obtain ⟨i1, i2, i3⟩ := bk_vin b1 hi
  have hg : (bk_sB k).getD i.toNatClampNeg 0 ∈ bk_sB k := by
    rw [List.getD_eq_getElem?_getD, List.getElem?_eq_getElem i3]
    exact List.getElem_mem i3
  exact bk_nch (b2 _ hg).2.1 (b2 _ hg).2.2
/-- canEncode -/
theorem bk_m_can {ch : Int32} : bk_SM l V N0 H00 D τ (fun _ => True) yJ1_canEncode_9a6ad cJ1_canEncode_9a6ad 1 (some .boolean) 1 50 [.int ch] (some (.int (if ¬ ch < 0 ∧ ¬ 255 < ch then 1 else 0))) := by
  refine bk_SMof rfl (Nat.le_of_ble_eq_true rfl) fun p e s m below meth c ls K hL => ?_
  have hx := K.1
  have hb := K.2.1
  have no : ¬ (¬ ch < 0 ∧ ¬ 255 < ch) → W p l e (bk_rm 1 50 (0, 0)) s m ([.int ch] : List Value).toArray below meth c s.heap [] 0 0 (MQ below (bk_QS (some (.int (if ¬ ch < 0 ∧ ¬ 255 < ch then 1 else 0)))) ([.int ch] : List Value).toArray s 0 0 (fun _ => False)) (F0 m 15 ls []) := by
    intro h
    rw [if_neg h]
    refine lv_iconst hx hb bk_jd_can_15 rfl ?_
    exact bk_Sret K rfl bk_jd_can_16
  refine lv_iload_n hx hb bk_jd_can_0 rfl (lv_at hL 0 rfl) ?_
  refine lv_if_lt hx hb bk_jd_can_1 (tgt := 15) rfl (fun h => no fun z => z.1 h) fun h1 => ?_
  refine lv_iload_n hx hb bk_jd_can_4 rfl (lv_at hL 0 rfl) ?_
  refine lv_sipush hx hb bk_jd_can_5 rfl ?_
  refine lv_icmp_gt hx hb bk_jd_can_8 (tgt := 15) rfl (fun h => no fun z => z.2 h) fun h2 => ?_
  have h2 : ¬ 255 < ch := h2
  rw [if_pos ⟨h1, h2⟩]
  refine lv_iconst hx hb bk_jd_can_11 rfl ?_
  refine lv_goto hx hb bk_jd_can_12 (tgt := 16) rfl ?_
  exact bk_Sret K rfl bk_jd_can_16
/-- the search from a place on -/
def bk_fnd (c : Int32) : List Int32 → Nat → Int32
  | [], _ => -1
  | b :: r, k => if b = c then nI k else bk_fnd c r (k + 1)
theorem bk_m_ich {q : Nat} {bs : List Int32} {ch : Int32} (hn : bs.length < 2000) :
    bk_SM l V N0 H00 D τ (fun U => va_T .byte q bs.length (fun j => .int (bs.getD j 0)) (fun q => N0 ≤ q) U H00) yJ1_indexOfChar_4cfef cJ1_indexOfChar_4cfef 6 (some .int) 1 50 [.ref q, .int ch, .int 0, .int (nI bs.length)] (some (.int (bk_fnd ch.toInt8.toInt32 bs 0))) := by
  refine bk_SMof rfl (Nat.le_of_ble_eq_true rfl) fun p e s m below meth c ls K hL => ?_
  have hx := K.1
  have hb := K.2.1
  have hH := K.2.2.2.2.2.1.2.1
  have z0 := K.2.2.2.2.2.1.1.zq.1
  have hT := K.2.2.2.2.2.1.2.2.kept (H1 := s.heap) fun a ha _ => hH.2 a (by rw [z0] at ha; exact ha)
  refine lv_iload_n hx hb bk_jd_ich_0 rfl (lv_at hL 1 rfl) ?_
  refine lv_i2b hx hb bk_jd_ich_1 rfl ?_
  refine lv_istore hx hb bk_jd_ich_2 hL (by decide) rfl fun ls1 hL1 => ?_
  refine lv_iload_n hx hb bk_jd_ich_4 rfl (lv_at hL1 3 rfl) ?_
  refine lv_istore hx hb bk_jd_ich_5 hL1 (by decide) rfl fun ls2 hL2 => ?_
  have hL2 : lv_has ls2 6 [(5, .int (nI 0)), (4, .int ch.toInt8.toInt32), (0, .ref q), (3, .int (nI bs.length))] := lv_sub hL2 [0, 1, 2, 5] rfl
  have loop : ∀ (r : List Int32) (k : Nat) (ls2 : Array Slot), k + r.length = bs.length → bs.drop k = r → lv_has ls2 6 [(5, .int (nI k)), (4, .int ch.toInt8.toInt32), (0, .ref q), (3, .int (nI bs.length))] →
      W p l e (bk_rm 1 50 (0, 0)) s m ([.ref q, .int ch, .int 0, .int (nI bs.length)] : List Value).toArray below meth c s.heap [] 0 0 (MQ below (bk_QS (some (.int (bk_fnd ch.toInt8.toInt32 r k)))) ([.ref q, .int ch, .int 0, .int (nI bs.length)] : List Value).toArray s 0 0 (fun _ => False)) (F0 m 7 ls2 []) := by
    intro r
    induction r with
    | nil =>
      intro k ls2 hk hd hL2
      refine lv_iload hx hb bk_jd_ich_7 (lv_at hL2 0 rfl) ?_
      refine lv_iload_n hx hb bk_jd_ich_9 rfl (lv_at hL2 3 rfl) ?_
      have hk : k = bs.length := by simpa using hk
      refine lv_icmp_ge hx hb bk_jd_ich_10 (tgt := 31) rfl (fun _ => ?_) (fun h => absurd (by rw [hk]; exact Int32.le_refl _) h)
      refine lv_iconst hx hb bk_jd_ich_31 rfl ?_
      exact bk_Sret K rfl bk_jd_ich_32
    | cons b r ih =>
      intro k ls2 hk hd hL2
      rw [List.length_cons] at hk
      have hlt : k < bs.length := by omega
      have hbk : bs.getD k 0 = b := by
        have h0 : (bs.drop k)[0]? = some b := by rw [hd]; rfl
        rw [List.getElem?_drop] at h0
        rw [List.getD_eq_getElem?_getD, show k = k + 0 from rfl, h0]
        rfl
      have hin : vp_in (nI k) bs.length := by
        rintro (h | h)
        · exact absurd h (nI_pos (by omega))
        · rw [nI_clamp (by omega)] at h
          omega
      refine lv_iload hx hb bk_jd_ich_7 (lv_at hL2 0 rfl) ?_
      refine lv_iload_n hx hb bk_jd_ich_9 rfl (lv_at hL2 3 rfl) ?_
      refine lv_icmp_ge hx hb bk_jd_ich_10 (tgt := 31) rfl (fun h => absurd h (nI_ge hlt (by omega))) (fun _ => ?_)
      refine lv_aload_n hx hb bk_jd_ich_13 rfl (lv_at hL2 2 rfl) ?_
      refine lv_iload hx hb bk_jd_ich_14 (lv_at hL2 0 rfl) ?_
      refine va_tb hx hb hT va_S.rf hin (v := .int b) (by rw [nI_clamp (by omega), hbk]) bk_jd_ich_16 ?_
      refine lv_iload hx hb bk_jd_ich_17 (lv_at hL2 1 rfl) ?_
      unfold bk_fnd
      refine lv_icmp_ne hx hb bk_jd_ich_19 (tgt := 25) rfl (fun hne => ?_) (fun he => ?_)
      · rw [if_neg hne]
        refine lv_iinc hx hb bk_jd_ich_25 hL2 (k := 0) rfl rfl (by decide) rfl fun ls3 hL3 => ?_
        have hL3 : lv_has ls3 6 [(5, .int (nI k + Int32.ofInt 1)), (4, .int ch.toInt8.toInt32), (0, .ref q), (3, .int (nI bs.length))] := lv_sub hL3 [0, 1, 2, 3] rfl
        refine lv_goto hx hb bk_jd_ich_28 (tgt := 7) rfl ?_
        refine ih (k + 1) ls3 (by omega) ?_ ?_
        · rw [← List.drop_drop, hd]
          rfl
        · rw [nI_succ]
          exact hL3
      · rw [if_pos he]
        refine lv_iload hx hb bk_jd_ich_22 (lv_at hL2 0 rfl) ?_
        exact bk_Sret K rfl bk_jd_ich_24
  exact loop bs 0 ls2 (by omega) rfl hL2
end BKS
