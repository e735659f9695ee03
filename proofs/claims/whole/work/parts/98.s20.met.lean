/-! ALL METHODS: a walk in the abstract is a contract at the machine. -/
section BKM
variable {p : Program} {l : Launch} {e : Env} {R : Room} {s : State} {m : MethodId} {args : Array Value} {below : List Frame} {meth : Method} {c : Code} {Z : State → Prop} {V : bk_V} {N0 : Nat} {H00 : Heap} {D : va_G} {τ : Nat → ClassId} {C : bk_P} {j : Nat} {B : Nat × Nat} {Q : bk_R → bk_H → Nat → Prop}
theorem bk_stepX {f lo : Nat} (K : bk_Cx p l e R s m args below meth c Z V N0 H00 D τ B j) (Ct : bk_Ct l V N0 H00 D τ C f lo) (hfr : f + 1 ≤ R.frames) (hlo9 : 39 + lo ≤ R.locals) (hSO : bk_SO p l e R s m args below meth c Z V N0 H00 D τ B j) (hTab : c.exceptionTable.toList = tableOf (bk_hh j)) (hTX : bk_TX p l e R s m args below meth c Z V N0 H00 D τ B j Q) (hRT : bk_RT p l e R s m args below meth c Z V N0 H00 D τ B j Q)
    (pc : Nat) (L : bk_L) (st : List Value) (h : bk_H) (n : Nat) (cs : Nat × Nat) (z : bk_s1 V C j pc L st h n cs B Q (bk_Wp p l e R s m args below meth c Z V N0 H00 D τ B (bk_max j))) : bk_Wp p l e R s m args below meth c Z V N0 H00 D τ B (bk_max j) pc L st h n cs := by
  cases hi : bk_ins j pc with
  | none =>
    simp only [bk_s1, hi] at z
  | some x =>
    obtain ⟨I, nx, sw, k⟩ := x
    exact bk_step K Ct hfr hlo9 hSO hTab hTX hRT I pc nx sw k L st h n cs hi z
/-- a walk from the entry -/
theorem bk_enter {f lo : Nat} (K : bk_Cx p l e R s m args below meth c Z V N0 H00 D τ B j) (Ct : bk_Ct l V N0 H00 D τ C f lo) (hfr : f + 1 ≤ R.frames) (hlo9 : 39 + lo ≤ R.locals) (hSO : bk_SO p l e R s m args below meth c Z V N0 H00 D τ B j) (hTab : c.exceptionTable.toList = tableOf (bk_hh j)) (hTX : bk_TX p l e R s m args below meth c Z V N0 H00 D τ B j Q) (hRT : bk_RT p l e R s m args below meth c Z V N0 H00 D τ B j Q)
    {As : List Value} {h : bk_H} {n : Nat} {H : Heap} (hR : bk_Rl N0 H00 D τ h n H) (hgo : bk_gd (Nat.ble (bk_arg As).length (bk_max j)) (bk_go V C j B Q 0 (bk_ent (bk_max j) As) [] h n (0, 0))) : W p l e R s m args below meth c H [] 0 0 Z (entryFrame m As.toArray (bk_max j)) := by
  obtain ⟨hlen, hgo⟩ := bk_gd_el hgo
  have hl : (lg_sl As).length ≤ bk_max j := by
    rw [← bk_arg_len]
    exact Nat.le_of_ble_eq_true hlen
  have hX := hgo _ (bk_stepX K Ct hfr hlo9 hSO hTab hTX hRT)
  rw [lg_entry_eq]
  exact hX H _ [] (bk_LR.entry hl (lv_entry As hl)) (bk_ent_len hl) hR (fun z hz => nomatch hz) (Nat.zero_le _) (Nat.zero_le _)
end BKM
def bk_SOA (l : Launch) (V : bk_V) (N0 : Nat) (H00 : Heap) (D : va_G) (τ : Nat → ClassId) : Prop := ∀ (p : Program) (e : Env) (R : Room) (s : State) (m : MethodId) (args : Array Value) (below : List Frame) (meth : Method) (c : Code) (Z : State → Prop) (B : Nat × Nat) (j : Nat),
  bk_Cx p l e R s m args below meth c Z V N0 H00 D τ B j → bk_SO p l e R s m args below meth c Z V N0 H00 D τ B j
theorem bk_body {l : Launch} {V : bk_V} {N0 : Nat} {H00 : Heap} {D : va_G} {τ : Nat → ClassId} (hst : l.stackTraces = false) (hSO : bk_SOA l V N0 H00 D τ) {d k : Nat} (hk : k < 246) (IH : bk_Ct l V N0 H00 D τ (bk_wp V d) (d + 10) (45 * d + 400)) {As : List Value} {h : bk_H} {n : Nat} {b : Nat × Nat} {Q : bk_R → bk_H → Nat → Prop}
    (hC : bk_wp V (d + 1) k As h n b Q) {p : Program} {e : Env} {s : State} {m : MethodId} {args : Array Value} {below : List Frame} {meth : Method} {c : Code} {s₁ : State}
    (Bd : BodyLoose p l (bk_y k) (headSpec (bk_wC (bk_m k) :: lw_G) (bk_rm (d + 11) (45 * d + 445) b)) (bk_cc k) (bk_max k) (bk_ret k) e s m args below meth c s₁) (hml : c.maxLocals = bk_max k) (hTab : c.exceptionTable.toList = tableOf (bk_hh k)) (hP : bk_PC V N0 H00 D τ As h n args s) :
    W p l e (headSpec (bk_wC (bk_m k) :: lw_G) (bk_rm (d + 11) (45 * d + 445) b)).room s m args below meth c s.heap [] 0 0 (vx_MQ below (bk_Qc N0 H00 D τ Q) (bk_XC N0 H00 D τ Q) args s b.1 b.2 (fun q => N0 ≤ q)) (entryFrame m args (bk_max k)) := by
  obtain ⟨rfl, hB, hR⟩ := hP
  have hts : ∀ w ∈ lw_G, w.before As.toArray s = true := fun w hw => atoms_spec (ws := bk_wC (bk_m k) :: lw_G) Bd.pre w (List.mem_cons_of_mem _ hw)
  have hown : s.vm.findClass (bk_rn (bk_own k)) = some m.cls := by
    rw [← (bk_pw_sp hk).2.2.1]
    exact findClass_of_methodNamed Bd.named
  have K : bk_Cx p l e (bk_rm (d + 11) (45 * d + 445) b) s m As.toArray below meth c (vx_MQ below (bk_Qc N0 H00 D τ Q) (bk_XC N0 H00 D τ Q) As.toArray s b.1 b.2 (fun q => N0 ≤ q)) V N0 H00 D τ b k :=
    ⟨Bd.exec, Bd.bytes, hml, hown, hts, hB, Nat.le_refl _, Nat.le_refl _, ⟨by rw [hR.1]; exact hR.2.1, hR.2.2.1⟩, by show 11 ≤ d + 11; omega, by show 445 ≤ 45 * d + 445; omega, Bd.notSynchronized, fun hn => by rw [(name_of_methodNamed Bd.named Bd.method).1]; exact hn⟩
  exact bk_enter K IH (by show d + 10 + 1 ≤ d + 11; omega) (by show 39 + (45 * d + 400) ≤ 45 * d + 445; omega) (hSO _ _ _ _ _ _ _ _ _ _ _ _ K) hTab (fun _ _ _ _ => ⟨rfl, hst⟩) (bk_RTm Bd.exec Bd.bytes Bd.returns Bd.notSynchronized) hR hC
theorem bk_all {l : Launch} {V : bk_V} {N0 : Nat} {H00 : Heap} {D : va_G} {τ : Nat → ClassId} (hst : l.stackTraces = false) (hSO : bk_SOA l V N0 H00 D τ) : ∀ d, bk_Ct l V N0 H00 D τ (bk_wp V d) (d + 10) (45 * d + 400) := by
  intro d
  induction d with
  | zero => exact fun k As h n b Q hk hC => hC.elim
  | succ d IH =>
    intro k As h n b Q hk hC
    have hpl := (bk_pw_sp hk).2.2.2.1
    show vx_Met l (bk_y k) (bk_wC (bk_m k) :: lw_G) (bk_rm (d + 1 + 10) (45 * (d + 1) + 400) b) _ _ _ _ _ _
    rw [show d + 1 + 10 = d + 11 by omega, show 45 * (d + 1) + 400 = 45 * d + 445 by omega]
    cases hh : bk_hh k with
    | nil =>
      refine vx_ofW (cc := bk_cc k) (maxL := bk_max k) (ret := bk_ret k) (ws' := lw_G) hpl (by rw [bk_wC_nil hh]) fun p e s m args below meth c s₁ Bd hml hexc hP => ?_
      refine bk_body hst hSO hk IH hC Bd hml ?_ hP
      rw [hh]
      exact List.eq_nil_iff_forall_not_mem.mpr fun x hx => hexc x hx
    | cons q r =>
      refine vx_ofWH (cc := bk_cc k) (maxL := bk_max k) (ret := bk_ret k) (hh := q :: r) (ws' := lw_G) hpl (by rw [bk_wC_cons hh]) fun p e s m args below meth c s₁ Bd hml hP => ?_
      refine bk_body hst hSO hk IH hC Bd hml ?_ hP
      rw [hh]
      refine vx_table (x := bk_y k) Bd (y := bk_y k) (bytes := bk_cc k) (maxL' := bk_max k) (ret' := bk_ret k) ?_
      rw [← bk_wC_cons hh]
      exact atoms_spec (ws := bk_wC (bk_m k) :: lw_G) Bd.pre _ List.mem_cons_self
