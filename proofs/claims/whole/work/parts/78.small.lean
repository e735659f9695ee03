/-! THE REFERENCE: reading, its small steps. Printed by wip/whole/mk78.py. -/
/-- an operator's word -/
def oW (k : Int32) : Int32 := if k = 48 then 31 else if k < 38 then k - 1 else k - 6
abbrev isNm (k : Int32) : Prop := k = 2 ∨ k = 19 ∨ k = 20 ∨ k = 21 ∨ k = 22
/-- a step in the reference's integers -/
def rcI (nv : Nat → Int32) (q : bIt) : List Int32 := match q.2 with
  | none => [oW q.1]
  | some j => if q.1 = 31 then [30, nv j] else if isNm q.1 then [oW q.1, nI j] else [oW q.1]
def rcL (nv : Nat → Int32) : List bIt → List Int32
  | [] => []
  | q :: l => rcI nv q ++ rcL nv l
def lnI (q : bIt) : Nat := match q.2 with
  | none => 1
  | some _ => if q.1 = 31 then 2 else if isNm q.1 then 2 else 1
def lnL : List bIt → Nat
  | [] => 0
  | q :: l => lnI q + lnL l
/-- where the names' numbers will stand -/
def opI (q : bIt) (p : Nat) : List Nat := match q.2 with
  | none => []
  | some _ => if q.1 = 31 then [] else if isNm q.1 then [p + 1] else []
def opL : List bIt → Nat → List Nat
  | [], _ => []
  | q :: l, p => opI q p ++ opL l (p + lnI q)
theorem rcI_len {nv : Nat → Int32} {q : bIt} : (rcI nv q).length = lnI q := by
  obtain ⟨k, j⟩ := q
  cases j with
  | none => rfl
  | some j =>
    show (if k = 31 then [30, nv j] else if isNm k then [oW k, nI j] else [oW k]).length = (if k = 31 then 2 else if isNm k then 2 else 1)
    repeat' split
    all_goals rfl
theorem lnI_2 {q : bIt} : 1 ≤ lnI q ∧ lnI q ≤ 2 := by
  obtain ⟨k, j⟩ := q
  cases j with
  | none => exact ⟨Nat.le_refl 1, Nat.le_succ 1⟩
  | some j =>
    show 1 ≤ (if k = 31 then 2 else if isNm k then 2 else 1) ∧ (if k = 31 then 2 else if isNm k then 2 else 1) ≤ 2
    repeat' split
    all_goals decide
theorem rcL_len {nv : Nat → Int32} : ∀ l : List bIt, (rcL nv l).length = lnL l
  | [] => rfl
  | q :: l => by
    show (rcI nv q ++ rcL nv l).length = lnI q + lnL l
    rw [List.length_append, rcI_len, rcL_len l]
theorem lnL_le : ∀ l : List bIt, lnL l ≤ 2 * l.length
  | [] => Nat.le_refl 0
  | q :: l => by
    show lnI q + lnL l ≤ 2 * (l.length + 1)
    have := lnL_le l
    have := (lnI_2 (q := q)).2
    omega
theorem rcL_app {nv : Nat → Int32} : ∀ (a b : List bIt), rcL nv (a ++ b) = rcL nv a ++ rcL nv b
  | [], _ => rfl
  | q :: a, b => by
    show rcI nv q ++ rcL nv (a ++ b) = (rcI nv q ++ rcL nv a) ++ rcL nv b
    rw [rcL_app a b, List.append_assoc]
theorem opL_app : ∀ (a b : List bIt) (p : Nat), opL (a ++ b) p = opL a p ++ opL b (p + lnL a)
  | [], _, _ => rfl
  | q :: a, b, p => by
    show opI q p ++ opL (a ++ b) (p + lnI q) = (opI q p ++ opL a (p + lnI q)) ++ opL b (p + (lnI q + lnL a))
    rw [opL_app a b, List.append_assoc, Nat.add_assoc]
theorem opL_len : ∀ (l : List bIt) (p : Nat), (opL l p).length ≤ l.length
  | [], _ => Nat.le_refl 0
  | q :: l, p => by
    show (opI q p ++ opL l (p + lnI q)).length ≤ l.length + 1
    rw [List.length_append]
    have h1 := opL_len l (p + lnI q)
    have h2 : (opI q p).length ≤ 1 := by
      obtain ⟨k, j⟩ := q
      cases j with
      | none => exact Nat.zero_le 1
      | some j =>
        show (if k = 31 then [] else if isNm k then [p + 1] else []).length ≤ 1
        repeat' split
        all_goals first | exact Nat.le_refl 1 | exact Nat.zero_le 1
    omega
theorem rc_op {nv : Nat → Int32} {it : List bIt} {k : Int32} : rcL nv (it ++ [(k, none)]) = rcL nv it ++ [oW k] ∧ opL (it ++ [(k, none)]) 0 = opL it 0 := by
  rw [rcL_app, opL_app]
  exact ⟨rfl, List.append_nil _⟩
theorem rc_al {nv : Nat → Int32} {it : List bIt} {k : Int32} {j : Nat} (h1 : ¬ k = 31) (h2 : ¬ isNm k) : rcL nv (it ++ [(k, some j)]) = rcL nv it ++ [oW k] ∧ opL (it ++ [(k, some j)]) 0 = opL it 0 := by
  rw [rcL_app, opL_app]
  refine ⟨congrArg (rcL nv it ++ ·) ?_, (congrArg (opL it 0 ++ ·) ?_).trans (List.append_nil _)⟩
  · show (if k = 31 then [30, nv j] else if isNm k then [oW k, nI j] else [oW k]) ++ [] = _
    rw [if_neg h1, if_neg h2]
    rfl
  · show (if k = 31 then [] else if isNm k then [_] else []) ++ [] = _
    rw [if_neg h1, if_neg h2]
    rfl
theorem rc_nu {nv : Nat → Int32} {it : List bIt} {j : Nat} : rcL nv (it ++ [(31, some j)]) = rcL nv it ++ [30] ++ [nv j] ∧ opL (it ++ [(31, some j)]) 0 = opL it 0 := by
  rw [rcL_app, opL_app, List.append_assoc]
  exact ⟨rfl, List.append_nil _⟩
theorem rc_nm {nv : Nat → Int32} {it : List bIt} {k : Int32} {j : Nat} (h1 : ¬ k = 31) (h2 : isNm k) : rcL nv (it ++ [(k, some j)]) = rcL nv it ++ [oW k] ++ [nI j] ∧ opL (it ++ [(k, some j)]) 0 = opL it 0 ++ [lnL it + 1] := by
  rw [rcL_app, opL_app, List.append_assoc]
  refine ⟨congrArg (rcL nv it ++ ·) ?_, (congrArg (opL it 0 ++ ·) ?_)⟩
  · show (if k = 31 then [30, nv j] else if isNm k then [oW k, nI j] else [oW k]) ++ [] = _
    rw [if_neg h1, if_pos h2]
    rfl
  · show (if k = 31 then [] else if isNm k then [0 + lnL it + 1] else []) ++ [] = _
    rw [if_neg h1, if_pos h2, Nat.zero_add]
    rfl
/-- what a token is to be: by its kind, and by the kind ahead of it -/
def roF (b k : Int32) : Int32 := if k = 30 then (if b = 1 then 1 else if b = 4 then 2 else if b = 7 then 3 else if b = 11 then 14 else if b = 13 then 15 else if b = 14 then 16 else if b = 15 then 17 else if b = 16 then 18 else if b = 22 then 20 else 19) else if k = 31 then (if b = 2 then 7 else if b = 3 then 8 else if b = 5 then 9 else if b = 6 then 10 else if b = 8 then 11 else if b = 9 then 12 else if b = 10 then 13 else 0) else if k = 11 then 4 else if k = 13 then 5 else if k = 15 then 6 else 0
def pvF (Kd : Nat → Int32) (i : Nat) : Int32 := if i = 0 then 0 else Kd (i - 1)
def rof (Kd : Nat → Int32) (i : Nat) : Int32 := roF (pvF Kd i) (Kd i)
def RoL (Kd : Nat → Int32) (N : Nat) (f : Nat → Int32) (t : Nat) : Prop := (∀ i, i < t → f i = rof Kd i) ∧ ∀ i, t ≤ i → i < N → f i = 0
theorem RoL_0 {Kd : Nat → Int32} {N t : Nat} {f : Nat → Int32} (h : RoL Kd N f t) (ht : t < N) (e : rof Kd t = 0) : RoL Kd N f (t + 1) := by
  refine ⟨fun i hi => ?_, fun i h1 h2 => h.2 i (by omega) h2⟩
  by_cases z : i = t
  · rw [z, e]
    exact h.2 t (Nat.le_refl t) ht
  · exact h.1 i (by omega)
theorem RoL_s {Kd : Nat → Int32} {N t : Nat} {f : Nat → Int32} {x : Int32} (h : RoL Kd N f t) (e : rof Kd t = x) : RoL Kd N (upd f t x) (t + 1) := by
  refine ⟨fun i hi => ?_, fun i h1 h2 => ?_⟩
  · by_cases z : i = t
    · rw [z, e]
      exact if_pos rfl
    · exact (if_neg z).trans (h.1 i (by omega))
  · exact (if_neg (by omega)).trans (h.2 i (by omega) h2)
abbrev rW : Type := Nat × (Nat → Int32) × (Nat → Int32) × (Nat → Int32)
def CD (K2 : rI) (C2 : rA) (cl : List Int32) (ol : List Nat) : Prop := K2 5 = nI cl.length ∧ (∀ i, i < cl.length → C2 13 i = cl.getD i 0) ∧ K2 6 = nI ol.length ∧ ∀ i, i < ol.length → C2 14 i = nI (ol.getD i 0)
def OI (W : rW) (K2 : rI) (C2 : rA) : Prop := (∀ k, k < 4 → K2 k = 0) ∧ K2 4 = nI W.1 ∧ C2 10 = W.2.1 ∧ C2 11 = W.2.2.1 ∧ C2 12 = W.2.2.2
/-- it reads: at token t, d deep, cl and ol are written -/
def PR (h0 : bk_H) (y u v : Nat) (T : List Int32) (P : Nat → bT) (S : bS) (K : rI) (C Fx : rA) (Kd : Nat → Int32) (N : Nat) (W : rW) (cl : List Int32) (ol : List Nat) (t d : Nat) (h : bk_H) : Prop :=
  ∃ (J : rI) (F : rA) (K2 : rI) (C2 : rA), MT h0 h y u v T P S K C J F K2 C2 ∧ (J 0 = 0 ∧ J 2 = -1) ∧ J 3 = nI t ∧ J 4 = nI d ∧ (F 0 = Fx 0 ∧ F 1 = Fx 1 ∧ F 2 = Fx 2 ∧ F 4 = Fx 4) ∧ RoL Kd N (F 3) t ∧ CD K2 C2 cl ol ∧ OI W K2 C2
/-- it has failed at token t -/
def PE (h0 : bk_H) (y u v : Nat) (T : List Int32) (P : Nat → bT) (S : bS) (K : rI) (C Fx : rA) (t : Nat) (h : bk_H) : Prop :=
  ∃ (J : rI) (F : rA) (K2 : rI) (C2 : rA), MT h0 h y u v T P S K C J F K2 C2 ∧ (J 0 = 0 ∧ J 2 = -1) ∧ J 3 = nI t ∧ (F 0 = Fx 0 ∧ F 1 = Fx 1 ∧ F 2 = Fx 2 ∧ F 4 = Fx 4)
def FXk (Fx : rA) (Kd : Nat → Int32) (N : Nat) : Prop := (∀ i, i < N → Fx 0 i = wK (Kd i)) ∧ (∀ i, i < N → ∃ j, j < 48 ∧ Kd i = nI j) ∧ N ≤ 401 ∧ (Kd (N - 1) = 47 ∨ Kd (N - 1) = 0)
theorem wE_all : ∀ i, i < 48 → ∀ j, j < 48 → (wK (nI j) = wK (nI i) ↔ nI j = nI i) := by decide +kernel
theorem wKe {k w : Int32} (i : Nat) (hi : i < 48) (hk : nI i = k) (hw : wK (nI i) = w) : ∀ j, j < 48 → (wK (nI j) = w ↔ nI j = k) := fun j hj => by
  rw [← hk, ← hw]
  exact wE_all i hi j hj
abbrev wKk (w k : Int32) : Prop := ∀ j, j < 48 → (wK (nI j) = w ↔ nI j = k)
/-- a token that says nothing -/
abbrev quK (k : Int32) : Prop := ¬ k = 30 ∧ ¬ k = 31 ∧ ¬ k = 11 ∧ ¬ k = 13 ∧ ¬ k = 15
theorem rof_0 {Kd : Nat → Int32} {t : Nat} (h : quK (Kd t)) : rof Kd t = 0 := by
  unfold rof roF
  rw [if_neg h.1, if_neg h.2.1, if_neg h.2.2.1, if_neg h.2.2.2.1, if_neg h.2.2.2.2]
abbrev pvB (k : Int32) : Prop := ¬ k = 2 ∧ ¬ k = 3 ∧ ¬ k = 5 ∧ ¬ k = 6 ∧ ¬ k = 8 ∧ ¬ k = 9 ∧ ¬ k = 10
/-- the token ahead asks for no number -/
def pvK (Kd : Nat → Int32) (t : Nat) : Prop := ∃ i, t = i + 1 ∧ pvB (Kd i)
theorem rof_n {Kd : Nat → Int32} {t : Nat} (h : Kd t = 31) (hp : pvK Kd t) : rof Kd t = 0 := by
  obtain ⟨i, e, b1, b2, b3, b4, b5, b6, b7⟩ := hp
  have e2 : pvF Kd t = Kd i := by
    unfold pvF
    rw [if_neg (by omega), e, Nat.add_sub_cancel]
  unfold rof roF
  rw [e2, h, if_neg (by decide), if_pos rfl, if_neg b1, if_neg b2, if_neg b3, if_neg b4, if_neg b5, if_neg b6, if_neg b7]
section MM
variable {V : bk_V} {D n : Nat} {B : Nat × Nat} {Q : bk_R → bk_H → Nat → Prop} {h0 h : bk_H} {y u v t d N : Nat} {T : List Int32} {P : Nat → bT} {S : bS} {K J : rI} {C Fx : rA} {Kd : Nat → Int32} {nv : Nat → Int32} {W : rW} {cl : List Int32} {ol : List Nat} {it : List bIt} {cs : Nat × Nat}
theorem PR.e (hX : PR h0 y u v T P S K C Fx Kd N W cl ol t d h) : PE h0 y u v T P S K C Fx t h := by
  obtain ⟨J, F, K2, C2, hM, j0, j3, j4, hf, _⟩ := hX
  exact ⟨J, F, K2, C2, hM, j0, j3, hf⟩
theorem rp_is {w k : Int32} (hw : wKk w k) (hF : FXk Fx Kd N) (ht : t < N) (hX : PR h0 y u v T P S K C Fx Kd N W cl ol t d h) (hQ : Q (.inl (some (.int (if Kd t = k then 1 else 0)))) h n) : bk_wp V (D + 1) 163 [.ref y, .int w] h n B Q := by
  obtain ⟨J, F, K2, C2, hM, j0, j3, j4, ⟨f0, f1, f2, f4⟩, hR, ⟨c5, c13, c6, c14⟩, hO⟩ := id hX
  have hkk : F 0 t = wK (Kd t) := by
    rw [f0]
    exact hF.1 t ht
  obtain ⟨jj, hj, ej⟩ := hF.2.1 t ht
  have hN := hF.2.2.1
  rw [ej] at hkk hQ
  have hwj := hw jj hj
  refine bg_in rfl rfl ?_
  refine bg_aload0 rfl ?_
  refine bg_getfield rfl rfl hM.Y (by rfl) ?_
  refine bg_aload0 rfl ?_
  
  refine bg_getfield rfl rfl hM.Y (by rfl) ?_
  rw [j3]
  refine bg_iaload_n rfl hM.f0 (by decide) (by omega) ?_
  rw [hkk]
  refine bg_iload1 rfl ?_
  refine bg_icmp_ne rfl (fun e10 => ?_) (fun e10 => ?_)
  · rw [if_neg (fun z => e10 (hwj.mpr z))] at hQ
    refine bg_iconst rfl ?_
    refine bg_iret rfl rfl (by rfl) ?_
    exact hQ
  · rw [if_pos (hwj.mp e10)] at hQ
    refine bg_iconst rfl ?_
    refine bg_goto rfl ?_
    refine bg_iret rfl rfl (by rfl) ?_
    exact hQ
theorem rp_isSign {c k : Int32} (hw : wKk (50 + c) k) (hF : FXk Fx Kd N) (ht : t < N) (hX : PR h0 y u v T P S K C Fx Kd N W cl ol t d h) (hQ : Q (.inl (some (.int (if Kd t = k then 1 else 0)))) h n) : bk_wp V (D + 1) 164 [.ref y, .int c] h n B Q := by
  obtain ⟨J, F, K2, C2, hM, j0, j3, j4, ⟨f0, f1, f2, f4⟩, hR, ⟨c5, c13, c6, c14⟩, hO⟩ := id hX
  have hkk : F 0 t = wK (Kd t) := by
    rw [f0]
    exact hF.1 t ht
  obtain ⟨jj, hj, ej⟩ := hF.2.1 t ht
  have hN := hF.2.2.1
  rw [ej] at hkk hQ
  have hwj := hw jj hj
  refine bg_in rfl rfl ?_
  refine bg_aload0 rfl ?_
  refine bg_getfield rfl rfl hM.Y (by rfl) ?_
  refine bg_aload0 rfl ?_
  refine bg_getfield rfl rfl hM.Y (by rfl) ?_
  rw [j3]
  refine bg_iaload_n rfl hM.f0 (by decide) (by omega) ?_
  rw [hkk]
  refine bg_bipush rfl ?_
  refine bg_iload1 rfl ?_
  refine bg_iadd rfl ?_
  refine bg_icmp_ne rfl (fun e13 => ?_) (fun e13 => ?_)
  · rw [if_neg (fun z => e13 (hwj.mpr z))] at hQ
    refine bg_iconst rfl ?_
    refine bg_iret rfl rfl (by rfl) ?_
    exact hQ
  · rw [if_pos (hwj.mp e13)] at hQ
    refine bg_iconst rfl ?_
    refine bg_goto rfl ?_
    refine bg_iret rfl rfl (by rfl) ?_
    exact hQ
theorem rp_eat {w k : Int32} (hw : wKk w k) (hr : Kd t = k → rof Kd t = 0) (hF : FXk Fx Kd N) (ht : t < N) (hX : PR h0 y u v T P S K C Fx Kd N W cl ol t d h) (hT : Kd t = k → ∀ h', PR h0 y u v T P S K C Fx Kd N W cl ol (t + 1) d h' → Q (.inl (some (.int 1))) h' n) (hN : ¬ Kd t = k → Q (.inl (some (.int 0))) h n) : bk_wp V (D + 2) 165 [.ref y, .int w] h n B Q := by
  obtain ⟨J, F, K2, C2, hM, j0, j3, j4, ⟨f0, f1, f2, f4⟩, hR, ⟨c5, c13, c6, c14⟩, hO⟩ := id hX
  refine bg_in rfl rfl ?_
  refine bg_aload0 rfl ?_
  refine bg_iload1 rfl ?_
  refine bg_virt1 rfl rfl rfl rfl ⟨_, hM.Y⟩ ?_
  refine rp_is hw hF ht hX (bk_Ki ?_)
  refine bg_ifne_b rfl (fun e5 => ?_) (fun e5 => ?_)
  · refine bg_aload0 rfl ?_
    refine bg_dup rfl rfl ?_
    refine bg_getfield rfl rfl hM.Y (by rfl) ?_
    refine bg_iconst rfl ?_
    refine bg_iadd rfl ?_
    refine bg_putfield rfl rfl hM.Y (by rfl) ⟨rfl, rfl⟩ (by rfl) (fun h17 f17 g17 => ?_)
    rw [j3, nI_1] at f17
    have hM := hM.j (J' := upd J 3 (nI (t + 1))) f17 g17 rfl
    refine bg_iconst rfl ?_
    refine bg_iret rfl rfl (by rfl) ?_
    first
      | exact hN e5
      | exact hT e5 h17 ⟨_, F, K2, C2, hM, j0, rfl, j4, ⟨f0, f1, f2, f4⟩, RoL_0 hR ht (hr e5), ⟨c5, c13, c6, c14⟩, hO⟩
  · refine bg_iconst rfl ?_
    refine bg_iret rfl rfl (by rfl) ?_
    first
      | exact hN e5
      | exact hT e5 h17 ⟨_, F, K2, C2, hM, j0, rfl, j4, ⟨f0, f1, f2, f4⟩, RoL_0 hR ht (hr e5), ⟨c5, c13, c6, c14⟩, hO⟩
theorem rp_eatSign {c k : Int32} (hw : wKk (50 + c) k) (hr : Kd t = k → rof Kd t = 0) (hF : FXk Fx Kd N) (ht : t < N) (hX : PR h0 y u v T P S K C Fx Kd N W cl ol t d h) (hT : Kd t = k → ∀ h', PR h0 y u v T P S K C Fx Kd N W cl ol (t + 1) d h' → Q (.inl (some (.int 1))) h' n) (hN : ¬ Kd t = k → Q (.inl (some (.int 0))) h n) : bk_wp V (D + 3) 166 [.ref y, .int c] h n B Q := by
  obtain ⟨J, F, K2, C2, hM, j0, j3, j4, ⟨f0, f1, f2, f4⟩, hR, ⟨c5, c13, c6, c14⟩, hO⟩ := id hX
  refine bg_in rfl rfl ?_
  refine bg_aload0 rfl ?_
  refine bg_bipush rfl ?_
  refine bg_iload1 rfl ?_
  refine bg_iadd rfl ?_
  refine bg_virt1 rfl rfl rfl rfl ⟨_, hM.Y⟩ ?_
  refine rp_eat hw hr hF ht hX (fun q h1 hX1 => bk_Ki ?_) (fun q => bk_Ki ?_)
  · refine bg_iret rfl rfl (by rfl) ?_
    exact hT q h1 hX1
  · refine bg_iret rfl rfl (by rfl) ?_
    exact hN q
theorem rp_eatAs {w k a : Int32} (hw : wKk w k) (hr : Kd t = k → rof Kd t = a) (hF : FXk Fx Kd N) (ht : t < N) (hX : PR h0 y u v T P S K C Fx Kd N W cl ol t d h) (hT : Kd t = k → ∀ h', PR h0 y u v T P S K C Fx Kd N W cl ol (t + 1) d h' → Q (.inl (some (.int 1))) h' n) (hN : ¬ Kd t = k → ∀ h', PE h0 y u v T P S K C Fx t h' → Q (.inl (some (.int 0))) h' n) : bk_wp V (D + 3) 167 [.ref y, .int w, .int a] h n B Q := by
  obtain ⟨J, F, K2, C2, hM, j0, j3, j4, ⟨f0, f1, f2, f4⟩, hR, ⟨c5, c13, c6, c14⟩, hO⟩ := id hX
  have hN4 := hF.2.2.1
  refine bg_in rfl rfl ?_
  refine bg_aload0 rfl ?_
  refine bg_getfield rfl rfl hM.Y (by rfl) ?_
  refine bg_aload0 rfl ?_
  refine bg_getfield rfl rfl hM.Y (by rfl) ?_
  rw [j3]
  refine bg_iload2 rfl ?_
  refine bg_iastore_n rfl hM.f3 (by decide) (by omega) (fun h9 f9 g9 => ?_)
  have hM := hM.ff3 f9 g9
  refine bg_aload0 rfl ?_
  refine bg_iload1 rfl ?_
  refine bg_virt1 rfl rfl rfl rfl ⟨_, hM.Y⟩ ?_
  obtain ⟨jj, hj, ej⟩ := hF.2.1 t ht
  have hwj := hw jj hj
  have hkk : (uA F 3 (upd (F 3) t a)) 0 t = wK (Kd t) := (congrFun f0 t).trans (hF.1 t ht)
  rw [ej] at hkk
  refine bg_in rfl rfl ?_
  refine bg_aload0 rfl ?_
  refine bg_iload1 rfl ?_
  refine bg_virt1 rfl rfl rfl rfl ⟨_, hM.Y⟩ ?_
  refine bg_in rfl rfl ?_
  refine bg_aload0 rfl ?_
  refine bg_getfield rfl rfl hM.Y (by rfl) ?_
  refine bg_aload0 rfl ?_
  refine bg_getfield rfl rfl hM.Y (by rfl) ?_
  rw [j3]
  refine bg_iaload_n rfl hM.f0 (by decide) (by omega) ?_
  rw [hkk]
  refine bg_iload1 rfl ?_
  refine bg_icmp_ne rfl (fun e10 => ?_) (fun e10 => ?_)
  · refine bg_iconst rfl ?_
    refine bg_iret rfl rfl (by rfl) ?_
    refine bk_Ki ?_
    refine bg_if_ne rfl (fun e5 => absurd rfl e5) (fun e5 => ?_)
    refine bg_iconst rfl ?_
    refine bg_iret rfl rfl (by rfl) ?_
    refine bk_Ki ?_
    refine bg_iret rfl rfl (by rfl) ?_
    exact hN (by rw [ej]; exact fun z => e10 (hwj.mpr z)) h9 ⟨J, _, K2, C2, hM, j0, j3, f0, f1, f2, f4⟩
  · refine bg_iconst rfl ?_
    refine bg_goto rfl ?_
    refine bg_iret rfl rfl (by rfl) ?_
    refine bk_Ki ?_
    refine bg_if_ne rfl (fun e5 => ?_) (fun e5 => absurd e5 (by decide))
    refine bg_aload0 rfl ?_
    refine bg_dup rfl rfl ?_
    refine bg_getfield rfl rfl hM.Y (by rfl) ?_
    refine bg_iconst rfl ?_
    refine bg_iadd rfl ?_
    refine bg_putfield rfl rfl hM.Y (by rfl) ⟨rfl, rfl⟩ (by rfl) (fun h17 f17 g17 => ?_)
    rw [j3, nI_1] at f17
    have hM := hM.j (J' := upd J 3 (nI (t + 1))) f17 g17 rfl
    refine bg_iconst rfl ?_
    refine bg_iret rfl rfl (by rfl) ?_
    refine bk_Ki ?_
    refine bg_iret rfl rfl (by rfl) ?_
    have hk : Kd t = k := by
      rw [ej]
      exact hwj.mp e10
    exact hT hk h17 ⟨_, _, K2, C2, hM, j0, rfl, j4, ⟨f0, f1, f2, f4⟩, RoL_s hR (hr hk), ⟨c5, c13, c6, c14⟩, hO⟩
theorem rp_put {x : Int32} (hl : cl.length < 800) (hX : PR h0 y u v T P S K C Fx Kd N W cl ol t d h) (hQ : ∀ h', PR h0 y u v T P S K C Fx Kd N W (cl ++ [x]) ol t d h' → Q (.inl none) h' n) : bk_wp V (D + 1) 168 [.ref y, .int x] h n B Q := by
  obtain ⟨J, F, K2, C2, hM, j0, j3, j4, ⟨f0, f1, f2, f4⟩, hR, ⟨c5, c13, c6, c14⟩, hO⟩ := id hX
  refine bg_in rfl rfl ?_
  refine bg_aload0 rfl ?_
  refine bg_getfield rfl rfl hM.Y (by rfl) ?_
  refine bg_getfield rfl rfl hM.R.1 (by rfl) ?_
  refine bg_aload0 rfl ?_
  refine bg_getfield rfl rfl hM.Y (by rfl) ?_
  refine bg_getfield rfl rfl hM.R.1 (by rfl) ?_
  rw [c5]
  refine bg_iload1 rfl ?_
  refine bg_iastore_n (i := cl.length) rfl (pR14 hM.R) (by decide) (by omega) (fun h15 f15 g15 => ?_)
  have hM := hM.cc13 f15 g15
  refine bg_aload0 rfl ?_
  refine bg_getfield rfl rfl hM.Y (by rfl) ?_
  refine bg_dup rfl rfl ?_
  refine bg_getfield rfl rfl hM.R.1 (by rfl) ?_
  refine bg_iconst rfl ?_
  refine bg_iadd rfl ?_
  refine bg_putfield rfl rfl hM.R.1 (by rfl) ⟨rfl, rfl⟩ (by rfl) (fun h26 f26 g26 => ?_)
  rw [c5, nI_1] at f26
  have hM := hM.kk5 f26 g26
  refine bg_ret rfl rfl ?_
  refine hQ h26 ⟨J, F, _, _, hM, j0, j3, j4, ⟨f0, f1, f2, f4⟩, hR, ⟨?_, fun i hi => ?_, c6, c14⟩, ⟨fun k hk => (if_neg (by omega)).trans (hO.1 k hk), hO.2.1, hO.2.2⟩⟩
  · show nI (cl.length + 1) = _
    rw [List.length_append]
    rfl
  · show (if i = cl.length then x else C2 13 i) = _
    rw [List.length_append] at hi
    by_cases z : i = cl.length
    · rw [if_pos z, z, List.getD_eq_getElem?_getD, List.getElem?_append_right (Nat.le_refl _), Nat.sub_self]
      rfl
    · have h3 : i < cl.length := by
        have : i < cl.length + 1 := hi
        omega
      rw [if_neg z, c13 i h3, List.getD_eq_getElem?_getD, List.getD_eq_getElem?_getD, List.getElem?_append_left h3]
theorem rp_deeper (hd : d ≤ 8) (hr : rof Kd t = 0) (hF : FXk Fx Kd N) (ht : t < N) (hX : PR h0 y u v T P S K C Fx Kd N W cl ol t d h) (hT : d < 8 → ∀ h', PR h0 y u v T P S K C Fx Kd N W cl ol (t + 1) (d + 1) h' → Q (.inl (some (.int 1))) h' n) (hN : ¬ d < 8 → Q (.inl (some (.int 0))) h n) : bk_wp V (D + 1) 177 [.ref y] h n B Q := by
  obtain ⟨J, F, K2, C2, hM, j0, j3, j4, ⟨f0, f1, f2, f4⟩, hR, ⟨c5, c13, c6, c14⟩, hO⟩ := id hX
  refine bg_in rfl rfl ?_
  refine bg_aload0 rfl ?_
  refine bg_getfield rfl rfl hM.Y (by rfl) ?_
  rw [j4]
  refine bg_bipush rfl ?_
  refine bg_icmp_ne rfl (fun e6 => ?_) (fun e6 => ?_)
  · have hd8 : d < 8 := Nat.lt_of_le_of_ne hd (fun z => e6 (by rw [z]; rfl))
    refine bg_aload0 rfl ?_
    refine bg_dup rfl rfl ?_
    refine bg_getfield rfl rfl hM.Y (by rfl) ?_
    refine bg_iconst rfl ?_
    refine bg_iadd rfl ?_
    refine bg_putfield rfl rfl hM.Y (by rfl) ⟨rfl, rfl⟩ (by rfl) (fun h18 f18 g18 => ?_)
    rw [j4, nI_1] at f18
    have hM := hM.j (J' := upd J 4 (nI (d + 1))) f18 g18 rfl
    refine bg_aload0 rfl ?_
    refine bg_dup rfl rfl ?_
    refine bg_getfield rfl rfl hM.Y (by rfl) ?_
    refine bg_iconst rfl ?_
    refine bg_iadd rfl ?_
    refine bg_putfield rfl rfl hM.Y (by rfl) ⟨rfl, rfl⟩ (by rfl) (fun h28 f28 g28 => ?_)
    rw [show upd J 4 (nI (d + 1)) 3 = nI t from j3, nI_1] at f28
    have hM := hM.j (J' := upd (upd J 4 (nI (d + 1))) 3 (nI (t + 1))) f28 g28 rfl
    refine bg_iconst rfl ?_
    refine bg_iret rfl rfl (by rfl) ?_
    first
      | exact hN hd8
      | exact hT hd8 h28 ⟨_, F, K2, C2, hM, j0, rfl, rfl, ⟨f0, f1, f2, f4⟩, RoL_0 hR ht hr, ⟨c5, c13, c6, c14⟩, hO⟩
  · have hd8 : ¬ d < 8 := fun z => absurd ((nI_eq (b := 8) (by omega) (by decide)).mp e6) (by omega)
    refine bg_iconst rfl ?_
    refine bg_iret rfl rfl (by rfl) ?_
    first
      | exact hN hd8
      | exact hT hd8 h28 ⟨_, F, K2, C2, hM, j0, rfl, rfl, ⟨f0, f1, f2, f4⟩, RoL_0 hR ht hr, ⟨c5, c13, c6, c14⟩, hO⟩
end MM
