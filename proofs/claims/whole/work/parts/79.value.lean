/-! THE REFERENCE: reading a value. Printed by wip/whole/mk79.py. -/
def NVk (Fx : rA) (Kd : Nat → Int32) (N : Nat) (T : List Int32) (nv : Nat → Int32) : Prop := ∀ i, i < N → Kd i = 31 → ∃ s l, Fx 1 i = nI s ∧ Fx 2 i = nI l ∧ s + l ≤ T.length ∧ nv i = nmL T l s 0
theorem al_all : ∀ j, j < 48 → (alR (wK (nI j)) ↔ (nI j = 18 ∨ nI j = 23 ∨ nI j = 24)) := by decide +kernel
theorem of_all : ∀ j, j < 48 → (ofR (wK (nI j)) ↔ isNm (nI j)) := by decide +kernel
theorem oW_all : ∀ j, j < 48 → (nI j = 18 ∨ nI j = 23 ∨ nI j = 24 ∨ isNm (nI j) ∨ nI j = 28 ∨ nI j = 29) → wK (nI j) = oW (nI j) := by decide +kernel
theorem qu_all : ∀ j, j < 48 → (nI j = 18 ∨ nI j = 23 ∨ nI j = 24 ∨ isNm (nI j) ∨ nI j = 28 ∨ nI j = 29 ∨ ¬ nI j < 32 ∨ nI j = 25 ∨ nI j = 26 ∨ nI j = 27) → quK (nI j) := by decide +kernel
theorem nm_all : ∀ j, j < 48 → isNm (nI j) → roF (nI j) 30 = if nI j = 22 then 20 else 19 := by decide +kernel
def rpS (V : bk_V) (h0 : bk_H) (y u v : Nat) (T : List Int32) (P : Nat → bT) (S : bS) (K : rI) (C Fx : rA) (Kd : Nat → Int32) (N : Nat) (nv : Nat → Int32) (W : rW) (pf : Nat → Nat → bR3) (w j n : Nat) : Prop :=
  ∀ (D d t : Nat) (it : List bIt) (h : bk_H) (nn : Nat) (B : Nat × Nat) (Q : bk_R → bk_H → Nat → Prop), d ≤ 8 → t < N → it.length ≤ t → pvK Kd t → 8 * (N - t) + w ≤ n → 6 * (8 - d) + w + 5 ≤ D → PR h0 y u v T P S K C Fx Kd N W (rcL nv it) (opL it 0) t d h →
    (∀ (h' : bk_H) (b : Int32), (b = 1 ∧ (pf d t).1 = true ∧ PR h0 y u v T P S K C Fx Kd N W (rcL nv (it ++ (pf d t).2.2)) (opL (it ++ (pf d t).2.2) 0) (pf d t).2.1 d h') ∨ (b = 0 ∧ ¬ (pf d t).1 = true ∧ PE h0 y u v T P S K C Fx (pf d t).2.1 h') → Q (.inl (some (.int b))) h' nn) → bk_wp V D j [.ref y] h nn B Q
section MM
variable {V : bk_V} {D n : Nat} {B : Nat × Nat} {Q : bk_R → bk_H → Nat → Prop} {h0 h : bk_H} {y u v t d N : Nat} {T : List Int32} {P : Nat → bT} {S : bS} {K J : rI} {C Fx : rA} {Kd : Nat → Int32} {nv : Nat → Int32} {W : rW} {cl : List Int32} {ol : List Nat} {it : List bIt} {cs : Nat × Nat}
theorem mt_numberL {F C2 : rA} {K2 : rI} {j s l : Nat} (hM : MT h0 h y u v T P S K C J F K2 C2) (h1 : F 1 j = nI s) (h2 : F 2 j = nI l) (h3 : s + l ≤ T.length) (hj : j < 401) (hQ : Q (.inl (some (.int (nmL T l s 0)))) h n) : ∀ (c k : Nat), k + c = l → bk_g V D 183 B Q 4 [some (.ref y), some (.int (nI j)), some (.int (nmL T k s 0)), some (.int (nI k))] [] h n cs := by
  obtain ⟨tp, ht, ht2⟩ := hM.mb.tp
  have hT2 := hM.mb.T2
  intro c
  induction c with
  | zero =>
    intro k hk
    refine bg_iload3 rfl ?_
    refine bg_aload0 rfl ?_
    refine bg_getfield rfl rfl hM.Y (by rfl) ?_
    refine bg_iload1 rfl ?_
    refine bg_iaload_n rfl hM.f2 (by decide) (by omega) ?_
    refine bg_icmp_ge rfl (fun e11 => ?_) (fun e11 => absurd e11 (by rw [h2]; exact nI_nlt (by omega) (by omega)))
    refine bg_iload2 rfl ?_
    refine bg_iret rfl rfl (by rfl) ?_
    have e : k = l := by omega
    subst e
    exact hQ
  | succ c ih =>
    intro k hk
    refine bg_iload3 rfl ?_
    refine bg_aload0 rfl ?_
    refine bg_getfield rfl rfl hM.Y (by rfl) ?_
    refine bg_iload1 rfl ?_
    refine bg_iaload_n rfl hM.f2 (by decide) (by omega) ?_
    refine bg_icmp_ge rfl (fun e11 => absurd (by rw [h2]; exact nI_lt (by omega) (by omega)) e11) (fun e11 => ?_)
    refine bg_bipush rfl ?_
    refine bg_iload2 rfl ?_
    refine bg_imul rfl ?_
    refine bg_aload0 rfl ?_
    refine bg_getfield rfl rfl hM.Y (by rfl) ?_
    refine bg_aload0 rfl ?_
    refine bg_getfield rfl rfl hM.Y (by rfl) ?_
    refine bg_iload1 rfl ?_
    refine bg_iaload_n rfl hM.f1 (by decide) (by omega) ?_
    refine bg_iload3 rfl ?_
    refine bg_iadd rfl ?_
    rw [h1, nI_add]
    refine bg_iaload_n rfl ht (by decide) (by omega) ?_
    refine bg_iadd rfl ?_
    refine bg_bipush rfl ?_
    refine bg_isub rfl ?_
    refine bg_istore2 rfl rfl ?_
    refine bg_iinc3 rfl rfl ?_
    rw [nI_1]
    have hb : tp (s + k) = bA T (s + k) := by
      rw [ht2 _ (by omega)]
      unfold bA
      rw [gD_lt (by omega), gD_lt (by omega)]
    have hv : 10 * nmL T k s 0 + tp (s + k) - 48 = nmL T (k + 1) s 0 := by
      rw [nmL_s, hb, Int32.mul_comm]
    rw [hv]
    refine bg_goto rfl ?_
    exact ih (k + 1) (by omega)

theorem mt_number {F C2 : rA} {K2 : rI} {j s l : Nat} (hM : MT h0 h y u v T P S K C J F K2 C2) (h1 : F 1 j = nI s) (h2 : F 2 j = nI l) (h3 : s + l ≤ T.length) (hj : j < 401) (hQ : Q (.inl (some (.int (nmL T l s 0)))) h n) : bk_wp V (D + 1) 183 [.ref y, .int (nI j)] h n B Q := by
  refine bg_in rfl rfl ?_
  refine bg_iconst rfl ?_
  refine bg_istore2 rfl rfl ?_
  refine bg_iconst rfl ?_
  refine bg_istore3 rfl rfl ?_
  exact mt_numberL hM h1 h2 h3 hj hQ l 0 (Nat.zero_add _)
theorem rq_eat {w k : Int32} (hw : wKk w k) (hr : Kd t = k → rof Kd t = 0) (hF : FXk Fx Kd N) (ht : t < N) (hX : PR h0 y u v T P S K C Fx Kd N W cl ol t d h) (hQ : ∀ (h' : bk_H) (b : Int32), (b = 1 ∧ Kd t = k ∧ PR h0 y u v T P S K C Fx Kd N W cl ol (t + 1) d h') ∨ (b = 0 ∧ ¬ Kd t = k ∧ PR h0 y u v T P S K C Fx Kd N W cl ol t d h') → Q (.inl (some (.int b))) h' n) : bk_wp V (D + 2) 165 [.ref y, .int w] h n B Q :=
  rp_eat hw hr hF ht hX (fun q h' x => hQ h' 1 (Or.inl ⟨rfl, q, x⟩)) (fun q => hQ h 0 (Or.inr ⟨rfl, q, hX⟩))
theorem rq_eatSign {c k : Int32} (hw : wKk (50 + c) k) (hr : Kd t = k → rof Kd t = 0) (hF : FXk Fx Kd N) (ht : t < N) (hX : PR h0 y u v T P S K C Fx Kd N W cl ol t d h) (hQ : ∀ (h' : bk_H) (b : Int32), (b = 1 ∧ Kd t = k ∧ PR h0 y u v T P S K C Fx Kd N W cl ol (t + 1) d h') ∨ (b = 0 ∧ ¬ Kd t = k ∧ PR h0 y u v T P S K C Fx Kd N W cl ol t d h') → Q (.inl (some (.int b))) h' n) : bk_wp V (D + 3) 166 [.ref y, .int c] h n B Q :=
  rp_eatSign hw hr hF ht hX (fun q h' x => hQ h' 1 (Or.inl ⟨rfl, q, x⟩)) (fun q => hQ h 0 (Or.inr ⟨rfl, q, hX⟩))
theorem rq_eatAs {w k a : Int32} (hw : wKk w k) (hr : Kd t = k → rof Kd t = a) (hF : FXk Fx Kd N) (ht : t < N) (hX : PR h0 y u v T P S K C Fx Kd N W cl ol t d h) (hQ : ∀ (h' : bk_H) (b : Int32), (b = 1 ∧ Kd t = k ∧ PR h0 y u v T P S K C Fx Kd N W cl ol (t + 1) d h') ∨ (b = 0 ∧ ¬ Kd t = k ∧ PE h0 y u v T P S K C Fx t h') → Q (.inl (some (.int b))) h' n) : bk_wp V (D + 3) 167 [.ref y, .int w, .int a] h n B Q :=
  rp_eatAs hw hr hF ht hX (fun q h' x => hQ h' 1 (Or.inl ⟨rfl, q, x⟩)) (fun q h' x => hQ h' 0 (Or.inr ⟨rfl, q, x⟩))
theorem rq_deeper (hd : d ≤ 8) (hr : rof Kd t = 0) (hF : FXk Fx Kd N) (ht : t < N) (hX : PR h0 y u v T P S K C Fx Kd N W cl ol t d h) (hQ : ∀ (h' : bk_H) (b : Int32), (b = 1 ∧ d < 8 ∧ PR h0 y u v T P S K C Fx Kd N W cl ol (t + 1) (d + 1) h') ∨ (b = 0 ∧ ¬ d < 8 ∧ PR h0 y u v T P S K C Fx Kd N W cl ol t d h') → Q (.inl (some (.int b))) h' n) : bk_wp V (D + 1) 177 [.ref y] h n B Q :=
  rp_deeper hd hr hF ht hX (fun q h' x => hQ h' 1 (Or.inl ⟨rfl, q, x⟩)) (fun q => hQ h 0 (Or.inr ⟨rfl, q, hX⟩))
theorem rp_named {a : Int32} (hk : isNm (Kd t)) (hr : Kd (t + 1) = 30 → rof Kd (t + 1) = a) (hl : cl.length + 2 ≤ 800) (ho : ol.length < 400) (ht1 : t + 1 < N) (hF : FXk Fx Kd N) (ht : t < N) (hX : PR h0 y u v T P S K C Fx Kd N W cl ol t d h) (hQ : ∀ (h' : bk_H) (b : Int32), (b = 1 ∧ Kd (t + 1) = 30 ∧ PR h0 y u v T P S K C Fx Kd N W (cl ++ [oW (Kd t)] ++ [nI (t + 1)]) (ol ++ [cl.length + 1]) (t + 2) d h') ∨ (b = 0 ∧ ¬ Kd (t + 1) = 30 ∧ PE h0 y u v T P S K C Fx (t + 1) h') → Q (.inl (some (.int b))) h' n) : bk_wp V (D + 4) 178 [.ref y, .int a] h n B Q := by
  obtain ⟨J, F, K2, C2, hM, j0, j3, j4, ⟨f0, f1, f2, f4⟩, hR, ⟨c5, c13, c6, c14⟩, hO⟩ := id hX
  have hkk : F 0 t = wK (Kd t) := by
    rw [f0]
    exact hF.1 t ht
  obtain ⟨jj, hj, ej⟩ := hF.2.1 t ht
  have hN4 := hF.2.2.1
  have hoW : wK (Kd t) = oW (Kd t) := by
    rw [ej] at hk ⊢
    exact oW_all jj hj (Or.inr (Or.inr (Or.inr (Or.inl hk))))
  have hqu : quK (Kd t) := by
    rw [ej] at hk ⊢
    exact qu_all jj hj (Or.inr (Or.inr (Or.inr (Or.inl hk))))
  refine bg_in rfl rfl ?_
  refine bg_aload0 rfl ?_
  refine bg_aload0 rfl ?_
  refine bg_getfield rfl rfl hM.Y (by rfl) ?_
  refine bg_aload0 rfl ?_
  refine bg_getfield rfl rfl hM.Y (by rfl) ?_
  rw [j3]
  refine bg_iaload_n rfl hM.f0 (by decide) (by omega) ?_
  refine bg_virt1 rfl rfl rfl rfl ⟨_, hM.Y⟩ ?_
  rw [hkk, hoW]
  refine rp_put (by omega) hX (fun h1 hX => bk_Kv ?_)
  obtain ⟨J, F, K2, C2, hM, j0, j3, j4, ⟨f0, f1, f2, f4⟩, hR, ⟨c5, c13, c6, c14⟩, hO⟩ := id hX
  refine bg_aload0 rfl ?_
  refine bg_dup rfl rfl ?_
  refine bg_getfield rfl rfl hM.Y (by rfl) ?_
  refine bg_iconst rfl ?_
  refine bg_iadd rfl ?_
  refine bg_putfield rfl rfl hM.Y (by rfl) ⟨rfl, rfl⟩ (by rfl) (fun h20 f20 g20 => ?_)
  rw [j3, nI_1] at f20
  have hM := hM.j (J' := upd J 3 (nI (t + 1))) f20 g20 rfl
  refine bg_aload0 rfl ?_
  refine bg_getfield rfl rfl hM.Y (by rfl) ?_
  refine bg_getfield rfl rfl hM.R.1 (by rfl) ?_
  refine bg_aload0 rfl ?_
  refine bg_getfield rfl rfl hM.Y (by rfl) ?_
  refine bg_getfield rfl rfl hM.R.1 (by rfl) ?_
  refine bg_aload0 rfl ?_
  refine bg_getfield rfl rfl hM.Y (by rfl) ?_
  refine bg_getfield rfl rfl hM.R.1 (by rfl) ?_
  rw [c6]
  refine bg_iastore_n (i := ol.length) rfl (pR15 hM.R) (by decide) (by omega) (fun h44 f44 g44 => ?_)
  have hM := hM.cc14 f44 g44
  refine bg_aload0 rfl ?_
  refine bg_getfield rfl rfl hM.Y (by rfl) ?_
  refine bg_dup rfl rfl ?_
  refine bg_getfield rfl rfl hM.R.1 (by rfl) ?_
  refine bg_iconst rfl ?_
  refine bg_iadd rfl ?_
  refine bg_putfield rfl rfl hM.R.1 (by rfl) ⟨rfl, rfl⟩ (by rfl) (fun h55 f55 g55 => ?_)
  rw [c6, nI_1] at f55
  have hM := hM.kk6 f55 g55
  have hX : PR h0 y u v T P S K C Fx Kd N W (cl ++ [oW (Kd t)]) (ol ++ [cl.length + 1]) (t + 1) d h55 := by
    refine ⟨_, F, _, _, hM, j0, rfl, j4, ⟨f0, f1, f2, f4⟩, RoL_0 hR ht (rof_0 hqu), ⟨c5, c13, ?_, fun i hi => ?_⟩, ⟨fun k hk => (if_neg (by omega)).trans (hO.1 k hk), hO.2.1, hO.2.2⟩⟩
    · show nI (ol.length + 1) = _
      rw [List.length_append]
      rfl
    · show (if i = ol.length then K2 5 else C2 14 i) = _
      rw [List.length_append] at hi
      by_cases z : i = ol.length
      · rw [if_pos z, z, List.getD_eq_getElem?_getD, List.getElem?_append_right (Nat.le_refl _), Nat.sub_self, c5, List.length_append]
        rfl
      · have h3 : i < ol.length := by
          have : i < ol.length + 1 := hi
          omega
        rw [if_neg z, c14 i h3, List.getD_eq_getElem?_getD, List.getD_eq_getElem?_getD, List.getElem?_append_left h3]
  obtain ⟨J, F, K2, C2, hM, j0, j3, j4, ⟨f0, f1, f2, f4⟩, hR, ⟨c5, c13, c6, c14⟩, hO⟩ := id hX
  refine bg_aload0 rfl ?_
  refine bg_aload0 rfl ?_
  refine bg_getfield rfl rfl hM.Y (by rfl) ?_
  refine bg_virt1 rfl rfl rfl rfl ⟨_, hM.Y⟩ ?_
  rw [j3]
  refine rp_put (by rw [List.length_append]; show cl.length + 1 < 800; omega) hX (fun h1 hX => bk_Kv ?_)
  obtain ⟨J, F, K2, C2, hM, j0, j3, j4, ⟨f0, f1, f2, f4⟩, hR, ⟨c5, c13, c6, c14⟩, hO⟩ := id hX
  refine bg_aload0 rfl ?_
  refine bg_bipush rfl ?_
  refine bg_iload1 rfl ?_
  refine bg_virt2 rfl rfl rfl rfl ⟨_, hM.Y⟩ ?_
  refine rq_eatAs (wKe (k := 30) 30 (by decide) (by decide) (by decide)) hr hF ht1 hX (fun h1 b hb => bk_Ki ?_)
  refine bg_iret rfl rfl (by rcases hb with ⟨e, _⟩ | ⟨e, _⟩ <;> rw [e] <;> rfl) ?_
  exact hQ h1 b hb
theorem rp_value {n : Nat} (hF : FXk Fx Kd N) (hV : NVk Fx Kd N T nv) (ih0 : rpS V h0 y u v T P S K C Fx Kd N nv W (pp Kd n 0) 1 182 n) (ih3 : rpS V h0 y u v T P S K C Fx Kd N nv W (pp Kd n 3) 3 180 n) : rpS V h0 y u v T P S K C Fx Kd N nv W (pp Kd (n + 1) 0) 1 182 (n + 1) := by
  intro D d t it h nn B Q hd ht hl hpv hw hD hX hQ
  obtain ⟨D, rfl⟩ : ∃ D', D = D' + 6 := ⟨D - 6, by omega⟩
  have hNN := hF.2.2.1
  have hE := hF.2.2.2
  obtain ⟨J, F, K2, C2, hM, j0, j3, j4, ⟨f0, f1, f2, f4⟩, hR, ⟨c5, c13, c6, c14⟩, hO⟩ := id hX
  have hkk : F 0 t = wK (Kd t) := by
    rw [f0]
    exact hF.1 t ht
  obtain ⟨jj, hj, ej⟩ := hF.2.1 t ht
  have hal := al_all jj hj
  have hof := of_all jj hj
  have how := oW_all jj hj
  have hqu := qu_all jj hj
  rw [← ej] at hal hof how hqu
  refine bg_in rfl rfl ?_
  refine bg_aload0 rfl ?_
  refine bg_bipush rfl ?_
  refine bg_virt1 rfl rfl rfl rfl ⟨_, hM.Y⟩ ?_
  refine rp_is (wKe (k := 31) 31 (by decide) (by decide) (by decide)) hF ht hX (bk_Ki ?_)
  refine bg_ifeq_b rfl (fun e6 => ?_) (fun e6 => ?_)
  · have k1 := e6
    refine bg_aload0 rfl ?_
    refine bg_getfield rfl rfl hM.Y (by rfl) ?_
    refine bg_aload0 rfl ?_
    refine bg_getfield rfl rfl hM.Y (by rfl) ?_
    rw [j3]
    refine bg_iaload_n rfl hM.f0 (by decide) (by omega) ?_
    refine bg_stat1 rfl rfl rfl rfl ?_
    rw [hkk]
    refine rb_isAlone (bk_Ki ?_)
    refine bg_ifeq_b rfl (fun e51 => ?_) (fun e51 => ?_)
    · have k2 : ¬ (Kd t = 18 ∨ Kd t = 23 ∨ Kd t = 24) := fun z => e51 (hal.mpr z)
      refine bg_aload0 rfl ?_
      refine bg_getfield rfl rfl hM.Y (by rfl) ?_
      refine bg_aload0 rfl ?_
      refine bg_getfield rfl rfl hM.Y (by rfl) ?_
      rw [j3]
      refine bg_iaload_n rfl hM.f0 (by decide) (by omega) ?_
      refine bg_stat1 rfl rfl rfl rfl ?_
      rw [hkk]
      refine rb_isOf (bk_Ki ?_)
      refine bg_ifeq_b rfl (fun e91 => ?_) (fun e91 => ?_)
      · have k3 : ¬ isNm (Kd t) := fun z => e91 (hof.mpr z)
        refine bg_aload0 rfl ?_
        refine bg_bipush rfl ?_
        refine bg_virt1 rfl rfl rfl rfl ⟨_, hM.Y⟩ ?_
        refine rp_isSign (wKe (k := 39) 39 (by decide) (by decide) (by decide)) hF ht hX (bk_Ki ?_)
        refine bg_ifeq_b rfl (fun e121 => ?_) (fun e121 => ?_)
        · have k4 := e121
          by_cases k5 : Kd t = 32
          · have hk31 : ¬ (Kd t = 31 ∨ Kd t = 18 ∨ Kd t = 23 ∨ Kd t = 24) := fun z => z.elim k1 k2
            have hu : pp Kd (n + 1) 0 d t = (if d < 8 then sq (pp Kd n 3 (d + 1) (t + 1)) (tk1 Kd 33) else no t) := (if_neg hk31).trans ((if_neg k3).trans ((if_neg k4).trans (if_pos k5)))
            have ht1 : t + 1 < N := KEk hE ht k5 (by decide) (by decide)
            have k6 : ¬ (Kd t = 28 ∨ Kd t = 29) := by rw [k5]; decide
            refine bg_aload0 rfl ?_
            refine bg_getfield rfl rfl hM.Y (by rfl) ?_
            refine bg_aload0 rfl ?_
            refine bg_getfield rfl rfl hM.Y (by rfl) ?_
            rw [j3]
            refine bg_iaload_n rfl hM.f0 (by decide) (by omega) ?_
            rw [hkk]
            refine bg_istore1 rfl rfl ?_
            refine bg_aload0 rfl ?_
            refine bg_bipush rfl ?_
            refine bg_virt1 rfl rfl rfl rfl ⟨_, hM.Y⟩ ?_
            refine rq_eat (wKe (k := 28) 28 (by decide) (by decide) (by decide)) (fun z => rof_0 (hqu (by simp [z]))) hF ht hX (fun h1 b1 hb1 => bk_Ki ?_)
            refine bg_if_ne rfl (fun e174 => (k6 (Or.inl (hb1.resolve_right (fun z => e174 z.1)).2.1)).elim) (fun e174 => ?_)
            obtain ⟨-, _, hX⟩ := hb1.resolve_left (fun z => absurd (z.1.symm.trans e174) (by decide))
            obtain ⟨J, F, K2, C2, hM, j0, j3, j4, ⟨f0, f1, f2, f4⟩, hR, ⟨c5, c13, c6, c14⟩, hO⟩ := id hX
            refine bg_aload0 rfl ?_
            refine bg_bipush rfl ?_
            refine bg_virt1 rfl rfl rfl rfl ⟨_, hM.Y⟩ ?_
            refine rq_eat (wKe (k := 29) 29 (by decide) (by decide) (by decide)) (fun z => rof_0 (hqu (by simp [z]))) hF ht hX (fun h1 b1 hb1 => bk_Ki ?_)
            refine bg_if_eq rfl (fun e183 => ?_) (fun e183 => (k6 (Or.inr (hb1.resolve_right (fun z => e183 z.1)).2.1)).elim)
            obtain ⟨-, _, hX⟩ := hb1.resolve_left (fun z => absurd (z.1.symm.trans e183) (by decide))
            obtain ⟨J, F, K2, C2, hM, j0, j3, j4, ⟨f0, f1, f2, f4⟩, hR, ⟨c5, c13, c6, c14⟩, hO⟩ := id hX
            refine bg_iconst rfl ?_
            refine bg_istore2 rfl rfl ?_
            refine bg_aload0 rfl ?_
            refine bg_bipush rfl ?_
            refine bg_virt1 rfl rfl rfl rfl ⟨_, hM.Y⟩ ?_
            refine rp_isSign (wKe (k := 32) 32 (by decide) (by decide) (by decide)) hF ht hX (bk_Ki ?_)
            refine bg_ifeq_b rfl (fun e198 => (e198 k5).elim) (fun e198 => ?_)
            refine bg_aload0 rfl ?_
            refine bg_virt0 rfl rfl rfl rfl ⟨_, hM.Y⟩ ?_
            refine rq_deeper hd (rof_0 (hqu (by rw [k5]; decide))) hF ht hX (fun h2 b2 hb2 => bk_Ki ?_)
            refine bg_if_eq rfl (fun e205 => ?_) (fun e205 => ?_)
            · obtain ⟨-, hd8, hX⟩ := hb2.resolve_left (fun z => absurd (z.1.symm.trans e205) (by decide))
              rw [if_neg hd8] at hu
              refine bg_iconst rfl ?_
              refine bg_iret rfl rfl (by rfl) ?_
              first
                | (refine hQ h3 0 (Or.inr ⟨rfl, ?_⟩)
                   rw [hu]
                   exact ⟨r1, hX⟩)
                | (have hX2 := hX.e
                   refine hQ _ 0 (Or.inr ⟨rfl, ?_⟩)
                   rw [hu]
                   exact ⟨Bool.false_ne_true, hX2⟩)
            · obtain ⟨-, hd8, hX⟩ := hb2.resolve_right (fun z => e205 z.1)
              rw [if_pos hd8] at hu
              obtain ⟨J, F, K2, C2, hM, j0, j3, j4, ⟨f0, f1, f2, f4⟩, hR, ⟨c5, c13, c6, c14⟩, hO⟩ := id hX
              refine bg_aload0 rfl ?_
              refine bg_virt0 rfl rfl rfl rfl ⟨_, hM.Y⟩ ?_
              refine ih3 _ (d + 1) (t + 1) it _ _ _ _ (by omega) (by omega) (by omega) ⟨t, rfl, by rw [k5]; decide⟩ (by omega) (by omega) hX (fun h3 b3 hb3 => bk_Ki ?_)
              refine bg_if_eq rfl (fun e212 => ?_) (fun e212 => ?_)
              · obtain ⟨-, r1, hX⟩ := hb3.resolve_left (fun z => absurd (z.1.symm.trans e212) (by decide))
                rw [sq_f r1] at hu
                refine bg_iconst rfl ?_
                refine bg_iret rfl rfl (by rfl) ?_
                first
                  | (refine hQ h3 0 (Or.inr ⟨rfl, ?_⟩)
                     rw [hu]
                     exact ⟨r1, hX⟩)
                  | (have hX2 := hX.e
                     refine hQ _ 0 (Or.inr ⟨rfl, ?_⟩)
                     rw [hu]
                     exact ⟨Bool.false_ne_true, hX2⟩)
              · obtain ⟨-, r1, hX⟩ := hb3.resolve_right (fun z => e212 z.1)
                rw [sq_t r1] at hu
                have kk1 := pp_k hE n 3 (d + 1) (t + 1) ht1
                have kk5 := kk1.1
                obtain ⟨J, F, K2, C2, hM, j0, j3, j4, ⟨f0, f1, f2, f4⟩, hR, ⟨c5, c13, c6, c14⟩, hO⟩ := id hX
                refine bg_iload2 rfl ?_
                refine bg_if_eq rfl (fun e216 => ?_) (fun e216 => absurd rfl e216)
                refine bg_aload0 rfl ?_
                refine bg_dup rfl rfl ?_
                refine bg_getfield rfl rfl hM.Y (by rfl) ?_
                refine bg_iconst rfl ?_
                refine bg_isub rfl ?_
                refine bg_putfield rfl rfl hM.Y (by rfl) ⟨rfl, rfl⟩ (by rfl) (fun h244 f244 g244 => ?_)
                rw [j4, nI_dn] at f244
                have hM := hM.j (J' := upd J 4 (nI d)) f244 g244 rfl
                have hX : PR h0 y u v T P S K C Fx Kd N W (rcL nv (it ++ (pp Kd n 3 (d + 1) (t + 1)).2.2)) (opL (it ++ (pp Kd n 3 (d + 1) (t + 1)).2.2) 0) (pp Kd n 3 (d + 1) (t + 1)).2.1 d h244 := ⟨_, F, K2, C2, hM, j0, j3, rfl, ⟨f0, f1, f2, f4⟩, hR, ⟨c5, c13, c6, c14⟩, hO⟩
                refine bg_iload2 rfl ?_
                refine bg_if_eq rfl (fun e248 => ?_) (fun e248 => absurd rfl e248)
                refine bg_aload0 rfl ?_
                refine bg_bipush rfl ?_
                refine bg_virt1 rfl rfl rfl rfl ⟨_, hM.Y⟩ ?_
                refine rq_eatSign (wKe (k := 33) 33 (by decide) (by decide) (by decide)) (fun z => rof_0 (by rw [z]; decide)) hF kk5 hX (fun h4 b4 hb4 => bk_Ki ?_)
                refine bg_iret rfl rfl (by rcases hb4 with ⟨e, _⟩ | ⟨e, _⟩ <;> rw [e] <;> rfl) ?_
                refine hQ h4 b4 ?_
                rw [hu]
                unfold tk1
                rcases hb4 with ⟨e, z, hx⟩ | ⟨e, z, hx⟩
                · rw [if_pos z]
                  refine Or.inl ⟨e, rfl, ?_⟩
                  show PR h0 y u v T P S K C Fx Kd N W (rcL nv (it ++ ((pp Kd n 3 (d + 1) (t + 1)).2.2 ++ []))) (opL (it ++ ((pp Kd n 3 (d + 1) (t + 1)).2.2 ++ [])) 0) ((pp Kd n 3 (d + 1) (t + 1)).2.1 + 1) d h4
                  rw [List.append_nil]
                  exact hx
                · rw [if_neg z]
                  exact Or.inr ⟨e, Bool.false_ne_true, hx.e⟩
          · by_cases k6 : Kd t = 28 ∨ Kd t = 29
            · have hk31 : ¬ (Kd t = 31 ∨ Kd t = 18 ∨ Kd t = 23 ∨ Kd t = 24) := fun z => z.elim k1 k2
              have k5 : ¬ Kd t = 32 := by rcases k6 with q | q <;> rw [q] <;> decide
              have hu : pp Kd (n + 1) 0 d t = (if d < 8 ∧ Kd (t + 1) = 32 then sq (pp Kd n 3 (d + 1) (t + 2)) (fun t1 => sq (tk1 Kd 37 t1) (fun t2 => sq (pp Kd n 3 (d + 1) t2) (fun t3 => sq (tk1 Kd 33 t3) (em (Kd t) none)))) else no (t + 1)) := (if_neg hk31).trans ((if_neg k3).trans ((if_neg k4).trans ((if_neg k5).trans (if_pos k6))))
              have ht1 : t + 1 < N := KE hE ht (by rintro q; rw [q] at k6; revert k6; decide) (by rintro q; rw [q] at k6; revert k6; decide)
              have how2 : wK (Kd t) = oW (Kd t) := how (by rcases k6 with q | q <;> simp [q])
              rcases k6 with k7 | k7
              · refine bg_aload0 rfl ?_
                refine bg_getfield rfl rfl hM.Y (by rfl) ?_
                refine bg_aload0 rfl ?_
                refine bg_getfield rfl rfl hM.Y (by rfl) ?_
                rw [j3]
                refine bg_iaload_n rfl hM.f0 (by decide) (by omega) ?_
                rw [hkk]
                refine bg_istore1 rfl rfl ?_
                refine bg_aload0 rfl ?_
                refine bg_bipush rfl ?_
                refine bg_virt1 rfl rfl rfl rfl ⟨_, hM.Y⟩ ?_
                refine rq_eat (wKe (k := 28) 28 (by decide) (by decide) (by decide)) (fun z => rof_0 (hqu (by simp [z]))) hF ht hX (fun h1 b1 hb1 => bk_Ki ?_)
                refine bg_if_ne rfl (fun e174 => ?_) (fun e174 => (by have := (hb1.resolve_left (fun z => absurd (z.1.symm.trans e174) (by decide))).2.1; exact (this k7).elim))
                obtain ⟨-, _, hX⟩ := hb1.resolve_right (fun z => e174 z.1)
                obtain ⟨J, F, K2, C2, hM, j0, j3, j4, ⟨f0, f1, f2, f4⟩, hR, ⟨c5, c13, c6, c14⟩, hO⟩ := id hX
                refine bg_iconst rfl ?_
                refine bg_goto rfl ?_
                refine bg_istore2 rfl rfl ?_
                refine bg_aload0 rfl ?_
                refine bg_bipush rfl ?_
                refine bg_virt1 rfl rfl rfl rfl ⟨_, hM.Y⟩ ?_
                refine rp_isSign (wKe (k := 32) 32 (by decide) (by decide) (by decide)) hF ht1 hX (bk_Ki ?_)
                refine bg_ifeq_b rfl (fun e198 => ?_) (fun e198 => ?_)
                · rw [if_neg (fun z => e198 z.2)] at hu
                  refine bg_iconst rfl ?_
                  refine bg_iret rfl rfl (by rfl) ?_
                  first
                    | (refine hQ h5 0 (Or.inr ⟨rfl, ?_⟩)
                       rw [hu]
                       exact ⟨r3, hX⟩)
                    | (have hX2 := hX.e
                       refine hQ h4 0 (Or.inr ⟨rfl, ?_⟩)
                       rw [hu]
                       exact ⟨Bool.false_ne_true, hX2⟩)
                    | (refine hQ h3 0 (Or.inr ⟨rfl, ?_⟩)
                       rw [hu]
                       exact ⟨r1, hX⟩)
                    | (have hX2 := hX.e
                       refine hQ _ 0 (Or.inr ⟨rfl, ?_⟩)
                       rw [hu]
                       exact ⟨Bool.false_ne_true, hX2⟩)
                · have kp := e198
                  have ht2 : t + 2 < N := KEk hE ht1 kp (by decide) (by decide)
                  refine bg_aload0 rfl ?_
                  refine bg_virt0 rfl rfl rfl rfl ⟨_, hM.Y⟩ ?_
                  refine rq_deeper hd (rof_0 (by rw [kp]; decide)) hF ht1 hX (fun h2 b2 hb2 => bk_Ki ?_)
                  refine bg_if_eq rfl (fun e205 => ?_) (fun e205 => ?_)
                  · obtain ⟨-, hd8, hX⟩ := hb2.resolve_left (fun z => absurd (z.1.symm.trans e205) (by decide))
                    rw [if_neg (fun z => hd8 z.1)] at hu
                    refine bg_iconst rfl ?_
                    refine bg_iret rfl rfl (by rfl) ?_
                    first
                      | (refine hQ h5 0 (Or.inr ⟨rfl, ?_⟩)
                         rw [hu]
                         exact ⟨r3, hX⟩)
                      | (have hX2 := hX.e
                         refine hQ h4 0 (Or.inr ⟨rfl, ?_⟩)
                         rw [hu]
                         exact ⟨Bool.false_ne_true, hX2⟩)
                      | (refine hQ h3 0 (Or.inr ⟨rfl, ?_⟩)
                         rw [hu]
                         exact ⟨r1, hX⟩)
                      | (have hX2 := hX.e
                         refine hQ _ 0 (Or.inr ⟨rfl, ?_⟩)
                         rw [hu]
                         exact ⟨Bool.false_ne_true, hX2⟩)
                  · obtain ⟨-, hd8, hX⟩ := hb2.resolve_right (fun z => e205 z.1)
                    rw [if_pos ⟨hd8, kp⟩] at hu
                    obtain ⟨J, F, K2, C2, hM, j0, j3, j4, ⟨f0, f1, f2, f4⟩, hR, ⟨c5, c13, c6, c14⟩, hO⟩ := id hX
                    refine bg_aload0 rfl ?_
                    refine bg_virt0 rfl rfl rfl rfl ⟨_, hM.Y⟩ ?_
                    refine ih3 _ (d + 1) (t + 2) it _ _ _ _ (by omega) (by omega) (by omega) ⟨t + 1, rfl, by rw [kp]; decide⟩ (by omega) (by omega) hX (fun h3 b3 hb3 => bk_Ki ?_)
                    refine bg_if_eq rfl (fun e212 => ?_) (fun e212 => ?_)
                    · obtain ⟨-, r1, hX⟩ := hb3.resolve_left (fun z => absurd (z.1.symm.trans e212) (by decide))
                      rw [sq_f r1] at hu
                      refine bg_iconst rfl ?_
                      refine bg_iret rfl rfl (by rfl) ?_
                      first
                        | (refine hQ h5 0 (Or.inr ⟨rfl, ?_⟩)
                           rw [hu]
                           exact ⟨r3, hX⟩)
                        | (have hX2 := hX.e
                           refine hQ h4 0 (Or.inr ⟨rfl, ?_⟩)
                           rw [hu]
                           exact ⟨Bool.false_ne_true, hX2⟩)
                        | (refine hQ h3 0 (Or.inr ⟨rfl, ?_⟩)
                           rw [hu]
                           exact ⟨r1, hX⟩)
                        | (have hX2 := hX.e
                           refine hQ _ 0 (Or.inr ⟨rfl, ?_⟩)
                           rw [hu]
                           exact ⟨Bool.false_ne_true, hX2⟩)
                    · obtain ⟨-, r1, hX⟩ := hb3.resolve_right (fun z => e212 z.1)
                      rw [sq_t r1] at hu
                      have kk1 := pp_k hE n 3 (d + 1) (t + 2) ht2
                      have kk4 := kk1.2.2.2
                      have kk5 := kk1.1
                      have kk3 : t + 2 + 1 ≤ (pp Kd n 3 (d + 1) (t + 2)).2.1 := kk1.2.2.1 r1
                      obtain ⟨J, F, K2, C2, hM, j0, j3, j4, ⟨f0, f1, f2, f4⟩, hR, ⟨c5, c13, c6, c14⟩, hO⟩ := id hX
                      refine bg_iload2 rfl ?_
                      refine bg_if_eq rfl (fun e216 => absurd e216 (by decide)) (fun e216 => ?_)
                      refine bg_aload0 rfl ?_
                      refine bg_bipush rfl ?_
                      refine bg_virt1 rfl rfl rfl rfl ⟨_, hM.Y⟩ ?_
                      refine rq_eatSign (wKe (k := 37) 37 (by decide) (by decide) (by decide)) (fun z => rof_0 (by rw [z]; decide)) hF kk5 hX (fun h4 b4 hb4 => bk_Ki ?_)
                      refine bg_if_eq rfl (fun e225 => ?_) (fun e225 => ?_)
                      · obtain ⟨-, r2, hX⟩ := hb4.resolve_left (fun z => absurd (z.1.symm.trans e225) (by decide))
                        have hu2 : sq (tk1 Kd 37 (pp Kd n 3 (d + 1) (t + 2)).2.1) (fun t2 => sq (pp Kd n 3 (d + 1) t2) fun t3 => sq (tk1 Kd 33 t3) (em (Kd t) none)) = no (pp Kd n 3 (d + 1) (t + 2)).2.1 := by
                          unfold tk1
                          rw [if_neg r2]
                          exact sq_f Bool.false_ne_true
                        rw [hu2] at hu
                        refine bg_iconst rfl ?_
                        refine bg_iret rfl rfl (by rfl) ?_
                        first
                          | (refine hQ h5 0 (Or.inr ⟨rfl, ?_⟩)
                             rw [hu]
                             exact ⟨r3, hX⟩)
                          | (have hX2 := hX.e
                             refine hQ h4 0 (Or.inr ⟨rfl, ?_⟩)
                             rw [hu]
                             exact ⟨Bool.false_ne_true, hX2⟩)
                          | (refine hQ h3 0 (Or.inr ⟨rfl, ?_⟩)
                             rw [hu]
                             exact ⟨r1, hX⟩)
                          | (have hX2 := hX.e
                             refine hQ _ 0 (Or.inr ⟨rfl, ?_⟩)
                             rw [hu]
                             exact ⟨Bool.false_ne_true, hX2⟩)
                      · obtain ⟨-, r2, hX⟩ := hb4.resolve_right (fun z => e225 z.1)
                        have ht3 : (pp Kd n 3 (d + 1) (t + 2)).2.1 + 1 < N := KEk hE kk5 r2 (by decide) (by decide)
                        have htk : tk1 Kd 37 (pp Kd n 3 (d + 1) (t + 2)).2.1 = (true, (pp Kd n 3 (d + 1) (t + 2)).2.1 + 1, []) := if_pos r2
                        have hu2 : sq (tk1 Kd 37 (pp Kd n 3 (d + 1) (t + 2)).2.1) (fun t2 => sq (pp Kd n 3 (d + 1) t2) fun t3 => sq (tk1 Kd 33 t3) (em (Kd t) none)) = sq (pp Kd n 3 (d + 1) ((pp Kd n 3 (d + 1) (t + 2)).2.1 + 1)) fun t3 => sq (tk1 Kd 33 t3) (em (Kd t) none) := by
                          rw [htk]
                          rfl
                        rw [hu2] at hu
                        obtain ⟨J, F, K2, C2, hM, j0, j3, j4, ⟨f0, f1, f2, f4⟩, hR, ⟨c5, c13, c6, c14⟩, hO⟩ := id hX
                        refine bg_aload0 rfl ?_
                        refine bg_virt0 rfl rfl rfl rfl ⟨_, hM.Y⟩ ?_
                        refine ih3 _ (d + 1) ((pp Kd n 3 (d + 1) (t + 2)).2.1 + 1) (it ++ (pp Kd n 3 (d + 1) (t + 2)).2.2) _ _ _ _ (by omega) ht3 (by rw [List.length_append]; omega) ⟨_, rfl, by rw [r2]; decide⟩ (by omega) (by omega) hX (fun h5 b5 hb5 => bk_Ki ?_)
                        refine bg_if_ne rfl (fun e232 => ?_) (fun e232 => ?_)
                        · obtain ⟨-, r3, hX⟩ := hb5.resolve_right (fun z => e232 z.1)
                          rw [sq_t r3] at hu
                          have kk6 := pp_k hE n 3 (d + 1) ((pp Kd n 3 (d + 1) (t + 2)).2.1 + 1) ht3
                          have kk7 := kk6.2.2.2
                          have kk8 := kk6.1
                          obtain ⟨J, F, K2, C2, hM, j0, j3, j4, ⟨f0, f1, f2, f4⟩, hR, ⟨c5, c13, c6, c14⟩, hO⟩ := id hX
                          refine bg_aload0 rfl ?_
                          refine bg_dup rfl rfl ?_
                          refine bg_getfield rfl rfl hM.Y (by rfl) ?_
                          refine bg_iconst rfl ?_
                          refine bg_isub rfl ?_
                          refine bg_putfield rfl rfl hM.Y (by rfl) ⟨rfl, rfl⟩ (by rfl) (fun h244 f244 g244 => ?_)
                          rw [j4, nI_dn] at f244
                          have hM := hM.j (J' := upd J 4 (nI d)) f244 g244 rfl
                          have hX : PR h0 y u v T P S K C Fx Kd N W (rcL nv (it ++ (pp Kd n 3 (d + 1) (t + 2)).2.2 ++ (pp Kd n 3 (d + 1) ((pp Kd n 3 (d + 1) (t + 2)).2.1 + 1)).2.2)) (opL (it ++ (pp Kd n 3 (d + 1) (t + 2)).2.2 ++ (pp Kd n 3 (d + 1) ((pp Kd n 3 (d + 1) (t + 2)).2.1 + 1)).2.2) 0) (pp Kd n 3 (d + 1) ((pp Kd n 3 (d + 1) (t + 2)).2.1 + 1)).2.1 d h244 := ⟨_, F, K2, C2, hM, j0, j3, rfl, ⟨f0, f1, f2, f4⟩, hR, ⟨c5, c13, c6, c14⟩, hO⟩
                          refine bg_iload2 rfl ?_
                          refine bg_if_eq rfl (fun e248 => absurd e248 (by decide)) (fun e248 => ?_)
                          refine bg_aload0 rfl ?_
                          refine bg_iload1 rfl ?_
                          refine bg_virt1 rfl rfl rfl rfl ⟨_, hM.Y⟩ ?_
                          rw [how2]
                          refine rp_put (by rw [rcL_len]; have := lnL_le (it ++ (pp Kd n 3 (d + 1) (t + 2)).2.2 ++ (pp Kd n 3 (d + 1) ((pp Kd n 3 (d + 1) (t + 2)).2.1 + 1)).2.2); rw [List.length_append, List.length_append] at this; omega) hX (fun h6 hX => bk_Kv ?_)
                          obtain ⟨J, F, K2, C2, hM, j0, j3, j4, ⟨f0, f1, f2, f4⟩, hR, ⟨c5, c13, c6, c14⟩, hO⟩ := id hX
                          refine bg_aload0 rfl ?_
                          refine bg_bipush rfl ?_
                          refine bg_virt1 rfl rfl rfl rfl ⟨_, hM.Y⟩ ?_
                          refine rq_eatSign (wKe (k := 33) 33 (by decide) (by decide) (by decide)) (fun z => rof_0 (by rw [z]; decide)) hF kk8 hX (fun h7 b7 hb7 => bk_Ki ?_)
                          refine bg_iret rfl rfl (by rcases hb7 with ⟨e, _⟩ | ⟨e, _⟩ <;> rw [e] <;> rfl) ?_
                          refine hQ h7 b7 ?_
                          rw [hu]
                          rcases hb7 with ⟨e, z, hx⟩ | ⟨e, z, hx⟩
                          · have htk : tk1 Kd 33 (pp Kd n 3 (d + 1) ((pp Kd n 3 (d + 1) (t + 2)).2.1 + 1)).2.1 = (true, (pp Kd n 3 (d + 1) ((pp Kd n 3 (d + 1) (t + 2)).2.1 + 1)).2.1 + 1, []) := if_pos z
                            rw [htk]
                            refine Or.inl ⟨e, rfl, ?_⟩
                            show PR h0 y u v T P S K C Fx Kd N W (rcL nv (it ++ ((pp Kd n 3 (d + 1) (t + 2)).2.2 ++ ((pp Kd n 3 (d + 1) ((pp Kd n 3 (d + 1) (t + 2)).2.1 + 1)).2.2 ++ [(Kd t, none)])))) (opL (it ++ ((pp Kd n 3 (d + 1) (t + 2)).2.2 ++ ((pp Kd n 3 (d + 1) ((pp Kd n 3 (d + 1) (t + 2)).2.1 + 1)).2.2 ++ [(Kd t, none)]))) 0) ((pp Kd n 3 (d + 1) ((pp Kd n 3 (d + 1) (t + 2)).2.1 + 1)).2.1 + 1) d h7
                            rw [← List.append_assoc, ← List.append_assoc, (rc_op (nv := nv)).1, (rc_op (nv := nv)).2]
                            exact hx
                          · have htk : tk1 Kd 33 (pp Kd n 3 (d + 1) ((pp Kd n 3 (d + 1) (t + 2)).2.1 + 1)).2.1 = no (pp Kd n 3 (d + 1) ((pp Kd n 3 (d + 1) (t + 2)).2.1 + 1)).2.1 := if_neg z
                            rw [htk]
                            exact Or.inr ⟨e, Bool.false_ne_true, hx.e⟩
                        · obtain ⟨-, r3, hX⟩ := hb5.resolve_left (fun z => absurd (z.1.symm.trans e232) (by decide))
                          rw [sq_f r3] at hu
                          refine bg_iconst rfl ?_
                          refine bg_iret rfl rfl (by rfl) ?_
                          first
                            | (refine hQ h5 0 (Or.inr ⟨rfl, ?_⟩)
                               rw [hu]
                               exact ⟨r3, hX⟩)
                            | (have hX2 := hX.e
                               refine hQ h4 0 (Or.inr ⟨rfl, ?_⟩)
                               rw [hu]
                               exact ⟨Bool.false_ne_true, hX2⟩)
                            | (refine hQ h3 0 (Or.inr ⟨rfl, ?_⟩)
                               rw [hu]
                               exact ⟨r1, hX⟩)
                            | (have hX2 := hX.e
                               refine hQ _ 0 (Or.inr ⟨rfl, ?_⟩)
                               rw [hu]
                               exact ⟨Bool.false_ne_true, hX2⟩)
              · refine bg_aload0 rfl ?_
                refine bg_getfield rfl rfl hM.Y (by rfl) ?_
                refine bg_aload0 rfl ?_
                refine bg_getfield rfl rfl hM.Y (by rfl) ?_
                rw [j3]
                refine bg_iaload_n rfl hM.f0 (by decide) (by omega) ?_
                rw [hkk]
                refine bg_istore1 rfl rfl ?_
                refine bg_aload0 rfl ?_
                refine bg_bipush rfl ?_
                refine bg_virt1 rfl rfl rfl rfl ⟨_, hM.Y⟩ ?_
                refine rq_eat (wKe (k := 28) 28 (by decide) (by decide) (by decide)) (fun z => rof_0 (hqu (by simp [z]))) hF ht hX (fun h1 b1 hb1 => bk_Ki ?_)
                refine bg_if_ne rfl (fun e174 => (by have := (hb1.resolve_right (fun z => e174 z.1)).2.1; rw [k7] at this; exact absurd this (by decide))) (fun e174 => ?_)
                obtain ⟨-, _, hX⟩ := hb1.resolve_left (fun z => absurd (z.1.symm.trans e174) (by decide))
                obtain ⟨J, F, K2, C2, hM, j0, j3, j4, ⟨f0, f1, f2, f4⟩, hR, ⟨c5, c13, c6, c14⟩, hO⟩ := id hX
                refine bg_aload0 rfl ?_
                refine bg_bipush rfl ?_
                refine bg_virt1 rfl rfl rfl rfl ⟨_, hM.Y⟩ ?_
                refine rq_eat (wKe (k := 29) 29 (by decide) (by decide) (by decide)) (fun z => rof_0 (hqu (by simp [z]))) hF ht hX (fun h1 b1 hb1 => bk_Ki ?_)
                refine bg_if_eq rfl (fun e183 => (by have := (hb1.resolve_left (fun z => absurd (z.1.symm.trans e183) (by decide))).2.1; exact (this k7).elim)) (fun e183 => ?_)
                obtain ⟨-, _, hX⟩ := hb1.resolve_right (fun z => e183 z.1)
                obtain ⟨J, F, K2, C2, hM, j0, j3, j4, ⟨f0, f1, f2, f4⟩, hR, ⟨c5, c13, c6, c14⟩, hO⟩ := id hX
                refine bg_iconst rfl ?_
                refine bg_goto rfl ?_
                refine bg_istore2 rfl rfl ?_
                refine bg_aload0 rfl ?_
                refine bg_bipush rfl ?_
                refine bg_virt1 rfl rfl rfl rfl ⟨_, hM.Y⟩ ?_
                refine rp_isSign (wKe (k := 32) 32 (by decide) (by decide) (by decide)) hF ht1 hX (bk_Ki ?_)
                refine bg_ifeq_b rfl (fun e198 => ?_) (fun e198 => ?_)
                · rw [if_neg (fun z => e198 z.2)] at hu
                  refine bg_iconst rfl ?_
                  refine bg_iret rfl rfl (by rfl) ?_
                  first
                    | (refine hQ h5 0 (Or.inr ⟨rfl, ?_⟩)
                       rw [hu]
                       exact ⟨r3, hX⟩)
                    | (have hX2 := hX.e
                       refine hQ h4 0 (Or.inr ⟨rfl, ?_⟩)
                       rw [hu]
                       exact ⟨Bool.false_ne_true, hX2⟩)
                    | (refine hQ h3 0 (Or.inr ⟨rfl, ?_⟩)
                       rw [hu]
                       exact ⟨r1, hX⟩)
                    | (have hX2 := hX.e
                       refine hQ _ 0 (Or.inr ⟨rfl, ?_⟩)
                       rw [hu]
                       exact ⟨Bool.false_ne_true, hX2⟩)
                · have kp := e198
                  have ht2 : t + 2 < N := KEk hE ht1 kp (by decide) (by decide)
                  refine bg_aload0 rfl ?_
                  refine bg_virt0 rfl rfl rfl rfl ⟨_, hM.Y⟩ ?_
                  refine rq_deeper hd (rof_0 (by rw [kp]; decide)) hF ht1 hX (fun h2 b2 hb2 => bk_Ki ?_)
                  refine bg_if_eq rfl (fun e205 => ?_) (fun e205 => ?_)
                  · obtain ⟨-, hd8, hX⟩ := hb2.resolve_left (fun z => absurd (z.1.symm.trans e205) (by decide))
                    rw [if_neg (fun z => hd8 z.1)] at hu
                    refine bg_iconst rfl ?_
                    refine bg_iret rfl rfl (by rfl) ?_
                    first
                      | (refine hQ h5 0 (Or.inr ⟨rfl, ?_⟩)
                         rw [hu]
                         exact ⟨r3, hX⟩)
                      | (have hX2 := hX.e
                         refine hQ h4 0 (Or.inr ⟨rfl, ?_⟩)
                         rw [hu]
                         exact ⟨Bool.false_ne_true, hX2⟩)
                      | (refine hQ h3 0 (Or.inr ⟨rfl, ?_⟩)
                         rw [hu]
                         exact ⟨r1, hX⟩)
                      | (have hX2 := hX.e
                         refine hQ _ 0 (Or.inr ⟨rfl, ?_⟩)
                         rw [hu]
                         exact ⟨Bool.false_ne_true, hX2⟩)
                  · obtain ⟨-, hd8, hX⟩ := hb2.resolve_right (fun z => e205 z.1)
                    rw [if_pos ⟨hd8, kp⟩] at hu
                    obtain ⟨J, F, K2, C2, hM, j0, j3, j4, ⟨f0, f1, f2, f4⟩, hR, ⟨c5, c13, c6, c14⟩, hO⟩ := id hX
                    refine bg_aload0 rfl ?_
                    refine bg_virt0 rfl rfl rfl rfl ⟨_, hM.Y⟩ ?_
                    refine ih3 _ (d + 1) (t + 2) it _ _ _ _ (by omega) (by omega) (by omega) ⟨t + 1, rfl, by rw [kp]; decide⟩ (by omega) (by omega) hX (fun h3 b3 hb3 => bk_Ki ?_)
                    refine bg_if_eq rfl (fun e212 => ?_) (fun e212 => ?_)
                    · obtain ⟨-, r1, hX⟩ := hb3.resolve_left (fun z => absurd (z.1.symm.trans e212) (by decide))
                      rw [sq_f r1] at hu
                      refine bg_iconst rfl ?_
                      refine bg_iret rfl rfl (by rfl) ?_
                      first
                        | (refine hQ h5 0 (Or.inr ⟨rfl, ?_⟩)
                           rw [hu]
                           exact ⟨r3, hX⟩)
                        | (have hX2 := hX.e
                           refine hQ h4 0 (Or.inr ⟨rfl, ?_⟩)
                           rw [hu]
                           exact ⟨Bool.false_ne_true, hX2⟩)
                        | (refine hQ h3 0 (Or.inr ⟨rfl, ?_⟩)
                           rw [hu]
                           exact ⟨r1, hX⟩)
                        | (have hX2 := hX.e
                           refine hQ _ 0 (Or.inr ⟨rfl, ?_⟩)
                           rw [hu]
                           exact ⟨Bool.false_ne_true, hX2⟩)
                    · obtain ⟨-, r1, hX⟩ := hb3.resolve_right (fun z => e212 z.1)
                      rw [sq_t r1] at hu
                      have kk1 := pp_k hE n 3 (d + 1) (t + 2) ht2
                      have kk4 := kk1.2.2.2
                      have kk5 := kk1.1
                      have kk3 : t + 2 + 1 ≤ (pp Kd n 3 (d + 1) (t + 2)).2.1 := kk1.2.2.1 r1
                      obtain ⟨J, F, K2, C2, hM, j0, j3, j4, ⟨f0, f1, f2, f4⟩, hR, ⟨c5, c13, c6, c14⟩, hO⟩ := id hX
                      refine bg_iload2 rfl ?_
                      refine bg_if_eq rfl (fun e216 => absurd e216 (by decide)) (fun e216 => ?_)
                      refine bg_aload0 rfl ?_
                      refine bg_bipush rfl ?_
                      refine bg_virt1 rfl rfl rfl rfl ⟨_, hM.Y⟩ ?_
                      refine rq_eatSign (wKe (k := 37) 37 (by decide) (by decide) (by decide)) (fun z => rof_0 (by rw [z]; decide)) hF kk5 hX (fun h4 b4 hb4 => bk_Ki ?_)
                      refine bg_if_eq rfl (fun e225 => ?_) (fun e225 => ?_)
                      · obtain ⟨-, r2, hX⟩ := hb4.resolve_left (fun z => absurd (z.1.symm.trans e225) (by decide))
                        have hu2 : sq (tk1 Kd 37 (pp Kd n 3 (d + 1) (t + 2)).2.1) (fun t2 => sq (pp Kd n 3 (d + 1) t2) fun t3 => sq (tk1 Kd 33 t3) (em (Kd t) none)) = no (pp Kd n 3 (d + 1) (t + 2)).2.1 := by
                          unfold tk1
                          rw [if_neg r2]
                          exact sq_f Bool.false_ne_true
                        rw [hu2] at hu
                        refine bg_iconst rfl ?_
                        refine bg_iret rfl rfl (by rfl) ?_
                        first
                          | (refine hQ h5 0 (Or.inr ⟨rfl, ?_⟩)
                             rw [hu]
                             exact ⟨r3, hX⟩)
                          | (have hX2 := hX.e
                             refine hQ h4 0 (Or.inr ⟨rfl, ?_⟩)
                             rw [hu]
                             exact ⟨Bool.false_ne_true, hX2⟩)
                          | (refine hQ h3 0 (Or.inr ⟨rfl, ?_⟩)
                             rw [hu]
                             exact ⟨r1, hX⟩)
                          | (have hX2 := hX.e
                             refine hQ _ 0 (Or.inr ⟨rfl, ?_⟩)
                             rw [hu]
                             exact ⟨Bool.false_ne_true, hX2⟩)
                      · obtain ⟨-, r2, hX⟩ := hb4.resolve_right (fun z => e225 z.1)
                        have ht3 : (pp Kd n 3 (d + 1) (t + 2)).2.1 + 1 < N := KEk hE kk5 r2 (by decide) (by decide)
                        have htk : tk1 Kd 37 (pp Kd n 3 (d + 1) (t + 2)).2.1 = (true, (pp Kd n 3 (d + 1) (t + 2)).2.1 + 1, []) := if_pos r2
                        have hu2 : sq (tk1 Kd 37 (pp Kd n 3 (d + 1) (t + 2)).2.1) (fun t2 => sq (pp Kd n 3 (d + 1) t2) fun t3 => sq (tk1 Kd 33 t3) (em (Kd t) none)) = sq (pp Kd n 3 (d + 1) ((pp Kd n 3 (d + 1) (t + 2)).2.1 + 1)) fun t3 => sq (tk1 Kd 33 t3) (em (Kd t) none) := by
                          rw [htk]
                          rfl
                        rw [hu2] at hu
                        obtain ⟨J, F, K2, C2, hM, j0, j3, j4, ⟨f0, f1, f2, f4⟩, hR, ⟨c5, c13, c6, c14⟩, hO⟩ := id hX
                        refine bg_aload0 rfl ?_
                        refine bg_virt0 rfl rfl rfl rfl ⟨_, hM.Y⟩ ?_
                        refine ih3 _ (d + 1) ((pp Kd n 3 (d + 1) (t + 2)).2.1 + 1) (it ++ (pp Kd n 3 (d + 1) (t + 2)).2.2) _ _ _ _ (by omega) ht3 (by rw [List.length_append]; omega) ⟨_, rfl, by rw [r2]; decide⟩ (by omega) (by omega) hX (fun h5 b5 hb5 => bk_Ki ?_)
                        refine bg_if_ne rfl (fun e232 => ?_) (fun e232 => ?_)
                        · obtain ⟨-, r3, hX⟩ := hb5.resolve_right (fun z => e232 z.1)
                          rw [sq_t r3] at hu
                          have kk6 := pp_k hE n 3 (d + 1) ((pp Kd n 3 (d + 1) (t + 2)).2.1 + 1) ht3
                          have kk7 := kk6.2.2.2
                          have kk8 := kk6.1
                          obtain ⟨J, F, K2, C2, hM, j0, j3, j4, ⟨f0, f1, f2, f4⟩, hR, ⟨c5, c13, c6, c14⟩, hO⟩ := id hX
                          refine bg_aload0 rfl ?_
                          refine bg_dup rfl rfl ?_
                          refine bg_getfield rfl rfl hM.Y (by rfl) ?_
                          refine bg_iconst rfl ?_
                          refine bg_isub rfl ?_
                          refine bg_putfield rfl rfl hM.Y (by rfl) ⟨rfl, rfl⟩ (by rfl) (fun h244 f244 g244 => ?_)
                          rw [j4, nI_dn] at f244
                          have hM := hM.j (J' := upd J 4 (nI d)) f244 g244 rfl
                          have hX : PR h0 y u v T P S K C Fx Kd N W (rcL nv (it ++ (pp Kd n 3 (d + 1) (t + 2)).2.2 ++ (pp Kd n 3 (d + 1) ((pp Kd n 3 (d + 1) (t + 2)).2.1 + 1)).2.2)) (opL (it ++ (pp Kd n 3 (d + 1) (t + 2)).2.2 ++ (pp Kd n 3 (d + 1) ((pp Kd n 3 (d + 1) (t + 2)).2.1 + 1)).2.2) 0) (pp Kd n 3 (d + 1) ((pp Kd n 3 (d + 1) (t + 2)).2.1 + 1)).2.1 d h244 := ⟨_, F, K2, C2, hM, j0, j3, rfl, ⟨f0, f1, f2, f4⟩, hR, ⟨c5, c13, c6, c14⟩, hO⟩
                          refine bg_iload2 rfl ?_
                          refine bg_if_eq rfl (fun e248 => absurd e248 (by decide)) (fun e248 => ?_)
                          refine bg_aload0 rfl ?_
                          refine bg_iload1 rfl ?_
                          refine bg_virt1 rfl rfl rfl rfl ⟨_, hM.Y⟩ ?_
                          rw [how2]
                          refine rp_put (by rw [rcL_len]; have := lnL_le (it ++ (pp Kd n 3 (d + 1) (t + 2)).2.2 ++ (pp Kd n 3 (d + 1) ((pp Kd n 3 (d + 1) (t + 2)).2.1 + 1)).2.2); rw [List.length_append, List.length_append] at this; omega) hX (fun h6 hX => bk_Kv ?_)
                          obtain ⟨J, F, K2, C2, hM, j0, j3, j4, ⟨f0, f1, f2, f4⟩, hR, ⟨c5, c13, c6, c14⟩, hO⟩ := id hX
                          refine bg_aload0 rfl ?_
                          refine bg_bipush rfl ?_
                          refine bg_virt1 rfl rfl rfl rfl ⟨_, hM.Y⟩ ?_
                          refine rq_eatSign (wKe (k := 33) 33 (by decide) (by decide) (by decide)) (fun z => rof_0 (by rw [z]; decide)) hF kk8 hX (fun h7 b7 hb7 => bk_Ki ?_)
                          refine bg_iret rfl rfl (by rcases hb7 with ⟨e, _⟩ | ⟨e, _⟩ <;> rw [e] <;> rfl) ?_
                          refine hQ h7 b7 ?_
                          rw [hu]
                          rcases hb7 with ⟨e, z, hx⟩ | ⟨e, z, hx⟩
                          · have htk : tk1 Kd 33 (pp Kd n 3 (d + 1) ((pp Kd n 3 (d + 1) (t + 2)).2.1 + 1)).2.1 = (true, (pp Kd n 3 (d + 1) ((pp Kd n 3 (d + 1) (t + 2)).2.1 + 1)).2.1 + 1, []) := if_pos z
                            rw [htk]
                            refine Or.inl ⟨e, rfl, ?_⟩
                            show PR h0 y u v T P S K C Fx Kd N W (rcL nv (it ++ ((pp Kd n 3 (d + 1) (t + 2)).2.2 ++ ((pp Kd n 3 (d + 1) ((pp Kd n 3 (d + 1) (t + 2)).2.1 + 1)).2.2 ++ [(Kd t, none)])))) (opL (it ++ ((pp Kd n 3 (d + 1) (t + 2)).2.2 ++ ((pp Kd n 3 (d + 1) ((pp Kd n 3 (d + 1) (t + 2)).2.1 + 1)).2.2 ++ [(Kd t, none)]))) 0) ((pp Kd n 3 (d + 1) ((pp Kd n 3 (d + 1) (t + 2)).2.1 + 1)).2.1 + 1) d h7
                            rw [← List.append_assoc, ← List.append_assoc, (rc_op (nv := nv)).1, (rc_op (nv := nv)).2]
                            exact hx
                          · have htk : tk1 Kd 33 (pp Kd n 3 (d + 1) ((pp Kd n 3 (d + 1) (t + 2)).2.1 + 1)).2.1 = no (pp Kd n 3 (d + 1) ((pp Kd n 3 (d + 1) (t + 2)).2.1 + 1)).2.1 := if_neg z
                            rw [htk]
                            exact Or.inr ⟨e, Bool.false_ne_true, hx.e⟩
                        · obtain ⟨-, r3, hX⟩ := hb5.resolve_left (fun z => absurd (z.1.symm.trans e232) (by decide))
                          rw [sq_f r3] at hu
                          refine bg_iconst rfl ?_
                          refine bg_iret rfl rfl (by rfl) ?_
                          first
                            | (refine hQ h5 0 (Or.inr ⟨rfl, ?_⟩)
                               rw [hu]
                               exact ⟨r3, hX⟩)
                            | (have hX2 := hX.e
                               refine hQ h4 0 (Or.inr ⟨rfl, ?_⟩)
                               rw [hu]
                               exact ⟨Bool.false_ne_true, hX2⟩)
                            | (refine hQ h3 0 (Or.inr ⟨rfl, ?_⟩)
                               rw [hu]
                               exact ⟨r1, hX⟩)
                            | (have hX2 := hX.e
                               refine hQ _ 0 (Or.inr ⟨rfl, ?_⟩)
                               rw [hu]
                               exact ⟨Bool.false_ne_true, hX2⟩)
            · have hk31 : ¬ (Kd t = 31 ∨ Kd t = 18 ∨ Kd t = 23 ∨ Kd t = 24) := fun z => z.elim k1 k2
              have hu : pp Kd (n + 1) 0 d t = no t := (if_neg hk31).trans ((if_neg k3).trans ((if_neg k4).trans ((if_neg k5).trans (if_neg k6))))
              refine bg_aload0 rfl ?_
              refine bg_getfield rfl rfl hM.Y (by rfl) ?_
              refine bg_aload0 rfl ?_
              refine bg_getfield rfl rfl hM.Y (by rfl) ?_
              rw [j3]
              refine bg_iaload_n rfl hM.f0 (by decide) (by omega) ?_
              rw [hkk]
              refine bg_istore1 rfl rfl ?_
              refine bg_aload0 rfl ?_
              refine bg_bipush rfl ?_
              refine bg_virt1 rfl rfl rfl rfl ⟨_, hM.Y⟩ ?_
              refine rq_eat (wKe (k := 28) 28 (by decide) (by decide) (by decide)) (fun z => rof_0 (hqu (by simp [z]))) hF ht hX (fun h1 b1 hb1 => bk_Ki ?_)
              refine bg_if_ne rfl (fun e174 => (k6 (Or.inl (hb1.resolve_right (fun z => e174 z.1)).2.1)).elim) (fun e174 => ?_)
              obtain ⟨-, _, hX⟩ := hb1.resolve_left (fun z => absurd (z.1.symm.trans e174) (by decide))
              obtain ⟨J, F, K2, C2, hM, j0, j3, j4, ⟨f0, f1, f2, f4⟩, hR, ⟨c5, c13, c6, c14⟩, hO⟩ := id hX
              refine bg_aload0 rfl ?_
              refine bg_bipush rfl ?_
              refine bg_virt1 rfl rfl rfl rfl ⟨_, hM.Y⟩ ?_
              refine rq_eat (wKe (k := 29) 29 (by decide) (by decide) (by decide)) (fun z => rof_0 (hqu (by simp [z]))) hF ht hX (fun h1 b1 hb1 => bk_Ki ?_)
              refine bg_if_eq rfl (fun e183 => ?_) (fun e183 => (k6 (Or.inr (hb1.resolve_right (fun z => e183 z.1)).2.1)).elim)
              obtain ⟨-, _, hX⟩ := hb1.resolve_left (fun z => absurd (z.1.symm.trans e183) (by decide))
              obtain ⟨J, F, K2, C2, hM, j0, j3, j4, ⟨f0, f1, f2, f4⟩, hR, ⟨c5, c13, c6, c14⟩, hO⟩ := id hX
              refine bg_iconst rfl ?_
              refine bg_istore2 rfl rfl ?_
              refine bg_aload0 rfl ?_
              refine bg_bipush rfl ?_
              refine bg_virt1 rfl rfl rfl rfl ⟨_, hM.Y⟩ ?_
              refine rp_isSign (wKe (k := 32) 32 (by decide) (by decide) (by decide)) hF ht hX (bk_Ki ?_)
              refine bg_ifeq_b rfl (fun e198 => ?_) (fun e198 => (k5 e198).elim)
              refine bg_iconst rfl ?_
              refine bg_iret rfl rfl (by rfl) ?_
              have hX2 := hX.e
              refine hQ _ 0 (Or.inr ⟨rfl, ?_⟩)
              rw [hu]
              exact ⟨Bool.false_ne_true, hX2⟩
        · have hk4 : Kd t = 39 := e121
          have ht1 : t + 1 < N := KEk hE ht hk4 (by decide) (by decide)
          have hk31 : ¬ (Kd t = 31 ∨ Kd t = 18 ∨ Kd t = 23 ∨ Kd t = 24) := fun z => z.elim k1 k2
          have hu : pp Kd (n + 1) 0 d t = (if d < 8 then sq (pp Kd n 0 (d + 1) (t + 1)) (em 48 none) else no t) := (if_neg hk31).trans ((if_neg k3).trans (if_pos hk4))
          have hqu2 : quK (Kd t) := by rw [hk4]; decide
          have hpv1 : pvK Kd (t + 1) := ⟨t, rfl, by rw [hk4]; decide⟩
          refine bg_aload0 rfl ?_
          refine bg_virt0 rfl rfl rfl rfl ⟨_, hM.Y⟩ ?_
          refine rq_deeper hd (rof_0 hqu2) hF ht hX (fun h1 b1 hb1 => bk_Ki ?_)
          refine bg_if_eq rfl (fun e128 => ?_) (fun e128 => ?_)
          · obtain ⟨-, hd8, hX⟩ := hb1.resolve_left (fun z => absurd (z.1.symm.trans e128) (by decide))
            rw [if_neg hd8] at hu
            refine bg_iconst rfl ?_
            refine bg_iret rfl rfl (by rfl) ?_
            first
              | refine hQ h1 0 (Or.inr ⟨rfl, ?_⟩)
                rw [hu]
                exact ⟨Bool.false_ne_true, hX.e⟩
              | (refine hQ h3 0 (Or.inr ⟨rfl, ?_⟩)
                 rw [hu]
                 exact ⟨r1, hX⟩)
          · obtain ⟨-, hd8, hX⟩ := hb1.resolve_right (fun z => e128 z.1)
            rw [if_pos hd8] at hu
            obtain ⟨J, F, K2, C2, hM, j0, j3, j4, ⟨f0, f1, f2, f4⟩, hR, ⟨c5, c13, c6, c14⟩, hO⟩ := id hX
            refine bg_aload0 rfl ?_
            refine bg_virt0 rfl rfl rfl rfl ⟨_, hM.Y⟩ ?_
            refine ih0 _ (d + 1) (t + 1) it _ _ _ _ (by omega) (by omega) (by omega) hpv1 (by omega) (by omega) hX (fun h3 b3 hb3 => bk_Ki ?_)
            refine bg_if_ne rfl (fun e135 => ?_) (fun e135 => ?_)
            · obtain ⟨-, r1, hX⟩ := hb3.resolve_right (fun z => e135 z.1)
              rw [sq_t r1] at hu
              have kk1 := pp_k hE n 0 (d + 1) (t + 1) ht1
              have kk4 := kk1.2.2.2
              have kk5 := kk1.1
              obtain ⟨J, F, K2, C2, hM, j0, j3, j4, ⟨f0, f1, f2, f4⟩, hR, ⟨c5, c13, c6, c14⟩, hO⟩ := id hX
              refine bg_aload0 rfl ?_
              refine bg_dup rfl rfl ?_
              refine bg_getfield rfl rfl hM.Y (by rfl) ?_
              refine bg_iconst rfl ?_
              refine bg_isub rfl ?_
              refine bg_putfield rfl rfl hM.Y (by rfl) ⟨rfl, rfl⟩ (by rfl) (fun h147 f147 g147 => ?_)
              rw [j4, nI_dn] at f147
              have hM := hM.j (J' := upd J 4 (nI d)) f147 g147 rfl
              have hX : PR h0 y u v T P S K C Fx Kd N W (rcL nv (it ++ (pp Kd n 0 (d + 1) (t + 1)).2.2)) (opL (it ++ (pp Kd n 0 (d + 1) (t + 1)).2.2) 0) (pp Kd n 0 (d + 1) (t + 1)).2.1 d h147 := ⟨_, F, K2, C2, hM, j0, j3, rfl, ⟨f0, f1, f2, f4⟩, hR, ⟨c5, c13, c6, c14⟩, hO⟩
              refine bg_aload0 rfl ?_
              refine bg_bipush rfl ?_
              refine bg_virt1 rfl rfl rfl rfl ⟨_, hM.Y⟩ ?_
              refine rp_put (by rw [rcL_len]; have := lnL_le (it ++ (pp Kd n 0 (d + 1) (t + 1)).2.2); rw [List.length_append] at this; omega) hX (fun h1 hX => bk_Kv ?_)
              refine bg_iconst rfl ?_
              refine bg_iret rfl rfl (by rfl) ?_
              refine hQ h1 1 (Or.inl ⟨rfl, ?_⟩)
              rw [hu]
              refine ⟨rfl, ?_⟩
              show PR h0 y u v T P S K C Fx Kd N W (rcL nv (it ++ ((pp Kd n 0 (d + 1) (t + 1)).2.2 ++ [(48, none)]))) (opL (it ++ ((pp Kd n 0 (d + 1) (t + 1)).2.2 ++ [(48, none)])) 0) (pp Kd n 0 (d + 1) (t + 1)).2.1 d h1
              rw [← List.append_assoc, (rc_op (nv := nv)).1, (rc_op (nv := nv)).2]
              exact hX
            · obtain ⟨-, r1, hX⟩ := hb3.resolve_left (fun z => absurd (z.1.symm.trans e135) (by decide))
              rw [sq_f r1] at hu
              refine bg_iconst rfl ?_
              refine bg_iret rfl rfl (by rfl) ?_
              first
                | refine hQ h1 0 (Or.inr ⟨rfl, ?_⟩)
                  rw [hu]
                  exact ⟨Bool.false_ne_true, hX.e⟩
                | (refine hQ h3 0 (Or.inr ⟨rfl, ?_⟩)
                   rw [hu]
                   exact ⟨r1, hX⟩)
      · have hk3 := hof.mp e91
        have ht1 : t + 1 < N := KE hE ht (by rintro q; rw [q] at hk3; revert hk3; decide) (by rintro q; rw [q] at hk3; revert hk3; decide)
        have hk31 : ¬ (Kd t = 31 ∨ Kd t = 18 ∨ Kd t = 23 ∨ Kd t = 24) := fun z => z.elim k1 k2
        have hu : pp Kd (n + 1) 0 d t = (if Kd (t + 1) = 30 then (true, t + 2, [(Kd t, some (t + 1))]) else no (t + 1)) := (if_neg hk31).trans (if_pos hk3)
        have hnmr := nm_all jj hj
        rw [← ej] at hnmr
        have hrof : Kd (t + 1) = 30 → rof Kd (t + 1) = if Kd t = 22 then 20 else 19 := fun z => by
          unfold rof pvF
          rw [if_neg (Nat.succ_ne_zero t), z, Nat.add_sub_cancel]
          exact hnmr hk3
        refine bg_aload0 rfl ?_
        refine bg_aload0 rfl ?_
        refine bg_bipush rfl ?_
        refine bg_virt1 rfl rfl rfl rfl ⟨_, hM.Y⟩ ?_
        refine rp_is (wKe (k := 22) 22 (by decide) (by decide) (by decide)) hF ht hX (bk_Ki ?_)
        refine bg_ifeq_b rfl (fun e101 => ?_) (fun e101 => ?_)
        · rw [if_neg e101] at hrof
          refine bg_bipush rfl ?_
          refine bg_virt1 rfl rfl rfl rfl ⟨_, hM.Y⟩ ?_
          refine rp_named hk3 hrof (by rw [rcL_len]; have := lnL_le it; omega) (by have := opL_len it 0; omega) ht1 hF ht hX (fun h1 b hb => bk_Ki ?_)
          refine bg_iret rfl rfl (by rcases hb with ⟨e, _⟩ | ⟨e, _⟩ <;> rw [e] <;> rfl) ?_
          refine hQ h1 b ?_
          rw [hu]
          rcases hb with ⟨e, z, hx⟩ | ⟨e, z, hx⟩
          · rw [if_pos z]
            refine Or.inl ⟨e, rfl, ?_⟩
            rw [(rc_nm (nv := nv) k1 hk3).1, (rc_nm (nv := nv) k1 hk3).2, ← rcL_len (nv := nv) it]
            exact hx
          · rw [if_neg z]
            exact Or.inr ⟨e, Bool.false_ne_true, hx⟩
        · rw [if_pos e101] at hrof
          refine bg_bipush rfl ?_
          refine bg_goto rfl ?_
          refine bg_virt1 rfl rfl rfl rfl ⟨_, hM.Y⟩ ?_
          refine rp_named hk3 hrof (by rw [rcL_len]; have := lnL_le it; omega) (by have := opL_len it 0; omega) ht1 hF ht hX (fun h1 b hb => bk_Ki ?_)
          refine bg_iret rfl rfl (by rcases hb with ⟨e, _⟩ | ⟨e, _⟩ <;> rw [e] <;> rfl) ?_
          refine hQ h1 b ?_
          rw [hu]
          rcases hb with ⟨e, z, hx⟩ | ⟨e, z, hx⟩
          · rw [if_pos z]
            refine Or.inl ⟨e, rfl, ?_⟩
            rw [(rc_nm (nv := nv) k1 hk3).1, (rc_nm (nv := nv) k1 hk3).2, ← rcL_len (nv := nv) it]
            exact hx
          · rw [if_neg z]
            exact Or.inr ⟨e, Bool.false_ne_true, hx⟩
    · have hk2 := hal.mp e51
      have hk31 : Kd t = 31 ∨ Kd t = 18 ∨ Kd t = 23 ∨ Kd t = 24 := Or.inr hk2
      have ht1 : t + 1 < N := KE hE ht (by rintro q; rw [q] at hk2; revert hk2; decide) (by rintro q; rw [q] at hk2; revert hk2; decide)
      have hnm : ¬ isNm (Kd t) := by rcases hk2 with q | q | q <;> rw [q] <;> decide
      have hu : pp Kd (n + 1) 0 d t = (true, t + 1, [(Kd t, some t)]) := if_pos hk31
      have how2 : wK (Kd t) = oW (Kd t) := how (by rcases hk2 with q | q | q <;> simp [q])
      have hqu2 : quK (Kd t) := hqu (by rcases hk2 with q | q | q <;> simp [q])
      refine bg_aload0 rfl ?_
      refine bg_aload0 rfl ?_
      refine bg_getfield rfl rfl hM.Y (by rfl) ?_
      refine bg_aload0 rfl ?_
      refine bg_getfield rfl rfl hM.Y (by rfl) ?_
      rw [j3]
      refine bg_iaload_n rfl hM.f0 (by decide) (by omega) ?_
      refine bg_virt1 rfl rfl rfl rfl ⟨_, hM.Y⟩ ?_
      rw [hkk, how2]
      refine rp_put (by rw [rcL_len]; have := lnL_le it; omega) hX (fun h1 hX => bk_Kv ?_)
      obtain ⟨J, F, K2, C2, hM, j0, j3, j4, ⟨f0, f1, f2, f4⟩, hR, ⟨c5, c13, c6, c14⟩, hO⟩ := id hX
      refine bg_aload0 rfl ?_
      refine bg_dup rfl rfl ?_
      refine bg_getfield rfl rfl hM.Y (by rfl) ?_
      refine bg_iconst rfl ?_
      refine bg_iadd rfl ?_
      refine bg_putfield rfl rfl hM.Y (by rfl) ⟨rfl, rfl⟩ (by rfl) (fun h74 f74 g74 => ?_)
      rw [j3, nI_1] at f74
      have hM := hM.j (J' := upd J 3 (nI (t + 1))) f74 g74 rfl
      refine bg_iconst rfl ?_
      refine bg_iret rfl rfl (by rfl) ?_
      refine hQ h74 1 (Or.inl ⟨rfl, ?_⟩)
      rw [hu]
      exact ⟨rfl, by rw [(rc_al (nv := nv) k1 hnm).1, (rc_al (nv := nv) k1 hnm).2]; exact ⟨_, F, K2, C2, hM, j0, rfl, j4, ⟨f0, f1, f2, f4⟩, RoL_0 hR ht (rof_0 hqu2), ⟨c5, c13, c6, c14⟩, hO⟩⟩
  · have hk1 : Kd t = 31 := e6
    have ht1 : t + 1 < N := KEk hE ht hk1 (by decide) (by decide)
    have hu : pp Kd (n + 1) 0 d t = (true, t + 1, [(Kd t, some t)]) := if_pos (Or.inl hk1)
    rw [hk1] at hu
    refine bg_aload0 rfl ?_
    refine bg_bipush rfl ?_
    refine bg_virt1 rfl rfl rfl rfl ⟨_, hM.Y⟩ ?_
    refine rp_put (by rw [rcL_len]; have := lnL_le it; omega) hX (fun h1 hX => bk_Kv ?_)
    obtain ⟨J, F, K2, C2, hM, j0, j3, j4, ⟨f0, f1, f2, f4⟩, hR, ⟨c5, c13, c6, c14⟩, hO⟩ := id hX
    refine bg_aload0 rfl ?_
    refine bg_aload0 rfl ?_
    refine bg_aload0 rfl ?_
    refine bg_getfield rfl rfl hM.Y (by rfl) ?_
    refine bg_virt1 rfl rfl rfl rfl ⟨_, hM.Y⟩ ?_
    rw [j3]
    obtain ⟨s, l, n1, n2, n3, n4⟩ := hV t ht hk1
    refine mt_number (s := s) (l := l) hM (by rw [f1]; exact n1) (by rw [f2]; exact n2) n3 (by omega) (bk_Ki ?_)
    rw [← n4]
    refine bg_virt1 rfl rfl rfl rfl ⟨_, hM.Y⟩ ?_
    refine rp_put (by rw [List.length_append, rcL_len]; have := lnL_le it; show lnL it + 1 < 800; omega) hX (fun h1 hX => bk_Kv ?_)
    obtain ⟨J, F, K2, C2, hM, j0, j3, j4, ⟨f0, f1, f2, f4⟩, hR, ⟨c5, c13, c6, c14⟩, hO⟩ := id hX
    refine bg_aload0 rfl ?_
    refine bg_dup rfl rfl ?_
    refine bg_getfield rfl rfl hM.Y (by rfl) ?_
    refine bg_iconst rfl ?_
    refine bg_iadd rfl ?_
    refine bg_putfield rfl rfl hM.Y (by rfl) ⟨rfl, rfl⟩ (by rfl) (fun h34 f34 g34 => ?_)
    rw [j3, nI_1] at f34
    have hM := hM.j (J' := upd J 3 (nI (t + 1))) f34 g34 rfl
    refine bg_iconst rfl ?_
    refine bg_iret rfl rfl (by rfl) ?_
    refine hQ h34 1 (Or.inl ⟨rfl, ?_⟩)
    rw [hu]
    exact ⟨rfl, by rw [(rc_nu (nv := nv)).1, (rc_nu (nv := nv)).2]; exact ⟨_, F, K2, C2, hM, j0, rfl, j4, ⟨f0, f1, f2, f4⟩, RoL_0 hR ht (rof_n hk1 hpv), ⟨c5, c13, c6, c14⟩, hO⟩⟩
end MM
