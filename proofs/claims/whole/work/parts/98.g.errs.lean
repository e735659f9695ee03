/-! THE REFERENCE: the loop over a list's errors. Printed by wip/whole/mk98e.py. -/
section MM
variable {V : bk_V} {D n : Nat} {B : Nat × Nat} {Q : bk_R → bk_H → Nat → Prop} {h0 h : bk_H} {y u v N m idx no : Nat} {T : List Int32} {P : Nat → bT} {S : bS} {K J K2 : rI} {C Fx F C2 : rA} {Kd : Nat → Int32} {nv : Nat → Int32} {g : Nat → Int64} {cs : Nat × Nat} {f : Nat → Int32} {rows : bT} {E : Nat} {Kz : rI} {Cz Cb : rA} {cl : List Int32} {ol : List Nat} {j2 : Int32}
theorem mt_errL (hf : ∀ i, i < N → f i = Kd i) (hN : N ≤ 401) (hEN : E ≤ N) (hT : ∀ i, i < E → OKT Kd i) (hw : ∀ q ∈ rows, q.length = 2) (hl : rows.length = N) (hm : NMk Fx Kd N T g) (hV : NVk Fx Kd N T nv) (hnv : ∀ i, i < E → Kd i = 31 → rG rows (nI i) 1 = nv i) (hQ1 : ∀ k, k < E → (∀ j, j < k → ckE f g rows j = 0) → ¬ ckE f g rows k = 0 → ∀ (h' : bk_H) (J' : rI) (F' : rA) (K2' : rI) (C2' : rA), MT h0 h' y u v T P S K C J' F' K2' C2' → J' 0 = 0 → J' 2 = Fx 1 k → Q (.inl (some (.int (ckE f g rows k)))) h' n) (hQ2 : (∀ j, j < E → ckE f g rows j = 0) → ∀ (h' : bk_H) (J' : rI) (F' : rA) (K2' : rI) (C2' : rA) (x2 : Option Value), MT h0 h' y u v T P S K C J' F' K2' C2' → J' 0 = 0 → J' 2 = j2 → ZH f g rows Kd nv Cb E Kz Cz E F' K2' C2' → bk_g V (D + 64) 194 B Q 109 [some (.ref y), some (.int (nI E)), x2] [] h' n cs) : ∀ (c i : Nat) (x2 : Option Value) (h : bk_H) (J : rI) (F : rA) (K2 : rI) (C2 : rA), i + c = E → MT h0 h y u v T P S K C J F K2 C2 → J 0 = 0 → J 2 = j2 → J 3 = nI i → F 1 = Fx 1 → F 2 = Fx 2 → ZH f g rows Kd nv Cb E Kz Cz i F K2 C2 → (∀ j, j < i → ckE f g rows j = 0) → bk_g V (D + 64) 194 B Q 57 [some (.ref y), some (.int (nI E)), x2] [] h n cs := by
  intro c
  induction c with
  | zero =>
    intro i x2 h J F K2 C2 hi hM j0 jj2 j3 hf1 hf2 hZ hok
    obtain rfl : i = E := by omega
    refine bg_aload0 rfl ?_
    refine bg_getfield rfl rfl hM.Y (by rfl) ?_
    rw [j3]
    refine bg_iload1 rfl ?_
    refine bg_icmp_ge rfl (fun e62 => ?_) (fun e62 => absurd e62 (nI_nlt (Nat.le_refl _) (by omega)))
    exact hQ2 hok h J F K2 C2 x2 hM j0 jj2 hZ
  | succ c ih =>
    intro i x2 h J F K2 C2 hi hM j0 jj2 j3 hf1 hf2 hZ hok
    have hiE : i < E := by omega
    refine bg_aload0 rfl ?_
    refine bg_getfield rfl rfl hM.Y (by rfl) ?_
    rw [j3]
    refine bg_iload1 rfl ?_
    refine bg_icmp_ge rfl (fun e62 => absurd (nI_lt hiE (by omega)) e62) (fun e62 => ?_)
    refine bg_aload0 rfl ?_
    refine bg_aload0 rfl ?_
    refine bg_getfield rfl rfl hM.Y (by rfl) ?_
    rw [j3]
    refine bg_virt1 rfl rfl rfl rfl ⟨_, hM.Y⟩ ?_
    refine mt_errorOf (Fx := Fx) (E := E) (N := N) hf hN hEN hiE hok (hT i hiE) hw hl hf1 hf2 hm hV (hnv i hiE) hM hZ (fun h3 F3 K3 C3 hM hF3 hZ3 => bk_Ki ?_)
    obtain ⟨f30, f31, f32⟩ := hF3
    refine bg_istore2 rfl rfl ?_
    refine bg_iload2 rfl ?_
    refine bg_if_ne rfl (fun e75 => ?_) (fun e75 => ?_)
    · refine bg_aload0 rfl ?_
      refine bg_aload0 rfl ?_
      refine bg_getfield rfl rfl hM.Y (by rfl) ?_
      refine bg_aload0 rfl ?_
      refine bg_getfield rfl rfl hM.Y (by rfl) ?_
      rw [j3]
      refine bg_iaload_n rfl hM.f1 (by decide) (by omega) ?_
      refine bg_putfield rfl rfl hM.Y (by rfl) ⟨rfl, rfl⟩ (by rfl) (fun h91 f91 g91 => ?_)
      have hM := hM.j (J' := upd J 2 (F3 1 i)) f91 g91 rfl
      refine bg_iload2 rfl ?_
      refine bg_iret rfl rfl (by rfl) ?_
      exact hQ1 i hiE hok e75 _ _ _ _ _ hM j0 (congrFun (f31.trans hf1) i)
    · have hZ3 := hZ3 e75
      have hM := hM
      refine bg_goto rfl ?_
      refine bg_aload0 rfl ?_
      refine bg_dup rfl rfl ?_
      refine bg_getfield rfl rfl hM.Y (by rfl) ?_
      refine bg_iconst rfl ?_
      refine bg_iadd rfl ?_
      refine bg_putfield rfl rfl hM.Y (by rfl) ⟨rfl, rfl⟩ (by rfl) (fun h103 f103 g103 => ?_)
      have hM := hM.j (J' := upd J 3 (J 3 + 1)) f103 g103 rfl
      refine bg_goto rfl ?_
      refine ih (i + 1) _ _ _ _ _ _ (by omega) hM j0 jj2 (by show upd J 3 (J 3 + 1) 3 = _; rw [upd_same, j3, nI_1]) (f31.trans hf1) (f32.trans hf2) hZ3 (fun j hj => ?_)
      by_cases e : j < i
      · exact hok j e
      · rw [show j = i by omega]
        exact e75

end MM
