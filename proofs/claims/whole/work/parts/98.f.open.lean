/-! THE REFERENCE: the names in the code are put in. Printed by wip/whole/mk98e.py. -/
section MM
variable {V : bk_V} {D n : Nat} {B : Nat × Nat} {Q : bk_R → bk_H → Nat → Prop} {h0 h : bk_H} {y u v N m idx no : Nat} {T : List Int32} {P : Nat → bT} {S : bS} {K J K2 : rI} {C Fx F C2 : rA} {Kd : Nat → Int32} {nv : Nat → Int32} {g : Nat → Int64} {cs : Nat × Nat} {f : Nat → Int32} {rows : bT} {E : Nat} {Kz : rI} {Cz Cb : rA} {cl : List Int32} {ol : List Nat} {j2 : Int32}
theorem mt_openL {x1 : Int32} (h6 : K2 6 = nI ol.length) (h14 : ∀ k, k < ol.length → Cz 14 k = nI (ol.getD k 0)) (ho : ∀ k, k < ol.length → ol.getD k 0 < cl.length ∧ ∃ j, j < 401 ∧ cl.getD (ol.getD k 0) 0 = nI j) (hnd : ∀ k, k < ol.length → ¬ ol.getD k 0 ∈ ol.take k) (hcl : cl.length ≤ 800) (hol : ol.length ≤ 400) (hQ : ∀ (h' : bk_H) (C2' : rA), MT h0 h' y u v T P S K C J F K2 C2' → (∀ j, ¬ j = 13 → C2' j = Cz j) → (∀ p, p < cl.length → C2' 13 p = if p ∈ ol then F 4 (cl.getD p 0).toNatClampNeg else cl.getD p 0) → Q (.inl (some (.int 0))) h' n) : ∀ (c k : Nat) (h : bk_H) (C2 : rA), k + c = ol.length → MT h0 h y u v T P S K C J F K2 C2 → (∀ j, ¬ j = 13 → C2 j = Cz j) → (∀ p, p < cl.length → C2 13 p = if p ∈ ol.take k then F 4 (cl.getD p 0).toNatClampNeg else cl.getD p 0) → bk_g V D 194 B Q 111 [some (.ref y), some (.int x1), some (.int (nI k))] [] h n cs := by
  intro c
  induction c with
  | zero =>
    intro k h C2 hi hM hz hc
    obtain rfl : k = ol.length := by omega
    refine bg_iload2 rfl ?_
    refine bg_aload0 rfl ?_
    refine bg_getfield rfl rfl hM.Y (by rfl) ?_
    refine bg_getfield rfl rfl hM.R.1 (by rfl) ?_
    rw [h6]
    refine bg_icmp_ge rfl (fun e119 => ?_) (fun e119 => absurd e119 (nI_nlt (Nat.le_refl _) (by omega)))
    refine bg_iconst rfl ?_
    refine bg_iret rfl rfl (by rfl) ?_
    refine hQ h C2 hM hz (fun p hp => ?_)
    rw [hc p hp, List.take_length]
  | succ c ih =>
    intro k h C2 hi hM hz hc
    have hk : k < ol.length := by omega
    obtain ⟨o1, jj, o2, o3⟩ := ho k hk
    have o14 : C2 14 k = nI (ol.getD k 0) := by rw [hz 14 (by decide)]; exact h14 k hk
    have o13 : C2 13 (ol.getD k 0) = nI jj := by rw [hc _ o1, if_neg (hnd k hk)]; exact o3
    refine bg_iload2 rfl ?_
    refine bg_aload0 rfl ?_
    refine bg_getfield rfl rfl hM.Y (by rfl) ?_
    refine bg_getfield rfl rfl hM.R.1 (by rfl) ?_
    rw [h6]
    refine bg_icmp_ge rfl (fun e119 => absurd (nI_lt hk (by omega)) e119) (fun e119 => ?_)
    refine bg_aload0 rfl ?_
    refine bg_getfield rfl rfl hM.Y (by rfl) ?_
    refine bg_getfield rfl rfl hM.R.1 (by rfl) ?_
    refine bg_aload0 rfl ?_
    refine bg_getfield rfl rfl hM.Y (by rfl) ?_
    refine bg_getfield rfl rfl hM.R.1 (by rfl) ?_
    refine bg_iload2 rfl ?_
    refine bg_iaload_n rfl (pR15 hM.R) (by decide) (by omega) ?_
    rw [o14]
    refine bg_aload0 rfl ?_
    refine bg_getfield rfl rfl hM.Y (by rfl) ?_
    refine bg_aload0 rfl ?_
    refine bg_getfield rfl rfl hM.Y (by rfl) ?_
    refine bg_getfield rfl rfl hM.R.1 (by rfl) ?_
    refine bg_aload0 rfl ?_
    refine bg_getfield rfl rfl hM.Y (by rfl) ?_
    refine bg_getfield rfl rfl hM.R.1 (by rfl) ?_
    refine bg_iload2 rfl ?_
    refine bg_iaload_n rfl (pR15 hM.R) (by decide) (by omega) ?_
    rw [o14]
    refine bg_iaload_n rfl (pR14 hM.R) (by decide) (by omega) ?_
    rw [o13]
    refine bg_iaload_n rfl hM.f4 (by decide) (by omega) ?_
    refine bg_iastore_n rfl (pR14 hM.R) (by decide) (by omega) (fun h160 f160 g160 => ?_)
    have hM := hM.cc13 f160 g160
    refine bg_iinc2 rfl rfl ?_
    rw [nI_1]
    refine bg_goto rfl ?_
    refine ih (k + 1) _ _ (by omega) hM (fun j hj => (uA_n hj).trans (hz j hj)) (fun p hp => ?_)
    rw [uA_s, List.take_add_one, show ol[k]?.toList = [ol.getD k 0] by rw [List.getD_eq_getElem?_getD, List.getElem?_eq_getElem hk]; rfl]
    by_cases e : p = ol.getD k 0
    · rw [e, upd_same, if_pos (List.mem_append_right _ (List.mem_singleton.mpr rfl)), o3, nI_clamp (by omega)]
    · have e2 : upd (C2 13) (ol.getD k 0) (F 4 jj) p = C2 13 p := if_neg e
      rw [e2, hc p hp]
      by_cases m : p ∈ ol.take k
      · rw [if_pos m, if_pos (List.mem_append_left _ m)]
      · rw [if_neg m, if_neg (fun z => (List.mem_append.mp z).elim m (fun z => e (List.mem_singleton.mp z)))]

end MM
