/-! ONE STEP AT THE MACHINE: new objects and arrays; the library's own calls. -/
section BKN
variable {p : Program} {l : Launch} {e : Env} {R : Room} {s : State} {m : MethodId} {args : Array Value} {below : List Frame} {meth : Method} {c : Code} {Z : State → Prop} {V : bk_V} {N0 : Nat} {H00 : Heap} {D : va_G} {τ : Nat → ClassId} {C : bk_P} {j : Nat} {B : Nat × Nat} {Q : bk_R → bk_H → Nat → Prop}
theorem bk_newA {t : Nat} {N : Nat} {ty : FieldType} {f : vp_A} {h : bk_H} {n : Nat} {H H1 : Heap} {cA : ClassId} (hR : bk_Rl N0 H00 D τ h n H) (hcA : τ t = cA) (hf : ∀ q : ClassId, vp_cell q f = arrV q N (fun _ => defaultValue ty))
    (e1 : H1[n]? = some (arrV cA N (fun _ => defaultValue ty))) (z : H1.size = n + 1) (o : ∀ q : Nat, q < n → H1[q]? = H[q]?) : bk_Rl N0 H00 D τ (bk_up h n (.inl (t, f))) (n + 1) H1 := by
  refine hR.new z o ?_
  show H1[n]? = some (vp_cell (τ t) f)
  rw [hcA, hf]
  exact e1
theorem bk_wAI : Cond.arrayClass .int ∈ lw_G := bk_inG (i := 174) (by decide +kernel)
theorem bk_wAL : Cond.arrayClass .long ∈ lw_G := bk_inG (i := 189) (by decide +kernel)
theorem bk_wAB : Cond.arrayClass .byte ∈ lw_G := bk_inG (i := 145) (by decide +kernel)
theorem bk_a_newarray {at0 : ArrayType} (K : bk_Cx p l e R s m args below meth c Z V N0 H00 D τ B j) : bk_Ok p l e R s m args below meth c Z V N0 H00 D τ B C j Q (.newarray at0) := by
  intro pc nx sw k L st h n cs hi h1 H ls locs hL hl hR hlo c1 c2
  obtain ⟨hx, hb, hml, hown, hts, hB, hr1, hr2, -⟩ := K
  have ok := (bk_okI hi).1
  simp only [bk_s1, hi] at h1
  obtain ⟨d, rfl⟩ := bk_dk_sp (show bk_dk (bk_cc j) pc (.newarray at0) 2 nx = true from ok)
  split at h1
  · rename_i kk r
    obtain ⟨N, g1, g2, g3, g4, g5, h1⟩ := h1
    have hK := hB.1.2
    cases at0 with
    | int =>
      refine va_newaK (atype := .int) hx hb (hts _ bk_wAI) rfl d rfl g2 g1 (by show N * 4 ≤ _; omega) (by omega) (by omega) hR.1 fun H1 cA e1 z o hA hN => ?_
      have hcA : τ 0 = cA := Option.some.inj ((show s.vm.findClass ("[" ++ (FieldType.int).toString) = some (τ 0) from (hK 0 _ rfl).2).symm.trans hN)
      exact h1 H1 ls locs hL hl (bk_newA hR hcA (fun q => (vp_cell_i q _ _).trans rfl) e1 z o) hlo g3 g4
    | long =>
      refine va_newaK (atype := .long) hx hb (hts _ bk_wAL) rfl d rfl g2 g1 (by show N * 8 ≤ _; omega) (by omega) (by omega) hR.1 fun H1 cA e1 z o hA hN => ?_
      have hcA : τ 1 = cA := Option.some.inj ((show s.vm.findClass ("[" ++ (FieldType.long).toString) = some (τ 1) from (hK 1 _ rfl).2).symm.trans hN)
      exact h1 H1 ls locs hL hl (bk_newA hR hcA (fun q => (vp_cell_l q _ _).trans rfl) e1 z o) hlo g3 g4
    | byte =>
      refine va_newaK (atype := .byte) hx hb (hts _ bk_wAB) rfl d rfl g2 g1 (by show N * 1 ≤ _; omega) (by omega) (by omega) hR.1 fun H1 cA e1 z o hA hN => ?_
      have hcA : τ 2 = cA := Option.some.inj ((show s.vm.findClass ("[" ++ (FieldType.byte).toString) = some (τ 2) from (hK 2 _ rfl).2).symm.trans hN)
      exact h1 H1 ls locs hL hl (bk_newA hR hcA (fun q => (vp_cell_i q _ _).trans rfl) e1 z o) hlo g3 g4
    | _ => exact h1.elim
  · exact h1.elim
def bk_nk (e : (Nat ⊕ String) × Nat) : Bool := match e.1 with
  | .inl ci => !Nat.beq ci 2
  | .inr _ => true
theorem bk_noK (own ix : Nat) : bk_al bk_nk (bk_new own ix) := (bk_ae (bk_ae (bk_ae (bk_ao (c := fun _ => bk_nk) (show bk_al _ (bk_new_0 ix) from (bk_af (c := fun _ => bk_nk) rfl))) (bk_ao (c := fun _ => bk_nk) (show bk_al _ (bk_new_1 ix) from (bk_af (c := fun _ => bk_nk) rfl)))) (bk_ae (bk_ao (c := fun _ => bk_nk) (show bk_al _ (bk_new_3 ix) from (bk_af (c := fun _ => bk_nk) rfl))) (bk_ao (c := fun _ => bk_nk) (show bk_al _ (bk_new_4 ix) from (bk_af (c := fun _ => bk_nk) rfl))))) (bk_ae (bk_ae (bk_ao (c := fun _ => bk_nk) (show bk_al _ (bk_new_9 ix) from (bk_ae (bk_af (c := fun _ => bk_nk) rfl) (bk_af (c := fun _ => bk_nk) rfl)))) (bk_ao (c := fun _ => bk_nk) (show bk_al _ (bk_new_10 ix) from (bk_ae (bk_ae (bk_ae (bk_af (c := fun _ => bk_nk) rfl) (bk_af (c := fun _ => bk_nk) rfl)) (bk_ae (bk_af (c := fun _ => bk_nk) rfl) (bk_ae (bk_af (c := fun _ => bk_nk) rfl) (bk_af (c := fun _ => bk_nk) rfl)))) (bk_ae (bk_ae (bk_af (c := fun _ => bk_nk) rfl) (bk_af (c := fun _ => bk_nk) rfl)) (bk_ae (bk_af (c := fun _ => bk_nk) rfl) (bk_ae (bk_af (c := fun _ => bk_nk) rfl) (bk_af (c := fun _ => bk_nk) rfl)))))))) (bk_ae (bk_ao (c := fun _ => bk_nk) (show bk_al _ (bk_new_13 ix) from (bk_ae (bk_af (c := fun _ => bk_nk) rfl) (bk_af (c := fun _ => bk_nk) rfl)))) (bk_ao (c := fun _ => bk_nk) (show bk_al _ (bk_new_14 ix) from (bk_ae (bk_af (c := fun _ => bk_nk) rfl) (bk_af (c := fun _ => bk_nk) rfl)))))))
theorem bk_noKind {own ix ci pos : Nat} (h : bk_new own ix = some (.inl ci, pos)) {C : String} {T : u_T} (hc : bk_cls[ci]? = some (C, T, 0)) : False := by
  have h1 := bk_noK own ix _ h
  rcases ci with _ | _ | _ | _ | _ | _ | _ | _ | _ | _ | _ | _ | _ | _ | ci
  · exact nomatch (show some 7 = some 0 from congrArg (Option.map (fun q : vw_C => q.2.2)) hc)
  · exact nomatch (show some 4 = some 0 from congrArg (Option.map (fun q : vw_C => q.2.2)) hc)
  · exact Bool.noConfusion (show false = true from h1)
  · exact nomatch (show some 5 = some 0 from congrArg (Option.map (fun q : vw_C => q.2.2)) hc)
  · exact nomatch (show some 13 = some 0 from congrArg (Option.map (fun q : vw_C => q.2.2)) hc)
  · exact nomatch (show some 2 = some 0 from congrArg (Option.map (fun q : vw_C => q.2.2)) hc)
  · exact nomatch (show some 4 = some 0 from congrArg (Option.map (fun q : vw_C => q.2.2)) hc)
  · exact nomatch (show some 4 = some 0 from congrArg (Option.map (fun q : vw_C => q.2.2)) hc)
  · exact nomatch (show some 2 = some 0 from congrArg (Option.map (fun q : vw_C => q.2.2)) hc)
  · exact nomatch (show some 6 = some 0 from congrArg (Option.map (fun q : vw_C => q.2.2)) hc)
  · exact nomatch (show some 11 = some 0 from congrArg (Option.map (fun q : vw_C => q.2.2)) hc)
  · exact nomatch (show some 22 = some 0 from congrArg (Option.map (fun q : vw_C => q.2.2)) hc)
  · exact nomatch (show some 23 = some 0 from congrArg (Option.map (fun q : vw_C => q.2.2)) hc)
  · exact nomatch (show some 15 = some 0 from congrArg (Option.map (fun q : vw_C => q.2.2)) hc)
  · exact nomatch (show none = some _ from hc)
/-- the objects (a throw's own new is elsewhere) -/
theorem bk_a_newO {ix ci pos nx : Nat} {sw : List (Int32 × Nat)} {k : Int32} {pc : Nat} {L : bk_L} {st : List Value} {h : bk_H} {n : Nat} {cs : Nat × Nat} (K : bk_Cx p l e R s m args below meth c Z V N0 H00 D τ B j) (hi : bk_ins j pc = some (.new ix, nx, sw, k)) (hn : bk_new (bk_own j) ix = some (.inl ci, pos))
    (h1 : cs.1 + 1 ≤ B.1 ∧ cs.2 + (bk_blank ci).length ≤ B.2 ∧ bk_Wp p l e R s m args below meth c Z V N0 H00 D τ B (bk_max j) nx L (.ref n :: st) (bk_up h n (.inr (ci, bk_blank ci))) (n + 1) (cs.1 + 1, cs.2 + (bk_blank ci).length)) : bk_Wp p l e R s m args below meth c Z V N0 H00 D τ B (bk_max j) pc L st h n cs := by
  intro H ls locs hL hl hR hlo c1 c2
  obtain ⟨hx, hb, hml, hown, hts, hB, hr1, hr2, -⟩ := K
  have ok := (bk_okI hi).1
  obtain ⟨d, rfl⟩ := bk_dk_sp (show bk_dk (bk_cc j) pc (.new ix) 3 nx = true from ok)
  obtain ⟨g3, g4, h1⟩ := h1
  have hcn := bk_new_ok _ _ _ hn
  obtain ⟨q1, q2⟩ := Bool.and_eq_true_iff.mp (show (bk_pos pos (.classLink (bk_rn (bk_own j)) ix (bk_rn ci)) && decide (ci < 14)) = true from hcn)
  have hlt := of_decide_eq_true q2
  obtain ⟨⟨C', T, N⟩, hc⟩ : ∃ q, bk_cls[ci]? = some q := ⟨_, List.getElem?_eq_getElem (show ci < bk_cls.length from hlt)⟩
  obtain ⟨hin, hz⟩ := bk_lc_ok hc
  obtain ⟨hty, hnm, hbl, hdf, hnmC⟩ := bk_cls_ty ci _ hc
  have hC : C' = bk_rn ci := hnmC
  subst hC
  have hN0 : N ≠ 0 := by
    rintro rfl
    exact bk_noKind hn hc
  obtain ⟨w1, w2⟩ := hz.resolve_left hN0
  have hbl : (bk_blank ci).length = N := hbl
  rw [hbl] at g4 h1
  have hKn := hB.1.1 ci _ hc
  refine W.newcK hx hb hown (hts _ (bk_inG q1)) (hts _ w1) (hts _ w2) rfl d (by omega) (by omega) hKn.2.1 hR.1 fun H1 kC hkC e1 z o => ?_
  refine h1 H1 ls locs hL hl (hR.new z o ?_) hlo g3 g4
  exact ⟨_, hc, (u_born (bk_fty ci) hts hin hKn hkC e1 hty).to hdf⟩
end BKN
