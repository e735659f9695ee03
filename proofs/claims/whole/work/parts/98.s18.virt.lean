/-! ONE STEP AT THE MACHINE: virtual calls, a wrapper's catch, a throw. -/
section BKJ
variable {p : Program} {l : Launch} {e : Env} {R : Room} {s : State} {m : MethodId} {args : Array Value} {below : List Frame} {meth : Method} {c : Code} {Z : State → Prop} {V : bk_V} {N0 : Nat} {H00 : Heap} {D : va_G} {τ : Nat → ClassId} {C : bk_P} {j : Nat} {B : Nat × Nat} {Q : bk_R → bk_H → Nat → Prop}
/-- what is asked of the three String methods at a literal -/
def bk_SO (p : Program) (l : Launch) (e : Env) (R : Room) (s : State) (m : MethodId) (args : Array Value) (below : List Frame) (meth : Method) (c : Code) (Z : State → Prop) (V : bk_V) (N0 : Nat) (H00 : Heap) (D : va_G) (τ : Nat → ClassId) (_ : Nat × Nat) (j : Nat) : Prop :=
  ∀ (ix pc q1 q2 kk : Nat) (H : Heap) (ls : Array Slot) (locs : List Loc) (cells slots : Nat) (h : bk_H) (n : Nat) (r : List Value), decode (bk_cc j) pc = .ok (.invokevirtual ix, 3) → kk < bk_nS → ls.size = bk_max j → bk_Rl N0 H00 D τ h n H → (∀ z ∈ locs, N0 ≤ z.base) → cells ≤ R.cells → slots ≤ R.slots → r.length ≤ 4 →
    (bk_cal (bk_own j) ix = some (6, q1, q2) → W p l e R s m args below meth c H locs cells slots Z (F0 m (pc + 3) ls (.int (Int32.ofNat (bk_sB kk).length) :: r)) → W p l e R s m args below meth c H locs cells slots Z (F0 m pc ls (.ref (V.2.2.2.2 kk) :: r))) ∧
    (∀ i : Int32, bk_cal (bk_own j) ix = some (7, q1, q2) → vp_in i (bk_sB kk).length → W p l e R s m args below meth c H locs cells slots Z (F0 m (pc + 3) ls (.int ((bk_sB kk).getD i.toNatClampNeg 0) :: r)) → W p l e R s m args below meth c H locs cells slots Z (F0 m pc ls (.int i :: .ref (V.2.2.2.2 kk) :: r))) ∧
    (∀ ch : Int32, bk_cal (bk_own j) ix = some (8, q1, q2) → W p l e R s m args below meth c H locs cells slots Z (F0 m (pc + 3) ls (.int (bk_ix (bk_sB kk) ch 0) :: r)) → W p l e R s m args below meth c H locs cells slots Z (F0 m pc ls (.int ch :: .ref (V.2.2.2.2 kk) :: r)))
theorem bk_lawN : bk_rn 14 = "BarkMakersLaw" := rfl
/-- where a caught exception goes on -/
theorem bk_hand {pc : Nat} {L : bk_L} {n' : Nat} {h' : bk_H} {ls : Array Slot} {H1 : Heap} {locs1 : List Loc} {t : Nat × Nat × Nat} {q : Addr} {cs' : Nat × Nat} (K : bk_Cx p l e R s m args below meth c Z V N0 H00 D τ B j) (hL : bk_LR ls L) (hl : L.length = bk_max j) (ht : bk_hi j t = true) (hR : bk_Rl N0 H00 D τ h' n' H1) (hlo : ∀ z ∈ locs1, N0 ≤ z.base) (c1 : cs'.1 ≤ B.1) (c2 : cs'.2 ≤ B.2) (hlt : t.2.2 < L.length)
    (h1 : bk_Wp p l e R s m args below meth c Z V N0 H00 D τ B (bk_max j) t.2.1 ((bk_st L t.2.2 .null).set t.2.2 none) [] h' n' cs') : W p l e R s m args below meth c H1 locs1 cs'.1 cs'.2 Z (F0 m t.1 ls [.ref q]) := by
  have hx := K.1
  have hb := K.2.1
  have hlen : ((bk_st L t.2.2 .null).set t.2.2 none).length = bk_max j := by rw [List.length_set, bk_st_len]; exact hl
  unfold bk_hi at ht
  split at ht
  · rename_i i nx _ hi
    obtain ⟨g1, g2⟩ := Bool.and_eq_true_iff.mp ht
    have g1 := Nat.eq_of_beq_eq_true g1
    have g2 := Nat.eq_of_beq_eq_true g2
    obtain ⟨d, d2⟩ := bk_dk_sp (show bk_dk (bk_cc j) t.1 (.astore_n i) 1 nx = true from (bk_okI hi).1)
    refine lv_astore_n hx hb d g2 hL.has hlt rfl fun ls2 h2 => ?_
    have := h1 H1 ls2 locs1 (bk_LR.drop (v := .ref q) (bk_LR.st h2)) hlen hR hlo c1 c2
    rw [← g1, d2] at this
    exact this
  · rename_i i nx _ hi
    obtain ⟨g1, g2⟩ := Bool.and_eq_true_iff.mp ht
    have g1 := Nat.eq_of_beq_eq_true g1
    have g2 := Nat.eq_of_beq_eq_true g2
    subst g2
    obtain ⟨d, d2⟩ := bk_dk_sp (show bk_dk (bk_cc j) t.1 (.astore t.2.2) 2 nx = true from (bk_okI hi).1)
    refine lv_astore hx hb d hL.has hlt rfl fun ls2 h2 => ?_
    have := h1 H1 ls2 locs1 (bk_LR.drop (v := .ref q) (bk_LR.st h2)) hlen hR hlo c1 c2
    rw [← g1, d2] at this
    exact this
  · cases ht
theorem bk_hasG {w : Cond} (h : bk_has w = true) (g : goodWord w = true) : w ∈ lw_G := List.mem_filter.mpr ⟨bk_has_in h, g⟩
theorem bk_hq_sp {pc : Nat} {E : String} {q : Nat × Nat × Nat × Nat} {t : Nat × Nat × Nat} (h : bk_hq pc E q t = true) : covers ⟨q.1, q.2.1, q.2.2.1, q.2.2.2⟩ pc = true ∧ q.2.2.2 ≠ 0 ∧ q.2.2.1 = t.1 ∧ Cond.classLink "BarkMakersLaw" q.2.2.2 E ∈ lw_G ∧ Cond.castable E E ∈ lw_tbl := by
  obtain ⟨h, h5⟩ := Bool.and_eq_true_iff.mp h
  obtain ⟨h, h4⟩ := Bool.and_eq_true_iff.mp h
  obtain ⟨h, h3⟩ := Bool.and_eq_true_iff.mp h
  obtain ⟨h1, h2⟩ := Bool.and_eq_true_iff.mp h
  refine ⟨h1, fun z => ?_, Nat.eq_of_beq_eq_true h3, bk_hasG h4 rfl, bk_has_in h5⟩
  rw [z] at h2
  exact nomatch h2
theorem bk_hn_sp {E : String} {q : Nat × Nat × Nat × Nat} (hB : bk_Bs V N0 H00 D τ s) (h : bk_hn E q = true) : q.2.2.2 ≠ 0 ∧ ∃ nm : String, Cond.classLink "BarkMakersLaw" q.2.2.2 nm ∈ lw_G ∧ va_Nc E nm s := by
  obtain ⟨h1, h2⟩ := Bool.and_eq_true_iff.mp h
  refine ⟨fun z => ?_, ?_⟩
  · rw [z] at h1
    exact nomatch h1
  · rcases Bool.or_eq_true_iff.mp h2 with h2 | h2
    · obtain ⟨h3, h4⟩ := Bool.and_eq_true_iff.mp h2
      refine ⟨_, bk_hasG h4 rfl, ?_⟩
      rw [of_decide_eq_true h3]
      exact hB.nc.2
    · obtain ⟨h3, h4⟩ := Bool.and_eq_true_iff.mp h2
      refine ⟨_, bk_hasG h4 rfl, ?_⟩
      rw [of_decide_eq_true h3]
      exact hB.nc.1
theorem bk_caught {pc : Nat} {L : bk_L} {n' : Nat} {h' : bk_H} {ls : Array Slot} {H1 : Heap} {locs1 : List Loc} {t : Nat × Nat × Nat} {q : Addr} {ce : Cell} {cs' : Nat × Nat} {E : String} {rest : List Value} (K : bk_Cx p l e R s m args below meth c Z V N0 H00 D τ B j) (hTab : c.exceptionTable.toList = tableOf (bk_hh j)) (hL : bk_LR ls L) (hl : L.length = bk_max j) (ho : bk_own j = 14) (ht : bk_hi j t = true) (hpc : bk_hx j pc E t = true) (hR : bk_Rl N0 H00 D τ h' n' H1) (hlo : ∀ z ∈ locs1, N0 ≤ z.base) (c1 : cs'.1 ≤ B.1) (c2 : cs'.2 ≤ B.2) (hlt : t.2.2 < L.length)
    (hce : H1[q]? = some ce) (hcv : ce.vm = .none) (hcl : s.vm.findClass E = some ce.cls) (h1 : bk_Wp p l e R s m args below meth c Z V N0 H00 D τ B (bk_max j) t.2.1 ((bk_st L t.2.2 .null).set t.2.2 none) [] h' n' cs') : vx_W p l e R s m args below meth c H1 locs1 cs'.1 cs'.2 Z (F0 m pc ls rest) q := by
  have K0 := K
  obtain ⟨hx, hb, hml, hown, hts, hB, -⟩ := K0
  rw [ho, bk_lawN] at hown
  have hgo := bk_hand (pc := pc) (q := q) K hL hl ht hR hlo c1 c2 hlt h1
  have one : ∀ (pre suf : List (Nat × Nat × Nat × Nat)) (q1 : Nat × Nat × Nat × Nat), bk_hh j = pre ++ q1 :: suf → bk_hq pc E q1 t = true → (∀ z ∈ pre, bk_hn E z = true) → vx_W p l e R s m args below meth c H1 locs1 cs'.1 cs'.2 Z (F0 m pc ls rest) q := by
    intro pre suf q1 hh hq hn
    obtain ⟨k1, k2, k3, k4, k5⟩ := bk_hq_sp (t := t) hq
    have hTab := hTab
    rw [hh] at hTab
    refine vx_catch (own := "BarkMakersLaw") (name := E) hown (tableOf pre) ⟨q1.1, q1.2.1, q1.2.2.1, q1.2.2.2⟩ (tableOf suf) (by rw [hTab]; simp [tableOf]) (fun z hz => ?_) k1 k2 (hts _ k4) (va_Nw.use rfl (hB.cast k5)) hce hcv hcl ?_
    · obtain ⟨z0, hz0, rfl⟩ := List.mem_map.mp hz
      obtain ⟨g1, nm, g2, g3⟩ := bk_hn_sp hB (hn z0 hz0)
      exact Or.inr ⟨g1, nm, hts _ g2, g3⟩
    · show W p l e R s m args below meth c H1 locs1 cs'.1 cs'.2 Z (F0 m q1.2.2.1 ls [.ref q])
      rw [k3]
      exact hgo
  unfold bk_hx at hpc
  split at hpc
  · rename_i q1 hh
    exact one [] [] q1 hh hpc (fun z hz => nomatch hz)
  · rename_i q1 q2 hh
    rcases Bool.or_eq_true_iff.mp hpc with hpc | hpc
    · exact one [] [q2] q1 hh hpc (fun z hz => nomatch hz)
    · obtain ⟨g1, g2⟩ := Bool.and_eq_true_iff.mp hpc
      exact one [q1] [] q2 hh g1 (fun z hz => by rw [List.mem_singleton.mp hz]; exact g2)
  · cases hpc
theorem bk_a_virtual {ix f lo : Nat} (K : bk_Cx p l e R s m args below meth c Z V N0 H00 D τ B j) (Ct : bk_Ct l V N0 H00 D τ C f lo) (hfr : f + 1 ≤ R.frames) (hlo9 : 39 + lo ≤ R.locals) (hSO : bk_SO p l e R s m args below meth c Z V N0 H00 D τ B j) (hTab : c.exceptionTable.toList = tableOf (bk_hh j)) : bk_Ok p l e R s m args below meth c Z V N0 H00 D τ B C j Q (.invokevirtual ix) := by
  intro pc nx sw k0 L st h n cs hi h1 H ls locs hL hl hR hlo c1 c2
  have ok := (bk_okI hi).1
  have hv := @bk_vcV j pc ix nx
  have hi0 := hi
  simp only [bk_s1, hi] at h1
  obtain ⟨d, rfl⟩ := bk_dk_sp (show bk_dk (bk_cc j) pc (.invokevirtual ix) 3 nx = true from ok)
  have K0 := K
  obtain ⟨hx, hb, hml, hown, hts, hB, hr1, hr2, hs0, hf11, hl445, hlk, hini⟩ := K0
  have hsz : ls.size = bk_max j := hL.1.trans hl
  have S : CallFix p m c (bk_cc j) (bk_max j) s args lw_G (bk_rn (bk_own j)) := ⟨hx, hb, hml, hown, hts⟩
  split at h1
  · rename_i k pos hcal
    split at h1
    · rename_i b r hdr
      obtain ⟨⟨fs, ha⟩, h1⟩ := h1
      obtain ⟨hk, hvV⟩ := hv hi (Or.inl hcal)
      have hh := bk_hh_nil hk (Or.inr hvV)
      obtain ⟨hin, hse⟩ := Bool.and_eq_true_iff.mp hvV
      obtain ⟨hn, hst⟩ := bk_drop hdr
      refine bk_cl_go hL hl hlo c1 c2 (fun b9 Q' q1 q2 q3 q4 q5 => ?_) h1
      have hM := Ct k _ h n b9 Q' hk q1
      have hw8 : 2 * (F0 m pc ls st).monitorRoom + (r.map fun v => v.category).sum ≤ 8 := by
        show 2 * 0 + _ ≤ 8
        have := bk_cat8 q3
        omega
      have hroom : cs.1 + b9.1 ≤ R.cells ∧ cs.2 + b9.2 ≤ R.slots := ⟨by omega, by omega⟩
      have hC := (bk_pw_sp hk).2.2.1
      have hpv := bk_pV (As := (st.take (bk_np k)).reverse) hB hR ha
      rw [← hC] at hpv
      rcases bk_lk hcal with hl9 | hl9
      · exact va_runV S (bk_met hM (bk_xno q2)) ⟨bk_cb hk hh hts hfr hlo9 hl9, hts _ (bk_inG hin), hts _ (bk_inG hse)⟩ hpv rfl hn hsz hst hw8 d hroom
      · exact va_runVN S (bk_met hM (bk_xno q2)) ⟨bk_cn hk hh hts hfr hlo9 (hB.nestM hl9), hts _ (bk_inG hin), hts _ (bk_inG hse)⟩ hpv rfl hn hsz hst hw8 d hroom
    · exact h1.elim
  · rename_i k pos hcal
    split at h1
    · rename_i b r hdr
      obtain ⟨⟨fs, ha⟩, h1⟩ := h1
      obtain ⟨hr4, h1⟩ := bk_gd_el h1
      have hr4 : r.length ≤ 4 := Nat.le_of_ble_eq_true hr4
      obtain ⟨b9, g3, g4, h1⟩ := h1
      obtain ⟨hk, hvV⟩ := hv hi (Or.inr hcal)
      have hh := bk_hh_nil hk (Or.inr hvV)
      obtain ⟨hin, hse⟩ := Bool.and_eq_true_iff.mp hvV
      obtain ⟨hn, hst⟩ := bk_drop hdr
      have hM := Ct k _ h n b9 _ hk h1
      have hw8 : 2 * (F0 m pc ls st).monitorRoom + (r.map fun v => v.category).sum ≤ 8 := by
        show 2 * 0 + _ ≤ 8
        have := bk_cat8 hr4
        omega
      have hroom : cs.1 + b9.1 ≤ R.cells ∧ cs.2 + b9.2 ≤ R.slots := ⟨by omega, by omega⟩
      have hC := (bk_pw_sp hk).2.2.1
      have hpv := bk_pV (As := (st.take (bk_np k)).reverse) hB hR ha
      rw [← hC] at hpv
      have hl9 : Cond.methodLink (bk_rn (bk_own j)) ix (bk_y k) ∈ lw_G := bk_inG (bk_cal_ok _ _ _ hcal)
      refine bk_backX (vx_runV S hM ⟨bk_cb hk hh hts hfr hlo9 hl9, hts _ (bk_inG hin), hts _ (bk_inG hse)⟩ hpv rfl hn hsz hst hw8 d hroom) hlo (fun v h' n' H1 locs1 q1 q2 q3 => q1 H1 ls locs1 hL hl q2 q3 g3 g4) (fun E h' n' H1 locs1 q ce q1 q2 q3 hce hcv hcl => ?_)
      dsimp only at q1
      split at q1
      · rename_i t ht
        obtain ⟨hlt, q1⟩ := bk_gd_el q1
        have hchk : bk_hchk E j t = true := bk_hdl_ok j E t ht
        obtain ⟨hck, hall⟩ := Bool.and_eq_true_iff.mp hchk
        obtain ⟨hck1, hck2⟩ := Bool.and_eq_true_iff.mp hck
        have hpx := List.all_eq_true.mp hall pc (List.mem_range.mpr ((bk_rI j).1 pc _ hi0))
        unfold bk_hp at hpx
        rw [hi0] at hpx
        try dsimp only at hpx
        rw [hcal] at hpx
        try dsimp only at hpx
        exact bk_caught K hTab hL hl (Nat.eq_of_beq_eq_true hck2) hck1 hpx q2 q3 g3 g4 (bk_blt hlt) hce hcv hcl q1
      · exact q1.elim
    · exact h1.elim
  · rename_i _ _ hcal
    split at h1
    · rename_i a r
      obtain ⟨g, h1⟩ := bk_gd_el h1
      obtain ⟨kk, g1, g0, h9⟩ := h1
      subst g0
      exact (hSO ix pc _ _ kk H ls locs cs.1 cs.2 h n r d g1 hsz hR hlo (by omega) (by omega) (Nat.le_of_ble_eq_true g)).1 hcal (h9 H ls locs hL hl hR hlo c1 c2)
    · exact h1.elim
  · rename_i _ _ hcal
    split at h1
    · rename_i i a r
      obtain ⟨g, h1⟩ := bk_gd_el h1
      obtain ⟨kk, g1, g0, g2, h9⟩ := h1
      subst g0
      exact (hSO ix pc _ _ kk H ls locs cs.1 cs.2 h n r d g1 hsz hR hlo (by omega) (by omega) (Nat.le_of_ble_eq_true g)).2.1 i hcal g2 (h9 H ls locs hL hl hR hlo c1 c2)
    · exact h1.elim
  · rename_i _ _ hcal
    split at h1
    · rename_i i a r
      obtain ⟨g, h1⟩ := bk_gd_el h1
      obtain ⟨kk, g1, g0, h9⟩ := h1
      subst g0
      exact (hSO ix pc _ _ kk H ls locs cs.1 cs.2 h n r d g1 hsz hR hlo (by omega) (by omega) (Nat.le_of_ble_eq_true g)).2.2 i hcal (h9 H ls locs hL hl hR hlo c1 c2)
    · exact h1.elim
  · exact h1.elim
end BKJ
