/-! indexOf at a literal; the three methods where a walk calls them. -/
section BKT
variable {l : Launch} {V : bk_V} {N0 : Nat} {H00 : Heap} {D : va_G} {τ : Nat → ClassId}
theorem bk_m_lio {q : Nat} {bs : List Int32} {ch : Int32} (hn : bs.length < 2000) :
    bk_SM l V N0 H00 D τ (fun U => va_T .byte q bs.length (fun j => .int (bs.getD j 0)) (fun q => N0 ≤ q) U H00) yJ1_indexOf_4cfef cJ1_indexOf_4cfef 4 (some .int) 2 150 [.ref q, .int ch, .int 0, .int (nI bs.length)] (some (.int (if ¬ ch < 0 ∧ ¬ 255 < ch then bk_fnd ch.toInt8.toInt32 bs 0 else -1))) := by
  refine bk_SMof rfl (Nat.le_of_ble_eq_true rfl) fun p e s m below meth c ls K hL => ?_
  have hx := K.1
  have hb := K.2.1
  have hown := K.2.2.2.1
  have hts := K.2.2.2.2.1
  have hH := K.2.2.2.2.2.1.2.1
  have z0 := K.2.2.2.2.2.1.1.zq.1
  have hT0 := K.2.2.2.2.2.1.2.2
  have hT := hT0.kept (H1 := s.heap) fun a ha _ => hH.2 a (by rw [z0] at ha; exact ha)
  refine lv_iload_n hx hb bk_jd_lio_0 rfl (lv_at hL 1 rfl) ?_
  refine bk_Sst (As' := [.int ch]) (rest := []) (n := 1) K (bk_m_can (ch := ch)) bk_XT trivial bk_jc_can bk_jnL bk_jl_88 bk_jt_can (by decide +kernel) rfl (by decide) (by decide) hL.1 (Nat.le_of_ble_eq_true rfl) bk_jd_lio_1 ?_
  by_cases hc : ¬ ch < 0 ∧ ¬ 255 < ch
  · rw [if_pos hc, if_pos hc]
    refine lv_if_ne hx hb bk_jd_lio_4 (tgt := 9) rfl (fun _ => ?_) (fun h => absurd h (by decide))
    refine lv_iload_n hx hb bk_jd_lio_9 rfl (lv_at hL 2 rfl) ?_
    refine lv_iconst hx hb bk_jd_lio_10 rfl ?_
    refine va_mmax hx hb (K.2.2.1.trans hL.1.symm) hown (hts _ bk_jl_92) (hts _ bk_wMxs) (hts _ bk_wMi) (hts _ bk_wMxc) (by decide) (by decide) (by decide) (by decide) bk_jd_lio_11 ?_
    refine lv_istore_n hx hb bk_jd_lio_14 rfl hL (by decide) rfl fun ls1 hL1 => ?_
    have hL1 : lv_has ls1 4 [(2, .int 0), (0, .ref q), (1, .int ch), (3, .int (nI bs.length))] := lv_sub hL1 [0, 1, 2, 3] rfl
    refine lv_iload_n hx hb bk_jd_lio_15 rfl (lv_at hL1 3 rfl) ?_
    refine lv_aload_n hx hb bk_jd_lio_16 rfl (lv_at hL1 1 rfl) ?_
    refine va_tlen hx hb hT va_S.rf rfl bk_jd_lio_17 ?_
    refine va_mmin hx hb (K.2.2.1.trans hL1.1.symm) hown (hts _ bk_jl_38) (hts _ bk_wMns) (hts _ bk_wMi) (hts _ bk_wMnc) (by decide) (by decide) (by decide) (by decide) bk_jd_lio_18 ?_
    rw [if_neg (show ¬ Int32.ofNat bs.length < nI bs.length from fun z => Int32.lt_irrefl z)]
    refine lv_istore_n hx hb bk_jd_lio_21 rfl hL1 (by decide) rfl fun ls2 hL2 => ?_
    have hL2 : lv_has ls2 4 [(3, .int (nI bs.length)), (2, .int 0), (0, .ref q), (1, .int ch)] := lv_sub hL2 [0, 1, 2, 3] rfl
    refine lv_iload_n hx hb bk_jd_lio_22 rfl (lv_at hL2 1 rfl) ?_
    refine lv_iload_n hx hb bk_jd_lio_23 rfl (lv_at hL2 0 rfl) ?_
    refine lv_icmp_lt hx hb bk_jd_lio_24 (tgt := 29) rfl (fun _ => ?_) (fun h => ?_)
    · refine lv_aload_n hx hb bk_jd_lio_29 rfl (lv_at hL2 2 rfl) ?_
      refine lv_iload_n hx hb bk_jd_lio_30 rfl (lv_at hL2 3 rfl) ?_
      refine lv_iload_n hx hb bk_jd_lio_31 rfl (lv_at hL2 1 rfl) ?_
      refine lv_iload_n hx hb bk_jd_lio_32 rfl (lv_at hL2 0 rfl) ?_
      refine bk_Sst (As' := [.ref q, .int ch, .int 0, .int (nI bs.length)]) (rest := []) (n := 4) K (bk_m_ich hn) bk_Xv hT0 bk_jc_ich bk_jnL bk_jl_95 bk_jt_ich (by decide +kernel) rfl (by decide) (by decide) hL2.1 (Nat.le_of_ble_eq_true rfl) bk_jd_lio_33 ?_
      exact bk_Sret K rfl bk_jd_lio_36
    · have h0 : bs = [] := by
        cases bs with
        | nil => rfl
        | cons b r => exact absurd (show (nI 0 : Int32) < nI (b :: r).length from nI_lt (by simp) (by omega)) h
      subst h0
      refine lv_iconst hx hb bk_jd_lio_27 rfl ?_
      exact bk_Sret K rfl bk_jd_lio_28
  · rw [if_neg hc, if_neg hc]
    refine lv_if_ne hx hb bk_jd_lio_4 (tgt := 9) rfl (fun h => absurd rfl h) (fun _ => ?_)
    refine lv_iconst hx hb bk_jd_lio_7 rfl ?_
    exact bk_Sret K rfl bk_jd_lio_8
theorem bk_fnd_ix {ch : Int32} : ∀ (bs : List Int32) (k : Nat), (∀ b ∈ bs, 0 ≤ b ∧ b < 128) → (if ¬ ch < 0 ∧ ¬ 255 < ch then bk_fnd ch.toInt8.toInt32 bs k else -1) = bk_ix bs ch k := by
  intro bs
  induction bs with
  | nil =>
    intro k _
    unfold bk_fnd bk_ix
    split <;> rfl
  | cons b r ih =>
    intro k hb
    obtain ⟨h1, h2⟩ := hb b List.mem_cons_self
    have g1 := Int32.le_iff_toInt_le.mp h1
    have g2 := Int32.lt_iff_toInt_lt.mp h2
    rw [show (0 : Int32).toInt = 0 from rfl] at g1
    rw [show (128 : Int32).toInt = 128 from rfl] at g2
    have ih := ih (k + 1) (fun b hb9 => hb b (List.mem_cons_of_mem _ hb9))
    unfold bk_fnd bk_ix
    by_cases hc : ¬ ch < 0 ∧ ¬ 255 < ch
    · rw [if_pos hc] at ih ⊢
      have c1 := Int32.le_iff_toInt_le.mp (Int32.not_lt.mp hc.1)
      have c2 := Int32.le_iff_toInt_le.mp (Int32.not_lt.mp hc.2)
      rw [show (0 : Int32).toInt = 0 from rfl] at c1
      rw [show (255 : Int32).toInt = 255 from rfl] at c2
      have hiff : b = ch.toInt8.toInt32 ↔ b = ch := by
        rw [← Int32.toInt_inj, ← Int32.toInt_inj, Int8.toInt_toInt32, Int32.toInt_toInt8, Int.bmod_def]
        split <;> omega
      by_cases hbc : b = ch
      · rw [if_pos (hiff.mpr hbc), if_pos hbc]
        rfl
      · rw [if_neg (fun z => hbc (hiff.mp z)), if_neg hbc]
        exact ih
    · rw [if_neg hc] at ih ⊢
      have hbc : ¬ b = ch := by
        rintro rfl
        refine hc ⟨Int32.not_lt.mpr h1, fun z => ?_⟩
        have := Int32.lt_iff_toInt_lt.mp z
        rw [show (255 : Int32).toInt = 255 from rfl] at this
        omega
      rw [if_neg hbc]
      exact ih
theorem bk_m_io2 {k : Nat} (hk : k < bk_nS) {ch : Int32} : bk_SM l V N0 H00 D τ (fun _ => True) yJ0_indexOf_7cf53 cJ0_indexOf_7cf53 3 (some .int) 3 250 [.ref (V.2.2.2.2 k), .int ch, .int 0] (some (.int (bk_ix (bk_sB k) ch 0))) := by
  obtain ⟨b1, b2⟩ := bk_bytesOf hk
  refine bk_SMof rfl (Nat.le_of_ble_eq_true rfl) fun p e s m below meth c ls K hL => ?_
  have s00 := K.2.2.2.2.2.1.1.str.2.2 k hk
  have s0 := s00
  obtain ⟨q, t1, t2, t3, t4⟩ := s0
  have hx := K.1
  have hb := K.2.1
  have hown := K.2.2.2.1
  have hts := K.2.2.2.2.1
  have hH := K.2.2.2.2.2.1.2.1
  have z0 := K.2.2.2.2.2.1.1.zq.1
  have s3 := t3.kept (H1 := s.heap) fun a ha _ => hH.2 a (by rw [z0] at ha; exact ha)
  refine lv_aload_n hx hb bk_jd_io2_0 rfl (lv_at hL 0 rfl) ?_
  refine bk_Svt (As' := []) (n := 0) hx hb K.2.2.1 hown hts K.2.2.2.2.2.1.1 K.2.2.2.2.2.1.2.1 (bk_m_isl hk) bk_XT trivial s00 bk_jc_isl bk_jnS bk_jl_492 bk_ji_isl bk_js_isl (by decide +kernel) rfl (by decide) (by decide) hL.1 (Nat.le_of_ble_eq_true rfl) (Nat.le_refl _) (Nat.le_refl _) bk_jd_io2_1 ?_
  refine lv_if_eq hx hb bk_jd_io2_4 (tgt := 23) rfl (fun h => absurd h (by decide)) fun _ => ?_
  refine lv_aload_n hx hb bk_jd_io2_7 rfl (lv_at hL 0 rfl) ?_
  refine vk_getf hx hb s3 va_S.rf hown (hts _ bk_jfV) (fun x h => h) bk_jd_io2_8 ?_
  refine lv_iload_n hx hb bk_jd_io2_11 rfl (lv_at hL 1 rfl) ?_
  refine lv_iload_n hx hb bk_jd_io2_12 rfl (lv_at hL 2 rfl) ?_
  refine lv_aload_n hx hb bk_jd_io2_13 rfl (lv_at hL 0 rfl) ?_
  refine bk_Svt (As' := []) (n := 0) hx hb K.2.2.1 hown hts K.2.2.2.2.2.1.1 K.2.2.2.2.2.1.2.1 (bk_m_length hk) bk_XT trivial s00 bk_jc_length bk_jnS bk_jl_505 bk_ji_length bk_js_length (by decide +kernel) rfl (by decide) (by decide) hL.1 (Nat.le_of_ble_eq_true rfl) (Nat.le_refl _) (Nat.le_refl _) bk_jd_io2_14 ?_
  refine bk_Sst (As' := [.ref q, .int ch, .int 0, .int (nI (bk_sB k).length)]) (rest := []) (n := 4) K (bk_m_lio b1) bk_Xv t4 bk_jc_lio bk_jnL bk_jl_637 bk_jt_lio (by decide +kernel) rfl (by decide) (by decide) hL.1 (Nat.le_of_ble_eq_true rfl) bk_jd_io2_17 ?_
  rw [bk_fnd_ix _ _ (fun b hb9 => (b2 b hb9).2)]
  refine lv_goto hx hb bk_jd_io2_20 (tgt := 36) rfl ?_
  exact bk_Sret K rfl bk_jd_io2_36
theorem bk_m_io {k : Nat} (hk : k < bk_nS) {ch : Int32} : bk_SM l V N0 H00 D τ (fun _ => True) yJ0_indexOf_0f7a4 cJ0_indexOf_0f7a4 2 (some .int) 4 350 [.ref (V.2.2.2.2 k), .int ch] (some (.int (bk_ix (bk_sB k) ch 0))) := by
  refine bk_SMof rfl (Nat.le_of_ble_eq_true rfl) fun p e s m below meth c ls K hL => ?_
  have s00 := K.2.2.2.2.2.1.1.str.2.2 k hk
  have hx := K.1
  have hb := K.2.1
  have hown := K.2.2.2.1
  have hts := K.2.2.2.2.1
  refine lv_aload_n hx hb bk_jd_io_0 rfl (lv_at hL 0 rfl) ?_
  refine lv_iload_n hx hb bk_jd_io_1 rfl (lv_at hL 1 rfl) ?_
  refine lv_iconst hx hb bk_jd_io_2 rfl ?_
  refine bk_Svt (As' := [.int ch, .int 0]) (rest := []) (n := 2) hx hb K.2.2.1 hown hts K.2.2.2.2.2.1.1 K.2.2.2.2.2.1.2.1 (bk_m_io2 hk (ch := ch)) bk_XT trivial s00 bk_jc_io2 bk_jnS bk_jl_633 bk_ji_io2 bk_js_io2 (by decide +kernel) rfl (by decide) (by decide) hL.1 (Nat.le_of_ble_eq_true rfl) (Nat.le_refl _) (Nat.le_refl _) bk_jd_io_3 ?_
  exact bk_Sret K rfl bk_jd_io_6
theorem bk_SOall : bk_SOA l V N0 H00 D τ := by
  intro p e R s m args below meth c Z B j K ix pc q1 q2 kk H ls locs cells slots h n r hd hk hsz hR hlo hc1 hc2 hr4
  obtain ⟨hx, hb, hml, hown, hts, hB, hr1, hr2, hs0, hf11, hl445, hlk, hini⟩ := K
  have hH : N0 ≤ H.size ∧ ∀ q : Nat, q < N0 → H[q]? = H00[q]? := ⟨by rw [hR.1]; exact hR.2.1, hR.2.2.1⟩
  have s00 := hB.str.2.2 kk hk
  refine ⟨fun hcal kk9 => ?_, fun i hcal hi kk9 => ?_, fun ch hcal kk9 => ?_⟩
  · exact bk_Svt (As' := []) (n := 0) hx hb hml hown hts hB hH (bk_m_length hk) bk_XT trivial s00 bk_jc_length bk_jnS (bk_inG (bk_cal_ok _ _ _ hcal)) bk_ji_length bk_js_length (by decide +kernel) rfl (by omega) (by omega) hsz hr4 hc1 hc2 hd kk9
  · exact bk_Svt (As' := [.int i]) (n := 1) hx hb hml hown hts hB hH (bk_m_charAt hk hi) bk_XT trivial s00 bk_jc_charAt bk_jnS (bk_inG (bk_cal_ok _ _ _ hcal)) bk_ji_charAt bk_js_charAt (by decide +kernel) rfl (by omega) (by omega) hsz hr4 hc1 hc2 hd kk9
  · exact bk_Svt (As' := [.int ch]) (n := 1) hx hb hml hown hts hB hH (bk_m_io hk (ch := ch)) bk_XT trivial s00 bk_jc_io bk_jnS (bk_inG (bk_cal_ok _ _ _ hcal)) bk_ji_io bk_js_io (by decide +kernel) rfl (by omega) (by omega) hsz hr4 hc1 hc2 hd kk9
end BKT
