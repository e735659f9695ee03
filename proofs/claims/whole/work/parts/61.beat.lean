/-! THE REFERENCE: beating. Printed by wip/whole/mk61.py. -/
theorem RR_cast {S S' : bS} {I : rI} {A : rA} (h : RR S I A) (e : S = S') : RR S' I A := e ▸ h
theorem nI_z {k : Nat} (h : k < 2 ^ 31) (e : nI k = 0) : k = 0 := by
  have := congrArg Int32.toInt e
  rw [rx_nI h] at this
  exact Int.ofNat.inj this
theorem uA_us {A : rA} {k i : Nat} {v : Int32} : uA A k (upd (A k) i v) k i = v := by
  show (if k = k then upd (A k) i v else A k) i = v
  rw [if_pos rfl]
  exact if_pos rfl
/-- a mountain on whose board b lies that much pulp -/
def pk (b : Int32) (q : Int32 × bS) : bS := (q.2.1, uT q.2.2 0 (rS (q.2.2 0) b 2 q.1))
theorem SH_pk {P : Nat → bT} {b : Int32} {q : Int32 × bS} (h : SH P q.2) : SH P (pk b q) := SH_0 h rS_len (shT_rS h.2.1.1).2
theorem SH_sh {P : Nat → bT} {S : bS} {b th : Int32} (h : SH P S) (hl : (S.2 3).length < 30) : SH P (shF b th S) := SH_3 h (shT_app h.2.1.2.2.2.1 hl rfl)
theorem IV_sh {P : Nat → bT} {S : bS} {b th : Int32} (h : IV P S) : IV P (shF b th S) := IV_3 h (fun i hi => by
  rw [List.length_append] at hi
  by_cases e : i < (S.2 3).length
  · rw [tg_app e]
    exact h.2.2.1 i e
  · have e1 : i = (S.2 3).length := by
      have : i < (S.2 3).length + 1 := hi
      omega
    rw [e1, tg_new]
    exact ⟨4, by decide, rfl⟩)
section RB
variable {V : bk_V} {d n : Nat} {B : Nat × Nat} {Q : bk_R → bk_H → Nat → Prop} {h : bk_H} {r y u v : Nat} {P : Nat → bT} {S : bS} {I J K : rI} {A C : rA} {bs : bT} {cs : Nat × Nat}
theorem RW_i (hR : RO h r y I A) (hr : RR S I A) (hP : PO h u K C) (hY : YO h y J u v) (hp : RP P K C) (hs : SH P S) (hv : IV P S) (hd1 : u + 16 ≤ r ∨ r + 14 ≤ u) (hd2 : y < r ∨ r + 14 ≤ y) (hbs : ∀ k, k < bs.length → A 11 k = tg bs k 0) : RW h r y u v P S J K C bs := ⟨I, A, hR, hr, hP, hY, hp, hs, hv, hd1, hd2, hbs⟩
theorem upd_same {f : Nat → Int32} {i : Nat} {x : Int32} : upd f i x i = x := if_pos rfl
theorem rw_beatL {h0 : bk_H} {b : Nat} {m : Int32} (hb : b < (P 0).length) (hl5 : (P 0).length ≤ 5) : ∀ (c : Nat) {h : bk_H} (q : Int32 × bS), c = 30 - (q.2.2 3).length → RW h r y u v P (pk (nI b) q) J K C bs → SH P q.2 → fr h0 h r (r + 14) → (∀ h', RW h' r y u v P (pk (nI b) (mkL (nI b) (iMax 1 (rG (P 0) (nI b) 1 + 3 - nI (tC bs 0 (nI b)))) c q)) J K C bs → fr h0 h' r (r + 14) → Q (.inl none) h' n) → bk_g V (d + 2) 135 B Q 59 [some (.ref r), some (.int (nI b)), some (.int (nI (tC bs 0 (nI b)))), some (.int m)] [] h n cs := by
  intro c
  induction c with
  | zero =>
    intro h q hc hW hs2 hF hQ
    obtain ⟨I, A, hR, hr, hP, hY, hp, hs, hv, hd1, hd2, hbs⟩ := id hW
    have hb0 : b < ((pk (nI b) q).2 0).length := by rw [hs.2.2.1]; exact hb
    have hb1 : b < (q.2.2 0).length := by rw [hs2.2.2.1]; exact hb
    have hb31 : b < 2 ^ 31 := by omega
    have hw0 : ∀ z ∈ q.2.2 0, z.length = 3 := hs2.2.1.1.2
    have hl30 : (q.2.2 3).length ≤ 30 := hs2.2.1.2.2.2.1.1
    have hA2 : A 2 b = q.1 := by
      rw [(hr.2.1 b hb0).2.2]
      show tg (rS (q.2.2 0) (nI b) 2 q.1) b 2 = q.1
      rw [rS_nI hb31, tg_tS hw0 hb1 (by decide), if_pos ⟨rfl, rfl⟩]
    have hI6 : I 6 = nI (q.2.2 3).length := hr.1.2.1
    have hw1 : ∀ z ∈ (pk (nI b) q).2 0, z.length = 3 := hs.2.1.1.2
    refine bg_aload0 rfl ?_
    refine bg_getfield rfl rfl hR.1 (by rfl) ?_
    refine bg_iload1 rfl ?_
    refine bg_iaload_n rfl (sR3 hR) (by omega) (by omega) ?_
    refine bg_bipush rfl ?_
    refine bg_icmp_lt rfl (fun e67 => ?_) (fun e67 => ?_)
    · refine bg_ret rfl rfl ?_
      exact hQ h hW hF
    · refine bg_aload0 rfl ?_
      refine bg_getfield rfl rfl hR.1 (by rfl) ?_
      refine bg_bipush rfl ?_
      refine bg_icmp_ge rfl (fun e76 => ?_) (fun e76 => absurd e76 (by rw [hI6, show (q.2.2 3).length = 30 by omega]; decide))
      refine bg_ret rfl rfl ?_
      exact hQ h hW hF
  | succ c ih =>
    intro h q hc hW hs2 hF hQ
    obtain ⟨I, A, hR, hr, hP, hY, hp, hs, hv, hd1, hd2, hbs⟩ := id hW
    have hb0 : b < ((pk (nI b) q).2 0).length := by rw [hs.2.2.1]; exact hb
    have hb1 : b < (q.2.2 0).length := by rw [hs2.2.2.1]; exact hb
    have hb31 : b < 2 ^ 31 := by omega
    have hw0 : ∀ z ∈ q.2.2 0, z.length = 3 := hs2.2.1.1.2
    have hl30 : (q.2.2 3).length ≤ 30 := hs2.2.1.2.2.2.1.1
    have hA2 : A 2 b = q.1 := by
      rw [(hr.2.1 b hb0).2.2]
      show tg (rS (q.2.2 0) (nI b) 2 q.1) b 2 = q.1
      rw [rS_nI hb31, tg_tS hw0 hb1 (by decide), if_pos ⟨rfl, rfl⟩]
    have hI6 : I 6 = nI (q.2.2 3).length := hr.1.2.1
    have hw1 : ∀ z ∈ (pk (nI b) q).2 0, z.length = 3 := hs.2.1.1.2
    have hlt : (q.2.2 3).length < 30 := by omega
    have hI4 : I 4 = q.2.1 4 := hr.1.1 4 (by decide)
    have hC1 : C 1 b = tg (P 0) b 1 := (hp.2.1 b hb).2
    refine bg_aload0 rfl ?_
    refine bg_getfield rfl rfl hR.1 (by rfl) ?_
    refine bg_iload1 rfl ?_
    refine bg_iaload_n rfl (sR3 hR) (by omega) (by omega) ?_
    refine bg_bipush rfl ?_
    refine bg_icmp_lt rfl (fun e67 => ?_) (fun e67 => ?_)
    · rw [hA2] at e67
      rw [show mkL (nI b) (iMax 1 (rG (P 0) (nI b) 1 + 3 - nI (tC bs 0 (nI b)))) (c + 1) q = q from if_pos e67] at hQ
      refine bg_ret rfl rfl ?_
      exact hQ h hW hF
    · rw [hA2] at e67
      rw [show mkL (nI b) (iMax 1 (rG (P 0) (nI b) 1 + 3 - nI (tC bs 0 (nI b)))) (c + 1) q = mkL (nI b) (iMax 1 (rG (P 0) (nI b) 1 + 3 - nI (tC bs 0 (nI b)))) c (q.1 - 10, shF (nI b) (iMax 1 (rG (P 0) (nI b) 1 + 3 - nI (tC bs 0 (nI b)))) q.2) from if_neg e67] at hQ
      refine bg_aload0 rfl ?_
      refine bg_getfield rfl rfl hR.1 (by rfl) ?_
      refine bg_bipush rfl ?_
      refine bg_icmp_ge rfl (fun e76 => absurd (by rw [hI6]; exact nI_lt (b := 30) (by omega) (by decide)) e76) (fun e76 => ?_)
      refine bg_aload0 rfl ?_
      refine bg_getfield rfl rfl hR.1 (by rfl) ?_
      refine bg_iload1 rfl ?_
      refine bg_dup2 rfl rfl rfl ?_
      refine bg_iaload_n rfl (sR3 hR) (by omega) (by omega) ?_
      refine bg_bipush rfl ?_
      refine bg_isub rfl ?_
      refine bg_iastore_n rfl (sR3 hR) (by omega) (by omega) (fun h89 f89 g89 => ?_)
      obtain ⟨hR, hF1⟩ := RO.a2 hR f89 g89
      replace hP := hP.kp hF1 (by omega)
      replace hY : YO h89 y J u v := (hF1 y (by omega)).trans hY
      replace hF := hF.trans hF1
      replace hr := RRof hR (RR_t2 hr hw1 hb0)
      refine bg_aload0 rfl ?_
      refine bg_getfield rfl rfl hR.1 (by rfl) ?_
      refine bg_aload0 rfl ?_
      refine bg_getfield rfl rfl hR.1 (by rfl) ?_
      rw [hI6]
      refine bg_iload1 rfl ?_
      refine bg_iastore_n rfl (sR6 hR) (by omega) (by omega) (fun h99 f99 g99 => ?_)
      obtain ⟨hR, hF1⟩ := RO.a5 hR f99 g99
      replace hP := hP.kp hF1 (by omega)
      replace hY : YO h99 y J u v := (hF1 y (by omega)).trans hY
      replace hF := hF.trans hF1
      replace hr := RRof hR (RR_b5 (i0 := (q.2.2 3).length) hr (Nat.le_refl _))
      refine bg_aload0 rfl ?_
      refine bg_getfield rfl rfl hR.1 (by rfl) ?_
      refine bg_aload0 rfl ?_
      refine bg_getfield rfl rfl hR.1 (by rfl) ?_
      rw [hI6]
      refine bg_iconst rfl ?_
      refine bg_aload0 rfl ?_
      refine bg_getfield rfl rfl hR.1 (by rfl) ?_
      refine bg_getfield rfl rfl hY (by rfl) ?_
      refine bg_getfield rfl rfl hP.1 (by rfl) ?_
      refine bg_iload1 rfl ?_
      refine bg_iaload_n rfl (pR2 hP) (by omega) (by omega) ?_
      refine bg_iconst rfl ?_
      refine bg_iadd rfl ?_
      refine bg_iload2 rfl ?_
      refine bg_isub rfl ?_
      refine bg_max rfl rfl rfl ?_
      rw [hC1]
      rw [show (if 1 < tg (P 0) b 1 + 3 - nI (tC bs 0 (nI b)) then tg (P 0) b 1 + 3 - nI (tC bs 0 (nI b)) else 1) = (iMax 1 (rG (P 0) (nI b) 1 + 3 - nI (tC bs 0 (nI b)))) from by rw [rG_nI hb31]; rfl]
      refine bg_iastore_n rfl (sR7 hR) (by omega) (by omega) (fun h128 f128 g128 => ?_)
      obtain ⟨hR, hF1⟩ := RO.a6 hR f128 g128
      replace hP := hP.kp hF1 (by omega)
      replace hY : YO h128 y J u v := (hF1 y (by omega)).trans hY
      replace hF := hF.trans hF1
      replace hr := RRof hR (RR_b6 (i0 := (q.2.2 3).length) hr (Nat.le_refl _))
      refine bg_aload0 rfl ?_
      refine bg_getfield rfl rfl hR.1 (by rfl) ?_
      refine bg_aload0 rfl ?_
      refine bg_getfield rfl rfl hR.1 (by rfl) ?_
      rw [hI6]
      refine bg_iconst rfl ?_
      refine bg_iastore_n rfl (sR8 hR) (by omega) (by omega) (fun h138 f138 g138 => ?_)
      obtain ⟨hR, hF1⟩ := RO.a7 hR f138 g138
      replace hP := hP.kp hF1 (by omega)
      replace hY : YO h138 y J u v := (hF1 y (by omega)).trans hY
      replace hF := hF.trans hF1
      replace hr := RRof hR (RR_b7 (i0 := (q.2.2 3).length) hr (Nat.le_refl _))
      refine bg_aload0 rfl ?_
      refine bg_getfield rfl rfl hR.1 (by rfl) ?_
      refine bg_aload0 rfl ?_
      refine bg_getfield rfl rfl hR.1 (by rfl) ?_
      rw [hI6]
      refine bg_iconst rfl ?_
      refine bg_iastore_n rfl (sR9 hR) (by omega) (by omega) (fun h148 f148 g148 => ?_)
      obtain ⟨hR, hF1⟩ := RO.a8 hR f148 g148
      replace hP := hP.kp hF1 (by omega)
      replace hY : YO h148 y J u v := (hF1 y (by omega)).trans hY
      replace hF := hF.trans hF1
      replace hr := RRof hR (RR_b8 (i0 := (q.2.2 3).length) hr (Nat.le_refl _))
      refine bg_aload0 rfl ?_
      refine bg_dup rfl rfl ?_
      refine bg_getfield rfl rfl hR.1 (by rfl) ?_
      refine bg_iconst rfl ?_
      refine bg_iadd rfl ?_
      refine bg_putfield rfl rfl hR.1 (by rfl) ⟨rfl, rfl⟩ (by rfl) (fun h156 f156 g156 => ?_)
      obtain ⟨hR, hF1⟩ := RO.i6 hR f156 g156
      replace hP := hP.kp hF1 (by omega)
      replace hY : YO h156 y J u v := (hF1 y (by omega)).trans hY
      replace hF := hF.trans hF1
      replace hr := RRof hR (RR_p3 hr)
      refine bg_aload0 rfl ?_
      refine bg_dup rfl rfl ?_
      refine bg_getfield rfl rfl hR.1 (by rfl) ?_
      refine bg_iconst rfl ?_
      refine bg_iadd rfl ?_
      refine bg_putfield rfl rfl hR.1 (by rfl) ⟨rfl, rfl⟩ (by rfl) (fun h166 f166 g166 => ?_)
      obtain ⟨hR, hF1⟩ := RO.i4 hR f166 g166
      replace hP := hP.kp hF1 (by omega)
      replace hY : YO h166 y J u v := (hF1 y (by omega)).trans hY
      replace hF := hF.trans hF1
      replace hr := RRof hR (RR_i4 hr)
      have hr5 : RR (pk (nI b) (q.1 - 10, shF (nI b) (iMax 1 (rG (P 0) (nI b) 1 + 3 - nI (tC bs 0 (nI b)))) q.2)) _ _ := RR_cast hr (bS_ext ?_ (fun k => ?_))
      rotate_left
      · show upd q.2.1 4 (I 4 + 1) = upd q.2.1 4 (q.2.1 4 + 1)
        rw [hI4]
      · show uT (uT (uT q.2.2 0 (rS (q.2.2 0) (nI b) 2 q.1)) 0 (tS (rS (q.2.2 0) (nI b) 2 q.1) b 2 (A 2 b - 10))) 3 (q.2.2 3 ++ [[upd (A 5) (q.2.2 3).length (nI b) (q.2.2 3).length, upd (A 6) (q.2.2 3).length (iMax 1 (rG (P 0) (nI b) 1 + 3 - nI (tC bs 0 (nI b)))) (q.2.2 3).length, upd (A 7) (q.2.2 3).length 4 (q.2.2 3).length, upd (A 8) (q.2.2 3).length 0 (q.2.2 3).length]]) k = uT (uT q.2.2 3 (q.2.2 3 ++ [[nI b, (iMax 1 (rG (P 0) (nI b) 1 + 3 - nI (tC bs 0 (nI b)))), 4, 0]])) 0 (rS (q.2.2 0) (nI b) 2 (q.1 - 10)) k
        rw [upd_same, upd_same, upd_same, upd_same, hA2, rS_nI hb31, tS_tS, rS_nI hb31, uT_uT]
        by_cases k0 : k = 0
        · subst k0
          rfl
        · by_cases k3 : k = 3
          · subst k3
            rfl
          · unfold uT
            simp only [if_neg k0, if_neg k3]
      have hW9 := RW_i hR hr5 hP hY hp (SH_pk (SH_sh hs2 (by omega))) (show IV P (pk (nI b) (q.1 - 10, shF (nI b) (iMax 1 (rG (P 0) (nI b) 1 + 3 - nI (tC bs 0 (nI b)))) q.2)) from IV_sh (show IV P q.2 from hv)) hd1 hd2 hbs
      refine bg_goto rfl ?_
      exact ih (q.1 - 10, shF (nI b) (iMax 1 (rG (P 0) (nI b) 1 + 3 - nI (tC bs 0 (nI b)))) q.2) (by show c = 30 - (q.2.2 3 ++ [_]).length; rw [List.length_append]; show c = 30 - ((q.2.2 3).length + 1); omega) hW9 (SH_sh hs2 (by omega)) hF hQ

theorem rw_beat {b : Nat} (hb : b < (P 0).length) (hl : bs.length = (P 1).length) (hW : RW h r y u v P S J K C bs) (hQ : ∀ h', RW h' r y u v P (beatF P bs (nI b) S) J K C bs → fr h h' r (r + 14) → Q (.inl none) h' n) : bk_wp V (d + 3) 135 [.ref r, .int (nI b)] h n B Q := by
  obtain ⟨I, A, hR, hr, hP, hY, hp, hs, hv, hd1, hd2, hbs⟩ := id hW
  have hb0 : b < (S.2 0).length := by rw [hs.2.2.1]; exact hb
  have hl5 : (P 0).length ≤ 5 := hs.1.1.1
  have hl6 : (P 1).length ≤ 6 := hs.1.2.1.1
  have hw0 : ∀ z ∈ S.2 0, z.length = 3 := hs.2.1.1.2
  have hb31 : b < 2 ^ 31 := by omega
  have hC1 : C 1 b = tg (P 0) b 1 := (hp.2.1 b hb).2
  obtain ⟨fi, hf1, hf2, hfi⟩ := hv.1 b hb
  have hne : ¬ C 1 b = 0 := fun z => by
    rw [hC1, hfi] at z
    have := nI_z (by omega) z
    omega
  obtain ⟨hA0, hA1, hA2⟩ := hr.2.1 b hb0
  have htc : tC bs 0 (nI b) < 2 ^ 31 := Nat.lt_of_le_of_lt List.countP_le_length (by omega)
  have hm : (if A 1 b ≤ fcF P S bs (nI b) / C 1 b then A 1 b else fcF P S bs (nI b) / C 1 b) = (iMin (rG (S.2 0) (nI b) 1) (qO (fcF P S bs (nI b)) (rG (P 0) (nI b) 1))) := by
    rw [rG_nI hb31, rG_nI hb31, ← hA1, ← hC1]
    unfold qO
    rw [if_neg hne]
    rfl
  have hF : fr h h r (r + 14) := fr.refl
  refine bg_in rfl rfl ?_
  refine bg_aload0 rfl ?_
  refine bg_iload1 rfl ?_
  refine bg_virt1 rfl rfl rfl rfl ⟨_, hR.1⟩ ?_
  refine rw_beaters hl hW (bk_Ki ?_)
  refine bg_istore2 rfl rfl ?_
  refine bg_iload2 rfl ?_
  refine bg_if_ne rfl (fun e7 => ?_) (fun e7 => ?_)
  · rw [show beatF P bs (nI b) S = beat2 P bs (nI b) S from if_neg (fun z => e7 (by rw [z]; rfl))] at hQ
    refine bg_aload0 rfl ?_
    refine bg_getfield rfl rfl hR.1 (by rfl) ?_
    refine bg_iload1 rfl ?_
    refine bg_iaload_n rfl (sR2 hR) (by omega) (by omega) ?_
    refine bg_aload0 rfl ?_
    refine bg_iload1 rfl ?_
    refine bg_virt1 rfl rfl rfl rfl ⟨_, hR.1⟩ ?_
    refine rw_force hl hW (bk_Ki ?_)
    refine bg_aload0 rfl ?_
    refine bg_getfield rfl rfl hR.1 (by rfl) ?_
    refine bg_getfield rfl rfl hY (by rfl) ?_
    refine bg_getfield rfl rfl hP.1 (by rfl) ?_
    refine bg_iload1 rfl ?_
    refine bg_iaload_n rfl (pR2 hP) (by omega) (by omega) ?_
    refine bg_idiv rfl hne ?_
    refine bg_min rfl rfl rfl ?_
    rw [hm]
    refine bg_istore3 rfl rfl ?_
    refine bg_aload0 rfl ?_
    refine bg_getfield rfl rfl hR.1 (by rfl) ?_
    refine bg_iload1 rfl ?_
    refine bg_dup2 rfl rfl rfl ?_
    refine bg_iaload_n rfl (sR2 hR) (by omega) (by omega) ?_
    refine bg_iload3 rfl ?_
    refine bg_isub rfl ?_
    refine bg_iastore_n rfl (sR2 hR) (by omega) (by omega) (fun h48 f48 g48 => ?_)
    obtain ⟨hR, hF1⟩ := RO.a1 hR f48 g48
    replace hP := hP.kp hF1 (by omega)
    replace hY : YO h48 y J u v := (hF1 y (by omega)).trans hY
    replace hF := hF.trans hF1
    replace hr := RRof hR (RR_t1 hr hw0 hb0)
    refine bg_aload0 rfl ?_
    refine bg_getfield rfl rfl hR.1 (by rfl) ?_
    refine bg_iload1 rfl ?_
    refine bg_dup2 rfl rfl rfl ?_
    refine bg_iaload_n rfl (sR3 hR) (by omega) (by omega) ?_
    refine bg_iload3 rfl ?_
    refine bg_iadd rfl ?_
    refine bg_iastore_n rfl (sR3 hR) (by omega) (by omega) (fun h58 f58 g58 => ?_)
    obtain ⟨hR, hF1⟩ := RO.a2 hR f58 g58
    replace hP := hP.kp hF1 (by omega)
    replace hY : YO h58 y J u v := (hF1 y (by omega)).trans hY
    replace hF := hF.trans hF1
    replace hr := RRof hR (RR_t2 hr (tS_w hw0) (Nat.lt_of_lt_of_le hb0 (Nat.le_of_eq tS_len.symm)))
    have e : rS (S.2 0) (nI b) 1 (rG (S.2 0) (nI b) 1 - (iMin (rG (S.2 0) (nI b) 1) (qO (fcF P S bs (nI b)) (rG (P 0) (nI b) 1)))) = tS (S.2 0) b 1 (A 1 b - (iMin (rG (S.2 0) (nI b) 1) (qO (fcF P S bs (nI b)) (rG (P 0) (nI b) 1)))) := by rw [rS_nI hb31, hA1, rG_nI hb31]
    have e2 : rG (rS (S.2 0) (nI b) 1 (rG (S.2 0) (nI b) 1 - (iMin (rG (S.2 0) (nI b) 1) (qO (fcF P S bs (nI b)) (rG (P 0) (nI b) 1))))) (nI b) 2 = A 2 b := by rw [rG_nI hb31, rS_nI hb31, tg_ne hw0 hb0 (by decide) (by decide), hA2]
    have hr5 : RR (pk (nI b) (rG (rS (S.2 0) (nI b) 1 (rG (S.2 0) (nI b) 1 - (iMin (rG (S.2 0) (nI b) 1) (qO (fcF P S bs (nI b)) (rG (P 0) (nI b) 1))))) (nI b) 2 + (iMin (rG (S.2 0) (nI b) 1) (qO (fcF P S bs (nI b)) (rG (P 0) (nI b) 1))), (S.1, uT S.2 0 (rS (S.2 0) (nI b) 1 (rG (S.2 0) (nI b) 1 - (iMin (rG (S.2 0) (nI b) 1) (qO (fcF P S bs (nI b)) (rG (P 0) (nI b) 1)))))))) _ _ := RR_cast hr (bS_ext rfl (fun k => by
      rw [e2, e]
      show uT (uT S.2 0 (tS (S.2 0) b 1 _)) 0 (tS (tS (S.2 0) b 1 _) b 2 _) k = uT (uT S.2 0 (tS (S.2 0) b 1 _)) 0 (rS (tS (S.2 0) b 1 _) (nI b) 2 _) k
      rw [rS_nI hb31]
      rfl))
    have hs2 : SH P (S.1, uT S.2 0 (rS (S.2 0) (nI b) 1 (rG (S.2 0) (nI b) 1 - (iMin (rG (S.2 0) (nI b) 1) (qO (fcF P S bs (nI b)) (rG (P 0) (nI b) 1)))))) := SH_0 hs rS_len (shT_rS hs.2.1.1).2
    exact rw_beatL hb hl5 (30 - (S.2 3).length) (rG (rS (S.2 0) (nI b) 1 (rG (S.2 0) (nI b) 1 - (iMin (rG (S.2 0) (nI b) 1) (qO (fcF P S bs (nI b)) (rG (P 0) (nI b) 1))))) (nI b) 2 + (iMin (rG (S.2 0) (nI b) 1) (qO (fcF P S bs (nI b)) (rG (P 0) (nI b) 1))), (S.1, uT S.2 0 (rS (S.2 0) (nI b) 1 (rG (S.2 0) (nI b) 1 - (iMin (rG (S.2 0) (nI b) 1) (qO (fcF P S bs (nI b)) (rG (P 0) (nI b) 1))))))) rfl (RW_i hR hr5 hP hY hp (SH_pk hs2) hv hd1 hd2 hbs) hs2 hF hQ
  · rw [show beatF P bs (nI b) S = S from if_pos (nI_z htc e7)] at hQ
    refine bg_ret rfl rfl ?_
    exact hQ h hW fr.refl
end RB
