/-! THE REFERENCE: the weather, a sheet taken, fits. Printed by wip/whole/mk62.py. -/
def chW (w : Int32) : Int32 := if ¬ 2 < w then -1 else if ¬ w < 4 then 1 else 0
theorem wet_dn {k : Nat} (h : k ≤ 9) : ∃ k', k' ≤ 9 ∧ iMax 0 (iMin 9 (nI k + -1)) = nI k' ∧ iMax 0 (nI k - 1) = nI k' := by
  have : k = 0 ∨ k = 1 ∨ k = 2 ∨ k = 3 ∨ k = 4 ∨ k = 5 ∨ k = 6 ∨ k = 7 ∨ k = 8 ∨ k = 9 := by omega
  rcases this with rfl | rfl | rfl | rfl | rfl | rfl | rfl | rfl | rfl | rfl
  · exact ⟨0, by decide, by decide, by decide⟩
  · exact ⟨0, by decide, by decide, by decide⟩
  · exact ⟨1, by decide, by decide, by decide⟩
  · exact ⟨2, by decide, by decide, by decide⟩
  · exact ⟨3, by decide, by decide, by decide⟩
  · exact ⟨4, by decide, by decide, by decide⟩
  · exact ⟨5, by decide, by decide, by decide⟩
  · exact ⟨6, by decide, by decide, by decide⟩
  · exact ⟨7, by decide, by decide, by decide⟩
  · exact ⟨8, by decide, by decide, by decide⟩
theorem wet_up {k : Nat} (h : k ≤ 9) : ∃ k', k' ≤ 9 ∧ iMax 0 (iMin 9 (nI k + 1)) = nI k' ∧ iMin 9 (nI k + 1) = nI k' := by
  have : k = 0 ∨ k = 1 ∨ k = 2 ∨ k = 3 ∨ k = 4 ∨ k = 5 ∨ k = 6 ∨ k = 7 ∨ k = 8 ∨ k = 9 := by omega
  rcases this with rfl | rfl | rfl | rfl | rfl | rfl | rfl | rfl | rfl | rfl
  · exact ⟨1, by decide, by decide, by decide⟩
  · exact ⟨2, by decide, by decide, by decide⟩
  · exact ⟨3, by decide, by decide, by decide⟩
  · exact ⟨4, by decide, by decide, by decide⟩
  · exact ⟨5, by decide, by decide, by decide⟩
  · exact ⟨6, by decide, by decide, by decide⟩
  · exact ⟨7, by decide, by decide, by decide⟩
  · exact ⟨8, by decide, by decide, by decide⟩
  · exact ⟨9, by decide, by decide, by decide⟩
  · exact ⟨9, by decide, by decide, by decide⟩
theorem wet_eq {k : Nat} (h : k ≤ 9) : iMax 0 (iMin 9 (nI k + 0)) = nI k := by
  have : k = 0 ∨ k = 1 ∨ k = 2 ∨ k = 3 ∨ k = 4 ∨ k = 5 ∨ k = 6 ∨ k = 7 ∨ k = 8 ∨ k = 9 := by omega
  rcases this with rfl | rfl | rfl | rfl | rfl | rfl | rfl | rfl | rfl | rfl <;> decide
/-- the row i of the sheets after a weather, with the wetness k' -/
def dryT (w : Int32) (i k' : Nat) (t : bT) : bT := if ¬ nI k' < 3 ∨ w = 5 then tS (tS t i 2 (nI k')) i 3 (iMin 9 (tg t i 3 + 1)) else tS t i 2 (nI k')
theorem dry1_T {w : Int32} {i k' : Nat} {t : bT} (hw : ∀ z ∈ t, z.length = 4) (hi : i < t.length) (hi2 : i < 2 ^ 31) (h : iMax 0 (iMin 9 (tg t i 2 + chW w)) = nI k') : dry1 w i t = dryT w i k' t := by
  have e : iMax 0 (iMin 9 (rG t (nI i) 2 + chW w)) = nI k' := by rw [rG_nI hi2]; exact h
  show (if ¬ iMax 0 (iMin 9 (rG t (nI i) 2 + chW w)) < 3 ∨ w = 5 then rS (rS t (nI i) 2 (iMax 0 (iMin 9 (rG t (nI i) 2 + chW w)))) (nI i) 3 (iMin 9 (rG (rS t (nI i) 2 (iMax 0 (iMin 9 (rG t (nI i) 2 + chW w)))) (nI i) 3 + 1)) else rS t (nI i) 2 (iMax 0 (iMin 9 (rG t (nI i) 2 + chW w)))) = _
  rw [e, rS_nI hi2, rS_nI hi2, rG_nI hi2, tg_ne hw hi (by decide) (by decide)]
  rfl
theorem dryT_sh {w : Int32} {i k' : Nat} {t : bT} (h : shT t 4 30) : shT (dryT w i k' t) 4 30 := by
  unfold dryT
  split
  · exact shT_tS (shT_tS h)
  · exact shT_tS h
theorem dryT_len {w : Int32} {i k' : Nat} {t : bT} : (dryT w i k' t).length = t.length := by
  unfold dryT
  split
  · rw [tS_len, tS_len]
  · exact tS_len
theorem dryT_wet {w : Int32} {i j k' : Nat} {t : bT} (hw : ∀ z ∈ t, z.length = 4) (hi : i < t.length) : tg (dryT w i k' t) j 2 = if j = i then nI k' else tg t j 2 := by
  have e : tg (tS t i 2 (nI k')) j 2 = if j = i then nI k' else tg t j 2 := by
    rw [tg_tS hw hi (by decide)]
    by_cases q : j = i
    · rw [if_pos q, if_pos ⟨q, rfl⟩]
    · rw [if_neg q, if_neg (fun z => q z.1)]
  unfold dryT
  split
  · rw [tg_ne (tS_w hw) (by rw [tS_len]; exact hi) (by decide) (by decide)]
    exact e
  · exact e
section RB
variable {V : bk_V} {d n : Nat} {B : Nat × Nat} {Q : bk_R → bk_H → Nat → Prop} {h : bk_H} {r y u v : Nat} {P : Nat → bT} {S : bS} {I J K : rI} {A C : rA} {bs : bT} {cs : Nat × Nat}
theorem rw_weatherT {h0 : bk_H} {i k' : Nat} (hk : k' ≤ 9) (hi : i < (S.2 3).length) (hl : (S.2 3).length ≤ 30) (hR : RO h r y I A) (hr : RR (S.1, uT S.2 3 (tS (S.2 3) i 2 (nI k'))) I A) (hP : PO h u K C) (hY : YO h y J u v) (hp : RP P K C) (hs : SH P S) (hv : IV P S) (hd1 : u + 16 ≤ r ∨ r + 14 ≤ u) (hd2 : y < r ∨ r + 14 ≤ y) (hbs : ∀ k, k < bs.length → A 11 k = tg bs k 0) (hF : fr h0 h r (r + 14))
    (hQ : ∀ h', RW h' r y u v P (S.1, uT S.2 3 (dryT (S.1 1) i k' (S.2 3))) J K C bs → fr h0 h' r (r + 14) → Q (.inl none) h' n) : bk_g V (d + 1) 136 B Q 53 [some (.ref r), some (.int (nI i))] [] h n cs := by
  have hi31 : i < 2 ^ 31 := by omega
  have hw3 : ∀ z ∈ S.2 3, z.length = 4 := hs.2.1.2.2.2.1.2
  have hA7 : A 7 i = nI k' := by
    have := (hr.2.2.2.2.1 i (by show i < (tS (S.2 3) i 2 (nI k')).length; rw [tS_len]; exact hi)).2.2.1
    rw [this]
    show tg (tS (S.2 3) i 2 (nI k')) i 2 = _
    rw [tg_tS hw3 hi (by decide), if_pos ⟨rfl, rfl⟩]
  have hA8 : A 8 i = tg (S.2 3) i 3 := by
    have := (hr.2.2.2.2.1 i (by show i < (tS (S.2 3) i 2 (nI k')).length; rw [tS_len]; exact hi)).2.2.2
    rw [this]
    exact tg_ne hw3 hi (by decide) (by decide)
  have hI1 : I 1 = S.1 1 := hr.1.1 1 (by decide)
  have hs9 : SH P (S.1, uT S.2 3 (dryT (S.1 1) i k' (S.2 3))) := SH_3 hs (dryT_sh hs.2.1.2.2.2.1)
  have hv9 : IV P (S.1, uT S.2 3 (dryT (S.1 1) i k' (S.2 3))) := IV_3 hv (fun j hj => by
    rw [dryT_len] at hj
    rw [dryT_wet hw3 hi]
    by_cases e : j = i
    · rw [if_pos e]
      exact ⟨k', hk, rfl⟩
    · rw [if_neg e]
      exact hv.2.2.1 j hj)
  refine bg_aload0 rfl ?_
  refine bg_getfield rfl rfl hR.1 (by rfl) ?_
  refine bg_iload1 rfl ?_
  refine bg_iaload_n rfl (sR8 hR) (by omega) (by omega) ?_
  rw [hA7]
  refine bg_iconst rfl ?_
  refine bg_icmp_ge rfl (fun e60 => ?_) (fun e60 => ?_)
  · refine bg_aload0 rfl ?_
    refine bg_getfield rfl rfl hR.1 (by rfl) ?_
    refine bg_iload1 rfl ?_
    refine bg_bipush rfl ?_
    refine bg_aload0 rfl ?_
    refine bg_getfield rfl rfl hR.1 (by rfl) ?_
    refine bg_iload1 rfl ?_
    refine bg_iaload_n rfl (sR9 hR) (by omega) (by omega) ?_
    refine bg_iconst rfl ?_
    refine bg_iadd rfl ?_
    refine bg_min rfl rfl rfl ?_
    rw [hA8, show (if 9 ≤ tg (S.2 3) i 3 + 1 then 9 else tg (S.2 3) i 3 + 1) = iMin 9 (tg (S.2 3) i 3 + 1) from rfl]
    refine bg_iastore_n rfl (sR9 hR) (by omega) (by omega) (fun h89 f89 g89 => ?_)
    obtain ⟨hR, hF1⟩ := RO.a8 hR f89 g89
    replace hP := hP.kp hF1 (by omega)
    replace hY : YO h89 y J u v := (hF1 y (by omega)).trans hY
    replace hF := hF.trans hF1
    replace hr := RRof hR (RR_t8 hr (tS_w hw3) (by show i < (tS (S.2 3) i 2 (nI k')).length; rw [tS_len]; exact hi))
    refine bg_ret rfl rfl ?_
    have e : dryT (S.1 1) i k' (S.2 3) = tS (tS (S.2 3) i 2 (nI k')) i 3 (iMin 9 (tg (S.2 3) i 3 + 1)) := if_pos (by first | exact Or.inl e60 | exact Or.inr e68)
    refine hQ _ (RW_i hR (RR_cast hr (bS_ext rfl (fun k => ?_))) hP hY hp hs9 hv9 hd1 hd2 hbs) hF
    rw [e]
    show uT (uT S.2 3 (tS (S.2 3) i 2 (nI k'))) 3 (tS (tS (S.2 3) i 2 (nI k')) i 3 (iMin 9 (tg (S.2 3) i 3 + 1))) k = _
    rw [uT_uT]
  · refine bg_aload0 rfl ?_
    refine bg_getfield rfl rfl hR.1 (by rfl) ?_
    rw [hI1]
    refine bg_iconst rfl ?_
    refine bg_icmp_ne rfl (fun e68 => ?_) (fun e68 => ?_)
    · refine bg_ret rfl rfl ?_
      have e : dryT (S.1 1) i k' (S.2 3) = tS (S.2 3) i 2 (nI k') := if_neg (fun z => z.elim (fun z => z e60) (fun z => e68 z))
      refine hQ _ (RW_i hR ?_ hP hY hp hs9 hv9 hd1 hd2 hbs) hF
      rw [e]
      exact hr
    · refine bg_aload0 rfl ?_
      refine bg_getfield rfl rfl hR.1 (by rfl) ?_
      refine bg_iload1 rfl ?_
      refine bg_bipush rfl ?_
      refine bg_aload0 rfl ?_
      refine bg_getfield rfl rfl hR.1 (by rfl) ?_
      refine bg_iload1 rfl ?_
      refine bg_iaload_n rfl (sR9 hR) (by omega) (by omega) ?_
      refine bg_iconst rfl ?_
      refine bg_iadd rfl ?_
      refine bg_min rfl rfl rfl ?_
      rw [hA8, show (if 9 ≤ tg (S.2 3) i 3 + 1 then 9 else tg (S.2 3) i 3 + 1) = iMin 9 (tg (S.2 3) i 3 + 1) from rfl]
      refine bg_iastore_n rfl (sR9 hR) (by omega) (by omega) (fun h89 f89 g89 => ?_)
      obtain ⟨hR, hF1⟩ := RO.a8 hR f89 g89
      replace hP := hP.kp hF1 (by omega)
      replace hY : YO h89 y J u v := (hF1 y (by omega)).trans hY
      replace hF := hF.trans hF1
      replace hr := RRof hR (RR_t8 hr (tS_w hw3) (by show i < (tS (S.2 3) i 2 (nI k')).length; rw [tS_len]; exact hi))
      refine bg_ret rfl rfl ?_
      have e : dryT (S.1 1) i k' (S.2 3) = tS (tS (S.2 3) i 2 (nI k')) i 3 (iMin 9 (tg (S.2 3) i 3 + 1)) := if_pos (by first | exact Or.inl e60 | exact Or.inr e68)
      refine hQ _ (RW_i hR (RR_cast hr (bS_ext rfl (fun k => ?_))) hP hY hp hs9 hv9 hd1 hd2 hbs) hF
      rw [e]
      show uT (uT S.2 3 (tS (S.2 3) i 2 (nI k'))) 3 (tS (tS (S.2 3) i 2 (nI k')) i 3 (iMin 9 (tg (S.2 3) i 3 + 1))) k = _
      rw [uT_uT]
theorem rw_weather {i : Nat} (hi : i < (S.2 3).length) (hW : RW h r y u v P S J K C bs) (hQ : ∀ h', RW h' r y u v P (S.1, uT S.2 3 (dry1 (S.1 1) i (S.2 3))) J K C bs → fr h h' r (r + 14) → Q (.inl none) h' n) : bk_wp V (d + 2) 136 [.ref r, .int (nI i)] h n B Q := by
  obtain ⟨I, A, hR, hr, hP, hY, hp, hs, hv, hd1, hd2, hbs⟩ := id hW
  have hl : (S.2 3).length ≤ 30 := hs.2.1.2.2.2.1.1
  have hi31 : i < 2 ^ 31 := by omega
  have hw3 : ∀ z ∈ S.2 3, z.length = 4 := hs.2.1.2.2.2.1.2
  obtain ⟨k, hk9, hk⟩ := hv.2.2.1 i hi
  have hA7 : A 7 i = nI k := ((hr.2.2.2.2.1 i hi).2.2.1).trans hk
  have hI1 : I 1 = S.1 1 := hr.1.1 1 (by decide)
  have hF : fr h h r (r + 14) := fr.refl
  refine bg_in rfl rfl ?_
  refine bg_aload0 rfl ?_
  refine bg_getfield rfl rfl hR.1 (by rfl) ?_
  refine bg_iconst rfl ?_
  refine bg_icmp_gt rfl (fun e5 => ?_) (fun e5 => ?_)
  · rw [hI1] at e5
    refine bg_aload0 rfl ?_
    refine bg_getfield rfl rfl hR.1 (by rfl) ?_
    refine bg_iconst rfl ?_
    refine bg_icmp_lt rfl (fun e31 => ?_) (fun e31 => ?_)
    · rw [hI1] at e31
      have e : dry1 (S.1 1) i (S.2 3) = dryT (S.1 1) i k (S.2 3) := dry1_T hw3 hi hi31 (by rw [hk, show chW (S.1 1) = 0 from (if_neg (fun z => z e5)).trans (if_neg (fun z => z e31))]; exact wet_eq hk9)
      rw [e] at hQ
      exact rw_weatherT hk9 hi hl hR (RR_cast hr (bS_ext rfl (fun j => by
        show S.2 j = uT S.2 3 _ j
        rw [← hk, tS_self hw3 (by decide)]
        unfold uT
        by_cases z : j = 3
        · rw [if_pos z, z]
        · rw [if_neg z]))) hP hY hp hs hv hd1 hd2 hbs hF hQ
    · rw [hI1] at e31
      refine bg_aload0 rfl ?_
      refine bg_getfield rfl rfl hR.1 (by rfl) ?_
      refine bg_iload1 rfl ?_
      refine bg_bipush rfl ?_
      refine bg_aload0 rfl ?_
      refine bg_getfield rfl rfl hR.1 (by rfl) ?_
      refine bg_iload1 rfl ?_
      refine bg_iaload_n rfl (sR8 hR) (by omega) (by omega) ?_
      rw [hA7]
      refine bg_iconst rfl ?_
      refine bg_iadd rfl ?_
      refine bg_min rfl rfl rfl ?_
      obtain ⟨k', hk', ha, hb⟩ := wet_up hk9
      have e : dry1 (S.1 1) i (S.2 3) = dryT (S.1 1) i k' (S.2 3) := dry1_T hw3 hi hi31 (by rw [hk, show chW (S.1 1) = 1 from (if_neg (fun z => z e5)).trans (if_pos e31)]; exact ha)
      rw [e] at hQ
      rw [show (if 9 ≤ nI k + 1 then 9 else nI k + 1) = nI k' from hb]
      refine bg_iastore_n rfl (sR8 hR) (by omega) (by omega) (fun h52 f52 g52 => ?_)
      obtain ⟨hR, hF1⟩ := RO.a7 hR f52 g52
      replace hP := hP.kp hF1 (by omega)
      replace hY : YO h52 y J u v := (hF1 y (by omega)).trans hY
      replace hF := hF.trans hF1
      replace hr := RRof hR (RR_t7 hr hw3 hi)
      exact rw_weatherT hk' hi hl hR hr hP hY hp hs hv hd1 hd2 hbs hF hQ
  · rw [hI1] at e5
    refine bg_aload0 rfl ?_
    refine bg_getfield rfl rfl hR.1 (by rfl) ?_
    refine bg_iload1 rfl ?_
    refine bg_iconst rfl ?_
    refine bg_aload0 rfl ?_
    refine bg_getfield rfl rfl hR.1 (by rfl) ?_
    refine bg_iload1 rfl ?_
    refine bg_iaload_n rfl (sR8 hR) (by omega) (by omega) ?_
    rw [hA7]
    refine bg_iconst rfl ?_
    refine bg_isub rfl ?_
    refine bg_max rfl rfl rfl ?_
    obtain ⟨k', hk', ha, hb⟩ := wet_dn hk9
    have e : dry1 (S.1 1) i (S.2 3) = dryT (S.1 1) i k' (S.2 3) := dry1_T hw3 hi hi31 (by rw [hk, show chW (S.1 1) = -1 from if_pos e5]; exact ha)
    rw [e] at hQ
    rw [show (if 0 < nI k - 1 then nI k - 1 else 0) = nI k' from hb]
    refine bg_iastore_n rfl (sR8 hR) (by omega) (by omega) (fun h25 f25 g25 => ?_)
    obtain ⟨hR, hF1⟩ := RO.a7 hR f25 g25
    replace hP := hP.kp hF1 (by omega)
    replace hY : YO h25 y J u v := (hF1 y (by omega)).trans hY
    replace hF := hF.trans hF1
    replace hr := RRof hR (RR_t7 hr hw3 hi)
    refine bg_aload0 rfl ?_
    refine bg_getfield rfl rfl hR.1 (by rfl) ?_
    refine bg_iconst rfl ?_
    refine bg_icmp_lt rfl (fun e31 => ?_) (fun e31 => absurd (show (2 : Int32) < S.1 1 from Int32.lt_of_lt_of_le (b := 4) (by decide) (Int32.not_lt.mp (by rw [← hI1]; exact e31))) e5)
    exact rw_weatherT hk' hi hl hR hr hP hY hp hs hv hd1 hd2 hbs hF hQ
theorem rw_fits {i : Nat} {g b : Int32} (hi : i < (S.2 3).length) (hW : RW h r y u v P S J K C bs) (hQ : Q (.inl (some (.int (if fitC P (S.2 3) g b i then 1 else 0)))) h n) : bk_wp V (d + 1) 138 [.ref r, .int (nI i), .int b, .int (rG (P 2) g 0)] h n B Q := by
  obtain ⟨I, A, hR, hr, hP, hY, hp, hs, hv, hd1, hd2, hbs⟩ := id hW
  have hl : (S.2 3).length ≤ 30 := hs.2.1.2.2.2.1.1
  have hi31 : i < 2 ^ 31 := by omega
  obtain ⟨hA5, hA6, hA7, hA8⟩ := hr.2.2.2.2.1 i hi
  rw [← rG_nI hi31] at hA5 hA6 hA7 hA8
  refine bg_in rfl rfl ?_
  refine bg_aload0 rfl ?_
  refine bg_getfield rfl rfl hR.1 (by rfl) ?_
  refine bg_iload1 rfl ?_
  refine bg_iaload_n rfl (sR6 hR) (by omega) (by omega) ?_
  rw [hA5]
  refine bg_iload2 rfl ?_
  refine bg_icmp_ne rfl (fun e7 => ?_) (fun e7 => ?_)
  · refine bg_iconst rfl ?_
    refine bg_iret rfl rfl (by rfl) ?_
    exact bQ hQ (if_neg (fun z => e7 z.2.1))
  · refine bg_aload0 rfl ?_
    refine bg_getfield rfl rfl hR.1 (by rfl) ?_
    refine bg_iload1 rfl ?_
    refine bg_iaload_n rfl (sR8 hR) (by omega) (by omega) ?_
    rw [hA7]
    refine bg_if_ne rfl (fun e16 => ?_) (fun e16 => ?_)
    · refine bg_iconst rfl ?_
      refine bg_iret rfl rfl (by rfl) ?_
      exact bQ hQ (if_neg (fun z => e16 z.2.2.1))
    · refine bg_aload0 rfl ?_
      refine bg_getfield rfl rfl hR.1 (by rfl) ?_
      refine bg_iload1 rfl ?_
      refine bg_iaload_n rfl (sR9 hR) (by omega) (by omega) ?_
      rw [hA8]
      refine bg_iconst rfl ?_
      refine bg_icmp_ge rfl (fun e26 => ?_) (fun e26 => ?_)
      · refine bg_iconst rfl ?_
        refine bg_iret rfl rfl (by rfl) ?_
        exact bQ hQ (if_neg (fun z => e26 z.2.2.2))
      · refine bg_iload3 rfl ?_
        refine bg_if_eq rfl (fun e30 => ?_) (fun e30 => ?_)
        · have hfo : rG (P 2) g 0 = 0 ∨ ¬ qO 12 (rG (P 2) g 0) < rG (S.2 3) (nI i) 1 := Or.inl e30
          refine bg_iconst rfl ?_
          refine bg_goto rfl ?_
          refine bg_iret rfl rfl (by rfl) ?_
          exact bQ hQ (if_pos ⟨hfo, e7, e16, e26⟩)
        · refine bg_aload0 rfl ?_
          refine bg_getfield rfl rfl hR.1 (by rfl) ?_
          refine bg_iload1 rfl ?_
          refine bg_iaload_n rfl (sR7 hR) (by omega) (by omega) ?_
          rw [hA6]
          refine bg_bipush rfl ?_
          refine bg_iload3 rfl ?_
          refine bg_idiv rfl e30 ?_
          refine bg_icmp_gt rfl (fun e43 => ?_) (fun e43 => ?_)
          · refine bg_iconst rfl ?_
            refine bg_iret rfl rfl (by rfl) ?_
            exact bQ hQ (if_neg (fun z => z.1.elim (fun z => e30 z) (fun z => z (by rw [show qO 12 (rG (P 2) g 0) = 12 / rG (P 2) g 0 from if_neg e30]; exact e43))))
          · have hfo : rG (P 2) g 0 = 0 ∨ ¬ qO 12 (rG (P 2) g 0) < rG (S.2 3) (nI i) 1 := Or.inr (by rw [show qO 12 (rG (P 2) g 0) = 12 / rG (P 2) g 0 from if_neg e30]; exact e43)
            refine bg_iconst rfl ?_
            refine bg_goto rfl ?_
            refine bg_iret rfl rfl (by rfl) ?_
            exact bQ hQ (if_pos ⟨hfo, e7, e16, e26⟩)
/-- the sheets' rows while those behind p move up, up to k -/
def TI (S : bS) (A : rA) (p k : Nat) : Prop := ∀ i, i < (S.2 3).length → A 5 i = tg (S.2 3) (if p ≤ i ∧ i < k then i + 1 else i) 0 ∧ A 6 i = tg (S.2 3) (if p ≤ i ∧ i < k then i + 1 else i) 1 ∧ A 7 i = tg (S.2 3) (if p ≤ i ∧ i < k then i + 1 else i) 2 ∧ A 8 i = tg (S.2 3) (if p ≤ i ∧ i < k then i + 1 else i) 3
theorem TI_fin {p : Nat} {I' : rI} {A' : rA} (hr : RR S I A) (hp : p < (S.2 3).length) (hI : I' = upd I 6 (nI ((S.2 3).length - 1))) (hA : ∀ a, a < 5 ∨ 9 ≤ a → A' a = A a) (hT : TI S A' p ((S.2 3).length - 1)) : RR (S.1, uT S.2 3 ((S.2 3).eraseIdx p)) I' A' := by
  obtain ⟨⟨q1, q2, q3, q4⟩, h2, h3, h4, h5, h6⟩ := hr
  subst hI
  have hlen : ((S.2 3).eraseIdx p).length = (S.2 3).length - 1 := List.length_eraseIdx_of_lt hp
  refine ⟨⟨fun k hk => ?_, ?_, q3, q4⟩, ?_, ?_, ?_, ?_, ?_⟩
  · show upd I 6 _ k = _
    unfold upd
    rw [if_neg (by omega)]
    exact q1 k hk
  · show nI ((S.2 3).length - 1) = nI ((S.2 3).eraseIdx p).length
    rw [hlen]
  · intro i hi
    rw [hA 0 (by decide), hA 1 (by decide), hA 2 (by decide)]
    exact h2 i hi
  · intro i hi
    rw [hA 3 (by decide)]
    exact h3 i hi
  · intro i hi
    rw [hA 4 (by decide)]
    exact h4 i hi
  · show ∀ i, i < ((S.2 3).eraseIdx p).length → A' 5 i = tg ((S.2 3).eraseIdx p) i 0 ∧ A' 6 i = tg ((S.2 3).eraseIdx p) i 1 ∧ A' 7 i = tg ((S.2 3).eraseIdx p) i 2 ∧ A' 8 i = tg ((S.2 3).eraseIdx p) i 3
    intro i hi
    rw [hlen] at hi
    have e : (if p ≤ i ∧ i < (S.2 3).length - 1 then i + 1 else i) = if i < p then i else i + 1 := by
      by_cases z : i < p
      · rw [if_pos z, if_neg (by omega)]
      · rw [if_neg z, if_pos (by omega)]
    obtain ⟨a0, a1, a2, a3⟩ := hT i (by omega)
    rw [e] at a0 a1 a2 a3
    rw [tg_erase, tg_erase, tg_erase, tg_erase]
    exact ⟨a0, a1, a2, a3⟩
  · intro i hi
    rw [hA 9 (by decide), hA 10 (by decide)]
    exact h6 i hi
theorem TI_s {p k : Nat} {t0 t1 t2 t3 : Int32} (hp : p ≤ k) (hk : k + 1 < (S.2 3).length) (hT : TI S A p k) (h0 : t0 = A 5 (k + 1)) (h1 : t1 = A 6 (k + 1)) (h2 : t2 = A 7 (k + 1)) (h3 : t3 = A 8 (k + 1)) : TI S (uA (uA (uA (uA A 5 (upd (A 5) k t0)) 6 (upd (A 6) k t1)) 7 (upd (A 7) k t2)) 8 (upd (A 8) k t3)) p (k + 1) := by
  intro i hi
  show upd (A 5) k t0 i = _ ∧ upd (A 6) k t1 i = _ ∧ upd (A 7) k t2 i = _ ∧ upd (A 8) k t3 i = _
  obtain ⟨a0, a1, a2, a3⟩ := hT i hi
  obtain ⟨b0, b1, b2, b3⟩ := hT (k + 1) hk
  rw [if_neg (by omega)] at b0 b1 b2 b3
  unfold upd
  by_cases e : i = k
  · subst e
    rw [if_pos rfl, if_pos rfl, if_pos rfl, if_pos rfl, if_pos (by omega), h0, h1, h2, h3]
    exact ⟨b0, b1, b2, b3⟩
  · rw [if_neg e, if_neg e, if_neg e, if_neg e]
    by_cases z : p ≤ i ∧ i < k
    · rw [if_pos z] at a0 a1 a2 a3
      rw [if_pos (by omega)]
      exact ⟨a0, a1, a2, a3⟩
    · rw [if_neg z] at a0 a1 a2 a3
      rw [if_neg (by omega)]
      exact ⟨a0, a1, a2, a3⟩
theorem rw_takeL {h0 : bk_H} {p : Nat} {p0 : Int32} {I1 : rI} (hI6 : I1 6 = nI ((S.2 3).length - 1)) (hl : (S.2 3).length ≤ 30) (hd1 : u + 16 ≤ r ∨ r + 14 ≤ u) (hd2 : y < r ∨ r + 14 ≤ y) (hQ : ∀ h' A', RO h' r y I1 A' → PO h' u K C → YO h' y J u v → (∀ a, a < 5 ∨ 9 ≤ a → A' a = A a) → TI S A' p ((S.2 3).length - 1) → fr h0 h' r (r + 14) → Q (.inl none) h' n) : ∀ (c k : Nat) {h : bk_H} {A1 : rA}, k + c + 1 = (S.2 3).length → p ≤ k → RO h r y I1 A1 → PO h u K C → YO h y J u v → (∀ a, a < 5 ∨ 9 ≤ a → A1 a = A a) → TI S A1 p k → fr h0 h r (r + 14) → bk_g V d 137 B Q 12 [some (.ref r), some (.int p0), some (.int (nI k))] [] h n cs := by
  intro c
  induction c with
  | zero =>
    intro k h A1 hc hpk hR hP hY hA hT hF
    refine bg_iload2 rfl ?_
    refine bg_aload0 rfl ?_
    refine bg_getfield rfl rfl hR.1 (by rfl) ?_
    refine bg_icmp_ge rfl (fun e17 => ?_) (fun e17 => absurd e17 (by rw [hI6]; exact nI_nlt (by omega) (by omega)))
    refine bg_ret rfl rfl ?_
    have hk : k = (S.2 3).length - 1 := by omega
    subst hk
    exact hQ h A1 hR hP hY hA hT hF
  | succ c ih =>
    intro k h A1 hc hpk hR hP hY hA hT hF
    refine bg_iload2 rfl ?_
    refine bg_aload0 rfl ?_
    refine bg_getfield rfl rfl hR.1 (by rfl) ?_
    refine bg_icmp_ge rfl (fun e17 => absurd (by rw [hI6]; exact nI_lt (by omega) (by omega)) e17) (fun e17 => ?_)
    refine bg_aload0 rfl ?_
    refine bg_getfield rfl rfl hR.1 (by rfl) ?_
    refine bg_iload2 rfl ?_
    refine bg_aload0 rfl ?_
    refine bg_getfield rfl rfl hR.1 (by rfl) ?_
    refine bg_iload2 rfl ?_
    refine bg_iconst rfl ?_
    refine bg_iadd rfl ?_
    rw [nI_1]
    refine bg_iaload_n rfl (sR6 hR) (by omega) (by omega) ?_
    refine bg_iastore_n rfl (sR6 hR) (by omega) (by omega) (fun h33 f33 g33 => ?_)
    obtain ⟨hR, hF1⟩ := RO.a5 hR f33 g33
    replace hP := hP.kp hF1 (by omega)
    replace hY : YO h33 y J u v := (hF1 y (by omega)).trans hY
    replace hF := hF.trans hF1
    refine bg_aload0 rfl ?_
    refine bg_getfield rfl rfl hR.1 (by rfl) ?_
    refine bg_iload2 rfl ?_
    refine bg_aload0 rfl ?_
    refine bg_getfield rfl rfl hR.1 (by rfl) ?_
    refine bg_iload2 rfl ?_
    refine bg_iconst rfl ?_
    refine bg_iadd rfl ?_
    rw [nI_1]
    refine bg_iaload_n rfl (sR7 hR) (by omega) (by omega) ?_
    refine bg_iastore_n rfl (sR7 hR) (by omega) (by omega) (fun h47 f47 g47 => ?_)
    obtain ⟨hR, hF1⟩ := RO.a6 hR f47 g47
    replace hP := hP.kp hF1 (by omega)
    replace hY : YO h47 y J u v := (hF1 y (by omega)).trans hY
    replace hF := hF.trans hF1
    refine bg_aload0 rfl ?_
    refine bg_getfield rfl rfl hR.1 (by rfl) ?_
    refine bg_iload2 rfl ?_
    refine bg_aload0 rfl ?_
    refine bg_getfield rfl rfl hR.1 (by rfl) ?_
    refine bg_iload2 rfl ?_
    refine bg_iconst rfl ?_
    refine bg_iadd rfl ?_
    rw [nI_1]
    refine bg_iaload_n rfl (sR8 hR) (by omega) (by omega) ?_
    refine bg_iastore_n rfl (sR8 hR) (by omega) (by omega) (fun h61 f61 g61 => ?_)
    obtain ⟨hR, hF1⟩ := RO.a7 hR f61 g61
    replace hP := hP.kp hF1 (by omega)
    replace hY : YO h61 y J u v := (hF1 y (by omega)).trans hY
    replace hF := hF.trans hF1
    refine bg_aload0 rfl ?_
    refine bg_getfield rfl rfl hR.1 (by rfl) ?_
    refine bg_iload2 rfl ?_
    refine bg_aload0 rfl ?_
    refine bg_getfield rfl rfl hR.1 (by rfl) ?_
    refine bg_iload2 rfl ?_
    refine bg_iconst rfl ?_
    refine bg_iadd rfl ?_
    rw [nI_1]
    refine bg_iaload_n rfl (sR9 hR) (by omega) (by omega) ?_
    refine bg_iastore_n rfl (sR9 hR) (by omega) (by omega) (fun h75 f75 g75 => ?_)
    obtain ⟨hR, hF1⟩ := RO.a8 hR f75 g75
    replace hP := hP.kp hF1 (by omega)
    replace hY : YO h75 y J u v := (hF1 y (by omega)).trans hY
    replace hF := hF.trans hF1
    refine bg_iinc2 rfl rfl ?_
    rw [nI_1]
    refine bg_goto rfl ?_
    exact ih (k + 1) (by omega) (by omega) hR hP hY (fun a ha => by
      show (if a = 8 then _ else if a = 7 then _ else if a = 6 then _ else if a = 5 then _ else A1 a) = A a
      rw [if_neg (by omega), if_neg (by omega), if_neg (by omega), if_neg (by omega)]
      exact hA a ha) (TI_s hpk (by omega) hT rfl rfl rfl rfl) hF

theorem rw_take {p : Nat} (hi : p < (S.2 3).length) (hW : RW h r y u v P S J K C bs) (hQ : ∀ h', RW h' r y u v P (S.1, uT S.2 3 ((S.2 3).eraseIdx p)) J K C bs → fr h h' r (r + 14) → Q (.inl none) h' n) : bk_wp V (d + 1) 137 [.ref r, .int (nI p)] h n B Q := by
  obtain ⟨I, A, hR, hr, hP, hY, hp, hs, hv, hd1, hd2, hbs⟩ := id hW
  have hl : (S.2 3).length ≤ 30 := hs.2.1.2.2.2.1.1
  have hI6 : I 6 = nI (S.2 3).length := hr.1.2.1
  have hF : fr h h r (r + 14) := fr.refl
  have hdn : I 6 - 1 = nI ((S.2 3).length - 1) := by
    rw [hI6, show (S.2 3).length = (S.2 3).length - 1 + 1 by omega, nI_dn, Nat.add_sub_cancel]
  have hr0 := hr
  refine bg_in rfl rfl ?_
  refine bg_aload0 rfl ?_
  refine bg_dup rfl rfl ?_
  refine bg_getfield rfl rfl hR.1 (by rfl) ?_
  refine bg_iconst rfl ?_
  refine bg_isub rfl ?_
  refine bg_putfield rfl rfl hR.1 (by rfl) ⟨rfl, rfl⟩ (by rfl) (fun h7 f7 g7 => ?_)
  obtain ⟨hR, hF1⟩ := RO.i6 hR f7 g7
  replace hP := hP.kp hF1 (by omega)
  replace hY : YO h7 y J u v := (hF1 y (by omega)).trans hY
  replace hF := hF.trans hF1
  refine bg_iload1 rfl ?_
  refine bg_istore2 rfl rfl ?_
  refine rw_takeL (S := S) (A := A) (I1 := upd I 6 (I 6 - 1)) (p := p) hdn hl hd1 hd2 (fun h' A' a b c e f g => hQ h' (RW_i a (TI_fin hr hi (by rw [hdn]) e f) b c hp (SH_3 hs (shT_er hs.2.1.2.2.2.1)) (IV_3 hv (fun i hi2 => ?_)) hd1 hd2 (by rw [e 11 (by decide)]; exact hbs)) g) ((S.2 3).length - 1 - p) p (by omega) (Nat.le_refl _) hR hP hY (fun a _ => rfl) (fun i hi2 => ?_) hF
  · rw [List.length_eraseIdx_of_lt hi] at hi2
    rw [tg_erase]
    exact hv.2.2.1 _ (by split <;> omega)
  · rw [if_neg (by omega)]
    exact hr.2.2.2.2.1 i hi2
end RB
