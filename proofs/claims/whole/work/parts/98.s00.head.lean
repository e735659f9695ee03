/-! THE LAW: from its entry. -/
section LH
variable {V : bk_V} {d : Nat} {B : Nat × Nat} {Q : bk_R → bk_H → Nat → Prop} {a m : Nat} {w : Nat → Int32} {h : bk_H} {n : Nat}
theorem law_head (hV : AV V a m w) (hm : m ≤ 3072) (ha : a < n) (hQ : ∀ h n, Q (.inl (some (.int 1))) h n) (hB1 : 40000 ≤ B.1) (hB2 : 800000 ≤ B.2) : bk_g V (d + 70) 246 B Q 0 [some (.ref a), none, none, none, none, none, none, none, none] [] h n (0, 0) := by
  refine bg_new rfl rfl (by rfl) (by show 0 + 1 ≤ B.1; omega) (by show 0 + 11 ≤ B.2; omega) (fun h0 f0 g0 => ?_)
  refine bg_dup rfl rfl ?_
  refine bg_spec0B (b := (69, 7183)) rfl rfl rfl rfl (by show 0 + 1 + 69 ≤ B.1; omega) (by show 0 + 11 + 7183 ≤ B.2; omega) ?_
  refine bi_make (d := d + 66) f0 rfl (Nat.le_refl _) (Nat.le_refl _) (fun h1 hC w1 => bk_Kv ?_)
  refine bg_astore1 rfl rfl ?_
  refine bg_new rfl rfl (by rfl) (by show 0 + 1 + 69 + 1 ≤ B.1; omega) (by show 0 + 11 + 7183 + 15 ≤ B.2; omega) (fun h8 f8 g8 => ?_)
  refine bg_dup rfl rfl ?_
  refine bg_spec0B (b := (50, 6686)) rfl rfl rfl rfl (by show 0 + 1 + 69 + 1 + 50 ≤ B.1; omega) (by show 0 + 11 + 7183 + 15 + 6686 ≤ B.2; omega) ?_
  refine ri_model (d := d + 67) f8 rfl (Nat.le_refl _) (Nat.le_refl _) (fun h2 hM w2 => bk_Kv ?_)
  refine bg_astore2 rfl rfl ?_
  refine bg_iconst rfl ?_
  refine bg_newarray_long rfl (N := 1) (by decide) (by decide) (by show 0 + 1 + 69 + 1 + 50 + 1 ≤ B.1; omega) (by show 0 + 11 + 7183 + 15 + 6686 + 1 ≤ B.2; omega) (by decide) (fun h17 f17 g17 => ?_)
  refine bg_astore3 rfl rfl ?_
  refine bg_iconst rfl ?_
  refine bg_istore4 rfl rfl ?_
  have hL : LW (n + 122) a n (n + 70) (n + 121) := ⟨ha, by omega, by omega, by omega⟩
  have hC : CM h17 n [] (fun _ => []) S0F (-1) := hC.kq fun q q1 q2 => (g17 q (by omega)).trans ((w2 q (by omega)).trans (g8 q (by omega)))
  have hM : MD h17 (n + 70) (n + 70 + 7) (n + 70 + 7) [] (fun _ => []) S0F J0F K0F C0F := hM.kp fun q hq => g17 q (by omega)
  have hz : LI V h17 (n + 122) a m w n (n + 70) (n + 121) 0 := ⟨_, _, _, _, _, _, _, _, _, _, hC, hM, rfl, fun o ho => absurd ho (Nat.not_lt_zero o), fun o ho => absurd ho (Nat.not_lt_zero o), GI_n, rfl, f17, hV, by omega, Or.inl ⟨by omega, by omega⟩⟩
  exact law_loop hV (by omega) hQ 512 0 0 (n + 122) h17 _ _ _ _ _ hz hL (by omega) (by omega) (by omega) (by show 0 + 1 + 69 + 1 + 50 + 1 + 71 * 512 ≤ B.1; omega) (by show 0 + 11 + 7183 + 15 + 6686 + 1 + 1415 * 512 ≤ B.2; omega)
end LH
