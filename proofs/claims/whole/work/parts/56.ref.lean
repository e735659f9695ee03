/-! THE REFERENCE: what soaking leaves. Printed by wip/whole/mk56.py. -/
theorem tS_self {t : bT} {r c w : Nat} (hw : ∀ q ∈ t, q.length = w) (hc : c < w) : tS t r c (tg t r c) = t := by
  unfold tS tg
  by_cases hr : r < t.length
  · have hx : c < (t.getD r []).length := by
      rw [gD_lt hr, hw _ (List.getElem_mem hr)]
      exact hc
    rw [gD_lt hx, List.set_getElem_self, gD_lt hr, List.set_getElem_self]
  · exact List.set_eq_of_length_le (by omega)
theorem rS_nI {t : bT} {i c : Nat} {v : Int32} (h : i < 2 ^ 31) : rS t (nI i) c v = tS t i c v := by
  unfold rS
  rw [if_neg (nI_pos h), nI_clamp h]
theorem RR_soak {P : Nat → bT} {S : bS} {I : rI} {A : rA} {b : Nat} {x z : Int32} (hs : SH P S) (hr : RR S I A) (hb : b < (S.2 0).length) : RR (S.1, uT S.2 0 (rS (rS (S.2 0) (nI b) 0 x) (nI b) 1 z)) I (uA (uA A 0 (upd (A 0) b x)) 1 (upd (A 1) b z)) := by
  have hw : ∀ q ∈ S.2 0, q.length = 3 := hs.2.1.1.2
  have hl : (S.2 0).length ≤ 5 := hs.2.1.1.1
  obtain ⟨h1, h2, h3, h4, h5, h6⟩ := hr
  refine ⟨h1, ?_, h3, h4, h5, h6⟩
  show ∀ i, i < (rS (rS (S.2 0) (nI b) 0 x) (nI b) 1 z).length → upd (A 0) b x i = tg (rS (rS (S.2 0) (nI b) 0 x) (nI b) 1 z) i 0 ∧ upd (A 1) b z i = tg (rS (rS (S.2 0) (nI b) 0 x) (nI b) 1 z) i 1 ∧ A 2 i = tg (rS (rS (S.2 0) (nI b) 0 x) (nI b) 1 z) i 2
  rw [rS_nI (by omega), rS_nI (by omega)]
  intro i hi
  rw [tS_len, tS_len] at hi
  obtain ⟨a0, a1, a2⟩ := h2 i hi
  rw [tg_tS (w := 3) (tS_w hw) (by rw [tS_len]; exact hb) (by decide), tg_tS (w := 3) (tS_w hw) (by rw [tS_len]; exact hb) (by decide), tg_tS (w := 3) (tS_w hw) (by rw [tS_len]; exact hb) (by decide), tg_tS hw hb (by decide), tg_tS hw hb (by decide), tg_tS hw hb (by decide), a2, ← a0, ← a1]
  unfold upd
  by_cases e : i = b <;> simp [e]
