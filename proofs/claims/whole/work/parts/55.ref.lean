/-! THE REFERENCE: a Plan says the list. Printed by wip/whole/mk55.py. -/
def OP (P : Nat → bT) (C : rA) (o : Nat) : Prop :=
  C 7 o = rG (P 3) (nI o) 0 - 1 ∧ (rG (P 3) (nI o) 0 = 11 → (∃ b, b < (P 0).length ∧ rG (P 3) (nI o) 1 = nI b ∧ C 9 o = nI b) ∧ ∃ a e, C 10 o = nI a ∧ C 11 o = nI e ∧ sgO P (C 13) o 3 4 a e ∧ a < e) ∧ (rG (P 3) (nI o) 0 = 13 → (∃ b, b < (P 1).length ∧ rG (P 3) (nI o) 1 = nI b ∧ C 8 o = nI b) ∧ ∃ b, b < (P 0).length ∧ rG (P 3) (nI o) 2 = nI b ∧ C 9 o = nI b) ∧ (rG (P 3) (nI o) 0 = 15 → (∃ b, b < (P 2).length ∧ rG (P 3) (nI o) 1 = nI b ∧ C 8 o = nI b) ∧ ∃ b, b < (P 0).length ∧ rG (P 3) (nI o) 2 = nI b ∧ C 9 o = nI b) ∧ (∃ a e, C 11 o = nI a ∧ C 12 o = nI e ∧ sgO P (C 13) o 5 6 a e) ∧ ∀ S : bS, rck P S (nI o) 5 6 = 0 ∨ rck P S (nI o) 5 6 = 1
def RP (P : Nat → bT) (K : rI) (C : rA) : Prop :=
  (∀ k, k < 4 → K k = nI (P k).length) ∧ (∀ i, i < (P 0).length → C 0 i = tg (P 0) i 0 ∧ C 1 i = tg (P 0) i 1) ∧ (∀ i, i < (P 1).length → C 2 i = tg (P 1) i 0 ∧ C 3 i = tg (P 1) i 1) ∧
  (∀ i, i < (P 2).length → C 4 i = tg (P 2) i 0 ∧ C 5 i = tg (P 2) i 1 ∧ C 6 i = tg (P 2) i 2) ∧ ∀ o, o < (P 3).length → OP P C o
section RB
variable {V : bk_V} {d n : Nat} {B : Nat × Nat} {Q : bk_R → bk_H → Nat → Prop} {h : bk_H} {r y u v : Nat} {P : Nat → bT} {S : bS} {I J K : rI} {A C : rA} {cs : Nat × Nat}
theorem rb_test {o : Nat} (ho : o < (P 3).length) (hp : RP P K C) (hs : SH P S) (hd1 : u + 16 ≤ r ∨ r + 14 ≤ u) (hd2 : y < r ∨ r + 14 ≤ y) (hR : RO h r y I A) (hr : RR S I A) (hP : PO h u K C) (hY : YO h y J u v) (hQ : ∀ h' A', RO h' r y I A' → RR S I A' → fr h h' (r + 13) (r + 14) → Q (.inl (some (.int ((if ¬ rck P S (nI o) 5 6 = 0 then 1 else 0))))) h' n) : bk_wp V (d + 5) 129 [.ref r, .int (nI o)] h n B Q := by
  have hl : (P 3).length ≤ 24 := hs.1.2.2.2.1.1
  obtain ⟨_, _, _, _, ht, hb⟩ := hp.2.2.2.2 o ho
  refine rb_holds (by omega) hs hd1 hd2 hR hr hP hY ht (fun h' A' a b c => bQ (hQ h' A' a b c) ?_)
  rcases hb S with q | q <;> rw [q] <;> decide
end RB
