/-! THE WRAPPERS' HANDLERS. -/
def bk_hq (pc : Nat) (E : String) (q : Nat × Nat × Nat × Nat) (t : Nat × Nat × Nat) : Bool := covers ⟨q.1, q.2.1, q.2.2.1, q.2.2.2⟩ pc && !(Nat.beq q.2.2.2 0) && Nat.beq q.2.2.1 t.1 && bk_has (.classLink "BarkMakersLaw" q.2.2.2 E) && bk_has (.castable E E)
def bk_hn (E : String) (q : Nat × Nat × Nat × Nat) : Bool := !(Nat.beq q.2.2.2 0) && ((decide (E = "java/lang/IllegalArgumentException") && bk_has (.classLink "BarkMakersLaw" q.2.2.2 "java/lang/IndexOutOfBoundsException")) ||
  (decide (E = "java/lang/IndexOutOfBoundsException") && bk_has (.classLink "BarkMakersLaw" q.2.2.2 "java/lang/IllegalArgumentException")))
def bk_hx (j pc : Nat) (E : String) (t : Nat × Nat × Nat) : Bool := match bk_hh j with
  | [q] => bk_hq pc E q t
  | [q, r] => bk_hq pc E q t || (bk_hq pc E r t && bk_hn E q)
  | _ => false
def bk_hi (j : Nat) (t : Nat × Nat × Nat) : Bool := match bk_ins j t.1 with
  | some (.astore_n i, nx, _) => Nat.beq nx t.2.1 && Nat.beq i t.2.2
  | some (.astore i, nx, _) => Nat.beq nx t.2.1 && Nat.beq i t.2.2
  | _ => false
def bk_hp (j pc : Nat) (E : String) (t : Nat × Nat × Nat) : Bool := match bk_ins j pc with
  | some (.invokevirtual ix, _) => (match bk_cal (bk_own j) ix with
    | some (5, _, _) => bk_hx j pc E t
    | _ => true)
  | _ => true
def bk_hchk (E : String) (j : Nat) (t : Nat × Nat × Nat) : Bool := bk_hi j t && Nat.beq (bk_own j) 14 && (List.range (bk_m j).2.1).all (fun pc => bk_hp j pc E t)
theorem bk_aif {β : Type} {c : String → Nat → β → Bool} {j : Nat} {E a : String} {x : β} {o : Option β} (h : c a j x = true) (ho : bk_al (c E j) o) : bk_al (c E j) (if E = a then some x else o) := by
  intro e he
  by_cases q : E = a
  · rw [if_pos q] at he
    cases he
    rw [q]
    exact h
  · rw [if_neg q] at he
    exact ho e he
theorem bk_an {β : Type} {c : β → Bool} : bk_al c none := fun _ h => nomatch h
theorem bk_hdl_ok (j : Nat) (E : String) : bk_al (bk_hchk E j) (bk_hdl j E) := (bk_ae (bk_ae (bk_ae (bk_ae (bk_ao (c := bk_hchk E) (bk_aif (c := bk_hchk) (by decide +kernel) bk_an)) (bk_ao (c := bk_hchk E) (bk_aif (c := bk_hchk) (by decide +kernel) bk_an))) (bk_ae (bk_ao (c := bk_hchk E) (bk_aif (c := bk_hchk) (by decide +kernel) bk_an)) (bk_ae (bk_ao (c := bk_hchk E) (bk_aif (c := bk_hchk) (by decide +kernel) bk_an)) (bk_ao (c := bk_hchk E) (bk_aif (c := bk_hchk) (by decide +kernel) bk_an))))) (bk_ae (bk_ae (bk_ao (c := bk_hchk E) (bk_aif (c := bk_hchk) (by decide +kernel) bk_an)) (bk_ao (c := bk_hchk E) (bk_aif (c := bk_hchk) (by decide +kernel) bk_an))) (bk_ae (bk_ao (c := bk_hchk E) (bk_aif (c := bk_hchk) (by decide +kernel) bk_an)) (bk_ae (bk_ao (c := bk_hchk E) (bk_aif (c := bk_hchk) (by decide +kernel) bk_an)) (bk_ao (c := bk_hchk E) (bk_aif (c := bk_hchk) (by decide +kernel) bk_an)))))) (bk_ae (bk_ae (bk_ae (bk_ao (c := bk_hchk E) (bk_aif (c := bk_hchk) (by decide +kernel) bk_an)) (bk_ao (c := bk_hchk E) (bk_aif (c := bk_hchk) (by decide +kernel) (bk_aif (c := bk_hchk) (by decide +kernel) bk_an)))) (bk_ae (bk_ao (c := bk_hchk E) (bk_aif (c := bk_hchk) (by decide +kernel) bk_an)) (bk_ae (bk_ao (c := bk_hchk E) (bk_aif (c := bk_hchk) (by decide +kernel) (bk_aif (c := bk_hchk) (by decide +kernel) bk_an))) (bk_ao (c := bk_hchk E) (bk_aif (c := bk_hchk) (by decide +kernel) bk_an))))) (bk_ae (bk_ae (bk_ao (c := bk_hchk E) (bk_aif (c := bk_hchk) (by decide +kernel) bk_an)) (bk_ao (c := bk_hchk E) (bk_aif (c := bk_hchk) (by decide +kernel) (bk_aif (c := bk_hchk) (by decide +kernel) bk_an)))) (bk_ae (bk_ao (c := bk_hchk E) (bk_aif (c := bk_hchk) (by decide +kernel) bk_an)) (bk_ae (bk_ao (c := bk_hchk E) (bk_aif (c := bk_hchk) (by decide +kernel) bk_an)) (bk_ao (c := bk_hchk E) (bk_aif (c := bk_hchk) (by decide +kernel) bk_an)))))))
