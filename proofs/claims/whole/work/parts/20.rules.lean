/-! RULES, one an instruction: a walk in the abstract goes on behind it. Printed by wip/whole/mk20.py. -/
section BG
variable {V : bk_V} {d j pc nx : Nat} {B : Nat × Nat} {Q : bk_R → bk_H → Nat → Prop} {L : bk_L} {st r : List Value} {h : bk_H} {n : Nat} {cs : Nat × Nat} {c : Int32} {sw : List (Int32 × Nat)}
abbrev bk_g (V : bk_V) (d j : Nat) (B : Nat × Nat) (Q : bk_R → bk_H → Nat → Prop) (pc : Nat) (L : bk_L) (st : List Value) (h : bk_H) (n : Nat) (cs : Nat × Nat) : Prop := bk_go V (bk_wp V d) j B Q pc L st h n cs
theorem bg_in {As : List Value} (hl : Nat.ble (bk_arg As).length (bk_max j) = true) (he : bk_ent (bk_max j) As = L) (z : bk_g V d j B Q 0 L [] h n (0, 0)) : bk_wp V (d + 1) j As h n B Q := by
  show bk_gd _ _
  rw [hl, he]
  exact z
def bk_c1 (a : Option Value) : Bool := match a with
  | some w => Nat.beq w.category 1
  | none => true
theorem bk_gdI {b : Bool} {P : Prop} (h : b = true) (z : P) : bk_gd b P := by
  rw [h]
  exact z
theorem bk_bltI {a b : Nat} (h : a < b) : Nat.blt a b = true := Nat.ble_eq_true_of_le h
theorem bk_stE {L : bk_L} {k : Nat} {a : Option Value} {v : Value} (ha : L[k]? = some a) (hc : bk_c1 a = true) : bk_st L (k + 1) v = L.set (k + 1) (some v) := by
  have e : bk_kl L (k + 1) = L := by
    show (match L[k]? with
      | some (some w) => if w.category = 2 then L.set k none else L
      | _ => L) = L
    rw [ha]
    cases a with
    | none => rfl
    | some w =>
      have h2 : ¬ w.category = 2 := by
        have := Nat.eq_of_beq_eq_true hc
        omega
      exact if_neg h2
  unfold bk_st
  rw [e]
theorem bk_ldiI {L : bk_L} {k : Nat} {f : Int32 → Prop} {x : Int32} (hl : L[k]? = some (some (.int x))) (z : f x) : bk_ldi L k f := by
  unfold bk_ldi
  rw [hl]
  exact z
theorem bk_x1I {x : Int32} {r : List Value} {f : Int32 → List Value → Prop} (z : f x r) : bk_x1 (.int x :: r) f := z
theorem bg_mono {D : Nat} {As : List Value} {Q' : bk_R → bk_H → Nat → Prop} (z : bk_wp V D j As h n B Q') (hq : ∀ r h n, Q' r h n → Q r h n) : bk_wp V D j As h n B Q := bk_wp_mono D _ _ _ _ _ _ _ hq z
theorem bg_iconst {k} (hi : bk_ins j pc = some (.iconst k, nx, sw, c)) (z : bk_g V d j B Q nx L (.int c :: st) h n cs) : bk_g V d j B Q pc L st h n cs := by
  refine bk_go_s (bk_wp_mono d) ?_
  unfold bk_s1
  rw [hi]
  exact z
theorem bg_bipush {k} (hi : bk_ins j pc = some (.bipush k, nx, sw, c)) (z : bk_g V d j B Q nx L (.int c :: st) h n cs) : bk_g V d j B Q pc L st h n cs := by
  refine bk_go_s (bk_wp_mono d) ?_
  unfold bk_s1
  rw [hi]
  exact z
theorem bg_sipush {k} (hi : bk_ins j pc = some (.sipush k, nx, sw, c)) (z : bk_g V d j B Q nx L (.int c :: st) h n cs) : bk_g V d j B Q pc L st h n cs := by
  refine bk_go_s (bk_wp_mono d) ?_
  unfold bk_s1
  rw [hi]
  exact z
theorem bg_lconst {k} (hi : bk_ins j pc = some (.lconst k, nx, sw, c)) (z : bk_g V d j B Q nx L (.long (Int64.ofNat (k : Nat)) :: st) h n cs) : bk_g V d j B Q pc L st h n cs := by
  refine bk_go_s (bk_wp_mono d) ?_
  unfold bk_s1
  rw [hi]
  exact z
theorem bg_dconst {k} (hi : bk_ins j pc = some (.dconst k, nx, sw, c)) (hk : Nat.beq (k : Nat) 0 = true) (z : bk_g V d j B Q nx L (.double FP.dconst0 :: st) h n cs) : bk_g V d j B Q pc L st h n cs := by
  refine bk_go_s (bk_wp_mono d) ?_
  unfold bk_s1
  rw [hi]
  show bk_gd _ _
  rw [hk]
  exact z
theorem bg_iload0 {lr : bk_L} {x} (hi : bk_ins j pc = some (.iload_n 0, nx, sw, c)) (z : bk_g V d j B Q nx (some (.int x) :: lr) (.int x :: st) h n cs) : bk_g V d j B Q pc (some (.int x) :: lr) st h n cs := by
  refine bk_go_s (bk_wp_mono d) ?_
  unfold bk_s1
  rw [hi]
  exact z
theorem bg_istore0 {a0 : Option Value} {lr : bk_L} {x} (hi : bk_ins j pc = some (.istore_n 0, nx, sw, c)) (z : bk_g V d j B Q nx (some (.int x) :: lr) r h n cs) : bk_g V d j B Q pc (a0 :: lr) (.int x :: r) h n cs := by
  refine bk_go_s (bk_wp_mono d) ?_
  unfold bk_s1
  rw [hi]
  refine bk_x1I ?_
  refine bk_gdI (bk_bltI (by show 0 < _; simp only [List.length_cons]; omega)) ?_
  show bk_g V d j B Q nx (bk_st (a0 :: lr) 0 (.int x)) r h n cs
  rw [show bk_st (a0 :: lr) 0 (.int x) = (some (.int x) :: lr) from rfl]
  exact z
theorem bg_iinc0 {lr : bk_L} {x i} (hi : bk_ins j pc = some (.iinc 0 i, nx, sw, c)) (z : bk_g V d j B Q nx (some (.int (x + c)) :: lr) st h n cs) : bk_g V d j B Q pc (some (.int x) :: lr) st h n cs := by
  refine bk_go_s (bk_wp_mono d) ?_
  unfold bk_s1
  rw [hi]
  refine bk_ldiI (x := x) rfl ?_
  refine bk_gdI (bk_bltI (by show 0 < _; simp only [List.length_cons]; omega)) ?_
  show bk_g V d j B Q nx (bk_st (some (.int x) :: lr) 0 (.int (x + c))) st h n cs
  rw [show bk_st (some (.int x) :: lr) 0 (.int (x + c)) = (some (.int (x + c)) :: lr) from rfl]
  exact z
theorem bg_lload0 {lr : bk_L} {x} (hi : bk_ins j pc = some (.lload_n 0, nx, sw, c)) (z : bk_g V d j B Q nx (some (.long x) :: lr) (.long x :: st) h n cs) : bk_g V d j B Q pc (some (.long x) :: lr) st h n cs := by
  refine bk_go_s (bk_wp_mono d) ?_
  unfold bk_s1
  rw [hi]
  exact z
theorem bg_lstore0 {a0 a1 : Option Value} {lr : bk_L} {x} (hi : bk_ins j pc = some (.lstore_n 0, nx, sw, c)) (z : bk_g V d j B Q nx (some (.long x) :: none :: lr) r h n cs) : bk_g V d j B Q pc (a0 :: a1 :: lr) (.long x :: r) h n cs := by
  refine bk_go_s (bk_wp_mono d) ?_
  unfold bk_s1
  rw [hi]
  refine bk_gdI (bk_bltI (by show 1 < _; simp only [List.length_cons]; omega)) ?_
  show bk_g V d j B Q nx (bk_st2 (a0 :: a1 :: lr) 0 (.long x)) r h n cs
  unfold bk_st2
  rw [show bk_st (a0 :: a1 :: lr) 0 (.long x) = (some (.long x) :: a1 :: lr) from rfl]
  exact z
theorem bg_dload0 {lr : bk_L} {x} (hi : bk_ins j pc = some (.dload_n 0, nx, sw, c)) (z : bk_g V d j B Q nx (some (.double x) :: lr) (.double x :: st) h n cs) : bk_g V d j B Q pc (some (.double x) :: lr) st h n cs := by
  refine bk_go_s (bk_wp_mono d) ?_
  unfold bk_s1
  rw [hi]
  exact z
theorem bg_aload0 {lr : bk_L} {x} (hi : bk_ins j pc = some (.aload_n 0, nx, sw, c)) (z : bk_g V d j B Q nx (some (.ref x) :: lr) (.ref x :: st) h n cs) : bk_g V d j B Q pc (some (.ref x) :: lr) st h n cs := by
  refine bk_go_s (bk_wp_mono d) ?_
  unfold bk_s1
  rw [hi]
  exact z
theorem bg_astore0 {a0 : Option Value} {lr : bk_L} {x} (hi : bk_ins j pc = some (.astore_n 0, nx, sw, c)) (z : bk_g V d j B Q nx (some (.ref x) :: lr) r h n cs) : bk_g V d j B Q pc (a0 :: lr) (.ref x :: r) h n cs := by
  refine bk_go_s (bk_wp_mono d) ?_
  unfold bk_s1
  rw [hi]
  refine bk_gdI (bk_bltI (by show 0 < _; simp only [List.length_cons]; omega)) ?_
  show bk_g V d j B Q nx (bk_st (a0 :: lr) 0 (.ref x)) r h n cs
  rw [show bk_st (a0 :: lr) 0 (.ref x) = (some (.ref x) :: lr) from rfl]
  exact z
theorem bg_iload1 {a0 : Option Value} {lr : bk_L} {x} (hi : bk_ins j pc = some (.iload_n 1, nx, sw, c)) (z : bk_g V d j B Q nx (a0 :: some (.int x) :: lr) (.int x :: st) h n cs) : bk_g V d j B Q pc (a0 :: some (.int x) :: lr) st h n cs := by
  refine bk_go_s (bk_wp_mono d) ?_
  unfold bk_s1
  rw [hi]
  exact z
theorem bg_istore1 {a0 a1 : Option Value} {lr : bk_L} {x} (hi : bk_ins j pc = some (.istore_n 1, nx, sw, c)) (hc : bk_c1 a0 = true) (z : bk_g V d j B Q nx (a0 :: some (.int x) :: lr) r h n cs) : bk_g V d j B Q pc (a0 :: a1 :: lr) (.int x :: r) h n cs := by
  refine bk_go_s (bk_wp_mono d) ?_
  unfold bk_s1
  rw [hi]
  refine bk_x1I ?_
  refine bk_gdI (bk_bltI (by show 1 < _; simp only [List.length_cons]; omega)) ?_
  show bk_g V d j B Q nx (bk_st (a0 :: a1 :: lr) 1 (.int x)) r h n cs
  rw [show bk_st (a0 :: a1 :: lr) 1 (.int x) = (a0 :: some (.int x) :: lr) from bk_stE (L := (a0 :: a1 :: lr)) (k := 0) rfl hc]
  exact z
theorem bg_iinc1 {a0 : Option Value} {lr : bk_L} {x i} (hi : bk_ins j pc = some (.iinc 1 i, nx, sw, c)) (hc : bk_c1 a0 = true) (z : bk_g V d j B Q nx (a0 :: some (.int (x + c)) :: lr) st h n cs) : bk_g V d j B Q pc (a0 :: some (.int x) :: lr) st h n cs := by
  refine bk_go_s (bk_wp_mono d) ?_
  unfold bk_s1
  rw [hi]
  refine bk_ldiI (x := x) rfl ?_
  refine bk_gdI (bk_bltI (by show 1 < _; simp only [List.length_cons]; omega)) ?_
  show bk_g V d j B Q nx (bk_st (a0 :: some (.int x) :: lr) 1 (.int (x + c))) st h n cs
  rw [show bk_st (a0 :: some (.int x) :: lr) 1 (.int (x + c)) = (a0 :: some (.int (x + c)) :: lr) from bk_stE (L := (a0 :: some (.int x) :: lr)) (k := 0) rfl hc]
  exact z
theorem bg_lload1 {a0 : Option Value} {lr : bk_L} {x} (hi : bk_ins j pc = some (.lload_n 1, nx, sw, c)) (z : bk_g V d j B Q nx (a0 :: some (.long x) :: lr) (.long x :: st) h n cs) : bk_g V d j B Q pc (a0 :: some (.long x) :: lr) st h n cs := by
  refine bk_go_s (bk_wp_mono d) ?_
  unfold bk_s1
  rw [hi]
  exact z
theorem bg_lstore1 {a0 a1 a2 : Option Value} {lr : bk_L} {x} (hi : bk_ins j pc = some (.lstore_n 1, nx, sw, c)) (hc : bk_c1 a0 = true) (z : bk_g V d j B Q nx (a0 :: some (.long x) :: none :: lr) r h n cs) : bk_g V d j B Q pc (a0 :: a1 :: a2 :: lr) (.long x :: r) h n cs := by
  refine bk_go_s (bk_wp_mono d) ?_
  unfold bk_s1
  rw [hi]
  refine bk_gdI (bk_bltI (by show 2 < _; simp only [List.length_cons]; omega)) ?_
  show bk_g V d j B Q nx (bk_st2 (a0 :: a1 :: a2 :: lr) 1 (.long x)) r h n cs
  unfold bk_st2
  rw [show bk_st (a0 :: a1 :: a2 :: lr) 1 (.long x) = (a0 :: some (.long x) :: a2 :: lr) from bk_stE (L := (a0 :: a1 :: a2 :: lr)) (k := 0) rfl hc]
  exact z
theorem bg_dload1 {a0 : Option Value} {lr : bk_L} {x} (hi : bk_ins j pc = some (.dload_n 1, nx, sw, c)) (z : bk_g V d j B Q nx (a0 :: some (.double x) :: lr) (.double x :: st) h n cs) : bk_g V d j B Q pc (a0 :: some (.double x) :: lr) st h n cs := by
  refine bk_go_s (bk_wp_mono d) ?_
  unfold bk_s1
  rw [hi]
  exact z
theorem bg_aload1 {a0 : Option Value} {lr : bk_L} {x} (hi : bk_ins j pc = some (.aload_n 1, nx, sw, c)) (z : bk_g V d j B Q nx (a0 :: some (.ref x) :: lr) (.ref x :: st) h n cs) : bk_g V d j B Q pc (a0 :: some (.ref x) :: lr) st h n cs := by
  refine bk_go_s (bk_wp_mono d) ?_
  unfold bk_s1
  rw [hi]
  exact z
theorem bg_astore1 {a0 a1 : Option Value} {lr : bk_L} {x} (hi : bk_ins j pc = some (.astore_n 1, nx, sw, c)) (hc : bk_c1 a0 = true) (z : bk_g V d j B Q nx (a0 :: some (.ref x) :: lr) r h n cs) : bk_g V d j B Q pc (a0 :: a1 :: lr) (.ref x :: r) h n cs := by
  refine bk_go_s (bk_wp_mono d) ?_
  unfold bk_s1
  rw [hi]
  refine bk_gdI (bk_bltI (by show 1 < _; simp only [List.length_cons]; omega)) ?_
  show bk_g V d j B Q nx (bk_st (a0 :: a1 :: lr) 1 (.ref x)) r h n cs
  rw [show bk_st (a0 :: a1 :: lr) 1 (.ref x) = (a0 :: some (.ref x) :: lr) from bk_stE (L := (a0 :: a1 :: lr)) (k := 0) rfl hc]
  exact z
theorem bg_iload2 {a0 a1 : Option Value} {lr : bk_L} {x} (hi : bk_ins j pc = some (.iload_n 2, nx, sw, c)) (z : bk_g V d j B Q nx (a0 :: a1 :: some (.int x) :: lr) (.int x :: st) h n cs) : bk_g V d j B Q pc (a0 :: a1 :: some (.int x) :: lr) st h n cs := by
  refine bk_go_s (bk_wp_mono d) ?_
  unfold bk_s1
  rw [hi]
  exact z
theorem bg_istore2 {a0 a1 a2 : Option Value} {lr : bk_L} {x} (hi : bk_ins j pc = some (.istore_n 2, nx, sw, c)) (hc : bk_c1 a1 = true) (z : bk_g V d j B Q nx (a0 :: a1 :: some (.int x) :: lr) r h n cs) : bk_g V d j B Q pc (a0 :: a1 :: a2 :: lr) (.int x :: r) h n cs := by
  refine bk_go_s (bk_wp_mono d) ?_
  unfold bk_s1
  rw [hi]
  refine bk_x1I ?_
  refine bk_gdI (bk_bltI (by show 2 < _; simp only [List.length_cons]; omega)) ?_
  show bk_g V d j B Q nx (bk_st (a0 :: a1 :: a2 :: lr) 2 (.int x)) r h n cs
  rw [show bk_st (a0 :: a1 :: a2 :: lr) 2 (.int x) = (a0 :: a1 :: some (.int x) :: lr) from bk_stE (L := (a0 :: a1 :: a2 :: lr)) (k := 1) rfl hc]
  exact z
theorem bg_iinc2 {a0 a1 : Option Value} {lr : bk_L} {x i} (hi : bk_ins j pc = some (.iinc 2 i, nx, sw, c)) (hc : bk_c1 a1 = true) (z : bk_g V d j B Q nx (a0 :: a1 :: some (.int (x + c)) :: lr) st h n cs) : bk_g V d j B Q pc (a0 :: a1 :: some (.int x) :: lr) st h n cs := by
  refine bk_go_s (bk_wp_mono d) ?_
  unfold bk_s1
  rw [hi]
  refine bk_ldiI (x := x) rfl ?_
  refine bk_gdI (bk_bltI (by show 2 < _; simp only [List.length_cons]; omega)) ?_
  show bk_g V d j B Q nx (bk_st (a0 :: a1 :: some (.int x) :: lr) 2 (.int (x + c))) st h n cs
  rw [show bk_st (a0 :: a1 :: some (.int x) :: lr) 2 (.int (x + c)) = (a0 :: a1 :: some (.int (x + c)) :: lr) from bk_stE (L := (a0 :: a1 :: some (.int x) :: lr)) (k := 1) rfl hc]
  exact z
theorem bg_lload2 {a0 a1 : Option Value} {lr : bk_L} {x} (hi : bk_ins j pc = some (.lload_n 2, nx, sw, c)) (z : bk_g V d j B Q nx (a0 :: a1 :: some (.long x) :: lr) (.long x :: st) h n cs) : bk_g V d j B Q pc (a0 :: a1 :: some (.long x) :: lr) st h n cs := by
  refine bk_go_s (bk_wp_mono d) ?_
  unfold bk_s1
  rw [hi]
  exact z
theorem bg_lstore2 {a0 a1 a2 a3 : Option Value} {lr : bk_L} {x} (hi : bk_ins j pc = some (.lstore_n 2, nx, sw, c)) (hc : bk_c1 a1 = true) (z : bk_g V d j B Q nx (a0 :: a1 :: some (.long x) :: none :: lr) r h n cs) : bk_g V d j B Q pc (a0 :: a1 :: a2 :: a3 :: lr) (.long x :: r) h n cs := by
  refine bk_go_s (bk_wp_mono d) ?_
  unfold bk_s1
  rw [hi]
  refine bk_gdI (bk_bltI (by show 3 < _; simp only [List.length_cons]; omega)) ?_
  show bk_g V d j B Q nx (bk_st2 (a0 :: a1 :: a2 :: a3 :: lr) 2 (.long x)) r h n cs
  unfold bk_st2
  rw [show bk_st (a0 :: a1 :: a2 :: a3 :: lr) 2 (.long x) = (a0 :: a1 :: some (.long x) :: a3 :: lr) from bk_stE (L := (a0 :: a1 :: a2 :: a3 :: lr)) (k := 1) rfl hc]
  exact z
theorem bg_dload2 {a0 a1 : Option Value} {lr : bk_L} {x} (hi : bk_ins j pc = some (.dload_n 2, nx, sw, c)) (z : bk_g V d j B Q nx (a0 :: a1 :: some (.double x) :: lr) (.double x :: st) h n cs) : bk_g V d j B Q pc (a0 :: a1 :: some (.double x) :: lr) st h n cs := by
  refine bk_go_s (bk_wp_mono d) ?_
  unfold bk_s1
  rw [hi]
  exact z
theorem bg_aload2 {a0 a1 : Option Value} {lr : bk_L} {x} (hi : bk_ins j pc = some (.aload_n 2, nx, sw, c)) (z : bk_g V d j B Q nx (a0 :: a1 :: some (.ref x) :: lr) (.ref x :: st) h n cs) : bk_g V d j B Q pc (a0 :: a1 :: some (.ref x) :: lr) st h n cs := by
  refine bk_go_s (bk_wp_mono d) ?_
  unfold bk_s1
  rw [hi]
  exact z
theorem bg_astore2 {a0 a1 a2 : Option Value} {lr : bk_L} {x} (hi : bk_ins j pc = some (.astore_n 2, nx, sw, c)) (hc : bk_c1 a1 = true) (z : bk_g V d j B Q nx (a0 :: a1 :: some (.ref x) :: lr) r h n cs) : bk_g V d j B Q pc (a0 :: a1 :: a2 :: lr) (.ref x :: r) h n cs := by
  refine bk_go_s (bk_wp_mono d) ?_
  unfold bk_s1
  rw [hi]
  refine bk_gdI (bk_bltI (by show 2 < _; simp only [List.length_cons]; omega)) ?_
  show bk_g V d j B Q nx (bk_st (a0 :: a1 :: a2 :: lr) 2 (.ref x)) r h n cs
  rw [show bk_st (a0 :: a1 :: a2 :: lr) 2 (.ref x) = (a0 :: a1 :: some (.ref x) :: lr) from bk_stE (L := (a0 :: a1 :: a2 :: lr)) (k := 1) rfl hc]
  exact z
theorem bg_iload3 {a0 a1 a2 : Option Value} {lr : bk_L} {x} (hi : bk_ins j pc = some (.iload_n 3, nx, sw, c)) (z : bk_g V d j B Q nx (a0 :: a1 :: a2 :: some (.int x) :: lr) (.int x :: st) h n cs) : bk_g V d j B Q pc (a0 :: a1 :: a2 :: some (.int x) :: lr) st h n cs := by
  refine bk_go_s (bk_wp_mono d) ?_
  unfold bk_s1
  rw [hi]
  exact z
theorem bg_istore3 {a0 a1 a2 a3 : Option Value} {lr : bk_L} {x} (hi : bk_ins j pc = some (.istore_n 3, nx, sw, c)) (hc : bk_c1 a2 = true) (z : bk_g V d j B Q nx (a0 :: a1 :: a2 :: some (.int x) :: lr) r h n cs) : bk_g V d j B Q pc (a0 :: a1 :: a2 :: a3 :: lr) (.int x :: r) h n cs := by
  refine bk_go_s (bk_wp_mono d) ?_
  unfold bk_s1
  rw [hi]
  refine bk_x1I ?_
  refine bk_gdI (bk_bltI (by show 3 < _; simp only [List.length_cons]; omega)) ?_
  show bk_g V d j B Q nx (bk_st (a0 :: a1 :: a2 :: a3 :: lr) 3 (.int x)) r h n cs
  rw [show bk_st (a0 :: a1 :: a2 :: a3 :: lr) 3 (.int x) = (a0 :: a1 :: a2 :: some (.int x) :: lr) from bk_stE (L := (a0 :: a1 :: a2 :: a3 :: lr)) (k := 2) rfl hc]
  exact z
theorem bg_iinc3 {a0 a1 a2 : Option Value} {lr : bk_L} {x i} (hi : bk_ins j pc = some (.iinc 3 i, nx, sw, c)) (hc : bk_c1 a2 = true) (z : bk_g V d j B Q nx (a0 :: a1 :: a2 :: some (.int (x + c)) :: lr) st h n cs) : bk_g V d j B Q pc (a0 :: a1 :: a2 :: some (.int x) :: lr) st h n cs := by
  refine bk_go_s (bk_wp_mono d) ?_
  unfold bk_s1
  rw [hi]
  refine bk_ldiI (x := x) rfl ?_
  refine bk_gdI (bk_bltI (by show 3 < _; simp only [List.length_cons]; omega)) ?_
  show bk_g V d j B Q nx (bk_st (a0 :: a1 :: a2 :: some (.int x) :: lr) 3 (.int (x + c))) st h n cs
  rw [show bk_st (a0 :: a1 :: a2 :: some (.int x) :: lr) 3 (.int (x + c)) = (a0 :: a1 :: a2 :: some (.int (x + c)) :: lr) from bk_stE (L := (a0 :: a1 :: a2 :: some (.int x) :: lr)) (k := 2) rfl hc]
  exact z
theorem bg_lload3 {a0 a1 a2 : Option Value} {lr : bk_L} {x} (hi : bk_ins j pc = some (.lload_n 3, nx, sw, c)) (z : bk_g V d j B Q nx (a0 :: a1 :: a2 :: some (.long x) :: lr) (.long x :: st) h n cs) : bk_g V d j B Q pc (a0 :: a1 :: a2 :: some (.long x) :: lr) st h n cs := by
  refine bk_go_s (bk_wp_mono d) ?_
  unfold bk_s1
  rw [hi]
  exact z
theorem bg_lstore3 {a0 a1 a2 a3 a4 : Option Value} {lr : bk_L} {x} (hi : bk_ins j pc = some (.lstore_n 3, nx, sw, c)) (hc : bk_c1 a2 = true) (z : bk_g V d j B Q nx (a0 :: a1 :: a2 :: some (.long x) :: none :: lr) r h n cs) : bk_g V d j B Q pc (a0 :: a1 :: a2 :: a3 :: a4 :: lr) (.long x :: r) h n cs := by
  refine bk_go_s (bk_wp_mono d) ?_
  unfold bk_s1
  rw [hi]
  refine bk_gdI (bk_bltI (by show 4 < _; simp only [List.length_cons]; omega)) ?_
  show bk_g V d j B Q nx (bk_st2 (a0 :: a1 :: a2 :: a3 :: a4 :: lr) 3 (.long x)) r h n cs
  unfold bk_st2
  rw [show bk_st (a0 :: a1 :: a2 :: a3 :: a4 :: lr) 3 (.long x) = (a0 :: a1 :: a2 :: some (.long x) :: a4 :: lr) from bk_stE (L := (a0 :: a1 :: a2 :: a3 :: a4 :: lr)) (k := 2) rfl hc]
  exact z
theorem bg_dload3 {a0 a1 a2 : Option Value} {lr : bk_L} {x} (hi : bk_ins j pc = some (.dload_n 3, nx, sw, c)) (z : bk_g V d j B Q nx (a0 :: a1 :: a2 :: some (.double x) :: lr) (.double x :: st) h n cs) : bk_g V d j B Q pc (a0 :: a1 :: a2 :: some (.double x) :: lr) st h n cs := by
  refine bk_go_s (bk_wp_mono d) ?_
  unfold bk_s1
  rw [hi]
  exact z
theorem bg_aload3 {a0 a1 a2 : Option Value} {lr : bk_L} {x} (hi : bk_ins j pc = some (.aload_n 3, nx, sw, c)) (z : bk_g V d j B Q nx (a0 :: a1 :: a2 :: some (.ref x) :: lr) (.ref x :: st) h n cs) : bk_g V d j B Q pc (a0 :: a1 :: a2 :: some (.ref x) :: lr) st h n cs := by
  refine bk_go_s (bk_wp_mono d) ?_
  unfold bk_s1
  rw [hi]
  exact z
theorem bg_astore3 {a0 a1 a2 a3 : Option Value} {lr : bk_L} {x} (hi : bk_ins j pc = some (.astore_n 3, nx, sw, c)) (hc : bk_c1 a2 = true) (z : bk_g V d j B Q nx (a0 :: a1 :: a2 :: some (.ref x) :: lr) r h n cs) : bk_g V d j B Q pc (a0 :: a1 :: a2 :: a3 :: lr) (.ref x :: r) h n cs := by
  refine bk_go_s (bk_wp_mono d) ?_
  unfold bk_s1
  rw [hi]
  refine bk_gdI (bk_bltI (by show 3 < _; simp only [List.length_cons]; omega)) ?_
  show bk_g V d j B Q nx (bk_st (a0 :: a1 :: a2 :: a3 :: lr) 3 (.ref x)) r h n cs
  rw [show bk_st (a0 :: a1 :: a2 :: a3 :: lr) 3 (.ref x) = (a0 :: a1 :: a2 :: some (.ref x) :: lr) from bk_stE (L := (a0 :: a1 :: a2 :: a3 :: lr)) (k := 2) rfl hc]
  exact z
theorem bg_iload4 {a0 a1 a2 a3 : Option Value} {lr : bk_L} {x} (hi : bk_ins j pc = some (.iload 4, nx, sw, c)) (z : bk_g V d j B Q nx (a0 :: a1 :: a2 :: a3 :: some (.int x) :: lr) (.int x :: st) h n cs) : bk_g V d j B Q pc (a0 :: a1 :: a2 :: a3 :: some (.int x) :: lr) st h n cs := by
  refine bk_go_s (bk_wp_mono d) ?_
  unfold bk_s1
  rw [hi]
  exact z
theorem bg_istore4 {a0 a1 a2 a3 a4 : Option Value} {lr : bk_L} {x} (hi : bk_ins j pc = some (.istore 4, nx, sw, c)) (hc : bk_c1 a3 = true) (z : bk_g V d j B Q nx (a0 :: a1 :: a2 :: a3 :: some (.int x) :: lr) r h n cs) : bk_g V d j B Q pc (a0 :: a1 :: a2 :: a3 :: a4 :: lr) (.int x :: r) h n cs := by
  refine bk_go_s (bk_wp_mono d) ?_
  unfold bk_s1
  rw [hi]
  refine bk_x1I ?_
  refine bk_gdI (bk_bltI (by show 4 < _; simp only [List.length_cons]; omega)) ?_
  show bk_g V d j B Q nx (bk_st (a0 :: a1 :: a2 :: a3 :: a4 :: lr) 4 (.int x)) r h n cs
  rw [show bk_st (a0 :: a1 :: a2 :: a3 :: a4 :: lr) 4 (.int x) = (a0 :: a1 :: a2 :: a3 :: some (.int x) :: lr) from bk_stE (L := (a0 :: a1 :: a2 :: a3 :: a4 :: lr)) (k := 3) rfl hc]
  exact z
theorem bg_iinc4 {a0 a1 a2 a3 : Option Value} {lr : bk_L} {x i} (hi : bk_ins j pc = some (.iinc 4 i, nx, sw, c)) (hc : bk_c1 a3 = true) (z : bk_g V d j B Q nx (a0 :: a1 :: a2 :: a3 :: some (.int (x + c)) :: lr) st h n cs) : bk_g V d j B Q pc (a0 :: a1 :: a2 :: a3 :: some (.int x) :: lr) st h n cs := by
  refine bk_go_s (bk_wp_mono d) ?_
  unfold bk_s1
  rw [hi]
  refine bk_ldiI (x := x) rfl ?_
  refine bk_gdI (bk_bltI (by show 4 < _; simp only [List.length_cons]; omega)) ?_
  show bk_g V d j B Q nx (bk_st (a0 :: a1 :: a2 :: a3 :: some (.int x) :: lr) 4 (.int (x + c))) st h n cs
  rw [show bk_st (a0 :: a1 :: a2 :: a3 :: some (.int x) :: lr) 4 (.int (x + c)) = (a0 :: a1 :: a2 :: a3 :: some (.int (x + c)) :: lr) from bk_stE (L := (a0 :: a1 :: a2 :: a3 :: some (.int x) :: lr)) (k := 3) rfl hc]
  exact z
theorem bg_lload4 {a0 a1 a2 a3 : Option Value} {lr : bk_L} {x} (hi : bk_ins j pc = some (.lload 4, nx, sw, c)) (z : bk_g V d j B Q nx (a0 :: a1 :: a2 :: a3 :: some (.long x) :: lr) (.long x :: st) h n cs) : bk_g V d j B Q pc (a0 :: a1 :: a2 :: a3 :: some (.long x) :: lr) st h n cs := by
  refine bk_go_s (bk_wp_mono d) ?_
  unfold bk_s1
  rw [hi]
  exact z
theorem bg_lstore4 {a0 a1 a2 a3 a4 a5 : Option Value} {lr : bk_L} {x} (hi : bk_ins j pc = some (.lstore 4, nx, sw, c)) (hc : bk_c1 a3 = true) (z : bk_g V d j B Q nx (a0 :: a1 :: a2 :: a3 :: some (.long x) :: none :: lr) r h n cs) : bk_g V d j B Q pc (a0 :: a1 :: a2 :: a3 :: a4 :: a5 :: lr) (.long x :: r) h n cs := by
  refine bk_go_s (bk_wp_mono d) ?_
  unfold bk_s1
  rw [hi]
  refine bk_gdI (bk_bltI (by show 5 < _; simp only [List.length_cons]; omega)) ?_
  show bk_g V d j B Q nx (bk_st2 (a0 :: a1 :: a2 :: a3 :: a4 :: a5 :: lr) 4 (.long x)) r h n cs
  unfold bk_st2
  rw [show bk_st (a0 :: a1 :: a2 :: a3 :: a4 :: a5 :: lr) 4 (.long x) = (a0 :: a1 :: a2 :: a3 :: some (.long x) :: a5 :: lr) from bk_stE (L := (a0 :: a1 :: a2 :: a3 :: a4 :: a5 :: lr)) (k := 3) rfl hc]
  exact z
theorem bg_dload4 {a0 a1 a2 a3 : Option Value} {lr : bk_L} {x} (hi : bk_ins j pc = some (.dload 4, nx, sw, c)) (z : bk_g V d j B Q nx (a0 :: a1 :: a2 :: a3 :: some (.double x) :: lr) (.double x :: st) h n cs) : bk_g V d j B Q pc (a0 :: a1 :: a2 :: a3 :: some (.double x) :: lr) st h n cs := by
  refine bk_go_s (bk_wp_mono d) ?_
  unfold bk_s1
  rw [hi]
  exact z
theorem bg_dstore4 {a0 a1 a2 a3 a4 a5 : Option Value} {lr : bk_L} {x} (hi : bk_ins j pc = some (.dstore 4, nx, sw, c)) (hc : bk_c1 a3 = true) (z : bk_g V d j B Q nx (a0 :: a1 :: a2 :: a3 :: some (.double x) :: none :: lr) r h n cs) : bk_g V d j B Q pc (a0 :: a1 :: a2 :: a3 :: a4 :: a5 :: lr) (.double x :: r) h n cs := by
  refine bk_go_s (bk_wp_mono d) ?_
  unfold bk_s1
  rw [hi]
  refine bk_gdI (bk_bltI (by show 5 < _; simp only [List.length_cons]; omega)) ?_
  show bk_g V d j B Q nx (bk_st2 (a0 :: a1 :: a2 :: a3 :: a4 :: a5 :: lr) 4 (.double x)) r h n cs
  unfold bk_st2
  rw [show bk_st (a0 :: a1 :: a2 :: a3 :: a4 :: a5 :: lr) 4 (.double x) = (a0 :: a1 :: a2 :: a3 :: some (.double x) :: a5 :: lr) from bk_stE (L := (a0 :: a1 :: a2 :: a3 :: a4 :: a5 :: lr)) (k := 3) rfl hc]
  exact z
theorem bg_aload4 {a0 a1 a2 a3 : Option Value} {lr : bk_L} {x} (hi : bk_ins j pc = some (.aload 4, nx, sw, c)) (z : bk_g V d j B Q nx (a0 :: a1 :: a2 :: a3 :: some (.ref x) :: lr) (.ref x :: st) h n cs) : bk_g V d j B Q pc (a0 :: a1 :: a2 :: a3 :: some (.ref x) :: lr) st h n cs := by
  refine bk_go_s (bk_wp_mono d) ?_
  unfold bk_s1
  rw [hi]
  exact z
theorem bg_astore4 {a0 a1 a2 a3 a4 : Option Value} {lr : bk_L} {x} (hi : bk_ins j pc = some (.astore 4, nx, sw, c)) (hc : bk_c1 a3 = true) (z : bk_g V d j B Q nx (a0 :: a1 :: a2 :: a3 :: some (.ref x) :: lr) r h n cs) : bk_g V d j B Q pc (a0 :: a1 :: a2 :: a3 :: a4 :: lr) (.ref x :: r) h n cs := by
  refine bk_go_s (bk_wp_mono d) ?_
  unfold bk_s1
  rw [hi]
  refine bk_gdI (bk_bltI (by show 4 < _; simp only [List.length_cons]; omega)) ?_
  show bk_g V d j B Q nx (bk_st (a0 :: a1 :: a2 :: a3 :: a4 :: lr) 4 (.ref x)) r h n cs
  rw [show bk_st (a0 :: a1 :: a2 :: a3 :: a4 :: lr) 4 (.ref x) = (a0 :: a1 :: a2 :: a3 :: some (.ref x) :: lr) from bk_stE (L := (a0 :: a1 :: a2 :: a3 :: a4 :: lr)) (k := 3) rfl hc]
  exact z
theorem bg_iload5 {a0 a1 a2 a3 a4 : Option Value} {lr : bk_L} {x} (hi : bk_ins j pc = some (.iload 5, nx, sw, c)) (z : bk_g V d j B Q nx (a0 :: a1 :: a2 :: a3 :: a4 :: some (.int x) :: lr) (.int x :: st) h n cs) : bk_g V d j B Q pc (a0 :: a1 :: a2 :: a3 :: a4 :: some (.int x) :: lr) st h n cs := by
  refine bk_go_s (bk_wp_mono d) ?_
  unfold bk_s1
  rw [hi]
  exact z
theorem bg_istore5 {a0 a1 a2 a3 a4 a5 : Option Value} {lr : bk_L} {x} (hi : bk_ins j pc = some (.istore 5, nx, sw, c)) (hc : bk_c1 a4 = true) (z : bk_g V d j B Q nx (a0 :: a1 :: a2 :: a3 :: a4 :: some (.int x) :: lr) r h n cs) : bk_g V d j B Q pc (a0 :: a1 :: a2 :: a3 :: a4 :: a5 :: lr) (.int x :: r) h n cs := by
  refine bk_go_s (bk_wp_mono d) ?_
  unfold bk_s1
  rw [hi]
  refine bk_x1I ?_
  refine bk_gdI (bk_bltI (by show 5 < _; simp only [List.length_cons]; omega)) ?_
  show bk_g V d j B Q nx (bk_st (a0 :: a1 :: a2 :: a3 :: a4 :: a5 :: lr) 5 (.int x)) r h n cs
  rw [show bk_st (a0 :: a1 :: a2 :: a3 :: a4 :: a5 :: lr) 5 (.int x) = (a0 :: a1 :: a2 :: a3 :: a4 :: some (.int x) :: lr) from bk_stE (L := (a0 :: a1 :: a2 :: a3 :: a4 :: a5 :: lr)) (k := 4) rfl hc]
  exact z
theorem bg_iinc5 {a0 a1 a2 a3 a4 : Option Value} {lr : bk_L} {x i} (hi : bk_ins j pc = some (.iinc 5 i, nx, sw, c)) (hc : bk_c1 a4 = true) (z : bk_g V d j B Q nx (a0 :: a1 :: a2 :: a3 :: a4 :: some (.int (x + c)) :: lr) st h n cs) : bk_g V d j B Q pc (a0 :: a1 :: a2 :: a3 :: a4 :: some (.int x) :: lr) st h n cs := by
  refine bk_go_s (bk_wp_mono d) ?_
  unfold bk_s1
  rw [hi]
  refine bk_ldiI (x := x) rfl ?_
  refine bk_gdI (bk_bltI (by show 5 < _; simp only [List.length_cons]; omega)) ?_
  show bk_g V d j B Q nx (bk_st (a0 :: a1 :: a2 :: a3 :: a4 :: some (.int x) :: lr) 5 (.int (x + c))) st h n cs
  rw [show bk_st (a0 :: a1 :: a2 :: a3 :: a4 :: some (.int x) :: lr) 5 (.int (x + c)) = (a0 :: a1 :: a2 :: a3 :: a4 :: some (.int (x + c)) :: lr) from bk_stE (L := (a0 :: a1 :: a2 :: a3 :: a4 :: some (.int x) :: lr)) (k := 4) rfl hc]
  exact z
theorem bg_lload5 {a0 a1 a2 a3 a4 : Option Value} {lr : bk_L} {x} (hi : bk_ins j pc = some (.lload 5, nx, sw, c)) (z : bk_g V d j B Q nx (a0 :: a1 :: a2 :: a3 :: a4 :: some (.long x) :: lr) (.long x :: st) h n cs) : bk_g V d j B Q pc (a0 :: a1 :: a2 :: a3 :: a4 :: some (.long x) :: lr) st h n cs := by
  refine bk_go_s (bk_wp_mono d) ?_
  unfold bk_s1
  rw [hi]
  exact z
theorem bg_lstore5 {a0 a1 a2 a3 a4 a5 a6 : Option Value} {lr : bk_L} {x} (hi : bk_ins j pc = some (.lstore 5, nx, sw, c)) (hc : bk_c1 a4 = true) (z : bk_g V d j B Q nx (a0 :: a1 :: a2 :: a3 :: a4 :: some (.long x) :: none :: lr) r h n cs) : bk_g V d j B Q pc (a0 :: a1 :: a2 :: a3 :: a4 :: a5 :: a6 :: lr) (.long x :: r) h n cs := by
  refine bk_go_s (bk_wp_mono d) ?_
  unfold bk_s1
  rw [hi]
  refine bk_gdI (bk_bltI (by show 6 < _; simp only [List.length_cons]; omega)) ?_
  show bk_g V d j B Q nx (bk_st2 (a0 :: a1 :: a2 :: a3 :: a4 :: a5 :: a6 :: lr) 5 (.long x)) r h n cs
  unfold bk_st2
  rw [show bk_st (a0 :: a1 :: a2 :: a3 :: a4 :: a5 :: a6 :: lr) 5 (.long x) = (a0 :: a1 :: a2 :: a3 :: a4 :: some (.long x) :: a6 :: lr) from bk_stE (L := (a0 :: a1 :: a2 :: a3 :: a4 :: a5 :: a6 :: lr)) (k := 4) rfl hc]
  exact z
theorem bg_dload5 {a0 a1 a2 a3 a4 : Option Value} {lr : bk_L} {x} (hi : bk_ins j pc = some (.dload 5, nx, sw, c)) (z : bk_g V d j B Q nx (a0 :: a1 :: a2 :: a3 :: a4 :: some (.double x) :: lr) (.double x :: st) h n cs) : bk_g V d j B Q pc (a0 :: a1 :: a2 :: a3 :: a4 :: some (.double x) :: lr) st h n cs := by
  refine bk_go_s (bk_wp_mono d) ?_
  unfold bk_s1
  rw [hi]
  exact z
theorem bg_dstore5 {a0 a1 a2 a3 a4 a5 a6 : Option Value} {lr : bk_L} {x} (hi : bk_ins j pc = some (.dstore 5, nx, sw, c)) (hc : bk_c1 a4 = true) (z : bk_g V d j B Q nx (a0 :: a1 :: a2 :: a3 :: a4 :: some (.double x) :: none :: lr) r h n cs) : bk_g V d j B Q pc (a0 :: a1 :: a2 :: a3 :: a4 :: a5 :: a6 :: lr) (.double x :: r) h n cs := by
  refine bk_go_s (bk_wp_mono d) ?_
  unfold bk_s1
  rw [hi]
  refine bk_gdI (bk_bltI (by show 6 < _; simp only [List.length_cons]; omega)) ?_
  show bk_g V d j B Q nx (bk_st2 (a0 :: a1 :: a2 :: a3 :: a4 :: a5 :: a6 :: lr) 5 (.double x)) r h n cs
  unfold bk_st2
  rw [show bk_st (a0 :: a1 :: a2 :: a3 :: a4 :: a5 :: a6 :: lr) 5 (.double x) = (a0 :: a1 :: a2 :: a3 :: a4 :: some (.double x) :: a6 :: lr) from bk_stE (L := (a0 :: a1 :: a2 :: a3 :: a4 :: a5 :: a6 :: lr)) (k := 4) rfl hc]
  exact z
theorem bg_aload5 {a0 a1 a2 a3 a4 : Option Value} {lr : bk_L} {x} (hi : bk_ins j pc = some (.aload 5, nx, sw, c)) (z : bk_g V d j B Q nx (a0 :: a1 :: a2 :: a3 :: a4 :: some (.ref x) :: lr) (.ref x :: st) h n cs) : bk_g V d j B Q pc (a0 :: a1 :: a2 :: a3 :: a4 :: some (.ref x) :: lr) st h n cs := by
  refine bk_go_s (bk_wp_mono d) ?_
  unfold bk_s1
  rw [hi]
  exact z
theorem bg_astore5 {a0 a1 a2 a3 a4 a5 : Option Value} {lr : bk_L} {x} (hi : bk_ins j pc = some (.astore 5, nx, sw, c)) (hc : bk_c1 a4 = true) (z : bk_g V d j B Q nx (a0 :: a1 :: a2 :: a3 :: a4 :: some (.ref x) :: lr) r h n cs) : bk_g V d j B Q pc (a0 :: a1 :: a2 :: a3 :: a4 :: a5 :: lr) (.ref x :: r) h n cs := by
  refine bk_go_s (bk_wp_mono d) ?_
  unfold bk_s1
  rw [hi]
  refine bk_gdI (bk_bltI (by show 5 < _; simp only [List.length_cons]; omega)) ?_
  show bk_g V d j B Q nx (bk_st (a0 :: a1 :: a2 :: a3 :: a4 :: a5 :: lr) 5 (.ref x)) r h n cs
  rw [show bk_st (a0 :: a1 :: a2 :: a3 :: a4 :: a5 :: lr) 5 (.ref x) = (a0 :: a1 :: a2 :: a3 :: a4 :: some (.ref x) :: lr) from bk_stE (L := (a0 :: a1 :: a2 :: a3 :: a4 :: a5 :: lr)) (k := 4) rfl hc]
  exact z
theorem bg_iload6 {a0 a1 a2 a3 a4 a5 : Option Value} {lr : bk_L} {x} (hi : bk_ins j pc = some (.iload 6, nx, sw, c)) (z : bk_g V d j B Q nx (a0 :: a1 :: a2 :: a3 :: a4 :: a5 :: some (.int x) :: lr) (.int x :: st) h n cs) : bk_g V d j B Q pc (a0 :: a1 :: a2 :: a3 :: a4 :: a5 :: some (.int x) :: lr) st h n cs := by
  refine bk_go_s (bk_wp_mono d) ?_
  unfold bk_s1
  rw [hi]
  exact z
theorem bg_istore6 {a0 a1 a2 a3 a4 a5 a6 : Option Value} {lr : bk_L} {x} (hi : bk_ins j pc = some (.istore 6, nx, sw, c)) (hc : bk_c1 a5 = true) (z : bk_g V d j B Q nx (a0 :: a1 :: a2 :: a3 :: a4 :: a5 :: some (.int x) :: lr) r h n cs) : bk_g V d j B Q pc (a0 :: a1 :: a2 :: a3 :: a4 :: a5 :: a6 :: lr) (.int x :: r) h n cs := by
  refine bk_go_s (bk_wp_mono d) ?_
  unfold bk_s1
  rw [hi]
  refine bk_x1I ?_
  refine bk_gdI (bk_bltI (by show 6 < _; simp only [List.length_cons]; omega)) ?_
  show bk_g V d j B Q nx (bk_st (a0 :: a1 :: a2 :: a3 :: a4 :: a5 :: a6 :: lr) 6 (.int x)) r h n cs
  rw [show bk_st (a0 :: a1 :: a2 :: a3 :: a4 :: a5 :: a6 :: lr) 6 (.int x) = (a0 :: a1 :: a2 :: a3 :: a4 :: a5 :: some (.int x) :: lr) from bk_stE (L := (a0 :: a1 :: a2 :: a3 :: a4 :: a5 :: a6 :: lr)) (k := 5) rfl hc]
  exact z
theorem bg_iinc6 {a0 a1 a2 a3 a4 a5 : Option Value} {lr : bk_L} {x i} (hi : bk_ins j pc = some (.iinc 6 i, nx, sw, c)) (hc : bk_c1 a5 = true) (z : bk_g V d j B Q nx (a0 :: a1 :: a2 :: a3 :: a4 :: a5 :: some (.int (x + c)) :: lr) st h n cs) : bk_g V d j B Q pc (a0 :: a1 :: a2 :: a3 :: a4 :: a5 :: some (.int x) :: lr) st h n cs := by
  refine bk_go_s (bk_wp_mono d) ?_
  unfold bk_s1
  rw [hi]
  refine bk_ldiI (x := x) rfl ?_
  refine bk_gdI (bk_bltI (by show 6 < _; simp only [List.length_cons]; omega)) ?_
  show bk_g V d j B Q nx (bk_st (a0 :: a1 :: a2 :: a3 :: a4 :: a5 :: some (.int x) :: lr) 6 (.int (x + c))) st h n cs
  rw [show bk_st (a0 :: a1 :: a2 :: a3 :: a4 :: a5 :: some (.int x) :: lr) 6 (.int (x + c)) = (a0 :: a1 :: a2 :: a3 :: a4 :: a5 :: some (.int (x + c)) :: lr) from bk_stE (L := (a0 :: a1 :: a2 :: a3 :: a4 :: a5 :: some (.int x) :: lr)) (k := 5) rfl hc]
  exact z
theorem bg_lload6 {a0 a1 a2 a3 a4 a5 : Option Value} {lr : bk_L} {x} (hi : bk_ins j pc = some (.lload 6, nx, sw, c)) (z : bk_g V d j B Q nx (a0 :: a1 :: a2 :: a3 :: a4 :: a5 :: some (.long x) :: lr) (.long x :: st) h n cs) : bk_g V d j B Q pc (a0 :: a1 :: a2 :: a3 :: a4 :: a5 :: some (.long x) :: lr) st h n cs := by
  refine bk_go_s (bk_wp_mono d) ?_
  unfold bk_s1
  rw [hi]
  exact z
theorem bg_lstore6 {a0 a1 a2 a3 a4 a5 a6 a7 : Option Value} {lr : bk_L} {x} (hi : bk_ins j pc = some (.lstore 6, nx, sw, c)) (hc : bk_c1 a5 = true) (z : bk_g V d j B Q nx (a0 :: a1 :: a2 :: a3 :: a4 :: a5 :: some (.long x) :: none :: lr) r h n cs) : bk_g V d j B Q pc (a0 :: a1 :: a2 :: a3 :: a4 :: a5 :: a6 :: a7 :: lr) (.long x :: r) h n cs := by
  refine bk_go_s (bk_wp_mono d) ?_
  unfold bk_s1
  rw [hi]
  refine bk_gdI (bk_bltI (by show 7 < _; simp only [List.length_cons]; omega)) ?_
  show bk_g V d j B Q nx (bk_st2 (a0 :: a1 :: a2 :: a3 :: a4 :: a5 :: a6 :: a7 :: lr) 6 (.long x)) r h n cs
  unfold bk_st2
  rw [show bk_st (a0 :: a1 :: a2 :: a3 :: a4 :: a5 :: a6 :: a7 :: lr) 6 (.long x) = (a0 :: a1 :: a2 :: a3 :: a4 :: a5 :: some (.long x) :: a7 :: lr) from bk_stE (L := (a0 :: a1 :: a2 :: a3 :: a4 :: a5 :: a6 :: a7 :: lr)) (k := 5) rfl hc]
  exact z
theorem bg_dload6 {a0 a1 a2 a3 a4 a5 : Option Value} {lr : bk_L} {x} (hi : bk_ins j pc = some (.dload 6, nx, sw, c)) (z : bk_g V d j B Q nx (a0 :: a1 :: a2 :: a3 :: a4 :: a5 :: some (.double x) :: lr) (.double x :: st) h n cs) : bk_g V d j B Q pc (a0 :: a1 :: a2 :: a3 :: a4 :: a5 :: some (.double x) :: lr) st h n cs := by
  refine bk_go_s (bk_wp_mono d) ?_
  unfold bk_s1
  rw [hi]
  exact z
theorem bg_dstore6 {a0 a1 a2 a3 a4 a5 a6 a7 : Option Value} {lr : bk_L} {x} (hi : bk_ins j pc = some (.dstore 6, nx, sw, c)) (hc : bk_c1 a5 = true) (z : bk_g V d j B Q nx (a0 :: a1 :: a2 :: a3 :: a4 :: a5 :: some (.double x) :: none :: lr) r h n cs) : bk_g V d j B Q pc (a0 :: a1 :: a2 :: a3 :: a4 :: a5 :: a6 :: a7 :: lr) (.double x :: r) h n cs := by
  refine bk_go_s (bk_wp_mono d) ?_
  unfold bk_s1
  rw [hi]
  refine bk_gdI (bk_bltI (by show 7 < _; simp only [List.length_cons]; omega)) ?_
  show bk_g V d j B Q nx (bk_st2 (a0 :: a1 :: a2 :: a3 :: a4 :: a5 :: a6 :: a7 :: lr) 6 (.double x)) r h n cs
  unfold bk_st2
  rw [show bk_st (a0 :: a1 :: a2 :: a3 :: a4 :: a5 :: a6 :: a7 :: lr) 6 (.double x) = (a0 :: a1 :: a2 :: a3 :: a4 :: a5 :: some (.double x) :: a7 :: lr) from bk_stE (L := (a0 :: a1 :: a2 :: a3 :: a4 :: a5 :: a6 :: a7 :: lr)) (k := 5) rfl hc]
  exact z
theorem bg_aload6 {a0 a1 a2 a3 a4 a5 : Option Value} {lr : bk_L} {x} (hi : bk_ins j pc = some (.aload 6, nx, sw, c)) (z : bk_g V d j B Q nx (a0 :: a1 :: a2 :: a3 :: a4 :: a5 :: some (.ref x) :: lr) (.ref x :: st) h n cs) : bk_g V d j B Q pc (a0 :: a1 :: a2 :: a3 :: a4 :: a5 :: some (.ref x) :: lr) st h n cs := by
  refine bk_go_s (bk_wp_mono d) ?_
  unfold bk_s1
  rw [hi]
  exact z
theorem bg_astore6 {a0 a1 a2 a3 a4 a5 a6 : Option Value} {lr : bk_L} {x} (hi : bk_ins j pc = some (.astore 6, nx, sw, c)) (hc : bk_c1 a5 = true) (z : bk_g V d j B Q nx (a0 :: a1 :: a2 :: a3 :: a4 :: a5 :: some (.ref x) :: lr) r h n cs) : bk_g V d j B Q pc (a0 :: a1 :: a2 :: a3 :: a4 :: a5 :: a6 :: lr) (.ref x :: r) h n cs := by
  refine bk_go_s (bk_wp_mono d) ?_
  unfold bk_s1
  rw [hi]
  refine bk_gdI (bk_bltI (by show 6 < _; simp only [List.length_cons]; omega)) ?_
  show bk_g V d j B Q nx (bk_st (a0 :: a1 :: a2 :: a3 :: a4 :: a5 :: a6 :: lr) 6 (.ref x)) r h n cs
  rw [show bk_st (a0 :: a1 :: a2 :: a3 :: a4 :: a5 :: a6 :: lr) 6 (.ref x) = (a0 :: a1 :: a2 :: a3 :: a4 :: a5 :: some (.ref x) :: lr) from bk_stE (L := (a0 :: a1 :: a2 :: a3 :: a4 :: a5 :: a6 :: lr)) (k := 5) rfl hc]
  exact z
theorem bg_iload7 {a0 a1 a2 a3 a4 a5 a6 : Option Value} {lr : bk_L} {x} (hi : bk_ins j pc = some (.iload 7, nx, sw, c)) (z : bk_g V d j B Q nx (a0 :: a1 :: a2 :: a3 :: a4 :: a5 :: a6 :: some (.int x) :: lr) (.int x :: st) h n cs) : bk_g V d j B Q pc (a0 :: a1 :: a2 :: a3 :: a4 :: a5 :: a6 :: some (.int x) :: lr) st h n cs := by
  refine bk_go_s (bk_wp_mono d) ?_
  unfold bk_s1
  rw [hi]
  exact z
theorem bg_istore7 {a0 a1 a2 a3 a4 a5 a6 a7 : Option Value} {lr : bk_L} {x} (hi : bk_ins j pc = some (.istore 7, nx, sw, c)) (hc : bk_c1 a6 = true) (z : bk_g V d j B Q nx (a0 :: a1 :: a2 :: a3 :: a4 :: a5 :: a6 :: some (.int x) :: lr) r h n cs) : bk_g V d j B Q pc (a0 :: a1 :: a2 :: a3 :: a4 :: a5 :: a6 :: a7 :: lr) (.int x :: r) h n cs := by
  refine bk_go_s (bk_wp_mono d) ?_
  unfold bk_s1
  rw [hi]
  refine bk_x1I ?_
  refine bk_gdI (bk_bltI (by show 7 < _; simp only [List.length_cons]; omega)) ?_
  show bk_g V d j B Q nx (bk_st (a0 :: a1 :: a2 :: a3 :: a4 :: a5 :: a6 :: a7 :: lr) 7 (.int x)) r h n cs
  rw [show bk_st (a0 :: a1 :: a2 :: a3 :: a4 :: a5 :: a6 :: a7 :: lr) 7 (.int x) = (a0 :: a1 :: a2 :: a3 :: a4 :: a5 :: a6 :: some (.int x) :: lr) from bk_stE (L := (a0 :: a1 :: a2 :: a3 :: a4 :: a5 :: a6 :: a7 :: lr)) (k := 6) rfl hc]
  exact z
theorem bg_iinc7 {a0 a1 a2 a3 a4 a5 a6 : Option Value} {lr : bk_L} {x i} (hi : bk_ins j pc = some (.iinc 7 i, nx, sw, c)) (hc : bk_c1 a6 = true) (z : bk_g V d j B Q nx (a0 :: a1 :: a2 :: a3 :: a4 :: a5 :: a6 :: some (.int (x + c)) :: lr) st h n cs) : bk_g V d j B Q pc (a0 :: a1 :: a2 :: a3 :: a4 :: a5 :: a6 :: some (.int x) :: lr) st h n cs := by
  refine bk_go_s (bk_wp_mono d) ?_
  unfold bk_s1
  rw [hi]
  refine bk_ldiI (x := x) rfl ?_
  refine bk_gdI (bk_bltI (by show 7 < _; simp only [List.length_cons]; omega)) ?_
  show bk_g V d j B Q nx (bk_st (a0 :: a1 :: a2 :: a3 :: a4 :: a5 :: a6 :: some (.int x) :: lr) 7 (.int (x + c))) st h n cs
  rw [show bk_st (a0 :: a1 :: a2 :: a3 :: a4 :: a5 :: a6 :: some (.int x) :: lr) 7 (.int (x + c)) = (a0 :: a1 :: a2 :: a3 :: a4 :: a5 :: a6 :: some (.int (x + c)) :: lr) from bk_stE (L := (a0 :: a1 :: a2 :: a3 :: a4 :: a5 :: a6 :: some (.int x) :: lr)) (k := 6) rfl hc]
  exact z
theorem bg_lload7 {a0 a1 a2 a3 a4 a5 a6 : Option Value} {lr : bk_L} {x} (hi : bk_ins j pc = some (.lload 7, nx, sw, c)) (z : bk_g V d j B Q nx (a0 :: a1 :: a2 :: a3 :: a4 :: a5 :: a6 :: some (.long x) :: lr) (.long x :: st) h n cs) : bk_g V d j B Q pc (a0 :: a1 :: a2 :: a3 :: a4 :: a5 :: a6 :: some (.long x) :: lr) st h n cs := by
  refine bk_go_s (bk_wp_mono d) ?_
  unfold bk_s1
  rw [hi]
  exact z
theorem bg_lstore7 {a0 a1 a2 a3 a4 a5 a6 a7 a8 : Option Value} {lr : bk_L} {x} (hi : bk_ins j pc = some (.lstore 7, nx, sw, c)) (hc : bk_c1 a6 = true) (z : bk_g V d j B Q nx (a0 :: a1 :: a2 :: a3 :: a4 :: a5 :: a6 :: some (.long x) :: none :: lr) r h n cs) : bk_g V d j B Q pc (a0 :: a1 :: a2 :: a3 :: a4 :: a5 :: a6 :: a7 :: a8 :: lr) (.long x :: r) h n cs := by
  refine bk_go_s (bk_wp_mono d) ?_
  unfold bk_s1
  rw [hi]
  refine bk_gdI (bk_bltI (by show 8 < _; simp only [List.length_cons]; omega)) ?_
  show bk_g V d j B Q nx (bk_st2 (a0 :: a1 :: a2 :: a3 :: a4 :: a5 :: a6 :: a7 :: a8 :: lr) 7 (.long x)) r h n cs
  unfold bk_st2
  rw [show bk_st (a0 :: a1 :: a2 :: a3 :: a4 :: a5 :: a6 :: a7 :: a8 :: lr) 7 (.long x) = (a0 :: a1 :: a2 :: a3 :: a4 :: a5 :: a6 :: some (.long x) :: a8 :: lr) from bk_stE (L := (a0 :: a1 :: a2 :: a3 :: a4 :: a5 :: a6 :: a7 :: a8 :: lr)) (k := 6) rfl hc]
  exact z
theorem bg_dload7 {a0 a1 a2 a3 a4 a5 a6 : Option Value} {lr : bk_L} {x} (hi : bk_ins j pc = some (.dload 7, nx, sw, c)) (z : bk_g V d j B Q nx (a0 :: a1 :: a2 :: a3 :: a4 :: a5 :: a6 :: some (.double x) :: lr) (.double x :: st) h n cs) : bk_g V d j B Q pc (a0 :: a1 :: a2 :: a3 :: a4 :: a5 :: a6 :: some (.double x) :: lr) st h n cs := by
  refine bk_go_s (bk_wp_mono d) ?_
  unfold bk_s1
  rw [hi]
  exact z
theorem bg_dstore7 {a0 a1 a2 a3 a4 a5 a6 a7 a8 : Option Value} {lr : bk_L} {x} (hi : bk_ins j pc = some (.dstore 7, nx, sw, c)) (hc : bk_c1 a6 = true) (z : bk_g V d j B Q nx (a0 :: a1 :: a2 :: a3 :: a4 :: a5 :: a6 :: some (.double x) :: none :: lr) r h n cs) : bk_g V d j B Q pc (a0 :: a1 :: a2 :: a3 :: a4 :: a5 :: a6 :: a7 :: a8 :: lr) (.double x :: r) h n cs := by
  refine bk_go_s (bk_wp_mono d) ?_
  unfold bk_s1
  rw [hi]
  refine bk_gdI (bk_bltI (by show 8 < _; simp only [List.length_cons]; omega)) ?_
  show bk_g V d j B Q nx (bk_st2 (a0 :: a1 :: a2 :: a3 :: a4 :: a5 :: a6 :: a7 :: a8 :: lr) 7 (.double x)) r h n cs
  unfold bk_st2
  rw [show bk_st (a0 :: a1 :: a2 :: a3 :: a4 :: a5 :: a6 :: a7 :: a8 :: lr) 7 (.double x) = (a0 :: a1 :: a2 :: a3 :: a4 :: a5 :: a6 :: some (.double x) :: a8 :: lr) from bk_stE (L := (a0 :: a1 :: a2 :: a3 :: a4 :: a5 :: a6 :: a7 :: a8 :: lr)) (k := 6) rfl hc]
  exact z
theorem bg_aload7 {a0 a1 a2 a3 a4 a5 a6 : Option Value} {lr : bk_L} {x} (hi : bk_ins j pc = some (.aload 7, nx, sw, c)) (z : bk_g V d j B Q nx (a0 :: a1 :: a2 :: a3 :: a4 :: a5 :: a6 :: some (.ref x) :: lr) (.ref x :: st) h n cs) : bk_g V d j B Q pc (a0 :: a1 :: a2 :: a3 :: a4 :: a5 :: a6 :: some (.ref x) :: lr) st h n cs := by
  refine bk_go_s (bk_wp_mono d) ?_
  unfold bk_s1
  rw [hi]
  exact z
theorem bg_astore7 {a0 a1 a2 a3 a4 a5 a6 a7 : Option Value} {lr : bk_L} {x} (hi : bk_ins j pc = some (.astore 7, nx, sw, c)) (hc : bk_c1 a6 = true) (z : bk_g V d j B Q nx (a0 :: a1 :: a2 :: a3 :: a4 :: a5 :: a6 :: some (.ref x) :: lr) r h n cs) : bk_g V d j B Q pc (a0 :: a1 :: a2 :: a3 :: a4 :: a5 :: a6 :: a7 :: lr) (.ref x :: r) h n cs := by
  refine bk_go_s (bk_wp_mono d) ?_
  unfold bk_s1
  rw [hi]
  refine bk_gdI (bk_bltI (by show 7 < _; simp only [List.length_cons]; omega)) ?_
  show bk_g V d j B Q nx (bk_st (a0 :: a1 :: a2 :: a3 :: a4 :: a5 :: a6 :: a7 :: lr) 7 (.ref x)) r h n cs
  rw [show bk_st (a0 :: a1 :: a2 :: a3 :: a4 :: a5 :: a6 :: a7 :: lr) 7 (.ref x) = (a0 :: a1 :: a2 :: a3 :: a4 :: a5 :: a6 :: some (.ref x) :: lr) from bk_stE (L := (a0 :: a1 :: a2 :: a3 :: a4 :: a5 :: a6 :: a7 :: lr)) (k := 6) rfl hc]
  exact z
theorem bg_iload8 {a0 a1 a2 a3 a4 a5 a6 a7 : Option Value} {lr : bk_L} {x} (hi : bk_ins j pc = some (.iload 8, nx, sw, c)) (z : bk_g V d j B Q nx (a0 :: a1 :: a2 :: a3 :: a4 :: a5 :: a6 :: a7 :: some (.int x) :: lr) (.int x :: st) h n cs) : bk_g V d j B Q pc (a0 :: a1 :: a2 :: a3 :: a4 :: a5 :: a6 :: a7 :: some (.int x) :: lr) st h n cs := by
  refine bk_go_s (bk_wp_mono d) ?_
  unfold bk_s1
  rw [hi]
  exact z
theorem bg_istore8 {a0 a1 a2 a3 a4 a5 a6 a7 a8 : Option Value} {lr : bk_L} {x} (hi : bk_ins j pc = some (.istore 8, nx, sw, c)) (hc : bk_c1 a7 = true) (z : bk_g V d j B Q nx (a0 :: a1 :: a2 :: a3 :: a4 :: a5 :: a6 :: a7 :: some (.int x) :: lr) r h n cs) : bk_g V d j B Q pc (a0 :: a1 :: a2 :: a3 :: a4 :: a5 :: a6 :: a7 :: a8 :: lr) (.int x :: r) h n cs := by
  refine bk_go_s (bk_wp_mono d) ?_
  unfold bk_s1
  rw [hi]
  refine bk_x1I ?_
  refine bk_gdI (bk_bltI (by show 8 < _; simp only [List.length_cons]; omega)) ?_
  show bk_g V d j B Q nx (bk_st (a0 :: a1 :: a2 :: a3 :: a4 :: a5 :: a6 :: a7 :: a8 :: lr) 8 (.int x)) r h n cs
  rw [show bk_st (a0 :: a1 :: a2 :: a3 :: a4 :: a5 :: a6 :: a7 :: a8 :: lr) 8 (.int x) = (a0 :: a1 :: a2 :: a3 :: a4 :: a5 :: a6 :: a7 :: some (.int x) :: lr) from bk_stE (L := (a0 :: a1 :: a2 :: a3 :: a4 :: a5 :: a6 :: a7 :: a8 :: lr)) (k := 7) rfl hc]
  exact z
theorem bg_iinc8 {a0 a1 a2 a3 a4 a5 a6 a7 : Option Value} {lr : bk_L} {x i} (hi : bk_ins j pc = some (.iinc 8 i, nx, sw, c)) (hc : bk_c1 a7 = true) (z : bk_g V d j B Q nx (a0 :: a1 :: a2 :: a3 :: a4 :: a5 :: a6 :: a7 :: some (.int (x + c)) :: lr) st h n cs) : bk_g V d j B Q pc (a0 :: a1 :: a2 :: a3 :: a4 :: a5 :: a6 :: a7 :: some (.int x) :: lr) st h n cs := by
  refine bk_go_s (bk_wp_mono d) ?_
  unfold bk_s1
  rw [hi]
  refine bk_ldiI (x := x) rfl ?_
  refine bk_gdI (bk_bltI (by show 8 < _; simp only [List.length_cons]; omega)) ?_
  show bk_g V d j B Q nx (bk_st (a0 :: a1 :: a2 :: a3 :: a4 :: a5 :: a6 :: a7 :: some (.int x) :: lr) 8 (.int (x + c))) st h n cs
  rw [show bk_st (a0 :: a1 :: a2 :: a3 :: a4 :: a5 :: a6 :: a7 :: some (.int x) :: lr) 8 (.int (x + c)) = (a0 :: a1 :: a2 :: a3 :: a4 :: a5 :: a6 :: a7 :: some (.int (x + c)) :: lr) from bk_stE (L := (a0 :: a1 :: a2 :: a3 :: a4 :: a5 :: a6 :: a7 :: some (.int x) :: lr)) (k := 7) rfl hc]
  exact z
theorem bg_lload8 {a0 a1 a2 a3 a4 a5 a6 a7 : Option Value} {lr : bk_L} {x} (hi : bk_ins j pc = some (.lload 8, nx, sw, c)) (z : bk_g V d j B Q nx (a0 :: a1 :: a2 :: a3 :: a4 :: a5 :: a6 :: a7 :: some (.long x) :: lr) (.long x :: st) h n cs) : bk_g V d j B Q pc (a0 :: a1 :: a2 :: a3 :: a4 :: a5 :: a6 :: a7 :: some (.long x) :: lr) st h n cs := by
  refine bk_go_s (bk_wp_mono d) ?_
  unfold bk_s1
  rw [hi]
  exact z
theorem bg_lstore8 {a0 a1 a2 a3 a4 a5 a6 a7 a8 a9 : Option Value} {lr : bk_L} {x} (hi : bk_ins j pc = some (.lstore 8, nx, sw, c)) (hc : bk_c1 a7 = true) (z : bk_g V d j B Q nx (a0 :: a1 :: a2 :: a3 :: a4 :: a5 :: a6 :: a7 :: some (.long x) :: none :: lr) r h n cs) : bk_g V d j B Q pc (a0 :: a1 :: a2 :: a3 :: a4 :: a5 :: a6 :: a7 :: a8 :: a9 :: lr) (.long x :: r) h n cs := by
  refine bk_go_s (bk_wp_mono d) ?_
  unfold bk_s1
  rw [hi]
  refine bk_gdI (bk_bltI (by show 9 < _; simp only [List.length_cons]; omega)) ?_
  show bk_g V d j B Q nx (bk_st2 (a0 :: a1 :: a2 :: a3 :: a4 :: a5 :: a6 :: a7 :: a8 :: a9 :: lr) 8 (.long x)) r h n cs
  unfold bk_st2
  rw [show bk_st (a0 :: a1 :: a2 :: a3 :: a4 :: a5 :: a6 :: a7 :: a8 :: a9 :: lr) 8 (.long x) = (a0 :: a1 :: a2 :: a3 :: a4 :: a5 :: a6 :: a7 :: some (.long x) :: a9 :: lr) from bk_stE (L := (a0 :: a1 :: a2 :: a3 :: a4 :: a5 :: a6 :: a7 :: a8 :: a9 :: lr)) (k := 7) rfl hc]
  exact z
theorem bg_dload8 {a0 a1 a2 a3 a4 a5 a6 a7 : Option Value} {lr : bk_L} {x} (hi : bk_ins j pc = some (.dload 8, nx, sw, c)) (z : bk_g V d j B Q nx (a0 :: a1 :: a2 :: a3 :: a4 :: a5 :: a6 :: a7 :: some (.double x) :: lr) (.double x :: st) h n cs) : bk_g V d j B Q pc (a0 :: a1 :: a2 :: a3 :: a4 :: a5 :: a6 :: a7 :: some (.double x) :: lr) st h n cs := by
  refine bk_go_s (bk_wp_mono d) ?_
  unfold bk_s1
  rw [hi]
  exact z
theorem bg_dstore8 {a0 a1 a2 a3 a4 a5 a6 a7 a8 a9 : Option Value} {lr : bk_L} {x} (hi : bk_ins j pc = some (.dstore 8, nx, sw, c)) (hc : bk_c1 a7 = true) (z : bk_g V d j B Q nx (a0 :: a1 :: a2 :: a3 :: a4 :: a5 :: a6 :: a7 :: some (.double x) :: none :: lr) r h n cs) : bk_g V d j B Q pc (a0 :: a1 :: a2 :: a3 :: a4 :: a5 :: a6 :: a7 :: a8 :: a9 :: lr) (.double x :: r) h n cs := by
  refine bk_go_s (bk_wp_mono d) ?_
  unfold bk_s1
  rw [hi]
  refine bk_gdI (bk_bltI (by show 9 < _; simp only [List.length_cons]; omega)) ?_
  show bk_g V d j B Q nx (bk_st2 (a0 :: a1 :: a2 :: a3 :: a4 :: a5 :: a6 :: a7 :: a8 :: a9 :: lr) 8 (.double x)) r h n cs
  unfold bk_st2
  rw [show bk_st (a0 :: a1 :: a2 :: a3 :: a4 :: a5 :: a6 :: a7 :: a8 :: a9 :: lr) 8 (.double x) = (a0 :: a1 :: a2 :: a3 :: a4 :: a5 :: a6 :: a7 :: some (.double x) :: a9 :: lr) from bk_stE (L := (a0 :: a1 :: a2 :: a3 :: a4 :: a5 :: a6 :: a7 :: a8 :: a9 :: lr)) (k := 7) rfl hc]
  exact z
theorem bg_aload8 {a0 a1 a2 a3 a4 a5 a6 a7 : Option Value} {lr : bk_L} {x} (hi : bk_ins j pc = some (.aload 8, nx, sw, c)) (z : bk_g V d j B Q nx (a0 :: a1 :: a2 :: a3 :: a4 :: a5 :: a6 :: a7 :: some (.ref x) :: lr) (.ref x :: st) h n cs) : bk_g V d j B Q pc (a0 :: a1 :: a2 :: a3 :: a4 :: a5 :: a6 :: a7 :: some (.ref x) :: lr) st h n cs := by
  refine bk_go_s (bk_wp_mono d) ?_
  unfold bk_s1
  rw [hi]
  exact z
theorem bg_astore8 {a0 a1 a2 a3 a4 a5 a6 a7 a8 : Option Value} {lr : bk_L} {x} (hi : bk_ins j pc = some (.astore 8, nx, sw, c)) (hc : bk_c1 a7 = true) (z : bk_g V d j B Q nx (a0 :: a1 :: a2 :: a3 :: a4 :: a5 :: a6 :: a7 :: some (.ref x) :: lr) r h n cs) : bk_g V d j B Q pc (a0 :: a1 :: a2 :: a3 :: a4 :: a5 :: a6 :: a7 :: a8 :: lr) (.ref x :: r) h n cs := by
  refine bk_go_s (bk_wp_mono d) ?_
  unfold bk_s1
  rw [hi]
  refine bk_gdI (bk_bltI (by show 8 < _; simp only [List.length_cons]; omega)) ?_
  show bk_g V d j B Q nx (bk_st (a0 :: a1 :: a2 :: a3 :: a4 :: a5 :: a6 :: a7 :: a8 :: lr) 8 (.ref x)) r h n cs
  rw [show bk_st (a0 :: a1 :: a2 :: a3 :: a4 :: a5 :: a6 :: a7 :: a8 :: lr) 8 (.ref x) = (a0 :: a1 :: a2 :: a3 :: a4 :: a5 :: a6 :: a7 :: some (.ref x) :: lr) from bk_stE (L := (a0 :: a1 :: a2 :: a3 :: a4 :: a5 :: a6 :: a7 :: a8 :: lr)) (k := 7) rfl hc]
  exact z
theorem bg_iload9 {a0 a1 a2 a3 a4 a5 a6 a7 a8 : Option Value} {lr : bk_L} {x} (hi : bk_ins j pc = some (.iload 9, nx, sw, c)) (z : bk_g V d j B Q nx (a0 :: a1 :: a2 :: a3 :: a4 :: a5 :: a6 :: a7 :: a8 :: some (.int x) :: lr) (.int x :: st) h n cs) : bk_g V d j B Q pc (a0 :: a1 :: a2 :: a3 :: a4 :: a5 :: a6 :: a7 :: a8 :: some (.int x) :: lr) st h n cs := by
  refine bk_go_s (bk_wp_mono d) ?_
  unfold bk_s1
  rw [hi]
  exact z
theorem bg_istore9 {a0 a1 a2 a3 a4 a5 a6 a7 a8 a9 : Option Value} {lr : bk_L} {x} (hi : bk_ins j pc = some (.istore 9, nx, sw, c)) (hc : bk_c1 a8 = true) (z : bk_g V d j B Q nx (a0 :: a1 :: a2 :: a3 :: a4 :: a5 :: a6 :: a7 :: a8 :: some (.int x) :: lr) r h n cs) : bk_g V d j B Q pc (a0 :: a1 :: a2 :: a3 :: a4 :: a5 :: a6 :: a7 :: a8 :: a9 :: lr) (.int x :: r) h n cs := by
  refine bk_go_s (bk_wp_mono d) ?_
  unfold bk_s1
  rw [hi]
  refine bk_x1I ?_
  refine bk_gdI (bk_bltI (by show 9 < _; simp only [List.length_cons]; omega)) ?_
  show bk_g V d j B Q nx (bk_st (a0 :: a1 :: a2 :: a3 :: a4 :: a5 :: a6 :: a7 :: a8 :: a9 :: lr) 9 (.int x)) r h n cs
  rw [show bk_st (a0 :: a1 :: a2 :: a3 :: a4 :: a5 :: a6 :: a7 :: a8 :: a9 :: lr) 9 (.int x) = (a0 :: a1 :: a2 :: a3 :: a4 :: a5 :: a6 :: a7 :: a8 :: some (.int x) :: lr) from bk_stE (L := (a0 :: a1 :: a2 :: a3 :: a4 :: a5 :: a6 :: a7 :: a8 :: a9 :: lr)) (k := 8) rfl hc]
  exact z
theorem bg_iinc9 {a0 a1 a2 a3 a4 a5 a6 a7 a8 : Option Value} {lr : bk_L} {x i} (hi : bk_ins j pc = some (.iinc 9 i, nx, sw, c)) (hc : bk_c1 a8 = true) (z : bk_g V d j B Q nx (a0 :: a1 :: a2 :: a3 :: a4 :: a5 :: a6 :: a7 :: a8 :: some (.int (x + c)) :: lr) st h n cs) : bk_g V d j B Q pc (a0 :: a1 :: a2 :: a3 :: a4 :: a5 :: a6 :: a7 :: a8 :: some (.int x) :: lr) st h n cs := by
  refine bk_go_s (bk_wp_mono d) ?_
  unfold bk_s1
  rw [hi]
  refine bk_ldiI (x := x) rfl ?_
  refine bk_gdI (bk_bltI (by show 9 < _; simp only [List.length_cons]; omega)) ?_
  show bk_g V d j B Q nx (bk_st (a0 :: a1 :: a2 :: a3 :: a4 :: a5 :: a6 :: a7 :: a8 :: some (.int x) :: lr) 9 (.int (x + c))) st h n cs
  rw [show bk_st (a0 :: a1 :: a2 :: a3 :: a4 :: a5 :: a6 :: a7 :: a8 :: some (.int x) :: lr) 9 (.int (x + c)) = (a0 :: a1 :: a2 :: a3 :: a4 :: a5 :: a6 :: a7 :: a8 :: some (.int (x + c)) :: lr) from bk_stE (L := (a0 :: a1 :: a2 :: a3 :: a4 :: a5 :: a6 :: a7 :: a8 :: some (.int x) :: lr)) (k := 8) rfl hc]
  exact z
theorem bg_lload9 {a0 a1 a2 a3 a4 a5 a6 a7 a8 : Option Value} {lr : bk_L} {x} (hi : bk_ins j pc = some (.lload 9, nx, sw, c)) (z : bk_g V d j B Q nx (a0 :: a1 :: a2 :: a3 :: a4 :: a5 :: a6 :: a7 :: a8 :: some (.long x) :: lr) (.long x :: st) h n cs) : bk_g V d j B Q pc (a0 :: a1 :: a2 :: a3 :: a4 :: a5 :: a6 :: a7 :: a8 :: some (.long x) :: lr) st h n cs := by
  refine bk_go_s (bk_wp_mono d) ?_
  unfold bk_s1
  rw [hi]
  exact z
theorem bg_lstore9 {a0 a1 a2 a3 a4 a5 a6 a7 a8 a9 a10 : Option Value} {lr : bk_L} {x} (hi : bk_ins j pc = some (.lstore 9, nx, sw, c)) (hc : bk_c1 a8 = true) (z : bk_g V d j B Q nx (a0 :: a1 :: a2 :: a3 :: a4 :: a5 :: a6 :: a7 :: a8 :: some (.long x) :: none :: lr) r h n cs) : bk_g V d j B Q pc (a0 :: a1 :: a2 :: a3 :: a4 :: a5 :: a6 :: a7 :: a8 :: a9 :: a10 :: lr) (.long x :: r) h n cs := by
  refine bk_go_s (bk_wp_mono d) ?_
  unfold bk_s1
  rw [hi]
  refine bk_gdI (bk_bltI (by show 10 < _; simp only [List.length_cons]; omega)) ?_
  show bk_g V d j B Q nx (bk_st2 (a0 :: a1 :: a2 :: a3 :: a4 :: a5 :: a6 :: a7 :: a8 :: a9 :: a10 :: lr) 9 (.long x)) r h n cs
  unfold bk_st2
  rw [show bk_st (a0 :: a1 :: a2 :: a3 :: a4 :: a5 :: a6 :: a7 :: a8 :: a9 :: a10 :: lr) 9 (.long x) = (a0 :: a1 :: a2 :: a3 :: a4 :: a5 :: a6 :: a7 :: a8 :: some (.long x) :: a10 :: lr) from bk_stE (L := (a0 :: a1 :: a2 :: a3 :: a4 :: a5 :: a6 :: a7 :: a8 :: a9 :: a10 :: lr)) (k := 8) rfl hc]
  exact z
theorem bg_dload9 {a0 a1 a2 a3 a4 a5 a6 a7 a8 : Option Value} {lr : bk_L} {x} (hi : bk_ins j pc = some (.dload 9, nx, sw, c)) (z : bk_g V d j B Q nx (a0 :: a1 :: a2 :: a3 :: a4 :: a5 :: a6 :: a7 :: a8 :: some (.double x) :: lr) (.double x :: st) h n cs) : bk_g V d j B Q pc (a0 :: a1 :: a2 :: a3 :: a4 :: a5 :: a6 :: a7 :: a8 :: some (.double x) :: lr) st h n cs := by
  refine bk_go_s (bk_wp_mono d) ?_
  unfold bk_s1
  rw [hi]
  exact z
theorem bg_dstore9 {a0 a1 a2 a3 a4 a5 a6 a7 a8 a9 a10 : Option Value} {lr : bk_L} {x} (hi : bk_ins j pc = some (.dstore 9, nx, sw, c)) (hc : bk_c1 a8 = true) (z : bk_g V d j B Q nx (a0 :: a1 :: a2 :: a3 :: a4 :: a5 :: a6 :: a7 :: a8 :: some (.double x) :: none :: lr) r h n cs) : bk_g V d j B Q pc (a0 :: a1 :: a2 :: a3 :: a4 :: a5 :: a6 :: a7 :: a8 :: a9 :: a10 :: lr) (.double x :: r) h n cs := by
  refine bk_go_s (bk_wp_mono d) ?_
  unfold bk_s1
  rw [hi]
  refine bk_gdI (bk_bltI (by show 10 < _; simp only [List.length_cons]; omega)) ?_
  show bk_g V d j B Q nx (bk_st2 (a0 :: a1 :: a2 :: a3 :: a4 :: a5 :: a6 :: a7 :: a8 :: a9 :: a10 :: lr) 9 (.double x)) r h n cs
  unfold bk_st2
  rw [show bk_st (a0 :: a1 :: a2 :: a3 :: a4 :: a5 :: a6 :: a7 :: a8 :: a9 :: a10 :: lr) 9 (.double x) = (a0 :: a1 :: a2 :: a3 :: a4 :: a5 :: a6 :: a7 :: a8 :: some (.double x) :: a10 :: lr) from bk_stE (L := (a0 :: a1 :: a2 :: a3 :: a4 :: a5 :: a6 :: a7 :: a8 :: a9 :: a10 :: lr)) (k := 8) rfl hc]
  exact z
theorem bg_aload9 {a0 a1 a2 a3 a4 a5 a6 a7 a8 : Option Value} {lr : bk_L} {x} (hi : bk_ins j pc = some (.aload 9, nx, sw, c)) (z : bk_g V d j B Q nx (a0 :: a1 :: a2 :: a3 :: a4 :: a5 :: a6 :: a7 :: a8 :: some (.ref x) :: lr) (.ref x :: st) h n cs) : bk_g V d j B Q pc (a0 :: a1 :: a2 :: a3 :: a4 :: a5 :: a6 :: a7 :: a8 :: some (.ref x) :: lr) st h n cs := by
  refine bk_go_s (bk_wp_mono d) ?_
  unfold bk_s1
  rw [hi]
  exact z
theorem bg_astore9 {a0 a1 a2 a3 a4 a5 a6 a7 a8 a9 : Option Value} {lr : bk_L} {x} (hi : bk_ins j pc = some (.astore 9, nx, sw, c)) (hc : bk_c1 a8 = true) (z : bk_g V d j B Q nx (a0 :: a1 :: a2 :: a3 :: a4 :: a5 :: a6 :: a7 :: a8 :: some (.ref x) :: lr) r h n cs) : bk_g V d j B Q pc (a0 :: a1 :: a2 :: a3 :: a4 :: a5 :: a6 :: a7 :: a8 :: a9 :: lr) (.ref x :: r) h n cs := by
  refine bk_go_s (bk_wp_mono d) ?_
  unfold bk_s1
  rw [hi]
  refine bk_gdI (bk_bltI (by show 9 < _; simp only [List.length_cons]; omega)) ?_
  show bk_g V d j B Q nx (bk_st (a0 :: a1 :: a2 :: a3 :: a4 :: a5 :: a6 :: a7 :: a8 :: a9 :: lr) 9 (.ref x)) r h n cs
  rw [show bk_st (a0 :: a1 :: a2 :: a3 :: a4 :: a5 :: a6 :: a7 :: a8 :: a9 :: lr) 9 (.ref x) = (a0 :: a1 :: a2 :: a3 :: a4 :: a5 :: a6 :: a7 :: a8 :: some (.ref x) :: lr) from bk_stE (L := (a0 :: a1 :: a2 :: a3 :: a4 :: a5 :: a6 :: a7 :: a8 :: a9 :: lr)) (k := 8) rfl hc]
  exact z
theorem bg_iload10 {a0 a1 a2 a3 a4 a5 a6 a7 a8 a9 : Option Value} {lr : bk_L} {x} (hi : bk_ins j pc = some (.iload 10, nx, sw, c)) (z : bk_g V d j B Q nx (a0 :: a1 :: a2 :: a3 :: a4 :: a5 :: a6 :: a7 :: a8 :: a9 :: some (.int x) :: lr) (.int x :: st) h n cs) : bk_g V d j B Q pc (a0 :: a1 :: a2 :: a3 :: a4 :: a5 :: a6 :: a7 :: a8 :: a9 :: some (.int x) :: lr) st h n cs := by
  refine bk_go_s (bk_wp_mono d) ?_
  unfold bk_s1
  rw [hi]
  exact z
theorem bg_istore10 {a0 a1 a2 a3 a4 a5 a6 a7 a8 a9 a10 : Option Value} {lr : bk_L} {x} (hi : bk_ins j pc = some (.istore 10, nx, sw, c)) (hc : bk_c1 a9 = true) (z : bk_g V d j B Q nx (a0 :: a1 :: a2 :: a3 :: a4 :: a5 :: a6 :: a7 :: a8 :: a9 :: some (.int x) :: lr) r h n cs) : bk_g V d j B Q pc (a0 :: a1 :: a2 :: a3 :: a4 :: a5 :: a6 :: a7 :: a8 :: a9 :: a10 :: lr) (.int x :: r) h n cs := by
  refine bk_go_s (bk_wp_mono d) ?_
  unfold bk_s1
  rw [hi]
  refine bk_x1I ?_
  refine bk_gdI (bk_bltI (by show 10 < _; simp only [List.length_cons]; omega)) ?_
  show bk_g V d j B Q nx (bk_st (a0 :: a1 :: a2 :: a3 :: a4 :: a5 :: a6 :: a7 :: a8 :: a9 :: a10 :: lr) 10 (.int x)) r h n cs
  rw [show bk_st (a0 :: a1 :: a2 :: a3 :: a4 :: a5 :: a6 :: a7 :: a8 :: a9 :: a10 :: lr) 10 (.int x) = (a0 :: a1 :: a2 :: a3 :: a4 :: a5 :: a6 :: a7 :: a8 :: a9 :: some (.int x) :: lr) from bk_stE (L := (a0 :: a1 :: a2 :: a3 :: a4 :: a5 :: a6 :: a7 :: a8 :: a9 :: a10 :: lr)) (k := 9) rfl hc]
  exact z
theorem bg_iinc10 {a0 a1 a2 a3 a4 a5 a6 a7 a8 a9 : Option Value} {lr : bk_L} {x i} (hi : bk_ins j pc = some (.iinc 10 i, nx, sw, c)) (hc : bk_c1 a9 = true) (z : bk_g V d j B Q nx (a0 :: a1 :: a2 :: a3 :: a4 :: a5 :: a6 :: a7 :: a8 :: a9 :: some (.int (x + c)) :: lr) st h n cs) : bk_g V d j B Q pc (a0 :: a1 :: a2 :: a3 :: a4 :: a5 :: a6 :: a7 :: a8 :: a9 :: some (.int x) :: lr) st h n cs := by
  refine bk_go_s (bk_wp_mono d) ?_
  unfold bk_s1
  rw [hi]
  refine bk_ldiI (x := x) rfl ?_
  refine bk_gdI (bk_bltI (by show 10 < _; simp only [List.length_cons]; omega)) ?_
  show bk_g V d j B Q nx (bk_st (a0 :: a1 :: a2 :: a3 :: a4 :: a5 :: a6 :: a7 :: a8 :: a9 :: some (.int x) :: lr) 10 (.int (x + c))) st h n cs
  rw [show bk_st (a0 :: a1 :: a2 :: a3 :: a4 :: a5 :: a6 :: a7 :: a8 :: a9 :: some (.int x) :: lr) 10 (.int (x + c)) = (a0 :: a1 :: a2 :: a3 :: a4 :: a5 :: a6 :: a7 :: a8 :: a9 :: some (.int (x + c)) :: lr) from bk_stE (L := (a0 :: a1 :: a2 :: a3 :: a4 :: a5 :: a6 :: a7 :: a8 :: a9 :: some (.int x) :: lr)) (k := 9) rfl hc]
  exact z
theorem bg_lload10 {a0 a1 a2 a3 a4 a5 a6 a7 a8 a9 : Option Value} {lr : bk_L} {x} (hi : bk_ins j pc = some (.lload 10, nx, sw, c)) (z : bk_g V d j B Q nx (a0 :: a1 :: a2 :: a3 :: a4 :: a5 :: a6 :: a7 :: a8 :: a9 :: some (.long x) :: lr) (.long x :: st) h n cs) : bk_g V d j B Q pc (a0 :: a1 :: a2 :: a3 :: a4 :: a5 :: a6 :: a7 :: a8 :: a9 :: some (.long x) :: lr) st h n cs := by
  refine bk_go_s (bk_wp_mono d) ?_
  unfold bk_s1
  rw [hi]
  exact z
theorem bg_lstore10 {a0 a1 a2 a3 a4 a5 a6 a7 a8 a9 a10 a11 : Option Value} {lr : bk_L} {x} (hi : bk_ins j pc = some (.lstore 10, nx, sw, c)) (hc : bk_c1 a9 = true) (z : bk_g V d j B Q nx (a0 :: a1 :: a2 :: a3 :: a4 :: a5 :: a6 :: a7 :: a8 :: a9 :: some (.long x) :: none :: lr) r h n cs) : bk_g V d j B Q pc (a0 :: a1 :: a2 :: a3 :: a4 :: a5 :: a6 :: a7 :: a8 :: a9 :: a10 :: a11 :: lr) (.long x :: r) h n cs := by
  refine bk_go_s (bk_wp_mono d) ?_
  unfold bk_s1
  rw [hi]
  refine bk_gdI (bk_bltI (by show 11 < _; simp only [List.length_cons]; omega)) ?_
  show bk_g V d j B Q nx (bk_st2 (a0 :: a1 :: a2 :: a3 :: a4 :: a5 :: a6 :: a7 :: a8 :: a9 :: a10 :: a11 :: lr) 10 (.long x)) r h n cs
  unfold bk_st2
  rw [show bk_st (a0 :: a1 :: a2 :: a3 :: a4 :: a5 :: a6 :: a7 :: a8 :: a9 :: a10 :: a11 :: lr) 10 (.long x) = (a0 :: a1 :: a2 :: a3 :: a4 :: a5 :: a6 :: a7 :: a8 :: a9 :: some (.long x) :: a11 :: lr) from bk_stE (L := (a0 :: a1 :: a2 :: a3 :: a4 :: a5 :: a6 :: a7 :: a8 :: a9 :: a10 :: a11 :: lr)) (k := 9) rfl hc]
  exact z
theorem bg_dload10 {a0 a1 a2 a3 a4 a5 a6 a7 a8 a9 : Option Value} {lr : bk_L} {x} (hi : bk_ins j pc = some (.dload 10, nx, sw, c)) (z : bk_g V d j B Q nx (a0 :: a1 :: a2 :: a3 :: a4 :: a5 :: a6 :: a7 :: a8 :: a9 :: some (.double x) :: lr) (.double x :: st) h n cs) : bk_g V d j B Q pc (a0 :: a1 :: a2 :: a3 :: a4 :: a5 :: a6 :: a7 :: a8 :: a9 :: some (.double x) :: lr) st h n cs := by
  refine bk_go_s (bk_wp_mono d) ?_
  unfold bk_s1
  rw [hi]
  exact z
theorem bg_dstore10 {a0 a1 a2 a3 a4 a5 a6 a7 a8 a9 a10 a11 : Option Value} {lr : bk_L} {x} (hi : bk_ins j pc = some (.dstore 10, nx, sw, c)) (hc : bk_c1 a9 = true) (z : bk_g V d j B Q nx (a0 :: a1 :: a2 :: a3 :: a4 :: a5 :: a6 :: a7 :: a8 :: a9 :: some (.double x) :: none :: lr) r h n cs) : bk_g V d j B Q pc (a0 :: a1 :: a2 :: a3 :: a4 :: a5 :: a6 :: a7 :: a8 :: a9 :: a10 :: a11 :: lr) (.double x :: r) h n cs := by
  refine bk_go_s (bk_wp_mono d) ?_
  unfold bk_s1
  rw [hi]
  refine bk_gdI (bk_bltI (by show 11 < _; simp only [List.length_cons]; omega)) ?_
  show bk_g V d j B Q nx (bk_st2 (a0 :: a1 :: a2 :: a3 :: a4 :: a5 :: a6 :: a7 :: a8 :: a9 :: a10 :: a11 :: lr) 10 (.double x)) r h n cs
  unfold bk_st2
  rw [show bk_st (a0 :: a1 :: a2 :: a3 :: a4 :: a5 :: a6 :: a7 :: a8 :: a9 :: a10 :: a11 :: lr) 10 (.double x) = (a0 :: a1 :: a2 :: a3 :: a4 :: a5 :: a6 :: a7 :: a8 :: a9 :: some (.double x) :: a11 :: lr) from bk_stE (L := (a0 :: a1 :: a2 :: a3 :: a4 :: a5 :: a6 :: a7 :: a8 :: a9 :: a10 :: a11 :: lr)) (k := 9) rfl hc]
  exact z
theorem bg_aload10 {a0 a1 a2 a3 a4 a5 a6 a7 a8 a9 : Option Value} {lr : bk_L} {x} (hi : bk_ins j pc = some (.aload 10, nx, sw, c)) (z : bk_g V d j B Q nx (a0 :: a1 :: a2 :: a3 :: a4 :: a5 :: a6 :: a7 :: a8 :: a9 :: some (.ref x) :: lr) (.ref x :: st) h n cs) : bk_g V d j B Q pc (a0 :: a1 :: a2 :: a3 :: a4 :: a5 :: a6 :: a7 :: a8 :: a9 :: some (.ref x) :: lr) st h n cs := by
  refine bk_go_s (bk_wp_mono d) ?_
  unfold bk_s1
  rw [hi]
  exact z
theorem bg_astore10 {a0 a1 a2 a3 a4 a5 a6 a7 a8 a9 a10 : Option Value} {lr : bk_L} {x} (hi : bk_ins j pc = some (.astore 10, nx, sw, c)) (hc : bk_c1 a9 = true) (z : bk_g V d j B Q nx (a0 :: a1 :: a2 :: a3 :: a4 :: a5 :: a6 :: a7 :: a8 :: a9 :: some (.ref x) :: lr) r h n cs) : bk_g V d j B Q pc (a0 :: a1 :: a2 :: a3 :: a4 :: a5 :: a6 :: a7 :: a8 :: a9 :: a10 :: lr) (.ref x :: r) h n cs := by
  refine bk_go_s (bk_wp_mono d) ?_
  unfold bk_s1
  rw [hi]
  refine bk_gdI (bk_bltI (by show 10 < _; simp only [List.length_cons]; omega)) ?_
  show bk_g V d j B Q nx (bk_st (a0 :: a1 :: a2 :: a3 :: a4 :: a5 :: a6 :: a7 :: a8 :: a9 :: a10 :: lr) 10 (.ref x)) r h n cs
  rw [show bk_st (a0 :: a1 :: a2 :: a3 :: a4 :: a5 :: a6 :: a7 :: a8 :: a9 :: a10 :: lr) 10 (.ref x) = (a0 :: a1 :: a2 :: a3 :: a4 :: a5 :: a6 :: a7 :: a8 :: a9 :: some (.ref x) :: lr) from bk_stE (L := (a0 :: a1 :: a2 :: a3 :: a4 :: a5 :: a6 :: a7 :: a8 :: a9 :: a10 :: lr)) (k := 9) rfl hc]
  exact z
theorem bg_iload11 {a0 a1 a2 a3 a4 a5 a6 a7 a8 a9 a10 : Option Value} {lr : bk_L} {x} (hi : bk_ins j pc = some (.iload 11, nx, sw, c)) (z : bk_g V d j B Q nx (a0 :: a1 :: a2 :: a3 :: a4 :: a5 :: a6 :: a7 :: a8 :: a9 :: a10 :: some (.int x) :: lr) (.int x :: st) h n cs) : bk_g V d j B Q pc (a0 :: a1 :: a2 :: a3 :: a4 :: a5 :: a6 :: a7 :: a8 :: a9 :: a10 :: some (.int x) :: lr) st h n cs := by
  refine bk_go_s (bk_wp_mono d) ?_
  unfold bk_s1
  rw [hi]
  exact z
theorem bg_istore11 {a0 a1 a2 a3 a4 a5 a6 a7 a8 a9 a10 a11 : Option Value} {lr : bk_L} {x} (hi : bk_ins j pc = some (.istore 11, nx, sw, c)) (hc : bk_c1 a10 = true) (z : bk_g V d j B Q nx (a0 :: a1 :: a2 :: a3 :: a4 :: a5 :: a6 :: a7 :: a8 :: a9 :: a10 :: some (.int x) :: lr) r h n cs) : bk_g V d j B Q pc (a0 :: a1 :: a2 :: a3 :: a4 :: a5 :: a6 :: a7 :: a8 :: a9 :: a10 :: a11 :: lr) (.int x :: r) h n cs := by
  refine bk_go_s (bk_wp_mono d) ?_
  unfold bk_s1
  rw [hi]
  refine bk_x1I ?_
  refine bk_gdI (bk_bltI (by show 11 < _; simp only [List.length_cons]; omega)) ?_
  show bk_g V d j B Q nx (bk_st (a0 :: a1 :: a2 :: a3 :: a4 :: a5 :: a6 :: a7 :: a8 :: a9 :: a10 :: a11 :: lr) 11 (.int x)) r h n cs
  rw [show bk_st (a0 :: a1 :: a2 :: a3 :: a4 :: a5 :: a6 :: a7 :: a8 :: a9 :: a10 :: a11 :: lr) 11 (.int x) = (a0 :: a1 :: a2 :: a3 :: a4 :: a5 :: a6 :: a7 :: a8 :: a9 :: a10 :: some (.int x) :: lr) from bk_stE (L := (a0 :: a1 :: a2 :: a3 :: a4 :: a5 :: a6 :: a7 :: a8 :: a9 :: a10 :: a11 :: lr)) (k := 10) rfl hc]
  exact z
theorem bg_iinc11 {a0 a1 a2 a3 a4 a5 a6 a7 a8 a9 a10 : Option Value} {lr : bk_L} {x i} (hi : bk_ins j pc = some (.iinc 11 i, nx, sw, c)) (hc : bk_c1 a10 = true) (z : bk_g V d j B Q nx (a0 :: a1 :: a2 :: a3 :: a4 :: a5 :: a6 :: a7 :: a8 :: a9 :: a10 :: some (.int (x + c)) :: lr) st h n cs) : bk_g V d j B Q pc (a0 :: a1 :: a2 :: a3 :: a4 :: a5 :: a6 :: a7 :: a8 :: a9 :: a10 :: some (.int x) :: lr) st h n cs := by
  refine bk_go_s (bk_wp_mono d) ?_
  unfold bk_s1
  rw [hi]
  refine bk_ldiI (x := x) rfl ?_
  refine bk_gdI (bk_bltI (by show 11 < _; simp only [List.length_cons]; omega)) ?_
  show bk_g V d j B Q nx (bk_st (a0 :: a1 :: a2 :: a3 :: a4 :: a5 :: a6 :: a7 :: a8 :: a9 :: a10 :: some (.int x) :: lr) 11 (.int (x + c))) st h n cs
  rw [show bk_st (a0 :: a1 :: a2 :: a3 :: a4 :: a5 :: a6 :: a7 :: a8 :: a9 :: a10 :: some (.int x) :: lr) 11 (.int (x + c)) = (a0 :: a1 :: a2 :: a3 :: a4 :: a5 :: a6 :: a7 :: a8 :: a9 :: a10 :: some (.int (x + c)) :: lr) from bk_stE (L := (a0 :: a1 :: a2 :: a3 :: a4 :: a5 :: a6 :: a7 :: a8 :: a9 :: a10 :: some (.int x) :: lr)) (k := 10) rfl hc]
  exact z
theorem bg_lload11 {a0 a1 a2 a3 a4 a5 a6 a7 a8 a9 a10 : Option Value} {lr : bk_L} {x} (hi : bk_ins j pc = some (.lload 11, nx, sw, c)) (z : bk_g V d j B Q nx (a0 :: a1 :: a2 :: a3 :: a4 :: a5 :: a6 :: a7 :: a8 :: a9 :: a10 :: some (.long x) :: lr) (.long x :: st) h n cs) : bk_g V d j B Q pc (a0 :: a1 :: a2 :: a3 :: a4 :: a5 :: a6 :: a7 :: a8 :: a9 :: a10 :: some (.long x) :: lr) st h n cs := by
  refine bk_go_s (bk_wp_mono d) ?_
  unfold bk_s1
  rw [hi]
  exact z
theorem bg_lstore11 {a0 a1 a2 a3 a4 a5 a6 a7 a8 a9 a10 a11 a12 : Option Value} {lr : bk_L} {x} (hi : bk_ins j pc = some (.lstore 11, nx, sw, c)) (hc : bk_c1 a10 = true) (z : bk_g V d j B Q nx (a0 :: a1 :: a2 :: a3 :: a4 :: a5 :: a6 :: a7 :: a8 :: a9 :: a10 :: some (.long x) :: none :: lr) r h n cs) : bk_g V d j B Q pc (a0 :: a1 :: a2 :: a3 :: a4 :: a5 :: a6 :: a7 :: a8 :: a9 :: a10 :: a11 :: a12 :: lr) (.long x :: r) h n cs := by
  refine bk_go_s (bk_wp_mono d) ?_
  unfold bk_s1
  rw [hi]
  refine bk_gdI (bk_bltI (by show 12 < _; simp only [List.length_cons]; omega)) ?_
  show bk_g V d j B Q nx (bk_st2 (a0 :: a1 :: a2 :: a3 :: a4 :: a5 :: a6 :: a7 :: a8 :: a9 :: a10 :: a11 :: a12 :: lr) 11 (.long x)) r h n cs
  unfold bk_st2
  rw [show bk_st (a0 :: a1 :: a2 :: a3 :: a4 :: a5 :: a6 :: a7 :: a8 :: a9 :: a10 :: a11 :: a12 :: lr) 11 (.long x) = (a0 :: a1 :: a2 :: a3 :: a4 :: a5 :: a6 :: a7 :: a8 :: a9 :: a10 :: some (.long x) :: a12 :: lr) from bk_stE (L := (a0 :: a1 :: a2 :: a3 :: a4 :: a5 :: a6 :: a7 :: a8 :: a9 :: a10 :: a11 :: a12 :: lr)) (k := 10) rfl hc]
  exact z
theorem bg_dload11 {a0 a1 a2 a3 a4 a5 a6 a7 a8 a9 a10 : Option Value} {lr : bk_L} {x} (hi : bk_ins j pc = some (.dload 11, nx, sw, c)) (z : bk_g V d j B Q nx (a0 :: a1 :: a2 :: a3 :: a4 :: a5 :: a6 :: a7 :: a8 :: a9 :: a10 :: some (.double x) :: lr) (.double x :: st) h n cs) : bk_g V d j B Q pc (a0 :: a1 :: a2 :: a3 :: a4 :: a5 :: a6 :: a7 :: a8 :: a9 :: a10 :: some (.double x) :: lr) st h n cs := by
  refine bk_go_s (bk_wp_mono d) ?_
  unfold bk_s1
  rw [hi]
  exact z
theorem bg_dstore11 {a0 a1 a2 a3 a4 a5 a6 a7 a8 a9 a10 a11 a12 : Option Value} {lr : bk_L} {x} (hi : bk_ins j pc = some (.dstore 11, nx, sw, c)) (hc : bk_c1 a10 = true) (z : bk_g V d j B Q nx (a0 :: a1 :: a2 :: a3 :: a4 :: a5 :: a6 :: a7 :: a8 :: a9 :: a10 :: some (.double x) :: none :: lr) r h n cs) : bk_g V d j B Q pc (a0 :: a1 :: a2 :: a3 :: a4 :: a5 :: a6 :: a7 :: a8 :: a9 :: a10 :: a11 :: a12 :: lr) (.double x :: r) h n cs := by
  refine bk_go_s (bk_wp_mono d) ?_
  unfold bk_s1
  rw [hi]
  refine bk_gdI (bk_bltI (by show 12 < _; simp only [List.length_cons]; omega)) ?_
  show bk_g V d j B Q nx (bk_st2 (a0 :: a1 :: a2 :: a3 :: a4 :: a5 :: a6 :: a7 :: a8 :: a9 :: a10 :: a11 :: a12 :: lr) 11 (.double x)) r h n cs
  unfold bk_st2
  rw [show bk_st (a0 :: a1 :: a2 :: a3 :: a4 :: a5 :: a6 :: a7 :: a8 :: a9 :: a10 :: a11 :: a12 :: lr) 11 (.double x) = (a0 :: a1 :: a2 :: a3 :: a4 :: a5 :: a6 :: a7 :: a8 :: a9 :: a10 :: some (.double x) :: a12 :: lr) from bk_stE (L := (a0 :: a1 :: a2 :: a3 :: a4 :: a5 :: a6 :: a7 :: a8 :: a9 :: a10 :: a11 :: a12 :: lr)) (k := 10) rfl hc]
  exact z
theorem bg_aload11 {a0 a1 a2 a3 a4 a5 a6 a7 a8 a9 a10 : Option Value} {lr : bk_L} {x} (hi : bk_ins j pc = some (.aload 11, nx, sw, c)) (z : bk_g V d j B Q nx (a0 :: a1 :: a2 :: a3 :: a4 :: a5 :: a6 :: a7 :: a8 :: a9 :: a10 :: some (.ref x) :: lr) (.ref x :: st) h n cs) : bk_g V d j B Q pc (a0 :: a1 :: a2 :: a3 :: a4 :: a5 :: a6 :: a7 :: a8 :: a9 :: a10 :: some (.ref x) :: lr) st h n cs := by
  refine bk_go_s (bk_wp_mono d) ?_
  unfold bk_s1
  rw [hi]
  exact z
theorem bg_astore11 {a0 a1 a2 a3 a4 a5 a6 a7 a8 a9 a10 a11 : Option Value} {lr : bk_L} {x} (hi : bk_ins j pc = some (.astore 11, nx, sw, c)) (hc : bk_c1 a10 = true) (z : bk_g V d j B Q nx (a0 :: a1 :: a2 :: a3 :: a4 :: a5 :: a6 :: a7 :: a8 :: a9 :: a10 :: some (.ref x) :: lr) r h n cs) : bk_g V d j B Q pc (a0 :: a1 :: a2 :: a3 :: a4 :: a5 :: a6 :: a7 :: a8 :: a9 :: a10 :: a11 :: lr) (.ref x :: r) h n cs := by
  refine bk_go_s (bk_wp_mono d) ?_
  unfold bk_s1
  rw [hi]
  refine bk_gdI (bk_bltI (by show 11 < _; simp only [List.length_cons]; omega)) ?_
  show bk_g V d j B Q nx (bk_st (a0 :: a1 :: a2 :: a3 :: a4 :: a5 :: a6 :: a7 :: a8 :: a9 :: a10 :: a11 :: lr) 11 (.ref x)) r h n cs
  rw [show bk_st (a0 :: a1 :: a2 :: a3 :: a4 :: a5 :: a6 :: a7 :: a8 :: a9 :: a10 :: a11 :: lr) 11 (.ref x) = (a0 :: a1 :: a2 :: a3 :: a4 :: a5 :: a6 :: a7 :: a8 :: a9 :: a10 :: some (.ref x) :: lr) from bk_stE (L := (a0 :: a1 :: a2 :: a3 :: a4 :: a5 :: a6 :: a7 :: a8 :: a9 :: a10 :: a11 :: lr)) (k := 10) rfl hc]
  exact z
theorem bg_iload12 {a0 a1 a2 a3 a4 a5 a6 a7 a8 a9 a10 a11 : Option Value} {lr : bk_L} {x} (hi : bk_ins j pc = some (.iload 12, nx, sw, c)) (z : bk_g V d j B Q nx (a0 :: a1 :: a2 :: a3 :: a4 :: a5 :: a6 :: a7 :: a8 :: a9 :: a10 :: a11 :: some (.int x) :: lr) (.int x :: st) h n cs) : bk_g V d j B Q pc (a0 :: a1 :: a2 :: a3 :: a4 :: a5 :: a6 :: a7 :: a8 :: a9 :: a10 :: a11 :: some (.int x) :: lr) st h n cs := by
  refine bk_go_s (bk_wp_mono d) ?_
  unfold bk_s1
  rw [hi]
  exact z
theorem bg_istore12 {a0 a1 a2 a3 a4 a5 a6 a7 a8 a9 a10 a11 a12 : Option Value} {lr : bk_L} {x} (hi : bk_ins j pc = some (.istore 12, nx, sw, c)) (hc : bk_c1 a11 = true) (z : bk_g V d j B Q nx (a0 :: a1 :: a2 :: a3 :: a4 :: a5 :: a6 :: a7 :: a8 :: a9 :: a10 :: a11 :: some (.int x) :: lr) r h n cs) : bk_g V d j B Q pc (a0 :: a1 :: a2 :: a3 :: a4 :: a5 :: a6 :: a7 :: a8 :: a9 :: a10 :: a11 :: a12 :: lr) (.int x :: r) h n cs := by
  refine bk_go_s (bk_wp_mono d) ?_
  unfold bk_s1
  rw [hi]
  refine bk_x1I ?_
  refine bk_gdI (bk_bltI (by show 12 < _; simp only [List.length_cons]; omega)) ?_
  show bk_g V d j B Q nx (bk_st (a0 :: a1 :: a2 :: a3 :: a4 :: a5 :: a6 :: a7 :: a8 :: a9 :: a10 :: a11 :: a12 :: lr) 12 (.int x)) r h n cs
  rw [show bk_st (a0 :: a1 :: a2 :: a3 :: a4 :: a5 :: a6 :: a7 :: a8 :: a9 :: a10 :: a11 :: a12 :: lr) 12 (.int x) = (a0 :: a1 :: a2 :: a3 :: a4 :: a5 :: a6 :: a7 :: a8 :: a9 :: a10 :: a11 :: some (.int x) :: lr) from bk_stE (L := (a0 :: a1 :: a2 :: a3 :: a4 :: a5 :: a6 :: a7 :: a8 :: a9 :: a10 :: a11 :: a12 :: lr)) (k := 11) rfl hc]
  exact z
theorem bg_iinc12 {a0 a1 a2 a3 a4 a5 a6 a7 a8 a9 a10 a11 : Option Value} {lr : bk_L} {x i} (hi : bk_ins j pc = some (.iinc 12 i, nx, sw, c)) (hc : bk_c1 a11 = true) (z : bk_g V d j B Q nx (a0 :: a1 :: a2 :: a3 :: a4 :: a5 :: a6 :: a7 :: a8 :: a9 :: a10 :: a11 :: some (.int (x + c)) :: lr) st h n cs) : bk_g V d j B Q pc (a0 :: a1 :: a2 :: a3 :: a4 :: a5 :: a6 :: a7 :: a8 :: a9 :: a10 :: a11 :: some (.int x) :: lr) st h n cs := by
  refine bk_go_s (bk_wp_mono d) ?_
  unfold bk_s1
  rw [hi]
  refine bk_ldiI (x := x) rfl ?_
  refine bk_gdI (bk_bltI (by show 12 < _; simp only [List.length_cons]; omega)) ?_
  show bk_g V d j B Q nx (bk_st (a0 :: a1 :: a2 :: a3 :: a4 :: a5 :: a6 :: a7 :: a8 :: a9 :: a10 :: a11 :: some (.int x) :: lr) 12 (.int (x + c))) st h n cs
  rw [show bk_st (a0 :: a1 :: a2 :: a3 :: a4 :: a5 :: a6 :: a7 :: a8 :: a9 :: a10 :: a11 :: some (.int x) :: lr) 12 (.int (x + c)) = (a0 :: a1 :: a2 :: a3 :: a4 :: a5 :: a6 :: a7 :: a8 :: a9 :: a10 :: a11 :: some (.int (x + c)) :: lr) from bk_stE (L := (a0 :: a1 :: a2 :: a3 :: a4 :: a5 :: a6 :: a7 :: a8 :: a9 :: a10 :: a11 :: some (.int x) :: lr)) (k := 11) rfl hc]
  exact z
theorem bg_lload12 {a0 a1 a2 a3 a4 a5 a6 a7 a8 a9 a10 a11 : Option Value} {lr : bk_L} {x} (hi : bk_ins j pc = some (.lload 12, nx, sw, c)) (z : bk_g V d j B Q nx (a0 :: a1 :: a2 :: a3 :: a4 :: a5 :: a6 :: a7 :: a8 :: a9 :: a10 :: a11 :: some (.long x) :: lr) (.long x :: st) h n cs) : bk_g V d j B Q pc (a0 :: a1 :: a2 :: a3 :: a4 :: a5 :: a6 :: a7 :: a8 :: a9 :: a10 :: a11 :: some (.long x) :: lr) st h n cs := by
  refine bk_go_s (bk_wp_mono d) ?_
  unfold bk_s1
  rw [hi]
  exact z
theorem bg_lstore12 {a0 a1 a2 a3 a4 a5 a6 a7 a8 a9 a10 a11 a12 a13 : Option Value} {lr : bk_L} {x} (hi : bk_ins j pc = some (.lstore 12, nx, sw, c)) (hc : bk_c1 a11 = true) (z : bk_g V d j B Q nx (a0 :: a1 :: a2 :: a3 :: a4 :: a5 :: a6 :: a7 :: a8 :: a9 :: a10 :: a11 :: some (.long x) :: none :: lr) r h n cs) : bk_g V d j B Q pc (a0 :: a1 :: a2 :: a3 :: a4 :: a5 :: a6 :: a7 :: a8 :: a9 :: a10 :: a11 :: a12 :: a13 :: lr) (.long x :: r) h n cs := by
  refine bk_go_s (bk_wp_mono d) ?_
  unfold bk_s1
  rw [hi]
  refine bk_gdI (bk_bltI (by show 13 < _; simp only [List.length_cons]; omega)) ?_
  show bk_g V d j B Q nx (bk_st2 (a0 :: a1 :: a2 :: a3 :: a4 :: a5 :: a6 :: a7 :: a8 :: a9 :: a10 :: a11 :: a12 :: a13 :: lr) 12 (.long x)) r h n cs
  unfold bk_st2
  rw [show bk_st (a0 :: a1 :: a2 :: a3 :: a4 :: a5 :: a6 :: a7 :: a8 :: a9 :: a10 :: a11 :: a12 :: a13 :: lr) 12 (.long x) = (a0 :: a1 :: a2 :: a3 :: a4 :: a5 :: a6 :: a7 :: a8 :: a9 :: a10 :: a11 :: some (.long x) :: a13 :: lr) from bk_stE (L := (a0 :: a1 :: a2 :: a3 :: a4 :: a5 :: a6 :: a7 :: a8 :: a9 :: a10 :: a11 :: a12 :: a13 :: lr)) (k := 11) rfl hc]
  exact z
theorem bg_dload12 {a0 a1 a2 a3 a4 a5 a6 a7 a8 a9 a10 a11 : Option Value} {lr : bk_L} {x} (hi : bk_ins j pc = some (.dload 12, nx, sw, c)) (z : bk_g V d j B Q nx (a0 :: a1 :: a2 :: a3 :: a4 :: a5 :: a6 :: a7 :: a8 :: a9 :: a10 :: a11 :: some (.double x) :: lr) (.double x :: st) h n cs) : bk_g V d j B Q pc (a0 :: a1 :: a2 :: a3 :: a4 :: a5 :: a6 :: a7 :: a8 :: a9 :: a10 :: a11 :: some (.double x) :: lr) st h n cs := by
  refine bk_go_s (bk_wp_mono d) ?_
  unfold bk_s1
  rw [hi]
  exact z
theorem bg_dstore12 {a0 a1 a2 a3 a4 a5 a6 a7 a8 a9 a10 a11 a12 a13 : Option Value} {lr : bk_L} {x} (hi : bk_ins j pc = some (.dstore 12, nx, sw, c)) (hc : bk_c1 a11 = true) (z : bk_g V d j B Q nx (a0 :: a1 :: a2 :: a3 :: a4 :: a5 :: a6 :: a7 :: a8 :: a9 :: a10 :: a11 :: some (.double x) :: none :: lr) r h n cs) : bk_g V d j B Q pc (a0 :: a1 :: a2 :: a3 :: a4 :: a5 :: a6 :: a7 :: a8 :: a9 :: a10 :: a11 :: a12 :: a13 :: lr) (.double x :: r) h n cs := by
  refine bk_go_s (bk_wp_mono d) ?_
  unfold bk_s1
  rw [hi]
  refine bk_gdI (bk_bltI (by show 13 < _; simp only [List.length_cons]; omega)) ?_
  show bk_g V d j B Q nx (bk_st2 (a0 :: a1 :: a2 :: a3 :: a4 :: a5 :: a6 :: a7 :: a8 :: a9 :: a10 :: a11 :: a12 :: a13 :: lr) 12 (.double x)) r h n cs
  unfold bk_st2
  rw [show bk_st (a0 :: a1 :: a2 :: a3 :: a4 :: a5 :: a6 :: a7 :: a8 :: a9 :: a10 :: a11 :: a12 :: a13 :: lr) 12 (.double x) = (a0 :: a1 :: a2 :: a3 :: a4 :: a5 :: a6 :: a7 :: a8 :: a9 :: a10 :: a11 :: some (.double x) :: a13 :: lr) from bk_stE (L := (a0 :: a1 :: a2 :: a3 :: a4 :: a5 :: a6 :: a7 :: a8 :: a9 :: a10 :: a11 :: a12 :: a13 :: lr)) (k := 11) rfl hc]
  exact z
theorem bg_aload12 {a0 a1 a2 a3 a4 a5 a6 a7 a8 a9 a10 a11 : Option Value} {lr : bk_L} {x} (hi : bk_ins j pc = some (.aload 12, nx, sw, c)) (z : bk_g V d j B Q nx (a0 :: a1 :: a2 :: a3 :: a4 :: a5 :: a6 :: a7 :: a8 :: a9 :: a10 :: a11 :: some (.ref x) :: lr) (.ref x :: st) h n cs) : bk_g V d j B Q pc (a0 :: a1 :: a2 :: a3 :: a4 :: a5 :: a6 :: a7 :: a8 :: a9 :: a10 :: a11 :: some (.ref x) :: lr) st h n cs := by
  refine bk_go_s (bk_wp_mono d) ?_
  unfold bk_s1
  rw [hi]
  exact z
theorem bg_astore12 {a0 a1 a2 a3 a4 a5 a6 a7 a8 a9 a10 a11 a12 : Option Value} {lr : bk_L} {x} (hi : bk_ins j pc = some (.astore 12, nx, sw, c)) (hc : bk_c1 a11 = true) (z : bk_g V d j B Q nx (a0 :: a1 :: a2 :: a3 :: a4 :: a5 :: a6 :: a7 :: a8 :: a9 :: a10 :: a11 :: some (.ref x) :: lr) r h n cs) : bk_g V d j B Q pc (a0 :: a1 :: a2 :: a3 :: a4 :: a5 :: a6 :: a7 :: a8 :: a9 :: a10 :: a11 :: a12 :: lr) (.ref x :: r) h n cs := by
  refine bk_go_s (bk_wp_mono d) ?_
  unfold bk_s1
  rw [hi]
  refine bk_gdI (bk_bltI (by show 12 < _; simp only [List.length_cons]; omega)) ?_
  show bk_g V d j B Q nx (bk_st (a0 :: a1 :: a2 :: a3 :: a4 :: a5 :: a6 :: a7 :: a8 :: a9 :: a10 :: a11 :: a12 :: lr) 12 (.ref x)) r h n cs
  rw [show bk_st (a0 :: a1 :: a2 :: a3 :: a4 :: a5 :: a6 :: a7 :: a8 :: a9 :: a10 :: a11 :: a12 :: lr) 12 (.ref x) = (a0 :: a1 :: a2 :: a3 :: a4 :: a5 :: a6 :: a7 :: a8 :: a9 :: a10 :: a11 :: some (.ref x) :: lr) from bk_stE (L := (a0 :: a1 :: a2 :: a3 :: a4 :: a5 :: a6 :: a7 :: a8 :: a9 :: a10 :: a11 :: a12 :: lr)) (k := 11) rfl hc]
  exact z
theorem bg_iadd {x y : Int32} (hi : bk_ins j pc = some (.iadd, nx, sw, c)) (z : bk_g V d j B Q nx L (.int (x + y) :: r) h n cs) : bk_g V d j B Q pc L (.int y :: .int x :: r) h n cs := by
  refine bk_go_s (bk_wp_mono d) ?_
  unfold bk_s1
  rw [hi]
  exact z
theorem bg_isub {x y : Int32} (hi : bk_ins j pc = some (.isub, nx, sw, c)) (z : bk_g V d j B Q nx L (.int (x - y) :: r) h n cs) : bk_g V d j B Q pc L (.int y :: .int x :: r) h n cs := by
  refine bk_go_s (bk_wp_mono d) ?_
  unfold bk_s1
  rw [hi]
  exact z
theorem bg_imul {x y : Int32} (hi : bk_ins j pc = some (.imul, nx, sw, c)) (z : bk_g V d j B Q nx L (.int (x * y) :: r) h n cs) : bk_g V d j B Q pc L (.int y :: .int x :: r) h n cs := by
  refine bk_go_s (bk_wp_mono d) ?_
  unfold bk_s1
  rw [hi]
  exact z
theorem bg_iand {x y : Int32} (hi : bk_ins j pc = some (.iand, nx, sw, c)) (z : bk_g V d j B Q nx L (.int (x &&& y) :: r) h n cs) : bk_g V d j B Q pc L (.int y :: .int x :: r) h n cs := by
  refine bk_go_s (bk_wp_mono d) ?_
  unfold bk_s1
  rw [hi]
  exact z
theorem bg_ior {x y : Int32} (hi : bk_ins j pc = some (.ior, nx, sw, c)) (z : bk_g V d j B Q nx L (.int (x ||| y) :: r) h n cs) : bk_g V d j B Q pc L (.int y :: .int x :: r) h n cs := by
  refine bk_go_s (bk_wp_mono d) ?_
  unfold bk_s1
  rw [hi]
  exact z
theorem bg_ishr {x y : Int32} (hi : bk_ins j pc = some (.ishr, nx, sw, c)) (z : bk_g V d j B Q nx L (.int (x >>> (y &&& 31)) :: r) h n cs) : bk_g V d j B Q pc L (.int y :: .int x :: r) h n cs := by
  refine bk_go_s (bk_wp_mono d) ?_
  unfold bk_s1
  rw [hi]
  exact z
theorem bg_iushr {x y : Int32} (hi : bk_ins j pc = some (.iushr, nx, sw, c)) (z : bk_g V d j B Q nx L (.int ((x.toUInt32 >>> (y.toUInt32 &&& Int32.toUInt32 31)).toInt32) :: r) h n cs) : bk_g V d j B Q pc L (.int y :: .int x :: r) h n cs := by
  refine bk_go_s (bk_wp_mono d) ?_
  unfold bk_s1
  rw [hi]
  exact z
theorem bg_idiv {x y} (hi : bk_ins j pc = some (.idiv, nx, sw, c)) (hy : ¬ y = 0) (z : bk_g V d j B Q nx L (.int (x / y) :: r) h n cs) : bk_g V d j B Q pc L (.int y :: .int x :: r) h n cs := by
  refine bk_go_s (bk_wp_mono d) ?_
  unfold bk_s1
  rw [hi]
  exact ⟨hy, z⟩
theorem bg_irem {x y} (hi : bk_ins j pc = some (.irem, nx, sw, c)) (hy : ¬ y = 0) (z : bk_g V d j B Q nx L (.int (x - x / y * y) :: r) h n cs) : bk_g V d j B Q pc L (.int y :: .int x :: r) h n cs := by
  refine bk_go_s (bk_wp_mono d) ?_
  unfold bk_s1
  rw [hi]
  exact ⟨hy, z⟩
theorem bg_ineg {x} (hi : bk_ins j pc = some (.ineg, nx, sw, c)) (z : bk_g V d j B Q nx L (.int (-x) :: r) h n cs) : bk_g V d j B Q pc L (.int x :: r) h n cs := by
  refine bk_go_s (bk_wp_mono d) ?_
  unfold bk_s1
  rw [hi]
  exact z
theorem bg_i2l {x} (hi : bk_ins j pc = some (.i2l, nx, sw, c)) (z : bk_g V d j B Q nx L (.long x.toInt64 :: r) h n cs) : bk_g V d j B Q pc L (.int x :: r) h n cs := by
  refine bk_go_s (bk_wp_mono d) ?_
  unfold bk_s1
  rw [hi]
  exact z
theorem bg_i2c {x} (hi : bk_ins j pc = some (.i2c, nx, sw, c)) (z : bk_g V d j B Q nx L (.int (x.toUInt32 % 65536).toInt32 :: r) h n cs) : bk_g V d j B Q pc L (.int x :: r) h n cs := by
  refine bk_go_s (bk_wp_mono d) ?_
  unfold bk_s1
  rw [hi]
  exact z
theorem bg_i2b {x} (hi : bk_ins j pc = some (.i2b, nx, sw, c)) (z : bk_g V d j B Q nx L (.int x.toInt8.toInt32 :: r) h n cs) : bk_g V d j B Q pc L (.int x :: r) h n cs := by
  refine bk_go_s (bk_wp_mono d) ?_
  unfold bk_s1
  rw [hi]
  exact z
theorem bg_i2d {x} (hi : bk_ins j pc = some (.i2d, nx, sw, c)) (z : bk_g V d j B Q nx L (.double (FP.i2d x) :: r) h n cs) : bk_g V d j B Q pc L (.int x :: r) h n cs := by
  refine bk_go_s (bk_wp_mono d) ?_
  unfold bk_s1
  rw [hi]
  exact z
theorem bg_ladd {x y} (hi : bk_ins j pc = some (.ladd, nx, sw, c)) (z : bk_g V d j B Q nx L (.long (x + y) :: r) h n cs) : bk_g V d j B Q pc L (.long y :: .long x :: r) h n cs := by
  refine bk_go_s (bk_wp_mono d) ?_
  unfold bk_s1
  rw [hi]
  exact z
theorem bg_lmul {x y} (hi : bk_ins j pc = some (.lmul, nx, sw, c)) (z : bk_g V d j B Q nx L (.long (x * y) :: r) h n cs) : bk_g V d j B Q pc L (.long y :: .long x :: r) h n cs := by
  refine bk_go_s (bk_wp_mono d) ?_
  unfold bk_s1
  rw [hi]
  exact z
theorem bg_lcmp {x y} (hi : bk_ins j pc = some (.lcmp, nx, sw, c)) (z : bk_g V d j B Q nx L (.int (lg_cmp x y) :: r) h n cs) : bk_g V d j B Q pc L (.long y :: .long x :: r) h n cs := by
  refine bk_go_s (bk_wp_mono d) ?_
  unfold bk_s1
  rw [hi]
  exact z
theorem bg_ddiv {x y} (hi : bk_ins j pc = some (.ddiv, nx, sw, c)) (hn : vf_n64 (FP.ddiv x y)) (z : bk_g V d j B Q nx L (.double (FP.ddiv x y) :: r) h n cs) : bk_g V d j B Q pc L (.double y :: .double x :: r) h n cs := by
  refine bk_go_s (bk_wp_mono d) ?_
  unfold bk_s1
  rw [hi]
  exact ⟨hn, z⟩
theorem bg_dcmp {x y op} (hi : bk_ins j pc = some (.dcmp op, nx, sw, c)) (z : bk_g V d j B Q nx L (.int (Op.cmpValue (FP.dcmp x y) op) :: r) h n cs) : bk_g V d j B Q pc L (.double y :: .double x :: r) h n cs := by
  refine bk_go_s (bk_wp_mono d) ?_
  unfold bk_s1
  rw [hi]
  exact z
theorem bg_dup {v : Value} (hi : bk_ins j pc = some (.dup, nx, sw, c)) (hv : Nat.beq v.category 1 = true) (z : bk_g V d j B Q nx L (v :: v :: r) h n cs) : bk_g V d j B Q pc L (v :: r) h n cs := by
  refine bk_go_s (bk_wp_mono d) ?_
  unfold bk_s1
  rw [hi]
  show bk_gd _ _
  rw [hv]
  exact z
theorem bg_dup2 {v w : Value} (hi : bk_ins j pc = some (.dup2, nx, sw, c)) (hv : Nat.beq v.category 1 = true) (hw : Nat.beq w.category 1 = true) (z : bk_g V d j B Q nx L (v :: w :: v :: w :: r) h n cs) : bk_g V d j B Q pc L (v :: w :: r) h n cs := by
  refine bk_go_s (bk_wp_mono d) ?_
  unfold bk_s1
  rw [hi]
  show bk_gd _ _
  rw [hv]
  show bk_gd _ _
  rw [hw]
  exact z
theorem bg_goto {i a t} (hi : bk_ins j pc = some (.goto i, nx, (a, t) :: sw, c)) (z : bk_g V d j B Q t L st h n cs) : bk_g V d j B Q pc L st h n cs := by
  refine bk_go_s (bk_wp_mono d) ?_
  unfold bk_s1
  rw [hi]
  exact z
theorem bg_if_eq {x i a t} (hi : bk_ins j pc = some (.ifCond .eq i, nx, (a, t) :: sw, c)) (z1 : x = 0 → bk_g V d j B Q t L r h n cs) (z2 : ¬ x = 0 → bk_g V d j B Q nx L r h n cs) : bk_g V d j B Q pc L (.int x :: r) h n cs := by
  refine bk_go_s (bk_wp_mono d) ?_
  unfold bk_s1
  rw [hi]
  exact ⟨z1, z2⟩
theorem bg_if_ne {x i a t} (hi : bk_ins j pc = some (.ifCond .ne i, nx, (a, t) :: sw, c)) (z1 : ¬ x = 0 → bk_g V d j B Q t L r h n cs) (z2 : x = 0 → bk_g V d j B Q nx L r h n cs) : bk_g V d j B Q pc L (.int x :: r) h n cs := by
  refine bk_go_s (bk_wp_mono d) ?_
  unfold bk_s1
  rw [hi]
  exact ⟨z1, z2⟩
theorem bg_if_lt {x i a t} (hi : bk_ins j pc = some (.ifCond .lt i, nx, (a, t) :: sw, c)) (z1 : x < 0 → bk_g V d j B Q t L r h n cs) (z2 : ¬ x < 0 → bk_g V d j B Q nx L r h n cs) : bk_g V d j B Q pc L (.int x :: r) h n cs := by
  refine bk_go_s (bk_wp_mono d) ?_
  unfold bk_s1
  rw [hi]
  exact ⟨z1, z2⟩
theorem bg_if_ge {x i a t} (hi : bk_ins j pc = some (.ifCond .ge i, nx, (a, t) :: sw, c)) (z1 : ¬ x < 0 → bk_g V d j B Q t L r h n cs) (z2 : x < 0 → bk_g V d j B Q nx L r h n cs) : bk_g V d j B Q pc L (.int x :: r) h n cs := by
  refine bk_go_s (bk_wp_mono d) ?_
  unfold bk_s1
  rw [hi]
  exact ⟨z1, z2⟩
theorem bg_if_gt {x i a t} (hi : bk_ins j pc = some (.ifCond .gt i, nx, (a, t) :: sw, c)) (z1 : 0 < x → bk_g V d j B Q t L r h n cs) (z2 : ¬ 0 < x → bk_g V d j B Q nx L r h n cs) : bk_g V d j B Q pc L (.int x :: r) h n cs := by
  refine bk_go_s (bk_wp_mono d) ?_
  unfold bk_s1
  rw [hi]
  exact ⟨z1, z2⟩
theorem bg_if_le {x i a t} (hi : bk_ins j pc = some (.ifCond .le i, nx, (a, t) :: sw, c)) (z1 : ¬ 0 < x → bk_g V d j B Q t L r h n cs) (z2 : 0 < x → bk_g V d j B Q nx L r h n cs) : bk_g V d j B Q pc L (.int x :: r) h n cs := by
  refine bk_go_s (bk_wp_mono d) ?_
  unfold bk_s1
  rw [hi]
  exact ⟨z1, z2⟩
theorem bg_icmp_eq {x y i a t} (hi : bk_ins j pc = some (.if_icmp .eq i, nx, (a, t) :: sw, c)) (z1 : x = y → bk_g V d j B Q t L r h n cs) (z2 : ¬ x = y → bk_g V d j B Q nx L r h n cs) : bk_g V d j B Q pc L (.int y :: .int x :: r) h n cs := by
  refine bk_go_s (bk_wp_mono d) ?_
  unfold bk_s1
  rw [hi]
  exact ⟨z1, z2⟩
theorem bg_icmp_ne {x y i a t} (hi : bk_ins j pc = some (.if_icmp .ne i, nx, (a, t) :: sw, c)) (z1 : ¬ x = y → bk_g V d j B Q t L r h n cs) (z2 : x = y → bk_g V d j B Q nx L r h n cs) : bk_g V d j B Q pc L (.int y :: .int x :: r) h n cs := by
  refine bk_go_s (bk_wp_mono d) ?_
  unfold bk_s1
  rw [hi]
  exact ⟨z1, z2⟩
theorem bg_icmp_lt {x y i a t} (hi : bk_ins j pc = some (.if_icmp .lt i, nx, (a, t) :: sw, c)) (z1 : x < y → bk_g V d j B Q t L r h n cs) (z2 : ¬ x < y → bk_g V d j B Q nx L r h n cs) : bk_g V d j B Q pc L (.int y :: .int x :: r) h n cs := by
  refine bk_go_s (bk_wp_mono d) ?_
  unfold bk_s1
  rw [hi]
  exact ⟨z1, z2⟩
theorem bg_icmp_ge {x y i a t} (hi : bk_ins j pc = some (.if_icmp .ge i, nx, (a, t) :: sw, c)) (z1 : ¬ x < y → bk_g V d j B Q t L r h n cs) (z2 : x < y → bk_g V d j B Q nx L r h n cs) : bk_g V d j B Q pc L (.int y :: .int x :: r) h n cs := by
  refine bk_go_s (bk_wp_mono d) ?_
  unfold bk_s1
  rw [hi]
  exact ⟨z1, z2⟩
theorem bg_icmp_gt {x y i a t} (hi : bk_ins j pc = some (.if_icmp .gt i, nx, (a, t) :: sw, c)) (z1 : y < x → bk_g V d j B Q t L r h n cs) (z2 : ¬ y < x → bk_g V d j B Q nx L r h n cs) : bk_g V d j B Q pc L (.int y :: .int x :: r) h n cs := by
  refine bk_go_s (bk_wp_mono d) ?_
  unfold bk_s1
  rw [hi]
  exact ⟨z1, z2⟩
theorem bg_icmp_le {x y i a t} (hi : bk_ins j pc = some (.if_icmp .le i, nx, (a, t) :: sw, c)) (z1 : ¬ y < x → bk_g V d j B Q t L r h n cs) (z2 : y < x → bk_g V d j B Q nx L r h n cs) : bk_g V d j B Q pc L (.int y :: .int x :: r) h n cs := by
  refine bk_go_s (bk_wp_mono d) ?_
  unfold bk_s1
  rw [hi]
  exact ⟨z1, z2⟩
theorem bg_ifeq_b {p : Prop} [Decidable p] {i a t} (hi : bk_ins j pc = some (.ifCond .eq i, nx, (a, t) :: sw, c)) (z1 : ¬ p → bk_g V d j B Q t L r h n cs) (z2 : p → bk_g V d j B Q nx L r h n cs) : bk_g V d j B Q pc L (.int (if p then 1 else 0) :: r) h n cs := bg_if_eq hi (fun e => z1 fun hp => absurd e (by rw [if_pos hp]; decide)) (fun e => z2 (Decidable.byContradiction fun hp => e (by rw [if_neg hp])))
theorem bg_ifne_b {p : Prop} [Decidable p] {i a t} (hi : bk_ins j pc = some (.ifCond .ne i, nx, (a, t) :: sw, c)) (z1 : p → bk_g V d j B Q t L r h n cs) (z2 : ¬ p → bk_g V d j B Q nx L r h n cs) : bk_g V d j B Q pc L (.int (if p then 1 else 0) :: r) h n cs := bg_if_ne hi (fun e => z1 (Decidable.byContradiction fun hp => e (by rw [if_neg hp]))) (fun e => z2 fun hp => absurd e (by rw [if_pos hp]; decide))
theorem bk_sw_c {x a : Int32} {t : Nat} {K : Nat → Prop} {e : Nat} {r : List (Int32 × Nat)} (z1 : x = a → K t) (z2 : ¬ x = a → bk_sw x K e r) : bk_sw x K e ((a, t) :: r) := ⟨z1, z2⟩
theorem bk_sw_n {x : Int32} {K : Nat → Prop} {e : Nat} (z : K e) : bk_sw x K e [] := z
theorem bg_tsw {x w1 w2 w3 w4} (hi : bk_ins j pc = some (.tableswitch w1 w2 w3 w4, nx, sw, c)) (z : bk_sw x (fun t => bk_g V d j B Q t L r h n cs) nx sw) : bk_g V d j B Q pc L (.int x :: r) h n cs := by
  refine bk_go_s (bk_wp_mono d) ?_
  unfold bk_s1
  rw [hi]
  exact z
theorem bg_lsw {x w1 w2} (hi : bk_ins j pc = some (.lookupswitch w1 w2, nx, sw, c)) (z : bk_sw x (fun t => bk_g V d j B Q t L r h n cs) nx sw) : bk_g V d j B Q pc L (.int x :: r) h n cs := by
  refine bk_go_s (bk_wp_mono d) ?_
  unfold bk_s1
  rw [hi]
  exact z
theorem bg_getfield {ix a ci k p} {fs : List Value} {v : Value} (hi : bk_ins j pc = some (.getfield ix, nx, sw, c)) (hf : bk_fld (bk_own j) ix = some (ci, k, p)) (ha : h a = some (.inr (ci, fs))) (hv : fs[k]? = some v) (z : bk_g V d j B Q nx L (v :: r) h n cs) : bk_g V d j B Q pc L (.ref a :: r) h n cs := by
  refine bk_go_s (bk_wp_mono d) ?_
  unfold bk_s1
  rw [hi]
  simp only [hf]
  exact ⟨fs, v, ha, hv, z⟩
theorem bg_putfield {ix a ci k p} {fs fs' : List Value} {v : Value} (hi : bk_ins j pc = some (.putfield ix, nx, sw, c)) (hf : bk_fld (bk_own j) ix = some (ci, k, p)) (ha : h a = some (.inr (ci, fs))) (hk : Nat.blt k fs.length = true) (hv : narrow (bk_fty ci k) v = v ∧ fits (bk_fty ci k) v = true) (hs : fs.set k v = fs') (z : ∀ h', h' a = some (.inr (ci, fs')) → (∀ q, q ≠ a → h' q = h q) → bk_g V d j B Q nx L r h' n cs) : bk_g V d j B Q pc L (v :: .ref a :: r) h n cs := by
  refine bk_go_s (bk_wp_mono d) ?_
  unfold bk_s1
  rw [hi]
  simp only [hf]
  refine ⟨fs, ha, Nat.le_of_ble_eq_true hk, hv, z _ ?_ fun q hq => ?_⟩
  · rw [hs]
    show (if a = a then _ else _) = _
    rw [if_pos rfl]
  · show (if q = a then _ else _) = _
    rw [if_neg hq]
theorem bg_getstatic {ix} (hi : bk_ins j pc = some (.getstatic ix, nx, sw, c)) (z : bk_g V d j B Q nx L (.ref V.2.2.2.1 :: st) h n cs) : bk_g V d j B Q pc L st h n cs := by
  refine bk_go_s (bk_wp_mono d) ?_
  unfold bk_s1
  rw [hi]
  exact z
theorem bg_ldc {ix k p} (hi : bk_ins j pc = some (.ldc ix, nx, sw, c)) (hs : bk_str (bk_own j) ix = some (k, p)) (z : bk_g V d j B Q nx L (.ref (V.2.2.2.2 k) :: st) h n cs) : bk_g V d j B Q pc L st h n cs := by
  refine bk_go_s (bk_wp_mono d) ?_
  unfold bk_s1
  rw [hi]
  simp only [hs]
  exact z
theorem bg_ldc2 {ix k p} (hi : bk_ins j pc = some (.ldc2_w ix, nx, sw, c)) (hs : bk_lng (bk_own j) ix = some (k, p)) (z : bk_g V d j B Q nx L (.long k :: st) h n cs) : bk_g V d j B Q pc L st h n cs := by
  refine bk_go_s (bk_wp_mono d) ?_
  unfold bk_s1
  rw [hi]
  simp only [hs]
  exact z
theorem bg_iaload {i a m f} (hi : bk_ins j pc = some (.iaload, nx, sw, c)) (ha : h a = some (.inl (0, m, .inl f))) (hv : vp_in i m) (z : bk_g V d j B Q nx L (.int (f i.toNatClampNeg) :: r) h n cs) : bk_g V d j B Q pc L (.int i :: .ref a :: r) h n cs := by
  refine bk_go_s (bk_wp_mono d) ?_
  unfold bk_s1
  rw [hi]
  exact Or.inl ⟨m, f, ha, hv, z⟩
theorem bg_iaload_n {i a m f} (hi : bk_ins j pc = some (.iaload, nx, sw, c)) (ha : h a = some (.inl (0, m, .inl f))) (hm : m < 2 ^ 31) (hv : i < m) (z : bk_g V d j B Q nx L (.int (f i) :: r) h n cs) : bk_g V d j B Q pc L (.int (nI i) :: .ref a :: r) h n cs := by
  refine bk_go_s (bk_wp_mono d) ?_
  unfold bk_s1
  rw [hi]
  refine Or.inl ⟨m, f, ha, vp_in_nI hv hm, ?_⟩
  rw [nI_clamp (Nat.lt_trans hv hm)]
  exact z
theorem bg_iaload_s {i} (hi : bk_ins j pc = some (.iaload, nx, sw, c)) (hv : vp_in i V.2.1) (z : bk_g V d j B Q nx L (.int (V.2.2.1 i.toNatClampNeg) :: r) h n cs) : bk_g V d j B Q pc L (.int i :: .ref V.1 :: r) h n cs := by
  refine bk_go_s (bk_wp_mono d) ?_
  unfold bk_s1
  rw [hi]
  exact Or.inr ⟨rfl, hv, z⟩
theorem bg_baload {i a m f} (hi : bk_ins j pc = some (.baload, nx, sw, c)) (ha : h a = some (.inl (2, m, .inl f))) (hv : vp_in i m) (z : bk_g V d j B Q nx L (.int (f i.toNatClampNeg) :: r) h n cs) : bk_g V d j B Q pc L (.int i :: .ref a :: r) h n cs := by
  refine bk_go_s (bk_wp_mono d) ?_
  unfold bk_s1
  rw [hi]
  exact ⟨m, f, ha, hv, z⟩
theorem bg_laload {i a m f} (hi : bk_ins j pc = some (.laload, nx, sw, c)) (ha : h a = some (.inl (1, m, .inr (.inl f)))) (hv : vp_in i m) (z : bk_g V d j B Q nx L (.long (f i.toNatClampNeg) :: r) h n cs) : bk_g V d j B Q pc L (.int i :: .ref a :: r) h n cs := by
  refine bk_go_s (bk_wp_mono d) ?_
  unfold bk_s1
  rw [hi]
  exact ⟨m, f, ha, hv, z⟩
theorem bg_aaload {i} (hi : bk_ins j pc = some (.aaload, nx, sw, c)) (hv : vp_in i 29) (z : bk_g V d j B Q nx L (.ref (V.2.2.2.2 (bk_wd i.toNatClampNeg)) :: r) h n cs) : bk_g V d j B Q pc L (.int i :: .ref V.2.2.2.1 :: r) h n cs := by
  refine bk_go_s (bk_wp_mono d) ?_
  unfold bk_s1
  rw [hi]
  exact ⟨rfl, hv, z⟩
theorem bg_iastore {x i a m f} (hi : bk_ins j pc = some (.iastore, nx, sw, c)) (ha : h a = some (.inl (0, m, .inl f))) (hv : vp_in i m) (z : ∀ h', h' a = some (.inl (0, m, .inl (upd f i.toNatClampNeg x))) → (∀ q, q ≠ a → h' q = h q) → bk_g V d j B Q nx L r h' n cs) : bk_g V d j B Q pc L (.int x :: .int i :: .ref a :: r) h n cs := by
  refine bk_go_s (bk_wp_mono d) ?_
  unfold bk_s1
  rw [hi]
  refine ⟨m, f, ha, hv, z _ ?_ fun q hq => ?_⟩
  · show (if a = a then _ else _) = _
    rw [if_pos rfl]
  · show (if q = a then _ else _) = _
    rw [if_neg hq]
theorem bg_iastore_n {x i a m f} (hi : bk_ins j pc = some (.iastore, nx, sw, c)) (ha : h a = some (.inl (0, m, .inl f))) (hm : m < 2 ^ 31) (hv : i < m) (z : ∀ h', h' a = some (.inl (0, m, .inl (upd f i x))) → (∀ q, q ≠ a → h' q = h q) → bk_g V d j B Q nx L r h' n cs) : bk_g V d j B Q pc L (.int x :: .int (nI i) :: .ref a :: r) h n cs := by
  refine bk_go_s (bk_wp_mono d) ?_
  unfold bk_s1
  rw [hi]
  refine ⟨m, f, ha, vp_in_nI hv hm, z _ ?_ fun q hq => ?_⟩
  · rw [nI_clamp (Nat.lt_trans hv hm)]
    show (if a = a then _ else _) = _
    rw [if_pos rfl]
  · show (if q = a then _ else _) = _
    rw [if_neg hq]
theorem bg_bastore {x i a m f} (hi : bk_ins j pc = some (.bastore, nx, sw, c)) (ha : h a = some (.inl (2, m, .inl f))) (hv : vp_in i m) (hf : fits .byte (.int x) = true) (z : ∀ h', h' a = some (.inl (2, m, .inl (upd f i.toNatClampNeg x))) → (∀ q, q ≠ a → h' q = h q) → bk_g V d j B Q nx L r h' n cs) : bk_g V d j B Q pc L (.int x :: .int i :: .ref a :: r) h n cs := by
  refine bk_go_s (bk_wp_mono d) ?_
  unfold bk_s1
  rw [hi]
  refine ⟨m, f, ha, hv, hf, z _ ?_ fun q hq => ?_⟩
  · show (if a = a then _ else _) = _
    rw [if_pos rfl]
  · show (if q = a then _ else _) = _
    rw [if_neg hq]
theorem bg_lastore {x i a m f} (hi : bk_ins j pc = some (.lastore, nx, sw, c)) (ha : h a = some (.inl (1, m, .inr (.inl f)))) (hv : vp_in i m) (z : ∀ h', h' a = some (.inl (1, m, .inr (.inl (vp_updL f i.toNatClampNeg x)))) → (∀ q, q ≠ a → h' q = h q) → bk_g V d j B Q nx L r h' n cs) : bk_g V d j B Q pc L (.long x :: .int i :: .ref a :: r) h n cs := by
  refine bk_go_s (bk_wp_mono d) ?_
  unfold bk_s1
  rw [hi]
  refine ⟨m, f, ha, hv, z _ ?_ fun q hq => ?_⟩
  · show (if a = a then _ else _) = _
    rw [if_pos rfl]
  · show (if q = a then _ else _) = _
    rw [if_neg hq]
theorem bg_alen {a t m f} (hi : bk_ins j pc = some (.arraylength, nx, sw, c)) (ha : h a = some (.inl (t, m, f))) (ht : t < 3) (z : bk_g V d j B Q nx L (.int (nI m) :: r) h n cs) : bk_g V d j B Q pc L (.ref a :: r) h n cs := by
  refine bk_go_s (bk_wp_mono d) ?_
  unfold bk_s1
  rw [hi]
  exact Or.inl ⟨t, (m, f), ha, ht, z⟩
theorem bg_alen_s (hi : bk_ins j pc = some (.arraylength, nx, sw, c)) (z : bk_g V d j B Q nx L (.int (nI V.2.1) :: r) h n cs) : bk_g V d j B Q pc L (.ref V.1 :: r) h n cs := by
  refine bk_go_s (bk_wp_mono d) ?_
  unfold bk_s1
  rw [hi]
  exact Or.inr (Or.inl ⟨rfl, z⟩)
theorem bg_alen_w (hi : bk_ins j pc = some (.arraylength, nx, sw, c)) (z : bk_g V d j B Q nx L (.int 29 :: r) h n cs) : bk_g V d j B Q pc L (.ref V.2.2.2.1 :: r) h n cs := by
  refine bk_go_s (bk_wp_mono d) ?_
  unfold bk_s1
  rw [hi]
  exact Or.inr (Or.inr ⟨rfl, z⟩)
theorem bg_newarray_int {k N} (hi : bk_ins j pc = some (.newarray .int, nx, sw, c)) (hN : k.toNatClampNeg = N) (h0 : ¬ k < 0) (h1 : cs.1 + 1 ≤ B.1) (h2 : cs.2 + N ≤ B.2) (hM : N ≤ 65536) (z : ∀ h', h' n = some (.inl (0, N, .inl (fun _ => 0))) → (∀ q, q ≠ n → h' q = h q) → bk_g V d j B Q nx L (.ref n :: r) h' (n + 1) (cs.1 + 1, cs.2 + N)) : bk_g V d j B Q pc L (.int k :: r) h n cs := by
  refine bk_go_s (bk_wp_mono d) ?_
  unfold bk_s1
  rw [hi]
  refine ⟨N, hN, h0, h1, h2, hM, z _ ?_ fun q hq => ?_⟩
  · show (if n = n then _ else _) = _
    rw [if_pos rfl]
  · show (if q = n then _ else _) = _
    rw [if_neg hq]
theorem bg_newarray_long {k N} (hi : bk_ins j pc = some (.newarray .long, nx, sw, c)) (hN : k.toNatClampNeg = N) (h0 : ¬ k < 0) (h1 : cs.1 + 1 ≤ B.1) (h2 : cs.2 + N ≤ B.2) (hM : N ≤ 65536) (z : ∀ h', h' n = some (.inl (1, N, .inr (.inl (fun _ => 0)))) → (∀ q, q ≠ n → h' q = h q) → bk_g V d j B Q nx L (.ref n :: r) h' (n + 1) (cs.1 + 1, cs.2 + N)) : bk_g V d j B Q pc L (.int k :: r) h n cs := by
  refine bk_go_s (bk_wp_mono d) ?_
  unfold bk_s1
  rw [hi]
  refine ⟨N, hN, h0, h1, h2, hM, z _ ?_ fun q hq => ?_⟩
  · show (if n = n then _ else _) = _
    rw [if_pos rfl]
  · show (if q = n then _ else _) = _
    rw [if_neg hq]
theorem bg_newarray_byte {k N} (hi : bk_ins j pc = some (.newarray .byte, nx, sw, c)) (hN : k.toNatClampNeg = N) (h0 : ¬ k < 0) (h1 : cs.1 + 1 ≤ B.1) (h2 : cs.2 + N ≤ B.2) (hM : N ≤ 65536) (z : ∀ h', h' n = some (.inl (2, N, .inl (fun _ => 0))) → (∀ q, q ≠ n → h' q = h q) → bk_g V d j B Q nx L (.ref n :: r) h' (n + 1) (cs.1 + 1, cs.2 + N)) : bk_g V d j B Q pc L (.int k :: r) h n cs := by
  refine bk_go_s (bk_wp_mono d) ?_
  unfold bk_s1
  rw [hi]
  refine ⟨N, hN, h0, h1, h2, hM, z _ ?_ fun q hq => ?_⟩
  · show (if n = n then _ else _) = _
    rw [if_pos rfl]
  · show (if q = n then _ else _) = _
    rw [if_neg hq]
theorem bg_new {ix ci p fs} (hi : bk_ins j pc = some (.new ix, nx, sw, c)) (hw : bk_new (bk_own j) ix = some (.inl ci, p)) (hb : bk_blank ci = fs) (h1 : cs.1 + 1 ≤ B.1) (h2 : cs.2 + fs.length ≤ B.2) (z : ∀ h', h' n = some (.inr (ci, fs)) → (∀ q, q ≠ n → h' q = h q) → bk_g V d j B Q nx L (.ref n :: st) h' (n + 1) (cs.1 + 1, cs.2 + fs.length)) : bk_g V d j B Q pc L st h n cs := by
  refine bk_go_s (bk_wp_mono d) ?_
  unfold bk_s1
  rw [hi]
  simp only [hw]
  rw [hb]
  refine ⟨h1, h2, z _ ?_ fun q hq => ?_⟩
  · show (if n = n then _ else _) = _
    rw [if_pos rfl]
  · show (if q = n then _ else _) = _
    rw [if_neg hq]
theorem bg_throw {ix p E} (hi : bk_ins j pc = some (.new ix, nx, sw, c)) (hw : bk_new (bk_own j) ix = some (.inr E, p)) (hl : Nat.ble st.length 4 = true) (h1 : cs.1 + 1 ≤ B.1) (h2 : cs.2 + 6 ≤ B.2) (z : ∀ n', n ≤ n' → Q (.inr E) h n') : bk_g V d j B Q pc L st h n cs := by
  refine bk_go_s (bk_wp_mono d) ?_
  unfold bk_s1
  rw [hi]
  simp only [hw]
  rw [hl]
  exact ⟨h1, h2, z⟩
/-- behind a call without a new cell -/
abbrev bk_K0 (V : bk_V) (d j : Nat) (B : Nat × Nat) (Q : bk_R → bk_H → Nat → Prop) (nx : Nat) (L : bk_L) (r : List Value) (cs : Nat × Nat) : bk_R → bk_H → Nat → Prop := bk_nx r (fun st h n => bk_g V d j B Q nx L st h n cs)
theorem bk_Ki {v : Value} (z : bk_g V d j B Q nx L (v :: r) h n cs) : bk_K0 V d j B Q nx L r cs (.inl (some v)) h n := z
theorem bk_Kv (z : bk_g V d j B Q nx L r h n cs) : bk_K0 V d j B Q nx L r cs (.inl none) h n := z
theorem bk_clI {V : bk_V} {d j nx k : Nat} {B : Nat × Nat} {Q : bk_R → bk_H → Nat → Prop} {L : bk_L} {As r : List Value} {h : bk_H} {n : Nat} {cs : Nat × Nat} (hr : Nat.ble r.length 4 = true) (z : bk_wp V d k As h n (0, 0) (bk_K0 V d j B Q nx L r cs)) : bk_cl (bk_wp V d) k As r h n cs B (fun st h n cs => bk_g V d j B Q nx L st h n cs) := by
  unfold bk_cl
  rw [hr]
  exact Or.inl z
theorem bk_clB {V : bk_V} {d j nx k : Nat} {B b : Nat × Nat} {Q : bk_R → bk_H → Nat → Prop} {L : bk_L} {As r : List Value} {h : bk_H} {n : Nat} {cs : Nat × Nat} (hr : Nat.ble r.length 4 = true) (h1 : cs.1 + b.1 ≤ B.1) (h2 : cs.2 + b.2 ≤ B.2) (z : bk_wp V d k As h n b (bk_K0 V d j B Q nx L r (cs.1 + b.1, cs.2 + b.2))) : bk_cl (bk_wp V d) k As r h n cs B (fun st h n cs => bk_g V d j B Q nx L st h n cs) := by
  unfold bk_cl
  rw [hr]
  exact Or.inr ⟨b, h1, h2, z⟩
theorem bg_spec0 {ix k p q} (hi : bk_ins j pc = some (.invokespecial ix, nx, sw, c)) (hk : bk_cal (bk_own j) ix = some (0, k, p)) (hn : bk_np k = 0) (hr : Nat.ble r.length 4 = true) (z : bk_wp V d k [.ref q] h n (0, 0) (bk_K0 V d j B Q nx L r cs)) : bk_g V d j B Q pc L (.ref q :: r) h n cs := by
  refine bk_go_s (bk_wp_mono d) ?_
  unfold bk_s1
  rw [hi]
  simp only [hk]
  rw [hn]
  exact bk_clI hr z
theorem bg_virt0 {ix k p q} (hi : bk_ins j pc = some (.invokevirtual ix, nx, sw, c)) (hk : bk_cal (bk_own j) ix = some (0, k, p)) (hn : bk_np k = 0) (hr : Nat.ble r.length 4 = true) (ho : ∃ fs : List Value, h q = some (.inr (bk_own k, fs))) (z : bk_wp V d k [.ref q] h n (0, 0) (bk_K0 V d j B Q nx L r cs)) : bk_g V d j B Q pc L (.ref q :: r) h n cs := by
  refine bk_go_s (bk_wp_mono d) ?_
  unfold bk_s1
  rw [hi]
  simp only [hk]
  rw [hn]
  exact ⟨ho, bk_clI hr z⟩
theorem bg_stat1 {ix k p} {x1 : Value} (hi : bk_ins j pc = some (.invokestatic ix, nx, sw, c)) (hk : bk_cal (bk_own j) ix = some (0, k, p)) (hn : bk_np k = 1) (hr : Nat.ble r.length 4 = true) (z : bk_wp V d k [x1] h n (0, 0) (bk_K0 V d j B Q nx L r cs)) : bk_g V d j B Q pc L (x1 :: r) h n cs := by
  refine bk_go_s (bk_wp_mono d) ?_
  unfold bk_s1
  rw [hi]
  simp only [hk]
  rw [hn]
  exact bk_gdI (Nat.ble_eq_true_of_le (by simp only [List.length_cons]; omega)) (bk_clI hr z)
theorem bg_spec1 {ix k p q} {x1 : Value} (hi : bk_ins j pc = some (.invokespecial ix, nx, sw, c)) (hk : bk_cal (bk_own j) ix = some (0, k, p)) (hn : bk_np k = 1) (hr : Nat.ble r.length 4 = true) (z : bk_wp V d k [.ref q, x1] h n (0, 0) (bk_K0 V d j B Q nx L r cs)) : bk_g V d j B Q pc L (x1 :: .ref q :: r) h n cs := by
  refine bk_go_s (bk_wp_mono d) ?_
  unfold bk_s1
  rw [hi]
  simp only [hk]
  rw [hn]
  exact bk_clI hr z
theorem bg_virt1 {ix k p q} {x1 : Value} (hi : bk_ins j pc = some (.invokevirtual ix, nx, sw, c)) (hk : bk_cal (bk_own j) ix = some (0, k, p)) (hn : bk_np k = 1) (hr : Nat.ble r.length 4 = true) (ho : ∃ fs : List Value, h q = some (.inr (bk_own k, fs))) (z : bk_wp V d k [.ref q, x1] h n (0, 0) (bk_K0 V d j B Q nx L r cs)) : bk_g V d j B Q pc L (x1 :: .ref q :: r) h n cs := by
  refine bk_go_s (bk_wp_mono d) ?_
  unfold bk_s1
  rw [hi]
  simp only [hk]
  rw [hn]
  exact ⟨ho, bk_clI hr z⟩
theorem bg_stat2 {ix k p} {x1 x2 : Value} (hi : bk_ins j pc = some (.invokestatic ix, nx, sw, c)) (hk : bk_cal (bk_own j) ix = some (0, k, p)) (hn : bk_np k = 2) (hr : Nat.ble r.length 4 = true) (z : bk_wp V d k [x1, x2] h n (0, 0) (bk_K0 V d j B Q nx L r cs)) : bk_g V d j B Q pc L (x2 :: x1 :: r) h n cs := by
  refine bk_go_s (bk_wp_mono d) ?_
  unfold bk_s1
  rw [hi]
  simp only [hk]
  rw [hn]
  exact bk_gdI (Nat.ble_eq_true_of_le (by simp only [List.length_cons]; omega)) (bk_clI hr z)
theorem bg_spec2 {ix k p q} {x1 x2 : Value} (hi : bk_ins j pc = some (.invokespecial ix, nx, sw, c)) (hk : bk_cal (bk_own j) ix = some (0, k, p)) (hn : bk_np k = 2) (hr : Nat.ble r.length 4 = true) (z : bk_wp V d k [.ref q, x1, x2] h n (0, 0) (bk_K0 V d j B Q nx L r cs)) : bk_g V d j B Q pc L (x2 :: x1 :: .ref q :: r) h n cs := by
  refine bk_go_s (bk_wp_mono d) ?_
  unfold bk_s1
  rw [hi]
  simp only [hk]
  rw [hn]
  exact bk_clI hr z
theorem bg_virt2 {ix k p q} {x1 x2 : Value} (hi : bk_ins j pc = some (.invokevirtual ix, nx, sw, c)) (hk : bk_cal (bk_own j) ix = some (0, k, p)) (hn : bk_np k = 2) (hr : Nat.ble r.length 4 = true) (ho : ∃ fs : List Value, h q = some (.inr (bk_own k, fs))) (z : bk_wp V d k [.ref q, x1, x2] h n (0, 0) (bk_K0 V d j B Q nx L r cs)) : bk_g V d j B Q pc L (x2 :: x1 :: .ref q :: r) h n cs := by
  refine bk_go_s (bk_wp_mono d) ?_
  unfold bk_s1
  rw [hi]
  simp only [hk]
  rw [hn]
  exact ⟨ho, bk_clI hr z⟩
theorem bg_stat3 {ix k p} {x1 x2 x3 : Value} (hi : bk_ins j pc = some (.invokestatic ix, nx, sw, c)) (hk : bk_cal (bk_own j) ix = some (0, k, p)) (hn : bk_np k = 3) (hr : Nat.ble r.length 4 = true) (z : bk_wp V d k [x1, x2, x3] h n (0, 0) (bk_K0 V d j B Q nx L r cs)) : bk_g V d j B Q pc L (x3 :: x2 :: x1 :: r) h n cs := by
  refine bk_go_s (bk_wp_mono d) ?_
  unfold bk_s1
  rw [hi]
  simp only [hk]
  rw [hn]
  exact bk_gdI (Nat.ble_eq_true_of_le (by simp only [List.length_cons]; omega)) (bk_clI hr z)
theorem bg_virt3 {ix k p q} {x1 x2 x3 : Value} (hi : bk_ins j pc = some (.invokevirtual ix, nx, sw, c)) (hk : bk_cal (bk_own j) ix = some (0, k, p)) (hn : bk_np k = 3) (hr : Nat.ble r.length 4 = true) (ho : ∃ fs : List Value, h q = some (.inr (bk_own k, fs))) (z : bk_wp V d k [.ref q, x1, x2, x3] h n (0, 0) (bk_K0 V d j B Q nx L r cs)) : bk_g V d j B Q pc L (x3 :: x2 :: x1 :: .ref q :: r) h n cs := by
  refine bk_go_s (bk_wp_mono d) ?_
  unfold bk_s1
  rw [hi]
  simp only [hk]
  rw [hn]
  exact ⟨ho, bk_clI hr z⟩
theorem bg_stat4 {ix k p} {x1 x2 x3 x4 : Value} (hi : bk_ins j pc = some (.invokestatic ix, nx, sw, c)) (hk : bk_cal (bk_own j) ix = some (0, k, p)) (hn : bk_np k = 4) (hr : Nat.ble r.length 4 = true) (z : bk_wp V d k [x1, x2, x3, x4] h n (0, 0) (bk_K0 V d j B Q nx L r cs)) : bk_g V d j B Q pc L (x4 :: x3 :: x2 :: x1 :: r) h n cs := by
  refine bk_go_s (bk_wp_mono d) ?_
  unfold bk_s1
  rw [hi]
  simp only [hk]
  rw [hn]
  exact bk_gdI (Nat.ble_eq_true_of_le (by simp only [List.length_cons]; omega)) (bk_clI hr z)
theorem bg_virt4 {ix k p q} {x1 x2 x3 x4 : Value} (hi : bk_ins j pc = some (.invokevirtual ix, nx, sw, c)) (hk : bk_cal (bk_own j) ix = some (0, k, p)) (hn : bk_np k = 4) (hr : Nat.ble r.length 4 = true) (ho : ∃ fs : List Value, h q = some (.inr (bk_own k, fs))) (z : bk_wp V d k [.ref q, x1, x2, x3, x4] h n (0, 0) (bk_K0 V d j B Q nx L r cs)) : bk_g V d j B Q pc L (x4 :: x3 :: x2 :: x1 :: .ref q :: r) h n cs := by
  refine bk_go_s (bk_wp_mono d) ?_
  unfold bk_s1
  rw [hi]
  simp only [hk]
  rw [hn]
  exact ⟨ho, bk_clI hr z⟩
theorem bg_virt5 {ix k p q} {x1 x2 x3 x4 x5 : Value} (hi : bk_ins j pc = some (.invokevirtual ix, nx, sw, c)) (hk : bk_cal (bk_own j) ix = some (0, k, p)) (hn : bk_np k = 5) (hr : Nat.ble r.length 4 = true) (ho : ∃ fs : List Value, h q = some (.inr (bk_own k, fs))) (z : bk_wp V d k [.ref q, x1, x2, x3, x4, x5] h n (0, 0) (bk_K0 V d j B Q nx L r cs)) : bk_g V d j B Q pc L (x5 :: x4 :: x3 :: x2 :: x1 :: .ref q :: r) h n cs := by
  refine bk_go_s (bk_wp_mono d) ?_
  unfold bk_s1
  rw [hi]
  simp only [hk]
  rw [hn]
  exact ⟨ho, bk_clI hr z⟩
theorem bg_spec0B {ix k p q} {b : Nat × Nat} (hi : bk_ins j pc = some (.invokespecial ix, nx, sw, c)) (hk : bk_cal (bk_own j) ix = some (0, k, p)) (hn : bk_np k = 0) (hr : Nat.ble r.length 4 = true) (hb1 : cs.1 + b.1 ≤ B.1) (hb2 : cs.2 + b.2 ≤ B.2) (z : bk_wp V d k [.ref q] h n b (bk_K0 V d j B Q nx L r (cs.1 + b.1, cs.2 + b.2))) : bk_g V d j B Q pc L (.ref q :: r) h n cs := by
  refine bk_go_s (bk_wp_mono d) ?_
  unfold bk_s1
  rw [hi]
  simp only [hk]
  rw [hn]
  exact bk_clB hr hb1 hb2 z
theorem bg_virt0B {ix k p q} {b : Nat × Nat} (hi : bk_ins j pc = some (.invokevirtual ix, nx, sw, c)) (hk : bk_cal (bk_own j) ix = some (0, k, p)) (hn : bk_np k = 0) (hr : Nat.ble r.length 4 = true) (ho : ∃ fs : List Value, h q = some (.inr (bk_own k, fs))) (hb1 : cs.1 + b.1 ≤ B.1) (hb2 : cs.2 + b.2 ≤ B.2) (z : bk_wp V d k [.ref q] h n b (bk_K0 V d j B Q nx L r (cs.1 + b.1, cs.2 + b.2))) : bk_g V d j B Q pc L (.ref q :: r) h n cs := by
  refine bk_go_s (bk_wp_mono d) ?_
  unfold bk_s1
  rw [hi]
  simp only [hk]
  rw [hn]
  exact ⟨ho, bk_clB hr hb1 hb2 z⟩
theorem bg_stat1B {ix k p} {x1 : Value} {b : Nat × Nat} (hi : bk_ins j pc = some (.invokestatic ix, nx, sw, c)) (hk : bk_cal (bk_own j) ix = some (0, k, p)) (hn : bk_np k = 1) (hr : Nat.ble r.length 4 = true) (hb1 : cs.1 + b.1 ≤ B.1) (hb2 : cs.2 + b.2 ≤ B.2) (z : bk_wp V d k [x1] h n b (bk_K0 V d j B Q nx L r (cs.1 + b.1, cs.2 + b.2))) : bk_g V d j B Q pc L (x1 :: r) h n cs := by
  refine bk_go_s (bk_wp_mono d) ?_
  unfold bk_s1
  rw [hi]
  simp only [hk]
  rw [hn]
  exact bk_gdI (Nat.ble_eq_true_of_le (by simp only [List.length_cons]; omega)) (bk_clB hr hb1 hb2 z)
theorem bg_spec1B {ix k p q} {x1 : Value} {b : Nat × Nat} (hi : bk_ins j pc = some (.invokespecial ix, nx, sw, c)) (hk : bk_cal (bk_own j) ix = some (0, k, p)) (hn : bk_np k = 1) (hr : Nat.ble r.length 4 = true) (hb1 : cs.1 + b.1 ≤ B.1) (hb2 : cs.2 + b.2 ≤ B.2) (z : bk_wp V d k [.ref q, x1] h n b (bk_K0 V d j B Q nx L r (cs.1 + b.1, cs.2 + b.2))) : bk_g V d j B Q pc L (x1 :: .ref q :: r) h n cs := by
  refine bk_go_s (bk_wp_mono d) ?_
  unfold bk_s1
  rw [hi]
  simp only [hk]
  rw [hn]
  exact bk_clB hr hb1 hb2 z
theorem bg_virt1B {ix k p q} {x1 : Value} {b : Nat × Nat} (hi : bk_ins j pc = some (.invokevirtual ix, nx, sw, c)) (hk : bk_cal (bk_own j) ix = some (0, k, p)) (hn : bk_np k = 1) (hr : Nat.ble r.length 4 = true) (ho : ∃ fs : List Value, h q = some (.inr (bk_own k, fs))) (hb1 : cs.1 + b.1 ≤ B.1) (hb2 : cs.2 + b.2 ≤ B.2) (z : bk_wp V d k [.ref q, x1] h n b (bk_K0 V d j B Q nx L r (cs.1 + b.1, cs.2 + b.2))) : bk_g V d j B Q pc L (x1 :: .ref q :: r) h n cs := by
  refine bk_go_s (bk_wp_mono d) ?_
  unfold bk_s1
  rw [hi]
  simp only [hk]
  rw [hn]
  exact ⟨ho, bk_clB hr hb1 hb2 z⟩
theorem bg_stat2B {ix k p} {x1 x2 : Value} {b : Nat × Nat} (hi : bk_ins j pc = some (.invokestatic ix, nx, sw, c)) (hk : bk_cal (bk_own j) ix = some (0, k, p)) (hn : bk_np k = 2) (hr : Nat.ble r.length 4 = true) (hb1 : cs.1 + b.1 ≤ B.1) (hb2 : cs.2 + b.2 ≤ B.2) (z : bk_wp V d k [x1, x2] h n b (bk_K0 V d j B Q nx L r (cs.1 + b.1, cs.2 + b.2))) : bk_g V d j B Q pc L (x2 :: x1 :: r) h n cs := by
  refine bk_go_s (bk_wp_mono d) ?_
  unfold bk_s1
  rw [hi]
  simp only [hk]
  rw [hn]
  exact bk_gdI (Nat.ble_eq_true_of_le (by simp only [List.length_cons]; omega)) (bk_clB hr hb1 hb2 z)
theorem bg_spec2B {ix k p q} {x1 x2 : Value} {b : Nat × Nat} (hi : bk_ins j pc = some (.invokespecial ix, nx, sw, c)) (hk : bk_cal (bk_own j) ix = some (0, k, p)) (hn : bk_np k = 2) (hr : Nat.ble r.length 4 = true) (hb1 : cs.1 + b.1 ≤ B.1) (hb2 : cs.2 + b.2 ≤ B.2) (z : bk_wp V d k [.ref q, x1, x2] h n b (bk_K0 V d j B Q nx L r (cs.1 + b.1, cs.2 + b.2))) : bk_g V d j B Q pc L (x2 :: x1 :: .ref q :: r) h n cs := by
  refine bk_go_s (bk_wp_mono d) ?_
  unfold bk_s1
  rw [hi]
  simp only [hk]
  rw [hn]
  exact bk_clB hr hb1 hb2 z
theorem bg_virt2B {ix k p q} {x1 x2 : Value} {b : Nat × Nat} (hi : bk_ins j pc = some (.invokevirtual ix, nx, sw, c)) (hk : bk_cal (bk_own j) ix = some (0, k, p)) (hn : bk_np k = 2) (hr : Nat.ble r.length 4 = true) (ho : ∃ fs : List Value, h q = some (.inr (bk_own k, fs))) (hb1 : cs.1 + b.1 ≤ B.1) (hb2 : cs.2 + b.2 ≤ B.2) (z : bk_wp V d k [.ref q, x1, x2] h n b (bk_K0 V d j B Q nx L r (cs.1 + b.1, cs.2 + b.2))) : bk_g V d j B Q pc L (x2 :: x1 :: .ref q :: r) h n cs := by
  refine bk_go_s (bk_wp_mono d) ?_
  unfold bk_s1
  rw [hi]
  simp only [hk]
  rw [hn]
  exact ⟨ho, bk_clB hr hb1 hb2 z⟩
theorem bg_stat3B {ix k p} {x1 x2 x3 : Value} {b : Nat × Nat} (hi : bk_ins j pc = some (.invokestatic ix, nx, sw, c)) (hk : bk_cal (bk_own j) ix = some (0, k, p)) (hn : bk_np k = 3) (hr : Nat.ble r.length 4 = true) (hb1 : cs.1 + b.1 ≤ B.1) (hb2 : cs.2 + b.2 ≤ B.2) (z : bk_wp V d k [x1, x2, x3] h n b (bk_K0 V d j B Q nx L r (cs.1 + b.1, cs.2 + b.2))) : bk_g V d j B Q pc L (x3 :: x2 :: x1 :: r) h n cs := by
  refine bk_go_s (bk_wp_mono d) ?_
  unfold bk_s1
  rw [hi]
  simp only [hk]
  rw [hn]
  exact bk_gdI (Nat.ble_eq_true_of_le (by simp only [List.length_cons]; omega)) (bk_clB hr hb1 hb2 z)
theorem bg_virt3B {ix k p q} {x1 x2 x3 : Value} {b : Nat × Nat} (hi : bk_ins j pc = some (.invokevirtual ix, nx, sw, c)) (hk : bk_cal (bk_own j) ix = some (0, k, p)) (hn : bk_np k = 3) (hr : Nat.ble r.length 4 = true) (ho : ∃ fs : List Value, h q = some (.inr (bk_own k, fs))) (hb1 : cs.1 + b.1 ≤ B.1) (hb2 : cs.2 + b.2 ≤ B.2) (z : bk_wp V d k [.ref q, x1, x2, x3] h n b (bk_K0 V d j B Q nx L r (cs.1 + b.1, cs.2 + b.2))) : bk_g V d j B Q pc L (x3 :: x2 :: x1 :: .ref q :: r) h n cs := by
  refine bk_go_s (bk_wp_mono d) ?_
  unfold bk_s1
  rw [hi]
  simp only [hk]
  rw [hn]
  exact ⟨ho, bk_clB hr hb1 hb2 z⟩
theorem bg_stat4B {ix k p} {x1 x2 x3 x4 : Value} {b : Nat × Nat} (hi : bk_ins j pc = some (.invokestatic ix, nx, sw, c)) (hk : bk_cal (bk_own j) ix = some (0, k, p)) (hn : bk_np k = 4) (hr : Nat.ble r.length 4 = true) (hb1 : cs.1 + b.1 ≤ B.1) (hb2 : cs.2 + b.2 ≤ B.2) (z : bk_wp V d k [x1, x2, x3, x4] h n b (bk_K0 V d j B Q nx L r (cs.1 + b.1, cs.2 + b.2))) : bk_g V d j B Q pc L (x4 :: x3 :: x2 :: x1 :: r) h n cs := by
  refine bk_go_s (bk_wp_mono d) ?_
  unfold bk_s1
  rw [hi]
  simp only [hk]
  rw [hn]
  exact bk_gdI (Nat.ble_eq_true_of_le (by simp only [List.length_cons]; omega)) (bk_clB hr hb1 hb2 z)
theorem bg_virt4B {ix k p q} {x1 x2 x3 x4 : Value} {b : Nat × Nat} (hi : bk_ins j pc = some (.invokevirtual ix, nx, sw, c)) (hk : bk_cal (bk_own j) ix = some (0, k, p)) (hn : bk_np k = 4) (hr : Nat.ble r.length 4 = true) (ho : ∃ fs : List Value, h q = some (.inr (bk_own k, fs))) (hb1 : cs.1 + b.1 ≤ B.1) (hb2 : cs.2 + b.2 ≤ B.2) (z : bk_wp V d k [.ref q, x1, x2, x3, x4] h n b (bk_K0 V d j B Q nx L r (cs.1 + b.1, cs.2 + b.2))) : bk_g V d j B Q pc L (x4 :: x3 :: x2 :: x1 :: .ref q :: r) h n cs := by
  refine bk_go_s (bk_wp_mono d) ?_
  unfold bk_s1
  rw [hi]
  simp only [hk]
  rw [hn]
  exact ⟨ho, bk_clB hr hb1 hb2 z⟩
theorem bg_virt5B {ix k p q} {x1 x2 x3 x4 x5 : Value} {b : Nat × Nat} (hi : bk_ins j pc = some (.invokevirtual ix, nx, sw, c)) (hk : bk_cal (bk_own j) ix = some (0, k, p)) (hn : bk_np k = 5) (hr : Nat.ble r.length 4 = true) (ho : ∃ fs : List Value, h q = some (.inr (bk_own k, fs))) (hb1 : cs.1 + b.1 ≤ B.1) (hb2 : cs.2 + b.2 ≤ B.2) (z : bk_wp V d k [.ref q, x1, x2, x3, x4, x5] h n b (bk_K0 V d j B Q nx L r (cs.1 + b.1, cs.2 + b.2))) : bk_g V d j B Q pc L (x5 :: x4 :: x3 :: x2 :: x1 :: .ref q :: r) h n cs := by
  refine bk_go_s (bk_wp_mono d) ?_
  unfold bk_s1
  rw [hi]
  simp only [hk]
  rw [hn]
  exact ⟨ho, bk_clB hr hb1 hb2 z⟩
theorem bg_max {ix k p x y} (hi : bk_ins j pc = some (.invokestatic ix, nx, sw, c)) (hk : bk_cal (bk_own j) ix = some (1, k, p)) (hr : Nat.ble r.length 4 = true) (z : bk_g V d j B Q nx L (.int (if x < y then y else x) :: r) h n cs) : bk_g V d j B Q pc L (.int y :: .int x :: r) h n cs := by
  refine bk_go_s (bk_wp_mono d) ?_
  unfold bk_s1
  rw [hi]
  simp only [hk]
  show bk_gd _ _
  rw [hr]
  exact z
theorem bg_min {ix k p x y} (hi : bk_ins j pc = some (.invokestatic ix, nx, sw, c)) (hk : bk_cal (bk_own j) ix = some (2, k, p)) (hr : Nat.ble r.length 4 = true) (z : bk_g V d j B Q nx L (.int (if x ≤ y then x else y) :: r) h n cs) : bk_g V d j B Q pc L (.int y :: .int x :: r) h n cs := by
  refine bk_go_s (bk_wp_mono d) ?_
  unfold bk_s1
  rw [hi]
  simp only [hk]
  show bk_gd _ _
  rw [hr]
  exact z
theorem bg_acopy {ix k p z dp sp a b m1 m2 f g} (hi : bk_ins j pc = some (.invokestatic ix, nx, sw, c)) (hk : bk_cal (bk_own j) ix = some (3, k, p)) (hr : Nat.ble r.length 4 = true) (ha : h a = some (.inl (0, m1, .inl f))) (hb : h b = some (.inl (0, m2, .inl g))) (hn : ¬ a = b) (h1 : ¬ sp < 0) (h2 : ¬ dp < 0) (h3 : ¬ z < 0) (h4 : sp.toNatClampNeg + z.toNatClampNeg ≤ m1) (h5 : dp.toNatClampNeg + z.toNatClampNeg ≤ m2) (zz : ∀ h', h' b = some (.inl (0, m2, .inl (va_cpy f g sp.toNatClampNeg dp.toNatClampNeg z.toNatClampNeg))) → (∀ q, q ≠ b → h' q = h q) → bk_g V d j B Q nx L r h' n cs) : bk_g V d j B Q pc L (.int z :: .int dp :: .ref b :: .int sp :: .ref a :: r) h n cs := by
  refine bk_go_s (bk_wp_mono d) ?_
  unfold bk_s1
  rw [hi]
  simp only [hk]
  show bk_gd _ _
  rw [hr]
  refine ⟨m1, m2, f, g, ha, hb, hn, h1, h2, h3, h4, h5, zz _ ?_ fun q hq => ?_⟩
  · show (if b = b then _ else _) = _
    rw [if_pos rfl]
  · show (if q = b then _ else _) = _
    rw [if_neg hq]
theorem bg_objinit {ix k p a} (hi : bk_ins j pc = some (.invokespecial ix, nx, sw, c)) (hk : bk_cal (bk_own j) ix = some (4, k, p)) (hr : Nat.ble r.length 4 = true) (z : bk_g V d j B Q nx L r h n cs) : bk_g V d j B Q pc L (.ref a :: r) h n cs := by
  refine bk_go_s (bk_wp_mono d) ?_
  unfold bk_s1
  rw [hi]
  simp only [hk]
  show bk_gd _ _
  rw [hr]
  exact z
theorem bg_try {ix k p m As q} {b : Nat × Nat} (hi : bk_ins j pc = some (.invokevirtual ix, nx, sw, c)) (hk : bk_cal (bk_own j) ix = some (5, k, p)) (hn : bk_np k = m) (hA : (st.take m).reverse = As) (hd : st.drop m = .ref q :: r) (hr : Nat.ble r.length 4 = true) (ho : ∃ fs : List Value, h q = some (.inr (bk_own k, fs))) (hb1 : cs.1 + b.1 ≤ B.1) (hb2 : cs.2 + b.2 ≤ B.2) (z : bk_wp V d k (.ref q :: As) h n b (fun rr h n => (∃ v : Option Value, rr = .inl v ∧ bk_g V d j B Q nx L (v.toList ++ r) h n (cs.1 + b.1, cs.2 + b.2)) ∨ (∃ E t, rr = .inr E ∧ bk_hdl j E = some t ∧ Nat.blt t.2.2 L.length = true ∧ bk_g V d j B Q t.2.1 ((bk_st L t.2.2 .null).set t.2.2 none) [] h n (cs.1 + b.1, cs.2 + b.2)))) : bk_g V d j B Q pc L st h n cs := by
  refine bk_go_s (bk_wp_mono d) ?_
  unfold bk_s1
  rw [hi]
  simp only [hk]
  rw [hn, hA, hd]
  refine ⟨ho, ?_⟩
  show bk_gd _ _
  rw [hr]
  refine ⟨b, hb1, hb2, bg_mono z fun rr h n w => ?_⟩
  rcases w with ⟨v, rfl, w⟩ | ⟨E, t, rfl, w1, w2, w3⟩
  · exact w
  · show (match bk_hdl j E with | some t => bk_gd (Nat.blt t.2.2 L.length) _ | none => False)
    rw [w1]
    show bk_gd _ _
    rw [w2]
    exact w3
theorem bg_strlen {ix k0 k p a} (hi : bk_ins j pc = some (.invokevirtual ix, nx, sw, c)) (hk : bk_cal (bk_own j) ix = some (6, k0, p)) (hr : Nat.ble r.length 4 = true) (hs : k < bk_nS) (ha : a = V.2.2.2.2 k) (z : bk_g V d j B Q nx L (.int (Int32.ofNat (bk_sB k).length) :: r) h n cs) : bk_g V d j B Q pc L (.ref a :: r) h n cs := by
  refine bk_go_s (bk_wp_mono d) ?_
  unfold bk_s1
  rw [hi]
  simp only [hk]
  show bk_gd _ _
  rw [hr]
  exact ⟨k, hs, ha, z⟩
theorem bg_charat {ix k0 k p a i} (hi : bk_ins j pc = some (.invokevirtual ix, nx, sw, c)) (hk : bk_cal (bk_own j) ix = some (7, k0, p)) (hr : Nat.ble r.length 4 = true) (hs : k < bk_nS) (ha : a = V.2.2.2.2 k) (hv : vp_in i (bk_sB k).length) (z : bk_g V d j B Q nx L (.int ((bk_sB k).getD i.toNatClampNeg 0) :: r) h n cs) : bk_g V d j B Q pc L (.int i :: .ref a :: r) h n cs := by
  refine bk_go_s (bk_wp_mono d) ?_
  unfold bk_s1
  rw [hi]
  simp only [hk]
  show bk_gd _ _
  rw [hr]
  exact ⟨k, hs, ha, hv, z⟩
theorem bg_indexof {ix k0 k p a x} (hi : bk_ins j pc = some (.invokevirtual ix, nx, sw, c)) (hk : bk_cal (bk_own j) ix = some (8, k0, p)) (hr : Nat.ble r.length 4 = true) (hs : k < bk_nS) (ha : a = V.2.2.2.2 k) (z : bk_g V d j B Q nx L (.int (bk_ix (bk_sB k) x 0) :: r) h n cs) : bk_g V d j B Q pc L (.int x :: .ref a :: r) h n cs := by
  refine bk_go_s (bk_wp_mono d) ?_
  unfold bk_s1
  rw [hi]
  simp only [hk]
  show bk_gd _ _
  rw [hr]
  exact ⟨k, hs, ha, z⟩
theorem bg_iret {v t} (hi : bk_ins j pc = some (.ireturn, nx, sw, c)) (ht : bk_ret j = some t) (hv : narrow t (.int v) = .int v) (z : Q (.inl (some (.int v))) h n) : bk_g V d j B Q pc L [.int v] h n cs := by
  refine bk_go_s (bk_wp_mono d) ?_
  unfold bk_s1
  rw [hi]
  simp only [ht]
  exact ⟨hv, z⟩
theorem bg_lret {v} (hi : bk_ins j pc = some (.lreturn, nx, sw, c)) (ht : bk_ret j = some .long) (z : Q (.inl (some (.long v))) h n) : bk_g V d j B Q pc L [.long v] h n cs := by
  refine bk_go_s (bk_wp_mono d) ?_
  unfold bk_s1
  rw [hi]
  exact ⟨ht, z⟩
theorem bg_dret {v} (hi : bk_ins j pc = some (.dreturn, nx, sw, c)) (ht : bk_ret j = some .double) (z : Q (.inl (some (.double v))) h n) : bk_g V d j B Q pc L [.double v] h n cs := by
  refine bk_go_s (bk_wp_mono d) ?_
  unfold bk_s1
  rw [hi]
  exact ⟨ht, z⟩
theorem bg_ret (hi : bk_ins j pc = some (.return_, nx, sw, c)) (ht : bk_ret j = none) (z : Q (.inl none) h n) : bk_g V d j B Q pc L [] h n cs := by
  refine bk_go_s (bk_wp_mono d) ?_
  unfold bk_s1
  rw [hi]
  exact ⟨ht, z⟩
end BG
