/-! RULES, one an instruction: a walk in the abstract goes on behind it. Printed by wip/whole/mk20.py. -/
section BG
variable {V : bk_V} {d j pc nx : Nat} {B : Nat × Nat} {Q : bk_R → bk_H → Nat → Prop} {L : bk_L} {st r : List Value} {h : bk_H} {n : Nat} {cs : Nat × Nat} {c : Int32} {sw : List (Int32 × Nat)}
abbrev bk_g (V : bk_V) (d j : Nat) (B : Nat × Nat) (Q : bk_R → bk_H → Nat → Prop) (pc : Nat) (L : bk_L) (st : List Value) (h : bk_H) (n : Nat) (cs : Nat × Nat) : Prop := bk_go V (bk_wp V d) j B Q pc L st h n cs
theorem bg_in {As : List Value} (hl : Nat.ble (bk_arg As).length (bk_max j) = true) (he : bk_ent (bk_max j) As = L) (z : bk_g V d j B Q 0 L [] h n (0, 0)) : bk_wp V (d + 1) j As h n B Q := by
  show bk_gd _ _
  rw [hl, he]
  exact z
theorem bg_mono {D : Nat} {As : List Value} {Q' : bk_R → bk_H → Nat → Prop} (z : bk_wp V D j As h n B Q') (hq : ∀ r h n, Q' r h n → Q r h n) : bk_wp V D j As h n B Q := bk_wp_mono D _ _ _ _ _ _ _ hq z
theorem bg_iconst {k} (hi : bk_ins j pc = some (.iconst k, nx, sw, c)) (z : bk_g V d j B Q nx L (.int c :: st) h n cs) : bk_g V d j B Q pc L st h n cs := by
  refine bk_go_s (bk_wp_mono d) ?_
  unfold bk_s1
  rw [hi]
  exact z
theorem bg_bipush {k} (hi : bk_ins j pc = some (.bipush k, nx, sw, c)) (z : bk_g V d j B Q nx L (.int c :: st) h n cs) : bk_g V d j B Q pc L st h n cs := by
  refine bk_go_s (bk_wp_mono d) ?_
  unfold bk_s1
  rw [hi]
  exact z
theorem bg_sipush {k} (hi : bk_ins j pc = some (.sipush k, nx, sw, c)) (z : bk_g V d j B Q nx L (.int c :: st) h n cs) : bk_g V d j B Q pc L st h n cs := by
  refine bk_go_s (bk_wp_mono d) ?_
  unfold bk_s1
  rw [hi]
  exact z
theorem bg_lconst {k} (hi : bk_ins j pc = some (.lconst k, nx, sw, c)) (z : bk_g V d j B Q nx L (.long (Int64.ofNat (k : Nat)) :: st) h n cs) : bk_g V d j B Q pc L st h n cs := by
  refine bk_go_s (bk_wp_mono d) ?_
  unfold bk_s1
  rw [hi]
  exact z
theorem bg_dconst {k} (hi : bk_ins j pc = some (.dconst k, nx, sw, c)) (hk : Nat.beq (k : Nat) 0 = true) (z : bk_g V d j B Q nx L (.double FP.dconst0 :: st) h n cs) : bk_g V d j B Q pc L st h n cs := by
  refine bk_go_s (bk_wp_mono d) ?_
  unfold bk_s1
  rw [hi]
  show bk_gd _ _
  rw [hk]
  exact z
theorem bg_iload_n {k x} (hi : bk_ins j pc = some (.iload_n k, nx, sw, c)) (hl : L[k]? = some (some (.int x))) (z : bk_g V d j B Q nx L (.int x :: st) h n cs) : bk_g V d j B Q pc L st h n cs := by
  refine bk_go_s (bk_wp_mono d) ?_
  unfold bk_s1
  rw [hi]
  show bk_ldi _ _ _
  unfold bk_ldi
  rw [hl]
  exact z
theorem bg_iload {k x} (hi : bk_ins j pc = some (.iload k, nx, sw, c)) (hl : L[k]? = some (some (.int x))) (z : bk_g V d j B Q nx L (.int x :: st) h n cs) : bk_g V d j B Q pc L st h n cs := by
  refine bk_go_s (bk_wp_mono d) ?_
  unfold bk_s1
  rw [hi]
  show bk_ldi _ _ _
  unfold bk_ldi
  rw [hl]
  exact z
theorem bg_lload_n {k x} (hi : bk_ins j pc = some (.lload_n k, nx, sw, c)) (hl : L[k]? = some (some (.long x))) (z : bk_g V d j B Q nx L (.long x :: st) h n cs) : bk_g V d j B Q pc L st h n cs := by
  refine bk_go_s (bk_wp_mono d) ?_
  unfold bk_s1
  rw [hi]
  show bk_ldl _ _ _
  unfold bk_ldl
  rw [hl]
  exact z
theorem bg_lload {k x} (hi : bk_ins j pc = some (.lload k, nx, sw, c)) (hl : L[k]? = some (some (.long x))) (z : bk_g V d j B Q nx L (.long x :: st) h n cs) : bk_g V d j B Q pc L st h n cs := by
  refine bk_go_s (bk_wp_mono d) ?_
  unfold bk_s1
  rw [hi]
  show bk_ldl _ _ _
  unfold bk_ldl
  rw [hl]
  exact z
theorem bg_dload_n {k x} (hi : bk_ins j pc = some (.dload_n k, nx, sw, c)) (hl : L[k]? = some (some (.double x))) (z : bk_g V d j B Q nx L (.double x :: st) h n cs) : bk_g V d j B Q pc L st h n cs := by
  refine bk_go_s (bk_wp_mono d) ?_
  unfold bk_s1
  rw [hi]
  show bk_ldd _ _ _
  unfold bk_ldd
  rw [hl]
  exact z
theorem bg_dload {k x} (hi : bk_ins j pc = some (.dload k, nx, sw, c)) (hl : L[k]? = some (some (.double x))) (z : bk_g V d j B Q nx L (.double x :: st) h n cs) : bk_g V d j B Q pc L st h n cs := by
  refine bk_go_s (bk_wp_mono d) ?_
  unfold bk_s1
  rw [hi]
  show bk_ldd _ _ _
  unfold bk_ldd
  rw [hl]
  exact z
theorem bg_aload_n {k x} (hi : bk_ins j pc = some (.aload_n k, nx, sw, c)) (hl : L[k]? = some (some (.ref x))) (z : bk_g V d j B Q nx L (.ref x :: st) h n cs) : bk_g V d j B Q pc L st h n cs := by
  refine bk_go_s (bk_wp_mono d) ?_
  unfold bk_s1
  rw [hi]
  show bk_lda _ _ _
  unfold bk_lda
  rw [hl]
  exact z
theorem bg_aload {k x} (hi : bk_ins j pc = some (.aload k, nx, sw, c)) (hl : L[k]? = some (some (.ref x))) (z : bk_g V d j B Q nx L (.ref x :: st) h n cs) : bk_g V d j B Q pc L st h n cs := by
  refine bk_go_s (bk_wp_mono d) ?_
  unfold bk_s1
  rw [hi]
  show bk_lda _ _ _
  unfold bk_lda
  rw [hl]
  exact z
theorem bg_istore_n {k x} {L' : bk_L} (hi : bk_ins j pc = some (.istore_n k, nx, sw, c)) (hk : Nat.blt k L.length = true) (hL : bk_st L k (.int x) = L') (z : bk_g V d j B Q nx L' r h n cs) : bk_g V d j B Q pc L (.int x :: r) h n cs := by
  refine bk_go_s (bk_wp_mono d) ?_
  unfold bk_s1
  rw [hi]
  show bk_gd _ _
  rw [hk, hL]
  exact z
theorem bg_istore {k x} {L' : bk_L} (hi : bk_ins j pc = some (.istore k, nx, sw, c)) (hk : Nat.blt k L.length = true) (hL : bk_st L k (.int x) = L') (z : bk_g V d j B Q nx L' r h n cs) : bk_g V d j B Q pc L (.int x :: r) h n cs := by
  refine bk_go_s (bk_wp_mono d) ?_
  unfold bk_s1
  rw [hi]
  show bk_gd _ _
  rw [hk, hL]
  exact z
theorem bg_astore_n {k x} {L' : bk_L} (hi : bk_ins j pc = some (.astore_n k, nx, sw, c)) (hk : Nat.blt k L.length = true) (hL : bk_st L k (.ref x) = L') (z : bk_g V d j B Q nx L' r h n cs) : bk_g V d j B Q pc L (.ref x :: r) h n cs := by
  refine bk_go_s (bk_wp_mono d) ?_
  unfold bk_s1
  rw [hi]
  show bk_gd _ _
  rw [hk, hL]
  exact z
theorem bg_astore {k x} {L' : bk_L} (hi : bk_ins j pc = some (.astore k, nx, sw, c)) (hk : Nat.blt k L.length = true) (hL : bk_st L k (.ref x) = L') (z : bk_g V d j B Q nx L' r h n cs) : bk_g V d j B Q pc L (.ref x :: r) h n cs := by
  refine bk_go_s (bk_wp_mono d) ?_
  unfold bk_s1
  rw [hi]
  show bk_gd _ _
  rw [hk, hL]
  exact z
theorem bg_lstore_n {k x} {L' : bk_L} (hi : bk_ins j pc = some (.lstore_n k, nx, sw, c)) (hk : Nat.blt (k + 1) L.length = true) (hL : bk_st2 L k (.long x) = L') (z : bk_g V d j B Q nx L' r h n cs) : bk_g V d j B Q pc L (.long x :: r) h n cs := by
  refine bk_go_s (bk_wp_mono d) ?_
  unfold bk_s1
  rw [hi]
  show bk_gd _ _
  rw [hk, hL]
  exact z
theorem bg_lstore {k x} {L' : bk_L} (hi : bk_ins j pc = some (.lstore k, nx, sw, c)) (hk : Nat.blt (k + 1) L.length = true) (hL : bk_st2 L k (.long x) = L') (z : bk_g V d j B Q nx L' r h n cs) : bk_g V d j B Q pc L (.long x :: r) h n cs := by
  refine bk_go_s (bk_wp_mono d) ?_
  unfold bk_s1
  rw [hi]
  show bk_gd _ _
  rw [hk, hL]
  exact z
theorem bg_dstore {k x} {L' : bk_L} (hi : bk_ins j pc = some (.dstore k, nx, sw, c)) (hk : Nat.blt (k + 1) L.length = true) (hL : bk_st2 L k (.double x) = L') (z : bk_g V d j B Q nx L' r h n cs) : bk_g V d j B Q pc L (.double x :: r) h n cs := by
  refine bk_go_s (bk_wp_mono d) ?_
  unfold bk_s1
  rw [hi]
  show bk_gd _ _
  rw [hk, hL]
  exact z
theorem bg_iinc {k i x} {L' : bk_L} (hi : bk_ins j pc = some (.iinc k i, nx, sw, c)) (hl : L[k]? = some (some (.int x))) (hk : Nat.blt k L.length = true) (hL : bk_st L k (.int (x + c)) = L') (z : bk_g V d j B Q nx L' st h n cs) : bk_g V d j B Q pc L st h n cs := by
  refine bk_go_s (bk_wp_mono d) ?_
  unfold bk_s1
  rw [hi]
  show bk_ldi _ _ _
  unfold bk_ldi
  rw [hl]
  show bk_gd _ _
  rw [hk, hL]
  exact z
theorem bg_iadd {x y} (hi : bk_ins j pc = some (.iadd, nx, sw, c)) (z : bk_g V d j B Q nx L (.int (x + y) :: r) h n cs) : bk_g V d j B Q pc L (.int y :: .int x :: r) h n cs := by
  refine bk_go_s (bk_wp_mono d) ?_
  unfold bk_s1
  rw [hi]
  exact z
theorem bg_isub {x y} (hi : bk_ins j pc = some (.isub, nx, sw, c)) (z : bk_g V d j B Q nx L (.int (x - y) :: r) h n cs) : bk_g V d j B Q pc L (.int y :: .int x :: r) h n cs := by
  refine bk_go_s (bk_wp_mono d) ?_
  unfold bk_s1
  rw [hi]
  exact z
theorem bg_imul {x y} (hi : bk_ins j pc = some (.imul, nx, sw, c)) (z : bk_g V d j B Q nx L (.int (x * y) :: r) h n cs) : bk_g V d j B Q pc L (.int y :: .int x :: r) h n cs := by
  refine bk_go_s (bk_wp_mono d) ?_
  unfold bk_s1
  rw [hi]
  exact z
theorem bg_iand {x y} (hi : bk_ins j pc = some (.iand, nx, sw, c)) (z : bk_g V d j B Q nx L (.int (x &&& y) :: r) h n cs) : bk_g V d j B Q pc L (.int y :: .int x :: r) h n cs := by
  refine bk_go_s (bk_wp_mono d) ?_
  unfold bk_s1
  rw [hi]
  exact z
theorem bg_ior {x y} (hi : bk_ins j pc = some (.ior, nx, sw, c)) (z : bk_g V d j B Q nx L (.int (x ||| y) :: r) h n cs) : bk_g V d j B Q pc L (.int y :: .int x :: r) h n cs := by
  refine bk_go_s (bk_wp_mono d) ?_
  unfold bk_s1
  rw [hi]
  exact z
theorem bg_ishr {x y} (hi : bk_ins j pc = some (.ishr, nx, sw, c)) (z : bk_g V d j B Q nx L (.int (x >>> (y &&& 31)) :: r) h n cs) : bk_g V d j B Q pc L (.int y :: .int x :: r) h n cs := by
  refine bk_go_s (bk_wp_mono d) ?_
  unfold bk_s1
  rw [hi]
  exact z
theorem bg_iushr {x y} (hi : bk_ins j pc = some (.iushr, nx, sw, c)) (z : bk_g V d j B Q nx L (.int ((x.toUInt32 >>> (y.toUInt32 &&& Int32.toUInt32 31)).toInt32) :: r) h n cs) : bk_g V d j B Q pc L (.int y :: .int x :: r) h n cs := by
  refine bk_go_s (bk_wp_mono d) ?_
  unfold bk_s1
  rw [hi]
  exact z
theorem bg_idiv {x y} (hi : bk_ins j pc = some (.idiv, nx, sw, c)) (hy : ¬ y = 0) (z : bk_g V d j B Q nx L (.int (x / y) :: r) h n cs) : bk_g V d j B Q pc L (.int y :: .int x :: r) h n cs := by
  refine bk_go_s (bk_wp_mono d) ?_
  unfold bk_s1
  rw [hi]
  exact ⟨hy, z⟩
theorem bg_irem {x y} (hi : bk_ins j pc = some (.irem, nx, sw, c)) (hy : ¬ y = 0) (z : bk_g V d j B Q nx L (.int (x - x / y * y) :: r) h n cs) : bk_g V d j B Q pc L (.int y :: .int x :: r) h n cs := by
  refine bk_go_s (bk_wp_mono d) ?_
  unfold bk_s1
  rw [hi]
  exact ⟨hy, z⟩
theorem bg_ineg {x} (hi : bk_ins j pc = some (.ineg, nx, sw, c)) (z : bk_g V d j B Q nx L (.int (-x) :: r) h n cs) : bk_g V d j B Q pc L (.int x :: r) h n cs := by
  refine bk_go_s (bk_wp_mono d) ?_
  unfold bk_s1
  rw [hi]
  exact z
theorem bg_i2l {x} (hi : bk_ins j pc = some (.i2l, nx, sw, c)) (z : bk_g V d j B Q nx L (.long x.toInt64 :: r) h n cs) : bk_g V d j B Q pc L (.int x :: r) h n cs := by
  refine bk_go_s (bk_wp_mono d) ?_
  unfold bk_s1
  rw [hi]
  exact z
theorem bg_i2c {x} (hi : bk_ins j pc = some (.i2c, nx, sw, c)) (z : bk_g V d j B Q nx L (.int (x.toUInt32 % 65536).toInt32 :: r) h n cs) : bk_g V d j B Q pc L (.int x :: r) h n cs := by
  refine bk_go_s (bk_wp_mono d) ?_
  unfold bk_s1
  rw [hi]
  exact z
theorem bg_i2b {x} (hi : bk_ins j pc = some (.i2b, nx, sw, c)) (z : bk_g V d j B Q nx L (.int x.toInt8.toInt32 :: r) h n cs) : bk_g V d j B Q pc L (.int x :: r) h n cs := by
  refine bk_go_s (bk_wp_mono d) ?_
  unfold bk_s1
  rw [hi]
  exact z
theorem bg_i2d {x} (hi : bk_ins j pc = some (.i2d, nx, sw, c)) (z : bk_g V d j B Q nx L (.double (FP.i2d x) :: r) h n cs) : bk_g V d j B Q pc L (.int x :: r) h n cs := by
  refine bk_go_s (bk_wp_mono d) ?_
  unfold bk_s1
  rw [hi]
  exact z
theorem bg_ladd {x y} (hi : bk_ins j pc = some (.ladd, nx, sw, c)) (z : bk_g V d j B Q nx L (.long (x + y) :: r) h n cs) : bk_g V d j B Q pc L (.long y :: .long x :: r) h n cs := by
  refine bk_go_s (bk_wp_mono d) ?_
  unfold bk_s1
  rw [hi]
  exact z
theorem bg_lmul {x y} (hi : bk_ins j pc = some (.lmul, nx, sw, c)) (z : bk_g V d j B Q nx L (.long (x * y) :: r) h n cs) : bk_g V d j B Q pc L (.long y :: .long x :: r) h n cs := by
  refine bk_go_s (bk_wp_mono d) ?_
  unfold bk_s1
  rw [hi]
  exact z
theorem bg_lcmp {x y} (hi : bk_ins j pc = some (.lcmp, nx, sw, c)) (z : bk_g V d j B Q nx L (.int (lg_cmp x y) :: r) h n cs) : bk_g V d j B Q pc L (.long y :: .long x :: r) h n cs := by
  refine bk_go_s (bk_wp_mono d) ?_
  unfold bk_s1
  rw [hi]
  exact z
theorem bg_ddiv {x y} (hi : bk_ins j pc = some (.ddiv, nx, sw, c)) (hn : vf_n64 (FP.ddiv x y)) (z : bk_g V d j B Q nx L (.double (FP.ddiv x y) :: r) h n cs) : bk_g V d j B Q pc L (.double y :: .double x :: r) h n cs := by
  refine bk_go_s (bk_wp_mono d) ?_
  unfold bk_s1
  rw [hi]
  exact ⟨hn, z⟩
theorem bg_dcmp {x y op} (hi : bk_ins j pc = some (.dcmp op, nx, sw, c)) (z : bk_g V d j B Q nx L (.int (Op.cmpValue (FP.dcmp x y) op) :: r) h n cs) : bk_g V d j B Q pc L (.double y :: .double x :: r) h n cs := by
  refine bk_go_s (bk_wp_mono d) ?_
  unfold bk_s1
  rw [hi]
  exact z
theorem bg_dup {v : Value} (hi : bk_ins j pc = some (.dup, nx, sw, c)) (hv : Nat.beq v.category 1 = true) (z : bk_g V d j B Q nx L (v :: v :: r) h n cs) : bk_g V d j B Q pc L (v :: r) h n cs := by
  refine bk_go_s (bk_wp_mono d) ?_
  unfold bk_s1
  rw [hi]
  show bk_gd _ _
  rw [hv]
  exact z
theorem bg_dup2 {v w : Value} (hi : bk_ins j pc = some (.dup2, nx, sw, c)) (hv : Nat.beq v.category 1 = true) (hw : Nat.beq w.category 1 = true) (z : bk_g V d j B Q nx L (v :: w :: v :: w :: r) h n cs) : bk_g V d j B Q pc L (v :: w :: r) h n cs := by
  refine bk_go_s (bk_wp_mono d) ?_
  unfold bk_s1
  rw [hi]
  show bk_gd _ _
  rw [hv]
  show bk_gd _ _
  rw [hw]
  exact z
theorem bg_goto {i a t} (hi : bk_ins j pc = some (.goto i, nx, (a, t) :: sw, c)) (z : bk_g V d j B Q t L st h n cs) : bk_g V d j B Q pc L st h n cs := by
  refine bk_go_s (bk_wp_mono d) ?_
  unfold bk_s1
  rw [hi]
  exact z
theorem bg_if_eq {x i a t} (hi : bk_ins j pc = some (.ifCond .eq i, nx, (a, t) :: sw, c)) (z1 : x = 0 → bk_g V d j B Q t L r h n cs) (z2 : ¬ x = 0 → bk_g V d j B Q nx L r h n cs) : bk_g V d j B Q pc L (.int x :: r) h n cs := by
  refine bk_go_s (bk_wp_mono d) ?_
  unfold bk_s1
  rw [hi]
  exact ⟨z1, z2⟩
theorem bg_if_ne {x i a t} (hi : bk_ins j pc = some (.ifCond .ne i, nx, (a, t) :: sw, c)) (z1 : ¬ x = 0 → bk_g V d j B Q t L r h n cs) (z2 : x = 0 → bk_g V d j B Q nx L r h n cs) : bk_g V d j B Q pc L (.int x :: r) h n cs := by
  refine bk_go_s (bk_wp_mono d) ?_
  unfold bk_s1
  rw [hi]
  exact ⟨z1, z2⟩
theorem bg_if_lt {x i a t} (hi : bk_ins j pc = some (.ifCond .lt i, nx, (a, t) :: sw, c)) (z1 : x < 0 → bk_g V d j B Q t L r h n cs) (z2 : ¬ x < 0 → bk_g V d j B Q nx L r h n cs) : bk_g V d j B Q pc L (.int x :: r) h n cs := by
  refine bk_go_s (bk_wp_mono d) ?_
  unfold bk_s1
  rw [hi]
  exact ⟨z1, z2⟩
theorem bg_if_ge {x i a t} (hi : bk_ins j pc = some (.ifCond .ge i, nx, (a, t) :: sw, c)) (z1 : ¬ x < 0 → bk_g V d j B Q t L r h n cs) (z2 : x < 0 → bk_g V d j B Q nx L r h n cs) : bk_g V d j B Q pc L (.int x :: r) h n cs := by
  refine bk_go_s (bk_wp_mono d) ?_
  unfold bk_s1
  rw [hi]
  exact ⟨z1, z2⟩
theorem bg_if_gt {x i a t} (hi : bk_ins j pc = some (.ifCond .gt i, nx, (a, t) :: sw, c)) (z1 : 0 < x → bk_g V d j B Q t L r h n cs) (z2 : ¬ 0 < x → bk_g V d j B Q nx L r h n cs) : bk_g V d j B Q pc L (.int x :: r) h n cs := by
  refine bk_go_s (bk_wp_mono d) ?_
  unfold bk_s1
  rw [hi]
  exact ⟨z1, z2⟩
theorem bg_if_le {x i a t} (hi : bk_ins j pc = some (.ifCond .le i, nx, (a, t) :: sw, c)) (z1 : ¬ 0 < x → bk_g V d j B Q t L r h n cs) (z2 : 0 < x → bk_g V d j B Q nx L r h n cs) : bk_g V d j B Q pc L (.int x :: r) h n cs := by
  refine bk_go_s (bk_wp_mono d) ?_
  unfold bk_s1
  rw [hi]
  exact ⟨z1, z2⟩
theorem bg_icmp_eq {x y i a t} (hi : bk_ins j pc = some (.if_icmp .eq i, nx, (a, t) :: sw, c)) (z1 : x = y → bk_g V d j B Q t L r h n cs) (z2 : ¬ x = y → bk_g V d j B Q nx L r h n cs) : bk_g V d j B Q pc L (.int y :: .int x :: r) h n cs := by
  refine bk_go_s (bk_wp_mono d) ?_
  unfold bk_s1
  rw [hi]
  exact ⟨z1, z2⟩
theorem bg_icmp_ne {x y i a t} (hi : bk_ins j pc = some (.if_icmp .ne i, nx, (a, t) :: sw, c)) (z1 : ¬ x = y → bk_g V d j B Q t L r h n cs) (z2 : x = y → bk_g V d j B Q nx L r h n cs) : bk_g V d j B Q pc L (.int y :: .int x :: r) h n cs := by
  refine bk_go_s (bk_wp_mono d) ?_
  unfold bk_s1
  rw [hi]
  exact ⟨z1, z2⟩
theorem bg_icmp_lt {x y i a t} (hi : bk_ins j pc = some (.if_icmp .lt i, nx, (a, t) :: sw, c)) (z1 : x < y → bk_g V d j B Q t L r h n cs) (z2 : ¬ x < y → bk_g V d j B Q nx L r h n cs) : bk_g V d j B Q pc L (.int y :: .int x :: r) h n cs := by
  refine bk_go_s (bk_wp_mono d) ?_
  unfold bk_s1
  rw [hi]
  exact ⟨z1, z2⟩
theorem bg_icmp_ge {x y i a t} (hi : bk_ins j pc = some (.if_icmp .ge i, nx, (a, t) :: sw, c)) (z1 : ¬ x < y → bk_g V d j B Q t L r h n cs) (z2 : x < y → bk_g V d j B Q nx L r h n cs) : bk_g V d j B Q pc L (.int y :: .int x :: r) h n cs := by
  refine bk_go_s (bk_wp_mono d) ?_
  unfold bk_s1
  rw [hi]
  exact ⟨z1, z2⟩
theorem bg_icmp_gt {x y i a t} (hi : bk_ins j pc = some (.if_icmp .gt i, nx, (a, t) :: sw, c)) (z1 : y < x → bk_g V d j B Q t L r h n cs) (z2 : ¬ y < x → bk_g V d j B Q nx L r h n cs) : bk_g V d j B Q pc L (.int y :: .int x :: r) h n cs := by
  refine bk_go_s (bk_wp_mono d) ?_
  unfold bk_s1
  rw [hi]
  exact ⟨z1, z2⟩
theorem bg_icmp_le {x y i a t} (hi : bk_ins j pc = some (.if_icmp .le i, nx, (a, t) :: sw, c)) (z1 : ¬ y < x → bk_g V d j B Q t L r h n cs) (z2 : y < x → bk_g V d j B Q nx L r h n cs) : bk_g V d j B Q pc L (.int y :: .int x :: r) h n cs := by
  refine bk_go_s (bk_wp_mono d) ?_
  unfold bk_s1
  rw [hi]
  exact ⟨z1, z2⟩
theorem bg_ifeq_b {p : Prop} [Decidable p] {i a t} (hi : bk_ins j pc = some (.ifCond .eq i, nx, (a, t) :: sw, c)) (z1 : ¬ p → bk_g V d j B Q t L r h n cs) (z2 : p → bk_g V d j B Q nx L r h n cs) : bk_g V d j B Q pc L (.int (if p then 1 else 0) :: r) h n cs := bg_if_eq hi (fun e => z1 fun hp => absurd e (by rw [if_pos hp]; decide)) (fun e => z2 (Decidable.byContradiction fun hp => e (by rw [if_neg hp])))
theorem bg_ifne_b {p : Prop} [Decidable p] {i a t} (hi : bk_ins j pc = some (.ifCond .ne i, nx, (a, t) :: sw, c)) (z1 : p → bk_g V d j B Q t L r h n cs) (z2 : ¬ p → bk_g V d j B Q nx L r h n cs) : bk_g V d j B Q pc L (.int (if p then 1 else 0) :: r) h n cs := bg_if_ne hi (fun e => z1 (Decidable.byContradiction fun hp => e (by rw [if_neg hp]))) (fun e => z2 fun hp => absurd e (by rw [if_pos hp]; decide))
theorem bk_sw_c {x a : Int32} {t : Nat} {K : Nat → Prop} {e : Nat} {r : List (Int32 × Nat)} (z1 : x = a → K t) (z2 : ¬ x = a → bk_sw x K e r) : bk_sw x K e ((a, t) :: r) := ⟨z1, z2⟩
theorem bk_sw_n {x : Int32} {K : Nat → Prop} {e : Nat} (z : K e) : bk_sw x K e [] := z
theorem bg_tsw {x w1 w2 w3 w4} (hi : bk_ins j pc = some (.tableswitch w1 w2 w3 w4, nx, sw, c)) (z : bk_sw x (fun t => bk_g V d j B Q t L r h n cs) nx sw) : bk_g V d j B Q pc L (.int x :: r) h n cs := by
  refine bk_go_s (bk_wp_mono d) ?_
  unfold bk_s1
  rw [hi]
  exact z
theorem bg_lsw {x w1 w2} (hi : bk_ins j pc = some (.lookupswitch w1 w2, nx, sw, c)) (z : bk_sw x (fun t => bk_g V d j B Q t L r h n cs) nx sw) : bk_g V d j B Q pc L (.int x :: r) h n cs := by
  refine bk_go_s (bk_wp_mono d) ?_
  unfold bk_s1
  rw [hi]
  exact z
theorem bg_getfield {ix a ci k p} {fs : List Value} {v : Value} (hi : bk_ins j pc = some (.getfield ix, nx, sw, c)) (hf : bk_fld (bk_own j) ix = some (ci, k, p)) (ha : h a = some (.inr (ci, fs))) (hv : fs[k]? = some v) (z : bk_g V d j B Q nx L (v :: r) h n cs) : bk_g V d j B Q pc L (.ref a :: r) h n cs := by
  refine bk_go_s (bk_wp_mono d) ?_
  unfold bk_s1
  rw [hi]
  simp only [hf]
  exact ⟨fs, v, ha, hv, z⟩
theorem bg_putfield {ix a ci k p} {fs fs' : List Value} {v : Value} (hi : bk_ins j pc = some (.putfield ix, nx, sw, c)) (hf : bk_fld (bk_own j) ix = some (ci, k, p)) (ha : h a = some (.inr (ci, fs))) (hk : Nat.blt k fs.length = true) (hv : narrow (bk_fty ci k) v = v ∧ fits (bk_fty ci k) v = true) (hs : fs.set k v = fs') (z : ∀ h', h' a = some (.inr (ci, fs')) → (∀ q, q ≠ a → h' q = h q) → bk_g V d j B Q nx L r h' n cs) : bk_g V d j B Q pc L (v :: .ref a :: r) h n cs := by
  refine bk_go_s (bk_wp_mono d) ?_
  unfold bk_s1
  rw [hi]
  simp only [hf]
  refine ⟨fs, ha, Nat.le_of_ble_eq_true hk, hv, z _ ?_ fun q hq => ?_⟩
  · rw [hs]
    show (if a = a then _ else _) = _
    rw [if_pos rfl]
  · show (if q = a then _ else _) = _
    rw [if_neg hq]
theorem bg_getstatic {ix} (hi : bk_ins j pc = some (.getstatic ix, nx, sw, c)) (z : bk_g V d j B Q nx L (.ref V.2.2.2.1 :: st) h n cs) : bk_g V d j B Q pc L st h n cs := by
  refine bk_go_s (bk_wp_mono d) ?_
  unfold bk_s1
  rw [hi]
  exact z
theorem bg_ldc {ix k p} (hi : bk_ins j pc = some (.ldc ix, nx, sw, c)) (hs : bk_str (bk_own j) ix = some (k, p)) (z : bk_g V d j B Q nx L (.ref (V.2.2.2.2 k) :: st) h n cs) : bk_g V d j B Q pc L st h n cs := by
  refine bk_go_s (bk_wp_mono d) ?_
  unfold bk_s1
  rw [hi]
  simp only [hs]
  exact z
theorem bg_ldc2 {ix k p} (hi : bk_ins j pc = some (.ldc2_w ix, nx, sw, c)) (hs : bk_lng (bk_own j) ix = some (k, p)) (z : bk_g V d j B Q nx L (.long k :: st) h n cs) : bk_g V d j B Q pc L st h n cs := by
  refine bk_go_s (bk_wp_mono d) ?_
  unfold bk_s1
  rw [hi]
  simp only [hs]
  exact z
theorem bg_iaload {i a m f} (hi : bk_ins j pc = some (.iaload, nx, sw, c)) (ha : h a = some (.inl (0, m, .inl f))) (hv : vp_in i m) (z : bk_g V d j B Q nx L (.int (f i.toNatClampNeg) :: r) h n cs) : bk_g V d j B Q pc L (.int i :: .ref a :: r) h n cs := by
  refine bk_go_s (bk_wp_mono d) ?_
  unfold bk_s1
  rw [hi]
  exact Or.inl ⟨m, f, ha, hv, z⟩
theorem bg_iaload_n {i a m f} (hi : bk_ins j pc = some (.iaload, nx, sw, c)) (ha : h a = some (.inl (0, m, .inl f))) (hm : m < 2 ^ 31) (hv : i < m) (z : bk_g V d j B Q nx L (.int (f i) :: r) h n cs) : bk_g V d j B Q pc L (.int (nI i) :: .ref a :: r) h n cs := by
  refine bk_go_s (bk_wp_mono d) ?_
  unfold bk_s1
  rw [hi]
  refine Or.inl ⟨m, f, ha, vp_in_nI hv hm, ?_⟩
  rw [nI_clamp (Nat.lt_trans hv hm)]
  exact z
theorem bg_iaload_s {i} (hi : bk_ins j pc = some (.iaload, nx, sw, c)) (hv : vp_in i V.2.1) (z : bk_g V d j B Q nx L (.int (V.2.2.1 i.toNatClampNeg) :: r) h n cs) : bk_g V d j B Q pc L (.int i :: .ref V.1 :: r) h n cs := by
  refine bk_go_s (bk_wp_mono d) ?_
  unfold bk_s1
  rw [hi]
  exact Or.inr ⟨rfl, hv, z⟩
theorem bg_baload {i a m f} (hi : bk_ins j pc = some (.baload, nx, sw, c)) (ha : h a = some (.inl (2, m, .inl f))) (hv : vp_in i m) (z : bk_g V d j B Q nx L (.int (f i.toNatClampNeg) :: r) h n cs) : bk_g V d j B Q pc L (.int i :: .ref a :: r) h n cs := by
  refine bk_go_s (bk_wp_mono d) ?_
  unfold bk_s1
  rw [hi]
  exact ⟨m, f, ha, hv, z⟩
theorem bg_laload {i a m f} (hi : bk_ins j pc = some (.laload, nx, sw, c)) (ha : h a = some (.inl (1, m, .inr (.inl f)))) (hv : vp_in i m) (z : bk_g V d j B Q nx L (.long (f i.toNatClampNeg) :: r) h n cs) : bk_g V d j B Q pc L (.int i :: .ref a :: r) h n cs := by
  refine bk_go_s (bk_wp_mono d) ?_
  unfold bk_s1
  rw [hi]
  exact ⟨m, f, ha, hv, z⟩
theorem bg_aaload {i} (hi : bk_ins j pc = some (.aaload, nx, sw, c)) (hv : vp_in i 29) (z : bk_g V d j B Q nx L (.ref (V.2.2.2.2 (bk_wd i.toNatClampNeg)) :: r) h n cs) : bk_g V d j B Q pc L (.int i :: .ref V.2.2.2.1 :: r) h n cs := by
  refine bk_go_s (bk_wp_mono d) ?_
  unfold bk_s1
  rw [hi]
  exact ⟨rfl, hv, z⟩
theorem bg_iastore {x i a m f} (hi : bk_ins j pc = some (.iastore, nx, sw, c)) (ha : h a = some (.inl (0, m, .inl f))) (hv : vp_in i m) (z : ∀ h', h' a = some (.inl (0, m, .inl (upd f i.toNatClampNeg x))) → (∀ q, q ≠ a → h' q = h q) → bk_g V d j B Q nx L r h' n cs) : bk_g V d j B Q pc L (.int x :: .int i :: .ref a :: r) h n cs := by
  refine bk_go_s (bk_wp_mono d) ?_
  unfold bk_s1
  rw [hi]
  refine ⟨m, f, ha, hv, z _ ?_ fun q hq => ?_⟩
  · show (if a = a then _ else _) = _
    rw [if_pos rfl]
  · show (if q = a then _ else _) = _
    rw [if_neg hq]
theorem bg_iastore_n {x i a m f} (hi : bk_ins j pc = some (.iastore, nx, sw, c)) (ha : h a = some (.inl (0, m, .inl f))) (hm : m < 2 ^ 31) (hv : i < m) (z : ∀ h', h' a = some (.inl (0, m, .inl (upd f i x))) → (∀ q, q ≠ a → h' q = h q) → bk_g V d j B Q nx L r h' n cs) : bk_g V d j B Q pc L (.int x :: .int (nI i) :: .ref a :: r) h n cs := by
  refine bk_go_s (bk_wp_mono d) ?_
  unfold bk_s1
  rw [hi]
  refine ⟨m, f, ha, vp_in_nI hv hm, z _ ?_ fun q hq => ?_⟩
  · rw [nI_clamp (Nat.lt_trans hv hm)]
    show (if a = a then _ else _) = _
    rw [if_pos rfl]
  · show (if q = a then _ else _) = _
    rw [if_neg hq]
theorem bg_bastore {x i a m f} (hi : bk_ins j pc = some (.bastore, nx, sw, c)) (ha : h a = some (.inl (2, m, .inl f))) (hv : vp_in i m) (hf : fits .byte (.int x) = true) (z : ∀ h', h' a = some (.inl (2, m, .inl (upd f i.toNatClampNeg x))) → (∀ q, q ≠ a → h' q = h q) → bk_g V d j B Q nx L r h' n cs) : bk_g V d j B Q pc L (.int x :: .int i :: .ref a :: r) h n cs := by
  refine bk_go_s (bk_wp_mono d) ?_
  unfold bk_s1
  rw [hi]
  refine ⟨m, f, ha, hv, hf, z _ ?_ fun q hq => ?_⟩
  · show (if a = a then _ else _) = _
    rw [if_pos rfl]
  · show (if q = a then _ else _) = _
    rw [if_neg hq]
theorem bg_lastore {x i a m f} (hi : bk_ins j pc = some (.lastore, nx, sw, c)) (ha : h a = some (.inl (1, m, .inr (.inl f)))) (hv : vp_in i m) (z : ∀ h', h' a = some (.inl (1, m, .inr (.inl (vp_updL f i.toNatClampNeg x)))) → (∀ q, q ≠ a → h' q = h q) → bk_g V d j B Q nx L r h' n cs) : bk_g V d j B Q pc L (.long x :: .int i :: .ref a :: r) h n cs := by
  refine bk_go_s (bk_wp_mono d) ?_
  unfold bk_s1
  rw [hi]
  refine ⟨m, f, ha, hv, z _ ?_ fun q hq => ?_⟩
  · show (if a = a then _ else _) = _
    rw [if_pos rfl]
  · show (if q = a then _ else _) = _
    rw [if_neg hq]
theorem bg_alen {a t m f} (hi : bk_ins j pc = some (.arraylength, nx, sw, c)) (ha : h a = some (.inl (t, m, f))) (ht : t < 3) (z : bk_g V d j B Q nx L (.int (nI m) :: r) h n cs) : bk_g V d j B Q pc L (.ref a :: r) h n cs := by
  refine bk_go_s (bk_wp_mono d) ?_
  unfold bk_s1
  rw [hi]
  exact Or.inl ⟨t, (m, f), ha, ht, z⟩
theorem bg_alen_s (hi : bk_ins j pc = some (.arraylength, nx, sw, c)) (z : bk_g V d j B Q nx L (.int (nI V.2.1) :: r) h n cs) : bk_g V d j B Q pc L (.ref V.1 :: r) h n cs := by
  refine bk_go_s (bk_wp_mono d) ?_
  unfold bk_s1
  rw [hi]
  exact Or.inr (Or.inl ⟨rfl, z⟩)
theorem bg_alen_w (hi : bk_ins j pc = some (.arraylength, nx, sw, c)) (z : bk_g V d j B Q nx L (.int 29 :: r) h n cs) : bk_g V d j B Q pc L (.ref V.2.2.2.1 :: r) h n cs := by
  refine bk_go_s (bk_wp_mono d) ?_
  unfold bk_s1
  rw [hi]
  exact Or.inr (Or.inr ⟨rfl, z⟩)
theorem bg_newarray_int {k N} (hi : bk_ins j pc = some (.newarray .int, nx, sw, c)) (hN : k.toNatClampNeg = N) (h0 : ¬ k < 0) (h1 : cs.1 + 1 ≤ B.1) (h2 : cs.2 + N ≤ B.2) (hM : N ≤ 65536) (z : ∀ h', h' n = some (.inl (0, N, .inl (fun _ => 0))) → (∀ q, q ≠ n → h' q = h q) → bk_g V d j B Q nx L (.ref n :: r) h' (n + 1) (cs.1 + 1, cs.2 + N)) : bk_g V d j B Q pc L (.int k :: r) h n cs := by
  refine bk_go_s (bk_wp_mono d) ?_
  unfold bk_s1
  rw [hi]
  refine ⟨N, hN, h0, h1, h2, hM, z _ ?_ fun q hq => ?_⟩
  · show (if n = n then _ else _) = _
    rw [if_pos rfl]
  · show (if q = n then _ else _) = _
    rw [if_neg hq]
theorem bg_newarray_long {k N} (hi : bk_ins j pc = some (.newarray .long, nx, sw, c)) (hN : k.toNatClampNeg = N) (h0 : ¬ k < 0) (h1 : cs.1 + 1 ≤ B.1) (h2 : cs.2 + N ≤ B.2) (hM : N ≤ 65536) (z : ∀ h', h' n = some (.inl (1, N, .inr (.inl (fun _ => 0)))) → (∀ q, q ≠ n → h' q = h q) → bk_g V d j B Q nx L (.ref n :: r) h' (n + 1) (cs.1 + 1, cs.2 + N)) : bk_g V d j B Q pc L (.int k :: r) h n cs := by
  refine bk_go_s (bk_wp_mono d) ?_
  unfold bk_s1
  rw [hi]
  refine ⟨N, hN, h0, h1, h2, hM, z _ ?_ fun q hq => ?_⟩
  · show (if n = n then _ else _) = _
    rw [if_pos rfl]
  · show (if q = n then _ else _) = _
    rw [if_neg hq]
theorem bg_newarray_byte {k N} (hi : bk_ins j pc = some (.newarray .byte, nx, sw, c)) (hN : k.toNatClampNeg = N) (h0 : ¬ k < 0) (h1 : cs.1 + 1 ≤ B.1) (h2 : cs.2 + N ≤ B.2) (hM : N ≤ 65536) (z : ∀ h', h' n = some (.inl (2, N, .inl (fun _ => 0))) → (∀ q, q ≠ n → h' q = h q) → bk_g V d j B Q nx L (.ref n :: r) h' (n + 1) (cs.1 + 1, cs.2 + N)) : bk_g V d j B Q pc L (.int k :: r) h n cs := by
  refine bk_go_s (bk_wp_mono d) ?_
  unfold bk_s1
  rw [hi]
  refine ⟨N, hN, h0, h1, h2, hM, z _ ?_ fun q hq => ?_⟩
  · show (if n = n then _ else _) = _
    rw [if_pos rfl]
  · show (if q = n then _ else _) = _
    rw [if_neg hq]
theorem bg_new {ix ci p fs} (hi : bk_ins j pc = some (.new ix, nx, sw, c)) (hw : bk_new (bk_own j) ix = some (.inl ci, p)) (hb : bk_blank ci = fs) (h1 : cs.1 + 1 ≤ B.1) (h2 : cs.2 + fs.length ≤ B.2) (z : ∀ h', h' n = some (.inr (ci, fs)) → (∀ q, q ≠ n → h' q = h q) → bk_g V d j B Q nx L (.ref n :: st) h' (n + 1) (cs.1 + 1, cs.2 + fs.length)) : bk_g V d j B Q pc L st h n cs := by
  refine bk_go_s (bk_wp_mono d) ?_
  unfold bk_s1
  rw [hi]
  simp only [hw]
  rw [hb]
  refine ⟨h1, h2, z _ ?_ fun q hq => ?_⟩
  · show (if n = n then _ else _) = _
    rw [if_pos rfl]
  · show (if q = n then _ else _) = _
    rw [if_neg hq]
theorem bg_throw {ix p E} (hi : bk_ins j pc = some (.new ix, nx, sw, c)) (hw : bk_new (bk_own j) ix = some (.inr E, p)) (hl : Nat.ble st.length 4 = true) (h1 : cs.1 + 1 ≤ B.1) (h2 : cs.2 + 6 ≤ B.2) (z : ∀ n', n ≤ n' → Q (.inr E) h n') : bk_g V d j B Q pc L st h n cs := by
  refine bk_go_s (bk_wp_mono d) ?_
  unfold bk_s1
  rw [hi]
  simp only [hw]
  rw [hl]
  exact ⟨h1, h2, z⟩
/-- behind a call without a new cell -/
abbrev bk_K0 (V : bk_V) (d j : Nat) (B : Nat × Nat) (Q : bk_R → bk_H → Nat → Prop) (nx : Nat) (L : bk_L) (r : List Value) (cs : Nat × Nat) : bk_R → bk_H → Nat → Prop := fun rr h n => ∃ v : Option Value, rr = .inl v ∧ bk_g V d j B Q nx L (v.toList ++ r) h n cs
theorem bk_K0_nx {V : bk_V} {d j : Nat} {B : Nat × Nat} {Q : bk_R → bk_H → Nat → Prop} {nx : Nat} {L : bk_L} {r : List Value} {cs : Nat × Nat} {rr : bk_R} {h : bk_H} {n : Nat} (z : bk_K0 V d j B Q nx L r cs rr h n) : bk_nx r (fun st h n => bk_g V d j B Q nx L st h n cs) rr h n := by
  obtain ⟨v, rfl, z⟩ := z
  exact z
theorem bk_clI {V : bk_V} {d j nx k : Nat} {B : Nat × Nat} {Q : bk_R → bk_H → Nat → Prop} {L : bk_L} {As r : List Value} {h : bk_H} {n : Nat} {cs : Nat × Nat} (hr : Nat.ble r.length 4 = true) (z : bk_wp V d k As h n (0, 0) (bk_K0 V d j B Q nx L r cs)) : bk_cl (bk_wp V d) k As r h n cs B (fun st h n cs => bk_g V d j B Q nx L st h n cs) := by
  unfold bk_cl
  rw [hr]
  exact Or.inl (bg_mono z fun _ _ _ q => bk_K0_nx q)
theorem bk_clB {V : bk_V} {d j nx k : Nat} {B b : Nat × Nat} {Q : bk_R → bk_H → Nat → Prop} {L : bk_L} {As r : List Value} {h : bk_H} {n : Nat} {cs : Nat × Nat} (hr : Nat.ble r.length 4 = true) (h1 : cs.1 + b.1 ≤ B.1) (h2 : cs.2 + b.2 ≤ B.2) (z : bk_wp V d k As h n b (bk_K0 V d j B Q nx L r (cs.1 + b.1, cs.2 + b.2))) : bk_cl (bk_wp V d) k As r h n cs B (fun st h n cs => bk_g V d j B Q nx L st h n cs) := by
  unfold bk_cl
  rw [hr]
  exact Or.inr ⟨b, h1, h2, bg_mono z fun _ _ _ q => bk_K0_nx q⟩
theorem bg_stat {ix k p m As} (hi : bk_ins j pc = some (.invokestatic ix, nx, sw, c)) (hk : bk_cal (bk_own j) ix = some (0, k, p)) (hn : bk_np k = m) (hm : Nat.ble m st.length = true) (hA : (st.take m).reverse = As) (hd : st.drop m = r) (hr : Nat.ble r.length 4 = true) (z : bk_wp V d k As h n (0, 0) (bk_K0 V d j B Q nx L r cs)) : bk_g V d j B Q pc L st h n cs := by
  refine bk_go_s (bk_wp_mono d) ?_
  unfold bk_s1
  rw [hi]
  simp only [hk]
  rw [hn, hm, hA, hd]
  exact bk_clI hr z
theorem bg_spec {ix k p m As q} (hi : bk_ins j pc = some (.invokespecial ix, nx, sw, c)) (hk : bk_cal (bk_own j) ix = some (0, k, p)) (hn : bk_np k = m) (hA : (st.take m).reverse = As) (hd : st.drop m = .ref q :: r) (hr : Nat.ble r.length 4 = true) (z : bk_wp V d k (.ref q :: As) h n (0, 0) (bk_K0 V d j B Q nx L r cs)) : bk_g V d j B Q pc L st h n cs := by
  refine bk_go_s (bk_wp_mono d) ?_
  unfold bk_s1
  rw [hi]
  simp only [hk]
  rw [hn, hA, hd]
  exact bk_clI hr z
theorem bg_virt {ix k p m As q} (hi : bk_ins j pc = some (.invokevirtual ix, nx, sw, c)) (hk : bk_cal (bk_own j) ix = some (0, k, p)) (hn : bk_np k = m) (hA : (st.take m).reverse = As) (hd : st.drop m = .ref q :: r) (hr : Nat.ble r.length 4 = true) (ho : ∃ fs : List Value, h q = some (.inr (bk_own k, fs))) (z : bk_wp V d k (.ref q :: As) h n (0, 0) (bk_K0 V d j B Q nx L r cs)) : bk_g V d j B Q pc L st h n cs := by
  refine bk_go_s (bk_wp_mono d) ?_
  unfold bk_s1
  rw [hi]
  simp only [hk]
  rw [hn, hA, hd]
  exact ⟨ho, bk_clI hr z⟩
theorem bg_statB {ix k p m As} {b : Nat × Nat} (hi : bk_ins j pc = some (.invokestatic ix, nx, sw, c)) (hk : bk_cal (bk_own j) ix = some (0, k, p)) (hn : bk_np k = m) (hm : Nat.ble m st.length = true) (hA : (st.take m).reverse = As) (hd : st.drop m = r) (hr : Nat.ble r.length 4 = true) (hb1 : cs.1 + b.1 ≤ B.1) (hb2 : cs.2 + b.2 ≤ B.2) (z : bk_wp V d k As h n b (bk_K0 V d j B Q nx L r (cs.1 + b.1, cs.2 + b.2))) : bk_g V d j B Q pc L st h n cs := by
  refine bk_go_s (bk_wp_mono d) ?_
  unfold bk_s1
  rw [hi]
  simp only [hk]
  rw [hn, hm, hA, hd]
  exact bk_clB hr hb1 hb2 z
theorem bg_specB {ix k p m As q} {b : Nat × Nat} (hi : bk_ins j pc = some (.invokespecial ix, nx, sw, c)) (hk : bk_cal (bk_own j) ix = some (0, k, p)) (hn : bk_np k = m) (hA : (st.take m).reverse = As) (hd : st.drop m = .ref q :: r) (hr : Nat.ble r.length 4 = true) (hb1 : cs.1 + b.1 ≤ B.1) (hb2 : cs.2 + b.2 ≤ B.2) (z : bk_wp V d k (.ref q :: As) h n b (bk_K0 V d j B Q nx L r (cs.1 + b.1, cs.2 + b.2))) : bk_g V d j B Q pc L st h n cs := by
  refine bk_go_s (bk_wp_mono d) ?_
  unfold bk_s1
  rw [hi]
  simp only [hk]
  rw [hn, hA, hd]
  exact bk_clB hr hb1 hb2 z
theorem bg_virtB {ix k p m As q} {b : Nat × Nat} (hi : bk_ins j pc = some (.invokevirtual ix, nx, sw, c)) (hk : bk_cal (bk_own j) ix = some (0, k, p)) (hn : bk_np k = m) (hA : (st.take m).reverse = As) (hd : st.drop m = .ref q :: r) (hr : Nat.ble r.length 4 = true) (ho : ∃ fs : List Value, h q = some (.inr (bk_own k, fs))) (hb1 : cs.1 + b.1 ≤ B.1) (hb2 : cs.2 + b.2 ≤ B.2) (z : bk_wp V d k (.ref q :: As) h n b (bk_K0 V d j B Q nx L r (cs.1 + b.1, cs.2 + b.2))) : bk_g V d j B Q pc L st h n cs := by
  refine bk_go_s (bk_wp_mono d) ?_
  unfold bk_s1
  rw [hi]
  simp only [hk]
  rw [hn, hA, hd]
  exact ⟨ho, bk_clB hr hb1 hb2 z⟩
theorem bg_max {ix k p x y} (hi : bk_ins j pc = some (.invokestatic ix, nx, sw, c)) (hk : bk_cal (bk_own j) ix = some (1, k, p)) (hr : Nat.ble r.length 4 = true) (z : bk_g V d j B Q nx L (.int (if x < y then y else x) :: r) h n cs) : bk_g V d j B Q pc L (.int y :: .int x :: r) h n cs := by
  refine bk_go_s (bk_wp_mono d) ?_
  unfold bk_s1
  rw [hi]
  simp only [hk]
  show bk_gd _ _
  rw [hr]
  exact z
theorem bg_min {ix k p x y} (hi : bk_ins j pc = some (.invokestatic ix, nx, sw, c)) (hk : bk_cal (bk_own j) ix = some (2, k, p)) (hr : Nat.ble r.length 4 = true) (z : bk_g V d j B Q nx L (.int (if x ≤ y then x else y) :: r) h n cs) : bk_g V d j B Q pc L (.int y :: .int x :: r) h n cs := by
  refine bk_go_s (bk_wp_mono d) ?_
  unfold bk_s1
  rw [hi]
  simp only [hk]
  show bk_gd _ _
  rw [hr]
  exact z
theorem bg_acopy {ix k p z dp sp a b m1 m2 f g} (hi : bk_ins j pc = some (.invokestatic ix, nx, sw, c)) (hk : bk_cal (bk_own j) ix = some (3, k, p)) (hr : Nat.ble r.length 4 = true) (ha : h a = some (.inl (0, m1, .inl f))) (hb : h b = some (.inl (0, m2, .inl g))) (hn : ¬ a = b) (h1 : ¬ sp < 0) (h2 : ¬ dp < 0) (h3 : ¬ z < 0) (h4 : sp.toNatClampNeg + z.toNatClampNeg ≤ m1) (h5 : dp.toNatClampNeg + z.toNatClampNeg ≤ m2) (zz : ∀ h', h' b = some (.inl (0, m2, .inl (va_cpy f g sp.toNatClampNeg dp.toNatClampNeg z.toNatClampNeg))) → (∀ q, q ≠ b → h' q = h q) → bk_g V d j B Q nx L r h' n cs) : bk_g V d j B Q pc L (.int z :: .int dp :: .ref b :: .int sp :: .ref a :: r) h n cs := by
  refine bk_go_s (bk_wp_mono d) ?_
  unfold bk_s1
  rw [hi]
  simp only [hk]
  show bk_gd _ _
  rw [hr]
  refine ⟨m1, m2, f, g, ha, hb, hn, h1, h2, h3, h4, h5, zz _ ?_ fun q hq => ?_⟩
  · show (if b = b then _ else _) = _
    rw [if_pos rfl]
  · show (if q = b then _ else _) = _
    rw [if_neg hq]
theorem bg_objinit {ix k p a} (hi : bk_ins j pc = some (.invokespecial ix, nx, sw, c)) (hk : bk_cal (bk_own j) ix = some (4, k, p)) (hr : Nat.ble r.length 4 = true) (z : bk_g V d j B Q nx L r h n cs) : bk_g V d j B Q pc L (.ref a :: r) h n cs := by
  refine bk_go_s (bk_wp_mono d) ?_
  unfold bk_s1
  rw [hi]
  simp only [hk]
  show bk_gd _ _
  rw [hr]
  exact z
theorem bg_try {ix k p m As q} {b : Nat × Nat} (hi : bk_ins j pc = some (.invokevirtual ix, nx, sw, c)) (hk : bk_cal (bk_own j) ix = some (5, k, p)) (hn : bk_np k = m) (hA : (st.take m).reverse = As) (hd : st.drop m = .ref q :: r) (hr : Nat.ble r.length 4 = true) (ho : ∃ fs : List Value, h q = some (.inr (bk_own k, fs))) (hb1 : cs.1 + b.1 ≤ B.1) (hb2 : cs.2 + b.2 ≤ B.2) (z : bk_wp V d k (.ref q :: As) h n b (fun rr h n => (∃ v : Option Value, rr = .inl v ∧ bk_g V d j B Q nx L (v.toList ++ r) h n (cs.1 + b.1, cs.2 + b.2)) ∨ (∃ E t, rr = .inr E ∧ bk_hdl j E = some t ∧ Nat.blt t.2.2 L.length = true ∧ bk_g V d j B Q t.2.1 ((bk_st L t.2.2 .null).set t.2.2 none) [] h n (cs.1 + b.1, cs.2 + b.2)))) : bk_g V d j B Q pc L st h n cs := by
  refine bk_go_s (bk_wp_mono d) ?_
  unfold bk_s1
  rw [hi]
  simp only [hk]
  rw [hn, hA, hd]
  refine ⟨ho, ?_⟩
  show bk_gd _ _
  rw [hr]
  refine ⟨b, hb1, hb2, bg_mono z fun rr h n w => ?_⟩
  rcases w with ⟨v, rfl, w⟩ | ⟨E, t, rfl, w1, w2, w3⟩
  · exact w
  · show (match bk_hdl j E with | some t => bk_gd (Nat.blt t.2.2 L.length) _ | none => False)
    rw [w1]
    show bk_gd _ _
    rw [w2]
    exact w3
theorem bg_strlen {ix k0 k p a} (hi : bk_ins j pc = some (.invokevirtual ix, nx, sw, c)) (hk : bk_cal (bk_own j) ix = some (6, k0, p)) (hr : Nat.ble r.length 4 = true) (hs : k < bk_nS) (ha : a = V.2.2.2.2 k) (z : bk_g V d j B Q nx L (.int (Int32.ofNat (bk_sB k).length) :: r) h n cs) : bk_g V d j B Q pc L (.ref a :: r) h n cs := by
  refine bk_go_s (bk_wp_mono d) ?_
  unfold bk_s1
  rw [hi]
  simp only [hk]
  show bk_gd _ _
  rw [hr]
  exact ⟨k, hs, ha, z⟩
theorem bg_charat {ix k0 k p a i} (hi : bk_ins j pc = some (.invokevirtual ix, nx, sw, c)) (hk : bk_cal (bk_own j) ix = some (7, k0, p)) (hr : Nat.ble r.length 4 = true) (hs : k < bk_nS) (ha : a = V.2.2.2.2 k) (hv : vp_in i (bk_sB k).length) (z : bk_g V d j B Q nx L (.int ((bk_sB k).getD i.toNatClampNeg 0) :: r) h n cs) : bk_g V d j B Q pc L (.int i :: .ref a :: r) h n cs := by
  refine bk_go_s (bk_wp_mono d) ?_
  unfold bk_s1
  rw [hi]
  simp only [hk]
  show bk_gd _ _
  rw [hr]
  exact ⟨k, hs, ha, hv, z⟩
theorem bg_indexof {ix k0 k p a x} (hi : bk_ins j pc = some (.invokevirtual ix, nx, sw, c)) (hk : bk_cal (bk_own j) ix = some (8, k0, p)) (hr : Nat.ble r.length 4 = true) (hs : k < bk_nS) (ha : a = V.2.2.2.2 k) (z : bk_g V d j B Q nx L (.int (bk_ix (bk_sB k) x 0) :: r) h n cs) : bk_g V d j B Q pc L (.int x :: .ref a :: r) h n cs := by
  refine bk_go_s (bk_wp_mono d) ?_
  unfold bk_s1
  rw [hi]
  simp only [hk]
  show bk_gd _ _
  rw [hr]
  exact ⟨k, hs, ha, z⟩
theorem bg_iret {v t} (hi : bk_ins j pc = some (.ireturn, nx, sw, c)) (ht : bk_ret j = some t) (hv : narrow t (.int v) = .int v) (z : Q (.inl (some (.int v))) h n) : bk_g V d j B Q pc L [.int v] h n cs := by
  refine bk_go_s (bk_wp_mono d) ?_
  unfold bk_s1
  rw [hi]
  simp only [ht]
  exact ⟨hv, z⟩
theorem bg_lret {v} (hi : bk_ins j pc = some (.lreturn, nx, sw, c)) (ht : bk_ret j = some .long) (z : Q (.inl (some (.long v))) h n) : bk_g V d j B Q pc L [.long v] h n cs := by
  refine bk_go_s (bk_wp_mono d) ?_
  unfold bk_s1
  rw [hi]
  exact ⟨ht, z⟩
theorem bg_dret {v} (hi : bk_ins j pc = some (.dreturn, nx, sw, c)) (ht : bk_ret j = some .double) (z : Q (.inl (some (.double v))) h n) : bk_g V d j B Q pc L [.double v] h n cs := by
  refine bk_go_s (bk_wp_mono d) ?_
  unfold bk_s1
  rw [hi]
  exact ⟨ht, z⟩
theorem bg_ret (hi : bk_ins j pc = some (.return_, nx, sw, c)) (ht : bk_ret j = none) (z : Q (.inl none) h n) : bk_g V d j B Q pc L [] h n cs := by
  refine bk_go_s (bk_wp_mono d) ?_
  unfold bk_s1
  rw [hi]
  exact ⟨ht, z⟩
end BG
