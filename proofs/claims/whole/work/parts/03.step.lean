/-! THE INTERPRETER: a weakest precondition over an abstract heap, for the methods that the tables list. -/
abbrev bk_E : Type := (Nat × vp_A) ⊕ (Nat × List Value)
abbrev bk_H : Type := Nat → Option bk_E
abbrev bk_R : Type := Option Value ⊕ String
abbrev bk_L : Type := List (Option Value)
/-- what lies outside the abstract heap: the script's cell, its length, its ints; the cell of WORDS; the cells of the literals -/
abbrev bk_V : Type := Nat × Nat × (Nat → Int32) × Nat × (Nat → Nat)
/-- a caller's view of a method: number, arguments, heap, next address, budget, what holds behind it -/
abbrev bk_P : Type := Nat → List Value → bk_H → Nat → Nat × Nat → (bk_R → bk_H → Nat → Prop) → Prop
def bk_up (h : bk_H) (a : Nat) (e : bk_E) : bk_H := fun b => if b = a then some e else h b
/-- storing a value of one slot, of two -/
def bk_kl (L : bk_L) (k : Nat) : bk_L :=
  match k with
  | 0 => L
  | j + 1 => match L[j]? with
    | some (some w) => if w.category = 2 then L.set j none else L
    | _ => L
def bk_st (L : bk_L) (k : Nat) (v : Value) : bk_L := (bk_kl L k).set k (some v)
def bk_st2 (L : bk_L) (k : Nat) (v : Value) : bk_L := (bk_st L k v).set (k + 1) none
def bk_arg : List Value → bk_L
  | [] => []
  | v :: r => some v :: (if v.category = 2 then none :: bk_arg r else bk_arg r)
def bk_ent (n : Nat) (as : List Value) : bk_L := bk_arg as ++ List.replicate (n - (bk_arg as).length) none
def bk_sw (x : Int32) (K : Nat → Prop) (d : Nat) : List (Int32 × Nat) → Prop
  | [] => K d
  | q :: r => (x = q.1 → K q.2) ∧ (¬ x = q.1 → bk_sw x K d r)
def bk_x1 (st : List Value) (f : Int32 → List Value → Prop) : Prop := match st with
  | .int x :: r => f x r
  | _ => False
def bk_x2 (st : List Value) (f : Int32 → Int32 → List Value → Prop) : Prop := match st with
  | .int y :: .int x :: r => f x y r
  | _ => False
def bk_xl (st : List Value) (f : Int64 → Int64 → List Value → Prop) : Prop := match st with
  | .long y :: .long x :: r => f x y r
  | _ => False
def bk_xd (st : List Value) (f : UInt64 → UInt64 → List Value → Prop) : Prop := match st with
  | .double y :: .double x :: r => f x y r
  | _ => False
def bk_ldi (L : bk_L) (k : Nat) (f : Int32 → Prop) : Prop := match L[k]? with
  | some (some (.int x)) => f x
  | _ => False
def bk_ldl (L : bk_L) (k : Nat) (f : Int64 → Prop) : Prop := match L[k]? with
  | some (some (.long x)) => f x
  | _ => False
def bk_ldd (L : bk_L) (k : Nat) (f : UInt64 → Prop) : Prop := match L[k]? with
  | some (some (.double x)) => f x
  | _ => False
def bk_lda (L : bk_L) (k : Nat) (f : Nat → Prop) : Prop := match L[k]? with
  | some (some (.ref x)) => f x
  | _ => False
def bk_gd (b : Bool) (P : Prop) : Prop := match b with
  | true => P
  | false => False
/-- what a call goes on with, where the callee doesn't throw -/
def bk_nx (rest : List Value) (K : List Value → bk_H → Nat → Prop) : bk_R → bk_H → Nat → Prop := fun r h n => match r with
  | .inl v => K (v.toList ++ rest) h n
  | .inr _ => False
/-- the call itself: without a new cell, or with a budget of its own -/
def bk_cl (C : bk_P) (j : Nat) (As rest : List Value) (h : bk_H) (n : Nat) (cs B : Nat × Nat) (K : List Value → bk_H → Nat → Nat × Nat → Prop) : Prop :=
  bk_gd (Nat.ble rest.length 4) (C j As h n (0, 0) (bk_nx rest (fun st h n => K st h n cs)) ∨
    ∃ b : Nat × Nat, cs.1 + b.1 ≤ B.1 ∧ cs.2 + b.2 ≤ B.2 ∧ C j As h n b (bk_nx rest (fun st h n => K st h n (cs.1 + b.1, cs.2 + b.2))))
/-- a call with a receiver: the class of its cell -/
def bk_rv (ci : Nat) (h : bk_H) (b : Nat) (P : Prop) : Prop := (∃ fs : List Value, h b = some (.inr (ci, fs))) ∧ P
/-- one step of the method j. K: from the next place on. -/
def bk_s1 (V : bk_V) (C : bk_P) (j pc : Nat) (L : bk_L) (st : List Value) (h : bk_H) (n : Nat) (cs B : Nat × Nat) (Q : bk_R → bk_H → Nat → Prop)
    (K : Nat → bk_L → List Value → bk_H → Nat → Nat × Nat → Prop) : Prop :=
  match bk_ins j pc with
  | none => False
  | some (I, nx, sw, c) =>
    match I with
    | .iconst _ => K nx L (.int c :: st) h n cs
    | .bipush _ => K nx L (.int c :: st) h n cs
    | .sipush _ => K nx L (.int c :: st) h n cs
    | .lconst k => K nx L (.long (Int64.ofNat (k : Nat)) :: st) h n cs
    | .dconst k => bk_gd (Nat.beq (k : Nat) 0) (K nx L (.double FP.dconst0 :: st) h n cs)
    | .iload_n k => bk_ldi L k (fun x => K nx L (.int x :: st) h n cs)
    | .iload k => bk_ldi L k (fun x => K nx L (.int x :: st) h n cs)
    | .lload_n k => bk_ldl L k (fun x => K nx L (.long x :: st) h n cs)
    | .lload k => bk_ldl L k (fun x => K nx L (.long x :: st) h n cs)
    | .dload_n k => bk_ldd L k (fun x => K nx L (.double x :: st) h n cs)
    | .dload k => bk_ldd L k (fun x => K nx L (.double x :: st) h n cs)
    | .aload_n k => bk_lda L k (fun x => K nx L (.ref x :: st) h n cs)
    | .aload k => bk_lda L k (fun x => K nx L (.ref x :: st) h n cs)
    | .istore_n k => bk_x1 st (fun x r => bk_gd (Nat.blt k L.length) (K nx (bk_st L k (.int x)) r h n cs))
    | .istore k => bk_x1 st (fun x r => bk_gd (Nat.blt k L.length) (K nx (bk_st L k (.int x)) r h n cs))
    | .lstore_n k => match st with
      | .long x :: r => bk_gd (Nat.blt (k + 1) L.length) (K nx (bk_st2 L k (.long x)) r h n cs)
      | _ => False
    | .lstore k => match st with
      | .long x :: r => bk_gd (Nat.blt (k + 1) L.length) (K nx (bk_st2 L k (.long x)) r h n cs)
      | _ => False
    | .dstore k => match st with
      | .double x :: r => bk_gd (Nat.blt (k + 1) L.length) (K nx (bk_st2 L k (.double x)) r h n cs)
      | _ => False
    | .astore_n k => match st with
      | .ref x :: r => bk_gd (Nat.blt k L.length) (K nx (bk_st L k (.ref x)) r h n cs)
      | _ => False
    | .astore k => match st with
      | .ref x :: r => bk_gd (Nat.blt k L.length) (K nx (bk_st L k (.ref x)) r h n cs)
      | _ => False
    | .iinc k _ => bk_ldi L k (fun x => bk_gd (Nat.blt k L.length) (K nx (bk_st L k (.int (x + c))) st h n cs))
    | .iadd => bk_x2 st (fun x y r => K nx L (.int (x + y) :: r) h n cs)
    | .isub => bk_x2 st (fun x y r => K nx L (.int (x - y) :: r) h n cs)
    | .imul => bk_x2 st (fun x y r => K nx L (.int (x * y) :: r) h n cs)
    | .iand => bk_x2 st (fun x y r => K nx L (.int (x &&& y) :: r) h n cs)
    | .ior => bk_x2 st (fun x y r => K nx L (.int (x ||| y) :: r) h n cs)
    | .ishr => bk_x2 st (fun x y r => K nx L (.int (x >>> (y &&& 31)) :: r) h n cs)
    | .iushr => bk_x2 st (fun x y r => K nx L (.int ((x.toUInt32 >>> (y.toUInt32 &&& Int32.toUInt32 31)).toInt32) :: r) h n cs)
    | .idiv => bk_x2 st (fun x y r => (¬ y = 0) ∧ K nx L (.int (x / y) :: r) h n cs)
    | .irem => bk_x2 st (fun x y r => (¬ y = 0) ∧ K nx L (.int (x - x / y * y) :: r) h n cs)
    | .ineg => bk_x1 st (fun x r => K nx L (.int (-x) :: r) h n cs)
    | .i2l => bk_x1 st (fun x r => K nx L (.long x.toInt64 :: r) h n cs)
    | .i2c => bk_x1 st (fun x r => K nx L (.int (x.toUInt32 % 65536).toInt32 :: r) h n cs)
    | .i2b => bk_x1 st (fun x r => K nx L (.int x.toInt8.toInt32 :: r) h n cs)
    | .i2d => bk_x1 st (fun x r => K nx L (.double (FP.i2d x) :: r) h n cs)
    | .ladd => bk_xl st (fun x y r => K nx L (.long (x + y) :: r) h n cs)
    | .lmul => bk_xl st (fun x y r => K nx L (.long (x * y) :: r) h n cs)
    | .lcmp => bk_xl st (fun x y r => K nx L (.int (lg_cmp x y) :: r) h n cs)
    | .ddiv => bk_xd st (fun x y r => vf_n64 (FP.ddiv x y) ∧ K nx L (.double (FP.ddiv x y) :: r) h n cs)
    | .dcmp op => bk_xd st (fun x y r => K nx L (.int (Op.cmpValue (FP.dcmp x y) op) :: r) h n cs)
    | .dup => match st with
      | v :: r => bk_gd (Nat.beq v.category 1) (K nx L (v :: v :: r) h n cs)
      | _ => False
    | .dup2 => match st with
      | v :: w :: r => bk_gd (Nat.beq v.category 1) (bk_gd (Nat.beq w.category 1) (K nx L (v :: w :: v :: w :: r) h n cs))
      | _ => False
    | .goto _ => match sw with
      | q :: _ => K q.2 L st h n cs
      | _ => False
    | .ifCond o _ => match sw with
      | q :: _ => bk_x1 st (fun x r => match o with
        | .eq => (x = 0 → K q.2 L r h n cs) ∧ (¬ x = 0 → K nx L r h n cs)
        | .ne => (¬ x = 0 → K q.2 L r h n cs) ∧ (x = 0 → K nx L r h n cs)
        | .lt => (x < 0 → K q.2 L r h n cs) ∧ (¬ x < 0 → K nx L r h n cs)
        | .ge => (¬ x < 0 → K q.2 L r h n cs) ∧ (x < 0 → K nx L r h n cs)
        | .gt => (0 < x → K q.2 L r h n cs) ∧ (¬ 0 < x → K nx L r h n cs)
        | .le => (¬ 0 < x → K q.2 L r h n cs) ∧ (0 < x → K nx L r h n cs))
      | _ => False
    | .if_icmp o _ => match sw with
      | q :: _ => bk_x2 st (fun x y r => match o with
        | .eq => (x = y → K q.2 L r h n cs) ∧ (¬ x = y → K nx L r h n cs)
        | .ne => (¬ x = y → K q.2 L r h n cs) ∧ (x = y → K nx L r h n cs)
        | .lt => (x < y → K q.2 L r h n cs) ∧ (¬ x < y → K nx L r h n cs)
        | .ge => (¬ x < y → K q.2 L r h n cs) ∧ (x < y → K nx L r h n cs)
        | .gt => (y < x → K q.2 L r h n cs) ∧ (¬ y < x → K nx L r h n cs)
        | .le => (¬ y < x → K q.2 L r h n cs) ∧ (y < x → K nx L r h n cs))
      | _ => False
    | .tableswitch _ _ _ _ => bk_x1 st (fun x r => bk_sw x (fun t => K t L r h n cs) nx sw)
    | .lookupswitch _ _ => bk_x1 st (fun x r => bk_sw x (fun t => K t L r h n cs) nx sw)
    | .getfield ix => match st with
      | .ref a :: r => match bk_fld (bk_own j) ix with
        | some (ci, k, _) => ∃ (fs : List Value) (v : Value), h a = some (.inr (ci, fs)) ∧ fs[k]? = some v ∧ K nx L (v :: r) h n cs
        | none => False
      | _ => False
    | .putfield ix => match st with
      | v :: .ref a :: r => match bk_fld (bk_own j) ix with
        | some (ci, k, _) => ∃ fs : List Value, h a = some (.inr (ci, fs)) ∧ k < fs.length ∧ (narrow (bk_fty ci k) v = v ∧ fits (bk_fty ci k) v = true) ∧ K nx L r (bk_up h a (.inr (ci, fs.set k v))) n cs
        | none => False
      | _ => False
    | .getstatic _ => K nx L (.ref V.2.2.2.1 :: st) h n cs
    | .ldc ix => match bk_str (bk_own j) ix with
      | some (k, _) => K nx L (.ref (V.2.2.2.2 k) :: st) h n cs
      | none => False
    | .ldc2_w ix => match bk_lng (bk_own j) ix with
      | some (v, _) => K nx L (.long v :: st) h n cs
      | none => False
    | .iaload => match st with
      | .int i :: .ref a :: r => (∃ (m : Nat) (f : Nat → Int32), h a = some (.inl (0, m, .inl f)) ∧ vp_in i m ∧ K nx L (.int (f i.toNatClampNeg) :: r) h n cs) ∨
          (a = V.1 ∧ vp_in i V.2.1 ∧ K nx L (.int (V.2.2.1 i.toNatClampNeg) :: r) h n cs)
      | _ => False
    | .baload => match st with
      | .int i :: .ref a :: r => ∃ (m : Nat) (f : Nat → Int32), h a = some (.inl (2, m, .inl f)) ∧ vp_in i m ∧ K nx L (.int (f i.toNatClampNeg) :: r) h n cs
      | _ => False
    | .laload => match st with
      | .int i :: .ref a :: r => ∃ (m : Nat) (f : Nat → Int64), h a = some (.inl (1, m, .inr (.inl f))) ∧ vp_in i m ∧ K nx L (.long (f i.toNatClampNeg) :: r) h n cs
      | _ => False
    | .aaload => match st with
      | .int i :: .ref a :: r => a = V.2.2.2.1 ∧ vp_in i 29 ∧ K nx L (.ref (V.2.2.2.2 (bk_wd i.toNatClampNeg)) :: r) h n cs
      | _ => False
    | .iastore => match st with
      | .int x :: .int i :: .ref a :: r => ∃ (m : Nat) (f : Nat → Int32), h a = some (.inl (0, m, .inl f)) ∧ vp_in i m ∧ K nx L r (bk_up h a (.inl (0, m, .inl (upd f i.toNatClampNeg x)))) n cs
      | _ => False
    | .bastore => match st with
      | .int x :: .int i :: .ref a :: r => ∃ (m : Nat) (f : Nat → Int32), h a = some (.inl (2, m, .inl f)) ∧ vp_in i m ∧ fits .byte (.int x) = true ∧ K nx L r (bk_up h a (.inl (2, m, .inl (upd f i.toNatClampNeg x)))) n cs
      | _ => False
    | .lastore => match st with
      | .long x :: .int i :: .ref a :: r => ∃ (m : Nat) (f : Nat → Int64), h a = some (.inl (1, m, .inr (.inl f))) ∧ vp_in i m ∧ K nx L r (bk_up h a (.inl (1, m, .inr (.inl (vp_updL f i.toNatClampNeg x))))) n cs
      | _ => False
    | .arraylength => match st with
      | .ref a :: r => (∃ (t : Nat) (x : vp_A), h a = some (.inl (t, x)) ∧ t < 3 ∧ K nx L (.int (Int32.ofNat x.1) :: r) h n cs) ∨
          (a = V.1 ∧ K nx L (.int (Int32.ofNat V.2.1) :: r) h n cs) ∨ (a = V.2.2.2.1 ∧ K nx L (.int 29 :: r) h n cs)
      | _ => False
    | .newarray t => match st with
      | .int k :: r => ∃ N : Nat, k.toNatClampNeg = N ∧ ¬ k < 0 ∧ cs.1 + 1 ≤ B.1 ∧ cs.2 + N ≤ B.2 ∧ N ≤ 65536 ∧ (match t with
        | .int => K nx L (.ref n :: r) (bk_up h n (.inl (0, N, .inl (fun _ => 0)))) (n + 1) (cs.1 + 1, cs.2 + N)
        | .long => K nx L (.ref n :: r) (bk_up h n (.inl (1, N, .inr (.inl (fun _ => 0))))) (n + 1) (cs.1 + 1, cs.2 + N)
        | .byte => K nx L (.ref n :: r) (bk_up h n (.inl (2, N, .inl (fun _ => 0)))) (n + 1) (cs.1 + 1, cs.2 + N)
        | _ => False)
      | _ => False
    | .new ix => match bk_new (bk_own j) ix with
      | some (.inl ci, _) => cs.1 + 1 ≤ B.1 ∧ cs.2 + (bk_blank ci).length ≤ B.2 ∧ K nx L (.ref n :: st) (bk_up h n (.inr (ci, bk_blank ci))) (n + 1) (cs.1 + 1, cs.2 + (bk_blank ci).length)
      | some (.inr E, _) => bk_gd (Nat.ble st.length 4) (cs.1 + 1 ≤ B.1 ∧ cs.2 + 6 ≤ B.2 ∧ ∀ n' : Nat, n ≤ n' → Q (.inr E) h n')
      | none => False
    | .invokestatic ix => match bk_cal (bk_own j) ix with
      | some (0, k, _) => bk_gd (Nat.ble (bk_np k) st.length) (bk_cl C k (st.take (bk_np k)).reverse (st.drop (bk_np k)) h n cs B (fun st h n cs => K nx L st h n cs))
      | some (1, _, _) => bk_x2 st (fun x y r => bk_gd (Nat.ble r.length 4) (K nx L (.int (if x < y then y else x) :: r) h n cs))
      | some (2, _, _) => bk_x2 st (fun x y r => bk_gd (Nat.ble r.length 4) (K nx L (.int (if x ≤ y then x else y) :: r) h n cs))
      | some (3, _, _) => match st with
        | .int z :: .int dp :: .ref b :: .int sp :: .ref a :: r => bk_gd (Nat.ble r.length 4) (∃ (m1 m2 : Nat) (f g : Nat → Int32), h a = some (.inl (0, m1, .inl f)) ∧ h b = some (.inl (0, m2, .inl g)) ∧ ¬ a = b ∧ ¬ sp < 0 ∧ ¬ dp < 0 ∧ ¬ z < 0 ∧
            sp.toNatClampNeg + z.toNatClampNeg ≤ m1 ∧ dp.toNatClampNeg + z.toNatClampNeg ≤ m2 ∧ K nx L r (bk_up h b (.inl (0, m2, .inl (va_cpy f g sp.toNatClampNeg dp.toNatClampNeg z.toNatClampNeg)))) n cs)
        | _ => False
      | _ => False
    | .invokespecial ix => match bk_cal (bk_own j) ix with
      | some (0, k, _) => match st.drop (bk_np k) with
        | .ref b :: r => bk_cl C k (.ref b :: (st.take (bk_np k)).reverse) r h n cs B (fun st h n cs => K nx L st h n cs)
        | _ => False
      | some (4, _, _) => match st with
        | .ref _ :: r => bk_gd (Nat.ble r.length 4) (K nx L r h n cs)
        | _ => False
      | _ => False
    | .invokevirtual ix => match bk_cal (bk_own j) ix with
      | some (0, k, _) => match st.drop (bk_np k) with
        | .ref b :: r => bk_rv (bk_own k) h b (bk_cl C k (.ref b :: (st.take (bk_np k)).reverse) r h n cs B (fun st h n cs => K nx L st h n cs))
        | _ => False
      | some (5, k, _) => match st.drop (bk_np k) with
        | .ref b :: r => bk_rv (bk_own k) h b (bk_gd (Nat.ble r.length 4) (∃ b' : Nat × Nat, cs.1 + b'.1 ≤ B.1 ∧ cs.2 + b'.2 ≤ B.2 ∧ C k (.ref b :: (st.take (bk_np k)).reverse) h n b' (fun rr h n => match rr with
          | .inl v => K nx L (v.toList ++ r) h n (cs.1 + b'.1, cs.2 + b'.2)
          | .inr E => match bk_hdl j E with
            | some t => bk_gd (Nat.blt t.2.2 L.length) (K t.2.1 ((bk_st L t.2.2 .null).set t.2.2 none) [] h n (cs.1 + b'.1, cs.2 + b'.2))
            | none => False)))
        | _ => False
      | some (6, _, _) => match st with
        | .ref a :: r => bk_gd (Nat.ble r.length 4) (∃ k : Nat, k < bk_nS ∧ a = V.2.2.2.2 k ∧ K nx L (.int (Int32.ofNat (bk_sB k).length) :: r) h n cs)
        | _ => False
      | some (7, _, _) => match st with
        | .int i :: .ref a :: r => bk_gd (Nat.ble r.length 4) (∃ k : Nat, k < bk_nS ∧ a = V.2.2.2.2 k ∧ vp_in i (bk_sB k).length ∧ K nx L (.int ((bk_sB k).getD i.toNatClampNeg 0) :: r) h n cs)
        | _ => False
      | some (8, _, _) => match st with
        | .int c :: .ref a :: r => bk_gd (Nat.ble r.length 4) (∃ k : Nat, k < bk_nS ∧ a = V.2.2.2.2 k ∧ K nx L (.int (bk_ix (bk_sB k) c 0) :: r) h n cs)
        | _ => False
      | _ => False
    | .ireturn => match st with
      | [.int v] => (match bk_ret j with
        | some t => narrow t (.int v) = .int v
        | none => False) ∧ Q (.inl (some (.int v))) h n
      | _ => False
    | .lreturn => match st with
      | [.long v] => bk_ret j = some .long ∧ Q (.inl (some (.long v))) h n
      | _ => False
    | .dreturn => match st with
      | [.double v] => bk_ret j = some .double ∧ Q (.inl (some (.double v))) h n
      | _ => False
    | .return_ => match st with
      | [] => bk_ret j = none ∧ Q (.inl none) h n
      | _ => False
    | _ => False
/-- what a method's body comes to, from a place on: the least predicate that its steps close -/
def bk_go (V : bk_V) (C : bk_P) (j : Nat) (B : Nat × Nat) (Q : bk_R → bk_H → Nat → Prop) (pc : Nat) (L : bk_L) (st : List Value) (h : bk_H) (n : Nat) (cs : Nat × Nat) : Prop :=
  ∀ X : Nat → bk_L → List Value → bk_H → Nat → Nat × Nat → Prop, (∀ pc L st h n cs, bk_s1 V C j pc L st h n cs B Q X → X pc L st h n cs) → X pc L st h n cs
/-- a method, with calls at most d deep -/
def bk_wp (V : bk_V) : Nat → bk_P
  | 0, _, _, _, _, _, _ => False
  | d + 1, j, As, h, n, B, Q => bk_gd (Nat.ble (bk_arg As).length (bk_max j)) (bk_go V (bk_wp V d) j B Q 0 (bk_ent (bk_max j) As) [] h n (0, 0))
def bk_mono (C : bk_P) : Prop := ∀ (j : Nat) (As : List Value) (h : bk_H) (n : Nat) (B : Nat × Nat) (Q Q' : bk_R → bk_H → Nat → Prop), (∀ r h n, Q r h n → Q' r h n) → C j As h n B Q → C j As h n B Q'
theorem bk_sw_mono {x : Int32} {K K' : Nat → Prop} (hK : ∀ t, K t → K' t) {d : Nat} : ∀ {sw : List (Int32 × Nat)}, bk_sw x K d sw → bk_sw x K' d sw := by
  intro sw
  induction sw with
  | nil => exact hK d
  | cons q r ih => exact fun h => ⟨fun e => hK _ (h.1 e), fun e => ih (h.2 e)⟩
theorem bk_x1_mono {st : List Value} {f g : Int32 → List Value → Prop} (hf : ∀ x r, f x r → g x r) (h : bk_x1 st f) : bk_x1 st g := by
  unfold bk_x1 at *
  split at h
  · exact hf _ _ h
  · exact h.elim
theorem bk_x2_mono {st : List Value} {f g : Int32 → Int32 → List Value → Prop} (hf : ∀ x y r, f x y r → g x y r) (h : bk_x2 st f) : bk_x2 st g := by
  unfold bk_x2 at *
  split at h
  · exact hf _ _ _ h
  · exact h.elim
theorem bk_xl_mono {st : List Value} {f g : Int64 → Int64 → List Value → Prop} (hf : ∀ x y r, f x y r → g x y r) (h : bk_xl st f) : bk_xl st g := by
  unfold bk_xl at *
  split at h
  · exact hf _ _ _ h
  · exact h.elim
theorem bk_xd_mono {st : List Value} {f g : UInt64 → UInt64 → List Value → Prop} (hf : ∀ x y r, f x y r → g x y r) (h : bk_xd st f) : bk_xd st g := by
  unfold bk_xd at *
  split at h
  · exact hf _ _ _ h
  · exact h.elim
theorem bk_ldi_mono {L : bk_L} {k : Nat} {f g : Int32 → Prop} (hf : ∀ x, f x → g x) (h : bk_ldi L k f) : bk_ldi L k g := by
  unfold bk_ldi at *
  split at h
  · exact hf _ h
  · exact h.elim
theorem bk_ldl_mono {L : bk_L} {k : Nat} {f g : Int64 → Prop} (hf : ∀ x, f x → g x) (h : bk_ldl L k f) : bk_ldl L k g := by
  unfold bk_ldl at *
  split at h
  · exact hf _ h
  · exact h.elim
theorem bk_ldd_mono {L : bk_L} {k : Nat} {f g : UInt64 → Prop} (hf : ∀ x, f x → g x) (h : bk_ldd L k f) : bk_ldd L k g := by
  unfold bk_ldd at *
  split at h
  · exact hf _ h
  · exact h.elim
theorem bk_lda_mono {L : bk_L} {k : Nat} {f g : Nat → Prop} (hf : ∀ x, f x → g x) (h : bk_lda L k f) : bk_lda L k g := by
  unfold bk_lda at *
  split at h
  · exact hf _ h
  · exact h.elim
theorem bk_gd_mono {b : Bool} {P P' : Prop} (hP : P → P') (h : bk_gd b P) : bk_gd b P' := by
  unfold bk_gd at *
  split at h
  · exact hP h
  · exact h.elim
theorem bk_nx_mono {rest : List Value} {K K' : List Value → bk_H → Nat → Prop} (hK : ∀ st h n, K st h n → K' st h n) (r : bk_R) (h : bk_H) (n : Nat) (q : bk_nx rest K r h n) : bk_nx rest K' r h n := by
  unfold bk_nx at *
  cases r with
  | inl v => exact hK _ _ _ q
  | inr E => exact q
theorem bk_cl_mono {C : bk_P} (hC : bk_mono C) {j : Nat} {As rest : List Value} {h : bk_H} {n : Nat} {cs B : Nat × Nat} {K K' : List Value → bk_H → Nat → Nat × Nat → Prop} (hK : ∀ st h n cs, K st h n cs → K' st h n cs) (q : bk_cl C j As rest h n cs B K) : bk_cl C j As rest h n cs B K' := by
  refine bk_gd_mono (fun q => ?_) q
  rcases q with q | ⟨b, q1, q2, q3⟩
  · exact Or.inl (hC _ _ _ _ _ _ _ (bk_nx_mono fun st h n z => hK st h n _ z) q)
  · exact Or.inr ⟨b, q1, q2, hC _ _ _ _ _ _ _ (bk_nx_mono fun st h n z => hK st h n _ z) q3⟩
