/-! THE TABLES ARE THOSE OF THE CLASS FILES. -/
def bk_dk (cc : ByteArray) (pc : Nat) (I : Instr) (k nx : Nat) : Bool := decide (decode cc pc = .ok (I, k)) && Nat.beq nx (pc + k)
def bk_tg (pc : Nat) (off : Int) (sw : List (Int32 × Nat)) : Bool := match sw with
  | q :: _ => decide ((pc : Int) + off = (q.2 : Int))
  | [] => false
def bk_swT (pc : Nat) : Int → List Int → List (Int32 × Nat) → Bool
  | _, [], [] => true
  | lo, o :: os, q :: qs => decide ((pc : Int) + o = (q.2 : Int)) && decide (q.1.toInt = lo) && bk_swT pc (lo + 1) os qs
  | _, _, _ => false
def bk_swL (pc : Nat) : List (Int × Int) → List (Int32 × Nat) → Bool
  | [], [] => true
  | o :: os, q :: qs => decide ((pc : Int) + o.2 = (q.2 : Int)) && decide (q.1.toInt = o.1) && bk_swL pc os qs
  | _, _ => false
def bk_any (cc : ByteArray) (pc : Nat) (I : Instr) : Bool := match decode cc pc with
  | .ok x => decide (x.1 = I)
  | .error _ => false
def bk_ok (cc : ByteArray) (pc : Nat) (e : bk_I) : Bool := match e.1 with
  | .iconst z => bk_dk cc pc e.1 1 e.2.1 && decide (Int32.ofInt z = e.2.2.2)
  | .bipush z => bk_dk cc pc e.1 2 e.2.1 && decide ((Int8.ofInt z).toInt32 = e.2.2.2)
  | .sipush z => bk_dk cc pc e.1 3 e.2.1 && decide ((Int16.ofInt z).toInt32 = e.2.2.2)
  | .iinc _ z => bk_dk cc pc e.1 3 e.2.1 && decide (Int32.ofInt z = e.2.2.2)
  | .goto o => bk_dk cc pc e.1 3 e.2.1 && bk_tg pc o e.2.2.1
  | .ifCond _ o => bk_dk cc pc e.1 3 e.2.1 && bk_tg pc o e.2.2.1
  | .if_icmp _ o => bk_dk cc pc e.1 3 e.2.1 && bk_tg pc o e.2.2.1
  | .tableswitch d lo hi offs => bk_any cc pc e.1 && decide ((pc : Int) + d = (e.2.1 : Int)) && bk_swT pc lo offs.toList e.2.2.1 && decide (hi = lo + (offs.toList.length : Int) - 1)
  | .lookupswitch d ps => bk_any cc pc e.1 && decide ((pc : Int) + d = (e.2.1 : Int)) && bk_swL pc ps.toList e.2.2.1 && (ps.toList.zip (ps.toList.drop 1)).all (fun (a, next) => a.1 < next.1)
  | .iload _ | .lload _ | .dload _ | .aload _ | .istore _ | .lstore _ | .dstore _ | .astore _ | .ldc _ | .newarray _ => bk_dk cc pc e.1 2 e.2.1
  | .getfield _ | .putfield _ | .getstatic _ | .invokevirtual _ | .invokestatic _ | .invokespecial _ | .new _ | .ldc2_w _ => bk_dk cc pc e.1 3 e.2.1
  | _ => bk_dk cc pc e.1 1 e.2.1
theorem bk_lt {α : Type} {x n : Nat} {t : Option α} {e : α} (h : (bif Nat.blt x n then t else none) = some e) : x < n := by
  cases hb : Nat.blt x n with
  | true => exact Nat.lt_of_lt_of_le (Nat.lt_succ_self x) (Nat.le_of_ble_eq_true hb)
  | false => rw [hb] at h; exact nomatch h
theorem bk_e {α : Type} {P : α → Prop} {b : Bool} {x y : α} (hx : P x) (hy : P y) : P (bif b then x else y) := by
  cases b
  · exact hy
  · exact hx
theorem bk_bif {α : Type} {b : Bool} {x y : Option α} {e : α} (h : (bif b then x else y) = some e) : (b = true ∧ x = some e) ∨ (b = false ∧ y = some e) := by
  cases b
  · exact Or.inr ⟨rfl, h⟩
  · exact Or.inl ⟨rfl, h⟩
def bk_at? (i : Nat) (w : Cond) : Bool := decide (lw_tbl[i]? = some w)
def bk_pos (i : Nat) (w : Cond) : Bool := bk_at? i w && goodWord w
/-- the field's class and number, and its link, are as told -/
def bk_cF (own ix : Nat) (e : Nat × Nat × Nat) : Bool := match bk_cls[e.1]? with
  | some (_, T, N) => decide (e.2.1 < N) && (bk_pos e.2.2 (.fieldLink (bk_rn own) ix (T e.2.1).1 (T e.2.1).2.1 (T e.2.1).2.2.1) || bk_at? e.2.2 (.fieldLinkNest (bk_rn own) ix (T e.2.1).1 (T e.2.1).2.1 (T e.2.1).2.2.1 "BarkMakersModel"))
  | none => false
def bk_cC (own ix : Nat) (e : Nat × Nat × Nat) : Bool := match e.1 with
  | 0 => bk_pos e.2.2 (.methodLink (bk_rn own) ix (bk_y e.2.1)) || bk_at? e.2.2 (.methodLinkNest (bk_rn own) ix (bk_y e.2.1) "BarkMakersModel")
  | 5 => bk_pos e.2.2 (.methodLink (bk_rn own) ix (bk_y e.2.1))
  | 1 => bk_pos e.2.2 (.methodLink (bk_rn own) ix Lib.Math.max.name)
  | 2 => bk_pos e.2.2 (.methodLink (bk_rn own) ix Lib.Math.min.name)
  | 3 => bk_pos e.2.2 (.methodLink (bk_rn own) ix arraycopyName)
  | 4 => bk_pos e.2.2 (.methodLink (bk_rn own) ix objectInit)
  | 6 => bk_pos e.2.2 (.methodLink (bk_rn own) ix ⟨"java/lang/String", "length", "()I"⟩)
  | 7 => bk_pos e.2.2 (.methodLink (bk_rn own) ix ⟨"java/lang/String", "charAt", "(I)C"⟩)
  | 8 => bk_pos e.2.2 (.methodLink (bk_rn own) ix ⟨"java/lang/String", "indexOf", "(I)I"⟩)
  | _ => false
def bk_cN (own ix : Nat) (e : (Nat ⊕ String) × Nat) : Bool := match e.1 with
  | .inl ci => bk_pos e.2 (.classLink (bk_rn own) ix (bk_rn ci)) && decide (ci < 14)
  | .inr E => bk_pos e.2 (.classLink (bk_rn own) ix E)
def bk_cS (own ix : Nat) (e : Nat × Nat) : Bool := bk_at? e.2 (.stringRef (bk_rn own) ix (bk_tx e.1)) && decide (e.1 < bk_nS)
def bk_cL (own ix : Nat) (e : Int64 × Nat) : Bool := bk_pos e.2 (.constantLong (bk_rn own) ix e.1)
/-- beside its own bytes: a final field is written by a constructor of its own class -/
def bk_xt (r : bk_M) (_ : Nat) (e : bk_I) : Bool := match e.1 with
  | .putfield ix => match bk_fld r.2.2.2.2.2.2.1 ix with
    | some (ci, k, _) => match bk_cls[ci]? with
      | some (_, T, _) => !(T k).2.2.2 || (r.2.2.1.name == "<init>" && (T k).1 == bk_rn r.2.2.2.2.2.2.1 && bk_cF r.2.2.2.2.2.2.1 ix (ci, k, match bk_fld r.2.2.2.2.2.2.1 ix with | some q => q.2.2 | none => 0))
      | none => false
    | none => true
  | _ => true
def bk_ck (r : bk_M) (pc : Nat) : Bool := match r.1 pc with
  | none => true
  | some e => bk_ok r.2.2.2.1 pc e && bk_xt r pc e
def bk_PI (r : bk_M) : Prop := (∀ x e, r.1 x = some e → x < r.2.1) ∧ (List.range r.2.1).all (bk_ck r) = true
/-- the method's words -/
def bk_wC (r : bk_M) : Cond := match r.2.2.2.2.2.2.2.2.1 with
  | [] => .code r.2.2.1 r.2.2.2.1 r.2.2.2.2.1 r.2.2.2.2.2.1
  | hh => .codeWith r.2.2.1 r.2.2.2.1 r.2.2.2.2.1 r.2.2.2.2.2.1 hh
def bk_pw (r : bk_M) : Bool := decide (r.2.2.1 = x) || (bk_pos r.2.2.2.2.2.2.2.2.2.1 (bk_wC r) && bk_pos r.2.2.2.2.2.2.2.2.2.2.2.2.2 (.initialized r.2.2.1.cls) && decide (r.2.2.1.cls = bk_rn r.2.2.2.2.2.2.1) && plainName r.2.2.1.cls &&
  decide (r.2.2.1.cls ≠ "java/lang/invoke/MethodHandle") && decide (r.2.2.1.cls ≠ "java/lang/invoke/VarHandle") && decide ((parseMethodDescriptor r.2.2.1.desc).map (fun d => d.parameters.length) = some r.2.2.2.2.2.2.2.1) && decide (r.2.2.2.2.1 ≤ 20) &&
  (bk_pos r.2.2.2.2.2.2.2.2.2.2.2.1 (.static r.2.2.1) || (bk_pos r.2.2.2.2.2.2.2.2.2.2.1 (.instanceMethod r.2.2.1) && (r.2.2.1.name == "<init>" || bk_pos r.2.2.2.2.2.2.2.2.2.2.2.2.1 (.selects r.2.2.1.cls r.2.2.1 r.2.2.1)))))
def bk_PW (r : bk_M) : Prop := bk_pw r = true

theorem bk_r0 : bk_PI bk_m0 := ⟨fun _ _ h => bk_lt h, by decide +kernel⟩
theorem bk_r1 : bk_PI bk_m1 := ⟨fun _ _ h => bk_lt h, by decide +kernel⟩
theorem bk_r2 : bk_PI bk_m2 := ⟨fun _ _ h => bk_lt h, by decide +kernel⟩
theorem bk_r3 : bk_PI bk_m3 := ⟨fun _ _ h => bk_lt h, by decide +kernel⟩
theorem bk_r4 : bk_PI bk_m4 := ⟨fun _ _ h => bk_lt h, by decide +kernel⟩
theorem bk_r5 : bk_PI bk_m5 := ⟨fun _ _ h => bk_lt h, by decide +kernel⟩
theorem bk_r6 : bk_PI bk_m6 := ⟨fun _ _ h => bk_lt h, by decide +kernel⟩
theorem bk_r7 : bk_PI bk_m7 := ⟨fun _ _ h => bk_lt h, by decide +kernel⟩
theorem bk_r8 : bk_PI bk_m8 := ⟨fun _ _ h => bk_lt h, by decide +kernel⟩
theorem bk_r9 : bk_PI bk_m9 := ⟨fun _ _ h => bk_lt h, by decide +kernel⟩
theorem bk_r10 : bk_PI bk_m10 := ⟨fun _ _ h => bk_lt h, by decide +kernel⟩
theorem bk_r11 : bk_PI bk_m11 := ⟨fun _ _ h => bk_lt h, by decide +kernel⟩
theorem bk_r12 : bk_PI bk_m12 := ⟨fun _ _ h => bk_lt h, by decide +kernel⟩
theorem bk_r13 : bk_PI bk_m13 := ⟨fun _ _ h => bk_lt h, by decide +kernel⟩
theorem bk_r14 : bk_PI bk_m14 := ⟨fun _ _ h => bk_lt h, by decide +kernel⟩
theorem bk_r15 : bk_PI bk_m15 := ⟨fun _ _ h => bk_lt h, by decide +kernel⟩
theorem bk_r16 : bk_PI bk_m16 := ⟨fun _ _ h => bk_lt h, by decide +kernel⟩
theorem bk_r17 : bk_PI bk_m17 := ⟨fun _ _ h => bk_lt h, by decide +kernel⟩
theorem bk_r18 : bk_PI bk_m18 := ⟨fun _ _ h => bk_lt h, by decide +kernel⟩
theorem bk_r19 : bk_PI bk_m19 := ⟨fun _ _ h => bk_lt h, by decide +kernel⟩
theorem bk_r20 : bk_PI bk_m20 := ⟨fun _ _ h => bk_lt h, by decide +kernel⟩
theorem bk_r21 : bk_PI bk_m21 := ⟨fun _ _ h => bk_lt h, by decide +kernel⟩
theorem bk_r22 : bk_PI bk_m22 := ⟨fun _ _ h => bk_lt h, by decide +kernel⟩
theorem bk_r23 : bk_PI bk_m23 := ⟨fun _ _ h => bk_lt h, by decide +kernel⟩
theorem bk_r24 : bk_PI bk_m24 := ⟨fun _ _ h => bk_lt h, by decide +kernel⟩
theorem bk_r25 : bk_PI bk_m25 := ⟨fun _ _ h => bk_lt h, by decide +kernel⟩
theorem bk_r26 : bk_PI bk_m26 := ⟨fun _ _ h => bk_lt h, by decide +kernel⟩
theorem bk_r27 : bk_PI bk_m27 := ⟨fun _ _ h => bk_lt h, by decide +kernel⟩
theorem bk_r28 : bk_PI bk_m28 := ⟨fun _ _ h => bk_lt h, by decide +kernel⟩
theorem bk_r29 : bk_PI bk_m29 := ⟨fun _ _ h => bk_lt h, by decide +kernel⟩
theorem bk_r30 : bk_PI bk_m30 := ⟨fun _ _ h => bk_lt h, by decide +kernel⟩
theorem bk_r31 : bk_PI bk_m31 := ⟨fun _ _ h => bk_lt h, by decide +kernel⟩
theorem bk_r32 : bk_PI bk_m32 := ⟨fun _ _ h => bk_lt h, by decide +kernel⟩
theorem bk_r33 : bk_PI bk_m33 := ⟨fun _ _ h => bk_lt h, by decide +kernel⟩
theorem bk_r34 : bk_PI bk_m34 := ⟨fun _ _ h => bk_lt h, by decide +kernel⟩
theorem bk_r35 : bk_PI bk_m35 := ⟨fun _ _ h => bk_lt h, by decide +kernel⟩
theorem bk_r36 : bk_PI bk_m36 := ⟨fun _ _ h => bk_lt h, by decide +kernel⟩
theorem bk_r37 : bk_PI bk_m37 := ⟨fun _ _ h => bk_lt h, by decide +kernel⟩
theorem bk_r38 : bk_PI bk_m38 := ⟨fun _ _ h => bk_lt h, by decide +kernel⟩
theorem bk_r39 : bk_PI bk_m39 := ⟨fun _ _ h => bk_lt h, by decide +kernel⟩
theorem bk_r40 : bk_PI bk_m40 := ⟨fun _ _ h => bk_lt h, by decide +kernel⟩
theorem bk_r41 : bk_PI bk_m41 := ⟨fun _ _ h => bk_lt h, by decide +kernel⟩
theorem bk_r42 : bk_PI bk_m42 := ⟨fun _ _ h => bk_lt h, by decide +kernel⟩
theorem bk_r43 : bk_PI bk_m43 := ⟨fun _ _ h => bk_lt h, by decide +kernel⟩
theorem bk_r44 : bk_PI bk_m44 := ⟨fun _ _ h => bk_lt h, by decide +kernel⟩
theorem bk_r45 : bk_PI bk_m45 := ⟨fun _ _ h => bk_lt h, by decide +kernel⟩
theorem bk_r46 : bk_PI bk_m46 := ⟨fun _ _ h => bk_lt h, by decide +kernel⟩
theorem bk_r47 : bk_PI bk_m47 := ⟨fun _ _ h => bk_lt h, by decide +kernel⟩
theorem bk_r48 : bk_PI bk_m48 := ⟨fun _ _ h => bk_lt h, by decide +kernel⟩
theorem bk_r49 : bk_PI bk_m49 := ⟨fun _ _ h => bk_lt h, by decide +kernel⟩
theorem bk_r50 : bk_PI bk_m50 := ⟨fun _ _ h => bk_lt h, by decide +kernel⟩
theorem bk_r51 : bk_PI bk_m51 := ⟨fun _ _ h => bk_lt h, by decide +kernel⟩
theorem bk_r52 : bk_PI bk_m52 := ⟨fun _ _ h => bk_lt h, by decide +kernel⟩
theorem bk_r53 : bk_PI bk_m53 := ⟨fun _ _ h => bk_lt h, by decide +kernel⟩
theorem bk_r54 : bk_PI bk_m54 := ⟨fun _ _ h => bk_lt h, by decide +kernel⟩
theorem bk_r55 : bk_PI bk_m55 := ⟨fun _ _ h => bk_lt h, by decide +kernel⟩
theorem bk_r56 : bk_PI bk_m56 := ⟨fun _ _ h => bk_lt h, by decide +kernel⟩
theorem bk_r57 : bk_PI bk_m57 := ⟨fun _ _ h => bk_lt h, by decide +kernel⟩
theorem bk_r58 : bk_PI bk_m58 := ⟨fun _ _ h => bk_lt h, by decide +kernel⟩
theorem bk_r59 : bk_PI bk_m59 := ⟨fun _ _ h => bk_lt h, by decide +kernel⟩
theorem bk_r60 : bk_PI bk_m60 := ⟨fun _ _ h => bk_lt h, by decide +kernel⟩
theorem bk_r61 : bk_PI bk_m61 := ⟨fun _ _ h => bk_lt h, by decide +kernel⟩
theorem bk_r62 : bk_PI bk_m62 := ⟨fun _ _ h => bk_lt h, by decide +kernel⟩
theorem bk_r63 : bk_PI bk_m63 := ⟨fun _ _ h => bk_lt h, by decide +kernel⟩
theorem bk_r64 : bk_PI bk_m64 := ⟨fun _ _ h => bk_lt h, by decide +kernel⟩
theorem bk_r65 : bk_PI bk_m65 := ⟨fun _ _ h => bk_lt h, by decide +kernel⟩
theorem bk_r66 : bk_PI bk_m66 := ⟨fun _ _ h => bk_lt h, by decide +kernel⟩
theorem bk_r67 : bk_PI bk_m67 := ⟨fun _ _ h => bk_lt h, by decide +kernel⟩
theorem bk_r68 : bk_PI bk_m68 := ⟨fun _ _ h => bk_lt h, by decide +kernel⟩
theorem bk_r69 : bk_PI bk_m69 := ⟨fun _ _ h => bk_lt h, by decide +kernel⟩
theorem bk_r70 : bk_PI bk_m70 := ⟨fun _ _ h => bk_lt h, by decide +kernel⟩
theorem bk_r71 : bk_PI bk_m71 := ⟨fun _ _ h => bk_lt h, by decide +kernel⟩
theorem bk_r72 : bk_PI bk_m72 := ⟨fun _ _ h => bk_lt h, by decide +kernel⟩
theorem bk_r73 : bk_PI bk_m73 := ⟨fun _ _ h => bk_lt h, by decide +kernel⟩
theorem bk_r74 : bk_PI bk_m74 := ⟨fun _ _ h => bk_lt h, by decide +kernel⟩
theorem bk_r75 : bk_PI bk_m75 := ⟨fun _ _ h => bk_lt h, by decide +kernel⟩
theorem bk_r76 : bk_PI bk_m76 := ⟨fun _ _ h => bk_lt h, by decide +kernel⟩
theorem bk_r77 : bk_PI bk_m77 := ⟨fun _ _ h => bk_lt h, by decide +kernel⟩
theorem bk_r78 : bk_PI bk_m78 := ⟨fun _ _ h => bk_lt h, by decide +kernel⟩
theorem bk_r79 : bk_PI bk_m79 := ⟨fun _ _ h => bk_lt h, by decide +kernel⟩
theorem bk_r80 : bk_PI bk_m80 := ⟨fun _ _ h => bk_lt h, by decide +kernel⟩
theorem bk_r81 : bk_PI bk_m81 := ⟨fun _ _ h => bk_lt h, by decide +kernel⟩
theorem bk_r82 : bk_PI bk_m82 := ⟨fun _ _ h => bk_lt h, by decide +kernel⟩
theorem bk_r83 : bk_PI bk_m83 := ⟨fun _ _ h => bk_lt h, by decide +kernel⟩
theorem bk_r84 : bk_PI bk_m84 := ⟨fun _ _ h => bk_lt h, by decide +kernel⟩
theorem bk_r85 : bk_PI bk_m85 := ⟨fun _ _ h => bk_lt h, by decide +kernel⟩
theorem bk_r86 : bk_PI bk_m86 := ⟨fun _ _ h => bk_lt h, by decide +kernel⟩
theorem bk_r87 : bk_PI bk_m87 := ⟨fun _ _ h => bk_lt h, by decide +kernel⟩
theorem bk_r88 : bk_PI bk_m88 := ⟨fun _ _ h => bk_lt h, by decide +kernel⟩
theorem bk_r89 : bk_PI bk_m89 := ⟨fun _ _ h => bk_lt h, by decide +kernel⟩
theorem bk_r90 : bk_PI bk_m90 := ⟨fun _ _ h => bk_lt h, by decide +kernel⟩
theorem bk_r91 : bk_PI bk_m91 := ⟨fun _ _ h => bk_lt h, by decide +kernel⟩
theorem bk_r92 : bk_PI bk_m92 := ⟨fun _ _ h => bk_lt h, by decide +kernel⟩
theorem bk_r93 : bk_PI bk_m93 := ⟨fun _ _ h => bk_lt h, by decide +kernel⟩
theorem bk_r94 : bk_PI bk_m94 := ⟨fun _ _ h => bk_lt h, by decide +kernel⟩
theorem bk_r95 : bk_PI bk_m95 := ⟨fun _ _ h => bk_lt h, by decide +kernel⟩
theorem bk_r96 : bk_PI bk_m96 := ⟨fun _ _ h => bk_lt h, by decide +kernel⟩
theorem bk_r97 : bk_PI bk_m97 := ⟨fun _ _ h => bk_lt h, by decide +kernel⟩
theorem bk_r98 : bk_PI bk_m98 := ⟨fun _ _ h => bk_lt h, by decide +kernel⟩
theorem bk_r99 : bk_PI bk_m99 := ⟨fun _ _ h => bk_lt h, by decide +kernel⟩
theorem bk_r100 : bk_PI bk_m100 := ⟨fun _ _ h => bk_lt h, by decide +kernel⟩
theorem bk_r101 : bk_PI bk_m101 := ⟨fun _ _ h => bk_lt h, by decide +kernel⟩
theorem bk_r102 : bk_PI bk_m102 := ⟨fun _ _ h => bk_lt h, by decide +kernel⟩
theorem bk_r103 : bk_PI bk_m103 := ⟨fun _ _ h => bk_lt h, by decide +kernel⟩
theorem bk_r104 : bk_PI bk_m104 := ⟨fun _ _ h => bk_lt h, by decide +kernel⟩
theorem bk_r105 : bk_PI bk_m105 := ⟨fun _ _ h => bk_lt h, by decide +kernel⟩
theorem bk_r106 : bk_PI bk_m106 := ⟨fun _ _ h => bk_lt h, by decide +kernel⟩
theorem bk_r107 : bk_PI bk_m107 := ⟨fun _ _ h => bk_lt h, by decide +kernel⟩
theorem bk_r108 : bk_PI bk_m108 := ⟨fun _ _ h => bk_lt h, by decide +kernel⟩
theorem bk_r109 : bk_PI bk_m109 := ⟨fun _ _ h => bk_lt h, by decide +kernel⟩
theorem bk_r110 : bk_PI bk_m110 := ⟨fun _ _ h => bk_lt h, by decide +kernel⟩
theorem bk_r111 : bk_PI bk_m111 := ⟨fun _ _ h => bk_lt h, by decide +kernel⟩
theorem bk_r112 : bk_PI bk_m112 := ⟨fun _ _ h => bk_lt h, by decide +kernel⟩
theorem bk_r113 : bk_PI bk_m113 := ⟨fun _ _ h => bk_lt h, by decide +kernel⟩
theorem bk_r114 : bk_PI bk_m114 := ⟨fun _ _ h => bk_lt h, by decide +kernel⟩
theorem bk_r115 : bk_PI bk_m115 := ⟨fun _ _ h => bk_lt h, by decide +kernel⟩
theorem bk_r116 : bk_PI bk_m116 := ⟨fun _ _ h => bk_lt h, by decide +kernel⟩
theorem bk_r117 : bk_PI bk_m117 := ⟨fun _ _ h => bk_lt h, by decide +kernel⟩
theorem bk_r118 : bk_PI bk_m118 := ⟨fun _ _ h => bk_lt h, by decide +kernel⟩
theorem bk_r119 : bk_PI bk_m119 := ⟨fun _ _ h => bk_lt h, by decide +kernel⟩
theorem bk_r120 : bk_PI bk_m120 := ⟨fun _ _ h => bk_lt h, by decide +kernel⟩
theorem bk_r121 : bk_PI bk_m121 := ⟨fun _ _ h => bk_lt h, by decide +kernel⟩
theorem bk_r122 : bk_PI bk_m122 := ⟨fun _ _ h => bk_lt h, by decide +kernel⟩
theorem bk_r123 : bk_PI bk_m123 := ⟨fun _ _ h => bk_lt h, by decide +kernel⟩
theorem bk_r124 : bk_PI bk_m124 := ⟨fun _ _ h => bk_lt h, by decide +kernel⟩
theorem bk_r125 : bk_PI bk_m125 := ⟨fun _ _ h => bk_lt h, by decide +kernel⟩
theorem bk_r126 : bk_PI bk_m126 := ⟨fun _ _ h => bk_lt h, by decide +kernel⟩
theorem bk_r127 : bk_PI bk_m127 := ⟨fun _ _ h => bk_lt h, by decide +kernel⟩
theorem bk_r128 : bk_PI bk_m128 := ⟨fun _ _ h => bk_lt h, by decide +kernel⟩
theorem bk_r129 : bk_PI bk_m129 := ⟨fun _ _ h => bk_lt h, by decide +kernel⟩
theorem bk_r130 : bk_PI bk_m130 := ⟨fun _ _ h => bk_lt h, by decide +kernel⟩
theorem bk_r131 : bk_PI bk_m131 := ⟨fun _ _ h => bk_lt h, by decide +kernel⟩
theorem bk_r132 : bk_PI bk_m132 := ⟨fun _ _ h => bk_lt h, by decide +kernel⟩
theorem bk_r133 : bk_PI bk_m133 := ⟨fun _ _ h => bk_lt h, by decide +kernel⟩
theorem bk_r134 : bk_PI bk_m134 := ⟨fun _ _ h => bk_lt h, by decide +kernel⟩
theorem bk_r135 : bk_PI bk_m135 := ⟨fun _ _ h => bk_lt h, by decide +kernel⟩
theorem bk_r136 : bk_PI bk_m136 := ⟨fun _ _ h => bk_lt h, by decide +kernel⟩
theorem bk_r137 : bk_PI bk_m137 := ⟨fun _ _ h => bk_lt h, by decide +kernel⟩
theorem bk_r138 : bk_PI bk_m138 := ⟨fun _ _ h => bk_lt h, by decide +kernel⟩
theorem bk_r139 : bk_PI bk_m139 := ⟨fun _ _ h => bk_lt h, by decide +kernel⟩
theorem bk_r140 : bk_PI bk_m140 := ⟨fun _ _ h => bk_lt h, by decide +kernel⟩
theorem bk_r141 : bk_PI bk_m141 := ⟨fun _ _ h => bk_lt h, by decide +kernel⟩
theorem bk_r142 : bk_PI bk_m142 := ⟨fun _ _ h => bk_lt h, by decide +kernel⟩
theorem bk_r143 : bk_PI bk_m143 := ⟨fun _ _ h => bk_lt h, by decide +kernel⟩
theorem bk_r144 : bk_PI bk_m144 := ⟨fun _ _ h => bk_lt h, by decide +kernel⟩
theorem bk_r145 : bk_PI bk_m145 := ⟨fun _ _ h => bk_lt h, by decide +kernel⟩
theorem bk_r146 : bk_PI bk_m146 := ⟨fun _ _ h => bk_lt h, by decide +kernel⟩
theorem bk_r147 : bk_PI bk_m147 := ⟨fun _ _ h => bk_lt h, by decide +kernel⟩
theorem bk_r148 : bk_PI bk_m148 := ⟨fun _ _ h => bk_lt h, by decide +kernel⟩
theorem bk_r149 : bk_PI bk_m149 := ⟨fun _ _ h => bk_lt h, by decide +kernel⟩
theorem bk_r150 : bk_PI bk_m150 := ⟨fun _ _ h => bk_lt h, by decide +kernel⟩
theorem bk_r151 : bk_PI bk_m151 := ⟨fun _ _ h => bk_lt h, by decide +kernel⟩
theorem bk_r152 : bk_PI bk_m152 := ⟨fun _ _ h => bk_lt h, by decide +kernel⟩
theorem bk_r153 : bk_PI bk_m153 := ⟨fun _ _ h => bk_lt h, by decide +kernel⟩
theorem bk_r154 : bk_PI bk_m154 := ⟨fun _ _ h => bk_lt h, by decide +kernel⟩
theorem bk_r155 : bk_PI bk_m155 := ⟨fun _ _ h => bk_lt h, by decide +kernel⟩
theorem bk_r156 : bk_PI bk_m156 := ⟨fun _ _ h => bk_lt h, by decide +kernel⟩
theorem bk_r157 : bk_PI bk_m157 := ⟨fun _ _ h => bk_lt h, by decide +kernel⟩
theorem bk_r158 : bk_PI bk_m158 := ⟨fun _ _ h => bk_lt h, by decide +kernel⟩
theorem bk_r159 : bk_PI bk_m159 := ⟨fun _ _ h => bk_lt h, by decide +kernel⟩
theorem bk_r160 : bk_PI bk_m160 := ⟨fun _ _ h => bk_lt h, by decide +kernel⟩
theorem bk_r161 : bk_PI bk_m161 := ⟨fun _ _ h => bk_lt h, by decide +kernel⟩
theorem bk_r162 : bk_PI bk_m162 := ⟨fun _ _ h => bk_lt h, by decide +kernel⟩
theorem bk_r163 : bk_PI bk_m163 := ⟨fun _ _ h => bk_lt h, by decide +kernel⟩
theorem bk_r164 : bk_PI bk_m164 := ⟨fun _ _ h => bk_lt h, by decide +kernel⟩
theorem bk_r165 : bk_PI bk_m165 := ⟨fun _ _ h => bk_lt h, by decide +kernel⟩
theorem bk_r166 : bk_PI bk_m166 := ⟨fun _ _ h => bk_lt h, by decide +kernel⟩
theorem bk_r167 : bk_PI bk_m167 := ⟨fun _ _ h => bk_lt h, by decide +kernel⟩
theorem bk_r168 : bk_PI bk_m168 := ⟨fun _ _ h => bk_lt h, by decide +kernel⟩
theorem bk_r169 : bk_PI bk_m169 := ⟨fun _ _ h => bk_lt h, by decide +kernel⟩
theorem bk_r170 : bk_PI bk_m170 := ⟨fun _ _ h => bk_lt h, by decide +kernel⟩
theorem bk_r171 : bk_PI bk_m171 := ⟨fun _ _ h => bk_lt h, by decide +kernel⟩
theorem bk_r172 : bk_PI bk_m172 := ⟨fun _ _ h => bk_lt h, by decide +kernel⟩
theorem bk_r173 : bk_PI bk_m173 := ⟨fun _ _ h => bk_lt h, by decide +kernel⟩
theorem bk_r174 : bk_PI bk_m174 := ⟨fun _ _ h => bk_lt h, by decide +kernel⟩
theorem bk_r175 : bk_PI bk_m175 := ⟨fun _ _ h => bk_lt h, by decide +kernel⟩
theorem bk_r176 : bk_PI bk_m176 := ⟨fun _ _ h => bk_lt h, by decide +kernel⟩
theorem bk_r177 : bk_PI bk_m177 := ⟨fun _ _ h => bk_lt h, by decide +kernel⟩
theorem bk_r178 : bk_PI bk_m178 := ⟨fun _ _ h => bk_lt h, by decide +kernel⟩
theorem bk_r179 : bk_PI bk_m179 := ⟨fun _ _ h => bk_lt h, by decide +kernel⟩
theorem bk_r180 : bk_PI bk_m180 := ⟨fun _ _ h => bk_lt h, by decide +kernel⟩
theorem bk_r181 : bk_PI bk_m181 := ⟨fun _ _ h => bk_lt h, by decide +kernel⟩
theorem bk_r182 : bk_PI bk_m182 := ⟨fun _ _ h => bk_lt h, by decide +kernel⟩
theorem bk_r183 : bk_PI bk_m183 := ⟨fun _ _ h => bk_lt h, by decide +kernel⟩
theorem bk_r184 : bk_PI bk_m184 := ⟨fun _ _ h => bk_lt h, by decide +kernel⟩
theorem bk_r185 : bk_PI bk_m185 := ⟨fun _ _ h => bk_lt h, by decide +kernel⟩
theorem bk_r186 : bk_PI bk_m186 := ⟨fun _ _ h => bk_lt h, by decide +kernel⟩
theorem bk_r187 : bk_PI bk_m187 := ⟨fun _ _ h => bk_lt h, by decide +kernel⟩
theorem bk_r188 : bk_PI bk_m188 := ⟨fun _ _ h => bk_lt h, by decide +kernel⟩
theorem bk_r189 : bk_PI bk_m189 := ⟨fun _ _ h => bk_lt h, by decide +kernel⟩
theorem bk_r190 : bk_PI bk_m190 := ⟨fun _ _ h => bk_lt h, by decide +kernel⟩
theorem bk_r191 : bk_PI bk_m191 := ⟨fun _ _ h => bk_lt h, by decide +kernel⟩
theorem bk_r192 : bk_PI bk_m192 := ⟨fun _ _ h => bk_lt h, by decide +kernel⟩
theorem bk_r193 : bk_PI bk_m193 := ⟨fun _ _ h => bk_lt h, by decide +kernel⟩
theorem bk_r194 : bk_PI bk_m194 := ⟨fun _ _ h => bk_lt h, by decide +kernel⟩
theorem bk_r195 : bk_PI bk_m195 := ⟨fun _ _ h => bk_lt h, by decide +kernel⟩
theorem bk_r196 : bk_PI bk_m196 := ⟨fun _ _ h => bk_lt h, by decide +kernel⟩
theorem bk_r197 : bk_PI bk_m197 := ⟨fun _ _ h => bk_lt h, by decide +kernel⟩
theorem bk_r198 : bk_PI bk_m198 := ⟨fun _ _ h => bk_lt h, by decide +kernel⟩
theorem bk_r199 : bk_PI bk_m199 := ⟨fun _ _ h => bk_lt h, by decide +kernel⟩
theorem bk_r200 : bk_PI bk_m200 := ⟨fun _ _ h => bk_lt h, by decide +kernel⟩
theorem bk_r201 : bk_PI bk_m201 := ⟨fun _ _ h => bk_lt h, by decide +kernel⟩
theorem bk_r202 : bk_PI bk_m202 := ⟨fun _ _ h => bk_lt h, by decide +kernel⟩
theorem bk_r203 : bk_PI bk_m203 := ⟨fun _ _ h => bk_lt h, by decide +kernel⟩
theorem bk_r204 : bk_PI bk_m204 := ⟨fun _ _ h => bk_lt h, by decide +kernel⟩
theorem bk_r205 : bk_PI bk_m205 := ⟨fun _ _ h => bk_lt h, by decide +kernel⟩
theorem bk_r206 : bk_PI bk_m206 := ⟨fun _ _ h => bk_lt h, by decide +kernel⟩
theorem bk_r207 : bk_PI bk_m207 := ⟨fun _ _ h => bk_lt h, by decide +kernel⟩
theorem bk_r208 : bk_PI bk_m208 := ⟨fun _ _ h => bk_lt h, by decide +kernel⟩
theorem bk_r209 : bk_PI bk_m209 := ⟨fun _ _ h => bk_lt h, by decide +kernel⟩
theorem bk_r210 : bk_PI bk_m210 := ⟨fun _ _ h => bk_lt h, by decide +kernel⟩
theorem bk_r211 : bk_PI bk_m211 := ⟨fun _ _ h => bk_lt h, by decide +kernel⟩
theorem bk_r212 : bk_PI bk_m212 := ⟨fun _ _ h => bk_lt h, by decide +kernel⟩
theorem bk_r213 : bk_PI bk_m213 := ⟨fun _ _ h => bk_lt h, by decide +kernel⟩
theorem bk_r214 : bk_PI bk_m214 := ⟨fun _ _ h => bk_lt h, by decide +kernel⟩
theorem bk_r215 : bk_PI bk_m215 := ⟨fun _ _ h => bk_lt h, by decide +kernel⟩
theorem bk_r216 : bk_PI bk_m216 := ⟨fun _ _ h => bk_lt h, by decide +kernel⟩
theorem bk_r217 : bk_PI bk_m217 := ⟨fun _ _ h => bk_lt h, by decide +kernel⟩
theorem bk_r218 : bk_PI bk_m218 := ⟨fun _ _ h => bk_lt h, by decide +kernel⟩
theorem bk_r219 : bk_PI bk_m219 := ⟨fun _ _ h => bk_lt h, by decide +kernel⟩
theorem bk_r220 : bk_PI bk_m220 := ⟨fun _ _ h => bk_lt h, by decide +kernel⟩
theorem bk_r221 : bk_PI bk_m221 := ⟨fun _ _ h => bk_lt h, by decide +kernel⟩
theorem bk_r222 : bk_PI bk_m222 := ⟨fun _ _ h => bk_lt h, by decide +kernel⟩
theorem bk_r223 : bk_PI bk_m223 := ⟨fun _ _ h => bk_lt h, by decide +kernel⟩
theorem bk_r224 : bk_PI bk_m224 := ⟨fun _ _ h => bk_lt h, by decide +kernel⟩
theorem bk_r225 : bk_PI bk_m225 := ⟨fun _ _ h => bk_lt h, by decide +kernel⟩
theorem bk_r226 : bk_PI bk_m226 := ⟨fun _ _ h => bk_lt h, by decide +kernel⟩
theorem bk_r227 : bk_PI bk_m227 := ⟨fun _ _ h => bk_lt h, by decide +kernel⟩
theorem bk_r228 : bk_PI bk_m228 := ⟨fun _ _ h => bk_lt h, by decide +kernel⟩
theorem bk_r229 : bk_PI bk_m229 := ⟨fun _ _ h => bk_lt h, by decide +kernel⟩
theorem bk_r230 : bk_PI bk_m230 := ⟨fun _ _ h => bk_lt h, by decide +kernel⟩
theorem bk_r231 : bk_PI bk_m231 := ⟨fun _ _ h => bk_lt h, by decide +kernel⟩
theorem bk_r232 : bk_PI bk_m232 := ⟨fun _ _ h => bk_lt h, by decide +kernel⟩
theorem bk_r233 : bk_PI bk_m233 := ⟨fun _ _ h => bk_lt h, by decide +kernel⟩
theorem bk_r234 : bk_PI bk_m234 := ⟨fun _ _ h => bk_lt h, by decide +kernel⟩
theorem bk_r235 : bk_PI bk_m235 := ⟨fun _ _ h => bk_lt h, by decide +kernel⟩
theorem bk_r236 : bk_PI bk_m236 := ⟨fun _ _ h => bk_lt h, by decide +kernel⟩
theorem bk_r237 : bk_PI bk_m237 := ⟨fun _ _ h => bk_lt h, by decide +kernel⟩
theorem bk_r238 : bk_PI bk_m238 := ⟨fun _ _ h => bk_lt h, by decide +kernel⟩
theorem bk_r239 : bk_PI bk_m239 := ⟨fun _ _ h => bk_lt h, by decide +kernel⟩
theorem bk_r240 : bk_PI bk_m240 := ⟨fun _ _ h => bk_lt h, by decide +kernel⟩
theorem bk_r241 : bk_PI bk_m241 := ⟨fun _ _ h => bk_lt h, by decide +kernel⟩
theorem bk_r242 : bk_PI bk_m242 := ⟨fun _ _ h => bk_lt h, by decide +kernel⟩
theorem bk_r243 : bk_PI bk_m243 := ⟨fun _ _ h => bk_lt h, by decide +kernel⟩
theorem bk_r244 : bk_PI bk_m244 := ⟨fun _ _ h => bk_lt h, by decide +kernel⟩
theorem bk_r245 : bk_PI bk_m245 := ⟨fun _ _ h => bk_lt h, by decide +kernel⟩
theorem bk_r246 : bk_PI bk_m246 := ⟨fun _ _ h => bk_lt h, by decide +kernel⟩
theorem bk_rI : ∀ j, bk_PI (bk_m j) := fun j => (bk_e (bk_e (bk_e (bk_e (bk_e (bk_e (bk_e bk_r0 (bk_e bk_r1 bk_r2)) (bk_e (bk_e bk_r3 bk_r4) (bk_e bk_r5 bk_r6))) (bk_e (bk_e (bk_e bk_r7 bk_r8) (bk_e bk_r9 bk_r10)) (bk_e (bk_e bk_r11 bk_r12) (bk_e bk_r13 bk_r14)))) (bk_e (bk_e (bk_e bk_r15 (bk_e bk_r16 bk_r17)) (bk_e (bk_e bk_r18 bk_r19) (bk_e bk_r20 bk_r21))) (bk_e (bk_e (bk_e bk_r22 bk_r23) (bk_e bk_r24 bk_r25)) (bk_e (bk_e bk_r26 bk_r27) (bk_e bk_r28 bk_r29))))) (bk_e (bk_e (bk_e (bk_e bk_r30 (bk_e bk_r31 bk_r32)) (bk_e (bk_e bk_r33 bk_r34) (bk_e bk_r35 bk_r36))) (bk_e (bk_e (bk_e bk_r37 bk_r38) (bk_e bk_r39 bk_r40)) (bk_e (bk_e bk_r41 bk_r42) (bk_e bk_r43 bk_r44)))) (bk_e (bk_e (bk_e (bk_e bk_r45 bk_r46) (bk_e bk_r47 bk_r48)) (bk_e (bk_e bk_r49 bk_r50) (bk_e bk_r51 bk_r52))) (bk_e (bk_e (bk_e bk_r53 bk_r54) (bk_e bk_r55 bk_r56)) (bk_e (bk_e bk_r57 bk_r58) (bk_e bk_r59 bk_r60)))))) (bk_e (bk_e (bk_e (bk_e (bk_e bk_r61 (bk_e bk_r62 bk_r63)) (bk_e (bk_e bk_r64 bk_r65) (bk_e bk_r66 bk_r67))) (bk_e (bk_e (bk_e bk_r68 bk_r69) (bk_e bk_r70 bk_r71)) (bk_e (bk_e bk_r72 bk_r73) (bk_e bk_r74 bk_r75)))) (bk_e (bk_e (bk_e (bk_e bk_r76 bk_r77) (bk_e bk_r78 bk_r79)) (bk_e (bk_e bk_r80 bk_r81) (bk_e bk_r82 bk_r83))) (bk_e (bk_e (bk_e bk_r84 bk_r85) (bk_e bk_r86 bk_r87)) (bk_e (bk_e bk_r88 bk_r89) (bk_e bk_r90 bk_r91))))) (bk_e (bk_e (bk_e (bk_e bk_r92 (bk_e bk_r93 bk_r94)) (bk_e (bk_e bk_r95 bk_r96) (bk_e bk_r97 bk_r98))) (bk_e (bk_e (bk_e bk_r99 bk_r100) (bk_e bk_r101 bk_r102)) (bk_e (bk_e bk_r103 bk_r104) (bk_e bk_r105 bk_r106)))) (bk_e (bk_e (bk_e (bk_e bk_r107 bk_r108) (bk_e bk_r109 bk_r110)) (bk_e (bk_e bk_r111 bk_r112) (bk_e bk_r113 bk_r114))) (bk_e (bk_e (bk_e bk_r115 bk_r116) (bk_e bk_r117 bk_r118)) (bk_e (bk_e bk_r119 bk_r120) (bk_e bk_r121 bk_r122))))))) (bk_e (bk_e (bk_e (bk_e (bk_e (bk_e bk_r123 (bk_e bk_r124 bk_r125)) (bk_e (bk_e bk_r126 bk_r127) (bk_e bk_r128 bk_r129))) (bk_e (bk_e (bk_e bk_r130 bk_r131) (bk_e bk_r132 bk_r133)) (bk_e (bk_e bk_r134 bk_r135) (bk_e bk_r136 bk_r137)))) (bk_e (bk_e (bk_e (bk_e bk_r138 bk_r139) (bk_e bk_r140 bk_r141)) (bk_e (bk_e bk_r142 bk_r143) (bk_e bk_r144 bk_r145))) (bk_e (bk_e (bk_e bk_r146 bk_r147) (bk_e bk_r148 bk_r149)) (bk_e (bk_e bk_r150 bk_r151) (bk_e bk_r152 bk_r153))))) (bk_e (bk_e (bk_e (bk_e bk_r154 (bk_e bk_r155 bk_r156)) (bk_e (bk_e bk_r157 bk_r158) (bk_e bk_r159 bk_r160))) (bk_e (bk_e (bk_e bk_r161 bk_r162) (bk_e bk_r163 bk_r164)) (bk_e (bk_e bk_r165 bk_r166) (bk_e bk_r167 bk_r168)))) (bk_e (bk_e (bk_e (bk_e bk_r169 bk_r170) (bk_e bk_r171 bk_r172)) (bk_e (bk_e bk_r173 bk_r174) (bk_e bk_r175 bk_r176))) (bk_e (bk_e (bk_e bk_r177 bk_r178) (bk_e bk_r179 bk_r180)) (bk_e (bk_e bk_r181 bk_r182) (bk_e bk_r183 bk_r184)))))) (bk_e (bk_e (bk_e (bk_e (bk_e bk_r185 (bk_e bk_r186 bk_r187)) (bk_e (bk_e bk_r188 bk_r189) (bk_e bk_r190 bk_r191))) (bk_e (bk_e (bk_e bk_r192 bk_r193) (bk_e bk_r194 bk_r195)) (bk_e (bk_e bk_r196 bk_r197) (bk_e bk_r198 bk_r199)))) (bk_e (bk_e (bk_e (bk_e bk_r200 bk_r201) (bk_e bk_r202 bk_r203)) (bk_e (bk_e bk_r204 bk_r205) (bk_e bk_r206 bk_r207))) (bk_e (bk_e (bk_e bk_r208 bk_r209) (bk_e bk_r210 bk_r211)) (bk_e (bk_e bk_r212 bk_r213) (bk_e bk_r214 bk_r215))))) (bk_e (bk_e (bk_e (bk_e bk_r216 (bk_e bk_r217 bk_r218)) (bk_e (bk_e bk_r219 bk_r220) (bk_e bk_r221 bk_r222))) (bk_e (bk_e (bk_e bk_r223 bk_r224) (bk_e bk_r225 bk_r226)) (bk_e (bk_e bk_r227 bk_r228) (bk_e bk_r229 bk_r230)))) (bk_e (bk_e (bk_e (bk_e bk_r231 bk_r232) (bk_e bk_r233 bk_r234)) (bk_e (bk_e bk_r235 bk_r236) (bk_e bk_r237 bk_r238))) (bk_e (bk_e (bk_e bk_r239 bk_r240) (bk_e bk_r241 bk_r242)) (bk_e (bk_e bk_r243 bk_r244) (bk_e bk_r245 bk_r246))))))))
theorem bk_w0 : bk_PW bk_m0 := (by decide +kernel : bk_pw bk_m0 = true)
theorem bk_w1 : bk_PW bk_m1 := (by decide +kernel : bk_pw bk_m1 = true)
theorem bk_w2 : bk_PW bk_m2 := (by decide +kernel : bk_pw bk_m2 = true)
theorem bk_w3 : bk_PW bk_m3 := (by decide +kernel : bk_pw bk_m3 = true)
theorem bk_w4 : bk_PW bk_m4 := (by decide +kernel : bk_pw bk_m4 = true)
theorem bk_w5 : bk_PW bk_m5 := (by decide +kernel : bk_pw bk_m5 = true)
theorem bk_w6 : bk_PW bk_m6 := (by decide +kernel : bk_pw bk_m6 = true)
theorem bk_w7 : bk_PW bk_m7 := (by decide +kernel : bk_pw bk_m7 = true)
theorem bk_w8 : bk_PW bk_m8 := (by decide +kernel : bk_pw bk_m8 = true)
theorem bk_w9 : bk_PW bk_m9 := (by decide +kernel : bk_pw bk_m9 = true)
theorem bk_w10 : bk_PW bk_m10 := (by decide +kernel : bk_pw bk_m10 = true)
theorem bk_w11 : bk_PW bk_m11 := (by decide +kernel : bk_pw bk_m11 = true)
theorem bk_w12 : bk_PW bk_m12 := (by decide +kernel : bk_pw bk_m12 = true)
theorem bk_w13 : bk_PW bk_m13 := (by decide +kernel : bk_pw bk_m13 = true)
theorem bk_w14 : bk_PW bk_m14 := (by decide +kernel : bk_pw bk_m14 = true)
theorem bk_w15 : bk_PW bk_m15 := (by decide +kernel : bk_pw bk_m15 = true)
theorem bk_w16 : bk_PW bk_m16 := (by decide +kernel : bk_pw bk_m16 = true)
theorem bk_w17 : bk_PW bk_m17 := (by decide +kernel : bk_pw bk_m17 = true)
theorem bk_w18 : bk_PW bk_m18 := (by decide +kernel : bk_pw bk_m18 = true)
theorem bk_w19 : bk_PW bk_m19 := (by decide +kernel : bk_pw bk_m19 = true)
theorem bk_w20 : bk_PW bk_m20 := (by decide +kernel : bk_pw bk_m20 = true)
theorem bk_w21 : bk_PW bk_m21 := (by decide +kernel : bk_pw bk_m21 = true)
theorem bk_w22 : bk_PW bk_m22 := (by decide +kernel : bk_pw bk_m22 = true)
theorem bk_w23 : bk_PW bk_m23 := (by decide +kernel : bk_pw bk_m23 = true)
theorem bk_w24 : bk_PW bk_m24 := (by decide +kernel : bk_pw bk_m24 = true)
theorem bk_w25 : bk_PW bk_m25 := (by decide +kernel : bk_pw bk_m25 = true)
theorem bk_w26 : bk_PW bk_m26 := (by decide +kernel : bk_pw bk_m26 = true)
theorem bk_w27 : bk_PW bk_m27 := (by decide +kernel : bk_pw bk_m27 = true)
theorem bk_w28 : bk_PW bk_m28 := (by decide +kernel : bk_pw bk_m28 = true)
theorem bk_w29 : bk_PW bk_m29 := (by decide +kernel : bk_pw bk_m29 = true)
theorem bk_w30 : bk_PW bk_m30 := (by decide +kernel : bk_pw bk_m30 = true)
theorem bk_w31 : bk_PW bk_m31 := (by decide +kernel : bk_pw bk_m31 = true)
theorem bk_w32 : bk_PW bk_m32 := (by decide +kernel : bk_pw bk_m32 = true)
theorem bk_w33 : bk_PW bk_m33 := (by decide +kernel : bk_pw bk_m33 = true)
theorem bk_w34 : bk_PW bk_m34 := (by decide +kernel : bk_pw bk_m34 = true)
theorem bk_w35 : bk_PW bk_m35 := (by decide +kernel : bk_pw bk_m35 = true)
theorem bk_w36 : bk_PW bk_m36 := (by decide +kernel : bk_pw bk_m36 = true)
theorem bk_w37 : bk_PW bk_m37 := (by decide +kernel : bk_pw bk_m37 = true)
theorem bk_w38 : bk_PW bk_m38 := (by decide +kernel : bk_pw bk_m38 = true)
theorem bk_w39 : bk_PW bk_m39 := (by decide +kernel : bk_pw bk_m39 = true)
theorem bk_w40 : bk_PW bk_m40 := (by decide +kernel : bk_pw bk_m40 = true)
theorem bk_w41 : bk_PW bk_m41 := (by decide +kernel : bk_pw bk_m41 = true)
theorem bk_w42 : bk_PW bk_m42 := (by decide +kernel : bk_pw bk_m42 = true)
theorem bk_w43 : bk_PW bk_m43 := (by decide +kernel : bk_pw bk_m43 = true)
theorem bk_w44 : bk_PW bk_m44 := (by decide +kernel : bk_pw bk_m44 = true)
theorem bk_w45 : bk_PW bk_m45 := (by decide +kernel : bk_pw bk_m45 = true)
theorem bk_w46 : bk_PW bk_m46 := (by decide +kernel : bk_pw bk_m46 = true)
theorem bk_w47 : bk_PW bk_m47 := (by decide +kernel : bk_pw bk_m47 = true)
theorem bk_w48 : bk_PW bk_m48 := (by decide +kernel : bk_pw bk_m48 = true)
theorem bk_w49 : bk_PW bk_m49 := (by decide +kernel : bk_pw bk_m49 = true)
theorem bk_w50 : bk_PW bk_m50 := (by decide +kernel : bk_pw bk_m50 = true)
theorem bk_w51 : bk_PW bk_m51 := (by decide +kernel : bk_pw bk_m51 = true)
theorem bk_w52 : bk_PW bk_m52 := (by decide +kernel : bk_pw bk_m52 = true)
theorem bk_w53 : bk_PW bk_m53 := (by decide +kernel : bk_pw bk_m53 = true)
theorem bk_w54 : bk_PW bk_m54 := (by decide +kernel : bk_pw bk_m54 = true)
theorem bk_w55 : bk_PW bk_m55 := (by decide +kernel : bk_pw bk_m55 = true)
theorem bk_w56 : bk_PW bk_m56 := (by decide +kernel : bk_pw bk_m56 = true)
theorem bk_w57 : bk_PW bk_m57 := (by decide +kernel : bk_pw bk_m57 = true)
theorem bk_w58 : bk_PW bk_m58 := (by decide +kernel : bk_pw bk_m58 = true)
theorem bk_w59 : bk_PW bk_m59 := (by decide +kernel : bk_pw bk_m59 = true)
theorem bk_w60 : bk_PW bk_m60 := (by decide +kernel : bk_pw bk_m60 = true)
theorem bk_w61 : bk_PW bk_m61 := (by decide +kernel : bk_pw bk_m61 = true)
theorem bk_w62 : bk_PW bk_m62 := (by decide +kernel : bk_pw bk_m62 = true)
theorem bk_w63 : bk_PW bk_m63 := (by decide +kernel : bk_pw bk_m63 = true)
theorem bk_w64 : bk_PW bk_m64 := (by decide +kernel : bk_pw bk_m64 = true)
theorem bk_w65 : bk_PW bk_m65 := (by decide +kernel : bk_pw bk_m65 = true)
theorem bk_w66 : bk_PW bk_m66 := (by decide +kernel : bk_pw bk_m66 = true)
theorem bk_w67 : bk_PW bk_m67 := (by decide +kernel : bk_pw bk_m67 = true)
theorem bk_w68 : bk_PW bk_m68 := (by decide +kernel : bk_pw bk_m68 = true)
theorem bk_w69 : bk_PW bk_m69 := (by decide +kernel : bk_pw bk_m69 = true)
theorem bk_w70 : bk_PW bk_m70 := (by decide +kernel : bk_pw bk_m70 = true)
theorem bk_w71 : bk_PW bk_m71 := (by decide +kernel : bk_pw bk_m71 = true)
theorem bk_w72 : bk_PW bk_m72 := (by decide +kernel : bk_pw bk_m72 = true)
theorem bk_w73 : bk_PW bk_m73 := (by decide +kernel : bk_pw bk_m73 = true)
theorem bk_w74 : bk_PW bk_m74 := (by decide +kernel : bk_pw bk_m74 = true)
theorem bk_w75 : bk_PW bk_m75 := (by decide +kernel : bk_pw bk_m75 = true)
theorem bk_w76 : bk_PW bk_m76 := (by decide +kernel : bk_pw bk_m76 = true)
theorem bk_w77 : bk_PW bk_m77 := (by decide +kernel : bk_pw bk_m77 = true)
theorem bk_w78 : bk_PW bk_m78 := (by decide +kernel : bk_pw bk_m78 = true)
theorem bk_w79 : bk_PW bk_m79 := (by decide +kernel : bk_pw bk_m79 = true)
theorem bk_w80 : bk_PW bk_m80 := (by decide +kernel : bk_pw bk_m80 = true)
theorem bk_w81 : bk_PW bk_m81 := (by decide +kernel : bk_pw bk_m81 = true)
theorem bk_w82 : bk_PW bk_m82 := (by decide +kernel : bk_pw bk_m82 = true)
theorem bk_w83 : bk_PW bk_m83 := (by decide +kernel : bk_pw bk_m83 = true)
theorem bk_w84 : bk_PW bk_m84 := (by decide +kernel : bk_pw bk_m84 = true)
theorem bk_w85 : bk_PW bk_m85 := (by decide +kernel : bk_pw bk_m85 = true)
theorem bk_w86 : bk_PW bk_m86 := (by decide +kernel : bk_pw bk_m86 = true)
theorem bk_w87 : bk_PW bk_m87 := (by decide +kernel : bk_pw bk_m87 = true)
theorem bk_w88 : bk_PW bk_m88 := (by decide +kernel : bk_pw bk_m88 = true)
theorem bk_w89 : bk_PW bk_m89 := (by decide +kernel : bk_pw bk_m89 = true)
theorem bk_w90 : bk_PW bk_m90 := (by decide +kernel : bk_pw bk_m90 = true)
theorem bk_w91 : bk_PW bk_m91 := (by decide +kernel : bk_pw bk_m91 = true)
theorem bk_w92 : bk_PW bk_m92 := (by decide +kernel : bk_pw bk_m92 = true)
theorem bk_w93 : bk_PW bk_m93 := (by decide +kernel : bk_pw bk_m93 = true)
theorem bk_w94 : bk_PW bk_m94 := (by decide +kernel : bk_pw bk_m94 = true)
theorem bk_w95 : bk_PW bk_m95 := (by decide +kernel : bk_pw bk_m95 = true)
theorem bk_w96 : bk_PW bk_m96 := (by decide +kernel : bk_pw bk_m96 = true)
theorem bk_w97 : bk_PW bk_m97 := (by decide +kernel : bk_pw bk_m97 = true)
theorem bk_w98 : bk_PW bk_m98 := (by decide +kernel : bk_pw bk_m98 = true)
theorem bk_w99 : bk_PW bk_m99 := (by decide +kernel : bk_pw bk_m99 = true)
theorem bk_w100 : bk_PW bk_m100 := (by decide +kernel : bk_pw bk_m100 = true)
theorem bk_w101 : bk_PW bk_m101 := (by decide +kernel : bk_pw bk_m101 = true)
theorem bk_w102 : bk_PW bk_m102 := (by decide +kernel : bk_pw bk_m102 = true)
theorem bk_w103 : bk_PW bk_m103 := (by decide +kernel : bk_pw bk_m103 = true)
theorem bk_w104 : bk_PW bk_m104 := (by decide +kernel : bk_pw bk_m104 = true)
theorem bk_w105 : bk_PW bk_m105 := (by decide +kernel : bk_pw bk_m105 = true)
theorem bk_w106 : bk_PW bk_m106 := (by decide +kernel : bk_pw bk_m106 = true)
theorem bk_w107 : bk_PW bk_m107 := (by decide +kernel : bk_pw bk_m107 = true)
theorem bk_w108 : bk_PW bk_m108 := (by decide +kernel : bk_pw bk_m108 = true)
theorem bk_w109 : bk_PW bk_m109 := (by decide +kernel : bk_pw bk_m109 = true)
theorem bk_w110 : bk_PW bk_m110 := (by decide +kernel : bk_pw bk_m110 = true)
theorem bk_w111 : bk_PW bk_m111 := (by decide +kernel : bk_pw bk_m111 = true)
theorem bk_w112 : bk_PW bk_m112 := (by decide +kernel : bk_pw bk_m112 = true)
theorem bk_w113 : bk_PW bk_m113 := (by decide +kernel : bk_pw bk_m113 = true)
theorem bk_w114 : bk_PW bk_m114 := (by decide +kernel : bk_pw bk_m114 = true)
theorem bk_w115 : bk_PW bk_m115 := (by decide +kernel : bk_pw bk_m115 = true)
theorem bk_w116 : bk_PW bk_m116 := (by decide +kernel : bk_pw bk_m116 = true)
theorem bk_w117 : bk_PW bk_m117 := (by decide +kernel : bk_pw bk_m117 = true)
theorem bk_w118 : bk_PW bk_m118 := (by decide +kernel : bk_pw bk_m118 = true)
theorem bk_w119 : bk_PW bk_m119 := (by decide +kernel : bk_pw bk_m119 = true)
theorem bk_w120 : bk_PW bk_m120 := (by decide +kernel : bk_pw bk_m120 = true)
theorem bk_w121 : bk_PW bk_m121 := (by decide +kernel : bk_pw bk_m121 = true)
theorem bk_w122 : bk_PW bk_m122 := (by decide +kernel : bk_pw bk_m122 = true)
theorem bk_w123 : bk_PW bk_m123 := (by decide +kernel : bk_pw bk_m123 = true)
theorem bk_w124 : bk_PW bk_m124 := (by decide +kernel : bk_pw bk_m124 = true)
theorem bk_w125 : bk_PW bk_m125 := (by decide +kernel : bk_pw bk_m125 = true)
theorem bk_w126 : bk_PW bk_m126 := (by decide +kernel : bk_pw bk_m126 = true)
theorem bk_w127 : bk_PW bk_m127 := (by decide +kernel : bk_pw bk_m127 = true)
theorem bk_w128 : bk_PW bk_m128 := (by decide +kernel : bk_pw bk_m128 = true)
theorem bk_w129 : bk_PW bk_m129 := (by decide +kernel : bk_pw bk_m129 = true)
theorem bk_w130 : bk_PW bk_m130 := (by decide +kernel : bk_pw bk_m130 = true)
theorem bk_w131 : bk_PW bk_m131 := (by decide +kernel : bk_pw bk_m131 = true)
theorem bk_w132 : bk_PW bk_m132 := (by decide +kernel : bk_pw bk_m132 = true)
theorem bk_w133 : bk_PW bk_m133 := (by decide +kernel : bk_pw bk_m133 = true)
theorem bk_w134 : bk_PW bk_m134 := (by decide +kernel : bk_pw bk_m134 = true)
theorem bk_w135 : bk_PW bk_m135 := (by decide +kernel : bk_pw bk_m135 = true)
theorem bk_w136 : bk_PW bk_m136 := (by decide +kernel : bk_pw bk_m136 = true)
theorem bk_w137 : bk_PW bk_m137 := (by decide +kernel : bk_pw bk_m137 = true)
theorem bk_w138 : bk_PW bk_m138 := (by decide +kernel : bk_pw bk_m138 = true)
theorem bk_w139 : bk_PW bk_m139 := (by decide +kernel : bk_pw bk_m139 = true)
theorem bk_w140 : bk_PW bk_m140 := (by decide +kernel : bk_pw bk_m140 = true)
theorem bk_w141 : bk_PW bk_m141 := (by decide +kernel : bk_pw bk_m141 = true)
theorem bk_w142 : bk_PW bk_m142 := (by decide +kernel : bk_pw bk_m142 = true)
theorem bk_w143 : bk_PW bk_m143 := (by decide +kernel : bk_pw bk_m143 = true)
theorem bk_w144 : bk_PW bk_m144 := (by decide +kernel : bk_pw bk_m144 = true)
theorem bk_w145 : bk_PW bk_m145 := (by decide +kernel : bk_pw bk_m145 = true)
theorem bk_w146 : bk_PW bk_m146 := (by decide +kernel : bk_pw bk_m146 = true)
theorem bk_w147 : bk_PW bk_m147 := (by decide +kernel : bk_pw bk_m147 = true)
theorem bk_w148 : bk_PW bk_m148 := (by decide +kernel : bk_pw bk_m148 = true)
theorem bk_w149 : bk_PW bk_m149 := (by decide +kernel : bk_pw bk_m149 = true)
theorem bk_w150 : bk_PW bk_m150 := (by decide +kernel : bk_pw bk_m150 = true)
theorem bk_w151 : bk_PW bk_m151 := (by decide +kernel : bk_pw bk_m151 = true)
theorem bk_w152 : bk_PW bk_m152 := (by decide +kernel : bk_pw bk_m152 = true)
theorem bk_w153 : bk_PW bk_m153 := (by decide +kernel : bk_pw bk_m153 = true)
theorem bk_w154 : bk_PW bk_m154 := (by decide +kernel : bk_pw bk_m154 = true)
theorem bk_w155 : bk_PW bk_m155 := (by decide +kernel : bk_pw bk_m155 = true)
theorem bk_w156 : bk_PW bk_m156 := (by decide +kernel : bk_pw bk_m156 = true)
theorem bk_w157 : bk_PW bk_m157 := (by decide +kernel : bk_pw bk_m157 = true)
theorem bk_w158 : bk_PW bk_m158 := (by decide +kernel : bk_pw bk_m158 = true)
theorem bk_w159 : bk_PW bk_m159 := (by decide +kernel : bk_pw bk_m159 = true)
theorem bk_w160 : bk_PW bk_m160 := (by decide +kernel : bk_pw bk_m160 = true)
theorem bk_w161 : bk_PW bk_m161 := (by decide +kernel : bk_pw bk_m161 = true)
theorem bk_w162 : bk_PW bk_m162 := (by decide +kernel : bk_pw bk_m162 = true)
theorem bk_w163 : bk_PW bk_m163 := (by decide +kernel : bk_pw bk_m163 = true)
theorem bk_w164 : bk_PW bk_m164 := (by decide +kernel : bk_pw bk_m164 = true)
theorem bk_w165 : bk_PW bk_m165 := (by decide +kernel : bk_pw bk_m165 = true)
theorem bk_w166 : bk_PW bk_m166 := (by decide +kernel : bk_pw bk_m166 = true)
theorem bk_w167 : bk_PW bk_m167 := (by decide +kernel : bk_pw bk_m167 = true)
theorem bk_w168 : bk_PW bk_m168 := (by decide +kernel : bk_pw bk_m168 = true)
theorem bk_w169 : bk_PW bk_m169 := (by decide +kernel : bk_pw bk_m169 = true)
theorem bk_w170 : bk_PW bk_m170 := (by decide +kernel : bk_pw bk_m170 = true)
theorem bk_w171 : bk_PW bk_m171 := (by decide +kernel : bk_pw bk_m171 = true)
theorem bk_w172 : bk_PW bk_m172 := (by decide +kernel : bk_pw bk_m172 = true)
theorem bk_w173 : bk_PW bk_m173 := (by decide +kernel : bk_pw bk_m173 = true)
theorem bk_w174 : bk_PW bk_m174 := (by decide +kernel : bk_pw bk_m174 = true)
theorem bk_w175 : bk_PW bk_m175 := (by decide +kernel : bk_pw bk_m175 = true)
theorem bk_w176 : bk_PW bk_m176 := (by decide +kernel : bk_pw bk_m176 = true)
theorem bk_w177 : bk_PW bk_m177 := (by decide +kernel : bk_pw bk_m177 = true)
theorem bk_w178 : bk_PW bk_m178 := (by decide +kernel : bk_pw bk_m178 = true)
theorem bk_w179 : bk_PW bk_m179 := (by decide +kernel : bk_pw bk_m179 = true)
theorem bk_w180 : bk_PW bk_m180 := (by decide +kernel : bk_pw bk_m180 = true)
theorem bk_w181 : bk_PW bk_m181 := (by decide +kernel : bk_pw bk_m181 = true)
theorem bk_w182 : bk_PW bk_m182 := (by decide +kernel : bk_pw bk_m182 = true)
theorem bk_w183 : bk_PW bk_m183 := (by decide +kernel : bk_pw bk_m183 = true)
theorem bk_w184 : bk_PW bk_m184 := (by decide +kernel : bk_pw bk_m184 = true)
theorem bk_w185 : bk_PW bk_m185 := (by decide +kernel : bk_pw bk_m185 = true)
theorem bk_w186 : bk_PW bk_m186 := (by decide +kernel : bk_pw bk_m186 = true)
theorem bk_w187 : bk_PW bk_m187 := (by decide +kernel : bk_pw bk_m187 = true)
theorem bk_w188 : bk_PW bk_m188 := (by decide +kernel : bk_pw bk_m188 = true)
theorem bk_w189 : bk_PW bk_m189 := (by decide +kernel : bk_pw bk_m189 = true)
theorem bk_w190 : bk_PW bk_m190 := (by decide +kernel : bk_pw bk_m190 = true)
theorem bk_w191 : bk_PW bk_m191 := (by decide +kernel : bk_pw bk_m191 = true)
theorem bk_w192 : bk_PW bk_m192 := (by decide +kernel : bk_pw bk_m192 = true)
theorem bk_w193 : bk_PW bk_m193 := (by decide +kernel : bk_pw bk_m193 = true)
theorem bk_w194 : bk_PW bk_m194 := (by decide +kernel : bk_pw bk_m194 = true)
theorem bk_w195 : bk_PW bk_m195 := (by decide +kernel : bk_pw bk_m195 = true)
theorem bk_w196 : bk_PW bk_m196 := (by decide +kernel : bk_pw bk_m196 = true)
theorem bk_w197 : bk_PW bk_m197 := (by decide +kernel : bk_pw bk_m197 = true)
theorem bk_w198 : bk_PW bk_m198 := (by decide +kernel : bk_pw bk_m198 = true)
theorem bk_w199 : bk_PW bk_m199 := (by decide +kernel : bk_pw bk_m199 = true)
theorem bk_w200 : bk_PW bk_m200 := (by decide +kernel : bk_pw bk_m200 = true)
theorem bk_w201 : bk_PW bk_m201 := (by decide +kernel : bk_pw bk_m201 = true)
theorem bk_w202 : bk_PW bk_m202 := (by decide +kernel : bk_pw bk_m202 = true)
theorem bk_w203 : bk_PW bk_m203 := (by decide +kernel : bk_pw bk_m203 = true)
theorem bk_w204 : bk_PW bk_m204 := (by decide +kernel : bk_pw bk_m204 = true)
theorem bk_w205 : bk_PW bk_m205 := (by decide +kernel : bk_pw bk_m205 = true)
theorem bk_w206 : bk_PW bk_m206 := (by decide +kernel : bk_pw bk_m206 = true)
theorem bk_w207 : bk_PW bk_m207 := (by decide +kernel : bk_pw bk_m207 = true)
theorem bk_w208 : bk_PW bk_m208 := (by decide +kernel : bk_pw bk_m208 = true)
theorem bk_w209 : bk_PW bk_m209 := (by decide +kernel : bk_pw bk_m209 = true)
theorem bk_w210 : bk_PW bk_m210 := (by decide +kernel : bk_pw bk_m210 = true)
theorem bk_w211 : bk_PW bk_m211 := (by decide +kernel : bk_pw bk_m211 = true)
theorem bk_w212 : bk_PW bk_m212 := (by decide +kernel : bk_pw bk_m212 = true)
theorem bk_w213 : bk_PW bk_m213 := (by decide +kernel : bk_pw bk_m213 = true)
theorem bk_w214 : bk_PW bk_m214 := (by decide +kernel : bk_pw bk_m214 = true)
theorem bk_w215 : bk_PW bk_m215 := (by decide +kernel : bk_pw bk_m215 = true)
theorem bk_w216 : bk_PW bk_m216 := (by decide +kernel : bk_pw bk_m216 = true)
theorem bk_w217 : bk_PW bk_m217 := (by decide +kernel : bk_pw bk_m217 = true)
theorem bk_w218 : bk_PW bk_m218 := (by decide +kernel : bk_pw bk_m218 = true)
theorem bk_w219 : bk_PW bk_m219 := (by decide +kernel : bk_pw bk_m219 = true)
theorem bk_w220 : bk_PW bk_m220 := (by decide +kernel : bk_pw bk_m220 = true)
theorem bk_w221 : bk_PW bk_m221 := (by decide +kernel : bk_pw bk_m221 = true)
theorem bk_w222 : bk_PW bk_m222 := (by decide +kernel : bk_pw bk_m222 = true)
theorem bk_w223 : bk_PW bk_m223 := (by decide +kernel : bk_pw bk_m223 = true)
theorem bk_w224 : bk_PW bk_m224 := (by decide +kernel : bk_pw bk_m224 = true)
theorem bk_w225 : bk_PW bk_m225 := (by decide +kernel : bk_pw bk_m225 = true)
theorem bk_w226 : bk_PW bk_m226 := (by decide +kernel : bk_pw bk_m226 = true)
theorem bk_w227 : bk_PW bk_m227 := (by decide +kernel : bk_pw bk_m227 = true)
theorem bk_w228 : bk_PW bk_m228 := (by decide +kernel : bk_pw bk_m228 = true)
theorem bk_w229 : bk_PW bk_m229 := (by decide +kernel : bk_pw bk_m229 = true)
theorem bk_w230 : bk_PW bk_m230 := (by decide +kernel : bk_pw bk_m230 = true)
theorem bk_w231 : bk_PW bk_m231 := (by decide +kernel : bk_pw bk_m231 = true)
theorem bk_w232 : bk_PW bk_m232 := (by decide +kernel : bk_pw bk_m232 = true)
theorem bk_w233 : bk_PW bk_m233 := (by decide +kernel : bk_pw bk_m233 = true)
theorem bk_w234 : bk_PW bk_m234 := (by decide +kernel : bk_pw bk_m234 = true)
theorem bk_w235 : bk_PW bk_m235 := (by decide +kernel : bk_pw bk_m235 = true)
theorem bk_w236 : bk_PW bk_m236 := (by decide +kernel : bk_pw bk_m236 = true)
theorem bk_w237 : bk_PW bk_m237 := (by decide +kernel : bk_pw bk_m237 = true)
theorem bk_w238 : bk_PW bk_m238 := (by decide +kernel : bk_pw bk_m238 = true)
theorem bk_w239 : bk_PW bk_m239 := (by decide +kernel : bk_pw bk_m239 = true)
theorem bk_w240 : bk_PW bk_m240 := (by decide +kernel : bk_pw bk_m240 = true)
theorem bk_w241 : bk_PW bk_m241 := (by decide +kernel : bk_pw bk_m241 = true)
theorem bk_w242 : bk_PW bk_m242 := (by decide +kernel : bk_pw bk_m242 = true)
theorem bk_w243 : bk_PW bk_m243 := (by decide +kernel : bk_pw bk_m243 = true)
theorem bk_w244 : bk_PW bk_m244 := (by decide +kernel : bk_pw bk_m244 = true)
theorem bk_w245 : bk_PW bk_m245 := (by decide +kernel : bk_pw bk_m245 = true)
theorem bk_w246 : bk_PW bk_m246 := (by decide +kernel : bk_pw bk_m246 = true)
theorem bk_rW : ∀ j, bk_PW (bk_m j) := fun j => (bk_e (bk_e (bk_e (bk_e (bk_e (bk_e (bk_e bk_w0 (bk_e bk_w1 bk_w2)) (bk_e (bk_e bk_w3 bk_w4) (bk_e bk_w5 bk_w6))) (bk_e (bk_e (bk_e bk_w7 bk_w8) (bk_e bk_w9 bk_w10)) (bk_e (bk_e bk_w11 bk_w12) (bk_e bk_w13 bk_w14)))) (bk_e (bk_e (bk_e bk_w15 (bk_e bk_w16 bk_w17)) (bk_e (bk_e bk_w18 bk_w19) (bk_e bk_w20 bk_w21))) (bk_e (bk_e (bk_e bk_w22 bk_w23) (bk_e bk_w24 bk_w25)) (bk_e (bk_e bk_w26 bk_w27) (bk_e bk_w28 bk_w29))))) (bk_e (bk_e (bk_e (bk_e bk_w30 (bk_e bk_w31 bk_w32)) (bk_e (bk_e bk_w33 bk_w34) (bk_e bk_w35 bk_w36))) (bk_e (bk_e (bk_e bk_w37 bk_w38) (bk_e bk_w39 bk_w40)) (bk_e (bk_e bk_w41 bk_w42) (bk_e bk_w43 bk_w44)))) (bk_e (bk_e (bk_e (bk_e bk_w45 bk_w46) (bk_e bk_w47 bk_w48)) (bk_e (bk_e bk_w49 bk_w50) (bk_e bk_w51 bk_w52))) (bk_e (bk_e (bk_e bk_w53 bk_w54) (bk_e bk_w55 bk_w56)) (bk_e (bk_e bk_w57 bk_w58) (bk_e bk_w59 bk_w60)))))) (bk_e (bk_e (bk_e (bk_e (bk_e bk_w61 (bk_e bk_w62 bk_w63)) (bk_e (bk_e bk_w64 bk_w65) (bk_e bk_w66 bk_w67))) (bk_e (bk_e (bk_e bk_w68 bk_w69) (bk_e bk_w70 bk_w71)) (bk_e (bk_e bk_w72 bk_w73) (bk_e bk_w74 bk_w75)))) (bk_e (bk_e (bk_e (bk_e bk_w76 bk_w77) (bk_e bk_w78 bk_w79)) (bk_e (bk_e bk_w80 bk_w81) (bk_e bk_w82 bk_w83))) (bk_e (bk_e (bk_e bk_w84 bk_w85) (bk_e bk_w86 bk_w87)) (bk_e (bk_e bk_w88 bk_w89) (bk_e bk_w90 bk_w91))))) (bk_e (bk_e (bk_e (bk_e bk_w92 (bk_e bk_w93 bk_w94)) (bk_e (bk_e bk_w95 bk_w96) (bk_e bk_w97 bk_w98))) (bk_e (bk_e (bk_e bk_w99 bk_w100) (bk_e bk_w101 bk_w102)) (bk_e (bk_e bk_w103 bk_w104) (bk_e bk_w105 bk_w106)))) (bk_e (bk_e (bk_e (bk_e bk_w107 bk_w108) (bk_e bk_w109 bk_w110)) (bk_e (bk_e bk_w111 bk_w112) (bk_e bk_w113 bk_w114))) (bk_e (bk_e (bk_e bk_w115 bk_w116) (bk_e bk_w117 bk_w118)) (bk_e (bk_e bk_w119 bk_w120) (bk_e bk_w121 bk_w122))))))) (bk_e (bk_e (bk_e (bk_e (bk_e (bk_e bk_w123 (bk_e bk_w124 bk_w125)) (bk_e (bk_e bk_w126 bk_w127) (bk_e bk_w128 bk_w129))) (bk_e (bk_e (bk_e bk_w130 bk_w131) (bk_e bk_w132 bk_w133)) (bk_e (bk_e bk_w134 bk_w135) (bk_e bk_w136 bk_w137)))) (bk_e (bk_e (bk_e (bk_e bk_w138 bk_w139) (bk_e bk_w140 bk_w141)) (bk_e (bk_e bk_w142 bk_w143) (bk_e bk_w144 bk_w145))) (bk_e (bk_e (bk_e bk_w146 bk_w147) (bk_e bk_w148 bk_w149)) (bk_e (bk_e bk_w150 bk_w151) (bk_e bk_w152 bk_w153))))) (bk_e (bk_e (bk_e (bk_e bk_w154 (bk_e bk_w155 bk_w156)) (bk_e (bk_e bk_w157 bk_w158) (bk_e bk_w159 bk_w160))) (bk_e (bk_e (bk_e bk_w161 bk_w162) (bk_e bk_w163 bk_w164)) (bk_e (bk_e bk_w165 bk_w166) (bk_e bk_w167 bk_w168)))) (bk_e (bk_e (bk_e (bk_e bk_w169 bk_w170) (bk_e bk_w171 bk_w172)) (bk_e (bk_e bk_w173 bk_w174) (bk_e bk_w175 bk_w176))) (bk_e (bk_e (bk_e bk_w177 bk_w178) (bk_e bk_w179 bk_w180)) (bk_e (bk_e bk_w181 bk_w182) (bk_e bk_w183 bk_w184)))))) (bk_e (bk_e (bk_e (bk_e (bk_e bk_w185 (bk_e bk_w186 bk_w187)) (bk_e (bk_e bk_w188 bk_w189) (bk_e bk_w190 bk_w191))) (bk_e (bk_e (bk_e bk_w192 bk_w193) (bk_e bk_w194 bk_w195)) (bk_e (bk_e bk_w196 bk_w197) (bk_e bk_w198 bk_w199)))) (bk_e (bk_e (bk_e (bk_e bk_w200 bk_w201) (bk_e bk_w202 bk_w203)) (bk_e (bk_e bk_w204 bk_w205) (bk_e bk_w206 bk_w207))) (bk_e (bk_e (bk_e bk_w208 bk_w209) (bk_e bk_w210 bk_w211)) (bk_e (bk_e bk_w212 bk_w213) (bk_e bk_w214 bk_w215))))) (bk_e (bk_e (bk_e (bk_e bk_w216 (bk_e bk_w217 bk_w218)) (bk_e (bk_e bk_w219 bk_w220) (bk_e bk_w221 bk_w222))) (bk_e (bk_e (bk_e bk_w223 bk_w224) (bk_e bk_w225 bk_w226)) (bk_e (bk_e bk_w227 bk_w228) (bk_e bk_w229 bk_w230)))) (bk_e (bk_e (bk_e (bk_e bk_w231 bk_w232) (bk_e bk_w233 bk_w234)) (bk_e (bk_e bk_w235 bk_w236) (bk_e bk_w237 bk_w238))) (bk_e (bk_e (bk_e bk_w239 bk_w240) (bk_e bk_w241 bk_w242)) (bk_e (bk_e bk_w243 bk_w244) (bk_e bk_w245 bk_w246))))))))
theorem bk_fld_0_ok : ∀ ix e, bk_fld_0 ix = some e → bk_cF 0 ix e = true := by
  intro ix e h
  unfold bk_fld_0 at h
  repeat' (first | (rcases bk_bif h with ⟨hb, h⟩ | ⟨hb, h⟩) | (exact nomatch h) | (cases h; obtain rfl := Nat.eq_of_beq_eq_true hb; decide +kernel))
theorem bk_fld_1_ok : ∀ ix e, bk_fld_1 ix = some e → bk_cF 1 ix e = true := by
  intro ix e h
  unfold bk_fld_1 at h
  repeat' (first | (rcases bk_bif h with ⟨hb, h⟩ | ⟨hb, h⟩) | (exact nomatch h) | (cases h; obtain rfl := Nat.eq_of_beq_eq_true hb; decide +kernel))
theorem bk_fld_3_ok : ∀ ix e, bk_fld_3 ix = some e → bk_cF 3 ix e = true := by
  intro ix e h
  unfold bk_fld_3 at h
  repeat' (first | (rcases bk_bif h with ⟨hb, h⟩ | ⟨hb, h⟩) | (exact nomatch h) | (cases h; obtain rfl := Nat.eq_of_beq_eq_true hb; decide +kernel))
theorem bk_fld_4_ok : ∀ ix e, bk_fld_4 ix = some e → bk_cF 4 ix e = true := by
  intro ix e h
  unfold bk_fld_4 at h
  repeat' (first | (rcases bk_bif h with ⟨hb, h⟩ | ⟨hb, h⟩) | (exact nomatch h) | (cases h; obtain rfl := Nat.eq_of_beq_eq_true hb; decide +kernel))
theorem bk_fld_5_ok : ∀ ix e, bk_fld_5 ix = some e → bk_cF 5 ix e = true := by
  intro ix e h
  unfold bk_fld_5 at h
  repeat' (first | (rcases bk_bif h with ⟨hb, h⟩ | ⟨hb, h⟩) | (exact nomatch h) | (cases h; obtain rfl := Nat.eq_of_beq_eq_true hb; decide +kernel))
theorem bk_fld_6_ok : ∀ ix e, bk_fld_6 ix = some e → bk_cF 6 ix e = true := by
  intro ix e h
  unfold bk_fld_6 at h
  repeat' (first | (rcases bk_bif h with ⟨hb, h⟩ | ⟨hb, h⟩) | (exact nomatch h) | (cases h; obtain rfl := Nat.eq_of_beq_eq_true hb; decide +kernel))
theorem bk_fld_7_ok : ∀ ix e, bk_fld_7 ix = some e → bk_cF 7 ix e = true := by
  intro ix e h
  unfold bk_fld_7 at h
  repeat' (first | (rcases bk_bif h with ⟨hb, h⟩ | ⟨hb, h⟩) | (exact nomatch h) | (cases h; obtain rfl := Nat.eq_of_beq_eq_true hb; decide +kernel))
theorem bk_fld_8_ok : ∀ ix e, bk_fld_8 ix = some e → bk_cF 8 ix e = true := by
  intro ix e h
  unfold bk_fld_8 at h
  repeat' (first | (rcases bk_bif h with ⟨hb, h⟩ | ⟨hb, h⟩) | (exact nomatch h) | (cases h; obtain rfl := Nat.eq_of_beq_eq_true hb; decide +kernel))
theorem bk_fld_9_ok : ∀ ix e, bk_fld_9 ix = some e → bk_cF 9 ix e = true := by
  intro ix e h
  unfold bk_fld_9 at h
  repeat' (first | (rcases bk_bif h with ⟨hb, h⟩ | ⟨hb, h⟩) | (exact nomatch h) | (cases h; obtain rfl := Nat.eq_of_beq_eq_true hb; decide +kernel))
theorem bk_fld_10_ok : ∀ ix e, bk_fld_10 ix = some e → bk_cF 10 ix e = true := by
  intro ix e h
  unfold bk_fld_10 at h
  repeat' (first | (rcases bk_bif h with ⟨hb, h⟩ | ⟨hb, h⟩) | (exact nomatch h) | (cases h; obtain rfl := Nat.eq_of_beq_eq_true hb; decide +kernel))
theorem bk_fld_11_ok : ∀ ix e, bk_fld_11 ix = some e → bk_cF 11 ix e = true := by
  intro ix e h
  unfold bk_fld_11 at h
  repeat' (first | (rcases bk_bif h with ⟨hb, h⟩ | ⟨hb, h⟩) | (exact nomatch h) | (cases h; obtain rfl := Nat.eq_of_beq_eq_true hb; decide +kernel))
theorem bk_fld_12_ok : ∀ ix e, bk_fld_12 ix = some e → bk_cF 12 ix e = true := by
  intro ix e h
  unfold bk_fld_12 at h
  repeat' (first | (rcases bk_bif h with ⟨hb, h⟩ | ⟨hb, h⟩) | (exact nomatch h) | (cases h; obtain rfl := Nat.eq_of_beq_eq_true hb; decide +kernel))
theorem bk_fld_13_ok : ∀ ix e, bk_fld_13 ix = some e → bk_cF 13 ix e = true := by
  intro ix e h
  unfold bk_fld_13 at h
  repeat' (first | (rcases bk_bif h with ⟨hb, h⟩ | ⟨hb, h⟩) | (exact nomatch h) | (cases h; obtain rfl := Nat.eq_of_beq_eq_true hb; decide +kernel))
theorem bk_fld_ok : ∀ own ix e, bk_fld own ix = some e → bk_cF own ix e = true := by
  intro own ix e h
  unfold bk_fld at h
  repeat' (first | (rcases bk_bif h with ⟨hb, h⟩ | ⟨hb, h⟩) | (exact nomatch h) | (obtain rfl := Nat.eq_of_beq_eq_true hb; first | exact bk_fld_0_ok _ _ h | exact bk_fld_1_ok _ _ h | exact bk_fld_3_ok _ _ h | exact bk_fld_4_ok _ _ h | exact bk_fld_5_ok _ _ h | exact bk_fld_6_ok _ _ h | exact bk_fld_7_ok _ _ h | exact bk_fld_8_ok _ _ h | exact bk_fld_9_ok _ _ h | exact bk_fld_10_ok _ _ h | exact bk_fld_11_ok _ _ h | exact bk_fld_12_ok _ _ h | exact bk_fld_13_ok _ _ h))
theorem bk_cal_0_ok : ∀ ix e, bk_cal_0 ix = some e → bk_cC 0 ix e = true := by
  intro ix e h
  unfold bk_cal_0 at h
  repeat' (first | (rcases bk_bif h with ⟨hb, h⟩ | ⟨hb, h⟩) | (exact nomatch h) | (cases h; obtain rfl := Nat.eq_of_beq_eq_true hb; decide +kernel))
theorem bk_cal_1_ok : ∀ ix e, bk_cal_1 ix = some e → bk_cC 1 ix e = true := by
  intro ix e h
  unfold bk_cal_1 at h
  repeat' (first | (rcases bk_bif h with ⟨hb, h⟩ | ⟨hb, h⟩) | (exact nomatch h) | (cases h; obtain rfl := Nat.eq_of_beq_eq_true hb; decide +kernel))
theorem bk_cal_3_ok : ∀ ix e, bk_cal_3 ix = some e → bk_cC 3 ix e = true := by
  intro ix e h
  unfold bk_cal_3 at h
  repeat' (first | (rcases bk_bif h with ⟨hb, h⟩ | ⟨hb, h⟩) | (exact nomatch h) | (cases h; obtain rfl := Nat.eq_of_beq_eq_true hb; decide +kernel))
theorem bk_cal_4_ok : ∀ ix e, bk_cal_4 ix = some e → bk_cC 4 ix e = true := by
  intro ix e h
  unfold bk_cal_4 at h
  repeat' (first | (rcases bk_bif h with ⟨hb, h⟩ | ⟨hb, h⟩) | (exact nomatch h) | (cases h; obtain rfl := Nat.eq_of_beq_eq_true hb; decide +kernel))
theorem bk_cal_5_ok : ∀ ix e, bk_cal_5 ix = some e → bk_cC 5 ix e = true := by
  intro ix e h
  unfold bk_cal_5 at h
  repeat' (first | (rcases bk_bif h with ⟨hb, h⟩ | ⟨hb, h⟩) | (exact nomatch h) | (cases h; obtain rfl := Nat.eq_of_beq_eq_true hb; decide +kernel))
theorem bk_cal_6_ok : ∀ ix e, bk_cal_6 ix = some e → bk_cC 6 ix e = true := by
  intro ix e h
  unfold bk_cal_6 at h
  repeat' (first | (rcases bk_bif h with ⟨hb, h⟩ | ⟨hb, h⟩) | (exact nomatch h) | (cases h; obtain rfl := Nat.eq_of_beq_eq_true hb; decide +kernel))
theorem bk_cal_7_ok : ∀ ix e, bk_cal_7 ix = some e → bk_cC 7 ix e = true := by
  intro ix e h
  unfold bk_cal_7 at h
  repeat' (first | (rcases bk_bif h with ⟨hb, h⟩ | ⟨hb, h⟩) | (exact nomatch h) | (cases h; obtain rfl := Nat.eq_of_beq_eq_true hb; decide +kernel))
theorem bk_cal_8_ok : ∀ ix e, bk_cal_8 ix = some e → bk_cC 8 ix e = true := by
  intro ix e h
  unfold bk_cal_8 at h
  repeat' (first | (rcases bk_bif h with ⟨hb, h⟩ | ⟨hb, h⟩) | (exact nomatch h) | (cases h; obtain rfl := Nat.eq_of_beq_eq_true hb; decide +kernel))
theorem bk_cal_9_ok : ∀ ix e, bk_cal_9 ix = some e → bk_cC 9 ix e = true := by
  intro ix e h
  unfold bk_cal_9 at h
  repeat' (first | (rcases bk_bif h with ⟨hb, h⟩ | ⟨hb, h⟩) | (exact nomatch h) | (cases h; obtain rfl := Nat.eq_of_beq_eq_true hb; decide +kernel))
theorem bk_cal_10_ok : ∀ ix e, bk_cal_10 ix = some e → bk_cC 10 ix e = true := by
  intro ix e h
  unfold bk_cal_10 at h
  repeat' (first | (rcases bk_bif h with ⟨hb, h⟩ | ⟨hb, h⟩) | (exact nomatch h) | (cases h; obtain rfl := Nat.eq_of_beq_eq_true hb; decide +kernel))
theorem bk_cal_11_ok : ∀ ix e, bk_cal_11 ix = some e → bk_cC 11 ix e = true := by
  intro ix e h
  unfold bk_cal_11 at h
  repeat' (first | (rcases bk_bif h with ⟨hb, h⟩ | ⟨hb, h⟩) | (exact nomatch h) | (cases h; obtain rfl := Nat.eq_of_beq_eq_true hb; decide +kernel))
theorem bk_cal_12_ok : ∀ ix e, bk_cal_12 ix = some e → bk_cC 12 ix e = true := by
  intro ix e h
  unfold bk_cal_12 at h
  repeat' (first | (rcases bk_bif h with ⟨hb, h⟩ | ⟨hb, h⟩) | (exact nomatch h) | (cases h; obtain rfl := Nat.eq_of_beq_eq_true hb; decide +kernel))
theorem bk_cal_13_ok : ∀ ix e, bk_cal_13 ix = some e → bk_cC 13 ix e = true := by
  intro ix e h
  unfold bk_cal_13 at h
  repeat' (first | (rcases bk_bif h with ⟨hb, h⟩ | ⟨hb, h⟩) | (exact nomatch h) | (cases h; obtain rfl := Nat.eq_of_beq_eq_true hb; decide +kernel))
theorem bk_cal_14_ok : ∀ ix e, bk_cal_14 ix = some e → bk_cC 14 ix e = true := by
  intro ix e h
  unfold bk_cal_14 at h
  repeat' (first | (rcases bk_bif h with ⟨hb, h⟩ | ⟨hb, h⟩) | (exact nomatch h) | (cases h; obtain rfl := Nat.eq_of_beq_eq_true hb; decide +kernel))
theorem bk_cal_ok : ∀ own ix e, bk_cal own ix = some e → bk_cC own ix e = true := by
  intro own ix e h
  unfold bk_cal at h
  repeat' (first | (rcases bk_bif h with ⟨hb, h⟩ | ⟨hb, h⟩) | (exact nomatch h) | (obtain rfl := Nat.eq_of_beq_eq_true hb; first | exact bk_cal_0_ok _ _ h | exact bk_cal_1_ok _ _ h | exact bk_cal_3_ok _ _ h | exact bk_cal_4_ok _ _ h | exact bk_cal_5_ok _ _ h | exact bk_cal_6_ok _ _ h | exact bk_cal_7_ok _ _ h | exact bk_cal_8_ok _ _ h | exact bk_cal_9_ok _ _ h | exact bk_cal_10_ok _ _ h | exact bk_cal_11_ok _ _ h | exact bk_cal_12_ok _ _ h | exact bk_cal_13_ok _ _ h | exact bk_cal_14_ok _ _ h))
theorem bk_new_0_ok : ∀ ix e, bk_new_0 ix = some e → bk_cN 0 ix e = true := by
  intro ix e h
  unfold bk_new_0 at h
  repeat' (first | (rcases bk_bif h with ⟨hb, h⟩ | ⟨hb, h⟩) | (exact nomatch h) | (cases h; obtain rfl := Nat.eq_of_beq_eq_true hb; decide +kernel))
theorem bk_new_1_ok : ∀ ix e, bk_new_1 ix = some e → bk_cN 1 ix e = true := by
  intro ix e h
  unfold bk_new_1 at h
  repeat' (first | (rcases bk_bif h with ⟨hb, h⟩ | ⟨hb, h⟩) | (exact nomatch h) | (cases h; obtain rfl := Nat.eq_of_beq_eq_true hb; decide +kernel))
theorem bk_new_3_ok : ∀ ix e, bk_new_3 ix = some e → bk_cN 3 ix e = true := by
  intro ix e h
  unfold bk_new_3 at h
  repeat' (first | (rcases bk_bif h with ⟨hb, h⟩ | ⟨hb, h⟩) | (exact nomatch h) | (cases h; obtain rfl := Nat.eq_of_beq_eq_true hb; decide +kernel))
theorem bk_new_4_ok : ∀ ix e, bk_new_4 ix = some e → bk_cN 4 ix e = true := by
  intro ix e h
  unfold bk_new_4 at h
  repeat' (first | (rcases bk_bif h with ⟨hb, h⟩ | ⟨hb, h⟩) | (exact nomatch h) | (cases h; obtain rfl := Nat.eq_of_beq_eq_true hb; decide +kernel))
theorem bk_new_9_ok : ∀ ix e, bk_new_9 ix = some e → bk_cN 9 ix e = true := by
  intro ix e h
  unfold bk_new_9 at h
  repeat' (first | (rcases bk_bif h with ⟨hb, h⟩ | ⟨hb, h⟩) | (exact nomatch h) | (cases h; obtain rfl := Nat.eq_of_beq_eq_true hb; decide +kernel))
theorem bk_new_10_ok : ∀ ix e, bk_new_10 ix = some e → bk_cN 10 ix e = true := by
  intro ix e h
  unfold bk_new_10 at h
  repeat' (first | (rcases bk_bif h with ⟨hb, h⟩ | ⟨hb, h⟩) | (exact nomatch h) | (cases h; obtain rfl := Nat.eq_of_beq_eq_true hb; decide +kernel))
theorem bk_new_13_ok : ∀ ix e, bk_new_13 ix = some e → bk_cN 13 ix e = true := by
  intro ix e h
  unfold bk_new_13 at h
  repeat' (first | (rcases bk_bif h with ⟨hb, h⟩ | ⟨hb, h⟩) | (exact nomatch h) | (cases h; obtain rfl := Nat.eq_of_beq_eq_true hb; decide +kernel))
theorem bk_new_14_ok : ∀ ix e, bk_new_14 ix = some e → bk_cN 14 ix e = true := by
  intro ix e h
  unfold bk_new_14 at h
  repeat' (first | (rcases bk_bif h with ⟨hb, h⟩ | ⟨hb, h⟩) | (exact nomatch h) | (cases h; obtain rfl := Nat.eq_of_beq_eq_true hb; decide +kernel))
theorem bk_new_ok : ∀ own ix e, bk_new own ix = some e → bk_cN own ix e = true := by
  intro own ix e h
  unfold bk_new at h
  repeat' (first | (rcases bk_bif h with ⟨hb, h⟩ | ⟨hb, h⟩) | (exact nomatch h) | (obtain rfl := Nat.eq_of_beq_eq_true hb; first | exact bk_new_0_ok _ _ h | exact bk_new_1_ok _ _ h | exact bk_new_3_ok _ _ h | exact bk_new_4_ok _ _ h | exact bk_new_9_ok _ _ h | exact bk_new_10_ok _ _ h | exact bk_new_13_ok _ _ h | exact bk_new_14_ok _ _ h))
theorem bk_str_9_ok : ∀ ix e, bk_str_9 ix = some e → bk_cS 9 ix e = true := by
  intro ix e h
  unfold bk_str_9 at h
  repeat' (first | (rcases bk_bif h with ⟨hb, h⟩ | ⟨hb, h⟩) | (exact nomatch h) | (cases h; obtain rfl := Nat.eq_of_beq_eq_true hb; decide +kernel))
theorem bk_str_13_ok : ∀ ix e, bk_str_13 ix = some e → bk_cS 13 ix e = true := by
  intro ix e h
  unfold bk_str_13 at h
  repeat' (first | (rcases bk_bif h with ⟨hb, h⟩ | ⟨hb, h⟩) | (exact nomatch h) | (cases h; obtain rfl := Nat.eq_of_beq_eq_true hb; decide +kernel))
theorem bk_str_ok : ∀ own ix e, bk_str own ix = some e → bk_cS own ix e = true := by
  intro own ix e h
  unfold bk_str at h
  repeat' (first | (rcases bk_bif h with ⟨hb, h⟩ | ⟨hb, h⟩) | (exact nomatch h) | (obtain rfl := Nat.eq_of_beq_eq_true hb; first | exact bk_str_9_ok _ _ h | exact bk_str_13_ok _ _ h))
theorem bk_lng_9_ok : ∀ ix e, bk_lng_9 ix = some e → bk_cL 9 ix e = true := by
  intro ix e h
  unfold bk_lng_9 at h
  repeat' (first | (rcases bk_bif h with ⟨hb, h⟩ | ⟨hb, h⟩) | (exact nomatch h) | (cases h; obtain rfl := Nat.eq_of_beq_eq_true hb; decide +kernel))
theorem bk_lng_10_ok : ∀ ix e, bk_lng_10 ix = some e → bk_cL 10 ix e = true := by
  intro ix e h
  unfold bk_lng_10 at h
  repeat' (first | (rcases bk_bif h with ⟨hb, h⟩ | ⟨hb, h⟩) | (exact nomatch h) | (cases h; obtain rfl := Nat.eq_of_beq_eq_true hb; decide +kernel))
theorem bk_lng_13_ok : ∀ ix e, bk_lng_13 ix = some e → bk_cL 13 ix e = true := by
  intro ix e h
  unfold bk_lng_13 at h
  repeat' (first | (rcases bk_bif h with ⟨hb, h⟩ | ⟨hb, h⟩) | (exact nomatch h) | (cases h; obtain rfl := Nat.eq_of_beq_eq_true hb; decide +kernel))
theorem bk_lng_ok : ∀ own ix e, bk_lng own ix = some e → bk_cL own ix e = true := by
  intro own ix e h
  unfold bk_lng at h
  repeat' (first | (rcases bk_bif h with ⟨hb, h⟩ | ⟨hb, h⟩) | (exact nomatch h) | (obtain rfl := Nat.eq_of_beq_eq_true hb; first | exact bk_lng_9_ok _ _ h | exact bk_lng_10_ok _ _ h | exact bk_lng_13_ok _ _ h))
