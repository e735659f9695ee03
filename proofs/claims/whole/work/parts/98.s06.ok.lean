/-! THE TABLES ARE THOSE OF THE CLASS FILES. -/
def bk_dk (cc : ByteArray) (pc : Nat) (I : Instr) (k nx : Nat) : Bool := decide (decode cc pc = .ok (I, k)) && Nat.beq nx (pc + k)
def bk_tg (pc : Nat) (off : Int) (sw : List (Int32 × Nat)) : Bool := match sw with
  | q :: _ => decide ((pc : Int) + off = (q.2 : Int))
  | [] => false
def bk_swT (pc : Nat) : Int → List Int → List (Int32 × Nat) → Bool
  | _, [], [] => true
  | lo, o :: os, q :: qs => decide ((pc : Int) + o = (q.2 : Int)) && decide (q.1.toInt = lo) && bk_swT pc (lo + 1) os qs
  | _, _, _ => false
def bk_swL (pc : Nat) : List (Int × Int) → List (Int32 × Nat) → Bool
  | [], [] => true
  | o :: os, q :: qs => decide ((pc : Int) + o.2 = (q.2 : Int)) && decide (q.1.toInt = o.1) && bk_swL pc os qs
  | _, _ => false
def bk_any (cc : ByteArray) (pc : Nat) (I : Instr) : Bool := match decode cc pc with
  | .ok x => decide (x.1 = I)
  | .error _ => false
def bk_ok (cc : ByteArray) (pc : Nat) (e : bk_I) : Bool := match e.1 with
  | .iconst z => bk_dk cc pc e.1 1 e.2.1 && decide (Int32.ofInt z = e.2.2.2)
  | .bipush z => bk_dk cc pc e.1 2 e.2.1 && decide ((Int8.ofInt z).toInt32 = e.2.2.2)
  | .sipush z => bk_dk cc pc e.1 3 e.2.1 && decide ((Int16.ofInt z).toInt32 = e.2.2.2)
  | .iinc _ z => bk_dk cc pc e.1 3 e.2.1 && decide (Int32.ofInt z = e.2.2.2)
  | .goto o => bk_dk cc pc e.1 3 e.2.1 && bk_tg pc o e.2.2.1
  | .ifCond _ o => bk_dk cc pc e.1 3 e.2.1 && bk_tg pc o e.2.2.1
  | .if_icmp _ o => bk_dk cc pc e.1 3 e.2.1 && bk_tg pc o e.2.2.1
  | .tableswitch d lo hi offs => bk_any cc pc e.1 && decide ((pc : Int) + d = (e.2.1 : Int)) && bk_swT pc lo offs.toList e.2.2.1 && decide (hi = lo + (offs.toList.length : Int) - 1)
  | .lookupswitch d ps => bk_any cc pc e.1 && decide ((pc : Int) + d = (e.2.1 : Int)) && bk_swL pc ps.toList e.2.2.1 && (ps.toList.zip (ps.toList.drop 1)).all (fun (a, next) => a.1 < next.1)
  | .iload _ | .lload _ | .dload _ | .aload _ | .istore _ | .lstore _ | .dstore _ | .astore _ | .ldc _ | .newarray _ => bk_dk cc pc e.1 2 e.2.1
  | .getfield _ | .putfield _ | .getstatic _ | .invokevirtual _ | .invokestatic _ | .invokespecial _ | .new _ | .ldc2_w _ | .ldc_w _ => bk_dk cc pc e.1 3 e.2.1
  | _ => bk_dk cc pc e.1 1 e.2.1
theorem bk_lt {α : Type} {x n : Nat} {t : Option α} {e : α} (h : (bif Nat.blt x n then t else none) = some e) : x < n := by
  cases hb : Nat.blt x n with
  | true => exact Nat.lt_of_lt_of_le (Nat.lt_succ_self x) (Nat.le_of_ble_eq_true hb)
  | false => rw [hb] at h; exact nomatch h
theorem bk_e {α : Type} {P : α → Prop} {b : Bool} {x y : α} (hx : P x) (hy : P y) : P (bif b then x else y) := by
  cases b
  · exact hy
  · exact hx
theorem bk_bif {α : Type} {b : Bool} {x y : Option α} {e : α} (h : (bif b then x else y) = some e) : (b = true ∧ x = some e) ∨ (b = false ∧ y = some e) := by
  cases b
  · exact Or.inr ⟨rfl, h⟩
  · exact Or.inl ⟨rfl, h⟩
def bk_at? (i : Nat) (w : Cond) : Bool := decide (lw_tbl[i]? = some w)
def bk_pos (i : Nat) (w : Cond) : Bool := bk_at? i w && goodWord w
/-- the field's class and number, and its link, are as told -/
def bk_cF (own ix : Nat) (e : Nat × Nat × Nat) : Bool := match bk_cls[e.1]? with
  | some (_, T, N) => decide (e.2.1 < N) && (bk_pos e.2.2 (.fieldLink (bk_rn own) ix (T e.2.1).1 (T e.2.1).2.1 (T e.2.1).2.2.1) || bk_at? e.2.2 (.fieldLinkNest (bk_rn own) ix (T e.2.1).1 (T e.2.1).2.1 (T e.2.1).2.2.1 "BarkMakersModel"))
  | none => false
def bk_cC (own ix : Nat) (e : Nat × Nat × Nat) : Bool := match e.1 with
  | 0 => bk_pos e.2.2 (.methodLink (bk_rn own) ix (bk_y e.2.1)) || bk_at? e.2.2 (.methodLinkNest (bk_rn own) ix (bk_y e.2.1) "BarkMakersModel")
  | 5 => bk_pos e.2.2 (.methodLink (bk_rn own) ix (bk_y e.2.1))
  | 1 => bk_pos e.2.2 (.methodLink (bk_rn own) ix Lib.Math.max.name)
  | 2 => bk_pos e.2.2 (.methodLink (bk_rn own) ix Lib.Math.min.name)
  | 3 => bk_pos e.2.2 (.methodLink (bk_rn own) ix arraycopyName)
  | 4 => bk_pos e.2.2 (.methodLink (bk_rn own) ix objectInit)
  | 6 => bk_pos e.2.2 (.methodLink (bk_rn own) ix ⟨"java/lang/String", "length", "()I"⟩)
  | 7 => bk_pos e.2.2 (.methodLink (bk_rn own) ix ⟨"java/lang/String", "charAt", "(I)C"⟩)
  | 8 => bk_pos e.2.2 (.methodLink (bk_rn own) ix ⟨"java/lang/String", "indexOf", "(I)I"⟩)
  | _ => false
def bk_cN (own ix : Nat) (e : (Nat ⊕ String) × Nat) : Bool := match e.1 with
  | .inl ci => bk_pos e.2 (.classLink (bk_rn own) ix (bk_rn ci)) && decide (ci < 14)
  | .inr E => bk_pos e.2 (.classLink (bk_rn own) ix E)
def bk_cS (own ix : Nat) (e : Nat × Nat) : Bool := bk_at? e.2 (.stringRef (bk_rn own) ix (bk_tx e.1)) && decide (e.1 < bk_nS)
def bk_cL (own ix : Nat) (e : Int64 × Nat) : Bool := bk_pos e.2 (.constantLong (bk_rn own) ix e.1)
/-- beside its own bytes: a final field is written by a constructor of its own class -/
def bk_xt (r : bk_M) (_ : Nat) (e : bk_I) : Bool := match e.1 with
  | .putfield ix => match bk_fld r.2.2.2.2.2.2.1 ix with
    | some (ci, k, _) => match bk_cls[ci]? with
      | some (_, T, _) => !(T k).2.2.2 || (r.2.2.1.name == "<init>" && (T k).1 == bk_rn r.2.2.2.2.2.2.1 && bk_cF r.2.2.2.2.2.2.1 ix (ci, k, match bk_fld r.2.2.2.2.2.2.1 ix with | some q => q.2.2 | none => 0))
      | none => false
    | none => true
  | _ => true
def bk_ck (r : bk_M) (pc : Nat) : Bool := match r.1 pc with
  | none => true
  | some e => bk_ok r.2.2.2.1 pc e && bk_xt r pc e
def bk_PI (r : bk_M) : Prop := (∀ x e, r.1 x = some e → x < r.2.1) ∧ ∀ x, x < r.2.1 → bk_ck r x = true
theorem bk_PIof {r : bk_M} (h1 : ∀ x e, r.1 x = some e → x < r.2.1) (h2 : (List.range r.2.1).all (bk_ck r) = true) : bk_PI r := ⟨h1, fun x hx => List.all_eq_true.mp h2 x (List.mem_range.mpr hx)⟩
theorem bk_chunk {r : bk_M} {a k : Nat} (h : (List.range k).all (fun i => bk_ck r (a + i)) = true) (x : Nat) (h1 : a ≤ x) (h2 : x < a + k) : bk_ck r x = true := by
  have := List.all_eq_true.mp h (x - a) (List.mem_range.mpr (by omega))
  rwa [show a + (x - a) = x by omega] at this
/-- the method's words -/
def bk_wC (r : bk_M) : Cond := match r.2.2.2.2.2.2.2.2.1 with
  | [] => .code r.2.2.1 r.2.2.2.1 r.2.2.2.2.1 r.2.2.2.2.2.1
  | hh => .codeWith r.2.2.1 r.2.2.2.1 r.2.2.2.2.1 r.2.2.2.2.2.1 hh
def bk_pw (r : bk_M) : Bool := decide (r.2.2.1 = x) || (bk_pos r.2.2.2.2.2.2.2.2.2.1 (bk_wC r) && bk_pos r.2.2.2.2.2.2.2.2.2.2.2.2.2 (.initialized r.2.2.1.cls) && decide (r.2.2.1.cls = bk_rn r.2.2.2.2.2.2.1) && plainName r.2.2.1.cls &&
  decide (r.2.2.1.cls ≠ "java/lang/invoke/MethodHandle") && decide (r.2.2.1.cls ≠ "java/lang/invoke/VarHandle") && decide ((parseMethodDescriptor r.2.2.1.desc).map (fun d => d.parameters.length) = some r.2.2.2.2.2.2.2.1) && decide (r.2.2.2.2.1 ≤ 20) &&
  (bk_pos r.2.2.2.2.2.2.2.2.2.2.2.1 (.static r.2.2.1) || (bk_pos r.2.2.2.2.2.2.2.2.2.2.1 (.instanceMethod r.2.2.1) && (r.2.2.1.name == "<init>" || bk_pos r.2.2.2.2.2.2.2.2.2.2.2.2.1 (.selects r.2.2.1.cls r.2.2.1 r.2.2.1)))))
def bk_PW (r : bk_M) : Prop := bk_pw r = true

theorem bk_r0 : bk_PI bk_m0 := bk_PIof (fun _ _ h => bk_lt h) (by decide +kernel)
theorem bk_r1 : bk_PI bk_m1 := bk_PIof (fun _ _ h => bk_lt h) (by decide +kernel)
theorem bk_r2 : bk_PI bk_m2 := bk_PIof (fun _ _ h => bk_lt h) (by decide +kernel)
theorem bk_r3 : bk_PI bk_m3 := bk_PIof (fun _ _ h => bk_lt h) (by decide +kernel)
theorem bk_r4 : bk_PI bk_m4 := bk_PIof (fun _ _ h => bk_lt h) (by decide +kernel)
theorem bk_r5 : bk_PI bk_m5 := bk_PIof (fun _ _ h => bk_lt h) (by decide +kernel)
theorem bk_r6 : bk_PI bk_m6 := bk_PIof (fun _ _ h => bk_lt h) (by decide +kernel)
theorem bk_r7 : bk_PI bk_m7 := bk_PIof (fun _ _ h => bk_lt h) (by decide +kernel)
theorem bk_r8 : bk_PI bk_m8 := bk_PIof (fun _ _ h => bk_lt h) (by decide +kernel)
theorem bk_r9 : bk_PI bk_m9 := bk_PIof (fun _ _ h => bk_lt h) (by decide +kernel)
theorem bk_r10 : bk_PI bk_m10 := bk_PIof (fun _ _ h => bk_lt h) (by decide +kernel)
theorem bk_r11 : bk_PI bk_m11 := bk_PIof (fun _ _ h => bk_lt h) (by decide +kernel)
theorem bk_r12 : bk_PI bk_m12 := bk_PIof (fun _ _ h => bk_lt h) (by decide +kernel)
theorem bk_r13 : bk_PI bk_m13 := bk_PIof (fun _ _ h => bk_lt h) (by decide +kernel)
theorem bk_r14 : bk_PI bk_m14 := bk_PIof (fun _ _ h => bk_lt h) (by decide +kernel)
theorem bk_r15 : bk_PI bk_m15 := bk_PIof (fun _ _ h => bk_lt h) (by decide +kernel)
theorem bk_r16 : bk_PI bk_m16 := bk_PIof (fun _ _ h => bk_lt h) (by decide +kernel)
theorem bk_r17 : bk_PI bk_m17 := bk_PIof (fun _ _ h => bk_lt h) (by decide +kernel)
theorem bk_r18 : bk_PI bk_m18 := bk_PIof (fun _ _ h => bk_lt h) (by decide +kernel)
theorem bk_r19 : bk_PI bk_m19 := bk_PIof (fun _ _ h => bk_lt h) (by decide +kernel)
theorem bk_r20 : bk_PI bk_m20 := bk_PIof (fun _ _ h => bk_lt h) (by decide +kernel)
theorem bk_r21 : bk_PI bk_m21 := bk_PIof (fun _ _ h => bk_lt h) (by decide +kernel)
theorem bk_r22 : bk_PI bk_m22 := bk_PIof (fun _ _ h => bk_lt h) (by decide +kernel)
theorem bk_r23 : bk_PI bk_m23 := bk_PIof (fun _ _ h => bk_lt h) (by decide +kernel)
theorem bk_r24 : bk_PI bk_m24 := bk_PIof (fun _ _ h => bk_lt h) (by decide +kernel)
theorem bk_r25 : bk_PI bk_m25 := bk_PIof (fun _ _ h => bk_lt h) (by decide +kernel)
theorem bk_r26 : bk_PI bk_m26 := bk_PIof (fun _ _ h => bk_lt h) (by decide +kernel)
theorem bk_r27 : bk_PI bk_m27 := bk_PIof (fun _ _ h => bk_lt h) (by decide +kernel)
theorem bk_r28 : bk_PI bk_m28 := bk_PIof (fun _ _ h => bk_lt h) (by decide +kernel)
theorem bk_r29 : bk_PI bk_m29 := bk_PIof (fun _ _ h => bk_lt h) (by decide +kernel)
theorem bk_r30 : bk_PI bk_m30 := bk_PIof (fun _ _ h => bk_lt h) (by decide +kernel)
theorem bk_r31 : bk_PI bk_m31 := bk_PIof (fun _ _ h => bk_lt h) (by decide +kernel)
theorem bk_r32 : bk_PI bk_m32 := bk_PIof (fun _ _ h => bk_lt h) (by decide +kernel)
theorem bk_r33 : bk_PI bk_m33 := bk_PIof (fun _ _ h => bk_lt h) (by decide +kernel)
theorem bk_r34 : bk_PI bk_m34 := bk_PIof (fun _ _ h => bk_lt h) (by decide +kernel)
theorem bk_r35 : bk_PI bk_m35 := bk_PIof (fun _ _ h => bk_lt h) (by decide +kernel)
theorem bk_r36 : bk_PI bk_m36 := bk_PIof (fun _ _ h => bk_lt h) (by decide +kernel)
theorem bk_r37 : bk_PI bk_m37 := bk_PIof (fun _ _ h => bk_lt h) (by decide +kernel)
theorem bk_r38 : bk_PI bk_m38 := bk_PIof (fun _ _ h => bk_lt h) (by decide +kernel)
theorem bk_r39 : bk_PI bk_m39 := bk_PIof (fun _ _ h => bk_lt h) (by decide +kernel)
theorem bk_r40 : bk_PI bk_m40 := bk_PIof (fun _ _ h => bk_lt h) (by decide +kernel)
theorem bk_r41 : bk_PI bk_m41 := bk_PIof (fun _ _ h => bk_lt h) (by decide +kernel)
theorem bk_r42 : bk_PI bk_m42 := bk_PIof (fun _ _ h => bk_lt h) (by decide +kernel)
theorem bk_r43 : bk_PI bk_m43 := bk_PIof (fun _ _ h => bk_lt h) (by decide +kernel)
theorem bk_r44 : bk_PI bk_m44 := bk_PIof (fun _ _ h => bk_lt h) (by decide +kernel)
theorem bk_r45 : bk_PI bk_m45 := bk_PIof (fun _ _ h => bk_lt h) (by decide +kernel)
theorem bk_r46 : bk_PI bk_m46 := bk_PIof (fun _ _ h => bk_lt h) (by decide +kernel)
theorem bk_r47 : bk_PI bk_m47 := bk_PIof (fun _ _ h => bk_lt h) (by decide +kernel)
theorem bk_r48 : bk_PI bk_m48 := bk_PIof (fun _ _ h => bk_lt h) (by decide +kernel)
theorem bk_r49 : bk_PI bk_m49 := bk_PIof (fun _ _ h => bk_lt h) (by decide +kernel)
theorem bk_r50 : bk_PI bk_m50 := bk_PIof (fun _ _ h => bk_lt h) (by decide +kernel)
theorem bk_r51 : bk_PI bk_m51 := bk_PIof (fun _ _ h => bk_lt h) (by decide +kernel)
theorem bk_r52 : bk_PI bk_m52 := bk_PIof (fun _ _ h => bk_lt h) (by decide +kernel)
theorem bk_r53 : bk_PI bk_m53 := bk_PIof (fun _ _ h => bk_lt h) (by decide +kernel)
theorem bk_r54 : bk_PI bk_m54 := bk_PIof (fun _ _ h => bk_lt h) (by decide +kernel)
theorem bk_r55 : bk_PI bk_m55 := bk_PIof (fun _ _ h => bk_lt h) (by decide +kernel)
theorem bk_r56 : bk_PI bk_m56 := bk_PIof (fun _ _ h => bk_lt h) (by decide +kernel)
theorem bk_r57 : bk_PI bk_m57 := bk_PIof (fun _ _ h => bk_lt h) (by decide +kernel)
theorem bk_r58 : bk_PI bk_m58 := bk_PIof (fun _ _ h => bk_lt h) (by decide +kernel)
theorem bk_r59 : bk_PI bk_m59 := bk_PIof (fun _ _ h => bk_lt h) (by decide +kernel)
theorem bk_r60 : bk_PI bk_m60 := bk_PIof (fun _ _ h => bk_lt h) (by decide +kernel)
theorem bk_r61 : bk_PI bk_m61 := bk_PIof (fun _ _ h => bk_lt h) (by decide +kernel)
theorem bk_r62 : bk_PI bk_m62 := bk_PIof (fun _ _ h => bk_lt h) (by decide +kernel)
theorem bk_r63 : bk_PI bk_m63 := bk_PIof (fun _ _ h => bk_lt h) (by decide +kernel)
theorem bk_r64 : bk_PI bk_m64 := bk_PIof (fun _ _ h => bk_lt h) (by decide +kernel)
theorem bk_r65 : bk_PI bk_m65 := bk_PIof (fun _ _ h => bk_lt h) (by decide +kernel)
theorem bk_r66 : bk_PI bk_m66 := bk_PIof (fun _ _ h => bk_lt h) (by decide +kernel)
theorem bk_r67 : bk_PI bk_m67 := bk_PIof (fun _ _ h => bk_lt h) (by decide +kernel)
theorem bk_r68 : bk_PI bk_m68 := bk_PIof (fun _ _ h => bk_lt h) (by decide +kernel)
theorem bk_r69 : bk_PI bk_m69 := bk_PIof (fun _ _ h => bk_lt h) (by decide +kernel)
theorem bk_r70 : bk_PI bk_m70 := bk_PIof (fun _ _ h => bk_lt h) (by decide +kernel)
theorem bk_r71 : bk_PI bk_m71 := bk_PIof (fun _ _ h => bk_lt h) (by decide +kernel)
theorem bk_r72 : bk_PI bk_m72 := bk_PIof (fun _ _ h => bk_lt h) (by decide +kernel)
theorem bk_r73 : bk_PI bk_m73 := bk_PIof (fun _ _ h => bk_lt h) (by decide +kernel)
theorem bk_r74 : bk_PI bk_m74 := bk_PIof (fun _ _ h => bk_lt h) (by decide +kernel)
theorem bk_r75 : bk_PI bk_m75 := bk_PIof (fun _ _ h => bk_lt h) (by decide +kernel)
theorem bk_r76 : bk_PI bk_m76 := bk_PIof (fun _ _ h => bk_lt h) (by decide +kernel)
theorem bk_r77 : bk_PI bk_m77 := bk_PIof (fun _ _ h => bk_lt h) (by decide +kernel)
theorem bk_r78 : bk_PI bk_m78 := bk_PIof (fun _ _ h => bk_lt h) (by decide +kernel)
theorem bk_r79 : bk_PI bk_m79 := bk_PIof (fun _ _ h => bk_lt h) (by decide +kernel)
theorem bk_r80 : bk_PI bk_m80 := bk_PIof (fun _ _ h => bk_lt h) (by decide +kernel)
theorem bk_r81 : bk_PI bk_m81 := bk_PIof (fun _ _ h => bk_lt h) (by decide +kernel)
theorem bk_r82 : bk_PI bk_m82 := bk_PIof (fun _ _ h => bk_lt h) (by decide +kernel)
theorem bk_r83 : bk_PI bk_m83 := bk_PIof (fun _ _ h => bk_lt h) (by decide +kernel)
theorem bk_r84 : bk_PI bk_m84 := bk_PIof (fun _ _ h => bk_lt h) (by decide +kernel)
theorem bk_r85 : bk_PI bk_m85 := bk_PIof (fun _ _ h => bk_lt h) (by decide +kernel)
theorem bk_r86 : bk_PI bk_m86 := bk_PIof (fun _ _ h => bk_lt h) (by decide +kernel)
theorem bk_r87 : bk_PI bk_m87 := bk_PIof (fun _ _ h => bk_lt h) (by decide +kernel)
theorem bk_r88 : bk_PI bk_m88 := bk_PIof (fun _ _ h => bk_lt h) (by decide +kernel)
theorem bk_r89 : bk_PI bk_m89 := bk_PIof (fun _ _ h => bk_lt h) (by decide +kernel)
theorem bk_r90 : bk_PI bk_m90 := bk_PIof (fun _ _ h => bk_lt h) (by decide +kernel)
theorem bk_r91 : bk_PI bk_m91 := bk_PIof (fun _ _ h => bk_lt h) (by decide +kernel)
theorem bk_r92 : bk_PI bk_m92 := bk_PIof (fun _ _ h => bk_lt h) (by decide +kernel)
theorem bk_r93 : bk_PI bk_m93 := bk_PIof (fun _ _ h => bk_lt h) (by decide +kernel)
theorem bk_r94 : bk_PI bk_m94 := bk_PIof (fun _ _ h => bk_lt h) (by decide +kernel)
theorem bk_r95 : bk_PI bk_m95 := bk_PIof (fun _ _ h => bk_lt h) (by decide +kernel)
theorem bk_r96 : bk_PI bk_m96 := bk_PIof (fun _ _ h => bk_lt h) (by decide +kernel)
theorem bk_r97 : bk_PI bk_m97 := bk_PIof (fun _ _ h => bk_lt h) (by decide +kernel)
theorem bk_r98 : bk_PI bk_m98 := bk_PIof (fun _ _ h => bk_lt h) (by decide +kernel)
theorem bk_r99 : bk_PI bk_m99 := bk_PIof (fun _ _ h => bk_lt h) (by decide +kernel)
theorem bk_r100 : bk_PI bk_m100 := bk_PIof (fun _ _ h => bk_lt h) (by decide +kernel)
theorem bk_r101 : bk_PI bk_m101 := bk_PIof (fun _ _ h => bk_lt h) (by decide +kernel)
theorem bk_r102 : bk_PI bk_m102 := bk_PIof (fun _ _ h => bk_lt h) (by decide +kernel)
theorem bk_r103 : bk_PI bk_m103 := bk_PIof (fun _ _ h => bk_lt h) (by decide +kernel)
theorem bk_r104 : bk_PI bk_m104 := bk_PIof (fun _ _ h => bk_lt h) (by decide +kernel)
theorem bk_r105 : bk_PI bk_m105 := bk_PIof (fun _ _ h => bk_lt h) (by decide +kernel)
theorem bk_r106 : bk_PI bk_m106 := bk_PIof (fun _ _ h => bk_lt h) (by decide +kernel)
theorem bk_r107 : bk_PI bk_m107 := bk_PIof (fun _ _ h => bk_lt h) (by decide +kernel)
theorem bk_r108 : bk_PI bk_m108 := bk_PIof (fun _ _ h => bk_lt h) (by decide +kernel)
theorem bk_r109 : bk_PI bk_m109 := bk_PIof (fun _ _ h => bk_lt h) (by decide +kernel)
theorem bk_r110 : bk_PI bk_m110 := bk_PIof (fun _ _ h => bk_lt h) (by decide +kernel)
theorem bk_r111 : bk_PI bk_m111 := bk_PIof (fun _ _ h => bk_lt h) (by decide +kernel)
theorem bk_r112 : bk_PI bk_m112 := bk_PIof (fun _ _ h => bk_lt h) (by decide +kernel)
theorem bk_r113 : bk_PI bk_m113 := bk_PIof (fun _ _ h => bk_lt h) (by decide +kernel)
theorem bk_r114 : bk_PI bk_m114 := bk_PIof (fun _ _ h => bk_lt h) (by decide +kernel)
theorem bk_r115 : bk_PI bk_m115 := bk_PIof (fun _ _ h => bk_lt h) (by decide +kernel)
theorem bk_r116 : bk_PI bk_m116 := bk_PIof (fun _ _ h => bk_lt h) (by decide +kernel)
theorem bk_r117 : bk_PI bk_m117 := bk_PIof (fun _ _ h => bk_lt h) (by decide +kernel)
theorem bk_r118 : bk_PI bk_m118 := bk_PIof (fun _ _ h => bk_lt h) (by decide +kernel)
theorem bk_r119 : bk_PI bk_m119 := bk_PIof (fun _ _ h => bk_lt h) (by decide +kernel)
theorem bk_r120 : bk_PI bk_m120 := bk_PIof (fun _ _ h => bk_lt h) (by decide +kernel)
theorem bk_r121 : bk_PI bk_m121 := bk_PIof (fun _ _ h => bk_lt h) (by decide +kernel)
theorem bk_r122 : bk_PI bk_m122 := bk_PIof (fun _ _ h => bk_lt h) (by decide +kernel)
theorem bk_r123 : bk_PI bk_m123 := bk_PIof (fun _ _ h => bk_lt h) (by decide +kernel)
theorem bk_r124 : bk_PI bk_m124 := bk_PIof (fun _ _ h => bk_lt h) (by decide +kernel)
theorem bk_r125 : bk_PI bk_m125 := bk_PIof (fun _ _ h => bk_lt h) (by decide +kernel)
theorem bk_r126 : bk_PI bk_m126 := bk_PIof (fun _ _ h => bk_lt h) (by decide +kernel)
theorem bk_r127 : bk_PI bk_m127 := bk_PIof (fun _ _ h => bk_lt h) (by decide +kernel)
theorem bk_r128 : bk_PI bk_m128 := bk_PIof (fun _ _ h => bk_lt h) (by decide +kernel)
theorem bk_r129 : bk_PI bk_m129 := bk_PIof (fun _ _ h => bk_lt h) (by decide +kernel)
theorem bk_r130 : bk_PI bk_m130 := bk_PIof (fun _ _ h => bk_lt h) (by decide +kernel)
theorem bk_r131 : bk_PI bk_m131 := bk_PIof (fun _ _ h => bk_lt h) (by decide +kernel)
theorem bk_r132 : bk_PI bk_m132 := bk_PIof (fun _ _ h => bk_lt h) (by decide +kernel)
theorem bk_r133 : bk_PI bk_m133 := bk_PIof (fun _ _ h => bk_lt h) (by decide +kernel)
theorem bk_r134 : bk_PI bk_m134 := bk_PIof (fun _ _ h => bk_lt h) (by decide +kernel)
theorem bk_r135 : bk_PI bk_m135 := bk_PIof (fun _ _ h => bk_lt h) (by decide +kernel)
theorem bk_r136 : bk_PI bk_m136 := bk_PIof (fun _ _ h => bk_lt h) (by decide +kernel)
theorem bk_r137 : bk_PI bk_m137 := bk_PIof (fun _ _ h => bk_lt h) (by decide +kernel)
theorem bk_r138 : bk_PI bk_m138 := bk_PIof (fun _ _ h => bk_lt h) (by decide +kernel)
theorem bk_r139 : bk_PI bk_m139 := bk_PIof (fun _ _ h => bk_lt h) (by decide +kernel)
theorem bk_r140 : bk_PI bk_m140 := bk_PIof (fun _ _ h => bk_lt h) (by decide +kernel)
theorem bk_r141 : bk_PI bk_m141 := bk_PIof (fun _ _ h => bk_lt h) (by decide +kernel)
theorem bk_r142 : bk_PI bk_m142 := bk_PIof (fun _ _ h => bk_lt h) (by decide +kernel)
theorem bk_r143 : bk_PI bk_m143 := bk_PIof (fun _ _ h => bk_lt h) (by decide +kernel)
theorem bk_r144 : bk_PI bk_m144 := bk_PIof (fun _ _ h => bk_lt h) (by decide +kernel)
theorem bk_r145 : bk_PI bk_m145 := bk_PIof (fun _ _ h => bk_lt h) (by decide +kernel)
theorem bk_r146 : bk_PI bk_m146 := bk_PIof (fun _ _ h => bk_lt h) (by decide +kernel)
theorem bk_r147 : bk_PI bk_m147 := bk_PIof (fun _ _ h => bk_lt h) (by decide +kernel)
theorem bk_r148 : bk_PI bk_m148 := bk_PIof (fun _ _ h => bk_lt h) (by decide +kernel)
theorem bk_r149 : bk_PI bk_m149 := bk_PIof (fun _ _ h => bk_lt h) (by decide +kernel)
theorem bk_r150 : bk_PI bk_m150 := bk_PIof (fun _ _ h => bk_lt h) (by decide +kernel)
theorem bk_r151 : bk_PI bk_m151 := bk_PIof (fun _ _ h => bk_lt h) (by decide +kernel)
theorem bk_r152 : bk_PI bk_m152 := bk_PIof (fun _ _ h => bk_lt h) (by decide +kernel)
theorem bk_r153 : bk_PI bk_m153 := bk_PIof (fun _ _ h => bk_lt h) (by decide +kernel)
theorem bk_r154 : bk_PI bk_m154 := bk_PIof (fun _ _ h => bk_lt h) (by decide +kernel)
theorem bk_r155 : bk_PI bk_m155 := bk_PIof (fun _ _ h => bk_lt h) (by decide +kernel)
theorem bk_r156 : bk_PI bk_m156 := bk_PIof (fun _ _ h => bk_lt h) (by decide +kernel)
theorem bk_r157 : bk_PI bk_m157 := bk_PIof (fun _ _ h => bk_lt h) (by decide +kernel)
theorem bk_r158 : bk_PI bk_m158 := bk_PIof (fun _ _ h => bk_lt h) (by decide +kernel)
theorem bk_r159 : bk_PI bk_m159 := bk_PIof (fun _ _ h => bk_lt h) (by decide +kernel)
theorem bk_r160 : bk_PI bk_m160 := bk_PIof (fun _ _ h => bk_lt h) (by decide +kernel)
theorem bk_r161 : bk_PI bk_m161 := bk_PIof (fun _ _ h => bk_lt h) (by decide +kernel)
theorem bk_r162 : bk_PI bk_m162 := bk_PIof (fun _ _ h => bk_lt h) (by decide +kernel)
theorem bk_r163 : bk_PI bk_m163 := bk_PIof (fun _ _ h => bk_lt h) (by decide +kernel)
theorem bk_r164 : bk_PI bk_m164 := bk_PIof (fun _ _ h => bk_lt h) (by decide +kernel)
theorem bk_r165 : bk_PI bk_m165 := bk_PIof (fun _ _ h => bk_lt h) (by decide +kernel)
theorem bk_r166 : bk_PI bk_m166 := bk_PIof (fun _ _ h => bk_lt h) (by decide +kernel)
theorem bk_r167 : bk_PI bk_m167 := bk_PIof (fun _ _ h => bk_lt h) (by decide +kernel)
theorem bk_r168 : bk_PI bk_m168 := bk_PIof (fun _ _ h => bk_lt h) (by decide +kernel)
theorem bk_r169 : bk_PI bk_m169 := bk_PIof (fun _ _ h => bk_lt h) (by decide +kernel)
theorem bk_r170 : bk_PI bk_m170 := bk_PIof (fun _ _ h => bk_lt h) (by decide +kernel)
theorem bk_r171 : bk_PI bk_m171 := bk_PIof (fun _ _ h => bk_lt h) (by decide +kernel)
theorem bk_r172 : bk_PI bk_m172 := bk_PIof (fun _ _ h => bk_lt h) (by decide +kernel)
theorem bk_r173 : bk_PI bk_m173 := bk_PIof (fun _ _ h => bk_lt h) (by decide +kernel)
theorem bk_r174 : bk_PI bk_m174 := bk_PIof (fun _ _ h => bk_lt h) (by decide +kernel)
theorem bk_r175 : bk_PI bk_m175 := bk_PIof (fun _ _ h => bk_lt h) (by decide +kernel)
theorem bk_r176 : bk_PI bk_m176 := bk_PIof (fun _ _ h => bk_lt h) (by decide +kernel)
theorem bk_r177 : bk_PI bk_m177 := bk_PIof (fun _ _ h => bk_lt h) (by decide +kernel)
theorem bk_r178 : bk_PI bk_m178 := bk_PIof (fun _ _ h => bk_lt h) (by decide +kernel)
theorem bk_r179 : bk_PI bk_m179 := bk_PIof (fun _ _ h => bk_lt h) (by decide +kernel)
theorem bk_r180 : bk_PI bk_m180 := bk_PIof (fun _ _ h => bk_lt h) (by decide +kernel)
theorem bk_r181 : bk_PI bk_m181 := bk_PIof (fun _ _ h => bk_lt h) (by decide +kernel)
theorem bk_r182 : bk_PI bk_m182 := bk_PIof (fun _ _ h => bk_lt h) (by decide +kernel)
theorem bk_r183 : bk_PI bk_m183 := bk_PIof (fun _ _ h => bk_lt h) (by decide +kernel)
theorem bk_r184 : bk_PI bk_m184 := bk_PIof (fun _ _ h => bk_lt h) (by decide +kernel)
theorem bk_r185 : bk_PI bk_m185 := bk_PIof (fun _ _ h => bk_lt h) (by decide +kernel)
theorem bk_r186 : bk_PI bk_m186 := bk_PIof (fun _ _ h => bk_lt h) (by decide +kernel)
theorem bk_r187 : bk_PI bk_m187 := bk_PIof (fun _ _ h => bk_lt h) (by decide +kernel)
theorem bk_r188 : bk_PI bk_m188 := bk_PIof (fun _ _ h => bk_lt h) (by decide +kernel)
theorem bk_r189 : bk_PI bk_m189 := bk_PIof (fun _ _ h => bk_lt h) (by decide +kernel)
theorem bk_r190 : bk_PI bk_m190 := bk_PIof (fun _ _ h => bk_lt h) (by decide +kernel)
theorem bk_r191 : bk_PI bk_m191 := bk_PIof (fun _ _ h => bk_lt h) (by decide +kernel)
theorem bk_r192 : bk_PI bk_m192 := bk_PIof (fun _ _ h => bk_lt h) (by decide +kernel)
theorem bk_r193 : bk_PI bk_m193 := bk_PIof (fun _ _ h => bk_lt h) (by decide +kernel)
theorem bk_r194 : bk_PI bk_m194 := bk_PIof (fun _ _ h => bk_lt h) (by decide +kernel)
theorem bk_r195 : bk_PI bk_m195 := bk_PIof (fun _ _ h => bk_lt h) (by decide +kernel)
theorem bk_r196 : bk_PI bk_m196 := bk_PIof (fun _ _ h => bk_lt h) (by decide +kernel)
theorem bk_r197 : bk_PI bk_m197 := bk_PIof (fun _ _ h => bk_lt h) (by decide +kernel)
theorem bk_r198 : bk_PI bk_m198 := bk_PIof (fun _ _ h => bk_lt h) (by decide +kernel)
theorem bk_r199 : bk_PI bk_m199 := bk_PIof (fun _ _ h => bk_lt h) (by decide +kernel)
theorem bk_r200 : bk_PI bk_m200 := bk_PIof (fun _ _ h => bk_lt h) (by decide +kernel)
theorem bk_r201 : bk_PI bk_m201 := bk_PIof (fun _ _ h => bk_lt h) (by decide +kernel)
theorem bk_r202 : bk_PI bk_m202 := bk_PIof (fun _ _ h => bk_lt h) (by decide +kernel)
theorem bk_r203 : bk_PI bk_m203 := bk_PIof (fun _ _ h => bk_lt h) (by decide +kernel)
theorem bk_r204 : bk_PI bk_m204 := bk_PIof (fun _ _ h => bk_lt h) (by decide +kernel)
theorem bk_r205 : bk_PI bk_m205 := bk_PIof (fun _ _ h => bk_lt h) (by decide +kernel)
theorem bk_r206 : bk_PI bk_m206 := bk_PIof (fun _ _ h => bk_lt h) (by decide +kernel)
theorem bk_r207 : bk_PI bk_m207 := bk_PIof (fun _ _ h => bk_lt h) (by decide +kernel)
theorem bk_r208 : bk_PI bk_m208 := bk_PIof (fun _ _ h => bk_lt h) (by decide +kernel)
theorem bk_r209 : bk_PI bk_m209 := bk_PIof (fun _ _ h => bk_lt h) (by decide +kernel)
theorem bk_r210 : bk_PI bk_m210 := bk_PIof (fun _ _ h => bk_lt h) (by decide +kernel)
theorem bk_r211 : bk_PI bk_m211 := bk_PIof (fun _ _ h => bk_lt h) (by decide +kernel)
theorem bk_r212 : bk_PI bk_m212 := bk_PIof (fun _ _ h => bk_lt h) (by decide +kernel)
theorem bk_r213 : bk_PI bk_m213 := bk_PIof (fun _ _ h => bk_lt h) (by decide +kernel)
theorem bk_r214 : bk_PI bk_m214 := bk_PIof (fun _ _ h => bk_lt h) (by decide +kernel)
theorem bk_r215 : bk_PI bk_m215 := bk_PIof (fun _ _ h => bk_lt h) (by decide +kernel)
theorem bk_r216 : bk_PI bk_m216 := bk_PIof (fun _ _ h => bk_lt h) (by decide +kernel)
theorem bk_r217 : bk_PI bk_m217 := bk_PIof (fun _ _ h => bk_lt h) (by decide +kernel)
theorem bk_r218 : bk_PI bk_m218 := bk_PIof (fun _ _ h => bk_lt h) (by decide +kernel)
theorem bk_r219 : bk_PI bk_m219 := bk_PIof (fun _ _ h => bk_lt h) (by decide +kernel)
theorem bk_r220 : bk_PI bk_m220 := bk_PIof (fun _ _ h => bk_lt h) (by decide +kernel)
theorem bk_r221 : bk_PI bk_m221 := bk_PIof (fun _ _ h => bk_lt h) (by decide +kernel)
theorem bk_r222 : bk_PI bk_m222 := bk_PIof (fun _ _ h => bk_lt h) (by decide +kernel)
theorem bk_r223 : bk_PI bk_m223 := bk_PIof (fun _ _ h => bk_lt h) (by decide +kernel)
theorem bk_r224 : bk_PI bk_m224 := bk_PIof (fun _ _ h => bk_lt h) (by decide +kernel)
theorem bk_r225 : bk_PI bk_m225 := bk_PIof (fun _ _ h => bk_lt h) (by decide +kernel)
theorem bk_r226 : bk_PI bk_m226 := bk_PIof (fun _ _ h => bk_lt h) (by decide +kernel)
theorem bk_r227 : bk_PI bk_m227 := bk_PIof (fun _ _ h => bk_lt h) (by decide +kernel)
theorem bk_r228 : bk_PI bk_m228 := bk_PIof (fun _ _ h => bk_lt h) (by decide +kernel)
theorem bk_r229 : bk_PI bk_m229 := bk_PIof (fun _ _ h => bk_lt h) (by decide +kernel)
theorem bk_r230 : bk_PI bk_m230 := bk_PIof (fun _ _ h => bk_lt h) (by decide +kernel)
theorem bk_r231 : bk_PI bk_m231 := bk_PIof (fun _ _ h => bk_lt h) (by decide +kernel)
theorem bk_r232 : bk_PI bk_m232 := bk_PIof (fun _ _ h => bk_lt h) (by decide +kernel)
theorem bk_r233 : bk_PI bk_m233 := bk_PIof (fun _ _ h => bk_lt h) (by decide +kernel)
theorem bk_r234 : bk_PI bk_m234 := bk_PIof (fun _ _ h => bk_lt h) (by decide +kernel)
theorem bk_r235 : bk_PI bk_m235 := bk_PIof (fun _ _ h => bk_lt h) (by decide +kernel)
theorem bk_r236 : bk_PI bk_m236 := bk_PIof (fun _ _ h => bk_lt h) (by decide +kernel)
theorem bk_r237 : bk_PI bk_m237 := bk_PIof (fun _ _ h => bk_lt h) (by decide +kernel)
theorem bk_r238 : bk_PI bk_m238 := bk_PIof (fun _ _ h => bk_lt h) (by decide +kernel)
theorem bk_r239 : bk_PI bk_m239 := bk_PIof (fun _ _ h => bk_lt h) (by decide +kernel)
theorem bk_r240 : bk_PI bk_m240 := bk_PIof (fun _ _ h => bk_lt h) (by decide +kernel)
theorem bk_r241 : bk_PI bk_m241 := bk_PIof (fun _ _ h => bk_lt h) (by decide +kernel)
theorem bk_r242 : bk_PI bk_m242 := bk_PIof (fun _ _ h => bk_lt h) (by decide +kernel)
theorem bk_r243 : bk_PI bk_m243 := bk_PIof (fun _ _ h => bk_lt h) (by decide +kernel)
theorem bk_r244 : bk_PI bk_m244 := bk_PIof (fun _ _ h => bk_lt h) (by decide +kernel)
theorem bk_r245 : bk_PI bk_m245 := bk_PIof (fun _ _ h => bk_lt h) (by decide +kernel)
theorem bk_r246_0 : (List.range 100).all (fun i => bk_ck bk_m246 (0 + i)) = true := by decide +kernel
theorem bk_r246_1 : (List.range 100).all (fun i => bk_ck bk_m246 (100 + i)) = true := by decide +kernel
theorem bk_r246_2 : (List.range 100).all (fun i => bk_ck bk_m246 (200 + i)) = true := by decide +kernel
theorem bk_r246_3 : (List.range 100).all (fun i => bk_ck bk_m246 (300 + i)) = true := by decide +kernel
theorem bk_r246_4 : (List.range 100).all (fun i => bk_ck bk_m246 (400 + i)) = true := by decide +kernel
theorem bk_r246_5 : (List.range 100).all (fun i => bk_ck bk_m246 (500 + i)) = true := by decide +kernel
theorem bk_r246_6 : (List.range 100).all (fun i => bk_ck bk_m246 (600 + i)) = true := by decide +kernel
theorem bk_r246_7 : (List.range 100).all (fun i => bk_ck bk_m246 (700 + i)) = true := by decide +kernel
theorem bk_r246_8 : (List.range 100).all (fun i => bk_ck bk_m246 (800 + i)) = true := by decide +kernel
theorem bk_r246_9 : (List.range 100).all (fun i => bk_ck bk_m246 (900 + i)) = true := by decide +kernel
theorem bk_r246_10 : (List.range 100).all (fun i => bk_ck bk_m246 (1000 + i)) = true := by decide +kernel
theorem bk_r246_11 : (List.range 100).all (fun i => bk_ck bk_m246 (1100 + i)) = true := by decide +kernel
theorem bk_r246_12 : (List.range 100).all (fun i => bk_ck bk_m246 (1200 + i)) = true := by decide +kernel
theorem bk_r246_13 : (List.range 100).all (fun i => bk_ck bk_m246 (1300 + i)) = true := by decide +kernel
theorem bk_r246_14 : (List.range 100).all (fun i => bk_ck bk_m246 (1400 + i)) = true := by decide +kernel
theorem bk_r246_15 : (List.range 100).all (fun i => bk_ck bk_m246 (1500 + i)) = true := by decide +kernel
theorem bk_r246 : bk_PI bk_m246 := ⟨fun _ _ h => bk_lt h, fun x hx => by
  have hx : x < 1505 := hx
  by_cases q0 : x < 100
  · exact bk_chunk bk_r246_0 x (by omega) (by omega)
  by_cases q100 : x < 200
  · exact bk_chunk bk_r246_1 x (by omega) (by omega)
  by_cases q200 : x < 300
  · exact bk_chunk bk_r246_2 x (by omega) (by omega)
  by_cases q300 : x < 400
  · exact bk_chunk bk_r246_3 x (by omega) (by omega)
  by_cases q400 : x < 500
  · exact bk_chunk bk_r246_4 x (by omega) (by omega)
  by_cases q500 : x < 600
  · exact bk_chunk bk_r246_5 x (by omega) (by omega)
  by_cases q600 : x < 700
  · exact bk_chunk bk_r246_6 x (by omega) (by omega)
  by_cases q700 : x < 800
  · exact bk_chunk bk_r246_7 x (by omega) (by omega)
  by_cases q800 : x < 900
  · exact bk_chunk bk_r246_8 x (by omega) (by omega)
  by_cases q900 : x < 1000
  · exact bk_chunk bk_r246_9 x (by omega) (by omega)
  by_cases q1000 : x < 1100
  · exact bk_chunk bk_r246_10 x (by omega) (by omega)
  by_cases q1100 : x < 1200
  · exact bk_chunk bk_r246_11 x (by omega) (by omega)
  by_cases q1200 : x < 1300
  · exact bk_chunk bk_r246_12 x (by omega) (by omega)
  by_cases q1300 : x < 1400
  · exact bk_chunk bk_r246_13 x (by omega) (by omega)
  by_cases q1400 : x < 1500
  · exact bk_chunk bk_r246_14 x (by omega) (by omega)
  by_cases q1500 : x < 1600
  · exact bk_chunk bk_r246_15 x (by omega) (by omega)
  exact absurd hx (by omega)⟩
theorem bk_rI : ∀ j, bk_PI (bk_m j) := fun j => (bk_e (bk_e (bk_e (bk_e (bk_e (bk_e (bk_e bk_r0 (bk_e bk_r1 bk_r2)) (bk_e (bk_e bk_r3 bk_r4) (bk_e bk_r5 bk_r6))) (bk_e (bk_e (bk_e bk_r7 bk_r8) (bk_e bk_r9 bk_r10)) (bk_e (bk_e bk_r11 bk_r12) (bk_e bk_r13 bk_r14)))) (bk_e (bk_e (bk_e bk_r15 (bk_e bk_r16 bk_r17)) (bk_e (bk_e bk_r18 bk_r19) (bk_e bk_r20 bk_r21))) (bk_e (bk_e (bk_e bk_r22 bk_r23) (bk_e bk_r24 bk_r25)) (bk_e (bk_e bk_r26 bk_r27) (bk_e bk_r28 bk_r29))))) (bk_e (bk_e (bk_e (bk_e bk_r30 (bk_e bk_r31 bk_r32)) (bk_e (bk_e bk_r33 bk_r34) (bk_e bk_r35 bk_r36))) (bk_e (bk_e (bk_e bk_r37 bk_r38) (bk_e bk_r39 bk_r40)) (bk_e (bk_e bk_r41 bk_r42) (bk_e bk_r43 bk_r44)))) (bk_e (bk_e (bk_e (bk_e bk_r45 bk_r46) (bk_e bk_r47 bk_r48)) (bk_e (bk_e bk_r49 bk_r50) (bk_e bk_r51 bk_r52))) (bk_e (bk_e (bk_e bk_r53 bk_r54) (bk_e bk_r55 bk_r56)) (bk_e (bk_e bk_r57 bk_r58) (bk_e bk_r59 bk_r60)))))) (bk_e (bk_e (bk_e (bk_e (bk_e bk_r61 (bk_e bk_r62 bk_r63)) (bk_e (bk_e bk_r64 bk_r65) (bk_e bk_r66 bk_r67))) (bk_e (bk_e (bk_e bk_r68 bk_r69) (bk_e bk_r70 bk_r71)) (bk_e (bk_e bk_r72 bk_r73) (bk_e bk_r74 bk_r75)))) (bk_e (bk_e (bk_e (bk_e bk_r76 bk_r77) (bk_e bk_r78 bk_r79)) (bk_e (bk_e bk_r80 bk_r81) (bk_e bk_r82 bk_r83))) (bk_e (bk_e (bk_e bk_r84 bk_r85) (bk_e bk_r86 bk_r87)) (bk_e (bk_e bk_r88 bk_r89) (bk_e bk_r90 bk_r91))))) (bk_e (bk_e (bk_e (bk_e bk_r92 (bk_e bk_r93 bk_r94)) (bk_e (bk_e bk_r95 bk_r96) (bk_e bk_r97 bk_r98))) (bk_e (bk_e (bk_e bk_r99 bk_r100) (bk_e bk_r101 bk_r102)) (bk_e (bk_e bk_r103 bk_r104) (bk_e bk_r105 bk_r106)))) (bk_e (bk_e (bk_e (bk_e bk_r107 bk_r108) (bk_e bk_r109 bk_r110)) (bk_e (bk_e bk_r111 bk_r112) (bk_e bk_r113 bk_r114))) (bk_e (bk_e (bk_e bk_r115 bk_r116) (bk_e bk_r117 bk_r118)) (bk_e (bk_e bk_r119 bk_r120) (bk_e bk_r121 bk_r122))))))) (bk_e (bk_e (bk_e (bk_e (bk_e (bk_e bk_r123 (bk_e bk_r124 bk_r125)) (bk_e (bk_e bk_r126 bk_r127) (bk_e bk_r128 bk_r129))) (bk_e (bk_e (bk_e bk_r130 bk_r131) (bk_e bk_r132 bk_r133)) (bk_e (bk_e bk_r134 bk_r135) (bk_e bk_r136 bk_r137)))) (bk_e (bk_e (bk_e (bk_e bk_r138 bk_r139) (bk_e bk_r140 bk_r141)) (bk_e (bk_e bk_r142 bk_r143) (bk_e bk_r144 bk_r145))) (bk_e (bk_e (bk_e bk_r146 bk_r147) (bk_e bk_r148 bk_r149)) (bk_e (bk_e bk_r150 bk_r151) (bk_e bk_r152 bk_r153))))) (bk_e (bk_e (bk_e (bk_e bk_r154 (bk_e bk_r155 bk_r156)) (bk_e (bk_e bk_r157 bk_r158) (bk_e bk_r159 bk_r160))) (bk_e (bk_e (bk_e bk_r161 bk_r162) (bk_e bk_r163 bk_r164)) (bk_e (bk_e bk_r165 bk_r166) (bk_e bk_r167 bk_r168)))) (bk_e (bk_e (bk_e (bk_e bk_r169 bk_r170) (bk_e bk_r171 bk_r172)) (bk_e (bk_e bk_r173 bk_r174) (bk_e bk_r175 bk_r176))) (bk_e (bk_e (bk_e bk_r177 bk_r178) (bk_e bk_r179 bk_r180)) (bk_e (bk_e bk_r181 bk_r182) (bk_e bk_r183 bk_r184)))))) (bk_e (bk_e (bk_e (bk_e (bk_e bk_r185 (bk_e bk_r186 bk_r187)) (bk_e (bk_e bk_r188 bk_r189) (bk_e bk_r190 bk_r191))) (bk_e (bk_e (bk_e bk_r192 bk_r193) (bk_e bk_r194 bk_r195)) (bk_e (bk_e bk_r196 bk_r197) (bk_e bk_r198 bk_r199)))) (bk_e (bk_e (bk_e (bk_e bk_r200 bk_r201) (bk_e bk_r202 bk_r203)) (bk_e (bk_e bk_r204 bk_r205) (bk_e bk_r206 bk_r207))) (bk_e (bk_e (bk_e bk_r208 bk_r209) (bk_e bk_r210 bk_r211)) (bk_e (bk_e bk_r212 bk_r213) (bk_e bk_r214 bk_r215))))) (bk_e (bk_e (bk_e (bk_e bk_r216 (bk_e bk_r217 bk_r218)) (bk_e (bk_e bk_r219 bk_r220) (bk_e bk_r221 bk_r222))) (bk_e (bk_e (bk_e bk_r223 bk_r224) (bk_e bk_r225 bk_r226)) (bk_e (bk_e bk_r227 bk_r228) (bk_e bk_r229 bk_r230)))) (bk_e (bk_e (bk_e (bk_e bk_r231 bk_r232) (bk_e bk_r233 bk_r234)) (bk_e (bk_e bk_r235 bk_r236) (bk_e bk_r237 bk_r238))) (bk_e (bk_e (bk_e bk_r239 bk_r240) (bk_e bk_r241 bk_r242)) (bk_e (bk_e bk_r243 bk_r244) (bk_e bk_r245 bk_r246))))))))
