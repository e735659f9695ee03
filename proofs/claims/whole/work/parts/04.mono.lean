set_option maxHeartbeats 4000000 in
theorem bk_s1_mono {V : bk_V} {C : bk_P} (hC : bk_mono C) {j pc : Nat} {L : bk_L} {st : List Value} {h : bk_H} {n : Nat} {cs B : Nat × Nat} {Q Q' : bk_R → bk_H → Nat → Prop} (hQ : ∀ r h n, Q r h n → Q' r h n)
    {K K' : Nat → bk_L → List Value → bk_H → Nat → Nat × Nat → Prop} (hK : ∀ pc L st h n cs, K pc L st h n cs → K' pc L st h n cs) (z : bk_s1 V C j pc L st h n cs B Q K) : bk_s1 V C j pc L st h n cs B Q' K' := by
  unfold bk_s1 at z ⊢
  cases hi : bk_ins j pc with
  | none => rw [hi] at z; exact z
  | some e =>
    obtain ⟨I, nx, sw, c⟩ := e
    rw [hi] at z
    cases I
    case dup => revert z; dsimp only; split <;> intro z <;> first | exact bk_gd_mono (hK _ _ _ _ _ _) z | exact z
    case dup2 => revert z; dsimp only; split <;> intro z <;> first | exact bk_gd_mono (bk_gd_mono (hK _ _ _ _ _ _)) z | exact z
    case lstore_n => revert z; dsimp only; split <;> intro z <;> first | exact bk_gd_mono (hK _ _ _ _ _ _) z | exact z
    case lstore => revert z; dsimp only; split <;> intro z <;> first | exact bk_gd_mono (hK _ _ _ _ _ _) z | exact z
    case dstore => revert z; dsimp only; split <;> intro z <;> first | exact bk_gd_mono (hK _ _ _ _ _ _) z | exact z
    case astore_n => revert z; dsimp only; split <;> intro z <;> first | exact bk_gd_mono (hK _ _ _ _ _ _) z | exact z
    case astore => revert z; dsimp only; split <;> intro z <;> first | exact bk_gd_mono (hK _ _ _ _ _ _) z | exact z
    case goto => revert z; dsimp only; split <;> intro z <;> first | exact hK _ _ _ _ _ _ z | exact z
    case ifCond o _ =>
      revert z; dsimp only; split <;> intro z
      · refine bk_x1_mono (fun x r z => ?_) z
        cases o <;> exact ⟨fun e => hK _ _ _ _ _ _ (z.1 e), fun e => hK _ _ _ _ _ _ (z.2 e)⟩
      · exact z
    case if_icmp o _ =>
      revert z; dsimp only; split <;> intro z
      · refine bk_x2_mono (fun x y r z => ?_) z
        cases o <;> exact ⟨fun e => hK _ _ _ _ _ _ (z.1 e), fun e => hK _ _ _ _ _ _ (z.2 e)⟩
      · exact z
    case tableswitch => exact bk_x1_mono (fun x r z => bk_sw_mono (fun t z => hK _ _ _ _ _ _ z) z) z
    case lookupswitch => exact bk_x1_mono (fun x r z => bk_sw_mono (fun t z => hK _ _ _ _ _ _ z) z) z
    case getfield ix =>
      revert z; dsimp only; split
      · split <;> intro z
        · obtain ⟨fs, v, z1, z2, z3⟩ := z
          exact ⟨fs, v, z1, z2, hK _ _ _ _ _ _ z3⟩
        · exact z
      · exact id
    case putfield ix =>
      revert z; dsimp only; split
      · split <;> intro z
        · obtain ⟨fs, z1, z2, z3, z4⟩ := z
          exact ⟨fs, z1, z2, z3, hK _ _ _ _ _ _ z4⟩
        · exact z
      · exact id
    case ldc ix => revert z; dsimp only; split <;> intro z <;> first | exact hK _ _ _ _ _ _ z | exact z
    case ldc2_w ix => revert z; dsimp only; split <;> intro z <;> first | exact hK _ _ _ _ _ _ z | exact z
    case iaload =>
      revert z; dsimp only; split <;> intro z
      · rcases z with ⟨m, f, z1, z2, z3⟩ | ⟨z1, z2, z3⟩
        · exact Or.inl ⟨m, f, z1, z2, hK _ _ _ _ _ _ z3⟩
        · exact Or.inr ⟨z1, z2, hK _ _ _ _ _ _ z3⟩
      · exact z
    case baload =>
      revert z; dsimp only; split <;> intro z
      · obtain ⟨m, f, z1, z2, z3⟩ := z
        exact ⟨m, f, z1, z2, hK _ _ _ _ _ _ z3⟩
      · exact z
    case laload =>
      revert z; dsimp only; split <;> intro z
      · obtain ⟨m, f, z1, z2, z3⟩ := z
        exact ⟨m, f, z1, z2, hK _ _ _ _ _ _ z3⟩
      · exact z
    case aaload =>
      revert z; dsimp only; split <;> intro z
      · exact ⟨z.1, z.2.1, hK _ _ _ _ _ _ z.2.2⟩
      · exact z
    case iastore =>
      revert z; dsimp only; split <;> intro z
      · obtain ⟨m, f, z1, z2, z3⟩ := z
        exact ⟨m, f, z1, z2, hK _ _ _ _ _ _ z3⟩
      · exact z
    case bastore =>
      revert z; dsimp only; split <;> intro z
      · obtain ⟨m, f, z1, z2, z3, z4⟩ := z
        exact ⟨m, f, z1, z2, z3, hK _ _ _ _ _ _ z4⟩
      · exact z
    case lastore =>
      revert z; dsimp only; split <;> intro z
      · obtain ⟨m, f, z1, z2, z3⟩ := z
        exact ⟨m, f, z1, z2, hK _ _ _ _ _ _ z3⟩
      · exact z
    case arraylength =>
      revert z; dsimp only; split <;> intro z
      · rcases z with ⟨t, x, z1, z2, z3⟩ | ⟨z1, z2⟩ | ⟨z1, z2⟩
        · exact Or.inl ⟨t, x, z1, z2, hK _ _ _ _ _ _ z3⟩
        · exact Or.inr (Or.inl ⟨z1, hK _ _ _ _ _ _ z2⟩)
        · exact Or.inr (Or.inr ⟨z1, hK _ _ _ _ _ _ z2⟩)
      · exact z
    case newarray t =>
      revert z; dsimp only; split <;> intro z
      · obtain ⟨N, z1, z2, z3, z4, z5, z6⟩ := z
        refine ⟨N, z1, z2, z3, z4, z5, ?_⟩
        cases t <;> first | exact hK _ _ _ _ _ _ z6 | exact z6
      · exact z
    case new ix =>
      revert z; dsimp only; split <;> intro z
      · exact ⟨z.1, z.2.1, hK _ _ _ _ _ _ z.2.2⟩
      · exact bk_gd_mono (fun z => ⟨z.1, z.2.1, fun n' q => hQ _ _ _ (z.2.2 n' q)⟩) z
      · exact z
    case invokestatic ix =>
      revert z; dsimp only; split <;> intro z
      · exact bk_gd_mono (bk_cl_mono hC (fun st h n cs => hK _ _ _ _ _ _)) z
      · exact bk_x2_mono (fun x y r => bk_gd_mono (hK _ _ _ _ _ _)) z
      · exact bk_x2_mono (fun x y r => bk_gd_mono (hK _ _ _ _ _ _)) z
      · revert z; split <;> intro z
        · refine bk_gd_mono (fun z => ?_) z
          obtain ⟨m1, m2, f, g, z1, z2, z3, z4, z5, z6, z7, z8, z9⟩ := z
          exact ⟨m1, m2, f, g, z1, z2, z3, z4, z5, z6, z7, z8, hK _ _ _ _ _ _ z9⟩
        · exact z
      · exact z
    case invokespecial ix =>
      revert z; dsimp only; split <;> intro z
      · revert z; split <;> intro z
        · exact bk_cl_mono hC (fun st h n cs => hK _ _ _ _ _ _) z
        · exact z
      · revert z; split <;> intro z
        · exact bk_gd_mono (hK _ _ _ _ _ _) z
        · exact z
      · exact z
    case invokevirtual ix =>
      revert z; dsimp only; split <;> intro z
      · revert z; split <;> intro z
        · exact ⟨z.1, bk_cl_mono hC (fun st h n cs => hK _ _ _ _ _ _) z.2⟩
        · exact z
      · revert z; split <;> intro z
        · refine ⟨z.1, bk_gd_mono (fun z => ?_) z.2⟩
          obtain ⟨b, z1, z2, z3⟩ := z
          refine ⟨b, z1, z2, hC _ _ _ _ _ _ _ (fun rr h n z => ?_) z3⟩
          cases rr with
          | inl v => exact hK _ _ _ _ _ _ z
          | inr E =>
            revert z; dsimp only; split <;> intro z
            · exact bk_gd_mono (hK _ _ _ _ _ _) z
            · exact z
        · exact z
      · revert z; split <;> intro z
        · refine bk_gd_mono (fun z => ?_) z
          obtain ⟨k, z1, z2, z3⟩ := z
          exact ⟨k, z1, z2, hK _ _ _ _ _ _ z3⟩
        · exact z
      · revert z; split <;> intro z
        · refine bk_gd_mono (fun z => ?_) z
          obtain ⟨k, z1, z2, z3, z4⟩ := z
          exact ⟨k, z1, z2, z3, hK _ _ _ _ _ _ z4⟩
        · exact z
      · revert z; split <;> intro z
        · refine bk_gd_mono (fun z => ?_) z
          obtain ⟨k, z1, z2, z3⟩ := z
          exact ⟨k, z1, z2, hK _ _ _ _ _ _ z3⟩
        · exact z
      · exact z
    case ireturn =>
      revert z; dsimp only; split <;> intro z
      · exact ⟨z.1, hQ _ _ _ z.2⟩
      · exact z
    case lreturn =>
      revert z; dsimp only; split <;> intro z
      · exact ⟨z.1, hQ _ _ _ z.2⟩
      · exact z
    case dreturn =>
      revert z; dsimp only; split <;> intro z
      · exact ⟨z.1, hQ _ _ _ z.2⟩
      · exact z
    case return_ =>
      revert z; dsimp only; split <;> intro z
      · exact ⟨z.1, hQ _ _ _ z.2⟩
      · exact z
    all_goals first
      | exact hK _ _ _ _ _ _ z
      | exact bk_gd_mono (hK _ _ _ _ _ _) z
      | exact bk_ldi_mono (fun x => hK _ _ _ _ _ _) z
      | exact bk_ldl_mono (fun x => hK _ _ _ _ _ _) z
      | exact bk_ldd_mono (fun x => hK _ _ _ _ _ _) z
      | exact bk_lda_mono (fun x => hK _ _ _ _ _ _) z
      | exact bk_x1_mono (fun x r => hK _ _ _ _ _ _) z
      | exact bk_x1_mono (fun x r => bk_gd_mono (hK _ _ _ _ _ _)) z
      | exact bk_ldi_mono (fun x => bk_gd_mono (hK _ _ _ _ _ _)) z
      | exact bk_x2_mono (fun x y r => hK _ _ _ _ _ _) z
      | exact bk_x2_mono (fun x y r z => ⟨z.1, hK _ _ _ _ _ _ z.2⟩) z
      | exact bk_xl_mono (fun x y r => hK _ _ _ _ _ _) z
      | exact bk_xd_mono (fun x y r => hK _ _ _ _ _ _) z
      | exact bk_xd_mono (fun x y r z => ⟨z.1, hK _ _ _ _ _ _ z.2⟩) z
      | exact z
/-- one step -/
theorem bk_go_s {V : bk_V} {C : bk_P} (hC : bk_mono C) {j : Nat} {B : Nat × Nat} {Q : bk_R → bk_H → Nat → Prop} {pc : Nat} {L : bk_L} {st : List Value} {h : bk_H} {n : Nat} {cs : Nat × Nat}
    (z : bk_s1 V C j pc L st h n cs B Q (bk_go V C j B Q)) : bk_go V C j B Q pc L st h n cs := fun X hX => hX _ _ _ _ _ _ (bk_s1_mono hC (fun _ _ _ q => q) (fun _ _ _ _ _ _ q => q X hX) z)
theorem bk_go_mono {V : bk_V} {C : bk_P} (hC : bk_mono C) {j : Nat} {B : Nat × Nat} {Q Q' : bk_R → bk_H → Nat → Prop} (hQ : ∀ r h n, Q r h n → Q' r h n) {pc : Nat} {L : bk_L} {st : List Value} {h : bk_H} {n : Nat} {cs : Nat × Nat}
    (z : bk_go V C j B Q pc L st h n cs) : bk_go V C j B Q' pc L st h n cs := z _ (fun _ _ _ _ _ _ q => bk_go_s hC (bk_s1_mono hC hQ (fun _ _ _ _ _ _ q => q) q))
theorem bk_wp_mono {V : bk_V} : ∀ d, bk_mono (bk_wp V d)
  | 0 => fun _ _ _ _ _ _ _ _ z => z
  | d + 1 => fun _ _ _ _ _ _ _ hQ z => bk_gd_mono (bk_go_mono (bk_wp_mono d) hQ) z
/-- many steps: up to a place where the walk rests -/
def bk_rn' (V : bk_V) (C : bk_P) (j : Nat) (B : Nat × Nat) (Q : bk_R → bk_H → Nat → Prop) (S : Nat → Bool) : Nat → Nat → bk_L → List Value → bk_H → Nat → Nat × Nat → Prop
  | 0, pc, L, st, h, n, cs => bk_go V C j B Q pc L st h n cs
  | k + 1, pc, L, st, h, n, cs => bk_s1 V C j pc L st h n cs B Q (fun pc L st h n cs => match S pc with
    | true => bk_go V C j B Q pc L st h n cs
    | false => bk_rn' V C j B Q S k pc L st h n cs)
theorem bk_go_r {V : bk_V} {C : bk_P} (hC : bk_mono C) {j : Nat} {B : Nat × Nat} {Q : bk_R → bk_H → Nat → Prop} (S : Nat → Bool) : ∀ (k : Nat) {pc : Nat} {L : bk_L} {st : List Value} {h : bk_H} {n : Nat} {cs : Nat × Nat},
    bk_rn' V C j B Q S k pc L st h n cs → bk_go V C j B Q pc L st h n cs := by
  intro k
  induction k with
  | zero => exact fun z => z
  | succ k ih =>
    intro pc L st h n cs z
    refine bk_go_s hC (bk_s1_mono hC (fun _ _ _ q => q) (fun pc L st h n cs q => ?_) z)
    revert q
    cases S pc
    · exact ih
    · exact id
