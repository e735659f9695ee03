/-! The mean's number: what a division of whole numbers gives is a number. -/
def gdD (d : FP.Core.Datum) : Prop := match d with
  | .nan => False
  | .inf _ => True
  | .fin _ c q => c < 2 ^ 53 ∧ q ≤ 971
theorem gd_settle {s : Bool} {c : Nat} {q : Int} : gdD (FP.Core.settle FP.Core.b64 s c q) := by
  have hm : FP.Core.b64.qmax = 971 := by decide
  have ht : FP.Core.b64.tails = 2 ^ 52 := by decide
  have hb : ∀ c q, c < 2 ^ 53 → gdD (FP.Core.bound FP.Core.b64 s c q) := fun c q h => by
    unfold FP.Core.bound
    rw [hm]
    by_cases e : q ≤ 971
    · rw [if_pos e]
      exact ⟨h, e⟩
    · rw [if_neg e]
      exact trivial
  unfold FP.Core.settle
  split
  · next h => exact hb c q h
  · rw [ht]
    exact hb _ _ (by decide)
theorem en_ok {d : FP.Core.Datum} (h : gdD d) : FP.Core.encode FP.Core.b64 d % 2 ^ 63 ≤ 2047 * 2 ^ 52 := by
  have ht : FP.Core.b64.tails = 2 ^ 52 := by decide
  have he : FP.Core.b64.exps = 2048 := by decide
  have hq : FP.Core.b64.qmin = -1074 := by decide
  cases d with
  | nan => exact h.elim
  | inf s =>
    unfold FP.Core.encode FP.Core.assemble
    simp only [ht, he]
    cases s
    · show ((0 * 2048 + (2048 - 1)) * 2 ^ 52 + 0) % 2 ^ 63 ≤ _
      omega
    · show ((1 * 2048 + (2048 - 1)) * 2 ^ 52 + 0) % 2 ^ 63 ≤ _
      omega
  | fin s c q =>
    obtain ⟨h1, h2⟩ := h
    unfold FP.Core.encode FP.Core.assemble
    simp only [ht, he, hq]
    by_cases a : c < 2 ^ 52
    · rw [if_pos a]
      cases s
      · show ((0 * 2048 + 0) * 2 ^ 52 + c) % 2 ^ 63 ≤ _
        omega
      · show ((1 * 2048 + 0) * 2 ^ 52 + c) % 2 ^ 63 ≤ _
        omega
    · rw [if_neg a]
      have e : (q - -1074).toNat + 1 ≤ 2046 := by omega
      generalize (q - -1074).toNat + 1 = z at e
      cases s
      · show ((0 * 2048 + z) * 2 ^ 52 + (c - 2 ^ 52)) % 2 ^ 63 ≤ _
        omega
      · show ((1 * 2048 + z) * 2 ^ 52 + (c - 2 ^ 52)) % 2 ^ 63 ≤ _
        omega
theorem vf_of {n : Nat} (h : n % 2 ^ 63 ≤ 2047 * 2 ^ 52) : vf_n64 (UInt64.ofNat n) := by
  unfold vf_n64
  rw [UInt64.le_iff_toNat_le, UInt64.toNat_and]
  show (UInt64.ofNat n).toNat &&& (2 ^ 63 - 1) ≤ 2047 * 2 ^ 52
  rw [Nat.and_two_pow_sub_one_eq_mod, UInt64.toNat_ofNat']
  omega
theorem de_ok {n : Nat} (h : n % 2 ^ 63 ≤ 2047 * 2 ^ 52) : ¬ FP.Core.decode FP.Core.b64 n = .nan := by
  have ht : FP.Core.b64.tails = 2 ^ 52 := by decide
  have he : FP.Core.b64.exps = 2048 := by decide
  unfold FP.Core.decode FP.Core.fieldE FP.Core.fieldT
  rw [ht, he]
  split
  · next a =>
    split
    · exact fun z => FP.Core.Datum.noConfusion z
    · next b => omega
  · split <;> exact fun z => FP.Core.Datum.noConfusion z
theorem gd_ratio {s : Bool} {num den : Nat} {e : Int} : gdD (FP.Core.roundRatio FP.Core.b64 s num den e) := by
  unfold FP.Core.roundRatio
  split
  · exact ⟨by decide, by decide⟩
  · exact gd_settle
theorem i2d_ok {a : Int32} : (FP.i2d a).toNat % 2 ^ 63 ≤ 2047 * 2 ^ 52 := by
  have h : FP.Core.encode FP.Core.b64 (FP.Core.roundRatio FP.Core.b64 (decide (a.toInt < 0)) a.toInt.natAbs 1 0) % 2 ^ 63 ≤ 2047 * 2 ^ 52 := en_ok gd_ratio
  have e : (FP.i2d a).toNat = FP.Core.encode FP.Core.b64 (FP.Core.roundRatio FP.Core.b64 (decide (a.toInt < 0)) a.toInt.natAbs 1 0) % 2 ^ 64 := UInt64.toNat_ofNat'
  rw [e]
  omega
def isF0 : FP.Core.Datum → Bool
  | .fin _ c _ => decide (¬ c = 0)
  | _ => false
theorem dn_ok : ∀ n, n < 31 → ¬ n = 0 → isF0 (FP.Core.decode FP.Core.b64 (FP.i2d (nI n)).toNat) = true := by decide +kernel
theorem dv_ok {a : Int32} {n : Nat} (h1 : ¬ n = 0) (h2 : n ≤ 30) : vf_n64 (FP.ddiv (FP.i2d a) (FP.i2d (nI n))) := by
  show vf_n64 (UInt64.ofNat (FP.Core.encode FP.Core.b64 (FP.Core.quotient FP.Core.b64 (FP.Core.decode FP.Core.b64 (FP.i2d a).toNat) (FP.Core.decode FP.Core.b64 (FP.i2d (nI n)).toNat))))
  refine vf_of (en_ok ?_)
  have hx := de_ok (n := (FP.i2d a).toNat) i2d_ok
  have hy := dn_ok n (by omega) h1
  generalize FP.Core.decode FP.Core.b64 (FP.i2d a).toNat = dx at hx ⊢
  generalize FP.Core.decode FP.Core.b64 (FP.i2d (nI n)).toNat = dy at hy ⊢
  cases dy with
  | nan => exact Bool.noConfusion hy
  | inf t => exact Bool.noConfusion hy
  | fin t d r =>
    have hd : ¬ d = 0 := of_decide_eq_true hy
    cases dx with
    | nan => exact absurd rfl hx
    | inf s => exact trivial
    | fin s c q =>
      show gdD (if d = 0 then _ else _)
      rw [if_neg hd]
      exact gd_ratio
/-- between the calls: a list is told, the mountain begins -/
theorem sdL_z {t : bT} (h : ∀ i, tg t i 0 = 0) : ∀ (c i : Nat), sdL t c i 0 = 0
  | 0, _ => rfl
  | c + 1, i => by
    show sdL t c (i + 1) (0 + tg t i 0) = 0
    rw [h i, show (0 : Int32) + 0 = 0 from rfl]
    exact sdL_z h c (i + 1)
theorem GI_b {P P' : Nat → bT} {S : bS} {H : Nat} {K : rI} {C : rA} (h : GI P H S) (hp : PLN P' K C) : GI P' H (beginF P' S) := by
  obtain ⟨_, _, ⟨m, k, b1, _, b3, _⟩, _⟩ := h
  obtain ⟨_, _, _, hs, _, _⟩ := hp
  refine ⟨⟨shT_b hs.2.2.1.1 rfl, bgT_len, Nat.zero_le _, fun i hi => absurd hi (Nat.not_lt_zero i)⟩, ?_, ⟨m, 0, b1, rfl, b3, Nat.zero_le _⟩, Nat.zero_le _⟩
  show sdL (bgT P' 2 (P' 2).length) 6 0 0 = 0
  refine sdL_z (fun i => ?_) 6 0
  by_cases hi : i < (P' 2).length
  · rw [tg_bg2 hi]
    rfl
  · unfold tg
    rw [List.getD_eq_getElem?_getD (l := bgT P' 2 _), List.getElem?_eq_none (by rw [bgT_len]; omega)]
    rfl
theorem GI_n : GI (fun _ => []) 0 S0F := ⟨⟨shT_0, rfl, Nat.zero_le _, fun i hi => absurd hi (Nat.not_lt_zero i)⟩, rfl, ⟨0, 0, rfl, rfl, Nat.le_refl 0, Nat.le_refl 0⟩, Nat.zero_le _⟩
