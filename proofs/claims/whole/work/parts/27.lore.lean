/-! Lore and Mountain: begun anew, copied. Printed by wip/whole/mk27.py. -/
def bgT (P : Nat → bT) (i k : Nat) : bT := (List.range k).map fun j => if i = 0 then [rG (P 0) (nI j) 0, 0, 0] else if i = 1 then [rG (P 1) (nI j) 1] else [0]
def beginF (P : Nat → bT) (S : bS) : bS := (upd (upd (upd (upd S.1 3 0) 4 0) 5 0) 6 0, uT (uT (uT (uT (uT S.2 0 (bgT P 0 (P 0).length)) 1 (bgT P 1 (P 1).length)) 2 (bgT P 2 (P 2).length)) 3 []) 4 [])
def tCp (p : Int32 → Bool) (t : bT) (c : Nat) : Nat := t.countP (fun q => p (q.getD c 0))
theorem tCp_s {p : Int32 → Bool} {t : bT} {i c : Nat} (hi : i < t.length) : tCp p (t.take (i + 1)) c = tCp p (t.take i) c + (if p (tg t i c) = true then 1 else 0) := by
  unfold tCp tg
  rw [List.take_succ_eq_append_getElem hi, List.countP_append, List.countP_cons, List.countP_nil, gD_lt hi, Nat.zero_add]
theorem bgT_len {P : Nat → bT} {i k : Nat} : (bgT P i k).length = k := by
  unfold bgT
  rw [List.length_map, List.length_range]
theorem bgT_s {P : Nat → bT} {i k w : Nat} {v : Int32} (hk : k < 2 ^ 31) (hf : (if i = 0 then [rG (P 0) (nI k) 0, 0, 0] else if i = 1 then [rG (P 1) (nI k) 1] else [0]) = (List.replicate w 0).set 0 v) : rS (bgT P i k ++ [List.replicate w 0]) (nI k) 0 v = bgT P i (k + 1) := by
  have h := rS_last (t := bgT P i k) (r := List.replicate w 0) (c := 0) (v := v) (by rw [bgT_len]; exact hk)
  rw [bgT_len] at h
  rw [h, ← hf]
  unfold bgT
  rw [List.range_succ, List.map_append]
  rfl
theorem LO.t0 {h h' : bk_H} {m : Nat} {P : Nat → bT} {t : bT} (q : LO h m P) (k : TB h' (m + 1) 2 5 t) (g : fr h h' (m + 1) (m + 1 + 2)) : LO h' m (uT P 0 t) := by
  obtain ⟨h0, h1, h2, h3, h4, h5⟩ := q
  exact ⟨(g m (by omega)).trans h0, k, h2.kp g (by omega), h3.kp g (by omega), h4.kp g (by omega), h5.kp g (by omega)⟩
theorem LO.t1 {h h' : bk_H} {m : Nat} {P : Nat → bT} {t : bT} (q : LO h m P) (k : TB h' (m + 3) 2 6 t) (g : fr h h' (m + 3) (m + 3 + 2)) : LO h' m (uT P 1 t) := by
  obtain ⟨h0, h1, h2, h3, h4, h5⟩ := q
  exact ⟨(g m (by omega)).trans h0, h1.kp g (by omega), k, h3.kp g (by omega), h4.kp g (by omega), h5.kp g (by omega)⟩
theorem LO.t2 {h h' : bk_H} {m : Nat} {P : Nat → bT} {t : bT} (q : LO h m P) (k : TB h' (m + 5) 3 6 t) (g : fr h h' (m + 5) (m + 5 + 2)) : LO h' m (uT P 2 t) := by
  obtain ⟨h0, h1, h2, h3, h4, h5⟩ := q
  exact ⟨(g m (by omega)).trans h0, h1.kp g (by omega), h2.kp g (by omega), k, h4.kp g (by omega), h5.kp g (by omega)⟩
theorem LO.t3 {h h' : bk_H} {m : Nat} {P : Nat → bT} {t : bT} (q : LO h m P) (k : TB h' (m + 7) 7 24 t) (g : fr h h' (m + 7) (m + 7 + 2)) : LO h' m (uT P 3 t) := by
  obtain ⟨h0, h1, h2, h3, h4, h5⟩ := q
  exact ⟨(g m (by omega)).trans h0, h1.kp g (by omega), h2.kp g (by omega), h3.kp g (by omega), k, h5.kp g (by omega)⟩
theorem LO.t4 {h h' : bk_H} {m : Nat} {P : Nat → bT} {t : bT} (q : LO h m P) (k : TB h' (m + 9) 3 400 t) (g : fr h h' (m + 9) (m + 9 + 2)) : LO h' m (uT P 4 t) := by
  obtain ⟨h0, h1, h2, h3, h4, h5⟩ := q
  exact ⟨(g m (by omega)).trans h0, h1.kp g (by omega), h2.kp g (by omega), h3.kp g (by omega), h4.kp g (by omega), k⟩
theorem LO.eq {h : bk_H} {m : Nat} {P P' : Nat → bT} (q : LO h m P) (e : ∀ i, i < 5 → P i = P' i) : LO h m P' := by
  obtain ⟨h0, h1, h2, h3, h4, h5⟩ := q
  rw [e 0 (by decide)] at h1
  rw [e 1 (by decide)] at h2
  rw [e 2 (by decide)] at h3
  rw [e 3 (by decide)] at h4
  rw [e 4 (by decide)] at h5
  exact ⟨h0, h1, h2, h3, h4, h5⟩
section BM
variable {V : bk_V} {d n : Nat} {B : Nat × Nat} {Q : bk_R → bk_H → Nat → Prop} {h : bk_H} {a b : Nat} {P : Nat → bT} {S : bS} {cs : Nat × Nat}
theorem bm_lclear (hL : LO h a P) (hQ : ∀ h', LO h' a (fun _ => []) → fr h h' a (a + 11) → Q (.inl none) h' n) : bk_wp V (d + 2) 30 [.ref a] h n B Q := by
  obtain ⟨l0, l1, l2, l3, l4, l5⟩ := id hL
  refine bg_in rfl rfl ?_
  refine bg_aload0 rfl ?_
  refine bg_getfield rfl rfl l0 (by rfl) ?_
  refine bg_virt0 rfl rfl rfl rfl (TB.o l1) ?_
  refine bt_clear l1 (fun hA kA gA => bk_Kv ?_)
  have hLA := hL.t0 kA gA
  obtain ⟨l0, l1, l2, l3, l4, l5⟩ := id hLA
  refine bg_aload0 rfl ?_
  refine bg_getfield rfl rfl l0 (by rfl) ?_
  refine bg_virt0 rfl rfl rfl rfl (TB.o l2) ?_
  refine bt_clear l2 (fun hB kB gB => bk_Kv ?_)
  have hLB := hLA.t1 kB gB
  obtain ⟨l0, l1, l2, l3, l4, l5⟩ := id hLB
  refine bg_aload0 rfl ?_
  refine bg_getfield rfl rfl l0 (by rfl) ?_
  refine bg_virt0 rfl rfl rfl rfl (TB.o l3) ?_
  refine bt_clear l3 (fun hC kC gC => bk_Kv ?_)
  have hLC := hLB.t2 kC gC
  obtain ⟨l0, l1, l2, l3, l4, l5⟩ := id hLC
  refine bg_aload0 rfl ?_
  refine bg_getfield rfl rfl l0 (by rfl) ?_
  refine bg_virt0 rfl rfl rfl rfl (TB.o l4) ?_
  refine bt_clear l4 (fun hD kD gD => bk_Kv ?_)
  have hLD := hLC.t3 kD gD
  obtain ⟨l0, l1, l2, l3, l4, l5⟩ := id hLD
  refine bg_aload0 rfl ?_
  refine bg_getfield rfl rfl l0 (by rfl) ?_
  refine bg_virt0 rfl rfl rfl rfl (TB.o l5) ?_
  refine bt_clear l5 (fun hE kE gE => bk_Kv ?_)
  have hLE := hLD.t4 kE gE
  obtain ⟨l0, l1, l2, l3, l4, l5⟩ := id hLE
  refine bg_ret rfl rfl ?_
  refine hQ hE (hLE.eq fun i hi => ?_) (((((gA.wide (lo' := a) (hi' := a + 11) (by omega) (by omega)).trans (gB.wide (lo' := a) (hi' := a + 11) (by omega) (by omega))).trans (gC.wide (lo' := a) (hi' := a + 11) (by omega) (by omega))).trans (gD.wide (lo' := a) (hi' := a + 11) (by omega) (by omega))).trans (gE.wide (lo' := a) (hi' := a + 11) (by omega) (by omega)))
  match i, hi with
  | 0, _ => rfl
  | 1, _ => rfl
  | 2, _ => rfl
  | 3, _ => rfl
  | 4, _ => rfl
theorem bm_lcopy {P2 : Nat → bT} (hL : LO h a P) (hN : LO h b P2) (hd : a + 11 ≤ b ∨ b + 11 ≤ a) (hQ : ∀ h', LO h' a P2 → fr h h' a (a + 11) → Q (.inl none) h' n) : bk_wp V (d + 2) 31 [.ref a, .ref b] h n B Q := by
  obtain ⟨l0, l1, l2, l3, l4, l5⟩ := id hL
  obtain ⟨k0, k1, k2, k3, k4, k5⟩ := id hN
  refine bg_in rfl rfl ?_
  refine bg_aload0 rfl ?_
  refine bg_getfield rfl rfl l0 (by rfl) ?_
  refine bg_aload1 rfl ?_
  refine bg_getfield rfl rfl k0 (by rfl) ?_
  refine bg_virt1 rfl rfl rfl rfl ⟨_, l1.1⟩ ?_
  refine bt_copy l1 k1 (by omega) (fun hA kA gA => bk_Kv ?_)
  have hLA := hL.t0 kA gA
  have hN := hN.kp gA (by omega)
  obtain ⟨l0, l1, l2, l3, l4, l5⟩ := id hLA
  obtain ⟨k0, k1, k2, k3, k4, k5⟩ := id hN
  refine bg_aload0 rfl ?_
  refine bg_getfield rfl rfl l0 (by rfl) ?_
  refine bg_aload1 rfl ?_
  refine bg_getfield rfl rfl k0 (by rfl) ?_
  refine bg_virt1 rfl rfl rfl rfl ⟨_, l2.1⟩ ?_
  refine bt_copy l2 k2 (by omega) (fun hB kB gB => bk_Kv ?_)
  have hLB := hLA.t1 kB gB
  have hN := hN.kp gB (by omega)
  obtain ⟨l0, l1, l2, l3, l4, l5⟩ := id hLB
  obtain ⟨k0, k1, k2, k3, k4, k5⟩ := id hN
  refine bg_aload0 rfl ?_
  refine bg_getfield rfl rfl l0 (by rfl) ?_
  refine bg_aload1 rfl ?_
  refine bg_getfield rfl rfl k0 (by rfl) ?_
  refine bg_virt1 rfl rfl rfl rfl ⟨_, l3.1⟩ ?_
  refine bt_copy l3 k3 (by omega) (fun hC kC gC => bk_Kv ?_)
  have hLC := hLB.t2 kC gC
  have hN := hN.kp gC (by omega)
  obtain ⟨l0, l1, l2, l3, l4, l5⟩ := id hLC
  obtain ⟨k0, k1, k2, k3, k4, k5⟩ := id hN
  refine bg_aload0 rfl ?_
  refine bg_getfield rfl rfl l0 (by rfl) ?_
  refine bg_aload1 rfl ?_
  refine bg_getfield rfl rfl k0 (by rfl) ?_
  refine bg_virt1 rfl rfl rfl rfl ⟨_, l4.1⟩ ?_
  refine bt_copy l4 k4 (by omega) (fun hD kD gD => bk_Kv ?_)
  have hLD := hLC.t3 kD gD
  have hN := hN.kp gD (by omega)
  obtain ⟨l0, l1, l2, l3, l4, l5⟩ := id hLD
  obtain ⟨k0, k1, k2, k3, k4, k5⟩ := id hN
  refine bg_aload0 rfl ?_
  refine bg_getfield rfl rfl l0 (by rfl) ?_
  refine bg_aload1 rfl ?_
  refine bg_getfield rfl rfl k0 (by rfl) ?_
  refine bg_virt1 rfl rfl rfl rfl ⟨_, l5.1⟩ ?_
  refine bt_copy l5 k5 (by omega) (fun hE kE gE => bk_Kv ?_)
  have hLE := hLD.t4 kE gE
  have hN := hN.kp gE (by omega)
  obtain ⟨l0, l1, l2, l3, l4, l5⟩ := id hLE
  obtain ⟨k0, k1, k2, k3, k4, k5⟩ := id hN
  refine bg_ret rfl rfl ?_
  refine hQ hE (hLE.eq fun i hi => ?_) (((((gA.wide (lo' := a) (hi' := a + 11) (by omega) (by omega)).trans (gB.wide (lo' := a) (hi' := a + 11) (by omega) (by omega))).trans (gC.wide (lo' := a) (hi' := a + 11) (by omega) (by omega))).trans (gD.wide (lo' := a) (hi' := a + 11) (by omega) (by omega))).trans (gE.wide (lo' := a) (hi' := a + 11) (by omega) (by omega)))
  match i, hi with
  | 0, _ => rfl
  | 1, _ => rfl
  | 2, _ => rfl
  | 3, _ => rfl
  | 4, _ => rfl
theorem MO.eq {h : bk_H} {m : Nat} {S S' : bS} (q : MO h m S) (e : ∀ i, i < 5 → S.2 i = S'.2 i) (e1 : ∀ i, i < 8 → S.1 i = S'.1 i) : MO h m S' := by
  obtain ⟨h0, h1, h2, h3, h4, h5⟩ := q
  rw [e 0 (by decide)] at h1
  rw [e 1 (by decide)] at h2
  rw [e 2 (by decide)] at h3
  rw [e 3 (by decide)] at h4
  rw [e 4 (by decide)] at h5
  rw [e1 0 (by decide), e1 1 (by decide), e1 2 (by decide), e1 3 (by decide), e1 4 (by decide), e1 5 (by decide), e1 6 (by decide), e1 7 (by decide)] at h0
  exact ⟨h0, h1, h2, h3, h4, h5⟩
theorem bm_copy {S2 : bS} (hM : MO h a S) (hN : MO h b S2) (hd : a + 11 ≤ b ∨ b + 11 ≤ a) (hQ : ∀ h', MO h' a S2 → fr h h' a (a + 11) → Q (.inl none) h' n) : bk_wp V (d + 2) 34 [.ref a, .ref b] h n B Q := by
  obtain ⟨m0, m1, m2, m3, m4, m5⟩ := id hM
  obtain ⟨k0, k1, k2, k3, k4, k5⟩ := id hN
  refine bg_in rfl rfl ?_
  refine bg_aload0 rfl ?_
  refine bg_getfield rfl rfl m0 (by rfl) ?_
  refine bg_aload1 rfl ?_
  refine bg_getfield rfl rfl k0 (by rfl) ?_
  refine bg_virt1 rfl rfl rfl rfl ⟨_, m1.1⟩ ?_
  refine bt_copy m1 k1 (by omega) (fun hA kA gA => bk_Kv ?_)
  have hMA := hM.t0 kA gA
  have hN := hN.kp gA (by omega)
  obtain ⟨m0, m1, m2, m3, m4, m5⟩ := id hMA
  obtain ⟨k0, k1, k2, k3, k4, k5⟩ := id hN
  refine bg_aload0 rfl ?_
  refine bg_getfield rfl rfl m0 (by rfl) ?_
  refine bg_aload1 rfl ?_
  refine bg_getfield rfl rfl k0 (by rfl) ?_
  refine bg_virt1 rfl rfl rfl rfl ⟨_, m2.1⟩ ?_
  refine bt_copy m2 k2 (by omega) (fun hB kB gB => bk_Kv ?_)
  have hMB := hMA.t1 kB gB
  have hN := hN.kp gB (by omega)
  obtain ⟨m0, m1, m2, m3, m4, m5⟩ := id hMB
  obtain ⟨k0, k1, k2, k3, k4, k5⟩ := id hN
  refine bg_aload0 rfl ?_
  refine bg_getfield rfl rfl m0 (by rfl) ?_
  refine bg_aload1 rfl ?_
  refine bg_getfield rfl rfl k0 (by rfl) ?_
  refine bg_virt1 rfl rfl rfl rfl ⟨_, m3.1⟩ ?_
  refine bt_copy m3 k3 (by omega) (fun hC kC gC => bk_Kv ?_)
  have hMC := hMB.t2 kC gC
  have hN := hN.kp gC (by omega)
  obtain ⟨m0, m1, m2, m3, m4, m5⟩ := id hMC
  obtain ⟨k0, k1, k2, k3, k4, k5⟩ := id hN
  refine bg_aload0 rfl ?_
  refine bg_getfield rfl rfl m0 (by rfl) ?_
  refine bg_aload1 rfl ?_
  refine bg_getfield rfl rfl k0 (by rfl) ?_
  refine bg_virt1 rfl rfl rfl rfl ⟨_, m4.1⟩ ?_
  refine bt_copy m4 k4 (by omega) (fun hD kD gD => bk_Kv ?_)
  have hMD := hMC.t3 kD gD
  have hN := hN.kp gD (by omega)
  obtain ⟨m0, m1, m2, m3, m4, m5⟩ := id hMD
  obtain ⟨k0, k1, k2, k3, k4, k5⟩ := id hN
  refine bg_aload0 rfl ?_
  refine bg_getfield rfl rfl m0 (by rfl) ?_
  refine bg_aload1 rfl ?_
  refine bg_getfield rfl rfl k0 (by rfl) ?_
  refine bg_virt1 rfl rfl rfl rfl ⟨_, m5.1⟩ ?_
  refine bt_copy m5 k5 (by omega) (fun hE kE gE => bk_Kv ?_)
  have hME := hMD.t4 kE gE
  have hN := hN.kp gE (by omega)
  obtain ⟨m0, m1, m2, m3, m4, m5⟩ := id hME
  obtain ⟨k0, k1, k2, k3, k4, k5⟩ := id hN
  refine bg_aload0 rfl ?_
  refine bg_aload1 rfl ?_
  refine bg_getfield rfl rfl k0 (by rfl) ?_
  refine bg_putfield rfl rfl m0 (by rfl) ⟨rfl, rfl⟩ (by rfl) (fun h60 f60 g60 => ?_)
  have hMF := hME.i0 f60 g60
  have hN := hN.kp (fr.one g60) (by omega)
  obtain ⟨m0, m1, m2, m3, m4, m5⟩ := id hMF
  obtain ⟨k0, k1, k2, k3, k4, k5⟩ := id hN
  refine bg_aload0 rfl ?_
  refine bg_aload1 rfl ?_
  refine bg_getfield rfl rfl k0 (by rfl) ?_
  refine bg_putfield rfl rfl m0 (by rfl) ⟨rfl, rfl⟩ (by rfl) (fun h68 f68 g68 => ?_)
  have hMG := hMF.i1 f68 g68
  have hN := hN.kp (fr.one g68) (by omega)
  obtain ⟨m0, m1, m2, m3, m4, m5⟩ := id hMG
  obtain ⟨k0, k1, k2, k3, k4, k5⟩ := id hN
  refine bg_aload0 rfl ?_
  refine bg_aload1 rfl ?_
  refine bg_getfield rfl rfl k0 (by rfl) ?_
  refine bg_putfield rfl rfl m0 (by rfl) ⟨rfl, rfl⟩ (by rfl) (fun h76 f76 g76 => ?_)
  have hMH := hMG.i2 f76 g76
  have hN := hN.kp (fr.one g76) (by omega)
  obtain ⟨m0, m1, m2, m3, m4, m5⟩ := id hMH
  obtain ⟨k0, k1, k2, k3, k4, k5⟩ := id hN
  refine bg_aload0 rfl ?_
  refine bg_aload1 rfl ?_
  refine bg_getfield rfl rfl k0 (by rfl) ?_
  refine bg_putfield rfl rfl m0 (by rfl) ⟨rfl, rfl⟩ (by rfl) (fun h84 f84 g84 => ?_)
  have hMI := hMH.i3 f84 g84
  have hN := hN.kp (fr.one g84) (by omega)
  obtain ⟨m0, m1, m2, m3, m4, m5⟩ := id hMI
  obtain ⟨k0, k1, k2, k3, k4, k5⟩ := id hN
  refine bg_aload0 rfl ?_
  refine bg_aload1 rfl ?_
  refine bg_getfield rfl rfl k0 (by rfl) ?_
  refine bg_putfield rfl rfl m0 (by rfl) ⟨rfl, rfl⟩ (by rfl) (fun h92 f92 g92 => ?_)
  have hMJ := hMI.i4 f92 g92
  have hN := hN.kp (fr.one g92) (by omega)
  obtain ⟨m0, m1, m2, m3, m4, m5⟩ := id hMJ
  obtain ⟨k0, k1, k2, k3, k4, k5⟩ := id hN
  refine bg_aload0 rfl ?_
  refine bg_aload1 rfl ?_
  refine bg_getfield rfl rfl k0 (by rfl) ?_
  refine bg_putfield rfl rfl m0 (by rfl) ⟨rfl, rfl⟩ (by rfl) (fun h100 f100 g100 => ?_)
  have hMK := hMJ.i5 f100 g100
  have hN := hN.kp (fr.one g100) (by omega)
  obtain ⟨m0, m1, m2, m3, m4, m5⟩ := id hMK
  obtain ⟨k0, k1, k2, k3, k4, k5⟩ := id hN
  refine bg_aload0 rfl ?_
  refine bg_aload1 rfl ?_
  refine bg_getfield rfl rfl k0 (by rfl) ?_
  refine bg_putfield rfl rfl m0 (by rfl) ⟨rfl, rfl⟩ (by rfl) (fun h108 f108 g108 => ?_)
  have hML := hMK.i6 f108 g108
  have hN := hN.kp (fr.one g108) (by omega)
  obtain ⟨m0, m1, m2, m3, m4, m5⟩ := id hML
  obtain ⟨k0, k1, k2, k3, k4, k5⟩ := id hN
  refine bg_aload0 rfl ?_
  refine bg_aload1 rfl ?_
  refine bg_getfield rfl rfl k0 (by rfl) ?_
  refine bg_putfield rfl rfl m0 (by rfl) ⟨rfl, rfl⟩ (by rfl) (fun h116 f116 g116 => ?_)
  have hMM := hML.i7 f116 g116
  have hN := hN.kp (fr.one g116) (by omega)
  obtain ⟨m0, m1, m2, m3, m4, m5⟩ := id hMM
  obtain ⟨k0, k1, k2, k3, k4, k5⟩ := id hN
  refine bg_ret rfl rfl ?_
  refine hQ _ (hMM.eq (fun i hi => ?_) (fun i hi => ?_)) (((((((((((((gA.wide (lo' := a) (hi' := a + 11) (by omega) (by omega)).trans (gB.wide (lo' := a) (hi' := a + 11) (by omega) (by omega))).trans (gC.wide (lo' := a) (hi' := a + 11) (by omega) (by omega))).trans (gD.wide (lo' := a) (hi' := a + 11) (by omega) (by omega))).trans (gE.wide (lo' := a) (hi' := a + 11) (by omega) (by omega))).trans ((fr.one g60).wide (lo' := a) (hi' := a + 11) (by omega) (by omega))).trans ((fr.one g68).wide (lo' := a) (hi' := a + 11) (by omega) (by omega))).trans ((fr.one g76).wide (lo' := a) (hi' := a + 11) (by omega) (by omega))).trans ((fr.one g84).wide (lo' := a) (hi' := a + 11) (by omega) (by omega))).trans ((fr.one g92).wide (lo' := a) (hi' := a + 11) (by omega) (by omega))).trans ((fr.one g100).wide (lo' := a) (hi' := a + 11) (by omega) (by omega))).trans ((fr.one g108).wide (lo' := a) (hi' := a + 11) (by omega) (by omega))).trans ((fr.one g116).wide (lo' := a) (hi' := a + 11) (by omega) (by omega)))
  · match i, hi with
    | 0, _ => rfl
    | 1, _ => rfl
    | 2, _ => rfl
    | 3, _ => rfl
    | 4, _ => rfl
  · match i, hi with
    | 0, _ => rfl
    | 1, _ => rfl
    | 2, _ => rfl
    | 3, _ => rfl
    | 4, _ => rfl
    | 5, _ => rfl
    | 6, _ => rfl
    | 7, _ => rfl
theorem bm_mouldyL (hM : MO h a S) (hQ : Q (.inl (some (.int (nI (tCp (fun x => !decide (x < 5)) (S.2 3) 3))))) h n) : ∀ (c i : Nat), i + c = (S.2 3).length → bk_g V (d + 1) 35 B Q 4 [some (.ref a), some (.int (nI (tCp (fun x => !decide (x < 5)) ((S.2 3).take i) 3))), some (.int (nI i))] [] h n cs := by
  obtain ⟨m0, m1, m2, m3, m4, m5⟩ := id hM
  have m44 := m4.2.2.1
  intro c
  induction c with
  | zero =>
    intro i hi
    refine bg_iload2 rfl ?_
    refine bg_aload0 rfl ?_
    refine bg_getfield rfl rfl m0 (by rfl) ?_
    refine bg_virt0 rfl rfl rfl rfl (TB.o m4) ?_
    refine bt_size m4 (bk_Ki ?_)
    refine bg_icmp_ge rfl (fun e12 => ?_) (fun e12 => absurd e12 (nI_nlt (by omega) (by omega)))
    refine bg_iload1 rfl ?_
    refine bg_iret rfl rfl (by rfl) ?_
    rw [List.take_of_length_le (by omega)]
    exact hQ
  | succ c ih =>
    intro i hi
    have hi1 : i < (S.2 3).length := by omega
    refine bg_iload2 rfl ?_
    refine bg_aload0 rfl ?_
    refine bg_getfield rfl rfl m0 (by rfl) ?_
    refine bg_virt0 rfl rfl rfl rfl (TB.o m4) ?_
    refine bt_size m4 (bk_Ki ?_)
    refine bg_icmp_ge rfl (fun e12 => absurd (nI_lt hi1 (by omega)) e12) (fun e12 => ?_)
    refine bg_aload0 rfl ?_
    refine bg_getfield rfl rfl m0 (by rfl) ?_
    refine bg_iload2 rfl ?_
    refine bg_iconst rfl ?_
    refine bg_virt2 rfl rfl rfl rfl (TB.o m4) ?_
    refine bt_get m4 rfl (by decide) (bk_Ki ?_)
    rw [rG_nI (by omega)]
    refine bg_iconst rfl ?_
    refine bg_icmp_lt rfl (fun e25 => ?_) (fun e25 => ?_)
    · have hs := tCp_s (p := fun x => !decide (x < 5)) (c := 3) hi1
      rw [if_neg (by simp [e25])] at hs
      have hs := hs.trans (Nat.add_zero _)
      rw [← hs]
      refine bg_iinc2 rfl rfl ?_
      rw [nI_1]
      refine bg_goto rfl ?_
      exact ih (i + 1) (by omega)
    · have hs := tCp_s (p := fun x => !decide (x < 5)) (c := 3) hi1
      rw [if_pos (by simp [e25])] at hs
      refine bg_iinc1 rfl rfl ?_
      rw [nI_1, ← hs]
      refine bg_iinc2 rfl rfl ?_
      rw [nI_1]
      refine bg_goto rfl ?_
      exact ih (i + 1) (by omega)

theorem bm_mouldy (hM : MO h a S) (hQ : Q (.inl (some (.int (nI (tCp (fun x => !decide (x < 5)) (S.2 3) 3))))) h n) : bk_wp V (d + 2) 35 [.ref a] h n B Q := by
  refine bg_in rfl rfl ?_
  refine bg_iconst rfl ?_
  refine bg_istore1 rfl rfl ?_
  refine bg_iconst rfl ?_
  refine bg_istore2 rfl rfl ?_
  exact bm_mouldyL hM hQ (S.2 3).length 0 (by omega)
theorem bm_begL0 : ∀ (c k : Nat) (h : bk_H), MO h a (S.1, uT S.2 0 (bgT P 0 k)) → LO h b P → b + 11 ≤ a ∨ a + 11 ≤ b → k + c = (P 0).length → (∀ h', MO h' a (S.1, uT S.2 0 (bgT P 0 (P 0).length)) → LO h' b P → fr h h' a (a + 11) → ∀ x2, bk_g V (d + 1) 33 B Q 50 [some (.ref a), some (.ref b), x2] [] h' n cs) → bk_g V (d + 1) 33 B Q 9 [some (.ref a), some (.ref b), some (.int (nI k))] [] h n cs := by
  intro c
  induction c with
  | zero =>
    intro k h hM hL hd hk hQ
    obtain ⟨l0, l1, l2, l3, l4, l5⟩ := id hL
    have ll := l1.2.2.1
    refine bg_iload2 rfl ?_
    refine bg_aload1 rfl ?_
    refine bg_getfield rfl rfl l0 (by rfl) ?_
    refine bg_virt0 rfl rfl rfl rfl (TB.o l1) ?_
    refine bt_size l1 (bk_Ki ?_)
    refine bg_icmp_ge rfl (fun e17 => ?_) (fun e17 => absurd e17 (nI_nlt (by omega) (by omega)))
    rw [show k = (P 0).length by omega] at hM
    exact hQ h hM hL fr.refl _
  | succ c ih =>
    intro k h hM hL hd hk hQ
    obtain ⟨l0, l1, l2, l3, l4, l5⟩ := id hL
    obtain ⟨m0, m1, m2, m3, m4, m5⟩ := id hM
    have ll := l1.2.2.1
    simp only [uT_s] at m1
    refine bg_iload2 rfl ?_
    refine bg_aload1 rfl ?_
    refine bg_getfield rfl rfl l0 (by rfl) ?_
    refine bg_virt0 rfl rfl rfl rfl (TB.o l1) ?_
    refine bt_size l1 (bk_Ki ?_)
    refine bg_icmp_ge rfl (fun e17 => absurd (nI_lt (by omega) (by omega)) e17) (fun e17 => ?_)
    refine bg_aload0 rfl ?_
    refine bg_getfield rfl rfl m0 (by rfl) ?_
    refine bg_aload0 rfl ?_
    refine bg_getfield rfl rfl m0 (by rfl) ?_
    refine bg_virt0 rfl rfl rfl rfl ⟨_, m1.1⟩ ?_
    refine bt_add m1 (fun q => absurd (by rw [bgT_len]; omega) q) (fun _ hA kA gA => bk_Ki ?_)
    have hMA := hM.t0 kA gA
    have hL := hL.kp gA (by omega)
    rw [bgT_len]
    simp only [uT_uT] at hMA
    obtain ⟨m0, m1, m2, m3, m4, m5⟩ := id hMA
    simp only [uT_s] at m1
    obtain ⟨l0, l1, l2, l3, l4, l5⟩ := id hL
    refine bg_iconst rfl ?_
    refine bg_aload1 rfl ?_
    refine bg_getfield rfl rfl l0 (by rfl) ?_
    refine bg_iload2 rfl ?_
    refine bg_iconst rfl ?_
    refine bg_virt2 rfl rfl rfl rfl ⟨_, l1.1⟩ ?_
    refine bt_get l1 rfl (by decide) (bk_Ki ?_)
    refine bg_virt3 rfl rfl rfl rfl ⟨_, m1.1⟩ ?_
    refine bt_set m1 rfl (by decide) (fun hB kB gB => bk_Kv ?_)
    rw [bgT_s (by omega) rfl] at kB
    have hMB := hMA.t0 kB gB
    have hL := hL.kp gB (by omega)
    simp only [uT_uT] at hMB
    refine bg_iinc2 rfl rfl ?_
    rw [nI_1]
    refine bg_goto rfl ?_
    exact ih (k + 1) hB hMB hL hd (by omega) (fun h' q1 q2 q3 => hQ h' q1 q2 (((gA.wide (lo' := a) (hi' := a + 11) (by omega) (by omega)).trans (gB.wide (lo' := a) (hi' := a + 11) (by omega) (by omega))).trans q3))

theorem bm_begL1 : ∀ (c k : Nat) (h : bk_H), MO h a (S.1, uT S.2 1 (bgT P 1 k)) → LO h b P → b + 11 ≤ a ∨ a + 11 ≤ b → k + c = (P 1).length → (∀ h', MO h' a (S.1, uT S.2 1 (bgT P 1 (P 1).length)) → LO h' b P → fr h h' a (a + 11) → ∀ x2, bk_g V (d + 1) 33 B Q 100 [some (.ref a), some (.ref b), x2] [] h' n cs) → bk_g V (d + 1) 33 B Q 59 [some (.ref a), some (.ref b), some (.int (nI k))] [] h n cs := by
  intro c
  induction c with
  | zero =>
    intro k h hM hL hd hk hQ
    obtain ⟨l0, l1, l2, l3, l4, l5⟩ := id hL
    have ll := l2.2.2.1
    refine bg_iload2 rfl ?_
    refine bg_aload1 rfl ?_
    refine bg_getfield rfl rfl l0 (by rfl) ?_
    refine bg_virt0 rfl rfl rfl rfl (TB.o l2) ?_
    refine bt_size l2 (bk_Ki ?_)
    refine bg_icmp_ge rfl (fun e67 => ?_) (fun e67 => absurd e67 (nI_nlt (by omega) (by omega)))
    rw [show k = (P 1).length by omega] at hM
    exact hQ h hM hL fr.refl _
  | succ c ih =>
    intro k h hM hL hd hk hQ
    obtain ⟨l0, l1, l2, l3, l4, l5⟩ := id hL
    obtain ⟨m0, m1, m2, m3, m4, m5⟩ := id hM
    have ll := l2.2.2.1
    simp only [uT_s] at m2
    refine bg_iload2 rfl ?_
    refine bg_aload1 rfl ?_
    refine bg_getfield rfl rfl l0 (by rfl) ?_
    refine bg_virt0 rfl rfl rfl rfl (TB.o l2) ?_
    refine bt_size l2 (bk_Ki ?_)
    refine bg_icmp_ge rfl (fun e67 => absurd (nI_lt (by omega) (by omega)) e67) (fun e67 => ?_)
    refine bg_aload0 rfl ?_
    refine bg_getfield rfl rfl m0 (by rfl) ?_
    refine bg_aload0 rfl ?_
    refine bg_getfield rfl rfl m0 (by rfl) ?_
    refine bg_virt0 rfl rfl rfl rfl ⟨_, m2.1⟩ ?_
    refine bt_add m2 (fun q => absurd (by rw [bgT_len]; omega) q) (fun _ hA kA gA => bk_Ki ?_)
    have hMA := hM.t1 kA gA
    have hL := hL.kp gA (by omega)
    rw [bgT_len]
    simp only [uT_uT] at hMA
    obtain ⟨m0, m1, m2, m3, m4, m5⟩ := id hMA
    simp only [uT_s] at m2
    obtain ⟨l0, l1, l2, l3, l4, l5⟩ := id hL
    refine bg_iconst rfl ?_
    refine bg_aload1 rfl ?_
    refine bg_getfield rfl rfl l0 (by rfl) ?_
    refine bg_iload2 rfl ?_
    refine bg_iconst rfl ?_
    refine bg_virt2 rfl rfl rfl rfl ⟨_, l2.1⟩ ?_
    refine bt_get l2 rfl (by decide) (bk_Ki ?_)
    refine bg_virt3 rfl rfl rfl rfl ⟨_, m2.1⟩ ?_
    refine bt_set m2 rfl (by decide) (fun hB kB gB => bk_Kv ?_)
    rw [bgT_s (by omega) rfl] at kB
    have hMB := hMA.t1 kB gB
    have hL := hL.kp gB (by omega)
    simp only [uT_uT] at hMB
    refine bg_iinc2 rfl rfl ?_
    rw [nI_1]
    refine bg_goto rfl ?_
    exact ih (k + 1) hB hMB hL hd (by omega) (fun h' q1 q2 q3 => hQ h' q1 q2 (((gA.wide (lo' := a) (hi' := a + 11) (by omega) (by omega)).trans (gB.wide (lo' := a) (hi' := a + 11) (by omega) (by omega))).trans q3))

theorem bm_begL2 : ∀ (c k : Nat) (h : bk_H), MO h a (S.1, uT S.2 2 (bgT P 2 k)) → LO h b P → b + 11 ≤ a ∨ a + 11 ≤ b → k + c = (P 2).length → (∀ h', MO h' a (S.1, uT S.2 2 (bgT P 2 (P 2).length)) → LO h' b P → fr h h' a (a + 11) → ∀ x2, bk_g V (d + 1) 33 B Q 142 [some (.ref a), some (.ref b), x2] [] h' n cs) → bk_g V (d + 1) 33 B Q 109 [some (.ref a), some (.ref b), some (.int (nI k))] [] h n cs := by
  intro c
  induction c with
  | zero =>
    intro k h hM hL hd hk hQ
    obtain ⟨l0, l1, l2, l3, l4, l5⟩ := id hL
    have ll := l3.2.2.1
    refine bg_iload2 rfl ?_
    refine bg_aload1 rfl ?_
    refine bg_getfield rfl rfl l0 (by rfl) ?_
    refine bg_virt0 rfl rfl rfl rfl (TB.o l3) ?_
    refine bt_size l3 (bk_Ki ?_)
    refine bg_icmp_ge rfl (fun e117 => ?_) (fun e117 => absurd e117 (nI_nlt (by omega) (by omega)))
    rw [show k = (P 2).length by omega] at hM
    exact hQ h hM hL fr.refl _
  | succ c ih =>
    intro k h hM hL hd hk hQ
    obtain ⟨l0, l1, l2, l3, l4, l5⟩ := id hL
    obtain ⟨m0, m1, m2, m3, m4, m5⟩ := id hM
    have ll := l3.2.2.1
    simp only [uT_s] at m3
    refine bg_iload2 rfl ?_
    refine bg_aload1 rfl ?_
    refine bg_getfield rfl rfl l0 (by rfl) ?_
    refine bg_virt0 rfl rfl rfl rfl (TB.o l3) ?_
    refine bt_size l3 (bk_Ki ?_)
    refine bg_icmp_ge rfl (fun e117 => absurd (nI_lt (by omega) (by omega)) e117) (fun e117 => ?_)
    refine bg_aload0 rfl ?_
    refine bg_getfield rfl rfl m0 (by rfl) ?_
    refine bg_aload0 rfl ?_
    refine bg_getfield rfl rfl m0 (by rfl) ?_
    refine bg_virt0 rfl rfl rfl rfl ⟨_, m3.1⟩ ?_
    refine bt_add m3 (fun q => absurd (by rw [bgT_len]; omega) q) (fun _ hA kA gA => bk_Ki ?_)
    have hMA := hM.t2 kA gA
    have hL := hL.kp gA (by omega)
    rw [bgT_len]
    simp only [uT_uT] at hMA
    obtain ⟨m0, m1, m2, m3, m4, m5⟩ := id hMA
    simp only [uT_s] at m3
    obtain ⟨l0, l1, l2, l3, l4, l5⟩ := id hL
    refine bg_iconst rfl ?_
    refine bg_iconst rfl ?_
    refine bg_virt3 rfl rfl rfl rfl ⟨_, m3.1⟩ ?_
    refine bt_set m3 rfl (by decide) (fun hB kB gB => bk_Kv ?_)
    rw [bgT_s (by omega) rfl] at kB
    have hMB := hMA.t2 kB gB
    have hL := hL.kp gB (by omega)
    simp only [uT_uT] at hMB
    refine bg_iinc2 rfl rfl ?_
    rw [nI_1]
    refine bg_goto rfl ?_
    exact ih (k + 1) hB hMB hL hd (by omega) (fun h' q1 q2 q3 => hQ h' q1 q2 (((gA.wide (lo' := a) (hi' := a + 11) (by omega) (by omega)).trans (gB.wide (lo' := a) (hi' := a + 11) (by omega) (by omega))).trans q3))

theorem bm_begin (hM : MO h a S) (hL : LO h b P) (hd : b + 11 ≤ a ∨ a + 11 ≤ b) (hQ : ∀ h', MO h' a (beginF P S) → LO h' b P → fr h h' a (a + 11) → Q (.inl none) h' n) : bk_wp V (d + 2) 33 [.ref a, .ref b] h n B Q := by
  obtain ⟨m0, m1, m2, m3, m4, m5⟩ := id hM
  obtain ⟨l0, l1, l2, l3, l4, l5⟩ := id hL
  refine bg_in rfl rfl ?_
  refine bg_aload0 rfl ?_
  refine bg_getfield rfl rfl m0 (by rfl) ?_
  refine bg_virt0 rfl rfl rfl rfl (TB.o m1) ?_
  refine bt_clear m1 (fun hA kA gA => bk_Kv ?_)
  have hMA := hM.t0 kA gA
  have hL := hL.kp gA (by omega)
  obtain ⟨m0, m1, m2, m3, m4, m5⟩ := id hMA
  obtain ⟨l0, l1, l2, l3, l4, l5⟩ := id hL
  refine bg_iconst rfl ?_
  refine bg_istore2 rfl rfl ?_
  refine bm_begL0 (S := S) _ 0 hA hMA hL hd (Nat.zero_add _) (fun hA2 hMA2 hL gA2 xA => ?_)
  obtain ⟨m0, m1, m2, m3, m4, m5⟩ := id hMA2
  obtain ⟨l0, l1, l2, l3, l4, l5⟩ := id hL
  refine bg_aload0 rfl ?_
  refine bg_getfield rfl rfl m0 (by rfl) ?_
  refine bg_virt0 rfl rfl rfl rfl (TB.o m2) ?_
  refine bt_clear m2 (fun hB kB gB => bk_Kv ?_)
  have hMB := hMA2.t1 kB gB
  have hL := hL.kp gB (by omega)
  obtain ⟨m0, m1, m2, m3, m4, m5⟩ := id hMB
  obtain ⟨l0, l1, l2, l3, l4, l5⟩ := id hL
  refine bg_iconst rfl ?_
  refine bg_istore2 rfl rfl ?_
  refine bm_begL1 (S := (S.1, uT S.2 0 (bgT P 0 (P 0).length))) _ 0 hB hMB hL hd (Nat.zero_add _) (fun hB2 hMB2 hL gB2 xB => ?_)
  obtain ⟨m0, m1, m2, m3, m4, m5⟩ := id hMB2
  obtain ⟨l0, l1, l2, l3, l4, l5⟩ := id hL
  refine bg_aload0 rfl ?_
  refine bg_getfield rfl rfl m0 (by rfl) ?_
  refine bg_virt0 rfl rfl rfl rfl (TB.o m3) ?_
  refine bt_clear m3 (fun hC kC gC => bk_Kv ?_)
  have hMC := hMB2.t2 kC gC
  have hL := hL.kp gC (by omega)
  obtain ⟨m0, m1, m2, m3, m4, m5⟩ := id hMC
  obtain ⟨l0, l1, l2, l3, l4, l5⟩ := id hL
  refine bg_iconst rfl ?_
  refine bg_istore2 rfl rfl ?_
  refine bm_begL2 (S := (S.1, uT (uT S.2 0 (bgT P 0 (P 0).length)) 1 (bgT P 1 (P 1).length))) _ 0 hC hMC hL hd (Nat.zero_add _) (fun hC2 hMC2 hL gC2 xC => ?_)
  obtain ⟨m0, m1, m2, m3, m4, m5⟩ := id hMC2
  obtain ⟨l0, l1, l2, l3, l4, l5⟩ := id hL
  refine bg_aload0 rfl ?_
  refine bg_getfield rfl rfl m0 (by rfl) ?_
  refine bg_virt0 rfl rfl rfl rfl (TB.o m4) ?_
  refine bt_clear m4 (fun hD kD gD => bk_Kv ?_)
  have hMD := hMC2.t3 kD gD
  have hL := hL.kp gD (by omega)
  obtain ⟨m0, m1, m2, m3, m4, m5⟩ := id hMD
  obtain ⟨l0, l1, l2, l3, l4, l5⟩ := id hL
  refine bg_aload0 rfl ?_
  refine bg_getfield rfl rfl m0 (by rfl) ?_
  refine bg_virt0 rfl rfl rfl rfl (TB.o m5) ?_
  refine bt_clear m5 (fun hE kE gE => bk_Kv ?_)
  have hME := hMD.t4 kE gE
  have hL := hL.kp gE (by omega)
  obtain ⟨m0, m1, m2, m3, m4, m5⟩ := id hME
  obtain ⟨l0, l1, l2, l3, l4, l5⟩ := id hL
  refine bg_aload0 rfl ?_
  refine bg_iconst rfl ?_
  refine bg_putfield rfl rfl m0 (by rfl) ⟨rfl, rfl⟩ (by rfl) (fun h158 f158 g158 => ?_)
  have hMF := hME.i3 f158 g158
  obtain ⟨m0, m1, m2, m3, m4, m5⟩ := id hMF
  refine bg_aload0 rfl ?_
  refine bg_iconst rfl ?_
  refine bg_putfield rfl rfl m0 (by rfl) ⟨rfl, rfl⟩ (by rfl) (fun h163 f163 g163 => ?_)
  have hMG := hMF.i4 f163 g163
  obtain ⟨m0, m1, m2, m3, m4, m5⟩ := id hMG
  refine bg_aload0 rfl ?_
  refine bg_iconst rfl ?_
  refine bg_putfield rfl rfl m0 (by rfl) ⟨rfl, rfl⟩ (by rfl) (fun h168 f168 g168 => ?_)
  have hMH := hMG.i5 f168 g168
  obtain ⟨m0, m1, m2, m3, m4, m5⟩ := id hMH
  refine bg_aload0 rfl ?_
  refine bg_iconst rfl ?_
  refine bg_putfield rfl rfl m0 (by rfl) ⟨rfl, rfl⟩ (by rfl) (fun h173 f173 g173 => ?_)
  have hMI := hMH.i6 f173 g173
  have hL := (((hL.kp (fr.one g158) (by omega)).kp (fr.one g163) (by omega)).kp (fr.one g168) (by omega)).kp (fr.one g173) (by omega)
  refine bg_ret rfl rfl ?_
  refine hQ _ (hMI.eq (fun i hi => ?_) (fun i hi => ?_)) hL ?_
  · match i, hi with
    | 0, _ => rfl
    | 1, _ => rfl
    | 2, _ => rfl
    | 3, _ => rfl
    | 4, _ => rfl
  · match i, hi with
    | 0, _ => rfl
    | 1, _ => rfl
    | 2, _ => rfl
    | 3, _ => rfl
    | 4, _ => rfl
    | 5, _ => rfl
    | 6, _ => rfl
    | 7, _ => rfl
  · exact ((((((((((((gA.wide (lo' := a) (hi' := a + 11) (by omega) (by omega)).trans (gA2)).trans (gB.wide (lo' := a) (hi' := a + 11) (by omega) (by omega))).trans (gB2)).trans (gC.wide (lo' := a) (hi' := a + 11) (by omega) (by omega))).trans (gC2)).trans (gD.wide (lo' := a) (hi' := a + 11) (by omega) (by omega))).trans (gE.wide (lo' := a) (hi' := a + 11) (by omega) (by omega))).trans ((fr.one g158).wide (lo' := a) (hi' := a + 11) (by omega) (by omega))).trans ((fr.one g163).wide (lo' := a) (hi' := a + 11) (by omega) (by omega))).trans ((fr.one g168).wide (lo' := a) (hi' := a + 11) (by omega) (by omega))).trans ((fr.one g173).wide (lo' := a) (hi' := a + 11) (by omega) (by omega)))
end BM
