/-! SandGuardsModel() (written by wip/gen/gen9y4.py) -/
def moK : List (Nat × Nat) := [(1, 2), (1, 4), (1, 6), (1, 7), (1, 8), (1, 9), (1, 10), (1, 22), (1, 23), (1, 24), (1, 25), (1, 26), (1, 27), (1, 28), (1, 29), (1, 30), (1, 31), (1, 32), (1, 33), (1, 34), (1, 35), (1, 36), (1, 38), (1, 39), (1, 40), (1, 41), (1, 42), (1, 44), (1, 45), (1, 46), (1, 48), (1, 49), (1, 51), (1, 52), (1, 54), (1, 55), (1, 57), (1, 58), (1, 59), (1, 60), (1, 61)]
def kO_1 : List (Nat × Nat) := (1, 0) :: moK
theorem mo_nd : moK.Nodup := by decide +kernel
theorem mo_f : ∀ k ∈ moK, k.1 = 1 ∧ k.2 ≠ 0 ∧ k.2 ≠ 18 := by decide +kernel
def mst (j : Nat) : St := fun _ f k => if f = 33 ∧ k = 0 then 60 else if f = 9 ∧ 0 ≤ k ∧ k < j then kyT.getD k.toNat 0 else 0
theorem mo_k {P : Nat × Nat → Prop} (h : ∀ f, f ≠ 17 → P (1, f + 1)) : ∀ k ∈ moK, P k := by
  rintro ⟨a, c⟩ hk
  obtain ⟨h1, h2, h3⟩ := mo_f _ hk
  simp only at h1 h2 h3
  subst h1
  have := h (c - 1) (by omega)
  rwa [show c - 1 + 1 = c by omega] at this
theorem mo_c33 {w : Wd} : ∀ k ∈ moK, k ≠ (1, 33 + 1) → nvC w (cst 0 0) k = nvC w (mst 0) k := by
  refine mo_k (P := fun k => k ≠ (1, 33 + 1) → nvC w (cst 0 0) k = nvC w (mst 0) k) (fun f _ hne => cell_congF ?_)
  funext z
  rw [cst_0]
  unfold mst
  rw [if_neg (fun h => hne (by rw [h.1])), if_neg (by omega)]
theorem mo_u33 (q : Nat) : Int32.ofInt (mst 0 1 33 q) = if q = (0 : Int32).toNatClampNeg then 60 else Int32.ofInt (cst 0 0 1 33 q) := by
  rw [cst_0]
  unfold mst
  by_cases h : q = 0
  · subst h
    rfl
  · rw [show (0 : Int32).toNatClampNeg = 0 from by decide, if_neg (by omega), if_neg (by omega), if_neg h]
theorem mo_c9 {w : Wd} {j : Nat} : ∀ k ∈ moK, k ≠ (1, 9 + 1) → nvC w (mst j) k = nvC w (mst (j + 1)) k := by
  refine mo_k (P := fun k => k ≠ (1, 9 + 1) → nvC w (mst j) k = nvC w (mst (j + 1)) k) (fun f _ hne => cell_congF ?_)
  funext z
  have hf : f ≠ 9 := fun h => hne (by rw [h])
  unfold mst
  by_cases h : f = 33 ∧ z = 0
  · rw [if_pos h, if_pos h]
  · rw [if_neg h, if_neg h, if_neg (fun h => hf h.1), if_neg (fun h => hf h.1)]
theorem mo_u9 {j : Nat} {x : Int32} {y : Int64} (hx : x.toNatClampNeg = j) (hy : Int64.ofInt (kyT.getD j 0) = y) (q : Nat) : Int64.ofInt (mst (j + 1) 1 9 q) = if q = x.toNatClampNeg then y else Int64.ofInt (mst j 1 9 q) := by
  rw [hx, ← hy]
  unfold mst
  rw [if_neg (by omega), if_neg (c := 9 = 33 ∧ (q : Int) = 0) (by omega)]
  by_cases h : q = j
  · subst h
    rw [if_pos rfl, if_pos ⟨rfl, by omega, by omega⟩]
    rfl
  · rw [if_neg h]
    by_cases h2 : q < j
    · rw [if_pos ⟨rfl, by omega, by omega⟩, if_pos ⟨rfl, by omega, by omega⟩]
    · rw [if_neg (by omega), if_neg (c := 9 = 9 ∧ 0 ≤ (q : Int) ∧ (q : Int) < (j : Int)) (by omega)]
theorem mo_end {w : Wd} : ∀ k ∈ moK, nvC w (mst 14) k = nvC w s00 k := by
  refine mo_k (P := fun k => nvC w (mst 14) k = nvC w s00 k) (fun f h17 => cell_congF ?_)
  funext z
  rw [s00_m]
  unfold mst
  by_cases h : f = 33 ∧ z = 0
  · rw [if_pos h, if_pos h]
  · rw [if_neg h, if_neg h, if_neg h17]
    rfl
set_option maxRecDepth 40000 in
set_option maxHeartbeats 4000000 in
theorem k_O_1 : CtN M_Mo_init 1 kO_1 16907 := by
  intro g b C F hB hsz hI
  have hmc : gmc g = 41 := F.mc
  have hms : gms g = 16907 := F.ms
  show Nv g b 0 [(0, .ref b)] [] (b + 1) 0 0 ((b, .inr (12, [.int 0, .null, .int 0, .null, .int 0, .null, .null, .null, .null, .null, .int 0, .int 0, .int 0, .int 0, .int 0, .int 0, .int 0, .int 0, .int 0, .int 0, .int 0, .null, .null, .null, .null, .null, .null, .null, .null, .null, .null, .null, .null, .null, .null, .null, .int 0, .null, .null, .null, .null, .null, .int 0, .null, .null, .null, .int 0, .null, .null, .int 0, .null, .null, .int 0, .null, .null, .int 0, .null, .null, .null, .null, .null])) :: ([] ++ ([] : List (Nat × Nat)).map (nvC (gw g) (cst 0 0))))
  refine n_aload C 0 d_Mo_init_0 rfl rfl ?_
  refine n_oinit C lo_Mo oi_i oi_c d_Mo_init_1 (by decide) (by decide) ?_
  refine n_aload C 0 d_Mo_init_4 rfl rfl ?_
  refine n_sipush C d_Mo_init_5 (v := 2000) (by decide) ?_
  refine n_ab C (o := 1) (f := 1) (ci := 12) (N := 2000) (σ := cst 0 0) rfl rfl rfl (fun j => cst_0) (hB 1 (1, 2) rfl) ac_byte (by decide) (by decide) (by decide) (by omega) (by omega) (by omega) d_Mo_init_8 ?_
  refine n_putF C hI ff_Mo_13 rfl rfl (by show 1 < 61; decide) d_Mo_init_10 ?_
  show Nv g b 13 _ _ (b + 2) 1 2000 ((b, .inr (12, [.int 0, .ref (b + 1), .int 0, .null, .int 0, .null, .null, .null, .null, .null, .int 0, .int 0, .int 0, .int 0, .int 0, .int 0, .int 0, .int 0, .int 0, .int 0, .int 0, .null, .null, .null, .null, .null, .null, .null, .null, .null, .null, .null, .null, .null, .null, .null, .int 0, .null, .null, .null, .null, .null, .int 0, .null, .null, .null, .int 0, .null, .null, .int 0, .null, .null, .int 0, .null, .null, .int 0, .null, .null, .null, .null, .null])) :: _)
  refine n_aload C 0 d_Mo_init_13 rfl rfl ?_
  refine n_sipush C d_Mo_init_14 (v := 2000) (by decide) ?_
  refine n_ab C (o := 1) (f := 3) (ci := 12) (N := 2000) (σ := cst 0 0) rfl rfl rfl (fun j => cst_0) (hB 2 (1, 4) rfl) ac_byte (by decide) (by decide) (by decide) (by omega) (by omega) (by omega) d_Mo_init_17 ?_
  refine n_putF C hI ff_Mo_17 rfl rfl (by show 3 < 61; decide) d_Mo_init_19 ?_
  show Nv g b 22 _ _ (b + 3) 2 4000 ((b, .inr (12, [.int 0, .ref (b + 1), .int 0, .ref (b + 2), .int 0, .null, .null, .null, .null, .null, .int 0, .int 0, .int 0, .int 0, .int 0, .int 0, .int 0, .int 0, .int 0, .int 0, .int 0, .null, .null, .null, .null, .null, .null, .null, .null, .null, .null, .null, .null, .null, .null, .null, .int 0, .null, .null, .null, .null, .null, .int 0, .null, .null, .null, .int 0, .null, .null, .int 0, .null, .null, .int 0, .null, .null, .int 0, .null, .null, .null, .null, .null])) :: _)
  refine n_aload C 0 d_Mo_init_22 rfl rfl ?_
  refine n_sipush C d_Mo_init_23 (v := 403) (by decide) ?_
  refine n_ai C (o := 1) (f := 5) (ci := 12) (N := 403) (σ := cst 0 0) rfl rfl rfl (fun j => cst_0) (hB 3 (1, 6) rfl) ac_int (by decide) (by decide) (by decide) (by omega) (by omega) (by omega) d_Mo_init_26 ?_
  refine n_putF C hI ff_Mo_20 rfl rfl (by show 5 < 61; decide) d_Mo_init_28 ?_
  show Nv g b 31 _ _ (b + 4) 3 4403 ((b, .inr (12, [.int 0, .ref (b + 1), .int 0, .ref (b + 2), .int 0, .ref (b + 3), .null, .null, .null, .null, .int 0, .int 0, .int 0, .int 0, .int 0, .int 0, .int 0, .int 0, .int 0, .int 0, .int 0, .null, .null, .null, .null, .null, .null, .null, .null, .null, .null, .null, .null, .null, .null, .null, .int 0, .null, .null, .null, .null, .null, .int 0, .null, .null, .null, .int 0, .null, .null, .int 0, .null, .null, .int 0, .null, .null, .int 0, .null, .null, .null, .null, .null])) :: _)
  refine n_aload C 0 d_Mo_init_31 rfl rfl ?_
  refine n_sipush C d_Mo_init_32 (v := 403) (by decide) ?_
  refine n_ai C (o := 1) (f := 6) (ci := 12) (N := 403) (σ := cst 0 0) rfl rfl rfl (fun j => cst_0) (hB 4 (1, 7) rfl) ac_int (by decide) (by decide) (by decide) (by omega) (by omega) (by omega) d_Mo_init_35 ?_
  refine n_putF C hI ff_Mo_24 rfl rfl (by show 6 < 61; decide) d_Mo_init_37 ?_
  show Nv g b 40 _ _ (b + 5) 4 4806 ((b, .inr (12, [.int 0, .ref (b + 1), .int 0, .ref (b + 2), .int 0, .ref (b + 3), .ref (b + 4), .null, .null, .null, .int 0, .int 0, .int 0, .int 0, .int 0, .int 0, .int 0, .int 0, .int 0, .int 0, .int 0, .null, .null, .null, .null, .null, .null, .null, .null, .null, .null, .null, .null, .null, .null, .null, .int 0, .null, .null, .null, .null, .null, .int 0, .null, .null, .null, .int 0, .null, .null, .int 0, .null, .null, .int 0, .null, .null, .int 0, .null, .null, .null, .null, .null])) :: _)
  refine n_aload C 0 d_Mo_init_40 rfl rfl ?_
  refine n_sipush C d_Mo_init_41 (v := 403) (by decide) ?_
  refine n_ai C (o := 1) (f := 7) (ci := 12) (N := 403) (σ := cst 0 0) rfl rfl rfl (fun j => cst_0) (hB 5 (1, 8) rfl) ac_int (by decide) (by decide) (by decide) (by omega) (by omega) (by omega) d_Mo_init_44 ?_
  refine n_putF C hI ff_Mo_27 rfl rfl (by show 7 < 61; decide) d_Mo_init_46 ?_
  show Nv g b 49 _ _ (b + 6) 5 5209 ((b, .inr (12, [.int 0, .ref (b + 1), .int 0, .ref (b + 2), .int 0, .ref (b + 3), .ref (b + 4), .ref (b + 5), .null, .null, .int 0, .int 0, .int 0, .int 0, .int 0, .int 0, .int 0, .int 0, .int 0, .int 0, .int 0, .null, .null, .null, .null, .null, .null, .null, .null, .null, .null, .null, .null, .null, .null, .null, .int 0, .null, .null, .null, .null, .null, .int 0, .null, .null, .null, .int 0, .null, .null, .int 0, .null, .null, .int 0, .null, .null, .int 0, .null, .null, .null, .null, .null])) :: _)
  refine n_aload C 0 d_Mo_init_49 rfl rfl ?_
  refine n_sipush C d_Mo_init_50 (v := 403) (by decide) ?_
  refine n_al C (o := 1) (f := 8) (ci := 12) (N := 403) (σ := cst 0 0) rfl rfl rfl (fun j => cst_0) (hB 6 (1, 9) rfl) ac_long (by decide) (by decide) (by decide) (by omega) (by omega) (by omega) d_Mo_init_53 ?_
  refine n_putF C hI ff_Mo_30 rfl rfl (by show 8 < 61; decide) d_Mo_init_55 ?_
  show Nv g b 58 _ _ (b + 7) 6 5612 ((b, .inr (12, [.int 0, .ref (b + 1), .int 0, .ref (b + 2), .int 0, .ref (b + 3), .ref (b + 4), .ref (b + 5), .ref (b + 6), .null, .int 0, .int 0, .int 0, .int 0, .int 0, .int 0, .int 0, .int 0, .int 0, .int 0, .int 0, .null, .null, .null, .null, .null, .null, .null, .null, .null, .null, .null, .null, .null, .null, .null, .int 0, .null, .null, .null, .null, .null, .int 0, .null, .null, .null, .int 0, .null, .null, .int 0, .null, .null, .int 0, .null, .null, .int 0, .null, .null, .null, .null, .null])) :: _)
  refine n_aload C 0 d_Mo_init_58 rfl rfl ?_
  refine n_bipush C d_Mo_init_59 (v := 14) (by decide) ?_
  refine n_al C (o := 1) (f := 9) (ci := 12) (N := 14) (σ := cst 0 0) rfl rfl rfl (fun j => cst_0) (hB 7 (1, 10) rfl) ac_long (by decide) (by decide) (by decide) (by omega) (by omega) (by omega) d_Mo_init_61 ?_
  refine n_putF C hI ff_Mo_34 rfl rfl (by show 9 < 61; decide) d_Mo_init_63 ?_
  show Nv g b 66 _ _ (b + 8) 7 5626 ((b, .inr (12, [.int 0, .ref (b + 1), .int 0, .ref (b + 2), .int 0, .ref (b + 3), .ref (b + 4), .ref (b + 5), .ref (b + 6), .ref (b + 7), .int 0, .int 0, .int 0, .int 0, .int 0, .int 0, .int 0, .int 0, .int 0, .int 0, .int 0, .null, .null, .null, .null, .null, .null, .null, .null, .null, .null, .null, .null, .null, .null, .null, .int 0, .null, .null, .null, .null, .null, .int 0, .null, .null, .null, .int 0, .null, .null, .int 0, .null, .null, .int 0, .null, .null, .int 0, .null, .null, .null, .null, .null])) :: _)
  refine n_aload C 0 d_Mo_init_66 rfl rfl ?_
  refine n_iconst C d_Mo_init_67 (v := -1) (by decide) ?_
  refine n_put C fp_Mo_37 rfl rfl (by show 17 < 61; decide) d_Mo_init_68 ?_
  show Nv g b 71 _ _ (b + 8) 7 5626 ((b, .inr (12, [.int 0, .ref (b + 1), .int 0, .ref (b + 2), .int 0, .ref (b + 3), .ref (b + 4), .ref (b + 5), .ref (b + 6), .ref (b + 7), .int 0, .int 0, .int 0, .int 0, .int 0, .int 0, .int 0, .int (-1), .int 0, .int 0, .int 0, .null, .null, .null, .null, .null, .null, .null, .null, .null, .null, .null, .null, .null, .null, .null, .int 0, .null, .null, .null, .null, .null, .int 0, .null, .null, .null, .int 0, .null, .null, .int 0, .null, .null, .int 0, .null, .null, .int 0, .null, .null, .null, .null, .null])) :: _)
  refine n_aload C 0 d_Mo_init_71 rfl rfl ?_
  refine n_bipush C d_Mo_init_72 (v := 20) (by decide) ?_
  refine n_al C (o := 1) (f := 21) (ci := 12) (N := 20) (σ := cst 0 0) rfl rfl rfl (fun j => cst_0) (hB 8 (1, 22) rfl) ac_long (by decide) (by decide) (by decide) (by omega) (by omega) (by omega) d_Mo_init_74 ?_
  refine n_putF C hI ff_Mo_40 rfl rfl (by show 21 < 61; decide) d_Mo_init_76 ?_
  show Nv g b 79 _ _ (b + 9) 8 5646 ((b, .inr (12, [.int 0, .ref (b + 1), .int 0, .ref (b + 2), .int 0, .ref (b + 3), .ref (b + 4), .ref (b + 5), .ref (b + 6), .ref (b + 7), .int 0, .int 0, .int 0, .int 0, .int 0, .int 0, .int 0, .int (-1), .int 0, .int 0, .int 0, .ref (b + 8), .null, .null, .null, .null, .null, .null, .null, .null, .null, .null, .null, .null, .null, .null, .int 0, .null, .null, .null, .null, .null, .int 0, .null, .null, .null, .int 0, .null, .null, .int 0, .null, .null, .int 0, .null, .null, .int 0, .null, .null, .null, .null, .null])) :: _)
  refine n_aload C 0 d_Mo_init_79 rfl rfl ?_
  refine n_bipush C d_Mo_init_80 (v := 20) (by decide) ?_
  refine n_ai C (o := 1) (f := 22) (ci := 12) (N := 20) (σ := cst 0 0) rfl rfl rfl (fun j => cst_0) (hB 9 (1, 23) rfl) ac_int (by decide) (by decide) (by decide) (by omega) (by omega) (by omega) d_Mo_init_82 ?_
  refine n_putF C hI ff_Mo_43 rfl rfl (by show 22 < 61; decide) d_Mo_init_84 ?_
  show Nv g b 87 _ _ (b + 10) 9 5666 ((b, .inr (12, [.int 0, .ref (b + 1), .int 0, .ref (b + 2), .int 0, .ref (b + 3), .ref (b + 4), .ref (b + 5), .ref (b + 6), .ref (b + 7), .int 0, .int 0, .int 0, .int 0, .int 0, .int 0, .int 0, .int (-1), .int 0, .int 0, .int 0, .ref (b + 8), .ref (b + 9), .null, .null, .null, .null, .null, .null, .null, .null, .null, .null, .null, .null, .null, .int 0, .null, .null, .null, .null, .null, .int 0, .null, .null, .null, .int 0, .null, .null, .int 0, .null, .null, .int 0, .null, .null, .int 0, .null, .null, .null, .null, .null])) :: _)
  refine n_aload C 0 d_Mo_init_87 rfl rfl ?_
  refine n_bipush C d_Mo_init_88 (v := 20) (by decide) ?_
  refine n_ai C (o := 1) (f := 23) (ci := 12) (N := 20) (σ := cst 0 0) rfl rfl rfl (fun j => cst_0) (hB 10 (1, 24) rfl) ac_int (by decide) (by decide) (by decide) (by omega) (by omega) (by omega) d_Mo_init_90 ?_
  refine n_putF C hI ff_Mo_46 rfl rfl (by show 23 < 61; decide) d_Mo_init_92 ?_
  show Nv g b 95 _ _ (b + 11) 10 5686 ((b, .inr (12, [.int 0, .ref (b + 1), .int 0, .ref (b + 2), .int 0, .ref (b + 3), .ref (b + 4), .ref (b + 5), .ref (b + 6), .ref (b + 7), .int 0, .int 0, .int 0, .int 0, .int 0, .int 0, .int 0, .int (-1), .int 0, .int 0, .int 0, .ref (b + 8), .ref (b + 9), .ref (b + 10), .null, .null, .null, .null, .null, .null, .null, .null, .null, .null, .null, .null, .int 0, .null, .null, .null, .null, .null, .int 0, .null, .null, .null, .int 0, .null, .null, .int 0, .null, .null, .int 0, .null, .null, .int 0, .null, .null, .null, .null, .null])) :: _)
  refine n_aload C 0 d_Mo_init_95 rfl rfl ?_
  refine n_iconst C d_Mo_init_96 (v := 2) (by decide) ?_
  refine n_ai C (o := 1) (f := 24) (ci := 12) (N := 2) (σ := cst 0 0) rfl rfl rfl (fun j => cst_0) (hB 11 (1, 25) rfl) ac_int (by decide) (by decide) (by decide) (by omega) (by omega) (by omega) d_Mo_init_97 ?_
  refine n_putF C hI ff_Mo_49 rfl rfl (by show 24 < 61; decide) d_Mo_init_99 ?_
  show Nv g b 102 _ _ (b + 12) 11 5688 ((b, .inr (12, [.int 0, .ref (b + 1), .int 0, .ref (b + 2), .int 0, .ref (b + 3), .ref (b + 4), .ref (b + 5), .ref (b + 6), .ref (b + 7), .int 0, .int 0, .int 0, .int 0, .int 0, .int 0, .int 0, .int (-1), .int 0, .int 0, .int 0, .ref (b + 8), .ref (b + 9), .ref (b + 10), .ref (b + 11), .null, .null, .null, .null, .null, .null, .null, .null, .null, .null, .null, .int 0, .null, .null, .null, .null, .null, .int 0, .null, .null, .null, .int 0, .null, .null, .int 0, .null, .null, .int 0, .null, .null, .int 0, .null, .null, .null, .null, .null])) :: _)
  refine n_aload C 0 d_Mo_init_102 rfl rfl ?_
  refine n_bipush C d_Mo_init_103 (v := 16) (by decide) ?_
  refine n_ai C (o := 1) (f := 25) (ci := 12) (N := 16) (σ := cst 0 0) rfl rfl rfl (fun j => cst_0) (hB 12 (1, 26) rfl) ac_int (by decide) (by decide) (by decide) (by omega) (by omega) (by omega) d_Mo_init_105 ?_
  refine n_putF C hI ff_Mo_52 rfl rfl (by show 25 < 61; decide) d_Mo_init_107 ?_
  show Nv g b 110 _ _ (b + 13) 12 5704 ((b, .inr (12, [.int 0, .ref (b + 1), .int 0, .ref (b + 2), .int 0, .ref (b + 3), .ref (b + 4), .ref (b + 5), .ref (b + 6), .ref (b + 7), .int 0, .int 0, .int 0, .int 0, .int 0, .int 0, .int 0, .int (-1), .int 0, .int 0, .int 0, .ref (b + 8), .ref (b + 9), .ref (b + 10), .ref (b + 11), .ref (b + 12), .null, .null, .null, .null, .null, .null, .null, .null, .null, .null, .int 0, .null, .null, .null, .null, .null, .int 0, .null, .null, .null, .int 0, .null, .null, .int 0, .null, .null, .int 0, .null, .null, .int 0, .null, .null, .null, .null, .null])) :: _)
  refine n_aload C 0 d_Mo_init_110 rfl rfl ?_
  refine n_bipush C d_Mo_init_111 (v := 16) (by decide) ?_
  refine n_ai C (o := 1) (f := 26) (ci := 12) (N := 16) (σ := cst 0 0) rfl rfl rfl (fun j => cst_0) (hB 13 (1, 27) rfl) ac_int (by decide) (by decide) (by decide) (by omega) (by omega) (by omega) d_Mo_init_113 ?_
  refine n_putF C hI ff_Mo_55 rfl rfl (by show 26 < 61; decide) d_Mo_init_115 ?_
  show Nv g b 118 _ _ (b + 14) 13 5720 ((b, .inr (12, [.int 0, .ref (b + 1), .int 0, .ref (b + 2), .int 0, .ref (b + 3), .ref (b + 4), .ref (b + 5), .ref (b + 6), .ref (b + 7), .int 0, .int 0, .int 0, .int 0, .int 0, .int 0, .int 0, .int (-1), .int 0, .int 0, .int 0, .ref (b + 8), .ref (b + 9), .ref (b + 10), .ref (b + 11), .ref (b + 12), .ref (b + 13), .null, .null, .null, .null, .null, .null, .null, .null, .null, .int 0, .null, .null, .null, .null, .null, .int 0, .null, .null, .null, .int 0, .null, .null, .int 0, .null, .null, .int 0, .null, .null, .int 0, .null, .null, .null, .null, .null])) :: _)
  refine n_aload C 0 d_Mo_init_118 rfl rfl ?_
  refine n_bipush C d_Mo_init_119 (v := 16) (by decide) ?_
  refine n_ai C (o := 1) (f := 27) (ci := 12) (N := 16) (σ := cst 0 0) rfl rfl rfl (fun j => cst_0) (hB 14 (1, 28) rfl) ac_int (by decide) (by decide) (by decide) (by omega) (by omega) (by omega) d_Mo_init_121 ?_
  refine n_putF C hI ff_Mo_58 rfl rfl (by show 27 < 61; decide) d_Mo_init_123 ?_
  show Nv g b 126 _ _ (b + 15) 14 5736 ((b, .inr (12, [.int 0, .ref (b + 1), .int 0, .ref (b + 2), .int 0, .ref (b + 3), .ref (b + 4), .ref (b + 5), .ref (b + 6), .ref (b + 7), .int 0, .int 0, .int 0, .int 0, .int 0, .int 0, .int 0, .int (-1), .int 0, .int 0, .int 0, .ref (b + 8), .ref (b + 9), .ref (b + 10), .ref (b + 11), .ref (b + 12), .ref (b + 13), .ref (b + 14), .null, .null, .null, .null, .null, .null, .null, .null, .int 0, .null, .null, .null, .null, .null, .int 0, .null, .null, .null, .int 0, .null, .null, .int 0, .null, .null, .int 0, .null, .null, .int 0, .null, .null, .null, .null, .null])) :: _)
  refine n_aload C 0 d_Mo_init_126 rfl rfl ?_
  refine n_bipush C d_Mo_init_127 (v := 16) (by decide) ?_
  refine n_ai C (o := 1) (f := 28) (ci := 12) (N := 16) (σ := cst 0 0) rfl rfl rfl (fun j => cst_0) (hB 15 (1, 29) rfl) ac_int (by decide) (by decide) (by decide) (by omega) (by omega) (by omega) d_Mo_init_129 ?_
  refine n_putF C hI ff_Mo_61 rfl rfl (by show 28 < 61; decide) d_Mo_init_131 ?_
  show Nv g b 134 _ _ (b + 16) 15 5752 ((b, .inr (12, [.int 0, .ref (b + 1), .int 0, .ref (b + 2), .int 0, .ref (b + 3), .ref (b + 4), .ref (b + 5), .ref (b + 6), .ref (b + 7), .int 0, .int 0, .int 0, .int 0, .int 0, .int 0, .int 0, .int (-1), .int 0, .int 0, .int 0, .ref (b + 8), .ref (b + 9), .ref (b + 10), .ref (b + 11), .ref (b + 12), .ref (b + 13), .ref (b + 14), .ref (b + 15), .null, .null, .null, .null, .null, .null, .null, .int 0, .null, .null, .null, .null, .null, .int 0, .null, .null, .null, .int 0, .null, .null, .int 0, .null, .null, .int 0, .null, .null, .int 0, .null, .null, .null, .null, .null])) :: _)
  refine n_aload C 0 d_Mo_init_134 rfl rfl ?_
  refine n_iconst C d_Mo_init_135 (v := 2) (by decide) ?_
  refine n_ai C (o := 1) (f := 29) (ci := 12) (N := 2) (σ := cst 0 0) rfl rfl rfl (fun j => cst_0) (hB 16 (1, 30) rfl) ac_int (by decide) (by decide) (by decide) (by omega) (by omega) (by omega) d_Mo_init_136 ?_
  refine n_putF C hI ff_Mo_64 rfl rfl (by show 29 < 61; decide) d_Mo_init_138 ?_
  show Nv g b 141 _ _ (b + 17) 16 5754 ((b, .inr (12, [.int 0, .ref (b + 1), .int 0, .ref (b + 2), .int 0, .ref (b + 3), .ref (b + 4), .ref (b + 5), .ref (b + 6), .ref (b + 7), .int 0, .int 0, .int 0, .int 0, .int 0, .int 0, .int 0, .int (-1), .int 0, .int 0, .int 0, .ref (b + 8), .ref (b + 9), .ref (b + 10), .ref (b + 11), .ref (b + 12), .ref (b + 13), .ref (b + 14), .ref (b + 15), .ref (b + 16), .null, .null, .null, .null, .null, .null, .int 0, .null, .null, .null, .null, .null, .int 0, .null, .null, .null, .int 0, .null, .null, .int 0, .null, .null, .int 0, .null, .null, .int 0, .null, .null, .null, .null, .null])) :: _)
  refine n_aload C 0 d_Mo_init_141 rfl rfl ?_
  refine n_bipush C d_Mo_init_142 (v := 24) (by decide) ?_
  refine n_ai C (o := 1) (f := 30) (ci := 12) (N := 24) (σ := cst 0 0) rfl rfl rfl (fun j => cst_0) (hB 17 (1, 31) rfl) ac_int (by decide) (by decide) (by decide) (by omega) (by omega) (by omega) d_Mo_init_144 ?_
  refine n_putF C hI ff_Mo_67 rfl rfl (by show 30 < 61; decide) d_Mo_init_146 ?_
  show Nv g b 149 _ _ (b + 18) 17 5778 ((b, .inr (12, [.int 0, .ref (b + 1), .int 0, .ref (b + 2), .int 0, .ref (b + 3), .ref (b + 4), .ref (b + 5), .ref (b + 6), .ref (b + 7), .int 0, .int 0, .int 0, .int 0, .int 0, .int 0, .int 0, .int (-1), .int 0, .int 0, .int 0, .ref (b + 8), .ref (b + 9), .ref (b + 10), .ref (b + 11), .ref (b + 12), .ref (b + 13), .ref (b + 14), .ref (b + 15), .ref (b + 16), .ref (b + 17), .null, .null, .null, .null, .null, .int 0, .null, .null, .null, .null, .null, .int 0, .null, .null, .null, .int 0, .null, .null, .int 0, .null, .null, .int 0, .null, .null, .int 0, .null, .null, .null, .null, .null])) :: _)
  refine n_aload C 0 d_Mo_init_149 rfl rfl ?_
  refine n_iconst C d_Mo_init_150 (v := 2) (by decide) ?_
  refine n_ai C (o := 1) (f := 31) (ci := 12) (N := 2) (σ := cst 0 0) rfl rfl rfl (fun j => cst_0) (hB 18 (1, 32) rfl) ac_int (by decide) (by decide) (by decide) (by omega) (by omega) (by omega) d_Mo_init_151 ?_
  refine n_putF C hI ff_Mo_70 rfl rfl (by show 31 < 61; decide) d_Mo_init_153 ?_
  show Nv g b 156 _ _ (b + 19) 18 5780 ((b, .inr (12, [.int 0, .ref (b + 1), .int 0, .ref (b + 2), .int 0, .ref (b + 3), .ref (b + 4), .ref (b + 5), .ref (b + 6), .ref (b + 7), .int 0, .int 0, .int 0, .int 0, .int 0, .int 0, .int 0, .int (-1), .int 0, .int 0, .int 0, .ref (b + 8), .ref (b + 9), .ref (b + 10), .ref (b + 11), .ref (b + 12), .ref (b + 13), .ref (b + 14), .ref (b + 15), .ref (b + 16), .ref (b + 17), .ref (b + 18), .null, .null, .null, .null, .int 0, .null, .null, .null, .null, .null, .int 0, .null, .null, .null, .int 0, .null, .null, .int 0, .null, .null, .int 0, .null, .null, .int 0, .null, .null, .null, .null, .null])) :: _)
  refine n_aload C 0 d_Mo_init_156 rfl rfl ?_
  refine n_bipush C d_Mo_init_157 (v := 48) (by decide) ?_
  refine n_ai C (o := 1) (f := 32) (ci := 12) (N := 48) (σ := cst 0 0) rfl rfl rfl (fun j => cst_0) (hB 19 (1, 33) rfl) ac_int (by decide) (by decide) (by decide) (by omega) (by omega) (by omega) d_Mo_init_159 ?_
  refine n_putF C hI ff_Mo_73 rfl rfl (by show 32 < 61; decide) d_Mo_init_161 ?_
  show Nv g b 164 _ _ (b + 20) 19 5828 ((b, .inr (12, [.int 0, .ref (b + 1), .int 0, .ref (b + 2), .int 0, .ref (b + 3), .ref (b + 4), .ref (b + 5), .ref (b + 6), .ref (b + 7), .int 0, .int 0, .int 0, .int 0, .int 0, .int 0, .int 0, .int (-1), .int 0, .int 0, .int 0, .ref (b + 8), .ref (b + 9), .ref (b + 10), .ref (b + 11), .ref (b + 12), .ref (b + 13), .ref (b + 14), .ref (b + 15), .ref (b + 16), .ref (b + 17), .ref (b + 18), .ref (b + 19), .null, .null, .null, .int 0, .null, .null, .null, .null, .null, .int 0, .null, .null, .null, .int 0, .null, .null, .int 0, .null, .null, .int 0, .null, .null, .int 0, .null, .null, .null, .null, .null])) :: _)
  refine n_aload C 0 d_Mo_init_164 rfl rfl ?_
  refine n_iconst C d_Mo_init_165 (v := 2) (by decide) ?_
  refine n_ai C (o := 1) (f := 33) (ci := 12) (N := 2) (σ := cst 0 0) rfl rfl rfl (fun j => cst_0) (hB 20 (1, 34) rfl) ac_int (by decide) (by decide) (by decide) (by omega) (by omega) (by omega) d_Mo_init_166 ?_
  refine n_putF C hI ff_Mo_76 rfl rfl (by show 33 < 61; decide) d_Mo_init_168 ?_
  show Nv g b 171 _ _ (b + 21) 20 5830 ((b, .inr (12, [.int 0, .ref (b + 1), .int 0, .ref (b + 2), .int 0, .ref (b + 3), .ref (b + 4), .ref (b + 5), .ref (b + 6), .ref (b + 7), .int 0, .int 0, .int 0, .int 0, .int 0, .int 0, .int 0, .int (-1), .int 0, .int 0, .int 0, .ref (b + 8), .ref (b + 9), .ref (b + 10), .ref (b + 11), .ref (b + 12), .ref (b + 13), .ref (b + 14), .ref (b + 15), .ref (b + 16), .ref (b + 17), .ref (b + 18), .ref (b + 19), .ref (b + 20), .null, .null, .int 0, .null, .null, .null, .null, .null, .int 0, .null, .null, .null, .int 0, .null, .null, .int 0, .null, .null, .int 0, .null, .null, .int 0, .null, .null, .null, .null, .null])) :: _)
  refine n_aload C 0 d_Mo_init_171 rfl rfl ?_
  refine n_iconst C d_Mo_init_172 (v := 2) (by decide) ?_
  refine n_ai C (o := 1) (f := 34) (ci := 12) (N := 2) (σ := cst 0 0) rfl rfl rfl (fun j => cst_0) (hB 21 (1, 35) rfl) ac_int (by decide) (by decide) (by decide) (by omega) (by omega) (by omega) d_Mo_init_173 ?_
  refine n_putF C hI ff_Mo_79 rfl rfl (by show 34 < 61; decide) d_Mo_init_175 ?_
  show Nv g b 178 _ _ (b + 22) 21 5832 ((b, .inr (12, [.int 0, .ref (b + 1), .int 0, .ref (b + 2), .int 0, .ref (b + 3), .ref (b + 4), .ref (b + 5), .ref (b + 6), .ref (b + 7), .int 0, .int 0, .int 0, .int 0, .int 0, .int 0, .int 0, .int (-1), .int 0, .int 0, .int 0, .ref (b + 8), .ref (b + 9), .ref (b + 10), .ref (b + 11), .ref (b + 12), .ref (b + 13), .ref (b + 14), .ref (b + 15), .ref (b + 16), .ref (b + 17), .ref (b + 18), .ref (b + 19), .ref (b + 20), .ref (b + 21), .null, .int 0, .null, .null, .null, .null, .null, .int 0, .null, .null, .null, .int 0, .null, .null, .int 0, .null, .null, .int 0, .null, .null, .int 0, .null, .null, .null, .null, .null])) :: _)
  refine n_aload C 0 d_Mo_init_178 rfl rfl ?_
  refine n_iconst C d_Mo_init_179 (v := 2) (by decide) ?_
  refine n_ai C (o := 1) (f := 35) (ci := 12) (N := 2) (σ := cst 0 0) rfl rfl rfl (fun j => cst_0) (hB 22 (1, 36) rfl) ac_int (by decide) (by decide) (by decide) (by omega) (by omega) (by omega) d_Mo_init_180 ?_
  refine n_putF C hI ff_Mo_82 rfl rfl (by show 35 < 61; decide) d_Mo_init_182 ?_
  show Nv g b 185 _ _ (b + 23) 22 5834 ((b, .inr (12, [.int 0, .ref (b + 1), .int 0, .ref (b + 2), .int 0, .ref (b + 3), .ref (b + 4), .ref (b + 5), .ref (b + 6), .ref (b + 7), .int 0, .int 0, .int 0, .int 0, .int 0, .int 0, .int 0, .int (-1), .int 0, .int 0, .int 0, .ref (b + 8), .ref (b + 9), .ref (b + 10), .ref (b + 11), .ref (b + 12), .ref (b + 13), .ref (b + 14), .ref (b + 15), .ref (b + 16), .ref (b + 17), .ref (b + 18), .ref (b + 19), .ref (b + 20), .ref (b + 21), .ref (b + 22), .int 0, .null, .null, .null, .null, .null, .int 0, .null, .null, .null, .int 0, .null, .null, .int 0, .null, .null, .int 0, .null, .null, .int 0, .null, .null, .null, .null, .null])) :: _)
  refine n_aload C 0 d_Mo_init_185 rfl rfl ?_
  refine n_sipush C d_Mo_init_186 (v := 260) (by decide) ?_
  refine n_az C (o := 1) (f := 37) (ci := 12) (N := 260) (σ := cst 0 0) rfl rfl rfl (fun j => cst_0) (hB 23 (1, 38) rfl) ac_boolean (by decide) (by decide) (by decide) (by omega) (by omega) (by omega) d_Mo_init_189 ?_
  refine n_putF C hI ff_Mo_85 rfl rfl (by show 37 < 61; decide) d_Mo_init_191 ?_
  show Nv g b 194 _ _ (b + 24) 23 6094 ((b, .inr (12, [.int 0, .ref (b + 1), .int 0, .ref (b + 2), .int 0, .ref (b + 3), .ref (b + 4), .ref (b + 5), .ref (b + 6), .ref (b + 7), .int 0, .int 0, .int 0, .int 0, .int 0, .int 0, .int 0, .int (-1), .int 0, .int 0, .int 0, .ref (b + 8), .ref (b + 9), .ref (b + 10), .ref (b + 11), .ref (b + 12), .ref (b + 13), .ref (b + 14), .ref (b + 15), .ref (b + 16), .ref (b + 17), .ref (b + 18), .ref (b + 19), .ref (b + 20), .ref (b + 21), .ref (b + 22), .int 0, .ref (b + 23), .null, .null, .null, .null, .int 0, .null, .null, .null, .int 0, .null, .null, .int 0, .null, .null, .int 0, .null, .null, .int 0, .null, .null, .null, .null, .null])) :: _)
  refine n_aload C 0 d_Mo_init_194 rfl rfl ?_
  refine n_sipush C d_Mo_init_195 (v := 260) (by decide) ?_
  refine n_ai C (o := 1) (f := 38) (ci := 12) (N := 260) (σ := cst 0 0) rfl rfl rfl (fun j => cst_0) (hB 24 (1, 39) rfl) ac_int (by decide) (by decide) (by decide) (by omega) (by omega) (by omega) d_Mo_init_198 ?_
  refine n_putF C hI ff_Mo_89 rfl rfl (by show 38 < 61; decide) d_Mo_init_200 ?_
  show Nv g b 203 _ _ (b + 25) 24 6354 ((b, .inr (12, [.int 0, .ref (b + 1), .int 0, .ref (b + 2), .int 0, .ref (b + 3), .ref (b + 4), .ref (b + 5), .ref (b + 6), .ref (b + 7), .int 0, .int 0, .int 0, .int 0, .int 0, .int 0, .int 0, .int (-1), .int 0, .int 0, .int 0, .ref (b + 8), .ref (b + 9), .ref (b + 10), .ref (b + 11), .ref (b + 12), .ref (b + 13), .ref (b + 14), .ref (b + 15), .ref (b + 16), .ref (b + 17), .ref (b + 18), .ref (b + 19), .ref (b + 20), .ref (b + 21), .ref (b + 22), .int 0, .ref (b + 23), .ref (b + 24), .null, .null, .null, .int 0, .null, .null, .null, .int 0, .null, .null, .int 0, .null, .null, .int 0, .null, .null, .int 0, .null, .null, .null, .null, .null])) :: _)
  refine n_aload C 0 d_Mo_init_203 rfl rfl ?_
  refine n_sipush C d_Mo_init_204 (v := 260) (by decide) ?_
  refine n_ai C (o := 1) (f := 39) (ci := 12) (N := 260) (σ := cst 0 0) rfl rfl rfl (fun j => cst_0) (hB 25 (1, 40) rfl) ac_int (by decide) (by decide) (by decide) (by omega) (by omega) (by omega) d_Mo_init_207 ?_
  refine n_putF C hI ff_Mo_92 rfl rfl (by show 39 < 61; decide) d_Mo_init_209 ?_
  show Nv g b 212 _ _ (b + 26) 25 6614 ((b, .inr (12, [.int 0, .ref (b + 1), .int 0, .ref (b + 2), .int 0, .ref (b + 3), .ref (b + 4), .ref (b + 5), .ref (b + 6), .ref (b + 7), .int 0, .int 0, .int 0, .int 0, .int 0, .int 0, .int 0, .int (-1), .int 0, .int 0, .int 0, .ref (b + 8), .ref (b + 9), .ref (b + 10), .ref (b + 11), .ref (b + 12), .ref (b + 13), .ref (b + 14), .ref (b + 15), .ref (b + 16), .ref (b + 17), .ref (b + 18), .ref (b + 19), .ref (b + 20), .ref (b + 21), .ref (b + 22), .int 0, .ref (b + 23), .ref (b + 24), .ref (b + 25), .null, .null, .int 0, .null, .null, .null, .int 0, .null, .null, .int 0, .null, .null, .int 0, .null, .null, .int 0, .null, .null, .null, .null, .null])) :: _)
  refine n_aload C 0 d_Mo_init_212 rfl rfl ?_
  refine n_sipush C d_Mo_init_213 (v := 260) (by decide) ?_
  refine n_ai C (o := 1) (f := 40) (ci := 12) (N := 260) (σ := cst 0 0) rfl rfl rfl (fun j => cst_0) (hB 26 (1, 41) rfl) ac_int (by decide) (by decide) (by decide) (by omega) (by omega) (by omega) d_Mo_init_216 ?_
  refine n_putF C hI ff_Mo_95 rfl rfl (by show 40 < 61; decide) d_Mo_init_218 ?_
  show Nv g b 221 _ _ (b + 27) 26 6874 ((b, .inr (12, [.int 0, .ref (b + 1), .int 0, .ref (b + 2), .int 0, .ref (b + 3), .ref (b + 4), .ref (b + 5), .ref (b + 6), .ref (b + 7), .int 0, .int 0, .int 0, .int 0, .int 0, .int 0, .int 0, .int (-1), .int 0, .int 0, .int 0, .ref (b + 8), .ref (b + 9), .ref (b + 10), .ref (b + 11), .ref (b + 12), .ref (b + 13), .ref (b + 14), .ref (b + 15), .ref (b + 16), .ref (b + 17), .ref (b + 18), .ref (b + 19), .ref (b + 20), .ref (b + 21), .ref (b + 22), .int 0, .ref (b + 23), .ref (b + 24), .ref (b + 25), .ref (b + 26), .null, .int 0, .null, .null, .null, .int 0, .null, .null, .int 0, .null, .null, .int 0, .null, .null, .int 0, .null, .null, .null, .null, .null])) :: _)
  refine n_aload C 0 d_Mo_init_221 rfl rfl ?_
  refine n_sipush C d_Mo_init_222 (v := 260) (by decide) ?_
  refine n_ai C (o := 1) (f := 41) (ci := 12) (N := 260) (σ := cst 0 0) rfl rfl rfl (fun j => cst_0) (hB 27 (1, 42) rfl) ac_int (by decide) (by decide) (by decide) (by omega) (by omega) (by omega) d_Mo_init_225 ?_
  refine n_putF C hI ff_Mo_98 rfl rfl (by show 41 < 61; decide) d_Mo_init_227 ?_
  show Nv g b 230 _ _ (b + 28) 27 7134 ((b, .inr (12, [.int 0, .ref (b + 1), .int 0, .ref (b + 2), .int 0, .ref (b + 3), .ref (b + 4), .ref (b + 5), .ref (b + 6), .ref (b + 7), .int 0, .int 0, .int 0, .int 0, .int 0, .int 0, .int 0, .int (-1), .int 0, .int 0, .int 0, .ref (b + 8), .ref (b + 9), .ref (b + 10), .ref (b + 11), .ref (b + 12), .ref (b + 13), .ref (b + 14), .ref (b + 15), .ref (b + 16), .ref (b + 17), .ref (b + 18), .ref (b + 19), .ref (b + 20), .ref (b + 21), .ref (b + 22), .int 0, .ref (b + 23), .ref (b + 24), .ref (b + 25), .ref (b + 26), .ref (b + 27), .int 0, .null, .null, .null, .int 0, .null, .null, .int 0, .null, .null, .int 0, .null, .null, .int 0, .null, .null, .null, .null, .null])) :: _)
  refine n_aload C 0 d_Mo_init_230 rfl rfl ?_
  refine n_sipush C d_Mo_init_231 (v := 840) (by decide) ?_
  refine n_ai C (o := 1) (f := 43) (ci := 12) (N := 840) (σ := cst 0 0) rfl rfl rfl (fun j => cst_0) (hB 28 (1, 44) rfl) ac_int (by decide) (by decide) (by decide) (by omega) (by omega) (by omega) d_Mo_init_234 ?_
  refine n_putF C hI ff_Mo_101 rfl rfl (by show 43 < 61; decide) d_Mo_init_236 ?_
  show Nv g b 239 _ _ (b + 29) 28 7974 ((b, .inr (12, [.int 0, .ref (b + 1), .int 0, .ref (b + 2), .int 0, .ref (b + 3), .ref (b + 4), .ref (b + 5), .ref (b + 6), .ref (b + 7), .int 0, .int 0, .int 0, .int 0, .int 0, .int 0, .int 0, .int (-1), .int 0, .int 0, .int 0, .ref (b + 8), .ref (b + 9), .ref (b + 10), .ref (b + 11), .ref (b + 12), .ref (b + 13), .ref (b + 14), .ref (b + 15), .ref (b + 16), .ref (b + 17), .ref (b + 18), .ref (b + 19), .ref (b + 20), .ref (b + 21), .ref (b + 22), .int 0, .ref (b + 23), .ref (b + 24), .ref (b + 25), .ref (b + 26), .ref (b + 27), .int 0, .ref (b + 28), .null, .null, .int 0, .null, .null, .int 0, .null, .null, .int 0, .null, .null, .int 0, .null, .null, .null, .null, .null])) :: _)
  refine n_aload C 0 d_Mo_init_239 rfl rfl ?_
  refine n_sipush C d_Mo_init_240 (v := 840) (by decide) ?_
  refine n_ai C (o := 1) (f := 44) (ci := 12) (N := 840) (σ := cst 0 0) rfl rfl rfl (fun j => cst_0) (hB 29 (1, 45) rfl) ac_int (by decide) (by decide) (by decide) (by omega) (by omega) (by omega) d_Mo_init_243 ?_
  refine n_putF C hI ff_Mo_104 rfl rfl (by show 44 < 61; decide) d_Mo_init_245 ?_
  show Nv g b 248 _ _ (b + 30) 29 8814 ((b, .inr (12, [.int 0, .ref (b + 1), .int 0, .ref (b + 2), .int 0, .ref (b + 3), .ref (b + 4), .ref (b + 5), .ref (b + 6), .ref (b + 7), .int 0, .int 0, .int 0, .int 0, .int 0, .int 0, .int 0, .int (-1), .int 0, .int 0, .int 0, .ref (b + 8), .ref (b + 9), .ref (b + 10), .ref (b + 11), .ref (b + 12), .ref (b + 13), .ref (b + 14), .ref (b + 15), .ref (b + 16), .ref (b + 17), .ref (b + 18), .ref (b + 19), .ref (b + 20), .ref (b + 21), .ref (b + 22), .int 0, .ref (b + 23), .ref (b + 24), .ref (b + 25), .ref (b + 26), .ref (b + 27), .int 0, .ref (b + 28), .ref (b + 29), .null, .int 0, .null, .null, .int 0, .null, .null, .int 0, .null, .null, .int 0, .null, .null, .null, .null, .null])) :: _)
  refine n_aload C 0 d_Mo_init_248 rfl rfl ?_
  refine n_bipush C d_Mo_init_249 (v := 64) (by decide) ?_
  refine n_ai C (o := 1) (f := 45) (ci := 12) (N := 64) (σ := cst 0 0) rfl rfl rfl (fun j => cst_0) (hB 30 (1, 46) rfl) ac_int (by decide) (by decide) (by decide) (by omega) (by omega) (by omega) d_Mo_init_251 ?_
  refine n_putF C hI ff_Mo_107 rfl rfl (by show 45 < 61; decide) d_Mo_init_253 ?_
  show Nv g b 256 _ _ (b + 31) 30 8878 ((b, .inr (12, [.int 0, .ref (b + 1), .int 0, .ref (b + 2), .int 0, .ref (b + 3), .ref (b + 4), .ref (b + 5), .ref (b + 6), .ref (b + 7), .int 0, .int 0, .int 0, .int 0, .int 0, .int 0, .int 0, .int (-1), .int 0, .int 0, .int 0, .ref (b + 8), .ref (b + 9), .ref (b + 10), .ref (b + 11), .ref (b + 12), .ref (b + 13), .ref (b + 14), .ref (b + 15), .ref (b + 16), .ref (b + 17), .ref (b + 18), .ref (b + 19), .ref (b + 20), .ref (b + 21), .ref (b + 22), .int 0, .ref (b + 23), .ref (b + 24), .ref (b + 25), .ref (b + 26), .ref (b + 27), .int 0, .ref (b + 28), .ref (b + 29), .ref (b + 30), .int 0, .null, .null, .int 0, .null, .null, .int 0, .null, .null, .int 0, .null, .null, .null, .null, .null])) :: _)
  refine n_aload C 0 d_Mo_init_256 rfl rfl ?_
  refine n_bipush C d_Mo_init_257 (v := 6) (by decide) ?_
  refine n_ai C (o := 1) (f := 47) (ci := 12) (N := 6) (σ := cst 0 0) rfl rfl rfl (fun j => cst_0) (hB 31 (1, 48) rfl) ac_int (by decide) (by decide) (by decide) (by omega) (by omega) (by omega) d_Mo_init_259 ?_
  refine n_putF C hI ff_Mo_110 rfl rfl (by show 47 < 61; decide) d_Mo_init_261 ?_
  show Nv g b 264 _ _ (b + 32) 31 8884 ((b, .inr (12, [.int 0, .ref (b + 1), .int 0, .ref (b + 2), .int 0, .ref (b + 3), .ref (b + 4), .ref (b + 5), .ref (b + 6), .ref (b + 7), .int 0, .int 0, .int 0, .int 0, .int 0, .int 0, .int 0, .int (-1), .int 0, .int 0, .int 0, .ref (b + 8), .ref (b + 9), .ref (b + 10), .ref (b + 11), .ref (b + 12), .ref (b + 13), .ref (b + 14), .ref (b + 15), .ref (b + 16), .ref (b + 17), .ref (b + 18), .ref (b + 19), .ref (b + 20), .ref (b + 21), .ref (b + 22), .int 0, .ref (b + 23), .ref (b + 24), .ref (b + 25), .ref (b + 26), .ref (b + 27), .int 0, .ref (b + 28), .ref (b + 29), .ref (b + 30), .int 0, .ref (b + 31), .null, .int 0, .null, .null, .int 0, .null, .null, .int 0, .null, .null, .null, .null, .null])) :: _)
  refine n_aload C 0 d_Mo_init_264 rfl rfl ?_
  refine n_sipush C d_Mo_init_265 (v := 400) (by decide) ?_
  refine n_ai C (o := 1) (f := 48) (ci := 12) (N := 400) (σ := cst 0 0) rfl rfl rfl (fun j => cst_0) (hB 32 (1, 49) rfl) ac_int (by decide) (by decide) (by decide) (by omega) (by omega) (by omega) d_Mo_init_268 ?_
  refine n_putF C hI ff_Mo_113 rfl rfl (by show 48 < 61; decide) d_Mo_init_270 ?_
  show Nv g b 273 _ _ (b + 33) 32 9284 ((b, .inr (12, [.int 0, .ref (b + 1), .int 0, .ref (b + 2), .int 0, .ref (b + 3), .ref (b + 4), .ref (b + 5), .ref (b + 6), .ref (b + 7), .int 0, .int 0, .int 0, .int 0, .int 0, .int 0, .int 0, .int (-1), .int 0, .int 0, .int 0, .ref (b + 8), .ref (b + 9), .ref (b + 10), .ref (b + 11), .ref (b + 12), .ref (b + 13), .ref (b + 14), .ref (b + 15), .ref (b + 16), .ref (b + 17), .ref (b + 18), .ref (b + 19), .ref (b + 20), .ref (b + 21), .ref (b + 22), .int 0, .ref (b + 23), .ref (b + 24), .ref (b + 25), .ref (b + 26), .ref (b + 27), .int 0, .ref (b + 28), .ref (b + 29), .ref (b + 30), .int 0, .ref (b + 31), .ref (b + 32), .int 0, .null, .null, .int 0, .null, .null, .int 0, .null, .null, .null, .null, .null])) :: _)
  refine n_aload C 0 d_Mo_init_273 rfl rfl ?_
  refine n_bipush C d_Mo_init_274 (v := 100) (by decide) ?_
  refine n_ai C (o := 1) (f := 50) (ci := 12) (N := 100) (σ := cst 0 0) rfl rfl rfl (fun j => cst_0) (hB 33 (1, 51) rfl) ac_int (by decide) (by decide) (by decide) (by omega) (by omega) (by omega) d_Mo_init_276 ?_
  refine n_putF C hI ff_Mo_116 rfl rfl (by show 50 < 61; decide) d_Mo_init_278 ?_
  show Nv g b 281 _ _ (b + 34) 33 9384 ((b, .inr (12, [.int 0, .ref (b + 1), .int 0, .ref (b + 2), .int 0, .ref (b + 3), .ref (b + 4), .ref (b + 5), .ref (b + 6), .ref (b + 7), .int 0, .int 0, .int 0, .int 0, .int 0, .int 0, .int 0, .int (-1), .int 0, .int 0, .int 0, .ref (b + 8), .ref (b + 9), .ref (b + 10), .ref (b + 11), .ref (b + 12), .ref (b + 13), .ref (b + 14), .ref (b + 15), .ref (b + 16), .ref (b + 17), .ref (b + 18), .ref (b + 19), .ref (b + 20), .ref (b + 21), .ref (b + 22), .int 0, .ref (b + 23), .ref (b + 24), .ref (b + 25), .ref (b + 26), .ref (b + 27), .int 0, .ref (b + 28), .ref (b + 29), .ref (b + 30), .int 0, .ref (b + 31), .ref (b + 32), .int 0, .ref (b + 33), .null, .int 0, .null, .null, .int 0, .null, .null, .null, .null, .null])) :: _)
  refine n_aload C 0 d_Mo_init_281 rfl rfl ?_
  refine n_bipush C d_Mo_init_282 (v := 100) (by decide) ?_
  refine n_ai C (o := 1) (f := 51) (ci := 12) (N := 100) (σ := cst 0 0) rfl rfl rfl (fun j => cst_0) (hB 34 (1, 52) rfl) ac_int (by decide) (by decide) (by decide) (by omega) (by omega) (by omega) d_Mo_init_284 ?_
  refine n_putF C hI ff_Mo_119 rfl rfl (by show 51 < 61; decide) d_Mo_init_286 ?_
  show Nv g b 289 _ _ (b + 35) 34 9484 ((b, .inr (12, [.int 0, .ref (b + 1), .int 0, .ref (b + 2), .int 0, .ref (b + 3), .ref (b + 4), .ref (b + 5), .ref (b + 6), .ref (b + 7), .int 0, .int 0, .int 0, .int 0, .int 0, .int 0, .int 0, .int (-1), .int 0, .int 0, .int 0, .ref (b + 8), .ref (b + 9), .ref (b + 10), .ref (b + 11), .ref (b + 12), .ref (b + 13), .ref (b + 14), .ref (b + 15), .ref (b + 16), .ref (b + 17), .ref (b + 18), .ref (b + 19), .ref (b + 20), .ref (b + 21), .ref (b + 22), .int 0, .ref (b + 23), .ref (b + 24), .ref (b + 25), .ref (b + 26), .ref (b + 27), .int 0, .ref (b + 28), .ref (b + 29), .ref (b + 30), .int 0, .ref (b + 31), .ref (b + 32), .int 0, .ref (b + 33), .ref (b + 34), .int 0, .null, .null, .int 0, .null, .null, .null, .null, .null])) :: _)
  refine n_aload C 0 d_Mo_init_289 rfl rfl ?_
  refine n_sipush C d_Mo_init_290 (v := 4000) (by decide) ?_
  refine n_ai C (o := 1) (f := 53) (ci := 12) (N := 4000) (σ := cst 0 0) rfl rfl rfl (fun j => cst_0) (hB 35 (1, 54) rfl) ac_int (by decide) (by decide) (by decide) (by omega) (by omega) (by omega) d_Mo_init_293 ?_
  refine n_putF C hI ff_Mo_122 rfl rfl (by show 53 < 61; decide) d_Mo_init_295 ?_
  show Nv g b 298 _ _ (b + 36) 35 13484 ((b, .inr (12, [.int 0, .ref (b + 1), .int 0, .ref (b + 2), .int 0, .ref (b + 3), .ref (b + 4), .ref (b + 5), .ref (b + 6), .ref (b + 7), .int 0, .int 0, .int 0, .int 0, .int 0, .int 0, .int 0, .int (-1), .int 0, .int 0, .int 0, .ref (b + 8), .ref (b + 9), .ref (b + 10), .ref (b + 11), .ref (b + 12), .ref (b + 13), .ref (b + 14), .ref (b + 15), .ref (b + 16), .ref (b + 17), .ref (b + 18), .ref (b + 19), .ref (b + 20), .ref (b + 21), .ref (b + 22), .int 0, .ref (b + 23), .ref (b + 24), .ref (b + 25), .ref (b + 26), .ref (b + 27), .int 0, .ref (b + 28), .ref (b + 29), .ref (b + 30), .int 0, .ref (b + 31), .ref (b + 32), .int 0, .ref (b + 33), .ref (b + 34), .int 0, .ref (b + 35), .null, .int 0, .null, .null, .null, .null, .null])) :: _)
  refine n_aload C 0 d_Mo_init_298 rfl rfl ?_
  refine n_sipush C d_Mo_init_299 (v := 3072) (by decide) ?_
  refine n_ai C (o := 1) (f := 54) (ci := 12) (N := 3072) (σ := cst 0 0) rfl rfl rfl (fun j => cst_0) (hB 36 (1, 55) rfl) ac_int (by decide) (by decide) (by decide) (by omega) (by omega) (by omega) d_Mo_init_302 ?_
  refine n_putF C hI ff_Mo_125 rfl rfl (by show 54 < 61; decide) d_Mo_init_304 ?_
  show Nv g b 307 _ _ (b + 37) 36 16556 ((b, .inr (12, [.int 0, .ref (b + 1), .int 0, .ref (b + 2), .int 0, .ref (b + 3), .ref (b + 4), .ref (b + 5), .ref (b + 6), .ref (b + 7), .int 0, .int 0, .int 0, .int 0, .int 0, .int 0, .int 0, .int (-1), .int 0, .int 0, .int 0, .ref (b + 8), .ref (b + 9), .ref (b + 10), .ref (b + 11), .ref (b + 12), .ref (b + 13), .ref (b + 14), .ref (b + 15), .ref (b + 16), .ref (b + 17), .ref (b + 18), .ref (b + 19), .ref (b + 20), .ref (b + 21), .ref (b + 22), .int 0, .ref (b + 23), .ref (b + 24), .ref (b + 25), .ref (b + 26), .ref (b + 27), .int 0, .ref (b + 28), .ref (b + 29), .ref (b + 30), .int 0, .ref (b + 31), .ref (b + 32), .int 0, .ref (b + 33), .ref (b + 34), .int 0, .ref (b + 35), .ref (b + 36), .int 0, .null, .null, .null, .null, .null])) :: _)
  refine n_aload C 0 d_Mo_init_307 rfl rfl ?_
  refine n_bipush C d_Mo_init_308 (v := 20) (by decide) ?_
  refine n_ai C (o := 1) (f := 56) (ci := 12) (N := 20) (σ := cst 0 0) rfl rfl rfl (fun j => cst_0) (hB 37 (1, 57) rfl) ac_int (by decide) (by decide) (by decide) (by omega) (by omega) (by omega) d_Mo_init_310 ?_
  refine n_putF C hI ff_Mo_128 rfl rfl (by show 56 < 61; decide) d_Mo_init_312 ?_
  show Nv g b 315 _ _ (b + 38) 37 16576 ((b, .inr (12, [.int 0, .ref (b + 1), .int 0, .ref (b + 2), .int 0, .ref (b + 3), .ref (b + 4), .ref (b + 5), .ref (b + 6), .ref (b + 7), .int 0, .int 0, .int 0, .int 0, .int 0, .int 0, .int 0, .int (-1), .int 0, .int 0, .int 0, .ref (b + 8), .ref (b + 9), .ref (b + 10), .ref (b + 11), .ref (b + 12), .ref (b + 13), .ref (b + 14), .ref (b + 15), .ref (b + 16), .ref (b + 17), .ref (b + 18), .ref (b + 19), .ref (b + 20), .ref (b + 21), .ref (b + 22), .int 0, .ref (b + 23), .ref (b + 24), .ref (b + 25), .ref (b + 26), .ref (b + 27), .int 0, .ref (b + 28), .ref (b + 29), .ref (b + 30), .int 0, .ref (b + 31), .ref (b + 32), .int 0, .ref (b + 33), .ref (b + 34), .int 0, .ref (b + 35), .ref (b + 36), .int 0, .ref (b + 37), .null, .null, .null, .null])) :: _)
  refine n_aload C 0 d_Mo_init_315 rfl rfl ?_
  refine n_bipush C d_Mo_init_316 (v := 20) (by decide) ?_
  refine n_ai C (o := 1) (f := 57) (ci := 12) (N := 20) (σ := cst 0 0) rfl rfl rfl (fun j => cst_0) (hB 38 (1, 58) rfl) ac_int (by decide) (by decide) (by decide) (by omega) (by omega) (by omega) d_Mo_init_318 ?_
  refine n_putF C hI ff_Mo_131 rfl rfl (by show 57 < 61; decide) d_Mo_init_320 ?_
  show Nv g b 323 _ _ (b + 39) 38 16596 ((b, .inr (12, [.int 0, .ref (b + 1), .int 0, .ref (b + 2), .int 0, .ref (b + 3), .ref (b + 4), .ref (b + 5), .ref (b + 6), .ref (b + 7), .int 0, .int 0, .int 0, .int 0, .int 0, .int 0, .int 0, .int (-1), .int 0, .int 0, .int 0, .ref (b + 8), .ref (b + 9), .ref (b + 10), .ref (b + 11), .ref (b + 12), .ref (b + 13), .ref (b + 14), .ref (b + 15), .ref (b + 16), .ref (b + 17), .ref (b + 18), .ref (b + 19), .ref (b + 20), .ref (b + 21), .ref (b + 22), .int 0, .ref (b + 23), .ref (b + 24), .ref (b + 25), .ref (b + 26), .ref (b + 27), .int 0, .ref (b + 28), .ref (b + 29), .ref (b + 30), .int 0, .ref (b + 31), .ref (b + 32), .int 0, .ref (b + 33), .ref (b + 34), .int 0, .ref (b + 35), .ref (b + 36), .int 0, .ref (b + 37), .ref (b + 38), .null, .null, .null])) :: _)
  refine n_aload C 0 d_Mo_init_323 rfl rfl ?_
  refine n_bipush C d_Mo_init_324 (v := 8) (by decide) ?_
  refine n_ai C (o := 1) (f := 58) (ci := 12) (N := 8) (σ := cst 0 0) rfl rfl rfl (fun j => cst_0) (hB 39 (1, 59) rfl) ac_int (by decide) (by decide) (by decide) (by omega) (by omega) (by omega) d_Mo_init_326 ?_
  refine n_putF C hI ff_Mo_134 rfl rfl (by show 58 < 61; decide) d_Mo_init_328 ?_
  show Nv g b 331 _ _ (b + 40) 39 16604 ((b, .inr (12, [.int 0, .ref (b + 1), .int 0, .ref (b + 2), .int 0, .ref (b + 3), .ref (b + 4), .ref (b + 5), .ref (b + 6), .ref (b + 7), .int 0, .int 0, .int 0, .int 0, .int 0, .int 0, .int 0, .int (-1), .int 0, .int 0, .int 0, .ref (b + 8), .ref (b + 9), .ref (b + 10), .ref (b + 11), .ref (b + 12), .ref (b + 13), .ref (b + 14), .ref (b + 15), .ref (b + 16), .ref (b + 17), .ref (b + 18), .ref (b + 19), .ref (b + 20), .ref (b + 21), .ref (b + 22), .int 0, .ref (b + 23), .ref (b + 24), .ref (b + 25), .ref (b + 26), .ref (b + 27), .int 0, .ref (b + 28), .ref (b + 29), .ref (b + 30), .int 0, .ref (b + 31), .ref (b + 32), .int 0, .ref (b + 33), .ref (b + 34), .int 0, .ref (b + 35), .ref (b + 36), .int 0, .ref (b + 37), .ref (b + 38), .ref (b + 39), .null, .null])) :: _)
  refine n_aload C 0 d_Mo_init_331 rfl rfl ?_
  refine n_iconst C d_Mo_init_332 (v := 3) (by decide) ?_
  refine n_az C (o := 1) (f := 59) (ci := 12) (N := 3) (σ := cst 0 0) rfl rfl rfl (fun j => cst_0) (hB 40 (1, 60) rfl) ac_boolean (by decide) (by decide) (by decide) (by omega) (by omega) (by omega) d_Mo_init_333 ?_
  refine n_putF C hI ff_Mo_137 rfl rfl (by show 59 < 61; decide) d_Mo_init_335 ?_
  show Nv g b 338 _ _ (b + 41) 40 16607 ((b, .inr (12, [.int 0, .ref (b + 1), .int 0, .ref (b + 2), .int 0, .ref (b + 3), .ref (b + 4), .ref (b + 5), .ref (b + 6), .ref (b + 7), .int 0, .int 0, .int 0, .int 0, .int 0, .int 0, .int 0, .int (-1), .int 0, .int 0, .int 0, .ref (b + 8), .ref (b + 9), .ref (b + 10), .ref (b + 11), .ref (b + 12), .ref (b + 13), .ref (b + 14), .ref (b + 15), .ref (b + 16), .ref (b + 17), .ref (b + 18), .ref (b + 19), .ref (b + 20), .ref (b + 21), .ref (b + 22), .int 0, .ref (b + 23), .ref (b + 24), .ref (b + 25), .ref (b + 26), .ref (b + 27), .int 0, .ref (b + 28), .ref (b + 29), .ref (b + 30), .int 0, .ref (b + 31), .ref (b + 32), .int 0, .ref (b + 33), .ref (b + 34), .int 0, .ref (b + 35), .ref (b + 36), .int 0, .ref (b + 37), .ref (b + 38), .ref (b + 39), .ref (b + 40), .null])) :: _)
  refine n_aload C 0 d_Mo_init_338 rfl rfl ?_
  refine n_sipush C d_Mo_init_339 (v := 300) (by decide) ?_
  refine n_ai C (o := 1) (f := 60) (ci := 12) (N := 300) (σ := cst 0 0) rfl rfl rfl (fun j => cst_0) (hB 41 (1, 61) rfl) ac_int (by decide) (by decide) (by decide) (by omega) (by omega) (by omega) d_Mo_init_342 ?_
  refine n_putF C hI ff_Mo_140 rfl rfl (by show 60 < 61; decide) d_Mo_init_344 ?_
  show Nv g b 347 _ _ (b + 42) 41 16907 ((b, .inr (12, [.int 0, .ref (b + 1), .int 0, .ref (b + 2), .int 0, .ref (b + 3), .ref (b + 4), .ref (b + 5), .ref (b + 6), .ref (b + 7), .int 0, .int 0, .int 0, .int 0, .int 0, .int 0, .int 0, .int (-1), .int 0, .int 0, .int 0, .ref (b + 8), .ref (b + 9), .ref (b + 10), .ref (b + 11), .ref (b + 12), .ref (b + 13), .ref (b + 14), .ref (b + 15), .ref (b + 16), .ref (b + 17), .ref (b + 18), .ref (b + 19), .ref (b + 20), .ref (b + 21), .ref (b + 22), .int 0, .ref (b + 23), .ref (b + 24), .ref (b + 25), .ref (b + 26), .ref (b + 27), .int 0, .ref (b + 28), .ref (b + 29), .ref (b + 30), .int 0, .ref (b + 31), .ref (b + 32), .int 0, .ref (b + 33), .ref (b + 34), .int 0, .ref (b + 35), .ref (b + 36), .int 0, .ref (b + 37), .ref (b + 38), .ref (b + 39), .ref (b + 40), .ref (b + 41)])) :: _)
  show Nv g b 347 _ _ (b + 42) 41 16907 ((b, .inr (12, [.int 0, .ref (b + 1), .int 0, .ref (b + 2), .int 0, .ref (b + 3), .ref (b + 4), .ref (b + 5), .ref (b + 6), .ref (b + 7), .int 0, .int 0, .int 0, .int 0, .int 0, .int 0, .int 0, .int (-1), .int 0, .int 0, .int 0, .ref (b + 8), .ref (b + 9), .ref (b + 10), .ref (b + 11), .ref (b + 12), .ref (b + 13), .ref (b + 14), .ref (b + 15), .ref (b + 16), .ref (b + 17), .ref (b + 18), .ref (b + 19), .ref (b + 20), .ref (b + 21), .ref (b + 22), .int 0, .ref (b + 23), .ref (b + 24), .ref (b + 25), .ref (b + 26), .ref (b + 27), .int 0, .ref (b + 28), .ref (b + 29), .ref (b + 30), .int 0, .ref (b + 31), .ref (b + 32), .int 0, .ref (b + 33), .ref (b + 34), .int 0, .ref (b + 35), .ref (b + 36), .int 0, .ref (b + 37), .ref (b + 38), .ref (b + 39), .ref (b + 40), .ref (b + 41)])) :: ([] ++ moK.map (nvC (gw g) (cst 0 0))))
  refine n_aload C 0 d_Mo_init_347 rfl rfl ?_
  refine n_get C fl_Mo_76 (v := .ref (b + 20)) rfl d_Mo_init_348 ?_
  refine n_iconst C d_Mo_init_351 (v := 0) (by decide) ?_
  refine n_bipush C d_Mo_init_352 (v := 60) (by decide) ?_
  refine n_iastK C (o := 1) (f := 33) (ci := 12) (N := 2) (σ' := mst 0) 19 rfl rfl rfl rfl mo_nd mo_c33 mo_u33 (by unfold vp_in; decide) (hB 20 (1, 34) rfl) d_Mo_init_354 ?_
  refine n_aload C 0 d_Mo_init_355 rfl rfl ?_
  refine n_get C fl_Mo_34 (v := .ref (b + 7)) rfl d_Mo_init_356 ?_
  refine n_iconst C d_Mo_init_359 (v := 0) (by decide) ?_
  refine n_bipush C d_Mo_init_360 (v := 112) (by decide) ?_
  refine n_bipush C d_Mo_init_362 (v := 111) (by decide) ?_
  refine n_bipush C d_Mo_init_364 (v := 115) (by decide) ?_
  refine n_bipush C d_Mo_init_366 (v := 116) (by decide) ?_
  refine n_iconst C d_Mo_init_368 (v := 0) (by decide) ?_
  refine n_iconst C d_Mo_init_369 (v := 0) (by decide) ?_
  refine n_iconst C d_Mo_init_370 (v := 0) (by decide) ?_
  refine n_callP C (as := [.int 112, .int 111, .int 115, .int 116, .int 0, .int 0, .int 0]) (st := [.int 0, .ref (b + 7)]) ok_Mo_word rfl lk_Mo_143 (Nat.le_of_ble_eq_true rfl) (p_word _ _ _ _ _ _ _) rfl rfl (by decide) (Nat.le_of_ble_eq_true rfl) d_Mo_init_371 (by omega) (by omega) ?_
  refine n_lastK C (o := 1) (f := 9) (ci := 12) (N := 14) (σ := mst 0) (σ' := mst 1) 6 rfl rfl rfl rfl mo_nd mo_c9 (mo_u9 (by decide) (by decide +kernel)) (by unfold vp_in; decide) (hB 7 (1, 10) rfl) d_Mo_init_374 ?_
  refine n_aload C 0 d_Mo_init_375 rfl rfl ?_
  refine n_get C fl_Mo_34 (v := .ref (b + 7)) rfl d_Mo_init_376 ?_
  refine n_iconst C d_Mo_init_379 (v := 1) (by decide) ?_
  refine n_bipush C d_Mo_init_380 (v := 103) (by decide) ?_
  refine n_bipush C d_Mo_init_382 (v := 117) (by decide) ?_
  refine n_bipush C d_Mo_init_384 (v := 97) (by decide) ?_
  refine n_bipush C d_Mo_init_386 (v := 114) (by decide) ?_
  refine n_bipush C d_Mo_init_388 (v := 100) (by decide) ?_
  refine n_iconst C d_Mo_init_390 (v := 0) (by decide) ?_
  refine n_iconst C d_Mo_init_391 (v := 0) (by decide) ?_
  refine n_callP C (as := [.int 103, .int 117, .int 97, .int 114, .int 100, .int 0, .int 0]) (st := [.int 1, .ref (b + 7)]) ok_Mo_word rfl lk_Mo_143 (Nat.le_of_ble_eq_true rfl) (p_word _ _ _ _ _ _ _) rfl rfl (by decide) (Nat.le_of_ble_eq_true rfl) d_Mo_init_392 (by omega) (by omega) ?_
  refine n_lastK C (o := 1) (f := 9) (ci := 12) (N := 14) (σ := mst 1) (σ' := mst 2) 6 rfl rfl rfl rfl mo_nd mo_c9 (mo_u9 (by decide) (by decide +kernel)) (by unfold vp_in; decide) (hB 7 (1, 10) rfl) d_Mo_init_395 ?_
  refine n_aload C 0 d_Mo_init_396 rfl rfl ?_
  refine n_get C fl_Mo_34 (v := .ref (b + 7)) rfl d_Mo_init_397 ?_
  refine n_iconst C d_Mo_init_400 (v := 2) (by decide) ?_
  refine n_bipush C d_Mo_init_401 (v := 97) (by decide) ?_
  refine n_bipush C d_Mo_init_403 (v := 116) (by decide) ?_
  refine n_iconst C d_Mo_init_405 (v := 0) (by decide) ?_
  refine n_iconst C d_Mo_init_406 (v := 0) (by decide) ?_
  refine n_iconst C d_Mo_init_407 (v := 0) (by decide) ?_
  refine n_iconst C d_Mo_init_408 (v := 0) (by decide) ?_
  refine n_iconst C d_Mo_init_409 (v := 0) (by decide) ?_
  refine n_callP C (as := [.int 97, .int 116, .int 0, .int 0, .int 0, .int 0, .int 0]) (st := [.int 2, .ref (b + 7)]) ok_Mo_word rfl lk_Mo_143 (Nat.le_of_ble_eq_true rfl) (p_word _ _ _ _ _ _ _) rfl rfl (by decide) (Nat.le_of_ble_eq_true rfl) d_Mo_init_410 (by omega) (by omega) ?_
  refine n_lastK C (o := 1) (f := 9) (ci := 12) (N := 14) (σ := mst 2) (σ' := mst 3) 6 rfl rfl rfl rfl mo_nd mo_c9 (mo_u9 (by decide) (by decide +kernel)) (by unfold vp_in; decide) (hB 7 (1, 10) rfl) d_Mo_init_413 ?_
  refine n_aload C 0 d_Mo_init_414 rfl rfl ?_
  refine n_get C fl_Mo_34 (v := .ref (b + 7)) rfl d_Mo_init_415 ?_
  refine n_iconst C d_Mo_init_418 (v := 3) (by decide) ?_
  refine n_bipush C d_Mo_init_419 (v := 102) (by decide) ?_
  refine n_bipush C d_Mo_init_421 (v := 108) (by decide) ?_
  refine n_bipush C d_Mo_init_423 (v := 111) (by decide) ?_
  refine n_bipush C d_Mo_init_425 (v := 119) (by decide) ?_
  refine n_iconst C d_Mo_init_427 (v := 0) (by decide) ?_
  refine n_iconst C d_Mo_init_428 (v := 0) (by decide) ?_
  refine n_iconst C d_Mo_init_429 (v := 0) (by decide) ?_
  refine n_callP C (as := [.int 102, .int 108, .int 111, .int 119, .int 0, .int 0, .int 0]) (st := [.int 3, .ref (b + 7)]) ok_Mo_word rfl lk_Mo_143 (Nat.le_of_ble_eq_true rfl) (p_word _ _ _ _ _ _ _) rfl rfl (by decide) (Nat.le_of_ble_eq_true rfl) d_Mo_init_430 (by omega) (by omega) ?_
  refine n_lastK C (o := 1) (f := 9) (ci := 12) (N := 14) (σ := mst 3) (σ' := mst 4) 6 rfl rfl rfl rfl mo_nd mo_c9 (mo_u9 (by decide) (by decide +kernel)) (by unfold vp_in; decide) (hB 7 (1, 10) rfl) d_Mo_init_433 ?_
  refine n_aload C 0 d_Mo_init_434 rfl rfl ?_
  refine n_get C fl_Mo_34 (v := .ref (b + 7)) rfl d_Mo_init_435 ?_
  refine n_iconst C d_Mo_init_438 (v := 4) (by decide) ?_
  refine n_bipush C d_Mo_init_439 (v := 100) (by decide) ?_
  refine n_bipush C d_Mo_init_441 (v := 97) (by decide) ?_
  refine n_bipush C d_Mo_init_443 (v := 109) (by decide) ?_
  refine n_bipush C d_Mo_init_445 (v := 112) (by decide) ?_
  refine n_iconst C d_Mo_init_447 (v := 0) (by decide) ?_
  refine n_iconst C d_Mo_init_448 (v := 0) (by decide) ?_
  refine n_iconst C d_Mo_init_449 (v := 0) (by decide) ?_
  refine n_callP C (as := [.int 100, .int 97, .int 109, .int 112, .int 0, .int 0, .int 0]) (st := [.int 4, .ref (b + 7)]) ok_Mo_word rfl lk_Mo_143 (Nat.le_of_ble_eq_true rfl) (p_word _ _ _ _ _ _ _) rfl rfl (by decide) (Nat.le_of_ble_eq_true rfl) d_Mo_init_450 (by omega) (by omega) ?_
  refine n_lastK C (o := 1) (f := 9) (ci := 12) (N := 14) (σ := mst 4) (σ' := mst 5) 6 rfl rfl rfl rfl mo_nd mo_c9 (mo_u9 (by decide) (by decide +kernel)) (by unfold vp_in; decide) (hB 7 (1, 10) rfl) d_Mo_init_453 ?_
  refine n_aload C 0 d_Mo_init_454 rfl rfl ?_
  refine n_get C fl_Mo_34 (v := .ref (b + 7)) rfl d_Mo_init_455 ?_
  refine n_iconst C d_Mo_init_458 (v := 5) (by decide) ?_
  refine n_bipush C d_Mo_init_459 (v := 115) (by decide) ?_
  refine n_bipush C d_Mo_init_461 (v := 108) (by decide) ?_
  refine n_bipush C d_Mo_init_463 (v := 101) (by decide) ?_
  refine n_bipush C d_Mo_init_465 (v := 101) (by decide) ?_
  refine n_bipush C d_Mo_init_467 (v := 112) (by decide) ?_
  refine n_iconst C d_Mo_init_469 (v := 0) (by decide) ?_
  refine n_iconst C d_Mo_init_470 (v := 0) (by decide) ?_
  refine n_callP C (as := [.int 115, .int 108, .int 101, .int 101, .int 112, .int 0, .int 0]) (st := [.int 5, .ref (b + 7)]) ok_Mo_word rfl lk_Mo_143 (Nat.le_of_ble_eq_true rfl) (p_word _ _ _ _ _ _ _) rfl rfl (by decide) (Nat.le_of_ble_eq_true rfl) d_Mo_init_471 (by omega) (by omega) ?_
  refine n_lastK C (o := 1) (f := 9) (ci := 12) (N := 14) (σ := mst 5) (σ' := mst 6) 6 rfl rfl rfl rfl mo_nd mo_c9 (mo_u9 (by decide) (by decide +kernel)) (by unfold vp_in; decide) (hB 7 (1, 10) rfl) d_Mo_init_474 ?_
  refine n_aload C 0 d_Mo_init_475 rfl rfl ?_
  refine n_get C fl_Mo_34 (v := .ref (b + 7)) rfl d_Mo_init_476 ?_
  refine n_bipush C d_Mo_init_479 (v := 6) (by decide) ?_
  refine n_bipush C d_Mo_init_481 (v := 105) (by decide) ?_
  refine n_bipush C d_Mo_init_483 (v := 102) (by decide) ?_
  refine n_iconst C d_Mo_init_485 (v := 0) (by decide) ?_
  refine n_iconst C d_Mo_init_486 (v := 0) (by decide) ?_
  refine n_iconst C d_Mo_init_487 (v := 0) (by decide) ?_
  refine n_iconst C d_Mo_init_488 (v := 0) (by decide) ?_
  refine n_iconst C d_Mo_init_489 (v := 0) (by decide) ?_
  refine n_callP C (as := [.int 105, .int 102, .int 0, .int 0, .int 0, .int 0, .int 0]) (st := [.int 6, .ref (b + 7)]) ok_Mo_word rfl lk_Mo_143 (Nat.le_of_ble_eq_true rfl) (p_word _ _ _ _ _ _ _) rfl rfl (by decide) (Nat.le_of_ble_eq_true rfl) d_Mo_init_490 (by omega) (by omega) ?_
  refine n_lastK C (o := 1) (f := 9) (ci := 12) (N := 14) (σ := mst 6) (σ' := mst 7) 6 rfl rfl rfl rfl mo_nd mo_c9 (mo_u9 (by decide) (by decide +kernel)) (by unfold vp_in; decide) (hB 7 (1, 10) rfl) d_Mo_init_493 ?_
  refine n_aload C 0 d_Mo_init_494 rfl rfl ?_
  refine n_get C fl_Mo_34 (v := .ref (b + 7)) rfl d_Mo_init_495 ?_
  refine n_bipush C d_Mo_init_498 (v := 7) (by decide) ?_
  refine n_bipush C d_Mo_init_500 (v := 116) (by decide) ?_
  refine n_bipush C d_Mo_init_502 (v := 104) (by decide) ?_
  refine n_bipush C d_Mo_init_504 (v := 101) (by decide) ?_
  refine n_bipush C d_Mo_init_506 (v := 110) (by decide) ?_
  refine n_iconst C d_Mo_init_508 (v := 0) (by decide) ?_
  refine n_iconst C d_Mo_init_509 (v := 0) (by decide) ?_
  refine n_iconst C d_Mo_init_510 (v := 0) (by decide) ?_
  refine n_callP C (as := [.int 116, .int 104, .int 101, .int 110, .int 0, .int 0, .int 0]) (st := [.int 7, .ref (b + 7)]) ok_Mo_word rfl lk_Mo_143 (Nat.le_of_ble_eq_true rfl) (p_word _ _ _ _ _ _ _) rfl rfl (by decide) (Nat.le_of_ble_eq_true rfl) d_Mo_init_511 (by omega) (by omega) ?_
  refine n_lastK C (o := 1) (f := 9) (ci := 12) (N := 14) (σ := mst 7) (σ' := mst 8) 6 rfl rfl rfl rfl mo_nd mo_c9 (mo_u9 (by decide) (by decide +kernel)) (by unfold vp_in; decide) (hB 7 (1, 10) rfl) d_Mo_init_514 ?_
  refine n_aload C 0 d_Mo_init_515 rfl rfl ?_
  refine n_get C fl_Mo_34 (v := .ref (b + 7)) rfl d_Mo_init_516 ?_
  refine n_bipush C d_Mo_init_519 (v := 8) (by decide) ?_
  refine n_bipush C d_Mo_init_521 (v := 101) (by decide) ?_
  refine n_bipush C d_Mo_init_523 (v := 108) (by decide) ?_
  refine n_bipush C d_Mo_init_525 (v := 115) (by decide) ?_
  refine n_bipush C d_Mo_init_527 (v := 101) (by decide) ?_
  refine n_iconst C d_Mo_init_529 (v := 0) (by decide) ?_
  refine n_iconst C d_Mo_init_530 (v := 0) (by decide) ?_
  refine n_iconst C d_Mo_init_531 (v := 0) (by decide) ?_
  refine n_callP C (as := [.int 101, .int 108, .int 115, .int 101, .int 0, .int 0, .int 0]) (st := [.int 8, .ref (b + 7)]) ok_Mo_word rfl lk_Mo_143 (Nat.le_of_ble_eq_true rfl) (p_word _ _ _ _ _ _ _) rfl rfl (by decide) (Nat.le_of_ble_eq_true rfl) d_Mo_init_532 (by omega) (by omega) ?_
  refine n_lastK C (o := 1) (f := 9) (ci := 12) (N := 14) (σ := mst 8) (σ' := mst 9) 6 rfl rfl rfl rfl mo_nd mo_c9 (mo_u9 (by decide) (by decide +kernel)) (by unfold vp_in; decide) (hB 7 (1, 10) rfl) d_Mo_init_535 ?_
  refine n_aload C 0 d_Mo_init_536 rfl rfl ?_
  refine n_get C fl_Mo_34 (v := .ref (b + 7)) rfl d_Mo_init_537 ?_
  refine n_bipush C d_Mo_init_540 (v := 9) (by decide) ?_
  refine n_bipush C d_Mo_init_542 (v := 110) (by decide) ?_
  refine n_bipush C d_Mo_init_544 (v := 101) (by decide) ?_
  refine n_bipush C d_Mo_init_546 (v := 99) (by decide) ?_
  refine n_bipush C d_Mo_init_548 (v := 107) (by decide) ?_
  refine n_iconst C d_Mo_init_550 (v := 0) (by decide) ?_
  refine n_iconst C d_Mo_init_551 (v := 0) (by decide) ?_
  refine n_iconst C d_Mo_init_552 (v := 0) (by decide) ?_
  refine n_callP C (as := [.int 110, .int 101, .int 99, .int 107, .int 0, .int 0, .int 0]) (st := [.int 9, .ref (b + 7)]) ok_Mo_word rfl lk_Mo_143 (Nat.le_of_ble_eq_true rfl) (p_word _ _ _ _ _ _ _) rfl rfl (by decide) (Nat.le_of_ble_eq_true rfl) d_Mo_init_553 (by omega) (by omega) ?_
  refine n_lastK C (o := 1) (f := 9) (ci := 12) (N := 14) (σ := mst 9) (σ' := mst 10) 6 rfl rfl rfl rfl mo_nd mo_c9 (mo_u9 (by decide) (by decide +kernel)) (by unfold vp_in; decide) (hB 7 (1, 10) rfl) d_Mo_init_556 ?_
  refine n_aload C 0 d_Mo_init_557 rfl rfl ?_
  refine n_get C fl_Mo_34 (v := .ref (b + 7)) rfl d_Mo_init_558 ?_
  refine n_bipush C d_Mo_init_561 (v := 10) (by decide) ?_
  refine n_bipush C d_Mo_init_563 (v := 119) (by decide) ?_
  refine n_bipush C d_Mo_init_565 (v := 101) (by decide) ?_
  refine n_bipush C d_Mo_init_567 (v := 116) (by decide) ?_
  refine n_iconst C d_Mo_init_569 (v := 0) (by decide) ?_
  refine n_iconst C d_Mo_init_570 (v := 0) (by decide) ?_
  refine n_iconst C d_Mo_init_571 (v := 0) (by decide) ?_
  refine n_iconst C d_Mo_init_572 (v := 0) (by decide) ?_
  refine n_callP C (as := [.int 119, .int 101, .int 116, .int 0, .int 0, .int 0, .int 0]) (st := [.int 10, .ref (b + 7)]) ok_Mo_word rfl lk_Mo_143 (Nat.le_of_ble_eq_true rfl) (p_word _ _ _ _ _ _ _) rfl rfl (by decide) (Nat.le_of_ble_eq_true rfl) d_Mo_init_573 (by omega) (by omega) ?_
  refine n_lastK C (o := 1) (f := 9) (ci := 12) (N := 14) (σ := mst 10) (σ' := mst 11) 6 rfl rfl rfl rfl mo_nd mo_c9 (mo_u9 (by decide) (by decide +kernel)) (by unfold vp_in; decide) (hB 7 (1, 10) rfl) d_Mo_init_576 ?_
  refine n_aload C 0 d_Mo_init_577 rfl rfl ?_
  refine n_get C fl_Mo_34 (v := .ref (b + 7)) rfl d_Mo_init_578 ?_
  refine n_bipush C d_Mo_init_581 (v := 11) (by decide) ?_
  refine n_bipush C d_Mo_init_583 (v := 97) (by decide) ?_
  refine n_bipush C d_Mo_init_585 (v := 98) (by decide) ?_
  refine n_bipush C d_Mo_init_587 (v := 111) (by decide) ?_
  refine n_bipush C d_Mo_init_589 (v := 118) (by decide) ?_
  refine n_bipush C d_Mo_init_591 (v := 101) (by decide) ?_
  refine n_iconst C d_Mo_init_593 (v := 0) (by decide) ?_
  refine n_iconst C d_Mo_init_594 (v := 0) (by decide) ?_
  refine n_callP C (as := [.int 97, .int 98, .int 111, .int 118, .int 101, .int 0, .int 0]) (st := [.int 11, .ref (b + 7)]) ok_Mo_word rfl lk_Mo_143 (Nat.le_of_ble_eq_true rfl) (p_word _ _ _ _ _ _ _) rfl rfl (by decide) (Nat.le_of_ble_eq_true rfl) d_Mo_init_595 (by omega) (by omega) ?_
  refine n_lastK C (o := 1) (f := 9) (ci := 12) (N := 14) (σ := mst 11) (σ' := mst 12) 6 rfl rfl rfl rfl mo_nd mo_c9 (mo_u9 (by decide) (by decide +kernel)) (by unfold vp_in; decide) (hB 7 (1, 10) rfl) d_Mo_init_598 ?_
  refine n_aload C 0 d_Mo_init_599 rfl rfl ?_
  refine n_get C fl_Mo_34 (v := .ref (b + 7)) rfl d_Mo_init_600 ?_
  refine n_bipush C d_Mo_init_603 (v := 12) (by decide) ?_
  refine n_bipush C d_Mo_init_605 (v := 98) (by decide) ?_
  refine n_bipush C d_Mo_init_607 (v := 101) (by decide) ?_
  refine n_bipush C d_Mo_init_609 (v := 108) (by decide) ?_
  refine n_bipush C d_Mo_init_611 (v := 111) (by decide) ?_
  refine n_bipush C d_Mo_init_613 (v := 119) (by decide) ?_
  refine n_iconst C d_Mo_init_615 (v := 0) (by decide) ?_
  refine n_iconst C d_Mo_init_616 (v := 0) (by decide) ?_
  refine n_callP C (as := [.int 98, .int 101, .int 108, .int 111, .int 119, .int 0, .int 0]) (st := [.int 12, .ref (b + 7)]) ok_Mo_word rfl lk_Mo_143 (Nat.le_of_ble_eq_true rfl) (p_word _ _ _ _ _ _ _) rfl rfl (by decide) (Nat.le_of_ble_eq_true rfl) d_Mo_init_617 (by omega) (by omega) ?_
  refine n_lastK C (o := 1) (f := 9) (ci := 12) (N := 14) (σ := mst 12) (σ' := mst 13) 6 rfl rfl rfl rfl mo_nd mo_c9 (mo_u9 (by decide) (by decide +kernel)) (by unfold vp_in; decide) (hB 7 (1, 10) rfl) d_Mo_init_620 ?_
  refine n_aload C 0 d_Mo_init_621 rfl rfl ?_
  refine n_get C fl_Mo_34 (v := .ref (b + 7)) rfl d_Mo_init_622 ?_
  refine n_bipush C d_Mo_init_625 (v := 13) (by decide) ?_
  refine n_bipush C d_Mo_init_627 (v := 109) (by decide) ?_
  refine n_bipush C d_Mo_init_629 (v := 105) (by decide) ?_
  refine n_bipush C d_Mo_init_631 (v := 110) (by decide) ?_
  refine n_bipush C d_Mo_init_633 (v := 117) (by decide) ?_
  refine n_bipush C d_Mo_init_635 (v := 116) (by decide) ?_
  refine n_bipush C d_Mo_init_637 (v := 101) (by decide) ?_
  refine n_iconst C d_Mo_init_639 (v := 0) (by decide) ?_
  refine n_callP C (as := [.int 109, .int 105, .int 110, .int 117, .int 116, .int 101, .int 0]) (st := [.int 13, .ref (b + 7)]) ok_Mo_word rfl lk_Mo_143 (Nat.le_of_ble_eq_true rfl) (p_word _ _ _ _ _ _ _) rfl rfl (by decide) (Nat.le_of_ble_eq_true rfl) d_Mo_init_640 (by omega) (by omega) ?_
  refine n_lastK C (o := 1) (f := 9) (ci := 12) (N := 14) (σ := mst 13) (σ' := mst 14) 6 rfl rfl rfl rfl mo_nd mo_c9 (mo_u9 (by decide) (by decide +kernel)) (by unfold vp_in; decide) (hB 7 (1, 10) rfl) d_Mo_init_643 ?_
  refine n_ret C F d_Mo_init_644 (by decide +kernel) (by decide) (by show b + 42 ≤ b + 42; omega) (fun H h => ?_)
  have e0 : nvC (gw g) s00 (1, 0) = (b, .inr (12, [.int 0, .ref (b + 1), .int 0, .ref (b + 2), .int 0, .ref (b + 3), .ref (b + 4), .ref (b + 5), .ref (b + 6), .ref (b + 7), .int 0, .int 0, .int 0, .int 0, .int 0, .int 0, .int 0, .int (-1), .int 0, .int 0, .int 0, .ref (b + 8), .ref (b + 9), .ref (b + 10), .ref (b + 11), .ref (b + 12), .ref (b + 13), .ref (b + 14), .ref (b + 15), .ref (b + 16), .ref (b + 17), .ref (b + 18), .ref (b + 19), .ref (b + 20), .ref (b + 21), .ref (b + 22), .int 0, .ref (b + 23), .ref (b + 24), .ref (b + 25), .ref (b + 26), .ref (b + 27), .int 0, .ref (b + 28), .ref (b + 29), .ref (b + 30), .int 0, .ref (b + 31), .ref (b + 32), .int 0, .ref (b + 33), .ref (b + 34), .int 0, .ref (b + 35), .ref (b + 36), .int 0, .ref (b + 37), .ref (b + 38), .ref (b + 39), .ref (b + 40), .ref (b + 41)])) := by
    show (((gw g).2.2 1 0, Sum.inr (12, ([.int 0, .ref ((gw g).2.2 1 2), .int 0, .ref ((gw g).2.2 1 4), .int 0, .ref ((gw g).2.2 1 6), .ref ((gw g).2.2 1 7), .ref ((gw g).2.2 1 8), .ref ((gw g).2.2 1 9), .ref ((gw g).2.2 1 10), .int 0, .int 0, .int 0, .int 0, .int 0, .int 0, .int 0, .int (-1), .int 0, .int 0, .int 0, .ref ((gw g).2.2 1 22), .ref ((gw g).2.2 1 23), .ref ((gw g).2.2 1 24), .ref ((gw g).2.2 1 25), .ref ((gw g).2.2 1 26), .ref ((gw g).2.2 1 27), .ref ((gw g).2.2 1 28), .ref ((gw g).2.2 1 29), .ref ((gw g).2.2 1 30), .ref ((gw g).2.2 1 31), .ref ((gw g).2.2 1 32), .ref ((gw g).2.2 1 33), .ref ((gw g).2.2 1 34), .ref ((gw g).2.2 1 35), .ref ((gw g).2.2 1 36), .int 0, .ref ((gw g).2.2 1 38), .ref ((gw g).2.2 1 39), .ref ((gw g).2.2 1 40), .ref ((gw g).2.2 1 41), .ref ((gw g).2.2 1 42), .int 0, .ref ((gw g).2.2 1 44), .ref ((gw g).2.2 1 45), .ref ((gw g).2.2 1 46), .int 0, .ref ((gw g).2.2 1 48), .ref ((gw g).2.2 1 49), .int 0, .ref ((gw g).2.2 1 51), .ref ((gw g).2.2 1 52), .int 0, .ref ((gw g).2.2 1 54), .ref ((gw g).2.2 1 55), .int 0, .ref ((gw g).2.2 1 57), .ref ((gw g).2.2 1 58), .ref ((gw g).2.2 1 59), .ref ((gw g).2.2 1 60), .ref ((gw g).2.2 1 61)] : List Value))) : Nat × va_E) = _
    rw [show (gw g).2.2 1 0 = b from hB 0 (1, 0) rfl, show (gw g).2.2 1 2 = b + 1 from hB 1 (1, 2) rfl, show (gw g).2.2 1 4 = b + 2 from hB 2 (1, 4) rfl, show (gw g).2.2 1 6 = b + 3 from hB 3 (1, 6) rfl, show (gw g).2.2 1 7 = b + 4 from hB 4 (1, 7) rfl, show (gw g).2.2 1 8 = b + 5 from hB 5 (1, 8) rfl, show (gw g).2.2 1 9 = b + 6 from hB 6 (1, 9) rfl, show (gw g).2.2 1 10 = b + 7 from hB 7 (1, 10) rfl, show (gw g).2.2 1 22 = b + 8 from hB 8 (1, 22) rfl, show (gw g).2.2 1 23 = b + 9 from hB 9 (1, 23) rfl, show (gw g).2.2 1 24 = b + 10 from hB 10 (1, 24) rfl, show (gw g).2.2 1 25 = b + 11 from hB 11 (1, 25) rfl, show (gw g).2.2 1 26 = b + 12 from hB 12 (1, 26) rfl, show (gw g).2.2 1 27 = b + 13 from hB 13 (1, 27) rfl, show (gw g).2.2 1 28 = b + 14 from hB 14 (1, 28) rfl, show (gw g).2.2 1 29 = b + 15 from hB 15 (1, 29) rfl, show (gw g).2.2 1 30 = b + 16 from hB 16 (1, 30) rfl, show (gw g).2.2 1 31 = b + 17 from hB 17 (1, 31) rfl, show (gw g).2.2 1 32 = b + 18 from hB 18 (1, 32) rfl, show (gw g).2.2 1 33 = b + 19 from hB 19 (1, 33) rfl, show (gw g).2.2 1 34 = b + 20 from hB 20 (1, 34) rfl, show (gw g).2.2 1 35 = b + 21 from hB 21 (1, 35) rfl, show (gw g).2.2 1 36 = b + 22 from hB 22 (1, 36) rfl, show (gw g).2.2 1 38 = b + 23 from hB 23 (1, 38) rfl, show (gw g).2.2 1 39 = b + 24 from hB 24 (1, 39) rfl, show (gw g).2.2 1 40 = b + 25 from hB 25 (1, 40) rfl, show (gw g).2.2 1 41 = b + 26 from hB 26 (1, 41) rfl, show (gw g).2.2 1 42 = b + 27 from hB 27 (1, 42) rfl, show (gw g).2.2 1 44 = b + 28 from hB 28 (1, 44) rfl, show (gw g).2.2 1 45 = b + 29 from hB 29 (1, 45) rfl, show (gw g).2.2 1 46 = b + 30 from hB 30 (1, 46) rfl, show (gw g).2.2 1 48 = b + 31 from hB 31 (1, 48) rfl, show (gw g).2.2 1 49 = b + 32 from hB 32 (1, 49) rfl, show (gw g).2.2 1 51 = b + 33 from hB 33 (1, 51) rfl, show (gw g).2.2 1 52 = b + 34 from hB 34 (1, 52) rfl, show (gw g).2.2 1 54 = b + 35 from hB 35 (1, 54) rfl, show (gw g).2.2 1 55 = b + 36 from hB 36 (1, 55) rfl, show (gw g).2.2 1 57 = b + 37 from hB 37 (1, 57) rfl, show (gw g).2.2 1 58 = b + 38 from hB 38 (1, 58) rfl, show (gw g).2.2 1 59 = b + 39 from hB 39 (1, 59) rfl, show (gw g).2.2 1 60 = b + 40 from hB 40 (1, 60) rfl, show (gw g).2.2 1 61 = b + 41 from hB 41 (1, 61) rfl]
  have e1 : kO_1.map (nvC (gw g) s00) = (b, .inr (12, [.int 0, .ref (b + 1), .int 0, .ref (b + 2), .int 0, .ref (b + 3), .ref (b + 4), .ref (b + 5), .ref (b + 6), .ref (b + 7), .int 0, .int 0, .int 0, .int 0, .int 0, .int 0, .int 0, .int (-1), .int 0, .int 0, .int 0, .ref (b + 8), .ref (b + 9), .ref (b + 10), .ref (b + 11), .ref (b + 12), .ref (b + 13), .ref (b + 14), .ref (b + 15), .ref (b + 16), .ref (b + 17), .ref (b + 18), .ref (b + 19), .ref (b + 20), .ref (b + 21), .ref (b + 22), .int 0, .ref (b + 23), .ref (b + 24), .ref (b + 25), .ref (b + 26), .ref (b + 27), .int 0, .ref (b + 28), .ref (b + 29), .ref (b + 30), .int 0, .ref (b + 31), .ref (b + 32), .int 0, .ref (b + 33), .ref (b + 34), .int 0, .ref (b + 35), .ref (b + 36), .int 0, .ref (b + 37), .ref (b + 38), .ref (b + 39), .ref (b + 40), .ref (b + 41)])) :: ([] ++ moK.map (nvC (gw g) (mst 14))) := by
    rw [← e0, List.map_congr_left mo_end]
    rfl
  rw [e1]
  exact h
