/-! the reference's minute -/
/-- a castle of the reference that some castle of the class stands beside -/
def QY (P : Cs) (B : Int) (y : Cs) : Prop := ∃ c, SIM P c y ∧ CK B c
theorem QY.post {P y : Cs} {B : Int} (h : QY P B y) (hN : P 3 0 ≤ 8) (hG : P 4 0 ≤ 12) {p : Int} (hp : 0 ≤ p ∧ p < P 3 0) : (0 ≤ y 0 p ∧ 0 ≤ y 1 p ∧ y 0 p + y 1 p ≤ 1000000000 ∧ y 4 p ≤ B) ∧ (y 2 p = -2 ∨ (0 ≤ y 2 p ∧ y 2 p < P 4 0)) := by
  obtain ⟨c, hS, hK⟩ := h
  rw [hS.1.1 0 p (by decide) hp.1 hp.2, hS.1.1 1 p (by decide) hp.1 hp.2, hS.1.1 4 p (by decide) hp.1 hp.2, hS.1.1 2 p (by decide) hp.1 hp.2]
  refine ⟨hK.2.1 p hp.1 (by omega), ?_⟩
  rcases hS.2.2.2.2.1 p hp.1 hp.2 with z | z
  · exact Or.inl z
  · exact Or.inr ⟨z.1, z.2.1⟩
theorem QY.bed {P y : Cs} {B : Int} (h : QY P B y) : (0 ≤ y 11 0 ∧ y 11 0 ≤ P 4 0) ∧ (∀ k, 0 ≤ k → k < y 11 0 → 0 ≤ y 10 k ∧ y 10 k < P 4 0) ∧ 0 ≤ y 12 0 ∧ y 12 0 ≤ B := by
  obtain ⟨c, hS, hK⟩ := h
  rw [hS.1.2.2.2.1, hS.1.2.2.2.2]
  refine ⟨hS.2.1, fun k a b => ?_, hK.2.2.2⟩
  rw [hS.1.2.2.1 k a b]
  exact ⟨(hS.2.2.1 k a b).1, (hS.2.2.1 k a b).2.1⟩
theorem QY.guard {P y : Cs} {B : Int} (h : QY P B y) (hG : P 4 0 ≤ 12) {k : Int} (hk : 0 ≤ k ∧ k < P 4 0) : y 7 k ≤ B ∧ y 8 k ≤ B ∧ y 9 k ≤ B := by
  obtain ⟨c, hS, hK⟩ := h
  rw [hS.1.2.1 7 k (by decide) (by decide) hk.1 hk.2, hS.1.2.1 8 k (by decide) (by decide) hk.1 hk.2, hS.1.2.1 9 k (by decide) (by decide) hk.1 hk.2]
  exact hK.2.2.1 k hk.1 (by omega)
/-- somebody stands at a post: the bed isn't full -/
theorem bed_lt0 {P c : Cs} (h : PW P c) {p : Int} (hp : 0 ≤ p ∧ p < P 3 0) (h2 : c 2 p ≠ -2) (hG : P 4 0 ≤ 12) : c 11 0 < P 4 0 := by
  obtain ⟨hL, hb, hbi, hw, hg⟩ := h
  have hwp := (hw p hp.1 hp.2).resolve_left h2
  rcases Int.lt_or_le (c 11 0) (P 4 0) with z | z
  · exact z
  · exfalso
    -- the places of bed hold all numbers below P 4 0, so also this one's
    have hinj : ∀ n : Nat, ∀ S : Nat, (∀ f : Nat → Nat, (∀ i, i < n → f i < S) → (∀ i j, i < j → j < n → f i ≠ f j) → n ≤ S) := by
      intro n
      induction n with
      | zero => intro S f _ _; omega
      | succ n ih =>
        intro S f h1 h3
        have hS : 0 < S := by have := h1 n (by omega); omega
        have := ih (S - 1) (fun i => if f i < f n then f i else f i - 1) (fun i hi => by
          have a1 := h1 i (by omega)
          have a2 := h1 n (by omega)
          have a3 := h3 i n (by omega) (by omega)
          split <;> omega) (fun i j hi hj => by
          have a1 := h3 i n (by omega) (by omega)
          have a2 := h3 j n (by omega) (by omega)
          have a3 := h3 i j hi (by omega)
          split <;> split <;> omega)
        omega
    have e : c 11 0 = P 4 0 := by omega
    have hb6 : ∀ k, 0 ≤ k → k < c 11 0 → c 10 k ≠ c 2 p := fun k a b q => by
      have := (hb k a b).2.2
      rw [q] at this
      omega
    have := hinj ((c 11 0).toNat + 1) (P 4 0).toNat (fun i => if i < (c 11 0).toNat then (c 10 i).toNat else (c 2 p).toNat) (fun i hi => by
      split
      · have := hb i (by omega) (by omega); omega
      · omega) (fun i j hi hj => by
      split
      · have b1 := hb i (by omega) (by omega)
        split
        · have b2 := hb j (by omega) (by omega)
          have := hbi i j (by omega) (by omega) (by omega)
          omega
        · have := hb6 i (by omega) (by omega)
          omega
      · omega)
    omega
theorem QY.bed_lt {P y : Cs} {B : Int} (h : QY P B y) (hG : P 4 0 ≤ 12) {p : Int} (hp : 0 ≤ p ∧ p < P 3 0) (h2 : y 2 p ≠ -2) : y 11 0 < P 4 0 := by
  obtain ⟨c, hS, hK⟩ := h
  rw [hS.1.2.2.2.1]
  rw [hS.1.1 2 p (by decide) hp.1 hp.2] at h2
  exact bed_lt0 hS.2 hp h2 hG
theorem QY_rel {P y : Cs} {B p : Int} (h : QY P B y) (hB : 0 ≤ B) (hN : P 3 0 ≤ 8) (hG : P 4 0 ≤ 12) (hp : 0 ≤ p ∧ p < P 3 0) : QY P (B + 1) (mrel (P 3 0) p y) := by
  obtain ⟨c, hS, hK⟩ := h
  exact ⟨_, rstep_sim hS (hK.2.1 p hp.1 (by omega)).1 hG hp, CK_rstep hK hB hp hN⟩
theorem QY_fil {P y : Cs} {B p : Int} (h : QY P B y) (hB : 0 ≤ B) (hp : 0 ≤ p ∧ p < P 3 0) : QY P B (mfil p y) := by
  obtain ⟨c, hS, hK⟩ := h
  exact ⟨_, fstep_sim hS hp, CK_fstep hK hB⟩
theorem QY_cnt {P y : Cs} {B : Int} (h : QY P B y) (hN : 0 ≤ P 3 0) : QY P (B + 1) (mcnt (P 3 0) y) := by
  obtain ⟨c, hS, hK⟩ := h
  exact ⟨_, count_sim hS hN, CK_count hK (by omega)⟩
theorem QY_run {P l y : Cs} {φ : Phi} {B : Int} (h : QY P B y) (hP : PlanOk P l φ) : QY P B (itr (mrun φ P) (P 3 0).toNat 0 y) := by
  obtain ⟨c, hS, hK⟩ := h
  have hN := hP.1
  have hfl := fls_in (φ := φ) (P := P) hK
  have e0 := dj_0 hP hK
  have hE := run_sd (y := y) hP hK (j := 0) (by omega) (Or.inl rfl) (by
    have : c_count (sd c (c_fls φ P c) (P 3 0) 0) (P 4 0) 0 = c := e0
    rw [this]; exact hS.1)
  have hsand := sand_sd (c := c) (fl := c_fls φ P c) (N := P 3 0) (m := 1) (fun p a b => ⟨(hfl p a (by omega)).1, (hfl p a (by omega)).2.1⟩) (P 3 0).toNat 0 (by omega) (by omega)
  rw [sd_z] at hsand
  refine ⟨c_sand (P 3 0) 1 (c_fl c (P 3 0) (c_fls φ P c)), SIM_cong ⟨hE, PW_dj hS.2⟩ (fun f k h13 h14 => ?_), CK_sand (by omega) _ 0 _ (CK_fl hK) (by omega) (by omega)⟩
  unfold c_sand
  rw [hsand, c_fl_f h14, count_z]
  rfl
theorem QY_relN {P : Cs} (hN : P 3 0 ≤ 8) (hG : P 4 0 ≤ 12) : ∀ (n : Nat) (i B : Int) (y : Cs), QY P B y → 0 ≤ B → 0 ≤ i → i + n ≤ P 3 0 → QY P (B + n) (itr (mrel (P 3 0)) n i y)
  | 0, _, B, y, h, _, _, _ => by simpa [itr] using h
  | n + 1, i, B, y, h, hB, h0, h1 => by
    rw [itr_S, show B + ((n + 1 : Nat) : Int) = B + 1 + n by omega]
    exact QY_relN hN hG n (i + 1) (B + 1) _ (QY_rel h hB hN hG (by omega)) (by omega) (by omega) (by omega)
theorem QY_filN {P : Cs} : ∀ (n : Nat) (i B : Int) (y : Cs), QY P B y → 0 ≤ B → 0 ≤ i → i + n ≤ P 3 0 → QY P B (itr mfil n i y)
  | 0, _, _, _, h, _, _, _ => h
  | n + 1, i, B, y, h, hB, h0, h1 => by
    rw [itr_S]
    exact QY_filN n (i + 1) B _ (QY_fil h hB (by omega)) hB (by omega) (by omega)
theorem QY.mono {P y : Cs} {B B' : Int} (h : QY P B y) (hB : B ≤ B') : QY P B' y := by
  obtain ⟨c, hS, hK⟩ := h
  exact ⟨c, hS, hK.mono hB⟩
theorem QY_min {P l y : Cs} {φ : Phi} {B : Int} (h : QY P B y) (hB : 0 ≤ B) (hP : PlanOk P l φ) : QY P (B + 9) (mmin φ P y) := by
  have hN := hP.1
  have hG := hP.2.1
  have h1 := QY_relN hN.2 hG.2 (P 3 0).toNat 0 B _ (QY_run h hP) hB (by omega) (by omega)
  have h2 := QY_filN (P 3 0).toNat 0 _ _ h1 (by omega) (by omega) (by omega)
  have h3 := QY_cnt h2 hN.1
  exact h3.mono (by omega)
theorem QY_its {P l : Cs} {φ : Phi} (hP : PlanOk P l φ) : ∀ (n : Nat) (B : Int) (y : Cs), QY P B y → 0 ≤ B → QY P (B + 9 * n) (mits φ P n y)
  | 0, B, y, h, _ => by simpa [mits] using h
  | n + 1, B, y, h, hB => by
    have := QY_its hP n (B + 9) _ (QY_min h hB hP) (by omega)
    rw [show B + 9 * ((n + 1 : Nat) : Int) = B + 9 + 9 * n by omega]
    exact this
set_option maxHeartbeats 2000000 in
theorem k_Mo_relieves {σ : St} {m P y : Cs} {R : Int → Int} {p B : Int} (hy : RY R y) (hQ : QY P B y) (hB : 0 ≤ B ∧ B < 2000000000) (hN : P 3 0 ≤ 8) (hG : P 4 0 ≤ 12) (hp : 0 ≤ p ∧ p < P 3 0) (hlv : 0 ≤ m 18 0 ∧ m 18 0 ≤ 1) (hmN : m 24 (m 18 0) = P 3 0) : CtV M_Mo_relieves [.inr (.inr (1, 0)), .inl p] (MF σ m R) (fun u => ∃ R', RY R' (mrel (P 3 0) p y) ∧ u = MF σ m R') := by
  intro g C F
  have ha := ahd_in hp
  have hyp := hy.1 p hp.1 (by omega)
  have hya := hy.1 (ahd (P 3 0) p) ha.1 (by omega)
  have hqp := hQ.post hN hG hp
  have hqa := hQ.post hN hG ha
  have hqb := hQ.bed
  have ep := em_lt (v := y 2 p) (by omega)
  have ea := em_lt (v := y 2 (ahd (P 3 0) p)) (by omega)
  have hno : P 3 0 < 2 ∨ 0 < y 0 p ∨ y 2 p = -2 ∨ y 2 (ahd (P 3 0) p) = -2 → ∃ R', RY R' (mrel (P 3 0) p y) ∧ MF σ m R = MF σ m R' := by
    intro h
    refine ⟨R, ?_, rfl⟩
    unfold mrel
    rw [if_pos h]
    exact hy
  refine e_aload_n C d_Mo_relieves_0 rfl ?_
  refine e_geta C fl_Mo_49 (by decide) rfl rfl d_Mo_relieves_1 ?_
  refine e_aload_n C d_Mo_relieves_4 rfl ?_
  refine e_geti C fl_Mo_215 (by decide) rfl rfl d_Mo_relieves_5 (fun r_5 => ?_)
  try simp only [so_at, so_so, wr_so, lnm_s, lnm_cu, lnm_f, hmN, ne_eq, Nat.reduceEqDiff, not_false_eq_true] at r_5 ⊢
  refine e_iald (n := 2) C (by decide) rfl (by decide) rfl rfl (by decide) (by omega) (by omega) d_Mo_relieves_8 (fun r_8 => ?_)
  try simp only [so_at, so_so, wr_so, lnm_s, lnm_cu, lnm_f, hmN, ne_eq, Nat.reduceEqDiff, not_false_eq_true] at r_8 ⊢
  refine e_istore_n C d_Mo_relieves_9 (by decide) rfl ?_
  refine e_iload_n C d_Mo_relieves_10 rfl ?_
  refine e_if_ne C 20 d_Mo_relieves_11 (by decide) (by omega) (fun c_11 => ?_) (fun c_11 => ?_)
  · have eA : ahd (P 3 0) p = p - 1 := by unfold ahd; rw [if_neg (by omega)]
    refine e_iload_n C d_Mo_relieves_20 rfl ?_
    refine e_iconst C d_Mo_relieves_21 ?_
    refine e_isub C d_Mo_relieves_22 ?_
    refine e_istore_n C d_Mo_relieves_23 (by decide) rfl ?_
    rw [← eA]
    refine e_iload_n C d_Mo_relieves_24 rfl ?_
    refine e_iconst C d_Mo_relieves_25 ?_
    refine e_icmp_lt C 62 d_Mo_relieves_26 (by decide) (by omega) (by omega) (fun c_26 => ?_) (fun c_26 => ?_)
    · refine e_vret C F rfl d_Mo_relieves_62 ?_
      exact hno (by omega)
    · refine e_aload_n C d_Mo_relieves_29 rfl ?_
      refine e_geta C fl_Mo_119 (by decide) rfl rfl d_Mo_relieves_30 ?_
      refine e_iload_n C d_Mo_relieves_33 rfl ?_
      refine e_iald (n := 100) C (by decide) rfl (by decide) rfl rfl (by decide) (by omega) (by omega) d_Mo_relieves_34 (fun r_34 => ?_)
      try simp only [so_at, so_so, wr_so, lnm_s, lnm_cu, lnm_f, hmN, ne_eq, Nat.reduceEqDiff, not_false_eq_true] at r_34 ⊢
      refine e_if_gt C 62 d_Mo_relieves_35 (by decide) (by omega) (fun c_35 => ?_) (fun c_35 => ?_)
      · refine e_vret C F rfl d_Mo_relieves_62 ?_
        exact hno (by omega)
      · refine e_aload_n C d_Mo_relieves_38 rfl ?_
        refine e_geta C fl_Mo_119 (by decide) rfl rfl d_Mo_relieves_39 ?_
        refine e_bipush C d_Mo_relieves_42 (by decide) ?_
        refine e_iload_n C d_Mo_relieves_44 rfl ?_
        refine e_iadd C d_Mo_relieves_45 ?_
        refine e_iald (n := 100) C (by decide) rfl (by decide) rfl rfl (by decide) (by omega) (by omega) d_Mo_relieves_46 (fun r_46 => ?_)
        try simp only [so_at, so_so, wr_so, lnm_s, lnm_cu, lnm_f, hmN, ne_eq, Nat.reduceEqDiff, not_false_eq_true] at r_46 ⊢
        refine e_if_lt C 62 d_Mo_relieves_47 (by decide) (by omega) (fun c_47 => ?_) (fun c_47 => ?_)
        · refine e_vret C F rfl d_Mo_relieves_62 ?_
          exact hno (by omega)
        · refine e_aload_n C d_Mo_relieves_50 rfl ?_
          refine e_geta C fl_Mo_119 (by decide) rfl rfl d_Mo_relieves_51 ?_
          refine e_bipush C d_Mo_relieves_54 (by decide) ?_
          refine e_iload_n C d_Mo_relieves_56 rfl ?_
          refine e_iadd C d_Mo_relieves_57 ?_
          refine e_iald (n := 100) C (by decide) rfl (by decide) rfl rfl (by decide) (by omega) (by omega) d_Mo_relieves_58 (fun r_58 => ?_)
          try simp only [so_at, so_so, wr_so, lnm_s, lnm_cu, lnm_f, hmN, ne_eq, Nat.reduceEqDiff, not_false_eq_true] at r_58 ⊢
          refine e_if_ge C 63 d_Mo_relieves_59 (by decide) (by omega) (fun c_59 => ?_) (fun c_59 => ?_)
          · have hw : y 2 p ≠ -2 := by omega
            have hwa : y 2 (ahd (P 3 0) p) ≠ -2 := by omega
            have e1 : R (16 + p) = y 2 p := by rw [hyp.2.2.1]; exact em_id hw
            have e2 : R (16 + ahd (P 3 0) p) = y 2 (ahd (P 3 0) p) := by rw [hya.2.2.1]; exact em_id hwa
            have hcond : ¬ (P 3 0 < 2 ∨ 0 < y 0 p ∨ y 2 p = -2 ∨ y 2 (ahd (P 3 0) p) = -2) := by omega
            have hbl := hQ.bed_lt hG hp hw
            have hgp := hQ.guard hG (k := y 2 p) (by omega)
            have hne := ahd_ne hp (by omega)
            refine e_aload_n C d_Mo_relieves_63 rfl ?_
            refine e_geta C fl_Mo_119 (by decide) rfl rfl d_Mo_relieves_64 ?_
            refine e_bipush C d_Mo_relieves_67 (by decide) ?_
            refine e_iload_n C d_Mo_relieves_69 rfl ?_
            refine e_iadd C d_Mo_relieves_70 ?_
            refine e_iald (n := 100) C (by decide) rfl (by decide) rfl rfl (by decide) (by omega) (by omega) d_Mo_relieves_71 (fun r_71 => ?_)
            try simp only [so_at, so_so, wr_so, lnm_s, lnm_cu, lnm_f, hmN, ne_eq, Nat.reduceEqDiff, not_false_eq_true] at r_71 ⊢
            refine e_istore C d_Mo_relieves_72 (by decide) rfl ?_
            refine e_aload_n C d_Mo_relieves_74 rfl ?_
            refine e_aload_n C d_Mo_relieves_75 rfl ?_
            refine e_geta C fl_Mo_119 (by decide) rfl rfl d_Mo_relieves_76 ?_
            refine e_bipush C d_Mo_relieves_79 (by decide) ?_
            refine e_iload_n C d_Mo_relieves_81 rfl ?_
            refine e_iadd C d_Mo_relieves_82 ?_
            refine e_iald (n := 100) C (by decide) rfl (by decide) rfl rfl (by decide) (by omega) (by omega) d_Mo_relieves_83 (fun r_83 => ?_)
            try simp only [so_at, so_so, wr_so, lnm_s, lnm_cu, lnm_f, hmN, ne_eq, Nat.reduceEqDiff, not_false_eq_true] at r_83 ⊢
            refine e_iload_n C d_Mo_relieves_84 rfl ?_
            refine e_callVV C ok_Mo_comes lk_Mo_315 (o := 1) (by decide) rfl [_, _] rfl rfl (Nat.le_of_ble_eq_true rfl) (by decide) (Nat.le_of_ble_eq_true rfl) d_Mo_relieves_85 (k_Mo_comes (by omega) (by omega)) (fun u_85 h_85 => ?_)
            subst h_85
            rw [e2]
            have hy1 := RY_stand hy (a := y 2 (ahd (P 3 0) p)) (p := p) (by omega) (by omega)
            generalize ua (ua R (16 + p) (y 2 (ahd (P 3 0) p))) (60 + y 2 (ahd (P 3 0) p)) 0 = R1 at hy1 ⊢
            have f1 : mstand y (y 2 (ahd (P 3 0) p)) p 1 p = y 1 p := by simp [mstand, cu_if]
            have f4 : mstand y (y 2 (ahd (P 3 0) p)) p 4 p = y 4 p := by simp [mstand, cu_if]
            have g1 := (hy1.1 p (by omega) (by omega)).2.1
            have g4 := (hy1.1 p (by omega) (by omega)).2.2.2.2.1
            rw [f1] at g1
            rw [f4] at g4
            refine e_aload_n C d_Mo_relieves_88 rfl ?_
            refine e_geta C fl_Mo_119 (by decide) rfl rfl d_Mo_relieves_89 ?_
            refine e_iload_n C d_Mo_relieves_92 rfl ?_
            refine e_aload_n C d_Mo_relieves_93 rfl ?_
            refine e_geta C fl_Mo_119 (by decide) rfl rfl d_Mo_relieves_94 ?_
            refine e_bipush C d_Mo_relieves_97 (by decide) ?_
            refine e_iload_n C d_Mo_relieves_99 rfl ?_
            refine e_iadd C d_Mo_relieves_100 ?_
            refine e_iald (n := 100) C (by decide) rfl (by decide) rfl rfl (by decide) (by omega) (by omega) d_Mo_relieves_101 (fun r_101 => ?_)
            try simp only [so_at, so_so, wr_so, lnm_s, lnm_cu, lnm_f, hmN, ne_eq, Nat.reduceEqDiff, not_false_eq_true] at r_101 ⊢
            rw [g1] at r_101 ⊢
            refine e_iast (n := 100) C (by decide) rfl (by decide) rfl rfl (by decide) (by omega) (by omega) (by omega) d_Mo_relieves_102 ?_
            try simp only [so_at, so_so, wr_so, lnm_s, lnm_cu, lnm_f, hmN, ne_eq, Nat.reduceEqDiff, not_false_eq_true]
            refine e_aload_n C d_Mo_relieves_103 rfl ?_
            refine e_geta C fl_Mo_119 (by decide) rfl rfl d_Mo_relieves_104 ?_
            refine e_bipush C d_Mo_relieves_107 (by decide) ?_
            refine e_iload_n C d_Mo_relieves_109 rfl ?_
            refine e_iadd C d_Mo_relieves_110 ?_
            refine e_iconst C d_Mo_relieves_111 ?_
            refine e_iast (n := 100) C (by decide) rfl (by decide) rfl rfl (by decide) (by omega) (by omega) (by omega) d_Mo_relieves_112 ?_
            try simp only [so_at, so_so, wr_so, lnm_s, lnm_cu, lnm_f, hmN, ne_eq, Nat.reduceEqDiff, not_false_eq_true]
            refine e_aload_n C d_Mo_relieves_113 rfl ?_
            refine e_geta C fl_Mo_119 (by decide) rfl rfl d_Mo_relieves_114 ?_
            refine e_bipush C d_Mo_relieves_117 (by decide) ?_
            refine e_iload_n C d_Mo_relieves_119 rfl ?_
            refine e_iadd C d_Mo_relieves_120 ?_
            refine e_dup2 C d_Mo_relieves_121 rfl rfl ?_
            refine e_iald (n := 100) C (by decide) rfl (by decide) rfl rfl (by decide) (by omega) (by omega) d_Mo_relieves_122 (fun r_122 => ?_)
            try simp only [so_at, so_so, wr_so, lnm_s, lnm_cu, lnm_f, hmN, ne_eq, Nat.reduceEqDiff, not_false_eq_true] at r_122 ⊢
            rw [ua_ne (by omega), ua_ne (by omega), g4] at r_122 ⊢
            refine e_iconst C d_Mo_relieves_123 ?_
            refine e_iadd C d_Mo_relieves_124 ?_
            refine e_iast (n := 100) C (by decide) rfl (by decide) rfl rfl (by decide) (by omega) (by omega) (by omega) d_Mo_relieves_125 ?_
            try simp only [so_at, so_so, wr_so, lnm_s, lnm_cu, lnm_f, hmN, ne_eq, Nat.reduceEqDiff, not_false_eq_true]
            refine e_aload_n C d_Mo_relieves_126 rfl ?_
            refine e_geta C fl_Mo_119 (by decide) rfl rfl d_Mo_relieves_127 ?_
            refine e_bipush C d_Mo_relieves_130 (by decide) ?_
            refine e_iload_n C d_Mo_relieves_132 rfl ?_
            refine e_iadd C d_Mo_relieves_133 ?_
            refine e_iconst C d_Mo_relieves_134 ?_
            refine e_iast (n := 100) C (by decide) rfl (by decide) rfl rfl (by decide) (by omega) (by omega) (by omega) d_Mo_relieves_135 ?_
            try simp only [so_at, so_so, wr_so, lnm_s, lnm_cu, lnm_f, hmN, ne_eq, Nat.reduceEqDiff, not_false_eq_true]
            have hy3 : RY (ua (ua (ua (ua R1 p (y 1 p)) (8 + p) 0) (32 + p) (y 4 p + 1)) (16 + ahd (P 3 0) p) (-1)) (cu (mturn (mstand y (y 2 (ahd (P 3 0) p)) p) p) 2 (ahd (P 3 0) p) (-2)) := by
                have := RY_2 (q := ahd (P 3 0) p) (v := -1) (w := -2) (RY_4 (q := p) (v := y 4 p + 1) (RY_1 (q := p) (v := 0) (RY_0 (q := p) (v := y 1 p) hy1 (by omega)) (by omega)) (by omega)) (by omega) rfl
                unfold mturn
                rw [f1, f4]
                exact this
            generalize ua (ua (ua (ua R1 p (y 1 p)) (8 + p) 0) (32 + p) (y 4 p + 1)) (16 + ahd (P 3 0) p) (-1) = R3 at hy3 ⊢
            have f11 : cu (mturn (mstand y (y 2 (ahd (P 3 0) p)) p) p) 2 (ahd (P 3 0) p) (-2) 11 0 = y 11 0 := by simp [mturn, mstand, cu_if]
            have f10 : ∀ k, cu (mturn (mstand y (y 2 (ahd (P 3 0) p)) p) p) 2 (ahd (P 3 0) p) (-2) 10 k = y 10 k := fun k => by simp [mturn, mstand, cu_if]
            have g96 := hy3.2.2.1
            rw [f11] at g96
            refine e_aload_n C d_Mo_relieves_136 rfl ?_
            refine e_geta C fl_Mo_119 (by decide) rfl rfl d_Mo_relieves_137 ?_
            refine e_bipush C d_Mo_relieves_140 (by decide) ?_
            refine e_iald (n := 100) C (by decide) rfl (by decide) rfl rfl (by decide) (by omega) (by omega) d_Mo_relieves_142 (fun r_142 => ?_)
            try simp only [so_at, so_so, wr_so, lnm_s, lnm_cu, lnm_f, hmN, ne_eq, Nat.reduceEqDiff, not_false_eq_true] at r_142 ⊢
            rw [g96] at r_142 ⊢
            refine e_if_le C 156 d_Mo_relieves_143 (by decide) (by omega) (fun c_143 => ?_) (fun c_143 => ?_)
            · have en : mnext (cu (mturn (mstand y (y 2 (ahd (P 3 0) p)) p) p) 2 (ahd (P 3 0) p) (-2)) (ahd (P 3 0) p) = cu (mturn (mstand y (y 2 (ahd (P 3 0) p)) p) p) 2 (ahd (P 3 0) p) (-2) := by
                  unfold mnext
                  rw [f11, if_neg (by omega)]
              have hy4 : ∃ R4, R4 = R3 ∧ RY R4 (mnext (cu (mturn (mstand y (y 2 (ahd (P 3 0) p)) p) p) 2 (ahd (P 3 0) p) (-2)) (ahd (P 3 0) p)) ∧ R4 96 < 12 ∧ 0 ≤ R4 96 := ⟨R3, rfl, by rw [en]; exact hy3, by omega, by omega⟩
              obtain ⟨R4, e4, hy4, hl4, hl4b⟩ := hy4
              rw [← e4]
              rw [e1]
              refine e_aload_n C d_Mo_relieves_156 rfl ?_
              refine e_iload C d_Mo_relieves_157 rfl ?_
              refine e_callVV C ok_Mo_liesDown lk_Mo_306 (o := 1) (by decide) rfl [_] rfl rfl (Nat.le_of_ble_eq_true rfl) (by decide) (Nat.le_of_ble_eq_true rfl) d_Mo_relieves_159 (k_Mo_liesDown (by omega) ⟨hl4b, hl4⟩) (fun u_159 h_159 => ?_)
              subst h_159
              have hy5 := RY_lie hy4 (a := y 2 p) (by have := hy4.2.2.1; omega)
              generalize ua (ua R4 (84 + R4 96) (y 2 p)) 96 (R4 96 + 1) = R5 at hy5 ⊢
              have f9 : mlie (mnext (cu (mturn (mstand y (y 2 (ahd (P 3 0) p)) p) p) 2 (ahd (P 3 0) p) (-2)) (ahd (P 3 0) p)) (y 2 p) 9 (y 2 p) = y 9 (y 2 p) := by
                rw [en]
                simp [mlie, mstand, mturn, c_up, cu_if]
              have g9 := (hy5.2.1 (y 2 p) (by omega) (by omega)).2.2.1
              rw [f9] at g9
              refine e_aload_n C d_Mo_relieves_162 rfl ?_
              refine e_geta C fl_Mo_119 (by decide) rfl rfl d_Mo_relieves_163 ?_
              refine e_bipush C d_Mo_relieves_166 (by decide) ?_
              refine e_iload C d_Mo_relieves_168 rfl ?_
              refine e_iadd C d_Mo_relieves_170 ?_
              refine e_iconst C d_Mo_relieves_171 ?_
              refine e_iast (n := 100) C (by decide) rfl (by decide) rfl rfl (by decide) (by omega) (by omega) (by omega) d_Mo_relieves_172 ?_
              try simp only [so_at, so_so, wr_so, lnm_s, lnm_cu, lnm_f, hmN, ne_eq, Nat.reduceEqDiff, not_false_eq_true]
              refine e_aload_n C d_Mo_relieves_173 rfl ?_
              refine e_geta C fl_Mo_119 (by decide) rfl rfl d_Mo_relieves_174 ?_
              refine e_bipush C d_Mo_relieves_177 (by decide) ?_
              refine e_iload C d_Mo_relieves_179 rfl ?_
              refine e_iadd C d_Mo_relieves_181 ?_
              refine e_dup2 C d_Mo_relieves_182 rfl rfl ?_
              refine e_iald (n := 100) C (by decide) rfl (by decide) rfl rfl (by decide) (by omega) (by omega) d_Mo_relieves_183 (fun r_183 => ?_)
              try simp only [so_at, so_so, wr_so, lnm_s, lnm_cu, lnm_f, hmN, ne_eq, Nat.reduceEqDiff, not_false_eq_true] at r_183 ⊢
              rw [ua_ne (by omega), g9] at r_183 ⊢
              refine e_iconst C d_Mo_relieves_184 ?_
              refine e_iadd C d_Mo_relieves_185 ?_
              refine e_iast (n := 100) C (by decide) rfl (by decide) rfl rfl (by decide) (by omega) (by omega) (by omega) d_Mo_relieves_186 ?_
              try simp only [so_at, so_so, wr_so, lnm_s, lnm_cu, lnm_f, hmN, ne_eq, Nat.reduceEqDiff, not_false_eq_true]
              refine e_vret C F rfl d_Mo_relieves_187 ?_
              refine ⟨_, ?_, rfl⟩
              unfold mrel
              rw [if_neg hcond]
              exact RY_9 (RY_8 hy5 (by omega)) (by omega)
            · have hb0 := hqb.2.1 0 (by omega) (by omega)
              have g84 : R3 84 = y 10 0 := by have := (hy3.2.1 0 (by omega) (by omega)).2.2.2; rw [f10] at this; exact this
              refine e_aload_n C d_Mo_relieves_146 rfl ?_
              refine e_aload_n C d_Mo_relieves_147 rfl ?_
              refine e_iconst C d_Mo_relieves_148 ?_
              refine e_callIV C ok_Mo_getsUp lk_Mo_318 (o := 1) (by decide) rfl [_] rfl rfl (Nat.le_of_ble_eq_true rfl) (by decide) (Nat.le_of_ble_eq_true rfl) d_Mo_relieves_149 (k_Mo_getsUp (by omega) (by omega) (by omega)) (fun v_149 u_149 q_149 h_149 => ?_)
              obtain ⟨h_149, rfl⟩ := h_149
              have h149 : v_149 = y 10 0 := by rw [h_149]; exact g84
              subst h149
              refine e_iload_n C d_Mo_relieves_152 rfl ?_
              refine e_callVV C ok_Mo_comes lk_Mo_315 (o := 1) (by decide) rfl [_, _] rfl rfl (Nat.le_of_ble_eq_true rfl) (by decide) (Nat.le_of_ble_eq_true rfl) d_Mo_relieves_153 (k_Mo_comes (by omega) (by omega)) (fun u_153 h_153 => ?_)
              subst h_153
              have en : mnext (cu (mturn (mstand y (y 2 (ahd (P 3 0) p)) p) p) 2 (ahd (P 3 0) p) (-2)) (ahd (P 3 0) p) = mstand (c_up (cu (mturn (mstand y (y 2 (ahd (P 3 0) p)) p) p) 2 (ahd (P 3 0) p) (-2)) 0) (y 10 0) (ahd (P 3 0) p) := by
                unfold mnext
                rw [f11, if_pos (by omega), f10]
              have hy4 := RY_stand (RY_up hy3 (k := 0) (by omega) (by rw [f11]; omega)) (a := y 10 0) (p := ahd (P 3 0) p) (by omega) (by omega)
              rw [← en] at hy4
              have hl4 : ua (ua (r_up R3 0) (16 + ahd (P 3 0) p) (y 10 0)) (60 + y 10 0) 0 96 < 12 ∧ 0 ≤ ua (ua (r_up R3 0) (16 + ahd (P 3 0) p) (y 10 0)) (60 + y 10 0) 0 96 := by
                rw [ua_ne (by omega), ua_ne (by omega)]
                unfold r_up
                rw [if_pos rfl, g96]
                omega
              obtain ⟨hl4, hl4b⟩ := hl4
              generalize ua (ua (r_up R3 0) (16 + ahd (P 3 0) p) (y 10 0)) (60 + y 10 0) 0 = R4 at hy4 hl4 hl4b ⊢
              rw [e1]
              refine e_aload_n C d_Mo_relieves_156 rfl ?_
              refine e_iload C d_Mo_relieves_157 rfl ?_
              refine e_callVV C ok_Mo_liesDown lk_Mo_306 (o := 1) (by decide) rfl [_] rfl rfl (Nat.le_of_ble_eq_true rfl) (by decide) (Nat.le_of_ble_eq_true rfl) d_Mo_relieves_159 (k_Mo_liesDown (by omega) ⟨hl4b, hl4⟩) (fun u_159 h_159 => ?_)
              subst h_159
              have hy5 := RY_lie hy4 (a := y 2 p) (by have := hy4.2.2.1; omega)
              generalize ua (ua R4 (84 + R4 96) (y 2 p)) 96 (R4 96 + 1) = R5 at hy5 ⊢
              have f9 : mlie (mnext (cu (mturn (mstand y (y 2 (ahd (P 3 0) p)) p) p) 2 (ahd (P 3 0) p) (-2)) (ahd (P 3 0) p)) (y 2 p) 9 (y 2 p) = y 9 (y 2 p) := by
                rw [en]
                simp [mlie, mstand, mturn, c_up, cu_if]
              have g9 := (hy5.2.1 (y 2 p) (by omega) (by omega)).2.2.1
              rw [f9] at g9
              refine e_aload_n C d_Mo_relieves_162 rfl ?_
              refine e_geta C fl_Mo_119 (by decide) rfl rfl d_Mo_relieves_163 ?_
              refine e_bipush C d_Mo_relieves_166 (by decide) ?_
              refine e_iload C d_Mo_relieves_168 rfl ?_
              refine e_iadd C d_Mo_relieves_170 ?_
              refine e_iconst C d_Mo_relieves_171 ?_
              refine e_iast (n := 100) C (by decide) rfl (by decide) rfl rfl (by decide) (by omega) (by omega) (by omega) d_Mo_relieves_172 ?_
              try simp only [so_at, so_so, wr_so, lnm_s, lnm_cu, lnm_f, hmN, ne_eq, Nat.reduceEqDiff, not_false_eq_true]
              refine e_aload_n C d_Mo_relieves_173 rfl ?_
              refine e_geta C fl_Mo_119 (by decide) rfl rfl d_Mo_relieves_174 ?_
              refine e_bipush C d_Mo_relieves_177 (by decide) ?_
              refine e_iload C d_Mo_relieves_179 rfl ?_
              refine e_iadd C d_Mo_relieves_181 ?_
              refine e_dup2 C d_Mo_relieves_182 rfl rfl ?_
              refine e_iald (n := 100) C (by decide) rfl (by decide) rfl rfl (by decide) (by omega) (by omega) d_Mo_relieves_183 (fun r_183 => ?_)
              try simp only [so_at, so_so, wr_so, lnm_s, lnm_cu, lnm_f, hmN, ne_eq, Nat.reduceEqDiff, not_false_eq_true] at r_183 ⊢
              rw [ua_ne (by omega), g9] at r_183 ⊢
              refine e_iconst C d_Mo_relieves_184 ?_
              refine e_iadd C d_Mo_relieves_185 ?_
              refine e_iast (n := 100) C (by decide) rfl (by decide) rfl rfl (by decide) (by omega) (by omega) (by omega) d_Mo_relieves_186 ?_
              try simp only [so_at, so_so, wr_so, lnm_s, lnm_cu, lnm_f, hmN, ne_eq, Nat.reduceEqDiff, not_false_eq_true]
              refine e_vret C F rfl d_Mo_relieves_187 ?_
              refine ⟨_, ?_, rfl⟩
              unfold mrel
              rw [if_neg hcond]
              exact RY_9 (RY_8 hy5 (by omega)) (by omega)
          · refine e_vret C F rfl d_Mo_relieves_62 ?_
            exact hno (by omega)
  · have eA : ahd (P 3 0) p = P 3 0 - 1 := by unfold ahd; rw [if_pos (by omega)]
    refine e_iload_n C d_Mo_relieves_14 rfl ?_
    refine e_iconst C d_Mo_relieves_15 ?_
    refine e_isub C d_Mo_relieves_16 ?_
    refine e_goto C 23 d_Mo_relieves_17 (by decide) ?_
    refine e_istore_n C d_Mo_relieves_23 (by decide) rfl ?_
    rw [← eA]
    refine e_iload_n C d_Mo_relieves_24 rfl ?_
    refine e_iconst C d_Mo_relieves_25 ?_
    refine e_icmp_lt C 62 d_Mo_relieves_26 (by decide) (by omega) (by omega) (fun c_26 => ?_) (fun c_26 => ?_)
    · refine e_vret C F rfl d_Mo_relieves_62 ?_
      exact hno (by omega)
    · refine e_aload_n C d_Mo_relieves_29 rfl ?_
      refine e_geta C fl_Mo_119 (by decide) rfl rfl d_Mo_relieves_30 ?_
      refine e_iload_n C d_Mo_relieves_33 rfl ?_
      refine e_iald (n := 100) C (by decide) rfl (by decide) rfl rfl (by decide) (by omega) (by omega) d_Mo_relieves_34 (fun r_34 => ?_)
      try simp only [so_at, so_so, wr_so, lnm_s, lnm_cu, lnm_f, hmN, ne_eq, Nat.reduceEqDiff, not_false_eq_true] at r_34 ⊢
      refine e_if_gt C 62 d_Mo_relieves_35 (by decide) (by omega) (fun c_35 => ?_) (fun c_35 => ?_)
      · refine e_vret C F rfl d_Mo_relieves_62 ?_
        exact hno (by omega)
      · refine e_aload_n C d_Mo_relieves_38 rfl ?_
        refine e_geta C fl_Mo_119 (by decide) rfl rfl d_Mo_relieves_39 ?_
        refine e_bipush C d_Mo_relieves_42 (by decide) ?_
        refine e_iload_n C d_Mo_relieves_44 rfl ?_
        refine e_iadd C d_Mo_relieves_45 ?_
        refine e_iald (n := 100) C (by decide) rfl (by decide) rfl rfl (by decide) (by omega) (by omega) d_Mo_relieves_46 (fun r_46 => ?_)
        try simp only [so_at, so_so, wr_so, lnm_s, lnm_cu, lnm_f, hmN, ne_eq, Nat.reduceEqDiff, not_false_eq_true] at r_46 ⊢
        refine e_if_lt C 62 d_Mo_relieves_47 (by decide) (by omega) (fun c_47 => ?_) (fun c_47 => ?_)
        · refine e_vret C F rfl d_Mo_relieves_62 ?_
          exact hno (by omega)
        · refine e_aload_n C d_Mo_relieves_50 rfl ?_
          refine e_geta C fl_Mo_119 (by decide) rfl rfl d_Mo_relieves_51 ?_
          refine e_bipush C d_Mo_relieves_54 (by decide) ?_
          refine e_iload_n C d_Mo_relieves_56 rfl ?_
          refine e_iadd C d_Mo_relieves_57 ?_
          refine e_iald (n := 100) C (by decide) rfl (by decide) rfl rfl (by decide) (by omega) (by omega) d_Mo_relieves_58 (fun r_58 => ?_)
          try simp only [so_at, so_so, wr_so, lnm_s, lnm_cu, lnm_f, hmN, ne_eq, Nat.reduceEqDiff, not_false_eq_true] at r_58 ⊢
          refine e_if_ge C 63 d_Mo_relieves_59 (by decide) (by omega) (fun c_59 => ?_) (fun c_59 => ?_)
          · have hw : y 2 p ≠ -2 := by omega
            have hwa : y 2 (ahd (P 3 0) p) ≠ -2 := by omega
            have e1 : R (16 + p) = y 2 p := by rw [hyp.2.2.1]; exact em_id hw
            have e2 : R (16 + ahd (P 3 0) p) = y 2 (ahd (P 3 0) p) := by rw [hya.2.2.1]; exact em_id hwa
            have hcond : ¬ (P 3 0 < 2 ∨ 0 < y 0 p ∨ y 2 p = -2 ∨ y 2 (ahd (P 3 0) p) = -2) := by omega
            have hbl := hQ.bed_lt hG hp hw
            have hgp := hQ.guard hG (k := y 2 p) (by omega)
            have hne := ahd_ne hp (by omega)
            refine e_aload_n C d_Mo_relieves_63 rfl ?_
            refine e_geta C fl_Mo_119 (by decide) rfl rfl d_Mo_relieves_64 ?_
            refine e_bipush C d_Mo_relieves_67 (by decide) ?_
            refine e_iload_n C d_Mo_relieves_69 rfl ?_
            refine e_iadd C d_Mo_relieves_70 ?_
            refine e_iald (n := 100) C (by decide) rfl (by decide) rfl rfl (by decide) (by omega) (by omega) d_Mo_relieves_71 (fun r_71 => ?_)
            try simp only [so_at, so_so, wr_so, lnm_s, lnm_cu, lnm_f, hmN, ne_eq, Nat.reduceEqDiff, not_false_eq_true] at r_71 ⊢
            refine e_istore C d_Mo_relieves_72 (by decide) rfl ?_
            refine e_aload_n C d_Mo_relieves_74 rfl ?_
            refine e_aload_n C d_Mo_relieves_75 rfl ?_
            refine e_geta C fl_Mo_119 (by decide) rfl rfl d_Mo_relieves_76 ?_
            refine e_bipush C d_Mo_relieves_79 (by decide) ?_
            refine e_iload_n C d_Mo_relieves_81 rfl ?_
            refine e_iadd C d_Mo_relieves_82 ?_
            refine e_iald (n := 100) C (by decide) rfl (by decide) rfl rfl (by decide) (by omega) (by omega) d_Mo_relieves_83 (fun r_83 => ?_)
            try simp only [so_at, so_so, wr_so, lnm_s, lnm_cu, lnm_f, hmN, ne_eq, Nat.reduceEqDiff, not_false_eq_true] at r_83 ⊢
            refine e_iload_n C d_Mo_relieves_84 rfl ?_
            refine e_callVV C ok_Mo_comes lk_Mo_315 (o := 1) (by decide) rfl [_, _] rfl rfl (Nat.le_of_ble_eq_true rfl) (by decide) (Nat.le_of_ble_eq_true rfl) d_Mo_relieves_85 (k_Mo_comes (by omega) (by omega)) (fun u_85 h_85 => ?_)
            subst h_85
            rw [e2]
            have hy1 := RY_stand hy (a := y 2 (ahd (P 3 0) p)) (p := p) (by omega) (by omega)
            generalize ua (ua R (16 + p) (y 2 (ahd (P 3 0) p))) (60 + y 2 (ahd (P 3 0) p)) 0 = R1 at hy1 ⊢
            have f1 : mstand y (y 2 (ahd (P 3 0) p)) p 1 p = y 1 p := by simp [mstand, cu_if]
            have f4 : mstand y (y 2 (ahd (P 3 0) p)) p 4 p = y 4 p := by simp [mstand, cu_if]
            have g1 := (hy1.1 p (by omega) (by omega)).2.1
            have g4 := (hy1.1 p (by omega) (by omega)).2.2.2.2.1
            rw [f1] at g1
            rw [f4] at g4
            refine e_aload_n C d_Mo_relieves_88 rfl ?_
            refine e_geta C fl_Mo_119 (by decide) rfl rfl d_Mo_relieves_89 ?_
            refine e_iload_n C d_Mo_relieves_92 rfl ?_
            refine e_aload_n C d_Mo_relieves_93 rfl ?_
            refine e_geta C fl_Mo_119 (by decide) rfl rfl d_Mo_relieves_94 ?_
            refine e_bipush C d_Mo_relieves_97 (by decide) ?_
            refine e_iload_n C d_Mo_relieves_99 rfl ?_
            refine e_iadd C d_Mo_relieves_100 ?_
            refine e_iald (n := 100) C (by decide) rfl (by decide) rfl rfl (by decide) (by omega) (by omega) d_Mo_relieves_101 (fun r_101 => ?_)
            try simp only [so_at, so_so, wr_so, lnm_s, lnm_cu, lnm_f, hmN, ne_eq, Nat.reduceEqDiff, not_false_eq_true] at r_101 ⊢
            rw [g1] at r_101 ⊢
            refine e_iast (n := 100) C (by decide) rfl (by decide) rfl rfl (by decide) (by omega) (by omega) (by omega) d_Mo_relieves_102 ?_
            try simp only [so_at, so_so, wr_so, lnm_s, lnm_cu, lnm_f, hmN, ne_eq, Nat.reduceEqDiff, not_false_eq_true]
            refine e_aload_n C d_Mo_relieves_103 rfl ?_
            refine e_geta C fl_Mo_119 (by decide) rfl rfl d_Mo_relieves_104 ?_
            refine e_bipush C d_Mo_relieves_107 (by decide) ?_
            refine e_iload_n C d_Mo_relieves_109 rfl ?_
            refine e_iadd C d_Mo_relieves_110 ?_
            refine e_iconst C d_Mo_relieves_111 ?_
            refine e_iast (n := 100) C (by decide) rfl (by decide) rfl rfl (by decide) (by omega) (by omega) (by omega) d_Mo_relieves_112 ?_
            try simp only [so_at, so_so, wr_so, lnm_s, lnm_cu, lnm_f, hmN, ne_eq, Nat.reduceEqDiff, not_false_eq_true]
            refine e_aload_n C d_Mo_relieves_113 rfl ?_
            refine e_geta C fl_Mo_119 (by decide) rfl rfl d_Mo_relieves_114 ?_
            refine e_bipush C d_Mo_relieves_117 (by decide) ?_
            refine e_iload_n C d_Mo_relieves_119 rfl ?_
            refine e_iadd C d_Mo_relieves_120 ?_
            refine e_dup2 C d_Mo_relieves_121 rfl rfl ?_
            refine e_iald (n := 100) C (by decide) rfl (by decide) rfl rfl (by decide) (by omega) (by omega) d_Mo_relieves_122 (fun r_122 => ?_)
            try simp only [so_at, so_so, wr_so, lnm_s, lnm_cu, lnm_f, hmN, ne_eq, Nat.reduceEqDiff, not_false_eq_true] at r_122 ⊢
            rw [ua_ne (by omega), ua_ne (by omega), g4] at r_122 ⊢
            refine e_iconst C d_Mo_relieves_123 ?_
            refine e_iadd C d_Mo_relieves_124 ?_
            refine e_iast (n := 100) C (by decide) rfl (by decide) rfl rfl (by decide) (by omega) (by omega) (by omega) d_Mo_relieves_125 ?_
            try simp only [so_at, so_so, wr_so, lnm_s, lnm_cu, lnm_f, hmN, ne_eq, Nat.reduceEqDiff, not_false_eq_true]
            refine e_aload_n C d_Mo_relieves_126 rfl ?_
            refine e_geta C fl_Mo_119 (by decide) rfl rfl d_Mo_relieves_127 ?_
            refine e_bipush C d_Mo_relieves_130 (by decide) ?_
            refine e_iload_n C d_Mo_relieves_132 rfl ?_
            refine e_iadd C d_Mo_relieves_133 ?_
            refine e_iconst C d_Mo_relieves_134 ?_
            refine e_iast (n := 100) C (by decide) rfl (by decide) rfl rfl (by decide) (by omega) (by omega) (by omega) d_Mo_relieves_135 ?_
            try simp only [so_at, so_so, wr_so, lnm_s, lnm_cu, lnm_f, hmN, ne_eq, Nat.reduceEqDiff, not_false_eq_true]
            have hy3 : RY (ua (ua (ua (ua R1 p (y 1 p)) (8 + p) 0) (32 + p) (y 4 p + 1)) (16 + ahd (P 3 0) p) (-1)) (cu (mturn (mstand y (y 2 (ahd (P 3 0) p)) p) p) 2 (ahd (P 3 0) p) (-2)) := by
                have := RY_2 (q := ahd (P 3 0) p) (v := -1) (w := -2) (RY_4 (q := p) (v := y 4 p + 1) (RY_1 (q := p) (v := 0) (RY_0 (q := p) (v := y 1 p) hy1 (by omega)) (by omega)) (by omega)) (by omega) rfl
                unfold mturn
                rw [f1, f4]
                exact this
            generalize ua (ua (ua (ua R1 p (y 1 p)) (8 + p) 0) (32 + p) (y 4 p + 1)) (16 + ahd (P 3 0) p) (-1) = R3 at hy3 ⊢
            have f11 : cu (mturn (mstand y (y 2 (ahd (P 3 0) p)) p) p) 2 (ahd (P 3 0) p) (-2) 11 0 = y 11 0 := by simp [mturn, mstand, cu_if]
            have f10 : ∀ k, cu (mturn (mstand y (y 2 (ahd (P 3 0) p)) p) p) 2 (ahd (P 3 0) p) (-2) 10 k = y 10 k := fun k => by simp [mturn, mstand, cu_if]
            have g96 := hy3.2.2.1
            rw [f11] at g96
            refine e_aload_n C d_Mo_relieves_136 rfl ?_
            refine e_geta C fl_Mo_119 (by decide) rfl rfl d_Mo_relieves_137 ?_
            refine e_bipush C d_Mo_relieves_140 (by decide) ?_
            refine e_iald (n := 100) C (by decide) rfl (by decide) rfl rfl (by decide) (by omega) (by omega) d_Mo_relieves_142 (fun r_142 => ?_)
            try simp only [so_at, so_so, wr_so, lnm_s, lnm_cu, lnm_f, hmN, ne_eq, Nat.reduceEqDiff, not_false_eq_true] at r_142 ⊢
            rw [g96] at r_142 ⊢
            refine e_if_le C 156 d_Mo_relieves_143 (by decide) (by omega) (fun c_143 => ?_) (fun c_143 => ?_)
            · have en : mnext (cu (mturn (mstand y (y 2 (ahd (P 3 0) p)) p) p) 2 (ahd (P 3 0) p) (-2)) (ahd (P 3 0) p) = cu (mturn (mstand y (y 2 (ahd (P 3 0) p)) p) p) 2 (ahd (P 3 0) p) (-2) := by
                  unfold mnext
                  rw [f11, if_neg (by omega)]
              have hy4 : ∃ R4, R4 = R3 ∧ RY R4 (mnext (cu (mturn (mstand y (y 2 (ahd (P 3 0) p)) p) p) 2 (ahd (P 3 0) p) (-2)) (ahd (P 3 0) p)) ∧ R4 96 < 12 ∧ 0 ≤ R4 96 := ⟨R3, rfl, by rw [en]; exact hy3, by omega, by omega⟩
              obtain ⟨R4, e4, hy4, hl4, hl4b⟩ := hy4
              rw [← e4]
              rw [e1]
              refine e_aload_n C d_Mo_relieves_156 rfl ?_
              refine e_iload C d_Mo_relieves_157 rfl ?_
              refine e_callVV C ok_Mo_liesDown lk_Mo_306 (o := 1) (by decide) rfl [_] rfl rfl (Nat.le_of_ble_eq_true rfl) (by decide) (Nat.le_of_ble_eq_true rfl) d_Mo_relieves_159 (k_Mo_liesDown (by omega) ⟨hl4b, hl4⟩) (fun u_159 h_159 => ?_)
              subst h_159
              have hy5 := RY_lie hy4 (a := y 2 p) (by have := hy4.2.2.1; omega)
              generalize ua (ua R4 (84 + R4 96) (y 2 p)) 96 (R4 96 + 1) = R5 at hy5 ⊢
              have f9 : mlie (mnext (cu (mturn (mstand y (y 2 (ahd (P 3 0) p)) p) p) 2 (ahd (P 3 0) p) (-2)) (ahd (P 3 0) p)) (y 2 p) 9 (y 2 p) = y 9 (y 2 p) := by
                rw [en]
                simp [mlie, mstand, mturn, c_up, cu_if]
              have g9 := (hy5.2.1 (y 2 p) (by omega) (by omega)).2.2.1
              rw [f9] at g9
              refine e_aload_n C d_Mo_relieves_162 rfl ?_
              refine e_geta C fl_Mo_119 (by decide) rfl rfl d_Mo_relieves_163 ?_
              refine e_bipush C d_Mo_relieves_166 (by decide) ?_
              refine e_iload C d_Mo_relieves_168 rfl ?_
              refine e_iadd C d_Mo_relieves_170 ?_
              refine e_iconst C d_Mo_relieves_171 ?_
              refine e_iast (n := 100) C (by decide) rfl (by decide) rfl rfl (by decide) (by omega) (by omega) (by omega) d_Mo_relieves_172 ?_
              try simp only [so_at, so_so, wr_so, lnm_s, lnm_cu, lnm_f, hmN, ne_eq, Nat.reduceEqDiff, not_false_eq_true]
              refine e_aload_n C d_Mo_relieves_173 rfl ?_
              refine e_geta C fl_Mo_119 (by decide) rfl rfl d_Mo_relieves_174 ?_
              refine e_bipush C d_Mo_relieves_177 (by decide) ?_
              refine e_iload C d_Mo_relieves_179 rfl ?_
              refine e_iadd C d_Mo_relieves_181 ?_
              refine e_dup2 C d_Mo_relieves_182 rfl rfl ?_
              refine e_iald (n := 100) C (by decide) rfl (by decide) rfl rfl (by decide) (by omega) (by omega) d_Mo_relieves_183 (fun r_183 => ?_)
              try simp only [so_at, so_so, wr_so, lnm_s, lnm_cu, lnm_f, hmN, ne_eq, Nat.reduceEqDiff, not_false_eq_true] at r_183 ⊢
              rw [ua_ne (by omega), g9] at r_183 ⊢
              refine e_iconst C d_Mo_relieves_184 ?_
              refine e_iadd C d_Mo_relieves_185 ?_
              refine e_iast (n := 100) C (by decide) rfl (by decide) rfl rfl (by decide) (by omega) (by omega) (by omega) d_Mo_relieves_186 ?_
              try simp only [so_at, so_so, wr_so, lnm_s, lnm_cu, lnm_f, hmN, ne_eq, Nat.reduceEqDiff, not_false_eq_true]
              refine e_vret C F rfl d_Mo_relieves_187 ?_
              refine ⟨_, ?_, rfl⟩
              unfold mrel
              rw [if_neg hcond]
              exact RY_9 (RY_8 hy5 (by omega)) (by omega)
            · have hb0 := hqb.2.1 0 (by omega) (by omega)
              have g84 : R3 84 = y 10 0 := by have := (hy3.2.1 0 (by omega) (by omega)).2.2.2; rw [f10] at this; exact this
              refine e_aload_n C d_Mo_relieves_146 rfl ?_
              refine e_aload_n C d_Mo_relieves_147 rfl ?_
              refine e_iconst C d_Mo_relieves_148 ?_
              refine e_callIV C ok_Mo_getsUp lk_Mo_318 (o := 1) (by decide) rfl [_] rfl rfl (Nat.le_of_ble_eq_true rfl) (by decide) (Nat.le_of_ble_eq_true rfl) d_Mo_relieves_149 (k_Mo_getsUp (by omega) (by omega) (by omega)) (fun v_149 u_149 q_149 h_149 => ?_)
              obtain ⟨h_149, rfl⟩ := h_149
              have h149 : v_149 = y 10 0 := by rw [h_149]; exact g84
              subst h149
              refine e_iload_n C d_Mo_relieves_152 rfl ?_
              refine e_callVV C ok_Mo_comes lk_Mo_315 (o := 1) (by decide) rfl [_, _] rfl rfl (Nat.le_of_ble_eq_true rfl) (by decide) (Nat.le_of_ble_eq_true rfl) d_Mo_relieves_153 (k_Mo_comes (by omega) (by omega)) (fun u_153 h_153 => ?_)
              subst h_153
              have en : mnext (cu (mturn (mstand y (y 2 (ahd (P 3 0) p)) p) p) 2 (ahd (P 3 0) p) (-2)) (ahd (P 3 0) p) = mstand (c_up (cu (mturn (mstand y (y 2 (ahd (P 3 0) p)) p) p) 2 (ahd (P 3 0) p) (-2)) 0) (y 10 0) (ahd (P 3 0) p) := by
                unfold mnext
                rw [f11, if_pos (by omega), f10]
              have hy4 := RY_stand (RY_up hy3 (k := 0) (by omega) (by rw [f11]; omega)) (a := y 10 0) (p := ahd (P 3 0) p) (by omega) (by omega)
              rw [← en] at hy4
              have hl4 : ua (ua (r_up R3 0) (16 + ahd (P 3 0) p) (y 10 0)) (60 + y 10 0) 0 96 < 12 ∧ 0 ≤ ua (ua (r_up R3 0) (16 + ahd (P 3 0) p) (y 10 0)) (60 + y 10 0) 0 96 := by
                rw [ua_ne (by omega), ua_ne (by omega)]
                unfold r_up
                rw [if_pos rfl, g96]
                omega
              obtain ⟨hl4, hl4b⟩ := hl4
              generalize ua (ua (r_up R3 0) (16 + ahd (P 3 0) p) (y 10 0)) (60 + y 10 0) 0 = R4 at hy4 hl4 hl4b ⊢
              rw [e1]
              refine e_aload_n C d_Mo_relieves_156 rfl ?_
              refine e_iload C d_Mo_relieves_157 rfl ?_
              refine e_callVV C ok_Mo_liesDown lk_Mo_306 (o := 1) (by decide) rfl [_] rfl rfl (Nat.le_of_ble_eq_true rfl) (by decide) (Nat.le_of_ble_eq_true rfl) d_Mo_relieves_159 (k_Mo_liesDown (by omega) ⟨hl4b, hl4⟩) (fun u_159 h_159 => ?_)
              subst h_159
              have hy5 := RY_lie hy4 (a := y 2 p) (by have := hy4.2.2.1; omega)
              generalize ua (ua R4 (84 + R4 96) (y 2 p)) 96 (R4 96 + 1) = R5 at hy5 ⊢
              have f9 : mlie (mnext (cu (mturn (mstand y (y 2 (ahd (P 3 0) p)) p) p) 2 (ahd (P 3 0) p) (-2)) (ahd (P 3 0) p)) (y 2 p) 9 (y 2 p) = y 9 (y 2 p) := by
                rw [en]
                simp [mlie, mstand, mturn, c_up, cu_if]
              have g9 := (hy5.2.1 (y 2 p) (by omega) (by omega)).2.2.1
              rw [f9] at g9
              refine e_aload_n C d_Mo_relieves_162 rfl ?_
              refine e_geta C fl_Mo_119 (by decide) rfl rfl d_Mo_relieves_163 ?_
              refine e_bipush C d_Mo_relieves_166 (by decide) ?_
              refine e_iload C d_Mo_relieves_168 rfl ?_
              refine e_iadd C d_Mo_relieves_170 ?_
              refine e_iconst C d_Mo_relieves_171 ?_
              refine e_iast (n := 100) C (by decide) rfl (by decide) rfl rfl (by decide) (by omega) (by omega) (by omega) d_Mo_relieves_172 ?_
              try simp only [so_at, so_so, wr_so, lnm_s, lnm_cu, lnm_f, hmN, ne_eq, Nat.reduceEqDiff, not_false_eq_true]
              refine e_aload_n C d_Mo_relieves_173 rfl ?_
              refine e_geta C fl_Mo_119 (by decide) rfl rfl d_Mo_relieves_174 ?_
              refine e_bipush C d_Mo_relieves_177 (by decide) ?_
              refine e_iload C d_Mo_relieves_179 rfl ?_
              refine e_iadd C d_Mo_relieves_181 ?_
              refine e_dup2 C d_Mo_relieves_182 rfl rfl ?_
              refine e_iald (n := 100) C (by decide) rfl (by decide) rfl rfl (by decide) (by omega) (by omega) d_Mo_relieves_183 (fun r_183 => ?_)
              try simp only [so_at, so_so, wr_so, lnm_s, lnm_cu, lnm_f, hmN, ne_eq, Nat.reduceEqDiff, not_false_eq_true] at r_183 ⊢
              rw [ua_ne (by omega), g9] at r_183 ⊢
              refine e_iconst C d_Mo_relieves_184 ?_
              refine e_iadd C d_Mo_relieves_185 ?_
              refine e_iast (n := 100) C (by decide) rfl (by decide) rfl rfl (by decide) (by omega) (by omega) (by omega) d_Mo_relieves_186 ?_
              try simp only [so_at, so_so, wr_so, lnm_s, lnm_cu, lnm_f, hmN, ne_eq, Nat.reduceEqDiff, not_false_eq_true]
              refine e_vret C F rfl d_Mo_relieves_187 ?_
              refine ⟨_, ?_, rfl⟩
              unfold mrel
              rw [if_neg hcond]
              exact RY_9 (RY_8 hy5 (by omega)) (by omega)
          · refine e_vret C F rfl d_Mo_relieves_62 ?_
            exact hno (by omega)
