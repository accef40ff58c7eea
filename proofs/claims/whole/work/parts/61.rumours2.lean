/-! Rumours: the class's leaps beside minutes, and its methods -/
def miss (D : Int → Int) (a b com : Int) : Bool := !(allb (fun t => D t == 0) (b - a).toNat a && (z_iand (D b) (z_ixor com (-1)) == 0))
def g_com (φ : Phi) (P : Cs) (z : Int) (D : Int → Int) (mins : Int) : Nat → Int → Cs → Bool
  | 0, _, _ => true
  | n + 1, i, c => if mins ≤ i then true else (!(miss D i (i + max 1 (c_some φ P z c (mins - i)) - 1) (c_pass φ P z c (mins - i) 13 0)) && g_com φ P z D mins n (i + max 1 (c_some φ P z c (mins - i))) (c_pass φ P z c (mins - i)))
theorem allb_snoc (q : Int → Bool) : ∀ (n : Nat) (i : Int), allb q (n + 1) i = (allb q n i && q (i + n))
  | 0, i => by simp [allb]
  | n + 1, i => by
    rw [allb_S, allb_snoc q n (i + 1), allb_S, Bool.and_assoc, show i + 1 + (n : Int) = i + ((n + 1 : Nat) : Int) by omega]
theorem allb_shift (q : Int → Bool) (t : Int) : ∀ (n : Nat) (i : Int), allb (fun j => q (t + j)) n i = allb q n (t + i)
  | 0, _ => rfl
  | n + 1, i => by rw [allb_S, allb_S, allb_shift q t n (i + 1), show t + (i + 1) = t + i + 1 by omega]
theorem com_eq {φ : Phi} {P l : Cs} {tp tm : Int → Int} {k : Nat} {mins : Int} (hP : PlanOk P l φ) (ht : ∀ q : Int, 0 ≤ q → q < k → 0 ≤ tp q ∧ tp q < P 3 0) : ∀ (n : Nat) (i B : Int) (c y : Cs), SIM P c y → CK B c → 0 ≤ B → mins - i ≤ n → 0 ≤ i → i ≤ mins → g_com φ P (l 0 0) (dus tp tm k) mins n i c = mdue φ P tp tm k (mins - i).toNat i y
  | 0, i, B, c, y, _, _, _, h1, _, _ => by
    rw [show (mins - i).toNat = 0 by omega]
    rfl
  | n + 1, i, B, c, y, hS, hK, hB, h1, h0, hi => by
    unfold g_com
    by_cases z1 : mins ≤ i
    · rw [if_pos z1, show (mins - i).toNat = 0 by omega]
      rfl
    · rw [if_neg z1]
      have hN := hP.1
      have hs := c_some_in (z := l 0 0) (most := mins - i) hP hK (by omega)
      have hq := c_q_in (z := l 0 0) (most := mins - i) hP hK (by omega)
      have e1 : c_some φ P (l 0 0) c (mins - i) = min (c_q φ P (l 0 0) c (mins - i) + 1) (c_lim P c (mins - i)) := rfl
      have hp := pass_sim (most := mins - i) hP hK hB (by omega) hS
      have hqs := quiet_sim hP hK (most := mins - i) (by omega) hS
      have h13 := fun (j : Nat) (hj : j < 8) => pass_13 (φ := φ) (c := c) (z := l 0 0) (most := mins - i) hP hj
      have hKp := CK_pass (z := l 0 0) (most := mins - i) hP hK hB (by omega)
      have ih := com_eq (tp := tp) (tm := tm) (mins := mins) hP ht n (i + c_some φ P (l 0 0) c (mins - i)) _ _ _ hp hKp (by omega) (by omega) (by omega) (by omega)
      rw [show max 1 (c_some φ P (l 0 0) c (mins - i)) = c_some φ P (l 0 0) c (mins - i) by omega, ih]
      obtain ⟨s, es⟩ : ∃ s : Nat, c_some φ P (l 0 0) c (mins - i) = (s : Int) + 1 := ⟨(c_some φ P (l 0 0) c (mins - i)).toNat - 1, by omega⟩
      generalize c_some φ P (l 0 0) c (mins - i) = S at es hp e1 hs ⊢
      subst es
      have h4 : ∀ j : Nat, j ≤ s → ∀ p, 0 ≤ p → p < P 3 0 → mits φ P j y 4 p = c 4 p := by
        intro j hj p p0 p1
        rw [(hqs j (by omega)).1.1 4 p (by decide) p0 p1]
        unfold dj c_count
        rw [cu_f (by decide), c_cnt_f (by decide) (by decide), sd_f (by decide) (by decide)]
      rw [show (mins - i).toNat = (s + 1) + (mins - (i + ((s : Int) + 1))).toNat by omega, mdue_skip]
      rw [show ((s : Int) + 1).toNat = s + 1 by omega, show (((s + 1 : Nat)) : Int) = (s : Int) + 1 by omega]
      congr 1
      rw [allb_snoc]
      unfold miss
      rw [Bool.not_not, show (i + ((s : Int) + 1) - 1 - i).toNat = s by omega]
      congr 1
      · rw [allb_cong (r := fun j => dus tp tm k (i + j) == 0) s 0 (fun j j0 j1 => ?_)]
        · rw [allb_shift (fun t => dus tp tm k t == 0) i s 0, Int.add_zero]
        · refine duo_quiet ht hN.2 (fun p p0 p1 => ?_)
          rw [← mits_S, h4 _ (by omega) p p0 p1, h4 _ (by omega) p p0 p1]
      · rw [show i + ((s : Int) + 1) - 1 = i + (0 + (s : Int)) by omega]
        symm
        refine duo_last ht hN.2 (fun j hj => ?_)
        rw [show (0 + (s : Int)).toNat = s by omega, ← mits_S, h4 s (by omega) j (by omega) hj, h13 j (by omega)]
        rw [show ((s : Int) + 1).toNat = s + 1 by omega] at hp
        rw [hp.1.1 4 j (by decide) (by omega) hj]
theorem l_Ru_isMissed {g : Mach} {Q : Int → St → Prop} (C : Cx M_Ru_isMissed g) (F : FinI M_Ru_isMissed g Q) {σ : St} {a b : Int} (hb : 0 ≤ b ∧ b ≤ 2000) :
    ∀ (n : Nat) (i : Int), 0 ≤ i → i + n = b → Q (if (allb (fun t => σ 13 6 t == 0) n i && (z_iand (σ 13 6 b) (z_ixor (σ 22 13 0) (-1)) == 0)) = true then 0 else 1) σ → Ev g 2 [some (.inr (.inr (13, 0))), some (.inl a), some (.inl b), some (.inl i)] [] σ := by
  intro n
  induction n with
  | zero =>
    intro i h0 h1 hQ
    refine e_iload_n C d_Ru_isMissed_2 rfl ?_
    refine e_iload_n C d_Ru_isMissed_3 rfl ?_
    refine e_icmp_ge C 31 d_Ru_isMissed_4 (by decide) (by omega) (by omega) (fun c_4 => ?_) (fun c_4 => ?_)
    · refine e_iload_n C d_Ru_isMissed_31 rfl ?_
      refine e_sipush C d_Ru_isMissed_32 (by decide) ?_
      refine e_icmp_gt C 61 d_Ru_isMissed_35 (by decide) (by omega) (by omega) (fun c_35 => ?_) (fun c_35 => ?_)
      · exact absurd hb.2 (by omega)
      · refine e_aload_n C d_Ru_isMissed_38 rfl ?_
        refine e_geta C fl_Ru_28 (by decide) rfl rfl d_Ru_isMissed_39 ?_
        refine e_iload_n C d_Ru_isMissed_42 rfl ?_
        refine e_iald (n := 2001) C (by decide) rfl (by decide) rfl rfl (by decide) (by omega) (by omega) d_Ru_isMissed_43 (fun r_43 => ?_)
        refine e_aload_n C d_Ru_isMissed_44 rfl ?_
        refine e_geto (o2 := 22) C fl_Ru_18 (by decide) rfl rfl rfl d_Ru_isMissed_45 ?_
        refine e_geti C fl_Ru_74 (by decide) rfl rfl d_Ru_isMissed_48 (fun r_48 => ?_)
        refine e_iconst C d_Ru_isMissed_51 ?_
        refine e_ixor C d_Ru_isMissed_52 ?_
        refine e_iand C d_Ru_isMissed_53 ?_
        refine e_if_eq C 61 d_Ru_isMissed_54 (by decide) (z_iand_r _ _) (fun c_54 => ?_) (fun c_54 => ?_)
        · rw [if_pos (by rw [c_54]; rfl)] at hQ
          refine e_iconst C d_Ru_isMissed_61 ?_
          refine e_zret C F rfl d_Ru_isMissed_62 (by omega) ?_
          exact hQ
        · rw [if_neg (by intro z; rw [Bool.and_eq_true, beq_iff_eq] at z; exact c_54 z.2)] at hQ
          refine e_iconst C d_Ru_isMissed_57 ?_
          refine e_goto C 62 d_Ru_isMissed_58 (by decide) ?_
          refine e_zret C F rfl d_Ru_isMissed_62 (by omega) ?_
          exact hQ
    · exact absurd h1 (by omega)
  | succ n ih =>
    intro i h0 h1 hQ
    refine e_iload_n C d_Ru_isMissed_2 rfl ?_
    refine e_iload_n C d_Ru_isMissed_3 rfl ?_
    refine e_icmp_ge C 31 d_Ru_isMissed_4 (by decide) (by omega) (by omega) (fun c_4 => ?_) (fun c_4 => ?_)
    · exact absurd h1 (by omega)
    · refine e_iload_n C d_Ru_isMissed_7 rfl ?_
      refine e_sipush C d_Ru_isMissed_8 (by decide) ?_
      refine e_icmp_gt C 31 d_Ru_isMissed_11 (by decide) (by omega) (by omega) (fun c_11 => ?_) (fun c_11 => ?_)
      · exact absurd hb.2 (by omega)
      · refine e_aload_n C d_Ru_isMissed_14 rfl ?_
        refine e_geta C fl_Ru_28 (by decide) rfl rfl d_Ru_isMissed_15 ?_
        refine e_iload_n C d_Ru_isMissed_18 rfl ?_
        refine e_iald (n := 2001) C (by decide) rfl (by decide) rfl rfl (by decide) (by omega) (by omega) d_Ru_isMissed_19 (fun r_19 => ?_)
        refine e_if_eq C 25 d_Ru_isMissed_20 (by decide) (by omega) (fun c_20 => ?_) (fun c_20 => ?_)
        · have e : allb (fun t => σ 13 6 t == 0) (n + 1) i = allb (fun t => σ 13 6 t == 0) n (i + 1) := by rw [allb_S, show (σ 13 6 i == 0) = true by simpa using c_20, Bool.true_and]
          rw [e] at hQ
          refine e_iinc C d_Ru_isMissed_25 rfl (by decide) rfl ?_
          refine e_goto C 2 d_Ru_isMissed_28 (by decide) ?_
          exact ih (i + 1) (by omega) (by omega) hQ
        · have e : allb (fun t => σ 13 6 t == 0) (n + 1) i = false := by rw [allb_S, show (σ 13 6 i == 0) = false by simpa using c_20, Bool.false_and]
          rw [e, Bool.false_and, if_neg (by decide)] at hQ
          refine e_iconst C d_Ru_isMissed_23 ?_
          refine e_zret C F rfl d_Ru_isMissed_24 (by omega) ?_
          exact hQ
theorem k_Ru_isMissed {σ : St} {a b : Int} (ha : 0 ≤ a ∧ a ≤ b) (hb : b ≤ 2000) : CtI M_Ru_isMissed [.inr (.inr (13, 0)), .inl a, .inl b] σ (fun r u => r = (if miss (σ 13 6) a b (σ 22 13 0) = true then 1 else 0) ∧ u = σ) := by
  intro g C F
  refine e_iload_n C d_Ru_isMissed_0 rfl ?_
  refine e_istore_n C d_Ru_isMissed_1 (by decide) rfl ?_
  refine l_Ru_isMissed (a := a) C F (by omega) (b - a).toNat a (by omega) (by omega) ⟨?_, rfl⟩
  unfold miss
  cases (allb (fun t => σ 13 6 t == 0) (b - a).toNat a && z_iand (σ 13 6 b) (z_ixor (σ 22 13 0) (-1)) == 0) <;> rfl
/-- the store with Rumours' own fields -/
abbrev UFs (σ : St) (d l c : Cs) : St := SF (so σ 13 d) 22 l c
theorem US_w (σ : St) (d d' l c : Cs) : so (UFs σ d l c) 13 d' = UFs σ d' l c := by
  funext o
  unfold UFs SF so
  by_cases h : o = 13
  · subst h; simp
  · simp [h]
theorem US_13 (σ : St) (d l c : Cs) : UFs σ d l c 13 = d := by unfold UFs SF; rw [so_ne (by decide), so_ne (by decide), so_at]
theorem US_22 (σ : St) (d l c : Cs) : UFs σ d l c 22 = c := by unfold UFs SF; rw [so_at]
theorem US_o {σ : St} {d l c : Cs} {o : Nat} (h11 : o ≠ 13) (h8 : o ≠ 8) (h20 : o ≠ 22) : UFs σ d l c o = σ o := by unfold UFs SF; rw [so_ne h20, so_ne h8, so_ne h11]
theorem U_7 (σ : St) (d : Cs) : so σ 13 d 7 = σ 7 := so_ne (by decide)
theorem U_17 (σ : St) (d : Cs) : so σ 13 d 17 = σ 17 := so_ne (by decide)
theorem l_Ru_comesAsDue {g : Mach} {Q : Int → St → Prop} (C : Cx M_Ru_comesAsDue g) (F : FinI M_Ru_comesAsDue g Q) {σ : St} {φ : Phi} {m : Int} {d : Cs} (hm : 0 ≤ m ∧ m ≤ 2001) :
    ∀ (n : Nat) (i B : Int) (l c : Cs), PlanOk (σ 7) l φ → CK B c → 0 ≤ B → B + 10 * (m - i) < 900000000 → 0 ≤ i → m < i + n → i ≤ m → (∀ l' c', LSm l l' → Q (if g_com φ (σ 7) (l 0 0) (d 6) m n i c = true then 1 else 0) (UFs σ d l' c')) → Ev g 2 [some (.inr (.inr (13, 0))), some (.inr (.inr (7, 0))), some (.inl m), some (.inl i), none] [] (UFs σ d l c) := by
  intro n
  induction n with
  | zero => intro i B l c hPl hK hB hb h0 h1 h2; omega
  | succ n ih =>
    intro i B l c hPl hK hB hb h0 h1 h2 hQ
    unfold g_com at hQ
    refine e_iload_n C d_Ru_comesAsDue_2 rfl ?_
    refine e_iload_n C d_Ru_comesAsDue_3 rfl ?_
    refine e_icmp_ge C 48 d_Ru_comesAsDue_4 (by decide) (by omega) (by omega) (fun c_4 => ?_) (fun c_4 => ?_)
    · rw [if_pos (show m ≤ i by omega)] at hQ
      refine e_iconst C d_Ru_comesAsDue_48 ?_
      refine e_zret C F rfl d_Ru_comesAsDue_49 (by omega) ?_
      exact hQ l c (LSm.rf l)
    · rw [if_neg (show ¬ m ≤ i by omega)] at hQ
      have hs := c_some_in (z := l 0 0) (most := m - i) hPl hK (by omega)
      have hq := c_q_in (z := l 0 0) (most := m - i) hPl hK (by omega)
      have hqs : c_q φ (σ 7) (l 0 0) c (m - i) ≤ c_some φ (σ 7) (l 0 0) c (m - i) := by unfold c_some; omega
      have hKp := CK_pass (z := l 0 0) (most := m - i) hPl hK hB (by omega)
      refine e_iconst C d_Ru_comesAsDue_7 ?_
      refine e_aload_n C d_Ru_comesAsDue_8 rfl ?_
      refine e_geto (o2 := 22) C fl_Ru_18 (by decide) rfl rfl rfl d_Ru_comesAsDue_9 ?_
      refine e_aload_n C d_Ru_comesAsDue_12 rfl ?_
      refine e_iload_n C d_Ru_comesAsDue_13 rfl ?_
      refine e_iload_n C d_Ru_comesAsDue_14 rfl ?_
      refine e_isub C d_Ru_comesAsDue_15 ?_
      refine e_callIV C ok_Ca_passSome lk_Ru_77 (o := 22) (by decide) rfl [_, _] rfl rfl (Nat.le_of_ble_eq_true rfl) (by decide) (Nat.le_of_ble_eq_true rfl) d_Ru_comesAsDue_16 (s_Ca_passSome (σ := so σ 13 d) (by decide) (by rw [U_7]; exact hPl) hK (by omega) (by omega)) (fun v_16 u_16 q_16 h_16 => ?_)
      obtain ⟨h_16, l1, hl1, rfl⟩ := h_16
      rw [U_7] at h_16 ⊢
      subst h_16
      refine e_mmax C lk_Ru_68 d_Ru_comesAsDue_19 (by decide) (Nat.le_of_ble_eq_true rfl) (by omega) (by omega) ?_
      refine e_istore C d_Ru_comesAsDue_22 (by decide) rfl ?_
      refine e_iload_n C d_Ru_comesAsDue_24 rfl ?_
      refine e_iload C d_Ru_comesAsDue_25 rfl ?_
      refine e_iadd C d_Ru_comesAsDue_27 ?_
      refine e_istore_n C d_Ru_comesAsDue_28 (by decide) rfl ?_
      refine e_aload_n C d_Ru_comesAsDue_29 rfl ?_
      refine e_iload_n C d_Ru_comesAsDue_30 rfl ?_
      refine e_iload C d_Ru_comesAsDue_31 rfl ?_
      refine e_isub C d_Ru_comesAsDue_33 ?_
      refine e_iload_n C d_Ru_comesAsDue_34 rfl ?_
      refine e_iconst C d_Ru_comesAsDue_35 ?_
      refine e_isub C d_Ru_comesAsDue_36 ?_
      rw [show i + max 1 (c_some φ (σ 7) (l 0 0) c (m - i)) - max 1 (c_some φ (σ 7) (l 0 0) c (m - i)) = i by omega]
      refine e_callIV C ok_Ru_isMissed lk_Ru_81 (o := 13) (by decide) rfl [_, _] rfl rfl (Nat.le_of_ble_eq_true rfl) (by decide) (Nat.le_of_ble_eq_true rfl) d_Ru_comesAsDue_37 (k_Ru_isMissed (by omega) (by omega)) (fun v_37 u_37 q_37 h_37 => ?_)
      obtain ⟨h_37, rfl⟩ := h_37
      rw [show so (so (so σ 13 d) 8 l1) 22 (c_pass φ (σ 7) (l 0 0) c (m - i)) 13 = d from US_13 σ d l1 _, show so (so (so σ 13 d) 8 l1) 22 (c_pass φ (σ 7) (l 0 0) c (m - i)) 22 = c_pass φ (σ 7) (l 0 0) c (m - i) from US_22 σ d l1 _] at h_37
      refine e_if_eq C 45 d_Ru_comesAsDue_40 (by decide) (by rw [h_37]; split <;> omega) (fun c_40 => ?_) (fun c_40 => ?_)
      · have e : miss (d 6) i (i + max 1 (c_some φ (σ 7) (l 0 0) c (m - i)) - 1) (c_pass φ (σ 7) (l 0 0) c (m - i) 13 0) = false := by
            cases z : miss (d 6) i (i + max 1 (c_some φ (σ 7) (l 0 0) c (m - i)) - 1) (c_pass φ (σ 7) (l 0 0) c (m - i) 13 0) with
            | false => rfl
            | true => rw [z, if_pos rfl] at h_37; omega
        rw [e, Bool.not_false, Bool.true_and] at hQ
        refine e_goto C 2 d_Ru_comesAsDue_45 (by decide) ?_
        refine e_drop 4 ?_
        refine ih _ _ l1 _ (hPl.same hl1) hKp (by omega) (by omega) (by omega) (by omega) (by omega) (fun l' c' hl' => ?_)
        rw [hl1.1 0 (by decide)]
        exact hQ l' c' (hl1.tr hl')
      · have e : miss (d 6) i (i + max 1 (c_some φ (σ 7) (l 0 0) c (m - i)) - 1) (c_pass φ (σ 7) (l 0 0) c (m - i) 13 0) = true := by
            cases z : miss (d 6) i (i + max 1 (c_some φ (σ 7) (l 0 0) c (m - i)) - 1) (c_pass φ (σ 7) (l 0 0) c (m - i) 13 0) with
            | true => rfl
            | false => rw [z, if_neg (by decide)] at h_37; exact absurd h_37 c_40
        rw [e, Bool.not_true, Bool.false_and] at hQ
        refine e_iconst C d_Ru_comesAsDue_43 ?_
        refine e_zret C F rfl d_Ru_comesAsDue_44 (by omega) ?_
        exact hQ l1 _ hl1
theorem k_Ru_comesAsDue {σ : St} {φ : Phi} {m B : Int} {d l c y : Cs} {tp tm : Int → Int} {k : Nat} (hPl : PlanOk (σ 7) l φ) (hS : SIM (σ 7) c y) (hK : CK B c) (hB : 0 ≤ B ∧ B < 600000000) (hm : 0 ≤ m ∧ m ≤ 2001) (ht : ∀ q : Int, 0 ≤ q → q < k → 0 ≤ tp q ∧ tp q < σ 7 3 0) (hd : ∀ t, 0 ≤ t → t ≤ 2000 → d 6 t = dus tp tm k t) : CtI M_Ru_comesAsDue [.inr (.inr (13, 0)), .inr (.inr (7, 0)), .inl m] (UFs σ d l c) (fun r u => r = (if mdue φ (σ 7) tp tm k m.toNat 0 y = true then 1 else 0) ∧ ∃ l' c', LSm l l' ∧ u = UFs σ d l' c') := by
  intro g C F
  have e := com_eq (tp := tp) (tm := tm) (mins := m) hPl ht (m + 1).toNat 0 B c y hS hK hB.1 (by omega) (by omega) hm.1
  have e2 : ∀ (n : Nat) (i : Int) (c : Cs) (B : Int), CK B c → 0 ≤ B → 0 ≤ i → i ≤ m → g_com φ (σ 7) (l 0 0) (d 6) m n i c = g_com φ (σ 7) (l 0 0) (dus tp tm k) m n i c := by
    intro n
    induction n with
    | zero => intro i c B _ _ _ _; rfl
    | succ n ih =>
      intro i c B hK hB h0 h1
      unfold g_com
      by_cases z : m ≤ i
      · rw [if_pos z, if_pos z]
      · have hs := c_some_in (z := l 0 0) (most := m - i) hPl hK (by omega)
        have hq := c_q_in (z := l 0 0) (most := m - i) hPl hK (by omega)
        rw [if_neg z, if_neg z, ih _ _ _ (CK_pass (z := l 0 0) (most := m - i) hPl hK hB (by omega)) (by omega) (by omega) (by omega)]
        have : miss (d 6) i (i + max 1 (c_some φ (σ 7) (l 0 0) c (m - i)) - 1) (c_pass φ (σ 7) (l 0 0) c (m - i) 13 0) = miss (dus tp tm k) i (i + max 1 (c_some φ (σ 7) (l 0 0) c (m - i)) - 1) (c_pass φ (σ 7) (l 0 0) c (m - i) 13 0) := by
          unfold miss
          rw [hd _ (by omega) (by omega), allb_cong (r := fun t => dus tp tm k t == 0) _ _ (fun t a b => by rw [hd t (by omega) (by omega)])]
        rw [this]
  rw [show (m - 0).toNat = m.toNat by omega, ← e2 _ _ _ B hK hB.1 (by omega) hm.1] at e
  refine e_iconst C d_Ru_comesAsDue_0 ?_
  refine e_istore_n C d_Ru_comesAsDue_1 (by decide) rfl ?_
  refine l_Ru_comesAsDue C F hm (m + 1).toNat 0 B l c hPl hK hB.1 (by omega) (by omega) (by omega) hm.1 (fun l' c' hl' => ⟨?_, l', c', hl', rfl⟩)
  rw [e]
def mxs (tm : Int → Int) (i m : Int) : Int := max m (tm i + 1)
def mxm (tm : Int → Int) (k : Nat) : Int := itr (mxs tm) k 0 0
theorem l_Ru_setDue2 {g : Mach} {Q : Int → St → Prop} (C : Cx M_Ru_setDue g) (F : FinI M_Ru_setDue g Q) {σ : St} {k : Int} {d0 : Cs} (hk : k ≤ d0 2 0) (hk2 : d0 2 0 ≤ 20) (htp : ∀ q : Int, 0 ≤ q → q < k → 0 ≤ d0 4 q ∧ d0 4 q < 8) (htm : ∀ q : Int, 0 ≤ q → q < k → 0 ≤ d0 5 q ∧ d0 5 q ≤ 2000) :
    ∀ (n : Nat) (i m : Int) (d : Cs), 0 ≤ i → i + n = k → (0 ≤ m ∧ m ≤ 2001) → (∀ f, f ≠ 6 → d f = d0 f) → (∀ d', (∀ f, f ≠ 6 → d' f = d0 f) → (∀ t, 0 ≤ t → t ≤ 2000 → d' 6 t = itr (dub (d0 4) (d0 5) t) n i (d 6 t)) → Q (itr (mxs (d0 5)) n i m) (so σ 13 d')) → Ev g 26 [some (.inr (.inr (13, 0))), some (.inl k), some (.inl m), some (.inl i)] [] (so σ 13 d) := by
  intro n
  induction n with
  | zero =>
    intro i m d h0 h1 hm hd hQ
    refine e_iload_n C d_Ru_setDue_26 rfl ?_
    refine e_iload_n C d_Ru_setDue_27 rfl ?_
    refine e_icmp_ge C 80 d_Ru_setDue_28 (by decide) (by omega) (by omega) (fun c_28 => ?_) (fun c_28 => ?_)
    · refine e_iload_n C d_Ru_setDue_80 rfl ?_
      refine e_iret C F rfl d_Ru_setDue_81 (by omega) ?_
      exact hQ d hd (fun _ _ _ => rfl)
    · exact absurd h1 (by omega)
  | succ n ih =>
    intro i m d h0 h1 hm hd hQ
    have hp := htp i h0 (by omega)
    have hmi := htm i h0 (by omega)
    have e2 : d 2 0 = d0 2 0 := by rw [hd 2 (by decide)]
    have e4 : d 4 i = d0 4 i := by rw [hd 4 (by decide)]
    have e5 : d 5 i = d0 5 i := by rw [hd 5 (by decide)]
    refine e_iload_n C d_Ru_setDue_26 rfl ?_
    refine e_iload_n C d_Ru_setDue_27 rfl ?_
    refine e_icmp_ge C 80 d_Ru_setDue_28 (by decide) (by omega) (by omega) (fun c_28 => ?_) (fun c_28 => ?_)
    · exact absurd h1 (by omega)
    · refine e_iload_n C d_Ru_setDue_31 rfl ?_
      refine e_aload_n C d_Ru_setDue_32 rfl ?_
      refine e_geti C fl_Ru_31 (by decide) rfl rfl d_Ru_setDue_33 (fun r_33 => ?_)
      try simp only [wr_so, so_at, so_so, e2, e4, e5, cu_f, ne_eq, Nat.reduceEqDiff, not_false_eq_true] at r_33 ⊢
      refine e_icmp_ge C 80 d_Ru_setDue_36 (by decide) (by omega) (by omega) (fun c_36 => ?_) (fun c_36 => ?_)
      · exact absurd hk (by omega)
      · refine e_aload_n C d_Ru_setDue_39 rfl ?_
        refine e_geta C fl_Ru_28 (by decide) rfl rfl d_Ru_setDue_40 ?_
        refine e_aload_n C d_Ru_setDue_43 rfl ?_
        refine e_geta C fl_Ru_25 (by decide) rfl rfl d_Ru_setDue_44 ?_
        refine e_iload_n C d_Ru_setDue_47 rfl ?_
        refine e_iald (n := 20) C (by decide) rfl (by decide) rfl rfl (by decide) (by omega) (by omega) d_Ru_setDue_48 (fun r_48 => ?_)
        try simp only [wr_so, so_at, so_so, e2, e4, e5, cu_f, ne_eq, Nat.reduceEqDiff, not_false_eq_true] at r_48 ⊢
        refine e_dup2 C d_Ru_setDue_49 rfl rfl ?_
        refine e_iald (n := 2001) C (by decide) rfl (by decide) rfl rfl (by decide) (by omega) (by omega) d_Ru_setDue_50 (fun r_50 => ?_)
        try simp only [wr_so, so_at, so_so, e2, e4, e5, cu_f, ne_eq, Nat.reduceEqDiff, not_false_eq_true] at r_50 ⊢
        refine e_iconst C d_Ru_setDue_51 ?_
        refine e_aload_n C d_Ru_setDue_52 rfl ?_
        refine e_geta C fl_Ru_22 (by decide) rfl rfl d_Ru_setDue_53 ?_
        refine e_iload_n C d_Ru_setDue_56 rfl ?_
        refine e_iald (n := 20) C (by decide) rfl (by decide) rfl rfl (by decide) (by omega) (by omega) d_Ru_setDue_57 (fun r_57 => ?_)
        try simp only [wr_so, so_at, so_so, e2, e4, e5, cu_f, ne_eq, Nat.reduceEqDiff, not_false_eq_true] at r_57 ⊢
        refine e_ishl C d_Ru_setDue_58 ?_
        refine e_ior C d_Ru_setDue_59 ?_
        refine e_iast (n := 2001) C (by decide) rfl (by decide) rfl rfl (by decide) (by omega) (by omega) (z_ior_r _ _) d_Ru_setDue_60 ?_
        try simp only [wr_so, so_at, so_so, e2, e4, e5, cu_f, ne_eq, Nat.reduceEqDiff, not_false_eq_true]
        refine e_iload_n C d_Ru_setDue_61 rfl ?_
        refine e_aload_n C d_Ru_setDue_62 rfl ?_
        refine e_geta C fl_Ru_25 (by decide) rfl rfl d_Ru_setDue_63 ?_
        refine e_iload_n C d_Ru_setDue_66 rfl ?_
        refine e_iald (n := 20) C (by decide) rfl (by decide) rfl rfl (by decide) (by omega) (by omega) d_Ru_setDue_67 (fun r_67 => ?_)
        try simp only [wr_so, so_at, so_so, e2, e4, e5, cu_f, ne_eq, Nat.reduceEqDiff, not_false_eq_true] at r_67 ⊢
        refine e_iconst C d_Ru_setDue_68 ?_
        refine e_iadd C d_Ru_setDue_69 ?_
        refine e_mmax C lk_Ru_68 d_Ru_setDue_70 (by decide) (Nat.le_of_ble_eq_true rfl) (by omega) (by omega) ?_
        refine e_istore_n C d_Ru_setDue_73 (by decide) rfl ?_
        refine e_iinc C d_Ru_setDue_74 rfl (by decide) rfl ?_
        refine e_goto C 26 d_Ru_setDue_77 (by decide) ?_
        refine ih (i + 1) _ _ (by omega) (by omega) (by omega) (fun f hf => by rw [← hd f hf]; funext q; rw [cu_f hf]) (fun d' h1' h2' => ?_)
        have := hQ d' h1' (fun t t0 t1 => by
          rw [itr_S, h2' t t0 t1]
          congr 1
          unfold dub
          rw [cu_if]
          by_cases z : t = d0 5 i
          · rw [if_pos ⟨rfl, z⟩, if_pos z.symm, z]
          · rw [if_neg (fun w => z w.2), if_neg (fun w => z w.symm)])
        rw [itr_S] at this
        exact this
def dzr (d : Cs) (i : Int) : Cs := fun f t => if f = 6 ∧ 0 ≤ t ∧ t < i then 0 else d f t
theorem dzr_S {d : Cs} {i : Int} (h : 0 ≤ i) : cu (dzr d i) 6 i 0 = dzr d (i + 1) := by
  funext f t
  rw [cu_if]
  unfold dzr
  by_cases z : f = 6 ∧ t = i
  · rw [if_pos z, if_pos (by omega)]
  · rw [if_neg z]
    by_cases z2 : f = 6 ∧ 0 ≤ t ∧ t < i
    · rw [if_pos z2, if_pos (by omega)]
    · rw [if_neg z2, if_neg (by omega)]
theorem l_Ru_setDue1 {g : Mach} {Q : Int → St → Prop} (C : Cx M_Ru_setDue g) (F : FinI M_Ru_setDue g Q) {σ : St} {k : Int} {d0 : Cs} (hk0 : 0 ≤ k) (hk : k ≤ d0 2 0) (hk2 : d0 2 0 ≤ 20) (htp : ∀ q : Int, 0 ≤ q → q < k → 0 ≤ d0 4 q ∧ d0 4 q < 8) (htm : ∀ q : Int, 0 ≤ q → q < k → 0 ≤ d0 5 q ∧ d0 5 q ≤ 2000) (hQ : ∀ d', (∀ f, f ≠ 6 → d' f = d0 f) → (∀ t, 0 ≤ t → t ≤ 2000 → d' 6 t = dus (d0 4) (d0 5) k.toNat t) → Q (mxm (d0 5) k.toNat) (so σ 13 d')) :
    ∀ (n : Nat) (i : Int), 0 ≤ i → i + n = 2001 → Ev g 2 [some (.inr (.inr (13, 0))), some (.inl k), some (.inl i), none] [] (so σ 13 (dzr d0 i)) := by
  intro n
  induction n with
  | zero =>
    intro i h0 h1
    refine e_iload_n C d_Ru_setDue_2 rfl ?_
    refine e_sipush C d_Ru_setDue_3 (by decide) ?_
    refine e_icmp_gt C 22 d_Ru_setDue_6 (by decide) (by omega) (by omega) (fun c_6 => ?_) (fun c_6 => ?_)
    · refine e_iconst C d_Ru_setDue_22 ?_
      refine e_istore_n C d_Ru_setDue_23 (by decide) rfl ?_
      refine e_iconst C d_Ru_setDue_24 ?_
      refine e_istore_n C d_Ru_setDue_25 (by decide) rfl ?_
      rw [show i = 2001 by omega]
      refine l_Ru_setDue2 (d0 := d0) C F hk hk2 htp htm k.toNat 0 0 _ (by omega) (by omega) (by omega) (fun f hf => ?_) (fun d' h1' h2' => hQ d' h1' (fun t t0 t1 => ?_))
      · funext t; unfold dzr; rw [if_neg (fun z => hf z.1)]
      · rw [h2' t t0 t1]
        unfold dzr
        rw [if_pos ⟨rfl, t0, by omega⟩]
        rfl
    · exact absurd h1 (by omega)
  | succ n ih =>
    intro i h0 h1
    refine e_iload_n C d_Ru_setDue_2 rfl ?_
    refine e_sipush C d_Ru_setDue_3 (by decide) ?_
    refine e_icmp_gt C 22 d_Ru_setDue_6 (by decide) (by omega) (by omega) (fun c_6 => ?_) (fun c_6 => ?_)
    · exact absurd h1 (by omega)
    · refine e_aload_n C d_Ru_setDue_9 rfl ?_
      refine e_geta C fl_Ru_28 (by decide) rfl rfl d_Ru_setDue_10 ?_
      refine e_iload_n C d_Ru_setDue_13 rfl ?_
      refine e_iconst C d_Ru_setDue_14 ?_
      refine e_iast (n := 2001) C (by decide) rfl (by decide) rfl rfl (by decide) (by omega) (by omega) (by omega) d_Ru_setDue_15 ?_
      try simp only [wr_so, so_at, so_so]
      refine e_iinc C d_Ru_setDue_16 rfl (by decide) rfl ?_
      refine e_goto C 2 d_Ru_setDue_19 (by decide) ?_
      rw [dzr_S h0]
      exact ih (i + 1) (by omega) (by omega)
theorem k_Ru_setDue {σ : St} {k : Int} (hk0 : 0 ≤ k) (hk : k ≤ σ 13 2 0) (hk2 : σ 13 2 0 ≤ 20) (htp : ∀ q : Int, 0 ≤ q → q < k → 0 ≤ σ 13 4 q ∧ σ 13 4 q < 8) (htm : ∀ q : Int, 0 ≤ q → q < k → 0 ≤ σ 13 5 q ∧ σ 13 5 q ≤ 2000) : CtI M_Ru_setDue [.inr (.inr (13, 0)), .inl k] σ (fun r u => r = mxm (σ 13 5) k.toNat ∧ ∃ d', (∀ f, f ≠ 6 → d' f = σ 13 f) ∧ (∀ t, 0 ≤ t → t ≤ 2000 → d' 6 t = dus (σ 13 4) (σ 13 5) k.toNat t) ∧ u = so σ 13 d') := by
  intro g C F
  refine e_iconst C d_Ru_setDue_0 ?_
  refine e_istore_n C d_Ru_setDue_1 (by decide) rfl ?_
  have e : dzr (σ 13) 0 = σ 13 := by
    funext f t
    unfold dzr
    rw [if_neg (by omega)]
  have := l_Ru_setDue1 (σ := σ) (d0 := σ 13) C F hk0 hk hk2 htp htm (fun d' h1 h2 => ⟨rfl, d', h1, h2, rfl⟩) 2001 0 (by omega) (by omega)
  rw [e, so_id] at this
  exact this
/-! the ways to tamper -/
def isS (φ : Phi) (P ys : Cs) (tp tm : Int → Int) (k : Nat) (p more : Int) : Bool := mdue φ P tp tm k (mxm tm k).toNat 0 (cu ys 0 p (ys 0 p + more))
def wyv (p more : Int) : Int := 1000 * p + more
def wyf (p : Int) : Int := if p = 0 then 0 else 1
def wyc (φ : Phi) (P ys : Cs) (tp tm : Int → Int) (k : Nat) (most p : Int) (d : Cs) : Cs := itr (gcl (isS φ P ys tp tm k p) (wyv p)) (most + 1 - wyf p).toNat (wyf p) d
def wys (φ : Phi) (P ys : Cs) (tp tm : Int → Int) (k : Nat) (most i p : Int) (b : Option Int × Int) : Option Int × Int := itr (gse (isS φ P ys tp tm k p) (wyv p) i) (most + 1 - wyf p).toNat (wyf p) b
def tmv (φ : Phi) (P ys : Cs) (tp tm : Int → Int) (most : Int) (k : Nat) (i : Int) : Int := gfin i (itr (wys φ P ys tp tm k most i) (P 3 0).toNat 0 (none, 0))
theorem wy_REL {φ : Phi} {P ys : Cs} {tp tm : Int → Int} {k : Nat} {most i : Int} (hi : -1 ≤ i) : ∀ (n : Nat) (p : Int) (d : Cs) (b : Option Int × Int), gREL i d b → gREL i (itr (wyc φ P ys tp tm k most) n p d) (itr (wys φ P ys tp tm k most i) n p b)
  | 0, _, _, _, h => h
  | n + 1, p, d, b, h => by
    rw [itr_S, itr_S]
    exact wy_REL hi n (p + 1) _ _ (gREL_itr hi _ _ _ _ h)
theorem gclN_f {q : Int → Bool} {v : Int → Int} {f : Nat} (h0 : f ≠ 0) (h1 : f ≠ 1) : ∀ (n : Nat) (s : Int) (d : Cs), itr (gcl q v) n s d f = d f
  | 0, _, _ => rfl
  | n + 1, s, d => by rw [itr_S, gclN_f h0 h1 n, gcl_f h0 h1]
theorem mxm_in {tm : Int → Int} : ∀ (n : Nat) (i m : Int), (∀ q : Int, i ≤ q → q < i + n → 0 ≤ tm q ∧ tm q ≤ 2000) → 0 ≤ m → m ≤ 2001 → 0 ≤ itr (mxs tm) n i m ∧ itr (mxs tm) n i m ≤ 2001
  | 0, _, _, _, h0, h1 => ⟨h0, h1⟩
  | n + 1, i, m, h, h0, h1 => by
    have hi := h i (by omega) (by omega)
    rw [itr_S]
    exact mxm_in n (i + 1) _ (fun q a b => h q (by omega) (by omega)) (by unfold mxs; omega) (by unfold mxs; omega)
theorem s_Ca_copyo {σ : St} {o o1 : Nat} {l c : Cs} (hc : o ∈ castles) (hc1 : o1 ∈ castles) (hne : o1 ≠ o) : CtV M_Ca_copyFrom [.inr (.inr (o, 0)), .inr (.inr (o1, 0))] (SF σ o l c) (fun u => u = SF σ o l (c_copy c (σ o1))) := by
  have h8 := cas_ne (n := 8) hc1 (by decide)
  have := k_Ca_copyFrom (σ := SF σ o l c) (o := o) (o1 := o1) hc hc1 hne
  simpa only [so_at, so_so, so_ne hne, so_ne (show o1 ≠ 8 from fun z => h8 z.symm)] using this
/-- what findWays goes by -/
def WCx (σ : St) (_ : Phi) (ys d0 : Cs) (B S most k mins : Int) : Prop := (SIM (σ 7) (σ 17) ys) ∧ (CKS B S (σ 7 3 0) (σ 17)) ∧ (0 ≤ B ∧ B < 600000000) ∧ (0 ≤ S ∧ S ≤ 900000000) ∧ (1 ≤ most ∧ most ≤ 200) ∧ (0 ≤ k ∧ k ≤ d0 2 0) ∧ (d0 2 0 ≤ 20) ∧ (∀ q : Int, 0 ≤ q → q < k → 0 ≤ d0 4 q ∧ d0 4 q < σ 7 3 0) ∧ (∀ q : Int, 0 ≤ q → q < k → 0 ≤ d0 5 q ∧ d0 5 q ≤ 2000) ∧ (mins = mxm (d0 5) k.toNat)
theorem WCx.hS {σ : St} {φ : Phi} {ys d0 : Cs} {B S most k mins : Int} (h : WCx σ φ ys d0 B S most k mins) : SIM (σ 7) (σ 17) ys := h.1
theorem WCx.hK {σ : St} {φ : Phi} {ys d0 : Cs} {B S most k mins : Int} (h : WCx σ φ ys d0 B S most k mins) : CKS B S (σ 7 3 0) (σ 17) := h.2.1
theorem WCx.hB {σ : St} {φ : Phi} {ys d0 : Cs} {B S most k mins : Int} (h : WCx σ φ ys d0 B S most k mins) : 0 ≤ B ∧ B < 600000000 := h.2.2.1
theorem WCx.hSb {σ : St} {φ : Phi} {ys d0 : Cs} {B S most k mins : Int} (h : WCx σ φ ys d0 B S most k mins) : 0 ≤ S ∧ S ≤ 900000000 := h.2.2.2.1
theorem WCx.hm {σ : St} {φ : Phi} {ys d0 : Cs} {B S most k mins : Int} (h : WCx σ φ ys d0 B S most k mins) : 1 ≤ most ∧ most ≤ 200 := h.2.2.2.2.1
theorem WCx.hk {σ : St} {φ : Phi} {ys d0 : Cs} {B S most k mins : Int} (h : WCx σ φ ys d0 B S most k mins) : 0 ≤ k ∧ k ≤ d0 2 0 := h.2.2.2.2.2.1
theorem WCx.hk2 {σ : St} {φ : Phi} {ys d0 : Cs} {B S most k mins : Int} (h : WCx σ φ ys d0 B S most k mins) : d0 2 0 ≤ 20 := h.2.2.2.2.2.2.1
theorem WCx.htp {σ : St} {φ : Phi} {ys d0 : Cs} {B S most k mins : Int} (h : WCx σ φ ys d0 B S most k mins) : ∀ q : Int, 0 ≤ q → q < k → 0 ≤ d0 4 q ∧ d0 4 q < σ 7 3 0 := h.2.2.2.2.2.2.2.1
theorem WCx.htm {σ : St} {φ : Phi} {ys d0 : Cs} {B S most k mins : Int} (h : WCx σ φ ys d0 B S most k mins) : ∀ q : Int, 0 ≤ q → q < k → 0 ≤ d0 5 q ∧ d0 5 q ≤ 2000 := h.2.2.2.2.2.2.2.2.1
theorem WCx.hmn {σ : St} {φ : Phi} {ys d0 : Cs} {B S most k mins : Int} (h : WCx σ φ ys d0 B S most k mins) : mins = mxm (d0 5) k.toNat := h.2.2.2.2.2.2.2.2.2
/-- Rumours' fields while ways are sought -/
def WDx (d0 d : Cs) (k : Int) : Prop := d 2 = d0 2 ∧ d 4 = d0 4 ∧ d 5 = d0 5 ∧ ∀ t, 0 ≤ t → t ≤ 2000 → d 6 t = dus (d0 4) (d0 5) k.toNat t
theorem WDx_gcl {d0 d : Cs} {k : Int} {q : Int → Bool} {v : Int → Int} {s : Int} (h : WDx d0 d k) : WDx d0 (gcl q v s d) k := by
  unfold WDx
  rw [gcl_f (f := 2) (by decide) (by decide), gcl_f (f := 4) (by decide) (by decide), gcl_f (f := 5) (by decide) (by decide), gcl_f (f := 6) (by decide) (by decide)]
  exact h
set_option maxHeartbeats 2000000 in
theorem l_Ru_findWays2 {g : Mach} (C : Cx M_Ru_findWays g) {σ : St} {φ : Phi} {B S most k mins p : Int} {ys d0 : Cs} (W : WCx σ φ ys d0 B S most k mins) (hp : 0 ≤ p ∧ p < σ 7 3 0) :
    ∀ (n : Nat) (i : Int) (d l c : Cs), PlanOk (σ 7) l φ → wyf p ≤ i → i + n = most + 1 → WDx d0 d k → (0 ≤ d 1 0 ∧ d 1 0 ≤ 200 * p + i) → (∀ l' c', LSm l l' → WDx d0 (itr (gcl (isS φ (σ 7) ys (d0 4) (d0 5) k.toNat p) (wyv p)) n i d) k → (0 ≤ itr (gcl (isS φ (σ 7) ys (d0 4) (d0 5) k.toNat p) (wyv p)) n i d 1 0 ∧ itr (gcl (isS φ (σ 7) ys (d0 4) (d0 5) k.toNat p) (wyv p)) n i d 1 0 ≤ 200 * p + most + 1) → Ev g 41 [some (.inr (.inr (13, 0))), some (.inr (.inr (7, 0))), some (.inr (.inr (17, 0))), some (.inl most), some (.inl k), some (.inl mins), some (.inl (p + 1)), none] [] (UFs σ (itr (gcl (isS φ (σ 7) ys (d0 4) (d0 5) k.toNat p) (wyv p)) n i d) l' c')) → Ev g 62 [some (.inr (.inr (13, 0))), some (.inr (.inr (7, 0))), some (.inr (.inr (17, 0))), some (.inl most), some (.inl k), some (.inl mins), some (.inl p), some (.inl i)] [] (UFs σ d l c) := by
  intro n
  have hm := W.hm
  have hwf : 0 ≤ wyf p ∧ wyf p ≤ 1 := by unfold wyf; split <;> omega
  induction n with
  | zero =>
    intro i d l c hPl h0 h1 hd hd1 hQ
    have hN := hPl.1
    refine e_iload C d_Ru_findWays_62 rfl ?_
    refine e_iload_n C d_Ru_findWays_64 rfl ?_
    refine e_icmp_gt C 132 d_Ru_findWays_65 (by decide) (by omega) (by omega) (fun c_65 => ?_) (fun c_65 => ?_)
    · refine e_iinc C d_Ru_findWays_132 rfl (by decide) rfl ?_
      refine e_goto C 41 d_Ru_findWays_135 (by decide) ?_
      refine e_drop 7 ?_
      exact hQ l c (LSm.rf l) hd (by simp only [itr]; omega)
    · exact absurd h1 (by omega)
  | succ n ih =>
    intro i d l c hPl h0 h1 hd hd1 hQ
    have hN := hPl.1
    have hG := hPl.2.1
    have hSb := W.hSb
    have hcs := copy_sim (c := c) hN.2 hG.2 W.hS
    have e0 : c_copy c (σ 17) 0 p = ys 0 p := (hcs.1.1 0 p (by decide) hp.1 hp.2).symm
    have e1 : c_copy c (σ 17) 1 p = σ 17 1 p := cp_1 ⟨hp.1, by omega⟩
    have e00 := W.hS.1.1 0 p (by decide) hp.1 hp.2
    have hKp := W.hK.1.2.1 p hp.1 (by omega)
    have hKs := W.hK.2 p hp.1 hp.2
    have hs2 := cuf_sim (f := 0) (p := p) (v := ys 0 p + i) (by decide) (by decide) hcs
    have hK2 : CK B (cu (c_copy c (σ 17)) 0 p (ys 0 p + i)) := CK_0 (CK_copy W.hK.1) (fun _ _ => by omega)
    have hmin := mxm_in (tm := d0 5) k.toNat 0 0 (fun q a b => W.htm q a (by omega)) (by omega) (by omega)
    have hmn : mins = itr (mxs (d0 5)) k.toNat 0 0 := W.hmn
    have htp : ∀ q : Int, 0 ≤ q → q < (k.toNat : Int) → 0 ≤ d0 4 q ∧ d0 4 q < σ 7 3 0 := fun q a b => W.htp q a (by omega)
    rw [itr_S] at hQ
    have hno : isS φ (σ 7) ys (d0 4) (d0 5) k.toNat p i = false → gcl (isS φ (σ 7) ys (d0 4) (d0 5) k.toNat p) (wyv p) i d = d := by
      intro z
      unfold gcl
      rw [if_neg (by rw [z]; decide)]
    have hyes : isS φ (σ 7) ys (d0 4) (d0 5) k.toNat p i = true → gcl (isS φ (σ 7) ys (d0 4) (d0 5) k.toNat p) (wyv p) i d = cu (cu d 1 0 (d 1 0 + 1)) 0 (d 1 0) (1000 * p + i) := by
      intro z
      unfold gcl
      rw [if_pos z]
      rfl
    have hisS : isS φ (σ 7) ys (d0 4) (d0 5) k.toNat p i = mdue φ (σ 7) (d0 4) (d0 5) k.toNat mins.toNat 0 (cu ys 0 p (ys 0 p + i)) := by
      unfold isS
      rw [W.hmn]
    have hW2 := WDx_gcl (q := isS φ (σ 7) ys (d0 4) (d0 5) k.toNat p) (v := wyv p) (s := i) hd
    refine e_iload C d_Ru_findWays_62 rfl ?_
    refine e_iload_n C d_Ru_findWays_64 rfl ?_
    refine e_icmp_gt C 132 d_Ru_findWays_65 (by decide) (by omega) (by omega) (fun c_65 => ?_) (fun c_65 => ?_)
    · exact absurd h1 (by omega)
    · refine e_aload_n C d_Ru_findWays_68 rfl ?_
      refine e_geto (o2 := 22) C fl_Ru_18 (by decide) rfl rfl rfl d_Ru_findWays_69 ?_
      refine e_aload_n C d_Ru_findWays_72 rfl ?_
      refine e_callVV C ok_Ca_copyFrom lk_Ru_57 (o := 22) (by decide) rfl [_] rfl rfl (Nat.le_of_ble_eq_true rfl) (by decide) (Nat.le_of_ble_eq_true rfl) d_Ru_findWays_73 (s_Ca_copyo (by decide) (by decide) (by decide)) (fun u_73 h_73 => ?_)
      subst h_73
      rw [U_17]
      refine e_aload_n C d_Ru_findWays_76 rfl ?_
      refine e_geto (o2 := 22) C fl_Ru_18 (by decide) rfl rfl rfl d_Ru_findWays_77 ?_
      refine e_geta C fl_Ru_61 (by decide) rfl rfl d_Ru_findWays_80 ?_
      refine e_iload C d_Ru_findWays_83 rfl ?_
      refine e_dup2 C d_Ru_findWays_85 rfl rfl ?_
      refine e_iald (n := 8) C (by decide) rfl (by decide) rfl rfl (by decide) (by omega) (by omega) d_Ru_findWays_86 (fun r_86 => ?_)
      try simp only [wr_so, so_at, so_so, US_13, US_w, cu_f, cu_s, ne_eq, Nat.reduceEqDiff, not_false_eq_true] at r_86 ⊢
      rw [e0] at r_86 ⊢
      refine e_iload C d_Ru_findWays_87 rfl ?_
      refine e_iadd C d_Ru_findWays_89 ?_
      refine e_iast (n := 8) C (by decide) rfl (by decide) rfl rfl (by decide) (by omega) (by omega) (by omega) d_Ru_findWays_90 ?_
      try simp only [wr_so, so_at, so_so, US_13, US_w, cu_f, cu_s, ne_eq, Nat.reduceEqDiff, not_false_eq_true]
      refine e_aload_n C d_Ru_findWays_91 rfl ?_
      refine e_aload_n C d_Ru_findWays_92 rfl ?_
      refine e_iload C d_Ru_findWays_93 rfl ?_
      refine e_callIV C ok_Ru_comesAsDue lk_Ru_64 (o := 13) (by decide) rfl [_, _] rfl rfl (Nat.le_of_ble_eq_true rfl) (by decide) (Nat.le_of_ble_eq_true rfl) d_Ru_findWays_95 (k_Ru_comesAsDue (tp := d0 4) (tm := d0 5) (k := k.toNat) hPl hs2 hK2 W.hB (by omega) htp hd.2.2.2) (fun v_95 u_95 q_95 h_95 => ?_)
      obtain ⟨h_95, l1, c1, hl1, rfl⟩ := h_95
      rw [← hisS] at h_95
      refine e_if_eq C 126 d_Ru_findWays_98 (by decide) (by rw [h_95]; split <;> omega) (fun c_98 => ?_) (fun c_98 => ?_)
      · have er : isS φ (σ 7) ys (d0 4) (d0 5) k.toNat p i = false := by
            cases q : isS φ (σ 7) ys (d0 4) (d0 5) k.toNat p i with
            | false => rfl
            | true => rw [q, if_pos rfl] at h_95; omega
        rw [hno er] at hQ hW2
        refine e_iinc C d_Ru_findWays_126 rfl (by decide) rfl ?_
        refine e_goto C 62 d_Ru_findWays_129 (by decide) ?_
        refine ih (i + 1) _ l1 c1 (hPl.same hl1) (by omega) (by omega) hW2 ?_ (fun l' c' hl' => hQ l' c' (hl1.tr hl'))
        first
          | omega
          | (rw [cu_f (by decide), cu_s]; omega)
      · have er : isS φ (σ 7) ys (d0 4) (d0 5) k.toNat p i = true := by
            cases q : isS φ (σ 7) ys (d0 4) (d0 5) k.toNat p i with
            | true => rfl
            | false => rw [q, if_neg (by decide)] at h_95; exact absurd h_95 c_98
        rw [hyes er] at hQ hW2
        refine e_aload_n C d_Ru_findWays_101 rfl ?_
        refine e_geta C fl_Ru_11 (by decide) rfl rfl d_Ru_findWays_102 ?_
        refine e_aload_n C d_Ru_findWays_105 rfl ?_
        refine e_dup C d_Ru_findWays_106 rfl ?_
        refine e_geti C fl_Ru_49 (by decide) rfl rfl d_Ru_findWays_107 (fun r_107 => ?_)
        try simp only [wr_so, so_at, so_so, US_13, US_w, cu_f, cu_s, ne_eq, Nat.reduceEqDiff, not_false_eq_true] at r_107 ⊢
        refine e_dup_x1 C d_Ru_findWays_110 rfl rfl ?_
        refine e_iconst C d_Ru_findWays_111 ?_
        refine e_iadd C d_Ru_findWays_112 ?_
        refine e_puti C fp_Ru_49 (by decide) rfl rfl (by omega) d_Ru_findWays_113 ?_
        try simp only [wr_so, so_at, so_so, US_13, US_w, cu_f, cu_s, ne_eq, Nat.reduceEqDiff, not_false_eq_true]
        refine e_sipush C d_Ru_findWays_116 (by decide) ?_
        refine e_iload C d_Ru_findWays_119 rfl ?_
        refine e_imul C d_Ru_findWays_121 ?_
        refine e_iload C d_Ru_findWays_122 rfl ?_
        refine e_iadd C d_Ru_findWays_124 ?_
        refine e_iast (n := 1601) C (by decide) rfl (by decide) rfl rfl (by decide) (by omega) (by omega) (by omega) d_Ru_findWays_125 ?_
        try simp only [wr_so, so_at, so_so, US_13, US_w, cu_f, cu_s, ne_eq, Nat.reduceEqDiff, not_false_eq_true]
        refine e_iinc C d_Ru_findWays_126 rfl (by decide) rfl ?_
        refine e_goto C 62 d_Ru_findWays_129 (by decide) ?_
        refine ih (i + 1) _ l1 c1 (hPl.same hl1) (by omega) (by omega) hW2 ?_ (fun l' c' hl' => hQ l' c' (hl1.tr hl'))
        first
          | omega
          | (rw [cu_f (by decide), cu_s]; omega)
set_option maxHeartbeats 2000000 in
theorem l_Ru_findWays1 {g : Mach} {Q : St → Prop} (C : Cx M_Ru_findWays g) (F : FinV M_Ru_findWays g Q) {σ : St} {φ : Phi} {B S most k mins : Int} {ys d0 : Cs} (W : WCx σ φ ys d0 B S most k mins) :
    ∀ (n : Nat) (i : Int) (d l c : Cs), PlanOk (σ 7) l φ → 0 ≤ i → i + n = σ 7 3 0 → WDx d0 d k → (0 ≤ d 1 0 ∧ d 1 0 ≤ 200 * i + 1 ∧ (i = 0 → d 1 0 = 0)) → (∀ l' c', LSm l l' → WDx d0 (itr (wyc φ (σ 7) ys (d0 4) (d0 5) k.toNat most) n i d) k → (0 ≤ itr (wyc φ (σ 7) ys (d0 4) (d0 5) k.toNat most) n i d 1 0 ∧ itr (wyc φ (σ 7) ys (d0 4) (d0 5) k.toNat most) n i d 1 0 ≤ 1601) → Q (UFs σ (cu (cu (cu (itr (wyc φ (σ 7) ys (d0 4) (d0 5) k.toNat most) n i d) 7 0 1) 8 0 most) 9 0 k) l' c')) → Ev g 41 [some (.inr (.inr (13, 0))), some (.inr (.inr (7, 0))), some (.inr (.inr (17, 0))), some (.inl most), some (.inl k), some (.inl mins), some (.inl i), none] [] (UFs σ d l c) := by
  intro n
  have hm := W.hm
  have hk := W.hk
  have hk2 := W.hk2
  induction n with
  | zero =>
    intro i d l c hPl h0 h1 hd hd1 hQ
    have hN := hPl.1
    have e7 : UFs σ d l c 7 = σ 7 := US_o (by decide) (by decide) (by decide)
    refine e_iload C d_Ru_findWays_41 rfl ?_
    refine e_aload_n C d_Ru_findWays_43 rfl ?_
    refine e_geti C fl_Ru_52 (by decide) rfl rfl d_Ru_findWays_44 (fun r_44 => ?_)
    try simp only [wr_so, US_13, US_w, e7] at r_44 ⊢
    refine e_icmp_ge C 138 d_Ru_findWays_47 (by decide) (by omega) (by omega) (fun c_47 => ?_) (fun c_47 => ?_)
    · refine e_aload_n C d_Ru_findWays_138 rfl ?_
      refine e_iconst C d_Ru_findWays_139 ?_
      refine e_putz C fp_Ru_35 (by decide) rfl rfl (by omega) d_Ru_findWays_140 ?_
      try simp only [wr_so, US_13, US_w, e7]
      refine e_aload_n C d_Ru_findWays_143 rfl ?_
      refine e_iload_n C d_Ru_findWays_144 rfl ?_
      refine e_puti C fp_Ru_39 (by decide) rfl rfl (by omega) d_Ru_findWays_145 ?_
      try simp only [wr_so, US_13, US_w, e7]
      refine e_aload_n C d_Ru_findWays_148 rfl ?_
      refine e_iload C d_Ru_findWays_149 rfl ?_
      refine e_puti C fp_Ru_42 (by decide) rfl rfl (by omega) d_Ru_findWays_151 ?_
      try simp only [wr_so, US_13, US_w, e7]
      refine e_vret C F rfl d_Ru_findWays_154 ?_
      exact hQ l c (LSm.rf l) hd (by simp only [itr]; omega)
    · exact absurd h1 (by omega)
  | succ n ih =>
    intro i d l c hPl h0 h1 hd hd1 hQ
    have hN := hPl.1
    have e7 : UFs σ d l c 7 = σ 7 := US_o (by decide) (by decide) (by decide)
    rw [itr_S] at hQ
    have hin : ∀ x, x = wyf i → Ev g 62 [some (.inr (.inr (13, 0))), some (.inr (.inr (7, 0))), some (.inr (.inr (17, 0))), some (.inl most), some (.inl k), some (.inl mins), some (.inl i), some (.inl x)] [] (UFs σ d l c) := by
      intro x hx
      subst hx
      have hwf : 0 ≤ wyf i ∧ wyf i ≤ 1 := by unfold wyf; split <;> omega
      have hwf2 : d 1 0 ≤ 200 * i + wyf i := by unfold wyf; split <;> omega
      refine l_Ru_findWays2 C W (p := i) (by omega) (most + 1 - wyf i).toNat (wyf i) d l c hPl (Int.le_refl _) (by omega) hd ⟨hd1.1, hwf2⟩ (fun l1 c1 hl1 hW1 hb1 => ?_)
      exact ih (i + 1) _ l1 c1 (hPl.same hl1) (by omega) (by omega) hW1 ⟨hb1.1, by omega, by omega⟩ (fun l' c' hl' => hQ l' c' (hl1.tr hl'))
    refine e_iload C d_Ru_findWays_41 rfl ?_
    refine e_aload_n C d_Ru_findWays_43 rfl ?_
    refine e_geti C fl_Ru_52 (by decide) rfl rfl d_Ru_findWays_44 (fun r_44 => ?_)
    try simp only [wr_so, US_13, US_w, e7] at r_44 ⊢
    refine e_icmp_ge C 138 d_Ru_findWays_47 (by decide) (by omega) (by omega) (fun c_47 => ?_) (fun c_47 => ?_)
    · exact absurd h1 (by omega)
    · refine e_iload C d_Ru_findWays_50 rfl ?_
      refine e_if_ne C 59 d_Ru_findWays_52 (by decide) (by omega) (fun c_52 => ?_) (fun c_52 => ?_)
      · refine e_iconst C d_Ru_findWays_59 ?_
        refine e_istore C d_Ru_findWays_60 (by decide) rfl ?_
        refine hin _ ?_
        unfold wyf
        first | rw [if_pos (by omega)] | rw [if_neg (by omega)]
      · refine e_iconst C d_Ru_findWays_55 ?_
        refine e_goto C 60 d_Ru_findWays_56 (by decide) ?_
        refine e_istore C d_Ru_findWays_60 (by decide) rfl ?_
        refine hin _ ?_
        unfold wyf
        first | rw [if_pos (by omega)] | rw [if_neg (by omega)]
/-- what is found is right -/
def rI (φ : Phi) (P ys d : Cs) : Prop := d 7 0 ≠ 0 → (0 ≤ d 1 0 ∧ d 1 0 ≤ 1601) ∧ (0 ≤ d 9 0 ∧ d 9 0 ≤ d 2 0) ∧ ∀ i, -1 ≤ i → gtell i d = tmv φ P ys (d 4) (d 5) (d 8 0) (d 9 0).toNat i
theorem k_Ru_findWays {σ : St} {φ : Phi} {B S most k : Int} {d l c ys : Cs} (hPl : PlanOk (σ 7) l φ) (hS : SIM (σ 7) (σ 17) ys) (hK : CKS B S (σ 7 3 0) (σ 17)) (hB : 0 ≤ B ∧ B < 600000000) (hSb : 0 ≤ S ∧ S ≤ 900000000) (hm : 1 ≤ most ∧ most ≤ 200) (hk : 0 ≤ k ∧ k ≤ d 2 0) (hk2 : d 2 0 ≤ 20) (htp : ∀ q : Int, 0 ≤ q → q < d 2 0 → 0 ≤ d 4 q ∧ d 4 q < σ 7 3 0) (htm : ∀ q : Int, 0 ≤ q → q < d 2 0 → 0 ≤ d 5 q ∧ d 5 q ≤ 2000) (hd : rI φ (σ 7) ys d) : CtV M_Ru_findWays [.inr (.inr (13, 0)), .inr (.inr (7, 0)), .inr (.inr (17, 0)), .inl most, .inl k] (UFs σ d l c) (fun w => ∃ d' l' c', LSm l l' ∧ w = UFs σ d' l' c' ∧ rI φ (σ 7) ys d' ∧ (d' 7 0 ≠ 0 ∧ d' 8 0 = most ∧ d' 9 0 = k) ∧ d' 2 = d 2 ∧ d' 4 = d 4 ∧ d' 5 = d 5) := by
  intro g C F
  have hN := hPl.1
  have hrest : Ev g 25 [some (.inr (.inr (13, 0))), some (.inr (.inr (7, 0))), some (.inr (.inr (17, 0))), some (.inl most), some (.inl k), none, none, none] [] (UFs σ d l c) := by
    have e13 : UFs σ d l c 13 = d := US_13 σ d l c
    refine e_aload_n C d_Ru_findWays_25 rfl ?_
    refine e_iload C d_Ru_findWays_26 rfl ?_
    refine e_callIV C ok_Ru_setDue lk_Ru_45 (o := 13) (by decide) rfl [_] rfl rfl (Nat.le_of_ble_eq_true rfl) (by decide) (Nat.le_of_ble_eq_true rfl) d_Ru_findWays_28 (k_Ru_setDue hk.1 (by rw [e13]; exact hk.2) (by rw [e13]; exact hk2) (fun q a b => by rw [e13]; have := htp q a (by omega); omega) (fun q a b => by rw [e13]; exact htm q a (by omega))) (fun v_28 u_28 q_28 h_28 => ?_)
    obtain ⟨h_28, d1, hd1, hd1b, rfl⟩ := h_28
    rw [e13] at h_28 hd1 hd1b
    refine e_istore C d_Ru_findWays_31 (by decide) rfl ?_
    refine e_aload_n C d_Ru_findWays_33 rfl ?_
    refine e_iconst C d_Ru_findWays_34 ?_
    refine e_puti C fp_Ru_49 (by decide) rfl rfl (by omega) d_Ru_findWays_35 ?_
    try simp only [wr_so, US_13, US_w, so_so, so_at]
    refine e_iconst C d_Ru_findWays_38 ?_
    refine e_istore C d_Ru_findWays_39 (by decide) rfl ?_
    have W : WCx σ φ ys d B S most k v_28 := ⟨hS, hK, hB, hSb, hm, hk, hk2, fun q a b => htp q a (by omega), fun q a b => htm q a (by omega), h_28⟩
    refine l_Ru_findWays1 C F W (σ 7 3 0).toNat 0 (cu d1 1 0 0) l c hPl (by omega) (by omega) ⟨?_, ?_, ?_, fun t a b => ?_⟩ (by rw [cu_s]; omega) (fun l1 c1 hl1 hW1 hb1 => ?_)
    · rw [← hd1 2 (by decide)]; funext q; rw [cu_f (by decide)]
    · rw [← hd1 4 (by decide)]; funext q; rw [cu_f (by decide)]
    · rw [← hd1 5 (by decide)]; funext q; rw [cu_f (by decide)]
    · rw [cu_f (by decide)]; exact hd1b t a b
    · have f2 : ∀ (x : Cs) (f : Nat), f ≠ 7 → f ≠ 8 → f ≠ 9 → cu (cu (cu x 7 0 1) 8 0 most) 9 0 k f = x f := fun x f h7 h8 h9 => by funext q; rw [cu_f h9, cu_f h8, cu_f h7]
      refine ⟨_, l1, c1, hl1, rfl, fun _ => ?_, ⟨by rw [cu_f (by decide), cu_f (by decide), cu_s]; decide, by rw [cu_f (by decide), cu_s], by rw [cu_s]⟩, ?_, ?_, ?_⟩
      · rw [f2 _ 1 (by decide) (by decide) (by decide), f2 _ 2 (by decide) (by decide) (by decide), f2 _ 4 (by decide) (by decide) (by decide), f2 _ 5 (by decide) (by decide) (by decide), cu_s, hW1.1, hW1.2.1, hW1.2.2.1]
        refine ⟨hb1, hk, fun i hi => ?_⟩
        have hr := gREL_fin (wy_REL (φ := φ) (P := σ 7) (ys := ys) (tp := d 4) (tm := d 5) (k := k.toNat) (most := most) hi (σ 7 3 0).toNat 0 (cu d1 1 0 0) (none, 0) ⟨by rw [cu_s]; omega, Or.inl ⟨rfl, by rw [cu_s], by rw [cu_s]; omega⟩⟩)
        unfold tmv
        rw [cu_f (f' := 8) (by decide), cu_s, ← hr]
        unfold gtell
        rw [f2 _ 1 (by decide) (by decide) (by decide), f2 _ 0 (by decide) (by decide) (by decide)]
      · rw [f2 _ 2 (by decide) (by decide) (by decide)]; exact hW1.1
      · rw [f2 _ 4 (by decide) (by decide) (by decide)]; exact hW1.2.1
      · rw [f2 _ 5 (by decide) (by decide) (by decide)]; exact hW1.2.2.1
  refine e_aload_n C d_Ru_findWays_0 rfl ?_
  refine e_getz C fl_Ru_35 (by decide) rfl rfl d_Ru_findWays_1 (fun r_1 => ?_)
  try simp only [US_13] at r_1 ⊢
  refine e_if_eq C 25 d_Ru_findWays_4 (by decide) (by omega) (fun c_4 => ?_) (fun c_4 => ?_)
  · exact hrest
  · refine e_aload_n C d_Ru_findWays_7 rfl ?_
    refine e_geti C fl_Ru_39 (by decide) rfl rfl d_Ru_findWays_8 (fun r_8 => ?_)
    try simp only [US_13] at r_8 ⊢
    refine e_iload_n C d_Ru_findWays_11 rfl ?_
    refine e_icmp_ne C 25 d_Ru_findWays_12 (by decide) (by omega) (by omega) (fun c_12 => ?_) (fun c_12 => ?_)
    · exact hrest
    · refine e_aload_n C d_Ru_findWays_15 rfl ?_
      refine e_geti C fl_Ru_42 (by decide) rfl rfl d_Ru_findWays_16 (fun r_16 => ?_)
      try simp only [US_13] at r_16 ⊢
      refine e_iload C d_Ru_findWays_19 rfl ?_
      refine e_icmp_ne C 25 d_Ru_findWays_21 (by decide) (by omega) (by omega) (fun c_21 => ?_) (fun c_21 => ?_)
      · exact hrest
      · refine e_vret C F rfl d_Ru_findWays_24 ?_
        exact ⟨d, l, c, LSm.rf l, rfl, hd, ⟨c_4, by omega, by omega⟩, rfl, rfl, rfl⟩
theorem k_Ru_add {σ : St} {p m : Int} (h2 : 0 ≤ σ 13 2 0 ∧ σ 13 2 0 ≤ 20) (hp : R32 p) (hm : R32 m) : CtI M_Ru_add [.inr (.inr (13, 0)), .inl p, .inl m] σ (fun r u => (σ 13 2 0 = 20 ∧ r = -1 ∧ u = σ) ∨ (σ 13 2 0 < 20 ∧ r = σ 13 2 0 ∧ u = so σ 13 (cu (cu (cu (σ 13) 4 (σ 13 2 0) p) 5 (σ 13 2 0) m) 2 0 (σ 13 2 0 + 1)))) := by
  intro g C F
  refine e_aload_n C d_Ru_add_0 rfl ?_
  refine e_geti C fl_Ru_31 (by decide) rfl rfl d_Ru_add_1 (fun r_1 => ?_)
  try simp only [wr_so, so_at, so_so, cu_f, cu_s, ne_eq, Nat.reduceEqDiff, not_false_eq_true] at r_1 ⊢
  refine e_bipush C d_Ru_add_4 (by decide) ?_
  refine e_icmp_lt C 11 d_Ru_add_6 (by decide) (by omega) (by omega) (fun c_6 => ?_) (fun c_6 => ?_)
  · refine e_aload_n C d_Ru_add_11 rfl ?_
    refine e_geta C fl_Ru_22 (by decide) rfl rfl d_Ru_add_12 ?_
    refine e_aload_n C d_Ru_add_15 rfl ?_
    refine e_geti C fl_Ru_31 (by decide) rfl rfl d_Ru_add_16 (fun r_16 => ?_)
    try simp only [wr_so, so_at, so_so, cu_f, cu_s, ne_eq, Nat.reduceEqDiff, not_false_eq_true] at r_16 ⊢
    refine e_iload_n C d_Ru_add_19 rfl ?_
    refine e_iast (n := 20) C (by decide) rfl (by decide) rfl rfl (by decide) (by omega) (by omega) (by omega) d_Ru_add_20 ?_
    try simp only [wr_so, so_at, so_so, cu_f, cu_s, ne_eq, Nat.reduceEqDiff, not_false_eq_true]
    refine e_aload_n C d_Ru_add_21 rfl ?_
    refine e_geta C fl_Ru_25 (by decide) rfl rfl d_Ru_add_22 ?_
    refine e_aload_n C d_Ru_add_25 rfl ?_
    refine e_geti C fl_Ru_31 (by decide) rfl rfl d_Ru_add_26 (fun r_26 => ?_)
    try simp only [wr_so, so_at, so_so, cu_f, cu_s, ne_eq, Nat.reduceEqDiff, not_false_eq_true] at r_26 ⊢
    refine e_iload_n C d_Ru_add_29 rfl ?_
    refine e_iast (n := 20) C (by decide) rfl (by decide) rfl rfl (by decide) (by omega) (by omega) (by omega) d_Ru_add_30 ?_
    try simp only [wr_so, so_at, so_so, cu_f, cu_s, ne_eq, Nat.reduceEqDiff, not_false_eq_true]
    refine e_aload_n C d_Ru_add_31 rfl ?_
    refine e_dup C d_Ru_add_32 rfl ?_
    refine e_geti C fl_Ru_31 (by decide) rfl rfl d_Ru_add_33 (fun r_33 => ?_)
    try simp only [wr_so, so_at, so_so, cu_f, cu_s, ne_eq, Nat.reduceEqDiff, not_false_eq_true] at r_33 ⊢
    refine e_dup_x1 C d_Ru_add_36 rfl rfl ?_
    refine e_iconst C d_Ru_add_37 ?_
    refine e_iadd C d_Ru_add_38 ?_
    refine e_puti C fp_Ru_31 (by decide) rfl rfl (by omega) d_Ru_add_39 ?_
    try simp only [wr_so, so_at, so_so, cu_f, cu_s, ne_eq, Nat.reduceEqDiff, not_false_eq_true]
    refine e_iret C F rfl d_Ru_add_42 (by omega) ?_
    exact Or.inr ⟨by omega, rfl, rfl⟩
  · refine e_iconst C d_Ru_add_9 ?_
    refine e_iret C F rfl d_Ru_add_10 (by omega) ?_
    exact Or.inl ⟨by omega, rfl, rfl⟩
theorem k_Ru_clear {σ : St} : CtV M_Ru_clear [.inr (.inr (13, 0))] σ (fun u => u = so σ 13 (cu (cu (σ 13) 2 0 0) 7 0 0)) := by
  intro g C F
  refine e_aload_n C d_Ru_clear_0 rfl ?_
  refine e_iconst C d_Ru_clear_1 ?_
  refine e_puti C fp_Ru_31 (by decide) rfl rfl (by omega) d_Ru_clear_2 ?_
  refine e_aload_n C d_Ru_clear_5 rfl ?_
  refine e_iconst C d_Ru_clear_6 ?_
  refine e_putz C fp_Ru_35 (by decide) rfl rfl (by omega) d_Ru_clear_7 ?_
  refine e_vret C F rfl d_Ru_clear_10 ?_
  simp only [wr_so, so_so, so_at]
