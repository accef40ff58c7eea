/-! the class's Tokens -/
theorem k_To_isBlank {σ : St} {c : Int} (h : R32 c) : CtI M_To_isBlank [.inl c] σ (fun r u => r = (if tkB c = true then 1 else 0) ∧ u = σ) := by
  intro g C F
  refine e_iload_n C d_To_isBlank_0 rfl ?_
  refine e_bipush C d_To_isBlank_1 (by decide) ?_
  refine e_icmp_eq C 24 d_To_isBlank_3 (by decide) (by omega) (by omega) (fun c_3 => ?_) (fun c_3 => ?_)
  · refine e_iconst C d_To_isBlank_24 ?_
    refine e_goto C 29 d_To_isBlank_25 (by decide) ?_
    refine e_zret C F rfl d_To_isBlank_29 (by omega) ?_
    refine ⟨?_, rfl⟩
    unfold tkB
    first | rw [if_pos (decide_eq_true (by omega))] | rw [if_neg (fun z => by have := of_decide_eq_true z; omega)]
  · refine e_iload_n C d_To_isBlank_6 rfl ?_
    refine e_bipush C d_To_isBlank_7 (by decide) ?_
    refine e_icmp_eq C 24 d_To_isBlank_9 (by decide) (by omega) (by omega) (fun c_9 => ?_) (fun c_9 => ?_)
    · refine e_iconst C d_To_isBlank_24 ?_
      refine e_goto C 29 d_To_isBlank_25 (by decide) ?_
      refine e_zret C F rfl d_To_isBlank_29 (by omega) ?_
      refine ⟨?_, rfl⟩
      unfold tkB
      first | rw [if_pos (decide_eq_true (by omega))] | rw [if_neg (fun z => by have := of_decide_eq_true z; omega)]
    · refine e_iload_n C d_To_isBlank_12 rfl ?_
      refine e_bipush C d_To_isBlank_13 (by decide) ?_
      refine e_icmp_eq C 24 d_To_isBlank_15 (by decide) (by omega) (by omega) (fun c_15 => ?_) (fun c_15 => ?_)
      · refine e_iconst C d_To_isBlank_24 ?_
        refine e_goto C 29 d_To_isBlank_25 (by decide) ?_
        refine e_zret C F rfl d_To_isBlank_29 (by omega) ?_
        refine ⟨?_, rfl⟩
        unfold tkB
        first | rw [if_pos (decide_eq_true (by omega))] | rw [if_neg (fun z => by have := of_decide_eq_true z; omega)]
      · refine e_iload_n C d_To_isBlank_18 rfl ?_
        refine e_bipush C d_To_isBlank_19 (by decide) ?_
        refine e_icmp_ne C 28 d_To_isBlank_21 (by decide) (by omega) (by omega) (fun c_21 => ?_) (fun c_21 => ?_)
        · refine e_iconst C d_To_isBlank_28 ?_
          refine e_zret C F rfl d_To_isBlank_29 (by omega) ?_
          refine ⟨?_, rfl⟩
          unfold tkB
          first | rw [if_pos (decide_eq_true (by omega))] | rw [if_neg (fun z => by have := of_decide_eq_true z; omega)]
        · refine e_iconst C d_To_isBlank_24 ?_
          refine e_goto C 29 d_To_isBlank_25 (by decide) ?_
          refine e_zret C F rfl d_To_isBlank_29 (by omega) ?_
          refine ⟨?_, rfl⟩
          unfold tkB
          first | rw [if_pos (decide_eq_true (by omega))] | rw [if_neg (fun z => by have := of_decide_eq_true z; omega)]
theorem k_To_isLetter {σ : St} {c : Int} (h : R32 c) : CtI M_To_isLetter [.inl c] σ (fun r u => r = (if tkL c = true then 1 else 0) ∧ u = σ) := by
  intro g C F
  refine e_iload_n C d_To_isLetter_0 rfl ?_
  refine e_bipush C d_To_isLetter_1 (by decide) ?_
  refine e_icmp_lt C 16 d_To_isLetter_3 (by decide) (by omega) (by omega) (fun c_3 => ?_) (fun c_3 => ?_)
  · refine e_iconst C d_To_isLetter_16 ?_
    refine e_zret C F rfl d_To_isLetter_17 (by omega) ?_
    refine ⟨?_, rfl⟩
    unfold tkL
    first | rw [if_pos (decide_eq_true (by omega))] | rw [if_neg (fun z => by have := of_decide_eq_true z; omega)]
  · refine e_iload_n C d_To_isLetter_6 rfl ?_
    refine e_bipush C d_To_isLetter_7 (by decide) ?_
    refine e_icmp_gt C 16 d_To_isLetter_9 (by decide) (by omega) (by omega) (fun c_9 => ?_) (fun c_9 => ?_)
    · refine e_iconst C d_To_isLetter_16 ?_
      refine e_zret C F rfl d_To_isLetter_17 (by omega) ?_
      refine ⟨?_, rfl⟩
      unfold tkL
      first | rw [if_pos (decide_eq_true (by omega))] | rw [if_neg (fun z => by have := of_decide_eq_true z; omega)]
    · refine e_iconst C d_To_isLetter_12 ?_
      refine e_goto C 17 d_To_isLetter_13 (by decide) ?_
      refine e_zret C F rfl d_To_isLetter_17 (by omega) ?_
      refine ⟨?_, rfl⟩
      unfold tkL
      first | rw [if_pos (decide_eq_true (by omega))] | rw [if_neg (fun z => by have := of_decide_eq_true z; omega)]
theorem k_To_isDigit {σ : St} {c : Int} (h : R32 c) : CtI M_To_isDigit [.inl c] σ (fun r u => r = (if tkD c = true then 1 else 0) ∧ u = σ) := by
  intro g C F
  refine e_iload_n C d_To_isDigit_0 rfl ?_
  refine e_bipush C d_To_isDigit_1 (by decide) ?_
  refine e_icmp_lt C 16 d_To_isDigit_3 (by decide) (by omega) (by omega) (fun c_3 => ?_) (fun c_3 => ?_)
  · refine e_iconst C d_To_isDigit_16 ?_
    refine e_zret C F rfl d_To_isDigit_17 (by omega) ?_
    refine ⟨?_, rfl⟩
    unfold tkD
    first | rw [if_pos (decide_eq_true (by omega))] | rw [if_neg (fun z => by have := of_decide_eq_true z; omega)]
  · refine e_iload_n C d_To_isDigit_6 rfl ?_
    refine e_bipush C d_To_isDigit_7 (by decide) ?_
    refine e_icmp_gt C 16 d_To_isDigit_9 (by decide) (by omega) (by omega) (fun c_9 => ?_) (fun c_9 => ?_)
    · refine e_iconst C d_To_isDigit_16 ?_
      refine e_zret C F rfl d_To_isDigit_17 (by omega) ?_
      refine ⟨?_, rfl⟩
      unfold tkD
      first | rw [if_pos (decide_eq_true (by omega))] | rw [if_neg (fun z => by have := of_decide_eq_true z; omega)]
    · refine e_iconst C d_To_isDigit_12 ?_
      refine e_goto C 17 d_To_isDigit_13 (by decide) ?_
      refine e_zret C F rfl d_To_isDigit_17 (by omega) ?_
      refine ⟨?_, rfl⟩
      unfold tkD
      first | rw [if_pos (decide_eq_true (by omega))] | rw [if_neg (fun z => by have := of_decide_eq_true z; omega)]
theorem k_To_isSign {σ : St} {c : Int} (h : R32 c) : CtI M_To_isSign [.inl c] σ (fun r u => r = (if tkS c = true then 1 else 0) ∧ u = σ) := by
  intro g C F
  refine e_iload_n C d_To_isSign_0 rfl ?_
  refine e_bipush C d_To_isSign_1 (by decide) ?_
  refine e_icmp_eq C 54 d_To_isSign_3 (by decide) (by omega) (by omega) (fun c_3 => ?_) (fun c_3 => ?_)
  · refine e_iconst C d_To_isSign_54 ?_
    refine e_goto C 59 d_To_isSign_55 (by decide) ?_
    refine e_zret C F rfl d_To_isSign_59 (by omega) ?_
    refine ⟨?_, rfl⟩
    unfold tkS
    first | rw [if_pos (decide_eq_true (by omega))] | rw [if_neg (fun z => by have := of_decide_eq_true z; omega)]
  · refine e_iload_n C d_To_isSign_6 rfl ?_
    refine e_bipush C d_To_isSign_7 (by decide) ?_
    refine e_icmp_eq C 54 d_To_isSign_9 (by decide) (by omega) (by omega) (fun c_9 => ?_) (fun c_9 => ?_)
    · refine e_iconst C d_To_isSign_54 ?_
      refine e_goto C 59 d_To_isSign_55 (by decide) ?_
      refine e_zret C F rfl d_To_isSign_59 (by omega) ?_
      refine ⟨?_, rfl⟩
      unfold tkS
      first | rw [if_pos (decide_eq_true (by omega))] | rw [if_neg (fun z => by have := of_decide_eq_true z; omega)]
    · refine e_iload_n C d_To_isSign_12 rfl ?_
      refine e_bipush C d_To_isSign_13 (by decide) ?_
      refine e_icmp_eq C 54 d_To_isSign_15 (by decide) (by omega) (by omega) (fun c_15 => ?_) (fun c_15 => ?_)
      · refine e_iconst C d_To_isSign_54 ?_
        refine e_goto C 59 d_To_isSign_55 (by decide) ?_
        refine e_zret C F rfl d_To_isSign_59 (by omega) ?_
        refine ⟨?_, rfl⟩
        unfold tkS
        first | rw [if_pos (decide_eq_true (by omega))] | rw [if_neg (fun z => by have := of_decide_eq_true z; omega)]
      · refine e_iload_n C d_To_isSign_18 rfl ?_
        refine e_bipush C d_To_isSign_19 (by decide) ?_
        refine e_icmp_eq C 54 d_To_isSign_21 (by decide) (by omega) (by omega) (fun c_21 => ?_) (fun c_21 => ?_)
        · refine e_iconst C d_To_isSign_54 ?_
          refine e_goto C 59 d_To_isSign_55 (by decide) ?_
          refine e_zret C F rfl d_To_isSign_59 (by omega) ?_
          refine ⟨?_, rfl⟩
          unfold tkS
          first | rw [if_pos (decide_eq_true (by omega))] | rw [if_neg (fun z => by have := of_decide_eq_true z; omega)]
        · refine e_iload_n C d_To_isSign_24 rfl ?_
          refine e_bipush C d_To_isSign_25 (by decide) ?_
          refine e_icmp_eq C 54 d_To_isSign_27 (by decide) (by omega) (by omega) (fun c_27 => ?_) (fun c_27 => ?_)
          · refine e_iconst C d_To_isSign_54 ?_
            refine e_goto C 59 d_To_isSign_55 (by decide) ?_
            refine e_zret C F rfl d_To_isSign_59 (by omega) ?_
            refine ⟨?_, rfl⟩
            unfold tkS
            first | rw [if_pos (decide_eq_true (by omega))] | rw [if_neg (fun z => by have := of_decide_eq_true z; omega)]
          · refine e_iload_n C d_To_isSign_30 rfl ?_
            refine e_bipush C d_To_isSign_31 (by decide) ?_
            refine e_icmp_eq C 54 d_To_isSign_33 (by decide) (by omega) (by omega) (fun c_33 => ?_) (fun c_33 => ?_)
            · refine e_iconst C d_To_isSign_54 ?_
              refine e_goto C 59 d_To_isSign_55 (by decide) ?_
              refine e_zret C F rfl d_To_isSign_59 (by omega) ?_
              refine ⟨?_, rfl⟩
              unfold tkS
              first | rw [if_pos (decide_eq_true (by omega))] | rw [if_neg (fun z => by have := of_decide_eq_true z; omega)]
            · refine e_iload_n C d_To_isSign_36 rfl ?_
              refine e_bipush C d_To_isSign_37 (by decide) ?_
              refine e_icmp_eq C 54 d_To_isSign_39 (by decide) (by omega) (by omega) (fun c_39 => ?_) (fun c_39 => ?_)
              · refine e_iconst C d_To_isSign_54 ?_
                refine e_goto C 59 d_To_isSign_55 (by decide) ?_
                refine e_zret C F rfl d_To_isSign_59 (by omega) ?_
                refine ⟨?_, rfl⟩
                unfold tkS
                first | rw [if_pos (decide_eq_true (by omega))] | rw [if_neg (fun z => by have := of_decide_eq_true z; omega)]
              · refine e_iload_n C d_To_isSign_42 rfl ?_
                refine e_bipush C d_To_isSign_43 (by decide) ?_
                refine e_icmp_eq C 54 d_To_isSign_45 (by decide) (by omega) (by omega) (fun c_45 => ?_) (fun c_45 => ?_)
                · refine e_iconst C d_To_isSign_54 ?_
                  refine e_goto C 59 d_To_isSign_55 (by decide) ?_
                  refine e_zret C F rfl d_To_isSign_59 (by omega) ?_
                  refine ⟨?_, rfl⟩
                  unfold tkS
                  first | rw [if_pos (decide_eq_true (by omega))] | rw [if_neg (fun z => by have := of_decide_eq_true z; omega)]
                · refine e_iload_n C d_To_isSign_48 rfl ?_
                  refine e_bipush C d_To_isSign_49 (by decide) ?_
                  refine e_icmp_ne C 58 d_To_isSign_51 (by decide) (by omega) (by omega) (fun c_51 => ?_) (fun c_51 => ?_)
                  · refine e_iconst C d_To_isSign_58 ?_
                    refine e_zret C F rfl d_To_isSign_59 (by omega) ?_
                    refine ⟨?_, rfl⟩
                    unfold tkS
                    first | rw [if_pos (decide_eq_true (by omega))] | rw [if_neg (fun z => by have := of_decide_eq_true z; omega)]
                  · refine e_iconst C d_To_isSign_54 ?_
                    refine e_goto C 59 d_To_isSign_55 (by decide) ?_
                    refine e_zret C F rfl d_To_isSign_59 (by omega) ?_
                    refine ⟨?_, rfl⟩
                    unfold tkS
                    first | rw [if_pos (decide_eq_true (by omega))] | rw [if_neg (fun z => by have := of_decide_eq_true z; omega)]
theorem bo_t {c : Bool} (h : (if c = true then (1 : Int) else 0) ≠ 0) : c = true := Decidable.byContradiction fun z => by rw [if_neg z] at h; omega
theorem bo_f {c : Bool} (h : (if c = true then (1 : Int) else 0) = 0) : ¬ c = true := fun z => by rw [if_pos z] at h; omega
theorem l_To_skipBlanks {g : Mach} {Q : Int → St → Prop} (C : Cx M_To_skipBlanks g) (F : FinI M_To_skipBlanks g Q) {σ : St} {a : Int} (hz : 0 ≤ σ 2 1 0 ∧ σ 2 1 0 ≤ 2000) :
    ∀ (n : Nat) (i : Int), (σ 2 1 0 - i).toNat = n → 0 ≤ i → i ≤ 2000 → Q (sce (σ 2 0) (σ 2 1 0) tkB i) σ → Ev g 2 [some (.inr (.inr (2, 0))), some (.inl a), some (.inl i)] [] σ := by
  intro n
  induction n with
  | zero =>
    intro i h0 h1 h2 hQ
    rw [sce_f (by omega)] at hQ
    refine e_iload_n C d_To_skipBlanks_2 rfl ?_
    refine e_aload_n C d_To_skipBlanks_3 rfl ?_
    refine e_geti C fl_To_29 (by decide) rfl rfl d_To_skipBlanks_4 (fun r_4 => ?_)
    refine e_icmp_ge C 28 d_To_skipBlanks_7 (by decide) (by omega) (by omega) (fun c_7 => ?_) (fun c_7 => ?_)
    · refine e_iload_n C d_To_skipBlanks_28 rfl ?_
      refine e_iret C F rfl d_To_skipBlanks_29 (by omega) ?_
      exact hQ
    · exact absurd h0 (by omega)
  | succ n ih =>
    intro i h0 h1 h2 hQ
    refine e_iload_n C d_To_skipBlanks_2 rfl ?_
    refine e_aload_n C d_To_skipBlanks_3 rfl ?_
    refine e_geti C fl_To_29 (by decide) rfl rfl d_To_skipBlanks_4 (fun r_4 => ?_)
    refine e_icmp_ge C 28 d_To_skipBlanks_7 (by decide) (by omega) (by omega) (fun c_7 => ?_) (fun c_7 => ?_)
    · exact absurd h0 (by omega)
    · refine e_aload_n C d_To_skipBlanks_10 rfl ?_
      refine e_geta C fl_To_39 (by decide) rfl rfl d_To_skipBlanks_11 ?_
      refine e_iload_n C d_To_skipBlanks_14 rfl ?_
      refine e_bald (n := 2000) C (by decide) rfl (by decide) rfl rfl (by decide) (by omega) (by omega) d_To_skipBlanks_15 (fun r_15 => ?_)
      refine e_callIS C ok_To_isBlank lk_To_43 [_] rfl rfl (Nat.le_of_ble_eq_true rfl) (by decide) (Nat.le_of_ble_eq_true rfl) d_To_skipBlanks_16 (k_To_isBlank (by omega)) (fun v_16 u_16 q_16 h_16 => ?_)
      obtain ⟨rfl, rfl⟩ := h_16
      refine e_if_eq C 28 d_To_skipBlanks_19 (by decide) (by split <;> omega) (fun c_19 => ?_) (fun c_19 => ?_)
      · rw [sce_f (fun z => bo_f c_19 z.2)] at hQ
        refine e_iload_n C d_To_skipBlanks_28 rfl ?_
        refine e_iret C F rfl d_To_skipBlanks_29 (by omega) ?_
        exact hQ
      · rw [sce_t (by omega) (bo_t c_19)] at hQ
        refine e_iinc C d_To_skipBlanks_22 rfl (by decide) rfl ?_
        refine e_goto C 2 d_To_skipBlanks_25 (by decide) ?_
        exact ih (i + 1) (by omega) (by omega) (by omega) hQ
theorem k_To_skipBlanks {σ : St} {a : Int} (hz : 0 ≤ σ 2 1 0 ∧ σ 2 1 0 ≤ 2000) (ha : 0 ≤ a ∧ a ≤ 2000) : CtI M_To_skipBlanks [.inr (.inr (2, 0)), .inl a] σ (fun r u => r = sce (σ 2 0) (σ 2 1 0) tkB a ∧ u = σ) := by
  intro g C F
  refine e_iload_n C d_To_skipBlanks_0 rfl ?_
  refine e_istore_n C d_To_skipBlanks_1 (by decide) rfl ?_
  exact l_To_skipBlanks C F hz _ a rfl (by omega) (by omega) ⟨rfl, rfl⟩
theorem z_cmp_eq {x y : Int} : z_cmp x y = 0 ↔ x = y := by unfold z_cmp; split <;> (try split) <;> omega
set_option maxRecDepth 100000 in
theorem wrd_r : ∀ j : Fin 14, R64 (wrdT.getD j.val 0) := by decide
theorem l_To_kindOfWord {g : Mach} {Q : Int → St → Prop} (C : Cx M_To_kindOfWord g) (F : FinI M_To_kindOfWord g Q) {σ : St} {v : Int} (hv : R64 v) :
    ∀ (n : Nat) (i : Int), 0 ≤ i → i + n = 14 → Q (if fnd (fun k => wrdT.getD k.toNat 0 == v) n i = -2 then 130 else 132 + fnd (fun k => wrdT.getD k.toNat 0 == v) n i) σ → Ev g 2 [some (.inr (.inl v)), none, some (.inl i)] [] σ := by
  intro n
  induction n with
  | zero =>
    intro i h0 h1 hQ
    refine e_iload_n C d_To_kindOfWord_2 rfl ?_
    refine e_words C w_words d_To_kindOfWord_3 ?_
    refine e_wlen C d_To_kindOfWord_6 ?_
    refine e_icmp_ge C 32 d_To_kindOfWord_7 (by decide) (by omega) (by omega) (fun c_7 => ?_) (fun c_7 => ?_)
    · refine e_sipush C d_To_kindOfWord_32 (by decide) ?_
      refine e_iret C F rfl d_To_kindOfWord_35 (by omega) ?_
      exact hQ
    · exact absurd h1 (by omega)
  | succ n ih =>
    intro i h0 h1 hQ
    have hr := wrd_r ⟨i.toNat, by omega⟩
    unfold fnd at hQ
    refine e_iload_n C d_To_kindOfWord_2 rfl ?_
    refine e_words C w_words d_To_kindOfWord_3 ?_
    refine e_wlen C d_To_kindOfWord_6 ?_
    refine e_icmp_ge C 32 d_To_kindOfWord_7 (by decide) (by omega) (by omega) (fun c_7 => ?_) (fun c_7 => ?_)
    · exact absurd h1 (by omega)
    · refine e_words C w_words d_To_kindOfWord_10 ?_
      refine e_iload_n C d_To_kindOfWord_13 rfl ?_
      refine e_wld C (by omega) (by omega) d_To_kindOfWord_14 ?_
      refine e_lload_n C d_To_kindOfWord_15 rfl ?_
      refine e_lcmp C d_To_kindOfWord_16 hr hv ?_
      refine e_if_ne C 26 d_To_kindOfWord_17 (by decide) (z_cmp_r _ _) (fun c_17 => ?_) (fun c_17 => ?_)
      · have e : ¬ wrdT.getD i.toNat 0 = v := fun z => c_17 (z_cmp_eq.mpr z)
        rw [if_neg (fun z => e (eq_of_beq z))] at hQ
        refine e_iinc C d_To_kindOfWord_26 rfl (by decide) rfl ?_
        refine e_goto C 2 d_To_kindOfWord_29 (by decide) ?_
        exact ih (i + 1) (by omega) (by omega) hQ
      · have e := z_cmp_eq.mp c_17
        rw [if_pos (beq_iff_eq.mpr e), if_neg (by omega)] at hQ
        refine e_sipush C d_To_kindOfWord_20 (by decide) ?_
        refine e_iload_n C d_To_kindOfWord_23 rfl ?_
        refine e_iadd C d_To_kindOfWord_24 ?_
        refine e_iret C F rfl d_To_kindOfWord_25 (by omega) ?_
        exact hQ
theorem k_To_kindOfWord {σ : St} {v : Int} (hv : R64 v) : CtI M_To_kindOfWord [.inr (.inl v)] σ (fun r u => r = kw v ∧ u = σ) := by
  intro g C F
  refine e_iconst C d_To_kindOfWord_0 ?_
  refine e_istore_n C d_To_kindOfWord_1 (by decide) rfl ?_
  exact l_To_kindOfWord C F hv 14 0 (by omega) (by omega) ⟨rfl, rfl⟩
theorem w2_r (b : Int → Int) (i : Int) : ∀ n : Nat, R64 (w2 b i n)
  | 0 => ⟨by show (-9223372036854775808 : Int) ≤ 0; decide, by show (0 : Int) < 9223372036854775808; decide⟩
  | n + 1 => by
    show R64 (z_lor _ _)
    unfold z_lor
    have h1 := Int64.le_toInt (Int64.ofInt (z_lshl (w2 b i n) 8) ||| Int64.ofInt (b (i + n)))
    have h2 := Int64.toInt_lt (Int64.ofInt (z_lshl (w2 b i n) 8) ||| Int64.ofInt (b (i + n)))
    exact ⟨by omega, by omega⟩
theorem l_To_addWord {g : Mach} (C : Cx M_To_addWord g) {σ : St} {a k : Int} (hz : 0 ≤ σ 2 1 0 ∧ σ 2 1 0 ≤ 2000) (ha : 0 ≤ a)
    (hE : Ev g 50 [some (.inr (.inr (6, 0))), some (.inr (.inr (2, 0))), some (.inl a), some (.inl k), some (.inl (sce (σ 2 0) (σ 2 1 0) tkL a)), some (.inr (.inl (w2 (σ 2 0) a (nln (σ 2 0) (σ 2 1 0) tkL a)))), none] [] σ) :
    ∀ (n m : Nat) (i : Int), (σ 2 1 0 - i).toNat = n → i = a + m → i ≤ σ 2 1 0 → sce (σ 2 0) (σ 2 1 0) tkL i = sce (σ 2 0) (σ 2 1 0) tkL a → Ev g 6 [some (.inr (.inr (6, 0))), some (.inr (.inr (2, 0))), some (.inl a), some (.inl k), some (.inl i), some (.inr (.inl (w2 (σ 2 0) a m))), none] [] σ := by
  intro n
  induction n with
  | zero =>
    intro m i h0 h1 h2 h3
    have h4 : sce (σ 2 0) (σ 2 1 0) tkL i = i := sce_f (by omega)
    have h5 : nln (σ 2 0) (σ 2 1 0) tkL a = m := by unfold nln; rw [← h3, h4]; omega
    rw [← h3, h4, h5] at hE
    refine e_iload C d_To_addWord_6 rfl ?_
    refine e_aload_n C d_To_addWord_8 rfl ?_
    refine e_geti C fl_To_29 (by decide) rfl rfl d_To_addWord_9 (fun r_9 => ?_)
    refine e_icmp_ge C 50 d_To_addWord_12 (by decide) (by omega) (by omega) (fun c_12 => ?_) (fun c_12 => ?_)
    · exact hE
    · exact absurd h0 (by omega)
  | succ n ih =>
    intro m i h0 h1 h2 h3
    refine e_iload C d_To_addWord_6 rfl ?_
    refine e_aload_n C d_To_addWord_8 rfl ?_
    refine e_geti C fl_To_29 (by decide) rfl rfl d_To_addWord_9 (fun r_9 => ?_)
    refine e_icmp_ge C 50 d_To_addWord_12 (by decide) (by omega) (by omega) (fun c_12 => ?_) (fun c_12 => ?_)
    · exact absurd h0 (by omega)
    · refine e_aload_n C d_To_addWord_15 rfl ?_
      refine e_geta C fl_To_39 (by decide) rfl rfl d_To_addWord_16 ?_
      refine e_iload C d_To_addWord_19 rfl ?_
      refine e_bald (n := 2000) C (by decide) rfl (by decide) rfl rfl (by decide) (by omega) (by omega) d_To_addWord_21 (fun r_21 => ?_)
      refine e_callIS C ok_To_isLetter lk_To_47 [_] rfl rfl (Nat.le_of_ble_eq_true rfl) (by decide) (Nat.le_of_ble_eq_true rfl) d_To_addWord_22 (k_To_isLetter (by omega)) (fun v_22 u_22 q_22 h_22 => ?_)
      obtain ⟨rfl, e_22⟩ := h_22
      rw [e_22]
      refine e_if_eq C 50 d_To_addWord_25 (by decide) (by split <;> omega) (fun c_25 => ?_) (fun c_25 => ?_)
      · have h4 : sce (σ 2 0) (σ 2 1 0) tkL i = i := sce_f (fun z => bo_f c_25 z.2)
        have h5 : nln (σ 2 0) (σ 2 1 0) tkL a = m := by unfold nln; rw [← h3, h4]; omega
        rw [← h3, h4, h5] at hE
        exact hE
      · have h4 := sce_t (b := σ 2 0) (q := tkL) (show i < σ 2 1 0 by omega) (bo_t c_25)
        refine e_lload C d_To_addWord_28 rfl ?_
        refine e_bipush C d_To_addWord_30 (by decide) ?_
        refine e_lshl C d_To_addWord_32 ?_
        refine e_aload_n C d_To_addWord_33 rfl ?_
        refine e_geta C fl_To_39 (by decide) rfl rfl d_To_addWord_34 ?_
        refine e_iload C d_To_addWord_37 rfl ?_
        refine e_bald (n := 2000) C (by decide) rfl (by decide) rfl rfl (by decide) (by omega) (by omega) d_To_addWord_39 (fun r_39 => ?_)
        refine e_i2l C d_To_addWord_40 (by omega) ?_
        refine e_lor C d_To_addWord_41 ?_
        refine e_lstore C d_To_addWord_42 (by decide) rfl ?_
        refine e_iinc C d_To_addWord_44 rfl (by decide) rfl ?_
        refine e_goto C 6 d_To_addWord_47 (by decide) ?_
        have := ih (m + 1) (i + 1) (by omega) (by omega) (by omega) (by rw [← h4]; exact h3)
        have e : w2 (σ 2 0) a (m + 1) = z_lor (z_lshl (w2 (σ 2 0) a m) 8) (σ 2 0 i) := by rw [h1]; rfl
        rw [e] at this
        exact this
theorem k_To_addWord {σ : St} {a k : Int} (hz : 0 ≤ σ 2 1 0 ∧ σ 2 1 0 ≤ 2000) (ha : 0 ≤ a ∧ a < σ 2 1 0) (hk : 0 ≤ k ∧ k ≤ 400) : CtI M_To_addWord [.inr (.inr (6, 0)), .inr (.inr (2, 0)), .inl a, .inl k] σ (fun r u => r = sce (σ 2 0) (σ 2 1 0) tkL a ∧ u = so σ 6 (cu (cu (σ 6) 3 k (w2 (σ 2 0) a (nln (σ 2 0) (σ 2 1 0) tkL a))) 0 k (if 8 < nln (σ 2 0) (σ 2 1 0) tkL a then 129 else kw (w2 (σ 2 0) a (nln (σ 2 0) (σ 2 1 0) tkL a))))) := by
  intro g C F
  have hr := w2_r (σ 2 0) a (nln (σ 2 0) (σ 2 1 0) tkL a)
  have h1 := sce_ge (σ 2 0) (σ 2 1 0) tkL a
  have h2 := sce_le (b := σ 2 0) (q := tkL) (show a ≤ σ 2 1 0 by omega)
  have hn : nln (σ 2 0) (σ 2 1 0) tkL a = (sce (σ 2 0) (σ 2 1 0) tkL a - a).toNat := rfl
  refine e_iload_n C d_To_addWord_0 rfl ?_
  refine e_istore C d_To_addWord_1 (by decide) rfl ?_
  refine e_lconst (z := 0) C d_To_addWord_3 (by decide) ?_
  refine e_lstore C d_To_addWord_4 (by decide) rfl ?_
  refine l_To_addWord C hz ha.1 ?_ _ 0 a rfl (by omega) (by omega) rfl
  refine e_aload_n C d_To_addWord_50 rfl ?_
  refine e_geta C fl_To_21 (by decide) rfl rfl d_To_addWord_51 ?_
  refine e_iload_n C d_To_addWord_54 rfl ?_
  refine e_lload C d_To_addWord_55 rfl ?_
  refine e_last (n := 402) C (by decide) rfl (by decide) rfl rfl (by decide) (by omega) (by omega) hr d_To_addWord_57 ?_
  try simp only [so_at, so_so, wr_so]
  refine e_aload_n C d_To_addWord_58 rfl ?_
  refine e_geta C fl_To_11 (by decide) rfl rfl d_To_addWord_59 ?_
  refine e_iload_n C d_To_addWord_62 rfl ?_
  refine e_iload C d_To_addWord_63 rfl ?_
  refine e_iload_n C d_To_addWord_65 rfl ?_
  refine e_isub C d_To_addWord_66 ?_
  refine e_bipush C d_To_addWord_67 (by decide) ?_
  refine e_icmp_le C 78 d_To_addWord_69 (by decide) (by omega) (by omega) (fun c_69 => ?_) (fun c_69 => ?_)
  · refine e_lload C d_To_addWord_78 rfl ?_
    refine e_callIS C ok_To_kindOfWord lk_To_62 [_] rfl rfl (Nat.le_of_ble_eq_true rfl) (by decide) (Nat.le_of_ble_eq_true rfl) d_To_addWord_80 (k_To_kindOfWord hr) (fun v_80 u_80 q_80 h_80 => ?_)
    obtain ⟨rfl, rfl⟩ := h_80
    refine e_iast (n := 402) C (by decide) rfl (by decide) rfl rfl (by decide) (by omega) (by omega) (by omega) d_To_addWord_83 ?_
    try simp only [so_at, so_so, wr_so]
    refine e_iload C d_To_addWord_84 rfl ?_
    refine e_iret C F rfl d_To_addWord_86 (by omega) ?_
    refine ⟨rfl, ?_⟩
    first | rw [if_pos (by omega)] | rw [if_neg (by omega)]
  · refine e_sipush C d_To_addWord_72 (by decide) ?_
    refine e_goto C 83 d_To_addWord_75 (by decide) ?_
    refine e_iast (n := 402) C (by decide) rfl (by decide) rfl rfl (by decide) (by omega) (by omega) (by omega) d_To_addWord_83 ?_
    try simp only [so_at, so_so, wr_so]
    refine e_iload C d_To_addWord_84 rfl ?_
    refine e_iret C F rfl d_To_addWord_86 (by omega) ?_
    refine ⟨rfl, ?_⟩
    first | rw [if_pos (by omega)] | rw [if_neg (by omega)]
theorem l_To_addNumber {g : Mach} (C : Cx M_To_addNumber g) {σ : St} {a k : Int} (hz : 0 ≤ σ 2 1 0 ∧ σ 2 1 0 ≤ 2000) (ha : 0 ≤ a)
    (hE : Ev g 52 [some (.inr (.inr (6, 0))), some (.inr (.inr (2, 0))), some (.inl a), some (.inl k), some (.inl (sce (σ 2 0) (σ 2 1 0) tkD a)), some (.inl (wn (σ 2 0) a (nln (σ 2 0) (σ 2 1 0) tkD a)))] [] σ) :
    ∀ (n m : Nat) (i : Int), (σ 2 1 0 - i).toNat = n → i = a + m → i ≤ σ 2 1 0 → sce (σ 2 0) (σ 2 1 0) tkD i = sce (σ 2 0) (σ 2 1 0) tkD a → Ev g 6 [some (.inr (.inr (6, 0))), some (.inr (.inr (2, 0))), some (.inl a), some (.inl k), some (.inl i), some (.inl (wn (σ 2 0) a m))] [] σ := by
  intro n
  induction n with
  | zero =>
    intro m i h0 h1 h2 h3
    have h4 : sce (σ 2 0) (σ 2 1 0) tkD i = i := sce_f (by omega)
    have h5 : nln (σ 2 0) (σ 2 1 0) tkD a = m := by unfold nln; rw [← h3, h4]; omega
    rw [← h3, h4, h5] at hE
    refine e_iload C d_To_addNumber_6 rfl ?_
    refine e_aload_n C d_To_addNumber_8 rfl ?_
    refine e_geti C fl_To_29 (by decide) rfl rfl d_To_addNumber_9 (fun r_9 => ?_)
    refine e_icmp_ge C 52 d_To_addNumber_12 (by decide) (by omega) (by omega) (fun c_12 => ?_) (fun c_12 => ?_)
    · exact hE
    · exact absurd h0 (by omega)
  | succ n ih =>
    intro m i h0 h1 h2 h3
    refine e_iload C d_To_addNumber_6 rfl ?_
    refine e_aload_n C d_To_addNumber_8 rfl ?_
    refine e_geti C fl_To_29 (by decide) rfl rfl d_To_addNumber_9 (fun r_9 => ?_)
    refine e_icmp_ge C 52 d_To_addNumber_12 (by decide) (by omega) (by omega) (fun c_12 => ?_) (fun c_12 => ?_)
    · exact absurd h0 (by omega)
    · refine e_aload_n C d_To_addNumber_15 rfl ?_
      refine e_geta C fl_To_39 (by decide) rfl rfl d_To_addNumber_16 ?_
      refine e_iload C d_To_addNumber_19 rfl ?_
      refine e_bald (n := 2000) C (by decide) rfl (by decide) rfl rfl (by decide) (by omega) (by omega) d_To_addNumber_21 (fun r_21 => ?_)
      refine e_callIS C ok_To_isDigit lk_To_53 [_] rfl rfl (Nat.le_of_ble_eq_true rfl) (by decide) (Nat.le_of_ble_eq_true rfl) d_To_addNumber_22 (k_To_isDigit (by omega)) (fun v_22 u_22 q_22 h_22 => ?_)
      obtain ⟨rfl, e_22⟩ := h_22
      rw [e_22]
      refine e_if_eq C 52 d_To_addNumber_25 (by decide) (by split <;> omega) (fun c_25 => ?_) (fun c_25 => ?_)
      · have h4 : sce (σ 2 0) (σ 2 1 0) tkD i = i := sce_f (fun z => bo_f c_25 z.2)
        have h5 : nln (σ 2 0) (σ 2 1 0) tkD a = m := by unfold nln; rw [← h3, h4]; omega
        rw [← h3, h4, h5] at hE
        exact hE
      · have h4 := sce_t (b := σ 2 0) (q := tkD) (show i < σ 2 1 0 by omega) (bo_t c_25)
        refine e_iload C d_To_addNumber_28 rfl ?_
        refine e_bipush C d_To_addNumber_30 (by decide) ?_
        refine e_imul C d_To_addNumber_32 ?_
        refine e_aload_n C d_To_addNumber_33 rfl ?_
        refine e_geta C fl_To_39 (by decide) rfl rfl d_To_addNumber_34 ?_
        refine e_iload C d_To_addNumber_37 rfl ?_
        refine e_bald (n := 2000) C (by decide) rfl (by decide) rfl rfl (by decide) (by omega) (by omega) d_To_addNumber_39 (fun r_39 => ?_)
        refine e_iadd C d_To_addNumber_40 ?_
        refine e_bipush C d_To_addNumber_41 (by decide) ?_
        refine e_isub C d_To_addNumber_43 ?_
        refine e_istore C d_To_addNumber_44 (by decide) rfl ?_
        refine e_iinc C d_To_addNumber_46 rfl (by decide) rfl ?_
        refine e_goto C 6 d_To_addNumber_49 (by decide) ?_
        have := ih (m + 1) (i + 1) (by omega) (by omega) (by omega) (by rw [← h4]; exact h3)
        have e : wn (σ 2 0) a (m + 1) = wn (σ 2 0) a m * 10 + σ 2 0 i - 48 := by rw [h1]; rfl
        rw [e] at this
        exact this
theorem k_To_addNumber {σ : St} {a k : Int} (hz : 0 ≤ σ 2 1 0 ∧ σ 2 1 0 ≤ 2000) (ha : 0 ≤ a ∧ a < σ 2 1 0) (hk : 0 ≤ k ∧ k ≤ 400) : CtI M_To_addNumber [.inr (.inr (6, 0)), .inr (.inr (2, 0)), .inl a, .inl k] σ (fun r u => r = sce (σ 2 0) (σ 2 1 0) tkD a ∧ u = so σ 6 (cu (cu (σ 6) 2 k (n32 (wn (σ 2 0) a (nln (σ 2 0) (σ 2 1 0) tkD a)))) 0 k (if 4 < nln (σ 2 0) (σ 2 1 0) tkD a then 129 else 131))) := by
  intro g C F
  have h1 := sce_ge (σ 2 0) (σ 2 1 0) tkD a
  have h2 := sce_le (b := σ 2 0) (q := tkD) (show a ≤ σ 2 1 0 by omega)
  have hn : nln (σ 2 0) (σ 2 1 0) tkD a = (sce (σ 2 0) (σ 2 1 0) tkD a - a).toNat := rfl
  refine e_iload_n C d_To_addNumber_0 rfl ?_
  refine e_istore C d_To_addNumber_1 (by decide) rfl ?_
  refine e_iconst C d_To_addNumber_3 ?_
  refine e_istore C d_To_addNumber_4 (by decide) rfl ?_
  refine l_To_addNumber C hz ha.1 ?_ _ 0 a rfl (by omega) (by omega) rfl
  refine e_aload_n C d_To_addNumber_52 rfl ?_
  refine e_geta C fl_To_18 (by decide) rfl rfl d_To_addNumber_53 ?_
  refine e_iload_n C d_To_addNumber_56 rfl ?_
  refine e_iload C d_To_addNumber_57 rfl ?_
  refine e_topi (n32_eq _) ?_
  refine e_iast (n := 402) C (by decide) rfl (by decide) rfl rfl (by decide) (by omega) (by omega) (n32_r _) d_To_addNumber_59 ?_
  try simp only [so_at, so_so, wr_so]
  refine e_aload_n C d_To_addNumber_60 rfl ?_
  refine e_geta C fl_To_11 (by decide) rfl rfl d_To_addNumber_61 ?_
  refine e_iload_n C d_To_addNumber_64 rfl ?_
  refine e_iload C d_To_addNumber_65 rfl ?_
  refine e_iload_n C d_To_addNumber_67 rfl ?_
  refine e_isub C d_To_addNumber_68 ?_
  refine e_iconst C d_To_addNumber_69 ?_
  refine e_icmp_le C 79 d_To_addNumber_70 (by decide) (by omega) (by omega) (fun c_70 => ?_) (fun c_70 => ?_)
  · refine e_sipush C d_To_addNumber_79 (by decide) ?_
    refine e_iast (n := 402) C (by decide) rfl (by decide) rfl rfl (by decide) (by omega) (by omega) (by omega) d_To_addNumber_82 ?_
    try simp only [so_at, so_so, wr_so]
    refine e_iload C d_To_addNumber_83 rfl ?_
    refine e_iret C F rfl d_To_addNumber_85 (by omega) ?_
    refine ⟨rfl, ?_⟩
    first | rw [if_pos (by omega)] | rw [if_neg (by omega)]
  · refine e_sipush C d_To_addNumber_73 (by decide) ?_
    refine e_goto C 82 d_To_addNumber_76 (by decide) ?_
    refine e_iast (n := 402) C (by decide) rfl (by decide) rfl rfl (by decide) (by omega) (by omega) (by omega) d_To_addNumber_82 ?_
    try simp only [so_at, so_so, wr_so]
    refine e_iload C d_To_addNumber_83 rfl ?_
    refine e_iret C F rfl d_To_addNumber_85 (by omega) ?_
    refine ⟨rfl, ?_⟩
    first | rw [if_pos (by omega)] | rw [if_neg (by omega)]
def tkO (b : Int → Int) (z a k : Int) (d d' : Cs) : Prop := d' 0 k = tkK b z a ∧ d' 1 k = a ∧ (tkK b z a = 131 → d' 2 k = wn b a (nln b z tkD a)) ∧ (tkK b z a = 130 → d' 3 k = w2 b a (nln b z tkL a)) ∧ ∀ f j, j ≠ k → d' f j = d f j
set_option maxHeartbeats 1000000 in
theorem k_To_addToken {σ : St} {d : Cs} {a k : Int} (hz : 0 ≤ σ 2 1 0 ∧ σ 2 1 0 ≤ 2000) (ha : 0 ≤ a ∧ a < σ 2 1 0) (hk : 0 ≤ k ∧ k ≤ 400) : CtI M_To_addToken [.inr (.inr (6, 0)), .inr (.inr (2, 0)), .inl a, .inl k] (so σ 6 d) (fun r u => r = tkN (σ 2 0) (σ 2 1 0) a ∧ ∃ d', u = so σ 6 d' ∧ tkO (σ 2 0) (σ 2 1 0) a k d d') := by
  intro g C F
  have e2 : ∀ d', so σ 6 d' 2 = σ 2 := fun d' => so_ne (by decide)
  unfold tkN tkO tkK at F
  refine e_aload_n C d_To_addToken_0 rfl ?_
  refine e_geta C fl_To_15 (by decide) rfl rfl d_To_addToken_1 ?_
  refine e_iload_n C d_To_addToken_4 rfl ?_
  refine e_iload_n C d_To_addToken_5 rfl ?_
  refine e_iast (n := 402) C (by decide) rfl (by decide) rfl rfl (by decide) (by omega) (by omega) (by omega) d_To_addToken_6 ?_
  try simp only [so_at, so_so, wr_so, e2]
  refine e_aload_n C d_To_addToken_7 rfl ?_
  refine e_geta C fl_To_39 (by decide) rfl rfl d_To_addToken_8 ?_
  refine e_iload_n C d_To_addToken_11 rfl ?_
  refine e_bald (n := 2000) C (by decide) rfl (by decide) rfl rfl (by decide) (by omega) (by omega) d_To_addToken_12 (fun r_12 => ?_)
  try simp only [so_at, so_so, wr_so, e2] at r_12 ⊢
  refine e_istore C d_To_addToken_13 (by decide) rfl ?_
  refine e_iload C d_To_addToken_15 rfl ?_
  refine e_callIS C ok_To_isLetter lk_To_47 [_] rfl rfl (Nat.le_of_ble_eq_true rfl) (by decide) (Nat.le_of_ble_eq_true rfl) d_To_addToken_17 (k_To_isLetter (by omega)) (fun v_17 u_17 q_17 h_17 => ?_)
  obtain ⟨rfl, e_17⟩ := h_17
  rw [e_17]
  refine e_if_eq C 31 d_To_addToken_20 (by decide) (by split <;> omega) (fun c_20 => ?_) (fun c_20 => ?_)
  · have hl := bo_f c_20
    rw [if_neg hl, if_neg hl] at F
    refine e_iload C d_To_addToken_31 rfl ?_
    refine e_callIS C ok_To_isDigit lk_To_53 [_] rfl rfl (Nat.le_of_ble_eq_true rfl) (by decide) (Nat.le_of_ble_eq_true rfl) d_To_addToken_33 (k_To_isDigit (by omega)) (fun v_33 u_33 q_33 h_33 => ?_)
    obtain ⟨rfl, e_33⟩ := h_33
    rw [e_33]
    refine e_if_eq C 47 d_To_addToken_36 (by decide) (by split <;> omega) (fun c_36 => ?_) (fun c_36 => ?_)
    · have hd := bo_f c_36
      rw [if_neg hd, if_neg hd] at F
      refine e_aload_n C d_To_addToken_47 rfl ?_
      refine e_geta C fl_To_11 (by decide) rfl rfl d_To_addToken_48 ?_
      refine e_iload_n C d_To_addToken_51 rfl ?_
      refine e_iload C d_To_addToken_52 rfl ?_
      refine e_callIS C ok_To_isSign lk_To_59 [_] rfl rfl (Nat.le_of_ble_eq_true rfl) (by decide) (Nat.le_of_ble_eq_true rfl) d_To_addToken_54 (k_To_isSign (by omega)) (fun v_54 u_54 q_54 h_54 => ?_)
      obtain ⟨rfl, e_54⟩ := h_54
      rw [e_54]
      refine e_if_eq C 65 d_To_addToken_57 (by decide) (by split <;> omega) (fun c_57 => ?_) (fun c_57 => ?_)
      · have hs := bo_f c_57
        rw [if_neg hs] at F
        refine e_sipush C d_To_addToken_65 (by decide) ?_
        refine e_iast (n := 402) C (by decide) rfl (by decide) rfl rfl (by decide) (by omega) (by omega) (by omega) d_To_addToken_68 ?_
        try simp only [so_at, so_so, wr_so, e2]
        refine e_iload_n C d_To_addToken_69 rfl ?_
        refine e_iconst C d_To_addToken_70 ?_
        refine e_iadd C d_To_addToken_71 ?_
        refine e_iret C F rfl d_To_addToken_72 (by omega) ?_
        refine ⟨rfl, _, rfl, cu_s _ _ _ _, ?_, fun z => ?_, fun z => ?_, fun f j hj => ?_⟩
        · rw [cu_f (by decide), cu_s]
        · first | (have := of_decide_eq_true hs; omega) | omega
        · first | (have := of_decide_eq_true hs; omega) | omega
        · simp only [cu_if]; rw [if_neg (fun z => hj z.2), if_neg (fun z => hj z.2)]
      · have hs := bo_t c_57
        rw [if_pos hs] at F
        refine e_iload C d_To_addToken_60 rfl ?_
        refine e_goto C 68 d_To_addToken_62 (by decide) ?_
        refine e_iast (n := 402) C (by decide) rfl (by decide) rfl rfl (by decide) (by omega) (by omega) (by omega) d_To_addToken_68 ?_
        try simp only [so_at, so_so, wr_so, e2]
        refine e_iload_n C d_To_addToken_69 rfl ?_
        refine e_iconst C d_To_addToken_70 ?_
        refine e_iadd C d_To_addToken_71 ?_
        refine e_iret C F rfl d_To_addToken_72 (by omega) ?_
        refine ⟨rfl, _, rfl, cu_s _ _ _ _, ?_, fun z => ?_, fun z => ?_, fun f j hj => ?_⟩
        · rw [cu_f (by decide), cu_s]
        · first | (have := of_decide_eq_true hs; omega) | omega
        · first | (have := of_decide_eq_true hs; omega) | omega
        · simp only [cu_if]; rw [if_neg (fun z => hj z.2), if_neg (fun z => hj z.2)]
    · have hd := bo_t c_36
      rw [if_pos hd, if_pos hd] at F
      refine e_aload_n C d_To_addToken_39 rfl ?_
      refine e_aload_n C d_To_addToken_40 rfl ?_
      refine e_iload_n C d_To_addToken_41 rfl ?_
      refine e_iload_n C d_To_addToken_42 rfl ?_
      refine e_callIV C ok_To_addNumber lk_To_56 (o := 6) (by decide) rfl [_, _, _] rfl rfl (Nat.le_of_ble_eq_true rfl) (by decide) (Nat.le_of_ble_eq_true rfl) d_To_addToken_43 (k_To_addNumber (by rw [e2]; exact hz) (by rw [e2]; exact ha) hk) (fun v_43 u_43 q_43 h_43 => ?_)
      obtain ⟨rfl, rfl⟩ := h_43
      rw [e2, so_at, so_so] at *
      refine e_iret C F rfl d_To_addToken_46 (by assumption) ?_
      refine ⟨rfl, _, rfl, cu_s _ _ _ _, ?_, fun z => ?_, fun z => ?_, fun f j hj => ?_⟩
      · rw [cu_f (by decide), cu_f (by decide), cu_s]
      · have w : ¬ 4 < nln (σ 2 0) (σ 2 1 0) tkD a := fun w => by rw [if_pos w] at z; omega
        have := wn_4 (b := σ 2 0) (i := a) (n := nln (σ 2 0) (σ 2 1 0) tkD a) (by omega) nln_is
        rw [cu_f (by decide), cu_s, n32_id ⟨by omega, by omega⟩]
      · split at z <;> omega
      · simp only [cu_if]; rw [if_neg (fun z => hj z.2), if_neg (fun z => hj z.2), if_neg (fun z => hj z.2)]
  · have hl := bo_t c_20
    rw [if_pos hl, if_pos hl] at F
    refine e_aload_n C d_To_addToken_23 rfl ?_
    refine e_aload_n C d_To_addToken_24 rfl ?_
    refine e_iload_n C d_To_addToken_25 rfl ?_
    refine e_iload_n C d_To_addToken_26 rfl ?_
    refine e_callIV C ok_To_addWord lk_To_50 (o := 6) (by decide) rfl [_, _, _] rfl rfl (Nat.le_of_ble_eq_true rfl) (by decide) (Nat.le_of_ble_eq_true rfl) d_To_addToken_27 (k_To_addWord (by rw [e2]; exact hz) (by rw [e2]; exact ha) hk) (fun v_27 u_27 q_27 h_27 => ?_)
    obtain ⟨rfl, rfl⟩ := h_27
    rw [e2, so_at, so_so] at *
    refine e_iret C F rfl d_To_addToken_30 (by assumption) ?_
    refine ⟨rfl, _, rfl, cu_s _ _ _ _, ?_, fun z => ?_, fun _ => ?_, fun f j hj => ?_⟩
    · rw [cu_f (by decide), cu_f (by decide), cu_s]
    · exfalso
      by_cases w : 8 < nln (σ 2 0) (σ 2 1 0) tkL a
      · rw [if_pos w] at z; omega
      · rw [if_neg w] at z
        have := (kw_km (b := σ 2 0) (i := a) (n := nln (σ 2 0) (σ 2 1 0) tkL a) (by omega) nln_is).2
        omega
    · rw [cu_f (by decide), cu_s]
    · simp only [cu_if]; rw [if_neg (fun z => hj z.2), if_neg (fun z => hj z.2), if_neg (fun z => hj z.2)]
/-- the class's tokens are the table's, as far as the text goes -/
def TC (T : Tab) (d : Cs) : Prop := ∀ k, 0 ≤ k → k ≤ 400 → (k = 0 ∨ T.1 (k - 1) ≠ 128) → d 0 k = T.1 k ∧ d 1 k = T.2.1 k ∧ (T.1 k = 131 → d 2 k = T.2.2.1 k) ∧ (T.1 k = 130 → d 3 k = T.2.2.2.1 k)
def TKd (b : Int → Int) (z n : Int) (d : Cs) : Prop := ∀ j, 0 ≤ j → j < n → d 0 j = tK b z j ∧ d 1 j = tP b z j ∧ (tK b z j = 131 → d 2 j = tV b z j) ∧ (tK b z j = 130 → d 3 j = tA b z j)
theorem TKd.step {b : Int → Int} {z n : Int} {d d' : Cs} (h : TKd b z n d) (hn : 0 ≤ n) (hp : tP b z n < z) (ho : tkO b z (tP b z n) n d d') : TKd b z (n + 1) d' := by
  obtain ⟨o1, o2, o3, o4, o5⟩ := ho
  have e : tK b z n = tkK b z (tP b z n) := by unfold tK; rw [if_pos hp]
  intro j j0 j1
  by_cases w : j = n
  · subst w
    rw [e]
    exact ⟨o1, o2, o3, o4⟩
  · rw [o5 0 j w, o5 1 j w, o5 2 j w, o5 3 j w]
    exact h j j0 (by omega)
theorem tP_late {b : Int → Int} {z j k : Int} (hj : 0 ≤ j) (hjk : j ≤ k) (h : z ≤ tP b z j) : tP b z k = tP b z j := by
  have := tps_abs (b := b) (z := z) (k := j.toNat) h (k.toNat - j.toNat)
  rw [show j.toNat + (k.toNat - j.toNat) = k.toNat by omega] at this
  exact this
theorem TC_end {b : Int → Int} {z i : Int} {d d' : Cs} (h : TKd b z i d) (hi : 0 ≤ i ∧ i ≤ 401) (hz : 0 ≤ z) (he : i = 401 ∨ z ≤ tP b z i) (d0 : d' 0 i = 128) (d1 : d' 1 i = z) (hf : ∀ f j, j ≠ i → d' f j = d f j) : TC (tbl b z) d' := by
  intro k k0 k1 hl
  by_cases w : k < i
  · rw [hf 0 k (by omega), hf 1 k (by omega), hf 2 k (by omega), hf 3 k (by omega)]
    exact h k k0 w
  · have hp := tps_in (b := b) hz i.toNat
    have hp : tP b z i ≤ z := hp.2
    have he : z ≤ tP b z i := by omega
    by_cases w2 : k = i
    · subst w2
      have e : tK b z k = 128 := by unfold tK; rw [if_neg (by omega)]
      refine ⟨d0.trans e.symm, d1.trans ?_, fun z => ?_, fun z => ?_⟩
      · show z = tP b z k
        omega
      · have z : tK b _ k = 131 := z
        omega
      · have z : tK b _ k = 130 := z
        omega
    · exfalso
      rcases hl with hl | hl
      · omega
      · have hl := (tK_end b z (k - 1)).mp hl
        have := tP_late (b := b) (z := z) (j := i) (k := k - 1) hi.1 (by omega) he
        omega
theorem l_To_cut {g : Mach} {Q : St → Prop} (C : Cx M_To_cut g) (F : FinV M_To_cut g Q) {σ : St} (hz : 0 ≤ σ 2 1 0 ∧ σ 2 1 0 ≤ 2000) (hQ : ∀ d', TC (tbl (σ 2 0) (σ 2 1 0)) d' → Q (so σ 6 d')) :
    ∀ (n : Nat) (i a : Int) (d : Cs), 0 ≤ i → i + n = 401 → (0 ≤ a ∧ a ≤ σ 2 1 0) → sce (σ 2 0) (σ 2 1 0) tkB a = tP (σ 2 0) (σ 2 1 0) i → TKd (σ 2 0) (σ 2 1 0) i d → Ev g 7 [some (.inr (.inr (6, 0))), some (.inr (.inr (2, 0))), some (.inl a), some (.inl i), some (.inl i)] [] (so σ 6 d) := by
  have e2 : ∀ d', so σ 6 d' 2 = σ 2 := fun d' => so_ne (by decide)
  intro n
  induction n with
  | zero =>
    intro i a d h0 h1 ha hs hT
    have hi : i = 401 := by omega
    subst hi
    refine e_iload C d_To_cut_7 rfl ?_
    refine e_sipush C d_To_cut_9 (by decide) ?_
    refine e_icmp_gt C 49 d_To_cut_12 (by decide) (by omega) (by omega) (fun c_12 => ?_) (fun c_12 => ?_)
    · refine e_aload_n C d_To_cut_49 rfl ?_
      refine e_geta C fl_To_11 (by decide) rfl rfl d_To_cut_50 ?_
      refine e_iload_n C d_To_cut_53 rfl ?_
      refine e_sipush C d_To_cut_54 (by decide) ?_
      refine e_iast (n := 402) C (by decide) rfl (by decide) rfl rfl (by decide) (by omega) (by omega) (by omega) d_To_cut_57 ?_
      try simp only [so_at, so_so, wr_so, e2]
      refine e_aload_n C d_To_cut_58 rfl ?_
      refine e_geta C fl_To_15 (by decide) rfl rfl d_To_cut_59 ?_
      refine e_iload_n C d_To_cut_62 rfl ?_
      refine e_aload_n C d_To_cut_63 rfl ?_
      refine e_geti C fl_To_29 (by decide) rfl rfl d_To_cut_64 (fun r_64 => ?_)
      try simp only [so_at, so_so, wr_so, e2] at r_64 ⊢
      refine e_iast (n := 402) C (by decide) rfl (by decide) rfl rfl (by decide) (by omega) (by omega) (by omega) d_To_cut_67 ?_
      try simp only [so_at, so_so, wr_so, e2]
      refine e_vret C F rfl d_To_cut_68 ?_
      refine hQ _ (TC_end hT (by omega) hz.1 (Or.inl rfl) (by rw [cu_f (by decide), cu_s]) (cu_s _ _ _ _) (fun f j hj => ?_))
      simp only [cu_if]; rw [if_neg (fun z => hj z.2), if_neg (fun z => hj z.2)]
    · exact absurd c_12 (by decide)
  | succ n ih =>
    intro i a d h0 h1 ha hs hT
    refine e_iload C d_To_cut_7 rfl ?_
    refine e_sipush C d_To_cut_9 (by decide) ?_
    refine e_icmp_gt C 49 d_To_cut_12 (by decide) (by omega) (by omega) (fun c_12 => ?_) (fun c_12 => ?_)
    · exact absurd h1 (by omega)
    · refine e_aload_n C d_To_cut_15 rfl ?_
      refine e_iload_n C d_To_cut_16 rfl ?_
      refine e_callIS C ok_To_skipBlanks lk_To_25 [_, _] rfl rfl (Nat.le_of_ble_eq_true rfl) (by decide) (Nat.le_of_ble_eq_true rfl) d_To_cut_17 (k_To_skipBlanks (by rw [e2]; exact hz) (by omega)) (fun v_17 u_17 q_17 h_17 => ?_)
      obtain ⟨h_17, rfl⟩ := h_17
      rw [e2, hs] at h_17
      have hp : 0 ≤ tP (σ 2 0) (σ 2 1 0) i ∧ tP (σ 2 0) (σ 2 1 0) i ≤ σ 2 1 0 := tps_in (b := σ 2 0) hz.1 i.toNat
      subst h_17
      refine e_istore_n C d_To_cut_20 (by decide) rfl ?_
      refine e_iload_n C d_To_cut_21 rfl ?_
      refine e_aload_n C d_To_cut_22 rfl ?_
      refine e_geti C fl_To_29 (by decide) rfl rfl d_To_cut_23 (fun r_23 => ?_)
      try simp only [so_at, so_so, wr_so, e2] at r_23 ⊢
      refine e_icmp_lt C 32 d_To_cut_26 (by decide) (by omega) (by omega) (fun c_26 => ?_) (fun c_26 => ?_)
      · refine e_aload_n C d_To_cut_32 rfl ?_
        refine e_aload_n C d_To_cut_33 rfl ?_
        refine e_iload_n C d_To_cut_34 rfl ?_
        refine e_iload_n C d_To_cut_35 rfl ?_
        refine e_callIV C ok_To_addToken lk_To_35 (o := 6) (by decide) rfl [_, _, _] rfl rfl (Nat.le_of_ble_eq_true rfl) (by decide) (Nat.le_of_ble_eq_true rfl) d_To_cut_36 (k_To_addToken hz (by omega) (by omega)) (fun v_36 u_36 q_36 h_36 => ?_)
        obtain ⟨rfl, d', rfl, ho⟩ := h_36
        have hp2 : tP (σ 2 0) (σ 2 1 0) i < σ 2 1 0 := by omega
        have hn := tkN_in (b := σ 2 0) hp2
        refine e_istore_n C d_To_cut_39 (by decide) rfl ?_
        refine e_iinc C d_To_cut_40 rfl (by decide) rfl ?_
        refine e_iinc C d_To_cut_43 rfl (by decide) rfl ?_
        refine e_goto C 7 d_To_cut_46 (by decide) ?_
        refine ih (i + 1) _ d' (by omega) (by omega) ⟨by omega, hn.2⟩ ?_ (hT.step h0 hp2 ho)
        have := tps_S (b := σ 2 0) (z := σ 2 1 0) (k := i.toNat) hp2
        unfold tP
        rw [show (i + 1).toNat = i.toNat + 1 by omega, this]
      · refine e_goto C 49 d_To_cut_29 (by decide) ?_
        refine e_aload_n C d_To_cut_49 rfl ?_
        refine e_geta C fl_To_11 (by decide) rfl rfl d_To_cut_50 ?_
        refine e_iload_n C d_To_cut_53 rfl ?_
        refine e_sipush C d_To_cut_54 (by decide) ?_
        refine e_iast (n := 402) C (by decide) rfl (by decide) rfl rfl (by decide) (by omega) (by omega) (by omega) d_To_cut_57 ?_
        try simp only [so_at, so_so, wr_so, e2]
        refine e_aload_n C d_To_cut_58 rfl ?_
        refine e_geta C fl_To_15 (by decide) rfl rfl d_To_cut_59 ?_
        refine e_iload_n C d_To_cut_62 rfl ?_
        refine e_aload_n C d_To_cut_63 rfl ?_
        refine e_geti C fl_To_29 (by decide) rfl rfl d_To_cut_64 (fun r_64 => ?_)
        try simp only [so_at, so_so, wr_so, e2] at r_64 ⊢
        refine e_iast (n := 402) C (by decide) rfl (by decide) rfl rfl (by decide) (by omega) (by omega) (by omega) d_To_cut_67 ?_
        try simp only [so_at, so_so, wr_so, e2]
        refine e_vret C F rfl d_To_cut_68 ?_
        refine hQ _ (TC_end hT (by omega) hz.1 (Or.inr (by omega)) (by rw [cu_f (by decide), cu_s]) (cu_s _ _ _ _) (fun f j hj => ?_))
        simp only [cu_if]; rw [if_neg (fun z => hj z.2), if_neg (fun z => hj z.2)]
theorem k_To_cut {σ : St} (hz : 0 ≤ σ 2 1 0 ∧ σ 2 1 0 ≤ 2000) : CtV M_To_cut [.inr (.inr (6, 0)), .inr (.inr (2, 0))] σ (fun u => ∃ d', TC (tbl (σ 2 0) (σ 2 1 0)) d' ∧ u = so σ 6 d') := by
  intro g C F
  refine e_iconst C d_To_cut_0 ?_
  refine e_istore_n C d_To_cut_1 (by decide) rfl ?_
  refine e_iconst C d_To_cut_2 ?_
  refine e_istore_n C d_To_cut_3 (by decide) rfl ?_
  refine e_iconst C d_To_cut_4 ?_
  refine e_istore C d_To_cut_5 (by decide) rfl ?_
  have := l_To_cut C F hz (fun d' h => ⟨d', h, rfl⟩) 401 0 0 (σ 6) (by omega) (by omega) (by omega) rfl (fun j a b => by omega)
  rw [so_id] at this
  exact this
