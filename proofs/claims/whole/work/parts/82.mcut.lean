/-! the reference's cut -/
def bA (b : Int → Int) (z i : Int) : Int := if i < z then (if 0 ≤ b i then b i else b i + 256) else 0
set_option maxRecDepth 100000 in
theorem and255 : ∀ x : Fin 256, z_iand ((x.val : Int) - 128) 255 = if 0 ≤ (x.val : Int) - 128 then (x.val : Int) - 128 else (x.val : Int) - 128 + 256 := by decide +kernel
theorem and_255 {x : Int} (h : -128 ≤ x ∧ x ≤ 127) : z_iand x 255 = if 0 ≤ x then x else x + 256 := by
  have := and255 ⟨(x + 128).toNat, by omega⟩
  have e : (((x + 128).toNat : Nat) : Int) - 128 = x := by omega
  rw [show ((⟨(x + 128).toNat, by omega⟩ : Fin 256).val : Int) - 128 = x from e] at this
  exact this
def RB (b : Int → Int) (z : Int) : Prop := (0 ≤ z ∧ z ≤ 2000) ∧ ∀ i, 0 ≤ i → i < z → -128 ≤ b i ∧ b i ≤ 127
theorem bA_r {b : Int → Int} {z i : Int} (h : RB b z) (hi : 0 ≤ i) : 0 ≤ bA b z i ∧ bA b z i ≤ 255 := by
  unfold bA
  by_cases c : i < z
  · have := h.2 i hi c
    rw [if_pos c]
    split <;> omega
  · rw [if_neg c]; omega
theorem bA_q {b : Int → Int} {z i : Int} (h : RB b z) (hi : 0 ≤ i) (c : i < z) (q : Int → Bool) (hq : ∀ v, v < 0 ∨ 127 < v → q v = false) : q (bA b z i) = q (b i) := by
  have := h.2 i hi c
  unfold bA
  rw [if_pos c]
  by_cases d : 0 ≤ b i
  · rw [if_pos d]
  · rw [if_neg d, hq _ (by omega), hq _ (by omega)]
theorem tkL_o : ∀ v : Int, v < 0 ∨ 127 < v → tkL v = false := fun v h => decide_eq_false (by omega)
theorem tkD_o : ∀ v : Int, v < 0 ∨ 127 < v → tkD v = false := fun v h => decide_eq_false (by omega)
theorem tkB_o : ∀ v : Int, v < 0 ∨ 127 < v → tkB v = false := fun v h => decide_eq_false (by omega)
theorem tkS_o : ∀ v : Int, v < 0 ∨ 127 < v → tkS v = false := fun v h => decide_eq_false (by omega)
theorem bA_L {b : Int → Int} {z i : Int} (h : RB b z) (hi : 0 ≤ i) : tkL (bA b z i) = true ↔ i < z ∧ tkL (b i) = true := by
  by_cases c : i < z
  · rw [bA_q h hi c tkL tkL_o]; exact ⟨fun e => ⟨c, e⟩, fun e => e.2⟩
  · unfold bA; rw [if_neg c]; exact ⟨fun e => absurd e (by decide), fun e => absurd e.1 c⟩
theorem bA_D {b : Int → Int} {z i : Int} (h : RB b z) (hi : 0 ≤ i) : tkD (bA b z i) = true ↔ i < z ∧ tkD (b i) = true := by
  by_cases c : i < z
  · rw [bA_q h hi c tkD tkD_o]; exact ⟨fun e => ⟨c, e⟩, fun e => e.2⟩
  · unfold bA; rw [if_neg c]; exact ⟨fun e => absurd e (by decide), fun e => absurd e.1 c⟩
theorem bA_v {b : Int → Int} {z i : Int} (c : i < z) (d : 0 ≤ b i) : bA b z i = b i := by unfold bA; rw [if_pos c, if_pos d]
theorem k_Mo_byteAt {σ : St} {m : Cs} {i : Int} (hi : 0 ≤ i ∧ i ≤ 4000) (hz : 0 ≤ m 4 0 ∧ m 4 0 ≤ 2000) : CtI M_Mo_byteAt [.inr (.inr (1, 0)), .inl i] (so σ 1 m) (fun r u => r = bA (m 3) (m 4 0) i ∧ u = so σ 1 m) := by
  intro g C F
  unfold bA at F
  refine e_iload_n C d_Mo_byteAt_0 rfl ?_
  refine e_aload_n C d_Mo_byteAt_1 rfl ?_
  refine e_geti C fl_Mo_154 (by decide) rfl rfl d_Mo_byteAt_2 (fun r_2 => ?_)
  try simp only [so_at] at r_2 ⊢
  refine e_icmp_ge C 21 d_Mo_byteAt_5 (by decide) (by omega) (by omega) (fun c_5 => ?_) (fun c_5 => ?_)
  · rw [if_neg (by omega)] at F
    refine e_iconst C d_Mo_byteAt_21 ?_
    refine e_iret C F rfl d_Mo_byteAt_22 (by first | omega | (split <;> omega)) ?_
    exact ⟨rfl, rfl⟩
  · rw [if_pos (by omega)] at F
    refine e_aload_n C d_Mo_byteAt_8 rfl ?_
    refine e_geta C fl_Mo_17 (by decide) rfl rfl d_Mo_byteAt_9 ?_
    refine e_iload_n C d_Mo_byteAt_12 rfl ?_
    refine e_bald (n := 2000) C (by decide) rfl (by decide) rfl rfl (by decide) (by omega) (by omega) d_Mo_byteAt_13 (fun r_13 => ?_)
    try simp only [so_at] at r_13 ⊢
    refine e_sipush C d_Mo_byteAt_14 (by decide) ?_
    refine e_iand C d_Mo_byteAt_17 ?_
    rw [and_255 r_13]
    refine e_goto C 22 d_Mo_byteAt_18 (by decide) ?_
    refine e_iret C F rfl d_Mo_byteAt_22 (by first | omega | (split <;> omega)) ?_
    exact ⟨rfl, rfl⟩
theorem k_Mo_isLetter {σ : St} {c : Int} (h : R32 c) : CtI M_Mo_isLetter [.inl c] σ (fun r u => r = (if tkL c = true then 1 else 0) ∧ u = σ) := by
  intro g C F
  refine e_iload_n C d_Mo_isLetter_0 rfl ?_
  refine e_bipush C d_Mo_isLetter_1 (by decide) ?_
  refine e_icmp_lt C 16 d_Mo_isLetter_3 (by decide) (by omega) (by omega) (fun c_3 => ?_) (fun c_3 => ?_)
  · refine e_iconst C d_Mo_isLetter_16 ?_
    refine e_zret C F rfl d_Mo_isLetter_17 (by omega) ?_
    refine ⟨?_, rfl⟩
    unfold tkL
    first | rw [if_pos (decide_eq_true (by omega))] | rw [if_neg (fun z => by have := of_decide_eq_true z; omega)]
  · refine e_iload_n C d_Mo_isLetter_6 rfl ?_
    refine e_bipush C d_Mo_isLetter_7 (by decide) ?_
    refine e_icmp_gt C 16 d_Mo_isLetter_9 (by decide) (by omega) (by omega) (fun c_9 => ?_) (fun c_9 => ?_)
    · refine e_iconst C d_Mo_isLetter_16 ?_
      refine e_zret C F rfl d_Mo_isLetter_17 (by omega) ?_
      refine ⟨?_, rfl⟩
      unfold tkL
      first | rw [if_pos (decide_eq_true (by omega))] | rw [if_neg (fun z => by have := of_decide_eq_true z; omega)]
    · refine e_iconst C d_Mo_isLetter_12 ?_
      refine e_goto C 17 d_Mo_isLetter_13 (by decide) ?_
      refine e_zret C F rfl d_Mo_isLetter_17 (by omega) ?_
      refine ⟨?_, rfl⟩
      unfold tkL
      first | rw [if_pos (decide_eq_true (by omega))] | rw [if_neg (fun z => by have := of_decide_eq_true z; omega)]
theorem k_Mo_isDigit {σ : St} {c : Int} (h : R32 c) : CtI M_Mo_isDigit [.inl c] σ (fun r u => r = (if tkD c = true then 1 else 0) ∧ u = σ) := by
  intro g C F
  refine e_iload_n C d_Mo_isDigit_0 rfl ?_
  refine e_bipush C d_Mo_isDigit_1 (by decide) ?_
  refine e_icmp_lt C 16 d_Mo_isDigit_3 (by decide) (by omega) (by omega) (fun c_3 => ?_) (fun c_3 => ?_)
  · refine e_iconst C d_Mo_isDigit_16 ?_
    refine e_zret C F rfl d_Mo_isDigit_17 (by omega) ?_
    refine ⟨?_, rfl⟩
    unfold tkD
    first | rw [if_pos (decide_eq_true (by omega))] | rw [if_neg (fun z => by have := of_decide_eq_true z; omega)]
  · refine e_iload_n C d_Mo_isDigit_6 rfl ?_
    refine e_bipush C d_Mo_isDigit_7 (by decide) ?_
    refine e_icmp_gt C 16 d_Mo_isDigit_9 (by decide) (by omega) (by omega) (fun c_9 => ?_) (fun c_9 => ?_)
    · refine e_iconst C d_Mo_isDigit_16 ?_
      refine e_zret C F rfl d_Mo_isDigit_17 (by omega) ?_
      refine ⟨?_, rfl⟩
      unfold tkD
      first | rw [if_pos (decide_eq_true (by omega))] | rw [if_neg (fun z => by have := of_decide_eq_true z; omega)]
    · refine e_iconst C d_Mo_isDigit_12 ?_
      refine e_goto C 17 d_Mo_isDigit_13 (by decide) ?_
      refine e_zret C F rfl d_Mo_isDigit_17 (by omega) ?_
      refine ⟨?_, rfl⟩
      unfold tkD
      first | rw [if_pos (decide_eq_true (by omega))] | rw [if_neg (fun z => by have := of_decide_eq_true z; omega)]
theorem k_Mo_appends {σ : St} {v c : Int} (hv : 0 ≤ v ∧ v < 1000000000000000) (hc : 0 ≤ c ∧ c ≤ 255) : CtL M_Mo_appends [.inr (.inl v), .inl c] σ (fun r u => r = (if c = 0 then v else 27 * v + (c - 97 + 1)) ∧ u = σ) := by
  intro g C F
  refine e_iload_n C d_Mo_appends_0 rfl ?_
  refine e_if_ne C 8 d_Mo_appends_1 (by decide) (by omega) (fun c_1 => ?_) (fun c_1 => ?_)
  · rw [if_neg c_1] at F
    refine e_ldc2 C w_l157 d_Mo_appends_8 ?_
    refine e_lload_n C d_Mo_appends_11 rfl ?_
    refine e_lmul C d_Mo_appends_12 ?_
    refine e_iload_n C d_Mo_appends_13 rfl ?_
    refine e_bipush C d_Mo_appends_14 (by decide) ?_
    refine e_isub C d_Mo_appends_16 ?_
    refine e_iconst C d_Mo_appends_17 ?_
    refine e_iadd C d_Mo_appends_18 ?_
    refine e_i2l C d_Mo_appends_19 (by omega) ?_
    refine e_ladd C d_Mo_appends_20 ?_
    refine e_lret C F rfl d_Mo_appends_21 (by omega) ?_
    exact ⟨rfl, rfl⟩
  · rw [if_pos c_1] at F
    refine e_lload_n C d_Mo_appends_4 rfl ?_
    refine e_goto C 21 d_Mo_appends_5 (by decide) ?_
    refine e_lret C F rfl d_Mo_appends_21 (by omega) ?_
    exact ⟨rfl, rfl⟩
def tokM (m : Cs) (k kn wh v nm : Int) : Cs := cu (cu (cu (cu (cu m 5 k kn) 6 k wh) 7 k v) 8 k nm) 10 0 (k + 1)
theorem k_Mo_token {σ : St} {m : Cs} {k kn wh v nm : Int} (h10 : m 10 0 = k) (hk : 0 ≤ k ∧ k ≤ 402) (r1 : R32 kn) (r2 : R32 wh) (r3 : R32 v) (r4 : R64 nm) : CtV M_Mo_token [.inr (.inr (1, 0)), .inl kn, .inl wh, .inl v, .inr (.inl nm)] (so σ 1 m) (fun u => u = so σ 1 (tokM m k kn wh v nm)) := by
  intro g C F
  refine e_aload_n C d_Mo_token_0 rfl ?_
  refine e_geta C fl_Mo_20 (by decide) rfl rfl d_Mo_token_1 ?_
  refine e_aload_n C d_Mo_token_4 rfl ?_
  refine e_geti C fl_Mo_163 (by decide) rfl rfl d_Mo_token_5 (fun r_5 => ?_)
  try simp only [so_at, so_so, wr_so, cu_s, cu_f, h10, ne_eq, Nat.reduceEqDiff, not_false_eq_true] at r_5 ⊢
  refine e_iload_n C d_Mo_token_8 rfl ?_
  refine e_iast (n := 403) C (by decide) rfl (by decide) rfl rfl (by decide) (by omega) (by omega) (by omega) d_Mo_token_9 ?_
  try simp only [so_at, so_so, wr_so, cu_s, cu_f, h10, ne_eq, Nat.reduceEqDiff, not_false_eq_true]
  refine e_aload_n C d_Mo_token_10 rfl ?_
  refine e_geta C fl_Mo_24 (by decide) rfl rfl d_Mo_token_11 ?_
  refine e_aload_n C d_Mo_token_14 rfl ?_
  refine e_geti C fl_Mo_163 (by decide) rfl rfl d_Mo_token_15 (fun r_15 => ?_)
  try simp only [so_at, so_so, wr_so, cu_s, cu_f, h10, ne_eq, Nat.reduceEqDiff, not_false_eq_true] at r_15 ⊢
  refine e_iload_n C d_Mo_token_18 rfl ?_
  refine e_iast (n := 403) C (by decide) rfl (by decide) rfl rfl (by decide) (by omega) (by omega) (by omega) d_Mo_token_19 ?_
  try simp only [so_at, so_so, wr_so, cu_s, cu_f, h10, ne_eq, Nat.reduceEqDiff, not_false_eq_true]
  refine e_aload_n C d_Mo_token_20 rfl ?_
  refine e_geta C fl_Mo_27 (by decide) rfl rfl d_Mo_token_21 ?_
  refine e_aload_n C d_Mo_token_24 rfl ?_
  refine e_geti C fl_Mo_163 (by decide) rfl rfl d_Mo_token_25 (fun r_25 => ?_)
  try simp only [so_at, so_so, wr_so, cu_s, cu_f, h10, ne_eq, Nat.reduceEqDiff, not_false_eq_true] at r_25 ⊢
  refine e_iload_n C d_Mo_token_28 rfl ?_
  refine e_iast (n := 403) C (by decide) rfl (by decide) rfl rfl (by decide) (by omega) (by omega) (by omega) d_Mo_token_29 ?_
  try simp only [so_at, so_so, wr_so, cu_s, cu_f, h10, ne_eq, Nat.reduceEqDiff, not_false_eq_true]
  refine e_aload_n C d_Mo_token_30 rfl ?_
  refine e_geta C fl_Mo_30 (by decide) rfl rfl d_Mo_token_31 ?_
  refine e_aload_n C d_Mo_token_34 rfl ?_
  refine e_geti C fl_Mo_163 (by decide) rfl rfl d_Mo_token_35 (fun r_35 => ?_)
  try simp only [so_at, so_so, wr_so, cu_s, cu_f, h10, ne_eq, Nat.reduceEqDiff, not_false_eq_true] at r_35 ⊢
  refine e_lload C d_Mo_token_38 rfl ?_
  refine e_last (n := 403) C (by decide) rfl (by decide) rfl rfl (by decide) (by omega) (by omega) r4 d_Mo_token_40 ?_
  try simp only [so_at, so_so, wr_so, cu_s, cu_f, h10, ne_eq, Nat.reduceEqDiff, not_false_eq_true]
  refine e_aload_n C d_Mo_token_41 rfl ?_
  refine e_dup C d_Mo_token_42 rfl ?_
  refine e_geti C fl_Mo_163 (by decide) rfl rfl d_Mo_token_43 (fun r_43 => ?_)
  try simp only [so_at, so_so, wr_so, cu_s, cu_f, h10, ne_eq, Nat.reduceEqDiff, not_false_eq_true] at r_43 ⊢
  refine e_iconst C d_Mo_token_46 ?_
  refine e_iadd C d_Mo_token_47 ?_
  refine e_puti C fp_Mo_163 (by decide) rfl rfl (by omega) d_Mo_token_48 ?_
  try simp only [so_at, so_so, wr_so, cu_s, cu_f, h10, ne_eq, Nat.reduceEqDiff, not_false_eq_true]
  refine e_vret C F rfl d_Mo_token_51 ?_
  rfl
def sgm (c : Int) : Int := if c = 60 then 13 else if c = 47 then 15 else if c = 42 then 10 else if c = 45 then 9 else if c = 43 then 8 else if c = 59 then 4 else if c = 61 then 5 else if c = 40 then 6 else if c = 41 then 7 else 3
theorem sgm_is (c : Int) : sgm c = mk (if tkS c = true then c else 129) := by
  by_cases h : tkS c = true
  · rw [if_pos h]
    have h := of_decide_eq_true h
    rcases h with h | h | h | h | h | h | h | h | h <;> subst h <;> decide
  · rw [if_neg h]
    have h : ¬ (c = 59 ∨ c = 61 ∨ c = 60 ∨ c = 40 ∨ c = 41 ∨ c = 43 ∨ c = 45 ∨ c = 42 ∨ c = 47) := fun w => h (decide_eq_true w)
    unfold sgm
    rw [if_neg (by omega), if_neg (by omega), if_neg (by omega), if_neg (by omega), if_neg (by omega), if_neg (by omega), if_neg (by omega), if_neg (by omega), if_neg (by omega)]
    decide
theorem sgm_r (c : Int) : R32 (sgm c) := by
  unfold sgm
  split
  · omega
  · split
    · omega
    · split
      · omega
      · split
        · omega
        · split
          · omega
          · split
            · omega
            · split
              · omega
              · split
                · omega
                · split <;> omega
theorem k_Mo_sign {σ : St} {m : Cs} {k i c d : Int} (h10 : m 10 0 = k) (hk : 0 ≤ k ∧ k ≤ 402) (r1 : R32 i) (r2 : R32 c) : CtI M_Mo_sign [.inr (.inr (1, 0)), .inl i, .inl c, .inl d] (so σ 1 m) (fun r u => r = 1 ∧ u = so σ 1 (tokM m k (sgm c) i 0 0)) := by
  intro g C F
  have fin : ∀ v, v = sgm c → Ev g 95 [some (.inr (.inr (1, 0))), some (.inl i), some (.inl c), some (.inl d), some (.inl v)] [] (so σ 1 m) := by
    intro v hv
    have hr := sgm_r c
    refine e_aload_n C d_Mo_sign_95 rfl ?_
    refine e_iload C d_Mo_sign_96 rfl ?_
    refine e_iload_n C d_Mo_sign_98 rfl ?_
    refine e_iconst C d_Mo_sign_99 ?_
    refine e_lconst (z := 0) C d_Mo_sign_100 (by decide) ?_
    refine e_callVV C ok_Mo_token lk_Mo_170 (o := 1) (by decide) rfl [_, _, _, _] rfl rfl (Nat.le_of_ble_eq_true rfl) (by decide) (Nat.le_of_ble_eq_true rfl) d_Mo_sign_101 (k_Mo_token h10 hk (by rw [hv]; exact hr) r1 (by omega) ⟨by omega, by omega⟩) (fun u_101 h_101 => ?_)
    subst h_101
    refine e_iconst C d_Mo_sign_104 ?_
    refine e_iret C F rfl d_Mo_sign_105 (by omega) ?_
    rw [hv]; exact ⟨rfl, rfl⟩
  have s85 : ∀ v, (if c = 60 then 13 else v) = sgm c → Ev g 85 [some (.inr (.inr (1, 0))), some (.inl i), some (.inl c), some (.inl d), some (.inl v)] [] (so σ 1 m) := by
    intro v hv
    refine e_iload_n C d_Mo_sign_85 rfl ?_
    refine e_bipush C d_Mo_sign_86 (by decide) ?_
    refine e_icmp_ne C 95 d_Mo_sign_88 (by decide) (by omega) (by omega) (fun c_88 => ?_) (fun c_88 => ?_)
    · rw [if_neg c_88] at hv
      exact fin _ hv
    · rw [if_pos c_88] at hv
      refine e_bipush C d_Mo_sign_91 (by decide) ?_
      refine e_istore C d_Mo_sign_93 (by decide) rfl ?_
      exact fin _ hv
  have s75 : ∀ v, (if c = 60 then 13 else if c = 47 then 15 else v) = sgm c → Ev g 75 [some (.inr (.inr (1, 0))), some (.inl i), some (.inl c), some (.inl d), some (.inl v)] [] (so σ 1 m) := by
    intro v hv
    refine e_iload_n C d_Mo_sign_75 rfl ?_
    refine e_bipush C d_Mo_sign_76 (by decide) ?_
    refine e_icmp_ne C 85 d_Mo_sign_78 (by decide) (by omega) (by omega) (fun c_78 => ?_) (fun c_78 => ?_)
    · rw [if_neg c_78] at hv
      exact s85 _ hv
    · rw [if_pos c_78] at hv
      refine e_bipush C d_Mo_sign_81 (by decide) ?_
      refine e_istore C d_Mo_sign_83 (by decide) rfl ?_
      exact s85 _ hv
  have s65 : ∀ v, (if c = 60 then 13 else if c = 47 then 15 else if c = 42 then 10 else v) = sgm c → Ev g 65 [some (.inr (.inr (1, 0))), some (.inl i), some (.inl c), some (.inl d), some (.inl v)] [] (so σ 1 m) := by
    intro v hv
    refine e_iload_n C d_Mo_sign_65 rfl ?_
    refine e_bipush C d_Mo_sign_66 (by decide) ?_
    refine e_icmp_ne C 75 d_Mo_sign_68 (by decide) (by omega) (by omega) (fun c_68 => ?_) (fun c_68 => ?_)
    · rw [if_neg c_68] at hv
      exact s75 _ hv
    · rw [if_pos c_68] at hv
      refine e_bipush C d_Mo_sign_71 (by decide) ?_
      refine e_istore C d_Mo_sign_73 (by decide) rfl ?_
      exact s75 _ hv
  have s55 : ∀ v, (if c = 60 then 13 else if c = 47 then 15 else if c = 42 then 10 else if c = 45 then 9 else v) = sgm c → Ev g 55 [some (.inr (.inr (1, 0))), some (.inl i), some (.inl c), some (.inl d), some (.inl v)] [] (so σ 1 m) := by
    intro v hv
    refine e_iload_n C d_Mo_sign_55 rfl ?_
    refine e_bipush C d_Mo_sign_56 (by decide) ?_
    refine e_icmp_ne C 65 d_Mo_sign_58 (by decide) (by omega) (by omega) (fun c_58 => ?_) (fun c_58 => ?_)
    · rw [if_neg c_58] at hv
      exact s65 _ hv
    · rw [if_pos c_58] at hv
      refine e_bipush C d_Mo_sign_61 (by decide) ?_
      refine e_istore C d_Mo_sign_63 (by decide) rfl ?_
      exact s65 _ hv
  have s45 : ∀ v, (if c = 60 then 13 else if c = 47 then 15 else if c = 42 then 10 else if c = 45 then 9 else if c = 43 then 8 else v) = sgm c → Ev g 45 [some (.inr (.inr (1, 0))), some (.inl i), some (.inl c), some (.inl d), some (.inl v)] [] (so σ 1 m) := by
    intro v hv
    refine e_iload_n C d_Mo_sign_45 rfl ?_
    refine e_bipush C d_Mo_sign_46 (by decide) ?_
    refine e_icmp_ne C 55 d_Mo_sign_48 (by decide) (by omega) (by omega) (fun c_48 => ?_) (fun c_48 => ?_)
    · rw [if_neg c_48] at hv
      exact s55 _ hv
    · rw [if_pos c_48] at hv
      refine e_bipush C d_Mo_sign_51 (by decide) ?_
      refine e_istore C d_Mo_sign_53 (by decide) rfl ?_
      exact s55 _ hv
  refine e_iload_n C d_Mo_sign_0 rfl ?_
  refine e_bipush C d_Mo_sign_1 (by decide) ?_
  refine e_icmp_ne C 10 d_Mo_sign_3 (by decide) (by omega) (by omega) (fun c_3 => ?_) (fun c_3 => ?_)
  · refine e_iload_n C d_Mo_sign_10 rfl ?_
    refine e_bipush C d_Mo_sign_11 (by decide) ?_
    refine e_icmp_ne C 20 d_Mo_sign_13 (by decide) (by omega) (by omega) (fun c_13 => ?_) (fun c_13 => ?_)
    · refine e_iload_n C d_Mo_sign_20 rfl ?_
      refine e_bipush C d_Mo_sign_21 (by decide) ?_
      refine e_icmp_ne C 31 d_Mo_sign_23 (by decide) (by omega) (by omega) (fun c_23 => ?_) (fun c_23 => ?_)
      · refine e_iload_n C d_Mo_sign_31 rfl ?_
        refine e_bipush C d_Mo_sign_32 (by decide) ?_
        refine e_icmp_ne C 42 d_Mo_sign_34 (by decide) (by omega) (by omega) (fun c_34 => ?_) (fun c_34 => ?_)
        · refine e_iconst C d_Mo_sign_42 ?_
          refine e_istore C d_Mo_sign_43 (by decide) rfl ?_
          refine s45 _ ?_
          unfold sgm
          first | rw [if_pos (show c = 59 by omega)] | rw [if_neg (show ¬ c = 59 by omega), if_pos (show c = 61 by omega)] | rw [if_neg (show ¬ c = 59 by omega), if_neg (show ¬ c = 61 by omega), if_pos (show c = 40 by omega)] | rw [if_neg (show ¬ c = 59 by omega), if_neg (show ¬ c = 61 by omega), if_neg (show ¬ c = 40 by omega), if_pos (show c = 41 by omega)] | rw [if_neg (show ¬ c = 59 by omega), if_neg (show ¬ c = 61 by omega), if_neg (show ¬ c = 40 by omega), if_neg (show ¬ c = 41 by omega)]
        · refine e_bipush C d_Mo_sign_37 (by decide) ?_
          refine e_goto C 43 d_Mo_sign_39 (by decide) ?_
          refine e_istore C d_Mo_sign_43 (by decide) rfl ?_
          refine s45 _ ?_
          unfold sgm
          first | rw [if_pos (show c = 59 by omega)] | rw [if_neg (show ¬ c = 59 by omega), if_pos (show c = 61 by omega)] | rw [if_neg (show ¬ c = 59 by omega), if_neg (show ¬ c = 61 by omega), if_pos (show c = 40 by omega)] | rw [if_neg (show ¬ c = 59 by omega), if_neg (show ¬ c = 61 by omega), if_neg (show ¬ c = 40 by omega), if_pos (show c = 41 by omega)] | rw [if_neg (show ¬ c = 59 by omega), if_neg (show ¬ c = 61 by omega), if_neg (show ¬ c = 40 by omega), if_neg (show ¬ c = 41 by omega)]
      · refine e_bipush C d_Mo_sign_26 (by decide) ?_
        refine e_goto C 43 d_Mo_sign_28 (by decide) ?_
        refine e_istore C d_Mo_sign_43 (by decide) rfl ?_
        refine s45 _ ?_
        unfold sgm
        first | rw [if_pos (show c = 59 by omega)] | rw [if_neg (show ¬ c = 59 by omega), if_pos (show c = 61 by omega)] | rw [if_neg (show ¬ c = 59 by omega), if_neg (show ¬ c = 61 by omega), if_pos (show c = 40 by omega)] | rw [if_neg (show ¬ c = 59 by omega), if_neg (show ¬ c = 61 by omega), if_neg (show ¬ c = 40 by omega), if_pos (show c = 41 by omega)] | rw [if_neg (show ¬ c = 59 by omega), if_neg (show ¬ c = 61 by omega), if_neg (show ¬ c = 40 by omega), if_neg (show ¬ c = 41 by omega)]
    · refine e_iconst C d_Mo_sign_16 ?_
      refine e_goto C 43 d_Mo_sign_17 (by decide) ?_
      refine e_istore C d_Mo_sign_43 (by decide) rfl ?_
      refine s45 _ ?_
      unfold sgm
      first | rw [if_pos (show c = 59 by omega)] | rw [if_neg (show ¬ c = 59 by omega), if_pos (show c = 61 by omega)] | rw [if_neg (show ¬ c = 59 by omega), if_neg (show ¬ c = 61 by omega), if_pos (show c = 40 by omega)] | rw [if_neg (show ¬ c = 59 by omega), if_neg (show ¬ c = 61 by omega), if_neg (show ¬ c = 40 by omega), if_pos (show c = 41 by omega)] | rw [if_neg (show ¬ c = 59 by omega), if_neg (show ¬ c = 61 by omega), if_neg (show ¬ c = 40 by omega), if_neg (show ¬ c = 41 by omega)]
  · refine e_iconst C d_Mo_sign_6 ?_
    refine e_goto C 43 d_Mo_sign_7 (by decide) ?_
    refine e_istore C d_Mo_sign_43 (by decide) rfl ?_
    refine s45 _ ?_
    unfold sgm
    first | rw [if_pos (show c = 59 by omega)] | rw [if_neg (show ¬ c = 59 by omega), if_pos (show c = 61 by omega)] | rw [if_neg (show ¬ c = 59 by omega), if_neg (show ¬ c = 61 by omega), if_pos (show c = 40 by omega)] | rw [if_neg (show ¬ c = 59 by omega), if_neg (show ¬ c = 61 by omega), if_neg (show ¬ c = 40 by omega), if_pos (show c = 41 by omega)] | rw [if_neg (show ¬ c = 59 by omega), if_neg (show ¬ c = 61 by omega), if_neg (show ¬ c = 40 by omega), if_neg (show ¬ c = 41 by omega)]
/-- the reference's tokens are the table's, as far as the text goes -/
def TM (T : Tab) (m : Cs) : Prop := ∀ k, 0 ≤ k → k ≤ 400 → (k = 0 ∨ T.1 (k - 1) ≠ 128) → m 5 k = mk (T.1 k) ∧ m 6 k = T.2.1 k ∧ (T.1 k = 131 → m 7 k = T.2.2.1 k) ∧ (T.1 k = 130 → m 8 k = T.2.2.2.2 k)
def TMd (b : Int → Int) (z n : Int) (m : Cs) : Prop := ∀ j, 0 ≤ j → j < n → m 5 j = mk (tK b z j) ∧ m 6 j = tP b z j ∧ (tK b z j = 131 → m 7 j = tV b z j) ∧ (tK b z j = 130 → m 8 j = tB b z j)
def MC (m m' : Cs) : Prop := ∀ f, f ≠ 5 → f ≠ 6 → f ≠ 7 → f ≠ 8 → f ≠ 10 → m' f = m f
theorem MC.rf (m : Cs) : MC m m := fun _ _ _ _ _ _ => rfl
theorem MC.tok {m m' : Cs} {k kn wh v nm : Int} (h : MC m m') : MC m (tokM m' k kn wh v nm) := fun f a b c d e => by
  funext q
  unfold tokM
  rw [cu_f e, cu_f d, cu_f c, cu_f b, cu_f a, h f a b c d e]
theorem tokM_at (m : Cs) (k kn wh v nm : Int) : tokM m k kn wh v nm 5 k = kn ∧ tokM m k kn wh v nm 6 k = wh ∧ tokM m k kn wh v nm 7 k = v ∧ tokM m k kn wh v nm 8 k = nm ∧ tokM m k kn wh v nm 10 0 = k + 1 := by
  unfold tokM
  refine ⟨?_, ?_, ?_, ?_, cu_s _ _ _ _⟩
  · rw [cu_f (by decide), cu_f (by decide), cu_f (by decide), cu_f (by decide), cu_s]
  · rw [cu_f (by decide), cu_f (by decide), cu_f (by decide), cu_s]
  · rw [cu_f (by decide), cu_f (by decide), cu_s]
  · rw [cu_f (by decide), cu_s]
theorem tokM_ne {m : Cs} {k kn wh v nm j : Int} (h : j ≠ k) {f : Nat} (hf : f ≠ 10) : tokM m k kn wh v nm f j = m f j := by
  unfold tokM
  rw [cu_f hf]
  simp only [cu_if]
  rw [if_neg (fun z => h z.2), if_neg (fun z => h z.2), if_neg (fun z => h z.2), if_neg (fun z => h z.2)]
def CV (b : Int → Int) (z : Int) (m : Cs) (i k : Int) (m' : Cs) : Prop := (0 ≤ i ∧ i ≤ z) ∧ (0 ≤ k ∧ k ≤ 401) ∧ m' 10 0 = k ∧ sce b z tkB i = tP b z k ∧ MC m m' ∧ TMd b z k m'
theorem CV.blank {b : Int → Int} {z i k : Int} {m m' : Cs} (h : CV b z m i k m') (hi : i < z) (hb : tkB (b i) = true) : CV b z m (i + 1) k m' := by
  obtain ⟨h1, h2, h3, h4, h5, h6⟩ := h
  exact ⟨by omega, h2, h3, by rw [← sce_t hi hb]; exact h4, h5, h6⟩
theorem CV.at {b : Int → Int} {z i k : Int} {m m' : Cs} (h : CV b z m i k m') (hb : ¬ tkB (b i) = true) : tP b z k = i := by rw [← h.2.2.2.1]; exact sce_f (fun w => hb w.2)
theorem CV.step {b : Int → Int} {z i k kn v nm : Int} {m m' : Cs} (h : CV b z m i k m') (hk : k ≤ 400) (hi : i < z) (hb : ¬ tkB (b i) = true) (e1 : kn = mk (tkK b z i)) (e2 : tkK b z i = 131 → v = wn b i (nln b z tkD i)) (e3 : tkK b z i = 130 → nm = w27 b i (nln b z tkL i)) : CV b z m (tkN b z i) (k + 1) (tokM m' k kn i v nm) := by
  have hp := h.at hb
  obtain ⟨h1, h2, h3, h4, h5, h6⟩ := h
  have hn := tkN_in (b := b) hi
  obtain ⟨t1, t2, t3, t4, t5⟩ := tokM_at m' k kn i v nm
  have ek : tK b z k = tkK b z i := by unfold tK; rw [hp, if_pos hi]
  refine ⟨by omega, by omega, t5, ?_, h5.tok, fun j j0 j1 => ?_⟩
  · have hp2 : tps b z k.toNat = i := hp
    have := tps_S (b := b) (z := z) (k := k.toNat) (by omega)
    unfold tP
    rw [show (k + 1).toNat = k.toNat + 1 by omega, this, hp2]
  · by_cases w : j = k
    · subst w
      rw [t1, t2, t3, t4, ek]
      refine ⟨e1, hp.symm, fun q => ?_, fun q => ?_⟩
      · unfold tV; rw [hp]; exact e2 q
      · unfold tB; rw [hp]; exact e3 q
    · rw [tokM_ne w (by decide), tokM_ne w (by decide), tokM_ne w (by decide), tokM_ne w (by decide)]
      exact h6 j j0 (by omega)
theorem TM_401 {b : Int → Int} {z : Int} {m' : Cs} (h : TMd b z 401 m') : TM (tbl b z) m' := fun k k0 k1 _ => h k k0 (by omega)
theorem TM_end {b : Int → Int} {z i k : Int} {m m' : Cs} (hz : 0 ≤ z) (h : CV b z m i k m') (hi : z ≤ i) : TM (tbl b z) (tokM m' k 0 z 0 0) := by
  obtain ⟨h1, h2, h3, h4, h5, h6⟩ := h
  obtain ⟨t1, t2, t3, t4, t5⟩ := tokM_at m' k 0 z 0 0
  have hp : tP b z k = z := by rw [← h4, sce_f (by omega)]; omega
  intro j j0 j1 hl
  by_cases w : j < k
  · rw [tokM_ne (by omega) (by decide), tokM_ne (by omega) (by decide), tokM_ne (by omega) (by decide), tokM_ne (by omega) (by decide)]
    exact h6 j j0 w
  · by_cases w2 : j = k
    · subst w2
      have e : tK b z j = 128 := by unfold tK; rw [if_neg (by omega)]
      rw [t1, t2, t3, t4]
      refine ⟨?_, hp.symm, fun z => ?_, fun z => ?_⟩
      · show 0 = mk (tK b z j)
        rw [e]; decide
      · have z : tK b _ j = 131 := z
        omega
      · have z : tK b _ j = 130 := z
        omega
    · exfalso
      rcases hl with hl | hl
      · omega
      · have hl := (tK_end b z (j - 1)).mp hl
        have := tP_late (b := b) (z := z) (j := k) (k := j - 1) h2.1 (by omega) (by omega)
        omega
theorem l_Mo_cutW {g : Mach} (C : Cx M_Mo_cut g) {σ : St} {m : Cs} {i c : Int} (hb : RB (m 3) (m 4 0)) (hi : 0 ≤ i ∧ i ≤ 2000)
    (hE : Ev g 124 [some (.inr (.inr (1, 0))), some (.inl i), some (.inl c), some (.inl (nln (m 3) (m 4 0) tkL i)), some (.inr (.inl (w27 (m 3) i (nln (m 3) (m 4 0) tkL i)))), none, none, none] [] (so σ 1 m)) :
    ∀ (k n : Nat), (m 4 0 - (i + n)).toNat = k → i + n ≤ m 4 0 → sce (m 3) (m 4 0) tkL (i + n) = sce (m 3) (m 4 0) tkL i → Ev g 85 [some (.inr (.inr (1, 0))), some (.inl i), some (.inl c), some (.inl n), some (.inr (.inl (w27 (m 3) i n))), none, none, none] [] (so σ 1 m) := by
  have hz := hb.1
  intro k
  induction k with
  | zero =>
    intro n h0 h1 h3
    have h4 : sce (m 3) (m 4 0) tkL (i + n) = i + n := sce_f (by omega)
    have h5 : nln (m 3) (m 4 0) tkL i = n := by unfold nln; rw [← h3, h4]; omega
    rw [h5] at hE
    refine e_aload_n C d_Mo_cut_85 rfl ?_
    refine e_iload_n C d_Mo_cut_86 rfl ?_
    refine e_iload_n C d_Mo_cut_87 rfl ?_
    refine e_iadd C d_Mo_cut_88 ?_
    refine e_callIV C ok_Mo_byteAt lk_Mo_166 (o := 1) (by decide) rfl [_] rfl rfl (Nat.le_of_ble_eq_true rfl) (by decide) (Nat.le_of_ble_eq_true rfl) d_Mo_cut_89 (k_Mo_byteAt (by omega) hz) (fun v_89 u_89 q_89 h_89 => ?_)
    obtain ⟨rfl, rfl⟩ := h_89
    have hr := bA_r (i := i + n) hb (by omega)
    refine e_callIS C ok_Mo_isLetter lk_Mo_174 [_] rfl rfl (Nat.le_of_ble_eq_true rfl) (by decide) (Nat.le_of_ble_eq_true rfl) d_Mo_cut_92 (k_Mo_isLetter (by omega)) (fun v_92 u_92 q_92 h_92 => ?_)
    obtain ⟨rfl, rfl⟩ := h_92
    refine e_if_eq C 124 d_Mo_cut_95 (by decide) (by split <;> omega) (fun c_95 => ?_) (fun c_95 => ?_)
    · exact hE
    · exact absurd ((bA_L hb (by omega)).mp (bo_t c_95)).1 (by omega)
  | succ k ih =>
    intro n h0 h1 h3
    have hge := sce_ge (m 3) (m 4 0) tkL (i + n)
    have hle : ∀ q : Nat, q < n → tkL (m 3 (i + q)) = true := fun q a => sce_is (m 3) (m 4 0) tkL i _ (by omega) (by omega)
    have hw := w27_in (b := m 3) (i := i) n hle
    refine e_aload_n C d_Mo_cut_85 rfl ?_
    refine e_iload_n C d_Mo_cut_86 rfl ?_
    refine e_iload_n C d_Mo_cut_87 rfl ?_
    refine e_iadd C d_Mo_cut_88 ?_
    refine e_callIV C ok_Mo_byteAt lk_Mo_166 (o := 1) (by decide) rfl [_] rfl rfl (Nat.le_of_ble_eq_true rfl) (by decide) (Nat.le_of_ble_eq_true rfl) d_Mo_cut_89 (k_Mo_byteAt (by omega) hz) (fun v_89 u_89 q_89 h_89 => ?_)
    obtain ⟨rfl, rfl⟩ := h_89
    have hr := bA_r (i := i + n) hb (by omega)
    refine e_callIS C ok_Mo_isLetter lk_Mo_174 [_] rfl rfl (Nat.le_of_ble_eq_true rfl) (by decide) (Nat.le_of_ble_eq_true rfl) d_Mo_cut_92 (k_Mo_isLetter (by omega)) (fun v_92 u_92 q_92 h_92 => ?_)
    obtain ⟨rfl, rfl⟩ := h_92
    refine e_if_eq C 124 d_Mo_cut_95 (by decide) (by split <;> omega) (fun c_95 => ?_) (fun c_95 => ?_)
    · have h4 : sce (m 3) (m 4 0) tkL (i + n) = i + n := sce_f (fun w => bo_f c_95 ((bA_L hb (by omega)).mpr w))
      have h5 : nln (m 3) (m 4 0) tkL i = n := by unfold nln; rw [← h3, h4]; omega
      rw [h5] at hE
      exact hE
    · have hl := (bA_L hb (by omega)).mp (bo_t c_95)
      have hl2 : 97 ≤ m 3 (i + n) ∧ m 3 (i + n) ≤ 122 := of_decide_eq_true hl.2
      have hv := bA_v hl.1 (show 0 ≤ m 3 (i + n) by omega)
      have h4 := sce_t (b := m 3) (q := tkL) hl.1 hl.2
      have ih2 := ih (n + 1) (by omega) (by omega) (by rw [show i + ((n + 1 : Nat) : Int) = i + n + 1 by omega, ← h4]; exact h3)
      have e : w27 (m 3) i (n + 1) = if n < 8 then 27 * w27 (m 3) i n + (m 3 (i + n) - 97 + 1) else w27 (m 3) i n := rfl
      rw [e] at ih2
      have e3 : ((n + 1 : Nat) : Int) = (n : Int) + 1 := by omega
      rw [e3] at ih2
      refine e_iload_n C d_Mo_cut_98 rfl ?_
      refine e_bipush C d_Mo_cut_99 (by decide) ?_
      refine e_icmp_ge C 118 d_Mo_cut_101 (by decide) (by omega) (by omega) (fun c_101 => ?_) (fun c_101 => ?_)
      · rw [if_neg (by omega)] at ih2
        refine e_iinc C d_Mo_cut_118 rfl (by decide) rfl ?_
        refine e_goto C 85 d_Mo_cut_121 (by decide) ?_
        exact ih2
      · rw [if_pos (by omega)] at ih2
        refine e_lload C d_Mo_cut_104 rfl ?_
        refine e_aload_n C d_Mo_cut_106 rfl ?_
        refine e_iload_n C d_Mo_cut_107 rfl ?_
        refine e_iload_n C d_Mo_cut_108 rfl ?_
        refine e_iadd C d_Mo_cut_109 ?_
        refine e_callIV C ok_Mo_byteAt lk_Mo_166 (o := 1) (by decide) rfl [_] rfl rfl (Nat.le_of_ble_eq_true rfl) (by decide) (Nat.le_of_ble_eq_true rfl) d_Mo_cut_110 (k_Mo_byteAt (by omega) hz) (fun v_110 u_110 q_110 h_110 => ?_)
        obtain ⟨rfl, rfl⟩ := h_110
        refine e_callLS C ok_Mo_appends lk_Mo_159 [_, _] rfl rfl (Nat.le_of_ble_eq_true rfl) (by decide) (Nat.le_of_ble_eq_true rfl) d_Mo_cut_113 (k_Mo_appends (by omega) (by omega)) (fun v_113 u_113 q_113 h_113 => ?_)
        obtain ⟨rfl, rfl⟩ := h_113
        rw [if_neg (by omega), hv]
        refine e_lstore C d_Mo_cut_116 (by decide) rfl ?_
        refine e_iinc C d_Mo_cut_118 rfl (by decide) rfl ?_
        refine e_goto C 85 d_Mo_cut_121 (by decide) ?_
        exact ih2
theorem l_Mo_cutD {g : Mach} (C : Cx M_Mo_cut g) {σ : St} {m : Cs} {i c : Int} (hb : RB (m 3) (m 4 0)) (hi : 0 ≤ i ∧ i ≤ 2000)
    (hE : ∀ v, R32 v → (nln (m 3) (m 4 0) tkD i ≤ 4 → v = wn (m 3) i (nln (m 3) (m 4 0) tkD i)) → Ev g 250 [some (.inr (.inr (1, 0))), some (.inl i), some (.inl c), some (.inl (nln (m 3) (m 4 0) tkD i)), some (.inl v), none, none, none] [] (so σ 1 m)) :
    ∀ (k n : Nat) (v : Int), (m 4 0 - (i + n)).toNat = k → i + n ≤ m 4 0 → sce (m 3) (m 4 0) tkD (i + n) = sce (m 3) (m 4 0) tkD i → (0 ≤ v ∧ v ≤ 9999) → (n ≤ 4 → v = wn (m 3) i n) → Ev g 208 [some (.inr (.inr (1, 0))), some (.inl i), some (.inl c), some (.inl n), some (.inl v), none, none, none] [] (so σ 1 m) := by
  have hz := hb.1
  intro k
  induction k with
  | zero =>
    intro n v h0 h1 h3 hv1 hv2
    have h4 : sce (m 3) (m 4 0) tkD (i + n) = i + n := sce_f (by omega)
    have h5 : nln (m 3) (m 4 0) tkD i = n := by unfold nln; rw [← h3, h4]; omega
    rw [h5] at hE
    refine e_aload_n C d_Mo_cut_208 rfl ?_
    refine e_iload_n C d_Mo_cut_209 rfl ?_
    refine e_iload_n C d_Mo_cut_210 rfl ?_
    refine e_iadd C d_Mo_cut_211 ?_
    refine e_callIV C ok_Mo_byteAt lk_Mo_166 (o := 1) (by decide) rfl [_] rfl rfl (Nat.le_of_ble_eq_true rfl) (by decide) (Nat.le_of_ble_eq_true rfl) d_Mo_cut_212 (k_Mo_byteAt (by omega) hz) (fun v_212 u_212 q_212 h_212 => ?_)
    obtain ⟨rfl, rfl⟩ := h_212
    have hr := bA_r (i := i + n) hb (by omega)
    refine e_callIS C ok_Mo_isDigit lk_Mo_178 [_] rfl rfl (Nat.le_of_ble_eq_true rfl) (by decide) (Nat.le_of_ble_eq_true rfl) d_Mo_cut_215 (k_Mo_isDigit (by omega)) (fun v_215 u_215 q_215 h_215 => ?_)
    obtain ⟨rfl, rfl⟩ := h_215
    refine e_if_eq C 250 d_Mo_cut_218 (by decide) (by split <;> omega) (fun c_218 => ?_) (fun c_218 => ?_)
    · exact hE v (by omega) hv2
    · exact absurd ((bA_D hb (by omega)).mp (bo_t c_218)).1 (by omega)
  | succ k ih =>
    intro n v h0 h1 h3 hv1 hv2
    have hge := sce_ge (m 3) (m 4 0) tkD (i + n)
    have hle : ∀ q : Nat, q < n → tkD (m 3 (i + q)) = true := fun q a => sce_is (m 3) (m 4 0) tkD i _ (by omega) (by omega)
    refine e_aload_n C d_Mo_cut_208 rfl ?_
    refine e_iload_n C d_Mo_cut_209 rfl ?_
    refine e_iload_n C d_Mo_cut_210 rfl ?_
    refine e_iadd C d_Mo_cut_211 ?_
    refine e_callIV C ok_Mo_byteAt lk_Mo_166 (o := 1) (by decide) rfl [_] rfl rfl (Nat.le_of_ble_eq_true rfl) (by decide) (Nat.le_of_ble_eq_true rfl) d_Mo_cut_212 (k_Mo_byteAt (by omega) hz) (fun v_212 u_212 q_212 h_212 => ?_)
    obtain ⟨rfl, rfl⟩ := h_212
    have hr := bA_r (i := i + n) hb (by omega)
    refine e_callIS C ok_Mo_isDigit lk_Mo_178 [_] rfl rfl (Nat.le_of_ble_eq_true rfl) (by decide) (Nat.le_of_ble_eq_true rfl) d_Mo_cut_215 (k_Mo_isDigit (by omega)) (fun v_215 u_215 q_215 h_215 => ?_)
    obtain ⟨rfl, rfl⟩ := h_215
    refine e_if_eq C 250 d_Mo_cut_218 (by decide) (by split <;> omega) (fun c_218 => ?_) (fun c_218 => ?_)
    · have h4 : sce (m 3) (m 4 0) tkD (i + n) = i + n := sce_f (fun w => bo_f c_218 ((bA_D hb (by omega)).mpr w))
      have h5 : nln (m 3) (m 4 0) tkD i = n := by unfold nln; rw [← h3, h4]; omega
      rw [h5] at hE
      exact hE v (by omega) hv2
    · have hl := (bA_D hb (by omega)).mp (bo_t c_218)
      have hl2 : 48 ≤ m 3 (i + n) ∧ m 3 (i + n) ≤ 57 := of_decide_eq_true hl.2
      have hv := bA_v hl.1 (show 0 ≤ m 3 (i + n) by omega)
      have h4 := sce_t (b := m 3) (q := tkD) hl.1 hl.2
      have e : wn (m 3) i (n + 1) = wn (m 3) i n * 10 + m 3 (i + n) - 48 := rfl
      have ih2 : ∀ v', (0 ≤ v' ∧ v' ≤ 9999) → (n + 1 ≤ 4 → v' = wn (m 3) i (n + 1)) → _ := fun v' => ih (n + 1) v' (by omega) (by omega) (by rw [show i + ((n + 1 : Nat) : Int) = i + n + 1 by omega, ← h4]; exact h3)
      have e3 : ((n + 1 : Nat) : Int) = (n : Int) + 1 := by omega
      rw [e3] at ih2
      refine e_iload_n C d_Mo_cut_221 rfl ?_
      refine e_iconst C d_Mo_cut_222 ?_
      refine e_icmp_ge C 244 d_Mo_cut_223 (by decide) (by omega) (by omega) (fun c_223 => ?_) (fun c_223 => ?_)
      · refine e_iinc C d_Mo_cut_244 rfl (by decide) rfl ?_
        refine e_goto C 208 d_Mo_cut_247 (by decide) ?_
        refine ih2 _ ?_ ?_
        · first | exact hv1 | omega
        · intro w; first | omega | exact absurd w (by omega)
      · refine e_bipush C d_Mo_cut_226 (by decide) ?_
        refine e_iload C d_Mo_cut_228 rfl ?_
        refine e_imul C d_Mo_cut_230 ?_
        refine e_aload_n C d_Mo_cut_231 rfl ?_
        refine e_iload_n C d_Mo_cut_232 rfl ?_
        refine e_iload_n C d_Mo_cut_233 rfl ?_
        refine e_iadd C d_Mo_cut_234 ?_
        refine e_callIV C ok_Mo_byteAt lk_Mo_166 (o := 1) (by decide) rfl [_] rfl rfl (Nat.le_of_ble_eq_true rfl) (by decide) (Nat.le_of_ble_eq_true rfl) d_Mo_cut_235 (k_Mo_byteAt (by omega) hz) (fun v_235 u_235 q_235 h_235 => ?_)
        obtain ⟨rfl, rfl⟩ := h_235
        rw [hv]
        have hw4 := wn_4 (b := m 3) (i := i) (n := n + 1) (by omega) (fun q a => sce_is (m 3) (m 4 0) tkD i _ (by omega) (by have := sce_ge (m 3) (m 4 0) tkD (i + n + 1); omega))
        have hvn := hv2 (by omega)
        refine e_iadd C d_Mo_cut_238 ?_
        refine e_bipush C d_Mo_cut_239 (by decide) ?_
        refine e_isub C d_Mo_cut_241 ?_
        refine e_istore C d_Mo_cut_242 (by decide) rfl ?_
        refine e_iinc C d_Mo_cut_244 rfl (by decide) rfl ?_
        refine e_goto C 208 d_Mo_cut_247 (by decide) ?_
        refine ih2 _ ?_ ?_
        · first | exact hv1 | omega
        · intro w; first | omega | exact absurd w (by omega)
set_option maxRecDepth 100000 in
theorem ky_r : ∀ j : Fin 14, R64 (kyT.getD j.val 0) := by decide
theorem kms_r {v k a : Int} (hk : 0 ≤ k ∧ k < 14) (ha : 0 ≤ a ∧ a ≤ 40) : 0 ≤ kms v k a ∧ kms v k a ≤ 40 := by unfold kms; split <;> omega
theorem l_Mo_cutK {g : Mach} (C : Cx M_Mo_cut g) {σ : St} {m : Cs} {i c n nm : Int} (hK : KY m) (hn : R64 nm)  :
    ∀ (q : Nat) (k a : Int), 0 ≤ k → k + q = 14 → (0 ≤ a ∧ a ≤ 40) → (∀ a', (0 ≤ a' ∧ a' ≤ 40) → a' = itr (kms nm) q k a → Ev g 179 [some (.inr (.inr (1, 0))), some (.inl i), some (.inl c), some (.inl n), some (.inr (.inl nm)), none, some (.inl a'), none] [] (so σ 1 m)) → Ev g 146 [some (.inr (.inr (1, 0))), some (.inl i), some (.inl c), some (.inl n), some (.inr (.inl nm)), none, some (.inl a), some (.inl k)] [] (so σ 1 m) := by
  intro q
  induction q with
  | zero =>
    intro k a h0 h1 ha hE
    refine e_iload C d_Mo_cut_146 rfl ?_
    refine e_bipush C d_Mo_cut_148 (by decide) ?_
    refine e_icmp_ge C 179 d_Mo_cut_150 (by decide) (by omega) (by omega) (fun c_150 => ?_) (fun c_150 => ?_)
    · refine e_drop 7 ?_
      exact hE a ha rfl
    · exact absurd h1 (by omega)
  | succ q ih =>
    intro k a h0 h1 ha hE
    have hk := hK k h0 (by omega)
    have hr := ky_r ⟨k.toNat, by omega⟩
    have hr2 := kms_r (v := nm) (k := k) (a := a) (by omega) ha
    have ih2 := ih (k + 1) (kms nm k a) (by omega) (by omega) hr2 (fun a' r e => hE a' r (by rw [itr_S]; exact e))
    unfold kms at ih2
    refine e_iload C d_Mo_cut_146 rfl ?_
    refine e_bipush C d_Mo_cut_148 (by decide) ?_
    refine e_icmp_ge C 179 d_Mo_cut_150 (by decide) (by omega) (by omega) (fun c_150 => ?_) (fun c_150 => ?_)
    · exact absurd h1 (by omega)
    · refine e_aload_n C d_Mo_cut_153 rfl ?_
      refine e_geta C fl_Mo_34 (by decide) rfl rfl d_Mo_cut_154 ?_
      refine e_iload C d_Mo_cut_157 rfl ?_
      refine e_lald (n := 14) C (by decide) rfl (by decide) rfl rfl (by decide) (by omega) (by omega) d_Mo_cut_159 (fun r_159 => ?_)
      try simp only [so_at] at r_159 ⊢
      rw [hk] at r_159 ⊢
      refine e_lload C d_Mo_cut_160 rfl ?_
      refine e_lcmp C d_Mo_cut_162 hr hn ?_
      refine e_if_ne C 173 d_Mo_cut_163 (by decide) (z_cmp_r _ _) (fun c_163 => ?_) (fun c_163 => ?_)
      · rw [if_neg (fun z => c_163 (z_cmp_eq.mpr z))] at ih2
        refine e_iinc C d_Mo_cut_173 rfl (by decide) rfl ?_
        refine e_goto C 146 d_Mo_cut_176 (by decide) ?_
        exact ih2
      · rw [if_pos (z_cmp_eq.mp c_163)] at ih2
        refine e_bipush C d_Mo_cut_166 (by decide) ?_
        refine e_iload C d_Mo_cut_168 rfl ?_
        refine e_iadd C d_Mo_cut_170 ?_
        refine e_istore C d_Mo_cut_171 (by decide) rfl ?_
        refine e_iinc C d_Mo_cut_173 rfl (by decide) rfl ?_
        refine e_goto C 146 d_Mo_cut_176 (by decide) ?_
        exact ih2
set_option maxHeartbeats 2000000 in
theorem l_Mo_cut {g : Mach} {Q : St → Prop} (C : Cx M_Mo_cut g) (F : FinV M_Mo_cut g Q) {σ : St} {m : Cs} (hb : RB (m 3) (m 4 0)) (hK : KY m) (hQ : ∀ m', MC m m' → TM (tbl (m 3) (m 4 0)) m' → Q (so σ 1 m')) :
    ∀ (n : Nat) (i k : Int) (m' : Cs), (m 4 0 - i).toNat < n → CV (m 3) (m 4 0) m i k m' → Ev g 7 [some (.inr (.inr (1, 0))), some (.inl i), none, none, none, none, none, none] [] (so σ 1 m') := by
  have hz := hb.1
  intro n
  induction n with
  | zero => intro i k m' h0; exact absurd h0 (by omega)
  | succ n ih =>
    intro i k m' h0 hC
    have ⟨hi, hk, h10, hs, hm, hT⟩ := hC
    have m3 : m' 3 = m 3 := hm 3 (by decide) (by decide) (by decide) (by decide) (by decide)
    have m4 : m' 4 = m 4 := hm 4 (by decide) (by decide) (by decide) (by decide) (by decide)
    have m9 : m' 9 = m 9 := hm 9 (by decide) (by decide) (by decide) (by decide) (by decide)
    have hb' : RB (m' 3) (m' 4 0) := by rw [m3, m4]; exact hb
    have hz' := hb'.1
    have hK' : KY m' := fun k a b => by rw [m9]; exact hK k a b
    have hr := bA_r (i := i) hb hi.1
    refine e_aload_n C d_Mo_cut_7 rfl ?_
    refine e_geti C fl_Mo_163 (by decide) rfl rfl d_Mo_cut_8 (fun r_8 => ?_)
    try simp only [so_at, h10] at r_8 ⊢
    refine e_sipush C d_Mo_cut_11 (by decide) ?_
    refine e_icmp_gt C 294 d_Mo_cut_14 (by decide) (by omega) (by omega) (fun c_14 => ?_) (fun c_14 => ?_)
    · have hk4 : k = 401 := by omega
      refine e_vret C F rfl d_Mo_cut_294 ?_
      subst hk4
      exact hQ m' hm (TM_401 hT)
    · refine e_aload_n C d_Mo_cut_17 rfl ?_
      refine e_iload_n C d_Mo_cut_18 rfl ?_
      refine e_callIV C ok_Mo_byteAt lk_Mo_166 (o := 1) (by decide) rfl [_] rfl rfl (Nat.le_of_ble_eq_true rfl) (by decide) (Nat.le_of_ble_eq_true rfl) d_Mo_cut_19 (k_Mo_byteAt (by omega) hz') (fun v_19 u_19 q_19 h_19 => ?_)
      obtain ⟨rfl, rfl⟩ := h_19
      rw [m3, m4]
      refine e_istore_n C d_Mo_cut_22 (by decide) rfl ?_
      refine e_iload_n C d_Mo_cut_23 rfl ?_
      refine e_aload_n C d_Mo_cut_24 rfl ?_
      refine e_geti C fl_Mo_154 (by decide) rfl rfl d_Mo_cut_25 (fun r_25 => ?_)
      try simp only [so_at, h10] at r_25 ⊢
      rw [m4]
      refine e_icmp_lt C 43 d_Mo_cut_28 (by decide) (by omega) (by omega) (fun c_28 => ?_) (fun c_28 => ?_)
      · refine e_iload_n C d_Mo_cut_43 rfl ?_
        refine e_bipush C d_Mo_cut_44 (by decide) ?_
        refine e_icmp_eq C 67 d_Mo_cut_46 (by decide) (by omega) (by omega) (fun c_46 => ?_) (fun c_46 => ?_)
        · have hbl : tkB (m 3 i) = true := by rw [← bA_q hb hi.1 (by omega) tkB tkB_o]; exact decide_eq_true (by omega)
          have hN := hC.blank (by omega) hbl
          refine e_iinc C d_Mo_cut_67 rfl (by decide) rfl ?_
          refine e_goto C 291 d_Mo_cut_70 (by decide) ?_
          refine e_goto C 7 d_Mo_cut_291 (by decide) ?_
          refine e_drop 2 ?_
          refine e_drop 3 ?_
          refine e_drop 4 ?_
          refine e_drop 5 ?_
          refine e_drop 6 ?_
          refine e_drop 7 ?_
          exact ih _ _ _ (by omega) hN
        · refine e_iload_n C d_Mo_cut_49 rfl ?_
          refine e_bipush C d_Mo_cut_50 (by decide) ?_
          refine e_icmp_eq C 67 d_Mo_cut_52 (by decide) (by omega) (by omega) (fun c_52 => ?_) (fun c_52 => ?_)
          · have hbl : tkB (m 3 i) = true := by rw [← bA_q hb hi.1 (by omega) tkB tkB_o]; exact decide_eq_true (by omega)
            have hN := hC.blank (by omega) hbl
            refine e_iinc C d_Mo_cut_67 rfl (by decide) rfl ?_
            refine e_goto C 291 d_Mo_cut_70 (by decide) ?_
            refine e_goto C 7 d_Mo_cut_291 (by decide) ?_
            refine e_drop 2 ?_
            refine e_drop 3 ?_
            refine e_drop 4 ?_
            refine e_drop 5 ?_
            refine e_drop 6 ?_
            refine e_drop 7 ?_
            exact ih _ _ _ (by omega) hN
          · refine e_iload_n C d_Mo_cut_55 rfl ?_
            refine e_bipush C d_Mo_cut_56 (by decide) ?_
            refine e_icmp_eq C 67 d_Mo_cut_58 (by decide) (by omega) (by omega) (fun c_58 => ?_) (fun c_58 => ?_)
            · have hbl : tkB (m 3 i) = true := by rw [← bA_q hb hi.1 (by omega) tkB tkB_o]; exact decide_eq_true (by omega)
              have hN := hC.blank (by omega) hbl
              refine e_iinc C d_Mo_cut_67 rfl (by decide) rfl ?_
              refine e_goto C 291 d_Mo_cut_70 (by decide) ?_
              refine e_goto C 7 d_Mo_cut_291 (by decide) ?_
              refine e_drop 2 ?_
              refine e_drop 3 ?_
              refine e_drop 4 ?_
              refine e_drop 5 ?_
              refine e_drop 6 ?_
              refine e_drop 7 ?_
              exact ih _ _ _ (by omega) hN
            · refine e_iload_n C d_Mo_cut_61 rfl ?_
              refine e_bipush C d_Mo_cut_62 (by decide) ?_
              refine e_icmp_ne C 73 d_Mo_cut_64 (by decide) (by omega) (by omega) (fun c_64 => ?_) (fun c_64 => ?_)
              · have hbl : ¬ tkB (m 3 i) = true := by rw [← bA_q hb hi.1 (by omega) tkB tkB_o]; intro w; have w := of_decide_eq_true w; omega
                have hkk := tkN_in (b := m 3) (show i < m 4 0 by omega)
                refine e_iload_n C d_Mo_cut_73 rfl ?_
                refine e_callIS C ok_Mo_isLetter lk_Mo_174 [_] rfl rfl (Nat.le_of_ble_eq_true rfl) (by decide) (Nat.le_of_ble_eq_true rfl) d_Mo_cut_74 (k_Mo_isLetter (by omega)) (fun v_74 u_74 q_74 h_74 => ?_)
                obtain ⟨rfl, rfl⟩ := h_74
                refine e_if_eq C 196 d_Mo_cut_77 (by decide) (by split <;> omega) (fun c_77 => ?_) (fun c_77 => ?_)
                · have hl : ¬ tkL (m 3 i) = true := fun w => bo_f c_77 ((bA_L hb hi.1).mpr ⟨by omega, w⟩)
                  refine e_iload_n C d_Mo_cut_196 rfl ?_
                  refine e_callIS C ok_Mo_isDigit lk_Mo_178 [_] rfl rfl (Nat.le_of_ble_eq_true rfl) (by decide) (Nat.le_of_ble_eq_true rfl) d_Mo_cut_197 (k_Mo_isDigit (by omega)) (fun v_197 u_197 q_197 h_197 => ?_)
                  obtain ⟨rfl, rfl⟩ := h_197
                  refine e_if_eq C 275 d_Mo_cut_200 (by decide) (by split <;> omega) (fun c_200 => ?_) (fun c_200 => ?_)
                  · have hd : ¬ tkD (m 3 i) = true := fun w => bo_f c_200 ((bA_D hb hi.1).mpr ⟨by omega, w⟩)
                    have eN : tkN (m 3) (m 4 0) i = i + 1 := by unfold tkN; rw [if_neg hl, if_neg hd]
                    have eK : tkK (m 3) (m 4 0) i = if tkS (m 3 i) = true then m 3 i else 129 := by unfold tkK; rw [if_neg hl, if_neg hd]
                    refine e_iload_n C d_Mo_cut_275 rfl ?_
                    refine e_aload_n C d_Mo_cut_276 rfl ?_
                    refine e_iload_n C d_Mo_cut_277 rfl ?_
                    refine e_iload_n C d_Mo_cut_278 rfl ?_
                    refine e_aload_n C d_Mo_cut_279 rfl ?_
                    refine e_iload_n C d_Mo_cut_280 rfl ?_
                    refine e_iconst C d_Mo_cut_281 ?_
                    refine e_iadd C d_Mo_cut_282 ?_
                    refine e_callIV C ok_Mo_byteAt lk_Mo_166 (o := 1) (by decide) rfl [_] rfl rfl (Nat.le_of_ble_eq_true rfl) (by decide) (Nat.le_of_ble_eq_true rfl) d_Mo_cut_283 (k_Mo_byteAt (by omega) hz') (fun v_283 u_283 q_283 h_283 => ?_)
                    obtain ⟨rfl, rfl⟩ := h_283
                    refine e_callIV C ok_Mo_sign lk_Mo_181 (o := 1) (by decide) rfl [_, _, _] rfl rfl (Nat.le_of_ble_eq_true rfl) (by decide) (Nat.le_of_ble_eq_true rfl) d_Mo_cut_286 (k_Mo_sign h10 (by omega) (by omega) (by omega)) (fun v_286 u_286 q_286 h_286 => ?_)
                    obtain ⟨rfl, rfl⟩ := h_286
                    have hN := hC.step (v := 0) (nm := 0) (kn := sgm (bA (m 3) (m 4 0) i)) (by omega) (by omega) hbl (by rw [sgm_is, eK, bA_q hb hi.1 (by omega) tkS tkS_o]; by_cases w : tkS (m 3 i) = true; · { rw [if_pos w, if_pos w, bA_v (by omega) (by have := of_decide_eq_true w; omega)] }; · { rw [if_neg w, if_neg w] }) (fun w => by rw [eK] at w; split at w; · { rename_i h; have := of_decide_eq_true h; omega }; · omega) (fun w => by rw [eK] at w; split at w; · { rename_i h; have := of_decide_eq_true h; omega }; · omega)
                    rw [eN] at hN
                    refine e_iadd C d_Mo_cut_289 ?_
                    refine e_istore_n C d_Mo_cut_290 (by decide) rfl ?_
                    refine e_goto C 7 d_Mo_cut_291 (by decide) ?_
                    refine e_drop 2 ?_
                    refine e_drop 3 ?_
                    refine e_drop 4 ?_
                    refine e_drop 5 ?_
                    refine e_drop 6 ?_
                    refine e_drop 7 ?_
                    exact ih _ _ _ (by omega) hN
                  · have hd := ((bA_D hb hi.1).mp (bo_t c_200)).2
                    have eN : tkN (m 3) (m 4 0) i = sce (m 3) (m 4 0) tkD i := by unfold tkN; rw [if_neg hl, if_pos hd]
                    have eK : tkK (m 3) (m 4 0) i = if 4 < nln (m 3) (m 4 0) tkD i then 129 else 131 := by unfold tkK; rw [if_neg hl, if_pos hd]
                    have en : ((nln (m 3) (m 4 0) tkD i : Nat) : Int) = tkN (m 3) (m 4 0) i - i := by rw [eN]; have := sce_ge (m 3) (m 4 0) tkD i; unfold nln; omega
                    refine e_iconst C d_Mo_cut_203 ?_
                    refine e_istore_n C d_Mo_cut_204 (by decide) rfl ?_
                    refine e_iconst C d_Mo_cut_205 ?_
                    refine e_istore C d_Mo_cut_206 (by decide) rfl ?_
                    have := l_Mo_cutD (σ := σ) (i := i) (c := bA (m 3) (m 4 0) i) C hb' (by omega) ?_ _ 0 0 rfl (by rw [m4]; omega) (by simp) (by omega) (fun _ => rfl)
                    · exact this
                    rw [m3, m4]
                    intro v rv hv
                    refine e_aload_n C d_Mo_cut_250 rfl ?_
                    refine e_iload_n C d_Mo_cut_251 rfl ?_
                    refine e_iconst C d_Mo_cut_252 ?_
                    refine e_icmp_le C 260 d_Mo_cut_253 (by decide) (by omega) (by omega) (fun c_253 => ?_) (fun c_253 => ?_)
                    · rw [if_neg (by omega)] at eK
                      have e2 := hv (by omega)
                      refine e_iconst C d_Mo_cut_260 ?_
                      refine e_iload_n C d_Mo_cut_261 rfl ?_
                      refine e_iload C d_Mo_cut_262 rfl ?_
                      refine e_lconst (z := 0) C d_Mo_cut_264 (by decide) ?_
                      refine e_callVV C ok_Mo_token lk_Mo_170 (o := 1) (by decide) rfl [_, _, _, _] rfl rfl (Nat.le_of_ble_eq_true rfl) (by decide) (Nat.le_of_ble_eq_true rfl) d_Mo_cut_265 (k_Mo_token h10 (by omega) (by omega) (by omega) rv ⟨by omega, by omega⟩) (fun u_265 h_265 => ?_)
                      subst h_265
                      refine e_iload_n C d_Mo_cut_268 rfl ?_
                      refine e_iload_n C d_Mo_cut_269 rfl ?_
                      refine e_iadd C d_Mo_cut_270 ?_
                      refine e_istore_n C d_Mo_cut_271 (by decide) rfl ?_
                      refine e_goto C 291 d_Mo_cut_272 (by decide) ?_
                      refine e_goto C 7 d_Mo_cut_291 (by decide) ?_
                      rw [show i + ((nln (m 3) (m 4 0) tkD i : Nat) : Int) = tkN (m 3) (m 4 0) i by omega]
                      refine e_drop 2 ?_
                      refine e_drop 3 ?_
                      refine e_drop 4 ?_
                      exact ih _ _ _ (by omega) (hC.step (by omega) (by omega) hbl (by rw [eK]; decide) (fun w => by first | exact e2 | (rw [eK] at w; omega)) (fun w => by rw [eK] at w; omega))
                    · rw [if_pos (by omega)] at eK
                      refine e_iconst C d_Mo_cut_256 ?_
                      refine e_goto C 261 d_Mo_cut_257 (by decide) ?_
                      refine e_iload_n C d_Mo_cut_261 rfl ?_
                      refine e_iload C d_Mo_cut_262 rfl ?_
                      refine e_lconst (z := 0) C d_Mo_cut_264 (by decide) ?_
                      refine e_callVV C ok_Mo_token lk_Mo_170 (o := 1) (by decide) rfl [_, _, _, _] rfl rfl (Nat.le_of_ble_eq_true rfl) (by decide) (Nat.le_of_ble_eq_true rfl) d_Mo_cut_265 (k_Mo_token h10 (by omega) (by omega) (by omega) rv ⟨by omega, by omega⟩) (fun u_265 h_265 => ?_)
                      subst h_265
                      refine e_iload_n C d_Mo_cut_268 rfl ?_
                      refine e_iload_n C d_Mo_cut_269 rfl ?_
                      refine e_iadd C d_Mo_cut_270 ?_
                      refine e_istore_n C d_Mo_cut_271 (by decide) rfl ?_
                      refine e_goto C 291 d_Mo_cut_272 (by decide) ?_
                      refine e_goto C 7 d_Mo_cut_291 (by decide) ?_
                      rw [show i + ((nln (m 3) (m 4 0) tkD i : Nat) : Int) = tkN (m 3) (m 4 0) i by omega]
                      refine e_drop 2 ?_
                      refine e_drop 3 ?_
                      refine e_drop 4 ?_
                      exact ih _ _ _ (by omega) (hC.step (by omega) (by omega) hbl (by rw [eK]; decide) (fun w => by first | exact e2 | (rw [eK] at w; omega)) (fun w => by rw [eK] at w; omega))
                · have hl := ((bA_L hb hi.1).mp (bo_t c_77)).2
                  have eN : tkN (m 3) (m 4 0) i = sce (m 3) (m 4 0) tkL i := by unfold tkN; rw [if_pos hl]
                  have eK : tkK (m 3) (m 4 0) i = if 8 < nln (m 3) (m 4 0) tkL i then 129 else kw (w2 (m 3) i (nln (m 3) (m 4 0) tkL i)) := by unfold tkK; rw [if_pos hl]
                  have en : ((nln (m 3) (m 4 0) tkL i : Nat) : Int) = tkN (m 3) (m 4 0) i - i := by rw [eN]; have := sce_ge (m 3) (m 4 0) tkL i; unfold nln; omega
                  have hw := w27_in (b := m 3) (i := i) (nln (m 3) (m 4 0) tkL i) nln_is
                  have hsK : ∀ kn, kn = mk (tkK (m 3) (m 4 0) i) → CV (m 3) (m 4 0) m (tkN (m 3) (m 4 0) i) (k + 1) (tokM m' k kn i 0 (w27 (m 3) i (nln (m 3) (m 4 0) tkL i))) := fun kn e => hC.step (by omega) (by omega) hbl e (fun w => by rw [eK] at w; by_cases v : 8 < nln (m 3) (m 4 0) tkL i; · { rw [if_pos v] at w; omega }; · { rw [if_neg v] at w; have := (kw_km (b := m 3) (i := i) (n := nln (m 3) (m 4 0) tkL i) (by omega) nln_is).2; omega }) (fun _ => rfl)
                  refine e_iconst C d_Mo_cut_80 ?_
                  refine e_istore_n C d_Mo_cut_81 (by decide) rfl ?_
                  refine e_lconst (z := 0) C d_Mo_cut_82 (by decide) ?_
                  refine e_lstore C d_Mo_cut_83 (by decide) rfl ?_
                  have := l_Mo_cutW (σ := σ) (i := i) (c := bA (m 3) (m 4 0) i) C hb' (by omega) ?_ _ 0 rfl (by rw [m4]; omega) (by simp)
                  · exact this
                  rw [m3, m4]
                  have f179 : ∀ a', (0 ≤ a' ∧ a' ≤ 40) → a' = mk (tkK (m 3) (m 4 0) i) → Ev g 179 [some (.inr (.inr (1, 0))), some (.inl i), some (.inl (bA (m 3) (m 4 0) i)), some (.inl (nln (m 3) (m 4 0) tkL i)), some (.inr (.inl (w27 (m 3) i (nln (m 3) (m 4 0) tkL i)))), none, some (.inl a'), none] [] (so σ 1 m') := by
                    intro a' ra ha'
                    refine e_aload_n C d_Mo_cut_179 rfl ?_
                    refine e_iload C d_Mo_cut_180 rfl ?_
                    refine e_iload_n C d_Mo_cut_182 rfl ?_
                    refine e_iconst C d_Mo_cut_183 ?_
                    refine e_lload C d_Mo_cut_184 rfl ?_
                    refine e_callVV C ok_Mo_token lk_Mo_170 (o := 1) (by decide) rfl [_, _, _, _] rfl rfl (Nat.le_of_ble_eq_true rfl) (by decide) (Nat.le_of_ble_eq_true rfl) d_Mo_cut_186 (k_Mo_token h10 (by omega) (by omega) (by omega) (by omega) ⟨by omega, by omega⟩) (fun u_186 h_186 => ?_)
                    subst h_186
                    refine e_iload_n C d_Mo_cut_189 rfl ?_
                    refine e_iload_n C d_Mo_cut_190 rfl ?_
                    refine e_iadd C d_Mo_cut_191 ?_
                    refine e_istore_n C d_Mo_cut_192 (by decide) rfl ?_
                    refine e_goto C 291 d_Mo_cut_193 (by decide) ?_
                    refine e_goto C 7 d_Mo_cut_291 (by decide) ?_
                    rw [show i + ((nln (m 3) (m 4 0) tkL i : Nat) : Int) = tkN (m 3) (m 4 0) i by omega]
                    refine e_drop 2 ?_
                    refine e_drop 3 ?_
                    refine e_drop 4 ?_
                    refine e_drop 6 ?_
                    exact ih _ _ _ (by omega) (hsK a' ha')
                  generalize hnn : nln (m 3) (m 4 0) tkL i = nn at *
                  have hkk2 : nn ≤ 8 → (if nn ≤ 7 then km (w27 (m 3) i nn) else 1) = mk (kw (w2 (m 3) i nn)) := fun w => (kw_km (b := m 3) (i := i) (n := nn) w (by rw [← hnn]; exact nln_is)).1
                  refine e_iload_n C d_Mo_cut_124 rfl ?_
                  refine e_bipush C d_Mo_cut_125 (by decide) ?_
                  refine e_icmp_le C 134 d_Mo_cut_127 (by decide) (by omega) (by omega) (fun c_127 => ?_) (fun c_127 => ?_)
                  · have hn8 : nn ≤ 8 := by omega
                    have hq := hkk2 hn8
                    rw [if_neg (by omega)] at eK
                    refine e_iconst C d_Mo_cut_134 ?_
                    refine e_istore C d_Mo_cut_135 (by decide) rfl ?_
                    refine e_iload_n C d_Mo_cut_137 rfl ?_
                    refine e_bipush C d_Mo_cut_138 (by decide) ?_
                    refine e_icmp_gt C 179 d_Mo_cut_140 (by decide) (by omega) (by omega) (fun c_140 => ?_) (fun c_140 => ?_)
                    · try rw [if_neg (by omega)] at hq
                      first | exact f179 _ (by omega) (by rw [eK]; exact hq) | exact f179 _ (by omega) (by rw [eK]; decide)
                    · try rw [if_pos (by omega)] at hq
                      refine e_iconst C d_Mo_cut_143 ?_
                      refine e_istore C d_Mo_cut_144 (by decide) rfl ?_
                      first | exact absurd hn8 (by omega) | exact l_Mo_cutK C hK' ⟨by omega, by omega⟩ 14 0 1 (by omega) (by omega) (by omega) (fun a' r e => f179 a' r (by rw [eK, ← hq, e]; rfl)) | exact absurd (show (8 : Int) < nn by omega) (by omega)
                  · rw [if_pos (by omega)] at eK
                    refine e_iconst C d_Mo_cut_130 ?_
                    refine e_goto C 135 d_Mo_cut_131 (by decide) ?_
                    refine e_istore C d_Mo_cut_135 (by decide) rfl ?_
                    refine e_iload_n C d_Mo_cut_137 rfl ?_
                    refine e_bipush C d_Mo_cut_138 (by decide) ?_
                    refine e_icmp_gt C 179 d_Mo_cut_140 (by decide) (by omega) (by omega) (fun c_140 => ?_) (fun c_140 => ?_)
                    · try rw [if_neg (by omega)] at hq
                      first | exact f179 _ (by omega) (by rw [eK]; exact hq) | exact f179 _ (by omega) (by rw [eK]; decide)
                    · try rw [if_pos (by omega)] at hq
                      refine e_iconst C d_Mo_cut_143 ?_
                      refine e_istore C d_Mo_cut_144 (by decide) rfl ?_
                      first | exact absurd hn8 (by omega) | exact l_Mo_cutK C hK' ⟨by omega, by omega⟩ 14 0 1 (by omega) (by omega) (by omega) (fun a' r e => f179 a' r (by rw [eK, ← hq, e]; rfl)) | exact absurd (show (8 : Int) < nn by omega) (by omega)
              · have hbl : tkB (m 3 i) = true := by rw [← bA_q hb hi.1 (by omega) tkB tkB_o]; exact decide_eq_true (by omega)
                have hN := hC.blank (by omega) hbl
                refine e_iinc C d_Mo_cut_67 rfl (by decide) rfl ?_
                refine e_goto C 291 d_Mo_cut_70 (by decide) ?_
                refine e_goto C 7 d_Mo_cut_291 (by decide) ?_
                refine e_drop 2 ?_
                refine e_drop 3 ?_
                refine e_drop 4 ?_
                refine e_drop 5 ?_
                refine e_drop 6 ?_
                refine e_drop 7 ?_
                exact ih _ _ _ (by omega) hN
      · refine e_aload_n C d_Mo_cut_31 rfl ?_
        refine e_iconst C d_Mo_cut_32 ?_
        refine e_aload_n C d_Mo_cut_33 rfl ?_
        refine e_geti C fl_Mo_154 (by decide) rfl rfl d_Mo_cut_34 (fun r_34 => ?_)
        try simp only [so_at, h10] at r_34 ⊢
        refine e_iconst C d_Mo_cut_37 ?_
        refine e_lconst (z := 0) C d_Mo_cut_38 (by decide) ?_
        refine e_callVV C ok_Mo_token lk_Mo_170 (o := 1) (by decide) rfl [_, _, _, _] rfl rfl (Nat.le_of_ble_eq_true rfl) (by decide) (Nat.le_of_ble_eq_true rfl) d_Mo_cut_39 (k_Mo_token h10 (by omega) (by omega) (by rw [m4]; omega) (by omega) ⟨by omega, by omega⟩) (fun u_39 h_39 => ?_)
        subst h_39
        refine e_vret C F rfl d_Mo_cut_42 ?_
        refine hQ _ hm.tok ?_
        rw [m4]
        exact TM_end hz.1 hC (by omega)
theorem k_Mo_cut {σ : St} {m : Cs} (hb : RB (m 3) (m 4 0)) (hK : KY m) : CtV M_Mo_cut [.inr (.inr (1, 0))] (so σ 1 m) (fun u => ∃ m', MC m m' ∧ TM (tbl (m 3) (m 4 0)) m' ∧ u = so σ 1 m') := by
  intro g C F
  refine e_aload_n C d_Mo_cut_0 rfl ?_
  refine e_iconst C d_Mo_cut_1 ?_
  refine e_puti C fp_Mo_163 (by decide) rfl rfl (by omega) d_Mo_cut_2 ?_
  try simp only [so_at, so_so, wr_so]
  refine e_iconst C d_Mo_cut_5 ?_
  refine e_istore_n C d_Mo_cut_6 (by decide) rfl ?_
  have hm : MC m (cu m 10 0 0) := fun f _ _ _ _ a => by funext q; exact cu_f a
  refine l_Mo_cut C F hb hK (fun m' a b => ⟨m', a, b, rfl⟩) _ 0 0 _ (Nat.lt_succ_self _) ⟨⟨by omega, hb.1.1⟩, by omega, cu_s _ _ _ _, rfl, hm, fun j a b => by omega⟩
