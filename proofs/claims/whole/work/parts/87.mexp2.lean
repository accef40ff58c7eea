/-! the reference's expressions, on -/
set_option maxRecDepth 100000 in
theorem mk_var : ∀ a ∈ kds, ((29 ≤ mk a ∧ mk a ≤ 33) ↔ (132 ≤ a ∧ a ≤ 136)) ∧ (132 ≤ a ∧ a ≤ 136 → mk a - 29 = a - 132) := by decide
theorem emt_lo {m : Cs} {n k v : Int} {f : Nat} (h : f ≠ 42) (h1 : f ≠ 43) (h2 : f ≠ 44) : emt m n k v f = m f := by unfold emt; rw [cf_f h, cf_f h2, cf_f h1]
theorem MH.em {T : Tab} {m : Cs} {t n k v : Int} (h : MH T m t) : MH T (emt m n k v) t := h.same (fun f hf => emt_lo (by omega) (by omega) (by omega)) (by rw [emt_lo (by decide) (by decide) (by decide)]) (by rw [emt_lo (by decide) (by decide) (by decide)])
theorem if1_t {p : Prop} [Decidable p] (h : (if p then (1 : Int) else 0) ≠ 0) : p := Decidable.byContradiction fun z => by rw [if_neg z] at h; omega
theorem if1_f {p : Prop} [Decidable p] (h : (if p then (1 : Int) else 0) = 0) : ¬ p := fun z => by rw [if_pos z] at h; omega
set_option maxHeartbeats 1000000 in
theorem k_Mo_unit {T : Tab} {σ : St} {m : Cs} {t n : Int} (h : MH T m t) (hn : m 42 0 = n) (h9 : 0 ≤ n ∧ n < 840) : CtV M_Mo_unit [.inr (.inr (1, 0))] (so σ 1 m) (fun u => (∃ cd : Cd, ((T.1 t = 131 ∧ cd = (0, T.2.2.1 t)) ∨ ((132 ≤ T.1 t ∧ T.1 t ≤ 137) ∧ cd = (1, T.1 t - 132))) ∧ ((t = 400 ∧ u = so σ 1 (flt (emt m n cd.1 cd.2) 2 (T.2.1 t))) ∨ (t < 400 ∧ u = so σ 1 (cu (emt m n cd.1 cd.2) 11 0 (t + 1))))) ∨ ((T.1 t < 131 ∨ 137 < T.1 t) ∧ u = so σ 1 (flt m 1 (T.2.1 t)))) := by
  intro g C F
  have e11 := h.2.2.1
  have h0 := h.2.2.2.1
  have e5 := h.tok.1
  have e13 := h.2.2.2.2.2
  have hr := h.mk
  have hk := h.1.k t
  obtain ⟨v1, v2⟩ := mk_var _ (h.1.1 t)
  refine e_aload_n C d_Mo_unit_0 rfl ?_
  refine e_iconst C d_Mo_unit_1 ?_
  refine e_callIV C ok_Mo_is lk_Mo_203 (o := 1) (by decide) rfl [_] rfl rfl (Nat.le_of_ble_eq_true rfl) (by decide) (Nat.le_of_ble_eq_true rfl) d_Mo_unit_2 (k_Mo_is h (k' := 131) (by decide) (by decide)) (fun v_2 u_2 q_2 h_2 => ?_)
  obtain ⟨rfl, rfl⟩ := h_2
  refine e_if_eq C 29 d_Mo_unit_5 (by decide) (by split <;> omega) (fun c_5 => ?_) (fun c_5 => ?_)
  · have hv := if1_f c_5
    refine e_aload_n C d_Mo_unit_29 rfl ?_
    refine e_geti C fl_Mo_185 (by decide) rfl rfl d_Mo_unit_30 (fun r_30 => ?_)
    try simp only [so_at, e11, e5, e13] at r_30 ⊢
    refine e_if_ne C 110 d_Mo_unit_33 (by decide) (by omega) (fun c_33 => ?_) (fun c_33 => ?_)
    · exact absurd rfl c_33
    · refine e_aload_n C d_Mo_unit_36 rfl ?_
      refine e_geta C fl_Mo_20 (by decide) rfl rfl d_Mo_unit_37 ?_
      refine e_aload_n C d_Mo_unit_40 rfl ?_
      refine e_geti C fl_Mo_188 (by decide) rfl rfl d_Mo_unit_41 (fun r_41 => ?_)
      try simp only [so_at, e11, e5, e13] at r_41 ⊢
      refine e_iald (n := 403) C (by decide) rfl (by decide) rfl rfl (by decide) (by omega) (by omega) d_Mo_unit_44 (fun r_44 => ?_)
      try simp only [so_at, e11, e5, e13] at r_44 ⊢
      refine e_bipush C d_Mo_unit_45 (by decide) ?_
      refine e_icmp_lt C 64 d_Mo_unit_47 (by decide) (by omega) (by omega) (fun c_47 => ?_) (fun c_47 => ?_)
      · refine e_aload_n C d_Mo_unit_64 rfl ?_
        refine e_bipush C d_Mo_unit_65 (by decide) ?_
        refine e_callIV C ok_Mo_is lk_Mo_203 (o := 1) (by decide) rfl [_] rfl rfl (Nat.le_of_ble_eq_true rfl) (by decide) (Nat.le_of_ble_eq_true rfl) d_Mo_unit_67 (k_Mo_is h (k' := 137) (by decide) (by decide)) (fun v_67 u_67 q_67 h_67 => ?_)
        obtain ⟨rfl, rfl⟩ := h_67
        refine e_if_eq C 110 d_Mo_unit_70 (by decide) (by split <;> omega) (fun c_70 => ?_) (fun c_70 => ?_)
        · have hv2 := if1_f c_70
          refine e_aload_n C d_Mo_unit_110 rfl ?_
          refine e_iconst C d_Mo_unit_111 ?_
          refine e_callVV C ok_Mo_fail lk_Mo_200 (o := 1) (by decide) rfl [_] rfl rfl (Nat.le_of_ble_eq_true rfl) (by decide) (Nat.le_of_ble_eq_true rfl) d_Mo_unit_112 (k_Mo_fail h (by omega)) (fun u_112 h_112 => ?_)
          subst h_112
          refine e_vret C F rfl d_Mo_unit_115 ?_
          exact Or.inr ⟨by omega, rfl⟩
        · have hv2 := if1_t c_70
          refine e_aload_n C d_Mo_unit_73 rfl ?_
          refine e_iconst C d_Mo_unit_74 ?_
          refine e_aload_n C d_Mo_unit_75 rfl ?_
          refine e_bipush C d_Mo_unit_76 (by decide) ?_
          refine e_callIV C ok_Mo_is lk_Mo_203 (o := 1) (by decide) rfl [_] rfl rfl (Nat.le_of_ble_eq_true rfl) (by decide) (Nat.le_of_ble_eq_true rfl) d_Mo_unit_78 (k_Mo_is h (k' := 137) (by decide) (by decide)) (fun v_78 u_78 q_78 h_78 => ?_)
          obtain ⟨rfl, rfl⟩ := h_78
          refine e_if_eq C 88 d_Mo_unit_81 (by decide) (by split <;> omega) (fun c_81 => ?_) (fun c_81 => ?_)
          · have hv3 := if1_f c_81
            refine e_aload_n C d_Mo_unit_88 rfl ?_
            refine e_geta C fl_Mo_20 (by decide) rfl rfl d_Mo_unit_89 ?_
            refine e_aload_n C d_Mo_unit_92 rfl ?_
            refine e_geti C fl_Mo_188 (by decide) rfl rfl d_Mo_unit_93 (fun r_93 => ?_)
            try simp only [so_at, e11, e5, e13] at r_93 ⊢
            refine e_iald (n := 403) C (by decide) rfl (by decide) rfl rfl (by decide) (by omega) (by omega) d_Mo_unit_96 (fun r_96 => ?_)
            try simp only [so_at, e11, e5, e13] at r_96 ⊢
            refine e_bipush C d_Mo_unit_97 (by decide) ?_
            refine e_isub C d_Mo_unit_99 ?_
            have ev : ∀ z, z = T.1 t - 132 → (132 ≤ T.1 t ∧ T.1 t ≤ 137) → Ev g 100 [some (.inr (.inr (1, 0)))] [.inl z, .inl 1, .inr (.inr (1, 0))] (so σ 1 m) := by
              intro z hz hzz
              refine e_callVV C ok_Mo_emit lk_Mo_288 (o := 1) (by decide) rfl [_, _] rfl rfl (Nat.le_of_ble_eq_true rfl) (by decide) (Nat.le_of_ble_eq_true rfl) d_Mo_unit_100 (k_Mo_emit hn h9 (by omega) (by omega)) (fun u_100 h_100 => ?_)
              subst h_100
              refine e_aload_n C d_Mo_unit_103 rfl ?_
              refine e_callVV C ok_Mo_goesOn lk_Mo_206 (o := 1) (by decide) rfl [] rfl rfl (Nat.le_of_ble_eq_true rfl) (by decide) (Nat.le_of_ble_eq_true rfl) d_Mo_unit_104 (k_Mo_goesOn h.em) (fun u_104 h_104 => ?_)
              refine e_goto C 115 d_Mo_unit_107 (by decide) ?_
              refine e_vret C F rfl d_Mo_unit_115 ?_
              exact Or.inl ⟨(1, T.1 t - 132), Or.inr ⟨hzz, rfl⟩, by rw [← hz]; exact h_104⟩
            first | exact ev _ (by omega) (by omega) | (exfalso; omega)
          · have hv3 := if1_t c_81
            refine e_iconst C d_Mo_unit_84 ?_
            refine e_goto C 100 d_Mo_unit_85 (by decide) ?_
            have ev : ∀ z, z = T.1 t - 132 → (132 ≤ T.1 t ∧ T.1 t ≤ 137) → Ev g 100 [some (.inr (.inr (1, 0)))] [.inl z, .inl 1, .inr (.inr (1, 0))] (so σ 1 m) := by
              intro z hz hzz
              refine e_callVV C ok_Mo_emit lk_Mo_288 (o := 1) (by decide) rfl [_, _] rfl rfl (Nat.le_of_ble_eq_true rfl) (by decide) (Nat.le_of_ble_eq_true rfl) d_Mo_unit_100 (k_Mo_emit hn h9 (by omega) (by omega)) (fun u_100 h_100 => ?_)
              subst h_100
              refine e_aload_n C d_Mo_unit_103 rfl ?_
              refine e_callVV C ok_Mo_goesOn lk_Mo_206 (o := 1) (by decide) rfl [] rfl rfl (Nat.le_of_ble_eq_true rfl) (by decide) (Nat.le_of_ble_eq_true rfl) d_Mo_unit_104 (k_Mo_goesOn h.em) (fun u_104 h_104 => ?_)
              refine e_goto C 115 d_Mo_unit_107 (by decide) ?_
              refine e_vret C F rfl d_Mo_unit_115 ?_
              exact Or.inl ⟨(1, T.1 t - 132), Or.inr ⟨hzz, rfl⟩, by rw [← hz]; exact h_104⟩
            first | exact ev _ (by omega) (by omega) | (exfalso; omega)
      · refine e_aload_n C d_Mo_unit_50 rfl ?_
        refine e_geta C fl_Mo_20 (by decide) rfl rfl d_Mo_unit_51 ?_
        refine e_aload_n C d_Mo_unit_54 rfl ?_
        refine e_geti C fl_Mo_188 (by decide) rfl rfl d_Mo_unit_55 (fun r_55 => ?_)
        try simp only [so_at, e11, e5, e13] at r_55 ⊢
        refine e_iald (n := 403) C (by decide) rfl (by decide) rfl rfl (by decide) (by omega) (by omega) d_Mo_unit_58 (fun r_58 => ?_)
        try simp only [so_at, e11, e5, e13] at r_58 ⊢
        refine e_bipush C d_Mo_unit_59 (by decide) ?_
        refine e_icmp_le C 73 d_Mo_unit_61 (by decide) (by omega) (by omega) (fun c_61 => ?_) (fun c_61 => ?_)
        · refine e_aload_n C d_Mo_unit_73 rfl ?_
          refine e_iconst C d_Mo_unit_74 ?_
          refine e_aload_n C d_Mo_unit_75 rfl ?_
          refine e_bipush C d_Mo_unit_76 (by decide) ?_
          refine e_callIV C ok_Mo_is lk_Mo_203 (o := 1) (by decide) rfl [_] rfl rfl (Nat.le_of_ble_eq_true rfl) (by decide) (Nat.le_of_ble_eq_true rfl) d_Mo_unit_78 (k_Mo_is h (k' := 137) (by decide) (by decide)) (fun v_78 u_78 q_78 h_78 => ?_)
          obtain ⟨rfl, rfl⟩ := h_78
          refine e_if_eq C 88 d_Mo_unit_81 (by decide) (by split <;> omega) (fun c_81 => ?_) (fun c_81 => ?_)
          · have hv3 := if1_f c_81
            refine e_aload_n C d_Mo_unit_88 rfl ?_
            refine e_geta C fl_Mo_20 (by decide) rfl rfl d_Mo_unit_89 ?_
            refine e_aload_n C d_Mo_unit_92 rfl ?_
            refine e_geti C fl_Mo_188 (by decide) rfl rfl d_Mo_unit_93 (fun r_93 => ?_)
            try simp only [so_at, e11, e5, e13] at r_93 ⊢
            refine e_iald (n := 403) C (by decide) rfl (by decide) rfl rfl (by decide) (by omega) (by omega) d_Mo_unit_96 (fun r_96 => ?_)
            try simp only [so_at, e11, e5, e13] at r_96 ⊢
            refine e_bipush C d_Mo_unit_97 (by decide) ?_
            refine e_isub C d_Mo_unit_99 ?_
            have ev : ∀ z, z = T.1 t - 132 → (132 ≤ T.1 t ∧ T.1 t ≤ 137) → Ev g 100 [some (.inr (.inr (1, 0)))] [.inl z, .inl 1, .inr (.inr (1, 0))] (so σ 1 m) := by
              intro z hz hzz
              refine e_callVV C ok_Mo_emit lk_Mo_288 (o := 1) (by decide) rfl [_, _] rfl rfl (Nat.le_of_ble_eq_true rfl) (by decide) (Nat.le_of_ble_eq_true rfl) d_Mo_unit_100 (k_Mo_emit hn h9 (by omega) (by omega)) (fun u_100 h_100 => ?_)
              subst h_100
              refine e_aload_n C d_Mo_unit_103 rfl ?_
              refine e_callVV C ok_Mo_goesOn lk_Mo_206 (o := 1) (by decide) rfl [] rfl rfl (Nat.le_of_ble_eq_true rfl) (by decide) (Nat.le_of_ble_eq_true rfl) d_Mo_unit_104 (k_Mo_goesOn h.em) (fun u_104 h_104 => ?_)
              refine e_goto C 115 d_Mo_unit_107 (by decide) ?_
              refine e_vret C F rfl d_Mo_unit_115 ?_
              exact Or.inl ⟨(1, T.1 t - 132), Or.inr ⟨hzz, rfl⟩, by rw [← hz]; exact h_104⟩
            first | exact ev _ (by omega) (by omega) | (exfalso; omega)
          · have hv3 := if1_t c_81
            refine e_iconst C d_Mo_unit_84 ?_
            refine e_goto C 100 d_Mo_unit_85 (by decide) ?_
            have ev : ∀ z, z = T.1 t - 132 → (132 ≤ T.1 t ∧ T.1 t ≤ 137) → Ev g 100 [some (.inr (.inr (1, 0)))] [.inl z, .inl 1, .inr (.inr (1, 0))] (so σ 1 m) := by
              intro z hz hzz
              refine e_callVV C ok_Mo_emit lk_Mo_288 (o := 1) (by decide) rfl [_, _] rfl rfl (Nat.le_of_ble_eq_true rfl) (by decide) (Nat.le_of_ble_eq_true rfl) d_Mo_unit_100 (k_Mo_emit hn h9 (by omega) (by omega)) (fun u_100 h_100 => ?_)
              subst h_100
              refine e_aload_n C d_Mo_unit_103 rfl ?_
              refine e_callVV C ok_Mo_goesOn lk_Mo_206 (o := 1) (by decide) rfl [] rfl rfl (Nat.le_of_ble_eq_true rfl) (by decide) (Nat.le_of_ble_eq_true rfl) d_Mo_unit_104 (k_Mo_goesOn h.em) (fun u_104 h_104 => ?_)
              refine e_goto C 115 d_Mo_unit_107 (by decide) ?_
              refine e_vret C F rfl d_Mo_unit_115 ?_
              exact Or.inl ⟨(1, T.1 t - 132), Or.inr ⟨hzz, rfl⟩, by rw [← hz]; exact h_104⟩
            first | exact ev _ (by omega) (by omega) | (exfalso; omega)
        · refine e_aload_n C d_Mo_unit_64 rfl ?_
          refine e_bipush C d_Mo_unit_65 (by decide) ?_
          refine e_callIV C ok_Mo_is lk_Mo_203 (o := 1) (by decide) rfl [_] rfl rfl (Nat.le_of_ble_eq_true rfl) (by decide) (Nat.le_of_ble_eq_true rfl) d_Mo_unit_67 (k_Mo_is h (k' := 137) (by decide) (by decide)) (fun v_67 u_67 q_67 h_67 => ?_)
          obtain ⟨rfl, rfl⟩ := h_67
          refine e_if_eq C 110 d_Mo_unit_70 (by decide) (by split <;> omega) (fun c_70 => ?_) (fun c_70 => ?_)
          · have hv2 := if1_f c_70
            refine e_aload_n C d_Mo_unit_110 rfl ?_
            refine e_iconst C d_Mo_unit_111 ?_
            refine e_callVV C ok_Mo_fail lk_Mo_200 (o := 1) (by decide) rfl [_] rfl rfl (Nat.le_of_ble_eq_true rfl) (by decide) (Nat.le_of_ble_eq_true rfl) d_Mo_unit_112 (k_Mo_fail h (by omega)) (fun u_112 h_112 => ?_)
            subst h_112
            refine e_vret C F rfl d_Mo_unit_115 ?_
            exact Or.inr ⟨by omega, rfl⟩
          · have hv2 := if1_t c_70
            refine e_aload_n C d_Mo_unit_73 rfl ?_
            refine e_iconst C d_Mo_unit_74 ?_
            refine e_aload_n C d_Mo_unit_75 rfl ?_
            refine e_bipush C d_Mo_unit_76 (by decide) ?_
            refine e_callIV C ok_Mo_is lk_Mo_203 (o := 1) (by decide) rfl [_] rfl rfl (Nat.le_of_ble_eq_true rfl) (by decide) (Nat.le_of_ble_eq_true rfl) d_Mo_unit_78 (k_Mo_is h (k' := 137) (by decide) (by decide)) (fun v_78 u_78 q_78 h_78 => ?_)
            obtain ⟨rfl, rfl⟩ := h_78
            refine e_if_eq C 88 d_Mo_unit_81 (by decide) (by split <;> omega) (fun c_81 => ?_) (fun c_81 => ?_)
            · have hv3 := if1_f c_81
              refine e_aload_n C d_Mo_unit_88 rfl ?_
              refine e_geta C fl_Mo_20 (by decide) rfl rfl d_Mo_unit_89 ?_
              refine e_aload_n C d_Mo_unit_92 rfl ?_
              refine e_geti C fl_Mo_188 (by decide) rfl rfl d_Mo_unit_93 (fun r_93 => ?_)
              try simp only [so_at, e11, e5, e13] at r_93 ⊢
              refine e_iald (n := 403) C (by decide) rfl (by decide) rfl rfl (by decide) (by omega) (by omega) d_Mo_unit_96 (fun r_96 => ?_)
              try simp only [so_at, e11, e5, e13] at r_96 ⊢
              refine e_bipush C d_Mo_unit_97 (by decide) ?_
              refine e_isub C d_Mo_unit_99 ?_
              have ev : ∀ z, z = T.1 t - 132 → (132 ≤ T.1 t ∧ T.1 t ≤ 137) → Ev g 100 [some (.inr (.inr (1, 0)))] [.inl z, .inl 1, .inr (.inr (1, 0))] (so σ 1 m) := by
                intro z hz hzz
                refine e_callVV C ok_Mo_emit lk_Mo_288 (o := 1) (by decide) rfl [_, _] rfl rfl (Nat.le_of_ble_eq_true rfl) (by decide) (Nat.le_of_ble_eq_true rfl) d_Mo_unit_100 (k_Mo_emit hn h9 (by omega) (by omega)) (fun u_100 h_100 => ?_)
                subst h_100
                refine e_aload_n C d_Mo_unit_103 rfl ?_
                refine e_callVV C ok_Mo_goesOn lk_Mo_206 (o := 1) (by decide) rfl [] rfl rfl (Nat.le_of_ble_eq_true rfl) (by decide) (Nat.le_of_ble_eq_true rfl) d_Mo_unit_104 (k_Mo_goesOn h.em) (fun u_104 h_104 => ?_)
                refine e_goto C 115 d_Mo_unit_107 (by decide) ?_
                refine e_vret C F rfl d_Mo_unit_115 ?_
                exact Or.inl ⟨(1, T.1 t - 132), Or.inr ⟨hzz, rfl⟩, by rw [← hz]; exact h_104⟩
              first | exact ev _ (by omega) (by omega) | (exfalso; omega)
            · have hv3 := if1_t c_81
              refine e_iconst C d_Mo_unit_84 ?_
              refine e_goto C 100 d_Mo_unit_85 (by decide) ?_
              have ev : ∀ z, z = T.1 t - 132 → (132 ≤ T.1 t ∧ T.1 t ≤ 137) → Ev g 100 [some (.inr (.inr (1, 0)))] [.inl z, .inl 1, .inr (.inr (1, 0))] (so σ 1 m) := by
                intro z hz hzz
                refine e_callVV C ok_Mo_emit lk_Mo_288 (o := 1) (by decide) rfl [_, _] rfl rfl (Nat.le_of_ble_eq_true rfl) (by decide) (Nat.le_of_ble_eq_true rfl) d_Mo_unit_100 (k_Mo_emit hn h9 (by omega) (by omega)) (fun u_100 h_100 => ?_)
                subst h_100
                refine e_aload_n C d_Mo_unit_103 rfl ?_
                refine e_callVV C ok_Mo_goesOn lk_Mo_206 (o := 1) (by decide) rfl [] rfl rfl (Nat.le_of_ble_eq_true rfl) (by decide) (Nat.le_of_ble_eq_true rfl) d_Mo_unit_104 (k_Mo_goesOn h.em) (fun u_104 h_104 => ?_)
                refine e_goto C 115 d_Mo_unit_107 (by decide) ?_
                refine e_vret C F rfl d_Mo_unit_115 ?_
                exact Or.inl ⟨(1, T.1 t - 132), Or.inr ⟨hzz, rfl⟩, by rw [← hz]; exact h_104⟩
              first | exact ev _ (by omega) (by omega) | (exfalso; omega)
  · have hv := if1_t c_5
    have e7 := h.tok.2.2.1 hv
    have hvr := h.1.2.2.2.1 t hv
    refine e_aload_n C d_Mo_unit_8 rfl ?_
    refine e_iconst C d_Mo_unit_9 ?_
    refine e_aload_n C d_Mo_unit_10 rfl ?_
    refine e_geta C fl_Mo_27 (by decide) rfl rfl d_Mo_unit_11 ?_
    refine e_aload_n C d_Mo_unit_14 rfl ?_
    refine e_geti C fl_Mo_188 (by decide) rfl rfl d_Mo_unit_15 (fun r_15 => ?_)
    try simp only [so_at, e11, e5, e13] at r_15 ⊢
    refine e_iald (n := 403) C (by decide) rfl (by decide) rfl rfl (by decide) (by omega) (by omega) d_Mo_unit_18 (fun r_18 => ?_)
    try simp only [so_at, e11, e5, e13] at r_18 ⊢
    rw [e7]
    refine e_callVV C ok_Mo_emit lk_Mo_288 (o := 1) (by decide) rfl [_, _] rfl rfl (Nat.le_of_ble_eq_true rfl) (by decide) (Nat.le_of_ble_eq_true rfl) d_Mo_unit_19 (k_Mo_emit hn h9 (by omega) (by omega)) (fun u_19 h_19 => ?_)
    subst h_19
    refine e_aload_n C d_Mo_unit_22 rfl ?_
    refine e_callVV C ok_Mo_goesOn lk_Mo_206 (o := 1) (by decide) rfl [] rfl rfl (Nat.le_of_ble_eq_true rfl) (by decide) (Nat.le_of_ble_eq_true rfl) d_Mo_unit_23 (k_Mo_goesOn h.em) (fun u_23 h_23 => ?_)
    refine e_goto C 115 d_Mo_unit_26 (by decide) ?_
    refine e_vret C F rfl d_Mo_unit_115 ?_
    exact Or.inl ⟨(0, T.2.2.1 t), Or.inl ⟨hv, rfl⟩, h_23⟩
theorem k_Mo_unitF {σ : St} {m : Cs} (h : 1 ≤ m 13 0) : CtV M_Mo_unit [.inr (.inr (1, 0))] (so σ 1 m) (fun u => u = so σ 1 m) := by
  intro g C F
  refine e_aload_n C d_Mo_unit_0 rfl ?_
  refine e_iconst C d_Mo_unit_1 ?_
  refine e_callIV C ok_Mo_is lk_Mo_203 (o := 1) (by decide) rfl [_] rfl rfl (Nat.le_of_ble_eq_true rfl) (by decide) (Nat.le_of_ble_eq_true rfl) d_Mo_unit_2 (k_Mo_isF (by omega)) (fun v_2 u_2 q_2 h_2 => ?_)
  obtain ⟨rfl, rfl⟩ := h_2
  refine e_if_eq C 29 d_Mo_unit_5 (by decide) (by omega) (fun c_5 => ?_) (fun c_5 => ?_)
  · refine e_aload_n C d_Mo_unit_29 rfl ?_
    refine e_geti C fl_Mo_185 (by decide) rfl rfl d_Mo_unit_30 (fun r_30 => ?_)
    try simp only [so_at] at r_30 ⊢
    refine e_if_ne C 110 d_Mo_unit_33 (by decide) (by omega) (fun c_33 => ?_) (fun c_33 => ?_)
    · refine e_aload_n C d_Mo_unit_110 rfl ?_
      refine e_iconst C d_Mo_unit_111 ?_
      refine e_callVV C ok_Mo_fail lk_Mo_200 (o := 1) (by decide) rfl [_] rfl rfl (Nat.le_of_ble_eq_true rfl) (by decide) (Nat.le_of_ble_eq_true rfl) d_Mo_unit_112 (k_Mo_failF h) (fun u_112 h_112 => ?_)
      subst h_112
      refine e_vret C F rfl d_Mo_unit_115 ?_
      rfl
    · exact absurd c_33 (by omega)
  · exact absurd rfl c_5
/-- behind an expression -/
def expQ (σ : St) (s c0 : Int) (m0 : Cs) (res : (Int × Int) ⊕ (Int × List Cd)) (u : St) : Prop := match res with
  | .inl fp => ∃ m' : Cs, u = so σ 1 m' ∧ MXr s c0 m0 m' ∧ m' 13 0 = fp.1 ∧ m' 14 0 = fp.2 ∧ 1 ≤ fp.1 ∧ (0 ≤ m' 11 0 ∧ m' 11 0 ≤ 400) ∧ (c0 ≤ m' 42 0 ∧ m' 42 0 ≤ 420 * s + 401)
  | .inr tp => ∃ m' : Cs, u = so σ 1 m' ∧ MXr s c0 m0 m' ∧ m' 11 0 = tp.1 ∧ m' 13 0 = 0 ∧ m' 12 0 = 0 ∧ m' 42 0 = c0 + tp.2.length ∧ SG m' c0 tp.2
theorem MEr.lo {m m' : Cs} (h : MEr m m') : ∀ f, f ≤ 10 → m' f = m f := fun f hf => h f (by omega) (by omega) (by omega) (by omega)
set_option maxHeartbeats 8000000 in
theorem l_Mo_expr {g : Mach} {Q : St → Prop} (C : Cx M_Mo_expression g) (F : FinV M_Mo_expression g Q) {T : Tab} {σ : St} {m0 : Cs} {t0 s c0 : Int} (hs : 0 ≤ s ∧ s ≤ 1) (hc : 420 * s ≤ c0 ∧ c0 ≤ 420 * s + t0) :
    ∀ (n : Nat), (∀ (t : Int) (ws : List Int) (pf : List Cd) (m : Cs), 401 ≤ n + t → XI T t0 t true ws pf → MH T m t → ME c0 m ws pf → m 12 0 = nop ws → MXr s c0 m0 m → (∀ u, expQ σ s c0 m0 (xrun T n t true ws pf) u → Q u) → Ev g 23 [some (.inr (.inr (1, 0))), some (.inl 0), none] [] (so σ 1 m)) ∧
      (∀ (t : Int) (ws : List Int) (pf : List Cd) (m : Cs), 401 ≤ n + t → XI T t0 t false ws pf → MH T m t → ME c0 m ws pf → m 12 0 = nop ws → MXr s c0 m0 m → (∀ u, expQ σ s c0 m0 (xrun T n t false ws pf) u → Q u) → Ev g 96 [some (.inr (.inr (1, 0))), some (.inl 0), none] [] (so σ 1 m)) := by
  have dead23 : ∀ m : Cs, 1 ≤ m 13 0 → Q (so σ 1 m) → Ev g 23 [some (.inr (.inr (1, 0))), some (.inl 0), none] [] (so σ 1 m) := by
    intro m hm hQ
    refine e_aload_n C d_Mo_expression_23 rfl ?_
    refine e_bipush C d_Mo_expression_24 (by decide) ?_
    refine e_callIV C ok_Mo_is lk_Mo_203 (o := 1) (by decide) rfl [_] rfl rfl (Nat.le_of_ble_eq_true rfl) (by decide) (Nat.le_of_ble_eq_true rfl) d_Mo_expression_26 (k_Mo_isF (by omega)) (fun v_26 u_26 q_26 h_26 => ?_)
    obtain ⟨rfl, rfl⟩ := h_26
    refine e_if_eq C 84 d_Mo_expression_29 (by decide) (by omega) (fun c_29 => ?_) (fun c_29 => ?_)
    · refine e_aload_n C d_Mo_expression_84 rfl ?_
      refine e_callVV C ok_Mo_unit lk_Mo_291 (o := 1) (by decide) rfl [] rfl rfl (Nat.le_of_ble_eq_true rfl) (by decide) (Nat.le_of_ble_eq_true rfl) d_Mo_expression_85 (k_Mo_unitF hm) (fun u_85 h_85 => ?_)
      subst h_85
      refine e_aload_n C d_Mo_expression_88 rfl ?_
      refine e_geti C fl_Mo_185 (by decide) rfl rfl d_Mo_expression_89 (fun r_89 => ?_)
      try simp only [so_at] at r_89 ⊢
      refine e_if_le C 96 d_Mo_expression_92 (by decide) (by omega) (fun c_92 => ?_) (fun c_92 => ?_)
      · exact absurd c_92 (by omega)
      · refine e_vret C F rfl d_Mo_expression_95 ?_
        exact hQ
    · exact absurd rfl c_29
  have dead96 : ∀ (ws : List Int) (pf : List Cd) (k : Int) (m : Cs), 1 ≤ m 13 0 → ME c0 m ws pf → RI ws pf k → ws.length ≤ 20 → c0 + k < 420 * s + 420 → MXr s c0 m0 m → (∀ m', MXr s c0 m0 m' → MEr m m' → (c0 ≤ m' 42 0 ∧ m' 42 0 ≤ c0 + k) → Q (so σ 1 m')) → Ev g 96 [some (.inr (.inr (1, 0))), some (.inl 0), none] [] (so σ 1 m) := by
    intro ws pf k m hm hM hI hL hk hX hQ
    have c204 : Ev g 204 [some (.inr (.inr (1, 0))), some (.inl 0), some (.inl 0)] [] (so σ 1 m) := by
      refine e_aload_n C d_Mo_expression_204 rfl ?_
      refine e_iconst C d_Mo_expression_205 ?_
      refine e_callVV C ok_Mo_comesOut lk_Mo_294 (o := 1) (by decide) rfl [_] rfl rfl (Nat.le_of_ble_eq_true rfl) (by decide) (Nat.le_of_ble_eq_true rfl) d_Mo_expression_206 (k_Mo_comesOut (k := k) (Or.inl rfl) hs ⟨hc.1, hk⟩ hM hI hL hX) (fun u_206 h_206 => ?_)
      obtain ⟨m', h1, ⟨h2, h3⟩, rfl⟩ := h_206
      have h4 := (rel_all (r := 1) (by omega) ws pf k hI).1.2.2.2
      have h5 : m' 42 0 = c0 + (rel 1 ws pf).2.length := h1.2.2.1
      refine e_vret C F rfl d_Mo_expression_209 ?_
      exact hQ m' h2 h3 (by omega)
    refine e_aload_n C d_Mo_expression_96 rfl ?_
    refine e_bipush C d_Mo_expression_97 (by decide) ?_
    refine e_callIV C ok_Mo_is lk_Mo_203 (o := 1) (by decide) rfl [_] rfl rfl (Nat.le_of_ble_eq_true rfl) (by decide) (Nat.le_of_ble_eq_true rfl) d_Mo_expression_99 (k_Mo_isF (by omega)) (fun v_99 u_99 q_99 h_99 => ?_)
    obtain ⟨rfl, rfl⟩ := h_99
    refine e_if_eq C 145 d_Mo_expression_102 (by decide) (by omega) (fun c_102 => ?_) (fun c_102 => ?_)
    · refine e_aload_n C d_Mo_expression_145 rfl ?_
      refine e_bipush C d_Mo_expression_146 (by decide) ?_
      refine e_callIV C ok_Mo_is lk_Mo_203 (o := 1) (by decide) rfl [_] rfl rfl (Nat.le_of_ble_eq_true rfl) (by decide) (Nat.le_of_ble_eq_true rfl) d_Mo_expression_148 (k_Mo_isF (by omega)) (fun v_148 u_148 q_148 h_148 => ?_)
      obtain ⟨rfl, rfl⟩ := h_148
      refine e_if_ne C 181 d_Mo_expression_151 (by decide) (by omega) (fun c_151 => ?_) (fun c_151 => ?_)
      · exact absurd rfl c_151
      · refine e_aload_n C d_Mo_expression_154 rfl ?_
        refine e_bipush C d_Mo_expression_155 (by decide) ?_
        refine e_callIV C ok_Mo_is lk_Mo_203 (o := 1) (by decide) rfl [_] rfl rfl (Nat.le_of_ble_eq_true rfl) (by decide) (Nat.le_of_ble_eq_true rfl) d_Mo_expression_157 (k_Mo_isF (by omega)) (fun v_157 u_157 q_157 h_157 => ?_)
        obtain ⟨rfl, rfl⟩ := h_157
        refine e_if_ne C 181 d_Mo_expression_160 (by decide) (by omega) (fun c_160 => ?_) (fun c_160 => ?_)
        · exact absurd rfl c_160
        · refine e_aload_n C d_Mo_expression_163 rfl ?_
          refine e_bipush C d_Mo_expression_164 (by decide) ?_
          refine e_callIV C ok_Mo_is lk_Mo_203 (o := 1) (by decide) rfl [_] rfl rfl (Nat.le_of_ble_eq_true rfl) (by decide) (Nat.le_of_ble_eq_true rfl) d_Mo_expression_166 (k_Mo_isF (by omega)) (fun v_166 u_166 q_166 h_166 => ?_)
          obtain ⟨rfl, rfl⟩ := h_166
          refine e_if_ne C 181 d_Mo_expression_169 (by decide) (by omega) (fun c_169 => ?_) (fun c_169 => ?_)
          · exact absurd rfl c_169
          · refine e_aload_n C d_Mo_expression_172 rfl ?_
            refine e_bipush C d_Mo_expression_173 (by decide) ?_
            refine e_callIV C ok_Mo_is lk_Mo_203 (o := 1) (by decide) rfl [_] rfl rfl (Nat.le_of_ble_eq_true rfl) (by decide) (Nat.le_of_ble_eq_true rfl) d_Mo_expression_175 (k_Mo_isF (by omega)) (fun v_175 u_175 q_175 h_175 => ?_)
            obtain ⟨rfl, rfl⟩ := h_175
            refine e_if_eq C 185 d_Mo_expression_178 (by decide) (by omega) (fun c_178 => ?_) (fun c_178 => ?_)
            · refine e_iconst C d_Mo_expression_185 ?_
              refine e_istore_n C d_Mo_expression_186 (by decide) rfl ?_
              refine e_iload_n C d_Mo_expression_187 rfl ?_
              refine e_if_ne C 210 d_Mo_expression_188 (by decide) (by decide) (fun c_188 => ?_) (fun c_188 => ?_)
              · exact absurd rfl c_188
              · refine e_aload_n C d_Mo_expression_191 rfl ?_
                refine e_geti C fl_Mo_212 (by decide) rfl rfl d_Mo_expression_192 (fun r_192 => ?_)
                try simp only [so_at] at r_192 ⊢
                refine e_iload_n C d_Mo_expression_195 rfl ?_
                refine e_icmp_le C 204 d_Mo_expression_196 (by decide) (by omega) (by omega) (fun c_196 => ?_) (fun c_196 => ?_)
                · exact c204
                · refine e_aload_n C d_Mo_expression_199 rfl ?_
                  refine e_iconst C d_Mo_expression_200 ?_
                  refine e_callVV C ok_Mo_fail lk_Mo_200 (o := 1) (by decide) rfl [_] rfl rfl (Nat.le_of_ble_eq_true rfl) (by decide) (Nat.le_of_ble_eq_true rfl) d_Mo_expression_201 (k_Mo_failF hm) (fun u_201 h_201 => ?_)
                  subst h_201
                  exact c204
            · exact absurd rfl c_178
    · exact absurd rfl c_102
  intro n
  induction n with
  | zero =>
    refine ⟨fun t ws pf m h hI => ?_, fun t ws pf m h hI => ?_⟩
    · exact absurd hI.2.2.2.2.2.1 (by omega)
    · exact absurd hI.2.2.2.2.2.1 (by omega)
  | succ n ih =>
    obtain ⟨ihA, ihB⟩ := ih
    refine ⟨fun t ws pf m hn hI hH hM hno hX hQ => ?_, fun t ws pf m hn hI hH hM hno hX hQ => ?_⟩
    · have hlen := wfw_len hI.1
      have hno6 := hI.2.1
      have hno0 := nop_nn ws
      have hpl := hI.2.2.2.2.1
      have ht4 := hI.2.2.2.2.2.1
      have ht0 := hI.2.2.2.2.2.2.1
      have h46 := hM.1
      have h42 := hM.2.2.1
      have h13 := hH.2.2.2.2.2
      have h11 := hH.2.2.1
      have hk := hH.1.k t
      unfold xrun at hQ
      rw [if_pos rfl] at hQ
      refine e_aload_n C d_Mo_expression_23 rfl ?_
      refine e_bipush C d_Mo_expression_24 (by decide) ?_
      refine e_callIV C ok_Mo_is lk_Mo_203 (o := 1) (by decide) rfl [_] rfl rfl (Nat.le_of_ble_eq_true rfl) (by decide) (Nat.le_of_ble_eq_true rfl) d_Mo_expression_26 (k_Mo_is hH (k' := 40) (by decide) (by decide)) (fun v_26 u_26 q_26 h_26 => ?_)
      obtain ⟨rfl, rfl⟩ := h_26
      refine e_if_eq C 84 d_Mo_expression_29 (by decide) (by split <;> omega) (fun c_29 => ?_) (fun c_29 => ?_)
      · have hv := if1_f c_29
        rw [if_neg hv] at hQ
        refine e_aload_n C d_Mo_expression_84 rfl ?_
        refine e_callVV C ok_Mo_unit lk_Mo_291 (o := 1) (by decide) rfl [] rfl rfl (Nat.le_of_ble_eq_true rfl) (by decide) (Nat.le_of_ble_eq_true rfl) d_Mo_expression_85 (k_Mo_unit hH h42 (by omega)) (fun u_85 h_85 => ?_)
        have hcase : ∀ cd : Cd, ((T.1 t = 131 ∧ cd = (0, T.2.2.1 t)) ∨ ((132 ≤ T.1 t ∧ T.1 t ≤ 137) ∧ cd = (1, T.1 t - 132))) → (∀ u, expQ σ s c0 m0 (if 400 ≤ t then .inl (2, T.2.1 t) else xrun T n (t + 1) false ws (pf ++ [cd])) u → Q u) ∧ (t < 400 → XI T t0 (t + 1) false ws (pf ++ [cd])) := by
          intro cd hcd
          rcases hcd with ⟨a, rfl⟩ | ⟨a, rfl⟩
          · rw [if_pos a] at hQ
            exact ⟨hQ, fun z => hI.unit (by omega) z (Or.inl rfl) (hH.1.v a)⟩
          · rw [if_neg (by omega), if_pos a] at hQ
            exact ⟨hQ, fun z => hI.unit (by omega) z (Or.inr rfl) (Or.inr (Or.inl ⟨rfl, by show 0 ≤ T.1 t - 132; omega, by show T.1 t - 132 ≤ 5; omega⟩))⟩
        rcases h_85 with ⟨cd, hcd, ⟨a, rfl⟩ | ⟨a, rfl⟩⟩ | ⟨hcd, rfl⟩
        · obtain ⟨q1, q2⟩ := hcase cd hcd
          rw [if_pos (by omega)] at q1
          have e13 : flt (emt m (c0 + pf.length) cd.1 cd.2) 2 (T.2.1 t) 13 0 = 2 := by unfold flt; rw [cu_f (by decide), cu_s]
          refine e_aload_n C d_Mo_expression_88 rfl ?_
          refine e_geti C fl_Mo_185 (by decide) rfl rfl d_Mo_expression_89 (fun r_89 => ?_)
          try simp only [so_at, e13] at r_89 ⊢
          refine e_if_le C 96 d_Mo_expression_92 (by decide) (by omega) (fun c_92 => ?_) (fun c_92 => ?_)
          · exact absurd c_92 (by decide)
          · refine e_vret C F rfl d_Mo_expression_95 ?_
            refine q1 _ ⟨_, rfl, (hX.em (by omega) (by omega)).fl, e13, ?_, by show (1 : Int) ≤ 2; decide, ?_, ?_⟩
            · unfold flt; rw [cu_s]
            · unfold flt; rw [cu_f (by decide), cu_f (by decide), emt_lo (by decide) (by decide) (by decide)]; omega
            · unfold flt emt; rw [cu_f (by decide), cu_f (by decide), cu_s]; omega
        · obtain ⟨q1, q2⟩ := hcase cd hcd
          rw [if_neg (by omega)] at q1
          have e13 : cu (emt m (c0 + pf.length) cd.1 cd.2) 11 0 (t + 1) 13 0 = 0 := by rw [cu_f (by decide), emt_lo (by decide) (by decide) (by decide)]; exact h13
          refine e_aload_n C d_Mo_expression_88 rfl ?_
          refine e_geti C fl_Mo_185 (by decide) rfl rfl d_Mo_expression_89 (fun r_89 => ?_)
          try simp only [so_at, e13] at r_89 ⊢
          refine e_if_le C 96 d_Mo_expression_92 (by decide) (by omega) (fun c_92 => ?_) (fun c_92 => ?_)
          · refine ihB (t + 1) ws (pf ++ [cd]) _ (by omega) (q2 a) ?_ ?_ ?_ ((hX.em (by omega) (by omega)).wu (by omega)) q1
            · exact hH.go (fun f hf => by rw [cf_f (by omega), emt_lo (by omega) (by omega) (by omega)]) (cu_s _ _ _ _) (by rw [cu_f (by decide), emt_lo (by decide) (by decide) (by decide)]) a (by rcases hcd with ⟨z, _⟩ | ⟨z, _⟩ <;> omega)
            · exact (hM.em h42.symm).wu (by decide) (by decide) (by decide) (by decide) (by decide)
            · rw [cu_f (by decide), emt_lo (by decide) (by decide) (by decide)]; exact hno
          · exact absurd c_92 (by decide)
        · rw [if_neg (by omega), if_neg (by omega)] at hQ
          have e13 : flt m 1 (T.2.1 t) 13 0 = 1 := by unfold flt; rw [cu_f (by decide), cu_s]
          refine e_aload_n C d_Mo_expression_88 rfl ?_
          refine e_geti C fl_Mo_185 (by decide) rfl rfl d_Mo_expression_89 (fun r_89 => ?_)
          try simp only [so_at, e13] at r_89 ⊢
          refine e_if_le C 96 d_Mo_expression_92 (by decide) (by omega) (fun c_92 => ?_) (fun c_92 => ?_)
          · exact absurd c_92 (by decide)
          · refine e_vret C F rfl d_Mo_expression_95 ?_
            refine hQ _ ⟨_, rfl, hX.fl, e13, ?_, by show (1 : Int) ≤ 1; decide, ?_, ?_⟩
            · unfold flt; rw [cu_s]
            · unfold flt; rw [cu_f (by decide), cu_f (by decide)]; omega
            · unfold flt; rw [cu_f (by decide), cu_f (by decide)]; omega
      · have hv := if1_t c_29
        rw [if_pos hv] at hQ
        refine e_aload_n C d_Mo_expression_32 rfl ?_
        refine e_geti C fl_Mo_212 (by decide) rfl rfl d_Mo_expression_33 (fun r_33 => ?_)
        try simp only [so_at, so_so, wr_so, hno] at r_33 ⊢
        refine e_bipush C d_Mo_expression_36 (by decide) ?_
        refine e_icmp_ne C 46 d_Mo_expression_38 (by decide) (by omega) (by omega) (fun c_38 => ?_) (fun c_38 => ?_)
        · rw [if_neg c_38] at hQ
          have hH2 : MH T (cu m 12 0 (nop ws + 1)) t := hH.same (fun f hf => cf_f (by omega)) (cu_f (by decide)) (cu_f (by decide))
          refine e_aload_n C d_Mo_expression_46 rfl ?_
          refine e_dup C d_Mo_expression_47 rfl ?_
          refine e_geti C fl_Mo_212 (by decide) rfl rfl d_Mo_expression_48 (fun r_48 => ?_)
          try simp only [so_at, so_so, wr_so, hno] at r_48 ⊢
          refine e_iconst C d_Mo_expression_51 ?_
          refine e_iadd C d_Mo_expression_52 ?_
          refine e_puti C fp_Mo_212 (by decide) rfl rfl (by omega) d_Mo_expression_53 ?_
          try simp only [so_at, so_so, wr_so, hno]
          refine e_aload_n C d_Mo_expression_56 rfl ?_
          refine e_callVV C ok_Mo_goesOn lk_Mo_206 (o := 1) (by decide) rfl [] rfl rfl (Nat.le_of_ble_eq_true rfl) (by decide) (Nat.le_of_ble_eq_true rfl) d_Mo_expression_57 (k_Mo_goesOn hH2) (fun u_57 h_57 => ?_)
          rcases h_57 with ⟨a, rfl⟩ | ⟨a, rfl⟩
          · rw [if_pos (by omega)] at hQ
            refine e_aload_n C d_Mo_expression_60 rfl ?_
            refine e_geta C fl_Mo_107 (by decide) rfl rfl d_Mo_expression_61 ?_
            refine e_aload_n C d_Mo_expression_64 rfl ?_
            refine e_geti C fl_Mo_285 (by decide) rfl rfl d_Mo_expression_65 (fun r_65 => ?_)
            try simp only [so_at, so_so, wr_so] at r_65 ⊢
            rw [show flt (cu m 12 0 (nop ws + 1)) 2 (T.2.1 t) 46 0 = ws.length by unfold flt; rw [cu_f (by decide), cu_f (by decide), cu_f (by decide)]; exact h46] at r_65 ⊢
            refine e_bipush C d_Mo_expression_68 (by decide) ?_
            refine e_iast (n := 64) C (by decide) rfl (by decide) rfl rfl (by decide) (by omega) (by omega) (by omega) d_Mo_expression_70 ?_
            try simp only [so_at, so_so, wr_so]
            refine e_aload_n C d_Mo_expression_71 rfl ?_
            refine e_dup C d_Mo_expression_72 rfl ?_
            refine e_geti C fl_Mo_285 (by decide) rfl rfl d_Mo_expression_73 (fun r_73 => ?_)
            try simp only [so_at, so_so, wr_so] at r_73 ⊢
            rw [cu_f (by decide), show flt (cu m 12 0 (nop ws + 1)) 2 (T.2.1 t) 46 0 = ws.length by unfold flt; rw [cu_f (by decide), cu_f (by decide), cu_f (by decide)]; exact h46] at r_73 ⊢
            refine e_iconst C d_Mo_expression_76 ?_
            refine e_iadd C d_Mo_expression_77 ?_
            refine e_puti C fp_Mo_285 (by decide) rfl rfl (by omega) d_Mo_expression_78 ?_
            try simp only [so_at, so_so, wr_so]
            refine e_goto C 23 d_Mo_expression_81 (by decide) ?_
            refine dead23 _ ?_ (hQ _ ⟨_, rfl, ?_, ?_, ?_, by show (1 : Int) ≤ 2; decide, ?_, ?_⟩)
            · unfold flt; rw [cu_f (by decide), cu_f (by decide), cu_f (by decide), cu_s]; omega
            · exact ((hX.wu (by omega)).fl.wu (by omega)).wu (by omega)
            · unfold flt; rw [cu_f (by decide), cu_f (by decide), cu_f (by decide), cu_s]
            · unfold flt; rw [cu_f (by decide), cu_f (by decide), cu_s]
            · unfold flt; rw [cu_f (by decide), cu_f (by decide), cu_f (by decide), cu_f (by decide), cu_f (by decide)]; omega
            · unfold flt; rw [cu_f (by decide), cu_f (by decide), cu_f (by decide), cu_f (by decide), cu_f (by decide)]; omega
          · rw [if_neg (by omega)] at hQ
            have hM2 : ME c0 (cu (cu m 12 0 (nop ws + 1)) 11 0 (t + 1)) ws pf := (hM.wu (by decide) (by decide) (by decide) (by decide) (by decide)).wu (by decide) (by decide) (by decide) (by decide) (by decide)
            have e46 := hM2.1
            refine e_aload_n C d_Mo_expression_60 rfl ?_
            refine e_geta C fl_Mo_107 (by decide) rfl rfl d_Mo_expression_61 ?_
            refine e_aload_n C d_Mo_expression_64 rfl ?_
            refine e_geti C fl_Mo_285 (by decide) rfl rfl d_Mo_expression_65 (fun r_65 => ?_)
            try simp only [so_at, so_so, wr_so] at r_65 ⊢
            rw [e46] at r_65 ⊢
            refine e_bipush C d_Mo_expression_68 (by decide) ?_
            refine e_iast (n := 64) C (by decide) rfl (by decide) rfl rfl (by decide) (by omega) (by omega) (by omega) d_Mo_expression_70 ?_
            try simp only [so_at, so_so, wr_so]
            refine e_aload_n C d_Mo_expression_71 rfl ?_
            refine e_dup C d_Mo_expression_72 rfl ?_
            refine e_geti C fl_Mo_285 (by decide) rfl rfl d_Mo_expression_73 (fun r_73 => ?_)
            try simp only [so_at, so_so, wr_so] at r_73 ⊢
            rw [cu_f (by decide), e46] at r_73 ⊢
            refine e_iconst C d_Mo_expression_76 ?_
            refine e_iadd C d_Mo_expression_77 ?_
            refine e_puti C fp_Mo_285 (by decide) rfl rfl (by omega) d_Mo_expression_78 ?_
            try simp only [so_at, so_so, wr_so]
            refine e_goto C 23 d_Mo_expression_81 (by decide) ?_
            refine ihA (t + 1) (40 :: ws) pf _ (by omega) (hI.opn hv c_38 a) ?_ (hM2.push (w := 40) rfl (by decide)) ?_ ((((hX.wu (by omega)).wu (by omega)).wu (by omega)).wu (by omega)) hQ
            · exact hH.go (fun f hf => by rw [cf_f (by omega), cf_f (by omega), cf_f (by omega), cf_f (by omega)]) (by rw [cu_f (by decide), cu_f (by decide), cu_s]) (by rw [cu_f (by decide), cu_f (by decide), cu_f (by decide), cu_f (by decide)]) a (by omega)
            · rw [cu_f (by decide), cu_f (by decide), cu_f (by decide), cu_s]
              show nop ws + 1 = nop ws + _
              rw [if_pos rfl]
        · rw [if_pos c_38] at hQ
          have hH' := hH
          refine e_aload_n C d_Mo_expression_41 rfl ?_
          refine e_iconst C d_Mo_expression_42 ?_
          refine e_callVV C ok_Mo_fail lk_Mo_200 (o := 1) (by decide) rfl [_] rfl rfl (Nat.le_of_ble_eq_true rfl) (by decide) (Nat.le_of_ble_eq_true rfl) d_Mo_expression_43 (k_Mo_fail hH (by omega)) (fun u_43 h_43 => ?_)
          subst h_43
          refine e_aload_n C d_Mo_expression_46 rfl ?_
          refine e_dup C d_Mo_expression_47 rfl ?_
          refine e_geti C fl_Mo_212 (by decide) rfl rfl d_Mo_expression_48 (fun r_48 => ?_)
          try simp only [so_at, so_so, wr_so] at r_48 ⊢
          rw [show flt m 2 (T.2.1 t) 12 0 = nop ws by unfold flt; rw [cu_f (by decide), cu_f (by decide)]; exact hno] at r_48 ⊢
          refine e_iconst C d_Mo_expression_51 ?_
          refine e_iadd C d_Mo_expression_52 ?_
          refine e_puti C fp_Mo_212 (by decide) rfl rfl (by omega) d_Mo_expression_53 ?_
          try simp only [so_at, so_so, wr_so]
          refine e_aload_n C d_Mo_expression_56 rfl ?_
          refine e_callVV C ok_Mo_goesOn lk_Mo_206 (o := 1) (by decide) rfl [] rfl rfl (Nat.le_of_ble_eq_true rfl) (by decide) (Nat.le_of_ble_eq_true rfl) d_Mo_expression_57 (k_Mo_goesOnF (by rw [cu_f (by decide)]; unfold flt; rw [cu_f (by decide), cu_s]; omega) (by rw [cu_f (by decide)]; unfold flt; rw [cu_f (by decide), cu_f (by decide)]; omega)) (fun u_57 h_57 => ?_)
          obtain ⟨t', ht', rfl⟩ := h_57
          have e46 : cu (cu (flt m 2 (T.2.1 t)) 12 0 (nop ws + 1)) 11 0 t' 46 0 = ws.length := by unfold flt; rw [cu_f (by decide), cu_f (by decide), cu_f (by decide), cu_f (by decide)]; exact h46
          generalize hmm : cu (cu (flt m 2 (T.2.1 t)) 12 0 (nop ws + 1)) 11 0 t' = m1 at e46 ⊢
          refine e_aload_n C d_Mo_expression_60 rfl ?_
          refine e_geta C fl_Mo_107 (by decide) rfl rfl d_Mo_expression_61 ?_
          refine e_aload_n C d_Mo_expression_64 rfl ?_
          refine e_geti C fl_Mo_285 (by decide) rfl rfl d_Mo_expression_65 (fun r_65 => ?_)
          try simp only [so_at, so_so, wr_so] at r_65 ⊢
          rw [e46] at r_65 ⊢
          refine e_bipush C d_Mo_expression_68 (by decide) ?_
          refine e_iast (n := 64) C (by decide) rfl (by decide) rfl rfl (by decide) (by omega) (by omega) (by omega) d_Mo_expression_70 ?_
          try simp only [so_at, so_so, wr_so]
          refine e_aload_n C d_Mo_expression_71 rfl ?_
          refine e_dup C d_Mo_expression_72 rfl ?_
          refine e_geti C fl_Mo_285 (by decide) rfl rfl d_Mo_expression_73 (fun r_73 => ?_)
          try simp only [so_at, so_so, wr_so] at r_73 ⊢
          rw [cu_f (by decide), e46] at r_73 ⊢
          refine e_iconst C d_Mo_expression_76 ?_
          refine e_iadd C d_Mo_expression_77 ?_
          refine e_puti C fp_Mo_285 (by decide) rfl rfl (by omega) d_Mo_expression_78 ?_
          try simp only [so_at, so_so, wr_so]
          refine e_goto C 23 d_Mo_expression_81 (by decide) ?_
          refine dead23 _ ?_ (hQ _ ⟨_, rfl, ?_, ?_, ?_, by show (1 : Int) ≤ 2; decide, ?_, ?_⟩)
          · rw [cu_f (by decide), cu_f (by decide), ← hmm]; unfold flt; rw [cu_f (by decide), cu_f (by decide), cu_f (by decide), cu_s]; omega
          · refine MXr.wu (MXr.wu ?_ (by omega)) (by omega)
            rw [← hmm]
            exact (hX.fl.wu (by omega)).wu (by omega)
          · rw [cu_f (by decide), cu_f (by decide), ← hmm]; unfold flt; rw [cu_f (by decide), cu_f (by decide), cu_f (by decide), cu_s]
          · rw [cu_f (by decide), cu_f (by decide), ← hmm]; unfold flt; rw [cu_f (by decide), cu_f (by decide), cu_s]
          · rw [cu_f (by decide), cu_f (by decide), ← hmm, cu_s]; exact ht'
          · rw [cu_f (by decide), cu_f (by decide), ← hmm]; unfold flt; rw [cu_f (by decide), cu_f (by decide), cu_f (by decide), cu_f (by decide), h42]; omega
    · have hlen := wfw_len hI.1
      have hno6 := hI.2.1
      have hno0 := nop_nn ws
      have hpl := hI.2.2.2.2.1
      have ht4 := hI.2.2.2.2.2.1
      have ht0 := hI.2.2.2.2.2.2.1
      have h46 := hM.1
      have h42 := hM.2.2.1
      have h13 := hH.2.2.2.2.2
      have h11 := hH.2.2.1
      have hk := hH.1.k t
      have hR := hI.ri
      have hrr := rnk_r (T.1 t)
      have h0t := hH.2.2.2.1
      have e5 := hH.tok.1
      have hmr := hH.mk
      unfold xrun at hQ
      rw [if_neg (show ¬ false = true by decide)] at hQ
      -- no sign that joins, none that closes: the end
      have fin : ¬ 0 < rnk (T.1 t) → ¬ (T.1 t = 41 ∧ 0 < nop ws) → Ev g 187 [some (.inr (.inr (1, 0))), some (.inl 0), some (.inl 0)] [] (so σ 1 m) := by
        intro z1 z2
        rw [if_neg z1, if_neg z2] at hQ
        refine e_iload_n C d_Mo_expression_187 rfl ?_
        refine e_if_ne C 210 d_Mo_expression_188 (by decide) (by decide) (fun c_188 => ?_) (fun c_188 => ?_)
        · exact absurd rfl c_188
        · refine e_aload_n C d_Mo_expression_191 rfl ?_
          refine e_geti C fl_Mo_212 (by decide) rfl rfl d_Mo_expression_192 (fun r_192 => ?_)
          try simp only [so_at, hno] at r_192 ⊢
          refine e_iload_n C d_Mo_expression_195 rfl ?_
          refine e_icmp_le C 204 d_Mo_expression_196 (by decide) (by omega) (by omega) (fun c_196 => ?_) (fun c_196 => ?_)
          · have hno1 : nop ws = 0 := by omega
            rw [if_pos hno1] at hQ
            refine e_aload_n C d_Mo_expression_204 rfl ?_
            refine e_iconst C d_Mo_expression_205 ?_
            refine e_callVV C ok_Mo_comesOut lk_Mo_294 (o := 1) (by decide) rfl [_] rfl rfl (Nat.le_of_ble_eq_true rfl) (by decide) (Nat.le_of_ble_eq_true rfl) d_Mo_expression_206 (k_Mo_comesOut (k := (pf.length : Int) + nbn ws) (Or.inl rfl) hs ⟨hc.1, by omega⟩ hM hR (by omega) hX) (fun u_206 h_206 => ?_)
            obtain ⟨m', h1, ⟨h2, h3⟩, rfl⟩ := h_206
            refine e_vret C F rfl d_Mo_expression_209 ?_
            refine hQ _ ⟨m', rfl, h2, ?_, ?_, ?_, h1.2.2.1, h1.2.2.2⟩
            · rw [h3 11 (by decide) (by decide) (by decide) (by decide)]; exact h11
            · rw [h3 13 (by decide) (by decide) (by decide) (by decide)]; exact h13
            · rw [h3 12 (by decide) (by decide) (by decide) (by decide), hno, hno1]
          · rw [if_neg (by omega)] at hQ
            refine e_aload_n C d_Mo_expression_199 rfl ?_
            refine e_iconst C d_Mo_expression_200 ?_
            refine e_callVV C ok_Mo_fail lk_Mo_200 (o := 1) (by decide) rfl [_] rfl rfl (Nat.le_of_ble_eq_true rfl) (by decide) (Nat.le_of_ble_eq_true rfl) d_Mo_expression_201 (k_Mo_fail hH (by omega)) (fun u_201 h_201 => ?_)
            subst h_201
            refine e_aload_n C d_Mo_expression_204 rfl ?_
            refine e_iconst C d_Mo_expression_205 ?_
            refine e_callVV C ok_Mo_comesOut lk_Mo_294 (o := 1) (by decide) rfl [_] rfl rfl (Nat.le_of_ble_eq_true rfl) (by decide) (Nat.le_of_ble_eq_true rfl) d_Mo_expression_206 (k_Mo_comesOut (k := (pf.length : Int) + nbn ws) (Or.inl rfl) hs ⟨hc.1, by omega⟩ ((hM.wu (f := 13) (by decide) (by decide) (by decide) (by decide) (by decide)).wu (f := 14) (by decide) (by decide) (by decide) (by decide) (by decide)) hR (by omega) hX.fl) (fun u_206 h_206 => ?_)
            obtain ⟨m', h1, ⟨h2, h3⟩, rfl⟩ := h_206
            have h4 := (rel_all (r := 1) (by omega) ws pf _ hR).1.2.2.2
            have h5 : m' 42 0 = c0 + (rel 1 ws pf).2.length := h1.2.2.1
            refine e_vret C F rfl d_Mo_expression_209 ?_
            refine hQ _ ⟨m', rfl, h2, ?_, ?_, by show (1 : Int) ≤ 1; decide, ?_, by omega⟩
            · rw [h3 13 (by decide) (by decide) (by decide) (by decide)]; unfold flt; rw [cu_f (by decide), cu_s]
            · rw [h3 14 (by decide) (by decide) (by decide) (by decide)]; unfold flt; rw [cu_s]
            · rw [h3 11 (by decide) (by decide) (by decide) (by decide)]; unfold flt; rw [cu_f (by decide), cu_f (by decide)]; omega
      have opx : 0 < rnk (T.1 t) → Ev g 210 [some (.inr (.inr (1, 0))), some (.inl 0), some (.inl 1)] [] (so σ 1 m) := by
        intro z1
        rw [if_pos z1] at hQ
        obtain ⟨⟨q1, q2, q3, q4⟩, q5, q6⟩ := rel_all (r := rnk (T.1 t)) (by omega) ws pf _ hR
        have ql := wfw_len q1
        have q1' : ∀ b, rnk (T.1 t) = 1 + b → (b = 0 ∨ b = 1) → Ev g 234 [some (.inr (.inr (1, 0))), some (.inl 0), some (.inl 1)] [.inl b, .inr (.inr (1, 0))] (so σ 1 m) := by
          intro b hb hb2
          refine e_callVV C ok_Mo_comesOut lk_Mo_294 (o := 1) (by decide) rfl [_] rfl rfl (Nat.le_of_ble_eq_true rfl) (by decide) (Nat.le_of_ble_eq_true rfl) d_Mo_expression_234 (k_Mo_comesOut (k := (pf.length : Int) + nbn ws) hb2 hs ⟨hc.1, by omega⟩ hM hR (by omega) hX) (fun u_234 h_234 => ?_)
          obtain ⟨m', h1, ⟨h2, h3⟩, rfl⟩ := h_234
          rw [← hb] at h1
          have g11 : m' 11 0 = t := by rw [h3 11 (by decide) (by decide) (by decide) (by decide)]; exact h11
          have g5 : m' 5 t = mk (T.1 t) := by rw [h3 5 (by decide) (by decide) (by decide) (by decide)]; exact e5
          have g46 := h1.1
          have gH : MH T m' t := hH.same h3.lo (by rw [h3 11 (by decide) (by decide) (by decide) (by decide)]) (by rw [h3 13 (by decide) (by decide) (by decide) (by decide)])
          have gX := h2
          have gp := h1.push (w := T.1 t) (n := (rel (rnk (T.1 t)) ws pf).1.length) rfl rfl
          have gH2 : MH T (cu (cu m' 45 (rel (rnk (T.1 t)) ws pf).1.length (mk (T.1 t))) 46 0 ((rel (rnk (T.1 t)) ws pf).1.length + 1)) t := gH.same (fun f hf => by rw [cf_f (by omega), cf_f (by omega)]) (by rw [cu_f (by decide), cu_f (by decide)]) (by rw [cu_f (by decide), cu_f (by decide)])
          have g12 : m' 12 0 = nop ws := by rw [h3 12 (by decide) (by decide) (by decide) (by decide)]; exact hno
          have h4 := (rel_all (r := rnk (T.1 t)) (by omega) ws pf _ hR).1.2.2.2
          have h5 : m' 42 0 = c0 + (rel (rnk (T.1 t)) ws pf).2.length := h1.2.2.1
          refine e_aload_n C d_Mo_expression_237 rfl ?_
          refine e_geta C fl_Mo_107 (by decide) rfl rfl d_Mo_expression_238 ?_
          refine e_aload_n C d_Mo_expression_241 rfl ?_
          refine e_geti C fl_Mo_285 (by decide) rfl rfl d_Mo_expression_242 (fun r_242 => ?_)
          try simp only [so_at, so_so, wr_so] at r_242 ⊢
          rw [g46] at r_242 ⊢
          refine e_aload_n C d_Mo_expression_245 rfl ?_
          refine e_geta C fl_Mo_20 (by decide) rfl rfl d_Mo_expression_246 ?_
          refine e_aload_n C d_Mo_expression_249 rfl ?_
          refine e_geti C fl_Mo_188 (by decide) rfl rfl d_Mo_expression_250 (fun r_250 => ?_)
          try simp only [so_at, so_so, wr_so] at r_250 ⊢
          rw [g11] at r_250 ⊢
          refine e_iald (n := 403) C (by decide) rfl (by decide) rfl rfl (by decide) (by omega) (by omega) d_Mo_expression_253 (fun r_253 => ?_)
          try simp only [so_at, so_so, wr_so] at r_253 ⊢
          rw [g5] at r_253 ⊢
          refine e_iast (n := 64) C (by decide) rfl (by decide) rfl rfl (by decide) (by omega) (by omega) (by omega) d_Mo_expression_254 ?_
          try simp only [so_at, so_so, wr_so]
          refine e_aload_n C d_Mo_expression_255 rfl ?_
          refine e_dup C d_Mo_expression_256 rfl ?_
          refine e_geti C fl_Mo_285 (by decide) rfl rfl d_Mo_expression_257 (fun r_257 => ?_)
          try simp only [so_at, so_so, wr_so] at r_257 ⊢
          rw [cu_f (by decide), g46] at r_257 ⊢
          refine e_iconst C d_Mo_expression_260 ?_
          refine e_iadd C d_Mo_expression_261 ?_
          refine e_puti C fp_Mo_285 (by decide) rfl rfl (by omega) d_Mo_expression_262 ?_
          try simp only [so_at, so_so, wr_so]
          refine e_aload_n C d_Mo_expression_265 rfl ?_
          refine e_callVV C ok_Mo_goesOn lk_Mo_206 (o := 1) (by decide) rfl [] rfl rfl (Nat.le_of_ble_eq_true rfl) (by decide) (Nat.le_of_ble_eq_true rfl) d_Mo_expression_266 (k_Mo_goesOn gH2) (fun u_266 h_266 => ?_)
          rcases h_266 with ⟨a, rfl⟩ | ⟨a, rfl⟩
          · rw [if_pos (by omega)] at hQ
            refine e_goto C 12 d_Mo_expression_269 (by decide) ?_
            refine e_iload_n C d_Mo_expression_12 rfl ?_
            refine e_if_eq C 272 d_Mo_expression_13 (by decide) (by decide) (fun c_13 => ?_) (fun c_13 => ?_)
            · exact absurd c_13 (by decide)
            · refine e_aload_n C d_Mo_expression_16 rfl ?_
              refine e_geti C fl_Mo_185 (by decide) rfl rfl d_Mo_expression_17 (fun r_17 => ?_)
              try simp only [so_at] at r_17 ⊢
              refine e_if_ne C 272 d_Mo_expression_20 (by decide) (by omega) (fun c_20 => ?_) (fun c_20 => ?_)
              · refine e_vret C F rfl d_Mo_expression_272 ?_
                refine hQ _ ⟨_, rfl, ((gX.wu (by omega)).wu (by omega)).fl, ?_, ?_, by show (1 : Int) ≤ 2; decide, ?_, ?_⟩
                · unfold flt; rw [cu_f (by decide), cu_s]
                · unfold flt; rw [cu_s]
                · unfold flt; rw [cu_f (by decide), cu_f (by decide), cu_f (by decide), cu_f (by decide)]; omega
                · unfold flt; rw [cu_f (by decide), cu_f (by decide), cu_f (by decide), cu_f (by decide)]; omega
              · exact absurd c_20 (by unfold flt; rw [cu_f (by decide), cu_s]; decide)
          · rw [if_neg (by omega)] at hQ
            refine e_goto C 12 d_Mo_expression_269 (by decide) ?_
            refine e_iload_n C d_Mo_expression_12 rfl ?_
            refine e_if_eq C 272 d_Mo_expression_13 (by decide) (by decide) (fun c_13 => ?_) (fun c_13 => ?_)
            · exact absurd c_13 (by decide)
            · refine e_aload_n C d_Mo_expression_16 rfl ?_
              refine e_geti C fl_Mo_185 (by decide) rfl rfl d_Mo_expression_17 (fun r_17 => ?_)
              try simp only [so_at] at r_17 ⊢
              refine e_if_ne C 272 d_Mo_expression_20 (by decide) (by omega) (fun c_20 => ?_) (fun c_20 => ?_)
              · exact absurd (by rw [cu_f (by decide), cu_f (by decide), cu_f (by decide)]; exact gH.2.2.2.2.2) c_20
              · refine e_drop 2 ?_
                refine ihA (t + 1) _ _ _ (by omega) (hI.op z1 a) ?_ (gp.wu (by decide) (by decide) (by decide) (by decide) (by decide)) ?_ (((gX.wu (by omega)).wu (by omega)).wu (by omega)) hQ
                · exact gH2.go (fun f hf => by rw [cf_f (by omega)]) (cu_s _ _ _ _) (by rw [cu_f (by decide)]) a (fun w => by rw [w] at z1; exact absurd z1 (by decide))
                · rw [cu_f (by decide), cu_f (by decide), cu_f (by decide), g12]
                  show nop ws = nop _ + _
                  rw [if_neg (rnk_ne (by omega)), q5]
                  omega
        refine e_aload_n C d_Mo_expression_210 rfl ?_
        refine e_aload_n C d_Mo_expression_211 rfl ?_
        refine e_bipush C d_Mo_expression_212 (by decide) ?_
        refine e_callIV C ok_Mo_is lk_Mo_203 (o := 1) (by decide) rfl [_] rfl rfl (Nat.le_of_ble_eq_true rfl) (by decide) (Nat.le_of_ble_eq_true rfl) d_Mo_expression_214 (k_Mo_is hH (k' := 42) (by decide) (by decide)) (fun v_214 u_214 q_214 h_214 => ?_)
        obtain ⟨rfl, rfl⟩ := h_214
        refine e_if_ne C 229 d_Mo_expression_217 (by decide) (by split <;> omega) (fun c_217 => ?_) (fun c_217 => ?_)
        · have hb : rnk (T.1 t) = 1 + 1 := by rw [if1_t c_217]; decide
          refine e_iconst C d_Mo_expression_229 ?_
          refine e_goto C 234 d_Mo_expression_230 (by decide) ?_
          exact q1' _ hb (by omega)
        · have hv := if1_f c_217
          refine e_aload_n C d_Mo_expression_220 rfl ?_
          refine e_bipush C d_Mo_expression_221 (by decide) ?_
          refine e_callIV C ok_Mo_is lk_Mo_203 (o := 1) (by decide) rfl [_] rfl rfl (Nat.le_of_ble_eq_true rfl) (by decide) (Nat.le_of_ble_eq_true rfl) d_Mo_expression_223 (k_Mo_is hH (k' := 47) (by decide) (by decide)) (fun v_223 u_223 q_223 h_223 => ?_)
          obtain ⟨rfl, rfl⟩ := h_223
          refine e_if_eq C 233 d_Mo_expression_226 (by decide) (by split <;> omega) (fun c_226 => ?_) (fun c_226 => ?_)
          · have hv2 := if1_f c_226
            have hb : rnk (T.1 t) = 1 + 0 := by unfold rnk at z1 ⊢; rw [if_neg (by omega)] at z1 ⊢; by_cases w : T.1 t = 43 ∨ T.1 t = 45; · { rw [if_pos w]; rfl }; · { rw [if_neg w] at z1; omega }
            refine e_iconst C d_Mo_expression_233 ?_
            exact q1' _ hb (by omega)
          · have hb : rnk (T.1 t) = 1 + 1 := by rw [if1_t c_226]; decide
            refine e_iconst C d_Mo_expression_229 ?_
            refine e_goto C 234 d_Mo_expression_230 (by decide) ?_
            exact q1' _ hb (by omega)
      have rest145 : ¬ (T.1 t = 41 ∧ 0 < nop ws) → Ev g 145 [some (.inr (.inr (1, 0))), some (.inl 0), none] [] (so σ 1 m) := by
        intro z2
        have yes : 0 < rnk (T.1 t) → Ev g 181 [some (.inr (.inr (1, 0))), some (.inl 0), none] [] (so σ 1 m) := by
          intro z1
          refine e_iconst C d_Mo_expression_181 ?_
          refine e_goto C 186 d_Mo_expression_182 (by decide) ?_
          refine e_istore_n C d_Mo_expression_186 (by decide) rfl ?_
          refine e_iload_n C d_Mo_expression_187 rfl ?_
          refine e_if_ne C 210 d_Mo_expression_188 (by decide) (by decide) (fun c_188 => ?_) (fun c_188 => ?_)
          · exact opx z1
          · exact absurd c_188 (by decide)
        refine e_aload_n C d_Mo_expression_145 rfl ?_
        refine e_bipush C d_Mo_expression_146 (by decide) ?_
        refine e_callIV C ok_Mo_is lk_Mo_203 (o := 1) (by decide) rfl [_] rfl rfl (Nat.le_of_ble_eq_true rfl) (by decide) (Nat.le_of_ble_eq_true rfl) d_Mo_expression_148 (k_Mo_is hH (k' := 43) (by decide) (by decide)) (fun v_148 u_148 q_148 h_148 => ?_)
        obtain ⟨rfl, rfl⟩ := h_148
        refine e_if_ne C 181 d_Mo_expression_151 (by decide) (by split <;> omega) (fun c_151 => ?_) (fun c_151 => ?_)
        · have hz : 0 < rnk (T.1 t) := by rw [if1_t c_151]; decide
          exact yes hz
        · have hv1 := if1_f c_151
          refine e_aload_n C d_Mo_expression_154 rfl ?_
          refine e_bipush C d_Mo_expression_155 (by decide) ?_
          refine e_callIV C ok_Mo_is lk_Mo_203 (o := 1) (by decide) rfl [_] rfl rfl (Nat.le_of_ble_eq_true rfl) (by decide) (Nat.le_of_ble_eq_true rfl) d_Mo_expression_157 (k_Mo_is hH (k' := 45) (by decide) (by decide)) (fun v_157 u_157 q_157 h_157 => ?_)
          obtain ⟨rfl, rfl⟩ := h_157
          refine e_if_ne C 181 d_Mo_expression_160 (by decide) (by split <;> omega) (fun c_160 => ?_) (fun c_160 => ?_)
          · have hz : 0 < rnk (T.1 t) := by rw [if1_t c_160]; decide
            exact yes hz
          · have hv2 := if1_f c_160
            refine e_aload_n C d_Mo_expression_163 rfl ?_
            refine e_bipush C d_Mo_expression_164 (by decide) ?_
            refine e_callIV C ok_Mo_is lk_Mo_203 (o := 1) (by decide) rfl [_] rfl rfl (Nat.le_of_ble_eq_true rfl) (by decide) (Nat.le_of_ble_eq_true rfl) d_Mo_expression_166 (k_Mo_is hH (k' := 42) (by decide) (by decide)) (fun v_166 u_166 q_166 h_166 => ?_)
            obtain ⟨rfl, rfl⟩ := h_166
            refine e_if_ne C 181 d_Mo_expression_169 (by decide) (by split <;> omega) (fun c_169 => ?_) (fun c_169 => ?_)
            · have hz : 0 < rnk (T.1 t) := by rw [if1_t c_169]; decide
              exact yes hz
            · have hv3 := if1_f c_169
              refine e_aload_n C d_Mo_expression_172 rfl ?_
              refine e_bipush C d_Mo_expression_173 (by decide) ?_
              refine e_callIV C ok_Mo_is lk_Mo_203 (o := 1) (by decide) rfl [_] rfl rfl (Nat.le_of_ble_eq_true rfl) (by decide) (Nat.le_of_ble_eq_true rfl) d_Mo_expression_175 (k_Mo_is hH (k' := 47) (by decide) (by decide)) (fun v_175 u_175 q_175 h_175 => ?_)
              obtain ⟨rfl, rfl⟩ := h_175
              refine e_if_eq C 185 d_Mo_expression_178 (by decide) (by split <;> omega) (fun c_178 => ?_) (fun c_178 => ?_)
              · have hv4 := if1_f c_178
                refine e_iconst C d_Mo_expression_185 ?_
                refine e_istore_n C d_Mo_expression_186 (by decide) rfl ?_
                exact fin (by unfold rnk; rw [if_neg (by omega), if_neg (by omega)]; omega) z2
              · have hz : 0 < rnk (T.1 t) := by rw [if1_t c_178]; decide
                exact yes hz
      refine e_aload_n C d_Mo_expression_96 rfl ?_
      refine e_bipush C d_Mo_expression_97 (by decide) ?_
      refine e_callIV C ok_Mo_is lk_Mo_203 (o := 1) (by decide) rfl [_] rfl rfl (Nat.le_of_ble_eq_true rfl) (by decide) (Nat.le_of_ble_eq_true rfl) d_Mo_expression_99 (k_Mo_is hH (k' := 41) (by decide) (by decide)) (fun v_99 u_99 q_99 h_99 => ?_)
      obtain ⟨rfl, rfl⟩ := h_99
      refine e_if_eq C 145 d_Mo_expression_102 (by decide) (by split <;> omega) (fun c_102 => ?_) (fun c_102 => ?_)
      · have hv := if1_f c_102
        first | exact rest145 (fun z => hv z.1) | exact rest145 (fun z => by omega)
      · have hv := if1_t c_102
        refine e_aload_n C d_Mo_expression_105 rfl ?_
        refine e_geti C fl_Mo_212 (by decide) rfl rfl d_Mo_expression_106 (fun r_106 => ?_)
        try simp only [so_at, so_so, wr_so, hno] at r_106 ⊢
        refine e_iload_n C d_Mo_expression_109 rfl ?_
        refine e_icmp_le C 145 d_Mo_expression_110 (by decide) (by omega) (by omega) (fun c_110 => ?_) (fun c_110 => ?_)
        · first | exact rest145 (fun z => hv z.1) | exact rest145 (fun z => by omega)
        · rw [if_neg (by rw [hv]; decide), if_pos ⟨hv, by omega⟩] at hQ
          have hI2 := fun z => hI.close hv (by omega) z
          obtain ⟨rest, hrest⟩ := (rel_1 (pf := pf) hI.1).2 (by omega)
          have etl : (rel 1 ws pf).1.tail = rest := by rw [hrest]; rfl
          rw [etl] at hQ hI2
          refine e_aload_n C d_Mo_expression_113 rfl ?_
          refine e_iconst C d_Mo_expression_114 ?_
          refine e_callVV C ok_Mo_comesOut lk_Mo_294 (o := 1) (by decide) rfl [_] rfl rfl (Nat.le_of_ble_eq_true rfl) (by decide) (Nat.le_of_ble_eq_true rfl) d_Mo_expression_115 (k_Mo_comesOut (k := (pf.length : Int) + nbn ws) (Or.inl rfl) hs ⟨hc.1, by omega⟩ hM hR (by omega) hX) (fun u_115 h_115 => ?_)
          obtain ⟨m', h1, ⟨h2, h3⟩, rfl⟩ := h_115
          obtain ⟨⟨q1, q2, q3, q4⟩, q5, q6⟩ := rel_all (r := 1) (by omega) ws pf _ hR
          have h5 : m' 42 0 = c0 + (rel 1 ws pf).2.length := h1.2.2.1
          have h1 : ME c0 m' (rel 1 ws pf).1 (rel 1 ws pf).2 := h1
          rw [hrest] at h1
          obtain ⟨y1, y2, y3⟩ := h1.pop rfl
          have g12 : m' 12 0 = nop ws := by rw [h3 12 (by decide) (by decide) (by decide) (by decide)]; exact hno
          have eno1 : nop (40 :: rest) = nop ws := by rw [← hrest]; exact q5
          have eno2 : nop (40 :: rest) = nop rest + 1 := by show nop rest + _ = _; rw [if_pos rfl]
          have gH : MH T m' t := hH.same h3.lo (by rw [h3 11 (by decide) (by decide) (by decide) (by decide)]) (by rw [h3 13 (by decide) (by decide) (by decide) (by decide)])
          have gH2 : MH T (cu (cu m' 46 0 rest.length) 12 0 (nop ws - 1)) t := gH.same (fun f hf => by rw [cf_f (by omega), cf_f (by omega)]) (by rw [cu_f (by decide), cu_f (by decide)]) (by rw [cu_f (by decide), cu_f (by decide)])
          have hwl := wfw_len q1
          rw [hrest] at q1 q2 q4 hwl
          refine e_aload_n C d_Mo_expression_118 rfl ?_
          refine e_dup C d_Mo_expression_119 rfl ?_
          refine e_geti C fl_Mo_285 (by decide) rfl rfl d_Mo_expression_120 (fun r_120 => ?_)
          try simp only [so_at, so_so, wr_so, hno] at r_120 ⊢
          rw [y3] at r_120 ⊢
          refine e_iconst C d_Mo_expression_123 ?_
          refine e_isub C d_Mo_expression_124 ?_
          rw [Int.add_sub_cancel]
          refine e_puti C fp_Mo_285 (by decide) rfl rfl (by omega) d_Mo_expression_125 ?_
          try simp only [so_at, so_so, wr_so, hno]
          refine e_aload_n C d_Mo_expression_128 rfl ?_
          refine e_dup C d_Mo_expression_129 rfl ?_
          refine e_geti C fl_Mo_212 (by decide) rfl rfl d_Mo_expression_130 (fun r_130 => ?_)
          try simp only [so_at, so_so, wr_so, hno] at r_130 ⊢
          rw [cu_f (by decide), g12] at r_130 ⊢
          refine e_iconst C d_Mo_expression_133 ?_
          refine e_isub C d_Mo_expression_134 ?_
          refine e_puti C fp_Mo_212 (by decide) rfl rfl (by omega) d_Mo_expression_135 ?_
          try simp only [so_at, so_so, wr_so, hno]
          refine e_aload_n C d_Mo_expression_138 rfl ?_
          refine e_callVV C ok_Mo_goesOn lk_Mo_206 (o := 1) (by decide) rfl [] rfl rfl (Nat.le_of_ble_eq_true rfl) (by decide) (Nat.le_of_ble_eq_true rfl) d_Mo_expression_139 (k_Mo_goesOn gH2) (fun u_139 h_139 => ?_)
          refine e_goto C 96 d_Mo_expression_142 (by decide) ?_
          rcases h_139 with ⟨a, rfl⟩ | ⟨a, rfl⟩
          · rw [if_pos (by omega)] at hQ
            have e2 : nbn (40 :: rest) = nbn rest := by show nbn rest + _ = _; rw [if_pos rfl]; rfl
            refine dead96 rest (rel 1 ws pf).2 ((pf.length : Int) + nbn ws) _ ?_ ?_ ⟨q1.1, by rw [e2] at q2; exact q2, q3, by rw [e2] at q4; exact q4⟩ (by have hwl : ((rest.length + 1 : Nat) : Int) ≤ _ := hwl; omega) (by omega) (((h2.wu (by omega)).wu (by omega)).fl) (fun m2 x1 x2 x3 => hQ _ ⟨m2, rfl, x1, ?_, ?_, by show (1 : Int) ≤ 2; decide, ?_, by omega⟩)
            · unfold flt; rw [cu_f (by decide), cu_s]; omega
            · exact ((y1.wu (by decide) (by decide) (by decide) (by decide) (by decide)).wu (f := 13) (by decide) (by decide) (by decide) (by decide) (by decide)).wu (f := 14) (by decide) (by decide) (by decide) (by decide) (by decide)
            · rw [x2 13 (by decide) (by decide) (by decide) (by decide)]; unfold flt; rw [cu_f (by decide), cu_s]
            · rw [x2 14 (by decide) (by decide) (by decide) (by decide)]; unfold flt; rw [cu_s]
            · rw [x2 11 (by decide) (by decide) (by decide) (by decide)]; unfold flt; rw [cu_f (by decide), cu_f (by decide), gH2.2.2.1]; omega
          · rw [if_neg (by omega)] at hQ
            refine ihB (t + 1) rest _ _ (by omega) (hI2 a).1 ?_ ((y1.wu (by decide) (by decide) (by decide) (by decide) (by decide)).wu (by decide) (by decide) (by decide) (by decide) (by decide)) ?_ (((h2.wu (by omega)).wu (by omega)).wu (by omega)) hQ
            · exact gH2.go (fun f hf => by rw [cf_f (by omega)]) (cu_s _ _ _ _) (by rw [cu_f (by decide)]) a (by omega)
            · rw [cu_f (by decide), cu_s]; omega
theorem k_Mo_expression {T : Tab} {σ : St} {m : Cs} {t s c0 : Int} (hH : MH T m t) (h12 : m 12 0 = 0) (hs : 0 ≤ s ∧ s ≤ 1) (h42 : m 42 0 = c0) (hc : 420 * s ≤ c0 ∧ c0 ≤ 420 * s + t) : CtV M_Mo_expression [.inr (.inr (1, 0))] (so σ 1 m) (fun u => expQ σ s c0 m (xE T t) u) := by
  intro g C F
  have h0t := hH.2.2.2.1
  refine e_aload_n C d_Mo_expression_0 rfl ?_
  refine e_iconst C d_Mo_expression_1 ?_
  refine e_puti C fp_Mo_285 (by decide) rfl rfl (by omega) d_Mo_expression_2 ?_
  try simp only [so_at, so_so, wr_so, h12, cu_f, ne_eq, Nat.reduceEqDiff, not_false_eq_true]
  refine e_aload_n C d_Mo_expression_5 rfl ?_
  refine e_geti C fl_Mo_212 (by decide) rfl rfl d_Mo_expression_6 (fun r_6 => ?_)
  try simp only [so_at, so_so, wr_so, h12, cu_f, ne_eq, Nat.reduceEqDiff, not_false_eq_true] at r_6 ⊢
  refine e_istore_n C d_Mo_expression_9 (by decide) rfl ?_
  refine e_iconst C d_Mo_expression_10 ?_
  refine e_istore_n C d_Mo_expression_11 (by decide) rfl ?_
  refine e_iload_n C d_Mo_expression_12 rfl ?_
  refine e_if_eq C 272 d_Mo_expression_13 (by decide) (by decide) (fun c_13 => ?_) (fun c_13 => ?_)
  · exact absurd c_13 (by decide)
  · refine e_aload_n C d_Mo_expression_16 rfl ?_
    refine e_geti C fl_Mo_185 (by decide) rfl rfl d_Mo_expression_17 (fun r_17 => ?_)
    try simp only [so_at, so_so, wr_so, h12, cu_f, ne_eq, Nat.reduceEqDiff, not_false_eq_true] at r_17 ⊢
    refine e_if_ne C 272 d_Mo_expression_20 (by decide) (by omega) (fun c_20 => ?_) (fun c_20 => ?_)
    · exact absurd hH.2.2.2.2.2 c_20
    · refine e_drop 2 ?_
      refine (l_Mo_expr (T := T) (t0 := t) C F hs hc 401).1 t [] [] _ (by omega) (XI.start h0t.1 h0t.2 hH.2.2.2.2.1) (hH.same (fun f hf => cf_f (by omega)) (cu_f (by decide)) (cu_f (by decide))) ⟨by rw [cu_s]; rfl, trivial, by rw [cu_f (by decide), h42]; show c0 = c0 + ((0 : Nat) : Int); omega, trivial⟩ (by rw [cu_f (by decide)]; exact h12) ((MXr.rf s c0 m).wu (by omega)) (fun u z => z)
theorem k_Mo_expressionF {σ : St} {m : Cs} (h : 1 ≤ m 13 0) : CtV M_Mo_expression [.inr (.inr (1, 0))] (so σ 1 m) (fun u => u = so σ 1 (cu m 46 0 0)) := by
  intro g C F
  refine e_aload_n C d_Mo_expression_0 rfl ?_
  refine e_iconst C d_Mo_expression_1 ?_
  refine e_puti C fp_Mo_285 (by decide) rfl rfl (by omega) d_Mo_expression_2 ?_
  try simp only [so_at, so_so, wr_so, cu_f, ne_eq, Nat.reduceEqDiff, not_false_eq_true]
  refine e_aload_n C d_Mo_expression_5 rfl ?_
  refine e_geti C fl_Mo_212 (by decide) rfl rfl d_Mo_expression_6 (fun r_6 => ?_)
  try simp only [so_at, so_so, wr_so, cu_f, ne_eq, Nat.reduceEqDiff, not_false_eq_true] at r_6 ⊢
  refine e_istore_n C d_Mo_expression_9 (by decide) rfl ?_
  refine e_iconst C d_Mo_expression_10 ?_
  refine e_istore_n C d_Mo_expression_11 (by decide) rfl ?_
  refine e_iload_n C d_Mo_expression_12 rfl ?_
  refine e_if_eq C 272 d_Mo_expression_13 (by decide) (by decide) (fun c_13 => ?_) (fun c_13 => ?_)
  · exact absurd c_13 (by decide)
  · refine e_aload_n C d_Mo_expression_16 rfl ?_
    refine e_geti C fl_Mo_185 (by decide) rfl rfl d_Mo_expression_17 (fun r_17 => ?_)
    try simp only [so_at, so_so, wr_so, cu_f, ne_eq, Nat.reduceEqDiff, not_false_eq_true] at r_17 ⊢
    refine e_if_ne C 272 d_Mo_expression_20 (by decide) (by omega) (fun c_20 => ?_) (fun c_20 => ?_)
    · refine e_vret C F rfl d_Mo_expression_272 ?_
      rfl
    · exact absurd c_20 (by omega)
