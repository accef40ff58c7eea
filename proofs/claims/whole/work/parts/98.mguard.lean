/-! the reference's guards -/
theorem fnd_no {q : Int → Bool} {n : Nat} (h : ∀ k : Int, 0 ≤ k → k < n → q k = false) : fnd q n 0 = -2 := by
  rcases fnd_some (q := q) n 0 (by omega) with z | ⟨a, b, c⟩
  · exact z.1
  · rw [h _ a (by omega)] at c; cases c
section MG
variable {T : Tab} {σ : St} {m x P c : Cs} {t : Int}
def apR (T : Tab) (x P c : Cs) (t : Int) : Int := if pnm x (P 3 0) (T.2.2.2.1 t) = -2 then -1 else if c 2 (pnm x (P 3 0) (T.2.2.2.1 t)) = -2 then pnm x (P 3 0) (T.2.2.2.1 t) else -1
def apM (T : Tab) (x P c m : Cs) (t : Int) : Cs := if pnm x (P 3 0) (T.2.2.2.1 t) = -2 then noteM m 4 (T.2.1 t) else if c 2 (pnm x (P 3 0) (T.2.2.2.1 t)) = -2 then m else noteM m 3 (T.2.1 t)
theorem apM_f {f : Nat} (h1 : f ≠ 15) (h2 : f ≠ 16) : apM T x P c m t f = m f := by
  unfold apM
  split
  · exact noteM_f h1 h2
  · split
    · rfl
    · exact noteM_f h1 h2
theorem l_Mo_atPost {g : Mach} {Q : Int → St → Prop} (C : Cx M_Mo_atPost g) (F : FinI M_Mo_atPost g Q) {s : Int} (hT : TF T) (hTM : TM T m) (ht : 0 ≤ t ∧ t ≤ 400) (hl : t = 0 ∨ T.1 (t - 1) ≠ 128) (hk : T.1 t = 130) (h13 : m 13 0 = 0) (h3 : 0 ≤ P 3 0 ∧ P 3 0 ≤ 8) (hp : MRp s P c m) (hn : MRn T x m) (hN : NS T x (P 3 0)) (hs : MSl T m t) (hQ : Q (apR T x P c t) (so σ 1 (apM T x P c m t))) :
    ∀ (j : Nat) (i : Int), 0 ≤ i → i + j = x 10 0 → (∀ k, 0 ≤ k → k < i → x 21 k ≠ -1 → x 5 (x 21 k) ≠ T.2.2.2.1 t) → Ev g 21 [some (.inr (.inr (1, 0))), some (.inl t), some (.inl i)] [] (so σ 1 m) := by
  have e8 := (hTM t ht.1 ht.2 hl).2.2.2 hk
  have hw : m 15 0 = 0 ∨ m 16 0 < T.2.1 t ∨ False := by rcases hs with z | z; exact Or.inl z; exact Or.inr (Or.inl z)
  obtain ⟨ps, p19, _, pA, _, _, _, _⟩ := hp
  obtain ⟨n1, n2, n3⟩ := hn
  obtain ⟨N1, N2, N3, N4⟩ := hN
  intro j
  induction j with
  | zero =>
    intro i h0 h1 hno
    have hq : pnm x (P 3 0) (T.2.2.2.1 t) = -2 := by
      unfold pnm
      refine fnd_no (fun p p0 p1 => ?_)
      obtain ⟨k, k0, k1, k2⟩ := N3 p p0 (by omega)
      have := hno k k0 (by omega) (by omega)
      rw [k2] at this
      exact beq_eq_false_iff_ne.mpr this
    unfold apR apM at hQ
    rw [if_pos hq, if_pos hq] at hQ
    refine e_iload_n C d_Mo_atPost_21 rfl ?_
    refine e_aload_n C d_Mo_atPost_22 rfl ?_
    refine e_geti C fl_Mo_221 (by decide) rfl rfl d_Mo_atPost_23 (fun r_23 => ?_)
    try simp only [so_at, n1] at r_23 ⊢
    refine e_icmp_ge C 100 d_Mo_atPost_26 (by decide) (by omega) (by omega) (fun c_26 => ?_) (fun c_26 => ?_)
    · refine e_aload_n C d_Mo_atPost_100 rfl ?_
      refine e_iconst C d_Mo_atPost_101 ?_
      refine e_iload_n C d_Mo_atPost_102 rfl ?_
      refine e_callVV C ok_Mo_wrong lk_Mo_265 (o := 1) (by decide) rfl [_, _] rfl rfl (Nat.le_of_ble_eq_true rfl) (by decide) (Nat.le_of_ble_eq_true rfl) d_Mo_atPost_103 (k_Mo_wrong hT hTM ht hl h13 (by omega) (by rcases hs with z | z; exact Or.inl z; exact Or.inr (Or.inl z))) (fun u_103 h_103 => ?_)
      subst h_103
      refine e_iconst C d_Mo_atPost_106 ?_
      refine e_iret C F rfl d_Mo_atPost_107 (by omega) ?_
      exact hQ
    · exact absurd h1 (by omega)
  | succ j ih =>
    intro i h0 h1 hno
    obtain ⟨⟨a1, a2, a3⟩, a4, a5⟩ := n3 i h0 (by omega)
    have hiff := hT.2.2.2.2 (x 20 i) t a3 hk
    have hN2 := N2 i h0 (by omega)
    refine e_iload_n C d_Mo_atPost_21 rfl ?_
    refine e_aload_n C d_Mo_atPost_22 rfl ?_
    refine e_geti C fl_Mo_221 (by decide) rfl rfl d_Mo_atPost_23 (fun r_23 => ?_)
    try simp only [so_at, n1, a1, e8, a4, p19] at r_23 ⊢
    refine e_icmp_ge C 100 d_Mo_atPost_26 (by decide) (by omega) (by omega) (fun c_26 => ?_) (fun c_26 => ?_)
    · exact absurd h1 (by omega)
    · refine e_aload_n C d_Mo_atPost_29 rfl ?_
      refine e_geta C fl_Mo_40 (by decide) rfl rfl d_Mo_atPost_30 ?_
      refine e_iload_n C d_Mo_atPost_33 rfl ?_
      refine e_lald (n := 20) C (by decide) rfl (by decide) rfl rfl (by decide) (by omega) (by omega) d_Mo_atPost_34 (fun r_34 => ?_)
      try simp only [so_at, n1, a1, e8, a4, p19] at r_34 ⊢
      refine e_aload_n C d_Mo_atPost_35 rfl ?_
      refine e_geta C fl_Mo_30 (by decide) rfl rfl d_Mo_atPost_36 ?_
      refine e_iload_n C d_Mo_atPost_39 rfl ?_
      refine e_lald (n := 403) C (by decide) rfl (by decide) rfl rfl (by decide) (by omega) (by omega) d_Mo_atPost_40 (fun r_40 => ?_)
      try simp only [so_at, n1, a1, e8, a4, p19] at r_40 ⊢
      refine e_lcmp C d_Mo_atPost_41 r_34 r_40 ?_
      refine e_if_ne C 94 d_Mo_atPost_42 (by decide) (z_cmp_r _ _) (fun c_42 => ?_) (fun c_42 => ?_)
      · have hne : x 21 i ≠ -1 → x 5 (x 21 i) ≠ T.2.2.2.1 t := fun z w => by
          rcases hN2 with q | ⟨q1, q2, q3⟩
          · exact z q
          · rw [N1 _ q1 q2, q3] at w
            exact c_42 (z_cmp_eq.mpr (hiff.mp w))
        refine e_iinc C d_Mo_atPost_94 rfl (by decide) rfl ?_
        refine e_goto C 21 d_Mo_atPost_97 (by decide) ?_
        exact ih (i + 1) (by omega) (by omega) (fun k k0 k1 z => by by_cases w : k = i; · { rw [w] at z ⊢; exact hne z }; · exact hno k k0 (by omega) z)
      · refine e_aload_n C d_Mo_atPost_45 rfl ?_
        refine e_geta C fl_Mo_43 (by decide) rfl rfl d_Mo_atPost_46 ?_
        refine e_iload_n C d_Mo_atPost_49 rfl ?_
        refine e_iald (n := 20) C (by decide) rfl (by decide) rfl rfl (by decide) (by omega) (by omega) d_Mo_atPost_50 (fun r_50 => ?_)
        try simp only [so_at, n1, a1, e8, a4, p19] at r_50 ⊢
        refine e_if_eq C 57 d_Mo_atPost_51 (by decide) (by split <;> omega) (fun c_51 => ?_) (fun c_51 => ?_)
        · have hpo : x 21 i ≠ -1 := fun z => by rw [if_pos z] at c_51; omega
          obtain ⟨q1, q2, q3⟩ := hN2.resolve_left hpo
          have e23 := a5 hpo
          have hA : x 5 (x 21 i) = T.2.2.2.1 t := by rw [N1 _ q1 q2, q3]; exact hiff.mpr (z_cmp_eq.mp c_42)
          have hq : pnm x (P 3 0) (T.2.2.2.1 t) = x 21 i := by
            unfold pnm
            refine fnd_is _ _ _ (by omega) q1 (by omega) (beq_iff_eq.mpr hA) (fun p p0 p1 => ?_)
            obtain ⟨k, k0, k1, k2⟩ := N3 p p0 (by omega)
            have hki : k < i := by
              rcases Int.lt_or_le k i with z | z
              · exact z
              · exfalso
                by_cases w : k = i
                · rw [w] at k2; omega
                · have := N4 i k h0 (by omega) (by omega) hpo (by omega)
                  omega
            have := hno k k0 hki (by omega)
            rw [k2] at this
            exact beq_eq_false_iff_ne.mpr this
          obtain ⟨_, _, _, b4, b5⟩ := pA (x 21 i) q1 q2
          unfold apR apM at hQ
          have hq2 : ¬ x 21 i = -2 := by omega
          rw [hq, if_neg hq2, if_neg hq2] at hQ
          refine e_aload_n C d_Mo_atPost_57 rfl ?_
          refine e_geta C fl_Mo_61 (by decide) rfl rfl d_Mo_atPost_58 ?_
          refine e_bipush C d_Mo_atPost_61 (by decide) ?_
          refine e_aload_n C d_Mo_atPost_63 rfl ?_
          refine e_geti C fl_Mo_218 (by decide) rfl rfl d_Mo_atPost_64 (fun r_64 => ?_)
          try simp only [so_at, n1, a1, e8, a4, p19] at r_64 ⊢
          refine e_imul C d_Mo_atPost_67 ?_
          refine e_aload_n C d_Mo_atPost_68 rfl ?_
          refine e_geta C fl_Mo_46 (by decide) rfl rfl d_Mo_atPost_69 ?_
          refine e_iload_n C d_Mo_atPost_72 rfl ?_
          refine e_iald (n := 20) C (by decide) rfl (by decide) rfl rfl (by decide) (by omega) (by omega) d_Mo_atPost_73 (fun r_73 => ?_)
          try simp only [so_at, n1, a1, e8, a4, p19] at r_73 ⊢
          rw [e23] at r_73 ⊢
          refine e_iadd C d_Mo_atPost_74 ?_
          refine e_iald (n := 16) C (by decide) rfl (by decide) rfl rfl (by decide) (by omega) (by omega) d_Mo_atPost_75 (fun r_75 => ?_)
          try simp only [so_at, n1, a1, e8, a4, p19] at r_75 ⊢
          rw [b4] at r_75 ⊢
          refine e_if_ge C 86 d_Mo_atPost_76 (by decide) (by omega) (fun c_76 => ?_) (fun c_76 => ?_)
          · have hem : ¬ c 2 (x 21 i) = -2 := fun w => by unfold em at c_76; rw [if_pos w] at c_76; omega
            rw [if_neg hem, if_neg hem] at hQ
            refine e_aload_n C d_Mo_atPost_86 rfl ?_
            refine e_iconst C d_Mo_atPost_87 ?_
            refine e_iload_n C d_Mo_atPost_88 rfl ?_
            refine e_callVV C ok_Mo_wrong lk_Mo_265 (o := 1) (by decide) rfl [_, _] rfl rfl (Nat.le_of_ble_eq_true rfl) (by decide) (Nat.le_of_ble_eq_true rfl) d_Mo_atPost_89 (k_Mo_wrong hT hTM ht hl h13 (by omega) (by rcases hs with z | z; exact Or.inl z; exact Or.inr (Or.inl z))) (fun u_89 h_89 => ?_)
            subst h_89
            refine e_iconst C d_Mo_atPost_92 ?_
            refine e_iret C F rfl d_Mo_atPost_93 (by omega) ?_
            exact hQ
          · have hem : c 2 (x 21 i) = -2 := Decidable.byContradiction fun w => by unfold em at c_76; rw [if_neg w] at c_76; omega
            rw [if_pos hem, if_pos hem] at hQ
            refine e_aload_n C d_Mo_atPost_79 rfl ?_
            refine e_geta C fl_Mo_46 (by decide) rfl rfl d_Mo_atPost_80 ?_
            refine e_iload_n C d_Mo_atPost_83 rfl ?_
            refine e_iald (n := 20) C (by decide) rfl (by decide) rfl rfl (by decide) (by omega) (by omega) d_Mo_atPost_84 (fun r_84 => ?_)
            try simp only [so_at, n1, a1, e8, a4, p19] at r_84 ⊢
            rw [e23] at r_84 ⊢
            refine e_iret C F rfl d_Mo_atPost_85 (by omega) ?_
            exact hQ
        · have hne : x 21 i ≠ -1 → x 5 (x 21 i) ≠ T.2.2.2.1 t := fun z w => by rw [if_neg z] at c_51; exact c_51 rfl
          refine e_goto C 94 d_Mo_atPost_54 (by decide) ?_
          refine e_iinc C d_Mo_atPost_94 rfl (by decide) rfl ?_
          refine e_goto C 21 d_Mo_atPost_97 (by decide) ?_
          exact ih (i + 1) (by omega) (by omega) (fun k k0 k1 z => by by_cases w : k = i; · { rw [w] at z ⊢; exact hne z }; · exact hno k k0 (by omega) z)
theorem k_Mo_atPost {s : Int} (h : MH T m t) (h3 : 0 ≤ P 3 0 ∧ P 3 0 ≤ 8) (hp : MRp s P c m) (hn : MRn T x m) (hN : NS T x (P 3 0)) (hs : MSl T m t) : CtI M_Mo_atPost [.inr (.inr (1, 0))] (so σ 1 m) (fun r u => (∃ fp, pMu T 130 t = .inl fp ∧ 1 ≤ fp.1 ∧ r = -1 ∧ u = so σ 1 (flt m fp.1 fp.2)) ∨ (pMu T 130 t = .inr (t + 1) ∧ t < 400 ∧ T.1 t = 130 ∧ r = apR T x P c t ∧ u = so σ 1 (apM T x P c (cu m 11 0 (t + 1)) t))) := by
  intro g C F
  have e11 := h.2.2.1
  have h0 := h.2.2.2.1
  refine e_aload_n C d_Mo_atPost_0 rfl ?_
  refine e_geti C fl_Mo_188 (by decide) rfl rfl d_Mo_atPost_1 (fun r_1 => ?_)
  try simp only [so_at, e11] at r_1 ⊢
  refine e_istore_n C d_Mo_atPost_4 (by decide) rfl ?_
  refine e_aload_n C d_Mo_atPost_5 rfl ?_
  refine e_iconst C d_Mo_atPost_6 ?_
  refine e_callVV C ok_Mo_must lk_Mo_252 (o := 1) (by decide) rfl [_] rfl rfl (Nat.le_of_ble_eq_true rfl) (by decide) (Nat.le_of_ble_eq_true rfl) d_Mo_atPost_7 (k_Mo_must h (k' := 130) (by decide) (by decide)) (fun u_7 h_7 => ?_)
  rcases h_7 with ⟨fp, a1, a2, rfl⟩ | ⟨a1, a2, a3, rfl⟩
  · have e13 : flt m fp.1 fp.2 13 0 = fp.1 := by unfold flt; rw [cu_f (by decide), cu_s]
    refine e_aload_n C d_Mo_atPost_10 rfl ?_
    refine e_geti C fl_Mo_185 (by decide) rfl rfl d_Mo_atPost_11 (fun r_11 => ?_)
    try simp only [so_at, e13] at r_11 ⊢
    refine e_if_le C 19 d_Mo_atPost_14 (by decide) (by omega) (fun c_14 => ?_) (fun c_14 => ?_)
    · exact absurd c_14 (by omega)
    · refine e_iconst C d_Mo_atPost_17 ?_
      refine e_iret C F rfl d_Mo_atPost_18 (by omega) ?_
      exact Or.inl ⟨fp, a1, a2, rfl, rfl⟩
  · have e13 : cu m 11 0 (t + 1) 13 0 = 0 := by rw [cu_f (by decide)]; exact h.2.2.2.2.2
    refine e_aload_n C d_Mo_atPost_10 rfl ?_
    refine e_geti C fl_Mo_185 (by decide) rfl rfl d_Mo_atPost_11 (fun r_11 => ?_)
    try simp only [so_at, e13] at r_11 ⊢
    refine e_if_le C 19 d_Mo_atPost_14 (by decide) (by omega) (fun c_14 => ?_) (fun c_14 => ?_)
    · refine e_iconst C d_Mo_atPost_19 ?_
      refine e_istore_n C d_Mo_atPost_20 (by decide) rfl ?_
      refine l_Mo_atPost (m := cu m 11 0 (t + 1)) (x := x) (P := P) (c := c) C F h.1 (h.2.1.same (fun f hf => cf_f (by omega))) h0 h.2.2.2.2.1 a3 e13 h3 (hp.same (fun f hf => cf_f (by omega))) (hn.same (cf_f (by decide)) (cf_f (by decide)) (cf_f (by decide)) (cf_f (by decide)) rfl rfl rfl rfl) hN (by unfold MSl; rw [cu_f (by decide), cu_f (by decide)]; exact hs) (Or.inr ⟨a1, a2, a3, rfl, rfl⟩) (x 10 0).toNat 0 (by omega) (by have := hn.2.1; omega) (fun k k0 k1 => by omega)
    · exact absurd c_14 (by decide)
theorem k_Mo_atPostF (h : 1 ≤ m 13 0) (ht : 0 ≤ m 11 0 ∧ m 11 0 ≤ 400) : CtI M_Mo_atPost [.inr (.inr (1, 0))] (so σ 1 m) (fun r u => r = -1 ∧ u = so σ 1 m) := by
  intro g C F
  refine e_aload_n C d_Mo_atPost_0 rfl ?_
  refine e_geti C fl_Mo_188 (by decide) rfl rfl d_Mo_atPost_1 (fun r_1 => ?_)
  try simp only [so_at] at r_1 ⊢
  refine e_istore_n C d_Mo_atPost_4 (by decide) rfl ?_
  refine e_aload_n C d_Mo_atPost_5 rfl ?_
  refine e_iconst C d_Mo_atPost_6 ?_
  refine e_callVV C ok_Mo_must lk_Mo_252 (o := 1) (by decide) rfl [_] rfl rfl (Nat.le_of_ble_eq_true rfl) (by decide) (Nat.le_of_ble_eq_true rfl) d_Mo_atPost_7 (k_Mo_mustF h) (fun u_7 h_7 => ?_)
  subst h_7
  refine e_aload_n C d_Mo_atPost_10 rfl ?_
  refine e_geti C fl_Mo_185 (by decide) rfl rfl d_Mo_atPost_11 (fun r_11 => ?_)
  try simp only [so_at] at r_11 ⊢
  refine e_if_le C 19 d_Mo_atPost_14 (by decide) (by omega) (fun c_14 => ?_) (fun c_14 => ?_)
  · exact absurd c_14 (by omega)
  · refine e_iconst C d_Mo_atPost_17 ?_
    refine e_iret C F rfl d_Mo_atPost_18 (by omega) ?_
    exact ⟨rfl, rfl⟩
theorem WX.ap {T : Tab} {x m P c : Cs} {t : Int} (h : WX T x m t) (hT : TF T) (ht : 0 ≤ t) (hk : T.1 t ≠ 128) : WX T (atX T x P c t) (apM T x P c m t) (t + 1) := by
  unfold atX apM
  split
  · exact h.nt hT ht hk
  · split
    · exact h.go hT ht hk rfl rfl rfl rfl
    · exact h.nt hT ht hk
theorem em_2 : em (-2) = -1 := by decide
set_option maxHeartbeats 4000000 in
theorem k_Mo_tellGuard {s : Int} (h : MH T m (t + 1)) (hk0 : 0 ≤ t) (h3 : 0 ≤ P 3 0 ∧ P 3 0 ≤ 8) (h4 : 0 ≤ P 4 0 ∧ P 4 0 < 12) (hp : MRp s P c m) (hn : MRn T x m) (h10 : x 10 0 < 20) (hN : NS T x (P 3 0)) (hw : WX T x m (t + 1)) (hgo : pGo T t = .inr (t + 1)) : CtV M_Mo_tellGuard [.inr (.inr (1, 0))] (so σ 1 m) (fun u => telM σ T s m (zGuard T t x P c) u) := by
  intro g C F
  have hs := hp.1
  have hp0 := hp
  obtain ⟨_, p19, ⟨p24, p29, p31, p33⟩, pA, pG, pD, pE, pE2⟩ := hp
  obtain ⟨z25, z26, z27, z28, z24, z29, z30, z31, z32, z33⟩ := sz8
  have hn20 := hn.1
  have hn10 := hn.2.1
  have h0 := h.2.2.2.1
  unfold zGuard at F
  rw [if_neg (by omega), hgo, bnd_r] at F
  have d60 : ∀ (fp : Int × Int) (m' : Cs) (q : Int), Ft fp m' → PF s m m' → FinV M_Mo_tellGuard g (fun u => telM σ T s m (.inl fp) u) → Ev g 60 [some (.inr (.inr (1, 0))), some (.inl (12 * s + P 4 0)), some (.inl q)] [] (so σ 1 m') := by
    intro fp m' q hf hpf F
    have := hf.f
    refine e_aload_n C d_Mo_tellGuard_60 rfl ?_
    refine e_iconst C d_Mo_tellGuard_61 ?_
    refine e_callVV C ok_Mo_must lk_Mo_252 (o := 1) (by decide) rfl [_] rfl rfl (Nat.le_of_ble_eq_true rfl) (by decide) (Nat.le_of_ble_eq_true rfl) d_Mo_tellGuard_62 (k_Mo_mustF hf.f) (fun u_62 h_62 => ?_)
    subst h_62
    refine e_aload_n C d_Mo_tellGuard_65 rfl ?_
    refine e_geti C fl_Mo_185 (by decide) rfl rfl d_Mo_tellGuard_66 (fun r_66 => ?_)
    try simp only [so_at] at r_66 ⊢
    refine e_if_le C 73 d_Mo_tellGuard_69 (by decide) (by omega) (fun c_69 => ?_) (fun c_69 => ?_)
    · exact absurd c_69 (by omega)
    · refine e_vret C F rfl d_Mo_tellGuard_72 ?_
      exact ⟨m', rfl, hpf, hf⟩
  -- the end of a guard's tell: m' with t' tokens gone, the post's number v
  have fin : ∀ (t' v : Int) (x' c' m' : Cs), MH T m' t' → PF s m m' → SmL m m' → (∀ f, f ≠ 11 → f ≠ 15 → f ≠ 16 → f ≠ 30 → m' f = m f) → (∀ j, m' 30 j = if j = 12 * s + P 4 0 then v else m 30 j) → WX T x' m' t' → (∀ f, f ≠ 15 → f ≠ 16 → x' f = nameX T x (t + 1) (-1) f) → (T.1 (t + 1) = 130) → t + 1 < 400 → (v = -1 ∨ (0 ≤ v ∧ v < P 3 0)) → em (c' 6 (P 4 0)) = v → (∀ k, k ≠ P 4 0 → c' 6 k = c 6 k) → (∀ f k, f ≤ 1 → c' f k = c f k) → (∀ k, 0 ≤ k → c' 2 k = if k = v then P 4 0 else c 2 k) → FinV M_Mo_tellGuard g (fun u => telM σ T s m (bnd (pMu T 59 t') fun t3 => .inr (t3, x', cu P 4 0 (P 4 0 + 1), c')) u) → Ev g 60 [some (.inr (.inr (1, 0))), some (.inl (12 * s + P 4 0)), some (.inl (t + 1))] [] (so σ 1 m') := by
    intro t' v x' c' m' hM hpf hsm hf h30 hwx hxf hk1 ht1 hv he hc6 hc01 hc2 F
    refine e_aload_n C d_Mo_tellGuard_60 rfl ?_
    refine e_iconst C d_Mo_tellGuard_61 ?_
    refine e_callVV C ok_Mo_must lk_Mo_252 (o := 1) (by decide) rfl [_] rfl rfl (Nat.le_of_ble_eq_true rfl) (by decide) (Nat.le_of_ble_eq_true rfl) d_Mo_tellGuard_62 (k_Mo_must hM (k' := 59) (by decide) (by decide)) (fun u_62 h_62 => ?_)
    rcases h_62 with ⟨fp, g1, g2, rfl⟩ | ⟨g1, g2, g3, rfl⟩
    · rw [g1, bnd_l] at F
      have e13 : flt m' fp.1 fp.2 13 0 = fp.1 := by unfold flt; rw [cu_f (by decide), cu_s]
      refine e_aload_n C d_Mo_tellGuard_65 rfl ?_
      refine e_geti C fl_Mo_185 (by decide) rfl rfl d_Mo_tellGuard_66 (fun r_66 => ?_)
      try simp only [so_at, e13] at r_66 ⊢
      refine e_if_le C 73 d_Mo_tellGuard_69 (by decide) (by omega) (fun c_69 => ?_) (fun c_69 => ?_)
      · exact absurd c_69 (by omega)
      · refine e_vret C F rfl d_Mo_tellGuard_72 ?_
        exact ⟨_, rfl, hpf.fl, Ft.mk hM g2⟩
    · rw [g1, bnd_r] at F
      have q13 : cu m' 11 0 (t' + 1) 13 0 = 0 := by rw [cu_f (by decide)]; exact hM.2.2.2.2.2
      have qf : ∀ f, f ≠ 11 → f ≠ 15 → f ≠ 16 → f ≠ 30 → cu m' 11 0 (t' + 1) f = m f := fun f c1 c2 c3 c4 => by rw [cf_f c1]; exact hf f c1 c2 c3 c4
      have q30 : ∀ j, cu m' 11 0 (t' + 1) 30 j = if j = 12 * s + P 4 0 then v else m 30 j := fun j => by rw [cu_f (by decide)]; exact h30 j
      have q19 : cu m' 11 0 (t' + 1) 19 0 = s := by rw [qf 19 (by decide) (by decide) (by decide) (by decide)]; exact p19
      have q29 : cu m' 11 0 (t' + 1) 29 s = P 4 0 := by rw [qf 29 (by decide) (by decide) (by decide) (by decide)]; exact p29
      have q20 : cu m' 11 0 (t' + 1) 20 0 = x 10 0 := by rw [qf 20 (by decide) (by decide) (by decide) (by decide)]; exact hn20
      have q30v : cu m' 11 0 (t' + 1) 30 (12 * s + P 4 0) = v := by rw [q30, if_pos rfl]
      have hTM6 : TM T (cu m' 11 0 (t' + 1)) := hM.2.1.same (fun f hf => cf_f (by omega))
      have q8 := (hTM6 (t + 1) (by omega) (by omega) h.2.2.2.2.1).2.2.2 hk1
      have q11 : cu m' 11 0 (t' + 1) 11 0 = t' + 1 := cu_s _ _ _ _
      have hpf6 : PF s m (cu m' 11 0 (t' + 1)) := hpf.w1 (by omega)
      have hsm6 : SmL m (cu m' 11 0 (t' + 1)) := hsm.w (by decide)
      have ewx8 : WX T x' (cu m' 11 0 (t' + 1)) (t' + 1) := hwx.go h.1 hM.2.2.2.1.1 (by omega) rfl rfl (cu_f (by decide)) (cu_f (by decide))
      generalize cu m' 11 0 (t' + 1) = m6 at q13 qf q30 q19 q29 q20 q30v hTM6 q8 q11 hpf6 hsm6 ewx8 ⊢
      -- the notes, and one guard more
      have last : ∀ m7 : Cs, (∀ f, f ≠ 28 → m7 f = m6 f) → (∀ j, m7 28 j = if v ≠ -1 ∧ j = 8 * s + v then P 4 0 else m 28 j) → PF s m m7 → Ev g 110 [some (.inr (.inr (1, 0))), some (.inl (12 * s + P 4 0)), some (.inl (t + 1))] [] (so σ 1 m7) := by
        intro m7 h7 h28 hpf7
        have w19 : m7 19 0 = s := by rw [h7 19 (by decide)]; exact q19
        have w29 : m7 29 s = P 4 0 := by rw [h7 29 (by decide)]; exact q29
        have w20 : m7 20 0 = x 10 0 := by rw [h7 20 (by decide)]; exact q20
        have w8 : m7 8 (t + 1) = T.2.2.2.2 (t + 1) := by rw [h7 8 (by decide)]; exact q8
        refine e_rng (fun hrng => ?_)
        have hr8 : R64 (m7 8 (t + 1)) := by have := hrng 1 8 (t + 1); rw [so_at] at this; exact this
        refine e_aload_n C d_Mo_tellGuard_110 rfl ?_
        refine e_iload_n C d_Mo_tellGuard_111 rfl ?_
        refine e_iconst C d_Mo_tellGuard_112 ?_
        refine e_aload_n C d_Mo_tellGuard_113 rfl ?_
        refine e_geta C fl_Mo_64 (by decide) rfl rfl d_Mo_tellGuard_114 ?_
        refine e_aload_n C d_Mo_tellGuard_117 rfl ?_
        refine e_geti C fl_Mo_218 (by decide) rfl rfl d_Mo_tellGuard_118 (fun r_118 => ?_)
        try simp only [so_at, so_so, wr_so, w19, w29, cu_s, cu_f, ne_eq, Nat.reduceEqDiff, not_false_eq_true] at r_118 ⊢
        refine e_iald (n := 2) C (by decide) rfl (by decide) rfl rfl (by decide) (by omega) (by omega) d_Mo_tellGuard_121 (fun r_121 => ?_)
        try simp only [so_at, so_so, wr_so, w19, w29, cu_s, cu_f, ne_eq, Nat.reduceEqDiff, not_false_eq_true] at r_121 ⊢
        refine e_callVV C ok_Mo_notes lk_Mo_272 (o := 1) (by decide) rfl [_, _, _] rfl rfl (Nat.le_of_ble_eq_true rfl) (by decide) (Nat.le_of_ble_eq_true rfl) d_Mo_tellGuard_122 (k_Mo_notes (v := T.2.2.2.2 (t + 1)) w20 (by omega) (by omega) w8 (by rw [← w8]; exact hr8) (by omega) (by omega)) (fun u_122 h_122 => ?_)
        subst h_122
        refine e_aload_n C d_Mo_tellGuard_125 rfl ?_
        refine e_geta C fl_Mo_64 (by decide) rfl rfl d_Mo_tellGuard_126 ?_
        refine e_aload_n C d_Mo_tellGuard_129 rfl ?_
        refine e_geti C fl_Mo_218 (by decide) rfl rfl d_Mo_tellGuard_130 (fun r_130 => ?_)
        try simp only [so_at, so_so, wr_so, w19, w29, cu_s, cu_f, ne_eq, Nat.reduceEqDiff, not_false_eq_true] at r_130 ⊢
        refine e_dup2 C d_Mo_tellGuard_133 rfl rfl ?_
        refine e_iald (n := 2) C (by decide) rfl (by decide) rfl rfl (by decide) (by omega) (by omega) d_Mo_tellGuard_134 (fun r_134 => ?_)
        try simp only [so_at, so_so, wr_so, w19, w29, cu_s, cu_f, ne_eq, Nat.reduceEqDiff, not_false_eq_true] at r_134 ⊢
        refine e_iconst C d_Mo_tellGuard_135 ?_
        refine e_iadd C d_Mo_tellGuard_136 ?_
        refine e_iast (n := 2) C (by decide) rfl (by decide) rfl rfl (by decide) (by omega) (by omega) (by omega) d_Mo_tellGuard_137 ?_
        try simp only [so_at, so_so, wr_so, w19, w29, cu_s, cu_f, ne_eq, Nat.reduceEqDiff, not_false_eq_true]
        refine e_vret C F rfl d_Mo_tellGuard_138 ?_
        have wf : ∀ f, f ≠ 20 → f ≠ 21 → f ≠ 22 → f ≠ 23 → f ≠ 29 → f ≠ 28 → f ≠ 11 → f ≠ 15 → f ≠ 16 → f ≠ 30 → cu (cu (cu (cu (cu m7 21 (x 10 0) (T.2.2.2.2 (t + 1))) 22 (x 10 0) 1) 23 (x 10 0) (P 4 0)) 20 0 (x 10 0 + 1)) 29 s (P 4 0 + 1) f = m f := fun f c1 c2 c3 c4 c5 c6 c7 c8 c9 c10 => by rw [cf_f c5, cf_f c1, cf_f c4, cf_f c3, cf_f c2, h7 f c6]; exact qf f c7 c8 c9 c10
        refine ⟨_, rfl, ?_, ?_, ?_, ?_, ?_, ?_, ?_, ?_, ?_⟩
        · exact ((((hpf7.w1 (by omega)).w1 (by omega)).w1 (by omega)).w1 (by omega)).w2 (by decide) (by rw [z29]; omega) (by rw [z29]; omega)
        · intro f b1 b2
          exact wf f (by omega) (by omega) (by omega) (by omega) (by omega) (by omega) (by omega) (by omega) (by omega) (by omega)
        · rw [cu_f (by decide), cu_f (by decide), cu_f (by decide), cu_f (by decide), cu_f (by decide), h7 13 (by decide)]; exact q13
        · rw [wf 12 (by decide) (by decide) (by decide) (by decide) (by decide) (by decide) (by decide) (by decide) (by decide) (by decide)]
        · rw [cu_f (by decide), cu_f (by decide), cu_f (by decide), cu_f (by decide), cu_f (by decide), h7 11 (by decide)]; exact q11
        · show MRp s (cu P 4 0 (P 4 0 + 1)) c' _
          have y4 : cu P 4 0 (P 4 0 + 1) 4 0 = P 4 0 + 1 := cu_s _ _ _ _
          have yf : ∀ f k, f ≠ 4 → cu P 4 0 (P 4 0 + 1) f k = P f k := fun f k c1 => cu_f c1
          refine ⟨hs, ?_, ⟨?_, ?_, ?_, ?_⟩, fun p p0 p1 => ?_, fun gg g0 g1' => ?_, fun k k0 k1 => ?_, fun p p0 p1 => ?_, fun gg g0 g1' => ?_⟩
          · rw [wf 19 (by decide) (by decide) (by decide) (by decide) (by decide) (by decide) (by decide) (by decide) (by decide) (by decide)]; exact p19
          · rw [wf 24 (by decide) (by decide) (by decide) (by decide) (by decide) (by decide) (by decide) (by decide) (by decide) (by decide), yf 3 0 (by decide)]; exact p24
          · rw [cu_s, y4]
          · rw [wf 31 (by decide) (by decide) (by decide) (by decide) (by decide) (by decide) (by decide) (by decide) (by decide) (by decide), yf 5 0 (by decide)]; exact p31
          · rw [wf 33 (by decide) (by decide) (by decide) (by decide) (by decide) (by decide) (by decide) (by decide) (by decide) (by decide), yf 6 0 (by decide)]; exact p33
          · rw [yf 3 0 (by decide)] at p1
            obtain ⟨a1, a2, a3, a4, a5⟩ := pA p p0 p1
            rw [wf 25 (by decide) (by decide) (by decide) (by decide) (by decide) (by decide) (by decide) (by decide) (by decide) (by decide), wf 26 (by decide) (by decide) (by decide) (by decide) (by decide) (by decide) (by decide) (by decide) (by decide) (by decide), wf 27 (by decide) (by decide) (by decide) (by decide) (by decide) (by decide) (by decide) (by decide) (by decide) (by decide), yf 0 p (by decide), hc01 0 p (by decide), hc01 1 p (by decide), hc2 p p0]
            refine ⟨a1, a2, a3, ?_, ?_⟩
            · rw [cu_f (by decide), cu_f (by decide), cu_f (by decide), cu_f (by decide), cu_f (by decide), h28]
              by_cases w : p = v
              · rw [if_pos w, if_pos ⟨by omega, by omega⟩]
                unfold em
                rw [if_neg (by omega)]
              · rw [if_neg w, if_neg (by omega)]; exact a4
            · split
              · right; omega
              · exact a5
          · rw [y4] at g1'
            rw [cu_f (by decide), cu_f (by decide), cu_f (by decide), cu_f (by decide), cu_f (by decide), h7 30 (by decide), q30]
            by_cases w : gg = P 4 0
            · rw [if_pos (by omega), w]; exact he.symm
            · rw [if_neg (by omega), hc6 gg w]; exact pG gg g0 (by omega)
          · rw [yf 5 0 (by decide)] at k1
            rw [wf 32 (by decide) (by decide) (by decide) (by decide) (by decide) (by decide) (by decide) (by decide) (by decide) (by decide), yf 1 _ (by decide)]
            exact pD k k0 k1
          · rw [yf 3 0 (by decide)] at p0
            rw [hc2 p (by omega), if_neg (by omega)]
            exact pE p p0 p1
          · rw [y4] at g0
            rw [hc6 gg (by omega)]
            exact pE2 gg (by omega) g1'
        · show MRn T x' _
          have hnm : MRn T (nameX T x (t + 1) (-1)) (cu (cu (cu (cu (cu m7 21 (x 10 0) (T.2.2.2.2 (t + 1))) 22 (x 10 0) 1) 23 (x 10 0) (P 4 0)) 20 0 (x 10 0 + 1)) 29 s (P 4 0 + 1)) := by
            refine hn.name (n := x 10 0) rfl h10 hk1 (Or.inl rfl) ?_ (fun k => ?_) (fun k => ?_) (fun k hk => ?_) (fun z => absurd rfl z)
            · rw [cu_f (by decide), cu_s]
            · rw [cu_f (by decide), cu_f (by decide), cu_f (by decide), cu_f (by decide), cu_if, h7 21 (by decide), qf 21 (by decide) (by decide) (by decide) (by decide)]; simp only [true_and]
            · rw [cu_f (by decide), cu_f (by decide), cu_f (by decide), cu_if, cu_f (by decide), h7 22 (by decide), qf 22 (by decide) (by decide) (by decide) (by decide), if_pos (show (-1 : Int) = -1 from rfl)]; simp only [true_and]
            · rw [cu_f (by decide), cu_f (by decide), cu_k hk, cu_f (by decide), cu_f (by decide), h7 23 (by decide), qf 23 (by decide) (by decide) (by decide) (by decide)]
          exact hnm.same rfl rfl rfl rfl (by rw [hxf 10 (by decide) (by decide)]) (hxf 4 (by decide) (by decide)) (hxf 20 (by decide) (by decide)) (hxf 21 (by decide) (by decide))
        · show NS T x' (cu P 4 0 (P 4 0 + 1) 3 0)
          rw [cu_f (by decide)]
          exact hN.guard.same (hxf 5 (by decide) (by decide)) (hxf 22 (by decide) (by decide)) (by rw [hxf 10 (by decide) (by decide)]) (hxf 21 (by decide) (by decide)) (hxf 20 (by decide) (by decide))
        · exact ⟨by rw [cu_f (by decide), cu_f (by decide), cu_f (by decide), cu_f (by decide), cu_f (by decide), h7 15 (by decide)]; exact ewx8.1, by rw [cu_f (by decide), cu_f (by decide), cu_f (by decide), cu_f (by decide), cu_f (by decide), h7 16 (by decide)]; exact ewx8.2.1, ewx8.2.2⟩
      refine e_aload_n C d_Mo_tellGuard_65 rfl ?_
      refine e_geti C fl_Mo_185 (by decide) rfl rfl d_Mo_tellGuard_66 (fun r_66 => ?_)
      try simp only [so_at, so_so, wr_so, q13, q19, q29, q30v] at r_66 ⊢
      refine e_if_le C 73 d_Mo_tellGuard_69 (by decide) (by omega) (fun c_69 => ?_) (fun c_69 => ?_)
      · refine e_aload_n C d_Mo_tellGuard_73 rfl ?_
        refine e_geta C fl_Mo_67 (by decide) rfl rfl d_Mo_tellGuard_74 ?_
        refine e_iload_n C d_Mo_tellGuard_77 rfl ?_
        refine e_iald (n := 24) C (by decide) rfl (by decide) rfl rfl (by decide) (by omega) (by omega) d_Mo_tellGuard_78 (fun r_78 => ?_)
        try simp only [so_at, so_so, wr_so, q13, q19, q29, q30v] at r_78 ⊢
        refine e_if_lt C 110 d_Mo_tellGuard_79 (by decide) (by omega) (fun c_79 => ?_) (fun c_79 => ?_)
        · have hv1 : v = -1 := by omega
          exact last m6 (fun f _ => rfl) (fun j => by rw [if_neg (fun z => z.1 hv1), qf 28 (by decide) (by decide) (by decide) (by decide)]) hpf6
        · refine e_aload_n C d_Mo_tellGuard_82 rfl ?_
          refine e_geta C fl_Mo_61 (by decide) rfl rfl d_Mo_tellGuard_83 ?_
          refine e_bipush C d_Mo_tellGuard_86 (by decide) ?_
          refine e_aload_n C d_Mo_tellGuard_88 rfl ?_
          refine e_geti C fl_Mo_218 (by decide) rfl rfl d_Mo_tellGuard_89 (fun r_89 => ?_)
          try simp only [so_at, so_so, wr_so, q13, q19, q29, q30v] at r_89 ⊢
          refine e_imul C d_Mo_tellGuard_92 ?_
          refine e_aload_n C d_Mo_tellGuard_93 rfl ?_
          refine e_geta C fl_Mo_67 (by decide) rfl rfl d_Mo_tellGuard_94 ?_
          refine e_iload_n C d_Mo_tellGuard_97 rfl ?_
          refine e_iald (n := 24) C (by decide) rfl (by decide) rfl rfl (by decide) (by omega) (by omega) d_Mo_tellGuard_98 (fun r_98 => ?_)
          try simp only [so_at, so_so, wr_so, q13, q19, q29, q30v] at r_98 ⊢
          refine e_iadd C d_Mo_tellGuard_99 ?_
          refine e_aload_n C d_Mo_tellGuard_100 rfl ?_
          refine e_geta C fl_Mo_64 (by decide) rfl rfl d_Mo_tellGuard_101 ?_
          refine e_aload_n C d_Mo_tellGuard_104 rfl ?_
          refine e_geti C fl_Mo_218 (by decide) rfl rfl d_Mo_tellGuard_105 (fun r_105 => ?_)
          try simp only [so_at, so_so, wr_so, q13, q19, q29, q30v] at r_105 ⊢
          refine e_iald (n := 2) C (by decide) rfl (by decide) rfl rfl (by decide) (by omega) (by omega) d_Mo_tellGuard_108 (fun r_108 => ?_)
          try simp only [so_at, so_so, wr_so, q13, q19, q29, q30v] at r_108 ⊢
          refine e_iast (n := 16) C (by decide) rfl (by decide) rfl rfl (by decide) (by omega) (by omega) (by omega) d_Mo_tellGuard_109 ?_
          try simp only [so_at, so_so, wr_so, q13, q19, q29, q30v]
          exact last _ (fun f hf => cf_f hf) (fun j => by rw [cu_if, qf 28 (by decide) (by decide) (by decide) (by decide)]; simp only [true_and]; by_cases w : j = 8 * s + v; · { rw [if_pos w, if_pos ⟨by omega, w⟩] }; · { rw [if_neg w, if_neg (fun z => w z.2)] }) (hpf6.w2 (by decide) (by rw [z28]; omega) (by rw [z28]; omega))
      · exact absurd c_69 (by decide)
  refine e_bipush C d_Mo_tellGuard_0 (by decide) ?_
  refine e_aload_n C d_Mo_tellGuard_2 rfl ?_
  refine e_geti C fl_Mo_218 (by decide) rfl rfl d_Mo_tellGuard_3 (fun r_3 => ?_)
  try simp only [so_at, p19, p29] at r_3 ⊢
  refine e_imul C d_Mo_tellGuard_6 ?_
  refine e_aload_n C d_Mo_tellGuard_7 rfl ?_
  refine e_geta C fl_Mo_64 (by decide) rfl rfl d_Mo_tellGuard_8 ?_
  refine e_aload_n C d_Mo_tellGuard_11 rfl ?_
  refine e_geti C fl_Mo_218 (by decide) rfl rfl d_Mo_tellGuard_12 (fun r_12 => ?_)
  try simp only [so_at, p19, p29] at r_12 ⊢
  refine e_iald (n := 2) C (by decide) rfl (by decide) rfl rfl (by decide) (by omega) (by omega) d_Mo_tellGuard_15 (fun r_15 => ?_)
  try simp only [so_at, p19, p29] at r_15 ⊢
  refine e_iadd C d_Mo_tellGuard_16 ?_
  refine e_istore_n C d_Mo_tellGuard_17 (by decide) rfl ?_
  refine e_aload_n C d_Mo_tellGuard_18 rfl ?_
  refine e_callIV C ok_Mo_named lk_Mo_268 (o := 1) (by decide) rfl [] rfl rfl (Nat.le_of_ble_eq_true rfl) (by decide) (Nat.le_of_ble_eq_true rfl) d_Mo_tellGuard_19 (k_Mo_named h hw.sl hn20 hn10) (fun v_19 u_19 q_19 h_19 => ?_)
  obtain ⟨rfl, h_19⟩ := h_19
  refine e_istore_n C d_Mo_tellGuard_22 (by decide) rfl ?_
  rcases h_19 with ⟨fp, a1, a2, rfl⟩ | ⟨a1, a2, a3, rfl⟩
  · rw [a1, bnd_l] at F
    have hft := Ft.mk (p := fp.2) h a2
    have e13 : flt m fp.1 fp.2 13 0 = fp.1 := by unfold flt; rw [cu_f (by decide), cu_s]
    refine e_aload_n C d_Mo_tellGuard_23 rfl ?_
    refine e_geta C fl_Mo_67 (by decide) rfl rfl d_Mo_tellGuard_24 ?_
    refine e_iload_n C d_Mo_tellGuard_27 rfl ?_
    refine e_iconst C d_Mo_tellGuard_28 ?_
    refine e_iast (n := 24) C (by decide) rfl (by decide) rfl rfl (by decide) (by omega) (by omega) (by omega) d_Mo_tellGuard_29 ?_
    try simp only [so_at, so_so, wr_so, e13, cu_f, ne_eq, Nat.reduceEqDiff, not_false_eq_true]
    refine e_aload_n C d_Mo_tellGuard_30 rfl ?_
    refine e_geti C fl_Mo_185 (by decide) rfl rfl d_Mo_tellGuard_31 (fun r_31 => ?_)
    try simp only [so_at, so_so, wr_so, e13, cu_f, ne_eq, Nat.reduceEqDiff, not_false_eq_true] at r_31 ⊢
    refine e_if_ne C 60 d_Mo_tellGuard_34 (by decide) (by omega) (fun c_34 => ?_) (fun c_34 => ?_)
    · exact d60 fp _ (t + 1) (hft.w (by decide) (by decide) (by decide)) ((PF.rf s m).fl.w2 (by decide) (by rw [z30]; omega) (by rw [z30]; omega)) F
    · exact absurd c_34 (by omega)
  · rw [a1, bnd_r] at F
    have ewx : WX T (nameX T x (t + 1) (-1)) (twm (cu m 11 0 (t + 1 + 1)) (x 10 0) (T.2.2.2.2 (t + 1)) (T.2.1 (t + 1))) (t + 1 + 1) := by
      have := hw.tw h.1 (by omega) a3 hn rfl
      have q := (nameX_all (T := T) (x := x) (t := t + 1) (s := -1)).2.2.2.2
      unfold WX
      rw [q.1, q.2]
      exact this
    have ef : ∀ f, f ≠ 11 → f ≠ 15 → f ≠ 16 → twm (cu m 11 0 (t + 1 + 1)) (x 10 0) (T.2.2.2.2 (t + 1)) (T.2.1 (t + 1)) f = m f := fun f b1 b2 b3 => by rw [twm_f b2 b3, cf_f b1]
    have e11 : twm (cu m 11 0 (t + 1 + 1)) (x 10 0) (T.2.2.2.2 (t + 1)) (T.2.1 (t + 1)) 11 0 = t + 1 + 1 := by rw [twm_f (by decide) (by decide), cu_s]
    have hpf1 : PF s m (twm (cu m 11 0 (t + 1 + 1)) (x 10 0) (T.2.2.2.2 (t + 1)) (T.2.1 (t + 1))) := by
      unfold twm
      split
      · exact (PF.rf s m).w1 (by omega)
      · exact ((PF.rf s m).w1 (by omega)).nt
    have hM1 : MH T (twm (cu m 11 0 (t + 1 + 1)) (x 10 0) (T.2.2.2.2 (t + 1)) (T.2.1 (t + 1))) (t + 1 + 1) := h.go (fun f hf => ef f (by omega) (by omega) (by omega)) e11 (by rw [ef 13 (by decide) (by decide) (by decide)]) a2 (by omega)
    generalize twm (cu m 11 0 (t + 1 + 1)) (x 10 0) (T.2.2.2.2 (t + 1)) (T.2.1 (t + 1)) = m0 at ewx ef e11 hpf1 hM1 ⊢
    have g30 : ∀ j, cu m0 30 (12 * s + P 4 0) (-1) 30 j = if j = 12 * s + P 4 0 then -1 else m 30 j := fun j => by rw [cu_if, ef 30 (by decide) (by decide) (by decide)]; simp only [true_and]
    have gf : ∀ f, f ≠ 11 → f ≠ 15 → f ≠ 16 → f ≠ 30 → cu m0 30 (12 * s + P 4 0) (-1) f = m f := fun f b1 b2 b3 b4 => by rw [cf_f b4]; exact ef f b1 b2 b3
    have hM2 : MH T (cu m0 30 (12 * s + P 4 0) (-1)) (t + 1 + 1) := hM1.same (fun f hf => cf_f (by omega)) (cu_f (by decide)) (cu_f (by decide))
    have hpf2 : PF s m (cu m0 30 (12 * s + P 4 0) (-1)) := hpf1.w2 (by decide) (by rw [z30]; omega) (by rw [z30]; omega)
    have ewx2 : WX T (nameX T x (t + 1) (-1)) (cu m0 30 (12 * s + P 4 0) (-1)) (t + 1 + 1) := ⟨by rw [cu_f (by decide)]; exact ewx.1, by rw [cu_f (by decide)]; exact ewx.2.1, ewx.2.2⟩
    have hc6 : c 6 (P 4 0) = -2 := pE2 (P 4 0) (by omega) (by omega)
    refine e_aload_n C d_Mo_tellGuard_23 rfl ?_
    refine e_geta C fl_Mo_67 (by decide) rfl rfl d_Mo_tellGuard_24 ?_
    refine e_iload_n C d_Mo_tellGuard_27 rfl ?_
    refine e_iconst C d_Mo_tellGuard_28 ?_
    refine e_iast (n := 24) C (by decide) rfl (by decide) rfl rfl (by decide) (by omega) (by omega) (by omega) d_Mo_tellGuard_29 ?_
    try simp only [so_at, so_so, wr_so]
    generalize cu m0 30 (12 * s + P 4 0) (-1) = m1 at g30 gf hM2 hpf2 ewx2 ⊢
    refine e_aload_n C d_Mo_tellGuard_30 rfl ?_
    refine e_geti C fl_Mo_185 (by decide) rfl rfl d_Mo_tellGuard_31 (fun r_31 => ?_)
    try simp only [so_at, so_so, wr_so] at r_31 ⊢
    refine e_if_ne C 60 d_Mo_tellGuard_34 (by decide) (by omega) (fun c_34 => ?_) (fun c_34 => ?_)
    · exact absurd hM2.2.2.2.2.2 c_34
    · refine e_aload_n C d_Mo_tellGuard_37 rfl ?_
      refine e_bipush C d_Mo_tellGuard_38 (by decide) ?_
      refine e_callIV C ok_Mo_is lk_Mo_203 (o := 1) (by decide) rfl [_] rfl rfl (Nat.le_of_ble_eq_true rfl) (by decide) (Nat.le_of_ble_eq_true rfl) d_Mo_tellGuard_40 (k_Mo_is hM2 (k' := 139) (by decide) (by decide)) (fun v_40 u_40 q_40 h_40 => ?_)
      obtain ⟨rfl, rfl⟩ := h_40
      refine e_if_eq C 60 d_Mo_tellGuard_43 (by decide) (by split <;> omega) (fun c_43 => ?_) (fun c_43 => ?_)
      · have hv := if1_f c_43
        rw [if_neg hv] at F
        refine fin (t + 1 + 1) (-1) (nameX T x (t + 1) (-1)) (c_lie c (P 4 0)) m1 hM2 hpf2 (fun f b1 b2 => gf f (by omega) (by omega) (by omega) (by omega)) gf g30 ewx2 (fun _ _ _ => rfl) a3 a2 (Or.inl rfl) ?_ (fun k hk => ?_) (fun f k hf => ?_) (fun k hk0' => ?_) F
        · unfold c_lie; split <;> simp [cu_if, em]
        · unfold c_lie; split <;> simp [cu_if, hk]
        · unfold c_lie; split
          · rw [cu_f (by omega), cu_f (by omega), cu_f (by omega), cu_f (by omega)]
          · rw [cu_f (by omega), cu_f (by omega)]
        · have e2 : c_lie c (P 4 0) 2 k = c 2 k := by
            unfold c_lie
            split
            · rw [cu_f (by decide), cu_f (by decide), cu_f (by decide), cu_f (by decide)]
            · rw [cu_f (by decide), cu_f (by decide)]
          rw [e2, if_neg (by omega)]
      · have hv := if1_t c_43
        rw [if_pos hv] at F
        refine e_aload_n C d_Mo_tellGuard_46 rfl ?_
        refine e_callVV C ok_Mo_goesOn lk_Mo_206 (o := 1) (by decide) rfl [] rfl rfl (Nat.le_of_ble_eq_true rfl) (by decide) (Nat.le_of_ble_eq_true rfl) d_Mo_tellGuard_47 (k_Mo_goesOn hM2) (fun u_47 h_47 => ?_)
        rcases h_47 with ⟨b1, rfl⟩ | ⟨b1, rfl⟩
        · rw [show pGo T (t + 1 + 1) = .inl (2, T.2.1 (t + 1 + 1)) by unfold pGo; rw [if_pos (by omega)], bnd_l] at F
          have hft : Ft (2, T.2.1 (t + 1 + 1)) (flt m1 2 (T.2.1 (t + 1 + 1))) := Ft.mk hM2 (by decide)
          refine e_aload_n C d_Mo_tellGuard_50 rfl ?_
          refine e_geta C fl_Mo_67 (by decide) rfl rfl d_Mo_tellGuard_51 ?_
          refine e_iload_n C d_Mo_tellGuard_54 rfl ?_
          refine e_aload_n C d_Mo_tellGuard_55 rfl ?_
          refine e_callIV C ok_Mo_atPost lk_Mo_276 (o := 1) (by decide) rfl [] rfl rfl (Nat.le_of_ble_eq_true rfl) (by decide) (Nat.le_of_ble_eq_true rfl) d_Mo_tellGuard_56 (k_Mo_atPostF hft.f hft.2.2.2) (fun v_56 u_56 q_56 h_56 => ?_)
          obtain ⟨rfl, rfl⟩ := h_56
          refine e_iast (n := 24) C (by decide) rfl (by decide) rfl rfl (by decide) (by omega) (by omega) (by omega) d_Mo_tellGuard_59 ?_
          try simp only [so_at, so_so, wr_so]
          exact d60 _ _ (t + 1) (hft.w (by decide) (by decide) (by decide)) (hpf2.fl.w2 (by decide) (by rw [z30]; omega) (by rw [z30]; omega)) F
        · rw [show pGo T (t + 1 + 1) = .inr (t + 1 + 1 + 1) by unfold pGo; rw [if_neg (by omega)], bnd_r] at F
          have hM3 : MH T (cu m1 11 0 (t + 1 + 1 + 1)) (t + 1 + 1 + 1) := hM2.go (fun f hf => cf_f (by omega)) (cu_s _ _ _ _) (cu_f (by decide)) b1 (by omega)
          have ewx3 : WX T (nameX T x (t + 1) (-1)) (cu m1 11 0 (t + 1 + 1 + 1)) (t + 1 + 1 + 1) := ewx2.go h.1 (by omega) (by omega) rfl rfl (cu_f (by decide)) (cu_f (by decide))
          have gf3 : ∀ f, f ≠ 11 → f ≠ 15 → f ≠ 16 → f ≠ 30 → cu m1 11 0 (t + 1 + 1 + 1) f = m f := fun f b1 b2 b3 b4 => by rw [cf_f b1]; exact gf f b1 b2 b3 b4
          have hpf3 : PF s m (cu m1 11 0 (t + 1 + 1 + 1)) := hpf2.w1 (by omega)
          have g303 : ∀ j, cu m1 11 0 (t + 1 + 1 + 1) 30 j = if j = 12 * s + P 4 0 then -1 else m 30 j := fun j => by rw [cu_f (by decide)]; exact g30 j
          generalize cu m1 11 0 (t + 1 + 1 + 1) = m3 at hM3 ewx3 gf3 hpf3 g303 ⊢
          have hnx : MRn T x m3 := hn.same (gf3 20 (by decide) (by decide) (by decide) (by decide)) (gf3 21 (by decide) (by decide) (by decide) (by decide)) (gf3 22 (by decide) (by decide) (by decide) (by decide)) (gf3 23 (by decide) (by decide) (by decide) (by decide)) rfl rfl rfl rfl
          have hpp : MRp s P c m3 := by
            refine ⟨hs, by rw [gf3 19 (by decide) (by decide) (by decide) (by decide)]; exact p19, ⟨by rw [gf3 24 (by decide) (by decide) (by decide) (by decide)]; exact p24, by rw [gf3 29 (by decide) (by decide) (by decide) (by decide)]; exact p29, by rw [gf3 31 (by decide) (by decide) (by decide) (by decide)]; exact p31, by rw [gf3 33 (by decide) (by decide) (by decide) (by decide)]; exact p33⟩, ?_, fun gg g0 g1 => ?_, ?_, pE, pE2⟩
            · rw [gf3 25 (by decide) (by decide) (by decide) (by decide), gf3 26 (by decide) (by decide) (by decide) (by decide), gf3 27 (by decide) (by decide) (by decide) (by decide), gf3 28 (by decide) (by decide) (by decide) (by decide)]; exact pA
            · rw [g303, if_neg (by omega)]; exact pG gg g0 g1
            · rw [gf3 32 (by decide) (by decide) (by decide) (by decide)]; exact pD
          have hnm5 := nameX_5 (s := -1) T x (t + 1)
          have epn : ∀ a, pnm (nameX T x (t + 1) (-1)) (P 3 0) a = pnm x (P 3 0) a := fun a => by unfold pnm; rw [hnm5]
          have hpr : pnm x (P 3 0) (T.2.2.2.1 (t + 1 + 1 + 1)) = -2 ∨ (0 ≤ pnm x (P 3 0) (T.2.2.2.1 (t + 1 + 1 + 1)) ∧ pnm x (P 3 0) (T.2.2.2.1 (t + 1 + 1 + 1)) < P 3 0) := by
            unfold pnm
            rcases fnd_some (q := fun p => x 5 p == T.2.2.2.1 (t + 1 + 1 + 1)) (P 3 0).toNat 0 (by omega) with z | z
            · exact Or.inl z.1
            · exact Or.inr (by omega)
          refine e_aload_n C d_Mo_tellGuard_50 rfl ?_
          refine e_geta C fl_Mo_67 (by decide) rfl rfl d_Mo_tellGuard_51 ?_
          refine e_iload_n C d_Mo_tellGuard_54 rfl ?_
          refine e_aload_n C d_Mo_tellGuard_55 rfl ?_
          refine e_callIV C ok_Mo_atPost lk_Mo_276 (o := 1) (by decide) rfl [] rfl rfl (Nat.le_of_ble_eq_true rfl) (by decide) (Nat.le_of_ble_eq_true rfl) d_Mo_tellGuard_56 (k_Mo_atPost (x := x) (P := P) (c := c) (s := s) hM3 h3 hpp hnx hN ewx3.sl) (fun v_56 u_56 q_56 h_56 => ?_)
          refine e_iast (n := 24) C (by decide) rfl (by decide) rfl rfl (by decide) (by omega) (by omega) (by rcases h_56 with ⟨_, _, _, z, _⟩ | ⟨_, _, _, z, _⟩ <;> (rw [z]; first | omega | (unfold apR; split <;> first | omega | (split <;> omega)))) d_Mo_tellGuard_59 ?_
          try simp only [so_at, so_so, wr_so]
          rcases h_56 with ⟨fp, d1, d2, rfl, rfl⟩ | ⟨d1, d2, d3, rfl, rfl⟩
          · rw [d1, bnd_l] at F
            rw [so_at, so_so]
            exact d60 fp _ (t + 1) ((Ft.mk (p := fp.2) hM3 d2).w (by decide) (by decide) (by decide)) (hpf3.fl.w2 (by decide) (by rw [z30]; omega) (by rw [z30]; omega)) F
          · rw [d1, bnd_r] at F
            rw [so_at, so_so]
            have ewx4 := WX.ap (P := P) (c := c) ewx3 h.1 (by omega) (by omega)
            have eap : apM T (nameX T x (t + 1) (-1)) P c m3 (t + 1 + 1 + 1) 15 0 = apM T x P c (cu m3 11 0 (t + 1 + 1 + 1 + 1)) (t + 1 + 1 + 1) 15 0 ∧ apM T (nameX T x (t + 1) (-1)) P c m3 (t + 1 + 1 + 1) 16 0 = apM T x P c (cu m3 11 0 (t + 1 + 1 + 1 + 1)) (t + 1 + 1 + 1) 16 0 := by
              have en : ∀ f a g, (g = 15 ∨ g = 16) → noteM (cu m3 11 0 (t + 1 + 1 + 1 + 1)) f a g 0 = noteM m3 f a g 0 := by
                intro f a g hg
                unfold noteM
                rw [cu_f (show (15 : Nat) ≠ 11 by decide)]
                split
                · rcases hg with rfl | rfl
                  · rw [cu_f (by decide), cu_s, cu_f (by decide), cu_s]
                  · rw [cu_s, cu_s]
                · rw [cu_f (by omega)]
              unfold apM
              rw [epn]
              by_cases w : pnm x (P 3 0) (T.2.2.2.1 (t + 1 + 1 + 1)) = -2
              · rw [if_pos w, if_pos w, en _ _ 15 (Or.inl rfl), en _ _ 16 (Or.inr rfl)]; exact ⟨rfl, rfl⟩
              · rw [if_neg w, if_neg w]
                by_cases w2 : c 2 (pnm x (P 3 0) (T.2.2.2.1 (t + 1 + 1 + 1))) = -2
                · rw [if_pos w2, if_pos w2, cu_f (by decide), cu_f (by decide)]; exact ⟨rfl, rfl⟩
                · rw [if_neg w2, if_neg w2, en _ _ 15 (Or.inl rfl), en _ _ 16 (Or.inr rfl)]; exact ⟨rfl, rfl⟩
            have hapf : ∀ f, f ≠ 11 → f ≠ 15 → f ≠ 16 → f ≠ 30 → cu (apM T x P c (cu m3 11 0 (t + 1 + 1 + 1 + 1)) (t + 1 + 1 + 1)) 30 (12 * s + P 4 0) (apR T x P c (t + 1 + 1 + 1)) f = m f := fun f b1 b2 b3 b4 => by rw [cf_f b4, apM_f b2 b3, cf_f b1]; exact gf3 f b1 b2 b3 b4
            refine fin (t + 1 + 1 + 1 + 1) (apR T x P c (t + 1 + 1 + 1)) (atX T (nameX T x (t + 1) (-1)) P c (t + 1 + 1 + 1)) (atC T (nameX T x (t + 1) (-1)) P c (t + 1 + 1 + 1) (P 4 0)) _ ?_ ?_ (fun f b1 b2 => hapf f (by omega) (by omega) (by omega) (by omega)) hapf (fun j => ?_) ?_ (fun f b1 b2 => atX_f b1 b2) a3 a2 ?_ ?_ (fun k hk => ?_) (fun f k hf => ?_) (fun k hk => ?_) F
            · exact hM3.go (fun f hf => by rw [cf_f (by omega), apM_f (by omega) (by omega), cf_f (by omega)]) (by rw [cu_f (by decide), apM_f (by decide) (by decide), cu_s]) (by rw [cu_f (by decide), apM_f (by decide) (by decide), cu_f (by decide)]) d2 (by omega)
            · refine PF.w2 ?_ (by decide) (by rw [z30]; omega) (by rw [z30]; omega)
              unfold apM
              split
              · exact (hpf3.w1 (by omega)).nt
              · split
                · exact hpf3.w1 (by omega)
                · exact (hpf3.w1 (by omega)).nt
            · rw [cu_if, apM_f (by decide) (by decide), cu_f (by decide), g303]
              simp only [true_and]
              by_cases w : j = 12 * s + P 4 0
              · rw [if_pos w, if_pos w]
              · rw [if_neg w, if_neg w, if_neg w]
            · exact ⟨by rw [cu_f (by decide), ← eap.1]; exact ewx4.1, by rw [cu_f (by decide), ← eap.2]; exact ewx4.2.1, ewx4.2.2⟩
            · unfold apR
              split
              · exact Or.inl rfl
              · split
                · right; omega
                · exact Or.inl rfl
            · unfold atC apR
              rw [epn]
              split
              · rw [hc6]; decide
              · split
                · rename_i w1 w2
                  have e6 : c_stand c (P 4 0) (pnm x (P 3 0) (T.2.2.2.1 (t + 1 + 1 + 1))) 6 (P 4 0) = pnm x (P 3 0) (T.2.2.2.1 (t + 1 + 1 + 1)) := by unfold c_stand; rw [cu_f (by decide), cu_s]
                  rw [e6]; unfold em; rw [if_neg (by omega)]
                · rw [hc6]; decide
            · unfold atC
              split
              · rfl
              · split
                · unfold c_stand; rw [cu_f (by decide), cu_k hk, cu_f (by decide)]
                · rfl
            · unfold atC
              split
              · rfl
              · split
                · rw [c_stand_f (by omega) (by omega) (by omega)]
                · rfl
            · unfold atC apR
              rw [epn]
              split
              · rw [if_neg (by omega)]
              · split
                · unfold c_stand
                  rw [cu_f (by decide), cu_f (by decide), cu_if]
                  simp only [true_and]
                · rw [if_neg (by omega)]
end MG
