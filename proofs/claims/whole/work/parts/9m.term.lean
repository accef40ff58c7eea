/-! the reference's terms: what a law's codes come to -/
/-- the pile holds these, the first on top -/
def PS (a : Int → Int) : List Int → Prop
  | [] => True
  | v :: s => a s.length = v ∧ PS a s
theorem PS_cong {a a' : Int → Int} : ∀ s : List Int, (∀ j : Int, 0 ≤ j → j < s.length → a' j = a j) → PS a s → PS a' s
  | [], _, _ => trivial
  | v :: s, h, hp => by
    have h : ∀ j : Int, 0 ≤ j → j < ((s.length + 1 : Nat) : Int) → a' j = a j := h
    exact ⟨by rw [h s.length (by omega) (by omega)]; exact hp.1, PS_cong s (fun j a b => h j a (by omega)) hp.2⟩
theorem PS_up {a : Int → Int} {s : List Int} {v : Int} (h : PS a s) : PS (ua a s.length v) (v :: s) := ⟨ua_at _ _ _, PS_cong s (fun j _ b => ua_ne (by omega)) h⟩
theorem cu_48 (x : Cs) (k v : Int) : cu x 48 k v 48 = ua (x 48) k v := cf_s _ _ _ _
section TRM
variable {σ : St} {v : Int → Int}
def tmQ (v : Int → Int) (pf : List Cd) (s : List Int) (x : Cs) (r : Int) (x' : Cs) : Prop := (∀ f, f ≠ 48 → f ≠ 49 → x' f = x f) ∧ ((evs v pf s = none ∧ r = 0 ∧ x' 49 0 = 1) ∨ ∃ w, evs v pf s = some w ∧ r = hdU w ∧ x' 49 0 = x 49 0)
set_option maxHeartbeats 4000000 in
theorem l_Mo_termOf {g : Mach} {Q : Int → St → Prop} (C : Cx M_Mo_termOf g) (F : FinI M_Mo_termOf g Q) {fr to : Int} (ht : 0 ≤ to ∧ to ≤ 840) :
    ∀ (pf : List Cd) (c k : Int) (s : List Int) (x : Cs), SG x c pf → 0 ≤ c → c + pf.length = to → PS (x 48) s → k = s.length → okd pf s.length = some 1 → (∀ d ∈ pf, cok d) → (s.length : Int) + pf.length ≤ 400 → (∀ j, 0 ≤ j → j ≤ 5 → x 47 j = v j) → (∀ r x', tmQ v pf s x r x' → Q r (so σ 1 x')) → Ev g 5 [some (.inr (.inr (1, 0))), some (.inl fr), some (.inl to), some (.inl k), some (.inl c), none, none, none] [] (so σ 1 x) := by
  intro pf
  induction pf with
  | nil =>
    intro c k s x hg h0 h1 hs hk ho hc hn hv hQ
    have h1 : c + ((0 : Nat) : Int) = to := h1
    have ho : some s.length = some 1 := ho
    injection ho with ho
    cases s with
    | nil => cases ho
    | cons w s1 =>
      have h2 : s1.length = 0 := by have : s1.length + 1 = 1 := ho; omega
      have hs0 := hs.1
      rw [h2] at hs0
      have e0 : x 48 0 = w := hs0
      refine e_iload C d_Mo_termOf_5 rfl ?_
      refine e_iload_n C d_Mo_termOf_7 rfl ?_
      refine e_icmp_ge C 165 d_Mo_termOf_8 (by decide) (by omega) (by omega) (fun c_8 => ?_) (fun c_8 => ?_)
      · refine e_aload_n C d_Mo_termOf_165 rfl ?_
        refine e_geta C fl_Mo_113 (by decide) rfl rfl d_Mo_termOf_166 ?_
        refine e_iconst C d_Mo_termOf_169 ?_
        refine e_iald (n := 400) C (by decide) rfl (by decide) rfl rfl (by decide) (by omega) (by omega) d_Mo_termOf_170 (fun r_170 => ?_)
        try simp only [so_at, e0] at r_170 ⊢
        refine e_iret C F rfl d_Mo_termOf_171 (by omega) ?_
        exact hQ _ _ ⟨fun f _ _ => rfl, Or.inr ⟨_, rfl, rfl, rfl⟩⟩
      · exact absurd c_8 (by omega)
  | cons p r ih =>
    intro c k s x hg h0 h1 hs hk ho hc hn hv hQ
    obtain ⟨g1, g2, g3⟩ := hg
    have hp := hc p List.mem_cons_self
    have hcr : ∀ d ∈ r, cok d := fun d hd => hc d (List.mem_cons_of_mem _ hd)
    have h1 : c + ((r.length + 1 : Nat) : Int) = to := h1
    have hn : (s.length : Int) + ((r.length + 1 : Nat) : Int) ≤ 400 := hn
    have s43 : ∀ (j w : Int), cu x 48 j w 43 = x 43 := fun j w => cf_f (by decide)
    have sg : ∀ (j w : Int), SG (cu x 48 j w) (c + 1) r := fun j w => g3.same (fun q _ _ => ⟨by rw [cu_f (by decide)], by rw [cu_f (by decide)]⟩)
    have hv' : ∀ (j w i : Int), 0 ≤ i → i ≤ 5 → cu x 48 j w 47 i = v i := fun j w i a b => by rw [cu_f (by decide)]; exact hv i a b
    rcases hp with ⟨k0, k1⟩ | ⟨k0, k1⟩ | k0
    · have e1 : evs v (p :: r) s = evs v r (p.2 :: s) := by show (if p.1 = 0 then _ else _) = _; rw [if_pos k0]
      have e2 : okd r (s.length + 1) = some 1 := by have : (if p.1 = 0 ∨ p.1 = 1 then okd r (s.length + 1) else _) = some 1 := ho; rw [if_pos (Or.inl k0)] at this; exact this
      rw [k0] at g1
      refine e_iload C d_Mo_termOf_5 rfl ?_
      refine e_iload_n C d_Mo_termOf_7 rfl ?_
      refine e_icmp_ge C 165 d_Mo_termOf_8 (by decide) (by omega) (by omega) (fun c_8 => ?_) (fun c_8 => ?_)
      · exact absurd c_8 (by omega)
      · refine e_aload_n C d_Mo_termOf_11 rfl ?_
        refine e_geta C fl_Mo_101 (by decide) rfl rfl d_Mo_termOf_12 ?_
        refine e_iload C d_Mo_termOf_15 rfl ?_
        refine e_iald (n := 840) C (by decide) rfl (by decide) rfl rfl (by decide) (by omega) (by omega) d_Mo_termOf_17 (fun r_17 => ?_)
        try simp only [so_at, so_so, wr_so, g1, g2] at r_17 ⊢
        refine e_istore C d_Mo_termOf_18 (by decide) rfl ?_
        refine e_iload C d_Mo_termOf_20 rfl ?_
        refine e_iconst C d_Mo_termOf_22 ?_
        refine e_icmp_ge C 65 d_Mo_termOf_23 (by decide) (by omega) (by omega) (fun c_23 => ?_) (fun c_23 => ?_)
        · exact absurd c_23 (by omega)
        · refine e_aload_n C d_Mo_termOf_26 rfl ?_
          refine e_geta C fl_Mo_113 (by decide) rfl rfl d_Mo_termOf_27 ?_
          refine e_iload_n C d_Mo_termOf_30 rfl ?_
          refine e_iload C d_Mo_termOf_31 rfl ?_
          refine e_if_ne C 46 d_Mo_termOf_33 (by decide) (by omega) (fun c_33 => ?_) (fun c_33 => ?_)
          · exact absurd rfl c_33
          · refine e_aload_n C d_Mo_termOf_36 rfl ?_
            refine e_geta C fl_Mo_104 (by decide) rfl rfl d_Mo_termOf_37 ?_
            refine e_iload C d_Mo_termOf_40 rfl ?_
            refine e_iald (n := 840) C (by decide) rfl (by decide) rfl rfl (by decide) (by omega) (by omega) d_Mo_termOf_42 (fun r_42 => ?_)
            try simp only [so_at, so_so, wr_so, g1, g2] at r_42 ⊢
            refine e_goto C 58 d_Mo_termOf_43 (by decide) ?_
            refine e_iast (n := 400) C (by decide) rfl (by decide) rfl rfl (by decide) (by omega) (by omega) (by omega) d_Mo_termOf_58 ?_
            try simp only [so_at, so_so, wr_so, g1, g2]
            refine e_iinc C d_Mo_termOf_59 rfl (by decide) rfl ?_
            refine e_goto C 159 d_Mo_termOf_62 (by decide) ?_
            refine e_iinc C d_Mo_termOf_159 rfl (by decide) rfl ?_
            refine e_goto C 5 d_Mo_termOf_162 (by decide) ?_
            refine e_drop 5 (e_drop 6 (e_drop 7 ?_))
            refine ih (c + 1) (k + 1) (p.2 :: s) _ (sg _ _) (by omega) (by omega) (by rw [cu_48, hk]; exact PS_up hs) (by show k + 1 = ((s.length + 1 : Nat) : Int); omega) e2 hcr (by show ((s.length + 1 : Nat) : Int) + r.length ≤ 400; omega) (hv' _ _) (fun q x' hq => hQ q x' ⟨fun f a b => by rw [hq.1 f a b, cf_f a], ?_⟩)
            rw [e1]
            have := hq.2
            rw [cu_f (by decide)] at this
            exact this
    · have e1 : evs v (p :: r) s = evs v r (v p.2 :: s) := by show (if p.1 = 0 then _ else if p.1 = 1 then _ else _) = _; rw [if_neg (by omega), if_pos k0]
      have e2 : okd r (s.length + 1) = some 1 := by have : (if p.1 = 0 ∨ p.1 = 1 then okd r (s.length + 1) else _) = some 1 := ho; rw [if_pos (Or.inr k0)] at this; exact this
      rw [k0] at g1
      have e47 := hv p.2 k1.1 k1.2
      refine e_iload C d_Mo_termOf_5 rfl ?_
      refine e_iload_n C d_Mo_termOf_7 rfl ?_
      refine e_icmp_ge C 165 d_Mo_termOf_8 (by decide) (by omega) (by omega) (fun c_8 => ?_) (fun c_8 => ?_)
      · exact absurd c_8 (by omega)
      · refine e_aload_n C d_Mo_termOf_11 rfl ?_
        refine e_geta C fl_Mo_101 (by decide) rfl rfl d_Mo_termOf_12 ?_
        refine e_iload C d_Mo_termOf_15 rfl ?_
        refine e_iald (n := 840) C (by decide) rfl (by decide) rfl rfl (by decide) (by omega) (by omega) d_Mo_termOf_17 (fun r_17 => ?_)
        try simp only [so_at, so_so, wr_so, g1, g2, e47] at r_17 ⊢
        refine e_istore C d_Mo_termOf_18 (by decide) rfl ?_
        refine e_iload C d_Mo_termOf_20 rfl ?_
        refine e_iconst C d_Mo_termOf_22 ?_
        refine e_icmp_ge C 65 d_Mo_termOf_23 (by decide) (by omega) (by omega) (fun c_23 => ?_) (fun c_23 => ?_)
        · exact absurd c_23 (by omega)
        · refine e_aload_n C d_Mo_termOf_26 rfl ?_
          refine e_geta C fl_Mo_113 (by decide) rfl rfl d_Mo_termOf_27 ?_
          refine e_iload_n C d_Mo_termOf_30 rfl ?_
          refine e_iload C d_Mo_termOf_31 rfl ?_
          refine e_if_ne C 46 d_Mo_termOf_33 (by decide) (by omega) (fun c_33 => ?_) (fun c_33 => ?_)
          · refine e_aload_n C d_Mo_termOf_46 rfl ?_
            refine e_geta C fl_Mo_110 (by decide) rfl rfl d_Mo_termOf_47 ?_
            refine e_aload_n C d_Mo_termOf_50 rfl ?_
            refine e_geta C fl_Mo_104 (by decide) rfl rfl d_Mo_termOf_51 ?_
            refine e_iload C d_Mo_termOf_54 rfl ?_
            refine e_iald (n := 840) C (by decide) rfl (by decide) rfl rfl (by decide) (by omega) (by omega) d_Mo_termOf_56 (fun r_56 => ?_)
            try simp only [so_at, so_so, wr_so, g1, g2, e47] at r_56 ⊢
            refine e_iald (n := 6) C (by decide) rfl (by decide) rfl rfl (by decide) (by omega) (by omega) d_Mo_termOf_57 (fun r_57 => ?_)
            try simp only [so_at, so_so, wr_so, g1, g2, e47] at r_57 ⊢
            refine e_iast (n := 400) C (by decide) rfl (by decide) rfl rfl (by decide) (by omega) (by omega) (by omega) d_Mo_termOf_58 ?_
            try simp only [so_at, so_so, wr_so, g1, g2, e47]
            refine e_iinc C d_Mo_termOf_59 rfl (by decide) rfl ?_
            refine e_goto C 159 d_Mo_termOf_62 (by decide) ?_
            refine e_iinc C d_Mo_termOf_159 rfl (by decide) rfl ?_
            refine e_goto C 5 d_Mo_termOf_162 (by decide) ?_
            refine e_drop 5 (e_drop 6 (e_drop 7 ?_))
            refine ih (c + 1) (k + 1) (v p.2 :: s) _ (sg _ _) (by omega) (by omega) (by rw [cu_48, hk]; exact PS_up hs) (by show k + 1 = ((s.length + 1 : Nat) : Int); omega) e2 hcr (by show ((s.length + 1 : Nat) : Int) + r.length ≤ 400; omega) (hv' _ _) (fun q x' hq => hQ q x' ⟨fun f a b => by rw [hq.1 f a b, cf_f a], ?_⟩)
            rw [e1]
            have := hq.2
            rw [cu_f (by decide)] at this
            exact this
          · exact absurd c_33 (by decide)
    · have ho2 : (if p.1 = 0 ∨ p.1 = 1 then okd r (s.length + 1) else if 2 ≤ s.length then okd r (s.length - 1) else none) = some 1 := ho
      rw [if_neg (by omega)] at ho2
      by_cases h2 : 2 ≤ s.length
      · rw [if_pos h2] at ho2
        cases s with
        | nil => exact absurd h2 (by show ¬ 2 ≤ 0; omega)
        | cons b s1 =>
          cases s1 with
          | nil => exact absurd h2 (by show ¬ 2 ≤ 1; omega)
          | cons a s' =>
            have hk : k = ((s'.length + 1 + 1 : Nat) : Int) := hk
            have hn : ((s'.length + 1 + 1 : Nat) : Int) + ((r.length + 1 : Nat) : Int) ≤ 400 := hn
            have hb : x 48 (k + -1) = b := by rw [show k + -1 = ((s'.length + 1 : Nat) : Int) by omega]; exact hs.1
            have ha : x 48 (k + -1 - 1) = a := by rw [show k + -1 - 1 = (s'.length : Int) by omega]; exact hs.2.1
            have e1 : evs v (p :: r) (b :: a :: s') = if p.1 = 5 ∧ b = 0 then none else evs v r (opv p.1 a b :: s') := by show (if p.1 = 0 then _ else if p.1 = 1 then _ else _) = _; rw [if_neg (by omega), if_neg (by omega)]
            have ho2 : okd r (s'.length + 1) = some 1 := ho2
            have key : ∀ w, w = opv p.1 a b → ¬ (p.1 = 5 ∧ b = 0) → Ev g 5 [some (.inr (.inr (1, 0))), some (.inl fr), some (.inl to), some (.inl (k + -1)), some (.inl (c + 1)), none, none, none] [] (so σ 1 (cu x 48 (k + -1 - 1) w)) := by
              intro w hw hz
              rw [if_neg hz] at e1
              refine ih (c + 1) (k + -1) (w :: s') _ (sg _ _) (by omega) (by omega) ?_ (by show k + -1 = ((s'.length + 1 : Nat) : Int); omega) ho2 hcr (by show ((s'.length + 1 : Nat) : Int) + r.length ≤ 400; omega) (hv' _ _) (fun q x' hq => hQ q x' ⟨fun f a b => by rw [hq.1 f a b, cf_f a], ?_⟩)
              · rw [cu_48, show k + -1 - 1 = (s'.length : Int) by omega]; exact PS_up hs.2.2
              · rw [e1, ← hw]
                have := hq.2
                rw [cu_f (by decide)] at this
                exact this
            refine e_iload C d_Mo_termOf_5 rfl ?_
            refine e_iload_n C d_Mo_termOf_7 rfl ?_
            refine e_icmp_ge C 165 d_Mo_termOf_8 (by decide) (by omega) (by omega) (fun c_8 => ?_) (fun c_8 => ?_)
            · exact absurd c_8 (by omega)
            · refine e_aload_n C d_Mo_termOf_11 rfl ?_
              refine e_geta C fl_Mo_101 (by decide) rfl rfl d_Mo_termOf_12 ?_
              refine e_iload C d_Mo_termOf_15 rfl ?_
              refine e_iald (n := 840) C (by decide) rfl (by decide) rfl rfl (by decide) (by omega) (by omega) d_Mo_termOf_17 (fun r_17 => ?_)
              try simp only [so_at, so_so, wr_so, g1, ha, hb] at r_17 ⊢
              refine e_istore C d_Mo_termOf_18 (by decide) rfl ?_
              refine e_iload C d_Mo_termOf_20 rfl ?_
              refine e_iconst C d_Mo_termOf_22 ?_
              refine e_icmp_ge C 65 d_Mo_termOf_23 (by decide) (by omega) (by omega) (fun c_23 => ?_) (fun c_23 => ?_)
              · refine e_iinc C d_Mo_termOf_65 rfl (by decide) rfl ?_
                refine e_aload_n C d_Mo_termOf_68 rfl ?_
                refine e_geta C fl_Mo_113 (by decide) rfl rfl d_Mo_termOf_69 ?_
                refine e_iload_n C d_Mo_termOf_72 rfl ?_
                refine e_iconst C d_Mo_termOf_73 ?_
                refine e_isub C d_Mo_termOf_74 ?_
                refine e_iald (n := 400) C (by decide) rfl (by decide) rfl rfl (by decide) (by omega) (by omega) d_Mo_termOf_75 (fun r_75 => ?_)
                try simp only [so_at, so_so, wr_so, g1, ha, hb] at r_75 ⊢
                refine e_istore C d_Mo_termOf_76 (by decide) rfl ?_
                refine e_aload_n C d_Mo_termOf_78 rfl ?_
                refine e_geta C fl_Mo_113 (by decide) rfl rfl d_Mo_termOf_79 ?_
                refine e_iload_n C d_Mo_termOf_82 rfl ?_
                refine e_iald (n := 400) C (by decide) rfl (by decide) rfl rfl (by decide) (by omega) (by omega) d_Mo_termOf_83 (fun r_83 => ?_)
                try simp only [so_at, so_so, wr_so, g1, ha, hb] at r_83 ⊢
                refine e_istore C d_Mo_termOf_84 (by decide) rfl ?_
                refine e_iload C d_Mo_termOf_86 rfl ?_
                refine e_iconst C d_Mo_termOf_88 ?_
                refine e_icmp_ne C 104 d_Mo_termOf_89 (by decide) (by omega) (by omega) (fun c_89 => ?_) (fun c_89 => ?_)
                · refine e_aload_n C d_Mo_termOf_104 rfl ?_
                  refine e_geta C fl_Mo_113 (by decide) rfl rfl d_Mo_termOf_105 ?_
                  refine e_iload_n C d_Mo_termOf_108 rfl ?_
                  refine e_iconst C d_Mo_termOf_109 ?_
                  refine e_isub C d_Mo_termOf_110 ?_
                  refine e_iload C d_Mo_termOf_111 rfl ?_
                  refine e_iconst C d_Mo_termOf_113 ?_
                  refine e_icmp_ne C 125 d_Mo_termOf_114 (by decide) (by omega) (by omega) (fun c_114 => ?_) (fun c_114 => ?_)
                  · refine e_iload C d_Mo_termOf_125 rfl ?_
                    refine e_iconst C d_Mo_termOf_127 ?_
                    refine e_icmp_ne C 139 d_Mo_termOf_128 (by decide) (by omega) (by omega) (fun c_128 => ?_) (fun c_128 => ?_)
                    · refine e_iload C d_Mo_termOf_139 rfl ?_
                      refine e_iconst C d_Mo_termOf_141 ?_
                      refine e_icmp_ne C 153 d_Mo_termOf_142 (by decide) (by omega) (by omega) (fun c_142 => ?_) (fun c_142 => ?_)
                      · refine e_iload C d_Mo_termOf_153 rfl ?_
                        refine e_iload C d_Mo_termOf_155 rfl ?_
                        refine e_idiv C d_Mo_termOf_157 (by omega) (by omega) (by omega) ?_
                        refine e_topi (n32_eq _) ?_
                        have w1 := n32_r (a.tdiv b)
                        refine e_iast (n := 400) C (by decide) rfl (by decide) rfl rfl (by decide) (by omega) (by omega) w1 d_Mo_termOf_158 ?_
                        try simp only [so_at, so_so, wr_so, g1, ha, hb]
                        refine e_iinc C d_Mo_termOf_159 rfl (by decide) rfl ?_
                        refine e_goto C 5 d_Mo_termOf_162 (by decide) ?_
                        refine e_drop 5 (e_drop 6 (e_drop 7 ?_))
                        exact key _ (by unfold opv; first | (exfalso; omega) | (rw [if_pos (by omega)]) | (rw [if_neg (by omega), if_pos (by omega)]) | (rw [if_neg (by omega), if_neg (by omega), if_pos (by omega)]) | (rw [if_neg (by omega), if_neg (by omega), if_neg (by omega)])) (by omega)
                      · refine e_iload C d_Mo_termOf_145 rfl ?_
                        refine e_iload C d_Mo_termOf_147 rfl ?_
                        refine e_imul C d_Mo_termOf_149 ?_
                        refine e_topi (n32_eq _) ?_
                        have w1 := n32_r (a * b)
                        refine e_goto C 158 d_Mo_termOf_150 (by decide) ?_
                        refine e_iast (n := 400) C (by decide) rfl (by decide) rfl rfl (by decide) (by omega) (by omega) w1 d_Mo_termOf_158 ?_
                        try simp only [so_at, so_so, wr_so, g1, ha, hb]
                        refine e_iinc C d_Mo_termOf_159 rfl (by decide) rfl ?_
                        refine e_goto C 5 d_Mo_termOf_162 (by decide) ?_
                        refine e_drop 5 (e_drop 6 (e_drop 7 ?_))
                        exact key _ (by unfold opv; first | (exfalso; omega) | (rw [if_pos (by omega)]) | (rw [if_neg (by omega), if_pos (by omega)]) | (rw [if_neg (by omega), if_neg (by omega), if_pos (by omega)]) | (rw [if_neg (by omega), if_neg (by omega), if_neg (by omega)])) (by omega)
                    · refine e_iload C d_Mo_termOf_131 rfl ?_
                      refine e_iload C d_Mo_termOf_133 rfl ?_
                      refine e_isub C d_Mo_termOf_135 ?_
                      refine e_topi (n32_eq _) ?_
                      have w1 := n32_r (a - b)
                      refine e_goto C 158 d_Mo_termOf_136 (by decide) ?_
                      refine e_iast (n := 400) C (by decide) rfl (by decide) rfl rfl (by decide) (by omega) (by omega) w1 d_Mo_termOf_158 ?_
                      try simp only [so_at, so_so, wr_so, g1, ha, hb]
                      refine e_iinc C d_Mo_termOf_159 rfl (by decide) rfl ?_
                      refine e_goto C 5 d_Mo_termOf_162 (by decide) ?_
                      refine e_drop 5 (e_drop 6 (e_drop 7 ?_))
                      exact key _ (by unfold opv; first | (exfalso; omega) | (rw [if_pos (by omega)]) | (rw [if_neg (by omega), if_pos (by omega)]) | (rw [if_neg (by omega), if_neg (by omega), if_pos (by omega)]) | (rw [if_neg (by omega), if_neg (by omega), if_neg (by omega)])) (by omega)
                  · refine e_iload C d_Mo_termOf_117 rfl ?_
                    refine e_iload C d_Mo_termOf_119 rfl ?_
                    refine e_iadd C d_Mo_termOf_121 ?_
                    refine e_topi (n32_eq _) ?_
                    have w1 := n32_r (a + b)
                    refine e_goto C 158 d_Mo_termOf_122 (by decide) ?_
                    refine e_iast (n := 400) C (by decide) rfl (by decide) rfl rfl (by decide) (by omega) (by omega) w1 d_Mo_termOf_158 ?_
                    try simp only [so_at, so_so, wr_so, g1, ha, hb]
                    refine e_iinc C d_Mo_termOf_159 rfl (by decide) rfl ?_
                    refine e_goto C 5 d_Mo_termOf_162 (by decide) ?_
                    refine e_drop 5 (e_drop 6 (e_drop 7 ?_))
                    exact key _ (by unfold opv; first | (exfalso; omega) | (rw [if_pos (by omega)]) | (rw [if_neg (by omega), if_pos (by omega)]) | (rw [if_neg (by omega), if_neg (by omega), if_pos (by omega)]) | (rw [if_neg (by omega), if_neg (by omega), if_neg (by omega)])) (by omega)
                · refine e_iload C d_Mo_termOf_92 rfl ?_
                  refine e_if_ne C 104 d_Mo_termOf_94 (by decide) (by omega) (fun c_94 => ?_) (fun c_94 => ?_)
                  · refine e_aload_n C d_Mo_termOf_104 rfl ?_
                    refine e_geta C fl_Mo_113 (by decide) rfl rfl d_Mo_termOf_105 ?_
                    refine e_iload_n C d_Mo_termOf_108 rfl ?_
                    refine e_iconst C d_Mo_termOf_109 ?_
                    refine e_isub C d_Mo_termOf_110 ?_
                    refine e_iload C d_Mo_termOf_111 rfl ?_
                    refine e_iconst C d_Mo_termOf_113 ?_
                    refine e_icmp_ne C 125 d_Mo_termOf_114 (by decide) (by omega) (by omega) (fun c_114 => ?_) (fun c_114 => ?_)
                    · refine e_iload C d_Mo_termOf_125 rfl ?_
                      refine e_iconst C d_Mo_termOf_127 ?_
                      refine e_icmp_ne C 139 d_Mo_termOf_128 (by decide) (by omega) (by omega) (fun c_128 => ?_) (fun c_128 => ?_)
                      · refine e_iload C d_Mo_termOf_139 rfl ?_
                        refine e_iconst C d_Mo_termOf_141 ?_
                        refine e_icmp_ne C 153 d_Mo_termOf_142 (by decide) (by omega) (by omega) (fun c_142 => ?_) (fun c_142 => ?_)
                        · refine e_iload C d_Mo_termOf_153 rfl ?_
                          refine e_iload C d_Mo_termOf_155 rfl ?_
                          refine e_idiv C d_Mo_termOf_157 (by omega) (by omega) (by omega) ?_
                          refine e_topi (n32_eq _) ?_
                          have w1 := n32_r (a.tdiv b)
                          refine e_iast (n := 400) C (by decide) rfl (by decide) rfl rfl (by decide) (by omega) (by omega) w1 d_Mo_termOf_158 ?_
                          try simp only [so_at, so_so, wr_so, g1, ha, hb]
                          refine e_iinc C d_Mo_termOf_159 rfl (by decide) rfl ?_
                          refine e_goto C 5 d_Mo_termOf_162 (by decide) ?_
                          refine e_drop 5 (e_drop 6 (e_drop 7 ?_))
                          exact key _ (by unfold opv; first | (exfalso; omega) | (rw [if_pos (by omega)]) | (rw [if_neg (by omega), if_pos (by omega)]) | (rw [if_neg (by omega), if_neg (by omega), if_pos (by omega)]) | (rw [if_neg (by omega), if_neg (by omega), if_neg (by omega)])) (by omega)
                        · refine e_iload C d_Mo_termOf_145 rfl ?_
                          refine e_iload C d_Mo_termOf_147 rfl ?_
                          refine e_imul C d_Mo_termOf_149 ?_
                          refine e_topi (n32_eq _) ?_
                          have w1 := n32_r (a * b)
                          refine e_goto C 158 d_Mo_termOf_150 (by decide) ?_
                          refine e_iast (n := 400) C (by decide) rfl (by decide) rfl rfl (by decide) (by omega) (by omega) w1 d_Mo_termOf_158 ?_
                          try simp only [so_at, so_so, wr_so, g1, ha, hb]
                          refine e_iinc C d_Mo_termOf_159 rfl (by decide) rfl ?_
                          refine e_goto C 5 d_Mo_termOf_162 (by decide) ?_
                          refine e_drop 5 (e_drop 6 (e_drop 7 ?_))
                          exact key _ (by unfold opv; first | (exfalso; omega) | (rw [if_pos (by omega)]) | (rw [if_neg (by omega), if_pos (by omega)]) | (rw [if_neg (by omega), if_neg (by omega), if_pos (by omega)]) | (rw [if_neg (by omega), if_neg (by omega), if_neg (by omega)])) (by omega)
                      · refine e_iload C d_Mo_termOf_131 rfl ?_
                        refine e_iload C d_Mo_termOf_133 rfl ?_
                        refine e_isub C d_Mo_termOf_135 ?_
                        refine e_topi (n32_eq _) ?_
                        have w1 := n32_r (a - b)
                        refine e_goto C 158 d_Mo_termOf_136 (by decide) ?_
                        refine e_iast (n := 400) C (by decide) rfl (by decide) rfl rfl (by decide) (by omega) (by omega) w1 d_Mo_termOf_158 ?_
                        try simp only [so_at, so_so, wr_so, g1, ha, hb]
                        refine e_iinc C d_Mo_termOf_159 rfl (by decide) rfl ?_
                        refine e_goto C 5 d_Mo_termOf_162 (by decide) ?_
                        refine e_drop 5 (e_drop 6 (e_drop 7 ?_))
                        exact key _ (by unfold opv; first | (exfalso; omega) | (rw [if_pos (by omega)]) | (rw [if_neg (by omega), if_pos (by omega)]) | (rw [if_neg (by omega), if_neg (by omega), if_pos (by omega)]) | (rw [if_neg (by omega), if_neg (by omega), if_neg (by omega)])) (by omega)
                    · refine e_iload C d_Mo_termOf_117 rfl ?_
                      refine e_iload C d_Mo_termOf_119 rfl ?_
                      refine e_iadd C d_Mo_termOf_121 ?_
                      refine e_topi (n32_eq _) ?_
                      have w1 := n32_r (a + b)
                      refine e_goto C 158 d_Mo_termOf_122 (by decide) ?_
                      refine e_iast (n := 400) C (by decide) rfl (by decide) rfl rfl (by decide) (by omega) (by omega) w1 d_Mo_termOf_158 ?_
                      try simp only [so_at, so_so, wr_so, g1, ha, hb]
                      refine e_iinc C d_Mo_termOf_159 rfl (by decide) rfl ?_
                      refine e_goto C 5 d_Mo_termOf_162 (by decide) ?_
                      refine e_drop 5 (e_drop 6 (e_drop 7 ?_))
                      exact key _ (by unfold opv; first | (exfalso; omega) | (rw [if_pos (by omega)]) | (rw [if_neg (by omega), if_pos (by omega)]) | (rw [if_neg (by omega), if_neg (by omega), if_pos (by omega)]) | (rw [if_neg (by omega), if_neg (by omega), if_neg (by omega)])) (by omega)
                  · refine e_aload_n C d_Mo_termOf_97 rfl ?_
                    refine e_iconst C d_Mo_termOf_98 ?_
                    refine e_putz C fp_Mo_298 (by decide) rfl rfl (by omega) d_Mo_termOf_99 ?_
                    try simp only [so_at, so_so, wr_so, g1, ha, hb]
                    refine e_iconst C d_Mo_termOf_102 ?_
                    refine e_iret C F rfl d_Mo_termOf_103 (by omega) ?_
                    refine hQ _ _ ⟨fun f _ b1 => by rw [cf_f b1], Or.inl ⟨?_, rfl, cu_s _ _ _ _⟩⟩
                    rw [e1, if_pos ⟨c_89, c_94⟩]
              · exact absurd c_23 (by omega)
      · rw [if_neg h2] at ho2
        cases ho2
end TRM
