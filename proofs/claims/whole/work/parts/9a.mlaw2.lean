/-! the reference's law, told -/
def LRw (s : Int) (m : Cs) (t : Int) (L : List Br) : Prop := (130 * s ≤ m 36 0 ∧ 4 * (m 36 0 - 130 * s) ≤ t) ∧ (420 * s ≤ m 42 0 ∧ m 42 0 ≤ 420 * s + t) ∧ ((m 34 s = m 35 s ∧ L = [brD]) ∨ (130 * s ≤ m 34 s ∧ m 35 s = m 34 s + L.length ∧ m 35 s ≤ m 36 0 ∧ L ≠ [] ∧ BRS m (420 * s) (m 42 0) (m 34 s) L))
theorem LRw.same {s t t' : Int} {m m' : Cs} {L : List Br} (h : LRw s m t L) (e : SmL m m') (ht : t ≤ t') : LRw s m' t' L := by
  obtain ⟨h1, h2, h3⟩ := h
  unfold LRw
  rw [e 36 (by decide) (by decide), e 42 (by decide) (by decide), e 34 (by decide) (by decide), e 35 (by decide) (by decide)]
  refine ⟨by omega, by omega, ?_⟩
  rcases h3 with h3 | ⟨a1, a2, a3, a4, a5⟩
  · exact Or.inl h3
  · exact Or.inr ⟨a1, a2, a3, a4, a5.same (Int.le_refl _) (fun k _ _ => by rw [e 43 (by decide) (by decide), e 44 (by decide) (by decide)]; exact ⟨rfl, rfl⟩) L _ (fun g k a b _ _ => by rw [e g (by omega) (by omega)])⟩
section MW2
variable {T : Tab} {σ : St} {m : Cs} {t s : Int}
/-- what a law's tell leaves as it was -/
def SmP (m m' : Cs) : Prop := ∀ f, f ≤ 10 ∨ (15 ≤ f ∧ f ≤ 33) ∨ 47 ≤ f → m' f = m f
theorem SmP.rf (m : Cs) : SmP m m := fun _ _ => rfl
theorem SmP.tr {m m1 m2 : Cs} (h : SmP m m1) (h2 : SmP m1 m2) : SmP m m2 := fun f hf => (h2 f hf).trans (h f hf)
theorem SmP.w {m m' : Cs} {f : Nat} {k v : Int} (h : SmP m m') (hf : (11 ≤ f ∧ f ≤ 14) ∨ (34 ≤ f ∧ f ≤ 46)) : SmP m (cu m' f k v) := fun g a => by rw [cf_f (by omega)]; exact h g a
theorem SmP.mx {m m1 m2 : Cs} {s c0 : Int} (h : SmP m m1) (h2 : MXr s c0 m1 m2) : SmP m m2 := fun f hf => (h2.1 f (by omega) (by omega) (by omega) (by omega) (by omega) (by omega) (by omega) (by omega) (by omega)).trans (h f hf)
def telL (σ : St) (s : Int) (m : Cs) (res : (Int × Int) ⊕ (Int × List Br)) (u : St) : Prop := match res with
  | .inl fp => ∃ m', u = so σ 1 m' ∧ PF s m m' ∧ Ft fp m'
  | .inr p => ∃ m', u = so σ 1 m' ∧ PF s m m' ∧ m' 13 0 = 0 ∧ m' 12 0 = 0 ∧ m' 11 0 = p.1 ∧ SmP m m' ∧ LRw s m' p.1 p.2
theorem d_Mo_tellLaw {g : Mach} {fp : Int × Int} {b0 i : Int} (C : Cx M_Mo_tellLaw g) (hs : 0 ≤ s ∧ s ≤ 1) (F : FinV M_Mo_tellLaw g (fun u => telL σ s m (.inl fp) u)) : ∀ (b : Int) (m' : Cs), Ft fp m' → PF s m m' → m' 36 0 = b → 130 * s ≤ b ∧ b < 130 * s + 125 → (0 ≤ m' 42 0 ∧ m' 42 0 ≤ 2000) → Ev g 7 [some (.inr (.inr (1, 0))), some (.inl b0), some (.inl i)] [] (so σ 1 m') := by
  intro b m' hf hpf h36 hb h42
  have hf1 := hf.f
  obtain ⟨z37, z38, z39, z40, z41, z34, z35⟩ := sz130
  refine e_aload_n C d_Mo_tellLaw_7 rfl ?_
  refine e_geti C fl_Mo_185 (by decide) rfl rfl d_Mo_tellLaw_8 (fun r_8 => ?_)
  try simp only [so_at, so_so, wr_so, h36] at r_8 ⊢
  refine e_if_ne C 124 d_Mo_tellLaw_11 (by decide) (by omega) (fun c_11 => ?_) (fun c_11 => ?_)
  · refine e_aload_n C d_Mo_tellLaw_124 rfl ?_
    refine e_geta C fl_Mo_85 (by decide) rfl rfl d_Mo_tellLaw_125 ?_
    refine e_aload_n C d_Mo_tellLaw_128 rfl ?_
    refine e_geti C fl_Mo_224 (by decide) rfl rfl d_Mo_tellLaw_129 (fun r_129 => ?_)
    try simp only [so_at, so_so, wr_so, h36] at r_129 ⊢
    refine e_iconst C d_Mo_tellLaw_132 ?_
    refine e_zast (n := 260) C (by decide) rfl (by decide) rfl rfl (by decide) (by omega) (by omega) (by omega) d_Mo_tellLaw_133 ?_
    try simp only [so_at, so_so, wr_so, h36]
    refine e_aload_n C d_Mo_tellLaw_134 rfl ?_
    refine e_callVV C ok_Mo_term lk_Mo_282 (o := 1) (by decide) rfl [] rfl rfl (Nat.le_of_ble_eq_true rfl) (by decide) (Nat.le_of_ble_eq_true rfl) d_Mo_tellLaw_135 (k_Mo_termF (fp := fp) (s := s) (b := b) (hf.w (by decide) (by decide) (by decide)) hs (by rw [cu_f (by decide)]; exact h36) (by omega) (by rw [cu_f (by decide)]; exact h42)) (fun u_135 h_135 => ?_)
    obtain ⟨m2, rfl, q1, q2, q3, q4⟩ := h_135
    have hf2 := q2.f
    refine e_aload_n C d_Mo_tellLaw_138 rfl ?_
    refine e_iconst C d_Mo_tellLaw_139 ?_
    refine e_callVV C ok_Mo_must lk_Mo_252 (o := 1) (by decide) rfl [_] rfl rfl (Nat.le_of_ble_eq_true rfl) (by decide) (Nat.le_of_ble_eq_true rfl) d_Mo_tellLaw_140 (k_Mo_mustF q2.f) (fun u_140 h_140 => ?_)
    subst h_140
    refine e_aload_n C d_Mo_tellLaw_143 rfl ?_
    refine e_geti C fl_Mo_185 (by decide) rfl rfl d_Mo_tellLaw_144 (fun r_144 => ?_)
    try simp only [so_at, so_so, wr_so, h36] at r_144 ⊢
    refine e_if_le C 151 d_Mo_tellLaw_147 (by decide) (by omega) (fun c_147 => ?_) (fun c_147 => ?_)
    · exact absurd c_147 (by omega)
    · refine e_vret C F rfl d_Mo_tellLaw_150 ?_
      exact ⟨m2, rfl, (hpf.w2 (by decide) (by rw [z37]; omega) (by rw [z37]; omega)).tr q1, q2⟩
  · exact absurd c_11 (by omega)
set_option maxHeartbeats 8000000 in
theorem l_Mo_tellLaw {g : Mach} (C : Cx M_Mo_tellLaw g) {b0 : Int} (hT : TF T) (hs : 0 ≤ s ∧ s ≤ 1) (h19 : m 19 0 = s) (hb0 : 130 * s ≤ b0) :
    ∀ (n : Nat) (i t : Int) (L : List Br) (m' : Cs), 0 ≤ i → i + n = 4 → MH T m' t → m' 12 0 = 0 → m' 36 0 = b0 + L.length → 4 * (b0 + L.length - 130 * s) + 2 ≤ t → (420 * s ≤ m' 42 0 ∧ m' 42 0 ≤ 420 * s + t) → BRS m' (420 * s) (m' 42 0) b0 L → PF s m m' → SmP m m' → FinV M_Mo_tellLaw g (fun u => telL σ s m (zL T n t L) u) → Ev g 7 [some (.inr (.inr (1, 0))), some (.inl b0), some (.inl i)] [] (so σ 1 m') := by
  obtain ⟨z37, z38, z39, z40, z41, z34, z35⟩ := sz130
  -- the last term
  have fin : ∀ (i t : Int) (L : List Br) (m' : Cs), MH T m' t → m' 12 0 = 0 → m' 36 0 = b0 + L.length → 4 * (b0 + L.length - 130 * s) + 2 ≤ t → (420 * s ≤ m' 42 0 ∧ m' 42 0 ≤ 420 * s + t) → BRS m' (420 * s) (m' 42 0) b0 L → PF s m m' → SmP m m' → FinV M_Mo_tellLaw g (fun u => telL σ s m (zE T t L) u) → Ev g 124 [some (.inr (.inr (1, 0))), some (.inl b0), some (.inl i)] [] (so σ 1 m') := by
    intro i t L m' hM h12 h36 hn h42 hB hpf hsp F
    have h0t := hM.2.2.2.1
    unfold zE at F
    have hM2 : MH T (cu m' 37 (b0 + L.length) 0) t := hM.same (fun f hf => cf_f (by omega)) (cu_f (by decide)) (cu_f (by decide))
    have hpf2 : PF s m (cu m' 37 (b0 + L.length) 0) := hpf.w2 (by decide) (by rw [z37]; omega) (by rw [z37]; omega)
    refine e_aload_n C d_Mo_tellLaw_124 rfl ?_
    refine e_geta C fl_Mo_85 (by decide) rfl rfl d_Mo_tellLaw_125 ?_
    refine e_aload_n C d_Mo_tellLaw_128 rfl ?_
    refine e_geti C fl_Mo_224 (by decide) rfl rfl d_Mo_tellLaw_129 (fun r_129 => ?_)
    try simp only [so_at, so_so, wr_so, h36] at r_129 ⊢
    refine e_iconst C d_Mo_tellLaw_132 ?_
    refine e_zast (n := 260) C (by decide) rfl (by decide) rfl rfl (by decide) (by omega) (by omega) (by omega) d_Mo_tellLaw_133 ?_
    try simp only [so_at, so_so, wr_so, h36]
    refine e_aload_n C d_Mo_tellLaw_134 rfl ?_
    refine e_callVV C ok_Mo_term lk_Mo_282 (o := 1) (by decide) rfl [] rfl rfl (Nat.le_of_ble_eq_true rfl) (by decide) (Nat.le_of_ble_eq_true rfl) d_Mo_tellLaw_135 (k_Mo_term (s := s) (c0 := m' 42 0) (b := b0 + L.length) hM2 (by rw [cu_f (by decide)]; exact h12) hs (cu_f (by decide)) h42 (by rw [cu_f (by decide)]; exact h36) (by omega)) (fun u_135 h_135 => ?_)
    cases hE : xE T t with
    | inl fp =>
      rw [hE, bnd_l] at F
      rw [hE] at h_135
      obtain ⟨m2, rfl, q1, q2, q3, q4⟩ := h_135
      have hf2 := q2.f
      refine e_aload_n C d_Mo_tellLaw_138 rfl ?_
      refine e_iconst C d_Mo_tellLaw_139 ?_
      refine e_callVV C ok_Mo_must lk_Mo_252 (o := 1) (by decide) rfl [_] rfl rfl (Nat.le_of_ble_eq_true rfl) (by decide) (Nat.le_of_ble_eq_true rfl) d_Mo_tellLaw_140 (k_Mo_mustF q2.f) (fun u_140 h_140 => ?_)
      subst h_140
      refine e_aload_n C d_Mo_tellLaw_143 rfl ?_
      refine e_geti C fl_Mo_185 (by decide) rfl rfl d_Mo_tellLaw_144 (fun r_144 => ?_)
      try simp only [so_at] at r_144 ⊢
      refine e_if_le C 151 d_Mo_tellLaw_147 (by decide) (by omega) (fun c_147 => ?_) (fun c_147 => ?_)
      · exact absurd c_147 (by omega)
      · refine e_vret C F rfl d_Mo_tellLaw_150 ?_
        exact ⟨m2, rfl, hpf2.tr q1, q2⟩
    | inr tp =>
      obtain ⟨o1, o2, o3, o4, o5, o6⟩ := xE_ok hM.1 h0t.1 h0t.2 hM.2.2.2.2.1 (show xE T t = .inr (tp.1, tp.2) from hE)
      rw [hE, bnd_r] at F
      rw [hE] at h_135
      obtain ⟨m2, rfl, q1, q2, q3, q4, q5, q6, q7, q8, q9, q10, q11, q12⟩ := h_135
      have hM3 : MH T m2 tp.1 := ⟨hM.1, hM2.2.1.same (fun f hf => q10 f (by omega) (by omega) (by omega) (by omega) (by omega) (by omega) (by omega) (by omega) (by omega) (by omega) (by omega) (by omega)), q2, by omega, Or.inr o3, q3⟩
      refine e_aload_n C d_Mo_tellLaw_138 rfl ?_
      refine e_iconst C d_Mo_tellLaw_139 ?_
      refine e_callVV C ok_Mo_must lk_Mo_252 (o := 1) (by decide) rfl [_] rfl rfl (Nat.le_of_ble_eq_true rfl) (by decide) (Nat.le_of_ble_eq_true rfl) d_Mo_tellLaw_140 (k_Mo_must hM3 (k' := 59) (by decide) (by decide)) (fun u_140 h_140 => ?_)
      rcases h_140 with ⟨fp, g1, g2, rfl⟩ | ⟨g1, g2, g3, rfl⟩
      · rw [g1, bnd_l] at F
        have e13 : flt m2 fp.1 fp.2 13 0 = fp.1 := by unfold flt; rw [cu_f (by decide), cu_s]
        refine e_aload_n C d_Mo_tellLaw_143 rfl ?_
        refine e_geti C fl_Mo_185 (by decide) rfl rfl d_Mo_tellLaw_144 (fun r_144 => ?_)
        try simp only [so_at, e13] at r_144 ⊢
        refine e_if_le C 151 d_Mo_tellLaw_147 (by decide) (by omega) (fun c_147 => ?_) (fun c_147 => ?_)
        · exact absurd c_147 (by omega)
        · refine e_vret C F rfl d_Mo_tellLaw_150 ?_
          exact ⟨_, rfl, (hpf2.tr q1).fl, Ft.mk hM3 g2⟩
      · rw [g1, bnd_r] at F
        have e13 : cu m2 11 0 (tp.1 + 1) 13 0 = 0 := by rw [cu_f (by decide)]; exact q3
        have e19 : cu m2 11 0 (tp.1 + 1) 19 0 = s := by rw [cu_f (by decide), q10 19 (by decide) (by decide) (by decide) (by decide) (by decide) (by decide) (by decide) (by decide) (by decide) (by decide) (by decide) (by decide), cu_f (by decide), hsp 19 (by decide)]; exact h19
        have e36 : cu m2 11 0 (tp.1 + 1) 36 0 = b0 + L.length + 1 := by rw [cu_f (by decide)]; exact q5
        refine e_aload_n C d_Mo_tellLaw_143 rfl ?_
        refine e_geti C fl_Mo_185 (by decide) rfl rfl d_Mo_tellLaw_144 (fun r_144 => ?_)
        try simp only [so_at, so_so, wr_so, e13, e19, e36, cu_s, cu_f, ne_eq, Nat.reduceEqDiff, not_false_eq_true] at r_144 ⊢
        refine e_if_le C 151 d_Mo_tellLaw_147 (by decide) (by omega) (fun c_147 => ?_) (fun c_147 => ?_)
        · refine e_aload_n C d_Mo_tellLaw_151 rfl ?_
          refine e_geta C fl_Mo_79 (by decide) rfl rfl d_Mo_tellLaw_152 ?_
          refine e_aload_n C d_Mo_tellLaw_155 rfl ?_
          refine e_geti C fl_Mo_218 (by decide) rfl rfl d_Mo_tellLaw_156 (fun r_156 => ?_)
          try simp only [so_at, so_so, wr_so, e13, e19, e36, cu_s, cu_f, ne_eq, Nat.reduceEqDiff, not_false_eq_true] at r_156 ⊢
          refine e_iload_n C d_Mo_tellLaw_159 rfl ?_
          refine e_iast (n := 2) C (by decide) rfl (by decide) rfl rfl (by decide) (by omega) (by omega) (by omega) d_Mo_tellLaw_160 ?_
          try simp only [so_at, so_so, wr_so, e13, e19, e36, cu_s, cu_f, ne_eq, Nat.reduceEqDiff, not_false_eq_true]
          refine e_aload_n C d_Mo_tellLaw_161 rfl ?_
          refine e_geta C fl_Mo_82 (by decide) rfl rfl d_Mo_tellLaw_162 ?_
          refine e_aload_n C d_Mo_tellLaw_165 rfl ?_
          refine e_geti C fl_Mo_218 (by decide) rfl rfl d_Mo_tellLaw_166 (fun r_166 => ?_)
          try simp only [so_at, so_so, wr_so, e13, e19, e36, cu_s, cu_f, ne_eq, Nat.reduceEqDiff, not_false_eq_true] at r_166 ⊢
          refine e_aload_n C d_Mo_tellLaw_169 rfl ?_
          refine e_geti C fl_Mo_224 (by decide) rfl rfl d_Mo_tellLaw_170 (fun r_170 => ?_)
          try simp only [so_at, so_so, wr_so, e13, e19, e36, cu_s, cu_f, ne_eq, Nat.reduceEqDiff, not_false_eq_true] at r_170 ⊢
          refine e_iast (n := 2) C (by decide) rfl (by decide) rfl rfl (by decide) (by omega) (by omega) (by omega) d_Mo_tellLaw_173 ?_
          try simp only [so_at, so_so, wr_so, e13, e19, e36, cu_s, cu_f, ne_eq, Nat.reduceEqDiff, not_false_eq_true]
          refine e_vret C F rfl d_Mo_tellLaw_174 ?_
          refine ⟨_, rfl, ?_, ?_, ?_, ?_, ?_, ?_⟩
          · exact (((hpf2.tr q1).w1 (by omega)).w2 (by decide) (by rw [z34]; omega) (by rw [z34]; omega)).w2 (by decide) (by rw [z35]; omega) (by rw [z35]; omega)
          · rw [cu_f (by decide), cu_f (by decide)]; exact e13
          · rw [cu_f (by decide), cu_f (by decide), cu_f (by decide)]; exact q4
          · rw [cu_f (by decide), cu_f (by decide), cu_s]
          · refine SmP.w (SmP.w (SmP.w ((hsp.w (f := 37) (k := b0 + L.length) (v := 0) (by omega)).tr (fun f hf => q10 f (by omega) (by omega) (by omega) (by omega) (by omega) (by omega) (by omega) (by omega) (by omega) (by omega) (by omega) (by omega))) (by omega)) (by omega)) (by omega)
          · show LRw s _ (tp.1 + 1) (L ++ [(false, [], [], tp.2)])
            have w36 : cu (cu (cu m2 11 0 (tp.1 + 1)) 34 s b0) 35 s (b0 + L.length + 1) 36 0 = b0 + L.length + 1 := by rw [cu_f (by decide), cu_f (by decide)]; exact e36
            have w42 : cu (cu (cu m2 11 0 (tp.1 + 1)) 34 s b0) 35 s (b0 + L.length + 1) 42 0 = m' 42 0 + tp.2.length := by rw [cu_f (by decide), cu_f (by decide), cu_f (by decide)]; exact q6
            have w34 : cu (cu (cu m2 11 0 (tp.1 + 1)) 34 s b0) 35 s (b0 + L.length + 1) 34 s = b0 := by rw [cu_f (by decide), cu_s]
            have wg : ∀ f, 36 ≤ f → f ≤ 44 → cu (cu (cu m2 11 0 (tp.1 + 1)) 34 s b0) 35 s (b0 + L.length + 1) f = m2 f := fun f a b => by rw [cf_f (by omega), cf_f (by omega), cf_f (by omega)]
            unfold LRw
            rw [w36, w42, w34]
            refine ⟨by omega, by omega, Or.inr ⟨hb0, ?_, ?_, (fun z => by cases L <;> cases z), ?_⟩⟩
            · rw [cu_s, List.length_append, List.length_singleton]; omega
            · rw [cu_s]; omega
            · refine BRS.app L b0 ?_ ?_
              · refine BRS.same (show m' 42 0 ≤ m' 42 0 + tp.2.length by omega) (fun k k0 k1 => ?_) L b0 hB (fun gg k a b k0 k1 => ?_)
                · rw [wg 43 (by decide) (by decide), wg 44 (by decide) (by decide)]
                  have := q12 k k1
                  rw [this.1, this.2, cu_f (by decide), cu_f (by decide)]
                  exact ⟨rfl, rfl⟩
                · rw [wg gg (by omega) (by omega)]
                  have hkb : k ≠ b0 + L.length := by omega
                  by_cases w40 : gg = 40
                  · rw [w40, (q11 k hkb).1, cu_f (by decide)]
                  by_cases w41 : gg = 41
                  · rw [w41, (q11 k hkb).2, cu_f (by decide)]
                  rw [q10 gg (by omega) (by omega) (by omega) (by omega) (by omega) w40 w41 (by omega) (by omega) (by omega) (by omega) (by omega)]
                  rw [cu_if, if_neg (fun z => hkb z.2)]
              · refine ⟨?_, fun z => (by cases z), ?_, ?_, ?_, ?_, trivial⟩
                · rw [wg 37 (by decide) (by decide), q10 37 (by decide) (by decide) (by decide) (by decide) (by decide) (by decide) (by decide) (by decide) (by decide) (by decide) (by decide) (by decide), cu_s]; rfl
                · rw [wg 40 (by decide) (by decide), q7]; omega
                · rw [wg 40 (by decide) (by decide), q7]
                  exact q9.same (fun k _ _ => by rw [wg 43 (by decide) (by decide), wg 44 (by decide) (by decide)]; exact ⟨rfl, rfl⟩)
                · rw [wg 40 (by decide) (by decide), wg 41 (by decide) (by decide), q7, q8]
                · rw [wg 41 (by decide) (by decide), q8]; omega
        · exact absurd c_147 (by decide)
  intro n
  induction n with
  | zero =>
    intro i t L m' h0 h1 hM h12 h36 hn h42 hB hpf hsp F
    have e13 := hM.2.2.2.2.2
    unfold zL at F
    refine e_aload_n C d_Mo_tellLaw_7 rfl ?_
    refine e_geti C fl_Mo_185 (by decide) rfl rfl d_Mo_tellLaw_8 (fun r_8 => ?_)
    try simp only [so_at, e13] at r_8 ⊢
    refine e_if_ne C 124 d_Mo_tellLaw_11 (by decide) (by omega) (fun c_11 => ?_) (fun c_11 => ?_)
    · exact absurd rfl c_11
    · refine e_aload_n C d_Mo_tellLaw_14 rfl ?_
      refine e_bipush C d_Mo_tellLaw_15 (by decide) ?_
      refine e_callIV C ok_Mo_is lk_Mo_203 (o := 1) (by decide) rfl [_] rfl rfl (Nat.le_of_ble_eq_true rfl) (by decide) (Nat.le_of_ble_eq_true rfl) d_Mo_tellLaw_17 (k_Mo_is hM (k' := 141) (by decide) (by decide)) (fun v_17 u_17 q_17 h_17 => ?_)
      obtain ⟨rfl, rfl⟩ := h_17
      refine e_if_eq C 124 d_Mo_tellLaw_20 (by decide) (by split <;> omega) (fun c_20 => ?_) (fun c_20 => ?_)
      · rw [if_neg (if1_f c_20)] at F
        exact fin i t L m' hM h12 h36 hn h42 hB hpf hsp F
      · rw [if_pos (if1_t c_20)] at F
        refine e_iload_n C d_Mo_tellLaw_23 rfl ?_
        refine e_iconst C d_Mo_tellLaw_24 ?_
        refine e_icmp_ne C 33 d_Mo_tellLaw_25 (by decide) (by omega) (by omega) (fun c_25 => ?_) (fun c_25 => ?_)
        · exact absurd h1 (by omega)
        · refine e_aload_n C d_Mo_tellLaw_28 rfl ?_
          refine e_iconst C d_Mo_tellLaw_29 ?_
          refine e_callVV C ok_Mo_fail lk_Mo_200 (o := 1) (by decide) rfl [_] rfl rfl (Nat.le_of_ble_eq_true rfl) (by decide) (Nat.le_of_ble_eq_true rfl) d_Mo_tellLaw_30 (k_Mo_fail hM (by omega)) (fun u_30 h_30 => ?_)
          subst h_30
          have e13f : flt m' 2 (T.2.1 t) 13 0 = 2 := by unfold flt; rw [cu_f (by decide), cu_s]
          refine e_aload_n C d_Mo_tellLaw_33 rfl ?_
          refine e_geti C fl_Mo_185 (by decide) rfl rfl d_Mo_tellLaw_34 (fun r_34 => ?_)
          try simp only [so_at, e13] at r_34 ⊢
          rw [e13f] at r_34 ⊢
          refine e_if_le C 41 d_Mo_tellLaw_37 (by decide) (by omega) (fun c_37 => ?_) (fun c_37 => ?_)
          · exact absurd c_37 (by decide)
          · refine e_vret C F rfl d_Mo_tellLaw_40 ?_
            exact ⟨_, rfl, hpf.fl, Ft.mk hM (by decide)⟩
  | succ n ih =>
    intro i t L m' h0 h1 hM h12 h36 hn h42 hB hpf hsp F
    have e13 := hM.2.2.2.2.2
    have h0t := hM.2.2.2.1
    unfold zL at F
    refine e_aload_n C d_Mo_tellLaw_7 rfl ?_
    refine e_geti C fl_Mo_185 (by decide) rfl rfl d_Mo_tellLaw_8 (fun r_8 => ?_)
    try simp only [so_at, e13] at r_8 ⊢
    refine e_if_ne C 124 d_Mo_tellLaw_11 (by decide) (by omega) (fun c_11 => ?_) (fun c_11 => ?_)
    · exact absurd rfl c_11
    · refine e_aload_n C d_Mo_tellLaw_14 rfl ?_
      refine e_bipush C d_Mo_tellLaw_15 (by decide) ?_
      refine e_callIV C ok_Mo_is lk_Mo_203 (o := 1) (by decide) rfl [_] rfl rfl (Nat.le_of_ble_eq_true rfl) (by decide) (Nat.le_of_ble_eq_true rfl) d_Mo_tellLaw_17 (k_Mo_is hM (k' := 141) (by decide) (by decide)) (fun v_17 u_17 q_17 h_17 => ?_)
      obtain ⟨rfl, rfl⟩ := h_17
      refine e_if_eq C 124 d_Mo_tellLaw_20 (by decide) (by split <;> omega) (fun c_20 => ?_) (fun c_20 => ?_)
      · rw [if_neg (if1_f c_20)] at F
        exact fin i t L m' hM h12 h36 hn h42 hB hpf hsp F
      · have hv := if1_t c_20
        rw [if_pos hv] at F
        unfold zIf at F
        refine e_iload_n C d_Mo_tellLaw_23 rfl ?_
        refine e_iconst C d_Mo_tellLaw_24 ?_
        refine e_icmp_ne C 33 d_Mo_tellLaw_25 (by decide) (by omega) (by omega) (fun c_25 => ?_) (fun c_25 => ?_)
        · refine e_aload_n C d_Mo_tellLaw_33 rfl ?_
          refine e_geti C fl_Mo_185 (by decide) rfl rfl d_Mo_tellLaw_34 (fun r_34 => ?_)
          try simp only [so_at, e13] at r_34 ⊢
          refine e_if_le C 41 d_Mo_tellLaw_37 (by decide) (by omega) (fun c_37 => ?_) (fun c_37 => ?_)
          · refine e_iinc C d_Mo_tellLaw_41 rfl (by decide) rfl ?_
            refine e_aload_n C d_Mo_tellLaw_44 rfl ?_
            refine e_callVV C ok_Mo_goesOn lk_Mo_206 (o := 1) (by decide) rfl [] rfl rfl (Nat.le_of_ble_eq_true rfl) (by decide) (Nat.le_of_ble_eq_true rfl) d_Mo_tellLaw_45 (k_Mo_goesOn hM) (fun u_45 h_45 => ?_)
            generalize hbb : b0 + (L.length : Int) = b at h36 hn ⊢
            -- behind a FAULT within a branch
            have dd7 := fun fp F' => d_Mo_tellLaw (σ := σ) (m := m) (s := s) (fp := fp) (b0 := b0) (i := i + 1) C hs F'
            have d115 : ∀ (fp : Int × Int) (m1 : Cs), FinV M_Mo_tellLaw g (fun u => telL σ s m (.inl fp) u) → Ft fp m1 → PF s m m1 → m1 36 0 = b + 1 → (0 ≤ m1 42 0 ∧ m1 42 0 ≤ 2000) → Ev g 115 [some (.inr (.inr (1, 0))), some (.inl b0), some (.inl (i + 1))] [] (so σ 1 m1) := by
              intro fp m1 F' hf hpf1 q36 q42
              refine e_aload_n C d_Mo_tellLaw_115 rfl ?_
              refine e_bipush C d_Mo_tellLaw_116 (by decide) ?_
              refine e_callVV C ok_Mo_must lk_Mo_252 (o := 1) (by decide) rfl [_] rfl rfl (Nat.le_of_ble_eq_true rfl) (by decide) (Nat.le_of_ble_eq_true rfl) d_Mo_tellLaw_118 (k_Mo_mustF hf.f) (fun u_118 h_118 => ?_)
              subst h_118
              refine e_goto C 7 d_Mo_tellLaw_121 (by decide) ?_
              exact dd7 fp F' (b + 1) m1 hf hpf1 q36 (by omega) q42
            have d111 : ∀ (fp : Int × Int) (m1 : Cs), FinV M_Mo_tellLaw g (fun u => telL σ s m (.inl fp) u) → Ft fp m1 → PF s m m1 → m1 36 0 = b → (0 ≤ m1 42 0 ∧ m1 42 0 ≤ 2000) → Ev g 111 [some (.inr (.inr (1, 0))), some (.inl b0), some (.inl (i + 1))] [] (so σ 1 m1) := by
              intro fp m1 F' hf hpf1 q36 q42
              refine e_aload_n C d_Mo_tellLaw_111 rfl ?_
              refine e_callVV C ok_Mo_term lk_Mo_282 (o := 1) (by decide) rfl [] rfl rfl (Nat.le_of_ble_eq_true rfl) (by decide) (Nat.le_of_ble_eq_true rfl) d_Mo_tellLaw_112 (k_Mo_termF (fp := fp) (s := s) (b := b) hf hs q36 (by omega) q42) (fun u_112 h_112 => ?_)
              obtain ⟨m2, rfl, w1, w2, w3, w4⟩ := h_112
              exact d115 fp m2 F' w2 (hpf1.tr w1) w3 (by omega)
            have d94 : ∀ (fp : Int × Int) (m1 : Cs), FinV M_Mo_tellLaw g (fun u => telL σ s m (.inl fp) u) → Ft fp m1 → PF s m m1 → m1 36 0 = b → (0 ≤ m1 42 0 ∧ m1 42 0 ≤ 2000) → Ev g 94 [some (.inr (.inr (1, 0))), some (.inl b0), some (.inl (i + 1))] [] (so σ 1 m1) := by
              intro fp m1 F' hf hpf1 q36 q42
              have hf1 := hf.f
              refine e_aload_n C d_Mo_tellLaw_94 rfl ?_
              refine e_geti C fl_Mo_185 (by decide) rfl rfl d_Mo_tellLaw_95 (fun r_95 => ?_)
              try simp only [so_at] at r_95 ⊢
              refine e_if_ne C 105 d_Mo_tellLaw_98 (by decide) (by omega) (fun c_98 => ?_) (fun c_98 => ?_)
              · refine e_aload_n C d_Mo_tellLaw_105 rfl ?_
                refine e_bipush C d_Mo_tellLaw_106 (by decide) ?_
                refine e_callVV C ok_Mo_must lk_Mo_252 (o := 1) (by decide) rfl [_] rfl rfl (Nat.le_of_ble_eq_true rfl) (by decide) (Nat.le_of_ble_eq_true rfl) d_Mo_tellLaw_108 (k_Mo_mustF hf.f) (fun u_108 h_108 => ?_)
                subst h_108
                exact d111 fp m1 F' hf hpf1 q36 q42
              · exact absurd c_98 (by omega)
            have d81 : ∀ (fp : Int × Int) (m1 : Cs), FinV M_Mo_tellLaw g (fun u => telL σ s m (.inl fp) u) → Ft fp m1 → PF s m m1 → m1 36 0 = b → (0 ≤ m1 42 0 ∧ m1 42 0 ≤ 2000) → Ev g 81 [some (.inr (.inr (1, 0))), some (.inl b0), some (.inl (i + 1))] [] (so σ 1 m1) := by
              intro fp m1 F' hf hpf1 q36 q42
              refine e_aload_n C d_Mo_tellLaw_81 rfl ?_
              refine e_geta C fl_Mo_92 (by decide) rfl rfl d_Mo_tellLaw_82 ?_
              refine e_aload_n C d_Mo_tellLaw_85 rfl ?_
              refine e_geti C fl_Mo_224 (by decide) rfl rfl d_Mo_tellLaw_86 (fun r_86 => ?_)
              try simp only [so_at, so_so, wr_so, q36] at r_86 ⊢
              refine e_aload_n C d_Mo_tellLaw_89 rfl ?_
              refine e_geti C fl_Mo_227 (by decide) rfl rfl d_Mo_tellLaw_90 (fun r_90 => ?_)
              try simp only [so_at, so_so, wr_so, q36] at r_90 ⊢
              refine e_iast (n := 260) C (by decide) rfl (by decide) rfl rfl (by decide) (by omega) (by omega) (by omega) d_Mo_tellLaw_93 ?_
              try simp only [so_at, so_so, wr_so, q36]
              exact d94 fp _ F' (hf.w (by decide) (by decide) (by decide)) (hpf1.w2 (by decide) (by rw [z39]; omega) (by rw [z39]; omega)) (by rw [cu_f (by decide)]; exact q36) (by rw [cu_f (by decide)]; exact q42)
            have d75 : ∀ (fp : Int × Int) (m1 : Cs), FinV M_Mo_tellLaw g (fun u => telL σ s m (.inl fp) u) → Ft fp m1 → PF s m m1 → m1 36 0 = b → (0 ≤ m1 42 0 ∧ m1 42 0 ≤ 2000) → Ev g 75 [some (.inr (.inr (1, 0))), some (.inl b0), some (.inl (i + 1))] [] (so σ 1 m1) := by
              intro fp m1 F' hf hpf1 q36 q42
              refine e_aload_n C d_Mo_tellLaw_75 rfl ?_
              refine e_bipush C d_Mo_tellLaw_76 (by decide) ?_
              refine e_callVV C ok_Mo_must lk_Mo_252 (o := 1) (by decide) rfl [_] rfl rfl (Nat.le_of_ble_eq_true rfl) (by decide) (Nat.le_of_ble_eq_true rfl) d_Mo_tellLaw_78 (k_Mo_mustF hf.f) (fun u_78 h_78 => ?_)
              subst h_78
              exact d81 fp m1 F' hf hpf1 q36 q42
            rcases h_45 with ⟨a1, rfl⟩ | ⟨a1, rfl⟩
            · rw [show pGo T t = .inl (2, T.2.1 t) by unfold pGo; rw [if_pos (by omega)], bnd_l, bnd_l] at F
              have hft : Ft (2, T.2.1 t) (flt m' 2 (T.2.1 t)) := Ft.mk hM (by decide)
              have q36 : flt m' 2 (T.2.1 t) 36 0 = b := by unfold flt; rw [cu_f (by decide), cu_f (by decide)]; exact h36
              have q42 : flt m' 2 (T.2.1 t) 42 0 = m' 42 0 := by unfold flt; rw [cu_f (by decide), cu_f (by decide)]
              have hft2 : Ft (2, T.2.1 t) (cu (cu (flt m' 2 (T.2.1 t)) 37 b 1) 38 b (m' 42 0)) := (hft.w (by decide) (by decide) (by decide)).w (by decide) (by decide) (by decide)
              have hpf2 : PF s m (cu (cu (flt m' 2 (T.2.1 t)) 37 b 1) 38 b (m' 42 0)) := (hpf.fl.w2 (by decide) (by rw [z37]; omega) (by rw [z37]; omega)).w2 (by decide) (by rw [z38]; omega) (by rw [z38]; omega)
              refine e_aload_n C d_Mo_tellLaw_48 rfl ?_
              refine e_geta C fl_Mo_85 (by decide) rfl rfl d_Mo_tellLaw_49 ?_
              refine e_aload_n C d_Mo_tellLaw_52 rfl ?_
              refine e_geti C fl_Mo_224 (by decide) rfl rfl d_Mo_tellLaw_53 (fun r_53 => ?_)
              try simp only [so_at, so_so, wr_so, q36, q42, cu_f, ne_eq, Nat.reduceEqDiff, not_false_eq_true] at r_53 ⊢
              refine e_iconst C d_Mo_tellLaw_56 ?_
              refine e_zast (n := 260) C (by decide) rfl (by decide) rfl rfl (by decide) (by omega) (by omega) (by omega) d_Mo_tellLaw_57 ?_
              try simp only [so_at, so_so, wr_so, q36, q42, cu_f, ne_eq, Nat.reduceEqDiff, not_false_eq_true]
              refine e_aload_n C d_Mo_tellLaw_58 rfl ?_
              refine e_geta C fl_Mo_89 (by decide) rfl rfl d_Mo_tellLaw_59 ?_
              refine e_aload_n C d_Mo_tellLaw_62 rfl ?_
              refine e_geti C fl_Mo_224 (by decide) rfl rfl d_Mo_tellLaw_63 (fun r_63 => ?_)
              try simp only [so_at, so_so, wr_so, q36, q42, cu_f, ne_eq, Nat.reduceEqDiff, not_false_eq_true] at r_63 ⊢
              refine e_aload_n C d_Mo_tellLaw_66 rfl ?_
              refine e_geti C fl_Mo_227 (by decide) rfl rfl d_Mo_tellLaw_67 (fun r_67 => ?_)
              try simp only [so_at, so_so, wr_so, q36, q42, cu_f, ne_eq, Nat.reduceEqDiff, not_false_eq_true] at r_67 ⊢
              refine e_iast (n := 260) C (by decide) rfl (by decide) rfl rfl (by decide) (by omega) (by omega) (by omega) d_Mo_tellLaw_70 ?_
              try simp only [so_at, so_so, wr_so, q36, q42, cu_f, ne_eq, Nat.reduceEqDiff, not_false_eq_true]
              refine e_aload_n C d_Mo_tellLaw_71 rfl ?_
              refine e_callVV C ok_Mo_expression lk_Mo_279 (o := 1) (by decide) rfl [] rfl rfl (Nat.le_of_ble_eq_true rfl) (by decide) (Nat.le_of_ble_eq_true rfl) d_Mo_tellLaw_72 (k_Mo_expressionF hft2.f) (fun u_72 h_72 => ?_)
              subst h_72
              exact d75 _ _ F (hft2.w (by decide) (by decide) (by decide)) (hpf2.w1 (by omega)) (by rw [cu_f (by decide), cu_f (by decide), cu_f (by decide)]; exact q36) (by rw [cu_f (by decide), cu_f (by decide), cu_f (by decide), q42]; omega)
            · rw [show pGo T t = .inr (t + 1) by unfold pGo; rw [if_neg (by omega)], bnd_r] at F
              have q36 : cu m' 11 0 (t + 1) 36 0 = b := by rw [cu_f (by decide)]; exact h36
              have q42 : cu m' 11 0 (t + 1) 42 0 = m' 42 0 := by rw [cu_f (by decide)]
              have hM1 : MH T (cu (cu (cu m' 11 0 (t + 1)) 37 b 1) 38 b (m' 42 0)) (t + 1) := hM.go (fun f hf => by rw [cf_f (by omega), cf_f (by omega), cf_f (by omega)]) (by rw [cu_f (by decide), cu_f (by decide), cu_s]) (by rw [cu_f (by decide), cu_f (by decide), cu_f (by decide)]) a1 (by omega)
              have hpf1 : PF s m (cu (cu (cu m' 11 0 (t + 1)) 37 b 1) 38 b (m' 42 0)) := ((hpf.w1 (by omega)).w2 (by decide) (by rw [z37]; omega) (by rw [z37]; omega)).w2 (by decide) (by rw [z38]; omega) (by rw [z38]; omega)
              have hsp1 : SmP m (cu (cu (cu m' 11 0 (t + 1)) 37 b 1) 38 b (m' 42 0)) := ((hsp.w (by omega)).w (by omega)).w (by omega)
              have e37 : ∀ k, cu (cu (cu m' 11 0 (t + 1)) 37 b 1) 38 b (m' 42 0) 37 k = if k = b then 1 else m' 37 k := fun k => by rw [cu_f (by decide), cu_if, cu_f (by decide)]; simp only [true_and]
              have e38 : ∀ k, cu (cu (cu m' 11 0 (t + 1)) 37 b 1) 38 b (m' 42 0) 38 k = if k = b then m' 42 0 else m' 38 k := fun k => by rw [cu_if, cu_f (by decide), cu_f (by decide)]; simp only [true_and]
              have ef : ∀ f, f ≠ 11 → f ≠ 37 → f ≠ 38 → cu (cu (cu m' 11 0 (t + 1)) 37 b 1) 38 b (m' 42 0) f = m' f := fun f c1 c2 c3 => by rw [cf_f c3, cf_f c2, cf_f c1]
              refine e_aload_n C d_Mo_tellLaw_48 rfl ?_
              refine e_geta C fl_Mo_85 (by decide) rfl rfl d_Mo_tellLaw_49 ?_
              refine e_aload_n C d_Mo_tellLaw_52 rfl ?_
              refine e_geti C fl_Mo_224 (by decide) rfl rfl d_Mo_tellLaw_53 (fun r_53 => ?_)
              try simp only [so_at, so_so, wr_so, q36, q42, cu_f, ne_eq, Nat.reduceEqDiff, not_false_eq_true] at r_53 ⊢
              refine e_iconst C d_Mo_tellLaw_56 ?_
              refine e_zast (n := 260) C (by decide) rfl (by decide) rfl rfl (by decide) (by omega) (by omega) (by omega) d_Mo_tellLaw_57 ?_
              try simp only [so_at, so_so, wr_so, q36, q42, cu_f, ne_eq, Nat.reduceEqDiff, not_false_eq_true]
              refine e_aload_n C d_Mo_tellLaw_58 rfl ?_
              refine e_geta C fl_Mo_89 (by decide) rfl rfl d_Mo_tellLaw_59 ?_
              refine e_aload_n C d_Mo_tellLaw_62 rfl ?_
              refine e_geti C fl_Mo_224 (by decide) rfl rfl d_Mo_tellLaw_63 (fun r_63 => ?_)
              try simp only [so_at, so_so, wr_so, q36, q42, cu_f, ne_eq, Nat.reduceEqDiff, not_false_eq_true] at r_63 ⊢
              refine e_aload_n C d_Mo_tellLaw_66 rfl ?_
              refine e_geti C fl_Mo_227 (by decide) rfl rfl d_Mo_tellLaw_67 (fun r_67 => ?_)
              try simp only [so_at, so_so, wr_so, q36, q42, cu_f, ne_eq, Nat.reduceEqDiff, not_false_eq_true] at r_67 ⊢
              refine e_iast (n := 260) C (by decide) rfl (by decide) rfl rfl (by decide) (by omega) (by omega) (by omega) d_Mo_tellLaw_70 ?_
              try simp only [so_at, so_so, wr_so, q36, q42, cu_f, ne_eq, Nat.reduceEqDiff, not_false_eq_true]
              refine e_aload_n C d_Mo_tellLaw_71 rfl ?_
              refine e_callVV C ok_Mo_expression lk_Mo_279 (o := 1) (by decide) rfl [] rfl rfl (Nat.le_of_ble_eq_true rfl) (by decide) (Nat.le_of_ble_eq_true rfl) d_Mo_tellLaw_72 (k_Mo_expression (s := s) (c0 := m' 42 0) hM1 (by rw [ef 12 (by decide) (by decide) (by decide)]; exact h12) hs (by rw [ef 42 (by decide) (by decide) (by decide)]) (by omega)) (fun u_72 h_72 => ?_)
              generalize cu (cu (cu m' 11 0 (t + 1)) 37 b 1) 38 b (m' 42 0) = m1 at hM1 hpf1 hsp1 e37 e38 ef h_72
              cases hE : xE T (t + 1) with
              | inl fp =>
                rw [hE, bnd_l, bnd_l] at F
                rw [hE] at h_72
                obtain ⟨m2, rfl, w1, w2, w3, w4, w5, w6⟩ := h_72
                exact d75 fp m2 F ⟨w2, w3, w4, w5⟩ (hpf1.mx w1 h42.1) (by rw [w1.1 36 (by decide) (by decide) (by decide) (by decide) (by decide) (by decide) (by decide) (by decide) (by decide), ef 36 (by decide) (by decide) (by decide)]; exact h36) (by omega)
              | inr tp =>
                obtain ⟨o1, o2, o3, o4, o5, o6⟩ := xE_ok hT (by omega) (by omega) hM1.2.2.2.2.1 (show xE T (t + 1) = .inr (tp.1, tp.2) from hE)
                rw [hE, bnd_r] at F
                rw [hE] at h_72
                obtain ⟨m2, rfl, w1, w2, w3, w4, w5, w6⟩ := h_72
                have g1 : ∀ f, f ≠ 11 → f ≠ 12 → f ≠ 13 → f ≠ 14 → f ≠ 42 → f ≠ 43 → f ≠ 44 → f ≠ 45 → f ≠ 46 → m2 f = m1 f := w1.1
                have hM2 : MH T m2 tp.1 := ⟨hT, hM1.2.1.same (fun f hf => g1 f (by omega) (by omega) (by omega) (by omega) (by omega) (by omega) (by omega) (by omega) (by omega)), w2, by omega, Or.inr o3, w3⟩
                have hpf2 := hpf1.mx w1 h42.1
                have hsp2 := hsp1.mx w1
                have g36 : m2 36 0 = b := by rw [g1 36 (by decide) (by decide) (by decide) (by decide) (by decide) (by decide) (by decide) (by decide) (by decide), ef 36 (by decide) (by decide) (by decide)]; exact h36
                refine e_aload_n C d_Mo_tellLaw_75 rfl ?_
                refine e_bipush C d_Mo_tellLaw_76 (by decide) ?_
                refine e_callVV C ok_Mo_must lk_Mo_252 (o := 1) (by decide) rfl [_] rfl rfl (Nat.le_of_ble_eq_true rfl) (by decide) (Nat.le_of_ble_eq_true rfl) d_Mo_tellLaw_78 (k_Mo_must hM2 (k' := 60) (by decide) (by decide)) (fun u_78 h_78 => ?_)
                rcases h_78 with ⟨fp, r1, r2, rfl⟩ | ⟨r1, r2, r3, rfl⟩
                · rw [r1, bnd_l, bnd_l] at F
                  exact d81 fp _ F (Ft.mk hM2 r2) hpf2.fl (by unfold flt; rw [cu_f (by decide), cu_f (by decide)]; exact g36) (by unfold flt; rw [cu_f (by decide), cu_f (by decide)]; omega)
                · rw [r1, bnd_r] at F
                  have q36' : cu m2 11 0 (tp.1 + 1) 36 0 = b := by rw [cu_f (by decide)]; exact g36
                  have q42' : cu m2 11 0 (tp.1 + 1) 42 0 = m' 42 0 + tp.2.length := by rw [cu_f (by decide)]; exact w5
                  have hM3 : MH T (cu (cu m2 11 0 (tp.1 + 1)) 39 b (m' 42 0 + tp.2.length)) (tp.1 + 1) := hM2.go (fun f hf => by rw [cf_f (by omega), cf_f (by omega)]) (by rw [cu_f (by decide), cu_s]) (by rw [cu_f (by decide), cu_f (by decide)]) r2 (by omega)
                  have hpf3 : PF s m (cu (cu m2 11 0 (tp.1 + 1)) 39 b (m' 42 0 + tp.2.length)) := (hpf2.w1 (by omega)).w2 (by decide) (by rw [z39]; omega) (by rw [z39]; omega)
                  have hsp3 : SmP m (cu (cu m2 11 0 (tp.1 + 1)) 39 b (m' 42 0 + tp.2.length)) := (hsp2.w (by omega)).w (by omega)
                  have ef3 : ∀ f, f ≠ 11 → f ≠ 39 → cu (cu m2 11 0 (tp.1 + 1)) 39 b (m' 42 0 + tp.2.length) f = m2 f := fun f c1 c2 => by rw [cf_f c2, cf_f c1]
                  have e39 : ∀ k, cu (cu m2 11 0 (tp.1 + 1)) 39 b (m' 42 0 + tp.2.length) 39 k = if k = b then m' 42 0 + tp.2.length else m2 39 k := fun k => by rw [cu_if, cu_f (by decide)]; simp only [true_and]
                  have e13' : cu (cu m2 11 0 (tp.1 + 1)) 39 b (m' 42 0 + tp.2.length) 13 0 = 0 := by rw [ef3 13 (by decide) (by decide)]; exact w3
                  refine e_aload_n C d_Mo_tellLaw_81 rfl ?_
                  refine e_geta C fl_Mo_92 (by decide) rfl rfl d_Mo_tellLaw_82 ?_
                  refine e_aload_n C d_Mo_tellLaw_85 rfl ?_
                  refine e_geti C fl_Mo_224 (by decide) rfl rfl d_Mo_tellLaw_86 (fun r_86 => ?_)
                  try simp only [so_at, so_so, wr_so, q36', q42', e13'] at r_86 ⊢
                  refine e_aload_n C d_Mo_tellLaw_89 rfl ?_
                  refine e_geti C fl_Mo_227 (by decide) rfl rfl d_Mo_tellLaw_90 (fun r_90 => ?_)
                  try simp only [so_at, so_so, wr_so, q36', q42', e13'] at r_90 ⊢
                  refine e_iast (n := 260) C (by decide) rfl (by decide) rfl rfl (by decide) (by omega) (by omega) (by omega) d_Mo_tellLaw_93 ?_
                  try simp only [so_at, so_so, wr_so, q36', q42', e13']
                  refine e_aload_n C d_Mo_tellLaw_94 rfl ?_
                  refine e_geti C fl_Mo_185 (by decide) rfl rfl d_Mo_tellLaw_95 (fun r_95 => ?_)
                  try simp only [so_at, so_so, wr_so, q36', q42', e13'] at r_95 ⊢
                  refine e_if_ne C 105 d_Mo_tellLaw_98 (by decide) (by omega) (fun c_98 => ?_) (fun c_98 => ?_)
                  · exact absurd rfl c_98
                  · refine e_aload_n C d_Mo_tellLaw_101 rfl ?_
                    refine e_callVV C ok_Mo_expression lk_Mo_279 (o := 1) (by decide) rfl [] rfl rfl (Nat.le_of_ble_eq_true rfl) (by decide) (Nat.le_of_ble_eq_true rfl) d_Mo_tellLaw_102 (k_Mo_expression (s := s) (c0 := m' 42 0 + tp.2.length) hM3 (by rw [ef3 12 (by decide) (by decide)]; exact w4) hs (by rw [ef3 42 (by decide) (by decide)]; exact w5) (by omega)) (fun u_102 h_102 => ?_)
                    generalize cu (cu m2 11 0 (tp.1 + 1)) 39 b (m' 42 0 + tp.2.length) = m3 at hM3 hpf3 hsp3 ef3 e39 h_102
                    have d105 : ∀ (fp : Int × Int) (m1 : Cs), FinV M_Mo_tellLaw g (fun u => telL σ s m (.inl fp) u) → Ft fp m1 → PF s m m1 → m1 36 0 = b → (0 ≤ m1 42 0 ∧ m1 42 0 ≤ 2000) → Ev g 105 [some (.inr (.inr (1, 0))), some (.inl b0), some (.inl (i + 1))] [] (so σ 1 m1) := by
                      intro fp m1 F' hf hpf1 q36 q42
                      refine e_aload_n C d_Mo_tellLaw_105 rfl ?_
                      refine e_bipush C d_Mo_tellLaw_106 (by decide) ?_
                      refine e_callVV C ok_Mo_must lk_Mo_252 (o := 1) (by decide) rfl [_] rfl rfl (Nat.le_of_ble_eq_true rfl) (by decide) (Nat.le_of_ble_eq_true rfl) d_Mo_tellLaw_108 (k_Mo_mustF hf.f) (fun u_108 h_108 => ?_)
                      subst h_108
                      exact d111 fp m1 F' hf hpf1 q36 q42
                    cases hE2 : xE T (tp.1 + 1) with
                    | inl fp =>
                      rw [hE2, bnd_l, bnd_l] at F
                      rw [hE2] at h_102
                      obtain ⟨m4, rfl, y1, y2, y3, y4, y5, y6⟩ := h_102
                      exact d105 fp m4 F ⟨y2, y3, y4, y5⟩ (hpf3.mx y1 (by omega)) (by rw [y1.1 36 (by decide) (by decide) (by decide) (by decide) (by decide) (by decide) (by decide) (by decide) (by decide), ef3 36 (by decide) (by decide)]; exact g36) (by omega)
                    | inr tq =>
                      obtain ⟨u1, u2, u3, u4, u5, u6⟩ := xE_ok hT (by omega) (by omega) hM3.2.2.2.2.1 (show xE T (tp.1 + 1) = .inr (tq.1, tq.2) from hE2)
                      rw [hE2, bnd_r] at F
                      rw [hE2] at h_102
                      obtain ⟨m4, rfl, y1, y2, y3, y4, y5, y6⟩ := h_102
                      have g4 : ∀ f, f ≠ 11 → f ≠ 12 → f ≠ 13 → f ≠ 14 → f ≠ 42 → f ≠ 43 → f ≠ 44 → f ≠ 45 → f ≠ 46 → m4 f = m3 f := y1.1
                      have hM4 : MH T m4 tq.1 := ⟨hT, hM3.2.1.same (fun f hf => g4 f (by omega) (by omega) (by omega) (by omega) (by omega) (by omega) (by omega) (by omega) (by omega)), y2, by omega, Or.inr u3, y3⟩
                      have hpf4 := hpf3.mx y1 (by omega)
                      have hsp4 := hsp3.mx y1
                      have g364 : m4 36 0 = b := by rw [g4 36 (by decide) (by decide) (by decide) (by decide) (by decide) (by decide) (by decide) (by decide) (by decide), ef3 36 (by decide) (by decide)]; exact g36
                      refine e_aload_n C d_Mo_tellLaw_105 rfl ?_
                      refine e_bipush C d_Mo_tellLaw_106 (by decide) ?_
                      refine e_callVV C ok_Mo_must lk_Mo_252 (o := 1) (by decide) rfl [_] rfl rfl (Nat.le_of_ble_eq_true rfl) (by decide) (Nat.le_of_ble_eq_true rfl) d_Mo_tellLaw_108 (k_Mo_must hM4 (k' := 142) (by decide) (by decide)) (fun u_108 h_108 => ?_)
                      rcases h_108 with ⟨fp, r1', r2', rfl⟩ | ⟨r1', r2', r3', rfl⟩
                      · rw [r1', bnd_l, bnd_l] at F
                        exact d111 fp _ F (Ft.mk hM4 r2') hpf4.fl (by unfold flt; rw [cu_f (by decide), cu_f (by decide)]; exact g364) (by unfold flt; rw [cu_f (by decide), cu_f (by decide)]; omega)
                      · rw [r1', bnd_r] at F
                        have hM5 : MH T (cu m4 11 0 (tq.1 + 1)) (tq.1 + 1) := hM4.go (fun f hf => by rw [cf_f (by omega)]) (cu_s _ _ _ _) (cu_f (by decide)) r2' (by omega)
                        have ef5 : ∀ f, f ≠ 11 → cu m4 11 0 (tq.1 + 1) f = m4 f := fun f c1 => cf_f c1
                        have hpf5 : PF s m (cu m4 11 0 (tq.1 + 1)) := hpf4.w1 (by omega)
                        have hsp5 : SmP m (cu m4 11 0 (tq.1 + 1)) := hsp4.w (by omega)
                        refine e_aload_n C d_Mo_tellLaw_111 rfl ?_
                        refine e_callVV C ok_Mo_term lk_Mo_282 (o := 1) (by decide) rfl [] rfl rfl (Nat.le_of_ble_eq_true rfl) (by decide) (Nat.le_of_ble_eq_true rfl) d_Mo_tellLaw_112 (k_Mo_term (s := s) (c0 := m' 42 0 + tp.2.length + tq.2.length) (b := b) hM5 (by rw [ef5 12 (by decide)]; exact y4) hs (by rw [ef5 42 (by decide)]; exact y5) (by omega) (by rw [ef5 36 (by decide)]; exact g364) (by omega)) (fun u_112 h_112 => ?_)
                        generalize cu m4 11 0 (tq.1 + 1) = m5 at hM5 ef5 hpf5 hsp5 h_112
                        cases hE3 : xE T (tq.1 + 1) with
                        | inl fp =>
                          rw [hE3, bnd_l, bnd_l] at F
                          rw [hE3] at h_112
                          obtain ⟨m6, rfl, k1, k2, k3, k4⟩ := h_112
                          exact d115 fp m6 F k2 (hpf5.tr k1) k3 (by omega)
                        | inr tr =>
                          obtain ⟨v1, v2, v3, v4, v5, v6⟩ := xE_ok hT (by omega) (by omega) hM5.2.2.2.2.1 (show xE T (tq.1 + 1) = .inr (tr.1, tr.2) from hE3)
                          rw [hE3, bnd_r] at F
                          rw [hE3] at h_112
                          obtain ⟨m6, rfl, k1, k2, k3, k4, k5, k6, k7, k8, k9, k10, k11, k12⟩ := h_112
                          have hM6 : MH T m6 tr.1 := ⟨hT, hM5.2.1.same (fun f hf => k10 f (by omega) (by omega) (by omega) (by omega) (by omega) (by omega) (by omega) (by omega) (by omega) (by omega) (by omega) (by omega)), k2, by omega, Or.inr v3, k3⟩
                          have hpf6 := hpf5.tr k1
                          have hsp6 : SmP m m6 := hsp5.tr (fun f hf => k10 f (by omega) (by omega) (by omega) (by omega) (by omega) (by omega) (by omega) (by omega) (by omega) (by omega) (by omega) (by omega))
                          refine e_aload_n C d_Mo_tellLaw_115 rfl ?_
                          refine e_bipush C d_Mo_tellLaw_116 (by decide) ?_
                          refine e_callVV C ok_Mo_must lk_Mo_252 (o := 1) (by decide) rfl [_] rfl rfl (Nat.le_of_ble_eq_true rfl) (by decide) (Nat.le_of_ble_eq_true rfl) d_Mo_tellLaw_118 (k_Mo_must hM6 (k' := 143) (by decide) (by decide)) (fun u_118 h_118 => ?_)
                          refine e_goto C 7 d_Mo_tellLaw_121 (by decide) ?_
                          rcases h_118 with ⟨fp, s1, s2, rfl⟩ | ⟨s1, s2, s3, rfl⟩
                          · rw [s1, bnd_l, bnd_l] at F
                            exact dd7 fp F (b + 1) _ (Ft.mk hM6 s2) hpf6.fl (by unfold flt; rw [cu_f (by decide), cu_f (by decide)]; exact k5) (by omega) (by unfold flt; rw [cu_f (by decide), cu_f (by decide)]; omega)
                          · rw [s1, bnd_r, bnd_r] at F
                            have w42 : cu m6 11 0 (tr.1 + 1) 42 0 = m' 42 0 + tp.2.length + tq.2.length + tr.2.length := by rw [cu_f (by decide)]; exact k6
                            have hr : ∀ f k, 37 ≤ f → f ≤ 39 → cu m6 11 0 (tr.1 + 1) f k = m5 f k := fun f k c1 c2 => by rw [cu_f (by omega), k10 f (by omega) (by omega) (by omega) (by omega) (by omega) (by omega) (by omega) (by omega) (by omega) (by omega) (by omega) (by omega)]
                            have h5r : ∀ f k, 37 ≤ f → f ≤ 41 → m5 f k = m3 f k := fun f k c1 c2 => by rw [ef5 f (by omega), g4 f (by omega) (by omega) (by omega) (by omega) (by omega) (by omega) (by omega) (by omega) (by omega)]
                            have h2r : ∀ f k, 37 ≤ f → f ≤ 41 → m2 f k = m1 f k := fun f k c1 c2 => by rw [g1 f (by omega) (by omega) (by omega) (by omega) (by omega) (by omega) (by omega) (by omega) (by omega)]
                            -- the rows of codes, from the last back to the first
                            have c65 : ∀ k, k < m' 42 0 + tp.2.length + tq.2.length → cu m6 11 0 (tr.1 + 1) 43 k = m4 43 k ∧ cu m6 11 0 (tr.1 + 1) 44 k = m4 44 k := fun k hk => by
                              have := k12 k hk
                              rw [cu_f (by decide), cu_f (by decide), this.1, this.2, ef5 43 (by decide), ef5 44 (by decide)]
                              exact ⟨rfl, rfl⟩
                            have c43 : ∀ k, k < m' 42 0 + tp.2.length → m4 43 k = m2 43 k ∧ m4 44 k = m2 44 k := fun k hk => by
                              have := y1.2 k (Or.inl hk)
                              rw [this.1, this.2, ef3 43 (by decide) (by decide), ef3 44 (by decide) (by decide)]
                              exact ⟨rfl, rfl⟩
                            have c21 : ∀ k, k < m' 42 0 → m2 43 k = m' 43 k ∧ m2 44 k = m' 44 k := fun k hk => by
                              have := w1.2 k (Or.inl hk)
                              rw [this.1, this.2, ef 43 (by decide) (by decide) (by decide), ef 44 (by decide) (by decide) (by decide)]
                              exact ⟨rfl, rfl⟩
                            refine ih (i + 1) (tr.1 + 1) (L ++ [(true, tp.2, tq.2, tr.2)]) _ (by omega) (by omega) (hM6.go (fun f hf => cf_f (by omega)) (cu_s _ _ _ _) (cu_f (by decide)) s2 (by omega)) (by rw [cu_f (by decide)]; exact k4) ?_ ?_ (by rw [w42]; omega) ?_ (hpf6.w1 (by omega)) (hsp6.w (by omega)) F
                            · rw [cu_f (by decide), k5, List.length_append, List.length_singleton]; omega
                            · rw [List.length_append, List.length_singleton]; omega
                            · rw [w42]
                              refine BRS.app L b0 (BRS.same (show m' 42 0 ≤ _ by omega) (fun k k0 k1 => ?_) L b0 hB (fun gg k a' b' k0 k1 => ?_)) ?_
                              · rw [(c65 k (by omega)).1, (c65 k (by omega)).2, (c43 k (by omega)).1, (c43 k (by omega)).2]
                                exact c21 k k1
                              · have hkb : k ≠ b := by omega
                                have e1k : ∀ f, 37 ≤ f → f ≤ 41 → m1 f k = m' f k := fun f c1 c2 => by
                                  by_cases w7 : f = 37
                                  · rw [w7, e37, if_neg hkb]
                                  by_cases w8 : f = 38
                                  · rw [w8, e38, if_neg hkb]
                                  rw [ef f (by omega) w7 w8]
                                have e3k : ∀ f, 37 ≤ f → f ≤ 41 → m3 f k = m2 f k := fun f c1 c2 => by
                                  by_cases w9 : f = 39
                                  · rw [w9, e39, if_neg hkb]
                                  rw [ef3 f (by omega) w9]
                                by_cases w40 : gg = 40
                                · rw [w40, cu_f (by decide), (k11 k hkb).1, h5r 40 k (by decide) (by decide), e3k 40 (by decide) (by decide), h2r 40 k (by decide) (by decide), e1k 40 (by decide) (by decide)]
                                by_cases w41 : gg = 41
                                · rw [w41, cu_f (by decide), (k11 k hkb).2, h5r 41 k (by decide) (by decide), e3k 41 (by decide) (by decide), h2r 41 k (by decide) (by decide), e1k 41 (by decide) (by decide)]
                                rw [hr gg k a' (by omega), h5r gg k a' (by omega), e3k gg a' (by omega), h2r gg k a' (by omega), e1k gg a' (by omega)]
                              · rw [hbb]
                                have r37 : cu m6 11 0 (tr.1 + 1) 37 b = 1 := by rw [hr 37 b (by decide) (by decide), h5r 37 b (by decide) (by decide), ef3 37 (by decide) (by decide), h2r 37 b (by decide) (by decide), e37, if_pos rfl]
                                have r38 : cu m6 11 0 (tr.1 + 1) 38 b = m' 42 0 := by rw [hr 38 b (by decide) (by decide), h5r 38 b (by decide) (by decide), ef3 38 (by decide) (by decide), h2r 38 b (by decide) (by decide), e38, if_pos rfl]
                                have r39 : cu m6 11 0 (tr.1 + 1) 39 b = m' 42 0 + tp.2.length := by rw [hr 39 b (by decide) (by decide), h5r 39 b (by decide) (by decide), e39, if_pos rfl]
                                have r40 : cu m6 11 0 (tr.1 + 1) 40 b = m' 42 0 + tp.2.length + tq.2.length := by rw [cu_f (by decide)]; exact k7
                                have r41 : cu m6 11 0 (tr.1 + 1) 41 b = m' 42 0 + tp.2.length + tq.2.length + tr.2.length := by rw [cu_f (by decide)]; exact k8
                                refine ⟨by rw [r37]; rfl, fun _ => ⟨by rw [r38]; exact h42.1, ?_, by rw [r39, r38], ?_, by rw [r40, r39]⟩, by rw [r40]; omega, ?_, by rw [r41, r40], by rw [r41]; omega, trivial⟩
                                · rw [r38]
                                  exact w6.same (fun k k0 k1 => by rw [(c65 k (by omega)).1, (c65 k (by omega)).2]; exact c43 k k1)
                                · rw [r39]
                                  exact y6.same (fun k k0 k1 => c65 k k1)
                                · rw [r40]
                                  exact k9.same (fun k _ _ => by rw [cu_f (by decide), cu_f (by decide)]; exact ⟨rfl, rfl⟩)
          · exact absurd c_37 (by decide)
        · exact absurd h1 (by omega)
theorem k_Mo_tellLaw (hM : MH T m t) (h12 : m 12 0 = 0) (hs : 0 ≤ s ∧ s ≤ 1) (h19 : m 19 0 = s) (hn : 130 * s ≤ m 36 0 ∧ 4 * (m 36 0 - 130 * s) + 2 ≤ t) (h42 : 420 * s ≤ m 42 0 ∧ m 42 0 ≤ 420 * s + t) : CtV M_Mo_tellLaw [.inr (.inr (1, 0))] (so σ 1 m) (fun u => telL σ s m (zL T 4 t []) u) := by
  intro g C F
  refine e_aload_n C d_Mo_tellLaw_0 rfl ?_
  refine e_geti C fl_Mo_224 (by decide) rfl rfl d_Mo_tellLaw_1 (fun r_1 => ?_)
  try simp only [so_at] at r_1 ⊢
  refine e_istore_n C d_Mo_tellLaw_4 (by decide) rfl ?_
  refine e_iconst C d_Mo_tellLaw_5 ?_
  refine e_istore_n C d_Mo_tellLaw_6 (by decide) rfl ?_
  exact l_Mo_tellLaw (b0 := m 36 0) C hM.1 hs h19 hn.1 4 0 t [] m (by omega) (by omega) hM h12 (by show _ = _ + ((0 : Nat) : Int); omega) (by show 4 * (_ + ((0 : Nat) : Int) - _) + 2 ≤ t; omega) h42 trivial (PF.rf s m) (SmP.rf m) F
theorem k_Mo_tellLawF {fp : Int × Int} (hf : Ft fp m) (hs : 0 ≤ s ∧ s ≤ 1) (hn : 130 * s ≤ m 36 0 ∧ m 36 0 < 130 * s + 125) (h42 : 0 ≤ m 42 0 ∧ m 42 0 ≤ 2000) : CtV M_Mo_tellLaw [.inr (.inr (1, 0))] (so σ 1 m) (fun u => ∃ m', u = so σ 1 m' ∧ PF s m m' ∧ Ft fp m') := by
  intro g C F
  have F2 : FinV M_Mo_tellLaw g (fun u => telL σ s m (.inl fp) u) := F
  refine e_aload_n C d_Mo_tellLaw_0 rfl ?_
  refine e_geti C fl_Mo_224 (by decide) rfl rfl d_Mo_tellLaw_1 (fun r_1 => ?_)
  try simp only [so_at] at r_1 ⊢
  refine e_istore_n C d_Mo_tellLaw_4 (by decide) rfl ?_
  refine e_iconst C d_Mo_tellLaw_5 ?_
  refine e_istore_n C d_Mo_tellLaw_6 (by decide) rfl ?_
  exact d_Mo_tellLaw (s := s) (m := m) C hs F2 (m 36 0) m hf (PF.rf s m) rfl hn h42
end MW2
