/-! the reference's damp and law -/
section MD
variable {T : Tab} {σ : St} {m x P c : Cs} {t : Int}
def telD (σ : St) (T : Tab) (s : Int) (m c : Cs) (res : (Int × Int) ⊕ (Int × Cs × Cs)) (u : St) : Prop := match res with
  | .inl fp => ∃ m', u = so σ 1 m' ∧ PF s m m' ∧ Ft fp m'
  | .inr p => ∃ m', u = so σ 1 m' ∧ PF s m m' ∧ SmL m m' ∧ m' 13 0 = 0 ∧ m' 12 0 = m 12 0 ∧ m' 11 0 = p.1 ∧ MRp s p.2.2 c m' ∧ MRn T p.2.1 m' ∧ NS T p.2.1 (p.2.2 3 0) ∧ WX T p.2.1 m' p.1
set_option maxHeartbeats 2000000 in
theorem l_Mo_tellDamp {g : Mach} (C : Cx M_Mo_tellDamp g) {s : Int} (hT : TF T) (hp : MRp s P c m) (hn : MRn T x m) (hN : NS T x (P 3 0)) :
    ∀ (j : Nat) (i t : Int) (x' P' m' : Cs), 0 ≤ i → i ≤ 24 → i + j = 25 → MH T m' t → WX T x' m' t → PF s m m' → (∀ f, f ≠ 11 → f ≠ 15 → f ≠ 16 → f ≠ 32 → m' f = m f) → (∀ k, 0 ≤ k → k < i → m' 32 (24 * s + k) = P' 1 (k + 1)) → (∀ f k, f ≠ 1 → f ≠ 5 → P' f k = P f k) → P' 5 0 = i → (∀ f, f ≠ 15 → f ≠ 16 → x' f = x f) → FinV M_Mo_tellDamp g (fun u => telD σ T s m c (zD T j i t x' P') u) → Ev g 2 [some (.inr (.inr (1, 0))), some (.inl i)] [] (so σ 1 m') := by
  have hs := hp.1
  obtain ⟨_, p19, ⟨p24, p29, p31, p33⟩, pA, pG, pD, pE, pE2⟩ := hp
  obtain ⟨z25, z26, z27, z28, z24, z29, z30, z31, z32, z33⟩ := sz8
  have dead : ∀ (fp : Int × Int) (m' : Cs) (i : Int), 0 ≤ i → i ≤ 30 → Ft fp m' → PF s m m' → FinV M_Mo_tellDamp g (fun u => telD σ T s m c (.inl fp) u) → Ev g 2 [some (.inr (.inr (1, 0))), some (.inl i)] [] (so σ 1 m') := by
    intro fp m' i i0 i1 hf hpf F
    have hf1 := hf.f
    have e19 : m' 19 0 = s := by rw [hpf.1 19 (by decide)]; exact p19
    refine e_aload_n C d_Mo_tellDamp_2 rfl ?_
    refine e_geti C fl_Mo_185 (by decide) rfl rfl d_Mo_tellDamp_3 (fun r_3 => ?_)
    try simp only [so_at, so_so, wr_so, e19] at r_3 ⊢
    refine e_if_ne C 63 d_Mo_tellDamp_6 (by decide) (by omega) (fun c_6 => ?_) (fun c_6 => ?_)
    · refine e_aload_n C d_Mo_tellDamp_63 rfl ?_
      refine e_iconst C d_Mo_tellDamp_64 ?_
      refine e_callVV C ok_Mo_must lk_Mo_252 (o := 1) (by decide) rfl [_] rfl rfl (Nat.le_of_ble_eq_true rfl) (by decide) (Nat.le_of_ble_eq_true rfl) d_Mo_tellDamp_65 (k_Mo_mustF hf1) (fun u_65 h_65 => ?_)
      subst h_65
      refine e_aload_n C d_Mo_tellDamp_68 rfl ?_
      refine e_geta C fl_Mo_70 (by decide) rfl rfl d_Mo_tellDamp_69 ?_
      refine e_aload_n C d_Mo_tellDamp_72 rfl ?_
      refine e_geti C fl_Mo_218 (by decide) rfl rfl d_Mo_tellDamp_73 (fun r_73 => ?_)
      try simp only [so_at, so_so, wr_so, e19] at r_73 ⊢
      refine e_iload_n C d_Mo_tellDamp_76 rfl ?_
      refine e_iast (n := 2) C (by decide) rfl (by decide) rfl rfl (by decide) (by omega) (by omega) (by omega) d_Mo_tellDamp_77 ?_
      try simp only [so_at, so_so, wr_so, e19]
      refine e_vret C F rfl d_Mo_tellDamp_78 ?_
      exact ⟨_, rfl, hpf.w2 (by decide) (by rw [z31]; omega) (by rw [z31]; omega), hf.w (by decide) (by decide) (by decide)⟩
    · exact absurd c_6 (by omega)
  intro j
  induction j with
  | zero => intro i t x' P' m' h0 h1 h2; exact absurd h2 (by omega)
  | succ j ih =>
    intro i t x' P' m' h0 h1 h2 hM hwx hpf hf hd hP h5 hx F
    have hTk := hM.1.k t
    have h0t := hM.2.2.2.1
    have e19 : m' 19 0 = s := by rw [hf 19 (by decide) (by decide) (by decide) (by decide)]; exact p19
    have e13 := hM.2.2.2.2.2
    unfold zD at F
    refine e_aload_n C d_Mo_tellDamp_2 rfl ?_
    refine e_geti C fl_Mo_185 (by decide) rfl rfl d_Mo_tellDamp_3 (fun r_3 => ?_)
    try simp only [so_at, so_so, wr_so, e19, e13] at r_3 ⊢
    refine e_if_ne C 63 d_Mo_tellDamp_6 (by decide) (by omega) (fun c_6 => ?_) (fun c_6 => ?_)
    · exact absurd rfl c_6
    · refine e_aload_n C d_Mo_tellDamp_9 rfl ?_
      refine e_iconst C d_Mo_tellDamp_10 ?_
      refine e_callIV C ok_Mo_is lk_Mo_203 (o := 1) (by decide) rfl [_] rfl rfl (Nat.le_of_ble_eq_true rfl) (by decide) (Nat.le_of_ble_eq_true rfl) d_Mo_tellDamp_11 (k_Mo_is hM (k' := 131) (by decide) (by decide)) (fun v_11 u_11 q_11 h_11 => ?_)
      obtain ⟨rfl, rfl⟩ := h_11
      refine e_if_eq C 63 d_Mo_tellDamp_14 (by decide) (by split <;> omega) (fun c_14 => ?_) (fun c_14 => ?_)
      · have hv := if1_f c_14
        rw [if_neg hv] at F
        refine e_aload_n C d_Mo_tellDamp_63 rfl ?_
        refine e_iconst C d_Mo_tellDamp_64 ?_
        refine e_callVV C ok_Mo_must lk_Mo_252 (o := 1) (by decide) rfl [_] rfl rfl (Nat.le_of_ble_eq_true rfl) (by decide) (Nat.le_of_ble_eq_true rfl) d_Mo_tellDamp_65 (k_Mo_must hM (k' := 59) (by decide) (by decide)) (fun u_65 h_65 => ?_)
        rcases h_65 with ⟨fp, g1, g2, rfl⟩ | ⟨g1, g2, g3, rfl⟩
        · rw [g1, bnd_l] at F
          have e19' : flt m' fp.1 fp.2 19 0 = s := by unfold flt; rw [cu_f (by decide), cu_f (by decide)]; exact e19
          refine e_aload_n C d_Mo_tellDamp_68 rfl ?_
          refine e_geta C fl_Mo_70 (by decide) rfl rfl d_Mo_tellDamp_69 ?_
          refine e_aload_n C d_Mo_tellDamp_72 rfl ?_
          refine e_geti C fl_Mo_218 (by decide) rfl rfl d_Mo_tellDamp_73 (fun r_73 => ?_)
          try simp only [so_at, so_so, wr_so, e19'] at r_73 ⊢
          refine e_iload_n C d_Mo_tellDamp_76 rfl ?_
          refine e_iast (n := 2) C (by decide) rfl (by decide) rfl rfl (by decide) (by omega) (by omega) (by omega) d_Mo_tellDamp_77 ?_
          try simp only [so_at, so_so, wr_so, e19']
          refine e_vret C F rfl d_Mo_tellDamp_78 ?_
          exact ⟨_, rfl, hpf.fl.w2 (by decide) (by rw [z31]; omega) (by rw [z31]; omega), (Ft.mk (p := fp.2) hM g2).w (by decide) (by decide) (by decide)⟩
        · rw [g1, bnd_r] at F
          have e19' : cu m' 11 0 (t + 1) 19 0 = s := by rw [cu_f (by decide)]; exact e19
          refine e_aload_n C d_Mo_tellDamp_68 rfl ?_
          refine e_geta C fl_Mo_70 (by decide) rfl rfl d_Mo_tellDamp_69 ?_
          refine e_aload_n C d_Mo_tellDamp_72 rfl ?_
          refine e_geti C fl_Mo_218 (by decide) rfl rfl d_Mo_tellDamp_73 (fun r_73 => ?_)
          try simp only [so_at, so_so, wr_so, e19'] at r_73 ⊢
          refine e_iload_n C d_Mo_tellDamp_76 rfl ?_
          refine e_iast (n := 2) C (by decide) rfl (by decide) rfl rfl (by decide) (by omega) (by omega) (by omega) d_Mo_tellDamp_77 ?_
          try simp only [so_at, so_so, wr_so, e19']
          refine e_vret C F rfl d_Mo_tellDamp_78 ?_
          have wf : ∀ f, f ≠ 31 → f ≠ 11 → f ≠ 15 → f ≠ 16 → f ≠ 32 → cu (cu m' 11 0 (t + 1)) 31 s i f = m f := fun f c1 c2 c3 c4 c5 => by rw [cf_f c1, cf_f c2]; exact hf f c2 c3 c4 c5
          refine ⟨_, rfl, (hpf.w1 (by omega)).w2 (by decide) (by rw [z31]; omega) (by rw [z31]; omega), fun f b1 b2 => wf f (by omega) (by omega) (by omega) (by omega) (by omega), ?_, ?_, ?_, ?_, ?_, ?_, ?_⟩
          · rw [cu_f (by decide), cu_f (by decide)]; exact e13
          · rw [wf 12 (by decide) (by decide) (by decide) (by decide) (by decide)]
          · rw [cu_f (by decide), cu_s]
          · show MRp s P' c _
            refine ⟨hs, ?_, ⟨?_, ?_, ?_, ?_⟩, ?_, ?_, fun k k0 k1 => ?_, ?_, ?_⟩
            · rw [wf 19 (by decide) (by decide) (by decide) (by decide) (by decide)]; exact p19
            · rw [wf 24 (by decide) (by decide) (by decide) (by decide) (by decide), hP 3 0 (by decide) (by decide)]; exact p24
            · rw [wf 29 (by decide) (by decide) (by decide) (by decide) (by decide), hP 4 0 (by decide) (by decide)]; exact p29
            · rw [cu_s, h5]
            · rw [wf 33 (by decide) (by decide) (by decide) (by decide) (by decide), hP 6 0 (by decide) (by decide)]; exact p33
            · rw [wf 25 (by decide) (by decide) (by decide) (by decide) (by decide), wf 26 (by decide) (by decide) (by decide) (by decide) (by decide), wf 27 (by decide) (by decide) (by decide) (by decide) (by decide), wf 28 (by decide) (by decide) (by decide) (by decide) (by decide), hP 3 0 (by decide) (by decide)]
              intro p a b
              rw [hP 0 p (by decide) (by decide)]
              exact pA p a b
            · rw [wf 30 (by decide) (by decide) (by decide) (by decide) (by decide), hP 4 0 (by decide) (by decide)]; exact pG
            · rw [h5] at k1
              rw [cu_f (by decide), cu_f (by decide)]
              exact hd k k0 k1
            · rw [hP 3 0 (by decide) (by decide)]; exact pE
            · rw [hP 4 0 (by decide) (by decide)]; exact pE2
          · exact hn.same (wf 20 (by decide) (by decide) (by decide) (by decide) (by decide)) (wf 21 (by decide) (by decide) (by decide) (by decide) (by decide)) (wf 22 (by decide) (by decide) (by decide) (by decide) (by decide)) (wf 23 (by decide) (by decide) (by decide) (by decide) (by decide)) (by show x' 10 0 = _; rw [hx 10 (by decide) (by decide)]) (hx 4 (by decide) (by decide)) (hx 20 (by decide) (by decide)) (hx 21 (by decide) (by decide))
          · show NS T x' (P' 3 0)
            rw [hP 3 0 (by decide) (by decide)]
            exact hN.same (hx 5 (by decide) (by decide)) (hx 22 (by decide) (by decide)) (by rw [hx 10 (by decide) (by decide)]) (hx 21 (by decide) (by decide)) (hx 20 (by decide) (by decide))
          · exact hwx.go hT h0t.1 (by omega) rfl rfl (by rw [cu_f (by decide), cu_f (by decide)]) (by rw [cu_f (by decide), cu_f (by decide)])
      · have hv := if1_t c_14
        rw [if_pos hv] at F
        refine e_iload_n C d_Mo_tellDamp_17 rfl ?_
        refine e_bipush C d_Mo_tellDamp_18 (by decide) ?_
        refine e_icmp_ne C 28 d_Mo_tellDamp_20 (by decide) (by omega) (by omega) (fun c_20 => ?_) (fun c_20 => ?_)
        · rw [if_neg c_20] at F
          refine e_aload_n C d_Mo_tellDamp_28 rfl ?_
          refine e_geti C fl_Mo_185 (by decide) rfl rfl d_Mo_tellDamp_29 (fun r_29 => ?_)
          try simp only [so_at, so_so, wr_so, e19, e13] at r_29 ⊢
          refine e_if_le C 36 d_Mo_tellDamp_32 (by decide) (by omega) (fun c_32 => ?_) (fun c_32 => ?_)
          · refine e_aload_n C d_Mo_tellDamp_36 rfl ?_
            refine e_geta C fl_Mo_73 (by decide) rfl rfl d_Mo_tellDamp_37 ?_
            refine e_bipush C d_Mo_tellDamp_40 (by decide) ?_
            refine e_aload_n C d_Mo_tellDamp_42 rfl ?_
            refine e_geti C fl_Mo_218 (by decide) rfl rfl d_Mo_tellDamp_43 (fun r_43 => ?_)
            try simp only [so_at, so_so, wr_so, e19, e13] at r_43 ⊢
            refine e_imul C d_Mo_tellDamp_46 ?_
            refine e_iload_n C d_Mo_tellDamp_47 rfl ?_
            refine e_iadd C d_Mo_tellDamp_48 ?_
            refine e_aload_n C d_Mo_tellDamp_49 rfl ?_
            refine e_iconst C d_Mo_tellDamp_50 ?_
            refine e_bipush C d_Mo_tellDamp_51 (by decide) ?_
            refine e_callIV C ok_Mo_bounded lk_Mo_261 (o := 1) (by decide) rfl [_, _] rfl rfl (Nat.le_of_ble_eq_true rfl) (by decide) (Nat.le_of_ble_eq_true rfl) d_Mo_tellDamp_53 (k_Mo_bounded (x := x') (s := s) hM hwx.sl (by omega)) (fun v_53 u_53 q_53 h_53 => ?_)
            obtain ⟨r53, h_53⟩ := h_53
            refine e_iast (n := 48) C (by decide) rfl (by decide) rfl rfl (by decide) (by omega) (by omega) (by omega) d_Mo_tellDamp_56 ?_
            try simp only [so_at, so_so, wr_so, e19, e13]
            refine e_iinc C d_Mo_tellDamp_57 rfl (by decide) rfl ?_
            refine e_goto C 2 d_Mo_tellDamp_60 (by decide) ?_
            rcases h_53 with ⟨fp, m2, b1, rfl, b3, b4, b5⟩ | ⟨b1, b2, b3, rfl, rfl⟩
            · rw [b1, bnd_l] at F
              rw [so_at, so_so]
              exact dead fp _ (i + 1) (by omega) (by omega) (b3.w (by decide) (by decide) (by decide)) ((hpf.tr b4).w2 (by decide) (by rw [z32]; omega) (by rw [z32]; omega)) F
            · rw [b1, bnd_r] at F
              rw [so_at, so_so]
              have hwx2 := hwx.bd (most := 99) hT h0t.1 (by omega)
              refine ih (i + 1) (t + 1) _ _ _ (by omega) (by omega) (by omega) ?_ ⟨by rw [cu_f (by decide)]; exact hwx2.1, by rw [cu_f (by decide)]; exact hwx2.2.1, hwx2.2.2⟩ ?_ (fun f c1 c2 c3 c4 => ?_) (fun k k0 k1 => ?_) (fun f k c1 c2 => ?_) ?_ (fun f c1 c2 => ?_) F
              · exact hM.go (fun f hf => by rw [cf_f (by omega), cf_f (by omega), bdM_f (by omega) (by omega)]) (by rw [cu_f (by decide), cu_s]) (by rw [cu_f (by decide), cu_f (by decide), bdM_f (by decide) (by decide)]) b2 (by omega)
              · refine PF.w2 (PF.w1 ?_ (by omega)) (by decide) (by rw [z32]; omega) (by rw [z32]; omega)
                unfold bdM
                split
                · exact hpf.nt
                · exact hpf
              · rw [cf_f c4, cf_f c1, bdM_f c2 c3]; exact hf f c1 c2 c3 c4
              · rw [cu_if, cu_f (by decide), bdM_f (by decide) (by decide)]
                simp only [true_and]
                by_cases w : k = i
                · rw [if_pos (by omega), w, cu_s]
                · rw [if_neg (by omega), cu_k (by omega), cu_f (by decide)]
                  exact hd k k0 (by omega)
              · rw [cu_f c1, cu_f c2]; exact hP f k c1 c2
              · rw [cu_f (by decide), cu_s]
              · rw [← hx f c1 c2]; show (if 99 < T.2.2.1 t then noteX x' 5 (T.2.1 t) else x') f = x' f; split <;> first | exact noteX_f c1 c2 | rfl
          · exact absurd c_32 (by decide)
        · rw [if_pos c_20] at F
          have e13f : flt m' 2 (T.2.1 t) 13 0 = 2 := by unfold flt; rw [cu_f (by decide), cu_s]
          refine e_aload_n C d_Mo_tellDamp_23 rfl ?_
          refine e_iconst C d_Mo_tellDamp_24 ?_
          refine e_callVV C ok_Mo_fail lk_Mo_200 (o := 1) (by decide) rfl [_] rfl rfl (Nat.le_of_ble_eq_true rfl) (by decide) (Nat.le_of_ble_eq_true rfl) d_Mo_tellDamp_25 (k_Mo_fail hM (by omega)) (fun u_25 h_25 => ?_)
          subst h_25
          refine e_aload_n C d_Mo_tellDamp_28 rfl ?_
          refine e_geti C fl_Mo_185 (by decide) rfl rfl d_Mo_tellDamp_29 (fun r_29 => ?_)
          try simp only [so_at, e13f] at r_29 ⊢
          refine e_if_le C 36 d_Mo_tellDamp_32 (by decide) (by omega) (fun c_32 => ?_) (fun c_32 => ?_)
          · exact absurd c_32 (by decide)
          · refine e_vret C F rfl d_Mo_tellDamp_35 ?_
            exact ⟨_, rfl, hpf.fl, Ft.mk hM (by decide)⟩
end MD
/-! the reference's law -/
def BRS (m : Cs) (lo hi : Int) : Int → List Br → Prop
  | _, [] => True
  | f, b :: L => (m 37 f = if b.1 = true then 1 else 0) ∧ (b.1 = true → lo ≤ m 38 f ∧ SG m (m 38 f) b.2.1 ∧ m 39 f = m 38 f + b.2.1.length ∧ SG m (m 39 f) b.2.2.1 ∧ m 40 f = m 39 f + b.2.2.1.length) ∧ lo ≤ m 40 f ∧ SG m (m 40 f) b.2.2.2 ∧ m 41 f = m 40 f + b.2.2.2.length ∧ m 41 f ≤ hi ∧ BRS m lo hi (f + 1) L
theorem BRS.same {m m' : Cs} {lo hi hi' : Int} (hh : hi ≤ hi') (e43 : ∀ k, lo ≤ k → k < hi → m' 43 k = m 43 k ∧ m' 44 k = m 44 k) : ∀ (L : List Br) (f : Int), BRS m lo hi f L → (∀ g k, 37 ≤ g → g ≤ 41 → f ≤ k → k < f + L.length → m' g k = m g k) → BRS m' lo hi' f L
  | [], _, _, _ => trivial
  | b :: L, f, h, e => by
    have e : ∀ g k, 37 ≤ g → g ≤ 41 → f ≤ k → k < f + ((L.length + 1 : Nat) : Int) → m' g k = m g k := e
    obtain ⟨h1, h2, h3, h4, h5, h6, h7⟩ := h
    have q : ∀ g, 37 ≤ g → g ≤ 41 → m' g f = m g f := fun g a c => e g f a c (by omega) (by omega)
    refine ⟨by rw [q 37 (by decide) (by decide)]; exact h1, fun hb => ?_, by rw [q 40 (by decide) (by decide)]; exact h3, ?_, by rw [q 41 (by decide) (by decide), q 40 (by decide) (by decide)]; exact h5, by rw [q 41 (by decide) (by decide)]; omega, BRS.same hh e43 L (f + 1) h7 (fun g k a c d w => e g k a c (by omega) (by omega))⟩
    · obtain ⟨a1, a2, a3, a4, a5⟩ := h2 hb
      rw [q 38 (by decide) (by decide), q 39 (by decide) (by decide), q 40 (by decide) (by decide)]
      exact ⟨a1, a2.same (fun k x y => e43 k (by omega) (by omega)), a3, a4.same (fun k x y => e43 k (by omega) (by omega)), a5⟩
    · rw [q 40 (by decide) (by decide)]
      exact h4.same (fun k x y => e43 k (by omega) (by omega))
theorem BRS.app {m : Cs} {lo hi : Int} {b : Br} : ∀ (L : List Br) (f : Int), BRS m lo hi f L → BRS m lo hi (f + L.length) [b] → BRS m lo hi f (L ++ [b])
  | [], f, _, h => by rw [show f + ((([] : List Br).length : Nat) : Int) = f by show f + ((0 : Nat) : Int) = f; omega] at h; exact h
  | d :: L, f, h, hb => by
    obtain ⟨h1, h2, h3, h4, h5, h6, h7⟩ := h
    refine ⟨h1, h2, h3, h4, h5, h6, BRS.app L (f + 1) h7 ?_⟩
    have hb : BRS m lo hi (f + ((L.length + 1 : Nat) : Int)) [b] := hb
    rw [show f + ((L.length + 1 : Nat) : Int) = f + 1 + L.length by omega] at hb
    exact hb
section ML
variable {T : Tab} {σ : St} {m : Cs} {t s c0 b : Int}
/-- behind a term -/
def trmQ (σ : St) (s c0 b : Int) (m : Cs) (res : (Int × Int) ⊕ (Int × List Cd)) (u : St) : Prop := match res with
  | .inl fp => ∃ m', u = so σ 1 m' ∧ PF s m m' ∧ Ft fp m' ∧ m' 36 0 = b + 1 ∧ (420 * s ≤ m' 42 0 ∧ m' 42 0 ≤ 420 * s + 401)
  | .inr tp => ∃ m', u = so σ 1 m' ∧ PF s m m' ∧ m' 11 0 = tp.1 ∧ m' 13 0 = 0 ∧ m' 12 0 = 0 ∧ m' 36 0 = b + 1 ∧ m' 42 0 = c0 + tp.2.length ∧ m' 40 b = c0 ∧ m' 41 b = c0 + tp.2.length ∧ SG m' c0 tp.2 ∧ (∀ f, f ≠ 11 → f ≠ 12 → f ≠ 13 → f ≠ 14 → f ≠ 36 → f ≠ 40 → f ≠ 41 → f ≠ 42 → f ≠ 43 → f ≠ 44 → f ≠ 45 → f ≠ 46 → m' f = m f) ∧ (∀ k, k ≠ b → m' 40 k = m 40 k ∧ m' 41 k = m 41 k) ∧ ∀ k, k < c0 → m' 43 k = m 43 k ∧ m' 44 k = m 44 k
theorem sz130 : szS 37 = 130 ∧ szS 38 = 130 ∧ szS 39 = 130 ∧ szS 40 = 130 ∧ szS 41 = 130 ∧ szS 34 = 1 ∧ szS 35 = 1 := by decide
theorem k_Mo_term (hH : MH T m t) (h12 : m 12 0 = 0) (hs : 0 ≤ s ∧ s ≤ 1) (h42 : m 42 0 = c0) (hc : 420 * s ≤ c0 ∧ c0 ≤ 420 * s + t) (h36 : m 36 0 = b) (hb : 130 * s ≤ b ∧ b < 130 * s + 130) : CtV M_Mo_term [.inr (.inr (1, 0))] (so σ 1 m) (fun u => trmQ σ s c0 b m (xE T t) u) := by
  intro g C F
  have h0t := hH.2.2.2.1
  obtain ⟨z37, z38, z39, z40, z41, z34, z35⟩ := sz130
  have hH2 : MH T (cu m 40 b c0) t := hH.same (fun f hf => cf_f (by omega)) (cu_f (by decide)) (cu_f (by decide))
  have hpf2 : PF s m (cu m 40 b c0) := (PF.rf s m).w2 (by decide) (by rw [z40]; omega) (by rw [z40]; omega)
  have e13 : cu m 40 b c0 13 0 = 0 := by rw [cu_f (by decide)]; exact hH.2.2.2.2.2
  have e42' : cu m 40 b c0 42 0 = c0 := by rw [cu_f (by decide)]; exact h42
  refine e_aload_n C d_Mo_term_0 rfl ?_
  refine e_geta C fl_Mo_95 (by decide) rfl rfl d_Mo_term_1 ?_
  refine e_aload_n C d_Mo_term_4 rfl ?_
  refine e_geti C fl_Mo_224 (by decide) rfl rfl d_Mo_term_5 (fun r_5 => ?_)
  try simp only [so_at, so_so, wr_so, h36, h42, e13] at r_5 ⊢
  refine e_aload_n C d_Mo_term_8 rfl ?_
  refine e_geti C fl_Mo_227 (by decide) rfl rfl d_Mo_term_9 (fun r_9 => ?_)
  try simp only [so_at, so_so, wr_so, h36, h42, e13] at r_9 ⊢
  refine e_iast (n := 260) C (by decide) rfl (by decide) rfl rfl (by decide) (by omega) (by omega) (by omega) d_Mo_term_12 ?_
  try simp only [so_at, so_so, wr_so, h36, h42, e13]
  refine e_aload_n C d_Mo_term_13 rfl ?_
  refine e_geti C fl_Mo_185 (by decide) rfl rfl d_Mo_term_14 (fun r_14 => ?_)
  try simp only [so_at, so_so, wr_so, h36, h42, e13] at r_14 ⊢
  refine e_if_ne C 24 d_Mo_term_17 (by decide) (by omega) (fun c_17 => ?_) (fun c_17 => ?_)
  · exact absurd rfl c_17
  · refine e_aload_n C d_Mo_term_20 rfl ?_
    refine e_callVV C ok_Mo_expression lk_Mo_279 (o := 1) (by decide) rfl [] rfl rfl (Nat.le_of_ble_eq_true rfl) (by decide) (Nat.le_of_ble_eq_true rfl) d_Mo_term_21 (k_Mo_expression hH2 (by rw [cu_f (by decide)]; exact h12) hs e42' hc) (fun u_21 h_21 => ?_)
    cases hE : xE T t with
    | inl fp =>
      rw [hE] at h_21 F
      obtain ⟨m1, rfl, b2, b3, b4, b5, b6, b7⟩ := h_21
      have e36 : m1 36 0 = b := by rw [b2.1 36 (by decide) (by decide) (by decide) (by decide) (by decide) (by decide) (by decide) (by decide) (by decide), cu_f (by decide)]; exact h36
      have hpf3 := hpf2.mx b2 hc.1
      have e42b : m1 42 0 ≤ 2000 ∧ 0 ≤ m1 42 0 := by omega
      refine e_aload_n C d_Mo_term_24 rfl ?_
      refine e_geta C fl_Mo_98 (by decide) rfl rfl d_Mo_term_25 ?_
      refine e_aload_n C d_Mo_term_28 rfl ?_
      refine e_geti C fl_Mo_224 (by decide) rfl rfl d_Mo_term_29 (fun r_29 => ?_)
      try simp only [so_at, so_so, wr_so, e36, cu_s, cu_f, ne_eq, Nat.reduceEqDiff, not_false_eq_true] at r_29 ⊢
      refine e_aload_n C d_Mo_term_32 rfl ?_
      refine e_geti C fl_Mo_227 (by decide) rfl rfl d_Mo_term_33 (fun r_33 => ?_)
      try simp only [so_at, so_so, wr_so, e36, cu_s, cu_f, ne_eq, Nat.reduceEqDiff, not_false_eq_true] at r_33 ⊢
      refine e_iast (n := 260) C (by decide) rfl (by decide) rfl rfl (by decide) (by omega) (by omega) (by omega) d_Mo_term_36 ?_
      try simp only [so_at, so_so, wr_so, e36, cu_s, cu_f, ne_eq, Nat.reduceEqDiff, not_false_eq_true]
      refine e_aload_n C d_Mo_term_37 rfl ?_
      refine e_dup C d_Mo_term_38 rfl ?_
      refine e_geti C fl_Mo_224 (by decide) rfl rfl d_Mo_term_39 (fun r_39 => ?_)
      try simp only [so_at, so_so, wr_so, e36, cu_s, cu_f, ne_eq, Nat.reduceEqDiff, not_false_eq_true] at r_39 ⊢
      refine e_iconst C d_Mo_term_42 ?_
      refine e_iadd C d_Mo_term_43 ?_
      refine e_puti C fp_Mo_224 (by decide) rfl rfl (by omega) d_Mo_term_44 ?_
      try simp only [so_at, so_so, wr_so, e36, cu_s, cu_f, ne_eq, Nat.reduceEqDiff, not_false_eq_true]
      refine e_vret C F rfl d_Mo_term_47 ?_
      refine ⟨_, rfl, (hpf3.w2 (by decide) (by rw [z41]; omega) (by rw [z41]; omega)).w1 (by omega), (Ft.w (Ft.w ⟨b3, b4, b5, b6⟩ (by decide) (by decide) (by decide)) (by decide) (by decide) (by decide)), cu_s _ _ _ _, ?_⟩
      rw [cu_f (by decide), cu_f (by decide)]
      omega
    | inr tp =>
      obtain ⟨o1, o2, o3, o4, o5, o6⟩ := xE_ok hH.1 h0t.1 h0t.2 hH.2.2.2.2.1 (show xE T t = .inr (tp.1, tp.2) from hE)
      rw [hE] at h_21 F
      obtain ⟨m1, rfl, b2, b3, b4, b5, b6, b7⟩ := h_21
      have e36 : m1 36 0 = b := by rw [b2.1 36 (by decide) (by decide) (by decide) (by decide) (by decide) (by decide) (by decide) (by decide) (by decide), cu_f (by decide)]; exact h36
      have hpf3 := hpf2.mx b2 hc.1
      refine e_aload_n C d_Mo_term_24 rfl ?_
      refine e_geta C fl_Mo_98 (by decide) rfl rfl d_Mo_term_25 ?_
      refine e_aload_n C d_Mo_term_28 rfl ?_
      refine e_geti C fl_Mo_224 (by decide) rfl rfl d_Mo_term_29 (fun r_29 => ?_)
      try simp only [so_at, so_so, wr_so, e36, b6, cu_s, cu_f, ne_eq, Nat.reduceEqDiff, not_false_eq_true] at r_29 ⊢
      refine e_aload_n C d_Mo_term_32 rfl ?_
      refine e_geti C fl_Mo_227 (by decide) rfl rfl d_Mo_term_33 (fun r_33 => ?_)
      try simp only [so_at, so_so, wr_so, e36, b6, cu_s, cu_f, ne_eq, Nat.reduceEqDiff, not_false_eq_true] at r_33 ⊢
      refine e_iast (n := 260) C (by decide) rfl (by decide) rfl rfl (by decide) (by omega) (by omega) (by omega) d_Mo_term_36 ?_
      try simp only [so_at, so_so, wr_so, e36, b6, cu_s, cu_f, ne_eq, Nat.reduceEqDiff, not_false_eq_true]
      refine e_aload_n C d_Mo_term_37 rfl ?_
      refine e_dup C d_Mo_term_38 rfl ?_
      refine e_geti C fl_Mo_224 (by decide) rfl rfl d_Mo_term_39 (fun r_39 => ?_)
      try simp only [so_at, so_so, wr_so, e36, b6, cu_s, cu_f, ne_eq, Nat.reduceEqDiff, not_false_eq_true] at r_39 ⊢
      refine e_iconst C d_Mo_term_42 ?_
      refine e_iadd C d_Mo_term_43 ?_
      refine e_puti C fp_Mo_224 (by decide) rfl rfl (by omega) d_Mo_term_44 ?_
      try simp only [so_at, so_so, wr_so, e36, b6, cu_s, cu_f, ne_eq, Nat.reduceEqDiff, not_false_eq_true]
      refine e_vret C F rfl d_Mo_term_47 ?_
      have q40 : ∀ k, m1 40 k = cu m 40 b c0 40 k := fun k => by rw [b2.1 40 (by decide) (by decide) (by decide) (by decide) (by decide) (by decide) (by decide) (by decide) (by decide)]
      have q41 : ∀ k, m1 41 k = m 41 k := fun k => by rw [b2.1 41 (by decide) (by decide) (by decide) (by decide) (by decide) (by decide) (by decide) (by decide) (by decide), cu_f (by decide)]
      refine ⟨_, rfl, (hpf3.w2 (by decide) (by rw [z41]; omega) (by rw [z41]; omega)).w1 (by omega), ?_, ?_, ?_, cu_s _ _ _ _, ?_, ?_, ?_, ?_, fun f c1 c2 c3 c4 c5 c6 c7 c8 c9 c10 c11 c12 => ?_, fun k hk => ?_, fun k hk => ?_⟩
      · rw [cu_f (by decide), cu_f (by decide)]; exact b3
      · rw [cu_f (by decide), cu_f (by decide)]; exact b4
      · rw [cu_f (by decide), cu_f (by decide)]; exact b5
      · rw [cu_f (by decide), cu_f (by decide)]; exact b6
      · rw [cu_f (by decide), cu_f (by decide), q40, cu_s]
      · rw [cu_f (by decide), cu_s]
      · exact b7.same (fun k _ _ => by rw [cu_f (by decide), cu_f (by decide), cu_f (by decide), cu_f (by decide)]; exact ⟨rfl, rfl⟩)
      · rw [cf_f c5, cf_f c7, b2.1 f c1 c2 c3 c4 c8 c9 c10 c11 c12, cf_f c6]
      · rw [cu_f (by decide), cu_f (by decide), q40, cu_k hk, cu_f (by decide), cu_k hk, q41]; exact ⟨rfl, rfl⟩
      · have := b2.2 k (Or.inl hk)
        rw [cu_f (by decide), cu_f (by decide), cu_f (by decide), cu_f (by decide), this.1, this.2, cu_f (by decide), cu_f (by decide)]
        exact ⟨rfl, rfl⟩
theorem k_Mo_termF {fp : Int × Int} (hf : Ft fp m) (hs : 0 ≤ s ∧ s ≤ 1) (h36 : m 36 0 = b) (hb : 130 * s ≤ b ∧ b < 130 * s + 130) (h42 : 0 ≤ m 42 0 ∧ m 42 0 ≤ 2000) : CtV M_Mo_term [.inr (.inr (1, 0))] (so σ 1 m) (fun u => ∃ m', u = so σ 1 m' ∧ PF s m m' ∧ Ft fp m' ∧ m' 36 0 = b + 1 ∧ m' 42 0 = m 42 0) := by
  intro g C F
  have hf1 := hf.f
  obtain ⟨z37, z38, z39, z40, z41, z34, z35⟩ := sz130
  refine e_aload_n C d_Mo_term_0 rfl ?_
  refine e_geta C fl_Mo_95 (by decide) rfl rfl d_Mo_term_1 ?_
  refine e_aload_n C d_Mo_term_4 rfl ?_
  refine e_geti C fl_Mo_224 (by decide) rfl rfl d_Mo_term_5 (fun r_5 => ?_)
  try simp only [so_at, so_so, wr_so, h36, cu_s, cu_f, ne_eq, Nat.reduceEqDiff, not_false_eq_true] at r_5 ⊢
  refine e_aload_n C d_Mo_term_8 rfl ?_
  refine e_geti C fl_Mo_227 (by decide) rfl rfl d_Mo_term_9 (fun r_9 => ?_)
  try simp only [so_at, so_so, wr_so, h36, cu_s, cu_f, ne_eq, Nat.reduceEqDiff, not_false_eq_true] at r_9 ⊢
  refine e_iast (n := 260) C (by decide) rfl (by decide) rfl rfl (by decide) (by omega) (by omega) (by omega) d_Mo_term_12 ?_
  try simp only [so_at, so_so, wr_so, h36, cu_s, cu_f, ne_eq, Nat.reduceEqDiff, not_false_eq_true]
  refine e_aload_n C d_Mo_term_13 rfl ?_
  refine e_geti C fl_Mo_185 (by decide) rfl rfl d_Mo_term_14 (fun r_14 => ?_)
  try simp only [so_at, so_so, wr_so, h36, cu_s, cu_f, ne_eq, Nat.reduceEqDiff, not_false_eq_true] at r_14 ⊢
  refine e_if_ne C 24 d_Mo_term_17 (by decide) (by omega) (fun c_17 => ?_) (fun c_17 => ?_)
  · refine e_aload_n C d_Mo_term_24 rfl ?_
    refine e_geta C fl_Mo_98 (by decide) rfl rfl d_Mo_term_25 ?_
    refine e_aload_n C d_Mo_term_28 rfl ?_
    refine e_geti C fl_Mo_224 (by decide) rfl rfl d_Mo_term_29 (fun r_29 => ?_)
    try simp only [so_at, so_so, wr_so, h36, cu_s, cu_f, ne_eq, Nat.reduceEqDiff, not_false_eq_true] at r_29 ⊢
    refine e_aload_n C d_Mo_term_32 rfl ?_
    refine e_geti C fl_Mo_227 (by decide) rfl rfl d_Mo_term_33 (fun r_33 => ?_)
    try simp only [so_at, so_so, wr_so, h36, cu_s, cu_f, ne_eq, Nat.reduceEqDiff, not_false_eq_true] at r_33 ⊢
    refine e_iast (n := 260) C (by decide) rfl (by decide) rfl rfl (by decide) (by omega) (by omega) (by omega) d_Mo_term_36 ?_
    try simp only [so_at, so_so, wr_so, h36, cu_s, cu_f, ne_eq, Nat.reduceEqDiff, not_false_eq_true]
    refine e_aload_n C d_Mo_term_37 rfl ?_
    refine e_dup C d_Mo_term_38 rfl ?_
    refine e_geti C fl_Mo_224 (by decide) rfl rfl d_Mo_term_39 (fun r_39 => ?_)
    try simp only [so_at, so_so, wr_so, h36, cu_s, cu_f, ne_eq, Nat.reduceEqDiff, not_false_eq_true] at r_39 ⊢
    refine e_iconst C d_Mo_term_42 ?_
    refine e_iadd C d_Mo_term_43 ?_
    refine e_puti C fp_Mo_224 (by decide) rfl rfl (by omega) d_Mo_term_44 ?_
    try simp only [so_at, so_so, wr_so, h36, cu_s, cu_f, ne_eq, Nat.reduceEqDiff, not_false_eq_true]
    refine e_vret C F rfl d_Mo_term_47 ?_
    exact ⟨_, rfl, (((PF.rf s m).w2 (by decide) (by rw [z40]; omega) (by rw [z40]; omega)).w2 (by decide) (by rw [z41]; omega) (by rw [z41]; omega)).w1 (by omega), ((hf.w (by decide) (by decide) (by decide)).w (by decide) (by decide) (by decide)).w (by decide) (by decide) (by decide), cu_s _ _ _ _, by rw [cu_f (by decide), cu_f (by decide), cu_f (by decide)]⟩
  · exact absurd c_17 (by omega)
end ML
