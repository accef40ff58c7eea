/-! the reference: every tell -/
def MR (T : Tab) (s : Int) (z : Zs) (m : Cs) : Prop := MRp s (zp z) (zc z) m ∧ MRn T (zx z) m ∧ NS T (zx z) (zp z 3 0) ∧ WX T (zx z) m (zt z) ∧ LRw s m (zt z) (zb z) ∧ m 12 0 = 0
def tMQ (σ : St) (T : Tab) (s : Int) (m : Cs) (res : (Int × Int) ⊕ Zs) (u : St) : Prop := match res with
  | .inl fp => ∃ m', u = so σ 1 m' ∧ PF s m m' ∧ Ft fp m'
  | .inr z => ∃ m', u = so σ 1 m' ∧ PF s m m' ∧ m' 13 0 = 0 ∧ m' 11 0 = zt z ∧ MR T s z m'
def TMn (T : Tab) : Prop := ∀ j k, 0 ≤ j → j ≤ k → T.2.1 j ≤ T.2.1 k
theorem tps_mn {b : Int → Int} {z : Int} (hz : 0 ≤ z) (k : Nat) : ∀ j : Nat, tps b z k ≤ tps b z (k + j)
  | 0 => Int.le_refl _
  | j + 1 => by
    have h := tps_mn (b := b) hz k j
    have h1 := tps_in (b := b) hz (k + j)
    by_cases c : tps b z (k + j) < z
    · rw [show k + (j + 1) = k + j + 1 from rfl, tps_S c]
      have h3 := sce_ge b z tkB (tkN b z (tps b z (k + j)))
      have h4 := tkN_in (b := b) c
      omega
    · rw [show k + (j + 1) = k + j + 1 from rfl, tps_abs (k := k + j) (by omega) 1]
      exact h
theorem tbl_mn {b : Int → Int} {z : Int} (hz : 0 ≤ z) : TMn (tbl b z) := by
  intro j k h1 h2
  show tps b z j.toNat ≤ tps b z k.toNat
  rw [show k.toNat = j.toNat + (k.toNat - j.toNat) by omega]
  exact tps_mn hz _ _
section MTL
variable {T : Tab} {σ : St} {m : Cs} {s : Int}
theorem k_Mo_tellDamp {x P c : Cs} {t : Int} (hM : MH T m t) (hp : MRp s P c m) (hn : MRn T x m) (hN : NS T x (P 3 0)) (hw : WX T x m t) : CtV M_Mo_tellDamp [.inr (.inr (1, 0))] (so σ 1 m) (fun u => telD σ T s m c (zD T 25 0 t x (cu P 5 0 0)) u) := by
  intro g C F
  refine e_iconst C d_Mo_tellDamp_0 ?_
  refine e_istore_n C d_Mo_tellDamp_1 (by decide) rfl ?_
  exact l_Mo_tellDamp C hM.1 hp hn hN 25 0 t x (cu P 5 0 0) m (by omega) (by omega) (by omega) hM hw (PF.rf s m) (fun _ _ _ _ _ => rfl) (fun k k0 k1 => by omega) (fun f k a b => cu_f b) (cu_s _ _ _ _) (fun _ _ _ => rfl) F
theorem k_Mo_tellDampF {fp : Int × Int} (hf : Ft fp m) (hs : 0 ≤ s ∧ s ≤ 1) (h19 : m 19 0 = s) : CtV M_Mo_tellDamp [.inr (.inr (1, 0))] (so σ 1 m) (fun u => ∃ m', u = so σ 1 m' ∧ PF s m m' ∧ Ft fp m') := by
  intro g C F
  have hf1 := hf.f
  obtain ⟨z25, z26, z27, z28, z24, z29, z30, z31, z32, z33⟩ := sz8
  refine e_iconst C d_Mo_tellDamp_0 ?_
  refine e_istore_n C d_Mo_tellDamp_1 (by decide) rfl ?_
  refine e_aload_n C d_Mo_tellDamp_2 rfl ?_
  refine e_geti C fl_Mo_185 (by decide) rfl rfl d_Mo_tellDamp_3 (fun r_3 => ?_)
  try simp only [so_at, so_so, wr_so, h19] at r_3 ⊢
  refine e_if_ne C 63 d_Mo_tellDamp_6 (by decide) (by omega) (fun c_6 => ?_) (fun c_6 => ?_)
  · refine e_aload_n C d_Mo_tellDamp_63 rfl ?_
    refine e_iconst C d_Mo_tellDamp_64 ?_
    refine e_callVV C ok_Mo_must lk_Mo_252 (o := 1) (by decide) rfl [_] rfl rfl (Nat.le_of_ble_eq_true rfl) (by decide) (Nat.le_of_ble_eq_true rfl) d_Mo_tellDamp_65 (k_Mo_mustF hf1) (fun u_65 h_65 => ?_)
    subst h_65
    refine e_aload_n C d_Mo_tellDamp_68 rfl ?_
    refine e_geta C fl_Mo_70 (by decide) rfl rfl d_Mo_tellDamp_69 ?_
    refine e_aload_n C d_Mo_tellDamp_72 rfl ?_
    refine e_geti C fl_Mo_218 (by decide) rfl rfl d_Mo_tellDamp_73 (fun r_73 => ?_)
    try simp only [so_at, so_so, wr_so, h19] at r_73 ⊢
    refine e_iload_n C d_Mo_tellDamp_76 rfl ?_
    refine e_iast (n := 2) C (by decide) rfl (by decide) rfl rfl (by decide) (by omega) (by omega) (by omega) d_Mo_tellDamp_77 ?_
    try simp only [so_at, so_so, wr_so, h19]
    refine e_vret C F rfl d_Mo_tellDamp_78 ?_
    exact ⟨_, rfl, (PF.rf s m).w2 (by decide) (by rw [z31]; omega) (by rw [z31]; omega), hf.w (by decide) (by decide) (by decide)⟩
  · exact absurd c_6 (by omega)
set_option maxHeartbeats 4000000 in
theorem k_Mo_tell {z : Zs} (hmn : TMn T) (hM : MH T m (zt z)) (hz : ZJ T z) (hR : MR T s z m) : CtV M_Mo_tell [.inr (.inr (1, 0))] (so σ 1 m) (fun u => tMQ σ T s m (zTell T z) u) := by
  intro g C F
  obtain ⟨t, x, P, l, c, L⟩ := z
  obtain ⟨hp, hn, hN, hw, hL, h12⟩ := hR
  obtain ⟨_, _, j3, j4, j5, _, _, _⟩ := hz
  have hM : MH T m t := hM
  have hp : MRp s P c m := hp
  have hn : MRn T x m := hn
  have hN : NS T x (P 3 0) := hN
  have hw : WX T x m t := hw
  have hL : LRw s m t L := hL
  have j3 : 0 ≤ P 3 0 ∧ P 3 0 ≤ 8 := j3
  have j4 : 0 ≤ P 4 0 ∧ P 4 0 ≤ 12 := j4
  have j5 : x 10 0 = P 3 0 + P 4 0 := j5
  have hs := hp.1
  have p19 := hp.2.1
  have p24 := hp.2.2.1.1
  have p29 := hp.2.2.1.2.1
  have e5 := hM.tok.1
  have e11 := hM.2.2.1
  have h0 := hM.2.2.2.1
  have hmr := hM.mk
  have hkr := hM.1.k t
  obtain ⟨z25, z26, z27, z28, z24, z29, z30, z31, z32, z33⟩ := sz8
  rw [zTell_e] at F
  have kk : ∀ k ∈ kds, mk (T.1 t) = mk k → T.1 t = k := fun k hk e => (mk_iff hM.1 hk).mp e
  have f13 : flt m 2 (T.2.1 t) 13 0 = 2 := by unfold flt; rw [cu_f (by decide), cu_s]
  have hft2 : Ft (2, T.2.1 t) (flt m 2 (T.2.1 t)) := Ft.mk hM (by decide)
  have hM1 : t < 400 → T.1 t ≠ 128 → MH T (cu m 11 0 (t + 1)) (t + 1) := fun a b => hM.go (fun f hf => cf_f (by omega)) (cu_s _ _ _ _) (cu_f (by decide)) a b
  have hw1 : T.1 t ≠ 128 → WX T x (cu m 11 0 (t + 1)) (t + 1) := fun b => hw.go hM.1 h0.1 b rfl rfl (cu_f (by decide)) (cu_f (by decide))
  have hp1 : MRp s P c (cu m 11 0 (t + 1)) := hp.same (fun f hf => cf_f (by omega))
  have hn1 : MRn T x (cu m 11 0 (t + 1)) := hn.same (cf_f (by decide)) (cf_f (by decide)) (cf_f (by decide)) (cf_f (by decide)) rfl rfl rfl rfl
  have c13 : cu m 11 0 (t + 1) 13 0 = 0 := by rw [cu_f (by decide)]; exact hM.2.2.2.2.2
  have pf1 : PF s m (cu m 11 0 (t + 1)) := (PF.rf s m).w1 (by omega)
  have sm1 : SmL m (cu m 11 0 (t + 1)) := (SmL.rf m).w (by decide)
  have bad : ∀ m', (¬ T.1 t = 137 ∧ ¬ T.1 t = 138 ∧ ¬ T.1 t = 140 ∧ ¬ T.1 t = 144 ∧ ¬ T.1 t = 145) → m' = flt m 1 (T.2.1 t) → tMQ σ T s m (if T.1 t = 137 then bnd (zPost T t x P c) fun p => .inr (p.1, p.2.1, p.2.2.1, l, p.2.2.2, L)
    else if T.1 t = 138 then bnd (zGuard T t x P c) fun p => .inr (p.1, p.2.1, p.2.2.1, l, p.2.2.2, L)
    else if T.1 t = 140 then bnd (zFlow T t) fun p => .inr (p.1, x, P, lawOf l p.2, c, p.2)
    else if T.1 t = 144 then bnd (zDamp T t x P) fun p => .inr (p.1, p.2.1, p.2.2, l, c, L)
    else if T.1 t = 145 then bnd (zSleep T t x P) fun p => .inr (p.1, p.2.1, p.2.2, l, c, L)
    else .inl (1, T.2.1 t)) (so σ 1 m') := by
    intro m' h hm
    rw [if_neg h.1, if_neg h.2.1, if_neg h.2.2.1, if_neg h.2.2.2.1, if_neg h.2.2.2.2, hm]
    exact ⟨_, rfl, (PF.rf s m).fl, Ft.mk hM (by decide)⟩
  refine e_aload_n C d_Mo_tell_0 rfl ?_
  refine e_geta C fl_Mo_20 (by decide) rfl rfl d_Mo_tell_1 ?_
  refine e_aload_n C d_Mo_tell_4 rfl ?_
  refine e_geti C fl_Mo_188 (by decide) rfl rfl d_Mo_tell_5 (fun r_5 => ?_)
  try simp only [so_at, e11, e5, p19, p24, p29] at r_5 ⊢
  refine e_iald (n := 403) C (by decide) rfl (by decide) rfl rfl (by decide) (by omega) (by omega) d_Mo_tell_8 (fun r_8 => ?_)
  try simp only [so_at, e11, e5, p19, p24, p29] at r_8 ⊢
  by_cases s_9 : mk (T.1 t) < 20 ∨ 25 < mk (T.1 t)
  · refine e_tableOut C 162 d_Mo_tell_9 (by omega) (by omega) (by decide) ?_
    refine e_aload_n C d_Mo_tell_162 rfl ?_
    refine e_iconst C d_Mo_tell_163 ?_
    refine e_callVV C ok_Mo_fail lk_Mo_200 (o := 1) (by decide) rfl [_] rfl rfl (Nat.le_of_ble_eq_true rfl) (by decide) (Nat.le_of_ble_eq_true rfl) d_Mo_tell_164 (k_Mo_fail hM (by omega)) (fun u_164 h_164 => ?_)
    subst h_164
    refine e_vret C F rfl d_Mo_tell_167 ?_
    refine bad _ ?_ rfl
    have u1 : T.1 t = 137 → mk (T.1 t) = 20 := fun z => by rw [z]; decide
    have u2 : T.1 t = 138 → mk (T.1 t) = 21 := fun z => by rw [z]; decide
    have u3 : T.1 t = 140 → mk (T.1 t) = 23 := fun z => by rw [z]; decide
    have u4 : T.1 t = 144 → mk (T.1 t) = 24 := fun z => by rw [z]; decide
    have u5 : T.1 t = 145 → mk (T.1 t) = 25 := fun z => by rw [z]; decide
    refine ⟨fun z => ?_, fun z => ?_, fun z => ?_, fun z => ?_, fun z => ?_⟩
    · have := u1 z; omega
    · have := u2 z; omega
    · have := u3 z; omega
    · have := u4 z; omega
    · have := u5 z; omega
  · rcases (show mk (T.1 t) = 20 ∨ mk (T.1 t) = 21 ∨ mk (T.1 t) = 22 ∨ mk (T.1 t) = 23 ∨ mk (T.1 t) = 24 ∨ mk (T.1 t) = 25 by omega) with s_9_ | s_9_ | s_9_ | s_9_ | s_9_ | s_9_
    · refine e_tableIn (off := 39) C 48 d_Mo_tell_9 (by omega) (by omega) (by omega) (by rw [s_9_]; rfl) (by decide) ?_
      refine e_aload_n C d_Mo_tell_48 rfl ?_
      refine e_aload_n C d_Mo_tell_49 rfl ?_
      refine e_geta C fl_Mo_49 (by decide) rfl rfl d_Mo_tell_50 ?_
      refine e_aload_n C d_Mo_tell_53 rfl ?_
      refine e_geti C fl_Mo_218 (by decide) rfl rfl d_Mo_tell_54 (fun r_54 => ?_)
      try simp only [so_at, e11, e5, p19, p24, p29] at r_54 ⊢
      refine e_iald (n := 2) C (by decide) rfl (by decide) rfl rfl (by decide) (by omega) (by omega) d_Mo_tell_57 (fun r_57 => ?_)
      try simp only [so_at, e11, e5, p19, p24, p29] at r_57 ⊢
      refine e_bipush C d_Mo_tell_58 (by decide) ?_
      refine e_callVV C ok_Mo_roomFor lk_Mo_242 (o := 1) (by decide) rfl [_, _] rfl rfl (Nat.le_of_ble_eq_true rfl) (by decide) (Nat.le_of_ble_eq_true rfl) d_Mo_tell_60 (k_Mo_roomFor hM (by omega) (by omega)) (fun u_60 h_60 => ?_)
      have hk : T.1 t = 137 := kk 137 (by decide) (by rw [s_9_]; decide)
      rw [if_pos hk] at F
      rcases h_60 with ⟨a1, rfl⟩ | ⟨a1, a2, rfl⟩ | ⟨a1, a2, rfl⟩
      · rw [show zPost T t x P c = .inl (2, T.2.1 t) by unfold zPost; rw [if_pos (by omega)], bnd_l] at F
        refine e_aload_n C d_Mo_tell_63 rfl ?_
        refine e_geti C fl_Mo_185 (by decide) rfl rfl d_Mo_tell_64 (fun r_64 => ?_)
        try simp only [so_at, f13] at r_64 ⊢
        refine e_if_ne C 167 d_Mo_tell_67 (by decide) (by omega) (fun c_67 => ?_) (fun c_67 => ?_)
        · refine e_vret C F rfl d_Mo_tell_167 ?_
          exact ⟨_, rfl, (PF.rf s m).fl, hft2⟩
        · exact absurd c_67 (by decide)
      · rw [show zPost T t x P c = .inl (2, T.2.1 t) by unfold zPost pGo; rw [if_neg (by omega), if_pos (by omega), bnd_l], bnd_l] at F
        refine e_aload_n C d_Mo_tell_63 rfl ?_
        refine e_geti C fl_Mo_185 (by decide) rfl rfl d_Mo_tell_64 (fun r_64 => ?_)
        try simp only [so_at, f13] at r_64 ⊢
        refine e_if_ne C 167 d_Mo_tell_67 (by decide) (by omega) (fun c_67 => ?_) (fun c_67 => ?_)
        · refine e_vret C F rfl d_Mo_tell_167 ?_
          exact ⟨_, rfl, (PF.rf s m).fl, hft2⟩
        · exact absurd c_67 (by decide)
      · have z63 := c13
        refine e_aload_n C d_Mo_tell_63 rfl ?_
        refine e_geti C fl_Mo_185 (by decide) rfl rfl d_Mo_tell_64 (fun r_64 => ?_)
        try simp only [so_at, c13] at r_64 ⊢
        refine e_if_ne C 167 d_Mo_tell_67 (by decide) (by omega) (fun c_67 => ?_) (fun c_67 => ?_)
        · exact absurd rfl c_67
        · refine e_aload_n C d_Mo_tell_70 rfl ?_
          refine e_callVV C ok_Mo_tellPost lk_Mo_246 (o := 1) (by decide) rfl [] rfl rfl (Nat.le_of_ble_eq_true rfl) (by decide) (Nat.le_of_ble_eq_true rfl) d_Mo_tell_71 (k_Mo_tellPost (s := s) (x := x) (P := P) (c := c) (hM1 a2 (by omega)) h0.1 (by omega) hp1 hn1 (by omega) hN (hw1 (by omega)) (by unfold pGo; rw [if_neg (by omega)])) (fun u_71 h_71 => ?_)
          refine e_goto C 167 d_Mo_tell_74 (by decide) ?_
          refine e_vret C F rfl d_Mo_tell_167 ?_
          revert h_71
          cases hE : zPost T t x P c with
          | inl fp => exact fun ⟨m2, e, a, b⟩ => ⟨m2, e, pf1.tr a, b⟩
          | inr q =>
            have hq : t ≤ q.1 := by
              obtain ⟨_, _, _, _, _, _, _, _, _, _, _, _, a, _⟩ := zPost_i hE; omega
            exact fun ⟨m2, e, a, b, d1, d2, d3, d4, d5, d6, d7⟩ => ⟨m2, e, pf1.tr a, d1, d3, d4, d5, d6, d7, hL.same (fun f a1 a2 => by rw [b f a1 a2, sm1 f a1 a2]) hq, by rw [d2, cu_f (by decide)]; exact h12⟩
    · refine e_tableIn (off := 68) C 77 d_Mo_tell_9 (by omega) (by omega) (by omega) (by rw [s_9_]; rfl) (by decide) ?_
      refine e_aload_n C d_Mo_tell_77 rfl ?_
      refine e_aload_n C d_Mo_tell_78 rfl ?_
      refine e_geta C fl_Mo_64 (by decide) rfl rfl d_Mo_tell_79 ?_
      refine e_aload_n C d_Mo_tell_82 rfl ?_
      refine e_geti C fl_Mo_218 (by decide) rfl rfl d_Mo_tell_83 (fun r_83 => ?_)
      try simp only [so_at, e11, e5, p19, p24, p29] at r_83 ⊢
      refine e_iald (n := 2) C (by decide) rfl (by decide) rfl rfl (by decide) (by omega) (by omega) d_Mo_tell_86 (fun r_86 => ?_)
      try simp only [so_at, e11, e5, p19, p24, p29] at r_86 ⊢
      refine e_bipush C d_Mo_tell_87 (by decide) ?_
      refine e_callVV C ok_Mo_roomFor lk_Mo_242 (o := 1) (by decide) rfl [_, _] rfl rfl (Nat.le_of_ble_eq_true rfl) (by decide) (Nat.le_of_ble_eq_true rfl) d_Mo_tell_89 (k_Mo_roomFor hM (by omega) (by omega)) (fun u_89 h_89 => ?_)
      have hk : T.1 t = 138 := kk 138 (by decide) (by rw [s_9_]; decide)
      rw [if_neg (by omega), if_pos hk] at F
      rcases h_89 with ⟨a1, rfl⟩ | ⟨a1, a2, rfl⟩ | ⟨a1, a2, rfl⟩
      · rw [show zGuard T t x P c = .inl (2, T.2.1 t) by unfold zGuard; rw [if_pos (by omega)], bnd_l] at F
        refine e_aload_n C d_Mo_tell_92 rfl ?_
        refine e_geti C fl_Mo_185 (by decide) rfl rfl d_Mo_tell_93 (fun r_93 => ?_)
        try simp only [so_at, f13] at r_93 ⊢
        refine e_if_ne C 167 d_Mo_tell_96 (by decide) (by omega) (fun c_96 => ?_) (fun c_96 => ?_)
        · refine e_vret C F rfl d_Mo_tell_167 ?_
          exact ⟨_, rfl, (PF.rf s m).fl, hft2⟩
        · exact absurd c_96 (by decide)
      · rw [show zGuard T t x P c = .inl (2, T.2.1 t) by unfold zGuard pGo; rw [if_neg (by omega), if_pos (by omega), bnd_l], bnd_l] at F
        refine e_aload_n C d_Mo_tell_92 rfl ?_
        refine e_geti C fl_Mo_185 (by decide) rfl rfl d_Mo_tell_93 (fun r_93 => ?_)
        try simp only [so_at, f13] at r_93 ⊢
        refine e_if_ne C 167 d_Mo_tell_96 (by decide) (by omega) (fun c_96 => ?_) (fun c_96 => ?_)
        · refine e_vret C F rfl d_Mo_tell_167 ?_
          exact ⟨_, rfl, (PF.rf s m).fl, hft2⟩
        · exact absurd c_96 (by decide)
      · have z92 := c13
        refine e_aload_n C d_Mo_tell_92 rfl ?_
        refine e_geti C fl_Mo_185 (by decide) rfl rfl d_Mo_tell_93 (fun r_93 => ?_)
        try simp only [so_at, c13] at r_93 ⊢
        refine e_if_ne C 167 d_Mo_tell_96 (by decide) (by omega) (fun c_96 => ?_) (fun c_96 => ?_)
        · exact absurd rfl c_96
        · refine e_aload_n C d_Mo_tell_99 rfl ?_
          refine e_callVV C ok_Mo_tellGuard lk_Mo_249 (o := 1) (by decide) rfl [] rfl rfl (Nat.le_of_ble_eq_true rfl) (by decide) (Nat.le_of_ble_eq_true rfl) d_Mo_tell_100 (k_Mo_tellGuard (s := s) (x := x) (P := P) (c := c) (hM1 a2 (by omega)) h0.1 j3 (by omega) hp1 hn1 (by omega) hN (hw1 (by omega)) (by unfold pGo; rw [if_neg (by omega)])) (fun u_100 h_100 => ?_)
          refine e_goto C 167 d_Mo_tell_103 (by decide) ?_
          refine e_vret C F rfl d_Mo_tell_167 ?_
          revert h_100
          cases hE : zGuard T t x P c with
          | inl fp => exact fun ⟨m2, e, a, b⟩ => ⟨m2, e, pf1.tr a, b⟩
          | inr q =>
            have hq : t ≤ q.1 := by
              rcases (zGuard_i hE).2.2.2 with ⟨_, _, _, _, a, _⟩ | ⟨_, _, a, _⟩ <;> omega
            exact fun ⟨m2, e, a, b, d1, d2, d3, d4, d5, d6, d7⟩ => ⟨m2, e, pf1.tr a, d1, d3, d4, d5, d6, d7, hL.same (fun f a1 a2 => by rw [b f a1 a2, sm1 f a1 a2]) hq, by rw [d2, cu_f (by decide)]; exact h12⟩
    · refine e_tableIn (off := 153) C 162 d_Mo_tell_9 (by omega) (by omega) (by omega) (by rw [s_9_]; rfl) (by decide) ?_
      refine e_aload_n C d_Mo_tell_162 rfl ?_
      refine e_iconst C d_Mo_tell_163 ?_
      refine e_callVV C ok_Mo_fail lk_Mo_200 (o := 1) (by decide) rfl [_] rfl rfl (Nat.le_of_ble_eq_true rfl) (by decide) (Nat.le_of_ble_eq_true rfl) d_Mo_tell_164 (k_Mo_fail hM (by omega)) (fun u_164 h_164 => ?_)
      subst h_164
      refine e_vret C F rfl d_Mo_tell_167 ?_
      refine bad _ ?_ rfl
      have u1 : T.1 t = 137 → mk (T.1 t) = 20 := fun z => by rw [z]; decide
      have u2 : T.1 t = 138 → mk (T.1 t) = 21 := fun z => by rw [z]; decide
      have u3 : T.1 t = 140 → mk (T.1 t) = 23 := fun z => by rw [z]; decide
      have u4 : T.1 t = 144 → mk (T.1 t) = 24 := fun z => by rw [z]; decide
      have u5 : T.1 t = 145 → mk (T.1 t) = 25 := fun z => by rw [z]; decide
      refine ⟨fun z => ?_, fun z => ?_, fun z => ?_, fun z => ?_, fun z => ?_⟩
      · have := u1 z; omega
      · have := u2 z; omega
      · have := u3 z; omega
      · have := u4 z; omega
      · have := u5 z; omega
    · refine e_tableIn (off := 97) C 106 d_Mo_tell_9 (by omega) (by omega) (by omega) (by rw [s_9_]; rfl) (by decide) ?_
      refine e_aload_n C d_Mo_tell_106 rfl ?_
      refine e_callVV C ok_Mo_goesOn lk_Mo_206 (o := 1) (by decide) rfl [] rfl rfl (Nat.le_of_ble_eq_true rfl) (by decide) (Nat.le_of_ble_eq_true rfl) d_Mo_tell_107 (k_Mo_goesOn hM) (fun u_107 h_107 => ?_)
      have hk : T.1 t = 140 := kk 140 (by decide) (by rw [s_9_]; decide)
      rw [if_neg (by omega), if_neg (by omega), if_pos hk] at F
      have hl1 := hL.1
      have hl2 := hL.2.1
      unfold zFlow at F
      rcases h_107 with ⟨a1, rfl⟩ | ⟨a1, rfl⟩
      · rw [show pGo T t = .inl (2, T.2.1 t) by unfold pGo; rw [if_pos (by omega)], bnd_l, bnd_l] at F
        refine e_aload_n C d_Mo_tell_110 rfl ?_
        refine e_iconst C d_Mo_tell_111 ?_
        refine e_callVV C ok_Mo_must lk_Mo_252 (o := 1) (by decide) rfl [_] rfl rfl (Nat.le_of_ble_eq_true rfl) (by decide) (Nat.le_of_ble_eq_true rfl) d_Mo_tell_112 (k_Mo_mustF hft2.f) (fun u_112 h_112 => ?_)
        subst h_112
        refine e_aload_n C d_Mo_tell_115 rfl ?_
        refine e_callVV C ok_Mo_tellLaw lk_Mo_255 (o := 1) (by decide) rfl [] rfl rfl (Nat.le_of_ble_eq_true rfl) (by decide) (Nat.le_of_ble_eq_true rfl) d_Mo_tell_116 (k_Mo_tellLawF (s := s) hft2 hs (by unfold flt; rw [cu_f (by decide), cu_f (by decide)]; omega) (by unfold flt; rw [cu_f (by decide), cu_f (by decide)]; omega)) (fun u_116 h_116 => ?_)
        obtain ⟨m2, rfl, q1, q2⟩ := h_116
        refine e_goto C 167 d_Mo_tell_119 (by decide) ?_
        refine e_vret C F rfl d_Mo_tell_167 ?_
        exact ⟨m2, rfl, (PF.rf s m).fl.tr q1, q2⟩
      · rw [show pGo T t = .inr (t + 1) by unfold pGo; rw [if_neg (by omega)], bnd_r] at F
        refine e_aload_n C d_Mo_tell_110 rfl ?_
        refine e_iconst C d_Mo_tell_111 ?_
        refine e_callVV C ok_Mo_must lk_Mo_252 (o := 1) (by decide) rfl [_] rfl rfl (Nat.le_of_ble_eq_true rfl) (by decide) (Nat.le_of_ble_eq_true rfl) d_Mo_tell_112 (k_Mo_must (hM1 a1 (by omega)) (k' := 61) (by decide) (by decide)) (fun u_112 h_112 => ?_)
        rcases h_112 with ⟨fp, r1, r2, rfl⟩ | ⟨r1, r2, r3, rfl⟩
        · rw [r1, bnd_l, bnd_l] at F
          have hft : Ft (fp.1, fp.2) (flt (cu m 11 0 (t + 1)) fp.1 fp.2) := Ft.mk (hM1 a1 (by omega)) r2
          refine e_aload_n C d_Mo_tell_115 rfl ?_
          refine e_callVV C ok_Mo_tellLaw lk_Mo_255 (o := 1) (by decide) rfl [] rfl rfl (Nat.le_of_ble_eq_true rfl) (by decide) (Nat.le_of_ble_eq_true rfl) d_Mo_tell_116 (k_Mo_tellLawF (s := s) hft hs (by unfold flt; rw [cu_f (by decide), cu_f (by decide), cu_f (by decide)]; omega) (by unfold flt; rw [cu_f (by decide), cu_f (by decide), cu_f (by decide)]; omega)) (fun u_116 h_116 => ?_)
          obtain ⟨m2, rfl, q1, q2⟩ := h_116
          refine e_goto C 167 d_Mo_tell_119 (by decide) ?_
          refine e_vret C F rfl d_Mo_tell_167 ?_
          exact ⟨m2, rfl, pf1.fl.tr q1, q2⟩
        · rw [r1, bnd_r] at F
          have ef : ∀ f, f ≠ 11 → cu (cu m 11 0 (t + 1)) 11 0 (t + 1 + 1) f = m f := fun f a => by rw [cf_f a, cf_f a]
          have hM2 : MH T (cu (cu m 11 0 (t + 1)) 11 0 (t + 1 + 1)) (t + 1 + 1) := (hM1 a1 (by omega)).go (fun f hf => cf_f (by omega)) (cu_s _ _ _ _) (cu_f (by decide)) r2 (by omega)
          refine e_aload_n C d_Mo_tell_115 rfl ?_
          refine e_callVV C ok_Mo_tellLaw lk_Mo_255 (o := 1) (by decide) rfl [] rfl rfl (Nat.le_of_ble_eq_true rfl) (by decide) (Nat.le_of_ble_eq_true rfl) d_Mo_tell_116 (k_Mo_tellLaw (s := s) hM2 (by rw [ef 12 (by decide)]; exact h12) hs (by rw [ef 19 (by decide)]; exact p19) (by rw [ef 36 (by decide)]; omega) (by rw [ef 42 (by decide)]; omega)) (fun u_116 h_116 => ?_)
          refine e_goto C 167 d_Mo_tell_119 (by decide) ?_
          refine e_vret C F rfl d_Mo_tell_167 ?_
          revert h_116
          cases hE : zL T 4 (t + 1 + 1) [] with
          | inl fp => exact fun ⟨m2, e, a, b⟩ => ⟨m2, e, (pf1.w1 (by omega)).tr a, b⟩
          | inr q =>
            obtain ⟨v1, v2, v3, _⟩ := zL_ok hM.1 4 (t + 1 + 1) q.1 [] q.2 (by omega) hM2.2.2.2.2.1 hE
            exact fun ⟨m2, e, a, b1, b2, b3, b4, b5⟩ => ⟨m2, e, (pf1.w1 (by omega)).tr a, b1, b3, hp.same (fun f hf => by rw [b4 f (by omega), ef f (by omega)]), hn.same (by rw [b4 20 (by decide), ef 20 (by decide)]) (by rw [b4 21 (by decide), ef 21 (by decide)]) (by rw [b4 22 (by decide), ef 22 (by decide)]) (by rw [b4 23 (by decide), ef 23 (by decide)]) rfl rfl rfl rfl, hN, (by
              have h1 := hw1 (show T.1 t ≠ 128 by omega)
              have h2 : WX T x (cu (cu m 11 0 (t + 1)) 11 0 (t + 1 + 1)) (t + 1 + 1) := h1.go hM.1 (by omega) (by omega) rfl rfl (cu_f (by decide)) (cu_f (by decide))
              obtain ⟨g1, g2, g3⟩ := h2
              refine ⟨by rw [b4 15 (by decide)]; exact g1, by rw [b4 16 (by decide)]; exact g2, ?_⟩
              rcases g3 with g3 | g3
              · exact Or.inl g3
              · right
                have := hmn (t + 1 + 1) q.1 (by omega) (by omega)
                show x 16 0 < T.2.1 q.1
                omega), b5, b2⟩
    · refine e_tableIn (off := 113) C 122 d_Mo_tell_9 (by omega) (by omega) (by omega) (by rw [s_9_]; rfl) (by decide) ?_
      refine e_aload_n C d_Mo_tell_122 rfl ?_
      refine e_callVV C ok_Mo_goesOn lk_Mo_206 (o := 1) (by decide) rfl [] rfl rfl (Nat.le_of_ble_eq_true rfl) (by decide) (Nat.le_of_ble_eq_true rfl) d_Mo_tell_123 (k_Mo_goesOn hM) (fun u_123 h_123 => ?_)
      have hk : T.1 t = 144 := kk 144 (by decide) (by rw [s_9_]; decide)
      rw [if_neg (by omega), if_neg (by omega), if_neg (by omega), if_pos hk] at F
      unfold zDamp at F
      rcases h_123 with ⟨a1, rfl⟩ | ⟨a1, rfl⟩
      · rw [show pGo T t = .inl (2, T.2.1 t) by unfold pGo; rw [if_pos (by omega)], bnd_l, bnd_l] at F
        refine e_aload_n C d_Mo_tell_126 rfl ?_
        refine e_callVV C ok_Mo_tellDamp lk_Mo_258 (o := 1) (by decide) rfl [] rfl rfl (Nat.le_of_ble_eq_true rfl) (by decide) (Nat.le_of_ble_eq_true rfl) d_Mo_tell_127 (k_Mo_tellDampF (s := s) hft2 hs (by unfold flt; rw [cu_f (by decide), cu_f (by decide)]; exact p19)) (fun u_127 h_127 => ?_)
        obtain ⟨m2, rfl, q1, q2⟩ := h_127
        refine e_goto C 167 d_Mo_tell_130 (by decide) ?_
        refine e_vret C F rfl d_Mo_tell_167 ?_
        exact ⟨m2, rfl, (PF.rf s m).fl.tr q1, q2⟩
      · rw [show pGo T t = .inr (t + 1) by unfold pGo; rw [if_neg (by omega)], bnd_r] at F
        refine e_aload_n C d_Mo_tell_126 rfl ?_
        refine e_callVV C ok_Mo_tellDamp lk_Mo_258 (o := 1) (by decide) rfl [] rfl rfl (Nat.le_of_ble_eq_true rfl) (by decide) (Nat.le_of_ble_eq_true rfl) d_Mo_tell_127 (k_Mo_tellDamp (s := s) (x := x) (P := P) (c := c) (hM1 a1 (by omega)) hp1 hn1 hN (hw1 (by omega))) (fun u_127 h_127 => ?_)
        refine e_goto C 167 d_Mo_tell_130 (by decide) ?_
        refine e_vret C F rfl d_Mo_tell_167 ?_
        revert h_127
        cases hE : zD T 25 0 (t + 1) x (cu P 5 0 0) with
        | inl fp => exact fun ⟨m2, e, a, b⟩ => ⟨m2, e, pf1.tr a, b⟩
        | inr q =>
          have hq : t ≤ q.1 := by
            obtain ⟨_, t', _, _, g3, _, _, _, g10⟩ := zD_ind (T := T) (R := fun _ _ _ _ => True) (fun _ _ _ _ _ _ _ _ _ _ => trivial) 25 0 (t + 1) x (cu P 5 0 0) q (by omega) (by omega) (by omega) trivial hE; omega
          exact fun ⟨m2, e, a, b, d1, d2, d3, d4, d5, d6, d7⟩ => ⟨m2, e, pf1.tr a, d1, d3, d4, d5, d6, d7, hL.same (fun f a1 a2 => by rw [b f a1 a2, sm1 f a1 a2]) hq, by rw [d2, cu_f (by decide)]; exact h12⟩
    · refine e_tableIn (off := 124) C 133 d_Mo_tell_9 (by omega) (by omega) (by omega) (by rw [s_9_]; rfl) (by decide) ?_
      refine e_aload_n C d_Mo_tell_133 rfl ?_
      refine e_callVV C ok_Mo_goesOn lk_Mo_206 (o := 1) (by decide) rfl [] rfl rfl (Nat.le_of_ble_eq_true rfl) (by decide) (Nat.le_of_ble_eq_true rfl) d_Mo_tell_134 (k_Mo_goesOn hM) (fun u_134 h_134 => ?_)
      have hk : T.1 t = 145 := kk 145 (by decide) (by rw [s_9_]; decide)
      rw [if_neg (by omega), if_neg (by omega), if_neg (by omega), if_neg (by omega), if_pos hk] at F
      unfold zSleep at F
      rcases h_134 with ⟨a1, rfl⟩ | ⟨a1, rfl⟩
      · rw [show pGo T t = .inl (2, T.2.1 t) by unfold pGo; rw [if_pos (by omega)], bnd_l, bnd_l] at F
        have e19f : flt m 2 (T.2.1 t) 19 0 = s := by unfold flt; rw [cu_f (by decide), cu_f (by decide)]; exact p19
        refine e_aload_n C d_Mo_tell_137 rfl ?_
        refine e_geta C fl_Mo_76 (by decide) rfl rfl d_Mo_tell_138 ?_
        refine e_aload_n C d_Mo_tell_141 rfl ?_
        refine e_geti C fl_Mo_218 (by decide) rfl rfl d_Mo_tell_142 (fun r_142 => ?_)
        try simp only [so_at, so_so, wr_so, e19f] at r_142 ⊢
        refine e_aload_n C d_Mo_tell_145 rfl ?_
        refine e_iconst C d_Mo_tell_146 ?_
        refine e_sipush C d_Mo_tell_147 (by decide) ?_
        refine e_callIV C ok_Mo_bounded lk_Mo_261 (o := 1) (by decide) rfl [_, _] rfl rfl (Nat.le_of_ble_eq_true rfl) (by decide) (Nat.le_of_ble_eq_true rfl) d_Mo_tell_150 (k_Mo_boundedF hft2.f) (fun v_150 u_150 q_150 h_150 => ?_)
        obtain ⟨rfl, rfl⟩ := h_150
        refine e_iast (n := 2) C (by decide) rfl (by decide) rfl rfl (by decide) (by omega) (by omega) (by omega) d_Mo_tell_153 ?_
        try simp only [so_at, so_so, wr_so, e19f]
        refine e_aload_n C d_Mo_tell_154 rfl ?_
        refine e_iconst C d_Mo_tell_155 ?_
        refine e_callVV C ok_Mo_must lk_Mo_252 (o := 1) (by decide) rfl [_] rfl rfl (Nat.le_of_ble_eq_true rfl) (by decide) (Nat.le_of_ble_eq_true rfl) d_Mo_tell_156 (k_Mo_mustF (by rw [cu_f (by decide)]; exact hft2.f)) (fun u_156 h_156 => ?_)
        subst h_156
        refine e_goto C 167 d_Mo_tell_159 (by decide) ?_
        refine e_vret C F rfl d_Mo_tell_167 ?_
        exact ⟨_, rfl, (PF.rf s m).fl.w2 (by decide) (by rw [z33]; omega) (by rw [z33]; omega), hft2.w (by decide) (by decide) (by decide)⟩
      · rw [show pGo T t = .inr (t + 1) by unfold pGo; rw [if_neg (by omega)], bnd_r] at F
        have e19c : cu m 11 0 (t + 1) 19 0 = s := by rw [cu_f (by decide)]; exact p19
        refine e_aload_n C d_Mo_tell_137 rfl ?_
        refine e_geta C fl_Mo_76 (by decide) rfl rfl d_Mo_tell_138 ?_
        refine e_aload_n C d_Mo_tell_141 rfl ?_
        refine e_geti C fl_Mo_218 (by decide) rfl rfl d_Mo_tell_142 (fun r_142 => ?_)
        try simp only [so_at, so_so, wr_so, e19c] at r_142 ⊢
        refine e_aload_n C d_Mo_tell_145 rfl ?_
        refine e_iconst C d_Mo_tell_146 ?_
        refine e_sipush C d_Mo_tell_147 (by decide) ?_
        refine e_callIV C ok_Mo_bounded lk_Mo_261 (o := 1) (by decide) rfl [_, _] rfl rfl (Nat.le_of_ble_eq_true rfl) (by decide) (Nat.le_of_ble_eq_true rfl) d_Mo_tell_150 (k_Mo_bounded (x := x) (s := s) (hM1 a1 (by omega)) (hw1 (by omega)).sl (by omega)) (fun v_150 u_150 q_150 h_150 => ?_)
        obtain ⟨r150, h_150⟩ := h_150
        refine e_iast (n := 2) C (by decide) rfl (by decide) rfl rfl (by decide) (by omega) (by omega) (by omega) d_Mo_tell_153 ?_
        try simp only [so_at, so_so, wr_so, e19c]
        rcases h_150 with ⟨fp, m2, b1, rfl, b3, b4, b5⟩ | ⟨b1, b2, b3, rfl, rfl⟩
        · rw [b1, bnd_l, bnd_l] at F
          rw [so_at, so_so]
          have hft : ∀ v, Ft fp (cu m2 33 s v) := fun v => b3.w (k := s) (v := v) (f := 33) (by decide) (by decide) (by decide)
          refine e_aload_n C d_Mo_tell_154 rfl ?_
          refine e_iconst C d_Mo_tell_155 ?_
          refine e_callVV C ok_Mo_must lk_Mo_252 (o := 1) (by decide) rfl [_] rfl rfl (Nat.le_of_ble_eq_true rfl) (by decide) (Nat.le_of_ble_eq_true rfl) d_Mo_tell_156 (k_Mo_mustF (hft _).f) (fun u_156 h_156 => ?_)
          subst h_156
          refine e_goto C 167 d_Mo_tell_159 (by decide) ?_
          refine e_vret C F rfl d_Mo_tell_167 ?_
          exact ⟨_, rfl, (pf1.tr b4).w2 (by decide) (by rw [z33]; omega) (by rw [z33]; omega), hft _⟩
        · rw [b1, bnd_r] at F
          rw [so_at, so_so]
          have hw2 := (hw1 (show T.1 t ≠ 128 by omega)).bd (most := 9999) hM.1 (by omega) (by omega)
          have ef : ∀ f, f ≠ 11 → f ≠ 15 → f ≠ 16 → f ≠ 33 → cu (cu (bdM T (cu m 11 0 (t + 1)) 9999 (t + 1)) 11 0 (t + 1 + 1)) 33 s (T.2.2.1 (t + 1)) f = m f := fun f c1 c2 c3 c4 => by rw [cf_f c4, cf_f c1, bdM_f c2 c3, cf_f c1]
          have hM2 : MH T (cu (cu (bdM T (cu m 11 0 (t + 1)) 9999 (t + 1)) 11 0 (t + 1 + 1)) 33 s (T.2.2.1 (t + 1))) (t + 1 + 1) := (hM1 a1 (by omega)).go (fun f hf => by rw [cf_f (by omega), cf_f (by omega), bdM_f (by omega) (by omega)]) (by rw [cu_f (by decide), cu_s]) (by rw [cu_f (by decide), cu_f (by decide), bdM_f (by decide) (by decide)]) b2 (by omega)
          have hpf2 : PF s m (cu (cu (bdM T (cu m 11 0 (t + 1)) 9999 (t + 1)) 11 0 (t + 1 + 1)) 33 s (T.2.2.1 (t + 1))) := by
            refine PF.w2 (PF.w1 ?_ (by omega)) (by decide) (by rw [z33]; omega) (by rw [z33]; omega)
            unfold bdM
            split
            · exact pf1.nt
            · exact pf1
          have hw3 : WX T (if 9999 < T.2.2.1 (t + 1) then noteX x 5 (T.2.1 (t + 1)) else x) (cu (cu (bdM T (cu m 11 0 (t + 1)) 9999 (t + 1)) 11 0 (t + 1 + 1)) 33 s (T.2.2.1 (t + 1))) (t + 1 + 1) := ⟨by rw [cu_f (by decide)]; exact hw2.1, by rw [cu_f (by decide)]; exact hw2.2.1, hw2.2.2⟩
          have hxf : ∀ f, f ≠ 15 → f ≠ 16 → (if 9999 < T.2.2.1 (t + 1) then noteX x 5 (T.2.1 (t + 1)) else x) f = x f := fun f c1 c2 => by split <;> first | exact noteX_f c1 c2 | rfl
          have e33 : cu (cu (bdM T (cu m 11 0 (t + 1)) 9999 (t + 1)) 11 0 (t + 1 + 1)) 33 s (T.2.2.1 (t + 1)) 33 s = T.2.2.1 (t + 1) := cu_s _ _ _ _
          generalize cu (cu (bdM T (cu m 11 0 (t + 1)) 9999 (t + 1)) 11 0 (t + 1 + 1)) 33 s (T.2.2.1 (t + 1)) = m2 at ef hM2 hpf2 hw3 e33 ⊢
          generalize (if 9999 < T.2.2.1 (t + 1) then noteX x 5 (T.2.1 (t + 1)) else x) = x3 at F hw3 hxf
          refine e_aload_n C d_Mo_tell_154 rfl ?_
          refine e_iconst C d_Mo_tell_155 ?_
          refine e_callVV C ok_Mo_must lk_Mo_252 (o := 1) (by decide) rfl [_] rfl rfl (Nat.le_of_ble_eq_true rfl) (by decide) (Nat.le_of_ble_eq_true rfl) d_Mo_tell_156 (k_Mo_must hM2 (k' := 59) (by decide) (by decide)) (fun u_156 h_156 => ?_)
          refine e_goto C 167 d_Mo_tell_159 (by decide) ?_
          refine e_vret C F rfl d_Mo_tell_167 ?_
          rcases h_156 with ⟨fp, g1, g2, rfl⟩ | ⟨g1, g2, g3, rfl⟩
          · rw [g1, bnd_l, bnd_l]
            exact ⟨_, rfl, hpf2.fl, Ft.mk hM2 g2⟩
          · rw [g1, bnd_r, bnd_r]
            have wf : ∀ f, f ≠ 11 → f ≠ 15 → f ≠ 16 → f ≠ 33 → cu m2 11 0 (t + 1 + 1 + 1) f = m f := fun f c1 c2 c3 c4 => by rw [cf_f c1]; exact ef f c1 c2 c3 c4
            obtain ⟨ps, _, ⟨_, _, q31, q33⟩, qA, qG, qD, qE, qE2⟩ := hp
            have yf : ∀ f k, f ≠ 6 → cu P 6 0 (T.2.2.1 (t + 1)) f k = P f k := fun f k c1 => cu_f c1
            refine ⟨_, rfl, hpf2.w1 (by omega), by rw [cu_f (by decide)]; exact hM2.2.2.2.2.2, cu_s _ _ _ _, ?_, ?_, ?_, ?_, hL.same (fun f a1 a2 => wf f (by omega) (by omega) (by omega) (by omega)) (by show t ≤ t + 1 + 1 + 1; omega), by rw [wf 12 (by decide) (by decide) (by decide) (by decide)]; exact h12⟩
            · show MRp s (cu P 6 0 (T.2.2.1 (t + 1))) c _
              refine ⟨ps, by rw [wf 19 (by decide) (by decide) (by decide) (by decide)]; exact p19, ⟨by rw [wf 24 (by decide) (by decide) (by decide) (by decide), yf 3 0 (by decide)]; exact p24, by rw [wf 29 (by decide) (by decide) (by decide) (by decide), yf 4 0 (by decide)]; exact p29, by rw [wf 31 (by decide) (by decide) (by decide) (by decide), yf 5 0 (by decide)]; exact q31, by rw [cu_f (by decide), e33, cu_s]⟩, ?_, ?_, ?_, ?_, ?_⟩
              · rw [wf 25 (by decide) (by decide) (by decide) (by decide), wf 26 (by decide) (by decide) (by decide) (by decide), wf 27 (by decide) (by decide) (by decide) (by decide), wf 28 (by decide) (by decide) (by decide) (by decide), yf 3 0 (by decide)]
                intro p a b
                rw [yf 0 p (by decide)]
                exact qA p a b
              · rw [wf 30 (by decide) (by decide) (by decide) (by decide), yf 4 0 (by decide)]; exact qG
              · rw [wf 32 (by decide) (by decide) (by decide) (by decide), yf 5 0 (by decide)]
                intro k a b
                rw [yf 1 _ (by decide)]
                exact qD k a b
              · rw [yf 3 0 (by decide)]; exact qE
              · rw [yf 4 0 (by decide)]; exact qE2
            · exact hn.same (wf 20 (by decide) (by decide) (by decide) (by decide)) (wf 21 (by decide) (by decide) (by decide) (by decide)) (wf 22 (by decide) (by decide) (by decide) (by decide)) (wf 23 (by decide) (by decide) (by decide) (by decide)) (by show x3 10 0 = _; rw [hxf 10 (by decide) (by decide)]) (hxf 4 (by decide) (by decide)) (hxf 20 (by decide) (by decide)) (hxf 21 (by decide) (by decide))
            · show NS T x3 (cu P 6 0 (T.2.2.1 (t + 1)) 3 0)
              rw [yf 3 0 (by decide)]
              exact hN.same (hxf 5 (by decide) (by decide)) (hxf 22 (by decide) (by decide)) (by rw [hxf 10 (by decide) (by decide)]) (hxf 21 (by decide) (by decide)) (hxf 20 (by decide) (by decide))
            · exact hw3.go hM.1 (by omega) (by omega) rfl rfl (cu_f (by decide)) (cu_f (by decide))
end MTL
