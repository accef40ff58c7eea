/-! the law from its entry: the two objects made, then its loop -/
theorem lv_LH {ρ : Nat → Nat → Nat} {ls : Array Slot} {nL x0 x1 x2 : Nat} (h : lv_has ls nL [(3, .int 0), (2, .ref x2), (1, .ref x1), (0, .ref x0)]) (h0 : ρ 98 0 = x0) (h1 : ρ 0 0 = x1) (h2 : ρ 1 0 = x2) : LH ρ ls nL [some (.inr (.inr (98, 0))), some (.inr (.inr (0, 0))), some (.inr (.inr (1, 0))), some (.inl 0)] := by
  refine ⟨h.1, h.2.1, fun k v hk => ?_⟩
  match k, hk with
  | 0, hk => cases hk; show ls[0]? = some (.val (.ref (ρ 98 0))); rw [h0]; exact lv_at h 3 rfl
  | 1, hk => cases hk; show ls[1]? = some (.val (.ref (ρ 0 0))); rw [h1]; exact lv_at h 2 rfl
  | 2, hk => cases hk; show ls[2]? = some (.val (.ref (ρ 1 0))); rw [h2]; exact lv_at h 1 rfl
  | 3, hk => cases hk; exact lv_at h 0 rfl
  | k + 4, hk => simp at hk
theorem l_start {g : Mach} {z q : Nat} (C : Cn M_law g z) (hsz : gsz g = z) (hmc : gmc g = 600000) (hms : gms g = 7302250) (hB : Bs (gw g).2.2 kAll z) (K : Nv g z 18 [(3, .int 0), (2, .ref (z + 697)), (1, .ref z), (0, .ref q)] [] (z + 739) 739 38570 (kO_0.map (nvC (gw g) s00) ++ kO_1.map (nvC (gw g) s00))) : Nv g z 0 [(0, .ref q)] [] z 0 0 [] := by
  have hB0 : Bs (gw g).2.2 kO_0 z := hB.l
  have hB1 : Bs (gw g).2.2 kO_1 (z + 697) := by
    have := Bs.r (K1 := kO_0) (K2 := kO_1) hB
    rw [sg_len] at this
    exact this
  refine n_new C k_Sg t_Sg t_Sg_ok cl_Lw_7 iw_Sg.1 iw_Sg.2 (fs := nul 11) nu_Sg (by omega) (by omega) (by omega) d_law_0 ?_
  refine n_dup C d_law_3 rfl ?_
  refine n_callN C (ws := []) (o := 0) (K := kO_0) (ms2 := 21589) oi_Sg_init (Or.inl lk_Lw_9) k_O_0 hB0 (by decide) (Nat.le_of_ble_eq_true rfl) d_law_4 (by omega) (Nat.le_refl _) (by rw [sg_len]; omega) (by omega) ?_
  rw [sg_len]
  refine n_astore C (i := 1) (L' := [(1, .ref z), (0, .ref q)]) d_law_7 rfl (by decide) rfl ?_
  refine n_new C k_Mo t_Mo t_Mo_ok cl_Lw_10 iw_Mo.1 iw_Mo.2 (fs := nul 12) nu_Mo (by omega) (by omega) (by omega) d_law_8 ?_
  refine n_dup C d_law_11 rfl ?_
  refine n_callN C (ws := [] ++ kO_0.map (nvC (gw g) s00)) (o := 1) (K := kO_1) (ms2 := 16907) oi_Mo_init (Or.inl lk_Lw_12) k_O_1 hB1 (by decide) (Nat.le_of_ble_eq_true rfl) d_law_12 (by omega) (by omega) (by show _ + 41 ≤ _; omega) (by omega) ?_
  refine n_astore C (i := 2) (L' := [(2, .ref (z + 697)), (1, .ref z), (0, .ref q)]) d_law_15 rfl (by decide) rfl ?_
  refine n_iconst C d_law_16 (v := 0) (by decide) ?_
  refine n_istore C d_law_17 (i := 3) (L' := [(3, .int 0), (2, .ref (z + 697)), (1, .ref z), (0, .ref q)]) rfl (by decide) rfl ?_
  exact K
set_option maxHeartbeats 4000000 in
theorem whole_start {p : Program} {e : Env} {s : State} {m : MethodId} {below : List Frame} {meth : Method} {c : Code} (l : Launch) {b L : Nat} {xs : Nat → Int32} (hL : L ≤ 3072) (C0 : lw_At p s m meth c b L xs) : W p l e room_1 s m #[Value.ref b] below meth c s.heap [] 0 0 (lw_Z below #[Value.ref b] s) (entryFrame m ([Value.ref b] : List Value).toArray 4) := by
  obtain ⟨hx, hb, hr, hml, hown, hts, hX, hbl, hlocks, hgv⟩ := id C0
  have hg : ∀ t ∈ lw_gd, t.before #[Value.ref b] s = true := fun t ht => hts t (List.mem_filter.mp ht).1
  obtain ⟨D, ca, hK⟩ := known hts
  obtain ⟨t, hw⟩ := words_of hts hgv
  obtain ⟨hZ, hT⟩ := hw (AA (D, ca, rhoA b t s.heap.size)) (fun a ha h => by have := AA_ge a h; omega)
  have hB := rhoA_B b t s.heap.size
  have hl := lv_entry ([.ref b]) (n := 4) (Nat.le_of_ble_eq_true rfl)
  have Cx0 : Cx M_law (gL p l e s m below meth c b (D, ca, rhoA b t s.heap.size)) := ⟨hx, hb, hml, hown, hg, hK, hlocks, Nat.le_of_ble_eq_true rfl, Nat.le_of_ble_eq_true rfl, Nat.le_refl _, Nat.le_refl _, hZ, hT⟩
  have Cn0 : Cn M_law (gL p l e s m below meth c b (D, ca, rhoA b t s.heap.size)) s.heap.size := ⟨hx, hb, hml, hown, hg, hK, hlocks, Nat.le_of_ble_eq_true rfl, Nat.le_of_ble_eq_true rfl, Nat.le_refl _, Nat.le_refl _, Nat.le_refl _, nx_of hts⟩
  rw [lg_entry_eq]
  refine l_start (g := gL p l e s m below meth c b (D, ca, rhoA b t s.heap.size)) (z := s.heap.size) (q := b) Cn0 rfl rfl rfl hB ?_ s.heap [] _ (by rw [hml]; exact hl) (Nat.le_refl _) (va_P_mem.mpr fun q hq => by cases hq) (va_D_nd.mpr ⟨List.Pairwise.nil, fun q hq => by cases hq⟩) va_S.rf
  intro H locs ls hl hn hP hD hS
  refine W.widen (k := 600000) (n := 7302250) (by decide) (by decide) ?_
  refine va_forget (fun q hq => hS.2.2 q hq) ?_
  have hA : ∀ q, AA (D, ca, rhoA b t s.heap.size) q → s.heap.size ≤ q := AA_ge
  refine law_loop Cx0 (SX_of hX hbl rfl hA) hL hr hA C00_s M00_s H [] ls (lv_LH hl rfl (hB 0 (0, 0) rfl) (hB 697 (1, 0) (by decide +kernel))) ⟨wsl_P hP, wsl_D, ⟨hS.1, fun q h1 h2 => hS.2.1 q h1 (by omega), fun q hq => by cases hq⟩, Rng_s⟩
