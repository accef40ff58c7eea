/-! the class's Reader: the law, and all that a text tells -/
section RF
variable {T : Tab} {σ : St} {X x P l c : Cs} {t : Int}
theorem k_Re_addEnd {v : Int} (hX : XC X [] [v]) (hv : R32 v) (h7 : 0 ≤ l 7 0 ∧ l 7 0 < 400) : CtV M_Re_addEnd [.inr (.inr (3, 0))] (RZ σ X P l c) (fun u => u = RZ σ (cu X 9 0 0) P (addS l 5 v v) c) := by
  intro g C F
  have e8 : X 8 0 = v := hX.2.2.2.1
  refine e_aload_n C d_Re_addEnd_0 rfl ?_
  refine e_callIV C ok_Re_popUnit lk_Re_186 (o := 3) (by decide) rfl [] rfl rfl (Nat.le_of_ble_eq_true rfl) (by decide) (Nat.le_of_ble_eq_true rfl) d_Re_addEnd_1 (k_Re_popUnit (n := 0) hX.2.2.1 (by omega)) (fun v_1 u_1 q_1 h_1 => ?_)
  obtain ⟨rfl, rfl⟩ := h_1
  rw [e8]
  refine e_istore_n C d_Re_addEnd_4 (by decide) rfl ?_
  refine e_aload_n C d_Re_addEnd_5 rfl ?_
  refine e_geto (o2 := 4) C fl_Re_14 (by decide) rfl rfl rfl d_Re_addEnd_6 ?_
  refine e_geto (o2 := 5) C fl_Re_170 (by decide) rfl rfl rfl d_Re_addEnd_9 ?_
  refine e_iconst C d_Re_addEnd_12 ?_
  refine e_iload_n C d_Re_addEnd_13 rfl ?_
  refine e_iload_n C d_Re_addEnd_14 rfl ?_
  refine e_callIV C ok_La_addStep lk_Re_189 (o := 5) (by decide) rfl [_, _, _] rfl rfl (Nat.le_of_ble_eq_true rfl) (by decide) (Nat.le_of_ble_eq_true rfl) d_Re_addEnd_15 (k_La_addStep h7 (by omega) hv hv) (fun v_15 u_15 q_15 h_15 => ?_)
  obtain ⟨rfl, rfl⟩ := h_15
  refine e_pop C d_Re_addEnd_18 rfl ?_
  refine e_vret C F rfl d_Re_addEnd_19 ?_
  rfl
/-- how far a law's rows are filled -/
def LC (l : Cs) (t : Int) : Prop := (0 ≤ l 7 0 ∧ l 7 0 + 1 ≤ t) ∧ (0 ≤ l 8 0 ∧ l 8 0 + 1 ≤ t)
theorem LC.mono {l : Cs} {t t' : Int} (h : LC l t) (ht : t ≤ t') : LC l t' := ⟨by have := h.1; omega, by have := h.2; omega⟩
theorem LC.cg {l : Cs} {t t' : Int} {pf : List Cd} (h : LC l t) (hp : (pf.length : Int) + t ≤ t') (hc : ∀ d ∈ pf, cok d) (ht : t' ≤ 400) : LC (cg l pf).1 t' ∧ l 7 0 ≤ (cg l pf).1 7 0 ∧ ∀ u ∈ (cg l pf).2, 0 ≤ u ∧ u < 406 + (cg l pf).1 7 0 := by
  obtain ⟨h1, h2⟩ := h
  have hG := CGi_cg h1.1 h2.1 pf hc (by omega)
  have g1 := hG.1
  have g2 := hG.2.1
  exact ⟨⟨by omega, by omega⟩, g1.1, fun u hu => ⟨(hG.2.2 u hu).1, (hG.2.2 u hu).2.1⟩⟩
theorem hdU_1 (v : Int) : hdU [v] = v := rfl
theorem TH.to {X' : Cs} {t' : Int} (h : TH T σ X t) (e : X' 11 0 = t') (h1 : t ≤ t') (h2 : t' ≤ 400) (h3 : T.1 (t' - 1) ≠ 128) : TH T σ X' t' := ⟨h.1, h.2.1, e, by have := h.2.2.2.1; omega, Or.inr h3⟩
theorem TH.ok (h : TH T σ X t) {tp : Int × List Cd} (e : xE T t = .inr tp) : t < tp.1 ∧ tp.1 ≤ 400 ∧ T.1 (tp.1 - 1) ≠ 128 ∧ okd tp.2 0 = some 1 ∧ (∀ c ∈ tp.2, cok c) ∧ (tp.2.length : Int) + t ≤ tp.1 := xE_ok h.1 h.2.2.2.1.1 h.2.2.2.1.2 h.2.2.2.2 e
def ifQ (σ : St) (X P l c : Cs) (res : (Int × Int) ⊕ (Int × Br)) (r : Int) (u : St) : Prop := match res with
  | .inl fp => r = 0 ∧ ∃ X' l' : Cs, u = RZ σ X' P l' c ∧ X' 12 0 = fp.1 ∧ X' 2 0 = fp.2
  | .inr p => r = 1 ∧ ∃ X' : Cs, u = RZ σ X' P (cbr l p.2) c ∧ XS X X' ∧ X' 11 0 = p.1
set_option maxHeartbeats 2000000 in
theorem k_Re_takeIf (h : TH T σ X t) (hk : T.1 t = 141) (hl : LC l t) : CtI M_Re_takeIf [.inr (.inr (3, 0))] (RZ σ X P l c) (fun r u => ifQ σ X P l c (zIf T t) r u) := by
  intro g C F
  have h0 := h.2.2.2.1
  unfold zIf at F
  rw [← pMu_go hk] at F
  refine e_aload_n C d_Re_takeIf_0 rfl ?_
  refine e_sipush C d_Re_takeIf_1 (by decide) ?_
  refine e_callIV C ok_Re_take lk_Re_108 (o := 3) (by decide) rfl [_] rfl rfl (Nat.le_of_ble_eq_true rfl) (by decide) (Nat.le_of_ble_eq_true rfl) d_Re_takeIf_4 (k_Re_take h (by omega)) (fun v_4 u_4 q_4 h_4 => ?_)
  refine e_if_eq C 26 d_Re_takeIf_7 (by decide) (by omega) (fun c_7 => ?_) (fun c_7 => ?_)
  · obtain ⟨fp, a1, a2, x2, rfl, a4, a5⟩ := h_4.resolve_right (fun z => by have := z.2.1; omega)
    rw [a1, bnd_l] at F
    refine e_iconst C d_Re_takeIf_26 ?_
    refine e_zret C F rfl d_Re_takeIf_27 (by omega) ?_
    exact ⟨rfl, _, _, rfl, a4, a5⟩
  · obtain ⟨a1, a2, a3, a4, rfl⟩ := h_4.resolve_left (fun z => by obtain ⟨fp, _, z2, _⟩ := z; exact c_7 z2)
    rw [a1, bnd_r] at F
    have h1 := h.go (x' := cu X 11 0 (t + 1)) a3 (by omega) (cu_s _ _ _ _)
    have hs1 : XS X (cu X 11 0 (t + 1)) := (XS.rf X).wu (by omega)
    have hl1 := hl.mono (show t ≤ t + 1 by omega)
    refine e_aload_n C d_Re_takeIf_10 rfl ?_
    refine e_callIV C ok_Re_takeSum lk_Re_180 (o := 3) (by decide) rfl [] rfl rfl (Nat.le_of_ble_eq_true rfl) (by decide) (Nat.le_of_ble_eq_true rfl) d_Re_takeIf_11 (k_Re_takeSum h1 hl1.1 hl1.2) (fun v_11 u_11 q_11 h_11 => ?_)
    cases hA : xE T (t + 1) with
    | inl fp =>
      rw [hA] at h_11 F
      obtain ⟨b1, X2, l2, rfl, b3, b4⟩ := h_11
      rw [bnd_l] at F
      refine e_if_eq C 26 d_Re_takeIf_14 (by decide) (by omega) (fun c_14 => ?_) (fun c_14 => ?_)
      · refine e_iconst C d_Re_takeIf_26 ?_
        refine e_zret C F rfl d_Re_takeIf_27 (by omega) ?_
        exact ⟨rfl, _, _, rfl, b3, b4⟩
      · exact absurd b1 c_14
    | inr tp =>
      obtain ⟨o1, o2, o3, o4, o5, o6⟩ := h1.ok hA
      rw [hA] at h_11 F
      obtain ⟨b1, X2, v1, rfl, b4, b5, b6, b7⟩ := h_11
      rw [bnd_r] at F
      obtain ⟨hl2, hl2a, hl2b⟩ := hl1.cg o6 o5 o2
      have h2 := h1.to (X' := X2) b5 (by omega) o2 o3
      have hv1 := hl2b v1 (by rw [b6]; exact List.mem_cons_self)
      have hb1 := hl2.1
      refine e_if_eq C 26 d_Re_takeIf_14 (by decide) (by omega) (fun c_14 => ?_) (fun c_14 => ?_)
      · exact absurd c_14 (by omega)
      · refine e_aload_n C d_Re_takeIf_17 rfl ?_
        refine e_bipush C d_Re_takeIf_18 (by decide) ?_
        refine e_callIV C ok_Re_take lk_Re_108 (o := 3) (by decide) rfl [_] rfl rfl (Nat.le_of_ble_eq_true rfl) (by decide) (Nat.le_of_ble_eq_true rfl) d_Re_takeIf_20 (k_Re_take h2 (by omega)) (fun v_20 u_20 q_20 h_20 => ?_)
        refine e_if_ne C 28 d_Re_takeIf_23 (by decide) (by omega) (fun c_23 => ?_) (fun c_23 => ?_)
        · obtain ⟨d1, d2, d3, d4, rfl⟩ := h_20.resolve_left (fun z => by obtain ⟨fp, _, z2, _⟩ := z; exact c_23 z2)
          rw [d1, bnd_r] at F
          refine e_aload_n C d_Re_takeIf_28 rfl ?_
          refine e_callIV C ok_Re_popUnit lk_Re_186 (o := 3) (by decide) rfl [] rfl rfl (Nat.le_of_ble_eq_true rfl) (by decide) (Nat.le_of_ble_eq_true rfl) d_Re_takeIf_29 (k_Re_popUnit (n := 0) (by rw [cu_f (by decide)]; exact b7.2.2.1) (by omega)) (fun v_29 u_29 q_29 h_29 => ?_)
          obtain ⟨rfl, rfl⟩ := h_29
          rw [cu_f (show (8 : Nat) ≠ 11 by decide), show X2 8 0 = v1 from b7.2.2.2.1]
          have h3 := h2.go (x' := cu (cu X2 11 0 (tp.1 + 1)) 9 0 0) d3 (by omega) (by rw [cu_f (by decide), cu_s])
          have hs3 : XS X (cu (cu X2 11 0 (tp.1 + 1)) 9 0 0) := ((hs1.tr b4).wu (by omega)).wu (by omega)
          have hl3 := hl2.mono (show tp.1 ≤ tp.1 + 1 by omega)
          refine e_istore_n C d_Re_takeIf_32 (by decide) rfl ?_
          refine e_aload_n C d_Re_takeIf_33 rfl ?_
          refine e_callIV C ok_Re_takeSum lk_Re_180 (o := 3) (by decide) rfl [] rfl rfl (Nat.le_of_ble_eq_true rfl) (by decide) (Nat.le_of_ble_eq_true rfl) d_Re_takeIf_34 (k_Re_takeSum h3 hl3.1 hl3.2) (fun v_34 u_34 q_34 h_34 => ?_)
          cases hB : xE T (tp.1 + 1) with
          | inl fp =>
            rw [hB] at h_34 F
            obtain ⟨e1, X4, l4, rfl, e3, e4⟩ := h_34
            rw [bnd_l] at F
            refine e_if_eq C 50 d_Re_takeIf_37 (by decide) (by omega) (fun c_37 => ?_) (fun c_37 => ?_)
            · refine e_iconst C d_Re_takeIf_50 ?_
              refine e_zret C F rfl d_Re_takeIf_51 (by omega) ?_
              exact ⟨rfl, _, _, rfl, e3, e4⟩
            · exact absurd e1 c_37
          | inr tq =>
            obtain ⟨u1, u2, u3, u4, u5, u6⟩ := h3.ok hB
            rw [hB] at h_34 F
            obtain ⟨e1, X4, v2, rfl, e4, e5, e6, e7⟩ := h_34
            rw [bnd_r] at F
            obtain ⟨hl4, hl4a, hl4b⟩ := hl3.cg u6 u5 u2
            have h4 := h3.to (X' := X4) e5 (by omega) u2 u3
            have hv2 := hl4b v2 (by rw [e6]; exact List.mem_cons_self)
            have hb4 := hl4.1
            have hb48 := hl4.2
            refine e_if_eq C 50 d_Re_takeIf_37 (by decide) (by omega) (fun c_37 => ?_) (fun c_37 => ?_)
            · exact absurd c_37 (by omega)
            · refine e_aload_n C d_Re_takeIf_40 rfl ?_
              refine e_sipush C d_Re_takeIf_41 (by decide) ?_
              refine e_callIV C ok_Re_take lk_Re_108 (o := 3) (by decide) rfl [_] rfl rfl (Nat.le_of_ble_eq_true rfl) (by decide) (Nat.le_of_ble_eq_true rfl) d_Re_takeIf_44 (k_Re_take h4 (by omega)) (fun v_44 u_44 q_44 h_44 => ?_)
              refine e_if_ne C 52 d_Re_takeIf_47 (by decide) (by omega) (fun c_47 => ?_) (fun c_47 => ?_)
              · obtain ⟨f1, f2, f3, f4, rfl⟩ := h_44.resolve_left (fun z => by obtain ⟨fp, _, z2, _⟩ := z; exact c_47 z2)
                rw [f1, bnd_r] at F
                refine e_aload_n C d_Re_takeIf_52 rfl ?_
                refine e_geto (o2 := 4) C fl_Re_14 (by decide) rfl rfl rfl d_Re_takeIf_53 ?_
                refine e_geto (o2 := 5) C fl_Re_170 (by decide) rfl rfl rfl d_Re_takeIf_56 ?_
                refine e_iconst C d_Re_takeIf_59 ?_
                refine e_iload_n C d_Re_takeIf_60 rfl ?_
                refine e_aload_n C d_Re_takeIf_61 rfl ?_
                refine e_callIV C ok_Re_popUnit lk_Re_186 (o := 3) (by decide) rfl [] rfl rfl (Nat.le_of_ble_eq_true rfl) (by decide) (Nat.le_of_ble_eq_true rfl) d_Re_takeIf_62 (k_Re_popUnit (n := 0) (by rw [cu_f (by decide)]; exact e7.2.2.1) (by omega)) (fun v_62 u_62 q_62 h_62 => ?_)
                obtain ⟨rfl, rfl⟩ := h_62
                rw [cu_f (show (8 : Nat) ≠ 11 by decide), show X4 8 0 = v2 from e7.2.2.2.1]
                refine e_callIV C ok_La_addStep lk_Re_189 (o := 5) (by decide) rfl [_, _, _] rfl rfl (Nat.le_of_ble_eq_true rfl) (by decide) (Nat.le_of_ble_eq_true rfl) d_Re_takeIf_65 (k_La_addStep (by omega) (by omega) (by omega) (by omega)) (fun v_65 u_65 q_65 h_65 => ?_)
                obtain ⟨rfl, rfl⟩ := h_65
                have h5 := h4.go (x' := cu (cu X4 11 0 (tq.1 + 1)) 9 0 0) f3 (by omega) (by rw [cu_f (by decide), cu_s])
                have hs5 : XS X (cu (cu X4 11 0 (tq.1 + 1)) 9 0 0) := ((hs3.tr e4).wu (by omega)).wu (by omega)
                have ad := addS_78 (cg (cg l tp.2).1 tq.2).1 4 v1 v2
                have hl5 : LC (addS (cg (cg l tp.2).1 tq.2).1 4 v1 v2) (tq.1 + 1) := ⟨by omega, by omega⟩
                have elf : addS (cg (cg l tp.2).1 tq.2).1 4 v1 v2 = lf1 l tp.2 tq.2 := by unfold lf1; rw [b6, e6, hdU_1, hdU_1]
                rw [elf] at ad hl5 ⊢
                refine e_istore_n C d_Re_takeIf_68 (by decide) rfl ?_
                refine e_aload_n C d_Re_takeIf_69 rfl ?_
                refine e_callIV C ok_Re_takeSum lk_Re_180 (o := 3) (by decide) rfl [] rfl rfl (Nat.le_of_ble_eq_true rfl) (by decide) (Nat.le_of_ble_eq_true rfl) d_Re_takeIf_70 (k_Re_takeSum h5 hl5.1 hl5.2) (fun v_70 u_70 q_70 h_70 => ?_)
                cases hD : xE T (tq.1 + 1) with
                | inl fp =>
                  rw [hD] at h_70 F
                  obtain ⟨g1, X6, l6, rfl, g3, g4⟩ := h_70
                  rw [bnd_l] at F
                  refine e_if_eq C 86 d_Re_takeIf_73 (by decide) (by omega) (fun c_73 => ?_) (fun c_73 => ?_)
                  · refine e_iconst C d_Re_takeIf_86 ?_
                    refine e_zret C F rfl d_Re_takeIf_87 (by omega) ?_
                    exact ⟨rfl, _, _, rfl, g3, g4⟩
                  · exact absurd g1 c_73
                | inr tr =>
                  obtain ⟨w1, w2, w3, w4, w5, w6⟩ := h5.ok hD
                  rw [hD] at h_70 F
                  obtain ⟨g1, X6, v3, rfl, g4, g5, g6, g7⟩ := h_70
                  rw [bnd_r] at F
                  obtain ⟨hl6, hl6a, hl6b⟩ := hl5.cg w6 w5 w2
                  have h6 := h5.to (X' := X6) g5 (by omega) w2 w3
                  have hv3 := hl6b v3 (by rw [g6]; exact List.mem_cons_self)
                  have hb6 := hl6.1
                  refine e_if_eq C 86 d_Re_takeIf_73 (by decide) (by omega) (fun c_73 => ?_) (fun c_73 => ?_)
                  · exact absurd c_73 (by omega)
                  · refine e_aload_n C d_Re_takeIf_76 rfl ?_
                    refine e_sipush C d_Re_takeIf_77 (by decide) ?_
                    refine e_callIV C ok_Re_take lk_Re_108 (o := 3) (by decide) rfl [_] rfl rfl (Nat.le_of_ble_eq_true rfl) (by decide) (Nat.le_of_ble_eq_true rfl) d_Re_takeIf_80 (k_Re_take h6 (by omega)) (fun v_80 u_80 q_80 h_80 => ?_)
                    refine e_if_ne C 88 d_Re_takeIf_83 (by decide) (by omega) (fun c_83 => ?_) (fun c_83 => ?_)
                    · obtain ⟨i1, i2, i3, i4, rfl⟩ := h_80.resolve_left (fun z => by obtain ⟨fp, _, z2, _⟩ := z; exact c_83 z2)
                      rw [i1, bnd_r] at F
                      refine e_aload_n C d_Re_takeIf_88 rfl ?_
                      refine e_callVV C ok_Re_addEnd lk_Re_183 (o := 3) (by decide) rfl [] rfl rfl (Nat.le_of_ble_eq_true rfl) (by decide) (Nat.le_of_ble_eq_true rfl) d_Re_takeIf_89 (k_Re_addEnd (v := v3) g7.t (by omega) (by omega)) (fun u_89 h_89 => ?_)
                      subst h_89
                      have elf2 : addS (cg (lf1 l tp.2 tq.2) tr.2).1 5 v3 v3 = lf2 (lf1 l tp.2 tq.2) tr.2 := by unfold lf2; rw [g6, hdU_1]
                      have ad2 := addS_78 (cg (lf1 l tp.2 tq.2) tr.2).1 5 v3 v3
                      rw [elf2] at ad2 ⊢
                      refine e_aload_n C d_Re_takeIf_92 rfl ?_
                      refine e_geto (o2 := 4) C fl_Re_14 (by decide) rfl rfl rfl d_Re_takeIf_93 ?_
                      refine e_geto (o2 := 5) C fl_Re_170 (by decide) rfl rfl rfl d_Re_takeIf_96 ?_
                      refine e_iload_n C d_Re_takeIf_99 rfl ?_
                      refine e_callVV C ok_La_aimHere lk_Re_193 (o := 5) (by decide) rfl [_] rfl rfl (Nat.le_of_ble_eq_true rfl) (by decide) (Nat.le_of_ble_eq_true rfl) d_Re_takeIf_100 (k_La_aimHere (s := (cg (cg l tp.2).1 tq.2).1 7 0) (by omega) (by omega)) (fun u_100 h_100 => ?_)
                      subst h_100
                      refine e_iconst C d_Re_takeIf_103 ?_
                      refine e_zret C F rfl d_Re_takeIf_104 (by omega) ?_
                      exact ⟨rfl, _, rfl, ((hs5.tr g4).wu (by omega)).wu (by omega), by rw [cu_f (by decide), cu_s]⟩
                    · obtain ⟨fp, i1, i2, x3, rfl, i4, i5⟩ := h_80.resolve_right (fun z => by have := z.2.1; omega)
                      rw [i1, bnd_l] at F
                      refine e_iconst C d_Re_takeIf_86 ?_
                      refine e_zret C F rfl d_Re_takeIf_87 (by omega) ?_
                      exact ⟨rfl, _, _, rfl, i4, i5⟩
              · obtain ⟨fp, f1, f2, x3, rfl, f4, f5⟩ := h_44.resolve_right (fun z => by have := z.2.1; omega)
                rw [f1, bnd_l] at F
                refine e_iconst C d_Re_takeIf_50 ?_
                refine e_zret C F rfl d_Re_takeIf_51 (by omega) ?_
                exact ⟨rfl, _, _, rfl, f4, f5⟩
        · obtain ⟨fp, d1, d2, x3, rfl, d4, d5⟩ := h_20.resolve_right (fun z => by have := z.2.1; omega)
          rw [d1, bnd_l] at F
          refine e_iconst C d_Re_takeIf_26 ?_
          refine e_zret C F rfl d_Re_takeIf_27 (by omega) ?_
          exact ⟨rfl, _, _, rfl, d4, d5⟩
def flQ (σ : St) (X P l0 c : Cs) (res : (Int × Int) ⊕ (Int × List Br)) (r : Int) (u : St) : Prop := match res with
  | .inl fp => r = 0 ∧ ∃ X' l' : Cs, u = RZ σ X' P l' c ∧ X' 12 0 = fp.1 ∧ X' 2 0 = fp.2
  | .inr p => r = 1 ∧ ∃ X' : Cs, u = RZ σ X' P (lawOf l0 p.2) c ∧ XS X X' ∧ X' 11 0 = p.1
theorem lf2_78 {l : Cs} {d : List Cd} : lf2 l d 7 0 = (cg l d).1 7 0 + 1 ∧ lf2 l d 8 0 = (cg l d).1 8 0 := addS_78 _ _ _ _
theorem lf1_78 {l : Cs} {a b : List Cd} : lf1 l a b 7 0 = (cg (cg l a).1 b).1 7 0 + 1 ∧ lf1 l a b 8 0 = (cg (cg l a).1 b).1 8 0 := addS_78 _ _ _ _
end RF
