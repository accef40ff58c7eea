/-! the class's Reader: the law's tell, every tell, the whole text -/
section RR
variable {T : Tab} {σ : St} {X x P l c : Cs} {t : Int}
theorem zIf_ok {t' : Int} {b : Br} (hT : TF T) (h0 : 0 ≤ t ∧ t ≤ 400) (hk : T.1 t ≠ 128) (e : zIf T t = .inr (t', b)) : t < t' ∧ t' ≤ 400 ∧ T.1 (t' - 1) ≠ 128 ∧ b.1 = true ∧ (okd b.2.1 0 = some 1 ∧ okd b.2.2.1 0 = some 1 ∧ okd b.2.2.2 0 = some 1) ∧ ((∀ c ∈ b.2.1, cok c) ∧ (∀ c ∈ b.2.2.1, cok c) ∧ (∀ c ∈ b.2.2.2, cok c)) ∧ (b.2.1.length : Int) + b.2.2.1.length + b.2.2.2.length + t + 4 ≤ t' := by
  unfold zIf at e
  obtain ⟨t1, e1, e⟩ := bnd_i e
  obtain ⟨a, e2, e⟩ := bnd_i e
  obtain ⟨t2, e3, e⟩ := bnd_i e
  obtain ⟨b2, e4, e⟩ := bnd_i e
  obtain ⟨t3, e5, e⟩ := bnd_i e
  obtain ⟨d, e6, e⟩ := bnd_i e
  obtain ⟨t4, e7, e⟩ := bnd_i e
  cases e
  obtain ⟨p1, p2⟩ := pGo_i e1
  obtain ⟨p3, p4, p5⟩ := pMu_i e3
  obtain ⟨p6, p7, p8⟩ := pMu_i e5
  obtain ⟨p9, p10, p11⟩ := pMu_i e7
  subst p1
  obtain ⟨x1, x2, x3, x4, x5, x6⟩ := xE_ok hT (by omega) (by omega) (Or.inr (by rw [Int.add_sub_cancel]; exact hk)) (show xE T (t + 1) = .inr (a.1, a.2) from e2)
  subst p3
  obtain ⟨y1, y2, y3, y4, y5, y6⟩ := xE_ok hT (by omega) (by omega) (Or.inr (by rw [Int.add_sub_cancel]; omega)) (show xE T (a.1 + 1) = .inr (b2.1, b2.2) from e4)
  subst p6
  obtain ⟨z1, z2, z3, z4, z5, z6⟩ := xE_ok hT (by omega) (by omega) (Or.inr (by rw [Int.add_sub_cancel]; omega)) (show xE T (b2.1 + 1) = .inr (d.1, d.2) from e6)
  subst p9
  refine ⟨by omega, by omega, by rw [Int.add_sub_cancel]; omega, rfl, ⟨x4, y4, z4⟩, ⟨x5, y5, z5⟩, ?_⟩
  show (a.2.length : Int) + b2.2.length + d.2.length + t + 4 ≤ d.1 + 1
  omega
theorem LC.br {t' : Int} {b : Br} (hl : LC l t) (hb : b.1 = true) (hc : (∀ c ∈ b.2.1, cok c) ∧ (∀ c ∈ b.2.2.1, cok c) ∧ (∀ c ∈ b.2.2.2, cok c)) (hn : (b.2.1.length : Int) + b.2.2.1.length + b.2.2.2.length + t + 4 ≤ t') (ht : t' ≤ 400) : LC (cbr l b) t' := by
  obtain ⟨q1, _, _⟩ := hl.cg (pf := b.2.1) (t' := t + b.2.1.length) (by omega) hc.1 (by omega)
  obtain ⟨q2, _, _⟩ := q1.cg (pf := b.2.2.1) (t' := t + b.2.1.length + b.2.2.1.length) (by omega) hc.2.1 (by omega)
  have k1 := lf1_78 (l := l) (a := b.2.1) (b := b.2.2.1)
  have q3 : LC (lf1 l b.2.1 b.2.2.1) (t + b.2.1.length + b.2.2.1.length + 1) := ⟨by have := q2.1; omega, by have := q2.2; omega⟩
  obtain ⟨q4, _, _⟩ := q3.cg (pf := b.2.2.2) (t' := t + b.2.1.length + b.2.2.1.length + 1 + b.2.2.2.length) (by omega) hc.2.2 (by omega)
  have k2 := lf2_78 (l := lf1 l b.2.1 b.2.2.1) (d := b.2.2.2)
  have e : ∀ f, f ≠ 5 → cbr l b f = lf2 (lf1 l b.2.1 b.2.2.1) b.2.2.2 f := fun f hf => by unfold cbr; rw [if_pos hb, cf_f hf]
  unfold LC
  rw [e 7 (by decide), e 8 (by decide)]
  exact ⟨by have := q4.1; omega, by have := q4.2; omega⟩
theorem lawOf_app (l : Cs) (L : List Br) (b : Br) : lawOf l (L ++ [b]) = cbr (lawOf l L) b := by unfold lawOf; rw [List.foldl_append]; rfl
set_option maxHeartbeats 2000000 in
theorem l_Re_takeFlow {g : Mach} {Q : Int → St → Prop} (C : Cx M_Re_takeFlow g) (F : FinI M_Re_takeFlow g Q) {X0 : Cs} :
    ∀ (n : Nat) (i t : Int) (L : List Br) (X : Cs), 0 ≤ i → i + n = 4 → TH T σ X t → LC (lawOf l L) t → XS X0 X → (∀ r u, flQ σ X0 P l c (zL T n t L) r u → Q r u) → Ev g 33 [some (.inr (.inr (3, 0))), some (.inl i)] [] (RZ σ X P (lawOf l L) c) := by
  have fin : ∀ (i t : Int) (L : List Br) (X : Cs), TH T σ X t → LC (lawOf l L) t → XS X0 X → (∀ r u, flQ σ X0 P l c (zE T t L) r u → Q r u) → Ev g 74 [some (.inr (.inr (3, 0))), some (.inl i)] [] (RZ σ X P (lawOf l L) c) := by
    intro i t L X h hl hs hQ
    unfold zE at hQ
    refine e_aload_n C d_Re_takeFlow_74 rfl ?_
    refine e_callIV C ok_Re_takeSum lk_Re_180 (o := 3) (by decide) rfl [] rfl rfl (Nat.le_of_ble_eq_true rfl) (by decide) (Nat.le_of_ble_eq_true rfl) d_Re_takeFlow_75 (k_Re_takeSum h hl.1 hl.2) (fun v_75 u_75 q_75 h_75 => ?_)
    cases hA : xE T t with
    | inl fp =>
      rw [hA] at h_75 hQ
      obtain ⟨b1, X2, l2, rfl, b3, b4⟩ := h_75
      rw [bnd_l] at hQ
      refine e_if_ne C 83 d_Re_takeFlow_78 (by decide) (by omega) (fun c_78 => ?_) (fun c_78 => ?_)
      · exact absurd b1 c_78
      · refine e_iconst C d_Re_takeFlow_81 ?_
        refine e_zret C F rfl d_Re_takeFlow_82 (by omega) ?_
        exact hQ _ _ ⟨rfl, _, _, rfl, b3, b4⟩
    | inr tp =>
      obtain ⟨o1, o2, o3, o4, o5, o6⟩ := h.ok hA
      rw [hA] at h_75 hQ
      obtain ⟨b1, X2, v1, rfl, b4, b5, b6, b7⟩ := h_75
      rw [bnd_r] at hQ
      obtain ⟨hl2, hl2a, hl2b⟩ := hl.cg o6 o5 o2
      have h2 := h.to (X' := X2) b5 (by omega) o2 o3
      have hv1 := hl2b v1 (by rw [b6]; exact List.mem_cons_self)
      have hb1 := hl2.1
      refine e_if_ne C 83 d_Re_takeFlow_78 (by decide) (by omega) (fun c_78 => ?_) (fun c_78 => ?_)
      · refine e_aload_n C d_Re_takeFlow_83 rfl ?_
        refine e_callVV C ok_Re_addEnd lk_Re_183 (o := 3) (by decide) rfl [] rfl rfl (Nat.le_of_ble_eq_true rfl) (by decide) (Nat.le_of_ble_eq_true rfl) d_Re_takeFlow_84 (k_Re_addEnd (v := v1) b7 (by omega) (by omega)) (fun u_84 h_84 => ?_)
        subst h_84
        have elf : addS (cg (lawOf l L) tp.2).1 5 v1 v1 = lawOf l (L ++ [(false, [], [], tp.2)]) := by rw [lawOf_app]; unfold cbr lf2; rw [if_neg (by show ¬ false = true; decide), b6, hdU_1]
        rw [elf]
        refine e_aload_n C d_Re_takeFlow_87 rfl ?_
        refine e_bipush C d_Re_takeFlow_88 (by decide) ?_
        refine e_callIV C ok_Re_take lk_Re_108 (o := 3) (by decide) rfl [_] rfl rfl (Nat.le_of_ble_eq_true rfl) (by decide) (Nat.le_of_ble_eq_true rfl) d_Re_takeFlow_90 (k_Re_take (h2.x (x' := cu X2 9 0 0) (cu_f (by decide))) (by omega)) (fun v_90 u_90 q_90 h_90 => ?_)
        refine e_zret C F rfl d_Re_takeFlow_93 (by rcases h_90 with ⟨_, _, z, _⟩ | ⟨_, z, _⟩ <;> omega) ?_
        refine hQ _ _ ?_
        rcases h_90 with ⟨fp, g1, g2, x3, g3, g4, g5⟩ | ⟨g1, g2, g3, g4, g5⟩
        · rw [g1, bnd_l]; exact ⟨g2, _, _, g3, g4, g5⟩
        · rw [g1, bnd_r]; exact ⟨g2, _, g5, (((hs.tr b4).wu (by omega)).wu (by omega)), cu_s _ _ _ _⟩
      · exact absurd c_78 (by omega)
  intro n
  induction n with
  | zero =>
    intro i t L X h0 h1 h hl hs hQ
    have hkr := h.1.k t
    unfold zL at hQ
    refine e_iload_n C d_Re_takeFlow_33 rfl ?_
    refine e_iconst C d_Re_takeFlow_34 ?_
    refine e_icmp_gt C 74 d_Re_takeFlow_35 (by decide) (by omega) (by omega) (fun c_35 => ?_) (fun c_35 => ?_)
    · exact absurd h1 (by omega)
    · refine e_aload_n C d_Re_takeFlow_38 rfl ?_
      refine e_callIV C ok_Re_kind lk_Re_72 (o := 3) (by decide) rfl [] rfl rfl (Nat.le_of_ble_eq_true rfl) (by decide) (Nat.le_of_ble_eq_true rfl) d_Re_takeFlow_39 (k_Re_kind h) (fun v_39 u_39 q_39 h_39 => ?_)
      obtain ⟨rfl, rfl⟩ := h_39
      refine e_sipush C d_Re_takeFlow_42 (by decide) ?_
      refine e_icmp_ne C 74 d_Re_takeFlow_45 (by decide) (by omega) (by omega) (fun c_45 => ?_) (fun c_45 => ?_)
      · rw [if_neg c_45] at hQ
        exact fin i t L X h hl hs hQ
      · rw [if_pos c_45] at hQ
        refine e_iload_n C d_Re_takeFlow_48 rfl ?_
        refine e_iconst C d_Re_takeFlow_49 ?_
        refine e_icmp_ne C 59 d_Re_takeFlow_50 (by decide) (by omega) (by omega) (fun c_50 => ?_) (fun c_50 => ?_)
        · exact absurd h1 (by omega)
        · refine e_aload_n C d_Re_takeFlow_53 rfl ?_
          refine e_iconst C d_Re_takeFlow_54 ?_
          refine e_callIV C ok_Re_refuse lk_Re_101 (o := 3) (by decide) rfl [_] rfl rfl (Nat.le_of_ble_eq_true rfl) (by decide) (Nat.le_of_ble_eq_true rfl) d_Re_takeFlow_55 (k_Re_refuse h (by omega)) (fun v_55 u_55 q_55 h_55 => ?_)
          obtain ⟨rfl, rfl⟩ := h_55
          refine e_zret C F rfl d_Re_takeFlow_58 (by omega) ?_
          exact hQ _ _ ⟨rfl, _, _, rfl, by rw [cu_f (by decide), cu_s], cu_s _ _ _ _⟩
  | succ n ih =>
    intro i t L X h0 h1 h hl hs hQ
    have hkr := h.1.k t
    have h0t := h.2.2.2.1
    unfold zL at hQ
    refine e_iload_n C d_Re_takeFlow_33 rfl ?_
    refine e_iconst C d_Re_takeFlow_34 ?_
    refine e_icmp_gt C 74 d_Re_takeFlow_35 (by decide) (by omega) (by omega) (fun c_35 => ?_) (fun c_35 => ?_)
    · exact absurd h1 (by omega)
    · refine e_aload_n C d_Re_takeFlow_38 rfl ?_
      refine e_callIV C ok_Re_kind lk_Re_72 (o := 3) (by decide) rfl [] rfl rfl (Nat.le_of_ble_eq_true rfl) (by decide) (Nat.le_of_ble_eq_true rfl) d_Re_takeFlow_39 (k_Re_kind h) (fun v_39 u_39 q_39 h_39 => ?_)
      obtain ⟨rfl, rfl⟩ := h_39
      refine e_sipush C d_Re_takeFlow_42 (by decide) ?_
      refine e_icmp_ne C 74 d_Re_takeFlow_45 (by decide) (by omega) (by omega) (fun c_45 => ?_) (fun c_45 => ?_)
      · rw [if_neg c_45] at hQ
        exact fin i t L X h hl hs hQ
      · rw [if_pos c_45] at hQ
        refine e_iload_n C d_Re_takeFlow_48 rfl ?_
        refine e_iconst C d_Re_takeFlow_49 ?_
        refine e_icmp_ne C 59 d_Re_takeFlow_50 (by decide) (by omega) (by omega) (fun c_50 => ?_) (fun c_50 => ?_)
        · refine e_aload_n C d_Re_takeFlow_59 rfl ?_
          refine e_callIV C ok_Re_takeIf lk_Re_177 (o := 3) (by decide) rfl [] rfl rfl (Nat.le_of_ble_eq_true rfl) (by decide) (Nat.le_of_ble_eq_true rfl) d_Re_takeFlow_60 (k_Re_takeIf h c_45 hl) (fun v_60 u_60 q_60 h_60 => ?_)
          cases hA : zIf T t with
          | inl fp =>
            rw [hA] at h_60 hQ
            obtain ⟨b1, X2, l2, rfl, b3, b4⟩ := h_60
            rw [bnd_l] at hQ
            refine e_if_ne C 68 d_Re_takeFlow_63 (by decide) (by omega) (fun c_63 => ?_) (fun c_63 => ?_)
            · exact absurd b1 c_63
            · refine e_iconst C d_Re_takeFlow_66 ?_
              refine e_zret C F rfl d_Re_takeFlow_67 (by omega) ?_
              exact hQ _ _ ⟨rfl, _, _, rfl, b3, b4⟩
          | inr p =>
            obtain ⟨o1, o2, o3, o4, o5, o6, o7⟩ := zIf_ok h.1 h0t (by omega) (show zIf T t = .inr (p.1, p.2) from hA)
            rw [hA] at h_60 hQ
            obtain ⟨b1, X2, rfl, b3, b4⟩ := h_60
            rw [bnd_r] at hQ
            refine e_if_ne C 68 d_Re_takeFlow_63 (by decide) (by omega) (fun c_63 => ?_) (fun c_63 => ?_)
            · refine e_iinc C d_Re_takeFlow_68 rfl (by decide) rfl ?_
              refine e_goto C 33 d_Re_takeFlow_71 (by decide) ?_
              rw [← lawOf_app]
              exact ih (i + 1) p.1 (L ++ [p.2]) X2 (by omega) (by omega) (h.to b4 (by omega) o2 o3) (by rw [lawOf_app]; exact hl.br o4 o6 o7 o2) (hs.tr b3) hQ
            · exact absurd c_63 (by omega)
        · exact absurd h1 (by omega)
theorem k_Re_takeFlow (h : TH T σ X t) (hk : T.1 t = 140) : CtI M_Re_takeFlow [.inr (.inr (3, 0))] (RZ σ X P l c) (fun r u => flQ σ X P l c (zFlow T t) r u) := by
  intro g C F
  have h0 := h.2.2.2.1
  unfold zFlow at F
  rw [← pMu_go hk] at F
  refine e_aload_n C d_Re_takeFlow_0 rfl ?_
  refine e_sipush C d_Re_takeFlow_1 (by decide) ?_
  refine e_callIV C ok_Re_take lk_Re_108 (o := 3) (by decide) rfl [_] rfl rfl (Nat.le_of_ble_eq_true rfl) (by decide) (Nat.le_of_ble_eq_true rfl) d_Re_takeFlow_4 (k_Re_take h (by omega)) (fun v_4 u_4 q_4 h_4 => ?_)
  refine e_if_eq C 19 d_Re_takeFlow_7 (by decide) (by omega) (fun c_7 => ?_) (fun c_7 => ?_)
  · obtain ⟨fp, a1, a2, x2, rfl, a4, a5⟩ := h_4.resolve_right (fun z => by have := z.2.1; omega)
    rw [a1, bnd_l] at F
    refine e_iconst C d_Re_takeFlow_19 ?_
    refine e_zret C F rfl d_Re_takeFlow_20 (by omega) ?_
    exact ⟨rfl, _, _, rfl, a4, a5⟩
  · obtain ⟨a1, a2, a3, a4, rfl⟩ := h_4.resolve_left (fun z => by obtain ⟨fp, _, z2, _⟩ := z; exact c_7 z2)
    rw [a1, bnd_r] at F
    have h1 := h.go (x' := cu X 11 0 (t + 1)) a3 (by omega) (cu_s _ _ _ _)
    refine e_aload_n C d_Re_takeFlow_10 rfl ?_
    refine e_bipush C d_Re_takeFlow_11 (by decide) ?_
    refine e_callIV C ok_Re_take lk_Re_108 (o := 3) (by decide) rfl [_] rfl rfl (Nat.le_of_ble_eq_true rfl) (by decide) (Nat.le_of_ble_eq_true rfl) d_Re_takeFlow_13 (k_Re_take h1 (by omega)) (fun v_13 u_13 q_13 h_13 => ?_)
    refine e_if_ne C 21 d_Re_takeFlow_16 (by decide) (by omega) (fun c_16 => ?_) (fun c_16 => ?_)
    · obtain ⟨d1, d2, d3, d4, rfl⟩ := h_13.resolve_left (fun z => by obtain ⟨fp, _, z2, _⟩ := z; exact c_16 z2)
      rw [d1, bnd_r] at F
      refine e_aload_n C d_Re_takeFlow_21 rfl ?_
      refine e_geto (o2 := 4) C fl_Re_14 (by decide) rfl rfl rfl d_Re_takeFlow_22 ?_
      refine e_geto (o2 := 5) C fl_Re_170 (by decide) rfl rfl rfl d_Re_takeFlow_25 ?_
      refine e_callVV C ok_La_clear lk_Re_174 (o := 5) (by decide) rfl [] rfl rfl (Nat.le_of_ble_eq_true rfl) (by decide) (Nat.le_of_ble_eq_true rfl) d_Re_takeFlow_28 (k_La_clear) (fun u_28 h_28 => ?_)
      subst h_28
      have e7 : clr l 7 0 = 0 := by unfold clr; rw [cu_f (by decide), cu_f (by decide), cu_f (by decide), cu_s]
      have e8 : clr l 8 0 = 0 := by unfold clr; rw [cu_f (by decide), cu_f (by decide), cu_s]
      refine e_iconst C d_Re_takeFlow_31 ?_
      refine e_istore_n C d_Re_takeFlow_32 (by decide) rfl ?_
      exact l_Re_takeFlow (l := l) C F 4 0 (t + 1 + 1) [] _ (by omega) (by omega) (h1.go d3 (by omega) (cu_s _ _ _ _)) (by show LC (clr l) _; exact ⟨by omega, by omega⟩) (((XS.rf X).wu (by omega)).wu (by omega)) (fun r u z => z)
    · obtain ⟨fp, d1, d2, x3, rfl, d4, d5⟩ := h_13.resolve_right (fun z => by have := z.2.1; omega)
      rw [d1, bnd_l] at F
      refine e_iconst C d_Re_takeFlow_19 ?_
      refine e_zret C F rfl d_Re_takeFlow_20 (by omega) ?_
      exact ⟨rfl, _, _, rfl, d4, d5⟩
/-- what holds of what was told so far -/
def ZJ (T : Tab) (z : Zs) : Prop := (0 ≤ zt z ∧ zt z ≤ 400) ∧ (zt z = 0 ∨ T.1 (zt z - 1) ≠ 128) ∧ (0 ≤ zp z 3 0 ∧ zp z 3 0 ≤ 8) ∧ (0 ≤ zp z 4 0 ∧ zp z 4 0 ≤ 12) ∧ zx z 10 0 = zp z 3 0 + zp z 4 0 ∧ zp z 1 0 = 0 ∧ RdC (zc z) ∧ 0 ≤ zc z 11 0
def tlQ (σ : St) (res : (Int × Int) ⊕ Zs) (r : Int) (u : St) : Prop := match res with
  | .inl fp => r = 0 ∧ FZ σ fp u
  | .inr z => r = 1 ∧ ∃ X', u = RZ σ X' (zp z) (zl z) (zc z) ∧ XZ X' (zx z) ∧ X' 11 0 = zt z
set_option maxHeartbeats 2000000 in
theorem k_Re_takeTell {z : Zs} (hz : ZJ T z) (h : TH T σ X (zt z)) (hx : XZ X (zx z)) : CtI M_Re_takeTell [.inr (.inr (3, 0))] (RZ σ X (zp z) (zl z) (zc z)) (fun r u => tlQ σ (zTell T z) r u) := by
  intro g C F
  obtain ⟨z1, z2, z3, z4, z5, z6, z7, z8⟩ := hz
  have hkr := h.1.k (zt z)
  unfold zTell at F
  refine e_aload_n C d_Re_takeTell_0 rfl ?_
  refine e_callIV C ok_Re_kind lk_Re_72 (o := 3) (by decide) rfl [] rfl rfl (Nat.le_of_ble_eq_true rfl) (by decide) (Nat.le_of_ble_eq_true rfl) d_Re_takeTell_1 (k_Re_kind h) (fun v_1 u_1 q_1 h_1 => ?_)
  obtain ⟨rfl, rfl⟩ := h_1
  by_cases s_4 : T.1 (zt z) < 137 ∨ 145 < T.1 (zt z)
  · refine e_tableOut C 81 d_Re_takeTell_4 (by omega) (by omega) (by decide) ?_
    refine e_aload_n C d_Re_takeTell_81 rfl ?_
    refine e_iconst C d_Re_takeTell_82 ?_
    refine e_callIV C ok_Re_refuse lk_Re_101 (o := 3) (by decide) rfl [_] rfl rfl (Nat.le_of_ble_eq_true rfl) (by decide) (Nat.le_of_ble_eq_true rfl) d_Re_takeTell_83 (k_Re_refuse h (by omega)) (fun v_83 u_83 q_83 h_83 => ?_)
    obtain ⟨rfl, rfl⟩ := h_83
    refine e_zret C F rfl d_Re_takeTell_86 (by omega) ?_
    rw [if_neg (by omega), if_neg (by omega), if_neg (by omega), if_neg (by omega), if_neg (by omega)]
    exact ⟨rfl, _, _, _, _, rfl, by rw [cu_f (by decide), cu_s], cu_s _ _ _ _, z6, z7⟩
  · rcases (show T.1 (zt z) = 137 ∨ T.1 (zt z) = 138 ∨ T.1 (zt z) = 139 ∨ T.1 (zt z) = 140 ∨ T.1 (zt z) = 141 ∨ T.1 (zt z) = 142 ∨ T.1 (zt z) = 143 ∨ T.1 (zt z) = 144 ∨ T.1 (zt z) = 145 by omega) with s_4_ | s_4_ | s_4_ | s_4_ | s_4_ | s_4_ | s_4_ | s_4_ | s_4_
    · refine e_tableIn (off := 52) C 56 d_Re_takeTell_4 (by omega) (by omega) (by omega) (by rw [s_4_]; rfl) (by decide) ?_
      refine e_aload_n C d_Re_takeTell_56 rfl ?_
      refine e_callIV C ok_Re_takePost lk_Re_86 (o := 3) (by decide) rfl [] rfl rfl (Nat.le_of_ble_eq_true rfl) (by decide) (Nat.le_of_ble_eq_true rfl) d_Re_takeTell_57 (k_Re_takePost h hx s_4_ z3 (by omega) z6 z7) (fun v_57 u_57 q_57 h_57 => ?_)
      refine e_zret C F rfl d_Re_takeTell_60 (by revert h_57; cases zPost T (zt z) (zx z) (zp z) (zc z) <;> (intro w; have := w.1; omega)) ?_
      rw [if_pos s_4_]
      revert h_57
      cases zPost T (zt z) (zx z) (zp z) (zc z) with
      | inl fp => exact fun w => w
      | inr p => exact fun w => w
    · refine e_tableIn (off := 57) C 61 d_Re_takeTell_4 (by omega) (by omega) (by omega) (by rw [s_4_]; rfl) (by decide) ?_
      refine e_aload_n C d_Re_takeTell_61 rfl ?_
      refine e_callIV C ok_Re_takeGuard lk_Re_89 (o := 3) (by decide) rfl [] rfl rfl (Nat.le_of_ble_eq_true rfl) (by decide) (Nat.le_of_ble_eq_true rfl) d_Re_takeTell_62 (k_Re_takeGuard h hx s_4_ z3 z4 (by omega) z6 z7 z8) (fun v_62 u_62 q_62 h_62 => ?_)
      refine e_zret C F rfl d_Re_takeTell_65 (by revert h_62; cases zGuard T (zt z) (zx z) (zp z) (zc z) <;> (intro w; have := w.1; omega)) ?_
      rw [if_neg (by omega), if_pos s_4_]
      revert h_62
      cases zGuard T (zt z) (zx z) (zp z) (zc z) with
      | inl fp => exact fun w => w
      | inr p => exact fun w => w
    · refine e_tableIn (off := 77) C 81 d_Re_takeTell_4 (by omega) (by omega) (by omega) (by rw [s_4_]; rfl) (by decide) ?_
      refine e_aload_n C d_Re_takeTell_81 rfl ?_
      refine e_iconst C d_Re_takeTell_82 ?_
      refine e_callIV C ok_Re_refuse lk_Re_101 (o := 3) (by decide) rfl [_] rfl rfl (Nat.le_of_ble_eq_true rfl) (by decide) (Nat.le_of_ble_eq_true rfl) d_Re_takeTell_83 (k_Re_refuse h (by omega)) (fun v_83 u_83 q_83 h_83 => ?_)
      obtain ⟨rfl, rfl⟩ := h_83
      refine e_zret C F rfl d_Re_takeTell_86 (by omega) ?_
      rw [if_neg (by omega), if_neg (by omega), if_neg (by omega), if_neg (by omega), if_neg (by omega)]
      exact ⟨rfl, _, _, _, _, rfl, by rw [cu_f (by decide), cu_s], cu_s _ _ _ _, z6, z7⟩
    · refine e_tableIn (off := 62) C 66 d_Re_takeTell_4 (by omega) (by omega) (by omega) (by rw [s_4_]; rfl) (by decide) ?_
      refine e_aload_n C d_Re_takeTell_66 rfl ?_
      refine e_callIV C ok_Re_takeFlow lk_Re_92 (o := 3) (by decide) rfl [] rfl rfl (Nat.le_of_ble_eq_true rfl) (by decide) (Nat.le_of_ble_eq_true rfl) d_Re_takeTell_67 (k_Re_takeFlow h s_4_) (fun v_67 u_67 q_67 h_67 => ?_)
      refine e_zret C F rfl d_Re_takeTell_70 (by revert h_67; cases zFlow T (zt z) <;> (intro w; have := w.1; omega)) ?_
      rw [if_neg (by omega), if_neg (by omega), if_pos s_4_]
      revert h_67
      cases zFlow T (zt z) with
      | inl fp => exact fun w => ⟨w.1, by obtain ⟨_, X2, l2, e, a, b⟩ := w; exact ⟨X2, _, l2, _, e, a, b, z6, z7⟩⟩
      | inr p => exact fun w => ⟨w.1, by obtain ⟨_, X2, e, a, b⟩ := w; exact ⟨X2, e, hx.xs a, b⟩⟩
    · refine e_tableIn (off := 77) C 81 d_Re_takeTell_4 (by omega) (by omega) (by omega) (by rw [s_4_]; rfl) (by decide) ?_
      refine e_aload_n C d_Re_takeTell_81 rfl ?_
      refine e_iconst C d_Re_takeTell_82 ?_
      refine e_callIV C ok_Re_refuse lk_Re_101 (o := 3) (by decide) rfl [_] rfl rfl (Nat.le_of_ble_eq_true rfl) (by decide) (Nat.le_of_ble_eq_true rfl) d_Re_takeTell_83 (k_Re_refuse h (by omega)) (fun v_83 u_83 q_83 h_83 => ?_)
      obtain ⟨rfl, rfl⟩ := h_83
      refine e_zret C F rfl d_Re_takeTell_86 (by omega) ?_
      rw [if_neg (by omega), if_neg (by omega), if_neg (by omega), if_neg (by omega), if_neg (by omega)]
      exact ⟨rfl, _, _, _, _, rfl, by rw [cu_f (by decide), cu_s], cu_s _ _ _ _, z6, z7⟩
    · refine e_tableIn (off := 77) C 81 d_Re_takeTell_4 (by omega) (by omega) (by omega) (by rw [s_4_]; rfl) (by decide) ?_
      refine e_aload_n C d_Re_takeTell_81 rfl ?_
      refine e_iconst C d_Re_takeTell_82 ?_
      refine e_callIV C ok_Re_refuse lk_Re_101 (o := 3) (by decide) rfl [_] rfl rfl (Nat.le_of_ble_eq_true rfl) (by decide) (Nat.le_of_ble_eq_true rfl) d_Re_takeTell_83 (k_Re_refuse h (by omega)) (fun v_83 u_83 q_83 h_83 => ?_)
      obtain ⟨rfl, rfl⟩ := h_83
      refine e_zret C F rfl d_Re_takeTell_86 (by omega) ?_
      rw [if_neg (by omega), if_neg (by omega), if_neg (by omega), if_neg (by omega), if_neg (by omega)]
      exact ⟨rfl, _, _, _, _, rfl, by rw [cu_f (by decide), cu_s], cu_s _ _ _ _, z6, z7⟩
    · refine e_tableIn (off := 77) C 81 d_Re_takeTell_4 (by omega) (by omega) (by omega) (by rw [s_4_]; rfl) (by decide) ?_
      refine e_aload_n C d_Re_takeTell_81 rfl ?_
      refine e_iconst C d_Re_takeTell_82 ?_
      refine e_callIV C ok_Re_refuse lk_Re_101 (o := 3) (by decide) rfl [_] rfl rfl (Nat.le_of_ble_eq_true rfl) (by decide) (Nat.le_of_ble_eq_true rfl) d_Re_takeTell_83 (k_Re_refuse h (by omega)) (fun v_83 u_83 q_83 h_83 => ?_)
      obtain ⟨rfl, rfl⟩ := h_83
      refine e_zret C F rfl d_Re_takeTell_86 (by omega) ?_
      rw [if_neg (by omega), if_neg (by omega), if_neg (by omega), if_neg (by omega), if_neg (by omega)]
      exact ⟨rfl, _, _, _, _, rfl, by rw [cu_f (by decide), cu_s], cu_s _ _ _ _, z6, z7⟩
    · refine e_tableIn (off := 67) C 71 d_Re_takeTell_4 (by omega) (by omega) (by omega) (by rw [s_4_]; rfl) (by decide) ?_
      refine e_aload_n C d_Re_takeTell_71 rfl ?_
      refine e_callIV C ok_Re_takeDamp lk_Re_95 (o := 3) (by decide) rfl [] rfl rfl (Nat.le_of_ble_eq_true rfl) (by decide) (Nat.le_of_ble_eq_true rfl) d_Re_takeTell_72 (k_Re_takeDamp h hx s_4_ z6 z7) (fun v_72 u_72 q_72 h_72 => ?_)
      refine e_zret C F rfl d_Re_takeTell_75 (by revert h_72; cases zDamp T (zt z) (zx z) (zp z) <;> (intro w; have := w.1; omega)) ?_
      rw [if_neg (by omega), if_neg (by omega), if_neg (by omega), if_pos s_4_]
      revert h_72
      cases zDamp T (zt z) (zx z) (zp z) with
      | inl fp => exact fun w => w
      | inr p => exact fun w => w
    · refine e_tableIn (off := 72) C 76 d_Re_takeTell_4 (by omega) (by omega) (by omega) (by rw [s_4_]; rfl) (by decide) ?_
      refine e_aload_n C d_Re_takeTell_76 rfl ?_
      refine e_callIV C ok_Re_takeSleep lk_Re_98 (o := 3) (by decide) rfl [] rfl rfl (Nat.le_of_ble_eq_true rfl) (by decide) (Nat.le_of_ble_eq_true rfl) d_Re_takeTell_77 (k_Re_takeSleep h hx s_4_ z6 z7) (fun v_77 u_77 q_77 h_77 => ?_)
      refine e_zret C F rfl d_Re_takeTell_80 (by revert h_77; cases zSleep T (zt z) (zx z) (zp z) <;> (intro w; have := w.1; omega)) ?_
      rw [if_neg (by omega), if_neg (by omega), if_neg (by omega), if_neg (by omega), if_pos s_4_]
      revert h_77
      cases zSleep T (zt z) (zx z) (zp z) with
      | inl fp => exact fun w => w
      | inr p => exact fun w => w
end RR
