/-! the class reads a text: readText -/
section RT2
variable {T : Tab} {σ : St}
def ZA (T : Tab) (z : Zs) : Prop := ZJ T z ∧ ZB z ∧ LwI (zl z) (zb z)
theorem zTell_A {z z' : Zs} (hT : TF T) (h : ZA T z) (e : zTell T z = .inr z') : ZA T z' := ⟨(zTell_J hT h.1 e).1, zTell_B hT h.1 h.2.1 e, zTell_L hT h.1.1 h.2.2 e⟩
theorem zTells_A (hT : TF T) : ∀ (n : Nat) (z z' : Zs), ZA T z → zTells T n z = .inr z' → ZA T z'
  | 0, z, z', h, e => by unfold zTells at e; cases e; exact h
  | n + 1, z, z', h, e => by
    unfold zTells at e
    by_cases c : T.1 (zt z) = 128
    · rw [if_pos c] at e; cases e; exact h
    · rw [if_neg c] at e
      obtain ⟨z1, e1, e2⟩ := bnd_i e
      exact zTells_A hT n z1 z' (zTell_A hT h e1) e2
/-- how a text begins -/
def rdN (X : Cs) : Cs := cu (cu (cu (cu (cu X 10 0 0) 11 0 0) 12 0 0) 15 0 0) 2 0 (-1)
def zN (X P l c : Cs) : Zs := (0, rdN X, plN P, addS (clr l) 5 0 0, c_empty c, [brD])
theorem c_empty_f {c : Cs} {f : Nat} {k : Int} (h2 : f ≠ 2) (h6 : f ≠ 6) (h11 : f ≠ 11) : c_empty c f k = c f k := by
  unfold c_empty c_none
  rw [cu_f h11]
  rw [if_neg (fun z => h2 z.1), if_neg (fun z => h6 z.1)]
theorem zN_A {X P l c : Cs} (hP : P 1 0 = 0) (hc : RdC c) : ZA T (zN X P l c) := by
  have e3 : plN P 3 0 = 0 := by unfold plN; rw [cu_f (by decide), cu_f (by decide), cu_f (by decide), cu_s]
  have e4 : plN P 4 0 = 0 := by unfold plN; rw [cu_f (by decide), cu_f (by decide), cu_s]
  have e5 : plN P 5 0 = 0 := by unfold plN; rw [cu_f (by decide), cu_s]
  have e6 : plN P 6 0 = 60 := by unfold plN; rw [cu_s]
  have e1 : plN P 1 0 = 0 := by unfold plN; rw [cu_f (by decide), cu_f (by decide), cu_f (by decide), cu_f (by decide)]; exact hP
  have x10 : rdN X 10 0 = 0 := by unfold rdN; rw [cu_f (by decide), cu_f (by decide), cu_f (by decide), cu_f (by decide), cu_s]
  have x15 : rdN X 15 0 = 0 := by unfold rdN; rw [cu_f (by decide), cu_s]
  have x2 : rdN X 2 0 = -1 := by unfold rdN; rw [cu_s]
  have c11 : c_empty c 11 0 = 0 := cu_s _ _ _ _
  have c2 : ∀ p, 0 ≤ p → p < 8 → c_empty c 2 p = -2 := fun p a b => by unfold c_empty c_none; rw [cu_f (by decide)]; rw [if_pos ⟨rfl, a, b⟩]
  have c6 : ∀ p, 0 ≤ p → p < 12 → c_empty c 6 p = -2 := fun p a b => by unfold c_empty c_none; rw [cu_f (by decide)]; rw [if_neg (by omega), if_pos ⟨rfl, a, b⟩]
  refine ⟨⟨⟨by show (0 : Int) ≤ 0; omega, by show (0 : Int) ≤ 400; omega⟩, Or.inl rfl, ?_, ?_, ?_, e1, ?_, ?_⟩, ⟨⟨?_, ?_⟩, ⟨?_, x2⟩, ⟨?_, ?_⟩, ?_⟩, LwI_0 l⟩
  · show 0 ≤ plN P 3 0 ∧ plN P 3 0 ≤ 8; omega
  · show 0 ≤ plN P 4 0 ∧ plN P 4 0 ≤ 12; omega
  · show rdN X 10 0 = plN P 3 0 + plN P 4 0; omega
  · show RdC (c_empty c)
    exact ⟨fun f k a b d => by rw [c_empty_f (by omega) (by omega) (by omega)]; exact hc.1 f k a b d, fun f k a b d e => by rw [c_empty_f (by omega) (by omega) (by omega)]; exact hc.2.1 f k a b d e, by rw [c_empty_f (by omega) (by omega) (by omega)]; exact hc.2.2.1, fun f k a b d => by rw [c_empty_f (by omega) (by omega) (by omega)]; exact hc.2.2.2 f k a b d⟩
  · show 0 ≤ c_empty c 11 0; omega
  · show 0 ≤ plN P 5 0 ∧ plN P 5 0 ≤ 24; omega
  · show 0 ≤ plN P 6 0 ∧ plN P 6 0 ≤ 9999; omega
  · show 0 ≤ rdN X 15 0; omega
  · intro p a b
    have a : plN P 3 0 ≤ p := a
    exact c2 p (by omega) b
  · intro p a b
    have a : plN P 4 0 ≤ p := a
    exact c6 p (by omega) b
  · intro _
    show PO (plN P) (c_empty c)
    unfold PO PW
    rw [e3, e4, c11]
    exact ⟨fun f p _ a b => by omega, ⟨by omega, fun k a b => by omega, fun j k a b d => by omega, fun p a b => by omega, fun g a b => by omega⟩, fun j k a b d => by omega⟩
/-- how a text ends -/
def rtQ (σ : St) (res : (Int × Int) ⊕ Zs) (r : Int) (u : St) : Prop := match res with
  | .inl fp => r = fp.1 ∧ FZ σ fp u
  | .inr z => (zx z 15 0 ≠ 0 ∧ r = zx z 15 0 ∧ ∃ X, u = RZ σ X (zp z) (zl z) (zc z) ∧ X 2 0 = zx z 16 0) ∨ (zx z 15 0 = 0 ∧ r = 0 ∧ ∃ X P' l', u = RZ σ X P' l' (zc z) ∧ X 2 0 = -1 ∧ LSm (zl z) l' ∧ StP (zp z) P' (zl z) (phi (zb z)))
theorem l_Re_readText3 {g : Mach} {Q : Int → St → Prop} (C : Cx M_Re_readText g) (F : FinI M_Re_readText g Q) {z : Zs} {X : Cs} {i : Int} (hA : ZA T z) (hx : XZ X (zx z)) (hQ : ∀ r u, rtQ σ (.inr z) r u → Q r u) :
    Ev g 84 [some (.inr (.inr (3, 0))), some (.inr (.inr (2, 0))), some (.inl i)] [] (RZ σ X (zp z) (zl z) (zc z)) := by
  have e15 : X 15 0 = zx z 15 0 := hx.2.2.2.1
  have e16 : X 16 0 = zx z 16 0 := hx.2.2.2.2.1
  have e2 : X 2 0 = -1 := by rw [hx.2.2.2.2.2]; exact hA.2.1.2.1.2
  refine e_aload_n C d_Re_readText_84 rfl ?_
  refine e_geti C fl_Re_66 (by decide) rfl rfl d_Re_readText_85 (fun r_85 => ?_)
  try simp only [RZ_3, RZ_w3, wr_so, e15, e16, cu_f, ne_eq, Nat.reduceEqDiff, not_false_eq_true] at r_85 ⊢
  refine e_if_eq C 104 d_Re_readText_88 (by decide) (by omega) (fun c_88 => ?_) (fun c_88 => ?_)
  · refine e_aload_n C d_Re_readText_104 rfl ?_
    refine e_geto (o2 := 4) C fl_Re_14 (by decide) rfl rfl rfl d_Re_readText_105 ?_
    refine e_callVV C ok_Pl_settle lk_Re_83 (o := 4) (by decide) rfl [] rfl rfl (Nat.le_of_ble_eq_true rfl) (by decide) (Nat.le_of_ble_eq_true rfl) d_Re_readText_108 (k_Pl_settle (φ := phi (zb z)) hA.1.2.2.1 hA.2.1.1.1 hA.2.2.is) (fun u_108 h_108 => ?_)
    refine e_iconst C d_Re_readText_111 ?_
    refine e_iret C F rfl d_Re_readText_112 (by omega) ?_
    obtain ⟨P', l', rfl, b1, b2⟩ := h_108
    exact hQ _ _ (Or.inr ⟨by omega, rfl, _, _, _, rfl, e2, b1, b2⟩)
  · refine e_aload_n C d_Re_readText_91 rfl ?_
    refine e_aload_n C d_Re_readText_92 rfl ?_
    refine e_geti C fl_Re_80 (by decide) rfl rfl d_Re_readText_93 (fun r_93 => ?_)
    try simp only [RZ_3, RZ_w3, wr_so, e15, e16, cu_f, ne_eq, Nat.reduceEqDiff, not_false_eq_true] at r_93 ⊢
    refine e_puti C fp_Re_69 (by decide) rfl rfl (by omega) d_Re_readText_96 ?_
    try simp only [RZ_3, RZ_w3, wr_so, e15, e16, cu_f, ne_eq, Nat.reduceEqDiff, not_false_eq_true]
    refine e_aload_n C d_Re_readText_99 rfl ?_
    refine e_geti C fl_Re_66 (by decide) rfl rfl d_Re_readText_100 (fun r_100 => ?_)
    try simp only [RZ_3, RZ_w3, wr_so, e15, e16, cu_f, ne_eq, Nat.reduceEqDiff, not_false_eq_true] at r_100 ⊢
    refine e_iret C F rfl d_Re_readText_103 (by omega) ?_
    exact hQ _ _ (Or.inl ⟨c_88, rfl, _, rfl, cu_s _ _ _ _⟩)
theorem l_Re_readText {g : Mach} {Q : Int → St → Prop} (C : Cx M_Re_readText g) (F : FinI M_Re_readText g Q) (hT : TF T) (hTC : TC T (σ 6)) :
    ∀ (n : Nat) (i : Int) (z : Zs) (X : Cs), 0 ≤ i → i + n = 401 → X 11 0 = zt z → XZ X (zx z) → ZA T z → (∀ r u, rtQ σ (zTells T n z) r u → Q r u) → Ev g 49 [some (.inr (.inr (3, 0))), some (.inr (.inr (2, 0))), some (.inl i)] [] (RZ σ X (zp z) (zl z) (zc z)) := by
  intro n
  induction n with
  | zero =>
    intro i z X h0 h1 ht hx hA hQ
    refine e_iload_n C d_Re_readText_49 rfl ?_
    refine e_sipush C d_Re_readText_50 (by decide) ?_
    refine e_icmp_gt C 84 d_Re_readText_53 (by decide) (by omega) (by omega) (fun c_53 => ?_) (fun c_53 => ?_)
    · exact l_Re_readText3 C F hA hx hQ
    · exact absurd h1 (by omega)
  | succ n ih =>
    intro i z X h0 h1 ht hx hA hQ
    have h : TH T σ X (zt z) := ⟨hT, hTC, ht, hA.1.1, hA.1.2.1⟩
    have hk := hT.k (zt z)
    unfold zTells at hQ
    refine e_iload_n C d_Re_readText_49 rfl ?_
    refine e_sipush C d_Re_readText_50 (by decide) ?_
    refine e_icmp_gt C 84 d_Re_readText_53 (by decide) (by omega) (by omega) (fun c_53 => ?_) (fun c_53 => ?_)
    · exact absurd h1 (by omega)
    · refine e_aload_n C d_Re_readText_56 rfl ?_
      refine e_callIV C ok_Re_kind lk_Re_72 (o := 3) (by decide) rfl [] rfl rfl (Nat.le_of_ble_eq_true rfl) (by decide) (Nat.le_of_ble_eq_true rfl) d_Re_readText_57 (k_Re_kind h) (fun v_57 u_57 q_57 h_57 => ?_)
      obtain ⟨rfl, e_57⟩ := h_57
      rw [e_57]
      refine e_sipush C d_Re_readText_60 (by decide) ?_
      refine e_icmp_eq C 84 d_Re_readText_63 (by decide) (by omega) (by omega) (fun c_63 => ?_) (fun c_63 => ?_)
      · rw [if_pos c_63] at hQ
        exact l_Re_readText3 C F hA hx hQ
      · rw [if_neg c_63] at hQ
        refine e_aload_n C d_Re_readText_66 rfl ?_
        refine e_callIV C ok_Re_takeTell lk_Re_76 (o := 3) (by decide) rfl [] rfl rfl (Nat.le_of_ble_eq_true rfl) (by decide) (Nat.le_of_ble_eq_true rfl) d_Re_readText_67 (k_Re_takeTell hA.1 h hx) (fun v_67 u_67 q_67 h_67 => ?_)
        refine e_if_ne C 78 d_Re_readText_70 (by decide) (by revert h_67; cases zTell T z <;> (intro w; have := w.1; omega)) (fun c_70 => ?_) (fun c_70 => ?_)
        · cases hE : zTell T z with
          | inl fp =>
            rw [hE] at h_67
            exact absurd h_67.1 c_70
          | inr z' =>
            rw [hE] at h_67 hQ
            obtain ⟨_, X2, rfl, b1, b2⟩ := h_67
            refine e_iinc C d_Re_readText_78 rfl (by decide) rfl ?_
            refine e_goto C 49 d_Re_readText_81 (by decide) ?_
            exact ih (i + 1) z' X2 (by omega) (by omega) b2 b1 (zTell_A hT hA hE) hQ
        · cases hE : zTell T z with
          | inl fp =>
            rw [hE] at h_67 hQ
            obtain ⟨_, X2, P2, l2, c2, rfl, b1, b2, b3, b4⟩ := h_67
            refine e_aload_n C d_Re_readText_73 rfl ?_
            refine e_geti C fl_Re_63 (by decide) rfl rfl d_Re_readText_74 (fun r_74 => ?_)
            try simp only [RZ_3, b1] at r_74 ⊢
            refine e_iret C F rfl d_Re_readText_77 (by omega) ?_
            exact hQ _ _ ⟨rfl, _, _, _, _, rfl, b1, b2, b3, b4⟩
          | inr z' =>
            rw [hE] at h_67
            exact absurd h_67.1 (by omega)
theorem k_Re_readText (hz : 0 ≤ σ 2 1 0 ∧ σ 2 1 0 ≤ 2000) (hP : σ 4 1 0 = 0) (hc : RdC (σ 16)) : CtI M_Re_readText [.inr (.inr (3, 0)), .inr (.inr (2, 0))] σ (fun r u => ∃ d' : Cs, rtQ (so σ 6 d') (zTells (tbl (σ 2 0) (σ 2 1 0)) 401 (zN (σ 3) (σ 4) (σ 5) (σ 16))) r u) := by
  intro g C F
  refine e_aload_n C d_Re_readText_0 rfl ?_
  refine e_geto (o2 := 6) C fl_Re_28 (by decide) rfl rfl rfl d_Re_readText_1 ?_
  refine e_aload_n C d_Re_readText_4 rfl ?_
  refine e_callVV C ok_To_cut lk_Re_46 (o := 6) (by decide) rfl [_] rfl rfl (Nat.le_of_ble_eq_true rfl) (by decide) (Nat.le_of_ble_eq_true rfl) d_Re_readText_5 (k_To_cut hz) (fun u_5 h_5 => ?_)
  obtain ⟨d', hd, rfl⟩ := h_5
  have eR : so σ 6 d' = RZ (so σ 6 d') (σ 3) (σ 4) (σ 5) (σ 16) := by
    have := RZ_id (so σ 6 d')
    rw [so_ne (by decide), so_ne (by decide), so_ne (by decide), so_ne (by decide)] at this
    exact this.symm
  rw [eR]
  refine e_aload_n C d_Re_readText_8 rfl ?_
  refine e_geto (o2 := 4) C fl_Re_14 (by decide) rfl rfl rfl d_Re_readText_9 ?_
  refine e_callVV C ok_Pl_clear lk_Re_50 (o := 4) (by decide) rfl [] rfl rfl (Nat.le_of_ble_eq_true rfl) (by decide) (Nat.le_of_ble_eq_true rfl) d_Re_readText_12 (k_Pl_clear) (fun u_12 h_12 => ?_)
  subst h_12
  refine e_aload_n C d_Re_readText_15 rfl ?_
  refine e_geto (o2 := 16) C fl_Re_21 (by decide) rfl rfl rfl d_Re_readText_16 ?_
  refine e_callVV C ok_Ca_leaveAll lk_Re_53 (o := 16) (by decide) rfl [] rfl rfl (Nat.le_of_ble_eq_true rfl) (by decide) (Nat.le_of_ble_eq_true rfl) d_Re_readText_19 (k_Ca_leaveAll (by decide)) (fun u_19 h_19 => ?_)
  subst h_19
  rw [RZ_16, RZ_w16]
  refine e_aload_n C d_Re_readText_22 rfl ?_
  refine e_iconst C d_Re_readText_23 ?_
  refine e_puti C fp_Re_56 (by decide) rfl rfl (by omega) d_Re_readText_24 ?_
  refine e_aload_n C d_Re_readText_27 rfl ?_
  refine e_iconst C d_Re_readText_28 ?_
  refine e_puti C fp_Re_60 (by decide) rfl rfl (by omega) d_Re_readText_29 ?_
  refine e_aload_n C d_Re_readText_32 rfl ?_
  refine e_iconst C d_Re_readText_33 ?_
  refine e_puti C fp_Re_63 (by decide) rfl rfl (by omega) d_Re_readText_34 ?_
  refine e_aload_n C d_Re_readText_37 rfl ?_
  refine e_iconst C d_Re_readText_38 ?_
  refine e_puti C fp_Re_66 (by decide) rfl rfl (by omega) d_Re_readText_39 ?_
  refine e_aload_n C d_Re_readText_42 rfl ?_
  refine e_iconst C d_Re_readText_43 ?_
  refine e_puti C fp_Re_69 (by decide) rfl rfl (by omega) d_Re_readText_44 ?_
  refine e_iconst C d_Re_readText_47 ?_
  refine e_istore_n C d_Re_readText_48 (by decide) rfl ?_
  simp only [RZ_w3, RZ_3, wr_so]
  exact l_Re_readText (σ := so σ 6 d') C F (tbl_ok hz) (by rw [so_at]; exact hd) 401 0 (zN (σ 3) (σ 4) (σ 5) (σ 16)) (rdN (σ 3)) (by omega) (by omega) (by unfold rdN; rw [cu_f (by decide), cu_f (by decide), cu_f (by decide), cu_s]; rfl) ⟨rfl, rfl, rfl, rfl, rfl, rfl⟩ (zN_A hP hc) (fun r u q => ⟨d', q⟩)
end RT2
