/-! the class's expressions -/
theorem k_Re_addUnit {T : Tab} {σ : St} {x P l c : Cs} {t n : Int} (h : TH T σ x t) (hn : x 9 0 = n) (h9 : 0 ≤ n ∧ n < 21) (h8 : 0 ≤ l 8 0 ∧ l 8 0 < 400) : CtI M_Re_addUnit [.inr (.inr (3, 0)), .inl (T.1 t)] (RZ σ x P l c) (fun r u => (T.1 t = 131 ∧ r = 1 ∧ u = RZ σ (cu (cu x 9 0 (n + 1)) 8 n (6 + l 8 0)) P (useI l (T.2.2.1 t)) c) ∨ ((132 ≤ T.1 t ∧ T.1 t ≤ 137) ∧ r = 1 ∧ u = RZ σ (cu (cu x 9 0 (n + 1)) 8 n (T.1 t - 132)) P (useV l (T.1 t - 132)) c) ∨ ((T.1 t < 131 ∨ 137 < T.1 t) ∧ r = 0 ∧ u = RZ σ x P l c)) := by
  intro g C F
  have e := h.2.2.1
  have h0 := h.2.2.2.1
  have hk := h.1.k t
  refine e_iload_n C d_Re_addUnit_0 rfl ?_
  refine e_sipush C d_Re_addUnit_1 (by decide) ?_
  refine e_icmp_ne C 35 d_Re_addUnit_4 (by decide) (by omega) (by omega) (fun c_4 => ?_) (fun c_4 => ?_)
  · refine e_iload_n C d_Re_addUnit_35 rfl ?_
    refine e_sipush C d_Re_addUnit_36 (by decide) ?_
    refine e_icmp_lt C 72 d_Re_addUnit_39 (by decide) (by omega) (by omega) (fun c_39 => ?_) (fun c_39 => ?_)
    · refine e_iconst C d_Re_addUnit_72 ?_
      refine e_zret C F rfl d_Re_addUnit_73 (by omega) ?_
      exact Or.inr (Or.inr ⟨by omega, rfl, rfl⟩)
    · refine e_iload_n C d_Re_addUnit_42 rfl ?_
      refine e_sipush C d_Re_addUnit_43 (by decide) ?_
      refine e_icmp_gt C 72 d_Re_addUnit_46 (by decide) (by omega) (by omega) (fun c_46 => ?_) (fun c_46 => ?_)
      · refine e_iconst C d_Re_addUnit_72 ?_
        refine e_zret C F rfl d_Re_addUnit_73 (by omega) ?_
        exact Or.inr (Or.inr ⟨by omega, rfl, rfl⟩)
      · refine e_aload_n C d_Re_addUnit_49 rfl ?_
        refine e_aload_n C d_Re_addUnit_50 rfl ?_
        refine e_geto (o2 := 4) C fl_Re_14 (by decide) rfl rfl rfl d_Re_addUnit_51 ?_
        refine e_geto (o2 := 5) C fl_Re_170 (by decide) rfl rfl rfl d_Re_addUnit_54 ?_
        refine e_iconst C d_Re_addUnit_57 ?_
        refine e_iload_n C d_Re_addUnit_58 rfl ?_
        refine e_iadd C d_Re_addUnit_59 ?_
        refine e_sipush C d_Re_addUnit_60 (by decide) ?_
        refine e_isub C d_Re_addUnit_63 ?_
        rw [show 0 + T.1 t - 132 = T.1 t - 132 by omega]
        refine e_callIV C ok_La_useVariable lk_Re_224 (o := 5) (by decide) rfl [_] rfl rfl (Nat.le_of_ble_eq_true rfl) (by decide) (Nat.le_of_ble_eq_true rfl) d_Re_addUnit_64 (k_La_useVariable (by omega)) (fun v_64 u_64 q_64 h_64 => ?_)
        obtain ⟨rfl, rfl⟩ := h_64
        refine e_callVV C ok_Re_pushUnit lk_Re_221 (o := 3) (by decide) rfl [_] rfl rfl (Nat.le_of_ble_eq_true rfl) (by decide) (Nat.le_of_ble_eq_true rfl) d_Re_addUnit_67 (k_Re_pushUnit hn h9 (by omega)) (fun u_67 h_67 => ?_)
        subst h_67
        refine e_iconst C d_Re_addUnit_70 ?_
        refine e_zret C F rfl d_Re_addUnit_71 (by omega) ?_
        exact Or.inr (Or.inl ⟨⟨by omega, by omega⟩, rfl, rfl⟩)
  · have e2 := h.tok.2.2.1 c_4
    have hv := h.1.2.2.2.1 t c_4
    refine e_aload_n C d_Re_addUnit_7 rfl ?_
    refine e_aload_n C d_Re_addUnit_8 rfl ?_
    refine e_geto (o2 := 4) C fl_Re_14 (by decide) rfl rfl rfl d_Re_addUnit_9 ?_
    refine e_geto (o2 := 5) C fl_Re_170 (by decide) rfl rfl rfl d_Re_addUnit_12 ?_
    refine e_aload_n C d_Re_addUnit_15 rfl ?_
    refine e_geto (o2 := 6) C fl_Re_28 (by decide) rfl rfl rfl d_Re_addUnit_16 ?_
    refine e_geta C fl_Re_215 (by decide) rfl rfl d_Re_addUnit_19 ?_
    refine e_aload_n C d_Re_addUnit_22 rfl ?_
    refine e_geti C fl_Re_60 (by decide) rfl rfl d_Re_addUnit_23 (fun r_23 => ?_)
    try simp only [RZ_3, RZ_6, e] at r_23 ⊢
    refine e_iald (n := 402) C (by decide) rfl (by decide) rfl rfl (by decide) (by omega) (by omega) d_Re_addUnit_26 (fun r_26 => ?_)
    try simp only [RZ_3, RZ_6, e] at r_26 ⊢
    rw [e2]
    refine e_callIV C ok_La_useInt lk_Re_218 (o := 5) (by decide) rfl [_] rfl rfl (Nat.le_of_ble_eq_true rfl) (by decide) (Nat.le_of_ble_eq_true rfl) d_Re_addUnit_27 (k_La_useInt h8 (by omega)) (fun v_27 u_27 q_27 h_27 => ?_)
    obtain ⟨rfl, rfl⟩ := h_27
    refine e_callVV C ok_Re_pushUnit lk_Re_221 (o := 3) (by decide) rfl [_] rfl rfl (Nat.le_of_ble_eq_true rfl) (by decide) (Nat.le_of_ble_eq_true rfl) d_Re_addUnit_30 (k_Re_pushUnit hn h9 (by omega)) (fun u_30 h_30 => ?_)
    subst h_30
    refine e_iconst C d_Re_addUnit_33 ?_
    refine e_zret C F rfl d_Re_addUnit_34 (by omega) ?_
    exact Or.inl ⟨c_4, rfl, rfl⟩
def sumQ (σ : St) (x0 P l0 c : Cs) (res : (Int × Int) ⊕ (Int × List Cd)) (r : Int) (u : St) : Prop := match res with
  | .inl fp => r = 0 ∧ ∃ x' l' : Cs, u = RZ σ x' P l' c ∧ x' 12 0 = fp.1 ∧ x' 2 0 = fp.2
  | .inr tp => r = 1 ∧ ∃ (x' : Cs) (v : Int), u = RZ σ x' P (cg l0 tp.2).1 c ∧ XS x0 x' ∧ x' 11 0 = tp.1 ∧ (cg l0 tp.2).2 = [v] ∧ XC x' [] [v]
theorem XS.tr {x y z : Cs} (h : XS x y) (h2 : XS y z) : XS x z := fun f a b c d e => (h2 f a b c d e).trans (h f a b c d e)
theorem rel_mem {r : Int} {P : Int → Prop} : ∀ (ws : List Int) (pf : List Cd), (∀ w ∈ ws, P w) → ∀ w ∈ (rel r ws pf).1, P w
  | [], _, h => h
  | v :: ws, pf, h => by
    by_cases c : r ≤ rnk v
    · have e : rel r (v :: ws) pf = rel r ws (pf ++ [(opc v, 0)]) := by show (if r ≤ rnk v then _ else _) = _; rw [if_pos c]
      rw [e]
      exact rel_mem ws _ (fun w hw => h w (List.mem_cons_of_mem _ hw))
    · have e : rel r (v :: ws) pf = (v :: ws, pf) := by show (if r ≤ rnk v then _ else _) = _; rw [if_neg c]
      rw [e]
      exact h
set_option maxHeartbeats 4000000 in
theorem l_Re_takeSum {g : Mach} {Q : Int → St → Prop} (C : Cx M_Re_takeSum g) (F : FinI M_Re_takeSum g Q) {T : Tab} {σ : St} {x0 P l0 c : Cs} {t0 : Int} (h7 : 0 ≤ l0 7 0 ∧ l0 7 0 + 1 ≤ t0) (h8 : 0 ≤ l0 8 0 ∧ l0 8 0 + 1 ≤ t0) :
    ∀ (n : Nat) (i t : Int) (w : Bool) (ws : List Int) (pf : List Cd) (x : Cs), 0 ≤ i → i + n = 401 → XI T t0 t w ws pf → TH T σ x t → XC x ws (cg l0 pf).2 → (∀ v ∈ ws, R32 v) → XS x0 x → (∀ r u, sumQ σ x0 P l0 c (xrun T n t w ws pf) r u → Q r u) → Ev g 16 [some (.inr (.inr (3, 0))), some (.inl (nop ws)), some (.inl (if w = true then 1 else 0)), some (.inl i), none] [] (RZ σ x P (cg l0 pf).1 c) := by
  intro n
  induction n with
  | zero =>
    intro i t w ws pf x h0 h1 hI hT hX hW hS hQ
    refine e_iload_n C d_Re_takeSum_16 rfl ?_
    refine e_sipush C d_Re_takeSum_17 (by decide) ?_
    refine e_icmp_gt C 188 d_Re_takeSum_20 (by decide) (by omega) (by omega) (fun c_20 => ?_) (fun c_20 => ?_)
    · refine e_aload_n C d_Re_takeSum_188 rfl ?_
      refine e_iconst C d_Re_takeSum_189 ?_
      refine e_callIV C ok_Re_refuse lk_Re_101 (o := 3) (by decide) rfl [_] rfl rfl (Nat.le_of_ble_eq_true rfl) (by decide) (Nat.le_of_ble_eq_true rfl) d_Re_takeSum_190 (k_Re_refuse hT (by omega)) (fun v_190 u_190 q_190 h_190 => ?_)
      obtain ⟨rfl, rfl⟩ := h_190
      refine e_zret C F rfl d_Re_takeSum_193 (by omega) ?_
      exact hQ _ _ ⟨rfl, _, _, rfl, by rw [cu_f (by decide), cu_s], cu_s _ _ _ _⟩
    · exact absurd h1 (by omega)
  | succ n ih =>
    intro i t w ws pf x h0 h1 hI hT hX hW hS hQ
    have hk := hT.1.k t
    have hlen := wfw_len hI.1
    have hno := hI.2.1
    have hno0 := nop_nn ws
    have hnb := nbn_le ws
    have hpl := hI.2.2.2.2.1
    have ht4 := hI.2.2.2.2.2.1
    have hG := CGi_cg h7.1 h8.1 pf hI.2.2.2.1 (by omega)
    have hg7 := hG.1
    have hg8 := hG.2.1
    have hu := cg_len (l := l0) pf hI.2.2.1
    have tail : ∀ (o v : Int) (w' : Bool) (ws' : List Int) (pf' : List Cd) (x' : Cs), o = nop ws' → v = (if w' = true then 1 else 0) → XC x' ws' (cg l0 pf').2 → TH T σ x' t → XS x0 x' → (∀ v ∈ ws', R32 v) → (t < 400 → XI T t0 (t + 1) w' ws' pf') → T.1 t ≠ 128 → (∀ r u, sumQ σ x0 P l0 c (if 400 ≤ t then .inl (2, T.2.1 t) else xrun T n (t + 1) w' ws' pf') r u → Q r u) → Ev g 171 [some (.inr (.inr (3, 0))), some (.inl o), some (.inl v), some (.inl i), some (.inl (T.1 t))] [] (RZ σ x' P (cg l0 pf').1 c) := by
      intro o v w' ws' pf' x' ho hv hX' hT' hS' hW' hI' hne hQ'
      subst ho
      subst hv
      refine e_aload_n C d_Re_takeSum_171 rfl ?_
      refine e_iload C d_Re_takeSum_172 rfl ?_
      refine e_callIV C ok_Re_take lk_Re_108 (o := 3) (by decide) rfl [_] rfl rfl (Nat.le_of_ble_eq_true rfl) (by decide) (Nat.le_of_ble_eq_true rfl) d_Re_takeSum_174 (k_Re_take hT' (by omega)) (fun v_174 u_174 q_174 h_174 => ?_)
      refine e_if_ne C 182 d_Re_takeSum_177 (by decide) (by omega) (fun c_177 => ?_) (fun c_177 => ?_)
      · obtain ⟨a1, a2, a3, a4, rfl⟩ := h_174.resolve_left (fun z => by obtain ⟨fp, _, z2, _⟩ := z; exact c_177 z2)
        rw [if_neg (by omega)] at hQ'
        refine e_iinc C d_Re_takeSum_182 rfl (by decide) rfl ?_
        refine e_goto C 16 d_Re_takeSum_185 (by decide) ?_
        refine e_drop 4 ?_
        exact ih (i + 1) (t + 1) w' ws' pf' _ (by omega) (by omega) (hI' a3) (hT'.go a3 hne (cu_s _ _ _ _)) hX'.t hW' (hS'.wu (Or.inr (Or.inr (Or.inr (Or.inr rfl))))) hQ'
      · obtain ⟨fp, a1, a2, x2, rfl, a4, a5⟩ := h_174.resolve_right (fun z => by have := z.2.1; omega)
        unfold pMu pGo at a1
        rw [if_pos rfl] at a1
        by_cases w4 : 400 ≤ t
        · rw [if_pos w4] at a1 hQ'
          cases a1
          refine e_iconst C d_Re_takeSum_180 ?_
          refine e_zret C F rfl d_Re_takeSum_181 (by omega) ?_
          exact hQ' _ _ ⟨rfl, _, _, rfl, a4, a5⟩
        · rw [if_neg w4] at a1
          cases a1
    cases w with
    | true =>
      unfold xrun at hQ
      rw [if_pos rfl] at hQ
      have hu : (cg l0 pf).2.length = nbn ws := hu
      refine e_iload_n C d_Re_takeSum_16 rfl ?_
      refine e_sipush C d_Re_takeSum_17 (by decide) ?_
      refine e_icmp_gt C 188 d_Re_takeSum_20 (by decide) (by omega) (by omega) (fun c_20 => ?_) (fun c_20 => ?_)
      · exact absurd h1 (by omega)
      · refine e_aload_n C d_Re_takeSum_23 rfl ?_
        refine e_callIV C ok_Re_kind lk_Re_72 (o := 3) (by decide) rfl [] rfl rfl (Nat.le_of_ble_eq_true rfl) (by decide) (Nat.le_of_ble_eq_true rfl) d_Re_takeSum_24 (k_Re_kind hT) (fun v_24 u_24 q_24 h_24 => ?_)
        obtain ⟨rfl, rfl⟩ := h_24
        refine e_istore C d_Re_takeSum_27 (by decide) rfl ?_
        refine e_iload_n C d_Re_takeSum_29 rfl ?_
        refine e_if_eq C 64 d_Re_takeSum_30 (by decide) (by decide) (fun c_30 => ?_) (fun c_30 => ?_)
        · exact absurd c_30 (by decide)
        · refine e_iload C d_Re_takeSum_33 rfl ?_
          refine e_bipush C d_Re_takeSum_35 (by decide) ?_
          refine e_icmp_ne C 64 d_Re_takeSum_37 (by decide) (by omega) (by omega) (fun c_37 => ?_) (fun c_37 => ?_)
          · rw [if_neg c_37] at hQ
            refine e_iload_n C d_Re_takeSum_64 rfl ?_
            refine e_if_eq C 88 d_Re_takeSum_65 (by decide) (by decide) (fun c_65 => ?_) (fun c_65 => ?_)
            · exact absurd c_65 (by decide)
            · refine e_aload_n C d_Re_takeSum_68 rfl ?_
              refine e_iload C d_Re_takeSum_69 rfl ?_
              refine e_callIV C ok_Re_addUnit lk_Re_205 (o := 3) (by decide) rfl [_] rfl rfl (Nat.le_of_ble_eq_true rfl) (by decide) (Nat.le_of_ble_eq_true rfl) d_Re_takeSum_71 (k_Re_addUnit hT hX.2.2.1 (by omega) (by omega)) (fun v_71 u_71 q_71 h_71 => ?_)
              refine e_if_ne C 83 d_Re_takeSum_74 (by decide) (by rcases h_71 with z | z | z <;> omega) (fun c_74 => ?_) (fun c_74 => ?_)
              · refine e_iconst C d_Re_takeSum_83 ?_
                refine e_istore_n C d_Re_takeSum_84 (by decide) rfl ?_
                refine e_goto C 171 d_Re_takeSum_85 (by decide) ?_
                rcases h_71 with ⟨b1, b2, rfl⟩ | ⟨b1, b2, rfl⟩ | ⟨b1, b2, b3⟩
                · rw [if_pos b1] at hQ
                  have e : cg l0 (pf ++ [(0, T.2.2.1 t)]) = (useI (cg l0 pf).1 (T.2.2.1 t), (6 + (cg l0 pf).1 8 0) :: (cg l0 pf).2) := by rw [cg_app]; unfold cgs; rw [if_pos rfl]
                  have := tail (nop ws) 0 false ws (pf ++ [(0, T.2.2.1 t)]) _ rfl rfl (by rw [e]; exact hX.pushU rfl) (hT.x (by rw [cu_f (by decide), cu_f (by decide)])) ((hS.wu (Or.inr (Or.inr (Or.inr (Or.inl rfl))))).wu (Or.inr (Or.inr (Or.inl rfl)))) hW (fun z => hI.unit (by omega) z (Or.inl rfl) (hT.1.v b1)) (by omega) hQ
                  rw [e] at this
                  exact this
                · rw [if_neg (by omega), if_pos b1] at hQ
                  have e : cg l0 (pf ++ [(1, T.1 t - 132)]) = (useV (cg l0 pf).1 (T.1 t - 132), (T.1 t - 132) :: (cg l0 pf).2) := by rw [cg_app]; unfold cgs; rw [if_neg (show ¬ (1 : Int) = 0 by decide), if_pos rfl]
                  have := tail (nop ws) 0 false ws (pf ++ [(1, T.1 t - 132)]) _ rfl rfl (by rw [e]; exact hX.pushU rfl) (hT.x (by rw [cu_f (by decide), cu_f (by decide)])) ((hS.wu (Or.inr (Or.inr (Or.inr (Or.inl rfl))))).wu (Or.inr (Or.inr (Or.inl rfl)))) hW (fun z => hI.unit (by omega) z (Or.inr rfl) (Or.inr (Or.inl ⟨rfl, by show 0 ≤ T.1 t - 132; omega, by show T.1 t - 132 ≤ 5; omega⟩))) (by omega) hQ
                  rw [e] at this
                  exact this
                · omega
              · obtain ⟨b1, b2, rfl⟩ : (T.1 t < 131 ∨ 137 < T.1 t) ∧ v_71 = 0 ∧ u_71 = RZ σ x P (cg l0 pf).1 c := by
                  rcases h_71 with z | z | z
                  · omega
                  · omega
                  · exact z
                rw [if_neg (by omega), if_neg (by omega)] at hQ
                refine e_aload_n C d_Re_takeSum_77 rfl ?_
                refine e_iconst C d_Re_takeSum_78 ?_
                refine e_callIV C ok_Re_refuse lk_Re_101 (o := 3) (by decide) rfl [_] rfl rfl (Nat.le_of_ble_eq_true rfl) (by decide) (Nat.le_of_ble_eq_true rfl) d_Re_takeSum_79 (k_Re_refuse hT (by omega)) (fun v_79 u_79 q_79 h_79 => ?_)
                obtain ⟨rfl, rfl⟩ := h_79
                refine e_zret C F rfl d_Re_takeSum_82 (by omega) ?_
                exact hQ _ _ ⟨rfl, _, _, rfl, by rw [cu_f (by decide), cu_s], cu_s _ _ _ _⟩
          · rw [if_pos c_37] at hQ
            refine e_iload_n C d_Re_takeSum_40 rfl ?_
            refine e_bipush C d_Re_takeSum_41 (by decide) ?_
            refine e_icmp_ne C 52 d_Re_takeSum_43 (by decide) (by omega) (by omega) (fun c_43 => ?_) (fun c_43 => ?_)
            · rw [if_neg c_43] at hQ
              refine e_iinc C d_Re_takeSum_52 rfl (by decide) rfl ?_
              refine e_aload_n C d_Re_takeSum_55 rfl ?_
              refine e_iload C d_Re_takeSum_56 rfl ?_
              refine e_callVV C ok_Re_letWait lk_Re_202 (o := 3) (by decide) rfl [_] rfl rfl (Nat.le_of_ble_eq_true rfl) (by decide) (Nat.le_of_ble_eq_true rfl) d_Re_takeSum_58 (k_Re_letWait hX.1 (by omega) (by omega)) (fun u_58 h_58 => ?_)
              subst h_58
              have hX2 := hX.pushW (n := ws.length) (v := T.1 t) rfl
              refine e_goto C 171 d_Re_takeSum_61 (by decide) ?_
              exact tail _ _ true (40 :: ws) pf _ (by show _ = nop ws + _; rw [if_pos rfl]) rfl (by have z := hX2; rw [show (T.1 t :: ws) = (40 :: ws) by rw [c_37]] at z; exact z) (hT.x (by rw [cu_f (by decide), cu_f (by decide)])) ((hS.wu (Or.inr (Or.inl rfl))).wu (Or.inl rfl)) (fun v hv => by rcases List.mem_cons.mp hv with hv | hv; · { rw [hv]; omega }; · exact hW v hv) (fun z => hI.opn c_37 c_43 z) (by omega) hQ
            · rw [if_pos c_43] at hQ
              refine e_aload_n C d_Re_takeSum_46 rfl ?_
              refine e_iconst C d_Re_takeSum_47 ?_
              refine e_callIV C ok_Re_refuse lk_Re_101 (o := 3) (by decide) rfl [_] rfl rfl (Nat.le_of_ble_eq_true rfl) (by decide) (Nat.le_of_ble_eq_true rfl) d_Re_takeSum_48 (k_Re_refuse hT (by omega)) (fun v_48 u_48 q_48 h_48 => ?_)
              obtain ⟨rfl, rfl⟩ := h_48
              refine e_zret C F rfl d_Re_takeSum_51 (by omega) ?_
              exact hQ _ _ ⟨rfl, _, _, rfl, by rw [cu_f (by decide), cu_s], cu_s _ _ _ _⟩
    | false =>
      unfold xrun at hQ
      rw [if_neg (show ¬ false = true by decide)] at hQ
      have hR := hI.ri
      have hrr := rnk_r (T.1 t)
      have hu : (cg l0 pf).2.length = nbn ws + 1 := hu
      refine e_iload_n C d_Re_takeSum_16 rfl ?_
      refine e_sipush C d_Re_takeSum_17 (by decide) ?_
      refine e_icmp_gt C 188 d_Re_takeSum_20 (by decide) (by omega) (by omega) (fun c_20 => ?_) (fun c_20 => ?_)
      · exact absurd h1 (by omega)
      · refine e_aload_n C d_Re_takeSum_23 rfl ?_
        refine e_callIV C ok_Re_kind lk_Re_72 (o := 3) (by decide) rfl [] rfl rfl (Nat.le_of_ble_eq_true rfl) (by decide) (Nat.le_of_ble_eq_true rfl) d_Re_takeSum_24 (k_Re_kind hT) (fun v_24 u_24 q_24 h_24 => ?_)
        obtain ⟨rfl, rfl⟩ := h_24
        refine e_istore C d_Re_takeSum_27 (by decide) rfl ?_
        refine e_iload_n C d_Re_takeSum_29 rfl ?_
        refine e_if_eq C 64 d_Re_takeSum_30 (by decide) (by decide) (fun c_30 => ?_) (fun c_30 => ?_)
        · refine e_iload_n C d_Re_takeSum_64 rfl ?_
          refine e_if_eq C 88 d_Re_takeSum_65 (by decide) (by decide) (fun c_65 => ?_) (fun c_65 => ?_)
          · refine e_iload C d_Re_takeSum_88 rfl ?_
            refine e_callIS C ok_Re_rank lk_Re_208 [_] rfl rfl (Nat.le_of_ble_eq_true rfl) (by decide) (Nat.le_of_ble_eq_true rfl) d_Re_takeSum_90 (k_Re_rank (by omega)) (fun v_90 u_90 q_90 h_90 => ?_)
            obtain ⟨rfl, rfl⟩ := h_90
            refine e_if_le C 116 d_Re_takeSum_93 (by decide) (by omega) (fun c_93 => ?_) (fun c_93 => ?_)
            · rw [if_neg (by omega)] at hQ
              refine e_iload C d_Re_takeSum_116 rfl ?_
              refine e_bipush C d_Re_takeSum_118 (by decide) ?_
              refine e_icmp_ne C 148 d_Re_takeSum_120 (by decide) (by omega) (by omega) (fun c_120 => ?_) (fun c_120 => ?_)
              · rw [if_neg (fun z => c_120 z.1)] at hQ
                refine e_aload_n C d_Re_takeSum_148 rfl ?_
                refine e_iconst C d_Re_takeSum_149 ?_
                refine e_callVV C ok_Re_release lk_Re_212 (o := 3) (by decide) rfl [_] rfl rfl (Nat.le_of_ble_eq_true rfl) (by decide) (Nat.le_of_ble_eq_true rfl) d_Re_takeSum_150 (k_Re_release (m := (pf.length : Int) + nbn ws) (by omega) (by omega) (by omega) hX hR (by omega) hW) (fun u_150 h_150 => ?_)
                obtain ⟨x2, hX2, ⟨hS2, e11⟩, rfl⟩ := h_150
                refine e_iload_n C d_Re_takeSum_153 rfl ?_
                refine e_if_eq C 165 d_Re_takeSum_154 (by decide) (by omega) (fun c_154 => ?_) (fun c_154 => ?_)
                · rw [if_pos c_154] at hQ
                  obtain ⟨d1, d2, d3, d4⟩ := hI.done c_154
                  have hu2 := cg_len (l := l0) (rel 1 ws pf).2 d2
                  rw [d1] at hX2
                  obtain ⟨v, hv⟩ : ∃ v, (cg l0 (rel 1 ws pf).2).2 = [v] := by
                    match hq : (cg l0 (rel 1 ws pf).2).2, hu2 with
                    | [], hu2 => exact absurd hu2 (by decide)
                    | [v], _ => exact ⟨v, rfl⟩
                    | a :: b :: U, hu2 => exact absurd hu2 (by show ¬ U.length + 1 + 1 = 1; omega)
                  have hX4 := hX2
                  rw [hv] at hX4
                  refine e_iconst C d_Re_takeSum_165 ?_
                  refine e_goto C 170 d_Re_takeSum_166 (by decide) ?_
                  refine e_zret C F rfl d_Re_takeSum_170 (by omega) ?_
                  first | exact hQ _ _ ⟨rfl, _, v, rfl, hS.tr hS2, (congrFun e11 0).trans hT.2.2.1, hv, hX4⟩ | exact hQ _ _ ⟨rfl, _, _, rfl, by rw [cu_f (by decide), cu_s], cu_s _ _ _ _⟩
                · rw [if_neg c_154] at hQ
                  refine e_aload_n C d_Re_takeSum_157 rfl ?_
                  refine e_iconst C d_Re_takeSum_158 ?_
                  refine e_callIV C ok_Re_refuse lk_Re_101 (o := 3) (by decide) rfl [_] rfl rfl (Nat.le_of_ble_eq_true rfl) (by decide) (Nat.le_of_ble_eq_true rfl) d_Re_takeSum_159 (k_Re_refuse (hT.x (congrFun e11 0)) (by omega)) (fun v_159 u_159 q_159 h_159 => ?_)
                  obtain ⟨rfl, rfl⟩ := h_159
                  refine e_if_eq C 169 d_Re_takeSum_162 (by decide) (by decide) (fun c_162 => ?_) (fun c_162 => ?_)
                  · refine e_iconst C d_Re_takeSum_169 ?_
                    refine e_zret C F rfl d_Re_takeSum_170 (by omega) ?_
                    first | exact hQ _ _ ⟨rfl, _, v, rfl, hS.tr hS2, (congrFun e11 0).trans hT.2.2.1, hv, hX4⟩ | exact hQ _ _ ⟨rfl, _, _, rfl, by rw [cu_f (by decide), cu_s], cu_s _ _ _ _⟩
                  · exact absurd rfl c_162
              · have hk41 : T.1 t = 41 := c_120
                refine e_iload_n C d_Re_takeSum_123 rfl ?_
                refine e_if_le C 148 d_Re_takeSum_124 (by decide) (by omega) (fun c_124 => ?_) (fun c_124 => ?_)
                · rw [if_neg (by omega)] at hQ
                  refine e_aload_n C d_Re_takeSum_148 rfl ?_
                  refine e_iconst C d_Re_takeSum_149 ?_
                  refine e_callVV C ok_Re_release lk_Re_212 (o := 3) (by decide) rfl [_] rfl rfl (Nat.le_of_ble_eq_true rfl) (by decide) (Nat.le_of_ble_eq_true rfl) d_Re_takeSum_150 (k_Re_release (m := (pf.length : Int) + nbn ws) (by omega) (by omega) (by omega) hX hR (by omega) hW) (fun u_150 h_150 => ?_)
                  obtain ⟨x2, hX2, ⟨hS2, e11⟩, rfl⟩ := h_150
                  refine e_iload_n C d_Re_takeSum_153 rfl ?_
                  refine e_if_eq C 165 d_Re_takeSum_154 (by decide) (by omega) (fun c_154 => ?_) (fun c_154 => ?_)
                  · rw [if_pos c_154] at hQ
                    obtain ⟨d1, d2, d3, d4⟩ := hI.done c_154
                    have hu2 := cg_len (l := l0) (rel 1 ws pf).2 d2
                    rw [d1] at hX2
                    obtain ⟨v, hv⟩ : ∃ v, (cg l0 (rel 1 ws pf).2).2 = [v] := by
                      match hq : (cg l0 (rel 1 ws pf).2).2, hu2 with
                      | [], hu2 => exact absurd hu2 (by decide)
                      | [v], _ => exact ⟨v, rfl⟩
                      | a :: b :: U, hu2 => exact absurd hu2 (by show ¬ U.length + 1 + 1 = 1; omega)
                    have hX4 := hX2
                    rw [hv] at hX4
                    refine e_iconst C d_Re_takeSum_165 ?_
                    refine e_goto C 170 d_Re_takeSum_166 (by decide) ?_
                    refine e_zret C F rfl d_Re_takeSum_170 (by omega) ?_
                    first | exact hQ _ _ ⟨rfl, _, v, rfl, hS.tr hS2, (congrFun e11 0).trans hT.2.2.1, hv, hX4⟩ | exact hQ _ _ ⟨rfl, _, _, rfl, by rw [cu_f (by decide), cu_s], cu_s _ _ _ _⟩
                  · rw [if_neg c_154] at hQ
                    refine e_aload_n C d_Re_takeSum_157 rfl ?_
                    refine e_iconst C d_Re_takeSum_158 ?_
                    refine e_callIV C ok_Re_refuse lk_Re_101 (o := 3) (by decide) rfl [_] rfl rfl (Nat.le_of_ble_eq_true rfl) (by decide) (Nat.le_of_ble_eq_true rfl) d_Re_takeSum_159 (k_Re_refuse (hT.x (congrFun e11 0)) (by omega)) (fun v_159 u_159 q_159 h_159 => ?_)
                    obtain ⟨rfl, rfl⟩ := h_159
                    refine e_if_eq C 169 d_Re_takeSum_162 (by decide) (by decide) (fun c_162 => ?_) (fun c_162 => ?_)
                    · refine e_iconst C d_Re_takeSum_169 ?_
                      refine e_zret C F rfl d_Re_takeSum_170 (by omega) ?_
                      first | exact hQ _ _ ⟨rfl, _, v, rfl, hS.tr hS2, (congrFun e11 0).trans hT.2.2.1, hv, hX4⟩ | exact hQ _ _ ⟨rfl, _, _, rfl, by rw [cu_f (by decide), cu_s], cu_s _ _ _ _⟩
                    · exact absurd rfl c_162
                · rw [if_pos (by omega)] at hQ
                  have hI2 := fun z => hI.close c_120 (by omega) z
                  refine e_aload_n C d_Re_takeSum_127 rfl ?_
                  refine e_iconst C d_Re_takeSum_128 ?_
                  refine e_callVV C ok_Re_release lk_Re_212 (o := 3) (by decide) rfl [_] rfl rfl (Nat.le_of_ble_eq_true rfl) (by decide) (Nat.le_of_ble_eq_true rfl) d_Re_takeSum_129 (k_Re_release (m := (pf.length : Int) + nbn ws) (by omega) (by omega) (by omega) hX hR (by omega) hW) (fun u_129 h_129 => ?_)
                  obtain ⟨x2, hX2, ⟨hS2, e11⟩, rfl⟩ := h_129
                  obtain ⟨⟨q1, q2, q3, q4⟩, q5, q6⟩ := rel_all (r := 1) (by omega) ws pf _ hR
                  obtain ⟨rest, hrest⟩ := (rel_1 (pf := pf) hI.1).2 (by omega)
                  have etl : (rel 1 ws pf).1.tail = rest := by rw [hrest]; rfl
                  rw [etl] at hQ hI2
                  have hX2' := hX2
                  rw [hrest] at hX2'
                  obtain ⟨y1, y2, y3⟩ := hX2'.popW rfl
                  have eno1 : nop (40 :: rest) = nop ws := by rw [← hrest]; exact q5
                  have eno2 : nop (40 :: rest) = nop rest + 1 := by show nop rest + _ = _; rw [if_pos rfl]
                  have eno : nop rest = nop ws - 1 := by omega
                  refine e_aload_n C d_Re_takeSum_132 rfl ?_
                  refine e_dup C d_Re_takeSum_133 rfl ?_
                  refine e_geti C fl_Re_196 (by decide) rfl rfl d_Re_takeSum_134 (fun r_134 => ?_)
                  rw [RZ_3, y3] at r_134 ⊢
                  refine e_iconst C d_Re_takeSum_137 ?_
                  refine e_isub C d_Re_takeSum_138 ?_
                  rw [Int.add_sub_cancel]
                  refine e_puti C fp_Re_196 (by decide) rfl rfl (by omega) d_Re_takeSum_139 ?_
                  refine e_iinc C d_Re_takeSum_142 rfl (by decide) rfl ?_
                  refine e_goto C 171 d_Re_takeSum_145 (by decide) ?_
                  first | exact tail _ _ true (T.1 t :: (rel (rnk (T.1 t)) ws pf).1) (rel (rnk (T.1 t)) ws pf).2 _ (by show _ = nop _ + _; rw [if_neg (rnk_ne (by omega)), q5]; omega) rfl hX3 (hT.x (by rw [cu_f (by decide), cu_f (by decide)]; exact congrFun e11 0)) (((hS.tr hS2).wu (Or.inr (Or.inl rfl))).wu (Or.inl rfl)) (fun v hv => by rcases List.mem_cons.mp hv with hv | hv; · { rw [hv]; omega }; · exact rel_mem ws pf hW v hv) hI2 (fun z => by rw [z] at c_93; exact c_93 (by decide)) hQ | (rw [wr_so, RZ_w3, RZ_3]; exact tail _ _ false rest (rel 1 ws pf).2 _ (by omega) rfl y1 (hT.x (by rw [cu_f (by decide)]; exact congrFun e11 0)) ((hS.tr hS2).wu (Or.inr (Or.inl rfl))) (fun v hv => rel_mem ws pf hW v (by rw [hrest]; exact List.mem_cons_of_mem _ hv)) (fun z => (hI2 z).1) (by omega) hQ)
            · rw [if_pos (by omega)] at hQ
              refine e_aload_n C d_Re_takeSum_96 rfl ?_
              refine e_iload C d_Re_takeSum_97 rfl ?_
              refine e_callIS C ok_Re_rank lk_Re_208 [_] rfl rfl (Nat.le_of_ble_eq_true rfl) (by decide) (Nat.le_of_ble_eq_true rfl) d_Re_takeSum_99 (k_Re_rank (by omega)) (fun v_99 u_99 q_99 h_99 => ?_)
              obtain ⟨rfl, rfl⟩ := h_99
              refine e_callVV C ok_Re_release lk_Re_212 (o := 3) (by decide) rfl [_] rfl rfl (Nat.le_of_ble_eq_true rfl) (by decide) (Nat.le_of_ble_eq_true rfl) d_Re_takeSum_102 (k_Re_release (m := (pf.length : Int) + nbn ws) (by omega) (by omega) (by omega) hX hR (by omega) hW) (fun u_102 h_102 => ?_)
              obtain ⟨x2, hX2, ⟨hS2, e11⟩, rfl⟩ := h_102
              have hI2 := fun z => hI.op (by omega) z
              obtain ⟨⟨q1, q2, q3, q4⟩, q5, q6⟩ := rel_all (r := rnk (T.1 t)) (by omega) ws pf _ hR
              have ql := wfw_len q1
              refine e_aload_n C d_Re_takeSum_105 rfl ?_
              refine e_iload C d_Re_takeSum_106 rfl ?_
              refine e_callVV C ok_Re_letWait lk_Re_202 (o := 3) (by decide) rfl [_] rfl rfl (Nat.le_of_ble_eq_true rfl) (by decide) (Nat.le_of_ble_eq_true rfl) d_Re_takeSum_108 (k_Re_letWait hX2.1 (by omega) (by omega)) (fun u_108 h_108 => ?_)
              subst h_108
              have hX3 := hX2.pushW (v := T.1 t) rfl
              refine e_iconst C d_Re_takeSum_111 ?_
              refine e_istore_n C d_Re_takeSum_112 (by decide) rfl ?_
              refine e_goto C 171 d_Re_takeSum_113 (by decide) ?_
              first | exact tail _ _ true (T.1 t :: (rel (rnk (T.1 t)) ws pf).1) (rel (rnk (T.1 t)) ws pf).2 _ (by show _ = nop _ + _; rw [if_neg (rnk_ne (by omega)), q5]; omega) rfl hX3 (hT.x (by rw [cu_f (by decide), cu_f (by decide)]; exact congrFun e11 0)) (((hS.tr hS2).wu (Or.inr (Or.inl rfl))).wu (Or.inl rfl)) (fun v hv => by rcases List.mem_cons.mp hv with hv | hv; · { rw [hv]; omega }; · exact rel_mem ws pf hW v hv) hI2 (fun z => by rw [z] at c_93; exact c_93 (by decide)) hQ | (rw [wr_so, RZ_w3, RZ_3]; exact tail _ _ false rest (rel 1 ws pf).2 _ (by omega) rfl y1 (hT.x (by rw [cu_f (by decide)]; exact congrFun e11 0)) ((hS.tr hS2).wu (Or.inr (Or.inl rfl))) (fun v hv => rel_mem ws pf hW v (by rw [hrest]; exact List.mem_cons_of_mem _ hv)) (fun z => (hI2 z).1) (by omega) hQ)
          · exact absurd rfl c_65
        · exact absurd rfl c_30
theorem k_Re_takeSum {T : Tab} {σ : St} {x P l c : Cs} {t : Int} (h : TH T σ x t) (h7 : 0 ≤ l 7 0 ∧ l 7 0 + 1 ≤ t) (h8 : 0 ≤ l 8 0 ∧ l 8 0 + 1 ≤ t) : CtI M_Re_takeSum [.inr (.inr (3, 0))] (RZ σ x P l c) (fun r u => sumQ σ x P l c (xE T t) r u) := by
  intro g C F
  refine e_iconst C d_Re_takeSum_0 ?_
  refine e_istore_n C d_Re_takeSum_1 (by decide) rfl ?_
  refine e_iconst C d_Re_takeSum_2 ?_
  refine e_istore_n C d_Re_takeSum_3 (by decide) rfl ?_
  refine e_aload_n C d_Re_takeSum_4 rfl ?_
  refine e_iconst C d_Re_takeSum_5 ?_
  refine e_puti C fp_Re_196 (by decide) rfl rfl (by omega) d_Re_takeSum_6 ?_
  try simp only [RZ_3, RZ_w3, wr_so]
  refine e_aload_n C d_Re_takeSum_9 rfl ?_
  refine e_iconst C d_Re_takeSum_10 ?_
  refine e_puti C fp_Re_199 (by decide) rfl rfl (by omega) d_Re_takeSum_11 ?_
  try simp only [RZ_3, RZ_w3, wr_so]
  refine e_iconst C d_Re_takeSum_14 ?_
  refine e_istore_n C d_Re_takeSum_15 (by decide) rfl ?_
  exact l_Re_takeSum C F h7 h8 401 0 t true [] [] _ (by omega) (by omega) (XI.start h.2.2.2.1.1 h.2.2.2.1.2 h.2.2.2.2) (h.x (by rw [cu_f (by decide), cu_f (by decide)])) ⟨by rw [cu_f (by decide), cu_s]; rfl, trivial, by rw [cu_s]; rfl, trivial⟩ (fun v hv => by cases hv) (((XS.rf x).wu (Or.inr (Or.inl rfl))).wu (Or.inr (Or.inr (Or.inr (Or.inl rfl))))) (fun r u z => z)
