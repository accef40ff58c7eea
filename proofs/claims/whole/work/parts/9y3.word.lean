/-! the reference's words, made as its object is made -/
def postL (b : Nat) (v : Int64) : Array Value → State → Outcome → State → Prop := va_Ql (fun r (_ : Unit) => r = v) (fun _ _ => True) (fun q => b ≤ q)
def FinP (g : Mach) (b : Nat) (v : Int64) : Prop := match g with
  | ((p, l, e, R), (s, m, args, below), (meth, c, mc, ms), w, Q) => meth.sig.returnType = some .long ∧ mc = 0 ∧ ms = 0 ∧ Q = MQ below (postL b v) args s 0 0 (fun q => b ≤ q)
def CtP (M : Md) (as : List Value) (v : Int64) : Prop := ∀ g b, Cn M g b → FinP g b v → Nv g b 0 (lv_args 0 as) [] b 0 0 []
def preP (w : Wd) (b : Nat) (U : State) : Prop := U.heap.size = b ∧ va_K w.1 classes (tysOf w.2.1) U ∧ NX U
theorem met_P {M : Md} {k : Nat} {as : List Value} {v : Int64} (l : Launch) (w : Wd) (b : Nat) (hM : OkM M k) (hr : M.2.2.2.1 = some .long) (hlen : (lg_sl as).length ≤ M.2.2.1) (h : CtP M as v) : Met l M.1 (wsM M) (rmM M) (va_Pc as (preP w b)) (postL b v) 0 0 (fun q => b ≤ q) := by
  refine Met.ofW (cc := M.2.1) (maxL := M.2.2.1) (ret := M.2.2.2.1) hM.1 rfl ?_
  intro p e s m args below meth c s₁ B hml hv
  obtain ⟨rfl, hsz, hK, hAO⟩ := hv
  have hts : ∀ t ∈ lw_gd, t.before as.toArray s = true := fun t ht => atoms_spec (ws := wsM M) B.pre t (List.mem_cons_of_mem _ ht)
  have hown : s.vm.findClass M.1.cls = some m.cls := findClass_of_methodNamed B.named
  have hl := lv_entry as (n := M.2.2.1) hlen
  rw [lg_entry_eq]
  exact h ((p, l, e, (headSpec (wsM M) (rmM M)).room), (s, m, as.toArray, below), (meth, c, 0, 0), w, MQ below (postL b v) as.toArray s 0 0 (fun q => b ≤ q)) b
    ⟨B.exec, B.bytes, hml, hown, hts, hK, B.notSynchronized, Nat.le_refl _, Nat.le_refl _, by omega, Nat.le_refl _, Nat.le_refl _, hAO⟩ ⟨B.returns.trans hr, rfl, rfl, rfl⟩
    s.heap [] _ (by rw [hml]; exact hl) (by omega) (va_P_mem.mpr fun q hq => by cases hq) (va_D_nd.mpr ⟨List.Pairwise.nil, fun q hq => by cases hq⟩) va_S.rf
section RowsL
variable {M : Md} {g : Mach} {b pc n cells slots : Nat} {L : List (Nat × Value)} {st : List Value} {ws : va_W}
theorem n_lret (C : Cn M g b) {v : Int64} (F : FinP g b v) (hd : decode M.2.1 pc = .ok (.lreturn, 1)) : Nv g b pc L [.long v] n 0 0 ws := by
  obtain ⟨⟨p, l, e, R⟩, ⟨s, m, args, below⟩, ⟨meth, c, mc, ms2⟩, ⟨D, ca, ρ⟩, Q⟩ := g
  obtain ⟨hx, hb, hml, hown, hts, hK, hlk, hf, hlc, hbs, h1, h2, hAO⟩ := C
  intro H locs ls hl hn2 hP hD hS
  obtain ⟨f1, rfl, rfl, rfl⟩ := F
  exact W.lret (v := v) hx hb f1 (fun t ht hW => ⟨⟨v, (), rfl, rfl, trivial⟩, hS.F ht⟩) hS.2.2 hd hlk
theorem n_callP (C : Cn M g b) {M2 : Md} {k idx : Nat} {S as : List Value} {v : Int64} (h2 : OkS M2 k) (hr : M2.2.2.2.1 = some .long) (hl2 : Cond.methodLink M.1.cls idx M2.1 ∈ lw_gd) (hlen : (lg_sl as).length ≤ M2.2.2.1) (hc2 : CtP M2 as v) (hS0 : S = as.reverse ++ st) (hk : as.length = k) (hroom : M2.2.2.2.2.1 + 1 ≤ M.2.2.2.2.1 ∧ 8 + (M2.2.2.1 + 11) + M2.2.2.2.2.2 ≤ M.2.2.2.2.2) (hst : (st.map fun v => v.category).sum ≤ 8) (hd : decode M.2.1 pc = .ok (.invokestatic idx, 3)) (hmc : cells ≤ gmc g) (hms : slots ≤ gms g) (kk : Nv g b (pc + 3) L (.long v :: st) n cells slots ws) : Nv g b pc L S n cells slots ws := by
  obtain ⟨⟨p, l, e, R⟩, ⟨s, m, args, below⟩, ⟨meth, c, mc, ms⟩, ⟨D, ca, ρ⟩, Q⟩ := g
  obtain ⟨hx, hb, hml, hown, hts, hK, hlk, hfr, hlo, hbs, h1, h2c, hAO⟩ := C
  intro H locs ls hl hn hP hD hS
  subst hS0
  have hbb : b ≤ H.size := Nat.le_trans hbs hS.1
  have hM := met_P l (D, ca, ρ) H.size h2.1 hr hlen hc2
  have hCB : CallB R s args M.1.cls idx M2.1 M2.2.1 M2.2.2.1 M2.2.2.2.1 (wsM M2) (rmM M2) 0 0 k := callB_of k hts (good_M h2.1) rfl rfl rfl (hts _ h2.1.2.2.1) (hts _ hl2) h2.1.2.2.2 ⟨Nat.le_trans hroom.1 hfr, Nat.le_trans hroom.2 hlo⟩
  have hrun := va_runS (l := l) (e := e) (below := below) (meth := meth) (locs := locs) (cells := cells) (slots := slots) (g := F0 m pc ls (as.reverse ++ st)) (As := as) (rest := st) ⟨hx, hb, hml, hown, hts⟩ hM ⟨hCB, hts _ h2.2⟩
    ⟨fun a U g mk q => by obtain ⟨q0, q1, q3, q4⟩ := q; exact ⟨q0, q1, va_K.moved (u := U) (U := U.calling g mk a) (Vm.Alike.refl U.vm) q3, NX.same (u := U) (U := U.calling g mk a) rfl q4⟩, fun U hU hW => ⟨rfl, by rw [hU], va_K.moved hW.alike hK, NX.warm hW hAO⟩⟩ rfl hk (hl.1.trans hml) rfl (lv_room hst) hd ⟨Nat.le_trans hmc h1, Nat.le_trans hms h2c⟩
  refine va_calll hrun hS (fun q _ h => Nat.le_trans hbb h) (fun q h => Nat.le_trans hbb h) (fun r u t H1 locs1 ht hvm hw hB1 hz1 hk1 hS1 => ?_)
  subst hw
  exact kk H1 locs1 ls hl (Nat.le_trans hn hz1) (hP.kept fun i q hq => hk1 q.1 (hP i q hq).lt (by have := (hP i q hq).lt; show ¬ H.size ≤ q.1; omega)) hD hS1
theorem n_lload (C : Cn M g b) {k : Fin 4} {i : Nat} (j : Nat) {x : Int64} (hd : decode M.2.1 pc = .ok (.lload_n k, 1)) (hi : (k : Nat) = i) (hL : L[j]? = some (i, .long x)) (kk : Nv g b (pc + 1) L (.long x :: st) n cells slots ws) : Nv g b pc L st n cells slots ws := by
  obtain ⟨⟨p, l, e, R⟩, ⟨s, m, args, below⟩, ⟨meth, c, mc, ms⟩, ⟨D, ca, ρ⟩, Q⟩ := g
  obtain ⟨hx, hb, -⟩ := C
  intro H locs ls hl hn hP hD hS
  exact lv_lload_n hx hb hd hi (lv_at hl j hL) (kk H locs ls hl hn hP hD hS)
theorem n_iloadw (C : Cn M g b) {i : Nat} (j : Nat) {x : Int32} (hd : decode M.2.1 pc = .ok (.iload i, 2)) (hL : L[j]? = some (i, .int x)) (kk : Nv g b (pc + 2) L (.int x :: st) n cells slots ws) : Nv g b pc L st n cells slots ws := by
  obtain ⟨⟨p, l, e, R⟩, ⟨s, m, args, below⟩, ⟨meth, c, mc, ms⟩, ⟨D, ca, ρ⟩, Q⟩ := g
  obtain ⟨hx, hb, -⟩ := C
  intro H locs ls hl hn hP hD hS
  exact lv_iload hx hb hd (lv_at hl j hL) (kk H locs ls hl hn hP hD hS)
theorem n_lconst (C : Cn M g b) {z : Fin 2} {v : Int64} (hd : decode M.2.1 pc = .ok (.lconst z, 1)) (hv : Int64.ofNat (z : Nat) = v) (kk : Nv g b (pc + 1) L (.long v :: st) n cells slots ws) : Nv g b pc L st n cells slots ws := by
  obtain ⟨⟨p, l, e, R⟩, ⟨s, m, args, below⟩, ⟨meth, c, mc, ms⟩, ⟨D, ca, ρ⟩, Q⟩ := g
  obtain ⟨hx, hb, -⟩ := C
  intro H locs ls hl hn hP hD hS
  exact lv_lconst hx hb hd hv (kk H locs ls hl hn hP hD hS)
theorem n_ldc2 (C : Cn M g b) {idx : Nat} {v : Int64} (hw : Cond.constantLong M.1.cls idx v ∈ lw_gd) (hd : decode M.2.1 pc = .ok (.ldc2_w idx, 3)) (kk : Nv g b (pc + 3) L (.long v :: st) n cells slots ws) : Nv g b pc L st n cells slots ws := by
  obtain ⟨⟨p, l, e, R⟩, ⟨s, m, args, below⟩, ⟨meth, c, mc, ms⟩, ⟨D, ca, ρ⟩, Q⟩ := g
  obtain ⟨hx, hb, hml, hown, hts, -⟩ := C
  intro H locs ls hl hn hP hD hS
  exact lv_ldc2 hx hb hown (hts _ hw) hd (kk H locs ls hl hn hP hD hS)
theorem n_lmul (C : Cn M g b) {x y : Int64} (hd : decode M.2.1 pc = .ok (.lmul, 1)) (kk : Nv g b (pc + 1) L (.long (x * y) :: st) n cells slots ws) : Nv g b pc L (.long y :: .long x :: st) n cells slots ws := by
  obtain ⟨⟨p, l, e, R⟩, ⟨s, m, args, below⟩, ⟨meth, c, mc, ms⟩, ⟨D, ca, ρ⟩, Q⟩ := g
  obtain ⟨hx, hb, -⟩ := C
  intro H locs ls hl hn hP hD hS
  exact lv_lmul hx hb hd (kk H locs ls hl hn hP hD hS)
theorem n_ladd (C : Cn M g b) {x y : Int64} (hd : decode M.2.1 pc = .ok (.ladd, 1)) (kk : Nv g b (pc + 1) L (.long (x + y) :: st) n cells slots ws) : Nv g b pc L (.long y :: .long x :: st) n cells slots ws := by
  obtain ⟨⟨p, l, e, R⟩, ⟨s, m, args, below⟩, ⟨meth, c, mc, ms⟩, ⟨D, ca, ρ⟩, Q⟩ := g
  obtain ⟨hx, hb, -⟩ := C
  intro H locs ls hl hn hP hD hS
  exact lv_ladd hx hb hd (kk H locs ls hl hn hP hD hS)
theorem n_isub (C : Cn M g b) {x y : Int32} (hd : decode M.2.1 pc = .ok (.isub, 1)) (kk : Nv g b (pc + 1) L (.int (x - y) :: st) n cells slots ws) : Nv g b pc L (.int y :: .int x :: st) n cells slots ws := by
  obtain ⟨⟨p, l, e, R⟩, ⟨s, m, args, below⟩, ⟨meth, c, mc, ms⟩, ⟨D, ca, ρ⟩, Q⟩ := g
  obtain ⟨hx, hb, -⟩ := C
  intro H locs ls hl hn hP hD hS
  exact lv_isub hx hb hd (kk H locs ls hl hn hP hD hS)
theorem n_iadd (C : Cn M g b) {x y : Int32} (hd : decode M.2.1 pc = .ok (.iadd, 1)) (kk : Nv g b (pc + 1) L (.int (x + y) :: st) n cells slots ws) : Nv g b pc L (.int y :: .int x :: st) n cells slots ws := by
  obtain ⟨⟨p, l, e, R⟩, ⟨s, m, args, below⟩, ⟨meth, c, mc, ms⟩, ⟨D, ca, ρ⟩, Q⟩ := g
  obtain ⟨hx, hb, -⟩ := C
  intro H locs ls hl hn hP hD hS
  exact lv_iadd hx hb hd (kk H locs ls hl hn hP hD hS)
theorem n_i2l (C : Cn M g b) {x : Int32} {v : Int64} (hd : decode M.2.1 pc = .ok (.i2l, 1)) (hv : x.toInt64 = v) (kk : Nv g b (pc + 1) L (.long v :: st) n cells slots ws) : Nv g b pc L (.int x :: st) n cells slots ws := by
  obtain ⟨⟨p, l, e, R⟩, ⟨s, m, args, below⟩, ⟨meth, c, mc, ms⟩, ⟨D, ca, ρ⟩, Q⟩ := g
  obtain ⟨hx, hb, -⟩ := C
  intro H locs ls hl hn hP hD hS
  exact lv_i2l hx hb hd hv (kk H locs ls hl hn hP hD hS)
theorem n_ifne (C : Cn M g b) {off : Int} (tgt : Nat) {x : Int32} (hd : decode M.2.1 pc = .ok (.ifCond .ne off, 3)) (ht : (pc : Int) + off = (tgt : Int)) (kt : x ≠ 0 → Nv g b tgt L st n cells slots ws) (kf : x = 0 → Nv g b (pc + 3) L st n cells slots ws) : Nv g b pc L (.int x :: st) n cells slots ws := by
  obtain ⟨⟨p, l, e, R⟩, ⟨s, m, args, below⟩, ⟨meth, c, mc, ms⟩, ⟨D, ca, ρ⟩, Q⟩ := g
  obtain ⟨hx, hb, hml, -⟩ := C
  intro H locs ls hl hn hP hD hS
  by_cases h0 : x = 0
  · exact lv_if_ne hx hb hd ht (fun h => absurd h0 (by simpa using h)) (fun _ => kf h0 H locs ls hl hn hP hD hS)
  · exact lv_if_ne hx hb hd ht (fun _ => kt h0 H locs ls hl hn hP hD hS) (fun h => absurd h0 (by simpa using h))
end RowsL
def apW (x : Int64) (c : Int32) : Int64 := if c = 0 then x else Int64.ofInt 27 * x + (c - 97 + 1).toInt64
theorem p_appends (x : Int64) (c : Int32) : CtP M_Mo_appends [.long x, .int c] (apW x c) := by
  intro g b C F
  show Nv g b 0 [(0, .long x), (2, .int c)] [] b 0 0 []
  refine n_iload C 1 d_Mo_appends_0 rfl rfl ?_
  refine n_ifne C 8 d_Mo_appends_1 (by decide) (fun h => ?_) (fun h => ?_)
  · refine n_ldc2 C w_l157 d_Mo_appends_8 ?_
    refine n_lload C 0 d_Mo_appends_11 rfl rfl ?_
    refine n_lmul C d_Mo_appends_12 ?_
    refine n_iload C 1 d_Mo_appends_13 rfl rfl ?_
    refine n_bipush C d_Mo_appends_14 (v := 97) (by decide) ?_
    refine n_isub C d_Mo_appends_16 ?_
    refine n_iconst C d_Mo_appends_17 (v := 1) (by decide) ?_
    refine n_iadd C d_Mo_appends_18 ?_
    refine n_i2l C d_Mo_appends_19 rfl ?_
    refine n_ladd C d_Mo_appends_20 ?_
    have e : apW x c = Int64.ofInt 27 * x + (c - 97 + 1).toInt64 := by unfold apW; rw [if_neg h]
    rw [← e]
    exact n_lret C F d_Mo_appends_21
  · refine n_lload C 0 d_Mo_appends_4 rfl rfl ?_
    refine n_goto C 21 d_Mo_appends_5 (by decide) ?_
    have e : apW x c = x := by unfold apW; rw [if_pos h]
    rw [e] at F
    exact n_lret C F d_Mo_appends_21
def wdW (a1 a2 a3 a4 a5 a6 a7 : Int32) : Int64 := apW (apW (apW (apW (apW (apW (apW 0 a1) a2) a3) a4) a5) a6) a7
theorem p_word (a1 a2 a3 a4 a5 a6 a7 : Int32) : CtP M_Mo_word [.int a1, .int a2, .int a3, .int a4, .int a5, .int a6, .int a7] (wdW a1 a2 a3 a4 a5 a6 a7) := by
  intro g b C F
  show Nv g b 0 [(0, .int a1), (1, .int a2), (2, .int a3), (3, .int a4), (4, .int a5), (5, .int a6), (6, .int a7)] [] b 0 0 []
  refine n_lconst C d_Mo_word_0 (v := 0) (by decide) ?_
  refine n_iload C 0 d_Mo_word_1 rfl rfl ?_
  refine n_callP C (as := [.long _, .int _]) (st := []) ok_Mo_appends rfl lk_Mo_159 (Nat.le_of_ble_eq_true rfl) (p_appends _ _) rfl rfl (by decide) (by decide) d_Mo_word_2 (Nat.zero_le _) (Nat.zero_le _) ?_
  refine n_iload C 1 d_Mo_word_5 rfl rfl ?_
  refine n_callP C (as := [.long _, .int _]) (st := []) ok_Mo_appends rfl lk_Mo_159 (Nat.le_of_ble_eq_true rfl) (p_appends _ _) rfl rfl (by decide) (by decide) d_Mo_word_6 (Nat.zero_le _) (Nat.zero_le _) ?_
  refine n_iload C 2 d_Mo_word_9 rfl rfl ?_
  refine n_callP C (as := [.long _, .int _]) (st := []) ok_Mo_appends rfl lk_Mo_159 (Nat.le_of_ble_eq_true rfl) (p_appends _ _) rfl rfl (by decide) (by decide) d_Mo_word_10 (Nat.zero_le _) (Nat.zero_le _) ?_
  refine n_iload C 3 d_Mo_word_13 rfl rfl ?_
  refine n_callP C (as := [.long _, .int _]) (st := []) ok_Mo_appends rfl lk_Mo_159 (Nat.le_of_ble_eq_true rfl) (p_appends _ _) rfl rfl (by decide) (by decide) d_Mo_word_14 (Nat.zero_le _) (Nat.zero_le _) ?_
  refine n_iloadw C 4 d_Mo_word_17 rfl ?_
  refine n_callP C (as := [.long _, .int _]) (st := []) ok_Mo_appends rfl lk_Mo_159 (Nat.le_of_ble_eq_true rfl) (p_appends _ _) rfl rfl (by decide) (by decide) d_Mo_word_19 (Nat.zero_le _) (Nat.zero_le _) ?_
  refine n_iloadw C 5 d_Mo_word_22 rfl ?_
  refine n_callP C (as := [.long _, .int _]) (st := []) ok_Mo_appends rfl lk_Mo_159 (Nat.le_of_ble_eq_true rfl) (p_appends _ _) rfl rfl (by decide) (by decide) d_Mo_word_24 (Nat.zero_le _) (Nat.zero_le _) ?_
  refine n_iloadw C 6 d_Mo_word_27 rfl ?_
  refine n_callP C (as := [.long _, .int _]) (st := []) ok_Mo_appends rfl lk_Mo_159 (Nat.le_of_ble_eq_true rfl) (p_appends _ _) rfl rfl (by decide) (by decide) d_Mo_word_29 (Nat.zero_le _) (Nat.zero_le _) ?_
  exact n_lret C F d_Mo_word_32
