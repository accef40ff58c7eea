/-! objects in the making: constructors' contracts, calls, arrays -/
def nul (ci : Nat) : List Value := (List.range (nf ci)).map fun f => match kd ci f with
  | 0 => .int 0
  | 1 => .int 0
  | 2 => .long 0
  | _ => .null
def OkI (M : Md) : Prop := OkM M 0 ∧ Cond.instanceMethod M.1 ∈ lw_gd ∧ M.1.name = "<init>" ∧ M.2.2.2.1 = none ∧ 1 ≤ M.2.2.1
def rmN (M : Md) (mc ms : Nat) : Room := { frames := M.2.2.2.2.1, cells := mc, slots := ms, locals := M.2.2.2.2.2 }
/-- what a constructor leaves: its keys' cells, as the first store has them -/
def postN (w : Wd) (b : Nat) (K : List (Nat × Nat)) : Array Value → State → Outcome → State → Prop := va_Qv (fun _ : Unit => True) (fun _ t => b + K.length ≤ t.heap.size ∧ va_P w.1 classes (K.map (nvC w s00)) t.heap) (fun q => b ≤ q)
def FinN (g : Mach) (b : Nat) (K : List (Nat × Nat)) (ms : Nat) : Prop := match g with
  | ((p, l, e, R), (s, m, args, below), (meth, c, mc, ms2), w, Q) => meth.sig.returnType = none ∧ mc = K.length - 1 ∧ ms2 = ms ∧ Q = MQ below (postN w b K) args s mc ms2 (fun q => b ≤ q)
def CtN (M : Md) (o : Nat) (K : List (Nat × Nat)) (ms : Nat) : Prop := ∀ g b, Cn M g b → FinN g b K ms → Bs (gw g).2.2 K b → gsz g = b + 1 → gini g → Nv g b 0 [(0, .ref b)] [] (b + 1) 0 0 [(b, .inr (cls o, nul (cls o)))]
def preN (w : Wd) (b o : Nat) (U : State) : Prop := U.heap.size = b + 1 ∧ va_P w.1 classes [(b, .inr (cls o, nul (cls o)))] U.heap ∧ va_K w.1 classes (tysOf w.2.1) U ∧ NX U
theorem va_D_one {A : Nat → Prop} {q : Nat × va_E} (h : A q.1) : va_D A [q] := va_D_nd.mpr ⟨List.pairwise_singleton _ _, fun x hx => by rw [List.mem_singleton.mp hx]; exact h⟩
theorem met_N {M : Md} {o ms : Nat} {K : List (Nat × Nat)} (l : Launch) (w : Wd) (b : Nat) (hM : OkI M) (h : CtN M o K ms) (hB : Bs w.2.2 K b) : Met l M.1 (wsM M) (rmN M (K.length - 1) ms) (va_Pc [.ref b] (preN w b o)) (postN w b K) (K.length - 1) ms (fun q => b ≤ q) := by
  refine Met.ofW (cc := M.2.1) (maxL := M.2.2.1) (ret := M.2.2.2.1) hM.1.1 rfl ?_
  intro p e s m args below meth c s₁ B hml hv
  obtain ⟨rfl, hsz, hP, hK, hAO⟩ := hv
  have hts : ∀ t ∈ lw_gd, t.before ([.ref b] : List Value).toArray s = true := fun t ht => atoms_spec (ws := wsM M) B.pre t (List.mem_cons_of_mem _ ht)
  have hown : s.vm.findClass M.1.cls = some m.cls := findClass_of_methodNamed B.named
  have hl := lv_entry ([.ref b]) (n := M.2.2.1) hM.2.2.2.2
  rw [lg_entry_eq]
  exact h ((p, l, e, (headSpec (wsM M) (rmN M (K.length - 1) ms)).room), (s, m, ([.ref b] : List Value).toArray, below), (meth, c, K.length - 1, ms), w, MQ below (postN w b K) ([.ref b] : List Value).toArray s (K.length - 1) ms (fun q => b ≤ q)) b
    ⟨B.exec, B.bytes, hml, hown, hts, hK, B.notSynchronized, Nat.le_refl _, Nat.le_refl _, by omega, Nat.le_refl _, Nat.le_refl _, hAO⟩ ⟨B.returns.trans hM.2.2.2.1, rfl, rfl, rfl⟩ hB hsz ((name_of_methodNamed B.named B.method).1.trans hM.2.2.1)
    s.heap [] _ (by rw [hml]; exact hl) (by omega) hP (va_D_one (Nat.le_refl _)) va_S.rf
section RowsP
variable {M : Md} {g : Mach} {b pc n cells slots : Nat} {L : List (Nat × Value)} {st : List Value} {ws : va_W}
theorem n_ret (C : Cn M g b) {K : List (Nat × Nat)} {ms : Nat} (F : FinN g b K ms) (hd : decode M.2.1 pc = .ok (.return_, 1)) (hc : cells ≤ K.length - 1) (hs : slots ≤ ms) (hn : b + K.length ≤ n) (hw : ∀ H, va_P (gw g).1 classes ws H → va_P (gw g).1 classes (K.map (nvC (gw g) s00)) H) : Nv g b pc L [] n cells slots ws := by
  obtain ⟨⟨p, l, e, R⟩, ⟨s, m, args, below⟩, ⟨meth, c, mc, ms2⟩, ⟨D, ca, ρ⟩, Q⟩ := g
  obtain ⟨hx, hb, hml, hown, hts, hK, hlk, hf, hlc, hbs, h1, h2, hAO⟩ := C
  intro H locs ls hl hn2 hP hD hS
  obtain ⟨f1, rfl, rfl, rfl⟩ := F
  refine W.widen hc hs ?_
  exact W.vret hx hb f1 (fun t ht hW => ⟨⟨(), rfl, trivial, by rw [ht]; omega, by rw [ht]; exact hw H hP⟩, hS.F ht⟩) hS.2.2 hd hlk
theorem n_callN (C : Cn M g b) {M2 : Md} {o idx b2 ms2 : Nat} {K : List (Nat × Nat)} (h2 : OkI M2) (hl2 : Cond.methodLink M.1.cls idx M2.1 ∈ lw_gd ∨ (M.1.cls, idx, M2.1) ∈ nstW) (hc2 : CtN M2 o K ms2) (hB : Bs (gw g).2.2 K b2) (hroom : M2.2.2.2.2.1 + 1 ≤ M.2.2.2.2.1 ∧ 8 + (M2.2.2.1 + 11) + M2.2.2.2.2.2 ≤ M.2.2.2.2.2) (hst : (st.map fun v => v.category).sum ≤ 8) (hd : decode M.2.1 pc = .ok (.invokespecial idx, 3)) (hn1 : gsz g + cells = b2 + 1) (hbb : b ≤ b2) (hmc : cells + (K.length - 1) ≤ gmc g) (hms : slots + ms2 ≤ gms g)
    (kk : Nv g b (pc + 3) L st (b2 + K.length) (cells + (K.length - 1)) (slots + ms2) (ws ++ K.map (nvC (gw g) s00))) : Nv g b pc L (.ref b2 :: st) (b2 + 1) cells slots (ws ++ [(b2, .inr (cls o, nul (cls o)))]) := by
  obtain ⟨⟨p, l, e, R⟩, ⟨s, m, args, below⟩, ⟨meth, c, mc, ms⟩, ⟨D, ca, ρ⟩, Q⟩ := g
  obtain ⟨hx, hb, hml, hown, hts, hK, hlk, hfr, hlo, hbs, h1, h2c, hAO⟩ := C
  intro H locs ls hl hn hP hD hS
  refine w_size fun hsz => ?_
  have hn1 : s.heap.size + cells = b2 + 1 := hn1
  have hH : H.size = b2 + 1 := by omega
  have hM := met_N l (D, ca, ρ) b2 h2 hc2 hB
  have hP2 : va_P D classes [(b2, .inr (cls o, nul (cls o)))] H := va_P_mem.mpr fun q hq => va_P_mem.mp hP q (List.mem_append_right _ hq)
  have hpre : PreS s H (va_Pc [.ref b2] (preN (D, ca, ρ) b2 o)) [.ref b2] := ⟨fun a U g mk q => by obtain ⟨q0, q1, q2, q3, q4⟩ := q; exact ⟨q0, q1, q2, va_K.moved (u := U) (U := U.calling g mk a) (Vm.Alike.refl U.vm) q3, NX.same (u := U) (U := U.calling g mk a) rfl q4⟩, fun U hU hW => ⟨rfl, by rw [hU]; exact hH, by rw [hU]; exact hP2, va_K.moved hW.alike hK, NX.warm hW hAO⟩⟩
  have hrun : va_Run p l e R s m args below meth c H locs cells slots (K.length - 1) ms2 (F0 m pc ls (.ref b2 :: st)) st (postN (D, ca, ρ) b2 K (Value.ref b2 :: []).toArray) (fun q => b2 ≤ q) := by
    rcases hl2 with hl2 | hl2
    · have hCB : CallB R s args M.1.cls idx M2.1 M2.2.1 M2.2.2.1 none (wsM M2) (rmN M2 (K.length - 1) ms2) (K.length - 1) ms2 0 := by
        have := callB_of (R := R) (s := s) (args := args) (own := M.1.cls) (index := idx) (y := M2.1) (bytes := M2.2.1) (maxL := M2.2.2.1) (ret := M2.2.2.2.1) (ws := wsM M2) (rm := rmN M2 (K.length - 1) ms2) (mc := K.length - 1) (ms := ms2) 0 hts (good_M h2.1) rfl rfl rfl (hts _ h2.1.2.2.1) (hts _ hl2) h2.1.2.2.2 ⟨Nat.le_trans hroom.1 hfr, Nat.le_trans hroom.2 hlo⟩
        rw [h2.2.2.2.1] at this
        exact this
      exact va_runI (As := []) (rest := st) ⟨hx, hb, hml, hown, hts⟩ hM ⟨hCB, h2.2.2.1, hts _ h2.2.1⟩ hpre rfl rfl (hl.1.trans hml) rfl (lv_room hst) hd ⟨Nat.le_trans hmc h1, Nat.le_trans hms h2c⟩
    · have hCB : va_CN R s args M.1.cls idx M2.1 "SandGuards" M2.2.1 M2.2.2.1 none (wsM M2) (rmN M2 (K.length - 1) ms2) (K.length - 1) ms2 0 := by
        have := va_cnB (R := R) (s := s) (args := args) (own := M.1.cls) (host := "SandGuards") (index := idx) (y := M2.1) (bytes := M2.2.1) (maxL := M2.2.2.1) (ret := M2.2.2.2.1) (ws := wsM M2) (rm := rmN M2 (K.length - 1) ms2) (mc := K.length - 1) (ms := ms2) 0 hts (good_M h2.1) rfl rfl rfl (hAO.2 _ hl2) (hts _ h2.1.2.2.1) h2.1.2.2.2 ⟨Nat.le_trans hroom.1 hfr, Nat.le_trans hroom.2 hlo⟩
        rw [h2.2.2.2.1] at this
        exact this
      exact va_runIN (As := []) (rest := st) ⟨hx, hb, hml, hown, hts⟩ hM ⟨hCB, h2.2.2.1, hts _ h2.2.1⟩ hpre rfl rfl (hl.1.trans hml) rfl (lv_room hst) hd ⟨Nat.le_trans hmc h1, Nat.le_trans hms h2c⟩
  refine va_callv hrun hS (fun q _ h => Nat.le_trans hbb h) (fun q h => Nat.le_trans hbb h) (fun u t H1 locs1 ht hvm hw hB1 hz1 hk1 hS1 => ?_)
  obtain ⟨c1, c2⟩ := hB1
  rw [ht] at c1 c2
  have hlt : ∀ q ∈ ws, q.1 < b2 := by
    intro q hq
    obtain ⟨i, hi⟩ := List.getElem?_of_mem hq
    have hil := (List.getElem?_eq_some_iff.mp hi).1
    have hi2 : (ws ++ [(b2, (.inr (cls o, nul (cls o)) : va_E))])[i]? = some q := by rw [List.getElem?_append_left hil]; exact hi
    have h3 := (hP i q hi2).lt
    have h4 : q.1 ≠ b2 := fun e4 => by
      have := hD.1 i ws.length q (b2, .inr (cls o, nul (cls o))) hi2 (by rw [List.getElem?_append_right (Nat.le_refl _), Nat.sub_self]; rfl) e4
      omega
    omega
  refine kk H1 locs1 ls hl c1 (va_P.app (va_P_mem.mpr fun q hq => ?_) c2) (va_D.app (va_D_nd.mpr ?_) (Bs.D hB (fun q h => Nat.le_trans hbb h)) (fun i j p q hp hq e5 => ?_)) hS1
  · have h5 := hlt q hq
    exact (va_P_mem.mp hP q (List.mem_append_left _ hq)).kept (hk1 q.1 (by omega) (by show ¬ b2 ≤ q.1; omega))
  · obtain ⟨d1, d2⟩ := va_D_nd.mp hD
    rw [List.map_append, List.nodup_append] at d1
    exact ⟨d1.1, fun q hq => d2 q (List.mem_append_left _ hq)⟩
  · have h6 := hlt p (List.mem_of_getElem? hp)
    have h7 : b2 ≤ q.1 := (Bs.D (σ := s00) (A := fun q => b2 ≤ q) hB (fun q h => h)).2 j q hq
    omega
/-- an object made and begun -/
theorem n_mk (C : Cn M g b) {M2 : Md} {o ci i1 i2 ms2 N a len : Nat} {Cc : String} {T : u_T} {ty : Nat → FieldType} {K Kp : List (Nat × Nat)} {X : va_W} {ob : va_E} (h2 : OkI M2) (hc2 : CtN M2 o K ms2) (hco : cls o = ci) (hKO : KOk ci Cc T N) (hty : ∀ k, k < N → parseFieldDescriptor (T k).2.2.1 = some (ty k)) (hfs : ∀ j, j < N → defaultValue (ty j) = vp_V (nul ci) j) (hcw : Cond.instantiable Cc N ∈ lw_gd ∧ Cond.initialized Cc ∈ lw_gd) (hlk : Cond.classLink M.1.cls i1 Cc ∈ lw_gd) (hl2 : Cond.methodLink M.1.cls i2 M2.1 ∈ lw_gd ∨ (M.1.cls, i2, M2.1) ∈ nstW) (hB : Bs (gw g).2.2 K n) (hroom : M2.2.2.2.2.1 + 1 ≤ M.2.2.2.2.1 ∧ 8 + (M2.2.2.1 + 11) + M2.2.2.2.2.2 ≤ M.2.2.2.2.2) (hst : (st.map fun v => v.category).sum ≤ 7) (hd1 : decode M.2.1 pc = .ok (.new i1, 3)) (hd2 : decode M.2.1 (pc + 3) = .ok (.dup, 1)) (hd3 : decode M.2.1 (pc + 4) = .ok (.invokespecial i2, 3)) (hn1 : gsz g + cells = n) (hbb : b ≤ n) (hlen : K.length = len) (hK1 : 1 ≤ len) (hmc : cells + len ≤ gmc g) (hms : slots + N + ms2 ≤ gms g)
    (kk : Nv g b (pc + 7) L (.ref n :: st) (n + len) (cells + len) (slots + N + ms2) ((a, ob) :: (X ++ (Kp ++ K).map (nvC (gw g) s00)))) : Nv g b pc L st n cells slots ((a, ob) :: (X ++ Kp.map (nvC (gw g) s00))) := by
  subst hco
  subst hlen
  refine n_new C hKO ty hty hlk hcw.1 hcw.2 (fs := nul (cls o)) hfs hn1 (by omega) (by omega) hd1 ?_
  refine n_dup C hd2 rfl ?_
  refine n_callN C h2 hl2 hc2 hB hroom (by rw [List.map_cons, List.sum_cons]; show 1 + _ ≤ 8; omega) hd3 (by omega) hbb (by omega) (by omega) ?_
  have e1 : ((a, ob) :: (X ++ Kp.map (nvC (gw g) s00))) ++ K.map (nvC (gw g) s00) = (a, ob) :: (X ++ (Kp ++ K).map (nvC (gw g) s00)) := by
    rw [List.map_append, List.cons_append, List.append_assoc]
  rw [e1, show cells + 1 + (K.length - 1) = cells + K.length by omega]
  exact kk
theorem e_arr {w : Wd} {σ : St} {X : va_W} {Kp : List (Nat × Nat)} {a : Nat} {ob : va_E} {k : Nat × Nat} {q : Nat × va_E} (h : nvC w σ k = q) : ((a, ob) :: (X ++ Kp.map (nvC w σ))) ++ [q] = (a, ob) :: (X ++ (Kp ++ [k]).map (nvC w σ)) := by
  rw [List.map_append, List.cons_append, List.append_assoc, ← h]
  rfl
theorem c_zi {w : Wd} {σ : St} {o f ci kn N n : Nat} (hcl : cls o = ci) (hk : kd ci f = kn) (hkn : kn = 3 ∨ kn = 4 ∨ kn = 5) (hln : ln ci f = N) (hz : ∀ j : Nat, σ o f j = 0) (hρ : w.2.2 o (f + 1) = n) : nvC w σ (o, f + 1) = (n, .inl (w.2.1 kn, N, .inl fun _ => 0)) := by
  unfold nvC
  rw [cell_i hcl hk hkn, hln]
  show (w.2.2 o (f + 1), _) = _
  rw [hρ]
  congr 5
  funext j
  rw [hz j]
  rfl
theorem c_zl {w : Wd} {σ : St} {o f ci N n : Nat} (hcl : cls o = ci) (hk : kd ci f = 6) (hln : ln ci f = N) (hz : ∀ j : Nat, σ o f j = 0) (hρ : w.2.2 o (f + 1) = n) : nvC w σ (o, f + 1) = (n, .inl (w.2.1 6, N, .inr (.inl fun _ => 0))) := by
  unfold nvC
  rw [cell_l hcl hk, hln]
  show (w.2.2 o (f + 1), _) = _
  rw [hρ]
  congr 6
  funext j
  rw [hz j]
  rfl
section Arrs
variable {o f ci N a : Nat} {σ : St} {X : va_W} {Kp : List (Nat × Nat)} {ob : va_E} {x : Int32}
theorem n_ai (C : Cn M g b) (hcl : cls o = ci) (hk : kd ci f = 3) (hln : ln ci f = N) (hz : ∀ j : Nat, σ o f j = 0) (hρ : (gw g).2.2 o (f + 1) = n) (ha : Cond.arrayClass .int ∈ lw_gd) (hx0 : ¬ x < 0) (hN : x.toNatClampNeg = N) (hby : N ≤ 100000) (hn1 : gsz g + cells = n) (hmc : cells + 1 ≤ gmc g) (hms : slots + N ≤ gms g) (hd : decode M.2.1 pc = .ok (.newarray .int, 2)) (kk : Nv g b (pc + 2) L (.ref n :: st) (n + 1) (cells + 1) (slots + N) ((a, ob) :: (X ++ (Kp ++ [(o, f + 1)]).map (nvC (gw g) σ)))) : Nv g b pc L (.int x :: st) n cells slots ((a, ob) :: (X ++ Kp.map (nvC (gw g) σ))) := by
  refine n_newa C (aty := .int) (ty := .int) 0 3 rfl (fun _ => rfl) (fun _ _ h => h) ha (a0 := (N, .inl fun _ => 0)) (fun _ => rfl) hx0 hN (by show N * 4 ≤ _; omega) hn1 hmc hms hd ?_
  rw [e_arr (c_zi hcl hk (by decide) hln hz hρ)]
  exact kk
theorem n_az (C : Cn M g b) (hcl : cls o = ci) (hk : kd ci f = 4) (hln : ln ci f = N) (hz : ∀ j : Nat, σ o f j = 0) (hρ : (gw g).2.2 o (f + 1) = n) (ha : Cond.arrayClass .boolean ∈ lw_gd) (hx0 : ¬ x < 0) (hN : x.toNatClampNeg = N) (hby : N ≤ 100000) (hn1 : gsz g + cells = n) (hmc : cells + 1 ≤ gmc g) (hms : slots + N ≤ gms g) (hd : decode M.2.1 pc = .ok (.newarray .boolean, 2)) (kk : Nv g b (pc + 2) L (.ref n :: st) (n + 1) (cells + 1) (slots + N) ((a, ob) :: (X ++ (Kp ++ [(o, f + 1)]).map (nvC (gw g) σ)))) : Nv g b pc L (.int x :: st) n cells slots ((a, ob) :: (X ++ Kp.map (nvC (gw g) σ))) := by
  refine n_newa C (aty := .boolean) (ty := .boolean) 1 4 rfl (fun _ => rfl) (fun _ _ h => h) ha (a0 := (N, .inl fun _ => 0)) (fun _ => rfl) hx0 hN (by show N * 1 ≤ _; omega) hn1 hmc hms hd ?_
  rw [e_arr (c_zi hcl hk (by decide) hln hz hρ)]
  exact kk
theorem n_ab (C : Cn M g b) (hcl : cls o = ci) (hk : kd ci f = 5) (hln : ln ci f = N) (hz : ∀ j : Nat, σ o f j = 0) (hρ : (gw g).2.2 o (f + 1) = n) (ha : Cond.arrayClass .byte ∈ lw_gd) (hx0 : ¬ x < 0) (hN : x.toNatClampNeg = N) (hby : N ≤ 100000) (hn1 : gsz g + cells = n) (hmc : cells + 1 ≤ gmc g) (hms : slots + N ≤ gms g) (hd : decode M.2.1 pc = .ok (.newarray .byte, 2)) (kk : Nv g b (pc + 2) L (.ref n :: st) (n + 1) (cells + 1) (slots + N) ((a, ob) :: (X ++ (Kp ++ [(o, f + 1)]).map (nvC (gw g) σ)))) : Nv g b pc L (.int x :: st) n cells slots ((a, ob) :: (X ++ Kp.map (nvC (gw g) σ))) := by
  refine n_newa C (aty := .byte) (ty := .byte) 2 5 rfl (fun _ => rfl) (fun _ _ h => h) ha (a0 := (N, .inl fun _ => 0)) (fun _ => rfl) hx0 hN (by show N * 1 ≤ _; omega) hn1 hmc hms hd ?_
  rw [e_arr (c_zi hcl hk (by decide) hln hz hρ)]
  exact kk
theorem n_al (C : Cn M g b) (hcl : cls o = ci) (hk : kd ci f = 6) (hln : ln ci f = N) (hz : ∀ j : Nat, σ o f j = 0) (hρ : (gw g).2.2 o (f + 1) = n) (ha : Cond.arrayClass .long ∈ lw_gd) (hx0 : ¬ x < 0) (hN : x.toNatClampNeg = N) (hby : N ≤ 100000) (hn1 : gsz g + cells = n) (hmc : cells + 1 ≤ gmc g) (hms : slots + N ≤ gms g) (hd : decode M.2.1 pc = .ok (.newarray .long, 2)) (kk : Nv g b (pc + 2) L (.ref n :: st) (n + 1) (cells + 1) (slots + N) ((a, ob) :: (X ++ (Kp ++ [(o, f + 1)]).map (nvC (gw g) σ)))) : Nv g b pc L (.int x :: st) n cells slots ((a, ob) :: (X ++ Kp.map (nvC (gw g) σ))) := by
  refine n_newa C (aty := .long) (ty := .long) 3 6 rfl (fun _ => rfl) (fun _ _ h => h) ha (a0 := (N, .inr (.inl fun _ => 0))) (fun _ => rfl) hx0 hN (by show N * 8 ≤ _; omega) hn1 hmc hms hd ?_
  rw [e_arr (c_zl hcl hk hln hz hρ)]
  exact kk
end Arrs
end RowsP
theorem Bs.sub {ρ : Nat → Nat → Nat} {K K2 : List (Nat × Nat)} {b : Nat} (h : Bs ρ K b) (i : Nat) (hs : (K.drop i).take K2.length = K2) : Bs ρ K2 (b + i) := by
  intro j k hk
  have hl := (List.getElem?_eq_some_iff.mp hk).1
  rw [← hs, List.getElem?_take, if_pos hl, List.getElem?_drop] at hk
  have := h (i + j) k hk
  omega
theorem FinN.mc {g : Mach} {b ms : Nat} {K : List (Nat × Nat)} (h : FinN g b K ms) : gmc g = K.length - 1 := by
  obtain ⟨⟨p, l, e, R⟩, ⟨s, m, args, below⟩, ⟨meth, c, mc, ms2⟩, ⟨D, ca, ρ⟩, Q⟩ := g
  exact h.2.1
theorem FinN.ms {g : Mach} {b ms : Nat} {K : List (Nat × Nat)} (h : FinN g b K ms) : gms g = ms := by
  obtain ⟨⟨p, l, e, R⟩, ⟨s, m, args, below⟩, ⟨meth, c, mc, ms2⟩, ⟨D, ca, ρ⟩, Q⟩ := g
  exact h.2.2.1
theorem cell_cong {w : Wd} {σ σ' : St} {o j : Nat} (h : σ o = σ' o) : nvC w σ (o, j) = nvC w σ' (o, j) := by
  unfold nvC
  congr 1
  cases j with
  | zero =>
    show Sum.inr _ = Sum.inr _
    congr 2
    apply List.map_congr_left
    intro f _
    congr 1
    show fvl σ o f (kd (cls o) f) = fvl σ' o f (kd (cls o) f)
    unfold fvl
    rw [h]
  | succ f =>
    show Sum.inl (_, _, con w.2.2 σ o f (kd (cls o) f)) = Sum.inl (_, _, con w.2.2 σ' o f (kd (cls o) f))
    unfold con
    rw [h]
