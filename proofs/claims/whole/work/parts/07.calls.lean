/-! rows: contracts, returns, calls, arraycopy (written by wip/gen/gen07.py) -/
def BB (w : Wd) (u : St) (t : State) : Prop := va_P w.1 classes (wsl w u) t.heap ∧ va_D (AA w) (wsl w u) ∧ Rng u
def pI (P : Int → St → Prop) : Int32 → St → Prop := fun r u => ∃ x : Int, r = Int32.ofInt x ∧ R32 x ∧ P x u
def pL (P : Int → St → Prop) : Int64 → St → Prop := fun r u => ∃ x : Int, r = Int64.ofInt x ∧ R64 x ∧ P x u
def FinI (M : Md) (g : Mach) (P : Int → St → Prop) : Prop := match g with
  | ((p, l, e, R), (s, m, args, below), (meth, c, cells, slots), w, Q) => meth.sig.returnType = M.2.2.2.1 ∧ cells = 0 ∧ slots = 0 ∧ Q = MQ below (va_Qi (pI P) (BB w) (AA w)) args s 0 0 (AA w)
def FinL (M : Md) (g : Mach) (P : Int → St → Prop) : Prop := match g with
  | ((p, l, e, R), (s, m, args, below), (meth, c, cells, slots), w, Q) => meth.sig.returnType = M.2.2.2.1 ∧ cells = 0 ∧ slots = 0 ∧ Q = MQ below (va_Ql (pL P) (BB w) (AA w)) args s 0 0 (AA w)
def FinV (M : Md) (g : Mach) (P : St → Prop) : Prop := match g with
  | ((p, l, e, R), (s, m, args, below), (meth, c, cells, slots), w, Q) => meth.sig.returnType = M.2.2.2.1 ∧ cells = 0 ∧ slots = 0 ∧ Q = MQ below (va_Qv P (BB w) (AA w)) args s 0 0 (AA w)
/-- a method's first locals -/
def slo : List V → List (Option V)
  | [] => []
  | .inr (.inl x) :: vs => some (.inr (.inl x)) :: none :: slo vs
  | v :: vs => some v :: slo vs
def lent (vs : List V) (n : Nat) : List (Option V) := slo vs ++ List.replicate (n - (slo vs).length) none
def CtI (M : Md) (as : List V) (σ : St) (P : Int → St → Prop) : Prop := ∀ g, Cx M g → FinI M g P → Ev g 0 (lent as M.2.2.1) [] σ
def CtL (M : Md) (as : List V) (σ : St) (P : Int → St → Prop) : Prop := ∀ g, Cx M g → FinL M g P → Ev g 0 (lent as M.2.2.1) [] σ
def CtV (M : Md) (as : List V) (σ : St) (P : St → Prop) : Prop := ∀ g, Cx M g → FinV M g P → Ev g 0 (lent as M.2.2.1) [] σ
theorem slo_args (ρ : Nat → Nat → Nat) : ∀ (vs : List V) (i k : Nat) (v : V), (slo vs)[k]? = some (some v) → (i + k, toV ρ v) ∈ lv_args i (vs.map (toV ρ))
  | [], i, k, v, h => by simp [slo] at h
  | .inl x :: vs, i, k, v, h => by
    cases k with
    | zero => cases h; exact List.mem_cons_self
    | succ k =>
      have := slo_args ρ vs (i + 1) k v h
      refine List.mem_cons_of_mem _ ?_
      rw [show i + (k + 1) = i + 1 + k by omega]
      exact this
  | .inr (.inl x) :: vs, i, k, v, h => by
    cases k with
    | zero => cases h; exact List.mem_cons_self
    | succ k =>
      cases k with
      | zero => cases h
      | succ k =>
        have := slo_args ρ vs (i + 2) k v h
        refine List.mem_cons_of_mem _ ?_
        rw [show i + (k + 1 + 1) = i + 2 + k by omega]
        exact this
  | .inr (.inr x) :: vs, i, k, v, h => by
    cases k with
    | zero => cases h; exact List.mem_cons_self
    | succ k =>
      have := slo_args ρ vs (i + 1) k v h
      refine List.mem_cons_of_mem _ ?_
      rw [show i + (k + 1) = i + 1 + k by omega]
      exact this
theorem slo_len (ρ : Nat → Nat → Nat) : ∀ vs : List V, (lg_sl (vs.map (toV ρ))).length = (slo vs).length
  | [] => rfl
  | .inl x :: vs => by
    have := slo_len ρ vs
    simp [lg_sl, slo, toV, Value.category] at this ⊢
    omega
  | .inr (.inl x) :: vs => by
    have := slo_len ρ vs
    simp [lg_sl, slo, toV, Value.category] at this ⊢
    omega
  | .inr (.inr x) :: vs => by
    have := slo_len ρ vs
    simp [lg_sl, slo, toV, Value.category] at this ⊢
    omega
theorem lent_LH (ρ : Nat → Nat → Nat) (vs : List V) {n : Nat} (h : (slo vs).length ≤ n) : LH ρ ((lg_sl (vs.map (toV ρ)) ++ List.replicate (n - (lg_sl (vs.map (toV ρ))).length) Slot.unset).toArray) n (lent vs n) := by
  obtain ⟨h1, h2, h3⟩ := lv_entry (vs.map (toV ρ)) (n := n) (by rw [slo_len]; exact h)
  refine ⟨h1, h2, fun k v hk => ?_⟩
  unfold lent at hk
  by_cases hlt : k < (slo vs).length
  · rw [List.getElem?_append_left hlt] at hk
    have := slo_args ρ vs 0 k v hk
    rw [Nat.zero_add] at this
    exact h3 (k, toV ρ v) this
  · rw [List.getElem?_append_right (by omega)] at hk
    have := List.mem_of_getElem? hk
    rw [List.mem_replicate] at this
    cases this.2
/-- what the tables say of a method -/
def OkM (M : Md) (n : Nat) : Prop := plainName M.1.cls = true ∧ Cond.code M.1 M.2.1 M.2.2.1 M.2.2.2.1 ∈ lw_gd ∧ Cond.initialized M.1.cls ∈ lw_gd ∧ M.1.cls ≠ "java/lang/invoke/MethodHandle" ∧ M.1.cls ≠ "java/lang/invoke/VarHandle" ∧ (parseMethodDescriptor M.1.desc).map (fun d => d.parameters.length) = some n
def OkV (M : Md) (n : Nat) : Prop := OkM M n ∧ Cond.instanceMethod M.1 ∈ lw_gd ∧ Cond.selects M.1.cls M.1 M.1 ∈ lw_gd
def OkS (M : Md) (n : Nat) : Prop := OkM M n ∧ Cond.static M.1 ∈ lw_gd
def wsM (M : Md) : List Cond := Cond.code M.1 M.2.1 M.2.2.1 M.2.2.2.1 :: lw_gd
def rmM (M : Md) : Room := { frames := M.2.2.2.2.1, cells := 0, slots := 0, locals := M.2.2.2.2.2 }
def preM (w : Wd) (σ : St) (U : State) : Prop := va_P w.1 classes (wsl w σ) U.heap ∧ va_D (AA w) (wsl w σ) ∧ Rng σ ∧ va_K w.1 classes (tysOf w.2.1) U ∧ Sta w U
theorem lw_good : ∀ t ∈ lw_gd, goodWord t = true := fun t h => (List.mem_filter.mp h).2
theorem good_M {M : Md} {n : Nat} (h : OkM M n) : GoodIn lw_gd (wsM M) := by
  intro t ht
  rcases List.mem_cons.mp ht with e | e
  · subst e
    exact ⟨h.2.1, good_of_word (lw_good _ h.2.1)⟩
  · exact ⟨e, good_of_word (lw_good _ e)⟩
theorem met_I {M : Md} {n : Nat} {as : List V} {σ : St} {P : Int → St → Prop} (l : Launch) (w : Wd) (hM : OkM M n) (hlen : (slo as).length ≤ M.2.2.1) (h : CtI M as σ P) :
    Met l M.1 (wsM M) (rmM M) (va_Pc (as.map (toV w.2.2)) (preM w σ)) (va_Qi (pI P) (BB w) (AA w)) 0 0 (AA w) := by
  refine Met.ofW (cc := M.2.1) (maxL := M.2.2.1) (ret := M.2.2.2.1) hM.1 rfl ?_
  intro p e s m args below meth c s₁ B hml hv
  obtain ⟨rfl, hP, hD, hG, hK, hSt⟩ := hv
  have hts : ∀ t ∈ lw_gd, t.before (as.map (toV w.2.2)).toArray s = true := fun t ht => atoms_spec (ws := wsM M) B.pre t (List.mem_cons_of_mem _ ht)
  have hown : s.vm.findClass M.1.cls = some m.cls := findClass_of_methodNamed B.named
  rw [lg_entry_eq]
  exact h ((p, l, e, (headSpec (wsM M) (rmM M)).room), (s, m, (as.map (toV w.2.2)).toArray, below), (meth, c, 0, 0), w, MQ below (va_Qi (pI P) (BB w) (AA w)) (as.map (toV w.2.2)).toArray s 0 0 (AA w))
    ⟨B.exec, B.bytes, hml, hown, hts, hK, B.notSynchronized, Nat.le_refl _, Nat.le_refl _, Nat.zero_le _, Nat.zero_le _, hSt⟩ ⟨B.returns, rfl, rfl, rfl⟩
    s.heap [] _ (by rw [hml]; exact lent_LH w.2.2 as hlen) ⟨hP, hD, va_S.rf, hG⟩
theorem met_L {M : Md} {n : Nat} {as : List V} {σ : St} {P : Int → St → Prop} (l : Launch) (w : Wd) (hM : OkM M n) (hlen : (slo as).length ≤ M.2.2.1) (h : CtL M as σ P) :
    Met l M.1 (wsM M) (rmM M) (va_Pc (as.map (toV w.2.2)) (preM w σ)) (va_Ql (pL P) (BB w) (AA w)) 0 0 (AA w) := by
  refine Met.ofW (cc := M.2.1) (maxL := M.2.2.1) (ret := M.2.2.2.1) hM.1 rfl ?_
  intro p e s m args below meth c s₁ B hml hv
  obtain ⟨rfl, hP, hD, hG, hK, hSt⟩ := hv
  have hts : ∀ t ∈ lw_gd, t.before (as.map (toV w.2.2)).toArray s = true := fun t ht => atoms_spec (ws := wsM M) B.pre t (List.mem_cons_of_mem _ ht)
  have hown : s.vm.findClass M.1.cls = some m.cls := findClass_of_methodNamed B.named
  rw [lg_entry_eq]
  exact h ((p, l, e, (headSpec (wsM M) (rmM M)).room), (s, m, (as.map (toV w.2.2)).toArray, below), (meth, c, 0, 0), w, MQ below (va_Ql (pL P) (BB w) (AA w)) (as.map (toV w.2.2)).toArray s 0 0 (AA w))
    ⟨B.exec, B.bytes, hml, hown, hts, hK, B.notSynchronized, Nat.le_refl _, Nat.le_refl _, Nat.zero_le _, Nat.zero_le _, hSt⟩ ⟨B.returns, rfl, rfl, rfl⟩
    s.heap [] _ (by rw [hml]; exact lent_LH w.2.2 as hlen) ⟨hP, hD, va_S.rf, hG⟩
theorem met_V {M : Md} {n : Nat} {as : List V} {σ : St} {P : St → Prop} (l : Launch) (w : Wd) (hM : OkM M n) (hlen : (slo as).length ≤ M.2.2.1) (h : CtV M as σ P) :
    Met l M.1 (wsM M) (rmM M) (va_Pc (as.map (toV w.2.2)) (preM w σ)) (va_Qv P (BB w) (AA w)) 0 0 (AA w) := by
  refine Met.ofW (cc := M.2.1) (maxL := M.2.2.1) (ret := M.2.2.2.1) hM.1 rfl ?_
  intro p e s m args below meth c s₁ B hml hv
  obtain ⟨rfl, hP, hD, hG, hK, hSt⟩ := hv
  have hts : ∀ t ∈ lw_gd, t.before (as.map (toV w.2.2)).toArray s = true := fun t ht => atoms_spec (ws := wsM M) B.pre t (List.mem_cons_of_mem _ ht)
  have hown : s.vm.findClass M.1.cls = some m.cls := findClass_of_methodNamed B.named
  rw [lg_entry_eq]
  exact h ((p, l, e, (headSpec (wsM M) (rmM M)).room), (s, m, (as.map (toV w.2.2)).toArray, below), (meth, c, 0, 0), w, MQ below (va_Qv P (BB w) (AA w)) (as.map (toV w.2.2)).toArray s 0 0 (AA w))
    ⟨B.exec, B.bytes, hml, hown, hts, hK, B.notSynchronized, Nat.le_refl _, Nat.le_refl _, Nat.zero_le _, Nat.zero_le _, hSt⟩ ⟨B.returns, rfl, rfl, rfl⟩
    s.heap [] _ (by rw [hml]; exact lent_LH w.2.2 as hlen) ⟨hP, hD, va_S.rf, hG⟩
section RowsC
variable {M : Md} {g : Mach} {pc : Nat} {L : List (Option V)} {st : List V} {σ : St}
theorem e_iret (C : Cx M g) {P : Int → St → Prop} (F : FinI M g P) {v : Int} (hr : M.2.2.2.1 = some .int) (hd : decode M.2.1 pc = .ok (.ireturn, 1)) (hv : R32 v) (hP : P v σ) : Ev g pc L [.inl v] σ := by
  obtain ⟨⟨p, l, e, R⟩, ⟨s, m, args, below⟩, ⟨meth, c, cells, slots⟩, ⟨D, ca, ρ⟩, Q⟩ := g
  obtain ⟨hx, hb, hml, hown, hts, hK, hlk, hfr, hlo, hc, hs, hSt⟩ := C
  intro H locs ls hl hR
  obtain ⟨f1, rfl, rfl, rfl⟩ := F
  obtain ⟨hP1, hD, hS, hG⟩ := hR
  exact W.iret (v := Int32.ofInt v) hx hb (f1.trans hr) (fun t ht hW => ⟨⟨Int32.ofInt v, σ, rfl, ⟨v, rfl, hv, hP⟩, by rw [ht]; exact hP1, hD, hG⟩, hS.F ht⟩) hS.2.2 hd hlk
theorem e_zret (C : Cx M g) {P : Int → St → Prop} (F : FinI M g P) {v : Int} (hr : M.2.2.2.1 = some .boolean) (hd : decode M.2.1 pc = .ok (.ireturn, 1)) (hv : v = 0 ∨ v = 1) (hP : P v σ) : Ev g pc L [.inl v] σ := by
  obtain ⟨⟨p, l, e, R⟩, ⟨s, m, args, below⟩, ⟨meth, c, cells, slots⟩, ⟨D, ca, ρ⟩, Q⟩ := g
  obtain ⟨hx, hb, hml, hown, hts, hK, hlk, hfr, hlo, hc, hs, hSt⟩ := C
  intro H locs ls hl hR
  obtain ⟨f1, rfl, rfl, rfl⟩ := F
  obtain ⟨hP1, hD, hS, hG⟩ := hR
  have hv2 : R32 v := by rcases hv with h | h <;> subst h <;> exact ⟨by decide, by decide⟩
  have hn : narrow .boolean (.int (Int32.ofInt v)) = .int (Int32.ofInt v) := by rcases hv with h | h <;> subst h <;> first | exact nf_z0.1 | exact nf_z1.1
  exact W.zret (v := Int32.ofInt v) hx hb (f1.trans hr) hn (fun t ht hW => ⟨⟨Int32.ofInt v, σ, rfl, ⟨v, rfl, hv2, hP⟩, by rw [ht]; exact hP1, hD, hG⟩, hS.F ht⟩) hS.2.2 hd hlk
theorem e_lret (C : Cx M g) {P : Int → St → Prop} (F : FinL M g P) {v : Int} (hr : M.2.2.2.1 = some .long) (hd : decode M.2.1 pc = .ok (.lreturn, 1)) (hv : R64 v) (hP : P v σ) : Ev g pc L [.inr (.inl v)] σ := by
  obtain ⟨⟨p, l, e, R⟩, ⟨s, m, args, below⟩, ⟨meth, c, cells, slots⟩, ⟨D, ca, ρ⟩, Q⟩ := g
  obtain ⟨hx, hb, hml, hown, hts, hK, hlk, hfr, hlo, hc, hs, hSt⟩ := C
  intro H locs ls hl hR
  obtain ⟨f1, rfl, rfl, rfl⟩ := F
  obtain ⟨hP1, hD, hS, hG⟩ := hR
  exact W.lret (v := Int64.ofInt v) hx hb (f1.trans hr) (fun t ht hW => ⟨⟨Int64.ofInt v, σ, rfl, ⟨v, rfl, hv, hP⟩, by rw [ht]; exact hP1, hD, hG⟩, hS.F ht⟩) hS.2.2 hd hlk
theorem e_vret (C : Cx M g) {P : St → Prop} (F : FinV M g P) (hr : M.2.2.2.1 = none) (hd : decode M.2.1 pc = .ok (.return_, 1)) (hP : P σ) : Ev g pc L [] σ := by
  obtain ⟨⟨p, l, e, R⟩, ⟨s, m, args, below⟩, ⟨meth, c, cells, slots⟩, ⟨D, ca, ρ⟩, Q⟩ := g
  obtain ⟨hx, hb, hml, hown, hts, hK, hlk, hfr, hlo, hc, hs, hSt⟩ := C
  intro H locs ls hl hR
  obtain ⟨f1, rfl, rfl, rfl⟩ := F
  obtain ⟨hP1, hD, hS, hG⟩ := hR
  exact W.vret hx hb (f1.trans hr) (fun t ht hW => ⟨⟨σ, rfl, hP, by rw [ht]; exact hP1, hD, hG⟩, hS.F ht⟩) hS.2.2 hd hlk
theorem e_callIV (C : Cx M g) {M2 : Md} {n idx : Nat} {S : List V} {P : Int → St → Prop} (h2 : OkV M2 n) (hl2 : Cond.methodLink M.1.cls idx M2.1 ∈ lw_gd) {o : Nat} (ho : o ∈ objs) (hrc : (classes[cls o]?).map (fun q => q.1) = some M2.1.cls) (as : List V) (hS0 : S = as.reverse ++ .inr (.inr (o, 0)) :: st) (hn : as.length = n) (hlen : (slo (.inr (.inr (o, 0)) :: as)).length ≤ M2.2.2.1) (hroom : M2.2.2.2.2.1 + 1 ≤ M.2.2.2.2.1 ∧ 8 + (M2.2.2.1 + 11) + M2.2.2.2.2.2 ≤ M.2.2.2.2.2) (hst : (st.map catv).sum ≤ 8) (hd : decode M.2.1 pc = .ok (.invokevirtual idx, 3)) (hc2 : CtI M2 (.inr (.inr (o, 0)) :: as) σ P) (k : ∀ (r : Int) (u : St), R32 r → P r u → Ev g (pc + 3) L (.inl r :: st) u) : Ev g pc L S σ := by
  obtain ⟨⟨p, l, e, R⟩, ⟨s, m, args, below⟩, ⟨meth, c, cells, slots⟩, ⟨D, ca, ρ⟩, Q⟩ := g
  obtain ⟨hx, hb, hml, hown, hts, hK, hlk, hfr, hlo, hc, hs, hSt⟩ := C
  intro H locs ls hl hR
  obtain ⟨hP, hD, hS, hG⟩ := hR
  subst hS0
  obtain ⟨q, hq1, hq2⟩ := wsl_get (D, ca, ρ) σ (ky_obj ho)
  have hrecv : ∃ cell : Cell, H[ρ o 0]? = some cell ∧ cell.vm.isStatics = false ∧ s.vm.findClass M2.1.cls = some cell.cls := by
    cases hcl : classes[cls o]? with
    | none => rw [hcl] at hrc; cases hrc
    | some cq =>
      rw [hcl] at hrc
      have e1 : cq.1 = M2.1.cls := Option.some.inj hrc
      rw [← e1]
      exact va_recv hK hP hcl hq2
  have hM := met_I l (D, ca, ρ) h2.1 hlen hc2
  have hCB : CallB R s args M.1.cls idx M2.1 M2.2.1 M2.2.2.1 M2.2.2.2.1 (wsM M2) (rmM M2) 0 0 n := callB_of n hts (good_M h2.1) rfl rfl rfl (hts _ h2.1.2.2.1) (hts _ hl2) h2.1.2.2.2 ⟨Nat.le_trans hroom.1 hfr, Nat.le_trans hroom.2 hlo⟩
  have hrun := va_runV (l := l) (e := e) (below := below) (meth := meth) (locs := locs) (cells := cells) (slots := slots) (g := F0 m pc ls ((as.reverse ++ .inr (.inr (o, 0)) :: st).map (toV ρ))) (b := ρ o 0) (As := as.map (toV ρ)) (rest := st.map (toV ρ)) ⟨hx, hb, hml, hown, hts⟩ hM ⟨hCB, hts _ h2.2.1, hts _ h2.2.2⟩
    ⟨fun a U g mk q => by obtain ⟨q0, q1, q2, q3, q4, q5⟩ := q; exact ⟨q0, q1, q2, q3, va_K.moved (u := U) (U := U.calling g mk a) (Vm.Alike.refl U.vm) q4, va_Z.moved (u := U) (U := U.calling g mk a) (Vm.Alike.refl U.vm) q5.1, va_T.moved (u := U) (U := U.calling g mk a) (Vm.Alike.refl U.vm) q5.2⟩, hrecv, fun U hU hW => ⟨rfl, by rw [hU]; exact hP, hD, hG, va_K.moved hW.alike hK, by rw [hU]; exact va_Z.moved hW.alike (hSt.1.kept hS.2.1), by rw [hU]; exact va_T.moved hW.alike (hSt.2.kept hS.2.1)⟩⟩ rfl (by rw [List.length_map]; exact hn) (hl.1.trans hml) (by show List.map _ _ = _; rw [List.map_append, List.map_reverse]; rfl) (by rw [catv_sum]; show 2 * 0 + _ ≤ 8; omega) hd ⟨hc, hs⟩
  refine va_calli hrun hS (fun _ _ h => h) (fun _ h => h) (fun r u t H1 locs1 ht hvm hw hB hz1 hk1 hS1 => ?_)
  obtain ⟨x, hx1, hx2, hx3⟩ := hw
  obtain ⟨b1, b2, b3⟩ := hB
  rw [ht] at b1
  rw [hx1]
  exact k x u hx2 hx3 H1 locs1 ls hl ⟨b1, b2, hS1, b3⟩
theorem e_callIS (C : Cx M g) {M2 : Md} {n idx : Nat} {S : List V} {P : Int → St → Prop} (h2 : OkS M2 n) (hl2 : Cond.methodLink M.1.cls idx M2.1 ∈ lw_gd) (as : List V) (hS0 : S = as.reverse ++ st) (hn : as.length = n) (hlen : (slo as).length ≤ M2.2.2.1) (hroom : M2.2.2.2.2.1 + 1 ≤ M.2.2.2.2.1 ∧ 8 + (M2.2.2.1 + 11) + M2.2.2.2.2.2 ≤ M.2.2.2.2.2) (hst : (st.map catv).sum ≤ 8) (hd : decode M.2.1 pc = .ok (.invokestatic idx, 3)) (hc2 : CtI M2 as σ P) (k : ∀ (r : Int) (u : St), R32 r → P r u → Ev g (pc + 3) L (.inl r :: st) u) : Ev g pc L S σ := by
  obtain ⟨⟨p, l, e, R⟩, ⟨s, m, args, below⟩, ⟨meth, c, cells, slots⟩, ⟨D, ca, ρ⟩, Q⟩ := g
  obtain ⟨hx, hb, hml, hown, hts, hK, hlk, hfr, hlo, hc, hs, hSt⟩ := C
  intro H locs ls hl hR
  obtain ⟨hP, hD, hS, hG⟩ := hR
  subst hS0
  have hM := met_I l (D, ca, ρ) h2.1 hlen hc2
  have hCB : CallB R s args M.1.cls idx M2.1 M2.2.1 M2.2.2.1 M2.2.2.2.1 (wsM M2) (rmM M2) 0 0 n := callB_of n hts (good_M h2.1) rfl rfl rfl (hts _ h2.1.2.2.1) (hts _ hl2) h2.1.2.2.2 ⟨Nat.le_trans hroom.1 hfr, Nat.le_trans hroom.2 hlo⟩
  have hrun := va_runS (l := l) (e := e) (below := below) (meth := meth) (locs := locs) (cells := cells) (slots := slots) (g := F0 m pc ls ((as.reverse ++ st).map (toV ρ))) (As := as.map (toV ρ)) (rest := st.map (toV ρ)) ⟨hx, hb, hml, hown, hts⟩ hM ⟨hCB, hts _ h2.2⟩
    ⟨fun a U g mk q => by obtain ⟨q0, q1, q2, q3, q4, q5⟩ := q; exact ⟨q0, q1, q2, q3, va_K.moved (u := U) (U := U.calling g mk a) (Vm.Alike.refl U.vm) q4, va_Z.moved (u := U) (U := U.calling g mk a) (Vm.Alike.refl U.vm) q5.1, va_T.moved (u := U) (U := U.calling g mk a) (Vm.Alike.refl U.vm) q5.2⟩, fun U hU hW => ⟨rfl, by rw [hU]; exact hP, hD, hG, va_K.moved hW.alike hK, by rw [hU]; exact va_Z.moved hW.alike (hSt.1.kept hS.2.1), by rw [hU]; exact va_T.moved hW.alike (hSt.2.kept hS.2.1)⟩⟩ rfl (by rw [List.length_map]; exact hn) (hl.1.trans hml) (by show List.map _ _ = _; rw [List.map_append, List.map_reverse]) (by rw [catv_sum]; show 2 * 0 + _ ≤ 8; omega) hd ⟨hc, hs⟩
  refine va_calli hrun hS (fun _ _ h => h) (fun _ h => h) (fun r u t H1 locs1 ht hvm hw hB hz1 hk1 hS1 => ?_)
  obtain ⟨x, hx1, hx2, hx3⟩ := hw
  obtain ⟨b1, b2, b3⟩ := hB
  rw [ht] at b1
  rw [hx1]
  exact k x u hx2 hx3 H1 locs1 ls hl ⟨b1, b2, hS1, b3⟩
theorem e_callVV (C : Cx M g) {M2 : Md} {n idx : Nat} {S : List V} {P : St → Prop} (h2 : OkV M2 n) (hl2 : Cond.methodLink M.1.cls idx M2.1 ∈ lw_gd) {o : Nat} (ho : o ∈ objs) (hrc : (classes[cls o]?).map (fun q => q.1) = some M2.1.cls) (as : List V) (hS0 : S = as.reverse ++ .inr (.inr (o, 0)) :: st) (hn : as.length = n) (hlen : (slo (.inr (.inr (o, 0)) :: as)).length ≤ M2.2.2.1) (hroom : M2.2.2.2.2.1 + 1 ≤ M.2.2.2.2.1 ∧ 8 + (M2.2.2.1 + 11) + M2.2.2.2.2.2 ≤ M.2.2.2.2.2) (hst : (st.map catv).sum ≤ 8) (hd : decode M.2.1 pc = .ok (.invokevirtual idx, 3)) (hc2 : CtV M2 (.inr (.inr (o, 0)) :: as) σ P) (k : ∀ u : St, P u → Ev g (pc + 3) L st u) : Ev g pc L S σ := by
  obtain ⟨⟨p, l, e, R⟩, ⟨s, m, args, below⟩, ⟨meth, c, cells, slots⟩, ⟨D, ca, ρ⟩, Q⟩ := g
  obtain ⟨hx, hb, hml, hown, hts, hK, hlk, hfr, hlo, hc, hs, hSt⟩ := C
  intro H locs ls hl hR
  obtain ⟨hP, hD, hS, hG⟩ := hR
  subst hS0
  obtain ⟨q, hq1, hq2⟩ := wsl_get (D, ca, ρ) σ (ky_obj ho)
  have hrecv : ∃ cell : Cell, H[ρ o 0]? = some cell ∧ cell.vm.isStatics = false ∧ s.vm.findClass M2.1.cls = some cell.cls := by
    cases hcl : classes[cls o]? with
    | none => rw [hcl] at hrc; cases hrc
    | some cq =>
      rw [hcl] at hrc
      have e1 : cq.1 = M2.1.cls := Option.some.inj hrc
      rw [← e1]
      exact va_recv hK hP hcl hq2
  have hM := met_V l (D, ca, ρ) h2.1 hlen hc2
  have hCB : CallB R s args M.1.cls idx M2.1 M2.2.1 M2.2.2.1 M2.2.2.2.1 (wsM M2) (rmM M2) 0 0 n := callB_of n hts (good_M h2.1) rfl rfl rfl (hts _ h2.1.2.2.1) (hts _ hl2) h2.1.2.2.2 ⟨Nat.le_trans hroom.1 hfr, Nat.le_trans hroom.2 hlo⟩
  have hrun := va_runV (l := l) (e := e) (below := below) (meth := meth) (locs := locs) (cells := cells) (slots := slots) (g := F0 m pc ls ((as.reverse ++ .inr (.inr (o, 0)) :: st).map (toV ρ))) (b := ρ o 0) (As := as.map (toV ρ)) (rest := st.map (toV ρ)) ⟨hx, hb, hml, hown, hts⟩ hM ⟨hCB, hts _ h2.2.1, hts _ h2.2.2⟩
    ⟨fun a U g mk q => by obtain ⟨q0, q1, q2, q3, q4, q5⟩ := q; exact ⟨q0, q1, q2, q3, va_K.moved (u := U) (U := U.calling g mk a) (Vm.Alike.refl U.vm) q4, va_Z.moved (u := U) (U := U.calling g mk a) (Vm.Alike.refl U.vm) q5.1, va_T.moved (u := U) (U := U.calling g mk a) (Vm.Alike.refl U.vm) q5.2⟩, hrecv, fun U hU hW => ⟨rfl, by rw [hU]; exact hP, hD, hG, va_K.moved hW.alike hK, by rw [hU]; exact va_Z.moved hW.alike (hSt.1.kept hS.2.1), by rw [hU]; exact va_T.moved hW.alike (hSt.2.kept hS.2.1)⟩⟩ rfl (by rw [List.length_map]; exact hn) (hl.1.trans hml) (by show List.map _ _ = _; rw [List.map_append, List.map_reverse]; rfl) (by rw [catv_sum]; show 2 * 0 + _ ≤ 8; omega) hd ⟨hc, hs⟩
  refine va_callv hrun hS (fun _ _ h => h) (fun _ h => h) (fun u t H1 locs1 ht hvm hw hB hz1 hk1 hS1 => ?_)
  obtain ⟨b1, b2, b3⟩ := hB
  rw [ht] at b1
  exact k u hw H1 locs1 ls hl ⟨b1, b2, hS1, b3⟩
theorem e_callLS (C : Cx M g) {M2 : Md} {n idx : Nat} {S : List V} {P : Int → St → Prop} (h2 : OkS M2 n) (hl2 : Cond.methodLink M.1.cls idx M2.1 ∈ lw_gd) (as : List V) (hS0 : S = as.reverse ++ st) (hn : as.length = n) (hlen : (slo as).length ≤ M2.2.2.1) (hroom : M2.2.2.2.2.1 + 1 ≤ M.2.2.2.2.1 ∧ 8 + (M2.2.2.1 + 11) + M2.2.2.2.2.2 ≤ M.2.2.2.2.2) (hst : (st.map catv).sum ≤ 8) (hd : decode M.2.1 pc = .ok (.invokestatic idx, 3)) (hc2 : CtL M2 as σ P) (k : ∀ (r : Int) (u : St), R64 r → P r u → Ev g (pc + 3) L (.inr (.inl r) :: st) u) : Ev g pc L S σ := by
  obtain ⟨⟨p, l, e, R⟩, ⟨s, m, args, below⟩, ⟨meth, c, cells, slots⟩, ⟨D, ca, ρ⟩, Q⟩ := g
  obtain ⟨hx, hb, hml, hown, hts, hK, hlk, hfr, hlo, hc, hs, hSt⟩ := C
  intro H locs ls hl hR
  obtain ⟨hP, hD, hS, hG⟩ := hR
  subst hS0
  have hM := met_L l (D, ca, ρ) h2.1 hlen hc2
  have hCB : CallB R s args M.1.cls idx M2.1 M2.2.1 M2.2.2.1 M2.2.2.2.1 (wsM M2) (rmM M2) 0 0 n := callB_of n hts (good_M h2.1) rfl rfl rfl (hts _ h2.1.2.2.1) (hts _ hl2) h2.1.2.2.2 ⟨Nat.le_trans hroom.1 hfr, Nat.le_trans hroom.2 hlo⟩
  have hrun := va_runS (l := l) (e := e) (below := below) (meth := meth) (locs := locs) (cells := cells) (slots := slots) (g := F0 m pc ls ((as.reverse ++ st).map (toV ρ))) (As := as.map (toV ρ)) (rest := st.map (toV ρ)) ⟨hx, hb, hml, hown, hts⟩ hM ⟨hCB, hts _ h2.2⟩
    ⟨fun a U g mk q => by obtain ⟨q0, q1, q2, q3, q4, q5⟩ := q; exact ⟨q0, q1, q2, q3, va_K.moved (u := U) (U := U.calling g mk a) (Vm.Alike.refl U.vm) q4, va_Z.moved (u := U) (U := U.calling g mk a) (Vm.Alike.refl U.vm) q5.1, va_T.moved (u := U) (U := U.calling g mk a) (Vm.Alike.refl U.vm) q5.2⟩, fun U hU hW => ⟨rfl, by rw [hU]; exact hP, hD, hG, va_K.moved hW.alike hK, by rw [hU]; exact va_Z.moved hW.alike (hSt.1.kept hS.2.1), by rw [hU]; exact va_T.moved hW.alike (hSt.2.kept hS.2.1)⟩⟩ rfl (by rw [List.length_map]; exact hn) (hl.1.trans hml) (by show List.map _ _ = _; rw [List.map_append, List.map_reverse]) (by rw [catv_sum]; show 2 * 0 + _ ≤ 8; omega) hd ⟨hc, hs⟩
  refine va_calll hrun hS (fun _ _ h => h) (fun _ h => h) (fun r u t H1 locs1 ht hvm hw hB hz1 hk1 hS1 => ?_)
  obtain ⟨x, hx1, hx2, hx3⟩ := hw
  obtain ⟨b1, b2, b3⟩ := hB
  rw [ht] at b1
  rw [hx1]
  exact k x u hx2 hx3 H1 locs1 ls hl ⟨b1, b2, hS1, b3⟩
def cpy (σ : St) (o f o1 f1 : Nat) (n : Int) : St := fun o' f' k' => if o' = o ∧ f' = f ∧ 0 ≤ k' ∧ k' < n then σ o1 f1 k' else σ o' f' k'
theorem cell_cpy {w : Wd} {σ : St} {o f o1 f1 : Nat} {n : Int} (hk : isArr (kd (cls o) f) = true) : ∀ k' ∈ kys, k' ≠ (o, f + 1) → cellE w (cpy σ o f o1 f1 n) k' = cellE w σ k' := by
  intro k' hk' hne
  obtain ⟨o', j⟩ := k'
  cases j with
  | zero =>
    show Sum.inr _ = Sum.inr _
    congr 2
    apply List.map_congr_left
    intro f' _
    congr 1
    by_cases e : o' = o ∧ f' = f
    · obtain ⟨rfl, rfl⟩ := e
      show fvl _ _ _ (kd (cls o') f') = fvl _ _ _ (kd (cls o') f')
      generalize kd (cls o') f' = n at hk
      simp only [isArr, Bool.or_eq_true, beq_iff_eq] at hk
      rcases hk with (((h | h) | h) | h) | h <;> subst h <;> rfl
    · have e2 : cpy σ o f o1 f1 n o' f' 0 = σ o' f' 0 := by unfold cpy; rw [if_neg (fun h => e ⟨h.1, h.2.1⟩)]
      show fvl _ _ _ (kd (cls o') f') = fvl _ _ _ (kd (cls o') f')
      generalize kd (cls o') f' = n
      unfold fvl
      rw [e2]
  | succ f' =>
    have e : ¬ (o' = o ∧ f' = f) := fun h => hne (by rw [h.1, h.2])
    have e2 : ∀ z : Int, cpy σ o f o1 f1 n o' f' z = σ o' f' z := fun z => by unfold cpy; rw [if_neg (fun h => e ⟨h.1, h.2.1⟩)]
    have e3 : con w.2.2 (cpy σ o f o1 f1 n) o' f' (kd (cls o') f') = con w.2.2 σ o' f' (kd (cls o') f') := by
      unfold con
      simp only [e2]
    show Sum.inl (_, _, con w.2.2 (cpy σ o f o1 f1 n) o' f' (kd (cls o') f')) = Sum.inl (_, _, con w.2.2 σ o' f' (kd (cls o') f'))
    rw [e3]
/-- System.arraycopy(a, 0, b, 0, n) of two rows of ints, or of booleans -/
theorem e_copy (C : Cx M g) {idx o f o1 f1 ci ci1 kn : Nat} {n : Int} {ty : FieldType} (t0 : Nat) (hty : ∀ ca : Nat → ClassId, (tysOf ca)[t0]? = some (ca kn, ty)) (hkt : kn = 3 ∧ ty = .int ∨ kn = 4 ∧ ty = .boolean) (hw : Cond.methodLink M.1.cls idx arraycopyName ∈ lw_gd ∧ Cond.native arraycopyName ∈ lw_gd ∧ Cond.static arraycopyName ∈ lw_gd ∧ Cond.initialized "java/lang/System" ∈ lw_gd)
    (ho : o ∈ objs) (hcl : cls o = ci) (hf : f < nf ci) (hk : kd ci f = kn) (ho1 : o1 ∈ objs) (hcl1 : cls o1 = ci1) (hf1 : f1 < nf ci1) (hk1 : kd ci1 f1 = kn) (h0 : 0 ≤ n) (hn : n ≤ ln ci f) (hn1 : n ≤ ln ci1 f1) (hb31 : n < 2147483648) (hroom : 1 ≤ M.2.2.2.2.1 ∧ nativeFrameWords "java/lang/System" "arraycopy" 5 + 11 ≤ M.2.2.2.2.2) (hd : decode M.2.1 pc = .ok (.invokestatic idx, 3)) (k : Ev g (pc + 3) L [] (cpy σ o f o1 f1 n)) :
    Ev g pc L [.inl n, .inl 0, .inr (.inr (o, f + 1)), .inl 0, .inr (.inr (o1, f1 + 1))] σ := by
  obtain ⟨⟨p, l, e, R⟩, ⟨s, m, args, below⟩, ⟨meth, c, cells, slots⟩, ⟨D, ca, ρ⟩, Q⟩ := g
  obtain ⟨hx, hb, hml, hown, hts, hK, hlk, hfr, hlo, hc, hs, hSt⟩ := C
  intro H locs ls hl hR
  have hka : isArr kn = true := by rcases hkt with h | h <;> rw [h.1] <;> rfl
  have hk35 : kn = 3 ∨ kn = 4 ∨ kn = 5 := by rcases hkt with h | h <;> rw [h.1] <;> decide
  obtain ⟨q, hq1, hq2⟩ := wsl_get (D, ca, ρ) σ (ky_arr ho (by rw [hcl]; exact hf) (by rw [hcl, hk]; exact hka))
  obtain ⟨q1, hr1, hr2⟩ := wsl_get (D, ca, ρ) σ (ky_arr ho1 (by rw [hcl1]; exact hf1) (by rw [hcl1, hk1]; exact hka))
  rw [cell_i hcl hk hk35] at hq2
  rw [cell_i hcl1 hk1 hk35] at hr2
  obtain ⟨hP, hD, hS, hG⟩ := hR
  have z0 : (Int32.ofInt 0).toNatClampNeg = 0 := by decide
  have zn : (Int32.ofInt n).toNatClampNeg = n.toNat := r_clamp h0 hb31
  have nz : ¬ Int32.ofInt n < 0 := by
    rw [show (0 : Int32) = Int32.ofInt 0 from rfl, r_lt ⟨by omega, by omega⟩ r_0]
    omega
  have e0 : va_cpy (fun j => Int32.ofInt (σ o1 f1 (j : Nat))) (fun j => Int32.ofInt (σ o f (j : Nat))) 0 0 n.toNat = fun j : Nat => Int32.ofInt (cpy σ o f o1 f1 n o f (j : Nat)) := by
    funext j
    unfold va_cpy cpy
    by_cases h : j < n.toNat
    · rw [if_pos ⟨Nat.zero_le _, by omega⟩, if_pos ⟨rfl, rfl, by omega, by omega⟩]
      rw [show 0 + (j - 0) = j by omega]
    · rw [if_neg (fun z => h (by have := z.2; omega)), if_neg (fun z => h (by have := z.2.2; omega))]
  refine va_copyi hx hb (hml.trans (hl.1.trans hml).symm) hown (hts _ hw.1) (hts _ hw.2.1) (hts _ hw.2.2.1) (hts _ hw.2.2.2) hK hP hD hS q1 q t0 t0 hr2 hq2 (hty ca) (hty ca) (by rcases hkt with h | h <;> rw [h.2] <;> rfl) (sp := Int32.ofInt 0) (dp := Int32.ofInt 0) (n := Int32.ofInt n) (by decide) (by decide) nz (by rw [z0, zn]; omega) (by rw [z0, zn]; omega) ?_ (Nat.le_trans hroom.1 hfr) (by show 0 + _ ≤ _; rw [Nat.zero_add]; exact Nat.le_trans hroom.2 hlo) hd (fun H1 locs1 hP1 hD1 hS1 => ?_)
  · intro i hi
    have := hG o1 f1 (((Int32.ofInt 0).toNatClampNeg + i : Nat) : Int)
    rw [hcl1, hk1] at this
    rcases hkt with h | h
    · rw [h.2]; rfl
    · rw [h.1] at this
      rw [h.2]
      rcases (show _ = (0 : Int) ∨ _ = (1 : Int) from this) with z | z <;> rw [z] <;> first | exact nf_z0.2 | exact nf_z1.2
  · have e1 : (wsl (D, ca, ρ) σ).set q (ρ o (f + 1), .inl (ca kn, ln ci f, .inl (va_cpy (fun j => Int32.ofInt (σ o1 f1 (j : Nat))) (fun j => Int32.ofInt (σ o f (j : Nat))) (Int32.ofInt 0).toNatClampNeg (Int32.ofInt 0).toNatClampNeg (Int32.ofInt n).toNatClampNeg))) = wsl (D, ca, ρ) (cpy σ o f o1 f1 n) := by
      rw [z0, zn, e0]
      have := wsl_set (w := (D, ca, ρ)) (σ' := cpy σ o f o1 f1 n) hD hq1 (cell_cpy (by rw [hcl, hk]; exact hka))
      rw [cell_i hcl hk hk35] at this
      exact this
    have hP1 : va_P D classes ((wsl (D, ca, ρ) σ).set q (ρ o (f + 1), .inl (ca kn, ln ci f, .inl (va_cpy (fun j => Int32.ofInt (σ o1 f1 (j : Nat))) (fun j => Int32.ofInt (σ o f (j : Nat))) (Int32.ofInt 0).toNatClampNeg (Int32.ofInt 0).toNatClampNeg (Int32.ofInt n).toNatClampNeg)))) H1 := hP1
    have hD1 : va_D (AA (D, ca, ρ)) ((wsl (D, ca, ρ) σ).set q (ρ o (f + 1), .inl (ca kn, ln ci f, .inl (va_cpy (fun j => Int32.ofInt (σ o1 f1 (j : Nat))) (fun j => Int32.ofInt (σ o f (j : Nat))) (Int32.ofInt 0).toNatClampNeg (Int32.ofInt 0).toNatClampNeg (Int32.ofInt n).toNatClampNeg)))) := hD1
    rw [e1] at hP1 hD1
    refine k H1 locs1 ls hl ⟨hP1, hD1, hS1, fun o' f' k' => ?_⟩
    unfold cpy
    by_cases h : o' = o ∧ f' = f ∧ 0 ≤ k' ∧ k' < n
    · rw [if_pos h, h.1, h.2.1, hcl, hk]
      have := hG o1 f1 k'
      rw [hcl1, hk1] at this
      exact this
    · rw [if_neg h]
      exact hG o' f' k'
end RowsC
