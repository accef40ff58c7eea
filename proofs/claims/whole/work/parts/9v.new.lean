/-! objects in the making: the judgement Nv, over a world that grows -/
/-- a key's cell -/
def nvC (w : Wd) (σ : St) (k : Nat × Nat) : Nat × va_E := (w.2.2 k.1 k.2, cellE w σ k)
/-- the keys' cells lie one behind the other, from b on -/
def Bs (ρ : Nat → Nat → Nat) (K : List (Nat × Nat)) (b : Nat) : Prop := ∀ (i : Nat) (k : Nat × Nat), K[i]? = some k → ρ k.1 k.2 = b + i
theorem Bs.l {ρ : Nat → Nat → Nat} {K1 K2 : List (Nat × Nat)} {b : Nat} (h : Bs ρ (K1 ++ K2) b) : Bs ρ K1 b := fun i k hk => h i k (by rw [List.getElem?_append_left (List.getElem?_eq_some_iff.mp hk).1]; exact hk)
theorem Bs.r {ρ : Nat → Nat → Nat} {K1 K2 : List (Nat × Nat)} {b : Nat} (h : Bs ρ (K1 ++ K2) b) : Bs ρ K2 (b + K1.length) := fun i k hk => by
  have := h (K1.length + i) k (by rw [List.getElem?_append_right (by omega), show K1.length + i - K1.length = i by omega]; exact hk)
  omega
theorem Bs.tl {ρ : Nat → Nat → Nat} {k : Nat × Nat} {K : List (Nat × Nat)} {b : Nat} (h : Bs ρ (k :: K) b) : Bs ρ K (b + 1) := fun i k2 hk => by
  have := h (i + 1) k2 hk
  omega
theorem va_P_mem {D : va_G} {cl : List vw_C} {ws : va_W} {H : Heap} : va_P D cl ws H ↔ ∀ q ∈ ws, va_at D cl q H :=
  ⟨fun h q hq => by obtain ⟨k, hk⟩ := List.getElem?_of_mem hq; exact h k q hk, fun h k q hk => h q (List.mem_of_getElem? hk)⟩
theorem va_D_nd {A : Nat → Prop} {ws : va_W} : va_D A ws ↔ (ws.map fun q => q.1).Nodup ∧ ∀ q ∈ ws, A q.1 := by
  constructor
  · rintro ⟨h1, h2⟩
    refine ⟨?_, fun q hq => by obtain ⟨k, hk⟩ := List.getElem?_of_mem hq; exact h2 k q hk⟩
    refine List.pairwise_iff_getElem.mpr (fun i j hi hj hij e => ?_)
    rw [List.getElem_map, List.getElem_map] at e
    rw [List.length_map] at hi hj
    have := h1 i j ws[i] ws[j] (List.getElem?_eq_getElem hi) (List.getElem?_eq_getElem hj) e
    omega
  · rintro ⟨h1, h2⟩
    refine ⟨fun i j p q hp hq e => ?_, fun k q hk => h2 q (List.mem_of_getElem? hk)⟩
    have h1 := List.pairwise_iff_getElem.mp h1
    obtain ⟨hi, e1⟩ := List.getElem?_eq_some_iff.mp hp
    obtain ⟨hj, e2⟩ := List.getElem?_eq_some_iff.mp hq
    rcases Nat.lt_trichotomy i j with c | c | c
    · refine absurd ?_ (h1 i j (by rw [List.length_map]; exact hi) (by rw [List.length_map]; exact hj) c)
      rw [List.getElem_map, List.getElem_map, e1, e2]; exact e
    · exact c
    · refine absurd ?_ (h1 j i (by rw [List.length_map]; exact hj) (by rw [List.length_map]; exact hi) c)
      rw [List.getElem_map, List.getElem_map, e1, e2]; exact e.symm
theorem va_P_perm {D : va_G} {cl : List vw_C} {ws ws' : va_W} {H : Heap} (hp : ws.Perm ws') (h : va_P D cl ws H) : va_P D cl ws' H := va_P_mem.mpr fun q hq => va_P_mem.mp h q (hp.mem_iff.mpr hq)
theorem va_D_perm {A : Nat → Prop} {ws ws' : va_W} (hp : ws.Perm ws') (h : va_D A ws) : va_D A ws' := by
  obtain ⟨h1, h2⟩ := va_D_nd.mp h
  exact va_D_nd.mpr ⟨(hp.map _).nodup_iff.mp h1, fun q hq => h2 q (hp.mem_iff.mpr hq)⟩
theorem Bs.D {w : Wd} {σ : St} {K : List (Nat × Nat)} {b : Nat} {A : Nat → Prop} (h : Bs w.2.2 K b) (hA : ∀ q, b ≤ q → A q) : va_D A (K.map (nvC w σ)) := by
  have key : ∀ (i : Nat) (q : Nat × va_E), (K.map (nvC w σ))[i]? = some q → q.1 = b + i := by
    intro i q hq
    rw [List.getElem?_map] at hq
    cases h1 : K[i]? with
    | none => rw [h1] at hq; cases hq
    | some k => rw [h1] at hq; cases hq; exact h i k h1
  refine ⟨fun i j p q hp hq e => ?_, fun k q hq => hA _ ?_⟩
  · have := key i p hp; have := key j q hq; omega
  · have := key k q hq; omega
theorem va_S_trans {A : Nat → Prop} {H0 H H1 : Heap} {locs locs1 : List Loc} (h : va_S A H0 H locs) (h1 : va_S A H H1 locs1) : va_S A H0 H1 locs1 :=
  ⟨Nat.le_trans h.1 h1.1, fun q hq hn => (h1.2.1 q (Nat.lt_of_lt_of_le hq h.1) hn).trans (h.2.1 q hq hn), h1.2.2⟩
theorem va_S_here {A : Nat → Prop} {H0 H : Heap} {locs : List Loc} (h : va_S A H0 H locs) : va_S A H H locs := ⟨Nat.le_refl _, fun _ _ _ => rfl, h.2.2⟩
/-- the machine has made no more cells than it counts -/
theorem w_size {p : Program} {l : Launch} {e : Env} {R : Room} {s : State} {m : MethodId} {args : Array Value} {below : List Frame} {meth : Method} {c : Code} {H : Heap} {locs : List Loc} {cells slots : Nat} {Q : State → Prop} {g : JFrame} (k : H.size ≤ s.heap.size + cells → W p l e R s m args below meth c H locs cells slots Q g) : W p l e R s m args below meth c H locs cells slots Q g :=
  fun T hT X => k (by have := X.same.2.2.1; rw [← hT]; exact this) T hT X
/-- calls of private constructors, and the array class of castles -/
def nstW : List (String × Nat × MethodName) := [("SandGuards", 9, M_Ta_init.1), ("SandGuards", 18, M_Re_init.1), ("SandGuards$Reader", 13, M_Pl_init.1), ("SandGuards$Plan", 20, M_La_init.1), ("SandGuards$Reader", 27, M_To_init.1), ("SandGuards", 25, M_Pl_init.1), ("SandGuards", 57, M_Ou_init.1), ("SandGuards", 64, M_Dr_init.1), ("SandGuards", 71, M_Ga_init.1), ("SandGuards", 78, M_Ru_init.1)]
def NX (U : State) : Prop := va_AO "SandGuards$Castle" U ∧ ∀ q ∈ nstW, va_Nw (.methodLinkNest q.1 q.2.1 q.2.2 "SandGuards") U
theorem NX.warm {s U : State} (hW : s.WarmedH U.vm) (h : NX s) : NX U := ⟨va_AO.moved hW.alike h.1, fun q hq => va_Nw.warmM hW (h.2 q hq)⟩
theorem NX.same {u U : State} (e : u.vm = U.vm) (h : NX u) : NX U := ⟨va_AO.moved (by rw [e]; exact Vm.Alike.refl _) h.1, fun q hq => va_Nw.same rfl e (h.2 q hq)⟩
def Cn (M : Md) (g : Mach) (b : Nat) : Prop := match g with
  | ((p, l, e, R), (s, m, args, below), (meth, c, mc, ms), w, Q) =>
    p.tables.exec = Jvm.exec ∧ c.code = M.2.1 ∧ c.maxLocals = M.2.2.1 ∧ s.vm.findClass M.1.cls = some m.cls ∧ (∀ t ∈ lw_gd, t.before args s = true) ∧ va_K w.1 classes (tysOf w.2.1) s ∧ meth.locks = false ∧ M.2.2.2.2.1 ≤ R.frames ∧ M.2.2.2.2.2 ≤ R.locals ∧ b ≤ s.heap.size ∧ mc ≤ R.cells ∧ ms ≤ R.slots ∧ NX s
def Nv (g : Mach) (b pc : Nat) (L : List (Nat × Value)) (st : List Value) (n cells slots : Nat) (ws : va_W) : Prop := match g with
  | ((p, l, e, R), (s, m, args, below), (meth, c, mc, ms), w, Q) =>
    ∀ (H : Heap) (locs : List Loc) (ls : Array Slot), lv_has ls c.maxLocals L → n ≤ H.size → va_P w.1 classes ws H → va_D (fun q => b ≤ q) ws → va_S (fun q => b ≤ q) s.heap H locs → W p l e R s m args below meth c H locs cells slots Q (F0 m pc ls st)
/-- the size of the heap at the method's entry, its bounds, its world's addresses and array classes -/
def gsz (g : Mach) : Nat := g.2.1.1.heap.size
def gmc (g : Mach) : Nat := g.2.2.1.2.2.1
def gms (g : Mach) : Nat := g.2.2.1.2.2.2
def gw (g : Mach) : Wd := g.2.2.2.1
def gini (g : Mach) : Prop := g.2.2.1.1.name = "<init>"
section RowsN
variable {M : Md} {g : Mach} {b pc n cells slots : Nat} {L : List (Nat × Value)} {st : List Value} {ws : va_W}
theorem n_perm {ws' : va_W} (hp : ws.Perm ws') (kk : Nv g b pc L st n cells slots ws') : Nv g b pc L st n cells slots ws := by
  obtain ⟨⟨p, l, e, R⟩, ⟨s, m, args, below⟩, ⟨meth, c, mc, ms⟩, ⟨D, ca, ρ⟩, Q⟩ := g
  intro H locs ls hl hn hP hD hS
  exact kk H locs ls hl hn (va_P_perm hp hP) (va_D_perm hp hD) hS
theorem n_aload (C : Cn M g b) {k : Fin 4} {i : Nat} (j : Nat) {x : Nat} (hd : decode M.2.1 pc = .ok (.aload_n k, 1)) (hi : (k : Nat) = i) (hL : L[j]? = some (i, .ref x)) (kk : Nv g b (pc + 1) L (.ref x :: st) n cells slots ws) : Nv g b pc L st n cells slots ws := by
  obtain ⟨⟨p, l, e, R⟩, ⟨s, m, args, below⟩, ⟨meth, c, mc, ms⟩, ⟨D, ca, ρ⟩, Q⟩ := g
  obtain ⟨hx, hb, -⟩ := C
  intro H locs ls hl hn hP hD hS
  exact lv_aload_n hx hb hd hi (lv_at hl j hL) (kk H locs ls hl hn hP hD hS)
theorem n_iload (C : Cn M g b) {k : Fin 4} {i : Nat} (j : Nat) {x : Int32} (hd : decode M.2.1 pc = .ok (.iload_n k, 1)) (hi : (k : Nat) = i) (hL : L[j]? = some (i, .int x)) (kk : Nv g b (pc + 1) L (.int x :: st) n cells slots ws) : Nv g b pc L st n cells slots ws := by
  obtain ⟨⟨p, l, e, R⟩, ⟨s, m, args, below⟩, ⟨meth, c, mc, ms⟩, ⟨D, ca, ρ⟩, Q⟩ := g
  obtain ⟨hx, hb, -⟩ := C
  intro H locs ls hl hn hP hD hS
  exact lv_iload_n hx hb hd hi (lv_at hl j hL) (kk H locs ls hl hn hP hD hS)
theorem n_iconst (C : Cn M g b) {z : Int} {v : Int32} (hd : decode M.2.1 pc = .ok (.iconst z, 1)) (hv : Int32.ofInt z = v) (kk : Nv g b (pc + 1) L (.int v :: st) n cells slots ws) : Nv g b pc L st n cells slots ws := by
  obtain ⟨⟨p, l, e, R⟩, ⟨s, m, args, below⟩, ⟨meth, c, mc, ms⟩, ⟨D, ca, ρ⟩, Q⟩ := g
  obtain ⟨hx, hb, -⟩ := C
  intro H locs ls hl hn hP hD hS
  exact lv_iconst hx hb hd hv (kk H locs ls hl hn hP hD hS)
theorem n_bipush (C : Cn M g b) {z : Int} {v : Int32} (hd : decode M.2.1 pc = .ok (.bipush z, 2)) (hv : (Int8.ofInt z).toInt32 = v) (kk : Nv g b (pc + 2) L (.int v :: st) n cells slots ws) : Nv g b pc L st n cells slots ws := by
  obtain ⟨⟨p, l, e, R⟩, ⟨s, m, args, below⟩, ⟨meth, c, mc, ms⟩, ⟨D, ca, ρ⟩, Q⟩ := g
  obtain ⟨hx, hb, -⟩ := C
  intro H locs ls hl hn hP hD hS
  exact lv_bipush hx hb hd hv (kk H locs ls hl hn hP hD hS)
theorem n_sipush (C : Cn M g b) {z : Int} {v : Int32} (hd : decode M.2.1 pc = .ok (.sipush z, 3)) (hv : (Int16.ofInt z).toInt32 = v) (kk : Nv g b (pc + 3) L (.int v :: st) n cells slots ws) : Nv g b pc L st n cells slots ws := by
  obtain ⟨⟨p, l, e, R⟩, ⟨s, m, args, below⟩, ⟨meth, c, mc, ms⟩, ⟨D, ca, ρ⟩, Q⟩ := g
  obtain ⟨hx, hb, -⟩ := C
  intro H locs ls hl hn hP hD hS
  exact lv_sipush hx hb hd hv (kk H locs ls hl hn hP hD hS)
theorem n_dup (C : Cn M g b) {v : Value} (hd : decode M.2.1 pc = .ok (.dup, 1)) (hv : v.category = 1) (kk : Nv g b (pc + 1) L (v :: v :: st) n cells slots ws) : Nv g b pc L (v :: st) n cells slots ws := by
  obtain ⟨⟨p, l, e, R⟩, ⟨s, m, args, below⟩, ⟨meth, c, mc, ms⟩, ⟨D, ca, ρ⟩, Q⟩ := g
  obtain ⟨hx, hb, -⟩ := C
  intro H locs ls hl hn hP hD hS
  exact lv_dup hx hb hd hv (kk H locs ls hl hn hP hD hS)
theorem n_istore (C : Cn M g b) {k : Fin 4} {i : Nat} {x : Int32} {L' : List (Nat × Value)} (hd : decode M.2.1 pc = .ok (.istore_n k, 1)) (hi : (k : Nat) = i) (hin : i < M.2.2.1) (hL : (i, Value.int x) :: L.filter (fun q => !(q.1 == i) && !(q.1 + 1 == i && q.2.category == 2)) = L') (kk : Nv g b (pc + 1) L' st n cells slots ws) : Nv g b pc L (.int x :: st) n cells slots ws := by
  obtain ⟨⟨p, l, e, R⟩, ⟨s, m, args, below⟩, ⟨meth, c, mc, ms⟩, ⟨D, ca, ρ⟩, Q⟩ := g
  obtain ⟨hx, hb, hml, -⟩ := C
  intro H locs ls hl hn hP hD hS
  exact lv_istore_n hx hb hd hi hl (by rw [hml]; exact hin) hL (fun ls' hl' => kk H locs ls' hl' hn hP hD hS)
theorem n_astore (C : Cn M g b) {k : Fin 4} {i : Nat} {x : Nat} {L' : List (Nat × Value)} (hd : decode M.2.1 pc = .ok (.astore_n k, 1)) (hi : (k : Nat) = i) (hin : i < M.2.2.1) (hL : (i, Value.ref x) :: L.filter (fun q => !(q.1 == i) && !(q.1 + 1 == i && q.2.category == 2)) = L') (kk : Nv g b (pc + 1) L' st n cells slots ws) : Nv g b pc L (.ref x :: st) n cells slots ws := by
  obtain ⟨⟨p, l, e, R⟩, ⟨s, m, args, below⟩, ⟨meth, c, mc, ms⟩, ⟨D, ca, ρ⟩, Q⟩ := g
  obtain ⟨hx, hb, hml, -⟩ := C
  intro H locs ls hl hn hP hD hS
  exact lv_astore_n hx hb hd hi hl (by rw [hml]; exact hin) hL (fun ls' hl' => kk H locs ls' hl' hn hP hD hS)
theorem n_iinc (C : Cn M g b) {i : Nat} (j : Nat) {z : Int} {x v : Int32} {L' : List (Nat × Value)} (hd : decode M.2.1 pc = .ok (.iinc i z, 3)) (hj : L[j]? = some (i, .int x)) (hv : x + Int32.ofInt z = v) (hin : i < M.2.2.1) (hL : (i, Value.int v) :: L.filter (fun q => !(q.1 == i) && !(q.1 + 1 == i && q.2.category == 2)) = L') (kk : Nv g b (pc + 3) L' st n cells slots ws) : Nv g b pc L st n cells slots ws := by
  obtain ⟨⟨p, l, e, R⟩, ⟨s, m, args, below⟩, ⟨meth, c, mc, ms⟩, ⟨D, ca, ρ⟩, Q⟩ := g
  obtain ⟨hx, hb, hml, -⟩ := C
  intro H locs ls hl hn hP hD hS
  exact lv_iinc hx hb hd hl hj hv (by rw [hml]; exact hin) hL (fun ls' hl' => kk H locs ls' hl' hn hP hD hS)
theorem n_goto (C : Cn M g b) {off : Int} (tgt : Nat) (hd : decode M.2.1 pc = .ok (.goto off, 3)) (ht : (pc : Int) + off = (tgt : Int)) (kk : Nv g b tgt L st n cells slots ws) : Nv g b pc L st n cells slots ws := by
  obtain ⟨⟨p, l, e, R⟩, ⟨s, m, args, below⟩, ⟨meth, c, mc, ms⟩, ⟨D, ca, ρ⟩, Q⟩ := g
  obtain ⟨hx, hb, hml, -⟩ := C
  intro H locs ls hl hn hP hD hS
  exact lv_goto hx hb hd ht (kk H locs ls hl hn hP hD hS)
theorem n_icmp_ge (C : Cn M g b) {off : Int} (tgt : Nat) {x y : Int32} (hd : decode M.2.1 pc = .ok (.if_icmp .ge off, 3)) (ht : (pc : Int) + off = (tgt : Int)) (kt : y ≤ x → Nv g b tgt L st n cells slots ws) (kf : ¬ y ≤ x → Nv g b (pc + 3) L st n cells slots ws) : Nv g b pc L (.int y :: .int x :: st) n cells slots ws := by
  obtain ⟨⟨p, l, e, R⟩, ⟨s, m, args, below⟩, ⟨meth, c, mc, ms⟩, ⟨D, ca, ρ⟩, Q⟩ := g
  obtain ⟨hx, hb, hml, -⟩ := C
  intro H locs ls hl hn hP hD hS
  exact lv_icmp_ge hx hb hd ht (fun h => kt h H locs ls hl hn hP hD hS) (fun h => kf h H locs ls hl hn hP hD hS)
theorem n_oinit (C : Cn M g b) {idx x : Nat} (h1 : Cond.methodLink M.1.cls idx Lib.objectInit ∈ lw_gd) (h2 : Cond.instanceMethod Lib.objectInit ∈ lw_gd) (h3 : Cond.code Lib.objectInit ⟨#[0xb1]⟩ 1 none ∈ lw_gd) (hd : decode M.2.1 pc = .ok (.invokespecial idx, 3)) (hfr : 1 ≤ M.2.2.2.2.1) (hlo : 12 ≤ M.2.2.2.2.2) (kk : Nv g b (pc + 3) L [] n cells slots ws) : Nv g b pc L [.ref x] n cells slots ws := by
  obtain ⟨⟨p, l, e, R⟩, ⟨s, m, args, below⟩, ⟨meth, c, mc, ms⟩, ⟨D, ca, ρ⟩, Q⟩ := g
  obtain ⟨hx, hb, hml, hown, hts, hK, hlk, hf, hlc, -⟩ := C
  intro H locs ls hl hn hP hD hS
  exact W.objInit hx hb hown (hts _ h1) (hts _ h2) (hts _ h3) rfl hl.1 rfl hd (Nat.le_trans hfr hf) (by show 2 * 0 + 0 + 12 ≤ _; omega) (kk H locs ls hl hn hP hD hS)
theorem n_newa (C : Cn M g b) {aty : ArrayType} {ty : FieldType} (t0 kn : Nat) (hty : newarray.typeOf aty = ty) (ht : ∀ ca : Nat → ClassId, (tysOf ca)[t0]? = some (ca kn, ty)) (hra : ∀ (U : State) (cA : ClassId), va_RA U cA ty → U.vm.findClass ("[" ++ ty.toString) = some cA) (ha : Cond.arrayClass ty ∈ lw_gd) {x : Int32} {N : Nat} {a0 : vp_A} (h0 : ∀ cA : ClassId, vp_cell cA a0 = arrV cA N (fun _ => defaultValue ty)) (hx0 : ¬ x < 0) (hN : x.toNatClampNeg = N) (hby : N * componentBytes ty ≤ 536870912) (hn1 : gsz g + cells = n) (hmc : cells + 1 ≤ gmc g) (hms : slots + N ≤ gms g) (hd : decode M.2.1 pc = .ok (.newarray aty, 2)) (kk : Nv g b (pc + 2) L (.ref n :: st) (n + 1) (cells + 1) (slots + N) (ws ++ [(n, .inl ((gw g).2.1 kn, a0))])) : Nv g b pc L (.int x :: st) n cells slots ws := by
  obtain ⟨⟨p, l, e, R⟩, ⟨s, m, args, below⟩, ⟨meth, c, mc, ms⟩, ⟨D, ca, ρ⟩, Q⟩ := g
  obtain ⟨hx, hb, hml, hown, hts, hK, hlk, hf, hlc, hbs, h1, h2, hAO⟩ := C
  intro H locs ls hl hn hP hD hS
  refine w_size fun hsz => ?_
  have hn1 : s.heap.size + cells = n := hn1
  have hH : H.size = n := by omega
  have hmc : cells + 1 ≤ mc := hmc
  have hms : slots + N ≤ ms := hms
  subst hty
  refine va_newaK hx hb (hts _ ha) rfl hd rfl hx0 hN hby (Nat.le_trans hmc h1) (Nat.le_trans hms h2) hH fun H1 cA e1 z1 o1 hAr hNm => ?_
  have hcA : cA = ca kn := Option.some.inj (hNm.symm.trans (hra _ _ (hK.2 t0 _ (ht ca)).2))
  subst hcA
  have hk : ∀ (k : Nat) (q : Nat × va_E), ws[k]? = some q → H1[q.1]? = H[q.1]? := fun k q hq => o1 q.1 (by rw [← hH]; exact (hP k q hq).lt)
  refine kk H1 locs ls hl (by omega) ((hP.kept hk).app (va_P_mem.mpr fun q hq => ?_)) (hD.push hP hH.symm (by show b ≤ n; omega)) ⟨by have := hS.1; omega, fun q h3 h4 => (o1 q (by omega)).trans (hS.2.1 q h3 h4), hS.2.2⟩
  rw [List.mem_singleton.mp hq]
  show H1[n]? = some (vp_cell _ _)
  rw [e1, h0]
  rfl
theorem n_newq (C : Cn M g b) {idx : Nat} (hlk : Cond.classLink M.1.cls idx "SandGuards$Castle" ∈ lw_gd) {x : Int32} {N : Nat} (hx0 : ¬ x < 0) (hN : x.toNatClampNeg = N) (hby : N * 4 ≤ 536870912) (hn1 : gsz g + cells = n) (hmc : cells + 1 ≤ gmc g) (hms : slots + N ≤ gms g) (hd : decode M.2.1 pc = .ok (.anewarray idx, 3)) (kk : Nv g b (pc + 3) L (.ref n :: st) (n + 1) (cells + 1) (slots + N) (ws ++ [(n, .inl ((gw g).2.1 8, N, .inr (.inr (.inr (.inr fun _ => none)))))])) : Nv g b pc L (.int x :: st) n cells slots ws := by
  obtain ⟨⟨p, l, e, R⟩, ⟨s, m, args, below⟩, ⟨meth, c, mc, ms⟩, ⟨D, ca, ρ⟩, Q⟩ := g
  obtain ⟨hx, hb, hml, hown, hts, hK, hlk2, hf, hlc, hbs, h1, h2, hAO⟩ := C
  intro H locs ls hl hn hP hD hS
  refine w_size fun hsz => ?_
  have hn1 : s.heap.size + cells = n := hn1
  have hH : H.size = n := by omega
  have hmc : cells + 1 ≤ mc := hmc
  have hms : slots + N ≤ ms := hms
  subst hN
  subst hH
  refine W.anew hx hb hown (hts _ hlk) hAO.1.use rfl hd rfl hx0 hby (Nat.le_trans hmc h1) (Nat.le_trans hms h2) fun cA kA comp f1 f2 f3 f4 => ?_
  obtain ⟨kA2, comp2, k1, k2, k3, k4⟩ := (hK.2 4 (ca 8, .object "SandGuards$Castle") rfl).2
  have hcA : cA = ca 8 := Option.some.inj (f1.symm.trans k4)
  subst hcA
  have hk : ∀ (k : Nat) (q : Nat × va_E), ws[k]? = some q → (H.push ({ cls := ca 8, slots := Array.replicate x.toNatClampNeg .null, vm := .none } : Cell))[q.1]? = H[q.1]? := fun k q hq => by
    rw [Array.getElem?_push, if_neg (Nat.ne_of_lt (hP k q hq).lt)]
  refine kk _ locs ls hl (by rw [Array.size_push]; omega) ((hP.kept hk).app (va_P_mem.mpr fun q hq => ?_)) (hD.push hP rfl (by show b ≤ _; omega)) ⟨by rw [Array.size_push]; have := hS.1; omega, fun q h3 h4 => by rw [Array.getElem?_push, if_neg (by omega)]; exact hS.2.1 q h3 h4, hS.2.2⟩
  rw [List.mem_singleton.mp hq]
  show (H.push _)[H.size]? = some (vp_cell _ _)
  rw [Array.getElem?_push_size, arrV_new]
  rfl
theorem n_new (C : Cn M g b) {idx ci N : Nat} {Cc : String} {T : u_T} (hKO : KOk ci Cc T N) (ty : Nat → FieldType) (hty : ∀ k, k < N → parseFieldDescriptor (T k).2.2.1 = some (ty k)) (hlk : Cond.classLink M.1.cls idx Cc ∈ lw_gd) (hins : Cond.instantiable Cc N ∈ lw_gd) (hini : Cond.initialized Cc ∈ lw_gd) {fs : List Value} (hfs : ∀ j, j < N → defaultValue (ty j) = vp_V fs j) (hn1 : gsz g + cells = n) (hmc : cells + 1 ≤ gmc g) (hms : slots + N ≤ gms g) (hd : decode M.2.1 pc = .ok (.new idx, 3)) (kk : Nv g b (pc + 3) L (.ref n :: st) (n + 1) (cells + 1) (slots + N) (ws ++ [(n, .inr (ci, fs))])) : Nv g b pc L st n cells slots ws := by
  obtain ⟨⟨p, l, e, R⟩, ⟨s, m, args, below⟩, ⟨meth, c, mc, ms⟩, ⟨D, ca, ρ⟩, Q⟩ := g
  obtain ⟨hx, hb, hml, hown, hts, hK, hlk2, hf, hlc, hbs, h1, h2, hAO⟩ := C
  intro H locs ls hl hn hP hD hS
  refine w_size fun hsz => ?_
  have hn1 : s.heap.size + cells = n := hn1
  have hH : H.size = n := by omega
  have hmc : cells + 1 ≤ mc := hmc
  have hms : slots + N ≤ ms := hms
  obtain ⟨k1, k2, k3, -⟩ := hKO
  have hKn := hK.1 ci _ k1
  refine W.newcK hx hb hown (hts _ hlk) (hts _ hins) (hts _ hini) rfl hd (Nat.le_trans hmc h1) (Nat.le_trans hms h2) hKn.2.1 hH fun H1 kC hkC e1 z1 o1 => ?_
  have hk : ∀ (k : Nat) (q : Nat × va_E), ws[k]? = some q → H1[q.1]? = H[q.1]? := fun k q hq => o1 q.1 (by rw [← hH]; exact (hP k q hq).lt)
  refine kk H1 locs ls hl (by omega) ((hP.kept hk).app (va_P_mem.mpr fun q hq => ?_)) (hD.push hP hH.symm (by show b ≤ n; omega)) ⟨by have := hS.1; omega, fun q h3 h4 => (o1 q (by omega)).trans (hS.2.1 q h3 h4), hS.2.2⟩
  rw [List.mem_singleton.mp hq]
  exact ⟨_, k1, (u_born ty hts k3 hKn hkC e1 hty).to hfs⟩
/-- a final field's facts -/
def FF (own : String) (idx ci f : Nat) (ty : FieldType) : Prop := ∃ (Cn : String) (T : u_T) (N : Nat), KOk ci Cn T N ∧ f < N ∧ Cond.fieldLink own idx Cn (T f).2.1 (T f).2.2.1 ∈ lw_gd ∧ (T f).2.2.2 = true ∧ (T f).1 = own ∧ parseFieldDescriptor (T f).2.2.1 = some ty
theorem n_putF (C : Cn M g b) (hI : gini g) {idx ci f a : Nat} {ty : FieldType} {v : Value} {fs : List Value} (h : FF M.1.cls idx ci f ty) (hnv : narrow ty v = v) (hfi : fits ty v = true) (hfl : f < fs.length) (hd : decode M.2.1 pc = .ok (.putfield idx, 3)) (kk : Nv g b (pc + 3) L st n cells slots ((a, .inr (ci, fs.set f v)) :: ws)) : Nv g b pc L (v :: .ref a :: st) n cells slots ((a, .inr (ci, fs)) :: ws) := by
  obtain ⟨⟨p, l, e, R⟩, ⟨s, m, args, below⟩, ⟨meth, c, mc, ms⟩, ⟨D, ca, ρ⟩, Q⟩ := g
  obtain ⟨hx, hb, hml, hown, hts, hK, hlk2, hf, hlc, hbs, h1, h2, hAO⟩ := C
  intro H locs ls hl hn hP hD hS
  obtain ⟨Cc, T, N, ⟨k1, k2, k3, ⟨ty0, k4⟩, k5, k6⟩, hfN, hl2, hfin, hdc, hpt⟩ := h
  refine va_putF (D := D) (cl := classes) (ref := Cc) (own := M.1.cls) hx hb hts k3 ty0 k4 k5 hown hK hP hD (va_S_here hS) 0 (fs := fs) rfl k1 f hfN (hts _ hl2) (fun x h9 => by rw [k6 f hfN] at h9; exact h9) hfin hI hdc hpt hnv hfi hfl hd (fun H1 locs1 hP1 hD1 hS1 => ?_)
  exact kk H1 locs1 ls hl (Nat.le_trans hn hS1.1) hP1 hD1 (va_S_trans hS hS1)
theorem n_put (C : Cn M g b) {idx ci f a : Nat} {ty : FieldType} {v : Value} {fs : List Value} (h : FP M.1.cls idx ci f ty) (hnv : narrow ty v = v) (hfi : fits ty v = true) (hfl : f < fs.length) (hd : decode M.2.1 pc = .ok (.putfield idx, 3)) (kk : Nv g b (pc + 3) L st n cells slots ((a, .inr (ci, fs.set f v)) :: ws)) : Nv g b pc L (v :: .ref a :: st) n cells slots ((a, .inr (ci, fs)) :: ws) := by
  obtain ⟨⟨p, l, e, R⟩, ⟨s, m, args, below⟩, ⟨meth, c, mc, ms⟩, ⟨D, ca, ρ⟩, Q⟩ := g
  obtain ⟨hx, hb, hml, hown, hts, hK, hlk2, hf, hlc, hbs, h1, h2, hAO⟩ := C
  intro H locs ls hl hn hP hD hS
  obtain ⟨Cc, T, N, ⟨k1, k2, k3, ⟨ty0, k4⟩, k5, k6⟩, hfN, hl2, hfin, hpt⟩ := h
  refine va_put (D := D) (cl := classes) (ref := Cc) (own := M.1.cls) hx hb hts k3 ty0 k4 k5 hown hK hP hD (va_S_here hS) 0 (fs := fs) rfl k1 f hfN (hts _ hl2) (fun x h9 => by rw [k6 f hfN] at h9; exact h9) hfin hpt hnv hfi hfl hd (fun H1 locs1 hP1 hD1 hS1 => ?_)
  exact kk H1 locs1 ls hl (Nat.le_trans hn hS1.1) hP1 hD1 (va_S_trans hS hS1)
theorem n_get (C : Cn M g b) {idx ci f a : Nat} {v : Value} {fs : List Value} (h : FL M.1.cls idx ci f) (hv : fs[f]? = some v) (hd : decode M.2.1 pc = .ok (.getfield idx, 3)) (kk : Nv g b (pc + 3) L (v :: st) n cells slots ((a, .inr (ci, fs)) :: ws)) : Nv g b pc L (.ref a :: st) n cells slots ((a, .inr (ci, fs)) :: ws) := by
  obtain ⟨⟨p, l, e, R⟩, ⟨s, m, args, below⟩, ⟨meth, c, mc, ms⟩, ⟨D, ca, ρ⟩, Q⟩ := g
  obtain ⟨hx, hb, hml, hown, hts, hK, hlk2, hf, hlc, hbs, h1, h2, hAO⟩ := C
  intro H locs ls hl hn hP hD hS
  obtain ⟨Cc, T, N, ⟨k1, k2, k3, -, -, k6⟩, hfN, hl2⟩ := h
  exact va_get (D := D) (cl := classes) (ref := Cc) (own := M.1.cls) hx hb hts k3 hown hK hP 0 rfl k1 f hfN (hts _ hl2) (fun x h9 => by rw [k6 f hfN] at h9; exact h9) hv hd (kk H locs ls hl hn hP hD hS)
end RowsN
