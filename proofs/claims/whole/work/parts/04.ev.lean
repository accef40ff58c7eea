/-! the judgement Ev: from this place of a method, with these locals, this stack and this store, the machine comes to what is asked for -/
/-- the tables' words that stay as they are while the machine runs -/
def lw_gd : List Cond := lw_tbl.filter goodWord
theorem gd {i : Nat} {t : Cond} (h : lw_tbl[i]? = some t) (hg : goodWord t = true) : t ∈ lw_gd := List.mem_filter.mpr ⟨List.mem_of_getElem? h, hg⟩
abbrev Md : Type := MethodName × ByteArray × Nat × Option FieldType × Nat × Nat
abbrev Mach : Type := (Program × Launch × Env × Room) × (State × MethodId × Array Value × List Frame) × (Method × Code × Nat × Nat) × Wd × (State → Prop)
def LH (ρ : Nat → Nat → Nat) (ls : Array Slot) (nL : Nat) (L : List (Option V)) : Prop := ls.size = nL ∧ lv_wf ls ∧ ∀ (k : Nat) (v : V), L[k]? = some (some v) → ls[k]? = some (.val (toV ρ v))
def Ev (g : Mach) (pc : Nat) (L : List (Option V)) (st : List V) (σ : St) : Prop := match g with
  | ((p, l, e, R), (s, m, args, below), (meth, c, cells, slots), w, Q) =>
    ∀ (H : Heap) (locs : List Loc) (ls : Array Slot), LH w.2.2 ls c.maxLocals L → Rp w σ s.heap H locs → W p l e R s m args below meth c H locs cells slots Q (F0 m pc ls (st.map (toV w.2.2)))
def wrdT : List Int := [0x6e65636b, 0x776574, 0x61626f7665, 0x62656c6f77, 0x6d696e757465, 0x706f7374, 0x6775617264, 0x6174, 0x666c6f77, 0x6966, 0x7468656e, 0x656c7365, 0x64616d70, 0x736c656570]
def Sta (w : Wd) (s : State) : Prop := va_Z "SandGuards$Tokens" "WORDS" "[J" (.ref (w.2.2 99 1)) (AA w) s s.heap ∧ va_T .long (w.2.2 99 1) 14 (fun j => .long (Int64.ofInt (wrdT.getD j 0))) (AA w) s s.heap
def Cx (M : Md) (g : Mach) : Prop := match g with
  | ((p, l, e, R), (s, m, args, below), (meth, c, cells, slots), w, Q) =>
    p.tables.exec = Jvm.exec ∧ c.code = M.2.1 ∧ c.maxLocals = M.2.2.1 ∧ s.vm.findClass M.1.cls = some m.cls ∧ (∀ t ∈ lw_gd, t.before args s = true) ∧ va_K w.1 classes (tysOf w.2.1) s ∧ meth.locks = false ∧ M.2.2.2.2.1 ≤ R.frames ∧ M.2.2.2.2.2 ≤ R.locals ∧ cells ≤ R.cells ∧ slots ≤ R.slots ∧ Sta w s
def lvl (ρ : Nat → Nat → Nat) (L : List (Option V)) : List (Nat × Value) := (List.range L.length).filterMap fun k => match L[k]? with
  | some (some v) => some (k, toV ρ v)
  | _ => none
theorem lvl_mem {ρ : Nat → Nat → Nat} {L : List (Option V)} {q : Nat × Value} : q ∈ lvl ρ L ↔ ∃ v, L[q.1]? = some (some v) ∧ q.2 = toV ρ v := by
  unfold lvl
  rw [List.mem_filterMap]
  constructor
  · rintro ⟨k, hk, e⟩
    cases h : L[k]? with
    | none => rw [h] at e; cases e
    | some ov =>
      cases ov with
      | none => rw [h] at e; cases e
      | some v => rw [h] at e; cases e; exact ⟨v, h, rfl⟩
  · rintro ⟨v, h1, h2⟩
    refine ⟨q.1, List.mem_range.mpr (List.getElem?_eq_some_iff.mp h1).1, ?_⟩
    rw [h1]
    show some (q.1, toV ρ v) = some q
    rw [← h2]
theorem LH.lv {ρ : Nat → Nat → Nat} {ls : Array Slot} {nL : Nat} {L : List (Option V)} (h : LH ρ ls nL L) : lv_has ls nL (lvl ρ L) := by
  refine ⟨h.1, h.2.1, fun q hq => ?_⟩
  obtain ⟨v, h1, h2⟩ := lvl_mem.mp hq
  rw [h2]
  exact h.2.2 q.1 v h1
def isL (v : Option (Option V)) : Bool := match v with
  | some (some (.inr (.inl _))) => true
  | _ => false
/-- no long begins in the slot just ahead -/
def nlg (L : List (Option V)) (k : Nat) : Bool := match k with
  | 0 => true
  | j + 1 => !isL L[j]?
theorem cat_isL {ρ : Nat → Nat → Nat} {v : V} : (toV ρ v).category = 2 ↔ isL (some (some v)) = true := by
  rcases v with x | x | x
  · exact ⟨fun h => (by cases h), fun h => (by cases h)⟩
  · exact ⟨fun _ => rfl, fun _ => rfl⟩
  · exact ⟨fun h => (by cases h), fun h => (by cases h)⟩
theorem LH.set1 {ρ : Nat → Nat → Nat} {ls : Array Slot} {nL i : Nat} {L : List (Option V)} {v : V} (hn : nlg L i = true) (h : lv_has ls nL ((i, toV ρ v) :: (lvl ρ L).filter (fun q => !(q.1 == i) && !(q.1 + 1 == i && q.2.category == 2)))) : LH ρ ls nL (L.set i (some v)) := by
  refine ⟨h.1, h.2.1, fun k w hk => ?_⟩
  by_cases e : k = i
  · subst e
    have hl : k < L.length := by
      have := (List.getElem?_eq_some_iff.mp hk).1
      rwa [List.length_set] at this
    rw [List.getElem?_set_self hl] at hk
    cases hk
    exact h.2.2 (k, toV ρ v) List.mem_cons_self
  · rw [List.getElem?_set_ne (fun z => e z.symm)] at hk
    refine h.2.2 (k, toV ρ w) (List.mem_cons_of_mem _ (List.mem_filter.mpr ⟨lvl_mem.mpr ⟨w, hk, rfl⟩, ?_⟩))
    simp only [Bool.and_eq_true, Bool.not_eq_true', beq_eq_false_iff_ne, ne_eq, Bool.and_eq_false_iff]
    refine ⟨e, ?_⟩
    by_cases e2 : k + 1 = i
    · right
      intro hc
      have := cat_isL.mp hc
      subst e2
      have hn : (!isL L[k]?) = true := hn
      rw [hk] at hn
      rw [this] at hn
      cases hn
    · exact Or.inl e2
theorem LH.set2 {ρ : Nat → Nat → Nat} {ls : Array Slot} {nL i : Nat} {L : List (Option V)} {v : V} (hn : nlg L i = true) (h : lv_has ls nL ((i, toV ρ v) :: (lvl ρ L).filter (fun q => !(q.1 == i) && (!(q.1 == i + 1) && !(q.1 + 1 == i && q.2.category == 2))))) : LH ρ ls nL ((L.set i (some v)).set (i + 1) none) := by
  refine ⟨h.1, h.2.1, fun k w hk => ?_⟩
  by_cases e1 : k = i + 1
  · subst e1
    by_cases hl : i + 1 < (L.set i (some v)).length
    · rw [List.getElem?_set_self hl] at hk
      cases hk
    · rw [List.getElem?_eq_none (by rw [List.length_set]; omega)] at hk
      cases hk
  rw [List.getElem?_set_ne (fun z => e1 z.symm)] at hk
  by_cases e : k = i
  · subst e
    have hl : k < L.length := by
      have := (List.getElem?_eq_some_iff.mp hk).1
      rwa [List.length_set] at this
    rw [List.getElem?_set_self hl] at hk
    cases hk
    exact h.2.2 (k, toV ρ v) List.mem_cons_self
  · rw [List.getElem?_set_ne (fun z => e z.symm)] at hk
    refine h.2.2 (k, toV ρ w) (List.mem_cons_of_mem _ (List.mem_filter.mpr ⟨lvl_mem.mpr ⟨w, hk, rfl⟩, ?_⟩))
    simp only [Bool.and_eq_true, Bool.not_eq_true', beq_eq_false_iff_ne, ne_eq, Bool.and_eq_false_iff]
    refine ⟨e, e1, ?_⟩
    by_cases e2 : k + 1 = i
    · right
      intro hc
      have := cat_isL.mp hc
      subst e2
      have hn : (!isL L[k]?) = true := hn
      rw [hk] at hn
      rw [this] at hn
      cases hn
    · exact Or.inl e2
section Rows
variable {M : Md} {g : Mach} {pc : Nat} {L : List (Option V)} {st : List V} {σ : St}
theorem e_rng (k : Rng σ → Ev g pc L st σ) : Ev g pc L st σ := by
  obtain ⟨⟨p, l, e, R⟩, ⟨s, m, args, below⟩, ⟨meth, c, cells, slots⟩, ⟨D, ca, ρ⟩, Q⟩ := g
  intro H locs ls hl hR
  exact k hR.2.2.2 H locs ls hl hR
theorem e_iconst (C : Cx M g) {n : Int} (hd : decode M.2.1 pc = .ok (.iconst n, 1)) (k : Ev g (pc + 1) L (.inl n :: st) σ) : Ev g pc L st σ := by
  obtain ⟨⟨p, l, e, R⟩, ⟨s, m, args, below⟩, ⟨meth, c, cells, slots⟩, ⟨D, ca, ρ⟩, Q⟩ := g
  obtain ⟨hx, hb, -⟩ := C
  intro H locs ls hl hR
  exact lv_iconst hx hb hd rfl (k H locs ls hl hR)
theorem e_bipush (C : Cx M g) {n : Int} (hd : decode M.2.1 pc = .ok (.bipush n, 2)) (hv : (Int8.ofInt n).toInt32 = Int32.ofInt n) (k : Ev g (pc + 2) L (.inl n :: st) σ) : Ev g pc L st σ := by
  obtain ⟨⟨p, l, e, R⟩, ⟨s, m, args, below⟩, ⟨meth, c, cells, slots⟩, ⟨D, ca, ρ⟩, Q⟩ := g
  obtain ⟨hx, hb, -⟩ := C
  intro H locs ls hl hR
  exact lv_bipush hx hb hd hv (k H locs ls hl hR)
theorem e_sipush (C : Cx M g) {n : Int} (hd : decode M.2.1 pc = .ok (.sipush n, 3)) (hv : (Int16.ofInt n).toInt32 = Int32.ofInt n) (k : Ev g (pc + 3) L (.inl n :: st) σ) : Ev g pc L st σ := by
  obtain ⟨⟨p, l, e, R⟩, ⟨s, m, args, below⟩, ⟨meth, c, cells, slots⟩, ⟨D, ca, ρ⟩, Q⟩ := g
  obtain ⟨hx, hb, -⟩ := C
  intro H locs ls hl hR
  exact lv_sipush hx hb hd hv (k H locs ls hl hR)
theorem e_lconst (C : Cx M g) {n : Fin 2} {z : Int} (hd : decode M.2.1 pc = .ok (.lconst n, 1)) (hv : Int64.ofNat (n : Nat) = Int64.ofInt z) (k : Ev g (pc + 1) L (.inr (.inl z) :: st) σ) : Ev g pc L st σ := by
  obtain ⟨⟨p, l, e, R⟩, ⟨s, m, args, below⟩, ⟨meth, c, cells, slots⟩, ⟨D, ca, ρ⟩, Q⟩ := g
  obtain ⟨hx, hb, -⟩ := C
  intro H locs ls hl hR
  exact lv_lconst hx hb hd hv (k H locs ls hl hR)
theorem e_iload_n (C : Cx M g) {j : Fin 4} {x : Int} (hd : decode M.2.1 pc = .ok (.iload_n j, 1)) (hL : L[(j : Nat)]? = some (some (.inl x))) (k : Ev g (pc + 1) L (.inl x :: st) σ) : Ev g pc L st σ := by
  obtain ⟨⟨p, l, e, R⟩, ⟨s, m, args, below⟩, ⟨meth, c, cells, slots⟩, ⟨D, ca, ρ⟩, Q⟩ := g
  obtain ⟨hx, hb, -⟩ := C
  intro H locs ls hl hR
  exact lv_iload_n hx hb hd rfl (hl.2.2 _ _ hL) (k H locs ls hl hR)
theorem e_iload (C : Cx M g) {j : Nat} {x : Int} (hd : decode M.2.1 pc = .ok (.iload j, 2)) (hL : L[j]? = some (some (.inl x))) (k : Ev g (pc + 2) L (.inl x :: st) σ) : Ev g pc L st σ := by
  obtain ⟨⟨p, l, e, R⟩, ⟨s, m, args, below⟩, ⟨meth, c, cells, slots⟩, ⟨D, ca, ρ⟩, Q⟩ := g
  obtain ⟨hx, hb, -⟩ := C
  intro H locs ls hl hR
  exact lv_iload hx hb hd (hl.2.2 _ _ hL) (k H locs ls hl hR)
theorem e_lload_n (C : Cx M g) {j : Fin 4} {x : Int} (hd : decode M.2.1 pc = .ok (.lload_n j, 1)) (hL : L[(j : Nat)]? = some (some (.inr (.inl x)))) (k : Ev g (pc + 1) L (.inr (.inl x) :: st) σ) : Ev g pc L st σ := by
  obtain ⟨⟨p, l, e, R⟩, ⟨s, m, args, below⟩, ⟨meth, c, cells, slots⟩, ⟨D, ca, ρ⟩, Q⟩ := g
  obtain ⟨hx, hb, -⟩ := C
  intro H locs ls hl hR
  exact lv_lload_n hx hb hd rfl (hl.2.2 _ _ hL) (k H locs ls hl hR)
theorem e_lload (C : Cx M g) {j : Nat} {x : Int} (hd : decode M.2.1 pc = .ok (.lload j, 2)) (hL : L[j]? = some (some (.inr (.inl x)))) (k : Ev g (pc + 2) L (.inr (.inl x) :: st) σ) : Ev g pc L st σ := by
  obtain ⟨⟨p, l, e, R⟩, ⟨s, m, args, below⟩, ⟨meth, c, cells, slots⟩, ⟨D, ca, ρ⟩, Q⟩ := g
  obtain ⟨hx, hb, -⟩ := C
  intro H locs ls hl hR
  exact lv_lload hx hb hd (hl.2.2 _ _ hL) (k H locs ls hl hR)
theorem e_aload_n (C : Cx M g) {j : Fin 4} {r : Nat × Nat} (hd : decode M.2.1 pc = .ok (.aload_n j, 1)) (hL : L[(j : Nat)]? = some (some (.inr (.inr r)))) (k : Ev g (pc + 1) L (.inr (.inr r) :: st) σ) : Ev g pc L st σ := by
  obtain ⟨⟨p, l, e, R⟩, ⟨s, m, args, below⟩, ⟨meth, c, cells, slots⟩, ⟨D, ca, ρ⟩, Q⟩ := g
  obtain ⟨hx, hb, -⟩ := C
  intro H locs ls hl hR
  exact lv_aload_n hx hb hd rfl (hl.2.2 _ _ hL) (k H locs ls hl hR)
theorem e_aload (C : Cx M g) {j : Nat} {r : Nat × Nat} (hd : decode M.2.1 pc = .ok (.aload j, 2)) (hL : L[j]? = some (some (.inr (.inr r)))) (k : Ev g (pc + 2) L (.inr (.inr r) :: st) σ) : Ev g pc L st σ := by
  obtain ⟨⟨p, l, e, R⟩, ⟨s, m, args, below⟩, ⟨meth, c, cells, slots⟩, ⟨D, ca, ρ⟩, Q⟩ := g
  obtain ⟨hx, hb, -⟩ := C
  intro H locs ls hl hR
  exact lv_aload hx hb hd (hl.2.2 _ _ hL) (k H locs ls hl hR)
theorem e_istore_n (C : Cx M g) {j : Fin 4} {x : Int} (hd : decode M.2.1 pc = .ok (.istore_n j, 1)) (hj : (j : Nat) < M.2.2.1) (hn : nlg L (j : Nat) = true) (k : Ev g (pc + 1) (L.set (j : Nat) (some (.inl x))) st σ) : Ev g pc L (.inl x :: st) σ := by
  obtain ⟨⟨p, l, e, R⟩, ⟨s, m, args, below⟩, ⟨meth, c, cells, slots⟩, ⟨D, ca, ρ⟩, Q⟩ := g
  obtain ⟨hx, hb, hml, -⟩ := C
  intro H locs ls hl hR
  exact lv_istore_n hx hb hd rfl hl.lv (by rw [hml]; exact hj) rfl (fun ls' hl' => k H locs ls' (LH.set1 (v := .inl x) hn hl') hR)
theorem e_istore (C : Cx M g) {j : Nat} {x : Int} (hd : decode M.2.1 pc = .ok (.istore j, 2)) (hj : j < M.2.2.1) (hn : nlg L j = true) (k : Ev g (pc + 2) (L.set j (some (.inl x))) st σ) : Ev g pc L (.inl x :: st) σ := by
  obtain ⟨⟨p, l, e, R⟩, ⟨s, m, args, below⟩, ⟨meth, c, cells, slots⟩, ⟨D, ca, ρ⟩, Q⟩ := g
  obtain ⟨hx, hb, hml, -⟩ := C
  intro H locs ls hl hR
  exact lv_istore hx hb hd hl.lv (by rw [hml]; exact hj) rfl (fun ls' hl' => k H locs ls' (LH.set1 (v := .inl x) hn hl') hR)
theorem e_astore_n (C : Cx M g) {j : Fin 4} {r : Nat × Nat} (hd : decode M.2.1 pc = .ok (.astore_n j, 1)) (hj : (j : Nat) < M.2.2.1) (hn : nlg L (j : Nat) = true) (k : Ev g (pc + 1) (L.set (j : Nat) (some (.inr (.inr r)))) st σ) : Ev g pc L (.inr (.inr r) :: st) σ := by
  obtain ⟨⟨p, l, e, R⟩, ⟨s, m, args, below⟩, ⟨meth, c, cells, slots⟩, ⟨D, ca, ρ⟩, Q⟩ := g
  obtain ⟨hx, hb, hml, -⟩ := C
  intro H locs ls hl hR
  exact lv_astore_n hx hb hd rfl hl.lv (by rw [hml]; exact hj) rfl (fun ls' hl' => k H locs ls' (LH.set1 (v := .inr (.inr r)) hn hl') hR)
theorem e_astore (C : Cx M g) {j : Nat} {r : Nat × Nat} (hd : decode M.2.1 pc = .ok (.astore j, 2)) (hj : j < M.2.2.1) (hn : nlg L j = true) (k : Ev g (pc + 2) (L.set j (some (.inr (.inr r)))) st σ) : Ev g pc L (.inr (.inr r) :: st) σ := by
  obtain ⟨⟨p, l, e, R⟩, ⟨s, m, args, below⟩, ⟨meth, c, cells, slots⟩, ⟨D, ca, ρ⟩, Q⟩ := g
  obtain ⟨hx, hb, hml, -⟩ := C
  intro H locs ls hl hR
  exact lv_astore hx hb hd hl.lv (by rw [hml]; exact hj) rfl (fun ls' hl' => k H locs ls' (LH.set1 (v := .inr (.inr r)) hn hl') hR)
theorem e_lstore_n (C : Cx M g) {j : Fin 4} {x : Int} (hd : decode M.2.1 pc = .ok (.lstore_n j, 1)) (hj : (j : Nat) + 1 < M.2.2.1) (hn : nlg L (j : Nat) = true) (k : Ev g (pc + 1) ((L.set (j : Nat) (some (.inr (.inl x)))).set ((j : Nat) + 1) none) st σ) : Ev g pc L (.inr (.inl x) :: st) σ := by
  obtain ⟨⟨p, l, e, R⟩, ⟨s, m, args, below⟩, ⟨meth, c, cells, slots⟩, ⟨D, ca, ρ⟩, Q⟩ := g
  obtain ⟨hx, hb, hml, -⟩ := C
  intro H locs ls hl hR
  exact lv_lstore_n hx hb hd rfl hl.lv (by rw [hml]; exact hj) rfl (fun ls' hl' => k H locs ls' (LH.set2 (v := .inr (.inl x)) hn hl') hR)
theorem e_lstore (C : Cx M g) {j : Nat} {x : Int} (hd : decode M.2.1 pc = .ok (.lstore j, 2)) (hj : j + 1 < M.2.2.1) (hn : nlg L j = true) (k : Ev g (pc + 2) ((L.set j (some (.inr (.inl x)))).set (j + 1) none) st σ) : Ev g pc L (.inr (.inl x) :: st) σ := by
  obtain ⟨⟨p, l, e, R⟩, ⟨s, m, args, below⟩, ⟨meth, c, cells, slots⟩, ⟨D, ca, ρ⟩, Q⟩ := g
  obtain ⟨hx, hb, hml, -⟩ := C
  intro H locs ls hl hR
  exact lv_lstore hx hb hd hl.lv (by rw [hml]; exact hj) rfl (fun ls' hl' => k H locs ls' (LH.set2 (v := .inr (.inl x)) hn hl') hR)
theorem e_iinc (C : Cx M g) {j : Nat} {n x : Int} (hd : decode M.2.1 pc = .ok (.iinc j n, 3)) (hL : L[j]? = some (some (.inl x))) (hj : j < M.2.2.1) (hn : nlg L j = true) (k : Ev g (pc + 3) (L.set j (some (.inl (x + n)))) st σ) : Ev g pc L st σ := by
  obtain ⟨⟨p, l, e, R⟩, ⟨s, m, args, below⟩, ⟨meth, c, cells, slots⟩, ⟨D, ca, ρ⟩, Q⟩ := g
  obtain ⟨hx, hb, hml, -⟩ := C
  intro H locs ls hl hR
  obtain ⟨q, hq⟩ := List.getElem?_of_mem ((lvl_mem (ρ := ρ) (L := L) (q := (j, toV ρ (.inl x)))).mpr ⟨_, hL, rfl⟩)
  exact lv_iinc hx hb hd hl.lv hq (Int32.ofInt_add x n).symm (by rw [hml]; exact hj) rfl (fun ls' hl' => k H locs ls' (LH.set1 (v := .inl (x + n)) hn hl') hR)
theorem e_iadd (C : Cx M g) {x y : Int} (hd : decode M.2.1 pc = .ok (.iadd, 1)) (k : Ev g (pc + 1) L (.inl (x + y) :: st) σ) : Ev g pc L (.inl y :: .inl x :: st) σ := by
  obtain ⟨⟨p, l, e, R⟩, ⟨s, m, args, below⟩, ⟨meth, c, cells, slots⟩, ⟨D, ca, ρ⟩, Q⟩ := g
  obtain ⟨hx, hb, -⟩ := C
  intro H locs ls hl hR
  refine lv_iadd hx hb hd ?_
  rw [← Int32.ofInt_add]
  exact k H locs ls hl hR
theorem e_isub (C : Cx M g) {x y : Int} (hd : decode M.2.1 pc = .ok (.isub, 1)) (k : Ev g (pc + 1) L (.inl (x - y) :: st) σ) : Ev g pc L (.inl y :: .inl x :: st) σ := by
  obtain ⟨⟨p, l, e, R⟩, ⟨s, m, args, below⟩, ⟨meth, c, cells, slots⟩, ⟨D, ca, ρ⟩, Q⟩ := g
  obtain ⟨hx, hb, -⟩ := C
  intro H locs ls hl hR
  refine lv_isub hx hb hd ?_
  rw [← Int32.ofInt_sub]
  exact k H locs ls hl hR
theorem e_imul (C : Cx M g) {x y : Int} (hd : decode M.2.1 pc = .ok (.imul, 1)) (k : Ev g (pc + 1) L (.inl (x * y) :: st) σ) : Ev g pc L (.inl y :: .inl x :: st) σ := by
  obtain ⟨⟨p, l, e, R⟩, ⟨s, m, args, below⟩, ⟨meth, c, cells, slots⟩, ⟨D, ca, ρ⟩, Q⟩ := g
  obtain ⟨hx, hb, -⟩ := C
  intro H locs ls hl hR
  refine lv_imul hx hb hd ?_
  rw [← Int32.ofInt_mul]
  exact k H locs ls hl hR
theorem e_ineg (C : Cx M g) {x : Int} (hd : decode M.2.1 pc = .ok (.ineg, 1)) (k : Ev g (pc + 1) L (.inl (-x) :: st) σ) : Ev g pc L (.inl x :: st) σ := by
  obtain ⟨⟨p, l, e, R⟩, ⟨s, m, args, below⟩, ⟨meth, c, cells, slots⟩, ⟨D, ca, ρ⟩, Q⟩ := g
  obtain ⟨hx, hb, -⟩ := C
  intro H locs ls hl hR
  refine lv_ineg hx hb hd ?_
  rw [← Int32.ofInt_neg]
  exact k H locs ls hl hR
/-- the top of the stack by another number of the same 32 bits -/
theorem e_topi {x y : Int} (h : Int32.ofInt x = Int32.ofInt y) (k : Ev g pc L (.inl y :: st) σ) : Ev g pc L (.inl x :: st) σ := by
  obtain ⟨⟨p, l, e, R⟩, ⟨s, m, args, below⟩, ⟨meth, c, cells, slots⟩, ⟨D, ca, ρ⟩, Q⟩ := g
  intro H locs ls hl hR
  have := k H locs ls hl hR
  show W _ _ _ _ _ _ _ _ _ _ _ _ _ _ _ (F0 m pc ls (.int (Int32.ofInt x) :: st.map (toV ρ)))
  rw [h]
  exact this
theorem e_topl {x y : Int} (h : Int64.ofInt x = Int64.ofInt y) (k : Ev g pc L (.inr (.inl y) :: st) σ) : Ev g pc L (.inr (.inl x) :: st) σ := by
  obtain ⟨⟨p, l, e, R⟩, ⟨s, m, args, below⟩, ⟨meth, c, cells, slots⟩, ⟨D, ca, ρ⟩, Q⟩ := g
  intro H locs ls hl hR
  have := k H locs ls hl hR
  show W _ _ _ _ _ _ _ _ _ _ _ _ _ _ _ (F0 m pc ls (.long (Int64.ofInt x) :: st.map (toV ρ)))
  rw [h]
  exact this
end Rows
