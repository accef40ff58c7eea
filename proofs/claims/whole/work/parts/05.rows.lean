/-! rows: branches, arithmetic, stack, fields, arrays (written by wip/gen/gen05.py) -/
section RowsB
variable {M : Md} {g : Mach} {pc : Nat} {L : List (Option V)} {st : List V} {σ : St}
theorem e_icmp_eq (C : Cx M g) {x y : Int} {off : Int} (tgt : Nat) (hd : decode M.2.1 pc = .ok (.if_icmp .eq off, 3)) (ht : (pc : Int) + off = (tgt : Int)) (ha : R32 x) (hb2 : R32 y) (k1 : x = y → Ev g tgt L st σ) (k2 : ¬ x = y → Ev g (pc + 3) L st σ) : Ev g pc L (.inl y :: .inl x :: st) σ := by
  obtain ⟨⟨p, l, e, R⟩, ⟨s, m, args, below⟩, ⟨meth, c, cells, slots⟩, ⟨D, ca, ρ⟩, Q⟩ := g
  obtain ⟨hx, hb, hml, hown, hts, hK, hlk, hfr, hlo, hc, hs, hSt⟩ := C
  intro H locs ls hl hR
  exact lv_icmp_eq hx hb hd ht (fun h => k1 ((r_eq ha hb2).mp h) H locs ls hl hR) (fun h => k2 (fun z => h ((r_eq ha hb2).mpr z)) H locs ls hl hR)
theorem e_if_eq (C : Cx M g) {x : Int} {off : Int} (tgt : Nat) (hd : decode M.2.1 pc = .ok (.ifCond .eq off, 3)) (ht : (pc : Int) + off = (tgt : Int)) (ha : R32 x) (k1 : x = 0 → Ev g tgt L st σ) (k2 : ¬ x = 0 → Ev g (pc + 3) L st σ) : Ev g pc L (.inl x :: st) σ := by
  obtain ⟨⟨p, l, e, R⟩, ⟨s, m, args, below⟩, ⟨meth, c, cells, slots⟩, ⟨D, ca, ρ⟩, Q⟩ := g
  obtain ⟨hx, hb, hml, hown, hts, hK, hlk, hfr, hlo, hc, hs, hSt⟩ := C
  intro H locs ls hl hR
  exact lv_if_eq hx hb hd ht (fun h => k1 ((r_eq ha r_0).mp h) H locs ls hl hR) (fun h => k2 (fun z => h ((r_eq ha r_0).mpr z)) H locs ls hl hR)
theorem e_icmp_ne (C : Cx M g) {x y : Int} {off : Int} (tgt : Nat) (hd : decode M.2.1 pc = .ok (.if_icmp .ne off, 3)) (ht : (pc : Int) + off = (tgt : Int)) (ha : R32 x) (hb2 : R32 y) (k1 : ¬ x = y → Ev g tgt L st σ) (k2 : x = y → Ev g (pc + 3) L st σ) : Ev g pc L (.inl y :: .inl x :: st) σ := by
  obtain ⟨⟨p, l, e, R⟩, ⟨s, m, args, below⟩, ⟨meth, c, cells, slots⟩, ⟨D, ca, ρ⟩, Q⟩ := g
  obtain ⟨hx, hb, hml, hown, hts, hK, hlk, hfr, hlo, hc, hs, hSt⟩ := C
  intro H locs ls hl hR
  exact lv_icmp_ne hx hb hd ht (fun h => k1 ((not_congr (r_eq ha hb2)).mp h) H locs ls hl hR) (fun h => k2 ((r_eq ha hb2).mp h) H locs ls hl hR)
theorem e_if_ne (C : Cx M g) {x : Int} {off : Int} (tgt : Nat) (hd : decode M.2.1 pc = .ok (.ifCond .ne off, 3)) (ht : (pc : Int) + off = (tgt : Int)) (ha : R32 x) (k1 : ¬ x = 0 → Ev g tgt L st σ) (k2 : x = 0 → Ev g (pc + 3) L st σ) : Ev g pc L (.inl x :: st) σ := by
  obtain ⟨⟨p, l, e, R⟩, ⟨s, m, args, below⟩, ⟨meth, c, cells, slots⟩, ⟨D, ca, ρ⟩, Q⟩ := g
  obtain ⟨hx, hb, hml, hown, hts, hK, hlk, hfr, hlo, hc, hs, hSt⟩ := C
  intro H locs ls hl hR
  exact lv_if_ne hx hb hd ht (fun h => k1 ((not_congr (r_eq ha r_0)).mp h) H locs ls hl hR) (fun h => k2 ((r_eq ha r_0).mp h) H locs ls hl hR)
theorem e_icmp_lt (C : Cx M g) {x y : Int} {off : Int} (tgt : Nat) (hd : decode M.2.1 pc = .ok (.if_icmp .lt off, 3)) (ht : (pc : Int) + off = (tgt : Int)) (ha : R32 x) (hb2 : R32 y) (k1 : x < y → Ev g tgt L st σ) (k2 : ¬ x < y → Ev g (pc + 3) L st σ) : Ev g pc L (.inl y :: .inl x :: st) σ := by
  obtain ⟨⟨p, l, e, R⟩, ⟨s, m, args, below⟩, ⟨meth, c, cells, slots⟩, ⟨D, ca, ρ⟩, Q⟩ := g
  obtain ⟨hx, hb, hml, hown, hts, hK, hlk, hfr, hlo, hc, hs, hSt⟩ := C
  intro H locs ls hl hR
  exact lv_icmp_lt hx hb hd ht (fun h => k1 ((r_lt ha hb2).mp h) H locs ls hl hR) (fun h => k2 (fun z => h ((r_lt ha hb2).mpr z)) H locs ls hl hR)
theorem e_if_lt (C : Cx M g) {x : Int} {off : Int} (tgt : Nat) (hd : decode M.2.1 pc = .ok (.ifCond .lt off, 3)) (ht : (pc : Int) + off = (tgt : Int)) (ha : R32 x) (k1 : x < 0 → Ev g tgt L st σ) (k2 : ¬ x < 0 → Ev g (pc + 3) L st σ) : Ev g pc L (.inl x :: st) σ := by
  obtain ⟨⟨p, l, e, R⟩, ⟨s, m, args, below⟩, ⟨meth, c, cells, slots⟩, ⟨D, ca, ρ⟩, Q⟩ := g
  obtain ⟨hx, hb, hml, hown, hts, hK, hlk, hfr, hlo, hc, hs, hSt⟩ := C
  intro H locs ls hl hR
  exact lv_if_lt hx hb hd ht (fun h => k1 ((r_lt ha r_0).mp h) H locs ls hl hR) (fun h => k2 (fun z => h ((r_lt ha r_0).mpr z)) H locs ls hl hR)
theorem e_icmp_ge (C : Cx M g) {x y : Int} {off : Int} (tgt : Nat) (hd : decode M.2.1 pc = .ok (.if_icmp .ge off, 3)) (ht : (pc : Int) + off = (tgt : Int)) (ha : R32 x) (hb2 : R32 y) (k1 : y ≤ x → Ev g tgt L st σ) (k2 : ¬ y ≤ x → Ev g (pc + 3) L st σ) : Ev g pc L (.inl y :: .inl x :: st) σ := by
  obtain ⟨⟨p, l, e, R⟩, ⟨s, m, args, below⟩, ⟨meth, c, cells, slots⟩, ⟨D, ca, ρ⟩, Q⟩ := g
  obtain ⟨hx, hb, hml, hown, hts, hK, hlk, hfr, hlo, hc, hs, hSt⟩ := C
  intro H locs ls hl hR
  exact lv_icmp_ge hx hb hd ht (fun h => k1 ((r_le hb2 ha).mp h) H locs ls hl hR) (fun h => k2 (fun z => h ((r_le hb2 ha).mpr z)) H locs ls hl hR)
theorem e_if_ge (C : Cx M g) {x : Int} {off : Int} (tgt : Nat) (hd : decode M.2.1 pc = .ok (.ifCond .ge off, 3)) (ht : (pc : Int) + off = (tgt : Int)) (ha : R32 x) (k1 : 0 ≤ x → Ev g tgt L st σ) (k2 : ¬ 0 ≤ x → Ev g (pc + 3) L st σ) : Ev g pc L (.inl x :: st) σ := by
  obtain ⟨⟨p, l, e, R⟩, ⟨s, m, args, below⟩, ⟨meth, c, cells, slots⟩, ⟨D, ca, ρ⟩, Q⟩ := g
  obtain ⟨hx, hb, hml, hown, hts, hK, hlk, hfr, hlo, hc, hs, hSt⟩ := C
  intro H locs ls hl hR
  exact lv_if_ge hx hb hd ht (fun h => k1 ((r_le r_0 ha).mp h) H locs ls hl hR) (fun h => k2 (fun z => h ((r_le r_0 ha).mpr z)) H locs ls hl hR)
theorem e_icmp_gt (C : Cx M g) {x y : Int} {off : Int} (tgt : Nat) (hd : decode M.2.1 pc = .ok (.if_icmp .gt off, 3)) (ht : (pc : Int) + off = (tgt : Int)) (ha : R32 x) (hb2 : R32 y) (k1 : y < x → Ev g tgt L st σ) (k2 : ¬ y < x → Ev g (pc + 3) L st σ) : Ev g pc L (.inl y :: .inl x :: st) σ := by
  obtain ⟨⟨p, l, e, R⟩, ⟨s, m, args, below⟩, ⟨meth, c, cells, slots⟩, ⟨D, ca, ρ⟩, Q⟩ := g
  obtain ⟨hx, hb, hml, hown, hts, hK, hlk, hfr, hlo, hc, hs, hSt⟩ := C
  intro H locs ls hl hR
  exact lv_icmp_gt hx hb hd ht (fun h => k1 ((r_lt hb2 ha).mp h) H locs ls hl hR) (fun h => k2 (fun z => h ((r_lt hb2 ha).mpr z)) H locs ls hl hR)
theorem e_if_gt (C : Cx M g) {x : Int} {off : Int} (tgt : Nat) (hd : decode M.2.1 pc = .ok (.ifCond .gt off, 3)) (ht : (pc : Int) + off = (tgt : Int)) (ha : R32 x) (k1 : 0 < x → Ev g tgt L st σ) (k2 : ¬ 0 < x → Ev g (pc + 3) L st σ) : Ev g pc L (.inl x :: st) σ := by
  obtain ⟨⟨p, l, e, R⟩, ⟨s, m, args, below⟩, ⟨meth, c, cells, slots⟩, ⟨D, ca, ρ⟩, Q⟩ := g
  obtain ⟨hx, hb, hml, hown, hts, hK, hlk, hfr, hlo, hc, hs, hSt⟩ := C
  intro H locs ls hl hR
  exact lv_if_gt hx hb hd ht (fun h => k1 ((r_lt r_0 ha).mp h) H locs ls hl hR) (fun h => k2 (fun z => h ((r_lt r_0 ha).mpr z)) H locs ls hl hR)
theorem e_icmp_le (C : Cx M g) {x y : Int} {off : Int} (tgt : Nat) (hd : decode M.2.1 pc = .ok (.if_icmp .le off, 3)) (ht : (pc : Int) + off = (tgt : Int)) (ha : R32 x) (hb2 : R32 y) (k1 : x ≤ y → Ev g tgt L st σ) (k2 : ¬ x ≤ y → Ev g (pc + 3) L st σ) : Ev g pc L (.inl y :: .inl x :: st) σ := by
  obtain ⟨⟨p, l, e, R⟩, ⟨s, m, args, below⟩, ⟨meth, c, cells, slots⟩, ⟨D, ca, ρ⟩, Q⟩ := g
  obtain ⟨hx, hb, hml, hown, hts, hK, hlk, hfr, hlo, hc, hs, hSt⟩ := C
  intro H locs ls hl hR
  exact lv_icmp_le hx hb hd ht (fun h => k1 ((r_le ha hb2).mp h) H locs ls hl hR) (fun h => k2 (fun z => h ((r_le ha hb2).mpr z)) H locs ls hl hR)
theorem e_if_le (C : Cx M g) {x : Int} {off : Int} (tgt : Nat) (hd : decode M.2.1 pc = .ok (.ifCond .le off, 3)) (ht : (pc : Int) + off = (tgt : Int)) (ha : R32 x) (k1 : x ≤ 0 → Ev g tgt L st σ) (k2 : ¬ x ≤ 0 → Ev g (pc + 3) L st σ) : Ev g pc L (.inl x :: st) σ := by
  obtain ⟨⟨p, l, e, R⟩, ⟨s, m, args, below⟩, ⟨meth, c, cells, slots⟩, ⟨D, ca, ρ⟩, Q⟩ := g
  obtain ⟨hx, hb, hml, hown, hts, hK, hlk, hfr, hlo, hc, hs, hSt⟩ := C
  intro H locs ls hl hR
  exact lv_if_le hx hb hd ht (fun h => k1 ((r_le ha r_0).mp h) H locs ls hl hR) (fun h => k2 (fun z => h ((r_le ha r_0).mpr z)) H locs ls hl hR)
theorem e_goto (C : Cx M g) {off : Int} (tgt : Nat) (hd : decode M.2.1 pc = .ok (.goto off, 3)) (ht : (pc : Int) + off = (tgt : Int)) (k : Ev g tgt L st σ) : Ev g pc L st σ := by
  obtain ⟨⟨p, l, e, R⟩, ⟨s, m, args, below⟩, ⟨meth, c, cells, slots⟩, ⟨D, ca, ρ⟩, Q⟩ := g
  obtain ⟨hx, hb, hml, hown, hts, hK, hlk, hfr, hlo, hc, hs, hSt⟩ := C
  intro H locs ls hl hR
  exact lv_goto hx hb hd ht (k H locs ls hl hR)
theorem e_tableOut (C : Cx M g) {dflt lo hi : Int} {offs : Array Int} {len : Nat} {x : Int} (tgt : Nat) (hd : decode M.2.1 pc = .ok (.tableswitch dflt lo hi offs, len)) (ha : R32 x) (h : x < lo ∨ hi < x) (ht : (pc : Int) + dflt = (tgt : Int)) (k : Ev g tgt L st σ) : Ev g pc L (.inl x :: st) σ := by
  obtain ⟨⟨p, l, e, R⟩, ⟨s, m, args, below⟩, ⟨meth, c, cells, slots⟩, ⟨D, ca, ρ⟩, Q⟩ := g
  obtain ⟨hx, hb, hml, hown, hts, hK, hlk, hfr, hlo, hc, hs, hSt⟩ := C
  intro H locs ls hl hR
  exact lv_tableOut hx hb hd (by rw [r_int ha]; exact h) ht (k H locs ls hl hR)
theorem e_tableIn (C : Cx M g) {dflt lo hi : Int} {offs : Array Int} {len : Nat} {x off : Int} (tgt : Nat) (hd : decode M.2.1 pc = .ok (.tableswitch dflt lo hi offs, len)) (ha : R32 x) (h1 : ¬ x < lo) (h2 : ¬ hi < x) (ho : offs[(x - lo).toNat]? = some off) (ht : (pc : Int) + off = (tgt : Int)) (k : Ev g tgt L st σ) : Ev g pc L (.inl x :: st) σ := by
  obtain ⟨⟨p, l, e, R⟩, ⟨s, m, args, below⟩, ⟨meth, c, cells, slots⟩, ⟨D, ca, ρ⟩, Q⟩ := g
  obtain ⟨hx, hb, hml, hown, hts, hK, hlk, hfr, hlo, hc, hs, hSt⟩ := C
  intro H locs ls hl hR
  exact lv_tableIn hx hb hd (by rw [r_int ha]; exact h1) (by rw [r_int ha]; exact h2) (by rw [r_int ha]; exact ho) ht (k H locs ls hl hR)
def z_iand (x y : Int) : Int := (Int32.ofInt x &&& Int32.ofInt y).toInt
theorem e_iand (C : Cx M g) {x y : Int} (hd : decode M.2.1 pc = .ok (.iand, 1)) (k : Ev g (pc + 1) L (.inl (z_iand x y) :: st) σ) : Ev g pc L (.inl y :: .inl x :: st) σ := by
  obtain ⟨⟨p, l, e, R⟩, ⟨s, m, args, below⟩, ⟨meth, c, cells, slots⟩, ⟨D, ca, ρ⟩, Q⟩ := g
  obtain ⟨hx, hb, hml, hown, hts, hK, hlk, hfr, hlo, hc, hs, hSt⟩ := C
  intro H locs ls hl hR
  refine lv_iand hx hb hd ?_
  have := k H locs ls hl hR
  unfold z_iand at this
  simp only [List.map, toV, Int32.ofInt_toInt] at this
  exact this
def z_ior (x y : Int) : Int := (Int32.ofInt x ||| Int32.ofInt y).toInt
theorem e_ior (C : Cx M g) {x y : Int} (hd : decode M.2.1 pc = .ok (.ior, 1)) (k : Ev g (pc + 1) L (.inl (z_ior x y) :: st) σ) : Ev g pc L (.inl y :: .inl x :: st) σ := by
  obtain ⟨⟨p, l, e, R⟩, ⟨s, m, args, below⟩, ⟨meth, c, cells, slots⟩, ⟨D, ca, ρ⟩, Q⟩ := g
  obtain ⟨hx, hb, hml, hown, hts, hK, hlk, hfr, hlo, hc, hs, hSt⟩ := C
  intro H locs ls hl hR
  refine lv_ior hx hb hd ?_
  have := k H locs ls hl hR
  unfold z_ior at this
  simp only [List.map, toV, Int32.ofInt_toInt] at this
  exact this
def z_ixor (x y : Int) : Int := (Int32.ofInt x ^^^ Int32.ofInt y).toInt
theorem e_ixor (C : Cx M g) {x y : Int} (hd : decode M.2.1 pc = .ok (.ixor, 1)) (k : Ev g (pc + 1) L (.inl (z_ixor x y) :: st) σ) : Ev g pc L (.inl y :: .inl x :: st) σ := by
  obtain ⟨⟨p, l, e, R⟩, ⟨s, m, args, below⟩, ⟨meth, c, cells, slots⟩, ⟨D, ca, ρ⟩, Q⟩ := g
  obtain ⟨hx, hb, hml, hown, hts, hK, hlk, hfr, hlo, hc, hs, hSt⟩ := C
  intro H locs ls hl hR
  refine lv_ixor hx hb hd ?_
  have := k H locs ls hl hR
  unfold z_ixor at this
  simp only [List.map, toV, Int32.ofInt_toInt] at this
  exact this
def z_ishl (x y : Int) : Int := (Int32.ofInt x <<< (Int32.ofInt y &&& 31)).toInt
theorem e_ishl (C : Cx M g) {x y : Int} (hd : decode M.2.1 pc = .ok (.ishl, 1)) (k : Ev g (pc + 1) L (.inl (z_ishl x y) :: st) σ) : Ev g pc L (.inl y :: .inl x :: st) σ := by
  obtain ⟨⟨p, l, e, R⟩, ⟨s, m, args, below⟩, ⟨meth, c, cells, slots⟩, ⟨D, ca, ρ⟩, Q⟩ := g
  obtain ⟨hx, hb, hml, hown, hts, hK, hlk, hfr, hlo, hc, hs, hSt⟩ := C
  intro H locs ls hl hR
  refine lv_ishl hx hb hd ?_
  have := k H locs ls hl hR
  unfold z_ishl at this
  simp only [List.map, toV, Int32.ofInt_toInt] at this
  exact this
def z_ishr (x y : Int) : Int := (Int32.ofInt x >>> (Int32.ofInt y &&& 31)).toInt
theorem e_ishr (C : Cx M g) {x y : Int} (hd : decode M.2.1 pc = .ok (.ishr, 1)) (k : Ev g (pc + 1) L (.inl (z_ishr x y) :: st) σ) : Ev g pc L (.inl y :: .inl x :: st) σ := by
  obtain ⟨⟨p, l, e, R⟩, ⟨s, m, args, below⟩, ⟨meth, c, cells, slots⟩, ⟨D, ca, ρ⟩, Q⟩ := g
  obtain ⟨hx, hb, hml, hown, hts, hK, hlk, hfr, hlo, hc, hs, hSt⟩ := C
  intro H locs ls hl hR
  refine lv_ishr hx hb hd ?_
  have := k H locs ls hl hR
  unfold z_ishr at this
  simp only [List.map, toV, Int32.ofInt_toInt] at this
  exact this
theorem r_tdiv {x y : Int} (ha : R32 x) (hb : R32 y) : Int32.ofInt (x.tdiv y) = Int32.ofInt x / Int32.ofInt y := Int32.ofInt_tdiv ha.1 (by have := ha.2; show x ≤ 2147483647; omega) hb.1 (by have := hb.2; show y ≤ 2147483647; omega)
theorem e_idiv (C : Cx M g) {x y : Int} (hd : decode M.2.1 pc = .ok (.idiv, 1)) (ha : R32 x) (hy : R32 y) (hn : y ≠ 0) (k : Ev g (pc + 1) L (.inl (x.tdiv y) :: st) σ) : Ev g pc L (.inl y :: .inl x :: st) σ := by
  obtain ⟨⟨p, l, e, R⟩, ⟨s, m, args, below⟩, ⟨meth, c, cells, slots⟩, ⟨D, ca, ρ⟩, Q⟩ := g
  obtain ⟨hx, hb, hml, hown, hts, hK, hlk, hfr, hlo, hc, hs, hSt⟩ := C
  intro H locs ls hl hR
  refine lv_idiv hx hb hd (fun z => hn ((r_eq hy r_0).mp z)) ?_
  rw [← r_tdiv ha hy]
  exact k H locs ls hl hR
theorem e_irem (C : Cx M g) {x y : Int} (hd : decode M.2.1 pc = .ok (.irem, 1)) (ha : R32 x) (hy : R32 y) (hn : y ≠ 0) (k : Ev g (pc + 1) L (.inl (x.tmod y) :: st) σ) : Ev g pc L (.inl y :: .inl x :: st) σ := by
  obtain ⟨⟨p, l, e, R⟩, ⟨s, m, args, below⟩, ⟨meth, c, cells, slots⟩, ⟨D, ca, ρ⟩, Q⟩ := g
  obtain ⟨hx, hb, hml, hown, hts, hK, hlk, hfr, hlo, hc, hs, hSt⟩ := C
  intro H locs ls hl hR
  refine lv_irem hx hb hd (fun z => hn ((r_eq hy r_0).mp z)) ?_
  rw [← r_tdiv ha hy, ← Int32.ofInt_mul, ← Int32.ofInt_sub, show x - x.tdiv y * y = x.tmod y by rw [Int.tmod_def, Int.mul_comm]]
  exact k H locs ls hl hR
theorem e_ladd (C : Cx M g) {x y : Int} (hd : decode M.2.1 pc = .ok (.ladd, 1)) (k : Ev g (pc + 1) L (.inr (.inl (x + y)) :: st) σ) : Ev g pc L (.inr (.inl y) :: .inr (.inl x) :: st) σ := by
  obtain ⟨⟨p, l, e, R⟩, ⟨s, m, args, below⟩, ⟨meth, c, cells, slots⟩, ⟨D, ca, ρ⟩, Q⟩ := g
  obtain ⟨hx, hb, hml, hown, hts, hK, hlk, hfr, hlo, hc, hs, hSt⟩ := C
  intro H locs ls hl hR
  refine lv_ladd hx hb hd ?_
  rw [← Int64.ofInt_add]
  exact k H locs ls hl hR
theorem e_lmul (C : Cx M g) {x y : Int} (hd : decode M.2.1 pc = .ok (.lmul, 1)) (k : Ev g (pc + 1) L (.inr (.inl (x * y)) :: st) σ) : Ev g pc L (.inr (.inl y) :: .inr (.inl x) :: st) σ := by
  obtain ⟨⟨p, l, e, R⟩, ⟨s, m, args, below⟩, ⟨meth, c, cells, slots⟩, ⟨D, ca, ρ⟩, Q⟩ := g
  obtain ⟨hx, hb, hml, hown, hts, hK, hlk, hfr, hlo, hc, hs, hSt⟩ := C
  intro H locs ls hl hR
  refine lv_lmul hx hb hd ?_
  rw [← Int64.ofInt_mul]
  exact k H locs ls hl hR
def z_lor (x y : Int) : Int := (Int64.ofInt x ||| Int64.ofInt y).toInt
theorem e_lor (C : Cx M g) {x y : Int} (hd : decode M.2.1 pc = .ok (.lor, 1)) (k : Ev g (pc + 1) L (.inr (.inl (z_lor x y)) :: st) σ) : Ev g pc L (.inr (.inl y) :: .inr (.inl x) :: st) σ := by
  obtain ⟨⟨p, l, e, R⟩, ⟨s, m, args, below⟩, ⟨meth, c, cells, slots⟩, ⟨D, ca, ρ⟩, Q⟩ := g
  obtain ⟨hx, hb, hml, hown, hts, hK, hlk, hfr, hlo, hc, hs, hSt⟩ := C
  intro H locs ls hl hR
  refine lv_lor hx hb hd ?_
  have := k H locs ls hl hR
  unfold z_lor at this
  simp only [List.map, toV, Int64.ofInt_toInt] at this
  exact this
def z_lshl (x y : Int) : Int := (Int64.ofInt x <<< ((Int32.ofInt y).toInt64 &&& 63)).toInt
theorem e_lshl (C : Cx M g) {x y : Int} (hd : decode M.2.1 pc = .ok (.lshl, 1)) (k : Ev g (pc + 1) L (.inr (.inl (z_lshl x y)) :: st) σ) : Ev g pc L (.inl y :: .inr (.inl x) :: st) σ := by
  obtain ⟨⟨p, l, e, R⟩, ⟨s, m, args, below⟩, ⟨meth, c, cells, slots⟩, ⟨D, ca, ρ⟩, Q⟩ := g
  obtain ⟨hx, hb, hml, hown, hts, hK, hlk, hfr, hlo, hc, hs, hSt⟩ := C
  intro H locs ls hl hR
  refine lv_lshl hx hb hd rfl ?_
  have := k H locs ls hl hR
  unfold z_lshl at this
  simp only [List.map, toV, Int64.ofInt_toInt] at this
  exact this
theorem e_i2l (C : Cx M g) {x : Int} (hd : decode M.2.1 pc = .ok (.i2l, 1)) (ha : R32 x) (k : Ev g (pc + 1) L (.inr (.inl x) :: st) σ) : Ev g pc L (.inl x :: st) σ := by
  obtain ⟨⟨p, l, e, R⟩, ⟨s, m, args, below⟩, ⟨meth, c, cells, slots⟩, ⟨D, ca, ρ⟩, Q⟩ := g
  obtain ⟨hx, hb, hml, hown, hts, hK, hlk, hfr, hlo, hc, hs, hSt⟩ := C
  intro H locs ls hl hR
  exact lv_i2l hx hb hd (Int32.toInt64_ofInt ha.1 (by have := ha.2; show x ≤ 2147483647; omega)) (k H locs ls hl hR)
theorem e_l2i (C : Cx M g) {x : Int} (hd : decode M.2.1 pc = .ok (.l2i, 1)) (k : Ev g (pc + 1) L (.inl x :: st) σ) : Ev g pc L (.inr (.inl x) :: st) σ := by
  obtain ⟨⟨p, l, e, R⟩, ⟨s, m, args, below⟩, ⟨meth, c, cells, slots⟩, ⟨D, ca, ρ⟩, Q⟩ := g
  obtain ⟨hx, hb, hml, hown, hts, hK, hlk, hfr, hlo, hc, hs, hSt⟩ := C
  intro H locs ls hl hR
  exact lv_l2i hx hb hd Int64.toInt32_ofInt (k H locs ls hl hR)
def z_i2b (x : Int) : Int := (Int32.ofInt x).toInt8.toInt32.toInt
theorem e_i2b (C : Cx M g) {x : Int} (hd : decode M.2.1 pc = .ok (.i2b, 1)) (k : Ev g (pc + 1) L (.inl (z_i2b x) :: st) σ) : Ev g pc L (.inl x :: st) σ := by
  obtain ⟨⟨p, l, e, R⟩, ⟨s, m, args, below⟩, ⟨meth, c, cells, slots⟩, ⟨D, ca, ρ⟩, Q⟩ := g
  obtain ⟨hx, hb, hml, hown, hts, hK, hlk, hfr, hlo, hc, hs, hSt⟩ := C
  intro H locs ls hl hR
  refine lv_i2b hx hb hd rfl ?_
  have := k H locs ls hl hR
  unfold z_i2b at this
  simp only [List.map, toV, Int32.ofInt_toInt] at this
  exact this
def z_cmp (x y : Int) : Int := if y < x then 1 else if x = y then 0 else -1
theorem r64_int {a : Int} (ha : R64 a) : (Int64.ofInt a).toInt = a := Int64.toInt_ofInt_of_le (by have := ha.1; omega) (by have := ha.2; omega)
theorem r_cmp {x y : Int} (ha : R64 x) (hb : R64 y) : lg_cmp (Int64.ofInt x) (Int64.ofInt y) = Int32.ofInt (z_cmp x y) := by
  unfold lg_cmp z_cmp
  have e1 : (Int64.ofInt x > Int64.ofInt y) ↔ y < x := by
    show Int64.ofInt y < Int64.ofInt x ↔ _
    rw [Int64.lt_iff_toInt_lt, r64_int ha, r64_int hb]
  have e2 : (Int64.ofInt x = Int64.ofInt y) ↔ x = y := by
    rw [← Int64.toInt_inj, r64_int ha, r64_int hb]
  by_cases h1 : y < x
  · rw [if_pos (e1.mpr h1), if_pos h1]; rfl
  · rw [if_neg (fun z => h1 (e1.mp z)), if_neg h1]
    by_cases h2 : x = y
    · rw [if_pos (e2.mpr h2), if_pos h2]; rfl
    · rw [if_neg (fun z => h2 (e2.mp z)), if_neg h2]; rfl
theorem e_lcmp (C : Cx M g) {x y : Int} (hd : decode M.2.1 pc = .ok (.lcmp, 1)) (ha : R64 x) (hy : R64 y) (k : Ev g (pc + 1) L (.inl (z_cmp x y) :: st) σ) : Ev g pc L (.inr (.inl y) :: .inr (.inl x) :: st) σ := by
  obtain ⟨⟨p, l, e, R⟩, ⟨s, m, args, below⟩, ⟨meth, c, cells, slots⟩, ⟨D, ca, ρ⟩, Q⟩ := g
  obtain ⟨hx, hb, hml, hown, hts, hK, hlk, hfr, hlo, hc, hs, hSt⟩ := C
  intro H locs ls hl hR
  refine W.lcmp hx hb hd ?_
  rw [r_cmp ha hy]
  exact k H locs ls hl hR
def catv (v : V) : Nat := match v with
  | .inr (.inl _) => 2
  | _ => 1
theorem catv_eq {ρ : Nat → Nat → Nat} (v : V) : (toV ρ v).category = catv v := by
  rcases v with x | x | x <;> rfl
theorem catv_sum {ρ : Nat → Nat → Nat} (st : List V) : ((st.map (toV ρ)).map fun v => v.category).sum = (st.map catv).sum := by
  rw [List.map_map]
  congr 1
  apply List.map_congr_left
  intro v _
  exact catv_eq v
theorem e_dup (C : Cx M g) {v : V} (hd : decode M.2.1 pc = .ok (.dup, 1)) (hv : catv v = 1) (k : Ev g (pc + 1) L (v :: v :: st) σ) : Ev g pc L (v :: st) σ := by
  obtain ⟨⟨p, l, e, R⟩, ⟨s, m, args, below⟩, ⟨meth, c, cells, slots⟩, ⟨D, ca, ρ⟩, Q⟩ := g
  obtain ⟨hx, hb, hml, hown, hts, hK, hlk, hfr, hlo, hc, hs, hSt⟩ := C
  intro H locs ls hl hR
  exact lv_dup hx hb hd (by rw [catv_eq]; exact hv) (k H locs ls hl hR)
theorem e_pop (C : Cx M g) {v : V} (hd : decode M.2.1 pc = .ok (.pop, 1)) (hv : catv v = 1) (k : Ev g (pc + 1) L st σ) : Ev g pc L (v :: st) σ := by
  obtain ⟨⟨p, l, e, R⟩, ⟨s, m, args, below⟩, ⟨meth, c, cells, slots⟩, ⟨D, ca, ρ⟩, Q⟩ := g
  obtain ⟨hx, hb, hml, hown, hts, hK, hlk, hfr, hlo, hc, hs, hSt⟩ := C
  intro H locs ls hl hR
  exact lv_pop hx hb hd (by rw [catv_eq]; exact hv) (k H locs ls hl hR)
theorem e_dup_x1 (C : Cx M g) {v u : V} (hd : decode M.2.1 pc = .ok (.dup_x1, 1)) (hv : catv v = 1) (hu : catv u = 1) (k : Ev g (pc + 1) L (v :: u :: v :: st) σ) : Ev g pc L (v :: u :: st) σ := by
  obtain ⟨⟨p, l, e, R⟩, ⟨s, m, args, below⟩, ⟨meth, c, cells, slots⟩, ⟨D, ca, ρ⟩, Q⟩ := g
  obtain ⟨hx, hb, hml, hown, hts, hK, hlk, hfr, hlo, hc, hs, hSt⟩ := C
  intro H locs ls hl hR
  exact lv_dup_x1 hx hb hd (by rw [catv_eq]; exact hv) (by rw [catv_eq]; exact hu) (k H locs ls hl hR)
theorem e_dup2 (C : Cx M g) {v u : V} (hd : decode M.2.1 pc = .ok (.dup2, 1)) (hv : catv v = 1) (hu : catv u = 1) (k : Ev g (pc + 1) L (v :: u :: v :: u :: st) σ) : Ev g pc L (v :: u :: st) σ := by
  obtain ⟨⟨p, l, e, R⟩, ⟨s, m, args, below⟩, ⟨meth, c, cells, slots⟩, ⟨D, ca, ρ⟩, Q⟩ := g
  obtain ⟨hx, hb, hml, hown, hts, hK, hlk, hfr, hlo, hc, hs, hSt⟩ := C
  intro H locs ls hl hR
  exact lv_dup2_11 hx hb hd (by rw [catv_eq]; exact hv) (by rw [catv_eq]; exact hu) (k H locs ls hl hR)
theorem e_ldc (C : Cx M g) {idx : Nat} {z : Int} (hw : Cond.constant M.1.cls idx (Int32.ofInt z) ∈ lw_gd) (hd : decode M.2.1 pc = .ok (.ldc idx, 2)) (k : Ev g (pc + 2) L (.inl z :: st) σ) : Ev g pc L st σ := by
  obtain ⟨⟨p, l, e, R⟩, ⟨s, m, args, below⟩, ⟨meth, c, cells, slots⟩, ⟨D, ca, ρ⟩, Q⟩ := g
  obtain ⟨hx, hb, hml, hown, hts, hK, hlk, hfr, hlo, hc, hs, hSt⟩ := C
  intro H locs ls hl hR
  exact lv_ldc hx hb hown (hts _ hw) hd (k H locs ls hl hR)
theorem e_ldc2 (C : Cx M g) {idx : Nat} {z : Int} (hw : Cond.constantLong M.1.cls idx (Int64.ofInt z) ∈ lw_gd) (hd : decode M.2.1 pc = .ok (.ldc2_w idx, 3)) (k : Ev g (pc + 3) L (.inr (.inl z) :: st) σ) : Ev g pc L st σ := by
  obtain ⟨⟨p, l, e, R⟩, ⟨s, m, args, below⟩, ⟨meth, c, cells, slots⟩, ⟨D, ca, ρ⟩, Q⟩ := g
  obtain ⟨hx, hb, hml, hown, hts, hK, hlk, hfr, hlo, hc, hs, hSt⟩ := C
  intro H locs ls hl hR
  exact lv_ldc2 hx hb hown (hts _ hw) hd (k H locs ls hl hR)
theorem e_mmax (C : Cx M g) {idx : Nat} {x y : Int} (hw : Cond.methodLink M.1.cls idx Lib.Math.max.name ∈ lw_gd ∧ Cond.static Lib.Math.max.name ∈ lw_gd ∧ Cond.initialized "java/lang/Math" ∈ lw_gd ∧ Cond.code Lib.Math.max.name Lib.Math.max.code 2 (some .int) ∈ lw_gd) (hd : decode M.2.1 pc = .ok (.invokestatic idx, 3)) (h1 : 1 ≤ M.2.2.2.2.1) (h2 : (st.map catv).sum + 13 ≤ M.2.2.2.2.2) (ha : R32 x) (hy : R32 y) (k : Ev g (pc + 3) L (.inl (max x y) :: st) σ) : Ev g pc L (.inl y :: .inl x :: st) σ := by
  obtain ⟨⟨p, l, e, R⟩, ⟨s, m, args, below⟩, ⟨meth, c, cells, slots⟩, ⟨D, ca, ρ⟩, Q⟩ := g
  obtain ⟨hx, hb, hml, hown, hts, hK, hlk, hfr, hlo, hc, hs, hSt⟩ := C
  intro H locs ls hl hR
  refine va_mmax hx hb hl.1.symm hown (hts _ hw.1) (hts _ hw.2.1) (hts _ hw.2.2.1) (hts _ hw.2.2.2) (by omega) (by rw [catv_sum]; omega) hc hs hd ?_
  have e1 : (if Int32.ofInt x < Int32.ofInt y then Int32.ofInt y else Int32.ofInt x) = Int32.ofInt (max x y) := by
    by_cases h : x < y
    · rw [if_pos ((r_lt ha hy).mpr h), show max x y = y by omega]
    · rw [if_neg (fun z => h ((r_lt ha hy).mp z)), show max x y = x by omega]
  rw [e1]
  exact k H locs ls hl hR
theorem e_mmin (C : Cx M g) {idx : Nat} {x y : Int} (hw : Cond.methodLink M.1.cls idx Lib.Math.min.name ∈ lw_gd ∧ Cond.static Lib.Math.min.name ∈ lw_gd ∧ Cond.initialized "java/lang/Math" ∈ lw_gd ∧ Cond.code Lib.Math.min.name Lib.Math.min.code 2 (some .int) ∈ lw_gd) (hd : decode M.2.1 pc = .ok (.invokestatic idx, 3)) (h1 : 1 ≤ M.2.2.2.2.1) (h2 : (st.map catv).sum + 13 ≤ M.2.2.2.2.2) (ha : R32 x) (hy : R32 y) (k : Ev g (pc + 3) L (.inl (min x y) :: st) σ) : Ev g pc L (.inl y :: .inl x :: st) σ := by
  obtain ⟨⟨p, l, e, R⟩, ⟨s, m, args, below⟩, ⟨meth, c, cells, slots⟩, ⟨D, ca, ρ⟩, Q⟩ := g
  obtain ⟨hx, hb, hml, hown, hts, hK, hlk, hfr, hlo, hc, hs, hSt⟩ := C
  intro H locs ls hl hR
  refine va_mmin hx hb hl.1.symm hown (hts _ hw.1) (hts _ hw.2.1) (hts _ hw.2.2.1) (hts _ hw.2.2.2) (by omega) (by rw [catv_sum]; omega) hc hs hd ?_
  have e1 : (if Int32.ofInt y < Int32.ofInt x then Int32.ofInt y else Int32.ofInt x) = Int32.ofInt (min x y) := by
    by_cases h : y < x
    · rw [if_pos ((r_lt hy ha).mpr h), show min x y = y by omega]
    · rw [if_neg (fun z => h ((r_lt hy ha).mp z)), show min x y = x by omega]
  first | rw [e1] | rw [show (if Int32.ofInt x < Int32.ofInt y then Int32.ofInt x else Int32.ofInt y) = Int32.ofInt (min x y) by
    by_cases h : x < y
    · rw [if_pos ((r_lt ha hy).mpr h), show min x y = x by omega]
    · rw [if_neg (fun z => h ((r_lt ha hy).mp z)), show min x y = y by omega]]
  exact k H locs ls hl hR
theorem e_lmin (C : Cx M g) {idx : Nat} {x y : Int} (hw : Cond.methodLink M.1.cls idx Lib.MathLoose.min_long.x ∈ lw_gd ∧ Cond.static Lib.MathLoose.min_long.x ∈ lw_gd ∧ Cond.initialized "java/lang/Math" ∈ lw_gd ∧ Cond.code Lib.MathLoose.min_long.x Lib.MathLoose.min_long.code 4 (some .long) ∈ lw_gd) (hd : decode M.2.1 pc = .ok (.invokestatic idx, 3)) (h1 : 1 ≤ M.2.2.2.2.1) (h2 : (st.map catv).sum + 15 ≤ M.2.2.2.2.2) (ha : R64 x) (hy : R64 y) (k : Ev g (pc + 3) L (.inr (.inl (min x y)) :: st) σ) : Ev g pc L (.inr (.inl y) :: .inr (.inl x) :: st) σ := by
  obtain ⟨⟨p, l, e, R⟩, ⟨s, m, args, below⟩, ⟨meth, c, cells, slots⟩, ⟨D, ca, ρ⟩, Q⟩ := g
  obtain ⟨hx, hb, hml, hown, hts, hK, hlk, hfr, hlo, hc, hs, hSt⟩ := C
  intro H locs ls hl hR
  have e0 : ∀ a b : Int, R64 a → R64 b → (Int64.ofInt a < Int64.ofInt b ↔ a < b) := fun a b h1 h2 => by rw [Int64.lt_iff_toInt_lt, r64_int h1, r64_int h2]
  refine va_mmin_long hx hb hl.1.symm hown (hts _ hw.1) (hts _ hw.2.1) (hts _ hw.2.2.1) (hts _ hw.2.2.2) (by omega) (by rw [catv_sum]; omega) hc hs hd ?_
  first
    | rw [show (if Int64.ofInt y < Int64.ofInt x then Int64.ofInt y else Int64.ofInt x) = Int64.ofInt (min x y) by
        by_cases h : y < x
        · rw [if_pos ((e0 y x hy ha).mpr h), show min x y = y by omega]
        · rw [if_neg (fun z => h ((e0 y x hy ha).mp z)), show min x y = x by omega]]
    | rw [show (if Int64.ofInt x < Int64.ofInt y then Int64.ofInt x else Int64.ofInt y) = Int64.ofInt (min x y) by
        by_cases h : x < y
        · rw [if_pos ((e0 x y ha hy).mpr h), show min x y = x by omega]
        · rw [if_neg (fun z => h ((e0 x y ha hy).mp z)), show min x y = y by omega]]
  exact k H locs ls hl hR
end RowsB
