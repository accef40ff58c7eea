/-! rows: fields and arrays (written by wip/gen/gen06.py) -/
def KOk (ci : Nat) (Cn : String) (T : u_T) (N : Nat) : Prop := classes[ci]? = some (Cn, T, N) ∧ nf ci = N ∧ (∀ t ∈ u_ws Cn T N, t ∈ lw_gd) ∧ (∃ ty0 : Nat → FieldType, ∀ k, k < N → parseFieldDescriptor (T k).2.2.1 = some (ty0 k)) ∧ (∀ a, a < N → ∀ b, b < N → a ≠ b → (T a).2.1 ≠ (T b).2.1) ∧ ∀ k, k < N → (T k).1 = Cn
theorem k_Ca : KOk 0 R_Ca F_Ca 15 := ⟨rfl, rfl, fun t h => List.mem_filter.mpr ⟨i_Ca t h, List.all_eq_true.mp (by decide +kernel : (u_ws R_Ca F_Ca 15).all goodWord = true) t h⟩, ⟨t_Ca, t_Ca_ok⟩, n_Ca, o_Ca⟩
theorem k_Dr : KOk 1 R_Dr F_Dr 9 := ⟨rfl, rfl, fun t h => List.mem_filter.mpr ⟨i_Dr t h, List.all_eq_true.mp (by decide +kernel : (u_ws R_Dr F_Dr 9).all goodWord = true) t h⟩, ⟨t_Dr, t_Dr_ok⟩, n_Dr, o_Dr⟩
theorem k_Ga : KOk 2 R_Ga F_Ga 7 := ⟨rfl, rfl, fun t h => List.mem_filter.mpr ⟨i_Ga t h, List.all_eq_true.mp (by decide +kernel : (u_ws R_Ga F_Ga 7).all goodWord = true) t h⟩, ⟨t_Ga, t_Ga_ok⟩, n_Ga, o_Ga⟩
theorem k_Hi : KOk 3 R_Hi F_Hi 3 := ⟨rfl, rfl, fun t h => List.mem_filter.mpr ⟨i_Hi t h, List.all_eq_true.mp (by decide +kernel : (u_ws R_Hi F_Hi 3).all goodWord = true) t h⟩, ⟨t_Hi, t_Hi_ok⟩, n_Hi, o_Hi⟩
theorem k_La : KOk 4 R_La F_La 9 := ⟨rfl, rfl, fun t h => List.mem_filter.mpr ⟨i_La t h, List.all_eq_true.mp (by decide +kernel : (u_ws R_La F_La 9).all goodWord = true) t h⟩, ⟨t_La, t_La_ok⟩, n_La, o_La⟩
theorem k_Ou : KOk 5 R_Ou F_Ou 3 := ⟨rfl, rfl, fun t h => List.mem_filter.mpr ⟨i_Ou t h, List.all_eq_true.mp (by decide +kernel : (u_ws R_Ou F_Ou 3).all goodWord = true) t h⟩, ⟨t_Ou, t_Ou_ok⟩, n_Ou, o_Ou⟩
theorem k_Pl : KOk 6 R_Pl F_Pl 9 := ⟨rfl, rfl, fun t h => List.mem_filter.mpr ⟨i_Pl t h, List.all_eq_true.mp (by decide +kernel : (u_ws R_Pl F_Pl 9).all goodWord = true) t h⟩, ⟨t_Pl, t_Pl_ok⟩, n_Pl, o_Pl⟩
theorem k_Re : KOk 7 R_Re F_Re 17 := ⟨rfl, rfl, fun t h => List.mem_filter.mpr ⟨i_Re t h, List.all_eq_true.mp (by decide +kernel : (u_ws R_Re F_Re 17).all goodWord = true) t h⟩, ⟨t_Re, t_Re_ok⟩, n_Re, o_Re⟩
theorem k_Ru : KOk 8 R_Ru F_Ru 10 := ⟨rfl, rfl, fun t h => List.mem_filter.mpr ⟨i_Ru t h, List.all_eq_true.mp (by decide +kernel : (u_ws R_Ru F_Ru 10).all goodWord = true) t h⟩, ⟨t_Ru, t_Ru_ok⟩, n_Ru, o_Ru⟩
theorem k_Ta : KOk 9 R_Ta F_Ta 2 := ⟨rfl, rfl, fun t h => List.mem_filter.mpr ⟨i_Ta t h, List.all_eq_true.mp (by decide +kernel : (u_ws R_Ta F_Ta 2).all goodWord = true) t h⟩, ⟨t_Ta, t_Ta_ok⟩, n_Ta, o_Ta⟩
theorem k_To : KOk 10 R_To F_To 4 := ⟨rfl, rfl, fun t h => List.mem_filter.mpr ⟨i_To t h, List.all_eq_true.mp (by decide +kernel : (u_ws R_To F_To 4).all goodWord = true) t h⟩, ⟨t_To, t_To_ok⟩, n_To, o_To⟩
theorem k_Sg : KOk 11 R_Sg F_Sg 13 := ⟨rfl, rfl, fun t h => List.mem_filter.mpr ⟨i_Sg t h, List.all_eq_true.mp (by decide +kernel : (u_ws R_Sg F_Sg 13).all goodWord = true) t h⟩, ⟨t_Sg, t_Sg_ok⟩, n_Sg, o_Sg⟩
theorem k_Mo : KOk 12 R_Mo F_Mo 61 := ⟨rfl, rfl, fun t h => List.mem_filter.mpr ⟨i_Mo t h, List.all_eq_true.mp (by decide +kernel : (u_ws R_Mo F_Mo 61).all goodWord = true) t h⟩, ⟨t_Mo, t_Mo_ok⟩, n_Mo, o_Mo⟩
/-- a field as a method's instruction names it: the class of the method, the place in its pool, the object's class, the field -/
def FL (own : String) (idx ci f : Nat) : Prop := ∃ (Cn : String) (T : u_T) (N : Nat), KOk ci Cn T N ∧ f < N ∧ Cond.fieldLink own idx Cn (T f).2.1 (T f).2.2.1 ∈ lw_gd
def FP (own : String) (idx ci f : Nat) (ty : FieldType) : Prop := ∃ (Cn : String) (T : u_T) (N : Nat), KOk ci Cn T N ∧ f < N ∧ Cond.fieldLink own idx Cn (T f).2.1 (T f).2.2.1 ∈ lw_gd ∧ (T f).2.2.2 = false ∧ parseFieldDescriptor (T f).2.2.1 = some ty
theorem range_set {α : Type} {N f : Nat} {F F' : Nat → α} (hf : f < N) (h : ∀ j, j ≠ f → F' j = F j) : ((List.range N).map F).set f (F' f) = (List.range N).map F' := by
  apply List.ext_getElem?
  intro i
  by_cases hi : i = f
  · subst hi
    rw [List.getElem?_set_self (by rw [List.length_map, List.length_range]; exact hf), List.getElem?_map, List.getElem?_range hf]
    rfl
  · rw [List.getElem?_set_ne (fun z => hi z.symm), List.getElem?_map, List.getElem?_map]
    by_cases hl : i < N
    · rw [List.getElem?_range hl]
      show some _ = some _
      rw [h i hi]
    · rw [List.getElem?_eq_none (by rw [List.length_range]; omega)]
      rfl
section RowsF
variable {M : Md} {g : Mach} {pc : Nat} {L : List (Option V)} {st : List V} {σ : St}
theorem e_get (C : Cx M g) {o f idx ci : Nat} {v : V} (h : FL M.1.cls idx ci f) (ho : o ∈ objs) (hcl : cls o = ci) (hv : fvl σ o f (kd ci f) = v) (hd : decode M.2.1 pc = .ok (.getfield idx, 3)) (k : Ev g (pc + 3) L (v :: st) σ) : Ev g pc L (.inr (.inr (o, 0)) :: st) σ := by
  obtain ⟨⟨p, l, e, R⟩, ⟨s, m, args, below⟩, ⟨meth, c, cells, slots⟩, ⟨D, ca, ρ⟩, Q⟩ := g
  obtain ⟨hx, hb, hml, hown, hts, hK, hlk, hfr, hlo, hc, hs, hSt⟩ := C
  intro H locs ls hl hR
  obtain ⟨Cn, T, N, ⟨k1, k2, k3, -, -, k6⟩, hf, hl2⟩ := h
  subst hcl
  obtain ⟨q, hq1, hq2⟩ := wsl_get (D, ca, ρ) σ (ky_obj ho)
  refine va_get (D := D) (cl := classes) (ref := Cn) hx hb hts k3 hown hK hR.1 q hq2 k1 f hf (hts _ hl2) (fun x h9 => by rw [k6 f hf] at h9; exact h9) (v := toV ρ v) ?_ hd (k H locs ls hl hR)
  rw [List.getElem?_map, List.getElem?_range (by rw [k2]; exact hf), ← hv]
  rfl
theorem e_geti (C : Cx M g) {o f idx ci : Nat} (h : FL M.1.cls idx ci f) (ho : o ∈ objs) (hcl : cls o = ci) (hk : kd ci f = 0) (hd : decode M.2.1 pc = .ok (.getfield idx, 3)) (k : R32 (σ o f 0) → Ev g (pc + 3) L (.inl (σ o f 0) :: st) σ) : Ev g pc L (.inr (.inr (o, 0)) :: st) σ :=
  e_rng fun hr => e_get C h ho hcl (by rw [hk]; rfl) hd (k (by have := hr o f 0; rw [hcl, hk] at this; exact this))
theorem e_getz (C : Cx M g) {o f idx ci : Nat} (h : FL M.1.cls idx ci f) (ho : o ∈ objs) (hcl : cls o = ci) (hk : kd ci f = 1) (hd : decode M.2.1 pc = .ok (.getfield idx, 3)) (k : (σ o f 0 = 0 ∨ σ o f 0 = 1) → Ev g (pc + 3) L (.inl (σ o f 0) :: st) σ) : Ev g pc L (.inr (.inr (o, 0)) :: st) σ :=
  e_rng fun hr => e_get C h ho hcl (by rw [hk]; rfl) hd (k (by have := hr o f 0; rw [hcl, hk] at this; exact this))
theorem e_getl (C : Cx M g) {o f idx ci : Nat} (h : FL M.1.cls idx ci f) (ho : o ∈ objs) (hcl : cls o = ci) (hk : kd ci f = 2) (hd : decode M.2.1 pc = .ok (.getfield idx, 3)) (k : R64 (σ o f 0) → Ev g (pc + 3) L (.inr (.inl (σ o f 0)) :: st) σ) : Ev g pc L (.inr (.inr (o, 0)) :: st) σ :=
  e_rng fun hr => e_get C h ho hcl (by rw [hk]; rfl) hd (k (by have := hr o f 0; rw [hcl, hk] at this; exact this))
theorem e_geto (C : Cx M g) {o f idx ci : Nat} (h : FL M.1.cls idx ci f) (ho : o ∈ objs) (hcl : cls o = ci) (hk : kd ci f = 7) {o2 : Nat} (h2 : fo o f = o2) (hd : decode M.2.1 pc = .ok (.getfield idx, 3)) (k : Ev g (pc + 3) L (.inr (.inr (o2, 0)) :: st) σ) : Ev g pc L (.inr (.inr (o, 0)) :: st) σ :=
  e_get C h ho hcl (by rw [hk, ← h2]; rfl) hd k
theorem e_geta (C : Cx M g) {o f idx ci : Nat} (h : FL M.1.cls idx ci f) (ho : o ∈ objs) (hcl : cls o = ci) (hk : isArr (kd ci f) = true) (hd : decode M.2.1 pc = .ok (.getfield idx, 3)) (k : Ev g (pc + 3) L (.inr (.inr (o, f + 1)) :: st) σ) : Ev g pc L (.inr (.inr (o, 0)) :: st) σ := by
  refine e_get C h ho hcl ?_ hd k
  generalize kd ci f = n at hk
  simp only [isArr, Bool.or_eq_true, beq_iff_eq] at hk
  rcases hk with (((h | h) | h) | h) | h <;> subst h <;> rfl
theorem e_put (C : Cx M g) {o f idx ci : Nat} {v : V} {z : Int} {ty : FieldType} (h : FP M.1.cls idx ci f ty) (ho : o ∈ objs) (hcl : cls o = ci) (hk : isArr (kd ci f) = false) (hn : ∀ ρ : Nat → Nat → Nat, narrow ty (toV ρ v) = toV ρ v ∧ fits ty (toV ρ v) = true) (hv : ∀ ρ : Nat → Nat → Nat, toV ρ (fvl (wr σ o f 0 z) o f (kd ci f)) = toV ρ v) (hz : rk (kd ci f) z) (hd : decode M.2.1 pc = .ok (.putfield idx, 3)) (k : Ev g (pc + 3) L st (wr σ o f 0 z)) : Ev g pc L (v :: .inr (.inr (o, 0)) :: st) σ := by
  obtain ⟨⟨p, l, e, R⟩, ⟨s, m, args, below⟩, ⟨meth, c, cells, slots⟩, ⟨D, ca, ρ⟩, Q⟩ := g
  obtain ⟨hx, hb, hml, hown, hts, hK, hlk, hfr, hlo, hc, hs, hSt⟩ := C
  intro H locs ls hl hR
  obtain ⟨Cn, T, N, ⟨k1, k2, k3, ⟨ty0, k4⟩, k5, k6⟩, hf, hl2, hfin, hpt⟩ := h
  subst hcl
  obtain ⟨q, hq1, hq2⟩ := wsl_get (D, ca, ρ) σ (ky_obj ho)
  obtain ⟨hP, hD, hS, hG⟩ := hR
  refine va_put (D := D) (cl := classes) (ref := Cn) hx hb hts k3 ty0 k4 k5 hown hK hP hD hS q hq2 k1 f hf (hts _ hl2) (fun x h9 => by rw [k6 f hf] at h9; exact h9) hfin hpt (hn ρ).1 (hn ρ).2 (by rw [List.length_map, List.length_range, k2]; exact hf) hd (fun H1 locs1 hP1 hD1 hS1 => ?_)
  have e1 : (wsl (D, ca, ρ) σ).set q (ρ o 0, .inr (cls o, ((List.range (nf (cls o))).map fun f => toV ρ (fvl σ o f (kd (cls o) f))).set f (toV ρ v))) = wsl (D, ca, ρ) (wr σ o f 0 z) := by
    rw [← hv ρ, range_set (F' := fun f2 => toV ρ (fvl (wr σ o f 0 z) o f2 (kd (cls o) f2))) (by rw [k2]; exact hf) (fun j hj => ?_)]
    · exact wsl_set hD hq1 (cell_wr_fld hk)
    · show toV ρ _ = toV ρ _
      congr 1
      have e2 : wr σ o f 0 z o j 0 = σ o j 0 := wr_ne (fun h => hj h.2.1)
      unfold fvl
      rw [e2]
  have hP1 : va_P D classes ((wsl (D, ca, ρ) σ).set q (ρ o 0, .inr (cls o, ((List.range (nf (cls o))).map fun f => toV ρ (fvl σ o f (kd (cls o) f))).set f (toV ρ v)))) H1 := hP1
  have hD1 : va_D (AA (D, ca, ρ)) ((wsl (D, ca, ρ) σ).set q (ρ o 0, .inr (cls o, ((List.range (nf (cls o))).map fun f => toV ρ (fvl σ o f (kd (cls o) f))).set f (toV ρ v)))) := hD1
  rw [e1] at hP1 hD1
  exact k H1 locs1 ls hl ⟨hP1, hD1, hS1, rng_wr hG hz⟩
theorem e_puti (C : Cx M g) {o f idx ci : Nat} {z : Int} (h : FP M.1.cls idx ci f .int) (ho : o ∈ objs) (hcl : cls o = ci) (hk : kd ci f = 0) (hz : R32 z) (hd : decode M.2.1 pc = .ok (.putfield idx, 3)) (k : Ev g (pc + 3) L st (wr σ o f 0 z)) : Ev g pc L (.inl z :: .inr (.inr (o, 0)) :: st) σ :=
  e_put C h ho hcl (by rw [hk]; rfl) (fun ρ => ⟨vp_nar_int _, rfl⟩) (fun ρ => by rw [hk]; show toV ρ (.inl (wr σ o f 0 z o f 0)) = _; rw [wr_at]) (by rw [hk]; exact hz) hd k
theorem nf_z0 : narrow .boolean (.int (Int32.ofInt 0)) = .int (Int32.ofInt 0) ∧ fits .boolean (.int (Int32.ofInt 0)) = true := by decide
theorem nf_z1 : narrow .boolean (.int (Int32.ofInt 1)) = .int (Int32.ofInt 1) ∧ fits .boolean (.int (Int32.ofInt 1)) = true := by decide
theorem e_putz (C : Cx M g) {o f idx ci : Nat} {z : Int} (h : FP M.1.cls idx ci f .boolean) (ho : o ∈ objs) (hcl : cls o = ci) (hk : kd ci f = 1) (hz : z = 0 ∨ z = 1) (hd : decode M.2.1 pc = .ok (.putfield idx, 3)) (k : Ev g (pc + 3) L st (wr σ o f 0 z)) : Ev g pc L (.inl z :: .inr (.inr (o, 0)) :: st) σ :=
  e_put C h ho hcl (by rw [hk]; rfl) (fun ρ => by rcases hz with h | h <;> subst h <;> first | exact nf_z0 | exact nf_z1) (fun ρ => by rw [hk]; show toV ρ (.inl (wr σ o f 0 z o f 0)) = _; rw [wr_at]) (by rw [hk]; exact hz) hd k
theorem e_putl (C : Cx M g) {o f idx ci : Nat} {z : Int} (h : FP M.1.cls idx ci f .long) (ho : o ∈ objs) (hcl : cls o = ci) (hk : kd ci f = 2) (hz : R64 z) (hd : decode M.2.1 pc = .ok (.putfield idx, 3)) (k : Ev g (pc + 3) L st (wr σ o f 0 z)) : Ev g pc L (.inr (.inl z) :: .inr (.inr (o, 0)) :: st) σ :=
  e_put C h ho hcl (by rw [hk]; rfl) (fun ρ => ⟨rfl, rfl⟩) (fun ρ => by rw [hk]; show toV ρ (.inr (.inl (wr σ o f 0 z o f 0))) = _; rw [wr_at]) (by rw [hk]; exact hz) hd k
theorem cell_i {w : Wd} {σ : St} {o f ci kn : Nat} (hcl : cls o = ci) (hk : kd ci f = kn) (h : kn = 3 ∨ kn = 4 ∨ kn = 5) : cellE w σ (o, f + 1) = .inl (w.2.1 kn, ln ci f, .inl fun j => Int32.ofInt (σ o f j)) := by
  subst hcl
  show Sum.inl (w.2.1 (kd (cls o) f), _, con w.2.2 σ o f (kd (cls o) f)) = _
  rw [hk]
  rcases h with h | h | h <;> subst h <;> rfl
theorem cell_l {w : Wd} {σ : St} {o f ci : Nat} (hcl : cls o = ci) (hk : kd ci f = 6) : cellE w σ (o, f + 1) = .inl (w.2.1 6, ln ci f, .inr (.inl fun j => Int64.ofInt (σ o f j))) := by
  subst hcl
  show Sum.inl (w.2.1 (kd (cls o) f), _, con w.2.2 σ o f (kd (cls o) f)) = _
  rw [hk]
  rfl
theorem cell_q {w : Wd} {σ : St} {o f ci : Nat} (hcl : cls o = ci) (hk : kd ci f = 8) : cellE w σ (o, f + 1) = .inl (w.2.1 8, ln ci f, .inr (.inr (.inr (.inr fun j => some (w.2.2 (fo o f + j) 0))))) := by
  subst hcl
  show Sum.inl (w.2.1 (kd (cls o) f), _, con w.2.2 σ o f (kd (cls o) f)) = _
  rw [hk]
  rfl
theorem upd_wr {σ : St} {o f : Nat} {i v : Int} (h0 : 0 ≤ i) : upd (fun j => Int32.ofInt (σ o f (j : Nat))) i.toNat (Int32.ofInt v) = fun j : Nat => Int32.ofInt (wr σ o f i v o f (j : Nat)) := by
  funext j
  unfold upd
  by_cases h : j = i.toNat
  · rw [if_pos h]
    have : (j : Int) = i := by omega
    rw [this, wr_at]
  · rw [if_neg h, wr_ne (fun z => h (by have := z.2.2; omega))]
theorem updL_wr {σ : St} {o f : Nat} {i v : Int} (h0 : 0 ≤ i) : vp_updL (fun j => Int64.ofInt (σ o f (j : Nat))) i.toNat (Int64.ofInt v) = fun j : Nat => Int64.ofInt (wr σ o f i v o f (j : Nat)) := by
  funext j
  unfold vp_updL
  by_cases h : j = i.toNat
  · rw [if_pos h]
    have : (j : Int) = i := by omega
    rw [this, wr_at]
  · rw [if_neg h, wr_ne (fun z => h (by have := z.2.2; omega))]
theorem e_iald (C : Cx M g) {o f ci n : Nat} {i : Int} (ho : o ∈ objs) (hcl : cls o = ci) (hf : f < nf ci) (hk : kd ci f = 3) (hn : ln ci f = n) (hnb : n < 2147483648) (h0 : 0 ≤ i) (h1 : i < n) (hd : decode M.2.1 pc = .ok (.iaload, 1)) (k : R32 (σ o f i) → Ev g (pc + 1) L (.inl (σ o f i) :: st) σ) : Ev g pc L (.inl i :: .inr (.inr (o, f + 1)) :: st) σ := by
  obtain ⟨⟨p, l, e, R⟩, ⟨s, m, args, below⟩, ⟨meth, c, cells, slots⟩, ⟨D, ca, ρ⟩, Q⟩ := g
  obtain ⟨hx, hb, hml, hown, hts, hK, hlk, hfr, hlo, hc, hs, hSt⟩ := C
  intro H locs ls hl hR
  obtain ⟨q, hq1, hq2⟩ := wsl_get (D, ca, ρ) σ (ky_arr ho (by rw [hcl]; exact hf) (by rw [hcl, hk]; rfl))
  rw [cell_i hcl hk (by decide)] at hq2
  obtain ⟨hP, hD, hS, hG⟩ := hR
  refine va_iald hx hb hK hP q 0 hq2 rfl (r_in h0 (by rw [hn]; exact h1) (by rw [hn]; exact hnb)) hd ?_
  have e1 : ((Int32.ofInt i).toNatClampNeg : Int) = i := by rw [r_clamp h0 (by omega)]; omega
  rw [e1]
  exact k (by have := hG o f i; rw [hcl, hk] at this; exact this) H locs ls hl ⟨hP, hD, hS, hG⟩
theorem e_zald (C : Cx M g) {o f ci n : Nat} {i : Int} (ho : o ∈ objs) (hcl : cls o = ci) (hf : f < nf ci) (hk : kd ci f = 4) (hn : ln ci f = n) (hnb : n < 2147483648) (h0 : 0 ≤ i) (h1 : i < n) (hd : decode M.2.1 pc = .ok (.baload, 1)) (k : (σ o f i = 0 ∨ σ o f i = 1) → Ev g (pc + 1) L (.inl (σ o f i) :: st) σ) : Ev g pc L (.inl i :: .inr (.inr (o, f + 1)) :: st) σ := by
  obtain ⟨⟨p, l, e, R⟩, ⟨s, m, args, below⟩, ⟨meth, c, cells, slots⟩, ⟨D, ca, ρ⟩, Q⟩ := g
  obtain ⟨hx, hb, hml, hown, hts, hK, hlk, hfr, hlo, hc, hs, hSt⟩ := C
  intro H locs ls hl hR
  obtain ⟨q, hq1, hq2⟩ := wsl_get (D, ca, ρ) σ (ky_arr ho (by rw [hcl]; exact hf) (by rw [hcl, hk]; rfl))
  rw [cell_i hcl hk (by decide)] at hq2
  obtain ⟨hP, hD, hS, hG⟩ := hR
  refine va_zald hx hb hK hP q 1 hq2 rfl (r_in h0 (by rw [hn]; exact h1) (by rw [hn]; exact hnb)) hd ?_
  have e1 : ((Int32.ofInt i).toNatClampNeg : Int) = i := by rw [r_clamp h0 (by omega)]; omega
  rw [e1]
  exact k (by have := hG o f i; rw [hcl, hk] at this; exact this) H locs ls hl ⟨hP, hD, hS, hG⟩
theorem e_bald (C : Cx M g) {o f ci n : Nat} {i : Int} (ho : o ∈ objs) (hcl : cls o = ci) (hf : f < nf ci) (hk : kd ci f = 5) (hn : ln ci f = n) (hnb : n < 2147483648) (h0 : 0 ≤ i) (h1 : i < n) (hd : decode M.2.1 pc = .ok (.baload, 1)) (k : (-128 ≤ σ o f i ∧ σ o f i ≤ 127) → Ev g (pc + 1) L (.inl (σ o f i) :: st) σ) : Ev g pc L (.inl i :: .inr (.inr (o, f + 1)) :: st) σ := by
  obtain ⟨⟨p, l, e, R⟩, ⟨s, m, args, below⟩, ⟨meth, c, cells, slots⟩, ⟨D, ca, ρ⟩, Q⟩ := g
  obtain ⟨hx, hb, hml, hown, hts, hK, hlk, hfr, hlo, hc, hs, hSt⟩ := C
  intro H locs ls hl hR
  obtain ⟨q, hq1, hq2⟩ := wsl_get (D, ca, ρ) σ (ky_arr ho (by rw [hcl]; exact hf) (by rw [hcl, hk]; rfl))
  rw [cell_i hcl hk (by decide)] at hq2
  obtain ⟨hP, hD, hS, hG⟩ := hR
  refine va_bald hx hb hK hP q 2 hq2 rfl (r_in h0 (by rw [hn]; exact h1) (by rw [hn]; exact hnb)) hd ?_
  have e1 : ((Int32.ofInt i).toNatClampNeg : Int) = i := by rw [r_clamp h0 (by omega)]; omega
  rw [e1]
  exact k (by have := hG o f i; rw [hcl, hk] at this; exact this) H locs ls hl ⟨hP, hD, hS, hG⟩
theorem e_lald (C : Cx M g) {o f ci n : Nat} {i : Int} (ho : o ∈ objs) (hcl : cls o = ci) (hf : f < nf ci) (hk : kd ci f = 6) (hn : ln ci f = n) (hnb : n < 2147483648) (h0 : 0 ≤ i) (h1 : i < n) (hd : decode M.2.1 pc = .ok (.laload, 1)) (k : R64 (σ o f i) → Ev g (pc + 1) L (.inr (.inl (σ o f i)) :: st) σ) : Ev g pc L (.inl i :: .inr (.inr (o, f + 1)) :: st) σ := by
  obtain ⟨⟨p, l, e, R⟩, ⟨s, m, args, below⟩, ⟨meth, c, cells, slots⟩, ⟨D, ca, ρ⟩, Q⟩ := g
  obtain ⟨hx, hb, hml, hown, hts, hK, hlk, hfr, hlo, hc, hs, hSt⟩ := C
  intro H locs ls hl hR
  obtain ⟨q, hq1, hq2⟩ := wsl_get (D, ca, ρ) σ (ky_arr ho (by rw [hcl]; exact hf) (by rw [hcl, hk]; rfl))
  rw [cell_l hcl hk] at hq2
  obtain ⟨hP, hD, hS, hG⟩ := hR
  refine va_lald hx hb hK hP q 3 hq2 rfl (r_in h0 (by rw [hn]; exact h1) (by rw [hn]; exact hnb)) hd ?_
  have e1 : ((Int32.ofInt i).toNatClampNeg : Int) = i := by rw [r_clamp h0 (by omega)]; omega
  rw [e1]
  exact k (by have := hG o f i; rw [hcl, hk] at this; exact this) H locs ls hl ⟨hP, hD, hS, hG⟩
theorem e_aald (C : Cx M g) {o f ci n : Nat} {i : Int} {o2 : Nat} (ho : o ∈ objs) (hcl : cls o = ci) (hf : f < nf ci) (hk : kd ci f = 8) (hn : ln ci f = n) (hnb : n < 2147483648) (h0 : 0 ≤ i) (h1 : i < n) (h2 : fo o f + i.toNat = o2) (hd : decode M.2.1 pc = .ok (.aaload, 1)) (k : Ev g (pc + 1) L (.inr (.inr (o2, 0)) :: st) σ) : Ev g pc L (.inl i :: .inr (.inr (o, f + 1)) :: st) σ := by
  obtain ⟨⟨p, l, e, R⟩, ⟨s, m, args, below⟩, ⟨meth, c, cells, slots⟩, ⟨D, ca, ρ⟩, Q⟩ := g
  obtain ⟨hx, hb, hml, hown, hts, hK, hlk, hfr, hlo, hc, hs, hSt⟩ := C
  intro H locs ls hl hR
  obtain ⟨q, hq1, hq2⟩ := wsl_get (D, ca, ρ) σ (ky_arr ho (by rw [hcl]; exact hf) (by rw [hcl, hk]; rfl))
  rw [cell_q hcl hk] at hq2
  obtain ⟨hP, hD, hS, hG⟩ := hR
  refine va_aldq hx hb hK hP q 4 hq2 rfl (r_in h0 (by rw [hn]; exact h1) (by rw [hn]; exact hnb)) hd ?_
  rw [r_clamp h0 (by omega), h2]
  exact k H locs ls hl ⟨hP, hD, hS, hG⟩
theorem e_iast (C : Cx M g) {o f ci n : Nat} {i v : Int} (ho : o ∈ objs) (hcl : cls o = ci) (hf : f < nf ci) (hk : kd ci f = 3) (hn : ln ci f = n) (hnb : n < 2147483648) (h0 : 0 ≤ i) (h1 : i < n) (hv : R32 v) (hd : decode M.2.1 pc = .ok (.iastore, 1)) (k : Ev g (pc + 1) L st (wr σ o f i v)) : Ev g pc L (.inl v :: .inl i :: .inr (.inr (o, f + 1)) :: st) σ := by
  obtain ⟨⟨p, l, e, R⟩, ⟨s, m, args, below⟩, ⟨meth, c, cells, slots⟩, ⟨D, ca, ρ⟩, Q⟩ := g
  obtain ⟨hx, hb, hml, hown, hts, hK, hlk, hfr, hlo, hc, hs, hSt⟩ := C
  intro H locs ls hl hR
  obtain ⟨q, hq1, hq2⟩ := wsl_get (D, ca, ρ) σ (ky_arr ho (by rw [hcl]; exact hf) (by rw [hcl, hk]; rfl))
  rw [cell_i hcl hk (by decide)] at hq2
  obtain ⟨hP, hD, hS, hG⟩ := hR
  refine va_iast hx hb hK hP hD hS q 0 hq2 rfl (r_in h0 (by rw [hn]; exact h1) (by rw [hn]; exact hnb)) hd (fun H1 locs1 hP1 hD1 hS1 => ?_)
  have e1 : (wsl (D, ca, ρ) σ).set q (ρ o (f + 1), .inl (ca 3, ln ci f, .inl (upd (fun j => Int32.ofInt (σ o f (j : Nat))) (Int32.ofInt i).toNatClampNeg (Int32.ofInt v)))) = wsl (D, ca, ρ) (wr σ o f i v) := by
    rw [r_clamp h0 (by omega), upd_wr h0]
    have := wsl_set (w := (D, ca, ρ)) (σ' := wr σ o f i v) hD hq1 (cell_wr_arr (by rw [hcl, hk]; rfl))
    rw [cell_i hcl hk (by decide)] at this
    exact this
  have hP1 : va_P D classes ((wsl (D, ca, ρ) σ).set q (ρ o (f + 1), .inl (ca 3, ln ci f, .inl (upd (fun j => Int32.ofInt (σ o f (j : Nat))) (Int32.ofInt i).toNatClampNeg (Int32.ofInt v))))) H1 := hP1
  have hD1 : va_D (AA (D, ca, ρ)) ((wsl (D, ca, ρ) σ).set q (ρ o (f + 1), .inl (ca 3, ln ci f, .inl (upd (fun j => Int32.ofInt (σ o f (j : Nat))) (Int32.ofInt i).toNatClampNeg (Int32.ofInt v))))) := hD1
  rw [e1] at hP1 hD1
  exact k H1 locs1 ls hl ⟨hP1, hD1, hS1, rng_wr hG (by rw [hcl, hk]; exact hv)⟩
theorem nar_z {v : Int} (hv : v = 0 ∨ v = 1) : vp_nar .boolean (Int32.ofInt v) = Int32.ofInt v := by rcases hv with h | h <;> subst h <;> decide
theorem nar_b {v : Int} (hv : -128 ≤ v ∧ v ≤ 127) : vp_nar .byte (Int32.ofInt v) = Int32.ofInt v := by
  rw [vp_nar_byte, Int32.toInt8_ofInt]
  apply Int32.toInt_inj.mp
  rw [Int8.toInt_toInt32, Int8.toInt_ofInt_of_le (by omega) (by omega), r_int ⟨by omega, by omega⟩]
theorem e_zast (C : Cx M g) {o f ci n : Nat} {i v : Int} (ho : o ∈ objs) (hcl : cls o = ci) (hf : f < nf ci) (hk : kd ci f = 4) (hn : ln ci f = n) (hnb : n < 2147483648) (h0 : 0 ≤ i) (h1 : i < n) (hv : v = 0 ∨ v = 1) (hd : decode M.2.1 pc = .ok (.bastore, 1)) (k : Ev g (pc + 1) L st (wr σ o f i v)) : Ev g pc L (.inl v :: .inl i :: .inr (.inr (o, f + 1)) :: st) σ := by
  obtain ⟨⟨p, l, e, R⟩, ⟨s, m, args, below⟩, ⟨meth, c, cells, slots⟩, ⟨D, ca, ρ⟩, Q⟩ := g
  obtain ⟨hx, hb, hml, hown, hts, hK, hlk, hfr, hlo, hc, hs, hSt⟩ := C
  intro H locs ls hl hR
  obtain ⟨q, hq1, hq2⟩ := wsl_get (D, ca, ρ) σ (ky_arr ho (by rw [hcl]; exact hf) (by rw [hcl, hk]; rfl))
  rw [cell_i hcl hk (by decide)] at hq2
  obtain ⟨hP, hD, hS, hG⟩ := hR
  refine va_zast hx hb hK hP hD hS q 1 hq2 rfl (r_in h0 (by rw [hn]; exact h1) (by rw [hn]; exact hnb)) hd (fun H1 locs1 hP1 hD1 hS1 => ?_)
  have e1 : (wsl (D, ca, ρ) σ).set q (ρ o (f + 1), .inl (ca 4, ln ci f, .inl (upd (fun j => Int32.ofInt (σ o f (j : Nat))) (Int32.ofInt i).toNatClampNeg (vp_nar .boolean (Int32.ofInt v))))) = wsl (D, ca, ρ) (wr σ o f i v) := by
    rw [r_clamp h0 (by omega), nar_z hv, upd_wr h0]
    have := wsl_set (w := (D, ca, ρ)) (σ' := wr σ o f i v) hD hq1 (cell_wr_arr (by rw [hcl, hk]; rfl))
    rw [cell_i hcl hk (by decide)] at this
    exact this
  have hP1 : va_P D classes ((wsl (D, ca, ρ) σ).set q (ρ o (f + 1), .inl (ca 4, ln ci f, .inl (upd (fun j => Int32.ofInt (σ o f (j : Nat))) (Int32.ofInt i).toNatClampNeg (vp_nar .boolean (Int32.ofInt v)))))) H1 := hP1
  have hD1 : va_D (AA (D, ca, ρ)) ((wsl (D, ca, ρ) σ).set q (ρ o (f + 1), .inl (ca 4, ln ci f, .inl (upd (fun j => Int32.ofInt (σ o f (j : Nat))) (Int32.ofInt i).toNatClampNeg (vp_nar .boolean (Int32.ofInt v)))))) := hD1
  rw [e1] at hP1 hD1
  exact k H1 locs1 ls hl ⟨hP1, hD1, hS1, rng_wr hG (by rw [hcl, hk]; exact hv)⟩
theorem e_bast (C : Cx M g) {o f ci n : Nat} {i v : Int} (ho : o ∈ objs) (hcl : cls o = ci) (hf : f < nf ci) (hk : kd ci f = 5) (hn : ln ci f = n) (hnb : n < 2147483648) (h0 : 0 ≤ i) (h1 : i < n) (hv : -128 ≤ v ∧ v ≤ 127) (hd : decode M.2.1 pc = .ok (.bastore, 1)) (k : Ev g (pc + 1) L st (wr σ o f i v)) : Ev g pc L (.inl v :: .inl i :: .inr (.inr (o, f + 1)) :: st) σ := by
  obtain ⟨⟨p, l, e, R⟩, ⟨s, m, args, below⟩, ⟨meth, c, cells, slots⟩, ⟨D, ca, ρ⟩, Q⟩ := g
  obtain ⟨hx, hb, hml, hown, hts, hK, hlk, hfr, hlo, hc, hs, hSt⟩ := C
  intro H locs ls hl hR
  obtain ⟨q, hq1, hq2⟩ := wsl_get (D, ca, ρ) σ (ky_arr ho (by rw [hcl]; exact hf) (by rw [hcl, hk]; rfl))
  rw [cell_i hcl hk (by decide)] at hq2
  obtain ⟨hP, hD, hS, hG⟩ := hR
  refine va_bast hx hb hK hP hD hS q 2 hq2 rfl (r_in h0 (by rw [hn]; exact h1) (by rw [hn]; exact hnb)) hd (fun H1 locs1 hP1 hD1 hS1 => ?_)
  have e1 : (wsl (D, ca, ρ) σ).set q (ρ o (f + 1), .inl (ca 5, ln ci f, .inl (upd (fun j => Int32.ofInt (σ o f (j : Nat))) (Int32.ofInt i).toNatClampNeg (vp_nar .byte (Int32.ofInt v))))) = wsl (D, ca, ρ) (wr σ o f i v) := by
    rw [r_clamp h0 (by omega), nar_b hv, upd_wr h0]
    have := wsl_set (w := (D, ca, ρ)) (σ' := wr σ o f i v) hD hq1 (cell_wr_arr (by rw [hcl, hk]; rfl))
    rw [cell_i hcl hk (by decide)] at this
    exact this
  have hP1 : va_P D classes ((wsl (D, ca, ρ) σ).set q (ρ o (f + 1), .inl (ca 5, ln ci f, .inl (upd (fun j => Int32.ofInt (σ o f (j : Nat))) (Int32.ofInt i).toNatClampNeg (vp_nar .byte (Int32.ofInt v)))))) H1 := hP1
  have hD1 : va_D (AA (D, ca, ρ)) ((wsl (D, ca, ρ) σ).set q (ρ o (f + 1), .inl (ca 5, ln ci f, .inl (upd (fun j => Int32.ofInt (σ o f (j : Nat))) (Int32.ofInt i).toNatClampNeg (vp_nar .byte (Int32.ofInt v)))))) := hD1
  rw [e1] at hP1 hD1
  exact k H1 locs1 ls hl ⟨hP1, hD1, hS1, rng_wr hG (by rw [hcl, hk]; exact hv)⟩
theorem e_last (C : Cx M g) {o f ci n : Nat} {i v : Int} (ho : o ∈ objs) (hcl : cls o = ci) (hf : f < nf ci) (hk : kd ci f = 6) (hn : ln ci f = n) (hnb : n < 2147483648) (h0 : 0 ≤ i) (h1 : i < n) (hv : R64 v) (hd : decode M.2.1 pc = .ok (.lastore, 1)) (k : Ev g (pc + 1) L st (wr σ o f i v)) : Ev g pc L (.inr (.inl v) :: .inl i :: .inr (.inr (o, f + 1)) :: st) σ := by
  obtain ⟨⟨p, l, e, R⟩, ⟨s, m, args, below⟩, ⟨meth, c, cells, slots⟩, ⟨D, ca, ρ⟩, Q⟩ := g
  obtain ⟨hx, hb, hml, hown, hts, hK, hlk, hfr, hlo, hc, hs, hSt⟩ := C
  intro H locs ls hl hR
  obtain ⟨q, hq1, hq2⟩ := wsl_get (D, ca, ρ) σ (ky_arr ho (by rw [hcl]; exact hf) (by rw [hcl, hk]; rfl))
  rw [cell_l hcl hk] at hq2
  obtain ⟨hP, hD, hS, hG⟩ := hR
  refine va_last hx hb hK hP hD hS q 3 hq2 rfl (r_in h0 (by rw [hn]; exact h1) (by rw [hn]; exact hnb)) hd (fun H1 locs1 hP1 hD1 hS1 => ?_)
  have e1 : (wsl (D, ca, ρ) σ).set q (ρ o (f + 1), .inl (ca 6, ln ci f, .inr (.inl (vp_updL (fun j => Int64.ofInt (σ o f (j : Nat))) (Int32.ofInt i).toNatClampNeg (Int64.ofInt v))))) = wsl (D, ca, ρ) (wr σ o f i v) := by
    rw [r_clamp h0 (by omega), updL_wr h0]
    have := wsl_set (w := (D, ca, ρ)) (σ' := wr σ o f i v) hD hq1 (cell_wr_arr (by rw [hcl, hk]; rfl))
    rw [cell_l hcl hk] at this
    exact this
  have hP1 : va_P D classes ((wsl (D, ca, ρ) σ).set q (ρ o (f + 1), .inl (ca 6, ln ci f, .inr (.inl (vp_updL (fun j => Int64.ofInt (σ o f (j : Nat))) (Int32.ofInt i).toNatClampNeg (Int64.ofInt v)))))) H1 := hP1
  have hD1 : va_D (AA (D, ca, ρ)) ((wsl (D, ca, ρ) σ).set q (ρ o (f + 1), .inl (ca 6, ln ci f, .inr (.inl (vp_updL (fun j => Int64.ofInt (σ o f (j : Nat))) (Int32.ofInt i).toNatClampNeg (Int64.ofInt v)))))) := hD1
  rw [e1] at hP1 hD1
  exact k H1 locs1 ls hl ⟨hP1, hD1, hS1, rng_wr hG (by rw [hcl, hk]; exact hv)⟩
theorem e_alen (C : Cx M g) {o f ci n : Nat} (ho : o ∈ objs) (hcl : cls o = ci) (hf : f < nf ci) (hk : kd ci f = 6) (hn : ln ci f = n) (hd : decode M.2.1 pc = .ok (.arraylength, 1)) (k : Ev g (pc + 1) L (.inl n :: st) σ) : Ev g pc L (.inr (.inr (o, f + 1)) :: st) σ := by
  obtain ⟨⟨p, l, e, R⟩, ⟨s, m, args, below⟩, ⟨meth, c, cells, slots⟩, ⟨D, ca, ρ⟩, Q⟩ := g
  obtain ⟨hx, hb, hml, hown, hts, hK, hlk, hfr, hlo, hc, hs, hSt⟩ := C
  intro H locs ls hl hR
  obtain ⟨q, hq1, hq2⟩ := wsl_get (D, ca, ρ) σ (ky_arr ho (by rw [hcl]; exact hf) (by rw [hcl, hk]; rfl))
  rw [cell_l hcl hk, hn] at hq2
  exact va_alen hx hb hK hR.1 q 3 hq2 rfl (Int32.ofInt_eq_ofNat.symm) hd (k H locs ls hl hR)
theorem e_alen3 (C : Cx M g) {o f ci n : Nat} (ho : o ∈ objs) (hcl : cls o = ci) (hf : f < nf ci) (hk : kd ci f = 3) (hn : ln ci f = n) (hd : decode M.2.1 pc = .ok (.arraylength, 1)) (k : Ev g (pc + 1) L (.inl n :: st) σ) : Ev g pc L (.inr (.inr (o, f + 1)) :: st) σ := by
  obtain ⟨⟨p, l, e, R⟩, ⟨s, m, args, below⟩, ⟨meth, c, cells, slots⟩, ⟨D, ca, ρ⟩, Q⟩ := g
  obtain ⟨hx, hb, hml, hown, hts, hK, hlk, hfr, hlo, hc, hs, hSt⟩ := C
  intro H locs ls hl hR
  obtain ⟨q, hq1, hq2⟩ := wsl_get (D, ca, ρ) σ (ky_arr ho (by rw [hcl]; exact hf) (by rw [hcl, hk]; rfl))
  rw [cell_i hcl hk (by decide), hn] at hq2
  exact va_alen hx hb hK hR.1 q 0 hq2 rfl (Int32.ofInt_eq_ofNat.symm) hd (k H locs ls hl hR)
/-- the words in quotes, a static row -/
theorem e_words (C : Cx M g) {idx : Nat} (hw : Cond.fieldLink M.1.cls idx "SandGuards$Tokens" "WORDS" "[J" ∈ lw_gd) (hd : decode M.2.1 pc = .ok (.getstatic idx, 3)) (k : Ev g (pc + 3) L (.inr (.inr (99, 1)) :: st) σ) : Ev g pc L st σ := by
  obtain ⟨⟨p, l, e, R⟩, ⟨s, m, args, below⟩, ⟨meth, c, cells, slots⟩, ⟨D, ca, ρ⟩, Q⟩ := g
  obtain ⟨hx, hb, hml, hown, hts, hK, hlk, hfr, hlo, hc, hs, hSt⟩ := C
  intro H locs ls hl hR
  exact va_gets hx hb hSt.1 hR.2.2.1 hown (hts _ hw) (fun _ h => h) hd (k H locs ls hl hR)
theorem e_wlen (C : Cx M g) (hd : decode M.2.1 pc = .ok (.arraylength, 1)) (k : Ev g (pc + 1) L (.inl 14 :: st) σ) : Ev g pc L (.inr (.inr (99, 1)) :: st) σ := by
  obtain ⟨⟨p, l, e, R⟩, ⟨s, m, args, below⟩, ⟨meth, c, cells, slots⟩, ⟨D, ca, ρ⟩, Q⟩ := g
  obtain ⟨hx, hb, hml, hown, hts, hK, hlk, hfr, hlo, hc, hs, hSt⟩ := C
  intro H locs ls hl hR
  exact va_tlen hx hb hSt.2 hR.2.2.1 rfl hd (k H locs ls hl hR)
theorem e_wld (C : Cx M g) {i : Int} (h0 : 0 ≤ i) (h1 : i < 14) (hd : decode M.2.1 pc = .ok (.laload, 1)) (k : Ev g (pc + 1) L (.inr (.inl (wrdT.getD i.toNat 0)) :: st) σ) : Ev g pc L (.inl i :: .inr (.inr (99, 1)) :: st) σ := by
  obtain ⟨⟨p, l, e, R⟩, ⟨s, m, args, below⟩, ⟨meth, c, cells, slots⟩, ⟨D, ca, ρ⟩, Q⟩ := g
  obtain ⟨hx, hb, hml, hown, hts, hK, hlk, hfr, hlo, hc, hs, hSt⟩ := C
  intro H locs ls hl hR
  refine va_tl hx hb hSt.2 hR.2.2.1 (r_in h0 h1 (by decide)) rfl hd ?_
  rw [r_clamp h0 (by omega)]
  exact k H locs ls hl hR
end RowsF
