/-! what a law looks at -/
def nou (q : Int → Bool) (pf : List Cd) : Prop := ∀ c ∈ pf, c.1 = 1 → q c.2 = false
def bnu (q : Int → Bool) (b : Br) : Prop := (b.1 = true → nou q b.2.1 ∧ nou q b.2.2.1) ∧ nou q b.2.2.2
theorem evs_cong {v v' : Int → Int} : ∀ (pf : List Cd) (s : List Int), (∀ c ∈ pf, c.1 = 1 → v c.2 = v' c.2) → evs v pf s = evs v' pf s
  | [], _, _ => rfl
  | c :: pf, s, h => by
    have ih := fun s => evs_cong (v := v) (v' := v') pf s (fun d hd => h d (List.mem_cons_of_mem _ hd))
    unfold evs
    by_cases c0 : c.1 = 0
    · rw [if_pos c0, if_pos c0, ih]
    rw [if_neg c0, if_neg c0]
    by_cases c1 : c.1 = 1
    · rw [if_pos c1, if_pos c1, ih, h c List.mem_cons_self c1]
    rw [if_neg c1, if_neg c1]
    match s with
    | [] => exact ih _
    | [b] => exact ih _
    | b :: a :: s' =>
      show (if c.1 = 5 ∧ b = 0 then none else evs v pf (opv c.1 a b :: s')) = (if c.1 = 5 ∧ b = 0 then none else evs v' pf (opv c.1 a b :: s'))
      rw [ih]
theorem phb_cong {v v' : Int → Int} {q : Int → Bool} (hv : ∀ j, q j = false → v j = v' j) : ∀ M : List Br, (∀ b ∈ M, bnu q b) → phb v M = phb v' M
  | [], _ => rfl
  | b :: M, h => by
    have hb := h b List.mem_cons_self
    have ih := phb_cong hv M (fun d hd => h d (List.mem_cons_of_mem _ hd))
    have e : ∀ pf, nou q pf → evl v pf = evl v' pf := fun pf hp => by unfold evl; rw [evs_cong pf [] (fun c hc c1 => hv _ (hp c hc c1))]
    unfold phb
    by_cases c : b.1 = true
    · obtain ⟨h1, h2⟩ := hb.1 c
      rw [if_pos c, if_pos c, e _ h1, e _ h2, e _ hb.2, ih]
    · rw [if_neg c, if_neg c, e _ hb.2]
def qSt (j : Int) : Bool := decide (j = 2 ∨ j = 3 ∨ j = 4)
def qWe (j : Int) : Bool := decide (j = 1)
theorem phi_steady {M : List Br} (h : ∀ b ∈ M, bnu qSt b) (n w a b m q : Int) : phi M n w a b m q = phi M n w 0 0 0 q := by
  refine phb_cong (q := qSt) (fun j hj => ?_) M h
  have hj : ¬ (j = 2 ∨ j = 3 ∨ j = 4) := of_decide_eq_false hj
  unfold vvs
  by_cases k0 : j = 0
  · rw [if_pos k0, if_pos k0]
  rw [if_neg k0, if_neg k0]
  by_cases k1 : j = 1
  · rw [if_pos k1, if_pos k1]
  rw [if_neg k1, if_neg k1, if_neg (by omega), if_neg (by omega), if_neg (by omega), if_neg (by omega), if_neg (by omega), if_neg (by omega)]
theorem phi_dry {M : List Br} (h : ∀ b ∈ M, bnu qWe b) (n w w' a b m q : Int) : phi M n w a b m q = phi M n w' a b m q := by
  refine phb_cong (q := qWe) (fun j hj => ?_) M h
  have hj : ¬ j = 1 := of_decide_eq_false hj
  unfold vvs
  rw [if_neg hj, if_neg hj]
def SWt (l : Cs) (l' : Cs) (pf : List Cd) : Prop := (l' 0 0 ≠ 0 → l 0 0 ≠ 0 ∧ nou qSt pf) ∧ (l' 1 0 = 0 → l 1 0 = 0 ∧ nou qWe pf)
theorem sw_fold : ∀ (pf : List Cd) (p : Cs × List Int), SWt p.1 (pf.foldl cgs p).1 pf
  | [], p => ⟨fun h => ⟨h, fun c hc => by cases hc⟩, fun h => ⟨h, fun c hc => by cases hc⟩⟩
  | c :: pf, p => by
    obtain ⟨i1, i2⟩ := sw_fold pf (cgs p c)
    have key : ((cgs p c).1 0 0 ≠ 0 → p.1 0 0 ≠ 0 ∧ (c.1 = 1 → qSt c.2 = false)) ∧ ((cgs p c).1 1 0 = 0 → p.1 1 0 = 0 ∧ (c.1 = 1 → qWe c.2 = false)) := by
      unfold cgs
      by_cases c0 : c.1 = 0
      · rw [if_pos c0]
        have e0 : useI p.1 c.2 0 0 = p.1 0 0 := by unfold useI; rw [cu_f (by decide), cu_f (by decide)]
        have e1 : useI p.1 c.2 1 0 = p.1 1 0 := by unfold useI; rw [cu_f (by decide), cu_f (by decide)]
        exact ⟨fun h => ⟨by rw [← e0]; exact h, fun z => by omega⟩, fun h => ⟨by rw [← e1]; exact h, fun z => by omega⟩⟩
      rw [if_neg c0]
      by_cases c1 : c.1 = 1
      · rw [if_pos c1]
        have e0 : useV p.1 c.2 0 0 = if p.1 0 0 ≠ 0 ∧ c.2 ≠ 2 ∧ c.2 ≠ 3 ∧ c.2 ≠ 4 then 1 else 0 := by unfold useV; rw [cu_f (by decide), cu_s]
        have e1 : useV p.1 c.2 1 0 = if p.1 1 0 ≠ 0 ∨ c.2 = 1 then 1 else 0 := by unfold useV; rw [cu_s]
        refine ⟨fun h => ?_, fun h => ?_⟩
        · have h : useV p.1 c.2 0 0 ≠ 0 := h
          rw [e0] at h
          have := if1_t h
          exact ⟨this.1, fun _ => decide_eq_false (by omega)⟩
        · have h : useV p.1 c.2 1 0 = 0 := h
          rw [e1] at h
          have := if1_f h
          exact ⟨by omega, fun _ => decide_eq_false (by omega)⟩
      rw [if_neg c1]
      obtain ⟨l1, U⟩ := p
      match U with
      | [] => exact ⟨fun h => ⟨h, fun z => absurd z c1⟩, fun h => ⟨h, fun z => absurd z c1⟩⟩
      | [b] => exact ⟨fun h => ⟨h, fun z => absurd z c1⟩, fun h => ⟨h, fun z => absurd z c1⟩⟩
      | b :: a :: U =>
        have e0 : addS l1 (c.1 - 2) a b 0 0 = l1 0 0 := by unfold addS; rw [cu_f (by decide), cu_f (by decide), cu_f (by decide), cu_f (by decide)]
        have e1 : addS l1 (c.1 - 2) a b 1 0 = l1 1 0 := by unfold addS; rw [cu_f (by decide), cu_f (by decide), cu_f (by decide), cu_f (by decide)]
        exact ⟨fun h => ⟨by show l1 0 0 ≠ 0; rw [← e0]; exact h, fun z => absurd z c1⟩, fun h => ⟨by show l1 1 0 = 0; rw [← e1]; exact h, fun z => absurd z c1⟩⟩
    refine ⟨fun h => ?_, fun h => ?_⟩
    · obtain ⟨a, b⟩ := i1 h
      obtain ⟨d, e⟩ := key.1 a
      refine ⟨d, fun x hx => ?_⟩
      rcases List.mem_cons.mp hx with rfl | hx
      · exact e
      · exact b x hx
    · obtain ⟨a, b⟩ := i2 h
      obtain ⟨d, e⟩ := key.2 a
      refine ⟨d, fun x hx => ?_⟩
      rcases List.mem_cons.mp hx with rfl | hx
      · exact e
      · exact b x hx
theorem sw_cg (l : Cs) (pf : List Cd) : SWt l (cg l pf).1 pf := sw_fold pf (l, [])
theorem addS_01 (l : Cs) (o a b : Int) : addS l o a b 0 0 = l 0 0 ∧ addS l o a b 1 0 = l 1 0 := by
  unfold addS
  exact ⟨by rw [cu_f (by decide), cu_f (by decide), cu_f (by decide), cu_f (by decide)], by rw [cu_f (by decide), cu_f (by decide), cu_f (by decide), cu_f (by decide)]⟩
theorem sw_br (l : Cs) (b : Br) : (cbr l b 0 0 ≠ 0 → l 0 0 ≠ 0 ∧ bnu qSt b) ∧ (cbr l b 1 0 = 0 → l 1 0 = 0 ∧ bnu qWe b) := by
  unfold cbr
  by_cases c : b.1 = true
  · rw [if_pos c, cu_f (by decide), cu_f (by decide)]
    unfold lf2 lf1
    rw [(addS_01 _ _ _ _).1, (addS_01 _ _ _ _).2]
    have s1 := sw_cg l b.2.1
    have s2 := sw_cg (cg l b.2.1).1 b.2.2.1
    have s3 := sw_cg (addS (cg (cg l b.2.1).1 b.2.2.1).1 4 (hdU (cg l b.2.1).2) (hdU (cg (cg l b.2.1).1 b.2.2.1).2)) b.2.2.2
    have e := addS_01 (cg (cg l b.2.1).1 b.2.2.1).1 4 (hdU (cg l b.2.1).2) (hdU (cg (cg l b.2.1).1 b.2.2.1).2)
    refine ⟨fun h => ?_, fun h => ?_⟩
    · obtain ⟨a1, a2⟩ := s3.1 h
      rw [e.1] at a1
      obtain ⟨b1, b2⟩ := s2.1 a1
      obtain ⟨d1, d2⟩ := s1.1 b1
      exact ⟨d1, fun _ => ⟨d2, b2⟩, a2⟩
    · obtain ⟨a1, a2⟩ := s3.2 h
      rw [e.2] at a1
      obtain ⟨b1, b2⟩ := s2.2 a1
      obtain ⟨d1, d2⟩ := s1.2 b1
      exact ⟨d1, fun _ => ⟨d2, b2⟩, a2⟩
  · rw [if_neg c]
    unfold lf2
    rw [(addS_01 _ _ _ _).1, (addS_01 _ _ _ _).2]
    have s1 := sw_cg l b.2.2.2
    exact ⟨fun h => ⟨(s1.1 h).1, fun z => absurd z c, (s1.1 h).2⟩, fun h => ⟨(s1.2 h).1, fun z => absurd z c, (s1.2 h).2⟩⟩
theorem sw_law {M : List Br} (l : Cs) : (lawOf l M 0 0 ≠ 0 → ∀ b ∈ M, bnu qSt b) ∧ (lawOf l M 1 0 = 0 → ∀ b ∈ M, bnu qWe b) := by
  have key : ∀ (N : List Br) (k : Cs), ((N.foldl cbr k) 0 0 ≠ 0 → k 0 0 ≠ 0 ∧ ∀ b ∈ N, bnu qSt b) ∧ ((N.foldl cbr k) 1 0 = 0 → k 1 0 = 0 ∧ ∀ b ∈ N, bnu qWe b) := by
    intro N
    induction N with
    | nil => exact fun k => ⟨fun h => ⟨h, fun b hb => by cases hb⟩, fun h => ⟨h, fun b hb => by cases hb⟩⟩
    | cons d N ih =>
      intro k
      obtain ⟨i1, i2⟩ := ih (cbr k d)
      obtain ⟨s1, s2⟩ := sw_br k d
      refine ⟨fun h => ?_, fun h => ?_⟩
      · obtain ⟨a, b⟩ := i1 h
        obtain ⟨e, f⟩ := s1 a
        refine ⟨e, fun x hx => ?_⟩
        rcases List.mem_cons.mp hx with rfl | hx
        · exact f
        · exact b x hx
      · obtain ⟨a, b⟩ := i2 h
        obtain ⟨e, f⟩ := s2 a
        refine ⟨e, fun x hx => ?_⟩
        rcases List.mem_cons.mp hx with rfl | hx
        · exact f
        · exact b x hx
  obtain ⟨k1, k2⟩ := key M (clr l)
  exact ⟨fun h => (k1 h).2, fun h => (k2 h).2⟩
/-- a law's copy -/
def LCp (l L : Cs) : Prop := L 7 0 = l 7 0 ∧ L 8 0 = l 8 0 ∧ (∀ f i, 2 ≤ f → f ≤ 5 → 0 ≤ i → i < l 7 0 → L f i = l f i) ∧ ∀ k, 6 ≤ k → k < 6 + l 8 0 → L 6 k = l 6 k
theorem LCp.rf (l : Cs) : LCp l l := ⟨rfl, rfl, fun _ _ _ _ _ _ => rfl, fun _ _ _ => rfl⟩
theorem law_cp {l0 L : Cs} {M : List Br} (hb : ∀ b ∈ M, brk b) (h7 : lawOf l0 M 7 0 ≤ 400) (h8 : lawOf l0 M 8 0 ≤ 400) (hL : LCp (lawOf l0 M) L) : LawIs L (phi M) := by
  have c7 : clr l0 7 0 = 0 := by unfold clr; rw [cu_f (by decide), cu_f (by decide), cu_f (by decide), cu_s]
  have c8 : clr l0 8 0 = 0 := by unfold clr; rw [cu_f (by decide), cu_f (by decide), cu_s]
  obtain ⟨p1, p2, p3, p4⟩ := hL
  have hE : ExL (lawOf l0 M) L := ⟨⟨by omega, fun i a b => ⟨p3 2 i (by decide) (by decide) a b, p3 3 i (by decide) (by decide) a b, p3 4 i (by decide) (by decide) a b⟩, by omega, fun k a b => p4 k a b⟩, fun i a b => p3 5 i (by decide) (by decide) a b⟩
  obtain ⟨q1, q2, q3⟩ := (law_is hb h7 h8).1
  refine ⟨⟨by omega, by omega, fun i i0 i1 => ?_⟩, fun a ha => ?_⟩
  · rw [p3 3 i (by decide) (by decide) i0 (by omega), p3 4 i (by decide) (by decide) i0 (by omega)]
    exact q3 i i0 (by omega)
  · have := run_law (L := L) (v := vvs (a 0) (a 1) (a 2) (a 3) (a 4) (a 5)) (by omega) (by omega) M (clr l0) a hE p1.symm (by omega) (by omega) ha (fun j j0 j1 => by
      have : j = 0 ∨ j = 1 ∨ j = 2 ∨ j = 3 ∨ j = 4 ∨ j = 5 := by omega
      rcases this with rfl | rfl | rfl | rfl | rfl | rfl <;> rfl) hb
    rw [c7] at this
    exact this
/-- a law and what it tells -/
def LwI (l : Cs) (M : List Br) : Prop := ((0 ≤ l 7 0 ∧ l 7 0 ≤ 400) ∧ (0 ≤ l 8 0 ∧ l 8 0 ≤ 400) ∧ ∀ L, LCp l L → LawIs L (phi M)) ∧ (l 0 0 ≠ 0 → ∀ n w a b m q, phi M n w a b m q = phi M n w 0 0 0 q) ∧ (l 1 0 = 0 → ∀ n w w' a b m q, phi M n w a b m q = phi M n w' a b m q)
def brD : Br := (false, [], [], [(1, 0)])
theorem phi_D (n w a b m q : Int) : phi [brD] n w a b m q = n := rfl
theorem LwI.is {l : Cs} {M : List Br} (h : LwI l M) : LawIs l (phi M) := h.1.2.2 l (LCp.rf l)
theorem LwI_0 (l : Cs) : LwI (addS (clr l) 5 0 0) [brD] := by
  have c7 : clr l 7 0 = 0 := by unfold clr; rw [cu_f (by decide), cu_f (by decide), cu_f (by decide), cu_s]
  have e := addS_78 (clr l) 5 0 0
  have e2 : ∀ f, f = 2 ∨ f = 3 ∨ f = 4 → addS (clr l) 5 0 0 f 0 = if f = 2 then 5 else 0 := fun f hf => by
    unfold addS
    rw [c7]
    rcases hf with rfl | rfl | rfl <;> simp [cu_if]
  have c8 : clr l 8 0 = 0 := by unfold clr; rw [cu_f (by decide), cu_f (by decide), cu_s]
  refine ⟨⟨by omega, by omega, fun L hL => ⟨⟨by have := hL.1; omega, by have := hL.1; omega, fun i i0 i1 => ?_⟩, fun a _ => ?_⟩⟩, fun _ _ _ _ _ _ _ => rfl, fun _ _ _ _ _ _ _ _ => rfl⟩
  · have hi : i = 0 := by have := hL.1; omega
    subst hi
    rw [hL.2.2.1 3 0 (by decide) (by decide) (by decide) (by omega), hL.2.2.1 4 0 (by decide) (by decide) (by decide) (by omega), e2 3 (by decide), e2 4 (by decide), if_neg (by decide), if_neg (by decide)]
    omega
  · unfold lrun
    rw [if_neg (by have := hL.1; omega), hL.2.2.1 2 0 (by decide) (by decide) (by decide) (by omega), hL.2.2.1 3 0 (by decide) (by decide) (by decide) (by omega), e2 2 (by decide), e2 3 (by decide), if_pos rfl, if_neg (by decide), if_neg (by decide), if_neg (by decide), if_neg (by decide), if_neg (by decide), if_neg (by decide), phi_D]
theorem LC_law {l : Cs} {t t' : Int} : ∀ (M : List Br) (k : Cs), LC k t → (∀ b ∈ M, b.1 = true ∧ brk b) → (M.map brn).sum + 4 * M.length + t ≤ t' → t' ≤ 400 → LC (M.foldl cbr k) t'
  | [], k, h, _, hn, _ => h.mono (by have hn : (0 : Int) + 4 * ((0 : Nat) : Int) + t ≤ t' := hn; omega)
  | b :: M, k, h, hb, hn, ht => by
    have hn : (brn b + (M.map brn).sum) + 4 * ((M.length + 1 : Nat) : Int) + t ≤ t' := hn
    have eb : brn b = (b.2.1.length : Int) + b.2.2.1.length + b.2.2.2.length := rfl
    have hs : 0 ≤ (M.map brn).sum := by
      have : ∀ N : List Br, 0 ≤ (N.map brn).sum := by
        intro N
        induction N with
        | nil => exact Int.le_refl _
        | cons d N ih =>
          have ed : brn d = (d.2.1.length : Int) + d.2.2.1.length + d.2.2.2.length := rfl
          show 0 ≤ brn d + (N.map brn).sum
          omega
      exact this M
    have hbb := hb b List.mem_cons_self
    have h1 := h.br (b := b) (t' := t + brn b + 4) hbb.1 ⟨(hbb.2.1 hbb.1).2.2.1, (hbb.2.1 hbb.1).2.2.2, hbb.2.2.2⟩ (by omega) (by omega)
    exact LC_law (l := l) (t := t + brn b + 4) M (cbr k b) h1 (fun d hd => hb d (List.mem_cons_of_mem _ hd)) (by omega) ht
theorem LwI_flow {T : Tab} {l : Cs} {t t' : Int} {M' : List Br} (hT : TF T) (h0 : 0 ≤ t ∧ t ≤ 400) (e : zFlow T t = .inr (t', M')) : LwI (lawOf l M') M' := by
  obtain ⟨a1, a2, a3, M, pf, rfl, a5, a6, a7, a8, a9⟩ := zFlow_ok hT h0 e
  have c7 : clr l 7 0 = 0 := by unfold clr; rw [cu_f (by decide), cu_f (by decide), cu_f (by decide), cu_s]
  have c8 : clr l 8 0 = 0 := by unfold clr; rw [cu_f (by decide), cu_f (by decide), cu_s]
  have h1 : LC (lawOf l M) (t' - pf.length - 1) := LC_law (l := l) (t := t + 2) M (clr l) ⟨by omega, by omega⟩ a6 (by omega) (by omega)
  obtain ⟨h2, _, _⟩ := h1.cg (pf := pf) (t' := t' - 1) (by omega) a8 (by omega)
  have e1 : lawOf l (M ++ [(false, [], [], pf)]) = lf2 (lawOf l M) pf := by rw [lawOf_app]; unfold cbr; rw [if_neg (by show ¬ false = true; decide)]
  have k := lf2_78 (l := lawOf l M) (d := pf)
  have hb : ∀ b ∈ M ++ [(false, [], [], pf)], brk b := fun b hb => by
    rcases List.mem_append.mp hb with hb | hb
    · exact (a6 b hb).2
    · rw [List.mem_singleton.mp hb]; exact ⟨fun z => (by cases z), a7, a8⟩
  refine ⟨⟨by rw [e1]; have := h2.1; omega, by rw [e1]; have := h2.2; omega, fun L hL => law_cp hb (by rw [e1]; have := h2.1; omega) (by rw [e1]; have := h2.2; omega) hL⟩, fun h => ?_, fun h => ?_⟩
  · exact phi_steady ((sw_law l).1 h)
  · exact phi_dry ((sw_law l).2 h)
theorem zTell_L {T : Tab} {z z' : Zs} (hT : TF T) (h0 : 0 ≤ zt z ∧ zt z ≤ 400) (h : LwI (zl z) (zb z)) (e : zTell T z = .inr z') : LwI (zl z') (zb z') := by
  obtain ⟨t, x, P, l, c, L⟩ := z
  rw [zTell_e] at e
  by_cases k1 : T.1 t = 137
  · rw [if_pos k1] at e
    obtain ⟨q, e1, e⟩ := bnd_i e
    cases e
    exact h
  rw [if_neg k1] at e
  by_cases k2 : T.1 t = 138
  · rw [if_pos k2] at e
    obtain ⟨q, e1, e⟩ := bnd_i e
    cases e
    exact h
  rw [if_neg k2] at e
  by_cases k3 : T.1 t = 140
  · rw [if_pos k3] at e
    obtain ⟨q, e1, e⟩ := bnd_i e
    cases e
    exact LwI_flow hT h0 (show zFlow T t = .inr (q.1, q.2) from e1)
  rw [if_neg k3] at e
  by_cases k4 : T.1 t = 144
  · rw [if_pos k4] at e
    obtain ⟨q, e1, e⟩ := bnd_i e
    cases e
    exact h
  rw [if_neg k4] at e
  by_cases k5 : T.1 t = 145
  · rw [if_pos k5] at e
    obtain ⟨q, e1, e⟩ := bnd_i e
    cases e
    exact h
  rw [if_neg k5] at e
  cases e
