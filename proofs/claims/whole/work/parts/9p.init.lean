/-! both sides together: how they begin, how they go on -/
def JV (n : Int) (σ : St) : Prop := ∃ S, PI S n ∧ IVc S n σ ∧ IVm S (σ 1)
theorem IVc.m1 {S : SS} {n : Int} {u : St} {m' : Cs} (h : IVc S n u) : IVc S n (so u 1 m') := by
  have e : ∀ o, o ≠ 1 → so u 1 m' o = u o := fun o a => so_ne a
  unfold IVc HI KI RdI at h ⊢
  rw [e 7 (by decide), e 8 (by decide), e 18 (by decide), e 17 (by decide), e 9 (by decide), e 0 (by decide), e 11 (by decide), e 12 (by decide), e 13 (by decide), e 2 (by decide), e 4 (by decide), e 16 (by decide)]
  obtain ⟨a1, a2, ⟨a3, a4, a5⟩, a6, a7⟩ := h
  refine ⟨a1, a2, ⟨a3, a4, fun j a b => ?_⟩, fun s a b => ?_, a7⟩
  · rw [e _ (by omega)]; exact a5 j a b
  · rw [e _ (by omega)]; exact a6 s a b
theorem JV_nx {S' : SS} {n : Int} {σ u w : St} (hP : PI S' (n + 1)) (hc : PC S' n σ u) (hm : ∃ m', w = so u 1 m' ∧ IVm S' m') : JV (n + 1) w := by
  obtain ⟨m', rfl, h⟩ := hm
  exact ⟨S', hP, hc.2.m1, by rw [so_at]; exact h⟩
theorem at1 {M : Md} {as : List V} {P : Int → St → Prop} {u σ : St} (h : u 1 = σ 1) (k : CtI M as (so u 1 (σ 1)) P) : CtI M as u P := by
  rw [← h, so_id] at k
  exact k
/-- a castle that is new -/
def Zr (c : Cs) : Prop := RdC c ∧ c 11 0 = 0 ∧ ∀ p, 0 ≤ p → p < 8 → c 2 p = -2
def y00 : Cs := fun _ _ => 0
def yZ : Cs := fun f _ => if f = 2 then -2 else 0
theorem PO_0 {P c : Cs} (h3 : P 3 0 = 0) (h4 : P 4 0 = 0) (hz : Zr c) : PO P c := by
  unfold PO PW
  rw [h3, h4, hz.2.1]
  exact ⟨fun f p _ a b => by omega, ⟨by omega, fun k a b => by omega, fun j k a b d => by omega, fun p a b => by omega, fun g a b => by omega⟩, fun j k a b d => by omega⟩
theorem bgn_0 {P : Cs} (h3 : P 3 0 = 0) (h4 : P 4 0 = 0) (A Bl W T : Int → Int) : bgn P A Bl W T = yZ := by
  unfold bgn
  rw [h4]
  show bg0 P A Bl W = yZ
  funext f p
  unfold bg0 yZ
  rw [h3, if_neg (show ¬ (0 ≤ p ∧ p < 0) by omega), if_neg (show ¬ (0 ≤ p ∧ p < 0) by omega), if_neg (show ¬ (0 ≤ p ∧ p < 0 ∧ 0 ≤ W p) by omega)]
  by_cases f0 : f = 0
  · rw [if_pos f0, if_neg (by omega)]
  · rw [if_neg f0]
    by_cases f1 : f = 1
    · rw [if_pos f1, if_neg (by omega)]
    · rw [if_neg f1]
section INI
variable {P c : Cs}
theorem sim_00 (h3 : P 3 0 = 0) (h4 : P 4 0 = 0) (hz : Zr c) : SIM P c y00 := by
  refine ⟨⟨fun f p _ a b => by omega, fun f k _ _ a b => by omega, fun k a b => ?_, hz.2.1.symm, hz.1.2.2.1.symm⟩, (PO_0 h3 h4 hz).2.1⟩
  have := hz.2.1
  omega
theorem cb_0 (h3 : P 3 0 = 0) (h4 : P 4 0 = 0) (hz : Zr c) : CK (20000 * 0) c := yN_ck (P := P) (by omega) (by omega) hz.1 (PO_0 h3 h4 hz) (fun p a b => hz.2.2 p (by omega) b) (by omega)
theorem cy_00 (h3 : P 3 0 = 0) (h4 : P 4 0 = 0) (hz : Zr c) : CYp P 0 y00 := ⟨⟨c, sim_00 h3 h4 hz, cb_0 h3 h4 hz⟩, fun p a b => by omega, fun k a b => by omega, fun p _ _ => ⟨rfl, rfl⟩⟩
theorem sim_Z (h3 : P 3 0 = 0) (h4 : P 4 0 = 0) (hz : Zr c) : SIM P c yZ := by
  have := yN_sim (P := P) (c := c) (by omega) (by omega) hz.1 (PO_0 h3 h4 hz)
  unfold yN at this
  rw [bgn_0 h3 h4] at this
  exact this
theorem cy_Z (h3 : P 3 0 = 0) (h4 : P 4 0 = 0) (hz : Zr c) : CYp P 0 yZ := by
  have := yN_cy (P := P) (c := c) (n := 0) (by omega) (by omega) hz.1 (PO_0 h3 h4 hz) (fun p a b => hz.2.2 p (by omega) b) (by omega)
  unfold yN at this
  rw [bgn_0 h3 h4] at this
  exact this
end INI
def S00 (σ : St) : SS := ((fun _ _ _ _ _ _ => 0), σ 7, (y00, yZ), ((fun _ => y00), 0), ((fun _ => 0), fun _ => y00), (0, σ 13 4, σ 13 5), (σ 2 0, 0), -1)
/-- how the class's objects begin -/
def C00 (σ : St) : Prop := (σ 7 3 0 = 0 ∧ σ 7 4 0 = 0 ∧ σ 7 5 0 = 0 ∧ σ 7 6 0 = 60 ∧ σ 7 1 0 = 0) ∧ (σ 8 7 0 = 0 ∧ σ 8 0 0 = 0) ∧ (Zr (σ 17) ∧ Zr (σ 18)) ∧ (σ 9 0 0 = 0 ∧ σ 9 2 0 = 0) ∧ ((∀ s, 0 ≤ s → s < 3 → σ 0 7 s = 0) ∧ σ 0 12 0 = -1) ∧ (σ 11 6 0 = 0 ∧ σ 11 7 0 = 0 ∧ σ 11 8 0 = 0) ∧ σ 12 2 0 = 0 ∧ (σ 13 2 0 = 0 ∧ σ 13 7 0 = 0) ∧ σ 2 1 0 = 0 ∧ σ 4 1 0 = 0 ∧ RdC (σ 16)
/-- how the reference begins -/
def M00 (m : Cs) : Prop := m 18 0 = 0 ∧ m 24 0 = 0 ∧ m 29 0 = 0 ∧ m 31 0 = 0 ∧ m 33 0 = 60 ∧ KY m ∧ (∀ k, 0 ≤ k → k < 100 → m 50 k = 0) ∧ m 52 0 = 0 ∧ (∀ s, 0 ≤ s → s < 3 → m 59 s = 0) ∧ m 55 0 = 0 ∧ m 2 0 = 0 ∧ m 17 0 = -1
theorem plan_00 {σ : St} (h : C00 σ) : PlanOk (σ 7) (σ 8) (fun _ _ _ _ _ _ => 0) := by
  obtain ⟨⟨a1, a2, a3, a4, a5⟩, ⟨a6, a7⟩, _⟩ := h
  refine ⟨by omega, by omega, by omega, by omega, a5, ⟨⟨by omega, by omega, fun i a b => by omega⟩, fun a _ => ?_⟩, fun w => absurd a7 w⟩
  unfold lrun
  rw [if_pos (by omega)]
theorem JV_0 {σ : St} (h : C00 σ) (hm : M00 (σ 1)) : JV 0 σ := by
  have hpl := plan_00 h
  obtain ⟨⟨a1, a2, a3, a4, a5⟩, ⟨a6, a7⟩, ⟨a8, a9⟩, ⟨a10, a11⟩, ⟨a12, a13⟩, ⟨a14, a15, a16⟩, a17, ⟨a18, a19⟩, a20, a21, a22⟩ := h
  obtain ⟨m1, m2, m3, m4, m5, m6, m7, m8, m9, m10, m11, m12⟩ := hm
  refine ⟨S00 σ, ⟨by omega, ⟨σ 8, hpl⟩, cy_00 a1 a2 a9, cy_Z a1 a2 a8, ⟨by show (0 : Int) ≤ 0; omega, by show (0 : Int) ≤ 40; omega⟩, fun j a b => ?_, fun s a b => ⟨Or.inl rfl, fun w => absurd rfl w⟩, ⟨by show (0 : Int) ≤ 0; omega, by show (0 : Int) ≤ 20; omega⟩, fun i a b => ?_, ⟨by show (0 : Int) ≤ 0; omega, by show (0 : Int) ≤ 2000; omega⟩, fun _ => Or.inl ?_⟩, ⟨⟨rfl, hpl⟩, ⟨⟨sim_00 a1 a2 a9, cb_0 a1 a2 a9⟩, ⟨sim_Z a1 a2 a8, cb_0 a1 a2 a8⟩⟩, ⟨a10, by omega, fun j a b => ?_⟩, fun s a b => ⟨a12 s a b, fun w => absurd rfl w⟩, no_DI _ a14 a15 a16, fun w => absurd a17 w, ⟨a18, rfl, rfl, fun w => absurd a19 w⟩, ⟨a20, fun i a b => ?_⟩, a13, ⟨a21, a22⟩⟩, ⟨⟨⟨by omega, ?_, ?_, ?_⟩, fun τ m' y R p _ _ p0 p1 => ?_, ?_, ?_⟩, ?_, ⟨m8, fun j a b => ?_⟩, fun s a b => ⟨m9 s a b, fun w => absurd rfl w⟩, ⟨m10, fun i a b => ?_⟩, ⟨m11, fun i a b => ?_⟩, m12⟩⟩
  · have b : j < 0 := b
    omega
  · have b : i < 0 := b
    omega
  · show σ 7 5 0 ≤ 0; omega
  · have b : j < 0 := b
    omega
  · have b : i < 0 := b
    omega
  · show σ 1 24 (σ 1 18 0) = σ 7 3 0; rw [m1, m2, a1]
  · show σ 1 29 (σ 1 18 0) = σ 7 4 0; rw [m1, m3, a2]
  · show σ 1 33 (σ 1 18 0) = σ 7 6 0; rw [m1, m5, a4]
  · have p1 : p < σ 7 3 0 := p1
    omega
  · show σ 1 31 (σ 1 18 0) = σ 7 5 0; rw [m1, m4, a3]
  · refine ⟨fun _ => 0, fun _ => 0, fun _ => 0, fun _ => 0, fun p p0 p1 => ?_, fun g g0 g1 => ?_, (bgn_0 a1 a2 _ _ _ _).symm, m6⟩
    · have p1 : p < σ 7 3 0 := p1
      omega
    · have g1 : g < σ 7 4 0 := g1
      omega
  · show RY (σ 1 50) y00
    refine ⟨fun p a b => ?_, fun k a b => ?_, ?_, ?_⟩
    · rw [m7 p a (by omega), m7 (8 + p) (by omega) (by omega), m7 (16 + p) (by omega) (by omega), m7 (24 + p) (by omega) (by omega), m7 (32 + p) (by omega) (by omega), m7 (40 + p) (by omega) (by omega)]
      exact ⟨rfl, rfl, rfl, rfl, rfl, rfl⟩
    · rw [m7 (48 + k) (by omega) (by omega), m7 (60 + k) (by omega) (by omega), m7 (72 + k) (by omega) (by omega), m7 (84 + k) (by omega) (by omega)]
      exact ⟨rfl, rfl, rfl, rfl⟩
    · rw [m7 96 (by omega) (by omega)]; rfl
    · rw [m7 97 (by omega) (by omega)]; rfl
  · have b : j < 0 := b
    omega
  · have b : i < 0 := b
    omega
  · have b : i < 0 := b
    omega
