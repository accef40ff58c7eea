/-! necks and branches of what is told -/
def ZK (z : Zs) : Prop := (∀ p, 0 ≤ p → p < zp z 3 0 → 0 ≤ zp z 0 p) ∧ ∀ b ∈ zb z, brk b
theorem zTell_K {T : Tab} {z z' : Zs} (hT : TF T) (h0 : 0 ≤ zt z ∧ zt z ≤ 400) (h : ZK z) (e : zTell T z = .inr z') : ZK z' := by
  obtain ⟨t, x, P, l, c, L⟩ := z
  obtain ⟨h1, h2⟩ := h
  have h1 : ∀ p, 0 ≤ p → p < P 3 0 → 0 ≤ P 0 p := h1
  have h2 : ∀ b ∈ L, brk b := h2
  have h0 : 0 ≤ t ∧ t ≤ 400 := h0
  rw [zTell_e] at e
  by_cases k1 : T.1 t = 137
  · rw [if_pos k1] at e
    obtain ⟨q, e1, e⟩ := bnd_i e
    cases e
    obtain ⟨a1, a2, a3, a4, a5, a6, a7, x3, x4, a8, a9, a10, a11, a12, a13⟩ := zPost_i e1
    refine ⟨fun p p0 p1 => ?_, h2⟩
    have p1 : p < q.2.2.1 3 0 := p1
    rw [a12, cu_f (by decide), cu_s] at p1
    show 0 ≤ q.2.2.1 0 p
    rw [a12, cu_if]
    split
    · exact (hT.2.2.2.1 _ a5).1
    · rename_i w
      rw [cu_f (by decide)]
      exact h1 p p0 (by
        have : p ≠ P 3 0 := fun z => w ⟨rfl, z⟩
        omega)
  rw [if_neg k1] at e
  by_cases k2 : T.1 t = 138
  · rw [if_pos k2] at e
    obtain ⟨q, e1, e⟩ := bnd_i e
    cases e
    obtain ⟨a1, a2, a3, a4⟩ := zGuard_i e1
    refine ⟨fun p p0 p1 => ?_, h2⟩
    have p1 : p < q.2.2.1 3 0 := p1
    rw [a3, cu_f (by decide)] at p1
    show 0 ≤ q.2.2.1 0 p
    rw [a3, cu_f (by decide)]
    exact h1 p p0 p1
  rw [if_neg k2] at e
  by_cases k3 : T.1 t = 140
  · rw [if_pos k3] at e
    obtain ⟨q, e1, e⟩ := bnd_i e
    cases e
    obtain ⟨a1, a2, a3, M, pf, a4, a5, a6, a7, a8, a9⟩ := zFlow_ok hT h0 (show zFlow T t = .inr (q.1, q.2) from e1)
    refine ⟨h1, fun b hb => ?_⟩
    have hb : b ∈ q.2 := hb
    rw [a4] at hb
    rcases List.mem_append.mp hb with hb | hb
    · exact (a6 b hb).2
    · rw [List.mem_singleton.mp hb]; exact ⟨fun z => (by cases z), a7, a8⟩
  rw [if_neg k3] at e
  by_cases k4 : T.1 t = 144
  · rw [if_pos k4] at e
    obtain ⟨q, e1, e⟩ := bnd_i e
    cases e
    unfold zDamp at e1
    obtain ⟨t1, e0, e1⟩ := bnd_i e1
    obtain ⟨i', t', g1, g2, g3, ⟨g4, g5⟩, _, _, _⟩ := zD_ind (T := T) (R := fun i s y Q => Q 3 0 = P 3 0 ∧ Q 0 = P 0) (fun i s y Q y' hR hi hk hs hp => ⟨by rw [cu_f (by decide), cu_f (by decide)]; exact hR.1, by rw [cf_f (by decide), cf_f (by decide)]; exact hR.2⟩) 25 0 t1 x (cu P 5 0 0) q (by omega) (by omega) (by omega) ⟨cu_f (by decide), cf_f (by decide)⟩ e1
    refine ⟨fun p p0 p1 => ?_, h2⟩
    have p1 : p < q.2.2 3 0 := p1
    show 0 ≤ q.2.2 0 p
    rw [g5]
    exact h1 p p0 (by omega)
  rw [if_neg k4] at e
  by_cases k5 : T.1 t = 145
  · rw [if_pos k5] at e
    obtain ⟨q, e1, e⟩ := bnd_i e
    cases e
    obtain ⟨a1, a2, a3, a4, a5, a6⟩ := zSleep_i e1
    refine ⟨fun p p0 p1 => ?_, h2⟩
    have p1 : p < q.2.2 3 0 := p1
    rw [a6, cu_f (by decide)] at p1
    show 0 ≤ q.2.2 0 p
    rw [a6, cu_f (by decide)]
    exact h1 p p0 p1
  rw [if_neg k5] at e
  cases e
theorem zTells_K {T : Tab} (hT : TF T) : ∀ (n : Nat) (z z' : Zs), ZJ T z → ZK z → zTells T n z = .inr z' → ZK z'
  | 0, z, z', _, h, e => by unfold zTells at e; cases e; exact h
  | n + 1, z, z', hJ, h, e => by
    unfold zTells at e
    by_cases c : T.1 (zt z) = 128
    · rw [if_pos c] at e; cases e; exact h
    · rw [if_neg c] at e
      obtain ⟨z1, e1, e2⟩ := bnd_i e
      exact zTells_K hT n z1 z' (zTell_J hT hJ e1).1 (zTell_K hT hJ.1 h e1) e2
theorem zN_K (X P l c : Cs) : ZK (zN X P l c) := by
  refine ⟨fun p a b => ?_, fun b hb => ?_⟩
  · have b : p < plN P 3 0 := b
    have e3 : plN P 3 0 = 0 := by unfold plN; rw [cu_f (by decide), cu_f (by decide), cu_f (by decide), cu_s]
    omega
  · have hb : b ∈ [brD] := hb
    rw [List.mem_singleton.mp hb]
    refine ⟨fun z => (by cases z), rfl, fun c hc => ?_⟩
    have hc : c ∈ [((1 : Int), (0 : Int))] := hc
    rw [List.mem_singleton.mp hc]
    exact Or.inr (Or.inl ⟨rfl, by decide, by decide⟩)
