/-! quiet minutes at once are as many minutes one by one -/
def mits (φ : Phi) (P : Cs) : Nat → Cs → Cs
  | 0, y => y
  | n + 1, y => mits φ P n (mmin φ P y)
theorem mits_S (φ : Phi) (P : Cs) : ∀ (n : Nat) (y : Cs), mits φ P (n + 1) y = mmin φ P (mits φ P n y)
  | 0, _ => rfl
  | n + 1, y => mits_S φ P n (mmin φ P y)
theorem mits_add (φ : Phi) (P : Cs) : ∀ (n m : Nat) (y : Cs), mits φ P (n + m) y = mits φ P m (mits φ P n y)
  | 0, m, y => by rw [Nat.zero_add]; rfl
  | n + 1, m, y => by rw [show n + 1 + m = (n + m) + 1 by omega]; exact mits_add φ P n m (mmin φ P y)
def sd (c : Cs) (fl : Int → Int) (i j : Int) : Cs := fun f p => if f = 0 ∧ 0 ≤ p ∧ p < i then c 0 p - min (fl p * j) (c 0 p) else if f = 1 ∧ 0 ≤ p ∧ p < i then c 1 p + min (fl p * j) (c 0 p) else c f p
theorem sd_f {c : Cs} {fl : Int → Int} {i j k : Int} {f : Nat} (h0 : f ≠ 0) (h1 : f ≠ 1) : sd c fl i j f k = c f k := by
  unfold sd
  rw [if_neg (fun z => h0 z.1), if_neg (fun z => h1 z.1)]
theorem sd_0 {c : Cs} {fl : Int → Int} {i j k : Int} (h : 0 ≤ k ∧ k < i) : sd c fl i j 0 k = c 0 k - min (fl k * j) (c 0 k) := by
  unfold sd
  rw [if_pos ⟨rfl, h⟩]
theorem sd_1 {c : Cs} {fl : Int → Int} {i j k : Int} (h : 0 ≤ k ∧ k < i) : sd c fl i j 1 k = c 1 k + min (fl k * j) (c 0 k) := by
  unfold sd
  rw [if_neg (fun z => by cases z.1), if_pos ⟨rfl, h⟩]
theorem sd_step {c : Cs} {fl : Int → Int} {N i m : Int} (hi : 0 ≤ i ∧ i < N) (h0 : 0 ≤ c 0 i) (hfl : 0 ≤ fl i) : sstep m i (c_fl (sd c fl i m) N fl) = c_fl (sd c fl (i + 1) m) N fl := by
  have e14 : c_fl (sd c fl i m) N fl 14 i = fl i := c_fl_at hi
  have e0 : c_fl (sd c fl i m) N fl 0 i = c 0 i := by rw [c_fl_f (by decide)]; unfold sd; rw [if_neg (by omega), if_neg (by omega)]
  have e1 : c_fl (sd c fl i m) N fl 1 i = c 1 i := by rw [c_fl_f (by decide)]; unfold sd; rw [if_neg (by omega), if_neg (by omega)]
  funext f k
  have key : ∀ s : Int, s = min (fl i * m) (c 0 i) → cu (cu (c_fl (sd c fl i m) N fl) 0 i (c 0 i - s)) 1 i (c 1 i + s) f k = c_fl (sd c fl (i + 1) m) N fl f k := by
    intro s hs
    rw [cu_if, cu_if]
    by_cases z14 : f = 14
    · subst z14
      rw [if_neg (by omega), if_neg (by omega)]
      unfold c_fl
      simp only [sd_f, ne_eq, Nat.reduceEqDiff, not_false_eq_true]
    · rw [c_fl_f z14, c_fl_f z14]
      unfold sd
      by_cases z1 : f = 1 ∧ k = i
      · rw [if_pos z1, if_neg (by omega), if_pos ⟨z1.1, by omega, by omega⟩, z1.2, hs]
      · rw [if_neg z1]
        by_cases z0 : f = 0 ∧ k = i
        · rw [if_pos z0, if_pos ⟨z0.1, by omega, by omega⟩, z0.2, hs]
        · rw [if_neg z0]
          by_cases e : k = i
          · subst e
            rw [if_neg (by omega), if_neg (by omega), if_neg (by omega), if_neg (by omega)]
          · have e2 : (k < i + 1) ↔ (k < i) := by omega
            simp only [e2]
  unfold sstep
  rw [e14]
  split
  · unfold c_down
    rw [e0, e1]
    exact key _ rfl
  · have : fl i = 0 := by omega
    have k0 := key 0 (by rw [this]; omega)
    rw [← k0, cu_if, cu_if]
    by_cases z1 : f = 1 ∧ k = i
    · rw [if_pos z1, z1.1, z1.2, e1]; omega
    · rw [if_neg z1]
      by_cases z0 : f = 0 ∧ k = i
      · rw [if_pos z0, z0.1, z0.2, e0]; omega
      · rw [if_neg z0]
theorem sand_sd {c : Cs} {fl : Int → Int} {N m : Int} (h0 : ∀ p, 0 ≤ p → p < N → 0 ≤ c 0 p ∧ 0 ≤ fl p) : ∀ (n : Nat) (i : Int), 0 ≤ i → i + n = N → itr (sstep m) n i (c_fl (sd c fl i m) N fl) = c_fl (sd c fl N m) N fl
  | 0, i, hi, h1 => by rw [show i = N by omega]; rfl
  | n + 1, i, hi, h1 => by
    rw [itr_S, sd_step (by omega) (h0 i hi (by omega)).1 (h0 i hi (by omega)).2]
    exact sand_sd h0 n (i + 1) (by omega) (by omega)
theorem sd_z (c : Cs) (fl : Int → Int) (j : Int) : sd c fl 0 j = c := by
  funext f k
  unfold sd
  rw [if_neg (by omega), if_neg (by omega)]
theorem fls_cong {φ : Phi} {P y y' : Cs} {p : Int} (h0 : y' 0 p = y 0 p) (h1 : y' 1 p = y 1 p) (h3 : y' 3 p = y 3 p) (h12 : y' 12 0 = y 12 0) : c_fls φ P y' p = c_fls φ P y p := by
  unfold c_fls flw pl_damp
  rw [h0, h1, h3, h12]
theorem mrun_all (φ : Phi) (P : Cs) : ∀ (n : Nat) (i : Int) (y : Cs), (∀ f, f ≠ 0 → f ≠ 1 → itr (mrun φ P) n i y f = y f) ∧ (∀ p, i ≤ p → p < i + n → itr (mrun φ P) n i y 0 p = y 0 p - c_fls φ P y p ∧ itr (mrun φ P) n i y 1 p = y 1 p + c_fls φ P y p) ∧ (∀ p, p < i ∨ i + n ≤ p → itr (mrun φ P) n i y 0 p = y 0 p ∧ itr (mrun φ P) n i y 1 p = y 1 p)
  | 0, i, y => ⟨fun _ _ _ => rfl, fun p a b => by omega, fun _ _ => ⟨rfl, rfl⟩⟩
  | n + 1, i, y => by
    obtain ⟨a1, a2, a3⟩ := mrun_all φ P n (i + 1) (mrun φ P i y)
    have hf : ∀ f, f ≠ 0 → f ≠ 1 → mrun φ P i y f = y f := fun f h0 h1 => funext fun k => c_down_f h0 h1
    have h0 : ∀ p, p ≠ i → mrun φ P i y 0 p = y 0 p := fun p hp => by unfold mrun c_down; rw [cu_f (by decide), cu_k hp]
    have h1 : ∀ p, p ≠ i → mrun φ P i y 1 p = y 1 p := fun p hp => by unfold mrun c_down; rw [cu_k hp, cu_f (by decide)]
    have e0 : mrun φ P i y 0 i = y 0 i - c_fls φ P y i := by unfold mrun c_down; rw [cu_f (by decide), cu_s]
    have e1 : mrun φ P i y 1 i = y 1 i + c_fls φ P y i := by unfold mrun c_down; rw [cu_s]
    refine ⟨fun f z0 z1 => by rw [itr_S, a1 f z0 z1, hf f z0 z1], fun p u v => ?_, fun p u => ?_⟩
    · rw [itr_S]
      by_cases e : p = i
      · subst e
        rw [(a3 p (by omega)).1, (a3 p (by omega)).2]
        exact ⟨e0, e1⟩
      · rw [(a2 p (by omega) (by omega)).1, (a2 p (by omega) (by omega)).2, h0 p e, h1 p e, fls_cong (h0 p e) (h1 p e) (by rw [hf 3 (by decide) (by decide)]) (by rw [hf 12 (by decide) (by decide)])]
        exact ⟨rfl, rfl⟩
    · rw [itr_S, (a3 p (by omega)).1, (a3 p (by omega)).2, h0 p (by omega), h1 p (by omega)]
      exact ⟨rfl, rfl⟩
theorem q_mono {c : Cs} {N z : Int} {fl : Int → Int} : ∀ (n : Nat) (i q : Int), itr (qstep c N z fl) n i q ≤ q
  | 0, _, q => Int.le_refl q
  | n + 1, i, q => by
    rw [itr_S]
    have h1 : qstep c N z fl i q ≤ q := by unfold qstep; split <;> omega
    exact Int.le_trans (q_mono n (i + 1) _) h1
theorem q_le {c : Cs} {N z : Int} {fl : Int → Int} : ∀ (n : Nat) (i q : Int), 0 < itr (qstep c N z fl) n i q → ∀ p, i ≤ p → p < i + n → itr (qstep c N z fl) n i q ≤ c_quiet c p (ahd N p) z (fl p)
  | 0, i, q, _, p, a, b => by omega
  | n + 1, i, q, h, p, a, b => by
    rw [itr_S] at h ⊢
    by_cases e : p = i
    · subst e
      have h1 := q_mono (c := c) (N := N) (z := z) (fl := fl) n (p + 1) (qstep c N z fl p q)
      have h2 : qstep c N z fl p q ≤ c_quiet c p (ahd N p) z (fl p) ∨ qstep c N z fl p q ≤ 0 := by unfold qstep; split <;> omega
      omega
    · exact q_le n (i + 1) _ h p (by omega) (by omega)
/-- when what flows is told by the first minute alone -/
def cond (P l c : Cs) (j : Int) : Prop := j = 0 ∨ (l 0 0 ≠ 0 ∧ (P 5 0 ≤ 1 ∨ c 12 0 % 60 + j < 60)) ∨ ∀ p, 0 ≤ p → p < P 3 0 → c 0 p = 0
theorem hour_same {P l : Cs} {φ : Phi} (hP : PlanOk P l φ) {m j : Int} (hm : 0 ≤ m) (hj : 0 ≤ j) (h : P 5 0 ≤ 1 ∨ m % 60 + j < 60) : pl_hour P (m + j) = pl_hour P m := by
  have h5 := hP.2.2.1
  unfold pl_hour
  split
  · rcases h with h | h
    · have : P 5 0 = 1 := by omega
      rw [this, Int.emod_one, Int.emod_one]
    · rw [show (m + j) / 60 = m / 60 by omega]
  · rfl
theorem mulS (a j : Int) : a * (j + 1) = a * j + a := by rw [Int.mul_add, Int.mul_one]
theorem flow_j {P l c y : Cs} {φ : Phi} {B j : Int} (hP : PlanOk P l φ) (hK : CK B c) (hj : 0 ≤ j) (hc : cond P l c j) (hE : EQc P (c_count (sd c (c_fls φ P c) (P 3 0) j) (P 4 0) j) y) {p : Int} (hp : 0 ≤ p ∧ p < P 3 0) : c_fls φ P y p = min (c_fls φ P c p) (sd c (c_fls φ P c) (P 3 0) j 0 p) := by
  have hN := hP.1
  have h0 := (hK.2.1 p hp.1 (by omega)).1
  have h12 := hK.2.2.2
  have y0 := hE.1 0 p (by decide) hp.1 hp.2
  have y1 := hE.1 1 p (by decide) hp.1 hp.2
  have y3 := hE.1 3 p (by decide) hp.1 hp.2
  have y12 := hE.2.2.2.2
  unfold c_count at y0 y1 y3 y12
  rw [cu_f (by decide), c_cnt_f (by decide) (by decide)] at y0 y1 y3
  rw [cu_s, sd_f (by decide) (by decide)] at y12
  rw [sd_f (by decide) (by decide)] at y3
  have hfi := flw_in (φ := φ) (P := P) (h := pl_hour P (c 12 0)) h0
  have hfi2 : 0 ≤ c_fls φ P c p ∧ c_fls φ P c p ≤ c 0 p := hfi
  have e0 := sd_0 (c := c) (fl := c_fls φ P c) (i := P 3 0) (j := j) hp
  rcases hc with z | ⟨z, zh⟩ | z
  · subst z
    rw [Int.mul_zero] at e0
    have e1 := sd_1 (c := c) (fl := c_fls φ P c) (i := P 3 0) (j := 0) hp
    rw [Int.mul_zero] at e1
    rw [fls_cong (y := c) (by omega) (by omega) y3 (by omega)]
    omega
  · have hst := (hP.2.2.2.2.2.2 z).1
    have hh := hour_same hP h12.1 hj zh
    have ed : pl_damp y p (pl_hour P (y 12 0)) = pl_damp c p (pl_hour P (c 12 0)) := by
      unfold pl_damp
      rw [y3, y12, hh]
    have ef : c_fls φ P c p = if c 0 p = 0 then 0 else if φ (P 0 p) (P 1 (pl_damp c p (pl_hour P (c 12 0)))) 0 0 0 p < 0 then 0 else min (φ (P 0 p) (P 1 (pl_damp c p (pl_hour P (c 12 0)))) 0 0 0 p) (c 0 p) := by
      unfold c_fls flw
      rw [hst _ _ (c 0 p) (c 1 p) (c 12 0) p]
    have ey : c_fls φ P y p = if y 0 p = 0 then 0 else if φ (P 0 p) (P 1 (pl_damp c p (pl_hour P (c 12 0)))) 0 0 0 p < 0 then 0 else min (φ (P 0 p) (P 1 (pl_damp c p (pl_hour P (c 12 0)))) 0 0 0 p) (y 0 p) := by
      unfold c_fls flw
      rw [hst _ _ (y 0 p) (y 1 p) (y 12 0) p, ed]
    rw [ey, y0]
    generalize φ (P 0 p) (P 1 (pl_damp c p (pl_hour P (c 12 0)))) 0 0 0 p = t at ef
    generalize hfl : c_fls φ P c p = x at ef e0 hfi2
    generalize hD : sd c (c_fls φ P c) (P 3 0) j 0 p = d at e0
    have hxj : j = 0 → x * j = 0 := fun q => by rw [q, Int.mul_zero]
    have hxp : 0 ≤ x * j := Int.mul_nonneg hfi2.1 hj
    have hx1 : 1 ≤ j → x ≤ x * j := fun q => by
      have := Int.mul_le_mul_of_nonneg_left q hfi2.1
      rwa [Int.mul_one] at this
    have hx0 : x = 0 → x * j = 0 := fun q => by rw [q, Int.zero_mul]
    by_cases c0 : c 0 p = 0
    · rw [if_pos c0] at ef
      have : d = 0 := by omega
      rw [if_pos this]
      omega
    · rw [if_neg c0] at ef
      by_cases t0 : t < 0
      · rw [if_pos t0] at ef
        have := hx0 ef
        rw [if_neg (by omega), if_pos t0]
        omega
      · rw [if_neg t0] at ef
        by_cases d0 : d = 0
        · rw [if_pos d0]
          omega
        · rw [if_neg d0, if_neg t0]
          by_cases j0 : j = 0
          · have := hxj j0
            omega
          · have := hx1 (by omega)
            omega
  · have c0 := z p hp.1 hp.2
    have d0 : sd c (c_fls φ P c) (P 3 0) j 0 p = 0 := by
      have hm : 0 ≤ c_fls φ P c p * j := Int.mul_nonneg hfi2.1 hj
      omega
    have : c_fls φ P y p = 0 := by
      unfold c_fls flw
      rw [if_pos (by omega)]
    rw [this, d0]
    omega
theorem run_sd {P l c y : Cs} {φ : Phi} {B j : Int} (hP : PlanOk P l φ) (hK : CK B c) (hj : 0 ≤ j) (hc : cond P l c j) (hE : EQc P (c_count (sd c (c_fls φ P c) (P 3 0) j) (P 4 0) j) y) : EQc P (c_count (sd c (c_fls φ P c) (P 3 0) (j + 1)) (P 4 0) j) (itr (mrun φ P) (P 3 0).toNat 0 y) := by
  have hN := hP.1
  obtain ⟨a1, a2, -⟩ := mrun_all φ P (P 3 0).toNat 0 y
  have hcf : ∀ m m' : Int, ∀ f k, f ≠ 0 → f ≠ 1 → c_count (sd c (c_fls φ P c) (P 3 0) m) (P 4 0) j f k = c_count (sd c (c_fls φ P c) (P 3 0) m') (P 4 0) j f k := by
    intro m m' f k h0 h1
    unfold c_count
    rw [cu_if, cu_if, sd_f (f := 12) (by decide) (by decide), sd_f (f := 12) (by decide) (by decide)]
    split
    · rfl
    · unfold c_cnt
      rw [sd_f (f := 6) (by decide) (by decide), sd_f (f := 6) (by decide) (by decide), sd_f (f := 7) (by decide) (by decide), sd_f (f := 7) (by decide) (by decide), sd_f (f := 8) (by decide) (by decide), sd_f (f := 8) (by decide) (by decide), sd_f (f := f) h0 h1, sd_f (f := f) h0 h1]
  refine ⟨fun f p h5 p0 p1 => ?_, fun f k h7 h9 k0 k1 => ?_, fun k k0 k1 => ?_, ?_, ?_⟩
  · by_cases z0 : f = 0
    · subst z0
      rw [(a2 p p0 (by omega)).1, flow_j hP hK hj hc hE ⟨p0, p1⟩, hE.1 0 p (by decide) p0 p1]
      unfold c_count
      rw [cu_f (by decide), cu_f (by decide), c_cnt_f (by decide) (by decide), c_cnt_f (by decide) (by decide), sd_0 ⟨p0, p1⟩, sd_0 ⟨p0, p1⟩, mulS]
      have h0 := (hK.2.1 p p0 (by omega)).1
      have hfi : 0 ≤ c_fls φ P c p ∧ c_fls φ P c p ≤ c 0 p := flw_in h0
      have := Int.mul_nonneg hfi.1 hj
      omega
    · by_cases z1 : f = 1
      · subst z1
        rw [(a2 p p0 (by omega)).2, flow_j hP hK hj hc hE ⟨p0, p1⟩, hE.1 1 p (by decide) p0 p1]
        unfold c_count
        rw [cu_f (by decide), cu_f (by decide), c_cnt_f (by decide) (by decide), c_cnt_f (by decide) (by decide), sd_1 ⟨p0, p1⟩, sd_1 ⟨p0, p1⟩, sd_0 ⟨p0, p1⟩, mulS]
        have h0 := (hK.2.1 p p0 (by omega)).1
        have hfi : 0 ≤ c_fls φ P c p ∧ c_fls φ P c p ≤ c 0 p := flw_in h0
        have := Int.mul_nonneg hfi.1 hj
        omega
      · rw [a1 f z0 z1, hcf (j + 1) j f p z0 z1]
        exact hE.1 f p h5 p0 p1
  · rw [a1 f (by omega) (by omega), hcf (j + 1) j f k (by omega) (by omega)]
    exact hE.2.1 f k h7 h9 k0 k1
  · rw [hcf (j + 1) j 11 0 (by decide) (by decide)] at k1
    rw [a1 10 (by decide) (by decide), hcf (j + 1) j 10 k (by decide) (by decide)]
    exact hE.2.2.1 k k0 k1
  · rw [a1 11 (by decide) (by decide), hcf (j + 1) j 11 0 (by decide) (by decide)]
    exact hE.2.2.2.1
  · rw [a1 12 (by decide) (by decide), hcf (j + 1) j 12 0 (by decide) (by decide)]
    exact hE.2.2.2.2
