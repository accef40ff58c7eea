/-! one glass: until it is out nobody turns it, and it moves nobody -/
def Dp (p : Int) : Nat → Int → Bool := fun f k => decide ((f = 0 ∨ f = 1) ∧ k = p)
theorem Dp_y {p : Int} {f : Nat} (h : f = 0 ∨ f = 1) : Dp p f p = true := by unfold Dp; simp [h]
theorem Dp_n {p k : Int} {f : Nat} (h : k ≠ p) : Dp p f k = false := by unfold Dp; simp [h]
theorem Dp_f {p k : Int} {f : Nat} (h0 : f ≠ 0) (h1 : f ≠ 1) : Dp p f k = false := by unfold Dp; simp [h0, h1]
theorem Dp_RD (p : Int) : RD (Dp p) := fun f k h0 h1 _ => Dp_f h0 h1
def sa (φ : Phi) (P : Cs) (p : Int) (y : Cs) : Cs := fun f _ => if f = 0 then y 0 p - c_fls φ P y p else y 1 p + c_fls φ P y p
theorem ov_run {φ : Phi} {P : Cs} {p : Int} (hp : 0 ≤ p ∧ p < P 3 0) (a y : Cs) : itr (mrun φ P) (P 3 0).toNat 0 (rp (Dp p) a y) = rp (Dp p) (sa φ P p (rp (Dp p) a y)) (itr (mrun φ P) (P 3 0).toNat 0 y) := by
  obtain ⟨A1, A2, A3⟩ := mrun_all φ P (P 3 0).toNat 0 (rp (Dp p) a y)
  obtain ⟨B1, B2, B3⟩ := mrun_all φ P (P 3 0).toNat 0 y
  have hc : ∀ q, q ≠ p → c_fls φ P (rp (Dp p) a y) q = c_fls φ P y q := fun q hq => fls_cong (rp_n (Dp_n hq)) (rp_n (Dp_n hq)) (rp_n (Dp_f (by decide) (by decide))) (rp_n (Dp_f (by decide) (by decide)))
  funext f k
  by_cases f0 : f = 0
  · subst f0
    by_cases z : k = p
    · subst z
      rw [rp_y (Dp_y (Or.inl rfl)), (A2 k hp.1 (by omega)).1]
      rfl
    · rw [rp_n (Dp_n z)]
      by_cases w : 0 ≤ k ∧ k < P 3 0
      · rw [(A2 k w.1 (by omega)).1, (B2 k w.1 (by omega)).1, hc k z, rp_n (Dp_n z)]
      · rw [(A3 k (by omega)).1, (B3 k (by omega)).1, rp_n (Dp_n z)]
  · by_cases f1 : f = 1
    · subst f1
      by_cases z : k = p
      · subst z
        rw [rp_y (Dp_y (Or.inr rfl)), (A2 k hp.1 (by omega)).2]
        rfl
      · rw [rp_n (Dp_n z)]
        by_cases w : 0 ≤ k ∧ k < P 3 0
        · rw [(A2 k w.1 (by omega)).2, (B2 k w.1 (by omega)).2, hc k z, rp_n (Dp_n z)]
        · rw [(A3 k (by omega)).2, (B3 k (by omega)).2, rp_n (Dp_n z)]
    · rw [A1 f f0 f1, rp_n (Dp_f f0 f1), rp_n (Dp_f f0 f1), B1 f f0 f1]
theorem ov_min {φ : Phi} {P : Cs} {p : Int} (hp : 0 ≤ p ∧ p < P 3 0) (a y : Cs) (hy : 0 < y 0 p - c_fls φ P y p) (ha : 0 < rp (Dp p) a y 0 p - c_fls φ P (rp (Dp p) a y) p) : mmin φ P (rp (Dp p) a y) = rp (Dp p) (sa φ P p (rp (Dp p) a y)) (mmin φ P y) := by
  have hy2 : 0 < itr (mrun φ P) (P 3 0).toNat 0 y 0 p := by
    rw [((mrun_all φ P (P 3 0).toNat 0 y).2.1 p hp.1 (by omega)).1]; exact hy
  unfold mmin
  rw [ov_run hp, (relN_rp (Dp_RD p) (fun q hq => ⟨Dp_n hq, Dp_n hq⟩) ha _ _ _ hy2).1, filN_rp (Dp_RD p), cnt_rp (Dp_RD p)]
theorem min_al {φ : Phi} {P : Cs} {p : Int} (hp : 0 ≤ p ∧ p < P 3 0) (y : Cs) (hy : 0 < y 0 p - c_fls φ P y p) : mmin φ P y 0 p = y 0 p - c_fls φ P y p ∧ mmin φ P y 1 p = y 1 p + c_fls φ P y p := by
  have := ov_min hp y y hy (by rw [rp_self]; exact hy)
  rw [rp_self] at this
  constructor
  · rw [this, rp_y (Dp_y (Or.inl rfl))]; rfl
  · rw [this, rp_y (Dp_y (Or.inr rfl))]; rfl
/-- the fields that a minute never changes -/
theorem relN_f {N : Int} {f : Nat} (hf : f = 3 ∨ f = 5 ∨ f = 12) : ∀ (n : Nat) (i : Int) (y : Cs), itr (mrel N) n i y f = y f
  | 0, _, _ => rfl
  | n + 1, i, y => by
    rw [itr_S, relN_f hf n]
    funext k
    unfold mrel
    split
    · rfl
    · unfold mlie mnext mturn mstand
      rcases hf with h | h | h <;> subst h <;> split <;> simp [cu_if, c_up]
theorem filN_f {f : Nat} (hf : f = 3 ∨ f = 5 ∨ f = 12) : ∀ (n : Nat) (i : Int) (y : Cs), itr mfil n i y f = y f
  | 0, _, _ => rfl
  | n + 1, i, y => by
    rw [itr_S, filN_f hf n]
    funext k
    unfold mfil mstand
    rcases hf with h | h | h <;> subst h <;> split <;> simp [cu_if, c_up]
theorem bedN_f {f : Nat} (hf : f = 3 ∨ f = 5 ∨ f = 12) : ∀ (n : Nat) (i : Int) (y : Cs), itr mbed n i y f = y f
  | 0, _, _ => rfl
  | n + 1, i, y => by
    rw [itr_S, bedN_f hf n]
    funext k
    unfold mbed
    rcases hf with h | h | h <;> subst h <;> simp [cu_if]
theorem watN_f {f : Nat} (hf : f = 3 ∨ f = 5 ∨ f = 12) : ∀ (n : Nat) (i : Int) (y : Cs), itr mwat n i y f = y f
  | 0, _, _ => rfl
  | n + 1, i, y => by
    rw [itr_S, watN_f hf n]
    funext k
    unfold mwat
    rcases hf with h | h | h <;> subst h <;> split <;> simp [cu_if]
theorem min_3 {φ : Phi} {P y : Cs} {f : Nat} (hf : f = 3 ∨ f = 5) (k : Int) : mmin φ P y f k = y f k := by
  have hf2 : f = 3 ∨ f = 5 ∨ f = 12 := by omega
  unfold mmin mcnt
  rw [cu_f (by omega), watN_f hf2, bedN_f hf2, filN_f hf2, relN_f hf2, (mrun_all φ P (P 3 0).toNat 0 y).1 f (by omega) (by omega)]
theorem min_12 {φ : Phi} {P y : Cs} : mmin φ P y 12 0 = y 12 0 + 1 := by
  have hf2 : 12 = 3 ∨ 12 = 5 ∨ 12 = 12 := by decide
  unfold mmin mcnt
  rw [cu_s, filN_f hf2, relN_f hf2, (mrun_all φ P (P 3 0).toNat 0 y).1 12 (by decide) (by decide)]
/-- as the reference looks whether a glass is out: behind k minutes, n looks -/
def mou (φ : Phi) (P : Cs) (p : Int) : Nat → Int → Cs → Int
  | 0, _, _ => -2
  | n + 1, k, y => if y 0 p - c_fls φ P y p = 0 then k else mou φ P p n (k + 1) (mmin φ P y)
theorem mou_S (φ : Phi) (P : Cs) (p : Int) (n : Nat) (k : Int) (y : Cs) : mou φ P p (n + 1) k y = if y 0 p - c_fls φ P y p = 0 then k else mou φ P p n (k + 1) (mmin φ P y) := rfl
theorem gout_S (φ : Phi) (P : Cs) (p : Int) (n : Nat) (k : Int) (y : Cs) : g_out φ P p (n + 1) k y = if y 0 p = 0 then k else g_out φ P p n (k + 1) (g_min φ P y p) := rfl
theorem out_eq {φ : Phi} {P : Cs} {p : Int} (hp : 0 ≤ p ∧ p < P 3 0) : ∀ (n : Nat) (i : Int) (c y : Cs), y 0 p = c 0 p → y 1 p = c 1 p → y 3 p = c 3 p → y 12 0 = c 12 0 → 0 < y 0 p → g_out φ P p (n + 1) i c = mou φ P p n (i + 1) y
  | 0, i, c, y, h0, _, _, _, hy => by
    rw [gout_S, if_neg (by omega)]; rfl
  | n + 1, i, c, y, h0, h1, h3, h12, hy => by
    have ef : c_fls φ P y p = c_fls φ P c p := fls_cong h0 h1 h3 h12
    have e0 : g_min φ P c p 0 p = c 0 p - c_fls φ P c p := by unfold g_min c_down; rw [cu_f (by decide), cu_f (by decide), cu_s]; rfl
    have e1 : g_min φ P c p 1 p = c 1 p + c_fls φ P c p := by unfold g_min c_down; rw [cu_f (by decide), cu_s]; rfl
    have e3 : g_min φ P c p 3 p = c 3 p := by unfold g_min; rw [cu_f (by decide), c_down_f (by decide) (by decide)]
    have e12 : g_min φ P c p 12 0 = c 12 0 + 1 := by unfold g_min; rw [cu_s]
    have hin : 0 ≤ c_fls φ P y p ∧ c_fls φ P y p ≤ y 0 p := flw_in (by omega)
    rw [gout_S, if_neg (by omega), mou_S]
    by_cases z : y 0 p - c_fls φ P y p = 0
    · rw [if_pos z, gout_S, if_pos (by omega)]
    · rw [if_neg z]
      have hm := min_al (φ := φ) hp y (by omega)
      exact out_eq hp n (i + 1) (g_min φ P c p) (mmin φ P y) (by rw [hm.1, e0, ef, h0]) (by rw [hm.2, e1, ef, h1]) (by rw [min_3 (Or.inl rfl), e3, h3]) (by rw [min_12, e12, h12]) (by rw [hm.1]; omega)
def nout (φ : Phi) (P : Cs) (p : Int) (n : Nat) (y : Cs) : Int := if y 0 p = 0 then 0 else mou φ P p n 1 y
theorem out_eq0 {φ : Phi} {P : Cs} {p : Int} (hp : 0 ≤ p ∧ p < P 3 0) (n : Nat) (c y : Cs) (h0 : y 0 p = c 0 p) (h1 : y 1 p = c 1 p) (h3 : y 3 p = c 3 p) (h12 : y 12 0 = c 12 0) (hy : 0 ≤ y 0 p) : g_out φ P p (n + 1) 0 c = nout φ P p n y := by
  unfold nout
  by_cases z : y 0 p = 0
  · rw [if_pos z, gout_S, if_pos (by omega)]
  · rw [if_neg z]
    exact out_eq hp n 0 c y h0 h1 h3 h12 (by omega)
theorem mou_ge {φ : Phi} {P : Cs} {p : Int} : ∀ (n : Nat) (k : Int) (y : Cs), mou φ P p n k y = -2 ∨ (k ≤ mou φ P p n k y ∧ mou φ P p n k y < k + n)
  | 0, _, _ => Or.inl rfl
  | n + 1, k, y => by
    rw [mou_S]
    split
    · right; omega
    · rcases mou_ge (φ := φ) (P := P) (p := p) n (k + 1) (mmin φ P y) with z | z
      · exact Or.inl z
      · right; omega
/-- two castles that differ in one glass that isn't out in time -/
theorem mbd_rp {φ : Phi} {P : Cs} {p a b : Int} (hp : 0 ≤ p ∧ p < P 3 0) : ∀ (n : Nat) (i j k : Int) (v y : Cs), 0 < y 0 p → 0 < rp (Dp p) v y 0 p → 0 ≤ j → 0 ≤ k → mou φ P p n j y = -2 → mou φ P p n k (rp (Dp p) v y) = -2 → mbd φ P a b n i (rp (Dp p) v y) = mbd φ P a b n i y
  | 0, _, _, _, _, _, _, _, _, _, _, _ => rfl
  | n + 1, i, j, k, v, y, hy, hv, hj, hk, h1, h2 => by
    have i1 : 0 ≤ c_fls φ P y p ∧ c_fls φ P y p ≤ y 0 p := flw_in (by omega)
    have i2 : 0 ≤ c_fls φ P (rp (Dp p) v y) p ∧ c_fls φ P (rp (Dp p) v y) p ≤ rp (Dp p) v y 0 p := flw_in (by omega)
    rw [mou_S] at h1 h2
    have n1 : ¬ y 0 p - c_fls φ P y p = 0 := fun z => by rw [if_pos z] at h1; omega
    have n2 : ¬ rp (Dp p) v y 0 p - c_fls φ P (rp (Dp p) v y) p = 0 := fun z => by rw [if_pos z] at h2; omega
    rw [if_neg n1] at h1
    rw [if_neg n2] at h2
    have hm := ov_min (φ := φ) hp v y (by omega) (by omega)
    have hm0 := min_al (φ := φ) hp y (by omega)
    rw [hm] at h2
    rw [mbd_S, mbd_S, hm, rp_n (Dp_f (f := 9) (by decide) (by decide))]
    rw [mbd_rp hp n (i + 1) (j + 1) (k + 1) _ (mmin φ P y) (by rw [hm0.1]; omega) (by rw [rp_y (Dp_y (Or.inl rfl))]; show 0 < rp (Dp p) v y 0 p - c_fls φ P (rp (Dp p) v y) p; omega) (by omega) (by omega) h1 h2]
theorem cu0_rp (y : Cs) (p v w : Int) : cu y 0 p w = rp (Dp p) (fun f _ => if f = 0 then w else y 1 p) (cu y 0 p v) := by
  funext f k
  by_cases z : (f = 0 ∨ f = 1) ∧ k = p
  · obtain ⟨z1, rfl⟩ := z
    rw [rp_y (Dp_y z1)]
    rcases z1 with z1 | z1 <;> subst z1
    · rw [cu_s]; rfl
    · rw [cu_f (by decide)]; rfl
  · rw [rp_n (by unfold Dp; simp only [z, decide_false])]
    have : ¬ (f = 0 ∧ k = p) := fun q => z ⟨Or.inl q.1, q.2⟩
    rw [cu_if, cu_if, if_neg this, if_neg this]
/-- tries in vain whose glass isn't out are all alike -/
theorem mbd_alike {φ : Phi} {P y : Cs} {p a b v w : Int} {n : Nat} (hp : 0 ≤ p ∧ p < P 3 0) (hv : 0 ≤ v) (hw : 0 ≤ w) (h1 : nout φ P p n (cu y 0 p v) = -2) (h2 : nout φ P p n (cu y 0 p w) = -2) : mbd φ P a b n 0 (cu y 0 p w) = mbd φ P a b n 0 (cu y 0 p v) := by
  unfold nout at h1 h2
  rw [cu_s] at h1 h2
  have hv0 : ¬ v = 0 := fun z => by rw [if_pos z] at h1; omega
  have hw0 : ¬ w = 0 := fun z => by rw [if_pos z] at h2; omega
  rw [if_neg hv0] at h1
  rw [if_neg hw0] at h2
  rw [cu0_rp y p v w] at h2 ⊢
  exact mbd_rp hp n 0 1 1 _ _ (by rw [cu_s]; omega) (by rw [← cu0_rp, cu_s]; omega) (by omega) (by omega) h1 h2
