/-! a pass of some minutes is as many minutes of the reference -/
theorem itr_id {α : Type} {f : Int → α → α} {x : α} : ∀ (n : Nat) (i : Int), (∀ p, i ≤ p → p < i + n → f p x = x) → itr f n i x = x
  | 0, _, _ => rfl
  | n + 1, i, h => by
    rw [itr_S, h i (by omega) (by omega)]
    exact itr_id n (i + 1) (fun p a b => h p (by omega) (by omega))
/-- the castle behind j quiet minutes -/
def dj (φ : Phi) (P c : Cs) (j : Int) : Cs := c_count (sd c (c_fls φ P c) (P 3 0) j) (P 4 0) j
theorem dj_0 {φ : Phi} {P l c : Cs} {B : Int} (hP : PlanOk P l φ) (hK : CK B c) : dj φ P c 0 = c := by
  have hN := hP.1
  funext f k
  unfold dj c_count
  rw [cu_if, sd_f (f := 12) (by decide) (by decide)]
  split
  · rename_i z; rw [z.1, z.2]; omega
  · unfold c_cnt
    rw [sd_f (f := 6) (by decide) (by decide), sd_f (f := 7) (by decide) (by decide), sd_f (f := 8) (by decide) (by decide)]
    split
    · rename_i z; rw [z.1]; omega
    · split
      · rename_i z; rw [z.1]; omega
      · unfold sd
        rw [Int.mul_zero]
        split
        · rename_i z
          have := (hK.2.1 k z.2.1 (by omega)).1
          rw [z.1]; omega
        · split
          · rename_i z
            have := (hK.2.1 k z.2.1 (by omega)).1
            rw [z.1]; omega
          · rfl
theorem cnt_if (c : Cs) (i m : Int) (f : Nat) (j : Int) : c_cnt c i m f j = if f = 7 ∧ 0 ≤ j ∧ j < i ∧ c 6 j = -2 then c 7 j + m else if f = 8 ∧ 0 ≤ j ∧ j < i ∧ c 6 j ≠ -2 then c 8 j + m else c f j := rfl
theorem count_count (c : Cs) (G j : Int) : c_count (c_count c G j) G 1 = c_count c G (j + 1) := by
  funext f k
  unfold c_count
  rw [cu_s, cu_if (c_cnt (cu (c_cnt c G j) 12 0 (c 12 0 + j)) G 1), cu_if (c_cnt c G (j + 1))]
  by_cases z : f = 12 ∧ k = 0
  · rw [if_pos z, if_pos z]; omega
  · rw [if_neg z, if_neg z]
    have e6 : ∀ q, cu (c_cnt c G j) 12 0 (c 12 0 + j) 6 q = c 6 q := fun q => by rw [cu_f (by decide), c_cnt_f (by decide) (by decide)]
    have e7 : ∀ q, cu (c_cnt c G j) 12 0 (c 12 0 + j) 7 q = c_cnt c G j 7 q := fun q => by rw [cu_f (by decide)]
    have e8 : ∀ q, cu (c_cnt c G j) 12 0 (c 12 0 + j) 8 q = c_cnt c G j 8 q := fun q => by rw [cu_f (by decide)]
    have ef : cu (c_cnt c G j) 12 0 (c 12 0 + j) f k = c_cnt c G j f k := by rw [cu_if, if_neg z]
    rw [cnt_if (cu (c_cnt c G j) 12 0 (c 12 0 + j)) G 1 f k, e6, e7, e8, ef, cnt_if c G (j + 1) f k]
    by_cases z7 : f = 7 ∧ 0 ≤ k ∧ k < G ∧ c 6 k = -2
    · rw [if_pos z7, if_pos z7, cnt_if c G j 7 k, if_pos ⟨rfl, z7.2⟩]
      omega
    · rw [if_neg z7, if_neg z7]
      by_cases z8 : f = 8 ∧ 0 ≤ k ∧ k < G ∧ c 6 k ≠ -2
      · rw [if_pos z8, if_pos z8, cnt_if c G j 8 k, if_neg (by omega), if_pos ⟨rfl, z8.2⟩]
        omega
      · rw [if_neg z8, if_neg z8, cnt_if c G j f k, if_neg z7, if_neg z8]
theorem PW_dj {φ : Phi} {P c : Cs} {j m : Int} (h : PW P c) : PW P (c_count (sd c (c_fls φ P c) (P 3 0) m) (P 4 0) j) := by
  unfold c_count
  exact PW_cong (fun k => by rw [cu_f (by decide), c_cnt_f (by decide) (by decide), sd_f (by decide) (by decide)]) (fun k => by rw [cu_f (by decide), c_cnt_f (by decide) (by decide), sd_f (by decide) (by decide)]) (fun k => by rw [cu_f (by decide), c_cnt_f (by decide) (by decide), sd_f (by decide) (by decide)]) (by rw [cu_f (by decide), c_cnt_f (by decide) (by decide), sd_f (by decide) (by decide)]) h
theorem cq_eq (φ : Phi) (P : Cs) (z : Int) (c : Cs) (most : Int) : c_q φ P z c most = itr (qstep c (P 3 0) z (c_fls φ P c)) (P 3 0).toNat 0 (c_lim P c most) := rfl
theorem quiet_at {φ : Phi} {P l c : Cs} {z most : Int} (hP : PlanOk P l φ) (h : 0 < c_q φ P z c most) {p : Int} (hp : 0 ≤ p ∧ p < P 3 0) : c_q φ P z c most ≤ c_quiet c p (ahd (P 3 0) p) z (c_fls φ P c p) := by
  have := q_le (c := c) (N := P 3 0) (z := z) (fl := c_fls φ P c) (P 3 0).toNat 0 (c_lim P c most) h p hp.1 (by omega)
  exact this
theorem cond_j {φ : Phi} {P l c : Cs} {B most j : Int} (hP : PlanOk P l φ) (hK : CK B c) (hm : 1 ≤ most) (hj : 0 ≤ j ∧ j < c_some φ P (l 0 0) c most) : cond P l c j := by
  have hN := hP.1
  unfold cond
  by_cases j0 : j = 0
  · exact Or.inl j0
  · right
    by_cases hz : l 0 0 = 0
    · right
      intro p p0 p1
      have hq : 0 < c_q φ P (l 0 0) c most := by
        have : c_some φ P (l 0 0) c most = min (c_q φ P (l 0 0) c most + 1) (c_lim P c most) := rfl
        omega
      have h1 := quiet_at hP hq ⟨p0, p1⟩
      have h0 := (hK.2.1 p p0 (by omega)).1
      by_cases h3 : 0 < c 0 p
      · have : c_quiet c p (ahd (P 3 0) p) (l 0 0) (c_fls φ P c p) = 0 := by
          unfold c_quiet
          rw [if_pos (Or.inl ⟨h3, hz⟩)]
        omega
      · omega
    · left
      refine ⟨hz, ?_⟩
      by_cases h5 : P 5 0 ≤ 1
      · exact Or.inl h5
      · right
        have e1 : c_some φ P (l 0 0) c most = min (c_q φ P (l 0 0) c most + 1) (c_lim P c most) := rfl
        have e2 : c_lim P c most = min most (60 - c 12 0 % 60) := by unfold c_lim; rw [if_pos (by omega)]
        omega
theorem quiet_step {φ : Phi} {P l c y : Cs} {B most j : Int} (hP : PlanOk P l φ) (hK : CK B c) (hW : PW P c) (hm : 1 ≤ most) (hj : 0 ≤ j ∧ j < c_q φ P (l 0 0) c most) (h : SIM P (dj φ P c j) y) : SIM P (dj φ P c (j + 1)) (mmin φ P y) := by
  have hN := hP.1
  have hsq : c_q φ P (l 0 0) c most ≤ c_some φ P (l 0 0) c most := by
    have := c_q_in (z := l 0 0) hP hK hm
    have e1 : c_some φ P (l 0 0) c most = min (c_q φ P (l 0 0) c most + 1) (c_lim P c most) := rfl
    omega
  have hE := run_sd hP hK hj.1 (cond_j hP hK hm ⟨hj.1, by omega⟩) h.1
  have hW1 : PW P (c_count (sd c (c_fls φ P c) (P 3 0) (j + 1)) (P 4 0) j) := PW_dj hW
  unfold mmin
  generalize itr (mrun φ P) (P 3 0).toNat 0 y = y1 at hE
  have c2 : ∀ p, 0 ≤ p → p < P 3 0 → y1 2 p = c 2 p := fun p a b => by
    rw [hE.1 2 p (by decide) a b]; unfold c_count; rw [cu_f (by decide), c_cnt_f (by decide) (by decide), sd_f (by decide) (by decide)]
  have c11 : y1 11 0 = c 11 0 := by
    rw [hE.2.2.2.1]; unfold c_count; rw [cu_f (by decide), c_cnt_f (by decide) (by decide), sd_f (by decide) (by decide)]
  have hrel : itr (mrel (P 3 0)) (P 3 0).toNat 0 y1 = y1 := by
    refine itr_id _ 0 (fun p a b => ?_)
    have b1 : p < P 3 0 := by omega
    have ha := ahd_in ⟨a, b1⟩
    have hq := quiet_at hP (by omega : 0 < c_q φ P (l 0 0) c most) ⟨a, b1⟩
    unfold mrel
    rw [if_pos]
    by_cases n2 : P 3 0 < 2
    · exact Or.inl n2
    · right
      rw [c2 p a b1, c2 _ ha.1 ha.2]
      by_cases w1 : c 2 p = -2
      · exact Or.inr (Or.inl w1)
      · by_cases w2 : c 2 (ahd (P 3 0) p) = -2
        · exact Or.inr (Or.inr w2)
        · left
          have hne : c 2 (ahd (P 3 0) p) ≠ c 2 p := fun z => ahd_ne ⟨a, b1⟩ (by omega) (by
            have h1 := (hW.2.2.2.1 p a b1).resolve_left w1
            have h3 := (hW.2.2.2.1 _ ha.1 ha.2).resolve_left w2
            rw [← h3.2.2, z, h1.2.2])
          have hcm : c_comer c p (ahd (P 3 0) p) = c 2 (ahd (P 3 0) p) := by unfold c_comer; rw [if_neg (by omega)]
          have h0 := (hK.2.1 p a (by omega)).1
          have hfi : 0 ≤ c_fls φ P c p ∧ c_fls φ P c p ≤ c 0 p := flw_in h0
          have y0 : y1 0 p = c 0 p - min (c_fls φ P c p * (j + 1)) (c 0 p) := by
            rw [hE.1 0 p (by decide) a b1]
            unfold c_count
            rw [cu_f (by decide), c_cnt_f (by decide) (by decide), sd_0 ⟨a, b1⟩]
          unfold c_quiet at hq
          split at hq
          · omega
          · rw [if_neg (by omega)] at hq
            split at hq
            · rename_i x0
              have : c_fls φ P c p * (j + 1) = 0 := by rw [x0, Int.zero_mul]
              split at hq <;> omega
            · rename_i x0
              have h5 : (j + 1) * c_fls φ P c p ≤ c 0 p - 1 := Int.le_trans (Int.mul_le_mul_of_nonneg_right (show j + 1 ≤ (c 0 p - 1) / c_fls φ P c p by omega) hfi.1) (Int.ediv_mul_le _ x0)
              rw [Int.mul_comm] at h5
              omega
  rw [hrel]
  have hfil : itr mfil (P 3 0).toNat 0 y1 = y1 := by
    refine itr_id _ 0 (fun p a b => ?_)
    have b1 : p < P 3 0 := by omega
    have hq := quiet_at hP (by omega : 0 < c_q φ P (l 0 0) c most) ⟨a, b1⟩
    unfold mfil
    rw [if_neg]
    rw [c2 p a b1, c11]
    intro z
    unfold c_quiet at hq
    rw [if_pos (Or.inr z)] at hq
    omega
  rw [hfil]
  have := count_sim (P := P) ⟨hE, hW1⟩ hN.1
  rw [count_count] at this
  exact this
theorem quiet_sim {φ : Phi} {P l c y : Cs} {B most : Int} (hP : PlanOk P l φ) (hK : CK B c) (hm : 1 ≤ most) (h : SIM P c y) : ∀ n : Nat, (n : Int) ≤ c_q φ P (l 0 0) c most → SIM P (dj φ P c n) (mits φ P n y)
  | 0, _ => by
    have e := dj_0 hP hK
    show SIM P (dj φ P c ((0 : Nat) : Int)) y
    rw [show ((0 : Nat) : Int) = 0 from rfl, e]
    exact h
  | n + 1, hn => by
    have ih := quiet_sim hP hK hm h n (by omega)
    have := quiet_step hP hK h.2 hm (j := n) ⟨by omega, by omega⟩ ih
    rw [mits_S]
    exact this
theorem SIM_cong {P c d y : Cs} (h : SIM P c y) (hd : ∀ f k, f ≠ 13 → f ≠ 14 → d f k = c f k) : SIM P d y :=
  ⟨EQc_cong h.1 (fun f k a _ _ => hd f k (by omega) (by omega)) (fun f k a b _ _ => hd f k (by omega) (by omega)) (fun k => hd 10 k (by decide) (by decide)) (hd 11 0 (by decide) (by decide)) (hd 12 0 (by decide) (by decide)), PW_cong (fun k => hd 2 k (by decide) (by decide)) (fun k => hd 6 k (by decide) (by decide)) (fun k => hd 10 k (by decide) (by decide)) (hd 11 0 (by decide) (by decide)) h.2⟩
theorem count_z (c : Cs) (G : Int) (f : Nat) (k : Int) : c_count c G 0 f k = c f k := by
  unfold c_count
  rw [cu_if]
  split
  · rename_i z; rw [z.1, z.2]; omega
  · unfold c_cnt
    split
    · rename_i z; rw [z.1]; omega
    · split
      · rename_i z; rw [z.1]; omega
      · rfl
theorem count_cong {c d : Cs} (G m : Int) (h : ∀ f k, f ≠ 13 → f ≠ 14 → d f k = c f k) : ∀ f k, f ≠ 13 → f ≠ 14 → c_count d G m f k = c_count c G m f k := by
  intro f k h13 h14
  unfold c_count
  rw [cu_if, cu_if, h 12 0 (by decide) (by decide)]
  split
  · rfl
  · unfold c_cnt
    rw [h 6 k (by decide) (by decide), h 7 k (by decide) (by decide), h 8 k (by decide) (by decide), h f k h13 h14]
/-- the main thing: a pass of m minutes is m minutes -/
theorem pass_sim {φ : Phi} {P l c y : Cs} {B most : Int} (hP : PlanOk P l φ) (hK : CK B c) (hB : 0 ≤ B) (hm : 1 ≤ most) (h : SIM P c y) : SIM P (c_pass φ P (l 0 0) c most) (mits φ P (c_some φ P (l 0 0) c most).toNat y) := by
  have hN := hP.1
  have hG := hP.2.1
  have hq := c_q_in (z := l 0 0) hP hK hm
  have hs := c_some_in (z := l 0 0) hP hK hm
  have e1 : c_some φ P (l 0 0) c most = min (c_q φ P (l 0 0) c most + 1) (c_lim P c most) := rfl
  have hfl := fls_in (φ := φ) (P := P) hK
  have hsand : c_sand (P 3 0) (c_some φ P (l 0 0) c most) (c_fl c (P 3 0) (c_fls φ P c)) = c_fl (sd c (c_fls φ P c) (P 3 0) (c_some φ P (l 0 0) c most)) (P 3 0) (c_fls φ P c) := by
    have := sand_sd (c := c) (fl := c_fls φ P c) (N := P 3 0) (m := c_some φ P (l 0 0) c most) (fun p a b => ⟨(hfl p a (by omega)).1, (hfl p a (by omega)).2.1⟩) (P 3 0).toNat 0 (by omega) (by omega)
    rw [sd_z] at this
    exact this
  have hKs : CK B (cu (c_sand (P 3 0) (c_some φ P (l 0 0) c most) (c_fl c (P 3 0) (c_fls φ P c))) 13 0 0) := CK_cu (CK_sand (by omega) _ 0 _ (CK_fl hK) (by omega) (by omega)) (Or.inl rfl)
  have hc2 : ∀ f k, f ≠ 13 → f ≠ 14 → cu (c_sand (P 3 0) (c_some φ P (l 0 0) c most) (c_fl c (P 3 0) (c_fls φ P c))) 13 0 0 f k = sd c (c_fls φ P c) (P 3 0) (c_some φ P (l 0 0) c most) f k := by
    intro f k h13 h14
    rw [cu_f h13, hsand, c_fl_f h14]
  have hE3 : ∀ f k, f ≠ 13 → f ≠ 14 → (if 0 < c_q φ P (l 0 0) c most then c_count (cu (c_sand (P 3 0) (c_some φ P (l 0 0) c most) (c_fl c (P 3 0) (c_fls φ P c))) 13 0 0) (P 4 0) (c_q φ P (l 0 0) c most) else cu (c_sand (P 3 0) (c_some φ P (l 0 0) c most) (c_fl c (P 3 0) (c_fls φ P c))) 13 0 0) f k = c_count (sd c (c_fls φ P c) (P 3 0) (c_some φ P (l 0 0) c most)) (P 4 0) (c_q φ P (l 0 0) c most) f k := by
    intro f k h13 h14
    split
    · exact count_cong _ _ hc2 f k h13 h14
    · have : c_q φ P (l 0 0) c most = 0 := by omega
      rw [this, count_z]
      exact hc2 f k h13 h14
  have hKE : CK (B + c_q φ P (l 0 0) c most) (if 0 < c_q φ P (l 0 0) c most then c_count (cu (c_sand (P 3 0) (c_some φ P (l 0 0) c most) (c_fl c (P 3 0) (c_fls φ P c))) 13 0 0) (P 4 0) (c_q φ P (l 0 0) c most) else cu (c_sand (P 3 0) (c_some φ P (l 0 0) c most) (c_fl c (P 3 0) (c_fls φ P c))) 13 0 0) := by
    split
    · exact CK_count hKs hq.1
    · exact hKs.mono (by omega)
  have hqs := quiet_sim hP hK hm h (c_q φ P (l 0 0) c most).toNat (by omega)
  rw [show (((c_q φ P (l 0 0) c most).toNat : Nat) : Int) = c_q φ P (l 0 0) c most by omega] at hqs
  unfold c_pass c_end
  generalize hX : (if 0 < c_q φ P (l 0 0) c most then c_count (cu (c_sand (P 3 0) (c_some φ P (l 0 0) c most) (c_fl c (P 3 0) (c_fls φ P c))) 13 0 0) (P 4 0) (c_q φ P (l 0 0) c most) else cu (c_sand (P 3 0) (c_some φ P (l 0 0) c most) (c_fl c (P 3 0) (c_fls φ P c))) 13 0 0) = X at hE3 hKE
  by_cases hlt : c_q φ P (l 0 0) c most < c_some φ P (l 0 0) c most
  · rw [if_pos hlt]
    have em : c_some φ P (l 0 0) c most = c_q φ P (l 0 0) c most + 1 := by omega
    have eN : (c_some φ P (l 0 0) c most).toNat = (c_q φ P (l 0 0) c most).toNat + 1 := by omega
    rw [eN, mits_S]
    have hrun := run_sd hP hK hq.1 (cond_j hP hK hm ⟨hq.1, hlt⟩) hqs.1
    rw [← em] at hrun
    have h1 : SIM P X (itr (mrun φ P) (P 3 0).toNat 0 (mits φ P (c_q φ P (l 0 0) c most).toNat y)) := SIM_cong ⟨hrun, PW_dj h.2⟩ hE3
    have h2 := relAll_sim hN.2 hG.2 (P 3 0).toNat 0 _ _ _ h1 hKE (by omega) (by omega) (by omega)
    have h3 := fill_sim (P 3 0).toNat 0 _ _ h2 (by omega) (by omega)
    exact count_sim h3 hN.1
  · rw [if_neg hlt]
    have em : c_some φ P (l 0 0) c most = c_q φ P (l 0 0) c most := by omega
    rw [em]
    rw [em] at hE3
    exact SIM_cong hqs hE3
theorem many_sim {φ : Phi} {P l : Cs} (hP : PlanOk P l φ) : ∀ (k : Nat) (r B : Int) (c y : Cs), CK B c → 0 ≤ B → 0 ≤ r → r ≤ k → SIM P c y → SIM P (c_many φ P (l 0 0) k r c) (mits φ P r.toNat y)
  | 0, r, B, c, y, _, _, h0, h1, h => by
    rw [show r.toNat = 0 by omega]
    exact h
  | k + 1, r, B, c, y, hK, hB, h0, h1, h => by
    unfold c_many
    by_cases hr : r ≤ 0
    · rw [if_pos hr, show r.toNat = 0 by omega]
      exact h
    · rw [if_neg hr]
      have hs := c_some_in (z := l 0 0) (most := r) hP hK (by omega)
      have hq := c_q_in (z := l 0 0) (most := r) hP hK (by omega)
      have h2 := pass_sim (most := r) hP hK hB (by omega) h
      have h3 := many_sim hP k (r - max 1 (c_some φ P (l 0 0) c r)) _ _ _ (CK_pass (z := l 0 0) (most := r) hP hK hB (by omega)) (by omega) (by omega) (by omega) h2
      rw [← mits_add] at h3
      rw [show r.toNat = (c_some φ P (l 0 0) c r).toNat + (r - max 1 (c_some φ P (l 0 0) c r)).toNat by omega]
      exact h3
theorem copy_sim {P c d y : Cs} (hN : P 3 0 ≤ 8) (hG : P 4 0 ≤ 12) (h : SIM P d y) : SIM P (c_copy c d) y := by
  have hL := h.2.1
  have e10 : ∀ k, 0 ≤ k → k < d 11 0 → c_copy c d 10 k = d 10 k := fun k a b => cp_10 ⟨a, by omega⟩
  refine ⟨⟨fun f p f5 p0 p1 => ?_, fun f k f7 f9 k0 k1 => ?_, fun k k0 k1 => ?_, ?_, ?_⟩, ?_, ?_, ?_, ?_, ?_⟩
  · have := h.1.1 f p f5 p0 p1
    rcases (show f = 0 ∨ f = 1 ∨ f = 2 ∨ f = 3 ∨ f = 4 ∨ f = 5 by omega) with z | z | z | z | z | z <;> subst z
    · rw [cp_0 ⟨p0, by omega⟩]; exact this
    · rw [cp_1 ⟨p0, by omega⟩]; exact this
    · rw [cp_2 ⟨p0, by omega⟩]; exact this
    · rw [cp_3 ⟨p0, by omega⟩]; exact this
    · rw [cp_4 ⟨p0, by omega⟩]; exact this
    · rw [cp_5 ⟨p0, by omega⟩]; exact this
  · have := h.1.2.1 f k f7 f9 k0 k1
    rcases (show f = 7 ∨ f = 8 ∨ f = 9 by omega) with z | z | z <;> subst z
    · rw [cp_7 ⟨k0, by omega⟩]; exact this
    · rw [cp_8 ⟨k0, by omega⟩]; exact this
    · rw [cp_9 ⟨k0, by omega⟩]; exact this
  · rw [cp_11] at k1
    rw [e10 k k0 k1]; exact h.1.2.2.1 k k0 k1
  · rw [cp_11]; exact h.1.2.2.2.1
  · rw [cp_12]; exact h.1.2.2.2.2
  · rw [cp_11]; exact hL
  · intro k k0 k1
    rw [cp_11] at k1
    have := h.2.2.1 k k0 k1
    rw [e10 k k0 k1, cp_6 ⟨this.1, by omega⟩]
    exact this
  · intro j k j0 jk k1
    rw [cp_11] at k1
    rw [e10 j j0 (by omega), e10 k (by omega) k1]
    exact h.2.2.2.1 j k j0 jk k1
  · intro p p0 p1
    rw [cp_2 ⟨p0, by omega⟩]
    rcases h.2.2.2.2.1 p p0 p1 with z | z
    · exact Or.inl z
    · right
      rw [cp_6 ⟨z.1, by omega⟩]
      exact z
  · intro g g0 g1
    rw [cp_6 ⟨g0, by omega⟩, cp_11]
    rcases h.2.2.2.2.2 g g0 g1 with ⟨z, k, k0, k1, k2⟩ | ⟨z, z2, z3⟩
    · left
      exact ⟨z, k, k0, k1, by rw [e10 k k0 k1]; exact k2⟩
    · right
      rw [cp_2 ⟨z, by omega⟩]
      exact ⟨z, z2, z3⟩
