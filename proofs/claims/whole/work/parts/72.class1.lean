/-! the class's store beside the shared state -/
theorem CK_many {φ : Phi} {P l : Cs} {z : Int} (hP : PlanOk P l φ) : ∀ (k : Nat) (r B : Int) (c : Cs), CK B c → 0 ≤ B → 0 ≤ r → CK (B + 10 * r) (c_many φ P z k r c)
  | 0, r, B, c, h, _, hr => h.mono (by omega)
  | k + 1, r, B, c, h, hB, hr => by
    unfold c_many
    by_cases w : r ≤ 0
    · rw [if_pos w]; exact h.mono (by omega)
    · rw [if_neg w]
      have h1 := c_some_in (z := z) hP h (most := r) (by omega)
      have h2 := c_q_in (z := z) hP h (most := r) (by omega)
      have h3 := c_lim_in (P := P) (c := c) (most := r) (by omega)
      have hs : c_some φ P z c r = min (c_q φ P z c r + 1) (c_lim P c r) := rfl
      have := CK_many (φ := φ) (z := z) hP k (r - max 1 (c_some φ P z c r)) _ _ (CK_pass (z := z) hP h hB (most := r) (by omega)) (by omega) (by omega)
      exact this.mono (by omega)
theorem CK_2 {B : Int} {c : Cs} {p v w : Int} (h : CK B c) (hv : 0 ≤ p → p < 8 → 0 ≤ v ∧ 0 ≤ w ∧ v + w ≤ 1000000000) : CK B (cu (cu c 1 p w) 0 p v) := by
  refine ⟨CI_cu (CI_cu h.1 (by decide) (by decide) (by decide)) (by decide) (by decide) (by decide), fun q a b => ?_, fun k a b => ?_, ?_⟩
  · have := h.2.1 q a b
    simp only [cu_if, Nat.reduceEqDiff, false_and, if_false, true_and]
    by_cases z : q = p
    · subst z
      have := hv a b
      rw [if_pos rfl, if_pos rfl]
      omega
    · rw [if_neg z, if_neg z]
      exact this
  · simp only [cu_if, Nat.reduceEqDiff, false_and, if_false]
    exact h.2.2.1 k a b
  · simp only [cu_if, Nat.reduceEqDiff, false_and, if_false]
    exact h.2.2.2
theorem shY_sim {P c y : Cs} {p k : Int} (h : SIM P c y) (hp : 0 ≤ p ∧ p < P 3 0) : SIM P (shY c p k) (shY y p k) := by
  unfold shY
  rw [h.1.1 0 p (by decide) hp.1 hp.2, h.1.1 1 p (by decide) hp.1 hp.2]
  exact cuf_sim (by decide) (by decide) (cuf_sim (by decide) (by decide) h)
theorem CK_sh {B : Int} {c : Cs} {p k : Int} (h : CK B c) (hp : 0 ≤ p ∧ p < 8) (hk : 0 ≤ k) : CK B (shY c p k) := by
  have := h.2.1 p hp.1 hp.2
  exact CK_2 h (fun _ _ => by omega)
theorem piY_sim {P c y : Cs} {p k : Int} (h : SIM P c y) (hp : 0 ≤ p ∧ p < P 3 0) : SIM P (piY c p k) (piY y p k) := by
  unfold piY
  rw [h.1.1 0 p (by decide) hp.1 hp.2, h.1.1 5 p (by decide) hp.1 hp.2]
  exact cuf_sim (by decide) (by decide) (cuf_sim (by decide) (by decide) h)
theorem CK_pi {B : Int} {c : Cs} {p k : Int} (h : CK B c) (hk : 0 ≤ p → p < 8 → 0 ≤ c 0 p + k ∧ c 0 p + k + c 1 p ≤ 1000000000) : CK B (piY c p k) := CK_cu (CK_0 h (fun a b => by have := hk a b; omega)) (by omega)
theorem CYp_turn {P y : Cs} {n p : Int} (h : CYp P n y) (hN : P 3 0 ≤ 8) (hp : 0 ≤ p ∧ p < P 3 0) : CYp P (n + 1) (c_exchange y p) := by
  have e0 : ∀ q, c_exchange y p 0 q = if q = p then y 1 p else y 0 q := fun q => by simp [c_exchange, cu_if]
  have e1 : ∀ q, c_exchange y p 1 q = if q = p then y 0 p else y 1 q := fun q => by simp [c_exchange, cu_if]
  have e3 : ∀ q, c_exchange y p 3 q = y 3 q := fun q => by simp [c_exchange, cu_if]
  have e5 : ∀ q, c_exchange y p 5 q = y 5 q := fun q => by simp [c_exchange, cu_if]
  have e7 : ∀ q, c_exchange y p 7 q = y 7 q := fun q => by simp [c_exchange, cu_if]
  refine ⟨(QY_exch h.1 hN hp).mono (by omega), fun q a b => ?_, fun k a b => ?_, fun q a b => ?_⟩
  · have := h.2.1 q a b
    rw [e0, e1, e3, e5]
    by_cases z : q = p
    · subst z; rw [if_pos rfl, if_pos rfl]; omega
    · rw [if_neg z, if_neg z]; omega
  · rw [e7]; exact h.2.2.1 k a b
  · have := h.2.2.2 q a b
    rw [e0, e1, if_neg (by omega), if_neg (by omega)]
    exact this
theorem CYp_shake {P y : Cs} {n p k : Int} (h : CYp P n y) (hN : P 3 0 ≤ 8) (hp : 0 ≤ p ∧ p < P 3 0) (hk : 0 ≤ k) : CYp P (n + 1) (shY y p k) := by
  have e0 : ∀ q, shY y p k 0 q = if q = p then y 0 p + min k (y 1 p) else y 0 q := fun q => by simp [shY, cu_if]
  have e1 : ∀ q, shY y p k 1 q = if q = p then y 1 p - min k (y 1 p) else y 1 q := fun q => by simp [shY, cu_if]
  have e3 : ∀ q, shY y p k 3 q = y 3 q := fun q => by simp [shY, cu_if]
  have e5 : ∀ q, shY y p k 5 q = y 5 q := fun q => by simp [shY, cu_if]
  have e7 : ∀ q, shY y p k 7 q = y 7 q := fun q => by simp [shY, cu_if]
  refine ⟨?_, fun q a b => ?_, fun k a b => ?_, fun q a b => ?_⟩
  · obtain ⟨c, hS, hK⟩ := h.1
    exact ⟨shY c p k, shY_sim hS hp, (CK_sh hK (by omega) hk).mono (by omega)⟩
  · have := h.2.1 q a b
    rw [e0, e1, e3, e5]
    by_cases z : q = p
    · subst z; rw [if_pos rfl, if_pos rfl]; omega
    · rw [if_neg z, if_neg z]; omega
  · rw [e7]; exact h.2.2.1 k a b
  · have := h.2.2.2 q a b
    rw [e0, e1, if_neg (by omega), if_neg (by omega)]
    exact this
theorem CYp_dry {P y : Cs} {n p b : Int} (h : CYp P n y) (hb : b = 0 ∨ b = 1) : CYp P (n + 1) (cu y 3 p b) := by
  refine ⟨(QY_dry h.1).mono (by omega), fun q a c => ?_, fun k a c => ?_, fun q a c => ?_⟩
  · have := h.2.1 q a c
    rw [cu_f (by decide), cu_f (by decide), cu_f (by decide), cu_if]
    refine ⟨by omega, by omega, by omega, ?_⟩
    split
    · exact hb
    · exact this.2.2.2
  · rw [cu_f (by decide)]; exact h.2.2.1 k a c
  · rw [cu_f (by decide), cu_f (by decide)]; exact h.2.2.2 q a c
theorem CYp_pinch {P y : Cs} {n p k : Int} (h : CYp P n y) (hn : 0 ≤ n ∧ n ≤ 600) (hN : P 3 0 ≤ 8) (hG : P 4 0 ≤ 12) (hp : 0 ≤ p ∧ p < P 3 0) (hk : 0 ≤ y 0 p + k ∧ y 0 p + k ≤ 9999) : CYp P (n + 1) (piY y p k) := by
  have e0 : ∀ q, piY y p k 0 q = if q = p then y 0 p + k else y 0 q := fun q => by simp [piY, cu_if]
  have e1 : ∀ q, piY y p k 1 q = y 1 q := fun q => by simp [piY, cu_if]
  have e3 : ∀ q, piY y p k 3 q = y 3 q := fun q => by simp [piY, cu_if]
  have e5 : ∀ q, piY y p k 5 q = if q = p then y 5 p + k else y 5 q := fun q => by simp [piY, cu_if]
  have e7 : ∀ q, piY y p k 7 q = y 7 q := fun q => by simp [piY, cu_if]
  have hpp := h.2.1 p hp.1 hp.2
  have hpo := (h.1.post hN hG hp).1
  refine ⟨?_, fun q a b => ?_, fun j a b => ?_, fun q a b => ?_⟩
  · obtain ⟨c, hS, hK⟩ := h.1
    have c0 := hS.1.1 0 p (by decide) hp.1 hp.2
    have c1 := hS.1.1 1 p (by decide) hp.1 hp.2
    exact ⟨piY c p k, piY_sim hS hp, (CK_pi hK (fun _ _ => by omega)).mono (by omega)⟩
  · have := h.2.1 q a b
    rw [e0, e1, e3, e5]
    by_cases z : q = p
    · subst z; rw [if_pos rfl, if_pos rfl]; omega
    · rw [if_neg z, if_neg z]; omega
  · rw [e7]; exact h.2.2.1 j a b
  · have := h.2.2.2 q a b
    rw [e0, e1, if_neg (by omega)]
    exact this
theorem CYp_send {P y : Cs} {n p a : Int} (h : CYp P n y) (hn : 0 ≤ n) (hp : 0 ≤ p ∧ p < P 3 0) (h2 : y 2 p = -2) (hb : bdf y a ≠ -2) : CYp P (n + 1) (mstand (c_up y (bdf y a)) a p) := by
  have hbd := h.1.bed
  have hbr := bdf_r (y := y) (a := a) hbd.1.1
  have hk : 0 ≤ bdf y a ∧ bdf y a < y 11 0 ∧ y 10 (bdf y a) = a := by omega
  have ef : ∀ f q, f ≠ 2 → f ≠ 8 → f ≠ 10 → f ≠ 11 → mstand (c_up y (bdf y a)) a p f q = y f q := fun f q f2 f8 f10 f11 => by
    unfold mstand
    rw [cu_f f8, cu_f f2, c_up_f f10 f11]
  refine ⟨?_, fun q x b => ?_, fun j x b => ?_, fun q x b => ?_⟩
  · obtain ⟨c, hS, hK⟩ := h.1
    have e11 := hS.1.2.2.2.1
    have e10 := hS.1.2.2.1 (bdf y a) hk.1 (by omega)
    have e2 := hS.1.1 2 p (by decide) hp.1 hp.2
    have := send_sim (k := bdf y a) hS hp (by omega) (by omega)
    rw [← e10, hk.2.2] at this
    have hK2 := CK_send (p := p) (k := bdf y a) hK (by omega) (by omega)
    rw [← e10, hk.2.2] at hK2
    exact ⟨_, this, hK2.mono (by omega)⟩
  · rw [ef 0 q (by decide) (by decide) (by decide) (by decide), ef 1 q (by decide) (by decide) (by decide) (by decide), ef 3 q (by decide) (by decide) (by decide) (by decide), ef 5 q (by decide) (by decide) (by decide) (by decide)]
    have := h.2.1 q x b
    omega
  · rw [ef 7 j (by decide) (by decide) (by decide) (by decide)]; exact h.2.2.1 j x b
  · rw [ef 0 q (by decide) (by decide) (by decide) (by decide), ef 1 q (by decide) (by decide) (by decide) (by decide)]; exact h.2.2.2 q x b
/-! the next states are as they should be -/
theorem PI_nxRun {S : SS} {n k : Int} (h : PI S n) (hn : n < 600) : PI (nxRun S k) (n + 1) := by
  unfold nxRun
  obtain ⟨l, hPl⟩ := h.pl
  have h1 := h.n
  split
  · exact PI_up h hn (CYp_its hPl h.y h1.1 (by omega))
  · exact h.mono hn
theorem PI_nxTurn {S : SS} {n p : Int} (h : PI S n) (hn : n < 600) : PI (nxTurn S p) (n + 1) := by
  unfold nxTurn
  obtain ⟨l, hPl⟩ := h.pl
  split
  · rename_i z; exact PI_up h hn (CYp_turn h.y hPl.1.2 z)
  · exact h.mono hn
theorem PI_nxShake {S : SS} {n p k : Int} (h : PI S n) (hn : n < 600) : PI (nxShake S p k) (n + 1) := by
  unfold nxShake
  obtain ⟨l, hPl⟩ := h.pl
  split
  · rename_i z; exact PI_up h hn (CYp_shake h.y hPl.1.2 z.1 z.2)
  · exact h.mono hn
theorem PI_nxDry {S : SS} {n p b : Int} (h : PI S n) (hn : n < 600) (hb : b = 0 ∨ b = 1) : PI (nxDry S p b) (n + 1) := by
  unfold nxDry
  split
  · exact PI_up h hn (CYp_dry h.y hb)
  · exact h.mono hn
theorem PI_nxPinch {S : SS} {n p k : Int} (h : PI S n) (hn : n < 600) : PI (nxPinch S p k) (n + 1) := by
  unfold nxPinch
  obtain ⟨l, hPl⟩ := h.pl
  split
  · rename_i z; exact PI_up h hn (CYp_pinch h.y h.n hPl.1.2 hPl.2.1.2 z.1 z.2)
  · exact h.mono hn
theorem PI_nxSend {S : SS} {n a p : Int} (h : PI S n) (hn : n < 600) : PI (nxSend S a p) (n + 1) := by
  unfold nxSend
  split
  · rename_i z; exact PI_up h hn (CYp_send h.y h.n.1 z.2.1 z.2.2.1 z.2.2.2)
  · exact h.mono hn
theorem PI_nxUndo {S : SS} {n : Int} (h : PI S n) (hn : n < 600) : PI (nxUndo S) (n + 1) := by
  unfold nxUndo
  have := h.hz
  split
  · exact h.mono hn
  · exact PI_un h hn (by omega)
theorem PI_nxTell {S : SS} {n p t : Int} (h : PI S n) (hn : n < 600) : PI (nxTell S p t) (n + 1) := by
  unfold nxTell
  split
  · rename_i z; exact PI_te h hn z.2.1 z.2.2 z.1
  · exact h.mono hn
theorem PI_nxHold {S : SS} {n s : Int} (h : PI S n) (hn : n < 600) : PI (nxHold S s) (n + 1) := by
  unfold nxHold
  split
  · exact PI_ho h hn
  · exact h.mono hn
theorem PI_nxRe {S : SS} {n s : Int} (h : PI S n) (hn : n < 600) : PI (nxRe S s) (n + 1) := by
  unfold nxRe
  split
  · rename_i z; exact PI_re h hn (by have := z.1; omega) z.2
  · exact h.mono hn
theorem PI_nxBack {S : SS} {n k : Int} (h : PI S n) (hn : n < 600) : PI (nxBack S k) (n + 1) := by
  unfold nxBack
  have := h.tz
  split
  · exact PI_ta h hn (by omega)
  · exact h.mono hn
theorem PI_nxFeed {S : SS} {n a b c d e : Int} (h : PI S n) (hn : n < 600) : PI (nxFeed S a b c d e) (n + 1) := by
  unfold nxFeed
  have := h.tz
  split
  · exact PI_ta h hn (by omega)
  · exact h.mono hn
/-! the class's store -/
def CB (P : Cs) (n : Int) (c y : Cs) : Prop := SIM P c y ∧ CK (20000 * n) c
theorem CB.mono {P c y : Cs} {n : Int} (h : CB P n c y) : CB P (n + 1) c y := ⟨h.1, h.2.mono (by omega)⟩
theorem CB_copy {P c d y : Cs} {n : Int} (hN : P 3 0 ≤ 8) (hG : P 4 0 ≤ 12) (h : CB P n d y) : CB P n (c_copy c d) y := ⟨copy_sim hN hG h.1, CK_copy h.2⟩
def HI (S : SS) (n : Int) (σ : St) : Prop := σ 9 0 0 = sHz S ∧ (0 ≤ σ 9 2 0 ∧ σ 9 2 0 < 40) ∧ ∀ j, 0 ≤ j → j < sHz S → CB (sP S) n (σ (32 + ((σ 9 2 0 + 39 - j) % 40).toNat)) (sHn S j)
def KI (S : SS) (n : Int) (σ : St) : Prop := ∀ s, 0 ≤ s → s < 3 → σ 0 7 s = sKf S s ∧ (sKf S s ≠ 0 → CB (sP S) n (σ (23 + s.toNat)) (sKs S s))
def DI (S : SS) (d : Cs) : Prop := (d 6 0 ≠ 0 → d 5 0 = mso (sF S) (sP S) 3001 0 (sY S)) ∧ dFi (sF S) (sP S) (sY S) d ∧ dTi (sF S) (sP S) (sY S) d
def RuI (S : SS) (d : Cs) : Prop := d 2 0 = sTn S ∧ d 4 = sTp S ∧ d 5 = sTm S ∧ rI (sF S) (sP S) (sB S) d
def TI (S : SS) (d : Cs) : Prop := d 1 0 = sTz S ∧ ∀ i, 0 ≤ i → i < sTz S → d 0 i = sTb S i
def RdI (σ : St) : Prop := σ 4 1 0 = 0 ∧ (∀ f k, (f = 3 ∨ f = 4 ∨ f = 5) → 0 ≤ k → k < 8 → σ 16 f k = 0) ∧ (∀ f k, 7 ≤ f → f ≤ 9 → 0 ≤ k → k < 12 → σ 16 f k = 0) ∧ σ 16 12 0 = 0 ∧ ∀ f p, f ≤ 1 → 0 ≤ p → p < 8 → 0 ≤ σ 16 f p ∧ σ 16 f p ≤ 9999
def IVc (S : SS) (n : Int) (σ : St) : Prop := (σ 7 = sP S ∧ PlanOk (sP S) (σ 8) (sF S)) ∧ (CB (sP S) n (σ 18) (sY S) ∧ CB (sP S) n (σ 17) (sB S)) ∧ HI S n σ ∧ KI S n σ ∧ DI S (σ 11) ∧ gI (sF S) (sP S) (sY S) (σ 12) ∧ RuI S (σ 13) ∧ TI S (σ 2) ∧ σ 0 12 0 = sFp S ∧ RdI σ
theorem IVc.e7 {S : SS} {n : Int} {σ : St} (h : IVc S n σ) : σ 7 = sP S := h.1.1
theorem IVc.pl {S : SS} {n : Int} {σ : St} (h : IVc S n σ) : PlanOk (σ 7) (σ 8) (sF S) := by rw [h.e7]; exact h.1.2
theorem IVc.y {S : SS} {n : Int} {σ : St} (h : IVc S n σ) : CB (sP S) n (σ 18) (sY S) := h.2.1.1
theorem IVc.b {S : SS} {n : Int} {σ : St} (h : IVc S n σ) : CB (sP S) n (σ 17) (sB S) := h.2.1.2
theorem IVc.hi {S : SS} {n : Int} {σ : St} (h : IVc S n σ) : HI S n σ := h.2.2.1
theorem IVc.ki {S : SS} {n : Int} {σ : St} (h : IVc S n σ) : KI S n σ := h.2.2.2.1
theorem IVc.di {S : SS} {n : Int} {σ : St} (h : IVc S n σ) : DI S (σ 11) := h.2.2.2.2.1
theorem IVc.ga {S : SS} {n : Int} {σ : St} (h : IVc S n σ) : gI (sF S) (sP S) (sY S) (σ 12) := h.2.2.2.2.2.1
theorem IVc.ru {S : SS} {n : Int} {σ : St} (h : IVc S n σ) : RuI S (σ 13) := h.2.2.2.2.2.2.1
theorem IVc.ta {S : SS} {n : Int} {σ : St} (h : IVc S n σ) : TI S (σ 2) := h.2.2.2.2.2.2.2.1
theorem IVc.fp {S : SS} {n : Int} {σ : St} (h : IVc S n σ) : σ 0 12 0 = sFp S := h.2.2.2.2.2.2.2.2.1
theorem IVc.rd {S : SS} {n : Int} {σ : St} (h : IVc S n σ) : RdI σ := h.2.2.2.2.2.2.2.2.2
/-- only scratch has changed -/
def scr : List Nat := [1, 8, 10, 11, 12, 13, 19, 20, 21, 22]
theorem ns_big {o : Nat} (h : 23 ≤ o) : o ∉ scr := by
  intro z
  simp only [scr, List.mem_cons, List.not_mem_nil, or_false] at z
  omega
theorem IVc.keep {S : SS} {n : Int} {σ u : St} (h : IVc S n σ) (hk : ∀ o, o ∉ scr → u o = σ o) (hl : LSm (σ 8) (u 8)) (hd : DI S (u 11)) (hg : gI (sF S) (sP S) (sY S) (u 12)) (hr : RuI S (u 13)) : IVc S (n + 1) u := by
  refine ⟨⟨?_, ?_⟩, ⟨?_, ?_⟩, ⟨?_, ?_, fun j a b => ?_⟩, fun s a b => ?_, hd, hg, hr, ?_, ?_, ?_⟩
  · rw [hk 7 (by decide)]; exact h.e7
  · exact h.1.2.same hl
  · rw [hk 18 (by decide)]; exact h.y.mono
  · rw [hk 17 (by decide)]; exact h.b.mono
  · rw [hk 9 (by decide)]; exact h.hi.1
  · rw [hk 9 (by decide)]; exact h.hi.2.1
  · rw [hk 9 (by decide), hk _ (ns_big (by omega))]; exact (h.hi.2.2 j a b).mono
  · rw [hk 0 (by decide), hk _ (ns_big (by omega))]; exact ⟨(h.ki s a b).1, fun z => ((h.ki s a b).2 z).mono⟩
  · rw [hk 2 (by decide)]; exact h.ta
  · rw [hk 0 (by decide)]; exact h.fp
  · unfold RdI; rw [hk 4 (by decide), hk 16 (by decide)]; exact h.rd
theorem IVc.next {S : SS} {n : Int} {σ : St} (h : IVc S n σ) : IVc S (n + 1) σ := h.keep (fun _ _ => rfl) (LSm.rf _) h.di h.ga h.ru
/-- behind one thing begun -/
def bgT (σ : St) : St := so (so (so (so σ (32 + (σ 9 2 0).toNat) (c_copy (σ (32 + (σ 9 2 0).toNat)) (σ 18))) 9 (h_keep (σ 9))) 11 (cu (cu (cu (σ 11) 6 0 0) 7 0 0) 8 0 0)) 12 (cu (σ 12) 2 0 0)
theorem bgT_o {σ : St} {o : Nat} (h9 : o ≠ 9) (h11 : o ≠ 11) (h12 : o ≠ 12) (h32 : o < 32) : bgT σ o = σ o := by
  unfold bgT
  rw [so_ne h12, so_ne h11, so_ne h9, so_ne (by omega)]
theorem bgT_9 (σ : St) : bgT σ 9 = h_keep (σ 9) := by unfold bgT; rw [so_ne (by decide), so_ne (by decide), so_at]
theorem bgT_11 (σ : St) : bgT σ 11 = cu (cu (cu (σ 11) 6 0 0) 7 0 0) 8 0 0 := by unfold bgT; rw [so_ne (by decide), so_at]
theorem bgT_12 (σ : St) : bgT σ 12 = cu (σ 12) 2 0 0 := by unfold bgT; rw [so_at]
theorem bgT_k (σ : St) {o : Nat} (h : 32 ≤ o) : bgT σ o = if o = 32 + (σ 9 2 0).toNat then c_copy (σ o) (σ 18) else σ o := by
  unfold bgT
  rw [so_ne (by omega), so_ne (by omega), so_ne (by omega)]
  by_cases z : o = 32 + (σ 9 2 0).toNat
  · rw [if_pos z, z, so_at]
  · rw [if_neg z, so_ne z]
theorem no_DI (S : SS) {d : Cs} (h6 : d 6 0 = 0) (h7 : d 7 0 = 0) (h8 : d 8 0 = 0) : DI S d := ⟨fun z => absurd h6 z, fun z => absurd h7 z, fun z => absurd h8 z⟩
theorem RuI.up {S : SS} {d y : Cs} (h : RuI S d) : RuI (upS S y) d := h
theorem IVc.upT {S : SS} {n : Int} {σ : St} {l' c' y' : Cs} (h : IVc S n σ) (hp : PI S n) (hl : LSm (σ 8) l') (hc : CB (sP S) (n + 1) c' y') : IVc (upS S y') (n + 1) (SF (bgT σ) 18 l' c') := by
  have hz := hp.hz
  have hN := h.1.2.1
  have hG := h.1.2.2.1
  have h9 := h.hi
  have eo : ∀ o, o ≠ 8 → o ≠ 18 → SF (bgT σ) 18 l' c' o = bgT σ o := fun o a b => by unfold SF; rw [so_ne b, so_ne a]
  have k2 : h_keep (σ 9) 2 0 = (σ 9 2 0 + 1) % 40 := by unfold h_keep; rw [cu_f (by decide), cu_s]
  have k0 : h_keep (σ 9) 0 0 = min (σ 9 0 0 + 1) 40 := by unfold h_keep; rw [cu_s]
  refine ⟨⟨?_, ?_⟩, ⟨?_, ?_⟩, ⟨?_, ?_, fun j a b => ?_⟩, fun s a b => ?_, ?_, ?_, ?_, ?_, ?_, ?_⟩
  · rw [eo 7 (by decide) (by decide), bgT_o (by decide) (by decide) (by decide) (by decide)]; exact h.e7
  · show PlanOk (sP S) (SF (bgT σ) 18 l' c' 8) (sF S)
    unfold SF
    rw [so_ne (by decide), so_at]
    exact h.1.2.same hl
  · show CB (sP S) (n + 1) (SF (bgT σ) 18 l' c' 18) y'
    unfold SF
    rw [so_at]
    exact hc
  · rw [eo 17 (by decide) (by decide), bgT_o (by decide) (by decide) (by decide) (by decide)]; exact h.b.mono
  · rw [eo 9 (by decide) (by decide), bgT_9, k0, h9.1]; rfl
  · rw [eo 9 (by decide) (by decide), bgT_9, k2]; omega
  · have b : j < min (sHz S + 1) 40 := b
    rw [eo 9 (by decide) (by decide), bgT_9, k2, eo _ (by omega) (by omega), bgT_k σ (by omega)]
    show CB (sP S) (n + 1) _ (if j = 0 then sY S else sHn S (j - 1))
    have h92 := h9.2.1
    by_cases z : j = 0
    · rw [if_pos z, if_pos (by omega)]
      exact (CB_copy hN.2 hG.2 h.y).mono
    · rw [if_neg z, if_neg (by omega)]
      have := h9.2.2 (j - 1) (by omega) (by omega)
      rw [show (σ 9 2 0 + 39 - (j - 1)) % 40 = ((σ 9 2 0 + 1) % 40 + 39 - j) % 40 by omega] at this
      exact this.mono
  · rw [eo 0 (by decide) (by decide), bgT_o (by decide) (by decide) (by decide) (by decide), eo _ (by omega) (by omega), bgT_o (by omega) (by omega) (by omega) (by omega)]
    exact ⟨(h.ki s a b).1, fun z => ((h.ki s a b).2 z).mono⟩
  · rw [eo 11 (by decide) (by decide), bgT_11]
    exact no_DI _ (by rw [cu_f (by decide), cu_f (by decide), cu_s]) (by rw [cu_f (by decide), cu_s]) (cu_s _ _ _ _)
  · rw [eo 12 (by decide) (by decide), bgT_12]
    exact fun z => absurd (cu_s _ _ _ _) z
  · rw [eo 13 (by decide) (by decide), bgT_o (by decide) (by decide) (by decide) (by decide)]; exact h.ru
  · rw [eo 2 (by decide) (by decide), bgT_o (by decide) (by decide) (by decide) (by decide)]; exact h.ta
  · rw [eo 0 (by decide) (by decide), bgT_o (by decide) (by decide) (by decide) (by decide)]; exact h.fp
  · unfold RdI
    rw [eo 4 (by decide) (by decide), eo 16 (by decide) (by decide), bgT_o (by decide) (by decide) (by decide) (by decide), bgT_o (by decide) (by decide) (by decide) (by decide)]; exact h.rd
theorem SF8 (σ : St) (c : Cs) : so σ 18 c = SF σ 18 (σ 8) c := by unfold SF; rw [so_id]
theorem bgT_8 (σ : St) : bgT σ 8 = σ 8 := bgT_o (by decide) (by decide) (by decide) (by decide)
theorem bgT_18 (σ : St) : bgT σ 18 = σ 18 := bgT_o (by decide) (by decide) (by decide) (by decide)
theorem bgT_7 (σ : St) : bgT σ 7 = σ 7 := bgT_o (by decide) (by decide) (by decide) (by decide)
theorem bgT_1 (σ : St) : bgT σ 1 = σ 1 := bgT_o (by decide) (by decide) (by decide) (by decide)
theorem IVc.up0 {S : SS} {n : Int} {σ : St} {c' y' : Cs} (h : IVc S n σ) (hp : PI S n) (hc : CB (sP S) (n + 1) c' y') : so (bgT σ) 18 c' 1 = σ 1 ∧ IVc (upS S y') (n + 1) (so (bgT σ) 18 c') := by
  refine ⟨?_, ?_⟩
  · rw [so_ne (by decide)]; exact bgT_1 σ
  · rw [SF8, bgT_8]; exact h.upT hp (LSm.rf _) hc
/-! the class's small methods -/
theorem k_Sg_noteChange {σ : St} : CtV M_Sg_noteChange [.inr (.inr (0, 0))] σ (fun u => u = so (so σ 11 (cu (cu (cu (σ 11) 6 0 0) 7 0 0) 8 0 0)) 12 (cu (σ 12) 2 0 0)) := by
  intro g C F
  refine e_aload_n C d_Sg_noteChange_0 rfl ?_
  refine e_geto (o2 := 11) C fl_Sg_65 (by decide) rfl rfl rfl d_Sg_noteChange_1 ?_
  refine e_callVV C ok_Dr_forgetFound lk_Sg_318 (o := 11) (by decide) rfl [] rfl rfl (Nat.le_of_ble_eq_true rfl) (by decide) (Nat.le_of_ble_eq_true rfl) d_Sg_noteChange_4 (k_Dr_forgetFound) (fun u_4 h_4 => ?_)
  subst h_4
  refine e_aload_n C d_Sg_noteChange_7 rfl ?_
  refine e_geto (o2 := 12) C fl_Sg_72 (by decide) rfl rfl rfl d_Sg_noteChange_8 ?_
  refine e_iconst C d_Sg_noteChange_11 ?_
  refine e_putz C fp_Sg_321 (by decide) rfl rfl (by omega) d_Sg_noteChange_12 ?_
  refine e_vret C F rfl d_Sg_noteChange_15 ?_
  rw [wr_so, so_ne (show 12 ≠ 11 by decide)]
theorem k_Sg_beginThing {σ : St} (hn : 0 ≤ σ 9 2 0 ∧ σ 9 2 0 < 40) (hs : 0 ≤ σ 9 0 0 ∧ σ 9 0 0 ≤ 40) : CtV M_Sg_beginThing [.inr (.inr (0, 0))] σ (fun u => u = bgT σ) := by
  intro g C F
  refine e_aload_n C d_Sg_beginThing_0 rfl ?_
  refine e_geto (o2 := 9) C fl_Sg_43 (by decide) rfl rfl rfl d_Sg_beginThing_1 ?_
  refine e_aload_n C d_Sg_beginThing_4 rfl ?_
  refine e_geto (o2 := 18) C fl_Sg_37 (by decide) rfl rfl rfl d_Sg_beginThing_5 ?_
  refine e_callVV C ok_Hi_keep lk_Sg_315 (o := 9) (by decide) rfl [_] rfl rfl (Nat.le_of_ble_eq_true rfl) (by decide) (Nat.le_of_ble_eq_true rfl) d_Sg_beginThing_8 (k_Hi_keep hn hs) (fun u_8 h_8 => ?_)
  subst h_8
  refine e_aload_n C d_Sg_beginThing_11 rfl ?_
  refine e_callVV C ok_Sg_noteChange lk_Sg_123 (o := 0) (by decide) rfl [] rfl rfl (Nat.le_of_ble_eq_true rfl) (by decide) (Nat.le_of_ble_eq_true rfl) d_Sg_beginThing_12 (k_Sg_noteChange) (fun u_12 h_12 => ?_)
  subst h_12
  refine e_vret C F rfl d_Sg_beginThing_15 ?_
  unfold bgT
  rw [so_ne (show 11 ≠ 9 by decide), so_ne (show 11 ≠ 32 + (σ 9 2 0).toNat by omega), so_ne (show 12 ≠ 9 by decide), so_ne (show 12 ≠ 32 + (σ 9 2 0).toNat by omega)]
theorem k_Sg_isPost {σ : St} {p : Int} (hp : R32 p) : CtI M_Sg_isPost [.inr (.inr (0, 0)), .inl p] σ (fun r u => r = (if 0 ≤ p ∧ p < σ 7 3 0 then 1 else 0) ∧ u = σ) := by
  intro g C F
  refine e_iload_n C d_Sg_isPost_0 rfl ?_
  refine e_if_lt C 19 d_Sg_isPost_1 (by decide) (by omega) (fun c_1 => ?_) (fun c_1 => ?_)
  · refine e_iconst C d_Sg_isPost_19 ?_
    refine e_zret C F rfl d_Sg_isPost_20 (by omega) ?_
    refine ⟨?_, rfl⟩
    first | rw [if_pos (by omega)] | rw [if_neg (by omega)]
  · refine e_iload_n C d_Sg_isPost_4 rfl ?_
    refine e_aload_n C d_Sg_isPost_5 rfl ?_
    refine e_geto (o2 := 7) C fl_Sg_26 (by decide) rfl rfl rfl d_Sg_isPost_6 ?_
    refine e_geti C fl_Sg_244 (by decide) rfl rfl d_Sg_isPost_9 (fun r_9 => ?_)
    refine e_icmp_ge C 19 d_Sg_isPost_12 (by decide) (by omega) (by omega) (fun c_12 => ?_) (fun c_12 => ?_)
    · refine e_iconst C d_Sg_isPost_19 ?_
      refine e_zret C F rfl d_Sg_isPost_20 (by omega) ?_
      refine ⟨?_, rfl⟩
      first | rw [if_pos (by omega)] | rw [if_neg (by omega)]
    · refine e_iconst C d_Sg_isPost_15 ?_
      refine e_goto C 20 d_Sg_isPost_16 (by decide) ?_
      refine e_zret C F rfl d_Sg_isPost_20 (by omega) ?_
      refine ⟨?_, rfl⟩
      first | rw [if_pos (by omega)] | rw [if_neg (by omega)]
theorem k_Sg_isGuard {σ : St} {p : Int} (hp : R32 p) : CtI M_Sg_isGuard [.inr (.inr (0, 0)), .inl p] σ (fun r u => r = (if 0 ≤ p ∧ p < σ 7 4 0 then 1 else 0) ∧ u = σ) := by
  intro g C F
  refine e_iload_n C d_Sg_isGuard_0 rfl ?_
  refine e_if_lt C 19 d_Sg_isGuard_1 (by decide) (by omega) (fun c_1 => ?_) (fun c_1 => ?_)
  · refine e_iconst C d_Sg_isGuard_19 ?_
    refine e_zret C F rfl d_Sg_isGuard_20 (by omega) ?_
    refine ⟨?_, rfl⟩
    first | rw [if_pos (by omega)] | rw [if_neg (by omega)]
  · refine e_iload_n C d_Sg_isGuard_4 rfl ?_
    refine e_aload_n C d_Sg_isGuard_5 rfl ?_
    refine e_geto (o2 := 7) C fl_Sg_26 (by decide) rfl rfl rfl d_Sg_isGuard_6 ?_
    refine e_geti C fl_Sg_241 (by decide) rfl rfl d_Sg_isGuard_9 (fun r_9 => ?_)
    refine e_icmp_ge C 19 d_Sg_isGuard_12 (by decide) (by omega) (by omega) (fun c_12 => ?_) (fun c_12 => ?_)
    · refine e_iconst C d_Sg_isGuard_19 ?_
      refine e_zret C F rfl d_Sg_isGuard_20 (by omega) ?_
      refine ⟨?_, rfl⟩
      first | rw [if_pos (by omega)] | rw [if_neg (by omega)]
    · refine e_iconst C d_Sg_isGuard_15 ?_
      refine e_goto C 20 d_Sg_isGuard_16 (by decide) ?_
      refine e_zret C F rfl d_Sg_isGuard_20 (by omega) ?_
      refine ⟨?_, rfl⟩
      first | rw [if_pos (by omega)] | rw [if_neg (by omega)]
