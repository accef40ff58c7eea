/-! what a law tells: the class's steps beside what came out -/
def vvs (n w a b m q : Int) : Int → Int := fun j => if j = 0 then n else if j = 1 then w else if j = 2 then a else if j = 3 then b else if j = 4 then m else q
def opv (k a b : Int) : Int := n32 (if k = 2 then a + b else if k = 3 then a - b else if k = 4 then a * b else a.tdiv b)
def evs (v : Int → Int) : List Cd → List Int → Option (List Int)
  | [], s => some s
  | c :: r, s => if c.1 = 0 then evs v r (c.2 :: s) else if c.1 = 1 then evs v r (v c.2 :: s) else match s with
    | b :: a :: s' => if c.1 = 5 ∧ b = 0 then none else evs v r (opv c.1 a b :: s')
    | s => evs v r s
def evl (v : Int → Int) (pf : List Cd) : Option Int := (evs v pf []).map hdU
def phb (v : Int → Int) : List Br → Int
  | [] => 0
  | b :: L => if b.1 = true then (match evl v b.2.1 with
      | none => 0
      | some x => match evl v b.2.2.1 with
        | none => 0
        | some y => if x < y then (evl v b.2.2.2).getD 0 else phb v L) else (evl v b.2.2.2).getD 0
def phi (L : List Br) : Phi := fun n w a b m q => phb (vvs n w a b m q) L
def LR (L : Cs) (i : Int) (a : Int → Int) : Int := lrun L (401 - i).toNat i a
theorem LR_S {L : Cs} {i : Int} {a : Int → Int} (h : i ≤ 400) : LR L i a = lrun L ((401 - (i + 1)).toNat + 1) i a := by unfold LR; rw [show (401 - i).toNat = (401 - (i + 1)).toNat + 1 by omega]
/-- rows that stay as they are when a law grows -/
def ExM (l L : Cs) : Prop := l 7 0 ≤ L 7 0 ∧ (∀ i, 0 ≤ i → i < l 7 0 → L 2 i = l 2 i ∧ L 3 i = l 3 i ∧ L 4 i = l 4 i) ∧ (l 8 0 ≤ L 8 0 ∧ ∀ k, 6 ≤ k → k < 6 + l 8 0 → L 6 k = l 6 k)
theorem ExM.ad {l L : Cs} {o a b : Int} (h : ExM (addS l o a b) L) (h7 : 0 ≤ l 7 0) : ExM l L ∧ L 2 (l 7 0) = o ∧ L 3 (l 7 0) = a ∧ L 4 (l 7 0) = b := by
  obtain ⟨h1, h2, h3⟩ := h
  have e := addS_78 l o a b
  rw [e.1] at h1 h2
  rw [e.2] at h3
  have e2 : ∀ j, addS l o a b 2 j = if j = l 7 0 then o else l 2 j := fun j => by unfold addS; simp [cu_if]
  have e3 : ∀ j, addS l o a b 3 j = if j = l 7 0 then a else l 3 j := fun j => by unfold addS; simp [cu_if]
  have e4 : ∀ j, addS l o a b 4 j = if j = l 7 0 then b else l 4 j := fun j => by unfold addS; simp [cu_if]
  have e6 : ∀ j, addS l o a b 6 j = l 6 j := fun j => by unfold addS; simp [cu_if]
  refine ⟨⟨by omega, fun i i0 i1 => ?_, h3.1, fun k k0 k1 => ?_⟩, ?_⟩
  · have := h2 i i0 (by omega)
    rw [e2, e3, e4, if_neg (by omega), if_neg (by omega), if_neg (by omega)] at this
    exact this
  · rw [h3.2 k k0 k1, e6]
  · have := h2 (l 7 0) h7 (by omega)
    rw [e2, e3, e4, if_pos rfl, if_pos rfl, if_pos rfl] at this
    exact this
theorem ExM.ui {l L : Cs} {v : Int} (h : ExM (useI l v) L) (h8 : 0 ≤ l 8 0) : ExM l L ∧ L 6 (6 + l 8 0) = v := by
  obtain ⟨h1, h2, h3⟩ := h
  have e := useI_78 l v
  rw [e.1] at h1 h2
  rw [e.2] at h3
  have ef : ∀ f j, f ≠ 6 → f ≠ 8 → useI l v f j = l f j := fun f j a b => by unfold useI; rw [cu_f b, cu_f a]
  have e6 : ∀ j, useI l v 6 j = if j = 6 + l 8 0 then v else l 6 j := fun j => by unfold useI; simp [cu_if]
  refine ⟨⟨h1, fun i i0 i1 => ?_, by omega, fun k k0 k1 => ?_⟩, ?_⟩
  · have := h2 i i0 i1
    rw [ef 2 i (by decide) (by decide), ef 3 i (by decide) (by decide), ef 4 i (by decide) (by decide)] at this
    exact this
  · rw [h3.2 k k0 (by omega), e6, if_neg (by omega)]
  · rw [h3.2 (6 + l 8 0) (by omega) (by omega), e6, if_pos rfl]
theorem ExM.uv {l L : Cs} {v : Int} (h : ExM (useV l v) L) : ExM l L := by
  obtain ⟨h1, h2, h3⟩ := h
  have ef : ∀ f j, f ≠ 0 → f ≠ 1 → useV l v f j = l f j := fun f j a b => by unfold useV; rw [cu_f b, cu_f a]
  rw [ef 7 0 (by decide) (by decide)] at h1 h2
  rw [ef 8 0 (by decide) (by decide)] at h3
  refine ⟨h1, fun i i0 i1 => ?_, h3.1, fun k k0 k1 => ?_⟩
  · have := h2 i i0 i1
    rw [ef 2 i (by decide) (by decide), ef 3 i (by decide) (by decide), ef 4 i (by decide) (by decide)] at this
    exact this
  · rw [h3.2 k k0 k1, ef 6 k (by decide) (by decide)]
theorem ExM.cs {L : Cs} {p : Cs × List Int} {c : Cd} (h : ExM (cgs p c).1 L) (h7 : 0 ≤ p.1 7 0) (h8 : 0 ≤ p.1 8 0) : ExM p.1 L := by
  unfold cgs at h
  by_cases c0 : c.1 = 0
  · rw [if_pos c0] at h; exact (h.ui h8).1
  rw [if_neg c0] at h
  by_cases c1 : c.1 = 1
  · rw [if_pos c1] at h; exact h.uv
  rw [if_neg c1] at h
  obtain ⟨l1, U⟩ := p
  match U, h with
  | [], h => exact h
  | [b], h => exact h
  | b :: a :: U, h => exact (h.ad h7).1
theorem cgs_nn {p : Cs × List Int} {c : Cd} (h7 : 0 ≤ p.1 7 0) (h8 : 0 ≤ p.1 8 0) : 0 ≤ (cgs p c).1 7 0 ∧ 0 ≤ (cgs p c).1 8 0 := by
  unfold cgs
  by_cases c0 : c.1 = 0
  · rw [if_pos c0]; have := useI_78 p.1 c.2; show 0 ≤ useI p.1 c.2 7 0 ∧ 0 ≤ useI p.1 c.2 8 0; omega
  rw [if_neg c0]
  by_cases c1 : c.1 = 1
  · rw [if_pos c1]; have := useV_78 p.1 c.2; show 0 ≤ useV p.1 c.2 7 0 ∧ 0 ≤ useV p.1 c.2 8 0; omega
  rw [if_neg c1]
  obtain ⟨l1, U⟩ := p
  match U with
  | [] => exact ⟨h7, h8⟩
  | [b] => exact ⟨h7, h8⟩
  | b :: a :: U => have := addS_78 l1 (c.1 - 2) a b; have h7 : 0 ≤ l1 7 0 := h7; have h8 : 0 ≤ l1 8 0 := h8; show 0 ≤ addS l1 (c.1 - 2) a b 7 0 ∧ 0 ≤ addS l1 (c.1 - 2) a b 8 0; omega
theorem ExM.fold {L : Cs} : ∀ (pf : List Cd) (p : Cs × List Int), ExM (pf.foldl cgs p).1 L → 0 ≤ p.1 7 0 → 0 ≤ p.1 8 0 → ExM p.1 L
  | [], p, h, _, _ => h
  | c :: pf, p, h, h7, h8 => by
    have := cgs_nn (c := c) h7 h8
    exact (ExM.fold pf _ h this.1 this.2).cs h7 h8
set_option maxHeartbeats 1000000 in
theorem run_fold {L : Cs} {v : Int → Int} (hL7 : L 7 0 ≤ 400) (hL8 : L 8 0 ≤ 400) : ∀ (pf : List Cd) (p : Cs × List Int) (a : Int → Int), ExM (pf.foldl cgs p).1 L → 0 ≤ p.1 7 0 → 0 ≤ p.1 8 0 → (∀ k, 6 ≤ k → k < 406 → a k = L 6 k) → (∀ j, 0 ≤ j → j ≤ 5 → a j = v j) → (∀ u ∈ p.2, 0 ≤ u ∧ u < 406 + p.1 7 0) → (∀ c ∈ pf, cok c) → (evs v pf (p.2.map a) = none → LR L (p.1 7 0) a = 0) ∧ ∀ s, evs v pf (p.2.map a) = some s → ∃ a', LR L (p.1 7 0) a = LR L ((pf.foldl cgs p).1 7 0) a' ∧ (∀ k, k < 406 + p.1 7 0 → a' k = a k) ∧ (pf.foldl cgs p).2.map a' = s ∧ p.1 7 0 ≤ (pf.foldl cgs p).1 7 0
  | [], p, a, _, _, _, _, _, _, _ => ⟨fun h => (by cases h), fun s h => ⟨a, rfl, fun _ _ => rfl, by cases h; rfl, Int.le_refl _⟩⟩
  | c :: pf, (l, U), a, hE, h7, h8, ha, hv, hU, hc => by
    have hE : ExM (pf.foldl cgs (cgs (l, U) c)).1 L := hE
    have h7 : 0 ≤ l 7 0 := h7
    have h8 : 0 ≤ l 8 0 := h8
    have hnn := cgs_nn (p := (l, U)) (c := c) h7 h8
    have hE1 := ExM.fold pf _ hE hnn.1 hnn.2
    have hcc := hc c List.mem_cons_self
    have hc2 : ∀ d ∈ pf, cok d := fun d hd => hc d (List.mem_cons_of_mem _ hd)
    show (evs v (c :: pf) (U.map a) = none → LR L (l 7 0) a = 0) ∧ ∀ s, evs v (c :: pf) (U.map a) = some s → ∃ a', LR L (l 7 0) a = LR L ((pf.foldl cgs (cgs (l, U) c)).1 7 0) a' ∧ (∀ k, k < 406 + l 7 0 → a' k = a k) ∧ (pf.foldl cgs (cgs (l, U) c)).2.map a' = s ∧ l 7 0 ≤ (pf.foldl cgs (cgs (l, U) c)).1 7 0
    by_cases c0 : c.1 = 0
    · have eg : cgs (l, U) c = (useI l c.2, (6 + l 8 0) :: U) := by unfold cgs; rw [if_pos c0]
      rw [eg] at hE hE1 ⊢
      have e78 := useI_78 l c.2
      obtain ⟨x1, x2⟩ := ExM.ui hE1 h8
      have h81 : l 8 0 + 1 ≤ L 8 0 := by have := hE1.2.2.1; have this : useI l c.2 8 0 ≤ L 8 0 := this; omega
      have ea : a (6 + l 8 0) = c.2 := by rw [ha _ (by omega) (by omega)]; exact x2
      have ev : evs v (c :: pf) (U.map a) = evs v pf (((6 + l 8 0) :: U).map a) := by
        show (if c.1 = 0 then evs v pf (c.2 :: U.map a) else _) = _
        rw [if_pos c0, List.map_cons, ea]
      obtain ⟨r1, r2⟩ := run_fold hL7 hL8 pf (useI l c.2, (6 + l 8 0) :: U) a hE (by show 0 ≤ useI l c.2 7 0; omega) (by show 0 ≤ useI l c.2 8 0; omega) ha hv (fun u hu => by
        show 0 ≤ u ∧ u < 406 + useI l c.2 7 0
        rcases List.mem_cons.mp hu with hu | hu
        · omega
        · have := hU u hu; have this : 0 ≤ u ∧ u < 406 + l 7 0 := this; omega) hc2
      rw [ev]
      have r1 : evs v pf (((6 + l 8 0) :: U).map a) = none → LR L (useI l c.2 7 0) a = 0 := r1
      have r2 : ∀ s, evs v pf (((6 + l 8 0) :: U).map a) = some s → ∃ a', LR L (useI l c.2 7 0) a = LR L ((pf.foldl cgs (useI l c.2, (6 + l 8 0) :: U)).1 7 0) a' ∧ (∀ k, k < 406 + useI l c.2 7 0 → a' k = a k) ∧ (pf.foldl cgs (useI l c.2, (6 + l 8 0) :: U)).2.map a' = s ∧ useI l c.2 7 0 ≤ (pf.foldl cgs (useI l c.2, (6 + l 8 0) :: U)).1 7 0 := r2
      rw [e78.1] at r1 r2
      exact ⟨r1, r2⟩
    by_cases c1 : c.1 = 1
    · have eg : cgs (l, U) c = (useV l c.2, c.2 :: U) := by unfold cgs; rw [if_neg c0, if_pos c1]
      rw [eg] at hE hE1 ⊢
      have e78 := useV_78 l c.2
      have hcr : 0 ≤ c.2 ∧ c.2 ≤ 5 := by unfold cok at hcc; omega
      have ev : evs v (c :: pf) (U.map a) = evs v pf ((c.2 :: U).map a) := by
        show (if c.1 = 0 then _ else if c.1 = 1 then evs v pf (v c.2 :: U.map a) else _) = _
        rw [if_neg c0, if_pos c1, List.map_cons, hv c.2 hcr.1 hcr.2]
      obtain ⟨r1, r2⟩ := run_fold hL7 hL8 pf (useV l c.2, c.2 :: U) a hE (by show 0 ≤ useV l c.2 7 0; omega) (by show 0 ≤ useV l c.2 8 0; omega) ha hv (fun u hu => by
        show 0 ≤ u ∧ u < 406 + useV l c.2 7 0
        rcases List.mem_cons.mp hu with hu | hu
        · omega
        · have := hU u hu; have this : 0 ≤ u ∧ u < 406 + l 7 0 := this; omega) hc2
      rw [ev]
      have r1 : evs v pf ((c.2 :: U).map a) = none → LR L (useV l c.2 7 0) a = 0 := r1
      have r2 : ∀ s, evs v pf ((c.2 :: U).map a) = some s → ∃ a', LR L (useV l c.2 7 0) a = LR L ((pf.foldl cgs (useV l c.2, c.2 :: U)).1 7 0) a' ∧ (∀ k, k < 406 + useV l c.2 7 0 → a' k = a k) ∧ (pf.foldl cgs (useV l c.2, c.2 :: U)).2.map a' = s ∧ useV l c.2 7 0 ≤ (pf.foldl cgs (useV l c.2, c.2 :: U)).1 7 0 := r2
      rw [e78.1] at r1 r2
      exact ⟨r1, r2⟩
    have hco : 2 ≤ c.1 ∧ c.1 ≤ 5 := by unfold cok at hcc; omega
    match U, hE, hE1, hU with
    | [], hE, hE1, hU =>
      have eg : cgs (l, []) c = (l, []) := by unfold cgs; rw [if_neg c0, if_neg c1]
      rw [eg] at hE ⊢
      have ev : evs v (c :: pf) (([] : List Int).map a) = evs v pf (([] : List Int).map a) := by
        show (if c.1 = 0 then _ else if c.1 = 1 then _ else evs v pf []) = _
        rw [if_neg c0, if_neg c1]; rfl
      rw [ev]
      exact run_fold hL7 hL8 pf (l, []) a hE h7 h8 ha hv hU hc2
    | [b], hE, hE1, hU =>
      have eg : cgs (l, [b]) c = (l, [b]) := by unfold cgs; rw [if_neg c0, if_neg c1]
      rw [eg] at hE ⊢
      have ev : evs v (c :: pf) ([b].map a) = evs v pf ([b].map a) := by
        show (if c.1 = 0 then _ else if c.1 = 1 then _ else evs v pf [a b]) = _
        rw [if_neg c0, if_neg c1]; rfl
      rw [ev]
      exact run_fold hL7 hL8 pf (l, [b]) a hE h7 h8 ha hv hU hc2
    | b :: d :: U, hE, hE1, hU =>
      have eg : cgs (l, b :: d :: U) c = (addS l (c.1 - 2) d b, (406 + l 7 0) :: U) := by unfold cgs; rw [if_neg c0, if_neg c1]
      rw [eg] at hE hE1 ⊢
      have e78 := addS_78 l (c.1 - 2) d b
      obtain ⟨x1, x2, x3, x4⟩ := ExM.ad hE1 h7
      have h71 : l 7 0 + 1 ≤ L 7 0 := by have := hE1.1; have this : addS l (c.1 - 2) d b 7 0 ≤ L 7 0 := this; omega
      have hb := hU b List.mem_cons_self
      have hd := hU d (List.mem_cons_of_mem _ List.mem_cons_self)
      have hb : 0 ≤ b ∧ b < 406 + l 7 0 := hb
      have hd : 0 ≤ d ∧ d < 406 + l 7 0 := hd
      have ev : evs v (c :: pf) ((b :: d :: U).map a) = if c.1 = 5 ∧ a b = 0 then none else evs v pf (opv c.1 (a d) (a b) :: U.map a) := by
        show (if c.1 = 0 then _ else if c.1 = 1 then _ else (if c.1 = 5 ∧ a b = 0 then none else evs v pf (opv c.1 (a d) (a b) :: U.map a))) = _
        rw [if_neg c0, if_neg c1]
      have eLR : LR L (l 7 0) a = if c.1 = 5 ∧ a b = 0 then 0 else LR L (l 7 0 + 1) (ua a (406 + l 7 0) (opv c.1 (a d) (a b))) := by
        rw [LR_S (by omega)]
        unfold lrun
        rw [if_neg (by omega), x2, x3, x4]
        unfold opv
        by_cases k2 : c.1 = 2
        · rw [if_pos (by omega), if_neg (by omega), if_pos k2]; rfl
        rw [if_neg (by omega)]
        by_cases k3 : c.1 = 3
        · rw [if_pos (by omega), if_neg (by omega), if_neg k2, if_pos k3]; rfl
        rw [if_neg (by omega)]
        by_cases k4 : c.1 = 4
        · rw [if_pos (by omega), if_neg (by omega), if_neg k2, if_neg k3, if_pos k4]; rfl
        rw [if_neg (by omega), if_pos (by omega), if_neg k2, if_neg k3, if_neg k4]
        by_cases kb : a b = 0
        · rw [if_pos kb, if_pos ⟨by omega, kb⟩]
        · rw [if_neg kb, if_neg (fun z => kb z.2)]; rfl
      rw [ev, eLR]
      by_cases kz : c.1 = 5 ∧ a b = 0
      · rw [if_pos kz, if_pos kz]
        exact ⟨fun _ => rfl, fun s h => (by cases h)⟩
      rw [if_neg kz, if_neg kz]
      have em : opv c.1 (a d) (a b) :: U.map a = ((406 + l 7 0) :: U).map (ua a (406 + l 7 0) (opv c.1 (a d) (a b))) := by
        rw [List.map_cons, ua_at]
        congr 1
        apply List.map_congr_left
        intro u hu
        have := hU u (List.mem_cons_of_mem _ (List.mem_cons_of_mem _ hu))
        have this : 0 ≤ u ∧ u < 406 + l 7 0 := this
        rw [ua_ne (by omega)]
      rw [em]
      obtain ⟨r1, r2⟩ := run_fold hL7 hL8 pf (addS l (c.1 - 2) d b, (406 + l 7 0) :: U) (ua a (406 + l 7 0) (opv c.1 (a d) (a b))) hE (by show 0 ≤ addS l (c.1 - 2) d b 7 0; omega) (by show 0 ≤ addS l (c.1 - 2) d b 8 0; omega) (fun k k0 k1 => by rw [ua_ne (by omega)]; exact ha k k0 k1) (fun j j0 j1 => by rw [ua_ne (by omega)]; exact hv j j0 j1) (fun u hu => by
        show 0 ≤ u ∧ u < 406 + addS l (c.1 - 2) d b 7 0
        rcases List.mem_cons.mp hu with hu | hu
        · omega
        · have := hU u (List.mem_cons_of_mem _ (List.mem_cons_of_mem _ hu)); have this : 0 ≤ u ∧ u < 406 + l 7 0 := this; omega) hc2
      have r1 : _ → LR L (addS l (c.1 - 2) d b 7 0) _ = 0 := r1
      have r2 : ∀ s, _ → ∃ a', LR L (addS l (c.1 - 2) d b 7 0) _ = LR L ((pf.foldl cgs (addS l (c.1 - 2) d b, (406 + l 7 0) :: U)).1 7 0) a' ∧ (∀ k, k < 406 + addS l (c.1 - 2) d b 7 0 → a' k = _) ∧ (pf.foldl cgs (addS l (c.1 - 2) d b, (406 + l 7 0) :: U)).2.map a' = s ∧ addS l (c.1 - 2) d b 7 0 ≤ (pf.foldl cgs (addS l (c.1 - 2) d b, (406 + l 7 0) :: U)).1 7 0 := r2
      rw [e78.1] at r1 r2
      refine ⟨r1, fun s hs => ?_⟩
      obtain ⟨a', q1, q2, q3, q4⟩ := r2 s hs
      exact ⟨a', q1, fun k hk => by rw [q2 k (by omega), ua_ne (by omega)], q3, by omega⟩
