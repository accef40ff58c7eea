/-! what a law tells: the class's steps beside what came out -/
def vvs (n w a b m q : Int) : Int → Int := fun j => if j = 0 then n else if j = 1 then w else if j = 2 then a else if j = 3 then b else if j = 4 then m else q
def opv (k a b : Int) : Int := n32 (if k = 2 then a + b else if k = 3 then a - b else if k = 4 then a * b else a.tdiv b)
def evs (v : Int → Int) : List Cd → List Int → Option (List Int)
  | [], s => some s
  | c :: r, s => if c.1 = 0 then evs v r (c.2 :: s) else if c.1 = 1 then evs v r (v c.2 :: s) else match s with
    | b :: a :: s' => if c.1 = 5 ∧ b = 0 then none else evs v r (opv c.1 a b :: s')
    | s => evs v r s
def evl (v : Int → Int) (pf : List Cd) : Option Int := (evs v pf []).map hdU
def phb (v : Int → Int) : List Br → Int
  | [] => 0
  | b :: L => if b.1 = true then (match evl v b.2.1 with
      | none => 0
      | some x => match evl v b.2.2.1 with
        | none => 0
        | some y => if x < y then (evl v b.2.2.2).getD 0 else phb v L) else (evl v b.2.2.2).getD 0
def phi (L : List Br) : Phi := fun n w a b m q => phb (vvs n w a b m q) L
def LR (L : Cs) (i : Int) (a : Int → Int) : Int := lrun L (401 - i).toNat i a
theorem LR_S {L : Cs} {i : Int} {a : Int → Int} (h : i ≤ 400) : LR L i a = lrun L ((401 - (i + 1)).toNat + 1) i a := by unfold LR; rw [show (401 - i).toNat = (401 - (i + 1)).toNat + 1 by omega]
/-- rows that stay as they are when a law grows -/
def ExM (l L : Cs) : Prop := l 7 0 ≤ L 7 0 ∧ (∀ i, 0 ≤ i → i < l 7 0 → L 2 i = l 2 i ∧ L 3 i = l 3 i ∧ L 4 i = l 4 i) ∧ (l 8 0 ≤ L 8 0 ∧ ∀ k, 6 ≤ k → k < 6 + l 8 0 → L 6 k = l 6 k)
theorem ExM.ad {l L : Cs} {o a b : Int} (h : ExM (addS l o a b) L) (h7 : 0 ≤ l 7 0) : ExM l L ∧ L 2 (l 7 0) = o ∧ L 3 (l 7 0) = a ∧ L 4 (l 7 0) = b := by
  obtain ⟨h1, h2, h3⟩ := h
  have e := addS_78 l o a b
  rw [e.1] at h1 h2
  rw [e.2] at h3
  have e2 : ∀ j, addS l o a b 2 j = if j = l 7 0 then o else l 2 j := fun j => by unfold addS; simp [cu_if]
  have e3 : ∀ j, addS l o a b 3 j = if j = l 7 0 then a else l 3 j := fun j => by unfold addS; simp [cu_if]
  have e4 : ∀ j, addS l o a b 4 j = if j = l 7 0 then b else l 4 j := fun j => by unfold addS; simp [cu_if]
  have e6 : ∀ j, addS l o a b 6 j = l 6 j := fun j => by unfold addS; simp [cu_if]
  refine ⟨⟨by omega, fun i i0 i1 => ?_, h3.1, fun k k0 k1 => ?_⟩, ?_⟩
  · have := h2 i i0 (by omega)
    rw [e2, e3, e4, if_neg (by omega), if_neg (by omega), if_neg (by omega)] at this
    exact this
  · rw [h3.2 k k0 k1, e6]
  · have := h2 (l 7 0) h7 (by omega)
    rw [e2, e3, e4, if_pos rfl, if_pos rfl, if_pos rfl] at this
    exact this
theorem ExM.ui {l L : Cs} {v : Int} (h : ExM (useI l v) L) (h8 : 0 ≤ l 8 0) : ExM l L ∧ L 6 (6 + l 8 0) = v := by
  obtain ⟨h1, h2, h3⟩ := h
  have e := useI_78 l v
  rw [e.1] at h1 h2
  rw [e.2] at h3
  have ef : ∀ f j, f ≠ 6 → f ≠ 8 → useI l v f j = l f j := fun f j a b => by unfold useI; rw [cu_f b, cu_f a]
  have e6 : ∀ j, useI l v 6 j = if j = 6 + l 8 0 then v else l 6 j := fun j => by unfold useI; simp [cu_if]
  refine ⟨⟨h1, fun i i0 i1 => ?_, by omega, fun k k0 k1 => ?_⟩, ?_⟩
  · have := h2 i i0 i1
    rw [ef 2 i (by decide) (by decide), ef 3 i (by decide) (by decide), ef 4 i (by decide) (by decide)] at this
    exact this
  · rw [h3.2 k k0 (by omega), e6, if_neg (by omega)]
  · rw [h3.2 (6 + l 8 0) (by omega) (by omega), e6, if_pos rfl]
theorem ExM.uv {l L : Cs} {v : Int} (h : ExM (useV l v) L) : ExM l L := by
  obtain ⟨h1, h2, h3⟩ := h
  have ef : ∀ f j, f ≠ 0 → f ≠ 1 → useV l v f j = l f j := fun f j a b => by unfold useV; rw [cu_f b, cu_f a]
  rw [ef 7 0 (by decide) (by decide)] at h1 h2
  rw [ef 8 0 (by decide) (by decide)] at h3
  refine ⟨h1, fun i i0 i1 => ?_, h3.1, fun k k0 k1 => ?_⟩
  · have := h2 i i0 i1
    rw [ef 2 i (by decide) (by decide), ef 3 i (by decide) (by decide), ef 4 i (by decide) (by decide)] at this
    exact this
  · rw [h3.2 k k0 k1, ef 6 k (by decide) (by decide)]
theorem ExM.cs {L : Cs} {p : Cs × List Int} {c : Cd} (h : ExM (cgs p c).1 L) (h7 : 0 ≤ p.1 7 0) (h8 : 0 ≤ p.1 8 0) : ExM p.1 L := by
  unfold cgs at h
  by_cases c0 : c.1 = 0
  · rw [if_pos c0] at h; exact (h.ui h8).1
  rw [if_neg c0] at h
  by_cases c1 : c.1 = 1
  · rw [if_pos c1] at h; exact h.uv
  rw [if_neg c1] at h
  obtain ⟨l1, U⟩ := p
  match U, h with
  | [], h => exact h
  | [b], h => exact h
  | b :: a :: U, h => exact (h.ad h7).1
theorem cgs_nn {p : Cs × List Int} {c : Cd} (h7 : 0 ≤ p.1 7 0) (h8 : 0 ≤ p.1 8 0) : 0 ≤ (cgs p c).1 7 0 ∧ 0 ≤ (cgs p c).1 8 0 := by
  unfold cgs
  by_cases c0 : c.1 = 0
  · rw [if_pos c0]; have := useI_78 p.1 c.2; show 0 ≤ useI p.1 c.2 7 0 ∧ 0 ≤ useI p.1 c.2 8 0; omega
  rw [if_neg c0]
  by_cases c1 : c.1 = 1
  · rw [if_pos c1]; have := useV_78 p.1 c.2; show 0 ≤ useV p.1 c.2 7 0 ∧ 0 ≤ useV p.1 c.2 8 0; omega
  rw [if_neg c1]
  obtain ⟨l1, U⟩ := p
  match U with
  | [] => exact ⟨h7, h8⟩
  | [b] => exact ⟨h7, h8⟩
  | b :: a :: U => have := addS_78 l1 (c.1 - 2) a b; have h7 : 0 ≤ l1 7 0 := h7; have h8 : 0 ≤ l1 8 0 := h8; show 0 ≤ addS l1 (c.1 - 2) a b 7 0 ∧ 0 ≤ addS l1 (c.1 - 2) a b 8 0; omega
theorem ExM.fold {L : Cs} : ∀ (pf : List Cd) (p : Cs × List Int), ExM (pf.foldl cgs p).1 L → 0 ≤ p.1 7 0 → 0 ≤ p.1 8 0 → ExM p.1 L
  | [], p, h, _, _ => h
  | c :: pf, p, h, h7, h8 => by
    have := cgs_nn (c := c) h7 h8
    exact (ExM.fold pf _ h this.1 this.2).cs h7 h8
set_option maxHeartbeats 1000000 in
theorem run_fold {L : Cs} {v : Int → Int} (hL7 : L 7 0 ≤ 400) (hL8 : L 8 0 ≤ 400) : ∀ (pf : List Cd) (p : Cs × List Int) (a : Int → Int), ExM (pf.foldl cgs p).1 L → 0 ≤ p.1 7 0 → 0 ≤ p.1 8 0 → (∀ k, 6 ≤ k → k < 406 → a k = L 6 k) → (∀ j, 0 ≤ j → j ≤ 5 → a j = v j) → (∀ u ∈ p.2, 0 ≤ u ∧ u < 406 + p.1 7 0) → (∀ c ∈ pf, cok c) → (evs v pf (p.2.map a) = none → LR L (p.1 7 0) a = 0) ∧ ∀ s, evs v pf (p.2.map a) = some s → ∃ a', LR L (p.1 7 0) a = LR L ((pf.foldl cgs p).1 7 0) a' ∧ (∀ k, k < 406 + p.1 7 0 → a' k = a k) ∧ (pf.foldl cgs p).2.map a' = s ∧ p.1 7 0 ≤ (pf.foldl cgs p).1 7 0
  | [], p, a, _, _, _, _, _, _, _ => ⟨fun h => (by cases h), fun s h => ⟨a, rfl, fun _ _ => rfl, by cases h; rfl, Int.le_refl _⟩⟩
  | c :: pf, (l, U), a, hE, h7, h8, ha, hv, hU, hc => by
    have hE : ExM (pf.foldl cgs (cgs (l, U) c)).1 L := hE
    have h7 : 0 ≤ l 7 0 := h7
    have h8 : 0 ≤ l 8 0 := h8
    have hnn := cgs_nn (p := (l, U)) (c := c) h7 h8
    have hE1 := ExM.fold pf _ hE hnn.1 hnn.2
    have hcc := hc c List.mem_cons_self
    have hc2 : ∀ d ∈ pf, cok d := fun d hd => hc d (List.mem_cons_of_mem _ hd)
    show (evs v (c :: pf) (U.map a) = none → LR L (l 7 0) a = 0) ∧ ∀ s, evs v (c :: pf) (U.map a) = some s → ∃ a', LR L (l 7 0) a = LR L ((pf.foldl cgs (cgs (l, U) c)).1 7 0) a' ∧ (∀ k, k < 406 + l 7 0 → a' k = a k) ∧ (pf.foldl cgs (cgs (l, U) c)).2.map a' = s ∧ l 7 0 ≤ (pf.foldl cgs (cgs (l, U) c)).1 7 0
    by_cases c0 : c.1 = 0
    · have eg : cgs (l, U) c = (useI l c.2, (6 + l 8 0) :: U) := by unfold cgs; rw [if_pos c0]
      rw [eg] at hE hE1 ⊢
      have e78 := useI_78 l c.2
      obtain ⟨x1, x2⟩ := ExM.ui hE1 h8
      have h81 : l 8 0 + 1 ≤ L 8 0 := by have := hE1.2.2.1; have this : useI l c.2 8 0 ≤ L 8 0 := this; omega
      have ea : a (6 + l 8 0) = c.2 := by rw [ha _ (by omega) (by omega)]; exact x2
      have ev : evs v (c :: pf) (U.map a) = evs v pf (((6 + l 8 0) :: U).map a) := by
        show (if c.1 = 0 then evs v pf (c.2 :: U.map a) else _) = _
        rw [if_pos c0, List.map_cons, ea]
      obtain ⟨r1, r2⟩ := run_fold (v := v) hL7 hL8 pf (useI l c.2, (6 + l 8 0) :: U) a hE (by show 0 ≤ useI l c.2 7 0; omega) (by show 0 ≤ useI l c.2 8 0; omega) ha hv (fun u hu => by
        show 0 ≤ u ∧ u < 406 + useI l c.2 7 0
        rcases List.mem_cons.mp hu with hu | hu
        · omega
        · have := hU u hu; have this : 0 ≤ u ∧ u < 406 + l 7 0 := this; omega) hc2
      rw [ev]
      have r1 : evs v pf (((6 + l 8 0) :: U).map a) = none → LR L (useI l c.2 7 0) a = 0 := r1
      have r2 : ∀ s, evs v pf (((6 + l 8 0) :: U).map a) = some s → ∃ a', LR L (useI l c.2 7 0) a = LR L ((pf.foldl cgs (useI l c.2, (6 + l 8 0) :: U)).1 7 0) a' ∧ (∀ k, k < 406 + useI l c.2 7 0 → a' k = a k) ∧ (pf.foldl cgs (useI l c.2, (6 + l 8 0) :: U)).2.map a' = s ∧ useI l c.2 7 0 ≤ (pf.foldl cgs (useI l c.2, (6 + l 8 0) :: U)).1 7 0 := r2
      rw [e78.1] at r1 r2
      exact ⟨r1, r2⟩
    by_cases c1 : c.1 = 1
    · have eg : cgs (l, U) c = (useV l c.2, c.2 :: U) := by unfold cgs; rw [if_neg c0, if_pos c1]
      rw [eg] at hE hE1 ⊢
      have e78 := useV_78 l c.2
      have hcr : 0 ≤ c.2 ∧ c.2 ≤ 5 := by unfold cok at hcc; omega
      have ev : evs v (c :: pf) (U.map a) = evs v pf ((c.2 :: U).map a) := by
        show (if c.1 = 0 then _ else if c.1 = 1 then evs v pf (v c.2 :: U.map a) else _) = _
        rw [if_neg c0, if_pos c1, List.map_cons, hv c.2 hcr.1 hcr.2]
      obtain ⟨r1, r2⟩ := run_fold (v := v) hL7 hL8 pf (useV l c.2, c.2 :: U) a hE (by show 0 ≤ useV l c.2 7 0; omega) (by show 0 ≤ useV l c.2 8 0; omega) ha hv (fun u hu => by
        show 0 ≤ u ∧ u < 406 + useV l c.2 7 0
        rcases List.mem_cons.mp hu with hu | hu
        · omega
        · have := hU u hu; have this : 0 ≤ u ∧ u < 406 + l 7 0 := this; omega) hc2
      rw [ev]
      have r1 : evs v pf ((c.2 :: U).map a) = none → LR L (useV l c.2 7 0) a = 0 := r1
      have r2 : ∀ s, evs v pf ((c.2 :: U).map a) = some s → ∃ a', LR L (useV l c.2 7 0) a = LR L ((pf.foldl cgs (useV l c.2, c.2 :: U)).1 7 0) a' ∧ (∀ k, k < 406 + useV l c.2 7 0 → a' k = a k) ∧ (pf.foldl cgs (useV l c.2, c.2 :: U)).2.map a' = s ∧ useV l c.2 7 0 ≤ (pf.foldl cgs (useV l c.2, c.2 :: U)).1 7 0 := r2
      rw [e78.1] at r1 r2
      exact ⟨r1, r2⟩
    have hco : 2 ≤ c.1 ∧ c.1 ≤ 5 := by unfold cok at hcc; omega
    match U, hE, hE1, hU with
    | [], hE, hE1, hU =>
      have eg : cgs (l, []) c = (l, []) := by unfold cgs; rw [if_neg c0, if_neg c1]
      rw [eg] at hE ⊢
      have ev : evs v (c :: pf) (([] : List Int).map a) = evs v pf (([] : List Int).map a) := by
        show (if c.1 = 0 then _ else if c.1 = 1 then _ else evs v pf []) = _
        rw [if_neg c0, if_neg c1]; rfl
      rw [ev]
      exact run_fold (v := v) hL7 hL8 pf (l, []) a hE h7 h8 ha hv hU hc2
    | [b], hE, hE1, hU =>
      have eg : cgs (l, [b]) c = (l, [b]) := by unfold cgs; rw [if_neg c0, if_neg c1]
      rw [eg] at hE ⊢
      have ev : evs v (c :: pf) ([b].map a) = evs v pf ([b].map a) := by
        show (if c.1 = 0 then _ else if c.1 = 1 then _ else evs v pf [a b]) = _
        rw [if_neg c0, if_neg c1]; rfl
      rw [ev]
      exact run_fold (v := v) hL7 hL8 pf (l, [b]) a hE h7 h8 ha hv hU hc2
    | b :: d :: U, hE, hE1, hU =>
      have eg : cgs (l, b :: d :: U) c = (addS l (c.1 - 2) d b, (406 + l 7 0) :: U) := by unfold cgs; rw [if_neg c0, if_neg c1]
      rw [eg] at hE hE1 ⊢
      have e78 := addS_78 l (c.1 - 2) d b
      obtain ⟨x1, x2, x3, x4⟩ := ExM.ad hE1 h7
      have h71 : l 7 0 + 1 ≤ L 7 0 := by have := hE1.1; have this : addS l (c.1 - 2) d b 7 0 ≤ L 7 0 := this; omega
      have hb := hU b List.mem_cons_self
      have hd := hU d (List.mem_cons_of_mem _ List.mem_cons_self)
      have hb : 0 ≤ b ∧ b < 406 + l 7 0 := hb
      have hd : 0 ≤ d ∧ d < 406 + l 7 0 := hd
      have ev : evs v (c :: pf) ((b :: d :: U).map a) = if c.1 = 5 ∧ a b = 0 then none else evs v pf (opv c.1 (a d) (a b) :: U.map a) := by
        show (if c.1 = 0 then _ else if c.1 = 1 then _ else (if c.1 = 5 ∧ a b = 0 then none else evs v pf (opv c.1 (a d) (a b) :: U.map a))) = _
        rw [if_neg c0, if_neg c1]
      have eLR : LR L (l 7 0) a = if c.1 = 5 ∧ a b = 0 then 0 else LR L (l 7 0 + 1) (ua a (406 + l 7 0) (opv c.1 (a d) (a b))) := by
        rw [LR_S (by omega)]
        unfold lrun
        rw [if_neg (by omega), x2, x3, x4]
        unfold opv
        by_cases k2 : c.1 = 2
        · rw [if_pos (by omega), if_neg (by omega), if_pos k2]; rfl
        rw [if_neg (by omega)]
        by_cases k3 : c.1 = 3
        · rw [if_pos (by omega), if_neg (by omega), if_neg k2, if_pos k3]; rfl
        rw [if_neg (by omega)]
        by_cases k4 : c.1 = 4
        · rw [if_pos (by omega), if_neg (by omega), if_neg k2, if_neg k3, if_pos k4]; rfl
        rw [if_neg (by omega), if_pos (by omega), if_neg k2, if_neg k3, if_neg k4]
        by_cases kb : a b = 0
        · rw [if_pos kb, if_pos ⟨by omega, kb⟩]
        · rw [if_neg kb, if_neg (fun z => kb z.2)]; rfl
      rw [ev, eLR]
      by_cases kz : c.1 = 5 ∧ a b = 0
      · rw [if_pos kz, if_pos kz]
        exact ⟨fun _ => rfl, fun s h => (by cases h)⟩
      rw [if_neg kz, if_neg kz]
      have em : opv c.1 (a d) (a b) :: U.map a = ((406 + l 7 0) :: U).map (ua a (406 + l 7 0) (opv c.1 (a d) (a b))) := by
        rw [List.map_cons, ua_at]
        congr 1
        apply List.map_congr_left
        intro u hu
        have := hU u (List.mem_cons_of_mem _ (List.mem_cons_of_mem _ hu))
        have this : 0 ≤ u ∧ u < 406 + l 7 0 := this
        rw [ua_ne (by omega)]
      rw [em]
      obtain ⟨r1, r2⟩ := run_fold (v := v) hL7 hL8 pf (addS l (c.1 - 2) d b, (406 + l 7 0) :: U) (ua a (406 + l 7 0) (opv c.1 (a d) (a b))) hE (by show 0 ≤ addS l (c.1 - 2) d b 7 0; omega) (by show 0 ≤ addS l (c.1 - 2) d b 8 0; omega) (fun k k0 k1 => by rw [ua_ne (by omega)]; exact ha k k0 k1) (fun j j0 j1 => by rw [ua_ne (by omega)]; exact hv j j0 j1) (fun u hu => by
        show 0 ≤ u ∧ u < 406 + addS l (c.1 - 2) d b 7 0
        rcases List.mem_cons.mp hu with hu | hu
        · omega
        · have := hU u (List.mem_cons_of_mem _ (List.mem_cons_of_mem _ hu)); have this : 0 ≤ u ∧ u < 406 + l 7 0 := this; omega) hc2
      have r1 : _ → LR L (addS l (c.1 - 2) d b 7 0) _ = 0 := r1
      have r2 : ∀ s, _ → ∃ a', LR L (addS l (c.1 - 2) d b 7 0) _ = LR L ((pf.foldl cgs (addS l (c.1 - 2) d b, (406 + l 7 0) :: U)).1 7 0) a' ∧ (∀ k, k < 406 + addS l (c.1 - 2) d b 7 0 → a' k = _) ∧ (pf.foldl cgs (addS l (c.1 - 2) d b, (406 + l 7 0) :: U)).2.map a' = s ∧ addS l (c.1 - 2) d b 7 0 ≤ (pf.foldl cgs (addS l (c.1 - 2) d b, (406 + l 7 0) :: U)).1 7 0 := r2
      rw [e78.1] at r1 r2
      refine ⟨r1, fun s hs => ?_⟩
      obtain ⟨a', q1, q2, q3, q4⟩ := r2 s hs
      exact ⟨a', q1, fun k hk => by rw [q2 k (by omega), ua_ne (by omega)], q3, by omega⟩
theorem run_cg {L l : Cs} {v : Int → Int} {pf : List Cd} {a : Int → Int} (hL7 : L 7 0 ≤ 400) (hL8 : L 8 0 ≤ 400) (hE : ExM (cg l pf).1 L) (h7 : 0 ≤ l 7 0) (h8 : 0 ≤ l 8 0) (ha : ∀ k, 6 ≤ k → k < 406 → a k = L 6 k) (hv : ∀ j, 0 ≤ j → j ≤ 5 → a j = v j) (hc : ∀ c ∈ pf, cok c) (ho : okd pf 0 = some 1) : (evl v pf = none → LR L (l 7 0) a = 0) ∧ ∀ y, evl v pf = some y → ∃ a', LR L (l 7 0) a = LR L ((cg l pf).1 7 0) a' ∧ (∀ k, k < 406 + l 7 0 → a' k = a k) ∧ a' (hdU (cg l pf).2) = y ∧ l 7 0 ≤ (cg l pf).1 7 0 := by
  obtain ⟨r1, r2⟩ := run_fold (v := v) hL7 hL8 pf (l, []) a hE h7 h8 ha hv (fun u hu => by cases hu) hc
  have hlen := cg_len (l := l) pf ho
  have r1 : evs v pf [] = none → LR L (l 7 0) a = 0 := r1
  have r2 : ∀ s, evs v pf [] = some s → ∃ a', LR L (l 7 0) a = LR L ((cg l pf).1 7 0) a' ∧ (∀ k, k < 406 + l 7 0 → a' k = a k) ∧ (cg l pf).2.map a' = s ∧ l 7 0 ≤ (cg l pf).1 7 0 := r2
  unfold evl
  cases he : evs v pf [] with
  | none => exact ⟨fun _ => r1 he, fun y hy => (by cases hy)⟩
  | some s =>
    refine ⟨fun h => (by cases h), fun y hy => ?_⟩
    obtain ⟨a', q1, q2, q3, q4⟩ := r2 s he
    refine ⟨a', q1, q2, ?_, q4⟩
    cases hy
    match hq : (cg l pf).2, hlen with
    | [], hlen => exact absurd hlen (by decide)
    | [w], _ => rw [hq] at q3; rw [← q3]; rfl
    | b :: d :: U, hlen => exact absurd hlen (by show ¬ U.length + 1 + 1 = 1; omega)
theorem un_step {L : Cs} {p : Cs × List Int} {c : Cd} (hL8 : L 8 0 ≤ 400) (hE : ExM (cgs p c).1 L) (h7 : 0 ≤ p.1 7 0) (h8 : 0 ≤ p.1 8 0) (hU : ∀ u ∈ p.2, 0 ≤ u ∧ u < 406 + p.1 7 0) (hc : cok c) : ∀ u ∈ (cgs p c).2, 0 ≤ u ∧ u < 406 + (cgs p c).1 7 0 := by
  unfold cgs at hE ⊢
  by_cases c0 : c.1 = 0
  · rw [if_pos c0] at hE ⊢
    have e := useI_78 p.1 c.2
    have b := hE.2.2.1
    intro u hu
    show 0 ≤ u ∧ u < 406 + useI p.1 c.2 7 0
    have b : useI p.1 c.2 8 0 ≤ L 8 0 := b
    rcases List.mem_cons.mp hu with hu | hu
    · omega
    · have := hU u hu; omega
  rw [if_neg c0] at hE ⊢
  by_cases c1 : c.1 = 1
  · rw [if_pos c1] at hE ⊢
    have e := useV_78 p.1 c.2
    intro u hu
    show 0 ≤ u ∧ u < 406 + useV p.1 c.2 7 0
    rcases List.mem_cons.mp hu with hu | hu
    · unfold cok at hc; omega
    · have := hU u hu; omega
  rw [if_neg c1] at hE ⊢
  obtain ⟨l1, U⟩ := p
  match U, hU with
  | [], hU => exact hU
  | [b], hU => exact hU
  | b :: a :: U, hU =>
    have e := addS_78 l1 (c.1 - 2) a b
    intro u hu
    show 0 ≤ u ∧ u < 406 + addS l1 (c.1 - 2) a b 7 0
    have h7 : 0 ≤ l1 7 0 := h7
    rcases List.mem_cons.mp hu with hu | hu
    · have hu : u = 406 + l1 7 0 := hu
      omega
    · have := hU u (List.mem_cons_of_mem _ (List.mem_cons_of_mem _ hu)); have this : 0 ≤ u ∧ u < 406 + l1 7 0 := this; omega
theorem un_fold {L : Cs} (hL8 : L 8 0 ≤ 400) : ∀ (pf : List Cd) (p : Cs × List Int), ExM (pf.foldl cgs p).1 L → 0 ≤ p.1 7 0 → 0 ≤ p.1 8 0 → (∀ u ∈ p.2, 0 ≤ u ∧ u < 406 + p.1 7 0) → (∀ c ∈ pf, cok c) → ∀ u ∈ (pf.foldl cgs p).2, 0 ≤ u ∧ u < 406 + (pf.foldl cgs p).1 7 0
  | [], _, _, _, _, hU, _ => hU
  | c :: pf, p, hE, h7, h8, hU, hc => by
    have hnn := cgs_nn (p := p) (c := c) h7 h8
    have hE1 := ExM.fold pf _ hE hnn.1 hnn.2
    exact un_fold hL8 pf (cgs p c) hE hnn.1 hnn.2 (un_step hL8 hE1 h7 h8 hU (hc c List.mem_cons_self)) (fun d hd => hc d (List.mem_cons_of_mem _ hd))
theorem un_hd {L l : Cs} {pf : List Cd} (hL8 : L 8 0 ≤ 400) (hE : ExM (cg l pf).1 L) (h7 : 0 ≤ l 7 0) (h8 : 0 ≤ l 8 0) (hc : ∀ c ∈ pf, cok c) (ho : okd pf 0 = some 1) : 0 ≤ hdU (cg l pf).2 ∧ hdU (cg l pf).2 < 406 + (cg l pf).1 7 0 := by
  have hu := un_fold hL8 pf (l, []) hE h7 h8 (fun u hu => by cases hu) hc
  have hlen := cg_len (l := l) pf ho
  have hu : ∀ u ∈ (cg l pf).2, 0 ≤ u ∧ u < 406 + (cg l pf).1 7 0 := hu
  match hq : (cg l pf).2, hlen with
  | [], hlen => exact absurd hlen (by decide)
  | [w], _ => exact hu w (by rw [hq]; exact List.mem_cons_self)
  | b :: d :: U, hlen => exact absurd hlen (by show ¬ U.length + 1 + 1 = 1; omega)
theorem lrun_fuel {L : Cs} : ∀ (n n' : Nat) (i : Int) (a : Int → Int), (L 7 0 - i).toNat < n → (L 7 0 - i).toNat < n' → lrun L n i a = lrun L n' i a
  | 0, _, _, _, h, _ => by omega
  | n + 1, 0, _, _, _, h => by omega
  | n + 1, n' + 1, i, a, h, h' => by
    unfold lrun
    by_cases c : L 7 0 ≤ i
    · rw [if_pos c, if_pos c]
    rw [if_neg c, if_neg c]
    rw [lrun_fuel n n' (i + 1) _ (by omega) (by omega), lrun_fuel n n' (i + 1) _ (by omega) (by omega), lrun_fuel n n' (i + 1) _ (by omega) (by omega), lrun_fuel n n' (i + 1) _ (by omega) (by omega), lrun_fuel n n' (i + 1) a (by omega) (by omega)]
    by_cases c5 : L 5 i ≤ i
    · rw [if_pos c5, if_pos c5]
    · rw [if_neg c5, if_neg c5, lrun_fuel n n' (L 5 i) a (by omega) (by omega)]
theorem ExM.cg {l L : Cs} {pf : List Cd} (h : ExM (cg l pf).1 L) (h7 : 0 ≤ l 7 0) (h8 : 0 ≤ l 8 0) : ExM l L := ExM.fold pf (l, []) h h7 h8
theorem cg_nn {l : Cs} (pf : List Cd) (h7 : 0 ≤ l 7 0) (h8 : 0 ≤ l 8 0) : 0 ≤ (cg l pf).1 7 0 ∧ 0 ≤ (cg l pf).1 8 0 := by
  have : ∀ (q : List Cd) (p : Cs × List Int), 0 ≤ p.1 7 0 → 0 ≤ p.1 8 0 → 0 ≤ (q.foldl cgs p).1 7 0 ∧ 0 ≤ (q.foldl cgs p).1 8 0 := by
    intro q
    induction q with
    | nil => exact fun p a b => ⟨a, b⟩
    | cons c q ih => exact fun p a b => ih _ (cgs_nn a b).1 (cgs_nn a b).2
  exact this pf (l, []) h7 h8
/-- the last step of a branch -/
theorem run_end {L l : Cs} {v : Int → Int} {pf : List Cd} {a : Int → Int} (hL7 : L 7 0 ≤ 400) (hL8 : L 8 0 ≤ 400) (hE : ExM (lf2 l pf) L) (h7 : 0 ≤ l 7 0) (h8 : 0 ≤ l 8 0) (ha : ∀ k, 6 ≤ k → k < 406 → a k = L 6 k) (hv : ∀ j, 0 ≤ j → j ≤ 5 → a j = v j) (hc : ∀ c ∈ pf, cok c) (ho : okd pf 0 = some 1) : LR L (l 7 0) a = (evl v pf).getD 0 := by
  have hn := cg_nn pf h7 h8
  unfold lf2 at hE
  have e78 := addS_78 (cg l pf).1 5 (hdU (cg l pf).2) (hdU (cg l pf).2)
  have h71 := hE.1
  rw [e78.1] at h71
  obtain ⟨x1, x2, x3, x4⟩ := hE.ad hn.1
  obtain ⟨r1, r2⟩ := run_cg (v := v) (a := a) hL7 hL8 x1 h7 h8 ha hv hc ho
  cases he : evl v pf with
  | none => rw [r1 he]; rfl
  | some y =>
    obtain ⟨a', q1, q2, q3, q4⟩ := r2 y he
    rw [q1, LR_S (by omega)]
    unfold lrun
    rw [if_neg (by omega), x2, x3, if_neg (by decide), if_neg (by decide), if_neg (by decide), if_neg (by decide), if_neg (by decide), q3]
    rfl
/-- a law's rows with where its ifs go on -/
def ExL (l L : Cs) : Prop := ExM l L ∧ ∀ i, 0 ≤ i → i < l 7 0 → L 5 i = l 5 i
theorem addS_5 (l : Cs) (o a b : Int) : addS l o a b 5 = l 5 := by unfold addS; rw [cf_f (by decide), cf_f (by decide), cf_f (by decide), cf_f (by decide)]
theorem cg_5 {l : Cs} (pf : List Cd) : (cg l pf).1 5 = l 5 := by
  have : ∀ (q : List Cd) (p : Cs × List Int), (q.foldl cgs p).1 5 = p.1 5 := by
    intro q
    induction q with
    | nil => exact fun p => rfl
    | cons c q ih =>
      intro p
      show (q.foldl cgs (cgs p c)).1 5 = p.1 5
      rw [ih]
      unfold cgs
      by_cases c0 : c.1 = 0
      · rw [if_pos c0]; show useI p.1 c.2 5 = p.1 5; unfold useI; rw [cf_f (by decide), cf_f (by decide)]
      rw [if_neg c0]
      by_cases c1 : c.1 = 1
      · rw [if_pos c1]; show useV p.1 c.2 5 = p.1 5; unfold useV; rw [cf_f (by decide), cf_f (by decide)]
      rw [if_neg c1]
      obtain ⟨l1, U⟩ := p
      match U with
      | [] => rfl
      | [b] => rfl
      | b :: a :: U => exact addS_5 l1 (c.1 - 2) a b
  exact this pf (l, [])
theorem lf2_5 (l : Cs) (d : List Cd) : lf2 l d 5 = l 5 := by unfold lf2; rw [addS_5, cg_5]
theorem lf1_5 (l : Cs) (a b : List Cd) : lf1 l a b 5 = l 5 := by unfold lf1; rw [addS_5, cg_5, cg_5]
theorem cg_ge {l : Cs} (pf : List Cd) : l 7 0 ≤ (cg l pf).1 7 0 := by
  have : ∀ (q : List Cd) (p : Cs × List Int), p.1 7 0 ≤ (q.foldl cgs p).1 7 0 := by
    intro q
    induction q with
    | nil => exact fun p => Int.le_refl _
    | cons c q ih =>
      intro p
      refine Int.le_trans ?_ (ih _)
      unfold cgs
      by_cases c0 : c.1 = 0
      · rw [if_pos c0]; have := useI_78 p.1 c.2; show _ ≤ useI p.1 c.2 7 0; omega
      rw [if_neg c0]
      by_cases c1 : c.1 = 1
      · rw [if_pos c1]; have := useV_78 p.1 c.2; show _ ≤ useV p.1 c.2 7 0; omega
      rw [if_neg c1]
      obtain ⟨l1, U⟩ := p
      match U with
      | [] => exact Int.le_refl _
      | [b] => exact Int.le_refl _
      | b :: a :: U => have := addS_78 l1 (c.1 - 2) a b; show l1 7 0 ≤ addS l1 (c.1 - 2) a b 7 0; omega
  exact this pf (l, [])
theorem ExL.cbr_ {l L : Cs} {b : Br} (h : ExL (cbr l b) L) (h7 : 0 ≤ l 7 0) (h8 : 0 ≤ l 8 0) : ExL l L := by
  obtain ⟨h1, h2⟩ := h
  unfold cbr at h1 h2
  by_cases c : b.1 = true
  · rw [if_pos c] at h1 h2
    have g1 := cg_ge (l := l) b.2.1
    have g2 := cg_ge (l := (cg l b.2.1).1) b.2.2.1
    have k1 := lf1_78 (l := l) (a := b.2.1) (b := b.2.2.1)
    have g3 := cg_ge (l := lf1 l b.2.1 b.2.2.1) b.2.2.2
    have k2 := lf2_78 (l := lf1 l b.2.1 b.2.2.1) (d := b.2.2.2)
    have n1 := cg_nn b.2.1 h7 h8
    have n2 := cg_nn b.2.2.1 n1.1 n1.2
    have n3 : 0 ≤ lf1 l b.2.1 b.2.2.1 7 0 ∧ 0 ≤ lf1 l b.2.1 b.2.2.1 8 0 := by omega
    have n4 := cg_nn b.2.2.2 n3.1 n3.2
    have hm : ExM (lf2 (lf1 l b.2.1 b.2.2.1) b.2.2.2) L := by
      obtain ⟨a1, a2, a3⟩ := h1
      rw [cu_f (by decide)] at a1 a2 a3
      refine ⟨a1, fun i i0 i1 => ?_, a3.1, fun k k0 k1 => ?_⟩
      · have := a2 i i0 i1
        rw [cu_f (by decide), cu_f (by decide), cu_f (by decide)] at this
        exact this
      · rw [a3.2 k k0 k1, cu_f (by decide)]
    have m1 := (ExM.ad hm n4.1).1.cg n3.1 n3.2
    have m2 := ((ExM.ad m1 n2.1).1.cg n1.1 n1.2).cg h7 h8
    refine ⟨m2, fun i i0 i1 => ?_⟩
    rw [cu_f (by decide)] at h2
    rw [h2 i i0 (by omega), cu_k (by omega), lf2_5, lf1_5]
  · rw [if_neg c] at h1 h2
    have n1 := cg_nn b.2.2.2 h7 h8
    have g1 := cg_ge (l := l) b.2.2.2
    have k2 := lf2_78 (l := l) (d := b.2.2.2)
    refine ⟨(ExM.ad h1 n1.1).1.cg h7 h8, fun i i0 i1 => ?_⟩
    rw [h2 i i0 (by omega), lf2_5]
theorem cbr_nn {l : Cs} (b : Br) (h7 : 0 ≤ l 7 0) (h8 : 0 ≤ l 8 0) : 0 ≤ cbr l b 7 0 ∧ 0 ≤ cbr l b 8 0 := by
  unfold cbr
  by_cases c : b.1 = true
  · rw [if_pos c]
    have n1 := cg_nn b.2.1 h7 h8
    have n2 := cg_nn b.2.2.1 n1.1 n1.2
    have k1 := lf1_78 (l := l) (a := b.2.1) (b := b.2.2.1)
    have n4 := cg_nn (l := lf1 l b.2.1 b.2.2.1) b.2.2.2 (by omega) (by omega)
    have k2 := lf2_78 (l := lf1 l b.2.1 b.2.2.1) (d := b.2.2.2)
    rw [cu_f (by decide), cu_f (by decide)]
    omega
  · rw [if_neg c]
    have n1 := cg_nn b.2.2.2 h7 h8
    have k2 := lf2_78 (l := l) (d := b.2.2.2)
    omega
theorem run_law {L : Cs} {v : Int → Int} (hL7 : L 7 0 ≤ 400) (hL8 : L 8 0 ≤ 400) : ∀ (M : List Br) (l : Cs) (a : Int → Int), ExL (M.foldl cbr l) L → (M.foldl cbr l) 7 0 = L 7 0 → 0 ≤ l 7 0 → 0 ≤ l 8 0 → (∀ k, 6 ≤ k → k < 406 → a k = L 6 k) → (∀ j, 0 ≤ j → j ≤ 5 → a j = v j) → (∀ b ∈ M, brk b) → LR L (l 7 0) a = phb v M
  | [], l, a, hE, he, h7, h8, ha, hv, hb => by
    have he : l 7 0 = L 7 0 := he
    rw [LR_S (by omega)]
    unfold lrun
    rw [if_pos (by omega)]
    rfl
  | b :: M, l, a, hE, he, h7, h8, ha, hv, hb => by
    have hE : ExL (M.foldl cbr (cbr l b)) L := hE
    have he : (M.foldl cbr (cbr l b)) 7 0 = L 7 0 := he
    have hnn := cbr_nn b h7 h8
    have fold : ∀ (N : List Br) (l' : Cs), ExL (N.foldl cbr l') L → 0 ≤ l' 7 0 → 0 ≤ l' 8 0 → ExL l' L := by
      intro N
      induction N with
      | nil => exact fun l' h _ _ => h
      | cons d N ih => exact fun l' h a b => (ih _ h (cbr_nn d a b).1 (cbr_nn d a b).2).cbr_ a b
    have hE1 := fold M _ hE hnn.1 hnn.2
    have hbk := hb b List.mem_cons_self
    by_cases c : b.1 = true
    · obtain ⟨o1, o2, o3, o4⟩ := hbk.1 c
      have g1 := cg_ge (l := l) b.2.1
      have g2 := cg_ge (l := (cg l b.2.1).1) b.2.2.1
      have k1 := lf1_78 (l := l) (a := b.2.1) (b := b.2.2.1)
      have g3 := cg_ge (l := lf1 l b.2.1 b.2.2.1) b.2.2.2
      have k2 := lf2_78 (l := lf1 l b.2.1 b.2.2.1) (d := b.2.2.2)
      have n1 := cg_nn b.2.1 h7 h8
      have n2 := cg_nn b.2.2.1 n1.1 n1.2
      have n3 : 0 ≤ lf1 l b.2.1 b.2.2.1 7 0 ∧ 0 ≤ lf1 l b.2.1 b.2.2.1 8 0 := by omega
      have n4 := cg_nn b.2.2.2 n3.1 n3.2
      have e1 : cbr l b = cu (lf2 (lf1 l b.2.1 b.2.2.1) b.2.2.2) 5 ((cg (cg l b.2.1).1 b.2.2.1).1 7 0) (lf2 (lf1 l b.2.1 b.2.2.1) b.2.2.2 7 0) := by unfold cbr; rw [if_pos c]
      obtain ⟨h1, h2⟩ := hE1
      have e7 : cbr l b 7 0 = lf2 (lf1 l b.2.1 b.2.2.1) b.2.2.2 7 0 := by rw [e1, cu_f (by decide)]
      have hm : ExM (lf2 (lf1 l b.2.1 b.2.2.1) b.2.2.2) L := by
        rw [e1] at h1
        obtain ⟨a1, a2, a3⟩ := h1
        rw [cu_f (by decide)] at a1 a2 a3
        refine ⟨a1, fun i i0 i1 => ?_, a3.1, fun k k0 k1 => ?_⟩
        · have := a2 i i0 i1
          rw [cu_f (by decide), cu_f (by decide), cu_f (by decide)] at this
          exact this
        · rw [a3.2 k k0 k1, cu_f (by decide)]
      have m1 := (ExM.ad hm n4.1).1.cg n3.1 n3.2
      obtain ⟨m2, x2, x3, x4⟩ := ExM.ad m1 n2.1
      have m3 := m2.cg n1.1 n1.2
      have hsl := hm.1
      have aim : L 5 ((cg (cg l b.2.1).1 b.2.2.1).1 7 0) = cbr l b 7 0 := by
        rw [h2 _ n2.1 (by omega), e1, cu_s, cu_f (by decide)]
      show LR L (l 7 0) a = (if b.1 = true then (match evl v b.2.1 with
        | none => 0
        | some x => match evl v b.2.2.1 with
          | none => 0
          | some y => if x < y then (evl v b.2.2.2).getD 0 else phb v M) else (evl v b.2.2.2).getD 0)
      rw [if_pos c]
      obtain ⟨r1, r2⟩ := run_cg (v := v) (a := a) hL7 hL8 m3 h7 h8 ha hv o3 o1
      cases he1 : evl v b.2.1 with
      | none => exact r1 he1
      | some p =>
        obtain ⟨a1, q1, q2, q3, q4⟩ := r2 p he1
        have ha1 : ∀ k, 6 ≤ k → k < 406 → a1 k = L 6 k := fun k k0 k1 => by rw [q2 k (by omega)]; exact ha k k0 k1
        have hv1 : ∀ j, 0 ≤ j → j ≤ 5 → a1 j = v j := fun j j0 j1 => by rw [q2 j (by omega)]; exact hv j j0 j1
        obtain ⟨s1, s2⟩ := run_cg (v := v) (a := a1) hL7 hL8 m2 n1.1 n1.2 ha1 hv1 o4 o2
        show LR L (l 7 0) a = match evl v b.2.2.1 with
          | none => 0
          | some y => if p < y then (evl v b.2.2.2).getD 0 else phb v M
        cases he2 : evl v b.2.2.1 with
        | none => rw [q1]; exact s1 he2
        | some r =>
          obtain ⟨a2, t1, t2, t3, t4⟩ := s2 r he2
          have ha2 : ∀ k, 6 ≤ k → k < 406 → a2 k = L 6 k := fun k k0 k1 => by rw [t2 k (by omega)]; exact ha1 k k0 k1
          have hv2 : ∀ j, 0 ≤ j → j ≤ 5 → a2 j = v j := fun j j0 j1 => by rw [t2 j (by omega)]; exact hv1 j j0 j1
          have hu1 := (un_hd hL8 m3 h7 h8 o3 o1).2
          have hp : a2 (hdU (cg l b.2.1).2) = p := by rw [t2 _ hu1]; exact q3
          show LR L (l 7 0) a = if p < r then (evl v b.2.2.2).getD 0 else phb v M
          rw [q1, t1, LR_S (by omega)]
          unfold lrun
          rw [if_neg (by omega), x2, x3, x4, if_neg (by decide), if_neg (by decide), if_neg (by decide), if_neg (by decide), if_pos rfl, hp, t3]
          by_cases cp : p < r
          · rw [if_pos cp, if_pos cp]
            have := run_end (v := v) (a := a2) hL7 hL8 hm n3.1 n3.2 ha2 hv2 hbk.2.2 hbk.2.1
            rw [k1.1] at this
            exact this
          · rw [if_neg cp, if_neg cp, aim, if_neg (by omega)]
            have := run_law hL7 hL8 M (cbr l b) a2 hE he hnn.1 hnn.2 ha2 hv2 (fun d hd => hb d (List.mem_cons_of_mem _ hd))
            rw [← this]
            unfold LR
            exact lrun_fuel _ _ _ _ (by omega) (by omega)
    · have e1 : cbr l b = lf2 l b.2.2.2 := by unfold cbr; rw [if_neg c]
      rw [e1] at hE1
      show LR L (l 7 0) a = (if b.1 = true then _ else (evl v b.2.2.2).getD 0)
      rw [if_neg c]
      exact run_end hL7 hL8 hE1.1 h7 h8 ha hv hbk.2.2 hbk.2.1
/-! a law's rows lie where they should -/
def LOx (l : Cs) : Prop := ∀ i, 0 ≤ i → i < l 7 0 → (0 ≤ l 3 i ∧ l 3 i < 406 + l 7 0) ∧ (0 ≤ l 4 i ∧ l 4 i < 406 + l 7 0)
theorem LOx.ad {l : Cs} {o a b : Int} (h : LOx l) (ha : 0 ≤ a ∧ a < 406 + l 7 0) (hb : 0 ≤ b ∧ b < 406 + l 7 0) : LOx (addS l o a b) := by
  have e := addS_78 l o a b
  have e3 : ∀ j, addS l o a b 3 j = if j = l 7 0 then a else l 3 j := fun j => by unfold addS; simp [cu_if]
  have e4 : ∀ j, addS l o a b 4 j = if j = l 7 0 then b else l 4 j := fun j => by unfold addS; simp [cu_if]
  intro i i0 i1
  rw [e.1] at i1 ⊢
  rw [e3, e4]
  by_cases w : i = l 7 0
  · rw [if_pos w, if_pos w]; omega
  · rw [if_neg w, if_neg w]; have := h i i0 (by omega); omega
theorem LOx.same {l l' : Cs} (h : LOx l) (e7 : l' 7 0 = l 7 0) (e3 : l' 3 = l 3) (e4 : l' 4 = l 4) : LOx l' := by
  unfold LOx; rw [e7, e3, e4]; exact h
theorem LOx.fold {L : Cs} (hL8 : L 8 0 ≤ 400) : ∀ (pf : List Cd) (p : Cs × List Int), ExM (pf.foldl cgs p).1 L → 0 ≤ p.1 7 0 → 0 ≤ p.1 8 0 → (∀ u ∈ p.2, 0 ≤ u ∧ u < 406 + p.1 7 0) → (∀ c ∈ pf, cok c) → LOx p.1 → LOx (pf.foldl cgs p).1
  | [], _, _, _, _, _, _, h => h
  | c :: pf, p, hE, h7, h8, hU, hc, h => by
    have hnn := cgs_nn (p := p) (c := c) h7 h8
    have hE1 := ExM.fold pf _ hE hnn.1 hnn.2
    refine LOx.fold hL8 pf (cgs p c) hE hnn.1 hnn.2 (un_step hL8 hE1 h7 h8 hU (hc c List.mem_cons_self)) (fun d hd => hc d (List.mem_cons_of_mem _ hd)) ?_
    unfold cgs
    by_cases c0 : c.1 = 0
    · rw [if_pos c0]
      exact h.same (useI_78 p.1 c.2).1 (by show useI p.1 c.2 3 = _; unfold useI; rw [cf_f (by decide), cf_f (by decide)]) (by show useI p.1 c.2 4 = _; unfold useI; rw [cf_f (by decide), cf_f (by decide)])
    rw [if_neg c0]
    by_cases c1 : c.1 = 1
    · rw [if_pos c1]
      exact h.same (useV_78 p.1 c.2).1 (by show useV p.1 c.2 3 = _; unfold useV; rw [cf_f (by decide), cf_f (by decide)]) (by show useV p.1 c.2 4 = _; unfold useV; rw [cf_f (by decide), cf_f (by decide)])
    rw [if_neg c1]
    obtain ⟨l1, U⟩ := p
    match U, hU with
    | [], _ => exact h
    | [b], _ => exact h
    | b :: a :: U, hU => exact LOx.ad h (hU a (List.mem_cons_of_mem _ List.mem_cons_self)) (hU b List.mem_cons_self)
theorem LOx.cg_ {L l : Cs} {pf : List Cd} (hL8 : L 8 0 ≤ 400) (hE : ExM (cg l pf).1 L) (h7 : 0 ≤ l 7 0) (h8 : 0 ≤ l 8 0) (hc : ∀ c ∈ pf, cok c) (h : LOx l) : LOx (cg l pf).1 := LOx.fold hL8 pf (l, []) hE h7 h8 (fun u hu => by cases hu) hc h
theorem LOx.br {L l : Cs} {b : Br} (hL8 : L 8 0 ≤ 400) (hE : ExL (cbr l b) L) (h7 : 0 ≤ l 7 0) (h8 : 0 ≤ l 8 0) (hb : brk b) (h : LOx l) : LOx (cbr l b) := by
  by_cases c : b.1 = true
  · obtain ⟨o1, o2, o3, o4⟩ := hb.1 c
    have g2 := cg_ge (l := (cg l b.2.1).1) b.2.2.1
    have k1 := lf1_78 (l := l) (a := b.2.1) (b := b.2.2.1)
    have k2 := lf2_78 (l := lf1 l b.2.1 b.2.2.1) (d := b.2.2.2)
    have n1 := cg_nn b.2.1 h7 h8
    have n2 := cg_nn b.2.2.1 n1.1 n1.2
    have n3 : 0 ≤ lf1 l b.2.1 b.2.2.1 7 0 ∧ 0 ≤ lf1 l b.2.1 b.2.2.1 8 0 := by omega
    have n4 := cg_nn b.2.2.2 n3.1 n3.2
    have e1 : cbr l b = cu (lf2 (lf1 l b.2.1 b.2.2.1) b.2.2.2) 5 ((cg (cg l b.2.1).1 b.2.2.1).1 7 0) (lf2 (lf1 l b.2.1 b.2.2.1) b.2.2.2 7 0) := by unfold cbr; rw [if_pos c]
    have hm : ExM (lf2 (lf1 l b.2.1 b.2.2.1) b.2.2.2) L := by
      have h1 := hE.1
      rw [e1] at h1
      obtain ⟨a1, a2, a3⟩ := h1
      rw [cu_f (by decide)] at a1 a2 a3
      refine ⟨a1, fun i i0 i1 => ?_, a3.1, fun k k0 k1 => ?_⟩
      · have := a2 i i0 i1
        rw [cu_f (by decide), cu_f (by decide), cu_f (by decide)] at this
        exact this
      · rw [a3.2 k k0 k1, cu_f (by decide)]
    have m0 := (ExM.ad hm n4.1).1
    have m1 := m0.cg n3.1 n3.2
    have m2 := (ExM.ad m1 n2.1).1
    have m3 := m2.cg n1.1 n1.2
    have u1 := un_hd hL8 m3 h7 h8 o3 o1
    have u2 := un_hd hL8 m2 n1.1 n1.2 o4 o2
    have u3 := un_hd hL8 m0 n3.1 n3.2 hb.2.2 hb.2.1
    have q1 := h.cg_ hL8 m3 h7 h8 o3
    have q2 := q1.cg_ hL8 m2 n1.1 n1.2 o4
    have q3 : LOx (lf1 l b.2.1 b.2.2.1) := q2.ad (by omega) u2
    have q4 := q3.cg_ hL8 m0 n3.1 n3.2 hb.2.2
    have q5 : LOx (lf2 (lf1 l b.2.1 b.2.2.1) b.2.2.2) := q4.ad u3 u3
    rw [e1]
    exact q5.same (cu_f (by decide)) (cf_f (by decide)) (cf_f (by decide))
  · have e1 : cbr l b = lf2 l b.2.2.2 := by unfold cbr; rw [if_neg c]
    rw [e1] at hE ⊢
    have n1 := cg_nn b.2.2.2 h7 h8
    have m0 := (ExM.ad hE.1 n1.1).1
    have u3 := un_hd hL8 m0 h7 h8 hb.2.2 hb.2.1
    exact (h.cg_ hL8 m0 h7 h8 hb.2.2).ad u3 u3
theorem law_is {l0 : Cs} {M : List Br} (hb : ∀ b ∈ M, brk b) (h7 : lawOf l0 M 7 0 ≤ 400) (h8 : lawOf l0 M 8 0 ≤ 400) : LawIs (lawOf l0 M) (phi M) := by
  have c7 : clr l0 7 0 = 0 := by unfold clr; rw [cu_f (by decide), cu_f (by decide), cu_f (by decide), cu_s]
  have c8 : clr l0 8 0 = 0 := by unfold clr; rw [cu_f (by decide), cu_f (by decide), cu_s]
  have hrf : ExL (lawOf l0 M) (lawOf l0 M) := ⟨⟨Int.le_refl _, fun _ _ _ => ⟨rfl, rfl, rfl⟩, Int.le_refl _, fun _ _ _ => rfl⟩, fun _ _ _ => rfl⟩
  refine ⟨?_, fun a ha => ?_⟩
  · have key : ∀ (N : List Br) (l : Cs), ExL (N.foldl cbr l) (lawOf l0 M) → 0 ≤ l 7 0 → 0 ≤ l 8 0 → (∀ b ∈ N, brk b) → LOx l → LOx (N.foldl cbr l) ∧ 0 ≤ (N.foldl cbr l) 7 0 := by
      intro N
      induction N with
      | nil => exact fun l _ h _ _ q => ⟨q, h⟩
      | cons d N ih =>
        intro l hE a b hd q
        have fold : ∀ (N : List Br) (l' : Cs), ExL (N.foldl cbr l') (lawOf l0 M) → 0 ≤ l' 7 0 → 0 ≤ l' 8 0 → ExL l' (lawOf l0 M) := by
          intro N
          induction N with
          | nil => exact fun l' h _ _ => h
          | cons d N ih => exact fun l' h a b => (ih _ h (cbr_nn d a b).1 (cbr_nn d a b).2).cbr_ a b
        have hE1 := fold N _ hE (cbr_nn d a b).1 (cbr_nn d a b).2
        exact ih (cbr l d) hE (cbr_nn d a b).1 (cbr_nn d a b).2 (fun x hx => hd x (List.mem_cons_of_mem _ hx)) (q.br h8 hE1 a b (hd d List.mem_cons_self))
    have hq := key M (clr l0) hrf (by omega) (by omega) hb (fun i i0 i1 => by omega)
    have hq1 : LOx (lawOf l0 M) := hq.1
    refine ⟨hq.2, h7, fun i i0 i1 => ?_⟩
    have := hq1 i i0 i1
    omega
  · have := run_law (v := vvs (a 0) (a 1) (a 2) (a 3) (a 4) (a 5)) h7 h8 M (clr l0) a hrf rfl (by omega) (by omega) ha (fun j j0 j1 => by
      have : j = 0 ∨ j = 1 ∨ j = 2 ∨ j = 3 ∨ j = 4 ∨ j = 5 := by omega
      rcases this with rfl | rfl | rfl | rfl | rfl | rfl <;> rfl) hb
    rw [c7] at this
    exact this
