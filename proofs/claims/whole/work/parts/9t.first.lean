/-! the first store -/
def s00 : St := fun o f k =>
  if o = 0 then (if f = 12 then -1 else 0)
  else if o = 1 then (if f = 33 ∧ k = 0 then 60 else if f = 17 then -1 else if f = 9 ∧ 0 ≤ k ∧ k < 14 then kyT.getD k.toNat 0 else 0)
  else if o = 4 ∨ o = 7 then (if f = 6 then 60 else 0)
  else if 16 ≤ o then (if f = 2 ∧ 0 ≤ k ∧ k < 8 then -2 else if f = 6 ∧ 0 ≤ k ∧ k < 12 then -2 else 0)
  else 0
theorem s00_c {o f : Nat} {k : Int} (h : 16 ≤ o) : s00 o f k = if f = 2 ∧ 0 ≤ k ∧ k < 8 then -2 else if f = 6 ∧ 0 ≤ k ∧ k < 12 then -2 else 0 := by
  unfold s00
  rw [if_neg (by omega), if_neg (by omega), if_neg (by omega), if_pos h]
theorem s00_z {o f : Nat} {k : Int} (h1 : 2 ≤ o) (h2 : o < 16) (h4 : o ≠ 4) (h7 : o ≠ 7) : s00 o f k = 0 := by
  unfold s00
  rw [if_neg (by omega), if_neg (by omega), if_neg (by omega), if_neg (by omega)]
theorem s00_p {o f : Nat} {k : Int} (h : o = 4 ∨ o = 7) : s00 o f k = if f = 6 then 60 else 0 := by
  unfold s00
  rw [if_neg (by omega), if_neg (by omega), if_pos h]
theorem s00_rd {o : Nat} (h : 16 ≤ o) : RdC (s00 o) := by
  refine ⟨fun f k a b c => ?_, fun f k a b c d => ?_, ?_, fun f p a b c => ?_⟩
  · rw [s00_c h, if_neg (by omega), if_neg (by omega)]
  · rw [s00_c h, if_neg (by omega), if_neg (by omega)]
  · rw [s00_c h, if_neg (by omega), if_neg (by omega)]
  · rw [s00_c h, if_neg (by omega), if_neg (by omega)]; omega
theorem s00_zr {o : Nat} (h : 16 ≤ o) : Zr (s00 o) := by
  refine ⟨s00_rd h, ?_, fun p a b => ?_⟩
  · rw [s00_c h, if_neg (by omega), if_neg (by omega)]
  · rw [s00_c h, if_pos ⟨rfl, a, b⟩]
theorem C00_s : C00 s00 := by
  refine ⟨⟨?_, ?_, ?_, ?_, ?_⟩, ⟨?_, ?_⟩, ⟨s00_zr (by decide), s00_zr (by decide)⟩, ⟨?_, ?_⟩, ⟨fun s a b => ?_, ?_⟩, ⟨?_, ?_, ?_⟩, ?_, ⟨?_, ?_⟩, ?_, ?_, s00_rd (by decide)⟩
  · rw [s00_p (by decide), if_neg (by decide)]
  · rw [s00_p (by decide), if_neg (by decide)]
  · rw [s00_p (by decide), if_neg (by decide)]
  · rw [s00_p (by decide), if_pos rfl]
  · rw [s00_p (by decide), if_neg (by decide)]
  · exact s00_z (by decide) (by decide) (by decide) (by decide)
  · exact s00_z (by decide) (by decide) (by decide) (by decide)
  · exact s00_z (by decide) (by decide) (by decide) (by decide)
  · exact s00_z (by decide) (by decide) (by decide) (by decide)
  · unfold s00; rw [if_pos rfl, if_neg (by decide)]
  · unfold s00; rw [if_pos rfl, if_pos rfl]
  · exact s00_z (by decide) (by decide) (by decide) (by decide)
  · exact s00_z (by decide) (by decide) (by decide) (by decide)
  · exact s00_z (by decide) (by decide) (by decide) (by decide)
  · exact s00_z (by decide) (by decide) (by decide) (by decide)
  · exact s00_z (by decide) (by decide) (by decide) (by decide)
  · exact s00_z (by decide) (by decide) (by decide) (by decide)
  · exact s00_z (by decide) (by decide) (by decide) (by decide)
  · rw [s00_p (by decide), if_neg (by decide)]
theorem s00_m {f : Nat} {k : Int} : s00 1 f k = if f = 33 ∧ k = 0 then 60 else if f = 17 then -1 else if f = 9 ∧ 0 ≤ k ∧ k < 14 then kyT.getD k.toNat 0 else 0 := by
  unfold s00
  rw [if_neg (by decide), if_pos rfl]
theorem s00_mz {f : Nat} {k : Int} (h1 : f ≠ 33) (h2 : f ≠ 17) (h3 : f ≠ 9) : s00 1 f k = 0 := by rw [s00_m, if_neg (fun z => h1 z.1), if_neg h2, if_neg (fun z => h3 z.1)]
theorem M00_s : M00 (s00 1) := by
  refine ⟨s00_mz (by decide) (by decide) (by decide), s00_mz (by decide) (by decide) (by decide), s00_mz (by decide) (by decide) (by decide), s00_mz (by decide) (by decide) (by decide), ?_, fun k a b => ?_, fun k _ _ => s00_mz (by decide) (by decide) (by decide), s00_mz (by decide) (by decide) (by decide), fun s _ _ => s00_mz (by decide) (by decide) (by decide), s00_mz (by decide) (by decide) (by decide), s00_mz (by decide) (by decide) (by decide), ?_⟩
  · rw [s00_m, if_pos ⟨rfl, rfl⟩]
  · rw [s00_m, if_neg (by omega), if_neg (by decide), if_pos ⟨rfl, a, b⟩]
  · rw [s00_m, if_neg (by omega), if_pos rfl]
theorem rk_0 (k : Nat) : rk k 0 := by
  unfold rk
  split <;> first | exact Or.inl rfl | exact ⟨by decide, by decide⟩
theorem ky_64 (k : Int) : R64 (kyT.getD k.toNat 0) := by
  by_cases h : k.toNat < 14
  · have : ∀ j : Fin 14, R64 (kyT.getD j.val 0) := by decide
    exact this ⟨k.toNat, h⟩
  · have e : kyT.getD k.toNat 0 = 0 := by
      rw [List.getD_eq_getElem?_getD, List.getElem?_eq_none (by show 14 ≤ k.toNat; omega)]
      rfl
    rw [e]
    exact ⟨by decide, by decide⟩
theorem Rng_s : Rng s00 := by
  intro o f k
  by_cases h0 : o = 0
  · subst h0
    unfold s00
    rw [if_pos rfl]
    by_cases c : f = 12
    · subst c; rw [if_pos rfl]; exact (⟨by decide, by decide⟩ : R32 (-1))
    · rw [if_neg c]; exact rk_0 _
  · by_cases h1 : o = 1
    · subst h1
      rw [s00_m]
      by_cases c : f = 33 ∧ k = 0
      · rw [if_pos c, c.1]; exact (⟨by decide, by decide⟩ : R32 60)
      · rw [if_neg c]
        by_cases c2 : f = 17
        · rw [if_pos c2, c2]; exact (⟨by decide, by decide⟩ : R32 (-1))
        · rw [if_neg c2]
          by_cases c3 : f = 9 ∧ 0 ≤ k ∧ k < 14
          · rw [if_pos c3, c3.1]; exact ky_64 k
          · rw [if_neg c3]; exact rk_0 _
    · by_cases h4 : o = 4 ∨ o = 7
      · rw [s00_p h4]
        by_cases c : f = 6
        · rw [if_pos c, c]
          rcases h4 with rfl | rfl <;> exact (⟨by decide, by decide⟩ : R32 60)
        · rw [if_neg c]; exact rk_0 _
      · by_cases h16 : 16 ≤ o
        · rw [s00_c h16]
          have ec : cls o = 0 := by unfold cls; rw [if_neg (by omega)]
          rw [ec]
          by_cases c : f = 2 ∧ 0 ≤ k ∧ k < 8
          · rw [if_pos c, c.1]; exact (⟨by decide, by decide⟩ : R32 (-2))
          · rw [if_neg c]
            by_cases c2 : f = 6 ∧ 0 ≤ k ∧ k < 12
            · rw [if_pos c2, c2.1]; exact (⟨by decide, by decide⟩ : R32 (-2))
            · rw [if_neg c2]; exact rk_0 _
        · rw [s00_z (by omega) (by omega) (by omega) (by omega)]; exact rk_0 _
