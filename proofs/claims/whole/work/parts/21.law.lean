/-! Law.value: what a law tells -/
def n32 (x : Int) : Int := (Int32.ofInt x).toInt
theorem n32_eq (x : Int) : Int32.ofInt x = Int32.ofInt (n32 x) := (Int32.ofInt_toInt _).symm
theorem n32_r (x : Int) : R32 (n32 x) := r_of _
theorem n32_id {x : Int} (h : R32 x) : n32 x = x := r_int h
def ua (a : Int → Int) (k v : Int) : Int → Int := fun j => if j = k then v else a j
theorem ua_at (a : Int → Int) (k v : Int) : ua a k v k = v := by unfold ua; rw [if_pos rfl]
theorem ua_ne {a : Int → Int} {k v j : Int} (h : j ≠ k) : ua a k v j = a j := by unfold ua; rw [if_neg h]
/-- an object with other numbers in a field -/
def lnm (l : Cs) (f : Nat) (a : Int → Int) : Cs := fun f' => if f' = f then a else l f'
theorem lnm_s (l : Cs) (f : Nat) (a : Int → Int) : lnm l f a f = a := by unfold lnm; rw [if_pos rfl]
theorem lnm_f {l : Cs} {f f' : Nat} {a : Int → Int} (h : f' ≠ f) : lnm l f a f' = l f' := by unfold lnm; rw [if_neg h]
theorem lnm_cu (l : Cs) (f : Nat) (a : Int → Int) (k v : Int) : cu (lnm l f a) f k v = lnm l f (ua a k v) := by
  funext f' k'
  unfold cu lnm ua
  by_cases h : f' = f
  · by_cases h2 : k' = k
    · rw [if_pos ⟨h, h2⟩, if_pos h, if_pos h2]
    · rw [if_neg (fun z => h2 z.2), if_pos h, if_pos h, if_neg h2]
  · rw [if_neg (fun z => h z.1), if_neg h, if_neg h]
theorem lnm_id (l : Cs) (f : Nat) : lnm l f (l f) = l := by
  funext f'
  unfold lnm
  by_cases h : f' = f
  · rw [if_pos h, h]
  · rw [if_neg h]
theorem lnm_lnm (l : Cs) (f : Nat) (a b : Int → Int) : lnm (lnm l f a) f b = lnm l f b := by
  funext f'
  unfold lnm
  by_cases h : f' = f
  · rw [if_pos h, if_pos h]
  · rw [if_neg h, if_neg h, if_neg h]
theorem cu_lnm (l : Cs) (f : Nat) (k v : Int) : cu l f k v = lnm l f (ua (l f) k v) := by
  have := lnm_cu l f (l f) k v
  rw [lnm_id] at this
  exact this
/-- fewer locals known -/
theorem e_drop {g : Mach} {pc : Nat} {L : List (Option V)} {st : List V} {σ : St} (j : Nat) (k : Ev g pc (L.set j none) st σ) : Ev g pc L st σ := by
  obtain ⟨⟨p, l, e, R⟩, ⟨s, m, args, below⟩, ⟨meth, c, cells, slots⟩, ⟨D, ca, ρ⟩, Q⟩ := g
  intro H locs ls hl hR
  refine k H locs ls ⟨hl.1, hl.2.1, fun i v hi => hl.2.2 i v ?_⟩ hR
  by_cases e1 : i = j
  · subst e1
    by_cases h : i < L.length
    · rw [List.getElem?_set_self h] at hi
      cases hi
    · rw [List.getElem?_eq_none (by rw [List.length_set]; omega)] at hi
      cases hi
  · rwa [List.getElem?_set_ne (fun z => e1 z.symm)] at hi
def LOk (l : Cs) : Prop := 0 ≤ l 7 0 ∧ l 7 0 ≤ 400 ∧ ∀ i, 0 ≤ i → i < l 7 0 → (0 ≤ l 3 i ∧ l 3 i < 806) ∧ (0 ≤ l 4 i ∧ l 4 i < 806)
def lrun (l : Cs) : Nat → Int → (Int → Int) → Int
  | 0, _, _ => 0
  | n + 1, i, a =>
    if l 7 0 ≤ i then 0
    else if l 2 i = 0 then lrun l n (i + 1) (ua a (406 + i) (n32 (a (l 3 i) + a (l 4 i))))
    else if l 2 i = 1 then lrun l n (i + 1) (ua a (406 + i) (n32 (a (l 3 i) - a (l 4 i))))
    else if l 2 i = 2 then lrun l n (i + 1) (ua a (406 + i) (n32 (a (l 3 i) * a (l 4 i))))
    else if l 2 i = 3 then if a (l 4 i) = 0 then 0 else lrun l n (i + 1) (ua a (406 + i) (n32 ((a (l 3 i)).tdiv (a (l 4 i)))))
    else if l 2 i = 4 then if a (l 3 i) < a (l 4 i) then lrun l n (i + 1) a else if l 5 i ≤ i then lrun l n (i + 1) a else lrun l n (l 5 i) a
    else a (l 3 i)
set_option maxHeartbeats 4000000 in
theorem l_La_value {g : Mach} {P : Int → St → Prop} (C : Cx M_La_value g) (F : FinI M_La_value g P) {σ : St} {o : Nat} {l : Cs} (h_o : o ∈ objs) (c_o : cls o = 4) (hl : LOk l) (v1 v2 v3 v4 v5 v6 : Int) :
    ∀ (n : Nat) (i : Int) (a : Int → Int), 0 ≤ i → i < 2147483648 → (l 7 0 - i).toNat < n → (∀ a' : Int → Int, (∀ k, 6 ≤ k → k < 406 → a' k = a k) → P (lrun l n i a) (so σ o (lnm l 6 a'))) → Ev g 42 [some (.inr (.inr (o, 0))), some (.inl v1), some (.inl v2), some (.inl v3), some (.inl v4), some (.inl v5), some (.inl v6), some (.inr (.inr (o, 7))), some (.inl i), none, none] [] (so σ o (lnm l 6 a)) := by
  intro n
  induction n with
  | zero => intro i a h0 hi h1 hP; exact absurd h1 (by omega)
  | succ n ih =>
    intro i a h0 hi h1 hP
    have hl1 := hl.1
    have hl2 := hl.2.1
    have hlr := hl.2.2 i h0
    unfold lrun at hP
    refine e_iload C d_La_value_42 rfl ?_
    refine e_aload_n C d_La_value_44 rfl ?_
    refine e_geti C fl_La_27 h_o c_o rfl d_La_value_45 (fun r_45 => ?_)
    try simp only [so_at, so_so, wr_so, lnm_s, lnm_f, lnm_cu, ne_eq, Nat.reduceEqDiff, not_false_eq_true] at r_45 ⊢
    refine e_icmp_ge C 233 d_La_value_48 (by decide) (by omega) (by omega) (fun c_48 => ?_) (fun c_48 => ?_)
    · rw [if_pos c_48] at hP
      refine e_iconst C d_La_value_233 ?_
      refine e_iret C F rfl d_La_value_234 (by omega) ?_
      exact hP a (fun _ _ _ => rfl)
    · rw [if_neg c_48] at hP
      replace hlr := hlr (by omega)
      refine e_aload C d_La_value_51 rfl ?_
      refine e_aload_n C d_La_value_53 rfl ?_
      refine e_geta C fl_La_15 h_o c_o rfl d_La_value_54 ?_
      refine e_iload C d_La_value_57 rfl ?_
      refine e_iald (n := 400) C h_o c_o (by decide) rfl rfl (by decide) (by omega) (by omega) d_La_value_59 (fun r_59 => ?_)
      try simp only [so_at, so_so, wr_so, lnm_s, lnm_f, lnm_cu, ne_eq, Nat.reduceEqDiff, not_false_eq_true] at r_59 ⊢
      refine e_iald (n := 806) C h_o c_o (by decide) rfl rfl (by decide) (by omega) (by omega) d_La_value_60 (fun r_60 => ?_)
      try simp only [so_at, so_so, wr_so, lnm_s, lnm_f, lnm_cu, ne_eq, Nat.reduceEqDiff, not_false_eq_true] at r_60 ⊢
      refine e_istore C d_La_value_61 (by decide) rfl ?_
      refine e_aload C d_La_value_63 rfl ?_
      refine e_aload_n C d_La_value_65 rfl ?_
      refine e_geta C fl_La_18 h_o c_o rfl d_La_value_66 ?_
      refine e_iload C d_La_value_69 rfl ?_
      refine e_iald (n := 400) C h_o c_o (by decide) rfl rfl (by decide) (by omega) (by omega) d_La_value_71 (fun r_71 => ?_)
      try simp only [so_at, so_so, wr_so, lnm_s, lnm_f, lnm_cu, ne_eq, Nat.reduceEqDiff, not_false_eq_true] at r_71 ⊢
      refine e_iald (n := 806) C h_o c_o (by decide) rfl rfl (by decide) (by omega) (by omega) d_La_value_72 (fun r_72 => ?_)
      try simp only [so_at, so_so, wr_so, lnm_s, lnm_f, lnm_cu, ne_eq, Nat.reduceEqDiff, not_false_eq_true] at r_72 ⊢
      refine e_istore C d_La_value_73 (by decide) rfl ?_
      refine e_aload_n C d_La_value_75 rfl ?_
      refine e_geta C fl_La_11 h_o c_o rfl d_La_value_76 ?_
      refine e_iload C d_La_value_79 rfl ?_
      refine e_iald (n := 400) C h_o c_o (by decide) rfl rfl (by decide) (by omega) (by omega) d_La_value_81 (fun r_81 => ?_)
      try simp only [so_at, so_so, wr_so, lnm_s, lnm_f, lnm_cu, ne_eq, Nat.reduceEqDiff, not_false_eq_true] at r_81 ⊢
      by_cases s_82 : l 2 i < 0 ∨ 4 < l 2 i
      · refine e_tableOut C 224 d_La_value_82 (by omega) (by omega) (by decide) ?_
        refine e_iload C d_La_value_224 rfl ?_
        refine e_iret C F rfl d_La_value_226 (by omega) ?_
        rw [if_neg (by omega), if_neg (by omega), if_neg (by omega), if_neg (by omega), if_neg (by omega)] at hP
        exact hP a (fun _ _ _ => rfl)
      · rcases (show l 2 i = 0 ∨ l 2 i = 1 ∨ l 2 i = 2 ∨ l 2 i = 3 ∨ l 2 i = 4 by omega) with s_82_ | s_82_ | s_82_ | s_82_ | s_82_
        · refine e_tableIn (off := 34) C 116 d_La_value_82 (by omega) (by omega) (by omega) (by rw [s_82_]; rfl) (by decide) ?_
          refine e_aload C d_La_value_116 rfl ?_
          refine e_sipush C d_La_value_118 (by decide) ?_
          refine e_iload C d_La_value_121 rfl ?_
          refine e_iadd C d_La_value_123 ?_
          refine e_iload C d_La_value_124 rfl ?_
          refine e_iload C d_La_value_126 rfl ?_
          refine e_iadd C d_La_value_128 ?_
          refine e_topi (n32_eq _) ?_
          have w1 := n32_r (a (l 3 i) + a (l 4 i))
          refine e_iast (n := 806) C h_o c_o (by decide) rfl rfl (by decide) (by omega) (by omega) w1 d_La_value_129 ?_
          try simp only [so_at, so_so, wr_so, lnm_s, lnm_f, lnm_cu, ne_eq, Nat.reduceEqDiff, not_false_eq_true]
          rw [if_pos s_82_] at hP
          refine e_goto C 227 d_La_value_130 (by decide) ?_
          refine e_iinc C d_La_value_227 rfl (by decide) rfl ?_
          refine e_goto C 42 d_La_value_230 (by decide) ?_
          try simp only [Int.sub_add_cancel]
          refine e_drop 9 ?_
          refine e_drop 10 ?_
          refine ih _ _ (by omega) (by omega) (by omega) (fun a' h => hP a' (fun k h6 h4 => ?_))
          first | exact h k h6 h4 | (rw [h k h6 h4]; exact ua_ne (by omega))
        · refine e_tableIn (off := 51) C 133 d_La_value_82 (by omega) (by omega) (by omega) (by rw [s_82_]; rfl) (by decide) ?_
          refine e_aload C d_La_value_133 rfl ?_
          refine e_sipush C d_La_value_135 (by decide) ?_
          refine e_iload C d_La_value_138 rfl ?_
          refine e_iadd C d_La_value_140 ?_
          refine e_iload C d_La_value_141 rfl ?_
          refine e_iload C d_La_value_143 rfl ?_
          refine e_isub C d_La_value_145 ?_
          refine e_topi (n32_eq _) ?_
          have w1 := n32_r (a (l 3 i) - a (l 4 i))
          refine e_iast (n := 806) C h_o c_o (by decide) rfl rfl (by decide) (by omega) (by omega) w1 d_La_value_146 ?_
          try simp only [so_at, so_so, wr_so, lnm_s, lnm_f, lnm_cu, ne_eq, Nat.reduceEqDiff, not_false_eq_true]
          rw [if_neg (by omega), if_pos s_82_] at hP
          refine e_goto C 227 d_La_value_147 (by decide) ?_
          refine e_iinc C d_La_value_227 rfl (by decide) rfl ?_
          refine e_goto C 42 d_La_value_230 (by decide) ?_
          try simp only [Int.sub_add_cancel]
          refine e_drop 9 ?_
          refine e_drop 10 ?_
          refine ih _ _ (by omega) (by omega) (by omega) (fun a' h => hP a' (fun k h6 h4 => ?_))
          first | exact h k h6 h4 | (rw [h k h6 h4]; exact ua_ne (by omega))
        · refine e_tableIn (off := 68) C 150 d_La_value_82 (by omega) (by omega) (by omega) (by rw [s_82_]; rfl) (by decide) ?_
          refine e_aload C d_La_value_150 rfl ?_
          refine e_sipush C d_La_value_152 (by decide) ?_
          refine e_iload C d_La_value_155 rfl ?_
          refine e_iadd C d_La_value_157 ?_
          refine e_iload C d_La_value_158 rfl ?_
          refine e_iload C d_La_value_160 rfl ?_
          refine e_imul C d_La_value_162 ?_
          refine e_topi (n32_eq _) ?_
          have w1 := n32_r (a (l 3 i) * a (l 4 i))
          refine e_iast (n := 806) C h_o c_o (by decide) rfl rfl (by decide) (by omega) (by omega) w1 d_La_value_163 ?_
          try simp only [so_at, so_so, wr_so, lnm_s, lnm_f, lnm_cu, ne_eq, Nat.reduceEqDiff, not_false_eq_true]
          rw [if_neg (by omega), if_neg (by omega), if_pos s_82_] at hP
          refine e_goto C 227 d_La_value_164 (by decide) ?_
          refine e_iinc C d_La_value_227 rfl (by decide) rfl ?_
          refine e_goto C 42 d_La_value_230 (by decide) ?_
          try simp only [Int.sub_add_cancel]
          refine e_drop 9 ?_
          refine e_drop 10 ?_
          refine ih _ _ (by omega) (by omega) (by omega) (fun a' h => hP a' (fun k h6 h4 => ?_))
          first | exact h k h6 h4 | (rw [h k h6 h4]; exact ua_ne (by omega))
        · refine e_tableIn (off := 85) C 167 d_La_value_82 (by omega) (by omega) (by omega) (by rw [s_82_]; rfl) (by decide) ?_
          refine e_iload C d_La_value_167 rfl ?_
          refine e_if_ne C 174 d_La_value_169 (by decide) (by omega) (fun c_169 => ?_) (fun c_169 => ?_)
          · refine e_aload C d_La_value_174 rfl ?_
            refine e_sipush C d_La_value_176 (by decide) ?_
            refine e_iload C d_La_value_179 rfl ?_
            refine e_iadd C d_La_value_181 ?_
            refine e_iload C d_La_value_182 rfl ?_
            refine e_iload C d_La_value_184 rfl ?_
            refine e_idiv C d_La_value_186 (by omega) (by omega) (by omega) ?_
            refine e_topi (n32_eq _) ?_
            have w1 := n32_r ((a (l 3 i)).tdiv (a (l 4 i)))
            refine e_iast (n := 806) C h_o c_o (by decide) rfl rfl (by decide) (by omega) (by omega) w1 d_La_value_187 ?_
            try simp only [so_at, so_so, wr_so, lnm_s, lnm_f, lnm_cu, ne_eq, Nat.reduceEqDiff, not_false_eq_true]
            rw [if_neg (by omega), if_neg (by omega), if_neg (by omega), if_pos s_82_, if_neg c_169] at hP
            refine e_goto C 227 d_La_value_188 (by decide) ?_
            refine e_iinc C d_La_value_227 rfl (by decide) rfl ?_
            refine e_goto C 42 d_La_value_230 (by decide) ?_
            try simp only [Int.sub_add_cancel]
            refine e_drop 9 ?_
            refine e_drop 10 ?_
            refine ih _ _ (by omega) (by omega) (by omega) (fun a' h => hP a' (fun k h6 h4 => ?_))
            first | exact h k h6 h4 | (rw [h k h6 h4]; exact ua_ne (by omega))
          · refine e_iconst C d_La_value_172 ?_
            refine e_iret C F rfl d_La_value_173 (by omega) ?_
            rw [if_neg (by omega), if_neg (by omega), if_neg (by omega), if_pos s_82_, if_pos c_169] at hP
            exact hP a (fun _ _ _ => rfl)
        · refine e_tableIn (off := 109) C 191 d_La_value_82 (by omega) (by omega) (by omega) (by rw [s_82_]; rfl) (by decide) ?_
          rw [if_neg (by omega), if_neg (by omega), if_neg (by omega), if_neg (by omega), if_pos s_82_] at hP
          refine e_iload C d_La_value_191 rfl ?_
          refine e_iload C d_La_value_193 rfl ?_
          refine e_icmp_lt C 227 d_La_value_195 (by decide) (by omega) (by omega) (fun c_195 => ?_) (fun c_195 => ?_)
          · rw [if_pos c_195] at hP
            refine e_iinc C d_La_value_227 rfl (by decide) rfl ?_
            refine e_goto C 42 d_La_value_230 (by decide) ?_
            try simp only [Int.sub_add_cancel]
            refine e_drop 9 ?_
            refine e_drop 10 ?_
            refine ih _ _ (by omega) (by omega) (by omega) (fun a' h => hP a' (fun k h6 h4 => ?_))
            first | exact h k h6 h4 | (rw [h k h6 h4]; exact ua_ne (by omega))
          · rw [if_neg c_195] at hP
            refine e_aload_n C d_La_value_198 rfl ?_
            refine e_geta C fl_La_21 h_o c_o rfl d_La_value_199 ?_
            refine e_iload C d_La_value_202 rfl ?_
            refine e_iald (n := 400) C h_o c_o (by decide) rfl rfl (by decide) (by omega) (by omega) d_La_value_204 (fun r_204 => ?_)
            try simp only [so_at, so_so, wr_so, lnm_s, lnm_f, lnm_cu, ne_eq, Nat.reduceEqDiff, not_false_eq_true] at r_204 ⊢
            refine e_iload C d_La_value_205 rfl ?_
            refine e_icmp_le C 227 d_La_value_207 (by decide) (by omega) (by omega) (fun c_207 => ?_) (fun c_207 => ?_)
            · rw [if_pos c_207] at hP
              refine e_iinc C d_La_value_227 rfl (by decide) rfl ?_
              refine e_goto C 42 d_La_value_230 (by decide) ?_
              try simp only [Int.sub_add_cancel]
              refine e_drop 9 ?_
              refine e_drop 10 ?_
              refine ih _ _ (by omega) (by omega) (by omega) (fun a' h => hP a' (fun k h6 h4 => ?_))
              first | exact h k h6 h4 | (rw [h k h6 h4]; exact ua_ne (by omega))
            · rw [if_neg c_207] at hP
              refine e_aload_n C d_La_value_210 rfl ?_
              refine e_geta C fl_La_21 h_o c_o rfl d_La_value_211 ?_
              refine e_iload C d_La_value_214 rfl ?_
              refine e_iald (n := 400) C h_o c_o (by decide) rfl rfl (by decide) (by omega) (by omega) d_La_value_216 (fun r_216 => ?_)
              try simp only [so_at, so_so, wr_so, lnm_s, lnm_f, lnm_cu, ne_eq, Nat.reduceEqDiff, not_false_eq_true] at r_216 ⊢
              refine e_iconst C d_La_value_217 ?_
              refine e_isub C d_La_value_218 ?_
              refine e_istore C d_La_value_219 (by decide) rfl ?_
              refine e_goto C 227 d_La_value_221 (by decide) ?_
              refine e_iinc C d_La_value_227 rfl (by decide) rfl ?_
              refine e_goto C 42 d_La_value_230 (by decide) ?_
              try simp only [Int.sub_add_cancel]
              refine e_drop 9 ?_
              refine e_drop 10 ?_
              refine ih _ _ (by omega) (by omega) (by omega) (fun a' h => hP a' (fun k h6 h4 => ?_))
              first | exact h k h6 h4 | (rw [h k h6 h4]; exact ua_ne (by omega))
/-- what a law tells, of neck, wet, above, below, minute, post -/
def lenv (l : Cs) (v1 v2 v3 v4 v5 v6 : Int) : Int → Int := ua (ua (ua (ua (ua (ua (l 6) 0 v1) 1 v2) 2 v3) 3 v4) 4 v5) 5 v6
def lval (l : Cs) (v1 v2 v3 v4 v5 v6 : Int) : Int := lrun l 401 0 (lenv l v1 v2 v3 v4 v5 v6)
/-- the same law, but for scratch numbers -/
def LSm (l l' : Cs) : Prop := (∀ f, f ≠ 6 → l' f = l f) ∧ ∀ k, 6 ≤ k → k < 406 → l' 6 k = l 6 k
theorem LSm.rf (l : Cs) : LSm l l := ⟨fun _ _ => rfl, fun _ _ _ => rfl⟩
theorem LSm.tr {l l1 l2 : Cs} (h : LSm l l1) (h2 : LSm l1 l2) : LSm l l2 := ⟨fun f hf => (h2.1 f hf).trans (h.1 f hf), fun k a b => (h2.2 k a b).trans (h.2 k a b)⟩
theorem k_La_value {σ : St} {o : Nat} {v1 v2 v3 v4 v5 v6 : Int} (h_o : o ∈ objs) (c_o : cls o = 4) (hl : LOk (σ o)) (h1 : R32 v1) (h2 : R32 v2) (h3 : R32 v3) (h4 : R32 v4) (h5 : R32 v5) (h6 : R32 v6) :
    CtI M_La_value [.inr (.inr (o, 0)), .inl v1, .inl v2, .inl v3, .inl v4, .inl v5, .inl v6] σ (fun r u => r = lval (σ o) v1 v2 v3 v4 v5 v6 ∧ ∃ l', LSm (σ o) l' ∧ u = so σ o l') := by
  intro g C F
  refine e_aload_n C d_La_value_0 rfl ?_
  refine e_geta C fl_La_24 h_o c_o rfl d_La_value_1 ?_
  refine e_astore C d_La_value_4 (by decide) rfl ?_
  refine e_aload C d_La_value_6 rfl ?_
  refine e_iconst C d_La_value_8 ?_
  refine e_iload_n C d_La_value_9 rfl ?_
  refine e_iast (n := 806) C h_o c_o (by decide) rfl rfl (by decide) (by omega) (by omega) (by omega) d_La_value_10 ?_
  refine e_aload C d_La_value_11 rfl ?_
  refine e_iconst C d_La_value_13 ?_
  refine e_iload_n C d_La_value_14 rfl ?_
  refine e_iast (n := 806) C h_o c_o (by decide) rfl rfl (by decide) (by omega) (by omega) (by omega) d_La_value_15 ?_
  refine e_aload C d_La_value_16 rfl ?_
  refine e_iconst C d_La_value_18 ?_
  refine e_iload_n C d_La_value_19 rfl ?_
  refine e_iast (n := 806) C h_o c_o (by decide) rfl rfl (by decide) (by omega) (by omega) (by omega) d_La_value_20 ?_
  refine e_aload C d_La_value_21 rfl ?_
  refine e_iconst C d_La_value_23 ?_
  refine e_iload C d_La_value_24 rfl ?_
  refine e_iast (n := 806) C h_o c_o (by decide) rfl rfl (by decide) (by omega) (by omega) (by omega) d_La_value_26 ?_
  refine e_aload C d_La_value_27 rfl ?_
  refine e_iconst C d_La_value_29 ?_
  refine e_iload C d_La_value_30 rfl ?_
  refine e_iast (n := 806) C h_o c_o (by decide) rfl rfl (by decide) (by omega) (by omega) (by omega) d_La_value_32 ?_
  refine e_aload C d_La_value_33 rfl ?_
  refine e_iconst C d_La_value_35 ?_
  refine e_iload C d_La_value_36 rfl ?_
  refine e_iast (n := 806) C h_o c_o (by decide) rfl rfl (by decide) (by omega) (by omega) (by omega) d_La_value_38 ?_
  refine e_iconst C d_La_value_39 ?_
  refine e_istore C d_La_value_40 (by decide) rfl ?_
  simp only [wr_so, so_so, so_at, cu_lnm, lnm_s, lnm_lnm]
  refine l_La_value C F h_o c_o hl v1 v2 v3 v4 v5 v6 401 0 _ (by omega) (by omega) (by have := hl.2.1; omega) (fun a' h => ⟨rfl, lnm (σ o) 6 a', ⟨fun f hf => lnm_f hf, fun k k1 k2 => ?_⟩, rfl⟩)
  rw [lnm_s, h k k1 k2, ua_ne (by omega), ua_ne (by omega), ua_ne (by omega), ua_ne (by omega), ua_ne (by omega), ua_ne (by omega)]
def pl_hour (P : Cs) (m : Int) : Int := if 0 < P 5 0 then 1 + m / 60 % P 5 0 else 0
theorem k_Pl_hourOf {σ : St} {m : Int} (h0 : 0 ≤ m) (hm : R32 m) (hh : σ 7 5 0 ≤ 24) : CtI M_Pl_hourOf [.inr (.inr (7, 0)), .inl m] σ (fun r u => r = pl_hour (σ 7) m ∧ u = σ) := by
  intro g C F
  refine e_aload_n C d_Pl_hourOf_0 rfl ?_
  refine e_geti C fl_Pl_38 (by decide) rfl rfl d_Pl_hourOf_1 (fun r_1 => ?_)
  refine e_if_le C 21 d_Pl_hourOf_4 (by decide) (by omega) (fun c_4 => ?_) (fun c_4 => ?_)
  · refine e_iconst C d_Pl_hourOf_21 ?_
    refine e_iret C F rfl d_Pl_hourOf_22 (by omega) ?_
    exact ⟨by unfold pl_hour; first | rw [if_neg (by omega)] | rw [if_pos (by omega)], rfl⟩
  · refine e_iconst C d_Pl_hourOf_7 ?_
    refine e_iload_n C d_Pl_hourOf_8 rfl ?_
    refine e_bipush C d_Pl_hourOf_9 (by decide) ?_
    refine e_idiv C d_Pl_hourOf_11 (by omega) (by omega) (by omega) ?_
    rw [Int.tdiv_eq_ediv_of_nonneg h0]
    refine e_aload_n C d_Pl_hourOf_12 rfl ?_
    refine e_geti C fl_Pl_38 (by decide) rfl rfl d_Pl_hourOf_13 (fun r_13 => ?_)
    refine e_irem C d_Pl_hourOf_16 (by omega) (by omega) (by omega) ?_
    rw [Int.tmod_eq_emod_of_nonneg (by omega)]
    have b1 := Int.emod_nonneg (m / 60) (b := σ 7 5 0) (by omega)
    have b2 := Int.emod_lt_of_pos (m / 60) (show 0 < σ 7 5 0 by omega)
    refine e_iadd C d_Pl_hourOf_17 ?_
    refine e_goto C 22 d_Pl_hourOf_18 (by decide) ?_
    refine e_iret C F rfl d_Pl_hourOf_22 (by omega) ?_
    exact ⟨by unfold pl_hour; first | rw [if_neg (by omega)] | rw [if_pos (by omega)], rfl⟩
def pl_damp (c : Cs) (p h : Int) : Int := if c 3 p = 1 then 0 else h
def pl_told (P l c : Cs) (p h : Int) : Int := if l 0 0 = 0 then lval l (P 0 p) (P 1 (pl_damp c p h)) (c 0 p) (c 1 p) (c 12 0) p else P 8 (p * 25 + pl_damp c p h)
def pl_flow (P l c : Cs) (p h : Int) : Int := if c 0 p = 0 then 0 else if 0 ≤ pl_told P l c p h then (if c 0 p ≤ pl_told P l c p h then c 0 p else pl_told P l c p h) else 0
theorem k_Pl_flow {σ : St} {o : Nat} {p h : Int} (hc : o ∈ castles) (hp : 0 ≤ p ∧ p < 8) (hh : 0 ≤ h ∧ h ≤ 24) (hl : LOk (σ 8)) : CtI M_Pl_flow [.inr (.inr (7, 0)), .inr (.inr (o, 0)), .inl p, .inl h] σ (fun r u => r = pl_flow (σ 7) (σ 8) (σ o) p h ∧ ∃ l', LSm (σ 8) l' ∧ u = so σ 8 l') := by
  intro g C F
  have h_o := cas_obj hc
  have c_o := cas_cls hc
  have hid : ∃ l', LSm (σ 8) l' ∧ σ = so σ 8 l' := ⟨σ 8, LSm.rf _, (so_id σ 8).symm⟩
  refine e_aload_n C d_Pl_flow_0 rfl ?_
  refine e_geta C fl_Pl_72 h_o c_o rfl d_Pl_flow_1 ?_
  refine e_iload_n C d_Pl_flow_4 rfl ?_
  refine e_iald (n := 8) C h_o c_o (by decide) rfl rfl (by decide) (by omega) (by omega) d_Pl_flow_5 (fun r_5 => ?_)
  refine e_istore C d_Pl_flow_6 (by decide) rfl ?_
  refine e_iload C d_Pl_flow_8 rfl ?_
  refine e_if_ne C 15 d_Pl_flow_10 (by decide) (by omega) (fun c_10 => ?_) (fun c_10 => ?_)
  · refine e_aload_n C d_Pl_flow_15 rfl ?_
    refine e_geta C fl_Pl_77 h_o c_o rfl d_Pl_flow_16 ?_
    refine e_iload_n C d_Pl_flow_19 rfl ?_
    refine e_zald (n := 8) C h_o c_o (by decide) rfl rfl (by decide) (by omega) (by omega) d_Pl_flow_20 (fun r_20 => ?_)
    refine e_if_eq C 28 d_Pl_flow_21 (by decide) (by omega) (fun c_21 => ?_) (fun c_21 => ?_)
    · have hdm : pl_damp (σ o) p h = h := by unfold pl_damp; rw [if_neg (by omega)]
      refine e_iload_n C d_Pl_flow_28 rfl ?_
      refine e_istore C d_Pl_flow_29 (by decide) rfl ?_
      refine e_aload_n C d_Pl_flow_31 rfl ?_
      refine e_geto (o2 := 8) C fl_Pl_21 (by decide) rfl rfl rfl d_Pl_flow_32 ?_
      refine e_getz C fl_Pl_55 (by decide) rfl rfl d_Pl_flow_35 (fun r_35 => ?_)
      refine e_if_eq C 56 d_Pl_flow_38 (by decide) (by omega) (fun c_38 => ?_) (fun c_38 => ?_)
      · have htd : pl_told (σ 7) (σ 8) (σ o) p h = lval (σ 8) (σ 7 0 p) (σ 7 1 (pl_damp (σ o) p h)) (σ o 0 p) (σ o 1 p) (σ o 12 0) p := by unfold pl_told; rw [if_pos (by omega)]
        rw [hdm] at htd
        refine e_aload_n C d_Pl_flow_56 rfl ?_
        refine e_geto (o2 := 8) C fl_Pl_21 (by decide) rfl rfl rfl d_Pl_flow_57 ?_
        refine e_aload_n C d_Pl_flow_60 rfl ?_
        refine e_geta C fl_Pl_9 (by decide) rfl rfl d_Pl_flow_61 ?_
        refine e_iload_n C d_Pl_flow_64 rfl ?_
        refine e_iald (n := 8) C (by decide) rfl (by decide) rfl rfl (by decide) (by omega) (by omega) d_Pl_flow_65 (fun r_65 => ?_)
        refine e_aload_n C d_Pl_flow_66 rfl ?_
        refine e_geta C fl_Pl_15 (by decide) rfl rfl d_Pl_flow_67 ?_
        refine e_iload C d_Pl_flow_70 rfl ?_
        refine e_iald (n := 25) C (by decide) rfl (by decide) rfl rfl (by decide) (by omega) (by omega) d_Pl_flow_72 (fun r_72 => ?_)
        refine e_iload C d_Pl_flow_73 rfl ?_
        refine e_aload_n C d_Pl_flow_75 rfl ?_
        refine e_geta C fl_Pl_81 h_o c_o rfl d_Pl_flow_76 ?_
        refine e_iload_n C d_Pl_flow_79 rfl ?_
        refine e_iald (n := 8) C h_o c_o (by decide) rfl rfl (by decide) (by omega) (by omega) d_Pl_flow_80 (fun r_80 => ?_)
        refine e_aload_n C d_Pl_flow_81 rfl ?_
        refine e_geti C fl_Pl_84 h_o c_o rfl d_Pl_flow_82 (fun r_82 => ?_)
        refine e_iload_n C d_Pl_flow_85 rfl ?_
        refine e_callIV C ok_La_value lk_Pl_58 (o := 8) (by decide) rfl [_, _, _, _, _, _] rfl rfl (Nat.le_of_ble_eq_true rfl) (by decide) (Nat.le_of_ble_eq_true rfl) d_Pl_flow_86 (k_La_value (by decide) rfl hl (by omega) (by omega) (by omega) (by omega) (by omega) (by omega)) (fun v_86 u_86 q_86 h_86 => ?_)
        obtain ⟨h_86, h_86b⟩ := h_86
        rw [← h_86] at htd
        refine e_istore C d_Pl_flow_89 (by decide) rfl ?_
        refine e_iload C d_Pl_flow_91 rfl ?_
        refine e_if_ge C 98 d_Pl_flow_93 (by decide) (by omega) (fun c_93 => ?_) (fun c_93 => ?_)
        · refine e_iload C d_Pl_flow_98 rfl ?_
          refine e_iload C d_Pl_flow_100 rfl ?_
          refine e_icmp_ge C 110 d_Pl_flow_102 (by decide) (by omega) (by omega) (fun c_102 => ?_) (fun c_102 => ?_)
          · refine e_iload C d_Pl_flow_110 rfl ?_
            refine e_iret C F rfl d_Pl_flow_112 (by omega) ?_
            exact ⟨by unfold pl_flow; rw [if_neg (by omega), if_pos (by omega)]; first | rw [if_pos (by omega)] | (rw [if_neg (by omega)]; exact htd.symm), by first | exact hid | exact h_86b⟩
          · refine e_iload C d_Pl_flow_105 rfl ?_
            refine e_goto C 112 d_Pl_flow_107 (by decide) ?_
            refine e_iret C F rfl d_Pl_flow_112 (by omega) ?_
            exact ⟨by unfold pl_flow; rw [if_neg (by omega), if_pos (by omega)]; first | rw [if_pos (by omega)] | (rw [if_neg (by omega)]; exact htd.symm), by first | exact hid | exact h_86b⟩
        · refine e_iconst C d_Pl_flow_96 ?_
          refine e_iret C F rfl d_Pl_flow_97 (by omega) ?_
          exact ⟨by unfold pl_flow; rw [if_neg (by omega), if_neg (by omega)], by first | exact hid | exact h_86b⟩
      · have htd : pl_told (σ 7) (σ 8) (σ o) p h = σ 7 8 (p * 25 + pl_damp (σ o) p h) := by unfold pl_told; rw [if_neg (by omega)]
        rw [hdm] at htd
        refine e_aload_n C d_Pl_flow_41 rfl ?_
        refine e_geta C fl_Pl_29 (by decide) rfl rfl d_Pl_flow_42 ?_
        refine e_iload_n C d_Pl_flow_45 rfl ?_
        refine e_bipush C d_Pl_flow_46 (by decide) ?_
        refine e_imul C d_Pl_flow_48 ?_
        refine e_iload C d_Pl_flow_49 rfl ?_
        refine e_iadd C d_Pl_flow_51 ?_
        refine e_iald (n := 200) C (by decide) rfl (by decide) rfl rfl (by decide) (by omega) (by omega) d_Pl_flow_52 (fun r_52 => ?_)
        refine e_goto C 89 d_Pl_flow_53 (by decide) ?_
        refine e_istore C d_Pl_flow_89 (by decide) rfl ?_
        refine e_iload C d_Pl_flow_91 rfl ?_
        refine e_if_ge C 98 d_Pl_flow_93 (by decide) (by omega) (fun c_93 => ?_) (fun c_93 => ?_)
        · refine e_iload C d_Pl_flow_98 rfl ?_
          refine e_iload C d_Pl_flow_100 rfl ?_
          refine e_icmp_ge C 110 d_Pl_flow_102 (by decide) (by omega) (by omega) (fun c_102 => ?_) (fun c_102 => ?_)
          · refine e_iload C d_Pl_flow_110 rfl ?_
            refine e_iret C F rfl d_Pl_flow_112 (by omega) ?_
            exact ⟨by unfold pl_flow; rw [if_neg (by omega), if_pos (by omega)]; first | rw [if_pos (by omega)] | (rw [if_neg (by omega)]; exact htd.symm), by first | exact hid | exact h_86b⟩
          · refine e_iload C d_Pl_flow_105 rfl ?_
            refine e_goto C 112 d_Pl_flow_107 (by decide) ?_
            refine e_iret C F rfl d_Pl_flow_112 (by omega) ?_
            exact ⟨by unfold pl_flow; rw [if_neg (by omega), if_pos (by omega)]; first | rw [if_pos (by omega)] | (rw [if_neg (by omega)]; exact htd.symm), by first | exact hid | exact h_86b⟩
        · refine e_iconst C d_Pl_flow_96 ?_
          refine e_iret C F rfl d_Pl_flow_97 (by omega) ?_
          exact ⟨by unfold pl_flow; rw [if_neg (by omega), if_neg (by omega)], by first | exact hid | exact h_86b⟩
    · have hdm : pl_damp (σ o) p h = 0 := by unfold pl_damp; rw [if_pos (by omega)]
      refine e_iconst C d_Pl_flow_24 ?_
      refine e_goto C 29 d_Pl_flow_25 (by decide) ?_
      refine e_istore C d_Pl_flow_29 (by decide) rfl ?_
      refine e_aload_n C d_Pl_flow_31 rfl ?_
      refine e_geto (o2 := 8) C fl_Pl_21 (by decide) rfl rfl rfl d_Pl_flow_32 ?_
      refine e_getz C fl_Pl_55 (by decide) rfl rfl d_Pl_flow_35 (fun r_35 => ?_)
      refine e_if_eq C 56 d_Pl_flow_38 (by decide) (by omega) (fun c_38 => ?_) (fun c_38 => ?_)
      · have htd : pl_told (σ 7) (σ 8) (σ o) p h = lval (σ 8) (σ 7 0 p) (σ 7 1 (pl_damp (σ o) p h)) (σ o 0 p) (σ o 1 p) (σ o 12 0) p := by unfold pl_told; rw [if_pos (by omega)]
        rw [hdm] at htd
        refine e_aload_n C d_Pl_flow_56 rfl ?_
        refine e_geto (o2 := 8) C fl_Pl_21 (by decide) rfl rfl rfl d_Pl_flow_57 ?_
        refine e_aload_n C d_Pl_flow_60 rfl ?_
        refine e_geta C fl_Pl_9 (by decide) rfl rfl d_Pl_flow_61 ?_
        refine e_iload_n C d_Pl_flow_64 rfl ?_
        refine e_iald (n := 8) C (by decide) rfl (by decide) rfl rfl (by decide) (by omega) (by omega) d_Pl_flow_65 (fun r_65 => ?_)
        refine e_aload_n C d_Pl_flow_66 rfl ?_
        refine e_geta C fl_Pl_15 (by decide) rfl rfl d_Pl_flow_67 ?_
        refine e_iload C d_Pl_flow_70 rfl ?_
        refine e_iald (n := 25) C (by decide) rfl (by decide) rfl rfl (by decide) (by omega) (by omega) d_Pl_flow_72 (fun r_72 => ?_)
        refine e_iload C d_Pl_flow_73 rfl ?_
        refine e_aload_n C d_Pl_flow_75 rfl ?_
        refine e_geta C fl_Pl_81 h_o c_o rfl d_Pl_flow_76 ?_
        refine e_iload_n C d_Pl_flow_79 rfl ?_
        refine e_iald (n := 8) C h_o c_o (by decide) rfl rfl (by decide) (by omega) (by omega) d_Pl_flow_80 (fun r_80 => ?_)
        refine e_aload_n C d_Pl_flow_81 rfl ?_
        refine e_geti C fl_Pl_84 h_o c_o rfl d_Pl_flow_82 (fun r_82 => ?_)
        refine e_iload_n C d_Pl_flow_85 rfl ?_
        refine e_callIV C ok_La_value lk_Pl_58 (o := 8) (by decide) rfl [_, _, _, _, _, _] rfl rfl (Nat.le_of_ble_eq_true rfl) (by decide) (Nat.le_of_ble_eq_true rfl) d_Pl_flow_86 (k_La_value (by decide) rfl hl (by omega) (by omega) (by omega) (by omega) (by omega) (by omega)) (fun v_86 u_86 q_86 h_86 => ?_)
        obtain ⟨h_86, h_86b⟩ := h_86
        rw [← h_86] at htd
        refine e_istore C d_Pl_flow_89 (by decide) rfl ?_
        refine e_iload C d_Pl_flow_91 rfl ?_
        refine e_if_ge C 98 d_Pl_flow_93 (by decide) (by omega) (fun c_93 => ?_) (fun c_93 => ?_)
        · refine e_iload C d_Pl_flow_98 rfl ?_
          refine e_iload C d_Pl_flow_100 rfl ?_
          refine e_icmp_ge C 110 d_Pl_flow_102 (by decide) (by omega) (by omega) (fun c_102 => ?_) (fun c_102 => ?_)
          · refine e_iload C d_Pl_flow_110 rfl ?_
            refine e_iret C F rfl d_Pl_flow_112 (by omega) ?_
            exact ⟨by unfold pl_flow; rw [if_neg (by omega), if_pos (by omega)]; first | rw [if_pos (by omega)] | (rw [if_neg (by omega)]; exact htd.symm), by first | exact hid | exact h_86b⟩
          · refine e_iload C d_Pl_flow_105 rfl ?_
            refine e_goto C 112 d_Pl_flow_107 (by decide) ?_
            refine e_iret C F rfl d_Pl_flow_112 (by omega) ?_
            exact ⟨by unfold pl_flow; rw [if_neg (by omega), if_pos (by omega)]; first | rw [if_pos (by omega)] | (rw [if_neg (by omega)]; exact htd.symm), by first | exact hid | exact h_86b⟩
        · refine e_iconst C d_Pl_flow_96 ?_
          refine e_iret C F rfl d_Pl_flow_97 (by omega) ?_
          exact ⟨by unfold pl_flow; rw [if_neg (by omega), if_neg (by omega)], by first | exact hid | exact h_86b⟩
      · have htd : pl_told (σ 7) (σ 8) (σ o) p h = σ 7 8 (p * 25 + pl_damp (σ o) p h) := by unfold pl_told; rw [if_neg (by omega)]
        rw [hdm] at htd
        refine e_aload_n C d_Pl_flow_41 rfl ?_
        refine e_geta C fl_Pl_29 (by decide) rfl rfl d_Pl_flow_42 ?_
        refine e_iload_n C d_Pl_flow_45 rfl ?_
        refine e_bipush C d_Pl_flow_46 (by decide) ?_
        refine e_imul C d_Pl_flow_48 ?_
        refine e_iload C d_Pl_flow_49 rfl ?_
        refine e_iadd C d_Pl_flow_51 ?_
        refine e_iald (n := 200) C (by decide) rfl (by decide) rfl rfl (by decide) (by omega) (by omega) d_Pl_flow_52 (fun r_52 => ?_)
        refine e_goto C 89 d_Pl_flow_53 (by decide) ?_
        refine e_istore C d_Pl_flow_89 (by decide) rfl ?_
        refine e_iload C d_Pl_flow_91 rfl ?_
        refine e_if_ge C 98 d_Pl_flow_93 (by decide) (by omega) (fun c_93 => ?_) (fun c_93 => ?_)
        · refine e_iload C d_Pl_flow_98 rfl ?_
          refine e_iload C d_Pl_flow_100 rfl ?_
          refine e_icmp_ge C 110 d_Pl_flow_102 (by decide) (by omega) (by omega) (fun c_102 => ?_) (fun c_102 => ?_)
          · refine e_iload C d_Pl_flow_110 rfl ?_
            refine e_iret C F rfl d_Pl_flow_112 (by omega) ?_
            exact ⟨by unfold pl_flow; rw [if_neg (by omega), if_pos (by omega)]; first | rw [if_pos (by omega)] | (rw [if_neg (by omega)]; exact htd.symm), by first | exact hid | exact h_86b⟩
          · refine e_iload C d_Pl_flow_105 rfl ?_
            refine e_goto C 112 d_Pl_flow_107 (by decide) ?_
            refine e_iret C F rfl d_Pl_flow_112 (by omega) ?_
            exact ⟨by unfold pl_flow; rw [if_neg (by omega), if_pos (by omega)]; first | rw [if_pos (by omega)] | (rw [if_neg (by omega)]; exact htd.symm), by first | exact hid | exact h_86b⟩
        · refine e_iconst C d_Pl_flow_96 ?_
          refine e_iret C F rfl d_Pl_flow_97 (by omega) ?_
          exact ⟨by unfold pl_flow; rw [if_neg (by omega), if_neg (by omega)], by first | exact hid | exact h_86b⟩
  · refine e_iconst C d_Pl_flow_13 ?_
    refine e_iret C F rfl d_Pl_flow_14 (by omega) ?_
    exact ⟨by unfold pl_flow; rw [if_pos (by omega)], hid⟩
