/-! the reference's flow -/
section FLW
variable {σ : St} {v : Int → Int} {x : Cs}
theorem k_Mo_termOf {pf : List Cd} {c to : Int} (hg : SG x c pf) (h0 : 0 ≤ c) (h1 : to = c + pf.length) (ht : to ≤ 840) (ho : okd pf 0 = some 1) (hc : ∀ d ∈ pf, cok d) (hn : (pf.length : Int) ≤ 400) (hv : ∀ j, 0 ≤ j → j ≤ 5 → x 47 j = v j) : CtI M_Mo_termOf [.inr (.inr (1, 0)), .inl c, .inl to] (so σ 1 x) (fun r u => ∃ x', u = so σ 1 x' ∧ tmQ v pf [] x r x') := by
  intro g C F
  refine e_iconst C d_Mo_termOf_0 ?_
  refine e_istore_n C d_Mo_termOf_1 (by decide) rfl ?_
  refine e_iload_n C d_Mo_termOf_2 rfl ?_
  refine e_istore C d_Mo_termOf_3 (by decide) rfl ?_
  exact l_Mo_termOf C F (by omega) pf c 0 [] x hg h0 h1.symm trivial rfl ho hc (by show ((0 : Nat) : Int) + pf.length ≤ 400; omega) hv (fun r x' q => ⟨x', rfl, q⟩)
def clp (t ab : Int) : Int := if t < 0 then 0 else min t ab
theorem clp_0 {ab : Int} (h : 0 ≤ ab) : clp 0 ab = 0 := by unfold clp; rw [if_neg (by decide)]; omega
theorem phb_a {b : Br} {L : List Br} (hb : b.1 = true) (h : evl v b.2.1 = none) : phb v (b :: L) = 0 := by
  unfold phb
  rw [if_pos hb]
  simp only [h]
theorem phb_b {b : Br} {L : List Br} {c : Int} (hb : b.1 = true) (h1 : evl v b.2.1 = some c) (h2 : evl v b.2.2.1 = none) : phb v (b :: L) = 0 := by
  unfold phb
  rw [if_pos hb]
  simp only [h1, h2]
theorem phb_c {b : Br} {L : List Br} {c d : Int} (hb : b.1 = true) (h1 : evl v b.2.1 = some c) (h2 : evl v b.2.2.1 = some d) : phb v (b :: L) = if c < d then (evl v b.2.2.2).getD 0 else phb v L := by
  rw [phb]
  rw [if_pos hb]
  simp only [h1, h2]
theorem evl_n {pf : List Cd} (h : evs v pf [] = none) : evl v pf = none := by unfold evl; rw [h]; rfl
theorem evl_s {pf : List Cd} {w : List Int} (h : evs v pf [] = some w) : evl v pf = some (hdU w) := by unfold evl; rw [h]; rfl
/-- the same but for scratch -/
def XS7 (x x' : Cs) : Prop := ∀ f, f ≠ 47 → f ≠ 48 → f ≠ 49 → x' f = x f
theorem SG.s7 {x' : Cs} {c : Int} {pf : List Cd} (h : SG x c pf) (e : ∀ f, f ≠ 48 → f ≠ 49 → x' f = x f) : SG x' c pf := h.same (fun k _ _ => ⟨by rw [e 43 (by decide) (by decide)], by rw [e 44 (by decide) (by decide)]⟩)
theorem l_Mo_flowT {g : Mach} {Q : Int → St → Prop} (C : Cx M_Mo_flowOf g) (F : FinI M_Mo_flowOf g Q) {p ab f1 f2 j : Int} {pf : List Cd} (hj : 0 ≤ j ∧ j < 260) (hab : 0 ≤ ab ∧ ab < 2147483648) (hg : SG x (x 40 j) pf) (h0 : 0 ≤ x 40 j) (h1 : x 41 j = x 40 j + pf.length) (ht : x 41 j ≤ 840) (hn : (pf.length : Int) ≤ 400) (ho : okd pf 0 = some 1) (hc : ∀ d ∈ pf, cok d) (hv : ∀ j, 0 ≤ j → j ≤ 5 → x 47 j = v j) (h49 : x 49 0 = 0) (hQ : ∀ x', XS7 x x' → Q (clp ((evl v pf).getD 0) ab) (so σ 1 x')) :
    Ev g 285 [some (.inr (.inr (1, 0))), some (.inl p), some (.inl ab), some (.inl f1), some (.inl f2), some (.inl j), none, none] [] (so σ 1 x) := by
  refine e_aload_n C d_Mo_flowOf_285 rfl ?_
  refine e_aload_n C d_Mo_flowOf_286 rfl ?_
  refine e_geta C fl_Mo_95 (by decide) rfl rfl d_Mo_flowOf_287 ?_
  refine e_iload C d_Mo_flowOf_290 rfl ?_
  refine e_iald (n := 260) C (by decide) rfl (by decide) rfl rfl (by decide) (by omega) (by omega) d_Mo_flowOf_292 (fun r_292 => ?_)
  try simp only [so_at] at r_292 ⊢
  refine e_aload_n C d_Mo_flowOf_293 rfl ?_
  refine e_geta C fl_Mo_98 (by decide) rfl rfl d_Mo_flowOf_294 ?_
  refine e_iload C d_Mo_flowOf_297 rfl ?_
  refine e_iald (n := 260) C (by decide) rfl (by decide) rfl rfl (by decide) (by omega) (by omega) d_Mo_flowOf_299 (fun r_299 => ?_)
  try simp only [so_at] at r_299 ⊢
  refine e_callIV C ok_Mo_termOf lk_Mo_309 (o := 1) (by decide) rfl [_, _] rfl rfl (Nat.le_of_ble_eq_true rfl) (by decide) (Nat.le_of_ble_eq_true rfl) d_Mo_flowOf_300 (k_Mo_termOf (v := v) hg h0 h1 ht ho hc hn hv) (fun v_300 u_300 q_300 h_300 => ?_)
  obtain ⟨x', rfl, t1, t2⟩ := h_300
  have hx : XS7 x x' := fun f _ a b => t1 f a b
  refine e_istore C d_Mo_flowOf_303 (by decide) rfl ?_
  rcases t2 with ⟨q1, q2, q3⟩ | ⟨w, q1, q2, q3⟩
  · rw [evl_n q1] at hQ
    refine e_aload_n C d_Mo_flowOf_305 rfl ?_
    refine e_getz C fl_Mo_298 (by decide) rfl rfl d_Mo_flowOf_306 (fun r_306 => ?_)
    try simp only [so_at, q3] at r_306 ⊢
    refine e_if_ne C 317 d_Mo_flowOf_309 (by decide) (by omega) (fun c_309 => ?_) (fun c_309 => ?_)
    · refine e_iconst C d_Mo_flowOf_317 ?_
      refine e_goto C 333 d_Mo_flowOf_318 (by decide) ?_
      refine e_iret C F rfl d_Mo_flowOf_333 (by omega) ?_
      have this : Q (clp 0 ab) (so σ 1 x') := hQ x' hx
      rw [clp_0 hab.1] at this
      exact this
    · exact absurd c_309 (by decide)
  · rw [evl_s q1] at hQ
    rw [h49] at q3
    have hQ := hQ x' hx
    have hQ : Q (clp (hdU w) ab) (so σ 1 x') := hQ
    rw [← q2] at hQ
    unfold clp at hQ
    refine e_aload_n C d_Mo_flowOf_305 rfl ?_
    refine e_getz C fl_Mo_298 (by decide) rfl rfl d_Mo_flowOf_306 (fun r_306 => ?_)
    try simp only [so_at, q3] at r_306 ⊢
    refine e_if_ne C 317 d_Mo_flowOf_309 (by decide) (by omega) (fun c_309 => ?_) (fun c_309 => ?_)
    · exact absurd rfl c_309
    · refine e_iload C d_Mo_flowOf_312 rfl ?_
      refine e_if_ge C 321 d_Mo_flowOf_314 (by decide) (by omega) (fun c_314 => ?_) (fun c_314 => ?_)
      · rw [if_neg (by omega)] at hQ
        refine e_iload C d_Mo_flowOf_321 rfl ?_
        refine e_iload_n C d_Mo_flowOf_323 rfl ?_
        refine e_icmp_le C 331 d_Mo_flowOf_324 (by decide) (by omega) (by omega) (fun c_324 => ?_) (fun c_324 => ?_)
        · rw [show min v_300 ab = v_300 by omega] at hQ
          refine e_iload C d_Mo_flowOf_331 rfl ?_
          refine e_iret C F rfl d_Mo_flowOf_333 (by omega) ?_
          exact hQ
        · rw [show min v_300 ab = ab by omega] at hQ
          refine e_iload_n C d_Mo_flowOf_327 rfl ?_
          refine e_goto C 333 d_Mo_flowOf_328 (by decide) ?_
          refine e_iret C F rfl d_Mo_flowOf_333 (by omega) ?_
          exact hQ
      · rw [if_pos (by omega)] at hQ
        refine e_iconst C d_Mo_flowOf_317 ?_
        refine e_goto C 333 d_Mo_flowOf_318 (by decide) ?_
        refine e_iret C F rfl d_Mo_flowOf_333 (by omega) ?_
        exact hQ
set_option maxHeartbeats 2000000 in
theorem l_Mo_flowOf {g : Mach} {Q : Int → St → Prop} (C : Cx M_Mo_flowOf g) (F : FinI M_Mo_flowOf g Q) {p ab f1 f2 lo hi : Int} (hlo : 0 ≤ lo) (hhi : hi ≤ lo + 400) (h8 : hi ≤ 840) (hab : 0 ≤ ab ∧ ab < 2147483648) (hf2 : f2 ≤ 260) :
    ∀ (L : List Br) (j : Int) (x : Cs), BRS x lo hi j L → 0 ≤ j → j + L.length = f2 → (∀ b ∈ L, brk b) → (∀ j, 0 ≤ j → j ≤ 5 → x 47 j = v j) → x 49 0 = 0 → (∀ x', XS7 x x' → Q (clp (phb v L) ab) (so σ 1 x')) → Ev g 209 [some (.inr (.inr (1, 0))), some (.inl p), some (.inl ab), some (.inl f1), some (.inl f2), some (.inl j), none, none] [] (so σ 1 x) := by
  intro L
  induction L with
  | nil =>
    intro j x hB h0 h1 hb hv h49 hQ
    have h1 : j + ((0 : Nat) : Int) = f2 := h1
    have hq : clp (phb v []) ab = 0 := by show (if (0 : Int) < 0 then 0 else min 0 ab) = 0; rw [if_neg (by decide)]; omega
    rw [hq] at hQ
    refine e_iload C d_Mo_flowOf_209 rfl ?_
    refine e_iload C d_Mo_flowOf_211 rfl ?_
    refine e_icmp_ge C 340 d_Mo_flowOf_213 (by decide) (by omega) (by omega) (fun c_213 => ?_) (fun c_213 => ?_)
    · refine e_iconst C d_Mo_flowOf_340 ?_
      refine e_iret C F rfl d_Mo_flowOf_341 (by omega) ?_
      exact hQ x (fun _ _ _ _ => rfl)
    · exact absurd c_213 (by omega)
  | cons b L ih =>
    intro j x hB h0 h1 hb hv h49 hQ
    have h1 : j + ((L.length + 1 : Nat) : Int) = f2 := h1
    obtain ⟨b1, b2, b3, b4, b5, b6, b7⟩ := hB
    obtain ⟨k1, k2, k3⟩ := hb b List.mem_cons_self
    by_cases hbt : b.1 = true
    · rw [if_pos hbt] at b1
      obtain ⟨c1, c2, c3, c4, c5⟩ := b2 hbt
      obtain ⟨o1, o2, o3, o4⟩ := k1 hbt
      have c0 : clp 0 ab = 0 := clp_0 hab.1
      refine e_iload C d_Mo_flowOf_209 rfl ?_
      refine e_iload C d_Mo_flowOf_211 rfl ?_
      refine e_icmp_ge C 340 d_Mo_flowOf_213 (by decide) (by omega) (by omega) (fun c_213 => ?_) (fun c_213 => ?_)
      · exact absurd c_213 (by omega)
      · refine e_aload_n C d_Mo_flowOf_216 rfl ?_
        refine e_geta C fl_Mo_85 (by decide) rfl rfl d_Mo_flowOf_217 ?_
        refine e_iload C d_Mo_flowOf_220 rfl ?_
        refine e_zald (n := 260) C (by decide) rfl (by decide) rfl rfl (by decide) (by omega) (by omega) d_Mo_flowOf_222 (fun r_222 => ?_)
        try simp only [so_at, b1] at r_222 ⊢
        refine e_if_eq C 285 d_Mo_flowOf_223 (by decide) (by omega) (fun c_223 => ?_) (fun c_223 => ?_)
        · exact absurd c_223 (by decide)
        · refine e_aload_n C d_Mo_flowOf_226 rfl ?_
          refine e_aload_n C d_Mo_flowOf_227 rfl ?_
          refine e_geta C fl_Mo_89 (by decide) rfl rfl d_Mo_flowOf_228 ?_
          refine e_iload C d_Mo_flowOf_231 rfl ?_
          refine e_iald (n := 260) C (by decide) rfl (by decide) rfl rfl (by decide) (by omega) (by omega) d_Mo_flowOf_233 (fun r_233 => ?_)
          try simp only [so_at, b1] at r_233 ⊢
          refine e_aload_n C d_Mo_flowOf_234 rfl ?_
          refine e_geta C fl_Mo_92 (by decide) rfl rfl d_Mo_flowOf_235 ?_
          refine e_iload C d_Mo_flowOf_238 rfl ?_
          refine e_iald (n := 260) C (by decide) rfl (by decide) rfl rfl (by decide) (by omega) (by omega) d_Mo_flowOf_240 (fun r_240 => ?_)
          try simp only [so_at, b1] at r_240 ⊢
          refine e_callIV C ok_Mo_termOf lk_Mo_309 (o := 1) (by decide) rfl [_, _] rfl rfl (Nat.le_of_ble_eq_true rfl) (by decide) (Nat.le_of_ble_eq_true rfl) d_Mo_flowOf_241 (k_Mo_termOf (v := v) c2 (by omega) c3 (by omega) o1 o3 (by omega) hv) (fun v_241 u_241 q_241 h_241 => ?_)
          obtain ⟨x1, rfl, t1, t2⟩ := h_241
          have d39 : x1 39 j = x 39 j := by rw [t1 39 (by decide) (by decide)]
          have d40 : x1 40 j = x 40 j := by rw [t1 40 (by decide) (by decide)]
          refine e_istore C d_Mo_flowOf_244 (by decide) rfl ?_
          refine e_aload_n C d_Mo_flowOf_246 rfl ?_
          refine e_aload_n C d_Mo_flowOf_247 rfl ?_
          refine e_geta C fl_Mo_92 (by decide) rfl rfl d_Mo_flowOf_248 ?_
          refine e_iload C d_Mo_flowOf_251 rfl ?_
          refine e_iald (n := 260) C (by decide) rfl (by decide) rfl rfl (by decide) (by omega) (by omega) d_Mo_flowOf_253 (fun r_253 => ?_)
          try simp only [so_at, b1] at r_253 ⊢
          refine e_aload_n C d_Mo_flowOf_254 rfl ?_
          refine e_geta C fl_Mo_95 (by decide) rfl rfl d_Mo_flowOf_255 ?_
          refine e_iload C d_Mo_flowOf_258 rfl ?_
          refine e_iald (n := 260) C (by decide) rfl (by decide) rfl rfl (by decide) (by omega) (by omega) d_Mo_flowOf_260 (fun r_260 => ?_)
          try simp only [so_at, b1] at r_260 ⊢
          refine e_callIV C ok_Mo_termOf lk_Mo_309 (o := 1) (by decide) rfl [_, _] rfl rfl (Nat.le_of_ble_eq_true rfl) (by decide) (Nat.le_of_ble_eq_true rfl) d_Mo_flowOf_261 (k_Mo_termOf (x := x1) (v := v) (pf := b.2.2.1) (by rw [d39]; exact c4.s7 t1) (by rw [d39]; omega) (by rw [d39, d40]; exact c5) (by rw [d40]; omega) o2 o4 (by omega) (fun i a d => by rw [t1 47 (by decide) (by decide)]; exact hv i a d)) (fun v_261 u_261 q_261 h_261 => ?_)
          obtain ⟨x2, rfl, u1, u2⟩ := h_261
          have e2 : ∀ f, f ≠ 48 → f ≠ 49 → x2 f = x f := fun f a d => by rw [u1 f a d, t1 f a d]
          have hx2 : XS7 x x2 := fun f _ a d => e2 f a d
          refine e_istore C d_Mo_flowOf_264 (by decide) rfl ?_
          rcases t2 with ⟨q1, q2, q3⟩ | ⟨w, q1, q2, q3⟩
          · have z49 : x2 49 0 = 1 := by rcases u2 with ⟨_, _, z⟩ | ⟨_, _, _, z⟩ <;> omega
            rw [phb_a hbt (evl_n q1)] at hQ
            have hQ : Q (clp 0 ab) (so σ 1 x2) := hQ x2 hx2
            rw [c0] at hQ
            refine e_aload_n C d_Mo_flowOf_266 rfl ?_
            refine e_getz C fl_Mo_298 (by decide) rfl rfl d_Mo_flowOf_267 (fun r_267 => ?_)
            try simp only [so_at, z49] at r_267 ⊢
            refine e_if_eq C 275 d_Mo_flowOf_270 (by decide) (by omega) (fun c_270 => ?_) (fun c_270 => ?_)
            · exact absurd c_270 (by decide)
            · refine e_iconst C d_Mo_flowOf_273 ?_
              refine e_iret C F rfl d_Mo_flowOf_274 (by omega) ?_
              exact hQ
          · rw [h49] at q3
            rcases u2 with ⟨p1, p2, p3⟩ | ⟨w2, p1, p2, p3⟩
            · rw [phb_b hbt (evl_s q1) (evl_n p1)] at hQ
              have hQ : Q (clp 0 ab) (so σ 1 x2) := hQ x2 hx2
              rw [c0] at hQ
              refine e_aload_n C d_Mo_flowOf_266 rfl ?_
              refine e_getz C fl_Mo_298 (by decide) rfl rfl d_Mo_flowOf_267 (fun r_267 => ?_)
              try simp only [so_at, p3] at r_267 ⊢
              refine e_if_eq C 275 d_Mo_flowOf_270 (by decide) (by omega) (fun c_270 => ?_) (fun c_270 => ?_)
              · exact absurd c_270 (by decide)
              · refine e_iconst C d_Mo_flowOf_273 ?_
                refine e_iret C F rfl d_Mo_flowOf_274 (by omega) ?_
                exact hQ
            · rw [q3] at p3
              have hQ : ∀ x', XS7 x x' → Q (clp (if hdU w < hdU w2 then (evl v b.2.2.2).getD 0 else phb v L) ab) (so σ 1 x') := fun x' hx' => by
                have := hQ x' hx'
                rw [phb_c hbt (evl_s q1) (evl_s p1)] at this
                exact this
              rw [← q2, ← p2] at hQ
              have d40 : x2 40 j = x 40 j := by rw [e2 40 (by decide) (by decide)]
              have d41 : x2 41 j = x 41 j := by rw [e2 41 (by decide) (by decide)]
              have hv2 : ∀ i, 0 ≤ i → i ≤ 5 → x2 47 i = v i := fun i a d => by rw [e2 47 (by decide) (by decide)]; exact hv i a d
              have tr : ∀ x', XS7 x2 x' → XS7 x x' := fun x' h f a c d => (h f a c d).trans (hx2 f a c d)
              refine e_aload_n C d_Mo_flowOf_266 rfl ?_
              refine e_getz C fl_Mo_298 (by decide) rfl rfl d_Mo_flowOf_267 (fun r_267 => ?_)
              try simp only [so_at, p3] at r_267 ⊢
              refine e_if_eq C 275 d_Mo_flowOf_270 (by decide) (by omega) (fun c_270 => ?_) (fun c_270 => ?_)
              · refine e_iload C d_Mo_flowOf_275 rfl ?_
                refine e_iload C d_Mo_flowOf_277 rfl ?_
                refine e_icmp_lt C 285 d_Mo_flowOf_279 (by decide) (by omega) (by omega) (fun c_279 => ?_) (fun c_279 => ?_)
                · rw [if_pos c_279] at hQ
                  refine e_drop 6 (e_drop 7 ?_)
                  exact l_Mo_flowT (v := v) (x := x2) (pf := b.2.2.2) C F (by omega) hab (by rw [d40]; exact b4.s7 e2) (by rw [d40]; omega) (by rw [d40, d41]; exact b5) (by rw [d41]; omega) (by omega) k2 k3 hv2 p3 (fun x' h => hQ x' (tr x' h))
                · refine e_goto C 334 d_Mo_flowOf_282 (by decide) ?_
                  refine e_iinc C d_Mo_flowOf_334 rfl (by decide) rfl ?_
                  refine e_goto C 209 d_Mo_flowOf_337 (by decide) ?_
                  rw [if_neg c_279] at hQ
                  refine e_drop 6 (e_drop 7 ?_)
                  exact ih (j + 1) x2 (BRS.same (Int.le_refl _) (fun k _ _ => ⟨by rw [e2 43 (by decide) (by decide)], by rw [e2 44 (by decide) (by decide)]⟩) L (j + 1) b7 (fun g k a c _ _ => by rw [e2 g (by omega) (by omega)])) (by omega) (by omega) (fun d hd => hb d (List.mem_cons_of_mem _ hd)) hv2 p3 (fun x' h => hQ x' (tr x' h))
              · exact absurd rfl c_270
    · rw [if_neg hbt] at b1
      have hph : phb v (b :: L) = (evl v b.2.2.2).getD 0 := by show (if b.1 = true then _ else _) = _; rw [if_neg hbt]
      rw [hph] at hQ
      refine e_iload C d_Mo_flowOf_209 rfl ?_
      refine e_iload C d_Mo_flowOf_211 rfl ?_
      refine e_icmp_ge C 340 d_Mo_flowOf_213 (by decide) (by omega) (by omega) (fun c_213 => ?_) (fun c_213 => ?_)
      · exact absurd c_213 (by omega)
      · refine e_aload_n C d_Mo_flowOf_216 rfl ?_
        refine e_geta C fl_Mo_85 (by decide) rfl rfl d_Mo_flowOf_217 ?_
        refine e_iload C d_Mo_flowOf_220 rfl ?_
        refine e_zald (n := 260) C (by decide) rfl (by decide) rfl rfl (by decide) (by omega) (by omega) d_Mo_flowOf_222 (fun r_222 => ?_)
        try simp only [so_at, b1] at r_222 ⊢
        refine e_if_eq C 285 d_Mo_flowOf_223 (by decide) (by omega) (fun c_223 => ?_) (fun c_223 => ?_)
        · exact l_Mo_flowT (v := v) (pf := b.2.2.2) C F (by omega) hab b4 (by omega) b5 (by omega) (by omega) k2 k3 hv h49 hQ
        · exact absurd rfl c_223
end FLW
