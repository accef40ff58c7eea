/-! the reference's read -/
section MR2
variable {T : Tab} {σ : St} {S : SS} {n s : Int}
theorem l_Mo_read4 {g : Mach} (C : Cx M_Mo_read g) {x : Cs} (K : Ev g 282 [some (.inr (.inr (1, 0))), none] [] (so σ 1 (lnm x 50 (r_cp (x 50) (x 51) 100)))) :
    ∀ (n : Nat) (i : Int), 0 ≤ i → i + n = 100 → Ev g 258 [some (.inr (.inr (1, 0))), some (.inl i)] [] (so σ 1 (lnm x 50 (r_cp (x 50) (x 51) i))) := by
  intro n
  induction n with
  | zero =>
    intro i h0 h1
    refine e_iload_n C d_Mo_read_258 rfl ?_
    refine e_bipush C d_Mo_read_259 (by decide) ?_
    refine e_icmp_ge C 282 d_Mo_read_261 (by decide) (by omega) (by omega) (fun c_261 => ?_) (fun c_261 => ?_)
    · rw [show i = 100 by omega]
      exact e_drop 1 K
    · exact absurd h1 (by omega)
  | succ n ih =>
    intro i h0 h1
    refine e_iload_n C d_Mo_read_258 rfl ?_
    refine e_bipush C d_Mo_read_259 (by decide) ?_
    refine e_icmp_ge C 282 d_Mo_read_261 (by decide) (by omega) (by omega) (fun c_261 => ?_) (fun c_261 => ?_)
    · exact absurd h1 (by omega)
    · refine e_aload_n C d_Mo_read_264 rfl ?_
      refine e_geta C fl_Mo_116 (by decide) rfl rfl d_Mo_read_265 ?_
      refine e_iload_n C d_Mo_read_268 rfl ?_
      refine e_aload_n C d_Mo_read_269 rfl ?_
      refine e_geta C fl_Mo_119 (by decide) rfl rfl d_Mo_read_270 ?_
      refine e_iload_n C d_Mo_read_273 rfl ?_
      refine e_iald (n := 100) C (by decide) rfl (by decide) rfl rfl (by decide) (by omega) (by omega) d_Mo_read_274 (fun r_274 => ?_)
      try simp only [so_at, so_so, wr_so, lnm_s, lnm_cu, lnm_f, ne_eq, Nat.reduceEqDiff, not_false_eq_true] at r_274 ⊢
      refine e_iast (n := 100) C (by decide) rfl (by decide) rfl rfl (by decide) (by omega) (by omega) (by omega) d_Mo_read_275 ?_
      try simp only [so_at, so_so, wr_so, lnm_s, lnm_cu, lnm_f, ne_eq, Nat.reduceEqDiff, not_false_eq_true]
      refine e_iinc C d_Mo_read_276 rfl (by decide) rfl ?_
      refine e_goto C 258 d_Mo_read_279 (by decide) ?_
      rw [r_cp_S h0]; exact ih (i + 1) (by omega) (by omega)
theorem l_Mo_read5 {g : Mach} {Q : Int → St → Prop} (C : Cx M_Mo_read g) (F : FinI M_Mo_read g Q) {x : Cs} (K : ∀ m' : Cs, (∀ f, f ≠ 59 → m' f = x f) → (∀ s, 0 ≤ s → s < 3 → m' 59 s = 0) → Q 0 (so σ 1 m')) :
    ∀ (n : Nat) (i : Int) (m' : Cs), 0 ≤ i → i + n = 3 → (∀ f, f ≠ 59 → m' f = x f) → (∀ s, 0 ≤ s → s < i → m' 59 s = 0) → Ev g 294 [some (.inr (.inr (1, 0))), some (.inl i)] [] (so σ 1 m') := by
  intro n
  induction n with
  | zero =>
    intro i m' h0 h1 hf hs
    refine e_iload_n C d_Mo_read_294 rfl ?_
    refine e_iconst C d_Mo_read_295 ?_
    refine e_icmp_ge C 312 d_Mo_read_296 (by decide) (by omega) (by omega) (fun c_296 => ?_) (fun c_296 => ?_)
    · refine e_iconst C d_Mo_read_312 ?_
      refine e_iret C F rfl d_Mo_read_313 (by omega) ?_
      exact K m' hf (fun s a b => hs s a (by omega))
    · exact absurd h1 (by omega)
  | succ n ih =>
    intro i m' h0 h1 hf hs
    refine e_iload_n C d_Mo_read_294 rfl ?_
    refine e_iconst C d_Mo_read_295 ?_
    refine e_icmp_ge C 312 d_Mo_read_296 (by decide) (by omega) (by omega) (fun c_296 => ?_) (fun c_296 => ?_)
    · exact absurd h1 (by omega)
    · refine e_aload_n C d_Mo_read_299 rfl ?_
      refine e_geta C fl_Mo_137 (by decide) rfl rfl d_Mo_read_300 ?_
      refine e_iload_n C d_Mo_read_303 rfl ?_
      refine e_iconst C d_Mo_read_304 ?_
      refine e_zast (n := 3) C (by decide) rfl (by decide) rfl rfl (by decide) (by omega) (by omega) (by omega) d_Mo_read_305 ?_
      try simp only [so_at, so_so, wr_so]
      refine e_iinc C d_Mo_read_306 rfl (by decide) rfl ?_
      refine e_goto C 294 d_Mo_read_309 (by decide) ?_
      refine ih (i + 1) _ (by omega) (by omega) (fun f a => by rw [cf_f a]; exact hf f a) (fun s a b => ?_)
      rw [cu_if]
      split
      · rfl
      · rename_i w; exact hs s a (by omega)
def mrQ (σ : St) (S : SS) (P' : Cs) (res : (Int × Int) ⊕ Zs) (r : Int) (u : St) : Prop := r = rvRead res ∧ ∃ m' : Cs, u = so σ 1 m' ∧ IVm (nxRead S res P') m'
def R0 (m m3 : Cs) : Prop := MW m m3 ∧ m3 9 = m 9 ∧ (∀ f, 47 ≤ f → m3 f = m f) ∧ m3 2 0 = 0
theorem R0.fl {m m3 m' : Cs} {v : Int} (h0 : R0 m m3) (hm : IVm S m) (hp : PI S n) (hq : PF (1 - m 18 0) m3 m') (hl : 0 ≤ m 18 0 ∧ m 18 0 ≤ 1) : IVm (flS S v) (cu m' 17 0 v) := by
  obtain ⟨a1, a2, a3, a4⟩ := h0
  have hw : MW m3 m' := hq.mw (by rw [a1.1]) (by rw [a1.1]; exact hl)
  refine hm.fl hp ((a1.tr hw).tr ⟨cu_f (by decide), fun f k a b => ?_⟩) (by rw [cf_f (by decide), hq.1 9 (by omega), a2]) (fun f hf => by rw [cf_f (by omega), hq.1 f (by omega), a3 f hf]) (by rw [cu_f (by decide), hq.1 2 (by omega)]; exact a4) (cu_s _ _ _ _)
  by_cases e : f = 17
  · subst e
    rw [show szS 17 = 0 from rfl] at a b
    omega
  · exact cu_f e
/-- what begins on the other side -/
theorem IVm.new {z : Zs} {m m3 m' P' : Cs} (hA : ZA T z) (hP : PTo z P') (hK : KY m') (hR : MRp s (zp z) (zc z) m') (h15 : zx z 15 0 = 0) : MPl P' (cu (cu m' 17 0 (-1)) 18 0 s) ∧ cu (cu m' 17 0 (-1)) 18 0 s 31 s = P' 5 0 ∧ BG P' (cu (cu m' 17 0 (-1)) 18 0 s) (yN P' (zc z)) := by
  obtain ⟨r1, r2, ⟨r3, r4, r5, r6⟩, r7, r8, r9, _⟩ := hR
  have e : ∀ f, f ≠ 17 → f ≠ 18 → cu (cu m' 17 0 (-1)) 18 0 s f = m' f := fun f a b => by rw [cf_f b, cf_f a]
  have e18 : cu (cu m' 17 0 (-1)) 18 0 s 18 0 = s := cu_s _ _ _ _
  have p3 := hP.1 3 (by omega)
  have p4 := hP.1 4 (by omega)
  have p5 := hP.1 5 (by omega)
  have p6 := hP.1 6 (by omega)
  refine ⟨⟨by rw [e18]; exact r1, ?_, ?_, ?_⟩, ?_, zc z 0, zc z 1, fun p => em (zc z 2 p), fun g => em (zc z 6 g), fun p a b => ?_, fun g a b => ?_, rfl, fun k a b => by rw [e 9 (by decide) (by decide)]; exact hK k a b⟩
  · rw [e18, e 24 (by decide) (by decide), p3]; exact r3
  · rw [e18, e 29 (by decide) (by decide), p4]; exact r4
  · rw [e18, e 33 (by decide) (by decide), p6]; exact r6
  · rw [e 31 (by decide) (by decide), p5]; exact r5
  · rw [p3] at b
    obtain ⟨q1, q2, _, q4, q5⟩ := r7 p a b
    rw [e18, e 25 (by decide) (by decide), e 26 (by decide) (by decide), e 28 (by decide) (by decide)]
    exact ⟨q1, q2, q4, by show -1 ≤ em (zc z 2 p); unfold em; split <;> omega⟩
  · rw [p4] at b
    rw [e18, e 30 (by decide) (by decide)]
    exact r8 g a b
set_option maxHeartbeats 2000000 in
theorem l_Mo_read3 {g : Mach} {res : (Int × Int) ⊕ Zs} {m m3 m' P' : Cs} (C : Cx M_Mo_read g) (F : FinI M_Mo_read g (mrQ σ S P' res)) (hF : FlN) (hp : PI S n) (hm : IVm S m) (h0 : R0 m m3) (hA : ∀ z, res = .inr z → ZA T z ∧ ZK z) (hP : ∀ z, res = .inr z → zx z 15 0 = 0 → PTo z P') (hQ : mQ T (1 - m 18 0) m3 res m') : Ev g 187 [some (.inr (.inr (1, 0))), none] [] (so σ 1 m') := by
  have hl := hm.1.1.1
  cases res with
  | inl fp =>
    obtain ⟨q1, q2, q3, q4, q5⟩ := hQ
    refine e_aload_n C d_Mo_read_187 rfl ?_
    refine e_aload_n C d_Mo_read_188 rfl ?_
    refine e_geti C fl_Mo_185 (by decide) rfl rfl d_Mo_read_189 (fun r_189 => ?_)
    try simp only [so_at, so_so, wr_so, q2, q3, cu_f, ne_eq, Nat.reduceEqDiff, not_false_eq_true] at r_189 ⊢
    refine e_if_le C 202 d_Mo_read_192 (by decide) (by omega) (fun c_192 => ?_) (fun c_192 => ?_)
    · exact absurd c_192 (by omega)
    · refine e_aload_n C d_Mo_read_195 rfl ?_
      refine e_geti C fl_Mo_191 (by decide) rfl rfl d_Mo_read_196 (fun r_196 => ?_)
      try simp only [so_at, so_so, wr_so, q2, q3, cu_f, ne_eq, Nat.reduceEqDiff, not_false_eq_true] at r_196 ⊢
      refine e_goto C 217 d_Mo_read_199 (by decide) ?_
      refine e_puti C fp_Mo_37 (by decide) rfl rfl (by omega) d_Mo_read_217 ?_
      try simp only [so_at, so_so, wr_so, q2, q3, cu_f, ne_eq, Nat.reduceEqDiff, not_false_eq_true]
      refine e_aload_n C d_Mo_read_220 rfl ?_
      refine e_geti C fl_Mo_185 (by decide) rfl rfl d_Mo_read_221 (fun r_221 => ?_)
      try simp only [so_at, so_so, wr_so, q2, q3, cu_f, ne_eq, Nat.reduceEqDiff, not_false_eq_true] at r_221 ⊢
      refine e_if_le C 232 d_Mo_read_224 (by decide) (by omega) (fun c_224 => ?_) (fun c_224 => ?_)
      · exact absurd c_224 (by omega)
      · refine e_aload_n C d_Mo_read_227 rfl ?_
        refine e_geti C fl_Mo_185 (by decide) rfl rfl d_Mo_read_228 (fun r_228 => ?_)
        try simp only [so_at, so_so, wr_so, q2, q3, cu_f, ne_eq, Nat.reduceEqDiff, not_false_eq_true] at r_228 ⊢
        refine e_iret C F rfl d_Mo_read_231 (by omega) ?_
        exact ⟨rfl, _, rfl, h0.fl hm hp q1 hl⟩
  | inr z =>
    obtain ⟨q1, q2, hp1, hn1, hN1, hw1, hL1, h12⟩ := hQ
    obtain ⟨hAz, hKz⟩ := hA z rfl
    have e15 : m' 15 0 = zx z 15 0 := hw1.1
    have hz15 : 0 ≤ zx z 15 0 := hAz.2.1.2.1.1
    by_cases w : zx z 15 0 = 0
    · have hPz := hP z rfl w
      rw [w] at e15
      have e19 := hp1.2.1
      have hK : KY m' := fun k a b => by rw [q1.1 9 (by omega), h0.2.1]; obtain ⟨_, _, _, _, _, _, _, d⟩ := hm.1.2.2.2; exact d k a b
      obtain ⟨i1, i2, i3⟩ := IVm.new (m := m) (m3 := m3) hAz hPz hK hp1 w
      obtain ⟨v1, v2, v3, v4, v5⟩ := ZB.new hAz w hPz
      have hfl : FlowC (phi (zb z)) P' (cu (cu m' 17 0 (-1)) 18 0 (1 - m 18 0)) := by
        refine (hF T z P' m' (1 - m 18 0) hAz hKz hPz hp1 hL1).w ⟨by rw [cu_s, cu_s], fun f k a b => ?_⟩
        by_cases e : f = 18
        · rw [e]; rfl
        · by_cases e2 : f = 17
          · subst e2; rw [show szS 17 = 0 from rfl] at a b; omega
          · rw [cu_f e, cu_f e, cu_f e2]
      have e47 : ∀ f, 47 ≤ f → cu (cu m' 17 0 (-1)) 18 0 (1 - m 18 0) f = m f := fun f hf => by rw [cf_f (by omega), cf_f (by omega), q1.1 f (by omega), h0.2.2.1 f hf]
      have ev2 : cu (cu m' 17 0 (-1)) 18 0 (1 - m 18 0) 2 0 = 0 := by rw [cu_f (by decide), cu_f (by decide), q1.1 2 (by omega)]; exact h0.2.2.2
      have e17 : cu (cu m' 17 0 (-1)) 18 0 (1 - m 18 0) 17 0 = -1 := by rw [cu_f (by decide), cu_s]
      have e18 : cu (cu m' 17 0 (-1)) 18 0 (1 - m 18 0) 18 0 = 1 - m 18 0 := cu_s _ _ _ _
      have eN : nxRead S (.inr z) P' = okS S z P' := if_pos w
      refine e_aload_n C d_Mo_read_187 rfl ?_
      refine e_aload_n C d_Mo_read_188 rfl ?_
      refine e_geti C fl_Mo_185 (by decide) rfl rfl d_Mo_read_189 (fun r_189 => ?_)
      try simp only [so_at, so_so, wr_so, q2, e15, e19, cu_f, ne_eq, Nat.reduceEqDiff, not_false_eq_true] at r_189 ⊢
      refine e_if_le C 202 d_Mo_read_192 (by decide) (by omega) (fun c_192 => ?_) (fun c_192 => ?_)
      · refine e_aload_n C d_Mo_read_202 rfl ?_
        refine e_geti C fl_Mo_194 (by decide) rfl rfl d_Mo_read_203 (fun r_203 => ?_)
        try simp only [so_at, so_so, wr_so, q2, e15, e19, cu_f, ne_eq, Nat.reduceEqDiff, not_false_eq_true] at r_203 ⊢
        refine e_if_le C 216 d_Mo_read_206 (by decide) (by omega) (fun c_206 => ?_) (fun c_206 => ?_)
        · refine e_iconst C d_Mo_read_216 ?_
          refine e_puti C fp_Mo_37 (by decide) rfl rfl (by omega) d_Mo_read_217 ?_
          try simp only [so_at, so_so, wr_so, q2, e15, e19, cu_f, ne_eq, Nat.reduceEqDiff, not_false_eq_true]
          refine e_aload_n C d_Mo_read_220 rfl ?_
          refine e_geti C fl_Mo_185 (by decide) rfl rfl d_Mo_read_221 (fun r_221 => ?_)
          try simp only [so_at, so_so, wr_so, q2, e15, e19, cu_f, ne_eq, Nat.reduceEqDiff, not_false_eq_true] at r_221 ⊢
          refine e_if_le C 232 d_Mo_read_224 (by decide) (by omega) (fun c_224 => ?_) (fun c_224 => ?_)
          · refine e_aload_n C d_Mo_read_232 rfl ?_
            refine e_geti C fl_Mo_194 (by decide) rfl rfl d_Mo_read_233 (fun r_233 => ?_)
            try simp only [so_at, so_so, wr_so, q2, e15, e19, cu_f, ne_eq, Nat.reduceEqDiff, not_false_eq_true] at r_233 ⊢
            refine e_if_le C 244 d_Mo_read_236 (by decide) (by omega) (fun c_236 => ?_) (fun c_236 => ?_)
            · refine e_aload_n C d_Mo_read_244 rfl ?_
              refine e_aload_n C d_Mo_read_245 rfl ?_
              refine e_geti C fl_Mo_218 (by decide) rfl rfl d_Mo_read_246 (fun r_246 => ?_)
              try simp only [so_at, so_so, wr_so, q2, e15, e19, cu_f, ne_eq, Nat.reduceEqDiff, not_false_eq_true] at r_246 ⊢
              refine e_puti C fp_Mo_215 (by decide) rfl rfl (by omega) d_Mo_read_249 ?_
              try simp only [so_at, so_so, wr_so, q2, e15, e19, cu_f, ne_eq, Nat.reduceEqDiff, not_false_eq_true]
              generalize hm5 : cu (cu m' 17 0 (-1)) 18 0 (1 - m 18 0) = m5 at i1 i2 i3 hfl e47 ev2 e17 e18 ⊢
              rw [soMF]
              refine e_aload_n C d_Mo_read_252 rfl ?_
              refine e_callVV C ok_Mo_begins lk_Mo_233 (o := 1) (by decide) rfl [] rfl rfl (Nat.le_of_ble_eq_true rfl) (by decide) (Nat.le_of_ble_eq_true rfl) d_Mo_read_253 (k_Mo_begins i1 v1 v2 i3) (fun u_253 h_253 => ?_)
              obtain ⟨R', hR', rfl⟩ := h_253
              refine e_iconst C d_Mo_read_256 ?_
              refine e_istore_n C d_Mo_read_257 (by decide) rfl ?_
              have := l_Mo_read4 (σ := σ) (x := lnm m5 51 R') C ?_ 100 0 (by omega) (by omega)
              · rw [r_cp_0, lnm_id] at this
                exact this
              rw [lnm_s]
              have hx : ∀ f, f ≠ 50 → f ≠ 51 → lnm (lnm m5 51 R') 50 (r_cp (lnm m5 51 R' 50) R' 100) f = m5 f := fun f a b => by rw [lnm_f a, lnm_f b]
              have h50 : lnm (lnm m5 51 R') 50 (r_cp (lnm m5 51 R' 50) R' 100) 50 = r_cp (lnm m5 51 R' 50) R' 100 := lnm_s _ _ _
              generalize lnm (lnm m5 51 R') 50 (r_cp (lnm m5 51 R' 50) R' 100) = m6 at hx h50 ⊢
              refine e_aload_n C d_Mo_read_282 rfl ?_
              refine e_iconst C d_Mo_read_283 ?_
              refine e_puti C fp_Mo_236 (by decide) rfl rfl (by omega) d_Mo_read_284 ?_
              refine e_aload_n C d_Mo_read_287 rfl ?_
              refine e_iconst C d_Mo_read_288 ?_
              refine e_puti C fp_Mo_239 (by decide) rfl rfl (by omega) d_Mo_read_289 ?_
              refine e_iconst C d_Mo_read_292 ?_
              refine e_istore_n C d_Mo_read_293 (by decide) rfl ?_
              simp only [so_at, so_so, wr_so]
              refine l_Mo_read5 C F (x := cu (cu m6 52 0 0) 55 0 0) (fun m7 a7 b7 => ⟨w.symm, m7, rfl, ?_⟩) 3 0 _ (by omega) (by omega) (fun f _ => rfl) (fun s a b => by omega)
              rw [eN]
              have e7 : ∀ f, f ≠ 50 → f ≠ 51 → f ≠ 52 → f ≠ 55 → f ≠ 59 → m7 f = m5 f := fun f a b c d e => by rw [a7 f e, cf_f d, cf_f c, hx f a b]
              have mp : MP m5 m7 := fun f a b => e7 f (by omega) (by omega) (by omega) (by omega) (by omega)
              refine ⟨⟨i1.same mp, hfl.same mp, ?_, i3.same mp⟩, ?_, ⟨?_, fun j a b => ?_⟩, fun q a b => ⟨b7 q a b, fun x => absurd rfl x⟩, ⟨?_, fun i a b => ?_⟩, ⟨?_, fun i a b => ?_⟩, ?_⟩
              · rw [mp 31 (by decide) (by decide), mp 18 (by decide) (by decide), e18]; exact i2
              · show RY (m7 50) (yN P' (zc z))
                rw [a7 50 (by decide), cf_f (by decide), cf_f (by decide), h50]
                exact RY_cp hR'
              · rw [a7 52 (by decide), cu_f (by decide), cu_s]; rfl
              · have b : j < 0 := b
                omega
              · rw [a7 55 (by decide), cu_s]; rfl
              · have b : i < 0 := b
                omega
              · rw [e7 2 (by decide) (by decide) (by decide) (by decide) (by decide)]; exact ev2
              · have b : i < 0 := b
                omega
              · rw [e7 17 (by decide) (by decide) (by decide) (by decide) (by decide)]; exact e17
            · exact absurd c_236 (by omega)
          · exact absurd c_224 (by omega)
        · exact absurd c_206 (by omega)
      · exact absurd c_192 (by omega)
    · have e16 : m' 16 0 = zx z 16 0 := hw1.2.1 w
      have eN : nxRead S (.inr z) P' = flS S (zx z 16 0) := if_neg w
      refine e_aload_n C d_Mo_read_187 rfl ?_
      refine e_aload_n C d_Mo_read_188 rfl ?_
      refine e_geti C fl_Mo_185 (by decide) rfl rfl d_Mo_read_189 (fun r_189 => ?_)
      try simp only [so_at, so_so, wr_so, q2, e15, e16, cu_f, ne_eq, Nat.reduceEqDiff, not_false_eq_true] at r_189 ⊢
      refine e_if_le C 202 d_Mo_read_192 (by decide) (by omega) (fun c_192 => ?_) (fun c_192 => ?_)
      · refine e_aload_n C d_Mo_read_202 rfl ?_
        refine e_geti C fl_Mo_194 (by decide) rfl rfl d_Mo_read_203 (fun r_203 => ?_)
        try simp only [so_at, so_so, wr_so, q2, e15, e16, cu_f, ne_eq, Nat.reduceEqDiff, not_false_eq_true] at r_203 ⊢
        refine e_if_le C 216 d_Mo_read_206 (by decide) (by omega) (fun c_206 => ?_) (fun c_206 => ?_)
        · exact absurd c_206 (by omega)
        · refine e_aload_n C d_Mo_read_209 rfl ?_
          refine e_geti C fl_Mo_197 (by decide) rfl rfl d_Mo_read_210 (fun r_210 => ?_)
          try simp only [so_at, so_so, wr_so, q2, e15, e16, cu_f, ne_eq, Nat.reduceEqDiff, not_false_eq_true] at r_210 ⊢
          refine e_goto C 217 d_Mo_read_213 (by decide) ?_
          refine e_puti C fp_Mo_37 (by decide) rfl rfl (by omega) d_Mo_read_217 ?_
          try simp only [so_at, so_so, wr_so, q2, e15, e16, cu_f, ne_eq, Nat.reduceEqDiff, not_false_eq_true]
          refine e_aload_n C d_Mo_read_220 rfl ?_
          refine e_geti C fl_Mo_185 (by decide) rfl rfl d_Mo_read_221 (fun r_221 => ?_)
          try simp only [so_at, so_so, wr_so, q2, e15, e16, cu_f, ne_eq, Nat.reduceEqDiff, not_false_eq_true] at r_221 ⊢
          refine e_if_le C 232 d_Mo_read_224 (by decide) (by omega) (fun c_224 => ?_) (fun c_224 => ?_)
          · refine e_aload_n C d_Mo_read_232 rfl ?_
            refine e_geti C fl_Mo_194 (by decide) rfl rfl d_Mo_read_233 (fun r_233 => ?_)
            try simp only [so_at, so_so, wr_so, q2, e15, e16, cu_f, ne_eq, Nat.reduceEqDiff, not_false_eq_true] at r_233 ⊢
            refine e_if_le C 244 d_Mo_read_236 (by decide) (by omega) (fun c_236 => ?_) (fun c_236 => ?_)
            · exact absurd c_236 (by omega)
            · refine e_aload_n C d_Mo_read_239 rfl ?_
              refine e_geti C fl_Mo_194 (by decide) rfl rfl d_Mo_read_240 (fun r_240 => ?_)
              try simp only [so_at, so_so, wr_so, q2, e15, e16, cu_f, ne_eq, Nat.reduceEqDiff, not_false_eq_true] at r_240 ⊢
              refine e_iret C F rfl d_Mo_read_243 (by omega) ?_
              refine ⟨rfl, _, rfl, ?_⟩
              rw [eN]
              exact h0.fl hm hp q1 hl
          · exact absurd c_224 (by omega)
      · exact absurd c_192 (by omega)
end MR2
