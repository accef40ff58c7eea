/-! the law's own loop (written by wip/gen/gen9q.py) -/
def SX (g : Mach) (N : Nat) (xs : Nat → Int32) : Prop := match g with
  | ((_, _, _, _), (s, _, _, _), _, w, _) => va_T .int (w.2.2 98 0) N (fun j => .int (xs j)) (AA w) s s.heap
def xi (xs : Nat → Int32) (i : Int) : Int := (xs i.toNat).toInt
section LAW
variable {M : Md} {g : Mach} {pc N : Nat} {L : List (Option V)} {st : List V} {σ : St} {xs : Nat → Int32}
theorem e_sln (C : Cx M g) (X : SX g N xs) (hN : N ≤ 3072) (hd : decode M.2.1 pc = .ok (.arraylength, 1)) (k : Ev g (pc + 1) L (.inl N :: st) σ) : Ev g pc L (.inr (.inr (98, 0)) :: st) σ := by
  obtain ⟨⟨p, l, e, R⟩, ⟨s, m, args, below⟩, ⟨meth, c, cells, slots⟩, ⟨D, ca, ρ⟩, Q⟩ := g
  obtain ⟨hx, hb, hml, hown, hts, hK, hlk, hfr, hlo, hc, hs, hSt⟩ := C
  intro H locs ls hl hR
  exact va_tlen hx hb X hR.2.2.1 (Int32.ofInt_eq_ofNat.symm) hd (k H locs ls hl hR)
theorem xi_r (i : Int) : R32 (xi xs i) := by
  have h1 := Int32.le_toInt (xs i.toNat)
  have h2 := Int32.toInt_lt (xs i.toNat)
  unfold xi
  exact ⟨by omega, by omega⟩
theorem e_sld (C : Cx M g) (X : SX g N xs) (hN : N ≤ 3072) {i : Int} (h0 : 0 ≤ i) (h1 : i < N) (hd : decode M.2.1 pc = .ok (.iaload, 1)) (k : R32 (xi xs i) → Ev g (pc + 1) L (.inl (xi xs i) :: st) σ) : Ev g pc L (.inl i :: .inr (.inr (98, 0)) :: st) σ := by
  have k := k (xi_r i)
  obtain ⟨⟨p, l, e, R⟩, ⟨s, m, args, below⟩, ⟨meth, c, cells, slots⟩, ⟨D, ca, ρ⟩, Q⟩ := g
  obtain ⟨hx, hb, hml, hown, hts, hK, hlk, hfr, hlo, hc, hs, hSt⟩ := C
  intro H locs ls hl hR
  refine va_ti hx hb X hR.2.2.1 (r_in h0 h1 (by omega)) rfl hd ?_
  rw [r_clamp h0 (by omega)]
  have k := k H locs ls hl hR
  have e1 : toV ρ (.inl (xi xs i)) = .int (xs i.toNat) := by show Value.int (Int32.ofInt (xs i.toNat).toInt) = _; rw [Int32.ofInt_toInt]
  rw [List.map_cons, e1] at k
  exact k
end LAW
set_option maxHeartbeats 40000000 in
theorem l_law {g : Mach} {N : Nat} {xs : Nat → Int32} (C : Cx M_law g) (X : SX g N xs) (hN : N ≤ 3072) (K : ∀ σ, Ev g 1047 [some (.inr (.inr (98, 0))), some (.inr (.inr (0, 0))), some (.inr (.inr (1, 0))), none] [] σ) :
    ∀ (k : Nat) (n : Int) (σ : St), 0 ≤ n → n ≤ 512 → (N : Int) < 6 * (n + k) + 6 → JV n σ → Ev g 18 [some (.inr (.inr (98, 0))), some (.inr (.inr (0, 0))), some (.inr (.inr (1, 0))), some (.inl (6 * n))] [] σ := by
  intro k
  induction k with
  | zero =>
    intro n σ h0 h1 h2 hJ
    refine e_iload_n C d_law_18 rfl ?_
    refine e_aload_n C d_law_19 rfl ?_
    refine e_sln C X hN d_law_20 ?_
    refine e_bipush C d_law_21 (by decide) ?_
    refine e_isub C d_law_23 ?_
    refine e_icmp_gt C 1047 d_law_24 (by decide) (by omega) (by omega) (fun c_24 => ?_) (fun c_24 => ?_)
    · exact e_drop 3 (K σ)
    · exact absurd h2 (by omega)
  | succ k ih =>
    intro n σ h0 h1 h2 hJ
    obtain ⟨S, hp, hc, hm⟩ := hJ
    have hn6 : n < 600 := by omega
    refine e_iload_n C d_law_18 rfl ?_
    refine e_aload_n C d_law_19 rfl ?_
    refine e_sln C X hN d_law_20 ?_
    refine e_bipush C d_law_21 (by decide) ?_
    refine e_isub C d_law_23 ?_
    refine e_icmp_gt C 1047 d_law_24 (by decide) (by omega) (by omega) (fun c_24 => ?_) (fun c_24 => ?_)
    · exact e_drop 3 (K σ)
    · refine e_aload_n C d_law_27 rfl ?_
      refine e_iload_n C d_law_28 rfl ?_
      refine e_sld C X hN (by omega) (by omega) d_law_29 (fun r_29 => ?_)
      refine e_bipush C d_law_30 (by decide) ?_
      refine e_iand C d_law_32 ?_
      by_cases s_33 : z_iand (xi xs (6 * n)) 31 < 0 ∨ 30 < z_iand (xi xs (6 * n)) 31
      · refine e_tableOut C 1041 d_law_33 (z_iand_r _ _) (by omega) (by decide) ?_
        first | skip
        refine e_iinc C d_law_1041 rfl (by decide) rfl ?_
        refine e_goto C 18 d_law_1044 (by decide) ?_
        rw [show 6 * n + 6 = 6 * (n + 1) by omega]
        first | exact ih (n + 1) _ (by omega) (by omega) (by omega) hj | exact ih (n + 1) σ (by omega) (by omega) (by omega) ⟨S, hp.mono hn6, hc.next, hm⟩
      · rcases (show z_iand (xi xs (6 * n)) 31 = 0 ∨ z_iand (xi xs (6 * n)) 31 = 1 ∨ z_iand (xi xs (6 * n)) 31 = 2 ∨ z_iand (xi xs (6 * n)) 31 = 3 ∨ z_iand (xi xs (6 * n)) 31 = 4 ∨ z_iand (xi xs (6 * n)) 31 = 5 ∨ z_iand (xi xs (6 * n)) 31 = 6 ∨ z_iand (xi xs (6 * n)) 31 = 7 ∨ z_iand (xi xs (6 * n)) 31 = 8 ∨ z_iand (xi xs (6 * n)) 31 = 9 ∨ z_iand (xi xs (6 * n)) 31 = 10 ∨ z_iand (xi xs (6 * n)) 31 = 11 ∨ z_iand (xi xs (6 * n)) 31 = 12 ∨ z_iand (xi xs (6 * n)) 31 = 13 ∨ z_iand (xi xs (6 * n)) 31 = 14 ∨ z_iand (xi xs (6 * n)) 31 = 15 ∨ z_iand (xi xs (6 * n)) 31 = 16 ∨ z_iand (xi xs (6 * n)) 31 = 17 ∨ z_iand (xi xs (6 * n)) 31 = 18 ∨ z_iand (xi xs (6 * n)) 31 = 19 ∨ z_iand (xi xs (6 * n)) 31 = 20 ∨ z_iand (xi xs (6 * n)) 31 = 21 ∨ z_iand (xi xs (6 * n)) 31 = 22 ∨ z_iand (xi xs (6 * n)) 31 = 23 ∨ z_iand (xi xs (6 * n)) 31 = 24 ∨ z_iand (xi xs (6 * n)) 31 = 25 ∨ z_iand (xi xs (6 * n)) 31 = 26 ∨ z_iand (xi xs (6 * n)) 31 = 27 ∨ z_iand (xi xs (6 * n)) 31 = 28 ∨ z_iand (xi xs (6 * n)) 31 = 29 ∨ z_iand (xi xs (6 * n)) 31 = 30 by omega) with s_33_ | s_33_ | s_33_ | s_33_ | s_33_ | s_33_ | s_33_ | s_33_ | s_33_ | s_33_ | s_33_ | s_33_ | s_33_ | s_33_ | s_33_ | s_33_ | s_33_ | s_33_ | s_33_ | s_33_ | s_33_ | s_33_ | s_33_ | s_33_ | s_33_ | s_33_ | s_33_ | s_33_ | s_33_ | s_33_ | s_33_
        · refine e_tableIn (off := 139) C 172 d_law_33 (z_iand_r _ _) (by omega) (by omega) (by rw [s_33_]; rfl) (by decide) ?_
          refine e_aload_n C d_law_172 rfl ?_
          refine e_aload_n C d_law_173 rfl ?_
          refine e_iload_n C d_law_174 rfl ?_
          refine e_iconst C d_law_175 ?_
          refine e_iadd C d_law_176 ?_
          refine e_sld C X hN (by omega) (by omega) d_law_177 (fun r_177 => ?_)
          refine e_aload_n C d_law_178 rfl ?_
          refine e_iload_n C d_law_179 rfl ?_
          refine e_iconst C d_law_180 ?_
          refine e_iadd C d_law_181 ?_
          refine e_sld C X hN (by omega) (by omega) d_law_182 (fun r_182 => ?_)
          refine e_aload_n C d_law_183 rfl ?_
          refine e_iload_n C d_law_184 rfl ?_
          refine e_iconst C d_law_185 ?_
          refine e_iadd C d_law_186 ?_
          refine e_sld C X hN (by omega) (by omega) d_law_187 (fun r_187 => ?_)
          refine e_aload_n C d_law_188 rfl ?_
          refine e_iload_n C d_law_189 rfl ?_
          refine e_iconst C d_law_190 ?_
          refine e_iadd C d_law_191 ?_
          refine e_sld C X hN (by omega) (by omega) d_law_192 (fun r_192 => ?_)
          refine e_aload_n C d_law_193 rfl ?_
          refine e_iload_n C d_law_194 rfl ?_
          refine e_iconst C d_law_195 ?_
          refine e_iadd C d_law_196 ?_
          refine e_sld C X hN (by omega) (by omega) d_law_197 (fun r_197 => ?_)
          refine e_callIV C ok_Sg_feed lk_Lw_13 (o := 0) (by decide) rfl [_, _, _, _, _] rfl rfl (Nat.le_of_ble_eq_true rfl) (by decide) (Nat.le_of_ble_eq_true rfl) d_law_198 (K_Sg_feed hp hc (by omega) (by omega) (by omega) (by omega) (by omega)) (fun v_198 u_198 q_198 h_198 => ?_)
          obtain ⟨rfl, hpc198⟩ := h_198
          refine e_aload_n C d_law_201 rfl ?_
          refine e_aload_n C d_law_202 rfl ?_
          refine e_iload_n C d_law_203 rfl ?_
          refine e_iconst C d_law_204 ?_
          refine e_iadd C d_law_205 ?_
          refine e_sld C X hN (by omega) (by omega) d_law_206 (fun r_206 => ?_)
          refine e_aload_n C d_law_207 rfl ?_
          refine e_iload_n C d_law_208 rfl ?_
          refine e_iconst C d_law_209 ?_
          refine e_iadd C d_law_210 ?_
          refine e_sld C X hN (by omega) (by omega) d_law_211 (fun r_211 => ?_)
          refine e_aload_n C d_law_212 rfl ?_
          refine e_iload_n C d_law_213 rfl ?_
          refine e_iconst C d_law_214 ?_
          refine e_iadd C d_law_215 ?_
          refine e_sld C X hN (by omega) (by omega) d_law_216 (fun r_216 => ?_)
          refine e_aload_n C d_law_217 rfl ?_
          refine e_iload_n C d_law_218 rfl ?_
          refine e_iconst C d_law_219 ?_
          refine e_iadd C d_law_220 ?_
          refine e_sld C X hN (by omega) (by omega) d_law_221 (fun r_221 => ?_)
          refine e_aload_n C d_law_222 rfl ?_
          refine e_iload_n C d_law_223 rfl ?_
          refine e_iconst C d_law_224 ?_
          refine e_iadd C d_law_225 ?_
          refine e_sld C X hN (by omega) (by omega) d_law_226 (fun r_226 => ?_)
          refine e_callIV C ok_Mo_feed lk_Lw_17 (o := 1) (by decide) rfl [_, _, _, _, _] rfl rfl (Nat.le_of_ble_eq_true rfl) (by decide) (Nat.le_of_ble_eq_true rfl) d_law_227 (at1 hpc198.1 (K_Mo_feed (σ := u_198) (m := σ 1) hp hm (by omega) (by omega) (by omega) (by omega) (by omega))) (fun v_227 u_227 q_227 h_227 => ?_)
          obtain ⟨rfl, hmm227⟩ := h_227
          refine e_icmp_eq C 1041 d_law_230 (by decide) (by omega) (by omega) (fun c_230 => ?_) (fun c_230 => ?_)
          · have hj : JV (n + 1) u_227 := JV_nx (PI_nxFeed hp hn6) hpc198 hmm227
            first | skip
            refine e_iinc C d_law_1041 rfl (by decide) rfl ?_
            refine e_goto C 18 d_law_1044 (by decide) ?_
            rw [show 6 * n + 6 = 6 * (n + 1) by omega]
            first | exact ih (n + 1) _ (by omega) (by omega) (by omega) hj | exact ih (n + 1) σ (by omega) (by omega) (by omega) ⟨S, hp.mono hn6, hc.next, hm⟩
          · exact absurd rfl c_230
        · refine e_tableIn (off := 202) C 235 d_law_33 (z_iand_r _ _) (by omega) (by omega) (by rw [s_33_]; rfl) (by decide) ?_
          refine e_aload_n C d_law_235 rfl ?_
          refine e_aload_n C d_law_236 rfl ?_
          refine e_iload_n C d_law_237 rfl ?_
          refine e_iconst C d_law_238 ?_
          refine e_iadd C d_law_239 ?_
          refine e_sld C X hN (by omega) (by omega) d_law_240 (fun r_240 => ?_)
          refine e_callIV C ok_Sg_back lk_Lw_18 (o := 0) (by decide) rfl [_] rfl rfl (Nat.le_of_ble_eq_true rfl) (by decide) (Nat.le_of_ble_eq_true rfl) d_law_241 (K_Sg_back hp hc (by omega)) (fun v_241 u_241 q_241 h_241 => ?_)
          obtain ⟨rfl, hpc241⟩ := h_241
          refine e_aload_n C d_law_244 rfl ?_
          refine e_aload_n C d_law_245 rfl ?_
          refine e_iload_n C d_law_246 rfl ?_
          refine e_iconst C d_law_247 ?_
          refine e_iadd C d_law_248 ?_
          refine e_sld C X hN (by omega) (by omega) d_law_249 (fun r_249 => ?_)
          refine e_callIV C ok_Mo_back lk_Lw_22 (o := 1) (by decide) rfl [_] rfl rfl (Nat.le_of_ble_eq_true rfl) (by decide) (Nat.le_of_ble_eq_true rfl) d_law_250 (at1 hpc241.1 (K_Mo_back (σ := u_241) (m := σ 1) hp hm (by omega))) (fun v_250 u_250 q_250 h_250 => ?_)
          obtain ⟨rfl, hmm250⟩ := h_250
          refine e_icmp_eq C 1041 d_law_253 (by decide) (by omega) (by omega) (fun c_253 => ?_) (fun c_253 => ?_)
          · have hj : JV (n + 1) u_250 := JV_nx (PI_nxBack hp hn6) hpc241 hmm250
            first | skip
            refine e_iinc C d_law_1041 rfl (by decide) rfl ?_
            refine e_goto C 18 d_law_1044 (by decide) ?_
            rw [show 6 * n + 6 = 6 * (n + 1) by omega]
            first | exact ih (n + 1) _ (by omega) (by omega) (by omega) hj | exact ih (n + 1) σ (by omega) (by omega) (by omega) ⟨S, hp.mono hn6, hc.next, hm⟩
          · exact absurd rfl c_253
        · refine e_tableIn (off := 225) C 258 d_law_33 (z_iand_r _ _) (by omega) (by omega) (by rw [s_33_]; rfl) (by decide) ?_
          refine e_aload_n C d_law_258 rfl ?_
          refine e_callIV C ok_Sg_read lk_Lw_23 (o := 0) (by decide) rfl [] rfl rfl (Nat.le_of_ble_eq_true rfl) (by decide) (Nat.le_of_ble_eq_true rfl) d_law_259 (K_Sg_read hp hn6 hc) (fun v_259 u_259 q_259 h_259 => ?_)
          obtain ⟨rfl, P259, t259, hpc259, hpi259⟩ := h_259
          refine e_aload_n C d_law_262 rfl ?_
          refine e_callIV C ok_Mo_read lk_Lw_27 (o := 1) (by decide) rfl [] rfl rfl (Nat.le_of_ble_eq_true rfl) (by decide) (Nat.le_of_ble_eq_true rfl) d_law_263 (at1 hpc259.1 (K_Mo_read (σ := u_259) (m := σ 1) (X := σ 3) (P := σ 4) (l := σ 5) (c := σ 16) (P' := P259) FlN_ok hp hm hc.rd.1 hc.rd.2 t259)) (fun v_263 u_263 q_263 h_263 => ?_)
          obtain ⟨rfl, hmm263⟩ := h_263
          refine e_icmp_eq C 1041 d_law_266 (by decide) (by omega) (by omega) (fun c_266 => ?_) (fun c_266 => ?_)
          · have hj : JV (n + 1) u_263 := JV_nx hpi259 hpc259 hmm263
            first | skip
            refine e_iinc C d_law_1041 rfl (by decide) rfl ?_
            refine e_goto C 18 d_law_1044 (by decide) ?_
            rw [show 6 * n + 6 = 6 * (n + 1) by omega]
            first | exact ih (n + 1) _ (by omega) (by omega) (by omega) hj | exact ih (n + 1) σ (by omega) (by omega) (by omega) ⟨S, hp.mono hn6, hc.next, hm⟩
          · exact absurd rfl c_266
        · refine e_tableIn (off := 238) C 271 d_law_33 (z_iand_r _ _) (by omega) (by omega) (by rw [s_33_]; rfl) (by decide) ?_
          refine e_aload_n C d_law_271 rfl ?_
          refine e_callIV C ok_Sg_place lk_Lw_28 (o := 0) (by decide) rfl [] rfl rfl (Nat.le_of_ble_eq_true rfl) (by decide) (Nat.le_of_ble_eq_true rfl) d_law_272 (K_Sg_place hc) (fun v_272 u_272 q_272 h_272 => ?_)
          obtain ⟨rfl, hpc272⟩ := h_272
          refine e_aload_n C d_law_275 rfl ?_
          refine e_callIV C ok_Mo_place lk_Lw_31 (o := 1) (by decide) rfl [] rfl rfl (Nat.le_of_ble_eq_true rfl) (by decide) (Nat.le_of_ble_eq_true rfl) d_law_276 (at1 hpc272.1 (K_Mo_place (σ := u_272) (m := σ 1) hm )) (fun v_276 u_276 q_276 h_276 => ?_)
          obtain ⟨rfl, hmm276⟩ := h_276
          refine e_icmp_eq C 1041 d_law_279 (by decide) (by omega) (by omega) (fun c_279 => ?_) (fun c_279 => ?_)
          · have hj : JV (n + 1) u_276 := JV_nx (hp.mono hn6) hpc272 hmm276
            first | skip
            refine e_iinc C d_law_1041 rfl (by decide) rfl ?_
            refine e_goto C 18 d_law_1044 (by decide) ?_
            rw [show 6 * n + 6 = 6 * (n + 1) by omega]
            first | exact ih (n + 1) _ (by omega) (by omega) (by omega) hj | exact ih (n + 1) σ (by omega) (by omega) (by omega) ⟨S, hp.mono hn6, hc.next, hm⟩
          · exact absurd rfl c_279
        · refine e_tableIn (off := 251) C 284 d_law_33 (z_iand_r _ _) (by omega) (by omega) (by rw [s_33_]; rfl) (by decide) ?_
          refine e_aload_n C d_law_284 rfl ?_
          refine e_aload_n C d_law_285 rfl ?_
          refine e_iload_n C d_law_286 rfl ?_
          refine e_iconst C d_law_287 ?_
          refine e_iadd C d_law_288 ?_
          refine e_sld C X hN (by omega) (by omega) d_law_289 (fun r_289 => ?_)
          refine e_aload_n C d_law_290 rfl ?_
          refine e_iload_n C d_law_291 rfl ?_
          refine e_iconst C d_law_292 ?_
          refine e_iadd C d_law_293 ?_
          refine e_sld C X hN (by omega) (by omega) d_law_294 (fun r_294 => ?_)
          refine e_callIV C ok_Sg_post lk_Lw_32 (o := 0) (by decide) rfl [_, _] rfl rfl (Nat.le_of_ble_eq_true rfl) (by decide) (Nat.le_of_ble_eq_true rfl) d_law_295 (K_Sg_post hp hc (by omega) (by omega)) (fun v_295 u_295 q_295 h_295 => ?_)
          obtain ⟨rfl, hpc295⟩ := h_295
          refine e_aload_n C d_law_298 rfl ?_
          refine e_aload_n C d_law_299 rfl ?_
          refine e_iload_n C d_law_300 rfl ?_
          refine e_iconst C d_law_301 ?_
          refine e_iadd C d_law_302 ?_
          refine e_sld C X hN (by omega) (by omega) d_law_303 (fun r_303 => ?_)
          refine e_aload_n C d_law_304 rfl ?_
          refine e_iload_n C d_law_305 rfl ?_
          refine e_iconst C d_law_306 ?_
          refine e_iadd C d_law_307 ?_
          refine e_sld C X hN (by omega) (by omega) d_law_308 (fun r_308 => ?_)
          refine e_callIV C ok_Mo_post lk_Lw_36 (o := 1) (by decide) rfl [_, _] rfl rfl (Nat.le_of_ble_eq_true rfl) (by decide) (Nat.le_of_ble_eq_true rfl) d_law_309 (at1 hpc295.1 (K_Mo_post (σ := u_295) (m := σ 1) hp hm (by omega) (by omega))) (fun v_309 u_309 q_309 h_309 => ?_)
          obtain ⟨rfl, hmm309⟩ := h_309
          refine e_icmp_eq C 1041 d_law_312 (by decide) (by omega) (by omega) (fun c_312 => ?_) (fun c_312 => ?_)
          · have hj : JV (n + 1) u_309 := JV_nx (hp.mono hn6) hpc295 hmm309
            first | skip
            refine e_iinc C d_law_1041 rfl (by decide) rfl ?_
            refine e_goto C 18 d_law_1044 (by decide) ?_
            rw [show 6 * n + 6 = 6 * (n + 1) by omega]
            first | exact ih (n + 1) _ (by omega) (by omega) (by omega) hj | exact ih (n + 1) σ (by omega) (by omega) (by omega) ⟨S, hp.mono hn6, hc.next, hm⟩
          · exact absurd rfl c_312
        · refine e_tableIn (off := 284) C 317 d_law_33 (z_iand_r _ _) (by omega) (by omega) (by rw [s_33_]; rfl) (by decide) ?_
          refine e_aload_n C d_law_317 rfl ?_
          refine e_aload_n C d_law_318 rfl ?_
          refine e_iload_n C d_law_319 rfl ?_
          refine e_iconst C d_law_320 ?_
          refine e_iadd C d_law_321 ?_
          refine e_sld C X hN (by omega) (by omega) d_law_322 (fun r_322 => ?_)
          refine e_aload_n C d_law_323 rfl ?_
          refine e_iload_n C d_law_324 rfl ?_
          refine e_iconst C d_law_325 ?_
          refine e_iadd C d_law_326 ?_
          refine e_sld C X hN (by omega) (by omega) d_law_327 (fun r_327 => ?_)
          refine e_callIV C ok_Sg_guard lk_Lw_37 (o := 0) (by decide) rfl [_, _] rfl rfl (Nat.le_of_ble_eq_true rfl) (by decide) (Nat.le_of_ble_eq_true rfl) d_law_328 (K_Sg_guard hp hc (by omega) (by omega)) (fun v_328 u_328 q_328 h_328 => ?_)
          obtain ⟨rfl, hpc328⟩ := h_328
          refine e_aload_n C d_law_331 rfl ?_
          refine e_aload_n C d_law_332 rfl ?_
          refine e_iload_n C d_law_333 rfl ?_
          refine e_iconst C d_law_334 ?_
          refine e_iadd C d_law_335 ?_
          refine e_sld C X hN (by omega) (by omega) d_law_336 (fun r_336 => ?_)
          refine e_aload_n C d_law_337 rfl ?_
          refine e_iload_n C d_law_338 rfl ?_
          refine e_iconst C d_law_339 ?_
          refine e_iadd C d_law_340 ?_
          refine e_sld C X hN (by omega) (by omega) d_law_341 (fun r_341 => ?_)
          refine e_callIV C ok_Mo_guard lk_Lw_40 (o := 1) (by decide) rfl [_, _] rfl rfl (Nat.le_of_ble_eq_true rfl) (by decide) (Nat.le_of_ble_eq_true rfl) d_law_342 (at1 hpc328.1 (K_Mo_guard (σ := u_328) (m := σ 1) hp hm (by omega) (by omega))) (fun v_342 u_342 q_342 h_342 => ?_)
          obtain ⟨rfl, hmm342⟩ := h_342
          refine e_icmp_eq C 1041 d_law_345 (by decide) (by omega) (by omega) (fun c_345 => ?_) (fun c_345 => ?_)
          · have hj : JV (n + 1) u_342 := JV_nx (hp.mono hn6) hpc328 hmm342
            first | skip
            refine e_iinc C d_law_1041 rfl (by decide) rfl ?_
            refine e_goto C 18 d_law_1044 (by decide) ?_
            rw [show 6 * n + 6 = 6 * (n + 1) by omega]
            first | exact ih (n + 1) _ (by omega) (by omega) (by omega) hj | exact ih (n + 1) σ (by omega) (by omega) (by omega) ⟨S, hp.mono hn6, hc.next, hm⟩
          · exact absurd rfl c_345
        · refine e_tableIn (off := 317) C 350 d_law_33 (z_iand_r _ _) (by omega) (by omega) (by rw [s_33_]; rfl) (by decide) ?_
          refine e_aload_n C d_law_350 rfl ?_
          refine e_aload_n C d_law_351 rfl ?_
          refine e_iload_n C d_law_352 rfl ?_
          refine e_iconst C d_law_353 ?_
          refine e_iadd C d_law_354 ?_
          refine e_sld C X hN (by omega) (by omega) d_law_355 (fun r_355 => ?_)
          refine e_callIV C ok_Sg_run lk_Lw_41 (o := 0) (by decide) rfl [_] rfl rfl (Nat.le_of_ble_eq_true rfl) (by decide) (Nat.le_of_ble_eq_true rfl) d_law_356 (K_Sg_run hp hc (by omega)) (fun v_356 u_356 q_356 h_356 => ?_)
          obtain ⟨rfl, hpc356⟩ := h_356
          refine e_aload_n C d_law_359 rfl ?_
          refine e_aload_n C d_law_360 rfl ?_
          refine e_iload_n C d_law_361 rfl ?_
          refine e_iconst C d_law_362 ?_
          refine e_iadd C d_law_363 ?_
          refine e_sld C X hN (by omega) (by omega) d_law_364 (fun r_364 => ?_)
          refine e_callIV C ok_Mo_run lk_Lw_44 (o := 1) (by decide) rfl [_] rfl rfl (Nat.le_of_ble_eq_true rfl) (by decide) (Nat.le_of_ble_eq_true rfl) d_law_365 (at1 hpc356.1 (K_Mo_run (σ := u_356) (m := σ 1) hp hm (by omega))) (fun v_365 u_365 q_365 h_365 => ?_)
          obtain ⟨rfl, hmm365⟩ := h_365
          refine e_icmp_eq C 1041 d_law_368 (by decide) (by omega) (by omega) (fun c_368 => ?_) (fun c_368 => ?_)
          · have hj : JV (n + 1) u_365 := JV_nx (PI_nxRun hp hn6) hpc356 hmm365
            first | skip
            refine e_iinc C d_law_1041 rfl (by decide) rfl ?_
            refine e_goto C 18 d_law_1044 (by decide) ?_
            rw [show 6 * n + 6 = 6 * (n + 1) by omega]
            first | exact ih (n + 1) _ (by omega) (by omega) (by omega) hj | exact ih (n + 1) σ (by omega) (by omega) (by omega) ⟨S, hp.mono hn6, hc.next, hm⟩
          · exact absurd rfl c_368
        · refine e_tableIn (off := 340) C 373 d_law_33 (z_iand_r _ _) (by omega) (by omega) (by rw [s_33_]; rfl) (by decide) ?_
          refine e_aload_n C d_law_373 rfl ?_
          refine e_aload_n C d_law_374 rfl ?_
          refine e_iload_n C d_law_375 rfl ?_
          refine e_iconst C d_law_376 ?_
          refine e_iadd C d_law_377 ?_
          refine e_sld C X hN (by omega) (by omega) d_law_378 (fun r_378 => ?_)
          refine e_callIV C ok_Sg_turn lk_Lw_45 (o := 0) (by decide) rfl [_] rfl rfl (Nat.le_of_ble_eq_true rfl) (by decide) (Nat.le_of_ble_eq_true rfl) d_law_379 (K_Sg_turn hp hc (by omega)) (fun v_379 u_379 q_379 h_379 => ?_)
          obtain ⟨rfl, hpc379⟩ := h_379
          refine e_aload_n C d_law_382 rfl ?_
          refine e_aload_n C d_law_383 rfl ?_
          refine e_iload_n C d_law_384 rfl ?_
          refine e_iconst C d_law_385 ?_
          refine e_iadd C d_law_386 ?_
          refine e_sld C X hN (by omega) (by omega) d_law_387 (fun r_387 => ?_)
          refine e_callIV C ok_Mo_turn lk_Lw_49 (o := 1) (by decide) rfl [_] rfl rfl (Nat.le_of_ble_eq_true rfl) (by decide) (Nat.le_of_ble_eq_true rfl) d_law_388 (at1 hpc379.1 (K_Mo_turn (σ := u_379) (m := σ 1) hp hm (by omega))) (fun v_388 u_388 q_388 h_388 => ?_)
          obtain ⟨rfl, hmm388⟩ := h_388
          refine e_icmp_eq C 1041 d_law_391 (by decide) (by omega) (by omega) (fun c_391 => ?_) (fun c_391 => ?_)
          · have hj : JV (n + 1) u_388 := JV_nx (PI_nxTurn hp hn6) hpc379 hmm388
            first | skip
            refine e_iinc C d_law_1041 rfl (by decide) rfl ?_
            refine e_goto C 18 d_law_1044 (by decide) ?_
            rw [show 6 * n + 6 = 6 * (n + 1) by omega]
            first | exact ih (n + 1) _ (by omega) (by omega) (by omega) hj | exact ih (n + 1) σ (by omega) (by omega) (by omega) ⟨S, hp.mono hn6, hc.next, hm⟩
          · exact absurd rfl c_391
        · refine e_tableIn (off := 363) C 396 d_law_33 (z_iand_r _ _) (by omega) (by omega) (by rw [s_33_]; rfl) (by decide) ?_
          refine e_aload_n C d_law_396 rfl ?_
          refine e_aload_n C d_law_397 rfl ?_
          refine e_iload_n C d_law_398 rfl ?_
          refine e_iconst C d_law_399 ?_
          refine e_iadd C d_law_400 ?_
          refine e_sld C X hN (by omega) (by omega) d_law_401 (fun r_401 => ?_)
          refine e_aload_n C d_law_402 rfl ?_
          refine e_iload_n C d_law_403 rfl ?_
          refine e_iconst C d_law_404 ?_
          refine e_iadd C d_law_405 ?_
          refine e_sld C X hN (by omega) (by omega) d_law_406 (fun r_406 => ?_)
          refine e_callIV C ok_Sg_shake lk_Lw_50 (o := 0) (by decide) rfl [_, _] rfl rfl (Nat.le_of_ble_eq_true rfl) (by decide) (Nat.le_of_ble_eq_true rfl) d_law_407 (K_Sg_shake hp hc (by omega) (by omega)) (fun v_407 u_407 q_407 h_407 => ?_)
          obtain ⟨rfl, hpc407⟩ := h_407
          refine e_aload_n C d_law_410 rfl ?_
          refine e_aload_n C d_law_411 rfl ?_
          refine e_iload_n C d_law_412 rfl ?_
          refine e_iconst C d_law_413 ?_
          refine e_iadd C d_law_414 ?_
          refine e_sld C X hN (by omega) (by omega) d_law_415 (fun r_415 => ?_)
          refine e_aload_n C d_law_416 rfl ?_
          refine e_iload_n C d_law_417 rfl ?_
          refine e_iconst C d_law_418 ?_
          refine e_iadd C d_law_419 ?_
          refine e_sld C X hN (by omega) (by omega) d_law_420 (fun r_420 => ?_)
          refine e_callIV C ok_Mo_shake lk_Lw_53 (o := 1) (by decide) rfl [_, _] rfl rfl (Nat.le_of_ble_eq_true rfl) (by decide) (Nat.le_of_ble_eq_true rfl) d_law_421 (at1 hpc407.1 (K_Mo_shake (σ := u_407) (m := σ 1) hp hm (by omega) (by omega))) (fun v_421 u_421 q_421 h_421 => ?_)
          obtain ⟨rfl, hmm421⟩ := h_421
          refine e_icmp_eq C 1041 d_law_424 (by decide) (by omega) (by omega) (fun c_424 => ?_) (fun c_424 => ?_)
          · have hj : JV (n + 1) u_421 := JV_nx (PI_nxShake hp hn6) hpc407 hmm421
            first | skip
            refine e_iinc C d_law_1041 rfl (by decide) rfl ?_
            refine e_goto C 18 d_law_1044 (by decide) ?_
            rw [show 6 * n + 6 = 6 * (n + 1) by omega]
            first | exact ih (n + 1) _ (by omega) (by omega) (by omega) hj | exact ih (n + 1) σ (by omega) (by omega) (by omega) ⟨S, hp.mono hn6, hc.next, hm⟩
          · exact absurd rfl c_424
        · refine e_tableIn (off := 396) C 429 d_law_33 (z_iand_r _ _) (by omega) (by omega) (by rw [s_33_]; rfl) (by decide) ?_
          refine e_aload_n C d_law_429 rfl ?_
          refine e_aload_n C d_law_430 rfl ?_
          refine e_iload_n C d_law_431 rfl ?_
          refine e_iconst C d_law_432 ?_
          refine e_iadd C d_law_433 ?_
          refine e_sld C X hN (by omega) (by omega) d_law_434 (fun r_434 => ?_)
          refine e_aload_n C d_law_435 rfl ?_
          refine e_iload_n C d_law_436 rfl ?_
          refine e_iconst C d_law_437 ?_
          refine e_iadd C d_law_438 ?_
          refine e_sld C X hN (by omega) (by omega) d_law_439 (fun r_439 => ?_)
          refine e_if_eq C 447 d_law_440 (by decide) (by omega) (fun c_440 => ?_) (fun c_440 => ?_)
          · refine e_iconst C d_law_447 ?_
            refine e_callIV C ok_Sg_dry lk_Lw_54 (o := 0) (by decide) rfl [_, _] rfl rfl (Nat.le_of_ble_eq_true rfl) (by decide) (Nat.le_of_ble_eq_true rfl) d_law_448 (K_Sg_dry hp hc (by omega) (by decide)) (fun v_448 u_448 q_448 h_448 => ?_)
            obtain ⟨rfl, hpc448⟩ := h_448
            refine e_aload_n C d_law_451 rfl ?_
            refine e_aload_n C d_law_452 rfl ?_
            refine e_iload_n C d_law_453 rfl ?_
            refine e_iconst C d_law_454 ?_
            refine e_iadd C d_law_455 ?_
            refine e_sld C X hN (by omega) (by omega) d_law_456 (fun r_456 => ?_)
            refine e_aload_n C d_law_457 rfl ?_
            refine e_iload_n C d_law_458 rfl ?_
            refine e_iconst C d_law_459 ?_
            refine e_iadd C d_law_460 ?_
            refine e_sld C X hN (by omega) (by omega) d_law_461 (fun r_461 => ?_)
            refine e_if_eq C 469 d_law_462 (by decide) (by omega) (fun c_462 => ?_) (fun c_462 => ?_)
            · refine e_iconst C d_law_469 ?_
              refine e_callIV C ok_Mo_dry lk_Lw_58 (o := 1) (by decide) rfl [_, _] rfl rfl (Nat.le_of_ble_eq_true rfl) (by decide) (Nat.le_of_ble_eq_true rfl) d_law_470 (at1 hpc448.1 (K_Mo_dry (σ := u_448) (m := σ 1) hp hm (by omega) (by decide))) (fun v_470 u_470 q_470 h_470 => ?_)
              obtain ⟨rfl, hmm470⟩ := h_470
              refine e_icmp_eq C 1041 d_law_473 (by decide) (by omega) (by omega) (fun c_473 => ?_) (fun c_473 => ?_)
              · have hj : JV (n + 1) u_470 := by first | exact JV_nx (PI_nxDry hp hn6 (by decide)) hpc448 hmm470 | (exfalso; omega)
                first | skip
                refine e_iinc C d_law_1041 rfl (by decide) rfl ?_
                refine e_goto C 18 d_law_1044 (by decide) ?_
                rw [show 6 * n + 6 = 6 * (n + 1) by omega]
                first | exact ih (n + 1) _ (by omega) (by omega) (by omega) hj | exact ih (n + 1) σ (by omega) (by omega) (by omega) ⟨S, hp.mono hn6, hc.next, hm⟩
              · first | exact absurd rfl c_473 | (exfalso; omega)
            · refine e_iconst C d_law_465 ?_
              refine e_goto C 470 d_law_466 (by decide) ?_
              refine e_callIV C ok_Mo_dry lk_Lw_58 (o := 1) (by decide) rfl [_, _] rfl rfl (Nat.le_of_ble_eq_true rfl) (by decide) (Nat.le_of_ble_eq_true rfl) d_law_470 (at1 hpc448.1 (K_Mo_dry (σ := u_448) (m := σ 1) hp hm (by omega) (by decide))) (fun v_470 u_470 q_470 h_470 => ?_)
              obtain ⟨rfl, hmm470⟩ := h_470
              refine e_icmp_eq C 1041 d_law_473 (by decide) (by omega) (by omega) (fun c_473 => ?_) (fun c_473 => ?_)
              · have hj : JV (n + 1) u_470 := by first | exact JV_nx (PI_nxDry hp hn6 (by decide)) hpc448 hmm470 | (exfalso; omega)
                first | skip
                refine e_iinc C d_law_1041 rfl (by decide) rfl ?_
                refine e_goto C 18 d_law_1044 (by decide) ?_
                rw [show 6 * n + 6 = 6 * (n + 1) by omega]
                first | exact ih (n + 1) _ (by omega) (by omega) (by omega) hj | exact ih (n + 1) σ (by omega) (by omega) (by omega) ⟨S, hp.mono hn6, hc.next, hm⟩
              · first | exact absurd rfl c_473 | (exfalso; omega)
          · refine e_iconst C d_law_443 ?_
            refine e_goto C 448 d_law_444 (by decide) ?_
            refine e_callIV C ok_Sg_dry lk_Lw_54 (o := 0) (by decide) rfl [_, _] rfl rfl (Nat.le_of_ble_eq_true rfl) (by decide) (Nat.le_of_ble_eq_true rfl) d_law_448 (K_Sg_dry hp hc (by omega) (by decide)) (fun v_448 u_448 q_448 h_448 => ?_)
            obtain ⟨rfl, hpc448⟩ := h_448
            refine e_aload_n C d_law_451 rfl ?_
            refine e_aload_n C d_law_452 rfl ?_
            refine e_iload_n C d_law_453 rfl ?_
            refine e_iconst C d_law_454 ?_
            refine e_iadd C d_law_455 ?_
            refine e_sld C X hN (by omega) (by omega) d_law_456 (fun r_456 => ?_)
            refine e_aload_n C d_law_457 rfl ?_
            refine e_iload_n C d_law_458 rfl ?_
            refine e_iconst C d_law_459 ?_
            refine e_iadd C d_law_460 ?_
            refine e_sld C X hN (by omega) (by omega) d_law_461 (fun r_461 => ?_)
            refine e_if_eq C 469 d_law_462 (by decide) (by omega) (fun c_462 => ?_) (fun c_462 => ?_)
            · refine e_iconst C d_law_469 ?_
              refine e_callIV C ok_Mo_dry lk_Lw_58 (o := 1) (by decide) rfl [_, _] rfl rfl (Nat.le_of_ble_eq_true rfl) (by decide) (Nat.le_of_ble_eq_true rfl) d_law_470 (at1 hpc448.1 (K_Mo_dry (σ := u_448) (m := σ 1) hp hm (by omega) (by decide))) (fun v_470 u_470 q_470 h_470 => ?_)
              obtain ⟨rfl, hmm470⟩ := h_470
              refine e_icmp_eq C 1041 d_law_473 (by decide) (by omega) (by omega) (fun c_473 => ?_) (fun c_473 => ?_)
              · have hj : JV (n + 1) u_470 := by first | exact JV_nx (PI_nxDry hp hn6 (by decide)) hpc448 hmm470 | (exfalso; omega)
                first | skip
                refine e_iinc C d_law_1041 rfl (by decide) rfl ?_
                refine e_goto C 18 d_law_1044 (by decide) ?_
                rw [show 6 * n + 6 = 6 * (n + 1) by omega]
                first | exact ih (n + 1) _ (by omega) (by omega) (by omega) hj | exact ih (n + 1) σ (by omega) (by omega) (by omega) ⟨S, hp.mono hn6, hc.next, hm⟩
              · first | exact absurd rfl c_473 | (exfalso; omega)
            · refine e_iconst C d_law_465 ?_
              refine e_goto C 470 d_law_466 (by decide) ?_
              refine e_callIV C ok_Mo_dry lk_Lw_58 (o := 1) (by decide) rfl [_, _] rfl rfl (Nat.le_of_ble_eq_true rfl) (by decide) (Nat.le_of_ble_eq_true rfl) d_law_470 (at1 hpc448.1 (K_Mo_dry (σ := u_448) (m := σ 1) hp hm (by omega) (by decide))) (fun v_470 u_470 q_470 h_470 => ?_)
              obtain ⟨rfl, hmm470⟩ := h_470
              refine e_icmp_eq C 1041 d_law_473 (by decide) (by omega) (by omega) (fun c_473 => ?_) (fun c_473 => ?_)
              · have hj : JV (n + 1) u_470 := by first | exact JV_nx (PI_nxDry hp hn6 (by decide)) hpc448 hmm470 | (exfalso; omega)
                first | skip
                refine e_iinc C d_law_1041 rfl (by decide) rfl ?_
                refine e_goto C 18 d_law_1044 (by decide) ?_
                rw [show 6 * n + 6 = 6 * (n + 1) by omega]
                first | exact ih (n + 1) _ (by omega) (by omega) (by omega) hj | exact ih (n + 1) σ (by omega) (by omega) (by omega) ⟨S, hp.mono hn6, hc.next, hm⟩
              · first | exact absurd rfl c_473 | (exfalso; omega)
        · refine e_tableIn (off := 445) C 478 d_law_33 (z_iand_r _ _) (by omega) (by omega) (by rw [s_33_]; rfl) (by decide) ?_
          refine e_aload_n C d_law_478 rfl ?_
          refine e_aload_n C d_law_479 rfl ?_
          refine e_iload_n C d_law_480 rfl ?_
          refine e_iconst C d_law_481 ?_
          refine e_iadd C d_law_482 ?_
          refine e_sld C X hN (by omega) (by omega) d_law_483 (fun r_483 => ?_)
          refine e_aload_n C d_law_484 rfl ?_
          refine e_iload_n C d_law_485 rfl ?_
          refine e_iconst C d_law_486 ?_
          refine e_iadd C d_law_487 ?_
          refine e_sld C X hN (by omega) (by omega) d_law_488 (fun r_488 => ?_)
          refine e_callIV C ok_Sg_pinch lk_Lw_59 (o := 0) (by decide) rfl [_, _] rfl rfl (Nat.le_of_ble_eq_true rfl) (by decide) (Nat.le_of_ble_eq_true rfl) d_law_489 (K_Sg_pinch hp hc (by omega) (by omega)) (fun v_489 u_489 q_489 h_489 => ?_)
          obtain ⟨rfl, hpc489⟩ := h_489
          refine e_aload_n C d_law_492 rfl ?_
          refine e_aload_n C d_law_493 rfl ?_
          refine e_iload_n C d_law_494 rfl ?_
          refine e_iconst C d_law_495 ?_
          refine e_iadd C d_law_496 ?_
          refine e_sld C X hN (by omega) (by omega) d_law_497 (fun r_497 => ?_)
          refine e_aload_n C d_law_498 rfl ?_
          refine e_iload_n C d_law_499 rfl ?_
          refine e_iconst C d_law_500 ?_
          refine e_iadd C d_law_501 ?_
          refine e_sld C X hN (by omega) (by omega) d_law_502 (fun r_502 => ?_)
          refine e_callIV C ok_Mo_pinch lk_Lw_62 (o := 1) (by decide) rfl [_, _] rfl rfl (Nat.le_of_ble_eq_true rfl) (by decide) (Nat.le_of_ble_eq_true rfl) d_law_503 (at1 hpc489.1 (K_Mo_pinch (σ := u_489) (m := σ 1) hp hm (by omega) (by omega))) (fun v_503 u_503 q_503 h_503 => ?_)
          obtain ⟨rfl, hmm503⟩ := h_503
          refine e_icmp_eq C 1041 d_law_506 (by decide) (by omega) (by omega) (fun c_506 => ?_) (fun c_506 => ?_)
          · have hj : JV (n + 1) u_503 := JV_nx (PI_nxPinch hp hn6) hpc489 hmm503
            first | skip
            refine e_iinc C d_law_1041 rfl (by decide) rfl ?_
            refine e_goto C 18 d_law_1044 (by decide) ?_
            rw [show 6 * n + 6 = 6 * (n + 1) by omega]
            first | exact ih (n + 1) _ (by omega) (by omega) (by omega) hj | exact ih (n + 1) σ (by omega) (by omega) (by omega) ⟨S, hp.mono hn6, hc.next, hm⟩
          · exact absurd rfl c_506
        · refine e_tableIn (off := 478) C 511 d_law_33 (z_iand_r _ _) (by omega) (by omega) (by rw [s_33_]; rfl) (by decide) ?_
          refine e_aload_n C d_law_511 rfl ?_
          refine e_aload_n C d_law_512 rfl ?_
          refine e_iload_n C d_law_513 rfl ?_
          refine e_iconst C d_law_514 ?_
          refine e_iadd C d_law_515 ?_
          refine e_sld C X hN (by omega) (by omega) d_law_516 (fun r_516 => ?_)
          refine e_aload_n C d_law_517 rfl ?_
          refine e_iload_n C d_law_518 rfl ?_
          refine e_iconst C d_law_519 ?_
          refine e_iadd C d_law_520 ?_
          refine e_sld C X hN (by omega) (by omega) d_law_521 (fun r_521 => ?_)
          refine e_callIV C ok_Sg_send lk_Lw_63 (o := 0) (by decide) rfl [_, _] rfl rfl (Nat.le_of_ble_eq_true rfl) (by decide) (Nat.le_of_ble_eq_true rfl) d_law_522 (K_Sg_send hp hc (by omega) (by omega)) (fun v_522 u_522 q_522 h_522 => ?_)
          obtain ⟨rfl, hpc522⟩ := h_522
          refine e_aload_n C d_law_525 rfl ?_
          refine e_aload_n C d_law_526 rfl ?_
          refine e_iload_n C d_law_527 rfl ?_
          refine e_iconst C d_law_528 ?_
          refine e_iadd C d_law_529 ?_
          refine e_sld C X hN (by omega) (by omega) d_law_530 (fun r_530 => ?_)
          refine e_aload_n C d_law_531 rfl ?_
          refine e_iload_n C d_law_532 rfl ?_
          refine e_iconst C d_law_533 ?_
          refine e_iadd C d_law_534 ?_
          refine e_sld C X hN (by omega) (by omega) d_law_535 (fun r_535 => ?_)
          refine e_callIV C ok_Mo_send lk_Lw_67 (o := 1) (by decide) rfl [_, _] rfl rfl (Nat.le_of_ble_eq_true rfl) (by decide) (Nat.le_of_ble_eq_true rfl) d_law_536 (at1 hpc522.1 (K_Mo_send (σ := u_522) (m := σ 1) hp hm (by omega) (by omega))) (fun v_536 u_536 q_536 h_536 => ?_)
          obtain ⟨rfl, hmm536⟩ := h_536
          refine e_icmp_eq C 1041 d_law_539 (by decide) (by omega) (by omega) (fun c_539 => ?_) (fun c_539 => ?_)
          · have hj : JV (n + 1) u_536 := JV_nx (PI_nxSend hp hn6) hpc522 hmm536
            first | skip
            refine e_iinc C d_law_1041 rfl (by decide) rfl ?_
            refine e_goto C 18 d_law_1044 (by decide) ?_
            rw [show 6 * n + 6 = 6 * (n + 1) by omega]
            first | exact ih (n + 1) _ (by omega) (by omega) (by omega) hj | exact ih (n + 1) σ (by omega) (by omega) (by omega) ⟨S, hp.mono hn6, hc.next, hm⟩
          · exact absurd rfl c_539
        · refine e_tableIn (off := 511) C 544 d_law_33 (z_iand_r _ _) (by omega) (by omega) (by rw [s_33_]; rfl) (by decide) ?_
          refine e_aload_n C d_law_544 rfl ?_
          refine e_callIV C ok_Sg_undo lk_Lw_68 (o := 0) (by decide) rfl [] rfl rfl (Nat.le_of_ble_eq_true rfl) (by decide) (Nat.le_of_ble_eq_true rfl) d_law_545 (K_Sg_undo hp hc) (fun v_545 u_545 q_545 h_545 => ?_)
          obtain ⟨rfl, hpc545⟩ := h_545
          refine e_aload_n C d_law_548 rfl ?_
          refine e_callIV C ok_Mo_undo lk_Lw_72 (o := 1) (by decide) rfl [] rfl rfl (Nat.le_of_ble_eq_true rfl) (by decide) (Nat.le_of_ble_eq_true rfl) d_law_549 (at1 hpc545.1 (K_Mo_undo (σ := u_545) (m := σ 1) hp hm )) (fun v_549 u_549 q_549 h_549 => ?_)
          obtain ⟨rfl, hmm549⟩ := h_549
          refine e_icmp_eq C 1041 d_law_552 (by decide) (by omega) (by omega) (fun c_552 => ?_) (fun c_552 => ?_)
          · have hj : JV (n + 1) u_549 := JV_nx (PI_nxUndo hp hn6) hpc545 hmm549
            first | skip
            refine e_iinc C d_law_1041 rfl (by decide) rfl ?_
            refine e_goto C 18 d_law_1044 (by decide) ?_
            rw [show 6 * n + 6 = 6 * (n + 1) by omega]
            first | exact ih (n + 1) _ (by omega) (by omega) (by omega) hj | exact ih (n + 1) σ (by omega) (by omega) (by omega) ⟨S, hp.mono hn6, hc.next, hm⟩
          · exact absurd rfl c_552
        · refine e_tableIn (off := 524) C 557 d_law_33 (z_iand_r _ _) (by omega) (by omega) (by rw [s_33_]; rfl) (by decide) ?_
          refine e_aload_n C d_law_557 rfl ?_
          refine e_aload_n C d_law_558 rfl ?_
          refine e_iload_n C d_law_559 rfl ?_
          refine e_iconst C d_law_560 ?_
          refine e_iadd C d_law_561 ?_
          refine e_sld C X hN (by omega) (by omega) d_law_562 (fun r_562 => ?_)
          refine e_callIV C ok_Sg_out lk_Lw_73 (o := 0) (by decide) rfl [_] rfl rfl (Nat.le_of_ble_eq_true rfl) (by decide) (Nat.le_of_ble_eq_true rfl) d_law_563 (K_Sg_out hp hc (by omega)) (fun v_563 u_563 q_563 h_563 => ?_)
          obtain ⟨rfl, hpc563⟩ := h_563
          refine e_aload_n C d_law_566 rfl ?_
          refine e_aload_n C d_law_567 rfl ?_
          refine e_iload_n C d_law_568 rfl ?_
          refine e_iconst C d_law_569 ?_
          refine e_iadd C d_law_570 ?_
          refine e_sld C X hN (by omega) (by omega) d_law_571 (fun r_571 => ?_)
          refine e_callIV C ok_Mo_out lk_Lw_76 (o := 1) (by decide) rfl [_] rfl rfl (Nat.le_of_ble_eq_true rfl) (by decide) (Nat.le_of_ble_eq_true rfl) d_law_572 (at1 hpc563.1 (K_Mo_out (σ := u_563) (m := σ 1) hp hm (by omega))) (fun v_572 u_572 q_572 h_572 => ?_)
          obtain ⟨rfl, hmm572⟩ := h_572
          refine e_icmp_eq C 1041 d_law_575 (by decide) (by omega) (by omega) (fun c_575 => ?_) (fun c_575 => ?_)
          · have hj : JV (n + 1) u_572 := JV_nx (hp.mono hn6) hpc563 hmm572
            first | skip
            refine e_iinc C d_law_1041 rfl (by decide) rfl ?_
            refine e_goto C 18 d_law_1044 (by decide) ?_
            rw [show 6 * n + 6 = 6 * (n + 1) by omega]
            first | exact ih (n + 1) _ (by omega) (by omega) (by omega) hj | exact ih (n + 1) σ (by omega) (by omega) (by omega) ⟨S, hp.mono hn6, hc.next, hm⟩
          · exact absurd rfl c_575
        · refine e_tableIn (off := 547) C 580 d_law_33 (z_iand_r _ _) (by omega) (by omega) (by rw [s_33_]; rfl) (by decide) ?_
          refine e_aload_n C d_law_580 rfl ?_
          refine e_callIV C ok_Sg_slept lk_Lw_77 (o := 0) (by decide) rfl [] rfl rfl (Nat.le_of_ble_eq_true rfl) (by decide) (Nat.le_of_ble_eq_true rfl) d_law_581 (K_Sg_slept hp hc) (fun v_581 u_581 q_581 h_581 => ?_)
          obtain ⟨rfl, hpc581⟩ := h_581
          refine e_aload_n C d_law_584 rfl ?_
          refine e_callIV C ok_Mo_slept lk_Lw_80 (o := 1) (by decide) rfl [] rfl rfl (Nat.le_of_ble_eq_true rfl) (by decide) (Nat.le_of_ble_eq_true rfl) d_law_585 (at1 hpc581.1 (K_Mo_slept (σ := u_581) (m := σ 1) hp hm )) (fun v_585 u_585 q_585 h_585 => ?_)
          obtain ⟨rfl, hmm585⟩ := h_585
          refine e_icmp_eq C 1041 d_law_588 (by decide) (by omega) (by omega) (fun c_588 => ?_) (fun c_588 => ?_)
          · have hj : JV (n + 1) u_585 := JV_nx (hp.mono hn6) hpc581 hmm585
            first | skip
            refine e_iinc C d_law_1041 rfl (by decide) rfl ?_
            refine e_goto C 18 d_law_1044 (by decide) ?_
            rw [show 6 * n + 6 = 6 * (n + 1) by omega]
            first | exact ih (n + 1) _ (by omega) (by omega) (by omega) hj | exact ih (n + 1) σ (by omega) (by omega) (by omega) ⟨S, hp.mono hn6, hc.next, hm⟩
          · exact absurd rfl c_588
        · refine e_tableIn (off := 560) C 593 d_law_33 (z_iand_r _ _) (by omega) (by omega) (by rw [s_33_]; rfl) (by decide) ?_
          refine e_aload_n C d_law_593 rfl ?_
          refine e_aload_n C d_law_594 rfl ?_
          refine e_iload_n C d_law_595 rfl ?_
          refine e_iconst C d_law_596 ?_
          refine e_iadd C d_law_597 ?_
          refine e_sld C X hN (by omega) (by omega) d_law_598 (fun r_598 => ?_)
          refine e_callIV C ok_Sg_dryFirst lk_Lw_81 (o := 0) (by decide) rfl [_] rfl rfl (Nat.le_of_ble_eq_true rfl) (by decide) (Nat.le_of_ble_eq_true rfl) d_law_599 (K_Sg_dryFirst hp hc (by omega)) (fun v_599 u_599 q_599 h_599 => ?_)
          obtain ⟨rfl, hpc599⟩ := h_599
          refine e_aload_n C d_law_602 rfl ?_
          refine e_aload_n C d_law_603 rfl ?_
          refine e_iload_n C d_law_604 rfl ?_
          refine e_iconst C d_law_605 ?_
          refine e_iadd C d_law_606 ?_
          refine e_sld C X hN (by omega) (by omega) d_law_607 (fun r_607 => ?_)
          refine e_callIV C ok_Mo_dryFirst lk_Lw_84 (o := 1) (by decide) rfl [_] rfl rfl (Nat.le_of_ble_eq_true rfl) (by decide) (Nat.le_of_ble_eq_true rfl) d_law_608 (at1 hpc599.1 (K_Mo_dryFirst (σ := u_599) (m := σ 1) hp hm (by omega))) (fun v_608 u_608 q_608 h_608 => ?_)
          obtain ⟨rfl, hmm608⟩ := h_608
          refine e_icmp_eq C 1041 d_law_611 (by decide) (by omega) (by omega) (fun c_611 => ?_) (fun c_611 => ?_)
          · have hj : JV (n + 1) u_608 := JV_nx (hp.mono hn6) hpc599 hmm608
            first | skip
            refine e_iinc C d_law_1041 rfl (by decide) rfl ?_
            refine e_goto C 18 d_law_1044 (by decide) ?_
            rw [show 6 * n + 6 = 6 * (n + 1) by omega]
            first | exact ih (n + 1) _ (by omega) (by omega) (by omega) hj | exact ih (n + 1) σ (by omega) (by omega) (by omega) ⟨S, hp.mono hn6, hc.next, hm⟩
          · exact absurd rfl c_611
        · refine e_tableIn (off := 583) C 616 d_law_33 (z_iand_r _ _) (by omega) (by omega) (by rw [s_33_]; rfl) (by decide) ?_
          refine e_aload_n C d_law_616 rfl ?_
          refine e_aload_n C d_law_617 rfl ?_
          refine e_iload_n C d_law_618 rfl ?_
          refine e_iconst C d_law_619 ?_
          refine e_iadd C d_law_620 ?_
          refine e_sld C X hN (by omega) (by omega) d_law_621 (fun r_621 => ?_)
          refine e_callIV C ok_Sg_dryTwo lk_Lw_85 (o := 0) (by decide) rfl [_] rfl rfl (Nat.le_of_ble_eq_true rfl) (by decide) (Nat.le_of_ble_eq_true rfl) d_law_622 (K_Sg_dryTwo hp hc (by omega)) (fun v_622 u_622 q_622 h_622 => ?_)
          obtain ⟨rfl, hpc622⟩ := h_622
          refine e_aload_n C d_law_625 rfl ?_
          refine e_aload_n C d_law_626 rfl ?_
          refine e_iload_n C d_law_627 rfl ?_
          refine e_iconst C d_law_628 ?_
          refine e_iadd C d_law_629 ?_
          refine e_sld C X hN (by omega) (by omega) d_law_630 (fun r_630 => ?_)
          refine e_callIV C ok_Mo_dryTwo lk_Lw_88 (o := 1) (by decide) rfl [_] rfl rfl (Nat.le_of_ble_eq_true rfl) (by decide) (Nat.le_of_ble_eq_true rfl) d_law_631 (at1 hpc622.1 (K_Mo_dryTwo (σ := u_622) (m := σ 1) hp hm (by omega))) (fun v_631 u_631 q_631 h_631 => ?_)
          obtain ⟨rfl, hmm631⟩ := h_631
          refine e_icmp_eq C 1041 d_law_634 (by decide) (by omega) (by omega) (fun c_634 => ?_) (fun c_634 => ?_)
          · have hj : JV (n + 1) u_631 := JV_nx (hp.mono hn6) hpc622 hmm631
            first | skip
            refine e_iinc C d_law_1041 rfl (by decide) rfl ?_
            refine e_goto C 18 d_law_1044 (by decide) ?_
            rw [show 6 * n + 6 = 6 * (n + 1) by omega]
            first | exact ih (n + 1) _ (by omega) (by omega) (by omega) hj | exact ih (n + 1) σ (by omega) (by omega) (by omega) ⟨S, hp.mono hn6, hc.next, hm⟩
          · exact absurd rfl c_634
        · refine e_tableIn (off := 606) C 639 d_law_33 (z_iand_r _ _) (by omega) (by omega) (by rw [s_33_]; rfl) (by decide) ?_
          refine e_aload_n C d_law_639 rfl ?_
          refine e_aload_n C d_law_640 rfl ?_
          refine e_iload_n C d_law_641 rfl ?_
          refine e_iconst C d_law_642 ?_
          refine e_iadd C d_law_643 ?_
          refine e_sld C X hN (by omega) (by omega) d_law_644 (fun r_644 => ?_)
          refine e_aload_n C d_law_645 rfl ?_
          refine e_iload_n C d_law_646 rfl ?_
          refine e_iconst C d_law_647 ?_
          refine e_iadd C d_law_648 ?_
          refine e_sld C X hN (by omega) (by omega) d_law_649 (fun r_649 => ?_)
          refine e_callIV C ok_Sg_bribe lk_Lw_89 (o := 0) (by decide) rfl [_, _] rfl rfl (Nat.le_of_ble_eq_true rfl) (by decide) (Nat.le_of_ble_eq_true rfl) d_law_650 (K_Sg_bribe hp hc (by omega) (by omega)) (fun v_650 u_650 q_650 h_650 => ?_)
          obtain ⟨rfl, hpc650⟩ := h_650
          refine e_aload_n C d_law_653 rfl ?_
          refine e_aload_n C d_law_654 rfl ?_
          refine e_iload_n C d_law_655 rfl ?_
          refine e_iconst C d_law_656 ?_
          refine e_iadd C d_law_657 ?_
          refine e_sld C X hN (by omega) (by omega) d_law_658 (fun r_658 => ?_)
          refine e_aload_n C d_law_659 rfl ?_
          refine e_iload_n C d_law_660 rfl ?_
          refine e_iconst C d_law_661 ?_
          refine e_iadd C d_law_662 ?_
          refine e_sld C X hN (by omega) (by omega) d_law_663 (fun r_663 => ?_)
          refine e_callIV C ok_Mo_bribe lk_Lw_92 (o := 1) (by decide) rfl [_, _] rfl rfl (Nat.le_of_ble_eq_true rfl) (by decide) (Nat.le_of_ble_eq_true rfl) d_law_664 (at1 hpc650.1 (K_Mo_bribe (σ := u_650) (m := σ 1) hp hm (by omega) (by omega))) (fun v_664 u_664 q_664 h_664 => ?_)
          obtain ⟨rfl, hmm664⟩ := h_664
          refine e_icmp_eq C 1041 d_law_667 (by decide) (by omega) (by omega) (fun c_667 => ?_) (fun c_667 => ?_)
          · have hj : JV (n + 1) u_664 := JV_nx (hp.mono hn6) hpc650 hmm664
            first | skip
            refine e_iinc C d_law_1041 rfl (by decide) rfl ?_
            refine e_goto C 18 d_law_1044 (by decide) ?_
            rw [show 6 * n + 6 = 6 * (n + 1) by omega]
            first | exact ih (n + 1) _ (by omega) (by omega) (by omega) hj | exact ih (n + 1) σ (by omega) (by omega) (by omega) ⟨S, hp.mono hn6, hc.next, hm⟩
          · exact absurd rfl c_667
        · refine e_tableIn (off := 639) C 672 d_law_33 (z_iand_r _ _) (by omega) (by omega) (by rw [s_33_]; rfl) (by decide) ?_
          refine e_aload_n C d_law_672 rfl ?_
          refine e_aload_n C d_law_673 rfl ?_
          refine e_iload_n C d_law_674 rfl ?_
          refine e_iconst C d_law_675 ?_
          refine e_iadd C d_law_676 ?_
          refine e_sld C X hN (by omega) (by omega) d_law_677 (fun r_677 => ?_)
          refine e_aload_n C d_law_678 rfl ?_
          refine e_iload_n C d_law_679 rfl ?_
          refine e_iconst C d_law_680 ?_
          refine e_iadd C d_law_681 ?_
          refine e_sld C X hN (by omega) (by omega) d_law_682 (fun r_682 => ?_)
          refine e_callIV C ok_Sg_weak lk_Lw_93 (o := 0) (by decide) rfl [_, _] rfl rfl (Nat.le_of_ble_eq_true rfl) (by decide) (Nat.le_of_ble_eq_true rfl) d_law_683 (K_Sg_weak hc (by omega) (by omega)) (fun v_683 u_683 q_683 h_683 => ?_)
          obtain ⟨rfl, hpc683⟩ := h_683
          refine e_aload_n C d_law_686 rfl ?_
          refine e_aload_n C d_law_687 rfl ?_
          refine e_iload_n C d_law_688 rfl ?_
          refine e_iconst C d_law_689 ?_
          refine e_iadd C d_law_690 ?_
          refine e_sld C X hN (by omega) (by omega) d_law_691 (fun r_691 => ?_)
          refine e_aload_n C d_law_692 rfl ?_
          refine e_iload_n C d_law_693 rfl ?_
          refine e_iconst C d_law_694 ?_
          refine e_iadd C d_law_695 ?_
          refine e_sld C X hN (by omega) (by omega) d_law_696 (fun r_696 => ?_)
          refine e_callIV C ok_Mo_weak lk_Lw_96 (o := 1) (by decide) rfl [_, _] rfl rfl (Nat.le_of_ble_eq_true rfl) (by decide) (Nat.le_of_ble_eq_true rfl) d_law_697 (at1 hpc683.1 (K_Mo_weak (σ := u_683) (m := σ 1) hp hm (by omega) (by omega))) (fun v_697 u_697 q_697 h_697 => ?_)
          obtain ⟨rfl, hmm697⟩ := h_697
          refine e_icmp_eq C 1041 d_law_700 (by decide) (by omega) (by omega) (fun c_700 => ?_) (fun c_700 => ?_)
          · have hj : JV (n + 1) u_697 := JV_nx (hp.mono hn6) hpc683 hmm697
            first | skip
            refine e_iinc C d_law_1041 rfl (by decide) rfl ?_
            refine e_goto C 18 d_law_1044 (by decide) ?_
            rw [show 6 * n + 6 = 6 * (n + 1) by omega]
            first | exact ih (n + 1) _ (by omega) (by omega) (by omega) hj | exact ih (n + 1) σ (by omega) (by omega) (by omega) ⟨S, hp.mono hn6, hc.next, hm⟩
          · exact absurd rfl c_700
        · refine e_tableIn (off := 672) C 705 d_law_33 (z_iand_r _ _) (by omega) (by omega) (by rw [s_33_]; rfl) (by decide) ?_
          refine e_aload_n C d_law_705 rfl ?_
          refine e_aload_n C d_law_706 rfl ?_
          refine e_iload_n C d_law_707 rfl ?_
          refine e_iconst C d_law_708 ?_
          refine e_iadd C d_law_709 ?_
          refine e_sld C X hN (by omega) (by omega) d_law_710 (fun r_710 => ?_)
          refine e_callIV C ok_Sg_never lk_Lw_97 (o := 0) (by decide) rfl [_] rfl rfl (Nat.le_of_ble_eq_true rfl) (by decide) (Nat.le_of_ble_eq_true rfl) d_law_711 (K_Sg_never hp hc (by omega)) (fun v_711 u_711 q_711 h_711 => ?_)
          obtain ⟨rfl, hpc711⟩ := h_711
          refine e_aload_n C d_law_714 rfl ?_
          refine e_aload_n C d_law_715 rfl ?_
          refine e_iload_n C d_law_716 rfl ?_
          refine e_iconst C d_law_717 ?_
          refine e_iadd C d_law_718 ?_
          refine e_sld C X hN (by omega) (by omega) d_law_719 (fun r_719 => ?_)
          refine e_callIV C ok_Mo_never lk_Lw_100 (o := 1) (by decide) rfl [_] rfl rfl (Nat.le_of_ble_eq_true rfl) (by decide) (Nat.le_of_ble_eq_true rfl) d_law_720 (at1 hpc711.1 (K_Mo_never (σ := u_711) (m := σ 1) hp hm (by omega))) (fun v_720 u_720 q_720 h_720 => ?_)
          obtain ⟨rfl, hmm720⟩ := h_720
          refine e_icmp_eq C 1041 d_law_723 (by decide) (by omega) (by omega) (fun c_723 => ?_) (fun c_723 => ?_)
          · have hj : JV (n + 1) u_720 := JV_nx (hp.mono hn6) hpc711 hmm720
            first | skip
            refine e_iinc C d_law_1041 rfl (by decide) rfl ?_
            refine e_goto C 18 d_law_1044 (by decide) ?_
            rw [show 6 * n + 6 = 6 * (n + 1) by omega]
            first | exact ih (n + 1) _ (by omega) (by omega) (by omega) hj | exact ih (n + 1) σ (by omega) (by omega) (by omega) ⟨S, hp.mono hn6, hc.next, hm⟩
          · exact absurd rfl c_723
        · refine e_tableIn (off := 695) C 728 d_law_33 (z_iand_r _ _) (by omega) (by omega) (by rw [s_33_]; rfl) (by decide) ?_
          refine e_aload_n C d_law_728 rfl ?_
          refine e_aload_n C d_law_729 rfl ?_
          refine e_iload_n C d_law_730 rfl ?_
          refine e_iconst C d_law_731 ?_
          refine e_iadd C d_law_732 ?_
          refine e_sld C X hN (by omega) (by omega) d_law_733 (fun r_733 => ?_)
          refine e_callIV C ok_Sg_spread lk_Lw_101 (o := 0) (by decide) rfl [_] rfl rfl (Nat.le_of_ble_eq_true rfl) (by decide) (Nat.le_of_ble_eq_true rfl) d_law_734 (K_Sg_spread hp hc (by omega)) (fun v_734 u_734 q_734 h_734 => ?_)
          obtain ⟨rfl, hpc734⟩ := h_734
          refine e_aload_n C d_law_737 rfl ?_
          refine e_aload_n C d_law_738 rfl ?_
          refine e_iload_n C d_law_739 rfl ?_
          refine e_iconst C d_law_740 ?_
          refine e_iadd C d_law_741 ?_
          refine e_sld C X hN (by omega) (by omega) d_law_742 (fun r_742 => ?_)
          refine e_callIV C ok_Mo_spread lk_Lw_104 (o := 1) (by decide) rfl [_] rfl rfl (Nat.le_of_ble_eq_true rfl) (by decide) (Nat.le_of_ble_eq_true rfl) d_law_743 (at1 hpc734.1 (K_Mo_spread (σ := u_734) (m := σ 1) hp hm (by omega))) (fun v_743 u_743 q_743 h_743 => ?_)
          obtain ⟨rfl, hmm743⟩ := h_743
          refine e_icmp_eq C 1041 d_law_746 (by decide) (by omega) (by omega) (fun c_746 => ?_) (fun c_746 => ?_)
          · have hj : JV (n + 1) u_743 := JV_nx (hp.mono hn6) hpc734 hmm743
            first | skip
            refine e_iinc C d_law_1041 rfl (by decide) rfl ?_
            refine e_goto C 18 d_law_1044 (by decide) ?_
            rw [show 6 * n + 6 = 6 * (n + 1) by omega]
            first | exact ih (n + 1) _ (by omega) (by omega) (by omega) hj | exact ih (n + 1) σ (by omega) (by omega) (by omega) ⟨S, hp.mono hn6, hc.next, hm⟩
          · exact absurd rfl c_746
        · refine e_tableIn (off := 718) C 751 d_law_33 (z_iand_r _ _) (by omega) (by omega) (by rw [s_33_]; rfl) (by decide) ?_
          refine e_aload_n C d_law_751 rfl ?_
          refine e_aload_n C d_law_752 rfl ?_
          refine e_iload_n C d_law_753 rfl ?_
          refine e_iconst C d_law_754 ?_
          refine e_iadd C d_law_755 ?_
          refine e_sld C X hN (by omega) (by omega) d_law_756 (fun r_756 => ?_)
          refine e_aload_n C d_law_757 rfl ?_
          refine e_iload_n C d_law_758 rfl ?_
          refine e_iconst C d_law_759 ?_
          refine e_iadd C d_law_760 ?_
          refine e_sld C X hN (by omega) (by omega) d_law_761 (fun r_761 => ?_)
          refine e_callIV C ok_Sg_shakeWorst lk_Lw_105 (o := 0) (by decide) rfl [_, _] rfl rfl (Nat.le_of_ble_eq_true rfl) (by decide) (Nat.le_of_ble_eq_true rfl) d_law_762 (K_Sg_shakeWorst hp hc (by omega) (by omega)) (fun v_762 u_762 q_762 h_762 => ?_)
          obtain ⟨rfl, hpc762⟩ := h_762
          refine e_aload_n C d_law_765 rfl ?_
          refine e_aload_n C d_law_766 rfl ?_
          refine e_iload_n C d_law_767 rfl ?_
          refine e_iconst C d_law_768 ?_
          refine e_iadd C d_law_769 ?_
          refine e_sld C X hN (by omega) (by omega) d_law_770 (fun r_770 => ?_)
          refine e_aload_n C d_law_771 rfl ?_
          refine e_iload_n C d_law_772 rfl ?_
          refine e_iconst C d_law_773 ?_
          refine e_iadd C d_law_774 ?_
          refine e_sld C X hN (by omega) (by omega) d_law_775 (fun r_775 => ?_)
          refine e_callIV C ok_Mo_shakeWorst lk_Lw_108 (o := 1) (by decide) rfl [_, _] rfl rfl (Nat.le_of_ble_eq_true rfl) (by decide) (Nat.le_of_ble_eq_true rfl) d_law_776 (at1 hpc762.1 (K_Mo_shakeWorst (σ := u_762) (m := σ 1) hp hm (by omega) (by omega))) (fun v_776 u_776 q_776 h_776 => ?_)
          obtain ⟨rfl, hmm776⟩ := h_776
          refine e_icmp_eq C 1041 d_law_779 (by decide) (by omega) (by omega) (fun c_779 => ?_) (fun c_779 => ?_)
          · have hj : JV (n + 1) u_776 := JV_nx (hp.mono hn6) hpc762 hmm776
            first | skip
            refine e_iinc C d_law_1041 rfl (by decide) rfl ?_
            refine e_goto C 18 d_law_1044 (by decide) ?_
            rw [show 6 * n + 6 = 6 * (n + 1) by omega]
            first | exact ih (n + 1) _ (by omega) (by omega) (by omega) hj | exact ih (n + 1) σ (by omega) (by omega) (by omega) ⟨S, hp.mono hn6, hc.next, hm⟩
          · exact absurd rfl c_779
        · refine e_tableIn (off := 751) C 784 d_law_33 (z_iand_r _ _) (by omega) (by omega) (by rw [s_33_]; rfl) (by decide) ?_
          refine e_aload_n C d_law_784 rfl ?_
          refine e_aload_n C d_law_785 rfl ?_
          refine e_iload_n C d_law_786 rfl ?_
          refine e_iconst C d_law_787 ?_
          refine e_iadd C d_law_788 ?_
          refine e_sld C X hN (by omega) (by omega) d_law_789 (fun r_789 => ?_)
          refine e_callIV C ok_Sg_longest lk_Lw_109 (o := 0) (by decide) rfl [_] rfl rfl (Nat.le_of_ble_eq_true rfl) (by decide) (Nat.le_of_ble_eq_true rfl) d_law_790 (K_Sg_longest hp hc (by omega)) (fun v_790 u_790 q_790 h_790 => ?_)
          obtain ⟨rfl, hpc790⟩ := h_790
          refine e_aload_n C d_law_793 rfl ?_
          refine e_aload_n C d_law_794 rfl ?_
          refine e_iload_n C d_law_795 rfl ?_
          refine e_iconst C d_law_796 ?_
          refine e_iadd C d_law_797 ?_
          refine e_sld C X hN (by omega) (by omega) d_law_798 (fun r_798 => ?_)
          refine e_callIV C ok_Mo_longest lk_Lw_112 (o := 1) (by decide) rfl [_] rfl rfl (Nat.le_of_ble_eq_true rfl) (by decide) (Nat.le_of_ble_eq_true rfl) d_law_799 (at1 hpc790.1 (K_Mo_longest (σ := u_790) (m := σ 1) hp hm (by omega))) (fun v_799 u_799 q_799 h_799 => ?_)
          obtain ⟨rfl, hmm799⟩ := h_799
          refine e_icmp_eq C 1041 d_law_802 (by decide) (by omega) (by omega) (fun c_802 => ?_) (fun c_802 => ?_)
          · have hj : JV (n + 1) u_799 := JV_nx (hp.mono hn6) hpc790 hmm799
            first | skip
            refine e_iinc C d_law_1041 rfl (by decide) rfl ?_
            refine e_goto C 18 d_law_1044 (by decide) ?_
            rw [show 6 * n + 6 = 6 * (n + 1) by omega]
            first | exact ih (n + 1) _ (by omega) (by omega) (by omega) hj | exact ih (n + 1) σ (by omega) (by omega) (by omega) ⟨S, hp.mono hn6, hc.next, hm⟩
          · exact absurd rfl c_802
        · refine e_tableIn (off := 774) C 807 d_law_33 (z_iand_r _ _) (by omega) (by omega) (by rw [s_33_]; rfl) (by decide) ?_
          refine e_aload_n C d_law_807 rfl ?_
          refine e_aload_n C d_law_808 rfl ?_
          refine e_iload_n C d_law_809 rfl ?_
          refine e_iconst C d_law_810 ?_
          refine e_iadd C d_law_811 ?_
          refine e_sld C X hN (by omega) (by omega) d_law_812 (fun r_812 => ?_)
          refine e_aload_n C d_law_813 rfl ?_
          refine e_iload_n C d_law_814 rfl ?_
          refine e_iconst C d_law_815 ?_
          refine e_iadd C d_law_816 ?_
          refine e_sld C X hN (by omega) (by omega) d_law_817 (fun r_817 => ?_)
          refine e_aload_n C d_law_818 rfl ?_
          refine e_iload_n C d_law_819 rfl ?_
          refine e_iconst C d_law_820 ?_
          refine e_iadd C d_law_821 ?_
          refine e_sld C X hN (by omega) (by omega) d_law_822 (fun r_822 => ?_)
          refine e_callIV C ok_Sg_rests lk_Lw_113 (o := 0) (by decide) rfl [_, _, _] rfl rfl (Nat.le_of_ble_eq_true rfl) (by decide) (Nat.le_of_ble_eq_true rfl) d_law_823 (K_Sg_rests hp hc (by omega) (by omega) (by omega)) (fun v_823 u_823 q_823 h_823 => ?_)
          obtain ⟨rfl, hpc823⟩ := h_823
          refine e_aload_n C d_law_826 rfl ?_
          refine e_aload_n C d_law_827 rfl ?_
          refine e_iload_n C d_law_828 rfl ?_
          refine e_iconst C d_law_829 ?_
          refine e_iadd C d_law_830 ?_
          refine e_sld C X hN (by omega) (by omega) d_law_831 (fun r_831 => ?_)
          refine e_aload_n C d_law_832 rfl ?_
          refine e_iload_n C d_law_833 rfl ?_
          refine e_iconst C d_law_834 ?_
          refine e_iadd C d_law_835 ?_
          refine e_sld C X hN (by omega) (by omega) d_law_836 (fun r_836 => ?_)
          refine e_aload_n C d_law_837 rfl ?_
          refine e_iload_n C d_law_838 rfl ?_
          refine e_iconst C d_law_839 ?_
          refine e_iadd C d_law_840 ?_
          refine e_sld C X hN (by omega) (by omega) d_law_841 (fun r_841 => ?_)
          refine e_callIV C ok_Mo_rests lk_Lw_117 (o := 1) (by decide) rfl [_, _, _] rfl rfl (Nat.le_of_ble_eq_true rfl) (by decide) (Nat.le_of_ble_eq_true rfl) d_law_842 (at1 hpc823.1 (K_Mo_rests (σ := u_823) (m := σ 1) hp hm (by omega) (by omega) (by omega))) (fun v_842 u_842 q_842 h_842 => ?_)
          obtain ⟨rfl, hmm842⟩ := h_842
          refine e_icmp_eq C 1041 d_law_845 (by decide) (by omega) (by omega) (fun c_845 => ?_) (fun c_845 => ?_)
          · have hj : JV (n + 1) u_842 := JV_nx (hp.mono hn6) hpc823 hmm842
            first | skip
            refine e_iinc C d_law_1041 rfl (by decide) rfl ?_
            refine e_goto C 18 d_law_1044 (by decide) ?_
            rw [show 6 * n + 6 = 6 * (n + 1) by omega]
            first | exact ih (n + 1) _ (by omega) (by omega) (by omega) hj | exact ih (n + 1) σ (by omega) (by omega) (by omega) ⟨S, hp.mono hn6, hc.next, hm⟩
          · exact absurd rfl c_845
        · refine e_tableIn (off := 817) C 850 d_law_33 (z_iand_r _ _) (by omega) (by omega) (by rw [s_33_]; rfl) (by decide) ?_
          refine e_aload_n C d_law_850 rfl ?_
          refine e_aload_n C d_law_851 rfl ?_
          refine e_iload_n C d_law_852 rfl ?_
          refine e_iconst C d_law_853 ?_
          refine e_iadd C d_law_854 ?_
          refine e_sld C X hN (by omega) (by omega) d_law_855 (fun r_855 => ?_)
          refine e_aload_n C d_law_856 rfl ?_
          refine e_iload_n C d_law_857 rfl ?_
          refine e_iconst C d_law_858 ?_
          refine e_iadd C d_law_859 ?_
          refine e_sld C X hN (by omega) (by omega) d_law_860 (fun r_860 => ?_)
          refine e_callIV C ok_Sg_where lk_Lw_118 (o := 0) (by decide) rfl [_, _] rfl rfl (Nat.le_of_ble_eq_true rfl) (by decide) (Nat.le_of_ble_eq_true rfl) d_law_861 (K_Sg_where hp hc (by omega) (by omega)) (fun v_861 u_861 q_861 h_861 => ?_)
          obtain ⟨rfl, hpc861⟩ := h_861
          refine e_aload_n C d_law_864 rfl ?_
          refine e_aload_n C d_law_865 rfl ?_
          refine e_iload_n C d_law_866 rfl ?_
          refine e_iconst C d_law_867 ?_
          refine e_iadd C d_law_868 ?_
          refine e_sld C X hN (by omega) (by omega) d_law_869 (fun r_869 => ?_)
          refine e_aload_n C d_law_870 rfl ?_
          refine e_iload_n C d_law_871 rfl ?_
          refine e_iconst C d_law_872 ?_
          refine e_iadd C d_law_873 ?_
          refine e_sld C X hN (by omega) (by omega) d_law_874 (fun r_874 => ?_)
          refine e_callIV C ok_Mo_where lk_Lw_121 (o := 1) (by decide) rfl [_, _] rfl rfl (Nat.le_of_ble_eq_true rfl) (by decide) (Nat.le_of_ble_eq_true rfl) d_law_875 (at1 hpc861.1 (K_Mo_where (σ := u_861) (m := σ 1) hp hm (by omega) (by omega))) (fun v_875 u_875 q_875 h_875 => ?_)
          obtain ⟨rfl, hmm875⟩ := h_875
          refine e_icmp_eq C 1041 d_law_878 (by decide) (by omega) (by omega) (fun c_878 => ?_) (fun c_878 => ?_)
          · have hj : JV (n + 1) u_875 := JV_nx (hp.mono hn6) hpc861 hmm875
            first | skip
            refine e_iinc C d_law_1041 rfl (by decide) rfl ?_
            refine e_goto C 18 d_law_1044 (by decide) ?_
            rw [show 6 * n + 6 = 6 * (n + 1) by omega]
            first | exact ih (n + 1) _ (by omega) (by omega) (by omega) hj | exact ih (n + 1) σ (by omega) (by omega) (by omega) ⟨S, hp.mono hn6, hc.next, hm⟩
          · exact absurd rfl c_878
        · refine e_tableIn (off := 850) C 883 d_law_33 (z_iand_r _ _) (by omega) (by omega) (by rw [s_33_]; rfl) (by decide) ?_
          refine e_aload_n C d_law_883 rfl ?_
          refine e_aload_n C d_law_884 rfl ?_
          refine e_iload_n C d_law_885 rfl ?_
          refine e_iconst C d_law_886 ?_
          refine e_iadd C d_law_887 ?_
          refine e_sld C X hN (by omega) (by omega) d_law_888 (fun r_888 => ?_)
          refine e_aload_n C d_law_889 rfl ?_
          refine e_iload_n C d_law_890 rfl ?_
          refine e_iconst C d_law_891 ?_
          refine e_iadd C d_law_892 ?_
          refine e_sld C X hN (by omega) (by omega) d_law_893 (fun r_893 => ?_)
          refine e_callIV C ok_Sg_tell lk_Lw_122 (o := 0) (by decide) rfl [_, _] rfl rfl (Nat.le_of_ble_eq_true rfl) (by decide) (Nat.le_of_ble_eq_true rfl) d_law_894 (K_Sg_tell hp hc (by omega) (by omega)) (fun v_894 u_894 q_894 h_894 => ?_)
          obtain ⟨rfl, hpc894⟩ := h_894
          refine e_aload_n C d_law_897 rfl ?_
          refine e_aload_n C d_law_898 rfl ?_
          refine e_iload_n C d_law_899 rfl ?_
          refine e_iconst C d_law_900 ?_
          refine e_iadd C d_law_901 ?_
          refine e_sld C X hN (by omega) (by omega) d_law_902 (fun r_902 => ?_)
          refine e_aload_n C d_law_903 rfl ?_
          refine e_iload_n C d_law_904 rfl ?_
          refine e_iconst C d_law_905 ?_
          refine e_iadd C d_law_906 ?_
          refine e_sld C X hN (by omega) (by omega) d_law_907 (fun r_907 => ?_)
          refine e_callIV C ok_Mo_tell_ lk_Lw_125 (o := 1) (by decide) rfl [_, _] rfl rfl (Nat.le_of_ble_eq_true rfl) (by decide) (Nat.le_of_ble_eq_true rfl) d_law_908 (at1 hpc894.1 (K_Mo_tell (σ := u_894) (m := σ 1) hp hm (by omega) (by omega))) (fun v_908 u_908 q_908 h_908 => ?_)
          obtain ⟨rfl, hmm908⟩ := h_908
          refine e_icmp_eq C 1041 d_law_911 (by decide) (by omega) (by omega) (fun c_911 => ?_) (fun c_911 => ?_)
          · have hj : JV (n + 1) u_908 := JV_nx (PI_nxTell hp hn6) hpc894 hmm908
            first | skip
            refine e_iinc C d_law_1041 rfl (by decide) rfl ?_
            refine e_goto C 18 d_law_1044 (by decide) ?_
            rw [show 6 * n + 6 = 6 * (n + 1) by omega]
            first | exact ih (n + 1) _ (by omega) (by omega) (by omega) hj | exact ih (n + 1) σ (by omega) (by omega) (by omega) ⟨S, hp.mono hn6, hc.next, hm⟩
          · exact absurd rfl c_911
        · refine e_tableIn (off := 883) C 916 d_law_33 (z_iand_r _ _) (by omega) (by omega) (by rw [s_33_]; rfl) (by decide) ?_
          refine e_aload_n C d_law_916 rfl ?_
          refine e_callIV C ok_Sg_forget lk_Lw_126 (o := 0) (by decide) rfl [] rfl rfl (Nat.le_of_ble_eq_true rfl) (by decide) (Nat.le_of_ble_eq_true rfl) d_law_917 (K_Sg_forget hp hc) (fun v_917 u_917 q_917 h_917 => ?_)
          obtain ⟨rfl, hpc917⟩ := h_917
          refine e_aload_n C d_law_920 rfl ?_
          refine e_callIV C ok_Mo_forget lk_Lw_129 (o := 1) (by decide) rfl [] rfl rfl (Nat.le_of_ble_eq_true rfl) (by decide) (Nat.le_of_ble_eq_true rfl) d_law_921 (at1 hpc917.1 (K_Mo_forget (σ := u_917) (m := σ 1) hp hm )) (fun v_921 u_921 q_921 h_921 => ?_)
          obtain ⟨rfl, hmm921⟩ := h_921
          refine e_icmp_eq C 1041 d_law_924 (by decide) (by omega) (by omega) (fun c_924 => ?_) (fun c_924 => ?_)
          · have hj : JV (n + 1) u_921 := JV_nx (PI_fo hp hn6) hpc917 hmm921
            first | skip
            refine e_iinc C d_law_1041 rfl (by decide) rfl ?_
            refine e_goto C 18 d_law_1044 (by decide) ?_
            rw [show 6 * n + 6 = 6 * (n + 1) by omega]
            first | exact ih (n + 1) _ (by omega) (by omega) (by omega) hj | exact ih (n + 1) σ (by omega) (by omega) (by omega) ⟨S, hp.mono hn6, hc.next, hm⟩
          · exact absurd rfl c_924
        · refine e_tableIn (off := 896) C 929 d_law_33 (z_iand_r _ _) (by omega) (by omega) (by rw [s_33_]; rfl) (by decide) ?_
          refine e_aload_n C d_law_929 rfl ?_
          refine e_aload_n C d_law_930 rfl ?_
          refine e_iload_n C d_law_931 rfl ?_
          refine e_iconst C d_law_932 ?_
          refine e_iadd C d_law_933 ?_
          refine e_sld C X hN (by omega) (by omega) d_law_934 (fun r_934 => ?_)
          refine e_aload_n C d_law_935 rfl ?_
          refine e_iload_n C d_law_936 rfl ?_
          refine e_iconst C d_law_937 ?_
          refine e_iadd C d_law_938 ?_
          refine e_sld C X hN (by omega) (by omega) d_law_939 (fun r_939 => ?_)
          refine e_aload_n C d_law_940 rfl ?_
          refine e_iload_n C d_law_941 rfl ?_
          refine e_iconst C d_law_942 ?_
          refine e_iadd C d_law_943 ?_
          refine e_sld C X hN (by omega) (by omega) d_law_944 (fun r_944 => ?_)
          refine e_callIV C ok_Sg_tampered lk_Lw_130 (o := 0) (by decide) rfl [_, _, _] rfl rfl (Nat.le_of_ble_eq_true rfl) (by decide) (Nat.le_of_ble_eq_true rfl) d_law_945 (K_Sg_tampered hp hc (by omega) (by omega) (by omega)) (fun v_945 u_945 q_945 h_945 => ?_)
          obtain ⟨rfl, hpc945⟩ := h_945
          refine e_aload_n C d_law_948 rfl ?_
          refine e_aload_n C d_law_949 rfl ?_
          refine e_iload_n C d_law_950 rfl ?_
          refine e_iconst C d_law_951 ?_
          refine e_iadd C d_law_952 ?_
          refine e_sld C X hN (by omega) (by omega) d_law_953 (fun r_953 => ?_)
          refine e_aload_n C d_law_954 rfl ?_
          refine e_iload_n C d_law_955 rfl ?_
          refine e_iconst C d_law_956 ?_
          refine e_iadd C d_law_957 ?_
          refine e_sld C X hN (by omega) (by omega) d_law_958 (fun r_958 => ?_)
          refine e_aload_n C d_law_959 rfl ?_
          refine e_iload_n C d_law_960 rfl ?_
          refine e_iconst C d_law_961 ?_
          refine e_iadd C d_law_962 ?_
          refine e_sld C X hN (by omega) (by omega) d_law_963 (fun r_963 => ?_)
          refine e_callIV C ok_Mo_tampered lk_Lw_133 (o := 1) (by decide) rfl [_, _, _] rfl rfl (Nat.le_of_ble_eq_true rfl) (by decide) (Nat.le_of_ble_eq_true rfl) d_law_964 (at1 hpc945.1 (K_Mo_tampered (σ := u_945) (m := σ 1) hp hm (by omega) (by omega) (by omega))) (fun v_964 u_964 q_964 h_964 => ?_)
          obtain ⟨rfl, hmm964⟩ := h_964
          refine e_icmp_eq C 1041 d_law_967 (by decide) (by omega) (by omega) (fun c_967 => ?_) (fun c_967 => ?_)
          · have hj : JV (n + 1) u_964 := JV_nx (hp.mono hn6) hpc945 hmm964
            first | skip
            refine e_iinc C d_law_1041 rfl (by decide) rfl ?_
            refine e_goto C 18 d_law_1044 (by decide) ?_
            rw [show 6 * n + 6 = 6 * (n + 1) by omega]
            first | exact ih (n + 1) _ (by omega) (by omega) (by omega) hj | exact ih (n + 1) σ (by omega) (by omega) (by omega) ⟨S, hp.mono hn6, hc.next, hm⟩
          · exact absurd rfl c_967
        · refine e_tableIn (off := 939) C 972 d_law_33 (z_iand_r _ _) (by omega) (by omega) (by rw [s_33_]; rfl) (by decide) ?_
          refine e_aload_n C d_law_972 rfl ?_
          refine e_aload_n C d_law_973 rfl ?_
          refine e_iload_n C d_law_974 rfl ?_
          refine e_iconst C d_law_975 ?_
          refine e_iadd C d_law_976 ?_
          refine e_sld C X hN (by omega) (by omega) d_law_977 (fun r_977 => ?_)
          refine e_callIV C ok_Sg_hold lk_Lw_134 (o := 0) (by decide) rfl [_] rfl rfl (Nat.le_of_ble_eq_true rfl) (by decide) (Nat.le_of_ble_eq_true rfl) d_law_978 (K_Sg_hold hp hc (by omega)) (fun v_978 u_978 q_978 h_978 => ?_)
          obtain ⟨rfl, hpc978⟩ := h_978
          refine e_aload_n C d_law_981 rfl ?_
          refine e_aload_n C d_law_982 rfl ?_
          refine e_iload_n C d_law_983 rfl ?_
          refine e_iconst C d_law_984 ?_
          refine e_iadd C d_law_985 ?_
          refine e_sld C X hN (by omega) (by omega) d_law_986 (fun r_986 => ?_)
          refine e_callIV C ok_Mo_hold lk_Lw_137 (o := 1) (by decide) rfl [_] rfl rfl (Nat.le_of_ble_eq_true rfl) (by decide) (Nat.le_of_ble_eq_true rfl) d_law_987 (at1 hpc978.1 (K_Mo_hold (σ := u_978) (m := σ 1) hp hm (by omega))) (fun v_987 u_987 q_987 h_987 => ?_)
          obtain ⟨rfl, hmm987⟩ := h_987
          refine e_icmp_eq C 1041 d_law_990 (by decide) (by omega) (by omega) (fun c_990 => ?_) (fun c_990 => ?_)
          · have hj : JV (n + 1) u_987 := JV_nx (PI_nxHold hp hn6) hpc978 hmm987
            first | skip
            refine e_iinc C d_law_1041 rfl (by decide) rfl ?_
            refine e_goto C 18 d_law_1044 (by decide) ?_
            rw [show 6 * n + 6 = 6 * (n + 1) by omega]
            first | exact ih (n + 1) _ (by omega) (by omega) (by omega) hj | exact ih (n + 1) σ (by omega) (by omega) (by omega) ⟨S, hp.mono hn6, hc.next, hm⟩
          · exact absurd rfl c_990
        · refine e_tableIn (off := 962) C 995 d_law_33 (z_iand_r _ _) (by omega) (by omega) (by rw [s_33_]; rfl) (by decide) ?_
          refine e_aload_n C d_law_995 rfl ?_
          refine e_aload_n C d_law_996 rfl ?_
          refine e_iload_n C d_law_997 rfl ?_
          refine e_iconst C d_law_998 ?_
          refine e_iadd C d_law_999 ?_
          refine e_sld C X hN (by omega) (by omega) d_law_1000 (fun r_1000 => ?_)
          refine e_callIV C ok_Sg_restore lk_Lw_138 (o := 0) (by decide) rfl [_] rfl rfl (Nat.le_of_ble_eq_true rfl) (by decide) (Nat.le_of_ble_eq_true rfl) d_law_1001 (K_Sg_restore hp hc (by omega)) (fun v_1001 u_1001 q_1001 h_1001 => ?_)
          obtain ⟨rfl, hpc1001⟩ := h_1001
          refine e_aload_n C d_law_1004 rfl ?_
          refine e_aload_n C d_law_1005 rfl ?_
          refine e_iload_n C d_law_1006 rfl ?_
          refine e_iconst C d_law_1007 ?_
          refine e_iadd C d_law_1008 ?_
          refine e_sld C X hN (by omega) (by omega) d_law_1009 (fun r_1009 => ?_)
          refine e_callIV C ok_Mo_restore lk_Lw_141 (o := 1) (by decide) rfl [_] rfl rfl (Nat.le_of_ble_eq_true rfl) (by decide) (Nat.le_of_ble_eq_true rfl) d_law_1010 (at1 hpc1001.1 (K_Mo_restore (σ := u_1001) (m := σ 1) hp hm (by omega))) (fun v_1010 u_1010 q_1010 h_1010 => ?_)
          obtain ⟨rfl, hmm1010⟩ := h_1010
          refine e_icmp_eq C 1041 d_law_1013 (by decide) (by omega) (by omega) (fun c_1013 => ?_) (fun c_1013 => ?_)
          · have hj : JV (n + 1) u_1010 := JV_nx (PI_nxRe hp hn6) hpc1001 hmm1010
            first | skip
            refine e_iinc C d_law_1041 rfl (by decide) rfl ?_
            refine e_goto C 18 d_law_1044 (by decide) ?_
            rw [show 6 * n + 6 = 6 * (n + 1) by omega]
            first | exact ih (n + 1) _ (by omega) (by omega) (by omega) hj | exact ih (n + 1) σ (by omega) (by omega) (by omega) ⟨S, hp.mono hn6, hc.next, hm⟩
          · exact absurd rfl c_1013
        · refine e_tableIn (off := 985) C 1018 d_law_33 (z_iand_r _ _) (by omega) (by omega) (by rw [s_33_]; rfl) (by decide) ?_
          refine e_aload_n C d_law_1018 rfl ?_
          refine e_aload_n C d_law_1019 rfl ?_
          refine e_iload_n C d_law_1020 rfl ?_
          refine e_iconst C d_law_1021 ?_
          refine e_iadd C d_law_1022 ?_
          refine e_sld C X hN (by omega) (by omega) d_law_1023 (fun r_1023 => ?_)
          refine e_callIV C ok_Sg_count lk_Lw_142 (o := 0) (by decide) rfl [_] rfl rfl (Nat.le_of_ble_eq_true rfl) (by decide) (Nat.le_of_ble_eq_true rfl) d_law_1024 (K_Sg_count hp hc (by omega)) (fun v_1024 u_1024 q_1024 h_1024 => ?_)
          obtain ⟨rfl, hpc1024⟩ := h_1024
          refine e_aload_n C d_law_1027 rfl ?_
          refine e_aload_n C d_law_1028 rfl ?_
          refine e_iload_n C d_law_1029 rfl ?_
          refine e_iconst C d_law_1030 ?_
          refine e_iadd C d_law_1031 ?_
          refine e_sld C X hN (by omega) (by omega) d_law_1032 (fun r_1032 => ?_)
          refine e_callIV C ok_Mo_count lk_Lw_145 (o := 1) (by decide) rfl [_] rfl rfl (Nat.le_of_ble_eq_true rfl) (by decide) (Nat.le_of_ble_eq_true rfl) d_law_1033 (at1 hpc1024.1 (K_Mo_count (σ := u_1024) (m := σ 1) hp hm (by omega))) (fun v_1033 u_1033 q_1033 h_1033 => ?_)
          obtain ⟨rfl, hmm1033⟩ := h_1033
          refine e_icmp_eq C 1041 d_law_1036 (by decide) (by omega) (by omega) (fun c_1036 => ?_) (fun c_1036 => ?_)
          · have hj : JV (n + 1) u_1033 := JV_nx (hp.mono hn6) hpc1024 hmm1033
            first | skip
            refine e_iinc C d_law_1041 rfl (by decide) rfl ?_
            refine e_goto C 18 d_law_1044 (by decide) ?_
            rw [show 6 * n + 6 = 6 * (n + 1) by omega]
            first | exact ih (n + 1) _ (by omega) (by omega) (by omega) hj | exact ih (n + 1) σ (by omega) (by omega) (by omega) ⟨S, hp.mono hn6, hc.next, hm⟩
          · exact absurd rfl c_1036
