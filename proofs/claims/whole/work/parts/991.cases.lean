/-! The cases of the law. -/
theorem gu_SW {c c' : Cond} {own : String} {idx : Nat} {y : MethodName} (h1 : .methodLink own idx y ∈ BW) (h2 : .static y ∈ BW) (h3 : .initialized y.cls ∈ BW) (h : c' ∈ BW) : GoodIn (c :: BW) (va_wsS own idx y (c' :: BW)) := by
  intro w hw
  unfold va_wsS at hw
  rcases List.mem_append.mp hw with h5 | h5
  · simp only [List.mem_cons, List.not_mem_nil, or_false] at h5
    rcases h5 with rfl | rfl | rfl
    · exact BW_g h1
    · exact BW_g h2
    · exact BW_g h3
  · exact gu_m h w h5
theorem cmp_rf (x : Int64) : lg_cmp x x = 0 := by
  unfold lg_cmp
  rw [if_neg (fun h => Int64.lt_irrefl h), if_pos rfl]
theorem law_hts {b : Nat} {s : State} (hts : ∀ w ∈ lw_tbl, w.before #[Value.ref b] s = true) : ∀ w ∈ (Cond.initialized RL :: BW), w.before #[Value.ref b] s = true := fun w hw => hts w (tb_BW w ((List.mem_cons.mp hw).elim (fun e => e ▸ mw_551) id))
theorem U_norm {M : Fin 20 → Nat → Int32} {E : Nat → Int32} {P : Nat → Fin 20} {C N : Nat → Int32} {kk : Int32} {mn : Int64} {md rw dg : Nat → Int32} {kn fc : Int32} {oft : Nat → Int32} (hI : INV M E P C N kk mn md rw dg kn fc oft) (th p0 : Int32) {fu : Nat} (hfu : 20000000 ≤ fu) : ∃ w M' rw' dg', INV M' E P C N kk mn md rw' dg' kn fc oft ∧ f_X4_norm fu M E p0 = some (w, M') ∧ f_X5_norm fu th kk md rw dg p0 = some (w, 0, rw', dg') := by
  obtain ⟨K, R, _, _, cd, q, k, T, cf, deg, mon, X, Cc, Kl, D', F, f, h⟩ := hI
  obtain ⟨w, M', rw', dg', a1, a2, h'⟩ := S_norm h th p0 (show 64 ≤ fu by omega)
  exact ⟨w, M', rw', dg', ⟨K, R, _, _, cd, q, k, T, cf, deg, mon, X, Cc, Kl, D', F, f, h'⟩, a1, a2⟩
set_option maxHeartbeats 4000000 in
set_option maxRecDepth 100000 in
theorem LC_field {p : Program} {l : Launch} {e : Env} {s : State} {m : MethodId} {below : List Frame} {meth : Method} {c : Code} {b L : Nat} {xs : Nat → Int32} (hst : l.stackTraces = false) (hL : L ≤ 4096) (C0 : lw_At p s m meth c b L xs) {D : va_G} {cI cR cL : ClassId} (hK : va_K D vwCl [(cI, .int), (cR, .object RX2), (cL, .long)] s) (hN : nw_ok nw1 s) (hT : ts_ok (fun q : Nat => s.heap.size ≤ q) s s.heap) (hc : nc_ok s) {adC adR : Nat → Nat} {o : Nat} (hW : LW s adC adR o) {M : Fin 20 → Nat → Int32} {E : Nat → Int32} {P : Nat → Fin 20} {C N : Nat → Int32} {th kk : Int32} {mn : Int64} {md rw dg : Nat → Int32} {kn fc : Int32} {oft : Nat → Int32} (hI : INV M E P C N kk mn md rw dg kn fc oft) {i : Nat} (hi : i + 8 ≤ L) {H : Heap} {locs : List Loc} {ls : Array Slot} {cells slots : Nat} (hcell : cells + 1 ≤ 636428) (hslot : slots + 6 ≤ 7186819) (hH : LH D cI cR cL adC adR o (cellC cI cR adC M E P C N) th kk mn md rw dg kn fc oft H) (hS : va_S (fun q : Nat => s.heap.size ≤ q) s.heap H locs) (hl : lv_has ls 7 [(0, .ref b), (1, .ref (adC 45)), (2, .ref (adR 0)), (3, .ref o), (4, .int (nI i))]) {Q : State → Prop} (kn0 : ∀ (M : Fin 20 → Nat → Int32) (E : Nat → Int32) (P : Nat → Fin 20) (C N : Nat → Int32) (th kk : Int32) (mn : Int64) (md rw dg : Nat → Int32) (kn fc : Int32) (oft : Nat → Int32) (H : Heap) (locs : List Loc) (ls : Array Slot), INV M E P C N kk mn md rw dg kn fc oft → LH D cI cR cL adC adR o (cellC cI cR adC M E P C N) th kk mn md rw dg kn fc oft H → va_S (fun q : Nat => s.heap.size ≤ q) s.heap H locs → lv_has ls 7 [(0, .ref b), (1, .ref (adC 45)), (2, .ref (adR 0)), (3, .ref o), (4, .int (nI i))] → W p l e room_1 s m #[Value.ref b] below meth c H locs (cells + 1) (slots + 6) Q (F0 m 1131 ls [])) : W p l e room_1 s m #[Value.ref b] below meth c H locs cells slots Q (F0 m 120 ls []) := by
  obtain ⟨hx, hb, hr, hml, hown, hts, hX, hbl, hlocks, hgv⟩ := C0
  have htsB := law_hts hts
  have hb : c.code = cL_law := hb
  have hbA : ¬ (fun q : Nat => s.heap.size ≤ q) b := Nat.not_le.mpr hbl
  obtain ⟨w1, w2, w3, w4, w5, w6, w7, w8⟩ := hW
  have wA : ∀ q, hA adC o q → s.heap.size ≤ q := fun q h => h.elim (w3 q) (fun z => z ▸ w5)
  obtain ⟨hP, ⟨di, hR⟩, g, hO⟩ := hH
  have hcell0 : cells ≤ 636428 := by omega
  have hslot0 : slots ≤ 7186819 := by omega
  obtain ⟨k, v, r, M', E', P', C', N', kk', mn', md', rw', dg', kn', hI', hM, hf, hv⟩ := U_field l hst D (cR := cR) (cI := cI) (cL := cL) w1 hI th (xs (i + 1)) (lgj (xs (i + 2)) (xs (i + 3))) (lgj (xs (i + 4)) (xs (i + 5))) (lgj (xs (i + 6)) (xs (i + 7))) (fu := 20000000) (Nat.le_refl _)
  refine lv_aload_n hx hb dL_law_120 rfl (lv_at hl 1 rfl) ?_
  refine law_ld1 (k := 1) hx hb hX hbl hbA hS (by omega) hL (lv_at hl 0 rfl) (lv_at hl 4 rfl) (by decide) dL_law_121 dL_law_122 dL_law_124 dL_law_125 dL_law_126 ?_
  refine law_ld1 (k := 2) hx hb hX hbl hbA hS (by omega) hL (lv_at hl 0 rfl) (lv_at hl 4 rfl) (by decide) dL_law_127 dL_law_128 dL_law_130 dL_law_131 dL_law_132 ?_
  refine lv_i2l (v := (xs (i + 2)).toInt64) hx hb dL_law_133 rfl ?_
  refine lv_bipush (v := 32) hx hb dL_law_134 (by decide) ?_
  refine lv_lshl (v := (xs (i + 2)).toInt64 <<< ((32 : Int32).toInt64 &&& 63)) hx hb dL_law_136 rfl ?_
  refine law_ld1 (k := 3) hx hb hX hbl hbA hS (by omega) hL (lv_at hl 0 rfl) (lv_at hl 4 rfl) (by decide) dL_law_137 dL_law_138 dL_law_140 dL_law_141 dL_law_142 ?_
  refine lv_i2l (v := (xs (i + 3)).toInt64) hx hb dL_law_143 rfl ?_
  refine lv_ldc2 (v := 4294967295) hx hb hown (htsB (.constantLong RL 73 (4294967295)) (BW_in mw_544)) dL_law_144 ?_
  refine lv_land hx hb dL_law_147 ?_
  refine lv_lor hx hb dL_law_148 ?_
  refine tp_J (y := lgj (xs (i + 2)) (xs (i + 3))) rfl ?_
  refine law_ld1 (k := 4) hx hb hX hbl hbA hS (by omega) hL (lv_at hl 0 rfl) (lv_at hl 4 rfl) (by decide) dL_law_149 dL_law_150 dL_law_152 dL_law_153 dL_law_154 ?_
  refine lv_i2l (v := (xs (i + 4)).toInt64) hx hb dL_law_155 rfl ?_
  refine lv_bipush (v := 32) hx hb dL_law_156 (by decide) ?_
  refine lv_lshl (v := (xs (i + 4)).toInt64 <<< ((32 : Int32).toInt64 &&& 63)) hx hb dL_law_158 rfl ?_
  refine law_ld1 (k := 5) hx hb hX hbl hbA hS (by omega) hL (lv_at hl 0 rfl) (lv_at hl 4 rfl) (by decide) dL_law_159 dL_law_160 dL_law_162 dL_law_163 dL_law_164 ?_
  refine lv_i2l (v := (xs (i + 5)).toInt64) hx hb dL_law_165 rfl ?_
  refine lv_ldc2 (v := 4294967295) hx hb hown (htsB (.constantLong RL 73 (4294967295)) (BW_in mw_544)) dL_law_166 ?_
  refine lv_land hx hb dL_law_169 ?_
  refine lv_lor hx hb dL_law_170 ?_
  refine tp_J (y := lgj (xs (i + 4)) (xs (i + 5))) rfl ?_
  refine law_ld2 (k := 6) hx hb hX hbl hbA hS (by omega) hL (lv_at hl 0 rfl) (lv_at hl 4 rfl) (by decide) dL_law_171 dL_law_172 dL_law_174 dL_law_176 dL_law_177 ?_
  refine lv_i2l (v := (xs (i + 6)).toInt64) hx hb dL_law_178 rfl ?_
  refine lv_bipush (v := 32) hx hb dL_law_179 (by decide) ?_
  refine lv_lshl (v := (xs (i + 6)).toInt64 <<< ((32 : Int32).toInt64 &&& 63)) hx hb dL_law_181 rfl ?_
  refine law_ld2 (k := 7) hx hb hX hbl hbA hS (by omega) hL (lv_at hl 0 rfl) (lv_at hl 4 rfl) (by decide) dL_law_182 dL_law_183 dL_law_185 dL_law_187 dL_law_188 ?_
  refine lv_i2l (v := (xs (i + 7)).toInt64) hx hb dL_law_189 rfl ?_
  refine lv_ldc2 (v := 4294967295) hx hb hown (htsB (.constantLong RL 73 (4294967295)) (BW_in mw_544)) dL_law_190 ?_
  refine lv_land hx hb dL_law_193 ?_
  refine lv_lor hx hb dL_law_194 ?_
  refine tp_J (y := lgj (xs (i + 6)) (xs (i + 7))) rfl ?_
  refine lv_aload_n hx hb dL_law_195 rfl (lv_at hl 3 rfl) ?_
  refine ct_callH (vx_runSW (As := [.ref (adC 45), .int (xs (i + 1)), .long (lgj (xs (i + 2)) (xs (i + 3))), .long (lgj (xs (i + 4)) (xs (i + 5))), .long (lgj (xs (i + 6)) (xs (i + 7))), .ref o]) (rest := []) ⟨hx, hb, hml, hown, htsB⟩ (hM o g w7) (vx_cwSW 6 htsB (gu_SW mw_549 mw_550 mw_551 mw_479) rfl rfl rfl (by decide +kernel) ⟨Nat.le_of_ble_eq_true rfl, Nat.le_of_ble_eq_true rfl⟩) (hB_pre nw1_kind hP hO hK hN hT hS w3 hc) rfl rfl hl.1 rfl (lv_room (Nat.le_of_ble_eq_true rfl)) dL_law_196 ⟨hcell, hslot⟩) hS wA (fun H locs g hP hO hg hk hS => ?_)
  have hR := ww_kept hR hk (fun q h z => z.elim (fun z => w6 q z h) (fun z => w8 (z ▸ h)))
  refine lv_istore (lv' := [(5, .int k), (0, .ref b), (1, .ref (adC 45)), (2, .ref (adR 0)), (3, .ref o), (4, .int (nI i))]) hx hb dL_law_199 hl (by decide) rfl (fun ls hl => ?_)
  refine lv_aload_n hx hb dL_law_201 rfl (lv_at hl 3 rfl) ?_
  refine law_ld1 (k := 1) hx hb hX hbl hbA hS (by omega) hL (lv_at hl 1 rfl) (lv_at hl 5 rfl) (by decide) dL_law_202 dL_law_203 dL_law_205 dL_law_206 dL_law_207 ?_
  refine law_ld1 (k := 2) hx hb hX hbl hbA hS (by omega) hL (lv_at hl 1 rfl) (lv_at hl 5 rfl) (by decide) dL_law_208 dL_law_209 dL_law_211 dL_law_212 dL_law_213 ?_
  refine lv_i2l (v := (xs (i + 2)).toInt64) hx hb dL_law_214 rfl ?_
  refine lv_bipush (v := 32) hx hb dL_law_215 (by decide) ?_
  refine lv_lshl (v := (xs (i + 2)).toInt64 <<< ((32 : Int32).toInt64 &&& 63)) hx hb dL_law_217 rfl ?_
  refine law_ld1 (k := 3) hx hb hX hbl hbA hS (by omega) hL (lv_at hl 1 rfl) (lv_at hl 5 rfl) (by decide) dL_law_218 dL_law_219 dL_law_221 dL_law_222 dL_law_223 ?_
  refine lv_i2l (v := (xs (i + 3)).toInt64) hx hb dL_law_224 rfl ?_
  refine lv_ldc2 (v := 4294967295) hx hb hown (htsB (.constantLong RL 73 (4294967295)) (BW_in mw_544)) dL_law_225 ?_
  refine lv_land hx hb dL_law_228 ?_
  refine lv_lor hx hb dL_law_229 ?_
  refine tp_J (y := lgj (xs (i + 2)) (xs (i + 3))) rfl ?_
  refine law_ld1 (k := 4) hx hb hX hbl hbA hS (by omega) hL (lv_at hl 1 rfl) (lv_at hl 5 rfl) (by decide) dL_law_230 dL_law_231 dL_law_233 dL_law_234 dL_law_235 ?_
  refine lv_i2l (v := (xs (i + 4)).toInt64) hx hb dL_law_236 rfl ?_
  refine lv_bipush (v := 32) hx hb dL_law_237 (by decide) ?_
  refine lv_lshl (v := (xs (i + 4)).toInt64 <<< ((32 : Int32).toInt64 &&& 63)) hx hb dL_law_239 rfl ?_
  refine law_ld1 (k := 5) hx hb hX hbl hbA hS (by omega) hL (lv_at hl 1 rfl) (lv_at hl 5 rfl) (by decide) dL_law_240 dL_law_241 dL_law_243 dL_law_244 dL_law_245 ?_
  refine lv_i2l (v := (xs (i + 5)).toInt64) hx hb dL_law_246 rfl ?_
  refine lv_ldc2 (v := 4294967295) hx hb hown (htsB (.constantLong RL 73 (4294967295)) (BW_in mw_544)) dL_law_247 ?_
  refine lv_land hx hb dL_law_250 ?_
  refine lv_lor hx hb dL_law_251 ?_
  refine tp_J (y := lgj (xs (i + 4)) (xs (i + 5))) rfl ?_
  refine law_ld2 (k := 6) hx hb hX hbl hbA hS (by omega) hL (lv_at hl 1 rfl) (lv_at hl 5 rfl) (by decide) dL_law_252 dL_law_253 dL_law_255 dL_law_257 dL_law_258 ?_
  refine lv_i2l (v := (xs (i + 6)).toInt64) hx hb dL_law_259 rfl ?_
  refine lv_bipush (v := 32) hx hb dL_law_260 (by decide) ?_
  refine lv_lshl (v := (xs (i + 6)).toInt64 <<< ((32 : Int32).toInt64 &&& 63)) hx hb dL_law_262 rfl ?_
  refine law_ld2 (k := 7) hx hb hX hbl hbA hS (by omega) hL (lv_at hl 1 rfl) (lv_at hl 5 rfl) (by decide) dL_law_263 dL_law_264 dL_law_266 dL_law_268 dL_law_269 ?_
  refine lv_i2l (v := (xs (i + 7)).toInt64) hx hb dL_law_270 rfl ?_
  refine lv_ldc2 (v := 4294967295) hx hb hown (htsB (.constantLong RL 73 (4294967295)) (BW_in mw_544)) dL_law_271 ?_
  refine lv_land hx hb dL_law_274 ?_
  refine lv_lor hx hb dL_law_275 ?_
  refine tp_J (y := lgj (xs (i + 6)) (xs (i + 7))) rfl ?_
  refine ct_callxA (va_runV (As := [.int (xs (i + 1)), .long (lgj (xs (i + 2)) (xs (i + 3))), .long (lgj (xs (i + 4)) (xs (i + 5))), .long (lgj (xs (i + 6)) (xs (i + 7)))]) (rest := []) ⟨hx, hb, hml, hown, htsB⟩ (C_X5_field l D [(cI, .int), (cR, .object RX2), (cL, .long)] w2 rfl hf) (cwV 4 htsB (gu_V mw_552 mw_553 mw_554 mw_330 mw_352) rfl rfl rfl (by decide +kernel) ⟨Nat.le_of_ble_eq_true rfl, Nat.le_of_ble_eq_true rfl⟩) (ct_preVx (w := fun di => ww 6 adR (cellR cI adR th kk mn md rw dg kn fc oft di)) hR hK (ci := 5) (k := 0) rfl cr_mdl) rfl rfl hl.1 rfl (lv_room (Nat.le_of_ble_eq_true rfl)) dL_law_276 ⟨hcell, hslot⟩) hS w4 (fun di H locs hR hk hS => ?_)
  have hP := ww_kept hP hk w6
  have hO := oC_kept hO hk w8
  refine lv_istore (lv' := [(6, .int r), (5, .int k), (0, .ref b), (1, .ref (adC 45)), (2, .ref (adR 0)), (3, .ref o), (4, .int (nI i))]) hx hb dL_law_279 hl (by decide) rfl (fun ls hl => ?_)
  refine lv_aload_n hx hb dL_law_281 rfl (lv_at hl 4 rfl) ?_
  refine ct_callxA (va_runV (As := []) (rest := []) ⟨hx, hb, hml, hown, htsB⟩ (C_X5_thrown l D [(cI, .int), (cR, .object RX2), (cL, .long)] w2 rfl (th := k) rfl) (cwV 0 htsB (gu_V mw_555 mw_556 mw_557 mw_330 mw_320) rfl rfl rfl (by decide +kernel) ⟨Nat.le_of_ble_eq_true rfl, Nat.le_of_ble_eq_true rfl⟩) (ct_preVx (w := fun di => ww 6 adR (cellR cI adR k kk' mn' md' rw' dg' kn' fc oft di)) hR hK (ci := 5) (k := 0) rfl cr_mdl) rfl rfl hl.1 rfl (lv_room (Nat.le_of_ble_eq_true rfl)) dL_law_282 ⟨hcell, hslot⟩) hS w4 (fun di H locs hR hk hS => ?_)
  have hP := ww_kept hP hk w6
  have hO := oC_kept hO hk w8
  refine lv_iload hx hb dL_law_285 (lv_at hl 1 rfl) ?_
  refine lv_icmp_eq (tgt := 292) hx hb dL_law_287 (by decide) (fun c9 => ?_) (fun c9 => absurd rfl c9)
  refine lv_iload hx hb dL_law_292 (lv_at hl 1 rfl) ?_
  refine lv_if_ne (tgt := 316) hx hb dL_law_294 (by decide) (fun c9 => ?_) (fun c9 => ?_)
  · refine lv_goto (tgt := 1131) hx hb dL_law_316 (by decide) ?_
    exact kn0 M' E' P' C' N' k kk' mn' md' rw' dg' kn' fc oft H locs ls hI' ⟨hP, ⟨di, hR⟩, g, hO⟩ hS (lv_sub hl [2, 3, 4, 5, 6] rfl)
  · have k0 : k = 0 := c9
    have gv : g (0 : Int32).toNatClampNeg = v := hg k0
    refine lv_aload_n hx hb dL_law_297 rfl (lv_at hl 5 rfl) ?_
    refine lv_iconst (v := 0) hx hb dL_law_298 (by decide) ?_
    refine va_lald hx hb hK hO 0 2 rfl rfl (show ¬ ((0 : Int32) < 0 ∨ 1 ≤ (0 : Int32).toNatClampNeg) by decide) dL_law_299 ?_
    refine lv_iload hx hb dL_law_300 (lv_at hl 0 rfl) ?_
    refine lv_if_eq (tgt := 309) hx hb dL_law_302 (by decide) (fun c7 => ?_) (fun c7 => ?_)
    · refine lv_lconst (v := 0) hx hb dL_law_309 rfl ?_
      refine W.lcmp hx hb dL_law_310 ?_
      have e0 : lg_cmp (g (0 : Int32).toNatClampNeg) 0 = 0 := by rw [gv, hv k0, if_pos c7]; exact cmp_rf _
      refine lv_if_eq (tgt := 316) hx hb dL_law_311 (by decide) (fun c8 => ?_) (fun c8 => absurd e0 c8)
      refine lv_goto (tgt := 1131) hx hb dL_law_316 (by decide) ?_
      exact kn0 M' E' P' C' N' k kk' mn' md' rw' dg' kn' fc oft H locs ls hI' ⟨hP, ⟨di, hR⟩, g, hO⟩ hS (lv_sub hl [2, 3, 4, 5, 6] rfl)
    · refine lv_lconst (v := 1) hx hb dL_law_305 rfl ?_
      refine lv_goto (tgt := 310) hx hb dL_law_306 (by decide) ?_
      refine W.lcmp hx hb dL_law_310 ?_
      have e0 : lg_cmp (g (0 : Int32).toNatClampNeg) 1 = 0 := by rw [gv, hv k0, if_neg c7]; exact cmp_rf _
      refine lv_if_eq (tgt := 316) hx hb dL_law_311 (by decide) (fun c8 => ?_) (fun c8 => absurd e0 c8)
      refine lv_goto (tgt := 1131) hx hb dL_law_316 (by decide) ?_
      exact kn0 M' E' P' C' N' k kk' mn' md' rw' dg' kn' fc oft H locs ls hI' ⟨hP, ⟨di, hR⟩, g, hO⟩ hS (lv_sub hl [2, 3, 4, 5, 6] rfl)
set_option maxHeartbeats 4000000 in
set_option maxRecDepth 100000 in
theorem LC_modulus {p : Program} {l : Launch} {e : Env} {s : State} {m : MethodId} {below : List Frame} {meth : Method} {c : Code} {b L : Nat} {xs : Nat → Int32} (hst : l.stackTraces = false) (hL : L ≤ 4096) (C0 : lw_At p s m meth c b L xs) {D : va_G} {cI cR cL : ClassId} (hK : va_K D vwCl [(cI, .int), (cR, .object RX2), (cL, .long)] s) (hN : nw_ok nw1 s) (hT : ts_ok (fun q : Nat => s.heap.size ≤ q) s s.heap) (hc : nc_ok s) {adC adR : Nat → Nat} {o : Nat} (hW : LW s adC adR o) {M : Fin 20 → Nat → Int32} {E : Nat → Int32} {P : Nat → Fin 20} {C N : Nat → Int32} {th kk : Int32} {mn : Int64} {md rw dg : Nat → Int32} {kn fc : Int32} {oft : Nat → Int32} (hI : INV M E P C N kk mn md rw dg kn fc oft) {i : Nat} (hi : i + 8 ≤ L) {H : Heap} {locs : List Loc} {ls : Array Slot} {cells slots : Nat} (hcell : cells + 1 ≤ 636428) (hslot : slots + 6 ≤ 7186819) (hH : LH D cI cR cL adC adR o (cellC cI cR adC M E P C N) th kk mn md rw dg kn fc oft H) (hS : va_S (fun q : Nat => s.heap.size ≤ q) s.heap H locs) (hl : lv_has ls 7 [(0, .ref b), (1, .ref (adC 45)), (2, .ref (adR 0)), (3, .ref o), (4, .int (nI i))]) {Q : State → Prop} (kn0 : ∀ (M : Fin 20 → Nat → Int32) (E : Nat → Int32) (P : Nat → Fin 20) (C N : Nat → Int32) (th kk : Int32) (mn : Int64) (md rw dg : Nat → Int32) (kn fc : Int32) (oft : Nat → Int32) (H : Heap) (locs : List Loc) (ls : Array Slot), INV M E P C N kk mn md rw dg kn fc oft → LH D cI cR cL adC adR o (cellC cI cR adC M E P C N) th kk mn md rw dg kn fc oft H → va_S (fun q : Nat => s.heap.size ≤ q) s.heap H locs → lv_has ls 7 [(0, .ref b), (1, .ref (adC 45)), (2, .ref (adR 0)), (3, .ref o), (4, .int (nI i))] → W p l e room_1 s m #[Value.ref b] below meth c H locs (cells + 1) (slots + 6) Q (F0 m 1131 ls [])) : W p l e room_1 s m #[Value.ref b] below meth c H locs cells slots Q (F0 m 319 ls []) := by
  obtain ⟨hx, hb, hr, hml, hown, hts, hX, hbl, hlocks, hgv⟩ := C0
  have htsB := law_hts hts
  have hb : c.code = cL_law := hb
  have hbA : ¬ (fun q : Nat => s.heap.size ≤ q) b := Nat.not_le.mpr hbl
  obtain ⟨w1, w2, w3, w4, w5, w6, w7, w8⟩ := hW
  have wA : ∀ q, hA adC o q → s.heap.size ≤ q := fun q h => h.elim (w3 q) (fun z => z ▸ w5)
  obtain ⟨hP, ⟨di, hR⟩, g, hO⟩ := hH
  have hcell0 : cells ≤ 636428 := by omega
  have hslot0 : slots ≤ 7186819 := by omega
  obtain ⟨k, v, r, M', E', P', C', N', hI', hM, hf, hv⟩ := U_modulus l hst D (cR := cR) (cI := cI) (cL := cL) w1 hI th (xs (i + 1)) (fu := 20000000) (Nat.le_refl _)
  refine lv_aload_n hx hb dL_law_319 rfl (lv_at hl 1 rfl) ?_
  refine law_ld1 (k := 1) hx hb hX hbl hbA hS (by omega) hL (lv_at hl 0 rfl) (lv_at hl 4 rfl) (by decide) dL_law_320 dL_law_321 dL_law_323 dL_law_324 dL_law_325 ?_
  refine lv_aload_n hx hb dL_law_326 rfl (lv_at hl 3 rfl) ?_
  refine ct_callH (vx_runSW (As := [.ref (adC 45), .int (xs (i + 1)), .ref o]) (rest := []) ⟨hx, hb, hml, hown, htsB⟩ (hM o g w7) (vx_cwSW 3 htsB (gu_SW mw_558 mw_559 mw_551 mw_480) rfl rfl rfl (by decide +kernel) ⟨Nat.le_of_ble_eq_true rfl, Nat.le_of_ble_eq_true rfl⟩) (hB_pre nw1_kind hP hO hK hN hT hS w3 hc) rfl rfl hl.1 rfl (lv_room (Nat.le_of_ble_eq_true rfl)) dL_law_327 ⟨hcell, hslot⟩) hS wA (fun H locs g hP hO hg hk hS => ?_)
  have hR := ww_kept hR hk (fun q h z => z.elim (fun z => w6 q z h) (fun z => w8 (z ▸ h)))
  refine lv_istore (lv' := [(5, .int k), (0, .ref b), (1, .ref (adC 45)), (2, .ref (adR 0)), (3, .ref o), (4, .int (nI i))]) hx hb dL_law_330 hl (by decide) rfl (fun ls hl => ?_)
  refine lv_aload_n hx hb dL_law_332 rfl (lv_at hl 3 rfl) ?_
  refine law_ld1 (k := 1) hx hb hX hbl hbA hS (by omega) hL (lv_at hl 1 rfl) (lv_at hl 5 rfl) (by decide) dL_law_333 dL_law_334 dL_law_336 dL_law_337 dL_law_338 ?_
  refine ct_callxA (va_runV (As := [.int (xs (i + 1))]) (rest := []) ⟨hx, hb, hml, hown, htsB⟩ (C_X5_modulus l D [(cI, .int), (cR, .object RX2), (cL, .long)] w2 rfl hf) (cwV 1 htsB (gu_V mw_560 mw_561 mw_562 mw_330 mw_364) rfl rfl rfl (by decide +kernel) ⟨Nat.le_of_ble_eq_true rfl, Nat.le_of_ble_eq_true rfl⟩) (ct_preVx (w := fun di => ww 6 adR (cellR cI adR th kk mn md rw dg kn fc oft di)) hR hK (ci := 5) (k := 0) rfl cr_mdl) rfl rfl hl.1 rfl (lv_room (Nat.le_of_ble_eq_true rfl)) dL_law_339 ⟨hcell, hslot⟩) hS w4 (fun di H locs hR hk hS => ?_)
  have hP := ww_kept hP hk w6
  have hO := oC_kept hO hk w8
  refine lv_istore (lv' := [(6, .int r), (5, .int k), (0, .ref b), (1, .ref (adC 45)), (2, .ref (adR 0)), (3, .ref o), (4, .int (nI i))]) hx hb dL_law_342 hl (by decide) rfl (fun ls hl => ?_)
  refine lv_aload_n hx hb dL_law_344 rfl (lv_at hl 4 rfl) ?_
  refine ct_callxA (va_runV (As := []) (rest := []) ⟨hx, hb, hml, hown, htsB⟩ (C_X5_thrown l D [(cI, .int), (cR, .object RX2), (cL, .long)] w2 rfl (th := k) rfl) (cwV 0 htsB (gu_V mw_555 mw_556 mw_557 mw_330 mw_320) rfl rfl rfl (by decide +kernel) ⟨Nat.le_of_ble_eq_true rfl, Nat.le_of_ble_eq_true rfl⟩) (ct_preVx (w := fun di => ww 6 adR (cellR cI adR k kk mn md rw dg kn fc oft di)) hR hK (ci := 5) (k := 0) rfl cr_mdl) rfl rfl hl.1 rfl (lv_room (Nat.le_of_ble_eq_true rfl)) dL_law_345 ⟨hcell, hslot⟩) hS w4 (fun di H locs hR hk hS => ?_)
  have hP := ww_kept hP hk w6
  have hO := oC_kept hO hk w8
  refine lv_iload hx hb dL_law_348 (lv_at hl 1 rfl) ?_
  refine lv_icmp_eq (tgt := 355) hx hb dL_law_350 (by decide) (fun c9 => ?_) (fun c9 => absurd rfl c9)
  refine lv_iload hx hb dL_law_355 (lv_at hl 1 rfl) ?_
  refine lv_if_ne (tgt := 372) hx hb dL_law_357 (by decide) (fun c9 => ?_) (fun c9 => ?_)
  · refine lv_goto (tgt := 1131) hx hb dL_law_372 (by decide) ?_
    exact kn0 M' E' P' C' N' k kk mn md rw dg kn fc oft H locs ls hI' ⟨hP, ⟨di, hR⟩, g, hO⟩ hS (lv_sub hl [2, 3, 4, 5, 6] rfl)
  · have k0 : k = 0 := c9
    have gv : g (0 : Int32).toNatClampNeg = v := hg k0
    refine lv_aload_n hx hb dL_law_360 rfl (lv_at hl 5 rfl) ?_
    refine lv_iconst (v := 0) hx hb dL_law_361 (by decide) ?_
    refine va_lald hx hb hK hO 0 2 rfl rfl (show ¬ ((0 : Int32) < 0 ∨ 1 ≤ (0 : Int32).toNatClampNeg) by decide) dL_law_362 ?_
    refine lv_iload hx hb dL_law_363 (lv_at hl 0 rfl) ?_
    refine lv_i2l (v := r.toInt64) hx hb dL_law_365 rfl ?_
    refine W.lcmp hx hb dL_law_366 ?_
    have e0 : lg_cmp (g (0 : Int32).toNatClampNeg) r.toInt64 = 0 := by rw [gv, hv k0]; exact cmp_rf _
    refine lv_if_eq (tgt := 372) hx hb dL_law_367 (by decide) (fun c8 => ?_) (fun c8 => absurd e0 c8)
    refine lv_goto (tgt := 1131) hx hb dL_law_372 (by decide) ?_
    exact kn0 M' E' P' C' N' k kk mn md rw dg kn fc oft H locs ls hI' ⟨hP, ⟨di, hR⟩, g, hO⟩ hS (lv_sub hl [2, 3, 4, 5, 6] rfl)
set_option maxHeartbeats 4000000 in
set_option maxRecDepth 100000 in
theorem LC_put {p : Program} {l : Launch} {e : Env} {s : State} {m : MethodId} {below : List Frame} {meth : Method} {c : Code} {b L : Nat} {xs : Nat → Int32} (hst : l.stackTraces = false) (hL : L ≤ 4096) (C0 : lw_At p s m meth c b L xs) {D : va_G} {cI cR cL : ClassId} (hK : va_K D vwCl [(cI, .int), (cR, .object RX2), (cL, .long)] s) (hN : nw_ok nw1 s) (hT : ts_ok (fun q : Nat => s.heap.size ≤ q) s s.heap) (hc : nc_ok s) {adC adR : Nat → Nat} {o : Nat} (hW : LW s adC adR o) {M : Fin 20 → Nat → Int32} {E : Nat → Int32} {P : Nat → Fin 20} {C N : Nat → Int32} {th kk : Int32} {mn : Int64} {md rw dg : Nat → Int32} {kn fc : Int32} {oft : Nat → Int32} (hI : INV M E P C N kk mn md rw dg kn fc oft) {i : Nat} (hi : i + 8 ≤ L) {H : Heap} {locs : List Loc} {ls : Array Slot} {cells slots : Nat} (hcell : cells + 1 ≤ 636428) (hslot : slots + 6 ≤ 7186819) (hH : LH D cI cR cL adC adR o (cellC cI cR adC M E P C N) th kk mn md rw dg kn fc oft H) (hS : va_S (fun q : Nat => s.heap.size ≤ q) s.heap H locs) (hl : lv_has ls 7 [(0, .ref b), (1, .ref (adC 45)), (2, .ref (adR 0)), (3, .ref o), (4, .int (nI i))]) {Q : State → Prop} (kn0 : ∀ (M : Fin 20 → Nat → Int32) (E : Nat → Int32) (P : Nat → Fin 20) (C N : Nat → Int32) (th kk : Int32) (mn : Int64) (md rw dg : Nat → Int32) (kn fc : Int32) (oft : Nat → Int32) (H : Heap) (locs : List Loc) (ls : Array Slot), INV M E P C N kk mn md rw dg kn fc oft → LH D cI cR cL adC adR o (cellC cI cR adC M E P C N) th kk mn md rw dg kn fc oft H → va_S (fun q : Nat => s.heap.size ≤ q) s.heap H locs → lv_has ls 7 [(0, .ref b), (1, .ref (adC 45)), (2, .ref (adR 0)), (3, .ref o), (4, .int (nI i))] → W p l e room_1 s m #[Value.ref b] below meth c H locs (cells + 1) (slots + 6) Q (F0 m 1131 ls [])) : W p l e room_1 s m #[Value.ref b] below meth c H locs cells slots Q (F0 m 375 ls []) := by
  obtain ⟨hx, hb, hr, hml, hown, hts, hX, hbl, hlocks, hgv⟩ := C0
  have htsB := law_hts hts
  have hb : c.code = cL_law := hb
  have hbA : ¬ (fun q : Nat => s.heap.size ≤ q) b := Nat.not_le.mpr hbl
  obtain ⟨w1, w2, w3, w4, w5, w6, w7, w8⟩ := hW
  have wA : ∀ q, hA adC o q → s.heap.size ≤ q := fun q h => h.elim (w3 q) (fun z => z ▸ w5)
  obtain ⟨hP, ⟨di, hR⟩, g, hO⟩ := hH
  have hcell0 : cells ≤ 636428 := by omega
  have hslot0 : slots ≤ 7186819 := by omega
  obtain ⟨k, v, r, M', E', P', C', N', rw', dg', kn', hI', hM, hf, hv⟩ := U_put l hst D (cR := cR) (cI := cI) (cL := cL) w1 hI th (xs (i + 1)) (xs (i + 2)) (fu := 20000000) (Nat.le_refl _)
  refine lv_aload_n hx hb dL_law_375 rfl (lv_at hl 1 rfl) ?_
  refine law_ld1 (k := 1) hx hb hX hbl hbA hS (by omega) hL (lv_at hl 0 rfl) (lv_at hl 4 rfl) (by decide) dL_law_376 dL_law_377 dL_law_379 dL_law_380 dL_law_381 ?_
  refine law_ld1 (k := 2) hx hb hX hbl hbA hS (by omega) hL (lv_at hl 0 rfl) (lv_at hl 4 rfl) (by decide) dL_law_382 dL_law_383 dL_law_385 dL_law_386 dL_law_387 ?_
  refine lv_aload_n hx hb dL_law_388 rfl (lv_at hl 3 rfl) ?_
  refine ct_callH (vx_runSW (As := [.ref (adC 45), .int (xs (i + 1)), .int (xs (i + 2)), .ref o]) (rest := []) ⟨hx, hb, hml, hown, htsB⟩ (hM o g w7) (vx_cwSW 4 htsB (gu_SW mw_563 mw_564 mw_551 mw_488) rfl rfl rfl (by decide +kernel) ⟨Nat.le_of_ble_eq_true rfl, Nat.le_of_ble_eq_true rfl⟩) (hB_pre nw1_kind hP hO hK hN hT hS w3 hc) rfl rfl hl.1 rfl (lv_room (Nat.le_of_ble_eq_true rfl)) dL_law_389 ⟨hcell, hslot⟩) hS wA (fun H locs g hP hO hg hk hS => ?_)
  have hR := ww_kept hR hk (fun q h z => z.elim (fun z => w6 q z h) (fun z => w8 (z ▸ h)))
  refine lv_istore (lv' := [(5, .int k), (0, .ref b), (1, .ref (adC 45)), (2, .ref (adR 0)), (3, .ref o), (4, .int (nI i))]) hx hb dL_law_392 hl (by decide) rfl (fun ls hl => ?_)
  refine lv_aload_n hx hb dL_law_394 rfl (lv_at hl 3 rfl) ?_
  refine law_ld1 (k := 1) hx hb hX hbl hbA hS (by omega) hL (lv_at hl 1 rfl) (lv_at hl 5 rfl) (by decide) dL_law_395 dL_law_396 dL_law_398 dL_law_399 dL_law_400 ?_
  refine law_ld1 (k := 2) hx hb hX hbl hbA hS (by omega) hL (lv_at hl 1 rfl) (lv_at hl 5 rfl) (by decide) dL_law_401 dL_law_402 dL_law_404 dL_law_405 dL_law_406 ?_
  refine ct_callxA (va_runV (As := [.int (xs (i + 1)), .int (xs (i + 2))]) (rest := []) ⟨hx, hb, hml, hown, htsB⟩ (C_X5_put l D [(cI, .int), (cR, .object RX2), (cL, .long)] w2 rfl hf) (cwV 2 htsB (gu_V mw_565 mw_566 mw_567 mw_330 mw_406) rfl rfl rfl (by decide +kernel) ⟨Nat.le_of_ble_eq_true rfl, Nat.le_of_ble_eq_true rfl⟩) (ct_preVx (w := fun di => ww 6 adR (cellR cI adR th kk mn md rw dg kn fc oft di)) hR hK (ci := 5) (k := 0) rfl cr_mdl) rfl rfl hl.1 rfl (lv_room (Nat.le_of_ble_eq_true rfl)) dL_law_407 ⟨hcell, hslot⟩) hS w4 (fun di H locs hR hk hS => ?_)
  have hP := ww_kept hP hk w6
  have hO := oC_kept hO hk w8
  refine lv_istore (lv' := [(6, .int r), (5, .int k), (0, .ref b), (1, .ref (adC 45)), (2, .ref (adR 0)), (3, .ref o), (4, .int (nI i))]) hx hb dL_law_410 hl (by decide) rfl (fun ls hl => ?_)
  refine lv_aload_n hx hb dL_law_412 rfl (lv_at hl 4 rfl) ?_
  refine ct_callxA (va_runV (As := []) (rest := []) ⟨hx, hb, hml, hown, htsB⟩ (C_X5_thrown l D [(cI, .int), (cR, .object RX2), (cL, .long)] w2 rfl (th := k) rfl) (cwV 0 htsB (gu_V mw_555 mw_556 mw_557 mw_330 mw_320) rfl rfl rfl (by decide +kernel) ⟨Nat.le_of_ble_eq_true rfl, Nat.le_of_ble_eq_true rfl⟩) (ct_preVx (w := fun di => ww 6 adR (cellR cI adR k kk mn md rw' dg' kn' fc oft di)) hR hK (ci := 5) (k := 0) rfl cr_mdl) rfl rfl hl.1 rfl (lv_room (Nat.le_of_ble_eq_true rfl)) dL_law_413 ⟨hcell, hslot⟩) hS w4 (fun di H locs hR hk hS => ?_)
  have hP := ww_kept hP hk w6
  have hO := oC_kept hO hk w8
  refine lv_iload hx hb dL_law_416 (lv_at hl 1 rfl) ?_
  refine lv_icmp_eq (tgt := 423) hx hb dL_law_418 (by decide) (fun c9 => ?_) (fun c9 => absurd rfl c9)
  refine lv_iload hx hb dL_law_423 (lv_at hl 1 rfl) ?_
  refine lv_if_ne (tgt := 447) hx hb dL_law_425 (by decide) (fun c9 => ?_) (fun c9 => ?_)
  · refine lv_goto (tgt := 1131) hx hb dL_law_447 (by decide) ?_
    exact kn0 M' E' P' C' N' k kk mn md rw' dg' kn' fc oft H locs ls hI' ⟨hP, ⟨di, hR⟩, g, hO⟩ hS (lv_sub hl [2, 3, 4, 5, 6] rfl)
  · have k0 : k = 0 := c9
    have gv : g (0 : Int32).toNatClampNeg = v := hg k0
    refine lv_aload_n hx hb dL_law_428 rfl (lv_at hl 5 rfl) ?_
    refine lv_iconst (v := 0) hx hb dL_law_429 (by decide) ?_
    refine va_lald hx hb hK hO 0 2 rfl rfl (show ¬ ((0 : Int32) < 0 ∨ 1 ≤ (0 : Int32).toNatClampNeg) by decide) dL_law_430 ?_
    refine lv_iload hx hb dL_law_431 (lv_at hl 0 rfl) ?_
    refine lv_if_eq (tgt := 440) hx hb dL_law_433 (by decide) (fun c7 => ?_) (fun c7 => ?_)
    · refine lv_lconst (v := 0) hx hb dL_law_440 rfl ?_
      refine W.lcmp hx hb dL_law_441 ?_
      have e0 : lg_cmp (g (0 : Int32).toNatClampNeg) 0 = 0 := by rw [gv, hv k0, if_pos c7]; exact cmp_rf _
      refine lv_if_eq (tgt := 447) hx hb dL_law_442 (by decide) (fun c8 => ?_) (fun c8 => absurd e0 c8)
      refine lv_goto (tgt := 1131) hx hb dL_law_447 (by decide) ?_
      exact kn0 M' E' P' C' N' k kk mn md rw' dg' kn' fc oft H locs ls hI' ⟨hP, ⟨di, hR⟩, g, hO⟩ hS (lv_sub hl [2, 3, 4, 5, 6] rfl)
    · refine lv_lconst (v := 1) hx hb dL_law_436 rfl ?_
      refine lv_goto (tgt := 441) hx hb dL_law_437 (by decide) ?_
      refine W.lcmp hx hb dL_law_441 ?_
      have e0 : lg_cmp (g (0 : Int32).toNatClampNeg) 1 = 0 := by rw [gv, hv k0, if_neg c7]; exact cmp_rf _
      refine lv_if_eq (tgt := 447) hx hb dL_law_442 (by decide) (fun c8 => ?_) (fun c8 => absurd e0 c8)
      refine lv_goto (tgt := 1131) hx hb dL_law_447 (by decide) ?_
      exact kn0 M' E' P' C' N' k kk mn md rw' dg' kn' fc oft H locs ls hI' ⟨hP, ⟨di, hR⟩, g, hO⟩ hS (lv_sub hl [2, 3, 4, 5, 6] rfl)
set_option maxHeartbeats 4000000 in
set_option maxRecDepth 100000 in
theorem LC_at {p : Program} {l : Launch} {e : Env} {s : State} {m : MethodId} {below : List Frame} {meth : Method} {c : Code} {b L : Nat} {xs : Nat → Int32} (hst : l.stackTraces = false) (hL : L ≤ 4096) (C0 : lw_At p s m meth c b L xs) {D : va_G} {cI cR cL : ClassId} (hK : va_K D vwCl [(cI, .int), (cR, .object RX2), (cL, .long)] s) (hN : nw_ok nw1 s) (hT : ts_ok (fun q : Nat => s.heap.size ≤ q) s s.heap) (hc : nc_ok s) {adC adR : Nat → Nat} {o : Nat} (hW : LW s adC adR o) {M : Fin 20 → Nat → Int32} {E : Nat → Int32} {P : Nat → Fin 20} {C N : Nat → Int32} {th kk : Int32} {mn : Int64} {md rw dg : Nat → Int32} {kn fc : Int32} {oft : Nat → Int32} (hI : INV M E P C N kk mn md rw dg kn fc oft) {i : Nat} (hi : i + 8 ≤ L) {H : Heap} {locs : List Loc} {ls : Array Slot} {cells slots : Nat} (hcell : cells + 1 ≤ 636428) (hslot : slots + 6 ≤ 7186819) (hH : LH D cI cR cL adC adR o (cellC cI cR adC M E P C N) th kk mn md rw dg kn fc oft H) (hS : va_S (fun q : Nat => s.heap.size ≤ q) s.heap H locs) (hl : lv_has ls 7 [(0, .ref b), (1, .ref (adC 45)), (2, .ref (adR 0)), (3, .ref o), (4, .int (nI i))]) {Q : State → Prop} (kn0 : ∀ (M : Fin 20 → Nat → Int32) (E : Nat → Int32) (P : Nat → Fin 20) (C N : Nat → Int32) (th kk : Int32) (mn : Int64) (md rw dg : Nat → Int32) (kn fc : Int32) (oft : Nat → Int32) (H : Heap) (locs : List Loc) (ls : Array Slot), INV M E P C N kk mn md rw dg kn fc oft → LH D cI cR cL adC adR o (cellC cI cR adC M E P C N) th kk mn md rw dg kn fc oft H → va_S (fun q : Nat => s.heap.size ≤ q) s.heap H locs → lv_has ls 7 [(0, .ref b), (1, .ref (adC 45)), (2, .ref (adR 0)), (3, .ref o), (4, .int (nI i))] → W p l e room_1 s m #[Value.ref b] below meth c H locs (cells + 1) (slots + 6) Q (F0 m 1131 ls [])) : W p l e room_1 s m #[Value.ref b] below meth c H locs cells slots Q (F0 m 450 ls []) := by
  obtain ⟨hx, hb, hr, hml, hown, hts, hX, hbl, hlocks, hgv⟩ := C0
  have htsB := law_hts hts
  have hb : c.code = cL_law := hb
  have hbA : ¬ (fun q : Nat => s.heap.size ≤ q) b := Nat.not_le.mpr hbl
  obtain ⟨w1, w2, w3, w4, w5, w6, w7, w8⟩ := hW
  have wA : ∀ q, hA adC o q → s.heap.size ≤ q := fun q h => h.elim (w3 q) (fun z => z ▸ w5)
  obtain ⟨hP, ⟨di, hR⟩, g, hO⟩ := hH
  have hcell0 : cells ≤ 636428 := by omega
  have hslot0 : slots ≤ 7186819 := by omega
  obtain ⟨k, v, r, M', E', P', C', N', hI', hM, hf, hv⟩ := U_at l hst D (cR := cR) (cI := cI) (cL := cL) w1 hI th (xs (i + 1)) (fu := 20000000) (Nat.le_refl _)
  refine lv_aload_n hx hb dL_law_450 rfl (lv_at hl 1 rfl) ?_
  refine law_ld1 (k := 1) hx hb hX hbl hbA hS (by omega) hL (lv_at hl 0 rfl) (lv_at hl 4 rfl) (by decide) dL_law_451 dL_law_452 dL_law_454 dL_law_455 dL_law_456 ?_
  refine lv_aload_n hx hb dL_law_457 rfl (lv_at hl 3 rfl) ?_
  refine ct_callH (vx_runSW (As := [.ref (adC 45), .int (xs (i + 1)), .ref o]) (rest := []) ⟨hx, hb, hml, hown, htsB⟩ (hM o g w7) (vx_cwSW 3 htsB (gu_SW mw_568 mw_569 mw_551 mw_489) rfl rfl rfl (by decide +kernel) ⟨Nat.le_of_ble_eq_true rfl, Nat.le_of_ble_eq_true rfl⟩) (hB_pre nw1_kind hP hO hK hN hT hS w3 hc) rfl rfl hl.1 rfl (lv_room (Nat.le_of_ble_eq_true rfl)) dL_law_458 ⟨hcell, hslot⟩) hS wA (fun H locs g hP hO hg hk hS => ?_)
  have hR := ww_kept hR hk (fun q h z => z.elim (fun z => w6 q z h) (fun z => w8 (z ▸ h)))
  refine lv_istore (lv' := [(5, .int k), (0, .ref b), (1, .ref (adC 45)), (2, .ref (adR 0)), (3, .ref o), (4, .int (nI i))]) hx hb dL_law_461 hl (by decide) rfl (fun ls hl => ?_)
  refine lv_aload_n hx hb dL_law_463 rfl (lv_at hl 3 rfl) ?_
  refine law_ld1 (k := 1) hx hb hX hbl hbA hS (by omega) hL (lv_at hl 1 rfl) (lv_at hl 5 rfl) (by decide) dL_law_464 dL_law_465 dL_law_467 dL_law_468 dL_law_469 ?_
  refine ct_callxA (va_runV (As := [.int (xs (i + 1))]) (rest := []) ⟨hx, hb, hml, hown, htsB⟩ (C_X5_at l D [(cI, .int), (cR, .object RX2), (cL, .long)] w2 rfl hf) (cwV 1 htsB (gu_V mw_570 mw_571 mw_572 mw_330 mw_407) rfl rfl rfl (by decide +kernel) ⟨Nat.le_of_ble_eq_true rfl, Nat.le_of_ble_eq_true rfl⟩) (ct_preVx (w := fun di => ww 6 adR (cellR cI adR th kk mn md rw dg kn fc oft di)) hR hK (ci := 5) (k := 0) rfl cr_mdl) rfl rfl hl.1 rfl (lv_room (Nat.le_of_ble_eq_true rfl)) dL_law_470 ⟨hcell, hslot⟩) hS w4 (fun di H locs hR hk hS => ?_)
  have hP := ww_kept hP hk w6
  have hO := oC_kept hO hk w8
  refine lv_istore (lv' := [(6, .int r), (5, .int k), (0, .ref b), (1, .ref (adC 45)), (2, .ref (adR 0)), (3, .ref o), (4, .int (nI i))]) hx hb dL_law_473 hl (by decide) rfl (fun ls hl => ?_)
  refine lv_aload_n hx hb dL_law_475 rfl (lv_at hl 4 rfl) ?_
  refine ct_callxA (va_runV (As := []) (rest := []) ⟨hx, hb, hml, hown, htsB⟩ (C_X5_thrown l D [(cI, .int), (cR, .object RX2), (cL, .long)] w2 rfl (th := k) rfl) (cwV 0 htsB (gu_V mw_555 mw_556 mw_557 mw_330 mw_320) rfl rfl rfl (by decide +kernel) ⟨Nat.le_of_ble_eq_true rfl, Nat.le_of_ble_eq_true rfl⟩) (ct_preVx (w := fun di => ww 6 adR (cellR cI adR k kk mn md rw dg kn fc oft di)) hR hK (ci := 5) (k := 0) rfl cr_mdl) rfl rfl hl.1 rfl (lv_room (Nat.le_of_ble_eq_true rfl)) dL_law_476 ⟨hcell, hslot⟩) hS w4 (fun di H locs hR hk hS => ?_)
  have hP := ww_kept hP hk w6
  have hO := oC_kept hO hk w8
  refine lv_iload hx hb dL_law_479 (lv_at hl 1 rfl) ?_
  refine lv_icmp_eq (tgt := 486) hx hb dL_law_481 (by decide) (fun c9 => ?_) (fun c9 => absurd rfl c9)
  refine lv_iload hx hb dL_law_486 (lv_at hl 1 rfl) ?_
  refine lv_if_ne (tgt := 503) hx hb dL_law_488 (by decide) (fun c9 => ?_) (fun c9 => ?_)
  · refine lv_goto (tgt := 1131) hx hb dL_law_503 (by decide) ?_
    exact kn0 M' E' P' C' N' k kk mn md rw dg kn fc oft H locs ls hI' ⟨hP, ⟨di, hR⟩, g, hO⟩ hS (lv_sub hl [2, 3, 4, 5, 6] rfl)
  · have k0 : k = 0 := c9
    have gv : g (0 : Int32).toNatClampNeg = v := hg k0
    refine lv_aload_n hx hb dL_law_491 rfl (lv_at hl 5 rfl) ?_
    refine lv_iconst (v := 0) hx hb dL_law_492 (by decide) ?_
    refine va_lald hx hb hK hO 0 2 rfl rfl (show ¬ ((0 : Int32) < 0 ∨ 1 ≤ (0 : Int32).toNatClampNeg) by decide) dL_law_493 ?_
    refine lv_iload hx hb dL_law_494 (lv_at hl 0 rfl) ?_
    refine lv_i2l (v := r.toInt64) hx hb dL_law_496 rfl ?_
    refine W.lcmp hx hb dL_law_497 ?_
    have e0 : lg_cmp (g (0 : Int32).toNatClampNeg) r.toInt64 = 0 := by rw [gv, hv k0]; exact cmp_rf _
    refine lv_if_eq (tgt := 503) hx hb dL_law_498 (by decide) (fun c8 => ?_) (fun c8 => absurd e0 c8)
    refine lv_goto (tgt := 1131) hx hb dL_law_503 (by decide) ?_
    exact kn0 M' E' P' C' N' k kk mn md rw dg kn fc oft H locs ls hI' ⟨hP, ⟨di, hR⟩, g, hO⟩ hS (lv_sub hl [2, 3, 4, 5, 6] rfl)
set_option maxHeartbeats 4000000 in
set_option maxRecDepth 100000 in
theorem LC_reckon {p : Program} {l : Launch} {e : Env} {s : State} {m : MethodId} {below : List Frame} {meth : Method} {c : Code} {b L : Nat} {xs : Nat → Int32} (hst : l.stackTraces = false) (hL : L ≤ 4096) (C0 : lw_At p s m meth c b L xs) {D : va_G} {cI cR cL : ClassId} (hK : va_K D vwCl [(cI, .int), (cR, .object RX2), (cL, .long)] s) (hN : nw_ok nw1 s) (hT : ts_ok (fun q : Nat => s.heap.size ≤ q) s s.heap) (hc : nc_ok s) {adC adR : Nat → Nat} {o : Nat} (hW : LW s adC adR o) {M : Fin 20 → Nat → Int32} {E : Nat → Int32} {P : Nat → Fin 20} {C N : Nat → Int32} {th kk : Int32} {mn : Int64} {md rw dg : Nat → Int32} {kn fc : Int32} {oft : Nat → Int32} (hI : INV M E P C N kk mn md rw dg kn fc oft) {i : Nat} (hi : i + 8 ≤ L) {H : Heap} {locs : List Loc} {ls : Array Slot} {cells slots : Nat} (hcell : cells + 1 ≤ 636428) (hslot : slots + 6 ≤ 7186819) (hH : LH D cI cR cL adC adR o (cellC cI cR adC M E P C N) th kk mn md rw dg kn fc oft H) (hS : va_S (fun q : Nat => s.heap.size ≤ q) s.heap H locs) (hl : lv_has ls 7 [(0, .ref b), (1, .ref (adC 45)), (2, .ref (adR 0)), (3, .ref o), (4, .int (nI i))]) {Q : State → Prop} (kn0 : ∀ (M : Fin 20 → Nat → Int32) (E : Nat → Int32) (P : Nat → Fin 20) (C N : Nat → Int32) (th kk : Int32) (mn : Int64) (md rw dg : Nat → Int32) (kn fc : Int32) (oft : Nat → Int32) (H : Heap) (locs : List Loc) (ls : Array Slot), INV M E P C N kk mn md rw dg kn fc oft → LH D cI cR cL adC adR o (cellC cI cR adC M E P C N) th kk mn md rw dg kn fc oft H → va_S (fun q : Nat => s.heap.size ≤ q) s.heap H locs → lv_has ls 7 [(0, .ref b), (1, .ref (adC 45)), (2, .ref (adR 0)), (3, .ref o), (4, .int (nI i))] → W p l e room_1 s m #[Value.ref b] below meth c H locs (cells + 1) (slots + 6) Q (F0 m 1131 ls [])) : W p l e room_1 s m #[Value.ref b] below meth c H locs cells slots Q (F0 m 506 ls []) := by
  obtain ⟨hx, hb, hr, hml, hown, hts, hX, hbl, hlocks, hgv⟩ := C0
  have htsB := law_hts hts
  have hb : c.code = cL_law := hb
  have hbA : ¬ (fun q : Nat => s.heap.size ≤ q) b := Nat.not_le.mpr hbl
  obtain ⟨w1, w2, w3, w4, w5, w6, w7, w8⟩ := hW
  have wA : ∀ q, hA adC o q → s.heap.size ≤ q := fun q h => h.elim (w3 q) (fun z => z ▸ w5)
  obtain ⟨hP, ⟨di, hR⟩, g, hO⟩ := hH
  have hcell0 : cells ≤ 636428 := by omega
  have hslot0 : slots ≤ 7186819 := by omega
  obtain ⟨k, v, r, M', E', P', C', N', hI', hM, hf, hv⟩ := U_reckon l hst D (cR := cR) (cI := cI) (cL := cL) w1 hI th (xs (i + 1)) (xs (i + 2)) (xs (i + 3)) (fu := 20000000) (Nat.le_refl _)
  refine lv_aload_n hx hb dL_law_506 rfl (lv_at hl 1 rfl) ?_
  refine law_ld1 (k := 1) hx hb hX hbl hbA hS (by omega) hL (lv_at hl 0 rfl) (lv_at hl 4 rfl) (by decide) dL_law_507 dL_law_508 dL_law_510 dL_law_511 dL_law_512 ?_
  refine law_ld1 (k := 2) hx hb hX hbl hbA hS (by omega) hL (lv_at hl 0 rfl) (lv_at hl 4 rfl) (by decide) dL_law_513 dL_law_514 dL_law_516 dL_law_517 dL_law_518 ?_
  refine law_ld1 (k := 3) hx hb hX hbl hbA hS (by omega) hL (lv_at hl 0 rfl) (lv_at hl 4 rfl) (by decide) dL_law_519 dL_law_520 dL_law_522 dL_law_523 dL_law_524 ?_
  refine lv_aload_n hx hb dL_law_525 rfl (lv_at hl 3 rfl) ?_
  refine ct_callH (vx_runSW (As := [.ref (adC 45), .int (xs (i + 1)), .int (xs (i + 2)), .int (xs (i + 3)), .ref o]) (rest := []) ⟨hx, hb, hml, hown, htsB⟩ (hM o g w7) (vx_cwSW 5 htsB (gu_SW mw_573 mw_574 mw_551 mw_497) rfl rfl rfl (by decide +kernel) ⟨Nat.le_of_ble_eq_true rfl, Nat.le_of_ble_eq_true rfl⟩) (hB_pre nw1_kind hP hO hK hN hT hS w3 hc) rfl rfl hl.1 rfl (lv_room (Nat.le_of_ble_eq_true rfl)) dL_law_526 ⟨hcell, hslot⟩) hS wA (fun H locs g hP hO hg hk hS => ?_)
  have hR := ww_kept hR hk (fun q h z => z.elim (fun z => w6 q z h) (fun z => w8 (z ▸ h)))
  refine lv_istore (lv' := [(5, .int k), (0, .ref b), (1, .ref (adC 45)), (2, .ref (adR 0)), (3, .ref o), (4, .int (nI i))]) hx hb dL_law_529 hl (by decide) rfl (fun ls hl => ?_)
  refine lv_aload_n hx hb dL_law_531 rfl (lv_at hl 3 rfl) ?_
  refine law_ld1 (k := 1) hx hb hX hbl hbA hS (by omega) hL (lv_at hl 1 rfl) (lv_at hl 5 rfl) (by decide) dL_law_532 dL_law_533 dL_law_535 dL_law_536 dL_law_537 ?_
  refine law_ld1 (k := 2) hx hb hX hbl hbA hS (by omega) hL (lv_at hl 1 rfl) (lv_at hl 5 rfl) (by decide) dL_law_538 dL_law_539 dL_law_541 dL_law_542 dL_law_543 ?_
  refine law_ld1 (k := 3) hx hb hX hbl hbA hS (by omega) hL (lv_at hl 1 rfl) (lv_at hl 5 rfl) (by decide) dL_law_544 dL_law_545 dL_law_547 dL_law_548 dL_law_549 ?_
  refine ct_callxA (va_runV (As := [.int (xs (i + 1)), .int (xs (i + 2)), .int (xs (i + 3))]) (rest := []) ⟨hx, hb, hml, hown, htsB⟩ (C_X5_reckon l D [(cI, .int), (cR, .object RX2), (cL, .long)] w2 rfl hf) (cwV 3 htsB (gu_V mw_575 mw_576 mw_577 mw_330 mw_408) rfl rfl rfl (by decide +kernel) ⟨Nat.le_of_ble_eq_true rfl, Nat.le_of_ble_eq_true rfl⟩) (ct_preVx (w := fun di => ww 6 adR (cellR cI adR th kk mn md rw dg kn fc oft di)) hR hK (ci := 5) (k := 0) rfl cr_mdl) rfl rfl hl.1 rfl (lv_room (Nat.le_of_ble_eq_true rfl)) dL_law_550 ⟨hcell, hslot⟩) hS w4 (fun di H locs hR hk hS => ?_)
  have hP := ww_kept hP hk w6
  have hO := oC_kept hO hk w8
  refine lv_istore (lv' := [(6, .int r), (5, .int k), (0, .ref b), (1, .ref (adC 45)), (2, .ref (adR 0)), (3, .ref o), (4, .int (nI i))]) hx hb dL_law_553 hl (by decide) rfl (fun ls hl => ?_)
  refine lv_aload_n hx hb dL_law_555 rfl (lv_at hl 4 rfl) ?_
  refine ct_callxA (va_runV (As := []) (rest := []) ⟨hx, hb, hml, hown, htsB⟩ (C_X5_thrown l D [(cI, .int), (cR, .object RX2), (cL, .long)] w2 rfl (th := k) rfl) (cwV 0 htsB (gu_V mw_555 mw_556 mw_557 mw_330 mw_320) rfl rfl rfl (by decide +kernel) ⟨Nat.le_of_ble_eq_true rfl, Nat.le_of_ble_eq_true rfl⟩) (ct_preVx (w := fun di => ww 6 adR (cellR cI adR k kk mn md rw dg kn fc oft di)) hR hK (ci := 5) (k := 0) rfl cr_mdl) rfl rfl hl.1 rfl (lv_room (Nat.le_of_ble_eq_true rfl)) dL_law_556 ⟨hcell, hslot⟩) hS w4 (fun di H locs hR hk hS => ?_)
  have hP := ww_kept hP hk w6
  have hO := oC_kept hO hk w8
  refine lv_iload hx hb dL_law_559 (lv_at hl 1 rfl) ?_
  refine lv_icmp_eq (tgt := 566) hx hb dL_law_561 (by decide) (fun c9 => ?_) (fun c9 => absurd rfl c9)
  refine lv_iload hx hb dL_law_566 (lv_at hl 1 rfl) ?_
  refine lv_if_ne (tgt := 583) hx hb dL_law_568 (by decide) (fun c9 => ?_) (fun c9 => ?_)
  · refine lv_goto (tgt := 1131) hx hb dL_law_583 (by decide) ?_
    exact kn0 M' E' P' C' N' k kk mn md rw dg kn fc oft H locs ls hI' ⟨hP, ⟨di, hR⟩, g, hO⟩ hS (lv_sub hl [2, 3, 4, 5, 6] rfl)
  · have k0 : k = 0 := c9
    have gv : g (0 : Int32).toNatClampNeg = v := hg k0
    refine lv_aload_n hx hb dL_law_571 rfl (lv_at hl 5 rfl) ?_
    refine lv_iconst (v := 0) hx hb dL_law_572 (by decide) ?_
    refine va_lald hx hb hK hO 0 2 rfl rfl (show ¬ ((0 : Int32) < 0 ∨ 1 ≤ (0 : Int32).toNatClampNeg) by decide) dL_law_573 ?_
    refine lv_iload hx hb dL_law_574 (lv_at hl 0 rfl) ?_
    refine lv_i2l (v := r.toInt64) hx hb dL_law_576 rfl ?_
    refine W.lcmp hx hb dL_law_577 ?_
    have e0 : lg_cmp (g (0 : Int32).toNatClampNeg) r.toInt64 = 0 := by rw [gv, hv k0]; exact cmp_rf _
    refine lv_if_eq (tgt := 583) hx hb dL_law_578 (by decide) (fun c8 => ?_) (fun c8 => absurd e0 c8)
    refine lv_goto (tgt := 1131) hx hb dL_law_583 (by decide) ?_
    exact kn0 M' E' P' C' N' k kk mn md rw dg kn fc oft H locs ls hI' ⟨hP, ⟨di, hR⟩, g, hO⟩ hS (lv_sub hl [2, 3, 4, 5, 6] rfl)
set_option maxHeartbeats 4000000 in
set_option maxRecDepth 100000 in
theorem LC_known {p : Program} {l : Launch} {e : Env} {s : State} {m : MethodId} {below : List Frame} {meth : Method} {c : Code} {b L : Nat} {xs : Nat → Int32} (hst : l.stackTraces = false) (hL : L ≤ 4096) (C0 : lw_At p s m meth c b L xs) {D : va_G} {cI cR cL : ClassId} (hK : va_K D vwCl [(cI, .int), (cR, .object RX2), (cL, .long)] s) (hN : nw_ok nw1 s) (hT : ts_ok (fun q : Nat => s.heap.size ≤ q) s s.heap) (hc : nc_ok s) {adC adR : Nat → Nat} {o : Nat} (hW : LW s adC adR o) {M : Fin 20 → Nat → Int32} {E : Nat → Int32} {P : Nat → Fin 20} {C N : Nat → Int32} {th kk : Int32} {mn : Int64} {md rw dg : Nat → Int32} {kn fc : Int32} {oft : Nat → Int32} (hI : INV M E P C N kk mn md rw dg kn fc oft) {i : Nat} (hi : i + 8 ≤ L) {H : Heap} {locs : List Loc} {ls : Array Slot} {cells slots : Nat} (hcell : cells + 1 ≤ 636428) (hslot : slots + 6 ≤ 7186819) (hH : LH D cI cR cL adC adR o (cellC cI cR adC M E P C N) th kk mn md rw dg kn fc oft H) (hS : va_S (fun q : Nat => s.heap.size ≤ q) s.heap H locs) (hl : lv_has ls 7 [(0, .ref b), (1, .ref (adC 45)), (2, .ref (adR 0)), (3, .ref o), (4, .int (nI i))]) {Q : State → Prop} (kn0 : ∀ (M : Fin 20 → Nat → Int32) (E : Nat → Int32) (P : Nat → Fin 20) (C N : Nat → Int32) (th kk : Int32) (mn : Int64) (md rw dg : Nat → Int32) (kn fc : Int32) (oft : Nat → Int32) (H : Heap) (locs : List Loc) (ls : Array Slot), INV M E P C N kk mn md rw dg kn fc oft → LH D cI cR cL adC adR o (cellC cI cR adC M E P C N) th kk mn md rw dg kn fc oft H → va_S (fun q : Nat => s.heap.size ≤ q) s.heap H locs → lv_has ls 7 [(0, .ref b), (1, .ref (adC 45)), (2, .ref (adR 0)), (3, .ref o), (4, .int (nI i))] → W p l e room_1 s m #[Value.ref b] below meth c H locs (cells + 1) (slots + 6) Q (F0 m 1131 ls [])) : W p l e room_1 s m #[Value.ref b] below meth c H locs cells slots Q (F0 m 586 ls []) := by
  obtain ⟨hx, hb, hr, hml, hown, hts, hX, hbl, hlocks, hgv⟩ := C0
  have htsB := law_hts hts
  have hb : c.code = cL_law := hb
  have hbA : ¬ (fun q : Nat => s.heap.size ≤ q) b := Nat.not_le.mpr hbl
  obtain ⟨w1, w2, w3, w4, w5, w6, w7, w8⟩ := hW
  have wA : ∀ q, hA adC o q → s.heap.size ≤ q := fun q h => h.elim (w3 q) (fun z => z ▸ w5)
  obtain ⟨hP, ⟨di, hR⟩, g, hO⟩ := hH
  have hcell0 : cells ≤ 636428 := by omega
  have hslot0 : slots ≤ 7186819 := by omega
  obtain ⟨k, v, r, M', E', P', C', N', hI', hM, hf, hv⟩ := U_known l hst D (cR := cR) (cI := cI) (cL := cL) w1 hI th (xs (i + 1)) (xs (i + 2)) (fu := 20000000) (Nat.le_refl _)
  refine lv_aload_n hx hb dL_law_586 rfl (lv_at hl 1 rfl) ?_
  refine law_ld1 (k := 1) hx hb hX hbl hbA hS (by omega) hL (lv_at hl 0 rfl) (lv_at hl 4 rfl) (by decide) dL_law_587 dL_law_588 dL_law_590 dL_law_591 dL_law_592 ?_
  refine law_ld1 (k := 2) hx hb hX hbl hbA hS (by omega) hL (lv_at hl 0 rfl) (lv_at hl 4 rfl) (by decide) dL_law_593 dL_law_594 dL_law_596 dL_law_597 dL_law_598 ?_
  refine lv_aload_n hx hb dL_law_599 rfl (lv_at hl 3 rfl) ?_
  refine ct_callH (vx_runSW (As := [.ref (adC 45), .int (xs (i + 1)), .int (xs (i + 2)), .ref o]) (rest := []) ⟨hx, hb, hml, hown, htsB⟩ (hM o g w7) (vx_cwSW 4 htsB (gu_SW mw_578 mw_579 mw_551 mw_501) rfl rfl rfl (by decide +kernel) ⟨Nat.le_of_ble_eq_true rfl, Nat.le_of_ble_eq_true rfl⟩) (hB_pre nw1_kind hP hO hK hN hT hS w3 hc) rfl rfl hl.1 rfl (lv_room (Nat.le_of_ble_eq_true rfl)) dL_law_600 ⟨hcell, hslot⟩) hS wA (fun H locs g hP hO hg hk hS => ?_)
  have hR := ww_kept hR hk (fun q h z => z.elim (fun z => w6 q z h) (fun z => w8 (z ▸ h)))
  refine lv_istore (lv' := [(5, .int k), (0, .ref b), (1, .ref (adC 45)), (2, .ref (adR 0)), (3, .ref o), (4, .int (nI i))]) hx hb dL_law_603 hl (by decide) rfl (fun ls hl => ?_)
  refine lv_aload_n hx hb dL_law_605 rfl (lv_at hl 3 rfl) ?_
  refine law_ld1 (k := 1) hx hb hX hbl hbA hS (by omega) hL (lv_at hl 1 rfl) (lv_at hl 5 rfl) (by decide) dL_law_606 dL_law_607 dL_law_609 dL_law_610 dL_law_611 ?_
  refine law_ld1 (k := 2) hx hb hX hbl hbA hS (by omega) hL (lv_at hl 1 rfl) (lv_at hl 5 rfl) (by decide) dL_law_612 dL_law_613 dL_law_615 dL_law_616 dL_law_617 ?_
  refine ct_callxA (va_runV (As := [.int (xs (i + 1)), .int (xs (i + 2))]) (rest := []) ⟨hx, hb, hml, hown, htsB⟩ (C_X5_known l D [(cI, .int), (cR, .object RX2), (cL, .long)] w2 rfl hf) (cwV 2 htsB (gu_V mw_580 mw_581 mw_582 mw_330 mw_412) rfl rfl rfl (by decide +kernel) ⟨Nat.le_of_ble_eq_true rfl, Nat.le_of_ble_eq_true rfl⟩) (ct_preVx (w := fun di => ww 6 adR (cellR cI adR th kk mn md rw dg kn fc oft di)) hR hK (ci := 5) (k := 0) rfl cr_mdl) rfl rfl hl.1 rfl (lv_room (Nat.le_of_ble_eq_true rfl)) dL_law_618 ⟨hcell, hslot⟩) hS w4 (fun di H locs hR hk hS => ?_)
  have hP := ww_kept hP hk w6
  have hO := oC_kept hO hk w8
  refine lv_istore (lv' := [(6, .int r), (5, .int k), (0, .ref b), (1, .ref (adC 45)), (2, .ref (adR 0)), (3, .ref o), (4, .int (nI i))]) hx hb dL_law_621 hl (by decide) rfl (fun ls hl => ?_)
  refine lv_aload_n hx hb dL_law_623 rfl (lv_at hl 4 rfl) ?_
  refine ct_callxA (va_runV (As := []) (rest := []) ⟨hx, hb, hml, hown, htsB⟩ (C_X5_thrown l D [(cI, .int), (cR, .object RX2), (cL, .long)] w2 rfl (th := k) rfl) (cwV 0 htsB (gu_V mw_555 mw_556 mw_557 mw_330 mw_320) rfl rfl rfl (by decide +kernel) ⟨Nat.le_of_ble_eq_true rfl, Nat.le_of_ble_eq_true rfl⟩) (ct_preVx (w := fun di => ww 6 adR (cellR cI adR k kk mn md rw dg kn fc oft di)) hR hK (ci := 5) (k := 0) rfl cr_mdl) rfl rfl hl.1 rfl (lv_room (Nat.le_of_ble_eq_true rfl)) dL_law_624 ⟨hcell, hslot⟩) hS w4 (fun di H locs hR hk hS => ?_)
  have hP := ww_kept hP hk w6
  have hO := oC_kept hO hk w8
  refine lv_iload hx hb dL_law_627 (lv_at hl 1 rfl) ?_
  refine lv_icmp_eq (tgt := 634) hx hb dL_law_629 (by decide) (fun c9 => ?_) (fun c9 => absurd rfl c9)
  refine lv_iload hx hb dL_law_634 (lv_at hl 1 rfl) ?_
  refine lv_if_ne (tgt := 651) hx hb dL_law_636 (by decide) (fun c9 => ?_) (fun c9 => ?_)
  · refine lv_goto (tgt := 1131) hx hb dL_law_651 (by decide) ?_
    exact kn0 M' E' P' C' N' k kk mn md rw dg kn fc oft H locs ls hI' ⟨hP, ⟨di, hR⟩, g, hO⟩ hS (lv_sub hl [2, 3, 4, 5, 6] rfl)
  · have k0 : k = 0 := c9
    have gv : g (0 : Int32).toNatClampNeg = v := hg k0
    refine lv_aload_n hx hb dL_law_639 rfl (lv_at hl 5 rfl) ?_
    refine lv_iconst (v := 0) hx hb dL_law_640 (by decide) ?_
    refine va_lald hx hb hK hO 0 2 rfl rfl (show ¬ ((0 : Int32) < 0 ∨ 1 ≤ (0 : Int32).toNatClampNeg) by decide) dL_law_641 ?_
    refine lv_iload hx hb dL_law_642 (lv_at hl 0 rfl) ?_
    refine lv_i2l (v := r.toInt64) hx hb dL_law_644 rfl ?_
    refine W.lcmp hx hb dL_law_645 ?_
    have e0 : lg_cmp (g (0 : Int32).toNatClampNeg) r.toInt64 = 0 := by rw [gv, hv k0]; exact cmp_rf _
    refine lv_if_eq (tgt := 651) hx hb dL_law_646 (by decide) (fun c8 => ?_) (fun c8 => absurd e0 c8)
    refine lv_goto (tgt := 1131) hx hb dL_law_651 (by decide) ?_
    exact kn0 M' E' P' C' N' k kk mn md rw dg kn fc oft H locs ls hI' ⟨hP, ⟨di, hR⟩, g, hO⟩ hS (lv_sub hl [2, 3, 4, 5, 6] rfl)
set_option maxHeartbeats 4000000 in
set_option maxRecDepth 100000 in
theorem LC_minimal {p : Program} {l : Launch} {e : Env} {s : State} {m : MethodId} {below : List Frame} {meth : Method} {c : Code} {b L : Nat} {xs : Nat → Int32} (hst : l.stackTraces = false) (hL : L ≤ 4096) (C0 : lw_At p s m meth c b L xs) {D : va_G} {cI cR cL : ClassId} (hK : va_K D vwCl [(cI, .int), (cR, .object RX2), (cL, .long)] s) (hN : nw_ok nw1 s) (hT : ts_ok (fun q : Nat => s.heap.size ≤ q) s s.heap) (hc : nc_ok s) {adC adR : Nat → Nat} {o : Nat} (hW : LW s adC adR o) {M : Fin 20 → Nat → Int32} {E : Nat → Int32} {P : Nat → Fin 20} {C N : Nat → Int32} {th kk : Int32} {mn : Int64} {md rw dg : Nat → Int32} {kn fc : Int32} {oft : Nat → Int32} (hI : INV M E P C N kk mn md rw dg kn fc oft) {i : Nat} (hi : i + 8 ≤ L) {H : Heap} {locs : List Loc} {ls : Array Slot} {cells slots : Nat} (hcell : cells + 1 ≤ 636428) (hslot : slots + 6 ≤ 7186819) (hH : LH D cI cR cL adC adR o (cellC cI cR adC M E P C N) th kk mn md rw dg kn fc oft H) (hS : va_S (fun q : Nat => s.heap.size ≤ q) s.heap H locs) (hl : lv_has ls 7 [(0, .ref b), (1, .ref (adC 45)), (2, .ref (adR 0)), (3, .ref o), (4, .int (nI i))]) {Q : State → Prop} (kn0 : ∀ (M : Fin 20 → Nat → Int32) (E : Nat → Int32) (P : Nat → Fin 20) (C N : Nat → Int32) (th kk : Int32) (mn : Int64) (md rw dg : Nat → Int32) (kn fc : Int32) (oft : Nat → Int32) (H : Heap) (locs : List Loc) (ls : Array Slot), INV M E P C N kk mn md rw dg kn fc oft → LH D cI cR cL adC adR o (cellC cI cR adC M E P C N) th kk mn md rw dg kn fc oft H → va_S (fun q : Nat => s.heap.size ≤ q) s.heap H locs → lv_has ls 7 [(0, .ref b), (1, .ref (adC 45)), (2, .ref (adR 0)), (3, .ref o), (4, .int (nI i))] → W p l e room_1 s m #[Value.ref b] below meth c H locs (cells + 1) (slots + 6) Q (F0 m 1131 ls [])) : W p l e room_1 s m #[Value.ref b] below meth c H locs cells slots Q (F0 m 654 ls []) := by
  obtain ⟨hx, hb, hr, hml, hown, hts, hX, hbl, hlocks, hgv⟩ := C0
  have htsB := law_hts hts
  have hb : c.code = cL_law := hb
  have hbA : ¬ (fun q : Nat => s.heap.size ≤ q) b := Nat.not_le.mpr hbl
  obtain ⟨w1, w2, w3, w4, w5, w6, w7, w8⟩ := hW
  have wA : ∀ q, hA adC o q → s.heap.size ≤ q := fun q h => h.elim (w3 q) (fun z => z ▸ w5)
  obtain ⟨hP, ⟨di, hR⟩, g, hO⟩ := hH
  have hcell0 : cells ≤ 636428 := by omega
  have hslot0 : slots ≤ 7186819 := by omega
  obtain ⟨k, v, r, M', E', P', C', N', rw', dg', hI', hM, hf, hv⟩ := U_minimal l hst D (cR := cR) (cI := cI) (cL := cL) w1 hI th (xs (i + 1)) (xs (i + 2)) (fu := 20000000) (Nat.le_refl _)
  refine lv_aload_n hx hb dL_law_654 rfl (lv_at hl 1 rfl) ?_
  refine law_ld1 (k := 1) hx hb hX hbl hbA hS (by omega) hL (lv_at hl 0 rfl) (lv_at hl 4 rfl) (by decide) dL_law_655 dL_law_656 dL_law_658 dL_law_659 dL_law_660 ?_
  refine law_ld1 (k := 2) hx hb hX hbl hbA hS (by omega) hL (lv_at hl 0 rfl) (lv_at hl 4 rfl) (by decide) dL_law_661 dL_law_662 dL_law_664 dL_law_665 dL_law_666 ?_
  refine lv_aload_n hx hb dL_law_667 rfl (lv_at hl 3 rfl) ?_
  refine ct_callH (vx_runSW (As := [.ref (adC 45), .int (xs (i + 1)), .int (xs (i + 2)), .ref o]) (rest := []) ⟨hx, hb, hml, hown, htsB⟩ (hM o g w7) (vx_cwSW 4 htsB (gu_SW mw_583 mw_584 mw_551 mw_505) rfl rfl rfl (by decide +kernel) ⟨Nat.le_of_ble_eq_true rfl, Nat.le_of_ble_eq_true rfl⟩) (hB_pre nw1_kind hP hO hK hN hT hS w3 hc) rfl rfl hl.1 rfl (lv_room (Nat.le_of_ble_eq_true rfl)) dL_law_668 ⟨hcell, hslot⟩) hS wA (fun H locs g hP hO hg hk hS => ?_)
  have hR := ww_kept hR hk (fun q h z => z.elim (fun z => w6 q z h) (fun z => w8 (z ▸ h)))
  refine lv_istore (lv' := [(5, .int k), (0, .ref b), (1, .ref (adC 45)), (2, .ref (adR 0)), (3, .ref o), (4, .int (nI i))]) hx hb dL_law_671 hl (by decide) rfl (fun ls hl => ?_)
  refine lv_aload_n hx hb dL_law_673 rfl (lv_at hl 3 rfl) ?_
  refine law_ld1 (k := 1) hx hb hX hbl hbA hS (by omega) hL (lv_at hl 1 rfl) (lv_at hl 5 rfl) (by decide) dL_law_674 dL_law_675 dL_law_677 dL_law_678 dL_law_679 ?_
  refine law_ld1 (k := 2) hx hb hX hbl hbA hS (by omega) hL (lv_at hl 1 rfl) (lv_at hl 5 rfl) (by decide) dL_law_680 dL_law_681 dL_law_683 dL_law_684 dL_law_685 ?_
  refine ct_callxA (va_runV (As := [.int (xs (i + 1)), .int (xs (i + 2))]) (rest := []) ⟨hx, hb, hml, hown, htsB⟩ (C_X5_minimal l D [(cI, .int), (cR, .object RX2), (cL, .long)] w2 rfl hf) (cwV 2 htsB (gu_V mw_585 mw_586 mw_587 mw_330 mw_413) rfl rfl rfl (by decide +kernel) ⟨Nat.le_of_ble_eq_true rfl, Nat.le_of_ble_eq_true rfl⟩) (ct_preVx (w := fun di => ww 6 adR (cellR cI adR th kk mn md rw dg kn fc oft di)) hR hK (ci := 5) (k := 0) rfl cr_mdl) rfl rfl hl.1 rfl (lv_room (Nat.le_of_ble_eq_true rfl)) dL_law_686 ⟨hcell, hslot⟩) hS w4 (fun di H locs hR hk hS => ?_)
  have hP := ww_kept hP hk w6
  have hO := oC_kept hO hk w8
  refine lv_istore (lv' := [(6, .int r), (5, .int k), (0, .ref b), (1, .ref (adC 45)), (2, .ref (adR 0)), (3, .ref o), (4, .int (nI i))]) hx hb dL_law_689 hl (by decide) rfl (fun ls hl => ?_)
  refine lv_aload_n hx hb dL_law_691 rfl (lv_at hl 4 rfl) ?_
  refine ct_callxA (va_runV (As := []) (rest := []) ⟨hx, hb, hml, hown, htsB⟩ (C_X5_thrown l D [(cI, .int), (cR, .object RX2), (cL, .long)] w2 rfl (th := k) rfl) (cwV 0 htsB (gu_V mw_555 mw_556 mw_557 mw_330 mw_320) rfl rfl rfl (by decide +kernel) ⟨Nat.le_of_ble_eq_true rfl, Nat.le_of_ble_eq_true rfl⟩) (ct_preVx (w := fun di => ww 6 adR (cellR cI adR k kk mn md rw' dg' kn fc oft di)) hR hK (ci := 5) (k := 0) rfl cr_mdl) rfl rfl hl.1 rfl (lv_room (Nat.le_of_ble_eq_true rfl)) dL_law_692 ⟨hcell, hslot⟩) hS w4 (fun di H locs hR hk hS => ?_)
  have hP := ww_kept hP hk w6
  have hO := oC_kept hO hk w8
  refine lv_iload hx hb dL_law_695 (lv_at hl 1 rfl) ?_
  refine lv_icmp_eq (tgt := 702) hx hb dL_law_697 (by decide) (fun c9 => ?_) (fun c9 => absurd rfl c9)
  refine lv_iload hx hb dL_law_702 (lv_at hl 1 rfl) ?_
  refine lv_if_ne (tgt := 719) hx hb dL_law_704 (by decide) (fun c9 => ?_) (fun c9 => ?_)
  · refine lv_goto (tgt := 1131) hx hb dL_law_719 (by decide) ?_
    exact kn0 M' E' P' C' N' k kk mn md rw' dg' kn fc oft H locs ls hI' ⟨hP, ⟨di, hR⟩, g, hO⟩ hS (lv_sub hl [2, 3, 4, 5, 6] rfl)
  · have k0 : k = 0 := c9
    have gv : g (0 : Int32).toNatClampNeg = v := hg k0
    refine lv_aload_n hx hb dL_law_707 rfl (lv_at hl 5 rfl) ?_
    refine lv_iconst (v := 0) hx hb dL_law_708 (by decide) ?_
    refine va_lald hx hb hK hO 0 2 rfl rfl (show ¬ ((0 : Int32) < 0 ∨ 1 ≤ (0 : Int32).toNatClampNeg) by decide) dL_law_709 ?_
    refine lv_iload hx hb dL_law_710 (lv_at hl 0 rfl) ?_
    refine lv_i2l (v := r.toInt64) hx hb dL_law_712 rfl ?_
    refine W.lcmp hx hb dL_law_713 ?_
    have e0 : lg_cmp (g (0 : Int32).toNatClampNeg) r.toInt64 = 0 := by rw [gv, hv k0]; exact cmp_rf _
    refine lv_if_eq (tgt := 719) hx hb dL_law_714 (by decide) (fun c8 => ?_) (fun c8 => absurd e0 c8)
    refine lv_goto (tgt := 1131) hx hb dL_law_719 (by decide) ?_
    exact kn0 M' E' P' C' N' k kk mn md rw' dg' kn fc oft H locs ls hI' ⟨hP, ⟨di, hR⟩, g, hO⟩ hS (lv_sub hl [2, 3, 4, 5, 6] rfl)
set_option maxHeartbeats 4000000 in
set_option maxRecDepth 100000 in
theorem LC_value {p : Program} {l : Launch} {e : Env} {s : State} {m : MethodId} {below : List Frame} {meth : Method} {c : Code} {b L : Nat} {xs : Nat → Int32} (hst : l.stackTraces = false) (hL : L ≤ 4096) (C0 : lw_At p s m meth c b L xs) {D : va_G} {cI cR cL : ClassId} (hK : va_K D vwCl [(cI, .int), (cR, .object RX2), (cL, .long)] s) (hN : nw_ok nw1 s) (hT : ts_ok (fun q : Nat => s.heap.size ≤ q) s s.heap) (hc : nc_ok s) {adC adR : Nat → Nat} {o : Nat} (hW : LW s adC adR o) {M : Fin 20 → Nat → Int32} {E : Nat → Int32} {P : Nat → Fin 20} {C N : Nat → Int32} {th kk : Int32} {mn : Int64} {md rw dg : Nat → Int32} {kn fc : Int32} {oft : Nat → Int32} (hI : INV M E P C N kk mn md rw dg kn fc oft) {i : Nat} (hi : i + 8 ≤ L) {H : Heap} {locs : List Loc} {ls : Array Slot} {cells slots : Nat} (hcell : cells + 1 ≤ 636428) (hslot : slots + 6 ≤ 7186819) (hH : LH D cI cR cL adC adR o (cellC cI cR adC M E P C N) th kk mn md rw dg kn fc oft H) (hS : va_S (fun q : Nat => s.heap.size ≤ q) s.heap H locs) (hl : lv_has ls 7 [(0, .ref b), (1, .ref (adC 45)), (2, .ref (adR 0)), (3, .ref o), (4, .int (nI i))]) {Q : State → Prop} (kn0 : ∀ (M : Fin 20 → Nat → Int32) (E : Nat → Int32) (P : Nat → Fin 20) (C N : Nat → Int32) (th kk : Int32) (mn : Int64) (md rw dg : Nat → Int32) (kn fc : Int32) (oft : Nat → Int32) (H : Heap) (locs : List Loc) (ls : Array Slot), INV M E P C N kk mn md rw dg kn fc oft → LH D cI cR cL adC adR o (cellC cI cR adC M E P C N) th kk mn md rw dg kn fc oft H → va_S (fun q : Nat => s.heap.size ≤ q) s.heap H locs → lv_has ls 7 [(0, .ref b), (1, .ref (adC 45)), (2, .ref (adR 0)), (3, .ref o), (4, .int (nI i))] → W p l e room_1 s m #[Value.ref b] below meth c H locs (cells + 1) (slots + 6) Q (F0 m 1131 ls [])) : W p l e room_1 s m #[Value.ref b] below meth c H locs cells slots Q (F0 m 722 ls []) := by
  obtain ⟨hx, hb, hr, hml, hown, hts, hX, hbl, hlocks, hgv⟩ := C0
  have htsB := law_hts hts
  have hb : c.code = cL_law := hb
  have hbA : ¬ (fun q : Nat => s.heap.size ≤ q) b := Nat.not_le.mpr hbl
  obtain ⟨w1, w2, w3, w4, w5, w6, w7, w8⟩ := hW
  have wA : ∀ q, hA adC o q → s.heap.size ≤ q := fun q h => h.elim (w3 q) (fun z => z ▸ w5)
  obtain ⟨hP, ⟨di, hR⟩, g, hO⟩ := hH
  have hcell0 : cells ≤ 636428 := by omega
  have hslot0 : slots ≤ 7186819 := by omega
  obtain ⟨k, v, r, M', E', P', C', N', hI', hM, hf, hv⟩ := U_value l hst D (cR := cR) (cI := cI) (cL := cL) w1 hI th (xs (i + 1)) (fu := 20000000) (Nat.le_refl _)
  refine lv_aload_n hx hb dL_law_722 rfl (lv_at hl 1 rfl) ?_
  refine law_ld1 (k := 1) hx hb hX hbl hbA hS (by omega) hL (lv_at hl 0 rfl) (lv_at hl 4 rfl) (by decide) dL_law_723 dL_law_724 dL_law_726 dL_law_727 dL_law_728 ?_
  refine lv_aload_n hx hb dL_law_729 rfl (lv_at hl 3 rfl) ?_
  refine ct_callH (vx_runSW (As := [.ref (adC 45), .int (xs (i + 1)), .ref o]) (rest := []) ⟨hx, hb, hml, hown, htsB⟩ (hM o g w7) (vx_cwSW 3 htsB (gu_SW mw_588 mw_589 mw_551 mw_509) rfl rfl rfl (by decide +kernel) ⟨Nat.le_of_ble_eq_true rfl, Nat.le_of_ble_eq_true rfl⟩) (hB_pre nw1_kind hP hO hK hN hT hS w3 hc) rfl rfl hl.1 rfl (lv_room (Nat.le_of_ble_eq_true rfl)) dL_law_730 ⟨hcell, hslot⟩) hS wA (fun H locs g hP hO hg hk hS => ?_)
  have hR := ww_kept hR hk (fun q h z => z.elim (fun z => w6 q z h) (fun z => w8 (z ▸ h)))
  refine lv_istore (lv' := [(5, .int k), (0, .ref b), (1, .ref (adC 45)), (2, .ref (adR 0)), (3, .ref o), (4, .int (nI i))]) hx hb dL_law_733 hl (by decide) rfl (fun ls hl => ?_)
  refine lv_aload_n hx hb dL_law_735 rfl (lv_at hl 3 rfl) ?_
  refine law_ld1 (k := 1) hx hb hX hbl hbA hS (by omega) hL (lv_at hl 1 rfl) (lv_at hl 5 rfl) (by decide) dL_law_736 dL_law_737 dL_law_739 dL_law_740 dL_law_741 ?_
  refine ct_callxA (va_runV (As := [.int (xs (i + 1))]) (rest := []) ⟨hx, hb, hml, hown, htsB⟩ (C_X5_value l D [(cI, .int), (cR, .object RX2), (cL, .long)] w2 rfl hf) (cwV 1 htsB (gu_V mw_590 mw_591 mw_592 mw_330 mw_414) rfl rfl rfl (by decide +kernel) ⟨Nat.le_of_ble_eq_true rfl, Nat.le_of_ble_eq_true rfl⟩) (ct_preVx (w := fun di => ww 6 adR (cellR cI adR th kk mn md rw dg kn fc oft di)) hR hK (ci := 5) (k := 0) rfl cr_mdl) rfl rfl hl.1 rfl (lv_room (Nat.le_of_ble_eq_true rfl)) dL_law_742 ⟨hcell, hslot⟩) hS w4 (fun di H locs hR hk hS => ?_)
  have hP := ww_kept hP hk w6
  have hO := oC_kept hO hk w8
  refine lv_istore (lv' := [(6, .int r), (5, .int k), (0, .ref b), (1, .ref (adC 45)), (2, .ref (adR 0)), (3, .ref o), (4, .int (nI i))]) hx hb dL_law_745 hl (by decide) rfl (fun ls hl => ?_)
  refine lv_aload_n hx hb dL_law_747 rfl (lv_at hl 4 rfl) ?_
  refine ct_callxA (va_runV (As := []) (rest := []) ⟨hx, hb, hml, hown, htsB⟩ (C_X5_thrown l D [(cI, .int), (cR, .object RX2), (cL, .long)] w2 rfl (th := k) rfl) (cwV 0 htsB (gu_V mw_555 mw_556 mw_557 mw_330 mw_320) rfl rfl rfl (by decide +kernel) ⟨Nat.le_of_ble_eq_true rfl, Nat.le_of_ble_eq_true rfl⟩) (ct_preVx (w := fun di => ww 6 adR (cellR cI adR k kk mn md rw dg kn fc oft di)) hR hK (ci := 5) (k := 0) rfl cr_mdl) rfl rfl hl.1 rfl (lv_room (Nat.le_of_ble_eq_true rfl)) dL_law_748 ⟨hcell, hslot⟩) hS w4 (fun di H locs hR hk hS => ?_)
  have hP := ww_kept hP hk w6
  have hO := oC_kept hO hk w8
  refine lv_iload hx hb dL_law_751 (lv_at hl 1 rfl) ?_
  refine lv_icmp_eq (tgt := 758) hx hb dL_law_753 (by decide) (fun c9 => ?_) (fun c9 => absurd rfl c9)
  refine lv_iload hx hb dL_law_758 (lv_at hl 1 rfl) ?_
  refine lv_if_ne (tgt := 775) hx hb dL_law_760 (by decide) (fun c9 => ?_) (fun c9 => ?_)
  · refine lv_goto (tgt := 1131) hx hb dL_law_775 (by decide) ?_
    exact kn0 M' E' P' C' N' k kk mn md rw dg kn fc oft H locs ls hI' ⟨hP, ⟨di, hR⟩, g, hO⟩ hS (lv_sub hl [2, 3, 4, 5, 6] rfl)
  · have k0 : k = 0 := c9
    have gv : g (0 : Int32).toNatClampNeg = v := hg k0
    refine lv_aload_n hx hb dL_law_763 rfl (lv_at hl 5 rfl) ?_
    refine lv_iconst (v := 0) hx hb dL_law_764 (by decide) ?_
    refine va_lald hx hb hK hO 0 2 rfl rfl (show ¬ ((0 : Int32) < 0 ∨ 1 ≤ (0 : Int32).toNatClampNeg) by decide) dL_law_765 ?_
    refine lv_iload hx hb dL_law_766 (lv_at hl 0 rfl) ?_
    refine lv_i2l (v := r.toInt64) hx hb dL_law_768 rfl ?_
    refine W.lcmp hx hb dL_law_769 ?_
    have e0 : lg_cmp (g (0 : Int32).toNatClampNeg) r.toInt64 = 0 := by rw [gv, hv k0]; exact cmp_rf _
    refine lv_if_eq (tgt := 775) hx hb dL_law_770 (by decide) (fun c8 => ?_) (fun c8 => absurd e0 c8)
    refine lv_goto (tgt := 1131) hx hb dL_law_775 (by decide) ?_
    exact kn0 M' E' P' C' N' k kk mn md rw dg kn fc oft H locs ls hI' ⟨hP, ⟨di, hR⟩, g, hO⟩ hS (lv_sub hl [2, 3, 4, 5, 6] rfl)
set_option maxHeartbeats 4000000 in
set_option maxRecDepth 100000 in
theorem LC_norm {p : Program} {l : Launch} {e : Env} {s : State} {m : MethodId} {below : List Frame} {meth : Method} {c : Code} {b L : Nat} {xs : Nat → Int32} (hst : l.stackTraces = false) (hL : L ≤ 4096) (C0 : lw_At p s m meth c b L xs) {D : va_G} {cI cR cL : ClassId} (hK : va_K D vwCl [(cI, .int), (cR, .object RX2), (cL, .long)] s) (hN : nw_ok nw1 s) (hT : ts_ok (fun q : Nat => s.heap.size ≤ q) s s.heap) (hc : nc_ok s) {adC adR : Nat → Nat} {o : Nat} (hW : LW s adC adR o) {M : Fin 20 → Nat → Int32} {E : Nat → Int32} {P : Nat → Fin 20} {C N : Nat → Int32} {th kk : Int32} {mn : Int64} {md rw dg : Nat → Int32} {kn fc : Int32} {oft : Nat → Int32} (hI : INV M E P C N kk mn md rw dg kn fc oft) {i : Nat} (hi : i + 8 ≤ L) {H : Heap} {locs : List Loc} {ls : Array Slot} {cells slots : Nat} (hcell : cells + 1 ≤ 636428) (hslot : slots + 6 ≤ 7186819) (hH : LH D cI cR cL adC adR o (cellC cI cR adC M E P C N) th kk mn md rw dg kn fc oft H) (hS : va_S (fun q : Nat => s.heap.size ≤ q) s.heap H locs) (hl : lv_has ls 7 [(0, .ref b), (1, .ref (adC 45)), (2, .ref (adR 0)), (3, .ref o), (4, .int (nI i))]) {Q : State → Prop} (kn0 : ∀ (M : Fin 20 → Nat → Int32) (E : Nat → Int32) (P : Nat → Fin 20) (C N : Nat → Int32) (th kk : Int32) (mn : Int64) (md rw dg : Nat → Int32) (kn fc : Int32) (oft : Nat → Int32) (H : Heap) (locs : List Loc) (ls : Array Slot), INV M E P C N kk mn md rw dg kn fc oft → LH D cI cR cL adC adR o (cellC cI cR adC M E P C N) th kk mn md rw dg kn fc oft H → va_S (fun q : Nat => s.heap.size ≤ q) s.heap H locs → lv_has ls 7 [(0, .ref b), (1, .ref (adC 45)), (2, .ref (adR 0)), (3, .ref o), (4, .int (nI i))] → W p l e room_1 s m #[Value.ref b] below meth c H locs (cells + 1) (slots + 6) Q (F0 m 1131 ls [])) : W p l e room_1 s m #[Value.ref b] below meth c H locs cells slots Q (F0 m 778 ls []) := by
  obtain ⟨hx, hb, hr, hml, hown, hts, hX, hbl, hlocks, hgv⟩ := C0
  have htsB := law_hts hts
  have hb : c.code = cL_law := hb
  have hbA : ¬ (fun q : Nat => s.heap.size ≤ q) b := Nat.not_le.mpr hbl
  obtain ⟨w1, w2, w3, w4, w5, w6, w7, w8⟩ := hW
  have wA : ∀ q, hA adC o q → s.heap.size ≤ q := fun q h => h.elim (w3 q) (fun z => z ▸ w5)
  obtain ⟨hP, ⟨di, hR⟩, g, hO⟩ := hH
  have hcell0 : cells ≤ 636428 := by omega
  have hslot0 : slots ≤ 7186819 := by omega
  obtain ⟨w, M', rw', dg', hI', hf4, hf⟩ := U_norm hI th (xs (i + 1)) (fu := 20000000) (Nat.le_refl _)
  refine lv_aload_n hx hb dL_law_778 rfl (lv_at hl 1 rfl) ?_
  refine law_ld1 (k := 1) hx hb hX hbl hbA hS (by omega) hL (lv_at hl 0 rfl) (lv_at hl 4 rfl) (by decide) dL_law_779 dL_law_780 dL_law_782 dL_law_783 dL_law_784 ?_
  refine ct_callA (va_runV (As := [.int (xs (i + 1))]) (rest := []) ⟨hx, hb, hml, hown, htsB⟩ (C_X4_norm l D [(cI, .int), (cR, .object RX2), (cL, .long)] nw1 nw1_kind nw01 w1 rfl rfl hf4) (cwV 1 htsB (gu_V mw_593 mw_594 mw_595 mw_222 mw_276) rfl rfl rfl (by decide +kernel) ⟨Nat.le_of_ble_eq_true rfl, Nat.le_of_ble_eq_true rfl⟩) (ct_preV nw1_kind hP hK hN (ci := 4) (k := 45) rfl (by decide) rfl) rfl rfl hl.1 rfl (lv_room (Nat.le_of_ble_eq_true rfl)) dL_law_785 ⟨hcell0, hslot0⟩) hS w3 (fun H locs hP hk hz hS => ?_)
  have hR := ww_kept hR hk (fun q h z => w6 q z h)
  have hO := oC_kept hO hk w7
  refine lv_aload_n hx hb dL_law_788 rfl (lv_at hl 2 rfl) ?_
  refine law_ld1 (k := 1) hx hb hX hbl hbA hS (by omega) hL (lv_at hl 0 rfl) (lv_at hl 4 rfl) (by decide) dL_law_789 dL_law_790 dL_law_792 dL_law_793 dL_law_794 ?_
  refine ct_callxA (va_runV (As := [.int (xs (i + 1))]) (rest := [.int w]) ⟨hx, hb, hml, hown, htsB⟩ (C_X5_norm l D [(cI, .int), (cR, .object RX2), (cL, .long)] w2 rfl hf) (cwV 1 htsB (gu_V mw_596 mw_597 mw_598 mw_330 mw_418) rfl rfl rfl (by decide +kernel) ⟨Nat.le_of_ble_eq_true rfl, Nat.le_of_ble_eq_true rfl⟩) (ct_preVx (w := fun di => ww 6 adR (cellR cI adR th kk mn md rw dg kn fc oft di)) hR hK (ci := 5) (k := 0) rfl cr_mdl) rfl rfl hl.1 rfl (lv_room (Nat.le_of_ble_eq_true rfl)) dL_law_795 ⟨hcell0, hslot0⟩) hS w4 (fun di H locs hR hk hS => ?_)
  have hP := ww_kept hP hk w6
  have hO := oC_kept hO hk w8
  refine lv_icmp_eq (tgt := 1131) hx hb dL_law_798 (by decide) (fun c9 => ?_) (fun c9 => absurd rfl c9)
  refine W.widen (k := cells + 1) (n := slots + 6) (Nat.le_add_right _ _) (Nat.le_add_right _ _) ?_
  exact kn0 M' E P C N 0 kk mn md rw' dg' kn fc oft H locs ls hI' ⟨hP, ⟨di, hR⟩, g, hO⟩ hS hl
set_option maxHeartbeats 4000000 in
set_option maxRecDepth 100000 in
theorem LC_shift {p : Program} {l : Launch} {e : Env} {s : State} {m : MethodId} {below : List Frame} {meth : Method} {c : Code} {b L : Nat} {xs : Nat → Int32} (hst : l.stackTraces = false) (hL : L ≤ 4096) (C0 : lw_At p s m meth c b L xs) {D : va_G} {cI cR cL : ClassId} (hK : va_K D vwCl [(cI, .int), (cR, .object RX2), (cL, .long)] s) (hN : nw_ok nw1 s) (hT : ts_ok (fun q : Nat => s.heap.size ≤ q) s s.heap) (hc : nc_ok s) {adC adR : Nat → Nat} {o : Nat} (hW : LW s adC adR o) {M : Fin 20 → Nat → Int32} {E : Nat → Int32} {P : Nat → Fin 20} {C N : Nat → Int32} {th kk : Int32} {mn : Int64} {md rw dg : Nat → Int32} {kn fc : Int32} {oft : Nat → Int32} (hI : INV M E P C N kk mn md rw dg kn fc oft) {i : Nat} (hi : i + 8 ≤ L) {H : Heap} {locs : List Loc} {ls : Array Slot} {cells slots : Nat} (hcell : cells + 1 ≤ 636428) (hslot : slots + 6 ≤ 7186819) (hH : LH D cI cR cL adC adR o (cellC cI cR adC M E P C N) th kk mn md rw dg kn fc oft H) (hS : va_S (fun q : Nat => s.heap.size ≤ q) s.heap H locs) (hl : lv_has ls 7 [(0, .ref b), (1, .ref (adC 45)), (2, .ref (adR 0)), (3, .ref o), (4, .int (nI i))]) {Q : State → Prop} (kn0 : ∀ (M : Fin 20 → Nat → Int32) (E : Nat → Int32) (P : Nat → Fin 20) (C N : Nat → Int32) (th kk : Int32) (mn : Int64) (md rw dg : Nat → Int32) (kn fc : Int32) (oft : Nat → Int32) (H : Heap) (locs : List Loc) (ls : Array Slot), INV M E P C N kk mn md rw dg kn fc oft → LH D cI cR cL adC adR o (cellC cI cR adC M E P C N) th kk mn md rw dg kn fc oft H → va_S (fun q : Nat => s.heap.size ≤ q) s.heap H locs → lv_has ls 7 [(0, .ref b), (1, .ref (adC 45)), (2, .ref (adR 0)), (3, .ref o), (4, .int (nI i))] → W p l e room_1 s m #[Value.ref b] below meth c H locs (cells + 1) (slots + 6) Q (F0 m 1131 ls [])) : W p l e room_1 s m #[Value.ref b] below meth c H locs cells slots Q (F0 m 803 ls []) := by
  obtain ⟨hx, hb, hr, hml, hown, hts, hX, hbl, hlocks, hgv⟩ := C0
  have htsB := law_hts hts
  have hb : c.code = cL_law := hb
  have hbA : ¬ (fun q : Nat => s.heap.size ≤ q) b := Nat.not_le.mpr hbl
  obtain ⟨w1, w2, w3, w4, w5, w6, w7, w8⟩ := hW
  have wA : ∀ q, hA adC o q → s.heap.size ≤ q := fun q h => h.elim (w3 q) (fun z => z ▸ w5)
  obtain ⟨hP, ⟨di, hR⟩, g, hO⟩ := hH
  have hcell0 : cells ≤ 636428 := by omega
  have hslot0 : slots ≤ 7186819 := by omega
  obtain ⟨k, v, r, M', E', P', C', N', rw', dg', hI', hM, hf, hv⟩ := U_shift l hst D (cR := cR) (cI := cI) (cL := cL) w1 hI th  (fu := 20000000) (Nat.le_refl _)
  refine lv_aload_n hx hb dL_law_803 rfl (lv_at hl 1 rfl) ?_
  refine lv_aload_n hx hb dL_law_804 rfl (lv_at hl 3 rfl) ?_
  refine ct_callH (vx_runSW (As := [.ref (adC 45), .ref o]) (rest := []) ⟨hx, hb, hml, hown, htsB⟩ (hM o g w7) (vx_cwSW 2 htsB (gu_SW mw_599 mw_600 mw_551 mw_514) rfl rfl rfl (by decide +kernel) ⟨Nat.le_of_ble_eq_true rfl, Nat.le_of_ble_eq_true rfl⟩) (hB_pre nw1_kind hP hO hK hN hT hS w3 hc) rfl rfl hl.1 rfl (lv_room (Nat.le_of_ble_eq_true rfl)) dL_law_805 ⟨hcell, hslot⟩) hS wA (fun H locs g hP hO hg hk hS => ?_)
  have hR := ww_kept hR hk (fun q h z => z.elim (fun z => w6 q z h) (fun z => w8 (z ▸ h)))
  refine lv_istore (lv' := [(5, .int k), (0, .ref b), (1, .ref (adC 45)), (2, .ref (adR 0)), (3, .ref o), (4, .int (nI i))]) hx hb dL_law_808 hl (by decide) rfl (fun ls hl => ?_)
  refine lv_aload_n hx hb dL_law_810 rfl (lv_at hl 3 rfl) ?_
  refine ct_callxA (va_runV (As := []) (rest := []) ⟨hx, hb, hml, hown, htsB⟩ (C_X5_shift l D [(cI, .int), (cR, .object RX2), (cL, .long)] w2 rfl hf) (cwV 0 htsB (gu_V mw_601 mw_602 mw_603 mw_330 mw_461) rfl rfl rfl (by decide +kernel) ⟨Nat.le_of_ble_eq_true rfl, Nat.le_of_ble_eq_true rfl⟩) (ct_preVx (w := fun di => ww 6 adR (cellR cI adR th kk mn md rw dg kn fc oft di)) hR hK (ci := 5) (k := 0) rfl cr_mdl) rfl rfl hl.1 rfl (lv_room (Nat.le_of_ble_eq_true rfl)) dL_law_811 ⟨hcell, hslot⟩) hS w4 (fun di H locs hR hk hS => ?_)
  have hP := ww_kept hP hk w6
  have hO := oC_kept hO hk w8
  refine lv_istore (lv' := [(6, .int r), (5, .int k), (0, .ref b), (1, .ref (adC 45)), (2, .ref (adR 0)), (3, .ref o), (4, .int (nI i))]) hx hb dL_law_814 hl (by decide) rfl (fun ls hl => ?_)
  refine lv_aload_n hx hb dL_law_816 rfl (lv_at hl 4 rfl) ?_
  refine ct_callxA (va_runV (As := []) (rest := []) ⟨hx, hb, hml, hown, htsB⟩ (C_X5_thrown l D [(cI, .int), (cR, .object RX2), (cL, .long)] w2 rfl (th := k) rfl) (cwV 0 htsB (gu_V mw_555 mw_556 mw_557 mw_330 mw_320) rfl rfl rfl (by decide +kernel) ⟨Nat.le_of_ble_eq_true rfl, Nat.le_of_ble_eq_true rfl⟩) (ct_preVx (w := fun di => ww 6 adR (cellR cI adR k kk mn md rw' dg' kn fc oft di)) hR hK (ci := 5) (k := 0) rfl cr_mdl) rfl rfl hl.1 rfl (lv_room (Nat.le_of_ble_eq_true rfl)) dL_law_817 ⟨hcell, hslot⟩) hS w4 (fun di H locs hR hk hS => ?_)
  have hP := ww_kept hP hk w6
  have hO := oC_kept hO hk w8
  refine lv_iload hx hb dL_law_820 (lv_at hl 1 rfl) ?_
  refine lv_icmp_eq (tgt := 827) hx hb dL_law_822 (by decide) (fun c9 => ?_) (fun c9 => absurd rfl c9)
  refine lv_iload hx hb dL_law_827 (lv_at hl 1 rfl) ?_
  refine lv_if_ne (tgt := 844) hx hb dL_law_829 (by decide) (fun c9 => ?_) (fun c9 => ?_)
  · refine lv_goto (tgt := 1131) hx hb dL_law_844 (by decide) ?_
    exact kn0 M' E' P' C' N' k kk mn md rw' dg' kn fc oft H locs ls hI' ⟨hP, ⟨di, hR⟩, g, hO⟩ hS (lv_sub hl [2, 3, 4, 5, 6] rfl)
  · have k0 : k = 0 := c9
    have gv : g (0 : Int32).toNatClampNeg = v := hg k0
    refine lv_aload_n hx hb dL_law_832 rfl (lv_at hl 5 rfl) ?_
    refine lv_iconst (v := 0) hx hb dL_law_833 (by decide) ?_
    refine va_lald hx hb hK hO 0 2 rfl rfl (show ¬ ((0 : Int32) < 0 ∨ 1 ≤ (0 : Int32).toNatClampNeg) by decide) dL_law_834 ?_
    refine lv_iload hx hb dL_law_835 (lv_at hl 0 rfl) ?_
    refine lv_i2l (v := r.toInt64) hx hb dL_law_837 rfl ?_
    refine W.lcmp hx hb dL_law_838 ?_
    have e0 : lg_cmp (g (0 : Int32).toNatClampNeg) r.toInt64 = 0 := by rw [gv, hv k0]; exact cmp_rf _
    refine lv_if_eq (tgt := 844) hx hb dL_law_839 (by decide) (fun c8 => ?_) (fun c8 => absurd e0 c8)
    refine lv_goto (tgt := 1131) hx hb dL_law_844 (by decide) ?_
    exact kn0 M' E' P' C' N' k kk mn md rw' dg' kn fc oft H locs ls hI' ⟨hP, ⟨di, hR⟩, g, hO⟩ hS (lv_sub hl [2, 3, 4, 5, 6] rfl)
set_option maxHeartbeats 4000000 in
set_option maxRecDepth 100000 in
theorem LC_factors {p : Program} {l : Launch} {e : Env} {s : State} {m : MethodId} {below : List Frame} {meth : Method} {c : Code} {b L : Nat} {xs : Nat → Int32} (hst : l.stackTraces = false) (hL : L ≤ 4096) (C0 : lw_At p s m meth c b L xs) {D : va_G} {cI cR cL : ClassId} (hK : va_K D vwCl [(cI, .int), (cR, .object RX2), (cL, .long)] s) (hN : nw_ok nw1 s) (hT : ts_ok (fun q : Nat => s.heap.size ≤ q) s s.heap) (hc : nc_ok s) {adC adR : Nat → Nat} {o : Nat} (hW : LW s adC adR o) {M : Fin 20 → Nat → Int32} {E : Nat → Int32} {P : Nat → Fin 20} {C N : Nat → Int32} {th kk : Int32} {mn : Int64} {md rw dg : Nat → Int32} {kn fc : Int32} {oft : Nat → Int32} (hI : INV M E P C N kk mn md rw dg kn fc oft) {i : Nat} (hi : i + 8 ≤ L) {H : Heap} {locs : List Loc} {ls : Array Slot} {cells slots : Nat} (hcell : cells + 1 ≤ 636428) (hslot : slots + 6 ≤ 7186819) (hH : LH D cI cR cL adC adR o (cellC cI cR adC M E P C N) th kk mn md rw dg kn fc oft H) (hS : va_S (fun q : Nat => s.heap.size ≤ q) s.heap H locs) (hl : lv_has ls 7 [(0, .ref b), (1, .ref (adC 45)), (2, .ref (adR 0)), (3, .ref o), (4, .int (nI i))]) {Q : State → Prop} (kn0 : ∀ (M : Fin 20 → Nat → Int32) (E : Nat → Int32) (P : Nat → Fin 20) (C N : Nat → Int32) (th kk : Int32) (mn : Int64) (md rw dg : Nat → Int32) (kn fc : Int32) (oft : Nat → Int32) (H : Heap) (locs : List Loc) (ls : Array Slot), INV M E P C N kk mn md rw dg kn fc oft → LH D cI cR cL adC adR o (cellC cI cR adC M E P C N) th kk mn md rw dg kn fc oft H → va_S (fun q : Nat => s.heap.size ≤ q) s.heap H locs → lv_has ls 7 [(0, .ref b), (1, .ref (adC 45)), (2, .ref (adR 0)), (3, .ref o), (4, .int (nI i))] → W p l e room_1 s m #[Value.ref b] below meth c H locs (cells + 1) (slots + 6) Q (F0 m 1131 ls [])) : W p l e room_1 s m #[Value.ref b] below meth c H locs cells slots Q (F0 m 847 ls []) := by
  obtain ⟨hx, hb, hr, hml, hown, hts, hX, hbl, hlocks, hgv⟩ := C0
  have htsB := law_hts hts
  have hb : c.code = cL_law := hb
  have hbA : ¬ (fun q : Nat => s.heap.size ≤ q) b := Nat.not_le.mpr hbl
  obtain ⟨w1, w2, w3, w4, w5, w6, w7, w8⟩ := hW
  have wA : ∀ q, hA adC o q → s.heap.size ≤ q := fun q h => h.elim (w3 q) (fun z => z ▸ w5)
  obtain ⟨hP, ⟨di, hR⟩, g, hO⟩ := hH
  have hcell0 : cells ≤ 636428 := by omega
  have hslot0 : slots ≤ 7186819 := by omega
  obtain ⟨k, v, r, M', E', P', C', N', rw', dg', kn', fc', oft', hI', hM, hf, hv⟩ := U_factors l hst D (cR := cR) (cI := cI) (cL := cL) w1 hI th  (fu := 20000000) (Nat.le_refl _)
  refine lv_aload_n hx hb dL_law_847 rfl (lv_at hl 1 rfl) ?_
  refine lv_aload_n hx hb dL_law_848 rfl (lv_at hl 3 rfl) ?_
  refine ct_callH (vx_runSW (As := [.ref (adC 45), .ref o]) (rest := []) ⟨hx, hb, hml, hown, htsB⟩ (hM o g w7) (vx_cwSW 2 htsB (gu_SW mw_604 mw_605 mw_551 mw_518) rfl rfl rfl (by decide +kernel) ⟨Nat.le_of_ble_eq_true rfl, Nat.le_of_ble_eq_true rfl⟩) (hB_pre nw1_kind hP hO hK hN hT hS w3 hc) rfl rfl hl.1 rfl (lv_room (Nat.le_of_ble_eq_true rfl)) dL_law_849 ⟨hcell, hslot⟩) hS wA (fun H locs g hP hO hg hk hS => ?_)
  have hR := ww_kept hR hk (fun q h z => z.elim (fun z => w6 q z h) (fun z => w8 (z ▸ h)))
  refine lv_istore (lv' := [(5, .int k), (0, .ref b), (1, .ref (adC 45)), (2, .ref (adR 0)), (3, .ref o), (4, .int (nI i))]) hx hb dL_law_852 hl (by decide) rfl (fun ls hl => ?_)
  refine lv_aload_n hx hb dL_law_854 rfl (lv_at hl 3 rfl) ?_
  refine ct_callxA (va_runV (As := []) (rest := []) ⟨hx, hb, hml, hown, htsB⟩ (C_X5_factors l D [(cI, .int), (cR, .object RX2), (cL, .long)] w2 rfl hf) (cwV 0 htsB (gu_V mw_606 mw_607 mw_608 mw_330 mw_465) rfl rfl rfl (by decide +kernel) ⟨Nat.le_of_ble_eq_true rfl, Nat.le_of_ble_eq_true rfl⟩) (ct_preVx (w := fun di => ww 6 adR (cellR cI adR th kk mn md rw dg kn fc oft di)) hR hK (ci := 5) (k := 0) rfl cr_mdl) rfl rfl hl.1 rfl (lv_room (Nat.le_of_ble_eq_true rfl)) dL_law_855 ⟨hcell, hslot⟩) hS w4 (fun di H locs hR hk hS => ?_)
  have hP := ww_kept hP hk w6
  have hO := oC_kept hO hk w8
  refine lv_istore (lv' := [(6, .int r), (5, .int k), (0, .ref b), (1, .ref (adC 45)), (2, .ref (adR 0)), (3, .ref o), (4, .int (nI i))]) hx hb dL_law_858 hl (by decide) rfl (fun ls hl => ?_)
  refine lv_aload_n hx hb dL_law_860 rfl (lv_at hl 4 rfl) ?_
  refine ct_callxA (va_runV (As := []) (rest := []) ⟨hx, hb, hml, hown, htsB⟩ (C_X5_thrown l D [(cI, .int), (cR, .object RX2), (cL, .long)] w2 rfl (th := k) rfl) (cwV 0 htsB (gu_V mw_555 mw_556 mw_557 mw_330 mw_320) rfl rfl rfl (by decide +kernel) ⟨Nat.le_of_ble_eq_true rfl, Nat.le_of_ble_eq_true rfl⟩) (ct_preVx (w := fun di => ww 6 adR (cellR cI adR k kk mn md rw' dg' kn' fc' oft' di)) hR hK (ci := 5) (k := 0) rfl cr_mdl) rfl rfl hl.1 rfl (lv_room (Nat.le_of_ble_eq_true rfl)) dL_law_861 ⟨hcell, hslot⟩) hS w4 (fun di H locs hR hk hS => ?_)
  have hP := ww_kept hP hk w6
  have hO := oC_kept hO hk w8
  refine lv_iload hx hb dL_law_864 (lv_at hl 1 rfl) ?_
  refine lv_icmp_eq (tgt := 871) hx hb dL_law_866 (by decide) (fun c9 => ?_) (fun c9 => absurd rfl c9)
  refine lv_iload hx hb dL_law_871 (lv_at hl 1 rfl) ?_
  refine lv_if_ne (tgt := 888) hx hb dL_law_873 (by decide) (fun c9 => ?_) (fun c9 => ?_)
  · refine lv_goto (tgt := 1131) hx hb dL_law_888 (by decide) ?_
    exact kn0 M' E' P' C' N' k kk mn md rw' dg' kn' fc' oft' H locs ls hI' ⟨hP, ⟨di, hR⟩, g, hO⟩ hS (lv_sub hl [2, 3, 4, 5, 6] rfl)
  · have k0 : k = 0 := c9
    have gv : g (0 : Int32).toNatClampNeg = v := hg k0
    refine lv_aload_n hx hb dL_law_876 rfl (lv_at hl 5 rfl) ?_
    refine lv_iconst (v := 0) hx hb dL_law_877 (by decide) ?_
    refine va_lald hx hb hK hO 0 2 rfl rfl (show ¬ ((0 : Int32) < 0 ∨ 1 ≤ (0 : Int32).toNatClampNeg) by decide) dL_law_878 ?_
    refine lv_iload hx hb dL_law_879 (lv_at hl 0 rfl) ?_
    refine lv_i2l (v := r.toInt64) hx hb dL_law_881 rfl ?_
    refine W.lcmp hx hb dL_law_882 ?_
    have e0 : lg_cmp (g (0 : Int32).toNatClampNeg) r.toInt64 = 0 := by rw [gv, hv k0]; exact cmp_rf _
    refine lv_if_eq (tgt := 888) hx hb dL_law_883 (by decide) (fun c8 => ?_) (fun c8 => absurd e0 c8)
    refine lv_goto (tgt := 1131) hx hb dL_law_888 (by decide) ?_
    exact kn0 M' E' P' C' N' k kk mn md rw' dg' kn' fc' oft' H locs ls hI' ⟨hP, ⟨di, hR⟩, g, hO⟩ hS (lv_sub hl [2, 3, 4, 5, 6] rfl)
set_option maxHeartbeats 4000000 in
set_option maxRecDepth 100000 in
theorem LC_factor {p : Program} {l : Launch} {e : Env} {s : State} {m : MethodId} {below : List Frame} {meth : Method} {c : Code} {b L : Nat} {xs : Nat → Int32} (hst : l.stackTraces = false) (hL : L ≤ 4096) (C0 : lw_At p s m meth c b L xs) {D : va_G} {cI cR cL : ClassId} (hK : va_K D vwCl [(cI, .int), (cR, .object RX2), (cL, .long)] s) (hN : nw_ok nw1 s) (hT : ts_ok (fun q : Nat => s.heap.size ≤ q) s s.heap) (hc : nc_ok s) {adC adR : Nat → Nat} {o : Nat} (hW : LW s adC adR o) {M : Fin 20 → Nat → Int32} {E : Nat → Int32} {P : Nat → Fin 20} {C N : Nat → Int32} {th kk : Int32} {mn : Int64} {md rw dg : Nat → Int32} {kn fc : Int32} {oft : Nat → Int32} (hI : INV M E P C N kk mn md rw dg kn fc oft) {i : Nat} (hi : i + 8 ≤ L) {H : Heap} {locs : List Loc} {ls : Array Slot} {cells slots : Nat} (hcell : cells + 1 ≤ 636428) (hslot : slots + 6 ≤ 7186819) (hH : LH D cI cR cL adC adR o (cellC cI cR adC M E P C N) th kk mn md rw dg kn fc oft H) (hS : va_S (fun q : Nat => s.heap.size ≤ q) s.heap H locs) (hl : lv_has ls 7 [(0, .ref b), (1, .ref (adC 45)), (2, .ref (adR 0)), (3, .ref o), (4, .int (nI i))]) {Q : State → Prop} (kn0 : ∀ (M : Fin 20 → Nat → Int32) (E : Nat → Int32) (P : Nat → Fin 20) (C N : Nat → Int32) (th kk : Int32) (mn : Int64) (md rw dg : Nat → Int32) (kn fc : Int32) (oft : Nat → Int32) (H : Heap) (locs : List Loc) (ls : Array Slot), INV M E P C N kk mn md rw dg kn fc oft → LH D cI cR cL adC adR o (cellC cI cR adC M E P C N) th kk mn md rw dg kn fc oft H → va_S (fun q : Nat => s.heap.size ≤ q) s.heap H locs → lv_has ls 7 [(0, .ref b), (1, .ref (adC 45)), (2, .ref (adR 0)), (3, .ref o), (4, .int (nI i))] → W p l e room_1 s m #[Value.ref b] below meth c H locs (cells + 1) (slots + 6) Q (F0 m 1131 ls [])) : W p l e room_1 s m #[Value.ref b] below meth c H locs cells slots Q (F0 m 891 ls []) := by
  obtain ⟨hx, hb, hr, hml, hown, hts, hX, hbl, hlocks, hgv⟩ := C0
  have htsB := law_hts hts
  have hb : c.code = cL_law := hb
  have hbA : ¬ (fun q : Nat => s.heap.size ≤ q) b := Nat.not_le.mpr hbl
  obtain ⟨w1, w2, w3, w4, w5, w6, w7, w8⟩ := hW
  have wA : ∀ q, hA adC o q → s.heap.size ≤ q := fun q h => h.elim (w3 q) (fun z => z ▸ w5)
  obtain ⟨hP, ⟨di, hR⟩, g, hO⟩ := hH
  have hcell0 : cells ≤ 636428 := by omega
  have hslot0 : slots ≤ 7186819 := by omega
  obtain ⟨k, v, r, M', E', P', C', N', rw', dg', kn', fc', oft', hI', hM, hf, hv⟩ := U_factor l hst D (cR := cR) (cI := cI) (cL := cL) w1 hI th (xs (i + 1)) (xs (i + 2)) (fu := 20000000) (Nat.le_refl _)
  refine lv_aload_n hx hb dL_law_891 rfl (lv_at hl 1 rfl) ?_
  refine law_ld1 (k := 1) hx hb hX hbl hbA hS (by omega) hL (lv_at hl 0 rfl) (lv_at hl 4 rfl) (by decide) dL_law_892 dL_law_893 dL_law_895 dL_law_896 dL_law_897 ?_
  refine law_ld1 (k := 2) hx hb hX hbl hbA hS (by omega) hL (lv_at hl 0 rfl) (lv_at hl 4 rfl) (by decide) dL_law_898 dL_law_899 dL_law_901 dL_law_902 dL_law_903 ?_
  refine lv_aload_n hx hb dL_law_904 rfl (lv_at hl 3 rfl) ?_
  refine ct_callH (vx_runSW (As := [.ref (adC 45), .int (xs (i + 1)), .int (xs (i + 2)), .ref o]) (rest := []) ⟨hx, hb, hml, hown, htsB⟩ (hM o g w7) (vx_cwSW 4 htsB (gu_SW mw_609 mw_610 mw_551 mw_522) rfl rfl rfl (by decide +kernel) ⟨Nat.le_of_ble_eq_true rfl, Nat.le_of_ble_eq_true rfl⟩) (hB_pre nw1_kind hP hO hK hN hT hS w3 hc) rfl rfl hl.1 rfl (lv_room (Nat.le_of_ble_eq_true rfl)) dL_law_905 ⟨hcell, hslot⟩) hS wA (fun H locs g hP hO hg hk hS => ?_)
  have hR := ww_kept hR hk (fun q h z => z.elim (fun z => w6 q z h) (fun z => w8 (z ▸ h)))
  refine lv_istore (lv' := [(5, .int k), (0, .ref b), (1, .ref (adC 45)), (2, .ref (adR 0)), (3, .ref o), (4, .int (nI i))]) hx hb dL_law_908 hl (by decide) rfl (fun ls hl => ?_)
  refine lv_aload_n hx hb dL_law_910 rfl (lv_at hl 3 rfl) ?_
  refine law_ld1 (k := 1) hx hb hX hbl hbA hS (by omega) hL (lv_at hl 1 rfl) (lv_at hl 5 rfl) (by decide) dL_law_911 dL_law_912 dL_law_914 dL_law_915 dL_law_916 ?_
  refine law_ld1 (k := 2) hx hb hX hbl hbA hS (by omega) hL (lv_at hl 1 rfl) (lv_at hl 5 rfl) (by decide) dL_law_917 dL_law_918 dL_law_920 dL_law_921 dL_law_922 ?_
  refine ct_callxA (va_runV (As := [.int (xs (i + 1)), .int (xs (i + 2))]) (rest := []) ⟨hx, hb, hml, hown, htsB⟩ (C_X5_factor l D [(cI, .int), (cR, .object RX2), (cL, .long)] w2 rfl hf) (cwV 2 htsB (gu_V mw_611 mw_612 mw_613 mw_330 mw_470) rfl rfl rfl (by decide +kernel) ⟨Nat.le_of_ble_eq_true rfl, Nat.le_of_ble_eq_true rfl⟩) (ct_preVx (w := fun di => ww 6 adR (cellR cI adR th kk mn md rw dg kn fc oft di)) hR hK (ci := 5) (k := 0) rfl cr_mdl) rfl rfl hl.1 rfl (lv_room (Nat.le_of_ble_eq_true rfl)) dL_law_923 ⟨hcell, hslot⟩) hS w4 (fun di H locs hR hk hS => ?_)
  have hP := ww_kept hP hk w6
  have hO := oC_kept hO hk w8
  refine lv_istore (lv' := [(6, .int r), (5, .int k), (0, .ref b), (1, .ref (adC 45)), (2, .ref (adR 0)), (3, .ref o), (4, .int (nI i))]) hx hb dL_law_926 hl (by decide) rfl (fun ls hl => ?_)
  refine lv_aload_n hx hb dL_law_928 rfl (lv_at hl 4 rfl) ?_
  refine ct_callxA (va_runV (As := []) (rest := []) ⟨hx, hb, hml, hown, htsB⟩ (C_X5_thrown l D [(cI, .int), (cR, .object RX2), (cL, .long)] w2 rfl (th := k) rfl) (cwV 0 htsB (gu_V mw_555 mw_556 mw_557 mw_330 mw_320) rfl rfl rfl (by decide +kernel) ⟨Nat.le_of_ble_eq_true rfl, Nat.le_of_ble_eq_true rfl⟩) (ct_preVx (w := fun di => ww 6 adR (cellR cI adR k kk mn md rw' dg' kn' fc' oft' di)) hR hK (ci := 5) (k := 0) rfl cr_mdl) rfl rfl hl.1 rfl (lv_room (Nat.le_of_ble_eq_true rfl)) dL_law_929 ⟨hcell, hslot⟩) hS w4 (fun di H locs hR hk hS => ?_)
  have hP := ww_kept hP hk w6
  have hO := oC_kept hO hk w8
  refine lv_iload hx hb dL_law_932 (lv_at hl 1 rfl) ?_
  refine lv_icmp_eq (tgt := 939) hx hb dL_law_934 (by decide) (fun c9 => ?_) (fun c9 => absurd rfl c9)
  refine lv_iload hx hb dL_law_939 (lv_at hl 1 rfl) ?_
  refine lv_if_ne (tgt := 956) hx hb dL_law_941 (by decide) (fun c9 => ?_) (fun c9 => ?_)
  · refine lv_goto (tgt := 1131) hx hb dL_law_956 (by decide) ?_
    exact kn0 M' E' P' C' N' k kk mn md rw' dg' kn' fc' oft' H locs ls hI' ⟨hP, ⟨di, hR⟩, g, hO⟩ hS (lv_sub hl [2, 3, 4, 5, 6] rfl)
  · have k0 : k = 0 := c9
    have gv : g (0 : Int32).toNatClampNeg = v := hg k0
    refine lv_aload_n hx hb dL_law_944 rfl (lv_at hl 5 rfl) ?_
    refine lv_iconst (v := 0) hx hb dL_law_945 (by decide) ?_
    refine va_lald hx hb hK hO 0 2 rfl rfl (show ¬ ((0 : Int32) < 0 ∨ 1 ≤ (0 : Int32).toNatClampNeg) by decide) dL_law_946 ?_
    refine lv_iload hx hb dL_law_947 (lv_at hl 0 rfl) ?_
    refine lv_i2l (v := r.toInt64) hx hb dL_law_949 rfl ?_
    refine W.lcmp hx hb dL_law_950 ?_
    have e0 : lg_cmp (g (0 : Int32).toNatClampNeg) r.toInt64 = 0 := by rw [gv, hv k0]; exact cmp_rf _
    refine lv_if_eq (tgt := 956) hx hb dL_law_951 (by decide) (fun c8 => ?_) (fun c8 => absurd e0 c8)
    refine lv_goto (tgt := 1131) hx hb dL_law_956 (by decide) ?_
    exact kn0 M' E' P' C' N' k kk mn md rw' dg' kn' fc' oft' H locs ls hI' ⟨hP, ⟨di, hR⟩, g, hO⟩ hS (lv_sub hl [2, 3, 4, 5, 6] rfl)
set_option maxHeartbeats 4000000 in
set_option maxRecDepth 100000 in
theorem LC_often {p : Program} {l : Launch} {e : Env} {s : State} {m : MethodId} {below : List Frame} {meth : Method} {c : Code} {b L : Nat} {xs : Nat → Int32} (hst : l.stackTraces = false) (hL : L ≤ 4096) (C0 : lw_At p s m meth c b L xs) {D : va_G} {cI cR cL : ClassId} (hK : va_K D vwCl [(cI, .int), (cR, .object RX2), (cL, .long)] s) (hN : nw_ok nw1 s) (hT : ts_ok (fun q : Nat => s.heap.size ≤ q) s s.heap) (hc : nc_ok s) {adC adR : Nat → Nat} {o : Nat} (hW : LW s adC adR o) {M : Fin 20 → Nat → Int32} {E : Nat → Int32} {P : Nat → Fin 20} {C N : Nat → Int32} {th kk : Int32} {mn : Int64} {md rw dg : Nat → Int32} {kn fc : Int32} {oft : Nat → Int32} (hI : INV M E P C N kk mn md rw dg kn fc oft) {i : Nat} (hi : i + 8 ≤ L) {H : Heap} {locs : List Loc} {ls : Array Slot} {cells slots : Nat} (hcell : cells + 1 ≤ 636428) (hslot : slots + 6 ≤ 7186819) (hH : LH D cI cR cL adC adR o (cellC cI cR adC M E P C N) th kk mn md rw dg kn fc oft H) (hS : va_S (fun q : Nat => s.heap.size ≤ q) s.heap H locs) (hl : lv_has ls 7 [(0, .ref b), (1, .ref (adC 45)), (2, .ref (adR 0)), (3, .ref o), (4, .int (nI i))]) {Q : State → Prop} (kn0 : ∀ (M : Fin 20 → Nat → Int32) (E : Nat → Int32) (P : Nat → Fin 20) (C N : Nat → Int32) (th kk : Int32) (mn : Int64) (md rw dg : Nat → Int32) (kn fc : Int32) (oft : Nat → Int32) (H : Heap) (locs : List Loc) (ls : Array Slot), INV M E P C N kk mn md rw dg kn fc oft → LH D cI cR cL adC adR o (cellC cI cR adC M E P C N) th kk mn md rw dg kn fc oft H → va_S (fun q : Nat => s.heap.size ≤ q) s.heap H locs → lv_has ls 7 [(0, .ref b), (1, .ref (adC 45)), (2, .ref (adR 0)), (3, .ref o), (4, .int (nI i))] → W p l e room_1 s m #[Value.ref b] below meth c H locs (cells + 1) (slots + 6) Q (F0 m 1131 ls [])) : W p l e room_1 s m #[Value.ref b] below meth c H locs cells slots Q (F0 m 959 ls []) := by
  obtain ⟨hx, hb, hr, hml, hown, hts, hX, hbl, hlocks, hgv⟩ := C0
  have htsB := law_hts hts
  have hb : c.code = cL_law := hb
  have hbA : ¬ (fun q : Nat => s.heap.size ≤ q) b := Nat.not_le.mpr hbl
  obtain ⟨w1, w2, w3, w4, w5, w6, w7, w8⟩ := hW
  have wA : ∀ q, hA adC o q → s.heap.size ≤ q := fun q h => h.elim (w3 q) (fun z => z ▸ w5)
  obtain ⟨hP, ⟨di, hR⟩, g, hO⟩ := hH
  have hcell0 : cells ≤ 636428 := by omega
  have hslot0 : slots ≤ 7186819 := by omega
  obtain ⟨k, v, r, M', E', P', C', N', rw', dg', kn', fc', oft', hI', hM, hf, hv⟩ := U_often l hst D (cR := cR) (cI := cI) (cL := cL) w1 hI th (xs (i + 1)) (fu := 20000000) (Nat.le_refl _)
  refine lv_aload_n hx hb dL_law_959 rfl (lv_at hl 1 rfl) ?_
  refine law_ld1 (k := 1) hx hb hX hbl hbA hS (by omega) hL (lv_at hl 0 rfl) (lv_at hl 4 rfl) (by decide) dL_law_960 dL_law_961 dL_law_963 dL_law_964 dL_law_965 ?_
  refine lv_aload_n hx hb dL_law_966 rfl (lv_at hl 3 rfl) ?_
  refine ct_callH (vx_runSW (As := [.ref (adC 45), .int (xs (i + 1)), .ref o]) (rest := []) ⟨hx, hb, hml, hown, htsB⟩ (hM o g w7) (vx_cwSW 3 htsB (gu_SW mw_614 mw_615 mw_551 mw_526) rfl rfl rfl (by decide +kernel) ⟨Nat.le_of_ble_eq_true rfl, Nat.le_of_ble_eq_true rfl⟩) (hB_pre nw1_kind hP hO hK hN hT hS w3 hc) rfl rfl hl.1 rfl (lv_room (Nat.le_of_ble_eq_true rfl)) dL_law_967 ⟨hcell, hslot⟩) hS wA (fun H locs g hP hO hg hk hS => ?_)
  have hR := ww_kept hR hk (fun q h z => z.elim (fun z => w6 q z h) (fun z => w8 (z ▸ h)))
  refine lv_istore (lv' := [(5, .int k), (0, .ref b), (1, .ref (adC 45)), (2, .ref (adR 0)), (3, .ref o), (4, .int (nI i))]) hx hb dL_law_970 hl (by decide) rfl (fun ls hl => ?_)
  refine lv_aload_n hx hb dL_law_972 rfl (lv_at hl 3 rfl) ?_
  refine law_ld1 (k := 1) hx hb hX hbl hbA hS (by omega) hL (lv_at hl 1 rfl) (lv_at hl 5 rfl) (by decide) dL_law_973 dL_law_974 dL_law_976 dL_law_977 dL_law_978 ?_
  refine ct_callxA (va_runV (As := [.int (xs (i + 1))]) (rest := []) ⟨hx, hb, hml, hown, htsB⟩ (C_X5_often l D [(cI, .int), (cR, .object RX2), (cL, .long)] w2 rfl hf) (cwV 1 htsB (gu_V mw_616 mw_617 mw_618 mw_330 mw_471) rfl rfl rfl (by decide +kernel) ⟨Nat.le_of_ble_eq_true rfl, Nat.le_of_ble_eq_true rfl⟩) (ct_preVx (w := fun di => ww 6 adR (cellR cI adR th kk mn md rw dg kn fc oft di)) hR hK (ci := 5) (k := 0) rfl cr_mdl) rfl rfl hl.1 rfl (lv_room (Nat.le_of_ble_eq_true rfl)) dL_law_979 ⟨hcell, hslot⟩) hS w4 (fun di H locs hR hk hS => ?_)
  have hP := ww_kept hP hk w6
  have hO := oC_kept hO hk w8
  refine lv_istore (lv' := [(6, .int r), (5, .int k), (0, .ref b), (1, .ref (adC 45)), (2, .ref (adR 0)), (3, .ref o), (4, .int (nI i))]) hx hb dL_law_982 hl (by decide) rfl (fun ls hl => ?_)
  refine lv_aload_n hx hb dL_law_984 rfl (lv_at hl 4 rfl) ?_
  refine ct_callxA (va_runV (As := []) (rest := []) ⟨hx, hb, hml, hown, htsB⟩ (C_X5_thrown l D [(cI, .int), (cR, .object RX2), (cL, .long)] w2 rfl (th := k) rfl) (cwV 0 htsB (gu_V mw_555 mw_556 mw_557 mw_330 mw_320) rfl rfl rfl (by decide +kernel) ⟨Nat.le_of_ble_eq_true rfl, Nat.le_of_ble_eq_true rfl⟩) (ct_preVx (w := fun di => ww 6 adR (cellR cI adR k kk mn md rw' dg' kn' fc' oft' di)) hR hK (ci := 5) (k := 0) rfl cr_mdl) rfl rfl hl.1 rfl (lv_room (Nat.le_of_ble_eq_true rfl)) dL_law_985 ⟨hcell, hslot⟩) hS w4 (fun di H locs hR hk hS => ?_)
  have hP := ww_kept hP hk w6
  have hO := oC_kept hO hk w8
  refine lv_iload hx hb dL_law_988 (lv_at hl 1 rfl) ?_
  refine lv_icmp_eq (tgt := 995) hx hb dL_law_990 (by decide) (fun c9 => ?_) (fun c9 => absurd rfl c9)
  refine lv_iload hx hb dL_law_995 (lv_at hl 1 rfl) ?_
  refine lv_if_ne (tgt := 1012) hx hb dL_law_997 (by decide) (fun c9 => ?_) (fun c9 => ?_)
  · refine lv_goto (tgt := 1131) hx hb dL_law_1012 (by decide) ?_
    exact kn0 M' E' P' C' N' k kk mn md rw' dg' kn' fc' oft' H locs ls hI' ⟨hP, ⟨di, hR⟩, g, hO⟩ hS (lv_sub hl [2, 3, 4, 5, 6] rfl)
  · have k0 : k = 0 := c9
    have gv : g (0 : Int32).toNatClampNeg = v := hg k0
    refine lv_aload_n hx hb dL_law_1000 rfl (lv_at hl 5 rfl) ?_
    refine lv_iconst (v := 0) hx hb dL_law_1001 (by decide) ?_
    refine va_lald hx hb hK hO 0 2 rfl rfl (show ¬ ((0 : Int32) < 0 ∨ 1 ≤ (0 : Int32).toNatClampNeg) by decide) dL_law_1002 ?_
    refine lv_iload hx hb dL_law_1003 (lv_at hl 0 rfl) ?_
    refine lv_i2l (v := r.toInt64) hx hb dL_law_1005 rfl ?_
    refine W.lcmp hx hb dL_law_1006 ?_
    have e0 : lg_cmp (g (0 : Int32).toNatClampNeg) r.toInt64 = 0 := by rw [gv, hv k0]; exact cmp_rf _
    refine lv_if_eq (tgt := 1012) hx hb dL_law_1007 (by decide) (fun c8 => ?_) (fun c8 => absurd e0 c8)
    refine lv_goto (tgt := 1131) hx hb dL_law_1012 (by decide) ?_
    exact kn0 M' E' P' C' N' k kk mn md rw' dg' kn' fc' oft' H locs ls hI' ⟨hP, ⟨di, hR⟩, g, hO⟩ hS (lv_sub hl [2, 3, 4, 5, 6] rfl)
set_option maxHeartbeats 4000000 in
set_option maxRecDepth 100000 in
theorem LC_splitting {p : Program} {l : Launch} {e : Env} {s : State} {m : MethodId} {below : List Frame} {meth : Method} {c : Code} {b L : Nat} {xs : Nat → Int32} (hst : l.stackTraces = false) (hL : L ≤ 4096) (C0 : lw_At p s m meth c b L xs) {D : va_G} {cI cR cL : ClassId} (hK : va_K D vwCl [(cI, .int), (cR, .object RX2), (cL, .long)] s) (hN : nw_ok nw1 s) (hT : ts_ok (fun q : Nat => s.heap.size ≤ q) s s.heap) (hc : nc_ok s) {adC adR : Nat → Nat} {o : Nat} (hW : LW s adC adR o) {M : Fin 20 → Nat → Int32} {E : Nat → Int32} {P : Nat → Fin 20} {C N : Nat → Int32} {th kk : Int32} {mn : Int64} {md rw dg : Nat → Int32} {kn fc : Int32} {oft : Nat → Int32} (hI : INV M E P C N kk mn md rw dg kn fc oft) {i : Nat} (hi : i + 8 ≤ L) {H : Heap} {locs : List Loc} {ls : Array Slot} {cells slots : Nat} (hcell : cells + 1 ≤ 636428) (hslot : slots + 6 ≤ 7186819) (hH : LH D cI cR cL adC adR o (cellC cI cR adC M E P C N) th kk mn md rw dg kn fc oft H) (hS : va_S (fun q : Nat => s.heap.size ≤ q) s.heap H locs) (hl : lv_has ls 7 [(0, .ref b), (1, .ref (adC 45)), (2, .ref (adR 0)), (3, .ref o), (4, .int (nI i))]) {Q : State → Prop} (kn0 : ∀ (M : Fin 20 → Nat → Int32) (E : Nat → Int32) (P : Nat → Fin 20) (C N : Nat → Int32) (th kk : Int32) (mn : Int64) (md rw dg : Nat → Int32) (kn fc : Int32) (oft : Nat → Int32) (H : Heap) (locs : List Loc) (ls : Array Slot), INV M E P C N kk mn md rw dg kn fc oft → LH D cI cR cL adC adR o (cellC cI cR adC M E P C N) th kk mn md rw dg kn fc oft H → va_S (fun q : Nat => s.heap.size ≤ q) s.heap H locs → lv_has ls 7 [(0, .ref b), (1, .ref (adC 45)), (2, .ref (adR 0)), (3, .ref o), (4, .int (nI i))] → W p l e room_1 s m #[Value.ref b] below meth c H locs (cells + 1) (slots + 6) Q (F0 m 1131 ls [])) : W p l e room_1 s m #[Value.ref b] below meth c H locs cells slots Q (F0 m 1015 ls []) := by
  obtain ⟨hx, hb, hr, hml, hown, hts, hX, hbl, hlocks, hgv⟩ := C0
  have htsB := law_hts hts
  have hb : c.code = cL_law := hb
  have hbA : ¬ (fun q : Nat => s.heap.size ≤ q) b := Nat.not_le.mpr hbl
  obtain ⟨w1, w2, w3, w4, w5, w6, w7, w8⟩ := hW
  have wA : ∀ q, hA adC o q → s.heap.size ≤ q := fun q h => h.elim (w3 q) (fun z => z ▸ w5)
  obtain ⟨hP, ⟨di, hR⟩, g, hO⟩ := hH
  have hcell0 : cells ≤ 636428 := by omega
  have hslot0 : slots ≤ 7186819 := by omega
  obtain ⟨k, v, r, M', E', P', C', N', rw', dg', kn', fc', oft', hI', hM, hf, hv⟩ := U_splitting l hst D (cR := cR) (cI := cI) (cL := cL) w1 hI th  (fu := 20000000) (Nat.le_refl _)
  refine lv_aload_n hx hb dL_law_1015 rfl (lv_at hl 1 rfl) ?_
  refine lv_aload_n hx hb dL_law_1016 rfl (lv_at hl 3 rfl) ?_
  refine ct_callH (vx_runSW (As := [.ref (adC 45), .ref o]) (rest := []) ⟨hx, hb, hml, hown, htsB⟩ (hM o g w7) (vx_cwSW 2 htsB (gu_SW mw_619 mw_620 mw_551 mw_530) rfl rfl rfl (by decide +kernel) ⟨Nat.le_of_ble_eq_true rfl, Nat.le_of_ble_eq_true rfl⟩) (hB_pre nw1_kind hP hO hK hN hT hS w3 hc) rfl rfl hl.1 rfl (lv_room (Nat.le_of_ble_eq_true rfl)) dL_law_1017 ⟨hcell, hslot⟩) hS wA (fun H locs g hP hO hg hk hS => ?_)
  have hR := ww_kept hR hk (fun q h z => z.elim (fun z => w6 q z h) (fun z => w8 (z ▸ h)))
  refine lv_istore (lv' := [(5, .int k), (0, .ref b), (1, .ref (adC 45)), (2, .ref (adR 0)), (3, .ref o), (4, .int (nI i))]) hx hb dL_law_1020 hl (by decide) rfl (fun ls hl => ?_)
  refine lv_aload_n hx hb dL_law_1022 rfl (lv_at hl 3 rfl) ?_
  refine ct_callxA (va_runV (As := []) (rest := []) ⟨hx, hb, hml, hown, htsB⟩ (C_X5_splitting l D [(cI, .int), (cR, .object RX2), (cL, .long)] w2 rfl hf) (cwV 0 htsB (gu_V mw_621 mw_622 mw_623 mw_330 mw_472) rfl rfl rfl (by decide +kernel) ⟨Nat.le_of_ble_eq_true rfl, Nat.le_of_ble_eq_true rfl⟩) (ct_preVx (w := fun di => ww 6 adR (cellR cI adR th kk mn md rw dg kn fc oft di)) hR hK (ci := 5) (k := 0) rfl cr_mdl) rfl rfl hl.1 rfl (lv_room (Nat.le_of_ble_eq_true rfl)) dL_law_1023 ⟨hcell, hslot⟩) hS w4 (fun di H locs hR hk hS => ?_)
  have hP := ww_kept hP hk w6
  have hO := oC_kept hO hk w8
  refine lv_istore (lv' := [(6, .int r), (5, .int k), (0, .ref b), (1, .ref (adC 45)), (2, .ref (adR 0)), (3, .ref o), (4, .int (nI i))]) hx hb dL_law_1026 hl (by decide) rfl (fun ls hl => ?_)
  refine lv_aload_n hx hb dL_law_1028 rfl (lv_at hl 4 rfl) ?_
  refine ct_callxA (va_runV (As := []) (rest := []) ⟨hx, hb, hml, hown, htsB⟩ (C_X5_thrown l D [(cI, .int), (cR, .object RX2), (cL, .long)] w2 rfl (th := k) rfl) (cwV 0 htsB (gu_V mw_555 mw_556 mw_557 mw_330 mw_320) rfl rfl rfl (by decide +kernel) ⟨Nat.le_of_ble_eq_true rfl, Nat.le_of_ble_eq_true rfl⟩) (ct_preVx (w := fun di => ww 6 adR (cellR cI adR k kk mn md rw' dg' kn' fc' oft' di)) hR hK (ci := 5) (k := 0) rfl cr_mdl) rfl rfl hl.1 rfl (lv_room (Nat.le_of_ble_eq_true rfl)) dL_law_1029 ⟨hcell, hslot⟩) hS w4 (fun di H locs hR hk hS => ?_)
  have hP := ww_kept hP hk w6
  have hO := oC_kept hO hk w8
  refine lv_iload hx hb dL_law_1032 (lv_at hl 1 rfl) ?_
  refine lv_icmp_eq (tgt := 1039) hx hb dL_law_1034 (by decide) (fun c9 => ?_) (fun c9 => absurd rfl c9)
  refine lv_iload hx hb dL_law_1039 (lv_at hl 1 rfl) ?_
  refine lv_if_ne (tgt := 1056) hx hb dL_law_1041 (by decide) (fun c9 => ?_) (fun c9 => ?_)
  · refine lv_goto (tgt := 1131) hx hb dL_law_1056 (by decide) ?_
    exact kn0 M' E' P' C' N' k kk mn md rw' dg' kn' fc' oft' H locs ls hI' ⟨hP, ⟨di, hR⟩, g, hO⟩ hS (lv_sub hl [2, 3, 4, 5, 6] rfl)
  · have k0 : k = 0 := c9
    have gv : g (0 : Int32).toNatClampNeg = v := hg k0
    refine lv_aload_n hx hb dL_law_1044 rfl (lv_at hl 5 rfl) ?_
    refine lv_iconst (v := 0) hx hb dL_law_1045 (by decide) ?_
    refine va_lald hx hb hK hO 0 2 rfl rfl (show ¬ ((0 : Int32) < 0 ∨ 1 ≤ (0 : Int32).toNatClampNeg) by decide) dL_law_1046 ?_
    refine lv_iload hx hb dL_law_1047 (lv_at hl 0 rfl) ?_
    refine lv_i2l (v := r.toInt64) hx hb dL_law_1049 rfl ?_
    refine W.lcmp hx hb dL_law_1050 ?_
    have e0 : lg_cmp (g (0 : Int32).toNatClampNeg) r.toInt64 = 0 := by rw [gv, hv k0]; exact cmp_rf _
    refine lv_if_eq (tgt := 1056) hx hb dL_law_1051 (by decide) (fun c8 => ?_) (fun c8 => absurd e0 c8)
    refine lv_goto (tgt := 1131) hx hb dL_law_1056 (by decide) ?_
    exact kn0 M' E' P' C' N' k kk mn md rw' dg' kn' fc' oft' H locs ls hI' ⟨hP, ⟨di, hR⟩, g, hO⟩ hS (lv_sub hl [2, 3, 4, 5, 6] rfl)
set_option maxHeartbeats 4000000 in
set_option maxRecDepth 100000 in
theorem LC_move {p : Program} {l : Launch} {e : Env} {s : State} {m : MethodId} {below : List Frame} {meth : Method} {c : Code} {b L : Nat} {xs : Nat → Int32} (hst : l.stackTraces = false) (hL : L ≤ 4096) (C0 : lw_At p s m meth c b L xs) {D : va_G} {cI cR cL : ClassId} (hK : va_K D vwCl [(cI, .int), (cR, .object RX2), (cL, .long)] s) (hN : nw_ok nw1 s) (hT : ts_ok (fun q : Nat => s.heap.size ≤ q) s s.heap) (hc : nc_ok s) {adC adR : Nat → Nat} {o : Nat} (hW : LW s adC adR o) {M : Fin 20 → Nat → Int32} {E : Nat → Int32} {P : Nat → Fin 20} {C N : Nat → Int32} {th kk : Int32} {mn : Int64} {md rw dg : Nat → Int32} {kn fc : Int32} {oft : Nat → Int32} (hI : INV M E P C N kk mn md rw dg kn fc oft) {i : Nat} (hi : i + 8 ≤ L) {H : Heap} {locs : List Loc} {ls : Array Slot} {cells slots : Nat} (hcell : cells + 1 ≤ 636428) (hslot : slots + 6 ≤ 7186819) (hH : LH D cI cR cL adC adR o (cellC cI cR adC M E P C N) th kk mn md rw dg kn fc oft H) (hS : va_S (fun q : Nat => s.heap.size ≤ q) s.heap H locs) (hl : lv_has ls 7 [(0, .ref b), (1, .ref (adC 45)), (2, .ref (adR 0)), (3, .ref o), (4, .int (nI i))]) {Q : State → Prop} (kn0 : ∀ (M : Fin 20 → Nat → Int32) (E : Nat → Int32) (P : Nat → Fin 20) (C N : Nat → Int32) (th kk : Int32) (mn : Int64) (md rw dg : Nat → Int32) (kn fc : Int32) (oft : Nat → Int32) (H : Heap) (locs : List Loc) (ls : Array Slot), INV M E P C N kk mn md rw dg kn fc oft → LH D cI cR cL adC adR o (cellC cI cR adC M E P C N) th kk mn md rw dg kn fc oft H → va_S (fun q : Nat => s.heap.size ≤ q) s.heap H locs → lv_has ls 7 [(0, .ref b), (1, .ref (adC 45)), (2, .ref (adR 0)), (3, .ref o), (4, .int (nI i))] → W p l e room_1 s m #[Value.ref b] below meth c H locs (cells + 1) (slots + 6) Q (F0 m 1131 ls [])) : W p l e room_1 s m #[Value.ref b] below meth c H locs cells slots Q (F0 m 1059 ls []) := by
  obtain ⟨hx, hb, hr, hml, hown, hts, hX, hbl, hlocks, hgv⟩ := C0
  have htsB := law_hts hts
  have hb : c.code = cL_law := hb
  have hbA : ¬ (fun q : Nat => s.heap.size ≤ q) b := Nat.not_le.mpr hbl
  obtain ⟨w1, w2, w3, w4, w5, w6, w7, w8⟩ := hW
  have wA : ∀ q, hA adC o q → s.heap.size ≤ q := fun q h => h.elim (w3 q) (fun z => z ▸ w5)
  obtain ⟨hP, ⟨di, hR⟩, g, hO⟩ := hH
  have hcell0 : cells ≤ 636428 := by omega
  have hslot0 : slots ≤ 7186819 := by omega
  obtain ⟨k, M', E', P', C', N', rw', dg', kn', hI', hM, hf⟩ := U_move l hst D (cR := cR) (cI := cI) (cL := cL) w1 hI th (xs (i + 1)) (fu := 20000000) (Nat.le_refl _)
  refine lv_aload_n hx hb dL_law_1059 rfl (lv_at hl 1 rfl) ?_
  refine law_ld1 (k := 1) hx hb hX hbl hbA hS (by omega) hL (lv_at hl 0 rfl) (lv_at hl 4 rfl) (by decide) dL_law_1060 dL_law_1061 dL_law_1063 dL_law_1064 dL_law_1065 ?_
  refine ct_callH0 (vx_runSW (As := [.ref (adC 45), .int (xs (i + 1))]) (rest := []) ⟨hx, hb, hml, hown, htsB⟩ hM (vx_cwSW 2 htsB (gu_SW mw_624 mw_625 mw_551 mw_534) rfl rfl rfl (by decide +kernel) ⟨Nat.le_of_ble_eq_true rfl, Nat.le_of_ble_eq_true rfl⟩) (hB0_pre nw1_kind hP hK hN hT hS w3 hc) rfl rfl hl.1 rfl (lv_room (Nat.le_of_ble_eq_true rfl)) dL_law_1066 ⟨hcell, hslot⟩) hS w3 (fun H locs hP hk hS => ?_)
  have hR := ww_kept hR hk (fun q h z => w6 q z h)
  have hO := oC_kept hO hk w7
  refine lv_istore (lv' := [(5, .int k), (0, .ref b), (1, .ref (adC 45)), (2, .ref (adR 0)), (3, .ref o), (4, .int (nI i))]) hx hb dL_law_1069 hl (by decide) rfl (fun ls hl => ?_)
  refine lv_aload_n hx hb dL_law_1071 rfl (lv_at hl 3 rfl) ?_
  refine law_ld1 (k := 1) hx hb hX hbl hbA hS (by omega) hL (lv_at hl 1 rfl) (lv_at hl 5 rfl) (by decide) dL_law_1072 dL_law_1073 dL_law_1075 dL_law_1076 dL_law_1077 ?_
  refine ct_callxA (va_runV (As := [.int (xs (i + 1))]) (rest := []) ⟨hx, hb, hml, hown, htsB⟩ (C_X5_move l D [(cI, .int), (cR, .object RX2), (cL, .long)] w2 rfl hf) (cwV 1 htsB (gu_V mw_626 mw_627 mw_628 mw_330 mw_473) rfl rfl rfl (by decide +kernel) ⟨Nat.le_of_ble_eq_true rfl, Nat.le_of_ble_eq_true rfl⟩) (ct_preVx (w := fun di => ww 6 adR (cellR cI adR th kk mn md rw dg kn fc oft di)) hR hK (ci := 5) (k := 0) rfl cr_mdl) rfl rfl hl.1 rfl (lv_room (Nat.le_of_ble_eq_true rfl)) dL_law_1078 ⟨hcell, hslot⟩) hS w4 (fun di H locs hR hk hS => ?_)
  have hP := ww_kept hP hk w6
  have hO := oC_kept hO hk w8
  refine lv_aload_n hx hb dL_law_1081 rfl (lv_at hl 3 rfl) ?_
  refine ct_callxA (va_runV (As := []) (rest := []) ⟨hx, hb, hml, hown, htsB⟩ (C_X5_thrown l D [(cI, .int), (cR, .object RX2), (cL, .long)] w2 rfl (th := k) rfl) (cwV 0 htsB (gu_V mw_555 mw_556 mw_557 mw_330 mw_320) rfl rfl rfl (by decide +kernel) ⟨Nat.le_of_ble_eq_true rfl, Nat.le_of_ble_eq_true rfl⟩) (ct_preVx (w := fun di => ww 6 adR (cellR cI adR k kk mn md rw' dg' kn' fc oft di)) hR hK (ci := 5) (k := 0) rfl cr_mdl) rfl rfl hl.1 rfl (lv_room (Nat.le_of_ble_eq_true rfl)) dL_law_1082 ⟨hcell, hslot⟩) hS w4 (fun di H locs hR hk hS => ?_)
  have hP := ww_kept hP hk w6
  have hO := oC_kept hO hk w8
  refine lv_iload hx hb dL_law_1085 (lv_at hl 0 rfl) ?_
  refine lv_icmp_eq (tgt := 1092) hx hb dL_law_1087 (by decide) (fun c9 => ?_) (fun c9 => absurd rfl c9)
  refine lv_goto (tgt := 1131) hx hb dL_law_1092 (by decide) ?_
  exact kn0 M' E' P' C' N' k kk mn md rw' dg' kn' fc oft H locs ls hI' ⟨hP, ⟨di, hR⟩, g, hO⟩ hS (lv_sub hl [1, 2, 3, 4, 5] rfl)
set_option maxHeartbeats 4000000 in
set_option maxRecDepth 100000 in
theorem LC_take {p : Program} {l : Launch} {e : Env} {s : State} {m : MethodId} {below : List Frame} {meth : Method} {c : Code} {b L : Nat} {xs : Nat → Int32} (hst : l.stackTraces = false) (hL : L ≤ 4096) (C0 : lw_At p s m meth c b L xs) {D : va_G} {cI cR cL : ClassId} (hK : va_K D vwCl [(cI, .int), (cR, .object RX2), (cL, .long)] s) (hN : nw_ok nw1 s) (hT : ts_ok (fun q : Nat => s.heap.size ≤ q) s s.heap) (hc : nc_ok s) {adC adR : Nat → Nat} {o : Nat} (hW : LW s adC adR o) {M : Fin 20 → Nat → Int32} {E : Nat → Int32} {P : Nat → Fin 20} {C N : Nat → Int32} {th kk : Int32} {mn : Int64} {md rw dg : Nat → Int32} {kn fc : Int32} {oft : Nat → Int32} (hI : INV M E P C N kk mn md rw dg kn fc oft) {i : Nat} (hi : i + 8 ≤ L) {H : Heap} {locs : List Loc} {ls : Array Slot} {cells slots : Nat} (hcell : cells + 1 ≤ 636428) (hslot : slots + 6 ≤ 7186819) (hH : LH D cI cR cL adC adR o (cellC cI cR adC M E P C N) th kk mn md rw dg kn fc oft H) (hS : va_S (fun q : Nat => s.heap.size ≤ q) s.heap H locs) (hl : lv_has ls 7 [(0, .ref b), (1, .ref (adC 45)), (2, .ref (adR 0)), (3, .ref o), (4, .int (nI i))]) {Q : State → Prop} (kn0 : ∀ (M : Fin 20 → Nat → Int32) (E : Nat → Int32) (P : Nat → Fin 20) (C N : Nat → Int32) (th kk : Int32) (mn : Int64) (md rw dg : Nat → Int32) (kn fc : Int32) (oft : Nat → Int32) (H : Heap) (locs : List Loc) (ls : Array Slot), INV M E P C N kk mn md rw dg kn fc oft → LH D cI cR cL adC adR o (cellC cI cR adC M E P C N) th kk mn md rw dg kn fc oft H → va_S (fun q : Nat => s.heap.size ≤ q) s.heap H locs → lv_has ls 7 [(0, .ref b), (1, .ref (adC 45)), (2, .ref (adR 0)), (3, .ref o), (4, .int (nI i))] → W p l e room_1 s m #[Value.ref b] below meth c H locs (cells + 1) (slots + 6) Q (F0 m 1131 ls [])) : W p l e room_1 s m #[Value.ref b] below meth c H locs cells slots Q (F0 m 1095 ls []) := by
  obtain ⟨hx, hb, hr, hml, hown, hts, hX, hbl, hlocks, hgv⟩ := C0
  have htsB := law_hts hts
  have hb : c.code = cL_law := hb
  have hbA : ¬ (fun q : Nat => s.heap.size ≤ q) b := Nat.not_le.mpr hbl
  obtain ⟨w1, w2, w3, w4, w5, w6, w7, w8⟩ := hW
  have wA : ∀ q, hA adC o q → s.heap.size ≤ q := fun q h => h.elim (w3 q) (fun z => z ▸ w5)
  obtain ⟨hP, ⟨di, hR⟩, g, hO⟩ := hH
  have hcell0 : cells ≤ 636428 := by omega
  have hslot0 : slots ≤ 7186819 := by omega
  obtain ⟨k, M', E', P', C', N', rw', dg', kn', fc', oft', hI', hM, hf⟩ := U_take l hst D (cR := cR) (cI := cI) (cL := cL) w1 hI th (xs (i + 1)) (fu := 20000000) (Nat.le_refl _)
  refine lv_aload_n hx hb dL_law_1095 rfl (lv_at hl 1 rfl) ?_
  refine law_ld1 (k := 1) hx hb hX hbl hbA hS (by omega) hL (lv_at hl 0 rfl) (lv_at hl 4 rfl) (by decide) dL_law_1096 dL_law_1097 dL_law_1099 dL_law_1100 dL_law_1101 ?_
  refine ct_callH0 (vx_runSW (As := [.ref (adC 45), .int (xs (i + 1))]) (rest := []) ⟨hx, hb, hml, hown, htsB⟩ hM (vx_cwSW 2 htsB (gu_SW mw_629 mw_630 mw_551 mw_538) rfl rfl rfl (by decide +kernel) ⟨Nat.le_of_ble_eq_true rfl, Nat.le_of_ble_eq_true rfl⟩) (hB0_pre nw1_kind hP hK hN hT hS w3 hc) rfl rfl hl.1 rfl (lv_room (Nat.le_of_ble_eq_true rfl)) dL_law_1102 ⟨hcell, hslot⟩) hS w3 (fun H locs hP hk hS => ?_)
  have hR := ww_kept hR hk (fun q h z => w6 q z h)
  have hO := oC_kept hO hk w7
  refine lv_istore (lv' := [(5, .int k), (0, .ref b), (1, .ref (adC 45)), (2, .ref (adR 0)), (3, .ref o), (4, .int (nI i))]) hx hb dL_law_1105 hl (by decide) rfl (fun ls hl => ?_)
  refine lv_aload_n hx hb dL_law_1107 rfl (lv_at hl 3 rfl) ?_
  refine law_ld1 (k := 1) hx hb hX hbl hbA hS (by omega) hL (lv_at hl 1 rfl) (lv_at hl 5 rfl) (by decide) dL_law_1108 dL_law_1109 dL_law_1111 dL_law_1112 dL_law_1113 ?_
  refine ct_callxA (va_runV (As := [.int (xs (i + 1))]) (rest := []) ⟨hx, hb, hml, hown, htsB⟩ (C_X5_take l D [(cI, .int), (cR, .object RX2), (cL, .long)] w2 rfl hf) (cwV 1 htsB (gu_V mw_631 mw_632 mw_633 mw_330 mw_474) rfl rfl rfl (by decide +kernel) ⟨Nat.le_of_ble_eq_true rfl, Nat.le_of_ble_eq_true rfl⟩) (ct_preVx (w := fun di => ww 6 adR (cellR cI adR th kk mn md rw dg kn fc oft di)) hR hK (ci := 5) (k := 0) rfl cr_mdl) rfl rfl hl.1 rfl (lv_room (Nat.le_of_ble_eq_true rfl)) dL_law_1114 ⟨hcell, hslot⟩) hS w4 (fun di H locs hR hk hS => ?_)
  have hP := ww_kept hP hk w6
  have hO := oC_kept hO hk w8
  refine lv_aload_n hx hb dL_law_1117 rfl (lv_at hl 3 rfl) ?_
  refine ct_callxA (va_runV (As := []) (rest := []) ⟨hx, hb, hml, hown, htsB⟩ (C_X5_thrown l D [(cI, .int), (cR, .object RX2), (cL, .long)] w2 rfl (th := k) rfl) (cwV 0 htsB (gu_V mw_555 mw_556 mw_557 mw_330 mw_320) rfl rfl rfl (by decide +kernel) ⟨Nat.le_of_ble_eq_true rfl, Nat.le_of_ble_eq_true rfl⟩) (ct_preVx (w := fun di => ww 6 adR (cellR cI adR k kk mn md rw' dg' kn' fc' oft' di)) hR hK (ci := 5) (k := 0) rfl cr_mdl) rfl rfl hl.1 rfl (lv_room (Nat.le_of_ble_eq_true rfl)) dL_law_1118 ⟨hcell, hslot⟩) hS w4 (fun di H locs hR hk hS => ?_)
  have hP := ww_kept hP hk w6
  have hO := oC_kept hO hk w8
  refine lv_iload hx hb dL_law_1121 (lv_at hl 0 rfl) ?_
  refine lv_icmp_eq (tgt := 1128) hx hb dL_law_1123 (by decide) (fun c9 => ?_) (fun c9 => absurd rfl c9)
  refine lv_goto (tgt := 1131) hx hb dL_law_1128 (by decide) ?_
  exact kn0 M' E' P' C' N' k kk mn md rw' dg' kn' fc' oft' H locs ls hI' ⟨hP, ⟨di, hR⟩, g, hO⟩ hS (lv_sub hl [1, 2, 3, 4, 5] rfl)
