set_option maxHeartbeats 4000000 in
set_option maxRecDepth 100000 in
theorem law_0 {G : xwG} {Q : State → Prop} {ad : Nat → Nat} {cs : xmC} {cells slots b L : Nat} {xs : Nat → Int32} {i : Int32} (C : xw_C G cL_law 7 RL 431 ad) (hR : xgR G = room_1) (ht : xgt G = xm_tys cs) (hl : (xgl G).stackTraces = false) (hN : va_Nc xISE xIAE (xgs G)) (hX : va_X b L xs (xgs G) (xgs G).heap) (hbl : b < (xgs G).heap.size) (hbB : ¬ xgB G ≤ b) (hi : ∀ j : Int32, 1 ≤ j → j ≤ 4 → vp_in (i + j) L) (hcs : cells + 9 ≤ 601024 ∧ slots + 54 ≤ 7293034) {M M1 M2 M3 : xwM} {k0 b0 t0 : Int32} (h1 : hL1 (fX2_link (xs (i + 1).toNatClampNeg) (xs (i + 2).toNatClampNeg) (xs (i + 3).toNatClampNeg) M) = some (k0, M1)) (h2 : fX3_link (xs (i + 1).toNatClampNeg) (xs (i + 2).toNatClampNeg) (xs (i + 3).toNatClampNeg) M1 = some (b0, M2)) (h3 : fX3_thrown M2 = some (t0, M3)) (h4 : t0 = k0) (h5 : k0 = 0 → (M3 430 0).toInt64 = b0.toInt64)
    (k : XV G Q 7 (cells + 4) (slots + 24) ad cs M3 1091 [some (.ref b), some (.ref (ad 0)), some (.ref (ad 418)), some (.ref (ad 430)), some (.int i), none, none] []) : XV G Q 7 cells slots ad cs M 112 [some (.ref b), some (.ref (ad 0)), some (.ref (ad 418)), some (.ref (ad 430)), some (.int i), none, none] [] := by
  refine xw_aload_n C dL_law_112 1 rfl rfl ?_
  refine xw_aload_n C dL_law_113 0 rfl rfl ?_
  refine xw_iload C dL_law_114 rfl ?_
  refine xw_iconst (v := 1) C dL_law_116 (by decide) ?_
  refine xw_iadd C dL_law_117 ?_
  refine xw_sld C hX hbl hbB (hi 1 (by decide) (by decide)) dL_law_118 ?_
  refine xw_aload_n C dL_law_119 0 rfl rfl ?_
  refine xw_iload C dL_law_120 rfl ?_
  refine xw_iconst (v := 2) C dL_law_122 (by decide) ?_
  refine xw_iadd C dL_law_123 ?_
  refine xw_sld C hX hbl hbB (hi 2 (by decide) (by decide)) dL_law_124 ?_
  refine xw_aload_n C dL_law_125 0 rfl rfl ?_
  refine xw_iload C dL_law_126 rfl ?_
  refine xw_iconst (v := 3) C dL_law_128 (by decide) ?_
  refine xw_iadd C dL_law_129 ?_
  refine xw_sld C hX hbl hbB (hi 3 (by decide) (by decide)) dL_law_130 ?_
  refine xw_aload_n C dL_law_131 3 rfl rfl ?_
  refine xh_S C hN (mL_link (xgl G) C.2.2.2.2.2.2.2.2.1 ht hl h1) FL_link hw_140 (by rw [hR]; decide) (xh_room hR hcs (by decide)) rfl (Nat.le_of_ble_eq_true rfl) dL_law_132 rfl ?_
  refine xw_istore C dL_law_135 (by decide) ?_
  refine xw_aload_n C dL_law_137 2 rfl rfl ?_
  refine xw_aload_n C dL_law_138 0 rfl rfl ?_
  refine xw_iload C dL_law_139 rfl ?_
  refine xw_iconst (v := 1) C dL_law_141 (by decide) ?_
  refine xw_iadd C dL_law_142 ?_
  refine xw_sld C hX hbl hbB (hi 1 (by decide) (by decide)) dL_law_143 ?_
  refine xw_aload_n C dL_law_144 0 rfl rfl ?_
  refine xw_iload C dL_law_145 rfl ?_
  refine xw_iconst (v := 2) C dL_law_147 (by decide) ?_
  refine xw_iadd C dL_law_148 ?_
  refine xw_sld C hX hbl hbB (hi 2 (by decide) (by decide)) dL_law_149 ?_
  refine xw_aload_n C dL_law_150 0 rfl rfl ?_
  refine xw_iload C dL_law_151 rfl ?_
  refine xw_iconst (v := 3) C dL_law_153 (by decide) ?_
  refine xw_iadd C dL_law_154 ?_
  refine xw_sld C hX hbl hbB (hi 3 (by decide) (by decide)) dL_law_155 ?_
  refine xc_Vi C (mX3_link (xgl G) C.2.2.2.2.2.2.2.2.1 ht h2) FX3_link hw_539 (by decide) xs_M rfl (by rw [hR]; decide) (xh_room0 hR hcs (by decide)) rfl (Nat.le_of_ble_eq_true rfl) dL_law_156 rfl ?_
  refine xw_istore C dL_law_159 (by decide) ?_
  refine xw_aload_n C dL_law_161 2 rfl rfl ?_
  refine xc_Vi C (mX3_thrown (xgl G) C.2.2.2.2.2.2.2.2.1 ht h3) FX3_thrown hw_535 (by decide) xs_M rfl (by rw [hR]; decide) (xh_room0 hR hcs (by decide)) rfl (Nat.le_of_ble_eq_true rfl) dL_law_162 rfl ?_
  refine xw_iload C dL_law_165 rfl ?_
  refine xw_icmp_eq (tgt := 172) C dL_law_167 (by decide) (fun _ => ?_) (fun c => absurd h4 c)
  refine xw_iload C dL_law_172 rfl ?_
  refine xw_if_ne (tgt := 189) C dL_law_174 (by decide) (fun _ => ?_) (fun c => ?_)
  · refine xw_goto (tgt := 1091) C dL_law_189 (by decide) ?_
    exact xl_sub (xl_c rfl (xl_c rfl (xl_c rfl (xl_c rfl (xl_c rfl (xl_n (xl_n xl_e))))))) k
  · have h5 := h5 c
    refine xw_aload_n C dL_law_177 3 rfl rfl ?_
    refine xw_iconst (v := 0) C dL_law_178 (by decide) ?_
    refine xv_lald C ht dL_law_179 ?_
    refine xw_iload C dL_law_180 rfl ?_
    refine xw_i2l C dL_law_182 ?_
    refine xw_lcmp C dL_law_183 ?_
    refine xw_if_eq (tgt := 189) C dL_law_184 (by decide) (fun _ => ?_) (fun c => absurd (xh_cmp h5) c)
    refine xw_goto (tgt := 1091) C dL_law_189 (by decide) ?_
    exact xl_sub (xl_c rfl (xl_c rfl (xl_c rfl (xl_c rfl (xl_c rfl (xl_n (xl_n xl_e))))))) k
set_option maxHeartbeats 4000000 in
set_option maxRecDepth 100000 in
theorem law_1 {G : xwG} {Q : State → Prop} {ad : Nat → Nat} {cs : xmC} {cells slots b L : Nat} {xs : Nat → Int32} {i : Int32} (C : xw_C G cL_law 7 RL 431 ad) (hR : xgR G = room_1) (ht : xgt G = xm_tys cs) (hl : (xgl G).stackTraces = false) (hN : va_Nc xISE xIAE (xgs G)) (hX : va_X b L xs (xgs G) (xgs G).heap) (hbl : b < (xgs G).heap.size) (hbB : ¬ xgB G ≤ b) (hi : ∀ j : Int32, 1 ≤ j → j ≤ 4 → vp_in (i + j) L) (hcs : cells + 9 ≤ 601024 ∧ slots + 54 ≤ 7293034) {M M1 M2 M3 : xwM} {k0 b0 t0 : Int32} (h1 : hL1 (fX2_announce (xs (i + 1).toNatClampNeg) M) = some (k0, M1)) (h2 : fX3_announce (xs (i + 1).toNatClampNeg) M1 = some (b0, M2)) (h3 : fX3_thrown M2 = some (t0, M3)) (h4 : t0 = k0) (h5 : k0 = 0 → (M3 430 0).toInt64 = b0.toInt64)
    (k : XV G Q 7 (cells + 1) (slots + 6) ad cs M3 1091 [some (.ref b), some (.ref (ad 0)), some (.ref (ad 418)), some (.ref (ad 430)), some (.int i), none, none] []) : XV G Q 7 cells slots ad cs M 192 [some (.ref b), some (.ref (ad 0)), some (.ref (ad 418)), some (.ref (ad 430)), some (.int i), none, none] [] := by
  refine xw_aload_n C dL_law_192 1 rfl rfl ?_
  refine xw_aload_n C dL_law_193 0 rfl rfl ?_
  refine xw_iload C dL_law_194 rfl ?_
  refine xw_iconst (v := 1) C dL_law_196 (by decide) ?_
  refine xw_iadd C dL_law_197 ?_
  refine xw_sld C hX hbl hbB (hi 1 (by decide) (by decide)) dL_law_198 ?_
  refine xw_aload_n C dL_law_199 3 rfl rfl ?_
  refine xh_S C hN (mL_announce (xgl G) C.2.2.2.2.2.2.2.2.1 ht hl h1) FL_announce hw_302 (by rw [hR]; decide) (xh_room hR hcs (by decide)) rfl (Nat.le_of_ble_eq_true rfl) dL_law_200 rfl ?_
  refine xw_istore C dL_law_203 (by decide) ?_
  refine xw_aload_n C dL_law_205 2 rfl rfl ?_
  refine xw_aload_n C dL_law_206 0 rfl rfl ?_
  refine xw_iload C dL_law_207 rfl ?_
  refine xw_iconst (v := 1) C dL_law_209 (by decide) ?_
  refine xw_iadd C dL_law_210 ?_
  refine xw_sld C hX hbl hbB (hi 1 (by decide) (by decide)) dL_law_211 ?_
  refine xc_Vi C (mX3_announce (xgl G) C.2.2.2.2.2.2.2.2.1 ht h2) FX3_announce hw_595 (by decide) xs_M rfl (by rw [hR]; decide) (xh_room0 hR hcs (by decide)) rfl (Nat.le_of_ble_eq_true rfl) dL_law_212 rfl ?_
  refine xw_istore C dL_law_215 (by decide) ?_
  refine xw_aload_n C dL_law_217 2 rfl rfl ?_
  refine xc_Vi C (mX3_thrown (xgl G) C.2.2.2.2.2.2.2.2.1 ht h3) FX3_thrown hw_535 (by decide) xs_M rfl (by rw [hR]; decide) (xh_room0 hR hcs (by decide)) rfl (Nat.le_of_ble_eq_true rfl) dL_law_218 rfl ?_
  refine xw_iload C dL_law_221 rfl ?_
  refine xw_icmp_eq (tgt := 228) C dL_law_223 (by decide) (fun _ => ?_) (fun c => absurd h4 c)
  refine xw_iload C dL_law_228 rfl ?_
  refine xw_if_ne (tgt := 245) C dL_law_230 (by decide) (fun _ => ?_) (fun c => ?_)
  · refine xw_goto (tgt := 1091) C dL_law_245 (by decide) ?_
    exact xl_sub (xl_c rfl (xl_c rfl (xl_c rfl (xl_c rfl (xl_c rfl (xl_n (xl_n xl_e))))))) k
  · have h5 := h5 c
    refine xw_aload_n C dL_law_233 3 rfl rfl ?_
    refine xw_iconst (v := 0) C dL_law_234 (by decide) ?_
    refine xv_lald C ht dL_law_235 ?_
    refine xw_iload C dL_law_236 rfl ?_
    refine xw_i2l C dL_law_238 ?_
    refine xw_lcmp C dL_law_239 ?_
    refine xw_if_eq (tgt := 245) C dL_law_240 (by decide) (fun _ => ?_) (fun c => absurd (xh_cmp h5) c)
    refine xw_goto (tgt := 1091) C dL_law_245 (by decide) ?_
    exact xl_sub (xl_c rfl (xl_c rfl (xl_c rfl (xl_c rfl (xl_c rfl (xl_n (xl_n xl_e))))))) k
set_option maxHeartbeats 4000000 in
set_option maxRecDepth 100000 in
theorem law_2 {G : xwG} {Q : State → Prop} {ad : Nat → Nat} {cs : xmC} {cells slots b L : Nat} {xs : Nat → Int32} {i : Int32} (C : xw_C G cL_law 7 RL 431 ad) (hR : xgR G = room_1) (ht : xgt G = xm_tys cs) (hl : (xgl G).stackTraces = false) (hN : va_Nc xISE xIAE (xgs G)) (hX : va_X b L xs (xgs G) (xgs G).heap) (hbl : b < (xgs G).heap.size) (hbB : ¬ xgB G ≤ b) (hi : ∀ j : Int32, 1 ≤ j → j ≤ 4 → vp_in (i + j) L) (hcs : cells + 9 ≤ 601024 ∧ slots + 54 ≤ 7293034) {M M1 M2 M3 : xwM} {k0 b0 t0 : Int32} (h1 : hL1 (fX2_renew (xs (i + 1).toNatClampNeg) M) = some (k0, M1)) (h2 : fX3_renew (xs (i + 1).toNatClampNeg) M1 = some (b0, M2)) (h3 : fX3_thrown M2 = some (t0, M3)) (h4 : t0 = k0) (h5 : k0 = 0 → (M3 430 0).toInt64 = b0.toInt64)
    (k : XV G Q 7 (cells + 1) (slots + 6) ad cs M3 1091 [some (.ref b), some (.ref (ad 0)), some (.ref (ad 418)), some (.ref (ad 430)), some (.int i), none, none] []) : XV G Q 7 cells slots ad cs M 248 [some (.ref b), some (.ref (ad 0)), some (.ref (ad 418)), some (.ref (ad 430)), some (.int i), none, none] [] := by
  refine xw_aload_n C dL_law_248 1 rfl rfl ?_
  refine xw_aload_n C dL_law_249 0 rfl rfl ?_
  refine xw_iload C dL_law_250 rfl ?_
  refine xw_iconst (v := 1) C dL_law_252 (by decide) ?_
  refine xw_iadd C dL_law_253 ?_
  refine xw_sld C hX hbl hbB (hi 1 (by decide) (by decide)) dL_law_254 ?_
  refine xw_aload_n C dL_law_255 3 rfl rfl ?_
  refine xh_S C hN (mL_renew (xgl G) C.2.2.2.2.2.2.2.2.1 ht hl h1) FL_renew hw_309 (by rw [hR]; decide) (xh_room hR hcs (by decide)) rfl (Nat.le_of_ble_eq_true rfl) dL_law_256 rfl ?_
  refine xw_istore C dL_law_259 (by decide) ?_
  refine xw_aload_n C dL_law_261 2 rfl rfl ?_
  refine xw_aload_n C dL_law_262 0 rfl rfl ?_
  refine xw_iload C dL_law_263 rfl ?_
  refine xw_iconst (v := 1) C dL_law_265 (by decide) ?_
  refine xw_iadd C dL_law_266 ?_
  refine xw_sld C hX hbl hbB (hi 1 (by decide) (by decide)) dL_law_267 ?_
  refine xc_Vi C (mX3_renew (xgl G) C.2.2.2.2.2.2.2.2.1 ht h2) FX3_renew hw_599 (by decide) xs_M rfl (by rw [hR]; decide) (xh_room0 hR hcs (by decide)) rfl (Nat.le_of_ble_eq_true rfl) dL_law_268 rfl ?_
  refine xw_istore C dL_law_271 (by decide) ?_
  refine xw_aload_n C dL_law_273 2 rfl rfl ?_
  refine xc_Vi C (mX3_thrown (xgl G) C.2.2.2.2.2.2.2.2.1 ht h3) FX3_thrown hw_535 (by decide) xs_M rfl (by rw [hR]; decide) (xh_room0 hR hcs (by decide)) rfl (Nat.le_of_ble_eq_true rfl) dL_law_274 rfl ?_
  refine xw_iload C dL_law_277 rfl ?_
  refine xw_icmp_eq (tgt := 284) C dL_law_279 (by decide) (fun _ => ?_) (fun c => absurd h4 c)
  refine xw_iload C dL_law_284 rfl ?_
  refine xw_if_ne (tgt := 301) C dL_law_286 (by decide) (fun _ => ?_) (fun c => ?_)
  · refine xw_goto (tgt := 1091) C dL_law_301 (by decide) ?_
    exact xl_sub (xl_c rfl (xl_c rfl (xl_c rfl (xl_c rfl (xl_c rfl (xl_n (xl_n xl_e))))))) k
  · have h5 := h5 c
    refine xw_aload_n C dL_law_289 3 rfl rfl ?_
    refine xw_iconst (v := 0) C dL_law_290 (by decide) ?_
    refine xv_lald C ht dL_law_291 ?_
    refine xw_iload C dL_law_292 rfl ?_
    refine xw_i2l C dL_law_294 ?_
    refine xw_lcmp C dL_law_295 ?_
    refine xw_if_eq (tgt := 301) C dL_law_296 (by decide) (fun _ => ?_) (fun c => absurd (xh_cmp h5) c)
    refine xw_goto (tgt := 1091) C dL_law_301 (by decide) ?_
    exact xl_sub (xl_c rfl (xl_c rfl (xl_c rfl (xl_c rfl (xl_c rfl (xl_n (xl_n xl_e))))))) k
set_option maxHeartbeats 4000000 in
set_option maxRecDepth 100000 in
theorem law_3 {G : xwG} {Q : State → Prop} {ad : Nat → Nat} {cs : xmC} {cells slots b L : Nat} {xs : Nat → Int32} {i : Int32} (C : xw_C G cL_law 7 RL 431 ad) (hR : xgR G = room_1) (ht : xgt G = xm_tys cs) (hl : (xgl G).stackTraces = false) (hN : va_Nc xISE xIAE (xgs G)) (hX : va_X b L xs (xgs G) (xgs G).heap) (hbl : b < (xgs G).heap.size) (hbB : ¬ xgB G ≤ b) (hi : ∀ j : Int32, 1 ≤ j → j ≤ 4 → vp_in (i + j) L) (hcs : cells + 9 ≤ 601024 ∧ slots + 54 ≤ 7293034) {M M1 M2 M3 : xwM} {k0 b0 t0 : Int32} (h1 : hL1 (fX2_ask (xs (i + 1).toNatClampNeg) (xs (i + 2).toNatClampNeg) M) = some (k0, M1)) (h2 : fX3_ask (xs (i + 1).toNatClampNeg) (xs (i + 2).toNatClampNeg) M1 = some (b0, M2)) (h3 : fX3_thrown M2 = some (t0, M3)) (h4 : t0 = k0) (h5 : k0 = 0 → (M3 430 0).toInt64 = b0.toInt64)
    (k : XV G Q 7 (cells + 3) (slots + 18) ad cs M3 1091 [some (.ref b), some (.ref (ad 0)), some (.ref (ad 418)), some (.ref (ad 430)), some (.int i), none, none] []) : XV G Q 7 cells slots ad cs M 304 [some (.ref b), some (.ref (ad 0)), some (.ref (ad 418)), some (.ref (ad 430)), some (.int i), none, none] [] := by
  refine xw_aload_n C dL_law_304 1 rfl rfl ?_
  refine xw_aload_n C dL_law_305 0 rfl rfl ?_
  refine xw_iload C dL_law_306 rfl ?_
  refine xw_iconst (v := 1) C dL_law_308 (by decide) ?_
  refine xw_iadd C dL_law_309 ?_
  refine xw_sld C hX hbl hbB (hi 1 (by decide) (by decide)) dL_law_310 ?_
  refine xw_aload_n C dL_law_311 0 rfl rfl ?_
  refine xw_iload C dL_law_312 rfl ?_
  refine xw_iconst (v := 2) C dL_law_314 (by decide) ?_
  refine xw_iadd C dL_law_315 ?_
  refine xw_sld C hX hbl hbB (hi 2 (by decide) (by decide)) dL_law_316 ?_
  refine xw_aload_n C dL_law_317 3 rfl rfl ?_
  refine xh_S C hN (mL_ask (xgl G) C.2.2.2.2.2.2.2.2.1 ht hl h1) FL_ask hw_321 (by rw [hR]; decide) (xh_room hR hcs (by decide)) rfl (Nat.le_of_ble_eq_true rfl) dL_law_318 rfl ?_
  refine xw_istore C dL_law_321 (by decide) ?_
  refine xw_aload_n C dL_law_323 2 rfl rfl ?_
  refine xw_aload_n C dL_law_324 0 rfl rfl ?_
  refine xw_iload C dL_law_325 rfl ?_
  refine xw_iconst (v := 1) C dL_law_327 (by decide) ?_
  refine xw_iadd C dL_law_328 ?_
  refine xw_sld C hX hbl hbB (hi 1 (by decide) (by decide)) dL_law_329 ?_
  refine xw_aload_n C dL_law_330 0 rfl rfl ?_
  refine xw_iload C dL_law_331 rfl ?_
  refine xw_iconst (v := 2) C dL_law_333 (by decide) ?_
  refine xw_iadd C dL_law_334 ?_
  refine xw_sld C hX hbl hbB (hi 2 (by decide) (by decide)) dL_law_335 ?_
  refine xc_Vi C (mX3_ask (xgl G) C.2.2.2.2.2.2.2.2.1 ht h2) FX3_ask hw_603 (by decide) xs_M rfl (by rw [hR]; decide) (xh_room0 hR hcs (by decide)) rfl (Nat.le_of_ble_eq_true rfl) dL_law_336 rfl ?_
  refine xw_istore C dL_law_339 (by decide) ?_
  refine xw_aload_n C dL_law_341 2 rfl rfl ?_
  refine xc_Vi C (mX3_thrown (xgl G) C.2.2.2.2.2.2.2.2.1 ht h3) FX3_thrown hw_535 (by decide) xs_M rfl (by rw [hR]; decide) (xh_room0 hR hcs (by decide)) rfl (Nat.le_of_ble_eq_true rfl) dL_law_342 rfl ?_
  refine xw_iload C dL_law_345 rfl ?_
  refine xw_icmp_eq (tgt := 352) C dL_law_347 (by decide) (fun _ => ?_) (fun c => absurd h4 c)
  refine xw_iload C dL_law_352 rfl ?_
  refine xw_if_ne (tgt := 369) C dL_law_354 (by decide) (fun _ => ?_) (fun c => ?_)
  · refine xw_goto (tgt := 1091) C dL_law_369 (by decide) ?_
    exact xl_sub (xl_c rfl (xl_c rfl (xl_c rfl (xl_c rfl (xl_c rfl (xl_n (xl_n xl_e))))))) k
  · have h5 := h5 c
    refine xw_aload_n C dL_law_357 3 rfl rfl ?_
    refine xw_iconst (v := 0) C dL_law_358 (by decide) ?_
    refine xv_lald C ht dL_law_359 ?_
    refine xw_iload C dL_law_360 rfl ?_
    refine xw_i2l C dL_law_362 ?_
    refine xw_lcmp C dL_law_363 ?_
    refine xw_if_eq (tgt := 369) C dL_law_364 (by decide) (fun _ => ?_) (fun c => absurd (xh_cmp h5) c)
    refine xw_goto (tgt := 1091) C dL_law_369 (by decide) ?_
    exact xl_sub (xl_c rfl (xl_c rfl (xl_c rfl (xl_c rfl (xl_c rfl (xl_n (xl_n xl_e))))))) k
set_option maxHeartbeats 4000000 in
set_option maxRecDepth 100000 in
theorem law_4 {G : xwG} {Q : State → Prop} {ad : Nat → Nat} {cs : xmC} {cells slots b L : Nat} {xs : Nat → Int32} {i : Int32} (C : xw_C G cL_law 7 RL 431 ad) (hR : xgR G = room_1) (ht : xgt G = xm_tys cs) (hl : (xgl G).stackTraces = false) (hN : va_Nc xISE xIAE (xgs G)) (hX : va_X b L xs (xgs G) (xgs G).heap) (hbl : b < (xgs G).heap.size) (hbB : ¬ xgB G ≤ b) (hi : ∀ j : Int32, 1 ≤ j → j ≤ 4 → vp_in (i + j) L) (hcs : cells + 9 ≤ 601024 ∧ slots + 54 ≤ 7293034) {M M1 M2 M3 : xwM} {k0 b0 t0 : Int32} (h1 : hL2 (fX2_reboot (xs (i + 1).toNatClampNeg) M) = some (k0, M1)) (h2 : fX3_reboot (xs (i + 1).toNatClampNeg) M1 = some (b0, M2)) (h3 : fX3_thrown M2 = some (t0, M3)) (h4 : t0 = k0) (h5 : k0 = 0 → (M3 430 0).toInt64 = b0.toInt64)
    (k : XV G Q 7 (cells + 2) (slots + 12) ad cs M3 1091 [some (.ref b), some (.ref (ad 0)), some (.ref (ad 418)), some (.ref (ad 430)), some (.int i), none, none] []) : XV G Q 7 cells slots ad cs M 372 [some (.ref b), some (.ref (ad 0)), some (.ref (ad 418)), some (.ref (ad 430)), some (.int i), none, none] [] := by
  refine xw_aload_n C dL_law_372 1 rfl rfl ?_
  refine xw_aload_n C dL_law_373 0 rfl rfl ?_
  refine xw_iload C dL_law_374 rfl ?_
  refine xw_iconst (v := 1) C dL_law_376 (by decide) ?_
  refine xw_iadd C dL_law_377 ?_
  refine xw_sld C hX hbl hbB (hi 1 (by decide) (by decide)) dL_law_378 ?_
  refine xw_aload_n C dL_law_379 3 rfl rfl ?_
  refine xh_S C hN (mL_reboot (xgl G) C.2.2.2.2.2.2.2.2.1 ht hl h1) FL_reboot hw_328 (by rw [hR]; decide) (xh_room hR hcs (by decide)) rfl (Nat.le_of_ble_eq_true rfl) dL_law_380 rfl ?_
  refine xw_istore C dL_law_383 (by decide) ?_
  refine xw_aload_n C dL_law_385 2 rfl rfl ?_
  refine xw_aload_n C dL_law_386 0 rfl rfl ?_
  refine xw_iload C dL_law_387 rfl ?_
  refine xw_iconst (v := 1) C dL_law_389 (by decide) ?_
  refine xw_iadd C dL_law_390 ?_
  refine xw_sld C hX hbl hbB (hi 1 (by decide) (by decide)) dL_law_391 ?_
  refine xc_Vi C (mX3_reboot (xgl G) C.2.2.2.2.2.2.2.2.1 ht h2) FX3_reboot hw_607 (by decide) xs_M rfl (by rw [hR]; decide) (xh_room0 hR hcs (by decide)) rfl (Nat.le_of_ble_eq_true rfl) dL_law_392 rfl ?_
  refine xw_istore C dL_law_395 (by decide) ?_
  refine xw_aload_n C dL_law_397 2 rfl rfl ?_
  refine xc_Vi C (mX3_thrown (xgl G) C.2.2.2.2.2.2.2.2.1 ht h3) FX3_thrown hw_535 (by decide) xs_M rfl (by rw [hR]; decide) (xh_room0 hR hcs (by decide)) rfl (Nat.le_of_ble_eq_true rfl) dL_law_398 rfl ?_
  refine xw_iload C dL_law_401 rfl ?_
  refine xw_icmp_eq (tgt := 408) C dL_law_403 (by decide) (fun _ => ?_) (fun c => absurd h4 c)
  refine xw_iload C dL_law_408 rfl ?_
  refine xw_if_ne (tgt := 425) C dL_law_410 (by decide) (fun _ => ?_) (fun c => ?_)
  · refine xw_goto (tgt := 1091) C dL_law_425 (by decide) ?_
    exact xl_sub (xl_c rfl (xl_c rfl (xl_c rfl (xl_c rfl (xl_c rfl (xl_n (xl_n xl_e))))))) k
  · have h5 := h5 c
    refine xw_aload_n C dL_law_413 3 rfl rfl ?_
    refine xw_iconst (v := 0) C dL_law_414 (by decide) ?_
    refine xv_lald C ht dL_law_415 ?_
    refine xw_iload C dL_law_416 rfl ?_
    refine xw_i2l C dL_law_418 ?_
    refine xw_lcmp C dL_law_419 ?_
    refine xw_if_eq (tgt := 425) C dL_law_420 (by decide) (fun _ => ?_) (fun c => absurd (xh_cmp h5) c)
    refine xw_goto (tgt := 1091) C dL_law_425 (by decide) ?_
    exact xl_sub (xl_c rfl (xl_c rfl (xl_c rfl (xl_c rfl (xl_c rfl (xl_n (xl_n xl_e))))))) k
set_option maxHeartbeats 4000000 in
set_option maxRecDepth 100000 in
theorem law_5 {G : xwG} {Q : State → Prop} {ad : Nat → Nat} {cs : xmC} {cells slots b L : Nat} {xs : Nat → Int32} {i : Int32} (C : xw_C G cL_law 7 RL 431 ad) (hR : xgR G = room_1) (ht : xgt G = xm_tys cs) (hl : (xgl G).stackTraces = false) (hN : va_Nc xISE xIAE (xgs G)) (hX : va_X b L xs (xgs G) (xgs G).heap) (hbl : b < (xgs G).heap.size) (hbB : ¬ xgB G ≤ b) (hi : ∀ j : Int32, 1 ≤ j → j ≤ 4 → vp_in (i + j) L) (hcs : cells + 9 ≤ 601024 ∧ slots + 54 ≤ 7293034) {M M1 M2 M3 : xwM} {k0 b0 t0 : Int32} (h1 : hL1 (fX2_deliver (xs (i + 1).toNatClampNeg) M) = some (k0, M1)) (h2 : fX3_deliver (xs (i + 1).toNatClampNeg) M1 = some (b0, M2)) (h3 : fX3_thrown M2 = some (t0, M3)) (h4 : t0 = k0) (h5 : k0 = 0 → (M3 430 0).toInt64 = b0.toInt64)
    (k : XV G Q 7 (cells + 1) (slots + 6) ad cs M3 1091 [some (.ref b), some (.ref (ad 0)), some (.ref (ad 418)), some (.ref (ad 430)), some (.int i), none, none] []) : XV G Q 7 cells slots ad cs M 428 [some (.ref b), some (.ref (ad 0)), some (.ref (ad 418)), some (.ref (ad 430)), some (.int i), none, none] [] := by
  refine xw_aload_n C dL_law_428 1 rfl rfl ?_
  refine xw_aload_n C dL_law_429 0 rfl rfl ?_
  refine xw_iload C dL_law_430 rfl ?_
  refine xw_iconst (v := 1) C dL_law_432 (by decide) ?_
  refine xw_iadd C dL_law_433 ?_
  refine xw_sld C hX hbl hbB (hi 1 (by decide) (by decide)) dL_law_434 ?_
  refine xw_aload_n C dL_law_435 3 rfl rfl ?_
  refine xh_S C hN (mL_deliver (xgl G) C.2.2.2.2.2.2.2.2.1 ht hl h1) FL_deliver hw_372 (by rw [hR]; decide) (xh_room hR hcs (by decide)) rfl (Nat.le_of_ble_eq_true rfl) dL_law_436 rfl ?_
  refine xw_istore C dL_law_439 (by decide) ?_
  refine xw_aload_n C dL_law_441 2 rfl rfl ?_
  refine xw_aload_n C dL_law_442 0 rfl rfl ?_
  refine xw_iload C dL_law_443 rfl ?_
  refine xw_iconst (v := 1) C dL_law_445 (by decide) ?_
  refine xw_iadd C dL_law_446 ?_
  refine xw_sld C hX hbl hbB (hi 1 (by decide) (by decide)) dL_law_447 ?_
  refine xc_Vi C (mX3_deliver (xgl G) C.2.2.2.2.2.2.2.2.1 ht h2) FX3_deliver hw_615 (by decide) xs_M rfl (by rw [hR]; decide) (xh_room0 hR hcs (by decide)) rfl (Nat.le_of_ble_eq_true rfl) dL_law_448 rfl ?_
  refine xw_istore C dL_law_451 (by decide) ?_
  refine xw_aload_n C dL_law_453 2 rfl rfl ?_
  refine xc_Vi C (mX3_thrown (xgl G) C.2.2.2.2.2.2.2.2.1 ht h3) FX3_thrown hw_535 (by decide) xs_M rfl (by rw [hR]; decide) (xh_room0 hR hcs (by decide)) rfl (Nat.le_of_ble_eq_true rfl) dL_law_454 rfl ?_
  refine xw_iload C dL_law_457 rfl ?_
  refine xw_icmp_eq (tgt := 464) C dL_law_459 (by decide) (fun _ => ?_) (fun c => absurd h4 c)
  refine xw_iload C dL_law_464 rfl ?_
  refine xw_if_ne (tgt := 481) C dL_law_466 (by decide) (fun _ => ?_) (fun c => ?_)
  · refine xw_goto (tgt := 1091) C dL_law_481 (by decide) ?_
    exact xl_sub (xl_c rfl (xl_c rfl (xl_c rfl (xl_c rfl (xl_c rfl (xl_n (xl_n xl_e))))))) k
  · have h5 := h5 c
    refine xw_aload_n C dL_law_469 3 rfl rfl ?_
    refine xw_iconst (v := 0) C dL_law_470 (by decide) ?_
    refine xv_lald C ht dL_law_471 ?_
    refine xw_iload C dL_law_472 rfl ?_
    refine xw_i2l C dL_law_474 ?_
    refine xw_lcmp C dL_law_475 ?_
    refine xw_if_eq (tgt := 481) C dL_law_476 (by decide) (fun _ => ?_) (fun c => absurd (xh_cmp h5) c)
    refine xw_goto (tgt := 1091) C dL_law_481 (by decide) ?_
    exact xl_sub (xl_c rfl (xl_c rfl (xl_c rfl (xl_c rfl (xl_c rfl (xl_n (xl_n xl_e))))))) k
set_option maxHeartbeats 4000000 in
set_option maxRecDepth 100000 in
theorem law_6 {G : xwG} {Q : State → Prop} {ad : Nat → Nat} {cs : xmC} {cells slots b L : Nat} {xs : Nat → Int32} {i : Int32} (C : xw_C G cL_law 7 RL 431 ad) (hR : xgR G = room_1) (ht : xgt G = xm_tys cs) (hl : (xgl G).stackTraces = false) (hN : va_Nc xISE xIAE (xgs G)) (hX : va_X b L xs (xgs G) (xgs G).heap) (hbl : b < (xgs G).heap.size) (hbB : ¬ xgB G ≤ b) (hi : ∀ j : Int32, 1 ≤ j → j ≤ 4 → vp_in (i + j) L) (hcs : cells + 9 ≤ 601024 ∧ slots + 54 ≤ 7293034) {M M1 M2 M3 : xwM} {k0 b0 t0 : Int32} (h1 : hL1 (fX2_run (xs (i + 1).toNatClampNeg) M) = some (k0, M1)) (h2 : fX3_run (xs (i + 1).toNatClampNeg) M1 = some (b0, M2)) (h3 : fX3_thrown M2 = some (t0, M3)) (h4 : t0 = k0) (h5 : k0 = 0 → (M3 430 0).toInt64 = b0.toInt64)
    (k : XV G Q 7 (cells + 1) (slots + 6) ad cs M3 1091 [some (.ref b), some (.ref (ad 0)), some (.ref (ad 418)), some (.ref (ad 430)), some (.int i), none, none] []) : XV G Q 7 cells slots ad cs M 484 [some (.ref b), some (.ref (ad 0)), some (.ref (ad 418)), some (.ref (ad 430)), some (.int i), none, none] [] := by
  refine xw_aload_n C dL_law_484 1 rfl rfl ?_
  refine xw_aload_n C dL_law_485 0 rfl rfl ?_
  refine xw_iload C dL_law_486 rfl ?_
  refine xw_iconst (v := 1) C dL_law_488 (by decide) ?_
  refine xw_iadd C dL_law_489 ?_
  refine xw_sld C hX hbl hbB (hi 1 (by decide) (by decide)) dL_law_490 ?_
  refine xw_aload_n C dL_law_491 3 rfl rfl ?_
  refine xh_S C hN (mL_run (xgl G) C.2.2.2.2.2.2.2.2.1 ht hl h1) FL_run hw_406 (by rw [hR]; decide) (xh_room hR hcs (by decide)) rfl (Nat.le_of_ble_eq_true rfl) dL_law_492 rfl ?_
  refine xw_istore C dL_law_495 (by decide) ?_
  refine xw_aload_n C dL_law_497 2 rfl rfl ?_
  refine xw_aload_n C dL_law_498 0 rfl rfl ?_
  refine xw_iload C dL_law_499 rfl ?_
  refine xw_iconst (v := 1) C dL_law_501 (by decide) ?_
  refine xw_iadd C dL_law_502 ?_
  refine xw_sld C hX hbl hbB (hi 1 (by decide) (by decide)) dL_law_503 ?_
  refine xc_Vi C (mX3_run (xgl G) C.2.2.2.2.2.2.2.2.1 ht h2) FX3_run hw_627 (by decide) xs_M rfl (by rw [hR]; decide) (xh_room0 hR hcs (by decide)) rfl (Nat.le_of_ble_eq_true rfl) dL_law_504 rfl ?_
  refine xw_istore C dL_law_507 (by decide) ?_
  refine xw_aload_n C dL_law_509 2 rfl rfl ?_
  refine xc_Vi C (mX3_thrown (xgl G) C.2.2.2.2.2.2.2.2.1 ht h3) FX3_thrown hw_535 (by decide) xs_M rfl (by rw [hR]; decide) (xh_room0 hR hcs (by decide)) rfl (Nat.le_of_ble_eq_true rfl) dL_law_510 rfl ?_
  refine xw_iload C dL_law_513 rfl ?_
  refine xw_icmp_eq (tgt := 520) C dL_law_515 (by decide) (fun _ => ?_) (fun c => absurd h4 c)
  refine xw_iload C dL_law_520 rfl ?_
  refine xw_if_ne (tgt := 537) C dL_law_522 (by decide) (fun _ => ?_) (fun c => ?_)
  · refine xw_goto (tgt := 1091) C dL_law_537 (by decide) ?_
    exact xl_sub (xl_c rfl (xl_c rfl (xl_c rfl (xl_c rfl (xl_c rfl (xl_n (xl_n xl_e))))))) k
  · have h5 := h5 c
    refine xw_aload_n C dL_law_525 3 rfl rfl ?_
    refine xw_iconst (v := 0) C dL_law_526 (by decide) ?_
    refine xv_lald C ht dL_law_527 ?_
    refine xw_iload C dL_law_528 rfl ?_
    refine xw_i2l C dL_law_530 ?_
    refine xw_lcmp C dL_law_531 ?_
    refine xw_if_eq (tgt := 537) C dL_law_532 (by decide) (fun _ => ?_) (fun c => absurd (xh_cmp h5) c)
    refine xw_goto (tgt := 1091) C dL_law_537 (by decide) ?_
    exact xl_sub (xl_c rfl (xl_c rfl (xl_c rfl (xl_c rfl (xl_c rfl (xl_n (xl_n xl_e))))))) k
set_option maxHeartbeats 4000000 in
set_option maxRecDepth 100000 in
theorem law_7 {G : xwG} {Q : State → Prop} {ad : Nat → Nat} {cs : xmC} {cells slots b L : Nat} {xs : Nat → Int32} {i : Int32} (C : xw_C G cL_law 7 RL 431 ad) (hR : xgR G = room_1) (ht : xgt G = xm_tys cs) (hl : (xgl G).stackTraces = false) (hN : va_Nc xISE xIAE (xgs G)) (hX : va_X b L xs (xgs G) (xgs G).heap) (hbl : b < (xgs G).heap.size) (hbB : ¬ xgB G ≤ b) (hi : ∀ j : Int32, 1 ≤ j → j ≤ 4 → vp_in (i + j) L) (hcs : cells + 9 ≤ 601024 ∧ slots + 54 ≤ 7293034) {M M1 M2 M3 : xwM} {k0 b0 t0 : Int32} (h1 : hL1 (fX2_drop (xs (i + 1).toNatClampNeg) M) = some (k0, M1)) (h2 : fX3_drop (xs (i + 1).toNatClampNeg) M1 = some (b0, M2)) (h3 : fX3_thrown M2 = some (t0, M3)) (h4 : t0 = k0) (h5 : k0 = 0 → (M3 430 0).toInt64 = b0.toInt64)
    (k : XV G Q 7 (cells + 1) (slots + 6) ad cs M3 1091 [some (.ref b), some (.ref (ad 0)), some (.ref (ad 418)), some (.ref (ad 430)), some (.int i), none, none] []) : XV G Q 7 cells slots ad cs M 540 [some (.ref b), some (.ref (ad 0)), some (.ref (ad 418)), some (.ref (ad 430)), some (.int i), none, none] [] := by
  refine xw_aload_n C dL_law_540 1 rfl rfl ?_
  refine xw_aload_n C dL_law_541 0 rfl rfl ?_
  refine xw_iload C dL_law_542 rfl ?_
  refine xw_iconst (v := 1) C dL_law_544 (by decide) ?_
  refine xw_iadd C dL_law_545 ?_
  refine xw_sld C hX hbl hbB (hi 1 (by decide) (by decide)) dL_law_546 ?_
  refine xw_aload_n C dL_law_547 3 rfl rfl ?_
  refine xh_S C hN (mL_drop (xgl G) C.2.2.2.2.2.2.2.2.1 ht hl h1) FL_drop hw_413 (by rw [hR]; decide) (xh_room hR hcs (by decide)) rfl (Nat.le_of_ble_eq_true rfl) dL_law_548 rfl ?_
  refine xw_istore C dL_law_551 (by decide) ?_
  refine xw_aload_n C dL_law_553 2 rfl rfl ?_
  refine xw_aload_n C dL_law_554 0 rfl rfl ?_
  refine xw_iload C dL_law_555 rfl ?_
  refine xw_iconst (v := 1) C dL_law_557 (by decide) ?_
  refine xw_iadd C dL_law_558 ?_
  refine xw_sld C hX hbl hbB (hi 1 (by decide) (by decide)) dL_law_559 ?_
  refine xc_Vi C (mX3_drop (xgl G) C.2.2.2.2.2.2.2.2.1 ht h2) FX3_drop hw_631 (by decide) xs_M rfl (by rw [hR]; decide) (xh_room0 hR hcs (by decide)) rfl (Nat.le_of_ble_eq_true rfl) dL_law_560 rfl ?_
  refine xw_istore C dL_law_563 (by decide) ?_
  refine xw_aload_n C dL_law_565 2 rfl rfl ?_
  refine xc_Vi C (mX3_thrown (xgl G) C.2.2.2.2.2.2.2.2.1 ht h3) FX3_thrown hw_535 (by decide) xs_M rfl (by rw [hR]; decide) (xh_room0 hR hcs (by decide)) rfl (Nat.le_of_ble_eq_true rfl) dL_law_566 rfl ?_
  refine xw_iload C dL_law_569 rfl ?_
  refine xw_icmp_eq (tgt := 576) C dL_law_571 (by decide) (fun _ => ?_) (fun c => absurd h4 c)
  refine xw_iload C dL_law_576 rfl ?_
  refine xw_if_ne (tgt := 593) C dL_law_578 (by decide) (fun _ => ?_) (fun c => ?_)
  · refine xw_goto (tgt := 1091) C dL_law_593 (by decide) ?_
    exact xl_sub (xl_c rfl (xl_c rfl (xl_c rfl (xl_c rfl (xl_c rfl (xl_n (xl_n xl_e))))))) k
  · have h5 := h5 c
    refine xw_aload_n C dL_law_581 3 rfl rfl ?_
    refine xw_iconst (v := 0) C dL_law_582 (by decide) ?_
    refine xv_lald C ht dL_law_583 ?_
    refine xw_iload C dL_law_584 rfl ?_
    refine xw_i2l C dL_law_586 ?_
    refine xw_lcmp C dL_law_587 ?_
    refine xw_if_eq (tgt := 593) C dL_law_588 (by decide) (fun _ => ?_) (fun c => absurd (xh_cmp h5) c)
    refine xw_goto (tgt := 1091) C dL_law_593 (by decide) ?_
    exact xl_sub (xl_c rfl (xl_c rfl (xl_c rfl (xl_c rfl (xl_c rfl (xl_n (xl_n xl_e))))))) k
set_option maxHeartbeats 4000000 in
set_option maxRecDepth 100000 in
theorem law_8 {G : xwG} {Q : State → Prop} {ad : Nat → Nat} {cs : xmC} {cells slots b L : Nat} {xs : Nat → Int32} {i : Int32} (C : xw_C G cL_law 7 RL 431 ad) (hR : xgR G = room_1) (ht : xgt G = xm_tys cs) (hl : (xgl G).stackTraces = false) (hN : va_Nc xISE xIAE (xgs G)) (hX : va_X b L xs (xgs G) (xgs G).heap) (hbl : b < (xgs G).heap.size) (hbB : ¬ xgB G ≤ b) (hi : ∀ j : Int32, 1 ≤ j → j ≤ 4 → vp_in (i + j) L) (hcs : cells + 9 ≤ 601024 ∧ slots + 54 ≤ 7293034) {M M1 M2 M3 : xwM} {k0 b0 t0 : Int32} (h1 : hL3 (fX2_copy (xs (i + 1).toNatClampNeg) M) = some (k0, M1)) (h2 : fX3_copy (xs (i + 1).toNatClampNeg) M1 = some (b0, M2)) (h3 : fX3_thrown M2 = some (t0, M3)) (h4 : t0 = k0) (h5 : k0 = 0 → (M3 430 0).toInt64 = (if b0 = 0 then (0 : Int32).toInt64 else (1 : Int32).toInt64))
    (k : XV G Q 7 (cells + 1) (slots + 6) ad cs M3 1091 [some (.ref b), some (.ref (ad 0)), some (.ref (ad 418)), some (.ref (ad 430)), some (.int i), none, none] []) : XV G Q 7 cells slots ad cs M 596 [some (.ref b), some (.ref (ad 0)), some (.ref (ad 418)), some (.ref (ad 430)), some (.int i), none, none] [] := by
  refine xw_aload_n C dL_law_596 1 rfl rfl ?_
  refine xw_aload_n C dL_law_597 0 rfl rfl ?_
  refine xw_iload C dL_law_598 rfl ?_
  refine xw_iconst (v := 1) C dL_law_600 (by decide) ?_
  refine xw_iadd C dL_law_601 ?_
  refine xw_sld C hX hbl hbB (hi 1 (by decide) (by decide)) dL_law_602 ?_
  refine xw_aload_n C dL_law_603 3 rfl rfl ?_
  refine xh_S C hN (mL_copy (xgl G) C.2.2.2.2.2.2.2.2.1 ht hl h1) FL_copy hw_420 (by rw [hR]; decide) (xh_room hR hcs (by decide)) rfl (Nat.le_of_ble_eq_true rfl) dL_law_604 rfl ?_
  refine xw_istore C dL_law_607 (by decide) ?_
  refine xw_aload_n C dL_law_609 2 rfl rfl ?_
  refine xw_aload_n C dL_law_610 0 rfl rfl ?_
  refine xw_iload C dL_law_611 rfl ?_
  refine xw_iconst (v := 1) C dL_law_613 (by decide) ?_
  refine xw_iadd C dL_law_614 ?_
  refine xw_sld C hX hbl hbB (hi 1 (by decide) (by decide)) dL_law_615 ?_
  refine xc_Vi C (mX3_copy (xgl G) C.2.2.2.2.2.2.2.2.1 ht h2) FX3_copy hw_635 (by decide) xs_M rfl (by rw [hR]; decide) (xh_room0 hR hcs (by decide)) rfl (Nat.le_of_ble_eq_true rfl) dL_law_616 rfl ?_
  refine xw_istore C dL_law_619 (by decide) ?_
  refine xw_aload_n C dL_law_621 2 rfl rfl ?_
  refine xc_Vi C (mX3_thrown (xgl G) C.2.2.2.2.2.2.2.2.1 ht h3) FX3_thrown hw_535 (by decide) xs_M rfl (by rw [hR]; decide) (xh_room0 hR hcs (by decide)) rfl (Nat.le_of_ble_eq_true rfl) dL_law_622 rfl ?_
  refine xw_iload C dL_law_625 rfl ?_
  refine xw_icmp_eq (tgt := 632) C dL_law_627 (by decide) (fun _ => ?_) (fun c => absurd h4 c)
  refine xw_iload C dL_law_632 rfl ?_
  refine xw_if_ne (tgt := 656) C dL_law_634 (by decide) (fun _ => ?_) (fun c => ?_)
  · refine xw_goto (tgt := 1091) C dL_law_656 (by decide) ?_
    exact xl_sub (xl_c rfl (xl_c rfl (xl_c rfl (xl_c rfl (xl_c rfl (xl_n (xl_n xl_e))))))) k
  · have h5 := h5 c
    refine xw_aload_n C dL_law_637 3 rfl rfl ?_
    refine xw_iconst (v := 0) C dL_law_638 (by decide) ?_
    refine xv_lald C ht dL_law_639 ?_
    refine xw_iload C dL_law_640 rfl ?_
    refine xw_if_eq (tgt := 649) C dL_law_642 (by decide) (fun c2 => ?_) (fun c2 => ?_)
    · refine xw_lconst (v := (0 : Int32).toInt64) C dL_law_649 (by decide) ?_
      refine xw_lcmp C dL_law_650 ?_
      refine xw_if_eq (tgt := 656) C dL_law_651 (by decide) (fun _ => ?_) (fun c => absurd (xh_cmp (by rw [if_pos c2] at h5; exact h5)) c)
      refine xw_goto (tgt := 1091) C dL_law_656 (by decide) ?_
      exact xl_sub (xl_c rfl (xl_c rfl (xl_c rfl (xl_c rfl (xl_c rfl (xl_n (xl_n xl_e))))))) k
    · refine xw_lconst (v := (1 : Int32).toInt64) C dL_law_645 (by decide) ?_
      refine xw_goto (tgt := 650) C dL_law_646 (by decide) ?_
      refine xw_lcmp C dL_law_650 ?_
      refine xw_if_eq (tgt := 656) C dL_law_651 (by decide) (fun _ => ?_) (fun c => absurd (xh_cmp (by rw [if_neg c2] at h5; exact h5)) c)
      refine xw_goto (tgt := 1091) C dL_law_656 (by decide) ?_
      exact xl_sub (xl_c rfl (xl_c rfl (xl_c rfl (xl_c rfl (xl_c rfl (xl_n (xl_n xl_e))))))) k
set_option maxHeartbeats 4000000 in
set_option maxRecDepth 100000 in
theorem law_9 {G : xwG} {Q : State → Prop} {ad : Nat → Nat} {cs : xmC} {cells slots b L : Nat} {xs : Nat → Int32} {i : Int32} (C : xw_C G cL_law 7 RL 431 ad) (hR : xgR G = room_1) (ht : xgt G = xm_tys cs) (hl : (xgl G).stackTraces = false) (hN : va_Nc xISE xIAE (xgs G)) (hX : va_X b L xs (xgs G) (xgs G).heap) (hbl : b < (xgs G).heap.size) (hbB : ¬ xgB G ≤ b) (hi : ∀ j : Int32, 1 ≤ j → j ≤ 4 → vp_in (i + j) L) (hcs : cells + 9 ≤ 601024 ∧ slots + 54 ≤ 7293034) {M M1 M2 M3 : xwM} {k0 b0 t0 : Int32} (h1 : hL1 (fX2_letter (xs (i + 1).toNatClampNeg) (xs (i + 2).toNatClampNeg) M) = some (k0, M1)) (h2 : fX3_letter (xs (i + 1).toNatClampNeg) (xs (i + 2).toNatClampNeg) M1 = some (b0, M2)) (h3 : fX3_thrown M2 = some (t0, M3)) (h4 : t0 = k0) (h5 : k0 = 0 → (M3 430 0).toInt64 = b0.toInt64)
    (k : XV G Q 7 (cells + 2) (slots + 12) ad cs M3 1091 [some (.ref b), some (.ref (ad 0)), some (.ref (ad 418)), some (.ref (ad 430)), some (.int i), none, none] []) : XV G Q 7 cells slots ad cs M 659 [some (.ref b), some (.ref (ad 0)), some (.ref (ad 418)), some (.ref (ad 430)), some (.int i), none, none] [] := by
  refine xw_aload_n C dL_law_659 1 rfl rfl ?_
  refine xw_aload_n C dL_law_660 0 rfl rfl ?_
  refine xw_iload C dL_law_661 rfl ?_
  refine xw_iconst (v := 1) C dL_law_663 (by decide) ?_
  refine xw_iadd C dL_law_664 ?_
  refine xw_sld C hX hbl hbB (hi 1 (by decide) (by decide)) dL_law_665 ?_
  refine xw_aload_n C dL_law_666 0 rfl rfl ?_
  refine xw_iload C dL_law_667 rfl ?_
  refine xw_iconst (v := 2) C dL_law_669 (by decide) ?_
  refine xw_iadd C dL_law_670 ?_
  refine xw_sld C hX hbl hbB (hi 2 (by decide) (by decide)) dL_law_671 ?_
  refine xw_aload_n C dL_law_672 3 rfl rfl ?_
  refine xh_S C hN (mL_letter (xgl G) C.2.2.2.2.2.2.2.2.1 ht hl h1) FL_letter hw_431 (by rw [hR]; decide) (xh_room hR hcs (by decide)) rfl (Nat.le_of_ble_eq_true rfl) dL_law_673 rfl ?_
  refine xw_istore C dL_law_676 (by decide) ?_
  refine xw_aload_n C dL_law_678 2 rfl rfl ?_
  refine xw_aload_n C dL_law_679 0 rfl rfl ?_
  refine xw_iload C dL_law_680 rfl ?_
  refine xw_iconst (v := 1) C dL_law_682 (by decide) ?_
  refine xw_iadd C dL_law_683 ?_
  refine xw_sld C hX hbl hbB (hi 1 (by decide) (by decide)) dL_law_684 ?_
  refine xw_aload_n C dL_law_685 0 rfl rfl ?_
  refine xw_iload C dL_law_686 rfl ?_
  refine xw_iconst (v := 2) C dL_law_688 (by decide) ?_
  refine xw_iadd C dL_law_689 ?_
  refine xw_sld C hX hbl hbB (hi 2 (by decide) (by decide)) dL_law_690 ?_
  refine xc_Vi C (mX3_letter (xgl G) C.2.2.2.2.2.2.2.2.1 ht h2) FX3_letter hw_639 (by decide) xs_M rfl (by rw [hR]; decide) (xh_room0 hR hcs (by decide)) rfl (Nat.le_of_ble_eq_true rfl) dL_law_691 rfl ?_
  refine xw_istore C dL_law_694 (by decide) ?_
  refine xw_aload_n C dL_law_696 2 rfl rfl ?_
  refine xc_Vi C (mX3_thrown (xgl G) C.2.2.2.2.2.2.2.2.1 ht h3) FX3_thrown hw_535 (by decide) xs_M rfl (by rw [hR]; decide) (xh_room0 hR hcs (by decide)) rfl (Nat.le_of_ble_eq_true rfl) dL_law_697 rfl ?_
  refine xw_iload C dL_law_700 rfl ?_
  refine xw_icmp_eq (tgt := 707) C dL_law_702 (by decide) (fun _ => ?_) (fun c => absurd h4 c)
  refine xw_iload C dL_law_707 rfl ?_
  refine xw_if_ne (tgt := 724) C dL_law_709 (by decide) (fun _ => ?_) (fun c => ?_)
  · refine xw_goto (tgt := 1091) C dL_law_724 (by decide) ?_
    exact xl_sub (xl_c rfl (xl_c rfl (xl_c rfl (xl_c rfl (xl_c rfl (xl_n (xl_n xl_e))))))) k
  · have h5 := h5 c
    refine xw_aload_n C dL_law_712 3 rfl rfl ?_
    refine xw_iconst (v := 0) C dL_law_713 (by decide) ?_
    refine xv_lald C ht dL_law_714 ?_
    refine xw_iload C dL_law_715 rfl ?_
    refine xw_i2l C dL_law_717 ?_
    refine xw_lcmp C dL_law_718 ?_
    refine xw_if_eq (tgt := 724) C dL_law_719 (by decide) (fun _ => ?_) (fun c => absurd (xh_cmp h5) c)
    refine xw_goto (tgt := 1091) C dL_law_724 (by decide) ?_
    exact xl_sub (xl_c rfl (xl_c rfl (xl_c rfl (xl_c rfl (xl_c rfl (xl_n (xl_n xl_e))))))) k
set_option maxHeartbeats 4000000 in
set_option maxRecDepth 100000 in
theorem law_10 {G : xwG} {Q : State → Prop} {ad : Nat → Nat} {cs : xmC} {cells slots b L : Nat} {xs : Nat → Int32} {i : Int32} (C : xw_C G cL_law 7 RL 431 ad) (hR : xgR G = room_1) (ht : xgt G = xm_tys cs) (hl : (xgl G).stackTraces = false) (hN : va_Nc xISE xIAE (xgs G)) (hX : va_X b L xs (xgs G) (xgs G).heap) (hbl : b < (xgs G).heap.size) (hbB : ¬ xgB G ≤ b) (hi : ∀ j : Int32, 1 ≤ j → j ≤ 4 → vp_in (i + j) L) (hcs : cells + 9 ≤ 601024 ∧ slots + 54 ≤ 7293034) {M M1 M2 M3 : xwM} {k0 b0 t0 : Int32} (h1 : hL1 (fX2_way (xs (i + 1).toNatClampNeg) (xs (i + 2).toNatClampNeg) (xs (i + 3).toNatClampNeg) M) = some (k0, M1)) (h2 : fX3_way (xs (i + 1).toNatClampNeg) (xs (i + 2).toNatClampNeg) (xs (i + 3).toNatClampNeg) M1 = some (b0, M2)) (h3 : fX3_thrown M2 = some (t0, M3)) (h4 : t0 = k0) (h5 : k0 = 0 → (M3 430 0).toInt64 = b0.toInt64)
    (k : XV G Q 7 (cells + 3) (slots + 18) ad cs M3 1091 [some (.ref b), some (.ref (ad 0)), some (.ref (ad 418)), some (.ref (ad 430)), some (.int i), none, none] []) : XV G Q 7 cells slots ad cs M 727 [some (.ref b), some (.ref (ad 0)), some (.ref (ad 418)), some (.ref (ad 430)), some (.int i), none, none] [] := by
  refine xw_aload_n C dL_law_727 1 rfl rfl ?_
  refine xw_aload_n C dL_law_728 0 rfl rfl ?_
  refine xw_iload C dL_law_729 rfl ?_
  refine xw_iconst (v := 1) C dL_law_731 (by decide) ?_
  refine xw_iadd C dL_law_732 ?_
  refine xw_sld C hX hbl hbB (hi 1 (by decide) (by decide)) dL_law_733 ?_
  refine xw_aload_n C dL_law_734 0 rfl rfl ?_
  refine xw_iload C dL_law_735 rfl ?_
  refine xw_iconst (v := 2) C dL_law_737 (by decide) ?_
  refine xw_iadd C dL_law_738 ?_
  refine xw_sld C hX hbl hbB (hi 2 (by decide) (by decide)) dL_law_739 ?_
  refine xw_aload_n C dL_law_740 0 rfl rfl ?_
  refine xw_iload C dL_law_741 rfl ?_
  refine xw_iconst (v := 3) C dL_law_743 (by decide) ?_
  refine xw_iadd C dL_law_744 ?_
  refine xw_sld C hX hbl hbB (hi 3 (by decide) (by decide)) dL_law_745 ?_
  refine xw_aload_n C dL_law_746 3 rfl rfl ?_
  refine xh_S C hN (mL_way (xgl G) C.2.2.2.2.2.2.2.2.1 ht hl h1) FL_way hw_438 (by rw [hR]; decide) (xh_room hR hcs (by decide)) rfl (Nat.le_of_ble_eq_true rfl) dL_law_747 rfl ?_
  refine xw_istore C dL_law_750 (by decide) ?_
  refine xw_aload_n C dL_law_752 2 rfl rfl ?_
  refine xw_aload_n C dL_law_753 0 rfl rfl ?_
  refine xw_iload C dL_law_754 rfl ?_
  refine xw_iconst (v := 1) C dL_law_756 (by decide) ?_
  refine xw_iadd C dL_law_757 ?_
  refine xw_sld C hX hbl hbB (hi 1 (by decide) (by decide)) dL_law_758 ?_
  refine xw_aload_n C dL_law_759 0 rfl rfl ?_
  refine xw_iload C dL_law_760 rfl ?_
  refine xw_iconst (v := 2) C dL_law_762 (by decide) ?_
  refine xw_iadd C dL_law_763 ?_
  refine xw_sld C hX hbl hbB (hi 2 (by decide) (by decide)) dL_law_764 ?_
  refine xw_aload_n C dL_law_765 0 rfl rfl ?_
  refine xw_iload C dL_law_766 rfl ?_
  refine xw_iconst (v := 3) C dL_law_768 (by decide) ?_
  refine xw_iadd C dL_law_769 ?_
  refine xw_sld C hX hbl hbB (hi 3 (by decide) (by decide)) dL_law_770 ?_
  refine xc_Vi C (mX3_way (xgl G) C.2.2.2.2.2.2.2.2.1 ht h2) FX3_way hw_643 (by decide) xs_M rfl (by rw [hR]; decide) (xh_room0 hR hcs (by decide)) rfl (Nat.le_of_ble_eq_true rfl) dL_law_771 rfl ?_
  refine xw_istore C dL_law_774 (by decide) ?_
  refine xw_aload_n C dL_law_776 2 rfl rfl ?_
  refine xc_Vi C (mX3_thrown (xgl G) C.2.2.2.2.2.2.2.2.1 ht h3) FX3_thrown hw_535 (by decide) xs_M rfl (by rw [hR]; decide) (xh_room0 hR hcs (by decide)) rfl (Nat.le_of_ble_eq_true rfl) dL_law_777 rfl ?_
  refine xw_iload C dL_law_780 rfl ?_
  refine xw_icmp_eq (tgt := 787) C dL_law_782 (by decide) (fun _ => ?_) (fun c => absurd h4 c)
  refine xw_iload C dL_law_787 rfl ?_
  refine xw_if_ne (tgt := 804) C dL_law_789 (by decide) (fun _ => ?_) (fun c => ?_)
  · refine xw_goto (tgt := 1091) C dL_law_804 (by decide) ?_
    exact xl_sub (xl_c rfl (xl_c rfl (xl_c rfl (xl_c rfl (xl_c rfl (xl_n (xl_n xl_e))))))) k
  · have h5 := h5 c
    refine xw_aload_n C dL_law_792 3 rfl rfl ?_
    refine xw_iconst (v := 0) C dL_law_793 (by decide) ?_
    refine xv_lald C ht dL_law_794 ?_
    refine xw_iload C dL_law_795 rfl ?_
    refine xw_i2l C dL_law_797 ?_
    refine xw_lcmp C dL_law_798 ?_
    refine xw_if_eq (tgt := 804) C dL_law_799 (by decide) (fun _ => ?_) (fun c => absurd (xh_cmp h5) c)
    refine xw_goto (tgt := 1091) C dL_law_804 (by decide) ?_
    exact xl_sub (xl_c rfl (xl_c rfl (xl_c rfl (xl_c rfl (xl_c rfl (xl_n (xl_n xl_e))))))) k
set_option maxHeartbeats 4000000 in
set_option maxRecDepth 100000 in
theorem law_11 {G : xwG} {Q : State → Prop} {ad : Nat → Nat} {cs : xmC} {cells slots b L : Nat} {xs : Nat → Int32} {i : Int32} (C : xw_C G cL_law 7 RL 431 ad) (hR : xgR G = room_1) (ht : xgt G = xm_tys cs) (hl : (xgl G).stackTraces = false) (hN : va_Nc xISE xIAE (xgs G)) (hX : va_X b L xs (xgs G) (xgs G).heap) (hbl : b < (xgs G).heap.size) (hbB : ¬ xgB G ≤ b) (hi : ∀ j : Int32, 1 ≤ j → j ≤ 4 → vp_in (i + j) L) (hcs : cells + 9 ≤ 601024 ∧ slots + 54 ≤ 7293034) {M M1 M2 M3 : xwM} {k0 b0 t0 : Int32} (h1 : hL1 (fX2_told (xs (i + 1).toNatClampNeg) (xs (i + 2).toNatClampNeg) (xs (i + 3).toNatClampNeg) (xs (i + 4).toNatClampNeg) M) = some (k0, M1)) (h2 : fX3_told (xs (i + 1).toNatClampNeg) (xs (i + 2).toNatClampNeg) (xs (i + 3).toNatClampNeg) (xs (i + 4).toNatClampNeg) M1 = some (b0, M2)) (h3 : fX3_thrown M2 = some (t0, M3)) (h4 : t0 = k0) (h5 : k0 = 0 → (M3 430 0).toInt64 = b0.toInt64)
    (k : XV G Q 7 (cells + 7) (slots + 42) ad cs M3 1091 [some (.ref b), some (.ref (ad 0)), some (.ref (ad 418)), some (.ref (ad 430)), some (.int i), none, none] []) : XV G Q 7 cells slots ad cs M 807 [some (.ref b), some (.ref (ad 0)), some (.ref (ad 418)), some (.ref (ad 430)), some (.int i), none, none] [] := by
  refine xw_aload_n C dL_law_807 1 rfl rfl ?_
  refine xw_aload_n C dL_law_808 0 rfl rfl ?_
  refine xw_iload C dL_law_809 rfl ?_
  refine xw_iconst (v := 1) C dL_law_811 (by decide) ?_
  refine xw_iadd C dL_law_812 ?_
  refine xw_sld C hX hbl hbB (hi 1 (by decide) (by decide)) dL_law_813 ?_
  refine xw_aload_n C dL_law_814 0 rfl rfl ?_
  refine xw_iload C dL_law_815 rfl ?_
  refine xw_iconst (v := 2) C dL_law_817 (by decide) ?_
  refine xw_iadd C dL_law_818 ?_
  refine xw_sld C hX hbl hbB (hi 2 (by decide) (by decide)) dL_law_819 ?_
  refine xw_aload_n C dL_law_820 0 rfl rfl ?_
  refine xw_iload C dL_law_821 rfl ?_
  refine xw_iconst (v := 3) C dL_law_823 (by decide) ?_
  refine xw_iadd C dL_law_824 ?_
  refine xw_sld C hX hbl hbB (hi 3 (by decide) (by decide)) dL_law_825 ?_
  refine xw_aload_n C dL_law_826 0 rfl rfl ?_
  refine xw_iload C dL_law_827 rfl ?_
  refine xw_iconst (v := 4) C dL_law_829 (by decide) ?_
  refine xw_iadd C dL_law_830 ?_
  refine xw_sld C hX hbl hbB (hi 4 (by decide) (by decide)) dL_law_831 ?_
  refine xw_aload_n C dL_law_832 3 rfl rfl ?_
  refine xh_S C hN (mL_told (xgl G) C.2.2.2.2.2.2.2.2.1 ht hl h1) FL_told hw_445 (by rw [hR]; decide) (xh_room hR hcs (by decide)) rfl (Nat.le_of_ble_eq_true rfl) dL_law_833 rfl ?_
  refine xw_istore C dL_law_836 (by decide) ?_
  refine xw_aload_n C dL_law_838 2 rfl rfl ?_
  refine xw_aload_n C dL_law_839 0 rfl rfl ?_
  refine xw_iload C dL_law_840 rfl ?_
  refine xw_iconst (v := 1) C dL_law_842 (by decide) ?_
  refine xw_iadd C dL_law_843 ?_
  refine xw_sld C hX hbl hbB (hi 1 (by decide) (by decide)) dL_law_844 ?_
  refine xw_aload_n C dL_law_845 0 rfl rfl ?_
  refine xw_iload C dL_law_846 rfl ?_
  refine xw_iconst (v := 2) C dL_law_848 (by decide) ?_
  refine xw_iadd C dL_law_849 ?_
  refine xw_sld C hX hbl hbB (hi 2 (by decide) (by decide)) dL_law_850 ?_
  refine xw_aload_n C dL_law_851 0 rfl rfl ?_
  refine xw_iload C dL_law_852 rfl ?_
  refine xw_iconst (v := 3) C dL_law_854 (by decide) ?_
  refine xw_iadd C dL_law_855 ?_
  refine xw_sld C hX hbl hbB (hi 3 (by decide) (by decide)) dL_law_856 ?_
  refine xw_aload_n C dL_law_857 0 rfl rfl ?_
  refine xw_iload C dL_law_858 rfl ?_
  refine xw_iconst (v := 4) C dL_law_860 (by decide) ?_
  refine xw_iadd C dL_law_861 ?_
  refine xw_sld C hX hbl hbB (hi 4 (by decide) (by decide)) dL_law_862 ?_
  refine xc_Vi C (mX3_told (xgl G) C.2.2.2.2.2.2.2.2.1 ht h2) FX3_told hw_647 (by decide) xs_M rfl (by rw [hR]; decide) (xh_room0 hR hcs (by decide)) rfl (Nat.le_of_ble_eq_true rfl) dL_law_863 rfl ?_
  refine xw_istore C dL_law_866 (by decide) ?_
  refine xw_aload_n C dL_law_868 2 rfl rfl ?_
  refine xc_Vi C (mX3_thrown (xgl G) C.2.2.2.2.2.2.2.2.1 ht h3) FX3_thrown hw_535 (by decide) xs_M rfl (by rw [hR]; decide) (xh_room0 hR hcs (by decide)) rfl (Nat.le_of_ble_eq_true rfl) dL_law_869 rfl ?_
  refine xw_iload C dL_law_872 rfl ?_
  refine xw_icmp_eq (tgt := 879) C dL_law_874 (by decide) (fun _ => ?_) (fun c => absurd h4 c)
  refine xw_iload C dL_law_879 rfl ?_
  refine xw_if_ne (tgt := 896) C dL_law_881 (by decide) (fun _ => ?_) (fun c => ?_)
  · refine xw_goto (tgt := 1091) C dL_law_896 (by decide) ?_
    exact xl_sub (xl_c rfl (xl_c rfl (xl_c rfl (xl_c rfl (xl_c rfl (xl_n (xl_n xl_e))))))) k
  · have h5 := h5 c
    refine xw_aload_n C dL_law_884 3 rfl rfl ?_
    refine xw_iconst (v := 0) C dL_law_885 (by decide) ?_
    refine xv_lald C ht dL_law_886 ?_
    refine xw_iload C dL_law_887 rfl ?_
    refine xw_i2l C dL_law_889 ?_
    refine xw_lcmp C dL_law_890 ?_
    refine xw_if_eq (tgt := 896) C dL_law_891 (by decide) (fun _ => ?_) (fun c => absurd (xh_cmp h5) c)
    refine xw_goto (tgt := 1091) C dL_law_896 (by decide) ?_
    exact xl_sub (xl_c rfl (xl_c rfl (xl_c rfl (xl_c rfl (xl_c rfl (xl_n (xl_n xl_e))))))) k
set_option maxHeartbeats 4000000 in
set_option maxRecDepth 100000 in
theorem law_12 {G : xwG} {Q : State → Prop} {ad : Nat → Nat} {cs : xmC} {cells slots b L : Nat} {xs : Nat → Int32} {i : Int32} (C : xw_C G cL_law 7 RL 431 ad) (hR : xgR G = room_1) (ht : xgt G = xm_tys cs) (hl : (xgl G).stackTraces = false) (hN : va_Nc xISE xIAE (xgs G)) (hX : va_X b L xs (xgs G) (xgs G).heap) (hbl : b < (xgs G).heap.size) (hbB : ¬ xgB G ≤ b) (hi : ∀ j : Int32, 1 ≤ j → j ≤ 4 → vp_in (i + j) L) (hcs : cells + 9 ≤ 601024 ∧ slots + 54 ≤ 7293034) {M M1 M2 M3 : xwM} {k0 b0 t0 : Int32} (h1 : hL1 (fX2_trace (xs (i + 1).toNatClampNeg) (xs (i + 2).toNatClampNeg) M) = some (k0, M1)) (h2 : fX3_trace (xs (i + 1).toNatClampNeg) (xs (i + 2).toNatClampNeg) M1 = some (b0, M2)) (h3 : fX3_thrown M2 = some (t0, M3)) (h4 : t0 = k0) (h5 : k0 = 0 → (M3 430 0).toInt64 = b0.toInt64)
    (k : XV G Q 7 (cells + 2) (slots + 12) ad cs M3 1091 [some (.ref b), some (.ref (ad 0)), some (.ref (ad 418)), some (.ref (ad 430)), some (.int i), none, none] []) : XV G Q 7 cells slots ad cs M 899 [some (.ref b), some (.ref (ad 0)), some (.ref (ad 418)), some (.ref (ad 430)), some (.int i), none, none] [] := by
  refine xw_aload_n C dL_law_899 1 rfl rfl ?_
  refine xw_aload_n C dL_law_900 0 rfl rfl ?_
  refine xw_iload C dL_law_901 rfl ?_
  refine xw_iconst (v := 1) C dL_law_903 (by decide) ?_
  refine xw_iadd C dL_law_904 ?_
  refine xw_sld C hX hbl hbB (hi 1 (by decide) (by decide)) dL_law_905 ?_
  refine xw_aload_n C dL_law_906 0 rfl rfl ?_
  refine xw_iload C dL_law_907 rfl ?_
  refine xw_iconst (v := 2) C dL_law_909 (by decide) ?_
  refine xw_iadd C dL_law_910 ?_
  refine xw_sld C hX hbl hbB (hi 2 (by decide) (by decide)) dL_law_911 ?_
  refine xw_aload_n C dL_law_912 3 rfl rfl ?_
  refine xh_S C hN (mL_trace (xgl G) C.2.2.2.2.2.2.2.2.1 ht hl h1) FL_trace hw_452 (by rw [hR]; decide) (xh_room hR hcs (by decide)) rfl (Nat.le_of_ble_eq_true rfl) dL_law_913 rfl ?_
  refine xw_istore C dL_law_916 (by decide) ?_
  refine xw_aload_n C dL_law_918 2 rfl rfl ?_
  refine xw_aload_n C dL_law_919 0 rfl rfl ?_
  refine xw_iload C dL_law_920 rfl ?_
  refine xw_iconst (v := 1) C dL_law_922 (by decide) ?_
  refine xw_iadd C dL_law_923 ?_
  refine xw_sld C hX hbl hbB (hi 1 (by decide) (by decide)) dL_law_924 ?_
  refine xw_aload_n C dL_law_925 0 rfl rfl ?_
  refine xw_iload C dL_law_926 rfl ?_
  refine xw_iconst (v := 2) C dL_law_928 (by decide) ?_
  refine xw_iadd C dL_law_929 ?_
  refine xw_sld C hX hbl hbB (hi 2 (by decide) (by decide)) dL_law_930 ?_
  refine xc_Vi C (mX3_trace (xgl G) C.2.2.2.2.2.2.2.2.1 ht h2) FX3_trace hw_651 (by decide) xs_M rfl (by rw [hR]; decide) (xh_room0 hR hcs (by decide)) rfl (Nat.le_of_ble_eq_true rfl) dL_law_931 rfl ?_
  refine xw_istore C dL_law_934 (by decide) ?_
  refine xw_aload_n C dL_law_936 2 rfl rfl ?_
  refine xc_Vi C (mX3_thrown (xgl G) C.2.2.2.2.2.2.2.2.1 ht h3) FX3_thrown hw_535 (by decide) xs_M rfl (by rw [hR]; decide) (xh_room0 hR hcs (by decide)) rfl (Nat.le_of_ble_eq_true rfl) dL_law_937 rfl ?_
  refine xw_iload C dL_law_940 rfl ?_
  refine xw_icmp_eq (tgt := 947) C dL_law_942 (by decide) (fun _ => ?_) (fun c => absurd h4 c)
  refine xw_iload C dL_law_947 rfl ?_
  refine xw_if_ne (tgt := 964) C dL_law_949 (by decide) (fun _ => ?_) (fun c => ?_)
  · refine xw_goto (tgt := 1091) C dL_law_964 (by decide) ?_
    exact xl_sub (xl_c rfl (xl_c rfl (xl_c rfl (xl_c rfl (xl_c rfl (xl_n (xl_n xl_e))))))) k
  · have h5 := h5 c
    refine xw_aload_n C dL_law_952 3 rfl rfl ?_
    refine xw_iconst (v := 0) C dL_law_953 (by decide) ?_
    refine xv_lald C ht dL_law_954 ?_
    refine xw_iload C dL_law_955 rfl ?_
    refine xw_i2l C dL_law_957 ?_
    refine xw_lcmp C dL_law_958 ?_
    refine xw_if_eq (tgt := 964) C dL_law_959 (by decide) (fun _ => ?_) (fun c => absurd (xh_cmp h5) c)
    refine xw_goto (tgt := 1091) C dL_law_964 (by decide) ?_
    exact xl_sub (xl_c rfl (xl_c rfl (xl_c rfl (xl_c rfl (xl_c rfl (xl_n (xl_n xl_e))))))) k
set_option maxHeartbeats 4000000 in
set_option maxRecDepth 100000 in
theorem law_13 {G : xwG} {Q : State → Prop} {ad : Nat → Nat} {cs : xmC} {cells slots b L : Nat} {xs : Nat → Int32} {i : Int32} (C : xw_C G cL_law 7 RL 431 ad) (hR : xgR G = room_1) (ht : xgt G = xm_tys cs) (hl : (xgl G).stackTraces = false) (hN : va_Nc xISE xIAE (xgs G)) (hX : va_X b L xs (xgs G) (xgs G).heap) (hbl : b < (xgs G).heap.size) (hbB : ¬ xgB G ≤ b) (hi : ∀ j : Int32, 1 ≤ j → j ≤ 4 → vp_in (i + j) L) (hcs : cells + 9 ≤ 601024 ∧ slots + 54 ≤ 7293034) {M M1 M2 M3 : xwM} {k0 b0 t0 : Int32} (h1 : hL1 (fX2_cost (xs (i + 1).toNatClampNeg) (xs (i + 2).toNatClampNeg) M) = some (k0, M1)) (h2 : fX3_cost (xs (i + 1).toNatClampNeg) (xs (i + 2).toNatClampNeg) M1 = some (b0, M2)) (h3 : fX3_thrown M2 = some (t0, M3)) (h4 : t0 = k0) (h5 : k0 = 0 → (M3 430 0).toInt64 = b0.toInt64)
    (k : XV G Q 7 (cells + 3) (slots + 18) ad cs M3 1091 [some (.ref b), some (.ref (ad 0)), some (.ref (ad 418)), some (.ref (ad 430)), some (.int i), none, none] []) : XV G Q 7 cells slots ad cs M 967 [some (.ref b), some (.ref (ad 0)), some (.ref (ad 418)), some (.ref (ad 430)), some (.int i), none, none] [] := by
  refine xw_aload_n C dL_law_967 1 rfl rfl ?_
  refine xw_aload_n C dL_law_968 0 rfl rfl ?_
  refine xw_iload C dL_law_969 rfl ?_
  refine xw_iconst (v := 1) C dL_law_971 (by decide) ?_
  refine xw_iadd C dL_law_972 ?_
  refine xw_sld C hX hbl hbB (hi 1 (by decide) (by decide)) dL_law_973 ?_
  refine xw_aload_n C dL_law_974 0 rfl rfl ?_
  refine xw_iload C dL_law_975 rfl ?_
  refine xw_iconst (v := 2) C dL_law_977 (by decide) ?_
  refine xw_iadd C dL_law_978 ?_
  refine xw_sld C hX hbl hbB (hi 2 (by decide) (by decide)) dL_law_979 ?_
  refine xw_aload_n C dL_law_980 3 rfl rfl ?_
  refine xh_S C hN (mL_cost (xgl G) C.2.2.2.2.2.2.2.2.1 ht hl h1) FL_cost hw_459 (by rw [hR]; decide) (xh_room hR hcs (by decide)) rfl (Nat.le_of_ble_eq_true rfl) dL_law_981 rfl ?_
  refine xw_istore C dL_law_984 (by decide) ?_
  refine xw_aload_n C dL_law_986 2 rfl rfl ?_
  refine xw_aload_n C dL_law_987 0 rfl rfl ?_
  refine xw_iload C dL_law_988 rfl ?_
  refine xw_iconst (v := 1) C dL_law_990 (by decide) ?_
  refine xw_iadd C dL_law_991 ?_
  refine xw_sld C hX hbl hbB (hi 1 (by decide) (by decide)) dL_law_992 ?_
  refine xw_aload_n C dL_law_993 0 rfl rfl ?_
  refine xw_iload C dL_law_994 rfl ?_
  refine xw_iconst (v := 2) C dL_law_996 (by decide) ?_
  refine xw_iadd C dL_law_997 ?_
  refine xw_sld C hX hbl hbB (hi 2 (by decide) (by decide)) dL_law_998 ?_
  refine xc_Vi C (mX3_cost (xgl G) C.2.2.2.2.2.2.2.2.1 ht h2) FX3_cost hw_655 (by decide) xs_M rfl (by rw [hR]; decide) (xh_room0 hR hcs (by decide)) rfl (Nat.le_of_ble_eq_true rfl) dL_law_999 rfl ?_
  refine xw_istore C dL_law_1002 (by decide) ?_
  refine xw_aload_n C dL_law_1004 2 rfl rfl ?_
  refine xc_Vi C (mX3_thrown (xgl G) C.2.2.2.2.2.2.2.2.1 ht h3) FX3_thrown hw_535 (by decide) xs_M rfl (by rw [hR]; decide) (xh_room0 hR hcs (by decide)) rfl (Nat.le_of_ble_eq_true rfl) dL_law_1005 rfl ?_
  refine xw_iload C dL_law_1008 rfl ?_
  refine xw_icmp_eq (tgt := 1015) C dL_law_1010 (by decide) (fun _ => ?_) (fun c => absurd h4 c)
  refine xw_iload C dL_law_1015 rfl ?_
  refine xw_if_ne (tgt := 1032) C dL_law_1017 (by decide) (fun _ => ?_) (fun c => ?_)
  · refine xw_goto (tgt := 1091) C dL_law_1032 (by decide) ?_
    exact xl_sub (xl_c rfl (xl_c rfl (xl_c rfl (xl_c rfl (xl_c rfl (xl_n (xl_n xl_e))))))) k
  · have h5 := h5 c
    refine xw_aload_n C dL_law_1020 3 rfl rfl ?_
    refine xw_iconst (v := 0) C dL_law_1021 (by decide) ?_
    refine xv_lald C ht dL_law_1022 ?_
    refine xw_iload C dL_law_1023 rfl ?_
    refine xw_i2l C dL_law_1025 ?_
    refine xw_lcmp C dL_law_1026 ?_
    refine xw_if_eq (tgt := 1032) C dL_law_1027 (by decide) (fun _ => ?_) (fun c => absurd (xh_cmp h5) c)
    refine xw_goto (tgt := 1091) C dL_law_1032 (by decide) ?_
    exact xl_sub (xl_c rfl (xl_c rfl (xl_c rfl (xl_c rfl (xl_c rfl (xl_n (xl_n xl_e))))))) k
set_option maxHeartbeats 4000000 in
set_option maxRecDepth 100000 in
theorem law_14 {G : xwG} {Q : State → Prop} {ad : Nat → Nat} {cs : xmC} {cells slots b L : Nat} {xs : Nat → Int32} {i : Int32} (C : xw_C G cL_law 7 RL 431 ad) (hR : xgR G = room_1) (ht : xgt G = xm_tys cs) (hl : (xgl G).stackTraces = false) (hN : va_Nc xISE xIAE (xgs G)) (hX : va_X b L xs (xgs G) (xgs G).heap) (hbl : b < (xgs G).heap.size) (hbB : ¬ xgB G ≤ b) (hi : ∀ j : Int32, 1 ≤ j → j ≤ 4 → vp_in (i + j) L) (hcs : cells + 9 ≤ 601024 ∧ slots + 54 ≤ 7293034) {M M1 M2 M3 : xwM} {k0 b0 t0 : Int32} (h1 : hL1 (fX2_total (xs (i + 1).toNatClampNeg) M) = some (k0, M1)) (h2 : fX3_total (xs (i + 1).toNatClampNeg) M1 = some (b0, M2)) (h3 : fX3_thrown M2 = some (t0, M3)) (h4 : t0 = k0) (h5 : k0 = 0 → (M3 430 0).toInt64 = b0.toInt64)
    (k : XV G Q 7 (cells + 1) (slots + 6) ad cs M3 1091 [some (.ref b), some (.ref (ad 0)), some (.ref (ad 418)), some (.ref (ad 430)), some (.int i), none, none] []) : XV G Q 7 cells slots ad cs M 1035 [some (.ref b), some (.ref (ad 0)), some (.ref (ad 418)), some (.ref (ad 430)), some (.int i), none, none] [] := by
  refine xw_aload_n C dL_law_1035 1 rfl rfl ?_
  refine xw_aload_n C dL_law_1036 0 rfl rfl ?_
  refine xw_iload C dL_law_1037 rfl ?_
  refine xw_iconst (v := 1) C dL_law_1039 (by decide) ?_
  refine xw_iadd C dL_law_1040 ?_
  refine xw_sld C hX hbl hbB (hi 1 (by decide) (by decide)) dL_law_1041 ?_
  refine xw_aload_n C dL_law_1042 3 rfl rfl ?_
  refine xh_S C hN (mL_total (xgl G) C.2.2.2.2.2.2.2.2.1 ht hl h1) FL_total hw_466 (by rw [hR]; decide) (xh_room hR hcs (by decide)) rfl (Nat.le_of_ble_eq_true rfl) dL_law_1043 rfl ?_
  refine xw_istore C dL_law_1046 (by decide) ?_
  refine xw_aload_n C dL_law_1048 2 rfl rfl ?_
  refine xw_aload_n C dL_law_1049 0 rfl rfl ?_
  refine xw_iload C dL_law_1050 rfl ?_
  refine xw_iconst (v := 1) C dL_law_1052 (by decide) ?_
  refine xw_iadd C dL_law_1053 ?_
  refine xw_sld C hX hbl hbB (hi 1 (by decide) (by decide)) dL_law_1054 ?_
  refine xc_Vi C (mX3_total (xgl G) C.2.2.2.2.2.2.2.2.1 ht h2) FX3_total hw_659 (by decide) xs_M rfl (by rw [hR]; decide) (xh_room0 hR hcs (by decide)) rfl (Nat.le_of_ble_eq_true rfl) dL_law_1055 rfl ?_
  refine xw_istore C dL_law_1058 (by decide) ?_
  refine xw_aload_n C dL_law_1060 2 rfl rfl ?_
  refine xc_Vi C (mX3_thrown (xgl G) C.2.2.2.2.2.2.2.2.1 ht h3) FX3_thrown hw_535 (by decide) xs_M rfl (by rw [hR]; decide) (xh_room0 hR hcs (by decide)) rfl (Nat.le_of_ble_eq_true rfl) dL_law_1061 rfl ?_
  refine xw_iload C dL_law_1064 rfl ?_
  refine xw_icmp_eq (tgt := 1071) C dL_law_1066 (by decide) (fun _ => ?_) (fun c => absurd h4 c)
  refine xw_iload C dL_law_1071 rfl ?_
  refine xw_if_ne (tgt := 1088) C dL_law_1073 (by decide) (fun _ => ?_) (fun c => ?_)
  · refine xw_goto (tgt := 1091) C dL_law_1088 (by decide) ?_
    exact xl_sub (xl_c rfl (xl_c rfl (xl_c rfl (xl_c rfl (xl_c rfl (xl_n (xl_n xl_e))))))) k
  · have h5 := h5 c
    refine xw_aload_n C dL_law_1076 3 rfl rfl ?_
    refine xw_iconst (v := 0) C dL_law_1077 (by decide) ?_
    refine xv_lald C ht dL_law_1078 ?_
    refine xw_iload C dL_law_1079 rfl ?_
    refine xw_i2l C dL_law_1081 ?_
    refine xw_lcmp C dL_law_1082 ?_
    refine xw_if_eq (tgt := 1088) C dL_law_1083 (by decide) (fun _ => ?_) (fun c => absurd (xh_cmp h5) c)
    refine xw_goto (tgt := 1091) C dL_law_1088 (by decide) ?_
    exact xl_sub (xl_c rfl (xl_c rfl (xl_c rfl (xl_c rfl (xl_c rfl (xl_n (xl_n xl_e))))))) k
