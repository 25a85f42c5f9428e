set_option maxHeartbeats 4000000 in
set_option maxRecDepth 100000 in
theorem lw_c0 {g : pmG} {d rc rs : Nat} {y : Int32} {K K1 K2 : List (Nat × Nat)} {R R1 R2 : Nat → Nat → Value} {I I1 I2 : Nat → Nat → Int32} {J J1 J2 : Nat → Nat → Int64} {o : Outcome} {Z : pmM} {mw sw mm sm : Nat} {kx b t : Int32} (h1 : vp_in (y + 1) g.2.2.2.2.2.1) (h2 : vp_in (y + 2) g.2.2.2.2.2.1) (h3 : vp_in (y + 3) g.2.2.2.2.2.1) (h4 : vp_in (y + 4) g.2.2.2.2.2.1) (h5 : vp_in (y + 5) g.2.2.2.2.2.1) (hW : pmCW g kLw_feed d mw sw [.ref 0, .int (g.2.2.2.2.2.2 (y + 1).toNatClampNeg), .int (g.2.2.2.2.2.2 (y + 2).toNatClampNeg), .int (g.2.2.2.2.2.2 (y + 3).toNatClampNeg), .int (g.2.2.2.2.2.2 (y + 4).toNatClampNeg), .int (g.2.2.2.2.2.2 (y + 5).toNatClampNeg), .ref 356] (K, R, I, J) (.returned (some (.int kx))) (K1, R1, I1, J1)) (hM : pmC g kMo_feed d mm sm [.ref 40, .int (g.2.2.2.2.2.2 (y + 1).toNatClampNeg), .int (g.2.2.2.2.2.2 (y + 2).toNatClampNeg), .int (g.2.2.2.2.2.2 (y + 3).toNatClampNeg), .int (g.2.2.2.2.2.2 (y + 4).toNatClampNeg), .int (g.2.2.2.2.2.2 (y + 5).toNatClampNeg)] (K1, R1, I1, J1) (.returned (some (.int b))) (K2, R2, I2, J2)) (hT : pmC g kMo_thrown d 0 0 [.ref 40] (K2, R2, I2, J2) (.returned (some (.int t))) (K2, R2, I2, J2)) (htk : t = kx) (hout : kx = 0 → J2 356 0 = b.toInt64) (ho : K2[356]? = some (4, 1)) (hx : K[0]? = some (0, 0)) (hm : K1[40]? = some (0, 10)) (hm2 : K2[40]? = some (0, 10)) (nx : pmE g kLw_law (d + 1) rc rs 846 [(0, .retAddr 0), (1, .ref 0), (2, .ref 40), (3, .ref 356), (4, .int y)] [] K2 R2 I2 J2 o Z) : pmE g kLw_law (d + 1) (rc + mm + mw) (rs + sm + sw) 112 [(0, .retAddr 0), (1, .ref 0), (2, .ref 40), (3, .ref 356), (4, .int y)] [] K R I J o Z := by
  refine pm_aload_n dLw_law_112 rfl ?_
  refine pm_xload_n dLw_law_113 rfl ?_
  refine pm_iload dLw_law_114 rfl ?_
  refine pm_iconst (v := 1) dLw_law_116 (by decide) ?_
  refine pm_iadd dLw_law_117 ?_
  refine pm_sald dLw_law_118 h1 ?_
  refine pm_xload_n dLw_law_119 rfl ?_
  refine pm_iload dLw_law_120 rfl ?_
  refine pm_iconst (v := 2) dLw_law_122 (by decide) ?_
  refine pm_iadd dLw_law_123 ?_
  refine pm_sald dLw_law_124 h2 ?_
  refine pm_xload_n dLw_law_125 rfl ?_
  refine pm_iload dLw_law_126 rfl ?_
  refine pm_iconst (v := 3) dLw_law_128 (by decide) ?_
  refine pm_iadd dLw_law_129 ?_
  refine pm_sald dLw_law_130 h3 ?_
  refine pm_xload_n dLw_law_131 rfl ?_
  refine pm_iload dLw_law_132 rfl ?_
  refine pm_iconst (v := 4) dLw_law_134 (by decide) ?_
  refine pm_iadd dLw_law_135 ?_
  refine pm_sald dLw_law_136 h4 ?_
  refine pm_xload_n dLw_law_137 rfl ?_
  refine pm_iload dLw_law_138 rfl ?_
  refine pm_iconst (v := 5) dLw_law_140 (by decide) ?_
  refine pm_iadd dLw_law_141 ?_
  refine pm_sald dLw_law_142 h5 ?_
  refine pm_aload_n dLw_law_143 rfl ?_
  refine pm_callSW (rc1 := rc + mm) (rs1 := rs + sm) dLw_law_144 lLw_54 tLw_feed hW rfl rfl (Nat.le_of_ble_eq_true rfl) (Nat.le_refl _) (Nat.le_refl _) ?_
  refine pm_istore dLw_law_147 (by decide) rfl ?_
  refine pm_aload_n dLw_law_149 rfl ?_
  refine pm_xload_n dLw_law_150 rfl ?_
  refine pm_iload dLw_law_151 rfl ?_
  refine pm_iconst (v := 1) dLw_law_153 (by decide) ?_
  refine pm_iadd dLw_law_154 ?_
  refine pm_sald dLw_law_155 h1 ?_
  refine pm_xload_n dLw_law_156 rfl ?_
  refine pm_iload dLw_law_157 rfl ?_
  refine pm_iconst (v := 2) dLw_law_159 (by decide) ?_
  refine pm_iadd dLw_law_160 ?_
  refine pm_sald dLw_law_161 h2 ?_
  refine pm_xload_n dLw_law_162 rfl ?_
  refine pm_iload dLw_law_163 rfl ?_
  refine pm_iconst (v := 3) dLw_law_165 (by decide) ?_
  refine pm_iadd dLw_law_166 ?_
  refine pm_sald dLw_law_167 h3 ?_
  refine pm_xload_n dLw_law_168 rfl ?_
  refine pm_iload dLw_law_169 rfl ?_
  refine pm_iconst (v := 4) dLw_law_171 (by decide) ?_
  refine pm_iadd dLw_law_172 ?_
  refine pm_sald dLw_law_173 h4 ?_
  refine pm_xload_n dLw_law_174 rfl ?_
  refine pm_iload dLw_law_175 rfl ?_
  refine pm_iconst (v := 5) dLw_law_177 (by decide) ?_
  refine pm_iadd dLw_law_178 ?_
  refine pm_sald dLw_law_179 h5 ?_
  refine pm_callV (rc1 := rc) (rs1 := rs) dLw_law_180 lLw_59 vMo_feed ⟨_, _, rfl⟩ hM hm rfl rfl (Nat.le_of_ble_eq_true rfl) (Nat.le_refl _) (Nat.le_refl _) ?_
  refine pm_istore dLw_law_183 (by decide) rfl ?_
  refine pm_aload_n dLw_law_185 rfl ?_
  refine pm_callV (rc1 := rc) (rs1 := rs) dLw_law_186 lLw_60 vMo_thrown ⟨_, _, rfl⟩ hT hm2 rfl rfl (Nat.le_of_ble_eq_true rfl) (Nat.le_refl _) (Nat.le_refl _) ?_
  refine pm_iload dLw_law_189 rfl ?_
  refine pm_icmp_eq 196 dLw_law_191 (by decide) (fun h191 => ?_) (fun h191 => absurd htk h191)
  refine pm_iload dLw_law_196 rfl ?_
  refine pm_if_ne 213 dLw_law_198 (by decide) (fun h198 => ?_) (fun h198 => ?_)
  · refine pm_goto 846 dLw_law_213 (by decide) ?_
    exact pm_wk [2, 3, 4, 5, 6] rfl nx
  ·
    refine pm_aload_n dLw_law_201 rfl ?_
    refine pm_iconst (v := 0) dLw_law_202 (by decide) ?_
    refine pm_lald dLw_law_203 ho (by unfold vp_in; decide) ?_
    refine pm_iload dLw_law_204 rfl ?_
    refine pm_i2l dLw_law_206 ?_
    refine pm_lcmp dLw_law_207 ?_
    refine pm_eqi 0 (by rw [show (0 : Int32).toNatClampNeg = 0 from rfl, hout h198]; exact lw_cmp _) ?_
    refine pm_if_eq 213 dLw_law_208 (by decide) (fun _ => ?_) (fun h => absurd rfl h)
    refine pm_goto 846 dLw_law_213 (by decide) ?_
    exact pm_wk [2, 3, 4, 5, 6] rfl nx
set_option maxHeartbeats 4000000 in
set_option maxRecDepth 100000 in
theorem lw_c1 {g : pmG} {d rc rs : Nat} {y : Int32} {K K1 K2 : List (Nat × Nat)} {R R1 R2 : Nat → Nat → Value} {I I1 I2 : Nat → Nat → Int32} {J J1 J2 : Nat → Nat → Int64} {o : Outcome} {Z : pmM} {mw sw mm sm : Nat} {kx b t : Int32} (h1 : vp_in (y + 1) g.2.2.2.2.2.1) (hW : pmCW g kLw_end d mw sw [.ref 0, .int (g.2.2.2.2.2.2 (y + 1).toNatClampNeg), .ref 356] (K, R, I, J) (.returned (some (.int kx))) (K1, R1, I1, J1)) (hM : pmC g kMo_end d mm sm [.ref 40, .int (g.2.2.2.2.2.2 (y + 1).toNatClampNeg)] (K1, R1, I1, J1) (.returned (some (.int b))) (K2, R2, I2, J2)) (hT : pmC g kMo_thrown d 0 0 [.ref 40] (K2, R2, I2, J2) (.returned (some (.int t))) (K2, R2, I2, J2)) (htk : t = kx) (hout : kx = 0 → J2 356 0 = b.toInt64) (ho : K2[356]? = some (4, 1)) (hx : K[0]? = some (0, 0)) (hm : K1[40]? = some (0, 10)) (hm2 : K2[40]? = some (0, 10)) (nx : pmE g kLw_law (d + 1) rc rs 846 [(0, .retAddr 0), (1, .ref 0), (2, .ref 40), (3, .ref 356), (4, .int y)] [] K2 R2 I2 J2 o Z) : pmE g kLw_law (d + 1) (rc + mm + mw) (rs + sm + sw) 216 [(0, .retAddr 0), (1, .ref 0), (2, .ref 40), (3, .ref 356), (4, .int y)] [] K R I J o Z := by
  refine pm_aload_n dLw_law_216 rfl ?_
  refine pm_xload_n dLw_law_217 rfl ?_
  refine pm_iload dLw_law_218 rfl ?_
  refine pm_iconst (v := 1) dLw_law_220 (by decide) ?_
  refine pm_iadd dLw_law_221 ?_
  refine pm_sald dLw_law_222 h1 ?_
  refine pm_aload_n dLw_law_223 rfl ?_
  refine pm_callSW (rc1 := rc + mm) (rs1 := rs + sm) dLw_law_224 lLw_64 tLw_end hW rfl rfl (Nat.le_of_ble_eq_true rfl) (Nat.le_refl _) (Nat.le_refl _) ?_
  refine pm_istore dLw_law_227 (by decide) rfl ?_
  refine pm_aload_n dLw_law_229 rfl ?_
  refine pm_xload_n dLw_law_230 rfl ?_
  refine pm_iload dLw_law_231 rfl ?_
  refine pm_iconst (v := 1) dLw_law_233 (by decide) ?_
  refine pm_iadd dLw_law_234 ?_
  refine pm_sald dLw_law_235 h1 ?_
  refine pm_callV (rc1 := rc) (rs1 := rs) dLw_law_236 lLw_67 vMo_end ⟨_, _, rfl⟩ hM hm rfl rfl (Nat.le_of_ble_eq_true rfl) (Nat.le_refl _) (Nat.le_refl _) ?_
  refine pm_istore dLw_law_239 (by decide) rfl ?_
  refine pm_aload_n dLw_law_241 rfl ?_
  refine pm_callV (rc1 := rc) (rs1 := rs) dLw_law_242 lLw_60 vMo_thrown ⟨_, _, rfl⟩ hT hm2 rfl rfl (Nat.le_of_ble_eq_true rfl) (Nat.le_refl _) (Nat.le_refl _) ?_
  refine pm_iload dLw_law_245 rfl ?_
  refine pm_icmp_eq 252 dLw_law_247 (by decide) (fun h247 => ?_) (fun h247 => absurd htk h247)
  refine pm_iload dLw_law_252 rfl ?_
  refine pm_if_ne 269 dLw_law_254 (by decide) (fun h254 => ?_) (fun h254 => ?_)
  · refine pm_goto 846 dLw_law_269 (by decide) ?_
    exact pm_wk [2, 3, 4, 5, 6] rfl nx
  ·
    refine pm_aload_n dLw_law_257 rfl ?_
    refine pm_iconst (v := 0) dLw_law_258 (by decide) ?_
    refine pm_lald dLw_law_259 ho (by unfold vp_in; decide) ?_
    refine pm_iload dLw_law_260 rfl ?_
    refine pm_i2l dLw_law_262 ?_
    refine pm_lcmp dLw_law_263 ?_
    refine pm_eqi 0 (by rw [show (0 : Int32).toNatClampNeg = 0 from rfl, hout h254]; exact lw_cmp _) ?_
    refine pm_if_eq 269 dLw_law_264 (by decide) (fun _ => ?_) (fun h => absurd rfl h)
    refine pm_goto 846 dLw_law_269 (by decide) ?_
    exact pm_wk [2, 3, 4, 5, 6] rfl nx
set_option maxHeartbeats 4000000 in
set_option maxRecDepth 100000 in
theorem lw_c2 {g : pmG} {d rc rs : Nat} {y : Int32} {K K1 K2 : List (Nat × Nat)} {R R1 R2 : Nat → Nat → Value} {I I1 I2 : Nat → Nat → Int32} {J J1 J2 : Nat → Nat → Int64} {o : Outcome} {Z : pmM} {mw sw mm sm : Nat} {kx b t : Int32}  (hW : pmC g kCh_read d mw sw [.ref 0] (K, R, I, J) (.returned (some (.int kx))) (K1, R1, I1, J1)) (hM : pmCW g kMo_read d mm sm [.ref 40] (K1, R1, I1, J1) (.returned (some (.int b))) (K2, R2, I2, J2)) (heq : kx = b) (hx : K[0]? = some (0, 0)) (hm : K1[40]? = some (0, 10)) (hm2 : K2[40]? = some (0, 10)) (nx : pmE g kLw_law (d + 1) rc rs 846 [(0, .retAddr 0), (1, .ref 0), (2, .ref 40), (3, .ref 356), (4, .int y)] [] K2 R2 I2 J2 o Z) : pmE g kLw_law (d + 1) (rc + mm + mw) (rs + sm + sw) 272 [(0, .retAddr 0), (1, .ref 0), (2, .ref 40), (3, .ref 356), (4, .int y)] [] K R I J o Z := by
  refine pm_aload_n dLw_law_272 rfl ?_
  refine pm_callV (rc1 := rc + mm) (rs1 := rs + sm) dLw_law_273 lLw_68 vCh_read ⟨_, _, rfl⟩ hW hx rfl rfl (Nat.le_of_ble_eq_true rfl) (Nat.le_refl _) (Nat.le_refl _) ?_
  refine pm_aload_n dLw_law_276 rfl ?_
  refine pm_callVW (rc1 := rc) (rs1 := rs) dLw_law_277 lLw_71 vMo_read ⟨_, _, rfl⟩ hM hm rfl rfl (Nat.le_of_ble_eq_true rfl) (Nat.le_refl _) (Nat.le_refl _) ?_
  refine pm_icmp_eq 846 dLw_law_280 (by decide) (fun h280 => ?_) (fun h280 => absurd heq h280)
  exact nx
set_option maxHeartbeats 4000000 in
set_option maxRecDepth 100000 in
theorem lw_c3 {g : pmG} {d rc rs : Nat} {y : Int32} {K K1 K2 : List (Nat × Nat)} {R R1 R2 : Nat → Nat → Value} {I I1 I2 : Nat → Nat → Int32} {J J1 J2 : Nat → Nat → Int64} {o : Outcome} {Z : pmM} {mw sw mm sm : Nat} {kx b t : Int32} (h1 : vp_in (y + 1) g.2.2.2.2.2.1) (hW : pmC g kCh_fault d mw sw [.ref 0, .int (g.2.2.2.2.2.2 (y + 1).toNatClampNeg)] (K, R, I, J) (.returned (some (.int kx))) (K1, R1, I1, J1)) (hM : pmC g kMo_fault d mm sm [.ref 40, .int (g.2.2.2.2.2.2 (y + 1).toNatClampNeg)] (K1, R1, I1, J1) (.returned (some (.int b))) (K2, R2, I2, J2)) (heq : kx = b) (hx : K[0]? = some (0, 0)) (hm : K1[40]? = some (0, 10)) (hm2 : K2[40]? = some (0, 10)) (nx : pmE g kLw_law (d + 1) rc rs 846 [(0, .retAddr 0), (1, .ref 0), (2, .ref 40), (3, .ref 356), (4, .int y)] [] K2 R2 I2 J2 o Z) : pmE g kLw_law (d + 1) (rc + mm + mw) (rs + sm + sw) 285 [(0, .retAddr 0), (1, .ref 0), (2, .ref 40), (3, .ref 356), (4, .int y)] [] K R I J o Z := by
  refine pm_aload_n dLw_law_285 rfl ?_
  refine pm_xload_n dLw_law_286 rfl ?_
  refine pm_iload dLw_law_287 rfl ?_
  refine pm_iconst (v := 1) dLw_law_289 (by decide) ?_
  refine pm_iadd dLw_law_290 ?_
  refine pm_sald dLw_law_291 h1 ?_
  refine pm_callV (rc1 := rc + mm) (rs1 := rs + sm) dLw_law_292 lLw_72 vCh_fault ⟨_, _, rfl⟩ hW hx rfl rfl (Nat.le_of_ble_eq_true rfl) (Nat.le_refl _) (Nat.le_refl _) ?_
  refine pm_aload_n dLw_law_295 rfl ?_
  refine pm_xload_n dLw_law_296 rfl ?_
  refine pm_iload dLw_law_297 rfl ?_
  refine pm_iconst (v := 1) dLw_law_299 (by decide) ?_
  refine pm_iadd dLw_law_300 ?_
  refine pm_sald dLw_law_301 h1 ?_
  refine pm_callV (rc1 := rc) (rs1 := rs) dLw_law_302 lLw_75 vMo_fault ⟨_, _, rfl⟩ hM hm rfl rfl (Nat.le_of_ble_eq_true rfl) (Nat.le_refl _) (Nat.le_refl _) ?_
  refine pm_icmp_eq 846 dLw_law_305 (by decide) (fun h305 => ?_) (fun h305 => absurd heq h305)
  exact nx
set_option maxHeartbeats 4000000 in
set_option maxRecDepth 100000 in
theorem lw_c4 {g : pmG} {d rc rs : Nat} {y : Int32} {K K1 K2 : List (Nat × Nat)} {R R1 R2 : Nat → Nat → Value} {I I1 I2 : Nat → Nat → Int32} {J J1 J2 : Nat → Nat → Int64} {o : Outcome} {Z : pmM} {mw sw mm sm : Nat} {kx b t : Int32} (h1 : vp_in (y + 1) g.2.2.2.2.2.1) (hW : pmCW g kLw_holds d mw sw [.ref 0, .int (g.2.2.2.2.2.2 (y + 1).toNatClampNeg), .ref 356] (K, R, I, J) (.returned (some (.int kx))) (K1, R1, I1, J1)) (hM : pmC g kMo_holds d mm sm [.ref 40, .int (g.2.2.2.2.2.2 (y + 1).toNatClampNeg)] (K1, R1, I1, J1) (.returned (some (.int b))) (K2, R2, I2, J2)) (hT : pmC g kMo_thrown d 0 0 [.ref 40] (K2, R2, I2, J2) (.returned (some (.int t))) (K2, R2, I2, J2)) (htk : t = kx) (hout : kx = 0 → J2 356 0 = (if b = 0 then 0 else 1)) (ho : K2[356]? = some (4, 1)) (hx : K[0]? = some (0, 0)) (hm : K1[40]? = some (0, 10)) (hm2 : K2[40]? = some (0, 10)) (nx : pmE g kLw_law (d + 1) rc rs 846 [(0, .retAddr 0), (1, .ref 0), (2, .ref 40), (3, .ref 356), (4, .int y)] [] K2 R2 I2 J2 o Z) : pmE g kLw_law (d + 1) (rc + mm + mw) (rs + sm + sw) 310 [(0, .retAddr 0), (1, .ref 0), (2, .ref 40), (3, .ref 356), (4, .int y)] [] K R I J o Z := by
  refine pm_aload_n dLw_law_310 rfl ?_
  refine pm_xload_n dLw_law_311 rfl ?_
  refine pm_iload dLw_law_312 rfl ?_
  refine pm_iconst (v := 1) dLw_law_314 (by decide) ?_
  refine pm_iadd dLw_law_315 ?_
  refine pm_sald dLw_law_316 h1 ?_
  refine pm_aload_n dLw_law_317 rfl ?_
  refine pm_callSW (rc1 := rc + mm) (rs1 := rs + sm) dLw_law_318 lLw_76 tLw_holds hW rfl rfl (Nat.le_of_ble_eq_true rfl) (Nat.le_refl _) (Nat.le_refl _) ?_
  refine pm_istore dLw_law_321 (by decide) rfl ?_
  refine pm_aload_n dLw_law_323 rfl ?_
  refine pm_xload_n dLw_law_324 rfl ?_
  refine pm_iload dLw_law_325 rfl ?_
  refine pm_iconst (v := 1) dLw_law_327 (by decide) ?_
  refine pm_iadd dLw_law_328 ?_
  refine pm_sald dLw_law_329 h1 ?_
  refine pm_callV (rc1 := rc) (rs1 := rs) dLw_law_330 lLw_78 vMo_holds ⟨_, _, rfl⟩ hM hm rfl rfl (Nat.le_of_ble_eq_true rfl) (Nat.le_refl _) (Nat.le_refl _) ?_
  refine pm_istore dLw_law_333 (by decide) rfl ?_
  refine pm_aload_n dLw_law_335 rfl ?_
  refine pm_callV (rc1 := rc) (rs1 := rs) dLw_law_336 lLw_60 vMo_thrown ⟨_, _, rfl⟩ hT hm2 rfl rfl (Nat.le_of_ble_eq_true rfl) (Nat.le_refl _) (Nat.le_refl _) ?_
  refine pm_iload dLw_law_339 rfl ?_
  refine pm_icmp_eq 346 dLw_law_341 (by decide) (fun h341 => ?_) (fun h341 => absurd htk h341)
  refine pm_iload dLw_law_346 rfl ?_
  refine pm_if_ne 370 dLw_law_348 (by decide) (fun h348 => ?_) (fun h348 => ?_)
  · refine pm_goto 846 dLw_law_370 (by decide) ?_
    exact pm_wk [2, 3, 4, 5, 6] rfl nx
  ·
    refine pm_aload_n dLw_law_351 rfl ?_
    refine pm_iconst (v := 0) dLw_law_352 (by decide) ?_
    refine pm_lald dLw_law_353 ho (by unfold vp_in; decide) ?_
    refine pm_iload dLw_law_354 rfl ?_
    refine pm_if_eq 363 dLw_law_356 (by decide) (fun hb => ?_) (fun hb => ?_)
    ·
      refine pm_lconst (v := 0) dLw_law_363 (by decide) ?_
      refine pm_lcmp dLw_law_364 ?_
      refine pm_eqi 0 (by rw [show (0 : Int32).toNatClampNeg = 0 from rfl, hout h348, if_pos hb]; exact lw_cmp _) ?_
      refine pm_if_eq 370 dLw_law_365 (by decide) (fun _ => ?_) (fun h => absurd rfl h)
      refine pm_goto 846 dLw_law_370 (by decide) ?_
      exact pm_wk [2, 3, 4, 5, 6] rfl nx
    ·
      refine pm_lconst (v := 1) dLw_law_359 (by decide) ?_
      refine pm_goto 364 dLw_law_360 (by decide) ?_
      refine pm_lcmp dLw_law_364 ?_
      refine pm_eqi 0 (by rw [show (0 : Int32).toNatClampNeg = 0 from rfl, hout h348, if_neg hb]; exact lw_cmp _) ?_
      refine pm_if_eq 370 dLw_law_365 (by decide) (fun _ => ?_) (fun h => absurd rfl h)
      refine pm_goto 846 dLw_law_370 (by decide) ?_
      exact pm_wk [2, 3, 4, 5, 6] rfl nx
set_option maxHeartbeats 4000000 in
set_option maxRecDepth 100000 in
theorem lw_c5 {g : pmG} {d rc rs : Nat} {y : Int32} {K K1 K2 : List (Nat × Nat)} {R R1 R2 : Nat → Nat → Value} {I I1 I2 : Nat → Nat → Int32} {J J1 J2 : Nat → Nat → Int64} {o : Outcome} {Z : pmM} {mw sw mm sm : Nat} {kx b t : Int32} (h1 : vp_in (y + 1) g.2.2.2.2.2.1) (hW : pmCW g kLw_states d mw sw [.ref 0, .int (g.2.2.2.2.2.2 (y + 1).toNatClampNeg), .ref 356] (K, R, I, J) (.returned (some (.int kx))) (K1, R1, I1, J1)) (hM : pmC g kMo_states d mm sm [.ref 40, .int (g.2.2.2.2.2.2 (y + 1).toNatClampNeg)] (K1, R1, I1, J1) (.returned (some (.int b))) (K2, R2, I2, J2)) (hT : pmC g kMo_thrown d 0 0 [.ref 40] (K2, R2, I2, J2) (.returned (some (.int t))) (K2, R2, I2, J2)) (htk : t = kx) (hout : kx = 0 → J2 356 0 = b.toInt64) (ho : K2[356]? = some (4, 1)) (hx : K[0]? = some (0, 0)) (hm : K1[40]? = some (0, 10)) (hm2 : K2[40]? = some (0, 10)) (nx : pmE g kLw_law (d + 1) rc rs 846 [(0, .retAddr 0), (1, .ref 0), (2, .ref 40), (3, .ref 356), (4, .int y)] [] K2 R2 I2 J2 o Z) : pmE g kLw_law (d + 1) (rc + mm + mw) (rs + sm + sw) 373 [(0, .retAddr 0), (1, .ref 0), (2, .ref 40), (3, .ref 356), (4, .int y)] [] K R I J o Z := by
  refine pm_aload_n dLw_law_373 rfl ?_
  refine pm_xload_n dLw_law_374 rfl ?_
  refine pm_iload dLw_law_375 rfl ?_
  refine pm_iconst (v := 1) dLw_law_377 (by decide) ?_
  refine pm_iadd dLw_law_378 ?_
  refine pm_sald dLw_law_379 h1 ?_
  refine pm_aload_n dLw_law_380 rfl ?_
  refine pm_callSW (rc1 := rc + mm) (rs1 := rs + sm) dLw_law_381 lLw_79 tLw_states hW rfl rfl (Nat.le_of_ble_eq_true rfl) (Nat.le_refl _) (Nat.le_refl _) ?_
  refine pm_istore dLw_law_384 (by decide) rfl ?_
  refine pm_aload_n dLw_law_386 rfl ?_
  refine pm_xload_n dLw_law_387 rfl ?_
  refine pm_iload dLw_law_388 rfl ?_
  refine pm_iconst (v := 1) dLw_law_390 (by decide) ?_
  refine pm_iadd dLw_law_391 ?_
  refine pm_sald dLw_law_392 h1 ?_
  refine pm_callV (rc1 := rc) (rs1 := rs) dLw_law_393 lLw_81 vMo_states ⟨_, _, rfl⟩ hM hm rfl rfl (Nat.le_of_ble_eq_true rfl) (Nat.le_refl _) (Nat.le_refl _) ?_
  refine pm_istore dLw_law_396 (by decide) rfl ?_
  refine pm_aload_n dLw_law_398 rfl ?_
  refine pm_callV (rc1 := rc) (rs1 := rs) dLw_law_399 lLw_60 vMo_thrown ⟨_, _, rfl⟩ hT hm2 rfl rfl (Nat.le_of_ble_eq_true rfl) (Nat.le_refl _) (Nat.le_refl _) ?_
  refine pm_iload dLw_law_402 rfl ?_
  refine pm_icmp_eq 409 dLw_law_404 (by decide) (fun h404 => ?_) (fun h404 => absurd htk h404)
  refine pm_iload dLw_law_409 rfl ?_
  refine pm_if_ne 426 dLw_law_411 (by decide) (fun h411 => ?_) (fun h411 => ?_)
  · refine pm_goto 846 dLw_law_426 (by decide) ?_
    exact pm_wk [2, 3, 4, 5, 6] rfl nx
  ·
    refine pm_aload_n dLw_law_414 rfl ?_
    refine pm_iconst (v := 0) dLw_law_415 (by decide) ?_
    refine pm_lald dLw_law_416 ho (by unfold vp_in; decide) ?_
    refine pm_iload dLw_law_417 rfl ?_
    refine pm_i2l dLw_law_419 ?_
    refine pm_lcmp dLw_law_420 ?_
    refine pm_eqi 0 (by rw [show (0 : Int32).toNatClampNeg = 0 from rfl, hout h411]; exact lw_cmp _) ?_
    refine pm_if_eq 426 dLw_law_421 (by decide) (fun _ => ?_) (fun h => absurd rfl h)
    refine pm_goto 846 dLw_law_426 (by decide) ?_
    exact pm_wk [2, 3, 4, 5, 6] rfl nx
set_option maxHeartbeats 4000000 in
set_option maxRecDepth 100000 in
theorem lw_c6 {g : pmG} {d rc rs : Nat} {y : Int32} {K K1 K2 : List (Nat × Nat)} {R R1 R2 : Nat → Nat → Value} {I I1 I2 : Nat → Nat → Int32} {J J1 J2 : Nat → Nat → Int64} {o : Outcome} {Z : pmM} {mw sw mm sm : Nat} {kx b t : Int32} (h1 : vp_in (y + 1) g.2.2.2.2.2.1) (h2 : vp_in (y + 2) g.2.2.2.2.2.1) (hW : pmCW g kLw_at d mw sw [.ref 0, .int (g.2.2.2.2.2.2 (y + 1).toNatClampNeg), .int (g.2.2.2.2.2.2 (y + 2).toNatClampNeg), .ref 356] (K, R, I, J) (.returned (some (.int kx))) (K1, R1, I1, J1)) (hM : pmC g kMo_at d mm sm [.ref 40, .int (g.2.2.2.2.2.2 (y + 1).toNatClampNeg), .int (g.2.2.2.2.2.2 (y + 2).toNatClampNeg)] (K1, R1, I1, J1) (.returned (some (.int b))) (K2, R2, I2, J2)) (hT : pmC g kMo_thrown d 0 0 [.ref 40] (K2, R2, I2, J2) (.returned (some (.int t))) (K2, R2, I2, J2)) (htk : t = kx) (hout : kx = 0 → J2 356 0 = (if b = 0 then 0 else 1)) (ho : K2[356]? = some (4, 1)) (hx : K[0]? = some (0, 0)) (hm : K1[40]? = some (0, 10)) (hm2 : K2[40]? = some (0, 10)) (nx : pmE g kLw_law (d + 1) rc rs 846 [(0, .retAddr 0), (1, .ref 0), (2, .ref 40), (3, .ref 356), (4, .int y)] [] K2 R2 I2 J2 o Z) : pmE g kLw_law (d + 1) (rc + mm + mw) (rs + sm + sw) 429 [(0, .retAddr 0), (1, .ref 0), (2, .ref 40), (3, .ref 356), (4, .int y)] [] K R I J o Z := by
  refine pm_aload_n dLw_law_429 rfl ?_
  refine pm_xload_n dLw_law_430 rfl ?_
  refine pm_iload dLw_law_431 rfl ?_
  refine pm_iconst (v := 1) dLw_law_433 (by decide) ?_
  refine pm_iadd dLw_law_434 ?_
  refine pm_sald dLw_law_435 h1 ?_
  refine pm_xload_n dLw_law_436 rfl ?_
  refine pm_iload dLw_law_437 rfl ?_
  refine pm_iconst (v := 2) dLw_law_439 (by decide) ?_
  refine pm_iadd dLw_law_440 ?_
  refine pm_sald dLw_law_441 h2 ?_
  refine pm_aload_n dLw_law_442 rfl ?_
  refine pm_callSW (rc1 := rc + mm) (rs1 := rs + sm) dLw_law_443 lLw_82 tLw_at hW rfl rfl (Nat.le_of_ble_eq_true rfl) (Nat.le_refl _) (Nat.le_refl _) ?_
  refine pm_istore dLw_law_446 (by decide) rfl ?_
  refine pm_aload_n dLw_law_448 rfl ?_
  refine pm_xload_n dLw_law_449 rfl ?_
  refine pm_iload dLw_law_450 rfl ?_
  refine pm_iconst (v := 1) dLw_law_452 (by decide) ?_
  refine pm_iadd dLw_law_453 ?_
  refine pm_sald dLw_law_454 h1 ?_
  refine pm_xload_n dLw_law_455 rfl ?_
  refine pm_iload dLw_law_456 rfl ?_
  refine pm_iconst (v := 2) dLw_law_458 (by decide) ?_
  refine pm_iadd dLw_law_459 ?_
  refine pm_sald dLw_law_460 h2 ?_
  refine pm_callV (rc1 := rc) (rs1 := rs) dLw_law_461 lLw_85 vMo_at ⟨_, _, rfl⟩ hM hm rfl rfl (Nat.le_of_ble_eq_true rfl) (Nat.le_refl _) (Nat.le_refl _) ?_
  refine pm_istore dLw_law_464 (by decide) rfl ?_
  refine pm_aload_n dLw_law_466 rfl ?_
  refine pm_callV (rc1 := rc) (rs1 := rs) dLw_law_467 lLw_60 vMo_thrown ⟨_, _, rfl⟩ hT hm2 rfl rfl (Nat.le_of_ble_eq_true rfl) (Nat.le_refl _) (Nat.le_refl _) ?_
  refine pm_iload dLw_law_470 rfl ?_
  refine pm_icmp_eq 477 dLw_law_472 (by decide) (fun h472 => ?_) (fun h472 => absurd htk h472)
  refine pm_iload dLw_law_477 rfl ?_
  refine pm_if_ne 501 dLw_law_479 (by decide) (fun h479 => ?_) (fun h479 => ?_)
  · refine pm_goto 846 dLw_law_501 (by decide) ?_
    exact pm_wk [2, 3, 4, 5, 6] rfl nx
  ·
    refine pm_aload_n dLw_law_482 rfl ?_
    refine pm_iconst (v := 0) dLw_law_483 (by decide) ?_
    refine pm_lald dLw_law_484 ho (by unfold vp_in; decide) ?_
    refine pm_iload dLw_law_485 rfl ?_
    refine pm_if_eq 494 dLw_law_487 (by decide) (fun hb => ?_) (fun hb => ?_)
    ·
      refine pm_lconst (v := 0) dLw_law_494 (by decide) ?_
      refine pm_lcmp dLw_law_495 ?_
      refine pm_eqi 0 (by rw [show (0 : Int32).toNatClampNeg = 0 from rfl, hout h479, if_pos hb]; exact lw_cmp _) ?_
      refine pm_if_eq 501 dLw_law_496 (by decide) (fun _ => ?_) (fun h => absurd rfl h)
      refine pm_goto 846 dLw_law_501 (by decide) ?_
      exact pm_wk [2, 3, 4, 5, 6] rfl nx
    ·
      refine pm_lconst (v := 1) dLw_law_490 (by decide) ?_
      refine pm_goto 495 dLw_law_491 (by decide) ?_
      refine pm_lcmp dLw_law_495 ?_
      refine pm_eqi 0 (by rw [show (0 : Int32).toNatClampNeg = 0 from rfl, hout h479, if_neg hb]; exact lw_cmp _) ?_
      refine pm_if_eq 501 dLw_law_496 (by decide) (fun _ => ?_) (fun h => absurd rfl h)
      refine pm_goto 846 dLw_law_501 (by decide) ?_
      exact pm_wk [2, 3, 4, 5, 6] rfl nx
set_option maxHeartbeats 4000000 in
set_option maxRecDepth 100000 in
theorem lw_c7 {g : pmG} {d rc rs : Nat} {y : Int32} {K K1 K2 : List (Nat × Nat)} {R R1 R2 : Nat → Nat → Value} {I I1 I2 : Nat → Nat → Int32} {J J1 J2 : Nat → Nat → Int64} {o : Outcome} {Z : pmM} {mw sw mm sm : Nat} {kx b t : Int32}  (hW : pmC g kCh_reachable d mw sw [.ref 0] (K, R, I, J) (.returned (some (.int kx))) (K1, R1, I1, J1)) (hM : pmC g kMo_reachable d mm sm [.ref 40] (K1, R1, I1, J1) (.returned (some (.int b))) (K2, R2, I2, J2)) (heq : kx = b) (hx : K[0]? = some (0, 0)) (hm : K1[40]? = some (0, 10)) (hm2 : K2[40]? = some (0, 10)) (nx : pmE g kLw_law (d + 1) rc rs 846 [(0, .retAddr 0), (1, .ref 0), (2, .ref 40), (3, .ref 356), (4, .int y)] [] K2 R2 I2 J2 o Z) : pmE g kLw_law (d + 1) (rc + mm + mw) (rs + sm + sw) 504 [(0, .retAddr 0), (1, .ref 0), (2, .ref 40), (3, .ref 356), (4, .int y)] [] K R I J o Z := by
  refine pm_aload_n dLw_law_504 rfl ?_
  refine pm_callV (rc1 := rc + mm) (rs1 := rs + sm) dLw_law_505 lLw_86 vCh_reachable ⟨_, _, rfl⟩ hW hx rfl rfl (Nat.le_of_ble_eq_true rfl) (Nat.le_refl _) (Nat.le_refl _) ?_
  refine pm_aload_n dLw_law_508 rfl ?_
  refine pm_callV (rc1 := rc) (rs1 := rs) dLw_law_509 lLw_89 vMo_reachable ⟨_, _, rfl⟩ hM hm rfl rfl (Nat.le_of_ble_eq_true rfl) (Nat.le_refl _) (Nat.le_refl _) ?_
  refine pm_icmp_eq 846 dLw_law_512 (by decide) (fun h512 => ?_) (fun h512 => absurd heq h512)
  exact nx
set_option maxHeartbeats 4000000 in
set_option maxRecDepth 100000 in
theorem lw_c8 {g : pmG} {d rc rs : Nat} {y : Int32} {K K1 K2 : List (Nat × Nat)} {R R1 R2 : Nat → Nat → Value} {I I1 I2 : Nat → Nat → Int32} {J J1 J2 : Nat → Nat → Int64} {o : Outcome} {Z : pmM} {mw sw mm sm : Nat} {kx b t : Int32} (h1 : vp_in (y + 1) g.2.2.2.2.2.1) (hW : pmCW g kLw_trace d mw sw [.ref 0, .int (g.2.2.2.2.2.2 (y + 1).toNatClampNeg), .ref 356] (K, R, I, J) (.returned (some (.int kx))) (K1, R1, I1, J1)) (hM : pmC g kMo_trace d mm sm [.ref 40, .int (g.2.2.2.2.2.2 (y + 1).toNatClampNeg)] (K1, R1, I1, J1) (.returned (some (.int b))) (K2, R2, I2, J2)) (hT : pmC g kMo_thrown d 0 0 [.ref 40] (K2, R2, I2, J2) (.returned (some (.int t))) (K2, R2, I2, J2)) (htk : t = kx) (hout : kx = 0 → J2 356 0 = b.toInt64) (ho : K2[356]? = some (4, 1)) (hx : K[0]? = some (0, 0)) (hm : K1[40]? = some (0, 10)) (hm2 : K2[40]? = some (0, 10)) (nx : pmE g kLw_law (d + 1) rc rs 846 [(0, .retAddr 0), (1, .ref 0), (2, .ref 40), (3, .ref 356), (4, .int y)] [] K2 R2 I2 J2 o Z) : pmE g kLw_law (d + 1) (rc + mm + mw) (rs + sm + sw) 517 [(0, .retAddr 0), (1, .ref 0), (2, .ref 40), (3, .ref 356), (4, .int y)] [] K R I J o Z := by
  refine pm_aload_n dLw_law_517 rfl ?_
  refine pm_xload_n dLw_law_518 rfl ?_
  refine pm_iload dLw_law_519 rfl ?_
  refine pm_iconst (v := 1) dLw_law_521 (by decide) ?_
  refine pm_iadd dLw_law_522 ?_
  refine pm_sald dLw_law_523 h1 ?_
  refine pm_aload_n dLw_law_524 rfl ?_
  refine pm_callSW (rc1 := rc + mm) (rs1 := rs + sm) dLw_law_525 lLw_90 tLw_trace hW rfl rfl (Nat.le_of_ble_eq_true rfl) (Nat.le_refl _) (Nat.le_refl _) ?_
  refine pm_istore dLw_law_528 (by decide) rfl ?_
  refine pm_aload_n dLw_law_530 rfl ?_
  refine pm_xload_n dLw_law_531 rfl ?_
  refine pm_iload dLw_law_532 rfl ?_
  refine pm_iconst (v := 1) dLw_law_534 (by decide) ?_
  refine pm_iadd dLw_law_535 ?_
  refine pm_sald dLw_law_536 h1 ?_
  refine pm_callV (rc1 := rc) (rs1 := rs) dLw_law_537 lLw_92 vMo_trace ⟨_, _, rfl⟩ hM hm rfl rfl (Nat.le_of_ble_eq_true rfl) (Nat.le_refl _) (Nat.le_refl _) ?_
  refine pm_istore dLw_law_540 (by decide) rfl ?_
  refine pm_aload_n dLw_law_542 rfl ?_
  refine pm_callV (rc1 := rc) (rs1 := rs) dLw_law_543 lLw_60 vMo_thrown ⟨_, _, rfl⟩ hT hm2 rfl rfl (Nat.le_of_ble_eq_true rfl) (Nat.le_refl _) (Nat.le_refl _) ?_
  refine pm_iload dLw_law_546 rfl ?_
  refine pm_icmp_eq 553 dLw_law_548 (by decide) (fun h548 => ?_) (fun h548 => absurd htk h548)
  refine pm_iload dLw_law_553 rfl ?_
  refine pm_if_ne 570 dLw_law_555 (by decide) (fun h555 => ?_) (fun h555 => ?_)
  · refine pm_goto 846 dLw_law_570 (by decide) ?_
    exact pm_wk [2, 3, 4, 5, 6] rfl nx
  ·
    refine pm_aload_n dLw_law_558 rfl ?_
    refine pm_iconst (v := 0) dLw_law_559 (by decide) ?_
    refine pm_lald dLw_law_560 ho (by unfold vp_in; decide) ?_
    refine pm_iload dLw_law_561 rfl ?_
    refine pm_i2l dLw_law_563 ?_
    refine pm_lcmp dLw_law_564 ?_
    refine pm_eqi 0 (by rw [show (0 : Int32).toNatClampNeg = 0 from rfl, hout h555]; exact lw_cmp _) ?_
    refine pm_if_eq 570 dLw_law_565 (by decide) (fun _ => ?_) (fun h => absurd rfl h)
    refine pm_goto 846 dLw_law_570 (by decide) ?_
    exact pm_wk [2, 3, 4, 5, 6] rfl nx
set_option maxHeartbeats 4000000 in
set_option maxRecDepth 100000 in
theorem lw_c9 {g : pmG} {d rc rs : Nat} {y : Int32} {K K1 K2 : List (Nat × Nat)} {R R1 R2 : Nat → Nat → Value} {I I1 I2 : Nat → Nat → Int32} {J J1 J2 : Nat → Nat → Int64} {o : Outcome} {Z : pmM} {mw sw mm sm : Nat} {kx b t : Int32} (h1 : vp_in (y + 1) g.2.2.2.2.2.1) (h2 : vp_in (y + 2) g.2.2.2.2.2.1) (hW : pmCW g kLw_step d mw sw [.ref 0, .int (g.2.2.2.2.2.2 (y + 1).toNatClampNeg), .int (g.2.2.2.2.2.2 (y + 2).toNatClampNeg), .ref 356] (K, R, I, J) (.returned (some (.int kx))) (K1, R1, I1, J1)) (hM : pmC g kMo_step d mm sm [.ref 40, .int (g.2.2.2.2.2.2 (y + 1).toNatClampNeg), .int (g.2.2.2.2.2.2 (y + 2).toNatClampNeg)] (K1, R1, I1, J1) (.returned (some (.int b))) (K2, R2, I2, J2)) (hT : pmC g kMo_thrown d 0 0 [.ref 40] (K2, R2, I2, J2) (.returned (some (.int t))) (K2, R2, I2, J2)) (htk : t = kx) (hout : kx = 0 → J2 356 0 = b.toInt64) (ho : K2[356]? = some (4, 1)) (hx : K[0]? = some (0, 0)) (hm : K1[40]? = some (0, 10)) (hm2 : K2[40]? = some (0, 10)) (nx : pmE g kLw_law (d + 1) rc rs 846 [(0, .retAddr 0), (1, .ref 0), (2, .ref 40), (3, .ref 356), (4, .int y)] [] K2 R2 I2 J2 o Z) : pmE g kLw_law (d + 1) (rc + mm + mw) (rs + sm + sw) 573 [(0, .retAddr 0), (1, .ref 0), (2, .ref 40), (3, .ref 356), (4, .int y)] [] K R I J o Z := by
  refine pm_aload_n dLw_law_573 rfl ?_
  refine pm_xload_n dLw_law_574 rfl ?_
  refine pm_iload dLw_law_575 rfl ?_
  refine pm_iconst (v := 1) dLw_law_577 (by decide) ?_
  refine pm_iadd dLw_law_578 ?_
  refine pm_sald dLw_law_579 h1 ?_
  refine pm_xload_n dLw_law_580 rfl ?_
  refine pm_iload dLw_law_581 rfl ?_
  refine pm_iconst (v := 2) dLw_law_583 (by decide) ?_
  refine pm_iadd dLw_law_584 ?_
  refine pm_sald dLw_law_585 h2 ?_
  refine pm_aload_n dLw_law_586 rfl ?_
  refine pm_callSW (rc1 := rc + mm) (rs1 := rs + sm) dLw_law_587 lLw_93 tLw_step hW rfl rfl (Nat.le_of_ble_eq_true rfl) (Nat.le_refl _) (Nat.le_refl _) ?_
  refine pm_istore dLw_law_590 (by decide) rfl ?_
  refine pm_aload_n dLw_law_592 rfl ?_
  refine pm_xload_n dLw_law_593 rfl ?_
  refine pm_iload dLw_law_594 rfl ?_
  refine pm_iconst (v := 1) dLw_law_596 (by decide) ?_
  refine pm_iadd dLw_law_597 ?_
  refine pm_sald dLw_law_598 h1 ?_
  refine pm_xload_n dLw_law_599 rfl ?_
  refine pm_iload dLw_law_600 rfl ?_
  refine pm_iconst (v := 2) dLw_law_602 (by decide) ?_
  refine pm_iadd dLw_law_603 ?_
  refine pm_sald dLw_law_604 h2 ?_
  refine pm_callV (rc1 := rc) (rs1 := rs) dLw_law_605 lLw_95 vMo_step ⟨_, _, rfl⟩ hM hm rfl rfl (Nat.le_of_ble_eq_true rfl) (Nat.le_refl _) (Nat.le_refl _) ?_
  refine pm_istore dLw_law_608 (by decide) rfl ?_
  refine pm_aload_n dLw_law_610 rfl ?_
  refine pm_callV (rc1 := rc) (rs1 := rs) dLw_law_611 lLw_60 vMo_thrown ⟨_, _, rfl⟩ hT hm2 rfl rfl (Nat.le_of_ble_eq_true rfl) (Nat.le_refl _) (Nat.le_refl _) ?_
  refine pm_iload dLw_law_614 rfl ?_
  refine pm_icmp_eq 621 dLw_law_616 (by decide) (fun h616 => ?_) (fun h616 => absurd htk h616)
  refine pm_iload dLw_law_621 rfl ?_
  refine pm_if_ne 638 dLw_law_623 (by decide) (fun h623 => ?_) (fun h623 => ?_)
  · refine pm_goto 846 dLw_law_638 (by decide) ?_
    exact pm_wk [2, 3, 4, 5, 6] rfl nx
  ·
    refine pm_aload_n dLw_law_626 rfl ?_
    refine pm_iconst (v := 0) dLw_law_627 (by decide) ?_
    refine pm_lald dLw_law_628 ho (by unfold vp_in; decide) ?_
    refine pm_iload dLw_law_629 rfl ?_
    refine pm_i2l dLw_law_631 ?_
    refine pm_lcmp dLw_law_632 ?_
    refine pm_eqi 0 (by rw [show (0 : Int32).toNatClampNeg = 0 from rfl, hout h623]; exact lw_cmp _) ?_
    refine pm_if_eq 638 dLw_law_633 (by decide) (fun _ => ?_) (fun h => absurd rfl h)
    refine pm_goto 846 dLw_law_638 (by decide) ?_
    exact pm_wk [2, 3, 4, 5, 6] rfl nx
set_option maxHeartbeats 4000000 in
set_option maxRecDepth 100000 in
theorem lw_c10 {g : pmG} {d rc rs : Nat} {y : Int32} {K K1 K2 : List (Nat × Nat)} {R R1 R2 : Nat → Nat → Value} {I I1 I2 : Nat → Nat → Int32} {J J1 J2 : Nat → Nat → Int64} {o : Outcome} {Z : pmM} {mw sw mm sm : Nat} {kx b t : Int32} (h1 : vp_in (y + 1) g.2.2.2.2.2.1) (hW : pmCW g kLw_tick d mw sw [.ref 0, .int (g.2.2.2.2.2.2 (y + 1).toNatClampNeg), .ref 356] (K, R, I, J) (.returned (some (.int kx))) (K1, R1, I1, J1)) (hM : pmC g kMo_tick d mm sm [.ref 40, .int (g.2.2.2.2.2.2 (y + 1).toNatClampNeg)] (K1, R1, I1, J1) (.returned (some (.int b))) (K2, R2, I2, J2)) (hT : pmC g kMo_thrown d 0 0 [.ref 40] (K2, R2, I2, J2) (.returned (some (.int t))) (K2, R2, I2, J2)) (htk : t = kx) (hout : kx = 0 → J2 356 0 = b.toInt64) (ho : K2[356]? = some (4, 1)) (hx : K[0]? = some (0, 0)) (hm : K1[40]? = some (0, 10)) (hm2 : K2[40]? = some (0, 10)) (nx : pmE g kLw_law (d + 1) rc rs 846 [(0, .retAddr 0), (1, .ref 0), (2, .ref 40), (3, .ref 356), (4, .int y)] [] K2 R2 I2 J2 o Z) : pmE g kLw_law (d + 1) (rc + mm + mw) (rs + sm + sw) 641 [(0, .retAddr 0), (1, .ref 0), (2, .ref 40), (3, .ref 356), (4, .int y)] [] K R I J o Z := by
  refine pm_aload_n dLw_law_641 rfl ?_
  refine pm_xload_n dLw_law_642 rfl ?_
  refine pm_iload dLw_law_643 rfl ?_
  refine pm_iconst (v := 1) dLw_law_645 (by decide) ?_
  refine pm_iadd dLw_law_646 ?_
  refine pm_sald dLw_law_647 h1 ?_
  refine pm_aload_n dLw_law_648 rfl ?_
  refine pm_callSW (rc1 := rc + mm) (rs1 := rs + sm) dLw_law_649 lLw_96 tLw_tick hW rfl rfl (Nat.le_of_ble_eq_true rfl) (Nat.le_refl _) (Nat.le_refl _) ?_
  refine pm_istore dLw_law_652 (by decide) rfl ?_
  refine pm_aload_n dLw_law_654 rfl ?_
  refine pm_xload_n dLw_law_655 rfl ?_
  refine pm_iload dLw_law_656 rfl ?_
  refine pm_iconst (v := 1) dLw_law_658 (by decide) ?_
  refine pm_iadd dLw_law_659 ?_
  refine pm_sald dLw_law_660 h1 ?_
  refine pm_callV (rc1 := rc) (rs1 := rs) dLw_law_661 lLw_98 vMo_tick ⟨_, _, rfl⟩ hM hm rfl rfl (Nat.le_of_ble_eq_true rfl) (Nat.le_refl _) (Nat.le_refl _) ?_
  refine pm_istore dLw_law_664 (by decide) rfl ?_
  refine pm_aload_n dLw_law_666 rfl ?_
  refine pm_callV (rc1 := rc) (rs1 := rs) dLw_law_667 lLw_60 vMo_thrown ⟨_, _, rfl⟩ hT hm2 rfl rfl (Nat.le_of_ble_eq_true rfl) (Nat.le_refl _) (Nat.le_refl _) ?_
  refine pm_iload dLw_law_670 rfl ?_
  refine pm_icmp_eq 677 dLw_law_672 (by decide) (fun h672 => ?_) (fun h672 => absurd htk h672)
  refine pm_iload dLw_law_677 rfl ?_
  refine pm_if_ne 694 dLw_law_679 (by decide) (fun h679 => ?_) (fun h679 => ?_)
  · refine pm_goto 846 dLw_law_694 (by decide) ?_
    exact pm_wk [2, 3, 4, 5, 6] rfl nx
  ·
    refine pm_aload_n dLw_law_682 rfl ?_
    refine pm_iconst (v := 0) dLw_law_683 (by decide) ?_
    refine pm_lald dLw_law_684 ho (by unfold vp_in; decide) ?_
    refine pm_iload dLw_law_685 rfl ?_
    refine pm_i2l dLw_law_687 ?_
    refine pm_lcmp dLw_law_688 ?_
    refine pm_eqi 0 (by rw [show (0 : Int32).toNatClampNeg = 0 from rfl, hout h679]; exact lw_cmp _) ?_
    refine pm_if_eq 694 dLw_law_689 (by decide) (fun _ => ?_) (fun h => absurd rfl h)
    refine pm_goto 846 dLw_law_694 (by decide) ?_
    exact pm_wk [2, 3, 4, 5, 6] rfl nx
set_option maxHeartbeats 4000000 in
set_option maxRecDepth 100000 in
theorem lw_c11 {g : pmG} {d rc rs : Nat} {y : Int32} {K K1 K2 : List (Nat × Nat)} {R R1 R2 : Nat → Nat → Value} {I I1 I2 : Nat → Nat → Int32} {J J1 J2 : Nat → Nat → Int64} {o : Outcome} {Z : pmM} {mw sw mm sm : Nat} {kx b t : Int32} (h1 : vp_in (y + 1) g.2.2.2.2.2.1) (hW : pmCW g kLw_go d mw sw [.ref 0, .int (g.2.2.2.2.2.2 (y + 1).toNatClampNeg), .ref 356] (K, R, I, J) (.returned (some (.int kx))) (K1, R1, I1, J1)) (hM : pmC g kMo_go d mm sm [.ref 40, .int (g.2.2.2.2.2.2 (y + 1).toNatClampNeg)] (K1, R1, I1, J1) (.returned (some (.int b))) (K2, R2, I2, J2)) (hT : pmC g kMo_thrown d 0 0 [.ref 40] (K2, R2, I2, J2) (.returned (some (.int t))) (K2, R2, I2, J2)) (htk : t = kx) (hout : kx = 0 → J2 356 0 = b.toInt64) (ho : K2[356]? = some (4, 1)) (hx : K[0]? = some (0, 0)) (hm : K1[40]? = some (0, 10)) (hm2 : K2[40]? = some (0, 10)) (nx : pmE g kLw_law (d + 1) rc rs 846 [(0, .retAddr 0), (1, .ref 0), (2, .ref 40), (3, .ref 356), (4, .int y)] [] K2 R2 I2 J2 o Z) : pmE g kLw_law (d + 1) (rc + mm + mw) (rs + sm + sw) 697 [(0, .retAddr 0), (1, .ref 0), (2, .ref 40), (3, .ref 356), (4, .int y)] [] K R I J o Z := by
  refine pm_aload_n dLw_law_697 rfl ?_
  refine pm_xload_n dLw_law_698 rfl ?_
  refine pm_iload dLw_law_699 rfl ?_
  refine pm_iconst (v := 1) dLw_law_701 (by decide) ?_
  refine pm_iadd dLw_law_702 ?_
  refine pm_sald dLw_law_703 h1 ?_
  refine pm_aload_n dLw_law_704 rfl ?_
  refine pm_callSW (rc1 := rc + mm) (rs1 := rs + sm) dLw_law_705 lLw_99 tLw_go hW rfl rfl (Nat.le_of_ble_eq_true rfl) (Nat.le_refl _) (Nat.le_refl _) ?_
  refine pm_istore dLw_law_708 (by decide) rfl ?_
  refine pm_aload_n dLw_law_710 rfl ?_
  refine pm_xload_n dLw_law_711 rfl ?_
  refine pm_iload dLw_law_712 rfl ?_
  refine pm_iconst (v := 1) dLw_law_714 (by decide) ?_
  refine pm_iadd dLw_law_715 ?_
  refine pm_sald dLw_law_716 h1 ?_
  refine pm_callV (rc1 := rc) (rs1 := rs) dLw_law_717 lLw_101 vMo_go ⟨_, _, rfl⟩ hM hm rfl rfl (Nat.le_of_ble_eq_true rfl) (Nat.le_refl _) (Nat.le_refl _) ?_
  refine pm_istore dLw_law_720 (by decide) rfl ?_
  refine pm_aload_n dLw_law_722 rfl ?_
  refine pm_callV (rc1 := rc) (rs1 := rs) dLw_law_723 lLw_60 vMo_thrown ⟨_, _, rfl⟩ hT hm2 rfl rfl (Nat.le_of_ble_eq_true rfl) (Nat.le_refl _) (Nat.le_refl _) ?_
  refine pm_iload dLw_law_726 rfl ?_
  refine pm_icmp_eq 733 dLw_law_728 (by decide) (fun h728 => ?_) (fun h728 => absurd htk h728)
  refine pm_iload dLw_law_733 rfl ?_
  refine pm_if_ne 750 dLw_law_735 (by decide) (fun h735 => ?_) (fun h735 => ?_)
  · refine pm_goto 846 dLw_law_750 (by decide) ?_
    exact pm_wk [2, 3, 4, 5, 6] rfl nx
  ·
    refine pm_aload_n dLw_law_738 rfl ?_
    refine pm_iconst (v := 0) dLw_law_739 (by decide) ?_
    refine pm_lald dLw_law_740 ho (by unfold vp_in; decide) ?_
    refine pm_iload dLw_law_741 rfl ?_
    refine pm_i2l dLw_law_743 ?_
    refine pm_lcmp dLw_law_744 ?_
    refine pm_eqi 0 (by rw [show (0 : Int32).toNatClampNeg = 0 from rfl, hout h735]; exact lw_cmp _) ?_
    refine pm_if_eq 750 dLw_law_745 (by decide) (fun _ => ?_) (fun h => absurd rfl h)
    refine pm_goto 846 dLw_law_750 (by decide) ?_
    exact pm_wk [2, 3, 4, 5, 6] rfl nx
set_option maxHeartbeats 4000000 in
set_option maxRecDepth 100000 in
theorem lw_c12 {g : pmG} {d rc rs : Nat} {y : Int32} {K K1 K2 : List (Nat × Nat)} {R R1 R2 : Nat → Nat → Value} {I I1 I2 : Nat → Nat → Int32} {J J1 J2 : Nat → Nat → Int64} {o : Outcome} {Z : pmM} {mw sw mm sm : Nat} {kx b t : Int32} (h1 : vp_in (y + 1) g.2.2.2.2.2.1) (h2 : vp_in (y + 2) g.2.2.2.2.2.1) (hW : pmCW g kLw_value d mw sw [.ref 0, .int (g.2.2.2.2.2.2 (y + 1).toNatClampNeg), .int (g.2.2.2.2.2.2 (y + 2).toNatClampNeg), .ref 356] (K, R, I, J) (.returned (some (.int kx))) (K1, R1, I1, J1)) (hM : pmC g kMo_value2 d mm sm [.ref 40, .int (g.2.2.2.2.2.2 (y + 1).toNatClampNeg), .int (g.2.2.2.2.2.2 (y + 2).toNatClampNeg)] (K1, R1, I1, J1) (.returned (some (.int b))) (K2, R2, I2, J2)) (hT : pmC g kMo_thrown d 0 0 [.ref 40] (K2, R2, I2, J2) (.returned (some (.int t))) (K2, R2, I2, J2)) (htk : t = kx) (hout : kx = 0 → J2 356 0 = b.toInt64) (ho : K2[356]? = some (4, 1)) (hx : K[0]? = some (0, 0)) (hm : K1[40]? = some (0, 10)) (hm2 : K2[40]? = some (0, 10)) (nx : pmE g kLw_law (d + 1) rc rs 846 [(0, .retAddr 0), (1, .ref 0), (2, .ref 40), (3, .ref 356), (4, .int y)] [] K2 R2 I2 J2 o Z) : pmE g kLw_law (d + 1) (rc + mm + mw) (rs + sm + sw) 753 [(0, .retAddr 0), (1, .ref 0), (2, .ref 40), (3, .ref 356), (4, .int y)] [] K R I J o Z := by
  refine pm_aload_n dLw_law_753 rfl ?_
  refine pm_xload_n dLw_law_754 rfl ?_
  refine pm_iload dLw_law_755 rfl ?_
  refine pm_iconst (v := 1) dLw_law_757 (by decide) ?_
  refine pm_iadd dLw_law_758 ?_
  refine pm_sald dLw_law_759 h1 ?_
  refine pm_xload_n dLw_law_760 rfl ?_
  refine pm_iload dLw_law_761 rfl ?_
  refine pm_iconst (v := 2) dLw_law_763 (by decide) ?_
  refine pm_iadd dLw_law_764 ?_
  refine pm_sald dLw_law_765 h2 ?_
  refine pm_aload_n dLw_law_766 rfl ?_
  refine pm_callSW (rc1 := rc + mm) (rs1 := rs + sm) dLw_law_767 lLw_102 tLw_value hW rfl rfl (Nat.le_of_ble_eq_true rfl) (Nat.le_refl _) (Nat.le_refl _) ?_
  refine pm_istore dLw_law_770 (by decide) rfl ?_
  refine pm_aload_n dLw_law_772 rfl ?_
  refine pm_xload_n dLw_law_773 rfl ?_
  refine pm_iload dLw_law_774 rfl ?_
  refine pm_iconst (v := 1) dLw_law_776 (by decide) ?_
  refine pm_iadd dLw_law_777 ?_
  refine pm_sald dLw_law_778 h1 ?_
  refine pm_xload_n dLw_law_779 rfl ?_
  refine pm_iload dLw_law_780 rfl ?_
  refine pm_iconst (v := 2) dLw_law_782 (by decide) ?_
  refine pm_iadd dLw_law_783 ?_
  refine pm_sald dLw_law_784 h2 ?_
  refine pm_callV (rc1 := rc) (rs1 := rs) dLw_law_785 lLw_104 vMo_value2 ⟨_, _, rfl⟩ hM hm rfl rfl (Nat.le_of_ble_eq_true rfl) (Nat.le_refl _) (Nat.le_refl _) ?_
  refine pm_istore dLw_law_788 (by decide) rfl ?_
  refine pm_aload_n dLw_law_790 rfl ?_
  refine pm_callV (rc1 := rc) (rs1 := rs) dLw_law_791 lLw_60 vMo_thrown ⟨_, _, rfl⟩ hT hm2 rfl rfl (Nat.le_of_ble_eq_true rfl) (Nat.le_refl _) (Nat.le_refl _) ?_
  refine pm_iload dLw_law_794 rfl ?_
  refine pm_icmp_eq 801 dLw_law_796 (by decide) (fun h796 => ?_) (fun h796 => absurd htk h796)
  refine pm_iload dLw_law_801 rfl ?_
  refine pm_if_ne 818 dLw_law_803 (by decide) (fun h803 => ?_) (fun h803 => ?_)
  · refine pm_goto 846 dLw_law_818 (by decide) ?_
    exact pm_wk [2, 3, 4, 5, 6] rfl nx
  ·
    refine pm_aload_n dLw_law_806 rfl ?_
    refine pm_iconst (v := 0) dLw_law_807 (by decide) ?_
    refine pm_lald dLw_law_808 ho (by unfold vp_in; decide) ?_
    refine pm_iload dLw_law_809 rfl ?_
    refine pm_i2l dLw_law_811 ?_
    refine pm_lcmp dLw_law_812 ?_
    refine pm_eqi 0 (by rw [show (0 : Int32).toNatClampNeg = 0 from rfl, hout h803]; exact lw_cmp _) ?_
    refine pm_if_eq 818 dLw_law_813 (by decide) (fun _ => ?_) (fun h => absurd rfl h)
    refine pm_goto 846 dLw_law_818 (by decide) ?_
    exact pm_wk [2, 3, 4, 5, 6] rfl nx
set_option maxHeartbeats 4000000 in
set_option maxRecDepth 100000 in
theorem lw_c13 {g : pmG} {d rc rs : Nat} {y : Int32} {K K1 K2 : List (Nat × Nat)} {R R1 R2 : Nat → Nat → Value} {I I1 I2 : Nat → Nat → Int32} {J J1 J2 : Nat → Nat → Int64} {o : Outcome} {Z : pmM} {mw sw mm sm : Nat} {kx b t : Int32} (h1 : vp_in (y + 1) g.2.2.2.2.2.1) (hW : pmC g kCh_count d mw sw [.ref 0, .int (g.2.2.2.2.2.2 (y + 1).toNatClampNeg)] (K, R, I, J) (.returned (some (.int kx))) (K1, R1, I1, J1)) (hM : pmC g kMo_count d mm sm [.ref 40, .int (g.2.2.2.2.2.2 (y + 1).toNatClampNeg)] (K1, R1, I1, J1) (.returned (some (.int b))) (K2, R2, I2, J2)) (heq : kx = b) (hx : K[0]? = some (0, 0)) (hm : K1[40]? = some (0, 10)) (hm2 : K2[40]? = some (0, 10)) (nx : pmE g kLw_law (d + 1) rc rs 846 [(0, .retAddr 0), (1, .ref 0), (2, .ref 40), (3, .ref 356), (4, .int y)] [] K2 R2 I2 J2 o Z) : pmE g kLw_law (d + 1) (rc + mm + mw) (rs + sm + sw) 821 [(0, .retAddr 0), (1, .ref 0), (2, .ref 40), (3, .ref 356), (4, .int y)] [] K R I J o Z := by
  refine pm_aload_n dLw_law_821 rfl ?_
  refine pm_xload_n dLw_law_822 rfl ?_
  refine pm_iload dLw_law_823 rfl ?_
  refine pm_iconst (v := 1) dLw_law_825 (by decide) ?_
  refine pm_iadd dLw_law_826 ?_
  refine pm_sald dLw_law_827 h1 ?_
  refine pm_callV (rc1 := rc + mm) (rs1 := rs + sm) dLw_law_828 lLw_105 vCh_count ⟨_, _, rfl⟩ hW hx rfl rfl (Nat.le_of_ble_eq_true rfl) (Nat.le_refl _) (Nat.le_refl _) ?_
  refine pm_aload_n dLw_law_831 rfl ?_
  refine pm_xload_n dLw_law_832 rfl ?_
  refine pm_iload dLw_law_833 rfl ?_
  refine pm_iconst (v := 1) dLw_law_835 (by decide) ?_
  refine pm_iadd dLw_law_836 ?_
  refine pm_sald dLw_law_837 h1 ?_
  refine pm_callV (rc1 := rc) (rs1 := rs) dLw_law_838 lLw_108 vMo_count ⟨_, _, rfl⟩ hM hm rfl rfl (Nat.le_of_ble_eq_true rfl) (Nat.le_refl _) (Nat.le_refl _) ?_
  refine pm_icmp_eq 846 dLw_law_841 (by decide) (fun h841 => ?_) (fun h841 => absurd heq h841)
  exact nx
