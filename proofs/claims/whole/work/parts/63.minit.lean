theorem ov_int : FieldType.int ∈ pm_OV := List.mem_of_getElem? (i := 0) rfl
def RMo_init (R : Nat → Nat → Value) : Nat → Nat → Value := pm_u (pm_z (pm_u (pm_z (pm_u (pm_z (pm_u (mm_R (pm_u (pm_z (pm_u (pm_z (pm_u (mm_R (pm_u (pm_z (pm_u (pm_z (pm_u (pm_z (pm_u (pm_z (pm_u (pm_z (pm_u (pm_z (pm_u (pm_z (pm_u (pm_z (pm_u (pm_z (pm_u (pm_z (pm_u (pm_z (pm_u (pm_z (pm_u (pm_z (pm_u (pm_z (pm_u (pm_z (pm_u (pm_z (pm_u (pm_z (pm_u (pm_z (pm_u (pm_z (pm_u (pm_z (pm_u (pm_z (pm_u (pm_z (R) 41 .null) 40 0 (.ref 41)) 42 .null) 40 12 (.ref 42)) 43 .null) 40 13 (.ref 43)) 44 .null) 40 14 (.ref 44)) 45 .null) 40 15 (.ref 45)) 46 .null) 40 17 (.ref 46)) 47 .null) 40 18 (.ref 47)) 48 .null) 40 19 (.ref 48)) 49 .null) 40 20 (.ref 49)) 50 .null) 40 21 (.ref 50)) 51 .null) 40 22 (.ref 51)) 52 .null) 40 29 (.ref 52)) 53 .null) 40 30 (.ref 53)) 54 .null) 40 31 (.ref 54)) 55 .null) 40 32 (.ref 55)) 56 .null) 40 33 (.ref 56)) 57 .null) 40 35 (.ref 57)) 58 .null) 40 36 (.ref 58)) 59 .null) 40 37 (.ref 59)) 60 .null) 40 39 (.ref 60)) 61 .null) 40 40 (.ref 61)) 62 .null) 40 41 (.ref 62)) 63 256) 40 42 (.ref 63)) 320 .null) 40 43 (.ref 320)) 321 .null) 40 44 (.ref 321)) 322 30) 40 45 (.ref 322)) 353 .null) 40 48 (.ref 353)) 354 .null) 40 49 (.ref 354)) 355 .null) 40 50 (.ref 355)
def IMo_init (I : Nat → Nat → Int32) : Nat → Nat → Int32 := pm_u (pm_u (pm_z (pm_z (pm_z (pm_u (pm_u (mm_I (pm_z (pm_z (mm_I (pm_z (pm_z (pm_z (pm_u (pm_z (pm_z (pm_z (pm_u (pm_z (pm_z (pm_z (pm_z (pm_z (pm_u (pm_u (pm_u (pm_u (pm_u (pm_u (pm_z (pm_z (pm_z (pm_z (pm_z (pm_z (pm_u (pm_z (pm_z (pm_z (pm_z (pm_u (pm_u (pm_u (pm_u (pm_u (pm_u (pm_u (pm_u (pm_u (pm_u (pm_u (pm_z (I) 41 0) 40 1 0) 40 2 0) 40 3 0) 40 4 0) 40 5 0) 40 6 0) 40 7 0) 40 8 0) 40 9 0) 40 10 0) 40 11 0) 42 0) 43 0) 44 0) 45 0) 40 16 0) 46 0) 47 0) 48 0) 49 0) 50 0) 51 0) 40 23 0) 40 24 0) 40 25 0) 40 26 0) 40 27 0) 40 28 0) 52 0) 53 0) 54 0) 55 0) 56 0) 40 34 0) 57 0) 58 0) 59 0) 40 38 0) 60 0) 61 0) 62 0) 63 256 0) 320 0) 321 0) 322 30 0) 40 46 0) 40 47 0) 353 0) 354 0) 355 0) 40 51 0) 40 52 0
def JMo_init (J : Nat → Nat → Int64) : Nat → Nat → Int64 := pm_z (pm_z (pm_z (mm_I (pm_z (pm_z (mm_I (pm_z (pm_z (pm_z (pm_z (pm_z (pm_z (pm_z (pm_z (pm_z (pm_z (pm_z (pm_z (pm_z (pm_z (pm_z (pm_z (pm_z (pm_z (pm_z (pm_z (pm_z (pm_z (J) 41 0) 42 0) 43 0) 44 0) 45 0) 46 0) 47 0) 48 0) 49 0) 50 0) 51 0) 52 0) 53 0) 54 0) 55 0) 56 0) 57 0) 58 0) 59 0) 60 0) 61 0) 62 0) 63 256 0) 320 0) 321 0) 322 30 0) 353 0) 354 0) 355 0
set_option maxHeartbeats 4000000 in
set_option maxRecDepth 100000 in
theorem Mo_init_ok (g : pmG) (d : Nat) (R : Nat → Nat → Value) (I : Nat → Nat → Int32) (J : Nat → Nat → Int64) : pmC g kMo_init (d + 1) 315 114803 [.ref 40] (pk_K ++ [(0, 10)], R, I, J) (.returned none) (mk_K, RMo_init R, IMo_init I, JMo_init J) := by
  refine pmC.of (by decide) (Nat.le_of_ble_eq_true rfl) ?_
  refine pm_aload_n dMo_init_0 rfl ?_
  refine pm_objInit dMo_init_1 (pm_in 1168 (by decide +kernel) rfl) ob_1 ob_2 (Nat.le_of_ble_eq_true rfl) ?_
  refine pm_aload_n dMo_init_4 rfl ?_
  refine pm_ldc dMo_init_5 cMo_7 ?_
  refine pm_newaL (t := 2) (N := 65536) 314 49267 41 _ (Nat.le_of_ble_eq_true rfl) (Nat.le_of_ble_eq_true rfl) (by decide +kernel) rfl dMo_init_7 rfl (Or.inr (Or.inl ⟨rfl, rfl⟩)) ac_byte (by decide) (by decide) (by decide) ?_
  refine pm_putr dMo_init_9 fMo_8 sMo_8 (fun _ => rfl) rfl rfl rfl ?_
  refine pm_aload_n dMo_init_12 rfl ?_
  refine pm_iconst (v := 0) dMo_init_13 (by decide) ?_
  refine pm_puti dMo_init_14 fMo_14 sMo_14 (fun h => by cases h) rfl (by first | rfl | decide) rfl ?_
  refine pm_aload_n dMo_init_17 rfl ?_
  refine pm_iconst (v := 0) dMo_init_18 (by decide) ?_
  refine pm_puti dMo_init_19 fMo_18 sMo_18 (fun h => by cases h) rfl (by first | rfl | decide) rfl ?_
  refine pm_aload_n dMo_init_22 rfl ?_
  refine pm_iconst (v := 0) dMo_init_23 (by decide) ?_
  refine pm_puti dMo_init_24 fMo_21 sMo_21 (fun h => by cases h) rfl (by first | rfl | decide) rfl ?_
  refine pm_aload_n dMo_init_27 rfl ?_
  refine pm_iconst (v := 0) dMo_init_28 (by decide) ?_
  refine pm_puti dMo_init_29 fMo_24 sMo_24 (fun h => by cases h) rfl (by first | rfl | decide) rfl ?_
  refine pm_aload_n dMo_init_32 rfl ?_
  refine pm_iconst (v := 0) dMo_init_33 (by decide) ?_
  refine pm_puti dMo_init_34 fMo_27 sMo_27 (fun h => by cases h) rfl (by first | rfl | decide) rfl ?_
  refine pm_aload_n dMo_init_37 rfl ?_
  refine pm_iconst (v := 0) dMo_init_38 (by decide) ?_
  refine pm_puti dMo_init_39 fMo_30 sMo_30 (fun h => by cases h) rfl (by first | rfl | decide) rfl ?_
  refine pm_aload_n dMo_init_42 rfl ?_
  refine pm_iconst (v := 0) dMo_init_43 (by decide) ?_
  refine pm_puti dMo_init_44 fMo_33 sMo_33 (fun h => by cases h) rfl (by first | rfl | decide) rfl ?_
  refine pm_aload_n dMo_init_47 rfl ?_
  refine pm_iconst (v := 0) dMo_init_48 (by decide) ?_
  refine pm_puti dMo_init_49 fMo_36 sMo_36 (fun h => by cases h) rfl (by first | rfl | decide) rfl ?_
  refine pm_aload_n dMo_init_52 rfl ?_
  refine pm_iconst (v := 0) dMo_init_53 (by decide) ?_
  refine pm_puti dMo_init_54 fMo_39 sMo_39 (fun h => by cases h) rfl (by first | rfl | decide) rfl ?_
  refine pm_aload_n dMo_init_57 rfl ?_
  refine pm_iconst (v := 0) dMo_init_58 (by decide) ?_
  refine pm_puti dMo_init_59 fMo_42 sMo_42 (fun h => by cases h) rfl (by first | rfl | decide) rfl ?_
  refine pm_aload_n dMo_init_62 rfl ?_
  refine pm_iconst (v := 0) dMo_init_63 (by decide) ?_
  refine pm_puti dMo_init_64 fMo_46 sMo_46 (fun h => by cases h) rfl (by first | rfl | decide) rfl ?_
  refine pm_aload_n dMo_init_67 rfl ?_
  refine pm_bipush (v := 60) dMo_init_68 (by decide) ?_
  refine pm_newaL (t := 1) (N := 60) 313 49207 42 _ (Nat.le_of_ble_eq_true rfl) (Nat.le_of_ble_eq_true rfl) (by decide +kernel) rfl dMo_init_70 rfl (Or.inl ⟨rfl, rfl⟩) ac_int (by decide) (by decide) (by decide) ?_
  refine pm_putr dMo_init_72 fMo_49 sMo_49 (fun _ => rfl) rfl rfl rfl ?_
  refine pm_aload_n dMo_init_75 rfl ?_
  refine pm_bipush (v := 60) dMo_init_76 (by decide) ?_
  refine pm_newaL (t := 1) (N := 60) 312 49147 43 _ (Nat.le_of_ble_eq_true rfl) (Nat.le_of_ble_eq_true rfl) (by decide +kernel) rfl dMo_init_78 rfl (Or.inl ⟨rfl, rfl⟩) ac_int (by decide) (by decide) (by decide) ?_
  refine pm_putr dMo_init_80 fMo_53 sMo_53 (fun _ => rfl) rfl rfl rfl ?_
  refine pm_aload_n dMo_init_83 rfl ?_
  refine pm_bipush (v := 60) dMo_init_84 (by decide) ?_
  refine pm_newaL (t := 1) (N := 60) 311 49087 44 _ (Nat.le_of_ble_eq_true rfl) (Nat.le_of_ble_eq_true rfl) (by decide +kernel) rfl dMo_init_86 rfl (Or.inl ⟨rfl, rfl⟩) ac_int (by decide) (by decide) (by decide) ?_
  refine pm_putr dMo_init_88 fMo_56 sMo_56 (fun _ => rfl) rfl rfl rfl ?_
  refine pm_aload_n dMo_init_91 rfl ?_
  refine pm_bipush (v := 60) dMo_init_92 (by decide) ?_
  refine pm_newaL (t := 1) (N := 60) 310 49027 45 _ (Nat.le_of_ble_eq_true rfl) (Nat.le_of_ble_eq_true rfl) (by decide +kernel) rfl dMo_init_94 rfl (Or.inl ⟨rfl, rfl⟩) ac_int (by decide) (by decide) (by decide) ?_
  refine pm_putr dMo_init_96 fMo_59 sMo_59 (fun _ => rfl) rfl rfl rfl ?_
  refine pm_aload_n dMo_init_99 rfl ?_
  refine pm_iconst (v := 0) dMo_init_100 (by decide) ?_
  refine pm_puti dMo_init_101 fMo_62 sMo_62 (fun h => by cases h) rfl (by first | rfl | decide) rfl ?_
  refine pm_aload_n dMo_init_104 rfl ?_
  refine pm_bipush (v := 8) dMo_init_105 (by decide) ?_
  refine pm_newaL (t := 1) (N := 8) 309 49019 46 _ (Nat.le_of_ble_eq_true rfl) (Nat.le_of_ble_eq_true rfl) (by decide +kernel) rfl dMo_init_107 rfl (Or.inl ⟨rfl, rfl⟩) ac_int (by decide) (by decide) (by decide) ?_
  refine pm_putr dMo_init_109 fMo_65 sMo_65 (fun _ => rfl) rfl rfl rfl ?_
  refine pm_aload_n dMo_init_112 rfl ?_
  refine pm_bipush (v := 8) dMo_init_113 (by decide) ?_
  refine pm_newaL (t := 1) (N := 8) 308 49011 47 _ (Nat.le_of_ble_eq_true rfl) (Nat.le_of_ble_eq_true rfl) (by decide +kernel) rfl dMo_init_115 rfl (Or.inl ⟨rfl, rfl⟩) ac_int (by decide) (by decide) (by decide) ?_
  refine pm_putr dMo_init_117 fMo_68 sMo_68 (fun _ => rfl) rfl rfl rfl ?_
  refine pm_aload_n dMo_init_120 rfl ?_
  refine pm_bipush (v := 8) dMo_init_121 (by decide) ?_
  refine pm_newaL (t := 1) (N := 8) 307 49003 48 _ (Nat.le_of_ble_eq_true rfl) (Nat.le_of_ble_eq_true rfl) (by decide +kernel) rfl dMo_init_123 rfl (Or.inl ⟨rfl, rfl⟩) ac_int (by decide) (by decide) (by decide) ?_
  refine pm_putr dMo_init_125 fMo_71 sMo_71 (fun _ => rfl) rfl rfl rfl ?_
  refine pm_aload_n dMo_init_128 rfl ?_
  refine pm_iconst (v := 3) dMo_init_129 (by decide) ?_
  refine pm_newaL (t := 1) (N := 3) 306 49000 49 _ (Nat.le_of_ble_eq_true rfl) (Nat.le_of_ble_eq_true rfl) (by decide +kernel) rfl dMo_init_130 rfl (Or.inl ⟨rfl, rfl⟩) ac_int (by decide) (by decide) (by decide) ?_
  refine pm_putr dMo_init_132 fMo_74 sMo_74 (fun _ => rfl) rfl rfl rfl ?_
  refine pm_aload_n dMo_init_135 rfl ?_
  refine pm_bipush (v := 60) dMo_init_136 (by decide) ?_
  refine pm_newaL (t := 1) (N := 60) 305 48940 50 _ (Nat.le_of_ble_eq_true rfl) (Nat.le_of_ble_eq_true rfl) (by decide +kernel) rfl dMo_init_138 rfl (Or.inl ⟨rfl, rfl⟩) ac_int (by decide) (by decide) (by decide) ?_
  refine pm_putr dMo_init_140 fMo_77 sMo_77 (fun _ => rfl) rfl rfl rfl ?_
  refine pm_aload_n dMo_init_143 rfl ?_
  refine pm_bipush (v := 30) dMo_init_144 (by decide) ?_
  refine pm_newaL (t := 1) (N := 30) 304 48910 51 _ (Nat.le_of_ble_eq_true rfl) (Nat.le_of_ble_eq_true rfl) (by decide +kernel) rfl dMo_init_146 rfl (Or.inl ⟨rfl, rfl⟩) ac_int (by decide) (by decide) (by decide) ?_
  refine pm_putr dMo_init_148 fMo_80 sMo_80 (fun _ => rfl) rfl rfl rfl ?_
  refine pm_aload_n dMo_init_151 rfl ?_
  refine pm_iconst (v := 0) dMo_init_152 (by decide) ?_
  refine pm_puti dMo_init_153 fMo_83 sMo_83 (fun h => by cases h) rfl (by first | rfl | decide) rfl ?_
  refine pm_aload_n dMo_init_156 rfl ?_
  refine pm_iconst (v := 0) dMo_init_157 (by decide) ?_
  refine pm_puti dMo_init_158 fMo_86 sMo_86 (fun h => by cases h) rfl (by first | rfl | decide) rfl ?_
  refine pm_aload_n dMo_init_161 rfl ?_
  refine pm_iconst (v := 0) dMo_init_162 (by decide) ?_
  refine pm_puti dMo_init_163 fMo_89 sMo_89 (fun h => by cases h) rfl (by first | rfl | decide) rfl ?_
  refine pm_aload_n dMo_init_166 rfl ?_
  refine pm_iconst (v := 0) dMo_init_167 (by decide) ?_
  refine pm_puti dMo_init_168 fMo_92 sMo_92 (fun h => by cases h) rfl (by first | rfl | decide) rfl ?_
  refine pm_aload_n dMo_init_171 rfl ?_
  refine pm_iconst (v := 0) dMo_init_172 (by decide) ?_
  refine pm_puti dMo_init_173 fMo_95 sMo_95 (fun h => by cases h) rfl (by first | rfl | decide) rfl ?_
  refine pm_aload_n dMo_init_176 rfl ?_
  refine pm_iconst (v := 0) dMo_init_177 (by decide) ?_
  refine pm_puti dMo_init_178 fMo_98 sMo_98 (fun h => by cases h) rfl (by first | rfl | decide) rfl ?_
  refine pm_aload_n dMo_init_181 rfl ?_
  refine pm_sipush (v := 4200) dMo_init_182 (by decide) ?_
  refine pm_newaL (t := 1) (N := 4200) 303 44710 52 _ (Nat.le_of_ble_eq_true rfl) (Nat.le_of_ble_eq_true rfl) (by decide +kernel) rfl dMo_init_185 rfl (Or.inl ⟨rfl, rfl⟩) ac_int (by decide) (by decide) (by decide) ?_
  refine pm_putr dMo_init_187 fMo_101 sMo_101 (fun _ => rfl) rfl rfl rfl ?_
  refine pm_aload_n dMo_init_190 rfl ?_
  refine pm_sipush (v := 4200) dMo_init_191 (by decide) ?_
  refine pm_newaL (t := 1) (N := 4200) 302 40510 53 _ (Nat.le_of_ble_eq_true rfl) (Nat.le_of_ble_eq_true rfl) (by decide +kernel) rfl dMo_init_194 rfl (Or.inl ⟨rfl, rfl⟩) ac_int (by decide) (by decide) (by decide) ?_
  refine pm_putr dMo_init_196 fMo_104 sMo_104 (fun _ => rfl) rfl rfl rfl ?_
  refine pm_aload_n dMo_init_199 rfl ?_
  refine pm_sipush (v := 4200) dMo_init_200 (by decide) ?_
  refine pm_newaL (t := 1) (N := 4200) 301 36310 54 _ (Nat.le_of_ble_eq_true rfl) (Nat.le_of_ble_eq_true rfl) (by decide +kernel) rfl dMo_init_203 rfl (Or.inl ⟨rfl, rfl⟩) ac_int (by decide) (by decide) (by decide) ?_
  refine pm_putr dMo_init_205 fMo_107 sMo_107 (fun _ => rfl) rfl rfl rfl ?_
  refine pm_aload_n dMo_init_208 rfl ?_
  refine pm_sipush (v := 4200) dMo_init_209 (by decide) ?_
  refine pm_newaL (t := 1) (N := 4200) 300 32110 55 _ (Nat.le_of_ble_eq_true rfl) (Nat.le_of_ble_eq_true rfl) (by decide +kernel) rfl dMo_init_212 rfl (Or.inl ⟨rfl, rfl⟩) ac_int (by decide) (by decide) (by decide) ?_
  refine pm_putr dMo_init_214 fMo_110 sMo_110 (fun _ => rfl) rfl rfl rfl ?_
  refine pm_aload_n dMo_init_217 rfl ?_
  refine pm_sipush (v := 4200) dMo_init_218 (by decide) ?_
  refine pm_newaL (t := 1) (N := 4200) 299 27910 56 _ (Nat.le_of_ble_eq_true rfl) (Nat.le_of_ble_eq_true rfl) (by decide +kernel) rfl dMo_init_221 rfl (Or.inl ⟨rfl, rfl⟩) ac_int (by decide) (by decide) (by decide) ?_
  refine pm_putr dMo_init_223 fMo_113 sMo_113 (fun _ => rfl) rfl rfl rfl ?_
  refine pm_aload_n dMo_init_226 rfl ?_
  refine pm_iconst (v := 0) dMo_init_227 (by decide) ?_
  refine pm_puti dMo_init_228 fMo_116 sMo_116 (fun h => by cases h) rfl (by first | rfl | decide) rfl ?_
  refine pm_aload_n dMo_init_231 rfl ?_
  refine pm_sipush (v := 4200) dMo_init_232 (by decide) ?_
  refine pm_newaL (t := 1) (N := 4200) 298 23710 57 _ (Nat.le_of_ble_eq_true rfl) (Nat.le_of_ble_eq_true rfl) (by decide +kernel) rfl dMo_init_235 rfl (Or.inl ⟨rfl, rfl⟩) ac_int (by decide) (by decide) (by decide) ?_
  refine pm_putr dMo_init_237 fMo_119 sMo_119 (fun _ => rfl) rfl rfl rfl ?_
  refine pm_aload_n dMo_init_240 rfl ?_
  refine pm_sipush (v := 4200) dMo_init_241 (by decide) ?_
  refine pm_newaL (t := 1) (N := 4200) 297 19510 58 _ (Nat.le_of_ble_eq_true rfl) (Nat.le_of_ble_eq_true rfl) (by decide +kernel) rfl dMo_init_244 rfl (Or.inl ⟨rfl, rfl⟩) ac_int (by decide) (by decide) (by decide) ?_
  refine pm_putr dMo_init_246 fMo_122 sMo_122 (fun _ => rfl) rfl rfl rfl ?_
  refine pm_aload_n dMo_init_249 rfl ?_
  refine pm_sipush (v := 4200) dMo_init_250 (by decide) ?_
  refine pm_newaL (t := 1) (N := 4200) 296 15310 59 _ (Nat.le_of_ble_eq_true rfl) (Nat.le_of_ble_eq_true rfl) (by decide +kernel) rfl dMo_init_253 rfl (Or.inl ⟨rfl, rfl⟩) ac_int (by decide) (by decide) (by decide) ?_
  refine pm_putr dMo_init_255 fMo_125 sMo_125 (fun _ => rfl) rfl rfl rfl ?_
  refine pm_aload_n dMo_init_258 rfl ?_
  refine pm_iconst (v := 0) dMo_init_259 (by decide) ?_
  refine pm_puti dMo_init_260 fMo_128 sMo_128 (fun h => by cases h) rfl (by first | rfl | decide) rfl ?_
  refine pm_aload_n dMo_init_263 rfl ?_
  refine pm_bipush (v := 8) dMo_init_264 (by decide) ?_
  refine pm_newaL (t := 1) (N := 8) 295 15302 60 _ (Nat.le_of_ble_eq_true rfl) (Nat.le_of_ble_eq_true rfl) (by decide +kernel) rfl dMo_init_266 rfl (Or.inl ⟨rfl, rfl⟩) ac_int (by decide) (by decide) (by decide) ?_
  refine pm_putr dMo_init_268 fMo_131 sMo_131 (fun _ => rfl) rfl rfl rfl ?_
  refine pm_aload_n dMo_init_271 rfl ?_
  refine pm_iconst (v := 3) dMo_init_272 (by decide) ?_
  refine pm_newaL (t := 1) (N := 3) 294 15299 61 _ (Nat.le_of_ble_eq_true rfl) (Nat.le_of_ble_eq_true rfl) (by decide +kernel) rfl dMo_init_273 rfl (Or.inl ⟨rfl, rfl⟩) ac_int (by decide) (by decide) (by decide) ?_
  refine pm_putr dMo_init_275 fMo_134 sMo_134 (fun _ => rfl) rfl rfl rfl ?_
  refine pm_aload_n dMo_init_278 rfl ?_
  refine pm_bipush (v := 60) dMo_init_279 (by decide) ?_
  refine pm_newaL (t := 1) (N := 60) 293 15239 62 _ (Nat.le_of_ble_eq_true rfl) (Nat.le_of_ble_eq_true rfl) (by decide +kernel) rfl dMo_init_281 rfl (Or.inl ⟨rfl, rfl⟩) ac_int (by decide) (by decide) (by decide) ?_
  refine pm_putr dMo_init_283 fMo_137 sMo_137 (fun _ => rfl) rfl rfl rfl ?_
  refine pm_aload_n dMo_init_286 rfl ?_
  refine pm_sipush (v := 256) dMo_init_287 (by decide) ?_
  refine pm_bipush (v := 8) dMo_init_290 (by decide) ?_
  refine pm_multiL (N := 256) (M := 8) (t0 := 5) (t1 := 1) (ty := .int) 36 12935 63 (Nat.le_of_ble_eq_true rfl) (Nat.le_of_ble_eq_true rfl) (by decide +kernel) dMo_init_292 (pm_in 1170 (by decide +kernel) rfl) ov_int ac_int (Or.inl ⟨rfl, rfl, rfl⟩) (by decide) (by decide) (by decide) (by decide) (by decide) (by decide) (by decide) ?_
  refine pm_putr dMo_init_296 fMo_142 sMo_142 (fun _ => rfl) rfl rfl rfl ?_
  refine pm_aload_n dMo_init_299 rfl ?_
  refine pm_sipush (v := 4200) dMo_init_300 (by decide) ?_
  refine pm_anewL (N := 4200) 35 8735 320 (Nat.le_of_ble_eq_true rfl) (Nat.le_of_ble_eq_true rfl) (by decide +kernel) dMo_init_303 (pm_in 1172 (by decide +kernel) rfl) ov_boolean (by decide) (by decide) (by decide) ?_
  refine pm_putr dMo_init_306 fMo_147 sMo_147 (fun _ => rfl) rfl rfl rfl ?_
  refine pm_aload_n dMo_init_309 rfl ?_
  refine pm_sipush (v := 256) dMo_init_310 (by decide) ?_
  refine pm_newaL (t := 3) (N := 256) 34 8479 321 _ (Nat.le_of_ble_eq_true rfl) (Nat.le_of_ble_eq_true rfl) (by decide +kernel) rfl dMo_init_313 rfl (Or.inr (Or.inr (Or.inl ⟨rfl, rfl⟩))) ac_boolean (by decide) (by decide) (by decide) ?_
  refine pm_putr dMo_init_315 fMo_151 sMo_151 (fun _ => rfl) rfl rfl rfl ?_
  refine pm_aload_n dMo_init_318 rfl ?_
  refine pm_bipush (v := 30) dMo_init_319 (by decide) ?_
  refine pm_sipush (v := 256) dMo_init_321 (by decide) ?_
  refine pm_multiL (N := 30) (M := 256) (t0 := 6) (t1 := 3) (ty := .boolean) 3 769 322 (Nat.le_of_ble_eq_true rfl) (Nat.le_of_ble_eq_true rfl) (by decide +kernel) dMo_init_324 (pm_in 1174 (by decide +kernel) rfl) ov_boolean ac_boolean (Or.inr ⟨rfl, rfl, rfl⟩) (by decide) (by decide) (by decide) (by decide) (by decide) (by decide) (by decide) ?_
  refine pm_putr dMo_init_328 fMo_155 sMo_155 (fun _ => rfl) rfl rfl rfl ?_
  refine pm_aload_n dMo_init_331 rfl ?_
  refine pm_iconst (v := 0) dMo_init_332 (by decide) ?_
  refine pm_puti dMo_init_333 fMo_158 sMo_158 (fun h => by cases h) rfl (by first | rfl | decide) rfl ?_
  refine pm_aload_n dMo_init_336 rfl ?_
  refine pm_iconst (v := 0) dMo_init_337 (by decide) ?_
  refine pm_puti dMo_init_338 fMo_161 sMo_161 (fun h => by cases h) rfl (by first | rfl | decide) rfl ?_
  refine pm_aload_n dMo_init_341 rfl ?_
  refine pm_sipush (v := 256) dMo_init_342 (by decide) ?_
  refine pm_newaL (t := 1) (N := 256) 2 513 353 _ (Nat.le_of_ble_eq_true rfl) (Nat.le_of_ble_eq_true rfl) (by decide +kernel) rfl dMo_init_345 rfl (Or.inl ⟨rfl, rfl⟩) ac_int (by decide) (by decide) (by decide) ?_
  refine pm_putr dMo_init_347 fMo_164 sMo_164 (fun _ => rfl) rfl rfl rfl ?_
  refine pm_aload_n dMo_init_350 rfl ?_
  refine pm_sipush (v := 257) dMo_init_351 (by decide) ?_
  refine pm_newaL (t := 1) (N := 257) 1 256 354 _ (Nat.le_of_ble_eq_true rfl) (Nat.le_of_ble_eq_true rfl) (by decide +kernel) rfl dMo_init_354 rfl (Or.inl ⟨rfl, rfl⟩) ac_int (by decide) (by decide) (by decide) ?_
  refine pm_putr dMo_init_356 fMo_167 sMo_167 (fun _ => rfl) rfl rfl rfl ?_
  refine pm_aload_n dMo_init_359 rfl ?_
  refine pm_sipush (v := 256) dMo_init_360 (by decide) ?_
  refine pm_newaL (t := 1) (N := 256) 0 0 355 _ (Nat.le_of_ble_eq_true rfl) (Nat.le_of_ble_eq_true rfl) (by decide +kernel) rfl dMo_init_363 rfl (Or.inl ⟨rfl, rfl⟩) ac_int (by decide) (by decide) (by decide) ?_
  refine pm_putr dMo_init_365 fMo_170 sMo_170 (fun _ => rfl) rfl rfl rfl ?_
  refine pm_aload_n dMo_init_368 rfl ?_
  refine pm_iconst (v := 0) dMo_init_369 (by decide) ?_
  refine pm_puti dMo_init_370 fMo_173 sMo_173 (fun h => by cases h) rfl (by first | rfl | decide) rfl ?_
  refine pm_aload_n dMo_init_373 rfl ?_
  refine pm_iconst (v := 0) dMo_init_374 (by decide) ?_
  refine pm_puti dMo_init_375 fMo_176 sMo_176 (fun h => by cases h) rfl (by first | rfl | decide) rfl ?_
  exact pm_vret dMo_init_378 rfl rfl (congrArg (fun x => (x, RMo_init R, IMo_init I, JMo_init J)) (by decide +kernel : mk_K = ((((((((((((((((((((((((((((((pk_K ++ [(0, 10)]) ++ [(2, 65536)]) ++ [(1, 60)]) ++ [(1, 60)]) ++ [(1, 60)]) ++ [(1, 60)]) ++ [(1, 8)]) ++ [(1, 8)]) ++ [(1, 8)]) ++ [(1, 3)]) ++ [(1, 60)]) ++ [(1, 30)]) ++ [(1, 4200)]) ++ [(1, 4200)]) ++ [(1, 4200)]) ++ [(1, 4200)]) ++ [(1, 4200)]) ++ [(1, 4200)]) ++ [(1, 4200)]) ++ [(1, 4200)]) ++ [(1, 8)]) ++ [(1, 3)]) ++ [(1, 60)]) ++ (5, 256) :: List.replicate 256 (1, 8)) ++ [(6, 4200)]) ++ [(3, 256)]) ++ (6, 30) :: List.replicate 30 (3, 256)) ++ [(1, 256)]) ++ [(1, 257)]) ++ [(1, 256)])))
