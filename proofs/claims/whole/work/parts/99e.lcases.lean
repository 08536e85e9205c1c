def lw_Zs (C : ew_C) (X : ew_X) (b N : Nat) (scr : Nat → Int32) : Prop := ew_Z C X code 4 RL wsL_law room_1 ret ∧ va_X b N scr C.2.2.2.2.1 C.2.2.2.2.1.heap ∧ b < C.2.2.2.2.1.heap.size ∧ (¬ X.2.2.1 b) ∧ N ≤ 320
def lw_K (C : ew_C) (X : ew_X) (b i : Nat) : Prop := ∀ (a b' c lt ra xs m : ew_M), Rel a c lt xs m → ew_Wl C X 4 ((a, b', c, lt, ra, xs), m) 1092 [(0, .ref b), (1, .ref (X.2.1 46)), (2, .ref (X.2.1 50)), (3, .int (nI i))] []
section LWC
variable {C : ew_C} {X : ew_X} {b N i : Nat} {scr : Nat → Int32} {a b' c lt ra xs m : ew_M}
set_option maxHeartbeats 4000000 in
set_option maxRecDepth 100000 in
theorem lc_0 (hZ : lw_Zs C X b N scr) (hi : i + 5 ≤ N) (K : lw_K C X b i) (hR : Rel a c lt xs m) : ew_Wl C X 4 ((a, b', c, lt, ra, xs), m) 168 [(0, .ref b), (1, .ref (X.2.1 46)), (2, .ref (X.2.1 50)), (3, .int (nI i))] [] := by
  obtain ⟨Z, hX, hbl, hbA, hN⟩ := hZ
  refine ey_aload_n (pc := 168) Z dL_law_168 1 rfl rfl ?_
  refine ey_aload_n (pc := 169) Z dL_law_169 0 rfl rfl ?_
  refine ey_iload_n (pc := 170) Z dL_law_170 3 rfl rfl ?_
  refine ey_iconst (pc := 171) Z dL_law_171 ec_1 ?_
  refine ey_iadd (pc := 172) Z dL_law_172 ?_
  rw [pl_1 i]
  refine ey_iald (pc := 173) (i := i + 1) Z hX hbl hbA (by omega) (by omega) dL_law_173 ?_
  refine ey_callVi (pc := 174) (r := 46) (As := [.int (scr (i + 1))]) (st := []) Z (kX4_letter Z.2.2.2.2.2.2.2.2.2.1 (E := fun q1 q2 q3 q4 q5 q6 => ((q1, q2, q3, q4, q5, q6), m)) (fun _ _ _ _ _ => ew_geT0) (fun _ _ _ _ _ => ew_geT1) (fun _ _ _ _ _ => ew_geT2) (fun _ _ _ _ _ => ew_geL) (fun _ _ _ _ _ => ew_geR) (fun _ _ _ _ _ => ew_geX) (s_letter hR (scr (i + 1)))) gL_law_X4_letter rfl rfl rfl hdX4_letter rfl rfl rfl rfl (by decide) (ew_oX0 ew_geX _) rfl rfl rfl rfl dL_law_174 (fun r1 u1 h1 => ?_)
  refine ey_aload_n (pc := 177) Z dL_law_177 2 rfl rfl ?_
  refine ey_aload_n (pc := 178) Z dL_law_178 0 rfl rfl ?_
  refine ey_iload_n (pc := 179) Z dL_law_179 3 rfl rfl ?_
  refine ey_iconst (pc := 180) Z dL_law_180 ec_1 ?_
  refine ey_iadd (pc := 181) Z dL_law_181 ?_
  rw [pl_1 i]
  refine ey_iald (pc := 182) (i := i + 1) Z hX hbl hbA (by omega) (by omega) dL_law_182 ?_
  refine ey_callVi (pc := 183) (r := 50) (As := [.int (scr (i + 1))]) (st := [.int r1]) Z (kX5_letter Z.2.2.2.2.2.2.2.2.2.1 (E := fun q => ((a, b', c, u1.1, ra, u1.2), q)) ew_geM h1) gL_law_X5_letter rfl rfl rfl hdX5_letter rfl rfl rfl rfl (by decide) (ew_oM (E := fun q => ((a, b', c, u1.1, ra, u1.2), q)) ew_geM m) rfl rfl rfl rfl dL_law_183 (fun r2 u2 h2 => ?_)
  exact ey_icmp_eq (pc := 186) (tgt := 1092) Z dL_law_186 (by decide) (fun _ => K _ _ _ _ _ _ _ h2.2) (fun q => absurd h2.1 q)
set_option maxHeartbeats 4000000 in
set_option maxRecDepth 100000 in
theorem lc_1 (hZ : lw_Zs C X b N scr) (hi : i + 5 ≤ N) (K : lw_K C X b i) (hR : Rel a c lt xs m) : ew_Wl C X 4 ((a, b', c, lt, ra, xs), m) 191 [(0, .ref b), (1, .ref (X.2.1 46)), (2, .ref (X.2.1 50)), (3, .int (nI i))] [] := by
  obtain ⟨Z, hX, hbl, hbA, hN⟩ := hZ
  refine ey_aload_n (pc := 191) Z dL_law_191 1 rfl rfl ?_
  refine ey_callVi (pc := 192) (r := 46) (As := []) (st := []) Z (kX4_town Z.2.2.2.2.2.2.2.2.2.1 (E := fun q1 q2 q3 q4 q5 q6 => ((q1, q2, q3, q4, q5, q6), m)) (fun _ _ _ _ _ => ew_geT0) (fun _ _ _ _ _ => ew_geT1) (fun _ _ _ _ _ => ew_geT2) (fun _ _ _ _ _ => ew_geL) (fun _ _ _ _ _ => ew_geR) (fun _ _ _ _ _ => ew_geX) (s_town hR )) gL_law_X4_town rfl rfl rfl hdX4_town rfl rfl rfl rfl (by decide) (ew_oX0 ew_geX _) rfl rfl rfl rfl dL_law_192 (fun r1 u1 h1 => ?_)
  refine ey_aload_n (pc := 195) Z dL_law_195 2 rfl rfl ?_
  refine ey_callVi (pc := 196) (r := 50) (As := []) (st := [.int r1]) Z (kX5_town Z.2.2.2.2.2.2.2.2.2.1 (E := fun q => ((u1.1, u1.2.1, c, u1.2.2, ra, xs), q)) ew_geM h1) gL_law_X5_town rfl rfl rfl hdX5_town rfl rfl rfl rfl (by decide) (ew_oM (E := fun q => ((u1.1, u1.2.1, c, u1.2.2, ra, xs), q)) ew_geM m) rfl rfl rfl rfl dL_law_196 (fun r2 u2 h2 => ?_)
  exact ey_icmp_eq (pc := 199) (tgt := 1092) Z dL_law_199 (by decide) (fun _ => K _ _ _ _ _ _ _ h2.2) (fun q => absurd h2.1 q)
set_option maxHeartbeats 4000000 in
set_option maxRecDepth 100000 in
theorem lc_2 (hZ : lw_Zs C X b N scr) (hi : i + 5 ≤ N) (K : lw_K C X b i) (hR : Rel a c lt xs m) : ew_Wl C X 4 ((a, b', c, lt, ra, xs), m) 204 [(0, .ref b), (1, .ref (X.2.1 46)), (2, .ref (X.2.1 50)), (3, .int (nI i))] [] := by
  obtain ⟨Z, hX, hbl, hbA, hN⟩ := hZ
  refine ey_aload_n (pc := 204) Z dL_law_204 1 rfl rfl ?_
  refine ey_aload_n (pc := 205) Z dL_law_205 0 rfl rfl ?_
  refine ey_iload_n (pc := 206) Z dL_law_206 3 rfl rfl ?_
  refine ey_iconst (pc := 207) Z dL_law_207 ec_1 ?_
  refine ey_iadd (pc := 208) Z dL_law_208 ?_
  rw [pl_1 i]
  refine ey_iald (pc := 209) (i := i + 1) Z hX hbl hbA (by omega) (by omega) dL_law_209 ?_
  refine ey_aload_n (pc := 210) Z dL_law_210 0 rfl rfl ?_
  refine ey_iload_n (pc := 211) Z dL_law_211 3 rfl rfl ?_
  refine ey_iconst (pc := 212) Z dL_law_212 ec_2 ?_
  refine ey_iadd (pc := 213) Z dL_law_213 ?_
  rw [pl_2 i]
  refine ey_iald (pc := 214) (i := i + 2) Z hX hbl hbA (by omega) (by omega) dL_law_214 ?_
  refine ey_callVi (pc := 215) (r := 46) (As := [.int (scr (i + 1)), .int (scr (i + 2))]) (st := []) Z (kX4_person Z.2.2.2.2.2.2.2.2.2.1 (E := fun q1 q2 q3 q4 q5 q6 => ((q1, q2, q3, q4, q5, q6), m)) (fun _ _ _ _ _ => ew_geT0) (fun _ _ _ _ _ => ew_geT1) (fun _ _ _ _ _ => ew_geT2) (fun _ _ _ _ _ => ew_geL) (fun _ _ _ _ _ => ew_geR) (fun _ _ _ _ _ => ew_geX) (s_person hR (scr (i + 1)) (scr (i + 2)))) gL_law_X4_person rfl rfl rfl hdX4_person rfl rfl rfl rfl (by decide) (ew_oX0 ew_geX _) rfl rfl rfl rfl dL_law_215 (fun r1 u1 h1 => ?_)
  refine ey_aload_n (pc := 218) Z dL_law_218 2 rfl rfl ?_
  refine ey_aload_n (pc := 219) Z dL_law_219 0 rfl rfl ?_
  refine ey_iload_n (pc := 220) Z dL_law_220 3 rfl rfl ?_
  refine ey_iconst (pc := 221) Z dL_law_221 ec_1 ?_
  refine ey_iadd (pc := 222) Z dL_law_222 ?_
  rw [pl_1 i]
  refine ey_iald (pc := 223) (i := i + 1) Z hX hbl hbA (by omega) (by omega) dL_law_223 ?_
  refine ey_aload_n (pc := 224) Z dL_law_224 0 rfl rfl ?_
  refine ey_iload_n (pc := 225) Z dL_law_225 3 rfl rfl ?_
  refine ey_iconst (pc := 226) Z dL_law_226 ec_2 ?_
  refine ey_iadd (pc := 227) Z dL_law_227 ?_
  rw [pl_2 i]
  refine ey_iald (pc := 228) (i := i + 2) Z hX hbl hbA (by omega) (by omega) dL_law_228 ?_
  refine ey_callVi (pc := 229) (r := 50) (As := [.int (scr (i + 1)), .int (scr (i + 2))]) (st := [.int r1]) Z (kX5_person Z.2.2.2.2.2.2.2.2.2.1 (E := fun q => ((a, b', c, lt, ra, u1), q)) ew_geM h1) gL_law_X5_person rfl rfl rfl hdX5_person rfl rfl rfl rfl (by decide) (ew_oM (E := fun q => ((a, b', c, lt, ra, u1), q)) ew_geM m) rfl rfl rfl rfl dL_law_229 (fun r2 u2 h2 => ?_)
  exact ey_icmp_eq (pc := 232) (tgt := 1092) Z dL_law_232 (by decide) (fun _ => K _ _ _ _ _ _ _ h2.2) (fun q => absurd h2.1 q)
set_option maxHeartbeats 4000000 in
set_option maxRecDepth 100000 in
theorem lc_3 (hZ : lw_Zs C X b N scr) (hi : i + 5 ≤ N) (K : lw_K C X b i) (hR : Rel a c lt xs m) : ew_Wl C X 4 ((a, b', c, lt, ra, xs), m) 237 [(0, .ref b), (1, .ref (X.2.1 46)), (2, .ref (X.2.1 50)), (3, .int (nI i))] [] := by
  obtain ⟨Z, hX, hbl, hbA, hN⟩ := hZ
  refine ey_aload_n (pc := 237) Z dL_law_237 1 rfl rfl ?_
  refine ey_aload_n (pc := 238) Z dL_law_238 0 rfl rfl ?_
  refine ey_iload_n (pc := 239) Z dL_law_239 3 rfl rfl ?_
  refine ey_iconst (pc := 240) Z dL_law_240 ec_1 ?_
  refine ey_iadd (pc := 241) Z dL_law_241 ?_
  rw [pl_1 i]
  refine ey_iald (pc := 242) (i := i + 1) Z hX hbl hbA (by omega) (by omega) dL_law_242 ?_
  refine ey_aload_n (pc := 243) Z dL_law_243 0 rfl rfl ?_
  refine ey_iload_n (pc := 244) Z dL_law_244 3 rfl rfl ?_
  refine ey_iconst (pc := 245) Z dL_law_245 ec_2 ?_
  refine ey_iadd (pc := 246) Z dL_law_246 ?_
  rw [pl_2 i]
  refine ey_iald (pc := 247) (i := i + 2) Z hX hbl hbA (by omega) (by omega) dL_law_247 ?_
  refine ey_callVi (pc := 248) (r := 46) (As := [.int (scr (i + 1)), .int (scr (i + 2))]) (st := []) Z (kX4_paper Z.2.2.2.2.2.2.2.2.2.1 (E := fun q1 q2 q3 q4 q5 q6 => ((q1, q2, q3, q4, q5, q6), m)) (fun _ _ _ _ _ => ew_geT0) (fun _ _ _ _ _ => ew_geT1) (fun _ _ _ _ _ => ew_geT2) (fun _ _ _ _ _ => ew_geL) (fun _ _ _ _ _ => ew_geR) (fun _ _ _ _ _ => ew_geX) (s_paper hR (scr (i + 1)) (scr (i + 2)))) gL_law_X4_paper rfl rfl rfl hdX4_paper rfl rfl rfl rfl (by decide) (ew_oX0 ew_geX _) rfl rfl rfl rfl dL_law_248 (fun r1 u1 h1 => ?_)
  refine ey_aload_n (pc := 251) Z dL_law_251 2 rfl rfl ?_
  refine ey_aload_n (pc := 252) Z dL_law_252 0 rfl rfl ?_
  refine ey_iload_n (pc := 253) Z dL_law_253 3 rfl rfl ?_
  refine ey_iconst (pc := 254) Z dL_law_254 ec_1 ?_
  refine ey_iadd (pc := 255) Z dL_law_255 ?_
  rw [pl_1 i]
  refine ey_iald (pc := 256) (i := i + 1) Z hX hbl hbA (by omega) (by omega) dL_law_256 ?_
  refine ey_aload_n (pc := 257) Z dL_law_257 0 rfl rfl ?_
  refine ey_iload_n (pc := 258) Z dL_law_258 3 rfl rfl ?_
  refine ey_iconst (pc := 259) Z dL_law_259 ec_2 ?_
  refine ey_iadd (pc := 260) Z dL_law_260 ?_
  rw [pl_2 i]
  refine ey_iald (pc := 261) (i := i + 2) Z hX hbl hbA (by omega) (by omega) dL_law_261 ?_
  refine ey_callVi (pc := 262) (r := 50) (As := [.int (scr (i + 1)), .int (scr (i + 2))]) (st := [.int r1]) Z (kX5_paper Z.2.2.2.2.2.2.2.2.2.1 (E := fun q => ((a, b', c, lt, ra, u1), q)) ew_geM h1) gL_law_X5_paper rfl rfl rfl hdX5_paper rfl rfl rfl rfl (by decide) (ew_oM (E := fun q => ((a, b', c, lt, ra, u1), q)) ew_geM m) rfl rfl rfl rfl dL_law_262 (fun r2 u2 h2 => ?_)
  exact ey_icmp_eq (pc := 265) (tgt := 1092) Z dL_law_265 (by decide) (fun _ => K _ _ _ _ _ _ _ h2.2) (fun q => absurd h2.1 q)
set_option maxHeartbeats 4000000 in
set_option maxRecDepth 100000 in
theorem lc_4 (hZ : lw_Zs C X b N scr) (hi : i + 5 ≤ N) (K : lw_K C X b i) (hR : Rel a c lt xs m) : ew_Wl C X 4 ((a, b', c, lt, ra, xs), m) 270 [(0, .ref b), (1, .ref (X.2.1 46)), (2, .ref (X.2.1 50)), (3, .int (nI i))] [] := by
  obtain ⟨Z, hX, hbl, hbA, hN⟩ := hZ
  refine ey_aload_n (pc := 270) Z dL_law_270 1 rfl rfl ?_
  refine ey_aload_n (pc := 271) Z dL_law_271 0 rfl rfl ?_
  refine ey_iload_n (pc := 272) Z dL_law_272 3 rfl rfl ?_
  refine ey_iconst (pc := 273) Z dL_law_273 ec_1 ?_
  refine ey_iadd (pc := 274) Z dL_law_274 ?_
  rw [pl_1 i]
  refine ey_iald (pc := 275) (i := i + 1) Z hX hbl hbA (by omega) (by omega) dL_law_275 ?_
  refine ey_aload_n (pc := 276) Z dL_law_276 0 rfl rfl ?_
  refine ey_iload_n (pc := 277) Z dL_law_277 3 rfl rfl ?_
  refine ey_iconst (pc := 278) Z dL_law_278 ec_2 ?_
  refine ey_iadd (pc := 279) Z dL_law_279 ?_
  rw [pl_2 i]
  refine ey_iald (pc := 280) (i := i + 2) Z hX hbl hbA (by omega) (by omega) dL_law_280 ?_
  refine ey_callVi (pc := 281) (r := 46) (As := [.int (scr (i + 1)), .int (scr (i + 2))]) (st := []) Z (kX4_brings Z.2.2.2.2.2.2.2.2.2.1 (E := fun q1 q2 q3 q4 q5 q6 => ((q1, q2, q3, q4, q5, q6), m)) (fun _ _ _ _ _ => ew_geT0) (fun _ _ _ _ _ => ew_geT1) (fun _ _ _ _ _ => ew_geT2) (fun _ _ _ _ _ => ew_geL) (fun _ _ _ _ _ => ew_geR) (fun _ _ _ _ _ => ew_geX) (s_brings hR (scr (i + 1)) (scr (i + 2)))) gL_law_X4_brings rfl rfl rfl hdX4_brings rfl rfl rfl rfl (by decide) (ew_oX0 ew_geX _) rfl rfl rfl rfl dL_law_281 (fun r1 u1 h1 => ?_)
  refine ey_aload_n (pc := 284) Z dL_law_284 2 rfl rfl ?_
  refine ey_aload_n (pc := 285) Z dL_law_285 0 rfl rfl ?_
  refine ey_iload_n (pc := 286) Z dL_law_286 3 rfl rfl ?_
  refine ey_iconst (pc := 287) Z dL_law_287 ec_1 ?_
  refine ey_iadd (pc := 288) Z dL_law_288 ?_
  rw [pl_1 i]
  refine ey_iald (pc := 289) (i := i + 1) Z hX hbl hbA (by omega) (by omega) dL_law_289 ?_
  refine ey_aload_n (pc := 290) Z dL_law_290 0 rfl rfl ?_
  refine ey_iload_n (pc := 291) Z dL_law_291 3 rfl rfl ?_
  refine ey_iconst (pc := 292) Z dL_law_292 ec_2 ?_
  refine ey_iadd (pc := 293) Z dL_law_293 ?_
  rw [pl_2 i]
  refine ey_iald (pc := 294) (i := i + 2) Z hX hbl hbA (by omega) (by omega) dL_law_294 ?_
  refine ey_callVi (pc := 295) (r := 50) (As := [.int (scr (i + 1)), .int (scr (i + 2))]) (st := [.int r1]) Z (kX5_brings Z.2.2.2.2.2.2.2.2.2.1 (E := fun q => ((a, b', c, lt, ra, u1), q)) ew_geM h1) gL_law_X5_brings rfl rfl rfl hdX5_brings rfl rfl rfl rfl (by decide) (ew_oM (E := fun q => ((a, b', c, lt, ra, u1), q)) ew_geM m) rfl rfl rfl rfl dL_law_295 (fun r2 u2 h2 => ?_)
  exact ey_icmp_eq (pc := 298) (tgt := 1092) Z dL_law_298 (by decide) (fun _ => K _ _ _ _ _ _ _ h2.2) (fun q => absurd h2.1 q)
set_option maxHeartbeats 4000000 in
set_option maxRecDepth 100000 in
theorem lc_5 (hZ : lw_Zs C X b N scr) (hi : i + 5 ≤ N) (K : lw_K C X b i) (hR : Rel a c lt xs m) : ew_Wl C X 4 ((a, b', c, lt, ra, xs), m) 303 [(0, .ref b), (1, .ref (X.2.1 46)), (2, .ref (X.2.1 50)), (3, .int (nI i))] [] := by
  obtain ⟨Z, hX, hbl, hbA, hN⟩ := hZ
  refine ey_aload_n (pc := 303) Z dL_law_303 1 rfl rfl ?_
  refine ey_aload_n (pc := 304) Z dL_law_304 0 rfl rfl ?_
  refine ey_iload_n (pc := 305) Z dL_law_305 3 rfl rfl ?_
  refine ey_iconst (pc := 306) Z dL_law_306 ec_1 ?_
  refine ey_iadd (pc := 307) Z dL_law_307 ?_
  rw [pl_1 i]
  refine ey_iald (pc := 308) (i := i + 1) Z hX hbl hbA (by omega) (by omega) dL_law_308 ?_
  refine ey_aload_n (pc := 309) Z dL_law_309 0 rfl rfl ?_
  refine ey_iload_n (pc := 310) Z dL_law_310 3 rfl rfl ?_
  refine ey_iconst (pc := 311) Z dL_law_311 ec_2 ?_
  refine ey_iadd (pc := 312) Z dL_law_312 ?_
  rw [pl_2 i]
  refine ey_iald (pc := 313) (i := i + 2) Z hX hbl hbA (by omega) (by omega) dL_law_313 ?_
  refine ey_callVi (pc := 314) (r := 46) (As := [.int (scr (i + 1)), .int (scr (i + 2))]) (st := []) Z (kX4_truth Z.2.2.2.2.2.2.2.2.2.1 (E := fun q1 q2 q3 q4 q5 q6 => ((q1, q2, q3, q4, q5, q6), m)) (fun _ _ _ _ _ => ew_geT0) (fun _ _ _ _ _ => ew_geT1) (fun _ _ _ _ _ => ew_geT2) (fun _ _ _ _ _ => ew_geL) (fun _ _ _ _ _ => ew_geR) (fun _ _ _ _ _ => ew_geX) (s_truth hR (scr (i + 1)) (scr (i + 2)))) gL_law_X4_truth rfl rfl rfl hdX4_truth rfl rfl rfl rfl (by decide) (ew_oX0 ew_geX _) rfl rfl rfl rfl dL_law_314 (fun r1 u1 h1 => ?_)
  refine ey_aload_n (pc := 317) Z dL_law_317 2 rfl rfl ?_
  refine ey_aload_n (pc := 318) Z dL_law_318 0 rfl rfl ?_
  refine ey_iload_n (pc := 319) Z dL_law_319 3 rfl rfl ?_
  refine ey_iconst (pc := 320) Z dL_law_320 ec_1 ?_
  refine ey_iadd (pc := 321) Z dL_law_321 ?_
  rw [pl_1 i]
  refine ey_iald (pc := 322) (i := i + 1) Z hX hbl hbA (by omega) (by omega) dL_law_322 ?_
  refine ey_aload_n (pc := 323) Z dL_law_323 0 rfl rfl ?_
  refine ey_iload_n (pc := 324) Z dL_law_324 3 rfl rfl ?_
  refine ey_iconst (pc := 325) Z dL_law_325 ec_2 ?_
  refine ey_iadd (pc := 326) Z dL_law_326 ?_
  rw [pl_2 i]
  refine ey_iald (pc := 327) (i := i + 2) Z hX hbl hbA (by omega) (by omega) dL_law_327 ?_
  refine ey_callVi (pc := 328) (r := 50) (As := [.int (scr (i + 1)), .int (scr (i + 2))]) (st := [.int r1]) Z (kX5_truth Z.2.2.2.2.2.2.2.2.2.1 (E := fun q => ((u1.1, b', c, lt, ra, u1.2), q)) ew_geM h1) gL_law_X5_truth rfl rfl rfl hdX5_truth rfl rfl rfl rfl (by decide) (ew_oM (E := fun q => ((u1.1, b', c, lt, ra, u1.2), q)) ew_geM m) rfl rfl rfl rfl dL_law_328 (fun r2 u2 h2 => ?_)
  exact ey_icmp_eq (pc := 331) (tgt := 1092) Z dL_law_331 (by decide) (fun _ => K _ _ _ _ _ _ _ h2.2) (fun q => absurd h2.1 q)
set_option maxHeartbeats 4000000 in
set_option maxRecDepth 100000 in
theorem lc_6 (hZ : lw_Zs C X b N scr) (hi : i + 5 ≤ N) (K : lw_K C X b i) (hR : Rel a c lt xs m) : ew_Wl C X 4 ((a, b', c, lt, ra, xs), m) 336 [(0, .ref b), (1, .ref (X.2.1 46)), (2, .ref (X.2.1 50)), (3, .int (nI i))] [] := by
  obtain ⟨Z, hX, hbl, hbA, hN⟩ := hZ
  refine ey_aload_n (pc := 336) Z dL_law_336 1 rfl rfl ?_
  refine ey_aload_n (pc := 337) Z dL_law_337 0 rfl rfl ?_
  refine ey_iload_n (pc := 338) Z dL_law_338 3 rfl rfl ?_
  refine ey_iconst (pc := 339) Z dL_law_339 ec_1 ?_
  refine ey_iadd (pc := 340) Z dL_law_340 ?_
  rw [pl_1 i]
  refine ey_iald (pc := 341) (i := i + 1) Z hX hbl hbA (by omega) (by omega) dL_law_341 ?_
  refine ey_callVi (pc := 342) (r := 46) (As := [.int (scr (i + 1))]) (st := []) Z (kX4_law Z.2.2.2.2.2.2.2.2.2.1 (E := fun q1 q2 q3 q4 q5 q6 => ((q1, q2, q3, q4, q5, q6), m)) (fun _ _ _ _ _ => ew_geT0) (fun _ _ _ _ _ => ew_geT1) (fun _ _ _ _ _ => ew_geT2) (fun _ _ _ _ _ => ew_geL) (fun _ _ _ _ _ => ew_geR) (fun _ _ _ _ _ => ew_geX) (s_law hR (scr (i + 1)))) gL_law_X4_law rfl rfl rfl hdX4_law rfl rfl rfl rfl (by decide) (ew_oX0 ew_geX _) rfl rfl rfl rfl dL_law_342 (fun r1 u1 h1 => ?_)
  refine ey_aload_n (pc := 345) Z dL_law_345 2 rfl rfl ?_
  refine ey_aload_n (pc := 346) Z dL_law_346 0 rfl rfl ?_
  refine ey_iload_n (pc := 347) Z dL_law_347 3 rfl rfl ?_
  refine ey_iconst (pc := 348) Z dL_law_348 ec_1 ?_
  refine ey_iadd (pc := 349) Z dL_law_349 ?_
  rw [pl_1 i]
  refine ey_iald (pc := 350) (i := i + 1) Z hX hbl hbA (by omega) (by omega) dL_law_350 ?_
  refine ey_callVi (pc := 351) (r := 50) (As := [.int (scr (i + 1))]) (st := [.int r1]) Z (kX5_law Z.2.2.2.2.2.2.2.2.2.1 (E := fun q => ((u1.1, b', c, lt, ra, u1.2), q)) ew_geM h1) gL_law_X5_law rfl rfl rfl hdX5_law rfl rfl rfl rfl (by decide) (ew_oM (E := fun q => ((u1.1, b', c, lt, ra, u1.2), q)) ew_geM m) rfl rfl rfl rfl dL_law_351 (fun r2 u2 h2 => ?_)
  exact ey_icmp_eq (pc := 354) (tgt := 1092) Z dL_law_354 (by decide) (fun _ => K _ _ _ _ _ _ _ h2.2) (fun q => absurd h2.1 q)
set_option maxHeartbeats 4000000 in
set_option maxRecDepth 100000 in
theorem lc_7 (hZ : lw_Zs C X b N scr) (hi : i + 5 ≤ N) (K : lw_K C X b i) (hR : Rel a c lt xs m) : ew_Wl C X 4 ((a, b', c, lt, ra, xs), m) 359 [(0, .ref b), (1, .ref (X.2.1 46)), (2, .ref (X.2.1 50)), (3, .int (nI i))] [] := by
  obtain ⟨Z, hX, hbl, hbA, hN⟩ := hZ
  refine ey_aload_n (pc := 359) Z dL_law_359 1 rfl rfl ?_
  refine ey_aload_n (pc := 360) Z dL_law_360 0 rfl rfl ?_
  refine ey_iload_n (pc := 361) Z dL_law_361 3 rfl rfl ?_
  refine ey_iconst (pc := 362) Z dL_law_362 ec_1 ?_
  refine ey_iadd (pc := 363) Z dL_law_363 ?_
  rw [pl_1 i]
  refine ey_iald (pc := 364) (i := i + 1) Z hX hbl hbA (by omega) (by omega) dL_law_364 ?_
  refine ey_aload_n (pc := 365) Z dL_law_365 0 rfl rfl ?_
  refine ey_iload_n (pc := 366) Z dL_law_366 3 rfl rfl ?_
  refine ey_iconst (pc := 367) Z dL_law_367 ec_2 ?_
  refine ey_iadd (pc := 368) Z dL_law_368 ?_
  rw [pl_2 i]
  refine ey_iald (pc := 369) (i := i + 2) Z hX hbl hbA (by omega) (by omega) dL_law_369 ?_
  refine ey_callVi (pc := 370) (r := 46) (As := [.int (scr (i + 1)), .int (scr (i + 2))]) (st := []) Z (kX4_reads Z.2.2.2.2.2.2.2.2.2.1 (E := fun q1 q2 q3 q4 q5 q6 => ((q1, q2, q3, q4, q5, q6), m)) (fun _ _ _ _ _ => ew_geT0) (fun _ _ _ _ _ => ew_geT1) (fun _ _ _ _ _ => ew_geT2) (fun _ _ _ _ _ => ew_geL) (fun _ _ _ _ _ => ew_geR) (fun _ _ _ _ _ => ew_geX) (s_reads hR (scr (i + 1)) (scr (i + 2)))) gL_law_X4_reads rfl rfl rfl hdX4_reads rfl rfl rfl rfl (by decide) (ew_oX0 ew_geX _) rfl rfl rfl rfl dL_law_370 (fun r1 u1 h1 => ?_)
  refine ey_aload_n (pc := 373) Z dL_law_373 2 rfl rfl ?_
  refine ey_aload_n (pc := 374) Z dL_law_374 0 rfl rfl ?_
  refine ey_iload_n (pc := 375) Z dL_law_375 3 rfl rfl ?_
  refine ey_iconst (pc := 376) Z dL_law_376 ec_1 ?_
  refine ey_iadd (pc := 377) Z dL_law_377 ?_
  rw [pl_1 i]
  refine ey_iald (pc := 378) (i := i + 1) Z hX hbl hbA (by omega) (by omega) dL_law_378 ?_
  refine ey_aload_n (pc := 379) Z dL_law_379 0 rfl rfl ?_
  refine ey_iload_n (pc := 380) Z dL_law_380 3 rfl rfl ?_
  refine ey_iconst (pc := 381) Z dL_law_381 ec_2 ?_
  refine ey_iadd (pc := 382) Z dL_law_382 ?_
  rw [pl_2 i]
  refine ey_iald (pc := 383) (i := i + 2) Z hX hbl hbA (by omega) (by omega) dL_law_383 ?_
  refine ey_callVi (pc := 384) (r := 50) (As := [.int (scr (i + 1)), .int (scr (i + 2))]) (st := [.int r1]) Z (kX5_reads Z.2.2.2.2.2.2.2.2.2.1 (E := fun q => ((u1.1, b', c, lt, ra, u1.2), q)) ew_geM h1) gL_law_X5_reads rfl rfl rfl hdX5_reads rfl rfl rfl rfl (by decide) (ew_oM (E := fun q => ((u1.1, b', c, lt, ra, u1.2), q)) ew_geM m) rfl rfl rfl rfl dL_law_384 (fun r2 u2 h2 => ?_)
  exact ey_icmp_eq (pc := 387) (tgt := 1092) Z dL_law_387 (by decide) (fun _ => K _ _ _ _ _ _ _ h2.2) (fun q => absurd h2.1 q)
set_option maxHeartbeats 4000000 in
set_option maxRecDepth 100000 in
theorem lc_8 (hZ : lw_Zs C X b N scr) (hi : i + 5 ≤ N) (K : lw_K C X b i) (hR : Rel a c lt xs m) : ew_Wl C X 4 ((a, b', c, lt, ra, xs), m) 392 [(0, .ref b), (1, .ref (X.2.1 46)), (2, .ref (X.2.1 50)), (3, .int (nI i))] [] := by
  obtain ⟨Z, hX, hbl, hbA, hN⟩ := hZ
  refine ey_aload_n (pc := 392) Z dL_law_392 1 rfl rfl ?_
  refine ey_aload_n (pc := 393) Z dL_law_393 0 rfl rfl ?_
  refine ey_iload_n (pc := 394) Z dL_law_394 3 rfl rfl ?_
  refine ey_iconst (pc := 395) Z dL_law_395 ec_1 ?_
  refine ey_iadd (pc := 396) Z dL_law_396 ?_
  rw [pl_1 i]
  refine ey_iald (pc := 397) (i := i + 1) Z hX hbl hbA (by omega) (by omega) dL_law_397 ?_
  refine ey_aload_n (pc := 398) Z dL_law_398 0 rfl rfl ?_
  refine ey_iload_n (pc := 399) Z dL_law_399 3 rfl rfl ?_
  refine ey_iconst (pc := 400) Z dL_law_400 ec_2 ?_
  refine ey_iadd (pc := 401) Z dL_law_401 ?_
  rw [pl_2 i]
  refine ey_iald (pc := 402) (i := i + 2) Z hX hbl hbA (by omega) (by omega) dL_law_402 ?_
  refine ey_aload_n (pc := 403) Z dL_law_403 0 rfl rfl ?_
  refine ey_iload_n (pc := 404) Z dL_law_404 3 rfl rfl ?_
  refine ey_iconst (pc := 405) Z dL_law_405 ec_3 ?_
  refine ey_iadd (pc := 406) Z dL_law_406 ?_
  rw [pl_3 i]
  refine ey_iald (pc := 407) (i := i + 3) Z hX hbl hbA (by omega) (by omega) dL_law_407 ?_
  refine ey_callVi (pc := 408) (r := 46) (As := [.int (scr (i + 1)), .int (scr (i + 2)), .int (scr (i + 3))]) (st := []) Z (kX4_hear Z.2.2.2.2.2.2.2.2.2.1 (E := fun q1 q2 q3 q4 q5 q6 => ((q1, q2, q3, q4, q5, q6), m)) (fun _ _ _ _ _ => ew_geT0) (fun _ _ _ _ _ => ew_geT1) (fun _ _ _ _ _ => ew_geT2) (fun _ _ _ _ _ => ew_geL) (fun _ _ _ _ _ => ew_geR) (fun _ _ _ _ _ => ew_geX) (s_hear hR (scr (i + 1)) (scr (i + 2)) (scr (i + 3)))) gL_law_X4_hear rfl rfl rfl hdX4_hear rfl rfl rfl rfl (by decide) (ew_oX0 ew_geX _) rfl rfl rfl rfl dL_law_408 (fun r1 u1 h1 => ?_)
  refine ey_aload_n (pc := 411) Z dL_law_411 2 rfl rfl ?_
  refine ey_aload_n (pc := 412) Z dL_law_412 0 rfl rfl ?_
  refine ey_iload_n (pc := 413) Z dL_law_413 3 rfl rfl ?_
  refine ey_iconst (pc := 414) Z dL_law_414 ec_1 ?_
  refine ey_iadd (pc := 415) Z dL_law_415 ?_
  rw [pl_1 i]
  refine ey_iald (pc := 416) (i := i + 1) Z hX hbl hbA (by omega) (by omega) dL_law_416 ?_
  refine ey_aload_n (pc := 417) Z dL_law_417 0 rfl rfl ?_
  refine ey_iload_n (pc := 418) Z dL_law_418 3 rfl rfl ?_
  refine ey_iconst (pc := 419) Z dL_law_419 ec_2 ?_
  refine ey_iadd (pc := 420) Z dL_law_420 ?_
  rw [pl_2 i]
  refine ey_iald (pc := 421) (i := i + 2) Z hX hbl hbA (by omega) (by omega) dL_law_421 ?_
  refine ey_aload_n (pc := 422) Z dL_law_422 0 rfl rfl ?_
  refine ey_iload_n (pc := 423) Z dL_law_423 3 rfl rfl ?_
  refine ey_iconst (pc := 424) Z dL_law_424 ec_3 ?_
  refine ey_iadd (pc := 425) Z dL_law_425 ?_
  rw [pl_3 i]
  refine ey_iald (pc := 426) (i := i + 3) Z hX hbl hbA (by omega) (by omega) dL_law_426 ?_
  refine ey_callVi (pc := 427) (r := 50) (As := [.int (scr (i + 1)), .int (scr (i + 2)), .int (scr (i + 3))]) (st := [.int r1]) Z (kX5_hear Z.2.2.2.2.2.2.2.2.2.1 (E := fun q => ((u1.1, b', c, lt, ra, u1.2), q)) ew_geM h1) gL_law_X5_hear rfl rfl rfl hdX5_hear rfl rfl rfl rfl (by decide) (ew_oM (E := fun q => ((u1.1, b', c, lt, ra, u1.2), q)) ew_geM m) rfl rfl rfl rfl dL_law_427 (fun r2 u2 h2 => ?_)
  exact ey_icmp_eq (pc := 430) (tgt := 1092) Z dL_law_430 (by decide) (fun _ => K _ _ _ _ _ _ _ h2.2) (fun q => absurd h2.1 q)
set_option maxHeartbeats 4000000 in
set_option maxRecDepth 100000 in
theorem lc_9 (hZ : lw_Zs C X b N scr) (hi : i + 5 ≤ N) (K : lw_K C X b i) (hR : Rel a c lt xs m) : ew_Wl C X 4 ((a, b', c, lt, ra, xs), m) 435 [(0, .ref b), (1, .ref (X.2.1 46)), (2, .ref (X.2.1 50)), (3, .int (nI i))] [] := by
  obtain ⟨Z, hX, hbl, hbA, hN⟩ := hZ
  refine ey_aload_n (pc := 435) Z dL_law_435 1 rfl rfl ?_
  refine ey_aload_n (pc := 436) Z dL_law_436 0 rfl rfl ?_
  refine ey_iload_n (pc := 437) Z dL_law_437 3 rfl rfl ?_
  refine ey_iconst (pc := 438) Z dL_law_438 ec_1 ?_
  refine ey_iadd (pc := 439) Z dL_law_439 ?_
  rw [pl_1 i]
  refine ey_iald (pc := 440) (i := i + 1) Z hX hbl hbA (by omega) (by omega) dL_law_440 ?_
  refine ey_aload_n (pc := 441) Z dL_law_441 0 rfl rfl ?_
  refine ey_iload_n (pc := 442) Z dL_law_442 3 rfl rfl ?_
  refine ey_iconst (pc := 443) Z dL_law_443 ec_2 ?_
  refine ey_iadd (pc := 444) Z dL_law_444 ?_
  rw [pl_2 i]
  refine ey_iald (pc := 445) (i := i + 2) Z hX hbl hbA (by omega) (by omega) dL_law_445 ?_
  refine ey_aload_n (pc := 446) Z dL_law_446 0 rfl rfl ?_
  refine ey_iload_n (pc := 447) Z dL_law_447 3 rfl rfl ?_
  refine ey_iconst (pc := 448) Z dL_law_448 ec_3 ?_
  refine ey_iadd (pc := 449) Z dL_law_449 ?_
  rw [pl_3 i]
  refine ey_iald (pc := 450) (i := i + 3) Z hX hbl hbA (by omega) (by omega) dL_law_450 ?_
  refine ey_callVl (pc := 451) (r := 46) (As := [.int (scr (i + 1)), .int (scr (i + 2)), .int (scr (i + 3))]) (st := []) Z (kX4_weight Z.2.2.2.2.2.2.2.2.2.1 (E := fun q1 q2 q3 q4 q5 q6 => ((q1, q2, q3, q4, q5, q6), m)) (fun _ _ _ _ _ => ew_geT0) (fun _ _ _ _ _ => ew_geT1) (fun _ _ _ _ _ => ew_geT2) (fun _ _ _ _ _ => ew_geL) (fun _ _ _ _ _ => ew_geR) (fun _ _ _ _ _ => ew_geX) (s_weight hR (scr (i + 1)) (scr (i + 2)) (scr (i + 3)))) gL_law_X4_weight rfl rfl rfl hdX4_weight rfl rfl rfl rfl (by decide) (ew_oX0 ew_geX _) rfl rfl rfl rfl dL_law_451 (fun r1 u1 h1 => ?_)
  refine ey_aload_n (pc := 454) Z dL_law_454 2 rfl rfl ?_
  refine ey_aload_n (pc := 455) Z dL_law_455 0 rfl rfl ?_
  refine ey_iload_n (pc := 456) Z dL_law_456 3 rfl rfl ?_
  refine ey_iconst (pc := 457) Z dL_law_457 ec_1 ?_
  refine ey_iadd (pc := 458) Z dL_law_458 ?_
  rw [pl_1 i]
  refine ey_iald (pc := 459) (i := i + 1) Z hX hbl hbA (by omega) (by omega) dL_law_459 ?_
  refine ey_aload_n (pc := 460) Z dL_law_460 0 rfl rfl ?_
  refine ey_iload_n (pc := 461) Z dL_law_461 3 rfl rfl ?_
  refine ey_iconst (pc := 462) Z dL_law_462 ec_2 ?_
  refine ey_iadd (pc := 463) Z dL_law_463 ?_
  rw [pl_2 i]
  refine ey_iald (pc := 464) (i := i + 2) Z hX hbl hbA (by omega) (by omega) dL_law_464 ?_
  refine ey_aload_n (pc := 465) Z dL_law_465 0 rfl rfl ?_
  refine ey_iload_n (pc := 466) Z dL_law_466 3 rfl rfl ?_
  refine ey_iconst (pc := 467) Z dL_law_467 ec_3 ?_
  refine ey_iadd (pc := 468) Z dL_law_468 ?_
  rw [pl_3 i]
  refine ey_iald (pc := 469) (i := i + 3) Z hX hbl hbA (by omega) (by omega) dL_law_469 ?_
  refine ey_callVl (pc := 470) (r := 50) (As := [.int (scr (i + 1)), .int (scr (i + 2)), .int (scr (i + 3))]) (st := [.long r1]) Z (kX5_weight Z.2.2.2.2.2.2.2.2.2.1 (E := fun q => ((a, b', c, lt, ra, u1), q)) ew_geM h1) gL_law_X5_weight rfl rfl rfl hdX5_weight rfl rfl rfl rfl (by decide) (ew_oM (E := fun q => ((a, b', c, lt, ra, u1), q)) ew_geM m) rfl rfl rfl rfl dL_law_470 (fun r2 u2 h2 => ?_)
  refine ey_lcmp (pc := 473) Z dL_law_473 ?_
  exact ey_if_eq (pc := 474) (tgt := 1092) Z dL_law_474 (by decide) (fun _ => K _ _ _ _ _ _ _ h2.2) (fun q => absurd ((lg_cmp_eq _ _).mpr h2.1) q)
set_option maxHeartbeats 4000000 in
set_option maxRecDepth 100000 in
theorem lc_10 (hZ : lw_Zs C X b N scr) (hi : i + 5 ≤ N) (K : lw_K C X b i) (hR : Rel a c lt xs m) : ew_Wl C X 4 ((a, b', c, lt, ra, xs), m) 479 [(0, .ref b), (1, .ref (X.2.1 46)), (2, .ref (X.2.1 50)), (3, .int (nI i))] [] := by
  obtain ⟨Z, hX, hbl, hbA, hN⟩ := hZ
  refine ey_aload_n (pc := 479) Z dL_law_479 1 rfl rfl ?_
  refine ey_aload_n (pc := 480) Z dL_law_480 0 rfl rfl ?_
  refine ey_iload_n (pc := 481) Z dL_law_481 3 rfl rfl ?_
  refine ey_iconst (pc := 482) Z dL_law_482 ec_1 ?_
  refine ey_iadd (pc := 483) Z dL_law_483 ?_
  rw [pl_1 i]
  refine ey_iald (pc := 484) (i := i + 1) Z hX hbl hbA (by omega) (by omega) dL_law_484 ?_
  refine ey_aload_n (pc := 485) Z dL_law_485 0 rfl rfl ?_
  refine ey_iload_n (pc := 486) Z dL_law_486 3 rfl rfl ?_
  refine ey_iconst (pc := 487) Z dL_law_487 ec_2 ?_
  refine ey_iadd (pc := 488) Z dL_law_488 ?_
  rw [pl_2 i]
  refine ey_iald (pc := 489) (i := i + 2) Z hX hbl hbA (by omega) (by omega) dL_law_489 ?_
  refine ey_aload_n (pc := 490) Z dL_law_490 0 rfl rfl ?_
  refine ey_iload_n (pc := 491) Z dL_law_491 3 rfl rfl ?_
  refine ey_iconst (pc := 492) Z dL_law_492 ec_3 ?_
  refine ey_iadd (pc := 493) Z dL_law_493 ?_
  rw [pl_3 i]
  refine ey_iald (pc := 494) (i := i + 3) Z hX hbl hbA (by omega) (by omega) dL_law_494 ?_
  refine ey_callVl (pc := 495) (r := 46) (As := [.int (scr (i + 1)), .int (scr (i + 2)), .int (scr (i + 3))]) (st := []) Z (kX4_think Z.2.2.2.2.2.2.2.2.2.1 (E := fun q1 q2 q3 q4 q5 q6 => ((q1, q2, q3, q4, q5, q6), m)) (fun _ _ _ _ _ => ew_geT0) (fun _ _ _ _ _ => ew_geT1) (fun _ _ _ _ _ => ew_geT2) (fun _ _ _ _ _ => ew_geL) (fun _ _ _ _ _ => ew_geR) (fun _ _ _ _ _ => ew_geX) (s_think hR (scr (i + 1)) (scr (i + 2)) (scr (i + 3)))) gL_law_X4_think rfl rfl rfl hdX4_think rfl rfl rfl rfl (by decide) (ew_oX0 ew_geX _) rfl rfl rfl rfl dL_law_495 (fun r1 u1 h1 => ?_)
  refine ey_aload_n (pc := 498) Z dL_law_498 2 rfl rfl ?_
  refine ey_aload_n (pc := 499) Z dL_law_499 0 rfl rfl ?_
  refine ey_iload_n (pc := 500) Z dL_law_500 3 rfl rfl ?_
  refine ey_iconst (pc := 501) Z dL_law_501 ec_1 ?_
  refine ey_iadd (pc := 502) Z dL_law_502 ?_
  rw [pl_1 i]
  refine ey_iald (pc := 503) (i := i + 1) Z hX hbl hbA (by omega) (by omega) dL_law_503 ?_
  refine ey_aload_n (pc := 504) Z dL_law_504 0 rfl rfl ?_
  refine ey_iload_n (pc := 505) Z dL_law_505 3 rfl rfl ?_
  refine ey_iconst (pc := 506) Z dL_law_506 ec_2 ?_
  refine ey_iadd (pc := 507) Z dL_law_507 ?_
  rw [pl_2 i]
  refine ey_iald (pc := 508) (i := i + 2) Z hX hbl hbA (by omega) (by omega) dL_law_508 ?_
  refine ey_aload_n (pc := 509) Z dL_law_509 0 rfl rfl ?_
  refine ey_iload_n (pc := 510) Z dL_law_510 3 rfl rfl ?_
  refine ey_iconst (pc := 511) Z dL_law_511 ec_3 ?_
  refine ey_iadd (pc := 512) Z dL_law_512 ?_
  rw [pl_3 i]
  refine ey_iald (pc := 513) (i := i + 3) Z hX hbl hbA (by omega) (by omega) dL_law_513 ?_
  refine ey_callVl (pc := 514) (r := 50) (As := [.int (scr (i + 1)), .int (scr (i + 2)), .int (scr (i + 3))]) (st := [.long r1]) Z (kX5_think Z.2.2.2.2.2.2.2.2.2.1 (E := fun q => ((a, b', c, lt, u1.1, u1.2), q)) ew_geM h1) gL_law_X5_think rfl rfl rfl hdX5_think rfl rfl rfl rfl (by decide) (ew_oM (E := fun q => ((a, b', c, lt, u1.1, u1.2), q)) ew_geM m) rfl rfl rfl rfl dL_law_514 (fun r2 u2 h2 => ?_)
  refine ey_lcmp (pc := 517) Z dL_law_517 ?_
  exact ey_if_eq (pc := 518) (tgt := 1092) Z dL_law_518 (by decide) (fun _ => K _ _ _ _ _ _ _ h2.2) (fun q => absurd ((lg_cmp_eq _ _).mpr h2.1) q)
set_option maxHeartbeats 4000000 in
set_option maxRecDepth 100000 in
theorem lc_11 (hZ : lw_Zs C X b N scr) (hi : i + 5 ≤ N) (K : lw_K C X b i) (hR : Rel a c lt xs m) : ew_Wl C X 4 ((a, b', c, lt, ra, xs), m) 523 [(0, .ref b), (1, .ref (X.2.1 46)), (2, .ref (X.2.1 50)), (3, .int (nI i))] [] := by
  obtain ⟨Z, hX, hbl, hbA, hN⟩ := hZ
  refine ey_aload_n (pc := 523) Z dL_law_523 1 rfl rfl ?_
  refine ey_aload_n (pc := 524) Z dL_law_524 0 rfl rfl ?_
  refine ey_iload_n (pc := 525) Z dL_law_525 3 rfl rfl ?_
  refine ey_iconst (pc := 526) Z dL_law_526 ec_1 ?_
  refine ey_iadd (pc := 527) Z dL_law_527 ?_
  rw [pl_1 i]
  refine ey_iald (pc := 528) (i := i + 1) Z hX hbl hbA (by omega) (by omega) dL_law_528 ?_
  refine ey_callVi (pc := 529) (r := 46) (As := [.int (scr (i + 1))]) (st := []) Z (kX4_weeks Z.2.2.2.2.2.2.2.2.2.1 (E := fun q1 q2 q3 q4 q5 q6 => ((q1, q2, q3, q4, q5, q6), m)) (fun _ _ _ _ _ => ew_geT0) (fun _ _ _ _ _ => ew_geT1) (fun _ _ _ _ _ => ew_geT2) (fun _ _ _ _ _ => ew_geL) (fun _ _ _ _ _ => ew_geR) (fun _ _ _ _ _ => ew_geX) (s_weeks hR (scr (i + 1)))) gL_law_X4_weeks rfl rfl rfl hdX4_weeks rfl rfl rfl rfl (by decide) (ew_oX0 ew_geX _) rfl rfl rfl rfl dL_law_529 (fun r1 u1 h1 => ?_)
  refine ey_aload_n (pc := 532) Z dL_law_532 2 rfl rfl ?_
  refine ey_aload_n (pc := 533) Z dL_law_533 0 rfl rfl ?_
  refine ey_iload_n (pc := 534) Z dL_law_534 3 rfl rfl ?_
  refine ey_iconst (pc := 535) Z dL_law_535 ec_1 ?_
  refine ey_iadd (pc := 536) Z dL_law_536 ?_
  rw [pl_1 i]
  refine ey_iald (pc := 537) (i := i + 1) Z hX hbl hbA (by omega) (by omega) dL_law_537 ?_
  refine ey_callVi (pc := 538) (r := 50) (As := [.int (scr (i + 1))]) (st := [.int r1]) Z (kX5_weeks Z.2.2.2.2.2.2.2.2.2.1 (E := fun q => ((u1.1, b', c, lt, ra, u1.2), q)) ew_geM h1) gL_law_X5_weeks rfl rfl rfl hdX5_weeks rfl rfl rfl rfl (by decide) (ew_oM (E := fun q => ((u1.1, b', c, lt, ra, u1.2), q)) ew_geM m) rfl rfl rfl rfl dL_law_538 (fun r2 u2 h2 => ?_)
  exact ey_icmp_eq (pc := 541) (tgt := 1092) Z dL_law_541 (by decide) (fun _ => K _ _ _ _ _ _ _ h2.2) (fun q => absurd h2.1 q)
set_option maxHeartbeats 4000000 in
set_option maxRecDepth 100000 in
theorem lc_12 (hZ : lw_Zs C X b N scr) (hi : i + 5 ≤ N) (K : lw_K C X b i) (hR : Rel a c lt xs m) : ew_Wl C X 4 ((a, b', c, lt, ra, xs), m) 546 [(0, .ref b), (1, .ref (X.2.1 46)), (2, .ref (X.2.1 50)), (3, .int (nI i))] [] := by
  obtain ⟨Z, hX, hbl, hbA, hN⟩ := hZ
  refine ey_aload_n (pc := 546) Z dL_law_546 1 rfl rfl ?_
  refine ey_aload_n (pc := 547) Z dL_law_547 0 rfl rfl ?_
  refine ey_iload_n (pc := 548) Z dL_law_548 3 rfl rfl ?_
  refine ey_iconst (pc := 549) Z dL_law_549 ec_1 ?_
  refine ey_iadd (pc := 550) Z dL_law_550 ?_
  rw [pl_1 i]
  refine ey_iald (pc := 551) (i := i + 1) Z hX hbl hbA (by omega) (by omega) dL_law_551 ?_
  refine ey_callVi (pc := 552) (r := 46) (As := [.int (scr (i + 1))]) (st := []) Z (kX4_had Z.2.2.2.2.2.2.2.2.2.1 (E := fun q1 q2 q3 q4 q5 q6 => ((q1, q2, q3, q4, q5, q6), m)) (fun _ _ _ _ _ => ew_geT0) (fun _ _ _ _ _ => ew_geT1) (fun _ _ _ _ _ => ew_geT2) (fun _ _ _ _ _ => ew_geL) (fun _ _ _ _ _ => ew_geR) (fun _ _ _ _ _ => ew_geX) (s_had hR (scr (i + 1)))) gL_law_X4_had rfl rfl rfl hdX4_had rfl rfl rfl rfl (by decide) (ew_oX0 ew_geX _) rfl rfl rfl rfl dL_law_552 (fun r1 u1 h1 => ?_)
  refine ey_aload_n (pc := 555) Z dL_law_555 2 rfl rfl ?_
  refine ey_aload_n (pc := 556) Z dL_law_556 0 rfl rfl ?_
  refine ey_iload_n (pc := 557) Z dL_law_557 3 rfl rfl ?_
  refine ey_iconst (pc := 558) Z dL_law_558 ec_1 ?_
  refine ey_iadd (pc := 559) Z dL_law_559 ?_
  rw [pl_1 i]
  refine ey_iald (pc := 560) (i := i + 1) Z hX hbl hbA (by omega) (by omega) dL_law_560 ?_
  refine ey_callVi (pc := 561) (r := 50) (As := [.int (scr (i + 1))]) (st := [.int r1]) Z (kX5_had Z.2.2.2.2.2.2.2.2.2.1 (E := fun q => ((a, b', c, lt, ra, u1), q)) ew_geM h1) gL_law_X5_had rfl rfl rfl hdX5_had rfl rfl rfl rfl (by decide) (ew_oM (E := fun q => ((a, b', c, lt, ra, u1), q)) ew_geM m) rfl rfl rfl rfl dL_law_561 (fun r2 u2 h2 => ?_)
  exact ey_icmp_eq (pc := 564) (tgt := 1092) Z dL_law_564 (by decide) (fun _ => K _ _ _ _ _ _ _ h2.2) (fun q => absurd h2.1 q)
set_option maxHeartbeats 4000000 in
set_option maxRecDepth 100000 in
theorem lc_13 (hZ : lw_Zs C X b N scr) (hi : i + 5 ≤ N) (K : lw_K C X b i) (hR : Rel a c lt xs m) : ew_Wl C X 4 ((a, b', c, lt, ra, xs), m) 569 [(0, .ref b), (1, .ref (X.2.1 46)), (2, .ref (X.2.1 50)), (3, .int (nI i))] [] := by
  obtain ⟨Z, hX, hbl, hbA, hN⟩ := hZ
  refine ey_aload_n (pc := 569) Z dL_law_569 1 rfl rfl ?_
  refine ey_aload_n (pc := 570) Z dL_law_570 0 rfl rfl ?_
  refine ey_iload_n (pc := 571) Z dL_law_571 3 rfl rfl ?_
  refine ey_iconst (pc := 572) Z dL_law_572 ec_1 ?_
  refine ey_iadd (pc := 573) Z dL_law_573 ?_
  rw [pl_1 i]
  refine ey_iald (pc := 574) (i := i + 1) Z hX hbl hbA (by omega) (by omega) dL_law_574 ?_
  refine ey_callVi (pc := 575) (r := 46) (As := [.int (scr (i + 1))]) (st := []) Z (kX4_liars Z.2.2.2.2.2.2.2.2.2.1 (E := fun q1 q2 q3 q4 q5 q6 => ((q1, q2, q3, q4, q5, q6), m)) (fun _ _ _ _ _ => ew_geT0) (fun _ _ _ _ _ => ew_geT1) (fun _ _ _ _ _ => ew_geT2) (fun _ _ _ _ _ => ew_geL) (fun _ _ _ _ _ => ew_geR) (fun _ _ _ _ _ => ew_geX) (s_liars hR (scr (i + 1)))) gL_law_X4_liars rfl rfl rfl hdX4_liars rfl rfl rfl rfl (by decide) (ew_oX0 ew_geX _) rfl rfl rfl rfl dL_law_575 (fun r1 u1 h1 => ?_)
  refine ey_aload_n (pc := 578) Z dL_law_578 2 rfl rfl ?_
  refine ey_aload_n (pc := 579) Z dL_law_579 0 rfl rfl ?_
  refine ey_iload_n (pc := 580) Z dL_law_580 3 rfl rfl ?_
  refine ey_iconst (pc := 581) Z dL_law_581 ec_1 ?_
  refine ey_iadd (pc := 582) Z dL_law_582 ?_
  rw [pl_1 i]
  refine ey_iald (pc := 583) (i := i + 1) Z hX hbl hbA (by omega) (by omega) dL_law_583 ?_
  refine ey_callVi (pc := 584) (r := 50) (As := [.int (scr (i + 1))]) (st := [.int r1]) Z (kX5_liars Z.2.2.2.2.2.2.2.2.2.1 (E := fun q => ((a, b', c, lt, ra, u1), q)) ew_geM h1) gL_law_X5_liars rfl rfl rfl hdX5_liars rfl rfl rfl rfl (by decide) (ew_oM (E := fun q => ((a, b', c, lt, ra, u1), q)) ew_geM m) rfl rfl rfl rfl dL_law_584 (fun r2 u2 h2 => ?_)
  exact ey_icmp_eq (pc := 587) (tgt := 1092) Z dL_law_587 (by decide) (fun _ => K _ _ _ _ _ _ _ h2.2) (fun q => absurd h2.1 q)
set_option maxHeartbeats 4000000 in
set_option maxRecDepth 100000 in
theorem lc_14 (hZ : lw_Zs C X b N scr) (hi : i + 5 ≤ N) (K : lw_K C X b i) (hR : Rel a c lt xs m) : ew_Wl C X 4 ((a, b', c, lt, ra, xs), m) 592 [(0, .ref b), (1, .ref (X.2.1 46)), (2, .ref (X.2.1 50)), (3, .int (nI i))] [] := by
  obtain ⟨Z, hX, hbl, hbA, hN⟩ := hZ
  refine ey_aload_n (pc := 592) Z dL_law_592 1 rfl rfl ?_
  refine ey_aload_n (pc := 593) Z dL_law_593 0 rfl rfl ?_
  refine ey_iload_n (pc := 594) Z dL_law_594 3 rfl rfl ?_
  refine ey_iconst (pc := 595) Z dL_law_595 ec_1 ?_
  refine ey_iadd (pc := 596) Z dL_law_596 ?_
  rw [pl_1 i]
  refine ey_iald (pc := 597) (i := i + 1) Z hX hbl hbA (by omega) (by omega) dL_law_597 ?_
  refine ey_aload_n (pc := 598) Z dL_law_598 0 rfl rfl ?_
  refine ey_iload_n (pc := 599) Z dL_law_599 3 rfl rfl ?_
  refine ey_iconst (pc := 600) Z dL_law_600 ec_2 ?_
  refine ey_iadd (pc := 601) Z dL_law_601 ?_
  rw [pl_2 i]
  refine ey_iald (pc := 602) (i := i + 2) Z hX hbl hbA (by omega) (by omega) dL_law_602 ?_
  refine ey_aload_n (pc := 603) Z dL_law_603 0 rfl rfl ?_
  refine ey_iload_n (pc := 604) Z dL_law_604 3 rfl rfl ?_
  refine ey_iconst (pc := 605) Z dL_law_605 ec_3 ?_
  refine ey_iadd (pc := 606) Z dL_law_606 ?_
  rw [pl_3 i]
  refine ey_iald (pc := 607) (i := i + 3) Z hX hbl hbA (by omega) (by omega) dL_law_607 ?_
  refine ey_callVi (pc := 608) (r := 46) (As := [.int (scr (i + 1)), .int (scr (i + 2)), .int (scr (i + 3))]) (st := []) Z (kX4_when Z.2.2.2.2.2.2.2.2.2.1 (E := fun q1 q2 q3 q4 q5 q6 => ((q1, q2, q3, q4, q5, q6), m)) (fun _ _ _ _ _ => ew_geT0) (fun _ _ _ _ _ => ew_geT1) (fun _ _ _ _ _ => ew_geT2) (fun _ _ _ _ _ => ew_geL) (fun _ _ _ _ _ => ew_geR) (fun _ _ _ _ _ => ew_geX) (s_when hR (scr (i + 1)) (scr (i + 2)) (scr (i + 3)))) gL_law_X4_when rfl rfl rfl hdX4_when rfl rfl rfl rfl (by decide) (ew_oX0 ew_geX _) rfl rfl rfl rfl dL_law_608 (fun r1 u1 h1 => ?_)
  refine ey_aload_n (pc := 611) Z dL_law_611 2 rfl rfl ?_
  refine ey_aload_n (pc := 612) Z dL_law_612 0 rfl rfl ?_
  refine ey_iload_n (pc := 613) Z dL_law_613 3 rfl rfl ?_
  refine ey_iconst (pc := 614) Z dL_law_614 ec_1 ?_
  refine ey_iadd (pc := 615) Z dL_law_615 ?_
  rw [pl_1 i]
  refine ey_iald (pc := 616) (i := i + 1) Z hX hbl hbA (by omega) (by omega) dL_law_616 ?_
  refine ey_aload_n (pc := 617) Z dL_law_617 0 rfl rfl ?_
  refine ey_iload_n (pc := 618) Z dL_law_618 3 rfl rfl ?_
  refine ey_iconst (pc := 619) Z dL_law_619 ec_2 ?_
  refine ey_iadd (pc := 620) Z dL_law_620 ?_
  rw [pl_2 i]
  refine ey_iald (pc := 621) (i := i + 2) Z hX hbl hbA (by omega) (by omega) dL_law_621 ?_
  refine ey_aload_n (pc := 622) Z dL_law_622 0 rfl rfl ?_
  refine ey_iload_n (pc := 623) Z dL_law_623 3 rfl rfl ?_
  refine ey_iconst (pc := 624) Z dL_law_624 ec_3 ?_
  refine ey_iadd (pc := 625) Z dL_law_625 ?_
  rw [pl_3 i]
  refine ey_iald (pc := 626) (i := i + 3) Z hX hbl hbA (by omega) (by omega) dL_law_626 ?_
  refine ey_callVi (pc := 627) (r := 50) (As := [.int (scr (i + 1)), .int (scr (i + 2)), .int (scr (i + 3))]) (st := [.int r1]) Z (kX5_when Z.2.2.2.2.2.2.2.2.2.1 (E := fun q => ((a, u1.1, c, lt, ra, u1.2), q)) ew_geM h1) gL_law_X5_when rfl rfl rfl hdX5_when rfl rfl rfl rfl (by decide) (ew_oM (E := fun q => ((a, u1.1, c, lt, ra, u1.2), q)) ew_geM m) rfl rfl rfl rfl dL_law_627 (fun r2 u2 h2 => ?_)
  exact ey_icmp_eq (pc := 630) (tgt := 1092) Z dL_law_630 (by decide) (fun _ => K _ _ _ _ _ _ _ h2.2) (fun q => absurd h2.1 q)
set_option maxHeartbeats 4000000 in
set_option maxRecDepth 100000 in
theorem lc_15 (hZ : lw_Zs C X b N scr) (hi : i + 5 ≤ N) (K : lw_K C X b i) (hR : Rel a c lt xs m) : ew_Wl C X 4 ((a, b', c, lt, ra, xs), m) 635 [(0, .ref b), (1, .ref (X.2.1 46)), (2, .ref (X.2.1 50)), (3, .int (nI i))] [] := by
  obtain ⟨Z, hX, hbl, hbA, hN⟩ := hZ
  refine ey_aload_n (pc := 635) Z dL_law_635 1 rfl rfl ?_
  refine ey_aload_n (pc := 636) Z dL_law_636 0 rfl rfl ?_
  refine ey_iload_n (pc := 637) Z dL_law_637 3 rfl rfl ?_
  refine ey_iconst (pc := 638) Z dL_law_638 ec_1 ?_
  refine ey_iadd (pc := 639) Z dL_law_639 ?_
  rw [pl_1 i]
  refine ey_iald (pc := 640) (i := i + 1) Z hX hbl hbA (by omega) (by omega) dL_law_640 ?_
  refine ey_aload_n (pc := 641) Z dL_law_641 0 rfl rfl ?_
  refine ey_iload_n (pc := 642) Z dL_law_642 3 rfl rfl ?_
  refine ey_iconst (pc := 643) Z dL_law_643 ec_2 ?_
  refine ey_iadd (pc := 644) Z dL_law_644 ?_
  rw [pl_2 i]
  refine ey_iald (pc := 645) (i := i + 2) Z hX hbl hbA (by omega) (by omega) dL_law_645 ?_
  refine ey_aload_n (pc := 646) Z dL_law_646 0 rfl rfl ?_
  refine ey_iload_n (pc := 647) Z dL_law_647 3 rfl rfl ?_
  refine ey_iconst (pc := 648) Z dL_law_648 ec_3 ?_
  refine ey_iadd (pc := 649) Z dL_law_649 ?_
  rw [pl_3 i]
  refine ey_iald (pc := 650) (i := i + 3) Z hX hbl hbA (by omega) (by omega) dL_law_650 ?_
  refine ey_aload_n (pc := 651) Z dL_law_651 0 rfl rfl ?_
  refine ey_iload_n (pc := 652) Z dL_law_652 3 rfl rfl ?_
  refine ey_iconst (pc := 653) Z dL_law_653 ec_4 ?_
  refine ey_iadd (pc := 654) Z dL_law_654 ?_
  rw [pl_4 i]
  refine ey_iald (pc := 655) (i := i + 4) Z hX hbl hbA (by omega) (by omega) dL_law_655 ?_
  refine ey_callVl (pc := 656) (r := 46) (As := [.int (scr (i + 1)), .int (scr (i + 2)), .int (scr (i + 3)), .int (scr (i + 4))]) (st := []) Z (kX4_mean Z.2.2.2.2.2.2.2.2.2.1 (E := fun q1 q2 q3 q4 q5 q6 => ((q1, q2, q3, q4, q5, q6), m)) (fun _ _ _ _ _ => ew_geT0) (fun _ _ _ _ _ => ew_geT1) (fun _ _ _ _ _ => ew_geT2) (fun _ _ _ _ _ => ew_geL) (fun _ _ _ _ _ => ew_geR) (fun _ _ _ _ _ => ew_geX) (s_mean hR (scr (i + 1)) (scr (i + 2)) (scr (i + 3)) (scr (i + 4)))) gL_law_X4_mean rfl rfl rfl hdX4_mean rfl rfl rfl rfl (by decide) (ew_oX0 ew_geX _) rfl rfl rfl rfl dL_law_656 (fun r1 u1 h1 => ?_)
  refine ey_aload_n (pc := 659) Z dL_law_659 2 rfl rfl ?_
  refine ey_aload_n (pc := 660) Z dL_law_660 0 rfl rfl ?_
  refine ey_iload_n (pc := 661) Z dL_law_661 3 rfl rfl ?_
  refine ey_iconst (pc := 662) Z dL_law_662 ec_1 ?_
  refine ey_iadd (pc := 663) Z dL_law_663 ?_
  rw [pl_1 i]
  refine ey_iald (pc := 664) (i := i + 1) Z hX hbl hbA (by omega) (by omega) dL_law_664 ?_
  refine ey_aload_n (pc := 665) Z dL_law_665 0 rfl rfl ?_
  refine ey_iload_n (pc := 666) Z dL_law_666 3 rfl rfl ?_
  refine ey_iconst (pc := 667) Z dL_law_667 ec_2 ?_
  refine ey_iadd (pc := 668) Z dL_law_668 ?_
  rw [pl_2 i]
  refine ey_iald (pc := 669) (i := i + 2) Z hX hbl hbA (by omega) (by omega) dL_law_669 ?_
  refine ey_aload_n (pc := 670) Z dL_law_670 0 rfl rfl ?_
  refine ey_iload_n (pc := 671) Z dL_law_671 3 rfl rfl ?_
  refine ey_iconst (pc := 672) Z dL_law_672 ec_3 ?_
  refine ey_iadd (pc := 673) Z dL_law_673 ?_
  rw [pl_3 i]
  refine ey_iald (pc := 674) (i := i + 3) Z hX hbl hbA (by omega) (by omega) dL_law_674 ?_
  refine ey_aload_n (pc := 675) Z dL_law_675 0 rfl rfl ?_
  refine ey_iload_n (pc := 676) Z dL_law_676 3 rfl rfl ?_
  refine ey_iconst (pc := 677) Z dL_law_677 ec_4 ?_
  refine ey_iadd (pc := 678) Z dL_law_678 ?_
  rw [pl_4 i]
  refine ey_iald (pc := 679) (i := i + 4) Z hX hbl hbA (by omega) (by omega) dL_law_679 ?_
  refine ey_callVl (pc := 680) (r := 50) (As := [.int (scr (i + 1)), .int (scr (i + 2)), .int (scr (i + 3)), .int (scr (i + 4))]) (st := [.long r1]) Z (kX5_mean Z.2.2.2.2.2.2.2.2.2.1 (E := fun q => ((a, u1.1, c, lt, u1.2.1, u1.2.2), q)) ew_geM h1) gL_law_X5_mean rfl rfl rfl hdX5_mean rfl rfl rfl rfl (by decide) (ew_oM (E := fun q => ((a, u1.1, c, lt, u1.2.1, u1.2.2), q)) ew_geM m) rfl rfl rfl rfl dL_law_680 (fun r2 u2 h2 => ?_)
  refine ey_lcmp (pc := 683) Z dL_law_683 ?_
  exact ey_if_eq (pc := 684) (tgt := 1092) Z dL_law_684 (by decide) (fun _ => K _ _ _ _ _ _ _ h2.2) (fun q => absurd ((lg_cmp_eq _ _).mpr h2.1) q)
set_option maxHeartbeats 4000000 in
set_option maxRecDepth 100000 in
theorem lc_16 (hZ : lw_Zs C X b N scr) (hi : i + 5 ≤ N) (K : lw_K C X b i) (hR : Rel a c lt xs m) : ew_Wl C X 4 ((a, b', c, lt, ra, xs), m) 689 [(0, .ref b), (1, .ref (X.2.1 46)), (2, .ref (X.2.1 50)), (3, .int (nI i))] [] := by
  obtain ⟨Z, hX, hbl, hbA, hN⟩ := hZ
  refine ey_aload_n (pc := 689) Z dL_law_689 1 rfl rfl ?_
  refine ey_aload_n (pc := 690) Z dL_law_690 0 rfl rfl ?_
  refine ey_iload_n (pc := 691) Z dL_law_691 3 rfl rfl ?_
  refine ey_iconst (pc := 692) Z dL_law_692 ec_1 ?_
  refine ey_iadd (pc := 693) Z dL_law_693 ?_
  rw [pl_1 i]
  refine ey_iald (pc := 694) (i := i + 1) Z hX hbl hbA (by omega) (by omega) dL_law_694 ?_
  refine ey_callVi (pc := 695) (r := 46) (As := [.int (scr (i + 1))]) (st := []) Z (kX4_rests Z.2.2.2.2.2.2.2.2.2.1 (E := fun q1 q2 q3 q4 q5 q6 => ((q1, q2, q3, q4, q5, q6), m)) (fun _ _ _ _ _ => ew_geT0) (fun _ _ _ _ _ => ew_geT1) (fun _ _ _ _ _ => ew_geT2) (fun _ _ _ _ _ => ew_geL) (fun _ _ _ _ _ => ew_geR) (fun _ _ _ _ _ => ew_geX) (s_rests hR (scr (i + 1)))) gL_law_X4_rests rfl rfl rfl hdX4_rests rfl rfl rfl rfl (by decide) (ew_oX0 ew_geX _) rfl rfl rfl rfl dL_law_695 (fun r1 u1 h1 => ?_)
  refine ey_aload_n (pc := 698) Z dL_law_698 2 rfl rfl ?_
  refine ey_aload_n (pc := 699) Z dL_law_699 0 rfl rfl ?_
  refine ey_iload_n (pc := 700) Z dL_law_700 3 rfl rfl ?_
  refine ey_iconst (pc := 701) Z dL_law_701 ec_1 ?_
  refine ey_iadd (pc := 702) Z dL_law_702 ?_
  rw [pl_1 i]
  refine ey_iald (pc := 703) (i := i + 1) Z hX hbl hbA (by omega) (by omega) dL_law_703 ?_
  refine ey_callVi (pc := 704) (r := 50) (As := [.int (scr (i + 1))]) (st := [.int r1]) Z (kX5_rests Z.2.2.2.2.2.2.2.2.2.1 (E := fun q => ((a, b', c, lt, ra, u1), q)) ew_geM h1) gL_law_X5_rests rfl rfl rfl hdX5_rests rfl rfl rfl rfl (by decide) (ew_oM (E := fun q => ((a, b', c, lt, ra, u1), q)) ew_geM m) rfl rfl rfl rfl dL_law_704 (fun r2 u2 h2 => ?_)
  exact ey_icmp_eq (pc := 707) (tgt := 1092) Z dL_law_707 (by decide) (fun _ => K _ _ _ _ _ _ _ h2.2) (fun q => absurd h2.1 q)
set_option maxHeartbeats 4000000 in
set_option maxRecDepth 100000 in
theorem lc_17 (hZ : lw_Zs C X b N scr) (hi : i + 5 ≤ N) (K : lw_K C X b i) (hR : Rel a c lt xs m) : ew_Wl C X 4 ((a, b', c, lt, ra, xs), m) 712 [(0, .ref b), (1, .ref (X.2.1 46)), (2, .ref (X.2.1 50)), (3, .int (nI i))] [] := by
  obtain ⟨Z, hX, hbl, hbA, hN⟩ := hZ
  refine ey_aload_n (pc := 712) Z dL_law_712 1 rfl rfl ?_
  refine ey_aload_n (pc := 713) Z dL_law_713 0 rfl rfl ?_
  refine ey_iload_n (pc := 714) Z dL_law_714 3 rfl rfl ?_
  refine ey_iconst (pc := 715) Z dL_law_715 ec_1 ?_
  refine ey_iadd (pc := 716) Z dL_law_716 ?_
  rw [pl_1 i]
  refine ey_iald (pc := 717) (i := i + 1) Z hX hbl hbA (by omega) (by omega) dL_law_717 ?_
  refine ey_callVi (pc := 718) (r := 46) (As := [.int (scr (i + 1))]) (st := []) Z (kX4_rest Z.2.2.2.2.2.2.2.2.2.1 (E := fun q1 q2 q3 q4 q5 q6 => ((q1, q2, q3, q4, q5, q6), m)) (fun _ _ _ _ _ => ew_geT0) (fun _ _ _ _ _ => ew_geT1) (fun _ _ _ _ _ => ew_geT2) (fun _ _ _ _ _ => ew_geL) (fun _ _ _ _ _ => ew_geR) (fun _ _ _ _ _ => ew_geX) (s_rest hR (scr (i + 1)))) gL_law_X4_rest rfl rfl rfl hdX4_rest rfl rfl rfl rfl (by decide) (ew_oX0 ew_geX _) rfl rfl rfl rfl dL_law_718 (fun r1 u1 h1 => ?_)
  refine ey_aload_n (pc := 721) Z dL_law_721 2 rfl rfl ?_
  refine ey_aload_n (pc := 722) Z dL_law_722 0 rfl rfl ?_
  refine ey_iload_n (pc := 723) Z dL_law_723 3 rfl rfl ?_
  refine ey_iconst (pc := 724) Z dL_law_724 ec_1 ?_
  refine ey_iadd (pc := 725) Z dL_law_725 ?_
  rw [pl_1 i]
  refine ey_iald (pc := 726) (i := i + 1) Z hX hbl hbA (by omega) (by omega) dL_law_726 ?_
  refine ey_callVi (pc := 727) (r := 50) (As := [.int (scr (i + 1))]) (st := [.int r1]) Z (kX5_rest Z.2.2.2.2.2.2.2.2.2.1 (E := fun q => ((a, b', c, lt, ra, u1), q)) ew_geM h1) gL_law_X5_rest rfl rfl rfl hdX5_rest rfl rfl rfl rfl (by decide) (ew_oM (E := fun q => ((a, b', c, lt, ra, u1), q)) ew_geM m) rfl rfl rfl rfl dL_law_727 (fun r2 u2 h2 => ?_)
  exact ey_icmp_eq (pc := 730) (tgt := 1092) Z dL_law_730 (by decide) (fun _ => K _ _ _ _ _ _ _ h2.2) (fun q => absurd h2.1 q)
set_option maxHeartbeats 4000000 in
set_option maxRecDepth 100000 in
theorem lc_18 (hZ : lw_Zs C X b N scr) (hi : i + 5 ≤ N) (K : lw_K C X b i) (hR : Rel a c lt xs m) : ew_Wl C X 4 ((a, b', c, lt, ra, xs), m) 735 [(0, .ref b), (1, .ref (X.2.1 46)), (2, .ref (X.2.1 50)), (3, .int (nI i))] [] := by
  obtain ⟨Z, hX, hbl, hbA, hN⟩ := hZ
  refine ey_aload_n (pc := 735) Z dL_law_735 1 rfl rfl ?_
  refine ey_aload_n (pc := 736) Z dL_law_736 0 rfl rfl ?_
  refine ey_iload_n (pc := 737) Z dL_law_737 3 rfl rfl ?_
  refine ey_iconst (pc := 738) Z dL_law_738 ec_1 ?_
  refine ey_iadd (pc := 739) Z dL_law_739 ?_
  rw [pl_1 i]
  refine ey_iald (pc := 740) (i := i + 1) Z hX hbl hbA (by omega) (by omega) dL_law_740 ?_
  refine ey_callVi (pc := 741) (r := 46) (As := [.int (scr (i + 1))]) (st := []) Z (kX4_ends Z.2.2.2.2.2.2.2.2.2.1 (E := fun q1 q2 q3 q4 q5 q6 => ((q1, q2, q3, q4, q5, q6), m)) (fun _ _ _ _ _ => ew_geT0) (fun _ _ _ _ _ => ew_geT1) (fun _ _ _ _ _ => ew_geT2) (fun _ _ _ _ _ => ew_geL) (fun _ _ _ _ _ => ew_geR) (fun _ _ _ _ _ => ew_geX) (s_ends hR (scr (i + 1)))) gL_law_X4_ends rfl rfl rfl hdX4_ends rfl rfl rfl rfl (by decide) (ew_oX0 ew_geX _) rfl rfl rfl rfl dL_law_741 (fun r1 u1 h1 => ?_)
  refine ey_aload_n (pc := 744) Z dL_law_744 2 rfl rfl ?_
  refine ey_aload_n (pc := 745) Z dL_law_745 0 rfl rfl ?_
  refine ey_iload_n (pc := 746) Z dL_law_746 3 rfl rfl ?_
  refine ey_iconst (pc := 747) Z dL_law_747 ec_1 ?_
  refine ey_iadd (pc := 748) Z dL_law_748 ?_
  rw [pl_1 i]
  refine ey_iald (pc := 749) (i := i + 1) Z hX hbl hbA (by omega) (by omega) dL_law_749 ?_
  refine ey_callVi (pc := 750) (r := 50) (As := [.int (scr (i + 1))]) (st := [.int r1]) Z (kX5_ends Z.2.2.2.2.2.2.2.2.2.1 (E := fun q => ((a, b', c, lt, ra, u1), q)) ew_geM h1) gL_law_X5_ends rfl rfl rfl hdX5_ends rfl rfl rfl rfl (by decide) (ew_oM (E := fun q => ((a, b', c, lt, ra, u1), q)) ew_geM m) rfl rfl rfl rfl dL_law_750 (fun r2 u2 h2 => ?_)
  exact ey_icmp_eq (pc := 753) (tgt := 1092) Z dL_law_753 (by decide) (fun _ => K _ _ _ _ _ _ _ h2.2) (fun q => absurd h2.1 q)
set_option maxHeartbeats 4000000 in
set_option maxRecDepth 100000 in
theorem lc_19 (hZ : lw_Zs C X b N scr) (hi : i + 5 ≤ N) (K : lw_K C X b i) (hR : Rel a c lt xs m) : ew_Wl C X 4 ((a, b', c, lt, ra, xs), m) 758 [(0, .ref b), (1, .ref (X.2.1 46)), (2, .ref (X.2.1 50)), (3, .int (nI i))] [] := by
  obtain ⟨Z, hX, hbl, hbA, hN⟩ := hZ
  refine ey_aload_n (pc := 758) Z dL_law_758 1 rfl rfl ?_
  refine ey_aload_n (pc := 759) Z dL_law_759 0 rfl rfl ?_
  refine ey_iload_n (pc := 760) Z dL_law_760 3 rfl rfl ?_
  refine ey_iconst (pc := 761) Z dL_law_761 ec_1 ?_
  refine ey_iadd (pc := 762) Z dL_law_762 ?_
  rw [pl_1 i]
  refine ey_iald (pc := 763) (i := i + 1) Z hX hbl hbA (by omega) (by omega) dL_law_763 ?_
  refine ey_aload_n (pc := 764) Z dL_law_764 0 rfl rfl ?_
  refine ey_iload_n (pc := 765) Z dL_law_765 3 rfl rfl ?_
  refine ey_iconst (pc := 766) Z dL_law_766 ec_2 ?_
  refine ey_iadd (pc := 767) Z dL_law_767 ?_
  rw [pl_2 i]
  refine ey_iald (pc := 768) (i := i + 2) Z hX hbl hbA (by omega) (by omega) dL_law_768 ?_
  refine ey_aload_n (pc := 769) Z dL_law_769 0 rfl rfl ?_
  refine ey_iload_n (pc := 770) Z dL_law_770 3 rfl rfl ?_
  refine ey_iconst (pc := 771) Z dL_law_771 ec_3 ?_
  refine ey_iadd (pc := 772) Z dL_law_772 ?_
  rw [pl_3 i]
  refine ey_iald (pc := 773) (i := i + 3) Z hX hbl hbA (by omega) (by omega) dL_law_773 ?_
  refine ey_callVi (pc := 774) (r := 46) (As := [.int (scr (i + 1)), .int (scr (i + 2)), .int (scr (i + 3))]) (st := []) Z (kX4_asks Z.2.2.2.2.2.2.2.2.2.1 (E := fun q1 q2 q3 q4 q5 q6 => ((q1, q2, q3, q4, q5, q6), m)) (fun _ _ _ _ _ => ew_geT0) (fun _ _ _ _ _ => ew_geT1) (fun _ _ _ _ _ => ew_geT2) (fun _ _ _ _ _ => ew_geL) (fun _ _ _ _ _ => ew_geR) (fun _ _ _ _ _ => ew_geX) (s_asks hR (scr (i + 1)) (scr (i + 2)) (scr (i + 3)))) gL_law_X4_asks rfl rfl rfl hdX4_asks rfl rfl rfl rfl (by decide) (ew_oX0 ew_geX _) rfl rfl rfl rfl dL_law_774 (fun r1 u1 h1 => ?_)
  refine ey_aload_n (pc := 777) Z dL_law_777 2 rfl rfl ?_
  refine ey_aload_n (pc := 778) Z dL_law_778 0 rfl rfl ?_
  refine ey_iload_n (pc := 779) Z dL_law_779 3 rfl rfl ?_
  refine ey_iconst (pc := 780) Z dL_law_780 ec_1 ?_
  refine ey_iadd (pc := 781) Z dL_law_781 ?_
  rw [pl_1 i]
  refine ey_iald (pc := 782) (i := i + 1) Z hX hbl hbA (by omega) (by omega) dL_law_782 ?_
  refine ey_aload_n (pc := 783) Z dL_law_783 0 rfl rfl ?_
  refine ey_iload_n (pc := 784) Z dL_law_784 3 rfl rfl ?_
  refine ey_iconst (pc := 785) Z dL_law_785 ec_2 ?_
  refine ey_iadd (pc := 786) Z dL_law_786 ?_
  rw [pl_2 i]
  refine ey_iald (pc := 787) (i := i + 2) Z hX hbl hbA (by omega) (by omega) dL_law_787 ?_
  refine ey_aload_n (pc := 788) Z dL_law_788 0 rfl rfl ?_
  refine ey_iload_n (pc := 789) Z dL_law_789 3 rfl rfl ?_
  refine ey_iconst (pc := 790) Z dL_law_790 ec_3 ?_
  refine ey_iadd (pc := 791) Z dL_law_791 ?_
  rw [pl_3 i]
  refine ey_iald (pc := 792) (i := i + 3) Z hX hbl hbA (by omega) (by omega) dL_law_792 ?_
  refine ey_callVi (pc := 793) (r := 50) (As := [.int (scr (i + 1)), .int (scr (i + 2)), .int (scr (i + 3))]) (st := [.int r1]) Z (kX5_asks Z.2.2.2.2.2.2.2.2.2.1 (E := fun q => ((a, b', c, lt, ra, u1), q)) ew_geM h1) gL_law_X5_asks rfl rfl rfl hdX5_asks rfl rfl rfl rfl (by decide) (ew_oM (E := fun q => ((a, b', c, lt, ra, u1), q)) ew_geM m) rfl rfl rfl rfl dL_law_793 (fun r2 u2 h2 => ?_)
  exact ey_icmp_eq (pc := 796) (tgt := 1092) Z dL_law_796 (by decide) (fun _ => K _ _ _ _ _ _ _ h2.2) (fun q => absurd h2.1 q)
set_option maxHeartbeats 4000000 in
set_option maxRecDepth 100000 in
theorem lc_20 (hZ : lw_Zs C X b N scr) (hi : i + 5 ≤ N) (K : lw_K C X b i) (hR : Rel a c lt xs m) : ew_Wl C X 4 ((a, b', c, lt, ra, xs), m) 801 [(0, .ref b), (1, .ref (X.2.1 46)), (2, .ref (X.2.1 50)), (3, .int (nI i))] [] := by
  obtain ⟨Z, hX, hbl, hbA, hN⟩ := hZ
  refine ey_aload_n (pc := 801) Z dL_law_801 1 rfl rfl ?_
  refine ey_aload_n (pc := 802) Z dL_law_802 0 rfl rfl ?_
  refine ey_iload_n (pc := 803) Z dL_law_803 3 rfl rfl ?_
  refine ey_iconst (pc := 804) Z dL_law_804 ec_1 ?_
  refine ey_iadd (pc := 805) Z dL_law_805 ?_
  rw [pl_1 i]
  refine ey_iald (pc := 806) (i := i + 1) Z hX hbl hbA (by omega) (by omega) dL_law_806 ?_
  refine ey_aload_n (pc := 807) Z dL_law_807 0 rfl rfl ?_
  refine ey_iload_n (pc := 808) Z dL_law_808 3 rfl rfl ?_
  refine ey_iconst (pc := 809) Z dL_law_809 ec_2 ?_
  refine ey_iadd (pc := 810) Z dL_law_810 ?_
  rw [pl_2 i]
  refine ey_iald (pc := 811) (i := i + 2) Z hX hbl hbA (by omega) (by omega) dL_law_811 ?_
  refine ey_aload_n (pc := 812) Z dL_law_812 0 rfl rfl ?_
  refine ey_iload_n (pc := 813) Z dL_law_813 3 rfl rfl ?_
  refine ey_iconst (pc := 814) Z dL_law_814 ec_3 ?_
  refine ey_iadd (pc := 815) Z dL_law_815 ?_
  rw [pl_3 i]
  refine ey_iald (pc := 816) (i := i + 3) Z hX hbl hbA (by omega) (by omega) dL_law_816 ?_
  refine ey_callVi (pc := 817) (r := 46) (As := [.int (scr (i + 1)), .int (scr (i + 2)), .int (scr (i + 3))]) (st := []) Z (kX4_power Z.2.2.2.2.2.2.2.2.2.1 (E := fun q1 q2 q3 q4 q5 q6 => ((q1, q2, q3, q4, q5, q6), m)) (fun _ _ _ _ _ => ew_geT0) (fun _ _ _ _ _ => ew_geT1) (fun _ _ _ _ _ => ew_geT2) (fun _ _ _ _ _ => ew_geL) (fun _ _ _ _ _ => ew_geR) (fun _ _ _ _ _ => ew_geX) (s_power hR (scr (i + 1)) (scr (i + 2)) (scr (i + 3)))) gL_law_X4_power rfl rfl rfl hdX4_power rfl rfl rfl rfl (by decide) (ew_oX0 ew_geX _) rfl rfl rfl rfl dL_law_817 (fun r1 u1 h1 => ?_)
  refine ey_aload_n (pc := 820) Z dL_law_820 2 rfl rfl ?_
  refine ey_aload_n (pc := 821) Z dL_law_821 0 rfl rfl ?_
  refine ey_iload_n (pc := 822) Z dL_law_822 3 rfl rfl ?_
  refine ey_iconst (pc := 823) Z dL_law_823 ec_1 ?_
  refine ey_iadd (pc := 824) Z dL_law_824 ?_
  rw [pl_1 i]
  refine ey_iald (pc := 825) (i := i + 1) Z hX hbl hbA (by omega) (by omega) dL_law_825 ?_
  refine ey_aload_n (pc := 826) Z dL_law_826 0 rfl rfl ?_
  refine ey_iload_n (pc := 827) Z dL_law_827 3 rfl rfl ?_
  refine ey_iconst (pc := 828) Z dL_law_828 ec_2 ?_
  refine ey_iadd (pc := 829) Z dL_law_829 ?_
  rw [pl_2 i]
  refine ey_iald (pc := 830) (i := i + 2) Z hX hbl hbA (by omega) (by omega) dL_law_830 ?_
  refine ey_aload_n (pc := 831) Z dL_law_831 0 rfl rfl ?_
  refine ey_iload_n (pc := 832) Z dL_law_832 3 rfl rfl ?_
  refine ey_iconst (pc := 833) Z dL_law_833 ec_3 ?_
  refine ey_iadd (pc := 834) Z dL_law_834 ?_
  rw [pl_3 i]
  refine ey_iald (pc := 835) (i := i + 3) Z hX hbl hbA (by omega) (by omega) dL_law_835 ?_
  refine ey_callVi (pc := 836) (r := 50) (As := [.int (scr (i + 1)), .int (scr (i + 2)), .int (scr (i + 3))]) (st := [.int r1]) Z (kX5_power Z.2.2.2.2.2.2.2.2.2.1 (E := fun q => ((a, b', c, lt, u1.1, u1.2), q)) ew_geM h1) gL_law_X5_power rfl rfl rfl hdX5_power rfl rfl rfl rfl (by decide) (ew_oM (E := fun q => ((a, b', c, lt, u1.1, u1.2), q)) ew_geM m) rfl rfl rfl rfl dL_law_836 (fun r2 u2 h2 => ?_)
  exact ey_icmp_eq (pc := 839) (tgt := 1092) Z dL_law_839 (by decide) (fun _ => K _ _ _ _ _ _ _ h2.2) (fun q => absurd h2.1 q)
set_option maxHeartbeats 4000000 in
set_option maxRecDepth 100000 in
theorem lc_21 (hZ : lw_Zs C X b N scr) (hi : i + 5 ≤ N) (K : lw_K C X b i) (hR : Rel a c lt xs m) : ew_Wl C X 4 ((a, b', c, lt, ra, xs), m) 844 [(0, .ref b), (1, .ref (X.2.1 46)), (2, .ref (X.2.1 50)), (3, .int (nI i))] [] := by
  obtain ⟨Z, hX, hbl, hbA, hN⟩ := hZ
  refine ey_aload_n (pc := 844) Z dL_law_844 1 rfl rfl ?_
  refine ey_aload_n (pc := 845) Z dL_law_845 0 rfl rfl ?_
  refine ey_iload_n (pc := 846) Z dL_law_846 3 rfl rfl ?_
  refine ey_iconst (pc := 847) Z dL_law_847 ec_1 ?_
  refine ey_iadd (pc := 848) Z dL_law_848 ?_
  rw [pl_1 i]
  refine ey_iald (pc := 849) (i := i + 1) Z hX hbl hbA (by omega) (by omega) dL_law_849 ?_
  refine ey_aload_n (pc := 850) Z dL_law_850 0 rfl rfl ?_
  refine ey_iload_n (pc := 851) Z dL_law_851 3 rfl rfl ?_
  refine ey_iconst (pc := 852) Z dL_law_852 ec_2 ?_
  refine ey_iadd (pc := 853) Z dL_law_853 ?_
  rw [pl_2 i]
  refine ey_iald (pc := 854) (i := i + 2) Z hX hbl hbA (by omega) (by omega) dL_law_854 ?_
  refine ey_aload_n (pc := 855) Z dL_law_855 0 rfl rfl ?_
  refine ey_iload_n (pc := 856) Z dL_law_856 3 rfl rfl ?_
  refine ey_iconst (pc := 857) Z dL_law_857 ec_3 ?_
  refine ey_iadd (pc := 858) Z dL_law_858 ?_
  rw [pl_3 i]
  refine ey_iald (pc := 859) (i := i + 3) Z hX hbl hbA (by omega) (by omega) dL_law_859 ?_
  refine ey_aload_n (pc := 860) Z dL_law_860 0 rfl rfl ?_
  refine ey_iload_n (pc := 861) Z dL_law_861 3 rfl rfl ?_
  refine ey_iconst (pc := 862) Z dL_law_862 ec_4 ?_
  refine ey_iadd (pc := 863) Z dL_law_863 ?_
  rw [pl_4 i]
  refine ey_iald (pc := 864) (i := i + 4) Z hX hbl hbA (by omega) (by omega) dL_law_864 ?_
  refine ey_callVl (pc := 865) (r := 46) (As := [.int (scr (i + 1)), .int (scr (i + 2)), .int (scr (i + 3)), .int (scr (i + 4))]) (st := []) Z (kX4_chance Z.2.2.2.2.2.2.2.2.2.1 (E := fun q1 q2 q3 q4 q5 q6 => ((q1, q2, q3, q4, q5, q6), m)) (fun _ _ _ _ _ => ew_geT0) (fun _ _ _ _ _ => ew_geT1) (fun _ _ _ _ _ => ew_geT2) (fun _ _ _ _ _ => ew_geL) (fun _ _ _ _ _ => ew_geR) (fun _ _ _ _ _ => ew_geX) (s_chance hR (scr (i + 1)) (scr (i + 2)) (scr (i + 3)) (scr (i + 4)))) gL_law_X4_chance rfl rfl rfl hdX4_chance rfl rfl rfl rfl (by decide) (ew_oX0 ew_geX _) rfl rfl rfl rfl dL_law_865 (fun r1 u1 h1 => ?_)
  refine ey_aload_n (pc := 868) Z dL_law_868 2 rfl rfl ?_
  refine ey_aload_n (pc := 869) Z dL_law_869 0 rfl rfl ?_
  refine ey_iload_n (pc := 870) Z dL_law_870 3 rfl rfl ?_
  refine ey_iconst (pc := 871) Z dL_law_871 ec_1 ?_
  refine ey_iadd (pc := 872) Z dL_law_872 ?_
  rw [pl_1 i]
  refine ey_iald (pc := 873) (i := i + 1) Z hX hbl hbA (by omega) (by omega) dL_law_873 ?_
  refine ey_aload_n (pc := 874) Z dL_law_874 0 rfl rfl ?_
  refine ey_iload_n (pc := 875) Z dL_law_875 3 rfl rfl ?_
  refine ey_iconst (pc := 876) Z dL_law_876 ec_2 ?_
  refine ey_iadd (pc := 877) Z dL_law_877 ?_
  rw [pl_2 i]
  refine ey_iald (pc := 878) (i := i + 2) Z hX hbl hbA (by omega) (by omega) dL_law_878 ?_
  refine ey_aload_n (pc := 879) Z dL_law_879 0 rfl rfl ?_
  refine ey_iload_n (pc := 880) Z dL_law_880 3 rfl rfl ?_
  refine ey_iconst (pc := 881) Z dL_law_881 ec_3 ?_
  refine ey_iadd (pc := 882) Z dL_law_882 ?_
  rw [pl_3 i]
  refine ey_iald (pc := 883) (i := i + 3) Z hX hbl hbA (by omega) (by omega) dL_law_883 ?_
  refine ey_aload_n (pc := 884) Z dL_law_884 0 rfl rfl ?_
  refine ey_iload_n (pc := 885) Z dL_law_885 3 rfl rfl ?_
  refine ey_iconst (pc := 886) Z dL_law_886 ec_4 ?_
  refine ey_iadd (pc := 887) Z dL_law_887 ?_
  rw [pl_4 i]
  refine ey_iald (pc := 888) (i := i + 4) Z hX hbl hbA (by omega) (by omega) dL_law_888 ?_
  refine ey_callVl (pc := 889) (r := 50) (As := [.int (scr (i + 1)), .int (scr (i + 2)), .int (scr (i + 3)), .int (scr (i + 4))]) (st := [.long r1]) Z (kX5_chance Z.2.2.2.2.2.2.2.2.2.1 (E := fun q => ((a, b', c, lt, u1.1, u1.2), q)) ew_geM h1) gL_law_X5_chance rfl rfl rfl hdX5_chance rfl rfl rfl rfl (by decide) (ew_oM (E := fun q => ((a, b', c, lt, u1.1, u1.2), q)) ew_geM m) rfl rfl rfl rfl dL_law_889 (fun r2 u2 h2 => ?_)
  refine ey_lcmp (pc := 892) Z dL_law_892 ?_
  exact ey_if_eq (pc := 893) (tgt := 1092) Z dL_law_893 (by decide) (fun _ => K _ _ _ _ _ _ _ h2.2) (fun q => absurd ((lg_cmp_eq _ _).mpr h2.1) q)
set_option maxHeartbeats 4000000 in
set_option maxRecDepth 100000 in
theorem lc_22 (hZ : lw_Zs C X b N scr) (hi : i + 5 ≤ N) (K : lw_K C X b i) (hR : Rel a c lt xs m) : ew_Wl C X 4 ((a, b', c, lt, ra, xs), m) 898 [(0, .ref b), (1, .ref (X.2.1 46)), (2, .ref (X.2.1 50)), (3, .int (nI i))] [] := by
  obtain ⟨Z, hX, hbl, hbA, hN⟩ := hZ
  refine ey_aload_n (pc := 898) Z dL_law_898 1 rfl rfl ?_
  refine ey_aload_n (pc := 899) Z dL_law_899 0 rfl rfl ?_
  refine ey_iload_n (pc := 900) Z dL_law_900 3 rfl rfl ?_
  refine ey_iconst (pc := 901) Z dL_law_901 ec_1 ?_
  refine ey_iadd (pc := 902) Z dL_law_902 ?_
  rw [pl_1 i]
  refine ey_iald (pc := 903) (i := i + 1) Z hX hbl hbA (by omega) (by omega) dL_law_903 ?_
  refine ey_aload_n (pc := 904) Z dL_law_904 0 rfl rfl ?_
  refine ey_iload_n (pc := 905) Z dL_law_905 3 rfl rfl ?_
  refine ey_iconst (pc := 906) Z dL_law_906 ec_2 ?_
  refine ey_iadd (pc := 907) Z dL_law_907 ?_
  rw [pl_2 i]
  refine ey_iald (pc := 908) (i := i + 2) Z hX hbl hbA (by omega) (by omega) dL_law_908 ?_
  refine ey_aload_n (pc := 909) Z dL_law_909 0 rfl rfl ?_
  refine ey_iload_n (pc := 910) Z dL_law_910 3 rfl rfl ?_
  refine ey_iconst (pc := 911) Z dL_law_911 ec_3 ?_
  refine ey_iadd (pc := 912) Z dL_law_912 ?_
  rw [pl_3 i]
  refine ey_iald (pc := 913) (i := i + 3) Z hX hbl hbA (by omega) (by omega) dL_law_913 ?_
  refine ey_callVi (pc := 914) (r := 46) (As := [.int (scr (i + 1)), .int (scr (i + 2)), .int (scr (i + 3))]) (st := []) Z (kX4_laws Z.2.2.2.2.2.2.2.2.2.1 (E := fun q1 q2 q3 q4 q5 q6 => ((q1, q2, q3, q4, q5, q6), m)) (fun _ _ _ _ _ => ew_geT0) (fun _ _ _ _ _ => ew_geT1) (fun _ _ _ _ _ => ew_geT2) (fun _ _ _ _ _ => ew_geL) (fun _ _ _ _ _ => ew_geR) (fun _ _ _ _ _ => ew_geX) (s_laws hR (scr (i + 1)) (scr (i + 2)) (scr (i + 3)))) gL_law_X4_laws rfl rfl rfl hdX4_laws rfl rfl rfl rfl (by decide) (ew_oX0 ew_geX _) rfl rfl rfl rfl dL_law_914 (fun r1 u1 h1 => ?_)
  refine ey_aload_n (pc := 917) Z dL_law_917 2 rfl rfl ?_
  refine ey_aload_n (pc := 918) Z dL_law_918 0 rfl rfl ?_
  refine ey_iload_n (pc := 919) Z dL_law_919 3 rfl rfl ?_
  refine ey_iconst (pc := 920) Z dL_law_920 ec_1 ?_
  refine ey_iadd (pc := 921) Z dL_law_921 ?_
  rw [pl_1 i]
  refine ey_iald (pc := 922) (i := i + 1) Z hX hbl hbA (by omega) (by omega) dL_law_922 ?_
  refine ey_aload_n (pc := 923) Z dL_law_923 0 rfl rfl ?_
  refine ey_iload_n (pc := 924) Z dL_law_924 3 rfl rfl ?_
  refine ey_iconst (pc := 925) Z dL_law_925 ec_2 ?_
  refine ey_iadd (pc := 926) Z dL_law_926 ?_
  rw [pl_2 i]
  refine ey_iald (pc := 927) (i := i + 2) Z hX hbl hbA (by omega) (by omega) dL_law_927 ?_
  refine ey_aload_n (pc := 928) Z dL_law_928 0 rfl rfl ?_
  refine ey_iload_n (pc := 929) Z dL_law_929 3 rfl rfl ?_
  refine ey_iconst (pc := 930) Z dL_law_930 ec_3 ?_
  refine ey_iadd (pc := 931) Z dL_law_931 ?_
  rw [pl_3 i]
  refine ey_iald (pc := 932) (i := i + 3) Z hX hbl hbA (by omega) (by omega) dL_law_932 ?_
  refine ey_callVi (pc := 933) (r := 50) (As := [.int (scr (i + 1)), .int (scr (i + 2)), .int (scr (i + 3))]) (st := [.int r1]) Z (kX5_laws Z.2.2.2.2.2.2.2.2.2.1 (E := fun q => ((a, u1.1, c, lt, ra, u1.2), q)) ew_geM h1) gL_law_X5_laws rfl rfl rfl hdX5_laws rfl rfl rfl rfl (by decide) (ew_oM (E := fun q => ((a, u1.1, c, lt, ra, u1.2), q)) ew_geM m) rfl rfl rfl rfl dL_law_933 (fun r2 u2 h2 => ?_)
  exact ey_icmp_eq (pc := 936) (tgt := 1092) Z dL_law_936 (by decide) (fun _ => K _ _ _ _ _ _ _ h2.2) (fun q => absurd h2.1 q)
set_option maxHeartbeats 4000000 in
set_option maxRecDepth 100000 in
theorem lc_23 (hZ : lw_Zs C X b N scr) (hi : i + 5 ≤ N) (K : lw_K C X b i) (hR : Rel a c lt xs m) : ew_Wl C X 4 ((a, b', c, lt, ra, xs), m) 941 [(0, .ref b), (1, .ref (X.2.1 46)), (2, .ref (X.2.1 50)), (3, .int (nI i))] [] := by
  obtain ⟨Z, hX, hbl, hbA, hN⟩ := hZ
  refine ey_aload_n (pc := 941) Z dL_law_941 1 rfl rfl ?_
  refine ey_aload_n (pc := 942) Z dL_law_942 0 rfl rfl ?_
  refine ey_iload_n (pc := 943) Z dL_law_943 3 rfl rfl ?_
  refine ey_iconst (pc := 944) Z dL_law_944 ec_1 ?_
  refine ey_iadd (pc := 945) Z dL_law_945 ?_
  rw [pl_1 i]
  refine ey_iald (pc := 946) (i := i + 1) Z hX hbl hbA (by omega) (by omega) dL_law_946 ?_
  refine ey_callVi (pc := 947) (r := 46) (As := [.int (scr (i + 1))]) (st := []) Z (kX4_lasting Z.2.2.2.2.2.2.2.2.2.1 (E := fun q1 q2 q3 q4 q5 q6 => ((q1, q2, q3, q4, q5, q6), m)) (fun _ _ _ _ _ => ew_geT0) (fun _ _ _ _ _ => ew_geT1) (fun _ _ _ _ _ => ew_geT2) (fun _ _ _ _ _ => ew_geL) (fun _ _ _ _ _ => ew_geR) (fun _ _ _ _ _ => ew_geX) (s_lasting hR (scr (i + 1)))) gL_law_X4_lasting rfl rfl rfl hdX4_lasting rfl rfl rfl rfl (by decide) (ew_oX0 ew_geX _) rfl rfl rfl rfl dL_law_947 (fun r1 u1 h1 => ?_)
  refine ey_aload_n (pc := 950) Z dL_law_950 2 rfl rfl ?_
  refine ey_aload_n (pc := 951) Z dL_law_951 0 rfl rfl ?_
  refine ey_iload_n (pc := 952) Z dL_law_952 3 rfl rfl ?_
  refine ey_iconst (pc := 953) Z dL_law_953 ec_1 ?_
  refine ey_iadd (pc := 954) Z dL_law_954 ?_
  rw [pl_1 i]
  refine ey_iald (pc := 955) (i := i + 1) Z hX hbl hbA (by omega) (by omega) dL_law_955 ?_
  refine ey_callVi (pc := 956) (r := 50) (As := [.int (scr (i + 1))]) (st := [.int r1]) Z (kX5_lasting Z.2.2.2.2.2.2.2.2.2.1 (E := fun q => ((a, u1.1, c, lt, ra, u1.2), q)) ew_geM h1) gL_law_X5_lasting rfl rfl rfl hdX5_lasting rfl rfl rfl rfl (by decide) (ew_oM (E := fun q => ((a, u1.1, c, lt, ra, u1.2), q)) ew_geM m) rfl rfl rfl rfl dL_law_956 (fun r2 u2 h2 => ?_)
  exact ey_icmp_eq (pc := 959) (tgt := 1092) Z dL_law_959 (by decide) (fun _ => K _ _ _ _ _ _ _ h2.2) (fun q => absurd h2.1 q)
set_option maxHeartbeats 4000000 in
set_option maxRecDepth 100000 in
theorem lc_24 (hZ : lw_Zs C X b N scr) (hi : i + 5 ≤ N) (K : lw_K C X b i) (hR : Rel a c lt xs m) : ew_Wl C X 4 ((a, b', c, lt, ra, xs), m) 964 [(0, .ref b), (1, .ref (X.2.1 46)), (2, .ref (X.2.1 50)), (3, .int (nI i))] [] := by
  obtain ⟨Z, hX, hbl, hbA, hN⟩ := hZ
  refine ey_aload_n (pc := 964) Z dL_law_964 1 rfl rfl ?_
  refine ey_aload_n (pc := 965) Z dL_law_965 0 rfl rfl ?_
  refine ey_iload_n (pc := 966) Z dL_law_966 3 rfl rfl ?_
  refine ey_iconst (pc := 967) Z dL_law_967 ec_1 ?_
  refine ey_iadd (pc := 968) Z dL_law_968 ?_
  rw [pl_1 i]
  refine ey_iald (pc := 969) (i := i + 1) Z hX hbl hbA (by omega) (by omega) dL_law_969 ?_
  refine ey_aload_n (pc := 970) Z dL_law_970 0 rfl rfl ?_
  refine ey_iload_n (pc := 971) Z dL_law_971 3 rfl rfl ?_
  refine ey_iconst (pc := 972) Z dL_law_972 ec_2 ?_
  refine ey_iadd (pc := 973) Z dL_law_973 ?_
  rw [pl_2 i]
  refine ey_iald (pc := 974) (i := i + 2) Z hX hbl hbA (by omega) (by omega) dL_law_974 ?_
  refine ey_callVi (pc := 975) (r := 46) (As := [.int (scr (i + 1)), .int (scr (i + 2))]) (st := []) Z (kX4_lots Z.2.2.2.2.2.2.2.2.2.1 (E := fun q1 q2 q3 q4 q5 q6 => ((q1, q2, q3, q4, q5, q6), m)) (fun _ _ _ _ _ => ew_geT0) (fun _ _ _ _ _ => ew_geT1) (fun _ _ _ _ _ => ew_geT2) (fun _ _ _ _ _ => ew_geL) (fun _ _ _ _ _ => ew_geR) (fun _ _ _ _ _ => ew_geX) (s_lots hR (scr (i + 1)) (scr (i + 2)))) gL_law_X4_lots rfl rfl rfl hdX4_lots rfl rfl rfl rfl (by decide) (ew_oX0 ew_geX _) rfl rfl rfl rfl dL_law_975 (fun r1 u1 h1 => ?_)
  refine ey_aload_n (pc := 978) Z dL_law_978 2 rfl rfl ?_
  refine ey_aload_n (pc := 979) Z dL_law_979 0 rfl rfl ?_
  refine ey_iload_n (pc := 980) Z dL_law_980 3 rfl rfl ?_
  refine ey_iconst (pc := 981) Z dL_law_981 ec_1 ?_
  refine ey_iadd (pc := 982) Z dL_law_982 ?_
  rw [pl_1 i]
  refine ey_iald (pc := 983) (i := i + 1) Z hX hbl hbA (by omega) (by omega) dL_law_983 ?_
  refine ey_aload_n (pc := 984) Z dL_law_984 0 rfl rfl ?_
  refine ey_iload_n (pc := 985) Z dL_law_985 3 rfl rfl ?_
  refine ey_iconst (pc := 986) Z dL_law_986 ec_2 ?_
  refine ey_iadd (pc := 987) Z dL_law_987 ?_
  rw [pl_2 i]
  refine ey_iald (pc := 988) (i := i + 2) Z hX hbl hbA (by omega) (by omega) dL_law_988 ?_
  refine ey_callVi (pc := 989) (r := 50) (As := [.int (scr (i + 1)), .int (scr (i + 2))]) (st := [.int r1]) Z (kX5_lots Z.2.2.2.2.2.2.2.2.2.1 (E := fun q => ((a, u1.1, c, lt, ra, u1.2), q)) ew_geM h1) gL_law_X5_lots rfl rfl rfl hdX5_lots rfl rfl rfl rfl (by decide) (ew_oM (E := fun q => ((a, u1.1, c, lt, ra, u1.2), q)) ew_geM m) rfl rfl rfl rfl dL_law_989 (fun r2 u2 h2 => ?_)
  exact ey_icmp_eq (pc := 992) (tgt := 1092) Z dL_law_992 (by decide) (fun _ => K _ _ _ _ _ _ _ h2.2) (fun q => absurd h2.1 q)
set_option maxHeartbeats 4000000 in
set_option maxRecDepth 100000 in
theorem lc_25 (hZ : lw_Zs C X b N scr) (hi : i + 5 ≤ N) (K : lw_K C X b i) (hR : Rel a c lt xs m) : ew_Wl C X 4 ((a, b', c, lt, ra, xs), m) 997 [(0, .ref b), (1, .ref (X.2.1 46)), (2, .ref (X.2.1 50)), (3, .int (nI i))] [] := by
  obtain ⟨Z, hX, hbl, hbA, hN⟩ := hZ
  refine ey_aload_n (pc := 997) Z dL_law_997 1 rfl rfl ?_
  refine ey_aload_n (pc := 998) Z dL_law_998 0 rfl rfl ?_
  refine ey_iload_n (pc := 999) Z dL_law_999 3 rfl rfl ?_
  refine ey_iconst (pc := 1000) Z dL_law_1000 ec_1 ?_
  refine ey_iadd (pc := 1001) Z dL_law_1001 ?_
  rw [pl_1 i]
  refine ey_iald (pc := 1002) (i := i + 1) Z hX hbl hbA (by omega) (by omega) dL_law_1002 ?_
  refine ey_callVi (pc := 1003) (r := 46) (As := [.int (scr (i + 1))]) (st := []) Z (kX4_row Z.2.2.2.2.2.2.2.2.2.1 (E := fun q1 q2 q3 q4 q5 q6 => ((q1, q2, q3, q4, q5, q6), m)) (fun _ _ _ _ _ => ew_geT0) (fun _ _ _ _ _ => ew_geT1) (fun _ _ _ _ _ => ew_geT2) (fun _ _ _ _ _ => ew_geL) (fun _ _ _ _ _ => ew_geR) (fun _ _ _ _ _ => ew_geX) (s_row hR (scr (i + 1)))) gL_law_X4_row rfl rfl rfl hdX4_row rfl rfl rfl rfl (by decide) (ew_oX0 ew_geX _) rfl rfl rfl rfl dL_law_1003 (fun r1 u1 h1 => ?_)
  refine ey_aload_n (pc := 1006) Z dL_law_1006 2 rfl rfl ?_
  refine ey_aload_n (pc := 1007) Z dL_law_1007 0 rfl rfl ?_
  refine ey_iload_n (pc := 1008) Z dL_law_1008 3 rfl rfl ?_
  refine ey_iconst (pc := 1009) Z dL_law_1009 ec_1 ?_
  refine ey_iadd (pc := 1010) Z dL_law_1010 ?_
  rw [pl_1 i]
  refine ey_iald (pc := 1011) (i := i + 1) Z hX hbl hbA (by omega) (by omega) dL_law_1011 ?_
  refine ey_callVi (pc := 1012) (r := 50) (As := [.int (scr (i + 1))]) (st := [.int r1]) Z (kX5_row Z.2.2.2.2.2.2.2.2.2.1 (E := fun q => ((a, b', c, lt, ra, u1), q)) ew_geM h1) gL_law_X5_row rfl rfl rfl hdX5_row rfl rfl rfl rfl (by decide) (ew_oM (E := fun q => ((a, b', c, lt, ra, u1), q)) ew_geM m) rfl rfl rfl rfl dL_law_1012 (fun r2 u2 h2 => ?_)
  exact ey_icmp_eq (pc := 1015) (tgt := 1092) Z dL_law_1015 (by decide) (fun _ => K _ _ _ _ _ _ _ h2.2) (fun q => absurd h2.1 q)
set_option maxHeartbeats 4000000 in
set_option maxRecDepth 100000 in
theorem lc_26 (hZ : lw_Zs C X b N scr) (hi : i + 5 ≤ N) (K : lw_K C X b i) (hR : Rel a c lt xs m) : ew_Wl C X 4 ((a, b', c, lt, ra, xs), m) 1020 [(0, .ref b), (1, .ref (X.2.1 46)), (2, .ref (X.2.1 50)), (3, .int (nI i))] [] := by
  obtain ⟨Z, hX, hbl, hbA, hN⟩ := hZ
  refine ey_aload_n (pc := 1020) Z dL_law_1020 1 rfl rfl ?_
  refine ey_aload_n (pc := 1021) Z dL_law_1021 0 rfl rfl ?_
  refine ey_iload_n (pc := 1022) Z dL_law_1022 3 rfl rfl ?_
  refine ey_iconst (pc := 1023) Z dL_law_1023 ec_1 ?_
  refine ey_iadd (pc := 1024) Z dL_law_1024 ?_
  rw [pl_1 i]
  refine ey_iald (pc := 1025) (i := i + 1) Z hX hbl hbA (by omega) (by omega) dL_law_1025 ?_
  refine ey_callVi (pc := 1026) (r := 46) (As := [.int (scr (i + 1))]) (st := []) Z (kX4_judge Z.2.2.2.2.2.2.2.2.2.1 (E := fun q1 q2 q3 q4 q5 q6 => ((q1, q2, q3, q4, q5, q6), m)) (fun _ _ _ _ _ => ew_geT0) (fun _ _ _ _ _ => ew_geT1) (fun _ _ _ _ _ => ew_geT2) (fun _ _ _ _ _ => ew_geL) (fun _ _ _ _ _ => ew_geR) (fun _ _ _ _ _ => ew_geX) (s_judge hR (scr (i + 1)))) gL_law_X4_judge rfl rfl rfl hdX4_judge rfl rfl rfl rfl (by decide) (ew_oX0 ew_geX _) rfl rfl rfl rfl dL_law_1026 (fun r1 u1 h1 => ?_)
  refine ey_aload_n (pc := 1029) Z dL_law_1029 2 rfl rfl ?_
  refine ey_aload_n (pc := 1030) Z dL_law_1030 0 rfl rfl ?_
  refine ey_iload_n (pc := 1031) Z dL_law_1031 3 rfl rfl ?_
  refine ey_iconst (pc := 1032) Z dL_law_1032 ec_1 ?_
  refine ey_iadd (pc := 1033) Z dL_law_1033 ?_
  rw [pl_1 i]
  refine ey_iald (pc := 1034) (i := i + 1) Z hX hbl hbA (by omega) (by omega) dL_law_1034 ?_
  refine ey_callVi (pc := 1035) (r := 50) (As := [.int (scr (i + 1))]) (st := [.int r1]) Z (kX5_judge Z.2.2.2.2.2.2.2.2.2.1 (E := fun q => ((a, u1.1, c, lt, ra, u1.2), q)) ew_geM h1) gL_law_X5_judge rfl rfl rfl hdX5_judge rfl rfl rfl rfl (by decide) (ew_oM (E := fun q => ((a, u1.1, c, lt, ra, u1.2), q)) ew_geM m) rfl rfl rfl rfl dL_law_1035 (fun r2 u2 h2 => ?_)
  exact ey_icmp_eq (pc := 1038) (tgt := 1092) Z dL_law_1038 (by decide) (fun _ => K _ _ _ _ _ _ _ h2.2) (fun q => absurd h2.1 q)
set_option maxHeartbeats 4000000 in
set_option maxRecDepth 100000 in
theorem lc_27 (hZ : lw_Zs C X b N scr) (hi : i + 5 ≤ N) (K : lw_K C X b i) (hR : Rel a c lt xs m) : ew_Wl C X 4 ((a, b', c, lt, ra, xs), m) 1043 [(0, .ref b), (1, .ref (X.2.1 46)), (2, .ref (X.2.1 50)), (3, .int (nI i))] [] := by
  obtain ⟨Z, hX, hbl, hbA, hN⟩ := hZ
  refine ey_aload_n (pc := 1043) Z dL_law_1043 1 rfl rfl ?_
  refine ey_callVi (pc := 1044) (r := 46) (As := []) (st := []) Z (kX4_image Z.2.2.2.2.2.2.2.2.2.1 (E := fun q1 q2 q3 q4 q5 q6 => ((q1, q2, q3, q4, q5, q6), m)) (fun _ _ _ _ _ => ew_geT0) (fun _ _ _ _ _ => ew_geT1) (fun _ _ _ _ _ => ew_geT2) (fun _ _ _ _ _ => ew_geL) (fun _ _ _ _ _ => ew_geR) (fun _ _ _ _ _ => ew_geX) (s_image hR )) gL_law_X4_image rfl rfl rfl hdX4_image rfl rfl rfl rfl (by decide) (ew_oX0 ew_geX _) rfl rfl rfl rfl dL_law_1044 (fun r1 u1 h1 => ?_)
  refine ey_aload_n (pc := 1047) Z dL_law_1047 2 rfl rfl ?_
  refine ey_callVi (pc := 1048) (r := 50) (As := []) (st := [.int r1]) Z (kX5_image Z.2.2.2.2.2.2.2.2.2.1 (E := fun q => ((a, b', u1.1, lt, ra, u1.2), q)) ew_geM h1) gL_law_X5_image rfl rfl rfl hdX5_image rfl rfl rfl rfl (by decide) (ew_oM (E := fun q => ((a, b', u1.1, lt, ra, u1.2), q)) ew_geM m) rfl rfl rfl rfl dL_law_1048 (fun r2 u2 h2 => ?_)
  exact ey_icmp_eq (pc := 1051) (tgt := 1092) Z dL_law_1051 (by decide) (fun _ => K _ _ _ _ _ _ _ h2.2) (fun q => absurd h2.1 q)
set_option maxHeartbeats 4000000 in
set_option maxRecDepth 100000 in
theorem lc_28 (hZ : lw_Zs C X b N scr) (hi : i + 5 ≤ N) (K : lw_K C X b i) (hR : Rel a c lt xs m) : ew_Wl C X 4 ((a, b', c, lt, ra, xs), m) 1056 [(0, .ref b), (1, .ref (X.2.1 46)), (2, .ref (X.2.1 50)), (3, .int (nI i))] [] := by
  obtain ⟨Z, hX, hbl, hbA, hN⟩ := hZ
  refine ey_aload_n (pc := 1056) Z dL_law_1056 1 rfl rfl ?_
  refine ey_callVi (pc := 1057) (r := 46) (As := []) (st := []) Z (kX4_on Z.2.2.2.2.2.2.2.2.2.1 (E := fun q1 q2 q3 q4 q5 q6 => ((q1, q2, q3, q4, q5, q6), m)) (fun _ _ _ _ _ => ew_geT0) (fun _ _ _ _ _ => ew_geT1) (fun _ _ _ _ _ => ew_geT2) (fun _ _ _ _ _ => ew_geL) (fun _ _ _ _ _ => ew_geR) (fun _ _ _ _ _ => ew_geX) (s_on hR )) gL_law_X4_on rfl rfl rfl hdX4_on rfl rfl rfl rfl (by decide) (ew_oX0 ew_geX _) rfl rfl rfl rfl dL_law_1057 (fun r1 u1 h1 => ?_)
  refine ey_aload_n (pc := 1060) Z dL_law_1060 2 rfl rfl ?_
  refine ey_callVi (pc := 1061) (r := 50) (As := []) (st := [.int r1]) Z (kX5_on Z.2.2.2.2.2.2.2.2.2.1 (E := fun q => ((u1.1, b', c, lt, ra, u1.2), q)) ew_geM h1) gL_law_X5_on rfl rfl rfl hdX5_on rfl rfl rfl rfl (by decide) (ew_oM (E := fun q => ((u1.1, b', c, lt, ra, u1.2), q)) ew_geM m) rfl rfl rfl rfl dL_law_1061 (fun r2 u2 h2 => ?_)
  exact ey_icmp_eq (pc := 1064) (tgt := 1092) Z dL_law_1064 (by decide) (fun _ => K _ _ _ _ _ _ _ h2.2) (fun q => absurd h2.1 q)
set_option maxHeartbeats 4000000 in
set_option maxRecDepth 100000 in
theorem lc_29 (hZ : lw_Zs C X b N scr) (hi : i + 5 ≤ N) (K : lw_K C X b i) (hR : Rel a c lt xs m) : ew_Wl C X 4 ((a, b', c, lt, ra, xs), m) 1069 [(0, .ref b), (1, .ref (X.2.1 46)), (2, .ref (X.2.1 50)), (3, .int (nI i))] [] := by
  obtain ⟨Z, hX, hbl, hbA, hN⟩ := hZ
  refine ey_aload_n (pc := 1069) Z dL_law_1069 1 rfl rfl ?_
  refine ey_aload_n (pc := 1070) Z dL_law_1070 0 rfl rfl ?_
  refine ey_iload_n (pc := 1071) Z dL_law_1071 3 rfl rfl ?_
  refine ey_iconst (pc := 1072) Z dL_law_1072 ec_1 ?_
  refine ey_iadd (pc := 1073) Z dL_law_1073 ?_
  rw [pl_1 i]
  refine ey_iald (pc := 1074) (i := i + 1) Z hX hbl hbA (by omega) (by omega) dL_law_1074 ?_
  refine ey_callVi (pc := 1075) (r := 46) (As := [.int (scr (i + 1))]) (st := []) Z (kX4_count Z.2.2.2.2.2.2.2.2.2.1 (E := fun q1 q2 q3 q4 q5 q6 => ((q1, q2, q3, q4, q5, q6), m)) (fun _ _ _ _ _ => ew_geT0) (fun _ _ _ _ _ => ew_geT1) (fun _ _ _ _ _ => ew_geT2) (fun _ _ _ _ _ => ew_geL) (fun _ _ _ _ _ => ew_geR) (fun _ _ _ _ _ => ew_geX) (s_count hR (scr (i + 1)))) gL_law_X4_count rfl rfl rfl hdX4_count rfl rfl rfl rfl (by decide) (ew_oX0 ew_geX _) rfl rfl rfl rfl dL_law_1075 (fun r1 u1 h1 => ?_)
  refine ey_aload_n (pc := 1078) Z dL_law_1078 2 rfl rfl ?_
  refine ey_aload_n (pc := 1079) Z dL_law_1079 0 rfl rfl ?_
  refine ey_iload_n (pc := 1080) Z dL_law_1080 3 rfl rfl ?_
  refine ey_iconst (pc := 1081) Z dL_law_1081 ec_1 ?_
  refine ey_iadd (pc := 1082) Z dL_law_1082 ?_
  rw [pl_1 i]
  refine ey_iald (pc := 1083) (i := i + 1) Z hX hbl hbA (by omega) (by omega) dL_law_1083 ?_
  refine ey_callVi (pc := 1084) (r := 50) (As := [.int (scr (i + 1))]) (st := [.int r1]) Z (kX5_count Z.2.2.2.2.2.2.2.2.2.1 (E := fun q => ((a, b', c, lt, ra, xs), q)) ew_geM h1) gL_law_X5_count rfl rfl rfl hdX5_count rfl rfl rfl rfl (by decide) (ew_oM (E := fun q => ((a, b', c, lt, ra, xs), q)) ew_geM m) rfl rfl rfl rfl dL_law_1084 (fun r2 u2 h2 => ?_)
  exact ey_icmp_eq (pc := 1087) (tgt := 1092) Z dL_law_1087 (by decide) (fun _ => K _ _ _ _ _ _ _ hR) (fun q => absurd h2 q)
end LWC
