/-! the law, call by call -/
theorem li_cmp (r : Int64) : lg_cmp r r = 0 := by simp [lg_cmp]
set_option maxHeartbeats 2000000 in
set_option maxRecDepth 100000 in
theorem law_case_0 {z : jZ} {d : jD} {A : Nat → Prop} {Q : State → Prop} {l : Launch} {b L : Nat} {xs : Nat → Int32} {ax am : Nat → Nat} {σx σm : jS} {k : Nat} (hK : lK z d A l b L xs) (hk : k + 6 ≤ L) (hAll : rAll σx σm) (next : ∀ σx1 σm1 : jS, rAll σx1 σm1 → lJ z d A Q b ax am σx1 σm1 k 1472) : lJ z d A Q b ax am σx σm k 204 := by
  obtain ⟨hC, hA, hF, hX, hbl, hbA, hL⟩ := hK
  obtain ⟨r, σx', σm', hx9, hm9, h9⟩ := all_child hAll ((xs (Int32.toNatClampNeg ((Int32.ofNat k) + (Int32.ofNat 1))))) ((xs (Int32.toNatClampNeg ((Int32.ofNat k) + (Int32.ofNat 2)))))
  refine g_aload_n (pc' := 205) hC 2 dL_law_204 rfl rfl rfl ?_
  refine g_aload_n (pc' := 206) hC 3 dL_law_205 rfl rfl rfl ?_
  refine g_iload_n (pc' := 207) hC 0 dL_law_206 rfl rfl rfl ?_
  refine g_iconst (pc' := 208) (v := (Int32.ofNat 1)) hC dL_law_207 (by decide) rfl ?_
  refine g_iadd (pc' := 209) hC dL_law_208 rfl ?_
  refine g_sld (pc' := 210) hC hX hbl hbA (li_in (by omega) hL) dL_law_209 rfl ?_
  refine g_aload_n (pc' := 211) hC 3 dL_law_210 rfl rfl rfl ?_
  refine g_iload_n (pc' := 212) hC 0 dL_law_211 rfl rfl rfl ?_
  refine g_iconst (pc' := 213) (v := (Int32.ofNat 2)) hC dL_law_212 (by decide) rfl ?_
  refine g_iadd (pc' := 214) hC dL_law_213 rfl ?_
  refine g_sld (pc' := 215) hC hX hbl hbA (li_in (by omega) hL) dL_law_214 rfl ?_
  refine g_callV_i (pc' := 218) (w := wX) (ad := ax) (wr := wM (d.1, am, d.2.2) σm) (As := [.int (xs (Int32.toNatClampNeg ((Int32.ofNat k) + (Int32.ofNat 1)))), .int (xs (Int32.toNatClampNeg ((Int32.ofNat k) + (Int32.ofNat 2))))]) (st := []) (n := 2) (ci := 11) hC hA hF (fun A1 => kX11_child l (d.1, ax, d.2.2) A1 σx ((xs (Int32.toNatClampNeg ((Int32.ofNat k) + (Int32.ofNat 1))))) ((xs (Int32.toNatClampNeg ((Int32.ofNat k) + (Int32.ofNat 2)))))) hx9 (X_at_0 _ _) rfl (jgV ml_L_13 im_X11_child se_X11_child in_X11 cd_X11_child) rfl rfl (by decide +kernel) ⟨Nat.le_of_ble_eq_true rfl, Nat.le_of_ble_eq_true rfl⟩ ⟨Nat.le_of_ble_eq_true rfl, Nat.le_of_ble_eq_true rfl⟩ rfl rfl (Nat.le_of_ble_eq_true rfl) rfl dL_law_215 rfl ?_
  refine g_aload_n (pc' := 219) hC 1 dL_law_218 rfl rfl rfl ?_
  refine g_aload_n (pc' := 220) hC 3 dL_law_219 rfl rfl rfl ?_
  refine g_iload_n (pc' := 221) hC 0 dL_law_220 rfl rfl rfl ?_
  refine g_iconst (pc' := 222) (v := (Int32.ofNat 1)) hC dL_law_221 (by decide) rfl ?_
  refine g_iadd (pc' := 223) hC dL_law_222 rfl ?_
  refine g_sld (pc' := 224) hC hX hbl hbA (li_in (by omega) hL) dL_law_223 rfl ?_
  refine g_aload_n (pc' := 225) hC 3 dL_law_224 rfl rfl rfl ?_
  refine g_iload_n (pc' := 226) hC 0 dL_law_225 rfl rfl rfl ?_
  refine g_iconst (pc' := 227) (v := (Int32.ofNat 2)) hC dL_law_226 (by decide) rfl ?_
  refine g_iadd (pc' := 228) hC dL_law_227 rfl ?_
  refine g_sld (pc' := 229) hC hX hbl hbA (li_in (by omega) hL) dL_law_228 rfl ?_
  refine g_callV_i (pc' := 232) (w := wM) (ad := am) (wr := wX (d.1, ax, d.2.2) σx') (As := [.int (xs (Int32.toNatClampNeg ((Int32.ofNat k) + (Int32.ofNat 1)))), .int (xs (Int32.toNatClampNeg ((Int32.ofNat k) + (Int32.ofNat 2))))]) (st := [.int r]) (n := 2) (ci := 12) hC hA hF (fun A1 => kX12_child l (d.1, am, d.2.2) A1 σm ((xs (Int32.toNatClampNeg ((Int32.ofNat k) + (Int32.ofNat 1))))) ((xs (Int32.toNatClampNeg ((Int32.ofNat k) + (Int32.ofNat 2)))))) hm9 (M_at_0 _ _) rfl (jgV ml_L_17 im_X12_child se_X12_child in_X12 cd_X12_child) rfl rfl (by decide +kernel) ⟨Nat.le_of_ble_eq_true rfl, Nat.le_of_ble_eq_true rfl⟩ ⟨Nat.le_of_ble_eq_true rfl, Nat.le_of_ble_eq_true rfl⟩ rfl rfl (Nat.le_of_ble_eq_true rfl) rfl dL_law_229 rfl ?_
  exact g_icmp_same hC dL_law_232 rfl (next σx' σm' h9)
set_option maxHeartbeats 2000000 in
set_option maxRecDepth 100000 in
theorem law_case_1 {z : jZ} {d : jD} {A : Nat → Prop} {Q : State → Prop} {l : Launch} {b L : Nat} {xs : Nat → Int32} {ax am : Nat → Nat} {σx σm : jS} {k : Nat} (hK : lK z d A l b L xs) (hk : k + 6 ≤ L) (hAll : rAll σx σm) (next : ∀ σx1 σm1 : jS, rAll σx1 σm1 → lJ z d A Q b ax am σx1 σm1 k 1472) : lJ z d A Q b ax am σx σm k 237 := by
  obtain ⟨hC, hA, hF, hX, hbl, hbA, hL⟩ := hK
  obtain ⟨r, σx', σm', hx9, hm9, h9⟩ := all_children hAll ((xs (Int32.toNatClampNeg ((Int32.ofNat k) + (Int32.ofNat 1))))) ((xs (Int32.toNatClampNeg ((Int32.ofNat k) + (Int32.ofNat 2))))) ((xs (Int32.toNatClampNeg ((Int32.ofNat k) + (Int32.ofNat 3)))))
  refine g_aload_n (pc' := 238) hC 2 dL_law_237 rfl rfl rfl ?_
  refine g_aload_n (pc' := 239) hC 3 dL_law_238 rfl rfl rfl ?_
  refine g_iload_n (pc' := 240) hC 0 dL_law_239 rfl rfl rfl ?_
  refine g_iconst (pc' := 241) (v := (Int32.ofNat 1)) hC dL_law_240 (by decide) rfl ?_
  refine g_iadd (pc' := 242) hC dL_law_241 rfl ?_
  refine g_sld (pc' := 243) hC hX hbl hbA (li_in (by omega) hL) dL_law_242 rfl ?_
  refine g_aload_n (pc' := 244) hC 3 dL_law_243 rfl rfl rfl ?_
  refine g_iload_n (pc' := 245) hC 0 dL_law_244 rfl rfl rfl ?_
  refine g_iconst (pc' := 246) (v := (Int32.ofNat 2)) hC dL_law_245 (by decide) rfl ?_
  refine g_iadd (pc' := 247) hC dL_law_246 rfl ?_
  refine g_sld (pc' := 248) hC hX hbl hbA (li_in (by omega) hL) dL_law_247 rfl ?_
  refine g_aload_n (pc' := 249) hC 3 dL_law_248 rfl rfl rfl ?_
  refine g_iload_n (pc' := 250) hC 0 dL_law_249 rfl rfl rfl ?_
  refine g_iconst (pc' := 251) (v := (Int32.ofNat 3)) hC dL_law_250 (by decide) rfl ?_
  refine g_iadd (pc' := 252) hC dL_law_251 rfl ?_
  refine g_sld (pc' := 253) hC hX hbl hbA (li_in (by omega) hL) dL_law_252 rfl ?_
  refine g_callV_i (pc' := 256) (w := wX) (ad := ax) (wr := wM (d.1, am, d.2.2) σm) (As := [.int (xs (Int32.toNatClampNeg ((Int32.ofNat k) + (Int32.ofNat 1)))), .int (xs (Int32.toNatClampNeg ((Int32.ofNat k) + (Int32.ofNat 2)))), .int (xs (Int32.toNatClampNeg ((Int32.ofNat k) + (Int32.ofNat 3))))]) (st := []) (n := 3) (ci := 11) hC hA hF (fun A1 => kX11_children l (d.1, ax, d.2.2) A1 σx ((xs (Int32.toNatClampNeg ((Int32.ofNat k) + (Int32.ofNat 1))))) ((xs (Int32.toNatClampNeg ((Int32.ofNat k) + (Int32.ofNat 2))))) ((xs (Int32.toNatClampNeg ((Int32.ofNat k) + (Int32.ofNat 3)))))) hx9 (X_at_0 _ _) rfl (jgV ml_L_18 im_X11_children se_X11_children in_X11 cd_X11_children) rfl rfl (by decide +kernel) ⟨Nat.le_of_ble_eq_true rfl, Nat.le_of_ble_eq_true rfl⟩ ⟨Nat.le_of_ble_eq_true rfl, Nat.le_of_ble_eq_true rfl⟩ rfl rfl (Nat.le_of_ble_eq_true rfl) rfl dL_law_253 rfl ?_
  refine g_aload_n (pc' := 257) hC 1 dL_law_256 rfl rfl rfl ?_
  refine g_aload_n (pc' := 258) hC 3 dL_law_257 rfl rfl rfl ?_
  refine g_iload_n (pc' := 259) hC 0 dL_law_258 rfl rfl rfl ?_
  refine g_iconst (pc' := 260) (v := (Int32.ofNat 1)) hC dL_law_259 (by decide) rfl ?_
  refine g_iadd (pc' := 261) hC dL_law_260 rfl ?_
  refine g_sld (pc' := 262) hC hX hbl hbA (li_in (by omega) hL) dL_law_261 rfl ?_
  refine g_aload_n (pc' := 263) hC 3 dL_law_262 rfl rfl rfl ?_
  refine g_iload_n (pc' := 264) hC 0 dL_law_263 rfl rfl rfl ?_
  refine g_iconst (pc' := 265) (v := (Int32.ofNat 2)) hC dL_law_264 (by decide) rfl ?_
  refine g_iadd (pc' := 266) hC dL_law_265 rfl ?_
  refine g_sld (pc' := 267) hC hX hbl hbA (li_in (by omega) hL) dL_law_266 rfl ?_
  refine g_aload_n (pc' := 268) hC 3 dL_law_267 rfl rfl rfl ?_
  refine g_iload_n (pc' := 269) hC 0 dL_law_268 rfl rfl rfl ?_
  refine g_iconst (pc' := 270) (v := (Int32.ofNat 3)) hC dL_law_269 (by decide) rfl ?_
  refine g_iadd (pc' := 271) hC dL_law_270 rfl ?_
  refine g_sld (pc' := 272) hC hX hbl hbA (li_in (by omega) hL) dL_law_271 rfl ?_
  refine g_callV_i (pc' := 275) (w := wM) (ad := am) (wr := wX (d.1, ax, d.2.2) σx') (As := [.int (xs (Int32.toNatClampNeg ((Int32.ofNat k) + (Int32.ofNat 1)))), .int (xs (Int32.toNatClampNeg ((Int32.ofNat k) + (Int32.ofNat 2)))), .int (xs (Int32.toNatClampNeg ((Int32.ofNat k) + (Int32.ofNat 3))))]) (st := [.int r]) (n := 3) (ci := 12) hC hA hF (fun A1 => kX12_children l (d.1, am, d.2.2) A1 σm ((xs (Int32.toNatClampNeg ((Int32.ofNat k) + (Int32.ofNat 1))))) ((xs (Int32.toNatClampNeg ((Int32.ofNat k) + (Int32.ofNat 2))))) ((xs (Int32.toNatClampNeg ((Int32.ofNat k) + (Int32.ofNat 3)))))) hm9 (M_at_0 _ _) rfl (jgV ml_L_22 im_X12_children se_X12_children in_X12 cd_X12_children) rfl rfl (by decide +kernel) ⟨Nat.le_of_ble_eq_true rfl, Nat.le_of_ble_eq_true rfl⟩ ⟨Nat.le_of_ble_eq_true rfl, Nat.le_of_ble_eq_true rfl⟩ rfl rfl (Nat.le_of_ble_eq_true rfl) rfl dL_law_272 rfl ?_
  exact g_icmp_same hC dL_law_275 rfl (next σx' σm' h9)
set_option maxHeartbeats 2000000 in
set_option maxRecDepth 100000 in
theorem law_case_2 {z : jZ} {d : jD} {A : Nat → Prop} {Q : State → Prop} {l : Launch} {b L : Nat} {xs : Nat → Int32} {ax am : Nat → Nat} {σx σm : jS} {k : Nat} (hK : lK z d A l b L xs) (hk : k + 6 ≤ L) (hAll : rAll σx σm) (next : ∀ σx1 σm1 : jS, rAll σx1 σm1 → lJ z d A Q b ax am σx1 σm1 k 1472) : lJ z d A Q b ax am σx σm k 280 := by
  obtain ⟨hC, hA, hF, hX, hbl, hbA, hL⟩ := hK
  obtain ⟨r, σx', σm', hx9, hm9, h9⟩ := all_mend hAll ((xs (Int32.toNatClampNeg ((Int32.ofNat k) + (Int32.ofNat 1))))) ((xs (Int32.toNatClampNeg ((Int32.ofNat k) + (Int32.ofNat 2))))) ((xs (Int32.toNatClampNeg ((Int32.ofNat k) + (Int32.ofNat 3)))))
  refine g_aload_n (pc' := 281) hC 2 dL_law_280 rfl rfl rfl ?_
  refine g_aload_n (pc' := 282) hC 3 dL_law_281 rfl rfl rfl ?_
  refine g_iload_n (pc' := 283) hC 0 dL_law_282 rfl rfl rfl ?_
  refine g_iconst (pc' := 284) (v := (Int32.ofNat 1)) hC dL_law_283 (by decide) rfl ?_
  refine g_iadd (pc' := 285) hC dL_law_284 rfl ?_
  refine g_sld (pc' := 286) hC hX hbl hbA (li_in (by omega) hL) dL_law_285 rfl ?_
  refine g_aload_n (pc' := 287) hC 3 dL_law_286 rfl rfl rfl ?_
  refine g_iload_n (pc' := 288) hC 0 dL_law_287 rfl rfl rfl ?_
  refine g_iconst (pc' := 289) (v := (Int32.ofNat 2)) hC dL_law_288 (by decide) rfl ?_
  refine g_iadd (pc' := 290) hC dL_law_289 rfl ?_
  refine g_sld (pc' := 291) hC hX hbl hbA (li_in (by omega) hL) dL_law_290 rfl ?_
  refine g_aload_n (pc' := 292) hC 3 dL_law_291 rfl rfl rfl ?_
  refine g_iload_n (pc' := 293) hC 0 dL_law_292 rfl rfl rfl ?_
  refine g_iconst (pc' := 294) (v := (Int32.ofNat 3)) hC dL_law_293 (by decide) rfl ?_
  refine g_iadd (pc' := 295) hC dL_law_294 rfl ?_
  refine g_sld (pc' := 296) hC hX hbl hbA (li_in (by omega) hL) dL_law_295 rfl ?_
  refine g_callV_i (pc' := 299) (w := wX) (ad := ax) (wr := wM (d.1, am, d.2.2) σm) (As := [.int (xs (Int32.toNatClampNeg ((Int32.ofNat k) + (Int32.ofNat 1)))), .int (xs (Int32.toNatClampNeg ((Int32.ofNat k) + (Int32.ofNat 2)))), .int (xs (Int32.toNatClampNeg ((Int32.ofNat k) + (Int32.ofNat 3))))]) (st := []) (n := 3) (ci := 11) hC hA hF (fun A1 => kX11_mend l (d.1, ax, d.2.2) A1 σx ((xs (Int32.toNatClampNeg ((Int32.ofNat k) + (Int32.ofNat 1))))) ((xs (Int32.toNatClampNeg ((Int32.ofNat k) + (Int32.ofNat 2))))) ((xs (Int32.toNatClampNeg ((Int32.ofNat k) + (Int32.ofNat 3)))))) hx9 (X_at_0 _ _) rfl (jgV ml_L_23 im_X11_mend se_X11_mend in_X11 cd_X11_mend) rfl rfl (by decide +kernel) ⟨Nat.le_of_ble_eq_true rfl, Nat.le_of_ble_eq_true rfl⟩ ⟨Nat.le_of_ble_eq_true rfl, Nat.le_of_ble_eq_true rfl⟩ rfl rfl (Nat.le_of_ble_eq_true rfl) rfl dL_law_296 rfl ?_
  refine g_aload_n (pc' := 300) hC 1 dL_law_299 rfl rfl rfl ?_
  refine g_aload_n (pc' := 301) hC 3 dL_law_300 rfl rfl rfl ?_
  refine g_iload_n (pc' := 302) hC 0 dL_law_301 rfl rfl rfl ?_
  refine g_iconst (pc' := 303) (v := (Int32.ofNat 1)) hC dL_law_302 (by decide) rfl ?_
  refine g_iadd (pc' := 304) hC dL_law_303 rfl ?_
  refine g_sld (pc' := 305) hC hX hbl hbA (li_in (by omega) hL) dL_law_304 rfl ?_
  refine g_aload_n (pc' := 306) hC 3 dL_law_305 rfl rfl rfl ?_
  refine g_iload_n (pc' := 307) hC 0 dL_law_306 rfl rfl rfl ?_
  refine g_iconst (pc' := 308) (v := (Int32.ofNat 2)) hC dL_law_307 (by decide) rfl ?_
  refine g_iadd (pc' := 309) hC dL_law_308 rfl ?_
  refine g_sld (pc' := 310) hC hX hbl hbA (li_in (by omega) hL) dL_law_309 rfl ?_
  refine g_aload_n (pc' := 311) hC 3 dL_law_310 rfl rfl rfl ?_
  refine g_iload_n (pc' := 312) hC 0 dL_law_311 rfl rfl rfl ?_
  refine g_iconst (pc' := 313) (v := (Int32.ofNat 3)) hC dL_law_312 (by decide) rfl ?_
  refine g_iadd (pc' := 314) hC dL_law_313 rfl ?_
  refine g_sld (pc' := 315) hC hX hbl hbA (li_in (by omega) hL) dL_law_314 rfl ?_
  refine g_callV_i (pc' := 318) (w := wM) (ad := am) (wr := wX (d.1, ax, d.2.2) σx') (As := [.int (xs (Int32.toNatClampNeg ((Int32.ofNat k) + (Int32.ofNat 1)))), .int (xs (Int32.toNatClampNeg ((Int32.ofNat k) + (Int32.ofNat 2)))), .int (xs (Int32.toNatClampNeg ((Int32.ofNat k) + (Int32.ofNat 3))))]) (st := [.int r]) (n := 3) (ci := 12) hC hA hF (fun A1 => kX12_mend l (d.1, am, d.2.2) A1 σm ((xs (Int32.toNatClampNeg ((Int32.ofNat k) + (Int32.ofNat 1))))) ((xs (Int32.toNatClampNeg ((Int32.ofNat k) + (Int32.ofNat 2))))) ((xs (Int32.toNatClampNeg ((Int32.ofNat k) + (Int32.ofNat 3)))))) hm9 (M_at_0 _ _) rfl (jgV ml_L_26 im_X12_mend se_X12_mend in_X12 cd_X12_mend) rfl rfl (by decide +kernel) ⟨Nat.le_of_ble_eq_true rfl, Nat.le_of_ble_eq_true rfl⟩ ⟨Nat.le_of_ble_eq_true rfl, Nat.le_of_ble_eq_true rfl⟩ rfl rfl (Nat.le_of_ble_eq_true rfl) rfl dL_law_315 rfl ?_
  exact g_icmp_same hC dL_law_318 rfl (next σx' σm' h9)
set_option maxHeartbeats 2000000 in
set_option maxRecDepth 100000 in
theorem law_case_3 {z : jZ} {d : jD} {A : Nat → Prop} {Q : State → Prop} {l : Launch} {b L : Nat} {xs : Nat → Int32} {ax am : Nat → Nat} {σx σm : jS} {k : Nat} (hK : lK z d A l b L xs) (hk : k + 6 ≤ L) (hAll : rAll σx σm) (next : ∀ σx1 σm1 : jS, rAll σx1 σm1 → lJ z d A Q b ax am σx1 σm1 k 1472) : lJ z d A Q b ax am σx σm k 323 := by
  obtain ⟨hC, hA, hF, hX, hbl, hbA, hL⟩ := hK
  obtain ⟨ch, V, nb, hN, hC9, hL9, hT9, hD, hI9, hLn, hS, hB⟩ := id hAll
  obtain ⟨r, hx9, hm9⟩ := eq_of hN.1 hN.2.1 ((xs (Int32.toNatClampNeg ((Int32.ofNat k) + (Int32.ofNat 1))))) ((xs (Int32.toNatClampNeg ((Int32.ofNat k) + (Int32.ofNat 2)))))
  refine g_aload_n (pc' := 324) hC 2 dL_law_323 rfl rfl rfl ?_
  refine g_aload_n (pc' := 325) hC 3 dL_law_324 rfl rfl rfl ?_
  refine g_iload_n (pc' := 326) hC 0 dL_law_325 rfl rfl rfl ?_
  refine g_iconst (pc' := 327) (v := (Int32.ofNat 1)) hC dL_law_326 (by decide) rfl ?_
  refine g_iadd (pc' := 328) hC dL_law_327 rfl ?_
  refine g_sld (pc' := 329) hC hX hbl hbA (li_in (by omega) hL) dL_law_328 rfl ?_
  refine g_aload_n (pc' := 330) hC 3 dL_law_329 rfl rfl rfl ?_
  refine g_iload_n (pc' := 331) hC 0 dL_law_330 rfl rfl rfl ?_
  refine g_iconst (pc' := 332) (v := (Int32.ofNat 2)) hC dL_law_331 (by decide) rfl ?_
  refine g_iadd (pc' := 333) hC dL_law_332 rfl ?_
  refine g_sld (pc' := 334) hC hX hbl hbA (li_in (by omega) hL) dL_law_333 rfl ?_
  refine g_callV_ir (pc' := 337) (w := wX) (ad := ax) (wr := wM (d.1, am, d.2.2) σm) (As := [.int (xs (Int32.toNatClampNeg ((Int32.ofNat k) + (Int32.ofNat 1)))), .int (xs (Int32.toNatClampNeg ((Int32.ofNat k) + (Int32.ofNat 2))))]) (st := []) (n := 2) (ci := 11) hC hA hF (fun A1 => kX11_of l (d.1, ax, d.2.2) A1 σx ((xs (Int32.toNatClampNeg ((Int32.ofNat k) + (Int32.ofNat 1))))) ((xs (Int32.toNatClampNeg ((Int32.ofNat k) + (Int32.ofNat 2)))))) hx9 (X_at_0 _ _) rfl (jgV ml_L_27 im_X11_of se_X11_of in_X11 cd_X11_of) rfl rfl (by decide +kernel) ⟨Nat.le_of_ble_eq_true rfl, Nat.le_of_ble_eq_true rfl⟩ ⟨Nat.le_of_ble_eq_true rfl, Nat.le_of_ble_eq_true rfl⟩ rfl rfl (Nat.le_of_ble_eq_true rfl) rfl dL_law_334 rfl ?_
  refine g_aload_n (pc' := 338) hC 1 dL_law_337 rfl rfl rfl ?_
  refine g_aload_n (pc' := 339) hC 3 dL_law_338 rfl rfl rfl ?_
  refine g_iload_n (pc' := 340) hC 0 dL_law_339 rfl rfl rfl ?_
  refine g_iconst (pc' := 341) (v := (Int32.ofNat 1)) hC dL_law_340 (by decide) rfl ?_
  refine g_iadd (pc' := 342) hC dL_law_341 rfl ?_
  refine g_sld (pc' := 343) hC hX hbl hbA (li_in (by omega) hL) dL_law_342 rfl ?_
  refine g_aload_n (pc' := 344) hC 3 dL_law_343 rfl rfl rfl ?_
  refine g_iload_n (pc' := 345) hC 0 dL_law_344 rfl rfl rfl ?_
  refine g_iconst (pc' := 346) (v := (Int32.ofNat 2)) hC dL_law_345 (by decide) rfl ?_
  refine g_iadd (pc' := 347) hC dL_law_346 rfl ?_
  refine g_sld (pc' := 348) hC hX hbl hbA (li_in (by omega) hL) dL_law_347 rfl ?_
  refine g_callV_ir (pc' := 351) (w := wM) (ad := am) (wr := wX (d.1, ax, d.2.2) σx) (As := [.int (xs (Int32.toNatClampNeg ((Int32.ofNat k) + (Int32.ofNat 1)))), .int (xs (Int32.toNatClampNeg ((Int32.ofNat k) + (Int32.ofNat 2))))]) (st := [.int r]) (n := 2) (ci := 12) hC hA hF (fun A1 => kX12_of l (d.1, am, d.2.2) A1 σm ((xs (Int32.toNatClampNeg ((Int32.ofNat k) + (Int32.ofNat 1))))) ((xs (Int32.toNatClampNeg ((Int32.ofNat k) + (Int32.ofNat 2)))))) hm9 (M_at_0 _ _) rfl (jgV ml_L_30 im_X12_of se_X12_of in_X12 cd_X12_of) rfl rfl (by decide +kernel) ⟨Nat.le_of_ble_eq_true rfl, Nat.le_of_ble_eq_true rfl⟩ ⟨Nat.le_of_ble_eq_true rfl, Nat.le_of_ble_eq_true rfl⟩ rfl rfl (Nat.le_of_ble_eq_true rfl) rfl dL_law_348 rfl ?_
  exact g_icmp_same hC dL_law_351 rfl (next σx σm hAll)
set_option maxHeartbeats 2000000 in
set_option maxRecDepth 100000 in
theorem law_case_4 {z : jZ} {d : jD} {A : Nat → Prop} {Q : State → Prop} {l : Launch} {b L : Nat} {xs : Nat → Int32} {ax am : Nat → Nat} {σx σm : jS} {k : Nat} (hK : lK z d A l b L xs) (hk : k + 6 ≤ L) (hAll : rAll σx σm) (next : ∀ σx1 σm1 : jS, rAll σx1 σm1 → lJ z d A Q b ax am σx1 σm1 k 1472) : lJ z d A Q b ax am σx σm k 356 := by
  obtain ⟨hC, hA, hF, hX, hbl, hbA, hL⟩ := hK
  obtain ⟨r, σx', σm', hx9, hm9, h9⟩ := all_feed hAll ((xs (Int32.toNatClampNeg ((Int32.ofNat k) + (Int32.ofNat 1)))))
  refine g_aload_n (pc' := 357) hC 2 dL_law_356 rfl rfl rfl ?_
  refine g_aload_n (pc' := 358) hC 3 dL_law_357 rfl rfl rfl ?_
  refine g_iload_n (pc' := 359) hC 0 dL_law_358 rfl rfl rfl ?_
  refine g_iconst (pc' := 360) (v := (Int32.ofNat 1)) hC dL_law_359 (by decide) rfl ?_
  refine g_iadd (pc' := 361) hC dL_law_360 rfl ?_
  refine g_sld (pc' := 362) hC hX hbl hbA (li_in (by omega) hL) dL_law_361 rfl ?_
  refine g_callV_i (pc' := 365) (w := wX) (ad := ax) (wr := wM (d.1, am, d.2.2) σm) (As := [.int (xs (Int32.toNatClampNeg ((Int32.ofNat k) + (Int32.ofNat 1))))]) (st := []) (n := 1) (ci := 11) hC hA hF (fun A1 => kX11_feed l (d.1, ax, d.2.2) A1 σx ((xs (Int32.toNatClampNeg ((Int32.ofNat k) + (Int32.ofNat 1)))))) hx9 (X_at_0 _ _) rfl (jgV ml_L_31 im_X11_feed se_X11_feed in_X11 cd_X11_feed) rfl rfl (by decide +kernel) ⟨Nat.le_of_ble_eq_true rfl, Nat.le_of_ble_eq_true rfl⟩ ⟨Nat.le_of_ble_eq_true rfl, Nat.le_of_ble_eq_true rfl⟩ rfl rfl (Nat.le_of_ble_eq_true rfl) rfl dL_law_362 rfl ?_
  refine g_aload_n (pc' := 366) hC 1 dL_law_365 rfl rfl rfl ?_
  refine g_aload_n (pc' := 367) hC 3 dL_law_366 rfl rfl rfl ?_
  refine g_iload_n (pc' := 368) hC 0 dL_law_367 rfl rfl rfl ?_
  refine g_iconst (pc' := 369) (v := (Int32.ofNat 1)) hC dL_law_368 (by decide) rfl ?_
  refine g_iadd (pc' := 370) hC dL_law_369 rfl ?_
  refine g_sld (pc' := 371) hC hX hbl hbA (li_in (by omega) hL) dL_law_370 rfl ?_
  refine g_callV_i (pc' := 374) (w := wM) (ad := am) (wr := wX (d.1, ax, d.2.2) σx') (As := [.int (xs (Int32.toNatClampNeg ((Int32.ofNat k) + (Int32.ofNat 1))))]) (st := [.int r]) (n := 1) (ci := 12) hC hA hF (fun A1 => kX12_feed l (d.1, am, d.2.2) A1 σm ((xs (Int32.toNatClampNeg ((Int32.ofNat k) + (Int32.ofNat 1)))))) hm9 (M_at_0 _ _) rfl (jgV ml_L_35 im_X12_feed se_X12_feed in_X12 cd_X12_feed) rfl rfl (by decide +kernel) ⟨Nat.le_of_ble_eq_true rfl, Nat.le_of_ble_eq_true rfl⟩ ⟨Nat.le_of_ble_eq_true rfl, Nat.le_of_ble_eq_true rfl⟩ rfl rfl (Nat.le_of_ble_eq_true rfl) rfl dL_law_371 rfl ?_
  exact g_icmp_same hC dL_law_374 rfl (next σx' σm' h9)
set_option maxHeartbeats 2000000 in
set_option maxRecDepth 100000 in
theorem law_case_5 {z : jZ} {d : jD} {A : Nat → Prop} {Q : State → Prop} {l : Launch} {b L : Nat} {xs : Nat → Int32} {ax am : Nat → Nat} {σx σm : jS} {k : Nat} (hK : lK z d A l b L xs) (hk : k + 6 ≤ L) (hAll : rAll σx σm) (next : ∀ σx1 σm1 : jS, rAll σx1 σm1 → lJ z d A Q b ax am σx1 σm1 k 1472) : lJ z d A Q b ax am σx σm k 379 := by
  obtain ⟨hC, hA, hF, hX, hbl, hbA, hL⟩ := hK
  obtain ⟨r, σx', σm', hx9, hm9, h9⟩ := all_law hAll 
  refine g_aload_n (pc' := 380) hC 2 dL_law_379 rfl rfl rfl ?_
  refine g_callV_i (pc' := 383) (w := wX) (ad := ax) (wr := wM (d.1, am, d.2.2) σm) (As := []) (st := []) (n := 0) (ci := 11) hC hA hF (fun A1 => kX11_law l (d.1, ax, d.2.2) A1 σx ) hx9 (X_at_0 _ _) rfl (jgV ml_L_36 im_X11_law se_X11_law in_X11 cd_X11_law) rfl rfl (by decide +kernel) ⟨Nat.le_of_ble_eq_true rfl, Nat.le_of_ble_eq_true rfl⟩ ⟨Nat.le_of_ble_eq_true rfl, Nat.le_of_ble_eq_true rfl⟩ rfl rfl (Nat.le_of_ble_eq_true rfl) rfl dL_law_380 rfl ?_
  refine g_aload_n (pc' := 384) hC 1 dL_law_383 rfl rfl rfl ?_
  refine g_callV_i (pc' := 387) (w := wM) (ad := am) (wr := wX (d.1, ax, d.2.2) σx') (As := []) (st := [.int r]) (n := 0) (ci := 12) hC hA hF (fun A1 => kX12_law l (d.1, am, d.2.2) A1 σm ) hm9 (M_at_0 _ _) rfl (jgV ml_L_40 im_X12_law se_X12_law in_X12 cd_X12_law) rfl rfl (by decide +kernel) ⟨Nat.le_of_ble_eq_true rfl, Nat.le_of_ble_eq_true rfl⟩ ⟨Nat.le_of_ble_eq_true rfl, Nat.le_of_ble_eq_true rfl⟩ rfl rfl (Nat.le_of_ble_eq_true rfl) rfl dL_law_384 rfl ?_
  exact g_icmp_same hC dL_law_387 rfl (next σx' σm' h9)
set_option maxHeartbeats 2000000 in
set_option maxRecDepth 100000 in
theorem law_case_6 {z : jZ} {d : jD} {A : Nat → Prop} {Q : State → Prop} {l : Launch} {b L : Nat} {xs : Nat → Int32} {ax am : Nat → Nat} {σx σm : jS} {k : Nat} (hK : lK z d A l b L xs) (hk : k + 6 ≤ L) (hAll : rAll σx σm) (next : ∀ σx1 σm1 : jS, rAll σx1 σm1 → lJ z d A Q b ax am σx1 σm1 k 1472) : lJ z d A Q b ax am σx σm k 392 := by
  obtain ⟨hC, hA, hF, hX, hbl, hbA, hL⟩ := hK
  obtain ⟨r, σx', σm', hx9, hm9, h9⟩ := all_turn hAll ((xs (Int32.toNatClampNeg ((Int32.ofNat k) + (Int32.ofNat 1))))) ((xs (Int32.toNatClampNeg ((Int32.ofNat k) + (Int32.ofNat 2))))) ((xs (Int32.toNatClampNeg ((Int32.ofNat k) + (Int32.ofNat 3)))))
  refine g_aload_n (pc' := 393) hC 2 dL_law_392 rfl rfl rfl ?_
  refine g_aload_n (pc' := 394) hC 3 dL_law_393 rfl rfl rfl ?_
  refine g_iload_n (pc' := 395) hC 0 dL_law_394 rfl rfl rfl ?_
  refine g_iconst (pc' := 396) (v := (Int32.ofNat 1)) hC dL_law_395 (by decide) rfl ?_
  refine g_iadd (pc' := 397) hC dL_law_396 rfl ?_
  refine g_sld (pc' := 398) hC hX hbl hbA (li_in (by omega) hL) dL_law_397 rfl ?_
  refine g_aload_n (pc' := 399) hC 3 dL_law_398 rfl rfl rfl ?_
  refine g_iload_n (pc' := 400) hC 0 dL_law_399 rfl rfl rfl ?_
  refine g_iconst (pc' := 401) (v := (Int32.ofNat 2)) hC dL_law_400 (by decide) rfl ?_
  refine g_iadd (pc' := 402) hC dL_law_401 rfl ?_
  refine g_sld (pc' := 403) hC hX hbl hbA (li_in (by omega) hL) dL_law_402 rfl ?_
  refine g_aload_n (pc' := 404) hC 3 dL_law_403 rfl rfl rfl ?_
  refine g_iload_n (pc' := 405) hC 0 dL_law_404 rfl rfl rfl ?_
  refine g_iconst (pc' := 406) (v := (Int32.ofNat 3)) hC dL_law_405 (by decide) rfl ?_
  refine g_iadd (pc' := 407) hC dL_law_406 rfl ?_
  refine g_sld (pc' := 408) hC hX hbl hbA (li_in (by omega) hL) dL_law_407 rfl ?_
  refine g_callV_i (pc' := 411) (w := wX) (ad := ax) (wr := wM (d.1, am, d.2.2) σm) (As := [.int (xs (Int32.toNatClampNeg ((Int32.ofNat k) + (Int32.ofNat 1)))), .int (xs (Int32.toNatClampNeg ((Int32.ofNat k) + (Int32.ofNat 2)))), .int (xs (Int32.toNatClampNeg ((Int32.ofNat k) + (Int32.ofNat 3))))]) (st := []) (n := 3) (ci := 11) hC hA hF (fun A1 => kX11_turn l (d.1, ax, d.2.2) A1 σx ((xs (Int32.toNatClampNeg ((Int32.ofNat k) + (Int32.ofNat 1))))) ((xs (Int32.toNatClampNeg ((Int32.ofNat k) + (Int32.ofNat 2))))) ((xs (Int32.toNatClampNeg ((Int32.ofNat k) + (Int32.ofNat 3)))))) hx9 (X_at_0 _ _) rfl (jgV ml_L_41 im_X11_turn se_X11_turn in_X11 cd_X11_turn) rfl rfl (by decide +kernel) ⟨Nat.le_of_ble_eq_true rfl, Nat.le_of_ble_eq_true rfl⟩ ⟨Nat.le_of_ble_eq_true rfl, Nat.le_of_ble_eq_true rfl⟩ rfl rfl (Nat.le_of_ble_eq_true rfl) rfl dL_law_408 rfl ?_
  refine g_aload_n (pc' := 412) hC 1 dL_law_411 rfl rfl rfl ?_
  refine g_aload_n (pc' := 413) hC 3 dL_law_412 rfl rfl rfl ?_
  refine g_iload_n (pc' := 414) hC 0 dL_law_413 rfl rfl rfl ?_
  refine g_iconst (pc' := 415) (v := (Int32.ofNat 1)) hC dL_law_414 (by decide) rfl ?_
  refine g_iadd (pc' := 416) hC dL_law_415 rfl ?_
  refine g_sld (pc' := 417) hC hX hbl hbA (li_in (by omega) hL) dL_law_416 rfl ?_
  refine g_aload_n (pc' := 418) hC 3 dL_law_417 rfl rfl rfl ?_
  refine g_iload_n (pc' := 419) hC 0 dL_law_418 rfl rfl rfl ?_
  refine g_iconst (pc' := 420) (v := (Int32.ofNat 2)) hC dL_law_419 (by decide) rfl ?_
  refine g_iadd (pc' := 421) hC dL_law_420 rfl ?_
  refine g_sld (pc' := 422) hC hX hbl hbA (li_in (by omega) hL) dL_law_421 rfl ?_
  refine g_aload_n (pc' := 423) hC 3 dL_law_422 rfl rfl rfl ?_
  refine g_iload_n (pc' := 424) hC 0 dL_law_423 rfl rfl rfl ?_
  refine g_iconst (pc' := 425) (v := (Int32.ofNat 3)) hC dL_law_424 (by decide) rfl ?_
  refine g_iadd (pc' := 426) hC dL_law_425 rfl ?_
  refine g_sld (pc' := 427) hC hX hbl hbA (li_in (by omega) hL) dL_law_426 rfl ?_
  refine g_callV_i (pc' := 430) (w := wM) (ad := am) (wr := wX (d.1, ax, d.2.2) σx') (As := [.int (xs (Int32.toNatClampNeg ((Int32.ofNat k) + (Int32.ofNat 1)))), .int (xs (Int32.toNatClampNeg ((Int32.ofNat k) + (Int32.ofNat 2)))), .int (xs (Int32.toNatClampNeg ((Int32.ofNat k) + (Int32.ofNat 3))))]) (st := [.int r]) (n := 3) (ci := 12) hC hA hF (fun A1 => kX12_turn l (d.1, am, d.2.2) A1 σm ((xs (Int32.toNatClampNeg ((Int32.ofNat k) + (Int32.ofNat 1))))) ((xs (Int32.toNatClampNeg ((Int32.ofNat k) + (Int32.ofNat 2))))) ((xs (Int32.toNatClampNeg ((Int32.ofNat k) + (Int32.ofNat 3)))))) hm9 (M_at_0 _ _) rfl (jgV ml_L_44 im_X12_turn se_X12_turn in_X12 cd_X12_turn) rfl rfl (by decide +kernel) ⟨Nat.le_of_ble_eq_true rfl, Nat.le_of_ble_eq_true rfl⟩ ⟨Nat.le_of_ble_eq_true rfl, Nat.le_of_ble_eq_true rfl⟩ rfl rfl (Nat.le_of_ble_eq_true rfl) rfl dL_law_427 rfl ?_
  exact g_icmp_same hC dL_law_430 rfl (next σx' σm' h9)
set_option maxHeartbeats 2000000 in
set_option maxRecDepth 100000 in
theorem law_case_7 {z : jZ} {d : jD} {A : Nat → Prop} {Q : State → Prop} {l : Launch} {b L : Nat} {xs : Nat → Int32} {ax am : Nat → Nat} {σx σm : jS} {k : Nat} (hK : lK z d A l b L xs) (hk : k + 6 ≤ L) (hAll : rAll σx σm) (next : ∀ σx1 σm1 : jS, rAll σx1 σm1 → lJ z d A Q b ax am σx1 σm1 k 1472) : lJ z d A Q b ax am σx σm k 435 := by
  obtain ⟨hC, hA, hF, hX, hbl, hbA, hL⟩ := hK
  obtain ⟨r, σx', σm', hx9, hm9, h9⟩ := all_longest hAll ((xs (Int32.toNatClampNeg ((Int32.ofNat k) + (Int32.ofNat 1))))) ((xs (Int32.toNatClampNeg ((Int32.ofNat k) + (Int32.ofNat 2)))))
  refine g_aload_n (pc' := 436) hC 2 dL_law_435 rfl rfl rfl ?_
  refine g_aload_n (pc' := 437) hC 3 dL_law_436 rfl rfl rfl ?_
  refine g_iload_n (pc' := 438) hC 0 dL_law_437 rfl rfl rfl ?_
  refine g_iconst (pc' := 439) (v := (Int32.ofNat 1)) hC dL_law_438 (by decide) rfl ?_
  refine g_iadd (pc' := 440) hC dL_law_439 rfl ?_
  refine g_sld (pc' := 441) hC hX hbl hbA (li_in (by omega) hL) dL_law_440 rfl ?_
  refine g_aload_n (pc' := 442) hC 3 dL_law_441 rfl rfl rfl ?_
  refine g_iload_n (pc' := 443) hC 0 dL_law_442 rfl rfl rfl ?_
  refine g_iconst (pc' := 444) (v := (Int32.ofNat 2)) hC dL_law_443 (by decide) rfl ?_
  refine g_iadd (pc' := 445) hC dL_law_444 rfl ?_
  refine g_sld (pc' := 446) hC hX hbl hbA (li_in (by omega) hL) dL_law_445 rfl ?_
  refine g_callV_i (pc' := 449) (w := wX) (ad := ax) (wr := wM (d.1, am, d.2.2) σm) (As := [.int (xs (Int32.toNatClampNeg ((Int32.ofNat k) + (Int32.ofNat 1)))), .int (xs (Int32.toNatClampNeg ((Int32.ofNat k) + (Int32.ofNat 2))))]) (st := []) (n := 2) (ci := 11) hC hA hF (fun A1 => kX11_longest l (d.1, ax, d.2.2) A1 σx ((xs (Int32.toNatClampNeg ((Int32.ofNat k) + (Int32.ofNat 1))))) ((xs (Int32.toNatClampNeg ((Int32.ofNat k) + (Int32.ofNat 2)))))) hx9 (X_at_0 _ _) rfl (jgV ml_L_45 im_X11_longest se_X11_longest in_X11 cd_X11_longest) rfl rfl (by decide +kernel) ⟨Nat.le_of_ble_eq_true rfl, Nat.le_of_ble_eq_true rfl⟩ ⟨Nat.le_of_ble_eq_true rfl, Nat.le_of_ble_eq_true rfl⟩ rfl rfl (Nat.le_of_ble_eq_true rfl) rfl dL_law_446 rfl ?_
  refine g_aload_n (pc' := 450) hC 1 dL_law_449 rfl rfl rfl ?_
  refine g_aload_n (pc' := 451) hC 3 dL_law_450 rfl rfl rfl ?_
  refine g_iload_n (pc' := 452) hC 0 dL_law_451 rfl rfl rfl ?_
  refine g_iconst (pc' := 453) (v := (Int32.ofNat 1)) hC dL_law_452 (by decide) rfl ?_
  refine g_iadd (pc' := 454) hC dL_law_453 rfl ?_
  refine g_sld (pc' := 455) hC hX hbl hbA (li_in (by omega) hL) dL_law_454 rfl ?_
  refine g_aload_n (pc' := 456) hC 3 dL_law_455 rfl rfl rfl ?_
  refine g_iload_n (pc' := 457) hC 0 dL_law_456 rfl rfl rfl ?_
  refine g_iconst (pc' := 458) (v := (Int32.ofNat 2)) hC dL_law_457 (by decide) rfl ?_
  refine g_iadd (pc' := 459) hC dL_law_458 rfl ?_
  refine g_sld (pc' := 460) hC hX hbl hbA (li_in (by omega) hL) dL_law_459 rfl ?_
  refine g_callV_i (pc' := 463) (w := wM) (ad := am) (wr := wX (d.1, ax, d.2.2) σx') (As := [.int (xs (Int32.toNatClampNeg ((Int32.ofNat k) + (Int32.ofNat 1)))), .int (xs (Int32.toNatClampNeg ((Int32.ofNat k) + (Int32.ofNat 2))))]) (st := [.int r]) (n := 2) (ci := 12) hC hA hF (fun A1 => kX12_longest l (d.1, am, d.2.2) A1 σm ((xs (Int32.toNatClampNeg ((Int32.ofNat k) + (Int32.ofNat 1))))) ((xs (Int32.toNatClampNeg ((Int32.ofNat k) + (Int32.ofNat 2)))))) hm9 (M_at_0 _ _) rfl (jgV ml_L_48 im_X12_longest se_X12_longest in_X12 cd_X12_longest) rfl rfl (by decide +kernel) ⟨Nat.le_of_ble_eq_true rfl, Nat.le_of_ble_eq_true rfl⟩ ⟨Nat.le_of_ble_eq_true rfl, Nat.le_of_ble_eq_true rfl⟩ rfl rfl (Nat.le_of_ble_eq_true rfl) rfl dL_law_460 rfl ?_
  exact g_icmp_same hC dL_law_463 rfl (next σx' σm' h9)
set_option maxHeartbeats 2000000 in
set_option maxRecDepth 100000 in
theorem law_case_8 {z : jZ} {d : jD} {A : Nat → Prop} {Q : State → Prop} {l : Launch} {b L : Nat} {xs : Nat → Int32} {ax am : Nat → Nat} {σx σm : jS} {k : Nat} (hK : lK z d A l b L xs) (hk : k + 6 ≤ L) (hAll : rAll σx σm) (next : ∀ σx1 σm1 : jS, rAll σx1 σm1 → lJ z d A Q b ax am σx1 σm1 k 1472) : lJ z d A Q b ax am σx σm k 468 := by
  obtain ⟨hC, hA, hF, hX, hbl, hbA, hL⟩ := hK
  obtain ⟨r, σx', σm', hx9, hm9, h9⟩ := all_counter hAll ((xs (Int32.toNatClampNeg ((Int32.ofNat k) + (Int32.ofNat 1))))) ((xs (Int32.toNatClampNeg ((Int32.ofNat k) + (Int32.ofNat 2)))))
  refine g_aload_n (pc' := 469) hC 2 dL_law_468 rfl rfl rfl ?_
  refine g_aload_n (pc' := 470) hC 3 dL_law_469 rfl rfl rfl ?_
  refine g_iload_n (pc' := 471) hC 0 dL_law_470 rfl rfl rfl ?_
  refine g_iconst (pc' := 472) (v := (Int32.ofNat 1)) hC dL_law_471 (by decide) rfl ?_
  refine g_iadd (pc' := 473) hC dL_law_472 rfl ?_
  refine g_sld (pc' := 474) hC hX hbl hbA (li_in (by omega) hL) dL_law_473 rfl ?_
  refine g_aload_n (pc' := 475) hC 3 dL_law_474 rfl rfl rfl ?_
  refine g_iload_n (pc' := 476) hC 0 dL_law_475 rfl rfl rfl ?_
  refine g_iconst (pc' := 477) (v := (Int32.ofNat 2)) hC dL_law_476 (by decide) rfl ?_
  refine g_iadd (pc' := 478) hC dL_law_477 rfl ?_
  refine g_sld (pc' := 479) hC hX hbl hbA (li_in (by omega) hL) dL_law_478 rfl ?_
  refine g_callV_i (pc' := 482) (w := wX) (ad := ax) (wr := wM (d.1, am, d.2.2) σm) (As := [.int (xs (Int32.toNatClampNeg ((Int32.ofNat k) + (Int32.ofNat 1)))), .int (xs (Int32.toNatClampNeg ((Int32.ofNat k) + (Int32.ofNat 2))))]) (st := []) (n := 2) (ci := 11) hC hA hF (fun A1 => kX11_counter l (d.1, ax, d.2.2) A1 σx ((xs (Int32.toNatClampNeg ((Int32.ofNat k) + (Int32.ofNat 1))))) ((xs (Int32.toNatClampNeg ((Int32.ofNat k) + (Int32.ofNat 2)))))) hx9 (X_at_0 _ _) rfl (jgV ml_L_49 im_X11_counter se_X11_counter in_X11 cd_X11_counter) rfl rfl (by decide +kernel) ⟨Nat.le_of_ble_eq_true rfl, Nat.le_of_ble_eq_true rfl⟩ ⟨Nat.le_of_ble_eq_true rfl, Nat.le_of_ble_eq_true rfl⟩ rfl rfl (Nat.le_of_ble_eq_true rfl) rfl dL_law_479 rfl ?_
  refine g_aload_n (pc' := 483) hC 1 dL_law_482 rfl rfl rfl ?_
  refine g_aload_n (pc' := 484) hC 3 dL_law_483 rfl rfl rfl ?_
  refine g_iload_n (pc' := 485) hC 0 dL_law_484 rfl rfl rfl ?_
  refine g_iconst (pc' := 486) (v := (Int32.ofNat 1)) hC dL_law_485 (by decide) rfl ?_
  refine g_iadd (pc' := 487) hC dL_law_486 rfl ?_
  refine g_sld (pc' := 488) hC hX hbl hbA (li_in (by omega) hL) dL_law_487 rfl ?_
  refine g_aload_n (pc' := 489) hC 3 dL_law_488 rfl rfl rfl ?_
  refine g_iload_n (pc' := 490) hC 0 dL_law_489 rfl rfl rfl ?_
  refine g_iconst (pc' := 491) (v := (Int32.ofNat 2)) hC dL_law_490 (by decide) rfl ?_
  refine g_iadd (pc' := 492) hC dL_law_491 rfl ?_
  refine g_sld (pc' := 493) hC hX hbl hbA (li_in (by omega) hL) dL_law_492 rfl ?_
  refine g_callV_i (pc' := 496) (w := wM) (ad := am) (wr := wX (d.1, ax, d.2.2) σx') (As := [.int (xs (Int32.toNatClampNeg ((Int32.ofNat k) + (Int32.ofNat 1)))), .int (xs (Int32.toNatClampNeg ((Int32.ofNat k) + (Int32.ofNat 2))))]) (st := [.int r]) (n := 2) (ci := 12) hC hA hF (fun A1 => kX12_counter l (d.1, am, d.2.2) A1 σm ((xs (Int32.toNatClampNeg ((Int32.ofNat k) + (Int32.ofNat 1))))) ((xs (Int32.toNatClampNeg ((Int32.ofNat k) + (Int32.ofNat 2)))))) hm9 (M_at_0 _ _) rfl (jgV ml_L_52 im_X12_counter se_X12_counter in_X12 cd_X12_counter) rfl rfl (by decide +kernel) ⟨Nat.le_of_ble_eq_true rfl, Nat.le_of_ble_eq_true rfl⟩ ⟨Nat.le_of_ble_eq_true rfl, Nat.le_of_ble_eq_true rfl⟩ rfl rfl (Nat.le_of_ble_eq_true rfl) rfl dL_law_493 rfl ?_
  exact g_icmp_same hC dL_law_496 rfl (next σx' σm' h9)
set_option maxHeartbeats 2000000 in
set_option maxRecDepth 100000 in
theorem law_case_9 {z : jZ} {d : jD} {A : Nat → Prop} {Q : State → Prop} {l : Launch} {b L : Nat} {xs : Nat → Int32} {ax am : Nat → Nat} {σx σm : jS} {k : Nat} (hK : lK z d A l b L xs) (hk : k + 6 ≤ L) (hAll : rAll σx σm) (next : ∀ σx1 σm1 : jS, rAll σx1 σm1 → lJ z d A Q b ax am σx1 σm1 k 1472) : lJ z d A Q b ax am σx σm k 501 := by
  obtain ⟨hC, hA, hF, hX, hbl, hbA, hL⟩ := hK
  obtain ⟨r, σx', σm', hx9, hm9, h9⟩ := all_unfair hAll ((xs (Int32.toNatClampNeg ((Int32.ofNat k) + (Int32.ofNat 1))))) ((xs (Int32.toNatClampNeg ((Int32.ofNat k) + (Int32.ofNat 2)))))
  refine g_aload_n (pc' := 502) hC 2 dL_law_501 rfl rfl rfl ?_
  refine g_aload_n (pc' := 503) hC 3 dL_law_502 rfl rfl rfl ?_
  refine g_iload_n (pc' := 504) hC 0 dL_law_503 rfl rfl rfl ?_
  refine g_iconst (pc' := 505) (v := (Int32.ofNat 1)) hC dL_law_504 (by decide) rfl ?_
  refine g_iadd (pc' := 506) hC dL_law_505 rfl ?_
  refine g_sld (pc' := 507) hC hX hbl hbA (li_in (by omega) hL) dL_law_506 rfl ?_
  refine g_aload_n (pc' := 508) hC 3 dL_law_507 rfl rfl rfl ?_
  refine g_iload_n (pc' := 509) hC 0 dL_law_508 rfl rfl rfl ?_
  refine g_iconst (pc' := 510) (v := (Int32.ofNat 2)) hC dL_law_509 (by decide) rfl ?_
  refine g_iadd (pc' := 511) hC dL_law_510 rfl ?_
  refine g_sld (pc' := 512) hC hX hbl hbA (li_in (by omega) hL) dL_law_511 rfl ?_
  refine g_callV_i (pc' := 515) (w := wX) (ad := ax) (wr := wM (d.1, am, d.2.2) σm) (As := [.int (xs (Int32.toNatClampNeg ((Int32.ofNat k) + (Int32.ofNat 1)))), .int (xs (Int32.toNatClampNeg ((Int32.ofNat k) + (Int32.ofNat 2))))]) (st := []) (n := 2) (ci := 11) hC hA hF (fun A1 => kX11_unfair l (d.1, ax, d.2.2) A1 σx ((xs (Int32.toNatClampNeg ((Int32.ofNat k) + (Int32.ofNat 1))))) ((xs (Int32.toNatClampNeg ((Int32.ofNat k) + (Int32.ofNat 2)))))) hx9 (X_at_0 _ _) rfl (jgV ml_L_53 im_X11_unfair se_X11_unfair in_X11 cd_X11_unfair) rfl rfl (by decide +kernel) ⟨Nat.le_of_ble_eq_true rfl, Nat.le_of_ble_eq_true rfl⟩ ⟨Nat.le_of_ble_eq_true rfl, Nat.le_of_ble_eq_true rfl⟩ rfl rfl (Nat.le_of_ble_eq_true rfl) rfl dL_law_512 rfl ?_
  refine g_aload_n (pc' := 516) hC 1 dL_law_515 rfl rfl rfl ?_
  refine g_aload_n (pc' := 517) hC 3 dL_law_516 rfl rfl rfl ?_
  refine g_iload_n (pc' := 518) hC 0 dL_law_517 rfl rfl rfl ?_
  refine g_iconst (pc' := 519) (v := (Int32.ofNat 1)) hC dL_law_518 (by decide) rfl ?_
  refine g_iadd (pc' := 520) hC dL_law_519 rfl ?_
  refine g_sld (pc' := 521) hC hX hbl hbA (li_in (by omega) hL) dL_law_520 rfl ?_
  refine g_aload_n (pc' := 522) hC 3 dL_law_521 rfl rfl rfl ?_
  refine g_iload_n (pc' := 523) hC 0 dL_law_522 rfl rfl rfl ?_
  refine g_iconst (pc' := 524) (v := (Int32.ofNat 2)) hC dL_law_523 (by decide) rfl ?_
  refine g_iadd (pc' := 525) hC dL_law_524 rfl ?_
  refine g_sld (pc' := 526) hC hX hbl hbA (li_in (by omega) hL) dL_law_525 rfl ?_
  refine g_callV_i (pc' := 529) (w := wM) (ad := am) (wr := wX (d.1, ax, d.2.2) σx') (As := [.int (xs (Int32.toNatClampNeg ((Int32.ofNat k) + (Int32.ofNat 1)))), .int (xs (Int32.toNatClampNeg ((Int32.ofNat k) + (Int32.ofNat 2))))]) (st := [.int r]) (n := 2) (ci := 12) hC hA hF (fun A1 => kX12_unfair l (d.1, am, d.2.2) A1 σm ((xs (Int32.toNatClampNeg ((Int32.ofNat k) + (Int32.ofNat 1))))) ((xs (Int32.toNatClampNeg ((Int32.ofNat k) + (Int32.ofNat 2)))))) hm9 (M_at_0 _ _) rfl (jgV ml_L_56 im_X12_unfair se_X12_unfair in_X12 cd_X12_unfair) rfl rfl (by decide +kernel) ⟨Nat.le_of_ble_eq_true rfl, Nat.le_of_ble_eq_true rfl⟩ ⟨Nat.le_of_ble_eq_true rfl, Nat.le_of_ble_eq_true rfl⟩ rfl rfl (Nat.le_of_ble_eq_true rfl) rfl dL_law_526 rfl ?_
  exact g_icmp_same hC dL_law_529 rfl (next σx' σm' h9)
set_option maxHeartbeats 2000000 in
set_option maxRecDepth 100000 in
theorem law_case_10 {z : jZ} {d : jD} {A : Nat → Prop} {Q : State → Prop} {l : Launch} {b L : Nat} {xs : Nat → Int32} {ax am : Nat → Nat} {σx σm : jS} {k : Nat} (hK : lK z d A l b L xs) (hk : k + 6 ≤ L) (hAll : rAll σx σm) (next : ∀ σx1 σm1 : jS, rAll σx1 σm1 → lJ z d A Q b ax am σx1 σm1 k 1472) : lJ z d A Q b ax am σx σm k 534 := by
  obtain ⟨hC, hA, hF, hX, hbl, hbA, hL⟩ := hK
  obtain ⟨r, σx', σm', hx9, hm9, h9⟩ := all_afternoon hAll ((xs (Int32.toNatClampNeg ((Int32.ofNat k) + (Int32.ofNat 1))))) ((xs (Int32.toNatClampNeg ((Int32.ofNat k) + (Int32.ofNat 2))))) ((xs (Int32.toNatClampNeg ((Int32.ofNat k) + (Int32.ofNat 3)))))
  refine g_aload_n (pc' := 535) hC 2 dL_law_534 rfl rfl rfl ?_
  refine g_aload_n (pc' := 536) hC 3 dL_law_535 rfl rfl rfl ?_
  refine g_iload_n (pc' := 537) hC 0 dL_law_536 rfl rfl rfl ?_
  refine g_iconst (pc' := 538) (v := (Int32.ofNat 1)) hC dL_law_537 (by decide) rfl ?_
  refine g_iadd (pc' := 539) hC dL_law_538 rfl ?_
  refine g_sld (pc' := 540) hC hX hbl hbA (li_in (by omega) hL) dL_law_539 rfl ?_
  refine g_aload_n (pc' := 541) hC 3 dL_law_540 rfl rfl rfl ?_
  refine g_iload_n (pc' := 542) hC 0 dL_law_541 rfl rfl rfl ?_
  refine g_iconst (pc' := 543) (v := (Int32.ofNat 2)) hC dL_law_542 (by decide) rfl ?_
  refine g_iadd (pc' := 544) hC dL_law_543 rfl ?_
  refine g_sld (pc' := 545) hC hX hbl hbA (li_in (by omega) hL) dL_law_544 rfl ?_
  refine g_aload_n (pc' := 546) hC 3 dL_law_545 rfl rfl rfl ?_
  refine g_iload_n (pc' := 547) hC 0 dL_law_546 rfl rfl rfl ?_
  refine g_iconst (pc' := 548) (v := (Int32.ofNat 3)) hC dL_law_547 (by decide) rfl ?_
  refine g_iadd (pc' := 549) hC dL_law_548 rfl ?_
  refine g_sld (pc' := 550) hC hX hbl hbA (li_in (by omega) hL) dL_law_549 rfl ?_
  refine g_callV_i (pc' := 553) (w := wX) (ad := ax) (wr := wM (d.1, am, d.2.2) σm) (As := [.int (xs (Int32.toNatClampNeg ((Int32.ofNat k) + (Int32.ofNat 1)))), .int (xs (Int32.toNatClampNeg ((Int32.ofNat k) + (Int32.ofNat 2)))), .int (xs (Int32.toNatClampNeg ((Int32.ofNat k) + (Int32.ofNat 3))))]) (st := []) (n := 3) (ci := 11) hC hA hF (fun A1 => kX11_afternoon l (d.1, ax, d.2.2) A1 σx ((xs (Int32.toNatClampNeg ((Int32.ofNat k) + (Int32.ofNat 1))))) ((xs (Int32.toNatClampNeg ((Int32.ofNat k) + (Int32.ofNat 2))))) ((xs (Int32.toNatClampNeg ((Int32.ofNat k) + (Int32.ofNat 3)))))) hx9 (X_at_0 _ _) rfl (jgV ml_L_57 im_X11_afternoon se_X11_afternoon in_X11 cd_X11_afternoon) rfl rfl (by decide +kernel) ⟨Nat.le_of_ble_eq_true rfl, Nat.le_of_ble_eq_true rfl⟩ ⟨Nat.le_of_ble_eq_true rfl, Nat.le_of_ble_eq_true rfl⟩ rfl rfl (Nat.le_of_ble_eq_true rfl) rfl dL_law_550 rfl ?_
  refine g_aload_n (pc' := 554) hC 1 dL_law_553 rfl rfl rfl ?_
  refine g_aload_n (pc' := 555) hC 3 dL_law_554 rfl rfl rfl ?_
  refine g_iload_n (pc' := 556) hC 0 dL_law_555 rfl rfl rfl ?_
  refine g_iconst (pc' := 557) (v := (Int32.ofNat 1)) hC dL_law_556 (by decide) rfl ?_
  refine g_iadd (pc' := 558) hC dL_law_557 rfl ?_
  refine g_sld (pc' := 559) hC hX hbl hbA (li_in (by omega) hL) dL_law_558 rfl ?_
  refine g_aload_n (pc' := 560) hC 3 dL_law_559 rfl rfl rfl ?_
  refine g_iload_n (pc' := 561) hC 0 dL_law_560 rfl rfl rfl ?_
  refine g_iconst (pc' := 562) (v := (Int32.ofNat 2)) hC dL_law_561 (by decide) rfl ?_
  refine g_iadd (pc' := 563) hC dL_law_562 rfl ?_
  refine g_sld (pc' := 564) hC hX hbl hbA (li_in (by omega) hL) dL_law_563 rfl ?_
  refine g_aload_n (pc' := 565) hC 3 dL_law_564 rfl rfl rfl ?_
  refine g_iload_n (pc' := 566) hC 0 dL_law_565 rfl rfl rfl ?_
  refine g_iconst (pc' := 567) (v := (Int32.ofNat 3)) hC dL_law_566 (by decide) rfl ?_
  refine g_iadd (pc' := 568) hC dL_law_567 rfl ?_
  refine g_sld (pc' := 569) hC hX hbl hbA (li_in (by omega) hL) dL_law_568 rfl ?_
  refine g_callV_i (pc' := 572) (w := wM) (ad := am) (wr := wX (d.1, ax, d.2.2) σx') (As := [.int (xs (Int32.toNatClampNeg ((Int32.ofNat k) + (Int32.ofNat 1)))), .int (xs (Int32.toNatClampNeg ((Int32.ofNat k) + (Int32.ofNat 2)))), .int (xs (Int32.toNatClampNeg ((Int32.ofNat k) + (Int32.ofNat 3))))]) (st := [.int r]) (n := 3) (ci := 12) hC hA hF (fun A1 => kX12_afternoon l (d.1, am, d.2.2) A1 σm ((xs (Int32.toNatClampNeg ((Int32.ofNat k) + (Int32.ofNat 1))))) ((xs (Int32.toNatClampNeg ((Int32.ofNat k) + (Int32.ofNat 2))))) ((xs (Int32.toNatClampNeg ((Int32.ofNat k) + (Int32.ofNat 3)))))) hm9 (M_at_0 _ _) rfl (jgV ml_L_60 im_X12_afternoon se_X12_afternoon in_X12 cd_X12_afternoon) rfl rfl (by decide +kernel) ⟨Nat.le_of_ble_eq_true rfl, Nat.le_of_ble_eq_true rfl⟩ ⟨Nat.le_of_ble_eq_true rfl, Nat.le_of_ble_eq_true rfl⟩ rfl rfl (Nat.le_of_ble_eq_true rfl) rfl dL_law_569 rfl ?_
  exact g_icmp_same hC dL_law_572 rfl (next σx' σm' h9)
set_option maxHeartbeats 2000000 in
set_option maxRecDepth 100000 in
theorem law_case_11 {z : jZ} {d : jD} {A : Nat → Prop} {Q : State → Prop} {l : Launch} {b L : Nat} {xs : Nat → Int32} {ax am : Nat → Nat} {σx σm : jS} {k : Nat} (hK : lK z d A l b L xs) (hk : k + 6 ≤ L) (hAll : rAll σx σm) (next : ∀ σx1 σm1 : jS, rAll σx1 σm1 → lJ z d A Q b ax am σx1 σm1 k 1472) : lJ z d A Q b ax am σx σm k 577 := by
  obtain ⟨hC, hA, hF, hX, hbl, hbA, hL⟩ := hK
  obtain ⟨r, σx', σm', hx9, hm9, h9⟩ := all_been hAll ((xs (Int32.toNatClampNeg ((Int32.ofNat k) + (Int32.ofNat 1))))) ((xs (Int32.toNatClampNeg ((Int32.ofNat k) + (Int32.ofNat 2)))))
  refine g_aload_n (pc' := 578) hC 2 dL_law_577 rfl rfl rfl ?_
  refine g_aload_n (pc' := 579) hC 3 dL_law_578 rfl rfl rfl ?_
  refine g_iload_n (pc' := 580) hC 0 dL_law_579 rfl rfl rfl ?_
  refine g_iconst (pc' := 581) (v := (Int32.ofNat 1)) hC dL_law_580 (by decide) rfl ?_
  refine g_iadd (pc' := 582) hC dL_law_581 rfl ?_
  refine g_sld (pc' := 583) hC hX hbl hbA (li_in (by omega) hL) dL_law_582 rfl ?_
  refine g_aload_n (pc' := 584) hC 3 dL_law_583 rfl rfl rfl ?_
  refine g_iload_n (pc' := 585) hC 0 dL_law_584 rfl rfl rfl ?_
  refine g_iconst (pc' := 586) (v := (Int32.ofNat 2)) hC dL_law_585 (by decide) rfl ?_
  refine g_iadd (pc' := 587) hC dL_law_586 rfl ?_
  refine g_sld (pc' := 588) hC hX hbl hbA (li_in (by omega) hL) dL_law_587 rfl ?_
  refine g_callV_i (pc' := 591) (w := wX) (ad := ax) (wr := wM (d.1, am, d.2.2) σm) (As := [.int (xs (Int32.toNatClampNeg ((Int32.ofNat k) + (Int32.ofNat 1)))), .int (xs (Int32.toNatClampNeg ((Int32.ofNat k) + (Int32.ofNat 2))))]) (st := []) (n := 2) (ci := 11) hC hA hF (fun A1 => kX11_been l (d.1, ax, d.2.2) A1 σx ((xs (Int32.toNatClampNeg ((Int32.ofNat k) + (Int32.ofNat 1))))) ((xs (Int32.toNatClampNeg ((Int32.ofNat k) + (Int32.ofNat 2)))))) hx9 (X_at_0 _ _) rfl (jgV ml_L_61 im_X11_been se_X11_been in_X11 cd_X11_been) rfl rfl (by decide +kernel) ⟨Nat.le_of_ble_eq_true rfl, Nat.le_of_ble_eq_true rfl⟩ ⟨Nat.le_of_ble_eq_true rfl, Nat.le_of_ble_eq_true rfl⟩ rfl rfl (Nat.le_of_ble_eq_true rfl) rfl dL_law_588 rfl ?_
  refine g_aload_n (pc' := 592) hC 1 dL_law_591 rfl rfl rfl ?_
  refine g_aload_n (pc' := 593) hC 3 dL_law_592 rfl rfl rfl ?_
  refine g_iload_n (pc' := 594) hC 0 dL_law_593 rfl rfl rfl ?_
  refine g_iconst (pc' := 595) (v := (Int32.ofNat 1)) hC dL_law_594 (by decide) rfl ?_
  refine g_iadd (pc' := 596) hC dL_law_595 rfl ?_
  refine g_sld (pc' := 597) hC hX hbl hbA (li_in (by omega) hL) dL_law_596 rfl ?_
  refine g_aload_n (pc' := 598) hC 3 dL_law_597 rfl rfl rfl ?_
  refine g_iload_n (pc' := 599) hC 0 dL_law_598 rfl rfl rfl ?_
  refine g_iconst (pc' := 600) (v := (Int32.ofNat 2)) hC dL_law_599 (by decide) rfl ?_
  refine g_iadd (pc' := 601) hC dL_law_600 rfl ?_
  refine g_sld (pc' := 602) hC hX hbl hbA (li_in (by omega) hL) dL_law_601 rfl ?_
  refine g_callV_i (pc' := 605) (w := wM) (ad := am) (wr := wX (d.1, ax, d.2.2) σx') (As := [.int (xs (Int32.toNatClampNeg ((Int32.ofNat k) + (Int32.ofNat 1)))), .int (xs (Int32.toNatClampNeg ((Int32.ofNat k) + (Int32.ofNat 2))))]) (st := [.int r]) (n := 2) (ci := 12) hC hA hF (fun A1 => kX12_been l (d.1, am, d.2.2) A1 σm ((xs (Int32.toNatClampNeg ((Int32.ofNat k) + (Int32.ofNat 1))))) ((xs (Int32.toNatClampNeg ((Int32.ofNat k) + (Int32.ofNat 2)))))) hm9 (M_at_0 _ _) rfl (jgV ml_L_64 im_X12_been se_X12_been in_X12 cd_X12_been) rfl rfl (by decide +kernel) ⟨Nat.le_of_ble_eq_true rfl, Nat.le_of_ble_eq_true rfl⟩ ⟨Nat.le_of_ble_eq_true rfl, Nat.le_of_ble_eq_true rfl⟩ rfl rfl (Nat.le_of_ble_eq_true rfl) rfl dL_law_602 rfl ?_
  exact g_icmp_same hC dL_law_605 rfl (next σx' σm' h9)
set_option maxHeartbeats 2000000 in
set_option maxRecDepth 100000 in
theorem law_case_12 {z : jZ} {d : jD} {A : Nat → Prop} {Q : State → Prop} {l : Launch} {b L : Nat} {xs : Nat → Int32} {ax am : Nat → Nat} {σx σm : jS} {k : Nat} (hK : lK z d A l b L xs) (hk : k + 6 ≤ L) (hAll : rAll σx σm) (next : ∀ σx1 σm1 : jS, rAll σx1 σm1 → lJ z d A Q b ax am σx1 σm1 k 1472) : lJ z d A Q b ax am σx σm k 610 := by
  obtain ⟨hC, hA, hF, hX, hbl, hbA, hL⟩ := hK
  obtain ⟨r, σx', σm', hx9, hm9, h9⟩ := all_join hAll ((xs (Int32.toNatClampNeg ((Int32.ofNat k) + (Int32.ofNat 1))))) ((xs (Int32.toNatClampNeg ((Int32.ofNat k) + (Int32.ofNat 2))))) ((xs (Int32.toNatClampNeg ((Int32.ofNat k) + (Int32.ofNat 3)))))
  refine g_aload_n (pc' := 611) hC 2 dL_law_610 rfl rfl rfl ?_
  refine g_aload_n (pc' := 612) hC 3 dL_law_611 rfl rfl rfl ?_
  refine g_iload_n (pc' := 613) hC 0 dL_law_612 rfl rfl rfl ?_
  refine g_iconst (pc' := 614) (v := (Int32.ofNat 1)) hC dL_law_613 (by decide) rfl ?_
  refine g_iadd (pc' := 615) hC dL_law_614 rfl ?_
  refine g_sld (pc' := 616) hC hX hbl hbA (li_in (by omega) hL) dL_law_615 rfl ?_
  refine g_aload_n (pc' := 617) hC 3 dL_law_616 rfl rfl rfl ?_
  refine g_iload_n (pc' := 618) hC 0 dL_law_617 rfl rfl rfl ?_
  refine g_iconst (pc' := 619) (v := (Int32.ofNat 2)) hC dL_law_618 (by decide) rfl ?_
  refine g_iadd (pc' := 620) hC dL_law_619 rfl ?_
  refine g_sld (pc' := 621) hC hX hbl hbA (li_in (by omega) hL) dL_law_620 rfl ?_
  refine g_aload_n (pc' := 622) hC 3 dL_law_621 rfl rfl rfl ?_
  refine g_iload_n (pc' := 623) hC 0 dL_law_622 rfl rfl rfl ?_
  refine g_iconst (pc' := 624) (v := (Int32.ofNat 3)) hC dL_law_623 (by decide) rfl ?_
  refine g_iadd (pc' := 625) hC dL_law_624 rfl ?_
  refine g_sld (pc' := 626) hC hX hbl hbA (li_in (by omega) hL) dL_law_625 rfl ?_
  refine g_callV_i (pc' := 629) (w := wX) (ad := ax) (wr := wM (d.1, am, d.2.2) σm) (As := [.int (xs (Int32.toNatClampNeg ((Int32.ofNat k) + (Int32.ofNat 1)))), .int (xs (Int32.toNatClampNeg ((Int32.ofNat k) + (Int32.ofNat 2)))), .int (xs (Int32.toNatClampNeg ((Int32.ofNat k) + (Int32.ofNat 3))))]) (st := []) (n := 3) (ci := 11) hC hA hF (fun A1 => kX11_join l (d.1, ax, d.2.2) A1 σx ((xs (Int32.toNatClampNeg ((Int32.ofNat k) + (Int32.ofNat 1))))) ((xs (Int32.toNatClampNeg ((Int32.ofNat k) + (Int32.ofNat 2))))) ((xs (Int32.toNatClampNeg ((Int32.ofNat k) + (Int32.ofNat 3)))))) hx9 (X_at_0 _ _) rfl (jgV ml_L_65 im_X11_join se_X11_join in_X11 cd_X11_join) rfl rfl (by decide +kernel) ⟨Nat.le_of_ble_eq_true rfl, Nat.le_of_ble_eq_true rfl⟩ ⟨Nat.le_of_ble_eq_true rfl, Nat.le_of_ble_eq_true rfl⟩ rfl rfl (Nat.le_of_ble_eq_true rfl) rfl dL_law_626 rfl ?_
  refine g_aload_n (pc' := 630) hC 1 dL_law_629 rfl rfl rfl ?_
  refine g_aload_n (pc' := 631) hC 3 dL_law_630 rfl rfl rfl ?_
  refine g_iload_n (pc' := 632) hC 0 dL_law_631 rfl rfl rfl ?_
  refine g_iconst (pc' := 633) (v := (Int32.ofNat 1)) hC dL_law_632 (by decide) rfl ?_
  refine g_iadd (pc' := 634) hC dL_law_633 rfl ?_
  refine g_sld (pc' := 635) hC hX hbl hbA (li_in (by omega) hL) dL_law_634 rfl ?_
  refine g_aload_n (pc' := 636) hC 3 dL_law_635 rfl rfl rfl ?_
  refine g_iload_n (pc' := 637) hC 0 dL_law_636 rfl rfl rfl ?_
  refine g_iconst (pc' := 638) (v := (Int32.ofNat 2)) hC dL_law_637 (by decide) rfl ?_
  refine g_iadd (pc' := 639) hC dL_law_638 rfl ?_
  refine g_sld (pc' := 640) hC hX hbl hbA (li_in (by omega) hL) dL_law_639 rfl ?_
  refine g_aload_n (pc' := 641) hC 3 dL_law_640 rfl rfl rfl ?_
  refine g_iload_n (pc' := 642) hC 0 dL_law_641 rfl rfl rfl ?_
  refine g_iconst (pc' := 643) (v := (Int32.ofNat 3)) hC dL_law_642 (by decide) rfl ?_
  refine g_iadd (pc' := 644) hC dL_law_643 rfl ?_
  refine g_sld (pc' := 645) hC hX hbl hbA (li_in (by omega) hL) dL_law_644 rfl ?_
  refine g_callV_i (pc' := 648) (w := wM) (ad := am) (wr := wX (d.1, ax, d.2.2) σx') (As := [.int (xs (Int32.toNatClampNeg ((Int32.ofNat k) + (Int32.ofNat 1)))), .int (xs (Int32.toNatClampNeg ((Int32.ofNat k) + (Int32.ofNat 2)))), .int (xs (Int32.toNatClampNeg ((Int32.ofNat k) + (Int32.ofNat 3))))]) (st := [.int r]) (n := 3) (ci := 12) hC hA hF (fun A1 => kX12_join l (d.1, am, d.2.2) A1 σm ((xs (Int32.toNatClampNeg ((Int32.ofNat k) + (Int32.ofNat 1))))) ((xs (Int32.toNatClampNeg ((Int32.ofNat k) + (Int32.ofNat 2))))) ((xs (Int32.toNatClampNeg ((Int32.ofNat k) + (Int32.ofNat 3)))))) hm9 (M_at_0 _ _) rfl (jgV ml_L_68 im_X12_join se_X12_join in_X12 cd_X12_join) rfl rfl (by decide +kernel) ⟨Nat.le_of_ble_eq_true rfl, Nat.le_of_ble_eq_true rfl⟩ ⟨Nat.le_of_ble_eq_true rfl, Nat.le_of_ble_eq_true rfl⟩ rfl rfl (Nat.le_of_ble_eq_true rfl) rfl dL_law_645 rfl ?_
  exact g_icmp_same hC dL_law_648 rfl (next σx' σm' h9)
set_option maxHeartbeats 2000000 in
set_option maxRecDepth 100000 in
theorem law_case_13 {z : jZ} {d : jD} {A : Nat → Prop} {Q : State → Prop} {l : Launch} {b L : Nat} {xs : Nat → Int32} {ax am : Nat → Nat} {σx σm : jS} {k : Nat} (hK : lK z d A l b L xs) (hk : k + 6 ≤ L) (hAll : rAll σx σm) (next : ∀ σx1 σm1 : jS, rAll σx1 σm1 → lJ z d A Q b ax am σx1 σm1 k 1472) : lJ z d A Q b ax am σx σm k 653 := by
  obtain ⟨hC, hA, hF, hX, hbl, hbA, hL⟩ := hK
  obtain ⟨r, σx', σm', hx9, hm9, h9⟩ := all_each hAll ((xs (Int32.toNatClampNeg ((Int32.ofNat k) + (Int32.ofNat 1)))))
  refine g_aload_n (pc' := 654) hC 2 dL_law_653 rfl rfl rfl ?_
  refine g_aload_n (pc' := 655) hC 3 dL_law_654 rfl rfl rfl ?_
  refine g_iload_n (pc' := 656) hC 0 dL_law_655 rfl rfl rfl ?_
  refine g_iconst (pc' := 657) (v := (Int32.ofNat 1)) hC dL_law_656 (by decide) rfl ?_
  refine g_iadd (pc' := 658) hC dL_law_657 rfl ?_
  refine g_sld (pc' := 659) hC hX hbl hbA (li_in (by omega) hL) dL_law_658 rfl ?_
  refine g_callV_i (pc' := 662) (w := wX) (ad := ax) (wr := wM (d.1, am, d.2.2) σm) (As := [.int (xs (Int32.toNatClampNeg ((Int32.ofNat k) + (Int32.ofNat 1))))]) (st := []) (n := 1) (ci := 11) hC hA hF (fun A1 => kX11_each l (d.1, ax, d.2.2) A1 σx ((xs (Int32.toNatClampNeg ((Int32.ofNat k) + (Int32.ofNat 1)))))) hx9 (X_at_0 _ _) rfl (jgV ml_L_69 im_X11_each se_X11_each in_X11 cd_X11_each) rfl rfl (by decide +kernel) ⟨Nat.le_of_ble_eq_true rfl, Nat.le_of_ble_eq_true rfl⟩ ⟨Nat.le_of_ble_eq_true rfl, Nat.le_of_ble_eq_true rfl⟩ rfl rfl (Nat.le_of_ble_eq_true rfl) rfl dL_law_659 rfl ?_
  refine g_aload_n (pc' := 663) hC 1 dL_law_662 rfl rfl rfl ?_
  refine g_aload_n (pc' := 664) hC 3 dL_law_663 rfl rfl rfl ?_
  refine g_iload_n (pc' := 665) hC 0 dL_law_664 rfl rfl rfl ?_
  refine g_iconst (pc' := 666) (v := (Int32.ofNat 1)) hC dL_law_665 (by decide) rfl ?_
  refine g_iadd (pc' := 667) hC dL_law_666 rfl ?_
  refine g_sld (pc' := 668) hC hX hbl hbA (li_in (by omega) hL) dL_law_667 rfl ?_
  refine g_callV_i (pc' := 671) (w := wM) (ad := am) (wr := wX (d.1, ax, d.2.2) σx') (As := [.int (xs (Int32.toNatClampNeg ((Int32.ofNat k) + (Int32.ofNat 1))))]) (st := [.int r]) (n := 1) (ci := 12) hC hA hF (fun A1 => kX12_each l (d.1, am, d.2.2) A1 σm ((xs (Int32.toNatClampNeg ((Int32.ofNat k) + (Int32.ofNat 1)))))) hm9 (M_at_0 _ _) rfl (jgV ml_L_72 im_X12_each se_X12_each in_X12 cd_X12_each) rfl rfl (by decide +kernel) ⟨Nat.le_of_ble_eq_true rfl, Nat.le_of_ble_eq_true rfl⟩ ⟨Nat.le_of_ble_eq_true rfl, Nat.le_of_ble_eq_true rfl⟩ rfl rfl (Nat.le_of_ble_eq_true rfl) rfl dL_law_668 rfl ?_
  exact g_icmp_same hC dL_law_671 rfl (next σx' σm' h9)
set_option maxHeartbeats 2000000 in
set_option maxRecDepth 100000 in
theorem law_case_14 {z : jZ} {d : jD} {A : Nat → Prop} {Q : State → Prop} {l : Launch} {b L : Nat} {xs : Nat → Int32} {ax am : Nat → Nat} {σx σm : jS} {k : Nat} (hK : lK z d A l b L xs) (hk : k + 6 ≤ L) (hAll : rAll σx σm) (next : ∀ σx1 σm1 : jS, rAll σx1 σm1 → lJ z d A Q b ax am σx1 σm1 k 1472) : lJ z d A Q b ax am σx σm k 676 := by
  obtain ⟨hC, hA, hF, hX, hbl, hbA, hL⟩ := hK
  obtain ⟨r, σx', σm', hx9, hm9, h9⟩ := all_order hAll ((xs (Int32.toNatClampNeg ((Int32.ofNat k) + (Int32.ofNat 1))))) ((xs (Int32.toNatClampNeg ((Int32.ofNat k) + (Int32.ofNat 2)))))
  refine g_aload_n (pc' := 677) hC 2 dL_law_676 rfl rfl rfl ?_
  refine g_aload_n (pc' := 678) hC 3 dL_law_677 rfl rfl rfl ?_
  refine g_iload_n (pc' := 679) hC 0 dL_law_678 rfl rfl rfl ?_
  refine g_iconst (pc' := 680) (v := (Int32.ofNat 1)) hC dL_law_679 (by decide) rfl ?_
  refine g_iadd (pc' := 681) hC dL_law_680 rfl ?_
  refine g_sld (pc' := 682) hC hX hbl hbA (li_in (by omega) hL) dL_law_681 rfl ?_
  refine g_aload_n (pc' := 683) hC 3 dL_law_682 rfl rfl rfl ?_
  refine g_iload_n (pc' := 684) hC 0 dL_law_683 rfl rfl rfl ?_
  refine g_iconst (pc' := 685) (v := (Int32.ofNat 2)) hC dL_law_684 (by decide) rfl ?_
  refine g_iadd (pc' := 686) hC dL_law_685 rfl ?_
  refine g_sld (pc' := 687) hC hX hbl hbA (li_in (by omega) hL) dL_law_686 rfl ?_
  refine g_callV_i (pc' := 690) (w := wX) (ad := ax) (wr := wM (d.1, am, d.2.2) σm) (As := [.int (xs (Int32.toNatClampNeg ((Int32.ofNat k) + (Int32.ofNat 1)))), .int (xs (Int32.toNatClampNeg ((Int32.ofNat k) + (Int32.ofNat 2))))]) (st := []) (n := 2) (ci := 11) hC hA hF (fun A1 => kX11_order l (d.1, ax, d.2.2) A1 σx ((xs (Int32.toNatClampNeg ((Int32.ofNat k) + (Int32.ofNat 1))))) ((xs (Int32.toNatClampNeg ((Int32.ofNat k) + (Int32.ofNat 2)))))) hx9 (X_at_0 _ _) rfl (jgV ml_L_73 im_X11_order se_X11_order in_X11 cd_X11_order) rfl rfl (by decide +kernel) ⟨Nat.le_of_ble_eq_true rfl, Nat.le_of_ble_eq_true rfl⟩ ⟨Nat.le_of_ble_eq_true rfl, Nat.le_of_ble_eq_true rfl⟩ rfl rfl (Nat.le_of_ble_eq_true rfl) rfl dL_law_687 rfl ?_
  refine g_aload_n (pc' := 691) hC 1 dL_law_690 rfl rfl rfl ?_
  refine g_aload_n (pc' := 692) hC 3 dL_law_691 rfl rfl rfl ?_
  refine g_iload_n (pc' := 693) hC 0 dL_law_692 rfl rfl rfl ?_
  refine g_iconst (pc' := 694) (v := (Int32.ofNat 1)) hC dL_law_693 (by decide) rfl ?_
  refine g_iadd (pc' := 695) hC dL_law_694 rfl ?_
  refine g_sld (pc' := 696) hC hX hbl hbA (li_in (by omega) hL) dL_law_695 rfl ?_
  refine g_aload_n (pc' := 697) hC 3 dL_law_696 rfl rfl rfl ?_
  refine g_iload_n (pc' := 698) hC 0 dL_law_697 rfl rfl rfl ?_
  refine g_iconst (pc' := 699) (v := (Int32.ofNat 2)) hC dL_law_698 (by decide) rfl ?_
  refine g_iadd (pc' := 700) hC dL_law_699 rfl ?_
  refine g_sld (pc' := 701) hC hX hbl hbA (li_in (by omega) hL) dL_law_700 rfl ?_
  refine g_callV_i (pc' := 704) (w := wM) (ad := am) (wr := wX (d.1, ax, d.2.2) σx') (As := [.int (xs (Int32.toNatClampNeg ((Int32.ofNat k) + (Int32.ofNat 1)))), .int (xs (Int32.toNatClampNeg ((Int32.ofNat k) + (Int32.ofNat 2))))]) (st := [.int r]) (n := 2) (ci := 12) hC hA hF (fun A1 => kX12_order l (d.1, am, d.2.2) A1 σm ((xs (Int32.toNatClampNeg ((Int32.ofNat k) + (Int32.ofNat 1))))) ((xs (Int32.toNatClampNeg ((Int32.ofNat k) + (Int32.ofNat 2)))))) hm9 (M_at_0 _ _) rfl (jgV ml_L_76 im_X12_order se_X12_order in_X12 cd_X12_order) rfl rfl (by decide +kernel) ⟨Nat.le_of_ble_eq_true rfl, Nat.le_of_ble_eq_true rfl⟩ ⟨Nat.le_of_ble_eq_true rfl, Nat.le_of_ble_eq_true rfl⟩ rfl rfl (Nat.le_of_ble_eq_true rfl) rfl dL_law_701 rfl ?_
  exact g_icmp_same hC dL_law_704 rfl (next σx' σm' h9)
set_option maxHeartbeats 2000000 in
set_option maxRecDepth 100000 in
theorem law_case_15 {z : jZ} {d : jD} {A : Nat → Prop} {Q : State → Prop} {l : Launch} {b L : Nat} {xs : Nat → Int32} {ax am : Nat → Nat} {σx σm : jS} {k : Nat} (hK : lK z d A l b L xs) (hk : k + 6 ≤ L) (hAll : rAll σx σm) (next : ∀ σx1 σm1 : jS, rAll σx1 σm1 → lJ z d A Q b ax am σx1 σm1 k 1472) : lJ z d A Q b ax am σx σm k 709 := by
  obtain ⟨hC, hA, hF, hX, hbl, hbA, hL⟩ := hK
  obtain ⟨r, σx', σm', hx9, hm9, h9⟩ := all_held hAll ((xs (Int32.toNatClampNeg ((Int32.ofNat k) + (Int32.ofNat 1))))) ((xs (Int32.toNatClampNeg ((Int32.ofNat k) + (Int32.ofNat 2)))))
  refine g_aload_n (pc' := 710) hC 2 dL_law_709 rfl rfl rfl ?_
  refine g_aload_n (pc' := 711) hC 3 dL_law_710 rfl rfl rfl ?_
  refine g_iload_n (pc' := 712) hC 0 dL_law_711 rfl rfl rfl ?_
  refine g_iconst (pc' := 713) (v := (Int32.ofNat 1)) hC dL_law_712 (by decide) rfl ?_
  refine g_iadd (pc' := 714) hC dL_law_713 rfl ?_
  refine g_sld (pc' := 715) hC hX hbl hbA (li_in (by omega) hL) dL_law_714 rfl ?_
  refine g_aload_n (pc' := 716) hC 3 dL_law_715 rfl rfl rfl ?_
  refine g_iload_n (pc' := 717) hC 0 dL_law_716 rfl rfl rfl ?_
  refine g_iconst (pc' := 718) (v := (Int32.ofNat 2)) hC dL_law_717 (by decide) rfl ?_
  refine g_iadd (pc' := 719) hC dL_law_718 rfl ?_
  refine g_sld (pc' := 720) hC hX hbl hbA (li_in (by omega) hL) dL_law_719 rfl ?_
  refine g_callV_i (pc' := 723) (w := wX) (ad := ax) (wr := wM (d.1, am, d.2.2) σm) (As := [.int (xs (Int32.toNatClampNeg ((Int32.ofNat k) + (Int32.ofNat 1)))), .int (xs (Int32.toNatClampNeg ((Int32.ofNat k) + (Int32.ofNat 2))))]) (st := []) (n := 2) (ci := 11) hC hA hF (fun A1 => kX11_held l (d.1, ax, d.2.2) A1 σx ((xs (Int32.toNatClampNeg ((Int32.ofNat k) + (Int32.ofNat 1))))) ((xs (Int32.toNatClampNeg ((Int32.ofNat k) + (Int32.ofNat 2)))))) hx9 (X_at_0 _ _) rfl (jgV ml_L_77 im_X11_held se_X11_held in_X11 cd_X11_held) rfl rfl (by decide +kernel) ⟨Nat.le_of_ble_eq_true rfl, Nat.le_of_ble_eq_true rfl⟩ ⟨Nat.le_of_ble_eq_true rfl, Nat.le_of_ble_eq_true rfl⟩ rfl rfl (Nat.le_of_ble_eq_true rfl) rfl dL_law_720 rfl ?_
  refine g_aload_n (pc' := 724) hC 1 dL_law_723 rfl rfl rfl ?_
  refine g_aload_n (pc' := 725) hC 3 dL_law_724 rfl rfl rfl ?_
  refine g_iload_n (pc' := 726) hC 0 dL_law_725 rfl rfl rfl ?_
  refine g_iconst (pc' := 727) (v := (Int32.ofNat 1)) hC dL_law_726 (by decide) rfl ?_
  refine g_iadd (pc' := 728) hC dL_law_727 rfl ?_
  refine g_sld (pc' := 729) hC hX hbl hbA (li_in (by omega) hL) dL_law_728 rfl ?_
  refine g_aload_n (pc' := 730) hC 3 dL_law_729 rfl rfl rfl ?_
  refine g_iload_n (pc' := 731) hC 0 dL_law_730 rfl rfl rfl ?_
  refine g_iconst (pc' := 732) (v := (Int32.ofNat 2)) hC dL_law_731 (by decide) rfl ?_
  refine g_iadd (pc' := 733) hC dL_law_732 rfl ?_
  refine g_sld (pc' := 734) hC hX hbl hbA (li_in (by omega) hL) dL_law_733 rfl ?_
  refine g_callV_i (pc' := 737) (w := wM) (ad := am) (wr := wX (d.1, ax, d.2.2) σx') (As := [.int (xs (Int32.toNatClampNeg ((Int32.ofNat k) + (Int32.ofNat 1)))), .int (xs (Int32.toNatClampNeg ((Int32.ofNat k) + (Int32.ofNat 2))))]) (st := [.int r]) (n := 2) (ci := 12) hC hA hF (fun A1 => kX12_held l (d.1, am, d.2.2) A1 σm ((xs (Int32.toNatClampNeg ((Int32.ofNat k) + (Int32.ofNat 1))))) ((xs (Int32.toNatClampNeg ((Int32.ofNat k) + (Int32.ofNat 2)))))) hm9 (M_at_0 _ _) rfl (jgV ml_L_80 im_X12_held se_X12_held in_X12 cd_X12_held) rfl rfl (by decide +kernel) ⟨Nat.le_of_ble_eq_true rfl, Nat.le_of_ble_eq_true rfl⟩ ⟨Nat.le_of_ble_eq_true rfl, Nat.le_of_ble_eq_true rfl⟩ rfl rfl (Nat.le_of_ble_eq_true rfl) rfl dL_law_734 rfl ?_
  exact g_icmp_same hC dL_law_737 rfl (next σx' σm' h9)
set_option maxHeartbeats 2000000 in
set_option maxRecDepth 100000 in
theorem law_case_16 {z : jZ} {d : jD} {A : Nat → Prop} {Q : State → Prop} {l : Launch} {b L : Nat} {xs : Nat → Int32} {ax am : Nat → Nat} {σx σm : jS} {k : Nat} (hK : lK z d A l b L xs) (hk : k + 6 ≤ L) (hAll : rAll σx σm) (next : ∀ σx1 σm1 : jS, rAll σx1 σm1 → lJ z d A Q b ax am σx1 σm1 k 1472) : lJ z d A Q b ax am σx σm k 742 := by
  obtain ⟨hC, hA, hF, hX, hbl, hbA, hL⟩ := hK
  obtain ⟨r, σx', σm', hx9, hm9, h9⟩ := all_trade hAll ((xs (Int32.toNatClampNeg ((Int32.ofNat k) + (Int32.ofNat 1))))) ((xs (Int32.toNatClampNeg ((Int32.ofNat k) + (Int32.ofNat 2)))))
  refine g_aload_n (pc' := 743) hC 2 dL_law_742 rfl rfl rfl ?_
  refine g_aload_n (pc' := 744) hC 3 dL_law_743 rfl rfl rfl ?_
  refine g_iload_n (pc' := 745) hC 0 dL_law_744 rfl rfl rfl ?_
  refine g_iconst (pc' := 746) (v := (Int32.ofNat 1)) hC dL_law_745 (by decide) rfl ?_
  refine g_iadd (pc' := 747) hC dL_law_746 rfl ?_
  refine g_sld (pc' := 748) hC hX hbl hbA (li_in (by omega) hL) dL_law_747 rfl ?_
  refine g_aload_n (pc' := 749) hC 3 dL_law_748 rfl rfl rfl ?_
  refine g_iload_n (pc' := 750) hC 0 dL_law_749 rfl rfl rfl ?_
  refine g_iconst (pc' := 751) (v := (Int32.ofNat 2)) hC dL_law_750 (by decide) rfl ?_
  refine g_iadd (pc' := 752) hC dL_law_751 rfl ?_
  refine g_sld (pc' := 753) hC hX hbl hbA (li_in (by omega) hL) dL_law_752 rfl ?_
  refine g_callV_i (pc' := 756) (w := wX) (ad := ax) (wr := wM (d.1, am, d.2.2) σm) (As := [.int (xs (Int32.toNatClampNeg ((Int32.ofNat k) + (Int32.ofNat 1)))), .int (xs (Int32.toNatClampNeg ((Int32.ofNat k) + (Int32.ofNat 2))))]) (st := []) (n := 2) (ci := 11) hC hA hF (fun A1 => kX11_trade l (d.1, ax, d.2.2) A1 σx ((xs (Int32.toNatClampNeg ((Int32.ofNat k) + (Int32.ofNat 1))))) ((xs (Int32.toNatClampNeg ((Int32.ofNat k) + (Int32.ofNat 2)))))) hx9 (X_at_0 _ _) rfl (jgV ml_L_81 im_X11_trade se_X11_trade in_X11 cd_X11_trade) rfl rfl (by decide +kernel) ⟨Nat.le_of_ble_eq_true rfl, Nat.le_of_ble_eq_true rfl⟩ ⟨Nat.le_of_ble_eq_true rfl, Nat.le_of_ble_eq_true rfl⟩ rfl rfl (Nat.le_of_ble_eq_true rfl) rfl dL_law_753 rfl ?_
  refine g_aload_n (pc' := 757) hC 1 dL_law_756 rfl rfl rfl ?_
  refine g_aload_n (pc' := 758) hC 3 dL_law_757 rfl rfl rfl ?_
  refine g_iload_n (pc' := 759) hC 0 dL_law_758 rfl rfl rfl ?_
  refine g_iconst (pc' := 760) (v := (Int32.ofNat 1)) hC dL_law_759 (by decide) rfl ?_
  refine g_iadd (pc' := 761) hC dL_law_760 rfl ?_
  refine g_sld (pc' := 762) hC hX hbl hbA (li_in (by omega) hL) dL_law_761 rfl ?_
  refine g_aload_n (pc' := 763) hC 3 dL_law_762 rfl rfl rfl ?_
  refine g_iload_n (pc' := 764) hC 0 dL_law_763 rfl rfl rfl ?_
  refine g_iconst (pc' := 765) (v := (Int32.ofNat 2)) hC dL_law_764 (by decide) rfl ?_
  refine g_iadd (pc' := 766) hC dL_law_765 rfl ?_
  refine g_sld (pc' := 767) hC hX hbl hbA (li_in (by omega) hL) dL_law_766 rfl ?_
  refine g_callV_i (pc' := 770) (w := wM) (ad := am) (wr := wX (d.1, ax, d.2.2) σx') (As := [.int (xs (Int32.toNatClampNeg ((Int32.ofNat k) + (Int32.ofNat 1)))), .int (xs (Int32.toNatClampNeg ((Int32.ofNat k) + (Int32.ofNat 2))))]) (st := [.int r]) (n := 2) (ci := 12) hC hA hF (fun A1 => kX12_trade l (d.1, am, d.2.2) A1 σm ((xs (Int32.toNatClampNeg ((Int32.ofNat k) + (Int32.ofNat 1))))) ((xs (Int32.toNatClampNeg ((Int32.ofNat k) + (Int32.ofNat 2)))))) hm9 (M_at_0 _ _) rfl (jgV ml_L_84 im_X12_trade se_X12_trade in_X12 cd_X12_trade) rfl rfl (by decide +kernel) ⟨Nat.le_of_ble_eq_true rfl, Nat.le_of_ble_eq_true rfl⟩ ⟨Nat.le_of_ble_eq_true rfl, Nat.le_of_ble_eq_true rfl⟩ rfl rfl (Nat.le_of_ble_eq_true rfl) rfl dL_law_767 rfl ?_
  exact g_icmp_same hC dL_law_770 rfl (next σx' σm' h9)
set_option maxHeartbeats 2000000 in
set_option maxRecDepth 100000 in
theorem law_case_17 {z : jZ} {d : jD} {A : Nat → Prop} {Q : State → Prop} {l : Launch} {b L : Nat} {xs : Nat → Int32} {ax am : Nat → Nat} {σx σm : jS} {k : Nat} (hK : lK z d A l b L xs) (hk : k + 6 ≤ L) (hAll : rAll σx σm) (next : ∀ σx1 σm1 : jS, rAll σx1 σm1 → lJ z d A Q b ax am σx1 σm1 k 1472) : lJ z d A Q b ax am σx σm k 775 := by
  obtain ⟨hC, hA, hF, hX, hbl, hbA, hL⟩ := hK
  obtain ⟨r, σx', σm', hx9, hm9, h9⟩ := all_drawn hAll ((xs (Int32.toNatClampNeg ((Int32.ofNat k) + (Int32.ofNat 1))))) ((xs (Int32.toNatClampNeg ((Int32.ofNat k) + (Int32.ofNat 2))))) ((xs (Int32.toNatClampNeg ((Int32.ofNat k) + (Int32.ofNat 3))))) ((xs (Int32.toNatClampNeg ((Int32.ofNat k) + (Int32.ofNat 4)))))
  refine g_aload_n (pc' := 776) hC 2 dL_law_775 rfl rfl rfl ?_
  refine g_aload_n (pc' := 777) hC 3 dL_law_776 rfl rfl rfl ?_
  refine g_iload_n (pc' := 778) hC 0 dL_law_777 rfl rfl rfl ?_
  refine g_iconst (pc' := 779) (v := (Int32.ofNat 1)) hC dL_law_778 (by decide) rfl ?_
  refine g_iadd (pc' := 780) hC dL_law_779 rfl ?_
  refine g_sld (pc' := 781) hC hX hbl hbA (li_in (by omega) hL) dL_law_780 rfl ?_
  refine g_aload_n (pc' := 782) hC 3 dL_law_781 rfl rfl rfl ?_
  refine g_iload_n (pc' := 783) hC 0 dL_law_782 rfl rfl rfl ?_
  refine g_iconst (pc' := 784) (v := (Int32.ofNat 2)) hC dL_law_783 (by decide) rfl ?_
  refine g_iadd (pc' := 785) hC dL_law_784 rfl ?_
  refine g_sld (pc' := 786) hC hX hbl hbA (li_in (by omega) hL) dL_law_785 rfl ?_
  refine g_aload_n (pc' := 787) hC 3 dL_law_786 rfl rfl rfl ?_
  refine g_iload_n (pc' := 788) hC 0 dL_law_787 rfl rfl rfl ?_
  refine g_iconst (pc' := 789) (v := (Int32.ofNat 3)) hC dL_law_788 (by decide) rfl ?_
  refine g_iadd (pc' := 790) hC dL_law_789 rfl ?_
  refine g_sld (pc' := 791) hC hX hbl hbA (li_in (by omega) hL) dL_law_790 rfl ?_
  refine g_aload_n (pc' := 792) hC 3 dL_law_791 rfl rfl rfl ?_
  refine g_iload_n (pc' := 793) hC 0 dL_law_792 rfl rfl rfl ?_
  refine g_iconst (pc' := 794) (v := (Int32.ofNat 4)) hC dL_law_793 (by decide) rfl ?_
  refine g_iadd (pc' := 795) hC dL_law_794 rfl ?_
  refine g_sld (pc' := 796) hC hX hbl hbA (li_in (by omega) hL) dL_law_795 rfl ?_
  refine g_callV_i (pc' := 799) (w := wX) (ad := ax) (wr := wM (d.1, am, d.2.2) σm) (As := [.int (xs (Int32.toNatClampNeg ((Int32.ofNat k) + (Int32.ofNat 1)))), .int (xs (Int32.toNatClampNeg ((Int32.ofNat k) + (Int32.ofNat 2)))), .int (xs (Int32.toNatClampNeg ((Int32.ofNat k) + (Int32.ofNat 3)))), .int (xs (Int32.toNatClampNeg ((Int32.ofNat k) + (Int32.ofNat 4))))]) (st := []) (n := 4) (ci := 11) hC hA hF (fun A1 => kX11_drawn l (d.1, ax, d.2.2) A1 σx ((xs (Int32.toNatClampNeg ((Int32.ofNat k) + (Int32.ofNat 1))))) ((xs (Int32.toNatClampNeg ((Int32.ofNat k) + (Int32.ofNat 2))))) ((xs (Int32.toNatClampNeg ((Int32.ofNat k) + (Int32.ofNat 3))))) ((xs (Int32.toNatClampNeg ((Int32.ofNat k) + (Int32.ofNat 4)))))) hx9 (X_at_0 _ _) rfl (jgV ml_L_85 im_X11_drawn se_X11_drawn in_X11 cd_X11_drawn) rfl rfl (by decide +kernel) ⟨Nat.le_of_ble_eq_true rfl, Nat.le_of_ble_eq_true rfl⟩ ⟨Nat.le_of_ble_eq_true rfl, Nat.le_of_ble_eq_true rfl⟩ rfl rfl (Nat.le_of_ble_eq_true rfl) rfl dL_law_796 rfl ?_
  refine g_aload_n (pc' := 800) hC 1 dL_law_799 rfl rfl rfl ?_
  refine g_aload_n (pc' := 801) hC 3 dL_law_800 rfl rfl rfl ?_
  refine g_iload_n (pc' := 802) hC 0 dL_law_801 rfl rfl rfl ?_
  refine g_iconst (pc' := 803) (v := (Int32.ofNat 1)) hC dL_law_802 (by decide) rfl ?_
  refine g_iadd (pc' := 804) hC dL_law_803 rfl ?_
  refine g_sld (pc' := 805) hC hX hbl hbA (li_in (by omega) hL) dL_law_804 rfl ?_
  refine g_aload_n (pc' := 806) hC 3 dL_law_805 rfl rfl rfl ?_
  refine g_iload_n (pc' := 807) hC 0 dL_law_806 rfl rfl rfl ?_
  refine g_iconst (pc' := 808) (v := (Int32.ofNat 2)) hC dL_law_807 (by decide) rfl ?_
  refine g_iadd (pc' := 809) hC dL_law_808 rfl ?_
  refine g_sld (pc' := 810) hC hX hbl hbA (li_in (by omega) hL) dL_law_809 rfl ?_
  refine g_aload_n (pc' := 811) hC 3 dL_law_810 rfl rfl rfl ?_
  refine g_iload_n (pc' := 812) hC 0 dL_law_811 rfl rfl rfl ?_
  refine g_iconst (pc' := 813) (v := (Int32.ofNat 3)) hC dL_law_812 (by decide) rfl ?_
  refine g_iadd (pc' := 814) hC dL_law_813 rfl ?_
  refine g_sld (pc' := 815) hC hX hbl hbA (li_in (by omega) hL) dL_law_814 rfl ?_
  refine g_aload_n (pc' := 816) hC 3 dL_law_815 rfl rfl rfl ?_
  refine g_iload_n (pc' := 817) hC 0 dL_law_816 rfl rfl rfl ?_
  refine g_iconst (pc' := 818) (v := (Int32.ofNat 4)) hC dL_law_817 (by decide) rfl ?_
  refine g_iadd (pc' := 819) hC dL_law_818 rfl ?_
  refine g_sld (pc' := 820) hC hX hbl hbA (li_in (by omega) hL) dL_law_819 rfl ?_
  refine g_callV_i (pc' := 823) (w := wM) (ad := am) (wr := wX (d.1, ax, d.2.2) σx') (As := [.int (xs (Int32.toNatClampNeg ((Int32.ofNat k) + (Int32.ofNat 1)))), .int (xs (Int32.toNatClampNeg ((Int32.ofNat k) + (Int32.ofNat 2)))), .int (xs (Int32.toNatClampNeg ((Int32.ofNat k) + (Int32.ofNat 3)))), .int (xs (Int32.toNatClampNeg ((Int32.ofNat k) + (Int32.ofNat 4))))]) (st := [.int r]) (n := 4) (ci := 12) hC hA hF (fun A1 => kX12_drawn l (d.1, am, d.2.2) A1 σm ((xs (Int32.toNatClampNeg ((Int32.ofNat k) + (Int32.ofNat 1))))) ((xs (Int32.toNatClampNeg ((Int32.ofNat k) + (Int32.ofNat 2))))) ((xs (Int32.toNatClampNeg ((Int32.ofNat k) + (Int32.ofNat 3))))) ((xs (Int32.toNatClampNeg ((Int32.ofNat k) + (Int32.ofNat 4)))))) hm9 (M_at_0 _ _) rfl (jgV ml_L_89 im_X12_drawn se_X12_drawn in_X12 cd_X12_drawn) rfl rfl (by decide +kernel) ⟨Nat.le_of_ble_eq_true rfl, Nat.le_of_ble_eq_true rfl⟩ ⟨Nat.le_of_ble_eq_true rfl, Nat.le_of_ble_eq_true rfl⟩ rfl rfl (Nat.le_of_ble_eq_true rfl) rfl dL_law_820 rfl ?_
  exact g_icmp_same hC dL_law_823 rfl (next σx' σm' h9)
set_option maxHeartbeats 2000000 in
set_option maxRecDepth 100000 in
theorem law_case_18 {z : jZ} {d : jD} {A : Nat → Prop} {Q : State → Prop} {l : Launch} {b L : Nat} {xs : Nat → Int32} {ax am : Nat → Nat} {σx σm : jS} {k : Nat} (hK : lK z d A l b L xs) (hk : k + 6 ≤ L) (hAll : rAll σx σm) (next : ∀ σx1 σm1 : jS, rAll σx1 σm1 → lJ z d A Q b ax am σx1 σm1 k 1472) : lJ z d A Q b ax am σx σm k 828 := by
  obtain ⟨hC, hA, hF, hX, hbl, hbA, hL⟩ := hK
  obtain ⟨r, σx', σm', hx9, hm9, h9⟩ := all_judge hAll ((xs (Int32.toNatClampNeg ((Int32.ofNat k) + (Int32.ofNat 1))))) ((xs (Int32.toNatClampNeg ((Int32.ofNat k) + (Int32.ofNat 2))))) ((xs (Int32.toNatClampNeg ((Int32.ofNat k) + (Int32.ofNat 3)))))
  refine g_aload_n (pc' := 829) hC 2 dL_law_828 rfl rfl rfl ?_
  refine g_aload_n (pc' := 830) hC 3 dL_law_829 rfl rfl rfl ?_
  refine g_iload_n (pc' := 831) hC 0 dL_law_830 rfl rfl rfl ?_
  refine g_iconst (pc' := 832) (v := (Int32.ofNat 1)) hC dL_law_831 (by decide) rfl ?_
  refine g_iadd (pc' := 833) hC dL_law_832 rfl ?_
  refine g_sld (pc' := 834) hC hX hbl hbA (li_in (by omega) hL) dL_law_833 rfl ?_
  refine g_aload_n (pc' := 835) hC 3 dL_law_834 rfl rfl rfl ?_
  refine g_iload_n (pc' := 836) hC 0 dL_law_835 rfl rfl rfl ?_
  refine g_iconst (pc' := 837) (v := (Int32.ofNat 2)) hC dL_law_836 (by decide) rfl ?_
  refine g_iadd (pc' := 838) hC dL_law_837 rfl ?_
  refine g_sld (pc' := 839) hC hX hbl hbA (li_in (by omega) hL) dL_law_838 rfl ?_
  refine g_aload_n (pc' := 840) hC 3 dL_law_839 rfl rfl rfl ?_
  refine g_iload_n (pc' := 841) hC 0 dL_law_840 rfl rfl rfl ?_
  refine g_iconst (pc' := 842) (v := (Int32.ofNat 3)) hC dL_law_841 (by decide) rfl ?_
  refine g_iadd (pc' := 843) hC dL_law_842 rfl ?_
  refine g_sld (pc' := 844) hC hX hbl hbA (li_in (by omega) hL) dL_law_843 rfl ?_
  refine g_callV_i (pc' := 847) (w := wX) (ad := ax) (wr := wM (d.1, am, d.2.2) σm) (As := [.int (xs (Int32.toNatClampNeg ((Int32.ofNat k) + (Int32.ofNat 1)))), .int (xs (Int32.toNatClampNeg ((Int32.ofNat k) + (Int32.ofNat 2)))), .int (xs (Int32.toNatClampNeg ((Int32.ofNat k) + (Int32.ofNat 3))))]) (st := []) (n := 3) (ci := 11) hC hA hF (fun A1 => kX11_judge l (d.1, ax, d.2.2) A1 σx ((xs (Int32.toNatClampNeg ((Int32.ofNat k) + (Int32.ofNat 1))))) ((xs (Int32.toNatClampNeg ((Int32.ofNat k) + (Int32.ofNat 2))))) ((xs (Int32.toNatClampNeg ((Int32.ofNat k) + (Int32.ofNat 3)))))) hx9 (X_at_0 _ _) rfl (jgV ml_L_90 im_X11_judge se_X11_judge in_X11 cd_X11_judge) rfl rfl (by decide +kernel) ⟨Nat.le_of_ble_eq_true rfl, Nat.le_of_ble_eq_true rfl⟩ ⟨Nat.le_of_ble_eq_true rfl, Nat.le_of_ble_eq_true rfl⟩ rfl rfl (Nat.le_of_ble_eq_true rfl) rfl dL_law_844 rfl ?_
  refine g_aload_n (pc' := 848) hC 1 dL_law_847 rfl rfl rfl ?_
  refine g_aload_n (pc' := 849) hC 3 dL_law_848 rfl rfl rfl ?_
  refine g_iload_n (pc' := 850) hC 0 dL_law_849 rfl rfl rfl ?_
  refine g_iconst (pc' := 851) (v := (Int32.ofNat 1)) hC dL_law_850 (by decide) rfl ?_
  refine g_iadd (pc' := 852) hC dL_law_851 rfl ?_
  refine g_sld (pc' := 853) hC hX hbl hbA (li_in (by omega) hL) dL_law_852 rfl ?_
  refine g_aload_n (pc' := 854) hC 3 dL_law_853 rfl rfl rfl ?_
  refine g_iload_n (pc' := 855) hC 0 dL_law_854 rfl rfl rfl ?_
  refine g_iconst (pc' := 856) (v := (Int32.ofNat 2)) hC dL_law_855 (by decide) rfl ?_
  refine g_iadd (pc' := 857) hC dL_law_856 rfl ?_
  refine g_sld (pc' := 858) hC hX hbl hbA (li_in (by omega) hL) dL_law_857 rfl ?_
  refine g_aload_n (pc' := 859) hC 3 dL_law_858 rfl rfl rfl ?_
  refine g_iload_n (pc' := 860) hC 0 dL_law_859 rfl rfl rfl ?_
  refine g_iconst (pc' := 861) (v := (Int32.ofNat 3)) hC dL_law_860 (by decide) rfl ?_
  refine g_iadd (pc' := 862) hC dL_law_861 rfl ?_
  refine g_sld (pc' := 863) hC hX hbl hbA (li_in (by omega) hL) dL_law_862 rfl ?_
  refine g_callV_i (pc' := 866) (w := wM) (ad := am) (wr := wX (d.1, ax, d.2.2) σx') (As := [.int (xs (Int32.toNatClampNeg ((Int32.ofNat k) + (Int32.ofNat 1)))), .int (xs (Int32.toNatClampNeg ((Int32.ofNat k) + (Int32.ofNat 2)))), .int (xs (Int32.toNatClampNeg ((Int32.ofNat k) + (Int32.ofNat 3))))]) (st := [.int r]) (n := 3) (ci := 12) hC hA hF (fun A1 => kX12_judge l (d.1, am, d.2.2) A1 σm ((xs (Int32.toNatClampNeg ((Int32.ofNat k) + (Int32.ofNat 1))))) ((xs (Int32.toNatClampNeg ((Int32.ofNat k) + (Int32.ofNat 2))))) ((xs (Int32.toNatClampNeg ((Int32.ofNat k) + (Int32.ofNat 3)))))) hm9 (M_at_0 _ _) rfl (jgV ml_L_93 im_X12_judge se_X12_judge in_X12 cd_X12_judge) rfl rfl (by decide +kernel) ⟨Nat.le_of_ble_eq_true rfl, Nat.le_of_ble_eq_true rfl⟩ ⟨Nat.le_of_ble_eq_true rfl, Nat.le_of_ble_eq_true rfl⟩ rfl rfl (Nat.le_of_ble_eq_true rfl) rfl dL_law_863 rfl ?_
  exact g_icmp_same hC dL_law_866 rfl (next σx' σm' h9)
set_option maxHeartbeats 2000000 in
set_option maxRecDepth 100000 in
theorem law_case_19 {z : jZ} {d : jD} {A : Nat → Prop} {Q : State → Prop} {l : Launch} {b L : Nat} {xs : Nat → Int32} {ax am : Nat → Nat} {σx σm : jS} {k : Nat} (hK : lK z d A l b L xs) (hk : k + 6 ≤ L) (hAll : rAll σx σm) (next : ∀ σx1 σm1 : jS, rAll σx1 σm1 → lJ z d A Q b ax am σx1 σm1 k 1472) : lJ z d A Q b ax am σx σm k 871 := by
  obtain ⟨hC, hA, hF, hX, hbl, hbA, hL⟩ := hK
  obtain ⟨r, σx', σm', hx9, hm9, h9⟩ := all_who hAll ((xs (Int32.toNatClampNeg ((Int32.ofNat k) + (Int32.ofNat 1))))) ((xs (Int32.toNatClampNeg ((Int32.ofNat k) + (Int32.ofNat 2))))) ((xs (Int32.toNatClampNeg ((Int32.ofNat k) + (Int32.ofNat 3)))))
  refine g_aload_n (pc' := 872) hC 2 dL_law_871 rfl rfl rfl ?_
  refine g_aload_n (pc' := 873) hC 3 dL_law_872 rfl rfl rfl ?_
  refine g_iload_n (pc' := 874) hC 0 dL_law_873 rfl rfl rfl ?_
  refine g_iconst (pc' := 875) (v := (Int32.ofNat 1)) hC dL_law_874 (by decide) rfl ?_
  refine g_iadd (pc' := 876) hC dL_law_875 rfl ?_
  refine g_sld (pc' := 877) hC hX hbl hbA (li_in (by omega) hL) dL_law_876 rfl ?_
  refine g_aload_n (pc' := 878) hC 3 dL_law_877 rfl rfl rfl ?_
  refine g_iload_n (pc' := 879) hC 0 dL_law_878 rfl rfl rfl ?_
  refine g_iconst (pc' := 880) (v := (Int32.ofNat 2)) hC dL_law_879 (by decide) rfl ?_
  refine g_iadd (pc' := 881) hC dL_law_880 rfl ?_
  refine g_sld (pc' := 882) hC hX hbl hbA (li_in (by omega) hL) dL_law_881 rfl ?_
  refine g_aload_n (pc' := 883) hC 3 dL_law_882 rfl rfl rfl ?_
  refine g_iload_n (pc' := 884) hC 0 dL_law_883 rfl rfl rfl ?_
  refine g_iconst (pc' := 885) (v := (Int32.ofNat 3)) hC dL_law_884 (by decide) rfl ?_
  refine g_iadd (pc' := 886) hC dL_law_885 rfl ?_
  refine g_sld (pc' := 887) hC hX hbl hbA (li_in (by omega) hL) dL_law_886 rfl ?_
  refine g_callV_i (pc' := 890) (w := wX) (ad := ax) (wr := wM (d.1, am, d.2.2) σm) (As := [.int (xs (Int32.toNatClampNeg ((Int32.ofNat k) + (Int32.ofNat 1)))), .int (xs (Int32.toNatClampNeg ((Int32.ofNat k) + (Int32.ofNat 2)))), .int (xs (Int32.toNatClampNeg ((Int32.ofNat k) + (Int32.ofNat 3))))]) (st := []) (n := 3) (ci := 11) hC hA hF (fun A1 => kX11_who l (d.1, ax, d.2.2) A1 σx ((xs (Int32.toNatClampNeg ((Int32.ofNat k) + (Int32.ofNat 1))))) ((xs (Int32.toNatClampNeg ((Int32.ofNat k) + (Int32.ofNat 2))))) ((xs (Int32.toNatClampNeg ((Int32.ofNat k) + (Int32.ofNat 3)))))) hx9 (X_at_0 _ _) rfl (jgV ml_L_94 im_X11_who se_X11_who in_X11 cd_X11_who) rfl rfl (by decide +kernel) ⟨Nat.le_of_ble_eq_true rfl, Nat.le_of_ble_eq_true rfl⟩ ⟨Nat.le_of_ble_eq_true rfl, Nat.le_of_ble_eq_true rfl⟩ rfl rfl (Nat.le_of_ble_eq_true rfl) rfl dL_law_887 rfl ?_
  refine g_aload_n (pc' := 891) hC 1 dL_law_890 rfl rfl rfl ?_
  refine g_aload_n (pc' := 892) hC 3 dL_law_891 rfl rfl rfl ?_
  refine g_iload_n (pc' := 893) hC 0 dL_law_892 rfl rfl rfl ?_
  refine g_iconst (pc' := 894) (v := (Int32.ofNat 1)) hC dL_law_893 (by decide) rfl ?_
  refine g_iadd (pc' := 895) hC dL_law_894 rfl ?_
  refine g_sld (pc' := 896) hC hX hbl hbA (li_in (by omega) hL) dL_law_895 rfl ?_
  refine g_aload_n (pc' := 897) hC 3 dL_law_896 rfl rfl rfl ?_
  refine g_iload_n (pc' := 898) hC 0 dL_law_897 rfl rfl rfl ?_
  refine g_iconst (pc' := 899) (v := (Int32.ofNat 2)) hC dL_law_898 (by decide) rfl ?_
  refine g_iadd (pc' := 900) hC dL_law_899 rfl ?_
  refine g_sld (pc' := 901) hC hX hbl hbA (li_in (by omega) hL) dL_law_900 rfl ?_
  refine g_aload_n (pc' := 902) hC 3 dL_law_901 rfl rfl rfl ?_
  refine g_iload_n (pc' := 903) hC 0 dL_law_902 rfl rfl rfl ?_
  refine g_iconst (pc' := 904) (v := (Int32.ofNat 3)) hC dL_law_903 (by decide) rfl ?_
  refine g_iadd (pc' := 905) hC dL_law_904 rfl ?_
  refine g_sld (pc' := 906) hC hX hbl hbA (li_in (by omega) hL) dL_law_905 rfl ?_
  refine g_callV_i (pc' := 909) (w := wM) (ad := am) (wr := wX (d.1, ax, d.2.2) σx') (As := [.int (xs (Int32.toNatClampNeg ((Int32.ofNat k) + (Int32.ofNat 1)))), .int (xs (Int32.toNatClampNeg ((Int32.ofNat k) + (Int32.ofNat 2)))), .int (xs (Int32.toNatClampNeg ((Int32.ofNat k) + (Int32.ofNat 3))))]) (st := [.int r]) (n := 3) (ci := 12) hC hA hF (fun A1 => kX12_who l (d.1, am, d.2.2) A1 σm ((xs (Int32.toNatClampNeg ((Int32.ofNat k) + (Int32.ofNat 1))))) ((xs (Int32.toNatClampNeg ((Int32.ofNat k) + (Int32.ofNat 2))))) ((xs (Int32.toNatClampNeg ((Int32.ofNat k) + (Int32.ofNat 3)))))) hm9 (M_at_0 _ _) rfl (jgV ml_L_97 im_X12_who se_X12_who in_X12 cd_X12_who) rfl rfl (by decide +kernel) ⟨Nat.le_of_ble_eq_true rfl, Nat.le_of_ble_eq_true rfl⟩ ⟨Nat.le_of_ble_eq_true rfl, Nat.le_of_ble_eq_true rfl⟩ rfl rfl (Nat.le_of_ble_eq_true rfl) rfl dL_law_906 rfl ?_
  exact g_icmp_same hC dL_law_909 rfl (next σx' σm' h9)
set_option maxHeartbeats 2000000 in
set_option maxRecDepth 100000 in
theorem law_case_20 {z : jZ} {d : jD} {A : Nat → Prop} {Q : State → Prop} {l : Launch} {b L : Nat} {xs : Nat → Int32} {ax am : Nat → Nat} {σx σm : jS} {k : Nat} (hK : lK z d A l b L xs) (hk : k + 6 ≤ L) (hAll : rAll σx σm) (next : ∀ σx1 σm1 : jS, rAll σx1 σm1 → lJ z d A Q b ax am σx1 σm1 k 1472) : lJ z d A Q b ax am σx σm k 914 := by
  obtain ⟨hC, hA, hF, hX, hbl, hbA, hL⟩ := hK
  obtain ⟨r, σx', σm', hx9, hm9, h9⟩ := all_sure hAll ((xs (Int32.toNatClampNeg ((Int32.ofNat k) + (Int32.ofNat 1))))) ((xs (Int32.toNatClampNeg ((Int32.ofNat k) + (Int32.ofNat 2))))) ((xs (Int32.toNatClampNeg ((Int32.ofNat k) + (Int32.ofNat 3)))))
  refine g_aload_n (pc' := 915) hC 2 dL_law_914 rfl rfl rfl ?_
  refine g_aload_n (pc' := 916) hC 3 dL_law_915 rfl rfl rfl ?_
  refine g_iload_n (pc' := 917) hC 0 dL_law_916 rfl rfl rfl ?_
  refine g_iconst (pc' := 918) (v := (Int32.ofNat 1)) hC dL_law_917 (by decide) rfl ?_
  refine g_iadd (pc' := 919) hC dL_law_918 rfl ?_
  refine g_sld (pc' := 920) hC hX hbl hbA (li_in (by omega) hL) dL_law_919 rfl ?_
  refine g_aload_n (pc' := 921) hC 3 dL_law_920 rfl rfl rfl ?_
  refine g_iload_n (pc' := 922) hC 0 dL_law_921 rfl rfl rfl ?_
  refine g_iconst (pc' := 923) (v := (Int32.ofNat 2)) hC dL_law_922 (by decide) rfl ?_
  refine g_iadd (pc' := 924) hC dL_law_923 rfl ?_
  refine g_sld (pc' := 925) hC hX hbl hbA (li_in (by omega) hL) dL_law_924 rfl ?_
  refine g_aload_n (pc' := 926) hC 3 dL_law_925 rfl rfl rfl ?_
  refine g_iload_n (pc' := 927) hC 0 dL_law_926 rfl rfl rfl ?_
  refine g_iconst (pc' := 928) (v := (Int32.ofNat 3)) hC dL_law_927 (by decide) rfl ?_
  refine g_iadd (pc' := 929) hC dL_law_928 rfl ?_
  refine g_sld (pc' := 930) hC hX hbl hbA (li_in (by omega) hL) dL_law_929 rfl ?_
  refine g_callV_i (pc' := 933) (w := wX) (ad := ax) (wr := wM (d.1, am, d.2.2) σm) (As := [.int (xs (Int32.toNatClampNeg ((Int32.ofNat k) + (Int32.ofNat 1)))), .int (xs (Int32.toNatClampNeg ((Int32.ofNat k) + (Int32.ofNat 2)))), .int (xs (Int32.toNatClampNeg ((Int32.ofNat k) + (Int32.ofNat 3))))]) (st := []) (n := 3) (ci := 11) hC hA hF (fun A1 => kX11_sure l (d.1, ax, d.2.2) A1 σx ((xs (Int32.toNatClampNeg ((Int32.ofNat k) + (Int32.ofNat 1))))) ((xs (Int32.toNatClampNeg ((Int32.ofNat k) + (Int32.ofNat 2))))) ((xs (Int32.toNatClampNeg ((Int32.ofNat k) + (Int32.ofNat 3)))))) hx9 (X_at_0 _ _) rfl (jgV ml_L_98 im_X11_sure se_X11_sure in_X11 cd_X11_sure) rfl rfl (by decide +kernel) ⟨Nat.le_of_ble_eq_true rfl, Nat.le_of_ble_eq_true rfl⟩ ⟨Nat.le_of_ble_eq_true rfl, Nat.le_of_ble_eq_true rfl⟩ rfl rfl (Nat.le_of_ble_eq_true rfl) rfl dL_law_930 rfl ?_
  refine g_aload_n (pc' := 934) hC 1 dL_law_933 rfl rfl rfl ?_
  refine g_aload_n (pc' := 935) hC 3 dL_law_934 rfl rfl rfl ?_
  refine g_iload_n (pc' := 936) hC 0 dL_law_935 rfl rfl rfl ?_
  refine g_iconst (pc' := 937) (v := (Int32.ofNat 1)) hC dL_law_936 (by decide) rfl ?_
  refine g_iadd (pc' := 938) hC dL_law_937 rfl ?_
  refine g_sld (pc' := 939) hC hX hbl hbA (li_in (by omega) hL) dL_law_938 rfl ?_
  refine g_aload_n (pc' := 940) hC 3 dL_law_939 rfl rfl rfl ?_
  refine g_iload_n (pc' := 941) hC 0 dL_law_940 rfl rfl rfl ?_
  refine g_iconst (pc' := 942) (v := (Int32.ofNat 2)) hC dL_law_941 (by decide) rfl ?_
  refine g_iadd (pc' := 943) hC dL_law_942 rfl ?_
  refine g_sld (pc' := 944) hC hX hbl hbA (li_in (by omega) hL) dL_law_943 rfl ?_
  refine g_aload_n (pc' := 945) hC 3 dL_law_944 rfl rfl rfl ?_
  refine g_iload_n (pc' := 946) hC 0 dL_law_945 rfl rfl rfl ?_
  refine g_iconst (pc' := 947) (v := (Int32.ofNat 3)) hC dL_law_946 (by decide) rfl ?_
  refine g_iadd (pc' := 948) hC dL_law_947 rfl ?_
  refine g_sld (pc' := 949) hC hX hbl hbA (li_in (by omega) hL) dL_law_948 rfl ?_
  refine g_callV_i (pc' := 952) (w := wM) (ad := am) (wr := wX (d.1, ax, d.2.2) σx') (As := [.int (xs (Int32.toNatClampNeg ((Int32.ofNat k) + (Int32.ofNat 1)))), .int (xs (Int32.toNatClampNeg ((Int32.ofNat k) + (Int32.ofNat 2)))), .int (xs (Int32.toNatClampNeg ((Int32.ofNat k) + (Int32.ofNat 3))))]) (st := [.int r]) (n := 3) (ci := 12) hC hA hF (fun A1 => kX12_sure l (d.1, am, d.2.2) A1 σm ((xs (Int32.toNatClampNeg ((Int32.ofNat k) + (Int32.ofNat 1))))) ((xs (Int32.toNatClampNeg ((Int32.ofNat k) + (Int32.ofNat 2))))) ((xs (Int32.toNatClampNeg ((Int32.ofNat k) + (Int32.ofNat 3)))))) hm9 (M_at_0 _ _) rfl (jgV ml_L_101 im_X12_sure se_X12_sure in_X12 cd_X12_sure) rfl rfl (by decide +kernel) ⟨Nat.le_of_ble_eq_true rfl, Nat.le_of_ble_eq_true rfl⟩ ⟨Nat.le_of_ble_eq_true rfl, Nat.le_of_ble_eq_true rfl⟩ rfl rfl (Nat.le_of_ble_eq_true rfl) rfl dL_law_949 rfl ?_
  exact g_icmp_same hC dL_law_952 rfl (next σx' σm' h9)
set_option maxHeartbeats 2000000 in
set_option maxRecDepth 100000 in
theorem law_case_21 {z : jZ} {d : jD} {A : Nat → Prop} {Q : State → Prop} {l : Launch} {b L : Nat} {xs : Nat → Int32} {ax am : Nat → Nat} {σx σm : jS} {k : Nat} (hK : lK z d A l b L xs) (hk : k + 6 ≤ L) (hAll : rAll σx σm) (next : ∀ σx1 σm1 : jS, rAll σx1 σm1 → lJ z d A Q b ax am σx1 σm1 k 1472) : lJ z d A Q b ax am σx σm k 957 := by
  obtain ⟨hC, hA, hF, hX, hbl, hbA, hL⟩ := hK
  obtain ⟨r, σx', σm', hx9, hm9, h9⟩ := all_on hAll ((xs (Int32.toNatClampNeg ((Int32.ofNat k) + (Int32.ofNat 1)))))
  refine g_aload_n (pc' := 958) hC 2 dL_law_957 rfl rfl rfl ?_
  refine g_aload_n (pc' := 959) hC 3 dL_law_958 rfl rfl rfl ?_
  refine g_iload_n (pc' := 960) hC 0 dL_law_959 rfl rfl rfl ?_
  refine g_iconst (pc' := 961) (v := (Int32.ofNat 1)) hC dL_law_960 (by decide) rfl ?_
  refine g_iadd (pc' := 962) hC dL_law_961 rfl ?_
  refine g_sld (pc' := 963) hC hX hbl hbA (li_in (by omega) hL) dL_law_962 rfl ?_
  refine g_callV_i (pc' := 966) (w := wX) (ad := ax) (wr := wM (d.1, am, d.2.2) σm) (As := [.int (xs (Int32.toNatClampNeg ((Int32.ofNat k) + (Int32.ofNat 1))))]) (st := []) (n := 1) (ci := 11) hC hA hF (fun A1 => kX11_on l (d.1, ax, d.2.2) A1 σx ((xs (Int32.toNatClampNeg ((Int32.ofNat k) + (Int32.ofNat 1)))))) hx9 (X_at_0 _ _) rfl (jgV ml_L_102 im_X11_on se_X11_on in_X11 cd_X11_on) rfl rfl (by decide +kernel) ⟨Nat.le_of_ble_eq_true rfl, Nat.le_of_ble_eq_true rfl⟩ ⟨Nat.le_of_ble_eq_true rfl, Nat.le_of_ble_eq_true rfl⟩ rfl rfl (Nat.le_of_ble_eq_true rfl) rfl dL_law_963 rfl ?_
  refine g_aload_n (pc' := 967) hC 1 dL_law_966 rfl rfl rfl ?_
  refine g_aload_n (pc' := 968) hC 3 dL_law_967 rfl rfl rfl ?_
  refine g_iload_n (pc' := 969) hC 0 dL_law_968 rfl rfl rfl ?_
  refine g_iconst (pc' := 970) (v := (Int32.ofNat 1)) hC dL_law_969 (by decide) rfl ?_
  refine g_iadd (pc' := 971) hC dL_law_970 rfl ?_
  refine g_sld (pc' := 972) hC hX hbl hbA (li_in (by omega) hL) dL_law_971 rfl ?_
  refine g_callV_i (pc' := 975) (w := wM) (ad := am) (wr := wX (d.1, ax, d.2.2) σx') (As := [.int (xs (Int32.toNatClampNeg ((Int32.ofNat k) + (Int32.ofNat 1))))]) (st := [.int r]) (n := 1) (ci := 12) hC hA hF (fun A1 => kX12_on l (d.1, am, d.2.2) A1 σm ((xs (Int32.toNatClampNeg ((Int32.ofNat k) + (Int32.ofNat 1)))))) hm9 (M_at_0 _ _) rfl (jgV ml_L_105 im_X12_on se_X12_on in_X12 cd_X12_on) rfl rfl (by decide +kernel) ⟨Nat.le_of_ble_eq_true rfl, Nat.le_of_ble_eq_true rfl⟩ ⟨Nat.le_of_ble_eq_true rfl, Nat.le_of_ble_eq_true rfl⟩ rfl rfl (Nat.le_of_ble_eq_true rfl) rfl dL_law_972 rfl ?_
  exact g_icmp_same hC dL_law_975 rfl (next σx' σm' h9)
set_option maxHeartbeats 2000000 in
set_option maxRecDepth 100000 in
theorem law_case_22 {z : jZ} {d : jD} {A : Nat → Prop} {Q : State → Prop} {l : Launch} {b L : Nat} {xs : Nat → Int32} {ax am : Nat → Nat} {σx σm : jS} {k : Nat} (hK : lK z d A l b L xs) (hk : k + 6 ≤ L) (hAll : rAll σx σm) (next : ∀ σx1 σm1 : jS, rAll σx1 σm1 → lJ z d A Q b ax am σx1 σm1 k 1472) : lJ z d A Q b ax am σx σm k 980 := by
  obtain ⟨hC, hA, hF, hX, hbl, hbA, hL⟩ := hK
  obtain ⟨r, σx', σm', hx9, hm9, h9⟩ := all_push hAll 
  refine g_aload_n (pc' := 981) hC 2 dL_law_980 rfl rfl rfl ?_
  refine g_callV_i (pc' := 984) (w := wX) (ad := ax) (wr := wM (d.1, am, d.2.2) σm) (As := []) (st := []) (n := 0) (ci := 11) hC hA hF (fun A1 => kX11_push l (d.1, ax, d.2.2) A1 σx ) hx9 (X_at_0 _ _) rfl (jgV ml_L_106 im_X11_push se_X11_push in_X11 cd_X11_push) rfl rfl (by decide +kernel) ⟨Nat.le_of_ble_eq_true rfl, Nat.le_of_ble_eq_true rfl⟩ ⟨Nat.le_of_ble_eq_true rfl, Nat.le_of_ble_eq_true rfl⟩ rfl rfl (Nat.le_of_ble_eq_true rfl) rfl dL_law_981 rfl ?_
  refine g_aload_n (pc' := 985) hC 1 dL_law_984 rfl rfl rfl ?_
  refine g_callV_i (pc' := 988) (w := wM) (ad := am) (wr := wX (d.1, ax, d.2.2) σx') (As := []) (st := [.int r]) (n := 0) (ci := 12) hC hA hF (fun A1 => kX12_push l (d.1, am, d.2.2) A1 σm ) hm9 (M_at_0 _ _) rfl (jgV ml_L_109 im_X12_push se_X12_push in_X12 cd_X12_push) rfl rfl (by decide +kernel) ⟨Nat.le_of_ble_eq_true rfl, Nat.le_of_ble_eq_true rfl⟩ ⟨Nat.le_of_ble_eq_true rfl, Nat.le_of_ble_eq_true rfl⟩ rfl rfl (Nat.le_of_ble_eq_true rfl) rfl dL_law_985 rfl ?_
  exact g_icmp_same hC dL_law_988 rfl (next σx' σm' h9)
set_option maxHeartbeats 2000000 in
set_option maxRecDepth 100000 in
theorem law_case_23 {z : jZ} {d : jD} {A : Nat → Prop} {Q : State → Prop} {l : Launch} {b L : Nat} {xs : Nat → Int32} {ax am : Nat → Nat} {σx σm : jS} {k : Nat} (hK : lK z d A l b L xs) (hk : k + 6 ≤ L) (hAll : rAll σx σm) (next : ∀ σx1 σm1 : jS, rAll σx1 σm1 → lJ z d A Q b ax am σx1 σm1 k 1472) : lJ z d A Q b ax am σx σm k 993 := by
  obtain ⟨hC, hA, hF, hX, hbl, hbA, hL⟩ := hK
  obtain ⟨r, σx', σm', hx9, hm9, h9⟩ := all_off hAll 
  refine g_aload_n (pc' := 994) hC 2 dL_law_993 rfl rfl rfl ?_
  refine g_callV_i (pc' := 997) (w := wX) (ad := ax) (wr := wM (d.1, am, d.2.2) σm) (As := []) (st := []) (n := 0) (ci := 11) hC hA hF (fun A1 => kX11_off l (d.1, ax, d.2.2) A1 σx ) hx9 (X_at_0 _ _) rfl (jgV ml_L_110 im_X11_off se_X11_off in_X11 cd_X11_off) rfl rfl (by decide +kernel) ⟨Nat.le_of_ble_eq_true rfl, Nat.le_of_ble_eq_true rfl⟩ ⟨Nat.le_of_ble_eq_true rfl, Nat.le_of_ble_eq_true rfl⟩ rfl rfl (Nat.le_of_ble_eq_true rfl) rfl dL_law_994 rfl ?_
  refine g_aload_n (pc' := 998) hC 1 dL_law_997 rfl rfl rfl ?_
  refine g_callV_i (pc' := 1001) (w := wM) (ad := am) (wr := wX (d.1, ax, d.2.2) σx') (As := []) (st := [.int r]) (n := 0) (ci := 12) hC hA hF (fun A1 => kX12_off l (d.1, am, d.2.2) A1 σm ) hm9 (M_at_0 _ _) rfl (jgV ml_L_113 im_X12_off se_X12_off in_X12 cd_X12_off) rfl rfl (by decide +kernel) ⟨Nat.le_of_ble_eq_true rfl, Nat.le_of_ble_eq_true rfl⟩ ⟨Nat.le_of_ble_eq_true rfl, Nat.le_of_ble_eq_true rfl⟩ rfl rfl (Nat.le_of_ble_eq_true rfl) rfl dL_law_998 rfl ?_
  exact g_icmp_same hC dL_law_1001 rfl (next σx' σm' h9)
set_option maxHeartbeats 2000000 in
set_option maxRecDepth 100000 in
theorem law_case_24 {z : jZ} {d : jD} {A : Nat → Prop} {Q : State → Prop} {l : Launch} {b L : Nat} {xs : Nat → Int32} {ax am : Nat → Nat} {σx σm : jS} {k : Nat} (hK : lK z d A l b L xs) (hk : k + 6 ≤ L) (hAll : rAll σx σm) (next : ∀ σx1 σm1 : jS, rAll σx1 σm1 → lJ z d A Q b ax am σx1 σm1 k 1472) : lJ z d A Q b ax am σx σm k 1006 := by
  obtain ⟨hC, hA, hF, hX, hbl, hbA, hL⟩ := hK
  obtain ⟨ch, V, nb, hN, hC9, hL9, hT9, hD, hI9, hLn, hS, hB⟩ := id hAll
  obtain ⟨r, hx9, hm9⟩ := eq_led hN hD ((xs (Int32.toNatClampNeg ((Int32.ofNat k) + (Int32.ofNat 1)))))
  refine g_aload_n (pc' := 1007) hC 2 dL_law_1006 rfl rfl rfl ?_
  refine g_aload_n (pc' := 1008) hC 3 dL_law_1007 rfl rfl rfl ?_
  refine g_iload_n (pc' := 1009) hC 0 dL_law_1008 rfl rfl rfl ?_
  refine g_iconst (pc' := 1010) (v := (Int32.ofNat 1)) hC dL_law_1009 (by decide) rfl ?_
  refine g_iadd (pc' := 1011) hC dL_law_1010 rfl ?_
  refine g_sld (pc' := 1012) hC hX hbl hbA (li_in (by omega) hL) dL_law_1011 rfl ?_
  refine g_callV_ir (pc' := 1015) (w := wX) (ad := ax) (wr := wM (d.1, am, d.2.2) σm) (As := [.int (xs (Int32.toNatClampNeg ((Int32.ofNat k) + (Int32.ofNat 1))))]) (st := []) (n := 1) (ci := 11) hC hA hF (fun A1 => kX11_led l (d.1, ax, d.2.2) A1 σx ((xs (Int32.toNatClampNeg ((Int32.ofNat k) + (Int32.ofNat 1)))))) hx9 (X_at_0 _ _) rfl (jgV ml_L_114 im_X11_led se_X11_led in_X11 cd_X11_led) rfl rfl (by decide +kernel) ⟨Nat.le_of_ble_eq_true rfl, Nat.le_of_ble_eq_true rfl⟩ ⟨Nat.le_of_ble_eq_true rfl, Nat.le_of_ble_eq_true rfl⟩ rfl rfl (Nat.le_of_ble_eq_true rfl) rfl dL_law_1012 rfl ?_
  refine g_aload_n (pc' := 1016) hC 1 dL_law_1015 rfl rfl rfl ?_
  refine g_aload_n (pc' := 1017) hC 3 dL_law_1016 rfl rfl rfl ?_
  refine g_iload_n (pc' := 1018) hC 0 dL_law_1017 rfl rfl rfl ?_
  refine g_iconst (pc' := 1019) (v := (Int32.ofNat 1)) hC dL_law_1018 (by decide) rfl ?_
  refine g_iadd (pc' := 1020) hC dL_law_1019 rfl ?_
  refine g_sld (pc' := 1021) hC hX hbl hbA (li_in (by omega) hL) dL_law_1020 rfl ?_
  refine g_callV_ir (pc' := 1024) (w := wM) (ad := am) (wr := wX (d.1, ax, d.2.2) σx) (As := [.int (xs (Int32.toNatClampNeg ((Int32.ofNat k) + (Int32.ofNat 1))))]) (st := [.int r]) (n := 1) (ci := 12) hC hA hF (fun A1 => kX12_led l (d.1, am, d.2.2) A1 σm ((xs (Int32.toNatClampNeg ((Int32.ofNat k) + (Int32.ofNat 1)))))) hm9 (M_at_0 _ _) rfl (jgV ml_L_117 im_X12_led se_X12_led in_X12 cd_X12_led) rfl rfl (by decide +kernel) ⟨Nat.le_of_ble_eq_true rfl, Nat.le_of_ble_eq_true rfl⟩ ⟨Nat.le_of_ble_eq_true rfl, Nat.le_of_ble_eq_true rfl⟩ rfl rfl (Nat.le_of_ble_eq_true rfl) rfl dL_law_1021 rfl ?_
  exact g_icmp_same hC dL_law_1024 rfl (next σx σm hAll)
set_option maxHeartbeats 2000000 in
set_option maxRecDepth 100000 in
theorem law_case_25 {z : jZ} {d : jD} {A : Nat → Prop} {Q : State → Prop} {l : Launch} {b L : Nat} {xs : Nat → Int32} {ax am : Nat → Nat} {σx σm : jS} {k : Nat} (hK : lK z d A l b L xs) (hk : k + 6 ≤ L) (hAll : rAll σx σm) (next : ∀ σx1 σm1 : jS, rAll σx1 σm1 → lJ z d A Q b ax am σx1 σm1 k 1472) : lJ z d A Q b ax am σx σm k 1029 := by
  obtain ⟨hC, hA, hF, hX, hbl, hbA, hL⟩ := hK
  obtain ⟨r, σx', σm', hx9, hm9, h9⟩ := all_image hAll 
  refine g_aload_n (pc' := 1030) hC 2 dL_law_1029 rfl rfl rfl ?_
  refine g_callV_i (pc' := 1033) (w := wX) (ad := ax) (wr := wM (d.1, am, d.2.2) σm) (As := []) (st := []) (n := 0) (ci := 11) hC hA hF (fun A1 => kX11_image l (d.1, ax, d.2.2) A1 σx ) hx9 (X_at_0 _ _) rfl (jgV ml_L_118 im_X11_image se_X11_image in_X11 cd_X11_image) rfl rfl (by decide +kernel) ⟨Nat.le_of_ble_eq_true rfl, Nat.le_of_ble_eq_true rfl⟩ ⟨Nat.le_of_ble_eq_true rfl, Nat.le_of_ble_eq_true rfl⟩ rfl rfl (Nat.le_of_ble_eq_true rfl) rfl dL_law_1030 rfl ?_
  refine g_aload_n (pc' := 1034) hC 1 dL_law_1033 rfl rfl rfl ?_
  refine g_callV_i (pc' := 1037) (w := wM) (ad := am) (wr := wX (d.1, ax, d.2.2) σx') (As := []) (st := [.int r]) (n := 0) (ci := 12) hC hA hF (fun A1 => kX12_image l (d.1, am, d.2.2) A1 σm ) hm9 (M_at_0 _ _) rfl (jgV ml_L_121 im_X12_image se_X12_image in_X12 cd_X12_image) rfl rfl (by decide +kernel) ⟨Nat.le_of_ble_eq_true rfl, Nat.le_of_ble_eq_true rfl⟩ ⟨Nat.le_of_ble_eq_true rfl, Nat.le_of_ble_eq_true rfl⟩ rfl rfl (Nat.le_of_ble_eq_true rfl) rfl dL_law_1034 rfl ?_
  exact g_icmp_same hC dL_law_1037 rfl (next σx' σm' h9)
set_option maxHeartbeats 2000000 in
set_option maxRecDepth 100000 in
theorem law_case_26 {z : jZ} {d : jD} {A : Nat → Prop} {Q : State → Prop} {l : Launch} {b L : Nat} {xs : Nat → Int32} {ax am : Nat → Nat} {σx σm : jS} {k : Nat} (hK : lK z d A l b L xs) (hk : k + 6 ≤ L) (hAll : rAll σx σm) (next : ∀ σx1 σm1 : jS, rAll σx1 σm1 → lJ z d A Q b ax am σx1 σm1 k 1472) : lJ z d A Q b ax am σx σm k 1042 := by
  obtain ⟨hC, hA, hF, hX, hbl, hbA, hL⟩ := hK
  obtain ⟨r, σx', σm', hx9, hm9, h9⟩ := all_back hAll 
  refine g_aload_n (pc' := 1043) hC 2 dL_law_1042 rfl rfl rfl ?_
  refine g_callV_i (pc' := 1046) (w := wX) (ad := ax) (wr := wM (d.1, am, d.2.2) σm) (As := []) (st := []) (n := 0) (ci := 11) hC hA hF (fun A1 => kX11_back l (d.1, ax, d.2.2) A1 σx ) hx9 (X_at_0 _ _) rfl (jgV ml_L_122 im_X11_back se_X11_back in_X11 cd_X11_back) rfl rfl (by decide +kernel) ⟨Nat.le_of_ble_eq_true rfl, Nat.le_of_ble_eq_true rfl⟩ ⟨Nat.le_of_ble_eq_true rfl, Nat.le_of_ble_eq_true rfl⟩ rfl rfl (Nat.le_of_ble_eq_true rfl) rfl dL_law_1043 rfl ?_
  refine g_aload_n (pc' := 1047) hC 1 dL_law_1046 rfl rfl rfl ?_
  refine g_callV_i (pc' := 1050) (w := wM) (ad := am) (wr := wX (d.1, ax, d.2.2) σx') (As := []) (st := [.int r]) (n := 0) (ci := 12) hC hA hF (fun A1 => kX12_back l (d.1, am, d.2.2) A1 σm ) hm9 (M_at_0 _ _) rfl (jgV ml_L_125 im_X12_back se_X12_back in_X12 cd_X12_back) rfl rfl (by decide +kernel) ⟨Nat.le_of_ble_eq_true rfl, Nat.le_of_ble_eq_true rfl⟩ ⟨Nat.le_of_ble_eq_true rfl, Nat.le_of_ble_eq_true rfl⟩ rfl rfl (Nat.le_of_ble_eq_true rfl) rfl dL_law_1047 rfl ?_
  exact g_icmp_same hC dL_law_1050 rfl (next σx' σm' h9)
set_option maxHeartbeats 2000000 in
set_option maxRecDepth 100000 in
theorem law_case_27 {z : jZ} {d : jD} {A : Nat → Prop} {Q : State → Prop} {l : Launch} {b L : Nat} {xs : Nat → Int32} {ax am : Nat → Nat} {σx σm : jS} {k : Nat} (hK : lK z d A l b L xs) (hk : k + 6 ≤ L) (hAll : rAll σx σm) (next : ∀ σx1 σm1 : jS, rAll σx1 σm1 → lJ z d A Q b ax am σx1 σm1 k 1472) : lJ z d A Q b ax am σx σm k 1055 := by
  obtain ⟨hC, hA, hF, hX, hbl, hbA, hL⟩ := hK
  obtain ⟨r, σx', σm', hx9, hm9, h9⟩ := all_undo hAll 
  refine g_aload_n (pc' := 1056) hC 2 dL_law_1055 rfl rfl rfl ?_
  refine g_callV_i (pc' := 1059) (w := wX) (ad := ax) (wr := wM (d.1, am, d.2.2) σm) (As := []) (st := []) (n := 0) (ci := 11) hC hA hF (fun A1 => kX11_undo l (d.1, ax, d.2.2) A1 σx ) hx9 (X_at_0 _ _) rfl (jgV ml_L_126 im_X11_undo se_X11_undo in_X11 cd_X11_undo) rfl rfl (by decide +kernel) ⟨Nat.le_of_ble_eq_true rfl, Nat.le_of_ble_eq_true rfl⟩ ⟨Nat.le_of_ble_eq_true rfl, Nat.le_of_ble_eq_true rfl⟩ rfl rfl (Nat.le_of_ble_eq_true rfl) rfl dL_law_1056 rfl ?_
  refine g_aload_n (pc' := 1060) hC 1 dL_law_1059 rfl rfl rfl ?_
  refine g_callV_i (pc' := 1063) (w := wM) (ad := am) (wr := wX (d.1, ax, d.2.2) σx') (As := []) (st := [.int r]) (n := 0) (ci := 12) hC hA hF (fun A1 => kX12_undo l (d.1, am, d.2.2) A1 σm ) hm9 (M_at_0 _ _) rfl (jgV ml_L_129 im_X12_undo se_X12_undo in_X12 cd_X12_undo) rfl rfl (by decide +kernel) ⟨Nat.le_of_ble_eq_true rfl, Nat.le_of_ble_eq_true rfl⟩ ⟨Nat.le_of_ble_eq_true rfl, Nat.le_of_ble_eq_true rfl⟩ rfl rfl (Nat.le_of_ble_eq_true rfl) rfl dL_law_1060 rfl ?_
  exact g_icmp_same hC dL_law_1063 rfl (next σx' σm' h9)
set_option maxHeartbeats 2000000 in
set_option maxRecDepth 100000 in
theorem law_case_28 {z : jZ} {d : jD} {A : Nat → Prop} {Q : State → Prop} {l : Launch} {b L : Nat} {xs : Nat → Int32} {ax am : Nat → Nat} {σx σm : jS} {k : Nat} (hK : lK z d A l b L xs) (hk : k + 6 ≤ L) (hAll : rAll σx σm) (next : ∀ σx1 σm1 : jS, rAll σx1 σm1 → lJ z d A Q b ax am σx1 σm1 k 1472) : lJ z d A Q b ax am σx σm k 1068 := by
  obtain ⟨hC, hA, hF, hX, hbl, hbA, hL⟩ := hK
  obtain ⟨r, σx', σm', hx9, hm9, h9⟩ := all_redo hAll 
  refine g_aload_n (pc' := 1069) hC 2 dL_law_1068 rfl rfl rfl ?_
  refine g_callV_i (pc' := 1072) (w := wX) (ad := ax) (wr := wM (d.1, am, d.2.2) σm) (As := []) (st := []) (n := 0) (ci := 11) hC hA hF (fun A1 => kX11_redo l (d.1, ax, d.2.2) A1 σx ) hx9 (X_at_0 _ _) rfl (jgV ml_L_130 im_X11_redo se_X11_redo in_X11 cd_X11_redo) rfl rfl (by decide +kernel) ⟨Nat.le_of_ble_eq_true rfl, Nat.le_of_ble_eq_true rfl⟩ ⟨Nat.le_of_ble_eq_true rfl, Nat.le_of_ble_eq_true rfl⟩ rfl rfl (Nat.le_of_ble_eq_true rfl) rfl dL_law_1069 rfl ?_
  refine g_aload_n (pc' := 1073) hC 1 dL_law_1072 rfl rfl rfl ?_
  refine g_callV_i (pc' := 1076) (w := wM) (ad := am) (wr := wX (d.1, ax, d.2.2) σx') (As := []) (st := [.int r]) (n := 0) (ci := 12) hC hA hF (fun A1 => kX12_redo l (d.1, am, d.2.2) A1 σm ) hm9 (M_at_0 _ _) rfl (jgV ml_L_133 im_X12_redo se_X12_redo in_X12 cd_X12_redo) rfl rfl (by decide +kernel) ⟨Nat.le_of_ble_eq_true rfl, Nat.le_of_ble_eq_true rfl⟩ ⟨Nat.le_of_ble_eq_true rfl, Nat.le_of_ble_eq_true rfl⟩ rfl rfl (Nat.le_of_ble_eq_true rfl) rfl dL_law_1073 rfl ?_
  exact g_icmp_same hC dL_law_1076 rfl (next σx' σm' h9)
set_option maxHeartbeats 2000000 in
set_option maxRecDepth 100000 in
theorem law_case_29 {z : jZ} {d : jD} {A : Nat → Prop} {Q : State → Prop} {l : Launch} {b L : Nat} {xs : Nat → Int32} {ax am : Nat → Nat} {σx σm : jS} {k : Nat} (hK : lK z d A l b L xs) (hk : k + 6 ≤ L) (hAll : rAll σx σm) (next : ∀ σx1 σm1 : jS, rAll σx1 σm1 → lJ z d A Q b ax am σx1 σm1 k 1472) : lJ z d A Q b ax am σx σm k 1081 := by
  obtain ⟨hC, hA, hF, hX, hbl, hbA, hL⟩ := hK
  obtain ⟨r, σx', σm', hx9, hm9, h9⟩ := all_body hAll ((xs (Int32.toNatClampNeg ((Int32.ofNat k) + (Int32.ofNat 1)))))
  refine g_aload_n (pc' := 1082) hC 2 dL_law_1081 rfl rfl rfl ?_
  refine g_aload_n (pc' := 1083) hC 3 dL_law_1082 rfl rfl rfl ?_
  refine g_iload_n (pc' := 1084) hC 0 dL_law_1083 rfl rfl rfl ?_
  refine g_iconst (pc' := 1085) (v := (Int32.ofNat 1)) hC dL_law_1084 (by decide) rfl ?_
  refine g_iadd (pc' := 1086) hC dL_law_1085 rfl ?_
  refine g_sld (pc' := 1087) hC hX hbl hbA (li_in (by omega) hL) dL_law_1086 rfl ?_
  refine g_callV_i (pc' := 1090) (w := wX) (ad := ax) (wr := wM (d.1, am, d.2.2) σm) (As := [.int (xs (Int32.toNatClampNeg ((Int32.ofNat k) + (Int32.ofNat 1))))]) (st := []) (n := 1) (ci := 11) hC hA hF (fun A1 => kX11_body l (d.1, ax, d.2.2) A1 σx ((xs (Int32.toNatClampNeg ((Int32.ofNat k) + (Int32.ofNat 1)))))) hx9 (X_at_0 _ _) rfl (jgV ml_L_134 im_X11_body se_X11_body in_X11 cd_X11_body) rfl rfl (by decide +kernel) ⟨Nat.le_of_ble_eq_true rfl, Nat.le_of_ble_eq_true rfl⟩ ⟨Nat.le_of_ble_eq_true rfl, Nat.le_of_ble_eq_true rfl⟩ rfl rfl (Nat.le_of_ble_eq_true rfl) rfl dL_law_1087 rfl ?_
  refine g_aload_n (pc' := 1091) hC 1 dL_law_1090 rfl rfl rfl ?_
  refine g_aload_n (pc' := 1092) hC 3 dL_law_1091 rfl rfl rfl ?_
  refine g_iload_n (pc' := 1093) hC 0 dL_law_1092 rfl rfl rfl ?_
  refine g_iconst (pc' := 1094) (v := (Int32.ofNat 1)) hC dL_law_1093 (by decide) rfl ?_
  refine g_iadd (pc' := 1095) hC dL_law_1094 rfl ?_
  refine g_sld (pc' := 1096) hC hX hbl hbA (li_in (by omega) hL) dL_law_1095 rfl ?_
  refine g_callV_i (pc' := 1099) (w := wM) (ad := am) (wr := wX (d.1, ax, d.2.2) σx') (As := [.int (xs (Int32.toNatClampNeg ((Int32.ofNat k) + (Int32.ofNat 1))))]) (st := [.int r]) (n := 1) (ci := 12) hC hA hF (fun A1 => kX12_body l (d.1, am, d.2.2) A1 σm ((xs (Int32.toNatClampNeg ((Int32.ofNat k) + (Int32.ofNat 1)))))) hm9 (M_at_0 _ _) rfl (jgV ml_L_137 im_X12_body se_X12_body in_X12 cd_X12_body) rfl rfl (by decide +kernel) ⟨Nat.le_of_ble_eq_true rfl, Nat.le_of_ble_eq_true rfl⟩ ⟨Nat.le_of_ble_eq_true rfl, Nat.le_of_ble_eq_true rfl⟩ rfl rfl (Nat.le_of_ble_eq_true rfl) rfl dL_law_1096 rfl ?_
  exact g_icmp_same hC dL_law_1099 rfl (next σx' σm' h9)
set_option maxHeartbeats 2000000 in
set_option maxRecDepth 100000 in
theorem law_case_30 {z : jZ} {d : jD} {A : Nat → Prop} {Q : State → Prop} {l : Launch} {b L : Nat} {xs : Nat → Int32} {ax am : Nat → Nat} {σx σm : jS} {k : Nat} (hK : lK z d A l b L xs) (hk : k + 6 ≤ L) (hAll : rAll σx σm) (next : ∀ σx1 σm1 : jS, rAll σx1 σm1 → lJ z d A Q b ax am σx1 σm1 k 1472) : lJ z d A Q b ax am σx σm k 1104 := by
  obtain ⟨hC, hA, hF, hX, hbl, hbA, hL⟩ := hK
  obtain ⟨r, σx', σm', hx9, hm9, h9⟩ := all_act hAll ((xs (Int32.toNatClampNeg ((Int32.ofNat k) + (Int32.ofNat 1))))) ((xs (Int32.toNatClampNeg ((Int32.ofNat k) + (Int32.ofNat 2))))) ((xs (Int32.toNatClampNeg ((Int32.ofNat k) + (Int32.ofNat 3)))))
  refine g_aload_n (pc' := 1105) hC 2 dL_law_1104 rfl rfl rfl ?_
  refine g_aload_n (pc' := 1106) hC 3 dL_law_1105 rfl rfl rfl ?_
  refine g_iload_n (pc' := 1107) hC 0 dL_law_1106 rfl rfl rfl ?_
  refine g_iconst (pc' := 1108) (v := (Int32.ofNat 1)) hC dL_law_1107 (by decide) rfl ?_
  refine g_iadd (pc' := 1109) hC dL_law_1108 rfl ?_
  refine g_sld (pc' := 1110) hC hX hbl hbA (li_in (by omega) hL) dL_law_1109 rfl ?_
  refine g_aload_n (pc' := 1111) hC 3 dL_law_1110 rfl rfl rfl ?_
  refine g_iload_n (pc' := 1112) hC 0 dL_law_1111 rfl rfl rfl ?_
  refine g_iconst (pc' := 1113) (v := (Int32.ofNat 2)) hC dL_law_1112 (by decide) rfl ?_
  refine g_iadd (pc' := 1114) hC dL_law_1113 rfl ?_
  refine g_sld (pc' := 1115) hC hX hbl hbA (li_in (by omega) hL) dL_law_1114 rfl ?_
  refine g_aload_n (pc' := 1116) hC 3 dL_law_1115 rfl rfl rfl ?_
  refine g_iload_n (pc' := 1117) hC 0 dL_law_1116 rfl rfl rfl ?_
  refine g_iconst (pc' := 1118) (v := (Int32.ofNat 3)) hC dL_law_1117 (by decide) rfl ?_
  refine g_iadd (pc' := 1119) hC dL_law_1118 rfl ?_
  refine g_sld (pc' := 1120) hC hX hbl hbA (li_in (by omega) hL) dL_law_1119 rfl ?_
  refine g_callV_i (pc' := 1123) (w := wX) (ad := ax) (wr := wM (d.1, am, d.2.2) σm) (As := [.int (xs (Int32.toNatClampNeg ((Int32.ofNat k) + (Int32.ofNat 1)))), .int (xs (Int32.toNatClampNeg ((Int32.ofNat k) + (Int32.ofNat 2)))), .int (xs (Int32.toNatClampNeg ((Int32.ofNat k) + (Int32.ofNat 3))))]) (st := []) (n := 3) (ci := 11) hC hA hF (fun A1 => kX11_act l (d.1, ax, d.2.2) A1 σx ((xs (Int32.toNatClampNeg ((Int32.ofNat k) + (Int32.ofNat 1))))) ((xs (Int32.toNatClampNeg ((Int32.ofNat k) + (Int32.ofNat 2))))) ((xs (Int32.toNatClampNeg ((Int32.ofNat k) + (Int32.ofNat 3)))))) hx9 (X_at_0 _ _) rfl (jgV ml_L_138 im_X11_act se_X11_act in_X11 cd_X11_act) rfl rfl (by decide +kernel) ⟨Nat.le_of_ble_eq_true rfl, Nat.le_of_ble_eq_true rfl⟩ ⟨Nat.le_of_ble_eq_true rfl, Nat.le_of_ble_eq_true rfl⟩ rfl rfl (Nat.le_of_ble_eq_true rfl) rfl dL_law_1120 rfl ?_
  refine g_aload_n (pc' := 1124) hC 1 dL_law_1123 rfl rfl rfl ?_
  refine g_aload_n (pc' := 1125) hC 3 dL_law_1124 rfl rfl rfl ?_
  refine g_iload_n (pc' := 1126) hC 0 dL_law_1125 rfl rfl rfl ?_
  refine g_iconst (pc' := 1127) (v := (Int32.ofNat 1)) hC dL_law_1126 (by decide) rfl ?_
  refine g_iadd (pc' := 1128) hC dL_law_1127 rfl ?_
  refine g_sld (pc' := 1129) hC hX hbl hbA (li_in (by omega) hL) dL_law_1128 rfl ?_
  refine g_aload_n (pc' := 1130) hC 3 dL_law_1129 rfl rfl rfl ?_
  refine g_iload_n (pc' := 1131) hC 0 dL_law_1130 rfl rfl rfl ?_
  refine g_iconst (pc' := 1132) (v := (Int32.ofNat 2)) hC dL_law_1131 (by decide) rfl ?_
  refine g_iadd (pc' := 1133) hC dL_law_1132 rfl ?_
  refine g_sld (pc' := 1134) hC hX hbl hbA (li_in (by omega) hL) dL_law_1133 rfl ?_
  refine g_aload_n (pc' := 1135) hC 3 dL_law_1134 rfl rfl rfl ?_
  refine g_iload_n (pc' := 1136) hC 0 dL_law_1135 rfl rfl rfl ?_
  refine g_iconst (pc' := 1137) (v := (Int32.ofNat 3)) hC dL_law_1136 (by decide) rfl ?_
  refine g_iadd (pc' := 1138) hC dL_law_1137 rfl ?_
  refine g_sld (pc' := 1139) hC hX hbl hbA (li_in (by omega) hL) dL_law_1138 rfl ?_
  refine g_callV_i (pc' := 1142) (w := wM) (ad := am) (wr := wX (d.1, ax, d.2.2) σx') (As := [.int (xs (Int32.toNatClampNeg ((Int32.ofNat k) + (Int32.ofNat 1)))), .int (xs (Int32.toNatClampNeg ((Int32.ofNat k) + (Int32.ofNat 2)))), .int (xs (Int32.toNatClampNeg ((Int32.ofNat k) + (Int32.ofNat 3))))]) (st := [.int r]) (n := 3) (ci := 12) hC hA hF (fun A1 => kX12_act l (d.1, am, d.2.2) A1 σm ((xs (Int32.toNatClampNeg ((Int32.ofNat k) + (Int32.ofNat 1))))) ((xs (Int32.toNatClampNeg ((Int32.ofNat k) + (Int32.ofNat 2))))) ((xs (Int32.toNatClampNeg ((Int32.ofNat k) + (Int32.ofNat 3)))))) hm9 (M_at_0 _ _) rfl (jgV ml_L_141 im_X12_act se_X12_act in_X12 cd_X12_act) rfl rfl (by decide +kernel) ⟨Nat.le_of_ble_eq_true rfl, Nat.le_of_ble_eq_true rfl⟩ ⟨Nat.le_of_ble_eq_true rfl, Nat.le_of_ble_eq_true rfl⟩ rfl rfl (Nat.le_of_ble_eq_true rfl) rfl dL_law_1139 rfl ?_
  exact g_icmp_same hC dL_law_1142 rfl (next σx' σm' h9)
set_option maxHeartbeats 2000000 in
set_option maxRecDepth 100000 in
theorem law_case_31 {z : jZ} {d : jD} {A : Nat → Prop} {Q : State → Prop} {l : Launch} {b L : Nat} {xs : Nat → Int32} {ax am : Nat → Nat} {σx σm : jS} {k : Nat} (hK : lK z d A l b L xs) (hk : k + 6 ≤ L) (hAll : rAll σx σm) (next : ∀ σx1 σm1 : jS, rAll σx1 σm1 → lJ z d A Q b ax am σx1 σm1 k 1472) : lJ z d A Q b ax am σx σm k 1147 := by
  obtain ⟨hC, hA, hF, hX, hbl, hbA, hL⟩ := hK
  obtain ⟨ch, V, nb, hN, hC9, hL9, hT9, hD, hI9, hLn, hS, hB⟩ := id hAll
  obtain ⟨r, hx9, hm9⟩ := eq_trace hB ((xs (Int32.toNatClampNeg ((Int32.ofNat k) + (Int32.ofNat 1)))))
  refine g_aload_n (pc' := 1148) hC 2 dL_law_1147 rfl rfl rfl ?_
  refine g_aload_n (pc' := 1149) hC 3 dL_law_1148 rfl rfl rfl ?_
  refine g_iload_n (pc' := 1150) hC 0 dL_law_1149 rfl rfl rfl ?_
  refine g_iconst (pc' := 1151) (v := (Int32.ofNat 1)) hC dL_law_1150 (by decide) rfl ?_
  refine g_iadd (pc' := 1152) hC dL_law_1151 rfl ?_
  refine g_sld (pc' := 1153) hC hX hbl hbA (li_in (by omega) hL) dL_law_1152 rfl ?_
  refine g_callV_ir (pc' := 1156) (w := wX) (ad := ax) (wr := wM (d.1, am, d.2.2) σm) (As := [.int (xs (Int32.toNatClampNeg ((Int32.ofNat k) + (Int32.ofNat 1))))]) (st := []) (n := 1) (ci := 11) hC hA hF (fun A1 => kX11_trace l (d.1, ax, d.2.2) A1 σx ((xs (Int32.toNatClampNeg ((Int32.ofNat k) + (Int32.ofNat 1)))))) hx9 (X_at_0 _ _) rfl (jgV ml_L_142 im_X11_trace se_X11_trace in_X11 cd_X11_trace) rfl rfl (by decide +kernel) ⟨Nat.le_of_ble_eq_true rfl, Nat.le_of_ble_eq_true rfl⟩ ⟨Nat.le_of_ble_eq_true rfl, Nat.le_of_ble_eq_true rfl⟩ rfl rfl (Nat.le_of_ble_eq_true rfl) rfl dL_law_1153 rfl ?_
  refine g_aload_n (pc' := 1157) hC 1 dL_law_1156 rfl rfl rfl ?_
  refine g_aload_n (pc' := 1158) hC 3 dL_law_1157 rfl rfl rfl ?_
  refine g_iload_n (pc' := 1159) hC 0 dL_law_1158 rfl rfl rfl ?_
  refine g_iconst (pc' := 1160) (v := (Int32.ofNat 1)) hC dL_law_1159 (by decide) rfl ?_
  refine g_iadd (pc' := 1161) hC dL_law_1160 rfl ?_
  refine g_sld (pc' := 1162) hC hX hbl hbA (li_in (by omega) hL) dL_law_1161 rfl ?_
  refine g_callV_ir (pc' := 1165) (w := wM) (ad := am) (wr := wX (d.1, ax, d.2.2) σx) (As := [.int (xs (Int32.toNatClampNeg ((Int32.ofNat k) + (Int32.ofNat 1))))]) (st := [.int r]) (n := 1) (ci := 12) hC hA hF (fun A1 => kX12_trace l (d.1, am, d.2.2) A1 σm ((xs (Int32.toNatClampNeg ((Int32.ofNat k) + (Int32.ofNat 1)))))) hm9 (M_at_0 _ _) rfl (jgV ml_L_145 im_X12_trace se_X12_trace in_X12 cd_X12_trace) rfl rfl (by decide +kernel) ⟨Nat.le_of_ble_eq_true rfl, Nat.le_of_ble_eq_true rfl⟩ ⟨Nat.le_of_ble_eq_true rfl, Nat.le_of_ble_eq_true rfl⟩ rfl rfl (Nat.le_of_ble_eq_true rfl) rfl dL_law_1162 rfl ?_
  exact g_icmp_same hC dL_law_1165 rfl (next σx σm hAll)
set_option maxHeartbeats 2000000 in
set_option maxRecDepth 100000 in
theorem law_case_32 {z : jZ} {d : jD} {A : Nat → Prop} {Q : State → Prop} {l : Launch} {b L : Nat} {xs : Nat → Int32} {ax am : Nat → Nat} {σx σm : jS} {k : Nat} (hK : lK z d A l b L xs) (hk : k + 6 ≤ L) (hAll : rAll σx σm) (next : ∀ σx1 σm1 : jS, rAll σx1 σm1 → lJ z d A Q b ax am σx1 σm1 k 1472) : lJ z d A Q b ax am σx σm k 1170 := by
  obtain ⟨hC, hA, hF, hX, hbl, hbA, hL⟩ := hK
  obtain ⟨r, σx', σm', hx9, hm9, h9⟩ := all_keep hAll ((xs (Int32.toNatClampNeg ((Int32.ofNat k) + (Int32.ofNat 1))))) ((xs (Int32.toNatClampNeg ((Int32.ofNat k) + (Int32.ofNat 2)))))
  refine g_aload_n (pc' := 1171) hC 2 dL_law_1170 rfl rfl rfl ?_
  refine g_aload_n (pc' := 1172) hC 3 dL_law_1171 rfl rfl rfl ?_
  refine g_iload_n (pc' := 1173) hC 0 dL_law_1172 rfl rfl rfl ?_
  refine g_iconst (pc' := 1174) (v := (Int32.ofNat 1)) hC dL_law_1173 (by decide) rfl ?_
  refine g_iadd (pc' := 1175) hC dL_law_1174 rfl ?_
  refine g_sld (pc' := 1176) hC hX hbl hbA (li_in (by omega) hL) dL_law_1175 rfl ?_
  refine g_aload_n (pc' := 1177) hC 3 dL_law_1176 rfl rfl rfl ?_
  refine g_iload_n (pc' := 1178) hC 0 dL_law_1177 rfl rfl rfl ?_
  refine g_iconst (pc' := 1179) (v := (Int32.ofNat 2)) hC dL_law_1178 (by decide) rfl ?_
  refine g_iadd (pc' := 1180) hC dL_law_1179 rfl ?_
  refine g_sld (pc' := 1181) hC hX hbl hbA (li_in (by omega) hL) dL_law_1180 rfl ?_
  refine g_callV_i (pc' := 1184) (w := wX) (ad := ax) (wr := wM (d.1, am, d.2.2) σm) (As := [.int (xs (Int32.toNatClampNeg ((Int32.ofNat k) + (Int32.ofNat 1)))), .int (xs (Int32.toNatClampNeg ((Int32.ofNat k) + (Int32.ofNat 2))))]) (st := []) (n := 2) (ci := 11) hC hA hF (fun A1 => kX11_keep l (d.1, ax, d.2.2) A1 σx ((xs (Int32.toNatClampNeg ((Int32.ofNat k) + (Int32.ofNat 1))))) ((xs (Int32.toNatClampNeg ((Int32.ofNat k) + (Int32.ofNat 2)))))) hx9 (X_at_0 _ _) rfl (jgV ml_L_146 im_X11_keep se_X11_keep in_X11 cd_X11_keep) rfl rfl (by decide +kernel) ⟨Nat.le_of_ble_eq_true rfl, Nat.le_of_ble_eq_true rfl⟩ ⟨Nat.le_of_ble_eq_true rfl, Nat.le_of_ble_eq_true rfl⟩ rfl rfl (Nat.le_of_ble_eq_true rfl) rfl dL_law_1181 rfl ?_
  refine g_aload_n (pc' := 1185) hC 1 dL_law_1184 rfl rfl rfl ?_
  refine g_aload_n (pc' := 1186) hC 3 dL_law_1185 rfl rfl rfl ?_
  refine g_iload_n (pc' := 1187) hC 0 dL_law_1186 rfl rfl rfl ?_
  refine g_iconst (pc' := 1188) (v := (Int32.ofNat 1)) hC dL_law_1187 (by decide) rfl ?_
  refine g_iadd (pc' := 1189) hC dL_law_1188 rfl ?_
  refine g_sld (pc' := 1190) hC hX hbl hbA (li_in (by omega) hL) dL_law_1189 rfl ?_
  refine g_aload_n (pc' := 1191) hC 3 dL_law_1190 rfl rfl rfl ?_
  refine g_iload_n (pc' := 1192) hC 0 dL_law_1191 rfl rfl rfl ?_
  refine g_iconst (pc' := 1193) (v := (Int32.ofNat 2)) hC dL_law_1192 (by decide) rfl ?_
  refine g_iadd (pc' := 1194) hC dL_law_1193 rfl ?_
  refine g_sld (pc' := 1195) hC hX hbl hbA (li_in (by omega) hL) dL_law_1194 rfl ?_
  refine g_callV_i (pc' := 1198) (w := wM) (ad := am) (wr := wX (d.1, ax, d.2.2) σx') (As := [.int (xs (Int32.toNatClampNeg ((Int32.ofNat k) + (Int32.ofNat 1)))), .int (xs (Int32.toNatClampNeg ((Int32.ofNat k) + (Int32.ofNat 2))))]) (st := [.int r]) (n := 2) (ci := 12) hC hA hF (fun A1 => kX12_keep l (d.1, am, d.2.2) A1 σm ((xs (Int32.toNatClampNeg ((Int32.ofNat k) + (Int32.ofNat 1))))) ((xs (Int32.toNatClampNeg ((Int32.ofNat k) + (Int32.ofNat 2)))))) hm9 (M_at_0 _ _) rfl (jgV ml_L_149 im_X12_keep se_X12_keep in_X12 cd_X12_keep) rfl rfl (by decide +kernel) ⟨Nat.le_of_ble_eq_true rfl, Nat.le_of_ble_eq_true rfl⟩ ⟨Nat.le_of_ble_eq_true rfl, Nat.le_of_ble_eq_true rfl⟩ rfl rfl (Nat.le_of_ble_eq_true rfl) rfl dL_law_1195 rfl ?_
  exact g_icmp_same hC dL_law_1198 rfl (next σx' σm' h9)
set_option maxHeartbeats 2000000 in
set_option maxRecDepth 100000 in
theorem law_case_33 {z : jZ} {d : jD} {A : Nat → Prop} {Q : State → Prop} {l : Launch} {b L : Nat} {xs : Nat → Int32} {ax am : Nat → Nat} {σx σm : jS} {k : Nat} (hK : lK z d A l b L xs) (hk : k + 6 ≤ L) (hAll : rAll σx σm) (next : ∀ σx1 σm1 : jS, rAll σx1 σm1 → lJ z d A Q b ax am σx1 σm1 k 1472) : lJ z d A Q b ax am σx σm k 1203 := by
  obtain ⟨hC, hA, hF, hX, hbl, hbA, hL⟩ := hK
  obtain ⟨r, σx', σm', hx9, hm9, h9⟩ := all_row hAll ((xs (Int32.toNatClampNeg ((Int32.ofNat k) + (Int32.ofNat 1))))) ((xs (Int32.toNatClampNeg ((Int32.ofNat k) + (Int32.ofNat 2))))) ((xs (Int32.toNatClampNeg ((Int32.ofNat k) + (Int32.ofNat 3)))))
  refine g_aload_n (pc' := 1204) hC 2 dL_law_1203 rfl rfl rfl ?_
  refine g_aload_n (pc' := 1205) hC 3 dL_law_1204 rfl rfl rfl ?_
  refine g_iload_n (pc' := 1206) hC 0 dL_law_1205 rfl rfl rfl ?_
  refine g_iconst (pc' := 1207) (v := (Int32.ofNat 1)) hC dL_law_1206 (by decide) rfl ?_
  refine g_iadd (pc' := 1208) hC dL_law_1207 rfl ?_
  refine g_sld (pc' := 1209) hC hX hbl hbA (li_in (by omega) hL) dL_law_1208 rfl ?_
  refine g_aload_n (pc' := 1210) hC 3 dL_law_1209 rfl rfl rfl ?_
  refine g_iload_n (pc' := 1211) hC 0 dL_law_1210 rfl rfl rfl ?_
  refine g_iconst (pc' := 1212) (v := (Int32.ofNat 2)) hC dL_law_1211 (by decide) rfl ?_
  refine g_iadd (pc' := 1213) hC dL_law_1212 rfl ?_
  refine g_sld (pc' := 1214) hC hX hbl hbA (li_in (by omega) hL) dL_law_1213 rfl ?_
  refine g_aload_n (pc' := 1215) hC 3 dL_law_1214 rfl rfl rfl ?_
  refine g_iload_n (pc' := 1216) hC 0 dL_law_1215 rfl rfl rfl ?_
  refine g_iconst (pc' := 1217) (v := (Int32.ofNat 3)) hC dL_law_1216 (by decide) rfl ?_
  refine g_iadd (pc' := 1218) hC dL_law_1217 rfl ?_
  refine g_sld (pc' := 1219) hC hX hbl hbA (li_in (by omega) hL) dL_law_1218 rfl ?_
  refine g_callV_i (pc' := 1222) (w := wX) (ad := ax) (wr := wM (d.1, am, d.2.2) σm) (As := [.int (xs (Int32.toNatClampNeg ((Int32.ofNat k) + (Int32.ofNat 1)))), .int (xs (Int32.toNatClampNeg ((Int32.ofNat k) + (Int32.ofNat 2)))), .int (xs (Int32.toNatClampNeg ((Int32.ofNat k) + (Int32.ofNat 3))))]) (st := []) (n := 3) (ci := 11) hC hA hF (fun A1 => kX11_row l (d.1, ax, d.2.2) A1 σx ((xs (Int32.toNatClampNeg ((Int32.ofNat k) + (Int32.ofNat 1))))) ((xs (Int32.toNatClampNeg ((Int32.ofNat k) + (Int32.ofNat 2))))) ((xs (Int32.toNatClampNeg ((Int32.ofNat k) + (Int32.ofNat 3)))))) hx9 (X_at_0 _ _) rfl (jgV ml_L_150 im_X11_row se_X11_row in_X11 cd_X11_row) rfl rfl (by decide +kernel) ⟨Nat.le_of_ble_eq_true rfl, Nat.le_of_ble_eq_true rfl⟩ ⟨Nat.le_of_ble_eq_true rfl, Nat.le_of_ble_eq_true rfl⟩ rfl rfl (Nat.le_of_ble_eq_true rfl) rfl dL_law_1219 rfl ?_
  refine g_aload_n (pc' := 1223) hC 1 dL_law_1222 rfl rfl rfl ?_
  refine g_aload_n (pc' := 1224) hC 3 dL_law_1223 rfl rfl rfl ?_
  refine g_iload_n (pc' := 1225) hC 0 dL_law_1224 rfl rfl rfl ?_
  refine g_iconst (pc' := 1226) (v := (Int32.ofNat 1)) hC dL_law_1225 (by decide) rfl ?_
  refine g_iadd (pc' := 1227) hC dL_law_1226 rfl ?_
  refine g_sld (pc' := 1228) hC hX hbl hbA (li_in (by omega) hL) dL_law_1227 rfl ?_
  refine g_aload_n (pc' := 1229) hC 3 dL_law_1228 rfl rfl rfl ?_
  refine g_iload_n (pc' := 1230) hC 0 dL_law_1229 rfl rfl rfl ?_
  refine g_iconst (pc' := 1231) (v := (Int32.ofNat 2)) hC dL_law_1230 (by decide) rfl ?_
  refine g_iadd (pc' := 1232) hC dL_law_1231 rfl ?_
  refine g_sld (pc' := 1233) hC hX hbl hbA (li_in (by omega) hL) dL_law_1232 rfl ?_
  refine g_aload_n (pc' := 1234) hC 3 dL_law_1233 rfl rfl rfl ?_
  refine g_iload_n (pc' := 1235) hC 0 dL_law_1234 rfl rfl rfl ?_
  refine g_iconst (pc' := 1236) (v := (Int32.ofNat 3)) hC dL_law_1235 (by decide) rfl ?_
  refine g_iadd (pc' := 1237) hC dL_law_1236 rfl ?_
  refine g_sld (pc' := 1238) hC hX hbl hbA (li_in (by omega) hL) dL_law_1237 rfl ?_
  refine g_callV_i (pc' := 1241) (w := wM) (ad := am) (wr := wX (d.1, ax, d.2.2) σx') (As := [.int (xs (Int32.toNatClampNeg ((Int32.ofNat k) + (Int32.ofNat 1)))), .int (xs (Int32.toNatClampNeg ((Int32.ofNat k) + (Int32.ofNat 2)))), .int (xs (Int32.toNatClampNeg ((Int32.ofNat k) + (Int32.ofNat 3))))]) (st := [.int r]) (n := 3) (ci := 12) hC hA hF (fun A1 => kX12_row l (d.1, am, d.2.2) A1 σm ((xs (Int32.toNatClampNeg ((Int32.ofNat k) + (Int32.ofNat 1))))) ((xs (Int32.toNatClampNeg ((Int32.ofNat k) + (Int32.ofNat 2))))) ((xs (Int32.toNatClampNeg ((Int32.ofNat k) + (Int32.ofNat 3)))))) hm9 (M_at_0 _ _) rfl (jgV ml_L_153 im_X12_row se_X12_row in_X12 cd_X12_row) rfl rfl (by decide +kernel) ⟨Nat.le_of_ble_eq_true rfl, Nat.le_of_ble_eq_true rfl⟩ ⟨Nat.le_of_ble_eq_true rfl, Nat.le_of_ble_eq_true rfl⟩ rfl rfl (Nat.le_of_ble_eq_true rfl) rfl dL_law_1238 rfl ?_
  exact g_icmp_same hC dL_law_1241 rfl (next σx' σm' h9)
set_option maxHeartbeats 2000000 in
set_option maxRecDepth 100000 in
theorem law_case_34 {z : jZ} {d : jD} {A : Nat → Prop} {Q : State → Prop} {l : Launch} {b L : Nat} {xs : Nat → Int32} {ax am : Nat → Nat} {σx σm : jS} {k : Nat} (hK : lK z d A l b L xs) (hk : k + 6 ≤ L) (hAll : rAll σx σm) (next : ∀ σx1 σm1 : jS, rAll σx1 σm1 → lJ z d A Q b ax am σx1 σm1 k 1472) : lJ z d A Q b ax am σx σm k 1246 := by
  obtain ⟨hC, hA, hF, hX, hbl, hbA, hL⟩ := hK
  obtain ⟨r, σx', σm', hx9, hm9, h9⟩ := all_put hAll ((xs (Int32.toNatClampNeg ((Int32.ofNat k) + (Int32.ofNat 1))))) ((xs (Int32.toNatClampNeg ((Int32.ofNat k) + (Int32.ofNat 2))))) ((((Int32.toInt64 (xs (Int32.toNatClampNeg ((Int32.ofNat k) + (Int32.ofNat 3))))) <<< ((Int32.toInt64 (32 : Int32)) &&& 63)) ||| ((Int32.toInt64 (xs (Int32.toNatClampNeg ((Int32.ofNat k) + (Int32.ofNat 4))))) &&& (4294967295 : Int64))))
  refine g_aload_n (pc' := 1247) hC 2 dL_law_1246 rfl rfl rfl ?_
  refine g_aload_n (pc' := 1248) hC 3 dL_law_1247 rfl rfl rfl ?_
  refine g_iload_n (pc' := 1249) hC 0 dL_law_1248 rfl rfl rfl ?_
  refine g_iconst (pc' := 1250) (v := (Int32.ofNat 1)) hC dL_law_1249 (by decide) rfl ?_
  refine g_iadd (pc' := 1251) hC dL_law_1250 rfl ?_
  refine g_sld (pc' := 1252) hC hX hbl hbA (li_in (by omega) hL) dL_law_1251 rfl ?_
  refine g_aload_n (pc' := 1253) hC 3 dL_law_1252 rfl rfl rfl ?_
  refine g_iload_n (pc' := 1254) hC 0 dL_law_1253 rfl rfl rfl ?_
  refine g_iconst (pc' := 1255) (v := (Int32.ofNat 2)) hC dL_law_1254 (by decide) rfl ?_
  refine g_iadd (pc' := 1256) hC dL_law_1255 rfl ?_
  refine g_sld (pc' := 1257) hC hX hbl hbA (li_in (by omega) hL) dL_law_1256 rfl ?_
  refine g_aload_n (pc' := 1258) hC 3 dL_law_1257 rfl rfl rfl ?_
  refine g_iload_n (pc' := 1259) hC 0 dL_law_1258 rfl rfl rfl ?_
  refine g_iconst (pc' := 1260) (v := (Int32.ofNat 3)) hC dL_law_1259 (by decide) rfl ?_
  refine g_iadd (pc' := 1261) hC dL_law_1260 rfl ?_
  refine g_sld (pc' := 1262) hC hX hbl hbA (li_in (by omega) hL) dL_law_1261 rfl ?_
  refine g_i2l (pc' := 1263) hC dL_law_1262 rfl ?_
  refine g_bipush (pc' := 1265) (v := (32 : Int32)) hC dL_law_1263 (by decide) rfl ?_
  refine g_lshl (pc' := 1266) hC dL_law_1265 rfl ?_
  refine g_aload_n (pc' := 1267) hC 3 dL_law_1266 rfl rfl rfl ?_
  refine g_iload_n (pc' := 1268) hC 0 dL_law_1267 rfl rfl rfl ?_
  refine g_iconst (pc' := 1269) (v := (Int32.ofNat 4)) hC dL_law_1268 (by decide) rfl ?_
  refine g_iadd (pc' := 1270) hC dL_law_1269 rfl ?_
  refine g_sld (pc' := 1271) hC hX hbl hbA (li_in (by omega) hL) dL_law_1270 rfl ?_
  refine g_i2l (pc' := 1272) hC dL_law_1271 rfl ?_
  refine g_ldc2 (pc' := 1275) hC dL_law_1272 ct_L_154 rfl ?_
  refine g_land (pc' := 1276) hC dL_law_1275 rfl ?_
  refine g_lor (pc' := 1277) hC dL_law_1276 rfl ?_
  refine g_callV_i (pc' := 1280) (w := wX) (ad := ax) (wr := wM (d.1, am, d.2.2) σm) (As := [.int (xs (Int32.toNatClampNeg ((Int32.ofNat k) + (Int32.ofNat 1)))), .int (xs (Int32.toNatClampNeg ((Int32.ofNat k) + (Int32.ofNat 2)))), .long (((Int32.toInt64 (xs (Int32.toNatClampNeg ((Int32.ofNat k) + (Int32.ofNat 3))))) <<< ((Int32.toInt64 (32 : Int32)) &&& 63)) ||| ((Int32.toInt64 (xs (Int32.toNatClampNeg ((Int32.ofNat k) + (Int32.ofNat 4))))) &&& (4294967295 : Int64)))]) (st := []) (n := 3) (ci := 11) hC hA hF (fun A1 => kX11_put l (d.1, ax, d.2.2) A1 σx ((xs (Int32.toNatClampNeg ((Int32.ofNat k) + (Int32.ofNat 1))))) ((xs (Int32.toNatClampNeg ((Int32.ofNat k) + (Int32.ofNat 2))))) ((((Int32.toInt64 (xs (Int32.toNatClampNeg ((Int32.ofNat k) + (Int32.ofNat 3))))) <<< ((Int32.toInt64 (32 : Int32)) &&& 63)) ||| ((Int32.toInt64 (xs (Int32.toNatClampNeg ((Int32.ofNat k) + (Int32.ofNat 4))))) &&& (4294967295 : Int64))))) hx9 (X_at_0 _ _) rfl (jgV ml_L_156 im_X11_put se_X11_put in_X11 cd_X11_put) rfl rfl (by decide +kernel) ⟨Nat.le_of_ble_eq_true rfl, Nat.le_of_ble_eq_true rfl⟩ ⟨Nat.le_of_ble_eq_true rfl, Nat.le_of_ble_eq_true rfl⟩ rfl rfl (Nat.le_of_ble_eq_true rfl) rfl dL_law_1277 rfl ?_
  refine g_aload_n (pc' := 1281) hC 1 dL_law_1280 rfl rfl rfl ?_
  refine g_aload_n (pc' := 1282) hC 3 dL_law_1281 rfl rfl rfl ?_
  refine g_iload_n (pc' := 1283) hC 0 dL_law_1282 rfl rfl rfl ?_
  refine g_iconst (pc' := 1284) (v := (Int32.ofNat 1)) hC dL_law_1283 (by decide) rfl ?_
  refine g_iadd (pc' := 1285) hC dL_law_1284 rfl ?_
  refine g_sld (pc' := 1286) hC hX hbl hbA (li_in (by omega) hL) dL_law_1285 rfl ?_
  refine g_aload_n (pc' := 1287) hC 3 dL_law_1286 rfl rfl rfl ?_
  refine g_iload_n (pc' := 1288) hC 0 dL_law_1287 rfl rfl rfl ?_
  refine g_iconst (pc' := 1289) (v := (Int32.ofNat 2)) hC dL_law_1288 (by decide) rfl ?_
  refine g_iadd (pc' := 1290) hC dL_law_1289 rfl ?_
  refine g_sld (pc' := 1291) hC hX hbl hbA (li_in (by omega) hL) dL_law_1290 rfl ?_
  refine g_aload_n (pc' := 1292) hC 3 dL_law_1291 rfl rfl rfl ?_
  refine g_iload_n (pc' := 1293) hC 0 dL_law_1292 rfl rfl rfl ?_
  refine g_iconst (pc' := 1294) (v := (Int32.ofNat 3)) hC dL_law_1293 (by decide) rfl ?_
  refine g_iadd (pc' := 1295) hC dL_law_1294 rfl ?_
  refine g_sld (pc' := 1296) hC hX hbl hbA (li_in (by omega) hL) dL_law_1295 rfl ?_
  refine g_i2l (pc' := 1297) hC dL_law_1296 rfl ?_
  refine g_bipush (pc' := 1299) (v := (32 : Int32)) hC dL_law_1297 (by decide) rfl ?_
  refine g_lshl (pc' := 1300) hC dL_law_1299 rfl ?_
  refine g_aload_n (pc' := 1301) hC 3 dL_law_1300 rfl rfl rfl ?_
  refine g_iload_n (pc' := 1302) hC 0 dL_law_1301 rfl rfl rfl ?_
  refine g_iconst (pc' := 1303) (v := (Int32.ofNat 4)) hC dL_law_1302 (by decide) rfl ?_
  refine g_iadd (pc' := 1304) hC dL_law_1303 rfl ?_
  refine g_sld (pc' := 1305) hC hX hbl hbA (li_in (by omega) hL) dL_law_1304 rfl ?_
  refine g_i2l (pc' := 1306) hC dL_law_1305 rfl ?_
  refine g_ldc2 (pc' := 1309) hC dL_law_1306 ct_L_154 rfl ?_
  refine g_land (pc' := 1310) hC dL_law_1309 rfl ?_
  refine g_lor (pc' := 1311) hC dL_law_1310 rfl ?_
  refine g_callV_i (pc' := 1314) (w := wM) (ad := am) (wr := wX (d.1, ax, d.2.2) σx') (As := [.int (xs (Int32.toNatClampNeg ((Int32.ofNat k) + (Int32.ofNat 1)))), .int (xs (Int32.toNatClampNeg ((Int32.ofNat k) + (Int32.ofNat 2)))), .long (((Int32.toInt64 (xs (Int32.toNatClampNeg ((Int32.ofNat k) + (Int32.ofNat 3))))) <<< ((Int32.toInt64 (32 : Int32)) &&& 63)) ||| ((Int32.toInt64 (xs (Int32.toNatClampNeg ((Int32.ofNat k) + (Int32.ofNat 4))))) &&& (4294967295 : Int64)))]) (st := [.int r]) (n := 3) (ci := 12) hC hA hF (fun A1 => kX12_put l (d.1, am, d.2.2) A1 σm ((xs (Int32.toNatClampNeg ((Int32.ofNat k) + (Int32.ofNat 1))))) ((xs (Int32.toNatClampNeg ((Int32.ofNat k) + (Int32.ofNat 2))))) ((((Int32.toInt64 (xs (Int32.toNatClampNeg ((Int32.ofNat k) + (Int32.ofNat 3))))) <<< ((Int32.toInt64 (32 : Int32)) &&& 63)) ||| ((Int32.toInt64 (xs (Int32.toNatClampNeg ((Int32.ofNat k) + (Int32.ofNat 4))))) &&& (4294967295 : Int64))))) hm9 (M_at_0 _ _) rfl (jgV ml_L_160 im_X12_put se_X12_put in_X12 cd_X12_put) rfl rfl (by decide +kernel) ⟨Nat.le_of_ble_eq_true rfl, Nat.le_of_ble_eq_true rfl⟩ ⟨Nat.le_of_ble_eq_true rfl, Nat.le_of_ble_eq_true rfl⟩ rfl rfl (Nat.le_of_ble_eq_true rfl) rfl dL_law_1311 rfl ?_
  exact g_icmp_same hC dL_law_1314 rfl (next σx' σm' h9)
set_option maxHeartbeats 2000000 in
set_option maxRecDepth 100000 in
theorem law_case_35 {z : jZ} {d : jD} {A : Nat → Prop} {Q : State → Prop} {l : Launch} {b L : Nat} {xs : Nat → Int32} {ax am : Nat → Nat} {σx σm : jS} {k : Nat} (hK : lK z d A l b L xs) (hk : k + 6 ≤ L) (hAll : rAll σx σm) (next : ∀ σx1 σm1 : jS, rAll σx1 σm1 → lJ z d A Q b ax am σx1 σm1 k 1472) : lJ z d A Q b ax am σx σm k 1319 := by
  obtain ⟨hC, hA, hF, hX, hbl, hbA, hL⟩ := hK
  obtain ⟨ch, V, nb, hN, hC9, hL9, hT9, hD, hI9, hLn, hS, hB⟩ := id hAll
  obtain ⟨r, hx9, hm9⟩ := eq_element hS ((xs (Int32.toNatClampNeg ((Int32.ofNat k) + (Int32.ofNat 1))))) ((xs (Int32.toNatClampNeg ((Int32.ofNat k) + (Int32.ofNat 2)))))
  refine g_aload_n (pc' := 1320) hC 2 dL_law_1319 rfl rfl rfl ?_
  refine g_aload_n (pc' := 1321) hC 3 dL_law_1320 rfl rfl rfl ?_
  refine g_iload_n (pc' := 1322) hC 0 dL_law_1321 rfl rfl rfl ?_
  refine g_iconst (pc' := 1323) (v := (Int32.ofNat 1)) hC dL_law_1322 (by decide) rfl ?_
  refine g_iadd (pc' := 1324) hC dL_law_1323 rfl ?_
  refine g_sld (pc' := 1325) hC hX hbl hbA (li_in (by omega) hL) dL_law_1324 rfl ?_
  refine g_aload_n (pc' := 1326) hC 3 dL_law_1325 rfl rfl rfl ?_
  refine g_iload_n (pc' := 1327) hC 0 dL_law_1326 rfl rfl rfl ?_
  refine g_iconst (pc' := 1328) (v := (Int32.ofNat 2)) hC dL_law_1327 (by decide) rfl ?_
  refine g_iadd (pc' := 1329) hC dL_law_1328 rfl ?_
  refine g_sld (pc' := 1330) hC hX hbl hbA (li_in (by omega) hL) dL_law_1329 rfl ?_
  refine g_callV_lr (pc' := 1333) (w := wX) (ad := ax) (wr := wM (d.1, am, d.2.2) σm) (As := [.int (xs (Int32.toNatClampNeg ((Int32.ofNat k) + (Int32.ofNat 1)))), .int (xs (Int32.toNatClampNeg ((Int32.ofNat k) + (Int32.ofNat 2))))]) (st := []) (n := 2) (ci := 11) hC hA hF (fun A1 => kX11_element l (d.1, ax, d.2.2) A1 σx ((xs (Int32.toNatClampNeg ((Int32.ofNat k) + (Int32.ofNat 1))))) ((xs (Int32.toNatClampNeg ((Int32.ofNat k) + (Int32.ofNat 2)))))) hx9 (X_at_0 _ _) rfl (jgV ml_L_161 im_X11_element se_X11_element in_X11 cd_X11_element) rfl rfl (by decide +kernel) ⟨Nat.le_of_ble_eq_true rfl, Nat.le_of_ble_eq_true rfl⟩ ⟨Nat.le_of_ble_eq_true rfl, Nat.le_of_ble_eq_true rfl⟩ rfl rfl (Nat.le_of_ble_eq_true rfl) rfl dL_law_1330 rfl ?_
  refine g_aload_n (pc' := 1334) hC 1 dL_law_1333 rfl rfl rfl ?_
  refine g_aload_n (pc' := 1335) hC 3 dL_law_1334 rfl rfl rfl ?_
  refine g_iload_n (pc' := 1336) hC 0 dL_law_1335 rfl rfl rfl ?_
  refine g_iconst (pc' := 1337) (v := (Int32.ofNat 1)) hC dL_law_1336 (by decide) rfl ?_
  refine g_iadd (pc' := 1338) hC dL_law_1337 rfl ?_
  refine g_sld (pc' := 1339) hC hX hbl hbA (li_in (by omega) hL) dL_law_1338 rfl ?_
  refine g_aload_n (pc' := 1340) hC 3 dL_law_1339 rfl rfl rfl ?_
  refine g_iload_n (pc' := 1341) hC 0 dL_law_1340 rfl rfl rfl ?_
  refine g_iconst (pc' := 1342) (v := (Int32.ofNat 2)) hC dL_law_1341 (by decide) rfl ?_
  refine g_iadd (pc' := 1343) hC dL_law_1342 rfl ?_
  refine g_sld (pc' := 1344) hC hX hbl hbA (li_in (by omega) hL) dL_law_1343 rfl ?_
  refine g_callV_lr (pc' := 1347) (w := wM) (ad := am) (wr := wX (d.1, ax, d.2.2) σx) (As := [.int (xs (Int32.toNatClampNeg ((Int32.ofNat k) + (Int32.ofNat 1)))), .int (xs (Int32.toNatClampNeg ((Int32.ofNat k) + (Int32.ofNat 2))))]) (st := [.long r]) (n := 2) (ci := 12) hC hA hF (fun A1 => kX12_element l (d.1, am, d.2.2) A1 σm ((xs (Int32.toNatClampNeg ((Int32.ofNat k) + (Int32.ofNat 1))))) ((xs (Int32.toNatClampNeg ((Int32.ofNat k) + (Int32.ofNat 2)))))) hm9 (M_at_0 _ _) rfl (jgV ml_L_165 im_X12_element se_X12_element in_X12 cd_X12_element) rfl rfl (by decide +kernel) ⟨Nat.le_of_ble_eq_true rfl, Nat.le_of_ble_eq_true rfl⟩ ⟨Nat.le_of_ble_eq_true rfl, Nat.le_of_ble_eq_true rfl⟩ rfl rfl (Nat.le_of_ble_eq_true rfl) rfl dL_law_1344 rfl ?_
  refine g_lcmp (pc' := 1348) hC dL_law_1347 rfl ?_
  exact g_if_eq0 hC dL_law_1348 rfl (li_cmp r) (next σx σm hAll)
set_option maxHeartbeats 2000000 in
set_option maxRecDepth 100000 in
theorem law_case_36 {z : jZ} {d : jD} {A : Nat → Prop} {Q : State → Prop} {l : Launch} {b L : Nat} {xs : Nat → Int32} {ax am : Nat → Nat} {σx σm : jS} {k : Nat} (hK : lK z d A l b L xs) (hk : k + 6 ≤ L) (hAll : rAll σx σm) (next : ∀ σx1 σm1 : jS, rAll σx1 σm1 → lJ z d A Q b ax am σx1 σm1 k 1472) : lJ z d A Q b ax am σx σm k 1353 := by
  obtain ⟨hC, hA, hF, hX, hbl, hbA, hL⟩ := hK
  obtain ⟨r, σx', σm', hx9, hm9, h9⟩ := all_shift hAll ((xs (Int32.toNatClampNeg ((Int32.ofNat k) + (Int32.ofNat 1))))) ((xs (Int32.toNatClampNeg ((Int32.ofNat k) + (Int32.ofNat 2))))) ((xs (Int32.toNatClampNeg ((Int32.ofNat k) + (Int32.ofNat 3))))) ((xs (Int32.toNatClampNeg ((Int32.ofNat k) + (Int32.ofNat 4))))) ((xs (Int32.toNatClampNeg ((Int32.ofNat k) + (Int32.ofNat 5)))))
  refine g_aload_n (pc' := 1354) hC 2 dL_law_1353 rfl rfl rfl ?_
  refine g_aload_n (pc' := 1355) hC 3 dL_law_1354 rfl rfl rfl ?_
  refine g_iload_n (pc' := 1356) hC 0 dL_law_1355 rfl rfl rfl ?_
  refine g_iconst (pc' := 1357) (v := (Int32.ofNat 1)) hC dL_law_1356 (by decide) rfl ?_
  refine g_iadd (pc' := 1358) hC dL_law_1357 rfl ?_
  refine g_sld (pc' := 1359) hC hX hbl hbA (li_in (by omega) hL) dL_law_1358 rfl ?_
  refine g_aload_n (pc' := 1360) hC 3 dL_law_1359 rfl rfl rfl ?_
  refine g_iload_n (pc' := 1361) hC 0 dL_law_1360 rfl rfl rfl ?_
  refine g_iconst (pc' := 1362) (v := (Int32.ofNat 2)) hC dL_law_1361 (by decide) rfl ?_
  refine g_iadd (pc' := 1363) hC dL_law_1362 rfl ?_
  refine g_sld (pc' := 1364) hC hX hbl hbA (li_in (by omega) hL) dL_law_1363 rfl ?_
  refine g_aload_n (pc' := 1365) hC 3 dL_law_1364 rfl rfl rfl ?_
  refine g_iload_n (pc' := 1366) hC 0 dL_law_1365 rfl rfl rfl ?_
  refine g_iconst (pc' := 1367) (v := (Int32.ofNat 3)) hC dL_law_1366 (by decide) rfl ?_
  refine g_iadd (pc' := 1368) hC dL_law_1367 rfl ?_
  refine g_sld (pc' := 1369) hC hX hbl hbA (li_in (by omega) hL) dL_law_1368 rfl ?_
  refine g_aload_n (pc' := 1370) hC 3 dL_law_1369 rfl rfl rfl ?_
  refine g_iload_n (pc' := 1371) hC 0 dL_law_1370 rfl rfl rfl ?_
  refine g_iconst (pc' := 1372) (v := (Int32.ofNat 4)) hC dL_law_1371 (by decide) rfl ?_
  refine g_iadd (pc' := 1373) hC dL_law_1372 rfl ?_
  refine g_sld (pc' := 1374) hC hX hbl hbA (li_in (by omega) hL) dL_law_1373 rfl ?_
  refine g_aload_n (pc' := 1375) hC 3 dL_law_1374 rfl rfl rfl ?_
  refine g_iload_n (pc' := 1376) hC 0 dL_law_1375 rfl rfl rfl ?_
  refine g_iconst (pc' := 1377) (v := (Int32.ofNat 5)) hC dL_law_1376 (by decide) rfl ?_
  refine g_iadd (pc' := 1378) hC dL_law_1377 rfl ?_
  refine g_sld (pc' := 1379) hC hX hbl hbA (li_in (by omega) hL) dL_law_1378 rfl ?_
  refine g_callV_i (pc' := 1382) (w := wX) (ad := ax) (wr := wM (d.1, am, d.2.2) σm) (As := [.int (xs (Int32.toNatClampNeg ((Int32.ofNat k) + (Int32.ofNat 1)))), .int (xs (Int32.toNatClampNeg ((Int32.ofNat k) + (Int32.ofNat 2)))), .int (xs (Int32.toNatClampNeg ((Int32.ofNat k) + (Int32.ofNat 3)))), .int (xs (Int32.toNatClampNeg ((Int32.ofNat k) + (Int32.ofNat 4)))), .int (xs (Int32.toNatClampNeg ((Int32.ofNat k) + (Int32.ofNat 5))))]) (st := []) (n := 5) (ci := 11) hC hA hF (fun A1 => kX11_shift l (d.1, ax, d.2.2) A1 σx ((xs (Int32.toNatClampNeg ((Int32.ofNat k) + (Int32.ofNat 1))))) ((xs (Int32.toNatClampNeg ((Int32.ofNat k) + (Int32.ofNat 2))))) ((xs (Int32.toNatClampNeg ((Int32.ofNat k) + (Int32.ofNat 3))))) ((xs (Int32.toNatClampNeg ((Int32.ofNat k) + (Int32.ofNat 4))))) ((xs (Int32.toNatClampNeg ((Int32.ofNat k) + (Int32.ofNat 5)))))) hx9 (X_at_0 _ _) rfl (jgV ml_L_166 im_X11_shift se_X11_shift in_X11 cd_X11_shift) rfl rfl (by decide +kernel) ⟨Nat.le_of_ble_eq_true rfl, Nat.le_of_ble_eq_true rfl⟩ ⟨Nat.le_of_ble_eq_true rfl, Nat.le_of_ble_eq_true rfl⟩ rfl rfl (Nat.le_of_ble_eq_true rfl) rfl dL_law_1379 rfl ?_
  refine g_aload_n (pc' := 1383) hC 1 dL_law_1382 rfl rfl rfl ?_
  refine g_aload_n (pc' := 1384) hC 3 dL_law_1383 rfl rfl rfl ?_
  refine g_iload_n (pc' := 1385) hC 0 dL_law_1384 rfl rfl rfl ?_
  refine g_iconst (pc' := 1386) (v := (Int32.ofNat 1)) hC dL_law_1385 (by decide) rfl ?_
  refine g_iadd (pc' := 1387) hC dL_law_1386 rfl ?_
  refine g_sld (pc' := 1388) hC hX hbl hbA (li_in (by omega) hL) dL_law_1387 rfl ?_
  refine g_aload_n (pc' := 1389) hC 3 dL_law_1388 rfl rfl rfl ?_
  refine g_iload_n (pc' := 1390) hC 0 dL_law_1389 rfl rfl rfl ?_
  refine g_iconst (pc' := 1391) (v := (Int32.ofNat 2)) hC dL_law_1390 (by decide) rfl ?_
  refine g_iadd (pc' := 1392) hC dL_law_1391 rfl ?_
  refine g_sld (pc' := 1393) hC hX hbl hbA (li_in (by omega) hL) dL_law_1392 rfl ?_
  refine g_aload_n (pc' := 1394) hC 3 dL_law_1393 rfl rfl rfl ?_
  refine g_iload_n (pc' := 1395) hC 0 dL_law_1394 rfl rfl rfl ?_
  refine g_iconst (pc' := 1396) (v := (Int32.ofNat 3)) hC dL_law_1395 (by decide) rfl ?_
  refine g_iadd (pc' := 1397) hC dL_law_1396 rfl ?_
  refine g_sld (pc' := 1398) hC hX hbl hbA (li_in (by omega) hL) dL_law_1397 rfl ?_
  refine g_aload_n (pc' := 1399) hC 3 dL_law_1398 rfl rfl rfl ?_
  refine g_iload_n (pc' := 1400) hC 0 dL_law_1399 rfl rfl rfl ?_
  refine g_iconst (pc' := 1401) (v := (Int32.ofNat 4)) hC dL_law_1400 (by decide) rfl ?_
  refine g_iadd (pc' := 1402) hC dL_law_1401 rfl ?_
  refine g_sld (pc' := 1403) hC hX hbl hbA (li_in (by omega) hL) dL_law_1402 rfl ?_
  refine g_aload_n (pc' := 1404) hC 3 dL_law_1403 rfl rfl rfl ?_
  refine g_iload_n (pc' := 1405) hC 0 dL_law_1404 rfl rfl rfl ?_
  refine g_iconst (pc' := 1406) (v := (Int32.ofNat 5)) hC dL_law_1405 (by decide) rfl ?_
  refine g_iadd (pc' := 1407) hC dL_law_1406 rfl ?_
  refine g_sld (pc' := 1408) hC hX hbl hbA (li_in (by omega) hL) dL_law_1407 rfl ?_
  refine g_callV_i (pc' := 1411) (w := wM) (ad := am) (wr := wX (d.1, ax, d.2.2) σx') (As := [.int (xs (Int32.toNatClampNeg ((Int32.ofNat k) + (Int32.ofNat 1)))), .int (xs (Int32.toNatClampNeg ((Int32.ofNat k) + (Int32.ofNat 2)))), .int (xs (Int32.toNatClampNeg ((Int32.ofNat k) + (Int32.ofNat 3)))), .int (xs (Int32.toNatClampNeg ((Int32.ofNat k) + (Int32.ofNat 4)))), .int (xs (Int32.toNatClampNeg ((Int32.ofNat k) + (Int32.ofNat 5))))]) (st := [.int r]) (n := 5) (ci := 12) hC hA hF (fun A1 => kX12_shift l (d.1, am, d.2.2) A1 σm ((xs (Int32.toNatClampNeg ((Int32.ofNat k) + (Int32.ofNat 1))))) ((xs (Int32.toNatClampNeg ((Int32.ofNat k) + (Int32.ofNat 2))))) ((xs (Int32.toNatClampNeg ((Int32.ofNat k) + (Int32.ofNat 3))))) ((xs (Int32.toNatClampNeg ((Int32.ofNat k) + (Int32.ofNat 4))))) ((xs (Int32.toNatClampNeg ((Int32.ofNat k) + (Int32.ofNat 5)))))) hm9 (M_at_0 _ _) rfl (jgV ml_L_170 im_X12_shift se_X12_shift in_X12 cd_X12_shift) rfl rfl (by decide +kernel) ⟨Nat.le_of_ble_eq_true rfl, Nat.le_of_ble_eq_true rfl⟩ ⟨Nat.le_of_ble_eq_true rfl, Nat.le_of_ble_eq_true rfl⟩ rfl rfl (Nat.le_of_ble_eq_true rfl) rfl dL_law_1408 rfl ?_
  exact g_icmp_same hC dL_law_1411 rfl (next σx' σm' h9)
set_option maxHeartbeats 2000000 in
set_option maxRecDepth 100000 in
theorem law_case_37 {z : jZ} {d : jD} {A : Nat → Prop} {Q : State → Prop} {l : Launch} {b L : Nat} {xs : Nat → Int32} {ax am : Nat → Nat} {σx σm : jS} {k : Nat} (hK : lK z d A l b L xs) (hk : k + 6 ≤ L) (hAll : rAll σx σm) (next : ∀ σx1 σm1 : jS, rAll σx1 σm1 → lJ z d A Q b ax am σx1 σm1 k 1472) : lJ z d A Q b ax am σx σm k 1416 := by
  obtain ⟨hC, hA, hF, hX, hbl, hbA, hL⟩ := hK
  obtain ⟨ch, V, nb, hN, hC9, hL9, hT9, hD, hI9, hLn, hS, hB⟩ := id hAll
  obtain ⟨r, hx9, hm9⟩ := eq_taken hS hB ((xs (Int32.toNatClampNeg ((Int32.ofNat k) + (Int32.ofNat 1))))) ((xs (Int32.toNatClampNeg ((Int32.ofNat k) + (Int32.ofNat 2)))))
  refine g_aload_n (pc' := 1417) hC 2 dL_law_1416 rfl rfl rfl ?_
  refine g_aload_n (pc' := 1418) hC 3 dL_law_1417 rfl rfl rfl ?_
  refine g_iload_n (pc' := 1419) hC 0 dL_law_1418 rfl rfl rfl ?_
  refine g_iconst (pc' := 1420) (v := (Int32.ofNat 1)) hC dL_law_1419 (by decide) rfl ?_
  refine g_iadd (pc' := 1421) hC dL_law_1420 rfl ?_
  refine g_sld (pc' := 1422) hC hX hbl hbA (li_in (by omega) hL) dL_law_1421 rfl ?_
  refine g_aload_n (pc' := 1423) hC 3 dL_law_1422 rfl rfl rfl ?_
  refine g_iload_n (pc' := 1424) hC 0 dL_law_1423 rfl rfl rfl ?_
  refine g_iconst (pc' := 1425) (v := (Int32.ofNat 2)) hC dL_law_1424 (by decide) rfl ?_
  refine g_iadd (pc' := 1426) hC dL_law_1425 rfl ?_
  refine g_sld (pc' := 1427) hC hX hbl hbA (li_in (by omega) hL) dL_law_1426 rfl ?_
  refine g_callV_ir (pc' := 1430) (w := wX) (ad := ax) (wr := wM (d.1, am, d.2.2) σm) (As := [.int (xs (Int32.toNatClampNeg ((Int32.ofNat k) + (Int32.ofNat 1)))), .int (xs (Int32.toNatClampNeg ((Int32.ofNat k) + (Int32.ofNat 2))))]) (st := []) (n := 2) (ci := 11) hC hA hF (fun A1 => kX11_taken l (d.1, ax, d.2.2) A1 σx ((xs (Int32.toNatClampNeg ((Int32.ofNat k) + (Int32.ofNat 1))))) ((xs (Int32.toNatClampNeg ((Int32.ofNat k) + (Int32.ofNat 2)))))) hx9 (X_at_0 _ _) rfl (jgV ml_L_171 im_X11_taken se_X11_taken in_X11 cd_X11_taken) rfl rfl (by decide +kernel) ⟨Nat.le_of_ble_eq_true rfl, Nat.le_of_ble_eq_true rfl⟩ ⟨Nat.le_of_ble_eq_true rfl, Nat.le_of_ble_eq_true rfl⟩ rfl rfl (Nat.le_of_ble_eq_true rfl) rfl dL_law_1427 rfl ?_
  refine g_aload_n (pc' := 1431) hC 1 dL_law_1430 rfl rfl rfl ?_
  refine g_aload_n (pc' := 1432) hC 3 dL_law_1431 rfl rfl rfl ?_
  refine g_iload_n (pc' := 1433) hC 0 dL_law_1432 rfl rfl rfl ?_
  refine g_iconst (pc' := 1434) (v := (Int32.ofNat 1)) hC dL_law_1433 (by decide) rfl ?_
  refine g_iadd (pc' := 1435) hC dL_law_1434 rfl ?_
  refine g_sld (pc' := 1436) hC hX hbl hbA (li_in (by omega) hL) dL_law_1435 rfl ?_
  refine g_aload_n (pc' := 1437) hC 3 dL_law_1436 rfl rfl rfl ?_
  refine g_iload_n (pc' := 1438) hC 0 dL_law_1437 rfl rfl rfl ?_
  refine g_iconst (pc' := 1439) (v := (Int32.ofNat 2)) hC dL_law_1438 (by decide) rfl ?_
  refine g_iadd (pc' := 1440) hC dL_law_1439 rfl ?_
  refine g_sld (pc' := 1441) hC hX hbl hbA (li_in (by omega) hL) dL_law_1440 rfl ?_
  refine g_callV_ir (pc' := 1444) (w := wM) (ad := am) (wr := wX (d.1, ax, d.2.2) σx) (As := [.int (xs (Int32.toNatClampNeg ((Int32.ofNat k) + (Int32.ofNat 1)))), .int (xs (Int32.toNatClampNeg ((Int32.ofNat k) + (Int32.ofNat 2))))]) (st := [.int r]) (n := 2) (ci := 12) hC hA hF (fun A1 => kX12_taken l (d.1, am, d.2.2) A1 σm ((xs (Int32.toNatClampNeg ((Int32.ofNat k) + (Int32.ofNat 1))))) ((xs (Int32.toNatClampNeg ((Int32.ofNat k) + (Int32.ofNat 2)))))) hm9 (M_at_0 _ _) rfl (jgV ml_L_174 im_X12_taken se_X12_taken in_X12 cd_X12_taken) rfl rfl (by decide +kernel) ⟨Nat.le_of_ble_eq_true rfl, Nat.le_of_ble_eq_true rfl⟩ ⟨Nat.le_of_ble_eq_true rfl, Nat.le_of_ble_eq_true rfl⟩ rfl rfl (Nat.le_of_ble_eq_true rfl) rfl dL_law_1441 rfl ?_
  exact g_icmp_same hC dL_law_1444 rfl (next σx σm hAll)
set_option maxHeartbeats 2000000 in
set_option maxRecDepth 100000 in
theorem law_case_38 {z : jZ} {d : jD} {A : Nat → Prop} {Q : State → Prop} {l : Launch} {b L : Nat} {xs : Nat → Int32} {ax am : Nat → Nat} {σx σm : jS} {k : Nat} (hK : lK z d A l b L xs) (hk : k + 6 ≤ L) (hAll : rAll σx σm) (next : ∀ σx1 σm1 : jS, rAll σx1 σm1 → lJ z d A Q b ax am σx1 σm1 k 1472) : lJ z d A Q b ax am σx σm k 1449 := by
  obtain ⟨hC, hA, hF, hX, hbl, hbA, hL⟩ := hK
  obtain ⟨r, hx9, hm9⟩ := eq_count hAll ((xs (Int32.toNatClampNeg ((Int32.ofNat k) + (Int32.ofNat 1)))))
  refine g_aload_n (pc' := 1450) hC 2 dL_law_1449 rfl rfl rfl ?_
  refine g_aload_n (pc' := 1451) hC 3 dL_law_1450 rfl rfl rfl ?_
  refine g_iload_n (pc' := 1452) hC 0 dL_law_1451 rfl rfl rfl ?_
  refine g_iconst (pc' := 1453) (v := (Int32.ofNat 1)) hC dL_law_1452 (by decide) rfl ?_
  refine g_iadd (pc' := 1454) hC dL_law_1453 rfl ?_
  refine g_sld (pc' := 1455) hC hX hbl hbA (li_in (by omega) hL) dL_law_1454 rfl ?_
  refine g_callV_ir (pc' := 1458) (w := wX) (ad := ax) (wr := wM (d.1, am, d.2.2) σm) (As := [.int (xs (Int32.toNatClampNeg ((Int32.ofNat k) + (Int32.ofNat 1))))]) (st := []) (n := 1) (ci := 11) hC hA hF (fun A1 => kX11_count l (d.1, ax, d.2.2) A1 σx ((xs (Int32.toNatClampNeg ((Int32.ofNat k) + (Int32.ofNat 1)))))) hx9 (X_at_0 _ _) rfl (jgV ml_L_175 im_X11_count se_X11_count in_X11 cd_X11_count) rfl rfl (by decide +kernel) ⟨Nat.le_of_ble_eq_true rfl, Nat.le_of_ble_eq_true rfl⟩ ⟨Nat.le_of_ble_eq_true rfl, Nat.le_of_ble_eq_true rfl⟩ rfl rfl (Nat.le_of_ble_eq_true rfl) rfl dL_law_1455 rfl ?_
  refine g_aload_n (pc' := 1459) hC 1 dL_law_1458 rfl rfl rfl ?_
  refine g_aload_n (pc' := 1460) hC 3 dL_law_1459 rfl rfl rfl ?_
  refine g_iload_n (pc' := 1461) hC 0 dL_law_1460 rfl rfl rfl ?_
  refine g_iconst (pc' := 1462) (v := (Int32.ofNat 1)) hC dL_law_1461 (by decide) rfl ?_
  refine g_iadd (pc' := 1463) hC dL_law_1462 rfl ?_
  refine g_sld (pc' := 1464) hC hX hbl hbA (li_in (by omega) hL) dL_law_1463 rfl ?_
  refine g_callV_ir (pc' := 1467) (w := wM) (ad := am) (wr := wX (d.1, ax, d.2.2) σx) (As := [.int (xs (Int32.toNatClampNeg ((Int32.ofNat k) + (Int32.ofNat 1))))]) (st := [.int r]) (n := 1) (ci := 12) hC hA hF (fun A1 => kX12_count l (d.1, am, d.2.2) A1 σm ((xs (Int32.toNatClampNeg ((Int32.ofNat k) + (Int32.ofNat 1)))))) hm9 (M_at_0 _ _) rfl (jgV ml_L_178 im_X12_count se_X12_count in_X12 cd_X12_count) rfl rfl (by decide +kernel) ⟨Nat.le_of_ble_eq_true rfl, Nat.le_of_ble_eq_true rfl⟩ ⟨Nat.le_of_ble_eq_true rfl, Nat.le_of_ble_eq_true rfl⟩ rfl rfl (Nat.le_of_ble_eq_true rfl) rfl dL_law_1464 rfl ?_
  exact g_icmp_same hC dL_law_1467 rfl (next σx σm hAll)
