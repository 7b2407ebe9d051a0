/-! the law: its loop (laid by wip/whole/gen/law.py) -/
theorem zi_ofNat (n : Nat) : Int32.ofNat n = zi (n : Int) := by
  unfold zi
  first | rfl | exact (Int32.ofInt_natCast n).symm | exact (Int32.ofInt_eq_ofNat).symm | simp
theorem zfit_law {maxL : Nat} (h : maxL ≤ 17) : zfit room_1 9 maxL := ⟨show 9 + 1 ≤ 12 from by decide, show 8 + (maxL + 11) + 36 * 9 ≤ 438 from by omega⟩
theorem zand63 (c : Int32) : ∃ z : Int, c &&& zi 63 = zi z ∧ 0 ≤ z ∧ z ≤ 63 := by
  refine ⟨(c &&& zi 63).toInt, (zi_of _).symm, ?_⟩
  have hlt : (c.toBitVec &&& 63#32).toNat < 64 := by
    rw [BitVec.toNat_and]
    exact Nat.lt_of_le_of_lt Nat.and_le_right (by decide)
  have h : (c &&& zi 63).toInt = ((c.toBitVec &&& 63#32).toNat : Int) := by
    show (c &&& zi 63).toBitVec.toInt = _
    rw [Int32.toBitVec_and, show (zi 63).toBitVec = 63#32 from rfl]
    rw [BitVec.toInt_eq_toNat_of_lt (by omega)]
  rw [h]
  omega
section ZLAW
variable {Γ : zC} {A : Nat → Prop} {p : Program} {l : Launch} {e : Env} {R : Room} {s : State} {m : MethodId} {args : Array Value} {below : List Frame} {meth : Method} {c : Code} {cells slots : Nat} {Q : State → Prop} {own : String} {cc : ByteArray} {nL pc n : Nat} {lv st : List Value} {μ : zMem}
theorem zV_slen {b L : Nat} {xs : Nat → Int32} (C : zCx Γ A p s m args c own cc nL) (hX : va_X b L xs s s.heap ∧ b < s.heap.size ∧ ¬ A b) (d : decode cc pc = .ok (.arraylength, 1)) (hp : pc + 1 = n) (k : zV Γ A p l e R s m args below meth c cells slots Q n lv (.int (zi (L : Int)) :: st) μ) : zV Γ A p l e R s m args below meth c cells slots Q pc lv (.ref b :: st) μ := by
  subst hp
  intro H locs ls hl hP hS
  have h := k H locs ls hl hP hS
  rw [← zi_ofNat] at h
  exact va_slen C.1 C.2.1 hX.1 hX.2.1 hX.2.2 hS d h
theorem zV_sld {b L : Nat} {xs : Nat → Int32} {z : Int} (C : zCx Γ A p s m args c own cc nL) (hX : va_X b L xs s s.heap ∧ b < s.heap.size ∧ ¬ A b) (hL : L ≤ 3072) (d : decode cc pc = .ok (.iaload, 1)) (hz : 0 ≤ z ∧ z < L) (hp : pc + 1 = n) (k : zV Γ A p l e R s m args below meth c cells slots Q n lv (.int (xs z.toNat) :: st) μ) : zV Γ A p l e R s m args below meth c cells slots Q pc lv (.int (zi z) :: .ref b :: st) μ := by
  subst hp
  intro H locs ls hl hP hS
  have h := k H locs ls hl hP hS
  refine va_sld C.1 C.2.1 hX.1 hX.2.1 hX.2.2 hS (zi_in (n := L) hz (by omega)) d ?_
  rw [zi_clamp (by omega)]
  exact h
end ZLAW
set_option maxRecDepth 100000 in
set_option maxHeartbeats 4000000 in
theorem law_seat {Γ : zC} {A : Nat → Prop} {p : Program} {l : Launch} {e : Env} {s : State} {m : MethodId} {args : Array Value} {below : List Frame} {meth : Method} {c : Code} {cells slots : Nat} {Q : State → Prop} (C : zCx Γ A p s m args c RL cL_law 4) {b L : Nat} {xs : Nat → Int32} (hX : va_X b L xs s s.heap ∧ b < s.heap.size ∧ ¬ A b) (hL : L ≤ 3072) (hcs : cells ≤ room_1.cells ∧ slots ≤ room_1.slots) {i : Int} (hi : 0 ≤ i ∧ i ≤ (L : Int) - 6) {μ : zMem} (h : zSim μ) (NX : ∀ μ2 : zMem, zSim μ2 → zV Γ A p l e room_1 s m args below meth c cells slots Q 1416 [.ref b, .ref (za Γ 4 0), .ref (za Γ 5 0), .int (zi i)] [] μ2) :
    zV Γ A p l e room_1 s m args below meth c cells slots Q 212 [.ref b, .ref (za Γ 4 0), .ref (za Γ 5 0), .int (zi i)] [] μ := by
  obtain ⟨w, μ1, μ2, h1, h2, hs⟩ := pr_seat (Γ := Γ) (l := l) h (xs (i + 1).toNat) (xs (i + 2).toNat) (xs (i + 3).toNat)
  refine zV_aload_n (i := 1) (n := 213) C dL_law_212 rfl rfl rfl ?_
  refine zV_aload_n (i := 0) (n := 214) C dL_law_213 rfl rfl rfl ?_
  refine zV_iload_n (i := 3) (n := 215) C dL_law_214 rfl rfl rfl ?_
  refine zV_iconst (n := 216) C dL_law_215 rfl ?_
  refine zV_iadd (n := 217) C dL_law_216 rfl ?_
  refine zV_sld (n := 218) C hX hL dL_law_217 (by omega) rfl ?_
  refine zV_aload_n (i := 0) (n := 219) C dL_law_218 rfl rfl rfl ?_
  refine zV_iload_n (i := 3) (n := 220) C dL_law_219 rfl rfl rfl ?_
  refine zV_iconst (n := 221) C dL_law_220 rfl ?_
  refine zV_iadd (n := 222) C dL_law_221 rfl ?_
  refine zV_sld (n := 223) C hX hL dL_law_222 (by omega) rfl ?_
  refine zV_aload_n (i := 0) (n := 224) C dL_law_223 rfl rfl rfl ?_
  refine zV_iload_n (i := 3) (n := 225) C dL_law_224 rfl rfl rfl ?_
  refine zV_iconst (n := 226) C dL_law_225 rfl ?_
  refine zV_iadd (n := 227) C dL_law_226 rfl ?_
  refine zV_sld (n := 228) C hX hL dL_law_227 (by omega) rfl ?_
  refine zV_callV3u (n := 231) C zk7 jX8_seat lL_13 h1 dL_law_228 zs_cls rfl (Nat.le_of_ble_eq_true rfl) (zfit_law (by decide)) hcs rfl ?_
  refine zV_aload_n (i := 2) (n := 232) C dL_law_231 rfl rfl rfl ?_
  refine zV_aload_n (i := 0) (n := 233) C dL_law_232 rfl rfl rfl ?_
  refine zV_iload_n (i := 3) (n := 234) C dL_law_233 rfl rfl rfl ?_
  refine zV_iconst (n := 235) C dL_law_234 rfl ?_
  refine zV_iadd (n := 236) C dL_law_235 rfl ?_
  refine zV_sld (n := 237) C hX hL dL_law_236 (by omega) rfl ?_
  refine zV_aload_n (i := 0) (n := 238) C dL_law_237 rfl rfl rfl ?_
  refine zV_iload_n (i := 3) (n := 239) C dL_law_238 rfl rfl rfl ?_
  refine zV_iconst (n := 240) C dL_law_239 rfl ?_
  refine zV_iadd (n := 241) C dL_law_240 rfl ?_
  refine zV_sld (n := 242) C hX hL dL_law_241 (by omega) rfl ?_
  refine zV_aload_n (i := 0) (n := 243) C dL_law_242 rfl rfl rfl ?_
  refine zV_iload_n (i := 3) (n := 244) C dL_law_243 rfl rfl rfl ?_
  refine zV_iconst (n := 245) C dL_law_244 rfl ?_
  refine zV_iadd (n := 246) C dL_law_245 rfl ?_
  refine zV_sld (n := 247) C hX hL dL_law_246 (by omega) rfl ?_
  refine zV_callV3u (n := 250) C zk8 jX9_seat lL_17 h2 dL_law_247 zs_ref rfl (Nat.le_of_ble_eq_true rfl) (zfit_law (by decide)) hcs rfl ?_
  refine zV_icmp0_eq (n := 253) C 1416 dL_law_250 (by decide) rfl (fun _ => ?_) (fun q => absurd rfl q)
  exact NX _ hs
set_option maxRecDepth 100000 in
set_option maxHeartbeats 4000000 in
theorem law_seatOf {Γ : zC} {A : Nat → Prop} {p : Program} {l : Launch} {e : Env} {s : State} {m : MethodId} {args : Array Value} {below : List Frame} {meth : Method} {c : Code} {cells slots : Nat} {Q : State → Prop} (C : zCx Γ A p s m args c RL cL_law 4) {b L : Nat} {xs : Nat → Int32} (hX : va_X b L xs s s.heap ∧ b < s.heap.size ∧ ¬ A b) (hL : L ≤ 3072) (hcs : cells ≤ room_1.cells ∧ slots ≤ room_1.slots) {i : Int} (hi : 0 ≤ i ∧ i ≤ (L : Int) - 6) {μ : zMem} (h : zSim μ) (NX : ∀ μ2 : zMem, zSim μ2 → zV Γ A p l e room_1 s m args below meth c cells slots Q 1416 [.ref b, .ref (za Γ 4 0), .ref (za Γ 5 0), .int (zi i)] [] μ2) :
    zV Γ A p l e room_1 s m args below meth c cells slots Q 255 [.ref b, .ref (za Γ 4 0), .ref (za Γ 5 0), .int (zi i)] [] μ := by
  obtain ⟨w, μ1, μ2, h1, h2, hs⟩ := pr_seatOf (Γ := Γ) (l := l) h (xs (i + 1).toNat) (xs (i + 2).toNat)
  refine zV_aload_n (i := 1) (n := 256) C dL_law_255 rfl rfl rfl ?_
  refine zV_aload_n (i := 0) (n := 257) C dL_law_256 rfl rfl rfl ?_
  refine zV_iload_n (i := 3) (n := 258) C dL_law_257 rfl rfl rfl ?_
  refine zV_iconst (n := 259) C dL_law_258 rfl ?_
  refine zV_iadd (n := 260) C dL_law_259 rfl ?_
  refine zV_sld (n := 261) C hX hL dL_law_260 (by omega) rfl ?_
  refine zV_aload_n (i := 0) (n := 262) C dL_law_261 rfl rfl rfl ?_
  refine zV_iload_n (i := 3) (n := 263) C dL_law_262 rfl rfl rfl ?_
  refine zV_iconst (n := 264) C dL_law_263 rfl ?_
  refine zV_iadd (n := 265) C dL_law_264 rfl ?_
  refine zV_sld (n := 266) C hX hL dL_law_265 (by omega) rfl ?_
  refine zV_callV2u (n := 269) C zk7 jX8_seatOf lL_18 h1 dL_law_266 zs_cls rfl (Nat.le_of_ble_eq_true rfl) (zfit_law (by decide)) hcs rfl ?_
  refine zV_aload_n (i := 2) (n := 270) C dL_law_269 rfl rfl rfl ?_
  refine zV_aload_n (i := 0) (n := 271) C dL_law_270 rfl rfl rfl ?_
  refine zV_iload_n (i := 3) (n := 272) C dL_law_271 rfl rfl rfl ?_
  refine zV_iconst (n := 273) C dL_law_272 rfl ?_
  refine zV_iadd (n := 274) C dL_law_273 rfl ?_
  refine zV_sld (n := 275) C hX hL dL_law_274 (by omega) rfl ?_
  refine zV_aload_n (i := 0) (n := 276) C dL_law_275 rfl rfl rfl ?_
  refine zV_iload_n (i := 3) (n := 277) C dL_law_276 rfl rfl rfl ?_
  refine zV_iconst (n := 278) C dL_law_277 rfl ?_
  refine zV_iadd (n := 279) C dL_law_278 rfl ?_
  refine zV_sld (n := 280) C hX hL dL_law_279 (by omega) rfl ?_
  refine zV_callV2u (n := 283) C zk8 jX9_seatOf lL_22 h2 dL_law_280 zs_ref rfl (Nat.le_of_ble_eq_true rfl) (zfit_law (by decide)) hcs rfl ?_
  refine zV_icmp0_eq (n := 286) C 1416 dL_law_283 (by decide) rfl (fun _ => ?_) (fun q => absurd rfl q)
  exact NX _ hs
set_option maxRecDepth 100000 in
set_option maxHeartbeats 4000000 in
theorem law_rain {Γ : zC} {A : Nat → Prop} {p : Program} {l : Launch} {e : Env} {s : State} {m : MethodId} {args : Array Value} {below : List Frame} {meth : Method} {c : Code} {cells slots : Nat} {Q : State → Prop} (C : zCx Γ A p s m args c RL cL_law 4) {b L : Nat} {xs : Nat → Int32} (hX : va_X b L xs s s.heap ∧ b < s.heap.size ∧ ¬ A b) (hL : L ≤ 3072) (hcs : cells ≤ room_1.cells ∧ slots ≤ room_1.slots) {i : Int} (hi : 0 ≤ i ∧ i ≤ (L : Int) - 6) {μ : zMem} (h : zSim μ) (NX : ∀ μ2 : zMem, zSim μ2 → zV Γ A p l e room_1 s m args below meth c cells slots Q 1416 [.ref b, .ref (za Γ 4 0), .ref (za Γ 5 0), .int (zi i)] [] μ2) :
    zV Γ A p l e room_1 s m args below meth c cells slots Q 288 [.ref b, .ref (za Γ 4 0), .ref (za Γ 5 0), .int (zi i)] [] μ := by
  obtain ⟨w, μ1, μ2, h1, h2, hs⟩ := pr_rain (Γ := Γ) (l := l) h (xs (i + 1).toNat)
  refine zV_aload_n (i := 1) (n := 289) C dL_law_288 rfl rfl rfl ?_
  refine zV_aload_n (i := 0) (n := 290) C dL_law_289 rfl rfl rfl ?_
  refine zV_iload_n (i := 3) (n := 291) C dL_law_290 rfl rfl rfl ?_
  refine zV_iconst (n := 292) C dL_law_291 rfl ?_
  refine zV_iadd (n := 293) C dL_law_292 rfl ?_
  refine zV_sld (n := 294) C hX hL dL_law_293 (by omega) rfl ?_
  refine zV_callV1u (n := 297) C zk7 jX8_rain lL_23 h1 dL_law_294 zs_cls rfl (Nat.le_of_ble_eq_true rfl) (zfit_law (by decide)) hcs rfl ?_
  refine zV_aload_n (i := 2) (n := 298) C dL_law_297 rfl rfl rfl ?_
  refine zV_aload_n (i := 0) (n := 299) C dL_law_298 rfl rfl rfl ?_
  refine zV_iload_n (i := 3) (n := 300) C dL_law_299 rfl rfl rfl ?_
  refine zV_iconst (n := 301) C dL_law_300 rfl ?_
  refine zV_iadd (n := 302) C dL_law_301 rfl ?_
  refine zV_sld (n := 303) C hX hL dL_law_302 (by omega) rfl ?_
  refine zV_callV1u (n := 306) C zk8 jX9_rain lL_27 h2 dL_law_303 zs_ref rfl (Nat.le_of_ble_eq_true rfl) (zfit_law (by decide)) hcs rfl ?_
  refine zV_icmp0_eq (n := 309) C 1416 dL_law_306 (by decide) rfl (fun _ => ?_) (fun q => absurd rfl q)
  exact NX _ hs
set_option maxRecDepth 100000 in
set_option maxHeartbeats 4000000 in
theorem law_child {Γ : zC} {A : Nat → Prop} {p : Program} {l : Launch} {e : Env} {s : State} {m : MethodId} {args : Array Value} {below : List Frame} {meth : Method} {c : Code} {cells slots : Nat} {Q : State → Prop} (C : zCx Γ A p s m args c RL cL_law 4) {b L : Nat} {xs : Nat → Int32} (hX : va_X b L xs s s.heap ∧ b < s.heap.size ∧ ¬ A b) (hL : L ≤ 3072) (hcs : cells ≤ room_1.cells ∧ slots ≤ room_1.slots) {i : Int} (hi : 0 ≤ i ∧ i ≤ (L : Int) - 6) {μ : zMem} (h : zSim μ) (NX : ∀ μ2 : zMem, zSim μ2 → zV Γ A p l e room_1 s m args below meth c cells slots Q 1416 [.ref b, .ref (za Γ 4 0), .ref (za Γ 5 0), .int (zi i)] [] μ2) :
    zV Γ A p l e room_1 s m args below meth c cells slots Q 311 [.ref b, .ref (za Γ 4 0), .ref (za Γ 5 0), .int (zi i)] [] μ := by
  obtain ⟨w, μ1, μ2, h1, h2, hs⟩ := pr_child (Γ := Γ) (l := l) h (xs (i + 1).toNat)
  refine zV_aload_n (i := 1) (n := 312) C dL_law_311 rfl rfl rfl ?_
  refine zV_aload_n (i := 0) (n := 313) C dL_law_312 rfl rfl rfl ?_
  refine zV_iload_n (i := 3) (n := 314) C dL_law_313 rfl rfl rfl ?_
  refine zV_iconst (n := 315) C dL_law_314 rfl ?_
  refine zV_iadd (n := 316) C dL_law_315 rfl ?_
  refine zV_sld (n := 317) C hX hL dL_law_316 (by omega) rfl ?_
  refine zV_callV1u (n := 320) C zk7 jX8_child lL_28 h1 dL_law_317 zs_cls rfl (Nat.le_of_ble_eq_true rfl) (zfit_law (by decide)) hcs rfl ?_
  refine zV_aload_n (i := 2) (n := 321) C dL_law_320 rfl rfl rfl ?_
  refine zV_aload_n (i := 0) (n := 322) C dL_law_321 rfl rfl rfl ?_
  refine zV_iload_n (i := 3) (n := 323) C dL_law_322 rfl rfl rfl ?_
  refine zV_iconst (n := 324) C dL_law_323 rfl ?_
  refine zV_iadd (n := 325) C dL_law_324 rfl ?_
  refine zV_sld (n := 326) C hX hL dL_law_325 (by omega) rfl ?_
  refine zV_callV1u (n := 329) C zk8 jX9_child lL_31 h2 dL_law_326 zs_ref rfl (Nat.le_of_ble_eq_true rfl) (zfit_law (by decide)) hcs rfl ?_
  refine zV_icmp0_eq (n := 332) C 1416 dL_law_329 (by decide) rfl (fun _ => ?_) (fun q => absurd rfl q)
  exact NX _ hs
set_option maxRecDepth 100000 in
set_option maxHeartbeats 4000000 in
theorem law_of {Γ : zC} {A : Nat → Prop} {p : Program} {l : Launch} {e : Env} {s : State} {m : MethodId} {args : Array Value} {below : List Frame} {meth : Method} {c : Code} {cells slots : Nat} {Q : State → Prop} (C : zCx Γ A p s m args c RL cL_law 4) {b L : Nat} {xs : Nat → Int32} (hX : va_X b L xs s s.heap ∧ b < s.heap.size ∧ ¬ A b) (hL : L ≤ 3072) (hcs : cells ≤ room_1.cells ∧ slots ≤ room_1.slots) {i : Int} (hi : 0 ≤ i ∧ i ≤ (L : Int) - 6) {μ : zMem} (h : zSim μ) (NX : ∀ μ2 : zMem, zSim μ2 → zV Γ A p l e room_1 s m args below meth c cells slots Q 1416 [.ref b, .ref (za Γ 4 0), .ref (za Γ 5 0), .int (zi i)] [] μ2) :
    zV Γ A p l e room_1 s m args below meth c cells slots Q 334 [.ref b, .ref (za Γ 4 0), .ref (za Γ 5 0), .int (zi i)] [] μ := by
  obtain ⟨w, μ1, μ2, h1, h2, hs⟩ := pr_of (Γ := Γ) (l := l) h (xs (i + 1).toNat) (xs (i + 2).toNat)
  refine zV_aload_n (i := 1) (n := 335) C dL_law_334 rfl rfl rfl ?_
  refine zV_aload_n (i := 0) (n := 336) C dL_law_335 rfl rfl rfl ?_
  refine zV_iload_n (i := 3) (n := 337) C dL_law_336 rfl rfl rfl ?_
  refine zV_iconst (n := 338) C dL_law_337 rfl ?_
  refine zV_iadd (n := 339) C dL_law_338 rfl ?_
  refine zV_sld (n := 340) C hX hL dL_law_339 (by omega) rfl ?_
  refine zV_aload_n (i := 0) (n := 341) C dL_law_340 rfl rfl rfl ?_
  refine zV_iload_n (i := 3) (n := 342) C dL_law_341 rfl rfl rfl ?_
  refine zV_iconst (n := 343) C dL_law_342 rfl ?_
  refine zV_iadd (n := 344) C dL_law_343 rfl ?_
  refine zV_sld (n := 345) C hX hL dL_law_344 (by omega) rfl ?_
  refine zV_callV2u (n := 348) C zk7 jX8_of lL_32 h1 dL_law_345 zs_cls rfl (Nat.le_of_ble_eq_true rfl) (zfit_law (by decide)) hcs rfl ?_
  refine zV_aload_n (i := 2) (n := 349) C dL_law_348 rfl rfl rfl ?_
  refine zV_aload_n (i := 0) (n := 350) C dL_law_349 rfl rfl rfl ?_
  refine zV_iload_n (i := 3) (n := 351) C dL_law_350 rfl rfl rfl ?_
  refine zV_iconst (n := 352) C dL_law_351 rfl ?_
  refine zV_iadd (n := 353) C dL_law_352 rfl ?_
  refine zV_sld (n := 354) C hX hL dL_law_353 (by omega) rfl ?_
  refine zV_aload_n (i := 0) (n := 355) C dL_law_354 rfl rfl rfl ?_
  refine zV_iload_n (i := 3) (n := 356) C dL_law_355 rfl rfl rfl ?_
  refine zV_iconst (n := 357) C dL_law_356 rfl ?_
  refine zV_iadd (n := 358) C dL_law_357 rfl ?_
  refine zV_sld (n := 359) C hX hL dL_law_358 (by omega) rfl ?_
  refine zV_callV2u (n := 362) C zk8 jX9_of lL_35 h2 dL_law_359 zs_ref rfl (Nat.le_of_ble_eq_true rfl) (zfit_law (by decide)) hcs rfl ?_
  refine zV_icmp0_eq (n := 365) C 1416 dL_law_362 (by decide) rfl (fun _ => ?_) (fun q => absurd rfl q)
  exact NX _ hs
set_option maxRecDepth 100000 in
set_option maxHeartbeats 4000000 in
theorem law_set {Γ : zC} {A : Nat → Prop} {p : Program} {l : Launch} {e : Env} {s : State} {m : MethodId} {args : Array Value} {below : List Frame} {meth : Method} {c : Code} {cells slots : Nat} {Q : State → Prop} (C : zCx Γ A p s m args c RL cL_law 4) {b L : Nat} {xs : Nat → Int32} (hX : va_X b L xs s s.heap ∧ b < s.heap.size ∧ ¬ A b) (hL : L ≤ 3072) (hcs : cells ≤ room_1.cells ∧ slots ≤ room_1.slots) {i : Int} (hi : 0 ≤ i ∧ i ≤ (L : Int) - 6) {μ : zMem} (h : zSim μ) (NX : ∀ μ2 : zMem, zSim μ2 → zV Γ A p l e room_1 s m args below meth c cells slots Q 1416 [.ref b, .ref (za Γ 4 0), .ref (za Γ 5 0), .int (zi i)] [] μ2) :
    zV Γ A p l e room_1 s m args below meth c cells slots Q 367 [.ref b, .ref (za Γ 4 0), .ref (za Γ 5 0), .int (zi i)] [] μ := by
  obtain ⟨w, μ1, μ2, h1, h2, hs⟩ := pr_set (Γ := Γ) (l := l) h (xs (i + 1).toNat) (xs (i + 2).toNat) (xs (i + 3).toNat)
  refine zV_aload_n (i := 1) (n := 368) C dL_law_367 rfl rfl rfl ?_
  refine zV_aload_n (i := 0) (n := 369) C dL_law_368 rfl rfl rfl ?_
  refine zV_iload_n (i := 3) (n := 370) C dL_law_369 rfl rfl rfl ?_
  refine zV_iconst (n := 371) C dL_law_370 rfl ?_
  refine zV_iadd (n := 372) C dL_law_371 rfl ?_
  refine zV_sld (n := 373) C hX hL dL_law_372 (by omega) rfl ?_
  refine zV_aload_n (i := 0) (n := 374) C dL_law_373 rfl rfl rfl ?_
  refine zV_iload_n (i := 3) (n := 375) C dL_law_374 rfl rfl rfl ?_
  refine zV_iconst (n := 376) C dL_law_375 rfl ?_
  refine zV_iadd (n := 377) C dL_law_376 rfl ?_
  refine zV_sld (n := 378) C hX hL dL_law_377 (by omega) rfl ?_
  refine zV_aload_n (i := 0) (n := 379) C dL_law_378 rfl rfl rfl ?_
  refine zV_iload_n (i := 3) (n := 380) C dL_law_379 rfl rfl rfl ?_
  refine zV_iconst (n := 381) C dL_law_380 rfl ?_
  refine zV_iadd (n := 382) C dL_law_381 rfl ?_
  refine zV_sld (n := 383) C hX hL dL_law_382 (by omega) rfl ?_
  refine zV_callV3u (n := 386) C zk7 jX8_set lL_36 h1 dL_law_383 zs_cls rfl (Nat.le_of_ble_eq_true rfl) (zfit_law (by decide)) hcs rfl ?_
  refine zV_aload_n (i := 2) (n := 387) C dL_law_386 rfl rfl rfl ?_
  refine zV_aload_n (i := 0) (n := 388) C dL_law_387 rfl rfl rfl ?_
  refine zV_iload_n (i := 3) (n := 389) C dL_law_388 rfl rfl rfl ?_
  refine zV_iconst (n := 390) C dL_law_389 rfl ?_
  refine zV_iadd (n := 391) C dL_law_390 rfl ?_
  refine zV_sld (n := 392) C hX hL dL_law_391 (by omega) rfl ?_
  refine zV_aload_n (i := 0) (n := 393) C dL_law_392 rfl rfl rfl ?_
  refine zV_iload_n (i := 3) (n := 394) C dL_law_393 rfl rfl rfl ?_
  refine zV_iconst (n := 395) C dL_law_394 rfl ?_
  refine zV_iadd (n := 396) C dL_law_395 rfl ?_
  refine zV_sld (n := 397) C hX hL dL_law_396 (by omega) rfl ?_
  refine zV_aload_n (i := 0) (n := 398) C dL_law_397 rfl rfl rfl ?_
  refine zV_iload_n (i := 3) (n := 399) C dL_law_398 rfl rfl rfl ?_
  refine zV_iconst (n := 400) C dL_law_399 rfl ?_
  refine zV_iadd (n := 401) C dL_law_400 rfl ?_
  refine zV_sld (n := 402) C hX hL dL_law_401 (by omega) rfl ?_
  refine zV_callV3u (n := 405) C zk8 jX9_set lL_39 h2 dL_law_402 zs_ref rfl (Nat.le_of_ble_eq_true rfl) (zfit_law (by decide)) hcs rfl ?_
  refine zV_icmp0_eq (n := 408) C 1416 dL_law_405 (by decide) rfl (fun _ => ?_) (fun q => absurd rfl q)
  exact NX _ hs
set_option maxRecDepth 100000 in
set_option maxHeartbeats 4000000 in
theorem law_turn {Γ : zC} {A : Nat → Prop} {p : Program} {l : Launch} {e : Env} {s : State} {m : MethodId} {args : Array Value} {below : List Frame} {meth : Method} {c : Code} {cells slots : Nat} {Q : State → Prop} (C : zCx Γ A p s m args c RL cL_law 4) {b L : Nat} {xs : Nat → Int32} (hX : va_X b L xs s s.heap ∧ b < s.heap.size ∧ ¬ A b) (hL : L ≤ 3072) (hcs : cells ≤ room_1.cells ∧ slots ≤ room_1.slots) {i : Int} (hi : 0 ≤ i ∧ i ≤ (L : Int) - 6) {μ : zMem} (h : zSim μ) (NX : ∀ μ2 : zMem, zSim μ2 → zV Γ A p l e room_1 s m args below meth c cells slots Q 1416 [.ref b, .ref (za Γ 4 0), .ref (za Γ 5 0), .int (zi i)] [] μ2) :
    zV Γ A p l e room_1 s m args below meth c cells slots Q 410 [.ref b, .ref (za Γ 4 0), .ref (za Γ 5 0), .int (zi i)] [] μ := by
  obtain ⟨w, μ1, μ2, h1, h2, hs⟩ := pr_turn (Γ := Γ) (l := l) h (xs (i + 1).toNat) (xs (i + 2).toNat)
  refine zV_aload_n (i := 1) (n := 411) C dL_law_410 rfl rfl rfl ?_
  refine zV_aload_n (i := 0) (n := 412) C dL_law_411 rfl rfl rfl ?_
  refine zV_iload_n (i := 3) (n := 413) C dL_law_412 rfl rfl rfl ?_
  refine zV_iconst (n := 414) C dL_law_413 rfl ?_
  refine zV_iadd (n := 415) C dL_law_414 rfl ?_
  refine zV_sld (n := 416) C hX hL dL_law_415 (by omega) rfl ?_
  refine zV_aload_n (i := 0) (n := 417) C dL_law_416 rfl rfl rfl ?_
  refine zV_iload_n (i := 3) (n := 418) C dL_law_417 rfl rfl rfl ?_
  refine zV_iconst (n := 419) C dL_law_418 rfl ?_
  refine zV_iadd (n := 420) C dL_law_419 rfl ?_
  refine zV_sld (n := 421) C hX hL dL_law_420 (by omega) rfl ?_
  refine zV_callV2u (n := 424) C zk7 jX8_turn lL_40 h1 dL_law_421 zs_cls rfl (Nat.le_of_ble_eq_true rfl) (zfit_law (by decide)) hcs rfl ?_
  refine zV_aload_n (i := 2) (n := 425) C dL_law_424 rfl rfl rfl ?_
  refine zV_aload_n (i := 0) (n := 426) C dL_law_425 rfl rfl rfl ?_
  refine zV_iload_n (i := 3) (n := 427) C dL_law_426 rfl rfl rfl ?_
  refine zV_iconst (n := 428) C dL_law_427 rfl ?_
  refine zV_iadd (n := 429) C dL_law_428 rfl ?_
  refine zV_sld (n := 430) C hX hL dL_law_429 (by omega) rfl ?_
  refine zV_aload_n (i := 0) (n := 431) C dL_law_430 rfl rfl rfl ?_
  refine zV_iload_n (i := 3) (n := 432) C dL_law_431 rfl rfl rfl ?_
  refine zV_iconst (n := 433) C dL_law_432 rfl ?_
  refine zV_iadd (n := 434) C dL_law_433 rfl ?_
  refine zV_sld (n := 435) C hX hL dL_law_434 (by omega) rfl ?_
  refine zV_callV2u (n := 438) C zk8 jX9_turn lL_43 h2 dL_law_435 zs_ref rfl (Nat.le_of_ble_eq_true rfl) (zfit_law (by decide)) hcs rfl ?_
  refine zV_icmp0_eq (n := 441) C 1416 dL_law_438 (by decide) rfl (fun _ => ?_) (fun q => absurd rfl q)
  exact NX _ hs
set_option maxRecDepth 100000 in
set_option maxHeartbeats 4000000 in
theorem law_as {Γ : zC} {A : Nat → Prop} {p : Program} {l : Launch} {e : Env} {s : State} {m : MethodId} {args : Array Value} {below : List Frame} {meth : Method} {c : Code} {cells slots : Nat} {Q : State → Prop} (C : zCx Γ A p s m args c RL cL_law 4) {b L : Nat} {xs : Nat → Int32} (hX : va_X b L xs s s.heap ∧ b < s.heap.size ∧ ¬ A b) (hL : L ≤ 3072) (hcs : cells ≤ room_1.cells ∧ slots ≤ room_1.slots) {i : Int} (hi : 0 ≤ i ∧ i ≤ (L : Int) - 6) {μ : zMem} (h : zSim μ) (NX : ∀ μ2 : zMem, zSim μ2 → zV Γ A p l e room_1 s m args below meth c cells slots Q 1416 [.ref b, .ref (za Γ 4 0), .ref (za Γ 5 0), .int (zi i)] [] μ2) :
    zV Γ A p l e room_1 s m args below meth c cells slots Q 443 [.ref b, .ref (za Γ 4 0), .ref (za Γ 5 0), .int (zi i)] [] μ := by
  obtain ⟨w, μ1, μ2, h1, h2, hs⟩ := pr_as (Γ := Γ) (l := l) h (xs (i + 1).toNat) (xs (i + 2).toNat)
  refine zV_aload_n (i := 1) (n := 444) C dL_law_443 rfl rfl rfl ?_
  refine zV_aload_n (i := 0) (n := 445) C dL_law_444 rfl rfl rfl ?_
  refine zV_iload_n (i := 3) (n := 446) C dL_law_445 rfl rfl rfl ?_
  refine zV_iconst (n := 447) C dL_law_446 rfl ?_
  refine zV_iadd (n := 448) C dL_law_447 rfl ?_
  refine zV_sld (n := 449) C hX hL dL_law_448 (by omega) rfl ?_
  refine zV_aload_n (i := 0) (n := 450) C dL_law_449 rfl rfl rfl ?_
  refine zV_iload_n (i := 3) (n := 451) C dL_law_450 rfl rfl rfl ?_
  refine zV_iconst (n := 452) C dL_law_451 rfl ?_
  refine zV_iadd (n := 453) C dL_law_452 rfl ?_
  refine zV_sld (n := 454) C hX hL dL_law_453 (by omega) rfl ?_
  refine zV_callV2u (n := 457) C zk7 jX8_as lL_44 h1 dL_law_454 zs_cls rfl (Nat.le_of_ble_eq_true rfl) (zfit_law (by decide)) hcs rfl ?_
  refine zV_aload_n (i := 2) (n := 458) C dL_law_457 rfl rfl rfl ?_
  refine zV_aload_n (i := 0) (n := 459) C dL_law_458 rfl rfl rfl ?_
  refine zV_iload_n (i := 3) (n := 460) C dL_law_459 rfl rfl rfl ?_
  refine zV_iconst (n := 461) C dL_law_460 rfl ?_
  refine zV_iadd (n := 462) C dL_law_461 rfl ?_
  refine zV_sld (n := 463) C hX hL dL_law_462 (by omega) rfl ?_
  refine zV_aload_n (i := 0) (n := 464) C dL_law_463 rfl rfl rfl ?_
  refine zV_iload_n (i := 3) (n := 465) C dL_law_464 rfl rfl rfl ?_
  refine zV_iconst (n := 466) C dL_law_465 rfl ?_
  refine zV_iadd (n := 467) C dL_law_466 rfl ?_
  refine zV_sld (n := 468) C hX hL dL_law_467 (by omega) rfl ?_
  refine zV_callV2u (n := 471) C zk8 jX9_as lL_47 h2 dL_law_468 zs_ref rfl (Nat.le_of_ble_eq_true rfl) (zfit_law (by decide)) hcs rfl ?_
  refine zV_icmp0_eq (n := 474) C 1416 dL_law_471 (by decide) rfl (fun _ => ?_) (fun q => absurd rfl q)
  exact NX _ hs
set_option maxRecDepth 100000 in
set_option maxHeartbeats 4000000 in
theorem law_seconds {Γ : zC} {A : Nat → Prop} {p : Program} {l : Launch} {e : Env} {s : State} {m : MethodId} {args : Array Value} {below : List Frame} {meth : Method} {c : Code} {cells slots : Nat} {Q : State → Prop} (C : zCx Γ A p s m args c RL cL_law 4) {b L : Nat} {xs : Nat → Int32} (hX : va_X b L xs s s.heap ∧ b < s.heap.size ∧ ¬ A b) (hL : L ≤ 3072) (hcs : cells ≤ room_1.cells ∧ slots ≤ room_1.slots) {i : Int} (hi : 0 ≤ i ∧ i ≤ (L : Int) - 6) {μ : zMem} (h : zSim μ) (NX : ∀ μ2 : zMem, zSim μ2 → zV Γ A p l e room_1 s m args below meth c cells slots Q 1416 [.ref b, .ref (za Γ 4 0), .ref (za Γ 5 0), .int (zi i)] [] μ2) :
    zV Γ A p l e room_1 s m args below meth c cells slots Q 476 [.ref b, .ref (za Γ 4 0), .ref (za Γ 5 0), .int (zi i)] [] μ := by
  obtain ⟨w, μ1, μ2, h1, h2, hs⟩ := pr_seconds (Γ := Γ) (l := l) h (xs (i + 1).toNat) (xs (i + 2).toNat)
  refine zV_aload_n (i := 1) (n := 477) C dL_law_476 rfl rfl rfl ?_
  refine zV_aload_n (i := 0) (n := 478) C dL_law_477 rfl rfl rfl ?_
  refine zV_iload_n (i := 3) (n := 479) C dL_law_478 rfl rfl rfl ?_
  refine zV_iconst (n := 480) C dL_law_479 rfl ?_
  refine zV_iadd (n := 481) C dL_law_480 rfl ?_
  refine zV_sld (n := 482) C hX hL dL_law_481 (by omega) rfl ?_
  refine zV_aload_n (i := 0) (n := 483) C dL_law_482 rfl rfl rfl ?_
  refine zV_iload_n (i := 3) (n := 484) C dL_law_483 rfl rfl rfl ?_
  refine zV_iconst (n := 485) C dL_law_484 rfl ?_
  refine zV_iadd (n := 486) C dL_law_485 rfl ?_
  refine zV_sld (n := 487) C hX hL dL_law_486 (by omega) rfl ?_
  refine zV_callV2u (n := 490) C zk7 jX8_seconds lL_48 h1 dL_law_487 zs_cls rfl (Nat.le_of_ble_eq_true rfl) (zfit_law (by decide)) hcs rfl ?_
  refine zV_aload_n (i := 2) (n := 491) C dL_law_490 rfl rfl rfl ?_
  refine zV_aload_n (i := 0) (n := 492) C dL_law_491 rfl rfl rfl ?_
  refine zV_iload_n (i := 3) (n := 493) C dL_law_492 rfl rfl rfl ?_
  refine zV_iconst (n := 494) C dL_law_493 rfl ?_
  refine zV_iadd (n := 495) C dL_law_494 rfl ?_
  refine zV_sld (n := 496) C hX hL dL_law_495 (by omega) rfl ?_
  refine zV_aload_n (i := 0) (n := 497) C dL_law_496 rfl rfl rfl ?_
  refine zV_iload_n (i := 3) (n := 498) C dL_law_497 rfl rfl rfl ?_
  refine zV_iconst (n := 499) C dL_law_498 rfl ?_
  refine zV_iadd (n := 500) C dL_law_499 rfl ?_
  refine zV_sld (n := 501) C hX hL dL_law_500 (by omega) rfl ?_
  refine zV_callV2u (n := 504) C zk8 jX9_seconds lL_51 h2 dL_law_501 zs_ref rfl (Nat.le_of_ble_eq_true rfl) (zfit_law (by decide)) hcs rfl ?_
  refine zV_icmp0_eq (n := 507) C 1416 dL_law_504 (by decide) rfl (fun _ => ?_) (fun q => absurd rfl q)
  exact NX _ hs
set_option maxRecDepth 100000 in
set_option maxHeartbeats 4000000 in
theorem law_snug {Γ : zC} {A : Nat → Prop} {p : Program} {l : Launch} {e : Env} {s : State} {m : MethodId} {args : Array Value} {below : List Frame} {meth : Method} {c : Code} {cells slots : Nat} {Q : State → Prop} (C : zCx Γ A p s m args c RL cL_law 4) {b L : Nat} {xs : Nat → Int32} (hX : va_X b L xs s s.heap ∧ b < s.heap.size ∧ ¬ A b) (hL : L ≤ 3072) (hcs : cells ≤ room_1.cells ∧ slots ≤ room_1.slots) {i : Int} (hi : 0 ≤ i ∧ i ≤ (L : Int) - 6) {μ : zMem} (h : zSim μ) (NX : ∀ μ2 : zMem, zSim μ2 → zV Γ A p l e room_1 s m args below meth c cells slots Q 1416 [.ref b, .ref (za Γ 4 0), .ref (za Γ 5 0), .int (zi i)] [] μ2) :
    zV Γ A p l e room_1 s m args below meth c cells slots Q 509 [.ref b, .ref (za Γ 4 0), .ref (za Γ 5 0), .int (zi i)] [] μ := by
  obtain ⟨w, μ1, μ2, h1, h2, hs⟩ := pr_snug (Γ := Γ) (l := l) h (xs (i + 1).toNat) (xs (i + 2).toNat)
  refine zV_aload_n (i := 1) (n := 510) C dL_law_509 rfl rfl rfl ?_
  refine zV_aload_n (i := 0) (n := 511) C dL_law_510 rfl rfl rfl ?_
  refine zV_iload_n (i := 3) (n := 512) C dL_law_511 rfl rfl rfl ?_
  refine zV_iconst (n := 513) C dL_law_512 rfl ?_
  refine zV_iadd (n := 514) C dL_law_513 rfl ?_
  refine zV_sld (n := 515) C hX hL dL_law_514 (by omega) rfl ?_
  refine zV_aload_n (i := 0) (n := 516) C dL_law_515 rfl rfl rfl ?_
  refine zV_iload_n (i := 3) (n := 517) C dL_law_516 rfl rfl rfl ?_
  refine zV_iconst (n := 518) C dL_law_517 rfl ?_
  refine zV_iadd (n := 519) C dL_law_518 rfl ?_
  refine zV_sld (n := 520) C hX hL dL_law_519 (by omega) rfl ?_
  refine zV_callV2u (n := 523) C zk7 jX8_snug lL_52 h1 dL_law_520 zs_cls rfl (Nat.le_of_ble_eq_true rfl) (zfit_law (by decide)) hcs rfl ?_
  refine zV_aload_n (i := 2) (n := 524) C dL_law_523 rfl rfl rfl ?_
  refine zV_aload_n (i := 0) (n := 525) C dL_law_524 rfl rfl rfl ?_
  refine zV_iload_n (i := 3) (n := 526) C dL_law_525 rfl rfl rfl ?_
  refine zV_iconst (n := 527) C dL_law_526 rfl ?_
  refine zV_iadd (n := 528) C dL_law_527 rfl ?_
  refine zV_sld (n := 529) C hX hL dL_law_528 (by omega) rfl ?_
  refine zV_aload_n (i := 0) (n := 530) C dL_law_529 rfl rfl rfl ?_
  refine zV_iload_n (i := 3) (n := 531) C dL_law_530 rfl rfl rfl ?_
  refine zV_iconst (n := 532) C dL_law_531 rfl ?_
  refine zV_iadd (n := 533) C dL_law_532 rfl ?_
  refine zV_sld (n := 534) C hX hL dL_law_533 (by omega) rfl ?_
  refine zV_callV2u (n := 537) C zk8 jX9_snug lL_55 h2 dL_law_534 zs_ref rfl (Nat.le_of_ble_eq_true rfl) (zfit_law (by decide)) hcs rfl ?_
  refine zV_icmp0_eq (n := 540) C 1416 dL_law_537 (by decide) rfl (fun _ => ?_) (fun q => absurd rfl q)
  exact NX _ hs
set_option maxRecDepth 100000 in
set_option maxHeartbeats 4000000 in
theorem law_click {Γ : zC} {A : Nat → Prop} {p : Program} {l : Launch} {e : Env} {s : State} {m : MethodId} {args : Array Value} {below : List Frame} {meth : Method} {c : Code} {cells slots : Nat} {Q : State → Prop} (C : zCx Γ A p s m args c RL cL_law 4) {b L : Nat} {xs : Nat → Int32} (hX : va_X b L xs s s.heap ∧ b < s.heap.size ∧ ¬ A b) (hL : L ≤ 3072) (hcs : cells ≤ room_1.cells ∧ slots ≤ room_1.slots) {i : Int} (hi : 0 ≤ i ∧ i ≤ (L : Int) - 6) {μ : zMem} (h : zSim μ) (NX : ∀ μ2 : zMem, zSim μ2 → zV Γ A p l e room_1 s m args below meth c cells slots Q 1416 [.ref b, .ref (za Γ 4 0), .ref (za Γ 5 0), .int (zi i)] [] μ2) :
    zV Γ A p l e room_1 s m args below meth c cells slots Q 542 [.ref b, .ref (za Γ 4 0), .ref (za Γ 5 0), .int (zi i)] [] μ := by
  obtain ⟨w, μ1, μ2, h1, h2, hs⟩ := pr_click (Γ := Γ) (l := l) h (xs (i + 1).toNat) (xs (i + 2).toNat)
  refine zV_aload_n (i := 1) (n := 543) C dL_law_542 rfl rfl rfl ?_
  refine zV_aload_n (i := 0) (n := 544) C dL_law_543 rfl rfl rfl ?_
  refine zV_iload_n (i := 3) (n := 545) C dL_law_544 rfl rfl rfl ?_
  refine zV_iconst (n := 546) C dL_law_545 rfl ?_
  refine zV_iadd (n := 547) C dL_law_546 rfl ?_
  refine zV_sld (n := 548) C hX hL dL_law_547 (by omega) rfl ?_
  refine zV_aload_n (i := 0) (n := 549) C dL_law_548 rfl rfl rfl ?_
  refine zV_iload_n (i := 3) (n := 550) C dL_law_549 rfl rfl rfl ?_
  refine zV_iconst (n := 551) C dL_law_550 rfl ?_
  refine zV_iadd (n := 552) C dL_law_551 rfl ?_
  refine zV_sld (n := 553) C hX hL dL_law_552 (by omega) rfl ?_
  refine zV_callV2u (n := 556) C zk7 jX8_click lL_56 h1 dL_law_553 zs_cls rfl (Nat.le_of_ble_eq_true rfl) (zfit_law (by decide)) hcs rfl ?_
  refine zV_aload_n (i := 2) (n := 557) C dL_law_556 rfl rfl rfl ?_
  refine zV_aload_n (i := 0) (n := 558) C dL_law_557 rfl rfl rfl ?_
  refine zV_iload_n (i := 3) (n := 559) C dL_law_558 rfl rfl rfl ?_
  refine zV_iconst (n := 560) C dL_law_559 rfl ?_
  refine zV_iadd (n := 561) C dL_law_560 rfl ?_
  refine zV_sld (n := 562) C hX hL dL_law_561 (by omega) rfl ?_
  refine zV_aload_n (i := 0) (n := 563) C dL_law_562 rfl rfl rfl ?_
  refine zV_iload_n (i := 3) (n := 564) C dL_law_563 rfl rfl rfl ?_
  refine zV_iconst (n := 565) C dL_law_564 rfl ?_
  refine zV_iadd (n := 566) C dL_law_565 rfl ?_
  refine zV_sld (n := 567) C hX hL dL_law_566 (by omega) rfl ?_
  refine zV_callV2u (n := 570) C zk8 jX9_click lL_59 h2 dL_law_567 zs_ref rfl (Nat.le_of_ble_eq_true rfl) (zfit_law (by decide)) hcs rfl ?_
  refine zV_icmp0_eq (n := 573) C 1416 dL_law_570 (by decide) rfl (fun _ => ?_) (fun q => absurd rfl q)
  exact NX _ hs
set_option maxRecDepth 100000 in
set_option maxHeartbeats 4000000 in
theorem law_letOut {Γ : zC} {A : Nat → Prop} {p : Program} {l : Launch} {e : Env} {s : State} {m : MethodId} {args : Array Value} {below : List Frame} {meth : Method} {c : Code} {cells slots : Nat} {Q : State → Prop} (C : zCx Γ A p s m args c RL cL_law 4) {b L : Nat} {xs : Nat → Int32} (hX : va_X b L xs s s.heap ∧ b < s.heap.size ∧ ¬ A b) (hL : L ≤ 3072) (hcs : cells ≤ room_1.cells ∧ slots ≤ room_1.slots) {i : Int} (hi : 0 ≤ i ∧ i ≤ (L : Int) - 6) {μ : zMem} (h : zSim μ) (NX : ∀ μ2 : zMem, zSim μ2 → zV Γ A p l e room_1 s m args below meth c cells slots Q 1416 [.ref b, .ref (za Γ 4 0), .ref (za Γ 5 0), .int (zi i)] [] μ2) :
    zV Γ A p l e room_1 s m args below meth c cells slots Q 575 [.ref b, .ref (za Γ 4 0), .ref (za Γ 5 0), .int (zi i)] [] μ := by
  obtain ⟨w, μ1, μ2, h1, h2, hs⟩ := pr_letOut (Γ := Γ) (l := l) h (xs (i + 1).toNat)
  refine zV_aload_n (i := 1) (n := 576) C dL_law_575 rfl rfl rfl ?_
  refine zV_aload_n (i := 0) (n := 577) C dL_law_576 rfl rfl rfl ?_
  refine zV_iload_n (i := 3) (n := 578) C dL_law_577 rfl rfl rfl ?_
  refine zV_iconst (n := 579) C dL_law_578 rfl ?_
  refine zV_iadd (n := 580) C dL_law_579 rfl ?_
  refine zV_sld (n := 581) C hX hL dL_law_580 (by omega) rfl ?_
  refine zV_callV1u (n := 584) C zk7 jX8_letOut lL_60 h1 dL_law_581 zs_cls rfl (Nat.le_of_ble_eq_true rfl) (zfit_law (by decide)) hcs rfl ?_
  refine zV_aload_n (i := 2) (n := 585) C dL_law_584 rfl rfl rfl ?_
  refine zV_aload_n (i := 0) (n := 586) C dL_law_585 rfl rfl rfl ?_
  refine zV_iload_n (i := 3) (n := 587) C dL_law_586 rfl rfl rfl ?_
  refine zV_iconst (n := 588) C dL_law_587 rfl ?_
  refine zV_iadd (n := 589) C dL_law_588 rfl ?_
  refine zV_sld (n := 590) C hX hL dL_law_589 (by omega) rfl ?_
  refine zV_callV1u (n := 593) C zk8 jX9_letOut lL_63 h2 dL_law_590 zs_ref rfl (Nat.le_of_ble_eq_true rfl) (zfit_law (by decide)) hcs rfl ?_
  refine zV_icmp0_eq (n := 596) C 1416 dL_law_593 (by decide) rfl (fun _ => ?_) (fun q => absurd rfl q)
  exact NX _ hs
set_option maxRecDepth 100000 in
set_option maxHeartbeats 4000000 in
theorem law_bribe {Γ : zC} {A : Nat → Prop} {p : Program} {l : Launch} {e : Env} {s : State} {m : MethodId} {args : Array Value} {below : List Frame} {meth : Method} {c : Code} {cells slots : Nat} {Q : State → Prop} (C : zCx Γ A p s m args c RL cL_law 4) {b L : Nat} {xs : Nat → Int32} (hX : va_X b L xs s s.heap ∧ b < s.heap.size ∧ ¬ A b) (hL : L ≤ 3072) (hcs : cells ≤ room_1.cells ∧ slots ≤ room_1.slots) {i : Int} (hi : 0 ≤ i ∧ i ≤ (L : Int) - 6) {μ : zMem} (h : zSim μ) (NX : ∀ μ2 : zMem, zSim μ2 → zV Γ A p l e room_1 s m args below meth c cells slots Q 1416 [.ref b, .ref (za Γ 4 0), .ref (za Γ 5 0), .int (zi i)] [] μ2) :
    zV Γ A p l e room_1 s m args below meth c cells slots Q 598 [.ref b, .ref (za Γ 4 0), .ref (za Γ 5 0), .int (zi i)] [] μ := by
  obtain ⟨w, μ1, μ2, h1, h2, hs⟩ := pr_bribe (Γ := Γ) (l := l) h (xs (i + 1).toNat)
  refine zV_aload_n (i := 1) (n := 599) C dL_law_598 rfl rfl rfl ?_
  refine zV_aload_n (i := 0) (n := 600) C dL_law_599 rfl rfl rfl ?_
  refine zV_iload_n (i := 3) (n := 601) C dL_law_600 rfl rfl rfl ?_
  refine zV_iconst (n := 602) C dL_law_601 rfl ?_
  refine zV_iadd (n := 603) C dL_law_602 rfl ?_
  refine zV_sld (n := 604) C hX hL dL_law_603 (by omega) rfl ?_
  refine zV_callV1u (n := 607) C zk7 jX8_bribe lL_64 h1 dL_law_604 zs_cls rfl (Nat.le_of_ble_eq_true rfl) (zfit_law (by decide)) hcs rfl ?_
  refine zV_aload_n (i := 2) (n := 608) C dL_law_607 rfl rfl rfl ?_
  refine zV_aload_n (i := 0) (n := 609) C dL_law_608 rfl rfl rfl ?_
  refine zV_iload_n (i := 3) (n := 610) C dL_law_609 rfl rfl rfl ?_
  refine zV_iconst (n := 611) C dL_law_610 rfl ?_
  refine zV_iadd (n := 612) C dL_law_611 rfl ?_
  refine zV_sld (n := 613) C hX hL dL_law_612 (by omega) rfl ?_
  refine zV_callV1u (n := 616) C zk8 jX9_bribe lL_67 h2 dL_law_613 zs_ref rfl (Nat.le_of_ble_eq_true rfl) (zfit_law (by decide)) hcs rfl ?_
  refine zV_icmp0_eq (n := 619) C 1416 dL_law_616 (by decide) rfl (fun _ => ?_) (fun q => absurd rfl q)
  exact NX _ hs
set_option maxRecDepth 100000 in
set_option maxHeartbeats 4000000 in
theorem law_drive {Γ : zC} {A : Nat → Prop} {p : Program} {l : Launch} {e : Env} {s : State} {m : MethodId} {args : Array Value} {below : List Frame} {meth : Method} {c : Code} {cells slots : Nat} {Q : State → Prop} (C : zCx Γ A p s m args c RL cL_law 4) {b L : Nat} {xs : Nat → Int32} (hX : va_X b L xs s s.heap ∧ b < s.heap.size ∧ ¬ A b) (hL : L ≤ 3072) (hcs : cells ≤ room_1.cells ∧ slots ≤ room_1.slots) {i : Int} (hi : 0 ≤ i ∧ i ≤ (L : Int) - 6) {μ : zMem} (h : zSim μ) (NX : ∀ μ2 : zMem, zSim μ2 → zV Γ A p l e room_1 s m args below meth c cells slots Q 1416 [.ref b, .ref (za Γ 4 0), .ref (za Γ 5 0), .int (zi i)] [] μ2) :
    zV Γ A p l e room_1 s m args below meth c cells slots Q 621 [.ref b, .ref (za Γ 4 0), .ref (za Γ 5 0), .int (zi i)] [] μ := by
  obtain ⟨w, μ1, μ2, h1, h2, hs⟩ := pr_drive (Γ := Γ) (l := l) h (xs (i + 1).toNat)
  refine zV_aload_n (i := 1) (n := 622) C dL_law_621 rfl rfl rfl ?_
  refine zV_aload_n (i := 0) (n := 623) C dL_law_622 rfl rfl rfl ?_
  refine zV_iload_n (i := 3) (n := 624) C dL_law_623 rfl rfl rfl ?_
  refine zV_iconst (n := 625) C dL_law_624 rfl ?_
  refine zV_iadd (n := 626) C dL_law_625 rfl ?_
  refine zV_sld (n := 627) C hX hL dL_law_626 (by omega) rfl ?_
  refine zV_callV1u (n := 630) C zk7 jX8_drive lL_68 h1 dL_law_627 zs_cls rfl (Nat.le_of_ble_eq_true rfl) (zfit_law (by decide)) hcs rfl ?_
  refine zV_aload_n (i := 2) (n := 631) C dL_law_630 rfl rfl rfl ?_
  refine zV_aload_n (i := 0) (n := 632) C dL_law_631 rfl rfl rfl ?_
  refine zV_iload_n (i := 3) (n := 633) C dL_law_632 rfl rfl rfl ?_
  refine zV_iconst (n := 634) C dL_law_633 rfl ?_
  refine zV_iadd (n := 635) C dL_law_634 rfl ?_
  refine zV_sld (n := 636) C hX hL dL_law_635 (by omega) rfl ?_
  refine zV_callV1u (n := 639) C zk8 jX9_drive lL_71 h2 dL_law_636 zs_ref rfl (Nat.le_of_ble_eq_true rfl) (zfit_law (by decide)) hcs rfl ?_
  refine zV_icmp0_eq (n := 642) C 1416 dL_law_639 (by decide) rfl (fun _ => ?_) (fun q => absurd rfl q)
  exact NX _ hs
set_option maxRecDepth 100000 in
set_option maxHeartbeats 4000000 in
theorem law_now {Γ : zC} {A : Nat → Prop} {p : Program} {l : Launch} {e : Env} {s : State} {m : MethodId} {args : Array Value} {below : List Frame} {meth : Method} {c : Code} {cells slots : Nat} {Q : State → Prop} (C : zCx Γ A p s m args c RL cL_law 4) {b L : Nat} {xs : Nat → Int32} (hX : va_X b L xs s s.heap ∧ b < s.heap.size ∧ ¬ A b) (hL : L ≤ 3072) (hcs : cells ≤ room_1.cells ∧ slots ≤ room_1.slots) {i : Int} (hi : 0 ≤ i ∧ i ≤ (L : Int) - 6) {μ : zMem} (h : zSim μ) (NX : ∀ μ2 : zMem, zSim μ2 → zV Γ A p l e room_1 s m args below meth c cells slots Q 1416 [.ref b, .ref (za Γ 4 0), .ref (za Γ 5 0), .int (zi i)] [] μ2) :
    zV Γ A p l e room_1 s m args below meth c cells slots Q 644 [.ref b, .ref (za Γ 4 0), .ref (za Γ 5 0), .int (zi i)] [] μ := by
  obtain ⟨w, μ1, μ2, h1, h2, hs⟩ := pr_now (Γ := Γ) (l := l) h (xs (i + 1).toNat)
  refine zV_aload_n (i := 1) (n := 645) C dL_law_644 rfl rfl rfl ?_
  refine zV_aload_n (i := 0) (n := 646) C dL_law_645 rfl rfl rfl ?_
  refine zV_iload_n (i := 3) (n := 647) C dL_law_646 rfl rfl rfl ?_
  refine zV_iconst (n := 648) C dL_law_647 rfl ?_
  refine zV_iadd (n := 649) C dL_law_648 rfl ?_
  refine zV_sld (n := 650) C hX hL dL_law_649 (by omega) rfl ?_
  refine zV_callV1u (n := 653) C zk7 jX8_now lL_72 h1 dL_law_650 zs_cls rfl (Nat.le_of_ble_eq_true rfl) (zfit_law (by decide)) hcs rfl ?_
  refine zV_aload_n (i := 2) (n := 654) C dL_law_653 rfl rfl rfl ?_
  refine zV_aload_n (i := 0) (n := 655) C dL_law_654 rfl rfl rfl ?_
  refine zV_iload_n (i := 3) (n := 656) C dL_law_655 rfl rfl rfl ?_
  refine zV_iconst (n := 657) C dL_law_656 rfl ?_
  refine zV_iadd (n := 658) C dL_law_657 rfl ?_
  refine zV_sld (n := 659) C hX hL dL_law_658 (by omega) rfl ?_
  refine zV_callV1u (n := 662) C zk8 jX9_now lL_75 h2 dL_law_659 zs_ref rfl (Nat.le_of_ble_eq_true rfl) (zfit_law (by decide)) hcs rfl ?_
  refine zV_icmp0_eq (n := 665) C 1416 dL_law_662 (by decide) rfl (fun _ => ?_) (fun q => absurd rfl q)
  exact NX _ hs
set_option maxRecDepth 100000 in
set_option maxHeartbeats 4000000 in
theorem law_on {Γ : zC} {A : Nat → Prop} {p : Program} {l : Launch} {e : Env} {s : State} {m : MethodId} {args : Array Value} {below : List Frame} {meth : Method} {c : Code} {cells slots : Nat} {Q : State → Prop} (C : zCx Γ A p s m args c RL cL_law 4) {b L : Nat} {xs : Nat → Int32} (hX : va_X b L xs s s.heap ∧ b < s.heap.size ∧ ¬ A b) (hL : L ≤ 3072) (hcs : cells ≤ room_1.cells ∧ slots ≤ room_1.slots) {i : Int} (hi : 0 ≤ i ∧ i ≤ (L : Int) - 6) {μ : zMem} (h : zSim μ) (NX : ∀ μ2 : zMem, zSim μ2 → zV Γ A p l e room_1 s m args below meth c cells slots Q 1416 [.ref b, .ref (za Γ 4 0), .ref (za Γ 5 0), .int (zi i)] [] μ2) :
    zV Γ A p l e room_1 s m args below meth c cells slots Q 667 [.ref b, .ref (za Γ 4 0), .ref (za Γ 5 0), .int (zi i)] [] μ := by
  obtain ⟨w, μ1, μ2, h1, h2, hs⟩ := pr_on (Γ := Γ) (l := l) h (xs (i + 1).toNat) (xs (i + 2).toNat) (xs (i + 3).toNat)
  refine zV_aload_n (i := 1) (n := 668) C dL_law_667 rfl rfl rfl ?_
  refine zV_aload_n (i := 0) (n := 669) C dL_law_668 rfl rfl rfl ?_
  refine zV_iload_n (i := 3) (n := 670) C dL_law_669 rfl rfl rfl ?_
  refine zV_iconst (n := 671) C dL_law_670 rfl ?_
  refine zV_iadd (n := 672) C dL_law_671 rfl ?_
  refine zV_sld (n := 673) C hX hL dL_law_672 (by omega) rfl ?_
  refine zV_aload_n (i := 0) (n := 674) C dL_law_673 rfl rfl rfl ?_
  refine zV_iload_n (i := 3) (n := 675) C dL_law_674 rfl rfl rfl ?_
  refine zV_iconst (n := 676) C dL_law_675 rfl ?_
  refine zV_iadd (n := 677) C dL_law_676 rfl ?_
  refine zV_sld (n := 678) C hX hL dL_law_677 (by omega) rfl ?_
  refine zV_aload_n (i := 0) (n := 679) C dL_law_678 rfl rfl rfl ?_
  refine zV_iload_n (i := 3) (n := 680) C dL_law_679 rfl rfl rfl ?_
  refine zV_iconst (n := 681) C dL_law_680 rfl ?_
  refine zV_iadd (n := 682) C dL_law_681 rfl ?_
  refine zV_sld (n := 683) C hX hL dL_law_682 (by omega) rfl ?_
  refine zV_callV3u (n := 686) C zk7 jX8_on lL_76 h1 dL_law_683 zs_cls rfl (Nat.le_of_ble_eq_true rfl) (zfit_law (by decide)) hcs rfl ?_
  refine zV_aload_n (i := 2) (n := 687) C dL_law_686 rfl rfl rfl ?_
  refine zV_aload_n (i := 0) (n := 688) C dL_law_687 rfl rfl rfl ?_
  refine zV_iload_n (i := 3) (n := 689) C dL_law_688 rfl rfl rfl ?_
  refine zV_iconst (n := 690) C dL_law_689 rfl ?_
  refine zV_iadd (n := 691) C dL_law_690 rfl ?_
  refine zV_sld (n := 692) C hX hL dL_law_691 (by omega) rfl ?_
  refine zV_aload_n (i := 0) (n := 693) C dL_law_692 rfl rfl rfl ?_
  refine zV_iload_n (i := 3) (n := 694) C dL_law_693 rfl rfl rfl ?_
  refine zV_iconst (n := 695) C dL_law_694 rfl ?_
  refine zV_iadd (n := 696) C dL_law_695 rfl ?_
  refine zV_sld (n := 697) C hX hL dL_law_696 (by omega) rfl ?_
  refine zV_aload_n (i := 0) (n := 698) C dL_law_697 rfl rfl rfl ?_
  refine zV_iload_n (i := 3) (n := 699) C dL_law_698 rfl rfl rfl ?_
  refine zV_iconst (n := 700) C dL_law_699 rfl ?_
  refine zV_iadd (n := 701) C dL_law_700 rfl ?_
  refine zV_sld (n := 702) C hX hL dL_law_701 (by omega) rfl ?_
  refine zV_callV3u (n := 705) C zk8 jX9_on lL_79 h2 dL_law_702 zs_ref rfl (Nat.le_of_ble_eq_true rfl) (zfit_law (by decide)) hcs rfl ?_
  refine zV_icmp0_eq (n := 708) C 1416 dL_law_705 (by decide) rfl (fun _ => ?_) (fun q => absurd rfl q)
  exact NX _ hs
set_option maxRecDepth 100000 in
set_option maxHeartbeats 4000000 in
theorem law_out {Γ : zC} {A : Nat → Prop} {p : Program} {l : Launch} {e : Env} {s : State} {m : MethodId} {args : Array Value} {below : List Frame} {meth : Method} {c : Code} {cells slots : Nat} {Q : State → Prop} (C : zCx Γ A p s m args c RL cL_law 4) {b L : Nat} {xs : Nat → Int32} (hX : va_X b L xs s s.heap ∧ b < s.heap.size ∧ ¬ A b) (hL : L ≤ 3072) (hcs : cells ≤ room_1.cells ∧ slots ≤ room_1.slots) {i : Int} (hi : 0 ≤ i ∧ i ≤ (L : Int) - 6) {μ : zMem} (h : zSim μ) (NX : ∀ μ2 : zMem, zSim μ2 → zV Γ A p l e room_1 s m args below meth c cells slots Q 1416 [.ref b, .ref (za Γ 4 0), .ref (za Γ 5 0), .int (zi i)] [] μ2) :
    zV Γ A p l e room_1 s m args below meth c cells slots Q 710 [.ref b, .ref (za Γ 4 0), .ref (za Γ 5 0), .int (zi i)] [] μ := by
  obtain ⟨w, μ1, μ2, h1, h2, hs⟩ := pr_out (Γ := Γ) (l := l) h (xs (i + 1).toNat)
  refine zV_aload_n (i := 1) (n := 711) C dL_law_710 rfl rfl rfl ?_
  refine zV_aload_n (i := 0) (n := 712) C dL_law_711 rfl rfl rfl ?_
  refine zV_iload_n (i := 3) (n := 713) C dL_law_712 rfl rfl rfl ?_
  refine zV_iconst (n := 714) C dL_law_713 rfl ?_
  refine zV_iadd (n := 715) C dL_law_714 rfl ?_
  refine zV_sld (n := 716) C hX hL dL_law_715 (by omega) rfl ?_
  refine zV_callV1u (n := 719) C zk7 jX8_out lL_80 h1 dL_law_716 zs_cls rfl (Nat.le_of_ble_eq_true rfl) (zfit_law (by decide)) hcs rfl ?_
  refine zV_aload_n (i := 2) (n := 720) C dL_law_719 rfl rfl rfl ?_
  refine zV_aload_n (i := 0) (n := 721) C dL_law_720 rfl rfl rfl ?_
  refine zV_iload_n (i := 3) (n := 722) C dL_law_721 rfl rfl rfl ?_
  refine zV_iconst (n := 723) C dL_law_722 rfl ?_
  refine zV_iadd (n := 724) C dL_law_723 rfl ?_
  refine zV_sld (n := 725) C hX hL dL_law_724 (by omega) rfl ?_
  refine zV_callV1u (n := 728) C zk8 jX9_out lL_83 h2 dL_law_725 zs_ref rfl (Nat.le_of_ble_eq_true rfl) (zfit_law (by decide)) hcs rfl ?_
  refine zV_icmp0_eq (n := 731) C 1416 dL_law_728 (by decide) rfl (fun _ => ?_) (fun q => absurd rfl q)
  exact NX _ hs
set_option maxRecDepth 100000 in
set_option maxHeartbeats 4000000 in
theorem law_firstOut {Γ : zC} {A : Nat → Prop} {p : Program} {l : Launch} {e : Env} {s : State} {m : MethodId} {args : Array Value} {below : List Frame} {meth : Method} {c : Code} {cells slots : Nat} {Q : State → Prop} (C : zCx Γ A p s m args c RL cL_law 4) {b L : Nat} {xs : Nat → Int32} (hX : va_X b L xs s s.heap ∧ b < s.heap.size ∧ ¬ A b) (hL : L ≤ 3072) (hcs : cells ≤ room_1.cells ∧ slots ≤ room_1.slots) {i : Int} (hi : 0 ≤ i ∧ i ≤ (L : Int) - 6) {μ : zMem} (h : zSim μ) (NX : ∀ μ2 : zMem, zSim μ2 → zV Γ A p l e room_1 s m args below meth c cells slots Q 1416 [.ref b, .ref (za Γ 4 0), .ref (za Γ 5 0), .int (zi i)] [] μ2) :
    zV Γ A p l e room_1 s m args below meth c cells slots Q 733 [.ref b, .ref (za Γ 4 0), .ref (za Γ 5 0), .int (zi i)] [] μ := by
  obtain ⟨w, μ1, μ2, h1, h2, hs⟩ := pr_firstOut (Γ := Γ) (l := l) h 
  refine zV_aload_n (i := 1) (n := 734) C dL_law_733 rfl rfl rfl ?_
  refine zV_callV0u (n := 737) C zk7 jX8_firstOut lL_84 h1 dL_law_734 zs_cls rfl (Nat.le_of_ble_eq_true rfl) (zfit_law (by decide)) hcs rfl ?_
  refine zV_aload_n (i := 2) (n := 738) C dL_law_737 rfl rfl rfl ?_
  refine zV_callV0u (n := 741) C zk8 jX9_firstOut lL_88 h2 dL_law_738 zs_ref rfl (Nat.le_of_ble_eq_true rfl) (zfit_law (by decide)) hcs rfl ?_
  refine zV_icmp0_eq (n := 744) C 1416 dL_law_741 (by decide) rfl (fun _ => ?_) (fun q => absurd rfl q)
  exact NX _ hs
set_option maxRecDepth 100000 in
set_option maxHeartbeats 4000000 in
theorem law_quick {Γ : zC} {A : Nat → Prop} {p : Program} {l : Launch} {e : Env} {s : State} {m : MethodId} {args : Array Value} {below : List Frame} {meth : Method} {c : Code} {cells slots : Nat} {Q : State → Prop} (C : zCx Γ A p s m args c RL cL_law 4) {b L : Nat} {xs : Nat → Int32} (hX : va_X b L xs s s.heap ∧ b < s.heap.size ∧ ¬ A b) (hL : L ≤ 3072) (hcs : cells ≤ room_1.cells ∧ slots ≤ room_1.slots) {i : Int} (hi : 0 ≤ i ∧ i ≤ (L : Int) - 6) {μ : zMem} (h : zSim μ) (NX : ∀ μ2 : zMem, zSim μ2 → zV Γ A p l e room_1 s m args below meth c cells slots Q 1416 [.ref b, .ref (za Γ 4 0), .ref (za Γ 5 0), .int (zi i)] [] μ2) :
    zV Γ A p l e room_1 s m args below meth c cells slots Q 746 [.ref b, .ref (za Γ 4 0), .ref (za Γ 5 0), .int (zi i)] [] μ := by
  obtain ⟨w, μ1, μ2, h1, h2, hs⟩ := pr_quick (Γ := Γ) (l := l) h (xs (i + 1).toNat)
  refine zV_aload_n (i := 1) (n := 747) C dL_law_746 rfl rfl rfl ?_
  refine zV_aload_n (i := 0) (n := 748) C dL_law_747 rfl rfl rfl ?_
  refine zV_iload_n (i := 3) (n := 749) C dL_law_748 rfl rfl rfl ?_
  refine zV_iconst (n := 750) C dL_law_749 rfl ?_
  refine zV_iadd (n := 751) C dL_law_750 rfl ?_
  refine zV_sld (n := 752) C hX hL dL_law_751 (by omega) rfl ?_
  refine zV_callV1u (n := 755) C zk7 jX8_quick lL_89 h1 dL_law_752 zs_cls rfl (Nat.le_of_ble_eq_true rfl) (zfit_law (by decide)) hcs rfl ?_
  refine zV_aload_n (i := 2) (n := 756) C dL_law_755 rfl rfl rfl ?_
  refine zV_aload_n (i := 0) (n := 757) C dL_law_756 rfl rfl rfl ?_
  refine zV_iload_n (i := 3) (n := 758) C dL_law_757 rfl rfl rfl ?_
  refine zV_iconst (n := 759) C dL_law_758 rfl ?_
  refine zV_iadd (n := 760) C dL_law_759 rfl ?_
  refine zV_sld (n := 761) C hX hL dL_law_760 (by omega) rfl ?_
  refine zV_callV1u (n := 764) C zk8 jX9_quick lL_92 h2 dL_law_761 zs_ref rfl (Nat.le_of_ble_eq_true rfl) (zfit_law (by decide)) hcs rfl ?_
  refine zV_icmp0_eq (n := 767) C 1416 dL_law_764 (by decide) rfl (fun _ => ?_) (fun q => absurd rfl q)
  exact NX _ hs
set_option maxRecDepth 100000 in
set_option maxHeartbeats 4000000 in
theorem law_safe {Γ : zC} {A : Nat → Prop} {p : Program} {l : Launch} {e : Env} {s : State} {m : MethodId} {args : Array Value} {below : List Frame} {meth : Method} {c : Code} {cells slots : Nat} {Q : State → Prop} (C : zCx Γ A p s m args c RL cL_law 4) {b L : Nat} {xs : Nat → Int32} (hX : va_X b L xs s s.heap ∧ b < s.heap.size ∧ ¬ A b) (hL : L ≤ 3072) (hcs : cells ≤ room_1.cells ∧ slots ≤ room_1.slots) {i : Int} (hi : 0 ≤ i ∧ i ≤ (L : Int) - 6) {μ : zMem} (h : zSim μ) (NX : ∀ μ2 : zMem, zSim μ2 → zV Γ A p l e room_1 s m args below meth c cells slots Q 1416 [.ref b, .ref (za Γ 4 0), .ref (za Γ 5 0), .int (zi i)] [] μ2) :
    zV Γ A p l e room_1 s m args below meth c cells slots Q 769 [.ref b, .ref (za Γ 4 0), .ref (za Γ 5 0), .int (zi i)] [] μ := by
  obtain ⟨w, μ1, μ2, h1, h2, hs⟩ := pr_safe (Γ := Γ) (l := l) h (xs (i + 1).toNat)
  refine zV_aload_n (i := 1) (n := 770) C dL_law_769 rfl rfl rfl ?_
  refine zV_aload_n (i := 0) (n := 771) C dL_law_770 rfl rfl rfl ?_
  refine zV_iload_n (i := 3) (n := 772) C dL_law_771 rfl rfl rfl ?_
  refine zV_iconst (n := 773) C dL_law_772 rfl ?_
  refine zV_iadd (n := 774) C dL_law_773 rfl ?_
  refine zV_sld (n := 775) C hX hL dL_law_774 (by omega) rfl ?_
  refine zV_callV1u (n := 778) C zk7 jX8_safe lL_93 h1 dL_law_775 zs_cls rfl (Nat.le_of_ble_eq_true rfl) (zfit_law (by decide)) hcs rfl ?_
  refine zV_aload_n (i := 2) (n := 779) C dL_law_778 rfl rfl rfl ?_
  refine zV_aload_n (i := 0) (n := 780) C dL_law_779 rfl rfl rfl ?_
  refine zV_iload_n (i := 3) (n := 781) C dL_law_780 rfl rfl rfl ?_
  refine zV_iconst (n := 782) C dL_law_781 rfl ?_
  refine zV_iadd (n := 783) C dL_law_782 rfl ?_
  refine zV_sld (n := 784) C hX hL dL_law_783 (by omega) rfl ?_
  refine zV_callV1u (n := 787) C zk8 jX9_safe lL_96 h2 dL_law_784 zs_ref rfl (Nat.le_of_ble_eq_true rfl) (zfit_law (by decide)) hcs rfl ?_
  refine zV_icmp0_eq (n := 790) C 1416 dL_law_787 (by decide) rfl (fun _ => ?_) (fun q => absurd rfl q)
  exact NX _ hs
set_option maxRecDepth 100000 in
set_option maxHeartbeats 4000000 in
theorem law_all {Γ : zC} {A : Nat → Prop} {p : Program} {l : Launch} {e : Env} {s : State} {m : MethodId} {args : Array Value} {below : List Frame} {meth : Method} {c : Code} {cells slots : Nat} {Q : State → Prop} (C : zCx Γ A p s m args c RL cL_law 4) {b L : Nat} {xs : Nat → Int32} (hX : va_X b L xs s s.heap ∧ b < s.heap.size ∧ ¬ A b) (hL : L ≤ 3072) (hcs : cells ≤ room_1.cells ∧ slots ≤ room_1.slots) {i : Int} (hi : 0 ≤ i ∧ i ≤ (L : Int) - 6) {μ : zMem} (h : zSim μ) (NX : ∀ μ2 : zMem, zSim μ2 → zV Γ A p l e room_1 s m args below meth c cells slots Q 1416 [.ref b, .ref (za Γ 4 0), .ref (za Γ 5 0), .int (zi i)] [] μ2) :
    zV Γ A p l e room_1 s m args below meth c cells slots Q 792 [.ref b, .ref (za Γ 4 0), .ref (za Γ 5 0), .int (zi i)] [] μ := by
  obtain ⟨w, μ1, μ2, h1, h2, hs⟩ := pr_all (Γ := Γ) (l := l) h (xs (i + 1).toNat)
  refine zV_aload_n (i := 1) (n := 793) C dL_law_792 rfl rfl rfl ?_
  refine zV_aload_n (i := 0) (n := 794) C dL_law_793 rfl rfl rfl ?_
  refine zV_iload_n (i := 3) (n := 795) C dL_law_794 rfl rfl rfl ?_
  refine zV_iconst (n := 796) C dL_law_795 rfl ?_
  refine zV_iadd (n := 797) C dL_law_796 rfl ?_
  refine zV_sld (n := 798) C hX hL dL_law_797 (by omega) rfl ?_
  refine zV_callV1u (n := 801) C zk7 jX8_all lL_97 h1 dL_law_798 zs_cls rfl (Nat.le_of_ble_eq_true rfl) (zfit_law (by decide)) hcs rfl ?_
  refine zV_aload_n (i := 2) (n := 802) C dL_law_801 rfl rfl rfl ?_
  refine zV_aload_n (i := 0) (n := 803) C dL_law_802 rfl rfl rfl ?_
  refine zV_iload_n (i := 3) (n := 804) C dL_law_803 rfl rfl rfl ?_
  refine zV_iconst (n := 805) C dL_law_804 rfl ?_
  refine zV_iadd (n := 806) C dL_law_805 rfl ?_
  refine zV_sld (n := 807) C hX hL dL_law_806 (by omega) rfl ?_
  refine zV_callV1u (n := 810) C zk8 jX9_all lL_100 h2 dL_law_807 zs_ref rfl (Nat.le_of_ble_eq_true rfl) (zfit_law (by decide)) hcs rfl ?_
  refine zV_icmp0_eq (n := 813) C 1416 dL_law_810 (by decide) rfl (fun _ => ?_) (fun q => absurd rfl q)
  exact NX _ hs
set_option maxRecDepth 100000 in
set_option maxHeartbeats 4000000 in
theorem law_way {Γ : zC} {A : Nat → Prop} {p : Program} {l : Launch} {e : Env} {s : State} {m : MethodId} {args : Array Value} {below : List Frame} {meth : Method} {c : Code} {cells slots : Nat} {Q : State → Prop} (C : zCx Γ A p s m args c RL cL_law 4) {b L : Nat} {xs : Nat → Int32} (hX : va_X b L xs s s.heap ∧ b < s.heap.size ∧ ¬ A b) (hL : L ≤ 3072) (hcs : cells ≤ room_1.cells ∧ slots ≤ room_1.slots) {i : Int} (hi : 0 ≤ i ∧ i ≤ (L : Int) - 6) {μ : zMem} (h : zSim μ) (NX : ∀ μ2 : zMem, zSim μ2 → zV Γ A p l e room_1 s m args below meth c cells slots Q 1416 [.ref b, .ref (za Γ 4 0), .ref (za Γ 5 0), .int (zi i)] [] μ2) :
    zV Γ A p l e room_1 s m args below meth c cells slots Q 815 [.ref b, .ref (za Γ 4 0), .ref (za Γ 5 0), .int (zi i)] [] μ := by
  obtain ⟨w, μ1, μ2, h1, h2, hs⟩ := pr_way (Γ := Γ) (l := l) h (xs (i + 1).toNat) (xs (i + 2).toNat)
  refine zV_aload_n (i := 1) (n := 816) C dL_law_815 rfl rfl rfl ?_
  refine zV_aload_n (i := 0) (n := 817) C dL_law_816 rfl rfl rfl ?_
  refine zV_iload_n (i := 3) (n := 818) C dL_law_817 rfl rfl rfl ?_
  refine zV_iconst (n := 819) C dL_law_818 rfl ?_
  refine zV_iadd (n := 820) C dL_law_819 rfl ?_
  refine zV_sld (n := 821) C hX hL dL_law_820 (by omega) rfl ?_
  refine zV_aload_n (i := 0) (n := 822) C dL_law_821 rfl rfl rfl ?_
  refine zV_iload_n (i := 3) (n := 823) C dL_law_822 rfl rfl rfl ?_
  refine zV_iconst (n := 824) C dL_law_823 rfl ?_
  refine zV_iadd (n := 825) C dL_law_824 rfl ?_
  refine zV_sld (n := 826) C hX hL dL_law_825 (by omega) rfl ?_
  refine zV_callV2u (n := 829) C zk7 jX8_way lL_101 h1 dL_law_826 zs_cls rfl (Nat.le_of_ble_eq_true rfl) (zfit_law (by decide)) hcs rfl ?_
  refine zV_aload_n (i := 2) (n := 830) C dL_law_829 rfl rfl rfl ?_
  refine zV_aload_n (i := 0) (n := 831) C dL_law_830 rfl rfl rfl ?_
  refine zV_iload_n (i := 3) (n := 832) C dL_law_831 rfl rfl rfl ?_
  refine zV_iconst (n := 833) C dL_law_832 rfl ?_
  refine zV_iadd (n := 834) C dL_law_833 rfl ?_
  refine zV_sld (n := 835) C hX hL dL_law_834 (by omega) rfl ?_
  refine zV_aload_n (i := 0) (n := 836) C dL_law_835 rfl rfl rfl ?_
  refine zV_iload_n (i := 3) (n := 837) C dL_law_836 rfl rfl rfl ?_
  refine zV_iconst (n := 838) C dL_law_837 rfl ?_
  refine zV_iadd (n := 839) C dL_law_838 rfl ?_
  refine zV_sld (n := 840) C hX hL dL_law_839 (by omega) rfl ?_
  refine zV_callV2u (n := 843) C zk8 jX9_way lL_104 h2 dL_law_840 zs_ref rfl (Nat.le_of_ble_eq_true rfl) (zfit_law (by decide)) hcs rfl ?_
  refine zV_icmp0_eq (n := 846) C 1416 dL_law_843 (by decide) rfl (fun _ => ?_) (fun q => absurd rfl q)
  exact NX _ hs
set_option maxRecDepth 100000 in
set_option maxHeartbeats 4000000 in
theorem law_kind {Γ : zC} {A : Nat → Prop} {p : Program} {l : Launch} {e : Env} {s : State} {m : MethodId} {args : Array Value} {below : List Frame} {meth : Method} {c : Code} {cells slots : Nat} {Q : State → Prop} (C : zCx Γ A p s m args c RL cL_law 4) {b L : Nat} {xs : Nat → Int32} (hX : va_X b L xs s s.heap ∧ b < s.heap.size ∧ ¬ A b) (hL : L ≤ 3072) (hcs : cells ≤ room_1.cells ∧ slots ≤ room_1.slots) {i : Int} (hi : 0 ≤ i ∧ i ≤ (L : Int) - 6) {μ : zMem} (h : zSim μ) (NX : ∀ μ2 : zMem, zSim μ2 → zV Γ A p l e room_1 s m args below meth c cells slots Q 1416 [.ref b, .ref (za Γ 4 0), .ref (za Γ 5 0), .int (zi i)] [] μ2) :
    zV Γ A p l e room_1 s m args below meth c cells slots Q 848 [.ref b, .ref (za Γ 4 0), .ref (za Γ 5 0), .int (zi i)] [] μ := by
  obtain ⟨w, μ1, μ2, h1, h2, hs⟩ := pr_kind (Γ := Γ) (l := l) h (xs (i + 1).toNat) (xs (i + 2).toNat)
  refine zV_aload_n (i := 1) (n := 849) C dL_law_848 rfl rfl rfl ?_
  refine zV_aload_n (i := 0) (n := 850) C dL_law_849 rfl rfl rfl ?_
  refine zV_iload_n (i := 3) (n := 851) C dL_law_850 rfl rfl rfl ?_
  refine zV_iconst (n := 852) C dL_law_851 rfl ?_
  refine zV_iadd (n := 853) C dL_law_852 rfl ?_
  refine zV_sld (n := 854) C hX hL dL_law_853 (by omega) rfl ?_
  refine zV_aload_n (i := 0) (n := 855) C dL_law_854 rfl rfl rfl ?_
  refine zV_iload_n (i := 3) (n := 856) C dL_law_855 rfl rfl rfl ?_
  refine zV_iconst (n := 857) C dL_law_856 rfl ?_
  refine zV_iadd (n := 858) C dL_law_857 rfl ?_
  refine zV_sld (n := 859) C hX hL dL_law_858 (by omega) rfl ?_
  refine zV_callV2u (n := 862) C zk7 jX8_kind lL_105 h1 dL_law_859 zs_cls rfl (Nat.le_of_ble_eq_true rfl) (zfit_law (by decide)) hcs rfl ?_
  refine zV_aload_n (i := 2) (n := 863) C dL_law_862 rfl rfl rfl ?_
  refine zV_aload_n (i := 0) (n := 864) C dL_law_863 rfl rfl rfl ?_
  refine zV_iload_n (i := 3) (n := 865) C dL_law_864 rfl rfl rfl ?_
  refine zV_iconst (n := 866) C dL_law_865 rfl ?_
  refine zV_iadd (n := 867) C dL_law_866 rfl ?_
  refine zV_sld (n := 868) C hX hL dL_law_867 (by omega) rfl ?_
  refine zV_aload_n (i := 0) (n := 869) C dL_law_868 rfl rfl rfl ?_
  refine zV_iload_n (i := 3) (n := 870) C dL_law_869 rfl rfl rfl ?_
  refine zV_iconst (n := 871) C dL_law_870 rfl ?_
  refine zV_iadd (n := 872) C dL_law_871 rfl ?_
  refine zV_sld (n := 873) C hX hL dL_law_872 (by omega) rfl ?_
  refine zV_callV2u (n := 876) C zk8 jX9_kind lL_108 h2 dL_law_873 zs_ref rfl (Nat.le_of_ble_eq_true rfl) (zfit_law (by decide)) hcs rfl ?_
  refine zV_icmp0_eq (n := 879) C 1416 dL_law_876 (by decide) rfl (fun _ => ?_) (fun q => absurd rfl q)
  exact NX _ hs
set_option maxRecDepth 100000 in
set_option maxHeartbeats 4000000 in
theorem law_bribes {Γ : zC} {A : Nat → Prop} {p : Program} {l : Launch} {e : Env} {s : State} {m : MethodId} {args : Array Value} {below : List Frame} {meth : Method} {c : Code} {cells slots : Nat} {Q : State → Prop} (C : zCx Γ A p s m args c RL cL_law 4) {b L : Nat} {xs : Nat → Int32} (hX : va_X b L xs s s.heap ∧ b < s.heap.size ∧ ¬ A b) (hL : L ≤ 3072) (hcs : cells ≤ room_1.cells ∧ slots ≤ room_1.slots) {i : Int} (hi : 0 ≤ i ∧ i ≤ (L : Int) - 6) {μ : zMem} (h : zSim μ) (NX : ∀ μ2 : zMem, zSim μ2 → zV Γ A p l e room_1 s m args below meth c cells slots Q 1416 [.ref b, .ref (za Γ 4 0), .ref (za Γ 5 0), .int (zi i)] [] μ2) :
    zV Γ A p l e room_1 s m args below meth c cells slots Q 881 [.ref b, .ref (za Γ 4 0), .ref (za Γ 5 0), .int (zi i)] [] μ := by
  obtain ⟨w, μ1, μ2, h1, h2, hs⟩ := pr_bribes (Γ := Γ) (l := l) h (xs (i + 1).toNat) (xs (i + 2).toNat)
  refine zV_aload_n (i := 1) (n := 882) C dL_law_881 rfl rfl rfl ?_
  refine zV_aload_n (i := 0) (n := 883) C dL_law_882 rfl rfl rfl ?_
  refine zV_iload_n (i := 3) (n := 884) C dL_law_883 rfl rfl rfl ?_
  refine zV_iconst (n := 885) C dL_law_884 rfl ?_
  refine zV_iadd (n := 886) C dL_law_885 rfl ?_
  refine zV_sld (n := 887) C hX hL dL_law_886 (by omega) rfl ?_
  refine zV_aload_n (i := 0) (n := 888) C dL_law_887 rfl rfl rfl ?_
  refine zV_iload_n (i := 3) (n := 889) C dL_law_888 rfl rfl rfl ?_
  refine zV_iconst (n := 890) C dL_law_889 rfl ?_
  refine zV_iadd (n := 891) C dL_law_890 rfl ?_
  refine zV_sld (n := 892) C hX hL dL_law_891 (by omega) rfl ?_
  refine zV_callV2u (n := 895) C zk7 jX8_bribes lL_109 h1 dL_law_892 zs_cls rfl (Nat.le_of_ble_eq_true rfl) (zfit_law (by decide)) hcs rfl ?_
  refine zV_aload_n (i := 2) (n := 896) C dL_law_895 rfl rfl rfl ?_
  refine zV_aload_n (i := 0) (n := 897) C dL_law_896 rfl rfl rfl ?_
  refine zV_iload_n (i := 3) (n := 898) C dL_law_897 rfl rfl rfl ?_
  refine zV_iconst (n := 899) C dL_law_898 rfl ?_
  refine zV_iadd (n := 900) C dL_law_899 rfl ?_
  refine zV_sld (n := 901) C hX hL dL_law_900 (by omega) rfl ?_
  refine zV_aload_n (i := 0) (n := 902) C dL_law_901 rfl rfl rfl ?_
  refine zV_iload_n (i := 3) (n := 903) C dL_law_902 rfl rfl rfl ?_
  refine zV_iconst (n := 904) C dL_law_903 rfl ?_
  refine zV_iadd (n := 905) C dL_law_904 rfl ?_
  refine zV_sld (n := 906) C hX hL dL_law_905 (by omega) rfl ?_
  refine zV_callV2u (n := 909) C zk8 jX9_bribes lL_112 h2 dL_law_906 zs_ref rfl (Nat.le_of_ble_eq_true rfl) (zfit_law (by decide)) hcs rfl ?_
  refine zV_icmp0_eq (n := 912) C 1416 dL_law_909 (by decide) rfl (fun _ => ?_) (fun q => absurd rfl q)
  exact NX _ hs
set_option maxRecDepth 100000 in
set_option maxHeartbeats 4000000 in
theorem law_coat {Γ : zC} {A : Nat → Prop} {p : Program} {l : Launch} {e : Env} {s : State} {m : MethodId} {args : Array Value} {below : List Frame} {meth : Method} {c : Code} {cells slots : Nat} {Q : State → Prop} (C : zCx Γ A p s m args c RL cL_law 4) {b L : Nat} {xs : Nat → Int32} (hX : va_X b L xs s s.heap ∧ b < s.heap.size ∧ ¬ A b) (hL : L ≤ 3072) (hcs : cells ≤ room_1.cells ∧ slots ≤ room_1.slots) {i : Int} (hi : 0 ≤ i ∧ i ≤ (L : Int) - 6) {μ : zMem} (h : zSim μ) (NX : ∀ μ2 : zMem, zSim μ2 → zV Γ A p l e room_1 s m args below meth c cells slots Q 1416 [.ref b, .ref (za Γ 4 0), .ref (za Γ 5 0), .int (zi i)] [] μ2) :
    zV Γ A p l e room_1 s m args below meth c cells slots Q 914 [.ref b, .ref (za Γ 4 0), .ref (za Γ 5 0), .int (zi i)] [] μ := by
  obtain ⟨w, μ1, μ2, h1, h2, hs⟩ := pr_coat (Γ := Γ) (l := l) h (xs (i + 1).toNat) (xs (i + 2).toNat)
  refine zV_aload_n (i := 1) (n := 915) C dL_law_914 rfl rfl rfl ?_
  refine zV_aload_n (i := 0) (n := 916) C dL_law_915 rfl rfl rfl ?_
  refine zV_iload_n (i := 3) (n := 917) C dL_law_916 rfl rfl rfl ?_
  refine zV_iconst (n := 918) C dL_law_917 rfl ?_
  refine zV_iadd (n := 919) C dL_law_918 rfl ?_
  refine zV_sld (n := 920) C hX hL dL_law_919 (by omega) rfl ?_
  refine zV_aload_n (i := 0) (n := 921) C dL_law_920 rfl rfl rfl ?_
  refine zV_iload_n (i := 3) (n := 922) C dL_law_921 rfl rfl rfl ?_
  refine zV_iconst (n := 923) C dL_law_922 rfl ?_
  refine zV_iadd (n := 924) C dL_law_923 rfl ?_
  refine zV_sld (n := 925) C hX hL dL_law_924 (by omega) rfl ?_
  refine zV_callV2u (n := 928) C zk7 jX8_coat lL_113 h1 dL_law_925 zs_cls rfl (Nat.le_of_ble_eq_true rfl) (zfit_law (by decide)) hcs rfl ?_
  refine zV_aload_n (i := 2) (n := 929) C dL_law_928 rfl rfl rfl ?_
  refine zV_aload_n (i := 0) (n := 930) C dL_law_929 rfl rfl rfl ?_
  refine zV_iload_n (i := 3) (n := 931) C dL_law_930 rfl rfl rfl ?_
  refine zV_iconst (n := 932) C dL_law_931 rfl ?_
  refine zV_iadd (n := 933) C dL_law_932 rfl ?_
  refine zV_sld (n := 934) C hX hL dL_law_933 (by omega) rfl ?_
  refine zV_aload_n (i := 0) (n := 935) C dL_law_934 rfl rfl rfl ?_
  refine zV_iload_n (i := 3) (n := 936) C dL_law_935 rfl rfl rfl ?_
  refine zV_iconst (n := 937) C dL_law_936 rfl ?_
  refine zV_iadd (n := 938) C dL_law_937 rfl ?_
  refine zV_sld (n := 939) C hX hL dL_law_938 (by omega) rfl ?_
  refine zV_callV2u (n := 942) C zk8 jX9_coat lL_116 h2 dL_law_939 zs_ref rfl (Nat.le_of_ble_eq_true rfl) (zfit_law (by decide)) hcs rfl ?_
  refine zV_icmp0_eq (n := 945) C 1416 dL_law_942 (by decide) rfl (fun _ => ?_) (fun q => absurd rfl q)
  exact NX _ hs
set_option maxRecDepth 100000 in
set_option maxHeartbeats 4000000 in
theorem law_mood {Γ : zC} {A : Nat → Prop} {p : Program} {l : Launch} {e : Env} {s : State} {m : MethodId} {args : Array Value} {below : List Frame} {meth : Method} {c : Code} {cells slots : Nat} {Q : State → Prop} (C : zCx Γ A p s m args c RL cL_law 4) {b L : Nat} {xs : Nat → Int32} (hX : va_X b L xs s s.heap ∧ b < s.heap.size ∧ ¬ A b) (hL : L ≤ 3072) (hcs : cells ≤ room_1.cells ∧ slots ≤ room_1.slots) {i : Int} (hi : 0 ≤ i ∧ i ≤ (L : Int) - 6) {μ : zMem} (h : zSim μ) (NX : ∀ μ2 : zMem, zSim μ2 → zV Γ A p l e room_1 s m args below meth c cells slots Q 1416 [.ref b, .ref (za Γ 4 0), .ref (za Γ 5 0), .int (zi i)] [] μ2) :
    zV Γ A p l e room_1 s m args below meth c cells slots Q 947 [.ref b, .ref (za Γ 4 0), .ref (za Γ 5 0), .int (zi i)] [] μ := by
  obtain ⟨w, μ1, μ2, h1, h2, hs⟩ := pr_mood (Γ := Γ) (l := l) h (xs (i + 1).toNat) (xs (i + 2).toNat)
  refine zV_aload_n (i := 1) (n := 948) C dL_law_947 rfl rfl rfl ?_
  refine zV_aload_n (i := 0) (n := 949) C dL_law_948 rfl rfl rfl ?_
  refine zV_iload_n (i := 3) (n := 950) C dL_law_949 rfl rfl rfl ?_
  refine zV_iconst (n := 951) C dL_law_950 rfl ?_
  refine zV_iadd (n := 952) C dL_law_951 rfl ?_
  refine zV_sld (n := 953) C hX hL dL_law_952 (by omega) rfl ?_
  refine zV_aload_n (i := 0) (n := 954) C dL_law_953 rfl rfl rfl ?_
  refine zV_iload_n (i := 3) (n := 955) C dL_law_954 rfl rfl rfl ?_
  refine zV_iconst (n := 956) C dL_law_955 rfl ?_
  refine zV_iadd (n := 957) C dL_law_956 rfl ?_
  refine zV_sld (n := 958) C hX hL dL_law_957 (by omega) rfl ?_
  refine zV_callV2u (n := 961) C zk7 jX8_mood lL_117 h1 dL_law_958 zs_cls rfl (Nat.le_of_ble_eq_true rfl) (zfit_law (by decide)) hcs rfl ?_
  refine zV_aload_n (i := 2) (n := 962) C dL_law_961 rfl rfl rfl ?_
  refine zV_aload_n (i := 0) (n := 963) C dL_law_962 rfl rfl rfl ?_
  refine zV_iload_n (i := 3) (n := 964) C dL_law_963 rfl rfl rfl ?_
  refine zV_iconst (n := 965) C dL_law_964 rfl ?_
  refine zV_iadd (n := 966) C dL_law_965 rfl ?_
  refine zV_sld (n := 967) C hX hL dL_law_966 (by omega) rfl ?_
  refine zV_aload_n (i := 0) (n := 968) C dL_law_967 rfl rfl rfl ?_
  refine zV_iload_n (i := 3) (n := 969) C dL_law_968 rfl rfl rfl ?_
  refine zV_iconst (n := 970) C dL_law_969 rfl ?_
  refine zV_iadd (n := 971) C dL_law_970 rfl ?_
  refine zV_sld (n := 972) C hX hL dL_law_971 (by omega) rfl ?_
  refine zV_callV2u (n := 975) C zk8 jX9_mood lL_120 h2 dL_law_972 zs_ref rfl (Nat.le_of_ble_eq_true rfl) (zfit_law (by decide)) hcs rfl ?_
  refine zV_icmp0_eq (n := 978) C 1416 dL_law_975 (by decide) rfl (fun _ => ?_) (fun q => absurd rfl q)
  exact NX _ hs
set_option maxRecDepth 100000 in
set_option maxHeartbeats 4000000 in
theorem law_worst {Γ : zC} {A : Nat → Prop} {p : Program} {l : Launch} {e : Env} {s : State} {m : MethodId} {args : Array Value} {below : List Frame} {meth : Method} {c : Code} {cells slots : Nat} {Q : State → Prop} (C : zCx Γ A p s m args c RL cL_law 4) {b L : Nat} {xs : Nat → Int32} (hX : va_X b L xs s s.heap ∧ b < s.heap.size ∧ ¬ A b) (hL : L ≤ 3072) (hcs : cells ≤ room_1.cells ∧ slots ≤ room_1.slots) {i : Int} (hi : 0 ≤ i ∧ i ≤ (L : Int) - 6) {μ : zMem} (h : zSim μ) (NX : ∀ μ2 : zMem, zSim μ2 → zV Γ A p l e room_1 s m args below meth c cells slots Q 1416 [.ref b, .ref (za Γ 4 0), .ref (za Γ 5 0), .int (zi i)] [] μ2) :
    zV Γ A p l e room_1 s m args below meth c cells slots Q 980 [.ref b, .ref (za Γ 4 0), .ref (za Γ 5 0), .int (zi i)] [] μ := by
  obtain ⟨w, μ1, μ2, h1, h2, hs⟩ := pr_worst (Γ := Γ) (l := l) h (xs (i + 1).toNat)
  refine zV_aload_n (i := 1) (n := 981) C dL_law_980 rfl rfl rfl ?_
  refine zV_aload_n (i := 0) (n := 982) C dL_law_981 rfl rfl rfl ?_
  refine zV_iload_n (i := 3) (n := 983) C dL_law_982 rfl rfl rfl ?_
  refine zV_iconst (n := 984) C dL_law_983 rfl ?_
  refine zV_iadd (n := 985) C dL_law_984 rfl ?_
  refine zV_sld (n := 986) C hX hL dL_law_985 (by omega) rfl ?_
  refine zV_callV1u (n := 989) C zk7 jX8_worst lL_121 h1 dL_law_986 zs_cls rfl (Nat.le_of_ble_eq_true rfl) (zfit_law (by decide)) hcs rfl ?_
  refine zV_aload_n (i := 2) (n := 990) C dL_law_989 rfl rfl rfl ?_
  refine zV_aload_n (i := 0) (n := 991) C dL_law_990 rfl rfl rfl ?_
  refine zV_iload_n (i := 3) (n := 992) C dL_law_991 rfl rfl rfl ?_
  refine zV_iconst (n := 993) C dL_law_992 rfl ?_
  refine zV_iadd (n := 994) C dL_law_993 rfl ?_
  refine zV_sld (n := 995) C hX hL dL_law_994 (by omega) rfl ?_
  refine zV_callV1u (n := 998) C zk8 jX9_worst lL_124 h2 dL_law_995 zs_ref rfl (Nat.le_of_ble_eq_true rfl) (zfit_law (by decide)) hcs rfl ?_
  refine zV_icmp0_eq (n := 1001) C 1416 dL_law_998 (by decide) rfl (fun _ => ?_) (fun q => absurd rfl q)
  exact NX _ hs
set_option maxRecDepth 100000 in
set_option maxHeartbeats 4000000 in
theorem law_feed {Γ : zC} {A : Nat → Prop} {p : Program} {l : Launch} {e : Env} {s : State} {m : MethodId} {args : Array Value} {below : List Frame} {meth : Method} {c : Code} {cells slots : Nat} {Q : State → Prop} (C : zCx Γ A p s m args c RL cL_law 4) {b L : Nat} {xs : Nat → Int32} (hX : va_X b L xs s s.heap ∧ b < s.heap.size ∧ ¬ A b) (hL : L ≤ 3072) (hcs : cells ≤ room_1.cells ∧ slots ≤ room_1.slots) {i : Int} (hi : 0 ≤ i ∧ i ≤ (L : Int) - 6) {μ : zMem} (h : zSim μ) (NX : ∀ μ2 : zMem, zSim μ2 → zV Γ A p l e room_1 s m args below meth c cells slots Q 1416 [.ref b, .ref (za Γ 4 0), .ref (za Γ 5 0), .int (zi i)] [] μ2) :
    zV Γ A p l e room_1 s m args below meth c cells slots Q 1003 [.ref b, .ref (za Γ 4 0), .ref (za Γ 5 0), .int (zi i)] [] μ := by
  obtain ⟨w, μ1, μ2, h1, h2, hs⟩ := pr_feed (Γ := Γ) (l := l) h (xs (i + 1).toNat) (xs (i + 2).toNat)
  refine zV_aload_n (i := 1) (n := 1004) C dL_law_1003 rfl rfl rfl ?_
  refine zV_aload_n (i := 0) (n := 1005) C dL_law_1004 rfl rfl rfl ?_
  refine zV_iload_n (i := 3) (n := 1006) C dL_law_1005 rfl rfl rfl ?_
  refine zV_iconst (n := 1007) C dL_law_1006 rfl ?_
  refine zV_iadd (n := 1008) C dL_law_1007 rfl ?_
  refine zV_sld (n := 1009) C hX hL dL_law_1008 (by omega) rfl ?_
  refine zV_aload_n (i := 0) (n := 1010) C dL_law_1009 rfl rfl rfl ?_
  refine zV_iload_n (i := 3) (n := 1011) C dL_law_1010 rfl rfl rfl ?_
  refine zV_iconst (n := 1012) C dL_law_1011 rfl ?_
  refine zV_iadd (n := 1013) C dL_law_1012 rfl ?_
  refine zV_sld (n := 1014) C hX hL dL_law_1013 (by omega) rfl ?_
  refine zV_callV2u (n := 1017) C zk7 jX8_feed lL_125 h1 dL_law_1014 zs_cls rfl (Nat.le_of_ble_eq_true rfl) (zfit_law (by decide)) hcs rfl ?_
  refine zV_aload_n (i := 2) (n := 1018) C dL_law_1017 rfl rfl rfl ?_
  refine zV_aload_n (i := 0) (n := 1019) C dL_law_1018 rfl rfl rfl ?_
  refine zV_iload_n (i := 3) (n := 1020) C dL_law_1019 rfl rfl rfl ?_
  refine zV_iconst (n := 1021) C dL_law_1020 rfl ?_
  refine zV_iadd (n := 1022) C dL_law_1021 rfl ?_
  refine zV_sld (n := 1023) C hX hL dL_law_1022 (by omega) rfl ?_
  refine zV_aload_n (i := 0) (n := 1024) C dL_law_1023 rfl rfl rfl ?_
  refine zV_iload_n (i := 3) (n := 1025) C dL_law_1024 rfl rfl rfl ?_
  refine zV_iconst (n := 1026) C dL_law_1025 rfl ?_
  refine zV_iadd (n := 1027) C dL_law_1026 rfl ?_
  refine zV_sld (n := 1028) C hX hL dL_law_1027 (by omega) rfl ?_
  refine zV_callV2u (n := 1031) C zk8 jX9_feed lL_128 h2 dL_law_1028 zs_ref rfl (Nat.le_of_ble_eq_true rfl) (zfit_law (by decide)) hcs rfl ?_
  refine zV_icmp0_eq (n := 1034) C 1416 dL_law_1031 (by decide) rfl (fun _ => ?_) (fun q => absurd rfl q)
  exact NX _ hs
set_option maxRecDepth 100000 in
set_option maxHeartbeats 4000000 in
theorem law_wipe {Γ : zC} {A : Nat → Prop} {p : Program} {l : Launch} {e : Env} {s : State} {m : MethodId} {args : Array Value} {below : List Frame} {meth : Method} {c : Code} {cells slots : Nat} {Q : State → Prop} (C : zCx Γ A p s m args c RL cL_law 4) {b L : Nat} {xs : Nat → Int32} (hX : va_X b L xs s s.heap ∧ b < s.heap.size ∧ ¬ A b) (hL : L ≤ 3072) (hcs : cells ≤ room_1.cells ∧ slots ≤ room_1.slots) {i : Int} (hi : 0 ≤ i ∧ i ≤ (L : Int) - 6) {μ : zMem} (h : zSim μ) (NX : ∀ μ2 : zMem, zSim μ2 → zV Γ A p l e room_1 s m args below meth c cells slots Q 1416 [.ref b, .ref (za Γ 4 0), .ref (za Γ 5 0), .int (zi i)] [] μ2) :
    zV Γ A p l e room_1 s m args below meth c cells slots Q 1036 [.ref b, .ref (za Γ 4 0), .ref (za Γ 5 0), .int (zi i)] [] μ := by
  obtain ⟨w, μ1, μ2, h1, h2, hs⟩ := pr_wipe (Γ := Γ) (l := l) h 
  refine zV_aload_n (i := 1) (n := 1037) C dL_law_1036 rfl rfl rfl ?_
  refine zV_callV0u (n := 1040) C zk7 jX8_wipe lL_129 h1 dL_law_1037 zs_cls rfl (Nat.le_of_ble_eq_true rfl) (zfit_law (by decide)) hcs rfl ?_
  refine zV_aload_n (i := 2) (n := 1041) C dL_law_1040 rfl rfl rfl ?_
  refine zV_callV0u (n := 1044) C zk8 jX9_wipe lL_132 h2 dL_law_1041 zs_ref rfl (Nat.le_of_ble_eq_true rfl) (zfit_law (by decide)) hcs rfl ?_
  refine zV_icmp0_eq (n := 1047) C 1416 dL_law_1044 (by decide) rfl (fun _ => ?_) (fun q => absurd rfl q)
  exact NX _ hs
set_option maxRecDepth 100000 in
set_option maxHeartbeats 4000000 in
theorem law_car {Γ : zC} {A : Nat → Prop} {p : Program} {l : Launch} {e : Env} {s : State} {m : MethodId} {args : Array Value} {below : List Frame} {meth : Method} {c : Code} {cells slots : Nat} {Q : State → Prop} (C : zCx Γ A p s m args c RL cL_law 4) {b L : Nat} {xs : Nat → Int32} (hX : va_X b L xs s s.heap ∧ b < s.heap.size ∧ ¬ A b) (hL : L ≤ 3072) (hcs : cells ≤ room_1.cells ∧ slots ≤ room_1.slots) {i : Int} (hi : 0 ≤ i ∧ i ≤ (L : Int) - 6) {μ : zMem} (h : zSim μ) (NX : ∀ μ2 : zMem, zSim μ2 → zV Γ A p l e room_1 s m args below meth c cells slots Q 1416 [.ref b, .ref (za Γ 4 0), .ref (za Γ 5 0), .int (zi i)] [] μ2) :
    zV Γ A p l e room_1 s m args below meth c cells slots Q 1049 [.ref b, .ref (za Γ 4 0), .ref (za Γ 5 0), .int (zi i)] [] μ := by
  obtain ⟨w, μ1, μ2, h1, h2, hs⟩ := pr_car (Γ := Γ) (l := l) h 
  refine zV_aload_n (i := 1) (n := 1050) C dL_law_1049 rfl rfl rfl ?_
  refine zV_callV0u (n := 1053) C zk7 jX8_car lL_133 h1 dL_law_1050 zs_cls rfl (Nat.le_of_ble_eq_true rfl) (zfit_law (by decide)) hcs rfl ?_
  refine zV_aload_n (i := 2) (n := 1054) C dL_law_1053 rfl rfl rfl ?_
  refine zV_callV0u (n := 1057) C zk8 jX9_car lL_136 h2 dL_law_1054 zs_ref rfl (Nat.le_of_ble_eq_true rfl) (zfit_law (by decide)) hcs rfl ?_
  refine zV_icmp0_eq (n := 1060) C 1416 dL_law_1057 (by decide) rfl (fun _ => ?_) (fun q => absurd rfl q)
  exact NX _ hs
set_option maxRecDepth 100000 in
set_option maxHeartbeats 4000000 in
theorem law_sheet {Γ : zC} {A : Nat → Prop} {p : Program} {l : Launch} {e : Env} {s : State} {m : MethodId} {args : Array Value} {below : List Frame} {meth : Method} {c : Code} {cells slots : Nat} {Q : State → Prop} (C : zCx Γ A p s m args c RL cL_law 4) {b L : Nat} {xs : Nat → Int32} (hX : va_X b L xs s s.heap ∧ b < s.heap.size ∧ ¬ A b) (hL : L ≤ 3072) (hcs : cells ≤ room_1.cells ∧ slots ≤ room_1.slots) {i : Int} (hi : 0 ≤ i ∧ i ≤ (L : Int) - 6) {μ : zMem} (h : zSim μ) (NX : ∀ μ2 : zMem, zSim μ2 → zV Γ A p l e room_1 s m args below meth c cells slots Q 1416 [.ref b, .ref (za Γ 4 0), .ref (za Γ 5 0), .int (zi i)] [] μ2) :
    zV Γ A p l e room_1 s m args below meth c cells slots Q 1062 [.ref b, .ref (za Γ 4 0), .ref (za Γ 5 0), .int (zi i)] [] μ := by
  obtain ⟨w, μ1, μ2, h1, h2, hs⟩ := pr_sheet (Γ := Γ) (l := l) h (xs (i + 1).toNat) (xs (i + 2).toNat) (xs (i + 3).toNat)
  refine zV_aload_n (i := 1) (n := 1063) C dL_law_1062 rfl rfl rfl ?_
  refine zV_aload_n (i := 0) (n := 1064) C dL_law_1063 rfl rfl rfl ?_
  refine zV_iload_n (i := 3) (n := 1065) C dL_law_1064 rfl rfl rfl ?_
  refine zV_iconst (n := 1066) C dL_law_1065 rfl ?_
  refine zV_iadd (n := 1067) C dL_law_1066 rfl ?_
  refine zV_sld (n := 1068) C hX hL dL_law_1067 (by omega) rfl ?_
  refine zV_aload_n (i := 0) (n := 1069) C dL_law_1068 rfl rfl rfl ?_
  refine zV_iload_n (i := 3) (n := 1070) C dL_law_1069 rfl rfl rfl ?_
  refine zV_iconst (n := 1071) C dL_law_1070 rfl ?_
  refine zV_iadd (n := 1072) C dL_law_1071 rfl ?_
  refine zV_sld (n := 1073) C hX hL dL_law_1072 (by omega) rfl ?_
  refine zV_aload_n (i := 0) (n := 1074) C dL_law_1073 rfl rfl rfl ?_
  refine zV_iload_n (i := 3) (n := 1075) C dL_law_1074 rfl rfl rfl ?_
  refine zV_iconst (n := 1076) C dL_law_1075 rfl ?_
  refine zV_iadd (n := 1077) C dL_law_1076 rfl ?_
  refine zV_sld (n := 1078) C hX hL dL_law_1077 (by omega) rfl ?_
  refine zV_callV3u (n := 1081) C zk7 jX8_sheet lL_137 h1 dL_law_1078 zs_cls rfl (Nat.le_of_ble_eq_true rfl) (zfit_law (by decide)) hcs rfl ?_
  refine zV_aload_n (i := 2) (n := 1082) C dL_law_1081 rfl rfl rfl ?_
  refine zV_aload_n (i := 0) (n := 1083) C dL_law_1082 rfl rfl rfl ?_
  refine zV_iload_n (i := 3) (n := 1084) C dL_law_1083 rfl rfl rfl ?_
  refine zV_iconst (n := 1085) C dL_law_1084 rfl ?_
  refine zV_iadd (n := 1086) C dL_law_1085 rfl ?_
  refine zV_sld (n := 1087) C hX hL dL_law_1086 (by omega) rfl ?_
  refine zV_aload_n (i := 0) (n := 1088) C dL_law_1087 rfl rfl rfl ?_
  refine zV_iload_n (i := 3) (n := 1089) C dL_law_1088 rfl rfl rfl ?_
  refine zV_iconst (n := 1090) C dL_law_1089 rfl ?_
  refine zV_iadd (n := 1091) C dL_law_1090 rfl ?_
  refine zV_sld (n := 1092) C hX hL dL_law_1091 (by omega) rfl ?_
  refine zV_aload_n (i := 0) (n := 1093) C dL_law_1092 rfl rfl rfl ?_
  refine zV_iload_n (i := 3) (n := 1094) C dL_law_1093 rfl rfl rfl ?_
  refine zV_iconst (n := 1095) C dL_law_1094 rfl ?_
  refine zV_iadd (n := 1096) C dL_law_1095 rfl ?_
  refine zV_sld (n := 1097) C hX hL dL_law_1096 (by omega) rfl ?_
  refine zV_callV3u (n := 1100) C zk8 jX9_sheet lL_140 h2 dL_law_1097 zs_ref rfl (Nat.le_of_ble_eq_true rfl) (zfit_law (by decide)) hcs rfl ?_
  refine zV_icmp0_eq (n := 1103) C 1416 dL_law_1100 (by decide) rfl (fun _ => ?_) (fun q => absurd rfl q)
  exact NX _ hs
set_option maxRecDepth 100000 in
set_option maxHeartbeats 4000000 in
theorem law_write {Γ : zC} {A : Nat → Prop} {p : Program} {l : Launch} {e : Env} {s : State} {m : MethodId} {args : Array Value} {below : List Frame} {meth : Method} {c : Code} {cells slots : Nat} {Q : State → Prop} (C : zCx Γ A p s m args c RL cL_law 4) {b L : Nat} {xs : Nat → Int32} (hX : va_X b L xs s s.heap ∧ b < s.heap.size ∧ ¬ A b) (hL : L ≤ 3072) (hcs : cells ≤ room_1.cells ∧ slots ≤ room_1.slots) {i : Int} (hi : 0 ≤ i ∧ i ≤ (L : Int) - 6) {μ : zMem} (h : zSim μ) (NX : ∀ μ2 : zMem, zSim μ2 → zV Γ A p l e room_1 s m args below meth c cells slots Q 1416 [.ref b, .ref (za Γ 4 0), .ref (za Γ 5 0), .int (zi i)] [] μ2) :
    zV Γ A p l e room_1 s m args below meth c cells slots Q 1105 [.ref b, .ref (za Γ 4 0), .ref (za Γ 5 0), .int (zi i)] [] μ := by
  obtain ⟨w, μ1, μ2, h1, h2, hs⟩ := pr_write (Γ := Γ) (l := l) h (xs (i + 1).toNat) (xs (i + 2).toNat) (((xs (i + 3).toNat).toInt64 <<< ((zi 32).toInt64 &&& 63)) ||| ((xs (i + 4).toNat).toInt64 &&& zl 4294967295))
  obtain ⟨v, hw, rfl⟩ := z64x w
  refine zV_aload_n (i := 1) (n := 1106) C dL_law_1105 rfl rfl rfl ?_
  refine zV_aload_n (i := 0) (n := 1107) C dL_law_1106 rfl rfl rfl ?_
  refine zV_iload_n (i := 3) (n := 1108) C dL_law_1107 rfl rfl rfl ?_
  refine zV_iconst (n := 1109) C dL_law_1108 rfl ?_
  refine zV_iadd (n := 1110) C dL_law_1109 rfl ?_
  refine zV_sld (n := 1111) C hX hL dL_law_1110 (by omega) rfl ?_
  refine zV_aload_n (i := 0) (n := 1112) C dL_law_1111 rfl rfl rfl ?_
  refine zV_iload_n (i := 3) (n := 1113) C dL_law_1112 rfl rfl rfl ?_
  refine zV_iconst (n := 1114) C dL_law_1113 rfl ?_
  refine zV_iadd (n := 1115) C dL_law_1114 rfl ?_
  refine zV_sld (n := 1116) C hX hL dL_law_1115 (by omega) rfl ?_
  refine zV_aload_n (i := 0) (n := 1117) C dL_law_1116 rfl rfl rfl ?_
  refine zV_iload_n (i := 3) (n := 1118) C dL_law_1117 rfl rfl rfl ?_
  refine zV_iconst (n := 1119) C dL_law_1118 rfl ?_
  refine zV_iadd (n := 1120) C dL_law_1119 rfl ?_
  refine zV_sld (n := 1121) C hX hL dL_law_1120 (by omega) rfl ?_
  refine zV_i2l0 (n := 1122) C dL_law_1121 rfl ?_
  refine zV_bipush (n := 1124) C dL_law_1122 (by decide) rfl ?_
  refine zV_lshl (n := 1125) C dL_law_1124 rfl ?_
  refine zV_aload_n (i := 0) (n := 1126) C dL_law_1125 rfl rfl rfl ?_
  refine zV_iload_n (i := 3) (n := 1127) C dL_law_1126 rfl rfl rfl ?_
  refine zV_iconst (n := 1128) C dL_law_1127 rfl ?_
  refine zV_iadd (n := 1129) C dL_law_1128 rfl ?_
  refine zV_sld (n := 1130) C hX hL dL_law_1129 (by omega) rfl ?_
  refine zV_i2l0 (n := 1131) C dL_law_1130 rfl ?_
  refine zV_ldc2 (n := 1134) C dL_law_1131 kL_141 rfl ?_
  refine zV_land (n := 1135) C dL_law_1134 rfl ?_
  refine zV_lor (n := 1136) C dL_law_1135 rfl ?_
  refine zV_callV3u (n := 1139) C zk7 jX8_write lL_143 h1 dL_law_1136 zs_cls rfl (Nat.le_of_ble_eq_true rfl) (zfit_law (by decide)) hcs rfl ?_
  refine zV_aload_n (i := 2) (n := 1140) C dL_law_1139 rfl rfl rfl ?_
  refine zV_aload_n (i := 0) (n := 1141) C dL_law_1140 rfl rfl rfl ?_
  refine zV_iload_n (i := 3) (n := 1142) C dL_law_1141 rfl rfl rfl ?_
  refine zV_iconst (n := 1143) C dL_law_1142 rfl ?_
  refine zV_iadd (n := 1144) C dL_law_1143 rfl ?_
  refine zV_sld (n := 1145) C hX hL dL_law_1144 (by omega) rfl ?_
  refine zV_aload_n (i := 0) (n := 1146) C dL_law_1145 rfl rfl rfl ?_
  refine zV_iload_n (i := 3) (n := 1147) C dL_law_1146 rfl rfl rfl ?_
  refine zV_iconst (n := 1148) C dL_law_1147 rfl ?_
  refine zV_iadd (n := 1149) C dL_law_1148 rfl ?_
  refine zV_sld (n := 1150) C hX hL dL_law_1149 (by omega) rfl ?_
  refine zV_aload_n (i := 0) (n := 1151) C dL_law_1150 rfl rfl rfl ?_
  refine zV_iload_n (i := 3) (n := 1152) C dL_law_1151 rfl rfl rfl ?_
  refine zV_iconst (n := 1153) C dL_law_1152 rfl ?_
  refine zV_iadd (n := 1154) C dL_law_1153 rfl ?_
  refine zV_sld (n := 1155) C hX hL dL_law_1154 (by omega) rfl ?_
  refine zV_i2l0 (n := 1156) C dL_law_1155 rfl ?_
  refine zV_bipush (n := 1158) C dL_law_1156 (by decide) rfl ?_
  refine zV_lshl (n := 1159) C dL_law_1158 rfl ?_
  refine zV_aload_n (i := 0) (n := 1160) C dL_law_1159 rfl rfl rfl ?_
  refine zV_iload_n (i := 3) (n := 1161) C dL_law_1160 rfl rfl rfl ?_
  refine zV_iconst (n := 1162) C dL_law_1161 rfl ?_
  refine zV_iadd (n := 1163) C dL_law_1162 rfl ?_
  refine zV_sld (n := 1164) C hX hL dL_law_1163 (by omega) rfl ?_
  refine zV_i2l0 (n := 1165) C dL_law_1164 rfl ?_
  refine zV_ldc2 (n := 1168) C dL_law_1165 kL_141 rfl ?_
  refine zV_land (n := 1169) C dL_law_1168 rfl ?_
  refine zV_lor (n := 1170) C dL_law_1169 rfl ?_
  refine zV_callV3u (n := 1173) C zk8 jX9_write lL_147 h2 dL_law_1170 zs_ref rfl (Nat.le_of_ble_eq_true rfl) (zfit_law (by decide)) hcs rfl ?_
  refine zV_lcmp_eq (n := 1177) C 1416 dL_law_1173 dL_law_1174 (by decide) hw hw rfl (fun _ => ?_) (fun q => absurd rfl q)
  exact NX _ hs
set_option maxRecDepth 100000 in
set_option maxHeartbeats 4000000 in
theorem law_copy {Γ : zC} {A : Nat → Prop} {p : Program} {l : Launch} {e : Env} {s : State} {m : MethodId} {args : Array Value} {below : List Frame} {meth : Method} {c : Code} {cells slots : Nat} {Q : State → Prop} (C : zCx Γ A p s m args c RL cL_law 4) {b L : Nat} {xs : Nat → Int32} (hX : va_X b L xs s s.heap ∧ b < s.heap.size ∧ ¬ A b) (hL : L ≤ 3072) (hcs : cells ≤ room_1.cells ∧ slots ≤ room_1.slots) {i : Int} (hi : 0 ≤ i ∧ i ≤ (L : Int) - 6) {μ : zMem} (h : zSim μ) (NX : ∀ μ2 : zMem, zSim μ2 → zV Γ A p l e room_1 s m args below meth c cells slots Q 1416 [.ref b, .ref (za Γ 4 0), .ref (za Γ 5 0), .int (zi i)] [] μ2) :
    zV Γ A p l e room_1 s m args below meth c cells slots Q 1179 [.ref b, .ref (za Γ 4 0), .ref (za Γ 5 0), .int (zi i)] [] μ := by
  obtain ⟨w, μ1, μ2, h1, h2, hs⟩ := pr_copy (Γ := Γ) (l := l) h (xs (i + 1).toNat) (xs (i + 2).toNat) (xs (i + 3).toNat) (xs (i + 4).toNat) (xs (i + 5).toNat)
  refine zV_aload_n (i := 1) (n := 1180) C dL_law_1179 rfl rfl rfl ?_
  refine zV_aload_n (i := 0) (n := 1181) C dL_law_1180 rfl rfl rfl ?_
  refine zV_iload_n (i := 3) (n := 1182) C dL_law_1181 rfl rfl rfl ?_
  refine zV_iconst (n := 1183) C dL_law_1182 rfl ?_
  refine zV_iadd (n := 1184) C dL_law_1183 rfl ?_
  refine zV_sld (n := 1185) C hX hL dL_law_1184 (by omega) rfl ?_
  refine zV_aload_n (i := 0) (n := 1186) C dL_law_1185 rfl rfl rfl ?_
  refine zV_iload_n (i := 3) (n := 1187) C dL_law_1186 rfl rfl rfl ?_
  refine zV_iconst (n := 1188) C dL_law_1187 rfl ?_
  refine zV_iadd (n := 1189) C dL_law_1188 rfl ?_
  refine zV_sld (n := 1190) C hX hL dL_law_1189 (by omega) rfl ?_
  refine zV_aload_n (i := 0) (n := 1191) C dL_law_1190 rfl rfl rfl ?_
  refine zV_iload_n (i := 3) (n := 1192) C dL_law_1191 rfl rfl rfl ?_
  refine zV_iconst (n := 1193) C dL_law_1192 rfl ?_
  refine zV_iadd (n := 1194) C dL_law_1193 rfl ?_
  refine zV_sld (n := 1195) C hX hL dL_law_1194 (by omega) rfl ?_
  refine zV_aload_n (i := 0) (n := 1196) C dL_law_1195 rfl rfl rfl ?_
  refine zV_iload_n (i := 3) (n := 1197) C dL_law_1196 rfl rfl rfl ?_
  refine zV_iconst (n := 1198) C dL_law_1197 rfl ?_
  refine zV_iadd (n := 1199) C dL_law_1198 rfl ?_
  refine zV_sld (n := 1200) C hX hL dL_law_1199 (by omega) rfl ?_
  refine zV_aload_n (i := 0) (n := 1201) C dL_law_1200 rfl rfl rfl ?_
  refine zV_iload_n (i := 3) (n := 1202) C dL_law_1201 rfl rfl rfl ?_
  refine zV_iconst (n := 1203) C dL_law_1202 rfl ?_
  refine zV_iadd (n := 1204) C dL_law_1203 rfl ?_
  refine zV_sld (n := 1205) C hX hL dL_law_1204 (by omega) rfl ?_
  refine zV_callV5u (n := 1208) C zk7 jX8_copy lL_148 h1 dL_law_1205 zs_cls rfl (Nat.le_of_ble_eq_true rfl) (zfit_law (by decide)) hcs rfl ?_
  refine zV_aload_n (i := 2) (n := 1209) C dL_law_1208 rfl rfl rfl ?_
  refine zV_aload_n (i := 0) (n := 1210) C dL_law_1209 rfl rfl rfl ?_
  refine zV_iload_n (i := 3) (n := 1211) C dL_law_1210 rfl rfl rfl ?_
  refine zV_iconst (n := 1212) C dL_law_1211 rfl ?_
  refine zV_iadd (n := 1213) C dL_law_1212 rfl ?_
  refine zV_sld (n := 1214) C hX hL dL_law_1213 (by omega) rfl ?_
  refine zV_aload_n (i := 0) (n := 1215) C dL_law_1214 rfl rfl rfl ?_
  refine zV_iload_n (i := 3) (n := 1216) C dL_law_1215 rfl rfl rfl ?_
  refine zV_iconst (n := 1217) C dL_law_1216 rfl ?_
  refine zV_iadd (n := 1218) C dL_law_1217 rfl ?_
  refine zV_sld (n := 1219) C hX hL dL_law_1218 (by omega) rfl ?_
  refine zV_aload_n (i := 0) (n := 1220) C dL_law_1219 rfl rfl rfl ?_
  refine zV_iload_n (i := 3) (n := 1221) C dL_law_1220 rfl rfl rfl ?_
  refine zV_iconst (n := 1222) C dL_law_1221 rfl ?_
  refine zV_iadd (n := 1223) C dL_law_1222 rfl ?_
  refine zV_sld (n := 1224) C hX hL dL_law_1223 (by omega) rfl ?_
  refine zV_aload_n (i := 0) (n := 1225) C dL_law_1224 rfl rfl rfl ?_
  refine zV_iload_n (i := 3) (n := 1226) C dL_law_1225 rfl rfl rfl ?_
  refine zV_iconst (n := 1227) C dL_law_1226 rfl ?_
  refine zV_iadd (n := 1228) C dL_law_1227 rfl ?_
  refine zV_sld (n := 1229) C hX hL dL_law_1228 (by omega) rfl ?_
  refine zV_aload_n (i := 0) (n := 1230) C dL_law_1229 rfl rfl rfl ?_
  refine zV_iload_n (i := 3) (n := 1231) C dL_law_1230 rfl rfl rfl ?_
  refine zV_iconst (n := 1232) C dL_law_1231 rfl ?_
  refine zV_iadd (n := 1233) C dL_law_1232 rfl ?_
  refine zV_sld (n := 1234) C hX hL dL_law_1233 (by omega) rfl ?_
  refine zV_callV5u (n := 1237) C zk8 jX9_copy lL_152 h2 dL_law_1234 zs_ref rfl (Nat.le_of_ble_eq_true rfl) (zfit_law (by decide)) hcs rfl ?_
  refine zV_icmp0_eq (n := 1240) C 1416 dL_law_1237 (by decide) rfl (fun _ => ?_) (fun q => absurd rfl q)
  exact NX _ hs
set_option maxRecDepth 100000 in
set_option maxHeartbeats 4000000 in
theorem law_lays {Γ : zC} {A : Nat → Prop} {p : Program} {l : Launch} {e : Env} {s : State} {m : MethodId} {args : Array Value} {below : List Frame} {meth : Method} {c : Code} {cells slots : Nat} {Q : State → Prop} (C : zCx Γ A p s m args c RL cL_law 4) {b L : Nat} {xs : Nat → Int32} (hX : va_X b L xs s s.heap ∧ b < s.heap.size ∧ ¬ A b) (hL : L ≤ 3072) (hcs : cells ≤ room_1.cells ∧ slots ≤ room_1.slots) {i : Int} (hi : 0 ≤ i ∧ i ≤ (L : Int) - 6) {μ : zMem} (h : zSim μ) (NX : ∀ μ2 : zMem, zSim μ2 → zV Γ A p l e room_1 s m args below meth c cells slots Q 1416 [.ref b, .ref (za Γ 4 0), .ref (za Γ 5 0), .int (zi i)] [] μ2) :
    zV Γ A p l e room_1 s m args below meth c cells slots Q 1242 [.ref b, .ref (za Γ 4 0), .ref (za Γ 5 0), .int (zi i)] [] μ := by
  obtain ⟨w, μ1, μ2, h1, h2, hs⟩ := pr_lays (Γ := Γ) (l := l) h (xs (i + 1).toNat)
  refine zV_aload_n (i := 1) (n := 1243) C dL_law_1242 rfl rfl rfl ?_
  refine zV_aload_n (i := 0) (n := 1244) C dL_law_1243 rfl rfl rfl ?_
  refine zV_iload_n (i := 3) (n := 1245) C dL_law_1244 rfl rfl rfl ?_
  refine zV_iconst (n := 1246) C dL_law_1245 rfl ?_
  refine zV_iadd (n := 1247) C dL_law_1246 rfl ?_
  refine zV_sld (n := 1248) C hX hL dL_law_1247 (by omega) rfl ?_
  refine zV_callV1u (n := 1251) C zk7 jX8_lays lL_153 h1 dL_law_1248 zs_cls rfl (Nat.le_of_ble_eq_true rfl) (zfit_law (by decide)) hcs rfl ?_
  refine zV_aload_n (i := 2) (n := 1252) C dL_law_1251 rfl rfl rfl ?_
  refine zV_aload_n (i := 0) (n := 1253) C dL_law_1252 rfl rfl rfl ?_
  refine zV_iload_n (i := 3) (n := 1254) C dL_law_1253 rfl rfl rfl ?_
  refine zV_iconst (n := 1255) C dL_law_1254 rfl ?_
  refine zV_iadd (n := 1256) C dL_law_1255 rfl ?_
  refine zV_sld (n := 1257) C hX hL dL_law_1256 (by omega) rfl ?_
  refine zV_callV1u (n := 1260) C zk8 jX9_lays lL_156 h2 dL_law_1257 zs_ref rfl (Nat.le_of_ble_eq_true rfl) (zfit_law (by decide)) hcs rfl ?_
  refine zV_icmp0_eq (n := 1263) C 1416 dL_law_1260 (by decide) rfl (fun _ => ?_) (fun q => absurd rfl q)
  exact NX _ hs
set_option maxRecDepth 100000 in
set_option maxHeartbeats 4000000 in
theorem law_book {Γ : zC} {A : Nat → Prop} {p : Program} {l : Launch} {e : Env} {s : State} {m : MethodId} {args : Array Value} {below : List Frame} {meth : Method} {c : Code} {cells slots : Nat} {Q : State → Prop} (C : zCx Γ A p s m args c RL cL_law 4) {b L : Nat} {xs : Nat → Int32} (hX : va_X b L xs s s.heap ∧ b < s.heap.size ∧ ¬ A b) (hL : L ≤ 3072) (hcs : cells ≤ room_1.cells ∧ slots ≤ room_1.slots) {i : Int} (hi : 0 ≤ i ∧ i ≤ (L : Int) - 6) {μ : zMem} (h : zSim μ) (NX : ∀ μ2 : zMem, zSim μ2 → zV Γ A p l e room_1 s m args below meth c cells slots Q 1416 [.ref b, .ref (za Γ 4 0), .ref (za Γ 5 0), .int (zi i)] [] μ2) :
    zV Γ A p l e room_1 s m args below meth c cells slots Q 1265 [.ref b, .ref (za Γ 4 0), .ref (za Γ 5 0), .int (zi i)] [] μ := by
  obtain ⟨w, μ1, μ2, h1, h2, hs⟩ := pr_book (Γ := Γ) (l := l) h (xs (i + 1).toNat) (xs (i + 2).toNat)
  refine zV_aload_n (i := 1) (n := 1266) C dL_law_1265 rfl rfl rfl ?_
  refine zV_aload_n (i := 0) (n := 1267) C dL_law_1266 rfl rfl rfl ?_
  refine zV_iload_n (i := 3) (n := 1268) C dL_law_1267 rfl rfl rfl ?_
  refine zV_iconst (n := 1269) C dL_law_1268 rfl ?_
  refine zV_iadd (n := 1270) C dL_law_1269 rfl ?_
  refine zV_sld (n := 1271) C hX hL dL_law_1270 (by omega) rfl ?_
  refine zV_aload_n (i := 0) (n := 1272) C dL_law_1271 rfl rfl rfl ?_
  refine zV_iload_n (i := 3) (n := 1273) C dL_law_1272 rfl rfl rfl ?_
  refine zV_iconst (n := 1274) C dL_law_1273 rfl ?_
  refine zV_iadd (n := 1275) C dL_law_1274 rfl ?_
  refine zV_sld (n := 1276) C hX hL dL_law_1275 (by omega) rfl ?_
  refine zV_callV2u (n := 1279) C zk7 jX8_book lL_157 h1 dL_law_1276 zs_cls rfl (Nat.le_of_ble_eq_true rfl) (zfit_law (by decide)) hcs rfl ?_
  refine zV_aload_n (i := 2) (n := 1280) C dL_law_1279 rfl rfl rfl ?_
  refine zV_aload_n (i := 0) (n := 1281) C dL_law_1280 rfl rfl rfl ?_
  refine zV_iload_n (i := 3) (n := 1282) C dL_law_1281 rfl rfl rfl ?_
  refine zV_iconst (n := 1283) C dL_law_1282 rfl ?_
  refine zV_iadd (n := 1284) C dL_law_1283 rfl ?_
  refine zV_sld (n := 1285) C hX hL dL_law_1284 (by omega) rfl ?_
  refine zV_aload_n (i := 0) (n := 1286) C dL_law_1285 rfl rfl rfl ?_
  refine zV_iload_n (i := 3) (n := 1287) C dL_law_1286 rfl rfl rfl ?_
  refine zV_iconst (n := 1288) C dL_law_1287 rfl ?_
  refine zV_iadd (n := 1289) C dL_law_1288 rfl ?_
  refine zV_sld (n := 1290) C hX hL dL_law_1289 (by omega) rfl ?_
  refine zV_callV2u (n := 1293) C zk8 jX9_book lL_160 h2 dL_law_1290 zs_ref rfl (Nat.le_of_ble_eq_true rfl) (zfit_law (by decide)) hcs rfl ?_
  refine zV_icmp0_eq (n := 1296) C 1416 dL_law_1293 (by decide) rfl (fun _ => ?_) (fun q => absurd rfl q)
  exact NX _ hs
set_option maxRecDepth 100000 in
set_option maxHeartbeats 4000000 in
theorem law_read {Γ : zC} {A : Nat → Prop} {p : Program} {l : Launch} {e : Env} {s : State} {m : MethodId} {args : Array Value} {below : List Frame} {meth : Method} {c : Code} {cells slots : Nat} {Q : State → Prop} (C : zCx Γ A p s m args c RL cL_law 4) {b L : Nat} {xs : Nat → Int32} (hX : va_X b L xs s s.heap ∧ b < s.heap.size ∧ ¬ A b) (hL : L ≤ 3072) (hcs : cells ≤ room_1.cells ∧ slots ≤ room_1.slots) {i : Int} (hi : 0 ≤ i ∧ i ≤ (L : Int) - 6) {μ : zMem} (h : zSim μ) (NX : ∀ μ2 : zMem, zSim μ2 → zV Γ A p l e room_1 s m args below meth c cells slots Q 1416 [.ref b, .ref (za Γ 4 0), .ref (za Γ 5 0), .int (zi i)] [] μ2) :
    zV Γ A p l e room_1 s m args below meth c cells slots Q 1298 [.ref b, .ref (za Γ 4 0), .ref (za Γ 5 0), .int (zi i)] [] μ := by
  obtain ⟨w, μ1, μ2, h1, h2, hs⟩ := pr_read (Γ := Γ) (l := l) h (xs (i + 1).toNat) (xs (i + 2).toNat)
  refine zV_aload_n (i := 1) (n := 1299) C dL_law_1298 rfl rfl rfl ?_
  refine zV_aload_n (i := 0) (n := 1300) C dL_law_1299 rfl rfl rfl ?_
  refine zV_iload_n (i := 3) (n := 1301) C dL_law_1300 rfl rfl rfl ?_
  refine zV_iconst (n := 1302) C dL_law_1301 rfl ?_
  refine zV_iadd (n := 1303) C dL_law_1302 rfl ?_
  refine zV_sld (n := 1304) C hX hL dL_law_1303 (by omega) rfl ?_
  refine zV_aload_n (i := 0) (n := 1305) C dL_law_1304 rfl rfl rfl ?_
  refine zV_iload_n (i := 3) (n := 1306) C dL_law_1305 rfl rfl rfl ?_
  refine zV_iconst (n := 1307) C dL_law_1306 rfl ?_
  refine zV_iadd (n := 1308) C dL_law_1307 rfl ?_
  refine zV_sld (n := 1309) C hX hL dL_law_1308 (by omega) rfl ?_
  refine zV_callV2u (n := 1312) C zk7 jX8_read lL_161 h1 dL_law_1309 zs_cls rfl (Nat.le_of_ble_eq_true rfl) (zfit_law (by decide)) hcs rfl ?_
  refine zV_aload_n (i := 2) (n := 1313) C dL_law_1312 rfl rfl rfl ?_
  refine zV_aload_n (i := 0) (n := 1314) C dL_law_1313 rfl rfl rfl ?_
  refine zV_iload_n (i := 3) (n := 1315) C dL_law_1314 rfl rfl rfl ?_
  refine zV_iconst (n := 1316) C dL_law_1315 rfl ?_
  refine zV_iadd (n := 1317) C dL_law_1316 rfl ?_
  refine zV_sld (n := 1318) C hX hL dL_law_1317 (by omega) rfl ?_
  refine zV_aload_n (i := 0) (n := 1319) C dL_law_1318 rfl rfl rfl ?_
  refine zV_iload_n (i := 3) (n := 1320) C dL_law_1319 rfl rfl rfl ?_
  refine zV_iconst (n := 1321) C dL_law_1320 rfl ?_
  refine zV_iadd (n := 1322) C dL_law_1321 rfl ?_
  refine zV_sld (n := 1323) C hX hL dL_law_1322 (by omega) rfl ?_
  refine zV_callV2u (n := 1326) C zk8 jX9_read lL_164 h2 dL_law_1323 zs_ref rfl (Nat.le_of_ble_eq_true rfl) (zfit_law (by decide)) hcs rfl ?_
  refine zV_icmp0_eq (n := 1329) C 1416 dL_law_1326 (by decide) rfl (fun _ => ?_) (fun q => absurd rfl q)
  exact NX _ hs
set_option maxRecDepth 100000 in
set_option maxHeartbeats 4000000 in
theorem law_image {Γ : zC} {A : Nat → Prop} {p : Program} {l : Launch} {e : Env} {s : State} {m : MethodId} {args : Array Value} {below : List Frame} {meth : Method} {c : Code} {cells slots : Nat} {Q : State → Prop} (C : zCx Γ A p s m args c RL cL_law 4) {b L : Nat} {xs : Nat → Int32} (hX : va_X b L xs s s.heap ∧ b < s.heap.size ∧ ¬ A b) (hL : L ≤ 3072) (hcs : cells ≤ room_1.cells ∧ slots ≤ room_1.slots) {i : Int} (hi : 0 ≤ i ∧ i ≤ (L : Int) - 6) {μ : zMem} (h : zSim μ) (NX : ∀ μ2 : zMem, zSim μ2 → zV Γ A p l e room_1 s m args below meth c cells slots Q 1416 [.ref b, .ref (za Γ 4 0), .ref (za Γ 5 0), .int (zi i)] [] μ2) :
    zV Γ A p l e room_1 s m args below meth c cells slots Q 1331 [.ref b, .ref (za Γ 4 0), .ref (za Γ 5 0), .int (zi i)] [] μ := by
  obtain ⟨w, μ1, μ2, h1, h2, hs⟩ := pr_image (Γ := Γ) (l := l) h 
  refine zV_aload_n (i := 1) (n := 1332) C dL_law_1331 rfl rfl rfl ?_
  refine zV_callV0u (n := 1335) C zk7 jX8_image lL_165 h1 dL_law_1332 zs_cls rfl (Nat.le_of_ble_eq_true rfl) (zfit_law (by decide)) hcs rfl ?_
  refine zV_aload_n (i := 2) (n := 1336) C dL_law_1335 rfl rfl rfl ?_
  refine zV_callV0u (n := 1339) C zk8 jX9_image lL_168 h2 dL_law_1336 zs_ref rfl (Nat.le_of_ble_eq_true rfl) (zfit_law (by decide)) hcs rfl ?_
  refine zV_icmp0_eq (n := 1342) C 1416 dL_law_1339 (by decide) rfl (fun _ => ?_) (fun q => absurd rfl q)
  exact NX _ hs
set_option maxRecDepth 100000 in
set_option maxHeartbeats 4000000 in
theorem law_undo {Γ : zC} {A : Nat → Prop} {p : Program} {l : Launch} {e : Env} {s : State} {m : MethodId} {args : Array Value} {below : List Frame} {meth : Method} {c : Code} {cells slots : Nat} {Q : State → Prop} (C : zCx Γ A p s m args c RL cL_law 4) {b L : Nat} {xs : Nat → Int32} (hX : va_X b L xs s s.heap ∧ b < s.heap.size ∧ ¬ A b) (hL : L ≤ 3072) (hcs : cells ≤ room_1.cells ∧ slots ≤ room_1.slots) {i : Int} (hi : 0 ≤ i ∧ i ≤ (L : Int) - 6) {μ : zMem} (h : zSim μ) (NX : ∀ μ2 : zMem, zSim μ2 → zV Γ A p l e room_1 s m args below meth c cells slots Q 1416 [.ref b, .ref (za Γ 4 0), .ref (za Γ 5 0), .int (zi i)] [] μ2) :
    zV Γ A p l e room_1 s m args below meth c cells slots Q 1344 [.ref b, .ref (za Γ 4 0), .ref (za Γ 5 0), .int (zi i)] [] μ := by
  obtain ⟨w, μ1, μ2, h1, h2, hs⟩ := pr_undo (Γ := Γ) (l := l) h 
  refine zV_aload_n (i := 1) (n := 1345) C dL_law_1344 rfl rfl rfl ?_
  refine zV_callV0u (n := 1348) C zk7 jX8_undo lL_169 h1 dL_law_1345 zs_cls rfl (Nat.le_of_ble_eq_true rfl) (zfit_law (by decide)) hcs rfl ?_
  refine zV_aload_n (i := 2) (n := 1349) C dL_law_1348 rfl rfl rfl ?_
  refine zV_callV0u (n := 1352) C zk8 jX9_undo lL_172 h2 dL_law_1349 zs_ref rfl (Nat.le_of_ble_eq_true rfl) (zfit_law (by decide)) hcs rfl ?_
  refine zV_icmp0_eq (n := 1355) C 1416 dL_law_1352 (by decide) rfl (fun _ => ?_) (fun q => absurd rfl q)
  exact NX _ hs
set_option maxRecDepth 100000 in
set_option maxHeartbeats 4000000 in
theorem law_tear {Γ : zC} {A : Nat → Prop} {p : Program} {l : Launch} {e : Env} {s : State} {m : MethodId} {args : Array Value} {below : List Frame} {meth : Method} {c : Code} {cells slots : Nat} {Q : State → Prop} (C : zCx Γ A p s m args c RL cL_law 4) {b L : Nat} {xs : Nat → Int32} (hX : va_X b L xs s s.heap ∧ b < s.heap.size ∧ ¬ A b) (hL : L ≤ 3072) (hcs : cells ≤ room_1.cells ∧ slots ≤ room_1.slots) {i : Int} (hi : 0 ≤ i ∧ i ≤ (L : Int) - 6) {μ : zMem} (h : zSim μ) (NX : ∀ μ2 : zMem, zSim μ2 → zV Γ A p l e room_1 s m args below meth c cells slots Q 1416 [.ref b, .ref (za Γ 4 0), .ref (za Γ 5 0), .int (zi i)] [] μ2) :
    zV Γ A p l e room_1 s m args below meth c cells slots Q 1357 [.ref b, .ref (za Γ 4 0), .ref (za Γ 5 0), .int (zi i)] [] μ := by
  obtain ⟨w, μ1, μ2, h1, h2, hs⟩ := pr_tear (Γ := Γ) (l := l) h 
  refine zV_aload_n (i := 1) (n := 1358) C dL_law_1357 rfl rfl rfl ?_
  refine zV_callV0u (n := 1361) C zk7 jX8_tear lL_173 h1 dL_law_1358 zs_cls rfl (Nat.le_of_ble_eq_true rfl) (zfit_law (by decide)) hcs rfl ?_
  refine zV_aload_n (i := 2) (n := 1362) C dL_law_1361 rfl rfl rfl ?_
  refine zV_callV0u (n := 1365) C zk8 jX9_tear lL_176 h2 dL_law_1362 zs_ref rfl (Nat.le_of_ble_eq_true rfl) (zfit_law (by decide)) hcs rfl ?_
  refine zV_icmp0_eq (n := 1368) C 1416 dL_law_1365 (by decide) rfl (fun _ => ?_) (fun q => absurd rfl q)
  exact NX _ hs
set_option maxRecDepth 100000 in
set_option maxHeartbeats 4000000 in
theorem law_count {Γ : zC} {A : Nat → Prop} {p : Program} {l : Launch} {e : Env} {s : State} {m : MethodId} {args : Array Value} {below : List Frame} {meth : Method} {c : Code} {cells slots : Nat} {Q : State → Prop} (C : zCx Γ A p s m args c RL cL_law 4) {b L : Nat} {xs : Nat → Int32} (hX : va_X b L xs s s.heap ∧ b < s.heap.size ∧ ¬ A b) (hL : L ≤ 3072) (hcs : cells ≤ room_1.cells ∧ slots ≤ room_1.slots) {i : Int} (hi : 0 ≤ i ∧ i ≤ (L : Int) - 6) {μ : zMem} (h : zSim μ) (NX : ∀ μ2 : zMem, zSim μ2 → zV Γ A p l e room_1 s m args below meth c cells slots Q 1416 [.ref b, .ref (za Γ 4 0), .ref (za Γ 5 0), .int (zi i)] [] μ2) :
    zV Γ A p l e room_1 s m args below meth c cells slots Q 1370 [.ref b, .ref (za Γ 4 0), .ref (za Γ 5 0), .int (zi i)] [] μ := by
  obtain ⟨w, μ1, μ2, h1, h2, hs⟩ := pr_count (Γ := Γ) (l := l) h (xs (i + 1).toNat)
  refine zV_aload_n (i := 1) (n := 1371) C dL_law_1370 rfl rfl rfl ?_
  refine zV_aload_n (i := 0) (n := 1372) C dL_law_1371 rfl rfl rfl ?_
  refine zV_iload_n (i := 3) (n := 1373) C dL_law_1372 rfl rfl rfl ?_
  refine zV_iconst (n := 1374) C dL_law_1373 rfl ?_
  refine zV_iadd (n := 1375) C dL_law_1374 rfl ?_
  refine zV_sld (n := 1376) C hX hL dL_law_1375 (by omega) rfl ?_
  refine zV_callV1u (n := 1379) C zk7 jX8_count lL_177 h1 dL_law_1376 zs_cls rfl (Nat.le_of_ble_eq_true rfl) (zfit_law (by decide)) hcs rfl ?_
  refine zV_aload_n (i := 2) (n := 1380) C dL_law_1379 rfl rfl rfl ?_
  refine zV_aload_n (i := 0) (n := 1381) C dL_law_1380 rfl rfl rfl ?_
  refine zV_iload_n (i := 3) (n := 1382) C dL_law_1381 rfl rfl rfl ?_
  refine zV_iconst (n := 1383) C dL_law_1382 rfl ?_
  refine zV_iadd (n := 1384) C dL_law_1383 rfl ?_
  refine zV_sld (n := 1385) C hX hL dL_law_1384 (by omega) rfl ?_
  refine zV_callV1u (n := 1388) C zk8 jX9_count lL_180 h2 dL_law_1385 zs_ref rfl (Nat.le_of_ble_eq_true rfl) (zfit_law (by decide)) hcs rfl ?_
  refine zV_icmp0_eq (n := 1391) C 1416 dL_law_1388 (by decide) rfl (fun _ => ?_) (fun q => absurd rfl q)
  exact NX _ hs
set_option maxRecDepth 100000 in
set_option maxHeartbeats 4000000 in
theorem law_status {Γ : zC} {A : Nat → Prop} {p : Program} {l : Launch} {e : Env} {s : State} {m : MethodId} {args : Array Value} {below : List Frame} {meth : Method} {c : Code} {cells slots : Nat} {Q : State → Prop} (C : zCx Γ A p s m args c RL cL_law 4) {b L : Nat} {xs : Nat → Int32} (hX : va_X b L xs s s.heap ∧ b < s.heap.size ∧ ¬ A b) (hL : L ≤ 3072) (hcs : cells ≤ room_1.cells ∧ slots ≤ room_1.slots) {i : Int} (hi : 0 ≤ i ∧ i ≤ (L : Int) - 6) {μ : zMem} (h : zSim μ) (NX : ∀ μ2 : zMem, zSim μ2 → zV Γ A p l e room_1 s m args below meth c cells slots Q 1416 [.ref b, .ref (za Γ 4 0), .ref (za Γ 5 0), .int (zi i)] [] μ2) :
    zV Γ A p l e room_1 s m args below meth c cells slots Q 1393 [.ref b, .ref (za Γ 4 0), .ref (za Γ 5 0), .int (zi i)] [] μ := by
  obtain ⟨w, μ1, μ2, h1, h2, hs⟩ := pr_status (Γ := Γ) (l := l) h (xs (i + 1).toNat)
  refine zV_aload_n (i := 1) (n := 1394) C dL_law_1393 rfl rfl rfl ?_
  refine zV_aload_n (i := 0) (n := 1395) C dL_law_1394 rfl rfl rfl ?_
  refine zV_iload_n (i := 3) (n := 1396) C dL_law_1395 rfl rfl rfl ?_
  refine zV_iconst (n := 1397) C dL_law_1396 rfl ?_
  refine zV_iadd (n := 1398) C dL_law_1397 rfl ?_
  refine zV_sld (n := 1399) C hX hL dL_law_1398 (by omega) rfl ?_
  refine zV_callV1u (n := 1402) C zk7 jX8_status lL_181 h1 dL_law_1399 zs_cls rfl (Nat.le_of_ble_eq_true rfl) (zfit_law (by decide)) hcs rfl ?_
  refine zV_aload_n (i := 2) (n := 1403) C dL_law_1402 rfl rfl rfl ?_
  refine zV_aload_n (i := 0) (n := 1404) C dL_law_1403 rfl rfl rfl ?_
  refine zV_iload_n (i := 3) (n := 1405) C dL_law_1404 rfl rfl rfl ?_
  refine zV_iconst (n := 1406) C dL_law_1405 rfl ?_
  refine zV_iadd (n := 1407) C dL_law_1406 rfl ?_
  refine zV_sld (n := 1408) C hX hL dL_law_1407 (by omega) rfl ?_
  refine zV_callV1u (n := 1411) C zk8 jX9_status lL_184 h2 dL_law_1408 zs_ref rfl (Nat.le_of_ble_eq_true rfl) (zfit_law (by decide)) hcs rfl ?_
  refine zV_icmp0_eq (n := 1414) C 1416 dL_law_1411 (by decide) rfl (fun _ => ?_) (fun q => absurd rfl q)
  exact NX _ hs
set_option maxRecDepth 100000 in
set_option maxHeartbeats 4000000 in
theorem law_loop {Γ : zC} {A : Nat → Prop} {p : Program} {l : Launch} {e : Env} {s : State} {m : MethodId} {args : Array Value} {below : List Frame} {meth : Method} {c : Code} {cells slots : Nat} {Q : State → Prop} (C : zCx Γ A p s m args c RL cL_law 4) {b L : Nat} {xs : Nat → Int32} (hX : va_X b L xs s s.heap ∧ b < s.heap.size ∧ ¬ A b) (hL : L ≤ 3072) (hcs : cells ≤ room_1.cells ∧ slots ≤ room_1.slots) (KK : ∀ (μ : zMem) (v3 : Value), zV Γ A p l e room_1 s m args below meth c cells slots Q 1422 [.ref b, .ref (za Γ 4 0), .ref (za Γ 5 0), v3] [] μ) :
    ∀ (n : Nat) (i : Int) (μ : zMem), 0 ≤ i → i ≤ 4000 → (L : Int) - i ≤ n → zSim μ → zV Γ A p l e room_1 s m args below meth c cells slots Q 18 [.ref b, .ref (za Γ 4 0), .ref (za Γ 5 0), .int (zi i)] [] μ := by
  intro n
  induction n with
  | zero =>
    intro i μ h0 h4 hn h
    refine zV_iload_n (i := 3) (n := 19) C dL_law_18 rfl rfl rfl ?_
    refine zV_aload_n (i := 0) (n := 20) C dL_law_19 rfl rfl rfl ?_
    refine zV_slen (n := 21) C hX dL_law_20 rfl ?_
    refine zV_bipush (n := 23) C dL_law_21 (by decide) rfl ?_
    refine zV_isub (n := 24) C dL_law_23 rfl ?_
    refine zV_icmp_gt (n := 27) C 1422 dL_law_24 (by decide) (by omega) (by omega) rfl (fun _ => KK _ _) (fun q => by exfalso; omega)
  | succ n ih =>
    intro i μ h0 h4 hn h
    refine zV_iload_n (i := 3) (n := 19) C dL_law_18 rfl rfl rfl ?_
    refine zV_aload_n (i := 0) (n := 20) C dL_law_19 rfl rfl rfl ?_
    refine zV_slen (n := 21) C hX dL_law_20 rfl ?_
    refine zV_bipush (n := 23) C dL_law_21 (by decide) rfl ?_
    refine zV_isub (n := 24) C dL_law_23 rfl ?_
    refine zV_icmp_gt (n := 27) C 1422 dL_law_24 (by decide) (by omega) (by omega) rfl (fun _ => KK _ _) (fun hi => ?_)
    have NX : ∀ μ2 : zMem, zSim μ2 → zV Γ A p l e room_1 s m args below meth c cells slots Q 1416 [.ref b, .ref (za Γ 4 0), .ref (za Γ 5 0), .int (zi i)] [] μ2 := by
      intro μ2 hs
      refine zS_iinc_4_3 (n := 1419) C dL_law_1416 rfl rfl ?_
      refine zV_goto C 18 dL_law_1419 (by decide) ?_
      exact ih (i + 6) μ2 (by omega) (by omega) (by omega) hs
    refine zV_aload_n (i := 0) (n := 28) C dL_law_27 rfl rfl rfl ?_
    refine zV_iload_n (i := 3) (n := 29) C dL_law_28 rfl rfl rfl ?_
    refine zV_sld (n := 30) C hX hL dL_law_29 (by omega) rfl ?_
    refine zV_bipush (n := 32) C dL_law_30 (by decide) rfl ?_
    obtain ⟨z, ez, z0, z1⟩ := zand63 (xs i.toNat)
    refine zV_iand (n := 33) C dL_law_32 ez rfl ?_
    have hz : z = 0 ∨ z = 1 ∨ z = 2 ∨ z = 3 ∨ z = 4 ∨ z = 5 ∨ z = 6 ∨ z = 7 ∨ z = 8 ∨ z = 9 ∨ z = 10 ∨ z = 11 ∨ z = 12 ∨ z = 13 ∨ z = 14 ∨ z = 15 ∨ z = 16 ∨ z = 17 ∨ z = 18 ∨ z = 19 ∨ z = 20 ∨ z = 21 ∨ z = 22 ∨ z = 23 ∨ z = 24 ∨ z = 25 ∨ z = 26 ∨ z = 27 ∨ z = 28 ∨ z = 29 ∨ z = 30 ∨ z = 31 ∨ z = 32 ∨ z = 33 ∨ z = 34 ∨ z = 35 ∨ z = 36 ∨ z = 37 ∨ z = 38 ∨ z = 39 ∨ z = 40 ∨ (z < 0 ∨ 40 < z) := by omega
    rcases hz with hsw | hsw | hsw | hsw | hsw | hsw | hsw | hsw | hsw | hsw | hsw | hsw | hsw | hsw | hsw | hsw | hsw | hsw | hsw | hsw | hsw | hsw | hsw | hsw | hsw | hsw | hsw | hsw | hsw | hsw | hsw | hsw | hsw | hsw | hsw | hsw | hsw | hsw | hsw | hsw | hsw | hsw
    · refine zV_tswIn C 212 dL_law_33 (by omega) (by omega) (by omega) (by rw [hsw]; rfl) (by decide) ?_
      exact law_seat C hX hL hcs (by omega) h NX
    · refine zV_tswIn C 255 dL_law_33 (by omega) (by omega) (by omega) (by rw [hsw]; rfl) (by decide) ?_
      exact law_seatOf C hX hL hcs (by omega) h NX
    · refine zV_tswIn C 288 dL_law_33 (by omega) (by omega) (by omega) (by rw [hsw]; rfl) (by decide) ?_
      exact law_rain C hX hL hcs (by omega) h NX
    · refine zV_tswIn C 311 dL_law_33 (by omega) (by omega) (by omega) (by rw [hsw]; rfl) (by decide) ?_
      exact law_child C hX hL hcs (by omega) h NX
    · refine zV_tswIn C 334 dL_law_33 (by omega) (by omega) (by omega) (by rw [hsw]; rfl) (by decide) ?_
      exact law_of C hX hL hcs (by omega) h NX
    · refine zV_tswIn C 367 dL_law_33 (by omega) (by omega) (by omega) (by rw [hsw]; rfl) (by decide) ?_
      exact law_set C hX hL hcs (by omega) h NX
    · refine zV_tswIn C 410 dL_law_33 (by omega) (by omega) (by omega) (by rw [hsw]; rfl) (by decide) ?_
      exact law_turn C hX hL hcs (by omega) h NX
    · refine zV_tswIn C 443 dL_law_33 (by omega) (by omega) (by omega) (by rw [hsw]; rfl) (by decide) ?_
      exact law_as C hX hL hcs (by omega) h NX
    · refine zV_tswIn C 476 dL_law_33 (by omega) (by omega) (by omega) (by rw [hsw]; rfl) (by decide) ?_
      exact law_seconds C hX hL hcs (by omega) h NX
    · refine zV_tswIn C 509 dL_law_33 (by omega) (by omega) (by omega) (by rw [hsw]; rfl) (by decide) ?_
      exact law_snug C hX hL hcs (by omega) h NX
    · refine zV_tswIn C 542 dL_law_33 (by omega) (by omega) (by omega) (by rw [hsw]; rfl) (by decide) ?_
      exact law_click C hX hL hcs (by omega) h NX
    · refine zV_tswIn C 575 dL_law_33 (by omega) (by omega) (by omega) (by rw [hsw]; rfl) (by decide) ?_
      exact law_letOut C hX hL hcs (by omega) h NX
    · refine zV_tswIn C 598 dL_law_33 (by omega) (by omega) (by omega) (by rw [hsw]; rfl) (by decide) ?_
      exact law_bribe C hX hL hcs (by omega) h NX
    · refine zV_tswIn C 621 dL_law_33 (by omega) (by omega) (by omega) (by rw [hsw]; rfl) (by decide) ?_
      exact law_drive C hX hL hcs (by omega) h NX
    · refine zV_tswIn C 644 dL_law_33 (by omega) (by omega) (by omega) (by rw [hsw]; rfl) (by decide) ?_
      exact law_now C hX hL hcs (by omega) h NX
    · refine zV_tswIn C 667 dL_law_33 (by omega) (by omega) (by omega) (by rw [hsw]; rfl) (by decide) ?_
      exact law_on C hX hL hcs (by omega) h NX
    · refine zV_tswIn C 710 dL_law_33 (by omega) (by omega) (by omega) (by rw [hsw]; rfl) (by decide) ?_
      exact law_out C hX hL hcs (by omega) h NX
    · refine zV_tswIn C 733 dL_law_33 (by omega) (by omega) (by omega) (by rw [hsw]; rfl) (by decide) ?_
      exact law_firstOut C hX hL hcs (by omega) h NX
    · refine zV_tswIn C 746 dL_law_33 (by omega) (by omega) (by omega) (by rw [hsw]; rfl) (by decide) ?_
      exact law_quick C hX hL hcs (by omega) h NX
    · refine zV_tswIn C 769 dL_law_33 (by omega) (by omega) (by omega) (by rw [hsw]; rfl) (by decide) ?_
      exact law_safe C hX hL hcs (by omega) h NX
    · refine zV_tswIn C 792 dL_law_33 (by omega) (by omega) (by omega) (by rw [hsw]; rfl) (by decide) ?_
      exact law_all C hX hL hcs (by omega) h NX
    · refine zV_tswIn C 815 dL_law_33 (by omega) (by omega) (by omega) (by rw [hsw]; rfl) (by decide) ?_
      exact law_way C hX hL hcs (by omega) h NX
    · refine zV_tswIn C 848 dL_law_33 (by omega) (by omega) (by omega) (by rw [hsw]; rfl) (by decide) ?_
      exact law_kind C hX hL hcs (by omega) h NX
    · refine zV_tswIn C 881 dL_law_33 (by omega) (by omega) (by omega) (by rw [hsw]; rfl) (by decide) ?_
      exact law_bribes C hX hL hcs (by omega) h NX
    · refine zV_tswIn C 914 dL_law_33 (by omega) (by omega) (by omega) (by rw [hsw]; rfl) (by decide) ?_
      exact law_coat C hX hL hcs (by omega) h NX
    · refine zV_tswIn C 947 dL_law_33 (by omega) (by omega) (by omega) (by rw [hsw]; rfl) (by decide) ?_
      exact law_mood C hX hL hcs (by omega) h NX
    · refine zV_tswIn C 980 dL_law_33 (by omega) (by omega) (by omega) (by rw [hsw]; rfl) (by decide) ?_
      exact law_worst C hX hL hcs (by omega) h NX
    · refine zV_tswIn C 1003 dL_law_33 (by omega) (by omega) (by omega) (by rw [hsw]; rfl) (by decide) ?_
      exact law_feed C hX hL hcs (by omega) h NX
    · refine zV_tswIn C 1036 dL_law_33 (by omega) (by omega) (by omega) (by rw [hsw]; rfl) (by decide) ?_
      exact law_wipe C hX hL hcs (by omega) h NX
    · refine zV_tswIn C 1049 dL_law_33 (by omega) (by omega) (by omega) (by rw [hsw]; rfl) (by decide) ?_
      exact law_car C hX hL hcs (by omega) h NX
    · refine zV_tswIn C 1062 dL_law_33 (by omega) (by omega) (by omega) (by rw [hsw]; rfl) (by decide) ?_
      exact law_sheet C hX hL hcs (by omega) h NX
    · refine zV_tswIn C 1105 dL_law_33 (by omega) (by omega) (by omega) (by rw [hsw]; rfl) (by decide) ?_
      exact law_write C hX hL hcs (by omega) h NX
    · refine zV_tswIn C 1179 dL_law_33 (by omega) (by omega) (by omega) (by rw [hsw]; rfl) (by decide) ?_
      exact law_copy C hX hL hcs (by omega) h NX
    · refine zV_tswIn C 1242 dL_law_33 (by omega) (by omega) (by omega) (by rw [hsw]; rfl) (by decide) ?_
      exact law_lays C hX hL hcs (by omega) h NX
    · refine zV_tswIn C 1265 dL_law_33 (by omega) (by omega) (by omega) (by rw [hsw]; rfl) (by decide) ?_
      exact law_book C hX hL hcs (by omega) h NX
    · refine zV_tswIn C 1298 dL_law_33 (by omega) (by omega) (by omega) (by rw [hsw]; rfl) (by decide) ?_
      exact law_read C hX hL hcs (by omega) h NX
    · refine zV_tswIn C 1331 dL_law_33 (by omega) (by omega) (by omega) (by rw [hsw]; rfl) (by decide) ?_
      exact law_image C hX hL hcs (by omega) h NX
    · refine zV_tswIn C 1344 dL_law_33 (by omega) (by omega) (by omega) (by rw [hsw]; rfl) (by decide) ?_
      exact law_undo C hX hL hcs (by omega) h NX
    · refine zV_tswIn C 1357 dL_law_33 (by omega) (by omega) (by omega) (by rw [hsw]; rfl) (by decide) ?_
      exact law_tear C hX hL hcs (by omega) h NX
    · refine zV_tswIn C 1370 dL_law_33 (by omega) (by omega) (by omega) (by rw [hsw]; rfl) (by decide) ?_
      exact law_count C hX hL hcs (by omega) h NX
    · refine zV_tswIn C 1393 dL_law_33 (by omega) (by omega) (by omega) (by rw [hsw]; rfl) (by decide) ?_
      exact law_status C hX hL hcs (by omega) h NX
    · refine zV_tswOut C 1416 dL_law_33 (by omega) (by omega) (by decide) ?_
      exact NX _ h
