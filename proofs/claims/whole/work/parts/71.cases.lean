/-! THE LAW: its cases (rows by wip/whole/gen/law.py) -/
set_option maxRecDepth 100000 in
set_option maxHeartbeats 4000000 in
theorem law_2 {p : Program} {l : Launch} {e : Env} {s : State} {m : MethodId} {b Lx : Nat} {xs : Nat → Int32} {below : List Frame} {meth : Method} {c0 : Code} {Q : State → Prop} {D : va_G} {tab : List ExceptionTableEntry} {A : Nat → Prop} (hls : l.stackTraces = false) (hX : va_X b Lx xs s s.heap) (hbl : b < s.heap.size) (hbA : ¬ A b) (hL : Lx ≤ 2560) {i : Nat} (hi : i + 5 ≤ Lx) {w : wd_T} {S : Nat → Nat → Int32} {L : Nat → Nat → Int64} (hI : lw_I w S) {kc ks : Nat} (hkc : kc + 3 ≤ 601024) (hks : ks + 20 ≤ 7293034)  (hnext : ∀ (w : wd_T) (S : Nat → Nat → Int32) (L : Nat → Nat → Int64) (kc1 ks1 : Nat), lw_I w S → kc1 ≤ kc + 3 → ks1 ≤ ks + 20 → jw_J p l e room_1 s m #[Value.ref b] below meth c0 Q D zn_L code 7 ret tab A w kc1 ks1 1187 [(0, av_a b), (1, av_r 0), (2, av_r 400), (3, av_r 500), (4, av_i (nI i))] [] S L) : jw_J p l e room_1 s m #[Value.ref b] below meth c0 Q D zn_L code 7 ret tab A w kc ks 292 [(0, av_a b), (1, av_r 0), (2, av_r 400), (3, av_r 500), (4, av_i (nI i))] [] S L := by
  have h12 := hI.1.1.1
  have h13 := hI.1.1.2.1
  refine jw_aload_n zd_L_law_292 rfl ?_
  refine jw_arg hX hbl hbA hL (i := i) (j := 1) (by omega) rfl rfl zd_L_law_293 zd_L_law_294 zd_L_law_296 (by decide) zd_L_law_297 zd_L_law_298 ?_
  refine jw_arg hX hbl hbA hL (i := i) (j := 2) (by omega) rfl rfl zd_L_law_299 zd_L_law_300 zd_L_law_302 (by decide) zd_L_law_303 zd_L_law_304 ?_
  refine jw_callSX (n := 3) (kc_Lweight hls (xs (i + 1)) (xs (i + 2))) rfl zi_404 zi_405 zi_40 zi_406 (by decide +kernel) rfl rfl rfl (by decide) (Nat.le_of_ble_eq_true rfl) ⟨by show _ ≤ 601024; omega, by show _ ≤ 7293034; omega⟩ zd_L_law_305 (fun _ _ _ h => h.elim) (fun v9 S1 L1 hq => ?_)
  obtain ⟨c, v, N, rfl, hO, hN, hL1⟩ := hq
  have hR1 := lw_in hI hN (oh_weight hO)
  refine jw_istore zd_L_law_308 (by decide) ?_
  refine jw_aload_n zd_L_law_310 rfl ?_
  refine jw_arg hX hbl hbA hL (i := i) (j := 1) (by omega) rfl rfl zd_L_law_311 zd_L_law_312 zd_L_law_314 (by decide) zd_L_law_315 zd_L_law_316 ?_
  refine jw_arg hX hbl hbA hL (i := i) (j := 2) (by omega) rfl rfl zd_L_law_317 zd_L_law_318 zd_L_law_320 (by decide) zd_L_law_321 zd_L_law_322 ?_
  refine jw_callV (n := 2) (kc_Mweight hls hI.1 hR1 hO) rfl rfl rfl (rl_m (by decide)) (by decide) zi_774 zi_775 zi_776 zi_44 zi_777 (by decide +kernel) rfl rfl rfl (by decide) (Nat.le_of_ble_eq_true rfl) ⟨by show _ ≤ 601024; omega, by show _ ≤ 7293034; omega⟩ zd_L_law_323 (fun _ _ _ h => h.elim) (fun v9 S2 L2 hq => ?_)
  obtain ⟨rfl, hc, hR2, hfr, hsm⟩ := hq
  refine jw_aload_n zd_L_law_326 rfl ?_
  refine jw_callV (n := 0) (kc_thrown hls) rfl rfl rfl (rl_m (by decide)) (by decide) zi_759 zi_760 zi_761 zi_44 zi_762 (by decide +kernel) rfl rfl rfl (by decide) (Nat.le_of_ble_eq_true rfl) ⟨by show _ ≤ 601024; omega, by show _ ≤ 7293034; omega⟩ zd_L_law_327 (fun _ _ _ h => h.elim) (fun v8 S8 L8 hq => ?_)
  obtain ⟨rfl, rfl, rfl⟩ := hq
  rw [hc]
  refine jw_iload zd_L_law_330 rfl ?_
  refine jw_icmp_eq 337 zd_L_law_332 (by decide) (fun _ => ?_) (fun h => absurd rfl h)
  refine jw_goto 1187 zd_L_law_337 (by decide) ?_
  exact jw_sub [(0, av_a b), (1, av_r 0), (2, av_r 400), (3, av_r 500), (4, av_i (nI i))] ⟨rfl, rfl, rfl, rfl, rfl, trivial⟩ (hnext _ _ _ _ _ (lw_next (oa_weight hI.1 hO) hN hR2 hfr) (by omega) (by omega))
set_option maxRecDepth 100000 in
set_option maxHeartbeats 4000000 in
theorem law_3 {p : Program} {l : Launch} {e : Env} {s : State} {m : MethodId} {b Lx : Nat} {xs : Nat → Int32} {below : List Frame} {meth : Method} {c0 : Code} {Q : State → Prop} {D : va_G} {tab : List ExceptionTableEntry} {A : Nat → Prop} (hls : l.stackTraces = false) (hX : va_X b Lx xs s s.heap) (hbl : b < s.heap.size) (hbA : ¬ A b) (hL : Lx ≤ 2560) {i : Nat} (hi : i + 5 ≤ Lx) {w : wd_T} {S : Nat → Nat → Int32} {L : Nat → Nat → Int64} (hI : lw_I w S) {kc ks : Nat} (hkc : kc + 3 ≤ 601024) (hks : ks + 20 ≤ 7293034)  (hnext : ∀ (w : wd_T) (S : Nat → Nat → Int32) (L : Nat → Nat → Int64) (kc1 ks1 : Nat), lw_I w S → kc1 ≤ kc + 3 → ks1 ≤ ks + 20 → jw_J p l e room_1 s m #[Value.ref b] below meth c0 Q D zn_L code 7 ret tab A w kc1 ks1 1187 [(0, av_a b), (1, av_r 0), (2, av_r 400), (3, av_r 500), (4, av_i (nI i))] [] S L) : jw_J p l e room_1 s m #[Value.ref b] below meth c0 Q D zn_L code 7 ret tab A w kc ks 340 [(0, av_a b), (1, av_r 0), (2, av_r 400), (3, av_r 500), (4, av_i (nI i))] [] S L := by
  have h12 := hI.1.1.1
  have h13 := hI.1.1.2.1
  refine jw_aload_n zd_L_law_340 rfl ?_
  refine jw_arg hX hbl hbA hL (i := i) (j := 1) (by omega) rfl rfl zd_L_law_341 zd_L_law_342 zd_L_law_344 (by decide) zd_L_law_345 zd_L_law_346 ?_
  refine jw_arg hX hbl hbA hL (i := i) (j := 2) (by omega) rfl rfl zd_L_law_347 zd_L_law_348 zd_L_law_350 (by decide) zd_L_law_351 zd_L_law_352 ?_
  refine jw_arg hX hbl hbA hL (i := i) (j := 3) (by omega) rfl rfl zd_L_law_353 zd_L_law_354 zd_L_law_356 (by decide) zd_L_law_357 zd_L_law_358 ?_
  refine jw_if_eq 366 zd_L_law_359 (by decide) (fun h_359 => ?_) (fun h_359 => ?_)
  · refine jw_iconst (v := 0) zd_L_law_366 (by decide) ?_
    refine jw_callSX (n := 4) (kc_Lfits hls hI.1 (xs (i + 1)) (xs (i + 2)) 0) rfl zi_412 zi_413 zi_40 zi_414 (by decide +kernel) rfl rfl rfl (by decide) (Nat.le_of_ble_eq_true rfl) ⟨by show _ ≤ 601024; omega, by show _ ≤ 7293034; omega⟩ zd_L_law_367 (fun _ _ _ h => h.elim) (fun v9 S1 L1 hq => ?_)
    obtain ⟨c, v, N, rfl, hO, hN, hL1⟩ := hq
    have hR1 := lw_in hI hN (oh_fits h12 hO)
    refine jw_istore zd_L_law_370 (by decide) ?_
    refine jw_aload_n zd_L_law_372 rfl ?_
    refine jw_arg hX hbl hbA hL (i := i) (j := 1) (by omega) rfl rfl zd_L_law_373 zd_L_law_374 zd_L_law_376 (by decide) zd_L_law_377 zd_L_law_378 ?_
    refine jw_arg hX hbl hbA hL (i := i) (j := 2) (by omega) rfl rfl zd_L_law_379 zd_L_law_380 zd_L_law_382 (by decide) zd_L_law_383 zd_L_law_384 ?_
    refine jw_arg hX hbl hbA hL (i := i) (j := 3) (by omega) rfl rfl zd_L_law_385 zd_L_law_386 zd_L_law_388 (by decide) zd_L_law_389 zd_L_law_390 ?_
    refine jw_if_eq 398 zd_L_law_391 (by decide) (fun _ => ?_) (fun h => absurd h_359 h)
    refine jw_iconst (v := 0) zd_L_law_398 (by decide) ?_
    refine jw_callV (n := 3) (kc_Mfits hls hI.1 hR1 hO) rfl rfl rfl (rl_m (by decide)) (by decide) zi_778 zi_779 zi_780 zi_44 zi_781 (by decide +kernel) rfl rfl rfl (by decide) (Nat.le_of_ble_eq_true rfl) ⟨by show _ ≤ 601024; omega, by show _ ≤ 7293034; omega⟩ zd_L_law_399 (fun _ _ _ h => h.elim) (fun v9 S2 L2 hq => ?_)
    obtain ⟨rfl, hc, hR2, hfr, hsm⟩ := hq
    refine jw_aload_n zd_L_law_402 rfl ?_
    refine jw_callV (n := 0) (kc_thrown hls) rfl rfl rfl (rl_m (by decide)) (by decide) zi_759 zi_760 zi_761 zi_44 zi_762 (by decide +kernel) rfl rfl rfl (by decide) (Nat.le_of_ble_eq_true rfl) ⟨by show _ ≤ 601024; omega, by show _ ≤ 7293034; omega⟩ zd_L_law_403 (fun _ _ _ h => h.elim) (fun v8 S8 L8 hq => ?_)
    obtain ⟨rfl, rfl, rfl⟩ := hq
    rw [hc]
    refine jw_iload zd_L_law_406 rfl ?_
    refine jw_icmp_eq 413 zd_L_law_408 (by decide) (fun _ => ?_) (fun h => absurd rfl h)
    refine jw_goto 1187 zd_L_law_413 (by decide) ?_
    exact jw_sub [(0, av_a b), (1, av_r 0), (2, av_r 400), (3, av_r 500), (4, av_i (nI i))] ⟨rfl, rfl, rfl, rfl, rfl, trivial⟩ (hnext _ _ _ _ _ (lw_next (oa_fits hI.1 hO) hN hR2 hfr) (by omega) (by omega))
  · refine jw_iconst (v := 1) zd_L_law_362 (by decide) ?_
    refine jw_goto 367 zd_L_law_363 (by decide) ?_
    refine jw_callSX (n := 4) (kc_Lfits hls hI.1 (xs (i + 1)) (xs (i + 2)) 1) rfl zi_412 zi_413 zi_40 zi_414 (by decide +kernel) rfl rfl rfl (by decide) (Nat.le_of_ble_eq_true rfl) ⟨by show _ ≤ 601024; omega, by show _ ≤ 7293034; omega⟩ zd_L_law_367 (fun _ _ _ h => h.elim) (fun v9 S1 L1 hq => ?_)
    obtain ⟨c, v, N, rfl, hO, hN, hL1⟩ := hq
    have hR1 := lw_in hI hN (oh_fits h12 hO)
    refine jw_istore zd_L_law_370 (by decide) ?_
    refine jw_aload_n zd_L_law_372 rfl ?_
    refine jw_arg hX hbl hbA hL (i := i) (j := 1) (by omega) rfl rfl zd_L_law_373 zd_L_law_374 zd_L_law_376 (by decide) zd_L_law_377 zd_L_law_378 ?_
    refine jw_arg hX hbl hbA hL (i := i) (j := 2) (by omega) rfl rfl zd_L_law_379 zd_L_law_380 zd_L_law_382 (by decide) zd_L_law_383 zd_L_law_384 ?_
    refine jw_arg hX hbl hbA hL (i := i) (j := 3) (by omega) rfl rfl zd_L_law_385 zd_L_law_386 zd_L_law_388 (by decide) zd_L_law_389 zd_L_law_390 ?_
    refine jw_if_eq 398 zd_L_law_391 (by decide) (fun h => absurd h h_359) (fun _ => ?_)
    refine jw_iconst (v := 1) zd_L_law_394 (by decide) ?_
    refine jw_goto 399 zd_L_law_395 (by decide) ?_
    refine jw_callV (n := 3) (kc_Mfits hls hI.1 hR1 hO) rfl rfl rfl (rl_m (by decide)) (by decide) zi_778 zi_779 zi_780 zi_44 zi_781 (by decide +kernel) rfl rfl rfl (by decide) (Nat.le_of_ble_eq_true rfl) ⟨by show _ ≤ 601024; omega, by show _ ≤ 7293034; omega⟩ zd_L_law_399 (fun _ _ _ h => h.elim) (fun v9 S2 L2 hq => ?_)
    obtain ⟨rfl, hc, hR2, hfr, hsm⟩ := hq
    refine jw_aload_n zd_L_law_402 rfl ?_
    refine jw_callV (n := 0) (kc_thrown hls) rfl rfl rfl (rl_m (by decide)) (by decide) zi_759 zi_760 zi_761 zi_44 zi_762 (by decide +kernel) rfl rfl rfl (by decide) (Nat.le_of_ble_eq_true rfl) ⟨by show _ ≤ 601024; omega, by show _ ≤ 7293034; omega⟩ zd_L_law_403 (fun _ _ _ h => h.elim) (fun v8 S8 L8 hq => ?_)
    obtain ⟨rfl, rfl, rfl⟩ := hq
    rw [hc]
    refine jw_iload zd_L_law_406 rfl ?_
    refine jw_icmp_eq 413 zd_L_law_408 (by decide) (fun _ => ?_) (fun h => absurd rfl h)
    refine jw_goto 1187 zd_L_law_413 (by decide) ?_
    exact jw_sub [(0, av_a b), (1, av_r 0), (2, av_r 400), (3, av_r 500), (4, av_i (nI i))] ⟨rfl, rfl, rfl, rfl, rfl, trivial⟩ (hnext _ _ _ _ _ (lw_next (oa_fits hI.1 hO) hN hR2 hfr) (by omega) (by omega))
set_option maxRecDepth 100000 in
set_option maxHeartbeats 4000000 in
theorem law_4 {p : Program} {l : Launch} {e : Env} {s : State} {m : MethodId} {b Lx : Nat} {xs : Nat → Int32} {below : List Frame} {meth : Method} {c0 : Code} {Q : State → Prop} {D : va_G} {tab : List ExceptionTableEntry} {A : Nat → Prop} (hls : l.stackTraces = false) (hX : va_X b Lx xs s s.heap) (hbl : b < s.heap.size) (hbA : ¬ A b) (hL : Lx ≤ 2560) {i : Nat} (hi : i + 5 ≤ Lx) {w : wd_T} {S : Nat → Nat → Int32} {L : Nat → Nat → Int64} (hI : lw_I w S) {kc ks : Nat} (hkc : kc + 3 ≤ 601024) (hks : ks + 20 ≤ 7293034)  (hnext : ∀ (w : wd_T) (S : Nat → Nat → Int32) (L : Nat → Nat → Int64) (kc1 ks1 : Nat), lw_I w S → kc1 ≤ kc + 3 → ks1 ≤ ks + 20 → jw_J p l e room_1 s m #[Value.ref b] below meth c0 Q D zn_L code 7 ret tab A w kc1 ks1 1187 [(0, av_a b), (1, av_r 0), (2, av_r 400), (3, av_r 500), (4, av_i (nI i))] [] S L) : jw_J p l e room_1 s m #[Value.ref b] below meth c0 Q D zn_L code 7 ret tab A w kc ks 416 [(0, av_a b), (1, av_r 0), (2, av_r 400), (3, av_r 500), (4, av_i (nI i))] [] S L := by
  have h12 := hI.1.1.1
  have h13 := hI.1.1.2.1
  refine jw_aload_n zd_L_law_416 rfl ?_
  refine jw_arg hX hbl hbA hL (i := i) (j := 1) (by omega) rfl rfl zd_L_law_417 zd_L_law_418 zd_L_law_420 (by decide) zd_L_law_421 zd_L_law_422 ?_
  refine jw_arg hX hbl hbA hL (i := i) (j := 2) (by omega) rfl rfl zd_L_law_423 zd_L_law_424 zd_L_law_426 (by decide) zd_L_law_427 zd_L_law_428 ?_
  refine jw_arg hX hbl hbA hL (i := i) (j := 3) (by omega) rfl rfl zd_L_law_429 zd_L_law_430 zd_L_law_432 (by decide) zd_L_law_433 zd_L_law_434 ?_
  refine jw_callSX (n := 4) (kc_Lcost hls hI.1 (xs (i + 1)) (xs (i + 2)) (xs (i + 3))) rfl zi_445 zi_446 zi_40 zi_447 (by decide +kernel) rfl rfl rfl (by decide) (Nat.le_of_ble_eq_true rfl) ⟨by show _ ≤ 601024; omega, by show _ ≤ 7293034; omega⟩ zd_L_law_435 (fun _ _ _ h => h.elim) (fun v9 S1 L1 hq => ?_)
  obtain ⟨c, v, N, rfl, hO, hN, hL1⟩ := hq
  have hR1 := lw_in hI hN (oh_cost h12 hO)
  refine jw_istore zd_L_law_438 (by decide) ?_
  refine jw_aload_n zd_L_law_440 rfl ?_
  refine jw_arg hX hbl hbA hL (i := i) (j := 1) (by omega) rfl rfl zd_L_law_441 zd_L_law_442 zd_L_law_444 (by decide) zd_L_law_445 zd_L_law_446 ?_
  refine jw_arg hX hbl hbA hL (i := i) (j := 2) (by omega) rfl rfl zd_L_law_447 zd_L_law_448 zd_L_law_450 (by decide) zd_L_law_451 zd_L_law_452 ?_
  refine jw_arg hX hbl hbA hL (i := i) (j := 3) (by omega) rfl rfl zd_L_law_453 zd_L_law_454 zd_L_law_456 (by decide) zd_L_law_457 zd_L_law_458 ?_
  refine jw_callV (n := 3) (kc_Mcost hls hI.1 hR1 hO) rfl rfl rfl (rl_m (by decide)) (by decide) zi_790 zi_791 zi_792 zi_44 zi_793 (by decide +kernel) rfl rfl rfl (by decide) (Nat.le_of_ble_eq_true rfl) ⟨by show _ ≤ 601024; omega, by show _ ≤ 7293034; omega⟩ zd_L_law_459 (fun _ _ _ h => h.elim) (fun v9 S2 L2 hq => ?_)
  obtain ⟨rfl, hc, hR2, hfr, hsm⟩ := hq
  refine jw_aload_n zd_L_law_462 rfl ?_
  refine jw_callV (n := 0) (kc_thrown hls) rfl rfl rfl (rl_m (by decide)) (by decide) zi_759 zi_760 zi_761 zi_44 zi_762 (by decide +kernel) rfl rfl rfl (by decide) (Nat.le_of_ble_eq_true rfl) ⟨by show _ ≤ 601024; omega, by show _ ≤ 7293034; omega⟩ zd_L_law_463 (fun _ _ _ h => h.elim) (fun v8 S8 L8 hq => ?_)
  obtain ⟨rfl, rfl, rfl⟩ := hq
  rw [hc]
  refine jw_iload zd_L_law_466 rfl ?_
  refine jw_icmp_eq 473 zd_L_law_468 (by decide) (fun _ => ?_) (fun h => absurd rfl h)
  refine jw_goto 1187 zd_L_law_473 (by decide) ?_
  exact jw_sub [(0, av_a b), (1, av_r 0), (2, av_r 400), (3, av_r 500), (4, av_i (nI i))] ⟨rfl, rfl, rfl, rfl, rfl, trivial⟩ (hnext _ _ _ _ _ (lw_next (oa_cost hI.1 hO) hN hR2 hfr) (by omega) (by omega))
set_option maxRecDepth 100000 in
set_option maxHeartbeats 4000000 in
theorem law_5 {p : Program} {l : Launch} {e : Env} {s : State} {m : MethodId} {b Lx : Nat} {xs : Nat → Int32} {below : List Frame} {meth : Method} {c0 : Code} {Q : State → Prop} {D : va_G} {tab : List ExceptionTableEntry} {A : Nat → Prop} (hls : l.stackTraces = false) (hX : va_X b Lx xs s s.heap) (hbl : b < s.heap.size) (hbA : ¬ A b) (hL : Lx ≤ 2560) {i : Nat} (hi : i + 5 ≤ Lx) {w : wd_T} {S : Nat → Nat → Int32} {L : Nat → Nat → Int64} (hI : lw_I w S) {kc ks : Nat} (hkc : kc + 3 ≤ 601024) (hks : ks + 20 ≤ 7293034)  (hnext : ∀ (w : wd_T) (S : Nat → Nat → Int32) (L : Nat → Nat → Int64) (kc1 ks1 : Nat), lw_I w S → kc1 ≤ kc + 3 → ks1 ≤ ks + 20 → jw_J p l e room_1 s m #[Value.ref b] below meth c0 Q D zn_L code 7 ret tab A w kc1 ks1 1187 [(0, av_a b), (1, av_r 0), (2, av_r 400), (3, av_r 500), (4, av_i (nI i))] [] S L) : jw_J p l e room_1 s m #[Value.ref b] below meth c0 Q D zn_L code 7 ret tab A w kc ks 476 [(0, av_a b), (1, av_r 0), (2, av_r 400), (3, av_r 500), (4, av_i (nI i))] [] S L := by
  have h12 := hI.1.1.1
  have h13 := hI.1.1.2.1
  refine jw_aload_n zd_L_law_476 rfl ?_
  refine jw_arg hX hbl hbA hL (i := i) (j := 1) (by omega) rfl rfl zd_L_law_477 zd_L_law_478 zd_L_law_480 (by decide) zd_L_law_481 zd_L_law_482 ?_
  refine jw_arg hX hbl hbA hL (i := i) (j := 2) (by omega) rfl rfl zd_L_law_483 zd_L_law_484 zd_L_law_486 (by decide) zd_L_law_487 zd_L_law_488 ?_
  refine jw_aload_n zd_L_law_489 rfl ?_
  refine jw_callSX (n := 4) (kc_Ltogether hls hI.1 (xs (i + 1)) (xs (i + 2))) rfl zi_454 zi_455 zi_40 zi_456 (by decide +kernel) rfl rfl rfl (by decide) (Nat.le_of_ble_eq_true rfl) ⟨by show _ ≤ 601024; omega, by show _ ≤ 7293034; omega⟩ zd_L_law_490 (fun _ _ _ h => h.elim) (fun v9 S1 L1 hq => ?_)
  obtain ⟨c, v, N, rfl, hO, hN, hL1, hv⟩ := hq
  have hR1 := lw_in hI hN (oh_together h12 hO)
  refine jw_istore zd_L_law_493 (by decide) ?_
  refine jw_aload_n zd_L_law_495 rfl ?_
  refine jw_arg hX hbl hbA hL (i := i) (j := 1) (by omega) rfl rfl zd_L_law_496 zd_L_law_497 zd_L_law_499 (by decide) zd_L_law_500 zd_L_law_501 ?_
  refine jw_arg hX hbl hbA hL (i := i) (j := 2) (by omega) rfl rfl zd_L_law_502 zd_L_law_503 zd_L_law_505 (by decide) zd_L_law_506 zd_L_law_507 ?_
  refine jw_callV (n := 2) (kc_Mtogether hls hI.1 hR1 hO) rfl rfl rfl (rl_m (by decide)) (by decide) zi_795 zi_796 zi_797 zi_44 zi_798 (by decide +kernel) rfl rfl rfl (by decide) (Nat.le_of_ble_eq_true rfl) ⟨by show _ ≤ 601024; omega, by show _ ≤ 7293034; omega⟩ zd_L_law_508 (fun _ _ _ h => h.elim) (fun v9 S2 L2 hq => ?_)
  obtain ⟨b9, rfl, hb9, hc, hR2, hfr, hsm⟩ := hq
  refine jw_istore zd_L_law_511 (by decide) ?_
  refine jw_aload_n zd_L_law_513 rfl ?_
  refine jw_callV (n := 0) (kc_thrown hls) rfl rfl rfl (rl_m (by decide)) (by decide) zi_759 zi_760 zi_761 zi_44 zi_762 (by decide +kernel) rfl rfl rfl (by decide) (Nat.le_of_ble_eq_true rfl) ⟨by show _ ≤ 601024; omega, by show _ ≤ 7293034; omega⟩ zd_L_law_514 (fun _ _ _ h => h.elim) (fun v8 S8 L8 hq => ?_)
  obtain ⟨rfl, rfl, rfl⟩ := hq
  rw [hc]
  refine jw_iload zd_L_law_517 rfl ?_
  refine jw_icmp_eq 524 zd_L_law_519 (by decide) (fun _ => ?_) (fun h => absurd rfl h)
  refine jw_iload zd_L_law_524 rfl ?_
  refine jw_if_ne 541 zd_L_law_526 (by decide) (fun h_526 => ?_) (fun h_526 => ?_)
  · refine jw_goto 1187 zd_L_law_541 (by decide) ?_
    exact jw_sub [(0, av_a b), (1, av_r 0), (2, av_r 400), (3, av_r 500), (4, av_i (nI i))] ⟨rfl, rfl, rfl, rfl, rfl, trivial⟩ (hnext _ _ _ _ _ (lw_next (oa_together hI.1 hO) hN hR2 hfr) (by omega) (by omega))
  · refine jw_aload_n zd_L_law_529 rfl ?_
    refine jw_iconst (v := 0) zd_L_law_530 (by decide) ?_
    refine jw_lldN (r := 500) (c := 0) rfl rfl (by decide) (n := 1) (by decide) (rl_m (by decide)) (by decide) zd_L_law_531 ?_
    rw [hsm 500 (by decide) (by decide), hv h_526]
    refine jw_iload zd_L_law_532 rfl ?_
    refine jw_i2l zd_L_law_534 ?_
    refine jw_lcmp zd_L_law_535 ?_
    refine jw_if_eq 541 zd_L_law_536 (by decide) (fun _ => ?_) (fun h => absurd ((lg_cmp_eq _ _).mpr (by rw [hb9 h_526])) h)
    refine jw_goto 1187 zd_L_law_541 (by decide) ?_
    exact jw_sub [(0, av_a b), (1, av_r 0), (2, av_r 400), (3, av_r 500), (4, av_i (nI i))] ⟨rfl, rfl, rfl, rfl, rfl, trivial⟩ (hnext _ _ _ _ _ (lw_next (oa_together hI.1 hO) hN hR2 hfr) (by omega) (by omega))
set_option maxRecDepth 100000 in
set_option maxHeartbeats 4000000 in
theorem law_6 {p : Program} {l : Launch} {e : Env} {s : State} {m : MethodId} {b Lx : Nat} {xs : Nat → Int32} {below : List Frame} {meth : Method} {c0 : Code} {Q : State → Prop} {D : va_G} {tab : List ExceptionTableEntry} {A : Nat → Prop} (hls : l.stackTraces = false) (hX : va_X b Lx xs s s.heap) (hbl : b < s.heap.size) (hbA : ¬ A b) (hL : Lx ≤ 2560) {i : Nat} (hi : i + 5 ≤ Lx) {w : wd_T} {S : Nat → Nat → Int32} {L : Nat → Nat → Int64} (hI : lw_I w S) {kc ks : Nat} (hkc : kc + 3 ≤ 601024) (hks : ks + 20 ≤ 7293034)  (hnext : ∀ (w : wd_T) (S : Nat → Nat → Int32) (L : Nat → Nat → Int64) (kc1 ks1 : Nat), lw_I w S → kc1 ≤ kc + 3 → ks1 ≤ ks + 20 → jw_J p l e room_1 s m #[Value.ref b] below meth c0 Q D zn_L code 7 ret tab A w kc1 ks1 1187 [(0, av_a b), (1, av_r 0), (2, av_r 400), (3, av_r 500), (4, av_i (nI i))] [] S L) : jw_J p l e room_1 s m #[Value.ref b] below meth c0 Q D zn_L code 7 ret tab A w kc ks 544 [(0, av_a b), (1, av_r 0), (2, av_r 400), (3, av_r 500), (4, av_i (nI i))] [] S L := by
  have h12 := hI.1.1.1
  have h13 := hI.1.1.2.1
  refine jw_aload_n zd_L_law_544 rfl ?_
  refine jw_arg hX hbl hbA hL (i := i) (j := 1) (by omega) rfl rfl zd_L_law_545 zd_L_law_546 zd_L_law_548 (by decide) zd_L_law_549 zd_L_law_550 ?_
  refine jw_arg hX hbl hbA hL (i := i) (j := 2) (by omega) rfl rfl zd_L_law_551 zd_L_law_552 zd_L_law_554 (by decide) zd_L_law_555 zd_L_law_556 ?_
  refine jw_callSX (n := 3) (kc_Lfix hls hI.1 (xs (i + 1)) (xs (i + 2))) rfl zi_491 zi_492 zi_40 zi_493 (by decide +kernel) rfl rfl rfl (by decide) (Nat.le_of_ble_eq_true rfl) ⟨by show _ ≤ 601024; omega, by show _ ≤ 7293034; omega⟩ zd_L_law_557 (fun _ _ _ h => h.elim) (fun v9 S1 L1 hq => ?_)
  obtain ⟨c, v, N, rfl, hO, hN, hL1⟩ := hq
  have hR1 := lw_in hI hN (oh_fix h12 hO)
  refine jw_istore zd_L_law_560 (by decide) ?_
  refine jw_aload_n zd_L_law_562 rfl ?_
  refine jw_arg hX hbl hbA hL (i := i) (j := 1) (by omega) rfl rfl zd_L_law_563 zd_L_law_564 zd_L_law_566 (by decide) zd_L_law_567 zd_L_law_568 ?_
  refine jw_arg hX hbl hbA hL (i := i) (j := 2) (by omega) rfl rfl zd_L_law_569 zd_L_law_570 zd_L_law_572 (by decide) zd_L_law_573 zd_L_law_574 ?_
  refine jw_callV (n := 2) (kc_Mfix hls hI.1 hR1 hO) rfl rfl rfl (rl_m (by decide)) (by decide) zi_799 zi_800 zi_801 zi_44 zi_802 (by decide +kernel) rfl rfl rfl (by decide) (Nat.le_of_ble_eq_true rfl) ⟨by show _ ≤ 601024; omega, by show _ ≤ 7293034; omega⟩ zd_L_law_575 (fun _ _ _ h => h.elim) (fun v9 S2 L2 hq => ?_)
  obtain ⟨rfl, hc, hR2, hfr, hsm⟩ := hq
  refine jw_aload_n zd_L_law_578 rfl ?_
  refine jw_callV (n := 0) (kc_thrown hls) rfl rfl rfl (rl_m (by decide)) (by decide) zi_759 zi_760 zi_761 zi_44 zi_762 (by decide +kernel) rfl rfl rfl (by decide) (Nat.le_of_ble_eq_true rfl) ⟨by show _ ≤ 601024; omega, by show _ ≤ 7293034; omega⟩ zd_L_law_579 (fun _ _ _ h => h.elim) (fun v8 S8 L8 hq => ?_)
  obtain ⟨rfl, rfl, rfl⟩ := hq
  rw [hc]
  refine jw_iload zd_L_law_582 rfl ?_
  refine jw_icmp_eq 589 zd_L_law_584 (by decide) (fun _ => ?_) (fun h => absurd rfl h)
  refine jw_goto 1187 zd_L_law_589 (by decide) ?_
  exact jw_sub [(0, av_a b), (1, av_r 0), (2, av_r 400), (3, av_r 500), (4, av_i (nI i))] ⟨rfl, rfl, rfl, rfl, rfl, trivial⟩ (hnext _ _ _ _ _ (lw_next (oa_fix hI.1 hO) hN hR2 hfr) (by omega) (by omega))
set_option maxRecDepth 100000 in
set_option maxHeartbeats 4000000 in
theorem law_7 {p : Program} {l : Launch} {e : Env} {s : State} {m : MethodId} {b Lx : Nat} {xs : Nat → Int32} {below : List Frame} {meth : Method} {c0 : Code} {Q : State → Prop} {D : va_G} {tab : List ExceptionTableEntry} {A : Nat → Prop} (hls : l.stackTraces = false) (hX : va_X b Lx xs s s.heap) (hbl : b < s.heap.size) (hbA : ¬ A b) (hL : Lx ≤ 2560) {i : Nat} (hi : i + 5 ≤ Lx) {w : wd_T} {S : Nat → Nat → Int32} {L : Nat → Nat → Int64} (hI : lw_I w S) {kc ks : Nat} (hkc : kc + 3 ≤ 601024) (hks : ks + 20 ≤ 7293034)  (hnext : ∀ (w : wd_T) (S : Nat → Nat → Int32) (L : Nat → Nat → Int64) (kc1 ks1 : Nat), lw_I w S → kc1 ≤ kc + 3 → ks1 ≤ ks + 20 → jw_J p l e room_1 s m #[Value.ref b] below meth c0 Q D zn_L code 7 ret tab A w kc1 ks1 1187 [(0, av_a b), (1, av_r 0), (2, av_r 400), (3, av_r 500), (4, av_i (nI i))] [] S L) : jw_J p l e room_1 s m #[Value.ref b] below meth c0 Q D zn_L code 7 ret tab A w kc ks 592 [(0, av_a b), (1, av_r 0), (2, av_r 400), (3, av_r 500), (4, av_i (nI i))] [] S L := by
  have h12 := hI.1.1.1
  have h13 := hI.1.1.2.1
  refine jw_aload_n zd_L_law_592 rfl ?_
  refine jw_arg hX hbl hbA hL (i := i) (j := 1) (by omega) rfl rfl zd_L_law_593 zd_L_law_594 zd_L_law_596 (by decide) zd_L_law_597 zd_L_law_598 ?_
  refine jw_arg hX hbl hbA hL (i := i) (j := 2) (by omega) rfl rfl zd_L_law_599 zd_L_law_600 zd_L_law_602 (by decide) zd_L_law_603 zd_L_law_604 ?_
  refine jw_callSX (n := 3) (kc_Llimits hls (xs (i + 1)) (xs (i + 2))) rfl zi_499 zi_500 zi_40 zi_501 (by decide +kernel) rfl rfl rfl (by decide) (Nat.le_of_ble_eq_true rfl) ⟨by show _ ≤ 601024; omega, by show _ ≤ 7293034; omega⟩ zd_L_law_605 (fun _ _ _ h => h.elim) (fun v9 S1 L1 hq => ?_)
  obtain ⟨c, v, N, rfl, hO, hN, hL1⟩ := hq
  have hR1 := lw_in hI hN (oh_limits hO)
  refine jw_istore zd_L_law_608 (by decide) ?_
  refine jw_aload_n zd_L_law_610 rfl ?_
  refine jw_arg hX hbl hbA hL (i := i) (j := 1) (by omega) rfl rfl zd_L_law_611 zd_L_law_612 zd_L_law_614 (by decide) zd_L_law_615 zd_L_law_616 ?_
  refine jw_arg hX hbl hbA hL (i := i) (j := 2) (by omega) rfl rfl zd_L_law_617 zd_L_law_618 zd_L_law_620 (by decide) zd_L_law_621 zd_L_law_622 ?_
  refine jw_callV (n := 2) (kc_Mlimits hls hI.1 hR1 hO) rfl rfl rfl (rl_m (by decide)) (by decide) zi_803 zi_804 zi_805 zi_44 zi_806 (by decide +kernel) rfl rfl rfl (by decide) (Nat.le_of_ble_eq_true rfl) ⟨by show _ ≤ 601024; omega, by show _ ≤ 7293034; omega⟩ zd_L_law_623 (fun _ _ _ h => h.elim) (fun v9 S2 L2 hq => ?_)
  obtain ⟨rfl, hc, hR2, hfr, hsm⟩ := hq
  refine jw_aload_n zd_L_law_626 rfl ?_
  refine jw_callV (n := 0) (kc_thrown hls) rfl rfl rfl (rl_m (by decide)) (by decide) zi_759 zi_760 zi_761 zi_44 zi_762 (by decide +kernel) rfl rfl rfl (by decide) (Nat.le_of_ble_eq_true rfl) ⟨by show _ ≤ 601024; omega, by show _ ≤ 7293034; omega⟩ zd_L_law_627 (fun _ _ _ h => h.elim) (fun v8 S8 L8 hq => ?_)
  obtain ⟨rfl, rfl, rfl⟩ := hq
  rw [hc]
  refine jw_iload zd_L_law_630 rfl ?_
  refine jw_icmp_eq 637 zd_L_law_632 (by decide) (fun _ => ?_) (fun h => absurd rfl h)
  refine jw_goto 1187 zd_L_law_637 (by decide) ?_
  exact jw_sub [(0, av_a b), (1, av_r 0), (2, av_r 400), (3, av_r 500), (4, av_i (nI i))] ⟨rfl, rfl, rfl, rfl, rfl, trivial⟩ (hnext _ _ _ _ _ (lw_next (oa_limits hI.1 hO) hN hR2 hfr) (by omega) (by omega))
set_option maxRecDepth 100000 in
set_option maxHeartbeats 4000000 in
theorem law_8 {p : Program} {l : Launch} {e : Env} {s : State} {m : MethodId} {b Lx : Nat} {xs : Nat → Int32} {below : List Frame} {meth : Method} {c0 : Code} {Q : State → Prop} {D : va_G} {tab : List ExceptionTableEntry} {A : Nat → Prop} (hls : l.stackTraces = false) (hX : va_X b Lx xs s s.heap) (hbl : b < s.heap.size) (hbA : ¬ A b) (hL : Lx ≤ 2560) {i : Nat} (hi : i + 5 ≤ Lx) {w : wd_T} {S : Nat → Nat → Int32} {L : Nat → Nat → Int64} (hI : lw_I w S) {kc ks : Nat} (hkc : kc + 3 ≤ 601024) (hks : ks + 20 ≤ 7293034)  (hnext : ∀ (w : wd_T) (S : Nat → Nat → Int32) (L : Nat → Nat → Int64) (kc1 ks1 : Nat), lw_I w S → kc1 ≤ kc + 3 → ks1 ≤ ks + 20 → jw_J p l e room_1 s m #[Value.ref b] below meth c0 Q D zn_L code 7 ret tab A w kc1 ks1 1187 [(0, av_a b), (1, av_r 0), (2, av_r 400), (3, av_r 500), (4, av_i (nI i))] [] S L) : jw_J p l e room_1 s m #[Value.ref b] below meth c0 Q D zn_L code 7 ret tab A w kc ks 640 [(0, av_a b), (1, av_r 0), (2, av_r 400), (3, av_r 500), (4, av_i (nI i))] [] S L := by
  have h12 := hI.1.1.1
  have h13 := hI.1.1.2.1
  refine jw_aload_n zd_L_law_640 rfl ?_
  refine jw_arg hX hbl hbA hL (i := i) (j := 1) (by omega) rfl rfl zd_L_law_641 zd_L_law_642 zd_L_law_644 (by decide) zd_L_law_645 zd_L_law_646 ?_
  refine jw_aload_n zd_L_law_647 rfl ?_
  refine jw_callSX (n := 3) (kc_Lassign hls hI.1 (xs (i + 1))) rfl zi_507 zi_508 zi_40 zi_509 (by decide +kernel) rfl rfl rfl (by decide) (Nat.le_of_ble_eq_true rfl) ⟨by show _ ≤ 601024; omega, by show _ ≤ 7293034; omega⟩ zd_L_law_648 (fun _ _ _ h => h.elim) (fun v9 S1 L1 hq => ?_)
  obtain ⟨c, v, N, rfl, hO, hN, hL1, hv⟩ := hq
  have hR1 := lw_in hI hN (oh_assign h12 hO)
  refine jw_istore zd_L_law_651 (by decide) ?_
  refine jw_aload_n zd_L_law_653 rfl ?_
  refine jw_arg hX hbl hbA hL (i := i) (j := 1) (by omega) rfl rfl zd_L_law_654 zd_L_law_655 zd_L_law_657 (by decide) zd_L_law_658 zd_L_law_659 ?_
  refine jw_callV (n := 1) (kc_Massign hls hI.1 hR1 hO) rfl rfl rfl (rl_m (by decide)) (by decide) zi_807 zi_808 zi_809 zi_44 zi_810 (by decide +kernel) rfl rfl rfl (by decide) (Nat.le_of_ble_eq_true rfl) ⟨by show _ ≤ 601024; omega, by show _ ≤ 7293034; omega⟩ zd_L_law_660 (fun _ _ _ h => h.elim) (fun v9 S2 L2 hq => ?_)
  obtain ⟨b9, rfl, hb9, hc, hR2, hfr, hsm⟩ := hq
  refine jw_istore zd_L_law_663 (by decide) ?_
  refine jw_aload_n zd_L_law_665 rfl ?_
  refine jw_callV (n := 0) (kc_thrown hls) rfl rfl rfl (rl_m (by decide)) (by decide) zi_759 zi_760 zi_761 zi_44 zi_762 (by decide +kernel) rfl rfl rfl (by decide) (Nat.le_of_ble_eq_true rfl) ⟨by show _ ≤ 601024; omega, by show _ ≤ 7293034; omega⟩ zd_L_law_666 (fun _ _ _ h => h.elim) (fun v8 S8 L8 hq => ?_)
  obtain ⟨rfl, rfl, rfl⟩ := hq
  rw [hc]
  refine jw_iload zd_L_law_669 rfl ?_
  refine jw_icmp_eq 676 zd_L_law_671 (by decide) (fun _ => ?_) (fun h => absurd rfl h)
  refine jw_iload zd_L_law_676 rfl ?_
  refine jw_if_ne 693 zd_L_law_678 (by decide) (fun h_678 => ?_) (fun h_678 => ?_)
  · refine jw_goto 1187 zd_L_law_693 (by decide) ?_
    exact jw_sub [(0, av_a b), (1, av_r 0), (2, av_r 400), (3, av_r 500), (4, av_i (nI i))] ⟨rfl, rfl, rfl, rfl, rfl, trivial⟩ (hnext _ _ _ _ _ (lw_next (oa_assign hI.1 hO) hN hR2 hfr) (by omega) (by omega))
  · refine jw_aload_n zd_L_law_681 rfl ?_
    refine jw_iconst (v := 0) zd_L_law_682 (by decide) ?_
    refine jw_lldN (r := 500) (c := 0) rfl rfl (by decide) (n := 1) (by decide) (rl_m (by decide)) (by decide) zd_L_law_683 ?_
    rw [hsm 500 (by decide) (by decide), hv h_678]
    refine jw_iload zd_L_law_684 rfl ?_
    refine jw_i2l zd_L_law_686 ?_
    refine jw_lcmp zd_L_law_687 ?_
    refine jw_if_eq 693 zd_L_law_688 (by decide) (fun _ => ?_) (fun h => absurd ((lg_cmp_eq _ _).mpr (by rw [hb9 h_678])) h)
    refine jw_goto 1187 zd_L_law_693 (by decide) ?_
    exact jw_sub [(0, av_a b), (1, av_r 0), (2, av_r 400), (3, av_r 500), (4, av_i (nI i))] ⟨rfl, rfl, rfl, rfl, rfl, trivial⟩ (hnext _ _ _ _ _ (lw_next (oa_assign hI.1 hO) hN hR2 hfr) (by omega) (by omega))
set_option maxRecDepth 100000 in
set_option maxHeartbeats 4000000 in
theorem law_9 {p : Program} {l : Launch} {e : Env} {s : State} {m : MethodId} {b Lx : Nat} {xs : Nat → Int32} {below : List Frame} {meth : Method} {c0 : Code} {Q : State → Prop} {D : va_G} {tab : List ExceptionTableEntry} {A : Nat → Prop} (hls : l.stackTraces = false) (hX : va_X b Lx xs s s.heap) (hbl : b < s.heap.size) (hbA : ¬ A b) (hL : Lx ≤ 2560) {i : Nat} (hi : i + 5 ≤ Lx) {w : wd_T} {S : Nat → Nat → Int32} {L : Nat → Nat → Int64} (hI : lw_I w S) {kc ks : Nat} (hkc : kc + 3 ≤ 601024) (hks : ks + 20 ≤ 7293034)  (hnext : ∀ (w : wd_T) (S : Nat → Nat → Int32) (L : Nat → Nat → Int64) (kc1 ks1 : Nat), lw_I w S → kc1 ≤ kc + 3 → ks1 ≤ ks + 20 → jw_J p l e room_1 s m #[Value.ref b] below meth c0 Q D zn_L code 7 ret tab A w kc1 ks1 1187 [(0, av_a b), (1, av_r 0), (2, av_r 400), (3, av_r 500), (4, av_i (nI i))] [] S L) : jw_J p l e room_1 s m #[Value.ref b] below meth c0 Q D zn_L code 7 ret tab A w kc ks 696 [(0, av_a b), (1, av_r 0), (2, av_r 400), (3, av_r 500), (4, av_i (nI i))] [] S L := by
  have h12 := hI.1.1.1
  have h13 := hI.1.1.2.1
  refine jw_aload_n zd_L_law_696 rfl ?_
  refine jw_arg hX hbl hbA hL (i := i) (j := 1) (by omega) rfl rfl zd_L_law_697 zd_L_law_698 zd_L_law_700 (by decide) zd_L_law_701 zd_L_law_702 ?_
  refine jw_aload_n zd_L_law_703 rfl ?_
  refine jw_callSX (n := 3) (kc_Lat hls hI.1 (xs (i + 1))) rfl zi_573 zi_574 zi_40 zi_575 (by decide +kernel) rfl rfl rfl (by decide) (Nat.le_of_ble_eq_true rfl) ⟨by show _ ≤ 601024; omega, by show _ ≤ 7293034; omega⟩ zd_L_law_704 (fun _ _ _ h => h.elim) (fun v9 S1 L1 hq => ?_)
  obtain ⟨c, v, N, rfl, hO, hN, hL1, hv⟩ := hq
  have hR1 := lw_in hI hN (oh_at hO)
  refine jw_istore zd_L_law_707 (by decide) ?_
  refine jw_aload_n zd_L_law_709 rfl ?_
  refine jw_arg hX hbl hbA hL (i := i) (j := 1) (by omega) rfl rfl zd_L_law_710 zd_L_law_711 zd_L_law_713 (by decide) zd_L_law_714 zd_L_law_715 ?_
  refine jw_callV (n := 1) (kc_Mat hls hI.1 hR1 hO) rfl rfl rfl (rl_m (by decide)) (by decide) zi_852 zi_853 zi_854 zi_44 zi_855 (by decide +kernel) rfl rfl rfl (by decide) (Nat.le_of_ble_eq_true rfl) ⟨by show _ ≤ 601024; omega, by show _ ≤ 7293034; omega⟩ zd_L_law_716 (fun _ _ _ h => h.elim) (fun v9 S2 L2 hq => ?_)
  obtain ⟨b9, rfl, hb9, hc, hR2, hfr, hsm⟩ := hq
  refine jw_istore zd_L_law_719 (by decide) ?_
  refine jw_aload_n zd_L_law_721 rfl ?_
  refine jw_callV (n := 0) (kc_thrown hls) rfl rfl rfl (rl_m (by decide)) (by decide) zi_759 zi_760 zi_761 zi_44 zi_762 (by decide +kernel) rfl rfl rfl (by decide) (Nat.le_of_ble_eq_true rfl) ⟨by show _ ≤ 601024; omega, by show _ ≤ 7293034; omega⟩ zd_L_law_722 (fun _ _ _ h => h.elim) (fun v8 S8 L8 hq => ?_)
  obtain ⟨rfl, rfl, rfl⟩ := hq
  rw [hc]
  refine jw_iload zd_L_law_725 rfl ?_
  refine jw_icmp_eq 732 zd_L_law_727 (by decide) (fun _ => ?_) (fun h => absurd rfl h)
  refine jw_iload zd_L_law_732 rfl ?_
  refine jw_if_ne 749 zd_L_law_734 (by decide) (fun h_734 => ?_) (fun h_734 => ?_)
  · refine jw_goto 1187 zd_L_law_749 (by decide) ?_
    exact jw_sub [(0, av_a b), (1, av_r 0), (2, av_r 400), (3, av_r 500), (4, av_i (nI i))] ⟨rfl, rfl, rfl, rfl, rfl, trivial⟩ (hnext _ _ _ _ _ (lw_next (oa_at hI.1 hO) hN hR2 hfr) (by omega) (by omega))
  · refine jw_aload_n zd_L_law_737 rfl ?_
    refine jw_iconst (v := 0) zd_L_law_738 (by decide) ?_
    refine jw_lldN (r := 500) (c := 0) rfl rfl (by decide) (n := 1) (by decide) (rl_m (by decide)) (by decide) zd_L_law_739 ?_
    rw [hsm 500 (by decide) (by decide), hv h_734]
    refine jw_iload zd_L_law_740 rfl ?_
    refine jw_i2l zd_L_law_742 ?_
    refine jw_lcmp zd_L_law_743 ?_
    refine jw_if_eq 749 zd_L_law_744 (by decide) (fun _ => ?_) (fun h => absurd ((lg_cmp_eq _ _).mpr (by rw [hb9 h_734])) h)
    refine jw_goto 1187 zd_L_law_749 (by decide) ?_
    exact jw_sub [(0, av_a b), (1, av_r 0), (2, av_r 400), (3, av_r 500), (4, av_i (nI i))] ⟨rfl, rfl, rfl, rfl, rfl, trivial⟩ (hnext _ _ _ _ _ (lw_next (oa_at hI.1 hO) hN hR2 hfr) (by omega) (by omega))
set_option maxRecDepth 100000 in
set_option maxHeartbeats 4000000 in
theorem law_12 {p : Program} {l : Launch} {e : Env} {s : State} {m : MethodId} {b Lx : Nat} {xs : Nat → Int32} {below : List Frame} {meth : Method} {c0 : Code} {Q : State → Prop} {D : va_G} {tab : List ExceptionTableEntry} {A : Nat → Prop} (hls : l.stackTraces = false) (hX : va_X b Lx xs s s.heap) (hbl : b < s.heap.size) (hbA : ¬ A b) (hL : Lx ≤ 2560) {i : Nat} (hi : i + 5 ≤ Lx) {w : wd_T} {S : Nat → Nat → Int32} {L : Nat → Nat → Int64} (hI : lw_I w S) {kc ks : Nat} (hkc : kc + 3 ≤ 601024) (hks : ks + 20 ≤ 7293034)  (hnext : ∀ (w : wd_T) (S : Nat → Nat → Int32) (L : Nat → Nat → Int64) (kc1 ks1 : Nat), lw_I w S → kc1 ≤ kc + 3 → ks1 ≤ ks + 20 → jw_J p l e room_1 s m #[Value.ref b] below meth c0 Q D zn_L code 7 ret tab A w kc1 ks1 1187 [(0, av_a b), (1, av_r 0), (2, av_r 400), (3, av_r 500), (4, av_i (nI i))] [] S L) : jw_J p l e room_1 s m #[Value.ref b] below meth c0 Q D zn_L code 7 ret tab A w kc ks 778 [(0, av_a b), (1, av_r 0), (2, av_r 400), (3, av_r 500), (4, av_i (nI i))] [] S L := by
  have h12 := hI.1.1.1
  have h13 := hI.1.1.2.1
  refine jw_aload_n zd_L_law_778 rfl ?_
  refine jw_arg hX hbl hbA hL (i := i) (j := 1) (by omega) rfl rfl zd_L_law_779 zd_L_law_780 zd_L_law_782 (by decide) zd_L_law_783 zd_L_law_784 ?_
  refine jw_aload_n zd_L_law_785 rfl ?_
  refine jw_callSX (n := 3) (kc_Lbarred hls hI.1 (xs (i + 1))) rfl zi_580 zi_581 zi_40 zi_582 (by decide +kernel) rfl rfl rfl (by decide) (Nat.le_of_ble_eq_true rfl) ⟨by show _ ≤ 601024; omega, by show _ ≤ 7293034; omega⟩ zd_L_law_786 (fun _ _ _ h => h.elim) (fun v9 S1 L1 hq => ?_)
  obtain ⟨c, v, N, rfl, hO, hN, hL1, hv⟩ := hq
  have hR1 := lw_in hI hN (oh_barred hO)
  refine jw_istore zd_L_law_789 (by decide) ?_
  refine jw_aload_n zd_L_law_791 rfl ?_
  refine jw_arg hX hbl hbA hL (i := i) (j := 1) (by omega) rfl rfl zd_L_law_792 zd_L_law_793 zd_L_law_795 (by decide) zd_L_law_796 zd_L_law_797 ?_
  refine jw_callV (n := 1) (kc_Mbarred hls hI.1 hR1 hO) rfl rfl rfl (rl_m (by decide)) (by decide) zi_864 zi_865 zi_866 zi_44 zi_867 (by decide +kernel) rfl rfl rfl (by decide) (Nat.le_of_ble_eq_true rfl) ⟨by show _ ≤ 601024; omega, by show _ ≤ 7293034; omega⟩ zd_L_law_798 (fun _ _ _ h => h.elim) (fun v9 S2 L2 hq => ?_)
  obtain ⟨b9, rfl, hb9, hc, hR2, hfr, hsm⟩ := hq
  refine jw_istore zd_L_law_801 (by decide) ?_
  refine jw_aload_n zd_L_law_803 rfl ?_
  refine jw_callV (n := 0) (kc_thrown hls) rfl rfl rfl (rl_m (by decide)) (by decide) zi_759 zi_760 zi_761 zi_44 zi_762 (by decide +kernel) rfl rfl rfl (by decide) (Nat.le_of_ble_eq_true rfl) ⟨by show _ ≤ 601024; omega, by show _ ≤ 7293034; omega⟩ zd_L_law_804 (fun _ _ _ h => h.elim) (fun v8 S8 L8 hq => ?_)
  obtain ⟨rfl, rfl, rfl⟩ := hq
  rw [hc]
  refine jw_iload zd_L_law_807 rfl ?_
  refine jw_icmp_eq 814 zd_L_law_809 (by decide) (fun _ => ?_) (fun h => absurd rfl h)
  refine jw_iload zd_L_law_814 rfl ?_
  refine jw_if_ne 831 zd_L_law_816 (by decide) (fun h_816 => ?_) (fun h_816 => ?_)
  · refine jw_goto 1187 zd_L_law_831 (by decide) ?_
    exact jw_sub [(0, av_a b), (1, av_r 0), (2, av_r 400), (3, av_r 500), (4, av_i (nI i))] ⟨rfl, rfl, rfl, rfl, rfl, trivial⟩ (hnext _ _ _ _ _ (lw_next (oa_barred hI.1 hO) hN hR2 hfr) (by omega) (by omega))
  · refine jw_aload_n zd_L_law_819 rfl ?_
    refine jw_iconst (v := 0) zd_L_law_820 (by decide) ?_
    refine jw_lldN (r := 500) (c := 0) rfl rfl (by decide) (n := 1) (by decide) (rl_m (by decide)) (by decide) zd_L_law_821 ?_
    rw [hsm 500 (by decide) (by decide), hv h_816]
    refine jw_iload zd_L_law_822 rfl ?_
    refine jw_i2l zd_L_law_824 ?_
    refine jw_lcmp zd_L_law_825 ?_
    refine jw_if_eq 831 zd_L_law_826 (by decide) (fun _ => ?_) (fun h => absurd ((lg_cmp_eq _ _).mpr (by rw [hb9 h_816])) h)
    refine jw_goto 1187 zd_L_law_831 (by decide) ?_
    exact jw_sub [(0, av_a b), (1, av_r 0), (2, av_r 400), (3, av_r 500), (4, av_i (nI i))] ⟨rfl, rfl, rfl, rfl, rfl, trivial⟩ (hnext _ _ _ _ _ (lw_next (oa_barred hI.1 hO) hN hR2 hfr) (by omega) (by omega))
set_option maxRecDepth 100000 in
set_option maxHeartbeats 4000000 in
theorem law_13 {p : Program} {l : Launch} {e : Env} {s : State} {m : MethodId} {b Lx : Nat} {xs : Nat → Int32} {below : List Frame} {meth : Method} {c0 : Code} {Q : State → Prop} {D : va_G} {tab : List ExceptionTableEntry} {A : Nat → Prop} (hls : l.stackTraces = false) (hX : va_X b Lx xs s s.heap) (hbl : b < s.heap.size) (hbA : ¬ A b) (hL : Lx ≤ 2560) {i : Nat} (hi : i + 5 ≤ Lx) {w : wd_T} {S : Nat → Nat → Int32} {L : Nat → Nat → Int64} (hI : lw_I w S) {kc ks : Nat} (hkc : kc + 3 ≤ 601024) (hks : ks + 20 ≤ 7293034)  (hnext : ∀ (w : wd_T) (S : Nat → Nat → Int32) (L : Nat → Nat → Int64) (kc1 ks1 : Nat), lw_I w S → kc1 ≤ kc + 3 → ks1 ≤ ks + 20 → jw_J p l e room_1 s m #[Value.ref b] below meth c0 Q D zn_L code 7 ret tab A w kc1 ks1 1187 [(0, av_a b), (1, av_r 0), (2, av_r 400), (3, av_r 500), (4, av_i (nI i))] [] S L) : jw_J p l e room_1 s m #[Value.ref b] below meth c0 Q D zn_L code 7 ret tab A w kc ks 834 [(0, av_a b), (1, av_r 0), (2, av_r 400), (3, av_r 500), (4, av_i (nI i))] [] S L := by
  have h12 := hI.1.1.1
  have h13 := hI.1.1.2.1
  refine jw_aload_n zd_L_law_834 rfl ?_
  refine jw_arg hX hbl hbA hL (i := i) (j := 1) (by omega) rfl rfl zd_L_law_835 zd_L_law_836 zd_L_law_838 (by decide) zd_L_law_839 zd_L_law_840 ?_
  refine jw_aload_n zd_L_law_841 rfl ?_
  refine jw_callSX (n := 3) (kc_Lput hls hI.1 (xs (i + 1))) rfl zi_587 zi_588 zi_40 zi_589 (by decide +kernel) rfl rfl rfl (by decide) (Nat.le_of_ble_eq_true rfl) ⟨by show _ ≤ 601024; omega, by show _ ≤ 7293034; omega⟩ zd_L_law_842 (fun _ _ _ h => h.elim) (fun v9 S1 L1 hq => ?_)
  obtain ⟨c, v, N, rfl, hO, hN, hL1, hv⟩ := hq
  have hR1 := lw_in hI hN (oh_put h12 h13 hO)
  refine jw_istore zd_L_law_845 (by decide) ?_
  refine jw_aload_n zd_L_law_847 rfl ?_
  refine jw_arg hX hbl hbA hL (i := i) (j := 1) (by omega) rfl rfl zd_L_law_848 zd_L_law_849 zd_L_law_851 (by decide) zd_L_law_852 zd_L_law_853 ?_
  refine jw_callV (n := 1) (kc_Mput hls hI.1 hR1 hO) rfl rfl rfl (rl_m (by decide)) (by decide) zi_868 zi_869 zi_870 zi_44 zi_871 (by decide +kernel) rfl rfl rfl (by decide) (Nat.le_of_ble_eq_true rfl) ⟨by show _ ≤ 601024; omega, by show _ ≤ 7293034; omega⟩ zd_L_law_854 (fun _ _ _ h => h.elim) (fun v9 S2 L2 hq => ?_)
  obtain ⟨b9, rfl, hb9, hc, hR2, hfr, hsm⟩ := hq
  refine jw_istore zd_L_law_857 (by decide) ?_
  refine jw_aload_n zd_L_law_859 rfl ?_
  refine jw_callV (n := 0) (kc_thrown hls) rfl rfl rfl (rl_m (by decide)) (by decide) zi_759 zi_760 zi_761 zi_44 zi_762 (by decide +kernel) rfl rfl rfl (by decide) (Nat.le_of_ble_eq_true rfl) ⟨by show _ ≤ 601024; omega, by show _ ≤ 7293034; omega⟩ zd_L_law_860 (fun _ _ _ h => h.elim) (fun v8 S8 L8 hq => ?_)
  obtain ⟨rfl, rfl, rfl⟩ := hq
  rw [hc]
  refine jw_iload zd_L_law_863 rfl ?_
  refine jw_icmp_eq 870 zd_L_law_865 (by decide) (fun _ => ?_) (fun h => absurd rfl h)
  refine jw_iload zd_L_law_870 rfl ?_
  refine jw_if_ne 887 zd_L_law_872 (by decide) (fun h_872 => ?_) (fun h_872 => ?_)
  · refine jw_goto 1187 zd_L_law_887 (by decide) ?_
    exact jw_sub [(0, av_a b), (1, av_r 0), (2, av_r 400), (3, av_r 500), (4, av_i (nI i))] ⟨rfl, rfl, rfl, rfl, rfl, trivial⟩ (hnext _ _ _ _ _ (lw_next (oa_put hI.1 hO) hN hR2 hfr) (by omega) (by omega))
  · refine jw_aload_n zd_L_law_875 rfl ?_
    refine jw_iconst (v := 0) zd_L_law_876 (by decide) ?_
    refine jw_lldN (r := 500) (c := 0) rfl rfl (by decide) (n := 1) (by decide) (rl_m (by decide)) (by decide) zd_L_law_877 ?_
    rw [hsm 500 (by decide) (by decide), hv h_872]
    refine jw_iload zd_L_law_878 rfl ?_
    refine jw_i2l zd_L_law_880 ?_
    refine jw_lcmp zd_L_law_881 ?_
    refine jw_if_eq 887 zd_L_law_882 (by decide) (fun _ => ?_) (fun h => absurd ((lg_cmp_eq _ _).mpr (by rw [hb9 h_872])) h)
    refine jw_goto 1187 zd_L_law_887 (by decide) ?_
    exact jw_sub [(0, av_a b), (1, av_r 0), (2, av_r 400), (3, av_r 500), (4, av_i (nI i))] ⟨rfl, rfl, rfl, rfl, rfl, trivial⟩ (hnext _ _ _ _ _ (lw_next (oa_put hI.1 hO) hN hR2 hfr) (by omega) (by omega))
set_option maxRecDepth 100000 in
set_option maxHeartbeats 4000000 in
theorem law_14 {p : Program} {l : Launch} {e : Env} {s : State} {m : MethodId} {b Lx : Nat} {xs : Nat → Int32} {below : List Frame} {meth : Method} {c0 : Code} {Q : State → Prop} {D : va_G} {tab : List ExceptionTableEntry} {A : Nat → Prop} (hls : l.stackTraces = false) (hX : va_X b Lx xs s s.heap) (hbl : b < s.heap.size) (hbA : ¬ A b) (hL : Lx ≤ 2560) {i : Nat} (hi : i + 5 ≤ Lx) {w : wd_T} {S : Nat → Nat → Int32} {L : Nat → Nat → Int64} (hI : lw_I w S) {kc ks : Nat} (hkc : kc + 3 ≤ 601024) (hks : ks + 20 ≤ 7293034)  (hnext : ∀ (w : wd_T) (S : Nat → Nat → Int32) (L : Nat → Nat → Int64) (kc1 ks1 : Nat), lw_I w S → kc1 ≤ kc + 3 → ks1 ≤ ks + 20 → jw_J p l e room_1 s m #[Value.ref b] below meth c0 Q D zn_L code 7 ret tab A w kc1 ks1 1187 [(0, av_a b), (1, av_r 0), (2, av_r 400), (3, av_r 500), (4, av_i (nI i))] [] S L) : jw_J p l e room_1 s m #[Value.ref b] below meth c0 Q D zn_L code 7 ret tab A w kc ks 890 [(0, av_a b), (1, av_r 0), (2, av_r 400), (3, av_r 500), (4, av_i (nI i))] [] S L := by
  have h12 := hI.1.1.1
  have h13 := hI.1.1.2.1
  refine jw_aload_n zd_L_law_890 rfl ?_
  refine jw_arg hX hbl hbA hL (i := i) (j := 1) (by omega) rfl rfl zd_L_law_891 zd_L_law_892 zd_L_law_894 (by decide) zd_L_law_895 zd_L_law_896 ?_
  refine jw_aload_n zd_L_law_897 rfl ?_
  refine jw_callSX (n := 3) (kc_Lblock hls hI.1 (xs (i + 1))) rfl zi_603 zi_604 zi_40 zi_605 (by decide +kernel) rfl rfl rfl (by decide) (Nat.le_of_ble_eq_true rfl) ⟨by show _ ≤ 601024; omega, by show _ ≤ 7293034; omega⟩ zd_L_law_898 (fun _ _ _ h => h.elim) (fun v9 S1 L1 hq => ?_)
  obtain ⟨c, v, N, rfl, hO, hN, hL1, hv⟩ := hq
  have hR1 := lw_in hI hN (oh_block h12 h13 hO)
  refine jw_istore zd_L_law_901 (by decide) ?_
  refine jw_aload_n zd_L_law_903 rfl ?_
  refine jw_arg hX hbl hbA hL (i := i) (j := 1) (by omega) rfl rfl zd_L_law_904 zd_L_law_905 zd_L_law_907 (by decide) zd_L_law_908 zd_L_law_909 ?_
  refine jw_callV (n := 1) (kc_Mblock hls hI.1 hR1 hO) rfl rfl rfl (rl_m (by decide)) (by decide) zi_872 zi_873 zi_874 zi_44 zi_875 (by decide +kernel) rfl rfl rfl (by decide) (Nat.le_of_ble_eq_true rfl) ⟨by show _ ≤ 601024; omega, by show _ ≤ 7293034; omega⟩ zd_L_law_910 (fun _ _ _ h => h.elim) (fun v9 S2 L2 hq => ?_)
  obtain ⟨b9, rfl, hb9, hc, hR2, hfr, hsm⟩ := hq
  refine jw_istore zd_L_law_913 (by decide) ?_
  refine jw_aload_n zd_L_law_915 rfl ?_
  refine jw_callV (n := 0) (kc_thrown hls) rfl rfl rfl (rl_m (by decide)) (by decide) zi_759 zi_760 zi_761 zi_44 zi_762 (by decide +kernel) rfl rfl rfl (by decide) (Nat.le_of_ble_eq_true rfl) ⟨by show _ ≤ 601024; omega, by show _ ≤ 7293034; omega⟩ zd_L_law_916 (fun _ _ _ h => h.elim) (fun v8 S8 L8 hq => ?_)
  obtain ⟨rfl, rfl, rfl⟩ := hq
  rw [hc]
  refine jw_iload zd_L_law_919 rfl ?_
  refine jw_icmp_eq 926 zd_L_law_921 (by decide) (fun _ => ?_) (fun h => absurd rfl h)
  refine jw_iload zd_L_law_926 rfl ?_
  refine jw_if_ne 943 zd_L_law_928 (by decide) (fun h_928 => ?_) (fun h_928 => ?_)
  · refine jw_goto 1187 zd_L_law_943 (by decide) ?_
    exact jw_sub [(0, av_a b), (1, av_r 0), (2, av_r 400), (3, av_r 500), (4, av_i (nI i))] ⟨rfl, rfl, rfl, rfl, rfl, trivial⟩ (hnext _ _ _ _ _ (lw_next (oa_block hI.1 hO) hN hR2 hfr) (by omega) (by omega))
  · refine jw_aload_n zd_L_law_931 rfl ?_
    refine jw_iconst (v := 0) zd_L_law_932 (by decide) ?_
    refine jw_lldN (r := 500) (c := 0) rfl rfl (by decide) (n := 1) (by decide) (rl_m (by decide)) (by decide) zd_L_law_933 ?_
    rw [hsm 500 (by decide) (by decide), hv h_928]
    refine jw_iload zd_L_law_934 rfl ?_
    refine jw_i2l zd_L_law_936 ?_
    refine jw_lcmp zd_L_law_937 ?_
    refine jw_if_eq 943 zd_L_law_938 (by decide) (fun _ => ?_) (fun h => absurd ((lg_cmp_eq _ _).mpr (by rw [hb9 h_928])) h)
    refine jw_goto 1187 zd_L_law_943 (by decide) ?_
    exact jw_sub [(0, av_a b), (1, av_r 0), (2, av_r 400), (3, av_r 500), (4, av_i (nI i))] ⟨rfl, rfl, rfl, rfl, rfl, trivial⟩ (hnext _ _ _ _ _ (lw_next (oa_block hI.1 hO) hN hR2 hfr) (by omega) (by omega))
set_option maxRecDepth 100000 in
set_option maxHeartbeats 4000000 in
theorem law_15 {p : Program} {l : Launch} {e : Env} {s : State} {m : MethodId} {b Lx : Nat} {xs : Nat → Int32} {below : List Frame} {meth : Method} {c0 : Code} {Q : State → Prop} {D : va_G} {tab : List ExceptionTableEntry} {A : Nat → Prop} (hls : l.stackTraces = false) (hX : va_X b Lx xs s s.heap) (hbl : b < s.heap.size) (hbA : ¬ A b) (hL : Lx ≤ 2560) {i : Nat} (hi : i + 5 ≤ Lx) {w : wd_T} {S : Nat → Nat → Int32} {L : Nat → Nat → Int64} (hI : lw_I w S) {kc ks : Nat} (hkc : kc + 3 ≤ 601024) (hks : ks + 20 ≤ 7293034)  (hnext : ∀ (w : wd_T) (S : Nat → Nat → Int32) (L : Nat → Nat → Int64) (kc1 ks1 : Nat), lw_I w S → kc1 ≤ kc + 3 → ks1 ≤ ks + 20 → jw_J p l e room_1 s m #[Value.ref b] below meth c0 Q D zn_L code 7 ret tab A w kc1 ks1 1187 [(0, av_a b), (1, av_r 0), (2, av_r 400), (3, av_r 500), (4, av_i (nI i))] [] S L) : jw_J p l e room_1 s m #[Value.ref b] below meth c0 Q D zn_L code 7 ret tab A w kc ks 946 [(0, av_a b), (1, av_r 0), (2, av_r 400), (3, av_r 500), (4, av_i (nI i))] [] S L := by
  have h12 := hI.1.1.1
  have h13 := hI.1.1.2.1
  refine jw_aload_n zd_L_law_946 rfl ?_
  refine jw_arg hX hbl hbA hL (i := i) (j := 1) (by omega) rfl rfl zd_L_law_947 zd_L_law_948 zd_L_law_950 (by decide) zd_L_law_951 zd_L_law_952 ?_
  refine jw_callSX (n := 2) (kc_Lopen hls hI.1 (xs (i + 1))) rfl zi_619 zi_620 zi_40 zi_621 (by decide +kernel) rfl rfl rfl (by decide) (Nat.le_of_ble_eq_true rfl) ⟨by show _ ≤ 601024; omega, by show _ ≤ 7293034; omega⟩ zd_L_law_953 (fun _ _ _ h => h.elim) (fun v9 S1 L1 hq => ?_)
  obtain ⟨c, v, N, rfl, hO, hN, hL1⟩ := hq
  have hR1 := lw_in hI hN (oh_open h13 hO)
  refine jw_istore zd_L_law_956 (by decide) ?_
  refine jw_aload_n zd_L_law_958 rfl ?_
  refine jw_arg hX hbl hbA hL (i := i) (j := 1) (by omega) rfl rfl zd_L_law_959 zd_L_law_960 zd_L_law_962 (by decide) zd_L_law_963 zd_L_law_964 ?_
  refine jw_callV (n := 1) (kc_Mopen hls hI.1 hR1 hO) rfl rfl rfl (rl_m (by decide)) (by decide) zi_880 zi_881 zi_882 zi_44 zi_883 (by decide +kernel) rfl rfl rfl (by decide) (Nat.le_of_ble_eq_true rfl) ⟨by show _ ≤ 601024; omega, by show _ ≤ 7293034; omega⟩ zd_L_law_965 (fun _ _ _ h => h.elim) (fun v9 S2 L2 hq => ?_)
  obtain ⟨rfl, hc, hR2, hfr, hsm⟩ := hq
  refine jw_aload_n zd_L_law_968 rfl ?_
  refine jw_callV (n := 0) (kc_thrown hls) rfl rfl rfl (rl_m (by decide)) (by decide) zi_759 zi_760 zi_761 zi_44 zi_762 (by decide +kernel) rfl rfl rfl (by decide) (Nat.le_of_ble_eq_true rfl) ⟨by show _ ≤ 601024; omega, by show _ ≤ 7293034; omega⟩ zd_L_law_969 (fun _ _ _ h => h.elim) (fun v8 S8 L8 hq => ?_)
  obtain ⟨rfl, rfl, rfl⟩ := hq
  rw [hc]
  refine jw_iload zd_L_law_972 rfl ?_
  refine jw_icmp_eq 979 zd_L_law_974 (by decide) (fun _ => ?_) (fun h => absurd rfl h)
  refine jw_goto 1187 zd_L_law_979 (by decide) ?_
  exact jw_sub [(0, av_a b), (1, av_r 0), (2, av_r 400), (3, av_r 500), (4, av_i (nI i))] ⟨rfl, rfl, rfl, rfl, rfl, trivial⟩ (hnext _ _ _ _ _ (lw_next (oa_open hI.1 hO) hN hR2 hfr) (by omega) (by omega))
set_option maxRecDepth 100000 in
set_option maxHeartbeats 4000000 in
theorem law_16 {p : Program} {l : Launch} {e : Env} {s : State} {m : MethodId} {b Lx : Nat} {xs : Nat → Int32} {below : List Frame} {meth : Method} {c0 : Code} {Q : State → Prop} {D : va_G} {tab : List ExceptionTableEntry} {A : Nat → Prop} (hls : l.stackTraces = false) (hX : va_X b Lx xs s s.heap) (hbl : b < s.heap.size) (hbA : ¬ A b) (hL : Lx ≤ 2560) {i : Nat} (hi : i + 5 ≤ Lx) {w : wd_T} {S : Nat → Nat → Int32} {L : Nat → Nat → Int64} (hI : lw_I w S) {kc ks : Nat} (hkc : kc + 3 ≤ 601024) (hks : ks + 20 ≤ 7293034)  (hnext : ∀ (w : wd_T) (S : Nat → Nat → Int32) (L : Nat → Nat → Int64) (kc1 ks1 : Nat), lw_I w S → kc1 ≤ kc + 3 → ks1 ≤ ks + 20 → jw_J p l e room_1 s m #[Value.ref b] below meth c0 Q D zn_L code 7 ret tab A w kc1 ks1 1187 [(0, av_a b), (1, av_r 0), (2, av_r 400), (3, av_r 500), (4, av_i (nI i))] [] S L) : jw_J p l e room_1 s m #[Value.ref b] below meth c0 Q D zn_L code 7 ret tab A w kc ks 982 [(0, av_a b), (1, av_r 0), (2, av_r 400), (3, av_r 500), (4, av_i (nI i))] [] S L := by
  have h12 := hI.1.1.1
  have h13 := hI.1.1.2.1
  refine jw_aload_n zd_L_law_982 rfl ?_
  refine jw_arg hX hbl hbA hL (i := i) (j := 1) (by omega) rfl rfl zd_L_law_983 zd_L_law_984 zd_L_law_986 (by decide) zd_L_law_987 zd_L_law_988 ?_
  refine jw_aload_n zd_L_law_989 rfl ?_
  refine jw_callSX (n := 3) (kc_Lshare hls hI.1 (xs (i + 1))) rfl zi_627 zi_628 zi_40 zi_629 (by decide +kernel) rfl rfl rfl (by decide) (Nat.le_of_ble_eq_true rfl) ⟨by show _ ≤ 601024; omega, by show _ ≤ 7293034; omega⟩ zd_L_law_990 (fun _ _ _ h => h.elim) (fun v9 S1 L1 hq => ?_)
  obtain ⟨c, v, N, rfl, hO, hN, hL1, hv⟩ := hq
  have hR1 := lw_in hI hN (oh_share hO)
  refine jw_istore zd_L_law_993 (by decide) ?_
  refine jw_aload_n zd_L_law_995 rfl ?_
  refine jw_arg hX hbl hbA hL (i := i) (j := 1) (by omega) rfl rfl zd_L_law_996 zd_L_law_997 zd_L_law_999 (by decide) zd_L_law_1000 zd_L_law_1001 ?_
  refine jw_callV (n := 1) (kc_Mshare hls hI.1 hR1 hO) rfl rfl rfl (rl_m (by decide)) (by decide) zi_884 zi_885 zi_886 zi_44 zi_887 (by decide +kernel) rfl rfl rfl (by decide) (Nat.le_of_ble_eq_true rfl) ⟨by show _ ≤ 601024; omega, by show _ ≤ 7293034; omega⟩ zd_L_law_1002 (fun _ _ _ h => h.elim) (fun v9 S2 L2 hq => ?_)
  obtain ⟨b9, rfl, hb9, hc, hR2, hfr, hsm⟩ := hq
  refine jw_istore zd_L_law_1005 (by decide) ?_
  refine jw_aload_n zd_L_law_1007 rfl ?_
  refine jw_callV (n := 0) (kc_thrown hls) rfl rfl rfl (rl_m (by decide)) (by decide) zi_759 zi_760 zi_761 zi_44 zi_762 (by decide +kernel) rfl rfl rfl (by decide) (Nat.le_of_ble_eq_true rfl) ⟨by show _ ≤ 601024; omega, by show _ ≤ 7293034; omega⟩ zd_L_law_1008 (fun _ _ _ h => h.elim) (fun v8 S8 L8 hq => ?_)
  obtain ⟨rfl, rfl, rfl⟩ := hq
  rw [hc]
  refine jw_iload zd_L_law_1011 rfl ?_
  refine jw_icmp_eq 1018 zd_L_law_1013 (by decide) (fun _ => ?_) (fun h => absurd rfl h)
  refine jw_iload zd_L_law_1018 rfl ?_
  refine jw_if_ne 1035 zd_L_law_1020 (by decide) (fun h_1020 => ?_) (fun h_1020 => ?_)
  · refine jw_goto 1187 zd_L_law_1035 (by decide) ?_
    exact jw_sub [(0, av_a b), (1, av_r 0), (2, av_r 400), (3, av_r 500), (4, av_i (nI i))] ⟨rfl, rfl, rfl, rfl, rfl, trivial⟩ (hnext _ _ _ _ _ (lw_next (oa_share hI.1 hO) hN hR2 hfr) (by omega) (by omega))
  · refine jw_aload_n zd_L_law_1023 rfl ?_
    refine jw_iconst (v := 0) zd_L_law_1024 (by decide) ?_
    refine jw_lldN (r := 500) (c := 0) rfl rfl (by decide) (n := 1) (by decide) (rl_m (by decide)) (by decide) zd_L_law_1025 ?_
    rw [hsm 500 (by decide) (by decide), hv h_1020]
    refine jw_iload zd_L_law_1026 rfl ?_
    refine jw_i2l zd_L_law_1028 ?_
    refine jw_lcmp zd_L_law_1029 ?_
    refine jw_if_eq 1035 zd_L_law_1030 (by decide) (fun _ => ?_) (fun h => absurd ((lg_cmp_eq _ _).mpr (by rw [hb9 h_1020])) h)
    refine jw_goto 1187 zd_L_law_1035 (by decide) ?_
    exact jw_sub [(0, av_a b), (1, av_r 0), (2, av_r 400), (3, av_r 500), (4, av_i (nI i))] ⟨rfl, rfl, rfl, rfl, rfl, trivial⟩ (hnext _ _ _ _ _ (lw_next (oa_share hI.1 hO) hN hR2 hfr) (by omega) (by omega))
set_option maxRecDepth 100000 in
set_option maxHeartbeats 4000000 in
theorem law_17 {p : Program} {l : Launch} {e : Env} {s : State} {m : MethodId} {b Lx : Nat} {xs : Nat → Int32} {below : List Frame} {meth : Method} {c0 : Code} {Q : State → Prop} {D : va_G} {tab : List ExceptionTableEntry} {A : Nat → Prop} (hls : l.stackTraces = false) (hX : va_X b Lx xs s s.heap) (hbl : b < s.heap.size) (hbA : ¬ A b) (hL : Lx ≤ 2560) {i : Nat} (hi : i + 5 ≤ Lx) {w : wd_T} {S : Nat → Nat → Int32} {L : Nat → Nat → Int64} (hI : lw_I w S) {kc ks : Nat} (hkc : kc + 3 ≤ 601024) (hks : ks + 20 ≤ 7293034)  (hnext : ∀ (w : wd_T) (S : Nat → Nat → Int32) (L : Nat → Nat → Int64) (kc1 ks1 : Nat), lw_I w S → kc1 ≤ kc + 3 → ks1 ≤ ks + 20 → jw_J p l e room_1 s m #[Value.ref b] below meth c0 Q D zn_L code 7 ret tab A w kc1 ks1 1187 [(0, av_a b), (1, av_r 0), (2, av_r 400), (3, av_r 500), (4, av_i (nI i))] [] S L) : jw_J p l e room_1 s m #[Value.ref b] below meth c0 Q D zn_L code 7 ret tab A w kc ks 1038 [(0, av_a b), (1, av_r 0), (2, av_r 400), (3, av_r 500), (4, av_i (nI i))] [] S L := by
  have h12 := hI.1.1.1
  have h13 := hI.1.1.2.1
  refine jw_aload_n zd_L_law_1038 rfl ?_
  refine jw_arg hX hbl hbA hL (i := i) (j := 1) (by omega) rfl rfl zd_L_law_1039 zd_L_law_1040 zd_L_law_1042 (by decide) zd_L_law_1043 zd_L_law_1044 ?_
  refine jw_aload_n zd_L_law_1045 rfl ?_
  refine jw_callSX (n := 3) (kc_Ltrip hls hI.1 (xs (i + 1))) rfl zi_655 zi_656 zi_40 zi_657 (by decide +kernel) rfl rfl rfl (by decide) (Nat.le_of_ble_eq_true rfl) ⟨by show _ ≤ 601024; omega, by show _ ≤ 7293034; omega⟩ zd_L_law_1046 (fun _ _ _ h => h.elim) (fun v9 S1 L1 hq => ?_)
  obtain ⟨c, v, N, rfl, hO, hN, hL1, hv⟩ := hq
  have hR1 := lw_in hI hN (oh_trip hO)
  refine jw_istore zd_L_law_1049 (by decide) ?_
  refine jw_aload_n zd_L_law_1051 rfl ?_
  refine jw_arg hX hbl hbA hL (i := i) (j := 1) (by omega) rfl rfl zd_L_law_1052 zd_L_law_1053 zd_L_law_1055 (by decide) zd_L_law_1056 zd_L_law_1057 ?_
  refine jw_callV (n := 1) (kc_Mtrip hls hI.1 hR1 hO) rfl rfl rfl (rl_m (by decide)) (by decide) zi_888 zi_889 zi_890 zi_44 zi_891 (by decide +kernel) rfl rfl rfl (by decide) (Nat.le_of_ble_eq_true rfl) ⟨by show _ ≤ 601024; omega, by show _ ≤ 7293034; omega⟩ zd_L_law_1058 (fun _ _ _ h => h.elim) (fun v9 S2 L2 hq => ?_)
  obtain ⟨b9, rfl, hb9, hc, hR2, hfr, hsm⟩ := hq
  refine jw_istore zd_L_law_1061 (by decide) ?_
  refine jw_aload_n zd_L_law_1063 rfl ?_
  refine jw_callV (n := 0) (kc_thrown hls) rfl rfl rfl (rl_m (by decide)) (by decide) zi_759 zi_760 zi_761 zi_44 zi_762 (by decide +kernel) rfl rfl rfl (by decide) (Nat.le_of_ble_eq_true rfl) ⟨by show _ ≤ 601024; omega, by show _ ≤ 7293034; omega⟩ zd_L_law_1064 (fun _ _ _ h => h.elim) (fun v8 S8 L8 hq => ?_)
  obtain ⟨rfl, rfl, rfl⟩ := hq
  rw [hc]
  refine jw_iload zd_L_law_1067 rfl ?_
  refine jw_icmp_eq 1074 zd_L_law_1069 (by decide) (fun _ => ?_) (fun h => absurd rfl h)
  refine jw_iload zd_L_law_1074 rfl ?_
  refine jw_if_ne 1091 zd_L_law_1076 (by decide) (fun h_1076 => ?_) (fun h_1076 => ?_)
  · refine jw_goto 1187 zd_L_law_1091 (by decide) ?_
    exact jw_sub [(0, av_a b), (1, av_r 0), (2, av_r 400), (3, av_r 500), (4, av_i (nI i))] ⟨rfl, rfl, rfl, rfl, rfl, trivial⟩ (hnext _ _ _ _ _ (lw_next (oa_trip hI.1 hO) hN hR2 hfr) (by omega) (by omega))
  · refine jw_aload_n zd_L_law_1079 rfl ?_
    refine jw_iconst (v := 0) zd_L_law_1080 (by decide) ?_
    refine jw_lldN (r := 500) (c := 0) rfl rfl (by decide) (n := 1) (by decide) (rl_m (by decide)) (by decide) zd_L_law_1081 ?_
    rw [hsm 500 (by decide) (by decide), hv h_1076]
    refine jw_iload zd_L_law_1082 rfl ?_
    refine jw_i2l zd_L_law_1084 ?_
    refine jw_lcmp zd_L_law_1085 ?_
    refine jw_if_eq 1091 zd_L_law_1086 (by decide) (fun _ => ?_) (fun h => absurd ((lg_cmp_eq _ _).mpr (by rw [hb9 h_1076])) h)
    refine jw_goto 1187 zd_L_law_1091 (by decide) ?_
    exact jw_sub [(0, av_a b), (1, av_r 0), (2, av_r 400), (3, av_r 500), (4, av_i (nI i))] ⟨rfl, rfl, rfl, rfl, rfl, trivial⟩ (hnext _ _ _ _ _ (lw_next (oa_trip hI.1 hO) hN hR2 hfr) (by omega) (by omega))
set_option maxRecDepth 100000 in
set_option maxHeartbeats 4000000 in
theorem law_18 {p : Program} {l : Launch} {e : Env} {s : State} {m : MethodId} {b Lx : Nat} {xs : Nat → Int32} {below : List Frame} {meth : Method} {c0 : Code} {Q : State → Prop} {D : va_G} {tab : List ExceptionTableEntry} {A : Nat → Prop} (hls : l.stackTraces = false) (hX : va_X b Lx xs s s.heap) (hbl : b < s.heap.size) (hbA : ¬ A b) (hL : Lx ≤ 2560) {i : Nat} (hi : i + 5 ≤ Lx) {w : wd_T} {S : Nat → Nat → Int32} {L : Nat → Nat → Int64} (hI : lw_I w S) {kc ks : Nat} (hkc : kc + 3 ≤ 601024) (hks : ks + 20 ≤ 7293034)  (hnext : ∀ (w : wd_T) (S : Nat → Nat → Int32) (L : Nat → Nat → Int64) (kc1 ks1 : Nat), lw_I w S → kc1 ≤ kc + 3 → ks1 ≤ ks + 20 → jw_J p l e room_1 s m #[Value.ref b] below meth c0 Q D zn_L code 7 ret tab A w kc1 ks1 1187 [(0, av_a b), (1, av_r 0), (2, av_r 400), (3, av_r 500), (4, av_i (nI i))] [] S L) : jw_J p l e room_1 s m #[Value.ref b] below meth c0 Q D zn_L code 7 ret tab A w kc ks 1094 [(0, av_a b), (1, av_r 0), (2, av_r 400), (3, av_r 500), (4, av_i (nI i))] [] S L := by
  have h12 := hI.1.1.1
  have h13 := hI.1.1.2.1
  refine jw_aload_n zd_L_law_1094 rfl ?_
  refine jw_arg hX hbl hbA hL (i := i) (j := 1) (by omega) rfl rfl zd_L_law_1095 zd_L_law_1096 zd_L_law_1098 (by decide) zd_L_law_1099 zd_L_law_1100 ?_
  refine jw_arg hX hbl hbA hL (i := i) (j := 2) (by omega) rfl rfl zd_L_law_1101 zd_L_law_1102 zd_L_law_1104 (by decide) zd_L_law_1105 zd_L_law_1106 ?_
  refine jw_aload_n zd_L_law_1107 rfl ?_
  refine jw_callSX (n := 4) (kc_Ltold hls hI.1 (xs (i + 1)) (xs (i + 2))) rfl zi_666 zi_667 zi_40 zi_668 (by decide +kernel) rfl rfl rfl (by decide) (Nat.le_of_ble_eq_true rfl) ⟨by show _ ≤ 601024; omega, by show _ ≤ 7293034; omega⟩ zd_L_law_1108 (fun _ _ _ h => h.elim) (fun v9 S1 L1 hq => ?_)
  obtain ⟨c, v, N, rfl, hO, hN, hL1, hv⟩ := hq
  have hR1 := lw_in hI hN (oh_told hO)
  refine jw_istore zd_L_law_1111 (by decide) ?_
  refine jw_aload_n zd_L_law_1113 rfl ?_
  refine jw_arg hX hbl hbA hL (i := i) (j := 1) (by omega) rfl rfl zd_L_law_1114 zd_L_law_1115 zd_L_law_1117 (by decide) zd_L_law_1118 zd_L_law_1119 ?_
  refine jw_arg hX hbl hbA hL (i := i) (j := 2) (by omega) rfl rfl zd_L_law_1120 zd_L_law_1121 zd_L_law_1123 (by decide) zd_L_law_1124 zd_L_law_1125 ?_
  refine jw_callV (n := 2) (kc_Mtold hls hI.1 hR1 hO) rfl rfl rfl (rl_m (by decide)) (by decide) zi_896 zi_897 zi_898 zi_44 zi_899 (by decide +kernel) rfl rfl rfl (by decide) (Nat.le_of_ble_eq_true rfl) ⟨by show _ ≤ 601024; omega, by show _ ≤ 7293034; omega⟩ zd_L_law_1126 (fun _ _ _ h => h.elim) (fun v9 S2 L2 hq => ?_)
  obtain ⟨b9, rfl, hb9, hc, hR2, hfr, hsm⟩ := hq
  refine jw_istore zd_L_law_1129 (by decide) ?_
  refine jw_aload_n zd_L_law_1131 rfl ?_
  refine jw_callV (n := 0) (kc_thrown hls) rfl rfl rfl (rl_m (by decide)) (by decide) zi_759 zi_760 zi_761 zi_44 zi_762 (by decide +kernel) rfl rfl rfl (by decide) (Nat.le_of_ble_eq_true rfl) ⟨by show _ ≤ 601024; omega, by show _ ≤ 7293034; omega⟩ zd_L_law_1132 (fun _ _ _ h => h.elim) (fun v8 S8 L8 hq => ?_)
  obtain ⟨rfl, rfl, rfl⟩ := hq
  rw [hc]
  refine jw_iload zd_L_law_1135 rfl ?_
  refine jw_icmp_eq 1142 zd_L_law_1137 (by decide) (fun _ => ?_) (fun h => absurd rfl h)
  refine jw_iload zd_L_law_1142 rfl ?_
  refine jw_if_ne 1159 zd_L_law_1144 (by decide) (fun h_1144 => ?_) (fun h_1144 => ?_)
  · refine jw_goto 1187 zd_L_law_1159 (by decide) ?_
    exact jw_sub [(0, av_a b), (1, av_r 0), (2, av_r 400), (3, av_r 500), (4, av_i (nI i))] ⟨rfl, rfl, rfl, rfl, rfl, trivial⟩ (hnext _ _ _ _ _ (lw_next (oa_told hI.1 hO) hN hR2 hfr) (by omega) (by omega))
  · refine jw_aload_n zd_L_law_1147 rfl ?_
    refine jw_iconst (v := 0) zd_L_law_1148 (by decide) ?_
    refine jw_lldN (r := 500) (c := 0) rfl rfl (by decide) (n := 1) (by decide) (rl_m (by decide)) (by decide) zd_L_law_1149 ?_
    rw [hsm 500 (by decide) (by decide), hv h_1144]
    refine jw_iload zd_L_law_1150 rfl ?_
    refine jw_i2l zd_L_law_1152 ?_
    refine jw_lcmp zd_L_law_1153 ?_
    refine jw_if_eq 1159 zd_L_law_1154 (by decide) (fun _ => ?_) (fun h => absurd ((lg_cmp_eq _ _).mpr (by rw [hb9 h_1144])) h)
    refine jw_goto 1187 zd_L_law_1159 (by decide) ?_
    exact jw_sub [(0, av_a b), (1, av_r 0), (2, av_r 400), (3, av_r 500), (4, av_i (nI i))] ⟨rfl, rfl, rfl, rfl, rfl, trivial⟩ (hnext _ _ _ _ _ (lw_next (oa_told hI.1 hO) hN hR2 hfr) (by omega) (by omega))
set_option maxRecDepth 100000 in
set_option maxHeartbeats 4000000 in
theorem law_10 {p : Program} {l : Launch} {e : Env} {s : State} {m : MethodId} {b Lx : Nat} {xs : Nat → Int32} {below : List Frame} {meth : Method} {c0 : Code} {Q : State → Prop} {D : va_G} {tab : List ExceptionTableEntry} {A : Nat → Prop} (hls : l.stackTraces = false) (hX : va_X b Lx xs s s.heap) (hbl : b < s.heap.size) (hbA : ¬ A b) (hL : Lx ≤ 2560) {i : Nat} (hi : i + 5 ≤ Lx) {w : wd_T} {S : Nat → Nat → Int32} {L : Nat → Nat → Int64} (hI : lw_I w S) {kc ks : Nat} (hkc : kc + 3 ≤ 601024) (hks : ks + 20 ≤ 7293034) (hnext : ∀ (w : wd_T) (S : Nat → Nat → Int32) (L : Nat → Nat → Int64) (kc1 ks1 : Nat), lw_I w S → kc1 ≤ kc + 3 → ks1 ≤ ks + 20 → jw_J p l e room_1 s m #[Value.ref b] below meth c0 Q D zn_L code 7 ret tab A w kc1 ks1 1187 [(0, av_a b), (1, av_r 0), (2, av_r 400), (3, av_r 500), (4, av_i (nI i))] [] S L) : jw_J p l e room_1 s m #[Value.ref b] below meth c0 Q D zn_L code 7 ret tab A w kc ks 752 [(0, av_a b), (1, av_r 0), (2, av_r 400), (3, av_r 500), (4, av_i (nI i))] [] S L := by
  have h12 := hI.1.1.1
  have h13 := hI.1.1.2.1
  refine jw_aload_n zd_L_law_752 rfl ?_
  refine jw_callV (n := 0) (kc_exact hls (by rcases hI.1.2.2.2.2.2.2.2.1 with q | q <;> rw [q] <;> decide)) rfl rfl rfl rfl (by decide) zi_176 zi_177 zi_178 zi_41 zi_179 (by decide +kernel) rfl rfl rfl (by decide) (Nat.le_of_ble_eq_true rfl) ⟨by show _ ≤ 601024; omega, by show _ ≤ 7293034; omega⟩ zd_L_law_753 (fun _ _ _ h => h.elim) (fun v9 S1 L1 hq => ?_)
  obtain ⟨rfl, rfl, rfl⟩ := hq
  refine jw_aload_n zd_L_law_756 rfl ?_
  refine jw_callV (n := 0) (kc_Mexact hls hI.1 hI.2) rfl rfl rfl (rl_m (by decide)) (by decide) zi_856 zi_857 zi_858 zi_44 zi_859 (by decide +kernel) rfl rfl rfl (by decide) (Nat.le_of_ble_eq_true rfl) ⟨by show _ ≤ 601024; omega, by show _ ≤ 7293034; omega⟩ zd_L_law_757 (fun _ _ _ h => h.elim) (fun v9 S2 L2 hq => ?_)
  obtain ⟨b9, rfl, hb9, hc, hR2, hfr, hsm⟩ := hq
  refine jw_icmp_eq 1187 zd_L_law_760 (by decide) (fun _ => ?_) (fun h => absurd (hb9 rfl).symm h)
  exact jw_sub [(0, av_a b), (1, av_r 0), (2, av_r 400), (3, av_r 500), (4, av_i (nI i))] ⟨rfl, rfl, rfl, rfl, rfl, trivial⟩ (hnext _ _ _ _ _ (lw_next hI.1 (sw_refl _) hR2 hfr) (by omega) (by omega))
set_option maxRecDepth 100000 in
set_option maxHeartbeats 4000000 in
theorem law_11 {p : Program} {l : Launch} {e : Env} {s : State} {m : MethodId} {b Lx : Nat} {xs : Nat → Int32} {below : List Frame} {meth : Method} {c0 : Code} {Q : State → Prop} {D : va_G} {tab : List ExceptionTableEntry} {A : Nat → Prop} (hls : l.stackTraces = false) (hX : va_X b Lx xs s s.heap) (hbl : b < s.heap.size) (hbA : ¬ A b) (hL : Lx ≤ 2560) {i : Nat} (hi : i + 5 ≤ Lx) {w : wd_T} {S : Nat → Nat → Int32} {L : Nat → Nat → Int64} (hI : lw_I w S) {kc ks : Nat} (hkc : kc + 3 ≤ 601024) (hks : ks + 20 ≤ 7293034) (hnext : ∀ (w : wd_T) (S : Nat → Nat → Int32) (L : Nat → Nat → Int64) (kc1 ks1 : Nat), lw_I w S → kc1 ≤ kc + 3 → ks1 ≤ ks + 20 → jw_J p l e room_1 s m #[Value.ref b] below meth c0 Q D zn_L code 7 ret tab A w kc1 ks1 1187 [(0, av_a b), (1, av_r 0), (2, av_r 400), (3, av_r 500), (4, av_i (nI i))] [] S L) : jw_J p l e room_1 s m #[Value.ref b] below meth c0 Q D zn_L code 7 ret tab A w kc ks 765 [(0, av_a b), (1, av_r 0), (2, av_r 400), (3, av_r 500), (4, av_i (nI i))] [] S L := by
  have h12 := hI.1.1.1
  have h13 := hI.1.1.2.1
  refine jw_aload_n zd_L_law_765 rfl ?_
  refine jw_callV (n := 0) (kc_bound hls hI.1.1 hI.1.2.1) rfl rfl rfl rfl (by decide) zi_180 zi_181 zi_182 zi_41 zi_183 (by decide +kernel) rfl rfl rfl (by decide) (Nat.le_of_ble_eq_true rfl) ⟨by show _ ≤ 601024; omega, by show _ ≤ 7293034; omega⟩ zd_L_law_766 (fun _ _ _ h => h.elim) (fun v9 S1 L1 hq => ?_)
  obtain ⟨rfl, hN, hL1⟩ := hq
  have hR1 := lw_in hI hN (fun _ _ => rfl)
  refine jw_aload_n zd_L_law_769 rfl ?_
  refine jw_callV (n := 0) (kc_Mbound hls hI.1 hR1) rfl rfl rfl (rl_m (by decide)) (by decide) zi_860 zi_861 zi_862 zi_44 zi_863 (by decide +kernel) rfl rfl rfl (by decide) (Nat.le_of_ble_eq_true rfl) ⟨by show _ ≤ 601024; omega, by show _ ≤ 7293034; omega⟩ zd_L_law_770 (fun _ _ _ h => h.elim) (fun v9 S2 L2 hq => ?_)
  obtain ⟨b9, rfl, hb9, hc, hR2, hfr, hsm⟩ := hq
  refine jw_icmp_eq 1187 zd_L_law_773 (by decide) (fun _ => ?_) (fun h => absurd (hb9 rfl).symm h)
  exact jw_sub [(0, av_a b), (1, av_r 0), (2, av_r 400), (3, av_r 500), (4, av_i (nI i))] ⟨rfl, rfl, rfl, rfl, rfl, trivial⟩ (hnext _ _ _ _ _ (lw_next hI.1 hN hR2 hfr) (by omega) (by omega))
set_option maxRecDepth 100000 in
set_option maxHeartbeats 4000000 in
theorem law_19 {p : Program} {l : Launch} {e : Env} {s : State} {m : MethodId} {b Lx : Nat} {xs : Nat → Int32} {below : List Frame} {meth : Method} {c0 : Code} {Q : State → Prop} {D : va_G} {tab : List ExceptionTableEntry} {A : Nat → Prop} (hls : l.stackTraces = false) (hX : va_X b Lx xs s s.heap) (hbl : b < s.heap.size) (hbA : ¬ A b) (hL : Lx ≤ 2560) {i : Nat} (hi : i + 5 ≤ Lx) {w : wd_T} {S : Nat → Nat → Int32} {L : Nat → Nat → Int64} (hI : lw_I w S) {kc ks : Nat} (hkc : kc + 3 ≤ 601024) (hks : ks + 20 ≤ 7293034) (hnext : ∀ (w : wd_T) (S : Nat → Nat → Int32) (L : Nat → Nat → Int64) (kc1 ks1 : Nat), lw_I w S → kc1 ≤ kc + 3 → ks1 ≤ ks + 20 → jw_J p l e room_1 s m #[Value.ref b] below meth c0 Q D zn_L code 7 ret tab A w kc1 ks1 1187 [(0, av_a b), (1, av_r 0), (2, av_r 400), (3, av_r 500), (4, av_i (nI i))] [] S L) : jw_J p l e room_1 s m #[Value.ref b] below meth c0 Q D zn_L code 7 ret tab A w kc ks 1162 [(0, av_a b), (1, av_r 0), (2, av_r 400), (3, av_r 500), (4, av_i (nI i))] [] S L := by
  have h12 := hI.1.1.1
  have h13 := hI.1.1.2.1
  refine jw_aload_n zd_L_law_1162 rfl ?_
  refine jw_arg hX hbl hbA hL (i := i) (j := 1) (by omega) rfl rfl zd_L_law_1163 zd_L_law_1164 zd_L_law_1166 (by decide) zd_L_law_1167 zd_L_law_1168 ?_
  refine jw_callV (n := 1) (kc_count hls hI.1.1 (xs (i + 1))) rfl rfl rfl rfl (by decide) zi_219 zi_220 zi_221 zi_41 zi_222 (by decide +kernel) rfl rfl rfl (by decide) (Nat.le_of_ble_eq_true rfl) ⟨by show _ ≤ 601024; omega, by show _ ≤ 7293034; omega⟩ zd_L_law_1169 (fun _ _ _ h => h.elim) (fun v9 S1 L1 hq => ?_)
  obtain ⟨rfl, rfl, rfl⟩ := hq
  refine jw_aload_n zd_L_law_1172 rfl ?_
  refine jw_arg hX hbl hbA hL (i := i) (j := 1) (by omega) rfl rfl zd_L_law_1173 zd_L_law_1174 zd_L_law_1176 (by decide) zd_L_law_1177 zd_L_law_1178 ?_
  refine jw_callV (n := 1) (kc_Mcount hls hI.1 hI.2 (xs (i + 1))) rfl rfl rfl (rl_m (by decide)) (by decide) zi_900 zi_901 zi_902 zi_44 zi_903 (by decide +kernel) rfl rfl rfl (by decide) (Nat.le_of_ble_eq_true rfl) ⟨by show _ ≤ 601024; omega, by show _ ≤ 7293034; omega⟩ zd_L_law_1179 (fun _ _ _ h => h.elim) (fun v9 S2 L2 hq => ?_)
  obtain ⟨b9, rfl, hb9, hc, hR2, hfr, hsm⟩ := hq
  refine jw_icmp_eq 1187 zd_L_law_1182 (by decide) (fun _ => ?_) (fun h => absurd (hb9 rfl).symm h)
  exact jw_sub [(0, av_a b), (1, av_r 0), (2, av_r 400), (3, av_r 500), (4, av_i (nI i))] ⟨rfl, rfl, rfl, rfl, rfl, trivial⟩ (hnext _ _ _ _ _ (lw_next hI.1 (sw_refl _) hR2 hfr) (by omega) (by omega))
