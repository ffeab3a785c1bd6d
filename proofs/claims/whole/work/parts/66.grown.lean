/-! THE CLASS'S unit AND place: the new object is made and put into its row. -/
section GRW
variable {p : Program} {l : Launch} {e : Env} {R : Room} {s : State} {m : MethodId} {args : Array Value} {below : List Frame} {meth : Method} {c0 : Code} {Q : State → Prop} {D : va_G} {ret : Option FieldType} {tab : List ExceptionTableEntry} {A : Nat → Prop} {w : wd_T} {kc ks : Nat} {S : Nat → Nat → Int32} {L : Nat → Nat → Int64}
theorem jl_same {w w' : wd_T} {lo : jl_T} (h : ∀ q ∈ lo, av_v w'.1 q.2 = av_v w.1 q.2) : jl_v w'.1 lo = jl_v w.1 lo := by
  unfold jl_v
  apply List.map_congr_left
  intro q hq
  rw [h q hq]
theorem va_app1 {ws : va_W} {x : Nat × va_E} : (ws ++ [x])[ws.length]? = some x := by simp
/-- what a call that makes cells of its own leaves of the world -/
theorem gr_keep {D : va_G} {w : wd_T} {S : Nat → Nat → Int32} {L : Nat → Nat → Int64} {A : Nat → Prop} {q : Nat} {E0 : va_E} {H1 H2 : Heap} (hP1 : va_P D zcl (wd_W w S L ++ [(q, E0)]) H1) (hD1 : va_D A (wd_W w S L ++ [(q, E0)])) (hk : ∀ a : Nat, a < H1.size → ¬ va_A [(q, E0)] H1.size a → H2[a]? = H1[a]?) :
    (∀ r, rl_in w.2.2.1 w.2.2.2 r = true → r < 501 → va_at D zcl (rp_F w.1 (wd_en w) S L r) H2 ∧ w.1 r < H1.size ∧ w.1 r ≠ q) ∧ q < H1.size ∧ A q := by
  have hq := hP1 _ _ va_app1
  have hlt : q < H1.size := hq.lt
  refine ⟨fun r h1 h2 => ?_, hlt, hD1.2 _ _ va_app1⟩
  obtain ⟨k, -, hk0⟩ := rp_at (rp_F w.1 (wd_en w) S L) (wd_mem h1 h2)
  have hkl : k < (wd_W w S L).length := (List.getElem?_eq_some_iff.mp hk0).1
  have hk1 : (wd_W w S L ++ [(q, E0)])[k]? = some (rp_F w.1 (wd_en w) S L r) := by rw [List.getElem?_append_left hkl]; exact hk0
  have ha := hP1 k _ hk1
  have hlt2 : w.1 r < H1.size := ha.lt
  have hne : w.1 r ≠ q := fun z => by
    have := hD1.1 k _ _ _ hk1 va_app1 z
    omega
  refine ⟨ha.kept (hk _ hlt2 ?_), hlt2, hne⟩
  rintro (⟨j, e, hj⟩ | hj)
  · match j, hj with
    | 0, hj => cases hj; exact hne rfl
    | j + 1, hj => simp at hj
  · have : H1.size ≤ w.1 r := hj
    omega
set_option maxRecDepth 100000 in
set_option maxHeartbeats 4000000 in
theorem gu_unit {n : Nat} (hn : w.2.2.1 = n) (h12 : n < 12) (h13 : w.2.2.2 ≤ 12) (h06 : S 0 6 = nI n) {x y : Int32} (hR1 : kc + 2 ≤ R.cells) (hR2 : ks + 20 ≤ R.slots) (hR3 : 2 ≤ R.frames) (hR4 : 36 ≤ R.locals)
    (kk : ∀ q q2, jw_J p l e R s m args below meth c0 Q D zn_A zb_A_unit 3 ret tab A (wu w q q2) (kc + 1 + 1) (ks + 8 + 12) 71 [(0, av_r 0), (1, av_i x), (2, av_i y)] [] (va_up (va_up S (100 + n) (nu_row n x y)) (100 + n + 100) (fun _ => -1)) L) :
    jw_J p l e R s m args below meth c0 Q D zn_A zb_A_unit 3 ret tab A w kc ks 57 [(0, av_r 0), (1, av_i x), (2, av_i y)] [av_i (nI n), av_r 1] S L := by
  intro hC H locs ls hl hP hD hS
  obtain ⟨hx, hb, hml, hown, hts, hlk, hK, hA, htab, hst, hX, hret⟩ := id hC
  refine va_new (ci := 4) (fs := [.int 0, .int 0, .int 0, .int 0, .int 0, .int 0, .int 0, .null]) (C := zn_U) (T := zf_U) (N := 8) hx hb hts zl_U _ zp_U hown (hts _ zi_64) (hts _ zi_329) (hts _ zi_50) hK hP hD hS hA rfl (fun j hj => by rcases (show j = 0 ∨ j = 1 ∨ j = 2 ∨ j = 3 ∨ j = 4 ∨ j = 5 ∨ j = 6 ∨ j = 7 by omega) with rfl | rfl | rfl | rfl | rfl | rfl | rfl | rfl <;> rfl) (by omega) (by omega) zd_A_unit_57 (fun q H1 hP1 hD1 hS1 => ?_)
  refine lv_dup hx hb zd_A_unit_60 rfl ?_
  refine lv_aload_n hx hb zd_A_unit_61 rfl (jl_at (i := 0) (v := av_r 0) hl rfl) ?_
  obtain ⟨k0, -, hq0⟩ := rp_at (rp_F w.1 (wd_en w) S L) (wd_mem (w := w) (r := 0) rfl (by decide))
  have hq0' := (List.getElem?_append_left (l₂ := [(q, (Sum.inr (4, [.int 0, .int 0, .int 0, .int 0, .int 0, .int 0, .int 0, .null]) : va_E))]) (List.getElem?_eq_some_iff.mp hq0).1).trans hq0
  refine va_get (ci := 0) hx hb hts zl_A hown hK hP1 k0 hq0' rfl 6 (by decide) (hts _ zi_148) (fun x h => h) rfl zd_A_unit_62 ?_
  rw [h06]
  refine lv_iload_n hx hb zd_A_unit_65 rfl (jl_at (i := 1) (v := av_i x) hl rfl) ?_
  refine lv_iload_n hx hb zd_A_unit_66 rfl (jl_at (i := 2) (v := av_i y) hl rfl) ?_
  have hPc : va_P D zcl [(q, .inr (4, [.int 0, .int 0, .int 0, .int 0, .int 0, .int 0, .int 0, .null]))] H1 := fun k z hk => by
    match k, hk with
    | 0, hk => cases hk; exact hP1 _ _ va_app1
    | k + 1, hk => simp at hk
  have hDc : va_D (fun _ => True) [(q, (Sum.inr (4, [.int 0, .int 0, .int 0, .int 0, .int 0, .int 0, .int 0, .null]) : va_E))] := ⟨fun i j a b h1 h2 _ => by
    match i, j, h1, h2 with
    | 0, 0, _, _ => rfl
    | 0, j + 1, _, h => simp at h
    | i + 1, _, h, _ => simp at h, fun _ _ _ => trivial⟩
  have hFc : ∀ a, va_A [(q, (Sum.inr (4, [.int 0, .int 0, .int 0, .int 0, .int 0, .int 0, .int 0, .null]) : va_E))] H1.size a → A a := by
    rintro a (⟨k, e, hk⟩ | h)
    · match k, hk with
      | 0, hk => cases hk; exact hD1.2 _ _ va_app1
      | k + 1, hk => simp at hk
    · exact hA a (Nat.le_trans hS1.1 h)
  refine va_callv (va_runI (As := [.int (nI n), .int x, .int y]) (rest := [.ref q, .int (nI n), .ref (w.1 1)]) ⟨hx, hb, hml, hown, hts⟩ (c_Uinit l D w q H1.size (nI n) x y) (cwI 3 hts (tw_all (fun z hz => by rcases List.mem_cons.mp hz with e | e; rw [e]; exact zi_332; exact e)) rfl rfl rfl (hts _ zi_50) (hts _ zi_330) (hts _ zi_331) rfl (by decide +kernel) ⟨by show 1 + 1 ≤ _; omega, by show 8 + (5 + 11) + 12 ≤ _; omega⟩) ⟨fun a U g mk z => by obtain ⟨z0, z1, zP, zK, zD⟩ := z; exact ⟨z0, z1, zP, va_K.moved (u := U) (U := U.calling g mk a) (Vm.Alike.refl U.vm) zK, zD⟩, fun U hU hW => ⟨rfl, by rw [hU], by rw [hU]; exact hPc, va_K.moved hW.alike hK, hDc⟩⟩ rfl rfl hl.1 rfl (lv_room (Nat.le_of_ble_eq_true rfl)) zd_A_unit_67 ⟨by omega, by omega⟩) hS1 (fun q _ h => hFc q h) hFc (fun u t H2 locs2 ht hvm hw hB hz1 hk1 hS2 => ?_)
  obtain ⟨q2, hP2, hD2⟩ := hB
  rw [ht] at hP2
  obtain ⟨hold, hqlt, hqA⟩ := gr_keep hP1 hD1 hk1
  have hq2 : H1.size ≤ q2 := by
    rcases hD2.2 1 _ rfl with ⟨k, e, hk⟩ | h
    · exfalso
      match k, hk with
      | 0, hk =>
        cases hk
        exact absurd (hD2.1 0 1 _ _ rfl rfl rfl) (by decide)
      | k + 1, hk => simp at hk
    · exact h
  have hPo : va_P D zcl (wd_W w S L) H2 := wd_P_of (fun r h1 h2 => (hold r h1 h2).1)
  have hP3 := va_P.app hPo hP2
  have hD3 := va_D.app hD (hD2.weaken (fun _ z _ h => hFc z.1 h)) (fun i j a b h1 h2 => by
    obtain ⟨r, hr, rfl⟩ := List.mem_map.mp (List.mem_of_getElem? h1)
    obtain ⟨-, g2, g3⟩ := hold r (wd_dl_mem.mp hr).1 (wd_dl_mem.mp hr).2
    match j, h2 with
    | 0, h2 => cases h2; exact g3
    | 1, h2 =>
      cases h2
      show w.1 r ≠ q2
      omega
    | j + 2, h2 => simp at h2)
  obtain ⟨k1, hk10, hq1⟩ := rp_at (rp_F w.1 (wd_en w) S L) (wd_mem (w := w) (r := 1) rfl (by decide))
  have hk1l : k1 < (wd_W w S L).length := (List.getElem?_eq_some_iff.mp hq1).1
  refine va_astq hx hb hK hP3 hD3 hS2 k1 3 (wd_W w S L).length 4 ((List.getElem?_append_left hk1l).trans hq1) rfl ((List.getElem?_append_right (Nat.le_refl _)).trans (by rw [Nat.sub_self]; rfl)) rfl (vp_in_nI h12 (by decide)) zd_A_unit_70 (fun H3 locs3 hP4 hD4 hS4 => ?_)
  have hat : ∀ k z, k ≠ k1 → (wd_W w S L ++ [(q, (Sum.inr (4, [.int x, .int y, .int (nI n), .int (-1), .int (-1), .int 0, .int 0, .ref q2]) : va_E)), (q2, Sum.inl (w.2.1 0, 12, Sum.inl (fun _ => -1)))])[k]? = some z → va_at D zcl z H3 := fun k z hk hz => hP4 k z (by rw [List.getElem?_set_ne (fun q => hk q.symm)]; exact hz)
  refine kk q q2 (jd_C_w hC rfl) H3 locs3 ls ?_ (wu_fold hn h12 h13 (fun r h1 h2 h3 => ?_) ?_ ?_ ?_) (wu_D (by omega) h13 hD hqA (hFc q2 (Or.inr hq2)) (by omega) (fun r h1 h2 => ⟨(hold r h1 h2).2.2, by have := (hold r h1 h2).2.1; omega⟩)) hS4
  · rw [jl_same (w := w) (fun z hz => by
      simp only [List.mem_cons, List.not_mem_nil, or_false] at hz
      rcases hz with rfl | rfl | rfl
      · show Value.ref _ = Value.ref _
        rw [wu_o (by omega) (by omega)]
      · rfl
      · rfl)]
    exact hl
  · obtain ⟨k, hk0, hkr⟩ := rp_at (rp_F w.1 (wd_en w) S L) (wd_mem h1 h2)
    exact hat k _ (fun z => by subst z; exact h3 (Option.some.inj (hk0.symm.trans hk10))) ((List.getElem?_append_left (List.getElem?_eq_some_iff.mp hkr).1).trans hkr)
  · have h9 := hP4 k1 _ (List.getElem?_set_self (by rw [List.length_append]; omega))
    rw [nI_clamp (by omega)] at h9
    rw [← hn]
    rw [← hn] at h9
    exact h9
  · exact hat (wd_W w S L).length _ (by omega) ((List.getElem?_append_right (Nat.le_refl _)).trans (by rw [Nat.sub_self]; rfl))
  · exact hat ((wd_W w S L).length + 1) _ (by omega) ((List.getElem?_append_right (by omega)).trans (by rw [show (wd_W w S L).length + 1 - (wd_W w S L).length = 1 by omega]; rfl))
set_option maxRecDepth 100000 in
set_option maxHeartbeats 4000000 in
theorem gp_place {n : Nat} (hn : w.2.2.2 = n) (h12 : w.2.2.1 ≤ 12) (h13 : n < 12) {f z y x : Int32} (hR1 : kc + 1 ≤ R.cells) (hR2 : ks + 5 ≤ R.slots) (hR3 : 2 ≤ R.frames) (hR4 : 36 ≤ R.locals)
    (kk : ∀ q, jw_J p l e R s m args below meth c0 Q D zn_A zb_A_place 5 ret tab A (wp w q) (kc + 1 + 0) (ks + 5 + 0) 103 [(0, av_r 0), (1, av_i f), (2, av_i z), (3, av_i y), (4, av_i x)] [] (va_up S (300 + n) (np_row f z y x)) L) :
    jw_J p l e R s m args below meth c0 Q D zn_A zb_A_place 5 ret tab A w kc ks 90 [(0, av_r 0), (1, av_i f), (2, av_i z), (3, av_i y), (4, av_i x)] [av_i (nI n), av_r 2] S L := by
  intro hC H locs ls hl hP hD hS
  obtain ⟨hx, hb, hml, hown, hts, hlk, hK, hA, htab, hst, hX, hret⟩ := id hC
  refine va_new (ci := 3) (fs := [.int 0, .int 0, .int 0, .int 0, .int 0]) (C := zn_P) (T := zf_P) (N := 5) hx hb hts zl_P _ zp_P hown (hts _ zi_66) (hts _ zi_379) (hts _ zi_51) hK hP hD hS hA rfl (fun j hj => by rcases (show j = 0 ∨ j = 1 ∨ j = 2 ∨ j = 3 ∨ j = 4 by omega) with rfl | rfl | rfl | rfl | rfl <;> rfl) (by omega) (by omega) zd_A_place_90 (fun q H1 hP1 hD1 hS1 => ?_)
  refine lv_dup hx hb zd_A_place_93 rfl ?_
  refine lv_iload_n hx hb zd_A_place_94 rfl (jl_at (i := 1) (v := av_i f) hl rfl) ?_
  refine lv_iload_n hx hb zd_A_place_95 rfl (jl_at (i := 2) (v := av_i z) hl rfl) ?_
  refine lv_iload_n hx hb zd_A_place_96 rfl (jl_at (i := 3) (v := av_i y) hl rfl) ?_
  refine lv_iload hx hb zd_A_place_97 (jl_at (i := 4) (v := av_i x) hl rfl) ?_
  have hPc : va_P D zcl [(q, .inr (3, [.int 0, .int 0, .int 0, .int 0, .int 0]))] H1 := fun k z hk => by
    match k, hk with
    | 0, hk => cases hk; exact hP1 _ _ va_app1
    | k + 1, hk => simp at hk
  have hDc : va_D (fun _ => True) [(q, (Sum.inr (3, [.int 0, .int 0, .int 0, .int 0, .int 0]) : va_E))] := ⟨fun i j a b h1 h2 _ => by
    match i, j, h1, h2 with
    | 0, 0, _, _ => rfl
    | 0, j + 1, _, h => simp at h
    | i + 1, _, h, _ => simp at h, fun _ _ _ => trivial⟩
  have hFc : ∀ a, va_A [(q, (Sum.inr (3, [.int 0, .int 0, .int 0, .int 0, .int 0]) : va_E))] H1.size a → A a := by
    rintro a (⟨k, e, hk⟩ | h)
    · match k, hk with
      | 0, hk => cases hk; exact hD1.2 _ _ va_app1
      | k + 1, hk => simp at hk
    · exact hA a (Nat.le_trans hS1.1 h)
  refine va_callv (va_runI (As := [.int f, .int z, .int y, .int x]) (rest := [.ref q, .int (nI n), .ref (w.1 2)]) ⟨hx, hb, hml, hown, hts⟩ (c_Pinit l D w q H1.size f z y x) (cwI 4 hts (tw_all (fun z hz => by rcases List.mem_cons.mp hz with e | e; rw [e]; exact zi_382; exact e)) rfl rfl rfl (hts _ zi_51) (hts _ zi_380) (hts _ zi_381) rfl (by decide +kernel) ⟨by show 1 + 1 ≤ _; omega, by show 8 + (5 + 11) + 12 ≤ _; omega⟩) ⟨fun a U g mk z => by obtain ⟨z0, z1, zP, zK, zD⟩ := z; exact ⟨z0, z1, zP, va_K.moved (u := U) (U := U.calling g mk a) (Vm.Alike.refl U.vm) zK, zD⟩, fun U hU hW => ⟨rfl, by rw [hU], by rw [hU]; exact hPc, va_K.moved hW.alike hK, hDc⟩⟩ rfl rfl hl.1 rfl (lv_room (Nat.le_of_ble_eq_true rfl)) zd_A_place_99 ⟨by omega, by omega⟩) hS1 (fun q _ h => hFc q h) hFc (fun u t H2 locs2 ht hvm hw hB hz1 hk1 hS2 => ?_)
  obtain ⟨hP2, hD2⟩ := hB
  rw [ht] at hP2
  obtain ⟨hold, hqlt, hqA⟩ := gr_keep hP1 hD1 hk1
  have hPo : va_P D zcl (wd_W w S L) H2 := wd_P_of (fun r h1 h2 => (hold r h1 h2).1)
  have hP3 := va_P.app hPo hP2
  have hD3 := va_D.app hD (hD2.weaken (fun _ z _ h => hFc z.1 h)) (fun i j a b h1 h2 => by
    obtain ⟨r, hr, rfl⟩ := List.mem_map.mp (List.mem_of_getElem? h1)
    obtain ⟨-, g2, g3⟩ := hold r (wd_dl_mem.mp hr).1 (wd_dl_mem.mp hr).2
    match j, h2 with
    | 0, h2 => cases h2; exact g3
    | j + 1, h2 => simp at h2)
  obtain ⟨k1, hk10, hq1⟩ := rp_at (rp_F w.1 (wd_en w) S L) (wd_mem (w := w) (r := 2) rfl (by decide))
  have hk1l : k1 < (wd_W w S L).length := (List.getElem?_eq_some_iff.mp hq1).1
  refine va_astq hx hb hK hP3 hD3 hS2 k1 4 (wd_W w S L).length 3 ((List.getElem?_append_left hk1l).trans hq1) rfl ((List.getElem?_append_right (Nat.le_refl _)).trans (by rw [Nat.sub_self]; rfl)) rfl (vp_in_nI h13 (by decide)) zd_A_place_102 (fun H3 locs3 hP4 hD4 hS4 => ?_)
  have hat : ∀ k v, k ≠ k1 → (wd_W w S L ++ [(q, (Sum.inr (3, [.int f, .int z, .int x, .int y, .int 0]) : va_E))])[k]? = some v → va_at D zcl v H3 := fun k v hk hz => hP4 k v (by rw [List.getElem?_set_ne (fun q => hk q.symm)]; exact hz)
  refine kk q (jd_C_w hC rfl) H3 locs3 ls ?_ (wp_fold hn h12 h13 (fun r h1 h2 h3 => ?_) ?_ ?_) (wp_D h12 (by omega) hD hqA (fun r h1 h2 => (hold r h1 h2).2.2)) hS4
  · rw [jl_same (w := w) (fun z hz => by
      simp only [List.mem_cons, List.not_mem_nil, or_false] at hz
      rcases hz with rfl | rfl | rfl | rfl | rfl
      · show Value.ref _ = Value.ref _
        rw [wp_o (by omega)]
      · rfl
      · rfl
      · rfl
      · rfl)]
    exact hl
  · obtain ⟨k, hk0, hkr⟩ := rp_at (rp_F w.1 (wd_en w) S L) (wd_mem h1 h2)
    exact hat k _ (fun z => by subst z; exact h3 (Option.some.inj (hk0.symm.trans hk10))) ((List.getElem?_append_left (List.getElem?_eq_some_iff.mp hkr).1).trans hkr)
  · have h9 := hP4 k1 _ (List.getElem?_set_self (by rw [List.length_append]; omega))
    rw [nI_clamp (by omega)] at h9
    rw [← hn]
    rw [← hn] at h9
    exact h9
  · exact hat (wd_W w S L).length _ (by omega) ((List.getElem?_append_right (Nat.le_refl _)).trans (by rw [Nat.sub_self]; rfl))
end GRW
