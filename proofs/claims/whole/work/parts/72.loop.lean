/-! THE LAW: unit, place, the loop (rows by wip/whole/gen/law2.py) -/
set_option maxRecDepth 100000 in
set_option maxHeartbeats 4000000 in
theorem law_0A {p : Program} {l : Launch} {e : Env} {s : State} {m : MethodId} {b Lx : Nat} {xs : Nat → Int32} {below : List Frame} {meth : Method} {c0 : Code} {Q : State → Prop} {D : va_G} {tab : List ExceptionTableEntry} {A : Nat → Prop} (hls : l.stackTraces = false) (hX : va_X b Lx xs s s.heap) (hbl : b < s.heap.size) (hbA : ¬ A b) (hL : Lx ≤ 2560) {i : Nat} (hi : i + 5 ≤ Lx) {w : wd_T} {S : Nat → Nat → Int32} {L : Nat → Nat → Int64} (hI : lw_I w S) {kc ks : Nat} (hkc : kc + 3 ≤ 601024) (hks : ks + 20 ≤ 7293034) (hx7 : ob (xs (i + 1)) 0 7 = true) (hnext : ∀ (w : wd_T) (S : Nat → Nat → Int32) (L : Nat → Nat → Int64) (kc1 ks1 : Nat), lw_I w S → kc1 ≤ kc + 3 → ks1 ≤ ks + 20 → jw_J p l e room_1 s m #[Value.ref b] below meth c0 Q D zn_L code 7 ret tab A w kc1 ks1 1187 [(0, av_a b), (1, av_r 0), (2, av_r 400), (3, av_r 500), (4, av_i (nI i))] [] S L) : jw_J p l e room_1 s m #[Value.ref b] below meth c0 Q D zn_L code 7 ret tab A w kc ks 132 [(0, av_a b), (1, av_r 0), (2, av_r 400), (3, av_r 500), (4, av_i (nI i))] [] S L := by
  have h12 := hI.1.1.1
  have h13 := hI.1.1.2.1
  refine jw_aload_n zd_L_law_132 rfl ?_
  refine jw_arg hX hbl hbA hL (i := i) (j := 1) (by omega) rfl rfl zd_L_law_133 zd_L_law_134 zd_L_law_136 (by decide) zd_L_law_137 zd_L_law_138 ?_
  refine jw_arg hX hbl hbA hL (i := i) (j := 2) (by omega) rfl rfl zd_L_law_139 zd_L_law_140 zd_L_law_142 (by decide) zd_L_law_143 zd_L_law_144 ?_
  refine jw_aload_n zd_L_law_145 rfl ?_
  refine jw_callSX (n := 4) (kc_LunitF hls hI.1.1 (Or.inl (by rw [hx7]; rfl))) rfl zi_231 zi_232 zi_40 zi_233 (by decide +kernel) rfl rfl rfl (by decide) (Nat.le_of_ble_eq_true rfl) ⟨by show _ ≤ 601024; omega, by show _ ≤ 7293034; omega⟩ zd_L_law_146 (fun _ _ _ h => h.elim) (fun v9 S1 L1 hq => ?_)
  obtain ⟨c, v, N, rfl, hO, hN, hL1, hv⟩ := hq
  have hR1 := lw_in hI hN (fun r _ => by rw [hO.1])
  obtain ⟨hNS, hcs⟩ := hO
  subst hNS
  have hc1 : c = 1 := by
    rcases hcs with ⟨-, h⟩ | ⟨h1, -⟩
    · exact h
    · exact absurd (h1.symm.trans hx7) (by decide)
  subst hc1
  refine jw_istore zd_L_law_149 (by decide) ?_
  refine jw_aload_n zd_L_law_151 rfl ?_
  refine jw_arg hX hbl hbA hL (i := i) (j := 1) (by omega) rfl rfl zd_L_law_152 zd_L_law_153 zd_L_law_155 (by decide) zd_L_law_156 zd_L_law_157 ?_
  refine jw_arg hX hbl hbA hL (i := i) (j := 2) (by omega) rfl rfl zd_L_law_158 zd_L_law_159 zd_L_law_161 (by decide) zd_L_law_162 zd_L_law_163 ?_
  refine jw_callV (n := 2) (kc_MunitA hls hR1 hx7 (v := v)) rfl rfl rfl (rl_m (by decide)) (by decide) zi_763 zi_764 zi_765 zi_44 zi_766 (by decide +kernel) rfl rfl rfl (by decide) (Nat.le_of_ble_eq_true rfl) ⟨by show _ ≤ 601024; omega, by show _ ≤ 7293034; omega⟩ zd_L_law_164 (fun _ _ _ h => h.elim) (fun v9 S2 L2 hq => ?_)
  obtain ⟨b9, rfl, hb9, hc, hR2, hfr, hsm⟩ := hq
  refine jw_istore zd_L_law_167 (by decide) ?_
  refine jw_aload_n zd_L_law_169 rfl ?_
  refine jw_callV (n := 0) (kc_thrown hls) rfl rfl rfl (rl_m (by decide)) (by decide) zi_759 zi_760 zi_761 zi_44 zi_762 (by decide +kernel) rfl rfl rfl (by decide) (Nat.le_of_ble_eq_true rfl) ⟨by show _ ≤ 601024; omega, by show _ ≤ 7293034; omega⟩ zd_L_law_170 (fun _ _ _ h => h.elim) (fun v8 S8 L8 hq => ?_)
  obtain ⟨rfl, rfl, rfl⟩ := hq
  rw [hc]
  refine jw_iload zd_L_law_173 rfl ?_
  refine jw_icmp_eq 180 zd_L_law_175 (by decide) (fun _ => ?_) (fun h => absurd rfl h)
  refine jw_iload zd_L_law_180 rfl ?_
  refine jw_if_ne 197 zd_L_law_182 (by decide) (fun h_182 => ?_) (fun h_182 => ?_)
  · refine jw_goto 1187 zd_L_law_197 (by decide) ?_
    exact jw_sub [(0, av_a b), (1, av_r 0), (2, av_r 400), (3, av_r 500), (4, av_i (nI i))] ⟨rfl, rfl, rfl, rfl, rfl, trivial⟩ (hnext _ _ _ _ _ (lw_next hI.1 hN hR2 hfr) (by omega) (by omega))
  · refine jw_aload_n zd_L_law_185 rfl ?_
    refine jw_iconst (v := 0) zd_L_law_186 (by decide) ?_
    refine jw_lldN (r := 500) (c := 0) rfl rfl (by decide) (n := 1) (by decide) (rl_m (by decide)) (by decide) zd_L_law_187 ?_
    rw [hsm 500 (by decide) (by decide), hv h_182]
    refine jw_iload zd_L_law_188 rfl ?_
    refine jw_i2l zd_L_law_190 ?_
    refine jw_lcmp zd_L_law_191 ?_
    refine jw_if_eq 197 zd_L_law_192 (by decide) (fun _ => ?_) (fun h => absurd ((lg_cmp_eq _ _).mpr (by rw [hb9 h_182])) h)
    refine jw_goto 1187 zd_L_law_197 (by decide) ?_
    exact jw_sub [(0, av_a b), (1, av_r 0), (2, av_r 400), (3, av_r 500), (4, av_i (nI i))] ⟨rfl, rfl, rfl, rfl, rfl, trivial⟩ (hnext _ _ _ _ _ (lw_next hI.1 hN hR2 hfr) (by omega) (by omega))
set_option maxRecDepth 100000 in
set_option maxHeartbeats 4000000 in
theorem law_0B {p : Program} {l : Launch} {e : Env} {s : State} {m : MethodId} {b Lx : Nat} {xs : Nat → Int32} {below : List Frame} {meth : Method} {c0 : Code} {Q : State → Prop} {D : va_G} {tab : List ExceptionTableEntry} {A : Nat → Prop} (hls : l.stackTraces = false) (hX : va_X b Lx xs s s.heap) (hbl : b < s.heap.size) (hbA : ¬ A b) (hL : Lx ≤ 2560) {i : Nat} (hi : i + 5 ≤ Lx) {w : wd_T} {S : Nat → Nat → Int32} {L : Nat → Nat → Int64} (hI : lw_I w S) {kc ks : Nat} (hkc : kc + 3 ≤ 601024) (hks : ks + 20 ≤ 7293034) (hx7 : ob (xs (i + 1)) 0 7 = false) (hy7 : ob (xs (i + 2)) 1 100 = true) (hnext : ∀ (w : wd_T) (S : Nat → Nat → Int32) (L : Nat → Nat → Int64) (kc1 ks1 : Nat), lw_I w S → kc1 ≤ kc + 3 → ks1 ≤ ks + 20 → jw_J p l e room_1 s m #[Value.ref b] below meth c0 Q D zn_L code 7 ret tab A w kc1 ks1 1187 [(0, av_a b), (1, av_r 0), (2, av_r 400), (3, av_r 500), (4, av_i (nI i))] [] S L) : jw_J p l e room_1 s m #[Value.ref b] below meth c0 Q D zn_L code 7 ret tab A w kc ks 132 [(0, av_a b), (1, av_r 0), (2, av_r 400), (3, av_r 500), (4, av_i (nI i))] [] S L := by
  have h12 := hI.1.1.1
  have h13 := hI.1.1.2.1
  refine jw_aload_n zd_L_law_132 rfl ?_
  refine jw_arg hX hbl hbA hL (i := i) (j := 1) (by omega) rfl rfl zd_L_law_133 zd_L_law_134 zd_L_law_136 (by decide) zd_L_law_137 zd_L_law_138 ?_
  refine jw_arg hX hbl hbA hL (i := i) (j := 2) (by omega) rfl rfl zd_L_law_139 zd_L_law_140 zd_L_law_142 (by decide) zd_L_law_143 zd_L_law_144 ?_
  refine jw_aload_n zd_L_law_145 rfl ?_
  refine jw_callSX (n := 4) (kc_LunitF hls hI.1.1 (Or.inl (by rw [hy7, Bool.or_true]))) rfl zi_231 zi_232 zi_40 zi_233 (by decide +kernel) rfl rfl rfl (by decide) (Nat.le_of_ble_eq_true rfl) ⟨by show _ ≤ 601024; omega, by show _ ≤ 7293034; omega⟩ zd_L_law_146 (fun _ _ _ h => h.elim) (fun v9 S1 L1 hq => ?_)
  obtain ⟨c, v, N, rfl, hO, hN, hL1, hv⟩ := hq
  have hR1 := lw_in hI hN (fun r _ => by rw [hO.1])
  obtain ⟨hNS, hcs⟩ := hO
  subst hNS
  have hc1 : c = 1 := by
    rcases hcs with ⟨-, h⟩ | ⟨-, h1, -⟩
    · exact h
    · exact absurd (h1.symm.trans hy7) (by decide)
  subst hc1
  refine jw_istore zd_L_law_149 (by decide) ?_
  refine jw_aload_n zd_L_law_151 rfl ?_
  refine jw_arg hX hbl hbA hL (i := i) (j := 1) (by omega) rfl rfl zd_L_law_152 zd_L_law_153 zd_L_law_155 (by decide) zd_L_law_156 zd_L_law_157 ?_
  refine jw_arg hX hbl hbA hL (i := i) (j := 2) (by omega) rfl rfl zd_L_law_158 zd_L_law_159 zd_L_law_161 (by decide) zd_L_law_162 zd_L_law_163 ?_
  refine jw_callV (n := 2) (kc_MunitB hls hR1 hx7 hy7 (v := v)) rfl rfl rfl (rl_m (by decide)) (by decide) zi_763 zi_764 zi_765 zi_44 zi_766 (by decide +kernel) rfl rfl rfl (by decide) (Nat.le_of_ble_eq_true rfl) ⟨by show _ ≤ 601024; omega, by show _ ≤ 7293034; omega⟩ zd_L_law_164 (fun _ _ _ h => h.elim) (fun v9 S2 L2 hq => ?_)
  obtain ⟨b9, rfl, hb9, hc, hR2, hfr, hsm⟩ := hq
  refine jw_istore zd_L_law_167 (by decide) ?_
  refine jw_aload_n zd_L_law_169 rfl ?_
  refine jw_callV (n := 0) (kc_thrown hls) rfl rfl rfl (rl_m (by decide)) (by decide) zi_759 zi_760 zi_761 zi_44 zi_762 (by decide +kernel) rfl rfl rfl (by decide) (Nat.le_of_ble_eq_true rfl) ⟨by show _ ≤ 601024; omega, by show _ ≤ 7293034; omega⟩ zd_L_law_170 (fun _ _ _ h => h.elim) (fun v8 S8 L8 hq => ?_)
  obtain ⟨rfl, rfl, rfl⟩ := hq
  rw [hc]
  refine jw_iload zd_L_law_173 rfl ?_
  refine jw_icmp_eq 180 zd_L_law_175 (by decide) (fun _ => ?_) (fun h => absurd rfl h)
  refine jw_iload zd_L_law_180 rfl ?_
  refine jw_if_ne 197 zd_L_law_182 (by decide) (fun h_182 => ?_) (fun h_182 => ?_)
  · refine jw_goto 1187 zd_L_law_197 (by decide) ?_
    exact jw_sub [(0, av_a b), (1, av_r 0), (2, av_r 400), (3, av_r 500), (4, av_i (nI i))] ⟨rfl, rfl, rfl, rfl, rfl, trivial⟩ (hnext _ _ _ _ _ (lw_next hI.1 hN hR2 hfr) (by omega) (by omega))
  · refine jw_aload_n zd_L_law_185 rfl ?_
    refine jw_iconst (v := 0) zd_L_law_186 (by decide) ?_
    refine jw_lldN (r := 500) (c := 0) rfl rfl (by decide) (n := 1) (by decide) (rl_m (by decide)) (by decide) zd_L_law_187 ?_
    rw [hsm 500 (by decide) (by decide), hv h_182]
    refine jw_iload zd_L_law_188 rfl ?_
    refine jw_i2l zd_L_law_190 ?_
    refine jw_lcmp zd_L_law_191 ?_
    refine jw_if_eq 197 zd_L_law_192 (by decide) (fun _ => ?_) (fun h => absurd ((lg_cmp_eq _ _).mpr (by rw [hb9 h_182])) h)
    refine jw_goto 1187 zd_L_law_197 (by decide) ?_
    exact jw_sub [(0, av_a b), (1, av_r 0), (2, av_r 400), (3, av_r 500), (4, av_i (nI i))] ⟨rfl, rfl, rfl, rfl, rfl, trivial⟩ (hnext _ _ _ _ _ (lw_next hI.1 hN hR2 hfr) (by omega) (by omega))
set_option maxRecDepth 100000 in
set_option maxHeartbeats 4000000 in
theorem law_0C {p : Program} {l : Launch} {e : Env} {s : State} {m : MethodId} {b Lx : Nat} {xs : Nat → Int32} {below : List Frame} {meth : Method} {c0 : Code} {Q : State → Prop} {D : va_G} {tab : List ExceptionTableEntry} {A : Nat → Prop} (hls : l.stackTraces = false) (hX : va_X b Lx xs s s.heap) (hbl : b < s.heap.size) (hbA : ¬ A b) (hL : Lx ≤ 2560) {i : Nat} (hi : i + 5 ≤ Lx) {w : wd_T} {S : Nat → Nat → Int32} {L : Nat → Nat → Int64} (hI : lw_I w S) {kc ks : Nat} (hkc : kc + 3 ≤ 601024) (hks : ks + 20 ≤ 7293034) (hx7 : ob (xs (i + 1)) 0 7 = false) (hy7 : ob (xs (i + 2)) 1 100 = false) (hfull : w.2.2.1 = 12) (hnext : ∀ (w : wd_T) (S : Nat → Nat → Int32) (L : Nat → Nat → Int64) (kc1 ks1 : Nat), lw_I w S → kc1 ≤ kc + 3 → ks1 ≤ ks + 20 → jw_J p l e room_1 s m #[Value.ref b] below meth c0 Q D zn_L code 7 ret tab A w kc1 ks1 1187 [(0, av_a b), (1, av_r 0), (2, av_r 400), (3, av_r 500), (4, av_i (nI i))] [] S L) : jw_J p l e room_1 s m #[Value.ref b] below meth c0 Q D zn_L code 7 ret tab A w kc ks 132 [(0, av_a b), (1, av_r 0), (2, av_r 400), (3, av_r 500), (4, av_i (nI i))] [] S L := by
  have h12 := hI.1.1.1
  have h13 := hI.1.1.2.1
  refine jw_aload_n zd_L_law_132 rfl ?_
  refine jw_arg hX hbl hbA hL (i := i) (j := 1) (by omega) rfl rfl zd_L_law_133 zd_L_law_134 zd_L_law_136 (by decide) zd_L_law_137 zd_L_law_138 ?_
  refine jw_arg hX hbl hbA hL (i := i) (j := 2) (by omega) rfl rfl zd_L_law_139 zd_L_law_140 zd_L_law_142 (by decide) zd_L_law_143 zd_L_law_144 ?_
  refine jw_aload_n zd_L_law_145 rfl ?_
  refine jw_callSX (n := 4) (kc_LunitF hls hI.1.1 (Or.inr hfull)) rfl zi_231 zi_232 zi_40 zi_233 (by decide +kernel) rfl rfl rfl (by decide) (Nat.le_of_ble_eq_true rfl) ⟨by show _ ≤ 601024; omega, by show _ ≤ 7293034; omega⟩ zd_L_law_146 (fun _ _ _ h => h.elim) (fun v9 S1 L1 hq => ?_)
  obtain ⟨c, v, N, rfl, hO, hN, hL1, hv⟩ := hq
  have hR1 := lw_in hI hN (fun r _ => by rw [hO.1])
  obtain ⟨hNS, hcs⟩ := hO
  subst hNS
  have hc1 : c = 2 := by
    rcases hcs with ⟨h, -⟩ | ⟨-, -, -, h⟩
    · rw [hx7, hy7] at h; exact absurd h (by decide)
    · exact h
  subst hc1
  refine jw_istore zd_L_law_149 (by decide) ?_
  refine jw_aload_n zd_L_law_151 rfl ?_
  refine jw_arg hX hbl hbA hL (i := i) (j := 1) (by omega) rfl rfl zd_L_law_152 zd_L_law_153 zd_L_law_155 (by decide) zd_L_law_156 zd_L_law_157 ?_
  refine jw_arg hX hbl hbA hL (i := i) (j := 2) (by omega) rfl rfl zd_L_law_158 zd_L_law_159 zd_L_law_161 (by decide) zd_L_law_162 zd_L_law_163 ?_
  refine jw_callV (n := 2) (kc_MunitC hls hR1 hx7 hy7 hfull (v := v)) rfl rfl rfl (rl_m (by decide)) (by decide) zi_763 zi_764 zi_765 zi_44 zi_766 (by decide +kernel) rfl rfl rfl (by decide) (Nat.le_of_ble_eq_true rfl) ⟨by show _ ≤ 601024; omega, by show _ ≤ 7293034; omega⟩ zd_L_law_164 (fun _ _ _ h => h.elim) (fun v9 S2 L2 hq => ?_)
  obtain ⟨b9, rfl, hb9, hc, hR2, hfr, hsm⟩ := hq
  refine jw_istore zd_L_law_167 (by decide) ?_
  refine jw_aload_n zd_L_law_169 rfl ?_
  refine jw_callV (n := 0) (kc_thrown hls) rfl rfl rfl (rl_m (by decide)) (by decide) zi_759 zi_760 zi_761 zi_44 zi_762 (by decide +kernel) rfl rfl rfl (by decide) (Nat.le_of_ble_eq_true rfl) ⟨by show _ ≤ 601024; omega, by show _ ≤ 7293034; omega⟩ zd_L_law_170 (fun _ _ _ h => h.elim) (fun v8 S8 L8 hq => ?_)
  obtain ⟨rfl, rfl, rfl⟩ := hq
  rw [hc]
  refine jw_iload zd_L_law_173 rfl ?_
  refine jw_icmp_eq 180 zd_L_law_175 (by decide) (fun _ => ?_) (fun h => absurd rfl h)
  refine jw_iload zd_L_law_180 rfl ?_
  refine jw_if_ne 197 zd_L_law_182 (by decide) (fun h_182 => ?_) (fun h_182 => ?_)
  · refine jw_goto 1187 zd_L_law_197 (by decide) ?_
    exact jw_sub [(0, av_a b), (1, av_r 0), (2, av_r 400), (3, av_r 500), (4, av_i (nI i))] ⟨rfl, rfl, rfl, rfl, rfl, trivial⟩ (hnext _ _ _ _ _ (lw_next hI.1 hN hR2 hfr) (by omega) (by omega))
  · refine jw_aload_n zd_L_law_185 rfl ?_
    refine jw_iconst (v := 0) zd_L_law_186 (by decide) ?_
    refine jw_lldN (r := 500) (c := 0) rfl rfl (by decide) (n := 1) (by decide) (rl_m (by decide)) (by decide) zd_L_law_187 ?_
    rw [hsm 500 (by decide) (by decide), hv h_182]
    refine jw_iload zd_L_law_188 rfl ?_
    refine jw_i2l zd_L_law_190 ?_
    refine jw_lcmp zd_L_law_191 ?_
    refine jw_if_eq 197 zd_L_law_192 (by decide) (fun _ => ?_) (fun h => absurd ((lg_cmp_eq _ _).mpr (by rw [hb9 h_182])) h)
    refine jw_goto 1187 zd_L_law_197 (by decide) ?_
    exact jw_sub [(0, av_a b), (1, av_r 0), (2, av_r 400), (3, av_r 500), (4, av_i (nI i))] ⟨rfl, rfl, rfl, rfl, rfl, trivial⟩ (hnext _ _ _ _ _ (lw_next hI.1 hN hR2 hfr) (by omega) (by omega))
set_option maxRecDepth 100000 in
set_option maxHeartbeats 4000000 in
theorem law_0D {p : Program} {l : Launch} {e : Env} {s : State} {m : MethodId} {b Lx : Nat} {xs : Nat → Int32} {below : List Frame} {meth : Method} {c0 : Code} {Q : State → Prop} {D : va_G} {tab : List ExceptionTableEntry} {A : Nat → Prop} (hls : l.stackTraces = false) (hX : va_X b Lx xs s s.heap) (hbl : b < s.heap.size) (hbA : ¬ A b) (hL : Lx ≤ 2560) {i : Nat} (hi : i + 5 ≤ Lx) {w : wd_T} {S : Nat → Nat → Int32} {L : Nat → Nat → Int64} (hI : lw_I w S) {kc ks : Nat} (hkc : kc + 3 ≤ 601024) (hks : ks + 20 ≤ 7293034) (hx7 : ob (xs (i + 1)) 0 7 = false) (hy7 : ob (xs (i + 2)) 1 100 = false) (hlt : w.2.2.1 < 12) (hnext : ∀ (w : wd_T) (S : Nat → Nat → Int32) (L : Nat → Nat → Int64) (kc1 ks1 : Nat), lw_I w S → kc1 ≤ kc + 3 → ks1 ≤ ks + 20 → jw_J p l e room_1 s m #[Value.ref b] below meth c0 Q D zn_L code 7 ret tab A w kc1 ks1 1187 [(0, av_a b), (1, av_r 0), (2, av_r 400), (3, av_r 500), (4, av_i (nI i))] [] S L) : jw_J p l e room_1 s m #[Value.ref b] below meth c0 Q D zn_L code 7 ret tab A w kc ks 132 [(0, av_a b), (1, av_r 0), (2, av_r 400), (3, av_r 500), (4, av_i (nI i))] [] S L := by
  have h12 := hI.1.1.1
  have h13 := hI.1.1.2.1
  refine jw_aload_n zd_L_law_132 rfl ?_
  refine jw_arg hX hbl hbA hL (i := i) (j := 1) (by omega) rfl rfl zd_L_law_133 zd_L_law_134 zd_L_law_136 (by decide) zd_L_law_137 zd_L_law_138 ?_
  refine jw_arg hX hbl hbA hL (i := i) (j := 2) (by omega) rfl rfl zd_L_law_139 zd_L_law_140 zd_L_law_142 (by decide) zd_L_law_143 zd_L_law_144 ?_
  refine jw_aload_n zd_L_law_145 rfl ?_
  refine jw_callGS (n := 4) (kc_LunitG hls hI.1.1 hlt hx7 hy7) rfl zi_231 zi_232 zi_40 zi_233 (by decide +kernel) rfl rfl rfl (by decide) (Nat.le_of_ble_eq_true rfl) ⟨by show _ ≤ 601024; omega, by show _ ≤ 7293034; omega⟩ zd_L_law_146 (fun v9 w9 S9 L9 hq => ?_) (fun v9 w9 S9 L9 hq => ?_)
  · obtain ⟨q, q2, rfl, rfl, rfl, rfl⟩ := hq
    refine ⟨rfl, jl_same (fun z hz => ?_), rfl⟩
    simp only [List.mem_cons, List.not_mem_nil, or_false] at hz
    rcases hz with rfl | rfl | rfl | rfl | rfl <;> first | rfl | (show Value.ref _ = Value.ref _; rw [wu_o (by omega) (by omega)])
  obtain ⟨q, q2, rfl, rfl, rfl, rfl⟩ := hq
  have hR1 := md_hi (S1 := nu_G w.2.2.1 S (xs (i + 1)) (xs (i + 2))) (fun r h1 h2 => nu_ne (by omega) (by omega) (by omega)) hI.2
  refine jw_istore zd_L_law_149 (by decide) ?_
  refine jw_aload_n zd_L_law_151 rfl ?_
  refine jw_arg hX hbl hbA hL (i := i) (j := 1) (by omega) rfl rfl zd_L_law_152 zd_L_law_153 zd_L_law_155 (by decide) zd_L_law_156 zd_L_law_157 ?_
  refine jw_arg hX hbl hbA hL (i := i) (j := 2) (by omega) rfl rfl zd_L_law_158 zd_L_law_159 zd_L_law_161 (by decide) zd_L_law_162 zd_L_law_163 ?_
  refine jw_callV (n := 2) (kc_MunitD hls hR1 hlt rfl (w1 := wu w q q2) rfl rfl h13 hx7 hy7) rfl rfl rfl (rl_m (by decide)) (by decide) zi_763 zi_764 zi_765 zi_44 zi_766 (by decide +kernel) rfl rfl rfl (by decide) (Nat.le_of_ble_eq_true rfl) ⟨by show _ ≤ 601024; omega, by show _ ≤ 7293034; omega⟩ zd_L_law_164 (fun _ _ _ h => h.elim) (fun v9 S2 L2 hq => ?_)
  obtain ⟨b9, rfl, hb9, hc, hR2, hfr, hsm⟩ := hq
  refine jw_istore zd_L_law_167 (by decide) ?_
  refine jw_aload_n zd_L_law_169 rfl ?_
  refine jw_callV (n := 0) (kc_thrown hls) rfl rfl rfl (rl_m (by decide)) (by decide) zi_759 zi_760 zi_761 zi_44 zi_762 (by decide +kernel) rfl rfl rfl (by decide) (Nat.le_of_ble_eq_true rfl) ⟨by show _ ≤ 601024; omega, by show _ ≤ 7293034; omega⟩ zd_L_law_170 (fun _ _ _ h => h.elim) (fun v8 S8 L8 hq => ?_)
  obtain ⟨rfl, rfl, rfl⟩ := hq
  rw [hc]
  refine jw_iload zd_L_law_173 rfl ?_
  refine jw_icmp_eq 180 zd_L_law_175 (by decide) (fun _ => ?_) (fun h => absurd rfl h)
  refine jw_iload zd_L_law_180 rfl ?_
  refine jw_if_ne 197 zd_L_law_182 (by decide) (fun h_182 => ?_) (fun h_182 => ?_)
  · refine jw_goto 1187 zd_L_law_197 (by decide) ?_
    exact jw_sub [(0, av_a b), (1, av_r 0), (2, av_r 400), (3, av_r 500), (4, av_i (nI i))] ⟨rfl, rfl, rfl, rfl, rfl, trivial⟩ (hnext _ _ _ _ _ (lw_next (ok_A_nu hI.1 hlt rfl rfl rfl hx7 hy7) (sw_refl _) hR2 hfr) (by omega) (by omega))
  · refine jw_aload_n zd_L_law_185 rfl ?_
    refine jw_iconst (v := 0) zd_L_law_186 (by decide) ?_
    refine jw_lldN (r := 500) (c := 0) rfl rfl (by decide) (n := 1) (by decide) (rl_m (by decide)) (by decide) zd_L_law_187 ?_
    rw [hsm 500 (by decide) (by decide), va_up_self, pk_uLs]
    refine jw_iload zd_L_law_188 rfl ?_
    refine jw_i2l zd_L_law_190 ?_
    refine jw_lcmp zd_L_law_191 ?_
    refine jw_if_eq 197 zd_L_law_192 (by decide) (fun _ => ?_) (fun h => absurd ((lg_cmp_eq _ _).mpr (by rw [hb9 rfl])) h)
    refine jw_goto 1187 zd_L_law_197 (by decide) ?_
    exact jw_sub [(0, av_a b), (1, av_r 0), (2, av_r 400), (3, av_r 500), (4, av_i (nI i))] ⟨rfl, rfl, rfl, rfl, rfl, trivial⟩ (hnext _ _ _ _ _ (lw_next (ok_A_nu hI.1 hlt rfl rfl rfl hx7 hy7) (sw_refl _) hR2 hfr) (by omega) (by omega))
set_option maxRecDepth 100000 in
set_option maxHeartbeats 4000000 in
theorem law_1A {p : Program} {l : Launch} {e : Env} {s : State} {m : MethodId} {b Lx : Nat} {xs : Nat → Int32} {below : List Frame} {meth : Method} {c0 : Code} {Q : State → Prop} {D : va_G} {tab : List ExceptionTableEntry} {A : Nat → Prop} (hls : l.stackTraces = false) (hX : va_X b Lx xs s s.heap) (hbl : b < s.heap.size) (hbA : ¬ A b) (hL : Lx ≤ 2560) {i : Nat} (hi : i + 5 ≤ Lx) {w : wd_T} {S : Nat → Nat → Int32} {L : Nat → Nat → Int64} (hI : lw_I w S) {kc ks : Nat} (hkc : kc + 3 ≤ 601024) (hks : ks + 20 ≤ 7293034)  (h0 : ob (xs (i + 1)) 0 255 = true) (hnext : ∀ (w : wd_T) (S : Nat → Nat → Int32) (L : Nat → Nat → Int64) (kc1 ks1 : Nat), lw_I w S → kc1 ≤ kc + 3 → ks1 ≤ ks + 20 → jw_J p l e room_1 s m #[Value.ref b] below meth c0 Q D zn_L code 7 ret tab A w kc1 ks1 1187 [(0, av_a b), (1, av_r 0), (2, av_r 400), (3, av_r 500), (4, av_i (nI i))] [] S L) : jw_J p l e room_1 s m #[Value.ref b] below meth c0 Q D zn_L code 7 ret tab A w kc ks 200 [(0, av_a b), (1, av_r 0), (2, av_r 400), (3, av_r 500), (4, av_i (nI i))] [] S L := by
  have h12 := hI.1.1.1
  have h13 := hI.1.1.2.1
  refine jw_aload_n zd_L_law_200 rfl ?_
  refine jw_arg hX hbl hbA hL (i := i) (j := 1) (by omega) rfl rfl zd_L_law_201 zd_L_law_202 zd_L_law_204 (by decide) zd_L_law_205 zd_L_law_206 ?_
  refine jw_arg hX hbl hbA hL (i := i) (j := 2) (by omega) rfl rfl zd_L_law_207 zd_L_law_208 zd_L_law_210 (by decide) zd_L_law_211 zd_L_law_212 ?_
  refine jw_arg hX hbl hbA hL (i := i) (j := 3) (by omega) rfl rfl zd_L_law_213 zd_L_law_214 zd_L_law_216 (by decide) zd_L_law_217 zd_L_law_218 ?_
  refine jw_arg hX hbl hbA hL (i := i) (j := 4) (by omega) rfl rfl zd_L_law_219 zd_L_law_220 zd_L_law_222 (by decide) zd_L_law_223 zd_L_law_224 ?_
  refine jw_aload_n zd_L_law_225 rfl ?_
  refine jw_callSX (n := 6) (kc_LplaceF hls hI.1.1 (Or.inl (by rw [h0]; simp))) rfl zi_369 zi_370 zi_40 zi_371 (by decide +kernel) rfl rfl rfl (by decide) (Nat.le_of_ble_eq_true rfl) ⟨by show _ ≤ 601024; omega, by show _ ≤ 7293034; omega⟩ zd_L_law_226 (fun _ _ _ h => h.elim) (fun v9 S1 L1 hq => ?_)
  obtain ⟨c, v, N, rfl, hO, hN, hL1, hv⟩ := hq
  have hR1 := lw_in hI hN (fun r _ => by rw [hO.1])
  obtain ⟨hNS, hcs⟩ := hO
  subst hNS
  have hc1 : c = 1 := by
    rcases hcs with ⟨-, h⟩ | ⟨g1, -⟩
    · exact h
    · exact absurd (g1.symm.trans h0) (by decide)
  subst hc1
  refine jw_istore zd_L_law_229 (by decide) ?_
  refine jw_aload_n zd_L_law_231 rfl ?_
  refine jw_arg hX hbl hbA hL (i := i) (j := 1) (by omega) rfl rfl zd_L_law_232 zd_L_law_233 zd_L_law_235 (by decide) zd_L_law_236 zd_L_law_237 ?_
  refine jw_arg hX hbl hbA hL (i := i) (j := 2) (by omega) rfl rfl zd_L_law_238 zd_L_law_239 zd_L_law_241 (by decide) zd_L_law_242 zd_L_law_243 ?_
  refine jw_arg hX hbl hbA hL (i := i) (j := 3) (by omega) rfl rfl zd_L_law_244 zd_L_law_245 zd_L_law_247 (by decide) zd_L_law_248 zd_L_law_249 ?_
  refine jw_arg hX hbl hbA hL (i := i) (j := 4) (by omega) rfl rfl zd_L_law_250 zd_L_law_251 zd_L_law_253 (by decide) zd_L_law_254 zd_L_law_255 ?_
  refine jw_callV (n := 4) (kc_MplaceA hls hR1 h0 (v := v)) rfl rfl rfl (rl_m (by decide)) (by decide) zi_770 zi_771 zi_772 zi_44 zi_773 (by decide +kernel) rfl rfl rfl (by decide) (Nat.le_of_ble_eq_true rfl) ⟨by show _ ≤ 601024; omega, by show _ ≤ 7293034; omega⟩ zd_L_law_256 (fun _ _ _ h => h.elim) (fun v9 S2 L2 hq => ?_)
  obtain ⟨b9, rfl, hb9, hc, hR2, hfr, hsm⟩ := hq
  refine jw_istore zd_L_law_259 (by decide) ?_
  refine jw_aload_n zd_L_law_261 rfl ?_
  refine jw_callV (n := 0) (kc_thrown hls) rfl rfl rfl (rl_m (by decide)) (by decide) zi_759 zi_760 zi_761 zi_44 zi_762 (by decide +kernel) rfl rfl rfl (by decide) (Nat.le_of_ble_eq_true rfl) ⟨by show _ ≤ 601024; omega, by show _ ≤ 7293034; omega⟩ zd_L_law_262 (fun _ _ _ h => h.elim) (fun v8 S8 L8 hq => ?_)
  obtain ⟨rfl, rfl, rfl⟩ := hq
  rw [hc]
  refine jw_iload zd_L_law_265 rfl ?_
  refine jw_icmp_eq 272 zd_L_law_267 (by decide) (fun _ => ?_) (fun h => absurd rfl h)
  refine jw_iload zd_L_law_272 rfl ?_
  refine jw_if_ne 289 zd_L_law_274 (by decide) (fun h_274 => ?_) (fun h_274 => ?_)
  · refine jw_goto 1187 zd_L_law_289 (by decide) ?_
    exact jw_sub [(0, av_a b), (1, av_r 0), (2, av_r 400), (3, av_r 500), (4, av_i (nI i))] ⟨rfl, rfl, rfl, rfl, rfl, trivial⟩ (hnext _ _ _ _ _ (lw_next hI.1 hN hR2 hfr) (by omega) (by omega))
  · refine jw_aload_n zd_L_law_277 rfl ?_
    refine jw_iconst (v := 0) zd_L_law_278 (by decide) ?_
    refine jw_lldN (r := 500) (c := 0) rfl rfl (by decide) (n := 1) (by decide) (rl_m (by decide)) (by decide) zd_L_law_279 ?_
    rw [hsm 500 (by decide) (by decide), hv h_274]
    refine jw_iload zd_L_law_280 rfl ?_
    refine jw_i2l zd_L_law_282 ?_
    refine jw_lcmp zd_L_law_283 ?_
    refine jw_if_eq 289 zd_L_law_284 (by decide) (fun _ => ?_) (fun h => absurd ((lg_cmp_eq _ _).mpr (by rw [hb9 h_274])) h)
    refine jw_goto 1187 zd_L_law_289 (by decide) ?_
    exact jw_sub [(0, av_a b), (1, av_r 0), (2, av_r 400), (3, av_r 500), (4, av_i (nI i))] ⟨rfl, rfl, rfl, rfl, rfl, trivial⟩ (hnext _ _ _ _ _ (lw_next hI.1 hN hR2 hfr) (by omega) (by omega))
set_option maxRecDepth 100000 in
set_option maxHeartbeats 4000000 in
theorem law_1B {p : Program} {l : Launch} {e : Env} {s : State} {m : MethodId} {b Lx : Nat} {xs : Nat → Int32} {below : List Frame} {meth : Method} {c0 : Code} {Q : State → Prop} {D : va_G} {tab : List ExceptionTableEntry} {A : Nat → Prop} (hls : l.stackTraces = false) (hX : va_X b Lx xs s s.heap) (hbl : b < s.heap.size) (hbA : ¬ A b) (hL : Lx ≤ 2560) {i : Nat} (hi : i + 5 ≤ Lx) {w : wd_T} {S : Nat → Nat → Int32} {L : Nat → Nat → Int64} (hI : lw_I w S) {kc ks : Nat} (hkc : kc + 3 ≤ 601024) (hks : ks + 20 ≤ 7293034) (h0 : ob (xs (i + 1)) 0 255 = false) (h1 : ob (xs (i + 2)) 0 3 = true) (hnext : ∀ (w : wd_T) (S : Nat → Nat → Int32) (L : Nat → Nat → Int64) (kc1 ks1 : Nat), lw_I w S → kc1 ≤ kc + 3 → ks1 ≤ ks + 20 → jw_J p l e room_1 s m #[Value.ref b] below meth c0 Q D zn_L code 7 ret tab A w kc1 ks1 1187 [(0, av_a b), (1, av_r 0), (2, av_r 400), (3, av_r 500), (4, av_i (nI i))] [] S L) : jw_J p l e room_1 s m #[Value.ref b] below meth c0 Q D zn_L code 7 ret tab A w kc ks 200 [(0, av_a b), (1, av_r 0), (2, av_r 400), (3, av_r 500), (4, av_i (nI i))] [] S L := by
  have h12 := hI.1.1.1
  have h13 := hI.1.1.2.1
  refine jw_aload_n zd_L_law_200 rfl ?_
  refine jw_arg hX hbl hbA hL (i := i) (j := 1) (by omega) rfl rfl zd_L_law_201 zd_L_law_202 zd_L_law_204 (by decide) zd_L_law_205 zd_L_law_206 ?_
  refine jw_arg hX hbl hbA hL (i := i) (j := 2) (by omega) rfl rfl zd_L_law_207 zd_L_law_208 zd_L_law_210 (by decide) zd_L_law_211 zd_L_law_212 ?_
  refine jw_arg hX hbl hbA hL (i := i) (j := 3) (by omega) rfl rfl zd_L_law_213 zd_L_law_214 zd_L_law_216 (by decide) zd_L_law_217 zd_L_law_218 ?_
  refine jw_arg hX hbl hbA hL (i := i) (j := 4) (by omega) rfl rfl zd_L_law_219 zd_L_law_220 zd_L_law_222 (by decide) zd_L_law_223 zd_L_law_224 ?_
  refine jw_aload_n zd_L_law_225 rfl ?_
  refine jw_callSX (n := 6) (kc_LplaceF hls hI.1.1 (Or.inl (by rw [h1]; simp))) rfl zi_369 zi_370 zi_40 zi_371 (by decide +kernel) rfl rfl rfl (by decide) (Nat.le_of_ble_eq_true rfl) ⟨by show _ ≤ 601024; omega, by show _ ≤ 7293034; omega⟩ zd_L_law_226 (fun _ _ _ h => h.elim) (fun v9 S1 L1 hq => ?_)
  obtain ⟨c, v, N, rfl, hO, hN, hL1, hv⟩ := hq
  have hR1 := lw_in hI hN (fun r _ => by rw [hO.1])
  obtain ⟨hNS, hcs⟩ := hO
  subst hNS
  have hc1 : c = 1 := by
    rcases hcs with ⟨-, h⟩ | ⟨-, g1, -⟩
    · exact h
    · exact absurd (g1.symm.trans h1) (by decide)
  subst hc1
  refine jw_istore zd_L_law_229 (by decide) ?_
  refine jw_aload_n zd_L_law_231 rfl ?_
  refine jw_arg hX hbl hbA hL (i := i) (j := 1) (by omega) rfl rfl zd_L_law_232 zd_L_law_233 zd_L_law_235 (by decide) zd_L_law_236 zd_L_law_237 ?_
  refine jw_arg hX hbl hbA hL (i := i) (j := 2) (by omega) rfl rfl zd_L_law_238 zd_L_law_239 zd_L_law_241 (by decide) zd_L_law_242 zd_L_law_243 ?_
  refine jw_arg hX hbl hbA hL (i := i) (j := 3) (by omega) rfl rfl zd_L_law_244 zd_L_law_245 zd_L_law_247 (by decide) zd_L_law_248 zd_L_law_249 ?_
  refine jw_arg hX hbl hbA hL (i := i) (j := 4) (by omega) rfl rfl zd_L_law_250 zd_L_law_251 zd_L_law_253 (by decide) zd_L_law_254 zd_L_law_255 ?_
  refine jw_callV (n := 4) (kc_MplaceB hls hR1 h0 h1 (v := v)) rfl rfl rfl (rl_m (by decide)) (by decide) zi_770 zi_771 zi_772 zi_44 zi_773 (by decide +kernel) rfl rfl rfl (by decide) (Nat.le_of_ble_eq_true rfl) ⟨by show _ ≤ 601024; omega, by show _ ≤ 7293034; omega⟩ zd_L_law_256 (fun _ _ _ h => h.elim) (fun v9 S2 L2 hq => ?_)
  obtain ⟨b9, rfl, hb9, hc, hR2, hfr, hsm⟩ := hq
  refine jw_istore zd_L_law_259 (by decide) ?_
  refine jw_aload_n zd_L_law_261 rfl ?_
  refine jw_callV (n := 0) (kc_thrown hls) rfl rfl rfl (rl_m (by decide)) (by decide) zi_759 zi_760 zi_761 zi_44 zi_762 (by decide +kernel) rfl rfl rfl (by decide) (Nat.le_of_ble_eq_true rfl) ⟨by show _ ≤ 601024; omega, by show _ ≤ 7293034; omega⟩ zd_L_law_262 (fun _ _ _ h => h.elim) (fun v8 S8 L8 hq => ?_)
  obtain ⟨rfl, rfl, rfl⟩ := hq
  rw [hc]
  refine jw_iload zd_L_law_265 rfl ?_
  refine jw_icmp_eq 272 zd_L_law_267 (by decide) (fun _ => ?_) (fun h => absurd rfl h)
  refine jw_iload zd_L_law_272 rfl ?_
  refine jw_if_ne 289 zd_L_law_274 (by decide) (fun h_274 => ?_) (fun h_274 => ?_)
  · refine jw_goto 1187 zd_L_law_289 (by decide) ?_
    exact jw_sub [(0, av_a b), (1, av_r 0), (2, av_r 400), (3, av_r 500), (4, av_i (nI i))] ⟨rfl, rfl, rfl, rfl, rfl, trivial⟩ (hnext _ _ _ _ _ (lw_next hI.1 hN hR2 hfr) (by omega) (by omega))
  · refine jw_aload_n zd_L_law_277 rfl ?_
    refine jw_iconst (v := 0) zd_L_law_278 (by decide) ?_
    refine jw_lldN (r := 500) (c := 0) rfl rfl (by decide) (n := 1) (by decide) (rl_m (by decide)) (by decide) zd_L_law_279 ?_
    rw [hsm 500 (by decide) (by decide), hv h_274]
    refine jw_iload zd_L_law_280 rfl ?_
    refine jw_i2l zd_L_law_282 ?_
    refine jw_lcmp zd_L_law_283 ?_
    refine jw_if_eq 289 zd_L_law_284 (by decide) (fun _ => ?_) (fun h => absurd ((lg_cmp_eq _ _).mpr (by rw [hb9 h_274])) h)
    refine jw_goto 1187 zd_L_law_289 (by decide) ?_
    exact jw_sub [(0, av_a b), (1, av_r 0), (2, av_r 400), (3, av_r 500), (4, av_i (nI i))] ⟨rfl, rfl, rfl, rfl, rfl, trivial⟩ (hnext _ _ _ _ _ (lw_next hI.1 hN hR2 hfr) (by omega) (by omega))
set_option maxRecDepth 100000 in
set_option maxHeartbeats 4000000 in
theorem law_1C {p : Program} {l : Launch} {e : Env} {s : State} {m : MethodId} {b Lx : Nat} {xs : Nat → Int32} {below : List Frame} {meth : Method} {c0 : Code} {Q : State → Prop} {D : va_G} {tab : List ExceptionTableEntry} {A : Nat → Prop} (hls : l.stackTraces = false) (hX : va_X b Lx xs s s.heap) (hbl : b < s.heap.size) (hbA : ¬ A b) (hL : Lx ≤ 2560) {i : Nat} (hi : i + 5 ≤ Lx) {w : wd_T} {S : Nat → Nat → Int32} {L : Nat → Nat → Int64} (hI : lw_I w S) {kc ks : Nat} (hkc : kc + 3 ≤ 601024) (hks : ks + 20 ≤ 7293034) (h0 : ob (xs (i + 1)) 0 255 = false) (h1 : ob (xs (i + 2)) 0 3 = false) (h2 : ob (xs (i + 3)) 0 1000 = true) (hnext : ∀ (w : wd_T) (S : Nat → Nat → Int32) (L : Nat → Nat → Int64) (kc1 ks1 : Nat), lw_I w S → kc1 ≤ kc + 3 → ks1 ≤ ks + 20 → jw_J p l e room_1 s m #[Value.ref b] below meth c0 Q D zn_L code 7 ret tab A w kc1 ks1 1187 [(0, av_a b), (1, av_r 0), (2, av_r 400), (3, av_r 500), (4, av_i (nI i))] [] S L) : jw_J p l e room_1 s m #[Value.ref b] below meth c0 Q D zn_L code 7 ret tab A w kc ks 200 [(0, av_a b), (1, av_r 0), (2, av_r 400), (3, av_r 500), (4, av_i (nI i))] [] S L := by
  have h12 := hI.1.1.1
  have h13 := hI.1.1.2.1
  refine jw_aload_n zd_L_law_200 rfl ?_
  refine jw_arg hX hbl hbA hL (i := i) (j := 1) (by omega) rfl rfl zd_L_law_201 zd_L_law_202 zd_L_law_204 (by decide) zd_L_law_205 zd_L_law_206 ?_
  refine jw_arg hX hbl hbA hL (i := i) (j := 2) (by omega) rfl rfl zd_L_law_207 zd_L_law_208 zd_L_law_210 (by decide) zd_L_law_211 zd_L_law_212 ?_
  refine jw_arg hX hbl hbA hL (i := i) (j := 3) (by omega) rfl rfl zd_L_law_213 zd_L_law_214 zd_L_law_216 (by decide) zd_L_law_217 zd_L_law_218 ?_
  refine jw_arg hX hbl hbA hL (i := i) (j := 4) (by omega) rfl rfl zd_L_law_219 zd_L_law_220 zd_L_law_222 (by decide) zd_L_law_223 zd_L_law_224 ?_
  refine jw_aload_n zd_L_law_225 rfl ?_
  refine jw_callSX (n := 6) (kc_LplaceF hls hI.1.1 (Or.inl (by rw [h2]; simp))) rfl zi_369 zi_370 zi_40 zi_371 (by decide +kernel) rfl rfl rfl (by decide) (Nat.le_of_ble_eq_true rfl) ⟨by show _ ≤ 601024; omega, by show _ ≤ 7293034; omega⟩ zd_L_law_226 (fun _ _ _ h => h.elim) (fun v9 S1 L1 hq => ?_)
  obtain ⟨c, v, N, rfl, hO, hN, hL1, hv⟩ := hq
  have hR1 := lw_in hI hN (fun r _ => by rw [hO.1])
  obtain ⟨hNS, hcs⟩ := hO
  subst hNS
  have hc1 : c = 1 := by
    rcases hcs with ⟨-, h⟩ | ⟨-, -, g1, -⟩
    · exact h
    · exact absurd (g1.symm.trans h2) (by decide)
  subst hc1
  refine jw_istore zd_L_law_229 (by decide) ?_
  refine jw_aload_n zd_L_law_231 rfl ?_
  refine jw_arg hX hbl hbA hL (i := i) (j := 1) (by omega) rfl rfl zd_L_law_232 zd_L_law_233 zd_L_law_235 (by decide) zd_L_law_236 zd_L_law_237 ?_
  refine jw_arg hX hbl hbA hL (i := i) (j := 2) (by omega) rfl rfl zd_L_law_238 zd_L_law_239 zd_L_law_241 (by decide) zd_L_law_242 zd_L_law_243 ?_
  refine jw_arg hX hbl hbA hL (i := i) (j := 3) (by omega) rfl rfl zd_L_law_244 zd_L_law_245 zd_L_law_247 (by decide) zd_L_law_248 zd_L_law_249 ?_
  refine jw_arg hX hbl hbA hL (i := i) (j := 4) (by omega) rfl rfl zd_L_law_250 zd_L_law_251 zd_L_law_253 (by decide) zd_L_law_254 zd_L_law_255 ?_
  refine jw_callV (n := 4) (kc_MplaceC hls hR1 h0 h1 h2 (v := v)) rfl rfl rfl (rl_m (by decide)) (by decide) zi_770 zi_771 zi_772 zi_44 zi_773 (by decide +kernel) rfl rfl rfl (by decide) (Nat.le_of_ble_eq_true rfl) ⟨by show _ ≤ 601024; omega, by show _ ≤ 7293034; omega⟩ zd_L_law_256 (fun _ _ _ h => h.elim) (fun v9 S2 L2 hq => ?_)
  obtain ⟨b9, rfl, hb9, hc, hR2, hfr, hsm⟩ := hq
  refine jw_istore zd_L_law_259 (by decide) ?_
  refine jw_aload_n zd_L_law_261 rfl ?_
  refine jw_callV (n := 0) (kc_thrown hls) rfl rfl rfl (rl_m (by decide)) (by decide) zi_759 zi_760 zi_761 zi_44 zi_762 (by decide +kernel) rfl rfl rfl (by decide) (Nat.le_of_ble_eq_true rfl) ⟨by show _ ≤ 601024; omega, by show _ ≤ 7293034; omega⟩ zd_L_law_262 (fun _ _ _ h => h.elim) (fun v8 S8 L8 hq => ?_)
  obtain ⟨rfl, rfl, rfl⟩ := hq
  rw [hc]
  refine jw_iload zd_L_law_265 rfl ?_
  refine jw_icmp_eq 272 zd_L_law_267 (by decide) (fun _ => ?_) (fun h => absurd rfl h)
  refine jw_iload zd_L_law_272 rfl ?_
  refine jw_if_ne 289 zd_L_law_274 (by decide) (fun h_274 => ?_) (fun h_274 => ?_)
  · refine jw_goto 1187 zd_L_law_289 (by decide) ?_
    exact jw_sub [(0, av_a b), (1, av_r 0), (2, av_r 400), (3, av_r 500), (4, av_i (nI i))] ⟨rfl, rfl, rfl, rfl, rfl, trivial⟩ (hnext _ _ _ _ _ (lw_next hI.1 hN hR2 hfr) (by omega) (by omega))
  · refine jw_aload_n zd_L_law_277 rfl ?_
    refine jw_iconst (v := 0) zd_L_law_278 (by decide) ?_
    refine jw_lldN (r := 500) (c := 0) rfl rfl (by decide) (n := 1) (by decide) (rl_m (by decide)) (by decide) zd_L_law_279 ?_
    rw [hsm 500 (by decide) (by decide), hv h_274]
    refine jw_iload zd_L_law_280 rfl ?_
    refine jw_i2l zd_L_law_282 ?_
    refine jw_lcmp zd_L_law_283 ?_
    refine jw_if_eq 289 zd_L_law_284 (by decide) (fun _ => ?_) (fun h => absurd ((lg_cmp_eq _ _).mpr (by rw [hb9 h_274])) h)
    refine jw_goto 1187 zd_L_law_289 (by decide) ?_
    exact jw_sub [(0, av_a b), (1, av_r 0), (2, av_r 400), (3, av_r 500), (4, av_i (nI i))] ⟨rfl, rfl, rfl, rfl, rfl, trivial⟩ (hnext _ _ _ _ _ (lw_next hI.1 hN hR2 hfr) (by omega) (by omega))
set_option maxRecDepth 100000 in
set_option maxHeartbeats 4000000 in
theorem law_1D {p : Program} {l : Launch} {e : Env} {s : State} {m : MethodId} {b Lx : Nat} {xs : Nat → Int32} {below : List Frame} {meth : Method} {c0 : Code} {Q : State → Prop} {D : va_G} {tab : List ExceptionTableEntry} {A : Nat → Prop} (hls : l.stackTraces = false) (hX : va_X b Lx xs s s.heap) (hbl : b < s.heap.size) (hbA : ¬ A b) (hL : Lx ≤ 2560) {i : Nat} (hi : i + 5 ≤ Lx) {w : wd_T} {S : Nat → Nat → Int32} {L : Nat → Nat → Int64} (hI : lw_I w S) {kc ks : Nat} (hkc : kc + 3 ≤ 601024) (hks : ks + 20 ≤ 7293034) (h0 : ob (xs (i + 1)) 0 255 = false) (h1 : ob (xs (i + 2)) 0 3 = false) (h2 : ob (xs (i + 3)) 0 1000 = false) (h3 : ob (xs (i + 4)) 0 1000 = true) (hnext : ∀ (w : wd_T) (S : Nat → Nat → Int32) (L : Nat → Nat → Int64) (kc1 ks1 : Nat), lw_I w S → kc1 ≤ kc + 3 → ks1 ≤ ks + 20 → jw_J p l e room_1 s m #[Value.ref b] below meth c0 Q D zn_L code 7 ret tab A w kc1 ks1 1187 [(0, av_a b), (1, av_r 0), (2, av_r 400), (3, av_r 500), (4, av_i (nI i))] [] S L) : jw_J p l e room_1 s m #[Value.ref b] below meth c0 Q D zn_L code 7 ret tab A w kc ks 200 [(0, av_a b), (1, av_r 0), (2, av_r 400), (3, av_r 500), (4, av_i (nI i))] [] S L := by
  have h12 := hI.1.1.1
  have h13 := hI.1.1.2.1
  refine jw_aload_n zd_L_law_200 rfl ?_
  refine jw_arg hX hbl hbA hL (i := i) (j := 1) (by omega) rfl rfl zd_L_law_201 zd_L_law_202 zd_L_law_204 (by decide) zd_L_law_205 zd_L_law_206 ?_
  refine jw_arg hX hbl hbA hL (i := i) (j := 2) (by omega) rfl rfl zd_L_law_207 zd_L_law_208 zd_L_law_210 (by decide) zd_L_law_211 zd_L_law_212 ?_
  refine jw_arg hX hbl hbA hL (i := i) (j := 3) (by omega) rfl rfl zd_L_law_213 zd_L_law_214 zd_L_law_216 (by decide) zd_L_law_217 zd_L_law_218 ?_
  refine jw_arg hX hbl hbA hL (i := i) (j := 4) (by omega) rfl rfl zd_L_law_219 zd_L_law_220 zd_L_law_222 (by decide) zd_L_law_223 zd_L_law_224 ?_
  refine jw_aload_n zd_L_law_225 rfl ?_
  refine jw_callSX (n := 6) (kc_LplaceF hls hI.1.1 (Or.inl (by rw [h3]; simp))) rfl zi_369 zi_370 zi_40 zi_371 (by decide +kernel) rfl rfl rfl (by decide) (Nat.le_of_ble_eq_true rfl) ⟨by show _ ≤ 601024; omega, by show _ ≤ 7293034; omega⟩ zd_L_law_226 (fun _ _ _ h => h.elim) (fun v9 S1 L1 hq => ?_)
  obtain ⟨c, v, N, rfl, hO, hN, hL1, hv⟩ := hq
  have hR1 := lw_in hI hN (fun r _ => by rw [hO.1])
  obtain ⟨hNS, hcs⟩ := hO
  subst hNS
  have hc1 : c = 1 := by
    rcases hcs with ⟨-, h⟩ | ⟨-, -, -, g1, -⟩
    · exact h
    · exact absurd (g1.symm.trans h3) (by decide)
  subst hc1
  refine jw_istore zd_L_law_229 (by decide) ?_
  refine jw_aload_n zd_L_law_231 rfl ?_
  refine jw_arg hX hbl hbA hL (i := i) (j := 1) (by omega) rfl rfl zd_L_law_232 zd_L_law_233 zd_L_law_235 (by decide) zd_L_law_236 zd_L_law_237 ?_
  refine jw_arg hX hbl hbA hL (i := i) (j := 2) (by omega) rfl rfl zd_L_law_238 zd_L_law_239 zd_L_law_241 (by decide) zd_L_law_242 zd_L_law_243 ?_
  refine jw_arg hX hbl hbA hL (i := i) (j := 3) (by omega) rfl rfl zd_L_law_244 zd_L_law_245 zd_L_law_247 (by decide) zd_L_law_248 zd_L_law_249 ?_
  refine jw_arg hX hbl hbA hL (i := i) (j := 4) (by omega) rfl rfl zd_L_law_250 zd_L_law_251 zd_L_law_253 (by decide) zd_L_law_254 zd_L_law_255 ?_
  refine jw_callV (n := 4) (kc_MplaceD hls hR1 h0 h1 h2 h3 (v := v)) rfl rfl rfl (rl_m (by decide)) (by decide) zi_770 zi_771 zi_772 zi_44 zi_773 (by decide +kernel) rfl rfl rfl (by decide) (Nat.le_of_ble_eq_true rfl) ⟨by show _ ≤ 601024; omega, by show _ ≤ 7293034; omega⟩ zd_L_law_256 (fun _ _ _ h => h.elim) (fun v9 S2 L2 hq => ?_)
  obtain ⟨b9, rfl, hb9, hc, hR2, hfr, hsm⟩ := hq
  refine jw_istore zd_L_law_259 (by decide) ?_
  refine jw_aload_n zd_L_law_261 rfl ?_
  refine jw_callV (n := 0) (kc_thrown hls) rfl rfl rfl (rl_m (by decide)) (by decide) zi_759 zi_760 zi_761 zi_44 zi_762 (by decide +kernel) rfl rfl rfl (by decide) (Nat.le_of_ble_eq_true rfl) ⟨by show _ ≤ 601024; omega, by show _ ≤ 7293034; omega⟩ zd_L_law_262 (fun _ _ _ h => h.elim) (fun v8 S8 L8 hq => ?_)
  obtain ⟨rfl, rfl, rfl⟩ := hq
  rw [hc]
  refine jw_iload zd_L_law_265 rfl ?_
  refine jw_icmp_eq 272 zd_L_law_267 (by decide) (fun _ => ?_) (fun h => absurd rfl h)
  refine jw_iload zd_L_law_272 rfl ?_
  refine jw_if_ne 289 zd_L_law_274 (by decide) (fun h_274 => ?_) (fun h_274 => ?_)
  · refine jw_goto 1187 zd_L_law_289 (by decide) ?_
    exact jw_sub [(0, av_a b), (1, av_r 0), (2, av_r 400), (3, av_r 500), (4, av_i (nI i))] ⟨rfl, rfl, rfl, rfl, rfl, trivial⟩ (hnext _ _ _ _ _ (lw_next hI.1 hN hR2 hfr) (by omega) (by omega))
  · refine jw_aload_n zd_L_law_277 rfl ?_
    refine jw_iconst (v := 0) zd_L_law_278 (by decide) ?_
    refine jw_lldN (r := 500) (c := 0) rfl rfl (by decide) (n := 1) (by decide) (rl_m (by decide)) (by decide) zd_L_law_279 ?_
    rw [hsm 500 (by decide) (by decide), hv h_274]
    refine jw_iload zd_L_law_280 rfl ?_
    refine jw_i2l zd_L_law_282 ?_
    refine jw_lcmp zd_L_law_283 ?_
    refine jw_if_eq 289 zd_L_law_284 (by decide) (fun _ => ?_) (fun h => absurd ((lg_cmp_eq _ _).mpr (by rw [hb9 h_274])) h)
    refine jw_goto 1187 zd_L_law_289 (by decide) ?_
    exact jw_sub [(0, av_a b), (1, av_r 0), (2, av_r 400), (3, av_r 500), (4, av_i (nI i))] ⟨rfl, rfl, rfl, rfl, rfl, trivial⟩ (hnext _ _ _ _ _ (lw_next hI.1 hN hR2 hfr) (by omega) (by omega))
set_option maxRecDepth 100000 in
set_option maxHeartbeats 4000000 in
theorem law_1E {p : Program} {l : Launch} {e : Env} {s : State} {m : MethodId} {b Lx : Nat} {xs : Nat → Int32} {below : List Frame} {meth : Method} {c0 : Code} {Q : State → Prop} {D : va_G} {tab : List ExceptionTableEntry} {A : Nat → Prop} (hls : l.stackTraces = false) (hX : va_X b Lx xs s s.heap) (hbl : b < s.heap.size) (hbA : ¬ A b) (hL : Lx ≤ 2560) {i : Nat} (hi : i + 5 ≤ Lx) {w : wd_T} {S : Nat → Nat → Int32} {L : Nat → Nat → Int64} (hI : lw_I w S) {kc ks : Nat} (hkc : kc + 3 ≤ 601024) (hks : ks + 20 ≤ 7293034) (h0 : ob (xs (i + 1)) 0 255 = false) (h1 : ob (xs (i + 2)) 0 3 = false) (h2 : ob (xs (i + 3)) 0 1000 = false) (h3 : ob (xs (i + 4)) 0 1000 = false) (hfull : w.2.2.2 = 12) (hnext : ∀ (w : wd_T) (S : Nat → Nat → Int32) (L : Nat → Nat → Int64) (kc1 ks1 : Nat), lw_I w S → kc1 ≤ kc + 3 → ks1 ≤ ks + 20 → jw_J p l e room_1 s m #[Value.ref b] below meth c0 Q D zn_L code 7 ret tab A w kc1 ks1 1187 [(0, av_a b), (1, av_r 0), (2, av_r 400), (3, av_r 500), (4, av_i (nI i))] [] S L) : jw_J p l e room_1 s m #[Value.ref b] below meth c0 Q D zn_L code 7 ret tab A w kc ks 200 [(0, av_a b), (1, av_r 0), (2, av_r 400), (3, av_r 500), (4, av_i (nI i))] [] S L := by
  have h12 := hI.1.1.1
  have h13 := hI.1.1.2.1
  refine jw_aload_n zd_L_law_200 rfl ?_
  refine jw_arg hX hbl hbA hL (i := i) (j := 1) (by omega) rfl rfl zd_L_law_201 zd_L_law_202 zd_L_law_204 (by decide) zd_L_law_205 zd_L_law_206 ?_
  refine jw_arg hX hbl hbA hL (i := i) (j := 2) (by omega) rfl rfl zd_L_law_207 zd_L_law_208 zd_L_law_210 (by decide) zd_L_law_211 zd_L_law_212 ?_
  refine jw_arg hX hbl hbA hL (i := i) (j := 3) (by omega) rfl rfl zd_L_law_213 zd_L_law_214 zd_L_law_216 (by decide) zd_L_law_217 zd_L_law_218 ?_
  refine jw_arg hX hbl hbA hL (i := i) (j := 4) (by omega) rfl rfl zd_L_law_219 zd_L_law_220 zd_L_law_222 (by decide) zd_L_law_223 zd_L_law_224 ?_
  refine jw_aload_n zd_L_law_225 rfl ?_
  refine jw_callSX (n := 6) (kc_LplaceF hls hI.1.1 (Or.inr hfull)) rfl zi_369 zi_370 zi_40 zi_371 (by decide +kernel) rfl rfl rfl (by decide) (Nat.le_of_ble_eq_true rfl) ⟨by show _ ≤ 601024; omega, by show _ ≤ 7293034; omega⟩ zd_L_law_226 (fun _ _ _ h => h.elim) (fun v9 S1 L1 hq => ?_)
  obtain ⟨c, v, N, rfl, hO, hN, hL1, hv⟩ := hq
  have hR1 := lw_in hI hN (fun r _ => by rw [hO.1])
  obtain ⟨hNS, hcs⟩ := hO
  subst hNS
  have hc1 : c = 2 := by
    rcases hcs with ⟨h, -⟩ | ⟨-, -, -, -, -, h⟩
    · rw [h0, h1, h2, h3] at h; exact absurd h (by decide)
    · exact h
  subst hc1
  refine jw_istore zd_L_law_229 (by decide) ?_
  refine jw_aload_n zd_L_law_231 rfl ?_
  refine jw_arg hX hbl hbA hL (i := i) (j := 1) (by omega) rfl rfl zd_L_law_232 zd_L_law_233 zd_L_law_235 (by decide) zd_L_law_236 zd_L_law_237 ?_
  refine jw_arg hX hbl hbA hL (i := i) (j := 2) (by omega) rfl rfl zd_L_law_238 zd_L_law_239 zd_L_law_241 (by decide) zd_L_law_242 zd_L_law_243 ?_
  refine jw_arg hX hbl hbA hL (i := i) (j := 3) (by omega) rfl rfl zd_L_law_244 zd_L_law_245 zd_L_law_247 (by decide) zd_L_law_248 zd_L_law_249 ?_
  refine jw_arg hX hbl hbA hL (i := i) (j := 4) (by omega) rfl rfl zd_L_law_250 zd_L_law_251 zd_L_law_253 (by decide) zd_L_law_254 zd_L_law_255 ?_
  refine jw_callV (n := 4) (kc_MplaceE hls hR1 h0 h1 h2 h3 hfull (v := v)) rfl rfl rfl (rl_m (by decide)) (by decide) zi_770 zi_771 zi_772 zi_44 zi_773 (by decide +kernel) rfl rfl rfl (by decide) (Nat.le_of_ble_eq_true rfl) ⟨by show _ ≤ 601024; omega, by show _ ≤ 7293034; omega⟩ zd_L_law_256 (fun _ _ _ h => h.elim) (fun v9 S2 L2 hq => ?_)
  obtain ⟨b9, rfl, hb9, hc, hR2, hfr, hsm⟩ := hq
  refine jw_istore zd_L_law_259 (by decide) ?_
  refine jw_aload_n zd_L_law_261 rfl ?_
  refine jw_callV (n := 0) (kc_thrown hls) rfl rfl rfl (rl_m (by decide)) (by decide) zi_759 zi_760 zi_761 zi_44 zi_762 (by decide +kernel) rfl rfl rfl (by decide) (Nat.le_of_ble_eq_true rfl) ⟨by show _ ≤ 601024; omega, by show _ ≤ 7293034; omega⟩ zd_L_law_262 (fun _ _ _ h => h.elim) (fun v8 S8 L8 hq => ?_)
  obtain ⟨rfl, rfl, rfl⟩ := hq
  rw [hc]
  refine jw_iload zd_L_law_265 rfl ?_
  refine jw_icmp_eq 272 zd_L_law_267 (by decide) (fun _ => ?_) (fun h => absurd rfl h)
  refine jw_iload zd_L_law_272 rfl ?_
  refine jw_if_ne 289 zd_L_law_274 (by decide) (fun h_274 => ?_) (fun h_274 => ?_)
  · refine jw_goto 1187 zd_L_law_289 (by decide) ?_
    exact jw_sub [(0, av_a b), (1, av_r 0), (2, av_r 400), (3, av_r 500), (4, av_i (nI i))] ⟨rfl, rfl, rfl, rfl, rfl, trivial⟩ (hnext _ _ _ _ _ (lw_next hI.1 hN hR2 hfr) (by omega) (by omega))
  · refine jw_aload_n zd_L_law_277 rfl ?_
    refine jw_iconst (v := 0) zd_L_law_278 (by decide) ?_
    refine jw_lldN (r := 500) (c := 0) rfl rfl (by decide) (n := 1) (by decide) (rl_m (by decide)) (by decide) zd_L_law_279 ?_
    rw [hsm 500 (by decide) (by decide), hv h_274]
    refine jw_iload zd_L_law_280 rfl ?_
    refine jw_i2l zd_L_law_282 ?_
    refine jw_lcmp zd_L_law_283 ?_
    refine jw_if_eq 289 zd_L_law_284 (by decide) (fun _ => ?_) (fun h => absurd ((lg_cmp_eq _ _).mpr (by rw [hb9 h_274])) h)
    refine jw_goto 1187 zd_L_law_289 (by decide) ?_
    exact jw_sub [(0, av_a b), (1, av_r 0), (2, av_r 400), (3, av_r 500), (4, av_i (nI i))] ⟨rfl, rfl, rfl, rfl, rfl, trivial⟩ (hnext _ _ _ _ _ (lw_next hI.1 hN hR2 hfr) (by omega) (by omega))
set_option maxRecDepth 100000 in
set_option maxHeartbeats 4000000 in
theorem law_1F {p : Program} {l : Launch} {e : Env} {s : State} {m : MethodId} {b Lx : Nat} {xs : Nat → Int32} {below : List Frame} {meth : Method} {c0 : Code} {Q : State → Prop} {D : va_G} {tab : List ExceptionTableEntry} {A : Nat → Prop} (hls : l.stackTraces = false) (hX : va_X b Lx xs s s.heap) (hbl : b < s.heap.size) (hbA : ¬ A b) (hL : Lx ≤ 2560) {i : Nat} (hi : i + 5 ≤ Lx) {w : wd_T} {S : Nat → Nat → Int32} {L : Nat → Nat → Int64} (hI : lw_I w S) {kc ks : Nat} (hkc : kc + 3 ≤ 601024) (hks : ks + 20 ≤ 7293034) (h0 : ob (xs (i + 1)) 0 255 = false) (h1 : ob (xs (i + 2)) 0 3 = false) (h2 : ob (xs (i + 3)) 0 1000 = false) (h3 : ob (xs (i + 4)) 0 1000 = false) (hlt : w.2.2.2 < 12) (hnext : ∀ (w : wd_T) (S : Nat → Nat → Int32) (L : Nat → Nat → Int64) (kc1 ks1 : Nat), lw_I w S → kc1 ≤ kc + 3 → ks1 ≤ ks + 20 → jw_J p l e room_1 s m #[Value.ref b] below meth c0 Q D zn_L code 7 ret tab A w kc1 ks1 1187 [(0, av_a b), (1, av_r 0), (2, av_r 400), (3, av_r 500), (4, av_i (nI i))] [] S L) : jw_J p l e room_1 s m #[Value.ref b] below meth c0 Q D zn_L code 7 ret tab A w kc ks 200 [(0, av_a b), (1, av_r 0), (2, av_r 400), (3, av_r 500), (4, av_i (nI i))] [] S L := by
  have h12 := hI.1.1.1
  have h13 := hI.1.1.2.1
  refine jw_aload_n zd_L_law_200 rfl ?_
  refine jw_arg hX hbl hbA hL (i := i) (j := 1) (by omega) rfl rfl zd_L_law_201 zd_L_law_202 zd_L_law_204 (by decide) zd_L_law_205 zd_L_law_206 ?_
  refine jw_arg hX hbl hbA hL (i := i) (j := 2) (by omega) rfl rfl zd_L_law_207 zd_L_law_208 zd_L_law_210 (by decide) zd_L_law_211 zd_L_law_212 ?_
  refine jw_arg hX hbl hbA hL (i := i) (j := 3) (by omega) rfl rfl zd_L_law_213 zd_L_law_214 zd_L_law_216 (by decide) zd_L_law_217 zd_L_law_218 ?_
  refine jw_arg hX hbl hbA hL (i := i) (j := 4) (by omega) rfl rfl zd_L_law_219 zd_L_law_220 zd_L_law_222 (by decide) zd_L_law_223 zd_L_law_224 ?_
  refine jw_aload_n zd_L_law_225 rfl ?_
  refine jw_callGS (n := 6) (kc_LplaceG hls hI.1.1 hlt h0 h1 h2 h3) rfl zi_369 zi_370 zi_40 zi_371 (by decide +kernel) rfl rfl rfl (by decide) (Nat.le_of_ble_eq_true rfl) ⟨by show _ ≤ 601024; omega, by show _ ≤ 7293034; omega⟩ zd_L_law_226 (fun v9 w9 S9 L9 hq => ?_) (fun v9 w9 S9 L9 hq => ?_)
  · obtain ⟨q, rfl, rfl, rfl, rfl⟩ := hq
    refine ⟨rfl, jl_same (fun z hz => ?_), rfl⟩
    simp only [List.mem_cons, List.not_mem_nil, or_false] at hz
    rcases hz with rfl | rfl | rfl | rfl | rfl <;> first | rfl | (show Value.ref _ = Value.ref _; rw [wp_o (by omega)])
  obtain ⟨q, rfl, rfl, rfl, rfl⟩ := hq
  have hR1 := md_hi (S1 := np_G w.2.2.2 S (xs (i + 1)) (xs (i + 2)) (xs (i + 3)) (xs (i + 4))) (fun r h1 h2 => np_ne (by omega) (by omega)) hI.2
  refine jw_istore zd_L_law_229 (by decide) ?_
  refine jw_aload_n zd_L_law_231 rfl ?_
  refine jw_arg hX hbl hbA hL (i := i) (j := 1) (by omega) rfl rfl zd_L_law_232 zd_L_law_233 zd_L_law_235 (by decide) zd_L_law_236 zd_L_law_237 ?_
  refine jw_arg hX hbl hbA hL (i := i) (j := 2) (by omega) rfl rfl zd_L_law_238 zd_L_law_239 zd_L_law_241 (by decide) zd_L_law_242 zd_L_law_243 ?_
  refine jw_arg hX hbl hbA hL (i := i) (j := 3) (by omega) rfl rfl zd_L_law_244 zd_L_law_245 zd_L_law_247 (by decide) zd_L_law_248 zd_L_law_249 ?_
  refine jw_arg hX hbl hbA hL (i := i) (j := 4) (by omega) rfl rfl zd_L_law_250 zd_L_law_251 zd_L_law_253 (by decide) zd_L_law_254 zd_L_law_255 ?_
  refine jw_callV (n := 4) (kc_MplaceF hls hR1 hlt rfl (w1 := wp w q) rfl rfl h12 h0 h1 h2 h3) rfl rfl rfl (rl_m (by decide)) (by decide) zi_770 zi_771 zi_772 zi_44 zi_773 (by decide +kernel) rfl rfl rfl (by decide) (Nat.le_of_ble_eq_true rfl) ⟨by show _ ≤ 601024; omega, by show _ ≤ 7293034; omega⟩ zd_L_law_256 (fun _ _ _ h => h.elim) (fun v9 S2 L2 hq => ?_)
  obtain ⟨b9, rfl, hb9, hc, hR2, hfr, hsm⟩ := hq
  refine jw_istore zd_L_law_259 (by decide) ?_
  refine jw_aload_n zd_L_law_261 rfl ?_
  refine jw_callV (n := 0) (kc_thrown hls) rfl rfl rfl (rl_m (by decide)) (by decide) zi_759 zi_760 zi_761 zi_44 zi_762 (by decide +kernel) rfl rfl rfl (by decide) (Nat.le_of_ble_eq_true rfl) ⟨by show _ ≤ 601024; omega, by show _ ≤ 7293034; omega⟩ zd_L_law_262 (fun _ _ _ h => h.elim) (fun v8 S8 L8 hq => ?_)
  obtain ⟨rfl, rfl, rfl⟩ := hq
  rw [hc]
  refine jw_iload zd_L_law_265 rfl ?_
  refine jw_icmp_eq 272 zd_L_law_267 (by decide) (fun _ => ?_) (fun h => absurd rfl h)
  refine jw_iload zd_L_law_272 rfl ?_
  refine jw_if_ne 289 zd_L_law_274 (by decide) (fun h_274 => ?_) (fun h_274 => ?_)
  · refine jw_goto 1187 zd_L_law_289 (by decide) ?_
    exact jw_sub [(0, av_a b), (1, av_r 0), (2, av_r 400), (3, av_r 500), (4, av_i (nI i))] ⟨rfl, rfl, rfl, rfl, rfl, trivial⟩ (hnext _ _ _ _ _ (lw_next (ok_A_np hI.1 hlt rfl rfl rfl h1 h2 h3) (sw_refl _) hR2 hfr) (by omega) (by omega))
  · refine jw_aload_n zd_L_law_277 rfl ?_
    refine jw_iconst (v := 0) zd_L_law_278 (by decide) ?_
    refine jw_lldN (r := 500) (c := 0) rfl rfl (by decide) (n := 1) (by decide) (rl_m (by decide)) (by decide) zd_L_law_279 ?_
    rw [hsm 500 (by decide) (by decide), va_up_self, pk_uLs]
    refine jw_iload zd_L_law_280 rfl ?_
    refine jw_i2l zd_L_law_282 ?_
    refine jw_lcmp zd_L_law_283 ?_
    refine jw_if_eq 289 zd_L_law_284 (by decide) (fun _ => ?_) (fun h => absurd ((lg_cmp_eq _ _).mpr (by rw [hb9 rfl])) h)
    refine jw_goto 1187 zd_L_law_289 (by decide) ?_
    exact jw_sub [(0, av_a b), (1, av_r 0), (2, av_r 400), (3, av_r 500), (4, av_i (nI i))] ⟨rfl, rfl, rfl, rfl, rfl, trivial⟩ (hnext _ _ _ _ _ (lw_next (ok_A_np hI.1 hlt rfl rfl rfl h1 h2 h3) (sw_refl _) hR2 hfr) (by omega) (by omega))
theorem law_0 {p : Program} {l : Launch} {e : Env} {s : State} {m : MethodId} {b Lx : Nat} {xs : Nat → Int32} {below : List Frame} {meth : Method} {c0 : Code} {Q : State → Prop} {D : va_G} {tab : List ExceptionTableEntry} {A : Nat → Prop} (hls : l.stackTraces = false) (hX : va_X b Lx xs s s.heap) (hbl : b < s.heap.size) (hbA : ¬ A b) (hL : Lx ≤ 2560) {i : Nat} (hi : i + 5 ≤ Lx) {w : wd_T} {S : Nat → Nat → Int32} {L : Nat → Nat → Int64} (hI : lw_I w S) {kc ks : Nat} (hkc : kc + 3 ≤ 601024) (hks : ks + 20 ≤ 7293034) (hnext : ∀ (w : wd_T) (S : Nat → Nat → Int32) (L : Nat → Nat → Int64) (kc1 ks1 : Nat), lw_I w S → kc1 ≤ kc + 3 → ks1 ≤ ks + 20 → jw_J p l e room_1 s m #[Value.ref b] below meth c0 Q D zn_L code 7 ret tab A w kc1 ks1 1187 [(0, av_a b), (1, av_r 0), (2, av_r 400), (3, av_r 500), (4, av_i (nI i))] [] S L) : jw_J p l e room_1 s m #[Value.ref b] below meth c0 Q D zn_L code 7 ret tab A w kc ks 132 [(0, av_a b), (1, av_r 0), (2, av_r 400), (3, av_r 500), (4, av_i (nI i))] [] S L := by
  have h12 := hI.1.1.1
  cases hx7 : ob (xs (i + 1)) 0 7 with
  | true => exact law_0A hls hX hbl hbA hL hi hI hkc hks hx7 hnext
  | false =>
    cases hy7 : ob (xs (i + 2)) 1 100 with
    | true => exact law_0B hls hX hbl hbA hL hi hI hkc hks hx7 hy7 hnext
    | false =>
      rcases Nat.lt_or_ge w.2.2.1 12 with q | q
      · exact law_0D hls hX hbl hbA hL hi hI hkc hks hx7 hy7 q hnext
      · exact law_0C hls hX hbl hbA hL hi hI hkc hks hx7 hy7 (by omega) hnext
theorem law_1 {p : Program} {l : Launch} {e : Env} {s : State} {m : MethodId} {b Lx : Nat} {xs : Nat → Int32} {below : List Frame} {meth : Method} {c0 : Code} {Q : State → Prop} {D : va_G} {tab : List ExceptionTableEntry} {A : Nat → Prop} (hls : l.stackTraces = false) (hX : va_X b Lx xs s s.heap) (hbl : b < s.heap.size) (hbA : ¬ A b) (hL : Lx ≤ 2560) {i : Nat} (hi : i + 5 ≤ Lx) {w : wd_T} {S : Nat → Nat → Int32} {L : Nat → Nat → Int64} (hI : lw_I w S) {kc ks : Nat} (hkc : kc + 3 ≤ 601024) (hks : ks + 20 ≤ 7293034) (hnext : ∀ (w : wd_T) (S : Nat → Nat → Int32) (L : Nat → Nat → Int64) (kc1 ks1 : Nat), lw_I w S → kc1 ≤ kc + 3 → ks1 ≤ ks + 20 → jw_J p l e room_1 s m #[Value.ref b] below meth c0 Q D zn_L code 7 ret tab A w kc1 ks1 1187 [(0, av_a b), (1, av_r 0), (2, av_r 400), (3, av_r 500), (4, av_i (nI i))] [] S L) : jw_J p l e room_1 s m #[Value.ref b] below meth c0 Q D zn_L code 7 ret tab A w kc ks 200 [(0, av_a b), (1, av_r 0), (2, av_r 400), (3, av_r 500), (4, av_i (nI i))] [] S L := by
  have h13 := hI.1.1.2.1
  cases h0 : ob (xs (i + 1)) 0 255 with
  | true => exact law_1A hls hX hbl hbA hL hi hI hkc hks h0 hnext
  | false =>
    cases h1 : ob (xs (i + 2)) 0 3 with
    | true => exact law_1B hls hX hbl hbA hL hi hI hkc hks h0 h1 hnext
    | false =>
      cases h2 : ob (xs (i + 3)) 0 1000 with
      | true => exact law_1C hls hX hbl hbA hL hi hI hkc hks h0 h1 h2 hnext
      | false =>
        cases h3 : ob (xs (i + 4)) 0 1000 with
        | true => exact law_1D hls hX hbl hbA hL hi hI hkc hks h0 h1 h2 h3 hnext
        | false =>
          rcases Nat.lt_or_ge w.2.2.2 12 with q | q
          · exact law_1F hls hX hbl hbA hL hi hI hkc hks h0 h1 h2 h3 q hnext
          · exact law_1E hls hX hbl hbA hL hi hI hkc hks h0 h1 h2 h3 (by omega) hnext
set_option maxRecDepth 100000 in
set_option maxHeartbeats 4000000 in
theorem law_loop {p : Program} {l : Launch} {e : Env} {s : State} {m : MethodId} {b Lx : Nat} {xs : Nat → Int32} {below : List Frame} {meth : Method} {c0 : Code} {Q : State → Prop} {D : va_G} {tab : List ExceptionTableEntry} {A : Nat → Prop} (hls : l.stackTraces = false) (hX : va_X b Lx xs s s.heap) (hbl : b < s.heap.size) (hbA : ¬ A b) (hL : Lx ≤ 2560) {K0 S0 : Nat} (hK0 : K0 ≤ 500000) (hS0 : S0 ≤ 7000000) (hend : ∀ (w : wd_T) (S : Nat → Nat → Int32) (L : Nat → Nat → Int64) (kc ks : Nat), kc ≤ 601024 → ks ≤ 7293034 → jw_J p l e room_1 s m #[Value.ref b] below meth c0 Q D zn_L code 7 ret tab A w kc ks 1193 [] [] S L) : ∀ (k i : Nat), i ≤ Lx → Lx < i + k → ∀ (w : wd_T) (S : Nat → Nat → Int32) (L : Nat → Nat → Int64), lw_I w S → jw_J p l e room_1 s m #[Value.ref b] below meth c0 Q D zn_L code 7 ret tab A w (K0 + 3 * i) (S0 + 20 * i) 23 [(0, av_a b), (1, av_r 0), (2, av_r 400), (3, av_r 500), (4, av_i (nI i))] [] S L := by
  intro k
  induction k with
  | zero => intro i h1 h2; omega
  | succ k ih =>
    intro i hi hk w S L hI
    refine jw_iload zd_L_law_23 rfl ?_
    refine jw_aload_nX zd_L_law_25 rfl ?_
    refine jw_slen hX hbl hbA zd_L_law_26 ?_
    refine jw_iconst (v := 5) zd_L_law_27 (by decide) ?_
    refine jw_isub zd_L_law_28 ?_
    refine jw_icmp_gt 1193 zd_L_law_29 (by decide) (fun h => ?_) (fun h => ?_)
    · exact jw_sub [] trivial (hend _ _ _ _ _ (by omega) (by omega))
    · rw [lw_len hL hi] at h
      have hi5 : i + 5 ≤ Lx := by omega
      have hkc : K0 + 3 * i + 3 ≤ 601024 := by omega
      have hks : S0 + 20 * i + 20 ≤ 7293034 := by omega
      have hnext : ∀ (w : wd_T) (S : Nat → Nat → Int32) (L : Nat → Nat → Int64) (kc1 ks1 : Nat), lw_I w S → kc1 ≤ K0 + 3 * i + 3 → ks1 ≤ S0 + 20 * i + 20 → jw_J p l e room_1 s m #[Value.ref b] below meth c0 Q D zn_L code 7 ret tab A w kc1 ks1 1187 [(0, av_a b), (1, av_r 0), (2, av_r 400), (3, av_r 500), (4, av_i (nI i))] [] S L := fun w S L kc1 ks1 hI h1 h2 => by
        refine jw_iinc (v := nI (i + 5)) zd_L_law_1187 rfl (by show nI i + nI 5 = _; rw [nI_add]) (by decide) ?_
        refine jw_goto 23 zd_L_law_1190 (by decide) ?_
        refine jw_widen (kc' := K0 + 3 * (i + 5)) (ks' := S0 + 20 * (i + 5)) (by omega) (by omega) ?_
        exact jw_sub [(0, av_a b), (1, av_r 0), (2, av_r 400), (3, av_r 500), (4, av_i (nI (i + 5)))] ⟨rfl, rfl, rfl, rfl, rfl, trivial⟩ (ih (i + 5) (by omega) (by omega) w S L hI)
      refine jw_aload_nX zd_L_law_32 rfl ?_
      refine jw_iload zd_L_law_33 rfl ?_
      refine jw_sld hX hbl hbA (by omega) hL zd_L_law_35 ?_
      refine jw_bipush (v := 31) zd_L_law_36 (by decide) ?_
      refine jw_iand zd_L_law_38 ?_
      obtain ⟨j, hj, ej⟩ := i32_32 (xs i)
      rw [ej]
      have hcases : j = 0 ∨ j = 1 ∨ j = 2 ∨ j = 3 ∨ j = 4 ∨ j = 5 ∨ j = 6 ∨ j = 7 ∨ j = 8 ∨ j = 9 ∨ j = 10 ∨ j = 11 ∨ j = 12 ∨ j = 13 ∨ j = 14 ∨ j = 15 ∨ j = 16 ∨ j = 17 ∨ j = 18 ∨ j = 19 ∨ 20 ≤ j := by omega
      rcases hcases with rfl | rfl | rfl | rfl | rfl | rfl | rfl | rfl | rfl | rfl | rfl | rfl | rfl | rfl | rfl | rfl | rfl | rfl | rfl | rfl | hj20
      · refine jw_tabIn 132 zd_L_law_39 (by decide) (by decide) rfl (by decide) ?_
        exact law_0 hls hX hbl hbA hL hi5 hI hkc hks hnext
      · refine jw_tabIn 200 zd_L_law_39 (by decide) (by decide) rfl (by decide) ?_
        exact law_1 hls hX hbl hbA hL hi5 hI hkc hks hnext
      · refine jw_tabIn 292 zd_L_law_39 (by decide) (by decide) rfl (by decide) ?_
        exact law_2 hls hX hbl hbA hL hi5 hI hkc hks hnext
      · refine jw_tabIn 340 zd_L_law_39 (by decide) (by decide) rfl (by decide) ?_
        exact law_3 hls hX hbl hbA hL hi5 hI hkc hks hnext
      · refine jw_tabIn 416 zd_L_law_39 (by decide) (by decide) rfl (by decide) ?_
        exact law_4 hls hX hbl hbA hL hi5 hI hkc hks hnext
      · refine jw_tabIn 476 zd_L_law_39 (by decide) (by decide) rfl (by decide) ?_
        exact law_5 hls hX hbl hbA hL hi5 hI hkc hks hnext
      · refine jw_tabIn 544 zd_L_law_39 (by decide) (by decide) rfl (by decide) ?_
        exact law_6 hls hX hbl hbA hL hi5 hI hkc hks hnext
      · refine jw_tabIn 592 zd_L_law_39 (by decide) (by decide) rfl (by decide) ?_
        exact law_7 hls hX hbl hbA hL hi5 hI hkc hks hnext
      · refine jw_tabIn 640 zd_L_law_39 (by decide) (by decide) rfl (by decide) ?_
        exact law_8 hls hX hbl hbA hL hi5 hI hkc hks hnext
      · refine jw_tabIn 696 zd_L_law_39 (by decide) (by decide) rfl (by decide) ?_
        exact law_9 hls hX hbl hbA hL hi5 hI hkc hks hnext
      · refine jw_tabIn 752 zd_L_law_39 (by decide) (by decide) rfl (by decide) ?_
        exact law_10 hls hX hbl hbA hL hi5 hI hkc hks hnext
      · refine jw_tabIn 765 zd_L_law_39 (by decide) (by decide) rfl (by decide) ?_
        exact law_11 hls hX hbl hbA hL hi5 hI hkc hks hnext
      · refine jw_tabIn 778 zd_L_law_39 (by decide) (by decide) rfl (by decide) ?_
        exact law_12 hls hX hbl hbA hL hi5 hI hkc hks hnext
      · refine jw_tabIn 834 zd_L_law_39 (by decide) (by decide) rfl (by decide) ?_
        exact law_13 hls hX hbl hbA hL hi5 hI hkc hks hnext
      · refine jw_tabIn 890 zd_L_law_39 (by decide) (by decide) rfl (by decide) ?_
        exact law_14 hls hX hbl hbA hL hi5 hI hkc hks hnext
      · refine jw_tabIn 946 zd_L_law_39 (by decide) (by decide) rfl (by decide) ?_
        exact law_15 hls hX hbl hbA hL hi5 hI hkc hks hnext
      · refine jw_tabIn 982 zd_L_law_39 (by decide) (by decide) rfl (by decide) ?_
        exact law_16 hls hX hbl hbA hL hi5 hI hkc hks hnext
      · refine jw_tabIn 1038 zd_L_law_39 (by decide) (by decide) rfl (by decide) ?_
        exact law_17 hls hX hbl hbA hL hi5 hI hkc hks hnext
      · refine jw_tabIn 1094 zd_L_law_39 (by decide) (by decide) rfl (by decide) ?_
        exact law_18 hls hX hbl hbA hL hi5 hI hkc hks hnext
      · refine jw_tabIn 1162 zd_L_law_39 (by decide) (by decide) rfl (by decide) ?_
        exact law_19 hls hX hbl hbA hL hi5 hI hkc hks hnext
      · refine jw_tabOut 1187 zd_L_law_39 (Or.inr (by rw [nI_toInt (by omega)]; omega)) (by decide) ?_
        exact hnext _ _ _ _ _ hI (by omega) (by omega)
