/-! THE LAW'S LOOP: what stands between two calls. -/
def lw_I (w : wd_T) (S : Nat → Nat → Int32) : Prop := ok_A w S ∧ md_R w S S
section LWP
variable {w : wd_T} {G N S S1 S2 : Nat → Nat → Int32}
theorem md_hi (h : ∀ r, 400 ≤ r → r < 427 → S1 r = S r) (hR : md_R w G S) : md_R w G S1 := by
  unfold md_R md_u md_p at *
  rw [h 400 (by decide) (by decide), h 403 (by decide) (by decide), h 404 (by decide) (by decide), h 405 (by decide) (by decide), h 406 (by decide) (by decide), h 407 (by decide) (by decide), h 408 (by decide) (by decide), h 409 (by decide) (by decide), h 410 (by decide) (by decide), h 412 (by decide) (by decide), h 413 (by decide) (by decide), h 414 (by decide) (by decide), h 415 (by decide) (by decide), h 416 (by decide) (by decide), h 417 (by decide) (by decide)]
  exact hR
theorem md_lo (h12 : w.2.2.1 ≤ 12) (h13 : w.2.2.2 ≤ 12) (h : ∀ r, (r < 4 ∨ 23 ≤ r) → r < 400 → G r = N r) (hR : md_R w N S) : md_R w G S := by
  unfold md_R md_u md_p at *
  obtain ⟨a1, b1, c, d, e, f9, g, i, q⟩ := hR
  refine ⟨?_, fun u hu => ?_, fun p hp => ?_, fun u p hu hp => ?_, fun u p hu hp => ?_, fun k hk => ?_, g, i, q⟩
  · rw [h 0 (by omega) (by omega)]; exact a1
  · rw [h (100 + u) (by omega) (by omega)]; exact b1 u hu
  · rw [h (300 + p) (by omega) (by omega)]; exact c p hp
  · rw [h (100 + u) (by omega) (by omega)]; exact d u p hu hp
  · rw [h (100 + u + 100) (by omega) (by omega)]; exact e u p hu hp
  · rw [h 3 (by omega) (by omega)]; exact f9 k hk
theorem lw_next (hA : ok_A w N) (hN : sw_S N S1) (hR : md_R w N S2) (hfr : fr_M S1 S2) : lw_I w S2 := by
  have h12 := hA.1.1
  have h13 := hA.1.2.1
  exact ⟨ok_A_lo (fun r hr => hfr r (Or.inl hr)) (ok_A_sw hN hA), md_lo h12 h13 (fun r h1 h2 => (hfr r (Or.inl h2)).trans (hN r h1)) hR⟩
theorem lw_in (hI : lw_I w S) (hN : sw_S N S1) (hh : ∀ r, 400 ≤ r → N r = S r) : md_R w S S1 := md_hi (fun r h1 _ => (hN r (by omega)).trans (hh r h1)) hI.2
theorem oh_wr {cc : Nat → Bool} {f : (Nat → Int32) → Nat → Int32} (h12 : w.2.2.1 ≤ 12) : ∀ r, 400 ≤ r → fa_wr G cc f w.2.2.1 r = G r := fun r hr => fa_wr_out _ (by omega)
theorem oh_weight {x y c v : Int32} (hO : ou_weight S x y c v N) : ∀ r, 400 ≤ r → N r = S r := by
  intro r hr
  rcases hO with ⟨-, -, rfl⟩ | ⟨j, hj, -, -, -, rfl⟩
  · rfl
  · rw [va_up_ne _ _ (by omega)]
theorem oh_limits {x y c v : Int32} (hO : ou_limits S x y c v N) : ∀ r, 400 ≤ r → N r = S r := by
  intro r hr
  rcases hO with ⟨-, -, rfl⟩ | ⟨-, -, -, rfl⟩
  · rfl
  · rw [va_up_ne _ _ (by omega)]
theorem oh_fits {x y z c v : Int32} (h12 : w.2.2.1 ≤ 12) (hO : ou_fits w S x y z c v N) : ∀ r, 400 ≤ r → N r = S r := by
  intro r hr
  rcases hO with ⟨-, -, rfl⟩ | ⟨a, b, ha, hb, -, -, -, rfl⟩
  · rfl
  · rw [va_up_ne _ _ (by omega)]
theorem oh_fix {x y c v : Int32} (h12 : w.2.2.1 ≤ 12) (hO : ou_fix w S x y c v N) : ∀ r, 400 ≤ r → N r = S r := by
  intro r hr
  rcases hO with ⟨-, -, rfl⟩ | ⟨a, ha, -, hy, ⟨-, -, rfl⟩ | ⟨-, -, rfl⟩⟩
  · rfl
  · rfl
  · rw [va_up_ne _ _ (by omega)]
theorem oh_cost {x y z c v : Int32} (h12 : w.2.2.1 ≤ 12) (hO : ou_cost w S x y z c v N) : ∀ r, 400 ≤ r → N r = S r := by
  intro r hr
  rcases hO with ⟨-, -, rfl⟩ | ⟨a, b, ha, hb, -, -, ⟨-, -, rfl⟩ | ⟨hz, -, rfl⟩⟩
  · rfl
  · rfl
  · rw [va_up_ne _ _ (by omega)]
theorem oh_at {x c v : Int32} (hO : ou_at w S x c v N) : ∀ r, 400 ≤ r → N r = S r := by
  intro r hr
  rcases hO with ⟨-, -, rfl⟩ | ⟨a, -, -, -, -, rfl⟩ <;> rfl
theorem oh_told {x y c v : Int32} (hO : ou_told w S x y c v N) : ∀ r, 400 ≤ r → N r = S r := fun r _ => by rw [hO.1]
theorem oh_barred {x c v : Int32} (hO : ou_barred w S x c v N) : ∀ r, 400 ≤ r → N r = S r := fun r _ => by rw [hO.1]
theorem oh_share {x c v : Int32} (hO : ou_share w S x c v N) : ∀ r, 400 ≤ r → N r = S r := fun r _ => by rw [hO.1]
theorem oh_trip {x c v : Int32} (hO : ou_trip w S x c v N) : ∀ r, 400 ≤ r → N r = S r := fun r _ => by rw [hO.1]
theorem oh_open {x c v : Int32} (h13 : w.2.2.2 ≤ 12) (hO : ou_open w S x c v N) : ∀ r, 400 ≤ r → N r = S r := by
  intro r hr
  rcases hO with ⟨-, -, rfl⟩ | ⟨b, hb, -, ⟨-, -, rfl⟩ | ⟨-, -, rfl⟩⟩
  · rfl
  · rfl
  · rw [va_up_ne _ _ (by omega)]
theorem oh_together {x y c v : Int32} (h12 : w.2.2.1 ≤ 12) (hO : ou_together w S x y c v N) : ∀ r, 400 ≤ r → N r = S r := by
  intro r hr
  rcases hO with ⟨-, -, rfl⟩ | ⟨a, b, ha, hb, -, -, ⟨-, -, rfl⟩ | ⟨lo, hi, -, -, -, -, -, -, rfl, -⟩⟩
  · rfl
  · rfl
  · unfold fa_un fa_to; rw [fa_wr_out _ (by omega), fa_wr_out _ (by omega)]
theorem oh_put {x c v : Int32} (h12 : w.2.2.1 ≤ 12) (h13 : w.2.2.2 ≤ 12) (hO : ou_put w S x c v N) : ∀ r, 400 ≤ r → N r = S r := by
  intro r hr
  rcases hO with ⟨-, -, rfl⟩ | ⟨a, ha, -, ⟨-, -, rfl⟩ | ⟨p, hp, -, -, ⟨-, -, rfl⟩ | ⟨-, -, -, rfl⟩⟩⟩
  · rfl
  · rfl
  · rfl
  · unfold fa_fi; rw [fa_wr_out _ (by omega), va_up_ne _ _ (by omega)]
theorem oh_block {x c v : Int32} (h12 : w.2.2.1 ≤ 12) (h13 : w.2.2.2 ≤ 12) (hO : ou_block w S x c v N) : ∀ r, 400 ≤ r → N r = S r := by
  intro r hr
  rcases hO with ⟨-, -, rfl⟩ | ⟨b, hb, -, ⟨-, -, rfl⟩ | ⟨-, -, S1, rfl, ⟨-, -, rfl⟩ | ⟨g, hg, -, rfl, -⟩⟩⟩
  · rfl
  · rfl
  · rw [va_up_ne _ _ (by omega)]
  · unfold fa_un; rw [fa_wr_out _ (by omega), va_up_ne _ _ (by omega)]
theorem oh_assign {x c v : Int32} (h12 : w.2.2.1 ≤ 12) (hO : ou_assign w S x c v N) : ∀ r, 400 ≤ r → N r = S r := by
  intro r hr
  rcases hO with ⟨-, -, rfl⟩ | ⟨-, -, b, d, -, ⟨-, -, rfl⟩ | ⟨-, -, rfl⟩⟩
  · rfl
  · rfl
  · unfold fa_as; rw [va_up_ne _ _ (by omega), fa_wr_out _ (by omega)]
end LWP
section JWX
variable {p : Program} {l : Launch} {e : Env} {R : Room} {s : State} {m : MethodId} {args : Array Value} {below : List Frame} {meth : Method} {c0 : Code} {Q : State → Prop} {D : va_G} {own : String} {cc : ByteArray} {nL : Nat} {ret : Option FieldType} {tab : List ExceptionTableEntry} {A : Nat → Prop} {w : wd_T} {kc ks : Nat} {pc : Nat} {lo : jl_T} {st : List av_T} {S : Nat → Nat → Int32} {L : Nat → Nat → Int64}
theorem jw_aload_nX {i : Fin 4} {q : Nat} (hdg : decode cc pc = .ok (.aload_n i, 1)) (hv : jl_get lo i = some (av_a q)) (k : jw_J p l e R s m args below meth c0 Q D own cc nL ret tab A w kc ks (pc + 1) lo (av_a q :: st) S L) : jw_J p l e R s m args below meth c0 Q D own cc nL ret tab A w kc ks pc lo st S L := by
  intro hC H locs ls hl hP hD hS
  exact lv_aload_n hC.1 hC.2.1 hdg rfl (jl_at hl hv) (k hC H locs ls hl hP hD hS)
theorem jw_slen {b Lx : Nat} {xs : Nat → Int32} (hX : va_X b Lx xs s s.heap) (hbl : b < s.heap.size) (hbA : ¬ A b) (hdg : decode cc pc = .ok (.arraylength, 1)) (k : jw_J p l e R s m args below meth c0 Q D own cc nL ret tab A w kc ks (pc + 1) lo (av_i (nI Lx) :: st) S L) : jw_J p l e R s m args below meth c0 Q D own cc nL ret tab A w kc ks pc lo (av_a b :: st) S L := by
  intro hC H locs ls hl hP hD hS
  exact va_slen hC.1 hC.2.1 hX hbl hbA hS hdg (k hC H locs ls hl hP hD hS)
theorem jw_sld {b Lx n : Nat} {xs : Nat → Int32} (hX : va_X b Lx xs s s.heap) (hbl : b < s.heap.size) (hbA : ¬ A b) (hn : n < Lx) (hL : Lx ≤ 2560) (hdg : decode cc pc = .ok (.iaload, 1)) (k : jw_J p l e R s m args below meth c0 Q D own cc nL ret tab A w kc ks (pc + 1) lo (av_i (xs n) :: st) S L) : jw_J p l e R s m args below meth c0 Q D own cc nL ret tab A w kc ks pc lo (av_i (nI n) :: av_a b :: st) S L := by
  intro hC H locs ls hl hP hD hS
  refine va_sld hC.1 hC.2.1 hX hbl hbA hS (vp_in_nI hn (by omega)) hdg ?_
  rw [nI_clamp (by omega)]
  exact k hC H locs ls hl hP hD hS
/-- one number of the script -/
theorem jw_arg {b Lx i j : Nat} {n : Int} {xs : Nat → Int32} (hX : va_X b Lx xs s s.heap) (hbl : b < s.heap.size) (hbA : ¬ A b) (hL : Lx ≤ 2560) (hi : i + j < Lx) (h0 : jl_get lo 0 = some (av_a b)) (h4 : jl_get lo 4 = some (av_i (nI i))) (d0 : decode cc pc = .ok (.aload_n 0, 1)) (d1 : decode cc (pc + 1) = .ok (.iload 4, 2)) (d2 : decode cc (pc + 3) = .ok (.iconst n, 1)) (hn : Int32.ofInt n = nI j) (d3 : decode cc (pc + 4) = .ok (.iadd, 1)) (d4 : decode cc (pc + 5) = .ok (.iaload, 1))
    (k : jw_J p l e R s m args below meth c0 Q D own cc nL ret tab A w kc ks (pc + 6) lo (av_i (xs (i + j)) :: st) S L) : jw_J p l e R s m args below meth c0 Q D own cc nL ret tab A w kc ks pc lo st S L := by
  refine jw_aload_nX d0 h0 ?_
  refine jw_iload d1 h4 ?_
  refine jw_iconst (v := nI j) d2 hn ?_
  refine jw_iadd d3 ?_
  rw [nI_add]
  exact jw_sld hX hbl hbA hi hL d4 k
end JWX
theorem i32_32 (x : Int32) : ∃ j : Nat, j < 32 ∧ x &&& 31 = nI j := by
  obtain ⟨j, h1, h2⟩ := pk_andE x (m := 31) 5 (by decide)
  exact ⟨j, h1, h2⟩
theorem lw_len {Lx i : Nat} (hL : Lx ≤ 2560) (hi : i ≤ Lx) : nI Lx - 5 < nI i ↔ Lx < i + 5 := by
  rw [Int32.lt_iff_toInt_lt, show (5 : Int32) = nI 5 from rfl, pk_sub_toInt (by omega) (by omega), nI_toInt (by omega)]
  omega
