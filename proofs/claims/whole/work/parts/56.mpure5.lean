/-! A NEW UNIT, A NEW PLACE: the numbers afterwards. -/
def nu_row (n : Nat) (x y : Int32) : Nat → Int32 := fun k => if k = 0 then x else if k = 1 then y else if k = 2 then nI n else if k = 3 then -1 else if k = 4 then -1 else 0
def nu_G (n : Nat) (G : Nat → Nat → Int32) (x y : Int32) : Nat → Nat → Int32 := va_up (va_up (va_up G (100 + n) (nu_row n x y)) (100 + n + 100) (fun _ => -1)) 0 (upd (G 0) 6 (nI (n + 1)))
def np_row (f z room way : Int32) : Nat → Int32 := fun k => if k = 0 then f else if k = 1 then z else if k = 2 then way else if k = 3 then room else 0
def np_G (n : Nat) (G : Nat → Nat → Int32) (f z room way : Int32) : Nat → Nat → Int32 := va_up (va_up G (300 + n) (np_row f z room way)) 0 (upd (G 0) 7 (nI (n + 1)))
section NUG
variable {n : Nat} {G : Nat → Nat → Int32} {x y f z room way : Int32}
theorem nu_0 (hn : n < 12) {k : Nat} (hk : k ≠ 6) : nu_G n G x y 0 k = G 0 k := by unfold nu_G; rw [va_up_self]; exact pk_un hk
theorem nu_06 : nu_G n G x y 0 6 = nI (n + 1) := by unfold nu_G; rw [va_up_self]; exact pk_us
theorem nu_new : nu_G n G x y (100 + n) = nu_row n x y := by unfold nu_G; rw [va_up_ne _ _ (by omega), va_up_ne _ _ (by omega), va_up_self]
theorem nu_newC : nu_G n G x y (100 + n + 100) = fun _ => -1 := by unfold nu_G; rw [va_up_ne _ _ (by omega), va_up_self]
theorem nu_ne {r : Nat} (h0 : r ≠ 0) (h1 : r ≠ 100 + n) (h2 : r ≠ 100 + n + 100) : nu_G n G x y r = G r := by unfold nu_G; rw [va_up_ne _ _ h0, va_up_ne _ _ h2, va_up_ne _ _ h1]
theorem np_0 {k : Nat} (hk : k ≠ 7) : np_G n G f z room way 0 k = G 0 k := by unfold np_G; rw [va_up_self]; exact pk_un hk
theorem np_07 : np_G n G f z room way 0 7 = nI (n + 1) := by unfold np_G; rw [va_up_self]; exact pk_us
theorem np_new : np_G n G f z room way (300 + n) = np_row f z room way := by unfold np_G; rw [va_up_ne _ _ (by omega), va_up_self]
theorem np_ne {r : Nat} (h0 : r ≠ 0) (h1 : r ≠ 300 + n) : np_G n G f z room way r = G r := by unfold np_G; rw [va_up_ne _ _ h0, va_up_ne _ _ h1]
end NUG
theorem md_unit {w0 w1 : wd_T} {G T T' : Nat → Nat → Int32} {n : Nat} {x y : Int32} (hn : n < 12) (e0 : w0.2.2.1 = n) (e1 : w1.2.2.1 = n + 1) (e2 : w1.2.2.2 = w0.2.2.2) (h13 : w0.2.2.2 ≤ 12) (hR : md_R w0 G T)
    (ho : ∀ r, r ≠ 400 → ¬ (403 ≤ r ∧ r < 408) → T' r = T r) (h0 : T' 400 = upd (T 400) 1 (nI (n + 1))) (h3 : T' 403 = upd (T 403) n x) (h4 : T' 404 = upd (T 404) n y) (h5 : T' 405 = upd (T 405) n (nI n)) (h6 : T' 406 = upd (T 406) n (-1)) (h7 : T' 407 = upd (T 407) n (-1)) : md_R w1 (nu_G n G x y) T' := by
  unfold md_R md_u md_p at *
  rw [e1, e2]
  rw [e0] at hR
  obtain ⟨⟨a1, a2, a3, a4, a5⟩, b, c, d, e, f, g, i, j⟩ := hR
  refine ⟨⟨?_, ?_, ?_, ?_, ?_⟩, fun u hu => ?_, fun p hp => ?_, fun u p hu hp => ?_, fun u p hu hp => ?_, fun k hk => ?_, fun u p q1 q2 q3 => ?_, fun u q1 q2 => ?_, fun p q1 q2 => ?_⟩
  · rw [h0]; exact pk_us
  · rw [h0, pk_un (by decide)]; exact a2
  · rw [h0, pk_un (by decide), nu_0 hn (by decide)]; exact a3
  · rw [h0, pk_un (by decide), nu_0 hn (by decide)]; exact a4
  · rw [h0, pk_un (by decide), nu_0 hn (by decide)]; exact a5
  · rw [h3, h4, h5, h6, h7, ho 408 (by decide) (by decide)]
    by_cases z : u = n
    · subst z
      rw [nu_new, pk_us, pk_us, pk_us, pk_us, pk_us, i u (by omega) (by omega)]
      exact ⟨rfl, rfl, rfl, rfl, rfl, rfl⟩
    · rw [pk_un z, pk_un z, pk_un z, pk_un z, pk_un z, nu_ne (by omega) (by omega) (by omega)]
      exact b u (by omega)
  · rw [ho 412 (by decide) (by decide), ho 413 (by decide) (by decide), ho 414 (by decide) (by decide), ho 415 (by decide) (by decide), ho 416 (by decide) (by decide), nu_ne (by omega) (by omega) (by omega)]
    exact c p hp
  · rw [ho 409 (by decide) (by decide)]
    by_cases z : u = n
    · subst z
      rw [nu_new, (g u p (by omega) (by omega) hp).1]
      exact ⟨fun _ => bt_zero p, fun _ => rfl⟩
    · rw [nu_ne (by omega) (by omega) (by omega)]
      exact d u p (by omega) hp
  · rw [ho 410 (by decide) (by decide)]
    by_cases z : u = n
    · subst z
      rw [nu_newC]; exact (g u p (by omega) (by omega) hp).2
    · rw [nu_ne (by omega) (by omega) (by omega)]
      exact e u p (by omega) hp
  · rw [ho 417 (by decide) (by decide), nu_ne (by omega) (by omega) (by omega)]; exact f k hk
  · rw [ho 409 (by decide) (by decide), ho 410 (by decide) (by decide)]; exact g u p (by omega) q2 q3
  · rw [ho 408 (by decide) (by decide)]; exact i u (by omega) q2
  · rw [ho 416 (by decide) (by decide)]; exact j p q1 q2
theorem md_place {w0 w1 : wd_T} {G T T' : Nat → Nat → Int32} {n : Nat} {f9 z9 room way : Int32} (hn : n < 12) (e0 : w0.2.2.2 = n) (e1 : w1.2.2.2 = n + 1) (e2 : w1.2.2.1 = w0.2.2.1) (h12 : w0.2.2.1 ≤ 12) (hR : md_R w0 G T)
    (ho : ∀ r, r ≠ 400 → ¬ (412 ≤ r ∧ r < 416) → T' r = T r) (h0 : T' 400 = upd (T 400) 10 (nI (n + 1))) (h3 : T' 412 = upd (T 412) n f9) (h4 : T' 413 = upd (T 413) n z9) (h5 : T' 414 = upd (T 414) n room) (h6 : T' 415 = upd (T 415) n way) : md_R w1 (np_G n G f9 z9 room way) T' := by
  unfold md_R md_u md_p at *
  rw [e1, e2]
  rw [e0] at hR
  obtain ⟨⟨a1, a2, a3, a4, a5⟩, b, c, d, e, f, g, i, j⟩ := hR
  refine ⟨⟨?_, ?_, ?_, ?_, ?_⟩, fun u hu => ?_, fun p hp => ?_, fun u p hu hp => ?_, fun u p hu hp => ?_, fun k hk => ?_, fun u p q1 q2 q3 => ?_, fun u q1 q2 => ?_, fun p q1 q2 => ?_⟩
  · rw [h0, pk_un (by decide)]; exact a1
  · rw [h0]; exact pk_us
  · rw [h0, pk_un (by decide), np_0 (by decide)]; exact a3
  · rw [h0, pk_un (by decide), np_0 (by decide)]; exact a4
  · rw [h0, pk_un (by decide), np_0 (by decide)]; exact a5
  · rw [ho 403 (by decide) (by decide), ho 404 (by decide) (by decide), ho 405 (by decide) (by decide), ho 406 (by decide) (by decide), ho 407 (by decide) (by decide), ho 408 (by decide) (by decide), np_ne (by omega) (by omega)]
    exact b u hu
  · rw [h3, h4, h5, h6, ho 416 (by decide) (by decide)]
    by_cases z : p = n
    · subst z
      rw [np_new, pk_us, pk_us, pk_us, pk_us, j p (by omega) (by omega)]
      exact ⟨rfl, rfl, rfl, rfl, rfl⟩
    · rw [pk_un z, pk_un z, pk_un z, pk_un z, np_ne (by omega) (by omega)]
      exact c p (by omega)
  · rw [ho 409 (by decide) (by decide), np_ne (by omega) (by omega)]; exact d u p hu hp
  · rw [ho 410 (by decide) (by decide), np_ne (by omega) (by omega)]; exact e u p hu hp
  · rw [ho 417 (by decide) (by decide), np_ne (by omega) (by omega)]; exact f k hk
  · rw [ho 409 (by decide) (by decide), ho 410 (by decide) (by decide)]; exact g u p q1 q2 q3
  · rw [ho 408 (by decide) (by decide)]; exact i u q1 q2
  · rw [ho 416 (by decide) (by decide)]; exact j p (by omega) q2
