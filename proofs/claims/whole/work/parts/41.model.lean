/-! THE MODEL'S NUMBERS ARE THE CLASS'S, and what the class keeps. -/
def ok_D (w : wd_T) (S : Nat → Nat → Int32) : Prop := ∀ u g, u < w.2.2.1 → g < w.2.2.1 → fa_gr S g = true → S (100 + u) 2 = nI g → S (100 + u) 5 = 0
def ok_B (w : wd_T) (S : Nat → Nat → Int32) : Prop := (∀ u, u < w.2.2.1 → ∃ s, s ≤ 100 ∧ S (100 + u) 1 = nI s) ∧ (∀ u p, u < w.2.2.1 → p < 12 → S (100 + u + 100) p = -1 ∨ ∃ c, c ≤ 1000000 ∧ S (100 + u + 100) p = nI c) ∧
  (∀ p, p < w.2.2.2 → (∃ y, y ≤ 1000 ∧ S (300 + p) 2 = nI y) ∧ (∃ f, f ≤ 1000 ∧ S (300 + p) 3 = nI f) ∧ (S (300 + p) 4 = 0 ∨ S (300 + p) 4 = 1) ∧ ∃ z, z < 4 ∧ S (300 + p) 1 = nI z) ∧ (∀ k, k < 8 → ∃ y, y ≤ 100 ∧ S 3 k = nI y)
def ok_F (w : wd_T) (S : Nat → Nat → Int32) : Prop := ∀ u, u < w.2.2.1 → S (100 + u) 4 = -1 ∨ ∃ p, p < w.2.2.2 ∧ S (100 + u) 4 = nI p
/-- a group's units stand where its first one does -/
def ok_H (w : wd_T) (S : Nat → Nat → Int32) : Prop := ∀ u g, u < w.2.2.1 → S (100 + u) 5 = 0 → g < w.2.2.1 → S (100 + u) 2 = nI g → S (100 + u) 3 = S (100 + g) 3
def ok_A (w : wd_T) (S : Nat → Nat → Int32) : Prop := ok_N w S ∧ ok_U w S ∧ ok_G w S ∧ ok_D w S ∧ ok_B w S ∧ ok_F w S ∧ (∃ e, e ≤ 8 ∧ S 0 8 = nI e) ∧ (S 0 10 = 0 ∨ S 0 10 = 1) ∧ ok_H w S
/-- the model's numbers in S are the class's in G -/
def md_u (G S : Nat → Nat → Int32) (u : Nat) : Prop := S 403 u = G (100 + u) 0 ∧ S 404 u = G (100 + u) 1 ∧ S 405 u = G (100 + u) 2 ∧ S 406 u = G (100 + u) 4 ∧ S 407 u = G (100 + u) 3 ∧ S 408 u = G (100 + u) 5
def md_p (G S : Nat → Nat → Int32) (p : Nat) : Prop := S 412 p = G (300 + p) 0 ∧ S 413 p = G (300 + p) 1 ∧ S 414 p = G (300 + p) 3 ∧ S 415 p = G (300 + p) 2 ∧ S 416 p = G (300 + p) 4
def md_R (w : wd_T) (G S : Nat → Nat → Int32) : Prop := (S 400 1 = nI w.2.2.1 ∧ S 400 10 = nI w.2.2.2 ∧ S 400 17 = G 0 8 ∧ S 400 18 = G 0 9 ∧ S 400 19 = G 0 10) ∧ (∀ u, u < w.2.2.1 → md_u G S u) ∧ (∀ p, p < w.2.2.2 → md_p G S p) ∧ (∀ u p, u < w.2.2.1 → p < 12 → (S 409 (12 * u + p) = 0 ↔ bt (G (100 + u) 6) p = false)) ∧ (∀ u p, u < w.2.2.1 → p < 12 → S 410 (12 * u + p) = G (100 + u + 100) p) ∧
  (∀ k, k < 8 → S 417 k = G 3 k) ∧ (∀ u p, w.2.2.1 ≤ u → u < 12 → p < 12 → S 409 (12 * u + p) = 0 ∧ S 410 (12 * u + p) = -1) ∧ (∀ u, w.2.2.1 ≤ u → u < 12 → S 408 u = 0) ∧ (∀ p, w.2.2.2 ≤ p → p < 12 → S 416 p = 0)
/-- the model's scratch: code, groups, leader, given, prices, layer, next -/
def sm_S (S T : Nat → Nat → Int32) : Prop := (∀ r, r ≠ 400 → ¬ (422 ≤ r ∧ r < 427) → T r = S r) ∧ ∀ k, k ≠ 0 → k ≠ 20 → T 400 k = S 400 k
def sm_L (L M : Nat → Nat → Int64) : Prop := ∀ r, r ≠ 425 → r ≠ 426 → M r = L r
theorem sm_refl (S : Nat → Nat → Int32) : sm_S S S := ⟨fun _ _ _ => rfl, fun _ _ _ => rfl⟩
theorem sm_reflL (L : Nat → Nat → Int64) : sm_L L L := fun _ _ _ => rfl
theorem sm_S.tr {S T U : Nat → Nat → Int32} (h : sm_S S T) (h2 : sm_S T U) : sm_S S U := ⟨fun r a b => (h2.1 r a b).trans (h.1 r a b), fun k a b => (h2.2 k a b).trans (h.2 k a b)⟩
theorem sm_L.tr {S T U : Nat → Nat → Int64} (h : sm_L S T) (h2 : sm_L T U) : sm_L S U := fun r a b => (h2 r a b).trans (h r a b)
theorem sm_S.up {S T : Nat → Nat → Int32} (h : sm_S S T) {r : Nat} (h1 : 422 ≤ r) (h2 : r < 427) (row : Nat → Int32) : sm_S S (va_up T r row) := ⟨fun q a b => by rw [va_up_ne _ _ (by omega)]; exact h.1 q a b, fun k a b => by rw [va_up_ne _ _ (by omega)]; exact h.2 k a b⟩
theorem sm_S.fld {S T : Nat → Nat → Int32} (h : sm_S S T) {k : Nat} (hk : k = 0 ∨ k = 20) (x : Int32) : sm_S S (va_up T 400 (upd (T 400) k x)) := ⟨fun q a b => by rw [va_up_ne _ _ a]; exact h.1 q a b, fun j a b => by rw [va_up_self]; simp only [upd]; rw [if_neg (by omega)]; exact h.2 j a b⟩
theorem sm_L.up {L M : Nat → Nat → Int64} (h : sm_L L M) {r : Nat} (h1 : r = 425 ∨ r = 426) (row : Nat → Int64) : sm_L L (va_up M r row) := fun q a b => by rw [va_up_ne _ _ (by omega)]; exact h q a b
theorem sm_S.o {S T : Nat → Nat → Int32} (h : sm_S S T) {r : Nat} (hr : r < 400 ∨ (401 ≤ r ∧ r < 422) ∨ 427 ≤ r) : T r = S r := h.1 r (by omega) (by omega)
theorem sm_S.sw {S T : Nat → Nat → Int32} (h : sm_S S T) : ∀ r, r < 400 → T r = S r := fun r hr => h.o (Or.inl hr)
theorem md_sm {w : wd_T} {G S T : Nat → Nat → Int32} (h : sm_S S T) (hR : md_R w G S) : md_R w G T := by
  unfold md_R md_u md_p at *
  obtain ⟨⟨a1, a2, a3, a4, a5⟩, b, c, d, e, f, g, i, j⟩ := hR
  refine ⟨⟨(h.2 1 (by omega) (by omega)).trans a1, (h.2 10 (by omega) (by omega)).trans a2, (h.2 17 (by omega) (by omega)).trans a3, (h.2 18 (by omega) (by omega)).trans a4, (h.2 19 (by omega) (by omega)).trans a5⟩, fun u hu => ?_, fun p hp => ?_, fun u p hu hp => ?_, fun u p hu hp => ?_, fun k hk => ?_, fun u p h1 h2 h3 => ?_, fun u h1 h2 => ?_, fun p h1 h2 => ?_⟩
  · rw [h.o (r := 403) (by omega), h.o (r := 404) (by omega), h.o (r := 405) (by omega), h.o (r := 406) (by omega), h.o (r := 407) (by omega), h.o (r := 408) (by omega)]; exact b u hu
  · rw [h.o (r := 412) (by omega), h.o (r := 413) (by omega), h.o (r := 414) (by omega), h.o (r := 415) (by omega), h.o (r := 416) (by omega)]; exact c p hp
  · rw [h.o (r := 409) (by omega)]; exact d u p hu hp
  · rw [h.o (r := 410) (by omega)]; exact e u p hu hp
  · rw [h.o (r := 417) (by omega)]; exact f k hk
  · rw [h.o (r := 409) (by omega), h.o (r := 410) (by omega)]; exact g u p h1 h2 h3
  · rw [h.o (r := 408) (by omega)]; exact i u h1 h2
  · rw [h.o (r := 416) (by omega)]; exact j p h1 h2
/-- all that the class keeps is in the roles below 400 -/
theorem fa_in_lo {S T : Nat → Nat → Int32} (h : ∀ r, r < 400 → T r = S r) {u : Nat} (hu : u < 12) (g : Int32) : fa_in T u g = fa_in S u g := by
  unfold fa_in; rw [h _ (by omega)]
theorem ok_A_lo {w : wd_T} {S T : Nat → Nat → Int32} (h : ∀ r, r < 400 → T r = S r) (hA : ok_A w S) : ok_A w T := by
  obtain ⟨h1, h2, h3, h4, h5, h6, h7, h8, h9⟩ := hA
  have h12 := h1.1
  have h13 := h1.2.1
  refine ⟨?_, fun u hu => ?_, fun u hu hd => ?_, fun u g hu hg hl he => ?_, ⟨fun u hu => ?_, fun u p hu hp => ?_, fun p hp => ?_, fun k hk => ?_⟩, fun u hu => ?_, ?_, ?_, fun u g hu hd hg he => ?_⟩
  · unfold ok_N; rw [h 0 (by omega)]; exact h1
  · rw [h (100 + u) (by omega)]; exact h2 u hu
  · rw [h (100 + u) (by omega)] at hd ⊢
    obtain ⟨g, g1, g2, g3⟩ := h3 u hu hd
    exact ⟨g, g1, g2, by unfold fa_gr at g3 ⊢; rw [fa_in_lo h (by omega)]; exact g3⟩
  · rw [h (100 + u) (by omega)] at he ⊢
    exact h4 u g hu hg (by unfold fa_gr at hl ⊢; rw [fa_in_lo h (by omega)] at hl; exact hl) he
  · rw [h (100 + u) (by omega)]; exact h5.1 u hu
  · rw [h (100 + u + 100) (by omega)]; exact h5.2.1 u p hu hp
  · rw [h (300 + p) (by omega)]; exact h5.2.2.1 p hp
  · rw [h 3 (by omega)]; exact h5.2.2.2 k hk
  · rw [h (100 + u) (by omega)]; exact h6 u hu
  · rw [h 0 (by omega)]; exact h7
  · rw [h 0 (by omega)]; exact h8
  · rw [h (100 + u) (by omega)] at hd he ⊢
    rw [h (100 + g) (by omega)]
    exact h9 u g hu hd hg he
theorem ok_A_sw {w : wd_T} {S T : Nat → Nat → Int32} (h : sw_S S T) (hA : ok_A w S) : ok_A w T := by
  obtain ⟨h1, h2, h3, h4, h5, h6, h7, h8, h9⟩ := hA
  refine ⟨ok_N_sw h h1, ok_U_sw h h2, fun u hu hd => ?_, fun u g hu hg hl he => ?_, ⟨fun u hu => ?_, fun u p hu hp => ?_, fun p hp => ?_, fun k hk => ?_⟩, fun u hu => ?_, ?_, ?_, fun u g hu hd hg he => ?_⟩
  · rw [h.u] at hd ⊢
    obtain ⟨g, g1, g2, g3⟩ := h3 u hu hd
    exact ⟨g, g1, g2, by rw [fa_gr_sw h]; exact g3⟩
  · rw [h.u] at he ⊢
    exact h4 u g hu hg (by rw [fa_gr_sw h] at hl; exact hl) he
  · rw [h.u]; exact h5.1 u hu
  · rw [h.c]; exact h5.2.1 u p hu hp
  · rw [h.p]; exact h5.2.2.1 p hp
  · rw [h.wt]; exact h5.2.2.2 k hk
  · rw [h.u]; exact h6 u hu
  · rw [h.z]; exact h7
  · rw [h.z]; exact h8
  · rw [h.u] at hd he ⊢
    rw [h.u]
    exact h9 u g hu hd hg he
/-- in the model a live group's units are those with its number -/
theorem mi_in {w : wd_T} {S : Nat → Nat → Int32} {u g : Nat} (hA : ok_A w S) (hu : u < w.2.2.1) (hg : g < w.2.2.1) (hl : fa_gr S g = true) : S (100 + u) 2 = nI g ↔ fa_in S u (nI g) = true := by
  simp only [fa_in, Bool.and_eq_true, decide_eq_true_eq]
  exact ⟨fun h => ⟨hA.2.2.2.1 u g hu hg hl h, h⟩, fun h => h.2⟩
section MR
variable {w : wd_T} {G S : Nat → Nat → Int32} {u p : Nat}
theorem mr_403 (hR : md_R w G S) (hu : u < w.2.2.1) : S 403 u = G (100 + u) 0 := (hR.2.1 u hu).1
theorem mr_404 (hR : md_R w G S) (hu : u < w.2.2.1) : S 404 u = G (100 + u) 1 := (hR.2.1 u hu).2.1
theorem mr_405 (hR : md_R w G S) (hu : u < w.2.2.1) : S 405 u = G (100 + u) 2 := (hR.2.1 u hu).2.2.1
theorem mr_406 (hR : md_R w G S) (hu : u < w.2.2.1) : S 406 u = G (100 + u) 4 := (hR.2.1 u hu).2.2.2.1
theorem mr_407 (hR : md_R w G S) (hu : u < w.2.2.1) : S 407 u = G (100 + u) 3 := (hR.2.1 u hu).2.2.2.2.1
theorem mr_408 (hR : md_R w G S) (hu : u < w.2.2.1) : S 408 u = G (100 + u) 5 := (hR.2.1 u hu).2.2.2.2.2
theorem mr_412 (hR : md_R w G S) (hp : p < w.2.2.2) : S 412 p = G (300 + p) 0 := (hR.2.2.1 p hp).1
theorem mr_413 (hR : md_R w G S) (hp : p < w.2.2.2) : S 413 p = G (300 + p) 1 := (hR.2.2.1 p hp).2.1
theorem mr_414 (hR : md_R w G S) (hp : p < w.2.2.2) : S 414 p = G (300 + p) 3 := (hR.2.2.1 p hp).2.2.1
theorem mr_415 (hR : md_R w G S) (hp : p < w.2.2.2) : S 415 p = G (300 + p) 2 := (hR.2.2.1 p hp).2.2.2.1
theorem mr_416 (hR : md_R w G S) (hp : p < w.2.2.2) : S 416 p = G (300 + p) 4 := (hR.2.2.1 p hp).2.2.2.2
theorem mr_417 (hR : md_R w G S) {k : Nat} (hk : k < 8) : S 417 k = G 3 k := hR.2.2.2.2.2.1 k hk
theorem mr_410 (hR : md_R w G S) (hu : u < w.2.2.1) (hp : p < 12) : S 410 (12 * u + p) = G (100 + u + 100) p := hR.2.2.2.2.1 u p hu hp
theorem mr_409 (hR : md_R w G S) (hu : u < w.2.2.1) (hp : p < 12) : S 409 (12 * u + p) = 0 ↔ bt (G (100 + u) 6) p = false := hR.2.2.2.1 u p hu hp
end MR
theorem ix12 (u p : Nat) : (12 : Int32) * nI u + nI p = nI (12 * u + p) := by
  rw [show (12 : Int32) = nI 12 from rfl, pk_mul, nI_add]
/-- which rules a group keeps at a place -/
def fa_kp (g q : Nat → Int32) (p : Int32) (r : Nat) : Bool := if r = 1 then decide (q 4 = 0) else if r = 2 then decide (g 4 &&& (q 0 ^^^ (-1)) = 0) else if r = 3 then decide ((g 5 >>> (p &&& 31)) &&& 1 = 0) else if r = 4 then decide (g 2 ≤ q 3) else decide (g 6 = -1 ∨ g 6 = p)
def fa_ka (g q : Nat → Int32) (p : Int32) : Nat → Bool
  | 0 => true
  | r + 1 => fa_ka g q p r && fa_kp g q p (r + 1)
theorem fa_ka_5 (g q : Nat → Int32) (p : Int32) : fa_ka g q p 5 = decide (fa_br g q p = 0) := by
  by_cases h1 : q 4 = 0 <;> by_cases h2 : g 4 &&& (q 0 ^^^ (-1)) = 0 <;> by_cases h3 : (g 5 >>> (p &&& 31)) &&& 1 = 0 <;> by_cases h4 : g 2 ≤ q 3 <;> by_cases h5 : g 6 = -1 <;> by_cases h6 : g 6 = p <;> simp_all [fa_ka, fa_kp, fa_br]
/-- monotone along the units -/
theorem ga_4 {S : Nat → Nat → Int32} {g q : Int32} : ∀ n u, u ≤ n → (∀ v, v < n → ∃ k, k < 8 ∧ S (100 + v) 0 = nI k) → fa_ga S g n 4 &&& (q ^^^ (-1)) = 0 → fa_ga S g u 4 &&& (q ^^^ (-1)) = 0
  | 0, u, h, _, hh => by have : u = 0 := by omega
                         subst this; exact hh
  | n + 1, u, h, hk, hh => by
    rcases Nat.lt_or_ge u (n + 1) with x | x
    · refine ga_4 n u (by omega) (fun v hv => hk v (by omega)) ?_
      simp only [fa_ga] at hh
      by_cases c : fa_in S n g = true
      · rw [if_pos c] at hh
        obtain ⟨k, hk8, ek⟩ := hk n (by omega)
        have h2 : (fa_ga S g n 4 ||| ((1 : Int32) <<< (S (100 + n) 0 &&& 31))) &&& (q ^^^ (-1)) = 0 := hh
        rw [ek] at h2
        exact ((bt_kinds (by omega)).mp h2).1
      · rw [if_neg c] at hh; exact hh
    · have : u = n + 1 := by omega
      subst this; exact hh
theorem ga_5 {S : Nat → Nat → Int32} {g : Int32} {p : Nat} : ∀ n u, u ≤ n → bt (fa_ga S g n 5) p = false → bt (fa_ga S g u 5) p = false
  | 0, u, h, hh => by have : u = 0 := by omega
                      subst this; exact hh
  | n + 1, u, h, hh => by
    rcases Nat.lt_or_ge u (n + 1) with x | x
    · refine ga_5 n u (by omega) ?_
      simp only [fa_ga] at hh
      by_cases c : fa_in S n g = true
      · rw [if_pos c] at hh
        have h2 : bt (fa_ga S g n 5 ||| S (100 + n) 6) p = false := hh
        rw [bt_or, Bool.or_eq_false_iff] at h2
        exact h2.1
      · rw [if_neg c] at hh; exact hh
    · have : u = n + 1 := by omega
      subst this; exact hh
theorem ga_6 {S : Nat → Nat → Int32} {g : Int32} {p : Nat} (hp : p < 12) : ∀ n u, u ≤ n → (fa_ga S g n 6 = -1 ∨ fa_ga S g n 6 = nI p) → (∀ v, v < n → S (100 + v) 4 = -1 ∨ ∃ q, q < 12 ∧ S (100 + v) 4 = nI q) → (fa_ga S g u 6 = -1 ∨ fa_ga S g u 6 = nI p)
  | 0, u, h, hh, _ => by have : u = 0 := by omega
                         subst this; exact hh
  | n + 1, u, h, hh, hf => by
    rcases Nat.lt_or_ge u (n + 1) with x | x
    · refine ga_6 hp n u (by omega) ?_ (fun v hv => hf v (by omega))
      simp only [fa_ga] at hh
      by_cases c : fa_in S n g = true
      · rw [if_pos c] at hh
        have h2 : (if S (100 + n) 4 = -1 then fa_ga S g n 6 else if fa_ga S g n 6 = -1 ∨ fa_ga S g n 6 = S (100 + n) 4 then S (100 + n) 4 else -2) = -1 ∨ (if S (100 + n) 4 = -1 then fa_ga S g n 6 else if fa_ga S g n 6 = -1 ∨ fa_ga S g n 6 = S (100 + n) 4 then S (100 + n) 4 else -2) = nI p := hh
        by_cases y : S (100 + n) 4 = -1
        · rw [if_pos y] at h2; exact h2
        · rw [if_neg y] at h2
          by_cases z : fa_ga S g n 6 = -1 ∨ fa_ga S g n 6 = S (100 + n) 4
          · rw [if_pos z] at h2
            rcases z with z | z
            · exact Or.inl z
            · rcases h2 with h2 | h2
              · exact absurd h2 y
              · exact Or.inr (z.trans h2)
          · rw [if_neg z] at h2
            exfalso
            rcases h2 with h2 | h2
            · exact absurd h2 (by decide)
            · have : ∀ p, p < 12 → ¬ (-2 : Int32) = nI p := by decide +kernel
              exact this p hp h2
      · rw [if_neg c] at hh; exact hh
    · have : u = n + 1 := by omega
      subst this; exact hh
theorem fa_ch_2 {S : Nat → Nat → Int32} {g : Nat → Int32} {gn : Nat} {t : Int32} {q : Nat} (hq : q < 12) : ∀ n, n ≤ 12 → (fa_ch S g gn t n).1 = nI q → (fa_ch S g gn t n).2 = fa_co S g gn q
  | 0, _, h => by
    exfalso
    have : ∀ q, q < 12 → ¬ (-1 : Int32) = nI q := by decide +kernel
    exact this q hq h
  | n + 1, hn, h => by
    simp only [fa_ch] at h ⊢
    by_cases c : (t >>> (nI n &&& 31)) &&& 1 = 0 ∧ fa_br g (S (300 + n)) (nI n) = 0 ∧ ((fa_ch S g gn t n).1 = -1 ∨ fa_co S g gn n < (fa_ch S g gn t n).2)
    · rw [if_pos c] at h ⊢
      have e : nI n = nI q := h
      rw [nI_eq (by omega) (by omega)] at e
      rw [e]
    · rw [if_neg c] at h ⊢
      exact fa_ch_2 hq n (by omega) h
theorem nI_m1 : ∀ q, q < 12 → ¬ nI q = -1 := by decide +kernel
theorem rl_m {nU nP r : Nat} (h : (decide (r = 400) || (decide (403 ≤ r) && decide (r < 411)) || (decide (412 ≤ r) && decide (r < 418)) || (decide (422 ≤ r) && decide (r < 427)) || decide (r = 500)) = true) : rl_in nU nP r = true := by
  unfold rl_in
  simp only [Bool.or_eq_true, Bool.and_eq_true, decide_eq_true_eq] at h ⊢
  omega
