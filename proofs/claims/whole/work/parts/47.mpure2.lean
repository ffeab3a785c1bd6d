/-! WHAT THE MODEL'S WRITING LOOPS LEAVE. -/
theorem ok_A_bl {w : wd_T} {G : Nat → Nat → Int32} (hA : ok_A w G) {b : Nat} (hb : b < w.2.2.2) {x : Int32} (hx : x = 0 ∨ x = 1) : ok_A w (va_up G (300 + b) (upd (G (300 + b)) 4 x)) := by
  obtain ⟨h1, h2, h3, h4, h5, h6, h7, h8, h9⟩ := hA
  have h12 := h1.1
  have h13 := h1.2.1
  have e : ∀ u, u < 12 → va_up G (300 + b) (upd (G (300 + b)) 4 x) (100 + u) = G (100 + u) := fun u hu => va_up_ne _ _ (by omega)
  have ei : ∀ u g, u < 12 → fa_in (va_up G (300 + b) (upd (G (300 + b)) 4 x)) u g = fa_in G u g := fun u g hu => by unfold fa_in; rw [e u hu]
  refine ⟨?_, fun u hu => ?_, fun u hu hd => ?_, fun u g hu hg hl he => ?_, ⟨fun u hu => ?_, fun u p hu hp => ?_, fun p hp => ?_, fun k hk => ?_⟩, fun u hu => ?_, ?_, ?_, fun u g hu hd hg he => ?_⟩
  · exact ok_N_p h1
  · rw [e u (by omega)]; exact h2 u hu
  · rw [e u (by omega)] at hd ⊢
    obtain ⟨g, g1, g2, g3⟩ := h3 u hu hd
    exact ⟨g, g1, g2, by unfold fa_gr at g3 ⊢; rw [ei g _ (by omega)]; exact g3⟩
  · rw [e u (by omega)] at he ⊢
    exact h4 u g hu hg (by unfold fa_gr at hl ⊢; rw [ei g _ (by omega)] at hl; exact hl) he
  · rw [e u (by omega)]; exact h5.1 u hu
  · rw [va_up_ne _ _ (by omega)]; exact h5.2.1 u p hu hp
  · by_cases z : p = b
    · subst z
      obtain ⟨y1, y2, y3, y4⟩ := h5.2.2.1 p hp
      rw [va_up_self]
      exact ⟨y1, y2, by simpa [upd] using hx, y4⟩
    · rw [va_up_ne _ _ (by omega)]; exact h5.2.2.1 p hp
  · rw [va_up_ne _ _ (by omega)]; exact h5.2.2.2 k hk
  · rw [e u (by omega)]; exact h6 u hu
  · rw [va_up_ne _ _ (by omega)]; exact h7
  · rw [va_up_ne _ _ (by omega)]; exact h8
  · rw [e u (by omega)] at hd he ⊢
    rw [e g (by omega)]
    exact h9 u g hu hd hg he
/-- one of the units' rows of the model is written, for the units of a group -/
def ml_w (n : Nat) (B T : Nat → Nat → Int32) (q : Nat) (cc : Nat → Bool) (x : Int32) (u : Nat) : Prop := (∀ r, r ≠ q → T r = B r) ∧ ∀ v, T q v = if v < u ∧ v < n ∧ cc v = true then x else B q v
theorem ml_w0 {n : Nat} {B : Nat → Nat → Int32} {q : Nat} {cc : Nat → Bool} {x : Int32} : ml_w n B B q cc x 0 := ⟨fun _ _ => rfl, fun v => by rw [if_neg (by omega)]⟩
theorem ml_wY {n : Nat} {B T : Nat → Nat → Int32} {q : Nat} {cc : Nat → Bool} {x : Int32} {u : Nat} (h : ml_w n B T q cc x u) (hu : u < n) (hc : cc u = true) : ml_w n B (va_up T q (upd (T q) u x)) q cc x (u + 1) := by
  refine ⟨fun r hr => by rw [va_up_ne _ _ hr]; exact h.1 r hr, fun v => ?_⟩
  rw [va_up_self]
  simp only [upd]
  by_cases e : v = u
  · subst e; rw [if_pos rfl, if_pos ⟨by omega, hu, hc⟩]
  · rw [if_neg e, h.2 v]
    by_cases z : v < u ∧ v < n ∧ cc v = true
    · rw [if_pos z, if_pos ⟨by omega, z.2⟩]
    · rw [if_neg z, if_neg (fun y => z ⟨by omega, y.2⟩)]
theorem ml_wN {n : Nat} {B T : Nat → Nat → Int32} {q : Nat} {cc : Nat → Bool} {x : Int32} {u : Nat} (h : ml_w n B T q cc x u) (hc : ¬ cc u = true) : ml_w n B T q cc x (u + 1) := by
  refine ⟨h.1, fun v => ?_⟩
  rw [h.2 v]
  by_cases z : v < u ∧ v < n ∧ cc v = true
  · rw [if_pos z, if_pos ⟨by omega, z.2⟩]
  · by_cases y : v = u
    · subst y; rw [if_neg z, if_neg (fun y => hc y.2.2)]
    · rw [if_neg z, if_neg (fun y => z ⟨by omega, y.2⟩)]
theorem ml_at {n : Nat} {B T : Nat → Nat → Int32} {q : Nat} {cc : Nat → Bool} {x : Int32} {u : Nat} (h : ml_w n B T q cc x u) : T q u = B q u := by
  rw [h.2 u, if_neg (by omega)]
theorem ml_fr {n : Nat} {B T : Nat → Nat → Int32} {q : Nat} {cc : Nat → Bool} {x : Int32} {u : Nat} (h1 : 400 ≤ q) (h2 : q < 427) (h : ml_w n B T q cc x u) : fr_M B T := fun r hr => h.1 r (by omega)
theorem ga_cY {G : Nat → Nat → Int32} {g : Int32} {u : Nat} (h : fa_in G u g = true) : fa_ga G g (u + 1) 1 = fa_ga G g u 1 + 1 := by simp only [fa_ga]; rw [if_pos h]; rfl
theorem ga_cN {G : Nat → Nat → Int32} {g : Int32} {u : Nat} (h : ¬ fa_in G u g = true) : fa_ga G g (u + 1) 1 = fa_ga G g u 1 := by simp only [fa_ga]; rw [if_neg h]
/-- a group is done -/
theorem md_fin {w : wd_T} {G B T : Nat → Nat → Int32} {g : Int32} (h12 : w.2.2.1 ≤ 12) (hR : md_R w G B) (h : ml_w w.2.2.1 B T 408 (fun u => fa_in G u g) 1 w.2.2.1) : md_R w (fa_fi G w.2.2.1 g) T := by
  refine md_wr h12 hR (fun row k k1 k2 k3 => by simp only [upd]; rw [if_neg k3]) (fun r r1 r2 r3 => h.1 r r3) (fun u hu => ?_) (fun u hu => ?_)
  · obtain ⟨y1, y2, y3, y4, y5, y6⟩ := hR.2.1 u hu
    rw [h.1 405 (by decide), h.1 407 (by decide), h.2 u, y3, y5, y6]
    by_cases c : fa_in G u g = true
    · rw [if_pos c, if_pos c, if_pos ⟨hu, hu, c⟩, if_pos c]; simp [upd]
    · rw [if_neg c, if_neg c, if_neg (fun z => c z.2.2), if_neg c]; exact ⟨rfl, rfl, rfl⟩
  · rw [h.2 u, if_neg (by omega)]
/-- a group is planned -/
theorem md_pla {w : wd_T} {G B T : Nat → Nat → Int32} {g x : Int32} (h12 : w.2.2.1 ≤ 12) (hR : md_R w G B) (h : ml_w w.2.2.1 B T 407 (fun u => fa_in G u g) x w.2.2.1) : md_R w (fa_un G w.2.2.1 g x) T := by
  refine md_wr h12 hR (fun row k k1 k2 k3 => by simp only [upd]; rw [if_neg k2]) (fun r r1 r2 r3 => h.1 r r2) (fun u hu => ?_) (fun u hu => ?_)
  · obtain ⟨y1, y2, y3, y4, y5, y6⟩ := hR.2.1 u hu
    rw [h.1 405 (by decide), h.1 408 (by decide), h.2 u, y3, y5, y6]
    by_cases c : fa_in G u g = true
    · rw [if_pos c, if_pos c, if_pos ⟨hu, hu, c⟩, if_pos c]; simp [upd]
    · rw [if_neg c, if_neg c, if_neg (fun z => c z.2.2), if_neg c]; exact ⟨rfl, rfl, rfl⟩
  · rw [h.1 408 (by decide)]
/-- two groups become one -/
def ml_g (n : Nat) (B T : Nat → Nat → Int32) (cc : Nat → Bool) (x : Int32) (u : Nat) : Prop := (∀ r, r ≠ 405 → r ≠ 407 → T r = B r) ∧ (∀ v, T 405 v = if v < u ∧ v < n ∧ cc v = true then x else B 405 v) ∧ ∀ v, T 407 v = if v < u ∧ v < n ∧ cc v = true then -1 else B 407 v
theorem ml_g0 {n : Nat} {B : Nat → Nat → Int32} {cc : Nat → Bool} {x : Int32} : ml_g n B B cc x 0 := ⟨fun _ _ _ => rfl, fun v => by rw [if_neg (by omega)], fun v => by rw [if_neg (by omega)]⟩
theorem ml_gN {n : Nat} {B T : Nat → Nat → Int32} {cc : Nat → Bool} {x : Int32} {u : Nat} (h : ml_g n B T cc x u) (hc : ¬ cc u = true) : ml_g n B T cc x (u + 1) := by
  have key : ∀ v, (v < u + 1 ∧ v < n ∧ cc v = true) ↔ (v < u ∧ v < n ∧ cc v = true) := fun v => ⟨fun y => ⟨by
    have : v ≠ u := fun e => hc (e ▸ y.2.2)
    omega, y.2⟩, fun y => ⟨by omega, y.2⟩⟩
  refine ⟨h.1, fun v => ?_, fun v => ?_⟩
  · rw [h.2.1 v]
    by_cases z : v < u ∧ v < n ∧ cc v = true
    · rw [if_pos z, if_pos ((key v).mpr z)]
    · rw [if_neg z, if_neg (fun y => z ((key v).mp y))]
  · rw [h.2.2 v]
    by_cases z : v < u ∧ v < n ∧ cc v = true
    · rw [if_pos z, if_pos ((key v).mpr z)]
    · rw [if_neg z, if_neg (fun y => z ((key v).mp y))]
theorem ml_gY {n : Nat} {B T : Nat → Nat → Int32} {cc : Nat → Bool} {x : Int32} {u : Nat} (h : ml_g n B T cc x u) (hu : u < n) (hc : cc u = true) : ml_g n B (va_up (va_up T 405 (upd (T 405) u x)) 407 (upd (va_up T 405 (upd (T 405) u x) 407) u (-1))) cc x (u + 1) := by
  refine ⟨fun r h1 h2 => by rw [va_up_ne _ _ h2, va_up_ne _ _ h1]; exact h.1 r h1 h2, fun v => ?_, fun v => ?_⟩
  · rw [va_up_ne _ _ (by decide), va_up_self]
    simp only [upd]
    by_cases e : v = u
    · subst e; rw [if_pos rfl, if_pos ⟨by omega, hu, hc⟩]
    · rw [if_neg e, h.2.1 v]
      by_cases z : v < u ∧ v < n ∧ cc v = true
      · rw [if_pos z, if_pos ⟨by omega, z.2⟩]
      · rw [if_neg z, if_neg (fun y => z ⟨by omega, y.2⟩)]
  · rw [va_up_self, va_up_ne _ _ (by decide)]
    simp only [upd]
    by_cases e : v = u
    · subst e; rw [if_pos rfl, if_pos ⟨by omega, hu, hc⟩]
    · rw [if_neg e, h.2.2 v]
      by_cases z : v < u ∧ v < n ∧ cc v = true
      · rw [if_pos z, if_pos ⟨by omega, z.2⟩]
      · rw [if_neg z, if_neg (fun y => z ⟨by omega, y.2⟩)]
theorem md_tog {w : wd_T} {G B T : Nat → Nat → Int32} {lo hi : Nat} (h12 : w.2.2.1 ≤ 12) (hl : lo < 12) (hh : hi < 12) (hne : lo ≠ hi) (hR : md_R w G B) (h : ml_g w.2.2.1 B T (fun u => fa_in G u (nI lo) || fa_in G u (nI hi)) (nI lo) w.2.2.1) : md_R w (fa_un (fa_to G w.2.2.1 (nI lo) (nI hi)) w.2.2.1 (nI lo) (-1)) T := by
  rw [tg_N hl hh hne]
  refine md_wr h12 hR (fun row k k1 k2 k3 => by simp only [tg_f, upd]; rw [if_neg k2, if_neg k1]) (fun r r1 r2 r3 => h.1 r r1 r2) (fun u hu => ?_) (fun u hu => ?_)
  · obtain ⟨y1, y2, y3, y4, y5, y6⟩ := hR.2.1 u hu
    rw [h.1 408 (by decide) (by decide), h.2.1 u, h.2.2 u, y3, y5, y6]
    by_cases c : (fa_in G u (nI lo) || fa_in G u (nI hi)) = true
    · have c3 : u < w.2.2.1 ∧ u < w.2.2.1 ∧ (fun u => fa_in G u (nI lo) || fa_in G u (nI hi)) u = true := ⟨hu, hu, c⟩
      refine ⟨?_, ?_, ?_⟩
      · rw [if_pos c3, if_pos c]; simp [tg_f, upd]
      · rw [if_pos c3, if_pos c]; simp [tg_f, upd]
      · rw [if_pos c]; simp [tg_f, upd]
    · have c3 : ¬ (u < w.2.2.1 ∧ u < w.2.2.1 ∧ (fun u => fa_in G u (nI lo) || fa_in G u (nI hi)) u = true) := fun z => c z.2.2
      refine ⟨?_, ?_, ?_⟩
      · rw [if_neg c3, if_neg c]
      · rw [if_neg c3, if_neg c]
      · rw [if_neg c]
  · rw [h.1 408 (by decide) (by decide)]
/-- the places taken by other groups -/
def fm_tk (G : Nat → Nat → Int32) (g : Nat) : Nat → Int32
  | 0 => 0
  | u + 1 => if fa_gr G u = true ∧ u ≠ g ∧ ¬ G (100 + u) 3 = -1 then fm_tk G g u ||| ((1 : Int32) <<< (G (100 + u) 3 &&& 31)) else fm_tk G g u
theorem tk_m {G : Nat → Nat → Int32} {g p : Nat} (hp : p < 12) : ∀ n, (∀ u, u < n → G (100 + u) 3 = -1 ∨ ∃ q, q < 12 ∧ G (100 + u) 3 = nI q) → (bt (fm_tk G g n) p = true ↔ ∃ u, u < n ∧ fa_gr G u = true ∧ u ≠ g ∧ G (100 + u) 3 = nI p)
  | 0, _ => by simp [fm_tk, bt_zero]
  | n + 1, h => by
    have ih := tk_m (g := g) hp n (fun u hu => h u (by omega))
    simp only [fm_tk]
    by_cases c : fa_gr G n = true ∧ n ≠ g ∧ ¬ G (100 + n) 3 = -1
    · rw [if_pos c]
      obtain ⟨q, hq, eq⟩ := (h n (by omega)).resolve_left c.2.2
      rw [bt_or, Bool.or_eq_true, ih, eq, bt_one q (by omega) p (by omega), decide_eq_true_eq]
      constructor
      · rintro (⟨u, h1, h2⟩ | h1)
        · exact ⟨u, by omega, h2⟩
        · exact ⟨n, by omega, c.1, c.2.1, by rw [eq, h1]⟩
      · rintro ⟨u, h1, h2, h3, h4⟩
        by_cases e : u = n
        · subst e
          rw [eq, nI_eq (by omega) (by omega)] at h4
          exact Or.inr h4.symm
        · exact Or.inl ⟨u, by omega, h2, h3, h4⟩
    · rw [if_neg c, ih]
      constructor
      · rintro ⟨u, h1, h2⟩; exact ⟨u, by omega, h2⟩
      · rintro ⟨u, h1, h2, h3, h4⟩
        by_cases e : u = n
        · subst e
          exact absurd ⟨h2, h3, fun z => by rw [z] at h4; exact nI_m1 p hp h4.symm⟩ c
        · exact ⟨u, by omega, h2, h3, h4⟩
theorem tk_c {G : Nat → Nat → Int32} {p : Nat} (hp : p < 12) : ∀ n, (∀ u, u < n → G (100 + u) 3 = -1 ∨ ∃ q, q < 12 ∧ G (100 + u) 3 = nI q) → (bt (fa_pp G n) p = true ↔ ∃ u, u < n ∧ G (100 + u) 5 = 0 ∧ G (100 + u) 3 = nI p)
  | 0, _ => by simp [fa_pp, bt_zero]
  | n + 1, h => by
    have ih := tk_c hp n (fun u hu => h u (by omega))
    simp only [fa_pp]
    by_cases c : fa_pl G n = true
    · rw [if_pos c]
      have c2 : G (100 + n) 5 = 0 ∧ ¬ G (100 + n) 3 = -1 := by simpa [fa_pl] using c
      obtain ⟨q, hq, eq⟩ := (h n (by omega)).resolve_left c2.2
      rw [bt_or, Bool.or_eq_true, ih, eq, bt_one q (by omega) p (by omega), decide_eq_true_eq]
      constructor
      · rintro (⟨u, h1, h2⟩ | h1)
        · exact ⟨u, by omega, h2⟩
        · exact ⟨n, by omega, c2.1, by rw [eq, h1]⟩
      · rintro ⟨u, h1, h2, h4⟩
        by_cases e : u = n
        · subst e
          rw [eq, nI_eq (by omega) (by omega)] at h4
          exact Or.inr h4.symm
        · exact Or.inl ⟨u, by omega, h2, h4⟩
    · rw [if_neg c, ih]
      constructor
      · rintro ⟨u, h1, h2⟩; exact ⟨u, by omega, h2⟩
      · rintro ⟨u, h1, h2, h4⟩
        by_cases e : u = n
        · subst e
          exact absurd (by simp [fa_pl, h2, h4, nI_m1 p hp]) c
        · exact ⟨u, by omega, h2, h4⟩
theorem fa_pf_st {S : Nat → Nat → Int32} {p : Int32} {g : Nat} (hg : g < 1000) : ∀ k u, u + k < 1000 → fa_pf S p k u = nI g → S (100 + g) 3 = p ∧ fa_gr S g = true
  | 0, u, _, h => by
    exfalso
    have h2 : (-1 : Int32).toInt = (nI g).toInt := congrArg Int32.toInt h
    rw [nI_toInt (by omega)] at h2
    have : (-1 : Int32).toInt = -1 := by decide
    omega
  | k + 1, u, hk, h => by
    simp only [fa_pf] at h
    by_cases c : fa_gr S u = true ∧ S (100 + u) 3 = p
    · rw [if_pos c, nI_eq (by omega) (by omega)] at h
      subst h; exact ⟨c.2, c.1⟩
    · rw [if_neg c] at h; exact fa_pf_st hg k (u + 1) (by omega) h
/-- the model's and the class's cheapest place for a group whose place is blocked -/
theorem tk_same {w : wd_T} {G : Nat → Nat → Int32} {g b : Nat} (hA : ok_A w G) (hb : b < w.2.2.2) (hg : g < w.2.2.1) (hpf : fa_pf G (nI b) w.2.2.1 0 = nI g) (gr : Nat → Int32) : fa_ch (va_up G (300 + b) (upd (G (300 + b)) 4 1)) gr g (fm_tk (va_up G (300 + b) (upd (G (300 + b)) 4 1)) g w.2.2.1) w.2.2.2 = fa_ch (va_up G (300 + b) (upd (G (300 + b)) 4 1)) gr g (fa_pp G w.2.2.1) w.2.2.2 := by
  have h12 := hA.1.1
  have h13 := hA.1.2.1
  obtain ⟨hst, hlg⟩ := fa_pf_st (by omega) _ _ (by omega) hpf
  have e : ∀ u, u < 12 → va_up G (300 + b) (upd (G (300 + b)) 4 1) (100 + u) = G (100 + u) := fun u hu => va_up_ne _ _ (by omega)
  have hst9 : ∀ u, u < w.2.2.1 → G (100 + u) 3 = -1 ∨ ∃ q, q < 12 ∧ G (100 + u) 3 = nI q := fun u hu => by
    rcases (hA.2.1 u hu).2.2.1 with h | ⟨q, h1, h2⟩
    · exact Or.inl h
    · exact Or.inr ⟨q, by omega, h2⟩
  refine fa_ch_tk _ (fun p hp hbr => ?_)
  have hpb : p ≠ b := fun z => by
    subst z
    rw [va_up_self] at hbr
    simp [fa_br, upd] at hbr
  rw [bt_0 _ (by omega), bt_0 _ (by omega)]
  have k1 := tk_m (G := va_up G (300 + b) (upd (G (300 + b)) 4 1)) (g := g) (p := p) (by omega) w.2.2.1 (fun u hu => by rw [e u (by omega)]; exact hst9 u hu)
  have k2 := tk_c (G := G) (p := p) (by omega) w.2.2.1 hst9
  have k3 : (∃ u, u < w.2.2.1 ∧ fa_gr (va_up G (300 + b) (upd (G (300 + b)) 4 1)) u = true ∧ u ≠ g ∧ va_up G (300 + b) (upd (G (300 + b)) 4 1) (100 + u) 3 = nI p) ↔ ∃ u, u < w.2.2.1 ∧ G (100 + u) 5 = 0 ∧ G (100 + u) 3 = nI p := by
    constructor
    · rintro ⟨u, h1, h2, h3, h4⟩
      rw [e u (by omega)] at h4
      have h2' : fa_gr G u = true := by
        unfold fa_gr fa_in at h2 ⊢
        rw [e u (by omega)] at h2
        exact h2
      exact ⟨u, h1, (fa_in_tt h2').1, h4⟩
    · rintro ⟨u, h1, h2, h4⟩
      obtain ⟨v, v1, v2, v3⟩ := hA.2.2.1 u h1 h2
      have h5 := hA.2.2.2.2.2.2.2.2 u v h1 h2 (by omega) v2
      refine ⟨v, by omega, ?_, fun z => ?_, ?_⟩
      · unfold fa_gr fa_in at v3 ⊢
        rw [e v (by omega)]
        exact v3
      · subst z
        rw [← h5, h4, nI_eq (by omega) (by omega)] at hst
        exact hpb hst
      · rw [e v (by omega), ← h5]; exact h4
  rw [k3, ← k2] at k1
  cases h1 : bt (fm_tk (va_up G (300 + b) (upd (G (300 + b)) 4 1)) g w.2.2.1) p <;> cases h2 : bt (fa_pp G w.2.2.1) p <;> simp_all
