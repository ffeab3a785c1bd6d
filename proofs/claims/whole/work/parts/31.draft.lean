/-! THE DRAFT OF THE BEST PLAN: what stands between its loops. -/
def bp_J (w : wd_T) (S : Nat → Nat → Int32) (L : Nat → Nat → Int64) (u : Nat) (T : Nat → Nat → Int32) (M : Nat → Nat → Int64) : Prop :=
  sw_S S T ∧ sw_L L M ∧ T 5 7 = nI (fa_cN S u) ∧ M 5 8 = lN (13 ^ (8 - fa_cN S u)) ∧
  (∀ r c, r < fa_cN S u → 1 ≤ c → c ≤ 20 → (M (14 + (r + 1)) c).toInt = pl_tab (fa_cost S w.2.2.1) (fa_al S w.2.2.1 w.2.2.2) r (c - 1)) ∧ (∀ i, i < 9 → M 8 i = 0) ∧ (∀ c, c < 21 → M 9 c = 0) ∧ (∀ c, c < 21 → T 10 c = 0)
theorem bp_J0 {w : wd_T} {S T : Nat → Nat → Int32} {L M : Nat → Nat → Int64} (h : bp_cl S T L M) : bp_J w S L 0 T M := by
  obtain ⟨h1, h2, h3, h4, h5, h6, h7⟩ := h
  exact ⟨h1, h2, h3, h4.trans (show (815730721 : Int64) = lN (13 ^ (8 - 0)) by decide), fun r c hr => by simp only [fa_cN] at hr; omega, h5, h6, h7⟩
theorem bp_J_no {w : wd_T} {S T : Nat → Nat → Int32} {L M : Nat → Nat → Int64} {u : Nat} (h : bp_J w S L u T M) (hg : ¬ fa_gr S u = true) : bp_J w S L (u + 1) T M := by
  have e : fa_cN S (u + 1) = fa_cN S u := by simp only [fa_cN]; rw [if_neg hg]
  unfold bp_J
  rw [e]
  exact h
theorem bp_of_sw {S T : Nat → Nat → Int32} (h : sw_S S T) (g : Nat → Int32) (gn : Nat) (f : Nat → Int64) (dw : Int64) (n : Nat) : bp_of T g gn f dw n = bp_of S g gn f dw n := by
  funext c
  simp only [bp_of]
  rw [h.p, fa_co_sw h]
theorem bp_J_next {w : wd_T} {S T T2 : Nat → Nat → Int32} {L M M2 : Nat → Nat → Int64} {u : Nat} (hP : w.2.2.2 ≤ 12) (hu : u < w.2.2.1) (h : bp_J w S L u T M) (hg : fa_gr S u = true) (hr : fa_cN S u < 8) (hC : ∀ p, fa_al S w.2.2.1 w.2.2.2 (fa_cN S u) p → 0 ≤ fa_cost S w.2.2.1 (fa_cN S u) p ∧ fa_cost S w.2.2.1 (fa_cN S u) p ≤ 1000000)
    (e1 : T2 = va_up (va_up T 4 (fa_ga S (nI u) w.2.2.1)) 5 (upd (va_up T 4 (fa_ga S (nI u) w.2.2.1) 5) 7 (nI (fa_cN S u + 1))))
    (e2 : M2 = va_up (va_up M 5 (vp_updL (M 5) 8 (M 5 8 / 13))) (14 + (fa_cN S u + 1)) (bp_of (va_up T 4 (fa_ga S (nI u) w.2.2.1)) (va_up T 4 (fa_ga S (nI u) w.2.2.1) 4) u (bp_ag (M (14 + (fa_cN S u + 1))) (M 5 8 / 13) 21) (M 5 8 / 13) w.2.2.2)) : bp_J w S L (u + 1) T2 M2 := by
  obtain ⟨h1, h2, h3, h4, h5, h6, h7, h8⟩ := h
  have e : fa_cN S (u + 1) = fa_cN S u + 1 := by simp only [fa_cN]; rw [if_pos hg]
  have hs1 : sw_S S (va_up T 4 (fa_ga S (nI u) w.2.2.1)) := h1.up (by decide) (by decide) _
  have ele := fa_le_at hg w.2.2.1 hu
  unfold bp_J
  rw [e]
  refine ⟨by rw [e1]; exact hs1.up (by decide) (by decide) _, by rw [e2]; exact (h2.up (by decide) _).up (by omega) _, by rw [e1, va_up_self]; simp only [upd, if_true], ?_, fun r c hrr c1 cN => ?_, ?_, ?_, ?_⟩
  · rw [e2, va_up_ne _ _ (by omega), va_up_self, pk_uLs, h4, dw_step _ hr]
    rw [show 8 - (fa_cN S u + 1) = 7 - fa_cN S u by omega]
  · rw [e2]
    rcases Nat.lt_or_ge r (fa_cN S u) with q | q
    · rw [va_up_ne _ _ (by omega), va_up_ne _ _ (by omega)]
      exact h5 r c q c1 cN
    · have er : r = fa_cN S u := by omega
      subst er
      rw [va_up_self, bp_of_sw hs1, va_up_self, h4, dw_step _ hr]
      have ht := bp_tab (f := M (14 + (fa_cN S u + 1))) hr hP hC c1 cN
      rw [ele] at ht
      exact ht
  · intro i hi
    rw [e2, va_up_ne _ _ (by omega), va_up_ne _ _ (by omega)]; exact h6 i hi
  · intro i hi
    rw [e2, va_up_ne _ _ (by omega), va_up_ne _ _ (by omega)]; exact h7 i hi
  · intro i hi
    rw [e1, va_up_ne _ _ (by omega), va_up_ne _ _ (by omega)]; exact h8 i hi
theorem bp_J_end {w : wd_T} {S T : Nat → Nat → Int32} {L M : Nat → Nat → Int64} (h : bp_J w S L w.2.2.1 T M) (hn : fa_cN S w.2.2.1 ≤ 8) :
    bp_R T M (fa_cN S w.2.2.1) (fun i c => pl_tab (fa_cost S w.2.2.1) (fa_al S w.2.2.1 w.2.2.2) (i - 1) (c - 1)) (fun _ => 0) (fun _ => 0) (fun _ => 0) ∧ hu_G 20 0 (fun i c => pl_tab (fa_cost S w.2.2.1) (fa_al S w.2.2.1 w.2.2.2) (i - 1) (c - 1)) (fun _ => 0) (fun _ => 0) (fun _ => 0) := by
  obtain ⟨h1, h2, h3, h4, h5, h6, h7, h8⟩ := h
  refine ⟨⟨fun i c i1 iN c1 cN => ?_, fun i i1 i8 => ?_, fun c c1 cN => ?_, fun c hc => ⟨h8 c (by omega), Nat.zero_le _⟩⟩, ⟨fun c _ _ => Nat.le_refl 0, fun c d _ _ _ _ _ hx => absurd rfl hx, fun i i1 i0 => by omega, fun i c i1 i0 => by omega, fun c _ _ hx => absurd rfl hx, fun c _ _ => Int.le_refl 0, fun c _ _ _ => rfl, fun i _ => rfl⟩⟩
  · have := h5 (i - 1) c (by omega) c1 cN
    rw [show i - 1 + 1 = i by omega] at this
    exact this
  · rw [h6 i (by omega)]; exact (show Int64.toInt 0 = 0 by decide)
  · rw [h7 c (by omega)]; exact (show Int64.toInt 0 = 0 by decide)
theorem bp_fS.sw {S T U : Nat → Nat → Int32} (h : sw_S S T) (h2 : bp_fS T U) : sw_S S U := fun r hr => (h2 r (by omega) (by omega) (by omega)).trans (h r hr)
theorem bp_fL.sw {S T U : Nat → Nat → Int64} (h : sw_L S T) (h2 : bp_fL T U) : sw_L S U := fun r hr => (h2 r (by omega) (by omega) (by omega)).trans (h r hr)
def po_bp (w : wd_T) (S : Nat → Nat → Int32) (L : Nat → Nat → Int64) : jd_P := (fun v S' L' => ∃ f, pl_min (fa_cN S w.2.2.1) (fa_cost S w.2.2.1) (fa_al S w.2.2.1 w.2.2.2) f ∧ v = some (av_i (fa_sm S w.2.2.1 (fun u => pl_i (f (fa_cN S u))) w.2.2.1)) ∧ (∀ u, u < w.2.2.1 → fa_gr S u = true → S' 6 u = pl_i (f (fa_cN S u))) ∧ sw_S S S' ∧ sw_L L L', fun _ _ _ => False)
