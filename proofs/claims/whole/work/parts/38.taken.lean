/-! THE DRAFT IS TAKEN: each unit that isn't done gets the place of its group. -/
theorem td_25 (S : Nat → Nat → Int32) (n : Nat) : ∀ k v, fa_td S n k (100 + v) 2 = S (100 + v) 2 ∧ fa_td S n k (100 + v) 5 = S (100 + v) 5
  | 0, _ => ⟨rfl, rfl⟩
  | k + 1, v => by
    have ih := td_25 S n k v
    simp only [fa_td]
    split
    · rcases Nat.lt_or_ge v n with q | q
      · rw [fa_wr_un n q]
        split
        · exact ⟨by simp only [upd]; rw [if_neg (by decide)]; exact ih.1, by simp only [upd]; rw [if_neg (by decide)]; exact ih.2⟩
        · exact ih
      · rw [fa_wr_out n (Or.inr (by omega))]; exact ih
    · exact ih
theorem td_in (S : Nat → Nat → Int32) (n k v : Nat) (g : Int32) : fa_in (fa_td S n k) v g = fa_in S v g := by
  unfold fa_in
  rw [(td_25 S n k v).1, (td_25 S n k v).2]
theorem td_no {S : Nat → Nat → Int32} {n v : Nat} (hv : v < n) : ∀ k, (∀ g, g < k → fa_gr S g = true → ¬ fa_in S v (nI g) = true) → fa_td S n k (100 + v) = S (100 + v)
  | 0, _ => rfl
  | k + 1, h => by
    have ih := td_no hv k (fun g hg => h g (by omega))
    simp only [fa_td]
    by_cases q : fa_gr (fa_td S n k) k = true
    · rw [if_pos q, fa_wr_un n hv, if_neg (by rw [td_in]; exact h k (by omega) (by rw [← q]; exact (td_in S n k k _).symm))]
      exact ih
    · rw [if_neg q]; exact ih
theorem td_yes {S : Nat → Nat → Int32} {n v g : Nat} (hv : v < n) (hg : fa_gr S g = true) (hin : fa_in S v (nI g) = true) (h31 : g < 1000) : ∀ k, g < k → k < 1000 → fa_td S n k (100 + v) = upd (S (100 + v)) 3 (S 6 g)
  | 0, h, _ => by omega
  | k + 1, h, hk => by
    have hu : ∀ j, j < 1000 → j ≠ g → ¬ fa_in S v (nI j) = true := fun j hj hne hj2 => by
      simp only [fa_in, Bool.and_eq_true, decide_eq_true_eq] at hin hj2
      have := hj2.2.symm.trans hin.2
      rw [nI_eq (by omega) (by omega)] at this
      exact hne this
    simp only [fa_td]
    by_cases e : g = k
    · subst e
      have ih := td_no hv g (fun j hj _ => hu j (by omega) (by omega))
      rw [if_pos (show fa_gr (fa_td S n g) g = true from (td_in S n g g _).trans hg), fa_wr_un n hv, if_pos (by rw [td_in]; exact hin), ih, fa_td_out (Or.inl (by decide))]
    · have ih := td_yes hv hg hin h31 k (by omega) (by omega)
      by_cases q : fa_gr (fa_td S n k) k = true
      · rw [if_pos q, fa_wr_un n hv, if_neg (by rw [td_in]; exact hu k (by omega) (fun x => e x.symm))]
        exact ih
      · rw [if_neg q]; exact ih
/-- a unit that isn't done is in a group -/
def ok_G (w : wd_T) (S : Nat → Nat → Int32) : Prop := ∀ u, u < w.2.2.1 → S (100 + u) 5 = 0 → ∃ g, g ≤ u ∧ S (100 + u) 2 = nI g ∧ fa_gr S g = true
def fa_as (S : Nat → Nat → Int32) (n : Nat) (d : Nat → Int32) : Nat → Nat → Int32 := fa_wr S (fun u => decide (S (100 + u) 5 = 0)) (fun row => upd row 3 (d (row 2).toNatClampNeg)) n
theorem td_as {w : wd_T} {S T : Nat → Nat → Int32} {d : Nat → Int32} (h12 : w.2.2.1 ≤ 12) (hG : ok_G w S) (hT : sw_S S T) (hd : ∀ u, u < w.2.2.1 → fa_gr S u = true → T 6 u = d u) : sw_S (fa_as S w.2.2.1 d) (fa_td T w.2.2.1 w.2.2.1) := by
  intro r hr
  by_cases q : 100 ≤ r ∧ r < 100 + w.2.2.1
  · obtain ⟨v, hv⟩ : ∃ v, r = 100 + v := ⟨r - 100, by omega⟩
    subst hv
    have hv : v < w.2.2.1 := by omega
    unfold fa_as
    rw [fa_wr_un _ hv]
    by_cases h5 : S (100 + v) 5 = 0
    · obtain ⟨g, g1, g2, g3⟩ := hG v hv h5
      rw [if_pos (decide_eq_true h5), td_yes hv (by rw [fa_gr_sw hT]; exact g3) (by rw [fa_in_sw hT]; simp only [fa_in, Bool.and_eq_true, decide_eq_true_eq]; exact ⟨h5, g2⟩) (by omega) _ (by omega) (by omega), hT.u, hd g (by omega) g3, g2, nI_clamp (by omega)]
    · rw [if_neg (by rw [decide_eq_false h5]; decide), td_no hv _ (fun g _ _ hh => by
        rw [fa_in_sw hT] at hh
        simp only [fa_in, Bool.and_eq_true, decide_eq_true_eq] at hh
        exact h5 hh.1), hT.u]
  · unfold fa_as
    rw [fa_td_out (by omega), fa_wr_out _ (by omega)]
    exact hT r hr
theorem d1_st {S : Nat → Nat → Int32} {a b v : Nat} : ∀ n, v < n → (fa_d1 S a b n).2.2 v = (fa_d1 S a b (v + 1)).2.2 v
  | 0, h => by omega
  | n + 1, h => by
    by_cases e : v = n
    · subst e; rfl
    · rw [← d1_st n (by omega)]
      by_cases hg : fa_gr S n = true
      · by_cases hc : (fa_ch S (fa_ga S (nI n) a) n (fa_d1 S a b n).1 b).1 = -1
        · rw [← sw_d1d hg hc]; simp [upd, e]
        · rw [← sw_d1a hg hc]; simp [upd, e]
      · rw [sw_d1n hg]
theorem d1_sm {S : Nat → Nat → Int32} {a b : Nat} : ∀ u, u ≤ a → fa_sm S a (fa_d1 S a b a).2.2 u = (fa_d1 S a b u).2.1
  | 0, _ => rfl
  | u + 1, h => by
    have ih := d1_sm (S := S) (a := a) (b := b) u (by omega)
    simp only [fa_sm]
    rw [d1_st a (show u < a by omega)]
    by_cases hg : fa_gr S u = true
    · by_cases hc : (fa_ch S (fa_ga S (nI u) a) u (fa_d1 S a b u).1 b).1 = -1
      · rw [← sw_d1d hg hc, show upd (fa_d1 S a b u).2.2 u (fa_ch S (fa_ga S (nI u) a) u (fa_d1 S a b u).1 b).1 u = (fa_ch S (fa_ga S (nI u) a) u (fa_d1 S a b u).1 b).1 by simp [upd], if_neg (fun z => z.2 hc), sw_d1f hg hc]
        exact ih
      · rw [← sw_d1a hg hc, show upd (fa_d1 S a b u).2.2 u (fa_ch S (fa_ga S (nI u) a) u (fa_d1 S a b u).1 b).1 u = (fa_ch S (fa_ga S (nI u) a) u (fa_d1 S a b u).1 b).1 by simp [upd], if_pos ⟨hg, hc⟩, sw_d1c hg hc, ih]
    · rw [if_neg (fun z => hg z.1), sw_d1n hg]; exact ih
def fa_dr (w : wd_T) (S : Nat → Nat → Int32) (b : Int32) (d : Nat → Int32) : Prop := (¬ S 0 8 < fa_cnt S w.2.2.1 ∧ b = 1 ∧ ∃ f, pl_min (fa_cN S w.2.2.1) (fa_cost S w.2.2.1) (fa_al S w.2.2.1 w.2.2.2) f ∧ d = fun u => pl_i (f (fa_cN S u))) ∨ (S 0 8 < fa_cnt S w.2.2.1 ∧ b = 0 ∧ d = (fa_d1 S w.2.2.1 w.2.2.2 w.2.2.1).2.2)
def ou_assign (w : wd_T) (S : Nat → Nat → Int32) (x : Int32) : ou_T := fun c v N => (¬ 0 ≤ x ∧ c = 1 ∧ N = S) ∨ (0 ≤ x ∧ c = 0 ∧ ∃ (b : Int32) (d : Nat → Int32), fa_dr w S b d ∧
  ((¬ fa_sm S w.2.2.1 d w.2.2.1 ≤ x ∧ v = -1 ∧ N = S) ∨ (fa_sm S w.2.2.1 d w.2.2.1 ≤ x ∧ v = fa_sm S w.2.2.1 d w.2.2.1 ∧ N = va_up (fa_as S w.2.2.1 d) 0 (upd (S 0) 10 b))))
theorem as_end {w : wd_T} {S T : Nat → Nat → Int32} {d : Nat → Int32} {b : Int32} (h12 : w.2.2.1 ≤ 12) (hG : ok_G w S) (hT : sw_S S T) (hd : ∀ u, u < w.2.2.1 → fa_gr S u = true → T 6 u = d u) : sw_S (va_up (fa_as S w.2.2.1 d) 0 (upd (S 0) 10 b)) (va_up (fa_td T w.2.2.1 w.2.2.1) 0 (upd (fa_td T w.2.2.1 w.2.2.1 0) 10 b)) := by
  have h := td_as h12 hG hT hd
  rw [fa_td_out (Or.inl (by omega)), hT.z]
  intro q hq
  by_cases e : q = 0
  · subst e; rw [va_up_self, va_up_self]
  · rw [va_up_ne _ _ e, va_up_ne _ _ e]; exact h q hq
