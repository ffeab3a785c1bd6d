/-! CONSTRUCTORS of units and places (rows by wip/whole/gen/n2.py) -/
set_option maxRecDepth 100000 in
set_option maxHeartbeats 4000000 in
theorem k_Ufill {p : Program} {l : Launch} {e : Env} {R : Room} {s : State} {m : MethodId} {args : Array Value} {below : List Frame} {meth : Method} {c : Code} {cells slots : Nat} {Q : State → Prop} {D : va_G} {A : Nat → Prop} {w : wd_T} (hx : p.tables.exec = Jvm.exec) (hb : c.code = zb_U_init) (hts : ∀ q ∈ zw_all, q.before args s = true) (hown : s.vm.findClass zn_U = some m.cls) (hK : va_K D zcl (wd_ty w) s) {h0 q0 : Nat} {n x y : Int32}
    (hnext : ∀ (H : Heap) (locs : List Loc) (ls : Array Slot), va_P D zcl ([(h0, .inr (4, [.int x, .int y, .int n, .int (-1), .int (-1), .int 0, .int 0, .ref q0])), (q0, .inl (w.2.1 0, 12, .inl (fun j => if j < 12 then (-1 : Int32) else 0)))]) H → va_D A ([(h0, .inr (4, [.int x, .int y, .int n, .int (-1), .int (-1), .int 0, .int 0, .ref q0])), (q0, .inl (w.2.1 0, 12, .inl (fun j => if j < 12 then (-1 : Int32) else 0)))]) → va_S A s.heap H locs → lv_has ls 5 [(0, .ref h0)] → W p l e R s m args below meth c H locs cells slots Q (F0 m 61 ls [])) :
    ∀ (k i : Nat), i ≤ 12 → 12 < i + k → ∀ (H : Heap) (locs : List Loc) (ls : Array Slot), va_P D zcl ([(h0, .inr (4, [.int x, .int y, .int n, .int (-1), .int (-1), .int 0, .int 0, .ref q0])), (q0, .inl (w.2.1 0, 12, .inl (fun j => if j < i then (-1 : Int32) else 0)))]) H → va_D A ([(h0, .inr (4, [.int x, .int y, .int n, .int (-1), .int (-1), .int 0, .int 0, .ref q0])), (q0, .inl (w.2.1 0, 12, .inl (fun j => if j < i then (-1 : Int32) else 0)))]) → va_S A s.heap H locs → lv_has ls 5 [(0, .ref h0), (4, .int (nI i))] → W p l e R s m args below meth c H locs cells slots Q (F0 m 40 ls []) := by
  intro k
  induction k with
  | zero => intro i h1 h2; omega
  | succ k ih =>
    intro i hi hk H locs ls hP hD hS hl
    refine lv_iload hx hb zd_U_init_40 (lv_at hl 1 rfl) ?_
    refine lv_bipush (v := nI 12) hx hb zd_U_init_42 (by decide) ?_
    refine lv_icmp_ge (tgt := 61) hx hb zd_U_init_44 (by decide) (fun h => ?_) (fun h => ?_)
    · have e_i := nI_end rfl (by omega) hi h
      subst e_i
      exact hnext H locs ls hP hD hS (lv_sub hl [0] rfl)
    · have hi2 := nI_on rfl (by omega) hi h
      refine lv_aload_n hx hb zd_U_init_47 rfl (lv_at hl 0 rfl) ?_
      refine va_get hx hb hts zl_U hown hK hP 0 rfl rfl 7 (by decide) (hts _ zi_350) (fun x h => h) rfl zd_U_init_48 ?_
      refine lv_iload hx hb zd_U_init_51 (lv_at hl 1 rfl) ?_
      refine lv_iconst (v := (-1)) hx hb zd_U_init_53 (by decide) ?_
      refine va_iast hx hb hK hP hD hS 1 0 rfl rfl (vp_in_nI hi2 (by omega)) zd_U_init_54 (fun H locs hP hD hS => ?_)
      rw [nI_clamp (by omega), show upd (fun j => if j < i then (-1 : Int32) else 0) i (-1) = (fun j => if j < (i + 1) then (-1 : Int32) else 0) by funext j; simp only [upd]; by_cases q : j = i <;> by_cases q2 : j < i <;> simp [q, q2] <;> omega] at hP hD
      refine lv_iinc (v := nI (i + 1)) (lv' := [(4, .int (nI (i + 1))), (0, .ref h0)]) hx hb zd_U_init_55 hl (k := 1) rfl (nI_inc i) (by decide) rfl (fun ls hl => ?_)
      refine lv_goto (tgt := 40) hx hb zd_U_init_58 (by decide) ?_
      exact ih (i + 1) (by omega) (by omega) H locs ls hP hD hS (lv_sub hl [1, 0] rfl)
set_option maxRecDepth 100000 in
set_option maxHeartbeats 4000000 in
theorem c_Uinit (l : Launch) (D : va_G) (w : wd_T) (h0 sz : Nat) (n x y : Int32) : Met l zy_U_init (Cond.code zy_U_init zb_U_init 5 none :: zw_all) ({ frames := 1, cells := 1, slots := 12, locals := 12 } : Room) (va_Pc [.ref h0, .int n, .int x, .int y] (fun U => U.heap.size = sz ∧ va_P D zcl [(h0, .inr (4, [.int 0, .int 0, .int 0, .int 0, .int 0, .int 0, .int 0, .null]))] U.heap ∧ va_K D zcl (wd_ty w) U ∧ va_D (fun _ => True) [(h0, .inr (4, [.int 0, .int 0, .int 0, .int 0, .int 0, .int 0, .int 0, .null]))])) (va_Qv (fun _ : Unit => True) (fun _ t => ∃ q0, va_P D zcl [(h0, .inr (4, [.int x, .int y, .int n, .int (-1), .int (-1), .int 0, .int 0, .ref q0])), (q0, .inl (w.2.1 0, 12, .inl (fun _ => -1)))] t.heap ∧ va_D (va_A [(h0, .inr (4, [.int 0, .int 0, .int 0, .int 0, .int 0, .int 0, .int 0, .null]))] sz) [(h0, .inr (4, [.int x, .int y, .int n, .int (-1), .int (-1), .int 0, .int 0, .ref q0])), (q0, .inl (w.2.1 0, 12, .inl (fun _ => -1)))]) (va_A [(h0, .inr (4, [.int 0, .int 0, .int 0, .int 0, .int 0, .int 0, .int 0, .null]))] sz)) 1 12 (va_A [(h0, .inr (4, [.int 0, .int 0, .int 0, .int 0, .int 0, .int 0, .int 0, .null]))] sz) := by
  refine Met.ofW (cc := zb_U_init) (maxL := 5) (ret := none) (by decide) rfl ?_
  intro p e s m args below meth c s₁ B hml hv
  obtain ⟨rfl, hsz, hP, hK, hD0⟩ := hv
  have hx := B.exec
  have hb := B.bytes
  have hr := B.returns
  have hts0 := atoms_spec (ws := (Cond.code zy_U_init zb_U_init 5 none :: zw_all)) B.pre
  have hts : ∀ q ∈ zw_all, q.before _ s = true := fun q hq => hts0 q (List.mem_cons_of_mem _ hq)
  have hown : s.vm.findClass zn_U = some m.cls := findClass_of_methodNamed B.named
  have hlocks := B.notSynchronized
  have hin2 : meth.name = "<init>" := (name_of_methodNamed B.named B.method).1
  subst hsz
  have hD := hD0.self (sz := s.heap.size)
  generalize hAe : va_A [(h0, .inr (4, [.int 0, .int 0, .int 0, .int 0, .int 0, .int 0, .int 0, .null]))] s.heap.size = A at hD ⊢
  have hA : ∀ q : Nat, s.heap.size ≤ q → A q := fun q h => by rw [← hAe]; exact Or.inr h
  have hS : va_S A s.heap s.heap [] := va_S.rf
  have hP : va_P D zcl [(h0, .inr (4, [.int 0, .int 0, .int 0, .int 0, .int 0, .int 0, .int 0, .null]))] s.heap := hP
  have hl := lv_entry ([.ref h0, .int n, .int x, .int y]) (n := 5) (Nat.le_of_ble_eq_true rfl)
  rw [lg_entry_eq]
  generalize (lg_sl ([.ref h0, .int n, .int x, .int y]) ++ List.replicate (5 - (lg_sl ([.ref h0, .int n, .int x, .int y])).length) Slot.unset).toArray = ls at hl ⊢
  have hl : lv_has ls 5 [(0, .ref h0), (1, .int n), (2, .int x), (3, .int y)] := hl
  refine lv_aload_n hx hb zd_U_init_0 rfl (lv_at hl 0 rfl) ?_
  refine W.objInit hx hb hown (hts _ zi_333) (hts _ zi_62) (hts _ zi_63) rfl (by rw [hml]; exact hl.1) rfl zd_U_init_1 (Nat.le_of_ble_eq_true rfl) (Nat.le_of_ble_eq_true rfl) ?_
  refine W.eq (g2 := F0 m 4 ls []) rfl ?_
  refine lv_aload_n hx hb zd_U_init_4 rfl (lv_at hl 0 rfl) ?_
  refine lv_iconst (v := (-1)) hx hb zd_U_init_5 (by decide) ?_
  refine va_put hx hb hts zl_U _ zp_U zm_U hown hK hP hD hS 0 rfl rfl 3 (by decide) (hts _ zi_342) (fun x h => h) rfl rfl rfl rfl (Nat.le_of_ble_eq_true rfl) zd_U_init_6 (fun H locs hP hD hS => ?_)
  have hP : va_P D zcl ([(h0, .inr (4, [.int 0, .int 0, .int 0, .int (-1), .int 0, .int 0, .int 0, .null]))]) H := hP
  have hD : va_D A ([(h0, .inr (4, [.int 0, .int 0, .int 0, .int (-1), .int 0, .int 0, .int 0, .null]))]) := hD
  refine lv_aload_n hx hb zd_U_init_9 rfl (lv_at hl 0 rfl) ?_
  refine lv_iconst (v := (-1)) hx hb zd_U_init_10 (by decide) ?_
  refine va_put hx hb hts zl_U _ zp_U zm_U hown hK hP hD hS 0 rfl rfl 4 (by decide) (hts _ zi_344) (fun x h => h) rfl rfl rfl rfl (Nat.le_of_ble_eq_true rfl) zd_U_init_11 (fun H locs hP hD hS => ?_)
  have hP : va_P D zcl ([(h0, .inr (4, [.int 0, .int 0, .int 0, .int (-1), .int (-1), .int 0, .int 0, .null]))]) H := hP
  have hD : va_D A ([(h0, .inr (4, [.int 0, .int 0, .int 0, .int (-1), .int (-1), .int 0, .int 0, .null]))]) := hD
  refine lv_aload_n hx hb zd_U_init_14 rfl (lv_at hl 0 rfl) ?_
  refine lv_bipush (v := 12) hx hb zd_U_init_15 (by decide) ?_
  refine nk_newa (w := w) (atype := .int) (N' := 12) (a0 := (12, .inl (fun _ => 0))) (ty := .int) hx hb (hts _ zi_103) rfl hK hP hD hS hA (fun _ => rfl) (by decide) rfl (by decide) (Nat.le_of_ble_eq_true rfl) (Nat.le_of_ble_eq_true rfl) zd_U_init_17 (cI := w.2.1 0) (hK.2 0 _ rfl).2 (fun _ h => h) (fun q0 H hP hD hS => ?_)
  have hP : va_P D zcl ([(h0, .inr (4, [.int 0, .int 0, .int 0, .int (-1), .int (-1), .int 0, .int 0, .null])), (q0, .inl (w.2.1 0, 12, .inl (fun _ => 0)))]) H := hP
  have hD : va_D A ([(h0, .inr (4, [.int 0, .int 0, .int 0, .int (-1), .int (-1), .int 0, .int 0, .null])), (q0, .inl (w.2.1 0, 12, .inl (fun _ => 0)))]) := hD
  refine W.widen (k := 1) (n := 12) (Nat.le_of_ble_eq_true rfl) (Nat.le_of_ble_eq_true rfl) ?_
  refine va_putF hx hb hts zl_U _ zp_U zm_U hown hK hP hD hS 0 rfl rfl 7 (by decide) (hts _ zi_350) (fun x h => h) rfl hin2 rfl rfl rfl rfl (Nat.le_of_ble_eq_true rfl) zd_U_init_19 (fun H locs hP hD hS => ?_)
  have hP : va_P D zcl ([(h0, .inr (4, [.int 0, .int 0, .int 0, .int (-1), .int (-1), .int 0, .int 0, .ref q0])), (q0, .inl (w.2.1 0, 12, .inl (fun _ => 0)))]) H := hP
  have hD : va_D A ([(h0, .inr (4, [.int 0, .int 0, .int 0, .int (-1), .int (-1), .int 0, .int 0, .ref q0])), (q0, .inl (w.2.1 0, 12, .inl (fun _ => 0)))]) := hD
  refine lv_aload_n hx hb zd_U_init_22 rfl (lv_at hl 0 rfl) ?_
  refine lv_iload_n hx hb zd_U_init_23 rfl (lv_at hl 2 rfl) ?_
  refine va_putF hx hb hts zl_U _ zp_U zm_U hown hK hP hD hS 0 rfl rfl 0 (by decide) (hts _ zi_334) (fun x h => h) rfl hin2 rfl rfl rfl rfl (Nat.le_of_ble_eq_true rfl) zd_U_init_24 (fun H locs hP hD hS => ?_)
  have hP : va_P D zcl ([(h0, .inr (4, [.int x, .int 0, .int 0, .int (-1), .int (-1), .int 0, .int 0, .ref q0])), (q0, .inl (w.2.1 0, 12, .inl (fun _ => 0)))]) H := hP
  have hD : va_D A ([(h0, .inr (4, [.int x, .int 0, .int 0, .int (-1), .int (-1), .int 0, .int 0, .ref q0])), (q0, .inl (w.2.1 0, 12, .inl (fun _ => 0)))]) := hD
  refine lv_aload_n hx hb zd_U_init_27 rfl (lv_at hl 0 rfl) ?_
  refine lv_iload_n hx hb zd_U_init_28 rfl (lv_at hl 3 rfl) ?_
  refine va_putF hx hb hts zl_U _ zp_U zm_U hown hK hP hD hS 0 rfl rfl 1 (by decide) (hts _ zi_337) (fun x h => h) rfl hin2 rfl rfl rfl rfl (Nat.le_of_ble_eq_true rfl) zd_U_init_29 (fun H locs hP hD hS => ?_)
  have hP : va_P D zcl ([(h0, .inr (4, [.int x, .int y, .int 0, .int (-1), .int (-1), .int 0, .int 0, .ref q0])), (q0, .inl (w.2.1 0, 12, .inl (fun _ => 0)))]) H := hP
  have hD : va_D A ([(h0, .inr (4, [.int x, .int y, .int 0, .int (-1), .int (-1), .int 0, .int 0, .ref q0])), (q0, .inl (w.2.1 0, 12, .inl (fun _ => 0)))]) := hD
  refine lv_aload_n hx hb zd_U_init_32 rfl (lv_at hl 0 rfl) ?_
  refine lv_iload_n hx hb zd_U_init_33 rfl (lv_at hl 1 rfl) ?_
  refine va_put hx hb hts zl_U _ zp_U zm_U hown hK hP hD hS 0 rfl rfl 2 (by decide) (hts _ zi_340) (fun x h => h) rfl rfl rfl rfl (Nat.le_of_ble_eq_true rfl) zd_U_init_34 (fun H locs hP hD hS => ?_)
  have hP : va_P D zcl ([(h0, .inr (4, [.int x, .int y, .int n, .int (-1), .int (-1), .int 0, .int 0, .ref q0])), (q0, .inl (w.2.1 0, 12, .inl (fun _ => 0)))]) H := hP
  have hD : va_D A ([(h0, .inr (4, [.int x, .int y, .int n, .int (-1), .int (-1), .int 0, .int 0, .ref q0])), (q0, .inl (w.2.1 0, 12, .inl (fun _ => 0)))]) := hD
  refine lv_iconst (v := 0) hx hb zd_U_init_37 (by decide) ?_
  refine lv_istore (lv' := [(4, .int 0), (0, .ref h0), (1, .int n), (2, .int x), (3, .int y)]) hx hb zd_U_init_38 hl (by decide) rfl (fun ls hl => ?_)
  refine k_Ufill hx hb hts hown hK (fun H locs ls hP hD hS hl => ?_) 13 0 (by omega) (by omega) H locs ls hP hD hS (lv_sub hl [1, 0] rfl)
  refine W.vret hx hb hr (fun t ht hW => ⟨⟨(), rfl, trivial, q0, ?_, ?_⟩, hS.F ht⟩) hS.2.2 zd_U_init_61
  · intro k q hk
    rw [ht]
    match k, hk with
    | 0, hk => cases hk; exact hP 0 _ rfl
    | 1, hk =>
      cases hk
      have h9 := hP 1 _ rfl
      show H[q0]? = some (vp_cell _ _)
      rw [vp_cell_eq (g := fun j => if j < 12 then (-1 : Int32) else 0) (fun j hj => by rw [if_pos hj])]
      exact h9
    | k + 2, hk => simp at hk
  · refine ⟨fun i j a b ha hb' e => ?_, fun k q hk => ?_⟩
    · match i, j, ha, hb' with
      | 0, 0, _, _ => rfl
      | 1, 1, _, _ => rfl
      | 0, 1, ha, hb' => cases ha; cases hb'; exact absurd (hD.1 0 1 _ _ rfl rfl e) (by decide)
      | 1, 0, ha, hb' => cases ha; cases hb'; exact absurd (hD.1 1 0 _ _ rfl rfl e) (by decide)
      | 0, j + 2, _, h => simp at h
      | 1, j + 2, _, h => simp at h
      | i + 2, _, h, _ => simp at h
    · match k, hk with
      | 0, hk => cases hk; exact hD.2 0 _ rfl
      | 1, hk =>
        cases hk
        have h9 := hD.2 1 _ rfl
        exact h9
      | k + 2, hk => simp at hk
set_option maxRecDepth 100000 in
set_option maxHeartbeats 4000000 in
theorem c_Pinit (l : Launch) (D : va_G) (w : wd_T) (h0 sz : Nat) (f z y x : Int32) : Met l zy_P_init (Cond.code zy_P_init zb_P_init 5 none :: zw_all) ({ frames := 1, cells := 0, slots := 0, locals := 12 } : Room) (va_Pc [.ref h0, .int f, .int z, .int y, .int x] (fun U => U.heap.size = sz ∧ va_P D zcl [(h0, .inr (3, [.int 0, .int 0, .int 0, .int 0, .int 0]))] U.heap ∧ va_K D zcl (wd_ty w) U ∧ va_D (fun _ => True) [(h0, .inr (3, [.int 0, .int 0, .int 0, .int 0, .int 0]))])) (va_Qv (fun _ : Unit => True) (fun _ t => va_P D zcl [(h0, .inr (3, [.int f, .int z, .int x, .int y, .int 0]))] t.heap ∧ va_D (va_A [(h0, .inr (3, [.int 0, .int 0, .int 0, .int 0, .int 0]))] sz) [(h0, .inr (3, [.int f, .int z, .int x, .int y, .int 0]))]) (va_A [(h0, .inr (3, [.int 0, .int 0, .int 0, .int 0, .int 0]))] sz)) 0 0 (va_A [(h0, .inr (3, [.int 0, .int 0, .int 0, .int 0, .int 0]))] sz) := by
  refine Met.ofW (cc := zb_P_init) (maxL := 5) (ret := none) (by decide) rfl ?_
  intro p e s m args below meth c s₁ B hml hv
  obtain ⟨rfl, hsz, hP, hK, hD0⟩ := hv
  have hx := B.exec
  have hb := B.bytes
  have hr := B.returns
  have hts0 := atoms_spec (ws := (Cond.code zy_P_init zb_P_init 5 none :: zw_all)) B.pre
  have hts : ∀ q ∈ zw_all, q.before _ s = true := fun q hq => hts0 q (List.mem_cons_of_mem _ hq)
  have hown : s.vm.findClass zn_P = some m.cls := findClass_of_methodNamed B.named
  have hlocks := B.notSynchronized
  have hin2 : meth.name = "<init>" := (name_of_methodNamed B.named B.method).1
  subst hsz
  have hD := hD0.self (sz := s.heap.size)
  generalize hAe : va_A [(h0, .inr (3, [.int 0, .int 0, .int 0, .int 0, .int 0]))] s.heap.size = A at hD ⊢
  have hA : ∀ q : Nat, s.heap.size ≤ q → A q := fun q h => by rw [← hAe]; exact Or.inr h
  have hS : va_S A s.heap s.heap [] := va_S.rf
  have hP : va_P D zcl [(h0, .inr (3, [.int 0, .int 0, .int 0, .int 0, .int 0]))] s.heap := hP
  have hl := lv_entry ([.ref h0, .int f, .int z, .int y, .int x]) (n := 5) (Nat.le_of_ble_eq_true rfl)
  rw [lg_entry_eq]
  generalize (lg_sl ([.ref h0, .int f, .int z, .int y, .int x]) ++ List.replicate (5 - (lg_sl ([.ref h0, .int f, .int z, .int y, .int x])).length) Slot.unset).toArray = ls at hl ⊢
  have hl : lv_has ls 5 [(0, .ref h0), (1, .int f), (2, .int z), (3, .int y), (4, .int x)] := hl
  refine lv_aload_n hx hb zd_P_init_0 rfl (lv_at hl 0 rfl) ?_
  refine W.objInit hx hb hown (hts _ zi_383) (hts _ zi_62) (hts _ zi_63) rfl (by rw [hml]; exact hl.1) rfl zd_P_init_1 (Nat.le_of_ble_eq_true rfl) (Nat.le_of_ble_eq_true rfl) ?_
  refine W.eq (g2 := F0 m 4 ls []) rfl ?_
  refine lv_aload_n hx hb zd_P_init_4 rfl (lv_at hl 0 rfl) ?_
  refine lv_iload_n hx hb zd_P_init_5 rfl (lv_at hl 1 rfl) ?_
  refine va_putF hx hb hts zl_P _ zp_P zm_P hown hK hP hD hS 0 rfl rfl 0 (by decide) (hts _ zi_384) (fun x h => h) rfl hin2 rfl rfl rfl rfl (Nat.le_of_ble_eq_true rfl) zd_P_init_6 (fun H locs hP hD hS => ?_)
  have hP : va_P D zcl ([(h0, .inr (3, [.int f, .int 0, .int 0, .int 0, .int 0]))]) H := hP
  have hD : va_D A ([(h0, .inr (3, [.int f, .int 0, .int 0, .int 0, .int 0]))]) := hD
  refine lv_aload_n hx hb zd_P_init_9 rfl (lv_at hl 0 rfl) ?_
  refine lv_iload_n hx hb zd_P_init_10 rfl (lv_at hl 2 rfl) ?_
  refine va_putF hx hb hts zl_P _ zp_P zm_P hown hK hP hD hS 0 rfl rfl 1 (by decide) (hts _ zi_386) (fun x h => h) rfl hin2 rfl rfl rfl rfl (Nat.le_of_ble_eq_true rfl) zd_P_init_11 (fun H locs hP hD hS => ?_)
  have hP : va_P D zcl ([(h0, .inr (3, [.int f, .int z, .int 0, .int 0, .int 0]))]) H := hP
  have hD : va_D A ([(h0, .inr (3, [.int f, .int z, .int 0, .int 0, .int 0]))]) := hD
  refine lv_aload_n hx hb zd_P_init_14 rfl (lv_at hl 0 rfl) ?_
  refine lv_iload_n hx hb zd_P_init_15 rfl (lv_at hl 3 rfl) ?_
  refine va_put hx hb hts zl_P _ zp_P zm_P hown hK hP hD hS 0 rfl rfl 3 (by decide) (hts _ zi_390) (fun x h => h) rfl rfl rfl rfl (Nat.le_of_ble_eq_true rfl) zd_P_init_16 (fun H locs hP hD hS => ?_)
  have hP : va_P D zcl ([(h0, .inr (3, [.int f, .int z, .int 0, .int y, .int 0]))]) H := hP
  have hD : va_D A ([(h0, .inr (3, [.int f, .int z, .int 0, .int y, .int 0]))]) := hD
  refine lv_aload_n hx hb zd_P_init_19 rfl (lv_at hl 0 rfl) ?_
  refine lv_iload hx hb zd_P_init_20 (lv_at hl 4 rfl) ?_
  refine va_putF hx hb hts zl_P _ zp_P zm_P hown hK hP hD hS 0 rfl rfl 2 (by decide) (hts _ zi_388) (fun x h => h) rfl hin2 rfl rfl rfl rfl (Nat.le_of_ble_eq_true rfl) zd_P_init_22 (fun H locs hP hD hS => ?_)
  have hP : va_P D zcl ([(h0, .inr (3, [.int f, .int z, .int x, .int y, .int 0]))]) H := hP
  have hD : va_D A ([(h0, .inr (3, [.int f, .int z, .int x, .int y, .int 0]))]) := hD
  exact W.vret hx hb hr (fun t ht hW => ⟨⟨(), rfl, trivial, by rw [ht]; exact hP, hD⟩, hS.F ht⟩) hS.2.2 zd_P_init_25
