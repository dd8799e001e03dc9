abbrev W_A (cI cS : ClassId) (A_0 : Nat → Nat) (qa_0 : Nat → Nat) (xa_0 : Nat → Nat) (ba_0 : Nat → Nat) (pa_0 : Nat → Nat) (da_0 : Nat → Nat) (ra_0 : Nat → Nat) (lf_0 : Int) (tc_0 : Int) : va_W := [(A_0 0, .inr (6, [.ref (qa_0 0), .ref (xa_0 0), .ref (ba_0 0), .ref (pa_0 0), .ref (da_0 0), .ref (ra_0 0), .int (iI lf_0), .int (iI tc_0)]))]
abbrev W_A_P (cI cS : ClassId) (A_0 : Nat → Nat) (qa_0 : Nat → Nat) (xa_0 : Nat → Nat) (ba_0 : Nat → Nat) (pa_0 : Nat → Nat) (da_0 : Nat → Nat) (ra_0 : Nat → Nat) (lf_0 : Int) (tc_0 : Int) (A_1 : Nat → Nat) (cnt_1 : Int) (lv_1 : Int) (kd_1 : Int → Int) (gd_1 : Int → Int) (ln_1 : Int → Int) (st_1 : Int → Int) : va_W := [(A_0 0, .inr (6, [.ref (qa_0 0), .ref (xa_0 0), .ref (ba_0 0), .ref (pa_0 0), .ref (da_0 0), .ref (ra_0 0), .int (iI lf_0), .int (iI tc_0)])), (A_1 0, .inr (1, [.ref (A_1 1), .ref (A_1 2), .ref (A_1 3), .ref (A_1 4), .int (iI cnt_1), .int (iI lv_1)])), (A_1 1, .inl (cI, 5, .inl (aI kd_1))), (A_1 2, .inl (cI, 5, .inl (aI gd_1))), (A_1 3, .inl (cI, 5, .inl (aI ln_1))), (A_1 4, .inl (cI, 20, .inl (aI st_1)))]
abbrev W_A_T_P (cI cS : ClassId) (A_0 : Nat → Nat) (qa_0 : Nat → Nat) (xa_0 : Nat → Nat) (ba_0 : Nat → Nat) (pa_0 : Nat → Nat) (da_0 : Nat → Nat) (ra_0 : Nat → Nat) (lf_0 : Int) (tc_0 : Int) (A_1 : Nat → Nat) (pa_1 : Nat → Nat) (tk_1 : Int → Int) (tg_1 : Int → Int) (tl_1 : Int) (to_1 : Int → Int) (ta_1 : Int → Int) (te_1 : Int → Int) (ts_1 : Int → Int) (tr_1 : Int → Int) (A_2 : Nat → Nat) (cnt_2 : Int) (lv_2 : Int) (kd_2 : Int → Int) (gd_2 : Int → Int) (ln_2 : Int → Int) (st_2 : Int → Int) : va_W := [(A_0 0, .inr (6, [.ref (qa_0 0), .ref (xa_0 0), .ref (ba_0 0), .ref (pa_0 0), .ref (da_0 0), .ref (ra_0 0), .int (iI lf_0), .int (iI tc_0)])), (A_1 0, .inr (5, [.ref (pa_1 0), .ref (A_1 1), .ref (A_1 2), .int (iI tl_1), .ref (A_1 3), .ref (A_1 4), .ref (A_1 5), .ref (A_1 6), .ref (A_1 7)])), (A_1 1, .inl (cI, 5, .inl (aI tk_1))), (A_1 2, .inl (cI, 5, .inl (aI tg_1))), (A_1 3, .inl (cI, 5, .inl (aI to_1))), (A_1 4, .inl (cI, 5, .inl (aI ta_1))), (A_1 5, .inl (cI, 5, .inl (aI te_1))), (A_1 6, .inl (cI, 5, .inl (aI ts_1))), (A_1 7, .inl (cI, 5, .inl (aI tr_1))), (A_2 0, .inr (1, [.ref (A_2 1), .ref (A_2 2), .ref (A_2 3), .ref (A_2 4), .int (iI cnt_2), .int (iI lv_2)])), (A_2 1, .inl (cI, 5, .inl (aI kd_2))), (A_2 2, .inl (cI, 5, .inl (aI gd_2))), (A_2 3, .inl (cI, 5, .inl (aI ln_2))), (A_2 4, .inl (cI, 20, .inl (aI st_2)))]
abbrev W_A_P_R (cI cS : ClassId) (A_0 : Nat → Nat) (qa_0 : Nat → Nat) (xa_0 : Nat → Nat) (ba_0 : Nat → Nat) (pa_0 : Nat → Nat) (da_0 : Nat → Nat) (ra_0 : Nat → Nat) (lf_0 : Int) (tc_0 : Int) (A_1 : Nat → Nat) (cnt_1 : Int) (lv_1 : Int) (kd_1 : Int → Int) (gd_1 : Int → Int) (ln_1 : Int → Int) (st_1 : Int → Int) (A_2 : Nat → Nat) (rn_2 : Int) (rf_2 : Int → Int) (ro_2 : Int → Int) : va_W := [(A_0 0, .inr (6, [.ref (qa_0 0), .ref (xa_0 0), .ref (ba_0 0), .ref (pa_0 0), .ref (da_0 0), .ref (ra_0 0), .int (iI lf_0), .int (iI tc_0)])), (A_1 0, .inr (1, [.ref (A_1 1), .ref (A_1 2), .ref (A_1 3), .ref (A_1 4), .int (iI cnt_1), .int (iI lv_1)])), (A_1 1, .inl (cI, 5, .inl (aI kd_1))), (A_1 2, .inl (cI, 5, .inl (aI gd_1))), (A_1 3, .inl (cI, 5, .inl (aI ln_1))), (A_1 4, .inl (cI, 20, .inl (aI st_1))), (A_2 0, .inr (2, [.ref (A_2 1), .ref (A_2 2), .int (iI rn_2)])), (A_2 1, .inl (cI, 8, .inl (aI rf_2))), (A_2 2, .inl (cI, 8, .inl (aI ro_2)))]
abbrev W_A_R (cI cS : ClassId) (A_0 : Nat → Nat) (qa_0 : Nat → Nat) (xa_0 : Nat → Nat) (ba_0 : Nat → Nat) (pa_0 : Nat → Nat) (da_0 : Nat → Nat) (ra_0 : Nat → Nat) (lf_0 : Int) (tc_0 : Int) (A_1 : Nat → Nat) (rn_1 : Int) (rf_1 : Int → Int) (ro_1 : Int → Int) : va_W := [(A_0 0, .inr (6, [.ref (qa_0 0), .ref (xa_0 0), .ref (ba_0 0), .ref (pa_0 0), .ref (da_0 0), .ref (ra_0 0), .int (iI lf_0), .int (iI tc_0)])), (A_1 0, .inr (2, [.ref (A_1 1), .ref (A_1 2), .int (iI rn_1)])), (A_1 1, .inl (cI, 8, .inl (aI rf_1))), (A_1 2, .inl (cI, 8, .inl (aI ro_1)))]
abbrev W_A_T_P_R (cI cS : ClassId) (A_0 : Nat → Nat) (qa_0 : Nat → Nat) (xa_0 : Nat → Nat) (ba_0 : Nat → Nat) (pa_0 : Nat → Nat) (da_0 : Nat → Nat) (ra_0 : Nat → Nat) (lf_0 : Int) (tc_0 : Int) (A_1 : Nat → Nat) (pa_1 : Nat → Nat) (tk_1 : Int → Int) (tg_1 : Int → Int) (tl_1 : Int) (to_1 : Int → Int) (ta_1 : Int → Int) (te_1 : Int → Int) (ts_1 : Int → Int) (tr_1 : Int → Int) (A_2 : Nat → Nat) (cnt_2 : Int) (lv_2 : Int) (kd_2 : Int → Int) (gd_2 : Int → Int) (ln_2 : Int → Int) (st_2 : Int → Int) (A_3 : Nat → Nat) (rn_3 : Int) (rf_3 : Int → Int) (ro_3 : Int → Int) : va_W := [(A_0 0, .inr (6, [.ref (qa_0 0), .ref (xa_0 0), .ref (ba_0 0), .ref (pa_0 0), .ref (da_0 0), .ref (ra_0 0), .int (iI lf_0), .int (iI tc_0)])), (A_1 0, .inr (5, [.ref (pa_1 0), .ref (A_1 1), .ref (A_1 2), .int (iI tl_1), .ref (A_1 3), .ref (A_1 4), .ref (A_1 5), .ref (A_1 6), .ref (A_1 7)])), (A_1 1, .inl (cI, 5, .inl (aI tk_1))), (A_1 2, .inl (cI, 5, .inl (aI tg_1))), (A_1 3, .inl (cI, 5, .inl (aI to_1))), (A_1 4, .inl (cI, 5, .inl (aI ta_1))), (A_1 5, .inl (cI, 5, .inl (aI te_1))), (A_1 6, .inl (cI, 5, .inl (aI ts_1))), (A_1 7, .inl (cI, 5, .inl (aI tr_1))), (A_2 0, .inr (1, [.ref (A_2 1), .ref (A_2 2), .ref (A_2 3), .ref (A_2 4), .int (iI cnt_2), .int (iI lv_2)])), (A_2 1, .inl (cI, 5, .inl (aI kd_2))), (A_2 2, .inl (cI, 5, .inl (aI gd_2))), (A_2 3, .inl (cI, 5, .inl (aI ln_2))), (A_2 4, .inl (cI, 20, .inl (aI st_2))), (A_3 0, .inr (2, [.ref (A_3 1), .ref (A_3 2), .int (iI rn_3)])), (A_3 1, .inl (cI, 8, .inl (aI rf_3))), (A_3 2, .inl (cI, 8, .inl (aI ro_3)))]
section XU
variable {p : Program} {l : Launch} {e : Env} {R : Room} {s : State} {m : MethodId} {args : Array Value} {below : List Frame} {meth : Method} {c : Code} {H : Heap} {locs : List Loc} {cells slots : Nat} {Q : State → Prop}
variable {cc : ByteArray} {pc : Nat} {ls : Array Slot} {rest : List Value}
theorem n_iushr {x y z : Int} (h : ((iI x).toUInt32 >>> ((iI y).toUInt32 &&& Int32.toUInt32 31)).toInt32 = iI z) (hexec : p.tables.exec = Jvm.exec) (hb : c.code = cc) (hdg : decode cc pc = .ok (.iushr, 1)) (k : W p l e R s m args below meth c H locs cells slots Q (F0 m (pc + 1) ls (.int (iI z) :: rest))) : W p l e R s m args below meth c H locs cells slots Q (F0 m pc ls (.int (iI y) :: .int (iI x) :: rest)) := lv_iushr hexec hb hdg h k
end XU
set_option maxHeartbeats 4000000 in
set_option maxRecDepth 100000 in
theorem c_X6_isSheet (l : Launch) (D : va_G) (cI cS : ClassId) (sz : Nat) (x : Int) (hx_ : -2147483648 ≤ x ∧ x < 2147483648) : Met l yX6_isSheet wsX6_isSheet ({ frames := 0, cells := 0, slots := 0, locals := 0 }) (cP D cI cS ([] : va_W) sz [.int (iI x)]) (va_Qi (fun (r : Int32) (u : Unit) => r = iI (if 0 ≤ x ∧ x < 4 then 1 else 0)) (fun (u : Unit) t => cB D (va_A ([] : va_W) sz) ([] : va_W) t) (va_A ([] : va_W) sz)) 0 0 (va_A ([] : va_W) sz) := by
  refine Met.ofW (cc := cX6_isSheet) (maxL := 1) (ret := (some .boolean)) (by decide) rfl ?_
  intro p e s m args below meth c_ s₁ B hml hv
  obtain ⟨rfl, hsz, hP, hK, hD0⟩ := hv
  have hx := B.exec
  have hb := B.bytes
  have hr := B.returns
  have hts := atoms_spec (ws := wsX6_isSheet) B.pre
  have hown : s.vm.findClass RX6 = some m.cls := findClass_of_methodNamed B.named
  have hlocks := B.notSynchronized
  subst hsz
  have hD := hD0.self (sz := s.heap.size)
  generalize hAe : va_A ([] : va_W) s.heap.size = A at hD ⊢
  have hA : ∀ q : Nat, s.heap.size ≤ q → A q := fun q h => by rw [← hAe]; exact Or.inr h
  have hS : va_S A s.heap s.heap [] := va_S.rf
  have hP : va_P D vwCl ([] : va_W) s.heap := hP
  have hl := lv_entry ([.int (iI x)] : List Value) (n := 1) (Nat.le_of_ble_eq_true rfl)
  rw [lg_entry_eq]
  generalize (lg_sl ([.int (iI x)] : List Value) ++ List.replicate (1 - (lg_sl ([.int (iI x)] : List Value)).length) Slot.unset).toArray = ls at hl ⊢
  have hl : lv_has ls 1 [(0, .int (iI x))] := hl
  refine lv_iload_n hx hb dX6_isSheet_0 rfl (lv_at hl 0 rfl) ?_
  refine n_if_lt (tgt := 13) hx hb dX6_isSheet_1 (by decide) (by omega) (fun c_1 => ?_) (fun c_1 => ?_)
  ·
    refine lv_iconst (v := iI 0) hx hb dX6_isSheet_13 (by decide +kernel) ?_
    exact W.zret (v := iI 0) (ty := .boolean) hx hb hr (by decide +kernel) (fun t ht hW => ⟨⟨_, (), rfl, congrArg iI (show 0 = (if 0 ≤ x ∧ x < 4 then 1 else 0) from (by omega)), by rw [ht]; exact hP, hD⟩, hS.F ht⟩) hS.2.2 dX6_isSheet_14
  ·
    refine lv_iload_n hx hb dX6_isSheet_4 rfl (lv_at hl 0 rfl) ?_
    refine lv_iconst (v := iI 4) hx hb dX6_isSheet_5 (by decide +kernel) ?_
    refine n_icmp_ge (tgt := 13) hx hb dX6_isSheet_6 (by decide) (by omega) (fun c_2 => ?_) (fun c_2 => ?_)
    ·
      refine lv_iconst (v := iI 0) hx hb dX6_isSheet_13 (by decide +kernel) ?_
      exact W.zret (v := iI 0) (ty := .boolean) hx hb hr (by decide +kernel) (fun t ht hW => ⟨⟨_, (), rfl, congrArg iI (show 0 = (if 0 ≤ x ∧ x < 4 then 1 else 0) from (by omega)), by rw [ht]; exact hP, hD⟩, hS.F ht⟩) hS.2.2 dX6_isSheet_14
    ·
      refine lv_iconst (v := iI 1) hx hb dX6_isSheet_9 (by decide +kernel) ?_
      refine lv_goto (tgt := 14) hx hb dX6_isSheet_10 (by decide) ?_
      exact W.zret (v := iI 1) (ty := .boolean) hx hb hr (by decide +kernel) (fun t ht hW => ⟨⟨_, (), rfl, congrArg iI (show 1 = (if 0 ≤ x ∧ x < 4 then 1 else 0) from (by omega)), by rw [ht]; exact hP, hD⟩, hS.F ht⟩) hS.2.2 dX6_isSheet_14
set_option maxHeartbeats 4000000 in
set_option maxRecDepth 100000 in
theorem c_X6_isLane (l : Launch) (D : va_G) (cI cS : ClassId) (sz : Nat) (x : Int) (hx_ : -2147483648 ≤ x ∧ x < 2147483648) : Met l yX6_isLane wsX6_isLane ({ frames := 0, cells := 0, slots := 0, locals := 0 }) (cP D cI cS ([] : va_W) sz [.int (iI x)]) (va_Qi (fun (r : Int32) (u : Unit) => r = iI (if 0 ≤ x ∧ x < 3 then 1 else 0)) (fun (u : Unit) t => cB D (va_A ([] : va_W) sz) ([] : va_W) t) (va_A ([] : va_W) sz)) 0 0 (va_A ([] : va_W) sz) := by
  refine Met.ofW (cc := cX6_isLane) (maxL := 1) (ret := (some .boolean)) (by decide) rfl ?_
  intro p e s m args below meth c_ s₁ B hml hv
  obtain ⟨rfl, hsz, hP, hK, hD0⟩ := hv
  have hx := B.exec
  have hb := B.bytes
  have hr := B.returns
  have hts := atoms_spec (ws := wsX6_isLane) B.pre
  have hown : s.vm.findClass RX6 = some m.cls := findClass_of_methodNamed B.named
  have hlocks := B.notSynchronized
  subst hsz
  have hD := hD0.self (sz := s.heap.size)
  generalize hAe : va_A ([] : va_W) s.heap.size = A at hD ⊢
  have hA : ∀ q : Nat, s.heap.size ≤ q → A q := fun q h => by rw [← hAe]; exact Or.inr h
  have hS : va_S A s.heap s.heap [] := va_S.rf
  have hP : va_P D vwCl ([] : va_W) s.heap := hP
  have hl := lv_entry ([.int (iI x)] : List Value) (n := 1) (Nat.le_of_ble_eq_true rfl)
  rw [lg_entry_eq]
  generalize (lg_sl ([.int (iI x)] : List Value) ++ List.replicate (1 - (lg_sl ([.int (iI x)] : List Value)).length) Slot.unset).toArray = ls at hl ⊢
  have hl : lv_has ls 1 [(0, .int (iI x))] := hl
  refine lv_iload_n hx hb dX6_isLane_0 rfl (lv_at hl 0 rfl) ?_
  refine n_if_lt (tgt := 13) hx hb dX6_isLane_1 (by decide) (by omega) (fun c_1 => ?_) (fun c_1 => ?_)
  ·
    refine lv_iconst (v := iI 0) hx hb dX6_isLane_13 (by decide +kernel) ?_
    exact W.zret (v := iI 0) (ty := .boolean) hx hb hr (by decide +kernel) (fun t ht hW => ⟨⟨_, (), rfl, congrArg iI (show 0 = (if 0 ≤ x ∧ x < 3 then 1 else 0) from (by omega)), by rw [ht]; exact hP, hD⟩, hS.F ht⟩) hS.2.2 dX6_isLane_14
  ·
    refine lv_iload_n hx hb dX6_isLane_4 rfl (lv_at hl 0 rfl) ?_
    refine lv_iconst (v := iI 3) hx hb dX6_isLane_5 (by decide +kernel) ?_
    refine n_icmp_ge (tgt := 13) hx hb dX6_isLane_6 (by decide) (by omega) (fun c_2 => ?_) (fun c_2 => ?_)
    ·
      refine lv_iconst (v := iI 0) hx hb dX6_isLane_13 (by decide +kernel) ?_
      exact W.zret (v := iI 0) (ty := .boolean) hx hb hr (by decide +kernel) (fun t ht hW => ⟨⟨_, (), rfl, congrArg iI (show 0 = (if 0 ≤ x ∧ x < 3 then 1 else 0) from (by omega)), by rw [ht]; exact hP, hD⟩, hS.F ht⟩) hS.2.2 dX6_isLane_14
    ·
      refine lv_iconst (v := iI 1) hx hb dX6_isLane_9 (by decide +kernel) ?_
      refine lv_goto (tgt := 14) hx hb dX6_isLane_10 (by decide) ?_
      exact W.zret (v := iI 1) (ty := .boolean) hx hb hr (by decide +kernel) (fun t ht hW => ⟨⟨_, (), rfl, congrArg iI (show 1 = (if 0 ≤ x ∧ x < 3 then 1 else 0) from (by omega)), by rw [ht]; exact hP, hD⟩, hS.F ht⟩) hS.2.2 dX6_isLane_14
set_option maxHeartbeats 4000000 in
set_option maxRecDepth 100000 in
theorem c_X6_isAct (l : Launch) (D : va_G) (cI cS : ClassId) (sz : Nat) (x : Int) (hx_ : -2147483648 ≤ x ∧ x < 2147483648) : Met l yX6_isAct wsX6_isAct ({ frames := 0, cells := 0, slots := 0, locals := 0 }) (cP D cI cS ([] : va_W) sz [.int (iI x)]) (va_Qi (fun (r : Int32) (u : Unit) => r = iI (if 0 ≤ x ∧ x < 4 then 1 else 0)) (fun (u : Unit) t => cB D (va_A ([] : va_W) sz) ([] : va_W) t) (va_A ([] : va_W) sz)) 0 0 (va_A ([] : va_W) sz) := by
  refine Met.ofW (cc := cX6_isAct) (maxL := 1) (ret := (some .boolean)) (by decide) rfl ?_
  intro p e s m args below meth c_ s₁ B hml hv
  obtain ⟨rfl, hsz, hP, hK, hD0⟩ := hv
  have hx := B.exec
  have hb := B.bytes
  have hr := B.returns
  have hts := atoms_spec (ws := wsX6_isAct) B.pre
  have hown : s.vm.findClass RX6 = some m.cls := findClass_of_methodNamed B.named
  have hlocks := B.notSynchronized
  subst hsz
  have hD := hD0.self (sz := s.heap.size)
  generalize hAe : va_A ([] : va_W) s.heap.size = A at hD ⊢
  have hA : ∀ q : Nat, s.heap.size ≤ q → A q := fun q h => by rw [← hAe]; exact Or.inr h
  have hS : va_S A s.heap s.heap [] := va_S.rf
  have hP : va_P D vwCl ([] : va_W) s.heap := hP
  have hl := lv_entry ([.int (iI x)] : List Value) (n := 1) (Nat.le_of_ble_eq_true rfl)
  rw [lg_entry_eq]
  generalize (lg_sl ([.int (iI x)] : List Value) ++ List.replicate (1 - (lg_sl ([.int (iI x)] : List Value)).length) Slot.unset).toArray = ls at hl ⊢
  have hl : lv_has ls 1 [(0, .int (iI x))] := hl
  refine lv_iload_n hx hb dX6_isAct_0 rfl (lv_at hl 0 rfl) ?_
  refine n_if_lt (tgt := 13) hx hb dX6_isAct_1 (by decide) (by omega) (fun c_1 => ?_) (fun c_1 => ?_)
  ·
    refine lv_iconst (v := iI 0) hx hb dX6_isAct_13 (by decide +kernel) ?_
    exact W.zret (v := iI 0) (ty := .boolean) hx hb hr (by decide +kernel) (fun t ht hW => ⟨⟨_, (), rfl, congrArg iI (show 0 = (if 0 ≤ x ∧ x < 4 then 1 else 0) from (by omega)), by rw [ht]; exact hP, hD⟩, hS.F ht⟩) hS.2.2 dX6_isAct_14
  ·
    refine lv_iload_n hx hb dX6_isAct_4 rfl (lv_at hl 0 rfl) ?_
    refine lv_iconst (v := iI 4) hx hb dX6_isAct_5 (by decide +kernel) ?_
    refine n_icmp_ge (tgt := 13) hx hb dX6_isAct_6 (by decide) (by omega) (fun c_2 => ?_) (fun c_2 => ?_)
    ·
      refine lv_iconst (v := iI 0) hx hb dX6_isAct_13 (by decide +kernel) ?_
      exact W.zret (v := iI 0) (ty := .boolean) hx hb hr (by decide +kernel) (fun t ht hW => ⟨⟨_, (), rfl, congrArg iI (show 0 = (if 0 ≤ x ∧ x < 4 then 1 else 0) from (by omega)), by rw [ht]; exact hP, hD⟩, hS.F ht⟩) hS.2.2 dX6_isAct_14
    ·
      refine lv_iconst (v := iI 1) hx hb dX6_isAct_9 (by decide +kernel) ?_
      refine lv_goto (tgt := 14) hx hb dX6_isAct_10 (by decide) ?_
      exact W.zret (v := iI 1) (ty := .boolean) hx hb hr (by decide +kernel) (fun t ht hW => ⟨⟨_, (), rfl, congrArg iI (show 1 = (if 0 ≤ x ∧ x < 4 then 1 else 0) from (by omega)), by rw [ht]; exact hP, hD⟩, hS.F ht⟩) hS.2.2 dX6_isAct_14
set_option maxHeartbeats 4000000 in
set_option maxRecDepth 100000 in
theorem c_X6_isOut (l : Launch) (D : va_G) (cI cS : ClassId) (sz : Nat) (x : Int) (hx_ : -2147483648 ≤ x ∧ x < 2147483648) : Met l yX6_isOut wsX6_isOut ({ frames := 0, cells := 0, slots := 0, locals := 0 }) (cP D cI cS ([] : va_W) sz [.int (iI x)]) (va_Qi (fun (r : Int32) (u : Unit) => r = iI (if 0 ≤ x ∧ x ≤ 4 then 1 else 0)) (fun (u : Unit) t => cB D (va_A ([] : va_W) sz) ([] : va_W) t) (va_A ([] : va_W) sz)) 0 0 (va_A ([] : va_W) sz) := by
  refine Met.ofW (cc := cX6_isOut) (maxL := 1) (ret := (some .boolean)) (by decide) rfl ?_
  intro p e s m args below meth c_ s₁ B hml hv
  obtain ⟨rfl, hsz, hP, hK, hD0⟩ := hv
  have hx := B.exec
  have hb := B.bytes
  have hr := B.returns
  have hts := atoms_spec (ws := wsX6_isOut) B.pre
  have hown : s.vm.findClass RX6 = some m.cls := findClass_of_methodNamed B.named
  have hlocks := B.notSynchronized
  subst hsz
  have hD := hD0.self (sz := s.heap.size)
  generalize hAe : va_A ([] : va_W) s.heap.size = A at hD ⊢
  have hA : ∀ q : Nat, s.heap.size ≤ q → A q := fun q h => by rw [← hAe]; exact Or.inr h
  have hS : va_S A s.heap s.heap [] := va_S.rf
  have hP : va_P D vwCl ([] : va_W) s.heap := hP
  have hl := lv_entry ([.int (iI x)] : List Value) (n := 1) (Nat.le_of_ble_eq_true rfl)
  rw [lg_entry_eq]
  generalize (lg_sl ([.int (iI x)] : List Value) ++ List.replicate (1 - (lg_sl ([.int (iI x)] : List Value)).length) Slot.unset).toArray = ls at hl ⊢
  have hl : lv_has ls 1 [(0, .int (iI x))] := hl
  refine lv_iload_n hx hb dX6_isOut_0 rfl (lv_at hl 0 rfl) ?_
  refine n_if_lt (tgt := 13) hx hb dX6_isOut_1 (by decide) (by omega) (fun c_1 => ?_) (fun c_1 => ?_)
  ·
    refine lv_iconst (v := iI 0) hx hb dX6_isOut_13 (by decide +kernel) ?_
    exact W.zret (v := iI 0) (ty := .boolean) hx hb hr (by decide +kernel) (fun t ht hW => ⟨⟨_, (), rfl, congrArg iI (show 0 = (if 0 ≤ x ∧ x ≤ 4 then 1 else 0) from (by omega)), by rw [ht]; exact hP, hD⟩, hS.F ht⟩) hS.2.2 dX6_isOut_14
  ·
    refine lv_iload_n hx hb dX6_isOut_4 rfl (lv_at hl 0 rfl) ?_
    refine lv_iconst (v := iI 4) hx hb dX6_isOut_5 (by decide +kernel) ?_
    refine n_icmp_gt (tgt := 13) hx hb dX6_isOut_6 (by decide) (by omega) (fun c_2 => ?_) (fun c_2 => ?_)
    ·
      refine lv_iconst (v := iI 0) hx hb dX6_isOut_13 (by decide +kernel) ?_
      exact W.zret (v := iI 0) (ty := .boolean) hx hb hr (by decide +kernel) (fun t ht hW => ⟨⟨_, (), rfl, congrArg iI (show 0 = (if 0 ≤ x ∧ x ≤ 4 then 1 else 0) from (by omega)), by rw [ht]; exact hP, hD⟩, hS.F ht⟩) hS.2.2 dX6_isOut_14
    ·
      refine lv_iconst (v := iI 1) hx hb dX6_isOut_9 (by decide +kernel) ?_
      refine lv_goto (tgt := 14) hx hb dX6_isOut_10 (by decide) ?_
      exact W.zret (v := iI 1) (ty := .boolean) hx hb hr (by decide +kernel) (fun t ht hW => ⟨⟨_, (), rfl, congrArg iI (show 1 = (if 0 ≤ x ∧ x ≤ 4 then 1 else 0) from (by omega)), by rw [ht]; exact hP, hD⟩, hS.F ht⟩) hS.2.2 dX6_isOut_14
set_option maxHeartbeats 4000000 in
set_option maxRecDepth 100000 in
theorem c_X6_isSet (l : Launch) (D : va_G) (cI cS : ClassId) (sz : Nat) (x : Int) (hx_ : -2147483648 ≤ x ∧ x < 2147483648) : Met l yX6_isSet wsX6_isSet ({ frames := 0, cells := 0, slots := 0, locals := 0 }) (cP D cI cS ([] : va_W) sz [.int (iI x)]) (va_Qi (fun (r : Int32) (u : Unit) => r = iI (if 0 ≤ x ∧ x < 16 then 1 else 0)) (fun (u : Unit) t => cB D (va_A ([] : va_W) sz) ([] : va_W) t) (va_A ([] : va_W) sz)) 0 0 (va_A ([] : va_W) sz) := by
  refine Met.ofW (cc := cX6_isSet) (maxL := 1) (ret := (some .boolean)) (by decide) rfl ?_
  intro p e s m args below meth c_ s₁ B hml hv
  obtain ⟨rfl, hsz, hP, hK, hD0⟩ := hv
  have hx := B.exec
  have hb := B.bytes
  have hr := B.returns
  have hts := atoms_spec (ws := wsX6_isSet) B.pre
  have hown : s.vm.findClass RX6 = some m.cls := findClass_of_methodNamed B.named
  have hlocks := B.notSynchronized
  subst hsz
  have hD := hD0.self (sz := s.heap.size)
  generalize hAe : va_A ([] : va_W) s.heap.size = A at hD ⊢
  have hA : ∀ q : Nat, s.heap.size ≤ q → A q := fun q h => by rw [← hAe]; exact Or.inr h
  have hS : va_S A s.heap s.heap [] := va_S.rf
  have hP : va_P D vwCl ([] : va_W) s.heap := hP
  have hl := lv_entry ([.int (iI x)] : List Value) (n := 1) (Nat.le_of_ble_eq_true rfl)
  rw [lg_entry_eq]
  generalize (lg_sl ([.int (iI x)] : List Value) ++ List.replicate (1 - (lg_sl ([.int (iI x)] : List Value)).length) Slot.unset).toArray = ls at hl ⊢
  have hl : lv_has ls 1 [(0, .int (iI x))] := hl
  refine lv_iload_n hx hb dX6_isSet_0 rfl (lv_at hl 0 rfl) ?_
  refine n_if_lt (tgt := 14) hx hb dX6_isSet_1 (by decide) (by omega) (fun c_1 => ?_) (fun c_1 => ?_)
  ·
    refine lv_iconst (v := iI 0) hx hb dX6_isSet_14 (by decide +kernel) ?_
    exact W.zret (v := iI 0) (ty := .boolean) hx hb hr (by decide +kernel) (fun t ht hW => ⟨⟨_, (), rfl, congrArg iI (show 0 = (if 0 ≤ x ∧ x < 16 then 1 else 0) from (by omega)), by rw [ht]; exact hP, hD⟩, hS.F ht⟩) hS.2.2 dX6_isSet_15
  ·
    refine lv_iload_n hx hb dX6_isSet_4 rfl (lv_at hl 0 rfl) ?_
    refine lv_bipush (v := iI 16) hx hb dX6_isSet_5 (by decide +kernel) ?_
    refine n_icmp_ge (tgt := 14) hx hb dX6_isSet_7 (by decide) (by omega) (fun c_2 => ?_) (fun c_2 => ?_)
    ·
      refine lv_iconst (v := iI 0) hx hb dX6_isSet_14 (by decide +kernel) ?_
      exact W.zret (v := iI 0) (ty := .boolean) hx hb hr (by decide +kernel) (fun t ht hW => ⟨⟨_, (), rfl, congrArg iI (show 0 = (if 0 ≤ x ∧ x < 16 then 1 else 0) from (by omega)), by rw [ht]; exact hP, hD⟩, hS.F ht⟩) hS.2.2 dX6_isSet_15
    ·
      refine lv_iconst (v := iI 1) hx hb dX6_isSet_10 (by decide +kernel) ?_
      refine lv_goto (tgt := 15) hx hb dX6_isSet_11 (by decide) ?_
      exact W.zret (v := iI 1) (ty := .boolean) hx hb hr (by decide +kernel) (fun t ht hW => ⟨⟨_, (), rfl, congrArg iI (show 1 = (if 0 ≤ x ∧ x < 16 then 1 else 0) from (by omega)), by rw [ht]; exact hP, hD⟩, hS.F ht⟩) hS.2.2 dX6_isSet_15
set_option maxHeartbeats 4000000 in
set_option maxRecDepth 100000 in
theorem c_X6_faulted (l : Launch) (D : va_G) (cI cS : ClassId) (h : Nat → Nat) (q_ : Nat → Nat) (x_ : Nat → Nat) (b : Nat → Nat) (a : Nat → Nat) (d_ : Nat → Nat) (r_ : Nat → Nat) (lf : Int) (tc : Int) (sz : Nat) (x : Int)  : Met l yX6_faulted wsX6_faulted ({ frames := 0, cells := 0, slots := 0, locals := 0 }) (cP D cI cS (W_A cI cS h q_ x_ b a d_ r_ lf tc) sz [.ref (h 0), .int (iI x)]) (va_Qi (fun (r : Int32) (u : Unit) => r = iI ((-10) - x)) (fun (u : Unit) t => cB D (va_A (W_A cI cS h q_ x_ b a d_ r_ lf tc) sz) (W_A cI cS h q_ x_ b a d_ r_ x tc) t) (va_A (W_A cI cS h q_ x_ b a d_ r_ lf tc) sz)) 0 0 (va_A (W_A cI cS h q_ x_ b a d_ r_ lf tc) sz) := by
  refine Met.ofW (cc := cX6_faulted) (maxL := 2) (ret := (some .int)) (by decide) rfl ?_
  intro p e s m args below meth c_ s₁ B hml hv
  obtain ⟨rfl, hsz, hP, hK, hD0⟩ := hv
  have hx := B.exec
  have hb := B.bytes
  have hr := B.returns
  have hts := atoms_spec (ws := wsX6_faulted) B.pre
  have hown : s.vm.findClass RX6 = some m.cls := findClass_of_methodNamed B.named
  have hlocks := B.notSynchronized
  subst hsz
  have hD := hD0.self (sz := s.heap.size)
  generalize hAe : va_A (W_A cI cS h q_ x_ b a d_ r_ lf tc) s.heap.size = A at hD ⊢
  have hA : ∀ q : Nat, s.heap.size ≤ q → A q := fun q h => by rw [← hAe]; exact Or.inr h
  have hS : va_S A s.heap s.heap [] := va_S.rf
  have hP : va_P D vwCl (W_A cI cS h q_ x_ b a d_ r_ lf tc) s.heap := hP
  have hl := lv_entry ([.ref (h 0), .int (iI x)] : List Value) (n := 2) (Nat.le_of_ble_eq_true rfl)
  rw [lg_entry_eq]
  generalize (lg_sl ([.ref (h 0), .int (iI x)] : List Value) ++ List.replicate (2 - (lg_sl ([.ref (h 0), .int (iI x)] : List Value)).length) Slot.unset).toArray = ls at hl ⊢
  have hl : lv_has ls 2 [(0, .ref (h 0)), (1, .int (iI x))] := hl
  have fl_52 := hts (.fieldLink RX6 52 "ActRows" "lastFault" "I") (by decide +kernel)
  have iw_6 : ∀ w ∈ wsX60, w ∈ wsX6_faulted := by decide +kernel
  refine lv_aload_n hx hb dX6_faulted_0 rfl (lv_at hl 0 rfl) ?_
  refine lv_iload_n hx hb dX6_faulted_1 rfl (lv_at hl 1 rfl) ?_
  refine va_put (D := D) (ci := 6) (v := .int (iI x)) (ty := .int) (C := RX6) (T := TX6) (N := 8) hx hb hts iw_6 tyX6 tyX6_ok nmX6 hown hK.1 hP hD hS 0 rfl rfl 6 (by decide) fl_52 (fun _ h9 => h9) rfl (by decide +kernel) rfl rfl (Nat.le_of_ble_eq_true rfl) dX6_faulted_2 (fun H locs hP hD hS => ?_)
  have hP : va_P D vwCl (W_A cI cS h q_ x_ b a d_ r_ x tc) H := hP
  have hD : va_D A (W_A cI cS h q_ x_ b a d_ r_ x tc) := hD
  refine lv_bipush (v := iI (-10)) hx hb dX6_faulted_5 (by decide +kernel) ?_
  refine lv_iload_n hx hb dX6_faulted_7 rfl (lv_at hl 1 rfl) ?_
  refine n_isub hx hb dX6_faulted_8 ?_
  exact W.iret (v := iI ((-10) - x)) hx hb hr (fun t ht hW => ⟨⟨_, (), rfl, rfl, by rw [ht]; exact hP, hD⟩, hS.F ht⟩) hS.2.2 dX6_faulted_9
set_option maxHeartbeats 4000000 in
set_option maxRecDepth 100000 in
theorem c_X6_leaveInTrace (l : Launch) (D : va_G) (cI cS : ClassId) (h : Nat → Nat) (q_ : Nat → Nat) (x_ : Nat → Nat) (b : Nat → Nat) (a : Nat → Nat) (d_ : Nat → Nat) (r_ : Nat → Nat) (lf : Int) (tc : Int) (sz : Nat) (x : Int)  : Met l yX6_leaveInTrace wsX6_leaveInTrace ({ frames := 0, cells := 0, slots := 0, locals := 0 }) (cP D cI cS (W_A cI cS h q_ x_ b a d_ r_ lf tc) sz [.ref (h 0), .int (iI x)]) (va_Qv (fun (u : Unit) => True) (fun (u : Unit) t => cB D (va_A (W_A cI cS h q_ x_ b a d_ r_ lf tc) sz) (W_A cI cS h q_ x_ b a d_ r_ lf ((31 * tc) + x)) t) (va_A (W_A cI cS h q_ x_ b a d_ r_ lf tc) sz)) 0 0 (va_A (W_A cI cS h q_ x_ b a d_ r_ lf tc) sz) := by
  refine Met.ofW (cc := cX6_leaveInTrace) (maxL := 2) (ret := none) (by decide) rfl ?_
  intro p e s m args below meth c_ s₁ B hml hv
  obtain ⟨rfl, hsz, hP, hK, hD0⟩ := hv
  have hx := B.exec
  have hb := B.bytes
  have hr := B.returns
  have hts := atoms_spec (ws := wsX6_leaveInTrace) B.pre
  have hown : s.vm.findClass RX6 = some m.cls := findClass_of_methodNamed B.named
  have hlocks := B.notSynchronized
  subst hsz
  have hD := hD0.self (sz := s.heap.size)
  generalize hAe : va_A (W_A cI cS h q_ x_ b a d_ r_ lf tc) s.heap.size = A at hD ⊢
  have hA : ∀ q : Nat, s.heap.size ≤ q → A q := fun q h => by rw [← hAe]; exact Or.inr h
  have hS : va_S A s.heap s.heap [] := va_S.rf
  have hP : va_P D vwCl (W_A cI cS h q_ x_ b a d_ r_ lf tc) s.heap := hP
  have hl := lv_entry ([.ref (h 0), .int (iI x)] : List Value) (n := 2) (Nat.le_of_ble_eq_true rfl)
  rw [lg_entry_eq]
  generalize (lg_sl ([.ref (h 0), .int (iI x)] : List Value) ++ List.replicate (2 - (lg_sl ([.ref (h 0), .int (iI x)] : List Value)).length) Slot.unset).toArray = ls at hl ⊢
  have hl : lv_has ls 2 [(0, .ref (h 0)), (1, .int (iI x))] := hl
  have fl_56 := hts (.fieldLink RX6 56 "ActRows" "traced" "I") (by decide +kernel)
  have iw_6 : ∀ w ∈ wsX60, w ∈ wsX6_leaveInTrace := by decide +kernel
  refine lv_aload_n hx hb dX6_leaveInTrace_0 rfl (lv_at hl 0 rfl) ?_
  refine lv_bipush (v := iI 31) hx hb dX6_leaveInTrace_1 (by decide +kernel) ?_
  refine lv_aload_n hx hb dX6_leaveInTrace_3 rfl (lv_at hl 0 rfl) ?_
  refine va_get (D := D) (ci := 6) (v := .int (iI tc)) (C := RX6) (T := TX6) (N := 8) hx hb hts iw_6 hown hK.1 hP 0 rfl rfl 7 (by decide) fl_56 (fun _ h9 => h9) rfl dX6_leaveInTrace_4 ?_
  refine n_imul hx hb dX6_leaveInTrace_7 ?_
  refine lv_iload_n hx hb dX6_leaveInTrace_8 rfl (lv_at hl 1 rfl) ?_
  refine n_iadd hx hb dX6_leaveInTrace_9 ?_
  refine va_put (D := D) (ci := 6) (v := .int (iI ((31 * tc) + x))) (ty := .int) (C := RX6) (T := TX6) (N := 8) hx hb hts iw_6 tyX6 tyX6_ok nmX6 hown hK.1 hP hD hS 0 rfl rfl 7 (by decide) fl_56 (fun _ h9 => h9) rfl (by decide +kernel) rfl rfl (Nat.le_of_ble_eq_true rfl) dX6_leaveInTrace_10 (fun H locs hP hD hS => ?_)
  have hP : va_P D vwCl (W_A cI cS h q_ x_ b a d_ r_ lf ((31 * tc) + x)) H := hP
  have hD : va_D A (W_A cI cS h q_ x_ b a d_ r_ lf ((31 * tc) + x)) := hD
  exact W.vret hx hb hr (fun t ht hW => ⟨⟨(), rfl, trivial, by rw [ht]; exact hP, hD⟩, hS.F ht⟩) hS.2.2 dX6_leaveInTrace_13
set_option maxHeartbeats 4000000 in
set_option maxRecDepth 100000 in
theorem c_X6_tellPlain (l : Launch) (D : va_G) (cI cS : ClassId) (h : Nat → Nat) (q_ : Nat → Nat) (x_ : Nat → Nat) (b : Nat → Nat) (a : Nat → Nat) (d_ : Nat → Nat) (r_ : Nat → Nat) (lf : Int) (tc : Int) (cnt : Int) (lv : Int) (kd : Int → Int) (gd : Int → Int) (ln : Int → Int) (st : Int → Int) (sz : Nat) (f : Int) (hf : 0 ≤ f ∧ f < 5) : Met l yX6_tellPlain wsX6_tellPlain ({ frames := 1, cells := 0, slots := 0, locals := 21 }) (cP D cI cS (W_A_P cI cS h q_ x_ b a d_ r_ lf tc a cnt lv kd gd ln st) sz [.ref (h 0), .int (iI f)]) (va_Qi (fun (r : Int32) (u : Unit) => r = iI (ln f)) (fun (u : Unit) t => cB D (va_A (W_A_P cI cS h q_ x_ b a d_ r_ lf tc a cnt lv kd gd ln st) sz) (W_A_P cI cS h q_ x_ b a d_ r_ lf ((31 * tc) + 1) a cnt lv kd gd ln st) t) (va_A (W_A_P cI cS h q_ x_ b a d_ r_ lf tc a cnt lv kd gd ln st) sz)) 0 0 (va_A (W_A_P cI cS h q_ x_ b a d_ r_ lf tc a cnt lv kd gd ln st) sz) := by
  refine Met.ofW (cc := cX6_tellPlain) (maxL := 2) (ret := (some .int)) (by decide) rfl ?_
  intro p e s m args below meth c_ s₁ B hml hv
  obtain ⟨rfl, hsz, hP, hK, hD0⟩ := hv
  have hx := B.exec
  have hb := B.bytes
  have hr := B.returns
  have hts := atoms_spec (ws := wsX6_tellPlain) B.pre
  have hown : s.vm.findClass RX6 = some m.cls := findClass_of_methodNamed B.named
  have hlocks := B.notSynchronized
  subst hsz
  have hD := hD0.self (sz := s.heap.size)
  generalize hAe : va_A (W_A_P cI cS h q_ x_ b a d_ r_ lf tc a cnt lv kd gd ln st) s.heap.size = A at hD ⊢
  have hA : ∀ q : Nat, s.heap.size ≤ q → A q := fun q h => by rw [← hAe]; exact Or.inr h
  have hS : va_S A s.heap s.heap [] := va_S.rf
  have hP : va_P D vwCl (W_A_P cI cS h q_ x_ b a d_ r_ lf tc a cnt lv kd gd ln st) s.heap := hP
  have hl := lv_entry ([.ref (h 0), .int (iI f)] : List Value) (n := 2) (Nat.le_of_ble_eq_true rfl)
  rw [lg_entry_eq]
  generalize (lg_sl ([.ref (h 0), .int (iI f)] : List Value) ++ List.replicate (2 - (lg_sl ([.ref (h 0), .int (iI f)] : List Value)).length) Slot.unset).toArray = ls at hl ⊢
  have hl : lv_has ls 2 [(0, .ref (h 0)), (1, .int (iI f))] := hl
  have fl_35 := hts (.fieldLink RX6 35 "ActRows" "told" "LActRows$Program;") (by decide +kernel)
  have iw_6 : ∀ w ∈ wsX60, w ∈ wsX6_tellPlain := by decide +kernel
  have fn_106 := va_Nw.use (A := ([.ref (h 0), .int (iI f)] : List Value).toArray) rfl (hK.2 ("ActRows", 106, "ActRows$Program", "lengths", "[I") (List.mem_of_getElem? (i := 1) rfl))
  have iw_1 : ∀ w ∈ wsX10, w ∈ wsX6_tellPlain := by decide +kernel
  refine lv_aload_n hx hb dX6_tellPlain_0 rfl (lv_at hl 0 rfl) ?_
  refine lv_iconst (v := iI 1) hx hb dX6_tellPlain_1 (by decide +kernel) ?_
  refine x_callVv (As := [.int (iI 1)]) (rest := []) ⟨hx, hb, hml, hown, hts⟩ (c_X6_leaveInTrace l D cI cS h q_ x_ b a d_ r_ lf tc s.heap.size 1) (cwV 1 hts gX6_tellPlain_X6_leaveInTrace rfl rfl rfl (by decide +kernel) ⟨Nat.le_of_ble_eq_true rfl, Nat.le_of_ble_eq_true rfl⟩) hK hP hD hS hA [0] [1, 2, 3, 4, 5] (wr := [(a 0, .inr (1, [.ref (a 1), .ref (a 2), .ref (a 3), .ref (a 4), .int (iI cnt), .int (iI lv)])), (a 1, .inl (cI, 5, .inl (aI kd))), (a 2, .inl (cI, 5, .inl (aI gd))), (a 3, .inl (cI, 5, .inl (aI ln))), (a 4, .inl (cI, 20, .inl (aI st)))]) rfl rfl (by decide) (by decide) (by decide) 0 6 rfl rfl rfl [5, 0, 1, 2, 3, 4] (fun (u : Unit) => (W_A_P cI cS h q_ x_ b a d_ r_ lf ((31 * tc) + 1) a cnt lv kd gd ln st)) (fun _ => rfl) (by decide) rfl hl.1 rfl (Nat.le_of_ble_eq_true rfl) ⟨Nat.zero_le _, Nat.zero_le _⟩ dX6_tellPlain_2 (fun u_ H locs hw hP hD hS => ?_)
  try dsimp only at hw
  have hP : va_P D vwCl (W_A_P cI cS h q_ x_ b a d_ r_ lf ((31 * tc) + 1) a cnt lv kd gd ln st) H := hP
  have hD : va_D A (W_A_P cI cS h q_ x_ b a d_ r_ lf ((31 * tc) + 1) a cnt lv kd gd ln st) := hD
  refine lv_aload_n hx hb dX6_tellPlain_5 rfl (lv_at hl 0 rfl) ?_
  refine va_get (D := D) (ci := 6) (v := .ref (a 0)) (C := RX6) (T := TX6) (N := 8) hx hb hts iw_6 hown hK.1 hP 0 rfl rfl 3 (by decide) fl_35 (fun _ h9 => h9) rfl dX6_tellPlain_6 ?_
  refine va_getN (D := D) (ci := 1) (v := .ref (a 3)) (C := RX1) (T := TX1) (N := 6) hx hb hts iw_1 hown hK.1 hP 1 rfl rfl 2 (by decide) fn_106 (fun _ h9 => h9) rfl dX6_tellPlain_9 ?_
  refine lv_iload_n hx hb dX6_tellPlain_12 rfl (lv_at hl 1 rfl) ?_
  refine n_iald (n := 5) hx hb hK.1 hP 4 0 rfl rfl (by omega) (by decide) dX6_tellPlain_13 ?_
  exact W.iret (v := iI (ln f)) hx hb hr (fun t ht hW => ⟨⟨_, (), rfl, rfl, by rw [ht]; exact hP, hD⟩, hS.F ht⟩) hS.2.2 dX6_tellPlain_14
set_option maxHeartbeats 4000000 in
set_option maxRecDepth 100000 in
theorem c_X6_tellLeaving (l : Launch) (D : va_G) (cI cS : ClassId) (h : Nat → Nat) (q_ : Nat → Nat) (x_ : Nat → Nat) (b : Nat → Nat) (a : Nat → Nat) (d_ : Nat → Nat) (r_ : Nat → Nat) (lf : Int) (tc : Int) (cnt : Int) (lv : Int) (kd : Int → Int) (gd : Int → Int) (ln : Int → Int) (st : Int → Int) (sz : Nat) (f : Int) (hf : 0 ≤ f ∧ f < 5) : Met l yX6_tellLeaving wsX6_tellLeaving ({ frames := 2, cells := 0, slots := 0, locals := 42 }) (cP D cI cS (W_A_P cI cS h q_ x_ b a d_ r_ lf tc a cnt lv kd gd ln st) sz [.ref (h 0), .int (iI f)]) (va_Qi (fun (r : Int32) (u : Unit) => r = iI ((ln f) + 100)) (fun (u : Unit) t => cB D (va_A (W_A_P cI cS h q_ x_ b a d_ r_ lf tc a cnt lv kd gd ln st) sz) (W_A_P cI cS h q_ x_ b a d_ r_ lf ((31 * ((31 * tc) + 2)) + 1) a cnt lv kd gd ln st) t) (va_A (W_A_P cI cS h q_ x_ b a d_ r_ lf tc a cnt lv kd gd ln st) sz)) 0 0 (va_A (W_A_P cI cS h q_ x_ b a d_ r_ lf tc a cnt lv kd gd ln st) sz) := by
  refine Met.ofW (cc := cX6_tellLeaving) (maxL := 2) (ret := (some .int)) (by decide) rfl ?_
  intro p e s m args below meth c_ s₁ B hml hv
  obtain ⟨rfl, hsz, hP, hK, hD0⟩ := hv
  have hx := B.exec
  have hb := B.bytes
  have hr := B.returns
  have hts := atoms_spec (ws := wsX6_tellLeaving) B.pre
  have hown : s.vm.findClass RX6 = some m.cls := findClass_of_methodNamed B.named
  have hlocks := B.notSynchronized
  subst hsz
  have hD := hD0.self (sz := s.heap.size)
  generalize hAe : va_A (W_A_P cI cS h q_ x_ b a d_ r_ lf tc a cnt lv kd gd ln st) s.heap.size = A at hD ⊢
  have hA : ∀ q : Nat, s.heap.size ≤ q → A q := fun q h => by rw [← hAe]; exact Or.inr h
  have hS : va_S A s.heap s.heap [] := va_S.rf
  have hP : va_P D vwCl (W_A_P cI cS h q_ x_ b a d_ r_ lf tc a cnt lv kd gd ln st) s.heap := hP
  have hl := lv_entry ([.ref (h 0), .int (iI f)] : List Value) (n := 2) (Nat.le_of_ble_eq_true rfl)
  rw [lg_entry_eq]
  generalize (lg_sl ([.ref (h 0), .int (iI f)] : List Value) ++ List.replicate (2 - (lg_sl ([.ref (h 0), .int (iI f)] : List Value)).length) Slot.unset).toArray = ls at hl ⊢
  have hl : lv_has ls 2 [(0, .ref (h 0)), (1, .int (iI f))] := hl
  refine lv_aload_n hx hb dX6_tellLeaving_0 rfl (lv_at hl 0 rfl) ?_
  refine lv_iconst (v := iI 2) hx hb dX6_tellLeaving_1 (by decide +kernel) ?_
  refine x_callVv (As := [.int (iI 2)]) (rest := []) ⟨hx, hb, hml, hown, hts⟩ (c_X6_leaveInTrace l D cI cS h q_ x_ b a d_ r_ lf tc s.heap.size 2) (cwV 1 hts gX6_tellLeaving_X6_leaveInTrace rfl rfl rfl (by decide +kernel) ⟨Nat.le_of_ble_eq_true rfl, Nat.le_of_ble_eq_true rfl⟩) hK hP hD hS hA [0] [1, 2, 3, 4, 5] (wr := [(a 0, .inr (1, [.ref (a 1), .ref (a 2), .ref (a 3), .ref (a 4), .int (iI cnt), .int (iI lv)])), (a 1, .inl (cI, 5, .inl (aI kd))), (a 2, .inl (cI, 5, .inl (aI gd))), (a 3, .inl (cI, 5, .inl (aI ln))), (a 4, .inl (cI, 20, .inl (aI st)))]) rfl rfl (by decide) (by decide) (by decide) 0 6 rfl rfl rfl [5, 0, 1, 2, 3, 4] (fun (u : Unit) => (W_A_P cI cS h q_ x_ b a d_ r_ lf ((31 * tc) + 2) a cnt lv kd gd ln st)) (fun _ => rfl) (by decide) rfl hl.1 rfl (Nat.le_of_ble_eq_true rfl) ⟨Nat.zero_le _, Nat.zero_le _⟩ dX6_tellLeaving_2 (fun u_ H locs hw hP hD hS => ?_)
  try dsimp only at hw
  have hP : va_P D vwCl (W_A_P cI cS h q_ x_ b a d_ r_ lf ((31 * tc) + 2) a cnt lv kd gd ln st) H := hP
  have hD : va_D A (W_A_P cI cS h q_ x_ b a d_ r_ lf ((31 * tc) + 2) a cnt lv kd gd ln st) := hD
  refine lv_aload_n hx hb dX6_tellLeaving_5 rfl (lv_at hl 0 rfl) ?_
  refine lv_iload_n hx hb dX6_tellLeaving_6 rfl (lv_at hl 1 rfl) ?_
  refine x_callVi (As := [.int (iI f)]) (rest := []) ⟨hx, hb, hml, hown, hts⟩ (c_X6_tellPlain l D cI cS h q_ x_ b a d_ r_ lf ((31 * tc) + 2) cnt lv kd gd ln st H.size f (by first | assumption | omega)) (cwV 1 hts gX6_tellLeaving_X6_tellPlain rfl rfl rfl (by decide +kernel) ⟨Nat.le_of_ble_eq_true rfl, Nat.le_of_ble_eq_true rfl⟩) hK hP hD hS hA [0, 1, 2, 3, 4, 5] [] (wr := ([] : va_W)) rfl rfl (by decide) (by decide) (by decide) 0 6 rfl rfl rfl [0, 1, 2, 3, 4, 5] (fun (u : Unit) => (W_A_P cI cS h q_ x_ b a d_ r_ lf ((31 * ((31 * tc) + 2)) + 1) a cnt lv kd gd ln st)) (fun _ => rfl) (by decide) rfl hl.1 rfl (Nat.le_of_ble_eq_true rfl) ⟨Nat.zero_le _, Nat.zero_le _⟩ dX6_tellLeaving_7 (fun r_ u_ H locs hw hP hD hS => ?_)
  try dsimp only at hw
  subst hw
  have hP : va_P D vwCl (W_A_P cI cS h q_ x_ b a d_ r_ lf ((31 * ((31 * tc) + 2)) + 1) a cnt lv kd gd ln st) H := hP
  have hD : va_D A (W_A_P cI cS h q_ x_ b a d_ r_ lf ((31 * ((31 * tc) + 2)) + 1) a cnt lv kd gd ln st) := hD
  refine lv_bipush (v := iI 100) hx hb dX6_tellLeaving_10 (by decide +kernel) ?_
  refine n_iadd hx hb dX6_tellLeaving_12 ?_
  exact W.iret (v := iI ((ln f) + 100)) hx hb hr (fun t ht hW => ⟨⟨_, (), rfl, rfl, by rw [ht]; exact hP, hD⟩, hS.F ht⟩) hS.2.2 dX6_tellLeaving_13
set_option maxHeartbeats 4000000 in
set_option maxRecDepth 100000 in
theorem c_X6_tellKeeping (l : Launch) (D : va_G) (cI cS : ClassId) (h : Nat → Nat) (q_ : Nat → Nat) (x_ : Nat → Nat) (b : Nat → Nat) (a : Nat → Nat) (d_ : Nat → Nat) (r_ : Nat → Nat) (lf : Int) (tc : Int) (cnt : Int) (lv : Int) (kd : Int → Int) (gd : Int → Int) (ln : Int → Int) (st : Int → Int) (sz : Nat) (f : Int) (hf : 0 ≤ f ∧ f < 5) : Met l yX6_tellKeeping wsX6_tellKeeping ({ frames := 3, cells := 0, slots := 0, locals := 63 }) (cP D cI cS (W_A_P cI cS h q_ x_ b a d_ r_ lf tc a cnt lv kd gd ln st) sz [.ref (h 0), .int (iI f)]) (va_Qi (fun (r : Int32) (u : Unit) => r = iI (((ln f) + 100) + (ln f))) (fun (u : Unit) t => cB D (va_A (W_A_P cI cS h q_ x_ b a d_ r_ lf tc a cnt lv kd gd ln st) sz) (W_A_P cI cS h q_ x_ b a d_ r_ lf ((31 * ((31 * ((31 * ((31 * tc) + 3)) + 2)) + 1)) + 1) a cnt lv kd gd ln st) t) (va_A (W_A_P cI cS h q_ x_ b a d_ r_ lf tc a cnt lv kd gd ln st) sz)) 0 0 (va_A (W_A_P cI cS h q_ x_ b a d_ r_ lf tc a cnt lv kd gd ln st) sz) := by
  refine Met.ofW (cc := cX6_tellKeeping) (maxL := 3) (ret := (some .int)) (by decide) rfl ?_
  intro p e s m args below meth c_ s₁ B hml hv
  obtain ⟨rfl, hsz, hP, hK, hD0⟩ := hv
  have hx := B.exec
  have hb := B.bytes
  have hr := B.returns
  have hts := atoms_spec (ws := wsX6_tellKeeping) B.pre
  have hown : s.vm.findClass RX6 = some m.cls := findClass_of_methodNamed B.named
  have hlocks := B.notSynchronized
  subst hsz
  have hD := hD0.self (sz := s.heap.size)
  generalize hAe : va_A (W_A_P cI cS h q_ x_ b a d_ r_ lf tc a cnt lv kd gd ln st) s.heap.size = A at hD ⊢
  have hA : ∀ q : Nat, s.heap.size ≤ q → A q := fun q h => by rw [← hAe]; exact Or.inr h
  have hS : va_S A s.heap s.heap [] := va_S.rf
  have hP : va_P D vwCl (W_A_P cI cS h q_ x_ b a d_ r_ lf tc a cnt lv kd gd ln st) s.heap := hP
  have hl := lv_entry ([.ref (h 0), .int (iI f)] : List Value) (n := 3) (Nat.le_of_ble_eq_true rfl)
  rw [lg_entry_eq]
  generalize (lg_sl ([.ref (h 0), .int (iI f)] : List Value) ++ List.replicate (3 - (lg_sl ([.ref (h 0), .int (iI f)] : List Value)).length) Slot.unset).toArray = ls at hl ⊢
  have hl : lv_has ls 3 [(0, .ref (h 0)), (1, .int (iI f))] := hl
  refine lv_aload_n hx hb dX6_tellKeeping_0 rfl (lv_at hl 0 rfl) ?_
  refine lv_iconst (v := iI 3) hx hb dX6_tellKeeping_1 (by decide +kernel) ?_
  refine x_callVv (As := [.int (iI 3)]) (rest := []) ⟨hx, hb, hml, hown, hts⟩ (c_X6_leaveInTrace l D cI cS h q_ x_ b a d_ r_ lf tc s.heap.size 3) (cwV 1 hts gX6_tellKeeping_X6_leaveInTrace rfl rfl rfl (by decide +kernel) ⟨Nat.le_of_ble_eq_true rfl, Nat.le_of_ble_eq_true rfl⟩) hK hP hD hS hA [0] [1, 2, 3, 4, 5] (wr := [(a 0, .inr (1, [.ref (a 1), .ref (a 2), .ref (a 3), .ref (a 4), .int (iI cnt), .int (iI lv)])), (a 1, .inl (cI, 5, .inl (aI kd))), (a 2, .inl (cI, 5, .inl (aI gd))), (a 3, .inl (cI, 5, .inl (aI ln))), (a 4, .inl (cI, 20, .inl (aI st)))]) rfl rfl (by decide) (by decide) (by decide) 0 6 rfl rfl rfl [5, 0, 1, 2, 3, 4] (fun (u : Unit) => (W_A_P cI cS h q_ x_ b a d_ r_ lf ((31 * tc) + 3) a cnt lv kd gd ln st)) (fun _ => rfl) (by decide) rfl hl.1 rfl (Nat.le_of_ble_eq_true rfl) ⟨Nat.zero_le _, Nat.zero_le _⟩ dX6_tellKeeping_2 (fun u_ H locs hw hP hD hS => ?_)
  try dsimp only at hw
  have hP : va_P D vwCl (W_A_P cI cS h q_ x_ b a d_ r_ lf ((31 * tc) + 3) a cnt lv kd gd ln st) H := hP
  have hD : va_D A (W_A_P cI cS h q_ x_ b a d_ r_ lf ((31 * tc) + 3) a cnt lv kd gd ln st) := hD
  refine lv_aload_n hx hb dX6_tellKeeping_5 rfl (lv_at hl 0 rfl) ?_
  refine lv_iload_n hx hb dX6_tellKeeping_6 rfl (lv_at hl 1 rfl) ?_
  refine x_callVi (As := [.int (iI f)]) (rest := []) ⟨hx, hb, hml, hown, hts⟩ (c_X6_tellLeaving l D cI cS h q_ x_ b a d_ r_ lf ((31 * tc) + 3) cnt lv kd gd ln st H.size f (by first | assumption | omega)) (cwV 1 hts gX6_tellKeeping_X6_tellLeaving rfl rfl rfl (by decide +kernel) ⟨Nat.le_of_ble_eq_true rfl, Nat.le_of_ble_eq_true rfl⟩) hK hP hD hS hA [0, 1, 2, 3, 4, 5] [] (wr := ([] : va_W)) rfl rfl (by decide) (by decide) (by decide) 0 6 rfl rfl rfl [0, 1, 2, 3, 4, 5] (fun (u : Unit) => (W_A_P cI cS h q_ x_ b a d_ r_ lf ((31 * ((31 * ((31 * tc) + 3)) + 2)) + 1) a cnt lv kd gd ln st)) (fun _ => rfl) (by decide) rfl hl.1 rfl (Nat.le_of_ble_eq_true rfl) ⟨Nat.zero_le _, Nat.zero_le _⟩ dX6_tellKeeping_7 (fun r_ u_ H locs hw hP hD hS => ?_)
  try dsimp only at hw
  subst hw
  have hP : va_P D vwCl (W_A_P cI cS h q_ x_ b a d_ r_ lf ((31 * ((31 * ((31 * tc) + 3)) + 2)) + 1) a cnt lv kd gd ln st) H := hP
  have hD : va_D A (W_A_P cI cS h q_ x_ b a d_ r_ lf ((31 * ((31 * ((31 * tc) + 3)) + 2)) + 1) a cnt lv kd gd ln st) := hD
  refine lv_istore_n (lv' := [(2, .int (iI ((ln f) + 100))), (0, .ref (h 0)), (1, .int (iI f))]) hx hb dX6_tellKeeping_10 rfl hl (by decide) rfl (fun ls hl => ?_)
  refine lv_iload_n hx hb dX6_tellKeeping_11 rfl (lv_at hl 0 rfl) ?_
  refine lv_aload_n hx hb dX6_tellKeeping_12 rfl (lv_at hl 1 rfl) ?_
  refine lv_iload_n hx hb dX6_tellKeeping_13 rfl (lv_at hl 2 rfl) ?_
  refine x_callVi (As := [.int (iI f)]) (rest := [.int (iI ((ln f) + 100))]) ⟨hx, hb, hml, hown, hts⟩ (c_X6_tellPlain l D cI cS h q_ x_ b a d_ r_ lf ((31 * ((31 * ((31 * tc) + 3)) + 2)) + 1) cnt lv kd gd ln st H.size f (by first | assumption | omega)) (cwV 1 hts gX6_tellKeeping_X6_tellPlain rfl rfl rfl (by decide +kernel) ⟨Nat.le_of_ble_eq_true rfl, Nat.le_of_ble_eq_true rfl⟩) hK hP hD hS hA [0, 1, 2, 3, 4, 5] [] (wr := ([] : va_W)) rfl rfl (by decide) (by decide) (by decide) 0 6 rfl rfl rfl [0, 1, 2, 3, 4, 5] (fun (u : Unit) => (W_A_P cI cS h q_ x_ b a d_ r_ lf ((31 * ((31 * ((31 * ((31 * tc) + 3)) + 2)) + 1)) + 1) a cnt lv kd gd ln st)) (fun _ => rfl) (by decide) rfl hl.1 rfl (Nat.le_of_ble_eq_true rfl) ⟨Nat.zero_le _, Nat.zero_le _⟩ dX6_tellKeeping_14 (fun r_ u_ H locs hw hP hD hS => ?_)
  try dsimp only at hw
  subst hw
  have hP : va_P D vwCl (W_A_P cI cS h q_ x_ b a d_ r_ lf ((31 * ((31 * ((31 * ((31 * tc) + 3)) + 2)) + 1)) + 1) a cnt lv kd gd ln st) H := hP
  have hD : va_D A (W_A_P cI cS h q_ x_ b a d_ r_ lf ((31 * ((31 * ((31 * ((31 * tc) + 3)) + 2)) + 1)) + 1) a cnt lv kd gd ln st) := hD
  refine n_iadd hx hb dX6_tellKeeping_17 ?_
  exact W.iret (v := iI (((ln f) + 100) + (ln f))) hx hb hr (fun t ht hW => ⟨⟨_, (), rfl, rfl, by rw [ht]; exact hP, hD⟩, hS.F ht⟩) hS.2.2 dX6_tellKeeping_18
set_option maxHeartbeats 4000000 in
set_option maxRecDepth 100000 in
theorem c_X6_tell (l : Launch) (D : va_G) (cI cS : ClassId) (h : Nat → Nat) (q_ : Nat → Nat) (x_ : Nat → Nat) (b : Nat → Nat) (a : Nat → Nat) (d_ : Nat → Nat) (r_ : Nat → Nat) (lf : Int) (tc : Int) (cnt : Int) (lv : Int) (kd : Int → Int) (gd : Int → Int) (ln : Int → Int) (st : Int → Int) (sz : Nat) (f : Int) (hok : okP cnt ln st) (hkd : okK cnt kd gd lv) (hfr : -2147483648 ≤ f ∧ f < 2147483648) : Met l yX6_tell wsX6_tell ({ frames := 4, cells := 0, slots := 0, locals := 85 }) (cP D cI cS (W_A_P cI cS h q_ x_ b a d_ r_ lf tc a cnt lv kd gd ln st) sz [.ref (h 0), .int (iI f)]) (va_Qi (fun (r : Int32) (u : Unit) => r = iI (if 0 ≤ f ∧ f < cnt then (if kd f = 1 then ln f + 100 else if kd f = 2 then ln f + 100 + ln f else ln f) else (-1))) (fun (u : Unit) t => cB D (va_A (W_A_P cI cS h q_ x_ b a d_ r_ lf tc a cnt lv kd gd ln st) sz) (W_A_P cI cS h q_ x_ b a d_ r_ lf (if 0 ≤ f ∧ f < cnt then (if kd f = 1 then (31 * ((31 * tc) + 2)) + 1 else if kd f = 2 then (31 * ((31 * ((31 * ((31 * tc) + 3)) + 2)) + 1)) + 1 else (31 * tc) + 1) else tc) a cnt lv kd gd ln st) t) (va_A (W_A_P cI cS h q_ x_ b a d_ r_ lf tc a cnt lv kd gd ln st) sz)) 0 0 (va_A (W_A_P cI cS h q_ x_ b a d_ r_ lf tc a cnt lv kd gd ln st) sz) := by
  refine Met.ofW (cc := cX6_tell) (maxL := 2) (ret := (some .int)) (by decide) rfl ?_
  intro p e s m args below meth c_ s₁ B hml hv
  obtain ⟨rfl, hsz, hP, hK, hD0⟩ := hv
  have hx := B.exec
  have hb := B.bytes
  have hr := B.returns
  have hts := atoms_spec (ws := wsX6_tell) B.pre
  have hown : s.vm.findClass RX6 = some m.cls := findClass_of_methodNamed B.named
  have hlocks := B.notSynchronized
  subst hsz
  have hD := hD0.self (sz := s.heap.size)
  generalize hAe : va_A (W_A_P cI cS h q_ x_ b a d_ r_ lf tc a cnt lv kd gd ln st) s.heap.size = A at hD ⊢
  have hA : ∀ q : Nat, s.heap.size ≤ q → A q := fun q h => by rw [← hAe]; exact Or.inr h
  have hS : va_S A s.heap s.heap [] := va_S.rf
  have hP : va_P D vwCl (W_A_P cI cS h q_ x_ b a d_ r_ lf tc a cnt lv kd gd ln st) s.heap := hP
  have hl := lv_entry ([.ref (h 0), .int (iI f)] : List Value) (n := 2) (Nat.le_of_ble_eq_true rfl)
  rw [lg_entry_eq]
  generalize (lg_sl ([.ref (h 0), .int (iI f)] : List Value) ++ List.replicate (2 - (lg_sl ([.ref (h 0), .int (iI f)] : List Value)).length) Slot.unset).toArray = ls at hl ⊢
  have hl : lv_has ls 2 [(0, .ref (h 0)), (1, .int (iI f))] := hl
  have fl_35 := hts (.fieldLink RX6 35 "ActRows" "told" "LActRows$Program;") (by decide +kernel)
  have iw_6 : ∀ w ∈ wsX60, w ∈ wsX6_tell := by decide +kernel
  have fn_99 := va_Nw.use (A := ([.ref (h 0), .int (iI f)] : List Value).toArray) rfl (hK.2 ("ActRows", 99, "ActRows$Program", "kinds", "[I") (List.mem_of_getElem? (i := 15) rfl))
  have iw_1 : ∀ w ∈ wsX10, w ∈ wsX6_tell := by decide +kernel
  have hc := hok.1
  have hln := hok.2.1
  refine lv_aload_n hx hb dX6_tell_0 rfl (lv_at hl 0 rfl) ?_
  refine va_get (D := D) (ci := 6) (v := .ref (a 0)) (C := RX6) (T := TX6) (N := 8) hx hb hts iw_6 hown hK.1 hP 0 rfl rfl 3 (by decide) fl_35 (fun _ h9 => h9) rfl dX6_tell_1 ?_
  refine lv_iload_n hx hb dX6_tell_4 rfl (lv_at hl 1 rfl) ?_
  refine x_callVi (As := [.int (iI f)]) (rest := []) ⟨hx, hb, hml, hown, hts⟩ (c_X1_has l D cI cS a cnt lv kd gd ln st s.heap.size f (by first | assumption | omega) (by first | assumption | omega)) (cwV 1 hts gX6_tell_X1_has rfl rfl rfl (by decide +kernel) ⟨Nat.le_of_ble_eq_true rfl, Nat.le_of_ble_eq_true rfl⟩) hK hP hD hS hA [1, 2, 3, 4, 5] [0] (wr := [(h 0, .inr (6, [.ref (q_ 0), .ref (x_ 0), .ref (b 0), .ref (a 0), .ref (d_ 0), .ref (r_ 0), .int (iI lf), .int (iI tc)]))]) rfl rfl (by decide) (by decide) (by decide) 0 1 rfl rfl rfl [0, 1, 2, 3, 4, 5] (fun (u : Unit) => (W_A_P cI cS h q_ x_ b a d_ r_ lf tc a cnt lv kd gd ln st)) (fun _ => rfl) (by decide) rfl hl.1 rfl (Nat.le_of_ble_eq_true rfl) ⟨Nat.zero_le _, Nat.zero_le _⟩ dX6_tell_5 (fun r_ u_ H locs hw hP hD hS => ?_)
  try dsimp only at hw
  subst hw
  have hP : va_P D vwCl (W_A_P cI cS h q_ x_ b a d_ r_ lf tc a cnt lv kd gd ln st) H := hP
  have hD : va_D A (W_A_P cI cS h q_ x_ b a d_ r_ lf tc a cnt lv kd gd ln st) := hD
  refine n_if_b2 (tgt := 13) hx hb dX6_tell_8 (by decide)  (fun c_1 => ?_) (fun c_1 => ?_)
  ·
    have hkf := hkd.1 f (by omega) (by omega)
    refine lv_aload_n hx hb dX6_tell_13 rfl (lv_at hl 0 rfl) ?_
    refine va_get (D := D) (ci := 6) (v := .ref (a 0)) (C := RX6) (T := TX6) (N := 8) hx hb hts iw_6 hown hK.1 hP 0 rfl rfl 3 (by decide) fl_35 (fun _ h9 => h9) rfl dX6_tell_14 ?_
    refine va_getN (D := D) (ci := 1) (v := .ref (a 1)) (C := RX1) (T := TX1) (N := 6) hx hb hts iw_1 hown hK.1 hP 1 rfl rfl 0 (by decide) fn_99 (fun _ h9 => h9) rfl dX6_tell_17 ?_
    refine lv_iload_n hx hb dX6_tell_20 rfl (lv_at hl 1 rfl) ?_
    refine n_iald (n := 5) hx hb hK.1 hP 2 0 rfl rfl (by omega) (by decide) dX6_tell_21 ?_
    by_cases c_2 : (kd f) = 1
    ·
      refine n_lookup (tgt := 48) hx hb dX6_tell_22 (by decide) (by omega) (by rw [c_2] <;> rfl) (by decide) ?_
      refine lv_aload_n hx hb dX6_tell_48 rfl (lv_at hl 0 rfl) ?_
      refine lv_iload_n hx hb dX6_tell_49 rfl (lv_at hl 1 rfl) ?_
      refine x_callVi (As := [.int (iI f)]) (rest := []) ⟨hx, hb, hml, hown, hts⟩ (c_X6_tellLeaving l D cI cS h q_ x_ b a d_ r_ lf tc cnt lv kd gd ln st H.size f (by first | assumption | omega)) (cwV 1 hts gX6_tell_X6_tellLeaving rfl rfl rfl (by decide +kernel) ⟨Nat.le_of_ble_eq_true rfl, Nat.le_of_ble_eq_true rfl⟩) hK hP hD hS hA [0, 1, 2, 3, 4, 5] [] (wr := ([] : va_W)) rfl rfl (by decide) (by decide) (by decide) 0 6 rfl rfl rfl [0, 1, 2, 3, 4, 5] (fun (u : Unit) => (W_A_P cI cS h q_ x_ b a d_ r_ lf ((31 * ((31 * tc) + 2)) + 1) a cnt lv kd gd ln st)) (fun _ => rfl) (by decide) rfl hl.1 rfl (Nat.le_of_ble_eq_true rfl) ⟨Nat.zero_le _, Nat.zero_le _⟩ dX6_tell_50 (fun r_ u_ H locs hw hP hD hS => ?_)
      try dsimp only at hw
      subst hw
      have hP : va_P D vwCl (W_A_P cI cS h q_ x_ b a d_ r_ lf ((31 * ((31 * tc) + 2)) + 1) a cnt lv kd gd ln st) H := hP
      have hD : va_D A (W_A_P cI cS h q_ x_ b a d_ r_ lf ((31 * ((31 * tc) + 2)) + 1) a cnt lv kd gd ln st) := hD
      have e_3 : (((31 * ((31 * tc) + 2)) + 1) : Int) = (if 0 ≤ f ∧ f < cnt then (if kd f = 1 then (31 * ((31 * tc) + 2)) + 1 else if kd f = 2 then (31 * ((31 * ((31 * ((31 * tc) + 3)) + 2)) + 1)) + 1 else (31 * tc) + 1) else tc) := (by omega)
      have hP : va_P D vwCl (W_A_P cI cS h q_ x_ b a d_ r_ lf (if 0 ≤ f ∧ f < cnt then (if kd f = 1 then (31 * ((31 * tc) + 2)) + 1 else if kd f = 2 then (31 * ((31 * ((31 * ((31 * tc) + 3)) + 2)) + 1)) + 1 else (31 * tc) + 1) else tc) a cnt lv kd gd ln st) H := Eq.mp (congrArg (fun z_ => va_P D vwCl (W_A_P cI cS h q_ x_ b a d_ r_ lf z_ a cnt lv kd gd ln st) H) e_3) hP
      have hD : va_D A (W_A_P cI cS h q_ x_ b a d_ r_ lf (if 0 ≤ f ∧ f < cnt then (if kd f = 1 then (31 * ((31 * tc) + 2)) + 1 else if kd f = 2 then (31 * ((31 * ((31 * ((31 * tc) + 3)) + 2)) + 1)) + 1 else (31 * tc) + 1) else tc) a cnt lv kd gd ln st) := Eq.mp (congrArg (fun z_ => va_D A (W_A_P cI cS h q_ x_ b a d_ r_ lf z_ a cnt lv kd gd ln st)) e_3) hD
      exact W.iret (v := iI ((ln f) + 100)) hx hb hr (fun t ht hW => ⟨⟨_, (), rfl, congrArg iI (show ((ln f) + 100) = (if 0 ≤ f ∧ f < cnt then (if kd f = 1 then ln f + 100 else if kd f = 2 then ln f + 100 + ln f else ln f) else (-1)) from (by omega)), by rw [ht]; exact hP, hD⟩, hS.F ht⟩) hS.2.2 dX6_tell_53
    by_cases c_4 : (kd f) = 2
    ·
      refine n_lookup (tgt := 54) hx hb dX6_tell_22 (by decide) (by omega) (by rw [c_4] <;> rfl) (by decide) ?_
      refine lv_aload_n hx hb dX6_tell_54 rfl (lv_at hl 0 rfl) ?_
      refine lv_iload_n hx hb dX6_tell_55 rfl (lv_at hl 1 rfl) ?_
      refine x_callVi (As := [.int (iI f)]) (rest := []) ⟨hx, hb, hml, hown, hts⟩ (c_X6_tellKeeping l D cI cS h q_ x_ b a d_ r_ lf tc cnt lv kd gd ln st H.size f (by first | assumption | omega)) (cwV 1 hts gX6_tell_X6_tellKeeping rfl rfl rfl (by decide +kernel) ⟨Nat.le_of_ble_eq_true rfl, Nat.le_of_ble_eq_true rfl⟩) hK hP hD hS hA [0, 1, 2, 3, 4, 5] [] (wr := ([] : va_W)) rfl rfl (by decide) (by decide) (by decide) 0 6 rfl rfl rfl [0, 1, 2, 3, 4, 5] (fun (u : Unit) => (W_A_P cI cS h q_ x_ b a d_ r_ lf ((31 * ((31 * ((31 * ((31 * tc) + 3)) + 2)) + 1)) + 1) a cnt lv kd gd ln st)) (fun _ => rfl) (by decide) rfl hl.1 rfl (Nat.le_of_ble_eq_true rfl) ⟨Nat.zero_le _, Nat.zero_le _⟩ dX6_tell_56 (fun r_ u_ H locs hw hP hD hS => ?_)
      try dsimp only at hw
      subst hw
      have hP : va_P D vwCl (W_A_P cI cS h q_ x_ b a d_ r_ lf ((31 * ((31 * ((31 * ((31 * tc) + 3)) + 2)) + 1)) + 1) a cnt lv kd gd ln st) H := hP
      have hD : va_D A (W_A_P cI cS h q_ x_ b a d_ r_ lf ((31 * ((31 * ((31 * ((31 * tc) + 3)) + 2)) + 1)) + 1) a cnt lv kd gd ln st) := hD
      have e_5 : (((31 * ((31 * ((31 * ((31 * tc) + 3)) + 2)) + 1)) + 1) : Int) = (if 0 ≤ f ∧ f < cnt then (if kd f = 1 then (31 * ((31 * tc) + 2)) + 1 else if kd f = 2 then (31 * ((31 * ((31 * ((31 * tc) + 3)) + 2)) + 1)) + 1 else (31 * tc) + 1) else tc) := (by omega)
      have hP : va_P D vwCl (W_A_P cI cS h q_ x_ b a d_ r_ lf (if 0 ≤ f ∧ f < cnt then (if kd f = 1 then (31 * ((31 * tc) + 2)) + 1 else if kd f = 2 then (31 * ((31 * ((31 * ((31 * tc) + 3)) + 2)) + 1)) + 1 else (31 * tc) + 1) else tc) a cnt lv kd gd ln st) H := Eq.mp (congrArg (fun z_ => va_P D vwCl (W_A_P cI cS h q_ x_ b a d_ r_ lf z_ a cnt lv kd gd ln st) H) e_5) hP
      have hD : va_D A (W_A_P cI cS h q_ x_ b a d_ r_ lf (if 0 ≤ f ∧ f < cnt then (if kd f = 1 then (31 * ((31 * tc) + 2)) + 1 else if kd f = 2 then (31 * ((31 * ((31 * ((31 * tc) + 3)) + 2)) + 1)) + 1 else (31 * tc) + 1) else tc) a cnt lv kd gd ln st) := Eq.mp (congrArg (fun z_ => va_D A (W_A_P cI cS h q_ x_ b a d_ r_ lf z_ a cnt lv kd gd ln st)) e_5) hD
      exact W.iret (v := iI (((ln f) + 100) + (ln f))) hx hb hr (fun t ht hW => ⟨⟨_, (), rfl, congrArg iI (show (((ln f) + 100) + (ln f)) = (if 0 ≤ f ∧ f < cnt then (if kd f = 1 then ln f + 100 else if kd f = 2 then ln f + 100 + ln f else ln f) else (-1)) from (by omega)), by rw [ht]; exact hP, hD⟩, hS.F ht⟩) hS.2.2 dX6_tell_59
    refine n_lookup (off := 38) (tgt := 60) hx hb dX6_tell_22 (by decide) (by omega) (by simp only [Op.lookupswitch.offset]; repeat rw [if_neg (by omega)]) (by decide) ?_
    refine lv_aload_n hx hb dX6_tell_60 rfl (lv_at hl 0 rfl) ?_
    refine lv_iload_n hx hb dX6_tell_61 rfl (lv_at hl 1 rfl) ?_
    refine x_callVi (As := [.int (iI f)]) (rest := []) ⟨hx, hb, hml, hown, hts⟩ (c_X6_tellPlain l D cI cS h q_ x_ b a d_ r_ lf tc cnt lv kd gd ln st H.size f (by first | assumption | omega)) (cwV 1 hts gX6_tell_X6_tellPlain rfl rfl rfl (by decide +kernel) ⟨Nat.le_of_ble_eq_true rfl, Nat.le_of_ble_eq_true rfl⟩) hK hP hD hS hA [0, 1, 2, 3, 4, 5] [] (wr := ([] : va_W)) rfl rfl (by decide) (by decide) (by decide) 0 6 rfl rfl rfl [0, 1, 2, 3, 4, 5] (fun (u : Unit) => (W_A_P cI cS h q_ x_ b a d_ r_ lf ((31 * tc) + 1) a cnt lv kd gd ln st)) (fun _ => rfl) (by decide) rfl hl.1 rfl (Nat.le_of_ble_eq_true rfl) ⟨Nat.zero_le _, Nat.zero_le _⟩ dX6_tell_62 (fun r_ u_ H locs hw hP hD hS => ?_)
    try dsimp only at hw
    subst hw
    have hP : va_P D vwCl (W_A_P cI cS h q_ x_ b a d_ r_ lf ((31 * tc) + 1) a cnt lv kd gd ln st) H := hP
    have hD : va_D A (W_A_P cI cS h q_ x_ b a d_ r_ lf ((31 * tc) + 1) a cnt lv kd gd ln st) := hD
    have e_6 : (((31 * tc) + 1) : Int) = (if 0 ≤ f ∧ f < cnt then (if kd f = 1 then (31 * ((31 * tc) + 2)) + 1 else if kd f = 2 then (31 * ((31 * ((31 * ((31 * tc) + 3)) + 2)) + 1)) + 1 else (31 * tc) + 1) else tc) := (by omega)
    have hP : va_P D vwCl (W_A_P cI cS h q_ x_ b a d_ r_ lf (if 0 ≤ f ∧ f < cnt then (if kd f = 1 then (31 * ((31 * tc) + 2)) + 1 else if kd f = 2 then (31 * ((31 * ((31 * ((31 * tc) + 3)) + 2)) + 1)) + 1 else (31 * tc) + 1) else tc) a cnt lv kd gd ln st) H := Eq.mp (congrArg (fun z_ => va_P D vwCl (W_A_P cI cS h q_ x_ b a d_ r_ lf z_ a cnt lv kd gd ln st) H) e_6) hP
    have hD : va_D A (W_A_P cI cS h q_ x_ b a d_ r_ lf (if 0 ≤ f ∧ f < cnt then (if kd f = 1 then (31 * ((31 * tc) + 2)) + 1 else if kd f = 2 then (31 * ((31 * ((31 * ((31 * tc) + 3)) + 2)) + 1)) + 1 else (31 * tc) + 1) else tc) a cnt lv kd gd ln st) := Eq.mp (congrArg (fun z_ => va_D A (W_A_P cI cS h q_ x_ b a d_ r_ lf z_ a cnt lv kd gd ln st)) e_6) hD
    exact W.iret (v := iI (ln f)) hx hb hr (fun t ht hW => ⟨⟨_, (), rfl, congrArg iI (show (ln f) = (if 0 ≤ f ∧ f < cnt then (if kd f = 1 then ln f + 100 else if kd f = 2 then ln f + 100 + ln f else ln f) else (-1)) from (by omega)), by rw [ht]; exact hP, hD⟩, hS.F ht⟩) hS.2.2 dX6_tell_65
  ·
    refine lv_iconst (v := iI (-1)) hx hb dX6_tell_11 (by decide +kernel) ?_
    have e_7 : (tc : Int) = (if 0 ≤ f ∧ f < cnt then (if kd f = 1 then (31 * ((31 * tc) + 2)) + 1 else if kd f = 2 then (31 * ((31 * ((31 * ((31 * tc) + 3)) + 2)) + 1)) + 1 else (31 * tc) + 1) else tc) := (by omega)
    have hP : va_P D vwCl (W_A_P cI cS h q_ x_ b a d_ r_ lf (if 0 ≤ f ∧ f < cnt then (if kd f = 1 then (31 * ((31 * tc) + 2)) + 1 else if kd f = 2 then (31 * ((31 * ((31 * ((31 * tc) + 3)) + 2)) + 1)) + 1 else (31 * tc) + 1) else tc) a cnt lv kd gd ln st) H := Eq.mp (congrArg (fun z_ => va_P D vwCl (W_A_P cI cS h q_ x_ b a d_ r_ lf z_ a cnt lv kd gd ln st) H) e_7) hP
    have hD : va_D A (W_A_P cI cS h q_ x_ b a d_ r_ lf (if 0 ≤ f ∧ f < cnt then (if kd f = 1 then (31 * ((31 * tc) + 2)) + 1 else if kd f = 2 then (31 * ((31 * ((31 * ((31 * tc) + 3)) + 2)) + 1)) + 1 else (31 * tc) + 1) else tc) a cnt lv kd gd ln st) := Eq.mp (congrArg (fun z_ => va_D A (W_A_P cI cS h q_ x_ b a d_ r_ lf z_ a cnt lv kd gd ln st)) e_7) hD
    exact W.iret (v := iI (-1)) hx hb hr (fun t ht hW => ⟨⟨_, (), rfl, congrArg iI (show (-1) = (if 0 ≤ f ∧ f < cnt then (if kd f = 1 then ln f + 100 else if kd f = 2 then ln f + 100 + ln f else ln f) else (-1)) from (by omega)), by rw [ht]; exact hP, hD⟩, hS.F ht⟩) hS.2.2 dX6_tell_12
set_option maxHeartbeats 4000000 in
set_option maxRecDepth 100000 in
theorem c_X6_name (l : Launch) (D : va_G) (cI cS : ClassId) (h : Nat → Nat) (q_ : Nat → Nat) (x_ : Nat → Nat) (b : Nat → Nat) (a : Nat → Nat) (d_ : Nat → Nat) (r_ : Nat → Nat) (lf : Int) (tc : Int) (cnt : Int) (lv : Int) (kd : Int → Int) (gd : Int → Int) (ln : Int → Int) (st : Int → Int) (sz : Nat) (f : Int) (hok : okP cnt ln st) (hkd : okK cnt kd gd lv) (hfr : -2147483648 ≤ f ∧ f < 2147483648) : Met l yX6_name wsX6_name ({ frames := 1, cells := 0, slots := 0, locals := 21 }) (cP D cI cS (W_A_P cI cS h q_ x_ b a d_ r_ lf tc a cnt lv kd gd ln st) sz [.ref (h 0), .int (iI f)]) (va_Qi (fun (r : Int32) (u : Unit) => r = iI (if 0 ≤ f ∧ f < cnt then (if kd f = 2 then 60 else f) else (-1))) (fun (u : Unit) t => cB D (va_A (W_A_P cI cS h q_ x_ b a d_ r_ lf tc a cnt lv kd gd ln st) sz) (W_A_P cI cS h q_ x_ b a d_ r_ lf (if 0 ≤ f ∧ f < cnt then (if kd f = 2 then (31 * tc) + 5 else (31 * tc) + 4) else tc) a cnt lv kd gd ln st) t) (va_A (W_A_P cI cS h q_ x_ b a d_ r_ lf tc a cnt lv kd gd ln st) sz)) 0 0 (va_A (W_A_P cI cS h q_ x_ b a d_ r_ lf tc a cnt lv kd gd ln st) sz) := by
  refine Met.ofW (cc := cX6_name) (maxL := 2) (ret := (some .int)) (by decide) rfl ?_
  intro p e s m args below meth c_ s₁ B hml hv
  obtain ⟨rfl, hsz, hP, hK, hD0⟩ := hv
  have hx := B.exec
  have hb := B.bytes
  have hr := B.returns
  have hts := atoms_spec (ws := wsX6_name) B.pre
  have hown : s.vm.findClass RX6 = some m.cls := findClass_of_methodNamed B.named
  have hlocks := B.notSynchronized
  subst hsz
  have hD := hD0.self (sz := s.heap.size)
  generalize hAe : va_A (W_A_P cI cS h q_ x_ b a d_ r_ lf tc a cnt lv kd gd ln st) s.heap.size = A at hD ⊢
  have hA : ∀ q : Nat, s.heap.size ≤ q → A q := fun q h => by rw [← hAe]; exact Or.inr h
  have hS : va_S A s.heap s.heap [] := va_S.rf
  have hP : va_P D vwCl (W_A_P cI cS h q_ x_ b a d_ r_ lf tc a cnt lv kd gd ln st) s.heap := hP
  have hl := lv_entry ([.ref (h 0), .int (iI f)] : List Value) (n := 2) (Nat.le_of_ble_eq_true rfl)
  rw [lg_entry_eq]
  generalize (lg_sl ([.ref (h 0), .int (iI f)] : List Value) ++ List.replicate (2 - (lg_sl ([.ref (h 0), .int (iI f)] : List Value)).length) Slot.unset).toArray = ls at hl ⊢
  have hl : lv_has ls 2 [(0, .ref (h 0)), (1, .int (iI f))] := hl
  have fl_35 := hts (.fieldLink RX6 35 "ActRows" "told" "LActRows$Program;") (by decide +kernel)
  have iw_6 : ∀ w ∈ wsX60, w ∈ wsX6_name := by decide +kernel
  have fn_99 := va_Nw.use (A := ([.ref (h 0), .int (iI f)] : List Value).toArray) rfl (hK.2 ("ActRows", 99, "ActRows$Program", "kinds", "[I") (List.mem_of_getElem? (i := 15) rfl))
  have iw_1 : ∀ w ∈ wsX10, w ∈ wsX6_name := by decide +kernel
  have hc := hok.1
  have hln := hok.2.1
  refine lv_aload_n hx hb dX6_name_0 rfl (lv_at hl 0 rfl) ?_
  refine va_get (D := D) (ci := 6) (v := .ref (a 0)) (C := RX6) (T := TX6) (N := 8) hx hb hts iw_6 hown hK.1 hP 0 rfl rfl 3 (by decide) fl_35 (fun _ h9 => h9) rfl dX6_name_1 ?_
  refine lv_iload_n hx hb dX6_name_4 rfl (lv_at hl 1 rfl) ?_
  refine x_callVi (As := [.int (iI f)]) (rest := []) ⟨hx, hb, hml, hown, hts⟩ (c_X1_has l D cI cS a cnt lv kd gd ln st s.heap.size f (by first | assumption | omega) (by first | assumption | omega)) (cwV 1 hts gX6_name_X1_has rfl rfl rfl (by decide +kernel) ⟨Nat.le_of_ble_eq_true rfl, Nat.le_of_ble_eq_true rfl⟩) hK hP hD hS hA [1, 2, 3, 4, 5] [0] (wr := [(h 0, .inr (6, [.ref (q_ 0), .ref (x_ 0), .ref (b 0), .ref (a 0), .ref (d_ 0), .ref (r_ 0), .int (iI lf), .int (iI tc)]))]) rfl rfl (by decide) (by decide) (by decide) 0 1 rfl rfl rfl [0, 1, 2, 3, 4, 5] (fun (u : Unit) => (W_A_P cI cS h q_ x_ b a d_ r_ lf tc a cnt lv kd gd ln st)) (fun _ => rfl) (by decide) rfl hl.1 rfl (Nat.le_of_ble_eq_true rfl) ⟨Nat.zero_le _, Nat.zero_le _⟩ dX6_name_5 (fun r_ u_ H locs hw hP hD hS => ?_)
  try dsimp only at hw
  subst hw
  have hP : va_P D vwCl (W_A_P cI cS h q_ x_ b a d_ r_ lf tc a cnt lv kd gd ln st) H := hP
  have hD : va_D A (W_A_P cI cS h q_ x_ b a d_ r_ lf tc a cnt lv kd gd ln st) := hD
  refine n_if_b2 (tgt := 13) hx hb dX6_name_8 (by decide)  (fun c_1 => ?_) (fun c_1 => ?_)
  ·
    have hkf := hkd.1 f (by omega) (by omega)
    refine lv_aload_n hx hb dX6_name_13 rfl (lv_at hl 0 rfl) ?_
    refine va_get (D := D) (ci := 6) (v := .ref (a 0)) (C := RX6) (T := TX6) (N := 8) hx hb hts iw_6 hown hK.1 hP 0 rfl rfl 3 (by decide) fl_35 (fun _ h9 => h9) rfl dX6_name_14 ?_
    refine va_getN (D := D) (ci := 1) (v := .ref (a 1)) (C := RX1) (T := TX1) (N := 6) hx hb hts iw_1 hown hK.1 hP 1 rfl rfl 0 (by decide) fn_99 (fun _ h9 => h9) rfl dX6_name_17 ?_
    refine lv_iload_n hx hb dX6_name_20 rfl (lv_at hl 1 rfl) ?_
    refine n_iald (n := 5) hx hb hK.1 hP 2 0 rfl rfl (by omega) (by decide) dX6_name_21 ?_
    refine lv_iconst (v := iI 2) hx hb dX6_name_22 (by decide +kernel) ?_
    refine n_icmp_ne (tgt := 34) hx hb dX6_name_23 (by decide) (by omega) (fun c_2 => ?_) (fun c_2 => ?_)
    ·
      refine lv_aload_n hx hb dX6_name_34 rfl (lv_at hl 0 rfl) ?_
      refine lv_iconst (v := iI 4) hx hb dX6_name_35 (by decide +kernel) ?_
      refine x_callVv (As := [.int (iI 4)]) (rest := []) ⟨hx, hb, hml, hown, hts⟩ (c_X6_leaveInTrace l D cI cS h q_ x_ b a d_ r_ lf tc H.size 4) (cwV 1 hts gX6_name_X6_leaveInTrace rfl rfl rfl (by decide +kernel) ⟨Nat.le_of_ble_eq_true rfl, Nat.le_of_ble_eq_true rfl⟩) hK hP hD hS hA [0] [1, 2, 3, 4, 5] (wr := [(a 0, .inr (1, [.ref (a 1), .ref (a 2), .ref (a 3), .ref (a 4), .int (iI cnt), .int (iI lv)])), (a 1, .inl (cI, 5, .inl (aI kd))), (a 2, .inl (cI, 5, .inl (aI gd))), (a 3, .inl (cI, 5, .inl (aI ln))), (a 4, .inl (cI, 20, .inl (aI st)))]) rfl rfl (by decide) (by decide) (by decide) 0 6 rfl rfl rfl [5, 0, 1, 2, 3, 4] (fun (u : Unit) => (W_A_P cI cS h q_ x_ b a d_ r_ lf ((31 * tc) + 4) a cnt lv kd gd ln st)) (fun _ => rfl) (by decide) rfl hl.1 rfl (Nat.le_of_ble_eq_true rfl) ⟨Nat.zero_le _, Nat.zero_le _⟩ dX6_name_36 (fun u_ H locs hw hP hD hS => ?_)
      try dsimp only at hw
      have hP : va_P D vwCl (W_A_P cI cS h q_ x_ b a d_ r_ lf ((31 * tc) + 4) a cnt lv kd gd ln st) H := hP
      have hD : va_D A (W_A_P cI cS h q_ x_ b a d_ r_ lf ((31 * tc) + 4) a cnt lv kd gd ln st) := hD
      refine lv_iload_n hx hb dX6_name_39 rfl (lv_at hl 1 rfl) ?_
      have e_3 : (((31 * tc) + 4) : Int) = (if 0 ≤ f ∧ f < cnt then (if kd f = 2 then (31 * tc) + 5 else (31 * tc) + 4) else tc) := (by omega)
      have hP : va_P D vwCl (W_A_P cI cS h q_ x_ b a d_ r_ lf (if 0 ≤ f ∧ f < cnt then (if kd f = 2 then (31 * tc) + 5 else (31 * tc) + 4) else tc) a cnt lv kd gd ln st) H := Eq.mp (congrArg (fun z_ => va_P D vwCl (W_A_P cI cS h q_ x_ b a d_ r_ lf z_ a cnt lv kd gd ln st) H) e_3) hP
      have hD : va_D A (W_A_P cI cS h q_ x_ b a d_ r_ lf (if 0 ≤ f ∧ f < cnt then (if kd f = 2 then (31 * tc) + 5 else (31 * tc) + 4) else tc) a cnt lv kd gd ln st) := Eq.mp (congrArg (fun z_ => va_D A (W_A_P cI cS h q_ x_ b a d_ r_ lf z_ a cnt lv kd gd ln st)) e_3) hD
      exact W.iret (v := iI f) hx hb hr (fun t ht hW => ⟨⟨_, (), rfl, congrArg iI (show f = (if 0 ≤ f ∧ f < cnt then (if kd f = 2 then 60 else f) else (-1)) from (by omega)), by rw [ht]; exact hP, hD⟩, hS.F ht⟩) hS.2.2 dX6_name_40
    ·
      refine lv_aload_n hx hb dX6_name_26 rfl (lv_at hl 0 rfl) ?_
      refine lv_iconst (v := iI 5) hx hb dX6_name_27 (by decide +kernel) ?_
      refine x_callVv (As := [.int (iI 5)]) (rest := []) ⟨hx, hb, hml, hown, hts⟩ (c_X6_leaveInTrace l D cI cS h q_ x_ b a d_ r_ lf tc H.size 5) (cwV 1 hts gX6_name_X6_leaveInTrace rfl rfl rfl (by decide +kernel) ⟨Nat.le_of_ble_eq_true rfl, Nat.le_of_ble_eq_true rfl⟩) hK hP hD hS hA [0] [1, 2, 3, 4, 5] (wr := [(a 0, .inr (1, [.ref (a 1), .ref (a 2), .ref (a 3), .ref (a 4), .int (iI cnt), .int (iI lv)])), (a 1, .inl (cI, 5, .inl (aI kd))), (a 2, .inl (cI, 5, .inl (aI gd))), (a 3, .inl (cI, 5, .inl (aI ln))), (a 4, .inl (cI, 20, .inl (aI st)))]) rfl rfl (by decide) (by decide) (by decide) 0 6 rfl rfl rfl [5, 0, 1, 2, 3, 4] (fun (u : Unit) => (W_A_P cI cS h q_ x_ b a d_ r_ lf ((31 * tc) + 5) a cnt lv kd gd ln st)) (fun _ => rfl) (by decide) rfl hl.1 rfl (Nat.le_of_ble_eq_true rfl) ⟨Nat.zero_le _, Nat.zero_le _⟩ dX6_name_28 (fun u_ H locs hw hP hD hS => ?_)
      try dsimp only at hw
      have hP : va_P D vwCl (W_A_P cI cS h q_ x_ b a d_ r_ lf ((31 * tc) + 5) a cnt lv kd gd ln st) H := hP
      have hD : va_D A (W_A_P cI cS h q_ x_ b a d_ r_ lf ((31 * tc) + 5) a cnt lv kd gd ln st) := hD
      refine lv_bipush (v := iI 60) hx hb dX6_name_31 (by decide +kernel) ?_
      have e_4 : (((31 * tc) + 5) : Int) = (if 0 ≤ f ∧ f < cnt then (if kd f = 2 then (31 * tc) + 5 else (31 * tc) + 4) else tc) := (by omega)
      have hP : va_P D vwCl (W_A_P cI cS h q_ x_ b a d_ r_ lf (if 0 ≤ f ∧ f < cnt then (if kd f = 2 then (31 * tc) + 5 else (31 * tc) + 4) else tc) a cnt lv kd gd ln st) H := Eq.mp (congrArg (fun z_ => va_P D vwCl (W_A_P cI cS h q_ x_ b a d_ r_ lf z_ a cnt lv kd gd ln st) H) e_4) hP
      have hD : va_D A (W_A_P cI cS h q_ x_ b a d_ r_ lf (if 0 ≤ f ∧ f < cnt then (if kd f = 2 then (31 * tc) + 5 else (31 * tc) + 4) else tc) a cnt lv kd gd ln st) := Eq.mp (congrArg (fun z_ => va_D A (W_A_P cI cS h q_ x_ b a d_ r_ lf z_ a cnt lv kd gd ln st)) e_4) hD
      exact W.iret (v := iI 60) hx hb hr (fun t ht hW => ⟨⟨_, (), rfl, congrArg iI (show 60 = (if 0 ≤ f ∧ f < cnt then (if kd f = 2 then 60 else f) else (-1)) from (by omega)), by rw [ht]; exact hP, hD⟩, hS.F ht⟩) hS.2.2 dX6_name_33
  ·
    refine lv_iconst (v := iI (-1)) hx hb dX6_name_11 (by decide +kernel) ?_
    have e_5 : (tc : Int) = (if 0 ≤ f ∧ f < cnt then (if kd f = 2 then (31 * tc) + 5 else (31 * tc) + 4) else tc) := (by omega)
    have hP : va_P D vwCl (W_A_P cI cS h q_ x_ b a d_ r_ lf (if 0 ≤ f ∧ f < cnt then (if kd f = 2 then (31 * tc) + 5 else (31 * tc) + 4) else tc) a cnt lv kd gd ln st) H := Eq.mp (congrArg (fun z_ => va_P D vwCl (W_A_P cI cS h q_ x_ b a d_ r_ lf z_ a cnt lv kd gd ln st) H) e_5) hP
    have hD : va_D A (W_A_P cI cS h q_ x_ b a d_ r_ lf (if 0 ≤ f ∧ f < cnt then (if kd f = 2 then (31 * tc) + 5 else (31 * tc) + 4) else tc) a cnt lv kd gd ln st) := Eq.mp (congrArg (fun z_ => va_D A (W_A_P cI cS h q_ x_ b a d_ r_ lf z_ a cnt lv kd gd ln st)) e_5) hD
    exact W.iret (v := iI (-1)) hx hb hr (fun t ht hW => ⟨⟨_, (), rfl, congrArg iI (show (-1) = (if 0 ≤ f ∧ f < cnt then (if kd f = 2 then 60 else f) else (-1)) from (by omega)), by rw [ht]; exact hP, hD⟩, hS.F ht⟩) hS.2.2 dX6_name_12
set_option maxHeartbeats 4000000 in
set_option maxRecDepth 100000 in
theorem c_X6_as (l : Launch) (D : va_G) (cI cS : ClassId) (h : Nat → Nat) (q_ : Nat → Nat) (x_ : Nat → Nat) (b : Nat → Nat) (a : Nat → Nat) (d_ : Nat → Nat) (r_ : Nat → Nat) (lf : Int) (tc : Int) (cnt : Int) (lv : Int) (kd : Int → Int) (gd : Int → Int) (ln : Int → Int) (st : Int → Int) (sz : Nat) (f : Int) (y : Int) (hok : okP cnt ln st) (hkd : okK cnt kd gd lv) (hfr : -2147483648 ≤ f ∧ f < 2147483648) (hyr : -2147483648 ≤ y ∧ y < 2147483648) : Met l yX6_as wsX6_as ({ frames := 1, cells := 0, slots := 0, locals := 21 }) (cP D cI cS (W_A_P cI cS h q_ x_ b a d_ r_ lf tc a cnt lv kd gd ln st) sz [.ref (h 0), .int (iI f), .int (iI y)]) (va_Qi (fun (r : Int32) (u : Unit) => r = iI (if 0 ≤ f ∧ f < cnt then (if 0 ≤ y ∧ y < 3 then (if y ≤ kd f then 1 else (-12)) else (-2)) else (-1))) (fun (u : Unit) t => cB D (va_A (W_A_P cI cS h q_ x_ b a d_ r_ lf tc a cnt lv kd gd ln st) sz) (W_A_P cI cS h q_ x_ b a d_ r_ (if (0 ≤ f ∧ f < cnt) ∧ (0 ≤ y ∧ y < 3) ∧ ¬ y ≤ kd f then 2 else 0) tc a cnt lv kd gd ln st) t) (va_A (W_A_P cI cS h q_ x_ b a d_ r_ lf tc a cnt lv kd gd ln st) sz)) 0 0 (va_A (W_A_P cI cS h q_ x_ b a d_ r_ lf tc a cnt lv kd gd ln st) sz) := by
  refine Met.ofW (cc := cX6_as) (maxL := 3) (ret := (some .int)) (by decide) rfl ?_
  intro p e s m args below meth c_ s₁ B hml hv
  obtain ⟨rfl, hsz, hP, hK, hD0⟩ := hv
  have hx := B.exec
  have hb := B.bytes
  have hr := B.returns
  have hts := atoms_spec (ws := wsX6_as) B.pre
  have hown : s.vm.findClass RX6 = some m.cls := findClass_of_methodNamed B.named
  have hlocks := B.notSynchronized
  subst hsz
  have hD := hD0.self (sz := s.heap.size)
  generalize hAe : va_A (W_A_P cI cS h q_ x_ b a d_ r_ lf tc a cnt lv kd gd ln st) s.heap.size = A at hD ⊢
  have hA : ∀ q : Nat, s.heap.size ≤ q → A q := fun q h => by rw [← hAe]; exact Or.inr h
  have hS : va_S A s.heap s.heap [] := va_S.rf
  have hP : va_P D vwCl (W_A_P cI cS h q_ x_ b a d_ r_ lf tc a cnt lv kd gd ln st) s.heap := hP
  have hl := lv_entry ([.ref (h 0), .int (iI f), .int (iI y)] : List Value) (n := 3) (Nat.le_of_ble_eq_true rfl)
  rw [lg_entry_eq]
  generalize (lg_sl ([.ref (h 0), .int (iI f), .int (iI y)] : List Value) ++ List.replicate (3 - (lg_sl ([.ref (h 0), .int (iI f), .int (iI y)] : List Value)).length) Slot.unset).toArray = ls at hl ⊢
  have hl : lv_has ls 3 [(0, .ref (h 0)), (1, .int (iI f)), (2, .int (iI y))] := hl
  have fl_52 := hts (.fieldLink RX6 52 "ActRows" "lastFault" "I") (by decide +kernel)
  have iw_6 : ∀ w ∈ wsX60, w ∈ wsX6_as := by decide +kernel
  have fl_35 := hts (.fieldLink RX6 35 "ActRows" "told" "LActRows$Program;") (by decide +kernel)
  have fn_99 := va_Nw.use (A := ([.ref (h 0), .int (iI f), .int (iI y)] : List Value).toArray) rfl (hK.2 ("ActRows", 99, "ActRows$Program", "kinds", "[I") (List.mem_of_getElem? (i := 15) rfl))
  have iw_1 : ∀ w ∈ wsX10, w ∈ wsX6_as := by decide +kernel
  have hc := hok.1
  have hln := hok.2.1
  refine lv_aload_n hx hb dX6_as_0 rfl (lv_at hl 0 rfl) ?_
  refine lv_iconst (v := iI 0) hx hb dX6_as_1 (by decide +kernel) ?_
  refine va_put (D := D) (ci := 6) (v := .int (iI 0)) (ty := .int) (C := RX6) (T := TX6) (N := 8) hx hb hts iw_6 tyX6 tyX6_ok nmX6 hown hK.1 hP hD hS 0 rfl rfl 6 (by decide) fl_52 (fun _ h9 => h9) rfl (by decide +kernel) rfl rfl (Nat.le_of_ble_eq_true rfl) dX6_as_2 (fun H locs hP hD hS => ?_)
  have hP : va_P D vwCl (W_A_P cI cS h q_ x_ b a d_ r_ 0 tc a cnt lv kd gd ln st) H := hP
  have hD : va_D A (W_A_P cI cS h q_ x_ b a d_ r_ 0 tc a cnt lv kd gd ln st) := hD
  refine lv_aload_n hx hb dX6_as_5 rfl (lv_at hl 0 rfl) ?_
  refine va_get (D := D) (ci := 6) (v := .ref (a 0)) (C := RX6) (T := TX6) (N := 8) hx hb hts iw_6 hown hK.1 hP 0 rfl rfl 3 (by decide) fl_35 (fun _ h9 => h9) rfl dX6_as_6 ?_
  refine lv_iload_n hx hb dX6_as_9 rfl (lv_at hl 1 rfl) ?_
  refine x_callVi (As := [.int (iI f)]) (rest := []) ⟨hx, hb, hml, hown, hts⟩ (c_X1_has l D cI cS a cnt lv kd gd ln st H.size f (by first | assumption | omega) (by first | assumption | omega)) (cwV 1 hts gX6_as_X1_has rfl rfl rfl (by decide +kernel) ⟨Nat.le_of_ble_eq_true rfl, Nat.le_of_ble_eq_true rfl⟩) hK hP hD hS hA [1, 2, 3, 4, 5] [0] (wr := [(h 0, .inr (6, [.ref (q_ 0), .ref (x_ 0), .ref (b 0), .ref (a 0), .ref (d_ 0), .ref (r_ 0), .int (iI 0), .int (iI tc)]))]) rfl rfl (by decide) (by decide) (by decide) 0 1 rfl rfl rfl [0, 1, 2, 3, 4, 5] (fun (u : Unit) => (W_A_P cI cS h q_ x_ b a d_ r_ 0 tc a cnt lv kd gd ln st)) (fun _ => rfl) (by decide) rfl hl.1 rfl (Nat.le_of_ble_eq_true rfl) ⟨Nat.zero_le _, Nat.zero_le _⟩ dX6_as_10 (fun r_ u_ H locs hw hP hD hS => ?_)
  try dsimp only at hw
  subst hw
  have hP : va_P D vwCl (W_A_P cI cS h q_ x_ b a d_ r_ 0 tc a cnt lv kd gd ln st) H := hP
  have hD : va_D A (W_A_P cI cS h q_ x_ b a d_ r_ 0 tc a cnt lv kd gd ln st) := hD
  refine n_if_b2 (tgt := 18) hx hb dX6_as_13 (by decide)  (fun c_1 => ?_) (fun c_1 => ?_)
  ·
    have hkf := hkd.1 f (by omega) (by omega)
    refine lv_iload_n hx hb dX6_as_18 rfl (lv_at hl 2 rfl) ?_
    refine n_if_lt (tgt := 27) hx hb dX6_as_19 (by decide) (by omega) (fun c_2 => ?_) (fun c_2 => ?_)
    ·
      refine lv_bipush (v := iI (-2)) hx hb dX6_as_27 (by decide +kernel) ?_
      have e_3 : (0 : Int) = (if (0 ≤ f ∧ f < cnt) ∧ (0 ≤ y ∧ y < 3) ∧ ¬ y ≤ kd f then 2 else 0) := (by omega)
      have hP : va_P D vwCl (W_A_P cI cS h q_ x_ b a d_ r_ (if (0 ≤ f ∧ f < cnt) ∧ (0 ≤ y ∧ y < 3) ∧ ¬ y ≤ kd f then 2 else 0) tc a cnt lv kd gd ln st) H := Eq.mp (congrArg (fun z_ => va_P D vwCl (W_A_P cI cS h q_ x_ b a d_ r_ z_ tc a cnt lv kd gd ln st) H) e_3) hP
      have hD : va_D A (W_A_P cI cS h q_ x_ b a d_ r_ (if (0 ≤ f ∧ f < cnt) ∧ (0 ≤ y ∧ y < 3) ∧ ¬ y ≤ kd f then 2 else 0) tc a cnt lv kd gd ln st) := Eq.mp (congrArg (fun z_ => va_D A (W_A_P cI cS h q_ x_ b a d_ r_ z_ tc a cnt lv kd gd ln st)) e_3) hD
      exact W.iret (v := iI (-2)) hx hb hr (fun t ht hW => ⟨⟨_, (), rfl, congrArg iI (show (-2) = (if 0 ≤ f ∧ f < cnt then (if 0 ≤ y ∧ y < 3 then (if y ≤ kd f then 1 else (-12)) else (-2)) else (-1)) from (by omega)), by rw [ht]; exact hP, hD⟩, hS.F ht⟩) hS.2.2 dX6_as_29
    ·
      refine lv_iload_n hx hb dX6_as_22 rfl (lv_at hl 2 rfl) ?_
      refine lv_iconst (v := iI 3) hx hb dX6_as_23 (by decide +kernel) ?_
      refine n_icmp_lt (tgt := 30) hx hb dX6_as_24 (by decide) (by omega) (fun c_4 => ?_) (fun c_4 => ?_)
      ·
        refine lv_aload_n hx hb dX6_as_30 rfl (lv_at hl 0 rfl) ?_
        refine va_get (D := D) (ci := 6) (v := .ref (a 0)) (C := RX6) (T := TX6) (N := 8) hx hb hts iw_6 hown hK.1 hP 0 rfl rfl 3 (by decide) fl_35 (fun _ h9 => h9) rfl dX6_as_31 ?_
        refine va_getN (D := D) (ci := 1) (v := .ref (a 1)) (C := RX1) (T := TX1) (N := 6) hx hb hts iw_1 hown hK.1 hP 1 rfl rfl 0 (by decide) fn_99 (fun _ h9 => h9) rfl dX6_as_34 ?_
        refine lv_iload_n hx hb dX6_as_37 rfl (lv_at hl 1 rfl) ?_
        refine n_iald (n := 5) hx hb hK.1 hP 2 0 rfl rfl (by omega) (by decide) dX6_as_38 ?_
        refine lv_iload_n hx hb dX6_as_39 rfl (lv_at hl 2 rfl) ?_
        refine n_icmp_lt (tgt := 47) hx hb dX6_as_40 (by decide) (by omega) (fun c_5 => ?_) (fun c_5 => ?_)
        ·
          refine lv_aload_n hx hb dX6_as_47 rfl (lv_at hl 0 rfl) ?_
          refine lv_iconst (v := iI 2) hx hb dX6_as_48 (by decide +kernel) ?_
          refine x_callVi (As := [.int (iI 2)]) (rest := []) ⟨hx, hb, hml, hown, hts⟩ (c_X6_faulted l D cI cS h q_ x_ b a d_ r_ 0 tc H.size 2) (cwV 1 hts gX6_as_X6_faulted rfl rfl rfl (by decide +kernel) ⟨Nat.le_of_ble_eq_true rfl, Nat.le_of_ble_eq_true rfl⟩) hK hP hD hS hA [0] [1, 2, 3, 4, 5] (wr := [(a 0, .inr (1, [.ref (a 1), .ref (a 2), .ref (a 3), .ref (a 4), .int (iI cnt), .int (iI lv)])), (a 1, .inl (cI, 5, .inl (aI kd))), (a 2, .inl (cI, 5, .inl (aI gd))), (a 3, .inl (cI, 5, .inl (aI ln))), (a 4, .inl (cI, 20, .inl (aI st)))]) rfl rfl (by decide) (by decide) (by decide) 0 6 rfl rfl rfl [5, 0, 1, 2, 3, 4] (fun (u : Unit) => (W_A_P cI cS h q_ x_ b a d_ r_ 2 tc a cnt lv kd gd ln st)) (fun _ => rfl) (by decide) rfl hl.1 rfl (Nat.le_of_ble_eq_true rfl) ⟨Nat.zero_le _, Nat.zero_le _⟩ dX6_as_49 (fun r_ u_ H locs hw hP hD hS => ?_)
          try dsimp only at hw
          subst hw
          have hP : va_P D vwCl (W_A_P cI cS h q_ x_ b a d_ r_ 2 tc a cnt lv kd gd ln st) H := hP
          have hD : va_D A (W_A_P cI cS h q_ x_ b a d_ r_ 2 tc a cnt lv kd gd ln st) := hD
          have e_6 : (2 : Int) = (if (0 ≤ f ∧ f < cnt) ∧ (0 ≤ y ∧ y < 3) ∧ ¬ y ≤ kd f then 2 else 0) := (by omega)
          have hP : va_P D vwCl (W_A_P cI cS h q_ x_ b a d_ r_ (if (0 ≤ f ∧ f < cnt) ∧ (0 ≤ y ∧ y < 3) ∧ ¬ y ≤ kd f then 2 else 0) tc a cnt lv kd gd ln st) H := Eq.mp (congrArg (fun z_ => va_P D vwCl (W_A_P cI cS h q_ x_ b a d_ r_ z_ tc a cnt lv kd gd ln st) H) e_6) hP
          have hD : va_D A (W_A_P cI cS h q_ x_ b a d_ r_ (if (0 ≤ f ∧ f < cnt) ∧ (0 ≤ y ∧ y < 3) ∧ ¬ y ≤ kd f then 2 else 0) tc a cnt lv kd gd ln st) := Eq.mp (congrArg (fun z_ => va_D A (W_A_P cI cS h q_ x_ b a d_ r_ z_ tc a cnt lv kd gd ln st)) e_6) hD
          exact W.iret (v := iI ((-10) - 2)) hx hb hr (fun t ht hW => ⟨⟨_, (), rfl, congrArg iI (show ((-10) - 2) = (if 0 ≤ f ∧ f < cnt then (if 0 ≤ y ∧ y < 3 then (if y ≤ kd f then 1 else (-12)) else (-2)) else (-1)) from (by omega)), by rw [ht]; exact hP, hD⟩, hS.F ht⟩) hS.2.2 dX6_as_52
        ·
          refine lv_iconst (v := iI 1) hx hb dX6_as_43 (by decide +kernel) ?_
          refine lv_goto (tgt := 52) hx hb dX6_as_44 (by decide) ?_
          have e_7 : (0 : Int) = (if (0 ≤ f ∧ f < cnt) ∧ (0 ≤ y ∧ y < 3) ∧ ¬ y ≤ kd f then 2 else 0) := (by omega)
          have hP : va_P D vwCl (W_A_P cI cS h q_ x_ b a d_ r_ (if (0 ≤ f ∧ f < cnt) ∧ (0 ≤ y ∧ y < 3) ∧ ¬ y ≤ kd f then 2 else 0) tc a cnt lv kd gd ln st) H := Eq.mp (congrArg (fun z_ => va_P D vwCl (W_A_P cI cS h q_ x_ b a d_ r_ z_ tc a cnt lv kd gd ln st) H) e_7) hP
          have hD : va_D A (W_A_P cI cS h q_ x_ b a d_ r_ (if (0 ≤ f ∧ f < cnt) ∧ (0 ≤ y ∧ y < 3) ∧ ¬ y ≤ kd f then 2 else 0) tc a cnt lv kd gd ln st) := Eq.mp (congrArg (fun z_ => va_D A (W_A_P cI cS h q_ x_ b a d_ r_ z_ tc a cnt lv kd gd ln st)) e_7) hD
          exact W.iret (v := iI 1) hx hb hr (fun t ht hW => ⟨⟨_, (), rfl, congrArg iI (show 1 = (if 0 ≤ f ∧ f < cnt then (if 0 ≤ y ∧ y < 3 then (if y ≤ kd f then 1 else (-12)) else (-2)) else (-1)) from (by omega)), by rw [ht]; exact hP, hD⟩, hS.F ht⟩) hS.2.2 dX6_as_52
      ·
        refine lv_bipush (v := iI (-2)) hx hb dX6_as_27 (by decide +kernel) ?_
        have e_8 : (0 : Int) = (if (0 ≤ f ∧ f < cnt) ∧ (0 ≤ y ∧ y < 3) ∧ ¬ y ≤ kd f then 2 else 0) := (by omega)
        have hP : va_P D vwCl (W_A_P cI cS h q_ x_ b a d_ r_ (if (0 ≤ f ∧ f < cnt) ∧ (0 ≤ y ∧ y < 3) ∧ ¬ y ≤ kd f then 2 else 0) tc a cnt lv kd gd ln st) H := Eq.mp (congrArg (fun z_ => va_P D vwCl (W_A_P cI cS h q_ x_ b a d_ r_ z_ tc a cnt lv kd gd ln st) H) e_8) hP
        have hD : va_D A (W_A_P cI cS h q_ x_ b a d_ r_ (if (0 ≤ f ∧ f < cnt) ∧ (0 ≤ y ∧ y < 3) ∧ ¬ y ≤ kd f then 2 else 0) tc a cnt lv kd gd ln st) := Eq.mp (congrArg (fun z_ => va_D A (W_A_P cI cS h q_ x_ b a d_ r_ z_ tc a cnt lv kd gd ln st)) e_8) hD
        exact W.iret (v := iI (-2)) hx hb hr (fun t ht hW => ⟨⟨_, (), rfl, congrArg iI (show (-2) = (if 0 ≤ f ∧ f < cnt then (if 0 ≤ y ∧ y < 3 then (if y ≤ kd f then 1 else (-12)) else (-2)) else (-1)) from (by omega)), by rw [ht]; exact hP, hD⟩, hS.F ht⟩) hS.2.2 dX6_as_29
  ·
    refine lv_iconst (v := iI (-1)) hx hb dX6_as_16 (by decide +kernel) ?_
    have e_9 : (0 : Int) = (if (0 ≤ f ∧ f < cnt) ∧ (0 ≤ y ∧ y < 3) ∧ ¬ y ≤ kd f then 2 else 0) := (by omega)
    have hP : va_P D vwCl (W_A_P cI cS h q_ x_ b a d_ r_ (if (0 ≤ f ∧ f < cnt) ∧ (0 ≤ y ∧ y < 3) ∧ ¬ y ≤ kd f then 2 else 0) tc a cnt lv kd gd ln st) H := Eq.mp (congrArg (fun z_ => va_P D vwCl (W_A_P cI cS h q_ x_ b a d_ r_ z_ tc a cnt lv kd gd ln st) H) e_9) hP
    have hD : va_D A (W_A_P cI cS h q_ x_ b a d_ r_ (if (0 ≤ f ∧ f < cnt) ∧ (0 ≤ y ∧ y < 3) ∧ ¬ y ≤ kd f then 2 else 0) tc a cnt lv kd gd ln st) := Eq.mp (congrArg (fun z_ => va_D A (W_A_P cI cS h q_ x_ b a d_ r_ z_ tc a cnt lv kd gd ln st)) e_9) hD
    exact W.iret (v := iI (-1)) hx hb hr (fun t ht hW => ⟨⟨_, (), rfl, congrArg iI (show (-1) = (if 0 ≤ f ∧ f < cnt then (if 0 ≤ y ∧ y < 3 then (if y ≤ kd f then 1 else (-12)) else (-2)) else (-1)) from (by omega)), by rw [ht]; exact hP, hD⟩, hS.F ht⟩) hS.2.2 dX6_as_17
set_option maxHeartbeats 4000000 in
set_option maxRecDepth 100000 in
theorem c_X6_trace (l : Launch) (D : va_G) (cI cS : ClassId) (h : Nat → Nat) (q_ : Nat → Nat) (x_ : Nat → Nat) (b : Nat → Nat) (a : Nat → Nat) (d_ : Nat → Nat) (r_ : Nat → Nat) (lf : Int) (tc : Int) (sz : Nat)  : Met l yX6_trace wsX6_trace ({ frames := 0, cells := 0, slots := 0, locals := 0 }) (cP D cI cS (W_A cI cS h q_ x_ b a d_ r_ lf tc) sz [.ref (h 0)]) (va_Qi (fun (r : Int32) (u : Unit) => r = iI tc) (fun (u : Unit) t => cB D (va_A (W_A cI cS h q_ x_ b a d_ r_ lf tc) sz) (W_A cI cS h q_ x_ b a d_ r_ lf tc) t) (va_A (W_A cI cS h q_ x_ b a d_ r_ lf tc) sz)) 0 0 (va_A (W_A cI cS h q_ x_ b a d_ r_ lf tc) sz) := by
  refine Met.ofW (cc := cX6_trace) (maxL := 1) (ret := (some .int)) (by decide) rfl ?_
  intro p e s m args below meth c_ s₁ B hml hv
  obtain ⟨rfl, hsz, hP, hK, hD0⟩ := hv
  have hx := B.exec
  have hb := B.bytes
  have hr := B.returns
  have hts := atoms_spec (ws := wsX6_trace) B.pre
  have hown : s.vm.findClass RX6 = some m.cls := findClass_of_methodNamed B.named
  have hlocks := B.notSynchronized
  subst hsz
  have hD := hD0.self (sz := s.heap.size)
  generalize hAe : va_A (W_A cI cS h q_ x_ b a d_ r_ lf tc) s.heap.size = A at hD ⊢
  have hA : ∀ q : Nat, s.heap.size ≤ q → A q := fun q h => by rw [← hAe]; exact Or.inr h
  have hS : va_S A s.heap s.heap [] := va_S.rf
  have hP : va_P D vwCl (W_A cI cS h q_ x_ b a d_ r_ lf tc) s.heap := hP
  have hl := lv_entry ([.ref (h 0)] : List Value) (n := 1) (Nat.le_of_ble_eq_true rfl)
  rw [lg_entry_eq]
  generalize (lg_sl ([.ref (h 0)] : List Value) ++ List.replicate (1 - (lg_sl ([.ref (h 0)] : List Value)).length) Slot.unset).toArray = ls at hl ⊢
  have hl : lv_has ls 1 [(0, .ref (h 0))] := hl
  have fl_56 := hts (.fieldLink RX6 56 "ActRows" "traced" "I") (by decide +kernel)
  have iw_6 : ∀ w ∈ wsX60, w ∈ wsX6_trace := by decide +kernel
  refine lv_aload_n hx hb dX6_trace_0 rfl (lv_at hl 0 rfl) ?_
  refine va_get (D := D) (ci := 6) (v := .int (iI tc)) (C := RX6) (T := TX6) (N := 8) hx hb hts iw_6 hown hK.1 hP 0 rfl rfl 7 (by decide) fl_56 (fun _ h9 => h9) rfl dX6_trace_1 ?_
  exact W.iret (v := iI tc) hx hb hr (fun t ht hW => ⟨⟨_, (), rfl, rfl, by rw [ht]; exact hP, hD⟩, hS.F ht⟩) hS.2.2 dX6_trace_4
set_option maxHeartbeats 4000000 in
set_option maxRecDepth 100000 in
theorem c_X6_fault (l : Launch) (D : va_G) (cI cS : ClassId) (h : Nat → Nat) (q_ : Nat → Nat) (x_ : Nat → Nat) (b : Nat → Nat) (a : Nat → Nat) (d_ : Nat → Nat) (r_ : Nat → Nat) (lf : Int) (tc : Int) (sz : Nat)  : Met l yX6_fault wsX6_fault ({ frames := 0, cells := 0, slots := 0, locals := 0 }) (cP D cI cS (W_A cI cS h q_ x_ b a d_ r_ lf tc) sz [.ref (h 0)]) (va_Qi (fun (r : Int32) (u : Unit) => r = iI lf) (fun (u : Unit) t => cB D (va_A (W_A cI cS h q_ x_ b a d_ r_ lf tc) sz) (W_A cI cS h q_ x_ b a d_ r_ lf tc) t) (va_A (W_A cI cS h q_ x_ b a d_ r_ lf tc) sz)) 0 0 (va_A (W_A cI cS h q_ x_ b a d_ r_ lf tc) sz) := by
  refine Met.ofW (cc := cX6_fault) (maxL := 1) (ret := (some .int)) (by decide) rfl ?_
  intro p e s m args below meth c_ s₁ B hml hv
  obtain ⟨rfl, hsz, hP, hK, hD0⟩ := hv
  have hx := B.exec
  have hb := B.bytes
  have hr := B.returns
  have hts := atoms_spec (ws := wsX6_fault) B.pre
  have hown : s.vm.findClass RX6 = some m.cls := findClass_of_methodNamed B.named
  have hlocks := B.notSynchronized
  subst hsz
  have hD := hD0.self (sz := s.heap.size)
  generalize hAe : va_A (W_A cI cS h q_ x_ b a d_ r_ lf tc) s.heap.size = A at hD ⊢
  have hA : ∀ q : Nat, s.heap.size ≤ q → A q := fun q h => by rw [← hAe]; exact Or.inr h
  have hS : va_S A s.heap s.heap [] := va_S.rf
  have hP : va_P D vwCl (W_A cI cS h q_ x_ b a d_ r_ lf tc) s.heap := hP
  have hl := lv_entry ([.ref (h 0)] : List Value) (n := 1) (Nat.le_of_ble_eq_true rfl)
  rw [lg_entry_eq]
  generalize (lg_sl ([.ref (h 0)] : List Value) ++ List.replicate (1 - (lg_sl ([.ref (h 0)] : List Value)).length) Slot.unset).toArray = ls at hl ⊢
  have hl : lv_has ls 1 [(0, .ref (h 0))] := hl
  have fl_52 := hts (.fieldLink RX6 52 "ActRows" "lastFault" "I") (by decide +kernel)
  have iw_6 : ∀ w ∈ wsX60, w ∈ wsX6_fault := by decide +kernel
  refine lv_aload_n hx hb dX6_fault_0 rfl (lv_at hl 0 rfl) ?_
  refine va_get (D := D) (ci := 6) (v := .int (iI lf)) (C := RX6) (T := TX6) (N := 8) hx hb hts iw_6 hown hK.1 hP 0 rfl rfl 6 (by decide) fl_52 (fun _ h9 => h9) rfl dX6_fault_1 ?_
  exact W.iret (v := iI lf) hx hb hr (fun t ht hW => ⟨⟨_, (), rfl, rfl, by rw [ht]; exact hP, hD⟩, hS.F ht⟩) hS.2.2 dX6_fault_4
set_option maxHeartbeats 4000000 in
set_option maxRecDepth 100000 in
theorem c_X6_step (l : Launch) (D : va_G) (cI cS : ClassId) (h : Nat → Nat) (q_ : Nat → Nat) (x_ : Nat → Nat) (b : Nat → Nat) (a : Nat → Nat) (d_ : Nat → Nat) (r_ : Nat → Nat) (lf : Int) (tc : Int) (cnt : Int) (lv : Int) (kd : Int → Int) (gd : Int → Int) (ln : Int → Int) (st : Int → Int) (sz : Nat) (f : Int) (i : Int) (hok : okP cnt ln st) (hfr : -2147483648 ≤ f ∧ f < 2147483648) (hi : -2147483648 ≤ i ∧ i < 2147483648) : Met l yX6_step wsX6_step ({ frames := 3, cells := 0, slots := 0, locals := 65 }) (cP D cI cS (W_A_P cI cS h q_ x_ b a d_ r_ lf tc a cnt lv kd gd ln st) sz [.ref (h 0), .int (iI f), .int (iI i)]) (va_Qi (fun (r : Int32) (u : Unit) => r = iI (if 0 ≤ f ∧ f < cnt ∧ 0 ≤ i ∧ i < ln f then st (f * 4 + i) else (-1))) (fun (u : Unit) t => cB D (va_A (W_A_P cI cS h q_ x_ b a d_ r_ lf tc a cnt lv kd gd ln st) sz) (W_A_P cI cS h q_ x_ b a d_ r_ lf tc a cnt lv kd gd ln st) t) (va_A (W_A_P cI cS h q_ x_ b a d_ r_ lf tc a cnt lv kd gd ln st) sz)) 0 0 (va_A (W_A_P cI cS h q_ x_ b a d_ r_ lf tc a cnt lv kd gd ln st) sz) := by
  refine Met.ofW (cc := cX6_step) (maxL := 3) (ret := (some .int)) (by decide) rfl ?_
  intro p e s m args below meth c_ s₁ B hml hv
  obtain ⟨rfl, hsz, hP, hK, hD0⟩ := hv
  have hx := B.exec
  have hb := B.bytes
  have hr := B.returns
  have hts := atoms_spec (ws := wsX6_step) B.pre
  have hown : s.vm.findClass RX6 = some m.cls := findClass_of_methodNamed B.named
  have hlocks := B.notSynchronized
  subst hsz
  have hD := hD0.self (sz := s.heap.size)
  generalize hAe : va_A (W_A_P cI cS h q_ x_ b a d_ r_ lf tc a cnt lv kd gd ln st) s.heap.size = A at hD ⊢
  have hA : ∀ q : Nat, s.heap.size ≤ q → A q := fun q h => by rw [← hAe]; exact Or.inr h
  have hS : va_S A s.heap s.heap [] := va_S.rf
  have hP : va_P D vwCl (W_A_P cI cS h q_ x_ b a d_ r_ lf tc a cnt lv kd gd ln st) s.heap := hP
  have hl := lv_entry ([.ref (h 0), .int (iI f), .int (iI i)] : List Value) (n := 3) (Nat.le_of_ble_eq_true rfl)
  rw [lg_entry_eq]
  generalize (lg_sl ([.ref (h 0), .int (iI f), .int (iI i)] : List Value) ++ List.replicate (3 - (lg_sl ([.ref (h 0), .int (iI f), .int (iI i)] : List Value)).length) Slot.unset).toArray = ls at hl ⊢
  have hl : lv_has ls 3 [(0, .ref (h 0)), (1, .int (iI f)), (2, .int (iI i))] := hl
  have fl_35 := hts (.fieldLink RX6 35 "ActRows" "told" "LActRows$Program;") (by decide +kernel)
  have iw_6 : ∀ w ∈ wsX60, w ∈ wsX6_step := by decide +kernel
  have hc := hok.1
  have hln := hok.2.1
  refine lv_aload_n hx hb dX6_step_0 rfl (lv_at hl 0 rfl) ?_
  refine va_get (D := D) (ci := 6) (v := .ref (a 0)) (C := RX6) (T := TX6) (N := 8) hx hb hts iw_6 hown hK.1 hP 0 rfl rfl 3 (by decide) fl_35 (fun _ h9 => h9) rfl dX6_step_1 ?_
  refine lv_iload_n hx hb dX6_step_4 rfl (lv_at hl 1 rfl) ?_
  refine lv_iload_n hx hb dX6_step_5 rfl (lv_at hl 2 rfl) ?_
  refine x_callVi (As := [.int (iI f), .int (iI i)]) (rest := []) ⟨hx, hb, hml, hown, hts⟩ (c_X1_hasStep l D cI cS a cnt lv kd gd ln st s.heap.size f i (by first | assumption | omega) (by first | assumption | omega) (by first | assumption | omega) (by first | assumption | omega)) (cwV 2 hts gX6_step_X1_hasStep rfl rfl rfl (by decide +kernel) ⟨Nat.le_of_ble_eq_true rfl, Nat.le_of_ble_eq_true rfl⟩) hK hP hD hS hA [1, 2, 3, 4, 5] [0] (wr := [(h 0, .inr (6, [.ref (q_ 0), .ref (x_ 0), .ref (b 0), .ref (a 0), .ref (d_ 0), .ref (r_ 0), .int (iI lf), .int (iI tc)]))]) rfl rfl (by decide) (by decide) (by decide) 0 1 rfl rfl rfl [0, 1, 2, 3, 4, 5] (fun (u : Unit) => (W_A_P cI cS h q_ x_ b a d_ r_ lf tc a cnt lv kd gd ln st)) (fun _ => rfl) (by decide) rfl hl.1 rfl (Nat.le_of_ble_eq_true rfl) ⟨Nat.zero_le _, Nat.zero_le _⟩ dX6_step_6 (fun r_ u_ H locs hw hP hD hS => ?_)
  try dsimp only at hw
  subst hw
  have hP : va_P D vwCl (W_A_P cI cS h q_ x_ b a d_ r_ lf tc a cnt lv kd gd ln st) H := hP
  have hD : va_D A (W_A_P cI cS h q_ x_ b a d_ r_ lf tc a cnt lv kd gd ln st) := hD
  refine n_if_b1 (tgt := 24) hx hb dX6_step_9 (by decide)  (fun c_1 => ?_) (fun c_1 => ?_)
  ·
    refine lv_iconst (v := iI (-1)) hx hb dX6_step_24 (by decide +kernel) ?_
    exact W.iret (v := iI (-1)) hx hb hr (fun t ht hW => ⟨⟨_, (), rfl, congrArg iI (show (-1) = (if 0 ≤ f ∧ f < cnt ∧ 0 ≤ i ∧ i < ln f then st (f * 4 + i) else (-1)) from (by omega)), by rw [ht]; exact hP, hD⟩, hS.F ht⟩) hS.2.2 dX6_step_25
  ·
    refine lv_aload_n hx hb dX6_step_12 rfl (lv_at hl 0 rfl) ?_
    refine va_get (D := D) (ci := 6) (v := .ref (a 0)) (C := RX6) (T := TX6) (N := 8) hx hb hts iw_6 hown hK.1 hP 0 rfl rfl 3 (by decide) fl_35 (fun _ h9 => h9) rfl dX6_step_13 ?_
    refine lv_iload_n hx hb dX6_step_16 rfl (lv_at hl 1 rfl) ?_
    refine lv_iload_n hx hb dX6_step_17 rfl (lv_at hl 2 rfl) ?_
    refine x_callVi (As := [.int (iI f), .int (iI i)]) (rest := []) ⟨hx, hb, hml, hown, hts⟩ (c_X1_stepAt l D cI cS a cnt lv kd gd ln st H.size f i (by first | assumption | omega) (by first | assumption | omega) (by first | assumption | omega) (by first | assumption | omega)) (cwV 2 hts gX6_step_X1_stepAt rfl rfl rfl (by decide +kernel) ⟨Nat.le_of_ble_eq_true rfl, Nat.le_of_ble_eq_true rfl⟩) hK hP hD hS hA [1, 2, 3, 4, 5] [0] (wr := [(h 0, .inr (6, [.ref (q_ 0), .ref (x_ 0), .ref (b 0), .ref (a 0), .ref (d_ 0), .ref (r_ 0), .int (iI lf), .int (iI tc)]))]) rfl rfl (by decide) (by decide) (by decide) 0 1 rfl rfl rfl [0, 1, 2, 3, 4, 5] (fun (u : Unit) => (W_A_P cI cS h q_ x_ b a d_ r_ lf tc a cnt lv kd gd ln st)) (fun _ => rfl) (by decide) rfl hl.1 rfl (Nat.le_of_ble_eq_true rfl) ⟨Nat.zero_le _, Nat.zero_le _⟩ dX6_step_18 (fun r_ u_ H locs hw hP hD hS => ?_)
    try dsimp only at hw
    subst hw
    have hP : va_P D vwCl (W_A_P cI cS h q_ x_ b a d_ r_ lf tc a cnt lv kd gd ln st) H := hP
    have hD : va_D A (W_A_P cI cS h q_ x_ b a d_ r_ lf tc a cnt lv kd gd ln st) := hD
    refine lv_goto (tgt := 25) hx hb dX6_step_21 (by decide) ?_
    exact W.iret (v := iI (if 0 ≤ f ∧ f < cnt ∧ 0 ≤ i ∧ i < ln f then st (f * 4 + i) else (-1))) hx hb hr (fun t ht hW => ⟨⟨_, (), rfl, rfl, by rw [ht]; exact hP, hD⟩, hS.F ht⟩) hS.2.2 dX6_step_25
set_option maxHeartbeats 4000000 in
set_option maxRecDepth 100000 in
theorem c_X6_patch (l : Launch) (D : va_G) (cI cS : ClassId) (h : Nat → Nat) (q_ : Nat → Nat) (x_ : Nat → Nat) (b : Nat → Nat) (a : Nat → Nat) (d_ : Nat → Nat) (r_ : Nat → Nat) (lf : Int) (tc : Int) (cnt : Int) (lv : Int) (kd : Int → Int) (gd : Int → Int) (ln : Int → Int) (st : Int → Int) (sz : Nat) (f : Int) (i : Int) (v : Int) (hok : okP cnt ln st) (hfr : -2147483648 ≤ f ∧ f < 2147483648) (hi : -2147483648 ≤ i ∧ i < 2147483648) (hv : -2147483648 ≤ v ∧ v < 2147483648) : Met l yX6_patch wsX6_patch ({ frames := 3, cells := 0, slots := 0, locals := 66 }) (cP D cI cS (W_A_P cI cS h q_ x_ b a d_ r_ lf tc a cnt lv kd gd ln st) sz [.ref (h 0), .int (iI f), .int (iI i), .int (iI v)]) (va_Qi (fun (r : Int32) (u : Unit) => r = iI (if 0 ≤ f ∧ f < cnt ∧ 0 ≤ i ∧ i < ln f then (if 0 ≤ v ∧ v < 4 + f then st (f * 4 + i) else (-2)) else (-1))) (fun (u : Unit) t => cB D (va_A (W_A_P cI cS h q_ x_ b a d_ r_ lf tc a cnt lv kd gd ln st) sz) (W_A_P cI cS h q_ x_ b a d_ r_ lf tc a cnt lv kd gd ln (if (0 ≤ f ∧ f < cnt ∧ 0 ≤ i ∧ i < ln f) ∧ 0 ≤ v ∧ v < 4 + f then updI st (f * 4 + i) v else st)) t) (va_A (W_A_P cI cS h q_ x_ b a d_ r_ lf tc a cnt lv kd gd ln st) sz)) 0 0 (va_A (W_A_P cI cS h q_ x_ b a d_ r_ lf tc a cnt lv kd gd ln st) sz) := by
  refine Met.ofW (cc := cX6_patch) (maxL := 5) (ret := (some .int)) (by decide) rfl ?_
  intro p e s m args below meth c_ s₁ B hml hv
  obtain ⟨rfl, hsz, hP, hK, hD0⟩ := hv
  have hx := B.exec
  have hb := B.bytes
  have hr := B.returns
  have hts := atoms_spec (ws := wsX6_patch) B.pre
  have hown : s.vm.findClass RX6 = some m.cls := findClass_of_methodNamed B.named
  have hlocks := B.notSynchronized
  subst hsz
  have hD := hD0.self (sz := s.heap.size)
  generalize hAe : va_A (W_A_P cI cS h q_ x_ b a d_ r_ lf tc a cnt lv kd gd ln st) s.heap.size = A at hD ⊢
  have hA : ∀ q : Nat, s.heap.size ≤ q → A q := fun q h => by rw [← hAe]; exact Or.inr h
  have hS : va_S A s.heap s.heap [] := va_S.rf
  have hP : va_P D vwCl (W_A_P cI cS h q_ x_ b a d_ r_ lf tc a cnt lv kd gd ln st) s.heap := hP
  have hl := lv_entry ([.ref (h 0), .int (iI f), .int (iI i), .int (iI v)] : List Value) (n := 5) (Nat.le_of_ble_eq_true rfl)
  rw [lg_entry_eq]
  generalize (lg_sl ([.ref (h 0), .int (iI f), .int (iI i), .int (iI v)] : List Value) ++ List.replicate (5 - (lg_sl ([.ref (h 0), .int (iI f), .int (iI i), .int (iI v)] : List Value)).length) Slot.unset).toArray = ls at hl ⊢
  have hl : lv_has ls 5 [(0, .ref (h 0)), (1, .int (iI f)), (2, .int (iI i)), (3, .int (iI v))] := hl
  have fl_35 := hts (.fieldLink RX6 35 "ActRows" "told" "LActRows$Program;") (by decide +kernel)
  have iw_6 : ∀ w ∈ wsX60, w ∈ wsX6_patch := by decide +kernel
  have hc := hok.1
  have hln := hok.2.1
  refine lv_aload_n hx hb dX6_patch_0 rfl (lv_at hl 0 rfl) ?_
  refine va_get (D := D) (ci := 6) (v := .ref (a 0)) (C := RX6) (T := TX6) (N := 8) hx hb hts iw_6 hown hK.1 hP 0 rfl rfl 3 (by decide) fl_35 (fun _ h9 => h9) rfl dX6_patch_1 ?_
  refine lv_iload_n hx hb dX6_patch_4 rfl (lv_at hl 1 rfl) ?_
  refine lv_iload_n hx hb dX6_patch_5 rfl (lv_at hl 2 rfl) ?_
  refine x_callVi (As := [.int (iI f), .int (iI i)]) (rest := []) ⟨hx, hb, hml, hown, hts⟩ (c_X1_hasStep l D cI cS a cnt lv kd gd ln st s.heap.size f i (by first | assumption | omega) (by first | assumption | omega) (by first | assumption | omega) (by first | assumption | omega)) (cwV 2 hts gX6_patch_X1_hasStep rfl rfl rfl (by decide +kernel) ⟨Nat.le_of_ble_eq_true rfl, Nat.le_of_ble_eq_true rfl⟩) hK hP hD hS hA [1, 2, 3, 4, 5] [0] (wr := [(h 0, .inr (6, [.ref (q_ 0), .ref (x_ 0), .ref (b 0), .ref (a 0), .ref (d_ 0), .ref (r_ 0), .int (iI lf), .int (iI tc)]))]) rfl rfl (by decide) (by decide) (by decide) 0 1 rfl rfl rfl [0, 1, 2, 3, 4, 5] (fun (u : Unit) => (W_A_P cI cS h q_ x_ b a d_ r_ lf tc a cnt lv kd gd ln st)) (fun _ => rfl) (by decide) rfl hl.1 rfl (Nat.le_of_ble_eq_true rfl) ⟨Nat.zero_le _, Nat.zero_le _⟩ dX6_patch_6 (fun r_ u_ H locs hw hP hD hS => ?_)
  try dsimp only at hw
  subst hw
  have hP : va_P D vwCl (W_A_P cI cS h q_ x_ b a d_ r_ lf tc a cnt lv kd gd ln st) H := hP
  have hD : va_D A (W_A_P cI cS h q_ x_ b a d_ r_ lf tc a cnt lv kd gd ln st) := hD
  refine n_if_b2 (tgt := 14) hx hb dX6_patch_9 (by decide)  (fun c_1 => ?_) (fun c_1 => ?_)
  ·
    refine lv_iload_n hx hb dX6_patch_14 rfl (lv_at hl 3 rfl) ?_
    refine n_if_lt (tgt := 25) hx hb dX6_patch_15 (by decide) (by omega) (fun c_2 => ?_) (fun c_2 => ?_)
    ·
      refine lv_bipush (v := iI (-2)) hx hb dX6_patch_25 (by decide +kernel) ?_
      have e_3 : (st : Int → Int) = (if (0 ≤ f ∧ f < cnt ∧ 0 ≤ i ∧ i < ln f) ∧ 0 ≤ v ∧ v < 4 + f then updI st (f * 4 + i) v else st) := (by first | (rw [if_pos (by omega), if_pos (by omega)]; done) | (rw [if_neg (by omega)]; done))
      have hP : va_P D vwCl (W_A_P cI cS h q_ x_ b a d_ r_ lf tc a cnt lv kd gd ln (if (0 ≤ f ∧ f < cnt ∧ 0 ≤ i ∧ i < ln f) ∧ 0 ≤ v ∧ v < 4 + f then updI st (f * 4 + i) v else st)) H := Eq.mp (congrArg (fun z_ => va_P D vwCl (W_A_P cI cS h q_ x_ b a d_ r_ lf tc a cnt lv kd gd ln z_) H) e_3) hP
      have hD : va_D A (W_A_P cI cS h q_ x_ b a d_ r_ lf tc a cnt lv kd gd ln (if (0 ≤ f ∧ f < cnt ∧ 0 ≤ i ∧ i < ln f) ∧ 0 ≤ v ∧ v < 4 + f then updI st (f * 4 + i) v else st)) := Eq.mp (congrArg (fun z_ => va_D A (W_A_P cI cS h q_ x_ b a d_ r_ lf tc a cnt lv kd gd ln z_)) e_3) hD
      exact W.iret (v := iI (-2)) hx hb hr (fun t ht hW => ⟨⟨_, (), rfl, congrArg iI (show (-2) = (if 0 ≤ f ∧ f < cnt ∧ 0 ≤ i ∧ i < ln f then (if 0 ≤ v ∧ v < 4 + f then st (f * 4 + i) else (-2)) else (-1)) from (by omega)), by rw [ht]; exact hP, hD⟩, hS.F ht⟩) hS.2.2 dX6_patch_27
    ·
      refine lv_iload_n hx hb dX6_patch_18 rfl (lv_at hl 3 rfl) ?_
      refine lv_iconst (v := iI 4) hx hb dX6_patch_19 (by decide +kernel) ?_
      refine lv_iload_n hx hb dX6_patch_20 rfl (lv_at hl 1 rfl) ?_
      refine n_iadd hx hb dX6_patch_21 ?_
      refine n_icmp_lt (tgt := 28) hx hb dX6_patch_22 (by decide) (by omega) (fun c_4 => ?_) (fun c_4 => ?_)
      ·
        refine lv_aload_n hx hb dX6_patch_28 rfl (lv_at hl 0 rfl) ?_
        refine va_get (D := D) (ci := 6) (v := .ref (a 0)) (C := RX6) (T := TX6) (N := 8) hx hb hts iw_6 hown hK.1 hP 0 rfl rfl 3 (by decide) fl_35 (fun _ h9 => h9) rfl dX6_patch_29 ?_
        refine lv_iload_n hx hb dX6_patch_32 rfl (lv_at hl 1 rfl) ?_
        refine lv_iload_n hx hb dX6_patch_33 rfl (lv_at hl 2 rfl) ?_
        refine x_callVi (As := [.int (iI f), .int (iI i)]) (rest := []) ⟨hx, hb, hml, hown, hts⟩ (c_X1_stepAt l D cI cS a cnt lv kd gd ln st H.size f i (by first | assumption | omega) (by first | assumption | omega) (by first | assumption | omega) (by first | assumption | omega)) (cwV 2 hts gX6_patch_X1_stepAt rfl rfl rfl (by decide +kernel) ⟨Nat.le_of_ble_eq_true rfl, Nat.le_of_ble_eq_true rfl⟩) hK hP hD hS hA [1, 2, 3, 4, 5] [0] (wr := [(h 0, .inr (6, [.ref (q_ 0), .ref (x_ 0), .ref (b 0), .ref (a 0), .ref (d_ 0), .ref (r_ 0), .int (iI lf), .int (iI tc)]))]) rfl rfl (by decide) (by decide) (by decide) 0 1 rfl rfl rfl [0, 1, 2, 3, 4, 5] (fun (u : Unit) => (W_A_P cI cS h q_ x_ b a d_ r_ lf tc a cnt lv kd gd ln st)) (fun _ => rfl) (by decide) rfl hl.1 rfl (Nat.le_of_ble_eq_true rfl) ⟨Nat.zero_le _, Nat.zero_le _⟩ dX6_patch_34 (fun r_ u_ H locs hw hP hD hS => ?_)
        try dsimp only at hw
        subst hw
        have hP : va_P D vwCl (W_A_P cI cS h q_ x_ b a d_ r_ lf tc a cnt lv kd gd ln st) H := hP
        have hD : va_D A (W_A_P cI cS h q_ x_ b a d_ r_ lf tc a cnt lv kd gd ln st) := hD
        refine lv_istore (lv' := [(4, .int (iI (if 0 ≤ f ∧ f < cnt ∧ 0 ≤ i ∧ i < ln f then st (f * 4 + i) else (-1)))), (0, .ref (h 0)), (1, .int (iI f)), (2, .int (iI i)), (3, .int (iI v))]) hx hb dX6_patch_37 hl (by decide) rfl (fun ls hl => ?_)
        refine lv_aload_n hx hb dX6_patch_39 rfl (lv_at hl 1 rfl) ?_
        refine va_get (D := D) (ci := 6) (v := .ref (a 0)) (C := RX6) (T := TX6) (N := 8) hx hb hts iw_6 hown hK.1 hP 0 rfl rfl 3 (by decide) fl_35 (fun _ h9 => h9) rfl dX6_patch_40 ?_
        refine lv_iload_n hx hb dX6_patch_43 rfl (lv_at hl 2 rfl) ?_
        refine lv_iload_n hx hb dX6_patch_44 rfl (lv_at hl 3 rfl) ?_
        refine lv_iload_n hx hb dX6_patch_45 rfl (lv_at hl 4 rfl) ?_
        refine x_callVv (As := [.int (iI f), .int (iI i), .int (iI v)]) (rest := []) ⟨hx, hb, hml, hown, hts⟩ (c_X1_setStep l D cI cS a cnt lv kd gd ln st H.size f i v (by first | assumption | omega) (by first | assumption | omega) (by first | assumption | omega) (by first | assumption | omega)) (cwV 3 hts gX6_patch_X1_setStep rfl rfl rfl (by decide +kernel) ⟨Nat.le_of_ble_eq_true rfl, Nat.le_of_ble_eq_true rfl⟩) hK hP hD hS hA [1, 2, 3, 4, 5] [0] (wr := [(h 0, .inr (6, [.ref (q_ 0), .ref (x_ 0), .ref (b 0), .ref (a 0), .ref (d_ 0), .ref (r_ 0), .int (iI lf), .int (iI tc)]))]) rfl rfl (by decide) (by decide) (by decide) 0 1 rfl rfl rfl [0, 1, 2, 3, 4, 5] (fun (u : Unit) => (W_A_P cI cS h q_ x_ b a d_ r_ lf tc a cnt lv kd gd ln (if 0 ≤ f ∧ f < cnt ∧ 0 ≤ i ∧ i < ln f then updI st (f * 4 + i) v else st))) (fun _ => rfl) (by decide) rfl hl.1 rfl (Nat.le_of_ble_eq_true rfl) ⟨Nat.zero_le _, Nat.zero_le _⟩ dX6_patch_46 (fun u_ H locs hw hP hD hS => ?_)
        try dsimp only at hw
        have hP : va_P D vwCl (W_A_P cI cS h q_ x_ b a d_ r_ lf tc a cnt lv kd gd ln (if 0 ≤ f ∧ f < cnt ∧ 0 ≤ i ∧ i < ln f then updI st (f * 4 + i) v else st)) H := hP
        have hD : va_D A (W_A_P cI cS h q_ x_ b a d_ r_ lf tc a cnt lv kd gd ln (if 0 ≤ f ∧ f < cnt ∧ 0 ≤ i ∧ i < ln f then updI st (f * 4 + i) v else st)) := hD
        refine lv_iload hx hb dX6_patch_49 (lv_at hl 0 rfl) ?_
        have e_5 : ((if 0 ≤ f ∧ f < cnt ∧ 0 ≤ i ∧ i < ln f then updI st (f * 4 + i) v else st) : Int → Int) = (if (0 ≤ f ∧ f < cnt ∧ 0 ≤ i ∧ i < ln f) ∧ 0 ≤ v ∧ v < 4 + f then updI st (f * 4 + i) v else st) := (by first | (rw [if_pos (by omega), if_pos (by omega)]; done) | (rw [if_neg (by omega)]; done))
        have hP : va_P D vwCl (W_A_P cI cS h q_ x_ b a d_ r_ lf tc a cnt lv kd gd ln (if (0 ≤ f ∧ f < cnt ∧ 0 ≤ i ∧ i < ln f) ∧ 0 ≤ v ∧ v < 4 + f then updI st (f * 4 + i) v else st)) H := Eq.mp (congrArg (fun z_ => va_P D vwCl (W_A_P cI cS h q_ x_ b a d_ r_ lf tc a cnt lv kd gd ln z_) H) e_5) hP
        have hD : va_D A (W_A_P cI cS h q_ x_ b a d_ r_ lf tc a cnt lv kd gd ln (if (0 ≤ f ∧ f < cnt ∧ 0 ≤ i ∧ i < ln f) ∧ 0 ≤ v ∧ v < 4 + f then updI st (f * 4 + i) v else st)) := Eq.mp (congrArg (fun z_ => va_D A (W_A_P cI cS h q_ x_ b a d_ r_ lf tc a cnt lv kd gd ln z_)) e_5) hD
        exact W.iret (v := iI (if 0 ≤ f ∧ f < cnt ∧ 0 ≤ i ∧ i < ln f then st (f * 4 + i) else (-1))) hx hb hr (fun t ht hW => ⟨⟨_, (), rfl, congrArg iI (show (if 0 ≤ f ∧ f < cnt ∧ 0 ≤ i ∧ i < ln f then st (f * 4 + i) else (-1)) = (if 0 ≤ f ∧ f < cnt ∧ 0 ≤ i ∧ i < ln f then (if 0 ≤ v ∧ v < 4 + f then st (f * 4 + i) else (-2)) else (-1)) from (by omega)), by rw [ht]; exact hP, hD⟩, hS.F ht⟩) hS.2.2 dX6_patch_51
      ·
        refine lv_bipush (v := iI (-2)) hx hb dX6_patch_25 (by decide +kernel) ?_
        have e_6 : (st : Int → Int) = (if (0 ≤ f ∧ f < cnt ∧ 0 ≤ i ∧ i < ln f) ∧ 0 ≤ v ∧ v < 4 + f then updI st (f * 4 + i) v else st) := (by first | (rw [if_pos (by omega), if_pos (by omega)]; done) | (rw [if_neg (by omega)]; done))
        have hP : va_P D vwCl (W_A_P cI cS h q_ x_ b a d_ r_ lf tc a cnt lv kd gd ln (if (0 ≤ f ∧ f < cnt ∧ 0 ≤ i ∧ i < ln f) ∧ 0 ≤ v ∧ v < 4 + f then updI st (f * 4 + i) v else st)) H := Eq.mp (congrArg (fun z_ => va_P D vwCl (W_A_P cI cS h q_ x_ b a d_ r_ lf tc a cnt lv kd gd ln z_) H) e_6) hP
        have hD : va_D A (W_A_P cI cS h q_ x_ b a d_ r_ lf tc a cnt lv kd gd ln (if (0 ≤ f ∧ f < cnt ∧ 0 ≤ i ∧ i < ln f) ∧ 0 ≤ v ∧ v < 4 + f then updI st (f * 4 + i) v else st)) := Eq.mp (congrArg (fun z_ => va_D A (W_A_P cI cS h q_ x_ b a d_ r_ lf tc a cnt lv kd gd ln z_)) e_6) hD
        exact W.iret (v := iI (-2)) hx hb hr (fun t ht hW => ⟨⟨_, (), rfl, congrArg iI (show (-2) = (if 0 ≤ f ∧ f < cnt ∧ 0 ≤ i ∧ i < ln f then (if 0 ≤ v ∧ v < 4 + f then st (f * 4 + i) else (-2)) else (-1)) from (by omega)), by rw [ht]; exact hP, hD⟩, hS.F ht⟩) hS.2.2 dX6_patch_27
  ·
    refine lv_iconst (v := iI (-1)) hx hb dX6_patch_12 (by decide +kernel) ?_
    have e_7 : (st : Int → Int) = (if (0 ≤ f ∧ f < cnt ∧ 0 ≤ i ∧ i < ln f) ∧ 0 ≤ v ∧ v < 4 + f then updI st (f * 4 + i) v else st) := (by first | (rw [if_pos (by omega), if_pos (by omega)]; done) | (rw [if_neg (by omega)]; done))
    have hP : va_P D vwCl (W_A_P cI cS h q_ x_ b a d_ r_ lf tc a cnt lv kd gd ln (if (0 ≤ f ∧ f < cnt ∧ 0 ≤ i ∧ i < ln f) ∧ 0 ≤ v ∧ v < 4 + f then updI st (f * 4 + i) v else st)) H := Eq.mp (congrArg (fun z_ => va_P D vwCl (W_A_P cI cS h q_ x_ b a d_ r_ lf tc a cnt lv kd gd ln z_) H) e_7) hP
    have hD : va_D A (W_A_P cI cS h q_ x_ b a d_ r_ lf tc a cnt lv kd gd ln (if (0 ≤ f ∧ f < cnt ∧ 0 ≤ i ∧ i < ln f) ∧ 0 ≤ v ∧ v < 4 + f then updI st (f * 4 + i) v else st)) := Eq.mp (congrArg (fun z_ => va_D A (W_A_P cI cS h q_ x_ b a d_ r_ lf tc a cnt lv kd gd ln z_)) e_7) hD
    exact W.iret (v := iI (-1)) hx hb hr (fun t ht hW => ⟨⟨_, (), rfl, congrArg iI (show (-1) = (if 0 ≤ f ∧ f < cnt ∧ 0 ≤ i ∧ i < ln f then (if 0 ≤ v ∧ v < 4 + f then st (f * 4 + i) else (-2)) else (-1)) from (by omega)), by rw [ht]; exact hP, hD⟩, hS.F ht⟩) hS.2.2 dX6_patch_13
set_option maxHeartbeats 4000000 in
set_option maxRecDepth 100000 in
theorem c_X6_guard (l : Launch) (D : va_G) (cI cS : ClassId) (h : Nat → Nat) (q_ : Nat → Nat) (x_ : Nat → Nat) (b : Nat → Nat) (a : Nat → Nat) (d_ : Nat → Nat) (r_ : Nat → Nat) (lf : Int) (tc : Int) (cnt : Int) (lv : Int) (kd : Int → Int) (gd : Int → Int) (ln : Int → Int) (st : Int → Int) (sz : Nat) (f : Int) (x : Int) (hok : okP cnt ln st) (hfr : -2147483648 ≤ f ∧ f < 2147483648) (hxr : -2147483648 ≤ x ∧ x < 2147483648) : Met l yX6_guard wsX6_guard ({ frames := 1, cells := 0, slots := 0, locals := 21 }) (cP D cI cS (W_A_P cI cS h q_ x_ b a d_ r_ lf tc a cnt lv kd gd ln st) sz [.ref (h 0), .int (iI f), .int (iI x)]) (va_Qi (fun (r : Int32) (u : Unit) => r = iI (if 0 ≤ f ∧ f < cnt then (if 0 ≤ x ∧ x < 4 then gd f else (-2)) else (-1))) (fun (u : Unit) t => cB D (va_A (W_A_P cI cS h q_ x_ b a d_ r_ lf tc a cnt lv kd gd ln st) sz) (W_A_P cI cS h q_ x_ b a d_ r_ lf tc a cnt lv kd (if (0 ≤ f ∧ f < cnt) ∧ 0 ≤ x ∧ x < 4 then updI gd f x else gd) ln st) t) (va_A (W_A_P cI cS h q_ x_ b a d_ r_ lf tc a cnt lv kd gd ln st) sz)) 0 0 (va_A (W_A_P cI cS h q_ x_ b a d_ r_ lf tc a cnt lv kd gd ln st) sz) := by
  refine Met.ofW (cc := cX6_guard) (maxL := 4) (ret := (some .int)) (by decide) rfl ?_
  intro p e s m args below meth c_ s₁ B hml hv
  obtain ⟨rfl, hsz, hP, hK, hD0⟩ := hv
  have hx := B.exec
  have hb := B.bytes
  have hr := B.returns
  have hts := atoms_spec (ws := wsX6_guard) B.pre
  have hown : s.vm.findClass RX6 = some m.cls := findClass_of_methodNamed B.named
  have hlocks := B.notSynchronized
  subst hsz
  have hD := hD0.self (sz := s.heap.size)
  generalize hAe : va_A (W_A_P cI cS h q_ x_ b a d_ r_ lf tc a cnt lv kd gd ln st) s.heap.size = A at hD ⊢
  have hA : ∀ q : Nat, s.heap.size ≤ q → A q := fun q h => by rw [← hAe]; exact Or.inr h
  have hS : va_S A s.heap s.heap [] := va_S.rf
  have hP : va_P D vwCl (W_A_P cI cS h q_ x_ b a d_ r_ lf tc a cnt lv kd gd ln st) s.heap := hP
  have hl := lv_entry ([.ref (h 0), .int (iI f), .int (iI x)] : List Value) (n := 4) (Nat.le_of_ble_eq_true rfl)
  rw [lg_entry_eq]
  generalize (lg_sl ([.ref (h 0), .int (iI f), .int (iI x)] : List Value) ++ List.replicate (4 - (lg_sl ([.ref (h 0), .int (iI f), .int (iI x)] : List Value)).length) Slot.unset).toArray = ls at hl ⊢
  have hl : lv_has ls 4 [(0, .ref (h 0)), (1, .int (iI f)), (2, .int (iI x))] := hl
  have fl_35 := hts (.fieldLink RX6 35 "ActRows" "told" "LActRows$Program;") (by decide +kernel)
  have iw_6 : ∀ w ∈ wsX60, w ∈ wsX6_guard := by decide +kernel
  have fn_103 := va_Nw.use (A := ([.ref (h 0), .int (iI f), .int (iI x)] : List Value).toArray) rfl (hK.2 ("ActRows", 103, "ActRows$Program", "guarded", "[I") (List.mem_of_getElem? (i := 0) rfl))
  have iw_1 : ∀ w ∈ wsX10, w ∈ wsX6_guard := by decide +kernel
  have hc := hok.1
  have hln := hok.2.1
  refine lv_aload_n hx hb dX6_guard_0 rfl (lv_at hl 0 rfl) ?_
  refine va_get (D := D) (ci := 6) (v := .ref (a 0)) (C := RX6) (T := TX6) (N := 8) hx hb hts iw_6 hown hK.1 hP 0 rfl rfl 3 (by decide) fl_35 (fun _ h9 => h9) rfl dX6_guard_1 ?_
  refine lv_iload_n hx hb dX6_guard_4 rfl (lv_at hl 1 rfl) ?_
  refine x_callVi (As := [.int (iI f)]) (rest := []) ⟨hx, hb, hml, hown, hts⟩ (c_X1_has l D cI cS a cnt lv kd gd ln st s.heap.size f (by first | assumption | omega) (by first | assumption | omega)) (cwV 1 hts gX6_guard_X1_has rfl rfl rfl (by decide +kernel) ⟨Nat.le_of_ble_eq_true rfl, Nat.le_of_ble_eq_true rfl⟩) hK hP hD hS hA [1, 2, 3, 4, 5] [0] (wr := [(h 0, .inr (6, [.ref (q_ 0), .ref (x_ 0), .ref (b 0), .ref (a 0), .ref (d_ 0), .ref (r_ 0), .int (iI lf), .int (iI tc)]))]) rfl rfl (by decide) (by decide) (by decide) 0 1 rfl rfl rfl [0, 1, 2, 3, 4, 5] (fun (u : Unit) => (W_A_P cI cS h q_ x_ b a d_ r_ lf tc a cnt lv kd gd ln st)) (fun _ => rfl) (by decide) rfl hl.1 rfl (Nat.le_of_ble_eq_true rfl) ⟨Nat.zero_le _, Nat.zero_le _⟩ dX6_guard_5 (fun r_ u_ H locs hw hP hD hS => ?_)
  try dsimp only at hw
  subst hw
  have hP : va_P D vwCl (W_A_P cI cS h q_ x_ b a d_ r_ lf tc a cnt lv kd gd ln st) H := hP
  have hD : va_D A (W_A_P cI cS h q_ x_ b a d_ r_ lf tc a cnt lv kd gd ln st) := hD
  refine n_if_b2 (tgt := 13) hx hb dX6_guard_8 (by decide)  (fun c_1 => ?_) (fun c_1 => ?_)
  ·
    refine lv_iload_n hx hb dX6_guard_13 rfl (lv_at hl 2 rfl) ?_
    refine x_callSi (As := [.int (iI x)]) (rest := []) ⟨hx, hb, hml, hown, hts⟩ (c_X6_isAct l D cI cS H.size x (by first | assumption | omega)) (va_cwS 1 hts gX6_guard_X6_isAct rfl rfl rfl (by decide +kernel) ⟨Nat.le_of_ble_eq_true rfl, Nat.le_of_ble_eq_true rfl⟩) hK hP hD hS hA [] [0, 1, 2, 3, 4, 5] (wr := [(h 0, .inr (6, [.ref (q_ 0), .ref (x_ 0), .ref (b 0), .ref (a 0), .ref (d_ 0), .ref (r_ 0), .int (iI lf), .int (iI tc)])), (a 0, .inr (1, [.ref (a 1), .ref (a 2), .ref (a 3), .ref (a 4), .int (iI cnt), .int (iI lv)])), (a 1, .inl (cI, 5, .inl (aI kd))), (a 2, .inl (cI, 5, .inl (aI gd))), (a 3, .inl (cI, 5, .inl (aI ln))), (a 4, .inl (cI, 20, .inl (aI st)))]) rfl rfl (by decide) (by decide) (by decide) [0, 1, 2, 3, 4, 5] (fun (u : Unit) => (W_A_P cI cS h q_ x_ b a d_ r_ lf tc a cnt lv kd gd ln st)) (fun _ => rfl) (by decide) rfl hl.1 rfl (Nat.le_of_ble_eq_true rfl) ⟨Nat.zero_le _, Nat.zero_le _⟩ dX6_guard_14 (fun r_ u_ H locs hw hP hD hS => ?_)
    try dsimp only at hw
    subst hw
    have hP : va_P D vwCl (W_A_P cI cS h q_ x_ b a d_ r_ lf tc a cnt lv kd gd ln st) H := hP
    have hD : va_D A (W_A_P cI cS h q_ x_ b a d_ r_ lf tc a cnt lv kd gd ln st) := hD
    refine n_if_b2 (tgt := 23) hx hb dX6_guard_17 (by decide)  (fun c_2 => ?_) (fun c_2 => ?_)
    ·
      refine lv_aload_n hx hb dX6_guard_23 rfl (lv_at hl 0 rfl) ?_
      refine va_get (D := D) (ci := 6) (v := .ref (a 0)) (C := RX6) (T := TX6) (N := 8) hx hb hts iw_6 hown hK.1 hP 0 rfl rfl 3 (by decide) fl_35 (fun _ h9 => h9) rfl dX6_guard_24 ?_
      refine va_getN (D := D) (ci := 1) (v := .ref (a 2)) (C := RX1) (T := TX1) (N := 6) hx hb hts iw_1 hown hK.1 hP 1 rfl rfl 1 (by decide) fn_103 (fun _ h9 => h9) rfl dX6_guard_27 ?_
      refine lv_iload_n hx hb dX6_guard_30 rfl (lv_at hl 1 rfl) ?_
      refine n_iald (n := 5) hx hb hK.1 hP 3 0 rfl rfl (by omega) (by decide) dX6_guard_31 ?_
      refine lv_istore_n (lv' := [(3, .int (iI (gd f))), (0, .ref (h 0)), (1, .int (iI f)), (2, .int (iI x))]) hx hb dX6_guard_32 rfl hl (by decide) rfl (fun ls hl => ?_)
      refine lv_aload_n hx hb dX6_guard_33 rfl (lv_at hl 1 rfl) ?_
      refine va_get (D := D) (ci := 6) (v := .ref (a 0)) (C := RX6) (T := TX6) (N := 8) hx hb hts iw_6 hown hK.1 hP 0 rfl rfl 3 (by decide) fl_35 (fun _ h9 => h9) rfl dX6_guard_34 ?_
      refine va_getN (D := D) (ci := 1) (v := .ref (a 2)) (C := RX1) (T := TX1) (N := 6) hx hb hts iw_1 hown hK.1 hP 1 rfl rfl 1 (by decide) fn_103 (fun _ h9 => h9) rfl dX6_guard_37 ?_
      refine lv_iload_n hx hb dX6_guard_40 rfl (lv_at hl 2 rfl) ?_
      refine lv_iload_n hx hb dX6_guard_41 rfl (lv_at hl 3 rfl) ?_
      refine n_iast (n := 5) hx hb hK.1 hP hD hS 3 0 rfl rfl (by omega) (by decide) dX6_guard_42 (fun H locs hP hD hS => ?_)
      have hP : va_P D vwCl (W_A_P cI cS h q_ x_ b a d_ r_ lf tc a cnt lv kd (updI gd f x) ln st) H := hP
      have hD : va_D A (W_A_P cI cS h q_ x_ b a d_ r_ lf tc a cnt lv kd (updI gd f x) ln st) := hD
      refine lv_iload_n hx hb dX6_guard_43 rfl (lv_at hl 0 rfl) ?_
      have e_3 : ((updI gd f x) : Int → Int) = (if (0 ≤ f ∧ f < cnt) ∧ 0 ≤ x ∧ x < 4 then updI gd f x else gd) := (by first | (rw [if_pos (by omega)]; done) | (rw [if_neg (by omega)]; done))
      have hP : va_P D vwCl (W_A_P cI cS h q_ x_ b a d_ r_ lf tc a cnt lv kd (if (0 ≤ f ∧ f < cnt) ∧ 0 ≤ x ∧ x < 4 then updI gd f x else gd) ln st) H := Eq.mp (congrArg (fun z_ => va_P D vwCl (W_A_P cI cS h q_ x_ b a d_ r_ lf tc a cnt lv kd z_ ln st) H) e_3) hP
      have hD : va_D A (W_A_P cI cS h q_ x_ b a d_ r_ lf tc a cnt lv kd (if (0 ≤ f ∧ f < cnt) ∧ 0 ≤ x ∧ x < 4 then updI gd f x else gd) ln st) := Eq.mp (congrArg (fun z_ => va_D A (W_A_P cI cS h q_ x_ b a d_ r_ lf tc a cnt lv kd z_ ln st)) e_3) hD
      exact W.iret (v := iI (gd f)) hx hb hr (fun t ht hW => ⟨⟨_, (), rfl, congrArg iI (show (gd f) = (if 0 ≤ f ∧ f < cnt then (if 0 ≤ x ∧ x < 4 then gd f else (-2)) else (-1)) from (by omega)), by rw [ht]; exact hP, hD⟩, hS.F ht⟩) hS.2.2 dX6_guard_44
    ·
      refine lv_bipush (v := iI (-2)) hx hb dX6_guard_20 (by decide +kernel) ?_
      have e_4 : (gd : Int → Int) = (if (0 ≤ f ∧ f < cnt) ∧ 0 ≤ x ∧ x < 4 then updI gd f x else gd) := (by first | (rw [if_pos (by omega)]; done) | (rw [if_neg (by omega)]; done))
      have hP : va_P D vwCl (W_A_P cI cS h q_ x_ b a d_ r_ lf tc a cnt lv kd (if (0 ≤ f ∧ f < cnt) ∧ 0 ≤ x ∧ x < 4 then updI gd f x else gd) ln st) H := Eq.mp (congrArg (fun z_ => va_P D vwCl (W_A_P cI cS h q_ x_ b a d_ r_ lf tc a cnt lv kd z_ ln st) H) e_4) hP
      have hD : va_D A (W_A_P cI cS h q_ x_ b a d_ r_ lf tc a cnt lv kd (if (0 ≤ f ∧ f < cnt) ∧ 0 ≤ x ∧ x < 4 then updI gd f x else gd) ln st) := Eq.mp (congrArg (fun z_ => va_D A (W_A_P cI cS h q_ x_ b a d_ r_ lf tc a cnt lv kd z_ ln st)) e_4) hD
      exact W.iret (v := iI (-2)) hx hb hr (fun t ht hW => ⟨⟨_, (), rfl, congrArg iI (show (-2) = (if 0 ≤ f ∧ f < cnt then (if 0 ≤ x ∧ x < 4 then gd f else (-2)) else (-1)) from (by omega)), by rw [ht]; exact hP, hD⟩, hS.F ht⟩) hS.2.2 dX6_guard_22
  ·
    refine lv_iconst (v := iI (-1)) hx hb dX6_guard_11 (by decide +kernel) ?_
    have e_5 : (gd : Int → Int) = (if (0 ≤ f ∧ f < cnt) ∧ 0 ≤ x ∧ x < 4 then updI gd f x else gd) := (by first | (rw [if_pos (by omega)]; done) | (rw [if_neg (by omega)]; done))
    have hP : va_P D vwCl (W_A_P cI cS h q_ x_ b a d_ r_ lf tc a cnt lv kd (if (0 ≤ f ∧ f < cnt) ∧ 0 ≤ x ∧ x < 4 then updI gd f x else gd) ln st) H := Eq.mp (congrArg (fun z_ => va_P D vwCl (W_A_P cI cS h q_ x_ b a d_ r_ lf tc a cnt lv kd z_ ln st) H) e_5) hP
    have hD : va_D A (W_A_P cI cS h q_ x_ b a d_ r_ lf tc a cnt lv kd (if (0 ≤ f ∧ f < cnt) ∧ 0 ≤ x ∧ x < 4 then updI gd f x else gd) ln st) := Eq.mp (congrArg (fun z_ => va_D A (W_A_P cI cS h q_ x_ b a d_ r_ lf tc a cnt lv kd z_ ln st)) e_5) hD
    exact W.iret (v := iI (-1)) hx hb hr (fun t ht hW => ⟨⟨_, (), rfl, congrArg iI (show (-1) = (if 0 ≤ f ∧ f < cnt then (if 0 ≤ x ∧ x < 4 then gd f else (-2)) else (-1)) from (by omega)), by rw [ht]; exact hP, hD⟩, hS.F ht⟩) hS.2.2 dX6_guard_12
set_option maxHeartbeats 4000000 in
set_option maxRecDepth 100000 in
theorem c_X6_live (l : Launch) (D : va_G) (cI cS : ClassId) (h : Nat → Nat) (q_ : Nat → Nat) (x_ : Nat → Nat) (b : Nat → Nat) (a : Nat → Nat) (d_ : Nat → Nat) (r_ : Nat → Nat) (lf : Int) (tc : Int) (cnt : Int) (lv : Int) (kd : Int → Int) (gd : Int → Int) (ln : Int → Int) (st : Int → Int) (sz : Nat) (x : Int) (hok : okP cnt ln st) (hxr : -2147483648 ≤ x ∧ x < 2147483648) : Met l yX6_live wsX6_live ({ frames := 1, cells := 0, slots := 0, locals := 20 }) (cP D cI cS (W_A_P cI cS h q_ x_ b a d_ r_ lf tc a cnt lv kd gd ln st) sz [.ref (h 0), .int (iI x)]) (va_Qi (fun (r : Int32) (u : Unit) => r = iI (if 0 ≤ x ∧ x < 16 then (if cnt = 0 then (-3) else lv) else (-2))) (fun (u : Unit) t => cB D (va_A (W_A_P cI cS h q_ x_ b a d_ r_ lf tc a cnt lv kd gd ln st) sz) (W_A_P cI cS h q_ x_ b a d_ r_ lf tc a cnt (if (0 ≤ x ∧ x < 16) ∧ cnt ≠ 0 then x else lv) kd gd ln st) t) (va_A (W_A_P cI cS h q_ x_ b a d_ r_ lf tc a cnt lv kd gd ln st) sz)) 0 0 (va_A (W_A_P cI cS h q_ x_ b a d_ r_ lf tc a cnt lv kd gd ln st) sz) := by
  refine Met.ofW (cc := cX6_live) (maxL := 3) (ret := (some .int)) (by decide) rfl ?_
  intro p e s m args below meth c_ s₁ B hml hv
  obtain ⟨rfl, hsz, hP, hK, hD0⟩ := hv
  have hx := B.exec
  have hb := B.bytes
  have hr := B.returns
  have hts := atoms_spec (ws := wsX6_live) B.pre
  have hown : s.vm.findClass RX6 = some m.cls := findClass_of_methodNamed B.named
  have hlocks := B.notSynchronized
  subst hsz
  have hD := hD0.self (sz := s.heap.size)
  generalize hAe : va_A (W_A_P cI cS h q_ x_ b a d_ r_ lf tc a cnt lv kd gd ln st) s.heap.size = A at hD ⊢
  have hA : ∀ q : Nat, s.heap.size ≤ q → A q := fun q h => by rw [← hAe]; exact Or.inr h
  have hS : va_S A s.heap s.heap [] := va_S.rf
  have hP : va_P D vwCl (W_A_P cI cS h q_ x_ b a d_ r_ lf tc a cnt lv kd gd ln st) s.heap := hP
  have hl := lv_entry ([.ref (h 0), .int (iI x)] : List Value) (n := 3) (Nat.le_of_ble_eq_true rfl)
  rw [lg_entry_eq]
  generalize (lg_sl ([.ref (h 0), .int (iI x)] : List Value) ++ List.replicate (3 - (lg_sl ([.ref (h 0), .int (iI x)] : List Value)).length) Slot.unset).toArray = ls at hl ⊢
  have hl : lv_has ls 3 [(0, .ref (h 0)), (1, .int (iI x))] := hl
  have fl_35 := hts (.fieldLink RX6 35 "ActRows" "told" "LActRows$Program;") (by decide +kernel)
  have iw_6 : ∀ w ∈ wsX60, w ∈ wsX6_live := by decide +kernel
  have fn_140 := va_Nw.use (A := ([.ref (h 0), .int (iI x)] : List Value).toArray) rfl (hK.2 ("ActRows", 140, "ActRows$Program", "live", "I") (List.mem_of_getElem? (i := 2) rfl))
  have iw_1 : ∀ w ∈ wsX10, w ∈ wsX6_live := by decide +kernel
  have hc := hok.1
  have hln := hok.2.1
  refine lv_iload_n hx hb dX6_live_0 rfl (lv_at hl 1 rfl) ?_
  refine x_callSi (As := [.int (iI x)]) (rest := []) ⟨hx, hb, hml, hown, hts⟩ (c_X6_isSet l D cI cS s.heap.size x (by first | assumption | omega)) (va_cwS 1 hts gX6_live_X6_isSet rfl rfl rfl (by decide +kernel) ⟨Nat.le_of_ble_eq_true rfl, Nat.le_of_ble_eq_true rfl⟩) hK hP hD hS hA [] [0, 1, 2, 3, 4, 5] (wr := [(h 0, .inr (6, [.ref (q_ 0), .ref (x_ 0), .ref (b 0), .ref (a 0), .ref (d_ 0), .ref (r_ 0), .int (iI lf), .int (iI tc)])), (a 0, .inr (1, [.ref (a 1), .ref (a 2), .ref (a 3), .ref (a 4), .int (iI cnt), .int (iI lv)])), (a 1, .inl (cI, 5, .inl (aI kd))), (a 2, .inl (cI, 5, .inl (aI gd))), (a 3, .inl (cI, 5, .inl (aI ln))), (a 4, .inl (cI, 20, .inl (aI st)))]) rfl rfl (by decide) (by decide) (by decide) [0, 1, 2, 3, 4, 5] (fun (u : Unit) => (W_A_P cI cS h q_ x_ b a d_ r_ lf tc a cnt lv kd gd ln st)) (fun _ => rfl) (by decide) rfl hl.1 rfl (Nat.le_of_ble_eq_true rfl) ⟨Nat.zero_le _, Nat.zero_le _⟩ dX6_live_1 (fun r_ u_ H locs hw hP hD hS => ?_)
  try dsimp only at hw
  subst hw
  have hP : va_P D vwCl (W_A_P cI cS h q_ x_ b a d_ r_ lf tc a cnt lv kd gd ln st) H := hP
  have hD : va_D A (W_A_P cI cS h q_ x_ b a d_ r_ lf tc a cnt lv kd gd ln st) := hD
  refine n_if_b2 (tgt := 10) hx hb dX6_live_4 (by decide)  (fun c_1 => ?_) (fun c_1 => ?_)
  ·
    refine lv_aload_n hx hb dX6_live_10 rfl (lv_at hl 0 rfl) ?_
    refine va_get (D := D) (ci := 6) (v := .ref (a 0)) (C := RX6) (T := TX6) (N := 8) hx hb hts iw_6 hown hK.1 hP 0 rfl rfl 3 (by decide) fl_35 (fun _ h9 => h9) rfl dX6_live_11 ?_
    refine x_callVi (As := []) (rest := []) ⟨hx, hb, hml, hown, hts⟩ (c_X1_isNone l D cI cS a cnt lv kd gd ln st H.size (by first | assumption | omega)) (cwV 0 hts gX6_live_X1_isNone rfl rfl rfl (by decide +kernel) ⟨Nat.le_of_ble_eq_true rfl, Nat.le_of_ble_eq_true rfl⟩) hK hP hD hS hA [1, 2, 3, 4, 5] [0] (wr := [(h 0, .inr (6, [.ref (q_ 0), .ref (x_ 0), .ref (b 0), .ref (a 0), .ref (d_ 0), .ref (r_ 0), .int (iI lf), .int (iI tc)]))]) rfl rfl (by decide) (by decide) (by decide) 0 1 rfl rfl rfl [0, 1, 2, 3, 4, 5] (fun (u : Unit) => (W_A_P cI cS h q_ x_ b a d_ r_ lf tc a cnt lv kd gd ln st)) (fun _ => rfl) (by decide) rfl hl.1 rfl (Nat.le_of_ble_eq_true rfl) ⟨Nat.zero_le _, Nat.zero_le _⟩ dX6_live_14 (fun r_ u_ H locs hw hP hD hS => ?_)
    try dsimp only at hw
    subst hw
    have hP : va_P D vwCl (W_A_P cI cS h q_ x_ b a d_ r_ lf tc a cnt lv kd gd ln st) H := hP
    have hD : va_D A (W_A_P cI cS h q_ x_ b a d_ r_ lf tc a cnt lv kd gd ln st) := hD
    refine n_if_b1 (tgt := 23) hx hb dX6_live_17 (by decide)  (fun c_2 => ?_) (fun c_2 => ?_)
    ·
      refine lv_aload_n hx hb dX6_live_23 rfl (lv_at hl 0 rfl) ?_
      refine va_get (D := D) (ci := 6) (v := .ref (a 0)) (C := RX6) (T := TX6) (N := 8) hx hb hts iw_6 hown hK.1 hP 0 rfl rfl 3 (by decide) fl_35 (fun _ h9 => h9) rfl dX6_live_24 ?_
      refine va_getN (D := D) (ci := 1) (v := .int (iI lv)) (C := RX1) (T := TX1) (N := 6) hx hb hts iw_1 hown hK.1 hP 1 rfl rfl 5 (by decide) fn_140 (fun _ h9 => h9) rfl dX6_live_27 ?_
      refine lv_istore_n (lv' := [(2, .int (iI lv)), (0, .ref (h 0)), (1, .int (iI x))]) hx hb dX6_live_30 rfl hl (by decide) rfl (fun ls hl => ?_)
      refine lv_aload_n hx hb dX6_live_31 rfl (lv_at hl 1 rfl) ?_
      refine va_get (D := D) (ci := 6) (v := .ref (a 0)) (C := RX6) (T := TX6) (N := 8) hx hb hts iw_6 hown hK.1 hP 0 rfl rfl 3 (by decide) fl_35 (fun _ h9 => h9) rfl dX6_live_32 ?_
      refine lv_iload_n hx hb dX6_live_35 rfl (lv_at hl 2 rfl) ?_
      refine va_putN (D := D) (ci := 1) (v := .int (iI x)) (ty := .int) (C := RX1) (T := TX1) (N := 6) hx hb hts iw_1 tyX1 tyX1_ok nmX1 hown hK.1 hP hD hS 1 rfl rfl 5 (by decide) fn_140 (fun _ h9 => h9) rfl (by decide +kernel) rfl rfl (Nat.le_of_ble_eq_true rfl) dX6_live_36 (fun H locs hP hD hS => ?_)
      have hP : va_P D vwCl (W_A_P cI cS h q_ x_ b a d_ r_ lf tc a cnt x kd gd ln st) H := hP
      have hD : va_D A (W_A_P cI cS h q_ x_ b a d_ r_ lf tc a cnt x kd gd ln st) := hD
      refine lv_iload_n hx hb dX6_live_39 rfl (lv_at hl 0 rfl) ?_
      have e_3 : (x : Int) = (if (0 ≤ x ∧ x < 16) ∧ cnt ≠ 0 then x else lv) := (by omega)
      have hP : va_P D vwCl (W_A_P cI cS h q_ x_ b a d_ r_ lf tc a cnt (if (0 ≤ x ∧ x < 16) ∧ cnt ≠ 0 then x else lv) kd gd ln st) H := Eq.mp (congrArg (fun z_ => va_P D vwCl (W_A_P cI cS h q_ x_ b a d_ r_ lf tc a cnt z_ kd gd ln st) H) e_3) hP
      have hD : va_D A (W_A_P cI cS h q_ x_ b a d_ r_ lf tc a cnt (if (0 ≤ x ∧ x < 16) ∧ cnt ≠ 0 then x else lv) kd gd ln st) := Eq.mp (congrArg (fun z_ => va_D A (W_A_P cI cS h q_ x_ b a d_ r_ lf tc a cnt z_ kd gd ln st)) e_3) hD
      exact W.iret (v := iI lv) hx hb hr (fun t ht hW => ⟨⟨_, (), rfl, congrArg iI (show lv = (if 0 ≤ x ∧ x < 16 then (if cnt = 0 then (-3) else lv) else (-2)) from (by omega)), by rw [ht]; exact hP, hD⟩, hS.F ht⟩) hS.2.2 dX6_live_40
    ·
      refine lv_bipush (v := iI (-3)) hx hb dX6_live_20 (by decide +kernel) ?_
      have e_4 : (lv : Int) = (if (0 ≤ x ∧ x < 16) ∧ cnt ≠ 0 then x else lv) := (by omega)
      have hP : va_P D vwCl (W_A_P cI cS h q_ x_ b a d_ r_ lf tc a cnt (if (0 ≤ x ∧ x < 16) ∧ cnt ≠ 0 then x else lv) kd gd ln st) H := Eq.mp (congrArg (fun z_ => va_P D vwCl (W_A_P cI cS h q_ x_ b a d_ r_ lf tc a cnt z_ kd gd ln st) H) e_4) hP
      have hD : va_D A (W_A_P cI cS h q_ x_ b a d_ r_ lf tc a cnt (if (0 ≤ x ∧ x < 16) ∧ cnt ≠ 0 then x else lv) kd gd ln st) := Eq.mp (congrArg (fun z_ => va_D A (W_A_P cI cS h q_ x_ b a d_ r_ lf tc a cnt z_ kd gd ln st)) e_4) hD
      exact W.iret (v := iI (-3)) hx hb hr (fun t ht hW => ⟨⟨_, (), rfl, congrArg iI (show (-3) = (if 0 ≤ x ∧ x < 16 then (if cnt = 0 then (-3) else lv) else (-2)) from (by omega)), by rw [ht]; exact hP, hD⟩, hS.F ht⟩) hS.2.2 dX6_live_22
  ·
    refine lv_bipush (v := iI (-2)) hx hb dX6_live_7 (by decide +kernel) ?_
    have e_5 : (lv : Int) = (if (0 ≤ x ∧ x < 16) ∧ cnt ≠ 0 then x else lv) := (by omega)
    have hP : va_P D vwCl (W_A_P cI cS h q_ x_ b a d_ r_ lf tc a cnt (if (0 ≤ x ∧ x < 16) ∧ cnt ≠ 0 then x else lv) kd gd ln st) H := Eq.mp (congrArg (fun z_ => va_P D vwCl (W_A_P cI cS h q_ x_ b a d_ r_ lf tc a cnt z_ kd gd ln st) H) e_5) hP
    have hD : va_D A (W_A_P cI cS h q_ x_ b a d_ r_ lf tc a cnt (if (0 ≤ x ∧ x < 16) ∧ cnt ≠ 0 then x else lv) kd gd ln st) := Eq.mp (congrArg (fun z_ => va_D A (W_A_P cI cS h q_ x_ b a d_ r_ lf tc a cnt z_ kd gd ln st)) e_5) hD
    exact W.iret (v := iI (-2)) hx hb hr (fun t ht hW => ⟨⟨_, (), rfl, congrArg iI (show (-2) = (if 0 ≤ x ∧ x < 16 then (if cnt = 0 then (-3) else lv) else (-2)) from (by omega)), by rw [ht]; exact hP, hD⟩, hS.F ht⟩) hS.2.2 dX6_live_9
set_option maxHeartbeats 4000000 in
set_option maxRecDepth 100000 in
theorem c_X6_ofFunction (l : Launch) (D : va_G) (cI cS : ClassId) (h : Nat → Nat) (q_ : Nat → Nat) (x_ : Nat → Nat) (b : Nat → Nat) (a : Nat → Nat) (d_ : Nat → Nat) (r_ : Nat → Nat) (lf : Int) (tc : Int) (tk : Int → Int) (tg : Int → Int) (tl : Int) (to : Int → Int) (ta : Int → Int) (te : Int → Int) (ts : Int → Int) (tr : Int → Int) (cnt : Int) (lv : Int) (kd : Int → Int) (gd : Int → Int) (ln : Int → Int) (st : Int → Int) (sz : Nat) (f : Int) (w : Int) (hok : okP cnt ln st) (hkd : okK cnt kd gd lv) (hfr : -2147483648 ≤ f ∧ f < 2147483648) (hwr : -2147483648 ≤ w ∧ w < 2147483648) : Met l yX6_ofFunction wsX6_ofFunction ({ frames := 7, cells := 0, slots := 0, locals := 154 }) (cP D cI cS (W_A_T_P cI cS h q_ x_ b a d_ r_ lf tc b a tk tg tl to ta te ts tr a cnt lv kd gd ln st) sz [.ref (h 0), .int (iI f), .int (iI w)]) (va_Qi (fun (r : Int32) (u : (Int → Int) × (Int → Int) × Int × (Int → Int) × (Int → Int) × (Int → Int) × (Int → Int) × (Int → Int)) => r = iI (sOf cnt kd gd ln st f w)) (fun (u : (Int → Int) × (Int → Int) × Int × (Int → Int) × (Int → Int) × (Int → Int) × (Int → Int) × (Int → Int)) t => cB D (va_A (W_A_T_P cI cS h q_ x_ b a d_ r_ lf tc b a tk tg tl to ta te ts tr a cnt lv kd gd ln st) sz) (W_A_T_P cI cS h q_ x_ b a d_ r_ lf tc b a u.1 u.2.1 u.2.2.1 u.2.2.2.1 u.2.2.2.2.1 u.2.2.2.2.2.1 u.2.2.2.2.2.2.1 u.2.2.2.2.2.2.2 a cnt lv kd gd ln st) t) (va_A (W_A_T_P cI cS h q_ x_ b a d_ r_ lf tc b a tk tg tl to ta te ts tr a cnt lv kd gd ln st) sz)) 0 0 (va_A (W_A_T_P cI cS h q_ x_ b a d_ r_ lf tc b a tk tg tl to ta te ts tr a cnt lv kd gd ln st) sz) := by
  refine Met.ofW (cc := cX6_ofFunction) (maxL := 3) (ret := (some .int)) (by decide) rfl ?_
  intro p e s m args below meth c_ s₁ B hml hv
  obtain ⟨rfl, hsz, hP, hK, hD0⟩ := hv
  have hx := B.exec
  have hb := B.bytes
  have hr := B.returns
  have hts := atoms_spec (ws := wsX6_ofFunction) B.pre
  have hown : s.vm.findClass RX6 = some m.cls := findClass_of_methodNamed B.named
  have hlocks := B.notSynchronized
  subst hsz
  have hD := hD0.self (sz := s.heap.size)
  generalize hAe : va_A (W_A_T_P cI cS h q_ x_ b a d_ r_ lf tc b a tk tg tl to ta te ts tr a cnt lv kd gd ln st) s.heap.size = A at hD ⊢
  have hA : ∀ q : Nat, s.heap.size ≤ q → A q := fun q h => by rw [← hAe]; exact Or.inr h
  have hS : va_S A s.heap s.heap [] := va_S.rf
  have hP : va_P D vwCl (W_A_T_P cI cS h q_ x_ b a d_ r_ lf tc b a tk tg tl to ta te ts tr a cnt lv kd gd ln st) s.heap := hP
  have hl := lv_entry ([.ref (h 0), .int (iI f), .int (iI w)] : List Value) (n := 3) (Nat.le_of_ble_eq_true rfl)
  rw [lg_entry_eq]
  generalize (lg_sl ([.ref (h 0), .int (iI f), .int (iI w)] : List Value) ++ List.replicate (3 - (lg_sl ([.ref (h 0), .int (iI f), .int (iI w)] : List Value)).length) Slot.unset).toArray = ls at hl ⊢
  have hl : lv_has ls 3 [(0, .ref (h 0)), (1, .int (iI f)), (2, .int (iI w))] := hl
  have fl_35 := hts (.fieldLink RX6 35 "ActRows" "told" "LActRows$Program;") (by decide +kernel)
  have iw_6 : ∀ w ∈ wsX60, w ∈ wsX6_ofFunction := by decide +kernel
  have fn_99 := va_Nw.use (A := ([.ref (h 0), .int (iI f), .int (iI w)] : List Value).toArray) rfl (hK.2 ("ActRows", 99, "ActRows$Program", "kinds", "[I") (List.mem_of_getElem? (i := 15) rfl))
  have iw_1 : ∀ w ∈ wsX10, w ∈ wsX6_ofFunction := by decide +kernel
  have fn_103 := va_Nw.use (A := ([.ref (h 0), .int (iI f), .int (iI w)] : List Value).toArray) rfl (hK.2 ("ActRows", 103, "ActRows$Program", "guarded", "[I") (List.mem_of_getElem? (i := 0) rfl))
  have fn_106 := va_Nw.use (A := ([.ref (h 0), .int (iI f), .int (iI w)] : List Value).toArray) rfl (hK.2 ("ActRows", 106, "ActRows$Program", "lengths", "[I") (List.mem_of_getElem? (i := 1) rfl))
  have fl_27 := hts (.fieldLink RX6 27 "ActRows" "trial" "LActRows$Trial;") (by decide +kernel)
  have hc := hok.1
  have hln := hok.2.1
  refine lv_aload_n hx hb dX6_ofFunction_0 rfl (lv_at hl 0 rfl) ?_
  refine va_get (D := D) (ci := 6) (v := .ref (a 0)) (C := RX6) (T := TX6) (N := 8) hx hb hts iw_6 hown hK.1 hP 0 rfl rfl 3 (by decide) fl_35 (fun _ h9 => h9) rfl dX6_ofFunction_1 ?_
  refine lv_iload_n hx hb dX6_ofFunction_4 rfl (lv_at hl 1 rfl) ?_
  refine x_callVi (As := [.int (iI f)]) (rest := []) ⟨hx, hb, hml, hown, hts⟩ (c_X1_has l D cI cS a cnt lv kd gd ln st s.heap.size f (by first | assumption | omega) (by first | assumption | omega)) (cwV 1 hts gX6_ofFunction_X1_has rfl rfl rfl (by decide +kernel) ⟨Nat.le_of_ble_eq_true rfl, Nat.le_of_ble_eq_true rfl⟩) hK hP hD hS hA [9, 10, 11, 12, 13] [0, 1, 2, 3, 4, 5, 6, 7, 8] (wr := [(h 0, .inr (6, [.ref (q_ 0), .ref (x_ 0), .ref (b 0), .ref (a 0), .ref (d_ 0), .ref (r_ 0), .int (iI lf), .int (iI tc)])), (b 0, .inr (5, [.ref (a 0), .ref (b 1), .ref (b 2), .int (iI tl), .ref (b 3), .ref (b 4), .ref (b 5), .ref (b 6), .ref (b 7)])), (b 1, .inl (cI, 5, .inl (aI tk))), (b 2, .inl (cI, 5, .inl (aI tg))), (b 3, .inl (cI, 5, .inl (aI to))), (b 4, .inl (cI, 5, .inl (aI ta))), (b 5, .inl (cI, 5, .inl (aI te))), (b 6, .inl (cI, 5, .inl (aI ts))), (b 7, .inl (cI, 5, .inl (aI tr)))]) rfl rfl (by decide) (by decide) (by decide) 0 1 rfl rfl rfl [0, 1, 2, 3, 4, 5, 6, 7, 8, 9, 10, 11, 12, 13] (fun (u : Unit) => (W_A_T_P cI cS h q_ x_ b a d_ r_ lf tc b a tk tg tl to ta te ts tr a cnt lv kd gd ln st)) (fun _ => rfl) (by decide) rfl hl.1 rfl (Nat.le_of_ble_eq_true rfl) ⟨Nat.zero_le _, Nat.zero_le _⟩ dX6_ofFunction_5 (fun r_ u_ H locs hw hP hD hS => ?_)
  try dsimp only at hw
  subst hw
  have hP : va_P D vwCl (W_A_T_P cI cS h q_ x_ b a d_ r_ lf tc b a tk tg tl to ta te ts tr a cnt lv kd gd ln st) H := hP
  have hD : va_D A (W_A_T_P cI cS h q_ x_ b a d_ r_ lf tc b a tk tg tl to ta te ts tr a cnt lv kd gd ln st) := hD
  refine n_if_b2 (tgt := 13) hx hb dX6_ofFunction_8 (by decide)  (fun c_1 => ?_) (fun c_1 => ?_)
  ·
    have hf : 0 ≤ f ∧ f < cnt := by assumption
    refine lv_iload_n hx hb dX6_ofFunction_13 rfl (lv_at hl 2 rfl) ?_
    by_cases c_2 : w = 0
    ·
      refine n_tableIn (off := 34) (tgt := 48) hx hb 0 dX6_ofFunction_14 c_2 (by decide) rfl (by decide) ?_
      refine lv_aload_n hx hb dX6_ofFunction_48 rfl (lv_at hl 0 rfl) ?_
      refine va_get (D := D) (ci := 6) (v := .ref (a 0)) (C := RX6) (T := TX6) (N := 8) hx hb hts iw_6 hown hK.1 hP 0 rfl rfl 3 (by decide) fl_35 (fun _ h9 => h9) rfl dX6_ofFunction_49 ?_
      refine va_getN (D := D) (ci := 1) (v := .ref (a 1)) (C := RX1) (T := TX1) (N := 6) hx hb hts iw_1 hown hK.1 hP 9 rfl rfl 0 (by decide) fn_99 (fun _ h9 => h9) rfl dX6_ofFunction_52 ?_
      refine lv_iload_n hx hb dX6_ofFunction_55 rfl (lv_at hl 1 rfl) ?_
      refine n_iald (n := 5) hx hb hK.1 hP 10 0 rfl rfl (by omega) (by decide) dX6_ofFunction_56 ?_
      exact W.iret (v := iI (kd f)) hx hb hr (fun t ht hW => ⟨⟨_, (tk, tg, tl, to, ta, te, ts, tr), rfl, congrArg iI (show (kd f) = (sOf cnt kd gd ln st f w) from (by unfold sOf; (repeat (first | rw [if_pos (by omega)] | rw [if_neg (by omega)])))), by rw [ht]; exact hP, hD⟩, hS.F ht⟩) hS.2.2 dX6_ofFunction_57
    by_cases c_3 : w = 1
    ·
      refine n_tableIn (off := 44) (tgt := 58) hx hb 1 dX6_ofFunction_14 c_3 (by decide) rfl (by decide) ?_
      refine lv_aload_n hx hb dX6_ofFunction_58 rfl (lv_at hl 0 rfl) ?_
      refine va_get (D := D) (ci := 6) (v := .ref (a 0)) (C := RX6) (T := TX6) (N := 8) hx hb hts iw_6 hown hK.1 hP 0 rfl rfl 3 (by decide) fl_35 (fun _ h9 => h9) rfl dX6_ofFunction_59 ?_
      refine va_getN (D := D) (ci := 1) (v := .ref (a 2)) (C := RX1) (T := TX1) (N := 6) hx hb hts iw_1 hown hK.1 hP 9 rfl rfl 1 (by decide) fn_103 (fun _ h9 => h9) rfl dX6_ofFunction_62 ?_
      refine lv_iload_n hx hb dX6_ofFunction_65 rfl (lv_at hl 1 rfl) ?_
      refine n_iald (n := 5) hx hb hK.1 hP 11 0 rfl rfl (by omega) (by decide) dX6_ofFunction_66 ?_
      exact W.iret (v := iI (gd f)) hx hb hr (fun t ht hW => ⟨⟨_, (tk, tg, tl, to, ta, te, ts, tr), rfl, congrArg iI (show (gd f) = (sOf cnt kd gd ln st f w) from (by unfold sOf; (repeat (first | rw [if_pos (by omega)] | rw [if_neg (by omega)])))), by rw [ht]; exact hP, hD⟩, hS.F ht⟩) hS.2.2 dX6_ofFunction_67
    by_cases c_4 : w = 2
    ·
      refine n_tableIn (off := 54) (tgt := 68) hx hb 2 dX6_ofFunction_14 c_4 (by decide) rfl (by decide) ?_
      refine lv_aload_n hx hb dX6_ofFunction_68 rfl (lv_at hl 0 rfl) ?_
      refine va_get (D := D) (ci := 6) (v := .ref (a 0)) (C := RX6) (T := TX6) (N := 8) hx hb hts iw_6 hown hK.1 hP 0 rfl rfl 3 (by decide) fl_35 (fun _ h9 => h9) rfl dX6_ofFunction_69 ?_
      refine va_getN (D := D) (ci := 1) (v := .ref (a 3)) (C := RX1) (T := TX1) (N := 6) hx hb hts iw_1 hown hK.1 hP 9 rfl rfl 2 (by decide) fn_106 (fun _ h9 => h9) rfl dX6_ofFunction_72 ?_
      refine lv_iload_n hx hb dX6_ofFunction_75 rfl (lv_at hl 1 rfl) ?_
      refine n_iald (n := 5) hx hb hK.1 hP 12 0 rfl rfl (by omega) (by decide) dX6_ofFunction_76 ?_
      exact W.iret (v := iI (ln f)) hx hb hr (fun t ht hW => ⟨⟨_, (tk, tg, tl, to, ta, te, ts, tr), rfl, congrArg iI (show (ln f) = (sOf cnt kd gd ln st f w) from (by unfold sOf; (repeat (first | rw [if_pos (by omega)] | rw [if_neg (by omega)])))), by rw [ht]; exact hP, hD⟩, hS.F ht⟩) hS.2.2 dX6_ofFunction_77
    by_cases c_5 : w = 3
    ·
      refine n_tableIn (off := 64) (tgt := 78) hx hb 3 dX6_ofFunction_14 c_5 (by decide) rfl (by decide) ?_
      refine lv_aload_n hx hb dX6_ofFunction_78 rfl (lv_at hl 0 rfl) ?_
      refine va_get (D := D) (ci := 6) (v := .ref (b 0)) (C := RX6) (T := TX6) (N := 8) hx hb hts iw_6 hown hK.1 hP 0 rfl rfl 2 (by decide) fl_27 (fun _ h9 => h9) rfl dX6_ofFunction_79 ?_
      refine x_callVv (As := []) (rest := []) ⟨hx, hb, hml, hown, hts⟩ (c_X5_begin l D cI cS b a tk tg tl to ta te ts tr cnt lv kd gd ln st H.size) (cwV 0 hts gX6_ofFunction_X5_begin rfl rfl rfl (by decide +kernel) ⟨Nat.le_of_ble_eq_true rfl, Nat.le_of_ble_eq_true rfl⟩) hK hP hD hS hA [1, 2, 3, 4, 5, 6, 7, 8, 9, 10, 11, 12, 13] [0] (wr := [(h 0, .inr (6, [.ref (q_ 0), .ref (x_ 0), .ref (b 0), .ref (a 0), .ref (d_ 0), .ref (r_ 0), .int (iI lf), .int (iI tc)]))]) rfl rfl (by decide) (by decide) (by decide) 0 5 rfl rfl rfl [0, 1, 2, 3, 4, 5, 6, 7, 8, 9, 10, 11, 12, 13] (fun (u : (Int → Int) × (Int → Int)) => (W_A_T_P cI cS h q_ x_ b a d_ r_ lf tc b a u.1 u.2 lv to ta te ts tr a cnt lv kd gd ln st)) (fun _ => rfl) (by decide) rfl hl.1 rfl (Nat.le_of_ble_eq_true rfl) ⟨Nat.zero_le _, Nat.zero_le _⟩ dX6_ofFunction_82 (fun u_ H locs hw hP hD hS => ?_)
      obtain ⟨tk2, tg2⟩ := u_
      try dsimp only at hw
      have hk2 := hw
      have hP : va_P D vwCl (W_A_T_P cI cS h q_ x_ b a d_ r_ lf tc b a tk2 tg2 lv to ta te ts tr a cnt lv kd gd ln st) H := hP
      have hD : va_D A (W_A_T_P cI cS h q_ x_ b a d_ r_ lf tc b a tk2 tg2 lv to ta te ts tr a cnt lv kd gd ln st) := hD
      have hko2 : okK cnt tk2 tg2 lv := ⟨fun j h0 h1 => by rw [(hk2 j h0 (by omega)).1, (hk2 j h0 (by omega)).2]; exact hkd.1 j h0 h1, hkd.2⟩
      have hse : ∀ (L f : Int), 0 ≤ f → f < cnt → sem tk2 tg2 L ln st f = sem kd gd L ln st f := fun L f h0 h1 => sem_pre hok h0 h1 (fun j a b => hk2 j a (by omega))
      refine lv_aload_n hx hb dX6_ofFunction_85 rfl (lv_at hl 0 rfl) ?_
      refine va_get (D := D) (ci := 6) (v := .ref (b 0)) (C := RX6) (T := TX6) (N := 8) hx hb hts iw_6 hown hK.1 hP 0 rfl rfl 2 (by decide) fl_27 (fun _ h9 => h9) rfl dX6_ofFunction_86 ?_
      refine lv_iload_n hx hb dX6_ofFunction_89 rfl (lv_at hl 1 rfl) ?_
      refine x_callVi (As := [.int (iI f)]) (rest := []) ⟨hx, hb, hml, hown, hts⟩ (c_X5_rowOf l D cI cS b a tk2 tg2 lv to ta te ts tr cnt lv kd gd ln st H.size f (by first | assumption | omega) hko2 (by first | assumption | omega)) (cwV 1 hts gX6_ofFunction_X5_rowOf rfl rfl rfl (by decide +kernel) ⟨Nat.le_of_ble_eq_true rfl, Nat.le_of_ble_eq_true rfl⟩) hK hP hD hS hA [1, 2, 3, 4, 5, 6, 7, 8, 9, 10, 11, 12, 13] [0] (wr := [(h 0, .inr (6, [.ref (q_ 0), .ref (x_ 0), .ref (b 0), .ref (a 0), .ref (d_ 0), .ref (r_ 0), .int (iI lf), .int (iI tc)]))]) rfl rfl (by decide) (by decide) (by decide) 0 5 rfl rfl rfl [0, 1, 2, 3, 4, 5, 6, 7, 8, 9, 10, 11, 12, 13] (fun (u : (Int → Int)) => (W_A_T_P cI cS h q_ x_ b a d_ r_ lf tc b a tk2 tg2 lv to ta te ts u a cnt lv kd gd ln st)) (fun _ => rfl) (by decide) rfl hl.1 rfl (Nat.le_of_ble_eq_true rfl) ⟨Nat.zero_le _, Nat.zero_le _⟩ dX6_ofFunction_90 (fun r_ u_ H locs hw hP hD hS => ?_)
      obtain ⟨tr_6, eu_⟩ : ∃ z, z = u_ := ⟨_, rfl⟩
      subst eu_
      try dsimp only at hw
      subst hw
      have hP : va_P D vwCl (W_A_T_P cI cS h q_ x_ b a d_ r_ lf tc b a tk2 tg2 lv to ta te ts tr_6 a cnt lv kd gd ln st) H := hP
      have hD : va_D A (W_A_T_P cI cS h q_ x_ b a d_ r_ lf tc b a tk2 tg2 lv to ta te ts tr_6 a cnt lv kd gd ln st) := hD
      exact W.iret (v := iI (rowS tk2 tg2 ln st f)) hx hb hr (fun t ht hW => ⟨⟨_, (tk2, tg2, lv, to, ta, te, ts, tr_6), rfl, congrArg iI (show (rowS tk2 tg2 ln st f) = (sOf cnt kd gd ln st f w) from (by unfold sOf; (repeat (first | rw [if_pos (by omega)] | rw [if_neg (by omega)])); rw [rowS_congr hok hok (fun j a b => ⟨(hk2 j a (by omega)).1, (hk2 j a (by omega)).2, rfl⟩) (fun _ _ _ _ _ _ => rfl) f hf.1 hf.2])), by rw [ht]; exact hP, hD⟩, hS.F ht⟩) hS.2.2 dX6_ofFunction_93
    by_cases c_7 : w = 4
    ·
      refine n_tableIn (off := 80) (tgt := 94) hx hb 4 dX6_ofFunction_14 c_7 (by decide) rfl (by decide) ?_
      refine lv_aload_n hx hb dX6_ofFunction_94 rfl (lv_at hl 0 rfl) ?_
      refine va_get (D := D) (ci := 6) (v := .ref (b 0)) (C := RX6) (T := TX6) (N := 8) hx hb hts iw_6 hown hK.1 hP 0 rfl rfl 2 (by decide) fl_27 (fun _ h9 => h9) rfl dX6_ofFunction_95 ?_
      refine x_callVv (As := []) (rest := []) ⟨hx, hb, hml, hown, hts⟩ (c_X5_begin l D cI cS b a tk tg tl to ta te ts tr cnt lv kd gd ln st H.size) (cwV 0 hts gX6_ofFunction_X5_begin rfl rfl rfl (by decide +kernel) ⟨Nat.le_of_ble_eq_true rfl, Nat.le_of_ble_eq_true rfl⟩) hK hP hD hS hA [1, 2, 3, 4, 5, 6, 7, 8, 9, 10, 11, 12, 13] [0] (wr := [(h 0, .inr (6, [.ref (q_ 0), .ref (x_ 0), .ref (b 0), .ref (a 0), .ref (d_ 0), .ref (r_ 0), .int (iI lf), .int (iI tc)]))]) rfl rfl (by decide) (by decide) (by decide) 0 5 rfl rfl rfl [0, 1, 2, 3, 4, 5, 6, 7, 8, 9, 10, 11, 12, 13] (fun (u : (Int → Int) × (Int → Int)) => (W_A_T_P cI cS h q_ x_ b a d_ r_ lf tc b a u.1 u.2 lv to ta te ts tr a cnt lv kd gd ln st)) (fun _ => rfl) (by decide) rfl hl.1 rfl (Nat.le_of_ble_eq_true rfl) ⟨Nat.zero_le _, Nat.zero_le _⟩ dX6_ofFunction_98 (fun u_ H locs hw hP hD hS => ?_)
      obtain ⟨tk2, tg2⟩ := u_
      try dsimp only at hw
      have hk2 := hw
      have hP : va_P D vwCl (W_A_T_P cI cS h q_ x_ b a d_ r_ lf tc b a tk2 tg2 lv to ta te ts tr a cnt lv kd gd ln st) H := hP
      have hD : va_D A (W_A_T_P cI cS h q_ x_ b a d_ r_ lf tc b a tk2 tg2 lv to ta te ts tr a cnt lv kd gd ln st) := hD
      have hko2 : okK cnt tk2 tg2 lv := ⟨fun j h0 h1 => by rw [(hk2 j h0 (by omega)).1, (hk2 j h0 (by omega)).2]; exact hkd.1 j h0 h1, hkd.2⟩
      have hse : ∀ (L f : Int), 0 ≤ f → f < cnt → sem tk2 tg2 L ln st f = sem kd gd L ln st f := fun L f h0 h1 => sem_pre hok h0 h1 (fun j a b => hk2 j a (by omega))
      refine lv_aload_n hx hb dX6_ofFunction_101 rfl (lv_at hl 0 rfl) ?_
      refine va_get (D := D) (ci := 6) (v := .ref (b 0)) (C := RX6) (T := TX6) (N := 8) hx hb hts iw_6 hown hK.1 hP 0 rfl rfl 2 (by decide) fl_27 (fun _ h9 => h9) rfl dX6_ofFunction_102 ?_
      refine lv_iload_n hx hb dX6_ofFunction_105 rfl (lv_at hl 1 rfl) ?_
      refine x_callVi (As := [.int (iI f)]) (rest := []) ⟨hx, hb, hml, hown, hts⟩ (c_X5_mayOf l D cI cS b a tk2 tg2 lv to ta te ts tr cnt lv kd gd ln st H.size f (by first | assumption | omega) hko2 (by first | assumption | omega)) (cwV 1 hts gX6_ofFunction_X5_mayOf rfl rfl rfl (by decide +kernel) ⟨Nat.le_of_ble_eq_true rfl, Nat.le_of_ble_eq_true rfl⟩) hK hP hD hS hA [1, 2, 3, 4, 5, 6, 7, 8, 9, 10, 11, 12, 13] [0] (wr := [(h 0, .inr (6, [.ref (q_ 0), .ref (x_ 0), .ref (b 0), .ref (a 0), .ref (d_ 0), .ref (r_ 0), .int (iI lf), .int (iI tc)]))]) rfl rfl (by decide) (by decide) (by decide) 0 5 rfl rfl rfl [0, 1, 2, 3, 4, 5, 6, 7, 8, 9, 10, 11, 12, 13] (fun (u : Int × (Int → Int) × (Int → Int) × (Int → Int) × (Int → Int)) => (W_A_T_P cI cS h q_ x_ b a d_ r_ lf tc b a tk2 tg2 u.1 u.2.1 u.2.2.1 u.2.2.2.1 u.2.2.2.2 tr a cnt lv kd gd ln st)) (fun _ => rfl) (by decide) rfl hl.1 rfl (Nat.le_of_ble_eq_true rfl) ⟨Nat.zero_le _, Nat.zero_le _⟩ dX6_ofFunction_106 (fun r_ u_ H locs hw hP hD hS => ?_)
      obtain ⟨tl_8, to_9, ta_10, te_11, ts_12⟩ := u_
      try dsimp only at hw
      subst hw
      have hP : va_P D vwCl (W_A_T_P cI cS h q_ x_ b a d_ r_ lf tc b a tk2 tg2 tl_8 to_9 ta_10 te_11 ts_12 tr a cnt lv kd gd ln st) H := hP
      have hD : va_D A (W_A_T_P cI cS h q_ x_ b a d_ r_ lf tc b a tk2 tg2 tl_8 to_9 ta_10 te_11 ts_12 tr a cnt lv kd gd ln st) := hD
      exact W.iret (v := iI (mayGo (fun x => (sem tk2 tg2 x ln st f).1) 16)) hx hb hr (fun t ht hW => ⟨⟨_, (tk2, tg2, tl_8, to_9, ta_10, te_11, ts_12, tr), rfl, congrArg iI (show (mayGo (fun x => (sem tk2 tg2 x ln st f).1) 16) = (sOf cnt kd gd ln st f w) from (by unfold sOf; (repeat (first | rw [if_pos (by omega)] | rw [if_neg (by omega)])); exact mayGo_congr 16 (fun j a b => by rw [hse j f hf.1 hf.2]))), by rw [ht]; exact hP, hD⟩, hS.F ht⟩) hS.2.2 dX6_ofFunction_109
    refine n_tableOut (tgt := 110) hx hb dX6_ofFunction_14 (by omega) (by omega) (by decide) ?_
    refine lv_bipush (v := iI (-2)) hx hb dX6_ofFunction_110 (by decide +kernel) ?_
    exact W.iret (v := iI (-2)) hx hb hr (fun t ht hW => ⟨⟨_, (tk, tg, tl, to, ta, te, ts, tr), rfl, congrArg iI (show (-2) = (sOf cnt kd gd ln st f w) from (by unfold sOf; (repeat (first | rw [if_pos (by omega)] | rw [if_neg (by omega)])))), by rw [ht]; exact hP, hD⟩, hS.F ht⟩) hS.2.2 dX6_ofFunction_112
  ·
    refine lv_iconst (v := iI (-1)) hx hb dX6_ofFunction_11 (by decide +kernel) ?_
    exact W.iret (v := iI (-1)) hx hb hr (fun t ht hW => ⟨⟨_, (tk, tg, tl, to, ta, te, ts, tr), rfl, congrArg iI (show (-1) = (sOf cnt kd gd ln st f w) from (by unfold sOf; (repeat (first | rw [if_pos (by omega)] | rw [if_neg (by omega)])))), by rw [ht]; exact hP, hD⟩, hS.F ht⟩) hS.2.2 dX6_ofFunction_12
set_option maxHeartbeats 4000000 in
set_option maxRecDepth 100000 in
theorem c_X6_run (l : Launch) (D : va_G) (cI cS : ClassId) (h : Nat → Nat) (q_ : Nat → Nat) (x_ : Nat → Nat) (b : Nat → Nat) (a : Nat → Nat) (d_ : Nat → Nat) (r_ : Nat → Nat) (lf : Int) (tc : Int) (tk : Int → Int) (tg : Int → Int) (tl : Int) (to : Int → Int) (ta : Int → Int) (te : Int → Int) (ts : Int → Int) (tr : Int → Int) (cnt : Int) (lv : Int) (kd : Int → Int) (gd : Int → Int) (ln : Int → Int) (st : Int → Int) (sz : Nat) (f : Int) (w : Int) (hok : okP cnt ln st) (hkd : okK cnt kd gd lv) (hfr : -2147483648 ≤ f ∧ f < 2147483648) (hwr : -2147483648 ≤ w ∧ w < 2147483648) : Met l yX6_run wsX6_run ({ frames := 5, cells := 0, slots := 0, locals := 110 }) (cP D cI cS (W_A_T_P cI cS h q_ x_ b a d_ r_ lf tc b a tk tg tl to ta te ts tr a cnt lv kd gd ln st) sz [.ref (h 0), .int (iI f), .int (iI w)]) (va_Qi (fun (r : Int32) (u : (Int → Int) × (Int → Int) × Int × (Int → Int) × (Int → Int) × (Int → Int) × (Int → Int)) => r = iI (sRun cnt lv kd gd ln st f w)) (fun (u : (Int → Int) × (Int → Int) × Int × (Int → Int) × (Int → Int) × (Int → Int) × (Int → Int)) t => cB D (va_A (W_A_T_P cI cS h q_ x_ b a d_ r_ lf tc b a tk tg tl to ta te ts tr a cnt lv kd gd ln st) sz) (W_A_T_P cI cS h q_ x_ b a d_ r_ lf tc b a u.1 u.2.1 u.2.2.1 u.2.2.2.1 u.2.2.2.2.1 u.2.2.2.2.2.1 u.2.2.2.2.2.2 tr a cnt lv kd gd ln st) t) (va_A (W_A_T_P cI cS h q_ x_ b a d_ r_ lf tc b a tk tg tl to ta te ts tr a cnt lv kd gd ln st) sz)) 0 0 (va_A (W_A_T_P cI cS h q_ x_ b a d_ r_ lf tc b a tk tg tl to ta te ts tr a cnt lv kd gd ln st) sz) := by
  refine Met.ofW (cc := cX6_run) (maxL := 3) (ret := (some .int)) (by decide) rfl ?_
  intro p e s m args below meth c_ s₁ B hml hv
  obtain ⟨rfl, hsz, hP, hK, hD0⟩ := hv
  have hx := B.exec
  have hb := B.bytes
  have hr := B.returns
  have hts := atoms_spec (ws := wsX6_run) B.pre
  have hown : s.vm.findClass RX6 = some m.cls := findClass_of_methodNamed B.named
  have hlocks := B.notSynchronized
  subst hsz
  have hD := hD0.self (sz := s.heap.size)
  generalize hAe : va_A (W_A_T_P cI cS h q_ x_ b a d_ r_ lf tc b a tk tg tl to ta te ts tr a cnt lv kd gd ln st) s.heap.size = A at hD ⊢
  have hA : ∀ q : Nat, s.heap.size ≤ q → A q := fun q h => by rw [← hAe]; exact Or.inr h
  have hS : va_S A s.heap s.heap [] := va_S.rf
  have hP : va_P D vwCl (W_A_T_P cI cS h q_ x_ b a d_ r_ lf tc b a tk tg tl to ta te ts tr a cnt lv kd gd ln st) s.heap := hP
  have hl := lv_entry ([.ref (h 0), .int (iI f), .int (iI w)] : List Value) (n := 3) (Nat.le_of_ble_eq_true rfl)
  rw [lg_entry_eq]
  generalize (lg_sl ([.ref (h 0), .int (iI f), .int (iI w)] : List Value) ++ List.replicate (3 - (lg_sl ([.ref (h 0), .int (iI f), .int (iI w)] : List Value)).length) Slot.unset).toArray = ls at hl ⊢
  have hl : lv_has ls 3 [(0, .ref (h 0)), (1, .int (iI f)), (2, .int (iI w))] := hl
  have fl_35 := hts (.fieldLink RX6 35 "ActRows" "told" "LActRows$Program;") (by decide +kernel)
  have iw_6 : ∀ w ∈ wsX60, w ∈ wsX6_run := by decide +kernel
  have fl_27 := hts (.fieldLink RX6 27 "ActRows" "trial" "LActRows$Trial;") (by decide +kernel)
  have fn_146 := va_Nw.use (A := ([.ref (h 0), .int (iI f), .int (iI w)] : List Value).toArray) rfl (hK.2 ("ActRows", 146, "ActRows$Trial", "outs", "[I") (List.mem_of_getElem? (i := 3) rfl))
  have iw_5 : ∀ w ∈ wsX50, w ∈ wsX6_run := by decide +kernel
  have fn_149 := va_Nw.use (A := ([.ref (h 0), .int (iI f), .int (iI w)] : List Value).toArray) rfl (hK.2 ("ActRows", 149, "ActRows$Trial", "actCounts", "[I") (List.mem_of_getElem? (i := 4) rfl))
  have fn_152 := va_Nw.use (A := ([.ref (h 0), .int (iI f), .int (iI w)] : List Value).toArray) rfl (hK.2 ("ActRows", 152, "ActRows$Trial", "endCounts", "[I") (List.mem_of_getElem? (i := 5) rfl))
  have hc := hok.1
  have hln := hok.2.1
  refine lv_aload_n hx hb dX6_run_0 rfl (lv_at hl 0 rfl) ?_
  refine va_get (D := D) (ci := 6) (v := .ref (a 0)) (C := RX6) (T := TX6) (N := 8) hx hb hts iw_6 hown hK.1 hP 0 rfl rfl 3 (by decide) fl_35 (fun _ h9 => h9) rfl dX6_run_1 ?_
  refine lv_iload_n hx hb dX6_run_4 rfl (lv_at hl 1 rfl) ?_
  refine x_callVi (As := [.int (iI f)]) (rest := []) ⟨hx, hb, hml, hown, hts⟩ (c_X1_has l D cI cS a cnt lv kd gd ln st s.heap.size f (by first | assumption | omega) (by first | assumption | omega)) (cwV 1 hts gX6_run_X1_has rfl rfl rfl (by decide +kernel) ⟨Nat.le_of_ble_eq_true rfl, Nat.le_of_ble_eq_true rfl⟩) hK hP hD hS hA [9, 10, 11, 12, 13] [0, 1, 2, 3, 4, 5, 6, 7, 8] (wr := [(h 0, .inr (6, [.ref (q_ 0), .ref (x_ 0), .ref (b 0), .ref (a 0), .ref (d_ 0), .ref (r_ 0), .int (iI lf), .int (iI tc)])), (b 0, .inr (5, [.ref (a 0), .ref (b 1), .ref (b 2), .int (iI tl), .ref (b 3), .ref (b 4), .ref (b 5), .ref (b 6), .ref (b 7)])), (b 1, .inl (cI, 5, .inl (aI tk))), (b 2, .inl (cI, 5, .inl (aI tg))), (b 3, .inl (cI, 5, .inl (aI to))), (b 4, .inl (cI, 5, .inl (aI ta))), (b 5, .inl (cI, 5, .inl (aI te))), (b 6, .inl (cI, 5, .inl (aI ts))), (b 7, .inl (cI, 5, .inl (aI tr)))]) rfl rfl (by decide) (by decide) (by decide) 0 1 rfl rfl rfl [0, 1, 2, 3, 4, 5, 6, 7, 8, 9, 10, 11, 12, 13] (fun (u : Unit) => (W_A_T_P cI cS h q_ x_ b a d_ r_ lf tc b a tk tg tl to ta te ts tr a cnt lv kd gd ln st)) (fun _ => rfl) (by decide) rfl hl.1 rfl (Nat.le_of_ble_eq_true rfl) ⟨Nat.zero_le _, Nat.zero_le _⟩ dX6_run_5 (fun r_ u_ H locs hw hP hD hS => ?_)
  try dsimp only at hw
  subst hw
  have hP : va_P D vwCl (W_A_T_P cI cS h q_ x_ b a d_ r_ lf tc b a tk tg tl to ta te ts tr a cnt lv kd gd ln st) H := hP
  have hD : va_D A (W_A_T_P cI cS h q_ x_ b a d_ r_ lf tc b a tk tg tl to ta te ts tr a cnt lv kd gd ln st) := hD
  refine n_if_b2 (tgt := 13) hx hb dX6_run_8 (by decide)  (fun c_1 => ?_) (fun c_1 => ?_)
  ·
    have hf : 0 ≤ f ∧ f < cnt := by assumption
    refine lv_iload_n hx hb dX6_run_13 rfl (lv_at hl 2 rfl) ?_
    refine n_if_lt (tgt := 22) hx hb dX6_run_14 (by decide) (by omega) (fun c_2 => ?_) (fun c_2 => ?_)
    ·
      refine lv_bipush (v := iI (-2)) hx hb dX6_run_22 (by decide +kernel) ?_
      exact W.iret (v := iI (-2)) hx hb hr (fun t ht hW => ⟨⟨_, (tk, tg, tl, to, ta, te, ts), rfl, congrArg iI (show (-2) = (sRun cnt lv kd gd ln st f w) from (by unfold sRun; (repeat (first | rw [if_pos (by omega)] | rw [if_neg (by omega)])))), by rw [ht]; exact hP, hD⟩, hS.F ht⟩) hS.2.2 dX6_run_24
    ·
      refine lv_iload_n hx hb dX6_run_17 rfl (lv_at hl 2 rfl) ?_
      refine lv_iconst (v := iI 3) hx hb dX6_run_18 (by decide +kernel) ?_
      refine n_icmp_le (tgt := 25) hx hb dX6_run_19 (by decide) (by omega) (fun c_3 => ?_) (fun c_3 => ?_)
      ·
        refine lv_aload_n hx hb dX6_run_25 rfl (lv_at hl 0 rfl) ?_
        refine va_get (D := D) (ci := 6) (v := .ref (b 0)) (C := RX6) (T := TX6) (N := 8) hx hb hts iw_6 hown hK.1 hP 0 rfl rfl 2 (by decide) fl_27 (fun _ h9 => h9) rfl dX6_run_26 ?_
        refine x_callVv (As := []) (rest := []) ⟨hx, hb, hml, hown, hts⟩ (c_X5_begin l D cI cS b a tk tg tl to ta te ts tr cnt lv kd gd ln st H.size) (cwV 0 hts gX6_run_X5_begin rfl rfl rfl (by decide +kernel) ⟨Nat.le_of_ble_eq_true rfl, Nat.le_of_ble_eq_true rfl⟩) hK hP hD hS hA [1, 2, 3, 4, 5, 6, 7, 8, 9, 10, 11, 12, 13] [0] (wr := [(h 0, .inr (6, [.ref (q_ 0), .ref (x_ 0), .ref (b 0), .ref (a 0), .ref (d_ 0), .ref (r_ 0), .int (iI lf), .int (iI tc)]))]) rfl rfl (by decide) (by decide) (by decide) 0 5 rfl rfl rfl [0, 1, 2, 3, 4, 5, 6, 7, 8, 9, 10, 11, 12, 13] (fun (u : (Int → Int) × (Int → Int)) => (W_A_T_P cI cS h q_ x_ b a d_ r_ lf tc b a u.1 u.2 lv to ta te ts tr a cnt lv kd gd ln st)) (fun _ => rfl) (by decide) rfl hl.1 rfl (Nat.le_of_ble_eq_true rfl) ⟨Nat.zero_le _, Nat.zero_le _⟩ dX6_run_29 (fun u_ H locs hw hP hD hS => ?_)
        obtain ⟨tk2, tg2⟩ := u_
        try dsimp only at hw
        have hk2 := hw
        have hP : va_P D vwCl (W_A_T_P cI cS h q_ x_ b a d_ r_ lf tc b a tk2 tg2 lv to ta te ts tr a cnt lv kd gd ln st) H := hP
        have hD : va_D A (W_A_T_P cI cS h q_ x_ b a d_ r_ lf tc b a tk2 tg2 lv to ta te ts tr a cnt lv kd gd ln st) := hD
        have hko2 : okK cnt tk2 tg2 lv := ⟨fun j h0 h1 => by rw [(hk2 j h0 (by omega)).1, (hk2 j h0 (by omega)).2]; exact hkd.1 j h0 h1, hkd.2⟩
        have hse : ∀ (L f : Int), 0 ≤ f → f < cnt → sem tk2 tg2 L ln st f = sem kd gd L ln st f := fun L f h0 h1 => sem_pre hok h0 h1 (fun j a b => hk2 j a (by omega))
        refine lv_aload_n hx hb dX6_run_32 rfl (lv_at hl 0 rfl) ?_
        refine va_get (D := D) (ci := 6) (v := .ref (b 0)) (C := RX6) (T := TX6) (N := 8) hx hb hts iw_6 hown hK.1 hP 0 rfl rfl 2 (by decide) fl_27 (fun _ h9 => h9) rfl dX6_run_33 ?_
        refine x_callVv (As := []) (rest := []) ⟨hx, hb, hml, hown, hts⟩ (c_X5_settleAll l D cI cS b a tk2 tg2 lv to ta te ts tr cnt lv kd gd ln st H.size (by first | assumption | omega) hko2) (cwV 0 hts gX6_run_X5_settleAll rfl rfl rfl (by decide +kernel) ⟨Nat.le_of_ble_eq_true rfl, Nat.le_of_ble_eq_true rfl⟩) hK hP hD hS hA [1, 2, 3, 4, 5, 6, 7, 8, 9, 10, 11, 12, 13] [0] (wr := [(h 0, .inr (6, [.ref (q_ 0), .ref (x_ 0), .ref (b 0), .ref (a 0), .ref (d_ 0), .ref (r_ 0), .int (iI lf), .int (iI tc)]))]) rfl rfl (by decide) (by decide) (by decide) 0 5 rfl rfl rfl [0, 1, 2, 3, 4, 5, 6, 7, 8, 9, 10, 11, 12, 13] (fun (u : (Int → Int) × (Int → Int) × (Int → Int) × (Int → Int)) => (W_A_T_P cI cS h q_ x_ b a d_ r_ lf tc b a tk2 tg2 lv u.1 u.2.1 u.2.2.1 u.2.2.2 tr a cnt lv kd gd ln st)) (fun _ => rfl) (by decide) rfl hl.1 rfl (Nat.le_of_ble_eq_true rfl) ⟨Nat.zero_le _, Nat.zero_le _⟩ dX6_run_36 (fun u_ H locs hw hP hD hS => ?_)
        obtain ⟨to2, ta_4, te_5, ts_6⟩ := u_
        try dsimp only at hw
        have hT2 := hw
        have hP : va_P D vwCl (W_A_T_P cI cS h q_ x_ b a d_ r_ lf tc b a tk2 tg2 lv to2 ta_4 te_5 ts_6 tr a cnt lv kd gd ln st) H := hP
        have hD : va_D A (W_A_T_P cI cS h q_ x_ b a d_ r_ lf tc b a tk2 tg2 lv to2 ta_4 te_5 ts_6 tr a cnt lv kd gd ln st) := hD
        have hO2 := hT2 f hf.1 hf.2
        have hO3 := (sem_ok (K := tk2) (G := tg2) (L := lv) hok f hf.1 hf.2).1
        rw [hse lv f hf.1 hf.2] at hO2 hO3
        refine lv_iload_n hx hb dX6_run_39 rfl (lv_at hl 2 rfl) ?_
        by_cases c_7 : w = 0
        ·
          refine n_tableIn (off := 28) (tgt := 68) hx hb 0 dX6_run_40 c_7 (by decide) rfl (by decide) ?_
          refine lv_aload_n hx hb dX6_run_68 rfl (lv_at hl 0 rfl) ?_
          refine va_get (D := D) (ci := 6) (v := .ref (b 0)) (C := RX6) (T := TX6) (N := 8) hx hb hts iw_6 hown hK.1 hP 0 rfl rfl 2 (by decide) fl_27 (fun _ h9 => h9) rfl dX6_run_69 ?_
          refine va_getN (D := D) (ci := 5) (v := .ref (b 3)) (C := RX5) (T := TX5) (N := 9) hx hb hts iw_5 hown hK.1 hP 1 rfl rfl 4 (by decide) fn_146 (fun _ h9 => h9) rfl dX6_run_72 ?_
          refine lv_iload_n hx hb dX6_run_75 rfl (lv_at hl 1 rfl) ?_
          refine n_iald (n := 5) hx hb hK.1 hP 4 0 rfl rfl (by omega) (by decide) dX6_run_76 ?_
          refine lv_iconst (v := iI 4) hx hb dX6_run_77 (by decide +kernel) ?_
          refine n_icmp_ne (tgt := 86) hx hb dX6_run_78 (by decide) (by omega) (fun c_8 => ?_) (fun c_8 => ?_)
          ·
            refine lv_aload_n hx hb dX6_run_86 rfl (lv_at hl 0 rfl) ?_
            refine va_get (D := D) (ci := 6) (v := .ref (b 0)) (C := RX6) (T := TX6) (N := 8) hx hb hts iw_6 hown hK.1 hP 0 rfl rfl 2 (by decide) fl_27 (fun _ h9 => h9) rfl dX6_run_87 ?_
            refine va_getN (D := D) (ci := 5) (v := .ref (b 3)) (C := RX5) (T := TX5) (N := 9) hx hb hts iw_5 hown hK.1 hP 1 rfl rfl 4 (by decide) fn_146 (fun _ h9 => h9) rfl dX6_run_90 ?_
            refine lv_iload_n hx hb dX6_run_93 rfl (lv_at hl 1 rfl) ?_
            refine n_iald (n := 5) hx hb hK.1 hP 4 0 rfl rfl (by omega) (by decide) dX6_run_94 ?_
            exact W.iret (v := iI (to2 f)) hx hb hr (fun t ht hW => ⟨⟨_, (tk2, tg2, lv, to2, ta_4, te_5, ts_6), rfl, congrArg iI (show (to2 f) = (sRun cnt lv kd gd ln st f w) from (by unfold sRun; rw [if_pos (by omega), if_pos (by omega)]; unfold runA; rw [if_pos (by omega)]; omega)), by rw [ht]; exact hP, hD⟩, hS.F ht⟩) hS.2.2 dX6_run_95
          ·
            refine lv_bipush (v := iI (-9)) hx hb dX6_run_81 (by decide +kernel) ?_
            refine lv_goto (tgt := 95) hx hb dX6_run_83 (by decide) ?_
            exact W.iret (v := iI (-9)) hx hb hr (fun t ht hW => ⟨⟨_, (tk2, tg2, lv, to2, ta_4, te_5, ts_6), rfl, congrArg iI (show (-9) = (sRun cnt lv kd gd ln st f w) from (by unfold sRun; rw [if_pos (by omega), if_pos (by omega)]; unfold runA; rw [if_pos (by omega)]; omega)), by rw [ht]; exact hP, hD⟩, hS.F ht⟩) hS.2.2 dX6_run_95
        by_cases c_9 : w = 1
        ·
          refine n_tableIn (off := 56) (tgt := 96) hx hb 1 dX6_run_40 c_9 (by decide) rfl (by decide) ?_
          refine lv_aload_n hx hb dX6_run_96 rfl (lv_at hl 0 rfl) ?_
          refine va_get (D := D) (ci := 6) (v := .ref (b 0)) (C := RX6) (T := TX6) (N := 8) hx hb hts iw_6 hown hK.1 hP 0 rfl rfl 2 (by decide) fl_27 (fun _ h9 => h9) rfl dX6_run_97 ?_
          refine va_getN (D := D) (ci := 5) (v := .ref (b 4)) (C := RX5) (T := TX5) (N := 9) hx hb hts iw_5 hown hK.1 hP 1 rfl rfl 5 (by decide) fn_149 (fun _ h9 => h9) rfl dX6_run_100 ?_
          refine lv_iload_n hx hb dX6_run_103 rfl (lv_at hl 1 rfl) ?_
          refine n_iald (n := 5) hx hb hK.1 hP 5 0 rfl rfl (by omega) (by decide) dX6_run_104 ?_
          exact W.iret (v := iI (ta_4 f)) hx hb hr (fun t ht hW => ⟨⟨_, (tk2, tg2, lv, to2, ta_4, te_5, ts_6), rfl, congrArg iI (show (ta_4 f) = (sRun cnt lv kd gd ln st f w) from (by unfold sRun; rw [if_pos (by omega), if_pos (by omega)]; unfold runA; rw [if_neg (by omega), if_pos (by omega)]; exact hO2.2.1)), by rw [ht]; exact hP, hD⟩, hS.F ht⟩) hS.2.2 dX6_run_105
        by_cases c_10 : w = 2
        ·
          refine n_tableIn (off := 66) (tgt := 106) hx hb 2 dX6_run_40 c_10 (by decide) rfl (by decide) ?_
          refine lv_aload_n hx hb dX6_run_106 rfl (lv_at hl 0 rfl) ?_
          refine va_get (D := D) (ci := 6) (v := .ref (b 0)) (C := RX6) (T := TX6) (N := 8) hx hb hts iw_6 hown hK.1 hP 0 rfl rfl 2 (by decide) fl_27 (fun _ h9 => h9) rfl dX6_run_107 ?_
          refine va_getN (D := D) (ci := 5) (v := .ref (b 5)) (C := RX5) (T := TX5) (N := 9) hx hb hts iw_5 hown hK.1 hP 1 rfl rfl 6 (by decide) fn_152 (fun _ h9 => h9) rfl dX6_run_110 ?_
          refine lv_iload_n hx hb dX6_run_113 rfl (lv_at hl 1 rfl) ?_
          refine n_iald (n := 5) hx hb hK.1 hP 6 0 rfl rfl (by omega) (by decide) dX6_run_114 ?_
          exact W.iret (v := iI (te_5 f)) hx hb hr (fun t ht hW => ⟨⟨_, (tk2, tg2, lv, to2, ta_4, te_5, ts_6), rfl, congrArg iI (show (te_5 f) = (sRun cnt lv kd gd ln st f w) from (by unfold sRun; rw [if_pos (by omega), if_pos (by omega)]; unfold runA; rw [if_neg (by omega), if_neg (by omega), if_pos (by omega)]; exact hO2.2.2.1)), by rw [ht]; exact hP, hD⟩, hS.F ht⟩) hS.2.2 dX6_run_115
        refine n_tableOut (tgt := 116) hx hb dX6_run_40 (by omega) (by omega) (by decide) ?_
        refine lv_aload_n hx hb dX6_run_116 rfl (lv_at hl 0 rfl) ?_
        refine va_get (D := D) (ci := 6) (v := .ref (b 0)) (C := RX6) (T := TX6) (N := 8) hx hb hts iw_6 hown hK.1 hP 0 rfl rfl 2 (by decide) fl_27 (fun _ h9 => h9) rfl dX6_run_117 ?_
        refine lv_iload_n hx hb dX6_run_120 rfl (lv_at hl 1 rfl) ?_
        refine x_callVi (As := [.int (iI f)]) (rest := []) ⟨hx, hb, hml, hown, hts⟩ (c_X5_pathLength l D cI cS b a tk2 tg2 lv to2 ta_4 te_5 ts_6 tr cnt lv kd gd ln st H.size f (by first | assumption | omega) hT2 (by first | assumption | omega)) (cwV 1 hts gX6_run_X5_pathLength rfl rfl rfl (by decide +kernel) ⟨Nat.le_of_ble_eq_true rfl, Nat.le_of_ble_eq_true rfl⟩) hK hP hD hS hA [1, 2, 3, 4, 5, 6, 7, 8, 9, 10, 11, 12, 13] [0] (wr := [(h 0, .inr (6, [.ref (q_ 0), .ref (x_ 0), .ref (b 0), .ref (a 0), .ref (d_ 0), .ref (r_ 0), .int (iI lf), .int (iI tc)]))]) rfl rfl (by decide) (by decide) (by decide) 0 5 rfl rfl rfl [0, 1, 2, 3, 4, 5, 6, 7, 8, 9, 10, 11, 12, 13] (fun (u : Unit) => (W_A_T_P cI cS h q_ x_ b a d_ r_ lf tc b a tk2 tg2 lv to2 ta_4 te_5 ts_6 tr a cnt lv kd gd ln st)) (fun _ => rfl) (by decide) rfl hl.1 rfl (Nat.le_of_ble_eq_true rfl) ⟨Nat.zero_le _, Nat.zero_le _⟩ dX6_run_121 (fun r_ u_ H locs hw hP hD hS => ?_)
        try dsimp only at hw
        subst hw
        have hP : va_P D vwCl (W_A_T_P cI cS h q_ x_ b a d_ r_ lf tc b a tk2 tg2 lv to2 ta_4 te_5 ts_6 tr a cnt lv kd gd ln st) H := hP
        have hD : va_D A (W_A_T_P cI cS h q_ x_ b a d_ r_ lf tc b a tk2 tg2 lv to2 ta_4 te_5 ts_6 tr a cnt lv kd gd ln st) := hD
        exact W.iret (v := iI ((sem tk2 tg2 lv ln st f).2.2.2.length : Int)) hx hb hr (fun t ht hW => ⟨⟨_, (tk2, tg2, lv, to2, ta_4, te_5, ts_6), rfl, congrArg iI (show ((sem tk2 tg2 lv ln st f).2.2.2.length : Int) = (sRun cnt lv kd gd ln st f w) from (by unfold sRun; rw [if_pos (by omega), if_pos (by omega)]; unfold runA; rw [if_neg (by omega), if_neg (by omega), if_neg (by omega), hse lv f hf.1 hf.2])), by rw [ht]; exact hP, hD⟩, hS.F ht⟩) hS.2.2 dX6_run_124
      ·
        refine lv_bipush (v := iI (-2)) hx hb dX6_run_22 (by decide +kernel) ?_
        exact W.iret (v := iI (-2)) hx hb hr (fun t ht hW => ⟨⟨_, (tk, tg, tl, to, ta, te, ts), rfl, congrArg iI (show (-2) = (sRun cnt lv kd gd ln st f w) from (by unfold sRun; (repeat (first | rw [if_pos (by omega)] | rw [if_neg (by omega)])))), by rw [ht]; exact hP, hD⟩, hS.F ht⟩) hS.2.2 dX6_run_24
  ·
    refine lv_iconst (v := iI (-1)) hx hb dX6_run_11 (by decide +kernel) ?_
    exact W.iret (v := iI (-1)) hx hb hr (fun t ht hW => ⟨⟨_, (tk, tg, tl, to, ta, te, ts), rfl, congrArg iI (show (-1) = (sRun cnt lv kd gd ln st f w) from (by unfold sRun; (repeat (first | rw [if_pos (by omega)] | rw [if_neg (by omega)])))), by rw [ht]; exact hP, hD⟩, hS.F ht⟩) hS.2.2 dX6_run_12
set_option maxHeartbeats 4000000 in
set_option maxRecDepth 100000 in
theorem c_X6_performed (l : Launch) (D : va_G) (cI cS : ClassId) (h : Nat → Nat) (q_ : Nat → Nat) (x_ : Nat → Nat) (b : Nat → Nat) (a : Nat → Nat) (d_ : Nat → Nat) (r_ : Nat → Nat) (lf : Int) (tc : Int) (tk : Int → Int) (tg : Int → Int) (tl : Int) (to : Int → Int) (ta : Int → Int) (te : Int → Int) (ts : Int → Int) (tr : Int → Int) (cnt : Int) (lv : Int) (kd : Int → Int) (gd : Int → Int) (ln : Int → Int) (st : Int → Int) (sz : Nat) (f : Int) (k : Int) (hok : okP cnt ln st) (hkd : okK cnt kd gd lv) (hfr : -2147483648 ≤ f ∧ f < 2147483648) (hkr : -2147483648 ≤ k ∧ k < 2147483648) : Met l yX6_performed wsX6_performed ({ frames := 6, cells := 0, slots := 0, locals := 139 }) (cP D cI cS (W_A_T_P cI cS h q_ x_ b a d_ r_ lf tc b a tk tg tl to ta te ts tr a cnt lv kd gd ln st) sz [.ref (h 0), .int (iI f), .int (iI k)]) (va_Qi (fun (r : Int32) (u : (Int → Int) × (Int → Int) × Int × (Int → Int) × (Int → Int) × (Int → Int) × (Int → Int)) => r = iI (sPerf cnt lv kd gd ln st f k)) (fun (u : (Int → Int) × (Int → Int) × Int × (Int → Int) × (Int → Int) × (Int → Int) × (Int → Int)) t => cB D (va_A (W_A_T_P cI cS h q_ x_ b a d_ r_ lf tc b a tk tg tl to ta te ts tr a cnt lv kd gd ln st) sz) (W_A_T_P cI cS h q_ x_ b a d_ r_ lf tc b a u.1 u.2.1 u.2.2.1 u.2.2.2.1 u.2.2.2.2.1 u.2.2.2.2.2.1 u.2.2.2.2.2.2 tr a cnt lv kd gd ln st) t) (va_A (W_A_T_P cI cS h q_ x_ b a d_ r_ lf tc b a tk tg tl to ta te ts tr a cnt lv kd gd ln st) sz)) 0 0 (va_A (W_A_T_P cI cS h q_ x_ b a d_ r_ lf tc b a tk tg tl to ta te ts tr a cnt lv kd gd ln st) sz) := by
  refine Met.ofW (cc := cX6_performed) (maxL := 3) (ret := (some .int)) (by decide) rfl ?_
  intro p e s m args below meth c_ s₁ B hml hv
  obtain ⟨rfl, hsz, hP, hK, hD0⟩ := hv
  have hx := B.exec
  have hb := B.bytes
  have hr := B.returns
  have hts := atoms_spec (ws := wsX6_performed) B.pre
  have hown : s.vm.findClass RX6 = some m.cls := findClass_of_methodNamed B.named
  have hlocks := B.notSynchronized
  subst hsz
  have hD := hD0.self (sz := s.heap.size)
  generalize hAe : va_A (W_A_T_P cI cS h q_ x_ b a d_ r_ lf tc b a tk tg tl to ta te ts tr a cnt lv kd gd ln st) s.heap.size = A at hD ⊢
  have hA : ∀ q : Nat, s.heap.size ≤ q → A q := fun q h => by rw [← hAe]; exact Or.inr h
  have hS : va_S A s.heap s.heap [] := va_S.rf
  have hP : va_P D vwCl (W_A_T_P cI cS h q_ x_ b a d_ r_ lf tc b a tk tg tl to ta te ts tr a cnt lv kd gd ln st) s.heap := hP
  have hl := lv_entry ([.ref (h 0), .int (iI f), .int (iI k)] : List Value) (n := 3) (Nat.le_of_ble_eq_true rfl)
  rw [lg_entry_eq]
  generalize (lg_sl ([.ref (h 0), .int (iI f), .int (iI k)] : List Value) ++ List.replicate (3 - (lg_sl ([.ref (h 0), .int (iI f), .int (iI k)] : List Value)).length) Slot.unset).toArray = ls at hl ⊢
  have hl : lv_has ls 3 [(0, .ref (h 0)), (1, .int (iI f)), (2, .int (iI k))] := hl
  have fl_35 := hts (.fieldLink RX6 35 "ActRows" "told" "LActRows$Program;") (by decide +kernel)
  have iw_6 : ∀ w ∈ wsX60, w ∈ wsX6_performed := by decide +kernel
  have fl_27 := hts (.fieldLink RX6 27 "ActRows" "trial" "LActRows$Trial;") (by decide +kernel)
  have hc := hok.1
  have hln := hok.2.1
  refine lv_aload_n hx hb dX6_performed_0 rfl (lv_at hl 0 rfl) ?_
  refine va_get (D := D) (ci := 6) (v := .ref (a 0)) (C := RX6) (T := TX6) (N := 8) hx hb hts iw_6 hown hK.1 hP 0 rfl rfl 3 (by decide) fl_35 (fun _ h9 => h9) rfl dX6_performed_1 ?_
  refine lv_iload_n hx hb dX6_performed_4 rfl (lv_at hl 1 rfl) ?_
  refine x_callVi (As := [.int (iI f)]) (rest := []) ⟨hx, hb, hml, hown, hts⟩ (c_X1_has l D cI cS a cnt lv kd gd ln st s.heap.size f (by first | assumption | omega) (by first | assumption | omega)) (cwV 1 hts gX6_performed_X1_has rfl rfl rfl (by decide +kernel) ⟨Nat.le_of_ble_eq_true rfl, Nat.le_of_ble_eq_true rfl⟩) hK hP hD hS hA [9, 10, 11, 12, 13] [0, 1, 2, 3, 4, 5, 6, 7, 8] (wr := [(h 0, .inr (6, [.ref (q_ 0), .ref (x_ 0), .ref (b 0), .ref (a 0), .ref (d_ 0), .ref (r_ 0), .int (iI lf), .int (iI tc)])), (b 0, .inr (5, [.ref (a 0), .ref (b 1), .ref (b 2), .int (iI tl), .ref (b 3), .ref (b 4), .ref (b 5), .ref (b 6), .ref (b 7)])), (b 1, .inl (cI, 5, .inl (aI tk))), (b 2, .inl (cI, 5, .inl (aI tg))), (b 3, .inl (cI, 5, .inl (aI to))), (b 4, .inl (cI, 5, .inl (aI ta))), (b 5, .inl (cI, 5, .inl (aI te))), (b 6, .inl (cI, 5, .inl (aI ts))), (b 7, .inl (cI, 5, .inl (aI tr)))]) rfl rfl (by decide) (by decide) (by decide) 0 1 rfl rfl rfl [0, 1, 2, 3, 4, 5, 6, 7, 8, 9, 10, 11, 12, 13] (fun (u : Unit) => (W_A_T_P cI cS h q_ x_ b a d_ r_ lf tc b a tk tg tl to ta te ts tr a cnt lv kd gd ln st)) (fun _ => rfl) (by decide) rfl hl.1 rfl (Nat.le_of_ble_eq_true rfl) ⟨Nat.zero_le _, Nat.zero_le _⟩ dX6_performed_5 (fun r_ u_ H locs hw hP hD hS => ?_)
  try dsimp only at hw
  subst hw
  have hP : va_P D vwCl (W_A_T_P cI cS h q_ x_ b a d_ r_ lf tc b a tk tg tl to ta te ts tr a cnt lv kd gd ln st) H := hP
  have hD : va_D A (W_A_T_P cI cS h q_ x_ b a d_ r_ lf tc b a tk tg tl to ta te ts tr a cnt lv kd gd ln st) := hD
  refine n_if_b2 (tgt := 13) hx hb dX6_performed_8 (by decide)  (fun c_1 => ?_) (fun c_1 => ?_)
  ·
    have hf : 0 ≤ f ∧ f < cnt := by assumption
    refine lv_iload_n hx hb dX6_performed_13 rfl (lv_at hl 2 rfl) ?_
    refine n_if_ge (tgt := 20) hx hb dX6_performed_14 (by decide) (by omega) (fun c_2 => ?_) (fun c_2 => ?_)
    ·
      refine lv_aload_n hx hb dX6_performed_20 rfl (lv_at hl 0 rfl) ?_
      refine va_get (D := D) (ci := 6) (v := .ref (b 0)) (C := RX6) (T := TX6) (N := 8) hx hb hts iw_6 hown hK.1 hP 0 rfl rfl 2 (by decide) fl_27 (fun _ h9 => h9) rfl dX6_performed_21 ?_
      refine x_callVv (As := []) (rest := []) ⟨hx, hb, hml, hown, hts⟩ (c_X5_begin l D cI cS b a tk tg tl to ta te ts tr cnt lv kd gd ln st H.size) (cwV 0 hts gX6_performed_X5_begin rfl rfl rfl (by decide +kernel) ⟨Nat.le_of_ble_eq_true rfl, Nat.le_of_ble_eq_true rfl⟩) hK hP hD hS hA [1, 2, 3, 4, 5, 6, 7, 8, 9, 10, 11, 12, 13] [0] (wr := [(h 0, .inr (6, [.ref (q_ 0), .ref (x_ 0), .ref (b 0), .ref (a 0), .ref (d_ 0), .ref (r_ 0), .int (iI lf), .int (iI tc)]))]) rfl rfl (by decide) (by decide) (by decide) 0 5 rfl rfl rfl [0, 1, 2, 3, 4, 5, 6, 7, 8, 9, 10, 11, 12, 13] (fun (u : (Int → Int) × (Int → Int)) => (W_A_T_P cI cS h q_ x_ b a d_ r_ lf tc b a u.1 u.2 lv to ta te ts tr a cnt lv kd gd ln st)) (fun _ => rfl) (by decide) rfl hl.1 rfl (Nat.le_of_ble_eq_true rfl) ⟨Nat.zero_le _, Nat.zero_le _⟩ dX6_performed_24 (fun u_ H locs hw hP hD hS => ?_)
      obtain ⟨tk2, tg2⟩ := u_
      try dsimp only at hw
      have hk2 := hw
      have hP : va_P D vwCl (W_A_T_P cI cS h q_ x_ b a d_ r_ lf tc b a tk2 tg2 lv to ta te ts tr a cnt lv kd gd ln st) H := hP
      have hD : va_D A (W_A_T_P cI cS h q_ x_ b a d_ r_ lf tc b a tk2 tg2 lv to ta te ts tr a cnt lv kd gd ln st) := hD
      have hko2 : okK cnt tk2 tg2 lv := ⟨fun j h0 h1 => by rw [(hk2 j h0 (by omega)).1, (hk2 j h0 (by omega)).2]; exact hkd.1 j h0 h1, hkd.2⟩
      have hse : ∀ (L f : Int), 0 ≤ f → f < cnt → sem tk2 tg2 L ln st f = sem kd gd L ln st f := fun L f h0 h1 => sem_pre hok h0 h1 (fun j a b => hk2 j a (by omega))
      refine lv_aload_n hx hb dX6_performed_27 rfl (lv_at hl 0 rfl) ?_
      refine va_get (D := D) (ci := 6) (v := .ref (b 0)) (C := RX6) (T := TX6) (N := 8) hx hb hts iw_6 hown hK.1 hP 0 rfl rfl 2 (by decide) fl_27 (fun _ h9 => h9) rfl dX6_performed_28 ?_
      refine x_callVv (As := []) (rest := []) ⟨hx, hb, hml, hown, hts⟩ (c_X5_settleAll l D cI cS b a tk2 tg2 lv to ta te ts tr cnt lv kd gd ln st H.size (by first | assumption | omega) hko2) (cwV 0 hts gX6_performed_X5_settleAll rfl rfl rfl (by decide +kernel) ⟨Nat.le_of_ble_eq_true rfl, Nat.le_of_ble_eq_true rfl⟩) hK hP hD hS hA [1, 2, 3, 4, 5, 6, 7, 8, 9, 10, 11, 12, 13] [0] (wr := [(h 0, .inr (6, [.ref (q_ 0), .ref (x_ 0), .ref (b 0), .ref (a 0), .ref (d_ 0), .ref (r_ 0), .int (iI lf), .int (iI tc)]))]) rfl rfl (by decide) (by decide) (by decide) 0 5 rfl rfl rfl [0, 1, 2, 3, 4, 5, 6, 7, 8, 9, 10, 11, 12, 13] (fun (u : (Int → Int) × (Int → Int) × (Int → Int) × (Int → Int)) => (W_A_T_P cI cS h q_ x_ b a d_ r_ lf tc b a tk2 tg2 lv u.1 u.2.1 u.2.2.1 u.2.2.2 tr a cnt lv kd gd ln st)) (fun _ => rfl) (by decide) rfl hl.1 rfl (Nat.le_of_ble_eq_true rfl) ⟨Nat.zero_le _, Nat.zero_le _⟩ dX6_performed_31 (fun u_ H locs hw hP hD hS => ?_)
      obtain ⟨to2, ta_3, te_4, ts_5⟩ := u_
      try dsimp only at hw
      have hT2 := hw
      have hP : va_P D vwCl (W_A_T_P cI cS h q_ x_ b a d_ r_ lf tc b a tk2 tg2 lv to2 ta_3 te_4 ts_5 tr a cnt lv kd gd ln st) H := hP
      have hD : va_D A (W_A_T_P cI cS h q_ x_ b a d_ r_ lf tc b a tk2 tg2 lv to2 ta_3 te_4 ts_5 tr a cnt lv kd gd ln st) := hD
      refine lv_aload_n hx hb dX6_performed_34 rfl (lv_at hl 0 rfl) ?_
      refine va_get (D := D) (ci := 6) (v := .ref (b 0)) (C := RX6) (T := TX6) (N := 8) hx hb hts iw_6 hown hK.1 hP 0 rfl rfl 2 (by decide) fl_27 (fun _ h9 => h9) rfl dX6_performed_35 ?_
      refine lv_iload_n hx hb dX6_performed_38 rfl (lv_at hl 1 rfl) ?_
      refine lv_iload_n hx hb dX6_performed_39 rfl (lv_at hl 2 rfl) ?_
      refine x_callVi (As := [.int (iI f), .int (iI k)]) (rest := []) ⟨hx, hb, hml, hown, hts⟩ (c_X5_actAt l D cI cS b a tk2 tg2 lv to2 ta_3 te_4 ts_5 tr cnt lv kd gd ln st H.size f k (by first | assumption | omega) hko2 hT2 (by first | assumption | omega) (by first | assumption | omega)) (cwV 2 hts gX6_performed_X5_actAt rfl rfl rfl (by decide +kernel) ⟨Nat.le_of_ble_eq_true rfl, Nat.le_of_ble_eq_true rfl⟩) hK hP hD hS hA [1, 2, 3, 4, 5, 6, 7, 8, 9, 10, 11, 12, 13] [0] (wr := [(h 0, .inr (6, [.ref (q_ 0), .ref (x_ 0), .ref (b 0), .ref (a 0), .ref (d_ 0), .ref (r_ 0), .int (iI lf), .int (iI tc)]))]) rfl rfl (by decide) (by decide) (by decide) 0 5 rfl rfl rfl [0, 1, 2, 3, 4, 5, 6, 7, 8, 9, 10, 11, 12, 13] (fun (u : Unit) => (W_A_T_P cI cS h q_ x_ b a d_ r_ lf tc b a tk2 tg2 lv to2 ta_3 te_4 ts_5 tr a cnt lv kd gd ln st)) (fun _ => rfl) (by decide) rfl hl.1 rfl (Nat.le_of_ble_eq_true rfl) ⟨Nat.zero_le _, Nat.zero_le _⟩ dX6_performed_40 (fun r_ u_ H locs hw hP hD hS => ?_)
      try dsimp only at hw
      subst hw
      have hP : va_P D vwCl (W_A_T_P cI cS h q_ x_ b a d_ r_ lf tc b a tk2 tg2 lv to2 ta_3 te_4 ts_5 tr a cnt lv kd gd ln st) H := hP
      have hD : va_D A (W_A_T_P cI cS h q_ x_ b a d_ r_ lf tc b a tk2 tg2 lv to2 ta_3 te_4 ts_5 tr a cnt lv kd gd ln st) := hD
      exact W.iret (v := iI ((sem tk2 tg2 lv ln st f).2.1.getD k.toNat (-9))) hx hb hr (fun t ht hW => ⟨⟨_, (tk2, tg2, lv, to2, ta_3, te_4, ts_5), rfl, congrArg iI (show ((sem tk2 tg2 lv ln st f).2.1.getD k.toNat (-9)) = (sPerf cnt lv kd gd ln st f k) from (by unfold sPerf; rw [if_pos (by omega), if_neg (by omega), hse lv f hf.1 hf.2])), by rw [ht]; exact hP, hD⟩, hS.F ht⟩) hS.2.2 dX6_performed_43
    ·
      refine lv_bipush (v := iI (-2)) hx hb dX6_performed_17 (by decide +kernel) ?_
      exact W.iret (v := iI (-2)) hx hb hr (fun t ht hW => ⟨⟨_, (tk, tg, tl, to, ta, te, ts), rfl, congrArg iI (show (-2) = (sPerf cnt lv kd gd ln st f k) from (by unfold sPerf; (repeat (first | rw [if_pos (by omega)] | rw [if_neg (by omega)])))), by rw [ht]; exact hP, hD⟩, hS.F ht⟩) hS.2.2 dX6_performed_19
  ·
    refine lv_iconst (v := iI (-1)) hx hb dX6_performed_11 (by decide +kernel) ?_
    exact W.iret (v := iI (-1)) hx hb hr (fun t ht hW => ⟨⟨_, (tk, tg, tl, to, ta, te, ts), rfl, congrArg iI (show (-1) = (sPerf cnt lv kd gd ln st f k) from (by unfold sPerf; (repeat (first | rw [if_pos (by omega)] | rw [if_neg (by omega)])))), by rw [ht]; exact hP, hD⟩, hS.F ht⟩) hS.2.2 dX6_performed_12
set_option maxHeartbeats 4000000 in
set_option maxRecDepth 100000 in
theorem c_X6_path (l : Launch) (D : va_G) (cI cS : ClassId) (h : Nat → Nat) (q_ : Nat → Nat) (x_ : Nat → Nat) (b : Nat → Nat) (a : Nat → Nat) (d_ : Nat → Nat) (r_ : Nat → Nat) (lf : Int) (tc : Int) (tk : Int → Int) (tg : Int → Int) (tl : Int) (to : Int → Int) (ta : Int → Int) (te : Int → Int) (ts : Int → Int) (tr : Int → Int) (cnt : Int) (lv : Int) (kd : Int → Int) (gd : Int → Int) (ln : Int → Int) (st : Int → Int) (sz : Nat) (f : Int) (k : Int) (hok : okP cnt ln st) (hkd : okK cnt kd gd lv) (hfr : -2147483648 ≤ f ∧ f < 2147483648) (hkr : -2147483648 ≤ k ∧ k < 2147483648) : Met l yX6_path wsX6_path ({ frames := 5, cells := 0, slots := 0, locals := 110 }) (cP D cI cS (W_A_T_P cI cS h q_ x_ b a d_ r_ lf tc b a tk tg tl to ta te ts tr a cnt lv kd gd ln st) sz [.ref (h 0), .int (iI f), .int (iI k)]) (va_Qi (fun (r : Int32) (u : (Int → Int) × (Int → Int) × Int × (Int → Int) × (Int → Int) × (Int → Int) × (Int → Int)) => r = iI (sPath cnt lv kd gd ln st f k)) (fun (u : (Int → Int) × (Int → Int) × Int × (Int → Int) × (Int → Int) × (Int → Int) × (Int → Int)) t => cB D (va_A (W_A_T_P cI cS h q_ x_ b a d_ r_ lf tc b a tk tg tl to ta te ts tr a cnt lv kd gd ln st) sz) (W_A_T_P cI cS h q_ x_ b a d_ r_ lf tc b a u.1 u.2.1 u.2.2.1 u.2.2.2.1 u.2.2.2.2.1 u.2.2.2.2.2.1 u.2.2.2.2.2.2 tr a cnt lv kd gd ln st) t) (va_A (W_A_T_P cI cS h q_ x_ b a d_ r_ lf tc b a tk tg tl to ta te ts tr a cnt lv kd gd ln st) sz)) 0 0 (va_A (W_A_T_P cI cS h q_ x_ b a d_ r_ lf tc b a tk tg tl to ta te ts tr a cnt lv kd gd ln st) sz) := by
  refine Met.ofW (cc := cX6_path) (maxL := 3) (ret := (some .int)) (by decide) rfl ?_
  intro p e s m args below meth c_ s₁ B hml hv
  obtain ⟨rfl, hsz, hP, hK, hD0⟩ := hv
  have hx := B.exec
  have hb := B.bytes
  have hr := B.returns
  have hts := atoms_spec (ws := wsX6_path) B.pre
  have hown : s.vm.findClass RX6 = some m.cls := findClass_of_methodNamed B.named
  have hlocks := B.notSynchronized
  subst hsz
  have hD := hD0.self (sz := s.heap.size)
  generalize hAe : va_A (W_A_T_P cI cS h q_ x_ b a d_ r_ lf tc b a tk tg tl to ta te ts tr a cnt lv kd gd ln st) s.heap.size = A at hD ⊢
  have hA : ∀ q : Nat, s.heap.size ≤ q → A q := fun q h => by rw [← hAe]; exact Or.inr h
  have hS : va_S A s.heap s.heap [] := va_S.rf
  have hP : va_P D vwCl (W_A_T_P cI cS h q_ x_ b a d_ r_ lf tc b a tk tg tl to ta te ts tr a cnt lv kd gd ln st) s.heap := hP
  have hl := lv_entry ([.ref (h 0), .int (iI f), .int (iI k)] : List Value) (n := 3) (Nat.le_of_ble_eq_true rfl)
  rw [lg_entry_eq]
  generalize (lg_sl ([.ref (h 0), .int (iI f), .int (iI k)] : List Value) ++ List.replicate (3 - (lg_sl ([.ref (h 0), .int (iI f), .int (iI k)] : List Value)).length) Slot.unset).toArray = ls at hl ⊢
  have hl : lv_has ls 3 [(0, .ref (h 0)), (1, .int (iI f)), (2, .int (iI k))] := hl
  have fl_35 := hts (.fieldLink RX6 35 "ActRows" "told" "LActRows$Program;") (by decide +kernel)
  have iw_6 : ∀ w ∈ wsX60, w ∈ wsX6_path := by decide +kernel
  have fl_27 := hts (.fieldLink RX6 27 "ActRows" "trial" "LActRows$Trial;") (by decide +kernel)
  have hc := hok.1
  have hln := hok.2.1
  refine lv_aload_n hx hb dX6_path_0 rfl (lv_at hl 0 rfl) ?_
  refine va_get (D := D) (ci := 6) (v := .ref (a 0)) (C := RX6) (T := TX6) (N := 8) hx hb hts iw_6 hown hK.1 hP 0 rfl rfl 3 (by decide) fl_35 (fun _ h9 => h9) rfl dX6_path_1 ?_
  refine lv_iload_n hx hb dX6_path_4 rfl (lv_at hl 1 rfl) ?_
  refine x_callVi (As := [.int (iI f)]) (rest := []) ⟨hx, hb, hml, hown, hts⟩ (c_X1_has l D cI cS a cnt lv kd gd ln st s.heap.size f (by first | assumption | omega) (by first | assumption | omega)) (cwV 1 hts gX6_path_X1_has rfl rfl rfl (by decide +kernel) ⟨Nat.le_of_ble_eq_true rfl, Nat.le_of_ble_eq_true rfl⟩) hK hP hD hS hA [9, 10, 11, 12, 13] [0, 1, 2, 3, 4, 5, 6, 7, 8] (wr := [(h 0, .inr (6, [.ref (q_ 0), .ref (x_ 0), .ref (b 0), .ref (a 0), .ref (d_ 0), .ref (r_ 0), .int (iI lf), .int (iI tc)])), (b 0, .inr (5, [.ref (a 0), .ref (b 1), .ref (b 2), .int (iI tl), .ref (b 3), .ref (b 4), .ref (b 5), .ref (b 6), .ref (b 7)])), (b 1, .inl (cI, 5, .inl (aI tk))), (b 2, .inl (cI, 5, .inl (aI tg))), (b 3, .inl (cI, 5, .inl (aI to))), (b 4, .inl (cI, 5, .inl (aI ta))), (b 5, .inl (cI, 5, .inl (aI te))), (b 6, .inl (cI, 5, .inl (aI ts))), (b 7, .inl (cI, 5, .inl (aI tr)))]) rfl rfl (by decide) (by decide) (by decide) 0 1 rfl rfl rfl [0, 1, 2, 3, 4, 5, 6, 7, 8, 9, 10, 11, 12, 13] (fun (u : Unit) => (W_A_T_P cI cS h q_ x_ b a d_ r_ lf tc b a tk tg tl to ta te ts tr a cnt lv kd gd ln st)) (fun _ => rfl) (by decide) rfl hl.1 rfl (Nat.le_of_ble_eq_true rfl) ⟨Nat.zero_le _, Nat.zero_le _⟩ dX6_path_5 (fun r_ u_ H locs hw hP hD hS => ?_)
  try dsimp only at hw
  subst hw
  have hP : va_P D vwCl (W_A_T_P cI cS h q_ x_ b a d_ r_ lf tc b a tk tg tl to ta te ts tr a cnt lv kd gd ln st) H := hP
  have hD : va_D A (W_A_T_P cI cS h q_ x_ b a d_ r_ lf tc b a tk tg tl to ta te ts tr a cnt lv kd gd ln st) := hD
  refine n_if_b2 (tgt := 13) hx hb dX6_path_8 (by decide)  (fun c_1 => ?_) (fun c_1 => ?_)
  ·
    have hf : 0 ≤ f ∧ f < cnt := by assumption
    refine lv_iload_n hx hb dX6_path_13 rfl (lv_at hl 2 rfl) ?_
    refine n_if_lt (tgt := 22) hx hb dX6_path_14 (by decide) (by omega) (fun c_2 => ?_) (fun c_2 => ?_)
    ·
      refine lv_bipush (v := iI (-2)) hx hb dX6_path_22 (by decide +kernel) ?_
      exact W.iret (v := iI (-2)) hx hb hr (fun t ht hW => ⟨⟨_, (tk, tg, tl, to, ta, te, ts), rfl, congrArg iI (show (-2) = (sPath cnt lv kd gd ln st f k) from (by unfold sPath; (repeat (first | rw [if_pos (by omega)] | rw [if_neg (by omega)])))), by rw [ht]; exact hP, hD⟩, hS.F ht⟩) hS.2.2 dX6_path_24
    ·
      refine lv_iload_n hx hb dX6_path_17 rfl (lv_at hl 2 rfl) ?_
      refine lv_iconst (v := iI 5) hx hb dX6_path_18 (by decide +kernel) ?_
      refine n_icmp_lt (tgt := 25) hx hb dX6_path_19 (by decide) (by omega) (fun c_3 => ?_) (fun c_3 => ?_)
      ·
        refine lv_aload_n hx hb dX6_path_25 rfl (lv_at hl 0 rfl) ?_
        refine va_get (D := D) (ci := 6) (v := .ref (b 0)) (C := RX6) (T := TX6) (N := 8) hx hb hts iw_6 hown hK.1 hP 0 rfl rfl 2 (by decide) fl_27 (fun _ h9 => h9) rfl dX6_path_26 ?_
        refine x_callVv (As := []) (rest := []) ⟨hx, hb, hml, hown, hts⟩ (c_X5_begin l D cI cS b a tk tg tl to ta te ts tr cnt lv kd gd ln st H.size) (cwV 0 hts gX6_path_X5_begin rfl rfl rfl (by decide +kernel) ⟨Nat.le_of_ble_eq_true rfl, Nat.le_of_ble_eq_true rfl⟩) hK hP hD hS hA [1, 2, 3, 4, 5, 6, 7, 8, 9, 10, 11, 12, 13] [0] (wr := [(h 0, .inr (6, [.ref (q_ 0), .ref (x_ 0), .ref (b 0), .ref (a 0), .ref (d_ 0), .ref (r_ 0), .int (iI lf), .int (iI tc)]))]) rfl rfl (by decide) (by decide) (by decide) 0 5 rfl rfl rfl [0, 1, 2, 3, 4, 5, 6, 7, 8, 9, 10, 11, 12, 13] (fun (u : (Int → Int) × (Int → Int)) => (W_A_T_P cI cS h q_ x_ b a d_ r_ lf tc b a u.1 u.2 lv to ta te ts tr a cnt lv kd gd ln st)) (fun _ => rfl) (by decide) rfl hl.1 rfl (Nat.le_of_ble_eq_true rfl) ⟨Nat.zero_le _, Nat.zero_le _⟩ dX6_path_29 (fun u_ H locs hw hP hD hS => ?_)
        obtain ⟨tk2, tg2⟩ := u_
        try dsimp only at hw
        have hk2 := hw
        have hP : va_P D vwCl (W_A_T_P cI cS h q_ x_ b a d_ r_ lf tc b a tk2 tg2 lv to ta te ts tr a cnt lv kd gd ln st) H := hP
        have hD : va_D A (W_A_T_P cI cS h q_ x_ b a d_ r_ lf tc b a tk2 tg2 lv to ta te ts tr a cnt lv kd gd ln st) := hD
        have hko2 : okK cnt tk2 tg2 lv := ⟨fun j h0 h1 => by rw [(hk2 j h0 (by omega)).1, (hk2 j h0 (by omega)).2]; exact hkd.1 j h0 h1, hkd.2⟩
        have hse : ∀ (L f : Int), 0 ≤ f → f < cnt → sem tk2 tg2 L ln st f = sem kd gd L ln st f := fun L f h0 h1 => sem_pre hok h0 h1 (fun j a b => hk2 j a (by omega))
        refine lv_aload_n hx hb dX6_path_32 rfl (lv_at hl 0 rfl) ?_
        refine va_get (D := D) (ci := 6) (v := .ref (b 0)) (C := RX6) (T := TX6) (N := 8) hx hb hts iw_6 hown hK.1 hP 0 rfl rfl 2 (by decide) fl_27 (fun _ h9 => h9) rfl dX6_path_33 ?_
        refine x_callVv (As := []) (rest := []) ⟨hx, hb, hml, hown, hts⟩ (c_X5_settleAll l D cI cS b a tk2 tg2 lv to ta te ts tr cnt lv kd gd ln st H.size (by first | assumption | omega) hko2) (cwV 0 hts gX6_path_X5_settleAll rfl rfl rfl (by decide +kernel) ⟨Nat.le_of_ble_eq_true rfl, Nat.le_of_ble_eq_true rfl⟩) hK hP hD hS hA [1, 2, 3, 4, 5, 6, 7, 8, 9, 10, 11, 12, 13] [0] (wr := [(h 0, .inr (6, [.ref (q_ 0), .ref (x_ 0), .ref (b 0), .ref (a 0), .ref (d_ 0), .ref (r_ 0), .int (iI lf), .int (iI tc)]))]) rfl rfl (by decide) (by decide) (by decide) 0 5 rfl rfl rfl [0, 1, 2, 3, 4, 5, 6, 7, 8, 9, 10, 11, 12, 13] (fun (u : (Int → Int) × (Int → Int) × (Int → Int) × (Int → Int)) => (W_A_T_P cI cS h q_ x_ b a d_ r_ lf tc b a tk2 tg2 lv u.1 u.2.1 u.2.2.1 u.2.2.2 tr a cnt lv kd gd ln st)) (fun _ => rfl) (by decide) rfl hl.1 rfl (Nat.le_of_ble_eq_true rfl) ⟨Nat.zero_le _, Nat.zero_le _⟩ dX6_path_36 (fun u_ H locs hw hP hD hS => ?_)
        obtain ⟨to2, ta_4, te_5, ts_6⟩ := u_
        try dsimp only at hw
        have hT2 := hw
        have hP : va_P D vwCl (W_A_T_P cI cS h q_ x_ b a d_ r_ lf tc b a tk2 tg2 lv to2 ta_4 te_5 ts_6 tr a cnt lv kd gd ln st) H := hP
        have hD : va_D A (W_A_T_P cI cS h q_ x_ b a d_ r_ lf tc b a tk2 tg2 lv to2 ta_4 te_5 ts_6 tr a cnt lv kd gd ln st) := hD
        refine lv_aload_n hx hb dX6_path_39 rfl (lv_at hl 0 rfl) ?_
        refine va_get (D := D) (ci := 6) (v := .ref (b 0)) (C := RX6) (T := TX6) (N := 8) hx hb hts iw_6 hown hK.1 hP 0 rfl rfl 2 (by decide) fl_27 (fun _ h9 => h9) rfl dX6_path_40 ?_
        refine lv_iload_n hx hb dX6_path_43 rfl (lv_at hl 1 rfl) ?_
        refine lv_iload_n hx hb dX6_path_44 rfl (lv_at hl 2 rfl) ?_
        refine x_callVi (As := [.int (iI f), .int (iI k)]) (rest := []) ⟨hx, hb, hml, hown, hts⟩ (c_X5_pathAt l D cI cS b a tk2 tg2 lv to2 ta_4 te_5 ts_6 tr cnt lv kd gd ln st H.size f k (by first | assumption | omega) hT2 (by first | assumption | omega) (by first | assumption | omega)) (cwV 2 hts gX6_path_X5_pathAt rfl rfl rfl (by decide +kernel) ⟨Nat.le_of_ble_eq_true rfl, Nat.le_of_ble_eq_true rfl⟩) hK hP hD hS hA [1, 2, 3, 4, 5, 6, 7, 8, 9, 10, 11, 12, 13] [0] (wr := [(h 0, .inr (6, [.ref (q_ 0), .ref (x_ 0), .ref (b 0), .ref (a 0), .ref (d_ 0), .ref (r_ 0), .int (iI lf), .int (iI tc)]))]) rfl rfl (by decide) (by decide) (by decide) 0 5 rfl rfl rfl [0, 1, 2, 3, 4, 5, 6, 7, 8, 9, 10, 11, 12, 13] (fun (u : Unit) => (W_A_T_P cI cS h q_ x_ b a d_ r_ lf tc b a tk2 tg2 lv to2 ta_4 te_5 ts_6 tr a cnt lv kd gd ln st)) (fun _ => rfl) (by decide) rfl hl.1 rfl (Nat.le_of_ble_eq_true rfl) ⟨Nat.zero_le _, Nat.zero_le _⟩ dX6_path_45 (fun r_ u_ H locs hw hP hD hS => ?_)
        try dsimp only at hw
        subst hw
        have hP : va_P D vwCl (W_A_T_P cI cS h q_ x_ b a d_ r_ lf tc b a tk2 tg2 lv to2 ta_4 te_5 ts_6 tr a cnt lv kd gd ln st) H := hP
        have hD : va_D A (W_A_T_P cI cS h q_ x_ b a d_ r_ lf tc b a tk2 tg2 lv to2 ta_4 te_5 ts_6 tr a cnt lv kd gd ln st) := hD
        exact W.iret (v := iI ((sem tk2 tg2 lv ln st f).2.2.2.getD k.toNat (-9))) hx hb hr (fun t ht hW => ⟨⟨_, (tk2, tg2, lv, to2, ta_4, te_5, ts_6), rfl, congrArg iI (show ((sem tk2 tg2 lv ln st f).2.2.2.getD k.toNat (-9)) = (sPath cnt lv kd gd ln st f k) from (by unfold sPath; rw [if_pos (by omega), if_pos (by omega), hse lv f hf.1 hf.2])), by rw [ht]; exact hP, hD⟩, hS.F ht⟩) hS.2.2 dX6_path_48
      ·
        refine lv_bipush (v := iI (-2)) hx hb dX6_path_22 (by decide +kernel) ?_
        exact W.iret (v := iI (-2)) hx hb hr (fun t ht hW => ⟨⟨_, (tk, tg, tl, to, ta, te, ts), rfl, congrArg iI (show (-2) = (sPath cnt lv kd gd ln st f k) from (by unfold sPath; (repeat (first | rw [if_pos (by omega)] | rw [if_neg (by omega)])))), by rw [ht]; exact hP, hD⟩, hS.F ht⟩) hS.2.2 dX6_path_24
  ·
    refine lv_iconst (v := iI (-1)) hx hb dX6_path_11 (by decide +kernel) ?_
    exact W.iret (v := iI (-1)) hx hb hr (fun t ht hW => ⟨⟨_, (tk, tg, tl, to, ta, te, ts), rfl, congrArg iI (show (-1) = (sPath cnt lv kd gd ln st f k) from (by unfold sPath; (repeat (first | rw [if_pos (by omega)] | rw [if_neg (by omega)])))), by rw [ht]; exact hP, hD⟩, hS.F ht⟩) hS.2.2 dX6_path_12
set_option maxHeartbeats 4000000 in
set_option maxRecDepth 100000 in
theorem c_X6_witness (l : Launch) (D : va_G) (cI cS : ClassId) (h : Nat → Nat) (q_ : Nat → Nat) (x_ : Nat → Nat) (b : Nat → Nat) (a : Nat → Nat) (d_ : Nat → Nat) (r_ : Nat → Nat) (lf : Int) (tc : Int) (tk : Int → Int) (tg : Int → Int) (tl : Int) (to : Int → Int) (ta : Int → Int) (te : Int → Int) (ts : Int → Int) (tr : Int → Int) (cnt : Int) (lv : Int) (kd : Int → Int) (gd : Int → Int) (ln : Int → Int) (st : Int → Int) (sz : Nat) (f : Int) (x : Int) (hok : okP cnt ln st) (hkd : okK cnt kd gd lv) (hfr : -2147483648 ≤ f ∧ f < 2147483648) (hxr : -2147483648 ≤ x ∧ x < 2147483648) : Met l yX6_witness wsX6_witness ({ frames := 6, cells := 0, slots := 0, locals := 131 }) (cP D cI cS (W_A_T_P cI cS h q_ x_ b a d_ r_ lf tc b a tk tg tl to ta te ts tr a cnt lv kd gd ln st) sz [.ref (h 0), .int (iI f), .int (iI x)]) (va_Qi (fun (r : Int32) (u : (Int → Int) × (Int → Int) × Int × (Int → Int) × (Int → Int) × (Int → Int) × (Int → Int)) => r = iI (sWit cnt kd gd ln st f x)) (fun (u : (Int → Int) × (Int → Int) × Int × (Int → Int) × (Int → Int) × (Int → Int) × (Int → Int)) t => cB D (va_A (W_A_T_P cI cS h q_ x_ b a d_ r_ lf tc b a tk tg tl to ta te ts tr a cnt lv kd gd ln st) sz) (W_A_T_P cI cS h q_ x_ b a d_ r_ lf tc b a u.1 u.2.1 u.2.2.1 u.2.2.2.1 u.2.2.2.2.1 u.2.2.2.2.2.1 u.2.2.2.2.2.2 tr a cnt lv kd gd ln st) t) (va_A (W_A_T_P cI cS h q_ x_ b a d_ r_ lf tc b a tk tg tl to ta te ts tr a cnt lv kd gd ln st) sz)) 0 0 (va_A (W_A_T_P cI cS h q_ x_ b a d_ r_ lf tc b a tk tg tl to ta te ts tr a cnt lv kd gd ln st) sz) := by
  refine Met.ofW (cc := cX6_witness) (maxL := 4) (ret := (some .int)) (by decide) rfl ?_
  intro p e s m args below meth c_ s₁ B hml hv
  obtain ⟨rfl, hsz, hP, hK, hD0⟩ := hv
  have hx := B.exec
  have hb := B.bytes
  have hr := B.returns
  have hts := atoms_spec (ws := wsX6_witness) B.pre
  have hown : s.vm.findClass RX6 = some m.cls := findClass_of_methodNamed B.named
  have hlocks := B.notSynchronized
  subst hsz
  have hD := hD0.self (sz := s.heap.size)
  generalize hAe : va_A (W_A_T_P cI cS h q_ x_ b a d_ r_ lf tc b a tk tg tl to ta te ts tr a cnt lv kd gd ln st) s.heap.size = A at hD ⊢
  have hA : ∀ q : Nat, s.heap.size ≤ q → A q := fun q h => by rw [← hAe]; exact Or.inr h
  have hS : va_S A s.heap s.heap [] := va_S.rf
  have hP : va_P D vwCl (W_A_T_P cI cS h q_ x_ b a d_ r_ lf tc b a tk tg tl to ta te ts tr a cnt lv kd gd ln st) s.heap := hP
  have hl := lv_entry ([.ref (h 0), .int (iI f), .int (iI x)] : List Value) (n := 4) (Nat.le_of_ble_eq_true rfl)
  rw [lg_entry_eq]
  generalize (lg_sl ([.ref (h 0), .int (iI f), .int (iI x)] : List Value) ++ List.replicate (4 - (lg_sl ([.ref (h 0), .int (iI f), .int (iI x)] : List Value)).length) Slot.unset).toArray = ls at hl ⊢
  have hl : lv_has ls 4 [(0, .ref (h 0)), (1, .int (iI f)), (2, .int (iI x))] := hl
  have fl_35 := hts (.fieldLink RX6 35 "ActRows" "told" "LActRows$Program;") (by decide +kernel)
  have iw_6 : ∀ w ∈ wsX60, w ∈ wsX6_witness := by decide +kernel
  have fl_27 := hts (.fieldLink RX6 27 "ActRows" "trial" "LActRows$Trial;") (by decide +kernel)
  have fn_146 := va_Nw.use (A := ([.ref (h 0), .int (iI f), .int (iI x)] : List Value).toArray) rfl (hK.2 ("ActRows", 146, "ActRows$Trial", "outs", "[I") (List.mem_of_getElem? (i := 3) rfl))
  have iw_5 : ∀ w ∈ wsX50, w ∈ wsX6_witness := by decide +kernel
  have hc := hok.1
  have hln := hok.2.1
  refine lv_aload_n hx hb dX6_witness_0 rfl (lv_at hl 0 rfl) ?_
  refine va_get (D := D) (ci := 6) (v := .ref (a 0)) (C := RX6) (T := TX6) (N := 8) hx hb hts iw_6 hown hK.1 hP 0 rfl rfl 3 (by decide) fl_35 (fun _ h9 => h9) rfl dX6_witness_1 ?_
  refine lv_iload_n hx hb dX6_witness_4 rfl (lv_at hl 1 rfl) ?_
  refine x_callVi (As := [.int (iI f)]) (rest := []) ⟨hx, hb, hml, hown, hts⟩ (c_X1_has l D cI cS a cnt lv kd gd ln st s.heap.size f (by first | assumption | omega) (by first | assumption | omega)) (cwV 1 hts gX6_witness_X1_has rfl rfl rfl (by decide +kernel) ⟨Nat.le_of_ble_eq_true rfl, Nat.le_of_ble_eq_true rfl⟩) hK hP hD hS hA [9, 10, 11, 12, 13] [0, 1, 2, 3, 4, 5, 6, 7, 8] (wr := [(h 0, .inr (6, [.ref (q_ 0), .ref (x_ 0), .ref (b 0), .ref (a 0), .ref (d_ 0), .ref (r_ 0), .int (iI lf), .int (iI tc)])), (b 0, .inr (5, [.ref (a 0), .ref (b 1), .ref (b 2), .int (iI tl), .ref (b 3), .ref (b 4), .ref (b 5), .ref (b 6), .ref (b 7)])), (b 1, .inl (cI, 5, .inl (aI tk))), (b 2, .inl (cI, 5, .inl (aI tg))), (b 3, .inl (cI, 5, .inl (aI to))), (b 4, .inl (cI, 5, .inl (aI ta))), (b 5, .inl (cI, 5, .inl (aI te))), (b 6, .inl (cI, 5, .inl (aI ts))), (b 7, .inl (cI, 5, .inl (aI tr)))]) rfl rfl (by decide) (by decide) (by decide) 0 1 rfl rfl rfl [0, 1, 2, 3, 4, 5, 6, 7, 8, 9, 10, 11, 12, 13] (fun (u : Unit) => (W_A_T_P cI cS h q_ x_ b a d_ r_ lf tc b a tk tg tl to ta te ts tr a cnt lv kd gd ln st)) (fun _ => rfl) (by decide) rfl hl.1 rfl (Nat.le_of_ble_eq_true rfl) ⟨Nat.zero_le _, Nat.zero_le _⟩ dX6_witness_5 (fun r_ u_ H locs hw hP hD hS => ?_)
  try dsimp only at hw
  subst hw
  have hP : va_P D vwCl (W_A_T_P cI cS h q_ x_ b a d_ r_ lf tc b a tk tg tl to ta te ts tr a cnt lv kd gd ln st) H := hP
  have hD : va_D A (W_A_T_P cI cS h q_ x_ b a d_ r_ lf tc b a tk tg tl to ta te ts tr a cnt lv kd gd ln st) := hD
  refine n_if_b2 (tgt := 13) hx hb dX6_witness_8 (by decide)  (fun c_1 => ?_) (fun c_1 => ?_)
  ·
    have hf : 0 ≤ f ∧ f < cnt := by assumption
    refine lv_iload_n hx hb dX6_witness_13 rfl (lv_at hl 2 rfl) ?_
    refine x_callSi (As := [.int (iI x)]) (rest := []) ⟨hx, hb, hml, hown, hts⟩ (c_X6_isAct l D cI cS H.size x (by first | assumption | omega)) (va_cwS 1 hts gX6_witness_X6_isAct rfl rfl rfl (by decide +kernel) ⟨Nat.le_of_ble_eq_true rfl, Nat.le_of_ble_eq_true rfl⟩) hK hP hD hS hA [] [0, 1, 2, 3, 4, 5, 6, 7, 8, 9, 10, 11, 12, 13] (wr := [(h 0, .inr (6, [.ref (q_ 0), .ref (x_ 0), .ref (b 0), .ref (a 0), .ref (d_ 0), .ref (r_ 0), .int (iI lf), .int (iI tc)])), (b 0, .inr (5, [.ref (a 0), .ref (b 1), .ref (b 2), .int (iI tl), .ref (b 3), .ref (b 4), .ref (b 5), .ref (b 6), .ref (b 7)])), (b 1, .inl (cI, 5, .inl (aI tk))), (b 2, .inl (cI, 5, .inl (aI tg))), (b 3, .inl (cI, 5, .inl (aI to))), (b 4, .inl (cI, 5, .inl (aI ta))), (b 5, .inl (cI, 5, .inl (aI te))), (b 6, .inl (cI, 5, .inl (aI ts))), (b 7, .inl (cI, 5, .inl (aI tr))), (a 0, .inr (1, [.ref (a 1), .ref (a 2), .ref (a 3), .ref (a 4), .int (iI cnt), .int (iI lv)])), (a 1, .inl (cI, 5, .inl (aI kd))), (a 2, .inl (cI, 5, .inl (aI gd))), (a 3, .inl (cI, 5, .inl (aI ln))), (a 4, .inl (cI, 20, .inl (aI st)))]) rfl rfl (by decide) (by decide) (by decide) [0, 1, 2, 3, 4, 5, 6, 7, 8, 9, 10, 11, 12, 13] (fun (u : Unit) => (W_A_T_P cI cS h q_ x_ b a d_ r_ lf tc b a tk tg tl to ta te ts tr a cnt lv kd gd ln st)) (fun _ => rfl) (by decide) rfl hl.1 rfl (Nat.le_of_ble_eq_true rfl) ⟨Nat.zero_le _, Nat.zero_le _⟩ dX6_witness_14 (fun r_ u_ H locs hw hP hD hS => ?_)
    try dsimp only at hw
    subst hw
    have hP : va_P D vwCl (W_A_T_P cI cS h q_ x_ b a d_ r_ lf tc b a tk tg tl to ta te ts tr a cnt lv kd gd ln st) H := hP
    have hD : va_D A (W_A_T_P cI cS h q_ x_ b a d_ r_ lf tc b a tk tg tl to ta te ts tr a cnt lv kd gd ln st) := hD
    refine n_if_b2 (tgt := 23) hx hb dX6_witness_17 (by decide)  (fun c_2 => ?_) (fun c_2 => ?_)
    ·
      refine lv_aload_n hx hb dX6_witness_23 rfl (lv_at hl 0 rfl) ?_
      refine va_get (D := D) (ci := 6) (v := .ref (b 0)) (C := RX6) (T := TX6) (N := 8) hx hb hts iw_6 hown hK.1 hP 0 rfl rfl 2 (by decide) fl_27 (fun _ h9 => h9) rfl dX6_witness_24 ?_
      refine x_callVv (As := []) (rest := []) ⟨hx, hb, hml, hown, hts⟩ (c_X5_begin l D cI cS b a tk tg tl to ta te ts tr cnt lv kd gd ln st H.size) (cwV 0 hts gX6_witness_X5_begin rfl rfl rfl (by decide +kernel) ⟨Nat.le_of_ble_eq_true rfl, Nat.le_of_ble_eq_true rfl⟩) hK hP hD hS hA [1, 2, 3, 4, 5, 6, 7, 8, 9, 10, 11, 12, 13] [0] (wr := [(h 0, .inr (6, [.ref (q_ 0), .ref (x_ 0), .ref (b 0), .ref (a 0), .ref (d_ 0), .ref (r_ 0), .int (iI lf), .int (iI tc)]))]) rfl rfl (by decide) (by decide) (by decide) 0 5 rfl rfl rfl [0, 1, 2, 3, 4, 5, 6, 7, 8, 9, 10, 11, 12, 13] (fun (u : (Int → Int) × (Int → Int)) => (W_A_T_P cI cS h q_ x_ b a d_ r_ lf tc b a u.1 u.2 lv to ta te ts tr a cnt lv kd gd ln st)) (fun _ => rfl) (by decide) rfl hl.1 rfl (Nat.le_of_ble_eq_true rfl) ⟨Nat.zero_le _, Nat.zero_le _⟩ dX6_witness_27 (fun u_ H locs hw hP hD hS => ?_)
      obtain ⟨tk2, tg2⟩ := u_
      try dsimp only at hw
      have hk2 := hw
      have hP : va_P D vwCl (W_A_T_P cI cS h q_ x_ b a d_ r_ lf tc b a tk2 tg2 lv to ta te ts tr a cnt lv kd gd ln st) H := hP
      have hD : va_D A (W_A_T_P cI cS h q_ x_ b a d_ r_ lf tc b a tk2 tg2 lv to ta te ts tr a cnt lv kd gd ln st) := hD
      have hko2 : okK cnt tk2 tg2 lv := ⟨fun j h0 h1 => by rw [(hk2 j h0 (by omega)).1, (hk2 j h0 (by omega)).2]; exact hkd.1 j h0 h1, hkd.2⟩
      have hse : ∀ (L f : Int), 0 ≤ f → f < cnt → sem tk2 tg2 L ln st f = sem kd gd L ln st f := fun L f h0 h1 => sem_pre hok h0 h1 (fun j a b => hk2 j a (by omega))
      refine lv_iconst (v := iI 0) hx hb dX6_witness_30 (by decide +kernel) ?_
      refine lv_istore_n (lv' := [(3, .int (iI 0)), (0, .ref (h 0)), (1, .int (iI f)), (2, .int (iI x))]) hx hb dX6_witness_31 rfl hl (by decide) rfl (fun ls hl => ?_)
      refine x_loop (σ := Int × Int × (Int → Int) × (Int → Int) × (Int → Int) × (Int → Int)) (fun (xv_ : Int × Int × (Int → Int) × (Int → Int) × (Int → Int) × (Int → Int)) => match xv_ with | (set, tl1, to1, ta1, te1, ts1) => (0 ≤ set ∧ set ≤ 16) ∧ (wfrom (fun x => (sem kd gd x ln st f).1) x (16 - set).toNat set = wfrom (fun x => (sem kd gd x ln st f).1) x 16 0)) (fun (xv_ : Int × Int × (Int → Int) × (Int → Int) × (Int → Int) × (Int → Int)) => match xv_ with | (set, tl1, to1, ta1, te1, ts1) => (16 - set).toNat) (fun (xv_ : Int × Int × (Int → Int) × (Int → Int) × (Int → Int) × (Int → Int)) => match xv_ with | (set, tl1, to1, ta1, te1, ts1) => (W_A_T_P cI cS h q_ x_ b a d_ r_ lf tc b a tk2 tg2 tl1 to1 ta1 te1 ts1 tr a cnt lv kd gd ln st)) (fun (xv_ : Int × Int × (Int → Int) × (Int → Int) × (Int → Int) × (Int → Int)) => match xv_ with | (set, tl1, to1, ta1, te1, ts1) => [(3, .int (iI set)), (0, .ref (h 0)), (1, .int (iI f)), (2, .int (iI x))]) (nL := 4) ?step_3 (0, lv, to, ta, te, ts) (by (try dsimp only); exact ⟨by omega, rfl⟩) hP hD hS hl
      case step_3 =>
        intro xv_ hI ih H locs ls hP hD hS hl
        obtain ⟨set, tl1, to1, ta1, te1, ts1⟩ := xv_
        try dsimp only at hI ih
        obtain ⟨hs_, hw2⟩ := hI
        have hP : va_P D vwCl (W_A_T_P cI cS h q_ x_ b a d_ r_ lf tc b a tk2 tg2 tl1 to1 ta1 te1 ts1 tr a cnt lv kd gd ln st) H := hP
        have hD : va_D A (W_A_T_P cI cS h q_ x_ b a d_ r_ lf tc b a tk2 tg2 tl1 to1 ta1 te1 ts1 tr a cnt lv kd gd ln st) := hD
        have hl : lv_has ls 4 [(3, .int (iI set)), (0, .ref (h 0)), (1, .int (iI f)), (2, .int (iI x))] := hl
        have ih_4 := ih
        refine lv_iload_n hx hb dX6_witness_32 rfl (lv_at hl 0 rfl) ?_
        refine lv_bipush (v := iI 16) hx hb dX6_witness_33 (by decide +kernel) ?_
        refine n_icmp_ge (tgt := 67) hx hb dX6_witness_35 (by decide) (by omega) (fun c_5 => ?_) (fun c_5 => ?_)
        ·
          refine lv_bipush (v := iI (-9)) hx hb dX6_witness_67 (by decide +kernel) ?_
          exact W.iret (v := iI (-9)) hx hb hr (fun t ht hW => ⟨⟨_, (tk2, tg2, tl1, to1, ta1, te1, ts1), rfl, congrArg iI (show (-9) = (sWit cnt kd gd ln st f x) from (by unfold sWit; rw [if_pos (by omega), if_pos (by omega), ← hw2, show (16 - set).toNat = 0 by omega]; rfl)), by rw [ht]; exact hP, hD⟩, hS.F ht⟩) hS.2.2 dX6_witness_69
        ·
          refine lv_aload_n hx hb dX6_witness_38 rfl (lv_at hl 1 rfl) ?_
          refine va_get (D := D) (ci := 6) (v := .ref (b 0)) (C := RX6) (T := TX6) (N := 8) hx hb hts iw_6 hown hK.1 hP 0 rfl rfl 2 (by decide) fl_27 (fun _ h9 => h9) rfl dX6_witness_39 ?_
          refine lv_iload_n hx hb dX6_witness_42 rfl (lv_at hl 0 rfl) ?_
          refine x_callVv (As := [.int (iI set)]) (rest := []) ⟨hx, hb, hml, hown, hts⟩ (c_X5_settleBy l D cI cS b a tk2 tg2 tl1 to1 ta1 te1 ts1 tr cnt lv kd gd ln st H.size set (by first | assumption | omega) ⟨hko2.1, by omega⟩) (cwV 1 hts gX6_witness_X5_settleBy rfl rfl rfl (by decide +kernel) ⟨Nat.le_of_ble_eq_true rfl, Nat.le_of_ble_eq_true rfl⟩) hK hP hD hS hA [1, 2, 3, 4, 5, 6, 7, 8, 9, 10, 11, 12, 13] [0] (wr := [(h 0, .inr (6, [.ref (q_ 0), .ref (x_ 0), .ref (b 0), .ref (a 0), .ref (d_ 0), .ref (r_ 0), .int (iI lf), .int (iI tc)]))]) rfl rfl (by decide) (by decide) (by decide) 0 5 rfl rfl rfl [0, 1, 2, 3, 4, 5, 6, 7, 8, 9, 10, 11, 12, 13] (fun (u : (Int → Int) × (Int → Int) × (Int → Int) × (Int → Int)) => (W_A_T_P cI cS h q_ x_ b a d_ r_ lf tc b a tk2 tg2 set u.1 u.2.1 u.2.2.1 u.2.2.2 tr a cnt lv kd gd ln st)) (fun _ => rfl) (by decide) rfl hl.1 rfl (Nat.le_of_ble_eq_true rfl) ⟨Nat.zero_le _, Nat.zero_le _⟩ dX6_witness_43 (fun u_ H locs hw hP hD hS => ?_)
          obtain ⟨to2, ta_6, te_7, ts_8⟩ := u_
          try dsimp only at hw
          have hT2 := hw
          have hP : va_P D vwCl (W_A_T_P cI cS h q_ x_ b a d_ r_ lf tc b a tk2 tg2 set to2 ta_6 te_7 ts_8 tr a cnt lv kd gd ln st) H := hP
          have hD : va_D A (W_A_T_P cI cS h q_ x_ b a d_ r_ lf tc b a tk2 tg2 set to2 ta_6 te_7 ts_8 tr a cnt lv kd gd ln st) := hD
          have hO2 := (hT2 f hf.1 hf.2).1
          have hO3 := (sem_ok (K := tk2) (G := tg2) (L := set) hok f hf.1 hf.2).1
          rw [hse set f hf.1 hf.2] at hO2 hO3
          refine lv_aload_n hx hb dX6_witness_46 rfl (lv_at hl 1 rfl) ?_
          refine va_get (D := D) (ci := 6) (v := .ref (b 0)) (C := RX6) (T := TX6) (N := 8) hx hb hts iw_6 hown hK.1 hP 0 rfl rfl 2 (by decide) fl_27 (fun _ h9 => h9) rfl dX6_witness_47 ?_
          refine va_getN (D := D) (ci := 5) (v := .ref (b 3)) (C := RX5) (T := TX5) (N := 9) hx hb hts iw_5 hown hK.1 hP 1 rfl rfl 4 (by decide) fn_146 (fun _ h9 => h9) rfl dX6_witness_50 ?_
          refine lv_iload_n hx hb dX6_witness_53 rfl (lv_at hl 2 rfl) ?_
          refine n_iald (n := 5) hx hb hK.1 hP 4 0 rfl rfl (by omega) (by decide) dX6_witness_54 ?_
          refine lv_iload_n hx hb dX6_witness_55 rfl (lv_at hl 3 rfl) ?_
          refine n_icmp_ne (tgt := 61) hx hb dX6_witness_56 (by decide) (by omega) (fun c_9 => ?_) (fun c_9 => ?_)
          ·
            refine n_iinc (lv' := [(3, .int (iI (set + 1))), (0, .ref (h 0)), (1, .int (iI f)), (2, .int (iI x))]) hx hb dX6_witness_61 hl (k := 0) rfl (by decide) rfl (fun ls hl => ?_)
            refine lv_goto (tgt := 32) hx hb dX6_witness_64 (by decide) ?_
            exact ih_4 ((set + 1), set, to2, ta_6, te_7, ts_8) (by (try dsimp only); exact ⟨by omega, by rw [← hw2, wfrom_s (x := set) (by omega), if_neg (by rw [← hO2]; assumption)]⟩) (by (try dsimp only); exact (by omega)) _ _ _ hP hD hS (lv_sub hl [0, 1, 2, 3] rfl)
          ·
            refine lv_iload_n hx hb dX6_witness_59 rfl (lv_at hl 0 rfl) ?_
            exact W.iret (v := iI set) hx hb hr (fun t ht hW => ⟨⟨_, (tk2, tg2, set, to2, ta_6, te_7, ts_8), rfl, congrArg iI (show set = (sWit cnt kd gd ln st f x) from (by unfold sWit; rw [if_pos (by omega), if_pos (by omega), ← hw2, wfrom_s (by omega), if_pos (by rw [← hO2]; assumption)])), by rw [ht]; exact hP, hD⟩, hS.F ht⟩) hS.2.2 dX6_witness_60
    ·
      refine lv_bipush (v := iI (-2)) hx hb dX6_witness_20 (by decide +kernel) ?_
      exact W.iret (v := iI (-2)) hx hb hr (fun t ht hW => ⟨⟨_, (tk, tg, tl, to, ta, te, ts), rfl, congrArg iI (show (-2) = (sWit cnt kd gd ln st f x) from (by unfold sWit; (repeat (first | rw [if_pos (by omega)] | rw [if_neg (by omega)])))), by rw [ht]; exact hP, hD⟩, hS.F ht⟩) hS.2.2 dX6_witness_22
  ·
    refine lv_iconst (v := iI (-1)) hx hb dX6_witness_11 (by decide +kernel) ?_
    exact W.iret (v := iI (-1)) hx hb hr (fun t ht hW => ⟨⟨_, (tk, tg, tl, to, ta, te, ts), rfl, congrArg iI (show (-1) = (sWit cnt kd gd ln st f x) from (by unfold sWit; (repeat (first | rw [if_pos (by omega)] | rw [if_neg (by omega)])))), by rw [ht]; exact hP, hD⟩, hS.F ht⟩) hS.2.2 dX6_witness_12
set_option maxHeartbeats 4000000 in
set_option maxRecDepth 100000 in
theorem c_X6_free (l : Launch) (D : va_G) (cI cS : ClassId) (h : Nat → Nat) (q_ : Nat → Nat) (x_ : Nat → Nat) (b : Nat → Nat) (a : Nat → Nat) (d_ : Nat → Nat) (r_ : Nat → Nat) (lf : Int) (tc : Int) (tk : Int → Int) (tg : Int → Int) (tl : Int) (to : Int → Int) (ta : Int → Int) (te : Int → Int) (ts : Int → Int) (tr : Int → Int) (cnt : Int) (lv : Int) (kd : Int → Int) (gd : Int → Int) (ln : Int → Int) (st : Int → Int) (sz : Nat) (f : Int) (g : Int) (hok : okP cnt ln st) (hkd : okK cnt kd gd lv) (hfr : -2147483648 ≤ f ∧ f < 2147483648) (hgr : -2147483648 ≤ g ∧ g < 2147483648) : Met l yX6_free wsX6_free ({ frames := 6, cells := 0, slots := 0, locals := 131 }) (cP D cI cS (W_A_T_P cI cS h q_ x_ b a d_ r_ lf tc b a tk tg tl to ta te ts tr a cnt lv kd gd ln st) sz [.ref (h 0), .int (iI f), .int (iI g)]) (va_Qi (fun (r : Int32) (u : (Int → Int) × (Int → Int) × Int × (Int → Int) × (Int → Int) × (Int → Int) × (Int → Int)) => r = iI (sFree cnt kd gd ln st f g)) (fun (u : (Int → Int) × (Int → Int) × Int × (Int → Int) × (Int → Int) × (Int → Int) × (Int → Int)) t => cB D (va_A (W_A_T_P cI cS h q_ x_ b a d_ r_ lf tc b a tk tg tl to ta te ts tr a cnt lv kd gd ln st) sz) (W_A_T_P cI cS h q_ x_ b a d_ r_ lf tc b a u.1 u.2.1 u.2.2.1 u.2.2.2.1 u.2.2.2.2.1 u.2.2.2.2.2.1 u.2.2.2.2.2.2 tr a cnt lv kd gd ln st) t) (va_A (W_A_T_P cI cS h q_ x_ b a d_ r_ lf tc b a tk tg tl to ta te ts tr a cnt lv kd gd ln st) sz)) 0 0 (va_A (W_A_T_P cI cS h q_ x_ b a d_ r_ lf tc b a tk tg tl to ta te ts tr a cnt lv kd gd ln st) sz) := by
  refine Met.ofW (cc := cX6_free) (maxL := 4) (ret := (some .int)) (by decide) rfl ?_
  intro p e s m args below meth c_ s₁ B hml hv
  obtain ⟨rfl, hsz, hP, hK, hD0⟩ := hv
  have hx := B.exec
  have hb := B.bytes
  have hr := B.returns
  have hts := atoms_spec (ws := wsX6_free) B.pre
  have hown : s.vm.findClass RX6 = some m.cls := findClass_of_methodNamed B.named
  have hlocks := B.notSynchronized
  subst hsz
  have hD := hD0.self (sz := s.heap.size)
  generalize hAe : va_A (W_A_T_P cI cS h q_ x_ b a d_ r_ lf tc b a tk tg tl to ta te ts tr a cnt lv kd gd ln st) s.heap.size = A at hD ⊢
  have hA : ∀ q : Nat, s.heap.size ≤ q → A q := fun q h => by rw [← hAe]; exact Or.inr h
  have hS : va_S A s.heap s.heap [] := va_S.rf
  have hP : va_P D vwCl (W_A_T_P cI cS h q_ x_ b a d_ r_ lf tc b a tk tg tl to ta te ts tr a cnt lv kd gd ln st) s.heap := hP
  have hl := lv_entry ([.ref (h 0), .int (iI f), .int (iI g)] : List Value) (n := 4) (Nat.le_of_ble_eq_true rfl)
  rw [lg_entry_eq]
  generalize (lg_sl ([.ref (h 0), .int (iI f), .int (iI g)] : List Value) ++ List.replicate (4 - (lg_sl ([.ref (h 0), .int (iI f), .int (iI g)] : List Value)).length) Slot.unset).toArray = ls at hl ⊢
  have hl : lv_has ls 4 [(0, .ref (h 0)), (1, .int (iI f)), (2, .int (iI g))] := hl
  have fl_35 := hts (.fieldLink RX6 35 "ActRows" "told" "LActRows$Program;") (by decide +kernel)
  have iw_6 : ∀ w ∈ wsX60, w ∈ wsX6_free := by decide +kernel
  have fl_27 := hts (.fieldLink RX6 27 "ActRows" "trial" "LActRows$Trial;") (by decide +kernel)
  have hc := hok.1
  have hln := hok.2.1
  refine lv_aload_n hx hb dX6_free_0 rfl (lv_at hl 0 rfl) ?_
  refine va_get (D := D) (ci := 6) (v := .ref (a 0)) (C := RX6) (T := TX6) (N := 8) hx hb hts iw_6 hown hK.1 hP 0 rfl rfl 3 (by decide) fl_35 (fun _ h9 => h9) rfl dX6_free_1 ?_
  refine lv_iload_n hx hb dX6_free_4 rfl (lv_at hl 1 rfl) ?_
  refine x_callVi (As := [.int (iI f)]) (rest := []) ⟨hx, hb, hml, hown, hts⟩ (c_X1_has l D cI cS a cnt lv kd gd ln st s.heap.size f (by first | assumption | omega) (by first | assumption | omega)) (cwV 1 hts gX6_free_X1_has rfl rfl rfl (by decide +kernel) ⟨Nat.le_of_ble_eq_true rfl, Nat.le_of_ble_eq_true rfl⟩) hK hP hD hS hA [9, 10, 11, 12, 13] [0, 1, 2, 3, 4, 5, 6, 7, 8] (wr := [(h 0, .inr (6, [.ref (q_ 0), .ref (x_ 0), .ref (b 0), .ref (a 0), .ref (d_ 0), .ref (r_ 0), .int (iI lf), .int (iI tc)])), (b 0, .inr (5, [.ref (a 0), .ref (b 1), .ref (b 2), .int (iI tl), .ref (b 3), .ref (b 4), .ref (b 5), .ref (b 6), .ref (b 7)])), (b 1, .inl (cI, 5, .inl (aI tk))), (b 2, .inl (cI, 5, .inl (aI tg))), (b 3, .inl (cI, 5, .inl (aI to))), (b 4, .inl (cI, 5, .inl (aI ta))), (b 5, .inl (cI, 5, .inl (aI te))), (b 6, .inl (cI, 5, .inl (aI ts))), (b 7, .inl (cI, 5, .inl (aI tr)))]) rfl rfl (by decide) (by decide) (by decide) 0 1 rfl rfl rfl [0, 1, 2, 3, 4, 5, 6, 7, 8, 9, 10, 11, 12, 13] (fun (u : Unit) => (W_A_T_P cI cS h q_ x_ b a d_ r_ lf tc b a tk tg tl to ta te ts tr a cnt lv kd gd ln st)) (fun _ => rfl) (by decide) rfl hl.1 rfl (Nat.le_of_ble_eq_true rfl) ⟨Nat.zero_le _, Nat.zero_le _⟩ dX6_free_5 (fun r_ u_ H locs hw hP hD hS => ?_)
  try dsimp only at hw
  subst hw
  have hP : va_P D vwCl (W_A_T_P cI cS h q_ x_ b a d_ r_ lf tc b a tk tg tl to ta te ts tr a cnt lv kd gd ln st) H := hP
  have hD : va_D A (W_A_T_P cI cS h q_ x_ b a d_ r_ lf tc b a tk tg tl to ta te ts tr a cnt lv kd gd ln st) := hD
  refine n_if_b1 (tgt := 22) hx hb dX6_free_8 (by decide)  (fun c_1 => ?_) (fun c_1 => ?_)
  ·
    refine lv_iconst (v := iI (-1)) hx hb dX6_free_22 (by decide +kernel) ?_
    exact W.iret (v := iI (-1)) hx hb hr (fun t ht hW => ⟨⟨_, (tk, tg, tl, to, ta, te, ts), rfl, congrArg iI (show (-1) = (sFree cnt kd gd ln st f g) from (by unfold sFree; (repeat (first | rw [if_pos (by omega)] | rw [if_neg (by omega)])))), by rw [ht]; exact hP, hD⟩, hS.F ht⟩) hS.2.2 dX6_free_23
  ·
    refine lv_aload_n hx hb dX6_free_11 rfl (lv_at hl 0 rfl) ?_
    refine va_get (D := D) (ci := 6) (v := .ref (a 0)) (C := RX6) (T := TX6) (N := 8) hx hb hts iw_6 hown hK.1 hP 0 rfl rfl 3 (by decide) fl_35 (fun _ h9 => h9) rfl dX6_free_12 ?_
    refine lv_iload_n hx hb dX6_free_15 rfl (lv_at hl 2 rfl) ?_
    refine x_callVi (As := [.int (iI g)]) (rest := []) ⟨hx, hb, hml, hown, hts⟩ (c_X1_has l D cI cS a cnt lv kd gd ln st H.size g (by first | assumption | omega) (by first | assumption | omega)) (cwV 1 hts gX6_free_X1_has rfl rfl rfl (by decide +kernel) ⟨Nat.le_of_ble_eq_true rfl, Nat.le_of_ble_eq_true rfl⟩) hK hP hD hS hA [9, 10, 11, 12, 13] [0, 1, 2, 3, 4, 5, 6, 7, 8] (wr := [(h 0, .inr (6, [.ref (q_ 0), .ref (x_ 0), .ref (b 0), .ref (a 0), .ref (d_ 0), .ref (r_ 0), .int (iI lf), .int (iI tc)])), (b 0, .inr (5, [.ref (a 0), .ref (b 1), .ref (b 2), .int (iI tl), .ref (b 3), .ref (b 4), .ref (b 5), .ref (b 6), .ref (b 7)])), (b 1, .inl (cI, 5, .inl (aI tk))), (b 2, .inl (cI, 5, .inl (aI tg))), (b 3, .inl (cI, 5, .inl (aI to))), (b 4, .inl (cI, 5, .inl (aI ta))), (b 5, .inl (cI, 5, .inl (aI te))), (b 6, .inl (cI, 5, .inl (aI ts))), (b 7, .inl (cI, 5, .inl (aI tr)))]) rfl rfl (by decide) (by decide) (by decide) 0 1 rfl rfl rfl [0, 1, 2, 3, 4, 5, 6, 7, 8, 9, 10, 11, 12, 13] (fun (u : Unit) => (W_A_T_P cI cS h q_ x_ b a d_ r_ lf tc b a tk tg tl to ta te ts tr a cnt lv kd gd ln st)) (fun _ => rfl) (by decide) rfl hl.1 rfl (Nat.le_of_ble_eq_true rfl) ⟨Nat.zero_le _, Nat.zero_le _⟩ dX6_free_16 (fun r_ u_ H locs hw hP hD hS => ?_)
    try dsimp only at hw
    subst hw
    have hP : va_P D vwCl (W_A_T_P cI cS h q_ x_ b a d_ r_ lf tc b a tk tg tl to ta te ts tr a cnt lv kd gd ln st) H := hP
    have hD : va_D A (W_A_T_P cI cS h q_ x_ b a d_ r_ lf tc b a tk tg tl to ta te ts tr a cnt lv kd gd ln st) := hD
    refine n_if_b2 (tgt := 24) hx hb dX6_free_19 (by decide)  (fun c_2 => ?_) (fun c_2 => ?_)
    ·
      have hf : 0 ≤ f ∧ f < cnt := by assumption
      have hg : 0 ≤ g ∧ g < cnt := by assumption
      refine lv_aload_n hx hb dX6_free_24 rfl (lv_at hl 0 rfl) ?_
      refine va_get (D := D) (ci := 6) (v := .ref (b 0)) (C := RX6) (T := TX6) (N := 8) hx hb hts iw_6 hown hK.1 hP 0 rfl rfl 2 (by decide) fl_27 (fun _ h9 => h9) rfl dX6_free_25 ?_
      refine x_callVv (As := []) (rest := []) ⟨hx, hb, hml, hown, hts⟩ (c_X5_begin l D cI cS b a tk tg tl to ta te ts tr cnt lv kd gd ln st H.size) (cwV 0 hts gX6_free_X5_begin rfl rfl rfl (by decide +kernel) ⟨Nat.le_of_ble_eq_true rfl, Nat.le_of_ble_eq_true rfl⟩) hK hP hD hS hA [1, 2, 3, 4, 5, 6, 7, 8, 9, 10, 11, 12, 13] [0] (wr := [(h 0, .inr (6, [.ref (q_ 0), .ref (x_ 0), .ref (b 0), .ref (a 0), .ref (d_ 0), .ref (r_ 0), .int (iI lf), .int (iI tc)]))]) rfl rfl (by decide) (by decide) (by decide) 0 5 rfl rfl rfl [0, 1, 2, 3, 4, 5, 6, 7, 8, 9, 10, 11, 12, 13] (fun (u : (Int → Int) × (Int → Int)) => (W_A_T_P cI cS h q_ x_ b a d_ r_ lf tc b a u.1 u.2 lv to ta te ts tr a cnt lv kd gd ln st)) (fun _ => rfl) (by decide) rfl hl.1 rfl (Nat.le_of_ble_eq_true rfl) ⟨Nat.zero_le _, Nat.zero_le _⟩ dX6_free_28 (fun u_ H locs hw hP hD hS => ?_)
      obtain ⟨tk2, tg2⟩ := u_
      try dsimp only at hw
      have hk2 := hw
      have hP : va_P D vwCl (W_A_T_P cI cS h q_ x_ b a d_ r_ lf tc b a tk2 tg2 lv to ta te ts tr a cnt lv kd gd ln st) H := hP
      have hD : va_D A (W_A_T_P cI cS h q_ x_ b a d_ r_ lf tc b a tk2 tg2 lv to ta te ts tr a cnt lv kd gd ln st) := hD
      have hko2 : okK cnt tk2 tg2 lv := ⟨fun j h0 h1 => by rw [(hk2 j h0 (by omega)).1, (hk2 j h0 (by omega)).2]; exact hkd.1 j h0 h1, hkd.2⟩
      have hse : ∀ (L f : Int), 0 ≤ f → f < cnt → sem tk2 tg2 L ln st f = sem kd gd L ln st f := fun L f h0 h1 => sem_pre hok h0 h1 (fun j a b => hk2 j a (by omega))
      refine lv_iconst (v := iI 0) hx hb dX6_free_31 (by decide +kernel) ?_
      refine lv_istore_n (lv' := [(3, .int (iI 0)), (0, .ref (h 0)), (1, .int (iI f)), (2, .int (iI g))]) hx hb dX6_free_32 rfl hl (by decide) rfl (fun ls hl => ?_)
      refine x_loop (σ := Int × Int × (Int → Int) × (Int → Int) × (Int → Int) × (Int → Int)) (fun (xv_ : Int × Int × (Int → Int) × (Int → Int) × (Int → Int) × (Int → Int)) => match xv_ with | (set, tl1, to1, ta1, te1, ts1) => (0 ≤ set ∧ set ≤ 16) ∧ (freeB (fun x => (sem kd gd x ln st f).1) (fun x => (sem kd gd x ln st g).1) set.toNat = true)) (fun (xv_ : Int × Int × (Int → Int) × (Int → Int) × (Int → Int) × (Int → Int)) => match xv_ with | (set, tl1, to1, ta1, te1, ts1) => (16 - set).toNat) (fun (xv_ : Int × Int × (Int → Int) × (Int → Int) × (Int → Int) × (Int → Int)) => match xv_ with | (set, tl1, to1, ta1, te1, ts1) => (W_A_T_P cI cS h q_ x_ b a d_ r_ lf tc b a tk2 tg2 tl1 to1 ta1 te1 ts1 tr a cnt lv kd gd ln st)) (fun (xv_ : Int × Int × (Int → Int) × (Int → Int) × (Int → Int) × (Int → Int)) => match xv_ with | (set, tl1, to1, ta1, te1, ts1) => [(3, .int (iI set)), (0, .ref (h 0)), (1, .int (iI f)), (2, .int (iI g))]) (nL := 4) ?step_3 (0, lv, to, ta, te, ts) (by (try dsimp only); exact ⟨by omega, rfl⟩) hP hD hS hl
      case step_3 =>
        intro xv_ hI ih H locs ls hP hD hS hl
        obtain ⟨set, tl1, to1, ta1, te1, ts1⟩ := xv_
        try dsimp only at hI ih
        obtain ⟨hs_, hw2⟩ := hI
        have hP : va_P D vwCl (W_A_T_P cI cS h q_ x_ b a d_ r_ lf tc b a tk2 tg2 tl1 to1 ta1 te1 ts1 tr a cnt lv kd gd ln st) H := hP
        have hD : va_D A (W_A_T_P cI cS h q_ x_ b a d_ r_ lf tc b a tk2 tg2 tl1 to1 ta1 te1 ts1 tr a cnt lv kd gd ln st) := hD
        have hl : lv_has ls 4 [(3, .int (iI set)), (0, .ref (h 0)), (1, .int (iI f)), (2, .int (iI g))] := hl
        have ih_4 := ih
        refine lv_iload_n hx hb dX6_free_33 rfl (lv_at hl 0 rfl) ?_
        refine lv_bipush (v := iI 16) hx hb dX6_free_34 (by decide +kernel) ?_
        refine n_icmp_ge (tgt := 76) hx hb dX6_free_36 (by decide) (by omega) (fun c_5 => ?_) (fun c_5 => ?_)
        ·
          refine lv_iconst (v := iI 1) hx hb dX6_free_76 (by decide +kernel) ?_
          exact W.iret (v := iI 1) hx hb hr (fun t ht hW => ⟨⟨_, (tk2, tg2, tl1, to1, ta1, te1, ts1), rfl, congrArg iI (show 1 = (sFree cnt kd gd ln st f g) from (by unfold sFree; rw [if_pos (by omega), if_pos (by rw [show (16 : Nat) = set.toNat by omega]; exact hw2)])), by rw [ht]; exact hP, hD⟩, hS.F ht⟩) hS.2.2 dX6_free_77
        ·
          refine lv_aload_n hx hb dX6_free_39 rfl (lv_at hl 1 rfl) ?_
          refine va_get (D := D) (ci := 6) (v := .ref (b 0)) (C := RX6) (T := TX6) (N := 8) hx hb hts iw_6 hown hK.1 hP 0 rfl rfl 2 (by decide) fl_27 (fun _ h9 => h9) rfl dX6_free_40 ?_
          refine lv_iload_n hx hb dX6_free_43 rfl (lv_at hl 0 rfl) ?_
          refine x_callVv (As := [.int (iI set)]) (rest := []) ⟨hx, hb, hml, hown, hts⟩ (c_X5_settleBy l D cI cS b a tk2 tg2 tl1 to1 ta1 te1 ts1 tr cnt lv kd gd ln st H.size set (by first | assumption | omega) ⟨hko2.1, by omega⟩) (cwV 1 hts gX6_free_X5_settleBy rfl rfl rfl (by decide +kernel) ⟨Nat.le_of_ble_eq_true rfl, Nat.le_of_ble_eq_true rfl⟩) hK hP hD hS hA [1, 2, 3, 4, 5, 6, 7, 8, 9, 10, 11, 12, 13] [0] (wr := [(h 0, .inr (6, [.ref (q_ 0), .ref (x_ 0), .ref (b 0), .ref (a 0), .ref (d_ 0), .ref (r_ 0), .int (iI lf), .int (iI tc)]))]) rfl rfl (by decide) (by decide) (by decide) 0 5 rfl rfl rfl [0, 1, 2, 3, 4, 5, 6, 7, 8, 9, 10, 11, 12, 13] (fun (u : (Int → Int) × (Int → Int) × (Int → Int) × (Int → Int)) => (W_A_T_P cI cS h q_ x_ b a d_ r_ lf tc b a tk2 tg2 set u.1 u.2.1 u.2.2.1 u.2.2.2 tr a cnt lv kd gd ln st)) (fun _ => rfl) (by decide) rfl hl.1 rfl (Nat.le_of_ble_eq_true rfl) ⟨Nat.zero_le _, Nat.zero_le _⟩ dX6_free_44 (fun u_ H locs hw hP hD hS => ?_)
          obtain ⟨to2, ta_6, te_7, ts_8⟩ := u_
          try dsimp only at hw
          have hT2 := hw
          have hP : va_P D vwCl (W_A_T_P cI cS h q_ x_ b a d_ r_ lf tc b a tk2 tg2 set to2 ta_6 te_7 ts_8 tr a cnt lv kd gd ln st) H := hP
          have hD : va_D A (W_A_T_P cI cS h q_ x_ b a d_ r_ lf tc b a tk2 tg2 set to2 ta_6 te_7 ts_8 tr a cnt lv kd gd ln st) := hD
          have hO2 := (hT2 f hf.1 hf.2).1
          have hO3 := (sem_ok (K := tk2) (G := tg2) (L := set) hok f hf.1 hf.2).1
          rw [hse set f hf.1 hf.2] at hO2 hO3
          have hG2 := (hT2 g hg.1 hg.2).1
          have hG3 := (sem_ok (K := tk2) (G := tg2) (L := set) hok g hg.1 hg.2).1
          rw [hse set g hg.1 hg.2] at hG2 hG3
          refine lv_aload_n hx hb dX6_free_47 rfl (lv_at hl 1 rfl) ?_
          refine va_get (D := D) (ci := 6) (v := .ref (b 0)) (C := RX6) (T := TX6) (N := 8) hx hb hts iw_6 hown hK.1 hP 0 rfl rfl 2 (by decide) fl_27 (fun _ h9 => h9) rfl dX6_free_48 ?_
          refine lv_iload_n hx hb dX6_free_51 rfl (lv_at hl 2 rfl) ?_
          refine lv_iload_n hx hb dX6_free_52 rfl (lv_at hl 3 rfl) ?_
          refine x_callVi (As := [.int (iI f), .int (iI g)]) (rest := []) ⟨hx, hb, hml, hown, hts⟩ (c_X5_firstOut l D cI cS b a tk2 tg2 set to2 ta_6 te_7 ts_8 tr H.size f g (by first | assumption | omega) (by first | assumption | omega) (by first | assumption | omega)) (cwV 2 hts gX6_free_X5_firstOut rfl rfl rfl (by decide +kernel) ⟨Nat.le_of_ble_eq_true rfl, Nat.le_of_ble_eq_true rfl⟩) hK hP hD hS hA [1, 2, 3, 4, 5, 6, 7, 8] [0, 9, 10, 11, 12, 13] (wr := [(h 0, .inr (6, [.ref (q_ 0), .ref (x_ 0), .ref (b 0), .ref (a 0), .ref (d_ 0), .ref (r_ 0), .int (iI lf), .int (iI tc)])), (a 0, .inr (1, [.ref (a 1), .ref (a 2), .ref (a 3), .ref (a 4), .int (iI cnt), .int (iI lv)])), (a 1, .inl (cI, 5, .inl (aI kd))), (a 2, .inl (cI, 5, .inl (aI gd))), (a 3, .inl (cI, 5, .inl (aI ln))), (a 4, .inl (cI, 20, .inl (aI st)))]) rfl rfl (by decide) (by decide) (by decide) 0 5 rfl rfl rfl [0, 6, 7, 8, 9, 10, 11, 12, 13, 1, 2, 3, 4, 5] (fun (u : Unit) => (W_A_T_P cI cS h q_ x_ b a d_ r_ lf tc b a tk2 tg2 set to2 ta_6 te_7 ts_8 tr a cnt lv kd gd ln st)) (fun _ => rfl) (by decide) rfl hl.1 rfl (Nat.le_of_ble_eq_true rfl) ⟨Nat.zero_le _, Nat.zero_le _⟩ dX6_free_53 (fun r_ u_ H locs hw hP hD hS => ?_)
          try dsimp only at hw
          subst hw
          have hP : va_P D vwCl (W_A_T_P cI cS h q_ x_ b a d_ r_ lf tc b a tk2 tg2 set to2 ta_6 te_7 ts_8 tr a cnt lv kd gd ln st) H := hP
          have hD : va_D A (W_A_T_P cI cS h q_ x_ b a d_ r_ lf tc b a tk2 tg2 set to2 ta_6 te_7 ts_8 tr a cnt lv kd gd ln st) := hD
          refine lv_aload_n hx hb dX6_free_56 rfl (lv_at hl 1 rfl) ?_
          refine va_get (D := D) (ci := 6) (v := .ref (b 0)) (C := RX6) (T := TX6) (N := 8) hx hb hts iw_6 hown hK.1 hP 0 rfl rfl 2 (by decide) fl_27 (fun _ h9 => h9) rfl dX6_free_57 ?_
          refine lv_iload_n hx hb dX6_free_60 rfl (lv_at hl 3 rfl) ?_
          refine lv_iload_n hx hb dX6_free_61 rfl (lv_at hl 2 rfl) ?_
          refine x_callVi (As := [.int (iI g), .int (iI f)]) (rest := [.int (iI (if to2 f = 4 then to2 g else to2 f))]) ⟨hx, hb, hml, hown, hts⟩ (c_X5_firstOut l D cI cS b a tk2 tg2 set to2 ta_6 te_7 ts_8 tr H.size g f (by first | assumption | omega) (by first | assumption | omega) (by first | assumption | omega)) (cwV 2 hts gX6_free_X5_firstOut rfl rfl rfl (by decide +kernel) ⟨Nat.le_of_ble_eq_true rfl, Nat.le_of_ble_eq_true rfl⟩) hK hP hD hS hA [1, 2, 3, 4, 5, 6, 7, 8] [0, 9, 10, 11, 12, 13] (wr := [(h 0, .inr (6, [.ref (q_ 0), .ref (x_ 0), .ref (b 0), .ref (a 0), .ref (d_ 0), .ref (r_ 0), .int (iI lf), .int (iI tc)])), (a 0, .inr (1, [.ref (a 1), .ref (a 2), .ref (a 3), .ref (a 4), .int (iI cnt), .int (iI lv)])), (a 1, .inl (cI, 5, .inl (aI kd))), (a 2, .inl (cI, 5, .inl (aI gd))), (a 3, .inl (cI, 5, .inl (aI ln))), (a 4, .inl (cI, 20, .inl (aI st)))]) rfl rfl (by decide) (by decide) (by decide) 0 5 rfl rfl rfl [0, 6, 7, 8, 9, 10, 11, 12, 13, 1, 2, 3, 4, 5] (fun (u : Unit) => (W_A_T_P cI cS h q_ x_ b a d_ r_ lf tc b a tk2 tg2 set to2 ta_6 te_7 ts_8 tr a cnt lv kd gd ln st)) (fun _ => rfl) (by decide) rfl hl.1 rfl (Nat.le_of_ble_eq_true rfl) ⟨Nat.zero_le _, Nat.zero_le _⟩ dX6_free_62 (fun r_ u_ H locs hw hP hD hS => ?_)
          try dsimp only at hw
          subst hw
          have hP : va_P D vwCl (W_A_T_P cI cS h q_ x_ b a d_ r_ lf tc b a tk2 tg2 set to2 ta_6 te_7 ts_8 tr a cnt lv kd gd ln st) H := hP
          have hD : va_D A (W_A_T_P cI cS h q_ x_ b a d_ r_ lf tc b a tk2 tg2 set to2 ta_6 te_7 ts_8 tr a cnt lv kd gd ln st) := hD
          refine n_icmp_eq (tgt := 70) hx hb dX6_free_65 (by decide) (by omega) (fun c_9 => ?_) (fun c_9 => ?_)
          ·
            refine n_iinc (lv' := [(3, .int (iI (set + 1))), (0, .ref (h 0)), (1, .int (iI f)), (2, .int (iI g))]) hx hb dX6_free_70 hl (k := 0) rfl (by decide) rfl (fun ls hl => ?_)
            refine lv_goto (tgt := 33) hx hb dX6_free_73 (by decide) ?_
            exact ih_4 ((set + 1), set, to2, ta_6, te_7, ts_8) (by (try dsimp only); exact ⟨by omega, by rw [freeB_s _ _ hs_.1, hw2, Bool.true_and]; exact decide_eq_true (by omega)⟩) (by (try dsimp only); exact (by omega)) _ _ _ hP hD hS (lv_sub hl [0, 1, 2, 3] rfl)
          ·
            have hnf : ¬ ((fun x => (sem kd gd x ln st f).1) set = 4 ∨ (fun x => (sem kd gd x ln st g).1) set = 4 ∨ (fun x => (sem kd gd x ln st f).1) set = (fun x => (sem kd gd x ln st g).1) set) := by show ¬ ((sem kd gd set ln st f).1 = 4 ∨ (sem kd gd set ln st g).1 = 4 ∨ (sem kd gd set ln st f).1 = (sem kd gd set ln st g).1); omega
            refine lv_iconst (v := iI 0) hx hb dX6_free_68 (by decide +kernel) ?_
            exact W.iret (v := iI 0) hx hb hr (fun t ht hW => ⟨⟨_, (tk2, tg2, set, to2, ta_6, te_7, ts_8), rfl, congrArg iI (show 0 = (sFree cnt kd gd ln st f g) from (by unfold sFree; rw [if_pos (by omega), if_neg (by rw [freeB_no hs_.1 hnf 16 (by omega)]; decide)])), by rw [ht]; exact hP, hD⟩, hS.F ht⟩) hS.2.2 dX6_free_69
    ·
      refine lv_iconst (v := iI (-1)) hx hb dX6_free_22 (by decide +kernel) ?_
      exact W.iret (v := iI (-1)) hx hb hr (fun t ht hW => ⟨⟨_, (tk, tg, tl, to, ta, te, ts), rfl, congrArg iI (show (-1) = (sFree cnt kd gd ln st f g) from (by unfold sFree; (repeat (first | rw [if_pos (by omega)] | rw [if_neg (by omega)])))), by rw [ht]; exact hP, hD⟩, hS.F ht⟩) hS.2.2 dX6_free_23
set_option maxHeartbeats 4000000 in
set_option maxRecDepth 100000 in
theorem c_X6_more (l : Launch) (D : va_G) (cI cS : ClassId) (h : Nat → Nat) (q_ : Nat → Nat) (x_ : Nat → Nat) (b : Nat → Nat) (a : Nat → Nat) (d_ : Nat → Nat) (r_ : Nat → Nat) (lf : Int) (tc : Int) (tk : Int → Int) (tg : Int → Int) (tl : Int) (to : Int → Int) (ta : Int → Int) (te : Int → Int) (ts : Int → Int) (tr : Int → Int) (cnt : Int) (lv : Int) (kd : Int → Int) (gd : Int → Int) (ln : Int → Int) (st : Int → Int) (sz : Nat) (f : Int) (g : Int) (hok : okP cnt ln st) (hkd : okK cnt kd gd lv) (hfr : -2147483648 ≤ f ∧ f < 2147483648) (hgr : -2147483648 ≤ g ∧ g < 2147483648) : Met l yX6_more wsX6_more ({ frames := 6, cells := 0, slots := 0, locals := 131 }) (cP D cI cS (W_A_T_P cI cS h q_ x_ b a d_ r_ lf tc b a tk tg tl to ta te ts tr a cnt lv kd gd ln st) sz [.ref (h 0), .int (iI f), .int (iI g)]) (va_Qi (fun (r : Int32) (u : (Int → Int) × (Int → Int) × Int × (Int → Int) × (Int → Int) × (Int → Int) × (Int → Int)) => r = iI (sMore cnt kd gd ln st f g)) (fun (u : (Int → Int) × (Int → Int) × Int × (Int → Int) × (Int → Int) × (Int → Int) × (Int → Int)) t => cB D (va_A (W_A_T_P cI cS h q_ x_ b a d_ r_ lf tc b a tk tg tl to ta te ts tr a cnt lv kd gd ln st) sz) (W_A_T_P cI cS h q_ x_ b a d_ r_ lf tc b a u.1 u.2.1 u.2.2.1 u.2.2.2.1 u.2.2.2.2.1 u.2.2.2.2.2.1 u.2.2.2.2.2.2 tr a cnt lv kd gd ln st) t) (va_A (W_A_T_P cI cS h q_ x_ b a d_ r_ lf tc b a tk tg tl to ta te ts tr a cnt lv kd gd ln st) sz)) 0 0 (va_A (W_A_T_P cI cS h q_ x_ b a d_ r_ lf tc b a tk tg tl to ta te ts tr a cnt lv kd gd ln st) sz) := by
  refine Met.ofW (cc := cX6_more) (maxL := 5) (ret := (some .int)) (by decide) rfl ?_
  intro p e s m args below meth c_ s₁ B hml hv
  obtain ⟨rfl, hsz, hP, hK, hD0⟩ := hv
  have hx := B.exec
  have hb := B.bytes
  have hr := B.returns
  have hts := atoms_spec (ws := wsX6_more) B.pre
  have hown : s.vm.findClass RX6 = some m.cls := findClass_of_methodNamed B.named
  have hlocks := B.notSynchronized
  subst hsz
  have hD := hD0.self (sz := s.heap.size)
  generalize hAe : va_A (W_A_T_P cI cS h q_ x_ b a d_ r_ lf tc b a tk tg tl to ta te ts tr a cnt lv kd gd ln st) s.heap.size = A at hD ⊢
  have hA : ∀ q : Nat, s.heap.size ≤ q → A q := fun q h => by rw [← hAe]; exact Or.inr h
  have hS : va_S A s.heap s.heap [] := va_S.rf
  have hP : va_P D vwCl (W_A_T_P cI cS h q_ x_ b a d_ r_ lf tc b a tk tg tl to ta te ts tr a cnt lv kd gd ln st) s.heap := hP
  have hl := lv_entry ([.ref (h 0), .int (iI f), .int (iI g)] : List Value) (n := 5) (Nat.le_of_ble_eq_true rfl)
  rw [lg_entry_eq]
  generalize (lg_sl ([.ref (h 0), .int (iI f), .int (iI g)] : List Value) ++ List.replicate (5 - (lg_sl ([.ref (h 0), .int (iI f), .int (iI g)] : List Value)).length) Slot.unset).toArray = ls at hl ⊢
  have hl : lv_has ls 5 [(0, .ref (h 0)), (1, .int (iI f)), (2, .int (iI g))] := hl
  have fl_35 := hts (.fieldLink RX6 35 "ActRows" "told" "LActRows$Program;") (by decide +kernel)
  have iw_6 : ∀ w ∈ wsX60, w ∈ wsX6_more := by decide +kernel
  have fl_27 := hts (.fieldLink RX6 27 "ActRows" "trial" "LActRows$Trial;") (by decide +kernel)
  have fn_146 := va_Nw.use (A := ([.ref (h 0), .int (iI f), .int (iI g)] : List Value).toArray) rfl (hK.2 ("ActRows", 146, "ActRows$Trial", "outs", "[I") (List.mem_of_getElem? (i := 3) rfl))
  have iw_5 : ∀ w ∈ wsX50, w ∈ wsX6_more := by decide +kernel
  have hc := hok.1
  have hln := hok.2.1
  refine lv_aload_n hx hb dX6_more_0 rfl (lv_at hl 0 rfl) ?_
  refine va_get (D := D) (ci := 6) (v := .ref (a 0)) (C := RX6) (T := TX6) (N := 8) hx hb hts iw_6 hown hK.1 hP 0 rfl rfl 3 (by decide) fl_35 (fun _ h9 => h9) rfl dX6_more_1 ?_
  refine lv_iload_n hx hb dX6_more_4 rfl (lv_at hl 1 rfl) ?_
  refine x_callVi (As := [.int (iI f)]) (rest := []) ⟨hx, hb, hml, hown, hts⟩ (c_X1_has l D cI cS a cnt lv kd gd ln st s.heap.size f (by first | assumption | omega) (by first | assumption | omega)) (cwV 1 hts gX6_more_X1_has rfl rfl rfl (by decide +kernel) ⟨Nat.le_of_ble_eq_true rfl, Nat.le_of_ble_eq_true rfl⟩) hK hP hD hS hA [9, 10, 11, 12, 13] [0, 1, 2, 3, 4, 5, 6, 7, 8] (wr := [(h 0, .inr (6, [.ref (q_ 0), .ref (x_ 0), .ref (b 0), .ref (a 0), .ref (d_ 0), .ref (r_ 0), .int (iI lf), .int (iI tc)])), (b 0, .inr (5, [.ref (a 0), .ref (b 1), .ref (b 2), .int (iI tl), .ref (b 3), .ref (b 4), .ref (b 5), .ref (b 6), .ref (b 7)])), (b 1, .inl (cI, 5, .inl (aI tk))), (b 2, .inl (cI, 5, .inl (aI tg))), (b 3, .inl (cI, 5, .inl (aI to))), (b 4, .inl (cI, 5, .inl (aI ta))), (b 5, .inl (cI, 5, .inl (aI te))), (b 6, .inl (cI, 5, .inl (aI ts))), (b 7, .inl (cI, 5, .inl (aI tr)))]) rfl rfl (by decide) (by decide) (by decide) 0 1 rfl rfl rfl [0, 1, 2, 3, 4, 5, 6, 7, 8, 9, 10, 11, 12, 13] (fun (u : Unit) => (W_A_T_P cI cS h q_ x_ b a d_ r_ lf tc b a tk tg tl to ta te ts tr a cnt lv kd gd ln st)) (fun _ => rfl) (by decide) rfl hl.1 rfl (Nat.le_of_ble_eq_true rfl) ⟨Nat.zero_le _, Nat.zero_le _⟩ dX6_more_5 (fun r_ u_ H locs hw hP hD hS => ?_)
  try dsimp only at hw
  subst hw
  have hP : va_P D vwCl (W_A_T_P cI cS h q_ x_ b a d_ r_ lf tc b a tk tg tl to ta te ts tr a cnt lv kd gd ln st) H := hP
  have hD : va_D A (W_A_T_P cI cS h q_ x_ b a d_ r_ lf tc b a tk tg tl to ta te ts tr a cnt lv kd gd ln st) := hD
  refine n_if_b1 (tgt := 22) hx hb dX6_more_8 (by decide)  (fun c_1 => ?_) (fun c_1 => ?_)
  ·
    refine lv_iconst (v := iI (-1)) hx hb dX6_more_22 (by decide +kernel) ?_
    exact W.iret (v := iI (-1)) hx hb hr (fun t ht hW => ⟨⟨_, (tk, tg, tl, to, ta, te, ts), rfl, congrArg iI (show (-1) = (sMore cnt kd gd ln st f g) from (by unfold sMore; (repeat (first | rw [if_pos (by omega)] | rw [if_neg (by omega)])))), by rw [ht]; exact hP, hD⟩, hS.F ht⟩) hS.2.2 dX6_more_23
  ·
    refine lv_aload_n hx hb dX6_more_11 rfl (lv_at hl 0 rfl) ?_
    refine va_get (D := D) (ci := 6) (v := .ref (a 0)) (C := RX6) (T := TX6) (N := 8) hx hb hts iw_6 hown hK.1 hP 0 rfl rfl 3 (by decide) fl_35 (fun _ h9 => h9) rfl dX6_more_12 ?_
    refine lv_iload_n hx hb dX6_more_15 rfl (lv_at hl 2 rfl) ?_
    refine x_callVi (As := [.int (iI g)]) (rest := []) ⟨hx, hb, hml, hown, hts⟩ (c_X1_has l D cI cS a cnt lv kd gd ln st H.size g (by first | assumption | omega) (by first | assumption | omega)) (cwV 1 hts gX6_more_X1_has rfl rfl rfl (by decide +kernel) ⟨Nat.le_of_ble_eq_true rfl, Nat.le_of_ble_eq_true rfl⟩) hK hP hD hS hA [9, 10, 11, 12, 13] [0, 1, 2, 3, 4, 5, 6, 7, 8] (wr := [(h 0, .inr (6, [.ref (q_ 0), .ref (x_ 0), .ref (b 0), .ref (a 0), .ref (d_ 0), .ref (r_ 0), .int (iI lf), .int (iI tc)])), (b 0, .inr (5, [.ref (a 0), .ref (b 1), .ref (b 2), .int (iI tl), .ref (b 3), .ref (b 4), .ref (b 5), .ref (b 6), .ref (b 7)])), (b 1, .inl (cI, 5, .inl (aI tk))), (b 2, .inl (cI, 5, .inl (aI tg))), (b 3, .inl (cI, 5, .inl (aI to))), (b 4, .inl (cI, 5, .inl (aI ta))), (b 5, .inl (cI, 5, .inl (aI te))), (b 6, .inl (cI, 5, .inl (aI ts))), (b 7, .inl (cI, 5, .inl (aI tr)))]) rfl rfl (by decide) (by decide) (by decide) 0 1 rfl rfl rfl [0, 1, 2, 3, 4, 5, 6, 7, 8, 9, 10, 11, 12, 13] (fun (u : Unit) => (W_A_T_P cI cS h q_ x_ b a d_ r_ lf tc b a tk tg tl to ta te ts tr a cnt lv kd gd ln st)) (fun _ => rfl) (by decide) rfl hl.1 rfl (Nat.le_of_ble_eq_true rfl) ⟨Nat.zero_le _, Nat.zero_le _⟩ dX6_more_16 (fun r_ u_ H locs hw hP hD hS => ?_)
    try dsimp only at hw
    subst hw
    have hP : va_P D vwCl (W_A_T_P cI cS h q_ x_ b a d_ r_ lf tc b a tk tg tl to ta te ts tr a cnt lv kd gd ln st) H := hP
    have hD : va_D A (W_A_T_P cI cS h q_ x_ b a d_ r_ lf tc b a tk tg tl to ta te ts tr a cnt lv kd gd ln st) := hD
    refine n_if_b2 (tgt := 24) hx hb dX6_more_19 (by decide)  (fun c_2 => ?_) (fun c_2 => ?_)
    ·
      have hf : 0 ≤ f ∧ f < cnt := by assumption
      have hg : 0 ≤ g ∧ g < cnt := by assumption
      refine lv_iconst (v := iI 0) hx hb dX6_more_24 (by decide +kernel) ?_
      refine lv_istore_n (lv' := [(3, .int (iI 0)), (0, .ref (h 0)), (1, .int (iI f)), (2, .int (iI g))]) hx hb dX6_more_25 rfl hl (by decide) rfl (fun ls hl => ?_)
      refine lv_aload_n hx hb dX6_more_26 rfl (lv_at hl 1 rfl) ?_
      refine va_get (D := D) (ci := 6) (v := .ref (b 0)) (C := RX6) (T := TX6) (N := 8) hx hb hts iw_6 hown hK.1 hP 0 rfl rfl 2 (by decide) fl_27 (fun _ h9 => h9) rfl dX6_more_27 ?_
      refine x_callVv (As := []) (rest := []) ⟨hx, hb, hml, hown, hts⟩ (c_X5_begin l D cI cS b a tk tg tl to ta te ts tr cnt lv kd gd ln st H.size) (cwV 0 hts gX6_more_X5_begin rfl rfl rfl (by decide +kernel) ⟨Nat.le_of_ble_eq_true rfl, Nat.le_of_ble_eq_true rfl⟩) hK hP hD hS hA [1, 2, 3, 4, 5, 6, 7, 8, 9, 10, 11, 12, 13] [0] (wr := [(h 0, .inr (6, [.ref (q_ 0), .ref (x_ 0), .ref (b 0), .ref (a 0), .ref (d_ 0), .ref (r_ 0), .int (iI lf), .int (iI tc)]))]) rfl rfl (by decide) (by decide) (by decide) 0 5 rfl rfl rfl [0, 1, 2, 3, 4, 5, 6, 7, 8, 9, 10, 11, 12, 13] (fun (u : (Int → Int) × (Int → Int)) => (W_A_T_P cI cS h q_ x_ b a d_ r_ lf tc b a u.1 u.2 lv to ta te ts tr a cnt lv kd gd ln st)) (fun _ => rfl) (by decide) rfl hl.1 rfl (Nat.le_of_ble_eq_true rfl) ⟨Nat.zero_le _, Nat.zero_le _⟩ dX6_more_30 (fun u_ H locs hw hP hD hS => ?_)
      obtain ⟨tk2, tg2⟩ := u_
      try dsimp only at hw
      have hk2 := hw
      have hP : va_P D vwCl (W_A_T_P cI cS h q_ x_ b a d_ r_ lf tc b a tk2 tg2 lv to ta te ts tr a cnt lv kd gd ln st) H := hP
      have hD : va_D A (W_A_T_P cI cS h q_ x_ b a d_ r_ lf tc b a tk2 tg2 lv to ta te ts tr a cnt lv kd gd ln st) := hD
      have hko2 : okK cnt tk2 tg2 lv := ⟨fun j h0 h1 => by rw [(hk2 j h0 (by omega)).1, (hk2 j h0 (by omega)).2]; exact hkd.1 j h0 h1, hkd.2⟩
      have hse : ∀ (L f : Int), 0 ≤ f → f < cnt → sem tk2 tg2 L ln st f = sem kd gd L ln st f := fun L f h0 h1 => sem_pre hok h0 h1 (fun j a b => hk2 j a (by omega))
      refine lv_iconst (v := iI 0) hx hb dX6_more_33 (by decide +kernel) ?_
      refine lv_istore (lv' := [(4, .int (iI 0)), (3, .int (iI 0)), (0, .ref (h 0)), (1, .int (iI f)), (2, .int (iI g))]) hx hb dX6_more_34 hl (by decide) rfl (fun ls hl => ?_)
      refine x_loop (σ := Int × Int × Int × (Int → Int) × (Int → Int) × (Int → Int) × (Int → Int)) (fun (xv_ : Int × Int × Int × (Int → Int) × (Int → Int) × (Int → Int) × (Int → Int)) => match xv_ with | (n, set, tl1, to1, ta1, te1, ts1) => (0 ≤ set ∧ set ≤ 16) ∧ (n = moreGo (fun x => (sem kd gd x ln st f).1) (fun x => (sem kd gd x ln st g).1) set.toNat)) (fun (xv_ : Int × Int × Int × (Int → Int) × (Int → Int) × (Int → Int) × (Int → Int)) => match xv_ with | (n, set, tl1, to1, ta1, te1, ts1) => (16 - set).toNat) (fun (xv_ : Int × Int × Int × (Int → Int) × (Int → Int) × (Int → Int) × (Int → Int)) => match xv_ with | (n, set, tl1, to1, ta1, te1, ts1) => (W_A_T_P cI cS h q_ x_ b a d_ r_ lf tc b a tk2 tg2 tl1 to1 ta1 te1 ts1 tr a cnt lv kd gd ln st)) (fun (xv_ : Int × Int × Int × (Int → Int) × (Int → Int) × (Int → Int) × (Int → Int)) => match xv_ with | (n, set, tl1, to1, ta1, te1, ts1) => [(4, .int (iI set)), (3, .int (iI n)), (0, .ref (h 0)), (1, .int (iI f)), (2, .int (iI g))]) (nL := 5) ?step_3 (0, 0, lv, to, ta, te, ts) (by (try dsimp only); exact ⟨by omega, rfl⟩) hP hD hS hl
      case step_3 =>
        intro xv_ hI ih H locs ls hP hD hS hl
        obtain ⟨n, set, tl1, to1, ta1, te1, ts1⟩ := xv_
        try dsimp only at hI ih
        obtain ⟨hs_, hm⟩ := hI
        have hP : va_P D vwCl (W_A_T_P cI cS h q_ x_ b a d_ r_ lf tc b a tk2 tg2 tl1 to1 ta1 te1 ts1 tr a cnt lv kd gd ln st) H := hP
        have hD : va_D A (W_A_T_P cI cS h q_ x_ b a d_ r_ lf tc b a tk2 tg2 tl1 to1 ta1 te1 ts1 tr a cnt lv kd gd ln st) := hD
        have hl : lv_has ls 5 [(4, .int (iI set)), (3, .int (iI n)), (0, .ref (h 0)), (1, .int (iI f)), (2, .int (iI g))] := hl
        have ih_4 := ih
        refine lv_iload hx hb dX6_more_36 (lv_at hl 0 rfl) ?_
        refine lv_bipush (v := iI 16) hx hb dX6_more_38 (by decide +kernel) ?_
        refine n_icmp_ge (tgt := 95) hx hb dX6_more_40 (by decide) (by omega) (fun c_5 => ?_) (fun c_5 => ?_)
        ·
          refine lv_iload_n hx hb dX6_more_95 rfl (lv_at hl 1 rfl) ?_
          exact W.iret (v := iI n) hx hb hr (fun t ht hW => ⟨⟨_, (tk2, tg2, tl1, to1, ta1, te1, ts1), rfl, congrArg iI (show n = (sMore cnt kd gd ln st f g) from (by unfold sMore; rw [if_pos (by omega), hm, show set = 16 by omega]; rfl)), by rw [ht]; exact hP, hD⟩, hS.F ht⟩) hS.2.2 dX6_more_96
        ·
          refine lv_aload_n hx hb dX6_more_43 rfl (lv_at hl 2 rfl) ?_
          refine va_get (D := D) (ci := 6) (v := .ref (b 0)) (C := RX6) (T := TX6) (N := 8) hx hb hts iw_6 hown hK.1 hP 0 rfl rfl 2 (by decide) fl_27 (fun _ h9 => h9) rfl dX6_more_44 ?_
          refine lv_iload hx hb dX6_more_47 (lv_at hl 0 rfl) ?_
          refine x_callVv (As := [.int (iI set)]) (rest := []) ⟨hx, hb, hml, hown, hts⟩ (c_X5_settleBy l D cI cS b a tk2 tg2 tl1 to1 ta1 te1 ts1 tr cnt lv kd gd ln st H.size set (by first | assumption | omega) ⟨hko2.1, by omega⟩) (cwV 1 hts gX6_more_X5_settleBy rfl rfl rfl (by decide +kernel) ⟨Nat.le_of_ble_eq_true rfl, Nat.le_of_ble_eq_true rfl⟩) hK hP hD hS hA [1, 2, 3, 4, 5, 6, 7, 8, 9, 10, 11, 12, 13] [0] (wr := [(h 0, .inr (6, [.ref (q_ 0), .ref (x_ 0), .ref (b 0), .ref (a 0), .ref (d_ 0), .ref (r_ 0), .int (iI lf), .int (iI tc)]))]) rfl rfl (by decide) (by decide) (by decide) 0 5 rfl rfl rfl [0, 1, 2, 3, 4, 5, 6, 7, 8, 9, 10, 11, 12, 13] (fun (u : (Int → Int) × (Int → Int) × (Int → Int) × (Int → Int)) => (W_A_T_P cI cS h q_ x_ b a d_ r_ lf tc b a tk2 tg2 set u.1 u.2.1 u.2.2.1 u.2.2.2 tr a cnt lv kd gd ln st)) (fun _ => rfl) (by decide) rfl hl.1 rfl (Nat.le_of_ble_eq_true rfl) ⟨Nat.zero_le _, Nat.zero_le _⟩ dX6_more_49 (fun u_ H locs hw hP hD hS => ?_)
          obtain ⟨to2, ta_6, te_7, ts_8⟩ := u_
          try dsimp only at hw
          have hT2 := hw
          have hP : va_P D vwCl (W_A_T_P cI cS h q_ x_ b a d_ r_ lf tc b a tk2 tg2 set to2 ta_6 te_7 ts_8 tr a cnt lv kd gd ln st) H := hP
          have hD : va_D A (W_A_T_P cI cS h q_ x_ b a d_ r_ lf tc b a tk2 tg2 set to2 ta_6 te_7 ts_8 tr a cnt lv kd gd ln st) := hD
          have hO2 := (hT2 f hf.1 hf.2).1
          have hO3 := (sem_ok (K := tk2) (G := tg2) (L := set) hok f hf.1 hf.2).1
          rw [hse set f hf.1 hf.2] at hO2 hO3
          have hG2 := (hT2 g hg.1 hg.2).1
          have hG3 := (sem_ok (K := tk2) (G := tg2) (L := set) hok g hg.1 hg.2).1
          rw [hse set g hg.1 hg.2] at hG2 hG3
          refine lv_aload_n hx hb dX6_more_52 rfl (lv_at hl 2 rfl) ?_
          refine va_get (D := D) (ci := 6) (v := .ref (b 0)) (C := RX6) (T := TX6) (N := 8) hx hb hts iw_6 hown hK.1 hP 0 rfl rfl 2 (by decide) fl_27 (fun _ h9 => h9) rfl dX6_more_53 ?_
          refine va_getN (D := D) (ci := 5) (v := .ref (b 3)) (C := RX5) (T := TX5) (N := 9) hx hb hts iw_5 hown hK.1 hP 1 rfl rfl 4 (by decide) fn_146 (fun _ h9 => h9) rfl dX6_more_56 ?_
          refine lv_iload_n hx hb dX6_more_59 rfl (lv_at hl 3 rfl) ?_
          refine n_iald (n := 5) hx hb hK.1 hP 4 0 rfl rfl (by omega) (by decide) dX6_more_60 ?_
          refine lv_iconst (v := iI 4) hx hb dX6_more_61 (by decide +kernel) ?_
          refine n_icmp_eq (tgt := 89) hx hb dX6_more_62 (by decide) (by omega) (fun c_9 => ?_) (fun c_9 => ?_)
          ·
            refine n_iinc (lv' := [(4, .int (iI (set + 1))), (3, .int (iI n)), (0, .ref (h 0)), (1, .int (iI f)), (2, .int (iI g))]) hx hb dX6_more_89 hl (k := 0) rfl (by decide) rfl (fun ls hl => ?_)
            refine lv_goto (tgt := 36) hx hb dX6_more_92 (by decide) ?_
            exact ih_4 (n, (set + 1), set, to2, ta_6, te_7, ts_8) (by (try dsimp only); exact ⟨by omega, by rw [moreGo_s _ _ hs_.1, ← hm]; (try dsimp only); omega⟩) (by (try dsimp only); exact (by omega)) _ _ _ hP hD hS (lv_sub hl [0, 1, 2, 3, 4] rfl)
          ·
            refine lv_aload_n hx hb dX6_more_65 rfl (lv_at hl 2 rfl) ?_
            refine va_get (D := D) (ci := 6) (v := .ref (b 0)) (C := RX6) (T := TX6) (N := 8) hx hb hts iw_6 hown hK.1 hP 0 rfl rfl 2 (by decide) fl_27 (fun _ h9 => h9) rfl dX6_more_66 ?_
            refine va_getN (D := D) (ci := 5) (v := .ref (b 3)) (C := RX5) (T := TX5) (N := 9) hx hb hts iw_5 hown hK.1 hP 1 rfl rfl 4 (by decide) fn_146 (fun _ h9 => h9) rfl dX6_more_69 ?_
            refine lv_iload_n hx hb dX6_more_72 rfl (lv_at hl 4 rfl) ?_
            refine n_iald (n := 5) hx hb hK.1 hP 4 0 rfl rfl (by omega) (by decide) dX6_more_73 ?_
            refine lv_aload_n hx hb dX6_more_74 rfl (lv_at hl 2 rfl) ?_
            refine va_get (D := D) (ci := 6) (v := .ref (b 0)) (C := RX6) (T := TX6) (N := 8) hx hb hts iw_6 hown hK.1 hP 0 rfl rfl 2 (by decide) fl_27 (fun _ h9 => h9) rfl dX6_more_75 ?_
            refine va_getN (D := D) (ci := 5) (v := .ref (b 3)) (C := RX5) (T := TX5) (N := 9) hx hb hts iw_5 hown hK.1 hP 1 rfl rfl 4 (by decide) fn_146 (fun _ h9 => h9) rfl dX6_more_78 ?_
            refine lv_iload_n hx hb dX6_more_81 rfl (lv_at hl 3 rfl) ?_
            refine n_iald (n := 5) hx hb hK.1 hP 4 0 rfl rfl (by omega) (by decide) dX6_more_82 ?_
            refine n_icmp_eq (tgt := 89) hx hb dX6_more_83 (by decide) (by omega) (fun c_10 => ?_) (fun c_10 => ?_)
            ·
              refine n_iinc (lv' := [(4, .int (iI (set + 1))), (3, .int (iI n)), (0, .ref (h 0)), (1, .int (iI f)), (2, .int (iI g))]) hx hb dX6_more_89 hl (k := 0) rfl (by decide) rfl (fun ls hl => ?_)
              refine lv_goto (tgt := 36) hx hb dX6_more_92 (by decide) ?_
              exact ih_4 (n, (set + 1), set, to2, ta_6, te_7, ts_8) (by (try dsimp only); exact ⟨by omega, by rw [moreGo_s _ _ hs_.1, ← hm]; (try dsimp only); omega⟩) (by (try dsimp only); exact (by omega)) _ _ _ hP hD hS (lv_sub hl [0, 1, 2, 3, 4] rfl)
            ·
              refine n_iinc (lv' := [(3, .int (iI (n + 1))), (4, .int (iI set)), (0, .ref (h 0)), (1, .int (iI f)), (2, .int (iI g))]) hx hb dX6_more_86 hl (k := 1) rfl (by decide) rfl (fun ls hl => ?_)
              refine n_iinc (lv' := [(4, .int (iI (set + 1))), (3, .int (iI (n + 1))), (0, .ref (h 0)), (1, .int (iI f)), (2, .int (iI g))]) hx hb dX6_more_89 hl (k := 1) rfl (by decide) rfl (fun ls hl => ?_)
              refine lv_goto (tgt := 36) hx hb dX6_more_92 (by decide) ?_
              exact ih_4 ((n + 1), (set + 1), set, to2, ta_6, te_7, ts_8) (by (try dsimp only); exact ⟨by omega, by rw [moreGo_s _ _ hs_.1, ← hm]; (try dsimp only); omega⟩) (by (try dsimp only); exact (by omega)) _ _ _ hP hD hS (lv_sub hl [0, 1, 2, 3, 4] rfl)
    ·
      refine lv_iconst (v := iI (-1)) hx hb dX6_more_22 (by decide +kernel) ?_
      exact W.iret (v := iI (-1)) hx hb hr (fun t ht hW => ⟨⟨_, (tk, tg, tl, to, ta, te, ts), rfl, congrArg iI (show (-1) = (sMore cnt kd gd ln st f g) from (by unfold sMore; (repeat (first | rw [if_pos (by omega)] | rw [if_neg (by omega)])))), by rw [ht]; exact hP, hD⟩, hS.F ht⟩) hS.2.2 dX6_more_23
theorem plRes_plugs {cnt lv : Int} {kd gd tk tg ln st : Int → Int} {f z : Int} (ok : okP cnt ln st) (h0 : 0 ≤ f) (h1 : f < cnt) (h : plRes 0 f 0 6 lv tk tg kd gd ln st z) : (z ≠ 6 → plugsR cnt lv kd gd ln st f z) ∧ (z = 6 → plugsR cnt lv kd gd ln st f (-9)) := by
  have hc := ok.1
  have e : ∀ c : Int → Int, outM 0 tk tg kd gd lv ln st f c = outM 0 kd gd kd gd lv ln st f c := fun c => by
    unfold outM
    rw [sem_pre ok h0 h1 (K' := mixK 0 kd kd c) (G' := mixG 0 gd gd c) (fun j a _ => ?_)]
    unfold mixK mixG
    rw [if_neg (by omega), if_neg (by omega), if_neg (by omega), if_neg (by omega)]
    exact ⟨rfl, rfl⟩
  have hcost : ∀ c : Int → Int, costI c 0 f ≤ 5 := fun c => by
    unfold costI
    have := (costN_nn c (f + 1 - 0).toNat 0).2
    omega
  refine ⟨fun hz => Or.inr ⟨h.1.1, ?_, fun c hp ho => ?_⟩, fun hz => Or.inl ⟨rfl, fun c hp ho => ?_⟩⟩
  · rcases h.2.1 with q | ⟨c, hp, ho, hq⟩
    · exact absurd q hz
    · exact ⟨c, hp, (e c).symm.trans ho, by omega⟩
  · have := h.2.2 c hp ((e c).trans ho); omega
  · have := h.2.2 c hp ((e c).trans ho)
    have := hcost c
    omega
set_option maxHeartbeats 4000000 in
set_option maxRecDepth 100000 in
theorem c_X6_plugs (l : Launch) (D : va_G) (cI cS : ClassId) (h : Nat → Nat) (q_ : Nat → Nat) (x_ : Nat → Nat) (b : Nat → Nat) (a : Nat → Nat) (d_ : Nat → Nat) (r_ : Nat → Nat) (lf : Int) (tc : Int) (tk : Int → Int) (tg : Int → Int) (tl : Int) (to : Int → Int) (ta : Int → Int) (te : Int → Int) (ts : Int → Int) (tr : Int → Int) (cnt : Int) (lv : Int) (kd : Int → Int) (gd : Int → Int) (ln : Int → Int) (st : Int → Int) (sz : Nat) (f : Int) (hok : okP cnt ln st) (hkd : okK cnt kd gd lv) (hfr : -2147483648 ≤ f ∧ f < 2147483648) : Met l yX6_plugs wsX6_plugs ({ frames := 30, cells := 0, slots := 0, locals := 700 }) (cP D cI cS (W_A_T_P cI cS h q_ x_ b a d_ r_ lf tc b a tk tg tl to ta te ts tr a cnt lv kd gd ln st) sz [.ref (h 0), .int (iI f)]) (va_Qi (fun (r : Int32) (u : (Int → Int) × (Int → Int) × Int × (Int → Int) × (Int → Int) × (Int → Int) × (Int → Int)) => ∃ z : Int, r = iI z ∧ ((z = -1 ∧ ¬ (0 ≤ f ∧ f < cnt)) ∨ ((0 ≤ f ∧ f < cnt) ∧ plugsR cnt lv kd gd ln st f z))) (fun (u : (Int → Int) × (Int → Int) × Int × (Int → Int) × (Int → Int) × (Int → Int) × (Int → Int)) t => cB D (va_A (W_A_T_P cI cS h q_ x_ b a d_ r_ lf tc b a tk tg tl to ta te ts tr a cnt lv kd gd ln st) sz) (W_A_T_P cI cS h q_ x_ b a d_ r_ lf tc b a u.1 u.2.1 u.2.2.1 u.2.2.2.1 u.2.2.2.2.1 u.2.2.2.2.2.1 u.2.2.2.2.2.2 tr a cnt lv kd gd ln st) t) (va_A (W_A_T_P cI cS h q_ x_ b a d_ r_ lf tc b a tk tg tl to ta te ts tr a cnt lv kd gd ln st) sz)) 0 0 (va_A (W_A_T_P cI cS h q_ x_ b a d_ r_ lf tc b a tk tg tl to ta te ts tr a cnt lv kd gd ln st) sz) := by
  refine Met.ofW (cc := cX6_plugs) (maxL := 2) (ret := (some .int)) (by decide) rfl ?_
  intro p e s m args below meth c_ s₁ B hml hv
  obtain ⟨rfl, hsz, hP, hK, hD0⟩ := hv
  have hx := B.exec
  have hb := B.bytes
  have hr := B.returns
  have hts := atoms_spec (ws := wsX6_plugs) B.pre
  have hown : s.vm.findClass RX6 = some m.cls := findClass_of_methodNamed B.named
  have hlocks := B.notSynchronized
  subst hsz
  have hD := hD0.self (sz := s.heap.size)
  generalize hAe : va_A (W_A_T_P cI cS h q_ x_ b a d_ r_ lf tc b a tk tg tl to ta te ts tr a cnt lv kd gd ln st) s.heap.size = A at hD ⊢
  have hA : ∀ q : Nat, s.heap.size ≤ q → A q := fun q h => by rw [← hAe]; exact Or.inr h
  have hS : va_S A s.heap s.heap [] := va_S.rf
  have hP : va_P D vwCl (W_A_T_P cI cS h q_ x_ b a d_ r_ lf tc b a tk tg tl to ta te ts tr a cnt lv kd gd ln st) s.heap := hP
  have hl := lv_entry ([.ref (h 0), .int (iI f)] : List Value) (n := 2) (Nat.le_of_ble_eq_true rfl)
  rw [lg_entry_eq]
  generalize (lg_sl ([.ref (h 0), .int (iI f)] : List Value) ++ List.replicate (2 - (lg_sl ([.ref (h 0), .int (iI f)] : List Value)).length) Slot.unset).toArray = ls at hl ⊢
  have hl : lv_has ls 2 [(0, .ref (h 0)), (1, .int (iI f))] := hl
  have fl_35 := hts (.fieldLink RX6 35 "ActRows" "told" "LActRows$Program;") (by decide +kernel)
  have iw_6 : ∀ w ∈ wsX60, w ∈ wsX6_plugs := by decide +kernel
  have fl_27 := hts (.fieldLink RX6 27 "ActRows" "trial" "LActRows$Trial;") (by decide +kernel)
  have hc := hok.1
  have hln := hok.2.1
  refine lv_aload_n hx hb dX6_plugs_0 rfl (lv_at hl 0 rfl) ?_
  refine va_get (D := D) (ci := 6) (v := .ref (a 0)) (C := RX6) (T := TX6) (N := 8) hx hb hts iw_6 hown hK.1 hP 0 rfl rfl 3 (by decide) fl_35 (fun _ h9 => h9) rfl dX6_plugs_1 ?_
  refine lv_iload_n hx hb dX6_plugs_4 rfl (lv_at hl 1 rfl) ?_
  refine x_callVi (As := [.int (iI f)]) (rest := []) ⟨hx, hb, hml, hown, hts⟩ (c_X1_has l D cI cS a cnt lv kd gd ln st s.heap.size f (by first | assumption | omega) (by first | assumption | omega)) (cwV 1 hts gX6_plugs_X1_has rfl rfl rfl (by decide +kernel) ⟨Nat.le_of_ble_eq_true rfl, Nat.le_of_ble_eq_true rfl⟩) hK hP hD hS hA [9, 10, 11, 12, 13] [0, 1, 2, 3, 4, 5, 6, 7, 8] (wr := [(h 0, .inr (6, [.ref (q_ 0), .ref (x_ 0), .ref (b 0), .ref (a 0), .ref (d_ 0), .ref (r_ 0), .int (iI lf), .int (iI tc)])), (b 0, .inr (5, [.ref (a 0), .ref (b 1), .ref (b 2), .int (iI tl), .ref (b 3), .ref (b 4), .ref (b 5), .ref (b 6), .ref (b 7)])), (b 1, .inl (cI, 5, .inl (aI tk))), (b 2, .inl (cI, 5, .inl (aI tg))), (b 3, .inl (cI, 5, .inl (aI to))), (b 4, .inl (cI, 5, .inl (aI ta))), (b 5, .inl (cI, 5, .inl (aI te))), (b 6, .inl (cI, 5, .inl (aI ts))), (b 7, .inl (cI, 5, .inl (aI tr)))]) rfl rfl (by decide) (by decide) (by decide) 0 1 rfl rfl rfl [0, 1, 2, 3, 4, 5, 6, 7, 8, 9, 10, 11, 12, 13] (fun (u : Unit) => (W_A_T_P cI cS h q_ x_ b a d_ r_ lf tc b a tk tg tl to ta te ts tr a cnt lv kd gd ln st)) (fun _ => rfl) (by decide) rfl hl.1 rfl (Nat.le_of_ble_eq_true rfl) ⟨Nat.zero_le _, Nat.zero_le _⟩ dX6_plugs_5 (fun r_ u_ H locs hw hP hD hS => ?_)
  try dsimp only at hw
  subst hw
  have hP : va_P D vwCl (W_A_T_P cI cS h q_ x_ b a d_ r_ lf tc b a tk tg tl to ta te ts tr a cnt lv kd gd ln st) H := hP
  have hD : va_D A (W_A_T_P cI cS h q_ x_ b a d_ r_ lf tc b a tk tg tl to ta te ts tr a cnt lv kd gd ln st) := hD
  refine n_if_b2 (tgt := 13) hx hb dX6_plugs_8 (by decide)  (fun c_1 => ?_) (fun c_1 => ?_)
  ·
    have hf : 0 ≤ f ∧ f < cnt := by assumption
    refine lv_aload_n hx hb dX6_plugs_13 rfl (lv_at hl 0 rfl) ?_
    refine va_get (D := D) (ci := 6) (v := .ref (b 0)) (C := RX6) (T := TX6) (N := 8) hx hb hts iw_6 hown hK.1 hP 0 rfl rfl 2 (by decide) fl_27 (fun _ h9 => h9) rfl dX6_plugs_14 ?_
    refine x_callVv (As := []) (rest := []) ⟨hx, hb, hml, hown, hts⟩ (c_X5_begin l D cI cS b a tk tg tl to ta te ts tr cnt lv kd gd ln st H.size) (cwV 0 hts gX6_plugs_X5_begin rfl rfl rfl (by decide +kernel) ⟨Nat.le_of_ble_eq_true rfl, Nat.le_of_ble_eq_true rfl⟩) hK hP hD hS hA [1, 2, 3, 4, 5, 6, 7, 8, 9, 10, 11, 12, 13] [0] (wr := [(h 0, .inr (6, [.ref (q_ 0), .ref (x_ 0), .ref (b 0), .ref (a 0), .ref (d_ 0), .ref (r_ 0), .int (iI lf), .int (iI tc)]))]) rfl rfl (by decide) (by decide) (by decide) 0 5 rfl rfl rfl [0, 1, 2, 3, 4, 5, 6, 7, 8, 9, 10, 11, 12, 13] (fun (u : (Int → Int) × (Int → Int)) => (W_A_T_P cI cS h q_ x_ b a d_ r_ lf tc b a u.1 u.2 lv to ta te ts tr a cnt lv kd gd ln st)) (fun _ => rfl) (by decide) rfl hl.1 rfl (Nat.le_of_ble_eq_true rfl) ⟨Nat.zero_le _, Nat.zero_le _⟩ dX6_plugs_17 (fun u_ H locs hw hP hD hS => ?_)
    obtain ⟨tk2, tg2⟩ := u_
    try dsimp only at hw
    have hk2 := hw
    have hP : va_P D vwCl (W_A_T_P cI cS h q_ x_ b a d_ r_ lf tc b a tk2 tg2 lv to ta te ts tr a cnt lv kd gd ln st) H := hP
    have hD : va_D A (W_A_T_P cI cS h q_ x_ b a d_ r_ lf tc b a tk2 tg2 lv to ta te ts tr a cnt lv kd gd ln st) := hD
    have hko2 : okK cnt tk2 tg2 lv := ⟨fun j h0 h1 => by rw [(hk2 j h0 (by omega)).1, (hk2 j h0 (by omega)).2]; exact hkd.1 j h0 h1, hkd.2⟩
    have hse : ∀ (L f : Int), 0 ≤ f → f < cnt → sem tk2 tg2 L ln st f = sem kd gd L ln st f := fun L f h0 h1 => sem_pre hok h0 h1 (fun j a b => hk2 j a (by omega))
    refine lv_aload_n hx hb dX6_plugs_20 rfl (lv_at hl 0 rfl) ?_
    refine va_get (D := D) (ci := 6) (v := .ref (b 0)) (C := RX6) (T := TX6) (N := 8) hx hb hts iw_6 hown hK.1 hP 0 rfl rfl 2 (by decide) fl_27 (fun _ h9 => h9) rfl dX6_plugs_21 ?_
    refine lv_iload_n hx hb dX6_plugs_24 rfl (lv_at hl 1 rfl) ?_
    refine x_callVi (As := [.int (iI f)]) (rest := []) ⟨hx, hb, hml, hown, hts⟩ (c_X5_plugsOf l D cI cS b a tk2 tg2 lv to ta te ts tr cnt lv kd gd ln st H.size f (by first | assumption | omega) (by first | assumption | omega) hko2 (by first | assumption | omega)) (cwV 1 hts gX6_plugs_X5_plugsOf rfl rfl rfl (by decide +kernel) ⟨Nat.le_of_ble_eq_true rfl, Nat.le_of_ble_eq_true rfl⟩) hK hP hD hS hA [1, 2, 3, 4, 5, 6, 7, 8, 9, 10, 11, 12, 13] [0] (wr := [(h 0, .inr (6, [.ref (q_ 0), .ref (x_ 0), .ref (b 0), .ref (a 0), .ref (d_ 0), .ref (r_ 0), .int (iI lf), .int (iI tc)]))]) rfl rfl (by decide) (by decide) (by decide) 0 5 rfl rfl rfl [0, 1, 2, 3, 4, 5, 6, 7, 8, 9, 10, 11, 12, 13] (fun (u : (Int → Int) × (Int → Int) × (Int → Int) × (Int → Int) × (Int → Int) × (Int → Int)) => (W_A_T_P cI cS h q_ x_ b a d_ r_ lf tc b a u.1 u.2.1 lv u.2.2.1 u.2.2.2.1 u.2.2.2.2.1 u.2.2.2.2.2 tr a cnt lv kd gd ln st)) (fun _ => rfl) (by decide) rfl hl.1 rfl (Nat.le_of_ble_eq_true rfl) ⟨Nat.zero_le _, Nat.zero_le _⟩ dX6_plugs_25 (fun r_ u_ H locs hw hP hD hS => ?_)
    obtain ⟨tk_2, tg_3, to_4, ta_5, te_6, ts_7⟩ := u_
    try dsimp only at hw
    obtain ⟨z0, rfl, hz_⟩ := hw
    have hP : va_P D vwCl (W_A_T_P cI cS h q_ x_ b a d_ r_ lf tc b a tk_2 tg_3 lv to_4 ta_5 te_6 ts_7 tr a cnt lv kd gd ln st) H := hP
    have hD : va_D A (W_A_T_P cI cS h q_ x_ b a d_ r_ lf tc b a tk_2 tg_3 lv to_4 ta_5 te_6 ts_7 tr a cnt lv kd gd ln st) := hD
    have hpp : plugsR cnt lv kd gd ln st f z0 := by
      rcases hz_ with ⟨q, q2⟩ | ⟨q, q2⟩
      · rw [q]; exact (plRes_plugs hok hf.1 hf.2 q2).2 rfl
      · exact (plRes_plugs hok hf.1 hf.2 q2).1 q
    exact W.iret (v := iI z0) hx hb hr (fun t ht hW => ⟨⟨_, (tk_2, tg_3, lv, to_4, ta_5, te_6, ts_7), rfl, ⟨z0, rfl, (by (try dsimp only); exact (Or.inr ⟨hf, hpp⟩))⟩, by rw [ht]; exact hP, hD⟩, hS.F ht⟩) hS.2.2 dX6_plugs_28
  ·
    refine lv_iconst (v := iI (-1)) hx hb dX6_plugs_11 (by decide +kernel) ?_
    exact W.iret (v := iI (-1)) hx hb hr (fun t ht hW => ⟨⟨_, (tk, tg, tl, to, ta, te, ts), rfl, ⟨(-1), rfl, (by (try dsimp only); exact (Or.inl ⟨rfl, by omega⟩))⟩, by rw [ht]; exact hP, hD⟩, hS.F ht⟩) hS.2.2 dX6_plugs_12
set_option maxHeartbeats 4000000 in
set_option maxRecDepth 100000 in
theorem c_X6_reading (l : Launch) (D : va_G) (cI cS : ClassId) (h : Nat → Nat) (q_ : Nat → Nat) (x_ : Nat → Nat) (b : Nat → Nat) (a : Nat → Nat) (d_ : Nat → Nat) (r_ : Nat → Nat) (lf : Int) (tc : Int) (cnt : Int) (lv : Int) (kd : Int → Int) (gd : Int → Int) (ln : Int → Int) (st : Int → Int) (rn : Int) (rf : Int → Int) (ro : Int → Int) (sz : Nat) (f : Int) (x : Int) (hok : okP cnt ln st) (hrn : 0 ≤ rn ∧ rn ≤ 8) (hfr : -2147483648 ≤ f ∧ f < 2147483648) (hxr : -2147483648 ≤ x ∧ x < 2147483648) : Met l yX6_reading wsX6_reading ({ frames := 1, cells := 0, slots := 0, locals := 22 }) (cP D cI cS (W_A_P_R cI cS h q_ x_ b a d_ r_ lf tc a cnt lv kd gd ln st r_ rn rf ro) sz [.ref (h 0), .int (iI f), .int (iI x)]) (va_Qi (fun (r : Int32) (u : Unit) => r = iI (if 0 ≤ f ∧ f < cnt then (if 0 ≤ x ∧ x ≤ 4 then (if rn < 8 then rn else (-4)) else (-2)) else (-1))) (fun (u : Unit) t => cB D (va_A (W_A_P_R cI cS h q_ x_ b a d_ r_ lf tc a cnt lv kd gd ln st r_ rn rf ro) sz) (W_A_P_R cI cS h q_ x_ b a d_ r_ lf tc a cnt lv kd gd ln st r_ (if (0 ≤ f ∧ f < cnt) ∧ (0 ≤ x ∧ x ≤ 4) ∧ rn < 8 then rn + 1 else rn) (if (0 ≤ f ∧ f < cnt) ∧ (0 ≤ x ∧ x ≤ 4) ∧ rn < 8 then updI rf rn f else rf) (if (0 ≤ f ∧ f < cnt) ∧ (0 ≤ x ∧ x ≤ 4) ∧ rn < 8 then updI ro rn x else ro)) t) (va_A (W_A_P_R cI cS h q_ x_ b a d_ r_ lf tc a cnt lv kd gd ln st r_ rn rf ro) sz)) 0 0 (va_A (W_A_P_R cI cS h q_ x_ b a d_ r_ lf tc a cnt lv kd gd ln st r_ rn rf ro) sz) := by
  refine Met.ofW (cc := cX6_reading) (maxL := 3) (ret := (some .int)) (by decide) rfl ?_
  intro p e s m args below meth c_ s₁ B hml hv
  obtain ⟨rfl, hsz, hP, hK, hD0⟩ := hv
  have hx := B.exec
  have hb := B.bytes
  have hr := B.returns
  have hts := atoms_spec (ws := wsX6_reading) B.pre
  have hown : s.vm.findClass RX6 = some m.cls := findClass_of_methodNamed B.named
  have hlocks := B.notSynchronized
  subst hsz
  have hD := hD0.self (sz := s.heap.size)
  generalize hAe : va_A (W_A_P_R cI cS h q_ x_ b a d_ r_ lf tc a cnt lv kd gd ln st r_ rn rf ro) s.heap.size = A at hD ⊢
  have hA : ∀ q : Nat, s.heap.size ≤ q → A q := fun q h => by rw [← hAe]; exact Or.inr h
  have hS : va_S A s.heap s.heap [] := va_S.rf
  have hP : va_P D vwCl (W_A_P_R cI cS h q_ x_ b a d_ r_ lf tc a cnt lv kd gd ln st r_ rn rf ro) s.heap := hP
  have hl := lv_entry ([.ref (h 0), .int (iI f), .int (iI x)] : List Value) (n := 3) (Nat.le_of_ble_eq_true rfl)
  rw [lg_entry_eq]
  generalize (lg_sl ([.ref (h 0), .int (iI f), .int (iI x)] : List Value) ++ List.replicate (3 - (lg_sl ([.ref (h 0), .int (iI f), .int (iI x)] : List Value)).length) Slot.unset).toArray = ls at hl ⊢
  have hl : lv_has ls 3 [(0, .ref (h 0)), (1, .int (iI f)), (2, .int (iI x))] := hl
  have fl_35 := hts (.fieldLink RX6 35 "ActRows" "told" "LActRows$Program;") (by decide +kernel)
  have iw_6 : ∀ w ∈ wsX60, w ∈ wsX6_reading := by decide +kernel
  have fl_48 := hts (.fieldLink RX6 48 "ActRows" "readings" "LActRows$Readings;") (by decide +kernel)
  have hc := hok.1
  have hln := hok.2.1
  refine lv_aload_n hx hb dX6_reading_0 rfl (lv_at hl 0 rfl) ?_
  refine va_get (D := D) (ci := 6) (v := .ref (a 0)) (C := RX6) (T := TX6) (N := 8) hx hb hts iw_6 hown hK.1 hP 0 rfl rfl 3 (by decide) fl_35 (fun _ h9 => h9) rfl dX6_reading_1 ?_
  refine lv_iload_n hx hb dX6_reading_4 rfl (lv_at hl 1 rfl) ?_
  refine x_callVi (As := [.int (iI f)]) (rest := []) ⟨hx, hb, hml, hown, hts⟩ (c_X1_has l D cI cS a cnt lv kd gd ln st s.heap.size f (by first | assumption | omega) (by first | assumption | omega)) (cwV 1 hts gX6_reading_X1_has rfl rfl rfl (by decide +kernel) ⟨Nat.le_of_ble_eq_true rfl, Nat.le_of_ble_eq_true rfl⟩) hK hP hD hS hA [1, 2, 3, 4, 5] [0, 6, 7, 8] (wr := [(h 0, .inr (6, [.ref (q_ 0), .ref (x_ 0), .ref (b 0), .ref (a 0), .ref (d_ 0), .ref (r_ 0), .int (iI lf), .int (iI tc)])), (r_ 0, .inr (2, [.ref (r_ 1), .ref (r_ 2), .int (iI rn)])), (r_ 1, .inl (cI, 8, .inl (aI rf))), (r_ 2, .inl (cI, 8, .inl (aI ro)))]) rfl rfl (by decide) (by decide) (by decide) 0 1 rfl rfl rfl [0, 4, 5, 6, 7, 8, 1, 2, 3] (fun (u : Unit) => (W_A_P_R cI cS h q_ x_ b a d_ r_ lf tc a cnt lv kd gd ln st r_ rn rf ro)) (fun _ => rfl) (by decide) rfl hl.1 rfl (Nat.le_of_ble_eq_true rfl) ⟨Nat.zero_le _, Nat.zero_le _⟩ dX6_reading_5 (fun r_ u_ H locs hw hP hD hS => ?_)
  try dsimp only at hw
  subst hw
  have hP : va_P D vwCl (W_A_P_R cI cS h q_ x_ b a d_ r_ lf tc a cnt lv kd gd ln st r_ rn rf ro) H := hP
  have hD : va_D A (W_A_P_R cI cS h q_ x_ b a d_ r_ lf tc a cnt lv kd gd ln st r_ rn rf ro) := hD
  refine n_if_b2 (tgt := 13) hx hb dX6_reading_8 (by decide)  (fun c_1 => ?_) (fun c_1 => ?_)
  ·
    refine lv_iload_n hx hb dX6_reading_13 rfl (lv_at hl 2 rfl) ?_
    refine x_callSi (As := [.int (iI x)]) (rest := []) ⟨hx, hb, hml, hown, hts⟩ (c_X6_isOut l D cI cS H.size x (by first | assumption | omega)) (va_cwS 1 hts gX6_reading_X6_isOut rfl rfl rfl (by decide +kernel) ⟨Nat.le_of_ble_eq_true rfl, Nat.le_of_ble_eq_true rfl⟩) hK hP hD hS hA [] [0, 1, 2, 3, 4, 5, 6, 7, 8] (wr := [(h 0, .inr (6, [.ref (q_ 0), .ref (x_ 0), .ref (b 0), .ref (a 0), .ref (d_ 0), .ref (r_ 0), .int (iI lf), .int (iI tc)])), (a 0, .inr (1, [.ref (a 1), .ref (a 2), .ref (a 3), .ref (a 4), .int (iI cnt), .int (iI lv)])), (a 1, .inl (cI, 5, .inl (aI kd))), (a 2, .inl (cI, 5, .inl (aI gd))), (a 3, .inl (cI, 5, .inl (aI ln))), (a 4, .inl (cI, 20, .inl (aI st))), (r_ 0, .inr (2, [.ref (r_ 1), .ref (r_ 2), .int (iI rn)])), (r_ 1, .inl (cI, 8, .inl (aI rf))), (r_ 2, .inl (cI, 8, .inl (aI ro)))]) rfl rfl (by decide) (by decide) (by decide) [0, 1, 2, 3, 4, 5, 6, 7, 8] (fun (u : Unit) => (W_A_P_R cI cS h q_ x_ b a d_ r_ lf tc a cnt lv kd gd ln st r_ rn rf ro)) (fun _ => rfl) (by decide) rfl hl.1 rfl (Nat.le_of_ble_eq_true rfl) ⟨Nat.zero_le _, Nat.zero_le _⟩ dX6_reading_14 (fun r_ u_ H locs hw hP hD hS => ?_)
    try dsimp only at hw
    subst hw
    have hP : va_P D vwCl (W_A_P_R cI cS h q_ x_ b a d_ r_ lf tc a cnt lv kd gd ln st r_ rn rf ro) H := hP
    have hD : va_D A (W_A_P_R cI cS h q_ x_ b a d_ r_ lf tc a cnt lv kd gd ln st r_ rn rf ro) := hD
    refine n_if_b2 (tgt := 23) hx hb dX6_reading_17 (by decide)  (fun c_2 => ?_) (fun c_2 => ?_)
    ·
      refine lv_aload_n hx hb dX6_reading_23 rfl (lv_at hl 0 rfl) ?_
      refine va_get (D := D) (ci := 6) (v := .ref (r_ 0)) (C := RX6) (T := TX6) (N := 8) hx hb hts iw_6 hown hK.1 hP 0 rfl rfl 5 (by decide) fl_48 (fun _ h9 => h9) rfl dX6_reading_24 ?_
      refine lv_iload_n hx hb dX6_reading_27 rfl (lv_at hl 1 rfl) ?_
      refine lv_iload_n hx hb dX6_reading_28 rfl (lv_at hl 2 rfl) ?_
      refine x_callVi (As := [.int (iI f), .int (iI x)]) (rest := []) ⟨hx, hb, hml, hown, hts⟩ (c_X2_add l D cI cS r_ rn rf ro H.size f x (by first | assumption | omega)) (cwV 2 hts gX6_reading_X2_add rfl rfl rfl (by decide +kernel) ⟨Nat.le_of_ble_eq_true rfl, Nat.le_of_ble_eq_true rfl⟩) hK hP hD hS hA [6, 7, 8] [0, 1, 2, 3, 4, 5] (wr := [(h 0, .inr (6, [.ref (q_ 0), .ref (x_ 0), .ref (b 0), .ref (a 0), .ref (d_ 0), .ref (r_ 0), .int (iI lf), .int (iI tc)])), (a 0, .inr (1, [.ref (a 1), .ref (a 2), .ref (a 3), .ref (a 4), .int (iI cnt), .int (iI lv)])), (a 1, .inl (cI, 5, .inl (aI kd))), (a 2, .inl (cI, 5, .inl (aI gd))), (a 3, .inl (cI, 5, .inl (aI ln))), (a 4, .inl (cI, 20, .inl (aI st)))]) rfl rfl (by decide) (by decide) (by decide) 0 2 rfl rfl rfl [0, 1, 2, 3, 4, 5, 6, 7, 8] (fun (u : Unit) => (W_A_P_R cI cS h q_ x_ b a d_ r_ lf tc a cnt lv kd gd ln st r_ (if rn < 8 then rn + 1 else rn) (if rn < 8 then updI rf rn f else rf) (if rn < 8 then updI ro rn x else ro))) (fun _ => rfl) (by decide) rfl hl.1 rfl (Nat.le_of_ble_eq_true rfl) ⟨Nat.zero_le _, Nat.zero_le _⟩ dX6_reading_29 (fun r_ u_ H locs hw hP hD hS => ?_)
      try dsimp only at hw
      subst hw
      have hP : va_P D vwCl (W_A_P_R cI cS h q_ x_ b a d_ r_ lf tc a cnt lv kd gd ln st r_ (if rn < 8 then rn + 1 else rn) (if rn < 8 then updI rf rn f else rf) (if rn < 8 then updI ro rn x else ro)) H := hP
      have hD : va_D A (W_A_P_R cI cS h q_ x_ b a d_ r_ lf tc a cnt lv kd gd ln st r_ (if rn < 8 then rn + 1 else rn) (if rn < 8 then updI rf rn f else rf) (if rn < 8 then updI ro rn x else ro)) := hD
      have e_3 : ((if rn < 8 then rn + 1 else rn) : Int) = (if (0 ≤ f ∧ f < cnt) ∧ (0 ≤ x ∧ x ≤ 4) ∧ rn < 8 then rn + 1 else rn) := (by omega)
      have hP : va_P D vwCl (W_A_P_R cI cS h q_ x_ b a d_ r_ lf tc a cnt lv kd gd ln st r_ (if (0 ≤ f ∧ f < cnt) ∧ (0 ≤ x ∧ x ≤ 4) ∧ rn < 8 then rn + 1 else rn) (if rn < 8 then updI rf rn f else rf) (if rn < 8 then updI ro rn x else ro)) H := Eq.mp (congrArg (fun z_ => va_P D vwCl (W_A_P_R cI cS h q_ x_ b a d_ r_ lf tc a cnt lv kd gd ln st r_ z_ (if rn < 8 then updI rf rn f else rf) (if rn < 8 then updI ro rn x else ro)) H) e_3) hP
      have hD : va_D A (W_A_P_R cI cS h q_ x_ b a d_ r_ lf tc a cnt lv kd gd ln st r_ (if (0 ≤ f ∧ f < cnt) ∧ (0 ≤ x ∧ x ≤ 4) ∧ rn < 8 then rn + 1 else rn) (if rn < 8 then updI rf rn f else rf) (if rn < 8 then updI ro rn x else ro)) := Eq.mp (congrArg (fun z_ => va_D A (W_A_P_R cI cS h q_ x_ b a d_ r_ lf tc a cnt lv kd gd ln st r_ z_ (if rn < 8 then updI rf rn f else rf) (if rn < 8 then updI ro rn x else ro))) e_3) hD
      have e_4 : ((if rn < 8 then updI rf rn f else rf) : Int → Int) = (if (0 ≤ f ∧ f < cnt) ∧ (0 ≤ x ∧ x ≤ 4) ∧ rn < 8 then updI rf rn f else rf) := (by by_cases q : rn < 8 <;> first | (rw [if_neg (by omega)]; done) | (rw [if_pos q, if_pos (by omega)]; done) | (rw [if_neg q, if_neg (by omega)]; done))
      have hP : va_P D vwCl (W_A_P_R cI cS h q_ x_ b a d_ r_ lf tc a cnt lv kd gd ln st r_ (if (0 ≤ f ∧ f < cnt) ∧ (0 ≤ x ∧ x ≤ 4) ∧ rn < 8 then rn + 1 else rn) (if (0 ≤ f ∧ f < cnt) ∧ (0 ≤ x ∧ x ≤ 4) ∧ rn < 8 then updI rf rn f else rf) (if rn < 8 then updI ro rn x else ro)) H := Eq.mp (congrArg (fun z_ => va_P D vwCl (W_A_P_R cI cS h q_ x_ b a d_ r_ lf tc a cnt lv kd gd ln st r_ (if (0 ≤ f ∧ f < cnt) ∧ (0 ≤ x ∧ x ≤ 4) ∧ rn < 8 then rn + 1 else rn) z_ (if rn < 8 then updI ro rn x else ro)) H) e_4) hP
      have hD : va_D A (W_A_P_R cI cS h q_ x_ b a d_ r_ lf tc a cnt lv kd gd ln st r_ (if (0 ≤ f ∧ f < cnt) ∧ (0 ≤ x ∧ x ≤ 4) ∧ rn < 8 then rn + 1 else rn) (if (0 ≤ f ∧ f < cnt) ∧ (0 ≤ x ∧ x ≤ 4) ∧ rn < 8 then updI rf rn f else rf) (if rn < 8 then updI ro rn x else ro)) := Eq.mp (congrArg (fun z_ => va_D A (W_A_P_R cI cS h q_ x_ b a d_ r_ lf tc a cnt lv kd gd ln st r_ (if (0 ≤ f ∧ f < cnt) ∧ (0 ≤ x ∧ x ≤ 4) ∧ rn < 8 then rn + 1 else rn) z_ (if rn < 8 then updI ro rn x else ro))) e_4) hD
      have e_5 : ((if rn < 8 then updI ro rn x else ro) : Int → Int) = (if (0 ≤ f ∧ f < cnt) ∧ (0 ≤ x ∧ x ≤ 4) ∧ rn < 8 then updI ro rn x else ro) := (by by_cases q : rn < 8 <;> first | (rw [if_neg (by omega)]; done) | (rw [if_pos q, if_pos (by omega)]; done) | (rw [if_neg q, if_neg (by omega)]; done))
      have hP : va_P D vwCl (W_A_P_R cI cS h q_ x_ b a d_ r_ lf tc a cnt lv kd gd ln st r_ (if (0 ≤ f ∧ f < cnt) ∧ (0 ≤ x ∧ x ≤ 4) ∧ rn < 8 then rn + 1 else rn) (if (0 ≤ f ∧ f < cnt) ∧ (0 ≤ x ∧ x ≤ 4) ∧ rn < 8 then updI rf rn f else rf) (if (0 ≤ f ∧ f < cnt) ∧ (0 ≤ x ∧ x ≤ 4) ∧ rn < 8 then updI ro rn x else ro)) H := Eq.mp (congrArg (fun z_ => va_P D vwCl (W_A_P_R cI cS h q_ x_ b a d_ r_ lf tc a cnt lv kd gd ln st r_ (if (0 ≤ f ∧ f < cnt) ∧ (0 ≤ x ∧ x ≤ 4) ∧ rn < 8 then rn + 1 else rn) (if (0 ≤ f ∧ f < cnt) ∧ (0 ≤ x ∧ x ≤ 4) ∧ rn < 8 then updI rf rn f else rf) z_) H) e_5) hP
      have hD : va_D A (W_A_P_R cI cS h q_ x_ b a d_ r_ lf tc a cnt lv kd gd ln st r_ (if (0 ≤ f ∧ f < cnt) ∧ (0 ≤ x ∧ x ≤ 4) ∧ rn < 8 then rn + 1 else rn) (if (0 ≤ f ∧ f < cnt) ∧ (0 ≤ x ∧ x ≤ 4) ∧ rn < 8 then updI rf rn f else rf) (if (0 ≤ f ∧ f < cnt) ∧ (0 ≤ x ∧ x ≤ 4) ∧ rn < 8 then updI ro rn x else ro)) := Eq.mp (congrArg (fun z_ => va_D A (W_A_P_R cI cS h q_ x_ b a d_ r_ lf tc a cnt lv kd gd ln st r_ (if (0 ≤ f ∧ f < cnt) ∧ (0 ≤ x ∧ x ≤ 4) ∧ rn < 8 then rn + 1 else rn) (if (0 ≤ f ∧ f < cnt) ∧ (0 ≤ x ∧ x ≤ 4) ∧ rn < 8 then updI rf rn f else rf) z_)) e_5) hD
      exact W.iret (v := iI (if rn < 8 then rn else (-4))) hx hb hr (fun t ht hW => ⟨⟨_, (), rfl, congrArg iI (show (if rn < 8 then rn else (-4)) = (if 0 ≤ f ∧ f < cnt then (if 0 ≤ x ∧ x ≤ 4 then (if rn < 8 then rn else (-4)) else (-2)) else (-1)) from (by omega)), by rw [ht]; exact hP, hD⟩, hS.F ht⟩) hS.2.2 dX6_reading_32
    ·
      refine lv_bipush (v := iI (-2)) hx hb dX6_reading_20 (by decide +kernel) ?_
      have e_6 : (rn : Int) = (if (0 ≤ f ∧ f < cnt) ∧ (0 ≤ x ∧ x ≤ 4) ∧ rn < 8 then rn + 1 else rn) := (by omega)
      have hP : va_P D vwCl (W_A_P_R cI cS h q_ x_ b a d_ r_ lf tc a cnt lv kd gd ln st r_ (if (0 ≤ f ∧ f < cnt) ∧ (0 ≤ x ∧ x ≤ 4) ∧ rn < 8 then rn + 1 else rn) rf ro) H := Eq.mp (congrArg (fun z_ => va_P D vwCl (W_A_P_R cI cS h q_ x_ b a d_ r_ lf tc a cnt lv kd gd ln st r_ z_ rf ro) H) e_6) hP
      have hD : va_D A (W_A_P_R cI cS h q_ x_ b a d_ r_ lf tc a cnt lv kd gd ln st r_ (if (0 ≤ f ∧ f < cnt) ∧ (0 ≤ x ∧ x ≤ 4) ∧ rn < 8 then rn + 1 else rn) rf ro) := Eq.mp (congrArg (fun z_ => va_D A (W_A_P_R cI cS h q_ x_ b a d_ r_ lf tc a cnt lv kd gd ln st r_ z_ rf ro)) e_6) hD
      have e_7 : (rf : Int → Int) = (if (0 ≤ f ∧ f < cnt) ∧ (0 ≤ x ∧ x ≤ 4) ∧ rn < 8 then updI rf rn f else rf) := (by by_cases q : rn < 8 <;> first | (rw [if_neg (by omega)]; done) | (rw [if_pos q, if_pos (by omega)]; done) | (rw [if_neg q, if_neg (by omega)]; done))
      have hP : va_P D vwCl (W_A_P_R cI cS h q_ x_ b a d_ r_ lf tc a cnt lv kd gd ln st r_ (if (0 ≤ f ∧ f < cnt) ∧ (0 ≤ x ∧ x ≤ 4) ∧ rn < 8 then rn + 1 else rn) (if (0 ≤ f ∧ f < cnt) ∧ (0 ≤ x ∧ x ≤ 4) ∧ rn < 8 then updI rf rn f else rf) ro) H := Eq.mp (congrArg (fun z_ => va_P D vwCl (W_A_P_R cI cS h q_ x_ b a d_ r_ lf tc a cnt lv kd gd ln st r_ (if (0 ≤ f ∧ f < cnt) ∧ (0 ≤ x ∧ x ≤ 4) ∧ rn < 8 then rn + 1 else rn) z_ ro) H) e_7) hP
      have hD : va_D A (W_A_P_R cI cS h q_ x_ b a d_ r_ lf tc a cnt lv kd gd ln st r_ (if (0 ≤ f ∧ f < cnt) ∧ (0 ≤ x ∧ x ≤ 4) ∧ rn < 8 then rn + 1 else rn) (if (0 ≤ f ∧ f < cnt) ∧ (0 ≤ x ∧ x ≤ 4) ∧ rn < 8 then updI rf rn f else rf) ro) := Eq.mp (congrArg (fun z_ => va_D A (W_A_P_R cI cS h q_ x_ b a d_ r_ lf tc a cnt lv kd gd ln st r_ (if (0 ≤ f ∧ f < cnt) ∧ (0 ≤ x ∧ x ≤ 4) ∧ rn < 8 then rn + 1 else rn) z_ ro)) e_7) hD
      have e_8 : (ro : Int → Int) = (if (0 ≤ f ∧ f < cnt) ∧ (0 ≤ x ∧ x ≤ 4) ∧ rn < 8 then updI ro rn x else ro) := (by by_cases q : rn < 8 <;> first | (rw [if_neg (by omega)]; done) | (rw [if_pos q, if_pos (by omega)]; done) | (rw [if_neg q, if_neg (by omega)]; done))
      have hP : va_P D vwCl (W_A_P_R cI cS h q_ x_ b a d_ r_ lf tc a cnt lv kd gd ln st r_ (if (0 ≤ f ∧ f < cnt) ∧ (0 ≤ x ∧ x ≤ 4) ∧ rn < 8 then rn + 1 else rn) (if (0 ≤ f ∧ f < cnt) ∧ (0 ≤ x ∧ x ≤ 4) ∧ rn < 8 then updI rf rn f else rf) (if (0 ≤ f ∧ f < cnt) ∧ (0 ≤ x ∧ x ≤ 4) ∧ rn < 8 then updI ro rn x else ro)) H := Eq.mp (congrArg (fun z_ => va_P D vwCl (W_A_P_R cI cS h q_ x_ b a d_ r_ lf tc a cnt lv kd gd ln st r_ (if (0 ≤ f ∧ f < cnt) ∧ (0 ≤ x ∧ x ≤ 4) ∧ rn < 8 then rn + 1 else rn) (if (0 ≤ f ∧ f < cnt) ∧ (0 ≤ x ∧ x ≤ 4) ∧ rn < 8 then updI rf rn f else rf) z_) H) e_8) hP
      have hD : va_D A (W_A_P_R cI cS h q_ x_ b a d_ r_ lf tc a cnt lv kd gd ln st r_ (if (0 ≤ f ∧ f < cnt) ∧ (0 ≤ x ∧ x ≤ 4) ∧ rn < 8 then rn + 1 else rn) (if (0 ≤ f ∧ f < cnt) ∧ (0 ≤ x ∧ x ≤ 4) ∧ rn < 8 then updI rf rn f else rf) (if (0 ≤ f ∧ f < cnt) ∧ (0 ≤ x ∧ x ≤ 4) ∧ rn < 8 then updI ro rn x else ro)) := Eq.mp (congrArg (fun z_ => va_D A (W_A_P_R cI cS h q_ x_ b a d_ r_ lf tc a cnt lv kd gd ln st r_ (if (0 ≤ f ∧ f < cnt) ∧ (0 ≤ x ∧ x ≤ 4) ∧ rn < 8 then rn + 1 else rn) (if (0 ≤ f ∧ f < cnt) ∧ (0 ≤ x ∧ x ≤ 4) ∧ rn < 8 then updI rf rn f else rf) z_)) e_8) hD
      exact W.iret (v := iI (-2)) hx hb hr (fun t ht hW => ⟨⟨_, (), rfl, congrArg iI (show (-2) = (if 0 ≤ f ∧ f < cnt then (if 0 ≤ x ∧ x ≤ 4 then (if rn < 8 then rn else (-4)) else (-2)) else (-1)) from (by omega)), by rw [ht]; exact hP, hD⟩, hS.F ht⟩) hS.2.2 dX6_reading_22
  ·
    refine lv_iconst (v := iI (-1)) hx hb dX6_reading_11 (by decide +kernel) ?_
    have e_9 : (rn : Int) = (if (0 ≤ f ∧ f < cnt) ∧ (0 ≤ x ∧ x ≤ 4) ∧ rn < 8 then rn + 1 else rn) := (by omega)
    have hP : va_P D vwCl (W_A_P_R cI cS h q_ x_ b a d_ r_ lf tc a cnt lv kd gd ln st r_ (if (0 ≤ f ∧ f < cnt) ∧ (0 ≤ x ∧ x ≤ 4) ∧ rn < 8 then rn + 1 else rn) rf ro) H := Eq.mp (congrArg (fun z_ => va_P D vwCl (W_A_P_R cI cS h q_ x_ b a d_ r_ lf tc a cnt lv kd gd ln st r_ z_ rf ro) H) e_9) hP
    have hD : va_D A (W_A_P_R cI cS h q_ x_ b a d_ r_ lf tc a cnt lv kd gd ln st r_ (if (0 ≤ f ∧ f < cnt) ∧ (0 ≤ x ∧ x ≤ 4) ∧ rn < 8 then rn + 1 else rn) rf ro) := Eq.mp (congrArg (fun z_ => va_D A (W_A_P_R cI cS h q_ x_ b a d_ r_ lf tc a cnt lv kd gd ln st r_ z_ rf ro)) e_9) hD
    have e_10 : (rf : Int → Int) = (if (0 ≤ f ∧ f < cnt) ∧ (0 ≤ x ∧ x ≤ 4) ∧ rn < 8 then updI rf rn f else rf) := (by by_cases q : rn < 8 <;> first | (rw [if_neg (by omega)]; done) | (rw [if_pos q, if_pos (by omega)]; done) | (rw [if_neg q, if_neg (by omega)]; done))
    have hP : va_P D vwCl (W_A_P_R cI cS h q_ x_ b a d_ r_ lf tc a cnt lv kd gd ln st r_ (if (0 ≤ f ∧ f < cnt) ∧ (0 ≤ x ∧ x ≤ 4) ∧ rn < 8 then rn + 1 else rn) (if (0 ≤ f ∧ f < cnt) ∧ (0 ≤ x ∧ x ≤ 4) ∧ rn < 8 then updI rf rn f else rf) ro) H := Eq.mp (congrArg (fun z_ => va_P D vwCl (W_A_P_R cI cS h q_ x_ b a d_ r_ lf tc a cnt lv kd gd ln st r_ (if (0 ≤ f ∧ f < cnt) ∧ (0 ≤ x ∧ x ≤ 4) ∧ rn < 8 then rn + 1 else rn) z_ ro) H) e_10) hP
    have hD : va_D A (W_A_P_R cI cS h q_ x_ b a d_ r_ lf tc a cnt lv kd gd ln st r_ (if (0 ≤ f ∧ f < cnt) ∧ (0 ≤ x ∧ x ≤ 4) ∧ rn < 8 then rn + 1 else rn) (if (0 ≤ f ∧ f < cnt) ∧ (0 ≤ x ∧ x ≤ 4) ∧ rn < 8 then updI rf rn f else rf) ro) := Eq.mp (congrArg (fun z_ => va_D A (W_A_P_R cI cS h q_ x_ b a d_ r_ lf tc a cnt lv kd gd ln st r_ (if (0 ≤ f ∧ f < cnt) ∧ (0 ≤ x ∧ x ≤ 4) ∧ rn < 8 then rn + 1 else rn) z_ ro)) e_10) hD
    have e_11 : (ro : Int → Int) = (if (0 ≤ f ∧ f < cnt) ∧ (0 ≤ x ∧ x ≤ 4) ∧ rn < 8 then updI ro rn x else ro) := (by by_cases q : rn < 8 <;> first | (rw [if_neg (by omega)]; done) | (rw [if_pos q, if_pos (by omega)]; done) | (rw [if_neg q, if_neg (by omega)]; done))
    have hP : va_P D vwCl (W_A_P_R cI cS h q_ x_ b a d_ r_ lf tc a cnt lv kd gd ln st r_ (if (0 ≤ f ∧ f < cnt) ∧ (0 ≤ x ∧ x ≤ 4) ∧ rn < 8 then rn + 1 else rn) (if (0 ≤ f ∧ f < cnt) ∧ (0 ≤ x ∧ x ≤ 4) ∧ rn < 8 then updI rf rn f else rf) (if (0 ≤ f ∧ f < cnt) ∧ (0 ≤ x ∧ x ≤ 4) ∧ rn < 8 then updI ro rn x else ro)) H := Eq.mp (congrArg (fun z_ => va_P D vwCl (W_A_P_R cI cS h q_ x_ b a d_ r_ lf tc a cnt lv kd gd ln st r_ (if (0 ≤ f ∧ f < cnt) ∧ (0 ≤ x ∧ x ≤ 4) ∧ rn < 8 then rn + 1 else rn) (if (0 ≤ f ∧ f < cnt) ∧ (0 ≤ x ∧ x ≤ 4) ∧ rn < 8 then updI rf rn f else rf) z_) H) e_11) hP
    have hD : va_D A (W_A_P_R cI cS h q_ x_ b a d_ r_ lf tc a cnt lv kd gd ln st r_ (if (0 ≤ f ∧ f < cnt) ∧ (0 ≤ x ∧ x ≤ 4) ∧ rn < 8 then rn + 1 else rn) (if (0 ≤ f ∧ f < cnt) ∧ (0 ≤ x ∧ x ≤ 4) ∧ rn < 8 then updI rf rn f else rf) (if (0 ≤ f ∧ f < cnt) ∧ (0 ≤ x ∧ x ≤ 4) ∧ rn < 8 then updI ro rn x else ro)) := Eq.mp (congrArg (fun z_ => va_D A (W_A_P_R cI cS h q_ x_ b a d_ r_ lf tc a cnt lv kd gd ln st r_ (if (0 ≤ f ∧ f < cnt) ∧ (0 ≤ x ∧ x ≤ 4) ∧ rn < 8 then rn + 1 else rn) (if (0 ≤ f ∧ f < cnt) ∧ (0 ≤ x ∧ x ≤ 4) ∧ rn < 8 then updI rf rn f else rf) z_)) e_11) hD
    exact W.iret (v := iI (-1)) hx hb hr (fun t ht hW => ⟨⟨_, (), rfl, congrArg iI (show (-1) = (if 0 ≤ f ∧ f < cnt then (if 0 ≤ x ∧ x ≤ 4 then (if rn < 8 then rn else (-4)) else (-2)) else (-1)) from (by omega)), by rw [ht]; exact hP, hD⟩, hS.F ht⟩) hS.2.2 dX6_reading_12
set_option maxHeartbeats 4000000 in
set_option maxRecDepth 100000 in
theorem c_X6_back (l : Launch) (D : va_G) (cI cS : ClassId) (h : Nat → Nat) (q_ : Nat → Nat) (x_ : Nat → Nat) (b : Nat → Nat) (a : Nat → Nat) (d_ : Nat → Nat) (r_ : Nat → Nat) (lf : Int) (tc : Int) (rn : Int) (rf : Int → Int) (ro : Int → Int) (sz : Nat) (k : Int) (hrn : 0 ≤ rn ∧ rn ≤ 8) (hkr : -2147483648 ≤ k ∧ k < 2147483648) : Met l yX6_back wsX6_back ({ frames := 2, cells := 0, slots := 0, locals := 51 }) (cP D cI cS (W_A_R cI cS h q_ x_ b a d_ r_ lf tc r_ rn rf ro) sz [.ref (h 0), .int (iI k)]) (va_Qi (fun (r : Int32) (u : Unit) => r = iI (if 0 ≤ k ∧ k ≤ rn then rn - k else (-2))) (fun (u : Unit) t => cB D (va_A (W_A_R cI cS h q_ x_ b a d_ r_ lf tc r_ rn rf ro) sz) (W_A_R cI cS h q_ x_ b a d_ r_ lf tc r_ (if 0 ≤ k ∧ k ≤ rn then rn - k else rn) rf ro) t) (va_A (W_A_R cI cS h q_ x_ b a d_ r_ lf tc r_ rn rf ro) sz)) 0 0 (va_A (W_A_R cI cS h q_ x_ b a d_ r_ lf tc r_ rn rf ro) sz) := by
  refine Met.ofW (cc := cX6_back) (maxL := 2) (ret := (some .int)) (by decide) rfl ?_
  intro p e s m args below meth c_ s₁ B hml hv
  obtain ⟨rfl, hsz, hP, hK, hD0⟩ := hv
  have hx := B.exec
  have hb := B.bytes
  have hr := B.returns
  have hts := atoms_spec (ws := wsX6_back) B.pre
  have hown : s.vm.findClass RX6 = some m.cls := findClass_of_methodNamed B.named
  have hlocks := B.notSynchronized
  subst hsz
  have hD := hD0.self (sz := s.heap.size)
  generalize hAe : va_A (W_A_R cI cS h q_ x_ b a d_ r_ lf tc r_ rn rf ro) s.heap.size = A at hD ⊢
  have hA : ∀ q : Nat, s.heap.size ≤ q → A q := fun q h => by rw [← hAe]; exact Or.inr h
  have hS : va_S A s.heap s.heap [] := va_S.rf
  have hP : va_P D vwCl (W_A_R cI cS h q_ x_ b a d_ r_ lf tc r_ rn rf ro) s.heap := hP
  have hl := lv_entry ([.ref (h 0), .int (iI k)] : List Value) (n := 2) (Nat.le_of_ble_eq_true rfl)
  rw [lg_entry_eq]
  generalize (lg_sl ([.ref (h 0), .int (iI k)] : List Value) ++ List.replicate (2 - (lg_sl ([.ref (h 0), .int (iI k)] : List Value)).length) Slot.unset).toArray = ls at hl ⊢
  have hl : lv_has ls 2 [(0, .ref (h 0)), (1, .int (iI k))] := hl
  have fl_48 := hts (.fieldLink RX6 48 "ActRows" "readings" "LActRows$Readings;") (by decide +kernel)
  have iw_6 : ∀ w ∈ wsX60, w ∈ wsX6_back := by decide +kernel
  have fn_88 := va_Nw.use (A := ([.ref (h 0), .int (iI k)] : List Value).toArray) rfl (hK.2 ("ActRows", 88, "ActRows$Readings", "count", "I") (List.mem_of_getElem? (i := 13) rfl))
  have iw_2 : ∀ w ∈ wsX20, w ∈ wsX6_back := by decide +kernel
  refine lv_iload_n hx hb dX6_back_0 rfl (lv_at hl 1 rfl) ?_
  refine n_if_lt (tgt := 15) hx hb dX6_back_1 (by decide) (by omega) (fun c_1 => ?_) (fun c_1 => ?_)
  ·
    refine lv_bipush (v := iI (-2)) hx hb dX6_back_15 (by decide +kernel) ?_
    have e_2 : (rn : Int) = (if 0 ≤ k ∧ k ≤ rn then rn - k else rn) := (by omega)
    have hP : va_P D vwCl (W_A_R cI cS h q_ x_ b a d_ r_ lf tc r_ (if 0 ≤ k ∧ k ≤ rn then rn - k else rn) rf ro) s.heap := Eq.mp (congrArg (fun z_ => va_P D vwCl (W_A_R cI cS h q_ x_ b a d_ r_ lf tc r_ z_ rf ro) s.heap) e_2) hP
    have hD : va_D A (W_A_R cI cS h q_ x_ b a d_ r_ lf tc r_ (if 0 ≤ k ∧ k ≤ rn then rn - k else rn) rf ro) := Eq.mp (congrArg (fun z_ => va_D A (W_A_R cI cS h q_ x_ b a d_ r_ lf tc r_ z_ rf ro)) e_2) hD
    exact W.iret (v := iI (-2)) hx hb hr (fun t ht hW => ⟨⟨_, (), rfl, congrArg iI (show (-2) = (if 0 ≤ k ∧ k ≤ rn then rn - k else (-2)) from (by omega)), by rw [ht]; exact hP, hD⟩, hS.F ht⟩) hS.2.2 dX6_back_17
  ·
    refine lv_iload_n hx hb dX6_back_4 rfl (lv_at hl 1 rfl) ?_
    refine lv_aload_n hx hb dX6_back_5 rfl (lv_at hl 0 rfl) ?_
    refine va_get (D := D) (ci := 6) (v := .ref (r_ 0)) (C := RX6) (T := TX6) (N := 8) hx hb hts iw_6 hown hK.1 hP 0 rfl rfl 5 (by decide) fl_48 (fun _ h9 => h9) rfl dX6_back_6 ?_
    refine va_getN (D := D) (ci := 2) (v := .int (iI rn)) (C := RX2) (T := TX2) (N := 3) hx hb hts iw_2 hown hK.1 hP 1 rfl rfl 2 (by decide) fn_88 (fun _ h9 => h9) rfl dX6_back_9 ?_
    refine n_icmp_le (tgt := 18) hx hb dX6_back_12 (by decide) (by omega) (fun c_3 => ?_) (fun c_3 => ?_)
    ·
      refine lv_aload_n hx hb dX6_back_18 rfl (lv_at hl 0 rfl) ?_
      refine va_get (D := D) (ci := 6) (v := .ref (r_ 0)) (C := RX6) (T := TX6) (N := 8) hx hb hts iw_6 hown hK.1 hP 0 rfl rfl 5 (by decide) fl_48 (fun _ h9 => h9) rfl dX6_back_19 ?_
      refine lv_iload_n hx hb dX6_back_22 rfl (lv_at hl 1 rfl) ?_
      refine x_callVv (As := [.int (iI k)]) (rest := []) ⟨hx, hb, hml, hown, hts⟩ (c_X2_takeBack l D cI cS r_ rn rf ro s.heap.size k (by first | assumption | omega) (by first | assumption | omega)) (cwV 1 hts gX6_back_X2_takeBack rfl rfl rfl (by decide +kernel) ⟨Nat.le_of_ble_eq_true rfl, Nat.le_of_ble_eq_true rfl⟩) hK hP hD hS hA [1, 2, 3] [0] (wr := [(h 0, .inr (6, [.ref (q_ 0), .ref (x_ 0), .ref (b 0), .ref (a 0), .ref (d_ 0), .ref (r_ 0), .int (iI lf), .int (iI tc)]))]) rfl rfl (by decide) (by decide) (by decide) 0 2 rfl rfl rfl [0, 1, 2, 3] (fun (u : Unit) => (W_A_R cI cS h q_ x_ b a d_ r_ lf tc r_ (rn - k) rf ro)) (fun _ => rfl) (by decide) rfl hl.1 rfl (Nat.le_of_ble_eq_true rfl) ⟨Nat.zero_le _, Nat.zero_le _⟩ dX6_back_23 (fun u_ H locs hw hP hD hS => ?_)
      try dsimp only at hw
      have hP : va_P D vwCl (W_A_R cI cS h q_ x_ b a d_ r_ lf tc r_ (rn - k) rf ro) H := hP
      have hD : va_D A (W_A_R cI cS h q_ x_ b a d_ r_ lf tc r_ (rn - k) rf ro) := hD
      refine lv_aload_n hx hb dX6_back_26 rfl (lv_at hl 0 rfl) ?_
      refine va_get (D := D) (ci := 6) (v := .ref (r_ 0)) (C := RX6) (T := TX6) (N := 8) hx hb hts iw_6 hown hK.1 hP 0 rfl rfl 5 (by decide) fl_48 (fun _ h9 => h9) rfl dX6_back_27 ?_
      refine va_getN (D := D) (ci := 2) (v := .int (iI (rn - k))) (C := RX2) (T := TX2) (N := 3) hx hb hts iw_2 hown hK.1 hP 1 rfl rfl 2 (by decide) fn_88 (fun _ h9 => h9) rfl dX6_back_30 ?_
      have e_4 : ((rn - k) : Int) = (if 0 ≤ k ∧ k ≤ rn then rn - k else rn) := (by omega)
      have hP : va_P D vwCl (W_A_R cI cS h q_ x_ b a d_ r_ lf tc r_ (if 0 ≤ k ∧ k ≤ rn then rn - k else rn) rf ro) H := Eq.mp (congrArg (fun z_ => va_P D vwCl (W_A_R cI cS h q_ x_ b a d_ r_ lf tc r_ z_ rf ro) H) e_4) hP
      have hD : va_D A (W_A_R cI cS h q_ x_ b a d_ r_ lf tc r_ (if 0 ≤ k ∧ k ≤ rn then rn - k else rn) rf ro) := Eq.mp (congrArg (fun z_ => va_D A (W_A_R cI cS h q_ x_ b a d_ r_ lf tc r_ z_ rf ro)) e_4) hD
      exact W.iret (v := iI (rn - k)) hx hb hr (fun t ht hW => ⟨⟨_, (), rfl, congrArg iI (show (rn - k) = (if 0 ≤ k ∧ k ≤ rn then rn - k else (-2)) from (by omega)), by rw [ht]; exact hP, hD⟩, hS.F ht⟩) hS.2.2 dX6_back_33
    ·
      refine lv_bipush (v := iI (-2)) hx hb dX6_back_15 (by decide +kernel) ?_
      have e_5 : (rn : Int) = (if 0 ≤ k ∧ k ≤ rn then rn - k else rn) := (by omega)
      have hP : va_P D vwCl (W_A_R cI cS h q_ x_ b a d_ r_ lf tc r_ (if 0 ≤ k ∧ k ≤ rn then rn - k else rn) rf ro) s.heap := Eq.mp (congrArg (fun z_ => va_P D vwCl (W_A_R cI cS h q_ x_ b a d_ r_ lf tc r_ z_ rf ro) s.heap) e_5) hP
      have hD : va_D A (W_A_R cI cS h q_ x_ b a d_ r_ lf tc r_ (if 0 ≤ k ∧ k ≤ rn then rn - k else rn) rf ro) := Eq.mp (congrArg (fun z_ => va_D A (W_A_R cI cS h q_ x_ b a d_ r_ lf tc r_ z_ rf ro)) e_5) hD
      exact W.iret (v := iI (-2)) hx hb hr (fun t ht hW => ⟨⟨_, (), rfl, congrArg iI (show (-2) = (if 0 ≤ k ∧ k ≤ rn then rn - k else (-2)) from (by omega)), by rw [ht]; exact hP, hD⟩, hS.F ht⟩) hS.2.2 dX6_back_17
set_option maxHeartbeats 4000000 in
set_option maxRecDepth 100000 in
theorem c_X6_kinds (l : Launch) (D : va_G) (cI cS : ClassId) (h : Nat → Nat) (q_ : Nat → Nat) (x_ : Nat → Nat) (b : Nat → Nat) (a : Nat → Nat) (d_ : Nat → Nat) (r_ : Nat → Nat) (lf : Int) (tc : Int) (tk : Int → Int) (tg : Int → Int) (tl : Int) (to : Int → Int) (ta : Int → Int) (te : Int → Int) (ts : Int → Int) (tr : Int → Int) (cnt : Int) (lv : Int) (kd : Int → Int) (gd : Int → Int) (ln : Int → Int) (st : Int → Int) (rn : Int) (rf : Int → Int) (ro : Int → Int) (sz : Nat) (f : Int) (hok : okP cnt ln st) (hkd : okK cnt kd gd lv) (hrn : 0 ≤ rn ∧ rn ≤ 8) (hrd : ∀ x : Int, 0 ≤ x → x < rn → (0 ≤ rf x ∧ rf x < cnt) ∧ 0 ≤ ro x ∧ ro x ≤ 4) (hfr : -2147483648 ≤ f ∧ f < 2147483648) : Met l yX6_kinds wsX6_kinds ({ frames := 6, cells := 0, slots := 0, locals := 133 }) (cP D cI cS (W_A_T_P_R cI cS h q_ x_ b a d_ r_ lf tc b a tk tg tl to ta te ts tr a cnt lv kd gd ln st r_ rn rf ro) sz [.ref (h 0), .int (iI f)]) (va_Qi (fun (r : Int32) (u : (Int → Int) × (Int → Int) × Int × (Int → Int) × (Int → Int) × (Int → Int) × (Int → Int)) => r = iI (sKinds cnt lv kd gd ln st rn rf ro f)) (fun (u : (Int → Int) × (Int → Int) × Int × (Int → Int) × (Int → Int) × (Int → Int) × (Int → Int)) t => cB D (va_A (W_A_T_P_R cI cS h q_ x_ b a d_ r_ lf tc b a tk tg tl to ta te ts tr a cnt lv kd gd ln st r_ rn rf ro) sz) (W_A_T_P_R cI cS h q_ x_ b a d_ r_ lf tc b a u.1 u.2.1 u.2.2.1 u.2.2.2.1 u.2.2.2.2.1 u.2.2.2.2.2.1 u.2.2.2.2.2.2 tr a cnt lv kd gd ln st r_ rn rf ro) t) (va_A (W_A_T_P_R cI cS h q_ x_ b a d_ r_ lf tc b a tk tg tl to ta te ts tr a cnt lv kd gd ln st r_ rn rf ro) sz)) 0 0 (va_A (W_A_T_P_R cI cS h q_ x_ b a d_ r_ lf tc b a tk tg tl to ta te ts tr a cnt lv kd gd ln st r_ rn rf ro) sz) := by
  refine Met.ofW (cc := cX6_kinds) (maxL := 4) (ret := (some .int)) (by decide) rfl ?_
  intro p e s m args below meth c_ s₁ B hml hv
  obtain ⟨rfl, hsz, hP, hK, hD0⟩ := hv
  have hx := B.exec
  have hb := B.bytes
  have hr := B.returns
  have hts := atoms_spec (ws := wsX6_kinds) B.pre
  have hown : s.vm.findClass RX6 = some m.cls := findClass_of_methodNamed B.named
  have hlocks := B.notSynchronized
  subst hsz
  have hD := hD0.self (sz := s.heap.size)
  generalize hAe : va_A (W_A_T_P_R cI cS h q_ x_ b a d_ r_ lf tc b a tk tg tl to ta te ts tr a cnt lv kd gd ln st r_ rn rf ro) s.heap.size = A at hD ⊢
  have hA : ∀ q : Nat, s.heap.size ≤ q → A q := fun q h => by rw [← hAe]; exact Or.inr h
  have hS : va_S A s.heap s.heap [] := va_S.rf
  have hP : va_P D vwCl (W_A_T_P_R cI cS h q_ x_ b a d_ r_ lf tc b a tk tg tl to ta te ts tr a cnt lv kd gd ln st r_ rn rf ro) s.heap := hP
  have hl := lv_entry ([.ref (h 0), .int (iI f)] : List Value) (n := 4) (Nat.le_of_ble_eq_true rfl)
  rw [lg_entry_eq]
  generalize (lg_sl ([.ref (h 0), .int (iI f)] : List Value) ++ List.replicate (4 - (lg_sl ([.ref (h 0), .int (iI f)] : List Value)).length) Slot.unset).toArray = ls at hl ⊢
  have hl : lv_has ls 4 [(0, .ref (h 0)), (1, .int (iI f))] := hl
  have fl_35 := hts (.fieldLink RX6 35 "ActRows" "told" "LActRows$Program;") (by decide +kernel)
  have iw_6 : ∀ w ∈ wsX60, w ∈ wsX6_kinds := by decide +kernel
  have fl_27 := hts (.fieldLink RX6 27 "ActRows" "trial" "LActRows$Trial;") (by decide +kernel)
  have fn_194 := va_Nw.use (A := ([.ref (h 0), .int (iI f)] : List Value).toArray) rfl (hK.2 ("ActRows", 194, "ActRows$Trial", "kinds", "[I") (List.mem_of_getElem? (i := 6) rfl))
  have iw_5 : ∀ w ∈ wsX50, w ∈ wsX6_kinds := by decide +kernel
  have fl_48 := hts (.fieldLink RX6 48 "ActRows" "readings" "LActRows$Readings;") (by decide +kernel)
  have hc := hok.1
  have hln := hok.2.1
  refine lv_aload_n hx hb dX6_kinds_0 rfl (lv_at hl 0 rfl) ?_
  refine va_get (D := D) (ci := 6) (v := .ref (a 0)) (C := RX6) (T := TX6) (N := 8) hx hb hts iw_6 hown hK.1 hP 0 rfl rfl 3 (by decide) fl_35 (fun _ h9 => h9) rfl dX6_kinds_1 ?_
  refine lv_iload_n hx hb dX6_kinds_4 rfl (lv_at hl 1 rfl) ?_
  refine x_callVi (As := [.int (iI f)]) (rest := []) ⟨hx, hb, hml, hown, hts⟩ (c_X1_has l D cI cS a cnt lv kd gd ln st s.heap.size f (by first | assumption | omega) (by first | assumption | omega)) (cwV 1 hts gX6_kinds_X1_has rfl rfl rfl (by decide +kernel) ⟨Nat.le_of_ble_eq_true rfl, Nat.le_of_ble_eq_true rfl⟩) hK hP hD hS hA [9, 10, 11, 12, 13] [0, 1, 2, 3, 4, 5, 6, 7, 8, 14, 15, 16] (wr := [(h 0, .inr (6, [.ref (q_ 0), .ref (x_ 0), .ref (b 0), .ref (a 0), .ref (d_ 0), .ref (r_ 0), .int (iI lf), .int (iI tc)])), (b 0, .inr (5, [.ref (a 0), .ref (b 1), .ref (b 2), .int (iI tl), .ref (b 3), .ref (b 4), .ref (b 5), .ref (b 6), .ref (b 7)])), (b 1, .inl (cI, 5, .inl (aI tk))), (b 2, .inl (cI, 5, .inl (aI tg))), (b 3, .inl (cI, 5, .inl (aI to))), (b 4, .inl (cI, 5, .inl (aI ta))), (b 5, .inl (cI, 5, .inl (aI te))), (b 6, .inl (cI, 5, .inl (aI ts))), (b 7, .inl (cI, 5, .inl (aI tr))), (r_ 0, .inr (2, [.ref (r_ 1), .ref (r_ 2), .int (iI rn)])), (r_ 1, .inl (cI, 8, .inl (aI rf))), (r_ 2, .inl (cI, 8, .inl (aI ro)))]) rfl rfl (by decide) (by decide) (by decide) 0 1 rfl rfl rfl [0, 1, 2, 3, 4, 5, 6, 7, 8, 12, 13, 14, 15, 16, 9, 10, 11] (fun (u : Unit) => (W_A_T_P_R cI cS h q_ x_ b a d_ r_ lf tc b a tk tg tl to ta te ts tr a cnt lv kd gd ln st r_ rn rf ro)) (fun _ => rfl) (by decide) rfl hl.1 rfl (Nat.le_of_ble_eq_true rfl) ⟨Nat.zero_le _, Nat.zero_le _⟩ dX6_kinds_5 (fun r_ u_ H locs hw hP hD hS => ?_)
  try dsimp only at hw
  subst hw
  have hP : va_P D vwCl (W_A_T_P_R cI cS h q_ x_ b a d_ r_ lf tc b a tk tg tl to ta te ts tr a cnt lv kd gd ln st r_ rn rf ro) H := hP
  have hD : va_D A (W_A_T_P_R cI cS h q_ x_ b a d_ r_ lf tc b a tk tg tl to ta te ts tr a cnt lv kd gd ln st r_ rn rf ro) := hD
  refine n_if_b2 (tgt := 13) hx hb dX6_kinds_8 (by decide)  (fun c_1 => ?_) (fun c_1 => ?_)
  ·
    have hf : 0 ≤ f ∧ f < cnt := by assumption
    refine lv_iconst (v := iI 0) hx hb dX6_kinds_13 (by decide +kernel) ?_
    refine lv_istore_n (lv' := [(2, .int (iI 0)), (0, .ref (h 0)), (1, .int (iI f))]) hx hb dX6_kinds_14 rfl hl (by decide) rfl (fun ls hl => ?_)
    refine lv_aload_n hx hb dX6_kinds_15 rfl (lv_at hl 1 rfl) ?_
    refine va_get (D := D) (ci := 6) (v := .ref (b 0)) (C := RX6) (T := TX6) (N := 8) hx hb hts iw_6 hown hK.1 hP 0 rfl rfl 2 (by decide) fl_27 (fun _ h9 => h9) rfl dX6_kinds_16 ?_
    refine x_callVv (As := []) (rest := []) ⟨hx, hb, hml, hown, hts⟩ (c_X5_begin l D cI cS b a tk tg tl to ta te ts tr cnt lv kd gd ln st H.size) (cwV 0 hts gX6_kinds_X5_begin rfl rfl rfl (by decide +kernel) ⟨Nat.le_of_ble_eq_true rfl, Nat.le_of_ble_eq_true rfl⟩) hK hP hD hS hA [1, 2, 3, 4, 5, 6, 7, 8, 9, 10, 11, 12, 13] [0, 14, 15, 16] (wr := [(h 0, .inr (6, [.ref (q_ 0), .ref (x_ 0), .ref (b 0), .ref (a 0), .ref (d_ 0), .ref (r_ 0), .int (iI lf), .int (iI tc)])), (r_ 0, .inr (2, [.ref (r_ 1), .ref (r_ 2), .int (iI rn)])), (r_ 1, .inl (cI, 8, .inl (aI rf))), (r_ 2, .inl (cI, 8, .inl (aI ro)))]) rfl rfl (by decide) (by decide) (by decide) 0 5 rfl rfl rfl [0, 4, 5, 6, 7, 8, 9, 10, 11, 12, 13, 14, 15, 16, 1, 2, 3] (fun (u : (Int → Int) × (Int → Int)) => (W_A_T_P_R cI cS h q_ x_ b a d_ r_ lf tc b a u.1 u.2 lv to ta te ts tr a cnt lv kd gd ln st r_ rn rf ro)) (fun _ => rfl) (by decide) rfl hl.1 rfl (Nat.le_of_ble_eq_true rfl) ⟨Nat.zero_le _, Nat.zero_le _⟩ dX6_kinds_19 (fun u_ H locs hw hP hD hS => ?_)
    obtain ⟨tk2, tg2⟩ := u_
    try dsimp only at hw
    have hk2 := hw
    have hP : va_P D vwCl (W_A_T_P_R cI cS h q_ x_ b a d_ r_ lf tc b a tk2 tg2 lv to ta te ts tr a cnt lv kd gd ln st r_ rn rf ro) H := hP
    have hD : va_D A (W_A_T_P_R cI cS h q_ x_ b a d_ r_ lf tc b a tk2 tg2 lv to ta te ts tr a cnt lv kd gd ln st r_ rn rf ro) := hD
    have hko2 : okK cnt tk2 tg2 lv := ⟨fun j h0 h1 => by rw [(hk2 j h0 (by omega)).1, (hk2 j h0 (by omega)).2]; exact hkd.1 j h0 h1, hkd.2⟩
    have hse : ∀ (L f : Int), 0 ≤ f → f < cnt → sem tk2 tg2 L ln st f = sem kd gd L ln st f := fun L f h0 h1 => sem_pre hok h0 h1 (fun j a b => hk2 j a (by omega))
    refine lv_iconst (v := iI 0) hx hb dX6_kinds_22 (by decide +kernel) ?_
    refine lv_istore_n (lv' := [(3, .int (iI 0)), (2, .int (iI 0)), (0, .ref (h 0)), (1, .int (iI f))]) hx hb dX6_kinds_23 rfl hl (by decide) rfl (fun ls hl => ?_)
    refine x_loop (σ := Int × Int × (Int → Int) × (Int → Int) × (Int → Int) × (Int → Int) × (Int → Int)) (fun (xv_ : Int × Int × (Int → Int) × (Int → Int) × (Int → Int) × (Int → Int) × (Int → Int)) => match xv_ with | (fd, y, tk1, to1, ta1, te1, ts1) => (0 ≤ y ∧ y ≤ 3) ∧ (∀ j : Int, j ≠ f → tk1 j = tk2 j) ∧ (okK cnt tk1 tg2 lv) ∧ (fd = bitsGo (fun y => soK lv (updI kd f y) gd ln st rn rf ro) y.toNat)) (fun (xv_ : Int × Int × (Int → Int) × (Int → Int) × (Int → Int) × (Int → Int) × (Int → Int)) => match xv_ with | (fd, y, tk1, to1, ta1, te1, ts1) => (3 - y).toNat) (fun (xv_ : Int × Int × (Int → Int) × (Int → Int) × (Int → Int) × (Int → Int) × (Int → Int)) => match xv_ with | (fd, y, tk1, to1, ta1, te1, ts1) => (W_A_T_P_R cI cS h q_ x_ b a d_ r_ lf tc b a tk1 tg2 lv to1 ta1 te1 ts1 tr a cnt lv kd gd ln st r_ rn rf ro)) (fun (xv_ : Int × Int × (Int → Int) × (Int → Int) × (Int → Int) × (Int → Int) × (Int → Int)) => match xv_ with | (fd, y, tk1, to1, ta1, te1, ts1) => [(3, .int (iI y)), (2, .int (iI fd)), (0, .ref (h 0)), (1, .int (iI f))]) (nL := 4) ?step_2 (0, 0, tk2, to, ta, te, ts) (by (try dsimp only); exact ⟨by omega, fun _ _ => rfl, hko2, rfl⟩) hP hD hS hl
    case step_2 =>
      intro xv_ hI ih H locs ls hP hD hS hl
      obtain ⟨fd, y, tk1, to1, ta1, te1, ts1⟩ := xv_
      try dsimp only at hI ih
      obtain ⟨hy_, htk, hko1, hm⟩ := hI
      have hP : va_P D vwCl (W_A_T_P_R cI cS h q_ x_ b a d_ r_ lf tc b a tk1 tg2 lv to1 ta1 te1 ts1 tr a cnt lv kd gd ln st r_ rn rf ro) H := hP
      have hD : va_D A (W_A_T_P_R cI cS h q_ x_ b a d_ r_ lf tc b a tk1 tg2 lv to1 ta1 te1 ts1 tr a cnt lv kd gd ln st r_ rn rf ro) := hD
      have hl : lv_has ls 4 [(3, .int (iI y)), (2, .int (iI fd)), (0, .ref (h 0)), (1, .int (iI f))] := hl
      have ih_3 := ih
      refine lv_iload_n hx hb dX6_kinds_24 rfl (lv_at hl 0 rfl) ?_
      refine lv_iconst (v := iI 3) hx hb dX6_kinds_25 (by decide +kernel) ?_
      refine n_icmp_ge (tgt := 65) hx hb dX6_kinds_26 (by decide) (by omega) (fun c_4 => ?_) (fun c_4 => ?_)
      ·
        refine lv_iload_n hx hb dX6_kinds_65 rfl (lv_at hl 1 rfl) ?_
        exact W.iret (v := iI fd) hx hb hr (fun t ht hW => ⟨⟨_, (tk1, tg2, lv, to1, ta1, te1, ts1), rfl, congrArg iI (show fd = (sKinds cnt lv kd gd ln st rn rf ro f) from (by unfold sKinds; rw [if_pos (by omega), hm, show y = 3 by omega]; rfl)), by rw [ht]; exact hP, hD⟩, hS.F ht⟩) hS.2.2 dX6_kinds_66
      ·
        have hko3 : okK cnt (updI tk1 f y) tg2 lv := okK_updK hko1 (by omega)
        have hsq : soI (fun g => (sem (updI tk1 f y) tg2 lv ln st g).1) rf ro rn.toNat = soK lv (updI kd f y) gd ln st rn rf ro := soI_oc (cnt := cnt) rn.toNat (fun x a b => (hrd x a (by omega)).1) (fun g a b => by
          rw [sem_congr hok hok (K' := updI kd f y) (G' := gd) (fun j a b => ⟨by
            by_cases e : j = f
            · rw [e, updI_s, updI_s]
            · rw [updI_n e, updI_n e, htk j e, (hk2 j a (by omega)).1], (hk2 j a (by omega)).2, rfl⟩) (fun _ _ _ _ _ _ => rfl) g a b])
        have hbr := bitsGo_rng (fun y => soK lv (updI kd f y) gd ln st rn rf ro) y.toNat (by omega)
        rw [← hm] at hbr
        have hp2 := pow2_rng (k := y) (by omega)
        refine lv_aload_n hx hb dX6_kinds_29 rfl (lv_at hl 2 rfl) ?_
        refine va_get (D := D) (ci := 6) (v := .ref (b 0)) (C := RX6) (T := TX6) (N := 8) hx hb hts iw_6 hown hK.1 hP 0 rfl rfl 2 (by decide) fl_27 (fun _ h9 => h9) rfl dX6_kinds_30 ?_
        refine va_getN (D := D) (ci := 5) (v := .ref (b 1)) (C := RX5) (T := TX5) (N := 9) hx hb hts iw_5 hown hK.1 hP 1 rfl rfl 1 (by decide) fn_194 (fun _ h9 => h9) rfl dX6_kinds_33 ?_
        refine lv_iload_n hx hb dX6_kinds_36 rfl (lv_at hl 3 rfl) ?_
        refine lv_iload_n hx hb dX6_kinds_37 rfl (lv_at hl 0 rfl) ?_
        refine n_iast (n := 5) hx hb hK.1 hP hD hS 2 0 rfl rfl (by omega) (by decide) dX6_kinds_38 (fun H locs hP hD hS => ?_)
        have hP : va_P D vwCl (W_A_T_P_R cI cS h q_ x_ b a d_ r_ lf tc b a (updI tk1 f y) tg2 lv to1 ta1 te1 ts1 tr a cnt lv kd gd ln st r_ rn rf ro) H := hP
        have hD : va_D A (W_A_T_P_R cI cS h q_ x_ b a d_ r_ lf tc b a (updI tk1 f y) tg2 lv to1 ta1 te1 ts1 tr a cnt lv kd gd ln st r_ rn rf ro) := hD
        refine lv_aload_n hx hb dX6_kinds_39 rfl (lv_at hl 2 rfl) ?_
        refine va_get (D := D) (ci := 6) (v := .ref (r_ 0)) (C := RX6) (T := TX6) (N := 8) hx hb hts iw_6 hown hK.1 hP 0 rfl rfl 5 (by decide) fl_48 (fun _ h9 => h9) rfl dX6_kinds_40 ?_
        refine lv_aload_n hx hb dX6_kinds_43 rfl (lv_at hl 2 rfl) ?_
        refine va_get (D := D) (ci := 6) (v := .ref (b 0)) (C := RX6) (T := TX6) (N := 8) hx hb hts iw_6 hown hK.1 hP 0 rfl rfl 2 (by decide) fl_27 (fun _ h9 => h9) rfl dX6_kinds_44 ?_
        refine x_callVi (As := [.ref (b 0)]) (rest := []) ⟨hx, hb, hml, hown, hts⟩ (c_X2_areSo l D cI cS r_ b a rn rf ro (updI tk1 f y) tg2 lv to1 ta1 te1 ts1 tr cnt lv kd gd ln st H.size (by first | assumption | omega) hko3 (by first | assumption | omega) (by first | assumption | omega)) (cwV 1 hts gX6_kinds_X2_areSo rfl rfl rfl (by decide +kernel) ⟨Nat.le_of_ble_eq_true rfl, Nat.le_of_ble_eq_true rfl⟩) hK hP hD hS hA [14, 15, 16, 1, 2, 3, 4, 5, 6, 7, 8, 9, 10, 11, 12, 13] [0] (wr := [(h 0, .inr (6, [.ref (q_ 0), .ref (x_ 0), .ref (b 0), .ref (a 0), .ref (d_ 0), .ref (r_ 0), .int (iI lf), .int (iI tc)]))]) rfl rfl (by decide) (by decide) (by decide) 0 2 rfl rfl rfl [0, 4, 5, 6, 7, 8, 9, 10, 11, 12, 13, 14, 15, 16, 1, 2, 3] (fun (u : (Int → Int) × (Int → Int) × (Int → Int) × (Int → Int)) => (W_A_T_P_R cI cS h q_ x_ b a d_ r_ lf tc b a (updI tk1 f y) tg2 lv u.1 u.2.1 u.2.2.1 u.2.2.2 tr a cnt lv kd gd ln st r_ rn rf ro)) (fun _ => rfl) (by decide) rfl hl.1 rfl (Nat.le_of_ble_eq_true rfl) ⟨Nat.zero_le _, Nat.zero_le _⟩ dX6_kinds_47 (fun r_ u_ H locs hw hP hD hS => ?_)
        obtain ⟨to_5, ta_6, te_7, ts_8⟩ := u_
        try dsimp only at hw
        subst hw
        have hP : va_P D vwCl (W_A_T_P_R cI cS h q_ x_ b a d_ r_ lf tc b a (updI tk1 f y) tg2 lv to_5 ta_6 te_7 ts_8 tr a cnt lv kd gd ln st r_ rn rf ro) H := hP
        have hD : va_D A (W_A_T_P_R cI cS h q_ x_ b a d_ r_ lf tc b a (updI tk1 f y) tg2 lv to_5 ta_6 te_7 ts_8 tr a cnt lv kd gd ln st r_ rn rf ro) := hD
        refine n_if_b1 (tgt := 59) hx hb dX6_kinds_50 (by decide)  (fun c_9 => ?_) (fun c_9 => ?_)
        ·
          refine n_iinc (lv' := [(3, .int (iI (y + 1))), (2, .int (iI fd)), (0, .ref (h 0)), (1, .int (iI f))]) hx hb dX6_kinds_59 hl (k := 0) rfl (by decide) rfl (fun ls hl => ?_)
          refine lv_goto (tgt := 24) hx hb dX6_kinds_62 (by decide) ?_
          exact ih_3 (fd, (y + 1), (updI tk1 f y), to_5, ta_6, te_7, ts_8) (by (try dsimp only); exact ⟨by omega, fun j hj => (updI_n hj).trans (htk j hj), hko3, by rw [bitsGo_s _ hy_.1, ← hm, ← hsq]; first | (rw [if_pos (by assumption)]; done) | (rw [if_neg (by assumption)]; done)⟩) (by (try dsimp only); exact (by omega)) _ _ _ hP hD hS (lv_sub hl [0, 1, 2, 3] rfl)
        ·
          refine lv_iload_n hx hb dX6_kinds_53 rfl (lv_at hl 1 rfl) ?_
          refine lv_iconst (v := iI 1) hx hb dX6_kinds_54 (by decide +kernel) ?_
          refine lv_iload_n hx hb dX6_kinds_55 rfl (lv_at hl 0 rfl) ?_
          refine n_ishl (z := (pow2 y)) (b_shl (by omega)) hx hb dX6_kinds_56 ?_
          refine n_ior (z := (orI fd (pow2 y))) (b_or (by omega)) hx hb dX6_kinds_57 ?_
          refine lv_istore_n (lv' := [(2, .int (iI (orI fd (pow2 y)))), (3, .int (iI y)), (0, .ref (h 0)), (1, .int (iI f))]) hx hb dX6_kinds_58 rfl hl (by decide) rfl (fun ls hl => ?_)
          refine n_iinc (lv' := [(3, .int (iI (y + 1))), (2, .int (iI (orI fd (pow2 y)))), (0, .ref (h 0)), (1, .int (iI f))]) hx hb dX6_kinds_59 hl (k := 1) rfl (by decide) rfl (fun ls hl => ?_)
          refine lv_goto (tgt := 24) hx hb dX6_kinds_62 (by decide) ?_
          exact ih_3 ((orI fd (pow2 y)), (y + 1), (updI tk1 f y), to_5, ta_6, te_7, ts_8) (by (try dsimp only); exact ⟨by omega, fun j hj => (updI_n hj).trans (htk j hj), hko3, by rw [bitsGo_s _ hy_.1, ← hm, ← hsq]; first | (rw [if_pos (by assumption)]; done) | (rw [if_neg (by assumption)]; done)⟩) (by (try dsimp only); exact (by omega)) _ _ _ hP hD hS (lv_sub hl [0, 1, 2, 3] rfl)
  ·
    refine lv_iconst (v := iI (-1)) hx hb dX6_kinds_11 (by decide +kernel) ?_
    exact W.iret (v := iI (-1)) hx hb hr (fun t ht hW => ⟨⟨_, (tk, tg, tl, to, ta, te, ts), rfl, congrArg iI (show (-1) = (sKinds cnt lv kd gd ln st rn rf ro f) from (by unfold sKinds; (repeat (first | rw [if_pos (by omega)] | rw [if_neg (by omega)])))), by rw [ht]; exact hP, hD⟩, hS.F ht⟩) hS.2.2 dX6_kinds_12
set_option maxHeartbeats 4000000 in
set_option maxRecDepth 100000 in
theorem c_X6_guards (l : Launch) (D : va_G) (cI cS : ClassId) (h : Nat → Nat) (q_ : Nat → Nat) (x_ : Nat → Nat) (b : Nat → Nat) (a : Nat → Nat) (d_ : Nat → Nat) (r_ : Nat → Nat) (lf : Int) (tc : Int) (tk : Int → Int) (tg : Int → Int) (tl : Int) (to : Int → Int) (ta : Int → Int) (te : Int → Int) (ts : Int → Int) (tr : Int → Int) (cnt : Int) (lv : Int) (kd : Int → Int) (gd : Int → Int) (ln : Int → Int) (st : Int → Int) (rn : Int) (rf : Int → Int) (ro : Int → Int) (sz : Nat) (f : Int) (hok : okP cnt ln st) (hkd : okK cnt kd gd lv) (hrn : 0 ≤ rn ∧ rn ≤ 8) (hrd : ∀ x : Int, 0 ≤ x → x < rn → (0 ≤ rf x ∧ rf x < cnt) ∧ 0 ≤ ro x ∧ ro x ≤ 4) (hfr : -2147483648 ≤ f ∧ f < 2147483648) : Met l yX6_guards wsX6_guards ({ frames := 6, cells := 0, slots := 0, locals := 133 }) (cP D cI cS (W_A_T_P_R cI cS h q_ x_ b a d_ r_ lf tc b a tk tg tl to ta te ts tr a cnt lv kd gd ln st r_ rn rf ro) sz [.ref (h 0), .int (iI f)]) (va_Qi (fun (r : Int32) (u : (Int → Int) × (Int → Int) × Int × (Int → Int) × (Int → Int) × (Int → Int) × (Int → Int)) => r = iI (sGuards cnt lv kd gd ln st rn rf ro f)) (fun (u : (Int → Int) × (Int → Int) × Int × (Int → Int) × (Int → Int) × (Int → Int) × (Int → Int)) t => cB D (va_A (W_A_T_P_R cI cS h q_ x_ b a d_ r_ lf tc b a tk tg tl to ta te ts tr a cnt lv kd gd ln st r_ rn rf ro) sz) (W_A_T_P_R cI cS h q_ x_ b a d_ r_ lf tc b a u.1 u.2.1 u.2.2.1 u.2.2.2.1 u.2.2.2.2.1 u.2.2.2.2.2.1 u.2.2.2.2.2.2 tr a cnt lv kd gd ln st r_ rn rf ro) t) (va_A (W_A_T_P_R cI cS h q_ x_ b a d_ r_ lf tc b a tk tg tl to ta te ts tr a cnt lv kd gd ln st r_ rn rf ro) sz)) 0 0 (va_A (W_A_T_P_R cI cS h q_ x_ b a d_ r_ lf tc b a tk tg tl to ta te ts tr a cnt lv kd gd ln st r_ rn rf ro) sz) := by
  refine Met.ofW (cc := cX6_guards) (maxL := 4) (ret := (some .int)) (by decide) rfl ?_
  intro p e s m args below meth c_ s₁ B hml hv
  obtain ⟨rfl, hsz, hP, hK, hD0⟩ := hv
  have hx := B.exec
  have hb := B.bytes
  have hr := B.returns
  have hts := atoms_spec (ws := wsX6_guards) B.pre
  have hown : s.vm.findClass RX6 = some m.cls := findClass_of_methodNamed B.named
  have hlocks := B.notSynchronized
  subst hsz
  have hD := hD0.self (sz := s.heap.size)
  generalize hAe : va_A (W_A_T_P_R cI cS h q_ x_ b a d_ r_ lf tc b a tk tg tl to ta te ts tr a cnt lv kd gd ln st r_ rn rf ro) s.heap.size = A at hD ⊢
  have hA : ∀ q : Nat, s.heap.size ≤ q → A q := fun q h => by rw [← hAe]; exact Or.inr h
  have hS : va_S A s.heap s.heap [] := va_S.rf
  have hP : va_P D vwCl (W_A_T_P_R cI cS h q_ x_ b a d_ r_ lf tc b a tk tg tl to ta te ts tr a cnt lv kd gd ln st r_ rn rf ro) s.heap := hP
  have hl := lv_entry ([.ref (h 0), .int (iI f)] : List Value) (n := 4) (Nat.le_of_ble_eq_true rfl)
  rw [lg_entry_eq]
  generalize (lg_sl ([.ref (h 0), .int (iI f)] : List Value) ++ List.replicate (4 - (lg_sl ([.ref (h 0), .int (iI f)] : List Value)).length) Slot.unset).toArray = ls at hl ⊢
  have hl : lv_has ls 4 [(0, .ref (h 0)), (1, .int (iI f))] := hl
  have fl_35 := hts (.fieldLink RX6 35 "ActRows" "told" "LActRows$Program;") (by decide +kernel)
  have iw_6 : ∀ w ∈ wsX60, w ∈ wsX6_guards := by decide +kernel
  have fl_27 := hts (.fieldLink RX6 27 "ActRows" "trial" "LActRows$Trial;") (by decide +kernel)
  have fn_199 := va_Nw.use (A := ([.ref (h 0), .int (iI f)] : List Value).toArray) rfl (hK.2 ("ActRows", 199, "ActRows$Trial", "guarded", "[I") (List.mem_of_getElem? (i := 7) rfl))
  have iw_5 : ∀ w ∈ wsX50, w ∈ wsX6_guards := by decide +kernel
  have fl_48 := hts (.fieldLink RX6 48 "ActRows" "readings" "LActRows$Readings;") (by decide +kernel)
  have hc := hok.1
  have hln := hok.2.1
  refine lv_aload_n hx hb dX6_guards_0 rfl (lv_at hl 0 rfl) ?_
  refine va_get (D := D) (ci := 6) (v := .ref (a 0)) (C := RX6) (T := TX6) (N := 8) hx hb hts iw_6 hown hK.1 hP 0 rfl rfl 3 (by decide) fl_35 (fun _ h9 => h9) rfl dX6_guards_1 ?_
  refine lv_iload_n hx hb dX6_guards_4 rfl (lv_at hl 1 rfl) ?_
  refine x_callVi (As := [.int (iI f)]) (rest := []) ⟨hx, hb, hml, hown, hts⟩ (c_X1_has l D cI cS a cnt lv kd gd ln st s.heap.size f (by first | assumption | omega) (by first | assumption | omega)) (cwV 1 hts gX6_guards_X1_has rfl rfl rfl (by decide +kernel) ⟨Nat.le_of_ble_eq_true rfl, Nat.le_of_ble_eq_true rfl⟩) hK hP hD hS hA [9, 10, 11, 12, 13] [0, 1, 2, 3, 4, 5, 6, 7, 8, 14, 15, 16] (wr := [(h 0, .inr (6, [.ref (q_ 0), .ref (x_ 0), .ref (b 0), .ref (a 0), .ref (d_ 0), .ref (r_ 0), .int (iI lf), .int (iI tc)])), (b 0, .inr (5, [.ref (a 0), .ref (b 1), .ref (b 2), .int (iI tl), .ref (b 3), .ref (b 4), .ref (b 5), .ref (b 6), .ref (b 7)])), (b 1, .inl (cI, 5, .inl (aI tk))), (b 2, .inl (cI, 5, .inl (aI tg))), (b 3, .inl (cI, 5, .inl (aI to))), (b 4, .inl (cI, 5, .inl (aI ta))), (b 5, .inl (cI, 5, .inl (aI te))), (b 6, .inl (cI, 5, .inl (aI ts))), (b 7, .inl (cI, 5, .inl (aI tr))), (r_ 0, .inr (2, [.ref (r_ 1), .ref (r_ 2), .int (iI rn)])), (r_ 1, .inl (cI, 8, .inl (aI rf))), (r_ 2, .inl (cI, 8, .inl (aI ro)))]) rfl rfl (by decide) (by decide) (by decide) 0 1 rfl rfl rfl [0, 1, 2, 3, 4, 5, 6, 7, 8, 12, 13, 14, 15, 16, 9, 10, 11] (fun (u : Unit) => (W_A_T_P_R cI cS h q_ x_ b a d_ r_ lf tc b a tk tg tl to ta te ts tr a cnt lv kd gd ln st r_ rn rf ro)) (fun _ => rfl) (by decide) rfl hl.1 rfl (Nat.le_of_ble_eq_true rfl) ⟨Nat.zero_le _, Nat.zero_le _⟩ dX6_guards_5 (fun r_ u_ H locs hw hP hD hS => ?_)
  try dsimp only at hw
  subst hw
  have hP : va_P D vwCl (W_A_T_P_R cI cS h q_ x_ b a d_ r_ lf tc b a tk tg tl to ta te ts tr a cnt lv kd gd ln st r_ rn rf ro) H := hP
  have hD : va_D A (W_A_T_P_R cI cS h q_ x_ b a d_ r_ lf tc b a tk tg tl to ta te ts tr a cnt lv kd gd ln st r_ rn rf ro) := hD
  refine n_if_b2 (tgt := 13) hx hb dX6_guards_8 (by decide)  (fun c_1 => ?_) (fun c_1 => ?_)
  ·
    have hf : 0 ≤ f ∧ f < cnt := by assumption
    refine lv_iconst (v := iI 0) hx hb dX6_guards_13 (by decide +kernel) ?_
    refine lv_istore_n (lv' := [(2, .int (iI 0)), (0, .ref (h 0)), (1, .int (iI f))]) hx hb dX6_guards_14 rfl hl (by decide) rfl (fun ls hl => ?_)
    refine lv_aload_n hx hb dX6_guards_15 rfl (lv_at hl 1 rfl) ?_
    refine va_get (D := D) (ci := 6) (v := .ref (b 0)) (C := RX6) (T := TX6) (N := 8) hx hb hts iw_6 hown hK.1 hP 0 rfl rfl 2 (by decide) fl_27 (fun _ h9 => h9) rfl dX6_guards_16 ?_
    refine x_callVv (As := []) (rest := []) ⟨hx, hb, hml, hown, hts⟩ (c_X5_begin l D cI cS b a tk tg tl to ta te ts tr cnt lv kd gd ln st H.size) (cwV 0 hts gX6_guards_X5_begin rfl rfl rfl (by decide +kernel) ⟨Nat.le_of_ble_eq_true rfl, Nat.le_of_ble_eq_true rfl⟩) hK hP hD hS hA [1, 2, 3, 4, 5, 6, 7, 8, 9, 10, 11, 12, 13] [0, 14, 15, 16] (wr := [(h 0, .inr (6, [.ref (q_ 0), .ref (x_ 0), .ref (b 0), .ref (a 0), .ref (d_ 0), .ref (r_ 0), .int (iI lf), .int (iI tc)])), (r_ 0, .inr (2, [.ref (r_ 1), .ref (r_ 2), .int (iI rn)])), (r_ 1, .inl (cI, 8, .inl (aI rf))), (r_ 2, .inl (cI, 8, .inl (aI ro)))]) rfl rfl (by decide) (by decide) (by decide) 0 5 rfl rfl rfl [0, 4, 5, 6, 7, 8, 9, 10, 11, 12, 13, 14, 15, 16, 1, 2, 3] (fun (u : (Int → Int) × (Int → Int)) => (W_A_T_P_R cI cS h q_ x_ b a d_ r_ lf tc b a u.1 u.2 lv to ta te ts tr a cnt lv kd gd ln st r_ rn rf ro)) (fun _ => rfl) (by decide) rfl hl.1 rfl (Nat.le_of_ble_eq_true rfl) ⟨Nat.zero_le _, Nat.zero_le _⟩ dX6_guards_19 (fun u_ H locs hw hP hD hS => ?_)
    obtain ⟨tk2, tg2⟩ := u_
    try dsimp only at hw
    have hk2 := hw
    have hP : va_P D vwCl (W_A_T_P_R cI cS h q_ x_ b a d_ r_ lf tc b a tk2 tg2 lv to ta te ts tr a cnt lv kd gd ln st r_ rn rf ro) H := hP
    have hD : va_D A (W_A_T_P_R cI cS h q_ x_ b a d_ r_ lf tc b a tk2 tg2 lv to ta te ts tr a cnt lv kd gd ln st r_ rn rf ro) := hD
    have hko2 : okK cnt tk2 tg2 lv := ⟨fun j h0 h1 => by rw [(hk2 j h0 (by omega)).1, (hk2 j h0 (by omega)).2]; exact hkd.1 j h0 h1, hkd.2⟩
    have hse : ∀ (L f : Int), 0 ≤ f → f < cnt → sem tk2 tg2 L ln st f = sem kd gd L ln st f := fun L f h0 h1 => sem_pre hok h0 h1 (fun j a b => hk2 j a (by omega))
    refine lv_iconst (v := iI 0) hx hb dX6_guards_22 (by decide +kernel) ?_
    refine lv_istore_n (lv' := [(3, .int (iI 0)), (2, .int (iI 0)), (0, .ref (h 0)), (1, .int (iI f))]) hx hb dX6_guards_23 rfl hl (by decide) rfl (fun ls hl => ?_)
    refine x_loop (σ := Int × Int × (Int → Int) × (Int → Int) × (Int → Int) × (Int → Int) × (Int → Int)) (fun (xv_ : Int × Int × (Int → Int) × (Int → Int) × (Int → Int) × (Int → Int) × (Int → Int)) => match xv_ with | (fd, y, tg1, to1, ta1, te1, ts1) => (0 ≤ y ∧ y ≤ 4) ∧ (∀ j : Int, j ≠ f → tg1 j = tg2 j) ∧ (okK cnt tk2 tg1 lv) ∧ (fd = bitsGo (fun y => soK lv kd (updI gd f y) ln st rn rf ro) y.toNat)) (fun (xv_ : Int × Int × (Int → Int) × (Int → Int) × (Int → Int) × (Int → Int) × (Int → Int)) => match xv_ with | (fd, y, tg1, to1, ta1, te1, ts1) => (4 - y).toNat) (fun (xv_ : Int × Int × (Int → Int) × (Int → Int) × (Int → Int) × (Int → Int) × (Int → Int)) => match xv_ with | (fd, y, tg1, to1, ta1, te1, ts1) => (W_A_T_P_R cI cS h q_ x_ b a d_ r_ lf tc b a tk2 tg1 lv to1 ta1 te1 ts1 tr a cnt lv kd gd ln st r_ rn rf ro)) (fun (xv_ : Int × Int × (Int → Int) × (Int → Int) × (Int → Int) × (Int → Int) × (Int → Int)) => match xv_ with | (fd, y, tg1, to1, ta1, te1, ts1) => [(3, .int (iI y)), (2, .int (iI fd)), (0, .ref (h 0)), (1, .int (iI f))]) (nL := 4) ?step_2 (0, 0, tg2, to, ta, te, ts) (by (try dsimp only); exact ⟨by omega, fun _ _ => rfl, hko2, rfl⟩) hP hD hS hl
    case step_2 =>
      intro xv_ hI ih H locs ls hP hD hS hl
      obtain ⟨fd, y, tg1, to1, ta1, te1, ts1⟩ := xv_
      try dsimp only at hI ih
      obtain ⟨hy_, htk, hko1, hm⟩ := hI
      have hP : va_P D vwCl (W_A_T_P_R cI cS h q_ x_ b a d_ r_ lf tc b a tk2 tg1 lv to1 ta1 te1 ts1 tr a cnt lv kd gd ln st r_ rn rf ro) H := hP
      have hD : va_D A (W_A_T_P_R cI cS h q_ x_ b a d_ r_ lf tc b a tk2 tg1 lv to1 ta1 te1 ts1 tr a cnt lv kd gd ln st r_ rn rf ro) := hD
      have hl : lv_has ls 4 [(3, .int (iI y)), (2, .int (iI fd)), (0, .ref (h 0)), (1, .int (iI f))] := hl
      have ih_3 := ih
      refine lv_iload_n hx hb dX6_guards_24 rfl (lv_at hl 0 rfl) ?_
      refine lv_iconst (v := iI 4) hx hb dX6_guards_25 (by decide +kernel) ?_
      refine n_icmp_ge (tgt := 65) hx hb dX6_guards_26 (by decide) (by omega) (fun c_4 => ?_) (fun c_4 => ?_)
      ·
        refine lv_iload_n hx hb dX6_guards_65 rfl (lv_at hl 1 rfl) ?_
        exact W.iret (v := iI fd) hx hb hr (fun t ht hW => ⟨⟨_, (tk2, tg1, lv, to1, ta1, te1, ts1), rfl, congrArg iI (show fd = (sGuards cnt lv kd gd ln st rn rf ro f) from (by unfold sGuards; rw [if_pos (by omega), hm, show y = 4 by omega]; rfl)), by rw [ht]; exact hP, hD⟩, hS.F ht⟩) hS.2.2 dX6_guards_66
      ·
        have hko3 : okK cnt tk2 (updI tg1 f y) lv := okK_updG hko1 (by omega)
        have hsq : soI (fun g => (sem tk2 (updI tg1 f y) lv ln st g).1) rf ro rn.toNat = soK lv kd (updI gd f y) ln st rn rf ro := soI_oc (cnt := cnt) rn.toNat (fun x a b => (hrd x a (by omega)).1) (fun g a b => by
          rw [sem_congr hok hok (K' := kd) (G' := updI gd f y) (fun j a b => ⟨(hk2 j a (by omega)).1, by
            by_cases e : j = f
            · rw [e, updI_s, updI_s]
            · rw [updI_n e, updI_n e, htk j e, (hk2 j a (by omega)).2], rfl⟩) (fun _ _ _ _ _ _ => rfl) g a b])
        have hbr := bitsGo_rng (fun y => soK lv kd (updI gd f y) ln st rn rf ro) y.toNat (by omega)
        rw [← hm] at hbr
        have hp2 := pow2_rng (k := y) (by omega)
        refine lv_aload_n hx hb dX6_guards_29 rfl (lv_at hl 2 rfl) ?_
        refine va_get (D := D) (ci := 6) (v := .ref (b 0)) (C := RX6) (T := TX6) (N := 8) hx hb hts iw_6 hown hK.1 hP 0 rfl rfl 2 (by decide) fl_27 (fun _ h9 => h9) rfl dX6_guards_30 ?_
        refine va_getN (D := D) (ci := 5) (v := .ref (b 2)) (C := RX5) (T := TX5) (N := 9) hx hb hts iw_5 hown hK.1 hP 1 rfl rfl 2 (by decide) fn_199 (fun _ h9 => h9) rfl dX6_guards_33 ?_
        refine lv_iload_n hx hb dX6_guards_36 rfl (lv_at hl 3 rfl) ?_
        refine lv_iload_n hx hb dX6_guards_37 rfl (lv_at hl 0 rfl) ?_
        refine n_iast (n := 5) hx hb hK.1 hP hD hS 3 0 rfl rfl (by omega) (by decide) dX6_guards_38 (fun H locs hP hD hS => ?_)
        have hP : va_P D vwCl (W_A_T_P_R cI cS h q_ x_ b a d_ r_ lf tc b a tk2 (updI tg1 f y) lv to1 ta1 te1 ts1 tr a cnt lv kd gd ln st r_ rn rf ro) H := hP
        have hD : va_D A (W_A_T_P_R cI cS h q_ x_ b a d_ r_ lf tc b a tk2 (updI tg1 f y) lv to1 ta1 te1 ts1 tr a cnt lv kd gd ln st r_ rn rf ro) := hD
        refine lv_aload_n hx hb dX6_guards_39 rfl (lv_at hl 2 rfl) ?_
        refine va_get (D := D) (ci := 6) (v := .ref (r_ 0)) (C := RX6) (T := TX6) (N := 8) hx hb hts iw_6 hown hK.1 hP 0 rfl rfl 5 (by decide) fl_48 (fun _ h9 => h9) rfl dX6_guards_40 ?_
        refine lv_aload_n hx hb dX6_guards_43 rfl (lv_at hl 2 rfl) ?_
        refine va_get (D := D) (ci := 6) (v := .ref (b 0)) (C := RX6) (T := TX6) (N := 8) hx hb hts iw_6 hown hK.1 hP 0 rfl rfl 2 (by decide) fl_27 (fun _ h9 => h9) rfl dX6_guards_44 ?_
        refine x_callVi (As := [.ref (b 0)]) (rest := []) ⟨hx, hb, hml, hown, hts⟩ (c_X2_areSo l D cI cS r_ b a rn rf ro tk2 (updI tg1 f y) lv to1 ta1 te1 ts1 tr cnt lv kd gd ln st H.size (by first | assumption | omega) hko3 (by first | assumption | omega) (by first | assumption | omega)) (cwV 1 hts gX6_guards_X2_areSo rfl rfl rfl (by decide +kernel) ⟨Nat.le_of_ble_eq_true rfl, Nat.le_of_ble_eq_true rfl⟩) hK hP hD hS hA [14, 15, 16, 1, 2, 3, 4, 5, 6, 7, 8, 9, 10, 11, 12, 13] [0] (wr := [(h 0, .inr (6, [.ref (q_ 0), .ref (x_ 0), .ref (b 0), .ref (a 0), .ref (d_ 0), .ref (r_ 0), .int (iI lf), .int (iI tc)]))]) rfl rfl (by decide) (by decide) (by decide) 0 2 rfl rfl rfl [0, 4, 5, 6, 7, 8, 9, 10, 11, 12, 13, 14, 15, 16, 1, 2, 3] (fun (u : (Int → Int) × (Int → Int) × (Int → Int) × (Int → Int)) => (W_A_T_P_R cI cS h q_ x_ b a d_ r_ lf tc b a tk2 (updI tg1 f y) lv u.1 u.2.1 u.2.2.1 u.2.2.2 tr a cnt lv kd gd ln st r_ rn rf ro)) (fun _ => rfl) (by decide) rfl hl.1 rfl (Nat.le_of_ble_eq_true rfl) ⟨Nat.zero_le _, Nat.zero_le _⟩ dX6_guards_47 (fun r_ u_ H locs hw hP hD hS => ?_)
        obtain ⟨to_5, ta_6, te_7, ts_8⟩ := u_
        try dsimp only at hw
        subst hw
        have hP : va_P D vwCl (W_A_T_P_R cI cS h q_ x_ b a d_ r_ lf tc b a tk2 (updI tg1 f y) lv to_5 ta_6 te_7 ts_8 tr a cnt lv kd gd ln st r_ rn rf ro) H := hP
        have hD : va_D A (W_A_T_P_R cI cS h q_ x_ b a d_ r_ lf tc b a tk2 (updI tg1 f y) lv to_5 ta_6 te_7 ts_8 tr a cnt lv kd gd ln st r_ rn rf ro) := hD
        refine n_if_b1 (tgt := 59) hx hb dX6_guards_50 (by decide)  (fun c_9 => ?_) (fun c_9 => ?_)
        ·
          refine n_iinc (lv' := [(3, .int (iI (y + 1))), (2, .int (iI fd)), (0, .ref (h 0)), (1, .int (iI f))]) hx hb dX6_guards_59 hl (k := 0) rfl (by decide) rfl (fun ls hl => ?_)
          refine lv_goto (tgt := 24) hx hb dX6_guards_62 (by decide) ?_
          exact ih_3 (fd, (y + 1), (updI tg1 f y), to_5, ta_6, te_7, ts_8) (by (try dsimp only); exact ⟨by omega, fun j hj => (updI_n hj).trans (htk j hj), hko3, by rw [bitsGo_s _ hy_.1, ← hm, ← hsq]; first | (rw [if_pos (by assumption)]; done) | (rw [if_neg (by assumption)]; done)⟩) (by (try dsimp only); exact (by omega)) _ _ _ hP hD hS (lv_sub hl [0, 1, 2, 3] rfl)
        ·
          refine lv_iload_n hx hb dX6_guards_53 rfl (lv_at hl 1 rfl) ?_
          refine lv_iconst (v := iI 1) hx hb dX6_guards_54 (by decide +kernel) ?_
          refine lv_iload_n hx hb dX6_guards_55 rfl (lv_at hl 0 rfl) ?_
          refine n_ishl (z := (pow2 y)) (b_shl (by omega)) hx hb dX6_guards_56 ?_
          refine n_ior (z := (orI fd (pow2 y))) (b_or (by omega)) hx hb dX6_guards_57 ?_
          refine lv_istore_n (lv' := [(2, .int (iI (orI fd (pow2 y)))), (3, .int (iI y)), (0, .ref (h 0)), (1, .int (iI f))]) hx hb dX6_guards_58 rfl hl (by decide) rfl (fun ls hl => ?_)
          refine n_iinc (lv' := [(3, .int (iI (y + 1))), (2, .int (iI (orI fd (pow2 y)))), (0, .ref (h 0)), (1, .int (iI f))]) hx hb dX6_guards_59 hl (k := 1) rfl (by decide) rfl (fun ls hl => ?_)
          refine lv_goto (tgt := 24) hx hb dX6_guards_62 (by decide) ?_
          exact ih_3 ((orI fd (pow2 y)), (y + 1), (updI tg1 f y), to_5, ta_6, te_7, ts_8) (by (try dsimp only); exact ⟨by omega, fun j hj => (updI_n hj).trans (htk j hj), hko3, by rw [bitsGo_s _ hy_.1, ← hm, ← hsq]; first | (rw [if_pos (by assumption)]; done) | (rw [if_neg (by assumption)]; done)⟩) (by (try dsimp only); exact (by omega)) _ _ _ hP hD hS (lv_sub hl [0, 1, 2, 3] rfl)
  ·
    refine lv_iconst (v := iI (-1)) hx hb dX6_guards_11 (by decide +kernel) ?_
    exact W.iret (v := iI (-1)) hx hb hr (fun t ht hW => ⟨⟨_, (tk, tg, tl, to, ta, te, ts), rfl, congrArg iI (show (-1) = (sGuards cnt lv kd gd ln st rn rf ro f) from (by unfold sGuards; (repeat (first | rw [if_pos (by omega)] | rw [if_neg (by omega)])))), by rw [ht]; exact hP, hD⟩, hS.F ht⟩) hS.2.2 dX6_guards_12
set_option maxHeartbeats 4000000 in
set_option maxRecDepth 100000 in
theorem c_X6_lives (l : Launch) (D : va_G) (cI cS : ClassId) (h : Nat → Nat) (q_ : Nat → Nat) (x_ : Nat → Nat) (b : Nat → Nat) (a : Nat → Nat) (d_ : Nat → Nat) (r_ : Nat → Nat) (lf : Int) (tc : Int) (tk : Int → Int) (tg : Int → Int) (tl : Int) (to : Int → Int) (ta : Int → Int) (te : Int → Int) (ts : Int → Int) (tr : Int → Int) (cnt : Int) (lv : Int) (kd : Int → Int) (gd : Int → Int) (ln : Int → Int) (st : Int → Int) (rn : Int) (rf : Int → Int) (ro : Int → Int) (sz : Nat) (hok : okP cnt ln st) (hkd : okK cnt kd gd lv) (hrn : 0 ≤ rn ∧ rn ≤ 8) (hrd : ∀ x : Int, 0 ≤ x → x < rn → (0 ≤ rf x ∧ rf x < cnt) ∧ 0 ≤ ro x ∧ ro x ≤ 4) : Met l yX6_lives wsX6_lives ({ frames := 6, cells := 0, slots := 0, locals := 133 }) (cP D cI cS (W_A_T_P_R cI cS h q_ x_ b a d_ r_ lf tc b a tk tg tl to ta te ts tr a cnt lv kd gd ln st r_ rn rf ro) sz [.ref (h 0)]) (va_Qi (fun (r : Int32) (u : (Int → Int) × (Int → Int) × Int × (Int → Int) × (Int → Int) × (Int → Int) × (Int → Int)) => r = iI (sLives cnt kd gd ln st rn rf ro)) (fun (u : (Int → Int) × (Int → Int) × Int × (Int → Int) × (Int → Int) × (Int → Int) × (Int → Int)) t => cB D (va_A (W_A_T_P_R cI cS h q_ x_ b a d_ r_ lf tc b a tk tg tl to ta te ts tr a cnt lv kd gd ln st r_ rn rf ro) sz) (W_A_T_P_R cI cS h q_ x_ b a d_ r_ lf tc b a u.1 u.2.1 u.2.2.1 u.2.2.2.1 u.2.2.2.2.1 u.2.2.2.2.2.1 u.2.2.2.2.2.2 tr a cnt lv kd gd ln st r_ rn rf ro) t) (va_A (W_A_T_P_R cI cS h q_ x_ b a d_ r_ lf tc b a tk tg tl to ta te ts tr a cnt lv kd gd ln st r_ rn rf ro) sz)) 0 0 (va_A (W_A_T_P_R cI cS h q_ x_ b a d_ r_ lf tc b a tk tg tl to ta te ts tr a cnt lv kd gd ln st r_ rn rf ro) sz) := by
  refine Met.ofW (cc := cX6_lives) (maxL := 3) (ret := (some .int)) (by decide) rfl ?_
  intro p e s m args below meth c_ s₁ B hml hv
  obtain ⟨rfl, hsz, hP, hK, hD0⟩ := hv
  have hx := B.exec
  have hb := B.bytes
  have hr := B.returns
  have hts := atoms_spec (ws := wsX6_lives) B.pre
  have hown : s.vm.findClass RX6 = some m.cls := findClass_of_methodNamed B.named
  have hlocks := B.notSynchronized
  subst hsz
  have hD := hD0.self (sz := s.heap.size)
  generalize hAe : va_A (W_A_T_P_R cI cS h q_ x_ b a d_ r_ lf tc b a tk tg tl to ta te ts tr a cnt lv kd gd ln st r_ rn rf ro) s.heap.size = A at hD ⊢
  have hA : ∀ q : Nat, s.heap.size ≤ q → A q := fun q h => by rw [← hAe]; exact Or.inr h
  have hS : va_S A s.heap s.heap [] := va_S.rf
  have hP : va_P D vwCl (W_A_T_P_R cI cS h q_ x_ b a d_ r_ lf tc b a tk tg tl to ta te ts tr a cnt lv kd gd ln st r_ rn rf ro) s.heap := hP
  have hl := lv_entry ([.ref (h 0)] : List Value) (n := 3) (Nat.le_of_ble_eq_true rfl)
  rw [lg_entry_eq]
  generalize (lg_sl ([.ref (h 0)] : List Value) ++ List.replicate (3 - (lg_sl ([.ref (h 0)] : List Value)).length) Slot.unset).toArray = ls at hl ⊢
  have hl : lv_has ls 3 [(0, .ref (h 0))] := hl
  have fl_35 := hts (.fieldLink RX6 35 "ActRows" "told" "LActRows$Program;") (by decide +kernel)
  have iw_6 : ∀ w ∈ wsX60, w ∈ wsX6_lives := by decide +kernel
  have fl_27 := hts (.fieldLink RX6 27 "ActRows" "trial" "LActRows$Trial;") (by decide +kernel)
  have fn_200 := va_Nw.use (A := ([.ref (h 0)] : List Value).toArray) rfl (hK.2 ("ActRows", 200, "ActRows$Trial", "live", "I") (List.mem_of_getElem? (i := 8) rfl))
  have iw_5 : ∀ w ∈ wsX50, w ∈ wsX6_lives := by decide +kernel
  have fl_48 := hts (.fieldLink RX6 48 "ActRows" "readings" "LActRows$Readings;") (by decide +kernel)
  have hc := hok.1
  have hln := hok.2.1
  refine lv_aload_n hx hb dX6_lives_0 rfl (lv_at hl 0 rfl) ?_
  refine va_get (D := D) (ci := 6) (v := .ref (a 0)) (C := RX6) (T := TX6) (N := 8) hx hb hts iw_6 hown hK.1 hP 0 rfl rfl 3 (by decide) fl_35 (fun _ h9 => h9) rfl dX6_lives_1 ?_
  refine x_callVi (As := []) (rest := []) ⟨hx, hb, hml, hown, hts⟩ (c_X1_isNone l D cI cS a cnt lv kd gd ln st s.heap.size (by first | assumption | omega)) (cwV 0 hts gX6_lives_X1_isNone rfl rfl rfl (by decide +kernel) ⟨Nat.le_of_ble_eq_true rfl, Nat.le_of_ble_eq_true rfl⟩) hK hP hD hS hA [9, 10, 11, 12, 13] [0, 1, 2, 3, 4, 5, 6, 7, 8, 14, 15, 16] (wr := [(h 0, .inr (6, [.ref (q_ 0), .ref (x_ 0), .ref (b 0), .ref (a 0), .ref (d_ 0), .ref (r_ 0), .int (iI lf), .int (iI tc)])), (b 0, .inr (5, [.ref (a 0), .ref (b 1), .ref (b 2), .int (iI tl), .ref (b 3), .ref (b 4), .ref (b 5), .ref (b 6), .ref (b 7)])), (b 1, .inl (cI, 5, .inl (aI tk))), (b 2, .inl (cI, 5, .inl (aI tg))), (b 3, .inl (cI, 5, .inl (aI to))), (b 4, .inl (cI, 5, .inl (aI ta))), (b 5, .inl (cI, 5, .inl (aI te))), (b 6, .inl (cI, 5, .inl (aI ts))), (b 7, .inl (cI, 5, .inl (aI tr))), (r_ 0, .inr (2, [.ref (r_ 1), .ref (r_ 2), .int (iI rn)])), (r_ 1, .inl (cI, 8, .inl (aI rf))), (r_ 2, .inl (cI, 8, .inl (aI ro)))]) rfl rfl (by decide) (by decide) (by decide) 0 1 rfl rfl rfl [0, 1, 2, 3, 4, 5, 6, 7, 8, 12, 13, 14, 15, 16, 9, 10, 11] (fun (u : Unit) => (W_A_T_P_R cI cS h q_ x_ b a d_ r_ lf tc b a tk tg tl to ta te ts tr a cnt lv kd gd ln st r_ rn rf ro)) (fun _ => rfl) (by decide) rfl hl.1 rfl (Nat.le_of_ble_eq_true rfl) ⟨Nat.zero_le _, Nat.zero_le _⟩ dX6_lives_4 (fun r_ u_ H locs hw hP hD hS => ?_)
  try dsimp only at hw
  subst hw
  have hP : va_P D vwCl (W_A_T_P_R cI cS h q_ x_ b a d_ r_ lf tc b a tk tg tl to ta te ts tr a cnt lv kd gd ln st r_ rn rf ro) H := hP
  have hD : va_D A (W_A_T_P_R cI cS h q_ x_ b a d_ r_ lf tc b a tk tg tl to ta te ts tr a cnt lv kd gd ln st r_ rn rf ro) := hD
  refine n_if_b1 (tgt := 13) hx hb dX6_lives_7 (by decide)  (fun c_1 => ?_) (fun c_1 => ?_)
  ·
    refine lv_iconst (v := iI 0) hx hb dX6_lives_13 (by decide +kernel) ?_
    refine lv_istore_n (lv' := [(1, .int (iI 0)), (0, .ref (h 0))]) hx hb dX6_lives_14 rfl hl (by decide) rfl (fun ls hl => ?_)
    refine lv_aload_n hx hb dX6_lives_15 rfl (lv_at hl 1 rfl) ?_
    refine va_get (D := D) (ci := 6) (v := .ref (b 0)) (C := RX6) (T := TX6) (N := 8) hx hb hts iw_6 hown hK.1 hP 0 rfl rfl 2 (by decide) fl_27 (fun _ h9 => h9) rfl dX6_lives_16 ?_
    refine x_callVv (As := []) (rest := []) ⟨hx, hb, hml, hown, hts⟩ (c_X5_begin l D cI cS b a tk tg tl to ta te ts tr cnt lv kd gd ln st H.size) (cwV 0 hts gX6_lives_X5_begin rfl rfl rfl (by decide +kernel) ⟨Nat.le_of_ble_eq_true rfl, Nat.le_of_ble_eq_true rfl⟩) hK hP hD hS hA [1, 2, 3, 4, 5, 6, 7, 8, 9, 10, 11, 12, 13] [0, 14, 15, 16] (wr := [(h 0, .inr (6, [.ref (q_ 0), .ref (x_ 0), .ref (b 0), .ref (a 0), .ref (d_ 0), .ref (r_ 0), .int (iI lf), .int (iI tc)])), (r_ 0, .inr (2, [.ref (r_ 1), .ref (r_ 2), .int (iI rn)])), (r_ 1, .inl (cI, 8, .inl (aI rf))), (r_ 2, .inl (cI, 8, .inl (aI ro)))]) rfl rfl (by decide) (by decide) (by decide) 0 5 rfl rfl rfl [0, 4, 5, 6, 7, 8, 9, 10, 11, 12, 13, 14, 15, 16, 1, 2, 3] (fun (u : (Int → Int) × (Int → Int)) => (W_A_T_P_R cI cS h q_ x_ b a d_ r_ lf tc b a u.1 u.2 lv to ta te ts tr a cnt lv kd gd ln st r_ rn rf ro)) (fun _ => rfl) (by decide) rfl hl.1 rfl (Nat.le_of_ble_eq_true rfl) ⟨Nat.zero_le _, Nat.zero_le _⟩ dX6_lives_19 (fun u_ H locs hw hP hD hS => ?_)
    obtain ⟨tk2, tg2⟩ := u_
    try dsimp only at hw
    have hk2 := hw
    have hP : va_P D vwCl (W_A_T_P_R cI cS h q_ x_ b a d_ r_ lf tc b a tk2 tg2 lv to ta te ts tr a cnt lv kd gd ln st r_ rn rf ro) H := hP
    have hD : va_D A (W_A_T_P_R cI cS h q_ x_ b a d_ r_ lf tc b a tk2 tg2 lv to ta te ts tr a cnt lv kd gd ln st r_ rn rf ro) := hD
    have hko2 : okK cnt tk2 tg2 lv := ⟨fun j h0 h1 => by rw [(hk2 j h0 (by omega)).1, (hk2 j h0 (by omega)).2]; exact hkd.1 j h0 h1, hkd.2⟩
    have hse : ∀ (L f : Int), 0 ≤ f → f < cnt → sem tk2 tg2 L ln st f = sem kd gd L ln st f := fun L f h0 h1 => sem_pre hok h0 h1 (fun j a b => hk2 j a (by omega))
    refine lv_iconst (v := iI 0) hx hb dX6_lives_22 (by decide +kernel) ?_
    refine lv_istore_n (lv' := [(2, .int (iI 0)), (1, .int (iI 0)), (0, .ref (h 0))]) hx hb dX6_lives_23 rfl hl (by decide) rfl (fun ls hl => ?_)
    refine x_loop (σ := Int × Int × Int × (Int → Int) × (Int → Int) × (Int → Int) × (Int → Int)) (fun (xv_ : Int × Int × Int × (Int → Int) × (Int → Int) × (Int → Int) × (Int → Int)) => match xv_ with | (fd, y, tl1, to1, ta1, te1, ts1) => (0 ≤ y ∧ y ≤ 16) ∧ (fd = bitsGo (fun y => soK y kd gd ln st rn rf ro) y.toNat)) (fun (xv_ : Int × Int × Int × (Int → Int) × (Int → Int) × (Int → Int) × (Int → Int)) => match xv_ with | (fd, y, tl1, to1, ta1, te1, ts1) => (16 - y).toNat) (fun (xv_ : Int × Int × Int × (Int → Int) × (Int → Int) × (Int → Int) × (Int → Int)) => match xv_ with | (fd, y, tl1, to1, ta1, te1, ts1) => (W_A_T_P_R cI cS h q_ x_ b a d_ r_ lf tc b a tk2 tg2 tl1 to1 ta1 te1 ts1 tr a cnt lv kd gd ln st r_ rn rf ro)) (fun (xv_ : Int × Int × Int × (Int → Int) × (Int → Int) × (Int → Int) × (Int → Int)) => match xv_ with | (fd, y, tl1, to1, ta1, te1, ts1) => [(2, .int (iI y)), (1, .int (iI fd)), (0, .ref (h 0))]) (nL := 3) ?step_2 (0, 0, lv, to, ta, te, ts) (by (try dsimp only); exact ⟨by omega, rfl⟩) hP hD hS hl
    case step_2 =>
      intro xv_ hI ih H locs ls hP hD hS hl
      obtain ⟨fd, y, tl1, to1, ta1, te1, ts1⟩ := xv_
      try dsimp only at hI ih
      obtain ⟨hy_, hm⟩ := hI
      have hP : va_P D vwCl (W_A_T_P_R cI cS h q_ x_ b a d_ r_ lf tc b a tk2 tg2 tl1 to1 ta1 te1 ts1 tr a cnt lv kd gd ln st r_ rn rf ro) H := hP
      have hD : va_D A (W_A_T_P_R cI cS h q_ x_ b a d_ r_ lf tc b a tk2 tg2 tl1 to1 ta1 te1 ts1 tr a cnt lv kd gd ln st r_ rn rf ro) := hD
      have hl : lv_has ls 3 [(2, .int (iI y)), (1, .int (iI fd)), (0, .ref (h 0))] := hl
      have ih_3 := ih
      refine lv_iload_n hx hb dX6_lives_24 rfl (lv_at hl 0 rfl) ?_
      refine lv_bipush (v := iI 16) hx hb dX6_lives_25 (by decide +kernel) ?_
      refine n_icmp_ge (tgt := 64) hx hb dX6_lives_27 (by decide) (by omega) (fun c_4 => ?_) (fun c_4 => ?_)
      ·
        refine lv_iload_n hx hb dX6_lives_64 rfl (lv_at hl 1 rfl) ?_
        exact W.iret (v := iI fd) hx hb hr (fun t ht hW => ⟨⟨_, (tk2, tg2, tl1, to1, ta1, te1, ts1), rfl, congrArg iI (show fd = (sLives cnt kd gd ln st rn rf ro) from (by unfold sLives; rw [if_neg (by omega), hm, show y = 16 by omega]; rfl)), by rw [ht]; exact hP, hD⟩, hS.F ht⟩) hS.2.2 dX6_lives_65
      ·
        have hko3 : okK cnt tk2 tg2 y := ⟨hko2.1, by omega⟩
        have hsq : soI (fun g => (sem tk2 tg2 y ln st g).1) rf ro rn.toNat = soK y kd gd ln st rn rf ro := soI_oc (cnt := cnt) rn.toNat (fun x a b => (hrd x a (by omega)).1) (fun g a b => by rw [hse y g a b])
        have hbr := bitsGo_rng (fun y => soK y kd gd ln st rn rf ro) y.toNat (by omega)
        rw [← hm] at hbr
        have hp2 := pow2_rng (k := y) (by omega)
        refine lv_aload_n hx hb dX6_lives_30 rfl (lv_at hl 2 rfl) ?_
        refine va_get (D := D) (ci := 6) (v := .ref (b 0)) (C := RX6) (T := TX6) (N := 8) hx hb hts iw_6 hown hK.1 hP 0 rfl rfl 2 (by decide) fl_27 (fun _ h9 => h9) rfl dX6_lives_31 ?_
        refine lv_iload_n hx hb dX6_lives_34 rfl (lv_at hl 0 rfl) ?_
        refine va_putN (D := D) (ci := 5) (v := .int (iI y)) (ty := .int) (C := RX5) (T := TX5) (N := 9) hx hb hts iw_5 tyX5 tyX5_ok nmX5 hown hK.1 hP hD hS 1 rfl rfl 3 (by decide) fn_200 (fun _ h9 => h9) rfl (by decide +kernel) rfl rfl (Nat.le_of_ble_eq_true rfl) dX6_lives_35 (fun H locs hP hD hS => ?_)
        have hP : va_P D vwCl (W_A_T_P_R cI cS h q_ x_ b a d_ r_ lf tc b a tk2 tg2 y to1 ta1 te1 ts1 tr a cnt lv kd gd ln st r_ rn rf ro) H := hP
        have hD : va_D A (W_A_T_P_R cI cS h q_ x_ b a d_ r_ lf tc b a tk2 tg2 y to1 ta1 te1 ts1 tr a cnt lv kd gd ln st r_ rn rf ro) := hD
        refine lv_aload_n hx hb dX6_lives_38 rfl (lv_at hl 2 rfl) ?_
        refine va_get (D := D) (ci := 6) (v := .ref (r_ 0)) (C := RX6) (T := TX6) (N := 8) hx hb hts iw_6 hown hK.1 hP 0 rfl rfl 5 (by decide) fl_48 (fun _ h9 => h9) rfl dX6_lives_39 ?_
        refine lv_aload_n hx hb dX6_lives_42 rfl (lv_at hl 2 rfl) ?_
        refine va_get (D := D) (ci := 6) (v := .ref (b 0)) (C := RX6) (T := TX6) (N := 8) hx hb hts iw_6 hown hK.1 hP 0 rfl rfl 2 (by decide) fl_27 (fun _ h9 => h9) rfl dX6_lives_43 ?_
        refine x_callVi (As := [.ref (b 0)]) (rest := []) ⟨hx, hb, hml, hown, hts⟩ (c_X2_areSo l D cI cS r_ b a rn rf ro tk2 tg2 y to1 ta1 te1 ts1 tr cnt lv kd gd ln st H.size (by first | assumption | omega) hko3 (by first | assumption | omega) (by first | assumption | omega)) (cwV 1 hts gX6_lives_X2_areSo rfl rfl rfl (by decide +kernel) ⟨Nat.le_of_ble_eq_true rfl, Nat.le_of_ble_eq_true rfl⟩) hK hP hD hS hA [14, 15, 16, 1, 2, 3, 4, 5, 6, 7, 8, 9, 10, 11, 12, 13] [0] (wr := [(h 0, .inr (6, [.ref (q_ 0), .ref (x_ 0), .ref (b 0), .ref (a 0), .ref (d_ 0), .ref (r_ 0), .int (iI lf), .int (iI tc)]))]) rfl rfl (by decide) (by decide) (by decide) 0 2 rfl rfl rfl [0, 4, 5, 6, 7, 8, 9, 10, 11, 12, 13, 14, 15, 16, 1, 2, 3] (fun (u : (Int → Int) × (Int → Int) × (Int → Int) × (Int → Int)) => (W_A_T_P_R cI cS h q_ x_ b a d_ r_ lf tc b a tk2 tg2 y u.1 u.2.1 u.2.2.1 u.2.2.2 tr a cnt lv kd gd ln st r_ rn rf ro)) (fun _ => rfl) (by decide) rfl hl.1 rfl (Nat.le_of_ble_eq_true rfl) ⟨Nat.zero_le _, Nat.zero_le _⟩ dX6_lives_46 (fun r_ u_ H locs hw hP hD hS => ?_)
        obtain ⟨to_5, ta_6, te_7, ts_8⟩ := u_
        try dsimp only at hw
        subst hw
        have hP : va_P D vwCl (W_A_T_P_R cI cS h q_ x_ b a d_ r_ lf tc b a tk2 tg2 y to_5 ta_6 te_7 ts_8 tr a cnt lv kd gd ln st r_ rn rf ro) H := hP
        have hD : va_D A (W_A_T_P_R cI cS h q_ x_ b a d_ r_ lf tc b a tk2 tg2 y to_5 ta_6 te_7 ts_8 tr a cnt lv kd gd ln st r_ rn rf ro) := hD
        refine n_if_b1 (tgt := 58) hx hb dX6_lives_49 (by decide)  (fun c_9 => ?_) (fun c_9 => ?_)
        ·
          refine n_iinc (lv' := [(2, .int (iI (y + 1))), (1, .int (iI fd)), (0, .ref (h 0))]) hx hb dX6_lives_58 hl (k := 0) rfl (by decide) rfl (fun ls hl => ?_)
          refine lv_goto (tgt := 24) hx hb dX6_lives_61 (by decide) ?_
          exact ih_3 (fd, (y + 1), y, to_5, ta_6, te_7, ts_8) (by (try dsimp only); exact ⟨by omega, by rw [bitsGo_s _ hy_.1, ← hm, ← hsq]; first | (rw [if_pos (by assumption)]; done) | (rw [if_neg (by assumption)]; done)⟩) (by (try dsimp only); exact (by omega)) _ _ _ hP hD hS (lv_sub hl [0, 1, 2] rfl)
        ·
          refine lv_iload_n hx hb dX6_lives_52 rfl (lv_at hl 1 rfl) ?_
          refine lv_iconst (v := iI 1) hx hb dX6_lives_53 (by decide +kernel) ?_
          refine lv_iload_n hx hb dX6_lives_54 rfl (lv_at hl 0 rfl) ?_
          refine n_ishl (z := (pow2 y)) (b_shl (by omega)) hx hb dX6_lives_55 ?_
          refine n_ior (z := (orI fd (pow2 y))) (b_or (by omega)) hx hb dX6_lives_56 ?_
          refine lv_istore_n (lv' := [(1, .int (iI (orI fd (pow2 y)))), (2, .int (iI y)), (0, .ref (h 0))]) hx hb dX6_lives_57 rfl hl (by decide) rfl (fun ls hl => ?_)
          refine n_iinc (lv' := [(2, .int (iI (y + 1))), (1, .int (iI (orI fd (pow2 y)))), (0, .ref (h 0))]) hx hb dX6_lives_58 hl (k := 1) rfl (by decide) rfl (fun ls hl => ?_)
          refine lv_goto (tgt := 24) hx hb dX6_lives_61 (by decide) ?_
          exact ih_3 ((orI fd (pow2 y)), (y + 1), y, to_5, ta_6, te_7, ts_8) (by (try dsimp only); exact ⟨by omega, by rw [bitsGo_s _ hy_.1, ← hm, ← hsq]; first | (rw [if_pos (by assumption)]; done) | (rw [if_neg (by assumption)]; done)⟩) (by (try dsimp only); exact (by omega)) _ _ _ hP hD hS (lv_sub hl [0, 1, 2] rfl)
  ·
    refine lv_bipush (v := iI (-3)) hx hb dX6_lives_10 (by decide +kernel) ?_
    exact W.iret (v := iI (-3)) hx hb hr (fun t ht hW => ⟨⟨_, (tk, tg, tl, to, ta, te, ts), rfl, congrArg iI (show (-3) = (sLives cnt kd gd ln st rn rf ro) from (by unfold sLives; (repeat (first | rw [if_pos (by omega)] | rw [if_neg (by omega)])))), by rw [ht]; exact hP, hD⟩, hS.F ht⟩) hS.2.2 dX6_lives_12
set_option maxHeartbeats 4000000 in
set_option maxRecDepth 100000 in
theorem c_X6_odds (l : Launch) (D : va_G) (cI cS : ClassId) (h : Nat → Nat) (q_ : Nat → Nat) (x_ : Nat → Nat) (b : Nat → Nat) (a : Nat → Nat) (d_ : Nat → Nat) (r_ : Nat → Nat) (lf : Int) (tc : Int) (tk : Int → Int) (tg : Int → Int) (tl : Int) (to : Int → Int) (ta : Int → Int) (te : Int → Int) (ts : Int → Int) (tr : Int → Int) (cnt : Int) (lv : Int) (kd : Int → Int) (gd : Int → Int) (ln : Int → Int) (st : Int → Int) (sz : Nat) (f : Int) (x : Int) (w : Int) (hok : okP cnt ln st) (hkd : okK cnt kd gd lv) (hfr : -2147483648 ≤ f ∧ f < 2147483648) (hxr : -2147483648 ≤ x ∧ x < 2147483648) (hwr : -2147483648 ≤ w ∧ w < 2147483648) : Met l yX6_odds wsX6_odds ({ frames := 7, cells := 0, slots := 0, locals := 155 }) (cP D cI cS (W_A_T_P cI cS h q_ x_ b a d_ r_ lf tc b a tk tg tl to ta te ts tr a cnt lv kd gd ln st) sz [.ref (h 0), .int (iI f), .int (iI x), .int (iI w)]) (va_Ql (fun (r : Int64) (u : (Int → Int) × (Int → Int) × Int × (Int → Int) × (Int → Int) × (Int → Int) × (Int → Int)) => r = lI (sOdds cnt kd gd ln st f x w)) (fun (u : (Int → Int) × (Int → Int) × Int × (Int → Int) × (Int → Int) × (Int → Int) × (Int → Int)) t => cB D (va_A (W_A_T_P cI cS h q_ x_ b a d_ r_ lf tc b a tk tg tl to ta te ts tr a cnt lv kd gd ln st) sz) (W_A_T_P cI cS h q_ x_ b a d_ r_ lf tc b a u.1 u.2.1 u.2.2.1 u.2.2.2.1 u.2.2.2.2.1 u.2.2.2.2.2.1 u.2.2.2.2.2.2 tr a cnt lv kd gd ln st) t) (va_A (W_A_T_P cI cS h q_ x_ b a d_ r_ lf tc b a tk tg tl to ta te ts tr a cnt lv kd gd ln st) sz)) 0 0 (va_A (W_A_T_P cI cS h q_ x_ b a d_ r_ lf tc b a tk tg tl to ta te ts tr a cnt lv kd gd ln st) sz) := by
  refine Met.ofW (cc := cX6_odds) (maxL := 6) (ret := (some .long)) (by decide) rfl ?_
  intro p e s m args below meth c_ s₁ B hml hv
  obtain ⟨rfl, hsz, hP, hK, hD0⟩ := hv
  have hx := B.exec
  have hb := B.bytes
  have hr := B.returns
  have hts := atoms_spec (ws := wsX6_odds) B.pre
  have hown : s.vm.findClass RX6 = some m.cls := findClass_of_methodNamed B.named
  have hlocks := B.notSynchronized
  subst hsz
  have hD := hD0.self (sz := s.heap.size)
  generalize hAe : va_A (W_A_T_P cI cS h q_ x_ b a d_ r_ lf tc b a tk tg tl to ta te ts tr a cnt lv kd gd ln st) s.heap.size = A at hD ⊢
  have hA : ∀ q : Nat, s.heap.size ≤ q → A q := fun q h => by rw [← hAe]; exact Or.inr h
  have hS : va_S A s.heap s.heap [] := va_S.rf
  have hP : va_P D vwCl (W_A_T_P cI cS h q_ x_ b a d_ r_ lf tc b a tk tg tl to ta te ts tr a cnt lv kd gd ln st) s.heap := hP
  have hl := lv_entry ([.ref (h 0), .int (iI f), .int (iI x), .int (iI w)] : List Value) (n := 6) (Nat.le_of_ble_eq_true rfl)
  rw [lg_entry_eq]
  generalize (lg_sl ([.ref (h 0), .int (iI f), .int (iI x), .int (iI w)] : List Value) ++ List.replicate (6 - (lg_sl ([.ref (h 0), .int (iI f), .int (iI x), .int (iI w)] : List Value)).length) Slot.unset).toArray = ls at hl ⊢
  have hl : lv_has ls 6 [(0, .ref (h 0)), (1, .int (iI f)), (2, .int (iI x)), (3, .int (iI w))] := hl
  have fl_35 := hts (.fieldLink RX6 35 "ActRows" "told" "LActRows$Program;") (by decide +kernel)
  have iw_6 : ∀ w ∈ wsX60, w ∈ wsX6_odds := by decide +kernel
  have ck_201 := hts (.constantLong RX6 201 (lI (-9223372036854775808))) (by decide +kernel)
  have fl_27 := hts (.fieldLink RX6 27 "ActRows" "trial" "LActRows$Trial;") (by decide +kernel)
  have hc := hok.1
  have hln := hok.2.1
  refine lv_aload_n hx hb dX6_odds_0 rfl (lv_at hl 0 rfl) ?_
  refine va_get (D := D) (ci := 6) (v := .ref (a 0)) (C := RX6) (T := TX6) (N := 8) hx hb hts iw_6 hown hK.1 hP 0 rfl rfl 3 (by decide) fl_35 (fun _ h9 => h9) rfl dX6_odds_1 ?_
  refine lv_iload_n hx hb dX6_odds_4 rfl (lv_at hl 1 rfl) ?_
  refine x_callVi (As := [.int (iI f)]) (rest := []) ⟨hx, hb, hml, hown, hts⟩ (c_X1_has l D cI cS a cnt lv kd gd ln st s.heap.size f (by first | assumption | omega) (by first | assumption | omega)) (cwV 1 hts gX6_odds_X1_has rfl rfl rfl (by decide +kernel) ⟨Nat.le_of_ble_eq_true rfl, Nat.le_of_ble_eq_true rfl⟩) hK hP hD hS hA [9, 10, 11, 12, 13] [0, 1, 2, 3, 4, 5, 6, 7, 8] (wr := [(h 0, .inr (6, [.ref (q_ 0), .ref (x_ 0), .ref (b 0), .ref (a 0), .ref (d_ 0), .ref (r_ 0), .int (iI lf), .int (iI tc)])), (b 0, .inr (5, [.ref (a 0), .ref (b 1), .ref (b 2), .int (iI tl), .ref (b 3), .ref (b 4), .ref (b 5), .ref (b 6), .ref (b 7)])), (b 1, .inl (cI, 5, .inl (aI tk))), (b 2, .inl (cI, 5, .inl (aI tg))), (b 3, .inl (cI, 5, .inl (aI to))), (b 4, .inl (cI, 5, .inl (aI ta))), (b 5, .inl (cI, 5, .inl (aI te))), (b 6, .inl (cI, 5, .inl (aI ts))), (b 7, .inl (cI, 5, .inl (aI tr)))]) rfl rfl (by decide) (by decide) (by decide) 0 1 rfl rfl rfl [0, 1, 2, 3, 4, 5, 6, 7, 8, 9, 10, 11, 12, 13] (fun (u : Unit) => (W_A_T_P cI cS h q_ x_ b a d_ r_ lf tc b a tk tg tl to ta te ts tr a cnt lv kd gd ln st)) (fun _ => rfl) (by decide) rfl hl.1 rfl (Nat.le_of_ble_eq_true rfl) ⟨Nat.zero_le _, Nat.zero_le _⟩ dX6_odds_5 (fun r_ u_ H locs hw hP hD hS => ?_)
  try dsimp only at hw
  subst hw
  have hP : va_P D vwCl (W_A_T_P cI cS h q_ x_ b a d_ r_ lf tc b a tk tg tl to ta te ts tr a cnt lv kd gd ln st) H := hP
  have hD : va_D A (W_A_T_P cI cS h q_ x_ b a d_ r_ lf tc b a tk tg tl to ta te ts tr a cnt lv kd gd ln st) := hD
  refine n_if_b1 (tgt := 27) hx hb dX6_odds_8 (by decide)  (fun c_1 => ?_) (fun c_1 => ?_)
  ·
    refine lv_ldc2 hx hb hown ck_201 dX6_odds_27 ?_
    exact W.lret (v := lI (-9223372036854775808)) hx hb hr (fun t ht hW => ⟨⟨_, (tk, tg, tl, to, ta, te, ts), rfl, congrArg lI (show (-9223372036854775808) = (sOdds cnt kd gd ln st f x w) from (by unfold sOdds; rw [if_neg (by omega)])), by rw [ht]; exact hP, hD⟩, hS.F ht⟩) hS.2.2 dX6_odds_30
  ·
    refine lv_iload_n hx hb dX6_odds_11 rfl (lv_at hl 2 rfl) ?_
    refine x_callSi (As := [.int (iI x)]) (rest := []) ⟨hx, hb, hml, hown, hts⟩ (c_X6_isOut l D cI cS H.size x (by first | assumption | omega)) (va_cwS 1 hts gX6_odds_X6_isOut rfl rfl rfl (by decide +kernel) ⟨Nat.le_of_ble_eq_true rfl, Nat.le_of_ble_eq_true rfl⟩) hK hP hD hS hA [] [0, 1, 2, 3, 4, 5, 6, 7, 8, 9, 10, 11, 12, 13] (wr := [(h 0, .inr (6, [.ref (q_ 0), .ref (x_ 0), .ref (b 0), .ref (a 0), .ref (d_ 0), .ref (r_ 0), .int (iI lf), .int (iI tc)])), (b 0, .inr (5, [.ref (a 0), .ref (b 1), .ref (b 2), .int (iI tl), .ref (b 3), .ref (b 4), .ref (b 5), .ref (b 6), .ref (b 7)])), (b 1, .inl (cI, 5, .inl (aI tk))), (b 2, .inl (cI, 5, .inl (aI tg))), (b 3, .inl (cI, 5, .inl (aI to))), (b 4, .inl (cI, 5, .inl (aI ta))), (b 5, .inl (cI, 5, .inl (aI te))), (b 6, .inl (cI, 5, .inl (aI ts))), (b 7, .inl (cI, 5, .inl (aI tr))), (a 0, .inr (1, [.ref (a 1), .ref (a 2), .ref (a 3), .ref (a 4), .int (iI cnt), .int (iI lv)])), (a 1, .inl (cI, 5, .inl (aI kd))), (a 2, .inl (cI, 5, .inl (aI gd))), (a 3, .inl (cI, 5, .inl (aI ln))), (a 4, .inl (cI, 20, .inl (aI st)))]) rfl rfl (by decide) (by decide) (by decide) [0, 1, 2, 3, 4, 5, 6, 7, 8, 9, 10, 11, 12, 13] (fun (u : Unit) => (W_A_T_P cI cS h q_ x_ b a d_ r_ lf tc b a tk tg tl to ta te ts tr a cnt lv kd gd ln st)) (fun _ => rfl) (by decide) rfl hl.1 rfl (Nat.le_of_ble_eq_true rfl) ⟨Nat.zero_le _, Nat.zero_le _⟩ dX6_odds_12 (fun r_ u_ H locs hw hP hD hS => ?_)
    try dsimp only at hw
    subst hw
    have hP : va_P D vwCl (W_A_T_P cI cS h q_ x_ b a d_ r_ lf tc b a tk tg tl to ta te ts tr a cnt lv kd gd ln st) H := hP
    have hD : va_D A (W_A_T_P cI cS h q_ x_ b a d_ r_ lf tc b a tk tg tl to ta te ts tr a cnt lv kd gd ln st) := hD
    refine n_if_b1 (tgt := 27) hx hb dX6_odds_15 (by decide)  (fun c_2 => ?_) (fun c_2 => ?_)
    ·
      refine lv_ldc2 hx hb hown ck_201 dX6_odds_27 ?_
      exact W.lret (v := lI (-9223372036854775808)) hx hb hr (fun t ht hW => ⟨⟨_, (tk, tg, tl, to, ta, te, ts), rfl, congrArg lI (show (-9223372036854775808) = (sOdds cnt kd gd ln st f x w) from (by unfold sOdds; rw [if_neg (by omega)])), by rw [ht]; exact hP, hD⟩, hS.F ht⟩) hS.2.2 dX6_odds_30
    ·
      refine lv_iload_n hx hb dX6_odds_18 rfl (lv_at hl 3 rfl) ?_
      refine n_if_lt (tgt := 27) hx hb dX6_odds_19 (by decide) (by omega) (fun c_3 => ?_) (fun c_3 => ?_)
      ·
        refine lv_ldc2 hx hb hown ck_201 dX6_odds_27 ?_
        exact W.lret (v := lI (-9223372036854775808)) hx hb hr (fun t ht hW => ⟨⟨_, (tk, tg, tl, to, ta, te, ts), rfl, congrArg lI (show (-9223372036854775808) = (sOdds cnt kd gd ln st f x w) from (by unfold sOdds; rw [if_neg (by omega)])), by rw [ht]; exact hP, hD⟩, hS.F ht⟩) hS.2.2 dX6_odds_30
      ·
        refine lv_iload_n hx hb dX6_odds_22 rfl (lv_at hl 3 rfl) ?_
        refine lv_iconst (v := iI 1) hx hb dX6_odds_23 (by decide +kernel) ?_
        refine n_icmp_le (tgt := 31) hx hb dX6_odds_24 (by decide) (by omega) (fun c_4 => ?_) (fun c_4 => ?_)
        ·
          have hf : 0 ≤ f ∧ f < cnt := by assumption
          refine lv_aload_n hx hb dX6_odds_31 rfl (lv_at hl 0 rfl) ?_
          refine va_get (D := D) (ci := 6) (v := .ref (b 0)) (C := RX6) (T := TX6) (N := 8) hx hb hts iw_6 hown hK.1 hP 0 rfl rfl 2 (by decide) fl_27 (fun _ h9 => h9) rfl dX6_odds_32 ?_
          refine x_callVv (As := []) (rest := []) ⟨hx, hb, hml, hown, hts⟩ (c_X5_begin l D cI cS b a tk tg tl to ta te ts tr cnt lv kd gd ln st H.size) (cwV 0 hts gX6_odds_X5_begin rfl rfl rfl (by decide +kernel) ⟨Nat.le_of_ble_eq_true rfl, Nat.le_of_ble_eq_true rfl⟩) hK hP hD hS hA [1, 2, 3, 4, 5, 6, 7, 8, 9, 10, 11, 12, 13] [0] (wr := [(h 0, .inr (6, [.ref (q_ 0), .ref (x_ 0), .ref (b 0), .ref (a 0), .ref (d_ 0), .ref (r_ 0), .int (iI lf), .int (iI tc)]))]) rfl rfl (by decide) (by decide) (by decide) 0 5 rfl rfl rfl [0, 1, 2, 3, 4, 5, 6, 7, 8, 9, 10, 11, 12, 13] (fun (u : (Int → Int) × (Int → Int)) => (W_A_T_P cI cS h q_ x_ b a d_ r_ lf tc b a u.1 u.2 lv to ta te ts tr a cnt lv kd gd ln st)) (fun _ => rfl) (by decide) rfl hl.1 rfl (Nat.le_of_ble_eq_true rfl) ⟨Nat.zero_le _, Nat.zero_le _⟩ dX6_odds_35 (fun u_ H locs hw hP hD hS => ?_)
          obtain ⟨tk2, tg2⟩ := u_
          try dsimp only at hw
          have hk2 := hw
          have hP : va_P D vwCl (W_A_T_P cI cS h q_ x_ b a d_ r_ lf tc b a tk2 tg2 lv to ta te ts tr a cnt lv kd gd ln st) H := hP
          have hD : va_D A (W_A_T_P cI cS h q_ x_ b a d_ r_ lf tc b a tk2 tg2 lv to ta te ts tr a cnt lv kd gd ln st) := hD
          have hko2 : okK cnt tk2 tg2 lv := ⟨fun j h0 h1 => by rw [(hk2 j h0 (by omega)).1, (hk2 j h0 (by omega)).2]; exact hkd.1 j h0 h1, hkd.2⟩
          have hse : ∀ (L f : Int), 0 ≤ f → f < cnt → sem tk2 tg2 L ln st f = sem kd gd L ln st f := fun L f h0 h1 => sem_pre hok h0 h1 (fun j a b => hk2 j a (by omega))
          refine lv_aload_n hx hb dX6_odds_38 rfl (lv_at hl 0 rfl) ?_
          refine va_get (D := D) (ci := 6) (v := .ref (b 0)) (C := RX6) (T := TX6) (N := 8) hx hb hts iw_6 hown hK.1 hP 0 rfl rfl 2 (by decide) fl_27 (fun _ h9 => h9) rfl dX6_odds_39 ?_
          refine lv_iload_n hx hb dX6_odds_42 rfl (lv_at hl 1 rfl) ?_
          refine lv_iload_n hx hb dX6_odds_43 rfl (lv_at hl 2 rfl) ?_
          refine x_callVi (As := [.int (iI f), .int (iI x)]) (rest := []) ⟨hx, hb, hml, hown, hts⟩ (c_X5_setsThatLetOut l D cI cS b a tk2 tg2 lv to ta te ts tr cnt lv kd gd ln st H.size f x (by first | assumption | omega) hko2 (by first | assumption | omega) (by first | assumption | omega)) (cwV 2 hts gX6_odds_X5_setsThatLetOut rfl rfl rfl (by decide +kernel) ⟨Nat.le_of_ble_eq_true rfl, Nat.le_of_ble_eq_true rfl⟩) hK hP hD hS hA [1, 2, 3, 4, 5, 6, 7, 8, 9, 10, 11, 12, 13] [0] (wr := [(h 0, .inr (6, [.ref (q_ 0), .ref (x_ 0), .ref (b 0), .ref (a 0), .ref (d_ 0), .ref (r_ 0), .int (iI lf), .int (iI tc)]))]) rfl rfl (by decide) (by decide) (by decide) 0 5 rfl rfl rfl [0, 1, 2, 3, 4, 5, 6, 7, 8, 9, 10, 11, 12, 13] (fun (u : Int × (Int → Int) × (Int → Int) × (Int → Int) × (Int → Int)) => (W_A_T_P cI cS h q_ x_ b a d_ r_ lf tc b a tk2 tg2 u.1 u.2.1 u.2.2.1 u.2.2.2.1 u.2.2.2.2 tr a cnt lv kd gd ln st)) (fun _ => rfl) (by decide) rfl hl.1 rfl (Nat.le_of_ble_eq_true rfl) ⟨Nat.zero_le _, Nat.zero_le _⟩ dX6_odds_44 (fun r_ u_ H locs hw hP hD hS => ?_)
          obtain ⟨tl_5, to_6, ta_7, te_8, ts_9⟩ := u_
          try dsimp only at hw
          subst hw
          have hP : va_P D vwCl (W_A_T_P cI cS h q_ x_ b a d_ r_ lf tc b a tk2 tg2 tl_5 to_6 ta_7 te_8 ts_9 tr a cnt lv kd gd ln st) H := hP
          have hD : va_D A (W_A_T_P cI cS h q_ x_ b a d_ r_ lf tc b a tk2 tg2 tl_5 to_6 ta_7 te_8 ts_9 tr a cnt lv kd gd ln st) := hD
          obtain ⟨u0, h_u0⟩ : ∃ z_ : Int, z_ = (cntEq (fun x => (sem tk2 tg2 x ln st f).1) x 16) := ⟨_, rfl⟩
          rw [← h_u0]
          have hu0 : u0 = cntEq (fun x => (sem kd gd x ln st f).1) x 16 := by rw [h_u0]; exact cntEq_congr 16 (fun j a b => by rw [hse j f hf.1 hf.2])
          have hur := cntEq_rng (fun x => (sem kd gd x ln st f).1) x 16
          rw [← hu0] at hur
          refine lv_istore (lv' := [(4, .int (iI u0)), (0, .ref (h 0)), (1, .int (iI f)), (2, .int (iI x)), (3, .int (iI w))]) hx hb dX6_odds_47 hl (by decide) rfl (fun ls hl => ?_)
          refine lv_bipush (v := iI 16) hx hb dX6_odds_49 (by decide +kernel) ?_
          refine lv_istore (lv' := [(5, .int (iI 16)), (4, .int (iI u0)), (0, .ref (h 0)), (1, .int (iI f)), (2, .int (iI x)), (3, .int (iI w))]) hx hb dX6_odds_51 hl (by decide) rfl (fun ls hl => ?_)
          refine x_loop (σ := Int × Int × Nat) (fun (xv_ : Int × Int × Nat) => match xv_ with | (u, lo, kk_) => (0 ≤ u ∧ u ≤ 16) ∧ (1 ≤ lo ∧ lo ≤ 16 ∧ (kk_ = 5 → lo = 16) ∧ (kk_ = 4 → lo = 8) ∧ (kk_ = 3 → lo = 4) ∧ (kk_ = 2 → lo = 2) ∧ (kk_ = 1 → lo = 1) ∧ 1 ≤ kk_ ∧ kk_ ≤ 5) ∧ (hal kk_ u lo = hal 5 u0 16)) (fun (xv_ : Int × Int × Nat) => match xv_ with | (u, lo, kk_) => kk_) (fun (xv_ : Int × Int × Nat) => match xv_ with | (u, lo, kk_) => (W_A_T_P cI cS h q_ x_ b a d_ r_ lf tc b a tk2 tg2 tl_5 to_6 ta_7 te_8 ts_9 tr a cnt lv kd gd ln st)) (fun (xv_ : Int × Int × Nat) => match xv_ with | (u, lo, kk_) => [(5, .int (iI lo)), (4, .int (iI u)), (0, .ref (h 0)), (1, .int (iI f)), (2, .int (iI x)), (3, .int (iI w))]) (nL := 6) ?step_10 (u0, 16, 5) (by (try dsimp only); exact ⟨by omega, by omega, rfl⟩) hP hD hS hl
          case step_10 =>
            intro xv_ hI ih H locs ls hP hD hS hl
            obtain ⟨u, lo, kk_⟩ := xv_
            try dsimp only at hI ih
            obtain ⟨hu, hlo, hH⟩ := hI
            have hP : va_P D vwCl (W_A_T_P cI cS h q_ x_ b a d_ r_ lf tc b a tk2 tg2 tl_5 to_6 ta_7 te_8 ts_9 tr a cnt lv kd gd ln st) H := hP
            have hD : va_D A (W_A_T_P cI cS h q_ x_ b a d_ r_ lf tc b a tk2 tg2 tl_5 to_6 ta_7 te_8 ts_9 tr a cnt lv kd gd ln st) := hD
            have hl : lv_has ls 6 [(5, .int (iI lo)), (4, .int (iI u)), (0, .ref (h 0)), (1, .int (iI f)), (2, .int (iI x)), (3, .int (iI w))] := hl
            have ih_11 := ih
            refine lv_iload hx hb dX6_odds_53 (lv_at hl 0 rfl) ?_
            refine lv_iconst (v := iI 1) hx hb dX6_odds_55 (by decide +kernel) ?_
            refine n_icmp_le (tgt := 81) hx hb dX6_odds_56 (by decide) (by omega) (fun c_12 => ?_) (fun c_12 => ?_)
            ·
              have hH2 : hal 5 u0 16 = (u, lo) := by rw [← hH, show kk_ = (kk_ - 1) + 1 by omega]; exact if_neg (by omega)
              refine lv_iload_n hx hb dX6_odds_81 rfl (lv_at hl 5 rfl) ?_
              refine n_if_ne (tgt := 91) hx hb dX6_odds_82 (by decide) (by omega) (fun c_13 => ?_) (fun c_13 => ?_)
              ·
                refine lv_iload hx hb dX6_odds_91 (lv_at hl 0 rfl) ?_
                refine n_i2l hx hb (by omega) dX6_odds_93 ?_
                exact W.lret (v := lI lo) hx hb hr (fun t ht hW => ⟨⟨_, (tk2, tg2, tl_5, to_6, ta_7, te_8, ts_9), rfl, congrArg lI (show lo = (sOdds cnt kd gd ln st f x w) from (by unfold sOdds; rw [if_pos (by omega), ← hu0]; unfold oddsI; rw [hH2]; first | (rw [if_pos (by omega)]; done) | (rw [if_neg (by omega)]; done))), by rw [ht]; exact hP, hD⟩, hS.F ht⟩) hS.2.2 dX6_odds_94
              ·
                refine lv_iload hx hb dX6_odds_85 (lv_at hl 1 rfl) ?_
                refine n_i2l hx hb (by omega) dX6_odds_87 ?_
                refine lv_goto (tgt := 94) hx hb dX6_odds_88 (by decide) ?_
                exact W.lret (v := lI u) hx hb hr (fun t ht hW => ⟨⟨_, (tk2, tg2, tl_5, to_6, ta_7, te_8, ts_9), rfl, congrArg lI (show u = (sOdds cnt kd gd ln st f x w) from (by unfold sOdds; rw [if_pos (by omega), ← hu0]; unfold oddsI; rw [hH2]; first | (rw [if_pos (by omega)]; done) | (rw [if_neg (by omega)]; done))), by rw [ht]; exact hP, hD⟩, hS.F ht⟩) hS.2.2 dX6_odds_94
            ·
              refine lv_iload hx hb dX6_odds_59 (lv_at hl 1 rfl) ?_
              refine lv_iconst (v := iI 2) hx hb dX6_odds_61 (by decide +kernel) ?_
              refine n_irem (by omega) hx hb dX6_odds_62 ?_
              refine n_if_ne (tgt := 81) hx hb dX6_odds_63 (by decide) (by omega) (fun c_14 => ?_) (fun c_14 => ?_)
              ·
                have hH2 : hal 5 u0 16 = (u, lo) := by rw [← hH, show kk_ = (kk_ - 1) + 1 by omega]; exact if_neg (by omega)
                refine lv_iload_n hx hb dX6_odds_81 rfl (lv_at hl 5 rfl) ?_
                refine n_if_ne (tgt := 91) hx hb dX6_odds_82 (by decide) (by omega) (fun c_15 => ?_) (fun c_15 => ?_)
                ·
                  refine lv_iload hx hb dX6_odds_91 (lv_at hl 0 rfl) ?_
                  refine n_i2l hx hb (by omega) dX6_odds_93 ?_
                  exact W.lret (v := lI lo) hx hb hr (fun t ht hW => ⟨⟨_, (tk2, tg2, tl_5, to_6, ta_7, te_8, ts_9), rfl, congrArg lI (show lo = (sOdds cnt kd gd ln st f x w) from (by unfold sOdds; rw [if_pos (by omega), ← hu0]; unfold oddsI; rw [hH2]; first | (rw [if_pos (by omega)]; done) | (rw [if_neg (by omega)]; done))), by rw [ht]; exact hP, hD⟩, hS.F ht⟩) hS.2.2 dX6_odds_94
                ·
                  refine lv_iload hx hb dX6_odds_85 (lv_at hl 1 rfl) ?_
                  refine n_i2l hx hb (by omega) dX6_odds_87 ?_
                  refine lv_goto (tgt := 94) hx hb dX6_odds_88 (by decide) ?_
                  exact W.lret (v := lI u) hx hb hr (fun t ht hW => ⟨⟨_, (tk2, tg2, tl_5, to_6, ta_7, te_8, ts_9), rfl, congrArg lI (show u = (sOdds cnt kd gd ln st f x w) from (by unfold sOdds; rw [if_pos (by omega), ← hu0]; unfold oddsI; rw [hH2]; first | (rw [if_pos (by omega)]; done) | (rw [if_neg (by omega)]; done))), by rw [ht]; exact hP, hD⟩, hS.F ht⟩) hS.2.2 dX6_odds_94
              ·
                refine lv_iload hx hb dX6_odds_66 (lv_at hl 1 rfl) ?_
                refine lv_iconst (v := iI 2) hx hb dX6_odds_68 (by decide +kernel) ?_
                refine n_idiv (by omega) hx hb dX6_odds_69 ?_
                refine lv_istore (lv' := [(4, .int (iI (u / 2))), (5, .int (iI lo)), (0, .ref (h 0)), (1, .int (iI f)), (2, .int (iI x)), (3, .int (iI w))]) hx hb dX6_odds_70 hl (by decide) rfl (fun ls hl => ?_)
                refine lv_iload hx hb dX6_odds_72 (lv_at hl 1 rfl) ?_
                refine lv_iconst (v := iI 2) hx hb dX6_odds_74 (by decide +kernel) ?_
                refine n_idiv (by omega) hx hb dX6_odds_75 ?_
                refine lv_istore (lv' := [(5, .int (iI (lo / 2))), (4, .int (iI (u / 2))), (0, .ref (h 0)), (1, .int (iI f)), (2, .int (iI x)), (3, .int (iI w))]) hx hb dX6_odds_76 hl (by decide) rfl (fun ls hl => ?_)
                refine lv_goto (tgt := 53) hx hb dX6_odds_78 (by decide) ?_
                exact ih_11 ((u / 2), (lo / 2), (kk_ - 1)) (by (try dsimp only); exact ⟨by omega, by omega, by rw [← hH, show kk_ = (kk_ - 1) + 1 by omega]; exact (if_pos (by omega)).symm⟩) (by (try dsimp only); exact (by omega)) _ _ _ hP hD hS (lv_sub hl [0, 1, 2, 3, 4, 5] rfl)
        ·
          refine lv_ldc2 hx hb hown ck_201 dX6_odds_27 ?_
          exact W.lret (v := lI (-9223372036854775808)) hx hb hr (fun t ht hW => ⟨⟨_, (tk, tg, tl, to, ta, te, ts), rfl, congrArg lI (show (-9223372036854775808) = (sOdds cnt kd gd ln st f x w) from (by unfold sOdds; rw [if_neg (by omega)])), by rw [ht]; exact hP, hD⟩, hS.F ht⟩) hS.2.2 dX6_odds_30
