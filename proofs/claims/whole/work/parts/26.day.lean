abbrev W_D_T_P (cI cS : ClassId) (A_0 : Nat → Nat) (ya_0 : Int) (ye_0 : Int) (yw_0 : Int) (A_1 : Nat → Nat) (pa_1 : Nat → Nat) (tk_1 : Int → Int) (tg_1 : Int → Int) (tl_1 : Int) (to_1 : Int → Int) (ta_1 : Int → Int) (te_1 : Int → Int) (ts_1 : Int → Int) (tr_1 : Int → Int) (A_2 : Nat → Nat) (cnt_2 : Int) (lv_2 : Int) (kd_2 : Int → Int) (gd_2 : Int → Int) (ln_2 : Int → Int) (st_2 : Int → Int) : va_W := [(A_0 0, .inr (0, [.int (iI ya_0), .int (iI ye_0), .int (iI yw_0)])), (A_1 0, .inr (5, [.ref (pa_1 0), .ref (A_1 1), .ref (A_1 2), .int (iI tl_1), .ref (A_1 3), .ref (A_1 4), .ref (A_1 5), .ref (A_1 6), .ref (A_1 7)])), (A_1 1, .inl (cI, 5, .inl (aI tk_1))), (A_1 2, .inl (cI, 5, .inl (aI tg_1))), (A_1 3, .inl (cI, 5, .inl (aI to_1))), (A_1 4, .inl (cI, 5, .inl (aI ta_1))), (A_1 5, .inl (cI, 5, .inl (aI te_1))), (A_1 6, .inl (cI, 5, .inl (aI ts_1))), (A_1 7, .inl (cI, 5, .inl (aI tr_1))), (A_2 0, .inr (1, [.ref (A_2 1), .ref (A_2 2), .ref (A_2 3), .ref (A_2 4), .int (iI cnt_2), .int (iI lv_2)])), (A_2 1, .inl (cI, 5, .inl (aI kd_2))), (A_2 2, .inl (cI, 5, .inl (aI gd_2))), (A_2 3, .inl (cI, 5, .inl (aI ln_2))), (A_2 4, .inl (cI, 20, .inl (aI st_2)))]
abbrev W_D_T_P_S (cI cS : ClassId) (A_0 : Nat → Nat) (ya_0 : Int) (ye_0 : Int) (yw_0 : Int) (A_1 : Nat → Nat) (pa_1 : Nat → Nat) (tk_1 : Int → Int) (tg_1 : Int → Int) (tl_1 : Int) (to_1 : Int → Int) (ta_1 : Int → Int) (te_1 : Int → Int) (ts_1 : Int → Int) (tr_1 : Int → Int) (A_2 : Nat → Nat) (cnt_2 : Int) (lv_2 : Int) (kd_2 : Int → Int) (gd_2 : Int → Int) (ln_2 : Int → Int) (st_2 : Int → Int) (A_3 : Nat → Nat) (lane_3 : Int) (len_3 : Int) (cl_3 : Int → Int) : va_W := [(A_0 0, .inr (0, [.int (iI ya_0), .int (iI ye_0), .int (iI yw_0)])), (A_1 0, .inr (5, [.ref (pa_1 0), .ref (A_1 1), .ref (A_1 2), .int (iI tl_1), .ref (A_1 3), .ref (A_1 4), .ref (A_1 5), .ref (A_1 6), .ref (A_1 7)])), (A_1 1, .inl (cI, 5, .inl (aI tk_1))), (A_1 2, .inl (cI, 5, .inl (aI tg_1))), (A_1 3, .inl (cI, 5, .inl (aI to_1))), (A_1 4, .inl (cI, 5, .inl (aI ta_1))), (A_1 5, .inl (cI, 5, .inl (aI te_1))), (A_1 6, .inl (cI, 5, .inl (aI ts_1))), (A_1 7, .inl (cI, 5, .inl (aI tr_1))), (A_2 0, .inr (1, [.ref (A_2 1), .ref (A_2 2), .ref (A_2 3), .ref (A_2 4), .int (iI cnt_2), .int (iI lv_2)])), (A_2 1, .inl (cI, 5, .inl (aI kd_2))), (A_2 2, .inl (cI, 5, .inl (aI gd_2))), (A_2 3, .inl (cI, 5, .inl (aI ln_2))), (A_2 4, .inl (cI, 20, .inl (aI st_2))), (A_3 0, .inr (3, [.ref (A_3 1), .int (iI lane_3), .int (iI len_3)])), (A_3 1, .inl (cI, 60, .inl (aI cl_3)))]
set_option maxHeartbeats 4000000 in
set_option maxRecDepth 100000 in
theorem c_X0_isQuestion (l : Launch) (D : va_G) (cI cS : ClassId) (sz : Nat) (w : Int) (hw_ : -2147483648 ≤ w ∧ w < 2147483648) : Met l yX0_isQuestion wsX0_isQuestion ({ frames := 0, cells := 0, slots := 0, locals := 0 }) (cP D cI cS ([] : va_W) sz [.int (iI w)]) (va_Qi (fun (r : Int32) (u : Unit) => r = iI (if (0 ≤ w ∧ w ≤ 4) ∨ (10 ≤ w ∧ w < 15) then 1 else 0)) (fun (u : Unit) t => cB D (va_A ([] : va_W) sz) ([] : va_W) t) (va_A ([] : va_W) sz)) 0 0 (va_A ([] : va_W) sz) := by
  refine Met.ofW (cc := cX0_isQuestion) (maxL := 1) (ret := (some .boolean)) (by decide) rfl ?_
  intro p e s m args below meth c_ s₁ B hml hv
  obtain ⟨rfl, hsz, hP, hK, hD0⟩ := hv
  have hx := B.exec
  have hb := B.bytes
  have hr := B.returns
  have hts := atoms_spec (ws := wsX0_isQuestion) B.pre
  have hown : s.vm.findClass RX0 = some m.cls := findClass_of_methodNamed B.named
  have hlocks := B.notSynchronized
  subst hsz
  have hD := hD0.self (sz := s.heap.size)
  generalize hAe : va_A ([] : va_W) s.heap.size = A at hD ⊢
  have hA : ∀ q : Nat, s.heap.size ≤ q → A q := fun q h => by rw [← hAe]; exact Or.inr h
  have hS : va_S A s.heap s.heap [] := va_S.rf
  have hP : va_P D vwCl ([] : va_W) s.heap := hP
  have hl := lv_entry ([.int (iI w)] : List Value) (n := 1) (Nat.le_of_ble_eq_true rfl)
  rw [lg_entry_eq]
  generalize (lg_sl ([.int (iI w)] : List Value) ++ List.replicate (1 - (lg_sl ([.int (iI w)] : List Value)).length) Slot.unset).toArray = ls at hl ⊢
  have hl : lv_has ls 1 [(0, .int (iI w))] := hl
  refine lv_iload_n hx hb dX0_isQuestion_0 rfl (lv_at hl 0 rfl) ?_
  refine n_if_lt (tgt := 9) hx hb dX0_isQuestion_1 (by decide) (by omega) (fun c_1 => ?_) (fun c_1 => ?_)
  ·
    refine lv_iload_n hx hb dX0_isQuestion_9 rfl (lv_at hl 0 rfl) ?_
    refine lv_bipush (v := iI 10) hx hb dX0_isQuestion_10 (by decide +kernel) ?_
    refine n_icmp_lt (tgt := 25) hx hb dX0_isQuestion_12 (by decide) (by omega) (fun c_2 => ?_) (fun c_2 => ?_)
    ·
      refine lv_iconst (v := iI 0) hx hb dX0_isQuestion_25 (by decide +kernel) ?_
      exact W.zret (v := iI 0) (ty := .boolean) hx hb hr (by decide +kernel) (fun t ht hW => ⟨⟨_, (), rfl, congrArg iI (show 0 = (if (0 ≤ w ∧ w ≤ 4) ∨ (10 ≤ w ∧ w < 15) then 1 else 0) from (by omega)), by rw [ht]; exact hP, hD⟩, hS.F ht⟩) hS.2.2 dX0_isQuestion_26
    ·
      refine lv_iload_n hx hb dX0_isQuestion_15 rfl (lv_at hl 0 rfl) ?_
      refine lv_bipush (v := iI 15) hx hb dX0_isQuestion_16 (by decide +kernel) ?_
      refine n_icmp_ge (tgt := 25) hx hb dX0_isQuestion_18 (by decide) (by omega) (fun c_3 => ?_) (fun c_3 => ?_)
      ·
        refine lv_iconst (v := iI 0) hx hb dX0_isQuestion_25 (by decide +kernel) ?_
        exact W.zret (v := iI 0) (ty := .boolean) hx hb hr (by decide +kernel) (fun t ht hW => ⟨⟨_, (), rfl, congrArg iI (show 0 = (if (0 ≤ w ∧ w ≤ 4) ∨ (10 ≤ w ∧ w < 15) then 1 else 0) from (by omega)), by rw [ht]; exact hP, hD⟩, hS.F ht⟩) hS.2.2 dX0_isQuestion_26
      ·
        refine lv_iconst (v := iI 1) hx hb dX0_isQuestion_21 (by decide +kernel) ?_
        refine lv_goto (tgt := 26) hx hb dX0_isQuestion_22 (by decide) ?_
        exact W.zret (v := iI 1) (ty := .boolean) hx hb hr (by decide +kernel) (fun t ht hW => ⟨⟨_, (), rfl, congrArg iI (show 1 = (if (0 ≤ w ∧ w ≤ 4) ∨ (10 ≤ w ∧ w < 15) then 1 else 0) from (by omega)), by rw [ht]; exact hP, hD⟩, hS.F ht⟩) hS.2.2 dX0_isQuestion_26
  ·
    refine lv_iload_n hx hb dX0_isQuestion_4 rfl (lv_at hl 0 rfl) ?_
    refine lv_iconst (v := iI 4) hx hb dX0_isQuestion_5 (by decide +kernel) ?_
    refine n_icmp_le (tgt := 21) hx hb dX0_isQuestion_6 (by decide) (by omega) (fun c_4 => ?_) (fun c_4 => ?_)
    ·
      refine lv_iconst (v := iI 1) hx hb dX0_isQuestion_21 (by decide +kernel) ?_
      refine lv_goto (tgt := 26) hx hb dX0_isQuestion_22 (by decide) ?_
      exact W.zret (v := iI 1) (ty := .boolean) hx hb hr (by decide +kernel) (fun t ht hW => ⟨⟨_, (), rfl, congrArg iI (show 1 = (if (0 ≤ w ∧ w ≤ 4) ∨ (10 ≤ w ∧ w < 15) then 1 else 0) from (by omega)), by rw [ht]; exact hP, hD⟩, hS.F ht⟩) hS.2.2 dX0_isQuestion_26
    ·
      refine lv_iload_n hx hb dX0_isQuestion_9 rfl (lv_at hl 0 rfl) ?_
      refine lv_bipush (v := iI 10) hx hb dX0_isQuestion_10 (by decide +kernel) ?_
      refine n_icmp_lt (tgt := 25) hx hb dX0_isQuestion_12 (by decide) (by omega) (fun c_5 => ?_) (fun c_5 => ?_)
      ·
        refine lv_iconst (v := iI 0) hx hb dX0_isQuestion_25 (by decide +kernel) ?_
        exact W.zret (v := iI 0) (ty := .boolean) hx hb hr (by decide +kernel) (fun t ht hW => ⟨⟨_, (), rfl, congrArg iI (show 0 = (if (0 ≤ w ∧ w ≤ 4) ∨ (10 ≤ w ∧ w < 15) then 1 else 0) from (by omega)), by rw [ht]; exact hP, hD⟩, hS.F ht⟩) hS.2.2 dX0_isQuestion_26
      ·
        refine lv_iload_n hx hb dX0_isQuestion_15 rfl (lv_at hl 0 rfl) ?_
        refine lv_bipush (v := iI 15) hx hb dX0_isQuestion_16 (by decide +kernel) ?_
        refine n_icmp_ge (tgt := 25) hx hb dX0_isQuestion_18 (by decide) (by omega) (fun c_6 => ?_) (fun c_6 => ?_)
        ·
          refine lv_iconst (v := iI 0) hx hb dX0_isQuestion_25 (by decide +kernel) ?_
          exact W.zret (v := iI 0) (ty := .boolean) hx hb hr (by decide +kernel) (fun t ht hW => ⟨⟨_, (), rfl, congrArg iI (show 0 = (if (0 ≤ w ∧ w ≤ 4) ∨ (10 ≤ w ∧ w < 15) then 1 else 0) from (by omega)), by rw [ht]; exact hP, hD⟩, hS.F ht⟩) hS.2.2 dX0_isQuestion_26
        ·
          refine lv_iconst (v := iI 1) hx hb dX0_isQuestion_21 (by decide +kernel) ?_
          refine lv_goto (tgt := 26) hx hb dX0_isQuestion_22 (by decide) ?_
          exact W.zret (v := iI 1) (ty := .boolean) hx hb hr (by decide +kernel) (fun t ht hW => ⟨⟨_, (), rfl, congrArg iI (show 1 = (if (0 ≤ w ∧ w ≤ 4) ∨ (10 ≤ w ∧ w < 15) then 1 else 0) from (by omega)), by rw [ht]; exact hP, hD⟩, hS.F ht⟩) hS.2.2 dX0_isQuestion_26
set_option maxHeartbeats 4000000 in
set_option maxRecDepth 100000 in
theorem c_X0_firstsWith (l : Launch) (D : va_G) (cI cS : ClassId) (sz : Nat) (y : Int) (hy : -2147483648 ≤ y ∧ y < 2147483648) : Met l yX0_firstsWith wsX0_firstsWith ({ frames := 0, cells := 0, slots := 0, locals := 0 }) (cP D cI cS ([] : va_W) sz [.int (iI y)]) (va_Qi (fun (r : Int32) (u : Unit) => r = iI (fw y)) (fun (u : Unit) t => cB D (va_A ([] : va_W) sz) ([] : va_W) t) (va_A ([] : va_W) sz)) 0 0 (va_A ([] : va_W) sz) := by
  refine Met.ofW (cc := cX0_firstsWith) (maxL := 1) (ret := (some .int)) (by decide) rfl ?_
  intro p e s m args below meth c_ s₁ B hml hv
  obtain ⟨rfl, hsz, hP, hK, hD0⟩ := hv
  have hx := B.exec
  have hb := B.bytes
  have hr := B.returns
  have hts := atoms_spec (ws := wsX0_firstsWith) B.pre
  have hown : s.vm.findClass RX0 = some m.cls := findClass_of_methodNamed B.named
  have hlocks := B.notSynchronized
  subst hsz
  have hD := hD0.self (sz := s.heap.size)
  generalize hAe : va_A ([] : va_W) s.heap.size = A at hD ⊢
  have hA : ∀ q : Nat, s.heap.size ≤ q → A q := fun q h => by rw [← hAe]; exact Or.inr h
  have hS : va_S A s.heap s.heap [] := va_S.rf
  have hP : va_P D vwCl ([] : va_W) s.heap := hP
  have hl := lv_entry ([.int (iI y)] : List Value) (n := 1) (Nat.le_of_ble_eq_true rfl)
  rw [lg_entry_eq]
  generalize (lg_sl ([.int (iI y)] : List Value) ++ List.replicate (1 - (lg_sl ([.int (iI y)] : List Value)).length) Slot.unset).toArray = ls at hl ⊢
  have hl : lv_has ls 1 [(0, .int (iI y))] := hl
  refine lv_iload_n hx hb dX0_firstsWith_0 rfl (lv_at hl 0 rfl) ?_
  refine lv_iconst (v := iI 5) hx hb dX0_firstsWith_1 (by decide +kernel) ?_
  refine n_icmp_ne (tgt := 8) hx hb dX0_firstsWith_2 (by decide) (by omega) (fun c_1 => ?_) (fun c_1 => ?_)
  ·
    refine lv_iload_n hx hb dX0_firstsWith_8 rfl (lv_at hl 0 rfl) ?_
    refine lv_iconst (v := iI 5) hx hb dX0_firstsWith_9 (by decide +kernel) ?_
    refine n_icmp_ge (tgt := 17) hx hb dX0_firstsWith_10 (by decide) (by omega) (fun c_2 => ?_) (fun c_2 => ?_)
    ·
      refine lv_iconst (v := iI 4) hx hb dX0_firstsWith_17 (by decide +kernel) ?_
      exact W.iret (v := iI 4) hx hb hr (fun t ht hW => ⟨⟨_, (), rfl, congrArg iI (show 4 = (fw y) from (by unfold fw; omega)), by rw [ht]; exact hP, hD⟩, hS.F ht⟩) hS.2.2 dX0_firstsWith_18
    ·
      refine lv_iconst (v := iI 1) hx hb dX0_firstsWith_13 (by decide +kernel) ?_
      refine lv_goto (tgt := 18) hx hb dX0_firstsWith_14 (by decide) ?_
      exact W.iret (v := iI 1) hx hb hr (fun t ht hW => ⟨⟨_, (), rfl, congrArg iI (show 1 = (fw y) from (by unfold fw; omega)), by rw [ht]; exact hP, hD⟩, hS.F ht⟩) hS.2.2 dX0_firstsWith_18
  ·
    refine lv_bipush (v := iI 16) hx hb dX0_firstsWith_5 (by decide +kernel) ?_
    exact W.iret (v := iI 16) hx hb hr (fun t ht hW => ⟨⟨_, (), rfl, congrArg iI (show 16 = (fw y) from (by unfold fw; omega)), by rw [ht]; exact hP, hD⟩, hS.F ht⟩) hS.2.2 dX0_firstsWith_7
set_option maxHeartbeats 4000000 in
set_option maxRecDepth 100000 in
theorem c_X0_isTold (l : Launch) (D : va_G) (cI cS : ClassId) (k : Nat → Nat) (lane : Int) (len : Int) (cl : Int → Int) (sz : Nat) (i : Int) (n : Int) (hs : 0 ≤ len ∧ len ≤ 60) (hcl : ∀ j : Int, -2147483648 ≤ cl j ∧ cl j < 2147483648) (hin : 0 ≤ i ∧ 0 ≤ n ∧ n ≤ 30 ∧ i + 2 * n ≤ len) : Met l yX0_isTold wsX0_isTold ({ frames := 2, cells := 0, slots := 0, locals := 43 }) (cP D cI cS (W_S cI cS k lane len cl) sz [.ref (k 0), .int (iI i), .int (iI n)]) (va_Qi (fun (r : Int32) (u : Unit) => r = iI (if tldB (fun j => cl (i + j)) n.toNat = true then 1 else 0)) (fun (u : Unit) t => cB D (va_A (W_S cI cS k lane len cl) sz) (W_S cI cS k lane len cl) t) (va_A (W_S cI cS k lane len cl) sz)) 0 0 (va_A (W_S cI cS k lane len cl) sz) := by
  refine Met.ofW (cc := cX0_isTold) (maxL := 6) (ret := (some .boolean)) (by decide) rfl ?_
  intro p e s m args below meth c_ s₁ B hml hv
  obtain ⟨rfl, hsz, hP, hK, hD0⟩ := hv
  have hx := B.exec
  have hb := B.bytes
  have hr := B.returns
  have hts := atoms_spec (ws := wsX0_isTold) B.pre
  have hown : s.vm.findClass RX0 = some m.cls := findClass_of_methodNamed B.named
  have hlocks := B.notSynchronized
  subst hsz
  have hD := hD0.self (sz := s.heap.size)
  generalize hAe : va_A (W_S cI cS k lane len cl) s.heap.size = A at hD ⊢
  have hA : ∀ q : Nat, s.heap.size ≤ q → A q := fun q h => by rw [← hAe]; exact Or.inr h
  have hS : va_S A s.heap s.heap [] := va_S.rf
  have hP : va_P D vwCl (W_S cI cS k lane len cl) s.heap := hP
  have hl := lv_entry ([.ref (k 0), .int (iI i), .int (iI n)] : List Value) (n := 6) (Nat.le_of_ble_eq_true rfl)
  rw [lg_entry_eq]
  generalize (lg_sl ([.ref (k 0), .int (iI i), .int (iI n)] : List Value) ++ List.replicate (6 - (lg_sl ([.ref (k 0), .int (iI i), .int (iI n)] : List Value)).length) Slot.unset).toArray = ls at hl ⊢
  have hl : lv_has ls 6 [(0, .ref (k 0)), (1, .int (iI i)), (2, .int (iI n))] := hl
  refine lv_iconst (v := iI 0) hx hb dX0_isTold_0 (by decide +kernel) ?_
  refine lv_istore_n (lv' := [(3, .int (iI 0)), (0, .ref (k 0)), (1, .int (iI i)), (2, .int (iI n))]) hx hb dX0_isTold_1 rfl hl (by decide) rfl (fun ls hl => ?_)
  refine x_loop (σ := Int) (fun (x : Int) => (0 ≤ x ∧ x ≤ n) ∧ (tldB (fun j => cl (i + j)) x.toNat = true)) (fun (x : Int) => (n - x).toNat) (fun (x : Int) => (W_S cI cS k lane len cl)) (fun (x : Int) => [(3, .int (iI x)), (0, .ref (k 0)), (1, .int (iI i)), (2, .int (iI n))]) (nL := 6) ?step_1 0 (by (try dsimp only); exact ⟨by omega, rfl⟩) hP hD hS (lv_sub hl [0, 1, 2, 3] rfl)
  case step_1 =>
    intro xv_ hI ih H locs ls hP hD hS hl
    obtain ⟨x, ex_⟩ : ∃ z, z = xv_ := ⟨_, rfl⟩
    subst ex_
    try dsimp only at hI ih
    obtain ⟨hx_, htt⟩ := hI
    have hP : va_P D vwCl (W_S cI cS k lane len cl) H := hP
    have hD : va_D A (W_S cI cS k lane len cl) := hD
    have hl : lv_has ls 6 [(3, .int (iI x)), (0, .ref (k 0)), (1, .int (iI i)), (2, .int (iI n))] := hl
    have ih_2 := ih
    refine lv_iload_n hx hb dX0_isTold_2 rfl (lv_at hl 0 rfl) ?_
    refine lv_iload_n hx hb dX0_isTold_3 rfl (lv_at hl 3 rfl) ?_
    refine n_icmp_ge (tgt := 66) hx hb dX0_isTold_4 (by decide) (by omega) (fun c_3 => ?_) (fun c_3 => ?_)
    ·
      refine lv_iconst (v := iI 1) hx hb dX0_isTold_66 (by decide +kernel) ?_
      exact W.zret (v := iI 1) (ty := .boolean) hx hb hr (by decide +kernel) (fun t ht hW => ⟨⟨_, (), rfl, congrArg iI (show 1 = (if tldB (fun j => cl (i + j)) n.toNat = true then 1 else 0) from (by rw [if_pos (by rw [show n = x by omega]; exact htt)])), by rw [ht]; exact hP, hD⟩, hS.F ht⟩) hS.2.2 dX0_isTold_67
    ·
      refine lv_aload_n hx hb dX0_isTold_7 rfl (lv_at hl 1 rfl) ?_
      refine lv_iload_n hx hb dX0_isTold_8 rfl (lv_at hl 2 rfl) ?_
      refine lv_iconst (v := iI 2) hx hb dX0_isTold_9 (by decide +kernel) ?_
      refine lv_iload_n hx hb dX0_isTold_10 rfl (lv_at hl 0 rfl) ?_
      refine n_imul hx hb dX0_isTold_11 ?_
      refine n_iadd hx hb dX0_isTold_12 ?_
      refine x_callVi (As := [.int (iI (i + (2 * x)))]) (rest := []) ⟨hx, hb, hml, hown, hts⟩ (c_X3_cellAt l D cI cS k lane len cl H.size (i + (2 * x)) (by first | assumption | omega) (by first | assumption | omega)) (cwV 1 hts gX0_isTold_X3_cellAt rfl rfl rfl (by decide +kernel) ⟨Nat.le_of_ble_eq_true rfl, Nat.le_of_ble_eq_true rfl⟩) hK hP hD hS hA [0, 1] [] (wr := ([] : va_W)) rfl rfl (by decide) (by decide) (by decide) 0 3 rfl rfl rfl [0, 1] (fun (u : Unit) => (W_S cI cS k lane len cl)) (fun _ => rfl) (by decide) rfl hl.1 rfl (Nat.le_of_ble_eq_true rfl) ⟨Nat.zero_le _, Nat.zero_le _⟩ dX0_isTold_13 (fun r_ u_ H locs hw hP hD hS => ?_)
      try dsimp only at hw
      subst hw
      have hP : va_P D vwCl (W_S cI cS k lane len cl) H := hP
      have hD : va_D A (W_S cI cS k lane len cl) := hD
      obtain ⟨ay, h_ay⟩ : ∃ z_ : Int, z_ = (if 0 ≤ (i + (2 * x)) ∧ (i + (2 * x)) < len then cl (i + (2 * x)) else 0) := ⟨_, rfl⟩
      rw [← h_ay]
      have hay : ay = cl (i + 2 * x) := by rw [h_ay, if_pos (by omega)]
      have har := hcl (i + 2 * x)
      refine lv_istore (lv' := [(4, .int (iI ay)), (3, .int (iI x)), (0, .ref (k 0)), (1, .int (iI i)), (2, .int (iI n))]) hx hb dX0_isTold_16 hl (by decide) rfl (fun ls hl => ?_)
      refine lv_aload_n hx hb dX0_isTold_18 rfl (lv_at hl 2 rfl) ?_
      refine lv_iload_n hx hb dX0_isTold_19 rfl (lv_at hl 3 rfl) ?_
      refine lv_iconst (v := iI 2) hx hb dX0_isTold_20 (by decide +kernel) ?_
      refine lv_iload_n hx hb dX0_isTold_21 rfl (lv_at hl 1 rfl) ?_
      refine n_imul hx hb dX0_isTold_22 ?_
      refine n_iadd hx hb dX0_isTold_23 ?_
      refine lv_iconst (v := iI 1) hx hb dX0_isTold_24 (by decide +kernel) ?_
      refine n_iadd hx hb dX0_isTold_25 ?_
      refine x_callVi (As := [.int (iI ((i + (2 * x)) + 1))]) (rest := []) ⟨hx, hb, hml, hown, hts⟩ (c_X3_cellAt l D cI cS k lane len cl H.size ((i + (2 * x)) + 1) (by first | assumption | omega) (by first | assumption | omega)) (cwV 1 hts gX0_isTold_X3_cellAt rfl rfl rfl (by decide +kernel) ⟨Nat.le_of_ble_eq_true rfl, Nat.le_of_ble_eq_true rfl⟩) hK hP hD hS hA [0, 1] [] (wr := ([] : va_W)) rfl rfl (by decide) (by decide) (by decide) 0 3 rfl rfl rfl [0, 1] (fun (u : Unit) => (W_S cI cS k lane len cl)) (fun _ => rfl) (by decide) rfl hl.1 rfl (Nat.le_of_ble_eq_true rfl) ⟨Nat.zero_le _, Nat.zero_le _⟩ dX0_isTold_26 (fun r_ u_ H locs hw hP hD hS => ?_)
      try dsimp only at hw
      subst hw
      have hP : va_P D vwCl (W_S cI cS k lane len cl) H := hP
      have hD : va_D A (W_S cI cS k lane len cl) := hD
      obtain ⟨by_, h_by_⟩ : ∃ z_ : Int, z_ = (if 0 ≤ ((i + (2 * x)) + 1) ∧ ((i + (2 * x)) + 1) < len then cl ((i + (2 * x)) + 1) else 0) := ⟨_, rfl⟩
      rw [← h_by_]
      have hby : by_ = cl (i + (2 * x + 1)) := by rw [h_by_, if_pos (by omega), Int.add_assoc]
      have hbr := hcl (i + (2 * x + 1))
      refine lv_istore (lv' := [(5, .int (iI by_)), (4, .int (iI ay)), (3, .int (iI x)), (0, .ref (k 0)), (1, .int (iI i)), (2, .int (iI n))]) hx hb dX0_isTold_29 hl (by decide) rfl (fun ls hl => ?_)
      refine lv_iload hx hb dX0_isTold_31 (lv_at hl 0 rfl) ?_
      refine n_if_lt (tgt := 58) hx hb dX0_isTold_33 (by decide) (by omega) (fun c_4 => ?_) (fun c_4 => ?_)
      ·
        refine lv_iconst (v := iI 0) hx hb dX0_isTold_58 (by decide +kernel) ?_
        exact W.zret (v := iI 0) (ty := .boolean) hx hb hr (by decide +kernel) (fun t ht hW => ⟨⟨_, (), rfl, congrArg iI (show 0 = (if tldB (fun j => cl (i + j)) n.toNat = true then 1 else 0) from (by rw [if_neg (by rw [tldB_no hx_.1 (by show tld (cl (i + 2 * x)) (cl (i + (2 * x + 1))) = false; rw [← hay, ← hby]; exact decide_eq_false (by omega)) n.toNat (by omega)]; decide)])), by rw [ht]; exact hP, hD⟩, hS.F ht⟩) hS.2.2 dX0_isTold_59
      ·
        refine lv_iload hx hb dX0_isTold_36 (lv_at hl 0 rfl) ?_
        refine lv_bipush (v := iI 10) hx hb dX0_isTold_38 (by decide +kernel) ?_
        refine n_icmp_gt (tgt := 58) hx hb dX0_isTold_40 (by decide) (by omega) (fun c_5 => ?_) (fun c_5 => ?_)
        ·
          refine lv_iconst (v := iI 0) hx hb dX0_isTold_58 (by decide +kernel) ?_
          exact W.zret (v := iI 0) (ty := .boolean) hx hb hr (by decide +kernel) (fun t ht hW => ⟨⟨_, (), rfl, congrArg iI (show 0 = (if tldB (fun j => cl (i + j)) n.toNat = true then 1 else 0) from (by rw [if_neg (by rw [tldB_no hx_.1 (by show tld (cl (i + 2 * x)) (cl (i + (2 * x + 1))) = false; rw [← hay, ← hby]; exact decide_eq_false (by omega)) n.toNat (by omega)]; decide)])), by rw [ht]; exact hP, hD⟩, hS.F ht⟩) hS.2.2 dX0_isTold_59
        ·
          refine lv_iload hx hb dX0_isTold_43 (lv_at hl 1 rfl) ?_
          refine n_if_lt (tgt := 58) hx hb dX0_isTold_45 (by decide) (by omega) (fun c_6 => ?_) (fun c_6 => ?_)
          ·
            refine lv_iconst (v := iI 0) hx hb dX0_isTold_58 (by decide +kernel) ?_
            exact W.zret (v := iI 0) (ty := .boolean) hx hb hr (by decide +kernel) (fun t ht hW => ⟨⟨_, (), rfl, congrArg iI (show 0 = (if tldB (fun j => cl (i + j)) n.toNat = true then 1 else 0) from (by rw [if_neg (by rw [tldB_no hx_.1 (by show tld (cl (i + 2 * x)) (cl (i + (2 * x + 1))) = false; rw [← hay, ← hby]; exact decide_eq_false (by omega)) n.toNat (by omega)]; decide)])), by rw [ht]; exact hP, hD⟩, hS.F ht⟩) hS.2.2 dX0_isTold_59
          ·
            refine lv_iload hx hb dX0_isTold_48 (lv_at hl 1 rfl) ?_
            refine lv_iload hx hb dX0_isTold_50 (lv_at hl 0 rfl) ?_
            refine x_callSi (As := [.int (iI by_)]) (rest := [.int (iI ay)]) ⟨hx, hb, hml, hown, hts⟩ (c_X0_firstsWith l D cI cS H.size by_ (by first | assumption | omega)) (va_cwS 1 hts gX0_isTold_X0_firstsWith rfl rfl rfl (by decide +kernel) ⟨Nat.le_of_ble_eq_true rfl, Nat.le_of_ble_eq_true rfl⟩) hK hP hD hS hA [] [0, 1] (wr := [(k 0, .inr (3, [.ref (k 1), .int (iI lane), .int (iI len)])), (k 1, .inl (cI, 60, .inl (aI cl)))]) rfl rfl (by decide) (by decide) (by decide) [0, 1] (fun (u : Unit) => (W_S cI cS k lane len cl)) (fun _ => rfl) (by decide) rfl hl.1 rfl (Nat.le_of_ble_eq_true rfl) ⟨Nat.zero_le _, Nat.zero_le _⟩ dX0_isTold_52 (fun r_ u_ H locs hw hP hD hS => ?_)
            try dsimp only at hw
            subst hw
            have hP : va_P D vwCl (W_S cI cS k lane len cl) H := hP
            have hD : va_D A (W_S cI cS k lane len cl) := hD
            obtain ⟨fx, h_fx⟩ : ∃ z_ : Int, z_ = (fw by_) := ⟨_, rfl⟩
            rw [← h_fx]
            have hfr : 1 ≤ fx ∧ fx ≤ 16 := by rw [h_fx]; unfold fw; omega
            refine n_icmp_lt (tgt := 60) hx hb dX0_isTold_55 (by decide) (by omega) (fun c_7 => ?_) (fun c_7 => ?_)
            ·
              refine n_iinc (lv' := [(3, .int (iI (x + 1))), (5, .int (iI by_)), (4, .int (iI ay)), (0, .ref (k 0)), (1, .int (iI i)), (2, .int (iI n))]) hx hb dX0_isTold_60 hl (k := 2) rfl (by decide) rfl (fun ls hl => ?_)
              refine lv_goto (tgt := 2) hx hb dX0_isTold_63 (by decide) ?_
              exact ih_2 (x + 1) (by (try dsimp only); exact ⟨by omega, by rw [tldB_s _ hx_.1, htt, Bool.true_and]; show tld (cl (i + 2 * x)) (cl (i + (2 * x + 1))) = true; rw [← hay, ← hby]; exact decide_eq_true (by omega)⟩) (by (try dsimp only); exact (by omega)) _ _ _ hP hD hS (lv_sub hl [0, 3, 4, 5] rfl)
            ·
              refine lv_iconst (v := iI 0) hx hb dX0_isTold_58 (by decide +kernel) ?_
              exact W.zret (v := iI 0) (ty := .boolean) hx hb hr (by decide +kernel) (fun t ht hW => ⟨⟨_, (), rfl, congrArg iI (show 0 = (if tldB (fun j => cl (i + j)) n.toNat = true then 1 else 0) from (by rw [if_neg (by rw [tldB_no hx_.1 (by show tld (cl (i + 2 * x)) (cl (i + (2 * x + 1))) = false; rw [← hay, ← hby]; exact decide_eq_false (by omega)) n.toNat (by omega)]; decide)])), by rw [ht]; exact hP, hD⟩, hS.F ht⟩) hS.2.2 dX0_isTold_59
set_option maxHeartbeats 4000000 in
set_option maxRecDepth 100000 in
theorem c_X0_lastsThroughRun (l : Launch) (D : va_G) (cI cS : ClassId) (d_ : Nat → Nat) (b : Nat → Nat) (a : Nat → Nat) (ya : Int) (ye : Int) (yw : Int) (tk : Int → Int) (tg : Int → Int) (tl : Int) (to : Int → Int) (ta : Int → Int) (te : Int → Int) (ts : Int → Int) (tr : Int → Int) (cnt : Int) (lv : Int) (kd : Int → Int) (gd : Int → Int) (ln : Int → Int) (st : Int → Int) (sz : Nat) (f : Int) (hok : okP cnt ln st) (hkk : okK cnt tk tg tl) (hf : 0 ≤ f ∧ f < cnt) : Met l yX0_lastsThroughRun wsX0_lastsThroughRun ({ frames := 5, cells := 0, slots := 0, locals := 110 }) (cP D cI cS (W_D_T_P cI cS d_ ya ye yw b a tk tg tl to ta te ts tr a cnt lv kd gd ln st) sz [.ref (d_ 0), .ref (b 0), .int (iI f)]) (va_Qi (fun (r : Int32) (u : (Int → Int) × (Int → Int) × (Int → Int) × (Int → Int)) => r = iI (if (sem tk tg tl ln st f).1 = 4 then 1 else 0)) (fun (u : (Int → Int) × (Int → Int) × (Int → Int) × (Int → Int)) t => cB D (va_A (W_D_T_P cI cS d_ ya ye yw b a tk tg tl to ta te ts tr a cnt lv kd gd ln st) sz) (W_D_T_P cI cS d_ (ya + ((sem tk tg tl ln st f).2.1.length : Int)) (ye + (sem tk tg tl ln st f).2.2.1) yw b a tk tg tl u.1 u.2.1 u.2.2.1 u.2.2.2 tr a cnt lv kd gd ln st) t) (va_A (W_D_T_P cI cS d_ ya ye yw b a tk tg tl to ta te ts tr a cnt lv kd gd ln st) sz)) 0 0 (va_A (W_D_T_P cI cS d_ ya ye yw b a tk tg tl to ta te ts tr a cnt lv kd gd ln st) sz) := by
  refine Met.ofW (cc := cX0_lastsThroughRun) (maxL := 3) (ret := (some .boolean)) (by decide) rfl ?_
  intro p e s m args below meth c_ s₁ B hml hv
  obtain ⟨rfl, hsz, hP, hK, hD0⟩ := hv
  have hx := B.exec
  have hb := B.bytes
  have hr := B.returns
  have hts := atoms_spec (ws := wsX0_lastsThroughRun) B.pre
  have hown : s.vm.findClass RX0 = some m.cls := findClass_of_methodNamed B.named
  have hlocks := B.notSynchronized
  subst hsz
  have hD := hD0.self (sz := s.heap.size)
  generalize hAe : va_A (W_D_T_P cI cS d_ ya ye yw b a tk tg tl to ta te ts tr a cnt lv kd gd ln st) s.heap.size = A at hD ⊢
  have hA : ∀ q : Nat, s.heap.size ≤ q → A q := fun q h => by rw [← hAe]; exact Or.inr h
  have hS : va_S A s.heap s.heap [] := va_S.rf
  have hP : va_P D vwCl (W_D_T_P cI cS d_ ya ye yw b a tk tg tl to ta te ts tr a cnt lv kd gd ln st) s.heap := hP
  have hl := lv_entry ([.ref (d_ 0), .ref (b 0), .int (iI f)] : List Value) (n := 3) (Nat.le_of_ble_eq_true rfl)
  rw [lg_entry_eq]
  generalize (lg_sl ([.ref (d_ 0), .ref (b 0), .int (iI f)] : List Value) ++ List.replicate (3 - (lg_sl ([.ref (d_ 0), .ref (b 0), .int (iI f)] : List Value)).length) Slot.unset).toArray = ls at hl ⊢
  have hl : lv_has ls 3 [(0, .ref (d_ 0)), (1, .ref (b 0)), (2, .int (iI f))] := hl
  have fl_9 := hts (.fieldLink RX0 9 "ActRows$Day" "acts" "I") (by decide +kernel)
  have iw_0 : ∀ w ∈ wsX00, w ∈ wsX0_lastsThroughRun := by decide +kernel
  have fn_63 := va_Nw.use (A := ([.ref (d_ 0), .ref (b 0), .int (iI f)] : List Value).toArray) rfl (hK.2 ("ActRows$Day", 63, "ActRows$Trial", "actCounts", "[I") (List.mem_of_getElem? (i := 19) rfl))
  have iw_5 : ∀ w ∈ wsX50, w ∈ wsX0_lastsThroughRun := by decide +kernel
  have fl_15 := hts (.fieldLink RX0 15 "ActRows$Day" "ends" "I") (by decide +kernel)
  have fn_66 := va_Nw.use (A := ([.ref (d_ 0), .ref (b 0), .int (iI f)] : List Value).toArray) rfl (hK.2 ("ActRows$Day", 66, "ActRows$Trial", "endCounts", "[I") (List.mem_of_getElem? (i := 20) rfl))
  have fn_69 := va_Nw.use (A := ([.ref (d_ 0), .ref (b 0), .int (iI f)] : List Value).toArray) rfl (hK.2 ("ActRows$Day", 69, "ActRows$Trial", "outs", "[I") (List.mem_of_getElem? (i := 21) rfl))
  have hc := hok.1
  have hln := hok.2.1
  refine lv_aload_n hx hb dX0_lastsThroughRun_0 rfl (lv_at hl 1 rfl) ?_
  refine x_callVv (As := []) (rest := []) ⟨hx, hb, hml, hown, hts⟩ (c_X5_settleAll l D cI cS b a tk tg tl to ta te ts tr cnt lv kd gd ln st s.heap.size (by first | assumption | omega) (by first | assumption | omega)) (cwV 0 hts gX0_lastsThroughRun_X5_settleAll rfl rfl rfl (by decide +kernel) ⟨Nat.le_of_ble_eq_true rfl, Nat.le_of_ble_eq_true rfl⟩) hK hP hD hS hA [1, 2, 3, 4, 5, 6, 7, 8, 9, 10, 11, 12, 13] [0] (wr := [(d_ 0, .inr (0, [.int (iI ya), .int (iI ye), .int (iI yw)]))]) rfl rfl (by decide) (by decide) (by decide) 0 5 rfl rfl rfl [0, 1, 2, 3, 4, 5, 6, 7, 8, 9, 10, 11, 12, 13] (fun (u : (Int → Int) × (Int → Int) × (Int → Int) × (Int → Int)) => (W_D_T_P cI cS d_ ya ye yw b a tk tg tl u.1 u.2.1 u.2.2.1 u.2.2.2 tr a cnt lv kd gd ln st)) (fun _ => rfl) (by decide) rfl hl.1 rfl (Nat.le_of_ble_eq_true rfl) ⟨Nat.zero_le _, Nat.zero_le _⟩ dX0_lastsThroughRun_1 (fun u_ H locs hw hP hD hS => ?_)
  obtain ⟨to_1, ta_2, te_3, ts_4⟩ := u_
  try dsimp only at hw
  have hT2 := hw
  have hP : va_P D vwCl (W_D_T_P cI cS d_ ya ye yw b a tk tg tl to_1 ta_2 te_3 ts_4 tr a cnt lv kd gd ln st) H := hP
  have hD : va_D A (W_D_T_P cI cS d_ ya ye yw b a tk tg tl to_1 ta_2 te_3 ts_4 tr a cnt lv kd gd ln st) := hD
  have hO2 := hT2 f hf.1 hf.2
  have hO3 := (sem_ok (K := tk) (G := tg) (L := tl) hok f hf.1 hf.2).1
  refine lv_aload_n hx hb dX0_lastsThroughRun_4 rfl (lv_at hl 0 rfl) ?_
  refine lv_dup hx hb dX0_lastsThroughRun_5 rfl ?_
  refine va_get (D := D) (ci := 0) (v := .int (iI ya)) (C := RX0) (T := TX0) (N := 3) hx hb hts iw_0 hown hK.1 hP 0 rfl rfl 0 (by decide) fl_9 (fun _ h9 => h9) rfl dX0_lastsThroughRun_6 ?_
  refine lv_aload_n hx hb dX0_lastsThroughRun_9 rfl (lv_at hl 1 rfl) ?_
  refine va_getN (D := D) (ci := 5) (v := .ref (b 4)) (C := RX5) (T := TX5) (N := 9) hx hb hts iw_5 hown hK.1 hP 1 rfl rfl 5 (by decide) fn_63 (fun _ h9 => h9) rfl dX0_lastsThroughRun_10 ?_
  refine lv_iload_n hx hb dX0_lastsThroughRun_13 rfl (lv_at hl 2 rfl) ?_
  refine n_iald (n := 5) hx hb hK.1 hP 5 0 rfl rfl (by omega) (by decide) dX0_lastsThroughRun_14 ?_
  refine n_iadd hx hb dX0_lastsThroughRun_15 ?_
  refine va_put (D := D) (ci := 0) (v := .int (iI (ya + (ta_2 f)))) (ty := .int) (C := RX0) (T := TX0) (N := 3) hx hb hts iw_0 tyX0 tyX0_ok nmX0 hown hK.1 hP hD hS 0 rfl rfl 0 (by decide) fl_9 (fun _ h9 => h9) rfl (by decide +kernel) rfl rfl (Nat.le_of_ble_eq_true rfl) dX0_lastsThroughRun_16 (fun H locs hP hD hS => ?_)
  have hP : va_P D vwCl (W_D_T_P cI cS d_ (ya + (ta_2 f)) ye yw b a tk tg tl to_1 ta_2 te_3 ts_4 tr a cnt lv kd gd ln st) H := hP
  have hD : va_D A (W_D_T_P cI cS d_ (ya + (ta_2 f)) ye yw b a tk tg tl to_1 ta_2 te_3 ts_4 tr a cnt lv kd gd ln st) := hD
  refine lv_aload_n hx hb dX0_lastsThroughRun_19 rfl (lv_at hl 0 rfl) ?_
  refine lv_dup hx hb dX0_lastsThroughRun_20 rfl ?_
  refine va_get (D := D) (ci := 0) (v := .int (iI ye)) (C := RX0) (T := TX0) (N := 3) hx hb hts iw_0 hown hK.1 hP 0 rfl rfl 1 (by decide) fl_15 (fun _ h9 => h9) rfl dX0_lastsThroughRun_21 ?_
  refine lv_aload_n hx hb dX0_lastsThroughRun_24 rfl (lv_at hl 1 rfl) ?_
  refine va_getN (D := D) (ci := 5) (v := .ref (b 5)) (C := RX5) (T := TX5) (N := 9) hx hb hts iw_5 hown hK.1 hP 1 rfl rfl 6 (by decide) fn_66 (fun _ h9 => h9) rfl dX0_lastsThroughRun_25 ?_
  refine lv_iload_n hx hb dX0_lastsThroughRun_28 rfl (lv_at hl 2 rfl) ?_
  refine n_iald (n := 5) hx hb hK.1 hP 6 0 rfl rfl (by omega) (by decide) dX0_lastsThroughRun_29 ?_
  refine n_iadd hx hb dX0_lastsThroughRun_30 ?_
  refine va_put (D := D) (ci := 0) (v := .int (iI (ye + (te_3 f)))) (ty := .int) (C := RX0) (T := TX0) (N := 3) hx hb hts iw_0 tyX0 tyX0_ok nmX0 hown hK.1 hP hD hS 0 rfl rfl 1 (by decide) fl_15 (fun _ h9 => h9) rfl (by decide +kernel) rfl rfl (Nat.le_of_ble_eq_true rfl) dX0_lastsThroughRun_31 (fun H locs hP hD hS => ?_)
  have hP : va_P D vwCl (W_D_T_P cI cS d_ (ya + (ta_2 f)) (ye + (te_3 f)) yw b a tk tg tl to_1 ta_2 te_3 ts_4 tr a cnt lv kd gd ln st) H := hP
  have hD : va_D A (W_D_T_P cI cS d_ (ya + (ta_2 f)) (ye + (te_3 f)) yw b a tk tg tl to_1 ta_2 te_3 ts_4 tr a cnt lv kd gd ln st) := hD
  refine lv_aload_n hx hb dX0_lastsThroughRun_34 rfl (lv_at hl 1 rfl) ?_
  refine va_getN (D := D) (ci := 5) (v := .ref (b 3)) (C := RX5) (T := TX5) (N := 9) hx hb hts iw_5 hown hK.1 hP 1 rfl rfl 4 (by decide) fn_69 (fun _ h9 => h9) rfl dX0_lastsThroughRun_35 ?_
  refine lv_iload_n hx hb dX0_lastsThroughRun_38 rfl (lv_at hl 2 rfl) ?_
  refine n_iald (n := 5) hx hb hK.1 hP 4 0 rfl rfl (by omega) (by decide) dX0_lastsThroughRun_39 ?_
  refine lv_iconst (v := iI 4) hx hb dX0_lastsThroughRun_40 (by decide +kernel) ?_
  refine n_icmp_ne (tgt := 48) hx hb dX0_lastsThroughRun_41 (by decide) (by omega) (fun c_5 => ?_) (fun c_5 => ?_)
  ·
    refine lv_iconst (v := iI 0) hx hb dX0_lastsThroughRun_48 (by decide +kernel) ?_
    have e_6 : ((ya + (ta_2 f)) : Int) = (ya + ((sem tk tg tl ln st f).2.1.length : Int)) := (by rw [hO2.2.1])
    have hP : va_P D vwCl (W_D_T_P cI cS d_ (ya + ((sem tk tg tl ln st f).2.1.length : Int)) (ye + (te_3 f)) yw b a tk tg tl to_1 ta_2 te_3 ts_4 tr a cnt lv kd gd ln st) H := Eq.mp (congrArg (fun z_ => va_P D vwCl (W_D_T_P cI cS d_ z_ (ye + (te_3 f)) yw b a tk tg tl to_1 ta_2 te_3 ts_4 tr a cnt lv kd gd ln st) H) e_6) hP
    have hD : va_D A (W_D_T_P cI cS d_ (ya + ((sem tk tg tl ln st f).2.1.length : Int)) (ye + (te_3 f)) yw b a tk tg tl to_1 ta_2 te_3 ts_4 tr a cnt lv kd gd ln st) := Eq.mp (congrArg (fun z_ => va_D A (W_D_T_P cI cS d_ z_ (ye + (te_3 f)) yw b a tk tg tl to_1 ta_2 te_3 ts_4 tr a cnt lv kd gd ln st)) e_6) hD
    have e_7 : ((ye + (te_3 f)) : Int) = (ye + (sem tk tg tl ln st f).2.2.1) := (by rw [hO2.2.2.1])
    have hP : va_P D vwCl (W_D_T_P cI cS d_ (ya + ((sem tk tg tl ln st f).2.1.length : Int)) (ye + (sem tk tg tl ln st f).2.2.1) yw b a tk tg tl to_1 ta_2 te_3 ts_4 tr a cnt lv kd gd ln st) H := Eq.mp (congrArg (fun z_ => va_P D vwCl (W_D_T_P cI cS d_ (ya + ((sem tk tg tl ln st f).2.1.length : Int)) z_ yw b a tk tg tl to_1 ta_2 te_3 ts_4 tr a cnt lv kd gd ln st) H) e_7) hP
    have hD : va_D A (W_D_T_P cI cS d_ (ya + ((sem tk tg tl ln st f).2.1.length : Int)) (ye + (sem tk tg tl ln st f).2.2.1) yw b a tk tg tl to_1 ta_2 te_3 ts_4 tr a cnt lv kd gd ln st) := Eq.mp (congrArg (fun z_ => va_D A (W_D_T_P cI cS d_ (ya + ((sem tk tg tl ln st f).2.1.length : Int)) z_ yw b a tk tg tl to_1 ta_2 te_3 ts_4 tr a cnt lv kd gd ln st)) e_7) hD
    exact W.zret (v := iI 0) (ty := .boolean) hx hb hr (by decide +kernel) (fun t ht hW => ⟨⟨_, (to_1, ta_2, te_3, ts_4), rfl, congrArg iI (show 0 = (if (sem tk tg tl ln st f).1 = 4 then 1 else 0) from (by omega)), by rw [ht]; exact hP, hD⟩, hS.F ht⟩) hS.2.2 dX0_lastsThroughRun_49
  ·
    refine lv_iconst (v := iI 1) hx hb dX0_lastsThroughRun_44 (by decide +kernel) ?_
    refine lv_goto (tgt := 49) hx hb dX0_lastsThroughRun_45 (by decide) ?_
    have e_8 : ((ya + (ta_2 f)) : Int) = (ya + ((sem tk tg tl ln st f).2.1.length : Int)) := (by rw [hO2.2.1])
    have hP : va_P D vwCl (W_D_T_P cI cS d_ (ya + ((sem tk tg tl ln st f).2.1.length : Int)) (ye + (te_3 f)) yw b a tk tg tl to_1 ta_2 te_3 ts_4 tr a cnt lv kd gd ln st) H := Eq.mp (congrArg (fun z_ => va_P D vwCl (W_D_T_P cI cS d_ z_ (ye + (te_3 f)) yw b a tk tg tl to_1 ta_2 te_3 ts_4 tr a cnt lv kd gd ln st) H) e_8) hP
    have hD : va_D A (W_D_T_P cI cS d_ (ya + ((sem tk tg tl ln st f).2.1.length : Int)) (ye + (te_3 f)) yw b a tk tg tl to_1 ta_2 te_3 ts_4 tr a cnt lv kd gd ln st) := Eq.mp (congrArg (fun z_ => va_D A (W_D_T_P cI cS d_ z_ (ye + (te_3 f)) yw b a tk tg tl to_1 ta_2 te_3 ts_4 tr a cnt lv kd gd ln st)) e_8) hD
    have e_9 : ((ye + (te_3 f)) : Int) = (ye + (sem tk tg tl ln st f).2.2.1) := (by rw [hO2.2.2.1])
    have hP : va_P D vwCl (W_D_T_P cI cS d_ (ya + ((sem tk tg tl ln st f).2.1.length : Int)) (ye + (sem tk tg tl ln st f).2.2.1) yw b a tk tg tl to_1 ta_2 te_3 ts_4 tr a cnt lv kd gd ln st) H := Eq.mp (congrArg (fun z_ => va_P D vwCl (W_D_T_P cI cS d_ (ya + ((sem tk tg tl ln st f).2.1.length : Int)) z_ yw b a tk tg tl to_1 ta_2 te_3 ts_4 tr a cnt lv kd gd ln st) H) e_9) hP
    have hD : va_D A (W_D_T_P cI cS d_ (ya + ((sem tk tg tl ln st f).2.1.length : Int)) (ye + (sem tk tg tl ln st f).2.2.1) yw b a tk tg tl to_1 ta_2 te_3 ts_4 tr a cnt lv kd gd ln st) := Eq.mp (congrArg (fun z_ => va_D A (W_D_T_P cI cS d_ (ya + ((sem tk tg tl ln st f).2.1.length : Int)) z_ yw b a tk tg tl to_1 ta_2 te_3 ts_4 tr a cnt lv kd gd ln st)) e_9) hD
    exact W.zret (v := iI 1) (ty := .boolean) hx hb hr (by decide +kernel) (fun t ht hW => ⟨⟨_, (to_1, ta_2, te_3, ts_4), rfl, congrArg iI (show 1 = (if (sem tk tg tl ln st f).1 = 4 then 1 else 0) from (by omega)), by rw [ht]; exact hP, hD⟩, hS.F ht⟩) hS.2.2 dX0_lastsThroughRun_49
set_option maxHeartbeats 4000000 in
set_option maxRecDepth 100000 in
theorem c_X0_comesRight (l : Launch) (D : va_G) (cI cS : ClassId) (d_ : Nat → Nat) (b : Nat → Nat) (a : Nat → Nat) (ya : Int) (ye : Int) (yw : Int) (tk : Int → Int) (tg : Int → Int) (tl : Int) (to : Int → Int) (ta : Int → Int) (te : Int → Int) (ts : Int → Int) (tr : Int → Int) (cnt : Int) (lv : Int) (kd : Int → Int) (gd : Int → Int) (ln : Int → Int) (st : Int → Int) (sz : Nat) (x : Int) (y : Int) (hok : okP cnt ln st) (hkk : okK cnt tk tg tl) (htl : tld x y = true) : Met l yX0_comesRight wsX0_comesRight ({ frames := 6, cells := 0, slots := 0, locals := 132 }) (cP D cI cS (W_D_T_P cI cS d_ ya ye yw b a tk tg tl to ta te ts tr a cnt lv kd gd ln st) sz [.ref (d_ 0), .ref (b 0), .int (iI x), .int (iI y)]) (va_Qi (fun (r : Int32) (u : (Int → Int) × (Int → Int) × (Int → Int) × (Int → Int)) => r = iI (if dOkB cnt (sem tk tg tl ln st) y = true then 1 else 0)) (fun (u : (Int → Int) × (Int → Int) × (Int → Int) × (Int → Int)) t => cB D (va_A (W_D_T_P cI cS d_ ya ye yw b a tk tg tl to ta te ts tr a cnt lv kd gd ln st) sz) (W_D_T_P cI cS d_ (dA cnt (sem tk tg tl ln st) ya y) (dE cnt (sem tk tg tl ln st) ye y) yw b a tk (dG cnt tg x y) (dL tl x y) u.1 u.2.1 u.2.2.1 u.2.2.2 tr a cnt lv kd gd ln st) t) (va_A (W_D_T_P cI cS d_ ya ye yw b a tk tg tl to ta te ts tr a cnt lv kd gd ln st) sz)) 0 0 (va_A (W_D_T_P cI cS d_ ya ye yw b a tk tg tl to ta te ts tr a cnt lv kd gd ln st) sz) := by
  refine Met.ofW (cc := cX0_comesRight) (maxL := 5) (ret := (some .boolean)) (by decide) rfl ?_
  intro p e s m args below meth c_ s₁ B hml hv
  obtain ⟨rfl, hsz, hP, hK, hD0⟩ := hv
  have hx := B.exec
  have hb := B.bytes
  have hr := B.returns
  have hts := atoms_spec (ws := wsX0_comesRight) B.pre
  have hown : s.vm.findClass RX0 = some m.cls := findClass_of_methodNamed B.named
  have hlocks := B.notSynchronized
  subst hsz
  have hD := hD0.self (sz := s.heap.size)
  generalize hAe : va_A (W_D_T_P cI cS d_ ya ye yw b a tk tg tl to ta te ts tr a cnt lv kd gd ln st) s.heap.size = A at hD ⊢
  have hA : ∀ q : Nat, s.heap.size ≤ q → A q := fun q h => by rw [← hAe]; exact Or.inr h
  have hS : va_S A s.heap s.heap [] := va_S.rf
  have hP : va_P D vwCl (W_D_T_P cI cS d_ ya ye yw b a tk tg tl to ta te ts tr a cnt lv kd gd ln st) s.heap := hP
  have hl := lv_entry ([.ref (d_ 0), .ref (b 0), .int (iI x), .int (iI y)] : List Value) (n := 5) (Nat.le_of_ble_eq_true rfl)
  rw [lg_entry_eq]
  generalize (lg_sl ([.ref (d_ 0), .ref (b 0), .int (iI x), .int (iI y)] : List Value) ++ List.replicate (5 - (lg_sl ([.ref (d_ 0), .ref (b 0), .int (iI x), .int (iI y)] : List Value)).length) Slot.unset).toArray = ls at hl ⊢
  have hl : lv_has ls 5 [(0, .ref (d_ 0)), (1, .ref (b 0)), (2, .int (iI x)), (3, .int (iI y))] := hl
  have fn_42 := va_Nw.use (A := ([.ref (d_ 0), .ref (b 0), .int (iI x), .int (iI y)] : List Value).toArray) rfl (hK.2 ("ActRows$Day", 42, "ActRows$Trial", "program", "LActRows$Program;") (List.mem_of_getElem? (i := 17) rfl))
  have iw_5 : ∀ w ∈ wsX50, w ∈ wsX0_comesRight := by decide +kernel
  have fn_56 := va_Nw.use (A := ([.ref (d_ 0), .ref (b 0), .int (iI x), .int (iI y)] : List Value).toArray) rfl (hK.2 ("ActRows$Day", 56, "ActRows$Trial", "guarded", "[I") (List.mem_of_getElem? (i := 18) rfl))
  have fn_39 := va_Nw.use (A := ([.ref (d_ 0), .ref (b 0), .int (iI x), .int (iI y)] : List Value).toArray) rfl (hK.2 ("ActRows$Day", 39, "ActRows$Trial", "live", "I") (List.mem_of_getElem? (i := 16) rfl))
  have hc := hok.1
  have hln := hok.2.1
  have hts_ := tld_sp htl
  have hxr : -2147483648 ≤ x ∧ x < 2147483648 := by omega
  refine lv_iload_n hx hb dX0_comesRight_0 rfl (lv_at hl 3 rfl) ?_
  refine lv_iconst (v := iI 5) hx hb dX0_comesRight_1 (by decide +kernel) ?_
  refine n_icmp_ne (tgt := 12) hx hb dX0_comesRight_2 (by decide) (by omega) (fun c_1 => ?_) (fun c_1 => ?_)
  ·
    refine lv_iload_n hx hb dX0_comesRight_12 rfl (lv_at hl 3 rfl) ?_
    refine lv_iconst (v := iI 5) hx hb dX0_comesRight_13 (by decide +kernel) ?_
    refine n_icmp_ge (tgt := 43) hx hb dX0_comesRight_14 (by decide) (by omega) (fun c_2 => ?_) (fun c_2 => ?_)
    ·
      refine lv_iload_n hx hb dX0_comesRight_43 rfl (lv_at hl 3 rfl) ?_
      refine lv_bipush (v := iI 6) hx hb dX0_comesRight_44 (by decide +kernel) ?_
      refine n_isub hx hb dX0_comesRight_46 ?_
      refine lv_istore (lv' := [(4, .int (iI (y - 6))), (0, .ref (d_ 0)), (1, .ref (b 0)), (2, .int (iI x)), (3, .int (iI y))]) hx hb dX0_comesRight_47 hl (by decide) rfl (fun ls hl => ?_)
      refine lv_aload_n hx hb dX0_comesRight_49 rfl (lv_at hl 2 rfl) ?_
      refine va_getN (D := D) (ci := 5) (v := .ref (a 0)) (C := RX5) (T := TX5) (N := 9) hx hb hts iw_5 hown hK.1 hP 1 rfl rfl 0 (by decide) fn_42 (fun _ h9 => h9) rfl dX0_comesRight_50 ?_
      refine lv_iload hx hb dX0_comesRight_53 (lv_at hl 0 rfl) ?_
      refine x_callVi (As := [.int (iI (y - 6))]) (rest := []) ⟨hx, hb, hml, hown, hts⟩ (c_X1_has l D cI cS a cnt lv kd gd ln st s.heap.size (y - 6) (by first | assumption | omega) (by first | assumption | omega)) (cwV 1 hts gX0_comesRight_X1_has rfl rfl rfl (by decide +kernel) ⟨Nat.le_of_ble_eq_true rfl, Nat.le_of_ble_eq_true rfl⟩) hK hP hD hS hA [9, 10, 11, 12, 13] [0, 1, 2, 3, 4, 5, 6, 7, 8] (wr := [(d_ 0, .inr (0, [.int (iI ya), .int (iI ye), .int (iI yw)])), (b 0, .inr (5, [.ref (a 0), .ref (b 1), .ref (b 2), .int (iI tl), .ref (b 3), .ref (b 4), .ref (b 5), .ref (b 6), .ref (b 7)])), (b 1, .inl (cI, 5, .inl (aI tk))), (b 2, .inl (cI, 5, .inl (aI tg))), (b 3, .inl (cI, 5, .inl (aI to))), (b 4, .inl (cI, 5, .inl (aI ta))), (b 5, .inl (cI, 5, .inl (aI te))), (b 6, .inl (cI, 5, .inl (aI ts))), (b 7, .inl (cI, 5, .inl (aI tr)))]) rfl rfl (by decide) (by decide) (by decide) 0 1 rfl rfl rfl [0, 1, 2, 3, 4, 5, 6, 7, 8, 9, 10, 11, 12, 13] (fun (u : Unit) => (W_D_T_P cI cS d_ ya ye yw b a tk tg tl to ta te ts tr a cnt lv kd gd ln st)) (fun _ => rfl) (by decide) rfl hl.1 rfl (Nat.le_of_ble_eq_true rfl) ⟨Nat.zero_le _, Nat.zero_le _⟩ dX0_comesRight_55 (fun r_ u_ H locs hw hP hD hS => ?_)
      try dsimp only at hw
      subst hw
      have hP : va_P D vwCl (W_D_T_P cI cS d_ ya ye yw b a tk tg tl to ta te ts tr a cnt lv kd gd ln st) H := hP
      have hD : va_D A (W_D_T_P cI cS d_ ya ye yw b a tk tg tl to ta te ts tr a cnt lv kd gd ln st) := hD
      refine n_if_b2 (tgt := 63) hx hb dX0_comesRight_58 (by decide)  (fun c_3 => ?_) (fun c_3 => ?_)
      ·
        refine lv_aload_n hx hb dX0_comesRight_63 rfl (lv_at hl 2 rfl) ?_
        refine va_getN (D := D) (ci := 5) (v := .ref (b 2)) (C := RX5) (T := TX5) (N := 9) hx hb hts iw_5 hown hK.1 hP 1 rfl rfl 2 (by decide) fn_56 (fun _ h9 => h9) rfl dX0_comesRight_64 ?_
        refine lv_iload hx hb dX0_comesRight_67 (lv_at hl 0 rfl) ?_
        refine lv_iload_n hx hb dX0_comesRight_69 rfl (lv_at hl 3 rfl) ?_
        refine n_iast (n := 5) hx hb hK.1 hP hD hS 3 0 rfl rfl (by omega) (by decide) dX0_comesRight_70 (fun H locs hP hD hS => ?_)
        have hP : va_P D vwCl (W_D_T_P cI cS d_ ya ye yw b a tk (updI tg (y - 6) x) tl to ta te ts tr a cnt lv kd gd ln st) H := hP
        have hD : va_D A (W_D_T_P cI cS d_ ya ye yw b a tk (updI tg (y - 6) x) tl to ta te ts tr a cnt lv kd gd ln st) := hD
        refine lv_iconst (v := iI 1) hx hb dX0_comesRight_71 (by decide +kernel) ?_
        have e_4 : (ya : Int) = (dA cnt (sem tk tg tl ln st) ya y) := (by unfold dA; first | (rw [if_pos (by omega)]; done) | (rw [if_neg (by omega)]; done))
        have hP : va_P D vwCl (W_D_T_P cI cS d_ (dA cnt (sem tk tg tl ln st) ya y) ye yw b a tk (updI tg (y - 6) x) tl to ta te ts tr a cnt lv kd gd ln st) H := Eq.mp (congrArg (fun z_ => va_P D vwCl (W_D_T_P cI cS d_ z_ ye yw b a tk (updI tg (y - 6) x) tl to ta te ts tr a cnt lv kd gd ln st) H) e_4) hP
        have hD : va_D A (W_D_T_P cI cS d_ (dA cnt (sem tk tg tl ln st) ya y) ye yw b a tk (updI tg (y - 6) x) tl to ta te ts tr a cnt lv kd gd ln st) := Eq.mp (congrArg (fun z_ => va_D A (W_D_T_P cI cS d_ z_ ye yw b a tk (updI tg (y - 6) x) tl to ta te ts tr a cnt lv kd gd ln st)) e_4) hD
        have e_5 : (ye : Int) = (dE cnt (sem tk tg tl ln st) ye y) := (by unfold dE; first | (rw [if_pos (by omega)]; done) | (rw [if_neg (by omega)]; done))
        have hP : va_P D vwCl (W_D_T_P cI cS d_ (dA cnt (sem tk tg tl ln st) ya y) (dE cnt (sem tk tg tl ln st) ye y) yw b a tk (updI tg (y - 6) x) tl to ta te ts tr a cnt lv kd gd ln st) H := Eq.mp (congrArg (fun z_ => va_P D vwCl (W_D_T_P cI cS d_ (dA cnt (sem tk tg tl ln st) ya y) z_ yw b a tk (updI tg (y - 6) x) tl to ta te ts tr a cnt lv kd gd ln st) H) e_5) hP
        have hD : va_D A (W_D_T_P cI cS d_ (dA cnt (sem tk tg tl ln st) ya y) (dE cnt (sem tk tg tl ln st) ye y) yw b a tk (updI tg (y - 6) x) tl to ta te ts tr a cnt lv kd gd ln st) := Eq.mp (congrArg (fun z_ => va_D A (W_D_T_P cI cS d_ (dA cnt (sem tk tg tl ln st) ya y) z_ yw b a tk (updI tg (y - 6) x) tl to ta te ts tr a cnt lv kd gd ln st)) e_5) hD
        have e_6 : (tl : Int) = (dL tl x y) := (by unfold dL; first | (rw [if_pos (by omega)]; done) | (rw [if_neg (by omega)]; done))
        have hP : va_P D vwCl (W_D_T_P cI cS d_ (dA cnt (sem tk tg tl ln st) ya y) (dE cnt (sem tk tg tl ln st) ye y) yw b a tk (updI tg (y - 6) x) (dL tl x y) to ta te ts tr a cnt lv kd gd ln st) H := Eq.mp (congrArg (fun z_ => va_P D vwCl (W_D_T_P cI cS d_ (dA cnt (sem tk tg tl ln st) ya y) (dE cnt (sem tk tg tl ln st) ye y) yw b a tk (updI tg (y - 6) x) z_ to ta te ts tr a cnt lv kd gd ln st) H) e_6) hP
        have hD : va_D A (W_D_T_P cI cS d_ (dA cnt (sem tk tg tl ln st) ya y) (dE cnt (sem tk tg tl ln st) ye y) yw b a tk (updI tg (y - 6) x) (dL tl x y) to ta te ts tr a cnt lv kd gd ln st) := Eq.mp (congrArg (fun z_ => va_D A (W_D_T_P cI cS d_ (dA cnt (sem tk tg tl ln st) ya y) (dE cnt (sem tk tg tl ln st) ye y) yw b a tk (updI tg (y - 6) x) z_ to ta te ts tr a cnt lv kd gd ln st)) e_6) hD
        have e_7 : ((updI tg (y - 6) x) : Int → Int) = (dG cnt tg x y) := (by unfold dG; first | (rw [if_pos (by omega)]; done) | (rw [if_neg (by omega)]; done))
        have hP : va_P D vwCl (W_D_T_P cI cS d_ (dA cnt (sem tk tg tl ln st) ya y) (dE cnt (sem tk tg tl ln st) ye y) yw b a tk (dG cnt tg x y) (dL tl x y) to ta te ts tr a cnt lv kd gd ln st) H := Eq.mp (congrArg (fun z_ => va_P D vwCl (W_D_T_P cI cS d_ (dA cnt (sem tk tg tl ln st) ya y) (dE cnt (sem tk tg tl ln st) ye y) yw b a tk z_ (dL tl x y) to ta te ts tr a cnt lv kd gd ln st) H) e_7) hP
        have hD : va_D A (W_D_T_P cI cS d_ (dA cnt (sem tk tg tl ln st) ya y) (dE cnt (sem tk tg tl ln st) ye y) yw b a tk (dG cnt tg x y) (dL tl x y) to ta te ts tr a cnt lv kd gd ln st) := Eq.mp (congrArg (fun z_ => va_D A (W_D_T_P cI cS d_ (dA cnt (sem tk tg tl ln st) ya y) (dE cnt (sem tk tg tl ln st) ye y) yw b a tk z_ (dL tl x y) to ta te ts tr a cnt lv kd gd ln st)) e_7) hD
        exact W.zret (v := iI 1) (ty := .boolean) hx hb hr (by decide +kernel) (fun t ht hW => ⟨⟨_, (to, ta, te, ts), rfl, congrArg iI (show 1 = (if dOkB cnt (sem tk tg tl ln st) y = true then 1 else 0) from (by unfold dOkB; first | (rw [if_pos (decide_eq_true (by omega))]; done) | (rw [if_neg (by rw [decide_eq_false (by omega)]; decide)]; done))), by rw [ht]; exact hP, hD⟩, hS.F ht⟩) hS.2.2 dX0_comesRight_72
      ·
        refine lv_iconst (v := iI 0) hx hb dX0_comesRight_61 (by decide +kernel) ?_
        have e_8 : (ya : Int) = (dA cnt (sem tk tg tl ln st) ya y) := (by unfold dA; first | (rw [if_pos (by omega)]; done) | (rw [if_neg (by omega)]; done))
        have hP : va_P D vwCl (W_D_T_P cI cS d_ (dA cnt (sem tk tg tl ln st) ya y) ye yw b a tk tg tl to ta te ts tr a cnt lv kd gd ln st) H := Eq.mp (congrArg (fun z_ => va_P D vwCl (W_D_T_P cI cS d_ z_ ye yw b a tk tg tl to ta te ts tr a cnt lv kd gd ln st) H) e_8) hP
        have hD : va_D A (W_D_T_P cI cS d_ (dA cnt (sem tk tg tl ln st) ya y) ye yw b a tk tg tl to ta te ts tr a cnt lv kd gd ln st) := Eq.mp (congrArg (fun z_ => va_D A (W_D_T_P cI cS d_ z_ ye yw b a tk tg tl to ta te ts tr a cnt lv kd gd ln st)) e_8) hD
        have e_9 : (ye : Int) = (dE cnt (sem tk tg tl ln st) ye y) := (by unfold dE; first | (rw [if_pos (by omega)]; done) | (rw [if_neg (by omega)]; done))
        have hP : va_P D vwCl (W_D_T_P cI cS d_ (dA cnt (sem tk tg tl ln st) ya y) (dE cnt (sem tk tg tl ln st) ye y) yw b a tk tg tl to ta te ts tr a cnt lv kd gd ln st) H := Eq.mp (congrArg (fun z_ => va_P D vwCl (W_D_T_P cI cS d_ (dA cnt (sem tk tg tl ln st) ya y) z_ yw b a tk tg tl to ta te ts tr a cnt lv kd gd ln st) H) e_9) hP
        have hD : va_D A (W_D_T_P cI cS d_ (dA cnt (sem tk tg tl ln st) ya y) (dE cnt (sem tk tg tl ln st) ye y) yw b a tk tg tl to ta te ts tr a cnt lv kd gd ln st) := Eq.mp (congrArg (fun z_ => va_D A (W_D_T_P cI cS d_ (dA cnt (sem tk tg tl ln st) ya y) z_ yw b a tk tg tl to ta te ts tr a cnt lv kd gd ln st)) e_9) hD
        have e_10 : (tl : Int) = (dL tl x y) := (by unfold dL; first | (rw [if_pos (by omega)]; done) | (rw [if_neg (by omega)]; done))
        have hP : va_P D vwCl (W_D_T_P cI cS d_ (dA cnt (sem tk tg tl ln st) ya y) (dE cnt (sem tk tg tl ln st) ye y) yw b a tk tg (dL tl x y) to ta te ts tr a cnt lv kd gd ln st) H := Eq.mp (congrArg (fun z_ => va_P D vwCl (W_D_T_P cI cS d_ (dA cnt (sem tk tg tl ln st) ya y) (dE cnt (sem tk tg tl ln st) ye y) yw b a tk tg z_ to ta te ts tr a cnt lv kd gd ln st) H) e_10) hP
        have hD : va_D A (W_D_T_P cI cS d_ (dA cnt (sem tk tg tl ln st) ya y) (dE cnt (sem tk tg tl ln st) ye y) yw b a tk tg (dL tl x y) to ta te ts tr a cnt lv kd gd ln st) := Eq.mp (congrArg (fun z_ => va_D A (W_D_T_P cI cS d_ (dA cnt (sem tk tg tl ln st) ya y) (dE cnt (sem tk tg tl ln st) ye y) yw b a tk tg z_ to ta te ts tr a cnt lv kd gd ln st)) e_10) hD
        have e_11 : (tg : Int → Int) = (dG cnt tg x y) := (by unfold dG; first | (rw [if_pos (by omega)]; done) | (rw [if_neg (by omega)]; done))
        have hP : va_P D vwCl (W_D_T_P cI cS d_ (dA cnt (sem tk tg tl ln st) ya y) (dE cnt (sem tk tg tl ln st) ye y) yw b a tk (dG cnt tg x y) (dL tl x y) to ta te ts tr a cnt lv kd gd ln st) H := Eq.mp (congrArg (fun z_ => va_P D vwCl (W_D_T_P cI cS d_ (dA cnt (sem tk tg tl ln st) ya y) (dE cnt (sem tk tg tl ln st) ye y) yw b a tk z_ (dL tl x y) to ta te ts tr a cnt lv kd gd ln st) H) e_11) hP
        have hD : va_D A (W_D_T_P cI cS d_ (dA cnt (sem tk tg tl ln st) ya y) (dE cnt (sem tk tg tl ln st) ye y) yw b a tk (dG cnt tg x y) (dL tl x y) to ta te ts tr a cnt lv kd gd ln st) := Eq.mp (congrArg (fun z_ => va_D A (W_D_T_P cI cS d_ (dA cnt (sem tk tg tl ln st) ya y) (dE cnt (sem tk tg tl ln st) ye y) yw b a tk z_ (dL tl x y) to ta te ts tr a cnt lv kd gd ln st)) e_11) hD
        exact W.zret (v := iI 0) (ty := .boolean) hx hb hr (by decide +kernel) (fun t ht hW => ⟨⟨_, (to, ta, te, ts), rfl, congrArg iI (show 0 = (if dOkB cnt (sem tk tg tl ln st) y = true then 1 else 0) from (by unfold dOkB; first | (rw [if_pos (decide_eq_true (by omega))]; done) | (rw [if_neg (by rw [decide_eq_false (by omega)]; decide)]; done))), by rw [ht]; exact hP, hD⟩, hS.F ht⟩) hS.2.2 dX0_comesRight_62
    ·
      refine lv_aload_n hx hb dX0_comesRight_17 rfl (lv_at hl 1 rfl) ?_
      refine va_getN (D := D) (ci := 5) (v := .ref (a 0)) (C := RX5) (T := TX5) (N := 9) hx hb hts iw_5 hown hK.1 hP 1 rfl rfl 0 (by decide) fn_42 (fun _ h9 => h9) rfl dX0_comesRight_18 ?_
      refine lv_iload_n hx hb dX0_comesRight_21 rfl (lv_at hl 3 rfl) ?_
      refine x_callVi (As := [.int (iI y)]) (rest := []) ⟨hx, hb, hml, hown, hts⟩ (c_X1_has l D cI cS a cnt lv kd gd ln st s.heap.size y (by first | assumption | omega) (by first | assumption | omega)) (cwV 1 hts gX0_comesRight_X1_has rfl rfl rfl (by decide +kernel) ⟨Nat.le_of_ble_eq_true rfl, Nat.le_of_ble_eq_true rfl⟩) hK hP hD hS hA [9, 10, 11, 12, 13] [0, 1, 2, 3, 4, 5, 6, 7, 8] (wr := [(d_ 0, .inr (0, [.int (iI ya), .int (iI ye), .int (iI yw)])), (b 0, .inr (5, [.ref (a 0), .ref (b 1), .ref (b 2), .int (iI tl), .ref (b 3), .ref (b 4), .ref (b 5), .ref (b 6), .ref (b 7)])), (b 1, .inl (cI, 5, .inl (aI tk))), (b 2, .inl (cI, 5, .inl (aI tg))), (b 3, .inl (cI, 5, .inl (aI to))), (b 4, .inl (cI, 5, .inl (aI ta))), (b 5, .inl (cI, 5, .inl (aI te))), (b 6, .inl (cI, 5, .inl (aI ts))), (b 7, .inl (cI, 5, .inl (aI tr)))]) rfl rfl (by decide) (by decide) (by decide) 0 1 rfl rfl rfl [0, 1, 2, 3, 4, 5, 6, 7, 8, 9, 10, 11, 12, 13] (fun (u : Unit) => (W_D_T_P cI cS d_ ya ye yw b a tk tg tl to ta te ts tr a cnt lv kd gd ln st)) (fun _ => rfl) (by decide) rfl hl.1 rfl (Nat.le_of_ble_eq_true rfl) ⟨Nat.zero_le _, Nat.zero_le _⟩ dX0_comesRight_22 (fun r_ u_ H locs hw hP hD hS => ?_)
      try dsimp only at hw
      subst hw
      have hP : va_P D vwCl (W_D_T_P cI cS d_ ya ye yw b a tk tg tl to ta te ts tr a cnt lv kd gd ln st) H := hP
      have hD : va_D A (W_D_T_P cI cS d_ ya ye yw b a tk tg tl to ta te ts tr a cnt lv kd gd ln st) := hD
      refine n_if_b1 (tgt := 41) hx hb dX0_comesRight_25 (by decide)  (fun c_12 => ?_) (fun c_12 => ?_)
      ·
        refine lv_iconst (v := iI 0) hx hb dX0_comesRight_41 (by decide +kernel) ?_
        have e_13 : (ya : Int) = (dA cnt (sem tk tg tl ln st) ya y) := (by unfold dA; first | (rw [if_pos (by omega)]; done) | (rw [if_neg (by omega)]; done))
        have hP : va_P D vwCl (W_D_T_P cI cS d_ (dA cnt (sem tk tg tl ln st) ya y) ye yw b a tk tg tl to ta te ts tr a cnt lv kd gd ln st) H := Eq.mp (congrArg (fun z_ => va_P D vwCl (W_D_T_P cI cS d_ z_ ye yw b a tk tg tl to ta te ts tr a cnt lv kd gd ln st) H) e_13) hP
        have hD : va_D A (W_D_T_P cI cS d_ (dA cnt (sem tk tg tl ln st) ya y) ye yw b a tk tg tl to ta te ts tr a cnt lv kd gd ln st) := Eq.mp (congrArg (fun z_ => va_D A (W_D_T_P cI cS d_ z_ ye yw b a tk tg tl to ta te ts tr a cnt lv kd gd ln st)) e_13) hD
        have e_14 : (ye : Int) = (dE cnt (sem tk tg tl ln st) ye y) := (by unfold dE; first | (rw [if_pos (by omega)]; done) | (rw [if_neg (by omega)]; done))
        have hP : va_P D vwCl (W_D_T_P cI cS d_ (dA cnt (sem tk tg tl ln st) ya y) (dE cnt (sem tk tg tl ln st) ye y) yw b a tk tg tl to ta te ts tr a cnt lv kd gd ln st) H := Eq.mp (congrArg (fun z_ => va_P D vwCl (W_D_T_P cI cS d_ (dA cnt (sem tk tg tl ln st) ya y) z_ yw b a tk tg tl to ta te ts tr a cnt lv kd gd ln st) H) e_14) hP
        have hD : va_D A (W_D_T_P cI cS d_ (dA cnt (sem tk tg tl ln st) ya y) (dE cnt (sem tk tg tl ln st) ye y) yw b a tk tg tl to ta te ts tr a cnt lv kd gd ln st) := Eq.mp (congrArg (fun z_ => va_D A (W_D_T_P cI cS d_ (dA cnt (sem tk tg tl ln st) ya y) z_ yw b a tk tg tl to ta te ts tr a cnt lv kd gd ln st)) e_14) hD
        have e_15 : (tl : Int) = (dL tl x y) := (by unfold dL; first | (rw [if_pos (by omega)]; done) | (rw [if_neg (by omega)]; done))
        have hP : va_P D vwCl (W_D_T_P cI cS d_ (dA cnt (sem tk tg tl ln st) ya y) (dE cnt (sem tk tg tl ln st) ye y) yw b a tk tg (dL tl x y) to ta te ts tr a cnt lv kd gd ln st) H := Eq.mp (congrArg (fun z_ => va_P D vwCl (W_D_T_P cI cS d_ (dA cnt (sem tk tg tl ln st) ya y) (dE cnt (sem tk tg tl ln st) ye y) yw b a tk tg z_ to ta te ts tr a cnt lv kd gd ln st) H) e_15) hP
        have hD : va_D A (W_D_T_P cI cS d_ (dA cnt (sem tk tg tl ln st) ya y) (dE cnt (sem tk tg tl ln st) ye y) yw b a tk tg (dL tl x y) to ta te ts tr a cnt lv kd gd ln st) := Eq.mp (congrArg (fun z_ => va_D A (W_D_T_P cI cS d_ (dA cnt (sem tk tg tl ln st) ya y) (dE cnt (sem tk tg tl ln st) ye y) yw b a tk tg z_ to ta te ts tr a cnt lv kd gd ln st)) e_15) hD
        have e_16 : (tg : Int → Int) = (dG cnt tg x y) := (by unfold dG; first | (rw [if_pos (by omega)]; done) | (rw [if_neg (by omega)]; done))
        have hP : va_P D vwCl (W_D_T_P cI cS d_ (dA cnt (sem tk tg tl ln st) ya y) (dE cnt (sem tk tg tl ln st) ye y) yw b a tk (dG cnt tg x y) (dL tl x y) to ta te ts tr a cnt lv kd gd ln st) H := Eq.mp (congrArg (fun z_ => va_P D vwCl (W_D_T_P cI cS d_ (dA cnt (sem tk tg tl ln st) ya y) (dE cnt (sem tk tg tl ln st) ye y) yw b a tk z_ (dL tl x y) to ta te ts tr a cnt lv kd gd ln st) H) e_16) hP
        have hD : va_D A (W_D_T_P cI cS d_ (dA cnt (sem tk tg tl ln st) ya y) (dE cnt (sem tk tg tl ln st) ye y) yw b a tk (dG cnt tg x y) (dL tl x y) to ta te ts tr a cnt lv kd gd ln st) := Eq.mp (congrArg (fun z_ => va_D A (W_D_T_P cI cS d_ (dA cnt (sem tk tg tl ln st) ya y) (dE cnt (sem tk tg tl ln st) ye y) yw b a tk z_ (dL tl x y) to ta te ts tr a cnt lv kd gd ln st)) e_16) hD
        exact W.zret (v := iI 0) (ty := .boolean) hx hb hr (by decide +kernel) (fun t ht hW => ⟨⟨_, (to, ta, te, ts), rfl, congrArg iI (show 0 = (if dOkB cnt (sem tk tg tl ln st) y = true then 1 else 0) from (by unfold dOkB; first | (rw [if_pos (decide_eq_true (by omega))]; done) | (rw [if_neg (by rw [decide_eq_false (by omega)]; decide)]; done))), by rw [ht]; exact hP, hD⟩, hS.F ht⟩) hS.2.2 dX0_comesRight_42
      ·
        refine lv_aload_n hx hb dX0_comesRight_28 rfl (lv_at hl 0 rfl) ?_
        refine lv_aload_n hx hb dX0_comesRight_29 rfl (lv_at hl 1 rfl) ?_
        refine lv_iload_n hx hb dX0_comesRight_30 rfl (lv_at hl 3 rfl) ?_
        refine x_callVi (As := [.ref (b 0), .int (iI y)]) (rest := []) ⟨hx, hb, hml, hown, hts⟩ (c_X0_lastsThroughRun l D cI cS d_ b a ya ye yw tk tg tl to ta te ts tr cnt lv kd gd ln st H.size y (by first | assumption | omega) (by first | assumption | omega) (by first | assumption | omega)) (cwV 2 hts gX0_comesRight_X0_lastsThroughRun rfl rfl rfl (by decide +kernel) ⟨Nat.le_of_ble_eq_true rfl, Nat.le_of_ble_eq_true rfl⟩) hK hP hD hS hA [0, 1, 2, 3, 4, 5, 6, 7, 8, 9, 10, 11, 12, 13] [] (wr := ([] : va_W)) rfl rfl (by decide) (by decide) (by decide) 0 0 rfl rfl rfl [0, 1, 2, 3, 4, 5, 6, 7, 8, 9, 10, 11, 12, 13] (fun (u : (Int → Int) × (Int → Int) × (Int → Int) × (Int → Int)) => (W_D_T_P cI cS d_ (ya + ((sem tk tg tl ln st y).2.1.length : Int)) (ye + (sem tk tg tl ln st y).2.2.1) yw b a tk tg tl u.1 u.2.1 u.2.2.1 u.2.2.2 tr a cnt lv kd gd ln st)) (fun _ => rfl) (by decide) rfl hl.1 rfl (Nat.le_of_ble_eq_true rfl) ⟨Nat.zero_le _, Nat.zero_le _⟩ dX0_comesRight_31 (fun r_ u_ H locs hw hP hD hS => ?_)
        obtain ⟨to_17, ta_18, te_19, ts_20⟩ := u_
        try dsimp only at hw
        subst hw
        have hP : va_P D vwCl (W_D_T_P cI cS d_ (ya + ((sem tk tg tl ln st y).2.1.length : Int)) (ye + (sem tk tg tl ln st y).2.2.1) yw b a tk tg tl to_17 ta_18 te_19 ts_20 tr a cnt lv kd gd ln st) H := hP
        have hD : va_D A (W_D_T_P cI cS d_ (ya + ((sem tk tg tl ln st y).2.1.length : Int)) (ye + (sem tk tg tl ln st y).2.2.1) yw b a tk tg tl to_17 ta_18 te_19 ts_20 tr a cnt lv kd gd ln st) := hD
        refine n_if_b1 (tgt := 41) hx hb dX0_comesRight_34 (by decide)  (fun c_21 => ?_) (fun c_21 => ?_)
        ·
          refine lv_iconst (v := iI 0) hx hb dX0_comesRight_41 (by decide +kernel) ?_
          have e_22 : ((ya + ((sem tk tg tl ln st y).2.1.length : Int)) : Int) = (dA cnt (sem tk tg tl ln st) ya y) := (by unfold dA; first | (rw [if_pos (by omega)]; done) | (rw [if_neg (by omega)]; done))
          have hP : va_P D vwCl (W_D_T_P cI cS d_ (dA cnt (sem tk tg tl ln st) ya y) (ye + (sem tk tg tl ln st y).2.2.1) yw b a tk tg tl to_17 ta_18 te_19 ts_20 tr a cnt lv kd gd ln st) H := Eq.mp (congrArg (fun z_ => va_P D vwCl (W_D_T_P cI cS d_ z_ (ye + (sem tk tg tl ln st y).2.2.1) yw b a tk tg tl to_17 ta_18 te_19 ts_20 tr a cnt lv kd gd ln st) H) e_22) hP
          have hD : va_D A (W_D_T_P cI cS d_ (dA cnt (sem tk tg tl ln st) ya y) (ye + (sem tk tg tl ln st y).2.2.1) yw b a tk tg tl to_17 ta_18 te_19 ts_20 tr a cnt lv kd gd ln st) := Eq.mp (congrArg (fun z_ => va_D A (W_D_T_P cI cS d_ z_ (ye + (sem tk tg tl ln st y).2.2.1) yw b a tk tg tl to_17 ta_18 te_19 ts_20 tr a cnt lv kd gd ln st)) e_22) hD
          have e_23 : ((ye + (sem tk tg tl ln st y).2.2.1) : Int) = (dE cnt (sem tk tg tl ln st) ye y) := (by unfold dE; first | (rw [if_pos (by omega)]; done) | (rw [if_neg (by omega)]; done))
          have hP : va_P D vwCl (W_D_T_P cI cS d_ (dA cnt (sem tk tg tl ln st) ya y) (dE cnt (sem tk tg tl ln st) ye y) yw b a tk tg tl to_17 ta_18 te_19 ts_20 tr a cnt lv kd gd ln st) H := Eq.mp (congrArg (fun z_ => va_P D vwCl (W_D_T_P cI cS d_ (dA cnt (sem tk tg tl ln st) ya y) z_ yw b a tk tg tl to_17 ta_18 te_19 ts_20 tr a cnt lv kd gd ln st) H) e_23) hP
          have hD : va_D A (W_D_T_P cI cS d_ (dA cnt (sem tk tg tl ln st) ya y) (dE cnt (sem tk tg tl ln st) ye y) yw b a tk tg tl to_17 ta_18 te_19 ts_20 tr a cnt lv kd gd ln st) := Eq.mp (congrArg (fun z_ => va_D A (W_D_T_P cI cS d_ (dA cnt (sem tk tg tl ln st) ya y) z_ yw b a tk tg tl to_17 ta_18 te_19 ts_20 tr a cnt lv kd gd ln st)) e_23) hD
          have e_24 : (tl : Int) = (dL tl x y) := (by unfold dL; first | (rw [if_pos (by omega)]; done) | (rw [if_neg (by omega)]; done))
          have hP : va_P D vwCl (W_D_T_P cI cS d_ (dA cnt (sem tk tg tl ln st) ya y) (dE cnt (sem tk tg tl ln st) ye y) yw b a tk tg (dL tl x y) to_17 ta_18 te_19 ts_20 tr a cnt lv kd gd ln st) H := Eq.mp (congrArg (fun z_ => va_P D vwCl (W_D_T_P cI cS d_ (dA cnt (sem tk tg tl ln st) ya y) (dE cnt (sem tk tg tl ln st) ye y) yw b a tk tg z_ to_17 ta_18 te_19 ts_20 tr a cnt lv kd gd ln st) H) e_24) hP
          have hD : va_D A (W_D_T_P cI cS d_ (dA cnt (sem tk tg tl ln st) ya y) (dE cnt (sem tk tg tl ln st) ye y) yw b a tk tg (dL tl x y) to_17 ta_18 te_19 ts_20 tr a cnt lv kd gd ln st) := Eq.mp (congrArg (fun z_ => va_D A (W_D_T_P cI cS d_ (dA cnt (sem tk tg tl ln st) ya y) (dE cnt (sem tk tg tl ln st) ye y) yw b a tk tg z_ to_17 ta_18 te_19 ts_20 tr a cnt lv kd gd ln st)) e_24) hD
          have e_25 : (tg : Int → Int) = (dG cnt tg x y) := (by unfold dG; first | (rw [if_pos (by omega)]; done) | (rw [if_neg (by omega)]; done))
          have hP : va_P D vwCl (W_D_T_P cI cS d_ (dA cnt (sem tk tg tl ln st) ya y) (dE cnt (sem tk tg tl ln st) ye y) yw b a tk (dG cnt tg x y) (dL tl x y) to_17 ta_18 te_19 ts_20 tr a cnt lv kd gd ln st) H := Eq.mp (congrArg (fun z_ => va_P D vwCl (W_D_T_P cI cS d_ (dA cnt (sem tk tg tl ln st) ya y) (dE cnt (sem tk tg tl ln st) ye y) yw b a tk z_ (dL tl x y) to_17 ta_18 te_19 ts_20 tr a cnt lv kd gd ln st) H) e_25) hP
          have hD : va_D A (W_D_T_P cI cS d_ (dA cnt (sem tk tg tl ln st) ya y) (dE cnt (sem tk tg tl ln st) ye y) yw b a tk (dG cnt tg x y) (dL tl x y) to_17 ta_18 te_19 ts_20 tr a cnt lv kd gd ln st) := Eq.mp (congrArg (fun z_ => va_D A (W_D_T_P cI cS d_ (dA cnt (sem tk tg tl ln st) ya y) (dE cnt (sem tk tg tl ln st) ye y) yw b a tk z_ (dL tl x y) to_17 ta_18 te_19 ts_20 tr a cnt lv kd gd ln st)) e_25) hD
          exact W.zret (v := iI 0) (ty := .boolean) hx hb hr (by decide +kernel) (fun t ht hW => ⟨⟨_, (to_17, ta_18, te_19, ts_20), rfl, congrArg iI (show 0 = (if dOkB cnt (sem tk tg tl ln st) y = true then 1 else 0) from (by unfold dOkB; first | (rw [if_pos (decide_eq_true (by omega))]; done) | (rw [if_neg (by rw [decide_eq_false (by omega)]; decide)]; done))), by rw [ht]; exact hP, hD⟩, hS.F ht⟩) hS.2.2 dX0_comesRight_42
        ·
          refine lv_iconst (v := iI 1) hx hb dX0_comesRight_37 (by decide +kernel) ?_
          refine lv_goto (tgt := 42) hx hb dX0_comesRight_38 (by decide) ?_
          have e_26 : ((ya + ((sem tk tg tl ln st y).2.1.length : Int)) : Int) = (dA cnt (sem tk tg tl ln st) ya y) := (by unfold dA; first | (rw [if_pos (by omega)]; done) | (rw [if_neg (by omega)]; done))
          have hP : va_P D vwCl (W_D_T_P cI cS d_ (dA cnt (sem tk tg tl ln st) ya y) (ye + (sem tk tg tl ln st y).2.2.1) yw b a tk tg tl to_17 ta_18 te_19 ts_20 tr a cnt lv kd gd ln st) H := Eq.mp (congrArg (fun z_ => va_P D vwCl (W_D_T_P cI cS d_ z_ (ye + (sem tk tg tl ln st y).2.2.1) yw b a tk tg tl to_17 ta_18 te_19 ts_20 tr a cnt lv kd gd ln st) H) e_26) hP
          have hD : va_D A (W_D_T_P cI cS d_ (dA cnt (sem tk tg tl ln st) ya y) (ye + (sem tk tg tl ln st y).2.2.1) yw b a tk tg tl to_17 ta_18 te_19 ts_20 tr a cnt lv kd gd ln st) := Eq.mp (congrArg (fun z_ => va_D A (W_D_T_P cI cS d_ z_ (ye + (sem tk tg tl ln st y).2.2.1) yw b a tk tg tl to_17 ta_18 te_19 ts_20 tr a cnt lv kd gd ln st)) e_26) hD
          have e_27 : ((ye + (sem tk tg tl ln st y).2.2.1) : Int) = (dE cnt (sem tk tg tl ln st) ye y) := (by unfold dE; first | (rw [if_pos (by omega)]; done) | (rw [if_neg (by omega)]; done))
          have hP : va_P D vwCl (W_D_T_P cI cS d_ (dA cnt (sem tk tg tl ln st) ya y) (dE cnt (sem tk tg tl ln st) ye y) yw b a tk tg tl to_17 ta_18 te_19 ts_20 tr a cnt lv kd gd ln st) H := Eq.mp (congrArg (fun z_ => va_P D vwCl (W_D_T_P cI cS d_ (dA cnt (sem tk tg tl ln st) ya y) z_ yw b a tk tg tl to_17 ta_18 te_19 ts_20 tr a cnt lv kd gd ln st) H) e_27) hP
          have hD : va_D A (W_D_T_P cI cS d_ (dA cnt (sem tk tg tl ln st) ya y) (dE cnt (sem tk tg tl ln st) ye y) yw b a tk tg tl to_17 ta_18 te_19 ts_20 tr a cnt lv kd gd ln st) := Eq.mp (congrArg (fun z_ => va_D A (W_D_T_P cI cS d_ (dA cnt (sem tk tg tl ln st) ya y) z_ yw b a tk tg tl to_17 ta_18 te_19 ts_20 tr a cnt lv kd gd ln st)) e_27) hD
          have e_28 : (tl : Int) = (dL tl x y) := (by unfold dL; first | (rw [if_pos (by omega)]; done) | (rw [if_neg (by omega)]; done))
          have hP : va_P D vwCl (W_D_T_P cI cS d_ (dA cnt (sem tk tg tl ln st) ya y) (dE cnt (sem tk tg tl ln st) ye y) yw b a tk tg (dL tl x y) to_17 ta_18 te_19 ts_20 tr a cnt lv kd gd ln st) H := Eq.mp (congrArg (fun z_ => va_P D vwCl (W_D_T_P cI cS d_ (dA cnt (sem tk tg tl ln st) ya y) (dE cnt (sem tk tg tl ln st) ye y) yw b a tk tg z_ to_17 ta_18 te_19 ts_20 tr a cnt lv kd gd ln st) H) e_28) hP
          have hD : va_D A (W_D_T_P cI cS d_ (dA cnt (sem tk tg tl ln st) ya y) (dE cnt (sem tk tg tl ln st) ye y) yw b a tk tg (dL tl x y) to_17 ta_18 te_19 ts_20 tr a cnt lv kd gd ln st) := Eq.mp (congrArg (fun z_ => va_D A (W_D_T_P cI cS d_ (dA cnt (sem tk tg tl ln st) ya y) (dE cnt (sem tk tg tl ln st) ye y) yw b a tk tg z_ to_17 ta_18 te_19 ts_20 tr a cnt lv kd gd ln st)) e_28) hD
          have e_29 : (tg : Int → Int) = (dG cnt tg x y) := (by unfold dG; first | (rw [if_pos (by omega)]; done) | (rw [if_neg (by omega)]; done))
          have hP : va_P D vwCl (W_D_T_P cI cS d_ (dA cnt (sem tk tg tl ln st) ya y) (dE cnt (sem tk tg tl ln st) ye y) yw b a tk (dG cnt tg x y) (dL tl x y) to_17 ta_18 te_19 ts_20 tr a cnt lv kd gd ln st) H := Eq.mp (congrArg (fun z_ => va_P D vwCl (W_D_T_P cI cS d_ (dA cnt (sem tk tg tl ln st) ya y) (dE cnt (sem tk tg tl ln st) ye y) yw b a tk z_ (dL tl x y) to_17 ta_18 te_19 ts_20 tr a cnt lv kd gd ln st) H) e_29) hP
          have hD : va_D A (W_D_T_P cI cS d_ (dA cnt (sem tk tg tl ln st) ya y) (dE cnt (sem tk tg tl ln st) ye y) yw b a tk (dG cnt tg x y) (dL tl x y) to_17 ta_18 te_19 ts_20 tr a cnt lv kd gd ln st) := Eq.mp (congrArg (fun z_ => va_D A (W_D_T_P cI cS d_ (dA cnt (sem tk tg tl ln st) ya y) (dE cnt (sem tk tg tl ln st) ye y) yw b a tk z_ (dL tl x y) to_17 ta_18 te_19 ts_20 tr a cnt lv kd gd ln st)) e_29) hD
          exact W.zret (v := iI 1) (ty := .boolean) hx hb hr (by decide +kernel) (fun t ht hW => ⟨⟨_, (to_17, ta_18, te_19, ts_20), rfl, congrArg iI (show 1 = (if dOkB cnt (sem tk tg tl ln st) y = true then 1 else 0) from (by unfold dOkB; first | (rw [if_pos (decide_eq_true (by omega))]; done) | (rw [if_neg (by rw [decide_eq_false (by omega)]; decide)]; done))), by rw [ht]; exact hP, hD⟩, hS.F ht⟩) hS.2.2 dX0_comesRight_42
  ·
    refine lv_aload_n hx hb dX0_comesRight_5 rfl (lv_at hl 1 rfl) ?_
    refine lv_iload_n hx hb dX0_comesRight_6 rfl (lv_at hl 2 rfl) ?_
    refine va_putN (D := D) (ci := 5) (v := .int (iI x)) (ty := .int) (C := RX5) (T := TX5) (N := 9) hx hb hts iw_5 tyX5 tyX5_ok nmX5 hown hK.1 hP hD hS 1 rfl rfl 3 (by decide) fn_39 (fun _ h9 => h9) rfl (by decide +kernel) rfl rfl (Nat.le_of_ble_eq_true rfl) dX0_comesRight_7 (fun H locs hP hD hS => ?_)
    have hP : va_P D vwCl (W_D_T_P cI cS d_ ya ye yw b a tk tg x to ta te ts tr a cnt lv kd gd ln st) H := hP
    have hD : va_D A (W_D_T_P cI cS d_ ya ye yw b a tk tg x to ta te ts tr a cnt lv kd gd ln st) := hD
    refine lv_iconst (v := iI 1) hx hb dX0_comesRight_10 (by decide +kernel) ?_
    have e_30 : (ya : Int) = (dA cnt (sem tk tg tl ln st) ya y) := (by unfold dA; first | (rw [if_pos (by omega)]; done) | (rw [if_neg (by omega)]; done))
    have hP : va_P D vwCl (W_D_T_P cI cS d_ (dA cnt (sem tk tg tl ln st) ya y) ye yw b a tk tg x to ta te ts tr a cnt lv kd gd ln st) H := Eq.mp (congrArg (fun z_ => va_P D vwCl (W_D_T_P cI cS d_ z_ ye yw b a tk tg x to ta te ts tr a cnt lv kd gd ln st) H) e_30) hP
    have hD : va_D A (W_D_T_P cI cS d_ (dA cnt (sem tk tg tl ln st) ya y) ye yw b a tk tg x to ta te ts tr a cnt lv kd gd ln st) := Eq.mp (congrArg (fun z_ => va_D A (W_D_T_P cI cS d_ z_ ye yw b a tk tg x to ta te ts tr a cnt lv kd gd ln st)) e_30) hD
    have e_31 : (ye : Int) = (dE cnt (sem tk tg tl ln st) ye y) := (by unfold dE; first | (rw [if_pos (by omega)]; done) | (rw [if_neg (by omega)]; done))
    have hP : va_P D vwCl (W_D_T_P cI cS d_ (dA cnt (sem tk tg tl ln st) ya y) (dE cnt (sem tk tg tl ln st) ye y) yw b a tk tg x to ta te ts tr a cnt lv kd gd ln st) H := Eq.mp (congrArg (fun z_ => va_P D vwCl (W_D_T_P cI cS d_ (dA cnt (sem tk tg tl ln st) ya y) z_ yw b a tk tg x to ta te ts tr a cnt lv kd gd ln st) H) e_31) hP
    have hD : va_D A (W_D_T_P cI cS d_ (dA cnt (sem tk tg tl ln st) ya y) (dE cnt (sem tk tg tl ln st) ye y) yw b a tk tg x to ta te ts tr a cnt lv kd gd ln st) := Eq.mp (congrArg (fun z_ => va_D A (W_D_T_P cI cS d_ (dA cnt (sem tk tg tl ln st) ya y) z_ yw b a tk tg x to ta te ts tr a cnt lv kd gd ln st)) e_31) hD
    have e_32 : (x : Int) = (dL tl x y) := (by unfold dL; first | (rw [if_pos (by omega)]; done) | (rw [if_neg (by omega)]; done))
    have hP : va_P D vwCl (W_D_T_P cI cS d_ (dA cnt (sem tk tg tl ln st) ya y) (dE cnt (sem tk tg tl ln st) ye y) yw b a tk tg (dL tl x y) to ta te ts tr a cnt lv kd gd ln st) H := Eq.mp (congrArg (fun z_ => va_P D vwCl (W_D_T_P cI cS d_ (dA cnt (sem tk tg tl ln st) ya y) (dE cnt (sem tk tg tl ln st) ye y) yw b a tk tg z_ to ta te ts tr a cnt lv kd gd ln st) H) e_32) hP
    have hD : va_D A (W_D_T_P cI cS d_ (dA cnt (sem tk tg tl ln st) ya y) (dE cnt (sem tk tg tl ln st) ye y) yw b a tk tg (dL tl x y) to ta te ts tr a cnt lv kd gd ln st) := Eq.mp (congrArg (fun z_ => va_D A (W_D_T_P cI cS d_ (dA cnt (sem tk tg tl ln st) ya y) (dE cnt (sem tk tg tl ln st) ye y) yw b a tk tg z_ to ta te ts tr a cnt lv kd gd ln st)) e_32) hD
    have e_33 : (tg : Int → Int) = (dG cnt tg x y) := (by unfold dG; first | (rw [if_pos (by omega)]; done) | (rw [if_neg (by omega)]; done))
    have hP : va_P D vwCl (W_D_T_P cI cS d_ (dA cnt (sem tk tg tl ln st) ya y) (dE cnt (sem tk tg tl ln st) ye y) yw b a tk (dG cnt tg x y) (dL tl x y) to ta te ts tr a cnt lv kd gd ln st) H := Eq.mp (congrArg (fun z_ => va_P D vwCl (W_D_T_P cI cS d_ (dA cnt (sem tk tg tl ln st) ya y) (dE cnt (sem tk tg tl ln st) ye y) yw b a tk z_ (dL tl x y) to ta te ts tr a cnt lv kd gd ln st) H) e_33) hP
    have hD : va_D A (W_D_T_P cI cS d_ (dA cnt (sem tk tg tl ln st) ya y) (dE cnt (sem tk tg tl ln st) ye y) yw b a tk (dG cnt tg x y) (dL tl x y) to ta te ts tr a cnt lv kd gd ln st) := Eq.mp (congrArg (fun z_ => va_D A (W_D_T_P cI cS d_ (dA cnt (sem tk tg tl ln st) ya y) (dE cnt (sem tk tg tl ln st) ye y) yw b a tk z_ (dL tl x y) to ta te ts tr a cnt lv kd gd ln st)) e_33) hD
    exact W.zret (v := iI 1) (ty := .boolean) hx hb hr (by decide +kernel) (fun t ht hW => ⟨⟨_, (to, ta, te, ts), rfl, congrArg iI (show 1 = (if dOkB cnt (sem tk tg tl ln st) y = true then 1 else 0) from (by unfold dOkB; first | (rw [if_pos (decide_eq_true (by omega))]; done) | (rw [if_neg (by rw [decide_eq_false (by omega)]; decide)]; done))), by rw [ht]; exact hP, hD⟩, hS.F ht⟩) hS.2.2 dX0_comesRight_11
set_option maxHeartbeats 4000000 in
set_option maxRecDepth 100000 in
theorem c_X0_pass (l : Launch) (D : va_G) (cI cS : ClassId) (d_ : Nat → Nat) (b : Nat → Nat) (a : Nat → Nat) (k : Nat → Nat) (ya : Int) (ye : Int) (yw : Int) (tk : Int → Int) (tg : Int → Int) (tl : Int) (to : Int → Int) (ta : Int → Int) (te : Int → Int) (ts : Int → Int) (tr : Int → Int) (cnt : Int) (lv : Int) (kd : Int → Int) (gd : Int → Int) (ln : Int → Int) (st : Int → Int) (lane : Int) (len : Int) (cl : Int → Int) (sz : Nat) (i : Int) (n : Int) (hok : okP cnt ln st) (hkd : okK cnt kd gd lv) (hs : 0 ≤ len ∧ len ≤ 60) (hcl : ∀ j : Int, -2147483648 ≤ cl j ∧ cl j < 2147483648) (hin : 0 ≤ i ∧ 0 ≤ n ∧ n ≤ 30 ∧ i + 2 * n ≤ len) (htl : tldB (fun j => cl (i + j)) n.toNat = true) : Met l yX0_pass wsX0_pass ({ frames := 7, cells := 0, slots := 0, locals := 156 }) (cP D cI cS (W_D_T_P_S cI cS d_ ya ye yw b a tk tg tl to ta te ts tr a cnt lv kd gd ln st k lane len cl) sz [.ref (d_ 0), .ref (b 0), .ref (k 0), .int (iI i), .int (iI n)]) (va_Qv (fun (u : Int × Int × Int × (Int → Int) × (Int → Int) × Int × (Int → Int) × (Int → Int) × (Int → Int) × (Int → Int)) => ∃ K0 G0 : Int → Int, (∀ j : Int, 0 ≤ j → j < 5 → K0 j = kd j ∧ G0 j = gd j) ∧ u.2.2.1 = (dRun K0 ln st cnt (fun j => cl (i + j)) n.toNat 0 lv G0 0 0).1 ∧ ((dRun K0 ln st cnt (fun j => cl (i + j)) n.toNat 0 lv G0 0 0).1 = -9 → ((u.2.2.1, u.2.2.2.2.2.1, u.2.2.2.2.1, u.1, u.2.1) : DS) = dRun K0 ln st cnt (fun j => cl (i + j)) n.toNat 0 lv G0 0 0) ∧ u.2.2.2.1 = K0 ∧ okK cnt u.2.2.2.1 u.2.2.2.2.1 u.2.2.2.2.2.1) (fun (u : Int × Int × Int × (Int → Int) × (Int → Int) × Int × (Int → Int) × (Int → Int) × (Int → Int) × (Int → Int)) t => cB D (va_A (W_D_T_P_S cI cS d_ ya ye yw b a tk tg tl to ta te ts tr a cnt lv kd gd ln st k lane len cl) sz) (W_D_T_P_S cI cS d_ u.1 u.2.1 u.2.2.1 b a u.2.2.2.1 u.2.2.2.2.1 u.2.2.2.2.2.1 u.2.2.2.2.2.2.1 u.2.2.2.2.2.2.2.1 u.2.2.2.2.2.2.2.2.1 u.2.2.2.2.2.2.2.2.2 tr a cnt lv kd gd ln st k lane len cl) t) (va_A (W_D_T_P_S cI cS d_ ya ye yw b a tk tg tl to ta te ts tr a cnt lv kd gd ln st k lane len cl) sz)) 0 0 (va_A (W_D_T_P_S cI cS d_ ya ye yw b a tk tg tl to ta te ts tr a cnt lv kd gd ln st k lane len cl) sz) := by
  refine Met.ofW (cc := cX0_pass) (maxL := 8) (ret := none) (by decide) rfl ?_
  intro p e s m args below meth c_ s₁ B hml hv
  obtain ⟨rfl, hsz, hP, hK, hD0⟩ := hv
  have hx := B.exec
  have hb := B.bytes
  have hr := B.returns
  have hts := atoms_spec (ws := wsX0_pass) B.pre
  have hown : s.vm.findClass RX0 = some m.cls := findClass_of_methodNamed B.named
  have hlocks := B.notSynchronized
  subst hsz
  have hD := hD0.self (sz := s.heap.size)
  generalize hAe : va_A (W_D_T_P_S cI cS d_ ya ye yw b a tk tg tl to ta te ts tr a cnt lv kd gd ln st k lane len cl) s.heap.size = A at hD ⊢
  have hA : ∀ q : Nat, s.heap.size ≤ q → A q := fun q h => by rw [← hAe]; exact Or.inr h
  have hS : va_S A s.heap s.heap [] := va_S.rf
  have hP : va_P D vwCl (W_D_T_P_S cI cS d_ ya ye yw b a tk tg tl to ta te ts tr a cnt lv kd gd ln st k lane len cl) s.heap := hP
  have hl := lv_entry ([.ref (d_ 0), .ref (b 0), .ref (k 0), .int (iI i), .int (iI n)] : List Value) (n := 8) (Nat.le_of_ble_eq_true rfl)
  rw [lg_entry_eq]
  generalize (lg_sl ([.ref (d_ 0), .ref (b 0), .ref (k 0), .int (iI i), .int (iI n)] : List Value) ++ List.replicate (8 - (lg_sl ([.ref (d_ 0), .ref (b 0), .ref (k 0), .int (iI i), .int (iI n)] : List Value)).length) Slot.unset).toArray = ls at hl ⊢
  have hl : lv_has ls 8 [(0, .ref (d_ 0)), (1, .ref (b 0)), (2, .ref (k 0)), (3, .int (iI i)), (4, .int (iI n))] := hl
  have fl_9 := hts (.fieldLink RX0 9 "ActRows$Day" "acts" "I") (by decide +kernel)
  have iw_0 : ∀ w ∈ wsX00, w ∈ wsX0_pass := by decide +kernel
  have fl_15 := hts (.fieldLink RX0 15 "ActRows$Day" "ends" "I") (by decide +kernel)
  have fl_18 := hts (.fieldLink RX0 18 "ActRows$Day" "firstWrong" "I") (by decide +kernel)
  have hc := hok.1
  have hln := hok.2.1
  refine lv_aload_n hx hb dX0_pass_0 rfl (lv_at hl 0 rfl) ?_
  refine lv_iconst (v := iI 0) hx hb dX0_pass_1 (by decide +kernel) ?_
  refine va_put (D := D) (ci := 0) (v := .int (iI 0)) (ty := .int) (C := RX0) (T := TX0) (N := 3) hx hb hts iw_0 tyX0 tyX0_ok nmX0 hown hK.1 hP hD hS 0 rfl rfl 0 (by decide) fl_9 (fun _ h9 => h9) rfl (by decide +kernel) rfl rfl (Nat.le_of_ble_eq_true rfl) dX0_pass_2 (fun H locs hP hD hS => ?_)
  have hP : va_P D vwCl (W_D_T_P_S cI cS d_ 0 ye yw b a tk tg tl to ta te ts tr a cnt lv kd gd ln st k lane len cl) H := hP
  have hD : va_D A (W_D_T_P_S cI cS d_ 0 ye yw b a tk tg tl to ta te ts tr a cnt lv kd gd ln st k lane len cl) := hD
  refine lv_aload_n hx hb dX0_pass_5 rfl (lv_at hl 0 rfl) ?_
  refine lv_iconst (v := iI 0) hx hb dX0_pass_6 (by decide +kernel) ?_
  refine va_put (D := D) (ci := 0) (v := .int (iI 0)) (ty := .int) (C := RX0) (T := TX0) (N := 3) hx hb hts iw_0 tyX0 tyX0_ok nmX0 hown hK.1 hP hD hS 0 rfl rfl 1 (by decide) fl_15 (fun _ h9 => h9) rfl (by decide +kernel) rfl rfl (Nat.le_of_ble_eq_true rfl) dX0_pass_7 (fun H locs hP hD hS => ?_)
  have hP : va_P D vwCl (W_D_T_P_S cI cS d_ 0 0 yw b a tk tg tl to ta te ts tr a cnt lv kd gd ln st k lane len cl) H := hP
  have hD : va_D A (W_D_T_P_S cI cS d_ 0 0 yw b a tk tg tl to ta te ts tr a cnt lv kd gd ln st k lane len cl) := hD
  refine lv_aload_n hx hb dX0_pass_10 rfl (lv_at hl 0 rfl) ?_
  refine lv_bipush (v := iI (-9)) hx hb dX0_pass_11 (by decide +kernel) ?_
  refine va_put (D := D) (ci := 0) (v := .int (iI (-9))) (ty := .int) (C := RX0) (T := TX0) (N := 3) hx hb hts iw_0 tyX0 tyX0_ok nmX0 hown hK.1 hP hD hS 0 rfl rfl 2 (by decide) fl_18 (fun _ h9 => h9) rfl (by decide +kernel) rfl rfl (Nat.le_of_ble_eq_true rfl) dX0_pass_13 (fun H locs hP hD hS => ?_)
  have hP : va_P D vwCl (W_D_T_P_S cI cS d_ 0 0 (-9) b a tk tg tl to ta te ts tr a cnt lv kd gd ln st k lane len cl) H := hP
  have hD : va_D A (W_D_T_P_S cI cS d_ 0 0 (-9) b a tk tg tl to ta te ts tr a cnt lv kd gd ln st k lane len cl) := hD
  refine lv_aload_n hx hb dX0_pass_16 rfl (lv_at hl 1 rfl) ?_
  refine x_callVv (As := []) (rest := []) ⟨hx, hb, hml, hown, hts⟩ (c_X5_begin l D cI cS b a tk tg tl to ta te ts tr cnt lv kd gd ln st H.size) (cwV 0 hts gX0_pass_X5_begin rfl rfl rfl (by decide +kernel) ⟨Nat.le_of_ble_eq_true rfl, Nat.le_of_ble_eq_true rfl⟩) hK hP hD hS hA [1, 2, 3, 4, 5, 6, 7, 8, 9, 10, 11, 12, 13] [0, 14, 15] (wr := [(d_ 0, .inr (0, [.int (iI 0), .int (iI 0), .int (iI (-9))])), (k 0, .inr (3, [.ref (k 1), .int (iI lane), .int (iI len)])), (k 1, .inl (cI, 60, .inl (aI cl)))]) rfl rfl (by decide) (by decide) (by decide) 0 5 rfl rfl rfl [0, 3, 4, 5, 6, 7, 8, 9, 10, 11, 12, 13, 14, 15, 1, 2] (fun (u : (Int → Int) × (Int → Int)) => (W_D_T_P_S cI cS d_ 0 0 (-9) b a u.1 u.2 lv to ta te ts tr a cnt lv kd gd ln st k lane len cl)) (fun _ => rfl) (by decide) rfl hl.1 rfl (Nat.le_of_ble_eq_true rfl) ⟨Nat.zero_le _, Nat.zero_le _⟩ dX0_pass_17 (fun u_ H locs hw hP hD hS => ?_)
  obtain ⟨tk2, tg2⟩ := u_
  try dsimp only at hw
  have hk2 := hw
  have hP : va_P D vwCl (W_D_T_P_S cI cS d_ 0 0 (-9) b a tk2 tg2 lv to ta te ts tr a cnt lv kd gd ln st k lane len cl) H := hP
  have hD : va_D A (W_D_T_P_S cI cS d_ 0 0 (-9) b a tk2 tg2 lv to ta te ts tr a cnt lv kd gd ln st k lane len cl) := hD
  have hko2 : okK cnt tk2 tg2 lv := ⟨fun j h0 h1 => by rw [(hk2 j h0 (by omega)).1, (hk2 j h0 (by omega)).2]; exact hkd.1 j h0 h1, hkd.2⟩
  refine lv_iconst (v := iI 0) hx hb dX0_pass_20 (by decide +kernel) ?_
  refine lv_istore (lv' := [(5, .int (iI 0)), (0, .ref (d_ 0)), (1, .ref (b 0)), (2, .ref (k 0)), (3, .int (iI i)), (4, .int (iI n))]) hx hb dX0_pass_21 hl (by decide) rfl (fun ls hl => ?_)
  refine x_loop (σ := Int × Int × Int × Int × Int × (Int → Int) × (Int → Int) × (Int → Int) × (Int → Int) × (Int → Int)) (fun (xv_ : Int × Int × Int × Int × Int × (Int → Int) × (Int → Int) × (Int → Int) × (Int → Int) × (Int → Int)) => match xv_ with | (pl, ya1, ye1, yw1, tl1, tg1, to1, ta1, te1, ts1) => (0 ≤ pl ∧ pl ≤ n) ∧ (okK cnt tk2 tg1 tl1) ∧ ((yw1 = -9 ∧ dRun tk2 ln st cnt (fun j => cl (i + j)) (n - pl).toNat pl tl1 tg1 ya1 ye1 = dRun tk2 ln st cnt (fun j => cl (i + j)) n.toNat 0 lv tg2 0 0) ∨ ((0 ≤ yw1 ∧ yw1 < n) ∧ (dRun tk2 ln st cnt (fun j => cl (i + j)) n.toNat 0 lv tg2 0 0).1 = yw1))) (fun (xv_ : Int × Int × Int × Int × Int × (Int → Int) × (Int → Int) × (Int → Int) × (Int → Int) × (Int → Int)) => match xv_ with | (pl, ya1, ye1, yw1, tl1, tg1, to1, ta1, te1, ts1) => (n - pl).toNat) (fun (xv_ : Int × Int × Int × Int × Int × (Int → Int) × (Int → Int) × (Int → Int) × (Int → Int) × (Int → Int)) => match xv_ with | (pl, ya1, ye1, yw1, tl1, tg1, to1, ta1, te1, ts1) => (W_D_T_P_S cI cS d_ ya1 ye1 yw1 b a tk2 tg1 tl1 to1 ta1 te1 ts1 tr a cnt lv kd gd ln st k lane len cl)) (fun (xv_ : Int × Int × Int × Int × Int × (Int → Int) × (Int → Int) × (Int → Int) × (Int → Int) × (Int → Int)) => match xv_ with | (pl, ya1, ye1, yw1, tl1, tg1, to1, ta1, te1, ts1) => [(5, .int (iI pl)), (0, .ref (d_ 0)), (1, .ref (b 0)), (2, .ref (k 0)), (3, .int (iI i)), (4, .int (iI n))]) (nL := 8) ?step_1 (0, 0, 0, (-9), lv, tg2, to, ta, te, ts) (by (try dsimp only); exact ⟨by omega, hko2, Or.inl ⟨rfl, by rw [Int.sub_zero]⟩⟩) hP hD hS (lv_sub hl [0, 1, 2, 3, 4, 5] rfl)
  case step_1 =>
    intro xv_ hI ih H locs ls hP hD hS hl
    obtain ⟨pl, ya1, ye1, yw1, tl1, tg1, to1, ta1, te1, ts1⟩ := xv_
    try dsimp only at hI ih
    obtain ⟨hpl, hko, hM⟩ := hI
    have hP : va_P D vwCl (W_D_T_P_S cI cS d_ ya1 ye1 yw1 b a tk2 tg1 tl1 to1 ta1 te1 ts1 tr a cnt lv kd gd ln st k lane len cl) H := hP
    have hD : va_D A (W_D_T_P_S cI cS d_ ya1 ye1 yw1 b a tk2 tg1 tl1 to1 ta1 te1 ts1 tr a cnt lv kd gd ln st k lane len cl) := hD
    have hl : lv_has ls 8 [(5, .int (iI pl)), (0, .ref (d_ 0)), (1, .ref (b 0)), (2, .ref (k 0)), (3, .int (iI i)), (4, .int (iI n))] := hl
    have ih_2 := ih
    refine lv_iload hx hb dX0_pass_23 (lv_at hl 0 rfl) ?_
    refine lv_iload hx hb dX0_pass_25 (lv_at hl 5 rfl) ?_
    refine n_icmp_ge (tgt := 89) hx hb dX0_pass_27 (by decide) (by omega) (fun c_3 => ?_) (fun c_3 => ?_)
    ·
      exact W.vret hx hb hr (fun t ht hW => ⟨⟨(ya1, ye1, yw1, tk2, tg1, tl1, to1, ta1, te1, ts1), rfl, (by (try dsimp only); exact (by
            refine ⟨tk2, tg2, hk2, ?_⟩
            rcases hM with q | q
            · have hz0 := q.2
              rw [show (n - pl).toNat = 0 by first | omega | exact absurd q.1 (by assumption)] at hz0
              refine ⟨by rw [← hz0]; exact q.1, fun _ => ?_, rfl, hko⟩
              rw [← hz0, q.1]
              rfl
            · exact ⟨q.2.symm, fun e => absurd (q.2.symm.trans e) (by omega), rfl, hko⟩)), by rw [ht]; exact hP, hD⟩, hS.F ht⟩) hS.2.2 dX0_pass_89
    ·
      refine lv_aload_n hx hb dX0_pass_30 rfl (lv_at hl 1 rfl) ?_
      refine va_get (D := D) (ci := 0) (v := .int (iI yw1)) (C := RX0) (T := TX0) (N := 3) hx hb hts iw_0 hown hK.1 hP 0 rfl rfl 2 (by decide) fl_18 (fun _ h9 => h9) rfl dX0_pass_31 ?_
      refine lv_bipush (v := iI (-9)) hx hb dX0_pass_34 (by decide +kernel) ?_
      refine n_icmp_ne (tgt := 89) hx hb dX0_pass_36 (by decide) (by rcases hM with q | q <;> omega) (fun c_4 => ?_) (fun c_4 => ?_)
      ·
        exact W.vret hx hb hr (fun t ht hW => ⟨⟨(ya1, ye1, yw1, tk2, tg1, tl1, to1, ta1, te1, ts1), rfl, (by (try dsimp only); exact (by
            refine ⟨tk2, tg2, hk2, ?_⟩
            rcases hM with q | q
            · have hz0 := q.2
              rw [show (n - pl).toNat = 0 by first | omega | exact absurd q.1 (by assumption)] at hz0
              refine ⟨by rw [← hz0]; exact q.1, fun _ => ?_, rfl, hko⟩
              rw [← hz0, q.1]
              rfl
            · exact ⟨q.2.symm, fun e => absurd (q.2.symm.trans e) (by omega), rfl, hko⟩)), by rw [ht]; exact hP, hD⟩, hS.F ht⟩) hS.2.2 dX0_pass_89
      ·
        have hM2 : yw1 = -9 ∧ dRun tk2 ln st cnt (fun j => cl (i + j)) (n - pl).toNat pl tl1 tg1 ya1 ye1 = dRun tk2 ln st cnt (fun j => cl (i + j)) n.toNat 0 lv tg2 0 0 := by rcases hM with q | q; exact q; exact absurd q.1 (by omega)
        have htx := tldB_at n.toNat htl pl hpl.1 (by omega)
        refine lv_aload_n hx hb dX0_pass_39 rfl (lv_at hl 3 rfl) ?_
        refine lv_iload_n hx hb dX0_pass_40 rfl (lv_at hl 4 rfl) ?_
        refine lv_iconst (v := iI 2) hx hb dX0_pass_41 (by decide +kernel) ?_
        refine lv_iload hx hb dX0_pass_42 (lv_at hl 0 rfl) ?_
        refine n_imul hx hb dX0_pass_44 ?_
        refine n_iadd hx hb dX0_pass_45 ?_
        refine x_callVi (As := [.int (iI (i + (2 * pl)))]) (rest := []) ⟨hx, hb, hml, hown, hts⟩ (c_X3_cellAt l D cI cS k lane len cl H.size (i + (2 * pl)) (by first | assumption | omega) (by first | assumption | omega)) (cwV 1 hts gX0_pass_X3_cellAt rfl rfl rfl (by decide +kernel) ⟨Nat.le_of_ble_eq_true rfl, Nat.le_of_ble_eq_true rfl⟩) hK hP hD hS hA [14, 15] [0, 1, 2, 3, 4, 5, 6, 7, 8, 9, 10, 11, 12, 13] (wr := [(d_ 0, .inr (0, [.int (iI ya1), .int (iI ye1), .int (iI yw1)])), (b 0, .inr (5, [.ref (a 0), .ref (b 1), .ref (b 2), .int (iI tl1), .ref (b 3), .ref (b 4), .ref (b 5), .ref (b 6), .ref (b 7)])), (b 1, .inl (cI, 5, .inl (aI tk2))), (b 2, .inl (cI, 5, .inl (aI tg1))), (b 3, .inl (cI, 5, .inl (aI to1))), (b 4, .inl (cI, 5, .inl (aI ta1))), (b 5, .inl (cI, 5, .inl (aI te1))), (b 6, .inl (cI, 5, .inl (aI ts1))), (b 7, .inl (cI, 5, .inl (aI tr))), (a 0, .inr (1, [.ref (a 1), .ref (a 2), .ref (a 3), .ref (a 4), .int (iI cnt), .int (iI lv)])), (a 1, .inl (cI, 5, .inl (aI kd))), (a 2, .inl (cI, 5, .inl (aI gd))), (a 3, .inl (cI, 5, .inl (aI ln))), (a 4, .inl (cI, 20, .inl (aI st)))]) rfl rfl (by decide) (by decide) (by decide) 0 3 rfl rfl rfl [0, 1, 2, 3, 4, 5, 6, 7, 8, 9, 10, 11, 12, 13, 14, 15] (fun (u : Unit) => (W_D_T_P_S cI cS d_ ya1 ye1 yw1 b a tk2 tg1 tl1 to1 ta1 te1 ts1 tr a cnt lv kd gd ln st k lane len cl)) (fun _ => rfl) (by decide) rfl hl.1 rfl (Nat.le_of_ble_eq_true rfl) ⟨Nat.zero_le _, Nat.zero_le _⟩ dX0_pass_46 (fun r_ u_ H locs hw hP hD hS => ?_)
        try dsimp only at hw
        subst hw
        have hP : va_P D vwCl (W_D_T_P_S cI cS d_ ya1 ye1 yw1 b a tk2 tg1 tl1 to1 ta1 te1 ts1 tr a cnt lv kd gd ln st k lane len cl) H := hP
        have hD : va_D A (W_D_T_P_S cI cS d_ ya1 ye1 yw1 b a tk2 tg1 tl1 to1 ta1 te1 ts1 tr a cnt lv kd gd ln st k lane len cl) := hD
        obtain ⟨ay, h_ay⟩ : ∃ z_ : Int, z_ = (if 0 ≤ (i + (2 * pl)) ∧ (i + (2 * pl)) < len then cl (i + (2 * pl)) else 0) := ⟨_, rfl⟩
        rw [← h_ay]
        have hay : ay = cl (i + 2 * pl) := by rw [h_ay, if_pos (by omega)]
        have hya := hay.symm
        refine lv_istore (lv' := [(6, .int (iI ay)), (5, .int (iI pl)), (0, .ref (d_ 0)), (1, .ref (b 0)), (2, .ref (k 0)), (3, .int (iI i)), (4, .int (iI n))]) hx hb dX0_pass_49 hl (by decide) rfl (fun ls hl => ?_)
        refine lv_aload_n hx hb dX0_pass_51 rfl (lv_at hl 4 rfl) ?_
        refine lv_iload_n hx hb dX0_pass_52 rfl (lv_at hl 5 rfl) ?_
        refine lv_iconst (v := iI 2) hx hb dX0_pass_53 (by decide +kernel) ?_
        refine lv_iload hx hb dX0_pass_54 (lv_at hl 1 rfl) ?_
        refine n_imul hx hb dX0_pass_56 ?_
        refine n_iadd hx hb dX0_pass_57 ?_
        refine lv_iconst (v := iI 1) hx hb dX0_pass_58 (by decide +kernel) ?_
        refine n_iadd hx hb dX0_pass_59 ?_
        refine x_callVi (As := [.int (iI ((i + (2 * pl)) + 1))]) (rest := []) ⟨hx, hb, hml, hown, hts⟩ (c_X3_cellAt l D cI cS k lane len cl H.size ((i + (2 * pl)) + 1) (by first | assumption | omega) (by first | assumption | omega)) (cwV 1 hts gX0_pass_X3_cellAt rfl rfl rfl (by decide +kernel) ⟨Nat.le_of_ble_eq_true rfl, Nat.le_of_ble_eq_true rfl⟩) hK hP hD hS hA [14, 15] [0, 1, 2, 3, 4, 5, 6, 7, 8, 9, 10, 11, 12, 13] (wr := [(d_ 0, .inr (0, [.int (iI ya1), .int (iI ye1), .int (iI yw1)])), (b 0, .inr (5, [.ref (a 0), .ref (b 1), .ref (b 2), .int (iI tl1), .ref (b 3), .ref (b 4), .ref (b 5), .ref (b 6), .ref (b 7)])), (b 1, .inl (cI, 5, .inl (aI tk2))), (b 2, .inl (cI, 5, .inl (aI tg1))), (b 3, .inl (cI, 5, .inl (aI to1))), (b 4, .inl (cI, 5, .inl (aI ta1))), (b 5, .inl (cI, 5, .inl (aI te1))), (b 6, .inl (cI, 5, .inl (aI ts1))), (b 7, .inl (cI, 5, .inl (aI tr))), (a 0, .inr (1, [.ref (a 1), .ref (a 2), .ref (a 3), .ref (a 4), .int (iI cnt), .int (iI lv)])), (a 1, .inl (cI, 5, .inl (aI kd))), (a 2, .inl (cI, 5, .inl (aI gd))), (a 3, .inl (cI, 5, .inl (aI ln))), (a 4, .inl (cI, 20, .inl (aI st)))]) rfl rfl (by decide) (by decide) (by decide) 0 3 rfl rfl rfl [0, 1, 2, 3, 4, 5, 6, 7, 8, 9, 10, 11, 12, 13, 14, 15] (fun (u : Unit) => (W_D_T_P_S cI cS d_ ya1 ye1 yw1 b a tk2 tg1 tl1 to1 ta1 te1 ts1 tr a cnt lv kd gd ln st k lane len cl)) (fun _ => rfl) (by decide) rfl hl.1 rfl (Nat.le_of_ble_eq_true rfl) ⟨Nat.zero_le _, Nat.zero_le _⟩ dX0_pass_60 (fun r_ u_ H locs hw hP hD hS => ?_)
        try dsimp only at hw
        subst hw
        have hP : va_P D vwCl (W_D_T_P_S cI cS d_ ya1 ye1 yw1 b a tk2 tg1 tl1 to1 ta1 te1 ts1 tr a cnt lv kd gd ln st k lane len cl) H := hP
        have hD : va_D A (W_D_T_P_S cI cS d_ ya1 ye1 yw1 b a tk2 tg1 tl1 to1 ta1 te1 ts1 tr a cnt lv kd gd ln st k lane len cl) := hD
        obtain ⟨bz, h_bz⟩ : ∃ z_ : Int, z_ = (if 0 ≤ ((i + (2 * pl)) + 1) ∧ ((i + (2 * pl)) + 1) < len then cl ((i + (2 * pl)) + 1) else 0) := ⟨_, rfl⟩
        rw [← h_bz]
        have hbz : bz = cl (i + (2 * pl + 1)) := by rw [h_bz, if_pos (by omega), Int.add_assoc]
        have hby := hbz.symm
        rw [hya, hby] at htx
        have hkn := dG_ok hko htx
        refine lv_istore (lv' := [(7, .int (iI bz)), (6, .int (iI ay)), (5, .int (iI pl)), (0, .ref (d_ 0)), (1, .ref (b 0)), (2, .ref (k 0)), (3, .int (iI i)), (4, .int (iI n))]) hx hb dX0_pass_63 hl (by decide) rfl (fun ls hl => ?_)
        refine lv_aload_n hx hb dX0_pass_65 rfl (lv_at hl 3 rfl) ?_
        refine lv_aload_n hx hb dX0_pass_66 rfl (lv_at hl 4 rfl) ?_
        refine lv_iload hx hb dX0_pass_67 (lv_at hl 1 rfl) ?_
        refine lv_iload hx hb dX0_pass_69 (lv_at hl 0 rfl) ?_
        refine x_callVi (As := [.ref (b 0), .int (iI ay), .int (iI bz)]) (rest := []) ⟨hx, hb, hml, hown, hts⟩ (c_X0_comesRight l D cI cS d_ b a ya1 ye1 yw1 tk2 tg1 tl1 to1 ta1 te1 ts1 tr cnt lv kd gd ln st H.size ay bz (by first | assumption | omega) hko htx) (cwV 3 hts gX0_pass_X0_comesRight rfl rfl rfl (by decide +kernel) ⟨Nat.le_of_ble_eq_true rfl, Nat.le_of_ble_eq_true rfl⟩) hK hP hD hS hA [0, 1, 2, 3, 4, 5, 6, 7, 8, 9, 10, 11, 12, 13] [14, 15] (wr := [(k 0, .inr (3, [.ref (k 1), .int (iI lane), .int (iI len)])), (k 1, .inl (cI, 60, .inl (aI cl)))]) rfl rfl (by decide) (by decide) (by decide) 0 0 rfl rfl rfl [2, 3, 4, 5, 6, 7, 8, 9, 10, 11, 12, 13, 14, 15, 0, 1] (fun (u : (Int → Int) × (Int → Int) × (Int → Int) × (Int → Int)) => (W_D_T_P_S cI cS d_ (dA cnt (sem tk2 tg1 tl1 ln st) ya1 bz) (dE cnt (sem tk2 tg1 tl1 ln st) ye1 bz) yw1 b a tk2 (dG cnt tg1 ay bz) (dL tl1 ay bz) u.1 u.2.1 u.2.2.1 u.2.2.2 tr a cnt lv kd gd ln st k lane len cl)) (fun _ => rfl) (by decide) rfl hl.1 rfl (Nat.le_of_ble_eq_true rfl) ⟨Nat.zero_le _, Nat.zero_le _⟩ dX0_pass_71 (fun r_ u_ H locs hw hP hD hS => ?_)
        obtain ⟨to_5, ta_6, te_7, ts_8⟩ := u_
        try dsimp only at hw
        subst hw
        have hP : va_P D vwCl (W_D_T_P_S cI cS d_ (dA cnt (sem tk2 tg1 tl1 ln st) ya1 bz) (dE cnt (sem tk2 tg1 tl1 ln st) ye1 bz) yw1 b a tk2 (dG cnt tg1 ay bz) (dL tl1 ay bz) to_5 ta_6 te_7 ts_8 tr a cnt lv kd gd ln st k lane len cl) H := hP
        have hD : va_D A (W_D_T_P_S cI cS d_ (dA cnt (sem tk2 tg1 tl1 ln st) ya1 bz) (dE cnt (sem tk2 tg1 tl1 ln st) ye1 bz) yw1 b a tk2 (dG cnt tg1 ay bz) (dL tl1 ay bz) to_5 ta_6 te_7 ts_8 tr a cnt lv kd gd ln st k lane len cl) := hD
        refine n_if_b2 (tgt := 83) hx hb dX0_pass_74 (by decide)  (fun c_9 => ?_) (fun c_9 => ?_)
        ·
          have hyes : dOkB cnt (sem tk2 tg1 tl1 ln st) (cl (i + (2 * pl + 1))) = true := by rw [hby]; assumption
          refine n_iinc (lv' := [(5, .int (iI (pl + 1))), (7, .int (iI bz)), (6, .int (iI ay)), (0, .ref (d_ 0)), (1, .ref (b 0)), (2, .ref (k 0)), (3, .int (iI i)), (4, .int (iI n))]) hx hb dX0_pass_83 hl (k := 2) rfl (by decide) rfl (fun ls hl => ?_)
          refine lv_goto (tgt := 23) hx hb dX0_pass_86 (by decide) ?_
          exact ih_2 ((pl + 1), (dA cnt (sem tk2 tg1 tl1 ln st) ya1 bz), (dE cnt (sem tk2 tg1 tl1 ln st) ye1 bz), yw1, (dL tl1 ay bz), (dG cnt tg1 ay bz), to_5, ta_6, te_7, ts_8) (by (try dsimp only); exact (by
            refine ⟨by omega, hkn, ?_⟩
            first
            | exact Or.inr ⟨by omega, by rw [← hM2.2, show (n - pl).toNat = (n - (pl + 1)).toNat + 1 by omega, dRun_n (cd := (fun j => cl (i + j))) (x := pl) hno]⟩
            | exact Or.inl ⟨hM2.1, by rw [← hM2.2, show (n - pl).toNat = (n - (pl + 1)).toNat + 1 by omega, dRun_y (cd := (fun j => cl (i + j))) (x := pl) hyes, hya, hby]⟩)) (by (try dsimp only); exact (by omega)) _ _ _ hP hD hS (lv_sub hl [0, 3, 4, 5, 6, 7] rfl)
        ·
          have hno : ¬ dOkB cnt (sem tk2 tg1 tl1 ln st) (cl (i + (2 * pl + 1))) = true := by rw [hby]; assumption
          refine lv_aload_n hx hb dX0_pass_77 rfl (lv_at hl 3 rfl) ?_
          refine lv_iload hx hb dX0_pass_78 (lv_at hl 2 rfl) ?_
          refine va_put (D := D) (ci := 0) (v := .int (iI pl)) (ty := .int) (C := RX0) (T := TX0) (N := 3) hx hb hts iw_0 tyX0 tyX0_ok nmX0 hown hK.1 hP hD hS 0 rfl rfl 2 (by decide) fl_18 (fun _ h9 => h9) rfl (by decide +kernel) rfl rfl (Nat.le_of_ble_eq_true rfl) dX0_pass_80 (fun H locs hP hD hS => ?_)
          have hP : va_P D vwCl (W_D_T_P_S cI cS d_ (dA cnt (sem tk2 tg1 tl1 ln st) ya1 bz) (dE cnt (sem tk2 tg1 tl1 ln st) ye1 bz) pl b a tk2 (dG cnt tg1 ay bz) (dL tl1 ay bz) to_5 ta_6 te_7 ts_8 tr a cnt lv kd gd ln st k lane len cl) H := hP
          have hD : va_D A (W_D_T_P_S cI cS d_ (dA cnt (sem tk2 tg1 tl1 ln st) ya1 bz) (dE cnt (sem tk2 tg1 tl1 ln st) ye1 bz) pl b a tk2 (dG cnt tg1 ay bz) (dL tl1 ay bz) to_5 ta_6 te_7 ts_8 tr a cnt lv kd gd ln st k lane len cl) := hD
          refine n_iinc (lv' := [(5, .int (iI (pl + 1))), (7, .int (iI bz)), (6, .int (iI ay)), (0, .ref (d_ 0)), (1, .ref (b 0)), (2, .ref (k 0)), (3, .int (iI i)), (4, .int (iI n))]) hx hb dX0_pass_83 hl (k := 2) rfl (by decide) rfl (fun ls hl => ?_)
          refine lv_goto (tgt := 23) hx hb dX0_pass_86 (by decide) ?_
          exact ih_2 ((pl + 1), (dA cnt (sem tk2 tg1 tl1 ln st) ya1 bz), (dE cnt (sem tk2 tg1 tl1 ln st) ye1 bz), pl, (dL tl1 ay bz), (dG cnt tg1 ay bz), to_5, ta_6, te_7, ts_8) (by (try dsimp only); exact (by
            refine ⟨by omega, hkn, ?_⟩
            first
            | exact Or.inr ⟨by omega, by rw [← hM2.2, show (n - pl).toNat = (n - (pl + 1)).toNat + 1 by omega, dRun_n (cd := (fun j => cl (i + j))) (x := pl) hno]⟩
            | exact Or.inl ⟨hM2.1, by rw [← hM2.2, show (n - pl).toNat = (n - (pl + 1)).toNat + 1 by omega, dRun_y (cd := (fun j => cl (i + j))) (x := pl) hyes, hya, hby]⟩)) (by (try dsimp only); exact (by omega)) _ _ _ hP hD hS (lv_sub hl [0, 3, 4, 5, 6, 7] rfl)
set_option maxHeartbeats 4000000 in
set_option maxRecDepth 100000 in
theorem c_X0_answer (l : Launch) (D : va_G) (cI cS : ClassId) (d_ : Nat → Nat) (b : Nat → Nat) (a : Nat → Nat) (ya : Int) (ye : Int) (yw : Int) (tk : Int → Int) (tg : Int → Int) (tl : Int) (to : Int → Int) (ta : Int → Int) (te : Int → Int) (ts : Int → Int) (tr : Int → Int) (cnt : Int) (lv : Int) (kd : Int → Int) (gd : Int → Int) (ln : Int → Int) (st : Int → Int) (sz : Nat) (w : Int) (hok : okP cnt ln st) (hkk : okK cnt tk tg tl) (hw_ : (0 ≤ w ∧ w ≤ 4) ∨ (10 ≤ w ∧ w < 15)) (hyw : -9 ≤ yw ∧ yw ≤ 30) : Met l yX0_answer wsX0_answer ({ frames := 5, cells := 0, slots := 0, locals := 111 }) (cP D cI cS (W_D_T_P cI cS d_ ya ye yw b a tk tg tl to ta te ts tr a cnt lv kd gd ln st) sz [.ref (d_ 0), .ref (b 0), .int (iI w)]) (va_Qi (fun (r : Int32) (u : (Int → Int)) => r = iI (dAns cnt tk ln st (yw, tl, tg, ya, ye) w)) (fun (u : (Int → Int)) t => cB D (va_A (W_D_T_P cI cS d_ ya ye yw b a tk tg tl to ta te ts tr a cnt lv kd gd ln st) sz) (W_D_T_P cI cS d_ ya ye yw b a tk tg tl to ta te ts u a cnt lv kd gd ln st) t) (va_A (W_D_T_P cI cS d_ ya ye yw b a tk tg tl to ta te ts tr a cnt lv kd gd ln st) sz)) 0 0 (va_A (W_D_T_P cI cS d_ ya ye yw b a tk tg tl to ta te ts tr a cnt lv kd gd ln st) sz) := by
  refine Met.ofW (cc := cX0_answer) (maxL := 3) (ret := (some .int)) (by decide) rfl ?_
  intro p e s m args below meth c_ s₁ B hml hv
  obtain ⟨rfl, hsz, hP, hK, hD0⟩ := hv
  have hx := B.exec
  have hb := B.bytes
  have hr := B.returns
  have hts := atoms_spec (ws := wsX0_answer) B.pre
  have hown : s.vm.findClass RX0 = some m.cls := findClass_of_methodNamed B.named
  have hlocks := B.notSynchronized
  subst hsz
  have hD := hD0.self (sz := s.heap.size)
  generalize hAe : va_A (W_D_T_P cI cS d_ ya ye yw b a tk tg tl to ta te ts tr a cnt lv kd gd ln st) s.heap.size = A at hD ⊢
  have hA : ∀ q : Nat, s.heap.size ≤ q → A q := fun q h => by rw [← hAe]; exact Or.inr h
  have hS : va_S A s.heap s.heap [] := va_S.rf
  have hP : va_P D vwCl (W_D_T_P cI cS d_ ya ye yw b a tk tg tl to ta te ts tr a cnt lv kd gd ln st) s.heap := hP
  have hl := lv_entry ([.ref (d_ 0), .ref (b 0), .int (iI w)] : List Value) (n := 3) (Nat.le_of_ble_eq_true rfl)
  rw [lg_entry_eq]
  generalize (lg_sl ([.ref (d_ 0), .ref (b 0), .int (iI w)] : List Value) ++ List.replicate (3 - (lg_sl ([.ref (d_ 0), .ref (b 0), .int (iI w)] : List Value)).length) Slot.unset).toArray = ls at hl ⊢
  have hl : lv_has ls 3 [(0, .ref (d_ 0)), (1, .ref (b 0)), (2, .int (iI w))] := hl
  have fl_18 := hts (.fieldLink RX0 18 "ActRows$Day" "firstWrong" "I") (by decide +kernel)
  have iw_0 : ∀ w ∈ wsX00, w ∈ wsX0_answer := by decide +kernel
  have fl_9 := hts (.fieldLink RX0 9 "ActRows$Day" "acts" "I") (by decide +kernel)
  have fl_15 := hts (.fieldLink RX0 15 "ActRows$Day" "ends" "I") (by decide +kernel)
  have fn_39 := va_Nw.use (A := ([.ref (d_ 0), .ref (b 0), .int (iI w)] : List Value).toArray) rfl (hK.2 ("ActRows$Day", 39, "ActRows$Trial", "live", "I") (List.mem_of_getElem? (i := 16) rfl))
  have iw_5 : ∀ w ∈ wsX50, w ∈ wsX0_answer := by decide +kernel
  have fn_42 := va_Nw.use (A := ([.ref (d_ 0), .ref (b 0), .int (iI w)] : List Value).toArray) rfl (hK.2 ("ActRows$Day", 42, "ActRows$Trial", "program", "LActRows$Program;") (List.mem_of_getElem? (i := 17) rfl))
  have fn_56 := va_Nw.use (A := ([.ref (d_ 0), .ref (b 0), .int (iI w)] : List Value).toArray) rfl (hK.2 ("ActRows$Day", 56, "ActRows$Trial", "guarded", "[I") (List.mem_of_getElem? (i := 18) rfl))
  have hc := hok.1
  have hln := hok.2.1
  refine lv_iload_n hx hb dX0_answer_0 rfl (lv_at hl 2 rfl) ?_
  refine lv_iconst (v := iI 1) hx hb dX0_answer_1 (by decide +kernel) ?_
  refine n_icmp_ne (tgt := 10) hx hb dX0_answer_2 (by decide) (by omega) (fun c_1 => ?_) (fun c_1 => ?_)
  ·
    refine lv_aload_n hx hb dX0_answer_10 rfl (lv_at hl 0 rfl) ?_
    refine va_get (D := D) (ci := 0) (v := .int (iI yw)) (C := RX0) (T := TX0) (N := 3) hx hb hts iw_0 hown hK.1 hP 0 rfl rfl 2 (by decide) fl_18 (fun _ h9 => h9) rfl dX0_answer_11 ?_
    refine lv_bipush (v := iI (-9)) hx hb dX0_answer_14 (by decide +kernel) ?_
    refine n_icmp_eq (tgt := 27) hx hb dX0_answer_16 (by decide) (by omega) (fun c_2 => ?_) (fun c_2 => ?_)
    ·
      refine lv_iload_n hx hb dX0_answer_27 rfl (lv_at hl 2 rfl) ?_
      by_cases c_3 : w = 0
      ·
        refine n_tableIn (off := 36) (tgt := 64) hx hb 0 dX0_answer_28 c_3 (by decide) rfl (by decide) ?_
        refine lv_aload_n hx hb dX0_answer_64 rfl (lv_at hl 0 rfl) ?_
        refine va_get (D := D) (ci := 0) (v := .int (iI ya)) (C := RX0) (T := TX0) (N := 3) hx hb hts iw_0 hown hK.1 hP 0 rfl rfl 0 (by decide) fl_9 (fun _ h9 => h9) rfl dX0_answer_65 ?_
        exact W.iret (v := iI ya) hx hb hr (fun t ht hW => ⟨⟨_, (tr), rfl, congrArg iI (show ya = (dAns cnt tk ln st (yw, tl, tg, ya, ye) w) from (by unfold dAns; dsimp only; (repeat (first | rw [if_pos (by omega)] | rw [if_neg (by omega)])))), by rw [ht]; exact hP, hD⟩, hS.F ht⟩) hS.2.2 dX0_answer_68
      by_cases c_5 : w = 2
      ·
        refine n_tableIn (off := 41) (tgt := 69) hx hb 2 dX0_answer_28 c_5 (by decide) rfl (by decide) ?_
        refine lv_aload_n hx hb dX0_answer_69 rfl (lv_at hl 0 rfl) ?_
        refine va_get (D := D) (ci := 0) (v := .int (iI ye)) (C := RX0) (T := TX0) (N := 3) hx hb hts iw_0 hown hK.1 hP 0 rfl rfl 1 (by decide) fl_15 (fun _ h9 => h9) rfl dX0_answer_70 ?_
        exact W.iret (v := iI ye) hx hb hr (fun t ht hW => ⟨⟨_, (tr), rfl, congrArg iI (show ye = (dAns cnt tk ln st (yw, tl, tg, ya, ye) w) from (by unfold dAns; dsimp only; (repeat (first | rw [if_pos (by omega)] | rw [if_neg (by omega)])))), by rw [ht]; exact hP, hD⟩, hS.F ht⟩) hS.2.2 dX0_answer_73
      by_cases c_6 : w = 3
      ·
        refine n_tableIn (off := 46) (tgt := 74) hx hb 3 dX0_answer_28 c_6 (by decide) rfl (by decide) ?_
        refine lv_aload_n hx hb dX0_answer_74 rfl (lv_at hl 1 rfl) ?_
        refine va_getN (D := D) (ci := 5) (v := .int (iI tl)) (C := RX5) (T := TX5) (N := 9) hx hb hts iw_5 hown hK.1 hP 1 rfl rfl 3 (by decide) fn_39 (fun _ h9 => h9) rfl dX0_answer_75 ?_
        exact W.iret (v := iI tl) hx hb hr (fun t ht hW => ⟨⟨_, (tr), rfl, congrArg iI (show tl = (dAns cnt tk ln st (yw, tl, tg, ya, ye) w) from (by unfold dAns; dsimp only; (repeat (first | rw [if_pos (by omega)] | rw [if_neg (by omega)])))), by rw [ht]; exact hP, hD⟩, hS.F ht⟩) hS.2.2 dX0_answer_78
      by_cases c_7 : w = 4
      ·
        refine n_tableIn (off := 51) (tgt := 79) hx hb 4 dX0_answer_28 c_7 (by decide) rfl (by decide) ?_
        refine lv_aload_n hx hb dX0_answer_79 rfl (lv_at hl 1 rfl) ?_
        refine x_callVi (As := []) (rest := []) ⟨hx, hb, hml, hown, hts⟩ (c_X5_rowOfAll l D cI cS b a tk tg tl to ta te ts tr cnt lv kd gd ln st s.heap.size (by first | assumption | omega) (by first | assumption | omega)) (cwV 0 hts gX0_answer_X5_rowOfAll rfl rfl rfl (by decide +kernel) ⟨Nat.le_of_ble_eq_true rfl, Nat.le_of_ble_eq_true rfl⟩) hK hP hD hS hA [1, 2, 3, 4, 5, 6, 7, 8, 9, 10, 11, 12, 13] [0] (wr := [(d_ 0, .inr (0, [.int (iI ya), .int (iI ye), .int (iI yw)]))]) rfl rfl (by decide) (by decide) (by decide) 0 5 rfl rfl rfl [0, 1, 2, 3, 4, 5, 6, 7, 8, 9, 10, 11, 12, 13] (fun (u : (Int → Int)) => (W_D_T_P cI cS d_ ya ye yw b a tk tg tl to ta te ts u a cnt lv kd gd ln st)) (fun _ => rfl) (by decide) rfl hl.1 rfl (Nat.le_of_ble_eq_true rfl) ⟨Nat.zero_le _, Nat.zero_le _⟩ dX0_answer_80 (fun r_ u_ H locs hw hP hD hS => ?_)
        obtain ⟨tr_8, eu_⟩ : ∃ z, z = u_ := ⟨_, rfl⟩
        subst eu_
        try dsimp only at hw
        subst hw
        have hP : va_P D vwCl (W_D_T_P cI cS d_ ya ye yw b a tk tg tl to ta te ts tr_8 a cnt lv kd gd ln st) H := hP
        have hD : va_D A (W_D_T_P cI cS d_ ya ye yw b a tk tg tl to ta te ts tr_8 a cnt lv kd gd ln st) := hD
        exact W.iret (v := iI (orAll (rowS tk tg ln st) cnt.toNat)) hx hb hr (fun t ht hW => ⟨⟨_, (tr_8), rfl, congrArg iI (show (orAll (rowS tk tg ln st) cnt.toNat) = (dAns cnt tk ln st (yw, tl, tg, ya, ye) w) from (by unfold dAns; dsimp only; (repeat (first | rw [if_pos (by omega)] | rw [if_neg (by omega)])))), by rw [ht]; exact hP, hD⟩, hS.F ht⟩) hS.2.2 dX0_answer_83
      refine n_tableOut (tgt := 84) hx hb dX0_answer_28 (by omega) (by omega) (by decide) ?_
      refine lv_aload_n hx hb dX0_answer_84 rfl (lv_at hl 1 rfl) ?_
      refine va_getN (D := D) (ci := 5) (v := .ref (a 0)) (C := RX5) (T := TX5) (N := 9) hx hb hts iw_5 hown hK.1 hP 1 rfl rfl 0 (by decide) fn_42 (fun _ h9 => h9) rfl dX0_answer_85 ?_
      refine lv_iload_n hx hb dX0_answer_88 rfl (lv_at hl 2 rfl) ?_
      refine lv_bipush (v := iI 10) hx hb dX0_answer_89 (by decide +kernel) ?_
      refine n_isub hx hb dX0_answer_91 ?_
      refine x_callVi (As := [.int (iI (w - 10))]) (rest := []) ⟨hx, hb, hml, hown, hts⟩ (c_X1_has l D cI cS a cnt lv kd gd ln st s.heap.size (w - 10) (by first | assumption | omega) (by first | assumption | omega)) (cwV 1 hts gX0_answer_X1_has rfl rfl rfl (by decide +kernel) ⟨Nat.le_of_ble_eq_true rfl, Nat.le_of_ble_eq_true rfl⟩) hK hP hD hS hA [9, 10, 11, 12, 13] [0, 1, 2, 3, 4, 5, 6, 7, 8] (wr := [(d_ 0, .inr (0, [.int (iI ya), .int (iI ye), .int (iI yw)])), (b 0, .inr (5, [.ref (a 0), .ref (b 1), .ref (b 2), .int (iI tl), .ref (b 3), .ref (b 4), .ref (b 5), .ref (b 6), .ref (b 7)])), (b 1, .inl (cI, 5, .inl (aI tk))), (b 2, .inl (cI, 5, .inl (aI tg))), (b 3, .inl (cI, 5, .inl (aI to))), (b 4, .inl (cI, 5, .inl (aI ta))), (b 5, .inl (cI, 5, .inl (aI te))), (b 6, .inl (cI, 5, .inl (aI ts))), (b 7, .inl (cI, 5, .inl (aI tr)))]) rfl rfl (by decide) (by decide) (by decide) 0 1 rfl rfl rfl [0, 1, 2, 3, 4, 5, 6, 7, 8, 9, 10, 11, 12, 13] (fun (u : Unit) => (W_D_T_P cI cS d_ ya ye yw b a tk tg tl to ta te ts tr a cnt lv kd gd ln st)) (fun _ => rfl) (by decide) rfl hl.1 rfl (Nat.le_of_ble_eq_true rfl) ⟨Nat.zero_le _, Nat.zero_le _⟩ dX0_answer_92 (fun r_ u_ H locs hw hP hD hS => ?_)
      try dsimp only at hw
      subst hw
      have hP : va_P D vwCl (W_D_T_P cI cS d_ ya ye yw b a tk tg tl to ta te ts tr a cnt lv kd gd ln st) H := hP
      have hD : va_D A (W_D_T_P cI cS d_ ya ye yw b a tk tg tl to ta te ts tr a cnt lv kd gd ln st) := hD
      refine n_if_b1 (tgt := 110) hx hb dX0_answer_95 (by decide)  (fun c_9 => ?_) (fun c_9 => ?_)
      ·
        refine lv_bipush (v := iI (-9)) hx hb dX0_answer_110 (by decide +kernel) ?_
        exact W.iret (v := iI (-9)) hx hb hr (fun t ht hW => ⟨⟨_, (tr), rfl, congrArg iI (show (-9) = (dAns cnt tk ln st (yw, tl, tg, ya, ye) w) from (by unfold dAns; dsimp only; (repeat (first | rw [if_pos (by omega)] | rw [if_neg (by omega)])))), by rw [ht]; exact hP, hD⟩, hS.F ht⟩) hS.2.2 dX0_answer_112
      ·
        refine lv_aload_n hx hb dX0_answer_98 rfl (lv_at hl 1 rfl) ?_
        refine va_getN (D := D) (ci := 5) (v := .ref (b 2)) (C := RX5) (T := TX5) (N := 9) hx hb hts iw_5 hown hK.1 hP 1 rfl rfl 2 (by decide) fn_56 (fun _ h9 => h9) rfl dX0_answer_99 ?_
        refine lv_iload_n hx hb dX0_answer_102 rfl (lv_at hl 2 rfl) ?_
        refine lv_bipush (v := iI 10) hx hb dX0_answer_103 (by decide +kernel) ?_
        refine n_isub hx hb dX0_answer_105 ?_
        refine n_iald (n := 5) hx hb hK.1 hP 3 0 rfl rfl (by omega) (by decide) dX0_answer_106 ?_
        refine lv_goto (tgt := 112) hx hb dX0_answer_107 (by decide) ?_
        exact W.iret (v := iI (tg (w - 10))) hx hb hr (fun t ht hW => ⟨⟨_, (tr), rfl, congrArg iI (show (tg (w - 10)) = (dAns cnt tk ln st (yw, tl, tg, ya, ye) w) from (by unfold dAns; dsimp only; (repeat (first | rw [if_pos (by omega)] | rw [if_neg (by omega)])))), by rw [ht]; exact hP, hD⟩, hS.F ht⟩) hS.2.2 dX0_answer_112
    ·
      refine lv_bipush (v := iI (-100)) hx hb dX0_answer_19 (by decide +kernel) ?_
      refine lv_aload_n hx hb dX0_answer_21 rfl (lv_at hl 0 rfl) ?_
      refine va_get (D := D) (ci := 0) (v := .int (iI yw)) (C := RX0) (T := TX0) (N := 3) hx hb hts iw_0 hown hK.1 hP 0 rfl rfl 2 (by decide) fl_18 (fun _ h9 => h9) rfl dX0_answer_22 ?_
      refine n_isub hx hb dX0_answer_25 ?_
      exact W.iret (v := iI ((-100) - yw)) hx hb hr (fun t ht hW => ⟨⟨_, (tr), rfl, congrArg iI (show ((-100) - yw) = (dAns cnt tk ln st (yw, tl, tg, ya, ye) w) from (by unfold dAns; dsimp only; (repeat (first | rw [if_pos (by omega)] | rw [if_neg (by omega)])))), by rw [ht]; exact hP, hD⟩, hS.F ht⟩) hS.2.2 dX0_answer_26
  ·
    refine lv_aload_n hx hb dX0_answer_5 rfl (lv_at hl 0 rfl) ?_
    refine va_get (D := D) (ci := 0) (v := .int (iI yw)) (C := RX0) (T := TX0) (N := 3) hx hb hts iw_0 hown hK.1 hP 0 rfl rfl 2 (by decide) fl_18 (fun _ h9 => h9) rfl dX0_answer_6 ?_
    exact W.iret (v := iI yw) hx hb hr (fun t ht hW => ⟨⟨_, (tr), rfl, congrArg iI (show yw = (dAns cnt tk ln st (yw, tl, tg, ya, ye) w) from (by unfold dAns; dsimp only; (repeat (first | rw [if_pos (by omega)] | rw [if_neg (by omega)])))), by rw [ht]; exact hP, hD⟩, hS.F ht⟩) hS.2.2 dX0_answer_9
