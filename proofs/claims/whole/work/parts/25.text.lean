abbrev W_R (cI cS : ClassId) (A_0 : Nat → Nat) (rn_0 : Int) (rf_0 : Int → Int) (ro_0 : Int → Int) : va_W := [(A_0 0, .inr (2, [.ref (A_0 1), .ref (A_0 2), .int (iI rn_0)])), (A_0 1, .inl (cI, 8, .inl (aI rf_0))), (A_0 2, .inl (cI, 8, .inl (aI ro_0)))]
abbrev W_R_T_P (cI cS : ClassId) (A_0 : Nat → Nat) (rn_0 : Int) (rf_0 : Int → Int) (ro_0 : Int → Int) (A_1 : Nat → Nat) (pa_1 : Nat → Nat) (tk_1 : Int → Int) (tg_1 : Int → Int) (tl_1 : Int) (to_1 : Int → Int) (ta_1 : Int → Int) (te_1 : Int → Int) (ts_1 : Int → Int) (tr_1 : Int → Int) (A_2 : Nat → Nat) (cnt_2 : Int) (lv_2 : Int) (kd_2 : Int → Int) (gd_2 : Int → Int) (ln_2 : Int → Int) (st_2 : Int → Int) : va_W := [(A_0 0, .inr (2, [.ref (A_0 1), .ref (A_0 2), .int (iI rn_0)])), (A_0 1, .inl (cI, 8, .inl (aI rf_0))), (A_0 2, .inl (cI, 8, .inl (aI ro_0))), (A_1 0, .inr (5, [.ref (pa_1 0), .ref (A_1 1), .ref (A_1 2), .int (iI tl_1), .ref (A_1 3), .ref (A_1 4), .ref (A_1 5), .ref (A_1 6), .ref (A_1 7)])), (A_1 1, .inl (cI, 5, .inl (aI tk_1))), (A_1 2, .inl (cI, 5, .inl (aI tg_1))), (A_1 3, .inl (cI, 5, .inl (aI to_1))), (A_1 4, .inl (cI, 5, .inl (aI ta_1))), (A_1 5, .inl (cI, 5, .inl (aI te_1))), (A_1 6, .inl (cI, 5, .inl (aI ts_1))), (A_1 7, .inl (cI, 5, .inl (aI tr_1))), (A_2 0, .inr (1, [.ref (A_2 1), .ref (A_2 2), .ref (A_2 3), .ref (A_2 4), .int (iI cnt_2), .int (iI lv_2)])), (A_2 1, .inl (cI, 5, .inl (aI kd_2))), (A_2 2, .inl (cI, 5, .inl (aI gd_2))), (A_2 3, .inl (cI, 5, .inl (aI ln_2))), (A_2 4, .inl (cI, 20, .inl (aI st_2)))]
abbrev W_P_P (cI cS : ClassId) (A_0 : Nat → Nat) (cnt_0 : Int) (lv_0 : Int) (kd_0 : Int → Int) (gd_0 : Int → Int) (ln_0 : Int → Int) (st_0 : Int → Int) (A_1 : Nat → Nat) (cnt_1 : Int) (lv_1 : Int) (kd_1 : Int → Int) (gd_1 : Int → Int) (ln_1 : Int → Int) (st_1 : Int → Int) : va_W := [(A_0 0, .inr (1, [.ref (A_0 1), .ref (A_0 2), .ref (A_0 3), .ref (A_0 4), .int (iI cnt_0), .int (iI lv_0)])), (A_0 1, .inl (cI, 5, .inl (aI kd_0))), (A_0 2, .inl (cI, 5, .inl (aI gd_0))), (A_0 3, .inl (cI, 5, .inl (aI ln_0))), (A_0 4, .inl (cI, 20, .inl (aI st_0))), (A_1 0, .inr (1, [.ref (A_1 1), .ref (A_1 2), .ref (A_1 3), .ref (A_1 4), .int (iI cnt_1), .int (iI lv_1)])), (A_1 1, .inl (cI, 5, .inl (aI kd_1))), (A_1 2, .inl (cI, 5, .inl (aI gd_1))), (A_1 3, .inl (cI, 5, .inl (aI ln_1))), (A_1 4, .inl (cI, 20, .inl (aI st_1)))]
abbrev W_X_P (cI cS : ClassId) (A_0 : Nat → Nat) (pa_0 : Nat → Nat) (at__0 : Int) (A_1 : Nat → Nat) (cnt_1 : Int) (lv_1 : Int) (kd_1 : Int → Int) (gd_1 : Int → Int) (ln_1 : Int → Int) (st_1 : Int → Int) : va_W := [(A_0 0, .inr (4, [.ref (pa_0 0), .int (iI at__0)])), (A_1 0, .inr (1, [.ref (A_1 1), .ref (A_1 2), .ref (A_1 3), .ref (A_1 4), .int (iI cnt_1), .int (iI lv_1)])), (A_1 1, .inl (cI, 5, .inl (aI kd_1))), (A_1 2, .inl (cI, 5, .inl (aI gd_1))), (A_1 3, .inl (cI, 5, .inl (aI ln_1))), (A_1 4, .inl (cI, 20, .inl (aI st_1)))]
abbrev W_X_P_S (cI cS : ClassId) (A_0 : Nat → Nat) (pa_0 : Nat → Nat) (at__0 : Int) (A_1 : Nat → Nat) (cnt_1 : Int) (lv_1 : Int) (kd_1 : Int → Int) (gd_1 : Int → Int) (ln_1 : Int → Int) (st_1 : Int → Int) (A_2 : Nat → Nat) (lane_2 : Int) (len_2 : Int) (cl_2 : Int → Int) : va_W := [(A_0 0, .inr (4, [.ref (pa_0 0), .int (iI at__0)])), (A_1 0, .inr (1, [.ref (A_1 1), .ref (A_1 2), .ref (A_1 3), .ref (A_1 4), .int (iI cnt_1), .int (iI lv_1)])), (A_1 1, .inl (cI, 5, .inl (aI kd_1))), (A_1 2, .inl (cI, 5, .inl (aI gd_1))), (A_1 3, .inl (cI, 5, .inl (aI ln_1))), (A_1 4, .inl (cI, 20, .inl (aI st_1))), (A_2 0, .inr (3, [.ref (A_2 1), .int (iI lane_2), .int (iI len_2)])), (A_2 1, .inl (cI, 60, .inl (aI cl_2)))]
set_option maxHeartbeats 4000000 in
set_option maxRecDepth 100000 in
theorem c_X2_add (l : Launch) (D : va_G) (cI cS : ClassId) (r_ : Nat → Nat) (rn : Int) (rf : Int → Int) (ro : Int → Int) (sz : Nat) (f : Int) (x : Int) (hrn : 0 ≤ rn ∧ rn ≤ 8) : Met l yX2_add wsX2_add ({ frames := 0, cells := 0, slots := 0, locals := 0 }) (cP D cI cS (W_R cI cS r_ rn rf ro) sz [.ref (r_ 0), .int (iI f), .int (iI x)]) (va_Qi (fun (r : Int32) (u : Unit) => r = iI (if rn < 8 then rn else (-4))) (fun (u : Unit) t => cB D (va_A (W_R cI cS r_ rn rf ro) sz) (W_R cI cS r_ (if rn < 8 then rn + 1 else rn) (if rn < 8 then updI rf rn f else rf) (if rn < 8 then updI ro rn x else ro)) t) (va_A (W_R cI cS r_ rn rf ro) sz)) 0 0 (va_A (W_R cI cS r_ rn rf ro) sz) := by
  refine Met.ofW (cc := cX2_add) (maxL := 3) (ret := (some .int)) (by decide) rfl ?_
  intro p e s m args below meth c_ s₁ B hml hv
  obtain ⟨rfl, hsz, hP, hK, hD0⟩ := hv
  have hx := B.exec
  have hb := B.bytes
  have hr := B.returns
  have hts := atoms_spec (ws := wsX2_add) B.pre
  have hown : s.vm.findClass RX2 = some m.cls := findClass_of_methodNamed B.named
  have hlocks := B.notSynchronized
  subst hsz
  have hD := hD0.self (sz := s.heap.size)
  generalize hAe : va_A (W_R cI cS r_ rn rf ro) s.heap.size = A at hD ⊢
  have hA : ∀ q : Nat, s.heap.size ≤ q → A q := fun q h => by rw [← hAe]; exact Or.inr h
  have hS : va_S A s.heap s.heap [] := va_S.rf
  have hP : va_P D vwCl (W_R cI cS r_ rn rf ro) s.heap := hP
  have hl := lv_entry ([.ref (r_ 0), .int (iI f), .int (iI x)] : List Value) (n := 3) (Nat.le_of_ble_eq_true rfl)
  rw [lg_entry_eq]
  generalize (lg_sl ([.ref (r_ 0), .int (iI f), .int (iI x)] : List Value) ++ List.replicate (3 - (lg_sl ([.ref (r_ 0), .int (iI f), .int (iI x)] : List Value)).length) Slot.unset).toArray = ls at hl ⊢
  have hl : lv_has ls 3 [(0, .ref (r_ 0)), (1, .int (iI f)), (2, .int (iI x))] := hl
  have fl_18 := hts (.fieldLink RX2 18 "ActRows$Readings" "count" "I") (by decide +kernel)
  have iw_2 : ∀ w ∈ wsX20, w ∈ wsX2_add := by decide +kernel
  have fl_9 := hts (.fieldLink RX2 9 "ActRows$Readings" "functions" "[I") (by decide +kernel)
  have fl_15 := hts (.fieldLink RX2 15 "ActRows$Readings" "outs" "[I") (by decide +kernel)
  refine lv_aload_n hx hb dX2_add_0 rfl (lv_at hl 0 rfl) ?_
  refine va_get (D := D) (ci := 2) (v := .int (iI rn)) (C := RX2) (T := TX2) (N := 3) hx hb hts iw_2 hown hK.1 hP 0 rfl rfl 2 (by decide) fl_18 (fun _ h9 => h9) rfl dX2_add_1 ?_
  refine lv_bipush (v := iI 8) hx hb dX2_add_4 (by decide +kernel) ?_
  refine n_icmp_lt (tgt := 12) hx hb dX2_add_6 (by decide) (by omega) (fun c_1 => ?_) (fun c_1 => ?_)
  ·
    refine lv_aload_n hx hb dX2_add_12 rfl (lv_at hl 0 rfl) ?_
    refine va_get (D := D) (ci := 2) (v := .ref (r_ 1)) (C := RX2) (T := TX2) (N := 3) hx hb hts iw_2 hown hK.1 hP 0 rfl rfl 0 (by decide) fl_9 (fun _ h9 => h9) rfl dX2_add_13 ?_
    refine lv_aload_n hx hb dX2_add_16 rfl (lv_at hl 0 rfl) ?_
    refine va_get (D := D) (ci := 2) (v := .int (iI rn)) (C := RX2) (T := TX2) (N := 3) hx hb hts iw_2 hown hK.1 hP 0 rfl rfl 2 (by decide) fl_18 (fun _ h9 => h9) rfl dX2_add_17 ?_
    refine lv_iload_n hx hb dX2_add_20 rfl (lv_at hl 1 rfl) ?_
    refine n_iast (n := 8) hx hb hK.1 hP hD hS 1 0 rfl rfl (by omega) (by decide) dX2_add_21 (fun H locs hP hD hS => ?_)
    have hP : va_P D vwCl (W_R cI cS r_ rn (updI rf rn f) ro) H := hP
    have hD : va_D A (W_R cI cS r_ rn (updI rf rn f) ro) := hD
    refine lv_aload_n hx hb dX2_add_22 rfl (lv_at hl 0 rfl) ?_
    refine va_get (D := D) (ci := 2) (v := .ref (r_ 2)) (C := RX2) (T := TX2) (N := 3) hx hb hts iw_2 hown hK.1 hP 0 rfl rfl 1 (by decide) fl_15 (fun _ h9 => h9) rfl dX2_add_23 ?_
    refine lv_aload_n hx hb dX2_add_26 rfl (lv_at hl 0 rfl) ?_
    refine va_get (D := D) (ci := 2) (v := .int (iI rn)) (C := RX2) (T := TX2) (N := 3) hx hb hts iw_2 hown hK.1 hP 0 rfl rfl 2 (by decide) fl_18 (fun _ h9 => h9) rfl dX2_add_27 ?_
    refine lv_iload_n hx hb dX2_add_30 rfl (lv_at hl 2 rfl) ?_
    refine n_iast (n := 8) hx hb hK.1 hP hD hS 2 0 rfl rfl (by omega) (by decide) dX2_add_31 (fun H locs hP hD hS => ?_)
    have hP : va_P D vwCl (W_R cI cS r_ rn (updI rf rn f) (updI ro rn x)) H := hP
    have hD : va_D A (W_R cI cS r_ rn (updI rf rn f) (updI ro rn x)) := hD
    refine lv_aload_n hx hb dX2_add_32 rfl (lv_at hl 0 rfl) ?_
    refine lv_dup hx hb dX2_add_33 rfl ?_
    refine va_get (D := D) (ci := 2) (v := .int (iI rn)) (C := RX2) (T := TX2) (N := 3) hx hb hts iw_2 hown hK.1 hP 0 rfl rfl 2 (by decide) fl_18 (fun _ h9 => h9) rfl dX2_add_34 ?_
    refine lv_iconst (v := iI 1) hx hb dX2_add_37 (by decide +kernel) ?_
    refine n_iadd hx hb dX2_add_38 ?_
    refine va_put (D := D) (ci := 2) (v := .int (iI (rn + 1))) (ty := .int) (C := RX2) (T := TX2) (N := 3) hx hb hts iw_2 tyX2 tyX2_ok nmX2 hown hK.1 hP hD hS 0 rfl rfl 2 (by decide) fl_18 (fun _ h9 => h9) rfl (by decide +kernel) rfl rfl (Nat.le_of_ble_eq_true rfl) dX2_add_39 (fun H locs hP hD hS => ?_)
    have hP : va_P D vwCl (W_R cI cS r_ (rn + 1) (updI rf rn f) (updI ro rn x)) H := hP
    have hD : va_D A (W_R cI cS r_ (rn + 1) (updI rf rn f) (updI ro rn x)) := hD
    refine lv_aload_n hx hb dX2_add_42 rfl (lv_at hl 0 rfl) ?_
    refine va_get (D := D) (ci := 2) (v := .int (iI (rn + 1))) (C := RX2) (T := TX2) (N := 3) hx hb hts iw_2 hown hK.1 hP 0 rfl rfl 2 (by decide) fl_18 (fun _ h9 => h9) rfl dX2_add_43 ?_
    refine lv_iconst (v := iI 1) hx hb dX2_add_46 (by decide +kernel) ?_
    refine n_isub hx hb dX2_add_47 ?_
    have e_2 : ((rn + 1) : Int) = (if rn < 8 then rn + 1 else rn) := (by first | rfl | omega | (rw [if_pos (by omega)]) | (rw [if_neg (by omega)]))
    have hP : va_P D vwCl (W_R cI cS r_ (if rn < 8 then rn + 1 else rn) (updI rf rn f) (updI ro rn x)) H := Eq.mp (congrArg (fun z_ => va_P D vwCl (W_R cI cS r_ z_ (updI rf rn f) (updI ro rn x)) H) e_2) hP
    have hD : va_D A (W_R cI cS r_ (if rn < 8 then rn + 1 else rn) (updI rf rn f) (updI ro rn x)) := Eq.mp (congrArg (fun z_ => va_D A (W_R cI cS r_ z_ (updI rf rn f) (updI ro rn x))) e_2) hD
    have e_3 : ((updI rf rn f) : Int → Int) = (if rn < 8 then updI rf rn f else rf) := (by first | rfl | omega | (rw [if_pos (by omega)]) | (rw [if_neg (by omega)]))
    have hP : va_P D vwCl (W_R cI cS r_ (if rn < 8 then rn + 1 else rn) (if rn < 8 then updI rf rn f else rf) (updI ro rn x)) H := Eq.mp (congrArg (fun z_ => va_P D vwCl (W_R cI cS r_ (if rn < 8 then rn + 1 else rn) z_ (updI ro rn x)) H) e_3) hP
    have hD : va_D A (W_R cI cS r_ (if rn < 8 then rn + 1 else rn) (if rn < 8 then updI rf rn f else rf) (updI ro rn x)) := Eq.mp (congrArg (fun z_ => va_D A (W_R cI cS r_ (if rn < 8 then rn + 1 else rn) z_ (updI ro rn x))) e_3) hD
    have e_4 : ((updI ro rn x) : Int → Int) = (if rn < 8 then updI ro rn x else ro) := (by first | rfl | omega | (rw [if_pos (by omega)]) | (rw [if_neg (by omega)]))
    have hP : va_P D vwCl (W_R cI cS r_ (if rn < 8 then rn + 1 else rn) (if rn < 8 then updI rf rn f else rf) (if rn < 8 then updI ro rn x else ro)) H := Eq.mp (congrArg (fun z_ => va_P D vwCl (W_R cI cS r_ (if rn < 8 then rn + 1 else rn) (if rn < 8 then updI rf rn f else rf) z_) H) e_4) hP
    have hD : va_D A (W_R cI cS r_ (if rn < 8 then rn + 1 else rn) (if rn < 8 then updI rf rn f else rf) (if rn < 8 then updI ro rn x else ro)) := Eq.mp (congrArg (fun z_ => va_D A (W_R cI cS r_ (if rn < 8 then rn + 1 else rn) (if rn < 8 then updI rf rn f else rf) z_)) e_4) hD
    exact W.iret (v := iI ((rn + 1) - 1)) hx hb hr (fun t ht hW => ⟨⟨_, (), rfl, congrArg iI (show ((rn + 1) - 1) = (if rn < 8 then rn else (-4)) from (by first | (rw [if_pos (by omega)]; omega) | (rw [if_neg (by omega)]))), by rw [ht]; exact hP, hD⟩, hS.F ht⟩) hS.2.2 dX2_add_48
  ·
    refine lv_bipush (v := iI (-4)) hx hb dX2_add_9 (by decide +kernel) ?_
    have e_5 : (rn : Int) = (if rn < 8 then rn + 1 else rn) := (by first | rfl | omega | (rw [if_pos (by omega)]) | (rw [if_neg (by omega)]))
    have hP : va_P D vwCl (W_R cI cS r_ (if rn < 8 then rn + 1 else rn) rf ro) s.heap := Eq.mp (congrArg (fun z_ => va_P D vwCl (W_R cI cS r_ z_ rf ro) s.heap) e_5) hP
    have hD : va_D A (W_R cI cS r_ (if rn < 8 then rn + 1 else rn) rf ro) := Eq.mp (congrArg (fun z_ => va_D A (W_R cI cS r_ z_ rf ro)) e_5) hD
    have e_6 : (rf : Int → Int) = (if rn < 8 then updI rf rn f else rf) := (by first | rfl | omega | (rw [if_pos (by omega)]) | (rw [if_neg (by omega)]))
    have hP : va_P D vwCl (W_R cI cS r_ (if rn < 8 then rn + 1 else rn) (if rn < 8 then updI rf rn f else rf) ro) s.heap := Eq.mp (congrArg (fun z_ => va_P D vwCl (W_R cI cS r_ (if rn < 8 then rn + 1 else rn) z_ ro) s.heap) e_6) hP
    have hD : va_D A (W_R cI cS r_ (if rn < 8 then rn + 1 else rn) (if rn < 8 then updI rf rn f else rf) ro) := Eq.mp (congrArg (fun z_ => va_D A (W_R cI cS r_ (if rn < 8 then rn + 1 else rn) z_ ro)) e_6) hD
    have e_7 : (ro : Int → Int) = (if rn < 8 then updI ro rn x else ro) := (by first | rfl | omega | (rw [if_pos (by omega)]) | (rw [if_neg (by omega)]))
    have hP : va_P D vwCl (W_R cI cS r_ (if rn < 8 then rn + 1 else rn) (if rn < 8 then updI rf rn f else rf) (if rn < 8 then updI ro rn x else ro)) s.heap := Eq.mp (congrArg (fun z_ => va_P D vwCl (W_R cI cS r_ (if rn < 8 then rn + 1 else rn) (if rn < 8 then updI rf rn f else rf) z_) s.heap) e_7) hP
    have hD : va_D A (W_R cI cS r_ (if rn < 8 then rn + 1 else rn) (if rn < 8 then updI rf rn f else rf) (if rn < 8 then updI ro rn x else ro)) := Eq.mp (congrArg (fun z_ => va_D A (W_R cI cS r_ (if rn < 8 then rn + 1 else rn) (if rn < 8 then updI rf rn f else rf) z_)) e_7) hD
    exact W.iret (v := iI (-4)) hx hb hr (fun t ht hW => ⟨⟨_, (), rfl, congrArg iI (show (-4) = (if rn < 8 then rn else (-4)) from (by first | (rw [if_pos (by omega)]; omega) | (rw [if_neg (by omega)]))), by rw [ht]; exact hP, hD⟩, hS.F ht⟩) hS.2.2 dX2_add_11
set_option maxHeartbeats 4000000 in
set_option maxRecDepth 100000 in
theorem c_X2_takeBack (l : Launch) (D : va_G) (cI cS : ClassId) (r_ : Nat → Nat) (rn : Int) (rf : Int → Int) (ro : Int → Int) (sz : Nat) (k : Int) (hrn : 0 ≤ rn ∧ rn ≤ 8) (hk : 0 ≤ k ∧ k ≤ rn) : Met l yX2_takeBack wsX2_takeBack ({ frames := 1, cells := 0, slots := 0, locals := 30 }) (cP D cI cS (W_R cI cS r_ rn rf ro) sz [.ref (r_ 0), .int (iI k)]) (va_Qv (fun (u : Unit) => True) (fun (u : Unit) t => cB D (va_A (W_R cI cS r_ rn rf ro) sz) (W_R cI cS r_ (rn - k) rf ro) t) (va_A (W_R cI cS r_ rn rf ro) sz)) 0 0 (va_A (W_R cI cS r_ rn rf ro) sz) := by
  refine Met.ofW (cc := cX2_takeBack) (maxL := 2) (ret := none) (by decide) rfl ?_
  intro p e s m args below meth c_ s₁ B hml hv
  obtain ⟨rfl, hsz, hP, hK, hD0⟩ := hv
  have hx := B.exec
  have hb := B.bytes
  have hr := B.returns
  have hts := atoms_spec (ws := wsX2_takeBack) B.pre
  have hown : s.vm.findClass RX2 = some m.cls := findClass_of_methodNamed B.named
  have hlocks := B.notSynchronized
  subst hsz
  have hD := hD0.self (sz := s.heap.size)
  generalize hAe : va_A (W_R cI cS r_ rn rf ro) s.heap.size = A at hD ⊢
  have hA : ∀ q : Nat, s.heap.size ≤ q → A q := fun q h => by rw [← hAe]; exact Or.inr h
  have hS : va_S A s.heap s.heap [] := va_S.rf
  have hP : va_P D vwCl (W_R cI cS r_ rn rf ro) s.heap := hP
  have hl := lv_entry ([.ref (r_ 0), .int (iI k)] : List Value) (n := 2) (Nat.le_of_ble_eq_true rfl)
  rw [lg_entry_eq]
  generalize (lg_sl ([.ref (r_ 0), .int (iI k)] : List Value) ++ List.replicate (2 - (lg_sl ([.ref (r_ 0), .int (iI k)] : List Value)).length) Slot.unset).toArray = ls at hl ⊢
  have hl : lv_has ls 2 [(0, .ref (r_ 0)), (1, .int (iI k))] := hl
  have fl_18 := hts (.fieldLink RX2 18 "ActRows$Readings" "count" "I") (by decide +kernel)
  have iw_2 : ∀ w ∈ wsX20, w ∈ wsX2_takeBack := by decide +kernel
  have xl_ := hts (.methodLink RX2 22 Lib.Math.max.name) (by decide +kernel)
  have xs_ := hts (.static Lib.Math.max.name) (by decide +kernel)
  have xi_ := hts (.initialized "java/lang/Math") (by decide +kernel)
  have xc_ := hts (.code Lib.Math.max.name Lib.Math.max.code 2 (some .int)) (by decide +kernel)
  refine lv_aload_n hx hb dX2_takeBack_0 rfl (lv_at hl 0 rfl) ?_
  refine lv_iconst (v := iI 0) hx hb dX2_takeBack_1 (by decide +kernel) ?_
  refine lv_aload_n hx hb dX2_takeBack_2 rfl (lv_at hl 0 rfl) ?_
  refine va_get (D := D) (ci := 2) (v := .int (iI rn)) (C := RX2) (T := TX2) (N := 3) hx hb hts iw_2 hown hK.1 hP 0 rfl rfl 2 (by decide) fl_18 (fun _ h9 => h9) rfl dX2_takeBack_3 ?_
  refine lv_iload_n hx hb dX2_takeBack_6 rfl (lv_at hl 1 rfl) ?_
  refine n_isub hx hb dX2_takeBack_7 ?_
  refine n_max hx hb (by rw [hml]; exact hl.1.symm) hown xl_ xs_ xi_ xc_ (Nat.le_of_ble_eq_true rfl) (Nat.le_of_ble_eq_true rfl) (Nat.zero_le _) (Nat.zero_le _) (by omega) dX2_takeBack_8 ?_
  refine va_put (D := D) (ci := 2) (v := .int (iI (if 0 < (rn - k) then (rn - k) else 0))) (ty := .int) (C := RX2) (T := TX2) (N := 3) hx hb hts iw_2 tyX2 tyX2_ok nmX2 hown hK.1 hP hD hS 0 rfl rfl 2 (by decide) fl_18 (fun _ h9 => h9) rfl (by decide +kernel) rfl rfl (Nat.le_of_ble_eq_true rfl) dX2_takeBack_11 (fun H locs hP hD hS => ?_)
  have hP : va_P D vwCl (W_R cI cS r_ (if 0 < (rn - k) then (rn - k) else 0) rf ro) H := hP
  have hD : va_D A (W_R cI cS r_ (if 0 < (rn - k) then (rn - k) else 0) rf ro) := hD
  have e_1 : ((if 0 < (rn - k) then (rn - k) else 0) : Int) = (rn - k) := (by split <;> omega)
  have hP : va_P D vwCl (W_R cI cS r_ (rn - k) rf ro) H := Eq.mp (congrArg (fun z_ => va_P D vwCl (W_R cI cS r_ z_ rf ro) H) e_1) hP
  have hD : va_D A (W_R cI cS r_ (rn - k) rf ro) := Eq.mp (congrArg (fun z_ => va_D A (W_R cI cS r_ z_ rf ro)) e_1) hD
  exact W.vret hx hb hr (fun t ht hW => ⟨⟨(), rfl, trivial, by rw [ht]; exact hP, hD⟩, hS.F ht⟩) hS.2.2 dX2_takeBack_14
set_option maxHeartbeats 4000000 in
set_option maxRecDepth 100000 in
theorem c_X2_areSo (l : Launch) (D : va_G) (cI cS : ClassId) (r_ : Nat → Nat) (b : Nat → Nat) (a : Nat → Nat) (rn : Int) (rf : Int → Int) (ro : Int → Int) (tk : Int → Int) (tg : Int → Int) (tl : Int) (to : Int → Int) (ta : Int → Int) (te : Int → Int) (ts : Int → Int) (tr : Int → Int) (cnt : Int) (lv : Int) (kd : Int → Int) (gd : Int → Int) (ln : Int → Int) (st : Int → Int) (sz : Nat) (hok : okP cnt ln st) (hkk : okK cnt tk tg tl) (hrn : 0 ≤ rn ∧ rn ≤ 8) (hrd : ∀ x : Int, 0 ≤ x → x < rn → (0 ≤ rf x ∧ rf x < cnt) ∧ 0 ≤ ro x ∧ ro x ≤ 4) : Met l yX2_areSo wsX2_areSo ({ frames := 5, cells := 0, slots := 0, locals := 110 }) (cP D cI cS (W_R_T_P cI cS r_ rn rf ro b a tk tg tl to ta te ts tr a cnt lv kd gd ln st) sz [.ref (r_ 0), .ref (b 0)]) (va_Qi (fun (r : Int32) (u : (Int → Int) × (Int → Int) × (Int → Int) × (Int → Int)) => r = iI (if soI (fun g => (sem tk tg tl ln st g).1) rf ro rn.toNat = true then 1 else 0)) (fun (u : (Int → Int) × (Int → Int) × (Int → Int) × (Int → Int)) t => cB D (va_A (W_R_T_P cI cS r_ rn rf ro b a tk tg tl to ta te ts tr a cnt lv kd gd ln st) sz) (W_R_T_P cI cS r_ rn rf ro b a tk tg tl u.1 u.2.1 u.2.2.1 u.2.2.2 tr a cnt lv kd gd ln st) t) (va_A (W_R_T_P cI cS r_ rn rf ro b a tk tg tl to ta te ts tr a cnt lv kd gd ln st) sz)) 0 0 (va_A (W_R_T_P cI cS r_ rn rf ro b a tk tg tl to ta te ts tr a cnt lv kd gd ln st) sz) := by
  refine Met.ofW (cc := cX2_areSo) (maxL := 4) (ret := (some .boolean)) (by decide) rfl ?_
  intro p e s m args below meth c_ s₁ B hml hv
  obtain ⟨rfl, hsz, hP, hK, hD0⟩ := hv
  have hx := B.exec
  have hb := B.bytes
  have hr := B.returns
  have hts := atoms_spec (ws := wsX2_areSo) B.pre
  have hown : s.vm.findClass RX2 = some m.cls := findClass_of_methodNamed B.named
  have hlocks := B.notSynchronized
  subst hsz
  have hD := hD0.self (sz := s.heap.size)
  generalize hAe : va_A (W_R_T_P cI cS r_ rn rf ro b a tk tg tl to ta te ts tr a cnt lv kd gd ln st) s.heap.size = A at hD ⊢
  have hA : ∀ q : Nat, s.heap.size ≤ q → A q := fun q h => by rw [← hAe]; exact Or.inr h
  have hS : va_S A s.heap s.heap [] := va_S.rf
  have hP : va_P D vwCl (W_R_T_P cI cS r_ rn rf ro b a tk tg tl to ta te ts tr a cnt lv kd gd ln st) s.heap := hP
  have hl := lv_entry ([.ref (r_ 0), .ref (b 0)] : List Value) (n := 4) (Nat.le_of_ble_eq_true rfl)
  rw [lg_entry_eq]
  generalize (lg_sl ([.ref (r_ 0), .ref (b 0)] : List Value) ++ List.replicate (4 - (lg_sl ([.ref (r_ 0), .ref (b 0)] : List Value)).length) Slot.unset).toArray = ls at hl ⊢
  have hl : lv_has ls 4 [(0, .ref (r_ 0)), (1, .ref (b 0))] := hl
  have fl_18 := hts (.fieldLink RX2 18 "ActRows$Readings" "count" "I") (by decide +kernel)
  have iw_2 : ∀ w ∈ wsX20, w ∈ wsX2_areSo := by decide +kernel
  have fl_9 := hts (.fieldLink RX2 9 "ActRows$Readings" "functions" "[I") (by decide +kernel)
  have fn_33 := va_Nw.use (A := ([.ref (r_ 0), .ref (b 0)] : List Value).toArray) rfl (hK.2 ("ActRows$Readings", 33, "ActRows$Trial", "program", "LActRows$Program;") (List.mem_of_getElem? (i := 22) rfl))
  have iw_5 : ∀ w ∈ wsX50, w ∈ wsX2_areSo := by decide +kernel
  have fn_43 := va_Nw.use (A := ([.ref (r_ 0), .ref (b 0)] : List Value).toArray) rfl (hK.2 ("ActRows$Readings", 43, "ActRows$Trial", "outs", "[I") (List.mem_of_getElem? (i := 23) rfl))
  have fl_15 := hts (.fieldLink RX2 15 "ActRows$Readings" "outs" "[I") (by decide +kernel)
  have hc := hok.1
  have hln := hok.2.1
  refine lv_aload_n hx hb dX2_areSo_0 rfl (lv_at hl 1 rfl) ?_
  refine x_callVv (As := []) (rest := []) ⟨hx, hb, hml, hown, hts⟩ (c_X5_settleAll l D cI cS b a tk tg tl to ta te ts tr cnt lv kd gd ln st s.heap.size (by first | assumption | omega) (by first | assumption | omega)) (cwV 0 hts gX2_areSo_X5_settleAll rfl rfl rfl (by decide +kernel) ⟨Nat.le_of_ble_eq_true rfl, Nat.le_of_ble_eq_true rfl⟩) hK hP hD hS hA [3, 4, 5, 6, 7, 8, 9, 10, 11, 12, 13, 14, 15] [0, 1, 2] (wr := [(r_ 0, .inr (2, [.ref (r_ 1), .ref (r_ 2), .int (iI rn)])), (r_ 1, .inl (cI, 8, .inl (aI rf))), (r_ 2, .inl (cI, 8, .inl (aI ro)))]) rfl rfl (by decide) (by decide) (by decide) 0 5 rfl rfl rfl [0, 1, 2, 3, 4, 5, 6, 7, 8, 9, 10, 11, 12, 13, 14, 15] (fun (u : (Int → Int) × (Int → Int) × (Int → Int) × (Int → Int)) => (W_R_T_P cI cS r_ rn rf ro b a tk tg tl u.1 u.2.1 u.2.2.1 u.2.2.2 tr a cnt lv kd gd ln st)) (fun _ => rfl) (by decide) rfl hl.1 rfl (Nat.le_of_ble_eq_true rfl) ⟨Nat.zero_le _, Nat.zero_le _⟩ dX2_areSo_1 (fun u_ H locs hw hP hD hS => ?_)
  obtain ⟨to2, ta_1, te_2, ts_3⟩ := u_
  try dsimp only at hw
  have hT2 := hw
  have hP : va_P D vwCl (W_R_T_P cI cS r_ rn rf ro b a tk tg tl to2 ta_1 te_2 ts_3 tr a cnt lv kd gd ln st) H := hP
  have hD : va_D A (W_R_T_P cI cS r_ rn rf ro b a tk tg tl to2 ta_1 te_2 ts_3 tr a cnt lv kd gd ln st) := hD
  refine lv_iconst (v := iI 0) hx hb dX2_areSo_4 (by decide +kernel) ?_
  refine lv_istore_n (lv' := [(2, .int (iI 0)), (0, .ref (r_ 0)), (1, .ref (b 0))]) hx hb dX2_areSo_5 rfl hl (by decide) rfl (fun ls hl => ?_)
  refine x_loop (σ := Int) (fun (x : Int) => (0 ≤ x ∧ x ≤ rn) ∧ (soI (fun g => (sem tk tg tl ln st g).1) rf ro x.toNat = true)) (fun (x : Int) => (rn - x).toNat) (fun (x : Int) => (W_R_T_P cI cS r_ rn rf ro b a tk tg tl to2 ta_1 te_2 ts_3 tr a cnt lv kd gd ln st)) (fun (x : Int) => [(2, .int (iI x)), (0, .ref (r_ 0)), (1, .ref (b 0))]) (nL := 4) ?step_4 0 (by (try dsimp only); exact ⟨by omega, rfl⟩) hP hD hS hl
  case step_4 =>
    intro xv_ hI ih H locs ls hP hD hS hl
    obtain ⟨x, ex_⟩ : ∃ z, z = xv_ := ⟨_, rfl⟩
    subst ex_
    try dsimp only at hI ih
    obtain ⟨hx_, hs⟩ := hI
    have hP : va_P D vwCl (W_R_T_P cI cS r_ rn rf ro b a tk tg tl to2 ta_1 te_2 ts_3 tr a cnt lv kd gd ln st) H := hP
    have hD : va_D A (W_R_T_P cI cS r_ rn rf ro b a tk tg tl to2 ta_1 te_2 ts_3 tr a cnt lv kd gd ln st) := hD
    have hl : lv_has ls 4 [(2, .int (iI x)), (0, .ref (r_ 0)), (1, .ref (b 0))] := hl
    have ih_5 := ih
    refine lv_iload_n hx hb dX2_areSo_6 rfl (lv_at hl 0 rfl) ?_
    refine lv_aload_n hx hb dX2_areSo_7 rfl (lv_at hl 1 rfl) ?_
    refine va_get (D := D) (ci := 2) (v := .int (iI rn)) (C := RX2) (T := TX2) (N := 3) hx hb hts iw_2 hown hK.1 hP 0 rfl rfl 2 (by decide) fl_18 (fun _ h9 => h9) rfl dX2_areSo_8 ?_
    refine n_icmp_ge (tgt := 55) hx hb dX2_areSo_11 (by decide) (by omega) (fun c_6 => ?_) (fun c_6 => ?_)
    ·
      refine lv_iconst (v := iI 1) hx hb dX2_areSo_55 (by decide +kernel) ?_
      exact W.zret (v := iI 1) (ty := .boolean) hx hb hr (by decide +kernel) (fun t ht hW => ⟨⟨_, (to2, ta_1, te_2, ts_3), rfl, congrArg iI (show 1 = (if soI (fun g => (sem tk tg tl ln st g).1) rf ro rn.toNat = true then 1 else 0) from (by rw [if_pos (by rw [show rn = x by omega]; exact hs)])), by rw [ht]; exact hP, hD⟩, hS.F ht⟩) hS.2.2 dX2_areSo_56
    ·
      refine lv_aload_n hx hb dX2_areSo_14 rfl (lv_at hl 1 rfl) ?_
      refine va_get (D := D) (ci := 2) (v := .ref (r_ 1)) (C := RX2) (T := TX2) (N := 3) hx hb hts iw_2 hown hK.1 hP 0 rfl rfl 0 (by decide) fl_9 (fun _ h9 => h9) rfl dX2_areSo_15 ?_
      refine lv_iload_n hx hb dX2_areSo_18 rfl (lv_at hl 0 rfl) ?_
      have hrx := hrd x hx_.1 (by omega)
      have hO2 := (hT2 (rf x) hrx.1.1 hrx.1.2).1
      have hO3 := (sem_ok (K := tk) (G := tg) (L := tl) hok (rf x) hrx.1.1 hrx.1.2).1
      refine n_iald (n := 8) hx hb hK.1 hP 1 0 rfl rfl (by omega) (by decide) dX2_areSo_19 ?_
      refine lv_istore_n (lv' := [(3, .int (iI (rf x))), (2, .int (iI x)), (0, .ref (r_ 0)), (1, .ref (b 0))]) hx hb dX2_areSo_20 rfl hl (by decide) rfl (fun ls hl => ?_)
      refine lv_aload_n hx hb dX2_areSo_21 rfl (lv_at hl 3 rfl) ?_
      refine va_getN (D := D) (ci := 5) (v := .ref (a 0)) (C := RX5) (T := TX5) (N := 9) hx hb hts iw_5 hown hK.1 hP 3 rfl rfl 0 (by decide) fn_33 (fun _ h9 => h9) rfl dX2_areSo_22 ?_
      refine lv_iload_n hx hb dX2_areSo_25 rfl (lv_at hl 0 rfl) ?_
      refine x_callVi (As := [.int (iI (rf x))]) (rest := []) ⟨hx, hb, hml, hown, hts⟩ (c_X1_has l D cI cS a cnt lv kd gd ln st H.size (rf x) (by first | assumption | omega) (by first | assumption | omega)) (cwV 1 hts gX2_areSo_X1_has rfl rfl rfl (by decide +kernel) ⟨Nat.le_of_ble_eq_true rfl, Nat.le_of_ble_eq_true rfl⟩) hK hP hD hS hA [11, 12, 13, 14, 15] [0, 1, 2, 3, 4, 5, 6, 7, 8, 9, 10] (wr := [(r_ 0, .inr (2, [.ref (r_ 1), .ref (r_ 2), .int (iI rn)])), (r_ 1, .inl (cI, 8, .inl (aI rf))), (r_ 2, .inl (cI, 8, .inl (aI ro))), (b 0, .inr (5, [.ref (a 0), .ref (b 1), .ref (b 2), .int (iI tl), .ref (b 3), .ref (b 4), .ref (b 5), .ref (b 6), .ref (b 7)])), (b 1, .inl (cI, 5, .inl (aI tk))), (b 2, .inl (cI, 5, .inl (aI tg))), (b 3, .inl (cI, 5, .inl (aI to2))), (b 4, .inl (cI, 5, .inl (aI ta_1))), (b 5, .inl (cI, 5, .inl (aI te_2))), (b 6, .inl (cI, 5, .inl (aI ts_3))), (b 7, .inl (cI, 5, .inl (aI tr)))]) rfl rfl (by decide) (by decide) (by decide) 0 1 rfl rfl rfl [0, 1, 2, 3, 4, 5, 6, 7, 8, 9, 10, 11, 12, 13, 14, 15] (fun (u : Unit) => (W_R_T_P cI cS r_ rn rf ro b a tk tg tl to2 ta_1 te_2 ts_3 tr a cnt lv kd gd ln st)) (fun _ => rfl) (by decide) rfl hl.1 rfl (Nat.le_of_ble_eq_true rfl) ⟨Nat.zero_le _, Nat.zero_le _⟩ dX2_areSo_26 (fun r_ u_ H locs hw hP hD hS => ?_)
      try dsimp only at hw
      subst hw
      have hP : va_P D vwCl (W_R_T_P cI cS r_ rn rf ro b a tk tg tl to2 ta_1 te_2 ts_3 tr a cnt lv kd gd ln st) H := hP
      have hD : va_D A (W_R_T_P cI cS r_ rn rf ro b a tk tg tl to2 ta_1 te_2 ts_3 tr a cnt lv kd gd ln st) := hD
      refine n_if_b1 (tgt := 47) hx hb dX2_areSo_29 (by decide)  (fun c_7 => ?_) (fun c_7 => ?_)
      · exact False.elim (by first | contradiction | omega)
      ·
        refine lv_aload_n hx hb dX2_areSo_32 rfl (lv_at hl 3 rfl) ?_
        refine va_getN (D := D) (ci := 5) (v := .ref (b 3)) (C := RX5) (T := TX5) (N := 9) hx hb hts iw_5 hown hK.1 hP 3 rfl rfl 4 (by decide) fn_43 (fun _ h9 => h9) rfl dX2_areSo_33 ?_
        refine lv_iload_n hx hb dX2_areSo_36 rfl (lv_at hl 0 rfl) ?_
        refine n_iald (n := 5) hx hb hK.1 hP 6 0 rfl rfl (by omega) (by decide) dX2_areSo_37 ?_
        refine lv_aload_n hx hb dX2_areSo_38 rfl (lv_at hl 2 rfl) ?_
        refine va_get (D := D) (ci := 2) (v := .ref (r_ 2)) (C := RX2) (T := TX2) (N := 3) hx hb hts iw_2 hown hK.1 hP 0 rfl rfl 1 (by decide) fl_15 (fun _ h9 => h9) rfl dX2_areSo_39 ?_
        refine lv_iload_n hx hb dX2_areSo_42 rfl (lv_at hl 1 rfl) ?_
        refine n_iald (n := 8) hx hb hK.1 hP 2 0 rfl rfl (by omega) (by decide) dX2_areSo_43 ?_
        refine n_icmp_eq (tgt := 49) hx hb dX2_areSo_44 (by decide) (by omega) (fun c_8 => ?_) (fun c_8 => ?_)
        ·
          refine n_iinc (lv' := [(2, .int (iI (x + 1))), (3, .int (iI (rf x))), (0, .ref (r_ 0)), (1, .ref (b 0))]) hx hb dX2_areSo_49 hl (k := 1) rfl (by decide) rfl (fun ls hl => ?_)
          refine lv_goto (tgt := 6) hx hb dX2_areSo_52 (by decide) ?_
          exact ih_5 (x + 1) (by (try dsimp only); exact ⟨by omega, by rw [soI_s _ _ _ hx_.1, hs, Bool.true_and]; exact decide_eq_true (by rw [← hO2]; assumption)⟩) (by (try dsimp only); exact (by omega)) _ _ _ hP hD hS (lv_sub hl [0, 2, 3] rfl)
        ·
          have hne : ¬ (fun g => (sem tk tg tl ln st g).1) (rf x) = ro x := by show ¬ (sem tk tg tl ln st (rf x)).1 = ro x; rw [← hO2]; assumption
          refine lv_iconst (v := iI 0) hx hb dX2_areSo_47 (by decide +kernel) ?_
          exact W.zret (v := iI 0) (ty := .boolean) hx hb hr (by decide +kernel) (fun t ht hW => ⟨⟨_, (to2, ta_1, te_2, ts_3), rfl, congrArg iI (show 0 = (if soI (fun g => (sem tk tg tl ln st g).1) rf ro rn.toNat = true then 1 else 0) from (by rw [if_neg (by rw [soI_no hx_.1 hne rn.toNat (by omega)]; decide)])), by rw [ht]; exact hP, hD⟩, hS.F ht⟩) hS.2.2 dX2_areSo_48
set_option maxHeartbeats 4000000 in
set_option maxRecDepth 100000 in
theorem c_X1_become (l : Launch) (D : va_G) (cI cS : ClassId) (a : Nat → Nat) (a2 : Nat → Nat) (cnt : Int) (lv : Int) (kd : Int → Int) (gd : Int → Int) (ln : Int → Int) (st : Int → Int) (cnt2 : Int) (lv2 : Int) (kd2 : Int → Int) (gd2 : Int → Int) (ln2 : Int → Int) (st2 : Int → Int) (sz : Nat)  : Met l yX1_become wsX1_become ({ frames := 1, cells := 0, slots := 0, locals := 60 }) (cP D cI cS (W_P_P cI cS a cnt lv kd gd ln st a2 cnt2 lv2 kd2 gd2 ln2 st2) sz [.ref (a 0), .ref (a2 0)]) (va_Qv (fun (u : (Int → Int) × (Int → Int) × (Int → Int) × (Int → Int)) => (∀ j : Int, 0 ≤ j → j < 5 → u.1 j = kd2 j ∧ u.2.1 j = gd2 j ∧ u.2.2.1 j = ln2 j) ∧ (∀ j : Int, 0 ≤ j → j < 20 → u.2.2.2 j = st2 j)) (fun (u : (Int → Int) × (Int → Int) × (Int → Int) × (Int → Int)) t => cB D (va_A (W_P_P cI cS a cnt lv kd gd ln st a2 cnt2 lv2 kd2 gd2 ln2 st2) sz) (W_P_P cI cS a cnt2 lv2 u.1 u.2.1 u.2.2.1 u.2.2.2 a2 cnt2 lv2 kd2 gd2 ln2 st2) t) (va_A (W_P_P cI cS a cnt lv kd gd ln st a2 cnt2 lv2 kd2 gd2 ln2 st2) sz)) 0 0 (va_A (W_P_P cI cS a cnt lv kd gd ln st a2 cnt2 lv2 kd2 gd2 ln2 st2) sz) := by
  refine Met.ofW (cc := cX1_become) (maxL := 2) (ret := none) (by decide) rfl ?_
  intro p e s m args below meth c_ s₁ B hml hv
  obtain ⟨rfl, hsz, hP, hK, hD0⟩ := hv
  have hx := B.exec
  have hb := B.bytes
  have hr := B.returns
  have hts := atoms_spec (ws := wsX1_become) B.pre
  have hown : s.vm.findClass RX1 = some m.cls := findClass_of_methodNamed B.named
  have hlocks := B.notSynchronized
  subst hsz
  have hD := hD0.self (sz := s.heap.size)
  generalize hAe : va_A (W_P_P cI cS a cnt lv kd gd ln st a2 cnt2 lv2 kd2 gd2 ln2 st2) s.heap.size = A at hD ⊢
  have hA : ∀ q : Nat, s.heap.size ≤ q → A q := fun q h => by rw [← hAe]; exact Or.inr h
  have hS : va_S A s.heap s.heap [] := va_S.rf
  have hP : va_P D vwCl (W_P_P cI cS a cnt lv kd gd ln st a2 cnt2 lv2 kd2 gd2 ln2 st2) s.heap := hP
  have hl := lv_entry ([.ref (a 0), .ref (a2 0)] : List Value) (n := 2) (Nat.le_of_ble_eq_true rfl)
  rw [lg_entry_eq]
  generalize (lg_sl ([.ref (a 0), .ref (a2 0)] : List Value) ++ List.replicate (2 - (lg_sl ([.ref (a 0), .ref (a2 0)] : List Value)).length) Slot.unset).toArray = ls at hl ⊢
  have hl : lv_has ls 2 [(0, .ref (a 0)), (1, .ref (a2 0))] := hl
  have fl_9 := hts (.fieldLink RX1 9 "ActRows$Program" "kinds" "[I") (by decide +kernel)
  have iw_1 : ∀ w ∈ wsX10, w ∈ wsX1_become := by decide +kernel
  have al_ := hts (.methodLink RX1 39 arraycopyName) (by decide +kernel)
  have an_ := hts (.native arraycopyName) (by decide +kernel)
  have as_ := hts (.static arraycopyName) (by decide +kernel)
  have ai_ := hts (.initialized "java/lang/System") (by decide +kernel)
  have fl_15 := hts (.fieldLink RX1 15 "ActRows$Program" "guarded" "[I") (by decide +kernel)
  have fl_18 := hts (.fieldLink RX1 18 "ActRows$Program" "lengths" "[I") (by decide +kernel)
  have fl_21 := hts (.fieldLink RX1 21 "ActRows$Program" "steps" "[I") (by decide +kernel)
  have fl_24 := hts (.fieldLink RX1 24 "ActRows$Program" "count" "I") (by decide +kernel)
  have fl_28 := hts (.fieldLink RX1 28 "ActRows$Program" "live" "I") (by decide +kernel)
  refine lv_aload_n hx hb dX1_become_0 rfl (lv_at hl 1 rfl) ?_
  refine va_get (D := D) (ci := 1) (v := .ref (a2 1)) (C := RX1) (T := TX1) (N := 6) hx hb hts iw_1 hown hK.1 hP 5 rfl rfl 0 (by decide) fl_9 (fun _ h9 => h9) rfl dX1_become_1 ?_
  refine lv_iconst (v := iI 0) hx hb dX1_become_4 (by decide +kernel) ?_
  refine lv_aload_n hx hb dX1_become_5 rfl (lv_at hl 0 rfl) ?_
  refine va_get (D := D) (ci := 1) (v := .ref (a 1)) (C := RX1) (T := TX1) (N := 6) hx hb hts iw_1 hown hK.1 hP 0 rfl rfl 0 (by decide) fl_9 (fun _ h9 => h9) rfl dX1_become_6 ?_
  refine lv_iconst (v := iI 0) hx hb dX1_become_9 (by decide +kernel) ?_
  refine lv_iconst (v := iI 5) hx hb dX1_become_10 (by decide +kernel) ?_
  refine n_copy hx hb (by rw [hml]; exact hl.1.symm) hown al_ an_ as_ ai_ hK.1 hP hD hS 6 1 0 (n0 := 5) (n1 := 5) rfl rfl rfl (by omega) (by decide) (by decide) (Nat.le_of_ble_eq_true rfl) (Nat.le_of_ble_eq_true rfl) dX1_become_11 (fun H locs hP hD hS => ?_)
  have hP : va_P D vwCl (W_P_P cI cS a cnt lv (cpyI kd2 kd 0 0 5) gd ln st a2 cnt2 lv2 kd2 gd2 ln2 st2) H := hP
  have hD : va_D A (W_P_P cI cS a cnt lv (cpyI kd2 kd 0 0 5) gd ln st a2 cnt2 lv2 kd2 gd2 ln2 st2) := hD
  refine lv_aload_n hx hb dX1_become_14 rfl (lv_at hl 1 rfl) ?_
  refine va_get (D := D) (ci := 1) (v := .ref (a2 2)) (C := RX1) (T := TX1) (N := 6) hx hb hts iw_1 hown hK.1 hP 5 rfl rfl 1 (by decide) fl_15 (fun _ h9 => h9) rfl dX1_become_15 ?_
  refine lv_iconst (v := iI 0) hx hb dX1_become_18 (by decide +kernel) ?_
  refine lv_aload_n hx hb dX1_become_19 rfl (lv_at hl 0 rfl) ?_
  refine va_get (D := D) (ci := 1) (v := .ref (a 2)) (C := RX1) (T := TX1) (N := 6) hx hb hts iw_1 hown hK.1 hP 0 rfl rfl 1 (by decide) fl_15 (fun _ h9 => h9) rfl dX1_become_20 ?_
  refine lv_iconst (v := iI 0) hx hb dX1_become_23 (by decide +kernel) ?_
  refine lv_iconst (v := iI 5) hx hb dX1_become_24 (by decide +kernel) ?_
  refine n_copy hx hb (by rw [hml]; exact hl.1.symm) hown al_ an_ as_ ai_ hK.1 hP hD hS 7 2 0 (n0 := 5) (n1 := 5) rfl rfl rfl (by omega) (by decide) (by decide) (Nat.le_of_ble_eq_true rfl) (Nat.le_of_ble_eq_true rfl) dX1_become_25 (fun H locs hP hD hS => ?_)
  have hP : va_P D vwCl (W_P_P cI cS a cnt lv (cpyI kd2 kd 0 0 5) (cpyI gd2 gd 0 0 5) ln st a2 cnt2 lv2 kd2 gd2 ln2 st2) H := hP
  have hD : va_D A (W_P_P cI cS a cnt lv (cpyI kd2 kd 0 0 5) (cpyI gd2 gd 0 0 5) ln st a2 cnt2 lv2 kd2 gd2 ln2 st2) := hD
  refine lv_aload_n hx hb dX1_become_28 rfl (lv_at hl 1 rfl) ?_
  refine va_get (D := D) (ci := 1) (v := .ref (a2 3)) (C := RX1) (T := TX1) (N := 6) hx hb hts iw_1 hown hK.1 hP 5 rfl rfl 2 (by decide) fl_18 (fun _ h9 => h9) rfl dX1_become_29 ?_
  refine lv_iconst (v := iI 0) hx hb dX1_become_32 (by decide +kernel) ?_
  refine lv_aload_n hx hb dX1_become_33 rfl (lv_at hl 0 rfl) ?_
  refine va_get (D := D) (ci := 1) (v := .ref (a 3)) (C := RX1) (T := TX1) (N := 6) hx hb hts iw_1 hown hK.1 hP 0 rfl rfl 2 (by decide) fl_18 (fun _ h9 => h9) rfl dX1_become_34 ?_
  refine lv_iconst (v := iI 0) hx hb dX1_become_37 (by decide +kernel) ?_
  refine lv_iconst (v := iI 5) hx hb dX1_become_38 (by decide +kernel) ?_
  refine n_copy hx hb (by rw [hml]; exact hl.1.symm) hown al_ an_ as_ ai_ hK.1 hP hD hS 8 3 0 (n0 := 5) (n1 := 5) rfl rfl rfl (by omega) (by decide) (by decide) (Nat.le_of_ble_eq_true rfl) (Nat.le_of_ble_eq_true rfl) dX1_become_39 (fun H locs hP hD hS => ?_)
  have hP : va_P D vwCl (W_P_P cI cS a cnt lv (cpyI kd2 kd 0 0 5) (cpyI gd2 gd 0 0 5) (cpyI ln2 ln 0 0 5) st a2 cnt2 lv2 kd2 gd2 ln2 st2) H := hP
  have hD : va_D A (W_P_P cI cS a cnt lv (cpyI kd2 kd 0 0 5) (cpyI gd2 gd 0 0 5) (cpyI ln2 ln 0 0 5) st a2 cnt2 lv2 kd2 gd2 ln2 st2) := hD
  refine lv_aload_n hx hb dX1_become_42 rfl (lv_at hl 1 rfl) ?_
  refine va_get (D := D) (ci := 1) (v := .ref (a2 4)) (C := RX1) (T := TX1) (N := 6) hx hb hts iw_1 hown hK.1 hP 5 rfl rfl 3 (by decide) fl_21 (fun _ h9 => h9) rfl dX1_become_43 ?_
  refine lv_iconst (v := iI 0) hx hb dX1_become_46 (by decide +kernel) ?_
  refine lv_aload_n hx hb dX1_become_47 rfl (lv_at hl 0 rfl) ?_
  refine va_get (D := D) (ci := 1) (v := .ref (a 4)) (C := RX1) (T := TX1) (N := 6) hx hb hts iw_1 hown hK.1 hP 0 rfl rfl 3 (by decide) fl_21 (fun _ h9 => h9) rfl dX1_become_48 ?_
  refine lv_iconst (v := iI 0) hx hb dX1_become_51 (by decide +kernel) ?_
  refine lv_bipush (v := iI 20) hx hb dX1_become_52 (by decide +kernel) ?_
  refine n_copy hx hb (by rw [hml]; exact hl.1.symm) hown al_ an_ as_ ai_ hK.1 hP hD hS 9 4 0 (n0 := 20) (n1 := 20) rfl rfl rfl (by omega) (by decide) (by decide) (Nat.le_of_ble_eq_true rfl) (Nat.le_of_ble_eq_true rfl) dX1_become_54 (fun H locs hP hD hS => ?_)
  have hP : va_P D vwCl (W_P_P cI cS a cnt lv (cpyI kd2 kd 0 0 5) (cpyI gd2 gd 0 0 5) (cpyI ln2 ln 0 0 5) (cpyI st2 st 0 0 20) a2 cnt2 lv2 kd2 gd2 ln2 st2) H := hP
  have hD : va_D A (W_P_P cI cS a cnt lv (cpyI kd2 kd 0 0 5) (cpyI gd2 gd 0 0 5) (cpyI ln2 ln 0 0 5) (cpyI st2 st 0 0 20) a2 cnt2 lv2 kd2 gd2 ln2 st2) := hD
  refine lv_aload_n hx hb dX1_become_57 rfl (lv_at hl 0 rfl) ?_
  refine lv_aload_n hx hb dX1_become_58 rfl (lv_at hl 1 rfl) ?_
  refine va_get (D := D) (ci := 1) (v := .int (iI cnt2)) (C := RX1) (T := TX1) (N := 6) hx hb hts iw_1 hown hK.1 hP 5 rfl rfl 4 (by decide) fl_24 (fun _ h9 => h9) rfl dX1_become_59 ?_
  refine va_put (D := D) (ci := 1) (v := .int (iI cnt2)) (ty := .int) (C := RX1) (T := TX1) (N := 6) hx hb hts iw_1 tyX1 tyX1_ok nmX1 hown hK.1 hP hD hS 0 rfl rfl 4 (by decide) fl_24 (fun _ h9 => h9) rfl (by decide +kernel) rfl rfl (Nat.le_of_ble_eq_true rfl) dX1_become_62 (fun H locs hP hD hS => ?_)
  have hP : va_P D vwCl (W_P_P cI cS a cnt2 lv (cpyI kd2 kd 0 0 5) (cpyI gd2 gd 0 0 5) (cpyI ln2 ln 0 0 5) (cpyI st2 st 0 0 20) a2 cnt2 lv2 kd2 gd2 ln2 st2) H := hP
  have hD : va_D A (W_P_P cI cS a cnt2 lv (cpyI kd2 kd 0 0 5) (cpyI gd2 gd 0 0 5) (cpyI ln2 ln 0 0 5) (cpyI st2 st 0 0 20) a2 cnt2 lv2 kd2 gd2 ln2 st2) := hD
  refine lv_aload_n hx hb dX1_become_65 rfl (lv_at hl 0 rfl) ?_
  refine lv_aload_n hx hb dX1_become_66 rfl (lv_at hl 1 rfl) ?_
  refine va_get (D := D) (ci := 1) (v := .int (iI lv2)) (C := RX1) (T := TX1) (N := 6) hx hb hts iw_1 hown hK.1 hP 5 rfl rfl 5 (by decide) fl_28 (fun _ h9 => h9) rfl dX1_become_67 ?_
  refine va_put (D := D) (ci := 1) (v := .int (iI lv2)) (ty := .int) (C := RX1) (T := TX1) (N := 6) hx hb hts iw_1 tyX1 tyX1_ok nmX1 hown hK.1 hP hD hS 0 rfl rfl 5 (by decide) fl_28 (fun _ h9 => h9) rfl (by decide +kernel) rfl rfl (Nat.le_of_ble_eq_true rfl) dX1_become_70 (fun H locs hP hD hS => ?_)
  have hP : va_P D vwCl (W_P_P cI cS a cnt2 lv2 (cpyI kd2 kd 0 0 5) (cpyI gd2 gd 0 0 5) (cpyI ln2 ln 0 0 5) (cpyI st2 st 0 0 20) a2 cnt2 lv2 kd2 gd2 ln2 st2) H := hP
  have hD : va_D A (W_P_P cI cS a cnt2 lv2 (cpyI kd2 kd 0 0 5) (cpyI gd2 gd 0 0 5) (cpyI ln2 ln 0 0 5) (cpyI st2 st 0 0 20) a2 cnt2 lv2 kd2 gd2 ln2 st2) := hD
  exact W.vret hx hb hr (fun t ht hW => ⟨⟨((cpyI kd2 kd 0 0 5), (cpyI gd2 gd 0 0 5), (cpyI ln2 ln 0 0 5), (cpyI st2 st 0 0 20)), rfl, ⟨(by (try dsimp only); exact (fun j h1 h2 => by unfold cpyI; rw [if_pos (by omega), if_pos (by omega), if_pos (by omega), show 0 + (j - 0) = j by omega]; exact ⟨rfl, rfl, rfl⟩)), (by (try dsimp only); exact (fun j h1 h2 => by unfold cpyI; rw [if_pos (by omega), show 0 + (j - 0) = j by omega]))⟩, by rw [ht]; exact hP, hD⟩, hS.F ht⟩) hS.2.2 dX1_become_73
set_option maxHeartbeats 4000000 in
set_option maxRecDepth 100000 in
theorem c_X4_kindOf (l : Launch) (D : va_G) (cI cS : ClassId) (sz : Nat) (c : Int) (hcd : -2147483648 ≤ c ∧ c < 2147483648) : Met l yX4_kindOf wsX4_kindOf ({ frames := 0, cells := 0, slots := 0, locals := 0 }) (cP D cI cS ([] : va_W) sz [.int (iI c)]) (va_Qi (fun (r : Int32) (u : Unit) => r = iI (kOf c)) (fun (u : Unit) t => cB D (va_A ([] : va_W) sz) ([] : va_W) t) (va_A ([] : va_W) sz)) 0 0 (va_A ([] : va_W) sz) := by
  refine Met.ofW (cc := cX4_kindOf) (maxL := 1) (ret := (some .int)) (by decide) rfl ?_
  intro p e s m args below meth c_ s₁ B hml hv
  obtain ⟨rfl, hsz, hP, hK, hD0⟩ := hv
  have hx := B.exec
  have hb := B.bytes
  have hr := B.returns
  have hts := atoms_spec (ws := wsX4_kindOf) B.pre
  have hown : s.vm.findClass RX4 = some m.cls := findClass_of_methodNamed B.named
  have hlocks := B.notSynchronized
  subst hsz
  have hD := hD0.self (sz := s.heap.size)
  generalize hAe : va_A ([] : va_W) s.heap.size = A at hD ⊢
  have hA : ∀ q : Nat, s.heap.size ≤ q → A q := fun q h => by rw [← hAe]; exact Or.inr h
  have hS : va_S A s.heap s.heap [] := va_S.rf
  have hP : va_P D vwCl ([] : va_W) s.heap := hP
  have hl := lv_entry ([.int (iI c)] : List Value) (n := 1) (Nat.le_of_ble_eq_true rfl)
  rw [lg_entry_eq]
  generalize (lg_sl ([.int (iI c)] : List Value) ++ List.replicate (1 - (lg_sl ([.int (iI c)] : List Value)).length) Slot.unset).toArray = ls at hl ⊢
  have hl : lv_has ls 1 [(0, .int (iI c))] := hl
  refine lv_iload_n hx hb dX4_kindOf_0 rfl (lv_at hl 0 rfl) ?_
  by_cases c_1 : c = 107
  ·
    refine n_lookup (tgt := 40) hx hb dX4_kindOf_1 (by decide) (by omega) (by rw [c_1] <;> rfl) (by decide) ?_
    refine lv_iconst (v := iI 2) hx hb dX4_kindOf_40 (by decide +kernel) ?_
    exact W.iret (v := iI 2) hx hb hr (fun t ht hW => ⟨⟨_, (), rfl, congrArg iI (show 2 = (kOf c) from (by unfold kOf; omega)), by rw [ht]; exact hP, hD⟩, hS.F ht⟩) hS.2.2 dX4_kindOf_41
  by_cases c_2 : c = 108
  ·
    refine n_lookup (tgt := 38) hx hb dX4_kindOf_1 (by decide) (by omega) (by rw [c_2] <;> rfl) (by decide) ?_
    refine lv_iconst (v := iI 1) hx hb dX4_kindOf_38 (by decide +kernel) ?_
    exact W.iret (v := iI 1) hx hb hr (fun t ht hW => ⟨⟨_, (), rfl, congrArg iI (show 1 = (kOf c) from (by unfold kOf; omega)), by rw [ht]; exact hP, hD⟩, hS.F ht⟩) hS.2.2 dX4_kindOf_39
  by_cases c_3 : c = 112
  ·
    refine n_lookup (tgt := 36) hx hb dX4_kindOf_1 (by decide) (by omega) (by rw [c_3] <;> rfl) (by decide) ?_
    refine lv_iconst (v := iI 0) hx hb dX4_kindOf_36 (by decide +kernel) ?_
    exact W.iret (v := iI 0) hx hb hr (fun t ht hW => ⟨⟨_, (), rfl, congrArg iI (show 0 = (kOf c) from (by unfold kOf; omega)), by rw [ht]; exact hP, hD⟩, hS.F ht⟩) hS.2.2 dX4_kindOf_37
  refine n_lookup (off := 41) (tgt := 42) hx hb dX4_kindOf_1 (by decide) (by omega) (by simp only [Op.lookupswitch.offset]; repeat rw [if_neg (by omega)]) (by decide) ?_
  refine lv_iconst (v := iI (-1)) hx hb dX4_kindOf_42 (by decide +kernel) ?_
  exact W.iret (v := iI (-1)) hx hb hr (fun t ht hW => ⟨⟨_, (), rfl, congrArg iI (show (-1) = (kOf c) from (by unfold kOf; omega)), by rw [ht]; exact hP, hD⟩, hS.F ht⟩) hS.2.2 dX4_kindOf_43
set_option maxHeartbeats 4000000 in
set_option maxRecDepth 100000 in
theorem c_X4_takesFunction (l : Launch) (D : va_G) (cI cS : ClassId) (x_ : Nat → Nat) (t_ : Nat → Nat) (at_ : Int) (cnt : Int) (lv : Int) (kd : Int → Int) (gd : Int → Int) (ln : Int → Int) (st : Int → Int) (sz : Nat) (c : Int) (hc : 0 ≤ cnt ∧ cnt ≤ 5) (hcd : -2147483648 ≤ c ∧ c < 2147483648) : Met l yX4_takesFunction wsX4_takesFunction ({ frames := 1, cells := 0, slots := 0, locals := 20 }) (cP D cI cS (W_X_P cI cS x_ t_ at_ t_ cnt lv kd gd ln st) sz [.ref (x_ 0), .int (iI c)]) (va_Qi (fun (r : Int32) (u : Unit) => r = iI (if c = 59 ∧ cnt < 5 then 1 else 0)) (fun (u : Unit) t => cB D (va_A (W_X_P cI cS x_ t_ at_ t_ cnt lv kd gd ln st) sz) (W_X_P cI cS x_ t_ 2 t_ (if c = 59 ∧ cnt < 5 then cnt + 1 else cnt) lv kd gd (if c = 59 ∧ cnt < 5 then updI ln cnt 0 else ln) st) t) (va_A (W_X_P cI cS x_ t_ at_ t_ cnt lv kd gd ln st) sz)) 0 0 (va_A (W_X_P cI cS x_ t_ at_ t_ cnt lv kd gd ln st) sz) := by
  refine Met.ofW (cc := cX4_takesFunction) (maxL := 2) (ret := (some .boolean)) (by decide) rfl ?_
  intro p e s m args below meth c_ s₁ B hml hv
  obtain ⟨rfl, hsz, hP, hK, hD0⟩ := hv
  have hx := B.exec
  have hb := B.bytes
  have hr := B.returns
  have hts := atoms_spec (ws := wsX4_takesFunction) B.pre
  have hown : s.vm.findClass RX4 = some m.cls := findClass_of_methodNamed B.named
  have hlocks := B.notSynchronized
  subst hsz
  have hD := hD0.self (sz := s.heap.size)
  generalize hAe : va_A (W_X_P cI cS x_ t_ at_ t_ cnt lv kd gd ln st) s.heap.size = A at hD ⊢
  have hA : ∀ q : Nat, s.heap.size ≤ q → A q := fun q h => by rw [← hAe]; exact Or.inr h
  have hS : va_S A s.heap s.heap [] := va_S.rf
  have hP : va_P D vwCl (W_X_P cI cS x_ t_ at_ t_ cnt lv kd gd ln st) s.heap := hP
  have hl := lv_entry ([.ref (x_ 0), .int (iI c)] : List Value) (n := 2) (Nat.le_of_ble_eq_true rfl)
  rw [lg_entry_eq]
  generalize (lg_sl ([.ref (x_ 0), .int (iI c)] : List Value) ++ List.replicate (2 - (lg_sl ([.ref (x_ 0), .int (iI c)] : List Value)).length) Slot.unset).toArray = ls at hl ⊢
  have hl : lv_has ls 2 [(0, .ref (x_ 0)), (1, .int (iI c))] := hl
  have fl_18 := hts (.fieldLink RX4 18 "ActRows$Text" "at" "I") (by decide +kernel)
  have iw_4 : ∀ w ∈ wsX40, w ∈ wsX4_takesFunction := by decide +kernel
  have fl_12 := hts (.fieldLink RX4 12 "ActRows$Text" "draft" "LActRows$Program;") (by decide +kernel)
  refine lv_aload_n hx hb dX4_takesFunction_0 rfl (lv_at hl 0 rfl) ?_
  refine lv_iconst (v := iI 2) hx hb dX4_takesFunction_1 (by decide +kernel) ?_
  refine va_put (D := D) (ci := 4) (v := .int (iI 2)) (ty := .int) (C := RX4) (T := TX4) (N := 2) hx hb hts iw_4 tyX4 tyX4_ok nmX4 hown hK.1 hP hD hS 0 rfl rfl 1 (by decide) fl_18 (fun _ h9 => h9) rfl (by decide +kernel) rfl rfl (Nat.le_of_ble_eq_true rfl) dX4_takesFunction_2 (fun H locs hP hD hS => ?_)
  have hP : va_P D vwCl (W_X_P cI cS x_ t_ 2 t_ cnt lv kd gd ln st) H := hP
  have hD : va_D A (W_X_P cI cS x_ t_ 2 t_ cnt lv kd gd ln st) := hD
  refine lv_iload_n hx hb dX4_takesFunction_5 rfl (lv_at hl 1 rfl) ?_
  refine lv_bipush (v := iI 59) hx hb dX4_takesFunction_6 (by decide +kernel) ?_
  refine n_icmp_ne (tgt := 25) hx hb dX4_takesFunction_8 (by decide) (by omega) (fun c_1 => ?_) (fun c_1 => ?_)
  ·
    refine lv_iconst (v := iI 0) hx hb dX4_takesFunction_25 (by decide +kernel) ?_
    have e_2 : (cnt : Int) = (if c = 59 ∧ cnt < 5 then cnt + 1 else cnt) := (by first | rfl | (rw [if_pos (by omega), if_pos (by omega)]) | (rw [if_neg (by omega), if_neg (by omega)]) | (rw [if_pos (by omega)]) | (rw [if_neg (by omega)]))
    have hP : va_P D vwCl (W_X_P cI cS x_ t_ 2 t_ (if c = 59 ∧ cnt < 5 then cnt + 1 else cnt) lv kd gd ln st) H := Eq.mp (congrArg (fun z_ => va_P D vwCl (W_X_P cI cS x_ t_ 2 t_ z_ lv kd gd ln st) H) e_2) hP
    have hD : va_D A (W_X_P cI cS x_ t_ 2 t_ (if c = 59 ∧ cnt < 5 then cnt + 1 else cnt) lv kd gd ln st) := Eq.mp (congrArg (fun z_ => va_D A (W_X_P cI cS x_ t_ 2 t_ z_ lv kd gd ln st)) e_2) hD
    have e_3 : (ln : Int → Int) = (if c = 59 ∧ cnt < 5 then updI ln cnt 0 else ln) := (by first | rfl | (rw [if_pos (by omega), if_pos (by omega)]) | (rw [if_neg (by omega), if_neg (by omega)]) | (rw [if_pos (by omega)]) | (rw [if_neg (by omega)]))
    have hP : va_P D vwCl (W_X_P cI cS x_ t_ 2 t_ (if c = 59 ∧ cnt < 5 then cnt + 1 else cnt) lv kd gd (if c = 59 ∧ cnt < 5 then updI ln cnt 0 else ln) st) H := Eq.mp (congrArg (fun z_ => va_P D vwCl (W_X_P cI cS x_ t_ 2 t_ (if c = 59 ∧ cnt < 5 then cnt + 1 else cnt) lv kd gd z_ st) H) e_3) hP
    have hD : va_D A (W_X_P cI cS x_ t_ 2 t_ (if c = 59 ∧ cnt < 5 then cnt + 1 else cnt) lv kd gd (if c = 59 ∧ cnt < 5 then updI ln cnt 0 else ln) st) := Eq.mp (congrArg (fun z_ => va_D A (W_X_P cI cS x_ t_ 2 t_ (if c = 59 ∧ cnt < 5 then cnt + 1 else cnt) lv kd gd z_ st)) e_3) hD
    exact W.zret (v := iI 0) (ty := .boolean) hx hb hr (by decide +kernel) (fun t ht hW => ⟨⟨_, (), rfl, congrArg iI (show 0 = (if c = 59 ∧ cnt < 5 then 1 else 0) from (by first | rfl | omega | (rw [if_pos (by omega)]) | (rw [if_neg (by omega)]))), by rw [ht]; exact hP, hD⟩, hS.F ht⟩) hS.2.2 dX4_takesFunction_26
  ·
    refine lv_aload_n hx hb dX4_takesFunction_11 rfl (lv_at hl 0 rfl) ?_
    refine va_get (D := D) (ci := 4) (v := .ref (t_ 0)) (C := RX4) (T := TX4) (N := 2) hx hb hts iw_4 hown hK.1 hP 0 rfl rfl 0 (by decide) fl_12 (fun _ h9 => h9) rfl dX4_takesFunction_12 ?_
    refine x_callVi (As := []) (rest := []) ⟨hx, hb, hml, hown, hts⟩ (c_X1_addFunction l D cI cS t_ cnt lv kd gd ln st H.size (by first | assumption | omega)) (cwV 0 hts gX4_takesFunction_X1_addFunction rfl rfl rfl (by decide +kernel) ⟨Nat.le_of_ble_eq_true rfl, Nat.le_of_ble_eq_true rfl⟩) hK hP hD hS hA [1, 2, 3, 4, 5] [0] (wr := [(x_ 0, .inr (4, [.ref (t_ 0), .int (iI 2)]))]) rfl rfl (by decide) (by decide) (by decide) 0 1 rfl rfl rfl [0, 1, 2, 3, 4, 5] (fun (u : Unit) => (W_X_P cI cS x_ t_ 2 t_ (if cnt < 5 then cnt + 1 else cnt) lv kd gd (if cnt < 5 then updI ln cnt 0 else ln) st)) (fun _ => rfl) (by decide) rfl hl.1 rfl (Nat.le_of_ble_eq_true rfl) ⟨Nat.zero_le _, Nat.zero_le _⟩ dX4_takesFunction_15 (fun r_ u_ H locs hw hP hD hS => ?_)
    try dsimp only at hw
    subst hw
    have hP : va_P D vwCl (W_X_P cI cS x_ t_ 2 t_ (if cnt < 5 then cnt + 1 else cnt) lv kd gd (if cnt < 5 then updI ln cnt 0 else ln) st) H := hP
    have hD : va_D A (W_X_P cI cS x_ t_ 2 t_ (if cnt < 5 then cnt + 1 else cnt) lv kd gd (if cnt < 5 then updI ln cnt 0 else ln) st) := hD
    refine n_if_b1 (tgt := 25) hx hb dX4_takesFunction_18 (by decide)  (fun c_4 => ?_) (fun c_4 => ?_)
    ·
      refine lv_iconst (v := iI 0) hx hb dX4_takesFunction_25 (by decide +kernel) ?_
      have e_5 : ((if cnt < 5 then cnt + 1 else cnt) : Int) = (if c = 59 ∧ cnt < 5 then cnt + 1 else cnt) := (by first | rfl | (rw [if_pos (by omega), if_pos (by omega)]) | (rw [if_neg (by omega), if_neg (by omega)]) | (rw [if_pos (by omega)]) | (rw [if_neg (by omega)]))
      have hP : va_P D vwCl (W_X_P cI cS x_ t_ 2 t_ (if c = 59 ∧ cnt < 5 then cnt + 1 else cnt) lv kd gd (if cnt < 5 then updI ln cnt 0 else ln) st) H := Eq.mp (congrArg (fun z_ => va_P D vwCl (W_X_P cI cS x_ t_ 2 t_ z_ lv kd gd (if cnt < 5 then updI ln cnt 0 else ln) st) H) e_5) hP
      have hD : va_D A (W_X_P cI cS x_ t_ 2 t_ (if c = 59 ∧ cnt < 5 then cnt + 1 else cnt) lv kd gd (if cnt < 5 then updI ln cnt 0 else ln) st) := Eq.mp (congrArg (fun z_ => va_D A (W_X_P cI cS x_ t_ 2 t_ z_ lv kd gd (if cnt < 5 then updI ln cnt 0 else ln) st)) e_5) hD
      have e_6 : ((if cnt < 5 then updI ln cnt 0 else ln) : Int → Int) = (if c = 59 ∧ cnt < 5 then updI ln cnt 0 else ln) := (by first | rfl | (rw [if_pos (by omega), if_pos (by omega)]) | (rw [if_neg (by omega), if_neg (by omega)]) | (rw [if_pos (by omega)]) | (rw [if_neg (by omega)]))
      have hP : va_P D vwCl (W_X_P cI cS x_ t_ 2 t_ (if c = 59 ∧ cnt < 5 then cnt + 1 else cnt) lv kd gd (if c = 59 ∧ cnt < 5 then updI ln cnt 0 else ln) st) H := Eq.mp (congrArg (fun z_ => va_P D vwCl (W_X_P cI cS x_ t_ 2 t_ (if c = 59 ∧ cnt < 5 then cnt + 1 else cnt) lv kd gd z_ st) H) e_6) hP
      have hD : va_D A (W_X_P cI cS x_ t_ 2 t_ (if c = 59 ∧ cnt < 5 then cnt + 1 else cnt) lv kd gd (if c = 59 ∧ cnt < 5 then updI ln cnt 0 else ln) st) := Eq.mp (congrArg (fun z_ => va_D A (W_X_P cI cS x_ t_ 2 t_ (if c = 59 ∧ cnt < 5 then cnt + 1 else cnt) lv kd gd z_ st)) e_6) hD
      exact W.zret (v := iI 0) (ty := .boolean) hx hb hr (by decide +kernel) (fun t ht hW => ⟨⟨_, (), rfl, congrArg iI (show 0 = (if c = 59 ∧ cnt < 5 then 1 else 0) from (by first | rfl | omega | (rw [if_pos (by omega)]) | (rw [if_neg (by omega)]))), by rw [ht]; exact hP, hD⟩, hS.F ht⟩) hS.2.2 dX4_takesFunction_26
    ·
      refine lv_iconst (v := iI 1) hx hb dX4_takesFunction_21 (by decide +kernel) ?_
      refine lv_goto (tgt := 26) hx hb dX4_takesFunction_22 (by decide) ?_
      have e_7 : ((if cnt < 5 then cnt + 1 else cnt) : Int) = (if c = 59 ∧ cnt < 5 then cnt + 1 else cnt) := (by first | rfl | (rw [if_pos (by omega), if_pos (by omega)]) | (rw [if_neg (by omega), if_neg (by omega)]) | (rw [if_pos (by omega)]) | (rw [if_neg (by omega)]))
      have hP : va_P D vwCl (W_X_P cI cS x_ t_ 2 t_ (if c = 59 ∧ cnt < 5 then cnt + 1 else cnt) lv kd gd (if cnt < 5 then updI ln cnt 0 else ln) st) H := Eq.mp (congrArg (fun z_ => va_P D vwCl (W_X_P cI cS x_ t_ 2 t_ z_ lv kd gd (if cnt < 5 then updI ln cnt 0 else ln) st) H) e_7) hP
      have hD : va_D A (W_X_P cI cS x_ t_ 2 t_ (if c = 59 ∧ cnt < 5 then cnt + 1 else cnt) lv kd gd (if cnt < 5 then updI ln cnt 0 else ln) st) := Eq.mp (congrArg (fun z_ => va_D A (W_X_P cI cS x_ t_ 2 t_ z_ lv kd gd (if cnt < 5 then updI ln cnt 0 else ln) st)) e_7) hD
      have e_8 : ((if cnt < 5 then updI ln cnt 0 else ln) : Int → Int) = (if c = 59 ∧ cnt < 5 then updI ln cnt 0 else ln) := (by first | rfl | (rw [if_pos (by omega), if_pos (by omega)]) | (rw [if_neg (by omega), if_neg (by omega)]) | (rw [if_pos (by omega)]) | (rw [if_neg (by omega)]))
      have hP : va_P D vwCl (W_X_P cI cS x_ t_ 2 t_ (if c = 59 ∧ cnt < 5 then cnt + 1 else cnt) lv kd gd (if c = 59 ∧ cnt < 5 then updI ln cnt 0 else ln) st) H := Eq.mp (congrArg (fun z_ => va_P D vwCl (W_X_P cI cS x_ t_ 2 t_ (if c = 59 ∧ cnt < 5 then cnt + 1 else cnt) lv kd gd z_ st) H) e_8) hP
      have hD : va_D A (W_X_P cI cS x_ t_ 2 t_ (if c = 59 ∧ cnt < 5 then cnt + 1 else cnt) lv kd gd (if c = 59 ∧ cnt < 5 then updI ln cnt 0 else ln) st) := Eq.mp (congrArg (fun z_ => va_D A (W_X_P cI cS x_ t_ 2 t_ (if c = 59 ∧ cnt < 5 then cnt + 1 else cnt) lv kd gd z_ st)) e_8) hD
      exact W.zret (v := iI 1) (ty := .boolean) hx hb hr (by decide +kernel) (fun t ht hW => ⟨⟨_, (), rfl, congrArg iI (show 1 = (if c = 59 ∧ cnt < 5 then 1 else 0) from (by first | rfl | omega | (rw [if_pos (by omega)]) | (rw [if_neg (by omega)]))), by rw [ht]; exact hP, hD⟩, hS.F ht⟩) hS.2.2 dX4_takesFunction_26
set_option maxHeartbeats 4000000 in
set_option maxRecDepth 100000 in
theorem c_X4_takesKind (l : Launch) (D : va_G) (cI cS : ClassId) (x_ : Nat → Nat) (t_ : Nat → Nat) (at_ : Int) (cnt : Int) (lv : Int) (kd : Int → Int) (gd : Int → Int) (ln : Int → Int) (st : Int → Int) (sz : Nat) (c : Int) (h1c : 1 ≤ cnt ∧ cnt ≤ 5) (hcd : -2147483648 ≤ c ∧ c < 2147483648) : Met l yX4_takesKind wsX4_takesKind ({ frames := 1, cells := 0, slots := 0, locals := 21 }) (cP D cI cS (W_X_P cI cS x_ t_ at_ t_ cnt lv kd gd ln st) sz [.ref (x_ 0), .int (iI c)]) (va_Qi (fun (r : Int32) (u : Unit) => r = iI (if 0 ≤ kOf c then 1 else 0)) (fun (u : Unit) t => cB D (va_A (W_X_P cI cS x_ t_ at_ t_ cnt lv kd gd ln st) sz) (W_X_P cI cS x_ t_ (if 0 ≤ kOf c then 3 else at_) t_ cnt lv (if 0 ≤ kOf c then updI kd (cnt - 1) (kOf c) else kd) gd ln st) t) (va_A (W_X_P cI cS x_ t_ at_ t_ cnt lv kd gd ln st) sz)) 0 0 (va_A (W_X_P cI cS x_ t_ at_ t_ cnt lv kd gd ln st) sz) := by
  refine Met.ofW (cc := cX4_takesKind) (maxL := 4) (ret := (some .boolean)) (by decide) rfl ?_
  intro p e s m args below meth c_ s₁ B hml hv
  obtain ⟨rfl, hsz, hP, hK, hD0⟩ := hv
  have hx := B.exec
  have hb := B.bytes
  have hr := B.returns
  have hts := atoms_spec (ws := wsX4_takesKind) B.pre
  have hown : s.vm.findClass RX4 = some m.cls := findClass_of_methodNamed B.named
  have hlocks := B.notSynchronized
  subst hsz
  have hD := hD0.self (sz := s.heap.size)
  generalize hAe : va_A (W_X_P cI cS x_ t_ at_ t_ cnt lv kd gd ln st) s.heap.size = A at hD ⊢
  have hA : ∀ q : Nat, s.heap.size ≤ q → A q := fun q h => by rw [← hAe]; exact Or.inr h
  have hS : va_S A s.heap s.heap [] := va_S.rf
  have hP : va_P D vwCl (W_X_P cI cS x_ t_ at_ t_ cnt lv kd gd ln st) s.heap := hP
  have hl := lv_entry ([.ref (x_ 0), .int (iI c)] : List Value) (n := 4) (Nat.le_of_ble_eq_true rfl)
  rw [lg_entry_eq]
  generalize (lg_sl ([.ref (x_ 0), .int (iI c)] : List Value) ++ List.replicate (4 - (lg_sl ([.ref (x_ 0), .int (iI c)] : List Value)).length) Slot.unset).toArray = ls at hl ⊢
  have hl : lv_has ls 4 [(0, .ref (x_ 0)), (1, .int (iI c))] := hl
  have fl_12 := hts (.fieldLink RX4 12 "ActRows$Text" "draft" "LActRows$Program;") (by decide +kernel)
  have iw_4 : ∀ w ∈ wsX40, w ∈ wsX4_takesKind := by decide +kernel
  have fn_54 := va_Nw.use (A := ([.ref (x_ 0), .int (iI c)] : List Value).toArray) rfl (hK.2 ("ActRows$Text", 54, "ActRows$Program", "count", "I") (List.mem_of_getElem? (i := 24) rfl))
  have iw_1 : ∀ w ∈ wsX10, w ∈ wsX4_takesKind := by decide +kernel
  have fn_60 := va_Nw.use (A := ([.ref (x_ 0), .int (iI c)] : List Value).toArray) rfl (hK.2 ("ActRows$Text", 60, "ActRows$Program", "kinds", "[I") (List.mem_of_getElem? (i := 25) rfl))
  have fl_18 := hts (.fieldLink RX4 18 "ActRows$Text" "at" "I") (by decide +kernel)
  have hc : 0 ≤ cnt ∧ cnt ≤ 5 := by omega
  have hkr := kOf_rng c
  refine lv_iload_n hx hb dX4_takesKind_0 rfl (lv_at hl 1 rfl) ?_
  refine x_callSi (As := [.int (iI c)]) (rest := []) ⟨hx, hb, hml, hown, hts⟩ (c_X4_kindOf l D cI cS s.heap.size c (by first | assumption | omega)) (va_cwS 1 hts gX4_takesKind_X4_kindOf rfl rfl rfl (by decide +kernel) ⟨Nat.le_of_ble_eq_true rfl, Nat.le_of_ble_eq_true rfl⟩) hK hP hD hS hA [] [0, 1, 2, 3, 4, 5] (wr := [(x_ 0, .inr (4, [.ref (t_ 0), .int (iI at_)])), (t_ 0, .inr (1, [.ref (t_ 1), .ref (t_ 2), .ref (t_ 3), .ref (t_ 4), .int (iI cnt), .int (iI lv)])), (t_ 1, .inl (cI, 5, .inl (aI kd))), (t_ 2, .inl (cI, 5, .inl (aI gd))), (t_ 3, .inl (cI, 5, .inl (aI ln))), (t_ 4, .inl (cI, 20, .inl (aI st)))]) rfl rfl (by decide) (by decide) (by decide) [0, 1, 2, 3, 4, 5] (fun (u : Unit) => (W_X_P cI cS x_ t_ at_ t_ cnt lv kd gd ln st)) (fun _ => rfl) (by decide) rfl hl.1 rfl (Nat.le_of_ble_eq_true rfl) ⟨Nat.zero_le _, Nat.zero_le _⟩ dX4_takesKind_1 (fun r_ u_ H locs hw hP hD hS => ?_)
  try dsimp only at hw
  subst hw
  have hP : va_P D vwCl (W_X_P cI cS x_ t_ at_ t_ cnt lv kd gd ln st) H := hP
  have hD : va_D A (W_X_P cI cS x_ t_ at_ t_ cnt lv kd gd ln st) := hD
  refine lv_istore_n (lv' := [(2, .int (iI (kOf c))), (0, .ref (x_ 0)), (1, .int (iI c))]) hx hb dX4_takesKind_4 rfl hl (by decide) rfl (fun ls hl => ?_)
  refine lv_aload_n hx hb dX4_takesKind_5 rfl (lv_at hl 1 rfl) ?_
  refine va_get (D := D) (ci := 4) (v := .ref (t_ 0)) (C := RX4) (T := TX4) (N := 2) hx hb hts iw_4 hown hK.1 hP 0 rfl rfl 0 (by decide) fl_12 (fun _ h9 => h9) rfl dX4_takesKind_6 ?_
  refine va_getN (D := D) (ci := 1) (v := .int (iI cnt)) (C := RX1) (T := TX1) (N := 6) hx hb hts iw_1 hown hK.1 hP 1 rfl rfl 4 (by decide) fn_54 (fun _ h9 => h9) rfl dX4_takesKind_9 ?_
  refine lv_iconst (v := iI 1) hx hb dX4_takesKind_12 (by decide +kernel) ?_
  refine n_isub hx hb dX4_takesKind_13 ?_
  refine lv_istore_n (lv' := [(3, .int (iI (cnt - 1))), (2, .int (iI (kOf c))), (0, .ref (x_ 0)), (1, .int (iI c))]) hx hb dX4_takesKind_14 rfl hl (by decide) rfl (fun ls hl => ?_)
  refine lv_iload_n hx hb dX4_takesKind_15 rfl (lv_at hl 1 rfl) ?_
  refine n_if_lt (tgt := 30) hx hb dX4_takesKind_16 (by decide) (by omega) (fun c_1 => ?_) (fun c_1 => ?_)
  ·
    refine lv_iconst (v := iI 0) hx hb dX4_takesKind_30 (by decide +kernel) ?_
    have e_2 : (at_ : Int) = (if 0 ≤ kOf c then 3 else at_) := (by first | rfl | omega | (rw [if_pos (by omega)]) | (rw [if_neg (by omega)]))
    have hP : va_P D vwCl (W_X_P cI cS x_ t_ (if 0 ≤ kOf c then 3 else at_) t_ cnt lv kd gd ln st) H := Eq.mp (congrArg (fun z_ => va_P D vwCl (W_X_P cI cS x_ t_ z_ t_ cnt lv kd gd ln st) H) e_2) hP
    have hD : va_D A (W_X_P cI cS x_ t_ (if 0 ≤ kOf c then 3 else at_) t_ cnt lv kd gd ln st) := Eq.mp (congrArg (fun z_ => va_D A (W_X_P cI cS x_ t_ z_ t_ cnt lv kd gd ln st)) e_2) hD
    have e_3 : (kd : Int → Int) = (if 0 ≤ kOf c then updI kd (cnt - 1) (kOf c) else kd) := (by first | rfl | omega | (rw [if_pos (by omega)]) | (rw [if_neg (by omega)]))
    have hP : va_P D vwCl (W_X_P cI cS x_ t_ (if 0 ≤ kOf c then 3 else at_) t_ cnt lv (if 0 ≤ kOf c then updI kd (cnt - 1) (kOf c) else kd) gd ln st) H := Eq.mp (congrArg (fun z_ => va_P D vwCl (W_X_P cI cS x_ t_ (if 0 ≤ kOf c then 3 else at_) t_ cnt lv z_ gd ln st) H) e_3) hP
    have hD : va_D A (W_X_P cI cS x_ t_ (if 0 ≤ kOf c then 3 else at_) t_ cnt lv (if 0 ≤ kOf c then updI kd (cnt - 1) (kOf c) else kd) gd ln st) := Eq.mp (congrArg (fun z_ => va_D A (W_X_P cI cS x_ t_ (if 0 ≤ kOf c then 3 else at_) t_ cnt lv z_ gd ln st)) e_3) hD
    exact W.zret (v := iI 0) (ty := .boolean) hx hb hr (by decide +kernel) (fun t ht hW => ⟨⟨_, (), rfl, congrArg iI (show 0 = (if 0 ≤ kOf c then 1 else 0) from (by first | rfl | omega | (rw [if_pos (by omega)]) | (rw [if_neg (by omega)]))), by rw [ht]; exact hP, hD⟩, hS.F ht⟩) hS.2.2 dX4_takesKind_31
  ·
    refine lv_aload_n hx hb dX4_takesKind_19 rfl (lv_at hl 2 rfl) ?_
    refine va_get (D := D) (ci := 4) (v := .ref (t_ 0)) (C := RX4) (T := TX4) (N := 2) hx hb hts iw_4 hown hK.1 hP 0 rfl rfl 0 (by decide) fl_12 (fun _ h9 => h9) rfl dX4_takesKind_20 ?_
    refine lv_iload_n hx hb dX4_takesKind_23 rfl (lv_at hl 0 rfl) ?_
    refine x_callVi (As := [.int (iI (cnt - 1))]) (rest := []) ⟨hx, hb, hml, hown, hts⟩ (c_X1_has l D cI cS t_ cnt lv kd gd ln st H.size (cnt - 1) (by first | assumption | omega) (by first | assumption | omega)) (cwV 1 hts gX4_takesKind_X1_has rfl rfl rfl (by decide +kernel) ⟨Nat.le_of_ble_eq_true rfl, Nat.le_of_ble_eq_true rfl⟩) hK hP hD hS hA [1, 2, 3, 4, 5] [0] (wr := [(x_ 0, .inr (4, [.ref (t_ 0), .int (iI at_)]))]) rfl rfl (by decide) (by decide) (by decide) 0 1 rfl rfl rfl [0, 1, 2, 3, 4, 5] (fun (u : Unit) => (W_X_P cI cS x_ t_ at_ t_ cnt lv kd gd ln st)) (fun _ => rfl) (by decide) rfl hl.1 rfl (Nat.le_of_ble_eq_true rfl) ⟨Nat.zero_le _, Nat.zero_le _⟩ dX4_takesKind_24 (fun r_ u_ H locs hw hP hD hS => ?_)
    try dsimp only at hw
    subst hw
    have hP : va_P D vwCl (W_X_P cI cS x_ t_ at_ t_ cnt lv kd gd ln st) H := hP
    have hD : va_D A (W_X_P cI cS x_ t_ at_ t_ cnt lv kd gd ln st) := hD
    refine n_if_b2 (tgt := 32) hx hb dX4_takesKind_27 (by decide)  (fun c_4 => ?_) (fun c_4 => ?_)
    ·
      refine lv_aload_n hx hb dX4_takesKind_32 rfl (lv_at hl 2 rfl) ?_
      refine va_get (D := D) (ci := 4) (v := .ref (t_ 0)) (C := RX4) (T := TX4) (N := 2) hx hb hts iw_4 hown hK.1 hP 0 rfl rfl 0 (by decide) fl_12 (fun _ h9 => h9) rfl dX4_takesKind_33 ?_
      refine va_getN (D := D) (ci := 1) (v := .ref (t_ 1)) (C := RX1) (T := TX1) (N := 6) hx hb hts iw_1 hown hK.1 hP 1 rfl rfl 0 (by decide) fn_60 (fun _ h9 => h9) rfl dX4_takesKind_36 ?_
      refine lv_iload_n hx hb dX4_takesKind_39 rfl (lv_at hl 0 rfl) ?_
      refine lv_iload_n hx hb dX4_takesKind_40 rfl (lv_at hl 1 rfl) ?_
      refine n_iast (n := 5) hx hb hK.1 hP hD hS 2 0 rfl rfl (by omega) (by decide) dX4_takesKind_41 (fun H locs hP hD hS => ?_)
      have hP : va_P D vwCl (W_X_P cI cS x_ t_ at_ t_ cnt lv (updI kd (cnt - 1) (kOf c)) gd ln st) H := hP
      have hD : va_D A (W_X_P cI cS x_ t_ at_ t_ cnt lv (updI kd (cnt - 1) (kOf c)) gd ln st) := hD
      refine lv_aload_n hx hb dX4_takesKind_42 rfl (lv_at hl 2 rfl) ?_
      refine lv_iconst (v := iI 3) hx hb dX4_takesKind_43 (by decide +kernel) ?_
      refine va_put (D := D) (ci := 4) (v := .int (iI 3)) (ty := .int) (C := RX4) (T := TX4) (N := 2) hx hb hts iw_4 tyX4 tyX4_ok nmX4 hown hK.1 hP hD hS 0 rfl rfl 1 (by decide) fl_18 (fun _ h9 => h9) rfl (by decide +kernel) rfl rfl (Nat.le_of_ble_eq_true rfl) dX4_takesKind_44 (fun H locs hP hD hS => ?_)
      have hP : va_P D vwCl (W_X_P cI cS x_ t_ 3 t_ cnt lv (updI kd (cnt - 1) (kOf c)) gd ln st) H := hP
      have hD : va_D A (W_X_P cI cS x_ t_ 3 t_ cnt lv (updI kd (cnt - 1) (kOf c)) gd ln st) := hD
      refine lv_iconst (v := iI 1) hx hb dX4_takesKind_47 (by decide +kernel) ?_
      have e_5 : (3 : Int) = (if 0 ≤ kOf c then 3 else at_) := (by first | rfl | omega | (rw [if_pos (by omega)]) | (rw [if_neg (by omega)]))
      have hP : va_P D vwCl (W_X_P cI cS x_ t_ (if 0 ≤ kOf c then 3 else at_) t_ cnt lv (updI kd (cnt - 1) (kOf c)) gd ln st) H := Eq.mp (congrArg (fun z_ => va_P D vwCl (W_X_P cI cS x_ t_ z_ t_ cnt lv (updI kd (cnt - 1) (kOf c)) gd ln st) H) e_5) hP
      have hD : va_D A (W_X_P cI cS x_ t_ (if 0 ≤ kOf c then 3 else at_) t_ cnt lv (updI kd (cnt - 1) (kOf c)) gd ln st) := Eq.mp (congrArg (fun z_ => va_D A (W_X_P cI cS x_ t_ z_ t_ cnt lv (updI kd (cnt - 1) (kOf c)) gd ln st)) e_5) hD
      have e_6 : ((updI kd (cnt - 1) (kOf c)) : Int → Int) = (if 0 ≤ kOf c then updI kd (cnt - 1) (kOf c) else kd) := (by first | rfl | omega | (rw [if_pos (by omega)]) | (rw [if_neg (by omega)]))
      have hP : va_P D vwCl (W_X_P cI cS x_ t_ (if 0 ≤ kOf c then 3 else at_) t_ cnt lv (if 0 ≤ kOf c then updI kd (cnt - 1) (kOf c) else kd) gd ln st) H := Eq.mp (congrArg (fun z_ => va_P D vwCl (W_X_P cI cS x_ t_ (if 0 ≤ kOf c then 3 else at_) t_ cnt lv z_ gd ln st) H) e_6) hP
      have hD : va_D A (W_X_P cI cS x_ t_ (if 0 ≤ kOf c then 3 else at_) t_ cnt lv (if 0 ≤ kOf c then updI kd (cnt - 1) (kOf c) else kd) gd ln st) := Eq.mp (congrArg (fun z_ => va_D A (W_X_P cI cS x_ t_ (if 0 ≤ kOf c then 3 else at_) t_ cnt lv z_ gd ln st)) e_6) hD
      exact W.zret (v := iI 1) (ty := .boolean) hx hb hr (by decide +kernel) (fun t ht hW => ⟨⟨_, (), rfl, congrArg iI (show 1 = (if 0 ≤ kOf c then 1 else 0) from (by first | rfl | omega | (rw [if_pos (by omega)]) | (rw [if_neg (by omega)]))), by rw [ht]; exact hP, hD⟩, hS.F ht⟩) hS.2.2 dX4_takesKind_48
    · exact False.elim (by first | contradiction | omega)
set_option maxHeartbeats 4000000 in
set_option maxRecDepth 100000 in
theorem c_X4_takesGuard (l : Launch) (D : va_G) (cI cS : ClassId) (x_ : Nat → Nat) (t_ : Nat → Nat) (at_ : Int) (cnt : Int) (lv : Int) (kd : Int → Int) (gd : Int → Int) (ln : Int → Int) (st : Int → Int) (sz : Nat) (c : Int) (h1c : 1 ≤ cnt ∧ cnt ≤ 5) (hcd : -2147483648 ≤ c ∧ c < 2147483648) : Met l yX4_takesGuard wsX4_takesGuard ({ frames := 1, cells := 0, slots := 0, locals := 21 }) (cP D cI cS (W_X_P cI cS x_ t_ at_ t_ cnt lv kd gd ln st) sz [.ref (x_ 0), .int (iI c)]) (va_Qi (fun (r : Int32) (u : Unit) => r = iI (if 48 ≤ c ∧ c < 52 then 1 else 0)) (fun (u : Unit) t => cB D (va_A (W_X_P cI cS x_ t_ at_ t_ cnt lv kd gd ln st) sz) (W_X_P cI cS x_ t_ (if 48 ≤ c ∧ c < 52 then 4 else at_) t_ cnt lv kd (if 48 ≤ c ∧ c < 52 then updI gd (cnt - 1) (c - 48) else gd) ln st) t) (va_A (W_X_P cI cS x_ t_ at_ t_ cnt lv kd gd ln st) sz)) 0 0 (va_A (W_X_P cI cS x_ t_ at_ t_ cnt lv kd gd ln st) sz) := by
  refine Met.ofW (cc := cX4_takesGuard) (maxL := 3) (ret := (some .boolean)) (by decide) rfl ?_
  intro p e s m args below meth c_ s₁ B hml hv
  obtain ⟨rfl, hsz, hP, hK, hD0⟩ := hv
  have hx := B.exec
  have hb := B.bytes
  have hr := B.returns
  have hts := atoms_spec (ws := wsX4_takesGuard) B.pre
  have hown : s.vm.findClass RX4 = some m.cls := findClass_of_methodNamed B.named
  have hlocks := B.notSynchronized
  subst hsz
  have hD := hD0.self (sz := s.heap.size)
  generalize hAe : va_A (W_X_P cI cS x_ t_ at_ t_ cnt lv kd gd ln st) s.heap.size = A at hD ⊢
  have hA : ∀ q : Nat, s.heap.size ≤ q → A q := fun q h => by rw [← hAe]; exact Or.inr h
  have hS : va_S A s.heap s.heap [] := va_S.rf
  have hP : va_P D vwCl (W_X_P cI cS x_ t_ at_ t_ cnt lv kd gd ln st) s.heap := hP
  have hl := lv_entry ([.ref (x_ 0), .int (iI c)] : List Value) (n := 3) (Nat.le_of_ble_eq_true rfl)
  rw [lg_entry_eq]
  generalize (lg_sl ([.ref (x_ 0), .int (iI c)] : List Value) ++ List.replicate (3 - (lg_sl ([.ref (x_ 0), .int (iI c)] : List Value)).length) Slot.unset).toArray = ls at hl ⊢
  have hl : lv_has ls 3 [(0, .ref (x_ 0)), (1, .int (iI c))] := hl
  have fl_12 := hts (.fieldLink RX4 12 "ActRows$Text" "draft" "LActRows$Program;") (by decide +kernel)
  have iw_4 : ∀ w ∈ wsX40, w ∈ wsX4_takesGuard := by decide +kernel
  have fn_54 := va_Nw.use (A := ([.ref (x_ 0), .int (iI c)] : List Value).toArray) rfl (hK.2 ("ActRows$Text", 54, "ActRows$Program", "count", "I") (List.mem_of_getElem? (i := 24) rfl))
  have iw_1 : ∀ w ∈ wsX10, w ∈ wsX4_takesGuard := by decide +kernel
  have fn_64 := va_Nw.use (A := ([.ref (x_ 0), .int (iI c)] : List Value).toArray) rfl (hK.2 ("ActRows$Text", 64, "ActRows$Program", "guarded", "[I") (List.mem_of_getElem? (i := 26) rfl))
  have fl_18 := hts (.fieldLink RX4 18 "ActRows$Text" "at" "I") (by decide +kernel)
  have hc : 0 ≤ cnt ∧ cnt ≤ 5 := by omega
  refine lv_aload_n hx hb dX4_takesGuard_0 rfl (lv_at hl 0 rfl) ?_
  refine va_get (D := D) (ci := 4) (v := .ref (t_ 0)) (C := RX4) (T := TX4) (N := 2) hx hb hts iw_4 hown hK.1 hP 0 rfl rfl 0 (by decide) fl_12 (fun _ h9 => h9) rfl dX4_takesGuard_1 ?_
  refine va_getN (D := D) (ci := 1) (v := .int (iI cnt)) (C := RX1) (T := TX1) (N := 6) hx hb hts iw_1 hown hK.1 hP 1 rfl rfl 4 (by decide) fn_54 (fun _ h9 => h9) rfl dX4_takesGuard_4 ?_
  refine lv_iconst (v := iI 1) hx hb dX4_takesGuard_7 (by decide +kernel) ?_
  refine n_isub hx hb dX4_takesGuard_8 ?_
  refine lv_istore_n (lv' := [(2, .int (iI (cnt - 1))), (0, .ref (x_ 0)), (1, .int (iI c))]) hx hb dX4_takesGuard_9 rfl hl (by decide) rfl (fun ls hl => ?_)
  refine lv_iload_n hx hb dX4_takesGuard_10 rfl (lv_at hl 2 rfl) ?_
  refine lv_bipush (v := iI 48) hx hb dX4_takesGuard_11 (by decide +kernel) ?_
  refine n_icmp_lt (tgt := 33) hx hb dX4_takesGuard_13 (by decide) (by omega) (fun c_1 => ?_) (fun c_1 => ?_)
  ·
    refine lv_iconst (v := iI 0) hx hb dX4_takesGuard_33 (by decide +kernel) ?_
    have e_2 : (at_ : Int) = (if 48 ≤ c ∧ c < 52 then 4 else at_) := (by first | rfl | omega | (rw [if_pos (by omega)]) | (rw [if_neg (by omega)]))
    have hP : va_P D vwCl (W_X_P cI cS x_ t_ (if 48 ≤ c ∧ c < 52 then 4 else at_) t_ cnt lv kd gd ln st) s.heap := Eq.mp (congrArg (fun z_ => va_P D vwCl (W_X_P cI cS x_ t_ z_ t_ cnt lv kd gd ln st) s.heap) e_2) hP
    have hD : va_D A (W_X_P cI cS x_ t_ (if 48 ≤ c ∧ c < 52 then 4 else at_) t_ cnt lv kd gd ln st) := Eq.mp (congrArg (fun z_ => va_D A (W_X_P cI cS x_ t_ z_ t_ cnt lv kd gd ln st)) e_2) hD
    have e_3 : (gd : Int → Int) = (if 48 ≤ c ∧ c < 52 then updI gd (cnt - 1) (c - 48) else gd) := (by first | rfl | omega | (rw [if_pos (by omega)]) | (rw [if_neg (by omega)]))
    have hP : va_P D vwCl (W_X_P cI cS x_ t_ (if 48 ≤ c ∧ c < 52 then 4 else at_) t_ cnt lv kd (if 48 ≤ c ∧ c < 52 then updI gd (cnt - 1) (c - 48) else gd) ln st) s.heap := Eq.mp (congrArg (fun z_ => va_P D vwCl (W_X_P cI cS x_ t_ (if 48 ≤ c ∧ c < 52 then 4 else at_) t_ cnt lv kd z_ ln st) s.heap) e_3) hP
    have hD : va_D A (W_X_P cI cS x_ t_ (if 48 ≤ c ∧ c < 52 then 4 else at_) t_ cnt lv kd (if 48 ≤ c ∧ c < 52 then updI gd (cnt - 1) (c - 48) else gd) ln st) := Eq.mp (congrArg (fun z_ => va_D A (W_X_P cI cS x_ t_ (if 48 ≤ c ∧ c < 52 then 4 else at_) t_ cnt lv kd z_ ln st)) e_3) hD
    exact W.zret (v := iI 0) (ty := .boolean) hx hb hr (by decide +kernel) (fun t ht hW => ⟨⟨_, (), rfl, congrArg iI (show 0 = (if 48 ≤ c ∧ c < 52 then 1 else 0) from (by first | rfl | omega | (rw [if_pos (by omega)]) | (rw [if_neg (by omega)]))), by rw [ht]; exact hP, hD⟩, hS.F ht⟩) hS.2.2 dX4_takesGuard_34
  ·
    refine lv_iload_n hx hb dX4_takesGuard_16 rfl (lv_at hl 2 rfl) ?_
    refine lv_bipush (v := iI 52) hx hb dX4_takesGuard_17 (by decide +kernel) ?_
    refine n_icmp_ge (tgt := 33) hx hb dX4_takesGuard_19 (by decide) (by omega) (fun c_4 => ?_) (fun c_4 => ?_)
    ·
      refine lv_iconst (v := iI 0) hx hb dX4_takesGuard_33 (by decide +kernel) ?_
      have e_5 : (at_ : Int) = (if 48 ≤ c ∧ c < 52 then 4 else at_) := (by first | rfl | omega | (rw [if_pos (by omega)]) | (rw [if_neg (by omega)]))
      have hP : va_P D vwCl (W_X_P cI cS x_ t_ (if 48 ≤ c ∧ c < 52 then 4 else at_) t_ cnt lv kd gd ln st) s.heap := Eq.mp (congrArg (fun z_ => va_P D vwCl (W_X_P cI cS x_ t_ z_ t_ cnt lv kd gd ln st) s.heap) e_5) hP
      have hD : va_D A (W_X_P cI cS x_ t_ (if 48 ≤ c ∧ c < 52 then 4 else at_) t_ cnt lv kd gd ln st) := Eq.mp (congrArg (fun z_ => va_D A (W_X_P cI cS x_ t_ z_ t_ cnt lv kd gd ln st)) e_5) hD
      have e_6 : (gd : Int → Int) = (if 48 ≤ c ∧ c < 52 then updI gd (cnt - 1) (c - 48) else gd) := (by first | rfl | omega | (rw [if_pos (by omega)]) | (rw [if_neg (by omega)]))
      have hP : va_P D vwCl (W_X_P cI cS x_ t_ (if 48 ≤ c ∧ c < 52 then 4 else at_) t_ cnt lv kd (if 48 ≤ c ∧ c < 52 then updI gd (cnt - 1) (c - 48) else gd) ln st) s.heap := Eq.mp (congrArg (fun z_ => va_P D vwCl (W_X_P cI cS x_ t_ (if 48 ≤ c ∧ c < 52 then 4 else at_) t_ cnt lv kd z_ ln st) s.heap) e_6) hP
      have hD : va_D A (W_X_P cI cS x_ t_ (if 48 ≤ c ∧ c < 52 then 4 else at_) t_ cnt lv kd (if 48 ≤ c ∧ c < 52 then updI gd (cnt - 1) (c - 48) else gd) ln st) := Eq.mp (congrArg (fun z_ => va_D A (W_X_P cI cS x_ t_ (if 48 ≤ c ∧ c < 52 then 4 else at_) t_ cnt lv kd z_ ln st)) e_6) hD
      exact W.zret (v := iI 0) (ty := .boolean) hx hb hr (by decide +kernel) (fun t ht hW => ⟨⟨_, (), rfl, congrArg iI (show 0 = (if 48 ≤ c ∧ c < 52 then 1 else 0) from (by first | rfl | omega | (rw [if_pos (by omega)]) | (rw [if_neg (by omega)]))), by rw [ht]; exact hP, hD⟩, hS.F ht⟩) hS.2.2 dX4_takesGuard_34
    ·
      refine lv_aload_n hx hb dX4_takesGuard_22 rfl (lv_at hl 1 rfl) ?_
      refine va_get (D := D) (ci := 4) (v := .ref (t_ 0)) (C := RX4) (T := TX4) (N := 2) hx hb hts iw_4 hown hK.1 hP 0 rfl rfl 0 (by decide) fl_12 (fun _ h9 => h9) rfl dX4_takesGuard_23 ?_
      refine lv_iload_n hx hb dX4_takesGuard_26 rfl (lv_at hl 0 rfl) ?_
      refine x_callVi (As := [.int (iI (cnt - 1))]) (rest := []) ⟨hx, hb, hml, hown, hts⟩ (c_X1_has l D cI cS t_ cnt lv kd gd ln st s.heap.size (cnt - 1) (by first | assumption | omega) (by first | assumption | omega)) (cwV 1 hts gX4_takesGuard_X1_has rfl rfl rfl (by decide +kernel) ⟨Nat.le_of_ble_eq_true rfl, Nat.le_of_ble_eq_true rfl⟩) hK hP hD hS hA [1, 2, 3, 4, 5] [0] (wr := [(x_ 0, .inr (4, [.ref (t_ 0), .int (iI at_)]))]) rfl rfl (by decide) (by decide) (by decide) 0 1 rfl rfl rfl [0, 1, 2, 3, 4, 5] (fun (u : Unit) => (W_X_P cI cS x_ t_ at_ t_ cnt lv kd gd ln st)) (fun _ => rfl) (by decide) rfl hl.1 rfl (Nat.le_of_ble_eq_true rfl) ⟨Nat.zero_le _, Nat.zero_le _⟩ dX4_takesGuard_27 (fun r_ u_ H locs hw hP hD hS => ?_)
      try dsimp only at hw
      subst hw
      have hP : va_P D vwCl (W_X_P cI cS x_ t_ at_ t_ cnt lv kd gd ln st) H := hP
      have hD : va_D A (W_X_P cI cS x_ t_ at_ t_ cnt lv kd gd ln st) := hD
      refine n_if_b2 (tgt := 35) hx hb dX4_takesGuard_30 (by decide)  (fun c_7 => ?_) (fun c_7 => ?_)
      ·
        refine lv_aload_n hx hb dX4_takesGuard_35 rfl (lv_at hl 1 rfl) ?_
        refine va_get (D := D) (ci := 4) (v := .ref (t_ 0)) (C := RX4) (T := TX4) (N := 2) hx hb hts iw_4 hown hK.1 hP 0 rfl rfl 0 (by decide) fl_12 (fun _ h9 => h9) rfl dX4_takesGuard_36 ?_
        refine va_getN (D := D) (ci := 1) (v := .ref (t_ 2)) (C := RX1) (T := TX1) (N := 6) hx hb hts iw_1 hown hK.1 hP 1 rfl rfl 1 (by decide) fn_64 (fun _ h9 => h9) rfl dX4_takesGuard_39 ?_
        refine lv_iload_n hx hb dX4_takesGuard_42 rfl (lv_at hl 0 rfl) ?_
        refine lv_iload_n hx hb dX4_takesGuard_43 rfl (lv_at hl 2 rfl) ?_
        refine lv_bipush (v := iI 48) hx hb dX4_takesGuard_44 (by decide +kernel) ?_
        refine n_isub hx hb dX4_takesGuard_46 ?_
        refine n_iast (n := 5) hx hb hK.1 hP hD hS 3 0 rfl rfl (by omega) (by decide) dX4_takesGuard_47 (fun H locs hP hD hS => ?_)
        have hP : va_P D vwCl (W_X_P cI cS x_ t_ at_ t_ cnt lv kd (updI gd (cnt - 1) (c - 48)) ln st) H := hP
        have hD : va_D A (W_X_P cI cS x_ t_ at_ t_ cnt lv kd (updI gd (cnt - 1) (c - 48)) ln st) := hD
        refine lv_aload_n hx hb dX4_takesGuard_48 rfl (lv_at hl 1 rfl) ?_
        refine lv_iconst (v := iI 4) hx hb dX4_takesGuard_49 (by decide +kernel) ?_
        refine va_put (D := D) (ci := 4) (v := .int (iI 4)) (ty := .int) (C := RX4) (T := TX4) (N := 2) hx hb hts iw_4 tyX4 tyX4_ok nmX4 hown hK.1 hP hD hS 0 rfl rfl 1 (by decide) fl_18 (fun _ h9 => h9) rfl (by decide +kernel) rfl rfl (Nat.le_of_ble_eq_true rfl) dX4_takesGuard_50 (fun H locs hP hD hS => ?_)
        have hP : va_P D vwCl (W_X_P cI cS x_ t_ 4 t_ cnt lv kd (updI gd (cnt - 1) (c - 48)) ln st) H := hP
        have hD : va_D A (W_X_P cI cS x_ t_ 4 t_ cnt lv kd (updI gd (cnt - 1) (c - 48)) ln st) := hD
        refine lv_iconst (v := iI 1) hx hb dX4_takesGuard_53 (by decide +kernel) ?_
        have e_8 : (4 : Int) = (if 48 ≤ c ∧ c < 52 then 4 else at_) := (by first | rfl | omega | (rw [if_pos (by omega)]) | (rw [if_neg (by omega)]))
        have hP : va_P D vwCl (W_X_P cI cS x_ t_ (if 48 ≤ c ∧ c < 52 then 4 else at_) t_ cnt lv kd (updI gd (cnt - 1) (c - 48)) ln st) H := Eq.mp (congrArg (fun z_ => va_P D vwCl (W_X_P cI cS x_ t_ z_ t_ cnt lv kd (updI gd (cnt - 1) (c - 48)) ln st) H) e_8) hP
        have hD : va_D A (W_X_P cI cS x_ t_ (if 48 ≤ c ∧ c < 52 then 4 else at_) t_ cnt lv kd (updI gd (cnt - 1) (c - 48)) ln st) := Eq.mp (congrArg (fun z_ => va_D A (W_X_P cI cS x_ t_ z_ t_ cnt lv kd (updI gd (cnt - 1) (c - 48)) ln st)) e_8) hD
        have e_9 : ((updI gd (cnt - 1) (c - 48)) : Int → Int) = (if 48 ≤ c ∧ c < 52 then updI gd (cnt - 1) (c - 48) else gd) := (by first | rfl | omega | (rw [if_pos (by omega)]) | (rw [if_neg (by omega)]))
        have hP : va_P D vwCl (W_X_P cI cS x_ t_ (if 48 ≤ c ∧ c < 52 then 4 else at_) t_ cnt lv kd (if 48 ≤ c ∧ c < 52 then updI gd (cnt - 1) (c - 48) else gd) ln st) H := Eq.mp (congrArg (fun z_ => va_P D vwCl (W_X_P cI cS x_ t_ (if 48 ≤ c ∧ c < 52 then 4 else at_) t_ cnt lv kd z_ ln st) H) e_9) hP
        have hD : va_D A (W_X_P cI cS x_ t_ (if 48 ≤ c ∧ c < 52 then 4 else at_) t_ cnt lv kd (if 48 ≤ c ∧ c < 52 then updI gd (cnt - 1) (c - 48) else gd) ln st) := Eq.mp (congrArg (fun z_ => va_D A (W_X_P cI cS x_ t_ (if 48 ≤ c ∧ c < 52 then 4 else at_) t_ cnt lv kd z_ ln st)) e_9) hD
        exact W.zret (v := iI 1) (ty := .boolean) hx hb hr (by decide +kernel) (fun t ht hW => ⟨⟨_, (), rfl, congrArg iI (show 1 = (if 48 ≤ c ∧ c < 52 then 1 else 0) from (by first | rfl | omega | (rw [if_pos (by omega)]) | (rw [if_neg (by omega)]))), by rw [ht]; exact hP, hD⟩, hS.F ht⟩) hS.2.2 dX4_takesGuard_54
      · exact False.elim (by first | contradiction | omega)
set_option maxHeartbeats 4000000 in
set_option maxRecDepth 100000 in
theorem c_X4_takesStep (l : Launch) (D : va_G) (cI cS : ClassId) (x_ : Nat → Nat) (t_ : Nat → Nat) (at_ : Int) (cnt : Int) (lv : Int) (kd : Int → Int) (gd : Int → Int) (ln : Int → Int) (st : Int → Int) (sz : Nat) (c : Int) (h1c : 1 ≤ cnt ∧ cnt ≤ 5) (hln : ∀ j : Int, 0 ≤ j → j < cnt → 0 ≤ ln j ∧ ln j ≤ 4) (hcd : -2147483648 ≤ c ∧ c < 2147483648) : Met l yX4_takesStep wsX4_takesStep ({ frames := 2, cells := 0, slots := 0, locals := 43 }) (cP D cI cS (W_X_P cI cS x_ t_ at_ t_ cnt lv kd gd ln st) sz [.ref (x_ 0), .int (iI c)]) (va_Qi (fun (r : Int32) (u : Unit) => r = iI (if 0 ≤ stv (cnt - 1) c ∧ ln (cnt - 1) < 4 then 1 else 0)) (fun (u : Unit) t => cB D (va_A (W_X_P cI cS x_ t_ at_ t_ cnt lv kd gd ln st) sz) (W_X_P cI cS x_ t_ at_ t_ cnt lv kd gd (if 0 ≤ stv (cnt - 1) c ∧ ln (cnt - 1) < 4 then updI ln (cnt - 1) (ln (cnt - 1) + 1) else ln) (if 0 ≤ stv (cnt - 1) c ∧ ln (cnt - 1) < 4 then updI st ((cnt - 1) * 4 + ln (cnt - 1)) (stv (cnt - 1) c) else st)) t) (va_A (W_X_P cI cS x_ t_ at_ t_ cnt lv kd gd ln st) sz)) 0 0 (va_A (W_X_P cI cS x_ t_ at_ t_ cnt lv kd gd ln st) sz) := by
  refine Met.ofW (cc := cX4_takesStep) (maxL := 3) (ret := (some .boolean)) (by decide) rfl ?_
  intro p e s m args below meth c_ s₁ B hml hv
  obtain ⟨rfl, hsz, hP, hK, hD0⟩ := hv
  have hx := B.exec
  have hb := B.bytes
  have hr := B.returns
  have hts := atoms_spec (ws := wsX4_takesStep) B.pre
  have hown : s.vm.findClass RX4 = some m.cls := findClass_of_methodNamed B.named
  have hlocks := B.notSynchronized
  subst hsz
  have hD := hD0.self (sz := s.heap.size)
  generalize hAe : va_A (W_X_P cI cS x_ t_ at_ t_ cnt lv kd gd ln st) s.heap.size = A at hD ⊢
  have hA : ∀ q : Nat, s.heap.size ≤ q → A q := fun q h => by rw [← hAe]; exact Or.inr h
  have hS : va_S A s.heap s.heap [] := va_S.rf
  have hP : va_P D vwCl (W_X_P cI cS x_ t_ at_ t_ cnt lv kd gd ln st) s.heap := hP
  have hl := lv_entry ([.ref (x_ 0), .int (iI c)] : List Value) (n := 3) (Nat.le_of_ble_eq_true rfl)
  rw [lg_entry_eq]
  generalize (lg_sl ([.ref (x_ 0), .int (iI c)] : List Value) ++ List.replicate (3 - (lg_sl ([.ref (x_ 0), .int (iI c)] : List Value)).length) Slot.unset).toArray = ls at hl ⊢
  have hl : lv_has ls 3 [(0, .ref (x_ 0)), (1, .int (iI c))] := hl
  have fl_12 := hts (.fieldLink RX4 12 "ActRows$Text" "draft" "LActRows$Program;") (by decide +kernel)
  have iw_4 : ∀ w ∈ wsX40, w ∈ wsX4_takesStep := by decide +kernel
  have fn_54 := va_Nw.use (A := ([.ref (x_ 0), .int (iI c)] : List Value).toArray) rfl (hK.2 ("ActRows$Text", 54, "ActRows$Program", "count", "I") (List.mem_of_getElem? (i := 24) rfl))
  have iw_1 : ∀ w ∈ wsX10, w ∈ wsX4_takesStep := by decide +kernel
  have hc : 0 ≤ cnt ∧ cnt ≤ 5 := by omega
  have hlq := hln (cnt - 1) (by omega) (by omega)
  refine lv_aload_n hx hb dX4_takesStep_0 rfl (lv_at hl 0 rfl) ?_
  refine va_get (D := D) (ci := 4) (v := .ref (t_ 0)) (C := RX4) (T := TX4) (N := 2) hx hb hts iw_4 hown hK.1 hP 0 rfl rfl 0 (by decide) fl_12 (fun _ h9 => h9) rfl dX4_takesStep_1 ?_
  refine va_getN (D := D) (ci := 1) (v := .int (iI cnt)) (C := RX1) (T := TX1) (N := 6) hx hb hts iw_1 hown hK.1 hP 1 rfl rfl 4 (by decide) fn_54 (fun _ h9 => h9) rfl dX4_takesStep_4 ?_
  refine lv_iconst (v := iI 1) hx hb dX4_takesStep_7 (by decide +kernel) ?_
  refine n_isub hx hb dX4_takesStep_8 ?_
  refine lv_istore_n (lv' := [(2, .int (iI (cnt - 1))), (0, .ref (x_ 0)), (1, .int (iI c))]) hx hb dX4_takesStep_9 rfl hl (by decide) rfl (fun ls hl => ?_)
  refine lv_iload_n hx hb dX4_takesStep_10 rfl (lv_at hl 2 rfl) ?_
  refine lv_bipush (v := iI 97) hx hb dX4_takesStep_11 (by decide +kernel) ?_
  refine n_icmp_lt (tgt := 35) hx hb dX4_takesStep_13 (by decide) (by omega) (fun c_1 => ?_) (fun c_1 => ?_)
  ·
    refine lv_iload_n hx hb dX4_takesStep_35 rfl (lv_at hl 2 rfl) ?_
    refine lv_bipush (v := iI 48) hx hb dX4_takesStep_36 (by decide +kernel) ?_
    refine n_icmp_lt (tgt := 70) hx hb dX4_takesStep_38 (by decide) (by omega) (fun c_2 => ?_) (fun c_2 => ?_)
    ·
      have hstv : stv (cnt - 1) c = -1 := by unfold stv; rw [if_neg (by omega), if_neg (by omega)]
      refine lv_iconst (v := iI 0) hx hb dX4_takesStep_70 (by decide +kernel) ?_
      have e_3 : (ln : Int → Int) = (if 0 ≤ stv (cnt - 1) c ∧ ln (cnt - 1) < 4 then updI ln (cnt - 1) (ln (cnt - 1) + 1) else ln) := (by by_cases q : 0 ≤ stv (cnt - 1) c ∧ ln (cnt - 1) < 4 <;> first | rfl | (rw [if_pos q]; done) | (rw [if_neg q]; done) | (rw [if_pos q, if_pos (by omega)]; done) | (rw [if_neg q, if_neg (by omega)]; done) | (rw [if_pos q, if_pos (by omega), hstv]; done) | (exfalso; omega))
      have hP : va_P D vwCl (W_X_P cI cS x_ t_ at_ t_ cnt lv kd gd (if 0 ≤ stv (cnt - 1) c ∧ ln (cnt - 1) < 4 then updI ln (cnt - 1) (ln (cnt - 1) + 1) else ln) st) s.heap := Eq.mp (congrArg (fun z_ => va_P D vwCl (W_X_P cI cS x_ t_ at_ t_ cnt lv kd gd z_ st) s.heap) e_3) hP
      have hD : va_D A (W_X_P cI cS x_ t_ at_ t_ cnt lv kd gd (if 0 ≤ stv (cnt - 1) c ∧ ln (cnt - 1) < 4 then updI ln (cnt - 1) (ln (cnt - 1) + 1) else ln) st) := Eq.mp (congrArg (fun z_ => va_D A (W_X_P cI cS x_ t_ at_ t_ cnt lv kd gd z_ st)) e_3) hD
      have e_4 : (st : Int → Int) = (if 0 ≤ stv (cnt - 1) c ∧ ln (cnt - 1) < 4 then updI st ((cnt - 1) * 4 + ln (cnt - 1)) (stv (cnt - 1) c) else st) := (by by_cases q : 0 ≤ stv (cnt - 1) c ∧ ln (cnt - 1) < 4 <;> first | rfl | (rw [if_pos q]; done) | (rw [if_neg q]; done) | (rw [if_pos q, if_pos (by omega)]; done) | (rw [if_neg q, if_neg (by omega)]; done) | (rw [if_pos q, if_pos (by omega), hstv]; done) | (exfalso; omega))
      have hP : va_P D vwCl (W_X_P cI cS x_ t_ at_ t_ cnt lv kd gd (if 0 ≤ stv (cnt - 1) c ∧ ln (cnt - 1) < 4 then updI ln (cnt - 1) (ln (cnt - 1) + 1) else ln) (if 0 ≤ stv (cnt - 1) c ∧ ln (cnt - 1) < 4 then updI st ((cnt - 1) * 4 + ln (cnt - 1)) (stv (cnt - 1) c) else st)) s.heap := Eq.mp (congrArg (fun z_ => va_P D vwCl (W_X_P cI cS x_ t_ at_ t_ cnt lv kd gd (if 0 ≤ stv (cnt - 1) c ∧ ln (cnt - 1) < 4 then updI ln (cnt - 1) (ln (cnt - 1) + 1) else ln) z_) s.heap) e_4) hP
      have hD : va_D A (W_X_P cI cS x_ t_ at_ t_ cnt lv kd gd (if 0 ≤ stv (cnt - 1) c ∧ ln (cnt - 1) < 4 then updI ln (cnt - 1) (ln (cnt - 1) + 1) else ln) (if 0 ≤ stv (cnt - 1) c ∧ ln (cnt - 1) < 4 then updI st ((cnt - 1) * 4 + ln (cnt - 1)) (stv (cnt - 1) c) else st)) := Eq.mp (congrArg (fun z_ => va_D A (W_X_P cI cS x_ t_ at_ t_ cnt lv kd gd (if 0 ≤ stv (cnt - 1) c ∧ ln (cnt - 1) < 4 then updI ln (cnt - 1) (ln (cnt - 1) + 1) else ln) z_)) e_4) hD
      exact W.zret (v := iI 0) (ty := .boolean) hx hb hr (by decide +kernel) (fun t ht hW => ⟨⟨_, (), rfl, congrArg iI (show 0 = (if 0 ≤ stv (cnt - 1) c ∧ ln (cnt - 1) < 4 then 1 else 0) from (by omega)), by rw [ht]; exact hP, hD⟩, hS.F ht⟩) hS.2.2 dX4_takesStep_71
    ·
      refine lv_iload_n hx hb dX4_takesStep_41 rfl (lv_at hl 2 rfl) ?_
      refine lv_bipush (v := iI 48) hx hb dX4_takesStep_42 (by decide +kernel) ?_
      refine lv_iload_n hx hb dX4_takesStep_44 rfl (lv_at hl 0 rfl) ?_
      refine n_iadd hx hb dX4_takesStep_45 ?_
      refine n_icmp_ge (tgt := 70) hx hb dX4_takesStep_46 (by decide) (by omega) (fun c_5 => ?_) (fun c_5 => ?_)
      ·
        have hstv : stv (cnt - 1) c = -1 := by unfold stv; rw [if_neg (by omega), if_neg (by omega)]
        refine lv_iconst (v := iI 0) hx hb dX4_takesStep_70 (by decide +kernel) ?_
        have e_6 : (ln : Int → Int) = (if 0 ≤ stv (cnt - 1) c ∧ ln (cnt - 1) < 4 then updI ln (cnt - 1) (ln (cnt - 1) + 1) else ln) := (by by_cases q : 0 ≤ stv (cnt - 1) c ∧ ln (cnt - 1) < 4 <;> first | rfl | (rw [if_pos q]; done) | (rw [if_neg q]; done) | (rw [if_pos q, if_pos (by omega)]; done) | (rw [if_neg q, if_neg (by omega)]; done) | (rw [if_pos q, if_pos (by omega), hstv]; done) | (exfalso; omega))
        have hP : va_P D vwCl (W_X_P cI cS x_ t_ at_ t_ cnt lv kd gd (if 0 ≤ stv (cnt - 1) c ∧ ln (cnt - 1) < 4 then updI ln (cnt - 1) (ln (cnt - 1) + 1) else ln) st) s.heap := Eq.mp (congrArg (fun z_ => va_P D vwCl (W_X_P cI cS x_ t_ at_ t_ cnt lv kd gd z_ st) s.heap) e_6) hP
        have hD : va_D A (W_X_P cI cS x_ t_ at_ t_ cnt lv kd gd (if 0 ≤ stv (cnt - 1) c ∧ ln (cnt - 1) < 4 then updI ln (cnt - 1) (ln (cnt - 1) + 1) else ln) st) := Eq.mp (congrArg (fun z_ => va_D A (W_X_P cI cS x_ t_ at_ t_ cnt lv kd gd z_ st)) e_6) hD
        have e_7 : (st : Int → Int) = (if 0 ≤ stv (cnt - 1) c ∧ ln (cnt - 1) < 4 then updI st ((cnt - 1) * 4 + ln (cnt - 1)) (stv (cnt - 1) c) else st) := (by by_cases q : 0 ≤ stv (cnt - 1) c ∧ ln (cnt - 1) < 4 <;> first | rfl | (rw [if_pos q]; done) | (rw [if_neg q]; done) | (rw [if_pos q, if_pos (by omega)]; done) | (rw [if_neg q, if_neg (by omega)]; done) | (rw [if_pos q, if_pos (by omega), hstv]; done) | (exfalso; omega))
        have hP : va_P D vwCl (W_X_P cI cS x_ t_ at_ t_ cnt lv kd gd (if 0 ≤ stv (cnt - 1) c ∧ ln (cnt - 1) < 4 then updI ln (cnt - 1) (ln (cnt - 1) + 1) else ln) (if 0 ≤ stv (cnt - 1) c ∧ ln (cnt - 1) < 4 then updI st ((cnt - 1) * 4 + ln (cnt - 1)) (stv (cnt - 1) c) else st)) s.heap := Eq.mp (congrArg (fun z_ => va_P D vwCl (W_X_P cI cS x_ t_ at_ t_ cnt lv kd gd (if 0 ≤ stv (cnt - 1) c ∧ ln (cnt - 1) < 4 then updI ln (cnt - 1) (ln (cnt - 1) + 1) else ln) z_) s.heap) e_7) hP
        have hD : va_D A (W_X_P cI cS x_ t_ at_ t_ cnt lv kd gd (if 0 ≤ stv (cnt - 1) c ∧ ln (cnt - 1) < 4 then updI ln (cnt - 1) (ln (cnt - 1) + 1) else ln) (if 0 ≤ stv (cnt - 1) c ∧ ln (cnt - 1) < 4 then updI st ((cnt - 1) * 4 + ln (cnt - 1)) (stv (cnt - 1) c) else st)) := Eq.mp (congrArg (fun z_ => va_D A (W_X_P cI cS x_ t_ at_ t_ cnt lv kd gd (if 0 ≤ stv (cnt - 1) c ∧ ln (cnt - 1) < 4 then updI ln (cnt - 1) (ln (cnt - 1) + 1) else ln) z_)) e_7) hD
        exact W.zret (v := iI 0) (ty := .boolean) hx hb hr (by decide +kernel) (fun t ht hW => ⟨⟨_, (), rfl, congrArg iI (show 0 = (if 0 ≤ stv (cnt - 1) c ∧ ln (cnt - 1) < 4 then 1 else 0) from (by omega)), by rw [ht]; exact hP, hD⟩, hS.F ht⟩) hS.2.2 dX4_takesStep_71
      ·
        have hstv : stv (cnt - 1) c = 4 + c - 48 := by unfold stv; rw [if_neg (by omega), if_pos (by omega)]
        refine lv_aload_n hx hb dX4_takesStep_49 rfl (lv_at hl 1 rfl) ?_
        refine va_get (D := D) (ci := 4) (v := .ref (t_ 0)) (C := RX4) (T := TX4) (N := 2) hx hb hts iw_4 hown hK.1 hP 0 rfl rfl 0 (by decide) fl_12 (fun _ h9 => h9) rfl dX4_takesStep_50 ?_
        refine lv_iload_n hx hb dX4_takesStep_53 rfl (lv_at hl 0 rfl) ?_
        refine lv_iconst (v := iI 4) hx hb dX4_takesStep_54 (by decide +kernel) ?_
        refine lv_iload_n hx hb dX4_takesStep_55 rfl (lv_at hl 2 rfl) ?_
        refine n_iadd hx hb dX4_takesStep_56 ?_
        refine lv_bipush (v := iI 48) hx hb dX4_takesStep_57 (by decide +kernel) ?_
        refine n_isub hx hb dX4_takesStep_59 ?_
        refine x_callVi (As := [.int (iI (cnt - 1)), .int (iI ((4 + c) - 48))]) (rest := []) ⟨hx, hb, hml, hown, hts⟩ (c_X1_addStep l D cI cS t_ cnt lv kd gd ln st s.heap.size (cnt - 1) ((4 + c) - 48) (by first | assumption | omega) (by first | assumption | omega) (by first | assumption | omega)) (cwV 2 hts gX4_takesStep_X1_addStep rfl rfl rfl (by decide +kernel) ⟨Nat.le_of_ble_eq_true rfl, Nat.le_of_ble_eq_true rfl⟩) hK hP hD hS hA [1, 2, 3, 4, 5] [0] (wr := [(x_ 0, .inr (4, [.ref (t_ 0), .int (iI at_)]))]) rfl rfl (by decide) (by decide) (by decide) 0 1 rfl rfl rfl [0, 1, 2, 3, 4, 5] (fun (u : Unit) => (W_X_P cI cS x_ t_ at_ t_ cnt lv kd gd (if (0 ≤ (cnt - 1) ∧ (cnt - 1) < cnt) ∧ ln (cnt - 1) < 4 then updI ln (cnt - 1) (ln (cnt - 1) + 1) else ln) (if (0 ≤ (cnt - 1) ∧ (cnt - 1) < cnt) ∧ ln (cnt - 1) < 4 then updI st ((cnt - 1) * 4 + ln (cnt - 1)) ((4 + c) - 48) else st))) (fun _ => rfl) (by decide) rfl hl.1 rfl (Nat.le_of_ble_eq_true rfl) ⟨Nat.zero_le _, Nat.zero_le _⟩ dX4_takesStep_60 (fun r_ u_ H locs hw hP hD hS => ?_)
        try dsimp only at hw
        subst hw
        have hP : va_P D vwCl (W_X_P cI cS x_ t_ at_ t_ cnt lv kd gd (if (0 ≤ (cnt - 1) ∧ (cnt - 1) < cnt) ∧ ln (cnt - 1) < 4 then updI ln (cnt - 1) (ln (cnt - 1) + 1) else ln) (if (0 ≤ (cnt - 1) ∧ (cnt - 1) < cnt) ∧ ln (cnt - 1) < 4 then updI st ((cnt - 1) * 4 + ln (cnt - 1)) ((4 + c) - 48) else st)) H := hP
        have hD : va_D A (W_X_P cI cS x_ t_ at_ t_ cnt lv kd gd (if (0 ≤ (cnt - 1) ∧ (cnt - 1) < cnt) ∧ ln (cnt - 1) < 4 then updI ln (cnt - 1) (ln (cnt - 1) + 1) else ln) (if (0 ≤ (cnt - 1) ∧ (cnt - 1) < cnt) ∧ ln (cnt - 1) < 4 then updI st ((cnt - 1) * 4 + ln (cnt - 1)) ((4 + c) - 48) else st)) := hD
        refine n_if_b1 (tgt := 70) hx hb dX4_takesStep_63 (by decide)  (fun c_8 => ?_) (fun c_8 => ?_)
        ·
          refine lv_iconst (v := iI 0) hx hb dX4_takesStep_70 (by decide +kernel) ?_
          have e_9 : ((if (0 ≤ (cnt - 1) ∧ (cnt - 1) < cnt) ∧ ln (cnt - 1) < 4 then updI ln (cnt - 1) (ln (cnt - 1) + 1) else ln) : Int → Int) = (if 0 ≤ stv (cnt - 1) c ∧ ln (cnt - 1) < 4 then updI ln (cnt - 1) (ln (cnt - 1) + 1) else ln) := (by by_cases q : 0 ≤ stv (cnt - 1) c ∧ ln (cnt - 1) < 4 <;> first | rfl | (rw [if_pos q]; done) | (rw [if_neg q]; done) | (rw [if_pos q, if_pos (by omega)]; done) | (rw [if_neg q, if_neg (by omega)]; done) | (rw [if_pos q, if_pos (by omega), hstv]; done) | (exfalso; omega))
          have hP : va_P D vwCl (W_X_P cI cS x_ t_ at_ t_ cnt lv kd gd (if 0 ≤ stv (cnt - 1) c ∧ ln (cnt - 1) < 4 then updI ln (cnt - 1) (ln (cnt - 1) + 1) else ln) (if (0 ≤ (cnt - 1) ∧ (cnt - 1) < cnt) ∧ ln (cnt - 1) < 4 then updI st ((cnt - 1) * 4 + ln (cnt - 1)) ((4 + c) - 48) else st)) H := Eq.mp (congrArg (fun z_ => va_P D vwCl (W_X_P cI cS x_ t_ at_ t_ cnt lv kd gd z_ (if (0 ≤ (cnt - 1) ∧ (cnt - 1) < cnt) ∧ ln (cnt - 1) < 4 then updI st ((cnt - 1) * 4 + ln (cnt - 1)) ((4 + c) - 48) else st)) H) e_9) hP
          have hD : va_D A (W_X_P cI cS x_ t_ at_ t_ cnt lv kd gd (if 0 ≤ stv (cnt - 1) c ∧ ln (cnt - 1) < 4 then updI ln (cnt - 1) (ln (cnt - 1) + 1) else ln) (if (0 ≤ (cnt - 1) ∧ (cnt - 1) < cnt) ∧ ln (cnt - 1) < 4 then updI st ((cnt - 1) * 4 + ln (cnt - 1)) ((4 + c) - 48) else st)) := Eq.mp (congrArg (fun z_ => va_D A (W_X_P cI cS x_ t_ at_ t_ cnt lv kd gd z_ (if (0 ≤ (cnt - 1) ∧ (cnt - 1) < cnt) ∧ ln (cnt - 1) < 4 then updI st ((cnt - 1) * 4 + ln (cnt - 1)) ((4 + c) - 48) else st))) e_9) hD
          have e_10 : ((if (0 ≤ (cnt - 1) ∧ (cnt - 1) < cnt) ∧ ln (cnt - 1) < 4 then updI st ((cnt - 1) * 4 + ln (cnt - 1)) ((4 + c) - 48) else st) : Int → Int) = (if 0 ≤ stv (cnt - 1) c ∧ ln (cnt - 1) < 4 then updI st ((cnt - 1) * 4 + ln (cnt - 1)) (stv (cnt - 1) c) else st) := (by by_cases q : 0 ≤ stv (cnt - 1) c ∧ ln (cnt - 1) < 4 <;> first | rfl | (rw [if_pos q]; done) | (rw [if_neg q]; done) | (rw [if_pos q, if_pos (by omega)]; done) | (rw [if_neg q, if_neg (by omega)]; done) | (rw [if_pos q, if_pos (by omega), hstv]; done) | (exfalso; omega))
          have hP : va_P D vwCl (W_X_P cI cS x_ t_ at_ t_ cnt lv kd gd (if 0 ≤ stv (cnt - 1) c ∧ ln (cnt - 1) < 4 then updI ln (cnt - 1) (ln (cnt - 1) + 1) else ln) (if 0 ≤ stv (cnt - 1) c ∧ ln (cnt - 1) < 4 then updI st ((cnt - 1) * 4 + ln (cnt - 1)) (stv (cnt - 1) c) else st)) H := Eq.mp (congrArg (fun z_ => va_P D vwCl (W_X_P cI cS x_ t_ at_ t_ cnt lv kd gd (if 0 ≤ stv (cnt - 1) c ∧ ln (cnt - 1) < 4 then updI ln (cnt - 1) (ln (cnt - 1) + 1) else ln) z_) H) e_10) hP
          have hD : va_D A (W_X_P cI cS x_ t_ at_ t_ cnt lv kd gd (if 0 ≤ stv (cnt - 1) c ∧ ln (cnt - 1) < 4 then updI ln (cnt - 1) (ln (cnt - 1) + 1) else ln) (if 0 ≤ stv (cnt - 1) c ∧ ln (cnt - 1) < 4 then updI st ((cnt - 1) * 4 + ln (cnt - 1)) (stv (cnt - 1) c) else st)) := Eq.mp (congrArg (fun z_ => va_D A (W_X_P cI cS x_ t_ at_ t_ cnt lv kd gd (if 0 ≤ stv (cnt - 1) c ∧ ln (cnt - 1) < 4 then updI ln (cnt - 1) (ln (cnt - 1) + 1) else ln) z_)) e_10) hD
          exact W.zret (v := iI 0) (ty := .boolean) hx hb hr (by decide +kernel) (fun t ht hW => ⟨⟨_, (), rfl, congrArg iI (show 0 = (if 0 ≤ stv (cnt - 1) c ∧ ln (cnt - 1) < 4 then 1 else 0) from (by omega)), by rw [ht]; exact hP, hD⟩, hS.F ht⟩) hS.2.2 dX4_takesStep_71
        ·
          refine lv_iconst (v := iI 1) hx hb dX4_takesStep_66 (by decide +kernel) ?_
          refine lv_goto (tgt := 71) hx hb dX4_takesStep_67 (by decide) ?_
          have e_11 : ((if (0 ≤ (cnt - 1) ∧ (cnt - 1) < cnt) ∧ ln (cnt - 1) < 4 then updI ln (cnt - 1) (ln (cnt - 1) + 1) else ln) : Int → Int) = (if 0 ≤ stv (cnt - 1) c ∧ ln (cnt - 1) < 4 then updI ln (cnt - 1) (ln (cnt - 1) + 1) else ln) := (by by_cases q : 0 ≤ stv (cnt - 1) c ∧ ln (cnt - 1) < 4 <;> first | rfl | (rw [if_pos q]; done) | (rw [if_neg q]; done) | (rw [if_pos q, if_pos (by omega)]; done) | (rw [if_neg q, if_neg (by omega)]; done) | (rw [if_pos q, if_pos (by omega), hstv]; done) | (exfalso; omega))
          have hP : va_P D vwCl (W_X_P cI cS x_ t_ at_ t_ cnt lv kd gd (if 0 ≤ stv (cnt - 1) c ∧ ln (cnt - 1) < 4 then updI ln (cnt - 1) (ln (cnt - 1) + 1) else ln) (if (0 ≤ (cnt - 1) ∧ (cnt - 1) < cnt) ∧ ln (cnt - 1) < 4 then updI st ((cnt - 1) * 4 + ln (cnt - 1)) ((4 + c) - 48) else st)) H := Eq.mp (congrArg (fun z_ => va_P D vwCl (W_X_P cI cS x_ t_ at_ t_ cnt lv kd gd z_ (if (0 ≤ (cnt - 1) ∧ (cnt - 1) < cnt) ∧ ln (cnt - 1) < 4 then updI st ((cnt - 1) * 4 + ln (cnt - 1)) ((4 + c) - 48) else st)) H) e_11) hP
          have hD : va_D A (W_X_P cI cS x_ t_ at_ t_ cnt lv kd gd (if 0 ≤ stv (cnt - 1) c ∧ ln (cnt - 1) < 4 then updI ln (cnt - 1) (ln (cnt - 1) + 1) else ln) (if (0 ≤ (cnt - 1) ∧ (cnt - 1) < cnt) ∧ ln (cnt - 1) < 4 then updI st ((cnt - 1) * 4 + ln (cnt - 1)) ((4 + c) - 48) else st)) := Eq.mp (congrArg (fun z_ => va_D A (W_X_P cI cS x_ t_ at_ t_ cnt lv kd gd z_ (if (0 ≤ (cnt - 1) ∧ (cnt - 1) < cnt) ∧ ln (cnt - 1) < 4 then updI st ((cnt - 1) * 4 + ln (cnt - 1)) ((4 + c) - 48) else st))) e_11) hD
          have e_12 : ((if (0 ≤ (cnt - 1) ∧ (cnt - 1) < cnt) ∧ ln (cnt - 1) < 4 then updI st ((cnt - 1) * 4 + ln (cnt - 1)) ((4 + c) - 48) else st) : Int → Int) = (if 0 ≤ stv (cnt - 1) c ∧ ln (cnt - 1) < 4 then updI st ((cnt - 1) * 4 + ln (cnt - 1)) (stv (cnt - 1) c) else st) := (by by_cases q : 0 ≤ stv (cnt - 1) c ∧ ln (cnt - 1) < 4 <;> first | rfl | (rw [if_pos q]; done) | (rw [if_neg q]; done) | (rw [if_pos q, if_pos (by omega)]; done) | (rw [if_neg q, if_neg (by omega)]; done) | (rw [if_pos q, if_pos (by omega), hstv]; done) | (exfalso; omega))
          have hP : va_P D vwCl (W_X_P cI cS x_ t_ at_ t_ cnt lv kd gd (if 0 ≤ stv (cnt - 1) c ∧ ln (cnt - 1) < 4 then updI ln (cnt - 1) (ln (cnt - 1) + 1) else ln) (if 0 ≤ stv (cnt - 1) c ∧ ln (cnt - 1) < 4 then updI st ((cnt - 1) * 4 + ln (cnt - 1)) (stv (cnt - 1) c) else st)) H := Eq.mp (congrArg (fun z_ => va_P D vwCl (W_X_P cI cS x_ t_ at_ t_ cnt lv kd gd (if 0 ≤ stv (cnt - 1) c ∧ ln (cnt - 1) < 4 then updI ln (cnt - 1) (ln (cnt - 1) + 1) else ln) z_) H) e_12) hP
          have hD : va_D A (W_X_P cI cS x_ t_ at_ t_ cnt lv kd gd (if 0 ≤ stv (cnt - 1) c ∧ ln (cnt - 1) < 4 then updI ln (cnt - 1) (ln (cnt - 1) + 1) else ln) (if 0 ≤ stv (cnt - 1) c ∧ ln (cnt - 1) < 4 then updI st ((cnt - 1) * 4 + ln (cnt - 1)) (stv (cnt - 1) c) else st)) := Eq.mp (congrArg (fun z_ => va_D A (W_X_P cI cS x_ t_ at_ t_ cnt lv kd gd (if 0 ≤ stv (cnt - 1) c ∧ ln (cnt - 1) < 4 then updI ln (cnt - 1) (ln (cnt - 1) + 1) else ln) z_)) e_12) hD
          exact W.zret (v := iI 1) (ty := .boolean) hx hb hr (by decide +kernel) (fun t ht hW => ⟨⟨_, (), rfl, congrArg iI (show 1 = (if 0 ≤ stv (cnt - 1) c ∧ ln (cnt - 1) < 4 then 1 else 0) from (by omega)), by rw [ht]; exact hP, hD⟩, hS.F ht⟩) hS.2.2 dX4_takesStep_71
  ·
    refine lv_iload_n hx hb dX4_takesStep_16 rfl (lv_at hl 2 rfl) ?_
    refine lv_bipush (v := iI 101) hx hb dX4_takesStep_17 (by decide +kernel) ?_
    refine n_icmp_ge (tgt := 35) hx hb dX4_takesStep_19 (by decide) (by omega) (fun c_13 => ?_) (fun c_13 => ?_)
    ·
      refine lv_iload_n hx hb dX4_takesStep_35 rfl (lv_at hl 2 rfl) ?_
      refine lv_bipush (v := iI 48) hx hb dX4_takesStep_36 (by decide +kernel) ?_
      refine n_icmp_lt (tgt := 70) hx hb dX4_takesStep_38 (by decide) (by omega) (fun c_14 => ?_) (fun c_14 => ?_)
      ·
        have hstv : stv (cnt - 1) c = -1 := by unfold stv; rw [if_neg (by omega), if_neg (by omega)]
        refine lv_iconst (v := iI 0) hx hb dX4_takesStep_70 (by decide +kernel) ?_
        have e_15 : (ln : Int → Int) = (if 0 ≤ stv (cnt - 1) c ∧ ln (cnt - 1) < 4 then updI ln (cnt - 1) (ln (cnt - 1) + 1) else ln) := (by by_cases q : 0 ≤ stv (cnt - 1) c ∧ ln (cnt - 1) < 4 <;> first | rfl | (rw [if_pos q]; done) | (rw [if_neg q]; done) | (rw [if_pos q, if_pos (by omega)]; done) | (rw [if_neg q, if_neg (by omega)]; done) | (rw [if_pos q, if_pos (by omega), hstv]; done) | (exfalso; omega))
        have hP : va_P D vwCl (W_X_P cI cS x_ t_ at_ t_ cnt lv kd gd (if 0 ≤ stv (cnt - 1) c ∧ ln (cnt - 1) < 4 then updI ln (cnt - 1) (ln (cnt - 1) + 1) else ln) st) s.heap := Eq.mp (congrArg (fun z_ => va_P D vwCl (W_X_P cI cS x_ t_ at_ t_ cnt lv kd gd z_ st) s.heap) e_15) hP
        have hD : va_D A (W_X_P cI cS x_ t_ at_ t_ cnt lv kd gd (if 0 ≤ stv (cnt - 1) c ∧ ln (cnt - 1) < 4 then updI ln (cnt - 1) (ln (cnt - 1) + 1) else ln) st) := Eq.mp (congrArg (fun z_ => va_D A (W_X_P cI cS x_ t_ at_ t_ cnt lv kd gd z_ st)) e_15) hD
        have e_16 : (st : Int → Int) = (if 0 ≤ stv (cnt - 1) c ∧ ln (cnt - 1) < 4 then updI st ((cnt - 1) * 4 + ln (cnt - 1)) (stv (cnt - 1) c) else st) := (by by_cases q : 0 ≤ stv (cnt - 1) c ∧ ln (cnt - 1) < 4 <;> first | rfl | (rw [if_pos q]; done) | (rw [if_neg q]; done) | (rw [if_pos q, if_pos (by omega)]; done) | (rw [if_neg q, if_neg (by omega)]; done) | (rw [if_pos q, if_pos (by omega), hstv]; done) | (exfalso; omega))
        have hP : va_P D vwCl (W_X_P cI cS x_ t_ at_ t_ cnt lv kd gd (if 0 ≤ stv (cnt - 1) c ∧ ln (cnt - 1) < 4 then updI ln (cnt - 1) (ln (cnt - 1) + 1) else ln) (if 0 ≤ stv (cnt - 1) c ∧ ln (cnt - 1) < 4 then updI st ((cnt - 1) * 4 + ln (cnt - 1)) (stv (cnt - 1) c) else st)) s.heap := Eq.mp (congrArg (fun z_ => va_P D vwCl (W_X_P cI cS x_ t_ at_ t_ cnt lv kd gd (if 0 ≤ stv (cnt - 1) c ∧ ln (cnt - 1) < 4 then updI ln (cnt - 1) (ln (cnt - 1) + 1) else ln) z_) s.heap) e_16) hP
        have hD : va_D A (W_X_P cI cS x_ t_ at_ t_ cnt lv kd gd (if 0 ≤ stv (cnt - 1) c ∧ ln (cnt - 1) < 4 then updI ln (cnt - 1) (ln (cnt - 1) + 1) else ln) (if 0 ≤ stv (cnt - 1) c ∧ ln (cnt - 1) < 4 then updI st ((cnt - 1) * 4 + ln (cnt - 1)) (stv (cnt - 1) c) else st)) := Eq.mp (congrArg (fun z_ => va_D A (W_X_P cI cS x_ t_ at_ t_ cnt lv kd gd (if 0 ≤ stv (cnt - 1) c ∧ ln (cnt - 1) < 4 then updI ln (cnt - 1) (ln (cnt - 1) + 1) else ln) z_)) e_16) hD
        exact W.zret (v := iI 0) (ty := .boolean) hx hb hr (by decide +kernel) (fun t ht hW => ⟨⟨_, (), rfl, congrArg iI (show 0 = (if 0 ≤ stv (cnt - 1) c ∧ ln (cnt - 1) < 4 then 1 else 0) from (by omega)), by rw [ht]; exact hP, hD⟩, hS.F ht⟩) hS.2.2 dX4_takesStep_71
      ·
        refine lv_iload_n hx hb dX4_takesStep_41 rfl (lv_at hl 2 rfl) ?_
        refine lv_bipush (v := iI 48) hx hb dX4_takesStep_42 (by decide +kernel) ?_
        refine lv_iload_n hx hb dX4_takesStep_44 rfl (lv_at hl 0 rfl) ?_
        refine n_iadd hx hb dX4_takesStep_45 ?_
        refine n_icmp_ge (tgt := 70) hx hb dX4_takesStep_46 (by decide) (by omega) (fun c_17 => ?_) (fun c_17 => ?_)
        ·
          have hstv : stv (cnt - 1) c = -1 := by unfold stv; rw [if_neg (by omega), if_neg (by omega)]
          refine lv_iconst (v := iI 0) hx hb dX4_takesStep_70 (by decide +kernel) ?_
          have e_18 : (ln : Int → Int) = (if 0 ≤ stv (cnt - 1) c ∧ ln (cnt - 1) < 4 then updI ln (cnt - 1) (ln (cnt - 1) + 1) else ln) := (by by_cases q : 0 ≤ stv (cnt - 1) c ∧ ln (cnt - 1) < 4 <;> first | rfl | (rw [if_pos q]; done) | (rw [if_neg q]; done) | (rw [if_pos q, if_pos (by omega)]; done) | (rw [if_neg q, if_neg (by omega)]; done) | (rw [if_pos q, if_pos (by omega), hstv]; done) | (exfalso; omega))
          have hP : va_P D vwCl (W_X_P cI cS x_ t_ at_ t_ cnt lv kd gd (if 0 ≤ stv (cnt - 1) c ∧ ln (cnt - 1) < 4 then updI ln (cnt - 1) (ln (cnt - 1) + 1) else ln) st) s.heap := Eq.mp (congrArg (fun z_ => va_P D vwCl (W_X_P cI cS x_ t_ at_ t_ cnt lv kd gd z_ st) s.heap) e_18) hP
          have hD : va_D A (W_X_P cI cS x_ t_ at_ t_ cnt lv kd gd (if 0 ≤ stv (cnt - 1) c ∧ ln (cnt - 1) < 4 then updI ln (cnt - 1) (ln (cnt - 1) + 1) else ln) st) := Eq.mp (congrArg (fun z_ => va_D A (W_X_P cI cS x_ t_ at_ t_ cnt lv kd gd z_ st)) e_18) hD
          have e_19 : (st : Int → Int) = (if 0 ≤ stv (cnt - 1) c ∧ ln (cnt - 1) < 4 then updI st ((cnt - 1) * 4 + ln (cnt - 1)) (stv (cnt - 1) c) else st) := (by by_cases q : 0 ≤ stv (cnt - 1) c ∧ ln (cnt - 1) < 4 <;> first | rfl | (rw [if_pos q]; done) | (rw [if_neg q]; done) | (rw [if_pos q, if_pos (by omega)]; done) | (rw [if_neg q, if_neg (by omega)]; done) | (rw [if_pos q, if_pos (by omega), hstv]; done) | (exfalso; omega))
          have hP : va_P D vwCl (W_X_P cI cS x_ t_ at_ t_ cnt lv kd gd (if 0 ≤ stv (cnt - 1) c ∧ ln (cnt - 1) < 4 then updI ln (cnt - 1) (ln (cnt - 1) + 1) else ln) (if 0 ≤ stv (cnt - 1) c ∧ ln (cnt - 1) < 4 then updI st ((cnt - 1) * 4 + ln (cnt - 1)) (stv (cnt - 1) c) else st)) s.heap := Eq.mp (congrArg (fun z_ => va_P D vwCl (W_X_P cI cS x_ t_ at_ t_ cnt lv kd gd (if 0 ≤ stv (cnt - 1) c ∧ ln (cnt - 1) < 4 then updI ln (cnt - 1) (ln (cnt - 1) + 1) else ln) z_) s.heap) e_19) hP
          have hD : va_D A (W_X_P cI cS x_ t_ at_ t_ cnt lv kd gd (if 0 ≤ stv (cnt - 1) c ∧ ln (cnt - 1) < 4 then updI ln (cnt - 1) (ln (cnt - 1) + 1) else ln) (if 0 ≤ stv (cnt - 1) c ∧ ln (cnt - 1) < 4 then updI st ((cnt - 1) * 4 + ln (cnt - 1)) (stv (cnt - 1) c) else st)) := Eq.mp (congrArg (fun z_ => va_D A (W_X_P cI cS x_ t_ at_ t_ cnt lv kd gd (if 0 ≤ stv (cnt - 1) c ∧ ln (cnt - 1) < 4 then updI ln (cnt - 1) (ln (cnt - 1) + 1) else ln) z_)) e_19) hD
          exact W.zret (v := iI 0) (ty := .boolean) hx hb hr (by decide +kernel) (fun t ht hW => ⟨⟨_, (), rfl, congrArg iI (show 0 = (if 0 ≤ stv (cnt - 1) c ∧ ln (cnt - 1) < 4 then 1 else 0) from (by omega)), by rw [ht]; exact hP, hD⟩, hS.F ht⟩) hS.2.2 dX4_takesStep_71
        ·
          have hstv : stv (cnt - 1) c = 4 + c - 48 := by unfold stv; rw [if_neg (by omega), if_pos (by omega)]
          refine lv_aload_n hx hb dX4_takesStep_49 rfl (lv_at hl 1 rfl) ?_
          refine va_get (D := D) (ci := 4) (v := .ref (t_ 0)) (C := RX4) (T := TX4) (N := 2) hx hb hts iw_4 hown hK.1 hP 0 rfl rfl 0 (by decide) fl_12 (fun _ h9 => h9) rfl dX4_takesStep_50 ?_
          refine lv_iload_n hx hb dX4_takesStep_53 rfl (lv_at hl 0 rfl) ?_
          refine lv_iconst (v := iI 4) hx hb dX4_takesStep_54 (by decide +kernel) ?_
          refine lv_iload_n hx hb dX4_takesStep_55 rfl (lv_at hl 2 rfl) ?_
          refine n_iadd hx hb dX4_takesStep_56 ?_
          refine lv_bipush (v := iI 48) hx hb dX4_takesStep_57 (by decide +kernel) ?_
          refine n_isub hx hb dX4_takesStep_59 ?_
          refine x_callVi (As := [.int (iI (cnt - 1)), .int (iI ((4 + c) - 48))]) (rest := []) ⟨hx, hb, hml, hown, hts⟩ (c_X1_addStep l D cI cS t_ cnt lv kd gd ln st s.heap.size (cnt - 1) ((4 + c) - 48) (by first | assumption | omega) (by first | assumption | omega) (by first | assumption | omega)) (cwV 2 hts gX4_takesStep_X1_addStep rfl rfl rfl (by decide +kernel) ⟨Nat.le_of_ble_eq_true rfl, Nat.le_of_ble_eq_true rfl⟩) hK hP hD hS hA [1, 2, 3, 4, 5] [0] (wr := [(x_ 0, .inr (4, [.ref (t_ 0), .int (iI at_)]))]) rfl rfl (by decide) (by decide) (by decide) 0 1 rfl rfl rfl [0, 1, 2, 3, 4, 5] (fun (u : Unit) => (W_X_P cI cS x_ t_ at_ t_ cnt lv kd gd (if (0 ≤ (cnt - 1) ∧ (cnt - 1) < cnt) ∧ ln (cnt - 1) < 4 then updI ln (cnt - 1) (ln (cnt - 1) + 1) else ln) (if (0 ≤ (cnt - 1) ∧ (cnt - 1) < cnt) ∧ ln (cnt - 1) < 4 then updI st ((cnt - 1) * 4 + ln (cnt - 1)) ((4 + c) - 48) else st))) (fun _ => rfl) (by decide) rfl hl.1 rfl (Nat.le_of_ble_eq_true rfl) ⟨Nat.zero_le _, Nat.zero_le _⟩ dX4_takesStep_60 (fun r_ u_ H locs hw hP hD hS => ?_)
          try dsimp only at hw
          subst hw
          have hP : va_P D vwCl (W_X_P cI cS x_ t_ at_ t_ cnt lv kd gd (if (0 ≤ (cnt - 1) ∧ (cnt - 1) < cnt) ∧ ln (cnt - 1) < 4 then updI ln (cnt - 1) (ln (cnt - 1) + 1) else ln) (if (0 ≤ (cnt - 1) ∧ (cnt - 1) < cnt) ∧ ln (cnt - 1) < 4 then updI st ((cnt - 1) * 4 + ln (cnt - 1)) ((4 + c) - 48) else st)) H := hP
          have hD : va_D A (W_X_P cI cS x_ t_ at_ t_ cnt lv kd gd (if (0 ≤ (cnt - 1) ∧ (cnt - 1) < cnt) ∧ ln (cnt - 1) < 4 then updI ln (cnt - 1) (ln (cnt - 1) + 1) else ln) (if (0 ≤ (cnt - 1) ∧ (cnt - 1) < cnt) ∧ ln (cnt - 1) < 4 then updI st ((cnt - 1) * 4 + ln (cnt - 1)) ((4 + c) - 48) else st)) := hD
          refine n_if_b1 (tgt := 70) hx hb dX4_takesStep_63 (by decide)  (fun c_20 => ?_) (fun c_20 => ?_)
          ·
            refine lv_iconst (v := iI 0) hx hb dX4_takesStep_70 (by decide +kernel) ?_
            have e_21 : ((if (0 ≤ (cnt - 1) ∧ (cnt - 1) < cnt) ∧ ln (cnt - 1) < 4 then updI ln (cnt - 1) (ln (cnt - 1) + 1) else ln) : Int → Int) = (if 0 ≤ stv (cnt - 1) c ∧ ln (cnt - 1) < 4 then updI ln (cnt - 1) (ln (cnt - 1) + 1) else ln) := (by by_cases q : 0 ≤ stv (cnt - 1) c ∧ ln (cnt - 1) < 4 <;> first | rfl | (rw [if_pos q]; done) | (rw [if_neg q]; done) | (rw [if_pos q, if_pos (by omega)]; done) | (rw [if_neg q, if_neg (by omega)]; done) | (rw [if_pos q, if_pos (by omega), hstv]; done) | (exfalso; omega))
            have hP : va_P D vwCl (W_X_P cI cS x_ t_ at_ t_ cnt lv kd gd (if 0 ≤ stv (cnt - 1) c ∧ ln (cnt - 1) < 4 then updI ln (cnt - 1) (ln (cnt - 1) + 1) else ln) (if (0 ≤ (cnt - 1) ∧ (cnt - 1) < cnt) ∧ ln (cnt - 1) < 4 then updI st ((cnt - 1) * 4 + ln (cnt - 1)) ((4 + c) - 48) else st)) H := Eq.mp (congrArg (fun z_ => va_P D vwCl (W_X_P cI cS x_ t_ at_ t_ cnt lv kd gd z_ (if (0 ≤ (cnt - 1) ∧ (cnt - 1) < cnt) ∧ ln (cnt - 1) < 4 then updI st ((cnt - 1) * 4 + ln (cnt - 1)) ((4 + c) - 48) else st)) H) e_21) hP
            have hD : va_D A (W_X_P cI cS x_ t_ at_ t_ cnt lv kd gd (if 0 ≤ stv (cnt - 1) c ∧ ln (cnt - 1) < 4 then updI ln (cnt - 1) (ln (cnt - 1) + 1) else ln) (if (0 ≤ (cnt - 1) ∧ (cnt - 1) < cnt) ∧ ln (cnt - 1) < 4 then updI st ((cnt - 1) * 4 + ln (cnt - 1)) ((4 + c) - 48) else st)) := Eq.mp (congrArg (fun z_ => va_D A (W_X_P cI cS x_ t_ at_ t_ cnt lv kd gd z_ (if (0 ≤ (cnt - 1) ∧ (cnt - 1) < cnt) ∧ ln (cnt - 1) < 4 then updI st ((cnt - 1) * 4 + ln (cnt - 1)) ((4 + c) - 48) else st))) e_21) hD
            have e_22 : ((if (0 ≤ (cnt - 1) ∧ (cnt - 1) < cnt) ∧ ln (cnt - 1) < 4 then updI st ((cnt - 1) * 4 + ln (cnt - 1)) ((4 + c) - 48) else st) : Int → Int) = (if 0 ≤ stv (cnt - 1) c ∧ ln (cnt - 1) < 4 then updI st ((cnt - 1) * 4 + ln (cnt - 1)) (stv (cnt - 1) c) else st) := (by by_cases q : 0 ≤ stv (cnt - 1) c ∧ ln (cnt - 1) < 4 <;> first | rfl | (rw [if_pos q]; done) | (rw [if_neg q]; done) | (rw [if_pos q, if_pos (by omega)]; done) | (rw [if_neg q, if_neg (by omega)]; done) | (rw [if_pos q, if_pos (by omega), hstv]; done) | (exfalso; omega))
            have hP : va_P D vwCl (W_X_P cI cS x_ t_ at_ t_ cnt lv kd gd (if 0 ≤ stv (cnt - 1) c ∧ ln (cnt - 1) < 4 then updI ln (cnt - 1) (ln (cnt - 1) + 1) else ln) (if 0 ≤ stv (cnt - 1) c ∧ ln (cnt - 1) < 4 then updI st ((cnt - 1) * 4 + ln (cnt - 1)) (stv (cnt - 1) c) else st)) H := Eq.mp (congrArg (fun z_ => va_P D vwCl (W_X_P cI cS x_ t_ at_ t_ cnt lv kd gd (if 0 ≤ stv (cnt - 1) c ∧ ln (cnt - 1) < 4 then updI ln (cnt - 1) (ln (cnt - 1) + 1) else ln) z_) H) e_22) hP
            have hD : va_D A (W_X_P cI cS x_ t_ at_ t_ cnt lv kd gd (if 0 ≤ stv (cnt - 1) c ∧ ln (cnt - 1) < 4 then updI ln (cnt - 1) (ln (cnt - 1) + 1) else ln) (if 0 ≤ stv (cnt - 1) c ∧ ln (cnt - 1) < 4 then updI st ((cnt - 1) * 4 + ln (cnt - 1)) (stv (cnt - 1) c) else st)) := Eq.mp (congrArg (fun z_ => va_D A (W_X_P cI cS x_ t_ at_ t_ cnt lv kd gd (if 0 ≤ stv (cnt - 1) c ∧ ln (cnt - 1) < 4 then updI ln (cnt - 1) (ln (cnt - 1) + 1) else ln) z_)) e_22) hD
            exact W.zret (v := iI 0) (ty := .boolean) hx hb hr (by decide +kernel) (fun t ht hW => ⟨⟨_, (), rfl, congrArg iI (show 0 = (if 0 ≤ stv (cnt - 1) c ∧ ln (cnt - 1) < 4 then 1 else 0) from (by omega)), by rw [ht]; exact hP, hD⟩, hS.F ht⟩) hS.2.2 dX4_takesStep_71
          ·
            refine lv_iconst (v := iI 1) hx hb dX4_takesStep_66 (by decide +kernel) ?_
            refine lv_goto (tgt := 71) hx hb dX4_takesStep_67 (by decide) ?_
            have e_23 : ((if (0 ≤ (cnt - 1) ∧ (cnt - 1) < cnt) ∧ ln (cnt - 1) < 4 then updI ln (cnt - 1) (ln (cnt - 1) + 1) else ln) : Int → Int) = (if 0 ≤ stv (cnt - 1) c ∧ ln (cnt - 1) < 4 then updI ln (cnt - 1) (ln (cnt - 1) + 1) else ln) := (by by_cases q : 0 ≤ stv (cnt - 1) c ∧ ln (cnt - 1) < 4 <;> first | rfl | (rw [if_pos q]; done) | (rw [if_neg q]; done) | (rw [if_pos q, if_pos (by omega)]; done) | (rw [if_neg q, if_neg (by omega)]; done) | (rw [if_pos q, if_pos (by omega), hstv]; done) | (exfalso; omega))
            have hP : va_P D vwCl (W_X_P cI cS x_ t_ at_ t_ cnt lv kd gd (if 0 ≤ stv (cnt - 1) c ∧ ln (cnt - 1) < 4 then updI ln (cnt - 1) (ln (cnt - 1) + 1) else ln) (if (0 ≤ (cnt - 1) ∧ (cnt - 1) < cnt) ∧ ln (cnt - 1) < 4 then updI st ((cnt - 1) * 4 + ln (cnt - 1)) ((4 + c) - 48) else st)) H := Eq.mp (congrArg (fun z_ => va_P D vwCl (W_X_P cI cS x_ t_ at_ t_ cnt lv kd gd z_ (if (0 ≤ (cnt - 1) ∧ (cnt - 1) < cnt) ∧ ln (cnt - 1) < 4 then updI st ((cnt - 1) * 4 + ln (cnt - 1)) ((4 + c) - 48) else st)) H) e_23) hP
            have hD : va_D A (W_X_P cI cS x_ t_ at_ t_ cnt lv kd gd (if 0 ≤ stv (cnt - 1) c ∧ ln (cnt - 1) < 4 then updI ln (cnt - 1) (ln (cnt - 1) + 1) else ln) (if (0 ≤ (cnt - 1) ∧ (cnt - 1) < cnt) ∧ ln (cnt - 1) < 4 then updI st ((cnt - 1) * 4 + ln (cnt - 1)) ((4 + c) - 48) else st)) := Eq.mp (congrArg (fun z_ => va_D A (W_X_P cI cS x_ t_ at_ t_ cnt lv kd gd z_ (if (0 ≤ (cnt - 1) ∧ (cnt - 1) < cnt) ∧ ln (cnt - 1) < 4 then updI st ((cnt - 1) * 4 + ln (cnt - 1)) ((4 + c) - 48) else st))) e_23) hD
            have e_24 : ((if (0 ≤ (cnt - 1) ∧ (cnt - 1) < cnt) ∧ ln (cnt - 1) < 4 then updI st ((cnt - 1) * 4 + ln (cnt - 1)) ((4 + c) - 48) else st) : Int → Int) = (if 0 ≤ stv (cnt - 1) c ∧ ln (cnt - 1) < 4 then updI st ((cnt - 1) * 4 + ln (cnt - 1)) (stv (cnt - 1) c) else st) := (by by_cases q : 0 ≤ stv (cnt - 1) c ∧ ln (cnt - 1) < 4 <;> first | rfl | (rw [if_pos q]; done) | (rw [if_neg q]; done) | (rw [if_pos q, if_pos (by omega)]; done) | (rw [if_neg q, if_neg (by omega)]; done) | (rw [if_pos q, if_pos (by omega), hstv]; done) | (exfalso; omega))
            have hP : va_P D vwCl (W_X_P cI cS x_ t_ at_ t_ cnt lv kd gd (if 0 ≤ stv (cnt - 1) c ∧ ln (cnt - 1) < 4 then updI ln (cnt - 1) (ln (cnt - 1) + 1) else ln) (if 0 ≤ stv (cnt - 1) c ∧ ln (cnt - 1) < 4 then updI st ((cnt - 1) * 4 + ln (cnt - 1)) (stv (cnt - 1) c) else st)) H := Eq.mp (congrArg (fun z_ => va_P D vwCl (W_X_P cI cS x_ t_ at_ t_ cnt lv kd gd (if 0 ≤ stv (cnt - 1) c ∧ ln (cnt - 1) < 4 then updI ln (cnt - 1) (ln (cnt - 1) + 1) else ln) z_) H) e_24) hP
            have hD : va_D A (W_X_P cI cS x_ t_ at_ t_ cnt lv kd gd (if 0 ≤ stv (cnt - 1) c ∧ ln (cnt - 1) < 4 then updI ln (cnt - 1) (ln (cnt - 1) + 1) else ln) (if 0 ≤ stv (cnt - 1) c ∧ ln (cnt - 1) < 4 then updI st ((cnt - 1) * 4 + ln (cnt - 1)) (stv (cnt - 1) c) else st)) := Eq.mp (congrArg (fun z_ => va_D A (W_X_P cI cS x_ t_ at_ t_ cnt lv kd gd (if 0 ≤ stv (cnt - 1) c ∧ ln (cnt - 1) < 4 then updI ln (cnt - 1) (ln (cnt - 1) + 1) else ln) z_)) e_24) hD
            exact W.zret (v := iI 1) (ty := .boolean) hx hb hr (by decide +kernel) (fun t ht hW => ⟨⟨_, (), rfl, congrArg iI (show 1 = (if 0 ≤ stv (cnt - 1) c ∧ ln (cnt - 1) < 4 then 1 else 0) from (by omega)), by rw [ht]; exact hP, hD⟩, hS.F ht⟩) hS.2.2 dX4_takesStep_71
    ·
      have hstv : stv (cnt - 1) c = c - 97 := by unfold stv; rw [if_pos (by omega)]
      refine lv_aload_n hx hb dX4_takesStep_22 rfl (lv_at hl 1 rfl) ?_
      refine va_get (D := D) (ci := 4) (v := .ref (t_ 0)) (C := RX4) (T := TX4) (N := 2) hx hb hts iw_4 hown hK.1 hP 0 rfl rfl 0 (by decide) fl_12 (fun _ h9 => h9) rfl dX4_takesStep_23 ?_
      refine lv_iload_n hx hb dX4_takesStep_26 rfl (lv_at hl 0 rfl) ?_
      refine lv_iload_n hx hb dX4_takesStep_27 rfl (lv_at hl 2 rfl) ?_
      refine lv_bipush (v := iI 97) hx hb dX4_takesStep_28 (by decide +kernel) ?_
      refine n_isub hx hb dX4_takesStep_30 ?_
      refine x_callVi (As := [.int (iI (cnt - 1)), .int (iI (c - 97))]) (rest := []) ⟨hx, hb, hml, hown, hts⟩ (c_X1_addStep l D cI cS t_ cnt lv kd gd ln st s.heap.size (cnt - 1) (c - 97) (by first | assumption | omega) (by first | assumption | omega) (by first | assumption | omega)) (cwV 2 hts gX4_takesStep_X1_addStep rfl rfl rfl (by decide +kernel) ⟨Nat.le_of_ble_eq_true rfl, Nat.le_of_ble_eq_true rfl⟩) hK hP hD hS hA [1, 2, 3, 4, 5] [0] (wr := [(x_ 0, .inr (4, [.ref (t_ 0), .int (iI at_)]))]) rfl rfl (by decide) (by decide) (by decide) 0 1 rfl rfl rfl [0, 1, 2, 3, 4, 5] (fun (u : Unit) => (W_X_P cI cS x_ t_ at_ t_ cnt lv kd gd (if (0 ≤ (cnt - 1) ∧ (cnt - 1) < cnt) ∧ ln (cnt - 1) < 4 then updI ln (cnt - 1) (ln (cnt - 1) + 1) else ln) (if (0 ≤ (cnt - 1) ∧ (cnt - 1) < cnt) ∧ ln (cnt - 1) < 4 then updI st ((cnt - 1) * 4 + ln (cnt - 1)) (c - 97) else st))) (fun _ => rfl) (by decide) rfl hl.1 rfl (Nat.le_of_ble_eq_true rfl) ⟨Nat.zero_le _, Nat.zero_le _⟩ dX4_takesStep_31 (fun r_ u_ H locs hw hP hD hS => ?_)
      try dsimp only at hw
      subst hw
      have hP : va_P D vwCl (W_X_P cI cS x_ t_ at_ t_ cnt lv kd gd (if (0 ≤ (cnt - 1) ∧ (cnt - 1) < cnt) ∧ ln (cnt - 1) < 4 then updI ln (cnt - 1) (ln (cnt - 1) + 1) else ln) (if (0 ≤ (cnt - 1) ∧ (cnt - 1) < cnt) ∧ ln (cnt - 1) < 4 then updI st ((cnt - 1) * 4 + ln (cnt - 1)) (c - 97) else st)) H := hP
      have hD : va_D A (W_X_P cI cS x_ t_ at_ t_ cnt lv kd gd (if (0 ≤ (cnt - 1) ∧ (cnt - 1) < cnt) ∧ ln (cnt - 1) < 4 then updI ln (cnt - 1) (ln (cnt - 1) + 1) else ln) (if (0 ≤ (cnt - 1) ∧ (cnt - 1) < cnt) ∧ ln (cnt - 1) < 4 then updI st ((cnt - 1) * 4 + ln (cnt - 1)) (c - 97) else st)) := hD
      have e_25 : ((if (0 ≤ (cnt - 1) ∧ (cnt - 1) < cnt) ∧ ln (cnt - 1) < 4 then updI ln (cnt - 1) (ln (cnt - 1) + 1) else ln) : Int → Int) = (if 0 ≤ stv (cnt - 1) c ∧ ln (cnt - 1) < 4 then updI ln (cnt - 1) (ln (cnt - 1) + 1) else ln) := (by by_cases q : 0 ≤ stv (cnt - 1) c ∧ ln (cnt - 1) < 4 <;> first | rfl | (rw [if_pos q]; done) | (rw [if_neg q]; done) | (rw [if_pos q, if_pos (by omega)]; done) | (rw [if_neg q, if_neg (by omega)]; done) | (rw [if_pos q, if_pos (by omega), hstv]; done) | (exfalso; omega))
      have hP : va_P D vwCl (W_X_P cI cS x_ t_ at_ t_ cnt lv kd gd (if 0 ≤ stv (cnt - 1) c ∧ ln (cnt - 1) < 4 then updI ln (cnt - 1) (ln (cnt - 1) + 1) else ln) (if (0 ≤ (cnt - 1) ∧ (cnt - 1) < cnt) ∧ ln (cnt - 1) < 4 then updI st ((cnt - 1) * 4 + ln (cnt - 1)) (c - 97) else st)) H := Eq.mp (congrArg (fun z_ => va_P D vwCl (W_X_P cI cS x_ t_ at_ t_ cnt lv kd gd z_ (if (0 ≤ (cnt - 1) ∧ (cnt - 1) < cnt) ∧ ln (cnt - 1) < 4 then updI st ((cnt - 1) * 4 + ln (cnt - 1)) (c - 97) else st)) H) e_25) hP
      have hD : va_D A (W_X_P cI cS x_ t_ at_ t_ cnt lv kd gd (if 0 ≤ stv (cnt - 1) c ∧ ln (cnt - 1) < 4 then updI ln (cnt - 1) (ln (cnt - 1) + 1) else ln) (if (0 ≤ (cnt - 1) ∧ (cnt - 1) < cnt) ∧ ln (cnt - 1) < 4 then updI st ((cnt - 1) * 4 + ln (cnt - 1)) (c - 97) else st)) := Eq.mp (congrArg (fun z_ => va_D A (W_X_P cI cS x_ t_ at_ t_ cnt lv kd gd z_ (if (0 ≤ (cnt - 1) ∧ (cnt - 1) < cnt) ∧ ln (cnt - 1) < 4 then updI st ((cnt - 1) * 4 + ln (cnt - 1)) (c - 97) else st))) e_25) hD
      have e_26 : ((if (0 ≤ (cnt - 1) ∧ (cnt - 1) < cnt) ∧ ln (cnt - 1) < 4 then updI st ((cnt - 1) * 4 + ln (cnt - 1)) (c - 97) else st) : Int → Int) = (if 0 ≤ stv (cnt - 1) c ∧ ln (cnt - 1) < 4 then updI st ((cnt - 1) * 4 + ln (cnt - 1)) (stv (cnt - 1) c) else st) := (by by_cases q : 0 ≤ stv (cnt - 1) c ∧ ln (cnt - 1) < 4 <;> first | rfl | (rw [if_pos q]; done) | (rw [if_neg q]; done) | (rw [if_pos q, if_pos (by omega)]; done) | (rw [if_neg q, if_neg (by omega)]; done) | (rw [if_pos q, if_pos (by omega), hstv]; done) | (exfalso; omega))
      have hP : va_P D vwCl (W_X_P cI cS x_ t_ at_ t_ cnt lv kd gd (if 0 ≤ stv (cnt - 1) c ∧ ln (cnt - 1) < 4 then updI ln (cnt - 1) (ln (cnt - 1) + 1) else ln) (if 0 ≤ stv (cnt - 1) c ∧ ln (cnt - 1) < 4 then updI st ((cnt - 1) * 4 + ln (cnt - 1)) (stv (cnt - 1) c) else st)) H := Eq.mp (congrArg (fun z_ => va_P D vwCl (W_X_P cI cS x_ t_ at_ t_ cnt lv kd gd (if 0 ≤ stv (cnt - 1) c ∧ ln (cnt - 1) < 4 then updI ln (cnt - 1) (ln (cnt - 1) + 1) else ln) z_) H) e_26) hP
      have hD : va_D A (W_X_P cI cS x_ t_ at_ t_ cnt lv kd gd (if 0 ≤ stv (cnt - 1) c ∧ ln (cnt - 1) < 4 then updI ln (cnt - 1) (ln (cnt - 1) + 1) else ln) (if 0 ≤ stv (cnt - 1) c ∧ ln (cnt - 1) < 4 then updI st ((cnt - 1) * 4 + ln (cnt - 1)) (stv (cnt - 1) c) else st)) := Eq.mp (congrArg (fun z_ => va_D A (W_X_P cI cS x_ t_ at_ t_ cnt lv kd gd (if 0 ≤ stv (cnt - 1) c ∧ ln (cnt - 1) < 4 then updI ln (cnt - 1) (ln (cnt - 1) + 1) else ln) z_)) e_26) hD
      exact W.zret (v := iI (if (0 ≤ (cnt - 1) ∧ (cnt - 1) < cnt) ∧ ln (cnt - 1) < 4 then 1 else 0)) (ty := .boolean) hx hb hr (by split <;> decide +kernel) (fun t ht hW => ⟨⟨_, (), rfl, congrArg iI (show (if (0 ≤ (cnt - 1) ∧ (cnt - 1) < cnt) ∧ ln (cnt - 1) < 4 then 1 else 0) = (if 0 ≤ stv (cnt - 1) c ∧ ln (cnt - 1) < 4 then 1 else 0) from (by omega)), by rw [ht]; exact hP, hD⟩, hS.F ht⟩) hS.2.2 dX4_takesStep_34
theorem pS_0 {at_ cnt : Int} {kd gd ln st : Int → Int} {c : Int} (h : at_ = 0) : pStep at_ cnt kd gd ln st c = (if c = 101 then some (1, cnt, kd, gd, ln, st) else none) := by unfold pStep; rw [if_pos h]
theorem pS_1 {at_ cnt : Int} {kd gd ln st : Int → Int} {c : Int} (h : at_ = 1) : pStep at_ cnt kd gd ln st c = pFun cnt kd gd ln st c := by unfold pStep; rw [if_neg (by omega), if_pos h]
theorem pS_2 {at_ cnt : Int} {kd gd ln st : Int → Int} {c : Int} (h : at_ = 2) : pStep at_ cnt kd gd ln st c = pKind cnt kd gd ln st c := by unfold pStep; rw [if_neg (by omega), if_neg (by omega), if_pos h]
theorem pS_3 {at_ cnt : Int} {kd gd ln st : Int → Int} {c : Int} (h : at_ = 3) : pStep at_ cnt kd gd ln st c = pGuard cnt kd gd ln st c := by unfold pStep; rw [if_neg (by omega), if_neg (by omega), if_neg (by omega), if_pos h]
theorem pS_4 {at_ cnt : Int} {kd gd ln st : Int → Int} {c : Int} (h : 4 ≤ at_) : pStep at_ cnt kd gd ln st c = (if c = 59 then pFun cnt kd gd ln st c else pStp cnt kd gd ln st c) := by unfold pStep; rw [if_neg (by omega), if_neg (by omega), if_neg (by omega), if_neg (by omega)]
/-- a step's answer and what it leaves, out of a choice -/
theorem ps_b {P : Prop} {dP : Decidable P} {q : PQ} {o : Option PQ} (h : o = (@ite _ P dP (some q) none)) : (@ite Int P dP 1 0) = (if o.isSome = true then 1 else 0) := by
  by_cases c : P
  · rw [if_pos c] at h ⊢; rw [h]; rfl
  · rw [if_neg c] at h ⊢; rw [h]; rfl
theorem ps_q {P : Prop} {dP : Decidable P} {q r : PQ} {o : Option PQ} (h : o = (@ite _ P dP (some q) none)) (e : P → r = q) : ∀ z : PQ, o = some z → r = z := by
  intro z hz
  by_cases c : P
  · rw [if_pos c] at h; rw [h] at hz; cases hz; exact e c
  · rw [if_neg c] at h; rw [h] at hz; cases hz
set_option maxHeartbeats 4000000 in
set_option maxRecDepth 100000 in
theorem c_X4_goesOnWith (l : Launch) (D : va_G) (cI cS : ClassId) (x_ : Nat → Nat) (t_ : Nat → Nat) (at_ : Int) (cnt : Int) (lv : Int) (kd : Int → Int) (gd : Int → Int) (ln : Int → Int) (st : Int → Int) (sz : Nat) (c : Int) (hq : okQ at_ cnt kd gd ln st) (hcd : -2147483648 ≤ c ∧ c < 2147483648) : Met l yX4_goesOnWith wsX4_goesOnWith ({ frames := 3, cells := 0, slots := 0, locals := 65 }) (cP D cI cS (W_X_P cI cS x_ t_ at_ t_ cnt lv kd gd ln st) sz [.ref (x_ 0), .int (iI c)]) (va_Qi (fun (r : Int32) (u : Int × Int × (Int → Int) × (Int → Int) × (Int → Int) × (Int → Int)) => (r = iI (if (pStep at_ cnt kd gd ln st c).isSome = true then 1 else 0)) ∧ (∀ z : PQ, pStep at_ cnt kd gd ln st c = some z → ((u.1, u.2.1, u.2.2.1, u.2.2.2.1, u.2.2.2.2.1, u.2.2.2.2.2) : PQ) = z)) (fun (u : Int × Int × (Int → Int) × (Int → Int) × (Int → Int) × (Int → Int)) t => cB D (va_A (W_X_P cI cS x_ t_ at_ t_ cnt lv kd gd ln st) sz) (W_X_P cI cS x_ t_ u.1 t_ u.2.1 lv u.2.2.1 u.2.2.2.1 u.2.2.2.2.1 u.2.2.2.2.2) t) (va_A (W_X_P cI cS x_ t_ at_ t_ cnt lv kd gd ln st) sz)) 0 0 (va_A (W_X_P cI cS x_ t_ at_ t_ cnt lv kd gd ln st) sz) := by
  refine Met.ofW (cc := cX4_goesOnWith) (maxL := 2) (ret := (some .boolean)) (by decide) rfl ?_
  intro p e s m args below meth c_ s₁ B hml hv
  obtain ⟨rfl, hsz, hP, hK, hD0⟩ := hv
  have hx := B.exec
  have hb := B.bytes
  have hr := B.returns
  have hts := atoms_spec (ws := wsX4_goesOnWith) B.pre
  have hown : s.vm.findClass RX4 = some m.cls := findClass_of_methodNamed B.named
  have hlocks := B.notSynchronized
  subst hsz
  have hD := hD0.self (sz := s.heap.size)
  generalize hAe : va_A (W_X_P cI cS x_ t_ at_ t_ cnt lv kd gd ln st) s.heap.size = A at hD ⊢
  have hA : ∀ q : Nat, s.heap.size ≤ q → A q := fun q h => by rw [← hAe]; exact Or.inr h
  have hS : va_S A s.heap s.heap [] := va_S.rf
  have hP : va_P D vwCl (W_X_P cI cS x_ t_ at_ t_ cnt lv kd gd ln st) s.heap := hP
  have hl := lv_entry ([.ref (x_ 0), .int (iI c)] : List Value) (n := 2) (Nat.le_of_ble_eq_true rfl)
  rw [lg_entry_eq]
  generalize (lg_sl ([.ref (x_ 0), .int (iI c)] : List Value) ++ List.replicate (2 - (lg_sl ([.ref (x_ 0), .int (iI c)] : List Value)).length) Slot.unset).toArray = ls at hl ⊢
  have hl : lv_has ls 2 [(0, .ref (x_ 0)), (1, .int (iI c))] := hl
  have fl_18 := hts (.fieldLink RX4 18 "ActRows$Text" "at" "I") (by decide +kernel)
  have iw_4 : ∀ w ∈ wsX40, w ∈ wsX4_goesOnWith := by decide +kernel
  have hc := hq.2.1
  have hln := hq.2.2.2.1
  have hat := hq.1
  refine lv_aload_n hx hb dX4_goesOnWith_0 rfl (lv_at hl 0 rfl) ?_
  refine va_get (D := D) (ci := 4) (v := .int (iI at_)) (C := RX4) (T := TX4) (N := 2) hx hb hts iw_4 hown hK.1 hP 0 rfl rfl 1 (by decide) fl_18 (fun _ h9 => h9) rfl dX4_goesOnWith_1 ?_
  by_cases c_1 : at_ = 0
  ·
    refine n_tableIn (off := 32) (tgt := 36) hx hb 0 dX4_goesOnWith_4 c_1 (by decide) rfl (by decide) ?_
    have hps := pS_0 (cnt := cnt) (kd := kd) (gd := gd) (ln := ln) (st := st) (c := c) c_1
    refine lv_aload_n hx hb dX4_goesOnWith_36 rfl (lv_at hl 0 rfl) ?_
    refine lv_iconst (v := iI 1) hx hb dX4_goesOnWith_37 (by decide +kernel) ?_
    refine va_put (D := D) (ci := 4) (v := .int (iI 1)) (ty := .int) (C := RX4) (T := TX4) (N := 2) hx hb hts iw_4 tyX4 tyX4_ok nmX4 hown hK.1 hP hD hS 0 rfl rfl 1 (by decide) fl_18 (fun _ h9 => h9) rfl (by decide +kernel) rfl rfl (Nat.le_of_ble_eq_true rfl) dX4_goesOnWith_38 (fun H locs hP hD hS => ?_)
    have hP : va_P D vwCl (W_X_P cI cS x_ t_ 1 t_ cnt lv kd gd ln st) H := hP
    have hD : va_D A (W_X_P cI cS x_ t_ 1 t_ cnt lv kd gd ln st) := hD
    refine lv_iload_n hx hb dX4_goesOnWith_41 rfl (lv_at hl 1 rfl) ?_
    refine lv_bipush (v := iI 101) hx hb dX4_goesOnWith_42 (by decide +kernel) ?_
    refine n_icmp_ne (tgt := 51) hx hb dX4_goesOnWith_44 (by decide) (by omega) (fun c_2 => ?_) (fun c_2 => ?_)
    ·
      refine lv_iconst (v := iI 0) hx hb dX4_goesOnWith_51 (by decide +kernel) ?_
      exact W.zret (v := iI 0) (ty := .boolean) hx hb hr (by decide +kernel) (fun t ht hW => ⟨⟨_, (1, cnt, kd, gd, ln, st), rfl, ⟨congrArg iI (show 0 = (if (pStep at_ cnt kd gd ln st c).isSome = true then 1 else 0) from (by first | (rw [hps, if_pos (show c = 101 by omega)]; rfl) | (rw [hps, if_neg (show ¬ c = 101 by omega)]; rfl))), (by (try dsimp only); exact (fun z hz => by rw [hps] at hz; first | (rw [if_pos (show c = 101 by omega)] at hz; cases hz; rfl) | (rw [if_neg (show ¬ c = 101 by omega)] at hz; cases hz)))⟩, by rw [ht]; exact hP, hD⟩, hS.F ht⟩) hS.2.2 dX4_goesOnWith_52
    ·
      refine lv_iconst (v := iI 1) hx hb dX4_goesOnWith_47 (by decide +kernel) ?_
      refine lv_goto (tgt := 52) hx hb dX4_goesOnWith_48 (by decide) ?_
      exact W.zret (v := iI 1) (ty := .boolean) hx hb hr (by decide +kernel) (fun t ht hW => ⟨⟨_, (1, cnt, kd, gd, ln, st), rfl, ⟨congrArg iI (show 1 = (if (pStep at_ cnt kd gd ln st c).isSome = true then 1 else 0) from (by first | (rw [hps, if_pos (show c = 101 by omega)]; rfl) | (rw [hps, if_neg (show ¬ c = 101 by omega)]; rfl))), (by (try dsimp only); exact (fun z hz => by rw [hps] at hz; first | (rw [if_pos (show c = 101 by omega)] at hz; cases hz; rfl) | (rw [if_neg (show ¬ c = 101 by omega)] at hz; cases hz)))⟩, by rw [ht]; exact hP, hD⟩, hS.F ht⟩) hS.2.2 dX4_goesOnWith_52
  by_cases c_3 : at_ = 1
  ·
    refine n_tableIn (off := 49) (tgt := 53) hx hb 1 dX4_goesOnWith_4 c_3 (by decide) rfl (by decide) ?_
    refine lv_aload_n hx hb dX4_goesOnWith_53 rfl (lv_at hl 0 rfl) ?_
    refine lv_iload_n hx hb dX4_goesOnWith_54 rfl (lv_at hl 1 rfl) ?_
    refine x_callVi (As := [.int (iI c)]) (rest := []) ⟨hx, hb, hml, hown, hts⟩ (c_X4_takesFunction l D cI cS x_ t_ at_ cnt lv kd gd ln st s.heap.size c (by first | assumption | omega) (by first | assumption | omega)) (cwV 1 hts gX4_goesOnWith_X4_takesFunction rfl rfl rfl (by decide +kernel) ⟨Nat.le_of_ble_eq_true rfl, Nat.le_of_ble_eq_true rfl⟩) hK hP hD hS hA [0, 1, 2, 3, 4, 5] [] (wr := ([] : va_W)) rfl rfl (by decide) (by decide) (by decide) 0 4 rfl rfl rfl [0, 1, 2, 3, 4, 5] (fun (u : Unit) => (W_X_P cI cS x_ t_ 2 t_ (if c = 59 ∧ cnt < 5 then cnt + 1 else cnt) lv kd gd (if c = 59 ∧ cnt < 5 then updI ln cnt 0 else ln) st)) (fun _ => rfl) (by decide) rfl hl.1 rfl (Nat.le_of_ble_eq_true rfl) ⟨Nat.zero_le _, Nat.zero_le _⟩ dX4_goesOnWith_55 (fun r_ u_ H locs hw hP hD hS => ?_)
    try dsimp only at hw
    subst hw
    have hP : va_P D vwCl (W_X_P cI cS x_ t_ 2 t_ (if c = 59 ∧ cnt < 5 then cnt + 1 else cnt) lv kd gd (if c = 59 ∧ cnt < 5 then updI ln cnt 0 else ln) st) H := hP
    have hD : va_D A (W_X_P cI cS x_ t_ 2 t_ (if c = 59 ∧ cnt < 5 then cnt + 1 else cnt) lv kd gd (if c = 59 ∧ cnt < 5 then updI ln cnt 0 else ln) st) := hD
    have hps := pS_1 (cnt := cnt) (kd := kd) (gd := gd) (ln := ln) (st := st) (c := c) (show at_ = 1 by omega)
    unfold pFun at hps
    exact W.zret (v := iI (if c = 59 ∧ cnt < 5 then 1 else 0)) (ty := .boolean) hx hb hr (by split <;> decide +kernel) (fun t ht hW => ⟨⟨_, (2, (if c = 59 ∧ cnt < 5 then cnt + 1 else cnt), kd, gd, (if c = 59 ∧ cnt < 5 then updI ln cnt 0 else ln), st), rfl, ⟨congrArg iI (show (if c = 59 ∧ cnt < 5 then 1 else 0) = (if (pStep at_ cnt kd gd ln st c).isSome = true then 1 else 0) from (ps_b hps)), (by (try dsimp only); exact (ps_q hps (fun q_ => by first | (simp only [if_pos q_]; done) | (simp only [if_pos q_]; rw [show at_ = 4 by omega]))))⟩, by rw [ht]; exact hP, hD⟩, hS.F ht⟩) hS.2.2 dX4_goesOnWith_58
  by_cases c_4 : at_ = 2
  ·
    refine n_tableIn (off := 55) (tgt := 59) hx hb 2 dX4_goesOnWith_4 c_4 (by decide) rfl (by decide) ?_
    have h1c : 1 ≤ cnt ∧ cnt ≤ 5 := ⟨hq.2.2.1 (by omega), hc.2⟩
    refine lv_aload_n hx hb dX4_goesOnWith_59 rfl (lv_at hl 0 rfl) ?_
    refine lv_iload_n hx hb dX4_goesOnWith_60 rfl (lv_at hl 1 rfl) ?_
    refine x_callVi (As := [.int (iI c)]) (rest := []) ⟨hx, hb, hml, hown, hts⟩ (c_X4_takesKind l D cI cS x_ t_ at_ cnt lv kd gd ln st s.heap.size c (by first | assumption | omega) (by first | assumption | omega)) (cwV 1 hts gX4_goesOnWith_X4_takesKind rfl rfl rfl (by decide +kernel) ⟨Nat.le_of_ble_eq_true rfl, Nat.le_of_ble_eq_true rfl⟩) hK hP hD hS hA [0, 1, 2, 3, 4, 5] [] (wr := ([] : va_W)) rfl rfl (by decide) (by decide) (by decide) 0 4 rfl rfl rfl [0, 1, 2, 3, 4, 5] (fun (u : Unit) => (W_X_P cI cS x_ t_ (if 0 ≤ kOf c then 3 else at_) t_ cnt lv (if 0 ≤ kOf c then updI kd (cnt - 1) (kOf c) else kd) gd ln st)) (fun _ => rfl) (by decide) rfl hl.1 rfl (Nat.le_of_ble_eq_true rfl) ⟨Nat.zero_le _, Nat.zero_le _⟩ dX4_goesOnWith_61 (fun r_ u_ H locs hw hP hD hS => ?_)
    try dsimp only at hw
    subst hw
    have hP : va_P D vwCl (W_X_P cI cS x_ t_ (if 0 ≤ kOf c then 3 else at_) t_ cnt lv (if 0 ≤ kOf c then updI kd (cnt - 1) (kOf c) else kd) gd ln st) H := hP
    have hD : va_D A (W_X_P cI cS x_ t_ (if 0 ≤ kOf c then 3 else at_) t_ cnt lv (if 0 ≤ kOf c then updI kd (cnt - 1) (kOf c) else kd) gd ln st) := hD
    have hps := pS_2 (cnt := cnt) (kd := kd) (gd := gd) (ln := ln) (st := st) (c := c) (show at_ = 2 by omega)
    unfold pKind at hps
    exact W.zret (v := iI (if 0 ≤ kOf c then 1 else 0)) (ty := .boolean) hx hb hr (by split <;> decide +kernel) (fun t ht hW => ⟨⟨_, ((if 0 ≤ kOf c then 3 else at_), cnt, (if 0 ≤ kOf c then updI kd (cnt - 1) (kOf c) else kd), gd, ln, st), rfl, ⟨congrArg iI (show (if 0 ≤ kOf c then 1 else 0) = (if (pStep at_ cnt kd gd ln st c).isSome = true then 1 else 0) from (ps_b hps)), (by (try dsimp only); exact (ps_q hps (fun q_ => by first | (simp only [if_pos q_]; done) | (simp only [if_pos q_]; rw [show at_ = 4 by omega]))))⟩, by rw [ht]; exact hP, hD⟩, hS.F ht⟩) hS.2.2 dX4_goesOnWith_64
  by_cases c_5 : at_ = 3
  ·
    refine n_tableIn (off := 61) (tgt := 65) hx hb 3 dX4_goesOnWith_4 c_5 (by decide) rfl (by decide) ?_
    have h1c : 1 ≤ cnt ∧ cnt ≤ 5 := ⟨hq.2.2.1 (by omega), hc.2⟩
    refine lv_aload_n hx hb dX4_goesOnWith_65 rfl (lv_at hl 0 rfl) ?_
    refine lv_iload_n hx hb dX4_goesOnWith_66 rfl (lv_at hl 1 rfl) ?_
    refine x_callVi (As := [.int (iI c)]) (rest := []) ⟨hx, hb, hml, hown, hts⟩ (c_X4_takesGuard l D cI cS x_ t_ at_ cnt lv kd gd ln st s.heap.size c (by first | assumption | omega) (by first | assumption | omega)) (cwV 1 hts gX4_goesOnWith_X4_takesGuard rfl rfl rfl (by decide +kernel) ⟨Nat.le_of_ble_eq_true rfl, Nat.le_of_ble_eq_true rfl⟩) hK hP hD hS hA [0, 1, 2, 3, 4, 5] [] (wr := ([] : va_W)) rfl rfl (by decide) (by decide) (by decide) 0 4 rfl rfl rfl [0, 1, 2, 3, 4, 5] (fun (u : Unit) => (W_X_P cI cS x_ t_ (if 48 ≤ c ∧ c < 52 then 4 else at_) t_ cnt lv kd (if 48 ≤ c ∧ c < 52 then updI gd (cnt - 1) (c - 48) else gd) ln st)) (fun _ => rfl) (by decide) rfl hl.1 rfl (Nat.le_of_ble_eq_true rfl) ⟨Nat.zero_le _, Nat.zero_le _⟩ dX4_goesOnWith_67 (fun r_ u_ H locs hw hP hD hS => ?_)
    try dsimp only at hw
    subst hw
    have hP : va_P D vwCl (W_X_P cI cS x_ t_ (if 48 ≤ c ∧ c < 52 then 4 else at_) t_ cnt lv kd (if 48 ≤ c ∧ c < 52 then updI gd (cnt - 1) (c - 48) else gd) ln st) H := hP
    have hD : va_D A (W_X_P cI cS x_ t_ (if 48 ≤ c ∧ c < 52 then 4 else at_) t_ cnt lv kd (if 48 ≤ c ∧ c < 52 then updI gd (cnt - 1) (c - 48) else gd) ln st) := hD
    have hps := pS_3 (cnt := cnt) (kd := kd) (gd := gd) (ln := ln) (st := st) (c := c) (show at_ = 3 by omega)
    unfold pGuard at hps
    exact W.zret (v := iI (if 48 ≤ c ∧ c < 52 then 1 else 0)) (ty := .boolean) hx hb hr (by split <;> decide +kernel) (fun t ht hW => ⟨⟨_, ((if 48 ≤ c ∧ c < 52 then 4 else at_), cnt, kd, (if 48 ≤ c ∧ c < 52 then updI gd (cnt - 1) (c - 48) else gd), ln, st), rfl, ⟨congrArg iI (show (if 48 ≤ c ∧ c < 52 then 1 else 0) = (if (pStep at_ cnt kd gd ln st c).isSome = true then 1 else 0) from (ps_b hps)), (by (try dsimp only); exact (ps_q hps (fun q_ => by first | (simp only [if_pos q_]; done) | (simp only [if_pos q_]; rw [show at_ = 4 by omega]))))⟩, by rw [ht]; exact hP, hD⟩, hS.F ht⟩) hS.2.2 dX4_goesOnWith_70
  refine n_tableOut (tgt := 71) hx hb dX4_goesOnWith_4 (by omega) (by omega) (by decide) ?_
  refine lv_iload_n hx hb dX4_goesOnWith_71 rfl (lv_at hl 1 rfl) ?_
  refine lv_bipush (v := iI 59) hx hb dX4_goesOnWith_72 (by decide +kernel) ?_
  refine n_icmp_ne (tgt := 85) hx hb dX4_goesOnWith_74 (by decide) (by omega) (fun c_6 => ?_) (fun c_6 => ?_)
  ·
    refine lv_aload_n hx hb dX4_goesOnWith_85 rfl (lv_at hl 0 rfl) ?_
    refine lv_iload_n hx hb dX4_goesOnWith_86 rfl (lv_at hl 1 rfl) ?_
    refine x_callVi (As := [.int (iI c)]) (rest := []) ⟨hx, hb, hml, hown, hts⟩ (c_X4_takesStep l D cI cS x_ t_ at_ cnt lv kd gd ln st s.heap.size c ⟨hq.2.2.1 (by omega), hc.2⟩ (by first | assumption | omega) (by first | assumption | omega)) (cwV 1 hts gX4_goesOnWith_X4_takesStep rfl rfl rfl (by decide +kernel) ⟨Nat.le_of_ble_eq_true rfl, Nat.le_of_ble_eq_true rfl⟩) hK hP hD hS hA [0, 1, 2, 3, 4, 5] [] (wr := ([] : va_W)) rfl rfl (by decide) (by decide) (by decide) 0 4 rfl rfl rfl [0, 1, 2, 3, 4, 5] (fun (u : Unit) => (W_X_P cI cS x_ t_ at_ t_ cnt lv kd gd (if 0 ≤ stv (cnt - 1) c ∧ ln (cnt - 1) < 4 then updI ln (cnt - 1) (ln (cnt - 1) + 1) else ln) (if 0 ≤ stv (cnt - 1) c ∧ ln (cnt - 1) < 4 then updI st ((cnt - 1) * 4 + ln (cnt - 1)) (stv (cnt - 1) c) else st))) (fun _ => rfl) (by decide) rfl hl.1 rfl (Nat.le_of_ble_eq_true rfl) ⟨Nat.zero_le _, Nat.zero_le _⟩ dX4_goesOnWith_87 (fun r_ u_ H locs hw hP hD hS => ?_)
    try dsimp only at hw
    subst hw
    have hP : va_P D vwCl (W_X_P cI cS x_ t_ at_ t_ cnt lv kd gd (if 0 ≤ stv (cnt - 1) c ∧ ln (cnt - 1) < 4 then updI ln (cnt - 1) (ln (cnt - 1) + 1) else ln) (if 0 ≤ stv (cnt - 1) c ∧ ln (cnt - 1) < 4 then updI st ((cnt - 1) * 4 + ln (cnt - 1)) (stv (cnt - 1) c) else st)) H := hP
    have hD : va_D A (W_X_P cI cS x_ t_ at_ t_ cnt lv kd gd (if 0 ≤ stv (cnt - 1) c ∧ ln (cnt - 1) < 4 then updI ln (cnt - 1) (ln (cnt - 1) + 1) else ln) (if 0 ≤ stv (cnt - 1) c ∧ ln (cnt - 1) < 4 then updI st ((cnt - 1) * 4 + ln (cnt - 1)) (stv (cnt - 1) c) else st)) := hD
    have hps := pS_4 (cnt := cnt) (kd := kd) (gd := gd) (ln := ln) (st := st) (c := c) (show 4 ≤ at_ by omega)
    unfold pFun pStp at hps
    first | rw [if_pos (show c = 59 by omega)] at hps | rw [if_neg (show ¬ c = 59 by omega)] at hps
    exact W.zret (v := iI (if 0 ≤ stv (cnt - 1) c ∧ ln (cnt - 1) < 4 then 1 else 0)) (ty := .boolean) hx hb hr (by split <;> decide +kernel) (fun t ht hW => ⟨⟨_, (at_, cnt, kd, gd, (if 0 ≤ stv (cnt - 1) c ∧ ln (cnt - 1) < 4 then updI ln (cnt - 1) (ln (cnt - 1) + 1) else ln), (if 0 ≤ stv (cnt - 1) c ∧ ln (cnt - 1) < 4 then updI st ((cnt - 1) * 4 + ln (cnt - 1)) (stv (cnt - 1) c) else st)), rfl, ⟨congrArg iI (show (if 0 ≤ stv (cnt - 1) c ∧ ln (cnt - 1) < 4 then 1 else 0) = (if (pStep at_ cnt kd gd ln st c).isSome = true then 1 else 0) from (ps_b hps)), (by (try dsimp only); exact (ps_q hps (fun q_ => by first | (simp only [if_pos q_]; done) | (simp only [if_pos q_]; rw [show at_ = 4 by omega]))))⟩, by rw [ht]; exact hP, hD⟩, hS.F ht⟩) hS.2.2 dX4_goesOnWith_90
  ·
    refine lv_aload_n hx hb dX4_goesOnWith_77 rfl (lv_at hl 0 rfl) ?_
    refine lv_iload_n hx hb dX4_goesOnWith_78 rfl (lv_at hl 1 rfl) ?_
    refine x_callVi (As := [.int (iI c)]) (rest := []) ⟨hx, hb, hml, hown, hts⟩ (c_X4_takesFunction l D cI cS x_ t_ at_ cnt lv kd gd ln st s.heap.size c (by first | assumption | omega) (by first | assumption | omega)) (cwV 1 hts gX4_goesOnWith_X4_takesFunction rfl rfl rfl (by decide +kernel) ⟨Nat.le_of_ble_eq_true rfl, Nat.le_of_ble_eq_true rfl⟩) hK hP hD hS hA [0, 1, 2, 3, 4, 5] [] (wr := ([] : va_W)) rfl rfl (by decide) (by decide) (by decide) 0 4 rfl rfl rfl [0, 1, 2, 3, 4, 5] (fun (u : Unit) => (W_X_P cI cS x_ t_ 2 t_ (if c = 59 ∧ cnt < 5 then cnt + 1 else cnt) lv kd gd (if c = 59 ∧ cnt < 5 then updI ln cnt 0 else ln) st)) (fun _ => rfl) (by decide) rfl hl.1 rfl (Nat.le_of_ble_eq_true rfl) ⟨Nat.zero_le _, Nat.zero_le _⟩ dX4_goesOnWith_79 (fun r_ u_ H locs hw hP hD hS => ?_)
    try dsimp only at hw
    subst hw
    have hP : va_P D vwCl (W_X_P cI cS x_ t_ 2 t_ (if c = 59 ∧ cnt < 5 then cnt + 1 else cnt) lv kd gd (if c = 59 ∧ cnt < 5 then updI ln cnt 0 else ln) st) H := hP
    have hD : va_D A (W_X_P cI cS x_ t_ 2 t_ (if c = 59 ∧ cnt < 5 then cnt + 1 else cnt) lv kd gd (if c = 59 ∧ cnt < 5 then updI ln cnt 0 else ln) st) := hD
    refine lv_goto (tgt := 90) hx hb dX4_goesOnWith_82 (by decide) ?_
    have hps := pS_4 (cnt := cnt) (kd := kd) (gd := gd) (ln := ln) (st := st) (c := c) (show 4 ≤ at_ by omega)
    unfold pFun pStp at hps
    first | rw [if_pos (show c = 59 by omega)] at hps | rw [if_neg (show ¬ c = 59 by omega)] at hps
    exact W.zret (v := iI (if c = 59 ∧ cnt < 5 then 1 else 0)) (ty := .boolean) hx hb hr (by split <;> decide +kernel) (fun t ht hW => ⟨⟨_, (2, (if c = 59 ∧ cnt < 5 then cnt + 1 else cnt), kd, gd, (if c = 59 ∧ cnt < 5 then updI ln cnt 0 else ln), st), rfl, ⟨congrArg iI (show (if c = 59 ∧ cnt < 5 then 1 else 0) = (if (pStep at_ cnt kd gd ln st c).isSome = true then 1 else 0) from (ps_b hps)), (by (try dsimp only); exact (ps_q hps (fun q_ => by first | (simp only [if_pos q_]; done) | (simp only [if_pos q_]; rw [show at_ = 4 by omega]))))⟩, by rw [ht]; exact hP, hD⟩, hS.F ht⟩) hS.2.2 dX4_goesOnWith_90
theorem okQ_0 (kd gd ln st : Int → Int) : okQ 0 0 kd gd ln st := ⟨by decide, by decide, fun h => absurd h (by decide), fun j a b => absurd b (by omega), fun j a b => absurd b (by omega), fun j a b => absurd b (by omega), fun j a b => absurd b (by omega)⟩
set_option maxHeartbeats 4000000 in
set_option maxRecDepth 100000 in
theorem c_X4_firstFault (l : Launch) (D : va_G) (cI cS : ClassId) (x_ : Nat → Nat) (t_ : Nat → Nat) (k : Nat → Nat) (at_ : Int) (cnt : Int) (lv : Int) (kd : Int → Int) (gd : Int → Int) (ln : Int → Int) (st : Int → Int) (lane : Int) (len : Int) (cl : Int → Int) (sz : Nat) (i : Int) (n : Int) (hs : 0 ≤ len ∧ len ≤ 60) (hcl : ∀ j : Int, -2147483648 ≤ cl j ∧ cl j < 2147483648) (hin : 0 ≤ i ∧ 0 ≤ n ∧ i + n ≤ len) : Met l yX4_firstFault wsX4_firstFault ({ frames := 4, cells := 0, slots := 0, locals := 86 }) (cP D cI cS (W_X_P_S cI cS x_ t_ at_ t_ cnt lv kd gd ln st k lane len cl) sz [.ref (x_ 0), .ref (k 0), .int (iI i), .int (iI n)]) (va_Qi (fun (r : Int32) (u : Int × Int × (Int → Int) × (Int → Int) × (Int → Int) × (Int → Int)) => (r = iI ((pRun (fun j => cl (i + j)) n.toNat 0 ((0, 0, kd, gd, ln, st) : PQ)).1)) ∧ ((pRun (fun j => cl (i + j)) n.toNat 0 ((0, 0, kd, gd, ln, st) : PQ)).1 = -1 → ((u.1, u.2.1, u.2.2.1, u.2.2.2.1, u.2.2.2.2.1, u.2.2.2.2.2) : PQ) = (pRun (fun j => cl (i + j)) n.toNat 0 ((0, 0, kd, gd, ln, st) : PQ)).2)) (fun (u : Int × Int × (Int → Int) × (Int → Int) × (Int → Int) × (Int → Int)) t => cB D (va_A (W_X_P_S cI cS x_ t_ at_ t_ cnt lv kd gd ln st k lane len cl) sz) (W_X_P_S cI cS x_ t_ u.1 t_ u.2.1 15 u.2.2.1 u.2.2.2.1 u.2.2.2.2.1 u.2.2.2.2.2 k lane len cl) t) (va_A (W_X_P_S cI cS x_ t_ at_ t_ cnt lv kd gd ln st k lane len cl) sz)) 0 0 (va_A (W_X_P_S cI cS x_ t_ at_ t_ cnt lv kd gd ln st k lane len cl) sz) := by
  refine Met.ofW (cc := cX4_firstFault) (maxL := 5) (ret := (some .int)) (by decide) rfl ?_
  intro p e s m args below meth c_ s₁ B hml hv
  obtain ⟨rfl, hsz, hP, hK, hD0⟩ := hv
  have hx := B.exec
  have hb := B.bytes
  have hr := B.returns
  have hts := atoms_spec (ws := wsX4_firstFault) B.pre
  have hown : s.vm.findClass RX4 = some m.cls := findClass_of_methodNamed B.named
  have hlocks := B.notSynchronized
  subst hsz
  have hD := hD0.self (sz := s.heap.size)
  generalize hAe : va_A (W_X_P_S cI cS x_ t_ at_ t_ cnt lv kd gd ln st k lane len cl) s.heap.size = A at hD ⊢
  have hA : ∀ q : Nat, s.heap.size ≤ q → A q := fun q h => by rw [← hAe]; exact Or.inr h
  have hS : va_S A s.heap s.heap [] := va_S.rf
  have hP : va_P D vwCl (W_X_P_S cI cS x_ t_ at_ t_ cnt lv kd gd ln st k lane len cl) s.heap := hP
  have hl := lv_entry ([.ref (x_ 0), .ref (k 0), .int (iI i), .int (iI n)] : List Value) (n := 5) (Nat.le_of_ble_eq_true rfl)
  rw [lg_entry_eq]
  generalize (lg_sl ([.ref (x_ 0), .ref (k 0), .int (iI i), .int (iI n)] : List Value) ++ List.replicate (5 - (lg_sl ([.ref (x_ 0), .ref (k 0), .int (iI i), .int (iI n)] : List Value)).length) Slot.unset).toArray = ls at hl ⊢
  have hl : lv_has ls 5 [(0, .ref (x_ 0)), (1, .ref (k 0)), (2, .int (iI i)), (3, .int (iI n))] := hl
  have fl_12 := hts (.fieldLink RX4 12 "ActRows$Text" "draft" "LActRows$Program;") (by decide +kernel)
  have iw_4 : ∀ w ∈ wsX40, w ∈ wsX4_firstFault := by decide +kernel
  have fl_18 := hts (.fieldLink RX4 18 "ActRows$Text" "at" "I") (by decide +kernel)
  refine lv_aload_n hx hb dX4_firstFault_0 rfl (lv_at hl 0 rfl) ?_
  refine va_get (D := D) (ci := 4) (v := .ref (t_ 0)) (C := RX4) (T := TX4) (N := 2) hx hb hts iw_4 hown hK.1 hP 0 rfl rfl 0 (by decide) fl_12 (fun _ h9 => h9) rfl dX4_firstFault_1 ?_
  refine x_callVv (As := []) (rest := []) ⟨hx, hb, hml, hown, hts⟩ (c_X1_clear l D cI cS t_ cnt lv kd gd ln st s.heap.size) (cwV 0 hts gX4_firstFault_X1_clear rfl rfl rfl (by decide +kernel) ⟨Nat.le_of_ble_eq_true rfl, Nat.le_of_ble_eq_true rfl⟩) hK hP hD hS hA [1, 2, 3, 4, 5] [0, 6, 7] (wr := [(x_ 0, .inr (4, [.ref (t_ 0), .int (iI at_)])), (k 0, .inr (3, [.ref (k 1), .int (iI lane), .int (iI len)])), (k 1, .inl (cI, 60, .inl (aI cl)))]) rfl rfl (by decide) (by decide) (by decide) 0 1 rfl rfl rfl [0, 3, 4, 5, 6, 7, 1, 2] (fun (u : Unit) => (W_X_P_S cI cS x_ t_ at_ t_ 0 15 kd gd ln st k lane len cl)) (fun _ => rfl) (by decide) rfl hl.1 rfl (Nat.le_of_ble_eq_true rfl) ⟨Nat.zero_le _, Nat.zero_le _⟩ dX4_firstFault_4 (fun u_ H locs hw hP hD hS => ?_)
  try dsimp only at hw
  have hP : va_P D vwCl (W_X_P_S cI cS x_ t_ at_ t_ 0 15 kd gd ln st k lane len cl) H := hP
  have hD : va_D A (W_X_P_S cI cS x_ t_ at_ t_ 0 15 kd gd ln st k lane len cl) := hD
  refine lv_aload_n hx hb dX4_firstFault_7 rfl (lv_at hl 0 rfl) ?_
  refine lv_iconst (v := iI 0) hx hb dX4_firstFault_8 (by decide +kernel) ?_
  refine va_put (D := D) (ci := 4) (v := .int (iI 0)) (ty := .int) (C := RX4) (T := TX4) (N := 2) hx hb hts iw_4 tyX4 tyX4_ok nmX4 hown hK.1 hP hD hS 0 rfl rfl 1 (by decide) fl_18 (fun _ h9 => h9) rfl (by decide +kernel) rfl rfl (Nat.le_of_ble_eq_true rfl) dX4_firstFault_9 (fun H locs hP hD hS => ?_)
  have hP : va_P D vwCl (W_X_P_S cI cS x_ t_ 0 t_ 0 15 kd gd ln st k lane len cl) H := hP
  have hD : va_D A (W_X_P_S cI cS x_ t_ 0 t_ 0 15 kd gd ln st k lane len cl) := hD
  refine lv_iconst (v := iI 0) hx hb dX4_firstFault_12 (by decide +kernel) ?_
  refine lv_istore (lv' := [(4, .int (iI 0)), (0, .ref (x_ 0)), (1, .ref (k 0)), (2, .int (iI i)), (3, .int (iI n))]) hx hb dX4_firstFault_13 hl (by decide) rfl (fun ls hl => ?_)
  refine x_loop (σ := Int × Int × Int × (Int → Int) × (Int → Int) × (Int → Int) × (Int → Int)) (fun (xv_ : Int × Int × Int × (Int → Int) × (Int → Int) × (Int → Int) × (Int → Int)) => match xv_ with | (pl, at1, cnt1, kd1, gd1, ln1, st1) => (0 ≤ pl ∧ pl ≤ n) ∧ (okQ at1 cnt1 kd1 gd1 ln1 st1) ∧ (at1 ≤ 1 → cnt1 = 0) ∧ (pRun (fun j => cl (i + j)) (n - pl).toNat pl (at1, cnt1, kd1, gd1, ln1, st1) = pRun (fun j => cl (i + j)) n.toNat 0 ((0, 0, kd, gd, ln, st) : PQ))) (fun (xv_ : Int × Int × Int × (Int → Int) × (Int → Int) × (Int → Int) × (Int → Int)) => match xv_ with | (pl, at1, cnt1, kd1, gd1, ln1, st1) => (n - pl).toNat) (fun (xv_ : Int × Int × Int × (Int → Int) × (Int → Int) × (Int → Int) × (Int → Int)) => match xv_ with | (pl, at1, cnt1, kd1, gd1, ln1, st1) => (W_X_P_S cI cS x_ t_ at1 t_ cnt1 15 kd1 gd1 ln1 st1 k lane len cl)) (fun (xv_ : Int × Int × Int × (Int → Int) × (Int → Int) × (Int → Int) × (Int → Int)) => match xv_ with | (pl, at1, cnt1, kd1, gd1, ln1, st1) => [(4, .int (iI pl)), (0, .ref (x_ 0)), (1, .ref (k 0)), (2, .int (iI i)), (3, .int (iI n))]) (nL := 5) ?step_1 (0, 0, 0, kd, gd, ln, st) (by (try dsimp only); exact ⟨by omega, okQ_0 kd gd ln st, fun _ => rfl, by rw [Int.sub_zero]⟩) hP hD hS hl
  case step_1 =>
    intro xv_ hI ih H locs ls hP hD hS hl
    obtain ⟨pl, at1, cnt1, kd1, gd1, ln1, st1⟩ := xv_
    try dsimp only at hI ih
    obtain ⟨hpl, hq, hq0, hR⟩ := hI
    have hP : va_P D vwCl (W_X_P_S cI cS x_ t_ at1 t_ cnt1 15 kd1 gd1 ln1 st1 k lane len cl) H := hP
    have hD : va_D A (W_X_P_S cI cS x_ t_ at1 t_ cnt1 15 kd1 gd1 ln1 st1 k lane len cl) := hD
    have hl : lv_has ls 5 [(4, .int (iI pl)), (0, .ref (x_ 0)), (1, .ref (k 0)), (2, .int (iI i)), (3, .int (iI n))] := hl
    have ih_2 := ih
    refine lv_iload hx hb dX4_firstFault_15 (lv_at hl 0 rfl) ?_
    refine lv_iload_n hx hb dX4_firstFault_17 rfl (lv_at hl 4 rfl) ?_
    refine n_icmp_ge (tgt := 45) hx hb dX4_firstFault_18 (by decide) (by omega) (fun c_3 => ?_) (fun c_3 => ?_)
    ·
      refine lv_aload_n hx hb dX4_firstFault_45 rfl (lv_at hl 1 rfl) ?_
      refine va_get (D := D) (ci := 4) (v := .int (iI at1)) (C := RX4) (T := TX4) (N := 2) hx hb hts iw_4 hown hK.1 hP 0 rfl rfl 1 (by decide) fl_18 (fun _ h9 => h9) rfl dX4_firstFault_46 ?_
      refine lv_iconst (v := iI 4) hx hb dX4_firstFault_49 (by decide +kernel) ?_
      refine n_icmp_ne (tgt := 57) hx hb dX4_firstFault_50 (by decide) (by have := hq.1; omega) (fun c_4 => ?_) (fun c_4 => ?_)
      ·
        have hR2 := hR
        rw [show (n - pl).toNat = 0 by omega] at hR2
        have hR3 : (pl, (at1, cnt1, kd1, gd1, ln1, st1)) = pRun (fun j => cl (i + j)) n.toNat 0 ((0, 0, kd, gd, ln, st) : PQ) := (if_neg (by assumption)).symm.trans hR2
        refine lv_iload_n hx hb dX4_firstFault_57 rfl (lv_at hl 4 rfl) ?_
        exact W.iret (v := iI n) hx hb hr (fun t ht hW => ⟨⟨_, (at1, cnt1, kd1, gd1, ln1, st1), rfl, ⟨congrArg iI (show n = (pRun (fun j => cl (i + j)) n.toNat 0 ((0, 0, kd, gd, ln, st) : PQ)).1 from (by rw [← hR3] <;> first | rfl | (show n = pl; omega))), (by (try dsimp only); exact (fun e => by rw [← hR3]))⟩, by rw [ht]; exact hP, hD⟩, hS.F ht⟩) hS.2.2 dX4_firstFault_58
      ·
        have hR2 := hR
        rw [show (n - pl).toNat = 0 by omega] at hR2
        have hR3 : ((-1 : Int), (at1, cnt1, kd1, gd1, ln1, st1)) = pRun (fun j => cl (i + j)) n.toNat 0 ((0, 0, kd, gd, ln, st) : PQ) := (if_pos (by assumption)).symm.trans hR2
        refine lv_iconst (v := iI (-1)) hx hb dX4_firstFault_53 (by decide +kernel) ?_
        refine lv_goto (tgt := 58) hx hb dX4_firstFault_54 (by decide) ?_
        exact W.iret (v := iI (-1)) hx hb hr (fun t ht hW => ⟨⟨_, (at1, cnt1, kd1, gd1, ln1, st1), rfl, ⟨congrArg iI (show (-1) = (pRun (fun j => cl (i + j)) n.toNat 0 ((0, 0, kd, gd, ln, st) : PQ)).1 from (by rw [← hR3] <;> first | rfl | (show n = pl; omega))), (by (try dsimp only); exact (fun e => by rw [← hR3]))⟩, by rw [ht]; exact hP, hD⟩, hS.F ht⟩) hS.2.2 dX4_firstFault_58
    ·
      refine lv_aload_n hx hb dX4_firstFault_21 rfl (lv_at hl 1 rfl) ?_
      refine lv_aload_n hx hb dX4_firstFault_22 rfl (lv_at hl 2 rfl) ?_
      refine lv_iload_n hx hb dX4_firstFault_23 rfl (lv_at hl 3 rfl) ?_
      refine lv_iload hx hb dX4_firstFault_24 (lv_at hl 0 rfl) ?_
      refine n_iadd hx hb dX4_firstFault_26 ?_
      refine x_callVi (As := [.int (iI (i + pl))]) (rest := [.ref (x_ 0)]) ⟨hx, hb, hml, hown, hts⟩ (c_X3_cellAt l D cI cS k lane len cl H.size (i + pl) (by first | assumption | omega) (by first | assumption | omega)) (cwV 1 hts gX4_firstFault_X3_cellAt rfl rfl rfl (by decide +kernel) ⟨Nat.le_of_ble_eq_true rfl, Nat.le_of_ble_eq_true rfl⟩) hK hP hD hS hA [6, 7] [0, 1, 2, 3, 4, 5] (wr := [(x_ 0, .inr (4, [.ref (t_ 0), .int (iI at1)])), (t_ 0, .inr (1, [.ref (t_ 1), .ref (t_ 2), .ref (t_ 3), .ref (t_ 4), .int (iI cnt1), .int (iI 15)])), (t_ 1, .inl (cI, 5, .inl (aI kd1))), (t_ 2, .inl (cI, 5, .inl (aI gd1))), (t_ 3, .inl (cI, 5, .inl (aI ln1))), (t_ 4, .inl (cI, 20, .inl (aI st1)))]) rfl rfl (by decide) (by decide) (by decide) 0 3 rfl rfl rfl [0, 1, 2, 3, 4, 5, 6, 7] (fun (u : Unit) => (W_X_P_S cI cS x_ t_ at1 t_ cnt1 15 kd1 gd1 ln1 st1 k lane len cl)) (fun _ => rfl) (by decide) rfl hl.1 rfl (Nat.le_of_ble_eq_true rfl) ⟨Nat.zero_le _, Nat.zero_le _⟩ dX4_firstFault_27 (fun r_ u_ H locs hw hP hD hS => ?_)
      try dsimp only at hw
      subst hw
      have hP : va_P D vwCl (W_X_P_S cI cS x_ t_ at1 t_ cnt1 15 kd1 gd1 ln1 st1 k lane len cl) H := hP
      have hD : va_D A (W_X_P_S cI cS x_ t_ at1 t_ cnt1 15 kd1 gd1 ln1 st1 k lane len cl) := hD
      obtain ⟨c, h_c⟩ : ∃ z_ : Int, z_ = (if 0 ≤ (i + pl) ∧ (i + pl) < len then cl (i + pl) else 0) := ⟨_, rfl⟩
      rw [← h_c]
      have hcc : c = cl (i + pl) := by rw [h_c, if_pos (by omega)]
      have hcr := hcl (i + pl)
      refine x_callVi (As := [.int (iI c)]) (rest := []) ⟨hx, hb, hml, hown, hts⟩ (c_X4_goesOnWith l D cI cS x_ t_ at1 cnt1 15 kd1 gd1 ln1 st1 H.size c (by first | assumption | omega) (by omega)) (cwV 1 hts gX4_firstFault_X4_goesOnWith rfl rfl rfl (by decide +kernel) ⟨Nat.le_of_ble_eq_true rfl, Nat.le_of_ble_eq_true rfl⟩) hK hP hD hS hA [0, 1, 2, 3, 4, 5] [6, 7] (wr := [(k 0, .inr (3, [.ref (k 1), .int (iI lane), .int (iI len)])), (k 1, .inl (cI, 60, .inl (aI cl)))]) rfl rfl (by decide) (by decide) (by decide) 0 4 rfl rfl rfl [2, 3, 4, 5, 6, 7, 0, 1] (fun (u : Int × Int × (Int → Int) × (Int → Int) × (Int → Int) × (Int → Int)) => (W_X_P_S cI cS x_ t_ u.1 t_ u.2.1 15 u.2.2.1 u.2.2.2.1 u.2.2.2.2.1 u.2.2.2.2.2 k lane len cl)) (fun _ => rfl) (by decide) rfl hl.1 rfl (Nat.le_of_ble_eq_true rfl) ⟨Nat.zero_le _, Nat.zero_le _⟩ dX4_firstFault_30 (fun r_ u_ H locs hw hP hD hS => ?_)
      obtain ⟨at_5, cnt_6, kd_7, gd_8, ln_9, st_10⟩ := u_
      try dsimp only at hw
      obtain ⟨rfl, hZ⟩ := hw
      have hP : va_P D vwCl (W_X_P_S cI cS x_ t_ at_5 t_ cnt_6 15 kd_7 gd_8 ln_9 st_10 k lane len cl) H := hP
      have hD : va_D A (W_X_P_S cI cS x_ t_ at_5 t_ cnt_6 15 kd_7 gd_8 ln_9 st_10 k lane len cl) := hD
      rw [hcc] at hZ
      refine n_if_b2 (tgt := 39) hx hb dX4_firstFault_33 (by decide)  (fun c_11 => ?_) (fun c_11 => ?_)
      ·
        have hsome : (pStep at1 cnt1 kd1 gd1 ln1 st1 (cl (i + pl))).isSome = true := by rw [← hcc]; assumption
        refine n_iinc (lv' := [(4, .int (iI (pl + 1))), (0, .ref (x_ 0)), (1, .ref (k 0)), (2, .int (iI i)), (3, .int (iI n))]) hx hb dX4_firstFault_39 hl (k := 0) rfl (by decide) rfl (fun ls hl => ?_)
        refine lv_goto (tgt := 15) hx hb dX4_firstFault_42 (by decide) ?_
        exact ih_2 ((pl + 1), at_5, cnt_6, kd_7, gd_8, ln_9, st_10) (by (try dsimp only); exact (by
            obtain ⟨z, hz⟩ := Option.isSome_iff_exists.mp hsome
            have hzz := hZ z hz
            subst hzz
            obtain ⟨a1, b1⟩ := okQ_step hq hq0 hz
            refine ⟨by omega, a1, b1, ?_⟩
            rw [← hR, show (n - pl).toNat = (n - (pl + 1)).toNat + 1 by omega]
            exact (pRun_some (cd := fun j => cl (i + j)) (i := pl) (q := (at1, cnt1, kd1, gd1, ln1, st1)) hz).symm)) (by (try dsimp only); exact (by omega)) _ _ _ hP hD hS (lv_sub hl [0, 1, 2, 3, 4] rfl)
      ·
        have hnone : pStep at1 cnt1 kd1 gd1 ln1 st1 (cl (i + pl)) = none := by rw [← hcc]; exact Option.not_isSome_iff_eq_none.mp (by assumption)
        have hR2 := hR
        rw [show (n - pl).toNat = (n - (pl + 1)).toNat + 1 by omega, pRun_none (cd := fun j => cl (i + j)) (i := pl) (show pStepQ (at1, cnt1, kd1, gd1, ln1, st1) ((fun j => cl (i + j)) pl) = none from hnone)] at hR2
        refine lv_iload hx hb dX4_firstFault_36 (lv_at hl 0 rfl) ?_
        exact W.iret (v := iI pl) hx hb hr (fun t ht hW => ⟨⟨_, (at_5, cnt_6, kd_7, gd_8, ln_9, st_10), rfl, ⟨congrArg iI (show pl = (pRun (fun j => cl (i + j)) n.toNat 0 ((0, 0, kd, gd, ln, st) : PQ)).1 from (by rw [← hR2])), (by (try dsimp only); exact (fun e => by rw [← hR2] at e; exact absurd e (by show ¬ pl = -1; omega)))⟩, by rw [ht]; exact hP, hD⟩, hS.F ht⟩) hS.2.2 dX4_firstFault_38
