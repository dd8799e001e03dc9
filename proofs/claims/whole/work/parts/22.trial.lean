abbrev W_T_P (cI cS : ClassId) (A_0 : Nat → Nat) (pa_0 : Nat → Nat) (tk_0 : Int → Int) (tg_0 : Int → Int) (tl_0 : Int) (to_0 : Int → Int) (ta_0 : Int → Int) (te_0 : Int → Int) (ts_0 : Int → Int) (tr_0 : Int → Int) (A_1 : Nat → Nat) (cnt_1 : Int) (lv_1 : Int) (kd_1 : Int → Int) (gd_1 : Int → Int) (ln_1 : Int → Int) (st_1 : Int → Int) : va_W := [(A_0 0, .inr (5, [.ref (pa_0 0), .ref (A_0 1), .ref (A_0 2), .int (iI tl_0), .ref (A_0 3), .ref (A_0 4), .ref (A_0 5), .ref (A_0 6), .ref (A_0 7)])), (A_0 1, .inl (cI, 5, .inl (aI tk_0))), (A_0 2, .inl (cI, 5, .inl (aI tg_0))), (A_0 3, .inl (cI, 5, .inl (aI to_0))), (A_0 4, .inl (cI, 5, .inl (aI ta_0))), (A_0 5, .inl (cI, 5, .inl (aI te_0))), (A_0 6, .inl (cI, 5, .inl (aI ts_0))), (A_0 7, .inl (cI, 5, .inl (aI tr_0))), (A_1 0, .inr (1, [.ref (A_1 1), .ref (A_1 2), .ref (A_1 3), .ref (A_1 4), .int (iI cnt_1), .int (iI lv_1)])), (A_1 1, .inl (cI, 5, .inl (aI kd_1))), (A_1 2, .inl (cI, 5, .inl (aI gd_1))), (A_1 3, .inl (cI, 5, .inl (aI ln_1))), (A_1 4, .inl (cI, 20, .inl (aI st_1)))]
abbrev W_T (cI cS : ClassId) (A_0 : Nat → Nat) (pa_0 : Nat → Nat) (tk_0 : Int → Int) (tg_0 : Int → Int) (tl_0 : Int) (to_0 : Int → Int) (ta_0 : Int → Int) (te_0 : Int → Int) (ts_0 : Int → Int) (tr_0 : Int → Int) : va_W := [(A_0 0, .inr (5, [.ref (pa_0 0), .ref (A_0 1), .ref (A_0 2), .int (iI tl_0), .ref (A_0 3), .ref (A_0 4), .ref (A_0 5), .ref (A_0 6), .ref (A_0 7)])), (A_0 1, .inl (cI, 5, .inl (aI tk_0))), (A_0 2, .inl (cI, 5, .inl (aI tg_0))), (A_0 3, .inl (cI, 5, .inl (aI to_0))), (A_0 4, .inl (cI, 5, .inl (aI ta_0))), (A_0 5, .inl (cI, 5, .inl (aI te_0))), (A_0 6, .inl (cI, 5, .inl (aI ts_0))), (A_0 7, .inl (cI, 5, .inl (aI tr_0)))]
def settleInv (R0 r : Rc) (f A E : Int) : Prop := r.1 = R0.1 ∧ (if r.1 = 4 then [] else f :: r.2.2.2) = R0.2.2.2 ∧ A + (r.2.1.length : Int) = (R0.2.1.length : Int) ∧ E - 1 + r.2.2.1 = R0.2.2.1
theorem settle_i {K G : Int → Int} {L cnt : Int} {ln st : Int → Int} (ok : okP cnt ln st) {f : Int} (h0 : 0 ≤ f) (h1 : f < cnt) : settleInv (sem K G L ln st f) (goR (K f) (G f) L (fun i => st (f * 4 + i)) (sem K G L ln st) (ln f - 0).toNat 0) f 0 1 := by
  have e := sem_un (K := K) (G := G) (L := L) ok h0 h1
  rw [Int.sub_zero]
  rw [e]
  exact ⟨rfl, rfl, Int.zero_add _, Int.zero_add _⟩
theorem settle_c {R0 s t : Rc} {k g f A E : Int} (h : settleInv R0 (aftR k g s t) f A E) (hc : s.1 = 4 ∨ (k ≠ 0 ∧ g = s.1) ∧ k ≠ 1) : settleInv R0 t f (A + (s.2.1.length : Int)) (E + s.2.2.1) := by
  unfold aftR at h
  rw [if_neg (by rcases hc with q | q; exact fun z => z.1 q; exact fun z => z.2 q.1), if_neg (by rcases hc with q | q; exact fun z => z.1 q; exact fun z => q.2 z.2)] at h
  obtain ⟨h1, h2, h3, h4⟩ := h
  refine ⟨h1, h2, ?_, ?_⟩
  · rw [← h3]; show _ = A + ((s.2.1 ++ t.2.1).length : Int); rw [List.length_append]; omega
  · rw [← h4]; show _ = E - 1 + (s.2.2.1 + t.2.2.1); omega
theorem settle_o {R0 s t : Rc} {k g f A E : Int} (h : settleInv R0 (aftR k g s t) f A E) (h1 : s.1 ≠ 4) (h2 : ¬ (k ≠ 0 ∧ g = s.1)) : R0.1 = s.1 ∧ R0.2.2.2 = f :: s.2.2.2 ∧ (R0.2.1.length : Int) = A + (s.2.1.length : Int) ∧ R0.2.2.1 = E + s.2.2.1 := by
  unfold aftR at h
  rw [if_pos ⟨h1, h2⟩] at h
  obtain ⟨q1, q2, q3, q4⟩ := h
  refine ⟨q1.symm, ?_, q3.symm, ?_⟩
  · rw [← q2]; exact if_neg h1
  · rw [← q4]; show E - 1 + (s.2.2.1 + 1) = _; omega
theorem settle_l {R0 s t : Rc} {k g f A E : Int} (h : settleInv R0 (aftR k g s t) f A E) (h1 : s.1 ≠ 4) (h2 : k ≠ 0 ∧ g = s.1) (h3 : k = 1) : R0.1 = 4 ∧ R0.2.2.2 = [] ∧ (R0.2.1.length : Int) = A + (s.2.1.length : Int) ∧ R0.2.2.1 = E + s.2.2.1 := by
  unfold aftR at h
  rw [if_neg (fun z => z.2 h2), if_pos ⟨h1, h3⟩] at h
  obtain ⟨q1, q2, q3, q4⟩ := h
  refine ⟨q1.symm, ?_, q3.symm, ?_⟩
  · rw [← q2]; rfl
  · rw [← q4]; show E - 1 + (s.2.2.1 + 1) = _; omega
theorem settle_e {R0 : Rc} {k g L f A E i : Int} {sf : Int → Int} {tb : Int → Rc} {n : Nat} (hn : n = 0) (h : settleInv R0 (goR k g L sf tb n i) f A E) : R0.1 = 4 ∧ R0.2.2.2 = [] ∧ (R0.2.1.length : Int) = A ∧ R0.2.2.1 = E := by
  subst hn
  obtain ⟨q1, q2, q3, q4⟩ := h
  refine ⟨q1.symm, q2.symm, ?_, ?_⟩
  · rw [← q3]; show A + (0 : Int) = A; omega
  · rw [← q4]; show E - 1 + 1 = E; omega
theorem goR_s {k g L : Int} {sf : Int → Int} {tb : Int → Rc} {m i : Int} (h : i < m) : goR k g L sf tb (m - i).toNat i = aftR k g (stepR L tb (sf i)) (goR k g L sf tb (m - (i + 1)).toNat (i + 1)) := by
  rw [show (m - i).toNat = (m - (i + 1)).toNat + 1 by omega]
  rfl
/-- the class's reading of a step by its tables -/
def outC (cnt L : Int) (to : Int → Int) (v : Int) : Int := if 0 ≤ v - 4 ∧ v - 4 < cnt then to (v - 4) else if bit L v = 1 then v else 4
def actC (cnt L : Int) (ta : Int → Int) (v : Int) : Int := if 0 ≤ v - 4 ∧ v - 4 < cnt then ta (v - 4) else if bit L v = 1 then 1 else 0
theorem outC_s {cnt L f : Int} {S : Int → Rc} {to ta te ts : Int → Int} (h : Tab f S to ta te ts) {v : Int} (hv : 0 ≤ v ∧ v < 4 + f) (hf : f < cnt) : outC cnt L to v = (stepR L S v).1 := by
  unfold outC stepR
  by_cases c : 4 ≤ v
  · rw [if_pos (by omega), if_pos c]; exact (h (v - 4) (by omega) (by omega)).1
  · rw [if_neg (by omega), if_neg c]; split <;> rfl
theorem actC_s {cnt L f : Int} {S : Int → Rc} {to ta te ts : Int → Int} (h : Tab f S to ta te ts) {v : Int} (hv : 0 ≤ v ∧ v < 4 + f) (hf : f < cnt) : actC cnt L ta v = ((stepR L S v).2.1.length : Int) := by
  unfold actC stepR
  by_cases c : 4 ≤ v
  · rw [if_pos (by omega), if_pos c]; exact (h (v - 4) (by omega) (by omega)).2.1
  · rw [if_neg (by omega), if_neg c]; split <;> rfl
theorem endC_s {cnt L f : Int} {S : Int → Rc} {to ta te ts : Int → Int} (h : Tab f S to ta te ts) {v : Int} (hv : 0 ≤ v ∧ v < 4 + f) (hf : f < cnt) : (if 0 ≤ v - 4 ∧ v - 4 < cnt then te (v - 4) else 0) = (stepR L S v).2.2.1 := by
  unfold stepR
  by_cases c : 4 ≤ v
  · rw [if_pos (by omega), if_pos c]; exact (h (v - 4) (by omega) (by omega)).2.2.1
  · rw [if_neg (by omega), if_neg c]; split <;> rfl
theorem Tab.upto {n f : Int} {S : Int → Rc} {to ta te ts to' ta' te' ts' : Int → Int} (h : Tab n S to ta te ts) (hf : f ≤ n) (e : ∀ j : Int, j ≠ f → to' j = to j ∧ ta' j = ta j ∧ te' j = te j ∧ ts' j = ts j) : Tab f S to' ta' te' ts' := fun g h0 h1 => by
  obtain ⟨e1, e2, e3, e4⟩ := e g (by omega)
  rw [e1, e2, e3, e4]
  exact h g h0 (by omega)
theorem srcR_own {R0 : Rc} {f : Int} (h : R0.2.2.2 = f :: []) : srcR R0 = -1 := by unfold srcR; rw [h]
theorem srcR_of {R0 : Rc} {f g : Int} {q : List Int} (h : R0.2.2.2 = f :: g :: q) : srcR R0 = g := by unfold srcR; rw [h]
theorem srcR_no {R0 : Rc} (h : R0.2.2.2 = []) : srcR R0 = -1 := by unfold srcR; rw [h]
set_option maxHeartbeats 4000000 in
set_option maxRecDepth 100000 in
theorem c_X5_begin (l : Launch) (D : va_G) (cI cS : ClassId) (b : Nat → Nat) (a : Nat → Nat) (tk : Int → Int) (tg : Int → Int) (tl : Int) (to : Int → Int) (ta : Int → Int) (te : Int → Int) (ts : Int → Int) (tr : Int → Int) (cnt : Int) (lv : Int) (kd : Int → Int) (gd : Int → Int) (ln : Int → Int) (st : Int → Int) (sz : Nat)  : Met l yX5_begin wsX5_begin ({ frames := 1, cells := 0, slots := 0, locals := 60 }) (cP D cI cS (W_T_P cI cS b a tk tg tl to ta te ts tr a cnt lv kd gd ln st) sz [.ref (b 0)]) (va_Qv (fun (u : (Int → Int) × (Int → Int)) => ∀ j : Int, 0 ≤ j → j < 5 → u.1 j = kd j ∧ u.2 j = gd j) (fun (u : (Int → Int) × (Int → Int)) t => cB D (va_A (W_T_P cI cS b a tk tg tl to ta te ts tr a cnt lv kd gd ln st) sz) (W_T_P cI cS b a u.1 u.2 lv to ta te ts tr a cnt lv kd gd ln st) t) (va_A (W_T_P cI cS b a tk tg tl to ta te ts tr a cnt lv kd gd ln st) sz)) 0 0 (va_A (W_T_P cI cS b a tk tg tl to ta te ts tr a cnt lv kd gd ln st) sz) := by
  refine Met.ofW (cc := cX5_begin) (maxL := 1) (ret := none) (by decide) rfl ?_
  intro p e s m args below meth c_ s₁ B hml hv
  obtain ⟨rfl, hsz, hP, hK, hD0⟩ := hv
  have hx := B.exec
  have hb := B.bytes
  have hr := B.returns
  have hts := atoms_spec (ws := wsX5_begin) B.pre
  have hown : s.vm.findClass RX5 = some m.cls := findClass_of_methodNamed B.named
  have hlocks := B.notSynchronized
  subst hsz
  have hD := hD0.self (sz := s.heap.size)
  generalize hAe : va_A (W_T_P cI cS b a tk tg tl to ta te ts tr a cnt lv kd gd ln st) s.heap.size = A at hD ⊢
  have hA : ∀ q : Nat, s.heap.size ≤ q → A q := fun q h => by rw [← hAe]; exact Or.inr h
  have hS : va_S A s.heap s.heap [] := va_S.rf
  have hP : va_P D vwCl (W_T_P cI cS b a tk tg tl to ta te ts tr a cnt lv kd gd ln st) s.heap := hP
  have hl := lv_entry ([.ref (b 0)] : List Value) (n := 1) (Nat.le_of_ble_eq_true rfl)
  rw [lg_entry_eq]
  generalize (lg_sl ([.ref (b 0)] : List Value) ++ List.replicate (1 - (lg_sl ([.ref (b 0)] : List Value)).length) Slot.unset).toArray = ls at hl ⊢
  have hl : lv_has ls 1 [(0, .ref (b 0))] := hl
  have fl_12 := hts (.fieldLink RX5 12 "ActRows$Trial" "program" "LActRows$Program;") (by decide +kernel)
  have iw_5 : ∀ w ∈ wsX50, w ∈ wsX5_begin := by decide +kernel
  have fn_44 := va_Nw.use (A := ([.ref (b 0)] : List Value).toArray) rfl (hK.2 ("ActRows$Trial", 44, "ActRows$Program", "kinds", "[I") (List.mem_of_getElem? (i := 27) rfl))
  have iw_1 : ∀ w ∈ wsX10, w ∈ wsX5_begin := by decide +kernel
  have fl_18 := hts (.fieldLink RX5 18 "ActRows$Trial" "kinds" "[I") (by decide +kernel)
  have al_ := hts (.methodLink RX5 45 arraycopyName) (by decide +kernel)
  have an_ := hts (.native arraycopyName) (by decide +kernel)
  have as_ := hts (.static arraycopyName) (by decide +kernel)
  have ai_ := hts (.initialized "java/lang/System") (by decide +kernel)
  have fn_51 := va_Nw.use (A := ([.ref (b 0)] : List Value).toArray) rfl (hK.2 ("ActRows$Trial", 51, "ActRows$Program", "guarded", "[I") (List.mem_of_getElem? (i := 28) rfl))
  have fl_22 := hts (.fieldLink RX5 22 "ActRows$Trial" "guarded" "[I") (by decide +kernel)
  have fn_52 := va_Nw.use (A := ([.ref (b 0)] : List Value).toArray) rfl (hK.2 ("ActRows$Trial", 52, "ActRows$Program", "live", "I") (List.mem_of_getElem? (i := 29) rfl))
  have fl_25 := hts (.fieldLink RX5 25 "ActRows$Trial" "live" "I") (by decide +kernel)
  refine lv_aload_n hx hb dX5_begin_0 rfl (lv_at hl 0 rfl) ?_
  refine va_get (D := D) (ci := 5) (v := .ref (a 0)) (C := RX5) (T := TX5) (N := 9) hx hb hts iw_5 hown hK.1 hP 0 rfl rfl 0 (by decide) fl_12 (fun _ h9 => h9) rfl dX5_begin_1 ?_
  refine va_getN (D := D) (ci := 1) (v := .ref (a 1)) (C := RX1) (T := TX1) (N := 6) hx hb hts iw_1 hown hK.1 hP 8 rfl rfl 0 (by decide) fn_44 (fun _ h9 => h9) rfl dX5_begin_4 ?_
  refine lv_iconst (v := iI 0) hx hb dX5_begin_7 (by decide +kernel) ?_
  refine lv_aload_n hx hb dX5_begin_8 rfl (lv_at hl 0 rfl) ?_
  refine va_get (D := D) (ci := 5) (v := .ref (b 1)) (C := RX5) (T := TX5) (N := 9) hx hb hts iw_5 hown hK.1 hP 0 rfl rfl 1 (by decide) fl_18 (fun _ h9 => h9) rfl dX5_begin_9 ?_
  refine lv_iconst (v := iI 0) hx hb dX5_begin_12 (by decide +kernel) ?_
  refine lv_iconst (v := iI 5) hx hb dX5_begin_13 (by decide +kernel) ?_
  refine n_copy hx hb (by rw [hml]; exact hl.1.symm) hown al_ an_ as_ ai_ hK.1 hP hD hS 9 1 0 (n0 := 5) (n1 := 5) rfl rfl rfl (by omega) (by decide) (by decide) (Nat.le_of_ble_eq_true rfl) (Nat.le_of_ble_eq_true rfl) dX5_begin_14 (fun H locs hP hD hS => ?_)
  have hP : va_P D vwCl (W_T_P cI cS b a (cpyI kd tk 0 0 5) tg tl to ta te ts tr a cnt lv kd gd ln st) H := hP
  have hD : va_D A (W_T_P cI cS b a (cpyI kd tk 0 0 5) tg tl to ta te ts tr a cnt lv kd gd ln st) := hD
  refine lv_aload_n hx hb dX5_begin_17 rfl (lv_at hl 0 rfl) ?_
  refine va_get (D := D) (ci := 5) (v := .ref (a 0)) (C := RX5) (T := TX5) (N := 9) hx hb hts iw_5 hown hK.1 hP 0 rfl rfl 0 (by decide) fl_12 (fun _ h9 => h9) rfl dX5_begin_18 ?_
  refine va_getN (D := D) (ci := 1) (v := .ref (a 2)) (C := RX1) (T := TX1) (N := 6) hx hb hts iw_1 hown hK.1 hP 8 rfl rfl 1 (by decide) fn_51 (fun _ h9 => h9) rfl dX5_begin_21 ?_
  refine lv_iconst (v := iI 0) hx hb dX5_begin_24 (by decide +kernel) ?_
  refine lv_aload_n hx hb dX5_begin_25 rfl (lv_at hl 0 rfl) ?_
  refine va_get (D := D) (ci := 5) (v := .ref (b 2)) (C := RX5) (T := TX5) (N := 9) hx hb hts iw_5 hown hK.1 hP 0 rfl rfl 2 (by decide) fl_22 (fun _ h9 => h9) rfl dX5_begin_26 ?_
  refine lv_iconst (v := iI 0) hx hb dX5_begin_29 (by decide +kernel) ?_
  refine lv_iconst (v := iI 5) hx hb dX5_begin_30 (by decide +kernel) ?_
  refine n_copy hx hb (by rw [hml]; exact hl.1.symm) hown al_ an_ as_ ai_ hK.1 hP hD hS 10 2 0 (n0 := 5) (n1 := 5) rfl rfl rfl (by omega) (by decide) (by decide) (Nat.le_of_ble_eq_true rfl) (Nat.le_of_ble_eq_true rfl) dX5_begin_31 (fun H locs hP hD hS => ?_)
  have hP : va_P D vwCl (W_T_P cI cS b a (cpyI kd tk 0 0 5) (cpyI gd tg 0 0 5) tl to ta te ts tr a cnt lv kd gd ln st) H := hP
  have hD : va_D A (W_T_P cI cS b a (cpyI kd tk 0 0 5) (cpyI gd tg 0 0 5) tl to ta te ts tr a cnt lv kd gd ln st) := hD
  refine lv_aload_n hx hb dX5_begin_34 rfl (lv_at hl 0 rfl) ?_
  refine lv_aload_n hx hb dX5_begin_35 rfl (lv_at hl 0 rfl) ?_
  refine va_get (D := D) (ci := 5) (v := .ref (a 0)) (C := RX5) (T := TX5) (N := 9) hx hb hts iw_5 hown hK.1 hP 0 rfl rfl 0 (by decide) fl_12 (fun _ h9 => h9) rfl dX5_begin_36 ?_
  refine va_getN (D := D) (ci := 1) (v := .int (iI lv)) (C := RX1) (T := TX1) (N := 6) hx hb hts iw_1 hown hK.1 hP 8 rfl rfl 5 (by decide) fn_52 (fun _ h9 => h9) rfl dX5_begin_39 ?_
  refine va_put (D := D) (ci := 5) (v := .int (iI lv)) (ty := .int) (C := RX5) (T := TX5) (N := 9) hx hb hts iw_5 tyX5 tyX5_ok nmX5 hown hK.1 hP hD hS 0 rfl rfl 3 (by decide) fl_25 (fun _ h9 => h9) rfl (by decide +kernel) rfl rfl (Nat.le_of_ble_eq_true rfl) dX5_begin_42 (fun H locs hP hD hS => ?_)
  have hP : va_P D vwCl (W_T_P cI cS b a (cpyI kd tk 0 0 5) (cpyI gd tg 0 0 5) lv to ta te ts tr a cnt lv kd gd ln st) H := hP
  have hD : va_D A (W_T_P cI cS b a (cpyI kd tk 0 0 5) (cpyI gd tg 0 0 5) lv to ta te ts tr a cnt lv kd gd ln st) := hD
  exact W.vret hx hb hr (fun t ht hW => ⟨⟨((cpyI kd tk 0 0 5), (cpyI gd tg 0 0 5)), rfl, (by (try dsimp only); exact (fun j h1 h2 => by unfold cpyI; rw [if_pos (by omega), if_pos (by omega)]; exact ⟨by congr 1; omega, by congr 1; omega⟩)), by rw [ht]; exact hP, hD⟩, hS.F ht⟩) hS.2.2 dX5_begin_45
set_option maxHeartbeats 4000000 in
set_option maxRecDepth 100000 in
theorem c_X5_isLive (l : Launch) (D : va_G) (cI cS : ClassId) (b : Nat → Nat) (a : Nat → Nat) (tk : Int → Int) (tg : Int → Int) (tl : Int) (to : Int → Int) (ta : Int → Int) (te : Int → Int) (ts : Int → Int) (tr : Int → Int) (sz : Nat) (v : Int) (hL : 0 ≤ tl ∧ tl < 16) (hv : 0 ≤ v ∧ v < 4) : Met l yX5_isLive wsX5_isLive ({ frames := 0, cells := 0, slots := 0, locals := 0 }) (cP D cI cS (W_T cI cS b a tk tg tl to ta te ts tr) sz [.ref (b 0), .int (iI v)]) (va_Qi (fun (r : Int32) (u : Unit) => r = iI (if bit tl v = 1 then 1 else 0)) (fun (u : Unit) t => cB D (va_A (W_T cI cS b a tk tg tl to ta te ts tr) sz) (W_T cI cS b a tk tg tl to ta te ts tr) t) (va_A (W_T cI cS b a tk tg tl to ta te ts tr) sz)) 0 0 (va_A (W_T cI cS b a tk tg tl to ta te ts tr) sz) := by
  refine Met.ofW (cc := cX5_isLive) (maxL := 2) (ret := (some .boolean)) (by decide) rfl ?_
  intro p e s m args below meth c_ s₁ B hml hv
  obtain ⟨rfl, hsz, hP, hK, hD0⟩ := hv
  have hx := B.exec
  have hb := B.bytes
  have hr := B.returns
  have hts := atoms_spec (ws := wsX5_isLive) B.pre
  have hown : s.vm.findClass RX5 = some m.cls := findClass_of_methodNamed B.named
  have hlocks := B.notSynchronized
  subst hsz
  have hD := hD0.self (sz := s.heap.size)
  generalize hAe : va_A (W_T cI cS b a tk tg tl to ta te ts tr) s.heap.size = A at hD ⊢
  have hA : ∀ q : Nat, s.heap.size ≤ q → A q := fun q h => by rw [← hAe]; exact Or.inr h
  have hS : va_S A s.heap s.heap [] := va_S.rf
  have hP : va_P D vwCl (W_T cI cS b a tk tg tl to ta te ts tr) s.heap := hP
  have hl := lv_entry ([.ref (b 0), .int (iI v)] : List Value) (n := 2) (Nat.le_of_ble_eq_true rfl)
  rw [lg_entry_eq]
  generalize (lg_sl ([.ref (b 0), .int (iI v)] : List Value) ++ List.replicate (2 - (lg_sl ([.ref (b 0), .int (iI v)] : List Value)).length) Slot.unset).toArray = ls at hl ⊢
  have hl : lv_has ls 2 [(0, .ref (b 0)), (1, .int (iI v))] := hl
  have fl_25 := hts (.fieldLink RX5 25 "ActRows$Trial" "live" "I") (by decide +kernel)
  have iw_5 : ∀ w ∈ wsX50, w ∈ wsX5_isLive := by decide +kernel
  refine lv_aload_n hx hb dX5_isLive_0 rfl (lv_at hl 0 rfl) ?_
  refine va_get (D := D) (ci := 5) (v := .int (iI tl)) (C := RX5) (T := TX5) (N := 9) hx hb hts iw_5 hown hK.1 hP 0 rfl rfl 3 (by decide) fl_25 (fun _ h9 => h9) rfl dX5_isLive_1 ?_
  refine lv_iload_n hx hb dX5_isLive_4 rfl (lv_at hl 1 rfl) ?_
  have hq := shr_rng (x := tl) (k := v) (by omega)
  have hb2 : bit tl v = tl / pow2 v % 2 := rfl
  refine n_ishr (z := (tl / pow2 v)) (b_shr (by omega)) hx hb dX5_isLive_5 ?_
  refine lv_iconst (v := iI 1) hx hb dX5_isLive_6 (by decide +kernel) ?_
  refine n_iand (z := ((tl / pow2 v) % 2)) (b_and1 (by omega)) hx hb dX5_isLive_7 ?_
  refine lv_iconst (v := iI 1) hx hb dX5_isLive_8 (by decide +kernel) ?_
  refine n_icmp_ne (tgt := 16) hx hb dX5_isLive_9 (by decide) (by omega) (fun c_1 => ?_) (fun c_1 => ?_)
  ·
    refine lv_iconst (v := iI 0) hx hb dX5_isLive_16 (by decide +kernel) ?_
    exact W.zret (v := iI 0) (ty := .boolean) hx hb hr (by decide +kernel) (fun t ht hW => ⟨⟨_, (), rfl, congrArg iI (show 0 = (if bit tl v = 1 then 1 else 0) from (by first | (rw [if_pos (by omega)]) | (rw [if_neg (by omega)]))), by rw [ht]; exact hP, hD⟩, hS.F ht⟩) hS.2.2 dX5_isLive_17
  ·
    refine lv_iconst (v := iI 1) hx hb dX5_isLive_12 (by decide +kernel) ?_
    refine lv_goto (tgt := 17) hx hb dX5_isLive_13 (by decide) ?_
    exact W.zret (v := iI 1) (ty := .boolean) hx hb hr (by decide +kernel) (fun t ht hW => ⟨⟨_, (), rfl, congrArg iI (show 1 = (if bit tl v = 1 then 1 else 0) from (by first | (rw [if_pos (by omega)]) | (rw [if_neg (by omega)]))), by rw [ht]; exact hP, hD⟩, hS.F ht⟩) hS.2.2 dX5_isLive_17
set_option maxHeartbeats 4000000 in
set_option maxRecDepth 100000 in
theorem c_X5_guardsAgainst (l : Launch) (D : va_G) (cI cS : ClassId) (b : Nat → Nat) (a : Nat → Nat) (tk : Int → Int) (tg : Int → Int) (tl : Int) (to : Int → Int) (ta : Int → Int) (te : Int → Int) (ts : Int → Int) (tr : Int → Int) (sz : Nat) (f : Int) (x : Int) (hf : 0 ≤ f ∧ f < 5) (hkr : -2147483648 ≤ tk f ∧ tk f < 2147483648) (hgr : -2147483648 ≤ tg f ∧ tg f < 2147483648) (hxr : -2147483648 ≤ x ∧ x < 2147483648) : Met l yX5_guardsAgainst wsX5_guardsAgainst ({ frames := 0, cells := 0, slots := 0, locals := 0 }) (cP D cI cS (W_T cI cS b a tk tg tl to ta te ts tr) sz [.ref (b 0), .int (iI f), .int (iI x)]) (va_Qi (fun (r : Int32) (u : Unit) => r = iI (if tk f ≠ 0 ∧ tg f = x then 1 else 0)) (fun (u : Unit) t => cB D (va_A (W_T cI cS b a tk tg tl to ta te ts tr) sz) (W_T cI cS b a tk tg tl to ta te ts tr) t) (va_A (W_T cI cS b a tk tg tl to ta te ts tr) sz)) 0 0 (va_A (W_T cI cS b a tk tg tl to ta te ts tr) sz) := by
  refine Met.ofW (cc := cX5_guardsAgainst) (maxL := 3) (ret := (some .boolean)) (by decide) rfl ?_
  intro p e s m args below meth c_ s₁ B hml hv
  obtain ⟨rfl, hsz, hP, hK, hD0⟩ := hv
  have hx := B.exec
  have hb := B.bytes
  have hr := B.returns
  have hts := atoms_spec (ws := wsX5_guardsAgainst) B.pre
  have hown : s.vm.findClass RX5 = some m.cls := findClass_of_methodNamed B.named
  have hlocks := B.notSynchronized
  subst hsz
  have hD := hD0.self (sz := s.heap.size)
  generalize hAe : va_A (W_T cI cS b a tk tg tl to ta te ts tr) s.heap.size = A at hD ⊢
  have hA : ∀ q : Nat, s.heap.size ≤ q → A q := fun q h => by rw [← hAe]; exact Or.inr h
  have hS : va_S A s.heap s.heap [] := va_S.rf
  have hP : va_P D vwCl (W_T cI cS b a tk tg tl to ta te ts tr) s.heap := hP
  have hl := lv_entry ([.ref (b 0), .int (iI f), .int (iI x)] : List Value) (n := 3) (Nat.le_of_ble_eq_true rfl)
  rw [lg_entry_eq]
  generalize (lg_sl ([.ref (b 0), .int (iI f), .int (iI x)] : List Value) ++ List.replicate (3 - (lg_sl ([.ref (b 0), .int (iI f), .int (iI x)] : List Value)).length) Slot.unset).toArray = ls at hl ⊢
  have hl : lv_has ls 3 [(0, .ref (b 0)), (1, .int (iI f)), (2, .int (iI x))] := hl
  have fl_18 := hts (.fieldLink RX5 18 "ActRows$Trial" "kinds" "[I") (by decide +kernel)
  have iw_5 : ∀ w ∈ wsX50, w ∈ wsX5_guardsAgainst := by decide +kernel
  have fl_22 := hts (.fieldLink RX5 22 "ActRows$Trial" "guarded" "[I") (by decide +kernel)
  refine lv_aload_n hx hb dX5_guardsAgainst_0 rfl (lv_at hl 0 rfl) ?_
  refine va_get (D := D) (ci := 5) (v := .ref (b 1)) (C := RX5) (T := TX5) (N := 9) hx hb hts iw_5 hown hK.1 hP 0 rfl rfl 1 (by decide) fl_18 (fun _ h9 => h9) rfl dX5_guardsAgainst_1 ?_
  refine lv_iload_n hx hb dX5_guardsAgainst_4 rfl (lv_at hl 1 rfl) ?_
  refine n_iald (n := 5) hx hb hK.1 hP 1 0 rfl rfl (by omega) (by decide) dX5_guardsAgainst_5 ?_
  refine n_if_eq (tgt := 23) hx hb dX5_guardsAgainst_6 (by decide) (by omega) (fun c_1 => ?_) (fun c_1 => ?_)
  ·
    refine lv_iconst (v := iI 0) hx hb dX5_guardsAgainst_23 (by decide +kernel) ?_
    exact W.zret (v := iI 0) (ty := .boolean) hx hb hr (by decide +kernel) (fun t ht hW => ⟨⟨_, (), rfl, congrArg iI (show 0 = (if tk f ≠ 0 ∧ tg f = x then 1 else 0) from (by first | (rw [if_pos (by omega)]) | (rw [if_neg (by omega)]))), by rw [ht]; exact hP, hD⟩, hS.F ht⟩) hS.2.2 dX5_guardsAgainst_24
  ·
    refine lv_aload_n hx hb dX5_guardsAgainst_9 rfl (lv_at hl 0 rfl) ?_
    refine va_get (D := D) (ci := 5) (v := .ref (b 2)) (C := RX5) (T := TX5) (N := 9) hx hb hts iw_5 hown hK.1 hP 0 rfl rfl 2 (by decide) fl_22 (fun _ h9 => h9) rfl dX5_guardsAgainst_10 ?_
    refine lv_iload_n hx hb dX5_guardsAgainst_13 rfl (lv_at hl 1 rfl) ?_
    refine n_iald (n := 5) hx hb hK.1 hP 2 0 rfl rfl (by omega) (by decide) dX5_guardsAgainst_14 ?_
    refine lv_iload_n hx hb dX5_guardsAgainst_15 rfl (lv_at hl 2 rfl) ?_
    refine n_icmp_ne (tgt := 23) hx hb dX5_guardsAgainst_16 (by decide) (by omega) (fun c_2 => ?_) (fun c_2 => ?_)
    ·
      refine lv_iconst (v := iI 0) hx hb dX5_guardsAgainst_23 (by decide +kernel) ?_
      exact W.zret (v := iI 0) (ty := .boolean) hx hb hr (by decide +kernel) (fun t ht hW => ⟨⟨_, (), rfl, congrArg iI (show 0 = (if tk f ≠ 0 ∧ tg f = x then 1 else 0) from (by first | (rw [if_pos (by omega)]) | (rw [if_neg (by omega)]))), by rw [ht]; exact hP, hD⟩, hS.F ht⟩) hS.2.2 dX5_guardsAgainst_24
    ·
      refine lv_iconst (v := iI 1) hx hb dX5_guardsAgainst_19 (by decide +kernel) ?_
      refine lv_goto (tgt := 24) hx hb dX5_guardsAgainst_20 (by decide) ?_
      exact W.zret (v := iI 1) (ty := .boolean) hx hb hr (by decide +kernel) (fun t ht hW => ⟨⟨_, (), rfl, congrArg iI (show 1 = (if tk f ≠ 0 ∧ tg f = x then 1 else 0) from (by first | (rw [if_pos (by omega)]) | (rw [if_neg (by omega)]))), by rw [ht]; exact hP, hD⟩, hS.F ht⟩) hS.2.2 dX5_guardsAgainst_24
set_option maxHeartbeats 4000000 in
set_option maxRecDepth 100000 in
theorem c_X5_outOfStep (l : Launch) (D : va_G) (cI cS : ClassId) (b : Nat → Nat) (a : Nat → Nat) (tk : Int → Int) (tg : Int → Int) (tl : Int) (to : Int → Int) (ta : Int → Int) (te : Int → Int) (ts : Int → Int) (tr : Int → Int) (cnt : Int) (lv : Int) (kd : Int → Int) (gd : Int → Int) (ln : Int → Int) (st : Int → Int) (sz : Nat) (v : Int) (hc : 0 ≤ cnt ∧ cnt ≤ 5) (hL : 0 ≤ tl ∧ tl < 16) (hv : 0 ≤ v ∧ v < 4 + cnt) : Met l yX5_outOfStep wsX5_outOfStep ({ frames := 1, cells := 0, slots := 0, locals := 21 }) (cP D cI cS (W_T_P cI cS b a tk tg tl to ta te ts tr a cnt lv kd gd ln st) sz [.ref (b 0), .int (iI v)]) (va_Qi (fun (r : Int32) (u : Unit) => r = iI (outC cnt tl to v)) (fun (u : Unit) t => cB D (va_A (W_T_P cI cS b a tk tg tl to ta te ts tr a cnt lv kd gd ln st) sz) (W_T_P cI cS b a tk tg tl to ta te ts tr a cnt lv kd gd ln st) t) (va_A (W_T_P cI cS b a tk tg tl to ta te ts tr a cnt lv kd gd ln st) sz)) 0 0 (va_A (W_T_P cI cS b a tk tg tl to ta te ts tr a cnt lv kd gd ln st) sz) := by
  refine Met.ofW (cc := cX5_outOfStep) (maxL := 2) (ret := (some .int)) (by decide) rfl ?_
  intro p e s m args below meth c_ s₁ B hml hv
  obtain ⟨rfl, hsz, hP, hK, hD0⟩ := hv
  have hx := B.exec
  have hb := B.bytes
  have hr := B.returns
  have hts := atoms_spec (ws := wsX5_outOfStep) B.pre
  have hown : s.vm.findClass RX5 = some m.cls := findClass_of_methodNamed B.named
  have hlocks := B.notSynchronized
  subst hsz
  have hD := hD0.self (sz := s.heap.size)
  generalize hAe : va_A (W_T_P cI cS b a tk tg tl to ta te ts tr a cnt lv kd gd ln st) s.heap.size = A at hD ⊢
  have hA : ∀ q : Nat, s.heap.size ≤ q → A q := fun q h => by rw [← hAe]; exact Or.inr h
  have hS : va_S A s.heap s.heap [] := va_S.rf
  have hP : va_P D vwCl (W_T_P cI cS b a tk tg tl to ta te ts tr a cnt lv kd gd ln st) s.heap := hP
  have hl := lv_entry ([.ref (b 0), .int (iI v)] : List Value) (n := 2) (Nat.le_of_ble_eq_true rfl)
  rw [lg_entry_eq]
  generalize (lg_sl ([.ref (b 0), .int (iI v)] : List Value) ++ List.replicate (2 - (lg_sl ([.ref (b 0), .int (iI v)] : List Value)).length) Slot.unset).toArray = ls at hl ⊢
  have hl : lv_has ls 2 [(0, .ref (b 0)), (1, .int (iI v))] := hl
  have fl_12 := hts (.fieldLink RX5 12 "ActRows$Trial" "program" "LActRows$Program;") (by decide +kernel)
  have iw_5 : ∀ w ∈ wsX50, w ∈ wsX5_outOfStep := by decide +kernel
  have fl_29 := hts (.fieldLink RX5 29 "ActRows$Trial" "outs" "[I") (by decide +kernel)
  refine lv_aload_n hx hb dX5_outOfStep_0 rfl (lv_at hl 0 rfl) ?_
  refine va_get (D := D) (ci := 5) (v := .ref (a 0)) (C := RX5) (T := TX5) (N := 9) hx hb hts iw_5 hown hK.1 hP 0 rfl rfl 0 (by decide) fl_12 (fun _ h9 => h9) rfl dX5_outOfStep_1 ?_
  refine lv_iload_n hx hb dX5_outOfStep_4 rfl (lv_at hl 1 rfl) ?_
  refine lv_iconst (v := iI 4) hx hb dX5_outOfStep_5 (by decide +kernel) ?_
  refine n_isub hx hb dX5_outOfStep_6 ?_
  refine x_callVi (As := [.int (iI (v - 4))]) (rest := []) ⟨hx, hb, hml, hown, hts⟩ (c_X1_has l D cI cS a cnt lv kd gd ln st s.heap.size (v - 4) (by first | assumption | omega) (by first | assumption | omega)) (cwV 1 hts gX5_outOfStep_X1_has rfl rfl rfl (by decide +kernel) ⟨Nat.le_of_ble_eq_true rfl, Nat.le_of_ble_eq_true rfl⟩) hK hP hD hS hA [8, 9, 10, 11, 12] [0, 1, 2, 3, 4, 5, 6, 7] (wr := [(b 0, .inr (5, [.ref (a 0), .ref (b 1), .ref (b 2), .int (iI tl), .ref (b 3), .ref (b 4), .ref (b 5), .ref (b 6), .ref (b 7)])), (b 1, .inl (cI, 5, .inl (aI tk))), (b 2, .inl (cI, 5, .inl (aI tg))), (b 3, .inl (cI, 5, .inl (aI to))), (b 4, .inl (cI, 5, .inl (aI ta))), (b 5, .inl (cI, 5, .inl (aI te))), (b 6, .inl (cI, 5, .inl (aI ts))), (b 7, .inl (cI, 5, .inl (aI tr)))]) rfl rfl (by decide) (by decide) (by decide) 0 1 rfl rfl rfl [0, 1, 2, 3, 4, 5, 6, 7, 8, 9, 10, 11, 12] (fun (u : Unit) => (W_T_P cI cS b a tk tg tl to ta te ts tr a cnt lv kd gd ln st)) (fun _ => rfl) (by decide) rfl hl.1 rfl (Nat.le_of_ble_eq_true rfl) ⟨Nat.zero_le _, Nat.zero_le _⟩ dX5_outOfStep_7 (fun r_ u_ H locs hw hP hD hS => ?_)
  try dsimp only at hw
  subst hw
  have hP : va_P D vwCl (W_T_P cI cS b a tk tg tl to ta te ts tr a cnt lv kd gd ln st) H := hP
  have hD : va_D A (W_T_P cI cS b a tk tg tl to ta te ts tr a cnt lv kd gd ln st) := hD
  refine n_if_b1 (tgt := 22) hx hb dX5_outOfStep_10 (by decide)  (fun c_1 => ?_) (fun c_1 => ?_)
  ·
    refine lv_aload_n hx hb dX5_outOfStep_22 rfl (lv_at hl 0 rfl) ?_
    refine lv_iload_n hx hb dX5_outOfStep_23 rfl (lv_at hl 1 rfl) ?_
    refine x_callVi (As := [.int (iI v)]) (rest := []) ⟨hx, hb, hml, hown, hts⟩ (c_X5_isLive l D cI cS b a tk tg tl to ta te ts tr H.size v (by first | assumption | omega) (by first | assumption | omega)) (cwV 1 hts gX5_outOfStep_X5_isLive rfl rfl rfl (by decide +kernel) ⟨Nat.le_of_ble_eq_true rfl, Nat.le_of_ble_eq_true rfl⟩) hK hP hD hS hA [0, 1, 2, 3, 4, 5, 6, 7] [8, 9, 10, 11, 12] (wr := [(a 0, .inr (1, [.ref (a 1), .ref (a 2), .ref (a 3), .ref (a 4), .int (iI cnt), .int (iI lv)])), (a 1, .inl (cI, 5, .inl (aI kd))), (a 2, .inl (cI, 5, .inl (aI gd))), (a 3, .inl (cI, 5, .inl (aI ln))), (a 4, .inl (cI, 20, .inl (aI st)))]) rfl rfl (by decide) (by decide) (by decide) 0 5 rfl rfl rfl [5, 6, 7, 8, 9, 10, 11, 12, 0, 1, 2, 3, 4] (fun (u : Unit) => (W_T_P cI cS b a tk tg tl to ta te ts tr a cnt lv kd gd ln st)) (fun _ => rfl) (by decide) rfl hl.1 rfl (Nat.le_of_ble_eq_true rfl) ⟨Nat.zero_le _, Nat.zero_le _⟩ dX5_outOfStep_24 (fun r_ u_ H locs hw hP hD hS => ?_)
    try dsimp only at hw
    subst hw
    have hP : va_P D vwCl (W_T_P cI cS b a tk tg tl to ta te ts tr a cnt lv kd gd ln st) H := hP
    have hD : va_D A (W_T_P cI cS b a tk tg tl to ta te ts tr a cnt lv kd gd ln st) := hD
    refine n_if_b1 (tgt := 34) hx hb dX5_outOfStep_27 (by decide)  (fun c_2 => ?_) (fun c_2 => ?_)
    ·
      refine lv_iconst (v := iI 4) hx hb dX5_outOfStep_34 (by decide +kernel) ?_
      exact W.iret (v := iI 4) hx hb hr (fun t ht hW => ⟨⟨_, (), rfl, congrArg iI (show 4 = (outC cnt tl to v) from (by unfold outC; first | (rw [if_pos (by omega)]) | (rw [if_neg (by omega), if_pos (by omega)]) | (rw [if_neg (by omega), if_neg (by omega)]))), by rw [ht]; exact hP, hD⟩, hS.F ht⟩) hS.2.2 dX5_outOfStep_35
    ·
      refine lv_iload_n hx hb dX5_outOfStep_30 rfl (lv_at hl 1 rfl) ?_
      refine lv_goto (tgt := 35) hx hb dX5_outOfStep_31 (by decide) ?_
      exact W.iret (v := iI v) hx hb hr (fun t ht hW => ⟨⟨_, (), rfl, congrArg iI (show v = (outC cnt tl to v) from (by unfold outC; first | (rw [if_pos (by omega)]) | (rw [if_neg (by omega), if_pos (by omega)]) | (rw [if_neg (by omega), if_neg (by omega)]))), by rw [ht]; exact hP, hD⟩, hS.F ht⟩) hS.2.2 dX5_outOfStep_35
  ·
    refine lv_aload_n hx hb dX5_outOfStep_13 rfl (lv_at hl 0 rfl) ?_
    refine va_get (D := D) (ci := 5) (v := .ref (b 3)) (C := RX5) (T := TX5) (N := 9) hx hb hts iw_5 hown hK.1 hP 0 rfl rfl 4 (by decide) fl_29 (fun _ h9 => h9) rfl dX5_outOfStep_14 ?_
    refine lv_iload_n hx hb dX5_outOfStep_17 rfl (lv_at hl 1 rfl) ?_
    refine lv_iconst (v := iI 4) hx hb dX5_outOfStep_18 (by decide +kernel) ?_
    refine n_isub hx hb dX5_outOfStep_19 ?_
    refine n_iald (n := 5) hx hb hK.1 hP 3 0 rfl rfl (by omega) (by decide) dX5_outOfStep_20 ?_
    exact W.iret (v := iI (to (v - 4))) hx hb hr (fun t ht hW => ⟨⟨_, (), rfl, congrArg iI (show (to (v - 4)) = (outC cnt tl to v) from (by unfold outC; first | (rw [if_pos (by omega)]) | (rw [if_neg (by omega), if_pos (by omega)]) | (rw [if_neg (by omega), if_neg (by omega)]))), by rw [ht]; exact hP, hD⟩, hS.F ht⟩) hS.2.2 dX5_outOfStep_21
set_option maxHeartbeats 4000000 in
set_option maxRecDepth 100000 in
theorem c_X5_actsOfStep (l : Launch) (D : va_G) (cI cS : ClassId) (b : Nat → Nat) (a : Nat → Nat) (tk : Int → Int) (tg : Int → Int) (tl : Int) (to : Int → Int) (ta : Int → Int) (te : Int → Int) (ts : Int → Int) (tr : Int → Int) (cnt : Int) (lv : Int) (kd : Int → Int) (gd : Int → Int) (ln : Int → Int) (st : Int → Int) (sz : Nat) (v : Int) (hc : 0 ≤ cnt ∧ cnt ≤ 5) (hL : 0 ≤ tl ∧ tl < 16) (hv : 0 ≤ v ∧ v < 4 + cnt) : Met l yX5_actsOfStep wsX5_actsOfStep ({ frames := 1, cells := 0, slots := 0, locals := 21 }) (cP D cI cS (W_T_P cI cS b a tk tg tl to ta te ts tr a cnt lv kd gd ln st) sz [.ref (b 0), .int (iI v)]) (va_Qi (fun (r : Int32) (u : Unit) => r = iI (actC cnt tl ta v)) (fun (u : Unit) t => cB D (va_A (W_T_P cI cS b a tk tg tl to ta te ts tr a cnt lv kd gd ln st) sz) (W_T_P cI cS b a tk tg tl to ta te ts tr a cnt lv kd gd ln st) t) (va_A (W_T_P cI cS b a tk tg tl to ta te ts tr a cnt lv kd gd ln st) sz)) 0 0 (va_A (W_T_P cI cS b a tk tg tl to ta te ts tr a cnt lv kd gd ln st) sz) := by
  refine Met.ofW (cc := cX5_actsOfStep) (maxL := 2) (ret := (some .int)) (by decide) rfl ?_
  intro p e s m args below meth c_ s₁ B hml hv
  obtain ⟨rfl, hsz, hP, hK, hD0⟩ := hv
  have hx := B.exec
  have hb := B.bytes
  have hr := B.returns
  have hts := atoms_spec (ws := wsX5_actsOfStep) B.pre
  have hown : s.vm.findClass RX5 = some m.cls := findClass_of_methodNamed B.named
  have hlocks := B.notSynchronized
  subst hsz
  have hD := hD0.self (sz := s.heap.size)
  generalize hAe : va_A (W_T_P cI cS b a tk tg tl to ta te ts tr a cnt lv kd gd ln st) s.heap.size = A at hD ⊢
  have hA : ∀ q : Nat, s.heap.size ≤ q → A q := fun q h => by rw [← hAe]; exact Or.inr h
  have hS : va_S A s.heap s.heap [] := va_S.rf
  have hP : va_P D vwCl (W_T_P cI cS b a tk tg tl to ta te ts tr a cnt lv kd gd ln st) s.heap := hP
  have hl := lv_entry ([.ref (b 0), .int (iI v)] : List Value) (n := 2) (Nat.le_of_ble_eq_true rfl)
  rw [lg_entry_eq]
  generalize (lg_sl ([.ref (b 0), .int (iI v)] : List Value) ++ List.replicate (2 - (lg_sl ([.ref (b 0), .int (iI v)] : List Value)).length) Slot.unset).toArray = ls at hl ⊢
  have hl : lv_has ls 2 [(0, .ref (b 0)), (1, .int (iI v))] := hl
  have fl_12 := hts (.fieldLink RX5 12 "ActRows$Trial" "program" "LActRows$Program;") (by decide +kernel)
  have iw_5 : ∀ w ∈ wsX50, w ∈ wsX5_actsOfStep := by decide +kernel
  have fl_32 := hts (.fieldLink RX5 32 "ActRows$Trial" "actCounts" "[I") (by decide +kernel)
  refine lv_aload_n hx hb dX5_actsOfStep_0 rfl (lv_at hl 0 rfl) ?_
  refine va_get (D := D) (ci := 5) (v := .ref (a 0)) (C := RX5) (T := TX5) (N := 9) hx hb hts iw_5 hown hK.1 hP 0 rfl rfl 0 (by decide) fl_12 (fun _ h9 => h9) rfl dX5_actsOfStep_1 ?_
  refine lv_iload_n hx hb dX5_actsOfStep_4 rfl (lv_at hl 1 rfl) ?_
  refine lv_iconst (v := iI 4) hx hb dX5_actsOfStep_5 (by decide +kernel) ?_
  refine n_isub hx hb dX5_actsOfStep_6 ?_
  refine x_callVi (As := [.int (iI (v - 4))]) (rest := []) ⟨hx, hb, hml, hown, hts⟩ (c_X1_has l D cI cS a cnt lv kd gd ln st s.heap.size (v - 4) (by first | assumption | omega) (by first | assumption | omega)) (cwV 1 hts gX5_actsOfStep_X1_has rfl rfl rfl (by decide +kernel) ⟨Nat.le_of_ble_eq_true rfl, Nat.le_of_ble_eq_true rfl⟩) hK hP hD hS hA [8, 9, 10, 11, 12] [0, 1, 2, 3, 4, 5, 6, 7] (wr := [(b 0, .inr (5, [.ref (a 0), .ref (b 1), .ref (b 2), .int (iI tl), .ref (b 3), .ref (b 4), .ref (b 5), .ref (b 6), .ref (b 7)])), (b 1, .inl (cI, 5, .inl (aI tk))), (b 2, .inl (cI, 5, .inl (aI tg))), (b 3, .inl (cI, 5, .inl (aI to))), (b 4, .inl (cI, 5, .inl (aI ta))), (b 5, .inl (cI, 5, .inl (aI te))), (b 6, .inl (cI, 5, .inl (aI ts))), (b 7, .inl (cI, 5, .inl (aI tr)))]) rfl rfl (by decide) (by decide) (by decide) 0 1 rfl rfl rfl [0, 1, 2, 3, 4, 5, 6, 7, 8, 9, 10, 11, 12] (fun (u : Unit) => (W_T_P cI cS b a tk tg tl to ta te ts tr a cnt lv kd gd ln st)) (fun _ => rfl) (by decide) rfl hl.1 rfl (Nat.le_of_ble_eq_true rfl) ⟨Nat.zero_le _, Nat.zero_le _⟩ dX5_actsOfStep_7 (fun r_ u_ H locs hw hP hD hS => ?_)
  try dsimp only at hw
  subst hw
  have hP : va_P D vwCl (W_T_P cI cS b a tk tg tl to ta te ts tr a cnt lv kd gd ln st) H := hP
  have hD : va_D A (W_T_P cI cS b a tk tg tl to ta te ts tr a cnt lv kd gd ln st) := hD
  refine n_if_b1 (tgt := 22) hx hb dX5_actsOfStep_10 (by decide)  (fun c_1 => ?_) (fun c_1 => ?_)
  ·
    refine lv_aload_n hx hb dX5_actsOfStep_22 rfl (lv_at hl 0 rfl) ?_
    refine lv_iload_n hx hb dX5_actsOfStep_23 rfl (lv_at hl 1 rfl) ?_
    refine x_callVi (As := [.int (iI v)]) (rest := []) ⟨hx, hb, hml, hown, hts⟩ (c_X5_isLive l D cI cS b a tk tg tl to ta te ts tr H.size v (by first | assumption | omega) (by first | assumption | omega)) (cwV 1 hts gX5_actsOfStep_X5_isLive rfl rfl rfl (by decide +kernel) ⟨Nat.le_of_ble_eq_true rfl, Nat.le_of_ble_eq_true rfl⟩) hK hP hD hS hA [0, 1, 2, 3, 4, 5, 6, 7] [8, 9, 10, 11, 12] (wr := [(a 0, .inr (1, [.ref (a 1), .ref (a 2), .ref (a 3), .ref (a 4), .int (iI cnt), .int (iI lv)])), (a 1, .inl (cI, 5, .inl (aI kd))), (a 2, .inl (cI, 5, .inl (aI gd))), (a 3, .inl (cI, 5, .inl (aI ln))), (a 4, .inl (cI, 20, .inl (aI st)))]) rfl rfl (by decide) (by decide) (by decide) 0 5 rfl rfl rfl [5, 6, 7, 8, 9, 10, 11, 12, 0, 1, 2, 3, 4] (fun (u : Unit) => (W_T_P cI cS b a tk tg tl to ta te ts tr a cnt lv kd gd ln st)) (fun _ => rfl) (by decide) rfl hl.1 rfl (Nat.le_of_ble_eq_true rfl) ⟨Nat.zero_le _, Nat.zero_le _⟩ dX5_actsOfStep_24 (fun r_ u_ H locs hw hP hD hS => ?_)
    try dsimp only at hw
    subst hw
    have hP : va_P D vwCl (W_T_P cI cS b a tk tg tl to ta te ts tr a cnt lv kd gd ln st) H := hP
    have hD : va_D A (W_T_P cI cS b a tk tg tl to ta te ts tr a cnt lv kd gd ln st) := hD
    refine n_if_b1 (tgt := 34) hx hb dX5_actsOfStep_27 (by decide)  (fun c_2 => ?_) (fun c_2 => ?_)
    ·
      refine lv_iconst (v := iI 0) hx hb dX5_actsOfStep_34 (by decide +kernel) ?_
      exact W.iret (v := iI 0) hx hb hr (fun t ht hW => ⟨⟨_, (), rfl, congrArg iI (show 0 = (actC cnt tl ta v) from (by unfold actC; first | (rw [if_pos (by omega)]) | (rw [if_neg (by omega), if_pos (by omega)]) | (rw [if_neg (by omega), if_neg (by omega)]))), by rw [ht]; exact hP, hD⟩, hS.F ht⟩) hS.2.2 dX5_actsOfStep_35
    ·
      refine lv_iconst (v := iI 1) hx hb dX5_actsOfStep_30 (by decide +kernel) ?_
      refine lv_goto (tgt := 35) hx hb dX5_actsOfStep_31 (by decide) ?_
      exact W.iret (v := iI 1) hx hb hr (fun t ht hW => ⟨⟨_, (), rfl, congrArg iI (show 1 = (actC cnt tl ta v) from (by unfold actC; first | (rw [if_pos (by omega)]) | (rw [if_neg (by omega), if_pos (by omega)]) | (rw [if_neg (by omega), if_neg (by omega)]))), by rw [ht]; exact hP, hD⟩, hS.F ht⟩) hS.2.2 dX5_actsOfStep_35
  ·
    refine lv_aload_n hx hb dX5_actsOfStep_13 rfl (lv_at hl 0 rfl) ?_
    refine va_get (D := D) (ci := 5) (v := .ref (b 4)) (C := RX5) (T := TX5) (N := 9) hx hb hts iw_5 hown hK.1 hP 0 rfl rfl 5 (by decide) fl_32 (fun _ h9 => h9) rfl dX5_actsOfStep_14 ?_
    refine lv_iload_n hx hb dX5_actsOfStep_17 rfl (lv_at hl 1 rfl) ?_
    refine lv_iconst (v := iI 4) hx hb dX5_actsOfStep_18 (by decide +kernel) ?_
    refine n_isub hx hb dX5_actsOfStep_19 ?_
    refine n_iald (n := 5) hx hb hK.1 hP 4 0 rfl rfl (by omega) (by decide) dX5_actsOfStep_20 ?_
    exact W.iret (v := iI (ta (v - 4))) hx hb hr (fun t ht hW => ⟨⟨_, (), rfl, congrArg iI (show (ta (v - 4)) = (actC cnt tl ta v) from (by unfold actC; first | (rw [if_pos (by omega)]) | (rw [if_neg (by omega), if_pos (by omega)]) | (rw [if_neg (by omega), if_neg (by omega)]))), by rw [ht]; exact hP, hD⟩, hS.F ht⟩) hS.2.2 dX5_actsOfStep_21
set_option maxHeartbeats 4000000 in
set_option maxRecDepth 100000 in
theorem c_X5_countStep (l : Launch) (D : va_G) (cI cS : ClassId) (b : Nat → Nat) (a : Nat → Nat) (tk : Int → Int) (tg : Int → Int) (tl : Int) (to : Int → Int) (ta : Int → Int) (te : Int → Int) (ts : Int → Int) (tr : Int → Int) (cnt : Int) (lv : Int) (kd : Int → Int) (gd : Int → Int) (ln : Int → Int) (st : Int → Int) (sz : Nat) (f : Int) (v : Int) (hc : 0 ≤ cnt ∧ cnt ≤ 5) (hL : 0 ≤ tl ∧ tl < 16) (hf : 0 ≤ f ∧ f < cnt) (hv : 0 ≤ v ∧ v < 4 + cnt) : Met l yX5_countStep wsX5_countStep ({ frames := 2, cells := 0, slots := 0, locals := 42 }) (cP D cI cS (W_T_P cI cS b a tk tg tl to ta te ts tr a cnt lv kd gd ln st) sz [.ref (b 0), .int (iI f), .int (iI v)]) (va_Qv (fun (u : (Int → Int) × (Int → Int)) => ((∀ j : Int, j ≠ f → u.1 j = ta j) ∧ u.1 f = ta f + actC cnt tl ta v) ∧ ((∀ j : Int, j ≠ f → u.2 j = te j) ∧ u.2 f = te f + (if 0 ≤ v - 4 ∧ v - 4 < cnt then te (v - 4) else 0))) (fun (u : (Int → Int) × (Int → Int)) t => cB D (va_A (W_T_P cI cS b a tk tg tl to ta te ts tr a cnt lv kd gd ln st) sz) (W_T_P cI cS b a tk tg tl to u.1 u.2 ts tr a cnt lv kd gd ln st) t) (va_A (W_T_P cI cS b a tk tg tl to ta te ts tr a cnt lv kd gd ln st) sz)) 0 0 (va_A (W_T_P cI cS b a tk tg tl to ta te ts tr a cnt lv kd gd ln st) sz) := by
  refine Met.ofW (cc := cX5_countStep) (maxL := 3) (ret := none) (by decide) rfl ?_
  intro p e s m args below meth c_ s₁ B hml hv
  obtain ⟨rfl, hsz, hP, hK, hD0⟩ := hv
  have hx := B.exec
  have hb := B.bytes
  have hr := B.returns
  have hts := atoms_spec (ws := wsX5_countStep) B.pre
  have hown : s.vm.findClass RX5 = some m.cls := findClass_of_methodNamed B.named
  have hlocks := B.notSynchronized
  subst hsz
  have hD := hD0.self (sz := s.heap.size)
  generalize hAe : va_A (W_T_P cI cS b a tk tg tl to ta te ts tr a cnt lv kd gd ln st) s.heap.size = A at hD ⊢
  have hA : ∀ q : Nat, s.heap.size ≤ q → A q := fun q h => by rw [← hAe]; exact Or.inr h
  have hS : va_S A s.heap s.heap [] := va_S.rf
  have hP : va_P D vwCl (W_T_P cI cS b a tk tg tl to ta te ts tr a cnt lv kd gd ln st) s.heap := hP
  have hl := lv_entry ([.ref (b 0), .int (iI f), .int (iI v)] : List Value) (n := 3) (Nat.le_of_ble_eq_true rfl)
  rw [lg_entry_eq]
  generalize (lg_sl ([.ref (b 0), .int (iI f), .int (iI v)] : List Value) ++ List.replicate (3 - (lg_sl ([.ref (b 0), .int (iI f), .int (iI v)] : List Value)).length) Slot.unset).toArray = ls at hl ⊢
  have hl : lv_has ls 3 [(0, .ref (b 0)), (1, .int (iI f)), (2, .int (iI v))] := hl
  have fl_32 := hts (.fieldLink RX5 32 "ActRows$Trial" "actCounts" "[I") (by decide +kernel)
  have iw_5 : ∀ w ∈ wsX50, w ∈ wsX5_countStep := by decide +kernel
  have fl_12 := hts (.fieldLink RX5 12 "ActRows$Trial" "program" "LActRows$Program;") (by decide +kernel)
  have fl_35 := hts (.fieldLink RX5 35 "ActRows$Trial" "endCounts" "[I") (by decide +kernel)
  refine lv_aload_n hx hb dX5_countStep_0 rfl (lv_at hl 0 rfl) ?_
  refine va_get (D := D) (ci := 5) (v := .ref (b 4)) (C := RX5) (T := TX5) (N := 9) hx hb hts iw_5 hown hK.1 hP 0 rfl rfl 5 (by decide) fl_32 (fun _ h9 => h9) rfl dX5_countStep_1 ?_
  refine lv_iload_n hx hb dX5_countStep_4 rfl (lv_at hl 1 rfl) ?_
  refine lv_dup2_11 hx hb dX5_countStep_5 rfl rfl ?_
  refine n_iald (n := 5) hx hb hK.1 hP 4 0 rfl rfl (by omega) (by decide) dX5_countStep_6 ?_
  refine lv_aload_n hx hb dX5_countStep_7 rfl (lv_at hl 0 rfl) ?_
  refine lv_iload_n hx hb dX5_countStep_8 rfl (lv_at hl 2 rfl) ?_
  refine x_callVi (As := [.int (iI v)]) (rest := [.int (iI (ta f)), .int (iI f), .ref (b 4)]) ⟨hx, hb, hml, hown, hts⟩ (c_X5_actsOfStep l D cI cS b a tk tg tl to ta te ts tr cnt lv kd gd ln st s.heap.size v (by first | assumption | omega) (by first | assumption | omega) (by first | assumption | omega)) (cwV 1 hts gX5_countStep_X5_actsOfStep rfl rfl rfl (by decide +kernel) ⟨Nat.le_of_ble_eq_true rfl, Nat.le_of_ble_eq_true rfl⟩) hK hP hD hS hA [0, 1, 2, 3, 4, 5, 6, 7, 8, 9, 10, 11, 12] [] (wr := ([] : va_W)) rfl rfl (by decide) (by decide) (by decide) 0 5 rfl rfl rfl [0, 1, 2, 3, 4, 5, 6, 7, 8, 9, 10, 11, 12] (fun (u : Unit) => (W_T_P cI cS b a tk tg tl to ta te ts tr a cnt lv kd gd ln st)) (fun _ => rfl) (by decide) rfl hl.1 rfl (Nat.le_of_ble_eq_true rfl) ⟨Nat.zero_le _, Nat.zero_le _⟩ dX5_countStep_9 (fun r_ u_ H locs hw hP hD hS => ?_)
  try dsimp only at hw
  subst hw
  have hP : va_P D vwCl (W_T_P cI cS b a tk tg tl to ta te ts tr a cnt lv kd gd ln st) H := hP
  have hD : va_D A (W_T_P cI cS b a tk tg tl to ta te ts tr a cnt lv kd gd ln st) := hD
  refine n_iadd hx hb dX5_countStep_12 ?_
  refine n_iast (n := 5) hx hb hK.1 hP hD hS 4 0 rfl rfl (by omega) (by decide) dX5_countStep_13 (fun H locs hP hD hS => ?_)
  have hP : va_P D vwCl (W_T_P cI cS b a tk tg tl to (updI ta f ((ta f) + (actC cnt tl ta v))) te ts tr a cnt lv kd gd ln st) H := hP
  have hD : va_D A (W_T_P cI cS b a tk tg tl to (updI ta f ((ta f) + (actC cnt tl ta v))) te ts tr a cnt lv kd gd ln st) := hD
  refine lv_aload_n hx hb dX5_countStep_14 rfl (lv_at hl 0 rfl) ?_
  refine va_get (D := D) (ci := 5) (v := .ref (a 0)) (C := RX5) (T := TX5) (N := 9) hx hb hts iw_5 hown hK.1 hP 0 rfl rfl 0 (by decide) fl_12 (fun _ h9 => h9) rfl dX5_countStep_15 ?_
  refine lv_iload_n hx hb dX5_countStep_18 rfl (lv_at hl 2 rfl) ?_
  refine lv_iconst (v := iI 4) hx hb dX5_countStep_19 (by decide +kernel) ?_
  refine n_isub hx hb dX5_countStep_20 ?_
  refine x_callVi (As := [.int (iI (v - 4))]) (rest := []) ⟨hx, hb, hml, hown, hts⟩ (c_X1_has l D cI cS a cnt lv kd gd ln st H.size (v - 4) (by first | assumption | omega) (by first | assumption | omega)) (cwV 1 hts gX5_countStep_X1_has rfl rfl rfl (by decide +kernel) ⟨Nat.le_of_ble_eq_true rfl, Nat.le_of_ble_eq_true rfl⟩) hK hP hD hS hA [8, 9, 10, 11, 12] [0, 1, 2, 3, 4, 5, 6, 7] (wr := [(b 0, .inr (5, [.ref (a 0), .ref (b 1), .ref (b 2), .int (iI tl), .ref (b 3), .ref (b 4), .ref (b 5), .ref (b 6), .ref (b 7)])), (b 1, .inl (cI, 5, .inl (aI tk))), (b 2, .inl (cI, 5, .inl (aI tg))), (b 3, .inl (cI, 5, .inl (aI to))), (b 4, .inl (cI, 5, .inl (aI (updI ta f ((ta f) + (actC cnt tl ta v)))))), (b 5, .inl (cI, 5, .inl (aI te))), (b 6, .inl (cI, 5, .inl (aI ts))), (b 7, .inl (cI, 5, .inl (aI tr)))]) rfl rfl (by decide) (by decide) (by decide) 0 1 rfl rfl rfl [0, 1, 2, 3, 4, 5, 6, 7, 8, 9, 10, 11, 12] (fun (u : Unit) => (W_T_P cI cS b a tk tg tl to (updI ta f ((ta f) + (actC cnt tl ta v))) te ts tr a cnt lv kd gd ln st)) (fun _ => rfl) (by decide) rfl hl.1 rfl (Nat.le_of_ble_eq_true rfl) ⟨Nat.zero_le _, Nat.zero_le _⟩ dX5_countStep_21 (fun r_ u_ H locs hw hP hD hS => ?_)
  try dsimp only at hw
  subst hw
  have hP : va_P D vwCl (W_T_P cI cS b a tk tg tl to (updI ta f ((ta f) + (actC cnt tl ta v))) te ts tr a cnt lv kd gd ln st) H := hP
  have hD : va_D A (W_T_P cI cS b a tk tg tl to (updI ta f ((ta f) + (actC cnt tl ta v))) te ts tr a cnt lv kd gd ln st) := hD
  refine n_if_b1 (tgt := 44) hx hb dX5_countStep_24 (by decide)  (fun c_1 => ?_) (fun c_1 => ?_)
  ·
    exact W.vret hx hb hr (fun t ht hW => ⟨⟨((updI ta f ((ta f) + (actC cnt tl ta v))), te), rfl, ⟨(by (try dsimp only); exact ⟨fun j hj => updI_n hj, updI_s _ _ _⟩), (by (try dsimp only); exact (by first | (rw [if_pos (by omega)]; exact ⟨fun j hj => updI_n hj, updI_s _ _ _⟩) | (rw [if_neg (by omega)]; exact ⟨fun j hj => rfl, (Int.add_zero _).symm⟩)))⟩, by rw [ht]; exact hP, hD⟩, hS.F ht⟩) hS.2.2 dX5_countStep_44
  ·
    refine lv_aload_n hx hb dX5_countStep_27 rfl (lv_at hl 0 rfl) ?_
    refine va_get (D := D) (ci := 5) (v := .ref (b 5)) (C := RX5) (T := TX5) (N := 9) hx hb hts iw_5 hown hK.1 hP 0 rfl rfl 6 (by decide) fl_35 (fun _ h9 => h9) rfl dX5_countStep_28 ?_
    refine lv_iload_n hx hb dX5_countStep_31 rfl (lv_at hl 1 rfl) ?_
    refine lv_dup2_11 hx hb dX5_countStep_32 rfl rfl ?_
    refine n_iald (n := 5) hx hb hK.1 hP 5 0 rfl rfl (by omega) (by decide) dX5_countStep_33 ?_
    refine lv_aload_n hx hb dX5_countStep_34 rfl (lv_at hl 0 rfl) ?_
    refine va_get (D := D) (ci := 5) (v := .ref (b 5)) (C := RX5) (T := TX5) (N := 9) hx hb hts iw_5 hown hK.1 hP 0 rfl rfl 6 (by decide) fl_35 (fun _ h9 => h9) rfl dX5_countStep_35 ?_
    refine lv_iload_n hx hb dX5_countStep_38 rfl (lv_at hl 2 rfl) ?_
    refine lv_iconst (v := iI 4) hx hb dX5_countStep_39 (by decide +kernel) ?_
    refine n_isub hx hb dX5_countStep_40 ?_
    refine n_iald (n := 5) hx hb hK.1 hP 5 0 rfl rfl (by omega) (by decide) dX5_countStep_41 ?_
    refine n_iadd hx hb dX5_countStep_42 ?_
    refine n_iast (n := 5) hx hb hK.1 hP hD hS 5 0 rfl rfl (by omega) (by decide) dX5_countStep_43 (fun H locs hP hD hS => ?_)
    have hP : va_P D vwCl (W_T_P cI cS b a tk tg tl to (updI ta f ((ta f) + (actC cnt tl ta v))) (updI te f ((te f) + (te (v - 4)))) ts tr a cnt lv kd gd ln st) H := hP
    have hD : va_D A (W_T_P cI cS b a tk tg tl to (updI ta f ((ta f) + (actC cnt tl ta v))) (updI te f ((te f) + (te (v - 4)))) ts tr a cnt lv kd gd ln st) := hD
    exact W.vret hx hb hr (fun t ht hW => ⟨⟨((updI ta f ((ta f) + (actC cnt tl ta v))), (updI te f ((te f) + (te (v - 4))))), rfl, ⟨(by (try dsimp only); exact ⟨fun j hj => updI_n hj, updI_s _ _ _⟩), (by (try dsimp only); exact (by first | (rw [if_pos (by omega)]; exact ⟨fun j hj => updI_n hj, updI_s _ _ _⟩) | (rw [if_neg (by omega)]; exact ⟨fun j hj => rfl, (Int.add_zero _).symm⟩)))⟩, by rw [ht]; exact hP, hD⟩, hS.F ht⟩) hS.2.2 dX5_countStep_44
set_option maxHeartbeats 4000000 in
set_option maxRecDepth 100000 in
theorem c_X5_settle (l : Launch) (D : va_G) (cI cS : ClassId) (b : Nat → Nat) (a : Nat → Nat) (tk : Int → Int) (tg : Int → Int) (tl : Int) (to : Int → Int) (ta : Int → Int) (te : Int → Int) (ts : Int → Int) (tr : Int → Int) (cnt : Int) (lv : Int) (kd : Int → Int) (gd : Int → Int) (ln : Int → Int) (st : Int → Int) (sz : Nat) (f : Int) (hok : okP cnt ln st) (hkk : okK cnt tk tg tl) (hf : 0 ≤ f ∧ f < cnt) (htab : Tab f (sem tk tg tl ln st) to ta te ts) : Met l yX5_settle wsX5_settle ({ frames := 3, cells := 0, slots := 0, locals := 65 }) (cP D cI cS (W_T_P cI cS b a tk tg tl to ta te ts tr a cnt lv kd gd ln st) sz [.ref (b 0), .int (iI f)]) (va_Qv (fun (u : Unit) => True) (fun (u : Unit) t => cB D (va_A (W_T_P cI cS b a tk tg tl to ta te ts tr a cnt lv kd gd ln st) sz) (W_T_P cI cS b a tk tg tl (updI to f (sem tk tg tl ln st f).1) (updI ta f ((sem tk tg tl ln st f).2.1.length : Int)) (updI te f (sem tk tg tl ln st f).2.2.1) (updI ts f (srcR (sem tk tg tl ln st f))) tr a cnt lv kd gd ln st) t) (va_A (W_T_P cI cS b a tk tg tl to ta te ts tr a cnt lv kd gd ln st) sz)) 0 0 (va_A (W_T_P cI cS b a tk tg tl to ta te ts tr a cnt lv kd gd ln st) sz) := by
  refine Met.ofW (cc := cX5_settle) (maxL := 5) (ret := none) (by decide) rfl ?_
  intro p e s m args below meth c_ s₁ B hml hv
  obtain ⟨rfl, hsz, hP, hK, hD0⟩ := hv
  have hx := B.exec
  have hb := B.bytes
  have hr := B.returns
  have hts := atoms_spec (ws := wsX5_settle) B.pre
  have hown : s.vm.findClass RX5 = some m.cls := findClass_of_methodNamed B.named
  have hlocks := B.notSynchronized
  subst hsz
  have hD := hD0.self (sz := s.heap.size)
  generalize hAe : va_A (W_T_P cI cS b a tk tg tl to ta te ts tr a cnt lv kd gd ln st) s.heap.size = A at hD ⊢
  have hA : ∀ q : Nat, s.heap.size ≤ q → A q := fun q h => by rw [← hAe]; exact Or.inr h
  have hS : va_S A s.heap s.heap [] := va_S.rf
  have hP : va_P D vwCl (W_T_P cI cS b a tk tg tl to ta te ts tr a cnt lv kd gd ln st) s.heap := hP
  have hl := lv_entry ([.ref (b 0), .int (iI f)] : List Value) (n := 5) (Nat.le_of_ble_eq_true rfl)
  rw [lg_entry_eq]
  generalize (lg_sl ([.ref (b 0), .int (iI f)] : List Value) ++ List.replicate (5 - (lg_sl ([.ref (b 0), .int (iI f)] : List Value)).length) Slot.unset).toArray = ls at hl ⊢
  have hl : lv_has ls 5 [(0, .ref (b 0)), (1, .int (iI f))] := hl
  have fl_29 := hts (.fieldLink RX5 29 "ActRows$Trial" "outs" "[I") (by decide +kernel)
  have iw_5 : ∀ w ∈ wsX50, w ∈ wsX5_settle := by decide +kernel
  have fl_38 := hts (.fieldLink RX5 38 "ActRows$Trial" "sources" "[I") (by decide +kernel)
  have fl_32 := hts (.fieldLink RX5 32 "ActRows$Trial" "actCounts" "[I") (by decide +kernel)
  have fl_35 := hts (.fieldLink RX5 35 "ActRows$Trial" "endCounts" "[I") (by decide +kernel)
  have fl_12 := hts (.fieldLink RX5 12 "ActRows$Trial" "program" "LActRows$Program;") (by decide +kernel)
  have fn_63 := va_Nw.use (A := ([.ref (b 0), .int (iI f)] : List Value).toArray) rfl (hK.2 ("ActRows$Trial", 63, "ActRows$Program", "lengths", "[I") (List.mem_of_getElem? (i := 31) rfl))
  have iw_1 : ∀ w ∈ wsX10, w ∈ wsX5_settle := by decide +kernel
  have fl_18 := hts (.fieldLink RX5 18 "ActRows$Trial" "kinds" "[I") (by decide +kernel)
  have hc := hok.1
  have hln := hok.2.1
  have hL := hkk.2
  have hlf := hln f hf.1 hf.2
  have hkf := hkk.1 f hf.1 hf.2
  refine lv_aload_n hx hb dX5_settle_0 rfl (lv_at hl 0 rfl) ?_
  refine va_get (D := D) (ci := 5) (v := .ref (b 3)) (C := RX5) (T := TX5) (N := 9) hx hb hts iw_5 hown hK.1 hP 0 rfl rfl 4 (by decide) fl_29 (fun _ h9 => h9) rfl dX5_settle_1 ?_
  refine lv_iload_n hx hb dX5_settle_4 rfl (lv_at hl 1 rfl) ?_
  refine lv_iconst (v := iI 4) hx hb dX5_settle_5 (by decide +kernel) ?_
  refine n_iast (n := 5) hx hb hK.1 hP hD hS 3 0 rfl rfl (by omega) (by decide) dX5_settle_6 (fun H locs hP hD hS => ?_)
  have hP : va_P D vwCl (W_T_P cI cS b a tk tg tl (updI to f 4) ta te ts tr a cnt lv kd gd ln st) H := hP
  have hD : va_D A (W_T_P cI cS b a tk tg tl (updI to f 4) ta te ts tr a cnt lv kd gd ln st) := hD
  refine lv_aload_n hx hb dX5_settle_7 rfl (lv_at hl 0 rfl) ?_
  refine va_get (D := D) (ci := 5) (v := .ref (b 6)) (C := RX5) (T := TX5) (N := 9) hx hb hts iw_5 hown hK.1 hP 0 rfl rfl 7 (by decide) fl_38 (fun _ h9 => h9) rfl dX5_settle_8 ?_
  refine lv_iload_n hx hb dX5_settle_11 rfl (lv_at hl 1 rfl) ?_
  refine lv_iconst (v := iI (-1)) hx hb dX5_settle_12 (by decide +kernel) ?_
  refine n_iast (n := 5) hx hb hK.1 hP hD hS 6 0 rfl rfl (by omega) (by decide) dX5_settle_13 (fun H locs hP hD hS => ?_)
  have hP : va_P D vwCl (W_T_P cI cS b a tk tg tl (updI to f 4) ta te (updI ts f (-1)) tr a cnt lv kd gd ln st) H := hP
  have hD : va_D A (W_T_P cI cS b a tk tg tl (updI to f 4) ta te (updI ts f (-1)) tr a cnt lv kd gd ln st) := hD
  refine lv_aload_n hx hb dX5_settle_14 rfl (lv_at hl 0 rfl) ?_
  refine va_get (D := D) (ci := 5) (v := .ref (b 4)) (C := RX5) (T := TX5) (N := 9) hx hb hts iw_5 hown hK.1 hP 0 rfl rfl 5 (by decide) fl_32 (fun _ h9 => h9) rfl dX5_settle_15 ?_
  refine lv_iload_n hx hb dX5_settle_18 rfl (lv_at hl 1 rfl) ?_
  refine lv_iconst (v := iI 0) hx hb dX5_settle_19 (by decide +kernel) ?_
  refine n_iast (n := 5) hx hb hK.1 hP hD hS 4 0 rfl rfl (by omega) (by decide) dX5_settle_20 (fun H locs hP hD hS => ?_)
  have hP : va_P D vwCl (W_T_P cI cS b a tk tg tl (updI to f 4) (updI ta f 0) te (updI ts f (-1)) tr a cnt lv kd gd ln st) H := hP
  have hD : va_D A (W_T_P cI cS b a tk tg tl (updI to f 4) (updI ta f 0) te (updI ts f (-1)) tr a cnt lv kd gd ln st) := hD
  refine lv_aload_n hx hb dX5_settle_21 rfl (lv_at hl 0 rfl) ?_
  refine va_get (D := D) (ci := 5) (v := .ref (b 5)) (C := RX5) (T := TX5) (N := 9) hx hb hts iw_5 hown hK.1 hP 0 rfl rfl 6 (by decide) fl_35 (fun _ h9 => h9) rfl dX5_settle_22 ?_
  refine lv_iload_n hx hb dX5_settle_25 rfl (lv_at hl 1 rfl) ?_
  refine lv_iconst (v := iI 1) hx hb dX5_settle_26 (by decide +kernel) ?_
  refine n_iast (n := 5) hx hb hK.1 hP hD hS 5 0 rfl rfl (by omega) (by decide) dX5_settle_27 (fun H locs hP hD hS => ?_)
  have hP : va_P D vwCl (W_T_P cI cS b a tk tg tl (updI to f 4) (updI ta f 0) (updI te f 1) (updI ts f (-1)) tr a cnt lv kd gd ln st) H := hP
  have hD : va_D A (W_T_P cI cS b a tk tg tl (updI to f 4) (updI ta f 0) (updI te f 1) (updI ts f (-1)) tr a cnt lv kd gd ln st) := hD
  refine lv_iconst (v := iI 0) hx hb dX5_settle_28 (by decide +kernel) ?_
  refine lv_istore_n (lv' := [(2, .int (iI 0)), (0, .ref (b 0)), (1, .int (iI f))]) hx hb dX5_settle_29 rfl hl (by decide) rfl (fun ls hl => ?_)
  refine x_loop (σ := Int × (Int → Int) × (Int → Int)) (fun (xv_ : Int × (Int → Int) × (Int → Int)) => match xv_ with | (i, ta1, te1) => (0 ≤ i ∧ i ≤ ln f) ∧ (∀ j : Int, j ≠ f → ta1 j = ta j) ∧ (∀ j : Int, j ≠ f → te1 j = te j) ∧ (settleInv (sem tk tg tl ln st f) (goR (tk f) (tg f) tl (fun i => st (f * 4 + i)) (sem tk tg tl ln st) (ln f - i).toNat i) f (ta1 f) (te1 f))) (fun (xv_ : Int × (Int → Int) × (Int → Int)) => match xv_ with | (i, ta1, te1) => (ln f - i).toNat) (fun (xv_ : Int × (Int → Int) × (Int → Int)) => match xv_ with | (i, ta1, te1) => (W_T_P cI cS b a tk tg tl (updI to f 4) ta1 te1 (updI ts f (-1)) tr a cnt lv kd gd ln st)) (fun (xv_ : Int × (Int → Int) × (Int → Int)) => match xv_ with | (i, ta1, te1) => [(2, .int (iI i)), (0, .ref (b 0)), (1, .int (iI f))]) (nL := 5) ?step_1 (0, (updI ta f 0), (updI te f 1)) (by (try dsimp only); exact ⟨by omega, fun j hj => updI_n hj, fun j hj => updI_n hj, by rw [updI_s, updI_s]; exact settle_i hok hf.1 hf.2⟩) hP hD hS (lv_sub hl [0, 1, 2] rfl)
  case step_1 =>
    intro xv_ hI ih H locs ls hP hD hS hl
    obtain ⟨i, ta1, te1⟩ := xv_
    try dsimp only at hI ih
    obtain ⟨hi, hA0, hE0, hI⟩ := hI
    have hP : va_P D vwCl (W_T_P cI cS b a tk tg tl (updI to f 4) ta1 te1 (updI ts f (-1)) tr a cnt lv kd gd ln st) H := hP
    have hD : va_D A (W_T_P cI cS b a tk tg tl (updI to f 4) ta1 te1 (updI ts f (-1)) tr a cnt lv kd gd ln st) := hD
    have hl : lv_has ls 5 [(2, .int (iI i)), (0, .ref (b 0)), (1, .int (iI f))] := hl
    have htab1 : Tab f (sem tk tg tl ln st) (updI to f 4) ta1 te1 (updI ts f (-1)) := htab.upto (Int.le_refl f) (fun j hj => ⟨updI_n hj, hA0 j hj, hE0 j hj, updI_n hj⟩)
    have ih_2 := ih
    refine lv_iload_n hx hb dX5_settle_30 rfl (lv_at hl 0 rfl) ?_
    refine lv_aload_n hx hb dX5_settle_31 rfl (lv_at hl 1 rfl) ?_
    refine va_get (D := D) (ci := 5) (v := .ref (a 0)) (C := RX5) (T := TX5) (N := 9) hx hb hts iw_5 hown hK.1 hP 0 rfl rfl 0 (by decide) fl_12 (fun _ h9 => h9) rfl dX5_settle_32 ?_
    refine va_getN (D := D) (ci := 1) (v := .ref (a 3)) (C := RX1) (T := TX1) (N := 6) hx hb hts iw_1 hown hK.1 hP 8 rfl rfl 2 (by decide) fn_63 (fun _ h9 => h9) rfl dX5_settle_35 ?_
    refine lv_iload_n hx hb dX5_settle_38 rfl (lv_at hl 2 rfl) ?_
    refine n_iald (n := 5) hx hb hK.1 hP 11 0 rfl rfl (by omega) (by decide) dX5_settle_39 ?_
    refine n_icmp_ge (tgt := 129) hx hb dX5_settle_40 (by decide) (by omega) (fun c_3 => ?_) (fun c_3 => ?_)
    ·
      have hfin := settle_e (by omega) hI
      have hsr := srcR_no hfin.2.1
      have e_4 : ((updI to f 4) : Int → Int) = (updI to f (sem tk tg tl ln st f).1) := (by rw [hfin.1])
      have hP : va_P D vwCl (W_T_P cI cS b a tk tg tl (updI to f (sem tk tg tl ln st f).1) ta1 te1 (updI ts f (-1)) tr a cnt lv kd gd ln st) H := Eq.mp (congrArg (fun z_ => va_P D vwCl (W_T_P cI cS b a tk tg tl z_ ta1 te1 (updI ts f (-1)) tr a cnt lv kd gd ln st) H) e_4) hP
      have hD : va_D A (W_T_P cI cS b a tk tg tl (updI to f (sem tk tg tl ln st f).1) ta1 te1 (updI ts f (-1)) tr a cnt lv kd gd ln st) := Eq.mp (congrArg (fun z_ => va_D A (W_T_P cI cS b a tk tg tl z_ ta1 te1 (updI ts f (-1)) tr a cnt lv kd gd ln st)) e_4) hD
      have e_5 : (ta1 : Int → Int) = (updI ta f ((sem tk tg tl ln st f).2.1.length : Int)) := (by rw [hfin.2.2.1]; exact updI_of hA0)
      have hP : va_P D vwCl (W_T_P cI cS b a tk tg tl (updI to f (sem tk tg tl ln st f).1) (updI ta f ((sem tk tg tl ln st f).2.1.length : Int)) te1 (updI ts f (-1)) tr a cnt lv kd gd ln st) H := Eq.mp (congrArg (fun z_ => va_P D vwCl (W_T_P cI cS b a tk tg tl (updI to f (sem tk tg tl ln st f).1) z_ te1 (updI ts f (-1)) tr a cnt lv kd gd ln st) H) e_5) hP
      have hD : va_D A (W_T_P cI cS b a tk tg tl (updI to f (sem tk tg tl ln st f).1) (updI ta f ((sem tk tg tl ln st f).2.1.length : Int)) te1 (updI ts f (-1)) tr a cnt lv kd gd ln st) := Eq.mp (congrArg (fun z_ => va_D A (W_T_P cI cS b a tk tg tl (updI to f (sem tk tg tl ln st f).1) z_ te1 (updI ts f (-1)) tr a cnt lv kd gd ln st)) e_5) hD
      have e_6 : (te1 : Int → Int) = (updI te f (sem tk tg tl ln st f).2.2.1) := (by rw [hfin.2.2.2]; exact updI_of hE0)
      have hP : va_P D vwCl (W_T_P cI cS b a tk tg tl (updI to f (sem tk tg tl ln st f).1) (updI ta f ((sem tk tg tl ln st f).2.1.length : Int)) (updI te f (sem tk tg tl ln st f).2.2.1) (updI ts f (-1)) tr a cnt lv kd gd ln st) H := Eq.mp (congrArg (fun z_ => va_P D vwCl (W_T_P cI cS b a tk tg tl (updI to f (sem tk tg tl ln st f).1) (updI ta f ((sem tk tg tl ln st f).2.1.length : Int)) z_ (updI ts f (-1)) tr a cnt lv kd gd ln st) H) e_6) hP
      have hD : va_D A (W_T_P cI cS b a tk tg tl (updI to f (sem tk tg tl ln st f).1) (updI ta f ((sem tk tg tl ln st f).2.1.length : Int)) (updI te f (sem tk tg tl ln st f).2.2.1) (updI ts f (-1)) tr a cnt lv kd gd ln st) := Eq.mp (congrArg (fun z_ => va_D A (W_T_P cI cS b a tk tg tl (updI to f (sem tk tg tl ln st f).1) (updI ta f ((sem tk tg tl ln st f).2.1.length : Int)) z_ (updI ts f (-1)) tr a cnt lv kd gd ln st)) e_6) hD
      have e_7 : ((updI ts f (-1)) : Int → Int) = (updI ts f (srcR (sem tk tg tl ln st f))) := (by rw [hsr])
      have hP : va_P D vwCl (W_T_P cI cS b a tk tg tl (updI to f (sem tk tg tl ln st f).1) (updI ta f ((sem tk tg tl ln st f).2.1.length : Int)) (updI te f (sem tk tg tl ln st f).2.2.1) (updI ts f (srcR (sem tk tg tl ln st f))) tr a cnt lv kd gd ln st) H := Eq.mp (congrArg (fun z_ => va_P D vwCl (W_T_P cI cS b a tk tg tl (updI to f (sem tk tg tl ln st f).1) (updI ta f ((sem tk tg tl ln st f).2.1.length : Int)) (updI te f (sem tk tg tl ln st f).2.2.1) z_ tr a cnt lv kd gd ln st) H) e_7) hP
      have hD : va_D A (W_T_P cI cS b a tk tg tl (updI to f (sem tk tg tl ln st f).1) (updI ta f ((sem tk tg tl ln st f).2.1.length : Int)) (updI te f (sem tk tg tl ln st f).2.2.1) (updI ts f (srcR (sem tk tg tl ln st f))) tr a cnt lv kd gd ln st) := Eq.mp (congrArg (fun z_ => va_D A (W_T_P cI cS b a tk tg tl (updI to f (sem tk tg tl ln st f).1) (updI ta f ((sem tk tg tl ln st f).2.1.length : Int)) (updI te f (sem tk tg tl ln st f).2.2.1) z_ tr a cnt lv kd gd ln st)) e_7) hD
      exact W.vret hx hb hr (fun t ht hW => ⟨⟨(), rfl, trivial, by rw [ht]; exact hP, hD⟩, hS.F ht⟩) hS.2.2 dX5_settle_129
    ·
      refine lv_aload_n hx hb dX5_settle_43 rfl (lv_at hl 1 rfl) ?_
      refine va_get (D := D) (ci := 5) (v := .ref (a 0)) (C := RX5) (T := TX5) (N := 9) hx hb hts iw_5 hown hK.1 hP 0 rfl rfl 0 (by decide) fl_12 (fun _ h9 => h9) rfl dX5_settle_44 ?_
      refine lv_iload_n hx hb dX5_settle_47 rfl (lv_at hl 2 rfl) ?_
      refine lv_iload_n hx hb dX5_settle_48 rfl (lv_at hl 0 rfl) ?_
      refine x_callVi (As := [.int (iI f), .int (iI i)]) (rest := []) ⟨hx, hb, hml, hown, hts⟩ (c_X1_stepAt l D cI cS a cnt lv kd gd ln st H.size f i (by first | assumption | omega) (by first | assumption | omega) (by first | assumption | omega) (by first | assumption | omega)) (cwV 2 hts gX5_settle_X1_stepAt rfl rfl rfl (by decide +kernel) ⟨Nat.le_of_ble_eq_true rfl, Nat.le_of_ble_eq_true rfl⟩) hK hP hD hS hA [8, 9, 10, 11, 12] [0, 1, 2, 3, 4, 5, 6, 7] (wr := [(b 0, .inr (5, [.ref (a 0), .ref (b 1), .ref (b 2), .int (iI tl), .ref (b 3), .ref (b 4), .ref (b 5), .ref (b 6), .ref (b 7)])), (b 1, .inl (cI, 5, .inl (aI tk))), (b 2, .inl (cI, 5, .inl (aI tg))), (b 3, .inl (cI, 5, .inl (aI (updI to f 4)))), (b 4, .inl (cI, 5, .inl (aI ta1))), (b 5, .inl (cI, 5, .inl (aI te1))), (b 6, .inl (cI, 5, .inl (aI (updI ts f (-1))))), (b 7, .inl (cI, 5, .inl (aI tr)))]) rfl rfl (by decide) (by decide) (by decide) 0 1 rfl rfl rfl [0, 1, 2, 3, 4, 5, 6, 7, 8, 9, 10, 11, 12] (fun (u : Unit) => (W_T_P cI cS b a tk tg tl (updI to f 4) ta1 te1 (updI ts f (-1)) tr a cnt lv kd gd ln st)) (fun _ => rfl) (by decide) rfl hl.1 rfl (Nat.le_of_ble_eq_true rfl) ⟨Nat.zero_le _, Nat.zero_le _⟩ dX5_settle_49 (fun r_ u_ H locs hw hP hD hS => ?_)
      try dsimp only at hw
      subst hw
      have hP : va_P D vwCl (W_T_P cI cS b a tk tg tl (updI to f 4) ta1 te1 (updI ts f (-1)) tr a cnt lv kd gd ln st) H := hP
      have hD : va_D A (W_T_P cI cS b a tk tg tl (updI to f 4) ta1 te1 (updI ts f (-1)) tr a cnt lv kd gd ln st) := hD
      obtain ⟨v, h_v⟩ : ∃ z_ : Int, z_ = (if 0 ≤ f ∧ f < cnt ∧ 0 ≤ i ∧ i < ln f then st (f * 4 + i) else (-1)) := ⟨_, rfl⟩
      rw [← h_v]
      have hvv : v = st (f * 4 + i) := by rw [h_v, if_pos (by omega)]
      have hvr := hok.2.2 f hf.1 hf.2 i hi.1 (by omega)
      rw [← hvv] at hvr
      have hI2 := hI
      rw [goR_s (show i < ln f by omega)] at hI2
      refine lv_istore_n (lv' := [(3, .int (iI v)), (2, .int (iI i)), (0, .ref (b 0)), (1, .int (iI f))]) hx hb dX5_settle_52 rfl hl (by decide) rfl (fun ls hl => ?_)
      refine lv_aload_n hx hb dX5_settle_53 rfl (lv_at hl 2 rfl) ?_
      refine lv_iload_n hx hb dX5_settle_54 rfl (lv_at hl 0 rfl) ?_
      refine x_callVi (As := [.int (iI v)]) (rest := []) ⟨hx, hb, hml, hown, hts⟩ (c_X5_outOfStep l D cI cS b a tk tg tl (updI to f 4) ta1 te1 (updI ts f (-1)) tr cnt lv kd gd ln st H.size v (by first | assumption | omega) (by first | assumption | omega) (by first | assumption | omega)) (cwV 1 hts gX5_settle_X5_outOfStep rfl rfl rfl (by decide +kernel) ⟨Nat.le_of_ble_eq_true rfl, Nat.le_of_ble_eq_true rfl⟩) hK hP hD hS hA [0, 1, 2, 3, 4, 5, 6, 7, 8, 9, 10, 11, 12] [] (wr := ([] : va_W)) rfl rfl (by decide) (by decide) (by decide) 0 5 rfl rfl rfl [0, 1, 2, 3, 4, 5, 6, 7, 8, 9, 10, 11, 12] (fun (u : Unit) => (W_T_P cI cS b a tk tg tl (updI to f 4) ta1 te1 (updI ts f (-1)) tr a cnt lv kd gd ln st)) (fun _ => rfl) (by decide) rfl hl.1 rfl (Nat.le_of_ble_eq_true rfl) ⟨Nat.zero_le _, Nat.zero_le _⟩ dX5_settle_55 (fun r_ u_ H locs hw hP hD hS => ?_)
      try dsimp only at hw
      subst hw
      have hP : va_P D vwCl (W_T_P cI cS b a tk tg tl (updI to f 4) ta1 te1 (updI ts f (-1)) tr a cnt lv kd gd ln st) H := hP
      have hD : va_D A (W_T_P cI cS b a tk tg tl (updI to f 4) ta1 te1 (updI ts f (-1)) tr a cnt lv kd gd ln st) := hD
      obtain ⟨x, h_x⟩ : ∃ z_ : Int, z_ = (outC cnt tl (updI to f 4) v) := ⟨_, rfl⟩
      rw [← h_x]
      have hxx : x = (stepR tl (sem tk tg tl ln st) (st (f * 4 + i))).1 := by rw [h_x, outC_s htab1 hvr hf.2, hvv]
      have hxr : 0 ≤ x ∧ x ≤ 4 := by
        rw [hxx]; unfold stepR; rw [← hvv]
        by_cases c4 : 4 ≤ v
        · rw [if_pos c4]; exact (sem_ok (K := tk) (G := tg) (L := tl) hok (v - 4) (by omega) (by omega)).1
        · rw [if_neg c4]; split
          · exact ⟨by show 0 ≤ v; omega, by show v ≤ 4; omega⟩
          · exact r44
      refine lv_istore (lv' := [(4, .int (iI x)), (3, .int (iI v)), (2, .int (iI i)), (0, .ref (b 0)), (1, .int (iI f))]) hx hb dX5_settle_58 hl (by decide) rfl (fun ls hl => ?_)
      refine lv_aload_n hx hb dX5_settle_60 rfl (lv_at hl 3 rfl) ?_
      refine lv_iload_n hx hb dX5_settle_61 rfl (lv_at hl 4 rfl) ?_
      refine lv_iload_n hx hb dX5_settle_62 rfl (lv_at hl 1 rfl) ?_
      refine x_callVv (As := [.int (iI f), .int (iI v)]) (rest := []) ⟨hx, hb, hml, hown, hts⟩ (c_X5_countStep l D cI cS b a tk tg tl (updI to f 4) ta1 te1 (updI ts f (-1)) tr cnt lv kd gd ln st H.size f v (by first | assumption | omega) (by first | assumption | omega) (by first | assumption | omega) (by first | assumption | omega)) (cwV 2 hts gX5_settle_X5_countStep rfl rfl rfl (by decide +kernel) ⟨Nat.le_of_ble_eq_true rfl, Nat.le_of_ble_eq_true rfl⟩) hK hP hD hS hA [0, 1, 2, 3, 4, 5, 6, 7, 8, 9, 10, 11, 12] [] (wr := ([] : va_W)) rfl rfl (by decide) (by decide) (by decide) 0 5 rfl rfl rfl [0, 1, 2, 3, 4, 5, 6, 7, 8, 9, 10, 11, 12] (fun (u : (Int → Int) × (Int → Int)) => (W_T_P cI cS b a tk tg tl (updI to f 4) u.1 u.2 (updI ts f (-1)) tr a cnt lv kd gd ln st)) (fun _ => rfl) (by decide) rfl hl.1 rfl (Nat.le_of_ble_eq_true rfl) ⟨Nat.zero_le _, Nat.zero_le _⟩ dX5_settle_63 (fun u_ H locs hw hP hD hS => ?_)
      obtain ⟨ta_8, te_9⟩ := u_
      try dsimp only at hw
      obtain ⟨hA2, hE2⟩ := hw
      have hP : va_P D vwCl (W_T_P cI cS b a tk tg tl (updI to f 4) ta_8 te_9 (updI ts f (-1)) tr a cnt lv kd gd ln st) H := hP
      have hD : va_D A (W_T_P cI cS b a tk tg tl (updI to f 4) ta_8 te_9 (updI ts f (-1)) tr a cnt lv kd gd ln st) := hD
      refine lv_iload hx hb dX5_settle_66 (lv_at hl 0 rfl) ?_
      refine lv_iconst (v := iI 4) hx hb dX5_settle_68 (by decide +kernel) ?_
      refine n_icmp_ne (tgt := 75) hx hb dX5_settle_69 (by decide) (by omega) (fun c_10 => ?_) (fun c_10 => ?_)
      ·
        refine lv_aload_n hx hb dX5_settle_75 rfl (lv_at hl 3 rfl) ?_
        refine lv_iload_n hx hb dX5_settle_76 rfl (lv_at hl 4 rfl) ?_
        refine lv_iload hx hb dX5_settle_77 (lv_at hl 0 rfl) ?_
        refine x_callVi (As := [.int (iI f), .int (iI x)]) (rest := []) ⟨hx, hb, hml, hown, hts⟩ (c_X5_guardsAgainst l D cI cS b a tk tg tl (updI to f 4) ta_8 te_9 (updI ts f (-1)) tr H.size f x (by first | assumption | omega) (by first | assumption | omega) (by first | assumption | omega) (by first | assumption | omega)) (cwV 2 hts gX5_settle_X5_guardsAgainst rfl rfl rfl (by decide +kernel) ⟨Nat.le_of_ble_eq_true rfl, Nat.le_of_ble_eq_true rfl⟩) hK hP hD hS hA [0, 1, 2, 3, 4, 5, 6, 7] [8, 9, 10, 11, 12] (wr := [(a 0, .inr (1, [.ref (a 1), .ref (a 2), .ref (a 3), .ref (a 4), .int (iI cnt), .int (iI lv)])), (a 1, .inl (cI, 5, .inl (aI kd))), (a 2, .inl (cI, 5, .inl (aI gd))), (a 3, .inl (cI, 5, .inl (aI ln))), (a 4, .inl (cI, 20, .inl (aI st)))]) rfl rfl (by decide) (by decide) (by decide) 0 5 rfl rfl rfl [5, 6, 7, 8, 9, 10, 11, 12, 0, 1, 2, 3, 4] (fun (u : Unit) => (W_T_P cI cS b a tk tg tl (updI to f 4) ta_8 te_9 (updI ts f (-1)) tr a cnt lv kd gd ln st)) (fun _ => rfl) (by decide) rfl hl.1 rfl (Nat.le_of_ble_eq_true rfl) ⟨Nat.zero_le _, Nat.zero_le _⟩ dX5_settle_79 (fun r_ u_ H locs hw hP hD hS => ?_)
        try dsimp only at hw
        subst hw
        have hP : va_P D vwCl (W_T_P cI cS b a tk tg tl (updI to f 4) ta_8 te_9 (updI ts f (-1)) tr a cnt lv kd gd ln st) H := hP
        have hD : va_D A (W_T_P cI cS b a tk tg tl (updI to f 4) ta_8 te_9 (updI ts f (-1)) tr a cnt lv kd gd ln st) := hD
        refine n_if_b2 (tgt := 112) hx hb dX5_settle_82 (by decide)  (fun c_11 => ?_) (fun c_11 => ?_)
        ·
          refine lv_aload_n hx hb dX5_settle_112 rfl (lv_at hl 3 rfl) ?_
          refine va_get (D := D) (ci := 5) (v := .ref (b 1)) (C := RX5) (T := TX5) (N := 9) hx hb hts iw_5 hown hK.1 hP 0 rfl rfl 1 (by decide) fl_18 (fun _ h9 => h9) rfl dX5_settle_113 ?_
          refine lv_iload_n hx hb dX5_settle_116 rfl (lv_at hl 4 rfl) ?_
          refine n_iald (n := 5) hx hb hK.1 hP 1 0 rfl rfl (by omega) (by decide) dX5_settle_117 ?_
          refine lv_iconst (v := iI 1) hx hb dX5_settle_118 (by decide +kernel) ?_
          refine n_icmp_ne (tgt := 123) hx hb dX5_settle_119 (by decide) (by omega) (fun c_12 => ?_) (fun c_12 => ?_)
          ·
            have hgo : (stepR tl (sem tk tg tl ln st) (st (f * 4 + i))).1 = 4 ∨ (tk f ≠ 0 ∧ tg f = (stepR tl (sem tk tg tl ln st) (st (f * 4 + i))).1) ∧ tk f ≠ 1 := Or.inr ⟨by rw [← hxx]; assumption, by assumption⟩
            refine n_iinc (lv' := [(2, .int (iI (i + 1))), (4, .int (iI x)), (3, .int (iI v)), (0, .ref (b 0)), (1, .int (iI f))]) hx hb dX5_settle_123 hl (k := 2) rfl (by decide) rfl (fun ls hl => ?_)
            refine lv_goto (tgt := 30) hx hb dX5_settle_126 (by decide) ?_
            exact ih_2 ((i + 1), ta_8, te_9) (by (try dsimp only); exact ⟨by omega, fun j hj => (hA2.1 j hj).trans (hA0 j hj), fun j hj => (hE2.1 j hj).trans (hE0 j hj), by rw [hA2.2, hE2.2, actC_s htab1 hvr hf.2, endC_s (L := tl) htab1 hvr hf.2, hvv]; exact settle_c hI2 hgo⟩) (by (try dsimp only); exact (by omega)) _ _ _ hP hD hS (lv_sub hl [0, 3, 4] rfl)
          ·
            have hfin := settle_l hI2 (by rw [← hxx]; assumption) (by rw [← hxx]; assumption) (by omega)
            have hsr := srcR_no hfin.2.1
            have e_13 : ((updI to f 4) : Int → Int) = (updI to f (sem tk tg tl ln st f).1) := (by rw [hfin.1])
            have hP : va_P D vwCl (W_T_P cI cS b a tk tg tl (updI to f (sem tk tg tl ln st f).1) ta_8 te_9 (updI ts f (-1)) tr a cnt lv kd gd ln st) H := Eq.mp (congrArg (fun z_ => va_P D vwCl (W_T_P cI cS b a tk tg tl z_ ta_8 te_9 (updI ts f (-1)) tr a cnt lv kd gd ln st) H) e_13) hP
            have hD : va_D A (W_T_P cI cS b a tk tg tl (updI to f (sem tk tg tl ln st f).1) ta_8 te_9 (updI ts f (-1)) tr a cnt lv kd gd ln st) := Eq.mp (congrArg (fun z_ => va_D A (W_T_P cI cS b a tk tg tl z_ ta_8 te_9 (updI ts f (-1)) tr a cnt lv kd gd ln st)) e_13) hD
            have e_14 : (ta_8 : Int → Int) = (updI ta f ((sem tk tg tl ln st f).2.1.length : Int)) := (by rw [hfin.2.2.1, ← hvv, ← actC_s htab1 hvr hf.2, ← hA2.2]; exact updI_of (fun j hj => (hA2.1 j hj).trans (hA0 j hj)))
            have hP : va_P D vwCl (W_T_P cI cS b a tk tg tl (updI to f (sem tk tg tl ln st f).1) (updI ta f ((sem tk tg tl ln st f).2.1.length : Int)) te_9 (updI ts f (-1)) tr a cnt lv kd gd ln st) H := Eq.mp (congrArg (fun z_ => va_P D vwCl (W_T_P cI cS b a tk tg tl (updI to f (sem tk tg tl ln st f).1) z_ te_9 (updI ts f (-1)) tr a cnt lv kd gd ln st) H) e_14) hP
            have hD : va_D A (W_T_P cI cS b a tk tg tl (updI to f (sem tk tg tl ln st f).1) (updI ta f ((sem tk tg tl ln st f).2.1.length : Int)) te_9 (updI ts f (-1)) tr a cnt lv kd gd ln st) := Eq.mp (congrArg (fun z_ => va_D A (W_T_P cI cS b a tk tg tl (updI to f (sem tk tg tl ln st f).1) z_ te_9 (updI ts f (-1)) tr a cnt lv kd gd ln st)) e_14) hD
            have e_15 : (te_9 : Int → Int) = (updI te f (sem tk tg tl ln st f).2.2.1) := (by rw [hfin.2.2.2, ← hvv, ← endC_s htab1 hvr hf.2, ← hE2.2]; exact updI_of (fun j hj => (hE2.1 j hj).trans (hE0 j hj)))
            have hP : va_P D vwCl (W_T_P cI cS b a tk tg tl (updI to f (sem tk tg tl ln st f).1) (updI ta f ((sem tk tg tl ln st f).2.1.length : Int)) (updI te f (sem tk tg tl ln st f).2.2.1) (updI ts f (-1)) tr a cnt lv kd gd ln st) H := Eq.mp (congrArg (fun z_ => va_P D vwCl (W_T_P cI cS b a tk tg tl (updI to f (sem tk tg tl ln st f).1) (updI ta f ((sem tk tg tl ln st f).2.1.length : Int)) z_ (updI ts f (-1)) tr a cnt lv kd gd ln st) H) e_15) hP
            have hD : va_D A (W_T_P cI cS b a tk tg tl (updI to f (sem tk tg tl ln st f).1) (updI ta f ((sem tk tg tl ln st f).2.1.length : Int)) (updI te f (sem tk tg tl ln st f).2.2.1) (updI ts f (-1)) tr a cnt lv kd gd ln st) := Eq.mp (congrArg (fun z_ => va_D A (W_T_P cI cS b a tk tg tl (updI to f (sem tk tg tl ln st f).1) (updI ta f ((sem tk tg tl ln st f).2.1.length : Int)) z_ (updI ts f (-1)) tr a cnt lv kd gd ln st)) e_15) hD
            have e_16 : ((updI ts f (-1)) : Int → Int) = (updI ts f (srcR (sem tk tg tl ln st f))) := (by rw [hsr])
            have hP : va_P D vwCl (W_T_P cI cS b a tk tg tl (updI to f (sem tk tg tl ln st f).1) (updI ta f ((sem tk tg tl ln st f).2.1.length : Int)) (updI te f (sem tk tg tl ln st f).2.2.1) (updI ts f (srcR (sem tk tg tl ln st f))) tr a cnt lv kd gd ln st) H := Eq.mp (congrArg (fun z_ => va_P D vwCl (W_T_P cI cS b a tk tg tl (updI to f (sem tk tg tl ln st f).1) (updI ta f ((sem tk tg tl ln st f).2.1.length : Int)) (updI te f (sem tk tg tl ln st f).2.2.1) z_ tr a cnt lv kd gd ln st) H) e_16) hP
            have hD : va_D A (W_T_P cI cS b a tk tg tl (updI to f (sem tk tg tl ln st f).1) (updI ta f ((sem tk tg tl ln st f).2.1.length : Int)) (updI te f (sem tk tg tl ln st f).2.2.1) (updI ts f (srcR (sem tk tg tl ln st f))) tr a cnt lv kd gd ln st) := Eq.mp (congrArg (fun z_ => va_D A (W_T_P cI cS b a tk tg tl (updI to f (sem tk tg tl ln st f).1) (updI ta f ((sem tk tg tl ln st f).2.1.length : Int)) (updI te f (sem tk tg tl ln st f).2.2.1) z_ tr a cnt lv kd gd ln st)) e_16) hD
            exact W.vret hx hb hr (fun t ht hW => ⟨⟨(), rfl, trivial, by rw [ht]; exact hP, hD⟩, hS.F ht⟩) hS.2.2 dX5_settle_122
        ·
          have hfin := settle_o hI2 (by rw [← hxx]; assumption) (by rw [← hxx]; assumption)
          refine lv_aload_n hx hb dX5_settle_85 rfl (lv_at hl 3 rfl) ?_
          refine va_get (D := D) (ci := 5) (v := .ref (b 3)) (C := RX5) (T := TX5) (N := 9) hx hb hts iw_5 hown hK.1 hP 0 rfl rfl 4 (by decide) fl_29 (fun _ h9 => h9) rfl dX5_settle_86 ?_
          refine lv_iload_n hx hb dX5_settle_89 rfl (lv_at hl 4 rfl) ?_
          refine lv_iload hx hb dX5_settle_90 (lv_at hl 0 rfl) ?_
          refine n_iast (n := 5) hx hb hK.1 hP hD hS 3 0 rfl rfl (by omega) (by decide) dX5_settle_92 (fun H locs hP hD hS => ?_)
          have hP : va_P D vwCl (W_T_P cI cS b a tk tg tl (updI (updI to f 4) f x) ta_8 te_9 (updI ts f (-1)) tr a cnt lv kd gd ln st) H := hP
          have hD : va_D A (W_T_P cI cS b a tk tg tl (updI (updI to f 4) f x) ta_8 te_9 (updI ts f (-1)) tr a cnt lv kd gd ln st) := hD
          refine lv_aload_n hx hb dX5_settle_93 rfl (lv_at hl 3 rfl) ?_
          refine va_get (D := D) (ci := 5) (v := .ref (b 6)) (C := RX5) (T := TX5) (N := 9) hx hb hts iw_5 hown hK.1 hP 0 rfl rfl 7 (by decide) fl_38 (fun _ h9 => h9) rfl dX5_settle_94 ?_
          refine lv_iload_n hx hb dX5_settle_97 rfl (lv_at hl 4 rfl) ?_
          refine lv_iload_n hx hb dX5_settle_98 rfl (lv_at hl 1 rfl) ?_
          refine lv_iconst (v := iI 4) hx hb dX5_settle_99 (by decide +kernel) ?_
          refine n_icmp_ge (tgt := 107) hx hb dX5_settle_100 (by decide) (by omega) (fun c_17 => ?_) (fun c_17 => ?_)
          ·
            have hsr : srcR (sem tk tg tl ln st f) = v - 4 := by
              have hs4 : (stepR tl (sem tk tg tl ln st) (st (f * 4 + i))) = sem tk tg tl ln st (v - 4) := by rw [← hvv]; unfold stepR; rw [if_pos (by omega)]
              obtain ⟨q, hq⟩ := (sem_path (K := tk) (G := tg) (L := tl) hok (f := v - 4) (by omega) (by omega)).2 (by rw [← hs4, ← hxx]; omega)
              exact srcR_of (hfin.2.1.trans (by rw [hs4, hq]))
            refine lv_iload_n hx hb dX5_settle_107 rfl (lv_at hl 1 rfl) ?_
            refine lv_iconst (v := iI 4) hx hb dX5_settle_108 (by decide +kernel) ?_
            refine n_isub hx hb dX5_settle_109 ?_
            refine n_iast (n := 5) hx hb hK.1 hP hD hS 6 0 rfl rfl (by omega) (by decide) dX5_settle_110 (fun H locs hP hD hS => ?_)
            have hP : va_P D vwCl (W_T_P cI cS b a tk tg tl (updI (updI to f 4) f x) ta_8 te_9 (updI (updI ts f (-1)) f (v - 4)) tr a cnt lv kd gd ln st) H := hP
            have hD : va_D A (W_T_P cI cS b a tk tg tl (updI (updI to f 4) f x) ta_8 te_9 (updI (updI ts f (-1)) f (v - 4)) tr a cnt lv kd gd ln st) := hD
            have e_18 : ((updI (updI to f 4) f x) : Int → Int) = (updI to f (sem tk tg tl ln st f).1) := (by rw [updI_u, hfin.1, ← hxx])
            have hP : va_P D vwCl (W_T_P cI cS b a tk tg tl (updI to f (sem tk tg tl ln st f).1) ta_8 te_9 (updI (updI ts f (-1)) f (v - 4)) tr a cnt lv kd gd ln st) H := Eq.mp (congrArg (fun z_ => va_P D vwCl (W_T_P cI cS b a tk tg tl z_ ta_8 te_9 (updI (updI ts f (-1)) f (v - 4)) tr a cnt lv kd gd ln st) H) e_18) hP
            have hD : va_D A (W_T_P cI cS b a tk tg tl (updI to f (sem tk tg tl ln st f).1) ta_8 te_9 (updI (updI ts f (-1)) f (v - 4)) tr a cnt lv kd gd ln st) := Eq.mp (congrArg (fun z_ => va_D A (W_T_P cI cS b a tk tg tl z_ ta_8 te_9 (updI (updI ts f (-1)) f (v - 4)) tr a cnt lv kd gd ln st)) e_18) hD
            have e_19 : (ta_8 : Int → Int) = (updI ta f ((sem tk tg tl ln st f).2.1.length : Int)) := (by rw [hfin.2.2.1, ← hvv, ← actC_s htab1 hvr hf.2, ← hA2.2]; exact updI_of (fun j hj => (hA2.1 j hj).trans (hA0 j hj)))
            have hP : va_P D vwCl (W_T_P cI cS b a tk tg tl (updI to f (sem tk tg tl ln st f).1) (updI ta f ((sem tk tg tl ln st f).2.1.length : Int)) te_9 (updI (updI ts f (-1)) f (v - 4)) tr a cnt lv kd gd ln st) H := Eq.mp (congrArg (fun z_ => va_P D vwCl (W_T_P cI cS b a tk tg tl (updI to f (sem tk tg tl ln st f).1) z_ te_9 (updI (updI ts f (-1)) f (v - 4)) tr a cnt lv kd gd ln st) H) e_19) hP
            have hD : va_D A (W_T_P cI cS b a tk tg tl (updI to f (sem tk tg tl ln st f).1) (updI ta f ((sem tk tg tl ln st f).2.1.length : Int)) te_9 (updI (updI ts f (-1)) f (v - 4)) tr a cnt lv kd gd ln st) := Eq.mp (congrArg (fun z_ => va_D A (W_T_P cI cS b a tk tg tl (updI to f (sem tk tg tl ln st f).1) z_ te_9 (updI (updI ts f (-1)) f (v - 4)) tr a cnt lv kd gd ln st)) e_19) hD
            have e_20 : (te_9 : Int → Int) = (updI te f (sem tk tg tl ln st f).2.2.1) := (by rw [hfin.2.2.2, ← hvv, ← endC_s htab1 hvr hf.2, ← hE2.2]; exact updI_of (fun j hj => (hE2.1 j hj).trans (hE0 j hj)))
            have hP : va_P D vwCl (W_T_P cI cS b a tk tg tl (updI to f (sem tk tg tl ln st f).1) (updI ta f ((sem tk tg tl ln st f).2.1.length : Int)) (updI te f (sem tk tg tl ln st f).2.2.1) (updI (updI ts f (-1)) f (v - 4)) tr a cnt lv kd gd ln st) H := Eq.mp (congrArg (fun z_ => va_P D vwCl (W_T_P cI cS b a tk tg tl (updI to f (sem tk tg tl ln st f).1) (updI ta f ((sem tk tg tl ln st f).2.1.length : Int)) z_ (updI (updI ts f (-1)) f (v - 4)) tr a cnt lv kd gd ln st) H) e_20) hP
            have hD : va_D A (W_T_P cI cS b a tk tg tl (updI to f (sem tk tg tl ln st f).1) (updI ta f ((sem tk tg tl ln st f).2.1.length : Int)) (updI te f (sem tk tg tl ln st f).2.2.1) (updI (updI ts f (-1)) f (v - 4)) tr a cnt lv kd gd ln st) := Eq.mp (congrArg (fun z_ => va_D A (W_T_P cI cS b a tk tg tl (updI to f (sem tk tg tl ln st f).1) (updI ta f ((sem tk tg tl ln st f).2.1.length : Int)) z_ (updI (updI ts f (-1)) f (v - 4)) tr a cnt lv kd gd ln st)) e_20) hD
            have e_21 : ((updI (updI ts f (-1)) f (v - 4)) : Int → Int) = (updI ts f (srcR (sem tk tg tl ln st f))) := (by rw [updI_u, hsr])
            have hP : va_P D vwCl (W_T_P cI cS b a tk tg tl (updI to f (sem tk tg tl ln st f).1) (updI ta f ((sem tk tg tl ln st f).2.1.length : Int)) (updI te f (sem tk tg tl ln st f).2.2.1) (updI ts f (srcR (sem tk tg tl ln st f))) tr a cnt lv kd gd ln st) H := Eq.mp (congrArg (fun z_ => va_P D vwCl (W_T_P cI cS b a tk tg tl (updI to f (sem tk tg tl ln st f).1) (updI ta f ((sem tk tg tl ln st f).2.1.length : Int)) (updI te f (sem tk tg tl ln st f).2.2.1) z_ tr a cnt lv kd gd ln st) H) e_21) hP
            have hD : va_D A (W_T_P cI cS b a tk tg tl (updI to f (sem tk tg tl ln st f).1) (updI ta f ((sem tk tg tl ln st f).2.1.length : Int)) (updI te f (sem tk tg tl ln st f).2.2.1) (updI ts f (srcR (sem tk tg tl ln st f))) tr a cnt lv kd gd ln st) := Eq.mp (congrArg (fun z_ => va_D A (W_T_P cI cS b a tk tg tl (updI to f (sem tk tg tl ln st f).1) (updI ta f ((sem tk tg tl ln st f).2.1.length : Int)) (updI te f (sem tk tg tl ln st f).2.2.1) z_ tr a cnt lv kd gd ln st)) e_21) hD
            exact W.vret hx hb hr (fun t ht hW => ⟨⟨(), rfl, trivial, by rw [ht]; exact hP, hD⟩, hS.F ht⟩) hS.2.2 dX5_settle_111
          ·
            have hsr : srcR (sem tk tg tl ln st f) = -1 := by
              refine srcR_own (f := f) (hfin.2.1.trans ?_)
              rw [← hvv]; unfold stepR; rw [if_neg (by omega)]; split <;> rfl
            refine lv_iconst (v := iI (-1)) hx hb dX5_settle_103 (by decide +kernel) ?_
            refine lv_goto (tgt := 110) hx hb dX5_settle_104 (by decide) ?_
            refine n_iast (n := 5) hx hb hK.1 hP hD hS 6 0 rfl rfl (by omega) (by decide) dX5_settle_110 (fun H locs hP hD hS => ?_)
            have hP : va_P D vwCl (W_T_P cI cS b a tk tg tl (updI (updI to f 4) f x) ta_8 te_9 (updI (updI ts f (-1)) f (-1)) tr a cnt lv kd gd ln st) H := hP
            have hD : va_D A (W_T_P cI cS b a tk tg tl (updI (updI to f 4) f x) ta_8 te_9 (updI (updI ts f (-1)) f (-1)) tr a cnt lv kd gd ln st) := hD
            have e_22 : ((updI (updI to f 4) f x) : Int → Int) = (updI to f (sem tk tg tl ln st f).1) := (by rw [updI_u, hfin.1, ← hxx])
            have hP : va_P D vwCl (W_T_P cI cS b a tk tg tl (updI to f (sem tk tg tl ln st f).1) ta_8 te_9 (updI (updI ts f (-1)) f (-1)) tr a cnt lv kd gd ln st) H := Eq.mp (congrArg (fun z_ => va_P D vwCl (W_T_P cI cS b a tk tg tl z_ ta_8 te_9 (updI (updI ts f (-1)) f (-1)) tr a cnt lv kd gd ln st) H) e_22) hP
            have hD : va_D A (W_T_P cI cS b a tk tg tl (updI to f (sem tk tg tl ln st f).1) ta_8 te_9 (updI (updI ts f (-1)) f (-1)) tr a cnt lv kd gd ln st) := Eq.mp (congrArg (fun z_ => va_D A (W_T_P cI cS b a tk tg tl z_ ta_8 te_9 (updI (updI ts f (-1)) f (-1)) tr a cnt lv kd gd ln st)) e_22) hD
            have e_23 : (ta_8 : Int → Int) = (updI ta f ((sem tk tg tl ln st f).2.1.length : Int)) := (by rw [hfin.2.2.1, ← hvv, ← actC_s htab1 hvr hf.2, ← hA2.2]; exact updI_of (fun j hj => (hA2.1 j hj).trans (hA0 j hj)))
            have hP : va_P D vwCl (W_T_P cI cS b a tk tg tl (updI to f (sem tk tg tl ln st f).1) (updI ta f ((sem tk tg tl ln st f).2.1.length : Int)) te_9 (updI (updI ts f (-1)) f (-1)) tr a cnt lv kd gd ln st) H := Eq.mp (congrArg (fun z_ => va_P D vwCl (W_T_P cI cS b a tk tg tl (updI to f (sem tk tg tl ln st f).1) z_ te_9 (updI (updI ts f (-1)) f (-1)) tr a cnt lv kd gd ln st) H) e_23) hP
            have hD : va_D A (W_T_P cI cS b a tk tg tl (updI to f (sem tk tg tl ln st f).1) (updI ta f ((sem tk tg tl ln st f).2.1.length : Int)) te_9 (updI (updI ts f (-1)) f (-1)) tr a cnt lv kd gd ln st) := Eq.mp (congrArg (fun z_ => va_D A (W_T_P cI cS b a tk tg tl (updI to f (sem tk tg tl ln st f).1) z_ te_9 (updI (updI ts f (-1)) f (-1)) tr a cnt lv kd gd ln st)) e_23) hD
            have e_24 : (te_9 : Int → Int) = (updI te f (sem tk tg tl ln st f).2.2.1) := (by rw [hfin.2.2.2, ← hvv, ← endC_s htab1 hvr hf.2, ← hE2.2]; exact updI_of (fun j hj => (hE2.1 j hj).trans (hE0 j hj)))
            have hP : va_P D vwCl (W_T_P cI cS b a tk tg tl (updI to f (sem tk tg tl ln st f).1) (updI ta f ((sem tk tg tl ln st f).2.1.length : Int)) (updI te f (sem tk tg tl ln st f).2.2.1) (updI (updI ts f (-1)) f (-1)) tr a cnt lv kd gd ln st) H := Eq.mp (congrArg (fun z_ => va_P D vwCl (W_T_P cI cS b a tk tg tl (updI to f (sem tk tg tl ln st f).1) (updI ta f ((sem tk tg tl ln st f).2.1.length : Int)) z_ (updI (updI ts f (-1)) f (-1)) tr a cnt lv kd gd ln st) H) e_24) hP
            have hD : va_D A (W_T_P cI cS b a tk tg tl (updI to f (sem tk tg tl ln st f).1) (updI ta f ((sem tk tg tl ln st f).2.1.length : Int)) (updI te f (sem tk tg tl ln st f).2.2.1) (updI (updI ts f (-1)) f (-1)) tr a cnt lv kd gd ln st) := Eq.mp (congrArg (fun z_ => va_D A (W_T_P cI cS b a tk tg tl (updI to f (sem tk tg tl ln st f).1) (updI ta f ((sem tk tg tl ln st f).2.1.length : Int)) z_ (updI (updI ts f (-1)) f (-1)) tr a cnt lv kd gd ln st)) e_24) hD
            have e_25 : ((updI (updI ts f (-1)) f (-1)) : Int → Int) = (updI ts f (srcR (sem tk tg tl ln st f))) := (by rw [updI_u, hsr])
            have hP : va_P D vwCl (W_T_P cI cS b a tk tg tl (updI to f (sem tk tg tl ln st f).1) (updI ta f ((sem tk tg tl ln st f).2.1.length : Int)) (updI te f (sem tk tg tl ln st f).2.2.1) (updI ts f (srcR (sem tk tg tl ln st f))) tr a cnt lv kd gd ln st) H := Eq.mp (congrArg (fun z_ => va_P D vwCl (W_T_P cI cS b a tk tg tl (updI to f (sem tk tg tl ln st f).1) (updI ta f ((sem tk tg tl ln st f).2.1.length : Int)) (updI te f (sem tk tg tl ln st f).2.2.1) z_ tr a cnt lv kd gd ln st) H) e_25) hP
            have hD : va_D A (W_T_P cI cS b a tk tg tl (updI to f (sem tk tg tl ln st f).1) (updI ta f ((sem tk tg tl ln st f).2.1.length : Int)) (updI te f (sem tk tg tl ln st f).2.2.1) (updI ts f (srcR (sem tk tg tl ln st f))) tr a cnt lv kd gd ln st) := Eq.mp (congrArg (fun z_ => va_D A (W_T_P cI cS b a tk tg tl (updI to f (sem tk tg tl ln st f).1) (updI ta f ((sem tk tg tl ln st f).2.1.length : Int)) (updI te f (sem tk tg tl ln st f).2.2.1) z_ tr a cnt lv kd gd ln st)) e_25) hD
            exact W.vret hx hb hr (fun t ht hW => ⟨⟨(), rfl, trivial, by rw [ht]; exact hP, hD⟩, hS.F ht⟩) hS.2.2 dX5_settle_111
      ·
        have hgo : (stepR tl (sem tk tg tl ln st) (st (f * 4 + i))).1 = 4 ∨ (tk f ≠ 0 ∧ tg f = (stepR tl (sem tk tg tl ln st) (st (f * 4 + i))).1) ∧ tk f ≠ 1 := Or.inl (by rw [← hxx]; omega)
        refine lv_goto (tgt := 123) hx hb dX5_settle_72 (by decide) ?_
        refine n_iinc (lv' := [(2, .int (iI (i + 1))), (4, .int (iI x)), (3, .int (iI v)), (0, .ref (b 0)), (1, .int (iI f))]) hx hb dX5_settle_123 hl (k := 2) rfl (by decide) rfl (fun ls hl => ?_)
        refine lv_goto (tgt := 30) hx hb dX5_settle_126 (by decide) ?_
        exact ih_2 ((i + 1), ta_8, te_9) (by (try dsimp only); exact ⟨by omega, fun j hj => (hA2.1 j hj).trans (hA0 j hj), fun j hj => (hE2.1 j hj).trans (hE0 j hj), by rw [hA2.2, hE2.2, actC_s htab1 hvr hf.2, endC_s (L := tl) htab1 hvr hf.2, hvv]; exact settle_c hI2 hgo⟩) (by (try dsimp only); exact (by omega)) _ _ _ hP hD hS (lv_sub hl [0, 3, 4] rfl)
theorem Tab.snoc {f : Int} {S : Int → Rc} {to ta te ts : Int → Int} (h : Tab f S to ta te ts) : Tab (f + 1) S (updI to f (S f).1) (updI ta f ((S f).2.1.length : Int)) (updI te f (S f).2.2.1) (updI ts f (srcR (S f))) := fun g h0 h1 => by
  by_cases e : g = f
  · subst e
    rw [updI_s, updI_s, updI_s, updI_s]
    exact ⟨rfl, rfl, rfl, rfl⟩
  · rw [updI_n e, updI_n e, updI_n e, updI_n e]
    exact h g h0 (by omega)
set_option maxHeartbeats 4000000 in
set_option maxRecDepth 100000 in
theorem c_X5_settleAll (l : Launch) (D : va_G) (cI cS : ClassId) (b : Nat → Nat) (a : Nat → Nat) (tk : Int → Int) (tg : Int → Int) (tl : Int) (to : Int → Int) (ta : Int → Int) (te : Int → Int) (ts : Int → Int) (tr : Int → Int) (cnt : Int) (lv : Int) (kd : Int → Int) (gd : Int → Int) (ln : Int → Int) (st : Int → Int) (sz : Nat) (hok : okP cnt ln st) (hkk : okK cnt tk tg tl) : Met l yX5_settleAll wsX5_settleAll ({ frames := 4, cells := 0, slots := 0, locals := 89 }) (cP D cI cS (W_T_P cI cS b a tk tg tl to ta te ts tr a cnt lv kd gd ln st) sz [.ref (b 0)]) (va_Qv (fun (u : (Int → Int) × (Int → Int) × (Int → Int) × (Int → Int)) => Tab cnt (sem tk tg tl ln st) u.1 u.2.1 u.2.2.1 u.2.2.2) (fun (u : (Int → Int) × (Int → Int) × (Int → Int) × (Int → Int)) t => cB D (va_A (W_T_P cI cS b a tk tg tl to ta te ts tr a cnt lv kd gd ln st) sz) (W_T_P cI cS b a tk tg tl u.1 u.2.1 u.2.2.1 u.2.2.2 tr a cnt lv kd gd ln st) t) (va_A (W_T_P cI cS b a tk tg tl to ta te ts tr a cnt lv kd gd ln st) sz)) 0 0 (va_A (W_T_P cI cS b a tk tg tl to ta te ts tr a cnt lv kd gd ln st) sz) := by
  refine Met.ofW (cc := cX5_settleAll) (maxL := 2) (ret := none) (by decide) rfl ?_
  intro p e s m args below meth c_ s₁ B hml hv
  obtain ⟨rfl, hsz, hP, hK, hD0⟩ := hv
  have hx := B.exec
  have hb := B.bytes
  have hr := B.returns
  have hts := atoms_spec (ws := wsX5_settleAll) B.pre
  have hown : s.vm.findClass RX5 = some m.cls := findClass_of_methodNamed B.named
  have hlocks := B.notSynchronized
  subst hsz
  have hD := hD0.self (sz := s.heap.size)
  generalize hAe : va_A (W_T_P cI cS b a tk tg tl to ta te ts tr a cnt lv kd gd ln st) s.heap.size = A at hD ⊢
  have hA : ∀ q : Nat, s.heap.size ≤ q → A q := fun q h => by rw [← hAe]; exact Or.inr h
  have hS : va_S A s.heap s.heap [] := va_S.rf
  have hP : va_P D vwCl (W_T_P cI cS b a tk tg tl to ta te ts tr a cnt lv kd gd ln st) s.heap := hP
  have hl := lv_entry ([.ref (b 0)] : List Value) (n := 2) (Nat.le_of_ble_eq_true rfl)
  rw [lg_entry_eq]
  generalize (lg_sl ([.ref (b 0)] : List Value) ++ List.replicate (2 - (lg_sl ([.ref (b 0)] : List Value)).length) Slot.unset).toArray = ls at hl ⊢
  have hl : lv_has ls 2 [(0, .ref (b 0))] := hl
  have fl_12 := hts (.fieldLink RX5 12 "ActRows$Trial" "program" "LActRows$Program;") (by decide +kernel)
  have iw_5 : ∀ w ∈ wsX50, w ∈ wsX5_settleAll := by decide +kernel
  have fn_56 := va_Nw.use (A := ([.ref (b 0)] : List Value).toArray) rfl (hK.2 ("ActRows$Trial", 56, "ActRows$Program", "count", "I") (List.mem_of_getElem? (i := 30) rfl))
  have iw_1 : ∀ w ∈ wsX10, w ∈ wsX5_settleAll := by decide +kernel
  have hc := hok.1
  have hln := hok.2.1
  refine lv_iconst (v := iI 0) hx hb dX5_settleAll_0 (by decide +kernel) ?_
  refine lv_istore_n (lv' := [(1, .int (iI 0)), (0, .ref (b 0))]) hx hb dX5_settleAll_1 rfl hl (by decide) rfl (fun ls hl => ?_)
  refine x_loop (σ := Int × (Int → Int) × (Int → Int) × (Int → Int) × (Int → Int)) (fun (xv_ : Int × (Int → Int) × (Int → Int) × (Int → Int) × (Int → Int)) => match xv_ with | (f, to1, ta1, te1, ts1) => (0 ≤ f ∧ f ≤ cnt) ∧ (Tab f (sem tk tg tl ln st) to1 ta1 te1 ts1)) (fun (xv_ : Int × (Int → Int) × (Int → Int) × (Int → Int) × (Int → Int)) => match xv_ with | (f, to1, ta1, te1, ts1) => (cnt - f).toNat) (fun (xv_ : Int × (Int → Int) × (Int → Int) × (Int → Int) × (Int → Int)) => match xv_ with | (f, to1, ta1, te1, ts1) => (W_T_P cI cS b a tk tg tl to1 ta1 te1 ts1 tr a cnt lv kd gd ln st)) (fun (xv_ : Int × (Int → Int) × (Int → Int) × (Int → Int) × (Int → Int)) => match xv_ with | (f, to1, ta1, te1, ts1) => [(1, .int (iI f)), (0, .ref (b 0))]) (nL := 2) ?step_1 (0, to, ta, te, ts) (by (try dsimp only); exact ⟨by omega, fun g h0 h1 => absurd h1 (by omega)⟩) hP hD hS hl
  case step_1 =>
    intro xv_ hI ih H locs ls hP hD hS hl
    obtain ⟨f, to1, ta1, te1, ts1⟩ := xv_
    try dsimp only at hI ih
    obtain ⟨hf, hT⟩ := hI
    have hP : va_P D vwCl (W_T_P cI cS b a tk tg tl to1 ta1 te1 ts1 tr a cnt lv kd gd ln st) H := hP
    have hD : va_D A (W_T_P cI cS b a tk tg tl to1 ta1 te1 ts1 tr a cnt lv kd gd ln st) := hD
    have hl : lv_has ls 2 [(1, .int (iI f)), (0, .ref (b 0))] := hl
    have ih_2 := ih
    refine lv_iload_n hx hb dX5_settleAll_2 rfl (lv_at hl 0 rfl) ?_
    refine lv_aload_n hx hb dX5_settleAll_3 rfl (lv_at hl 1 rfl) ?_
    refine va_get (D := D) (ci := 5) (v := .ref (a 0)) (C := RX5) (T := TX5) (N := 9) hx hb hts iw_5 hown hK.1 hP 0 rfl rfl 0 (by decide) fl_12 (fun _ h9 => h9) rfl dX5_settleAll_4 ?_
    refine va_getN (D := D) (ci := 1) (v := .int (iI cnt)) (C := RX1) (T := TX1) (N := 6) hx hb hts iw_1 hown hK.1 hP 8 rfl rfl 4 (by decide) fn_56 (fun _ h9 => h9) rfl dX5_settleAll_7 ?_
    refine n_icmp_ge (tgt := 24) hx hb dX5_settleAll_10 (by decide) (by omega) (fun c_3 => ?_) (fun c_3 => ?_)
    ·
      exact W.vret hx hb hr (fun t ht hW => ⟨⟨(to1, ta1, te1, ts1), rfl, (by (try dsimp only); exact (by rw [show cnt = f by omega]; exact hT)), by rw [ht]; exact hP, hD⟩, hS.F ht⟩) hS.2.2 dX5_settleAll_24
    ·
      refine lv_aload_n hx hb dX5_settleAll_13 rfl (lv_at hl 1 rfl) ?_
      refine lv_iload_n hx hb dX5_settleAll_14 rfl (lv_at hl 0 rfl) ?_
      refine x_callVv (As := [.int (iI f)]) (rest := []) ⟨hx, hb, hml, hown, hts⟩ (c_X5_settle l D cI cS b a tk tg tl to1 ta1 te1 ts1 tr cnt lv kd gd ln st H.size f (by first | assumption | omega) (by first | assumption | omega) (by first | assumption | omega) (by first | assumption | omega)) (cwV 1 hts gX5_settleAll_X5_settle rfl rfl rfl (by decide +kernel) ⟨Nat.le_of_ble_eq_true rfl, Nat.le_of_ble_eq_true rfl⟩) hK hP hD hS hA [0, 1, 2, 3, 4, 5, 6, 7, 8, 9, 10, 11, 12] [] (wr := ([] : va_W)) rfl rfl (by decide) (by decide) (by decide) 0 5 rfl rfl rfl [0, 1, 2, 3, 4, 5, 6, 7, 8, 9, 10, 11, 12] (fun (u : Unit) => (W_T_P cI cS b a tk tg tl (updI to1 f (sem tk tg tl ln st f).1) (updI ta1 f ((sem tk tg tl ln st f).2.1.length : Int)) (updI te1 f (sem tk tg tl ln st f).2.2.1) (updI ts1 f (srcR (sem tk tg tl ln st f))) tr a cnt lv kd gd ln st)) (fun _ => rfl) (by decide) rfl hl.1 rfl (Nat.le_of_ble_eq_true rfl) ⟨Nat.zero_le _, Nat.zero_le _⟩ dX5_settleAll_15 (fun u_ H locs hw hP hD hS => ?_)
      try dsimp only at hw
      have hP : va_P D vwCl (W_T_P cI cS b a tk tg tl (updI to1 f (sem tk tg tl ln st f).1) (updI ta1 f ((sem tk tg tl ln st f).2.1.length : Int)) (updI te1 f (sem tk tg tl ln st f).2.2.1) (updI ts1 f (srcR (sem tk tg tl ln st f))) tr a cnt lv kd gd ln st) H := hP
      have hD : va_D A (W_T_P cI cS b a tk tg tl (updI to1 f (sem tk tg tl ln st f).1) (updI ta1 f ((sem tk tg tl ln st f).2.1.length : Int)) (updI te1 f (sem tk tg tl ln st f).2.2.1) (updI ts1 f (srcR (sem tk tg tl ln st f))) tr a cnt lv kd gd ln st) := hD
      refine n_iinc (lv' := [(1, .int (iI (f + 1))), (0, .ref (b 0))]) hx hb dX5_settleAll_18 hl (k := 0) rfl (by decide) rfl (fun ls hl => ?_)
      refine lv_goto (tgt := 2) hx hb dX5_settleAll_21 (by decide) ?_
      exact ih_2 ((f + 1), (updI to1 f (sem tk tg tl ln st f).1), (updI ta1 f ((sem tk tg tl ln st f).2.1.length : Int)), (updI te1 f (sem tk tg tl ln st f).2.2.1), (updI ts1 f (srcR (sem tk tg tl ln st f)))) (by (try dsimp only); exact ⟨by omega, Tab.snoc hT⟩) (by (try dsimp only); exact (by omega)) _ _ _ hP hD hS (lv_sub hl [0, 1] rfl)
set_option maxHeartbeats 4000000 in
set_option maxRecDepth 100000 in
theorem c_X5_settleBy (l : Launch) (D : va_G) (cI cS : ClassId) (b : Nat → Nat) (a : Nat → Nat) (tk : Int → Int) (tg : Int → Int) (tl : Int) (to : Int → Int) (ta : Int → Int) (te : Int → Int) (ts : Int → Int) (tr : Int → Int) (cnt : Int) (lv : Int) (kd : Int → Int) (gd : Int → Int) (ln : Int → Int) (st : Int → Int) (sz : Nat) (set : Int) (hok : okP cnt ln st) (hkk : okK cnt tk tg set) : Met l yX5_settleBy wsX5_settleBy ({ frames := 5, cells := 0, slots := 0, locals := 110 }) (cP D cI cS (W_T_P cI cS b a tk tg tl to ta te ts tr a cnt lv kd gd ln st) sz [.ref (b 0), .int (iI set)]) (va_Qv (fun (u : (Int → Int) × (Int → Int) × (Int → Int) × (Int → Int)) => Tab cnt (sem tk tg set ln st) u.1 u.2.1 u.2.2.1 u.2.2.2) (fun (u : (Int → Int) × (Int → Int) × (Int → Int) × (Int → Int)) t => cB D (va_A (W_T_P cI cS b a tk tg tl to ta te ts tr a cnt lv kd gd ln st) sz) (W_T_P cI cS b a tk tg set u.1 u.2.1 u.2.2.1 u.2.2.2 tr a cnt lv kd gd ln st) t) (va_A (W_T_P cI cS b a tk tg tl to ta te ts tr a cnt lv kd gd ln st) sz)) 0 0 (va_A (W_T_P cI cS b a tk tg tl to ta te ts tr a cnt lv kd gd ln st) sz) := by
  refine Met.ofW (cc := cX5_settleBy) (maxL := 2) (ret := none) (by decide) rfl ?_
  intro p e s m args below meth c_ s₁ B hml hv
  obtain ⟨rfl, hsz, hP, hK, hD0⟩ := hv
  have hx := B.exec
  have hb := B.bytes
  have hr := B.returns
  have hts := atoms_spec (ws := wsX5_settleBy) B.pre
  have hown : s.vm.findClass RX5 = some m.cls := findClass_of_methodNamed B.named
  have hlocks := B.notSynchronized
  subst hsz
  have hD := hD0.self (sz := s.heap.size)
  generalize hAe : va_A (W_T_P cI cS b a tk tg tl to ta te ts tr a cnt lv kd gd ln st) s.heap.size = A at hD ⊢
  have hA : ∀ q : Nat, s.heap.size ≤ q → A q := fun q h => by rw [← hAe]; exact Or.inr h
  have hS : va_S A s.heap s.heap [] := va_S.rf
  have hP : va_P D vwCl (W_T_P cI cS b a tk tg tl to ta te ts tr a cnt lv kd gd ln st) s.heap := hP
  have hl := lv_entry ([.ref (b 0), .int (iI set)] : List Value) (n := 2) (Nat.le_of_ble_eq_true rfl)
  rw [lg_entry_eq]
  generalize (lg_sl ([.ref (b 0), .int (iI set)] : List Value) ++ List.replicate (2 - (lg_sl ([.ref (b 0), .int (iI set)] : List Value)).length) Slot.unset).toArray = ls at hl ⊢
  have hl : lv_has ls 2 [(0, .ref (b 0)), (1, .int (iI set))] := hl
  have fl_25 := hts (.fieldLink RX5 25 "ActRows$Trial" "live" "I") (by decide +kernel)
  have iw_5 : ∀ w ∈ wsX50, w ∈ wsX5_settleBy := by decide +kernel
  have hc := hok.1
  have hln := hok.2.1
  refine lv_aload_n hx hb dX5_settleBy_0 rfl (lv_at hl 0 rfl) ?_
  refine lv_iload_n hx hb dX5_settleBy_1 rfl (lv_at hl 1 rfl) ?_
  refine va_put (D := D) (ci := 5) (v := .int (iI set)) (ty := .int) (C := RX5) (T := TX5) (N := 9) hx hb hts iw_5 tyX5 tyX5_ok nmX5 hown hK.1 hP hD hS 0 rfl rfl 3 (by decide) fl_25 (fun _ h9 => h9) rfl (by decide +kernel) rfl rfl (Nat.le_of_ble_eq_true rfl) dX5_settleBy_2 (fun H locs hP hD hS => ?_)
  have hP : va_P D vwCl (W_T_P cI cS b a tk tg set to ta te ts tr a cnt lv kd gd ln st) H := hP
  have hD : va_D A (W_T_P cI cS b a tk tg set to ta te ts tr a cnt lv kd gd ln st) := hD
  refine lv_aload_n hx hb dX5_settleBy_5 rfl (lv_at hl 0 rfl) ?_
  refine x_callVv (As := []) (rest := []) ⟨hx, hb, hml, hown, hts⟩ (c_X5_settleAll l D cI cS b a tk tg set to ta te ts tr cnt lv kd gd ln st H.size (by first | assumption | omega) (by first | assumption | omega)) (cwV 0 hts gX5_settleBy_X5_settleAll rfl rfl rfl (by decide +kernel) ⟨Nat.le_of_ble_eq_true rfl, Nat.le_of_ble_eq_true rfl⟩) hK hP hD hS hA [0, 1, 2, 3, 4, 5, 6, 7, 8, 9, 10, 11, 12] [] (wr := ([] : va_W)) rfl rfl (by decide) (by decide) (by decide) 0 5 rfl rfl rfl [0, 1, 2, 3, 4, 5, 6, 7, 8, 9, 10, 11, 12] (fun (u : (Int → Int) × (Int → Int) × (Int → Int) × (Int → Int)) => (W_T_P cI cS b a tk tg set u.1 u.2.1 u.2.2.1 u.2.2.2 tr a cnt lv kd gd ln st)) (fun _ => rfl) (by decide) rfl hl.1 rfl (Nat.le_of_ble_eq_true rfl) ⟨Nat.zero_le _, Nat.zero_le _⟩ dX5_settleBy_6 (fun u_ H locs hw hP hD hS => ?_)
  obtain ⟨to_1, ta_2, te_3, ts_4⟩ := u_
  try dsimp only at hw
  have ht_5 := hw
  have hP : va_P D vwCl (W_T_P cI cS b a tk tg set to_1 ta_2 te_3 ts_4 tr a cnt lv kd gd ln st) H := hP
  have hD : va_D A (W_T_P cI cS b a tk tg set to_1 ta_2 te_3 ts_4 tr a cnt lv kd gd ln st) := hD
  exact W.vret hx hb hr (fun t ht hW => ⟨⟨(to_1, ta_2, te_3, ts_4), rfl, (by (try dsimp only); exact (by first | assumption | omega)), by rw [ht]; exact hP, hD⟩, hS.F ht⟩) hS.2.2 dX5_settleBy_9
