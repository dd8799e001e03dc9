abbrev W_P (cI cS : ClassId) (A_0 : Nat → Nat) (cnt_0 : Int) (lv_0 : Int) (kd_0 : Int → Int) (gd_0 : Int → Int) (ln_0 : Int → Int) (st_0 : Int → Int) : va_W := [(A_0 0, .inr (1, [.ref (A_0 1), .ref (A_0 2), .ref (A_0 3), .ref (A_0 4), .int (iI cnt_0), .int (iI lv_0)])), (A_0 1, .inl (cI, 5, .inl (aI kd_0))), (A_0 2, .inl (cI, 5, .inl (aI gd_0))), (A_0 3, .inl (cI, 5, .inl (aI ln_0))), (A_0 4, .inl (cI, 20, .inl (aI st_0)))]
/-- a sum of the first n -/
def sumI (g : Int → Int) : Nat → Int
  | 0 => 0
  | n + 1 => sumI g n + g (n : Int)
theorem sumI_s (g : Int → Int) {i : Int} (h : 0 ≤ i) : sumI g (i + 1).toNat = sumI g i.toNat + g i := by
  obtain ⟨k, rfl⟩ := Int.eq_ofNat_of_zero_le h
  show sumI g (k + 1) = sumI g k + g k
  rfl
set_option maxHeartbeats 4000000 in
set_option maxRecDepth 100000 in
theorem c_X1_isNone (l : Launch) (D : va_G) (cI cS : ClassId) (a : Nat → Nat) (cnt : Int) (lv : Int) (kd : Int → Int) (gd : Int → Int) (ln : Int → Int) (st : Int → Int) (sz : Nat) (hc : 0 ≤ cnt ∧ cnt ≤ 5) : Met l yX1_isNone wsX1_isNone ({ frames := 0, cells := 0, slots := 0, locals := 0 }) (cP D cI cS (W_P cI cS a cnt lv kd gd ln st) sz [.ref (a 0)]) (va_Qi (fun (r : Int32) (u : Unit) => r = iI (if cnt = 0 then 1 else 0)) (fun (u : Unit) t => cB D (va_A (W_P cI cS a cnt lv kd gd ln st) sz) (W_P cI cS a cnt lv kd gd ln st) t) (va_A (W_P cI cS a cnt lv kd gd ln st) sz)) 0 0 (va_A (W_P cI cS a cnt lv kd gd ln st) sz) := by
  refine Met.ofW (cc := cX1_isNone) (maxL := 1) (ret := (some .boolean)) (by decide) rfl ?_
  intro p e s m args below meth c_ s₁ B hml hv
  obtain ⟨rfl, hsz, hP, hK, hD0⟩ := hv
  have hx := B.exec
  have hb := B.bytes
  have hr := B.returns
  have hts := atoms_spec (ws := wsX1_isNone) B.pre
  have hown : s.vm.findClass RX1 = some m.cls := findClass_of_methodNamed B.named
  have hlocks := B.notSynchronized
  subst hsz
  have hD := hD0.self (sz := s.heap.size)
  generalize hAe : va_A (W_P cI cS a cnt lv kd gd ln st) s.heap.size = A at hD ⊢
  have hA : ∀ q : Nat, s.heap.size ≤ q → A q := fun q h => by rw [← hAe]; exact Or.inr h
  have hS : va_S A s.heap s.heap [] := va_S.rf
  have hP : va_P D vwCl (W_P cI cS a cnt lv kd gd ln st) s.heap := hP
  have hl := lv_entry ([.ref (a 0)] : List Value) (n := 1) (Nat.le_of_ble_eq_true rfl)
  rw [lg_entry_eq]
  generalize (lg_sl ([.ref (a 0)] : List Value) ++ List.replicate (1 - (lg_sl ([.ref (a 0)] : List Value)).length) Slot.unset).toArray = ls at hl ⊢
  have hl : lv_has ls 1 [(0, .ref (a 0))] := hl
  have fl_24 := hts (.fieldLink RX1 24 "ActRows$Program" "count" "I") (by decide +kernel)
  have iw_1 : ∀ w ∈ wsX10, w ∈ wsX1_isNone := by decide +kernel
  refine lv_aload_n hx hb dX1_isNone_0 rfl (lv_at hl 0 rfl) ?_
  refine va_get (D := D) (ci := 1) (v := .int (iI cnt)) (C := RX1) (T := TX1) (N := 6) hx hb hts iw_1 hown hK.1 hP 0 rfl rfl 4 (by decide) fl_24 (fun _ h9 => h9) rfl dX1_isNone_1 ?_
  refine n_if_ne (tgt := 11) hx hb dX1_isNone_4 (by decide) (by omega) (fun c_1 => ?_) (fun c_1 => ?_)
  ·
    refine lv_iconst (v := iI 0) hx hb dX1_isNone_11 (by decide +kernel) ?_
    exact W.zret (v := iI 0) (ty := .boolean) hx hb hr (by decide +kernel) (fun t ht hW => ⟨⟨_, (), rfl, congrArg iI (show 0 = (if cnt = 0 then 1 else 0) from (by first | rfl | omega | (rw [if_pos (by omega)]) | (rw [if_neg (by omega)]))), by rw [ht]; exact hP, hD⟩, hS.F ht⟩) hS.2.2 dX1_isNone_12
  ·
    refine lv_iconst (v := iI 1) hx hb dX1_isNone_7 (by decide +kernel) ?_
    refine lv_goto (tgt := 12) hx hb dX1_isNone_8 (by decide) ?_
    exact W.zret (v := iI 1) (ty := .boolean) hx hb hr (by decide +kernel) (fun t ht hW => ⟨⟨_, (), rfl, congrArg iI (show 1 = (if cnt = 0 then 1 else 0) from (by first | rfl | omega | (rw [if_pos (by omega)]) | (rw [if_neg (by omega)]))), by rw [ht]; exact hP, hD⟩, hS.F ht⟩) hS.2.2 dX1_isNone_12
set_option maxHeartbeats 4000000 in
set_option maxRecDepth 100000 in
theorem c_X1_has (l : Launch) (D : va_G) (cI cS : ClassId) (a : Nat → Nat) (cnt : Int) (lv : Int) (kd : Int → Int) (gd : Int → Int) (ln : Int → Int) (st : Int → Int) (sz : Nat) (f : Int) (hc : 0 ≤ cnt ∧ cnt ≤ 5) (hf : -2147483648 ≤ f ∧ f < 2147483648) : Met l yX1_has wsX1_has ({ frames := 0, cells := 0, slots := 0, locals := 0 }) (cP D cI cS (W_P cI cS a cnt lv kd gd ln st) sz [.ref (a 0), .int (iI f)]) (va_Qi (fun (r : Int32) (u : Unit) => r = iI (if 0 ≤ f ∧ f < cnt then 1 else 0)) (fun (u : Unit) t => cB D (va_A (W_P cI cS a cnt lv kd gd ln st) sz) (W_P cI cS a cnt lv kd gd ln st) t) (va_A (W_P cI cS a cnt lv kd gd ln st) sz)) 0 0 (va_A (W_P cI cS a cnt lv kd gd ln st) sz) := by
  refine Met.ofW (cc := cX1_has) (maxL := 2) (ret := (some .boolean)) (by decide) rfl ?_
  intro p e s m args below meth c_ s₁ B hml hv
  obtain ⟨rfl, hsz, hP, hK, hD0⟩ := hv
  have hx := B.exec
  have hb := B.bytes
  have hr := B.returns
  have hts := atoms_spec (ws := wsX1_has) B.pre
  have hown : s.vm.findClass RX1 = some m.cls := findClass_of_methodNamed B.named
  have hlocks := B.notSynchronized
  subst hsz
  have hD := hD0.self (sz := s.heap.size)
  generalize hAe : va_A (W_P cI cS a cnt lv kd gd ln st) s.heap.size = A at hD ⊢
  have hA : ∀ q : Nat, s.heap.size ≤ q → A q := fun q h => by rw [← hAe]; exact Or.inr h
  have hS : va_S A s.heap s.heap [] := va_S.rf
  have hP : va_P D vwCl (W_P cI cS a cnt lv kd gd ln st) s.heap := hP
  have hl := lv_entry ([.ref (a 0), .int (iI f)] : List Value) (n := 2) (Nat.le_of_ble_eq_true rfl)
  rw [lg_entry_eq]
  generalize (lg_sl ([.ref (a 0), .int (iI f)] : List Value) ++ List.replicate (2 - (lg_sl ([.ref (a 0), .int (iI f)] : List Value)).length) Slot.unset).toArray = ls at hl ⊢
  have hl : lv_has ls 2 [(0, .ref (a 0)), (1, .int (iI f))] := hl
  have fl_24 := hts (.fieldLink RX1 24 "ActRows$Program" "count" "I") (by decide +kernel)
  have iw_1 : ∀ w ∈ wsX10, w ∈ wsX1_has := by decide +kernel
  refine lv_iload_n hx hb dX1_has_0 rfl (lv_at hl 1 rfl) ?_
  refine n_if_lt (tgt := 16) hx hb dX1_has_1 (by decide) (by omega) (fun c_1 => ?_) (fun c_1 => ?_)
  ·
    refine lv_iconst (v := iI 0) hx hb dX1_has_16 (by decide +kernel) ?_
    exact W.zret (v := iI 0) (ty := .boolean) hx hb hr (by decide +kernel) (fun t ht hW => ⟨⟨_, (), rfl, congrArg iI (show 0 = (if 0 ≤ f ∧ f < cnt then 1 else 0) from (by first | rfl | omega | (rw [if_pos (by omega)]) | (rw [if_neg (by omega)]))), by rw [ht]; exact hP, hD⟩, hS.F ht⟩) hS.2.2 dX1_has_17
  ·
    refine lv_iload_n hx hb dX1_has_4 rfl (lv_at hl 1 rfl) ?_
    refine lv_aload_n hx hb dX1_has_5 rfl (lv_at hl 0 rfl) ?_
    refine va_get (D := D) (ci := 1) (v := .int (iI cnt)) (C := RX1) (T := TX1) (N := 6) hx hb hts iw_1 hown hK.1 hP 0 rfl rfl 4 (by decide) fl_24 (fun _ h9 => h9) rfl dX1_has_6 ?_
    refine n_icmp_ge (tgt := 16) hx hb dX1_has_9 (by decide) (by omega) (fun c_2 => ?_) (fun c_2 => ?_)
    ·
      refine lv_iconst (v := iI 0) hx hb dX1_has_16 (by decide +kernel) ?_
      exact W.zret (v := iI 0) (ty := .boolean) hx hb hr (by decide +kernel) (fun t ht hW => ⟨⟨_, (), rfl, congrArg iI (show 0 = (if 0 ≤ f ∧ f < cnt then 1 else 0) from (by first | rfl | omega | (rw [if_pos (by omega)]) | (rw [if_neg (by omega)]))), by rw [ht]; exact hP, hD⟩, hS.F ht⟩) hS.2.2 dX1_has_17
    ·
      refine lv_iconst (v := iI 1) hx hb dX1_has_12 (by decide +kernel) ?_
      refine lv_goto (tgt := 17) hx hb dX1_has_13 (by decide) ?_
      exact W.zret (v := iI 1) (ty := .boolean) hx hb hr (by decide +kernel) (fun t ht hW => ⟨⟨_, (), rfl, congrArg iI (show 1 = (if 0 ≤ f ∧ f < cnt then 1 else 0) from (by first | rfl | omega | (rw [if_pos (by omega)]) | (rw [if_neg (by omega)]))), by rw [ht]; exact hP, hD⟩, hS.F ht⟩) hS.2.2 dX1_has_17
set_option maxHeartbeats 4000000 in
set_option maxRecDepth 100000 in
theorem c_X1_hasStep (l : Launch) (D : va_G) (cI cS : ClassId) (a : Nat → Nat) (cnt : Int) (lv : Int) (kd : Int → Int) (gd : Int → Int) (ln : Int → Int) (st : Int → Int) (sz : Nat) (f : Int) (i : Int) (hc : 0 ≤ cnt ∧ cnt ≤ 5) (hln : ∀ j : Int, 0 ≤ j → j < cnt → 0 ≤ ln j ∧ ln j ≤ 4) (hf : -2147483648 ≤ f ∧ f < 2147483648) (hi : -2147483648 ≤ i ∧ i < 2147483648) : Met l yX1_hasStep wsX1_hasStep ({ frames := 1, cells := 0, slots := 0, locals := 21 }) (cP D cI cS (W_P cI cS a cnt lv kd gd ln st) sz [.ref (a 0), .int (iI f), .int (iI i)]) (va_Qi (fun (r : Int32) (u : Unit) => r = iI (if 0 ≤ f ∧ f < cnt ∧ 0 ≤ i ∧ i < ln f then 1 else 0)) (fun (u : Unit) t => cB D (va_A (W_P cI cS a cnt lv kd gd ln st) sz) (W_P cI cS a cnt lv kd gd ln st) t) (va_A (W_P cI cS a cnt lv kd gd ln st) sz)) 0 0 (va_A (W_P cI cS a cnt lv kd gd ln st) sz) := by
  refine Met.ofW (cc := cX1_hasStep) (maxL := 3) (ret := (some .boolean)) (by decide) rfl ?_
  intro p e s m args below meth c_ s₁ B hml hv
  obtain ⟨rfl, hsz, hP, hK, hD0⟩ := hv
  have hx := B.exec
  have hb := B.bytes
  have hr := B.returns
  have hts := atoms_spec (ws := wsX1_hasStep) B.pre
  have hown : s.vm.findClass RX1 = some m.cls := findClass_of_methodNamed B.named
  have hlocks := B.notSynchronized
  subst hsz
  have hD := hD0.self (sz := s.heap.size)
  generalize hAe : va_A (W_P cI cS a cnt lv kd gd ln st) s.heap.size = A at hD ⊢
  have hA : ∀ q : Nat, s.heap.size ≤ q → A q := fun q h => by rw [← hAe]; exact Or.inr h
  have hS : va_S A s.heap s.heap [] := va_S.rf
  have hP : va_P D vwCl (W_P cI cS a cnt lv kd gd ln st) s.heap := hP
  have hl := lv_entry ([.ref (a 0), .int (iI f), .int (iI i)] : List Value) (n := 3) (Nat.le_of_ble_eq_true rfl)
  rw [lg_entry_eq]
  generalize (lg_sl ([.ref (a 0), .int (iI f), .int (iI i)] : List Value) ++ List.replicate (3 - (lg_sl ([.ref (a 0), .int (iI f), .int (iI i)] : List Value)).length) Slot.unset).toArray = ls at hl ⊢
  have hl : lv_has ls 3 [(0, .ref (a 0)), (1, .int (iI f)), (2, .int (iI i))] := hl
  have fl_18 := hts (.fieldLink RX1 18 "ActRows$Program" "lengths" "[I") (by decide +kernel)
  have iw_1 : ∀ w ∈ wsX10, w ∈ wsX1_hasStep := by decide +kernel
  refine lv_aload_n hx hb dX1_hasStep_0 rfl (lv_at hl 0 rfl) ?_
  refine lv_iload_n hx hb dX1_hasStep_1 rfl (lv_at hl 1 rfl) ?_
  refine x_callVi (As := [.int (iI f)]) (rest := []) ⟨hx, hb, hml, hown, hts⟩ (c_X1_has l D cI cS a cnt lv kd gd ln st s.heap.size f (by first | assumption | omega) (by first | assumption | omega)) (cwV 1 hts gX1_hasStep_X1_has rfl rfl rfl (by decide +kernel) ⟨Nat.le_of_ble_eq_true rfl, Nat.le_of_ble_eq_true rfl⟩) hK hP hD hS hA [0, 1, 2, 3, 4] [] (wr := ([] : va_W)) rfl rfl (by decide) (by decide) (by decide) 0 1 rfl rfl rfl [0, 1, 2, 3, 4] (fun (u : Unit) => (W_P cI cS a cnt lv kd gd ln st)) (fun _ => rfl) (by decide) rfl hl.1 rfl (Nat.le_of_ble_eq_true rfl) ⟨Nat.zero_le _, Nat.zero_le _⟩ dX1_hasStep_2 (fun r_ u_ H locs hw hP hD hS => ?_)
  try dsimp only at hw
  subst hw
  have hP : va_P D vwCl (W_P cI cS a cnt lv kd gd ln st) H := hP
  have hD : va_D A (W_P cI cS a cnt lv kd gd ln st) := hD
  refine n_if_b1 (tgt := 26) hx hb dX1_hasStep_5 (by decide)  (fun c_1 => ?_) (fun c_1 => ?_)
  ·
    refine lv_iconst (v := iI 0) hx hb dX1_hasStep_26 (by decide +kernel) ?_
    exact W.zret (v := iI 0) (ty := .boolean) hx hb hr (by decide +kernel) (fun t ht hW => ⟨⟨_, (), rfl, congrArg iI (show 0 = (if 0 ≤ f ∧ f < cnt ∧ 0 ≤ i ∧ i < ln f then 1 else 0) from (by first | rfl | omega | (rw [if_pos (by omega)]) | (rw [if_neg (by omega)]))), by rw [ht]; exact hP, hD⟩, hS.F ht⟩) hS.2.2 dX1_hasStep_27
  ·
    refine lv_iload_n hx hb dX1_hasStep_8 rfl (lv_at hl 2 rfl) ?_
    refine n_if_lt (tgt := 26) hx hb dX1_hasStep_9 (by decide) (by omega) (fun c_2 => ?_) (fun c_2 => ?_)
    ·
      refine lv_iconst (v := iI 0) hx hb dX1_hasStep_26 (by decide +kernel) ?_
      exact W.zret (v := iI 0) (ty := .boolean) hx hb hr (by decide +kernel) (fun t ht hW => ⟨⟨_, (), rfl, congrArg iI (show 0 = (if 0 ≤ f ∧ f < cnt ∧ 0 ≤ i ∧ i < ln f then 1 else 0) from (by first | rfl | omega | (rw [if_pos (by omega)]) | (rw [if_neg (by omega)]))), by rw [ht]; exact hP, hD⟩, hS.F ht⟩) hS.2.2 dX1_hasStep_27
    ·
      refine lv_iload_n hx hb dX1_hasStep_12 rfl (lv_at hl 2 rfl) ?_
      refine lv_aload_n hx hb dX1_hasStep_13 rfl (lv_at hl 0 rfl) ?_
      refine va_get (D := D) (ci := 1) (v := .ref (a 3)) (C := RX1) (T := TX1) (N := 6) hx hb hts iw_1 hown hK.1 hP 0 rfl rfl 2 (by decide) fl_18 (fun _ h9 => h9) rfl dX1_hasStep_14 ?_
      refine lv_iload_n hx hb dX1_hasStep_17 rfl (lv_at hl 1 rfl) ?_
      refine n_iald (n := 5) hx hb hK.1 hP 3 0 rfl rfl (by omega) (by decide) dX1_hasStep_18 ?_
      have q_3 := hln f (by omega) (by omega)
      refine n_icmp_ge (tgt := 26) hx hb dX1_hasStep_19 (by decide) (by omega) (fun c_4 => ?_) (fun c_4 => ?_)
      ·
        refine lv_iconst (v := iI 0) hx hb dX1_hasStep_26 (by decide +kernel) ?_
        exact W.zret (v := iI 0) (ty := .boolean) hx hb hr (by decide +kernel) (fun t ht hW => ⟨⟨_, (), rfl, congrArg iI (show 0 = (if 0 ≤ f ∧ f < cnt ∧ 0 ≤ i ∧ i < ln f then 1 else 0) from (by first | rfl | omega | (rw [if_pos (by omega)]) | (rw [if_neg (by omega)]))), by rw [ht]; exact hP, hD⟩, hS.F ht⟩) hS.2.2 dX1_hasStep_27
      ·
        refine lv_iconst (v := iI 1) hx hb dX1_hasStep_22 (by decide +kernel) ?_
        refine lv_goto (tgt := 27) hx hb dX1_hasStep_23 (by decide) ?_
        exact W.zret (v := iI 1) (ty := .boolean) hx hb hr (by decide +kernel) (fun t ht hW => ⟨⟨_, (), rfl, congrArg iI (show 1 = (if 0 ≤ f ∧ f < cnt ∧ 0 ≤ i ∧ i < ln f then 1 else 0) from (by first | rfl | omega | (rw [if_pos (by omega)]) | (rw [if_neg (by omega)]))), by rw [ht]; exact hP, hD⟩, hS.F ht⟩) hS.2.2 dX1_hasStep_27
set_option maxHeartbeats 4000000 in
set_option maxRecDepth 100000 in
theorem c_X1_stepAt (l : Launch) (D : va_G) (cI cS : ClassId) (a : Nat → Nat) (cnt : Int) (lv : Int) (kd : Int → Int) (gd : Int → Int) (ln : Int → Int) (st : Int → Int) (sz : Nat) (f : Int) (i : Int) (hc : 0 ≤ cnt ∧ cnt ≤ 5) (hln : ∀ j : Int, 0 ≤ j → j < cnt → 0 ≤ ln j ∧ ln j ≤ 4) (hf : -2147483648 ≤ f ∧ f < 2147483648) (hi : -2147483648 ≤ i ∧ i < 2147483648) : Met l yX1_stepAt wsX1_stepAt ({ frames := 2, cells := 0, slots := 0, locals := 43 }) (cP D cI cS (W_P cI cS a cnt lv kd gd ln st) sz [.ref (a 0), .int (iI f), .int (iI i)]) (va_Qi (fun (r : Int32) (u : Unit) => r = iI (if 0 ≤ f ∧ f < cnt ∧ 0 ≤ i ∧ i < ln f then st (f * 4 + i) else (-1))) (fun (u : Unit) t => cB D (va_A (W_P cI cS a cnt lv kd gd ln st) sz) (W_P cI cS a cnt lv kd gd ln st) t) (va_A (W_P cI cS a cnt lv kd gd ln st) sz)) 0 0 (va_A (W_P cI cS a cnt lv kd gd ln st) sz) := by
  refine Met.ofW (cc := cX1_stepAt) (maxL := 3) (ret := (some .int)) (by decide) rfl ?_
  intro p e s m args below meth c_ s₁ B hml hv
  obtain ⟨rfl, hsz, hP, hK, hD0⟩ := hv
  have hx := B.exec
  have hb := B.bytes
  have hr := B.returns
  have hts := atoms_spec (ws := wsX1_stepAt) B.pre
  have hown : s.vm.findClass RX1 = some m.cls := findClass_of_methodNamed B.named
  have hlocks := B.notSynchronized
  subst hsz
  have hD := hD0.self (sz := s.heap.size)
  generalize hAe : va_A (W_P cI cS a cnt lv kd gd ln st) s.heap.size = A at hD ⊢
  have hA : ∀ q : Nat, s.heap.size ≤ q → A q := fun q h => by rw [← hAe]; exact Or.inr h
  have hS : va_S A s.heap s.heap [] := va_S.rf
  have hP : va_P D vwCl (W_P cI cS a cnt lv kd gd ln st) s.heap := hP
  have hl := lv_entry ([.ref (a 0), .int (iI f), .int (iI i)] : List Value) (n := 3) (Nat.le_of_ble_eq_true rfl)
  rw [lg_entry_eq]
  generalize (lg_sl ([.ref (a 0), .int (iI f), .int (iI i)] : List Value) ++ List.replicate (3 - (lg_sl ([.ref (a 0), .int (iI f), .int (iI i)] : List Value)).length) Slot.unset).toArray = ls at hl ⊢
  have hl : lv_has ls 3 [(0, .ref (a 0)), (1, .int (iI f)), (2, .int (iI i))] := hl
  have fl_21 := hts (.fieldLink RX1 21 "ActRows$Program" "steps" "[I") (by decide +kernel)
  have iw_1 : ∀ w ∈ wsX10, w ∈ wsX1_stepAt := by decide +kernel
  refine lv_aload_n hx hb dX1_stepAt_0 rfl (lv_at hl 0 rfl) ?_
  refine lv_iload_n hx hb dX1_stepAt_1 rfl (lv_at hl 1 rfl) ?_
  refine lv_iload_n hx hb dX1_stepAt_2 rfl (lv_at hl 2 rfl) ?_
  refine x_callVi (As := [.int (iI f), .int (iI i)]) (rest := []) ⟨hx, hb, hml, hown, hts⟩ (c_X1_hasStep l D cI cS a cnt lv kd gd ln st s.heap.size f i (by first | assumption | omega) (by first | assumption | omega) (by first | assumption | omega) (by first | assumption | omega)) (cwV 2 hts gX1_stepAt_X1_hasStep rfl rfl rfl (by decide +kernel) ⟨Nat.le_of_ble_eq_true rfl, Nat.le_of_ble_eq_true rfl⟩) hK hP hD hS hA [0, 1, 2, 3, 4] [] (wr := ([] : va_W)) rfl rfl (by decide) (by decide) (by decide) 0 1 rfl rfl rfl [0, 1, 2, 3, 4] (fun (u : Unit) => (W_P cI cS a cnt lv kd gd ln st)) (fun _ => rfl) (by decide) rfl hl.1 rfl (Nat.le_of_ble_eq_true rfl) ⟨Nat.zero_le _, Nat.zero_le _⟩ dX1_stepAt_3 (fun r_ u_ H locs hw hP hD hS => ?_)
  try dsimp only at hw
  subst hw
  have hP : va_P D vwCl (W_P cI cS a cnt lv kd gd ln st) H := hP
  have hD : va_D A (W_P cI cS a cnt lv kd gd ln st) := hD
  refine n_if_b1 (tgt := 22) hx hb dX1_stepAt_6 (by decide)  (fun c_1 => ?_) (fun c_1 => ?_)
  ·
    refine lv_iconst (v := iI (-1)) hx hb dX1_stepAt_22 (by decide +kernel) ?_
    exact W.iret (v := iI (-1)) hx hb hr (fun t ht hW => ⟨⟨_, (), rfl, congrArg iI (show (-1) = (if 0 ≤ f ∧ f < cnt ∧ 0 ≤ i ∧ i < ln f then st (f * 4 + i) else (-1)) from (by first | rfl | omega | (rw [if_pos (by omega)]) | (rw [if_neg (by omega)]))), by rw [ht]; exact hP, hD⟩, hS.F ht⟩) hS.2.2 dX1_stepAt_23
  ·
    refine lv_aload_n hx hb dX1_stepAt_9 rfl (lv_at hl 0 rfl) ?_
    refine va_get (D := D) (ci := 1) (v := .ref (a 4)) (C := RX1) (T := TX1) (N := 6) hx hb hts iw_1 hown hK.1 hP 0 rfl rfl 3 (by decide) fl_21 (fun _ h9 => h9) rfl dX1_stepAt_10 ?_
    refine lv_iload_n hx hb dX1_stepAt_13 rfl (lv_at hl 1 rfl) ?_
    refine lv_iconst (v := iI 4) hx hb dX1_stepAt_14 (by decide +kernel) ?_
    refine n_imul hx hb dX1_stepAt_15 ?_
    refine lv_iload_n hx hb dX1_stepAt_16 rfl (lv_at hl 2 rfl) ?_
    refine n_iadd hx hb dX1_stepAt_17 ?_
    refine n_iald (n := 20) hx hb hK.1 hP 4 0 rfl rfl (by have := hln f (by omega) (by omega); omega) (by decide) dX1_stepAt_18 ?_
    refine lv_goto (tgt := 23) hx hb dX1_stepAt_19 (by decide) ?_
    exact W.iret (v := iI (st ((f * 4) + i))) hx hb hr (fun t ht hW => ⟨⟨_, (), rfl, congrArg iI (show (st ((f * 4) + i)) = (if 0 ≤ f ∧ f < cnt ∧ 0 ≤ i ∧ i < ln f then st (f * 4 + i) else (-1)) from (by first | rfl | omega | (rw [if_pos (by omega)]) | (rw [if_neg (by omega)]))), by rw [ht]; exact hP, hD⟩, hS.F ht⟩) hS.2.2 dX1_stepAt_23
set_option maxHeartbeats 4000000 in
set_option maxRecDepth 100000 in
theorem c_X1_setStep (l : Launch) (D : va_G) (cI cS : ClassId) (a : Nat → Nat) (cnt : Int) (lv : Int) (kd : Int → Int) (gd : Int → Int) (ln : Int → Int) (st : Int → Int) (sz : Nat) (f : Int) (i : Int) (v : Int) (hc : 0 ≤ cnt ∧ cnt ≤ 5) (hln : ∀ j : Int, 0 ≤ j → j < cnt → 0 ≤ ln j ∧ ln j ≤ 4) (hf : -2147483648 ≤ f ∧ f < 2147483648) (hi : -2147483648 ≤ i ∧ i < 2147483648) : Met l yX1_setStep wsX1_setStep ({ frames := 2, cells := 0, slots := 0, locals := 43 }) (cP D cI cS (W_P cI cS a cnt lv kd gd ln st) sz [.ref (a 0), .int (iI f), .int (iI i), .int (iI v)]) (va_Qv (fun (u : Unit) => True) (fun (u : Unit) t => cB D (va_A (W_P cI cS a cnt lv kd gd ln st) sz) (W_P cI cS a cnt lv kd gd ln (if 0 ≤ f ∧ f < cnt ∧ 0 ≤ i ∧ i < ln f then updI st (f * 4 + i) v else st)) t) (va_A (W_P cI cS a cnt lv kd gd ln st) sz)) 0 0 (va_A (W_P cI cS a cnt lv kd gd ln st) sz) := by
  refine Met.ofW (cc := cX1_setStep) (maxL := 4) (ret := none) (by decide) rfl ?_
  intro p e s m args below meth c_ s₁ B hml hv
  obtain ⟨rfl, hsz, hP, hK, hD0⟩ := hv
  have hx := B.exec
  have hb := B.bytes
  have hr := B.returns
  have hts := atoms_spec (ws := wsX1_setStep) B.pre
  have hown : s.vm.findClass RX1 = some m.cls := findClass_of_methodNamed B.named
  have hlocks := B.notSynchronized
  subst hsz
  have hD := hD0.self (sz := s.heap.size)
  generalize hAe : va_A (W_P cI cS a cnt lv kd gd ln st) s.heap.size = A at hD ⊢
  have hA : ∀ q : Nat, s.heap.size ≤ q → A q := fun q h => by rw [← hAe]; exact Or.inr h
  have hS : va_S A s.heap s.heap [] := va_S.rf
  have hP : va_P D vwCl (W_P cI cS a cnt lv kd gd ln st) s.heap := hP
  have hl := lv_entry ([.ref (a 0), .int (iI f), .int (iI i), .int (iI v)] : List Value) (n := 4) (Nat.le_of_ble_eq_true rfl)
  rw [lg_entry_eq]
  generalize (lg_sl ([.ref (a 0), .int (iI f), .int (iI i), .int (iI v)] : List Value) ++ List.replicate (4 - (lg_sl ([.ref (a 0), .int (iI f), .int (iI i), .int (iI v)] : List Value)).length) Slot.unset).toArray = ls at hl ⊢
  have hl : lv_has ls 4 [(0, .ref (a 0)), (1, .int (iI f)), (2, .int (iI i)), (3, .int (iI v))] := hl
  have fl_21 := hts (.fieldLink RX1 21 "ActRows$Program" "steps" "[I") (by decide +kernel)
  have iw_1 : ∀ w ∈ wsX10, w ∈ wsX1_setStep := by decide +kernel
  refine lv_aload_n hx hb dX1_setStep_0 rfl (lv_at hl 0 rfl) ?_
  refine lv_iload_n hx hb dX1_setStep_1 rfl (lv_at hl 1 rfl) ?_
  refine lv_iload_n hx hb dX1_setStep_2 rfl (lv_at hl 2 rfl) ?_
  refine x_callVi (As := [.int (iI f), .int (iI i)]) (rest := []) ⟨hx, hb, hml, hown, hts⟩ (c_X1_hasStep l D cI cS a cnt lv kd gd ln st s.heap.size f i (by first | assumption | omega) (by first | assumption | omega) (by first | assumption | omega) (by first | assumption | omega)) (cwV 2 hts gX1_setStep_X1_hasStep rfl rfl rfl (by decide +kernel) ⟨Nat.le_of_ble_eq_true rfl, Nat.le_of_ble_eq_true rfl⟩) hK hP hD hS hA [0, 1, 2, 3, 4] [] (wr := ([] : va_W)) rfl rfl (by decide) (by decide) (by decide) 0 1 rfl rfl rfl [0, 1, 2, 3, 4] (fun (u : Unit) => (W_P cI cS a cnt lv kd gd ln st)) (fun _ => rfl) (by decide) rfl hl.1 rfl (Nat.le_of_ble_eq_true rfl) ⟨Nat.zero_le _, Nat.zero_le _⟩ dX1_setStep_3 (fun r_ u_ H locs hw hP hD hS => ?_)
  try dsimp only at hw
  subst hw
  have hP : va_P D vwCl (W_P cI cS a cnt lv kd gd ln st) H := hP
  have hD : va_D A (W_P cI cS a cnt lv kd gd ln st) := hD
  refine n_if_b1 (tgt := 20) hx hb dX1_setStep_6 (by decide)  (fun c_1 => ?_) (fun c_1 => ?_)
  ·
    have e_2 : (st : Int → Int) = (if 0 ≤ f ∧ f < cnt ∧ 0 ≤ i ∧ i < ln f then updI st (f * 4 + i) v else st) := (by first | rfl | (rw [if_pos (by omega)]) | (rw [if_neg (by omega)]))
    have hP : va_P D vwCl (W_P cI cS a cnt lv kd gd ln (if 0 ≤ f ∧ f < cnt ∧ 0 ≤ i ∧ i < ln f then updI st (f * 4 + i) v else st)) H := Eq.mp (congrArg (fun z_ => va_P D vwCl (W_P cI cS a cnt lv kd gd ln z_) H) e_2) hP
    have hD : va_D A (W_P cI cS a cnt lv kd gd ln (if 0 ≤ f ∧ f < cnt ∧ 0 ≤ i ∧ i < ln f then updI st (f * 4 + i) v else st)) := Eq.mp (congrArg (fun z_ => va_D A (W_P cI cS a cnt lv kd gd ln z_)) e_2) hD
    exact W.vret hx hb hr (fun t ht hW => ⟨⟨(), rfl, trivial, by rw [ht]; exact hP, hD⟩, hS.F ht⟩) hS.2.2 dX1_setStep_20
  ·
    refine lv_aload_n hx hb dX1_setStep_9 rfl (lv_at hl 0 rfl) ?_
    refine va_get (D := D) (ci := 1) (v := .ref (a 4)) (C := RX1) (T := TX1) (N := 6) hx hb hts iw_1 hown hK.1 hP 0 rfl rfl 3 (by decide) fl_21 (fun _ h9 => h9) rfl dX1_setStep_10 ?_
    refine lv_iload_n hx hb dX1_setStep_13 rfl (lv_at hl 1 rfl) ?_
    refine lv_iconst (v := iI 4) hx hb dX1_setStep_14 (by decide +kernel) ?_
    refine n_imul hx hb dX1_setStep_15 ?_
    refine lv_iload_n hx hb dX1_setStep_16 rfl (lv_at hl 2 rfl) ?_
    refine n_iadd hx hb dX1_setStep_17 ?_
    refine lv_iload_n hx hb dX1_setStep_18 rfl (lv_at hl 3 rfl) ?_
    refine n_iast (n := 20) hx hb hK.1 hP hD hS 4 0 rfl rfl (by have := hln f (by omega) (by omega); omega) (by decide) dX1_setStep_19 (fun H locs hP hD hS => ?_)
    have hP : va_P D vwCl (W_P cI cS a cnt lv kd gd ln (updI st ((f * 4) + i) v)) H := hP
    have hD : va_D A (W_P cI cS a cnt lv kd gd ln (updI st ((f * 4) + i) v)) := hD
    have e_3 : ((updI st ((f * 4) + i) v) : Int → Int) = (if 0 ≤ f ∧ f < cnt ∧ 0 ≤ i ∧ i < ln f then updI st (f * 4 + i) v else st) := (by first | rfl | (rw [if_pos (by omega)]) | (rw [if_neg (by omega)]))
    have hP : va_P D vwCl (W_P cI cS a cnt lv kd gd ln (if 0 ≤ f ∧ f < cnt ∧ 0 ≤ i ∧ i < ln f then updI st (f * 4 + i) v else st)) H := Eq.mp (congrArg (fun z_ => va_P D vwCl (W_P cI cS a cnt lv kd gd ln z_) H) e_3) hP
    have hD : va_D A (W_P cI cS a cnt lv kd gd ln (if 0 ≤ f ∧ f < cnt ∧ 0 ≤ i ∧ i < ln f then updI st (f * 4 + i) v else st)) := Eq.mp (congrArg (fun z_ => va_D A (W_P cI cS a cnt lv kd gd ln z_)) e_3) hD
    exact W.vret hx hb hr (fun t ht hW => ⟨⟨(), rfl, trivial, by rw [ht]; exact hP, hD⟩, hS.F ht⟩) hS.2.2 dX1_setStep_20
set_option maxHeartbeats 4000000 in
set_option maxRecDepth 100000 in
theorem c_X1_stepsOfAll (l : Launch) (D : va_G) (cI cS : ClassId) (a : Nat → Nat) (cnt : Int) (lv : Int) (kd : Int → Int) (gd : Int → Int) (ln : Int → Int) (st : Int → Int) (sz : Nat) (hc : 0 ≤ cnt ∧ cnt ≤ 5) (hln : ∀ j : Int, 0 ≤ j → j < cnt → 0 ≤ ln j ∧ ln j ≤ 4) : Met l yX1_stepsOfAll wsX1_stepsOfAll ({ frames := 0, cells := 0, slots := 0, locals := 0 }) (cP D cI cS (W_P cI cS a cnt lv kd gd ln st) sz [.ref (a 0)]) (va_Qi (fun (r : Int32) (u : Unit) => r = iI (sumI ln cnt.toNat)) (fun (u : Unit) t => cB D (va_A (W_P cI cS a cnt lv kd gd ln st) sz) (W_P cI cS a cnt lv kd gd ln st) t) (va_A (W_P cI cS a cnt lv kd gd ln st) sz)) 0 0 (va_A (W_P cI cS a cnt lv kd gd ln st) sz) := by
  refine Met.ofW (cc := cX1_stepsOfAll) (maxL := 3) (ret := (some .int)) (by decide) rfl ?_
  intro p e s m args below meth c_ s₁ B hml hv
  obtain ⟨rfl, hsz, hP, hK, hD0⟩ := hv
  have hx := B.exec
  have hb := B.bytes
  have hr := B.returns
  have hts := atoms_spec (ws := wsX1_stepsOfAll) B.pre
  have hown : s.vm.findClass RX1 = some m.cls := findClass_of_methodNamed B.named
  have hlocks := B.notSynchronized
  subst hsz
  have hD := hD0.self (sz := s.heap.size)
  generalize hAe : va_A (W_P cI cS a cnt lv kd gd ln st) s.heap.size = A at hD ⊢
  have hA : ∀ q : Nat, s.heap.size ≤ q → A q := fun q h => by rw [← hAe]; exact Or.inr h
  have hS : va_S A s.heap s.heap [] := va_S.rf
  have hP : va_P D vwCl (W_P cI cS a cnt lv kd gd ln st) s.heap := hP
  have hl := lv_entry ([.ref (a 0)] : List Value) (n := 3) (Nat.le_of_ble_eq_true rfl)
  rw [lg_entry_eq]
  generalize (lg_sl ([.ref (a 0)] : List Value) ++ List.replicate (3 - (lg_sl ([.ref (a 0)] : List Value)).length) Slot.unset).toArray = ls at hl ⊢
  have hl : lv_has ls 3 [(0, .ref (a 0))] := hl
  have fl_24 := hts (.fieldLink RX1 24 "ActRows$Program" "count" "I") (by decide +kernel)
  have iw_1 : ∀ w ∈ wsX10, w ∈ wsX1_stepsOfAll := by decide +kernel
  have fl_18 := hts (.fieldLink RX1 18 "ActRows$Program" "lengths" "[I") (by decide +kernel)
  refine lv_iconst (v := iI 0) hx hb dX1_stepsOfAll_0 (by decide +kernel) ?_
  refine lv_istore_n (lv' := [(1, .int (iI 0)), (0, .ref (a 0))]) hx hb dX1_stepsOfAll_1 rfl hl (by decide) rfl (fun ls hl => ?_)
  refine lv_iconst (v := iI 0) hx hb dX1_stepsOfAll_2 (by decide +kernel) ?_
  refine lv_istore_n (lv' := [(2, .int (iI 0)), (1, .int (iI 0)), (0, .ref (a 0))]) hx hb dX1_stepsOfAll_3 rfl hl (by decide) rfl (fun ls hl => ?_)
  refine x_loop (σ := Int × Int) (fun (xv_ : Int × Int) => match xv_ with | (al, f) => (0 ≤ f ∧ f ≤ cnt) ∧ (al = sumI ln f.toNat)) (fun (xv_ : Int × Int) => match xv_ with | (al, f) => (cnt - f).toNat) (fun (xv_ : Int × Int) => match xv_ with | (al, f) => (W_P cI cS a cnt lv kd gd ln st)) (fun (xv_ : Int × Int) => match xv_ with | (al, f) => [(2, .int (iI f)), (1, .int (iI al)), (0, .ref (a 0))]) (nL := 3) ?step_1 (0, 0) (by (try dsimp only); exact ⟨by omega, rfl⟩) hP hD hS hl
  case step_1 =>
    intro xv_ hI ih H locs ls hP hD hS hl
    obtain ⟨al, f⟩ := xv_
    try dsimp only at hI ih
    obtain ⟨hf, ha⟩ := hI
    have hP : va_P D vwCl (W_P cI cS a cnt lv kd gd ln st) H := hP
    have hD : va_D A (W_P cI cS a cnt lv kd gd ln st) := hD
    have hl : lv_has ls 3 [(2, .int (iI f)), (1, .int (iI al)), (0, .ref (a 0))] := hl
    have ih_2 := ih
    refine lv_iload_n hx hb dX1_stepsOfAll_4 rfl (lv_at hl 0 rfl) ?_
    refine lv_aload_n hx hb dX1_stepsOfAll_5 rfl (lv_at hl 2 rfl) ?_
    refine va_get (D := D) (ci := 1) (v := .int (iI cnt)) (C := RX1) (T := TX1) (N := 6) hx hb hts iw_1 hown hK.1 hP 0 rfl rfl 4 (by decide) fl_24 (fun _ h9 => h9) rfl dX1_stepsOfAll_6 ?_
    refine n_icmp_ge (tgt := 27) hx hb dX1_stepsOfAll_9 (by decide) (by omega) (fun c_3 => ?_) (fun c_3 => ?_)
    ·
      refine lv_iload_n hx hb dX1_stepsOfAll_27 rfl (lv_at hl 1 rfl) ?_
      exact W.iret (v := iI al) hx hb hr (fun t ht hW => ⟨⟨_, (), rfl, congrArg iI (show al = (sumI ln cnt.toNat) from (by rw [ha, show f = cnt by omega])), by rw [ht]; exact hP, hD⟩, hS.F ht⟩) hS.2.2 dX1_stepsOfAll_28
    ·
      refine lv_iload_n hx hb dX1_stepsOfAll_12 rfl (lv_at hl 1 rfl) ?_
      refine lv_aload_n hx hb dX1_stepsOfAll_13 rfl (lv_at hl 2 rfl) ?_
      refine va_get (D := D) (ci := 1) (v := .ref (a 3)) (C := RX1) (T := TX1) (N := 6) hx hb hts iw_1 hown hK.1 hP 0 rfl rfl 2 (by decide) fl_18 (fun _ h9 => h9) rfl dX1_stepsOfAll_14 ?_
      refine lv_iload_n hx hb dX1_stepsOfAll_17 rfl (lv_at hl 0 rfl) ?_
      refine n_iald (n := 5) hx hb hK.1 hP 3 0 rfl rfl (by omega) (by decide) dX1_stepsOfAll_18 ?_
      have q_4 := hln f (by omega) (by omega)
      refine n_iadd hx hb dX1_stepsOfAll_19 ?_
      refine lv_istore_n (lv' := [(1, .int (iI (al + (ln f)))), (2, .int (iI f)), (0, .ref (a 0))]) hx hb dX1_stepsOfAll_20 rfl hl (by decide) rfl (fun ls hl => ?_)
      refine n_iinc (lv' := [(2, .int (iI (f + 1))), (1, .int (iI (al + (ln f)))), (0, .ref (a 0))]) hx hb dX1_stepsOfAll_21 hl (k := 1) rfl (by decide) rfl (fun ls hl => ?_)
      refine lv_goto (tgt := 4) hx hb dX1_stepsOfAll_24 (by decide) ?_
      exact ih_2 ((al + (ln f)), (f + 1)) (by (try dsimp only); exact ⟨by omega, by rw [sumI_s ln hf.1, ha]⟩) (by (try dsimp only); exact (by omega)) _ _ _ hP hD hS (lv_sub hl [0, 1, 2] rfl)
set_option maxHeartbeats 4000000 in
set_option maxRecDepth 100000 in
theorem c_X1_clear (l : Launch) (D : va_G) (cI cS : ClassId) (a : Nat → Nat) (cnt : Int) (lv : Int) (kd : Int → Int) (gd : Int → Int) (ln : Int → Int) (st : Int → Int) (sz : Nat)  : Met l yX1_clear wsX1_clear ({ frames := 0, cells := 0, slots := 0, locals := 0 }) (cP D cI cS (W_P cI cS a cnt lv kd gd ln st) sz [.ref (a 0)]) (va_Qv (fun (u : Unit) => True) (fun (u : Unit) t => cB D (va_A (W_P cI cS a cnt lv kd gd ln st) sz) (W_P cI cS a 0 15 kd gd ln st) t) (va_A (W_P cI cS a cnt lv kd gd ln st) sz)) 0 0 (va_A (W_P cI cS a cnt lv kd gd ln st) sz) := by
  refine Met.ofW (cc := cX1_clear) (maxL := 1) (ret := none) (by decide) rfl ?_
  intro p e s m args below meth c_ s₁ B hml hv
  obtain ⟨rfl, hsz, hP, hK, hD0⟩ := hv
  have hx := B.exec
  have hb := B.bytes
  have hr := B.returns
  have hts := atoms_spec (ws := wsX1_clear) B.pre
  have hown : s.vm.findClass RX1 = some m.cls := findClass_of_methodNamed B.named
  have hlocks := B.notSynchronized
  subst hsz
  have hD := hD0.self (sz := s.heap.size)
  generalize hAe : va_A (W_P cI cS a cnt lv kd gd ln st) s.heap.size = A at hD ⊢
  have hA : ∀ q : Nat, s.heap.size ≤ q → A q := fun q h => by rw [← hAe]; exact Or.inr h
  have hS : va_S A s.heap s.heap [] := va_S.rf
  have hP : va_P D vwCl (W_P cI cS a cnt lv kd gd ln st) s.heap := hP
  have hl := lv_entry ([.ref (a 0)] : List Value) (n := 1) (Nat.le_of_ble_eq_true rfl)
  rw [lg_entry_eq]
  generalize (lg_sl ([.ref (a 0)] : List Value) ++ List.replicate (1 - (lg_sl ([.ref (a 0)] : List Value)).length) Slot.unset).toArray = ls at hl ⊢
  have hl : lv_has ls 1 [(0, .ref (a 0))] := hl
  have fl_24 := hts (.fieldLink RX1 24 "ActRows$Program" "count" "I") (by decide +kernel)
  have iw_1 : ∀ w ∈ wsX10, w ∈ wsX1_clear := by decide +kernel
  have fl_28 := hts (.fieldLink RX1 28 "ActRows$Program" "live" "I") (by decide +kernel)
  refine lv_aload_n hx hb dX1_clear_0 rfl (lv_at hl 0 rfl) ?_
  refine lv_iconst (v := iI 0) hx hb dX1_clear_1 (by decide +kernel) ?_
  refine va_put (D := D) (ci := 1) (v := .int (iI 0)) (ty := .int) (C := RX1) (T := TX1) (N := 6) hx hb hts iw_1 tyX1 tyX1_ok nmX1 hown hK.1 hP hD hS 0 rfl rfl 4 (by decide) fl_24 (fun _ h9 => h9) rfl (by decide +kernel) rfl rfl (Nat.le_of_ble_eq_true rfl) dX1_clear_2 (fun H locs hP hD hS => ?_)
  have hP : va_P D vwCl (W_P cI cS a 0 lv kd gd ln st) H := hP
  have hD : va_D A (W_P cI cS a 0 lv kd gd ln st) := hD
  refine lv_aload_n hx hb dX1_clear_5 rfl (lv_at hl 0 rfl) ?_
  refine lv_bipush (v := iI 15) hx hb dX1_clear_6 (by decide +kernel) ?_
  refine va_put (D := D) (ci := 1) (v := .int (iI 15)) (ty := .int) (C := RX1) (T := TX1) (N := 6) hx hb hts iw_1 tyX1 tyX1_ok nmX1 hown hK.1 hP hD hS 0 rfl rfl 5 (by decide) fl_28 (fun _ h9 => h9) rfl (by decide +kernel) rfl rfl (Nat.le_of_ble_eq_true rfl) dX1_clear_8 (fun H locs hP hD hS => ?_)
  have hP : va_P D vwCl (W_P cI cS a 0 15 kd gd ln st) H := hP
  have hD : va_D A (W_P cI cS a 0 15 kd gd ln st) := hD
  exact W.vret hx hb hr (fun t ht hW => ⟨⟨(), rfl, trivial, by rw [ht]; exact hP, hD⟩, hS.F ht⟩) hS.2.2 dX1_clear_11
set_option maxHeartbeats 4000000 in
set_option maxRecDepth 100000 in
theorem c_X1_addFunction (l : Launch) (D : va_G) (cI cS : ClassId) (a : Nat → Nat) (cnt : Int) (lv : Int) (kd : Int → Int) (gd : Int → Int) (ln : Int → Int) (st : Int → Int) (sz : Nat) (hc : 0 ≤ cnt ∧ cnt ≤ 5) : Met l yX1_addFunction wsX1_addFunction ({ frames := 0, cells := 0, slots := 0, locals := 0 }) (cP D cI cS (W_P cI cS a cnt lv kd gd ln st) sz [.ref (a 0)]) (va_Qi (fun (r : Int32) (u : Unit) => r = iI (if cnt < 5 then 1 else 0)) (fun (u : Unit) t => cB D (va_A (W_P cI cS a cnt lv kd gd ln st) sz) (W_P cI cS a (if cnt < 5 then cnt + 1 else cnt) lv kd gd (if cnt < 5 then updI ln cnt 0 else ln) st) t) (va_A (W_P cI cS a cnt lv kd gd ln st) sz)) 0 0 (va_A (W_P cI cS a cnt lv kd gd ln st) sz) := by
  refine Met.ofW (cc := cX1_addFunction) (maxL := 1) (ret := (some .boolean)) (by decide) rfl ?_
  intro p e s m args below meth c_ s₁ B hml hv
  obtain ⟨rfl, hsz, hP, hK, hD0⟩ := hv
  have hx := B.exec
  have hb := B.bytes
  have hr := B.returns
  have hts := atoms_spec (ws := wsX1_addFunction) B.pre
  have hown : s.vm.findClass RX1 = some m.cls := findClass_of_methodNamed B.named
  have hlocks := B.notSynchronized
  subst hsz
  have hD := hD0.self (sz := s.heap.size)
  generalize hAe : va_A (W_P cI cS a cnt lv kd gd ln st) s.heap.size = A at hD ⊢
  have hA : ∀ q : Nat, s.heap.size ≤ q → A q := fun q h => by rw [← hAe]; exact Or.inr h
  have hS : va_S A s.heap s.heap [] := va_S.rf
  have hP : va_P D vwCl (W_P cI cS a cnt lv kd gd ln st) s.heap := hP
  have hl := lv_entry ([.ref (a 0)] : List Value) (n := 1) (Nat.le_of_ble_eq_true rfl)
  rw [lg_entry_eq]
  generalize (lg_sl ([.ref (a 0)] : List Value) ++ List.replicate (1 - (lg_sl ([.ref (a 0)] : List Value)).length) Slot.unset).toArray = ls at hl ⊢
  have hl : lv_has ls 1 [(0, .ref (a 0))] := hl
  have fl_24 := hts (.fieldLink RX1 24 "ActRows$Program" "count" "I") (by decide +kernel)
  have iw_1 : ∀ w ∈ wsX10, w ∈ wsX1_addFunction := by decide +kernel
  have fl_18 := hts (.fieldLink RX1 18 "ActRows$Program" "lengths" "[I") (by decide +kernel)
  refine lv_aload_n hx hb dX1_addFunction_0 rfl (lv_at hl 0 rfl) ?_
  refine va_get (D := D) (ci := 1) (v := .int (iI cnt)) (C := RX1) (T := TX1) (N := 6) hx hb hts iw_1 hown hK.1 hP 0 rfl rfl 4 (by decide) fl_24 (fun _ h9 => h9) rfl dX1_addFunction_1 ?_
  refine lv_iconst (v := iI 5) hx hb dX1_addFunction_4 (by decide +kernel) ?_
  refine n_icmp_lt (tgt := 10) hx hb dX1_addFunction_5 (by decide) (by omega) (fun c_1 => ?_) (fun c_1 => ?_)
  ·
    refine lv_aload_n hx hb dX1_addFunction_10 rfl (lv_at hl 0 rfl) ?_
    refine va_get (D := D) (ci := 1) (v := .ref (a 3)) (C := RX1) (T := TX1) (N := 6) hx hb hts iw_1 hown hK.1 hP 0 rfl rfl 2 (by decide) fl_18 (fun _ h9 => h9) rfl dX1_addFunction_11 ?_
    refine lv_aload_n hx hb dX1_addFunction_14 rfl (lv_at hl 0 rfl) ?_
    refine va_get (D := D) (ci := 1) (v := .int (iI cnt)) (C := RX1) (T := TX1) (N := 6) hx hb hts iw_1 hown hK.1 hP 0 rfl rfl 4 (by decide) fl_24 (fun _ h9 => h9) rfl dX1_addFunction_15 ?_
    refine lv_iconst (v := iI 0) hx hb dX1_addFunction_18 (by decide +kernel) ?_
    refine n_iast (n := 5) hx hb hK.1 hP hD hS 3 0 rfl rfl (by omega) (by decide) dX1_addFunction_19 (fun H locs hP hD hS => ?_)
    have hP : va_P D vwCl (W_P cI cS a cnt lv kd gd (updI ln cnt 0) st) H := hP
    have hD : va_D A (W_P cI cS a cnt lv kd gd (updI ln cnt 0) st) := hD
    refine lv_aload_n hx hb dX1_addFunction_20 rfl (lv_at hl 0 rfl) ?_
    refine lv_dup hx hb dX1_addFunction_21 rfl ?_
    refine va_get (D := D) (ci := 1) (v := .int (iI cnt)) (C := RX1) (T := TX1) (N := 6) hx hb hts iw_1 hown hK.1 hP 0 rfl rfl 4 (by decide) fl_24 (fun _ h9 => h9) rfl dX1_addFunction_22 ?_
    refine lv_iconst (v := iI 1) hx hb dX1_addFunction_25 (by decide +kernel) ?_
    refine n_iadd hx hb dX1_addFunction_26 ?_
    refine va_put (D := D) (ci := 1) (v := .int (iI (cnt + 1))) (ty := .int) (C := RX1) (T := TX1) (N := 6) hx hb hts iw_1 tyX1 tyX1_ok nmX1 hown hK.1 hP hD hS 0 rfl rfl 4 (by decide) fl_24 (fun _ h9 => h9) rfl (by decide +kernel) rfl rfl (Nat.le_of_ble_eq_true rfl) dX1_addFunction_27 (fun H locs hP hD hS => ?_)
    have hP : va_P D vwCl (W_P cI cS a (cnt + 1) lv kd gd (updI ln cnt 0) st) H := hP
    have hD : va_D A (W_P cI cS a (cnt + 1) lv kd gd (updI ln cnt 0) st) := hD
    refine lv_iconst (v := iI 1) hx hb dX1_addFunction_30 (by decide +kernel) ?_
    have e_2 : ((cnt + 1) : Int) = (if cnt < 5 then cnt + 1 else cnt) := (by first | rfl | omega | (rw [if_pos (by omega)]) | (rw [if_neg (by omega)]))
    have hP : va_P D vwCl (W_P cI cS a (if cnt < 5 then cnt + 1 else cnt) lv kd gd (updI ln cnt 0) st) H := Eq.mp (congrArg (fun z_ => va_P D vwCl (W_P cI cS a z_ lv kd gd (updI ln cnt 0) st) H) e_2) hP
    have hD : va_D A (W_P cI cS a (if cnt < 5 then cnt + 1 else cnt) lv kd gd (updI ln cnt 0) st) := Eq.mp (congrArg (fun z_ => va_D A (W_P cI cS a z_ lv kd gd (updI ln cnt 0) st)) e_2) hD
    have e_3 : ((updI ln cnt 0) : Int → Int) = (if cnt < 5 then updI ln cnt 0 else ln) := (by first | rfl | omega | (rw [if_pos (by omega)]) | (rw [if_neg (by omega)]))
    have hP : va_P D vwCl (W_P cI cS a (if cnt < 5 then cnt + 1 else cnt) lv kd gd (if cnt < 5 then updI ln cnt 0 else ln) st) H := Eq.mp (congrArg (fun z_ => va_P D vwCl (W_P cI cS a (if cnt < 5 then cnt + 1 else cnt) lv kd gd z_ st) H) e_3) hP
    have hD : va_D A (W_P cI cS a (if cnt < 5 then cnt + 1 else cnt) lv kd gd (if cnt < 5 then updI ln cnt 0 else ln) st) := Eq.mp (congrArg (fun z_ => va_D A (W_P cI cS a (if cnt < 5 then cnt + 1 else cnt) lv kd gd z_ st)) e_3) hD
    exact W.zret (v := iI 1) (ty := .boolean) hx hb hr (by decide +kernel) (fun t ht hW => ⟨⟨_, (), rfl, congrArg iI (show 1 = (if cnt < 5 then 1 else 0) from (by first | rfl | omega | (rw [if_pos (by omega)]) | (rw [if_neg (by omega)]))), by rw [ht]; exact hP, hD⟩, hS.F ht⟩) hS.2.2 dX1_addFunction_31
  ·
    refine lv_iconst (v := iI 0) hx hb dX1_addFunction_8 (by decide +kernel) ?_
    have e_4 : (cnt : Int) = (if cnt < 5 then cnt + 1 else cnt) := (by first | rfl | omega | (rw [if_pos (by omega)]) | (rw [if_neg (by omega)]))
    have hP : va_P D vwCl (W_P cI cS a (if cnt < 5 then cnt + 1 else cnt) lv kd gd ln st) s.heap := Eq.mp (congrArg (fun z_ => va_P D vwCl (W_P cI cS a z_ lv kd gd ln st) s.heap) e_4) hP
    have hD : va_D A (W_P cI cS a (if cnt < 5 then cnt + 1 else cnt) lv kd gd ln st) := Eq.mp (congrArg (fun z_ => va_D A (W_P cI cS a z_ lv kd gd ln st)) e_4) hD
    have e_5 : (ln : Int → Int) = (if cnt < 5 then updI ln cnt 0 else ln) := (by first | rfl | omega | (rw [if_pos (by omega)]) | (rw [if_neg (by omega)]))
    have hP : va_P D vwCl (W_P cI cS a (if cnt < 5 then cnt + 1 else cnt) lv kd gd (if cnt < 5 then updI ln cnt 0 else ln) st) s.heap := Eq.mp (congrArg (fun z_ => va_P D vwCl (W_P cI cS a (if cnt < 5 then cnt + 1 else cnt) lv kd gd z_ st) s.heap) e_5) hP
    have hD : va_D A (W_P cI cS a (if cnt < 5 then cnt + 1 else cnt) lv kd gd (if cnt < 5 then updI ln cnt 0 else ln) st) := Eq.mp (congrArg (fun z_ => va_D A (W_P cI cS a (if cnt < 5 then cnt + 1 else cnt) lv kd gd z_ st)) e_5) hD
    exact W.zret (v := iI 0) (ty := .boolean) hx hb hr (by decide +kernel) (fun t ht hW => ⟨⟨_, (), rfl, congrArg iI (show 0 = (if cnt < 5 then 1 else 0) from (by first | rfl | omega | (rw [if_pos (by omega)]) | (rw [if_neg (by omega)]))), by rw [ht]; exact hP, hD⟩, hS.F ht⟩) hS.2.2 dX1_addFunction_9
set_option maxHeartbeats 4000000 in
set_option maxRecDepth 100000 in
theorem c_X1_addStep (l : Launch) (D : va_G) (cI cS : ClassId) (a : Nat → Nat) (cnt : Int) (lv : Int) (kd : Int → Int) (gd : Int → Int) (ln : Int → Int) (st : Int → Int) (sz : Nat) (f : Int) (v : Int) (hc : 0 ≤ cnt ∧ cnt ≤ 5) (hln : ∀ j : Int, 0 ≤ j → j < cnt → 0 ≤ ln j ∧ ln j ≤ 4) (hf : -2147483648 ≤ f ∧ f < 2147483648) : Met l yX1_addStep wsX1_addStep ({ frames := 1, cells := 0, slots := 0, locals := 21 }) (cP D cI cS (W_P cI cS a cnt lv kd gd ln st) sz [.ref (a 0), .int (iI f), .int (iI v)]) (va_Qi (fun (r : Int32) (u : Unit) => r = iI (if (0 ≤ f ∧ f < cnt) ∧ ln f < 4 then 1 else 0)) (fun (u : Unit) t => cB D (va_A (W_P cI cS a cnt lv kd gd ln st) sz) (W_P cI cS a cnt lv kd gd (if (0 ≤ f ∧ f < cnt) ∧ ln f < 4 then updI ln f (ln f + 1) else ln) (if (0 ≤ f ∧ f < cnt) ∧ ln f < 4 then updI st (f * 4 + ln f) v else st)) t) (va_A (W_P cI cS a cnt lv kd gd ln st) sz)) 0 0 (va_A (W_P cI cS a cnt lv kd gd ln st) sz) := by
  refine Met.ofW (cc := cX1_addStep) (maxL := 3) (ret := (some .boolean)) (by decide) rfl ?_
  intro p e s m args below meth c_ s₁ B hml hv
  obtain ⟨rfl, hsz, hP, hK, hD0⟩ := hv
  have hx := B.exec
  have hb := B.bytes
  have hr := B.returns
  have hts := atoms_spec (ws := wsX1_addStep) B.pre
  have hown : s.vm.findClass RX1 = some m.cls := findClass_of_methodNamed B.named
  have hlocks := B.notSynchronized
  subst hsz
  have hD := hD0.self (sz := s.heap.size)
  generalize hAe : va_A (W_P cI cS a cnt lv kd gd ln st) s.heap.size = A at hD ⊢
  have hA : ∀ q : Nat, s.heap.size ≤ q → A q := fun q h => by rw [← hAe]; exact Or.inr h
  have hS : va_S A s.heap s.heap [] := va_S.rf
  have hP : va_P D vwCl (W_P cI cS a cnt lv kd gd ln st) s.heap := hP
  have hl := lv_entry ([.ref (a 0), .int (iI f), .int (iI v)] : List Value) (n := 3) (Nat.le_of_ble_eq_true rfl)
  rw [lg_entry_eq]
  generalize (lg_sl ([.ref (a 0), .int (iI f), .int (iI v)] : List Value) ++ List.replicate (3 - (lg_sl ([.ref (a 0), .int (iI f), .int (iI v)] : List Value)).length) Slot.unset).toArray = ls at hl ⊢
  have hl : lv_has ls 3 [(0, .ref (a 0)), (1, .int (iI f)), (2, .int (iI v))] := hl
  have fl_18 := hts (.fieldLink RX1 18 "ActRows$Program" "lengths" "[I") (by decide +kernel)
  have iw_1 : ∀ w ∈ wsX10, w ∈ wsX1_addStep := by decide +kernel
  have fl_21 := hts (.fieldLink RX1 21 "ActRows$Program" "steps" "[I") (by decide +kernel)
  refine lv_aload_n hx hb dX1_addStep_0 rfl (lv_at hl 0 rfl) ?_
  refine lv_iload_n hx hb dX1_addStep_1 rfl (lv_at hl 1 rfl) ?_
  refine x_callVi (As := [.int (iI f)]) (rest := []) ⟨hx, hb, hml, hown, hts⟩ (c_X1_has l D cI cS a cnt lv kd gd ln st s.heap.size f (by first | assumption | omega) (by first | assumption | omega)) (cwV 1 hts gX1_addStep_X1_has rfl rfl rfl (by decide +kernel) ⟨Nat.le_of_ble_eq_true rfl, Nat.le_of_ble_eq_true rfl⟩) hK hP hD hS hA [0, 1, 2, 3, 4] [] (wr := ([] : va_W)) rfl rfl (by decide) (by decide) (by decide) 0 1 rfl rfl rfl [0, 1, 2, 3, 4] (fun (u : Unit) => (W_P cI cS a cnt lv kd gd ln st)) (fun _ => rfl) (by decide) rfl hl.1 rfl (Nat.le_of_ble_eq_true rfl) ⟨Nat.zero_le _, Nat.zero_le _⟩ dX1_addStep_2 (fun r_ u_ H locs hw hP hD hS => ?_)
  try dsimp only at hw
  subst hw
  have hP : va_P D vwCl (W_P cI cS a cnt lv kd gd ln st) H := hP
  have hD : va_D A (W_P cI cS a cnt lv kd gd ln st) := hD
  refine n_if_b1 (tgt := 18) hx hb dX1_addStep_5 (by decide)  (fun c_1 => ?_) (fun c_1 => ?_)
  ·
    refine lv_iconst (v := iI 0) hx hb dX1_addStep_18 (by decide +kernel) ?_
    have e_2 : (ln : Int → Int) = (if (0 ≤ f ∧ f < cnt) ∧ ln f < 4 then updI ln f (ln f + 1) else ln) := (by first | rfl | omega | (rw [if_pos (by omega)]) | (rw [if_neg (by omega)]))
    have hP : va_P D vwCl (W_P cI cS a cnt lv kd gd (if (0 ≤ f ∧ f < cnt) ∧ ln f < 4 then updI ln f (ln f + 1) else ln) st) H := Eq.mp (congrArg (fun z_ => va_P D vwCl (W_P cI cS a cnt lv kd gd z_ st) H) e_2) hP
    have hD : va_D A (W_P cI cS a cnt lv kd gd (if (0 ≤ f ∧ f < cnt) ∧ ln f < 4 then updI ln f (ln f + 1) else ln) st) := Eq.mp (congrArg (fun z_ => va_D A (W_P cI cS a cnt lv kd gd z_ st)) e_2) hD
    have e_3 : (st : Int → Int) = (if (0 ≤ f ∧ f < cnt) ∧ ln f < 4 then updI st (f * 4 + ln f) v else st) := (by first | rfl | omega | (rw [if_pos (by omega)]) | (rw [if_neg (by omega)]))
    have hP : va_P D vwCl (W_P cI cS a cnt lv kd gd (if (0 ≤ f ∧ f < cnt) ∧ ln f < 4 then updI ln f (ln f + 1) else ln) (if (0 ≤ f ∧ f < cnt) ∧ ln f < 4 then updI st (f * 4 + ln f) v else st)) H := Eq.mp (congrArg (fun z_ => va_P D vwCl (W_P cI cS a cnt lv kd gd (if (0 ≤ f ∧ f < cnt) ∧ ln f < 4 then updI ln f (ln f + 1) else ln) z_) H) e_3) hP
    have hD : va_D A (W_P cI cS a cnt lv kd gd (if (0 ≤ f ∧ f < cnt) ∧ ln f < 4 then updI ln f (ln f + 1) else ln) (if (0 ≤ f ∧ f < cnt) ∧ ln f < 4 then updI st (f * 4 + ln f) v else st)) := Eq.mp (congrArg (fun z_ => va_D A (W_P cI cS a cnt lv kd gd (if (0 ≤ f ∧ f < cnt) ∧ ln f < 4 then updI ln f (ln f + 1) else ln) z_)) e_3) hD
    exact W.zret (v := iI 0) (ty := .boolean) hx hb hr (by decide +kernel) (fun t ht hW => ⟨⟨_, (), rfl, congrArg iI (show 0 = (if (0 ≤ f ∧ f < cnt) ∧ ln f < 4 then 1 else 0) from (by first | rfl | omega | (rw [if_pos (by omega)]) | (rw [if_neg (by omega)]))), by rw [ht]; exact hP, hD⟩, hS.F ht⟩) hS.2.2 dX1_addStep_19
  ·
    refine lv_aload_n hx hb dX1_addStep_8 rfl (lv_at hl 0 rfl) ?_
    refine va_get (D := D) (ci := 1) (v := .ref (a 3)) (C := RX1) (T := TX1) (N := 6) hx hb hts iw_1 hown hK.1 hP 0 rfl rfl 2 (by decide) fl_18 (fun _ h9 => h9) rfl dX1_addStep_9 ?_
    refine lv_iload_n hx hb dX1_addStep_12 rfl (lv_at hl 1 rfl) ?_
    refine n_iald (n := 5) hx hb hK.1 hP 3 0 rfl rfl (by have := hln f (by omega) (by omega); omega) (by decide) dX1_addStep_13 ?_
    have q_4 := hln f (by omega) (by omega)
    refine lv_iconst (v := iI 4) hx hb dX1_addStep_14 (by decide +kernel) ?_
    refine n_icmp_lt (tgt := 20) hx hb dX1_addStep_15 (by decide) (by omega) (fun c_5 => ?_) (fun c_5 => ?_)
    ·
      refine lv_aload_n hx hb dX1_addStep_20 rfl (lv_at hl 0 rfl) ?_
      refine va_get (D := D) (ci := 1) (v := .ref (a 4)) (C := RX1) (T := TX1) (N := 6) hx hb hts iw_1 hown hK.1 hP 0 rfl rfl 3 (by decide) fl_21 (fun _ h9 => h9) rfl dX1_addStep_21 ?_
      refine lv_iload_n hx hb dX1_addStep_24 rfl (lv_at hl 1 rfl) ?_
      refine lv_iconst (v := iI 4) hx hb dX1_addStep_25 (by decide +kernel) ?_
      refine n_imul hx hb dX1_addStep_26 ?_
      refine lv_aload_n hx hb dX1_addStep_27 rfl (lv_at hl 0 rfl) ?_
      refine va_get (D := D) (ci := 1) (v := .ref (a 3)) (C := RX1) (T := TX1) (N := 6) hx hb hts iw_1 hown hK.1 hP 0 rfl rfl 2 (by decide) fl_18 (fun _ h9 => h9) rfl dX1_addStep_28 ?_
      refine lv_iload_n hx hb dX1_addStep_31 rfl (lv_at hl 1 rfl) ?_
      refine n_iald (n := 5) hx hb hK.1 hP 3 0 rfl rfl (by have := hln f (by omega) (by omega); omega) (by decide) dX1_addStep_32 ?_
      have q_6 := hln f (by omega) (by omega)
      refine n_iadd hx hb dX1_addStep_33 ?_
      refine lv_iload_n hx hb dX1_addStep_34 rfl (lv_at hl 2 rfl) ?_
      refine n_iast (n := 20) hx hb hK.1 hP hD hS 4 0 rfl rfl (by have := hln f (by omega) (by omega); omega) (by decide) dX1_addStep_35 (fun H locs hP hD hS => ?_)
      have hP : va_P D vwCl (W_P cI cS a cnt lv kd gd ln (updI st ((f * 4) + (ln f)) v)) H := hP
      have hD : va_D A (W_P cI cS a cnt lv kd gd ln (updI st ((f * 4) + (ln f)) v)) := hD
      refine lv_aload_n hx hb dX1_addStep_36 rfl (lv_at hl 0 rfl) ?_
      refine va_get (D := D) (ci := 1) (v := .ref (a 3)) (C := RX1) (T := TX1) (N := 6) hx hb hts iw_1 hown hK.1 hP 0 rfl rfl 2 (by decide) fl_18 (fun _ h9 => h9) rfl dX1_addStep_37 ?_
      refine lv_iload_n hx hb dX1_addStep_40 rfl (lv_at hl 1 rfl) ?_
      refine lv_dup2_11 hx hb dX1_addStep_41 rfl rfl ?_
      refine n_iald (n := 5) hx hb hK.1 hP 3 0 rfl rfl (by have := hln f (by omega) (by omega); omega) (by decide) dX1_addStep_42 ?_
      have q_7 := hln f (by omega) (by omega)
      refine lv_iconst (v := iI 1) hx hb dX1_addStep_43 (by decide +kernel) ?_
      refine n_iadd hx hb dX1_addStep_44 ?_
      refine n_iast (n := 5) hx hb hK.1 hP hD hS 3 0 rfl rfl (by have := hln f (by omega) (by omega); omega) (by decide) dX1_addStep_45 (fun H locs hP hD hS => ?_)
      have hP : va_P D vwCl (W_P cI cS a cnt lv kd gd (updI ln f ((ln f) + 1)) (updI st ((f * 4) + (ln f)) v)) H := hP
      have hD : va_D A (W_P cI cS a cnt lv kd gd (updI ln f ((ln f) + 1)) (updI st ((f * 4) + (ln f)) v)) := hD
      refine lv_iconst (v := iI 1) hx hb dX1_addStep_46 (by decide +kernel) ?_
      have e_8 : ((updI ln f ((ln f) + 1)) : Int → Int) = (if (0 ≤ f ∧ f < cnt) ∧ ln f < 4 then updI ln f (ln f + 1) else ln) := (by first | rfl | omega | (rw [if_pos (by omega)]) | (rw [if_neg (by omega)]))
      have hP : va_P D vwCl (W_P cI cS a cnt lv kd gd (if (0 ≤ f ∧ f < cnt) ∧ ln f < 4 then updI ln f (ln f + 1) else ln) (updI st ((f * 4) + (ln f)) v)) H := Eq.mp (congrArg (fun z_ => va_P D vwCl (W_P cI cS a cnt lv kd gd z_ (updI st ((f * 4) + (ln f)) v)) H) e_8) hP
      have hD : va_D A (W_P cI cS a cnt lv kd gd (if (0 ≤ f ∧ f < cnt) ∧ ln f < 4 then updI ln f (ln f + 1) else ln) (updI st ((f * 4) + (ln f)) v)) := Eq.mp (congrArg (fun z_ => va_D A (W_P cI cS a cnt lv kd gd z_ (updI st ((f * 4) + (ln f)) v))) e_8) hD
      have e_9 : ((updI st ((f * 4) + (ln f)) v) : Int → Int) = (if (0 ≤ f ∧ f < cnt) ∧ ln f < 4 then updI st (f * 4 + ln f) v else st) := (by first | rfl | omega | (rw [if_pos (by omega)]) | (rw [if_neg (by omega)]))
      have hP : va_P D vwCl (W_P cI cS a cnt lv kd gd (if (0 ≤ f ∧ f < cnt) ∧ ln f < 4 then updI ln f (ln f + 1) else ln) (if (0 ≤ f ∧ f < cnt) ∧ ln f < 4 then updI st (f * 4 + ln f) v else st)) H := Eq.mp (congrArg (fun z_ => va_P D vwCl (W_P cI cS a cnt lv kd gd (if (0 ≤ f ∧ f < cnt) ∧ ln f < 4 then updI ln f (ln f + 1) else ln) z_) H) e_9) hP
      have hD : va_D A (W_P cI cS a cnt lv kd gd (if (0 ≤ f ∧ f < cnt) ∧ ln f < 4 then updI ln f (ln f + 1) else ln) (if (0 ≤ f ∧ f < cnt) ∧ ln f < 4 then updI st (f * 4 + ln f) v else st)) := Eq.mp (congrArg (fun z_ => va_D A (W_P cI cS a cnt lv kd gd (if (0 ≤ f ∧ f < cnt) ∧ ln f < 4 then updI ln f (ln f + 1) else ln) z_)) e_9) hD
      exact W.zret (v := iI 1) (ty := .boolean) hx hb hr (by decide +kernel) (fun t ht hW => ⟨⟨_, (), rfl, congrArg iI (show 1 = (if (0 ≤ f ∧ f < cnt) ∧ ln f < 4 then 1 else 0) from (by first | rfl | omega | (rw [if_pos (by omega)]) | (rw [if_neg (by omega)]))), by rw [ht]; exact hP, hD⟩, hS.F ht⟩) hS.2.2 dX1_addStep_47
    ·
      refine lv_iconst (v := iI 0) hx hb dX1_addStep_18 (by decide +kernel) ?_
      have e_10 : (ln : Int → Int) = (if (0 ≤ f ∧ f < cnt) ∧ ln f < 4 then updI ln f (ln f + 1) else ln) := (by first | rfl | omega | (rw [if_pos (by omega)]) | (rw [if_neg (by omega)]))
      have hP : va_P D vwCl (W_P cI cS a cnt lv kd gd (if (0 ≤ f ∧ f < cnt) ∧ ln f < 4 then updI ln f (ln f + 1) else ln) st) H := Eq.mp (congrArg (fun z_ => va_P D vwCl (W_P cI cS a cnt lv kd gd z_ st) H) e_10) hP
      have hD : va_D A (W_P cI cS a cnt lv kd gd (if (0 ≤ f ∧ f < cnt) ∧ ln f < 4 then updI ln f (ln f + 1) else ln) st) := Eq.mp (congrArg (fun z_ => va_D A (W_P cI cS a cnt lv kd gd z_ st)) e_10) hD
      have e_11 : (st : Int → Int) = (if (0 ≤ f ∧ f < cnt) ∧ ln f < 4 then updI st (f * 4 + ln f) v else st) := (by first | rfl | omega | (rw [if_pos (by omega)]) | (rw [if_neg (by omega)]))
      have hP : va_P D vwCl (W_P cI cS a cnt lv kd gd (if (0 ≤ f ∧ f < cnt) ∧ ln f < 4 then updI ln f (ln f + 1) else ln) (if (0 ≤ f ∧ f < cnt) ∧ ln f < 4 then updI st (f * 4 + ln f) v else st)) H := Eq.mp (congrArg (fun z_ => va_P D vwCl (W_P cI cS a cnt lv kd gd (if (0 ≤ f ∧ f < cnt) ∧ ln f < 4 then updI ln f (ln f + 1) else ln) z_) H) e_11) hP
      have hD : va_D A (W_P cI cS a cnt lv kd gd (if (0 ≤ f ∧ f < cnt) ∧ ln f < 4 then updI ln f (ln f + 1) else ln) (if (0 ≤ f ∧ f < cnt) ∧ ln f < 4 then updI st (f * 4 + ln f) v else st)) := Eq.mp (congrArg (fun z_ => va_D A (W_P cI cS a cnt lv kd gd (if (0 ≤ f ∧ f < cnt) ∧ ln f < 4 then updI ln f (ln f + 1) else ln) z_)) e_11) hD
      exact W.zret (v := iI 0) (ty := .boolean) hx hb hr (by decide +kernel) (fun t ht hW => ⟨⟨_, (), rfl, congrArg iI (show 0 = (if (0 ≤ f ∧ f < cnt) ∧ ln f < 4 then 1 else 0) from (by first | rfl | omega | (rw [if_pos (by omega)]) | (rw [if_neg (by omega)]))), by rw [ht]; exact hP, hD⟩, hS.F ht⟩) hS.2.2 dX1_addStep_19
