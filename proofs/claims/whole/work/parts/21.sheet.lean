abbrev W_I (cI cS : ClassId) (A_0 : Nat → Nat) (g_0 : Int → Int) : va_W := [(A_0 0, .inl (cI, 60, .inl (aI g_0)))]
abbrev W_S (cI cS : ClassId) (A_0 : Nat → Nat) (lane_0 : Int) (len_0 : Int) (cl_0 : Int → Int) : va_W := [(A_0 0, .inr (3, [.ref (A_0 1), .int (iI lane_0), .int (iI len_0)])), (A_0 1, .inl (cI, 60, .inl (aI cl_0)))]
def cutI (lane v : Int) : Int := if lane = 0 then v.bmod 256 else if lane = 1 then v.bmod 65536 else v
def fillI (g : Int → Int) (n v : Int) : Int → Int := fun j => if 0 ≤ j ∧ j < n then v else g j
theorem fillI_0 (g : Int → Int) (v : Int) : fillI g 0 v = g := by
  funext j; unfold fillI; rw [if_neg (by omega)]
theorem fillI_s (g : Int → Int) {i : Int} (v : Int) (h : 0 ≤ i) : updI (fillI g i v) i v = fillI g (i + 1) v := by
  funext j; unfold updI fillI
  by_cases h1 : j = i
  · rw [if_pos h1, if_pos (by omega)]
  · rw [if_neg h1]
    by_cases h2 : 0 ≤ j ∧ j < i
    · rw [if_pos h2, if_pos (by omega)]
    · rw [if_neg h2, if_neg (by omega)]
/-- what taking n cells from i on as a row of a lane comes to -/
def ftk (lane len as i n : Int) : Int := if lane = -1 then 1 else if lane ≠ as then 2 else if n < 0 then 4 else if 0 ≤ i ∧ i ≤ len ∧ n ≤ len - i then 0 else 3
set_option maxHeartbeats 4000000 in
set_option maxRecDepth 100000 in
theorem c_J7_fill_53178 (l : Launch) (D : va_G) (cI cS : ClassId) (v : Nat → Nat) (g : Int → Int) (sz : Nat) (x : Int)  : Met l yJ7_fill_53178 wsJ7_fill_53178 ({ frames := 0, cells := 0, slots := 0, locals := 0 }) (cP D cI cS (W_I cI cS v g) sz [.ref (v 0), .int (iI x)]) (va_Qv (fun (u : Unit) => True) (fun (u : Unit) t => cB D (va_A (W_I cI cS v g) sz) (W_I cI cS v (fillI g 60 x)) t) (va_A (W_I cI cS v g) sz)) 0 0 (va_A (W_I cI cS v g) sz) := by
  refine Met.ofW (cc := cJ7_fill_53178) (maxL := 4) (ret := none) (by decide) rfl ?_
  intro p e s m args below meth c_ s₁ B hml hv
  obtain ⟨rfl, hsz, hP, hK, hD0⟩ := hv
  have hx := B.exec
  have hb := B.bytes
  have hr := B.returns
  have hts := atoms_spec (ws := wsJ7_fill_53178) B.pre
  have hown : s.vm.findClass RJ7 = some m.cls := findClass_of_methodNamed B.named
  have hlocks := B.notSynchronized
  subst hsz
  have hD := hD0.self (sz := s.heap.size)
  generalize hAe : va_A (W_I cI cS v g) s.heap.size = A at hD ⊢
  have hA : ∀ q : Nat, s.heap.size ≤ q → A q := fun q h => by rw [← hAe]; exact Or.inr h
  have hS : va_S A s.heap s.heap [] := va_S.rf
  have hP : va_P D vwCl (W_I cI cS v g) s.heap := hP
  have hl := lv_entry ([.ref (v 0), .int (iI x)] : List Value) (n := 4) (Nat.le_of_ble_eq_true rfl)
  rw [lg_entry_eq]
  generalize (lg_sl ([.ref (v 0), .int (iI x)] : List Value) ++ List.replicate (4 - (lg_sl ([.ref (v 0), .int (iI x)] : List Value)).length) Slot.unset).toArray = ls at hl ⊢
  have hl : lv_has ls 4 [(0, .ref (v 0)), (1, .int (iI x))] := hl
  refine lv_iconst (v := iI 0) hx hb dJ7_fill_53178_0 (by decide +kernel) ?_
  refine lv_istore_n (lv' := [(2, .int (iI 0)), (0, .ref (v 0)), (1, .int (iI x))]) hx hb dJ7_fill_53178_1 rfl hl (by decide) rfl (fun ls hl => ?_)
  refine lv_aload_n hx hb dJ7_fill_53178_2 rfl (lv_at hl 1 rfl) ?_
  refine va_alen hx hb hK.1 hP 0 0 rfl rfl (v := iI 60) (show Int32.ofNat 60 = iI 60 by decide +kernel) dJ7_fill_53178_3 ?_
  refine lv_istore_n (lv' := [(3, .int (iI 60)), (2, .int (iI 0)), (0, .ref (v 0)), (1, .int (iI x))]) hx hb dJ7_fill_53178_4 rfl hl (by decide) rfl (fun ls hl => ?_)
  refine x_loop (σ := Int × (Int → Int)) (fun (xv_ : Int × (Int → Int)) => match xv_ with | (i, g1) => (0 ≤ i ∧ i ≤ 60) ∧ (g1 = fillI g i x)) (fun (xv_ : Int × (Int → Int)) => match xv_ with | (i, g1) => (60 - i).toNat) (fun (xv_ : Int × (Int → Int)) => match xv_ with | (i, g1) => (W_I cI cS v g1)) (fun (xv_ : Int × (Int → Int)) => match xv_ with | (i, g1) => [(3, .int (iI 60)), (2, .int (iI i)), (0, .ref (v 0)), (1, .int (iI x))]) (nL := 4) ?step_1 (0, g) (by (try dsimp only); exact ⟨by omega, (fillI_0 g x).symm⟩) hP hD hS hl
  case step_1 =>
    intro xv_ hI ih H locs ls hP hD hS hl
    obtain ⟨i, g1⟩ := xv_
    try dsimp only at hI ih
    obtain ⟨hi, hg⟩ := hI
    have hP : va_P D vwCl (W_I cI cS v g1) H := hP
    have hD : va_D A (W_I cI cS v g1) := hD
    have hl : lv_has ls 4 [(3, .int (iI 60)), (2, .int (iI i)), (0, .ref (v 0)), (1, .int (iI x))] := hl
    have ih_2 := ih
    refine lv_iload_n hx hb dJ7_fill_53178_5 rfl (lv_at hl 1 rfl) ?_
    refine lv_iload_n hx hb dJ7_fill_53178_6 rfl (lv_at hl 0 rfl) ?_
    refine n_icmp_ge (tgt := 20) hx hb dJ7_fill_53178_7 (by decide) (by omega) (fun c_3 => ?_) (fun c_3 => ?_)
    ·
      have e_4 : (g1 : Int → Int) = (fillI g 60 x) := (by rw [hg, show i = 60 by omega])
      have hP : va_P D vwCl (W_I cI cS v (fillI g 60 x)) H := Eq.mp (congrArg (fun z_ => va_P D vwCl (W_I cI cS v z_) H) e_4) hP
      have hD : va_D A (W_I cI cS v (fillI g 60 x)) := Eq.mp (congrArg (fun z_ => va_D A (W_I cI cS v z_)) e_4) hD
      exact W.vret hx hb hr (fun t ht hW => ⟨⟨(), rfl, trivial, by rw [ht]; exact hP, hD⟩, hS.F ht⟩) hS.2.2 dJ7_fill_53178_20
    ·
      refine lv_aload_n hx hb dJ7_fill_53178_10 rfl (lv_at hl 2 rfl) ?_
      refine lv_iload_n hx hb dJ7_fill_53178_11 rfl (lv_at hl 1 rfl) ?_
      refine lv_iload_n hx hb dJ7_fill_53178_12 rfl (lv_at hl 3 rfl) ?_
      refine n_iast (n := 60) hx hb hK.1 hP hD hS 0 0 rfl rfl (by omega) (by decide) dJ7_fill_53178_13 (fun H locs hP hD hS => ?_)
      have hP : va_P D vwCl (W_I cI cS v (updI g1 i x)) H := hP
      have hD : va_D A (W_I cI cS v (updI g1 i x)) := hD
      refine n_iinc (lv' := [(2, .int (iI (i + 1))), (3, .int (iI 60)), (0, .ref (v 0)), (1, .int (iI x))]) hx hb dJ7_fill_53178_14 hl (k := 1) rfl (by decide) rfl (fun ls hl => ?_)
      refine lv_goto (tgt := 5) hx hb dJ7_fill_53178_17 (by decide) ?_
      exact ih_2 ((i + 1), (updI g1 i x)) (by (try dsimp only); exact ⟨by omega, by rw [hg]; exact fillI_s g x hi.1⟩) (by (try dsimp only); exact (by omega)) _ _ _ hP hD hS (lv_sub hl [1, 0, 2, 3] rfl)
set_option maxHeartbeats 4000000 in
set_option maxRecDepth 100000 in
theorem c_X3_hasNothing (l : Launch) (D : va_G) (cI cS : ClassId) (k : Nat → Nat) (lane : Int) (len : Int) (cl : Int → Int) (sz : Nat) (hla : -2147483648 ≤ lane ∧ lane < 2147483648) : Met l yX3_hasNothing wsX3_hasNothing ({ frames := 0, cells := 0, slots := 0, locals := 0 }) (cP D cI cS (W_S cI cS k lane len cl) sz [.ref (k 0)]) (va_Qi (fun (r : Int32) (u : Unit) => r = iI (if lane = -1 then 1 else 0)) (fun (u : Unit) t => cB D (va_A (W_S cI cS k lane len cl) sz) (W_S cI cS k lane len cl) t) (va_A (W_S cI cS k lane len cl) sz)) 0 0 (va_A (W_S cI cS k lane len cl) sz) := by
  refine Met.ofW (cc := cX3_hasNothing) (maxL := 1) (ret := (some .boolean)) (by decide) rfl ?_
  intro p e s m args below meth c_ s₁ B hml hv
  obtain ⟨rfl, hsz, hP, hK, hD0⟩ := hv
  have hx := B.exec
  have hb := B.bytes
  have hr := B.returns
  have hts := atoms_spec (ws := wsX3_hasNothing) B.pre
  have hown : s.vm.findClass RX3 = some m.cls := findClass_of_methodNamed B.named
  have hlocks := B.notSynchronized
  subst hsz
  have hD := hD0.self (sz := s.heap.size)
  generalize hAe : va_A (W_S cI cS k lane len cl) s.heap.size = A at hD ⊢
  have hA : ∀ q : Nat, s.heap.size ≤ q → A q := fun q h => by rw [← hAe]; exact Or.inr h
  have hS : va_S A s.heap s.heap [] := va_S.rf
  have hP : va_P D vwCl (W_S cI cS k lane len cl) s.heap := hP
  have hl := lv_entry ([.ref (k 0)] : List Value) (n := 1) (Nat.le_of_ble_eq_true rfl)
  rw [lg_entry_eq]
  generalize (lg_sl ([.ref (k 0)] : List Value) ++ List.replicate (1 - (lg_sl ([.ref (k 0)] : List Value)).length) Slot.unset).toArray = ls at hl ⊢
  have hl : lv_has ls 1 [(0, .ref (k 0))] := hl
  have fl_15 := hts (.fieldLink RX3 15 "ActRows$Sheet" "lane" "I") (by decide +kernel)
  have iw_3 : ∀ w ∈ wsX30, w ∈ wsX3_hasNothing := by decide +kernel
  refine lv_aload_n hx hb dX3_hasNothing_0 rfl (lv_at hl 0 rfl) ?_
  refine va_get (D := D) (ci := 3) (v := .int (iI lane)) (C := RX3) (T := TX3) (N := 3) hx hb hts iw_3 hown hK.1 hP 0 rfl rfl 1 (by decide) fl_15 (fun _ h9 => h9) rfl dX3_hasNothing_1 ?_
  refine lv_iconst (v := iI (-1)) hx hb dX3_hasNothing_4 (by decide +kernel) ?_
  refine n_icmp_ne (tgt := 12) hx hb dX3_hasNothing_5 (by decide) (by omega) (fun c_1 => ?_) (fun c_1 => ?_)
  ·
    refine lv_iconst (v := iI 0) hx hb dX3_hasNothing_12 (by decide +kernel) ?_
    exact W.zret (v := iI 0) (ty := .boolean) hx hb hr (by decide +kernel) (fun t ht hW => ⟨⟨_, (), rfl, congrArg iI (show 0 = (if lane = -1 then 1 else 0) from (by first | rfl | omega | (rw [if_pos (by omega)]) | (rw [if_neg (by omega)]))), by rw [ht]; exact hP, hD⟩, hS.F ht⟩) hS.2.2 dX3_hasNothing_13
  ·
    refine lv_iconst (v := iI 1) hx hb dX3_hasNothing_8 (by decide +kernel) ?_
    refine lv_goto (tgt := 13) hx hb dX3_hasNothing_9 (by decide) ?_
    exact W.zret (v := iI 1) (ty := .boolean) hx hb hr (by decide +kernel) (fun t ht hW => ⟨⟨_, (), rfl, congrArg iI (show 1 = (if lane = -1 then 1 else 0) from (by first | rfl | omega | (rw [if_pos (by omega)]) | (rw [if_neg (by omega)]))), by rw [ht]; exact hP, hD⟩, hS.F ht⟩) hS.2.2 dX3_hasNothing_13
set_option maxHeartbeats 4000000 in
set_option maxRecDepth 100000 in
theorem c_X3_renew (l : Launch) (D : va_G) (cI cS : ClassId) (k : Nat → Nat) (lane : Int) (len : Int) (cl : Int → Int) (sz : Nat) (nl : Int) (n : Int)  : Met l yX3_renew wsX3_renew ({ frames := 1, cells := 0, slots := 0, locals := 23 }) (cP D cI cS (W_S cI cS k lane len cl) sz [.ref (k 0), .int (iI nl), .int (iI n)]) (va_Qv (fun (u : Unit) => True) (fun (u : Unit) t => cB D (va_A (W_S cI cS k lane len cl) sz) (W_S cI cS k nl n (fillI cl 60 0)) t) (va_A (W_S cI cS k lane len cl) sz)) 0 0 (va_A (W_S cI cS k lane len cl) sz) := by
  refine Met.ofW (cc := cX3_renew) (maxL := 3) (ret := none) (by decide) rfl ?_
  intro p e s m args below meth c_ s₁ B hml hv
  obtain ⟨rfl, hsz, hP, hK, hD0⟩ := hv
  have hx := B.exec
  have hb := B.bytes
  have hr := B.returns
  have hts := atoms_spec (ws := wsX3_renew) B.pre
  have hown : s.vm.findClass RX3 = some m.cls := findClass_of_methodNamed B.named
  have hlocks := B.notSynchronized
  subst hsz
  have hD := hD0.self (sz := s.heap.size)
  generalize hAe : va_A (W_S cI cS k lane len cl) s.heap.size = A at hD ⊢
  have hA : ∀ q : Nat, s.heap.size ≤ q → A q := fun q h => by rw [← hAe]; exact Or.inr h
  have hS : va_S A s.heap s.heap [] := va_S.rf
  have hP : va_P D vwCl (W_S cI cS k lane len cl) s.heap := hP
  have hl := lv_entry ([.ref (k 0), .int (iI nl), .int (iI n)] : List Value) (n := 3) (Nat.le_of_ble_eq_true rfl)
  rw [lg_entry_eq]
  generalize (lg_sl ([.ref (k 0), .int (iI nl), .int (iI n)] : List Value) ++ List.replicate (3 - (lg_sl ([.ref (k 0), .int (iI nl), .int (iI n)] : List Value)).length) Slot.unset).toArray = ls at hl ⊢
  have hl : lv_has ls 3 [(0, .ref (k 0)), (1, .int (iI nl)), (2, .int (iI n))] := hl
  have fl_15 := hts (.fieldLink RX3 15 "ActRows$Sheet" "lane" "I") (by decide +kernel)
  have iw_3 : ∀ w ∈ wsX30, w ∈ wsX3_renew := by decide +kernel
  have fl_19 := hts (.fieldLink RX3 19 "ActRows$Sheet" "length" "I") (by decide +kernel)
  have fl_9 := hts (.fieldLink RX3 9 "ActRows$Sheet" "cells" "[I") (by decide +kernel)
  refine lv_aload_n hx hb dX3_renew_0 rfl (lv_at hl 0 rfl) ?_
  refine lv_iload_n hx hb dX3_renew_1 rfl (lv_at hl 1 rfl) ?_
  refine va_put (D := D) (ci := 3) (v := .int (iI nl)) (ty := .int) (C := RX3) (T := TX3) (N := 3) hx hb hts iw_3 tyX3 tyX3_ok nmX3 hown hK.1 hP hD hS 0 rfl rfl 1 (by decide) fl_15 (fun _ h9 => h9) rfl (by decide +kernel) rfl rfl (Nat.le_of_ble_eq_true rfl) dX3_renew_2 (fun H locs hP hD hS => ?_)
  have hP : va_P D vwCl (W_S cI cS k nl len cl) H := hP
  have hD : va_D A (W_S cI cS k nl len cl) := hD
  refine lv_aload_n hx hb dX3_renew_5 rfl (lv_at hl 0 rfl) ?_
  refine lv_iload_n hx hb dX3_renew_6 rfl (lv_at hl 2 rfl) ?_
  refine va_put (D := D) (ci := 3) (v := .int (iI n)) (ty := .int) (C := RX3) (T := TX3) (N := 3) hx hb hts iw_3 tyX3 tyX3_ok nmX3 hown hK.1 hP hD hS 0 rfl rfl 2 (by decide) fl_19 (fun _ h9 => h9) rfl (by decide +kernel) rfl rfl (Nat.le_of_ble_eq_true rfl) dX3_renew_7 (fun H locs hP hD hS => ?_)
  have hP : va_P D vwCl (W_S cI cS k nl n cl) H := hP
  have hD : va_D A (W_S cI cS k nl n cl) := hD
  refine lv_aload_n hx hb dX3_renew_10 rfl (lv_at hl 0 rfl) ?_
  refine va_get (D := D) (ci := 3) (v := .ref (k 1)) (C := RX3) (T := TX3) (N := 3) hx hb hts iw_3 hown hK.1 hP 0 rfl rfl 0 (by decide) fl_9 (fun _ h9 => h9) rfl dX3_renew_11 ?_
  refine lv_iconst (v := iI 0) hx hb dX3_renew_14 (by decide +kernel) ?_
  refine x_callSv (As := [.ref (k 1), .int (iI 0)]) (rest := []) ⟨hx, hb, hml, hown, hts⟩ (c_J7_fill_53178 l D cI cS (fun _ => k 1) cl H.size 0) (va_cwS 2 hts gX3_renew_J7_fill_53178 rfl rfl rfl (by decide +kernel) ⟨Nat.le_of_ble_eq_true rfl, Nat.le_of_ble_eq_true rfl⟩) hK hP hD hS hA [1] [0] (wr := [(k 0, .inr (3, [.ref (k 1), .int (iI nl), .int (iI n)]))]) rfl rfl (by decide) (by decide) (by decide) [0, 1] (fun (u : Unit) => (W_S cI cS k nl n (fillI cl 60 0))) (fun _ => rfl) (by decide) rfl hl.1 rfl (Nat.le_of_ble_eq_true rfl) ⟨Nat.zero_le _, Nat.zero_le _⟩ dX3_renew_15 (fun u_ H locs hw hP hD hS => ?_)
  try dsimp only at hw
  have hP : va_P D vwCl (W_S cI cS k nl n (fillI cl 60 0)) H := hP
  have hD : va_D A (W_S cI cS k nl n (fillI cl 60 0)) := hD
  exact W.vret hx hb hr (fun t ht hW => ⟨⟨(), rfl, trivial, by rw [ht]; exact hP, hD⟩, hS.F ht⟩) hS.2.2 dX3_renew_18
set_option maxHeartbeats 4000000 in
set_option maxRecDepth 100000 in
theorem c_X3_drop (l : Launch) (D : va_G) (cI cS : ClassId) (k : Nat → Nat) (lane : Int) (len : Int) (cl : Int → Int) (sz : Nat)  : Met l yX3_drop wsX3_drop ({ frames := 0, cells := 0, slots := 0, locals := 0 }) (cP D cI cS (W_S cI cS k lane len cl) sz [.ref (k 0)]) (va_Qv (fun (u : Unit) => True) (fun (u : Unit) t => cB D (va_A (W_S cI cS k lane len cl) sz) (W_S cI cS k (-1) 0 cl) t) (va_A (W_S cI cS k lane len cl) sz)) 0 0 (va_A (W_S cI cS k lane len cl) sz) := by
  refine Met.ofW (cc := cX3_drop) (maxL := 1) (ret := none) (by decide) rfl ?_
  intro p e s m args below meth c_ s₁ B hml hv
  obtain ⟨rfl, hsz, hP, hK, hD0⟩ := hv
  have hx := B.exec
  have hb := B.bytes
  have hr := B.returns
  have hts := atoms_spec (ws := wsX3_drop) B.pre
  have hown : s.vm.findClass RX3 = some m.cls := findClass_of_methodNamed B.named
  have hlocks := B.notSynchronized
  subst hsz
  have hD := hD0.self (sz := s.heap.size)
  generalize hAe : va_A (W_S cI cS k lane len cl) s.heap.size = A at hD ⊢
  have hA : ∀ q : Nat, s.heap.size ≤ q → A q := fun q h => by rw [← hAe]; exact Or.inr h
  have hS : va_S A s.heap s.heap [] := va_S.rf
  have hP : va_P D vwCl (W_S cI cS k lane len cl) s.heap := hP
  have hl := lv_entry ([.ref (k 0)] : List Value) (n := 1) (Nat.le_of_ble_eq_true rfl)
  rw [lg_entry_eq]
  generalize (lg_sl ([.ref (k 0)] : List Value) ++ List.replicate (1 - (lg_sl ([.ref (k 0)] : List Value)).length) Slot.unset).toArray = ls at hl ⊢
  have hl : lv_has ls 1 [(0, .ref (k 0))] := hl
  have fl_15 := hts (.fieldLink RX3 15 "ActRows$Sheet" "lane" "I") (by decide +kernel)
  have iw_3 : ∀ w ∈ wsX30, w ∈ wsX3_drop := by decide +kernel
  have fl_19 := hts (.fieldLink RX3 19 "ActRows$Sheet" "length" "I") (by decide +kernel)
  refine lv_aload_n hx hb dX3_drop_0 rfl (lv_at hl 0 rfl) ?_
  refine lv_iconst (v := iI (-1)) hx hb dX3_drop_1 (by decide +kernel) ?_
  refine va_put (D := D) (ci := 3) (v := .int (iI (-1))) (ty := .int) (C := RX3) (T := TX3) (N := 3) hx hb hts iw_3 tyX3 tyX3_ok nmX3 hown hK.1 hP hD hS 0 rfl rfl 1 (by decide) fl_15 (fun _ h9 => h9) rfl (by decide +kernel) rfl rfl (Nat.le_of_ble_eq_true rfl) dX3_drop_2 (fun H locs hP hD hS => ?_)
  have hP : va_P D vwCl (W_S cI cS k (-1) len cl) H := hP
  have hD : va_D A (W_S cI cS k (-1) len cl) := hD
  refine lv_aload_n hx hb dX3_drop_5 rfl (lv_at hl 0 rfl) ?_
  refine lv_iconst (v := iI 0) hx hb dX3_drop_6 (by decide +kernel) ?_
  refine va_put (D := D) (ci := 3) (v := .int (iI 0)) (ty := .int) (C := RX3) (T := TX3) (N := 3) hx hb hts iw_3 tyX3 tyX3_ok nmX3 hown hK.1 hP hD hS 0 rfl rfl 2 (by decide) fl_19 (fun _ h9 => h9) rfl (by decide +kernel) rfl rfl (Nat.le_of_ble_eq_true rfl) dX3_drop_7 (fun H locs hP hD hS => ?_)
  have hP : va_P D vwCl (W_S cI cS k (-1) 0 cl) H := hP
  have hD : va_D A (W_S cI cS k (-1) 0 cl) := hD
  exact W.vret hx hb hr (fun t ht hW => ⟨⟨(), rfl, trivial, by rw [ht]; exact hP, hD⟩, hS.F ht⟩) hS.2.2 dX3_drop_10
set_option maxHeartbeats 4000000 in
set_option maxRecDepth 100000 in
theorem c_X3_hasCells (l : Launch) (D : va_G) (cI cS : ClassId) (k : Nat → Nat) (lane : Int) (len : Int) (cl : Int → Int) (sz : Nat) (i : Int) (n : Int) (hs : 0 ≤ len ∧ len ≤ 60) (hi : -2147483648 ≤ i ∧ i < 2147483648) (hn : -2147483648 ≤ n ∧ n < 2147483648) : Met l yX3_hasCells wsX3_hasCells ({ frames := 0, cells := 0, slots := 0, locals := 0 }) (cP D cI cS (W_S cI cS k lane len cl) sz [.ref (k 0), .int (iI i), .int (iI n)]) (va_Qi (fun (r : Int32) (u : Unit) => r = iI (if 0 ≤ i ∧ i ≤ len ∧ 0 ≤ n ∧ n ≤ len - i then 1 else 0)) (fun (u : Unit) t => cB D (va_A (W_S cI cS k lane len cl) sz) (W_S cI cS k lane len cl) t) (va_A (W_S cI cS k lane len cl) sz)) 0 0 (va_A (W_S cI cS k lane len cl) sz) := by
  refine Met.ofW (cc := cX3_hasCells) (maxL := 3) (ret := (some .boolean)) (by decide) rfl ?_
  intro p e s m args below meth c_ s₁ B hml hv
  obtain ⟨rfl, hsz, hP, hK, hD0⟩ := hv
  have hx := B.exec
  have hb := B.bytes
  have hr := B.returns
  have hts := atoms_spec (ws := wsX3_hasCells) B.pre
  have hown : s.vm.findClass RX3 = some m.cls := findClass_of_methodNamed B.named
  have hlocks := B.notSynchronized
  subst hsz
  have hD := hD0.self (sz := s.heap.size)
  generalize hAe : va_A (W_S cI cS k lane len cl) s.heap.size = A at hD ⊢
  have hA : ∀ q : Nat, s.heap.size ≤ q → A q := fun q h => by rw [← hAe]; exact Or.inr h
  have hS : va_S A s.heap s.heap [] := va_S.rf
  have hP : va_P D vwCl (W_S cI cS k lane len cl) s.heap := hP
  have hl := lv_entry ([.ref (k 0), .int (iI i), .int (iI n)] : List Value) (n := 3) (Nat.le_of_ble_eq_true rfl)
  rw [lg_entry_eq]
  generalize (lg_sl ([.ref (k 0), .int (iI i), .int (iI n)] : List Value) ++ List.replicate (3 - (lg_sl ([.ref (k 0), .int (iI i), .int (iI n)] : List Value)).length) Slot.unset).toArray = ls at hl ⊢
  have hl : lv_has ls 3 [(0, .ref (k 0)), (1, .int (iI i)), (2, .int (iI n))] := hl
  have fl_19 := hts (.fieldLink RX3 19 "ActRows$Sheet" "length" "I") (by decide +kernel)
  have iw_3 : ∀ w ∈ wsX30, w ∈ wsX3_hasCells := by decide +kernel
  refine lv_iload_n hx hb dX3_hasCells_0 rfl (lv_at hl 1 rfl) ?_
  refine n_if_lt (tgt := 30) hx hb dX3_hasCells_1 (by decide) (by omega) (fun c_1 => ?_) (fun c_1 => ?_)
  ·
    refine lv_iconst (v := iI 0) hx hb dX3_hasCells_30 (by decide +kernel) ?_
    exact W.zret (v := iI 0) (ty := .boolean) hx hb hr (by decide +kernel) (fun t ht hW => ⟨⟨_, (), rfl, congrArg iI (show 0 = (if 0 ≤ i ∧ i ≤ len ∧ 0 ≤ n ∧ n ≤ len - i then 1 else 0) from (by first | rfl | omega | (rw [if_pos (by omega)]) | (rw [if_neg (by omega)]))), by rw [ht]; exact hP, hD⟩, hS.F ht⟩) hS.2.2 dX3_hasCells_31
  ·
    refine lv_iload_n hx hb dX3_hasCells_4 rfl (lv_at hl 1 rfl) ?_
    refine lv_aload_n hx hb dX3_hasCells_5 rfl (lv_at hl 0 rfl) ?_
    refine va_get (D := D) (ci := 3) (v := .int (iI len)) (C := RX3) (T := TX3) (N := 3) hx hb hts iw_3 hown hK.1 hP 0 rfl rfl 2 (by decide) fl_19 (fun _ h9 => h9) rfl dX3_hasCells_6 ?_
    refine n_icmp_gt (tgt := 30) hx hb dX3_hasCells_9 (by decide) (by omega) (fun c_2 => ?_) (fun c_2 => ?_)
    ·
      refine lv_iconst (v := iI 0) hx hb dX3_hasCells_30 (by decide +kernel) ?_
      exact W.zret (v := iI 0) (ty := .boolean) hx hb hr (by decide +kernel) (fun t ht hW => ⟨⟨_, (), rfl, congrArg iI (show 0 = (if 0 ≤ i ∧ i ≤ len ∧ 0 ≤ n ∧ n ≤ len - i then 1 else 0) from (by first | rfl | omega | (rw [if_pos (by omega)]) | (rw [if_neg (by omega)]))), by rw [ht]; exact hP, hD⟩, hS.F ht⟩) hS.2.2 dX3_hasCells_31
    ·
      refine lv_iload_n hx hb dX3_hasCells_12 rfl (lv_at hl 2 rfl) ?_
      refine n_if_lt (tgt := 30) hx hb dX3_hasCells_13 (by decide) (by omega) (fun c_3 => ?_) (fun c_3 => ?_)
      ·
        refine lv_iconst (v := iI 0) hx hb dX3_hasCells_30 (by decide +kernel) ?_
        exact W.zret (v := iI 0) (ty := .boolean) hx hb hr (by decide +kernel) (fun t ht hW => ⟨⟨_, (), rfl, congrArg iI (show 0 = (if 0 ≤ i ∧ i ≤ len ∧ 0 ≤ n ∧ n ≤ len - i then 1 else 0) from (by first | rfl | omega | (rw [if_pos (by omega)]) | (rw [if_neg (by omega)]))), by rw [ht]; exact hP, hD⟩, hS.F ht⟩) hS.2.2 dX3_hasCells_31
      ·
        refine lv_iload_n hx hb dX3_hasCells_16 rfl (lv_at hl 2 rfl) ?_
        refine lv_aload_n hx hb dX3_hasCells_17 rfl (lv_at hl 0 rfl) ?_
        refine va_get (D := D) (ci := 3) (v := .int (iI len)) (C := RX3) (T := TX3) (N := 3) hx hb hts iw_3 hown hK.1 hP 0 rfl rfl 2 (by decide) fl_19 (fun _ h9 => h9) rfl dX3_hasCells_18 ?_
        refine lv_iload_n hx hb dX3_hasCells_21 rfl (lv_at hl 1 rfl) ?_
        refine n_isub hx hb dX3_hasCells_22 ?_
        refine n_icmp_gt (tgt := 30) hx hb dX3_hasCells_23 (by decide) (by omega) (fun c_4 => ?_) (fun c_4 => ?_)
        ·
          refine lv_iconst (v := iI 0) hx hb dX3_hasCells_30 (by decide +kernel) ?_
          exact W.zret (v := iI 0) (ty := .boolean) hx hb hr (by decide +kernel) (fun t ht hW => ⟨⟨_, (), rfl, congrArg iI (show 0 = (if 0 ≤ i ∧ i ≤ len ∧ 0 ≤ n ∧ n ≤ len - i then 1 else 0) from (by first | rfl | omega | (rw [if_pos (by omega)]) | (rw [if_neg (by omega)]))), by rw [ht]; exact hP, hD⟩, hS.F ht⟩) hS.2.2 dX3_hasCells_31
        ·
          refine lv_iconst (v := iI 1) hx hb dX3_hasCells_26 (by decide +kernel) ?_
          refine lv_goto (tgt := 31) hx hb dX3_hasCells_27 (by decide) ?_
          exact W.zret (v := iI 1) (ty := .boolean) hx hb hr (by decide +kernel) (fun t ht hW => ⟨⟨_, (), rfl, congrArg iI (show 1 = (if 0 ≤ i ∧ i ≤ len ∧ 0 ≤ n ∧ n ≤ len - i then 1 else 0) from (by first | rfl | omega | (rw [if_pos (by omega)]) | (rw [if_neg (by omega)]))), by rw [ht]; exact hP, hD⟩, hS.F ht⟩) hS.2.2 dX3_hasCells_31
set_option maxHeartbeats 4000000 in
set_option maxRecDepth 100000 in
theorem c_X3_faultOfTaking (l : Launch) (D : va_G) (cI cS : ClassId) (k : Nat → Nat) (lane : Int) (len : Int) (cl : Int → Int) (sz : Nat) (as : Int) (i : Int) (n : Int) (hs : 0 ≤ len ∧ len ≤ 60) (hla : -2147483648 ≤ lane ∧ lane < 2147483648) (has : -2147483648 ≤ as ∧ as < 2147483648) (hi : -2147483648 ≤ i ∧ i < 2147483648) (hn : -2147483648 ≤ n ∧ n < 2147483648) : Met l yX3_faultOfTaking wsX3_faultOfTaking ({ frames := 1, cells := 0, slots := 0, locals := 22 }) (cP D cI cS (W_S cI cS k lane len cl) sz [.ref (k 0), .int (iI as), .int (iI i), .int (iI n)]) (va_Qi (fun (r : Int32) (u : Unit) => r = iI (ftk lane len as i n)) (fun (u : Unit) t => cB D (va_A (W_S cI cS k lane len cl) sz) (W_S cI cS k lane len cl) t) (va_A (W_S cI cS k lane len cl) sz)) 0 0 (va_A (W_S cI cS k lane len cl) sz) := by
  refine Met.ofW (cc := cX3_faultOfTaking) (maxL := 4) (ret := (some .int)) (by decide) rfl ?_
  intro p e s m args below meth c_ s₁ B hml hv
  obtain ⟨rfl, hsz, hP, hK, hD0⟩ := hv
  have hx := B.exec
  have hb := B.bytes
  have hr := B.returns
  have hts := atoms_spec (ws := wsX3_faultOfTaking) B.pre
  have hown : s.vm.findClass RX3 = some m.cls := findClass_of_methodNamed B.named
  have hlocks := B.notSynchronized
  subst hsz
  have hD := hD0.self (sz := s.heap.size)
  generalize hAe : va_A (W_S cI cS k lane len cl) s.heap.size = A at hD ⊢
  have hA : ∀ q : Nat, s.heap.size ≤ q → A q := fun q h => by rw [← hAe]; exact Or.inr h
  have hS : va_S A s.heap s.heap [] := va_S.rf
  have hP : va_P D vwCl (W_S cI cS k lane len cl) s.heap := hP
  have hl := lv_entry ([.ref (k 0), .int (iI as), .int (iI i), .int (iI n)] : List Value) (n := 4) (Nat.le_of_ble_eq_true rfl)
  rw [lg_entry_eq]
  generalize (lg_sl ([.ref (k 0), .int (iI as), .int (iI i), .int (iI n)] : List Value) ++ List.replicate (4 - (lg_sl ([.ref (k 0), .int (iI as), .int (iI i), .int (iI n)] : List Value)).length) Slot.unset).toArray = ls at hl ⊢
  have hl : lv_has ls 4 [(0, .ref (k 0)), (1, .int (iI as)), (2, .int (iI i)), (3, .int (iI n))] := hl
  have fl_15 := hts (.fieldLink RX3 15 "ActRows$Sheet" "lane" "I") (by decide +kernel)
  have iw_3 : ∀ w ∈ wsX30, w ∈ wsX3_faultOfTaking := by decide +kernel
  refine lv_aload_n hx hb dX3_faultOfTaking_0 rfl (lv_at hl 0 rfl) ?_
  refine x_callVi (As := []) (rest := []) ⟨hx, hb, hml, hown, hts⟩ (c_X3_hasNothing l D cI cS k lane len cl s.heap.size (by first | assumption | omega)) (cwV 0 hts gX3_faultOfTaking_X3_hasNothing rfl rfl rfl (by decide +kernel) ⟨Nat.le_of_ble_eq_true rfl, Nat.le_of_ble_eq_true rfl⟩) hK hP hD hS hA [0, 1] [] (wr := ([] : va_W)) rfl rfl (by decide) (by decide) (by decide) 0 3 rfl rfl rfl [0, 1] (fun (u : Unit) => (W_S cI cS k lane len cl)) (fun _ => rfl) (by decide) rfl hl.1 rfl (Nat.le_of_ble_eq_true rfl) ⟨Nat.zero_le _, Nat.zero_le _⟩ dX3_faultOfTaking_1 (fun r_ u_ H locs hw hP hD hS => ?_)
  try dsimp only at hw
  subst hw
  have hP : va_P D vwCl (W_S cI cS k lane len cl) H := hP
  have hD : va_D A (W_S cI cS k lane len cl) := hD
  refine n_if_b1 (tgt := 9) hx hb dX3_faultOfTaking_4 (by decide)  (fun c_1 => ?_) (fun c_1 => ?_)
  ·
    refine lv_aload_n hx hb dX3_faultOfTaking_9 rfl (lv_at hl 0 rfl) ?_
    refine va_get (D := D) (ci := 3) (v := .int (iI lane)) (C := RX3) (T := TX3) (N := 3) hx hb hts iw_3 hown hK.1 hP 0 rfl rfl 1 (by decide) fl_15 (fun _ h9 => h9) rfl dX3_faultOfTaking_10 ?_
    refine lv_iload_n hx hb dX3_faultOfTaking_13 rfl (lv_at hl 1 rfl) ?_
    refine n_icmp_eq (tgt := 19) hx hb dX3_faultOfTaking_14 (by decide) (by omega) (fun c_2 => ?_) (fun c_2 => ?_)
    ·
      refine lv_iload_n hx hb dX3_faultOfTaking_19 rfl (lv_at hl 3 rfl) ?_
      refine n_if_ge (tgt := 25) hx hb dX3_faultOfTaking_20 (by decide) (by omega) (fun c_3 => ?_) (fun c_3 => ?_)
      ·
        refine lv_aload_n hx hb dX3_faultOfTaking_25 rfl (lv_at hl 0 rfl) ?_
        refine lv_iload_n hx hb dX3_faultOfTaking_26 rfl (lv_at hl 2 rfl) ?_
        refine lv_iload_n hx hb dX3_faultOfTaking_27 rfl (lv_at hl 3 rfl) ?_
        refine x_callVi (As := [.int (iI i), .int (iI n)]) (rest := []) ⟨hx, hb, hml, hown, hts⟩ (c_X3_hasCells l D cI cS k lane len cl H.size i n (by first | assumption | omega) (by first | assumption | omega) (by first | assumption | omega)) (cwV 2 hts gX3_faultOfTaking_X3_hasCells rfl rfl rfl (by decide +kernel) ⟨Nat.le_of_ble_eq_true rfl, Nat.le_of_ble_eq_true rfl⟩) hK hP hD hS hA [0, 1] [] (wr := ([] : va_W)) rfl rfl (by decide) (by decide) (by decide) 0 3 rfl rfl rfl [0, 1] (fun (u : Unit) => (W_S cI cS k lane len cl)) (fun _ => rfl) (by decide) rfl hl.1 rfl (Nat.le_of_ble_eq_true rfl) ⟨Nat.zero_le _, Nat.zero_le _⟩ dX3_faultOfTaking_28 (fun r_ u_ H locs hw hP hD hS => ?_)
        try dsimp only at hw
        subst hw
        have hP : va_P D vwCl (W_S cI cS k lane len cl) H := hP
        have hD : va_D A (W_S cI cS k lane len cl) := hD
        refine n_if_b1 (tgt := 38) hx hb dX3_faultOfTaking_31 (by decide)  (fun c_4 => ?_) (fun c_4 => ?_)
        ·
          refine lv_iconst (v := iI 3) hx hb dX3_faultOfTaking_38 (by decide +kernel) ?_
          exact W.iret (v := iI 3) hx hb hr (fun t ht hW => ⟨⟨_, (), rfl, congrArg iI (show 3 = (ftk lane len as i n) from (by unfold ftk; first | rfl | (repeat (first | rw [if_pos (by omega)] | rw [if_neg (by omega)])))), by rw [ht]; exact hP, hD⟩, hS.F ht⟩) hS.2.2 dX3_faultOfTaking_39
        ·
          refine lv_iconst (v := iI 0) hx hb dX3_faultOfTaking_34 (by decide +kernel) ?_
          refine lv_goto (tgt := 39) hx hb dX3_faultOfTaking_35 (by decide) ?_
          exact W.iret (v := iI 0) hx hb hr (fun t ht hW => ⟨⟨_, (), rfl, congrArg iI (show 0 = (ftk lane len as i n) from (by unfold ftk; first | rfl | (repeat (first | rw [if_pos (by omega)] | rw [if_neg (by omega)])))), by rw [ht]; exact hP, hD⟩, hS.F ht⟩) hS.2.2 dX3_faultOfTaking_39
      ·
        refine lv_iconst (v := iI 4) hx hb dX3_faultOfTaking_23 (by decide +kernel) ?_
        exact W.iret (v := iI 4) hx hb hr (fun t ht hW => ⟨⟨_, (), rfl, congrArg iI (show 4 = (ftk lane len as i n) from (by unfold ftk; first | rfl | (repeat (first | rw [if_pos (by omega)] | rw [if_neg (by omega)])))), by rw [ht]; exact hP, hD⟩, hS.F ht⟩) hS.2.2 dX3_faultOfTaking_24
    ·
      refine lv_iconst (v := iI 2) hx hb dX3_faultOfTaking_17 (by decide +kernel) ?_
      exact W.iret (v := iI 2) hx hb hr (fun t ht hW => ⟨⟨_, (), rfl, congrArg iI (show 2 = (ftk lane len as i n) from (by unfold ftk; first | rfl | (repeat (first | rw [if_pos (by omega)] | rw [if_neg (by omega)])))), by rw [ht]; exact hP, hD⟩, hS.F ht⟩) hS.2.2 dX3_faultOfTaking_18
  ·
    refine lv_iconst (v := iI 1) hx hb dX3_faultOfTaking_7 (by decide +kernel) ?_
    exact W.iret (v := iI 1) hx hb hr (fun t ht hW => ⟨⟨_, (), rfl, congrArg iI (show 1 = (ftk lane len as i n) from (by unfold ftk; first | rfl | (repeat (first | rw [if_pos (by omega)] | rw [if_neg (by omega)])))), by rw [ht]; exact hP, hD⟩, hS.F ht⟩) hS.2.2 dX3_faultOfTaking_8
set_option maxHeartbeats 4000000 in
set_option maxRecDepth 100000 in
theorem c_X3_cutToLane (l : Launch) (D : va_G) (cI cS : ClassId) (k : Nat → Nat) (lane : Int) (len : Int) (cl : Int → Int) (sz : Nat) (v : Int) (hla : -2147483648 ≤ lane ∧ lane < 2147483648) : Met l yX3_cutToLane wsX3_cutToLane ({ frames := 0, cells := 0, slots := 0, locals := 0 }) (cP D cI cS (W_S cI cS k lane len cl) sz [.ref (k 0), .int (iI v)]) (va_Qi (fun (r : Int32) (u : Unit) => r = iI (cutI lane v)) (fun (u : Unit) t => cB D (va_A (W_S cI cS k lane len cl) sz) (W_S cI cS k lane len cl) t) (va_A (W_S cI cS k lane len cl) sz)) 0 0 (va_A (W_S cI cS k lane len cl) sz) := by
  refine Met.ofW (cc := cX3_cutToLane) (maxL := 2) (ret := (some .int)) (by decide) rfl ?_
  intro p e s m args below meth c_ s₁ B hml hv
  obtain ⟨rfl, hsz, hP, hK, hD0⟩ := hv
  have hx := B.exec
  have hb := B.bytes
  have hr := B.returns
  have hts := atoms_spec (ws := wsX3_cutToLane) B.pre
  have hown : s.vm.findClass RX3 = some m.cls := findClass_of_methodNamed B.named
  have hlocks := B.notSynchronized
  subst hsz
  have hD := hD0.self (sz := s.heap.size)
  generalize hAe : va_A (W_S cI cS k lane len cl) s.heap.size = A at hD ⊢
  have hA : ∀ q : Nat, s.heap.size ≤ q → A q := fun q h => by rw [← hAe]; exact Or.inr h
  have hS : va_S A s.heap s.heap [] := va_S.rf
  have hP : va_P D vwCl (W_S cI cS k lane len cl) s.heap := hP
  have hl := lv_entry ([.ref (k 0), .int (iI v)] : List Value) (n := 2) (Nat.le_of_ble_eq_true rfl)
  rw [lg_entry_eq]
  generalize (lg_sl ([.ref (k 0), .int (iI v)] : List Value) ++ List.replicate (2 - (lg_sl ([.ref (k 0), .int (iI v)] : List Value)).length) Slot.unset).toArray = ls at hl ⊢
  have hl : lv_has ls 2 [(0, .ref (k 0)), (1, .int (iI v))] := hl
  have fl_15 := hts (.fieldLink RX3 15 "ActRows$Sheet" "lane" "I") (by decide +kernel)
  have iw_3 : ∀ w ∈ wsX30, w ∈ wsX3_cutToLane := by decide +kernel
  refine lv_aload_n hx hb dX3_cutToLane_0 rfl (lv_at hl 0 rfl) ?_
  refine va_get (D := D) (ci := 3) (v := .int (iI lane)) (C := RX3) (T := TX3) (N := 3) hx hb hts iw_3 hown hK.1 hP 0 rfl rfl 1 (by decide) fl_15 (fun _ h9 => h9) rfl dX3_cutToLane_1 ?_
  by_cases c_1 : lane = 0
  ·
    refine n_lookup (tgt := 32) hx hb dX3_cutToLane_4 (by decide) (by omega) (by rw [c_1] <;> rfl) (by decide) ?_
    refine lv_iload_n hx hb dX3_cutToLane_32 rfl (lv_at hl 1 rfl) ?_
    refine n_i2b  hx hb dX3_cutToLane_33 ?_
    exact W.iret (v := iI (Int.bmod v 256)) hx hb hr (fun t ht hW => ⟨⟨_, (), rfl, congrArg iI (show (Int.bmod v 256) = (cutI lane v) from (by unfold cutI; first | rfl | (repeat (first | rw [if_pos (by omega)] | rw [if_neg (by omega)])))), by rw [ht]; exact hP, hD⟩, hS.F ht⟩) hS.2.2 dX3_cutToLane_34
  by_cases c_2 : lane = 1
  ·
    refine n_lookup (tgt := 35) hx hb dX3_cutToLane_4 (by decide) (by omega) (by rw [c_2] <;> rfl) (by decide) ?_
    refine lv_iload_n hx hb dX3_cutToLane_35 rfl (lv_at hl 1 rfl) ?_
    refine n_i2s  hx hb dX3_cutToLane_36 ?_
    exact W.iret (v := iI (Int.bmod v 65536)) hx hb hr (fun t ht hW => ⟨⟨_, (), rfl, congrArg iI (show (Int.bmod v 65536) = (cutI lane v) from (by unfold cutI; first | rfl | (repeat (first | rw [if_pos (by omega)] | rw [if_neg (by omega)])))), by rw [ht]; exact hP, hD⟩, hS.F ht⟩) hS.2.2 dX3_cutToLane_37
  refine n_lookup (off := 34) (tgt := 38) hx hb dX3_cutToLane_4 (by decide) (by omega) (by simp only [Op.lookupswitch.offset]; repeat rw [if_neg (by omega)]) (by decide) ?_
  refine lv_iload_n hx hb dX3_cutToLane_38 rfl (lv_at hl 1 rfl) ?_
  exact W.iret (v := iI v) hx hb hr (fun t ht hW => ⟨⟨_, (), rfl, congrArg iI (show v = (cutI lane v) from (by unfold cutI; first | rfl | (repeat (first | rw [if_pos (by omega)] | rw [if_neg (by omega)])))), by rw [ht]; exact hP, hD⟩, hS.F ht⟩) hS.2.2 dX3_cutToLane_39
set_option maxHeartbeats 4000000 in
set_option maxRecDepth 100000 in
theorem c_X3_cellAt (l : Launch) (D : va_G) (cI cS : ClassId) (k : Nat → Nat) (lane : Int) (len : Int) (cl : Int → Int) (sz : Nat) (i : Int) (hs : 0 ≤ len ∧ len ≤ 60) (hi : -2147483648 ≤ i ∧ i < 2147483648) : Met l yX3_cellAt wsX3_cellAt ({ frames := 1, cells := 0, slots := 0, locals := 22 }) (cP D cI cS (W_S cI cS k lane len cl) sz [.ref (k 0), .int (iI i)]) (va_Qi (fun (r : Int32) (u : Unit) => r = iI (if 0 ≤ i ∧ i < len then cl i else 0)) (fun (u : Unit) t => cB D (va_A (W_S cI cS k lane len cl) sz) (W_S cI cS k lane len cl) t) (va_A (W_S cI cS k lane len cl) sz)) 0 0 (va_A (W_S cI cS k lane len cl) sz) := by
  refine Met.ofW (cc := cX3_cellAt) (maxL := 2) (ret := (some .int)) (by decide) rfl ?_
  intro p e s m args below meth c_ s₁ B hml hv
  obtain ⟨rfl, hsz, hP, hK, hD0⟩ := hv
  have hx := B.exec
  have hb := B.bytes
  have hr := B.returns
  have hts := atoms_spec (ws := wsX3_cellAt) B.pre
  have hown : s.vm.findClass RX3 = some m.cls := findClass_of_methodNamed B.named
  have hlocks := B.notSynchronized
  subst hsz
  have hD := hD0.self (sz := s.heap.size)
  generalize hAe : va_A (W_S cI cS k lane len cl) s.heap.size = A at hD ⊢
  have hA : ∀ q : Nat, s.heap.size ≤ q → A q := fun q h => by rw [← hAe]; exact Or.inr h
  have hS : va_S A s.heap s.heap [] := va_S.rf
  have hP : va_P D vwCl (W_S cI cS k lane len cl) s.heap := hP
  have hl := lv_entry ([.ref (k 0), .int (iI i)] : List Value) (n := 2) (Nat.le_of_ble_eq_true rfl)
  rw [lg_entry_eq]
  generalize (lg_sl ([.ref (k 0), .int (iI i)] : List Value) ++ List.replicate (2 - (lg_sl ([.ref (k 0), .int (iI i)] : List Value)).length) Slot.unset).toArray = ls at hl ⊢
  have hl : lv_has ls 2 [(0, .ref (k 0)), (1, .int (iI i))] := hl
  have fl_9 := hts (.fieldLink RX3 9 "ActRows$Sheet" "cells" "[I") (by decide +kernel)
  have iw_3 : ∀ w ∈ wsX30, w ∈ wsX3_cellAt := by decide +kernel
  refine lv_aload_n hx hb dX3_cellAt_0 rfl (lv_at hl 0 rfl) ?_
  refine lv_iload_n hx hb dX3_cellAt_1 rfl (lv_at hl 1 rfl) ?_
  refine lv_iconst (v := iI 1) hx hb dX3_cellAt_2 (by decide +kernel) ?_
  refine x_callVi (As := [.int (iI i), .int (iI 1)]) (rest := []) ⟨hx, hb, hml, hown, hts⟩ (c_X3_hasCells l D cI cS k lane len cl s.heap.size i 1 (by first | assumption | omega) (by first | assumption | omega) (by first | assumption | omega)) (cwV 2 hts gX3_cellAt_X3_hasCells rfl rfl rfl (by decide +kernel) ⟨Nat.le_of_ble_eq_true rfl, Nat.le_of_ble_eq_true rfl⟩) hK hP hD hS hA [0, 1] [] (wr := ([] : va_W)) rfl rfl (by decide) (by decide) (by decide) 0 3 rfl rfl rfl [0, 1] (fun (u : Unit) => (W_S cI cS k lane len cl)) (fun _ => rfl) (by decide) rfl hl.1 rfl (Nat.le_of_ble_eq_true rfl) ⟨Nat.zero_le _, Nat.zero_le _⟩ dX3_cellAt_3 (fun r_ u_ H locs hw hP hD hS => ?_)
  try dsimp only at hw
  subst hw
  have hP : va_P D vwCl (W_S cI cS k lane len cl) H := hP
  have hD : va_D A (W_S cI cS k lane len cl) := hD
  refine n_if_b1 (tgt := 18) hx hb dX3_cellAt_6 (by decide)  (fun c_1 => ?_) (fun c_1 => ?_)
  ·
    refine lv_iconst (v := iI 0) hx hb dX3_cellAt_18 (by decide +kernel) ?_
    exact W.iret (v := iI 0) hx hb hr (fun t ht hW => ⟨⟨_, (), rfl, congrArg iI (show 0 = (if 0 ≤ i ∧ i < len then cl i else 0) from (by first | rfl | omega | (rw [if_pos (by omega)]) | (rw [if_neg (by omega)]))), by rw [ht]; exact hP, hD⟩, hS.F ht⟩) hS.2.2 dX3_cellAt_19
  ·
    refine lv_aload_n hx hb dX3_cellAt_9 rfl (lv_at hl 0 rfl) ?_
    refine va_get (D := D) (ci := 3) (v := .ref (k 1)) (C := RX3) (T := TX3) (N := 3) hx hb hts iw_3 hown hK.1 hP 0 rfl rfl 0 (by decide) fl_9 (fun _ h9 => h9) rfl dX3_cellAt_10 ?_
    refine lv_iload_n hx hb dX3_cellAt_13 rfl (lv_at hl 1 rfl) ?_
    refine n_iald (n := 60) hx hb hK.1 hP 1 0 rfl rfl (by omega) (by decide) dX3_cellAt_14 ?_
    refine lv_goto (tgt := 19) hx hb dX3_cellAt_15 (by decide) ?_
    exact W.iret (v := iI (cl i)) hx hb hr (fun t ht hW => ⟨⟨_, (), rfl, congrArg iI (show (cl i) = (if 0 ≤ i ∧ i < len then cl i else 0) from (by first | rfl | omega | (rw [if_pos (by omega)]) | (rw [if_neg (by omega)]))), by rw [ht]; exact hP, hD⟩, hS.F ht⟩) hS.2.2 dX3_cellAt_19
set_option maxHeartbeats 4000000 in
set_option maxRecDepth 100000 in
theorem c_X3_setCell (l : Launch) (D : va_G) (cI cS : ClassId) (k : Nat → Nat) (lane : Int) (len : Int) (cl : Int → Int) (sz : Nat) (i : Int) (v : Int) (hs : 0 ≤ len ∧ len ≤ 60) (hla : -2147483648 ≤ lane ∧ lane < 2147483648) (hi : -2147483648 ≤ i ∧ i < 2147483648) : Met l yX3_setCell wsX3_setCell ({ frames := 1, cells := 0, slots := 0, locals := 22 }) (cP D cI cS (W_S cI cS k lane len cl) sz [.ref (k 0), .int (iI i), .int (iI v)]) (va_Qv (fun (u : Unit) => True) (fun (u : Unit) t => cB D (va_A (W_S cI cS k lane len cl) sz) (W_S cI cS k lane len (if 0 ≤ i ∧ i < len then updI cl i (cutI lane v) else cl)) t) (va_A (W_S cI cS k lane len cl) sz)) 0 0 (va_A (W_S cI cS k lane len cl) sz) := by
  refine Met.ofW (cc := cX3_setCell) (maxL := 3) (ret := none) (by decide) rfl ?_
  intro p e s m args below meth c_ s₁ B hml hv
  obtain ⟨rfl, hsz, hP, hK, hD0⟩ := hv
  have hx := B.exec
  have hb := B.bytes
  have hr := B.returns
  have hts := atoms_spec (ws := wsX3_setCell) B.pre
  have hown : s.vm.findClass RX3 = some m.cls := findClass_of_methodNamed B.named
  have hlocks := B.notSynchronized
  subst hsz
  have hD := hD0.self (sz := s.heap.size)
  generalize hAe : va_A (W_S cI cS k lane len cl) s.heap.size = A at hD ⊢
  have hA : ∀ q : Nat, s.heap.size ≤ q → A q := fun q h => by rw [← hAe]; exact Or.inr h
  have hS : va_S A s.heap s.heap [] := va_S.rf
  have hP : va_P D vwCl (W_S cI cS k lane len cl) s.heap := hP
  have hl := lv_entry ([.ref (k 0), .int (iI i), .int (iI v)] : List Value) (n := 3) (Nat.le_of_ble_eq_true rfl)
  rw [lg_entry_eq]
  generalize (lg_sl ([.ref (k 0), .int (iI i), .int (iI v)] : List Value) ++ List.replicate (3 - (lg_sl ([.ref (k 0), .int (iI i), .int (iI v)] : List Value)).length) Slot.unset).toArray = ls at hl ⊢
  have hl : lv_has ls 3 [(0, .ref (k 0)), (1, .int (iI i)), (2, .int (iI v))] := hl
  have fl_9 := hts (.fieldLink RX3 9 "ActRows$Sheet" "cells" "[I") (by decide +kernel)
  have iw_3 : ∀ w ∈ wsX30, w ∈ wsX3_setCell := by decide +kernel
  refine lv_aload_n hx hb dX3_setCell_0 rfl (lv_at hl 0 rfl) ?_
  refine lv_iload_n hx hb dX3_setCell_1 rfl (lv_at hl 1 rfl) ?_
  refine lv_iconst (v := iI 1) hx hb dX3_setCell_2 (by decide +kernel) ?_
  refine x_callVi (As := [.int (iI i), .int (iI 1)]) (rest := []) ⟨hx, hb, hml, hown, hts⟩ (c_X3_hasCells l D cI cS k lane len cl s.heap.size i 1 (by first | assumption | omega) (by first | assumption | omega) (by first | assumption | omega)) (cwV 2 hts gX3_setCell_X3_hasCells rfl rfl rfl (by decide +kernel) ⟨Nat.le_of_ble_eq_true rfl, Nat.le_of_ble_eq_true rfl⟩) hK hP hD hS hA [0, 1] [] (wr := ([] : va_W)) rfl rfl (by decide) (by decide) (by decide) 0 3 rfl rfl rfl [0, 1] (fun (u : Unit) => (W_S cI cS k lane len cl)) (fun _ => rfl) (by decide) rfl hl.1 rfl (Nat.le_of_ble_eq_true rfl) ⟨Nat.zero_le _, Nat.zero_le _⟩ dX3_setCell_3 (fun r_ u_ H locs hw hP hD hS => ?_)
  try dsimp only at hw
  subst hw
  have hP : va_P D vwCl (W_S cI cS k lane len cl) H := hP
  have hD : va_D A (W_S cI cS k lane len cl) := hD
  refine n_if_b1 (tgt := 20) hx hb dX3_setCell_6 (by decide)  (fun c_1 => ?_) (fun c_1 => ?_)
  ·
    have e_2 : (cl : Int → Int) = (if 0 ≤ i ∧ i < len then updI cl i (cutI lane v) else cl) := (by first | rfl | omega | (rw [if_pos (by omega)]) | (rw [if_neg (by omega)]))
    have hP : va_P D vwCl (W_S cI cS k lane len (if 0 ≤ i ∧ i < len then updI cl i (cutI lane v) else cl)) H := Eq.mp (congrArg (fun z_ => va_P D vwCl (W_S cI cS k lane len z_) H) e_2) hP
    have hD : va_D A (W_S cI cS k lane len (if 0 ≤ i ∧ i < len then updI cl i (cutI lane v) else cl)) := Eq.mp (congrArg (fun z_ => va_D A (W_S cI cS k lane len z_)) e_2) hD
    exact W.vret hx hb hr (fun t ht hW => ⟨⟨(), rfl, trivial, by rw [ht]; exact hP, hD⟩, hS.F ht⟩) hS.2.2 dX3_setCell_20
  ·
    refine lv_aload_n hx hb dX3_setCell_9 rfl (lv_at hl 0 rfl) ?_
    refine va_get (D := D) (ci := 3) (v := .ref (k 1)) (C := RX3) (T := TX3) (N := 3) hx hb hts iw_3 hown hK.1 hP 0 rfl rfl 0 (by decide) fl_9 (fun _ h9 => h9) rfl dX3_setCell_10 ?_
    refine lv_iload_n hx hb dX3_setCell_13 rfl (lv_at hl 1 rfl) ?_
    refine lv_aload_n hx hb dX3_setCell_14 rfl (lv_at hl 0 rfl) ?_
    refine lv_iload_n hx hb dX3_setCell_15 rfl (lv_at hl 2 rfl) ?_
    refine x_callVi (As := [.int (iI v)]) (rest := [.int (iI i), .ref (k 1)]) ⟨hx, hb, hml, hown, hts⟩ (c_X3_cutToLane l D cI cS k lane len cl H.size v (by first | assumption | omega)) (cwV 1 hts gX3_setCell_X3_cutToLane rfl rfl rfl (by decide +kernel) ⟨Nat.le_of_ble_eq_true rfl, Nat.le_of_ble_eq_true rfl⟩) hK hP hD hS hA [0, 1] [] (wr := ([] : va_W)) rfl rfl (by decide) (by decide) (by decide) 0 3 rfl rfl rfl [0, 1] (fun (u : Unit) => (W_S cI cS k lane len cl)) (fun _ => rfl) (by decide) rfl hl.1 rfl (Nat.le_of_ble_eq_true rfl) ⟨Nat.zero_le _, Nat.zero_le _⟩ dX3_setCell_16 (fun r_ u_ H locs hw hP hD hS => ?_)
    try dsimp only at hw
    subst hw
    have hP : va_P D vwCl (W_S cI cS k lane len cl) H := hP
    have hD : va_D A (W_S cI cS k lane len cl) := hD
    refine n_iast (n := 60) hx hb hK.1 hP hD hS 1 0 rfl rfl (by omega) (by decide) dX3_setCell_19 (fun H locs hP hD hS => ?_)
    have hP : va_P D vwCl (W_S cI cS k lane len (updI cl i (cutI lane v))) H := hP
    have hD : va_D A (W_S cI cS k lane len (updI cl i (cutI lane v))) := hD
    have e_3 : ((updI cl i (cutI lane v)) : Int → Int) = (if 0 ≤ i ∧ i < len then updI cl i (cutI lane v) else cl) := (by first | rfl | omega | (rw [if_pos (by omega)]) | (rw [if_neg (by omega)]))
    have hP : va_P D vwCl (W_S cI cS k lane len (if 0 ≤ i ∧ i < len then updI cl i (cutI lane v) else cl)) H := Eq.mp (congrArg (fun z_ => va_P D vwCl (W_S cI cS k lane len z_) H) e_3) hP
    have hD : va_D A (W_S cI cS k lane len (if 0 ≤ i ∧ i < len then updI cl i (cutI lane v) else cl)) := Eq.mp (congrArg (fun z_ => va_D A (W_S cI cS k lane len z_)) e_3) hD
    exact W.vret hx hb hr (fun t ht hW => ⟨⟨(), rfl, trivial, by rw [ht]; exact hP, hD⟩, hS.F ht⟩) hS.2.2 dX3_setCell_20
