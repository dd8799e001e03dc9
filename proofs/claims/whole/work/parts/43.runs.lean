set_option maxHeartbeats 4000000 in
set_option maxRecDepth 100000 in
theorem c_X7_opens (l : Launch) (D : va_G) (cI cS : ClassId) (mA : Nat → Nat) (mf : Int) (mn : Int) (ml : Int) (mk : Int → Int) (mg : Int → Int) (mls : Int → Int) (ms : Int → Int) (mra : Int) (mrf : Int) (mrk : Int → Int) (mrg : Int → Int) (mrl : Int → Int) (mrs : Int → Int) (mo : Int) (moo : Int → Int) (moa : Int → Int) (mp : Int) (mpp : Int → Int) (mfi : Int) (mpl : Int) (mpo : Int → Int) (mro : Int → Int) (mdp : Int) (mdf : Int) (mhg : Int → Int) (mhk : Int → Int) (mR : Int) (mRf : Int → Int) (mRo : Int → Int) (mss : Int → Int) (msl : Int → Int) (msh : Int → Int) (mha : Int → Int) (mt : Int) (sz : Nat) (f : Int) (hmo : 0 ≤ mo ∧ mo < 5) : Met l yX7_opens wsX7_opens ({ frames := 0, cells := 0, slots := 0, locals := 0 }) (cP D cI cS (W_M cI cS mA mf mn ml mk mg mls ms mra mrf mrk mrg mrl mrs mo moo moa mp mpp mfi mpl mpo mro mdp mdf mhg mhk mR mRf mRo mss msl msh mha mt) sz [.ref (mA 0), .int (iI f)]) (va_Qv (fun (u : Unit) => True) (fun (u : Unit) t => cB D (va_A (W_M cI cS mA mf mn ml mk mg mls ms mra mrf mrk mrg mrl mrs mo moo moa mp mpp mfi mpl mpo mro mdp mdf mhg mhk mR mRf mRo mss msl msh mha mt) sz) (W_M cI cS mA mf mn ml mk mg mls ms mra mrf mrk mrg mrl mrs (mo + 1) (updI moo mo f) (updI moa mo 0) mp mpp mfi mpl mpo mro mdp mdf mhg mhk mR mRf mRo mss msl msh mha mt) t) (va_A (W_M cI cS mA mf mn ml mk mg mls ms mra mrf mrk mrg mrl mrs mo moo moa mp mpp mfi mpl mpo mro mdp mdf mhg mhk mR mRf mRo mss msl msh mha mt) sz)) 0 0 (va_A (W_M cI cS mA mf mn ml mk mg mls ms mra mrf mrk mrg mrl mrs mo moo moa mp mpp mfi mpl mpo mro mdp mdf mhg mhk mR mRf mRo mss msl msh mha mt) sz) := by
  refine Met.ofW (cc := cX7_opens) (maxL := 2) (ret := none) (by decide) rfl ?_
  intro p e s m args below meth c_ s₁ B hml hv
  obtain ⟨rfl, hsz, hP, hK, hD0⟩ := hv
  have hx := B.exec
  have hb := B.bytes
  have hr := B.returns
  have hts := atoms_spec (ws := wsX7_opens) B.pre
  have hown : s.vm.findClass RX7 = some m.cls := findClass_of_methodNamed B.named
  have hlocks := B.notSynchronized
  subst hsz
  have hD := hD0.self (sz := s.heap.size)
  generalize hAe : va_A (W_M cI cS mA mf mn ml mk mg mls ms mra mrf mrk mrg mrl mrs mo moo moa mp mpp mfi mpl mpo mro mdp mdf mhg mhk mR mRf mRo mss msl msh mha mt) s.heap.size = A at hD ⊢
  have hA : ∀ q : Nat, s.heap.size ≤ q → A q := fun q h => by rw [← hAe]; exact Or.inr h
  have hS : va_S A s.heap s.heap [] := va_S.rf
  have hP : va_P D vwCl (W_M cI cS mA mf mn ml mk mg mls ms mra mrf mrk mrg mrl mrs mo moo moa mp mpp mfi mpl mpo mro mdp mdf mhg mhk mR mRf mRo mss msl msh mha mt) s.heap := hP
  have hl := lv_entry ([.ref (mA 0), .int (iI f)] : List Value) (n := 2) (Nat.le_of_ble_eq_true rfl)
  rw [lg_entry_eq]
  generalize (lg_sl ([.ref (mA 0), .int (iI f)] : List Value) ++ List.replicate (2 - (lg_sl ([.ref (mA 0), .int (iI f)] : List Value)).length) Slot.unset).toArray = ls at hl ⊢
  have hl : lv_has ls 2 [(0, .ref (mA 0)), (1, .int (iI f))] := hl
  have fl_34 := hts (.fieldLink RX7 34 "ActRowsModel" "openOf" "[I") (by decide +kernel)
  have iw_7 : ∀ w ∈ wsX70, w ∈ wsX7_opens := by decide +kernel
  have fl_148 := hts (.fieldLink RX7 148 "ActRowsModel" "open" "I") (by decide +kernel)
  have fl_37 := hts (.fieldLink RX7 37 "ActRowsModel" "openAt" "[I") (by decide +kernel)
  refine lv_aload_n hx hb dX7_opens_0 rfl (lv_at hl 0 rfl) ?_
  refine va_get (D := D) (ci := 7) (v := .ref (mA 9)) (C := RX7) (T := TX7) (N := 34) hx hb hts iw_7 hown hK.1 hP 0 rfl rfl 14 (by decide) fl_34 (fun _ h9 => h9) rfl dX7_opens_1 ?_
  refine lv_aload_n hx hb dX7_opens_4 rfl (lv_at hl 0 rfl) ?_
  refine va_get (D := D) (ci := 7) (v := .int (iI mo)) (C := RX7) (T := TX7) (N := 34) hx hb hts iw_7 hown hK.1 hP 0 rfl rfl 13 (by decide) fl_148 (fun _ h9 => h9) rfl dX7_opens_5 ?_
  refine lv_iload_n hx hb dX7_opens_8 rfl (lv_at hl 1 rfl) ?_
  refine n_iast (n := 5) hx hb hK.1 hP hD hS 9 0 rfl rfl (by omega) (by decide) dX7_opens_9 (fun H locs hP hD hS => ?_)
  have hP : va_P D vwCl (W_M cI cS mA mf mn ml mk mg mls ms mra mrf mrk mrg mrl mrs mo (updI moo mo f) moa mp mpp mfi mpl mpo mro mdp mdf mhg mhk mR mRf mRo mss msl msh mha mt) H := hP
  have hD : va_D A (W_M cI cS mA mf mn ml mk mg mls ms mra mrf mrk mrg mrl mrs mo (updI moo mo f) moa mp mpp mfi mpl mpo mro mdp mdf mhg mhk mR mRf mRo mss msl msh mha mt) := hD
  refine lv_aload_n hx hb dX7_opens_10 rfl (lv_at hl 0 rfl) ?_
  refine va_get (D := D) (ci := 7) (v := .ref (mA 10)) (C := RX7) (T := TX7) (N := 34) hx hb hts iw_7 hown hK.1 hP 0 rfl rfl 15 (by decide) fl_37 (fun _ h9 => h9) rfl dX7_opens_11 ?_
  refine lv_aload_n hx hb dX7_opens_14 rfl (lv_at hl 0 rfl) ?_
  refine va_get (D := D) (ci := 7) (v := .int (iI mo)) (C := RX7) (T := TX7) (N := 34) hx hb hts iw_7 hown hK.1 hP 0 rfl rfl 13 (by decide) fl_148 (fun _ h9 => h9) rfl dX7_opens_15 ?_
  refine lv_iconst (v := iI 0) hx hb dX7_opens_18 (by decide +kernel) ?_
  refine n_iast (n := 5) hx hb hK.1 hP hD hS 10 0 rfl rfl (by omega) (by decide) dX7_opens_19 (fun H locs hP hD hS => ?_)
  have hP : va_P D vwCl (W_M cI cS mA mf mn ml mk mg mls ms mra mrf mrk mrg mrl mrs mo (updI moo mo f) (updI moa mo 0) mp mpp mfi mpl mpo mro mdp mdf mhg mhk mR mRf mRo mss msl msh mha mt) H := hP
  have hD : va_D A (W_M cI cS mA mf mn ml mk mg mls ms mra mrf mrk mrg mrl mrs mo (updI moo mo f) (updI moa mo 0) mp mpp mfi mpl mpo mro mdp mdf mhg mhk mR mRf mRo mss msl msh mha mt) := hD
  refine lv_aload_n hx hb dX7_opens_20 rfl (lv_at hl 0 rfl) ?_
  refine lv_dup hx hb dX7_opens_21 rfl ?_
  refine va_get (D := D) (ci := 7) (v := .int (iI mo)) (C := RX7) (T := TX7) (N := 34) hx hb hts iw_7 hown hK.1 hP 0 rfl rfl 13 (by decide) fl_148 (fun _ h9 => h9) rfl dX7_opens_22 ?_
  refine lv_iconst (v := iI 1) hx hb dX7_opens_25 (by decide +kernel) ?_
  refine n_iadd hx hb dX7_opens_26 ?_
  refine va_put (D := D) (ci := 7) (v := .int (iI (mo + 1))) (ty := .int) (C := RX7) (T := TX7) (N := 34) hx hb hts iw_7 tyX7 tyX7_ok nmX7 hown hK.1 hP hD hS 0 rfl rfl 13 (by decide) fl_148 (fun _ h9 => h9) rfl (by decide +kernel) rfl rfl (Nat.le_of_ble_eq_true rfl) dX7_opens_27 (fun H locs hP hD hS => ?_)
  have hP : va_P D vwCl (W_M cI cS mA mf mn ml mk mg mls ms mra mrf mrk mrg mrl mrs (mo + 1) (updI moo mo f) (updI moa mo 0) mp mpp mfi mpl mpo mro mdp mdf mhg mhk mR mRf mRo mss msl msh mha mt) H := hP
  have hD : va_D A (W_M cI cS mA mf mn ml mk mg mls ms mra mrf mrk mrg mrl mrs (mo + 1) (updI moo mo f) (updI moa mo 0) mp mpp mfi mpl mpo mro mdp mdf mhg mhk mR mRf mRo mss msl msh mha mt) := hD
  exact W.vret hx hb hr (fun t ht hW => ⟨⟨(), rfl, trivial, by rw [ht]; exact hP, hD⟩, hS.F ht⟩) hS.2.2 dX7_opens_30
set_option maxHeartbeats 4000000 in
set_option maxRecDepth 100000 in
theorem c_X7_ends (l : Launch) (D : va_G) (cI cS : ClassId) (mA : Nat → Nat) (mf : Int) (mn : Int) (ml : Int) (mk : Int → Int) (mg : Int → Int) (mls : Int → Int) (ms : Int → Int) (mra : Int) (mrf : Int) (mrk : Int → Int) (mrg : Int → Int) (mrl : Int → Int) (mrs : Int → Int) (mo : Int) (moo : Int → Int) (moa : Int → Int) (mp : Int) (mpp : Int → Int) (mfi : Int) (mpl : Int) (mpo : Int → Int) (mro : Int → Int) (mdp : Int) (mdf : Int) (mhg : Int → Int) (mhk : Int → Int) (mR : Int) (mRf : Int → Int) (mRo : Int → Int) (mss : Int → Int) (msl : Int → Int) (msh : Int → Int) (mha : Int → Int) (mt : Int) (sz : Nat)  : Met l yX7_ends wsX7_ends ({ frames := 0, cells := 0, slots := 0, locals := 0 }) (cP D cI cS (W_M cI cS mA mf mn ml mk mg mls ms mra mrf mrk mrg mrl mrs mo moo moa mp mpp mfi mpl mpo mro mdp mdf mhg mhk mR mRf mRo mss msl msh mha mt) sz [.ref (mA 0)]) (va_Qv (fun (u : Unit) => True) (fun (u : Unit) t => cB D (va_A (W_M cI cS mA mf mn ml mk mg mls ms mra mrf mrk mrg mrl mrs mo moo moa mp mpp mfi mpl mpo mro mdp mdf mhg mhk mR mRf mRo mss msl msh mha mt) sz) (W_M cI cS mA mf mn ml mk mg mls ms mra mrf mrk mrg mrl mrs (mo - 1) moo moa mp mpp (mfi + 1) mpl mpo mro mdp mdf mhg mhk mR mRf mRo mss msl msh mha mt) t) (va_A (W_M cI cS mA mf mn ml mk mg mls ms mra mrf mrk mrg mrl mrs mo moo moa mp mpp mfi mpl mpo mro mdp mdf mhg mhk mR mRf mRo mss msl msh mha mt) sz)) 0 0 (va_A (W_M cI cS mA mf mn ml mk mg mls ms mra mrf mrk mrg mrl mrs mo moo moa mp mpp mfi mpl mpo mro mdp mdf mhg mhk mR mRf mRo mss msl msh mha mt) sz) := by
  refine Met.ofW (cc := cX7_ends) (maxL := 1) (ret := none) (by decide) rfl ?_
  intro p e s m args below meth c_ s₁ B hml hv
  obtain ⟨rfl, hsz, hP, hK, hD0⟩ := hv
  have hx := B.exec
  have hb := B.bytes
  have hr := B.returns
  have hts := atoms_spec (ws := wsX7_ends) B.pre
  have hown : s.vm.findClass RX7 = some m.cls := findClass_of_methodNamed B.named
  have hlocks := B.notSynchronized
  subst hsz
  have hD := hD0.self (sz := s.heap.size)
  generalize hAe : va_A (W_M cI cS mA mf mn ml mk mg mls ms mra mrf mrk mrg mrl mrs mo moo moa mp mpp mfi mpl mpo mro mdp mdf mhg mhk mR mRf mRo mss msl msh mha mt) s.heap.size = A at hD ⊢
  have hA : ∀ q : Nat, s.heap.size ≤ q → A q := fun q h => by rw [← hAe]; exact Or.inr h
  have hS : va_S A s.heap s.heap [] := va_S.rf
  have hP : va_P D vwCl (W_M cI cS mA mf mn ml mk mg mls ms mra mrf mrk mrg mrl mrs mo moo moa mp mpp mfi mpl mpo mro mdp mdf mhg mhk mR mRf mRo mss msl msh mha mt) s.heap := hP
  have hl := lv_entry ([.ref (mA 0)] : List Value) (n := 1) (Nat.le_of_ble_eq_true rfl)
  rw [lg_entry_eq]
  generalize (lg_sl ([.ref (mA 0)] : List Value) ++ List.replicate (1 - (lg_sl ([.ref (mA 0)] : List Value)).length) Slot.unset).toArray = ls at hl ⊢
  have hl : lv_has ls 1 [(0, .ref (mA 0))] := hl
  have fl_148 := hts (.fieldLink RX7 148 "ActRowsModel" "open" "I") (by decide +kernel)
  have iw_7 : ∀ w ∈ wsX70, w ∈ wsX7_ends := by decide +kernel
  have fl_151 := hts (.fieldLink RX7 151 "ActRowsModel" "finished" "I") (by decide +kernel)
  refine lv_aload_n hx hb dX7_ends_0 rfl (lv_at hl 0 rfl) ?_
  refine lv_dup hx hb dX7_ends_1 rfl ?_
  refine va_get (D := D) (ci := 7) (v := .int (iI mo)) (C := RX7) (T := TX7) (N := 34) hx hb hts iw_7 hown hK.1 hP 0 rfl rfl 13 (by decide) fl_148 (fun _ h9 => h9) rfl dX7_ends_2 ?_
  refine lv_iconst (v := iI 1) hx hb dX7_ends_5 (by decide +kernel) ?_
  refine n_isub hx hb dX7_ends_6 ?_
  refine va_put (D := D) (ci := 7) (v := .int (iI (mo - 1))) (ty := .int) (C := RX7) (T := TX7) (N := 34) hx hb hts iw_7 tyX7 tyX7_ok nmX7 hown hK.1 hP hD hS 0 rfl rfl 13 (by decide) fl_148 (fun _ h9 => h9) rfl (by decide +kernel) rfl rfl (Nat.le_of_ble_eq_true rfl) dX7_ends_7 (fun H locs hP hD hS => ?_)
  have hP : va_P D vwCl (W_M cI cS mA mf mn ml mk mg mls ms mra mrf mrk mrg mrl mrs (mo - 1) moo moa mp mpp mfi mpl mpo mro mdp mdf mhg mhk mR mRf mRo mss msl msh mha mt) H := hP
  have hD : va_D A (W_M cI cS mA mf mn ml mk mg mls ms mra mrf mrk mrg mrl mrs (mo - 1) moo moa mp mpp mfi mpl mpo mro mdp mdf mhg mhk mR mRf mRo mss msl msh mha mt) := hD
  refine lv_aload_n hx hb dX7_ends_10 rfl (lv_at hl 0 rfl) ?_
  refine lv_dup hx hb dX7_ends_11 rfl ?_
  refine va_get (D := D) (ci := 7) (v := .int (iI mfi)) (C := RX7) (T := TX7) (N := 34) hx hb hts iw_7 hown hK.1 hP 0 rfl rfl 18 (by decide) fl_151 (fun _ h9 => h9) rfl dX7_ends_12 ?_
  refine lv_iconst (v := iI 1) hx hb dX7_ends_15 (by decide +kernel) ?_
  refine n_iadd hx hb dX7_ends_16 ?_
  refine va_put (D := D) (ci := 7) (v := .int (iI (mfi + 1))) (ty := .int) (C := RX7) (T := TX7) (N := 34) hx hb hts iw_7 tyX7 tyX7_ok nmX7 hown hK.1 hP hD hS 0 rfl rfl 18 (by decide) fl_151 (fun _ h9 => h9) rfl (by decide +kernel) rfl rfl (Nat.le_of_ble_eq_true rfl) dX7_ends_17 (fun H locs hP hD hS => ?_)
  have hP : va_P D vwCl (W_M cI cS mA mf mn ml mk mg mls ms mra mrf mrk mrg mrl mrs (mo - 1) moo moa mp mpp (mfi + 1) mpl mpo mro mdp mdf mhg mhk mR mRf mRo mss msl msh mha mt) H := hP
  have hD : va_D A (W_M cI cS mA mf mn ml mk mg mls ms mra mrf mrk mrg mrl mrs (mo - 1) moo moa mp mpp (mfi + 1) mpl mpo mro mdp mdf mhg mhk mR mRf mRo mss msl msh mha mt) := hD
  exact W.vret hx hb hr (fun t ht hW => ⟨⟨(), rfl, trivial, by rw [ht]; exact hP, hD⟩, hS.F ht⟩) hS.2.2 dX7_ends_20
set_option maxHeartbeats 4000000 in
set_option maxRecDepth 100000 in
theorem c_X7_performs (l : Launch) (D : va_G) (cI cS : ClassId) (mA : Nat → Nat) (mf : Int) (mn : Int) (ml : Int) (mk : Int → Int) (mg : Int → Int) (mls : Int → Int) (ms : Int → Int) (mra : Int) (mrf : Int) (mrk : Int → Int) (mrg : Int → Int) (mrl : Int → Int) (mrs : Int → Int) (mo : Int) (moo : Int → Int) (moa : Int → Int) (mp : Int) (mpp : Int → Int) (mfi : Int) (mpl : Int) (mpo : Int → Int) (mro : Int → Int) (mdp : Int) (mdf : Int) (mhg : Int → Int) (mhk : Int → Int) (mR : Int) (mRf : Int → Int) (mRo : Int → Int) (mss : Int → Int) (msl : Int → Int) (msh : Int → Int) (mha : Int → Int) (mt : Int) (sz : Nat) (x : Int) (hmo : 0 ≤ mo ∧ mo ≤ 5) (hmp : 0 ≤ mp ∧ mp < 1024) : Met l yX7_performs wsX7_performs ({ frames := 0, cells := 0, slots := 0, locals := 0 }) (cP D cI cS (W_M cI cS mA mf mn ml mk mg mls ms mra mrf mrk mrg mrl mrs mo moo moa mp mpp mfi mpl mpo mro mdp mdf mhg mhk mR mRf mRo mss msl msh mha mt) sz [.ref (mA 0), .int (iI x)]) (va_Qv (fun (u : (Int → Int)) => ∀ j : Int, 0 ≤ j → j < mo → u j = moo j) (fun (u : (Int → Int)) t => cB D (va_A (W_M cI cS mA mf mn ml mk mg mls ms mra mrf mrk mrg mrl mrs mo moo moa mp mpp mfi mpl mpo mro mdp mdf mhg mhk mR mRf mRo mss msl msh mha mt) sz) (W_M cI cS mA mf mn ml mk mg mls ms mra mrf mrk mrg mrl mrs mo moo moa (mp + 1) (updI mpp mp x) mfi mo u mro mdp mdf mhg mhk mR mRf mRo mss msl msh mha mt) t) (va_A (W_M cI cS mA mf mn ml mk mg mls ms mra mrf mrk mrg mrl mrs mo moo moa mp mpp mfi mpl mpo mro mdp mdf mhg mhk mR mRf mRo mss msl msh mha mt) sz)) 0 0 (va_A (W_M cI cS mA mf mn ml mk mg mls ms mra mrf mrk mrg mrl mrs mo moo moa mp mpp mfi mpl mpo mro mdp mdf mhg mhk mR mRf mRo mss msl msh mha mt) sz) := by
  refine Met.ofW (cc := cX7_performs) (maxL := 3) (ret := none) (by decide) rfl ?_
  intro p e s m args below meth c_ s₁ B hml hv
  obtain ⟨rfl, hsz, hP, hK, hD0⟩ := hv
  have hx := B.exec
  have hb := B.bytes
  have hr := B.returns
  have hts := atoms_spec (ws := wsX7_performs) B.pre
  have hown : s.vm.findClass RX7 = some m.cls := findClass_of_methodNamed B.named
  have hlocks := B.notSynchronized
  subst hsz
  have hD := hD0.self (sz := s.heap.size)
  generalize hAe : va_A (W_M cI cS mA mf mn ml mk mg mls ms mra mrf mrk mrg mrl mrs mo moo moa mp mpp mfi mpl mpo mro mdp mdf mhg mhk mR mRf mRo mss msl msh mha mt) s.heap.size = A at hD ⊢
  have hA : ∀ q : Nat, s.heap.size ≤ q → A q := fun q h => by rw [← hAe]; exact Or.inr h
  have hS : va_S A s.heap s.heap [] := va_S.rf
  have hP : va_P D vwCl (W_M cI cS mA mf mn ml mk mg mls ms mra mrf mrk mrg mrl mrs mo moo moa mp mpp mfi mpl mpo mro mdp mdf mhg mhk mR mRf mRo mss msl msh mha mt) s.heap := hP
  have hl := lv_entry ([.ref (mA 0), .int (iI x)] : List Value) (n := 3) (Nat.le_of_ble_eq_true rfl)
  rw [lg_entry_eq]
  generalize (lg_sl ([.ref (mA 0), .int (iI x)] : List Value) ++ List.replicate (3 - (lg_sl ([.ref (mA 0), .int (iI x)] : List Value)).length) Slot.unset).toArray = ls at hl ⊢
  have hl : lv_has ls 3 [(0, .ref (mA 0)), (1, .int (iI x))] := hl
  have fl_40 := hts (.fieldLink RX7 40 "ActRowsModel" "performedOf" "[I") (by decide +kernel)
  have iw_7 : ∀ w ∈ wsX70, w ∈ wsX7_performs := by decide +kernel
  have fl_154 := hts (.fieldLink RX7 154 "ActRowsModel" "performed" "I") (by decide +kernel)
  have fl_148 := hts (.fieldLink RX7 148 "ActRowsModel" "open" "I") (by decide +kernel)
  have fl_157 := hts (.fieldLink RX7 157 "ActRowsModel" "pathLength" "I") (by decide +kernel)
  have fl_43 := hts (.fieldLink RX7 43 "ActRowsModel" "pathOf" "[I") (by decide +kernel)
  have fl_34 := hts (.fieldLink RX7 34 "ActRowsModel" "openOf" "[I") (by decide +kernel)
  refine lv_aload_n hx hb dX7_performs_0 rfl (lv_at hl 0 rfl) ?_
  refine va_get (D := D) (ci := 7) (v := .ref (mA 11)) (C := RX7) (T := TX7) (N := 34) hx hb hts iw_7 hown hK.1 hP 0 rfl rfl 17 (by decide) fl_40 (fun _ h9 => h9) rfl dX7_performs_1 ?_
  refine lv_aload_n hx hb dX7_performs_4 rfl (lv_at hl 0 rfl) ?_
  refine va_get (D := D) (ci := 7) (v := .int (iI mp)) (C := RX7) (T := TX7) (N := 34) hx hb hts iw_7 hown hK.1 hP 0 rfl rfl 16 (by decide) fl_154 (fun _ h9 => h9) rfl dX7_performs_5 ?_
  refine lv_iload_n hx hb dX7_performs_8 rfl (lv_at hl 1 rfl) ?_
  refine n_iast (n := 1024) hx hb hK.1 hP hD hS 11 0 rfl rfl (by omega) (by decide) dX7_performs_9 (fun H locs hP hD hS => ?_)
  have hP : va_P D vwCl (W_M cI cS mA mf mn ml mk mg mls ms mra mrf mrk mrg mrl mrs mo moo moa mp (updI mpp mp x) mfi mpl mpo mro mdp mdf mhg mhk mR mRf mRo mss msl msh mha mt) H := hP
  have hD : va_D A (W_M cI cS mA mf mn ml mk mg mls ms mra mrf mrk mrg mrl mrs mo moo moa mp (updI mpp mp x) mfi mpl mpo mro mdp mdf mhg mhk mR mRf mRo mss msl msh mha mt) := hD
  refine lv_aload_n hx hb dX7_performs_10 rfl (lv_at hl 0 rfl) ?_
  refine lv_dup hx hb dX7_performs_11 rfl ?_
  refine va_get (D := D) (ci := 7) (v := .int (iI mp)) (C := RX7) (T := TX7) (N := 34) hx hb hts iw_7 hown hK.1 hP 0 rfl rfl 16 (by decide) fl_154 (fun _ h9 => h9) rfl dX7_performs_12 ?_
  refine lv_iconst (v := iI 1) hx hb dX7_performs_15 (by decide +kernel) ?_
  refine n_iadd hx hb dX7_performs_16 ?_
  refine va_put (D := D) (ci := 7) (v := .int (iI (mp + 1))) (ty := .int) (C := RX7) (T := TX7) (N := 34) hx hb hts iw_7 tyX7 tyX7_ok nmX7 hown hK.1 hP hD hS 0 rfl rfl 16 (by decide) fl_154 (fun _ h9 => h9) rfl (by decide +kernel) rfl rfl (Nat.le_of_ble_eq_true rfl) dX7_performs_17 (fun H locs hP hD hS => ?_)
  have hP : va_P D vwCl (W_M cI cS mA mf mn ml mk mg mls ms mra mrf mrk mrg mrl mrs mo moo moa (mp + 1) (updI mpp mp x) mfi mpl mpo mro mdp mdf mhg mhk mR mRf mRo mss msl msh mha mt) H := hP
  have hD : va_D A (W_M cI cS mA mf mn ml mk mg mls ms mra mrf mrk mrg mrl mrs mo moo moa (mp + 1) (updI mpp mp x) mfi mpl mpo mro mdp mdf mhg mhk mR mRf mRo mss msl msh mha mt) := hD
  refine lv_aload_n hx hb dX7_performs_20 rfl (lv_at hl 0 rfl) ?_
  refine lv_aload_n hx hb dX7_performs_21 rfl (lv_at hl 0 rfl) ?_
  refine va_get (D := D) (ci := 7) (v := .int (iI mo)) (C := RX7) (T := TX7) (N := 34) hx hb hts iw_7 hown hK.1 hP 0 rfl rfl 13 (by decide) fl_148 (fun _ h9 => h9) rfl dX7_performs_22 ?_
  refine va_put (D := D) (ci := 7) (v := .int (iI mo)) (ty := .int) (C := RX7) (T := TX7) (N := 34) hx hb hts iw_7 tyX7 tyX7_ok nmX7 hown hK.1 hP hD hS 0 rfl rfl 19 (by decide) fl_157 (fun _ h9 => h9) rfl (by decide +kernel) rfl rfl (Nat.le_of_ble_eq_true rfl) dX7_performs_25 (fun H locs hP hD hS => ?_)
  have hP : va_P D vwCl (W_M cI cS mA mf mn ml mk mg mls ms mra mrf mrk mrg mrl mrs mo moo moa (mp + 1) (updI mpp mp x) mfi mo mpo mro mdp mdf mhg mhk mR mRf mRo mss msl msh mha mt) H := hP
  have hD : va_D A (W_M cI cS mA mf mn ml mk mg mls ms mra mrf mrk mrg mrl mrs mo moo moa (mp + 1) (updI mpp mp x) mfi mo mpo mro mdp mdf mhg mhk mR mRf mRo mss msl msh mha mt) := hD
  refine lv_iconst (v := iI 0) hx hb dX7_performs_28 (by decide +kernel) ?_
  refine lv_istore_n (lv' := [(2, .int (iI 0)), (0, .ref (mA 0)), (1, .int (iI x))]) hx hb dX7_performs_29 rfl hl (by decide) rfl (fun ls hl => ?_)
  refine x_loop (σ := Int × (Int → Int)) (fun (xv_ : Int × (Int → Int)) => match xv_ with | (x1, mpo1) => (0 ≤ x1 ∧ x1 ≤ mo) ∧ (∀ j : Int, 0 ≤ j → j < x1 → mpo1 j = moo j)) (fun (xv_ : Int × (Int → Int)) => match xv_ with | (x1, mpo1) => (mo - x1).toNat) (fun (xv_ : Int × (Int → Int)) => match xv_ with | (x1, mpo1) => (W_M cI cS mA mf mn ml mk mg mls ms mra mrf mrk mrg mrl mrs mo moo moa (mp + 1) (updI mpp mp x) mfi mo mpo1 mro mdp mdf mhg mhk mR mRf mRo mss msl msh mha mt)) (fun (xv_ : Int × (Int → Int)) => match xv_ with | (x1, mpo1) => [(2, .int (iI x1)), (0, .ref (mA 0)), (1, .int (iI x))]) (nL := 3) ?step_1 (0, mpo) (by (try dsimp only); exact ⟨by omega, fun j a b => absurd b (by omega)⟩) hP hD hS hl
  case step_1 =>
    intro xv_ hI ih H locs ls hP hD hS hl
    obtain ⟨x1, mpo1⟩ := xv_
    try dsimp only at hI ih
    obtain ⟨hx1, hp1⟩ := hI
    have hP : va_P D vwCl (W_M cI cS mA mf mn ml mk mg mls ms mra mrf mrk mrg mrl mrs mo moo moa (mp + 1) (updI mpp mp x) mfi mo mpo1 mro mdp mdf mhg mhk mR mRf mRo mss msl msh mha mt) H := hP
    have hD : va_D A (W_M cI cS mA mf mn ml mk mg mls ms mra mrf mrk mrg mrl mrs mo moo moa (mp + 1) (updI mpp mp x) mfi mo mpo1 mro mdp mdf mhg mhk mR mRf mRo mss msl msh mha mt) := hD
    have hl : lv_has ls 3 [(2, .int (iI x1)), (0, .ref (mA 0)), (1, .int (iI x))] := hl
    have ih_2 := ih
    refine lv_iload_n hx hb dX7_performs_30 rfl (lv_at hl 0 rfl) ?_
    refine lv_aload_n hx hb dX7_performs_31 rfl (lv_at hl 1 rfl) ?_
    refine va_get (D := D) (ci := 7) (v := .int (iI mo)) (C := RX7) (T := TX7) (N := 34) hx hb hts iw_7 hown hK.1 hP 0 rfl rfl 13 (by decide) fl_148 (fun _ h9 => h9) rfl dX7_performs_32 ?_
    refine n_icmp_ge (tgt := 56) hx hb dX7_performs_35 (by decide) (by omega) (fun c_3 => ?_) (fun c_3 => ?_)
    ·
      exact W.vret hx hb hr (fun t ht hW => ⟨⟨(mpo1), rfl, (by (try dsimp only); exact (fun j a b => hp1 j a (by omega))), by rw [ht]; exact hP, hD⟩, hS.F ht⟩) hS.2.2 dX7_performs_56
    ·
      refine lv_aload_n hx hb dX7_performs_38 rfl (lv_at hl 1 rfl) ?_
      refine va_get (D := D) (ci := 7) (v := .ref (mA 12)) (C := RX7) (T := TX7) (N := 34) hx hb hts iw_7 hown hK.1 hP 0 rfl rfl 20 (by decide) fl_43 (fun _ h9 => h9) rfl dX7_performs_39 ?_
      refine lv_iload_n hx hb dX7_performs_42 rfl (lv_at hl 0 rfl) ?_
      refine lv_aload_n hx hb dX7_performs_43 rfl (lv_at hl 1 rfl) ?_
      refine va_get (D := D) (ci := 7) (v := .ref (mA 9)) (C := RX7) (T := TX7) (N := 34) hx hb hts iw_7 hown hK.1 hP 0 rfl rfl 14 (by decide) fl_34 (fun _ h9 => h9) rfl dX7_performs_44 ?_
      refine lv_iload_n hx hb dX7_performs_47 rfl (lv_at hl 0 rfl) ?_
      refine n_iald (n := 5) hx hb hK.1 hP 9 0 rfl rfl (by omega) (by decide) dX7_performs_48 ?_
      refine n_iast (n := 5) hx hb hK.1 hP hD hS 12 0 rfl rfl (by omega) (by decide) dX7_performs_49 (fun H locs hP hD hS => ?_)
      have hP : va_P D vwCl (W_M cI cS mA mf mn ml mk mg mls ms mra mrf mrk mrg mrl mrs mo moo moa (mp + 1) (updI mpp mp x) mfi mo (updI mpo1 x1 (moo x1)) mro mdp mdf mhg mhk mR mRf mRo mss msl msh mha mt) H := hP
      have hD : va_D A (W_M cI cS mA mf mn ml mk mg mls ms mra mrf mrk mrg mrl mrs mo moo moa (mp + 1) (updI mpp mp x) mfi mo (updI mpo1 x1 (moo x1)) mro mdp mdf mhg mhk mR mRf mRo mss msl msh mha mt) := hD
      refine n_iinc (lv' := [(2, .int (iI (x1 + 1))), (0, .ref (mA 0)), (1, .int (iI x))]) hx hb dX7_performs_50 hl (k := 0) rfl (by decide) rfl (fun ls hl => ?_)
      refine lv_goto (tgt := 30) hx hb dX7_performs_53 (by decide) ?_
      exact ih_2 ((x1 + 1), (updI mpo1 x1 (moo x1))) (by (try dsimp only); exact ⟨by omega, fun j a b => by
              by_cases e : j = x1
              · rw [e, updI_s]
              · rw [updI_n e]; exact hp1 j a (by omega)⟩) (by (try dsimp only); exact (by omega)) _ _ _ hP hD hS (lv_sub hl [0, 1, 2] rfl)
set_option maxHeartbeats 4000000 in
set_option maxRecDepth 100000 in
theorem c_X7_comesOut (l : Launch) (D : va_G) (cI cS : ClassId) (mA : Nat → Nat) (mf : Int) (mn : Int) (ml : Int) (mk : Int → Int) (mg : Int → Int) (mls : Int → Int) (ms : Int → Int) (mra : Int) (mrf : Int) (mrk : Int → Int) (mrg : Int → Int) (mrl : Int → Int) (mrs : Int → Int) (mo : Int) (moo : Int → Int) (moa : Int → Int) (mp : Int) (mpp : Int → Int) (mfi : Int) (mpl : Int) (mpo : Int → Int) (mro : Int → Int) (mdp : Int) (mdf : Int) (mhg : Int → Int) (mhk : Int → Int) (mR : Int) (mRf : Int → Int) (mRo : Int → Int) (mss : Int → Int) (msl : Int → Int) (msh : Int → Int) (mha : Int → Int) (mt : Int) (sz : Nat) (x : Int) (hok : okP mn mls ms) (hkk : okK mn mk mg ml) (hst : stkOk mn mls moo moa mo) (hx_ : 0 ≤ x ∧ x < 4) : Met l yX7_comesOut wsX7_comesOut ({ frames := 1, cells := 0, slots := 0, locals := 20 }) (cP D cI cS (W_M cI cS mA mf mn ml mk mg mls ms mra mrf mrk mrg mrl mrs mo moo moa mp mpp mfi mpl mpo mro mdp mdf mhg mhk mR mRf mRo mss msl msh mha mt) sz [.ref (mA 0), .int (iI x)]) (va_Qi (fun (r : Int32) (u : Int × Int) => ∃ z : Int, r = iI z ∧ (0 ≤ u.1 ∧ u.1 ≤ mo ∧ (z = x ∨ z = -9)) ∧ ((z = x ∧ u.1 = 0 ∧ unw mk mg ml mls ms moo moa mo.toNat ((x, [], 0, []) : Rc) = addR [] (u.2 - mfi) ((x, [], 0, seg moo mo.toNat 0) : Rc)) ∨ (z = -9 ∧ ((1 ≤ u.1 ∧ unw mk mg ml mls ms moo moa mo.toNat ((x, [], 0, []) : Rc) = addR [] (u.2 - mfi) (unw mk mg ml mls ms moo moa (u.1 - 1).toNat (goF mk mg ml mls ms (moo (u.1 - 1)) (moa (u.1 - 1))))) ∨ (u.1 = 0 ∧ unw mk mg ml mls ms moo moa mo.toNat ((x, [], 0, []) : Rc) = addR [] (u.2 - mfi) (4, [], 0, [])))))) (fun (u : Int × Int) t => cB D (va_A (W_M cI cS mA mf mn ml mk mg mls ms mra mrf mrk mrg mrl mrs mo moo moa mp mpp mfi mpl mpo mro mdp mdf mhg mhk mR mRf mRo mss msl msh mha mt) sz) (W_M cI cS mA mf mn ml mk mg mls ms mra mrf mrk mrg mrl mrs u.1 moo moa mp mpp u.2 mpl mpo mro mdp mdf mhg mhk mR mRf mRo mss msl msh mha mt) t) (va_A (W_M cI cS mA mf mn ml mk mg mls ms mra mrf mrk mrg mrl mrs mo moo moa mp mpp mfi mpl mpo mro mdp mdf mhg mhk mR mRf mRo mss msl msh mha mt) sz)) 0 0 (va_A (W_M cI cS mA mf mn ml mk mg mls ms mra mrf mrk mrg mrl mrs mo moo moa mp mpp mfi mpl mpo mro mdp mdf mhg mhk mR mRf mRo mss msl msh mha mt) sz) := by
  refine Met.ofW (cc := cX7_comesOut) (maxL := 5) (ret := (some .int)) (by decide) rfl ?_
  intro p e s m args below meth c_ s₁ B hml hv
  obtain ⟨rfl, hsz, hP, hK, hD0⟩ := hv
  have hx := B.exec
  have hb := B.bytes
  have hr := B.returns
  have hts := atoms_spec (ws := wsX7_comesOut) B.pre
  have hown : s.vm.findClass RX7 = some m.cls := findClass_of_methodNamed B.named
  have hlocks := B.notSynchronized
  subst hsz
  have hD := hD0.self (sz := s.heap.size)
  generalize hAe : va_A (W_M cI cS mA mf mn ml mk mg mls ms mra mrf mrk mrg mrl mrs mo moo moa mp mpp mfi mpl mpo mro mdp mdf mhg mhk mR mRf mRo mss msl msh mha mt) s.heap.size = A at hD ⊢
  have hA : ∀ q : Nat, s.heap.size ≤ q → A q := fun q h => by rw [← hAe]; exact Or.inr h
  have hS : va_S A s.heap s.heap [] := va_S.rf
  have hP : va_P D vwCl (W_M cI cS mA mf mn ml mk mg mls ms mra mrf mrk mrg mrl mrs mo moo moa mp mpp mfi mpl mpo mro mdp mdf mhg mhk mR mRf mRo mss msl msh mha mt) s.heap := hP
  have hl := lv_entry ([.ref (mA 0), .int (iI x)] : List Value) (n := 5) (Nat.le_of_ble_eq_true rfl)
  rw [lg_entry_eq]
  generalize (lg_sl ([.ref (mA 0), .int (iI x)] : List Value) ++ List.replicate (5 - (lg_sl ([.ref (mA 0), .int (iI x)] : List Value)).length) Slot.unset).toArray = ls at hl ⊢
  have hl : lv_has ls 5 [(0, .ref (mA 0)), (1, .int (iI x))] := hl
  have fl_148 := hts (.fieldLink RX7 148 "ActRowsModel" "open" "I") (by decide +kernel)
  have iw_7 : ∀ w ∈ wsX70, w ∈ wsX7_comesOut := by decide +kernel
  have fl_34 := hts (.fieldLink RX7 34 "ActRowsModel" "openOf" "[I") (by decide +kernel)
  have fl_7 := hts (.fieldLink RX7 7 "ActRowsModel" "kindOf" "[I") (by decide +kernel)
  have fl_13 := hts (.fieldLink RX7 13 "ActRowsModel" "guardOf" "[I") (by decide +kernel)
  have hmn := hok.1
  have hln := hok.2.1
  have hsd := hst.1
  refine lv_iload_n hx hb dX7_comesOut_0 rfl (lv_at hl 1 rfl) ?_
  refine lv_istore_n (lv' := [(2, .int (iI x)), (0, .ref (mA 0)), (1, .int (iI x))]) hx hb dX7_comesOut_1 rfl hl (by decide) rfl (fun ls hl => ?_)
  refine x_loop (σ := Int × Int × Int) (fun (xv_ : Int × Int × Int) => match xv_ with | (ou, mo1, fi1) => (0 ≤ mo1 ∧ mo1 ≤ mo) ∧ ((ou = x ∧ unw mk mg ml mls ms moo moa mo.toNat ((x, [], 0, []) : Rc) = addR [] (fi1 - mfi) (unw mk mg ml mls ms moo moa mo1.toNat ((x, [], 0, seg moo (mo - mo1).toNat mo1) : Rc))) ∨ (ou = -9 ∧ ((1 ≤ mo1 ∧ unw mk mg ml mls ms moo moa mo.toNat ((x, [], 0, []) : Rc) = addR [] (fi1 - mfi) (unw mk mg ml mls ms moo moa (mo1 - 1).toNat (goF mk mg ml mls ms (moo (mo1 - 1)) (moa (mo1 - 1))))) ∨ (mo1 = 0 ∧ unw mk mg ml mls ms moo moa mo.toNat ((x, [], 0, []) : Rc) = addR [] (fi1 - mfi) (4, [], 0, [])))))) (fun (xv_ : Int × Int × Int) => match xv_ with | (ou, mo1, fi1) => (if ou < 0 then 0 else mo1 + 1).toNat) (fun (xv_ : Int × Int × Int) => match xv_ with | (ou, mo1, fi1) => (W_M cI cS mA mf mn ml mk mg mls ms mra mrf mrk mrg mrl mrs mo1 moo moa mp mpp fi1 mpl mpo mro mdp mdf mhg mhk mR mRf mRo mss msl msh mha mt)) (fun (xv_ : Int × Int × Int) => match xv_ with | (ou, mo1, fi1) => [(2, .int (iI ou)), (0, .ref (mA 0)), (1, .int (iI x))]) (nL := 5) ?step_1 (x, mo, mfi) (by (try dsimp only); exact ⟨by omega, Or.inl ⟨rfl, by rw [show mfi - mfi = 0 by omega, show mo - mo = 0 by omega]; exact (addR_0 _).symm⟩⟩) hP hD hS (lv_sub hl [0, 1, 2] rfl)
  case step_1 =>
    intro xv_ hI ih H locs ls hP hD hS hl
    obtain ⟨ou, mo1, fi1⟩ := xv_
    try dsimp only at hI ih
    obtain ⟨hm1, hU⟩ := hI
    have hP : va_P D vwCl (W_M cI cS mA mf mn ml mk mg mls ms mra mrf mrk mrg mrl mrs mo1 moo moa mp mpp fi1 mpl mpo mro mdp mdf mhg mhk mR mRf mRo mss msl msh mha mt) H := hP
    have hD : va_D A (W_M cI cS mA mf mn ml mk mg mls ms mra mrf mrk mrg mrl mrs mo1 moo moa mp mpp fi1 mpl mpo mro mdp mdf mhg mhk mR mRf mRo mss msl msh mha mt) := hD
    have hl : lv_has ls 5 [(2, .int (iI ou)), (0, .ref (mA 0)), (1, .int (iI x))] := hl
    have hour : ou = x ∨ ou = -9 := by rcases hU with q | q; exact Or.inl q.1; exact Or.inr q.1
    have ih_2 := ih
    refine lv_aload_n hx hb dX7_comesOut_2 rfl (lv_at hl 1 rfl) ?_
    refine va_get (D := D) (ci := 7) (v := .int (iI mo1)) (C := RX7) (T := TX7) (N := 34) hx hb hts iw_7 hown hK.1 hP 0 rfl rfl 13 (by decide) fl_148 (fun _ h9 => h9) rfl dX7_comesOut_3 ?_
    refine n_if_le (tgt := 85) hx hb dX7_comesOut_6 (by decide) (by omega) (fun c_3 => ?_) (fun c_3 => ?_)
    ·
      refine lv_iload_n hx hb dX7_comesOut_85 rfl (lv_at hl 0 rfl) ?_
      exact W.iret (v := iI ou) hx hb hr (fun t ht hW => ⟨⟨_, (mo1, fi1), rfl, ⟨ou, rfl, (by (try dsimp only); exact (by omega)), (by (try dsimp only); exact (by
          rcases hU with q | q
          · have e0 : mo1 = 0 := by omega
            subst e0
            refine Or.inl ⟨q.1, rfl, ?_⟩
            have q2 := q.2
            rw [Int.sub_zero] at q2
            exact q2
          · exact Or.inr q))⟩, by rw [ht]; exact hP, hD⟩, hS.F ht⟩) hS.2.2 dX7_comesOut_86
    ·
      refine lv_iload_n hx hb dX7_comesOut_9 rfl (lv_at hl 0 rfl) ?_
      refine n_if_lt (tgt := 85) hx hb dX7_comesOut_10 (by decide) (by omega) (fun c_4 => ?_) (fun c_4 => ?_)
      ·
        refine lv_iload_n hx hb dX7_comesOut_85 rfl (lv_at hl 0 rfl) ?_
        exact W.iret (v := iI ou) hx hb hr (fun t ht hW => ⟨⟨_, (mo1, fi1), rfl, ⟨ou, rfl, (by (try dsimp only); exact (by omega)), (by (try dsimp only); exact (by
          rcases hU with q | q
          · have e0 : mo1 = 0 := by omega
            subst e0
            refine Or.inl ⟨q.1, rfl, ?_⟩
            have q2 := q.2
            rw [Int.sub_zero] at q2
            exact q2
          · exact Or.inr q))⟩, by rw [ht]; exact hP, hD⟩, hS.F ht⟩) hS.2.2 dX7_comesOut_86
      ·
        have hU2 : unw mk mg ml mls ms moo moa mo.toNat ((x, [], 0, []) : Rc) = addR [] (fi1 - mfi) (unw mk mg ml mls ms moo moa mo1.toNat ((x, [], 0, seg moo (mo - mo1).toNat mo1) : Rc)) := by rcases hU with q | q; exact q.2; exact absurd q.1 (by omega)
        have hfr := hst.2 (mo1 - 1) (by omega) (by omega)
        have hkf := hkk.1 (moo (mo1 - 1)) hfr.1.1 hfr.1.2.1
        rw [unw_s (show 1 ≤ mo1 by omega)] at hU2
        refine lv_aload_n hx hb dX7_comesOut_13 rfl (lv_at hl 1 rfl) ?_
        refine va_get (D := D) (ci := 7) (v := .ref (mA 9)) (C := RX7) (T := TX7) (N := 34) hx hb hts iw_7 hown hK.1 hP 0 rfl rfl 14 (by decide) fl_34 (fun _ h9 => h9) rfl dX7_comesOut_14 ?_
        refine lv_aload_n hx hb dX7_comesOut_17 rfl (lv_at hl 1 rfl) ?_
        refine va_get (D := D) (ci := 7) (v := .int (iI mo1)) (C := RX7) (T := TX7) (N := 34) hx hb hts iw_7 hown hK.1 hP 0 rfl rfl 13 (by decide) fl_148 (fun _ h9 => h9) rfl dX7_comesOut_18 ?_
        refine lv_iconst (v := iI 1) hx hb dX7_comesOut_21 (by decide +kernel) ?_
        refine n_isub hx hb dX7_comesOut_22 ?_
        refine n_iald (n := 5) hx hb hK.1 hP 9 0 rfl rfl (by omega) (by decide) dX7_comesOut_23 ?_
        refine lv_istore_n (lv' := [(3, .int (iI (moo (mo1 - 1)))), (2, .int (iI ou)), (0, .ref (mA 0)), (1, .int (iI x))]) hx hb dX7_comesOut_24 rfl hl (by decide) rfl (fun ls hl => ?_)
        refine lv_aload_n hx hb dX7_comesOut_25 rfl (lv_at hl 2 rfl) ?_
        refine va_get (D := D) (ci := 7) (v := .ref (mA 1)) (C := RX7) (T := TX7) (N := 34) hx hb hts iw_7 hown hK.1 hP 0 rfl rfl 3 (by decide) fl_7 (fun _ h9 => h9) rfl dX7_comesOut_26 ?_
        refine lv_iload_n hx hb dX7_comesOut_29 rfl (lv_at hl 0 rfl) ?_
        refine n_iald (n := 5) hx hb hK.1 hP 1 0 rfl rfl (by omega) (by decide) dX7_comesOut_30 ?_
        refine n_if_le (tgt := 48) hx hb dX7_comesOut_31 (by decide) (by omega) (fun c_5 => ?_) (fun c_5 => ?_)
        ·
          have hng : ¬ (mk (moo (mo1 - 1)) ≠ 0 ∧ mg (moo (mo1 - 1)) = x) := by omega
          refine lv_iconst (v := iI 0) hx hb dX7_comesOut_48 (by decide +kernel) ?_
          refine lv_istore (lv' := [(4, .int (iI 0)), (3, .int (iI (moo (mo1 - 1)))), (2, .int (iI ou)), (0, .ref (mA 0)), (1, .int (iI x))]) hx hb dX7_comesOut_49 hl (by decide) rfl (fun ls hl => ?_)
          refine lv_iload hx hb dX7_comesOut_51 (lv_at hl 0 rfl) ?_
          refine n_if_eq (tgt := 61) hx hb dX7_comesOut_53 (by decide) (by omega) (fun c_6 => ?_) (fun c_6 => ?_)
          ·
            refine lv_iload_n hx hb dX7_comesOut_61 rfl (lv_at hl 2 rfl) ?_
            refine lv_istore_n (lv' := [(2, .int (iI ou)), (4, .int (iI 0)), (3, .int (iI (moo (mo1 - 1)))), (0, .ref (mA 0)), (1, .int (iI x))]) hx hb dX7_comesOut_62 rfl hl (by decide) rfl (fun ls hl => ?_)
            refine lv_iload hx hb dX7_comesOut_63 (lv_at hl 1 rfl) ?_
            refine n_if_eq (tgt := 78) hx hb dX7_comesOut_65 (by decide) (by omega) (fun c_7 => ?_) (fun c_7 => ?_)
            ·
              refine lv_aload_n hx hb dX7_comesOut_78 rfl (lv_at hl 3 rfl) ?_
              refine x_callVv (As := []) (rest := []) ⟨hx, hb, hml, hown, hts⟩ (c_X7_ends l D cI cS mA mf mn ml mk mg mls ms mra mrf mrk mrg mrl mrs mo1 moo moa mp mpp fi1 mpl mpo mro mdp mdf mhg mhk mR mRf mRo mss msl msh mha mt H.size) (cwV 0 hts gX7_comesOut_X7_ends rfl rfl rfl (by decide +kernel) ⟨Nat.le_of_ble_eq_true rfl, Nat.le_of_ble_eq_true rfl⟩) hK hP hD hS hA [0, 1, 2, 3, 4, 5, 6, 7, 8, 9, 10, 11, 12, 13, 14, 15, 16, 17, 18, 19, 20, 21] [] (wr := ([] : va_W)) rfl rfl (by decide) (by decide) (by decide) 0 7 rfl rfl rfl [0, 1, 2, 3, 4, 5, 6, 7, 8, 9, 10, 11, 12, 13, 14, 15, 16, 17, 18, 19, 20, 21] (fun (u : Unit) => (W_M cI cS mA mf mn ml mk mg mls ms mra mrf mrk mrg mrl mrs (mo1 - 1) moo moa mp mpp (fi1 + 1) mpl mpo mro mdp mdf mhg mhk mR mRf mRo mss msl msh mha mt)) (fun _ => rfl) (by decide) rfl hl.1 rfl (Nat.le_of_ble_eq_true rfl) ⟨Nat.zero_le _, Nat.zero_le _⟩ dX7_comesOut_79 (fun u_ H locs hw hP hD hS => ?_)
              try dsimp only at hw
              have hP : va_P D vwCl (W_M cI cS mA mf mn ml mk mg mls ms mra mrf mrk mrg mrl mrs (mo1 - 1) moo moa mp mpp (fi1 + 1) mpl mpo mro mdp mdf mhg mhk mR mRf mRo mss msl msh mha mt) H := hP
              have hD : va_D A (W_M cI cS mA mf mn ml mk mg mls ms mra mrf mrk mrg mrl mrs (mo1 - 1) moo moa mp mpp (fi1 + 1) mpl mpo mro mdp mdf mhg mhk mR mRf mRo mss msl msh mha mt) := hD
              refine lv_goto (tgt := 2) hx hb dX7_comesOut_82 (by decide) ?_
              exact ih_2 (ou, (mo1 - 1), (fi1 + 1)) (by (try dsimp only); exact (by
              first
              | exact ⟨by omega, Or.inl ⟨by omega, by rw [hU2, frA_out (by omega) hng, unw_add, addR_add, ← seg_s moo (by omega), show fi1 - mfi + 1 = fi1 + 1 - mfi by omega, List.nil_append]⟩⟩
              | exact ⟨by omega, Or.inr ⟨rfl, by
                  rw [frA_leave (by omega) hgd (by omega)] at hU2
                  by_cases q : mo1 - 1 = 0
                  · refine Or.inr ⟨q, ?_⟩
                    rw [hU2, q]
                    show addR [] (fi1 - mfi) (4, [], 1, []) = _
                    unfold addR
                    dsimp only
                    rw [show fi1 - mfi + 1 = fi1 + 1 - mfi + 0 by omega]
                  · refine Or.inl ⟨by omega, ?_⟩
                    rw [hU2, unw_no (by omega), addR_add, show fi1 - mfi + 1 = fi1 + 1 - mfi by omega, List.nil_append]⟩⟩
              | exact ⟨by omega, Or.inr ⟨rfl, Or.inl ⟨by omega, by rw [hU2, frA_keep hgd (by omega)]⟩⟩⟩)) (by (try dsimp only); exact (by omega)) _ _ _ hP hD hS (lv_sub hl [0, 3, 4] rfl)
            · exact False.elim (by first | contradiction | omega)
          · exact False.elim (by first | contradiction | omega)
        ·
          refine lv_aload_n hx hb dX7_comesOut_34 rfl (lv_at hl 2 rfl) ?_
          refine va_get (D := D) (ci := 7) (v := .ref (mA 2)) (C := RX7) (T := TX7) (N := 34) hx hb hts iw_7 hown hK.1 hP 0 rfl rfl 4 (by decide) fl_13 (fun _ h9 => h9) rfl dX7_comesOut_35 ?_
          refine lv_iload_n hx hb dX7_comesOut_38 rfl (lv_at hl 0 rfl) ?_
          refine n_iald (n := 5) hx hb hK.1 hP 2 0 rfl rfl (by omega) (by decide) dX7_comesOut_39 ?_
          refine lv_iload_n hx hb dX7_comesOut_40 rfl (lv_at hl 1 rfl) ?_
          refine n_icmp_ne (tgt := 48) hx hb dX7_comesOut_41 (by decide) (by omega) (fun c_8 => ?_) (fun c_8 => ?_)
          ·
            have hng : ¬ (mk (moo (mo1 - 1)) ≠ 0 ∧ mg (moo (mo1 - 1)) = x) := by omega
            refine lv_iconst (v := iI 0) hx hb dX7_comesOut_48 (by decide +kernel) ?_
            refine lv_istore (lv' := [(4, .int (iI 0)), (3, .int (iI (moo (mo1 - 1)))), (2, .int (iI ou)), (0, .ref (mA 0)), (1, .int (iI x))]) hx hb dX7_comesOut_49 hl (by decide) rfl (fun ls hl => ?_)
            refine lv_iload hx hb dX7_comesOut_51 (lv_at hl 0 rfl) ?_
            refine n_if_eq (tgt := 61) hx hb dX7_comesOut_53 (by decide) (by omega) (fun c_9 => ?_) (fun c_9 => ?_)
            ·
              refine lv_iload_n hx hb dX7_comesOut_61 rfl (lv_at hl 2 rfl) ?_
              refine lv_istore_n (lv' := [(2, .int (iI ou)), (4, .int (iI 0)), (3, .int (iI (moo (mo1 - 1)))), (0, .ref (mA 0)), (1, .int (iI x))]) hx hb dX7_comesOut_62 rfl hl (by decide) rfl (fun ls hl => ?_)
              refine lv_iload hx hb dX7_comesOut_63 (lv_at hl 1 rfl) ?_
              refine n_if_eq (tgt := 78) hx hb dX7_comesOut_65 (by decide) (by omega) (fun c_10 => ?_) (fun c_10 => ?_)
              ·
                refine lv_aload_n hx hb dX7_comesOut_78 rfl (lv_at hl 3 rfl) ?_
                refine x_callVv (As := []) (rest := []) ⟨hx, hb, hml, hown, hts⟩ (c_X7_ends l D cI cS mA mf mn ml mk mg mls ms mra mrf mrk mrg mrl mrs mo1 moo moa mp mpp fi1 mpl mpo mro mdp mdf mhg mhk mR mRf mRo mss msl msh mha mt H.size) (cwV 0 hts gX7_comesOut_X7_ends rfl rfl rfl (by decide +kernel) ⟨Nat.le_of_ble_eq_true rfl, Nat.le_of_ble_eq_true rfl⟩) hK hP hD hS hA [0, 1, 2, 3, 4, 5, 6, 7, 8, 9, 10, 11, 12, 13, 14, 15, 16, 17, 18, 19, 20, 21] [] (wr := ([] : va_W)) rfl rfl (by decide) (by decide) (by decide) 0 7 rfl rfl rfl [0, 1, 2, 3, 4, 5, 6, 7, 8, 9, 10, 11, 12, 13, 14, 15, 16, 17, 18, 19, 20, 21] (fun (u : Unit) => (W_M cI cS mA mf mn ml mk mg mls ms mra mrf mrk mrg mrl mrs (mo1 - 1) moo moa mp mpp (fi1 + 1) mpl mpo mro mdp mdf mhg mhk mR mRf mRo mss msl msh mha mt)) (fun _ => rfl) (by decide) rfl hl.1 rfl (Nat.le_of_ble_eq_true rfl) ⟨Nat.zero_le _, Nat.zero_le _⟩ dX7_comesOut_79 (fun u_ H locs hw hP hD hS => ?_)
                try dsimp only at hw
                have hP : va_P D vwCl (W_M cI cS mA mf mn ml mk mg mls ms mra mrf mrk mrg mrl mrs (mo1 - 1) moo moa mp mpp (fi1 + 1) mpl mpo mro mdp mdf mhg mhk mR mRf mRo mss msl msh mha mt) H := hP
                have hD : va_D A (W_M cI cS mA mf mn ml mk mg mls ms mra mrf mrk mrg mrl mrs (mo1 - 1) moo moa mp mpp (fi1 + 1) mpl mpo mro mdp mdf mhg mhk mR mRf mRo mss msl msh mha mt) := hD
                refine lv_goto (tgt := 2) hx hb dX7_comesOut_82 (by decide) ?_
                exact ih_2 (ou, (mo1 - 1), (fi1 + 1)) (by (try dsimp only); exact (by
              first
              | exact ⟨by omega, Or.inl ⟨by omega, by rw [hU2, frA_out (by omega) hng, unw_add, addR_add, ← seg_s moo (by omega), show fi1 - mfi + 1 = fi1 + 1 - mfi by omega, List.nil_append]⟩⟩
              | exact ⟨by omega, Or.inr ⟨rfl, by
                  rw [frA_leave (by omega) hgd (by omega)] at hU2
                  by_cases q : mo1 - 1 = 0
                  · refine Or.inr ⟨q, ?_⟩
                    rw [hU2, q]
                    show addR [] (fi1 - mfi) (4, [], 1, []) = _
                    unfold addR
                    dsimp only
                    rw [show fi1 - mfi + 1 = fi1 + 1 - mfi + 0 by omega]
                  · refine Or.inl ⟨by omega, ?_⟩
                    rw [hU2, unw_no (by omega), addR_add, show fi1 - mfi + 1 = fi1 + 1 - mfi by omega, List.nil_append]⟩⟩
              | exact ⟨by omega, Or.inr ⟨rfl, Or.inl ⟨by omega, by rw [hU2, frA_keep hgd (by omega)]⟩⟩⟩)) (by (try dsimp only); exact (by omega)) _ _ _ hP hD hS (lv_sub hl [0, 3, 4] rfl)
              · exact False.elim (by first | contradiction | omega)
            · exact False.elim (by first | contradiction | omega)
          ·
            have hgd : mk (moo (mo1 - 1)) ≠ 0 ∧ mg (moo (mo1 - 1)) = x := by omega
            refine lv_iconst (v := iI 1) hx hb dX7_comesOut_44 (by decide +kernel) ?_
            refine lv_goto (tgt := 49) hx hb dX7_comesOut_45 (by decide) ?_
            refine lv_istore (lv' := [(4, .int (iI 1)), (3, .int (iI (moo (mo1 - 1)))), (2, .int (iI ou)), (0, .ref (mA 0)), (1, .int (iI x))]) hx hb dX7_comesOut_49 hl (by decide) rfl (fun ls hl => ?_)
            refine lv_iload hx hb dX7_comesOut_51 (lv_at hl 0 rfl) ?_
            refine n_if_eq (tgt := 61) hx hb dX7_comesOut_53 (by decide) (by omega) (fun c_11 => ?_) (fun c_11 => ?_)
            · exact False.elim (by first | contradiction | omega)
            ·
              refine lv_bipush (v := iI (-9)) hx hb dX7_comesOut_56 (by decide +kernel) ?_
              refine lv_goto (tgt := 62) hx hb dX7_comesOut_58 (by decide) ?_
              refine lv_istore_n (lv' := [(2, .int (iI (-9))), (4, .int (iI 1)), (3, .int (iI (moo (mo1 - 1)))), (0, .ref (mA 0)), (1, .int (iI x))]) hx hb dX7_comesOut_62 rfl hl (by decide) rfl (fun ls hl => ?_)
              refine lv_iload hx hb dX7_comesOut_63 (lv_at hl 1 rfl) ?_
              refine n_if_eq (tgt := 78) hx hb dX7_comesOut_65 (by decide) (by omega) (fun c_12 => ?_) (fun c_12 => ?_)
              · exact False.elim (by first | contradiction | omega)
              ·
                refine lv_aload_n hx hb dX7_comesOut_68 rfl (lv_at hl 3 rfl) ?_
                refine va_get (D := D) (ci := 7) (v := .ref (mA 1)) (C := RX7) (T := TX7) (N := 34) hx hb hts iw_7 hown hK.1 hP 0 rfl rfl 3 (by decide) fl_7 (fun _ h9 => h9) rfl dX7_comesOut_69 ?_
                refine lv_iload_n hx hb dX7_comesOut_72 rfl (lv_at hl 2 rfl) ?_
                refine n_iald (n := 5) hx hb hK.1 hP 1 0 rfl rfl (by omega) (by decide) dX7_comesOut_73 ?_
                refine lv_iconst (v := iI 1) hx hb dX7_comesOut_74 (by decide +kernel) ?_
                refine n_icmp_ne (tgt := 82) hx hb dX7_comesOut_75 (by decide) (by omega) (fun c_13 => ?_) (fun c_13 => ?_)
                ·
                  refine lv_goto (tgt := 2) hx hb dX7_comesOut_82 (by decide) ?_
                  exact ih_2 ((-9), mo1, fi1) (by (try dsimp only); exact (by
              first
              | exact ⟨by omega, Or.inl ⟨by omega, by rw [hU2, frA_out (by omega) hng, unw_add, addR_add, ← seg_s moo (by omega), show fi1 - mfi + 1 = fi1 + 1 - mfi by omega, List.nil_append]⟩⟩
              | exact ⟨by omega, Or.inr ⟨rfl, by
                  rw [frA_leave (by omega) hgd (by omega)] at hU2
                  by_cases q : mo1 - 1 = 0
                  · refine Or.inr ⟨q, ?_⟩
                    rw [hU2, q]
                    show addR [] (fi1 - mfi) (4, [], 1, []) = _
                    unfold addR
                    dsimp only
                    rw [show fi1 - mfi + 1 = fi1 + 1 - mfi + 0 by omega]
                  · refine Or.inl ⟨by omega, ?_⟩
                    rw [hU2, unw_no (by omega), addR_add, show fi1 - mfi + 1 = fi1 + 1 - mfi by omega, List.nil_append]⟩⟩
              | exact ⟨by omega, Or.inr ⟨rfl, Or.inl ⟨by omega, by rw [hU2, frA_keep hgd (by omega)]⟩⟩⟩)) (by (try dsimp only); exact (by omega)) _ _ _ hP hD hS (lv_sub hl [0, 3, 4] rfl)
                ·
                  refine lv_aload_n hx hb dX7_comesOut_78 rfl (lv_at hl 3 rfl) ?_
                  refine x_callVv (As := []) (rest := []) ⟨hx, hb, hml, hown, hts⟩ (c_X7_ends l D cI cS mA mf mn ml mk mg mls ms mra mrf mrk mrg mrl mrs mo1 moo moa mp mpp fi1 mpl mpo mro mdp mdf mhg mhk mR mRf mRo mss msl msh mha mt H.size) (cwV 0 hts gX7_comesOut_X7_ends rfl rfl rfl (by decide +kernel) ⟨Nat.le_of_ble_eq_true rfl, Nat.le_of_ble_eq_true rfl⟩) hK hP hD hS hA [0, 1, 2, 3, 4, 5, 6, 7, 8, 9, 10, 11, 12, 13, 14, 15, 16, 17, 18, 19, 20, 21] [] (wr := ([] : va_W)) rfl rfl (by decide) (by decide) (by decide) 0 7 rfl rfl rfl [0, 1, 2, 3, 4, 5, 6, 7, 8, 9, 10, 11, 12, 13, 14, 15, 16, 17, 18, 19, 20, 21] (fun (u : Unit) => (W_M cI cS mA mf mn ml mk mg mls ms mra mrf mrk mrg mrl mrs (mo1 - 1) moo moa mp mpp (fi1 + 1) mpl mpo mro mdp mdf mhg mhk mR mRf mRo mss msl msh mha mt)) (fun _ => rfl) (by decide) rfl hl.1 rfl (Nat.le_of_ble_eq_true rfl) ⟨Nat.zero_le _, Nat.zero_le _⟩ dX7_comesOut_79 (fun u_ H locs hw hP hD hS => ?_)
                  try dsimp only at hw
                  have hP : va_P D vwCl (W_M cI cS mA mf mn ml mk mg mls ms mra mrf mrk mrg mrl mrs (mo1 - 1) moo moa mp mpp (fi1 + 1) mpl mpo mro mdp mdf mhg mhk mR mRf mRo mss msl msh mha mt) H := hP
                  have hD : va_D A (W_M cI cS mA mf mn ml mk mg mls ms mra mrf mrk mrg mrl mrs (mo1 - 1) moo moa mp mpp (fi1 + 1) mpl mpo mro mdp mdf mhg mhk mR mRf mRo mss msl msh mha mt) := hD
                  refine lv_goto (tgt := 2) hx hb dX7_comesOut_82 (by decide) ?_
                  exact ih_2 ((-9), (mo1 - 1), (fi1 + 1)) (by (try dsimp only); exact (by
              first
              | exact ⟨by omega, Or.inl ⟨by omega, by rw [hU2, frA_out (by omega) hng, unw_add, addR_add, ← seg_s moo (by omega), show fi1 - mfi + 1 = fi1 + 1 - mfi by omega, List.nil_append]⟩⟩
              | exact ⟨by omega, Or.inr ⟨rfl, by
                  rw [frA_leave (by omega) hgd (by omega)] at hU2
                  by_cases q : mo1 - 1 = 0
                  · refine Or.inr ⟨q, ?_⟩
                    rw [hU2, q]
                    show addR [] (fi1 - mfi) (4, [], 1, []) = _
                    unfold addR
                    dsimp only
                    rw [show fi1 - mfi + 1 = fi1 + 1 - mfi + 0 by omega]
                  · refine Or.inl ⟨by omega, ?_⟩
                    rw [hU2, unw_no (by omega), addR_add, show fi1 - mfi + 1 = fi1 + 1 - mfi by omega, List.nil_append]⟩⟩
              | exact ⟨by omega, Or.inr ⟨rfl, Or.inl ⟨by omega, by rw [hU2, frA_keep hgd (by omega)]⟩⟩⟩)) (by (try dsimp only); exact (by omega)) _ _ _ hP hD hS (lv_sub hl [0, 3, 4] rfl)
theorem stk_up {cnt : Int} {ln oo oa : Int → Int} {d : Int} (h : stkOk cnt ln oo oa d) (h1 : 1 ≤ d) (hx : oa (d - 1) < ln (oo (d - 1))) : stkOk cnt ln oo (updI oa (d - 1) (oa (d - 1) + 1)) d := ⟨h.1, fun j a b => by
  have hj := h.2 j a b
  refine ⟨hj.1, ?_⟩
  by_cases e : j = d - 1
  · rw [e, updI_s]; rw [e] at hj; omega
  · rw [updI_n e]; exact hj.2⟩
theorem stk_push {cnt : Int} {ln oo oa : Int → Int} {d g : Int} (h : stkOk cnt ln oo oa d) (h1 : 1 ≤ d) (hg : 0 ≤ g ∧ g < oo (d - 1)) (hl : 0 ≤ ln g) : stkOk cnt ln (updI oo d g) (updI oa d 0) (d + 1) := by
  have ht := h.2 (d - 1) (by omega) (by omega)
  have hd := h.1
  refine ⟨by omega, fun j a b => ?_⟩
  by_cases e : j = d
  · rw [e, updI_s, updI_s]; omega
  · rw [updI_n e, updI_n e]; exact h.2 j a (by omega)
theorem stk_down {cnt : Int} {ln oo oa : Int → Int} {d d' : Int} (h : stkOk cnt ln oo oa d) (h1 : 0 ≤ d' ∧ d' ≤ d) : stkOk cnt ln oo oa d' := ⟨by have := h.1; omega, fun j a b => h.2 j a (by omega)⟩
set_option maxHeartbeats 4000000 in
set_option maxRecDepth 100000 in
theorem c_X7_goesOn (l : Launch) (D : va_G) (cI cS : ClassId) (mA : Nat → Nat) (mf : Int) (mn : Int) (ml : Int) (mk : Int → Int) (mg : Int → Int) (mls : Int → Int) (ms : Int → Int) (mra : Int) (mrf : Int) (mrk : Int → Int) (mrg : Int → Int) (mrl : Int → Int) (mrs : Int → Int) (mo : Int) (moo : Int → Int) (moa : Int → Int) (mp : Int) (mpp : Int → Int) (mfi : Int) (mpl : Int) (mpo : Int → Int) (mro : Int → Int) (mdp : Int) (mdf : Int) (mhg : Int → Int) (mhk : Int → Int) (mR : Int) (mRf : Int → Int) (mRo : Int → Int) (mss : Int → Int) (msl : Int → Int) (msh : Int → Int) (mha : Int → Int) (mt : Int) (sz : Nat) (hok : okP mn mls ms) (hkk : okK mn mk mg ml) (hst : stkOk mn mls moo moa mo) (hmo : 1 ≤ mo) (hmp : 0 ≤ mp ∧ mp + ((unw mk mg ml mls ms moo moa (mo - 1).toNat (goF mk mg ml mls ms (moo (mo - 1)) (moa (mo - 1)))).2.1.length : Int) ≤ 1024) : Met l yX7_goesOn wsX7_goesOn ({ frames := 2, cells := 0, slots := 0, locals := 44 }) (cP D cI cS (W_M cI cS mA mf mn ml mk mg mls ms mra mrf mrk mrg mrl mrs mo moo moa mp mpp mfi mpl mpo mro mdp mdf mhg mhk mR mRf mRo mss msl msh mha mt) sz [.ref (mA 0)]) (va_Qi (fun (r : Int32) (u : Int × (Int → Int) × (Int → Int) × Int × (Int → Int) × Int × Int × (Int → Int)) => ∃ z : Int, r = iI z ∧ (-9 ≤ z ∧ z ≤ 3) ∧ (∃ w : List Int, (∀ P : List Int, pfOk mpp mp P → pfOk u.2.2.2.2.1 u.2.2.2.1 (P ++ w)) ∧ ((1 ≤ u.1 ∧ stkOk mn mls u.2.1 u.2.2.1 u.1 ∧ unw mk mg ml mls ms moo moa (mo - 1).toNat (goF mk mg ml mls ms (moo (mo - 1)) (moa (mo - 1))) = addR w (u.2.2.2.2.2.1 - mfi) (unw mk mg ml mls ms u.2.1 u.2.2.1 (u.1 - 1).toNat (goF mk mg ml mls ms (u.2.1 (u.1 - 1)) (u.2.2.1 (u.1 - 1)))) ∧ muS mls u.2.1 u.2.2.1 u.1.toNat < muS mls moo moa mo.toNat) ∨ (u.1 = 0 ∧ ((z = -9 ∧ unw mk mg ml mls ms moo moa (mo - 1).toNat (goF mk mg ml mls ms (moo (mo - 1)) (moa (mo - 1))) = addR w (u.2.2.2.2.2.1 - mfi) (4, [], 0, [])) ∨ (0 ≤ z ∧ ∃ q : List Int, unw mk mg ml mls ms moo moa (mo - 1).toNat (goF mk mg ml mls ms (moo (mo - 1)) (moa (mo - 1))) = addR w (u.2.2.2.2.2.1 - mfi) ((z, [], 0, q) : Rc) ∧ u.2.2.2.2.2.2.1 = (q.length : Int) ∧ ∀ j : Int, 0 ≤ j → j < u.2.2.2.2.2.2.1 → u.2.2.2.2.2.2.2 j = q.getD j.toNat (-9))))))) (fun (u : Int × (Int → Int) × (Int → Int) × Int × (Int → Int) × Int × Int × (Int → Int)) t => cB D (va_A (W_M cI cS mA mf mn ml mk mg mls ms mra mrf mrk mrg mrl mrs mo moo moa mp mpp mfi mpl mpo mro mdp mdf mhg mhk mR mRf mRo mss msl msh mha mt) sz) (W_M cI cS mA mf mn ml mk mg mls ms mra mrf mrk mrg mrl mrs u.1 u.2.1 u.2.2.1 u.2.2.2.1 u.2.2.2.2.1 u.2.2.2.2.2.1 u.2.2.2.2.2.2.1 u.2.2.2.2.2.2.2 mro mdp mdf mhg mhk mR mRf mRo mss msl msh mha mt) t) (va_A (W_M cI cS mA mf mn ml mk mg mls ms mra mrf mrk mrg mrl mrs mo moo moa mp mpp mfi mpl mpo mro mdp mdf mhg mhk mR mRf mRo mss msl msh mha mt) sz)) 0 0 (va_A (W_M cI cS mA mf mn ml mk mg mls ms mra mrf mrk mrg mrl mrs mo moo moa mp mpp mfi mpl mpo mro mdp mdf mhg mhk mR mRf mRo mss msl msh mha mt) sz) := by
  refine Met.ofW (cc := cX7_goesOn) (maxL := 4) (ret := (some .int)) (by decide) rfl ?_
  intro p e s m args below meth c_ s₁ B hml hv
  obtain ⟨rfl, hsz, hP, hK, hD0⟩ := hv
  have hx := B.exec
  have hb := B.bytes
  have hr := B.returns
  have hts := atoms_spec (ws := wsX7_goesOn) B.pre
  have hown : s.vm.findClass RX7 = some m.cls := findClass_of_methodNamed B.named
  have hlocks := B.notSynchronized
  subst hsz
  have hD := hD0.self (sz := s.heap.size)
  generalize hAe : va_A (W_M cI cS mA mf mn ml mk mg mls ms mra mrf mrk mrg mrl mrs mo moo moa mp mpp mfi mpl mpo mro mdp mdf mhg mhk mR mRf mRo mss msl msh mha mt) s.heap.size = A at hD ⊢
  have hA : ∀ q : Nat, s.heap.size ≤ q → A q := fun q h => by rw [← hAe]; exact Or.inr h
  have hS : va_S A s.heap s.heap [] := va_S.rf
  have hP : va_P D vwCl (W_M cI cS mA mf mn ml mk mg mls ms mra mrf mrk mrg mrl mrs mo moo moa mp mpp mfi mpl mpo mro mdp mdf mhg mhk mR mRf mRo mss msl msh mha mt) s.heap := hP
  have hl := lv_entry ([.ref (mA 0)] : List Value) (n := 4) (Nat.le_of_ble_eq_true rfl)
  rw [lg_entry_eq]
  generalize (lg_sl ([.ref (mA 0)] : List Value) ++ List.replicate (4 - (lg_sl ([.ref (mA 0)] : List Value)).length) Slot.unset).toArray = ls at hl ⊢
  have hl : lv_has ls 4 [(0, .ref (mA 0))] := hl
  have fl_34 := hts (.fieldLink RX7 34 "ActRowsModel" "openOf" "[I") (by decide +kernel)
  have iw_7 : ∀ w ∈ wsX70, w ∈ wsX7_goesOn := by decide +kernel
  have fl_148 := hts (.fieldLink RX7 148 "ActRowsModel" "open" "I") (by decide +kernel)
  have fl_37 := hts (.fieldLink RX7 37 "ActRowsModel" "openAt" "[I") (by decide +kernel)
  have fl_16 := hts (.fieldLink RX7 16 "ActRowsModel" "stepsOf" "[I") (by decide +kernel)
  have fl_19 := hts (.fieldLink RX7 19 "ActRowsModel" "stepOf" "[I") (by decide +kernel)
  have fl_142 := hts (.fieldLink RX7 142 "ActRowsModel" "liveNow" "I") (by decide +kernel)
  have hmn := hok.1
  have hln := hok.2.1
  have hL := hkk.2
  have hsd := hst.1
  have htop := hst.2 (mo - 1) (by omega) (by omega)
  have hltp := hln (moo (mo - 1)) htop.1.1 htop.1.2.1
  refine lv_aload_n hx hb dX7_goesOn_0 rfl (lv_at hl 0 rfl) ?_
  refine va_get (D := D) (ci := 7) (v := .ref (mA 9)) (C := RX7) (T := TX7) (N := 34) hx hb hts iw_7 hown hK.1 hP 0 rfl rfl 14 (by decide) fl_34 (fun _ h9 => h9) rfl dX7_goesOn_1 ?_
  refine lv_aload_n hx hb dX7_goesOn_4 rfl (lv_at hl 0 rfl) ?_
  refine va_get (D := D) (ci := 7) (v := .int (iI mo)) (C := RX7) (T := TX7) (N := 34) hx hb hts iw_7 hown hK.1 hP 0 rfl rfl 13 (by decide) fl_148 (fun _ h9 => h9) rfl dX7_goesOn_5 ?_
  refine lv_iconst (v := iI 1) hx hb dX7_goesOn_8 (by decide +kernel) ?_
  refine n_isub hx hb dX7_goesOn_9 ?_
  refine n_iald (n := 5) hx hb hK.1 hP 9 0 rfl rfl (by omega) (by decide) dX7_goesOn_10 ?_
  refine lv_istore_n (lv' := [(1, .int (iI (moo (mo - 1)))), (0, .ref (mA 0))]) hx hb dX7_goesOn_11 rfl hl (by decide) rfl (fun ls hl => ?_)
  refine lv_aload_n hx hb dX7_goesOn_12 rfl (lv_at hl 1 rfl) ?_
  refine va_get (D := D) (ci := 7) (v := .ref (mA 10)) (C := RX7) (T := TX7) (N := 34) hx hb hts iw_7 hown hK.1 hP 0 rfl rfl 15 (by decide) fl_37 (fun _ h9 => h9) rfl dX7_goesOn_13 ?_
  refine lv_aload_n hx hb dX7_goesOn_16 rfl (lv_at hl 1 rfl) ?_
  refine va_get (D := D) (ci := 7) (v := .int (iI mo)) (C := RX7) (T := TX7) (N := 34) hx hb hts iw_7 hown hK.1 hP 0 rfl rfl 13 (by decide) fl_148 (fun _ h9 => h9) rfl dX7_goesOn_17 ?_
  refine lv_iconst (v := iI 1) hx hb dX7_goesOn_20 (by decide +kernel) ?_
  refine n_isub hx hb dX7_goesOn_21 ?_
  refine n_iald (n := 5) hx hb hK.1 hP 10 0 rfl rfl (by omega) (by decide) dX7_goesOn_22 ?_
  refine lv_istore_n (lv' := [(2, .int (iI (moa (mo - 1)))), (1, .int (iI (moo (mo - 1)))), (0, .ref (mA 0))]) hx hb dX7_goesOn_23 rfl hl (by decide) rfl (fun ls hl => ?_)
  refine lv_iload_n hx hb dX7_goesOn_24 rfl (lv_at hl 0 rfl) ?_
  refine lv_aload_n hx hb dX7_goesOn_25 rfl (lv_at hl 2 rfl) ?_
  refine va_get (D := D) (ci := 7) (v := .ref (mA 3)) (C := RX7) (T := TX7) (N := 34) hx hb hts iw_7 hown hK.1 hP 0 rfl rfl 5 (by decide) fl_16 (fun _ h9 => h9) rfl dX7_goesOn_26 ?_
  refine lv_iload_n hx hb dX7_goesOn_29 rfl (lv_at hl 1 rfl) ?_
  refine n_iald (n := 5) hx hb hK.1 hP 3 0 rfl rfl (by omega) (by decide) dX7_goesOn_30 ?_
  refine n_icmp_ne (tgt := 41) hx hb dX7_goesOn_31 (by decide) (by omega) (fun c_1 => ?_) (fun c_1 => ?_)
  ·
    have hx1 : moa (mo - 1) < mls (moo (mo - 1)) := by omega
    obtain ⟨v, hv0⟩ : ∃ z_ : Int, z_ = ms (moo (mo - 1) * 4 + moa (mo - 1)) := ⟨_, rfl⟩
    have hvr := hok.2.2 (moo (mo - 1)) htop.1.1 htop.1.2.1 (moa (mo - 1)) htop.2.1 hx1
    rw [← hv0] at hvr
    have hst2 := stk_up hst hmo hx1
    have hmu := muS_up (ln := mls) (oo := moo) (oa := moa) hmo hx1
    have hpw := pw6_pos (moo (mo - 1))
    have hua : ∀ s : Rc, unw mk mg ml mls ms moo (updI moa (mo - 1) (moa (mo - 1) + 1)) (mo - 1).toNat s = unw mk mg ml mls ms moo moa (mo - 1).toNat s := fun s => unw_congr _ s (fun j a b => ⟨rfl, updI_n (by omega)⟩)
    have huo : ∀ s : Rc, unw mk mg ml mls ms moo (updI moa (mo - 1) (moa (mo - 1) + 1)) mo.toNat s = unw mk mg ml mls ms moo moa (mo - 1).toNat (frA mk mg ml mls ms (moo (mo - 1)) (moa (mo - 1) + 1) s) := fun s => by rw [unw_s hmo, updI_s, hua]
    refine lv_aload_n hx hb dX7_goesOn_41 rfl (lv_at hl 2 rfl) ?_
    refine va_get (D := D) (ci := 7) (v := .ref (mA 10)) (C := RX7) (T := TX7) (N := 34) hx hb hts iw_7 hown hK.1 hP 0 rfl rfl 15 (by decide) fl_37 (fun _ h9 => h9) rfl dX7_goesOn_42 ?_
    refine lv_aload_n hx hb dX7_goesOn_45 rfl (lv_at hl 2 rfl) ?_
    refine va_get (D := D) (ci := 7) (v := .int (iI mo)) (C := RX7) (T := TX7) (N := 34) hx hb hts iw_7 hown hK.1 hP 0 rfl rfl 13 (by decide) fl_148 (fun _ h9 => h9) rfl dX7_goesOn_46 ?_
    refine lv_iconst (v := iI 1) hx hb dX7_goesOn_49 (by decide +kernel) ?_
    refine n_isub hx hb dX7_goesOn_50 ?_
    refine lv_dup2_11 hx hb dX7_goesOn_51 rfl rfl ?_
    refine n_iald (n := 5) hx hb hK.1 hP 10 0 rfl rfl (by omega) (by decide) dX7_goesOn_52 ?_
    refine lv_iconst (v := iI 1) hx hb dX7_goesOn_53 (by decide +kernel) ?_
    refine n_iadd hx hb dX7_goesOn_54 ?_
    refine n_iast (n := 5) hx hb hK.1 hP hD hS 10 0 rfl rfl (by omega) (by decide) dX7_goesOn_55 (fun H locs hP hD hS => ?_)
    have hP : va_P D vwCl (W_M cI cS mA mf mn ml mk mg mls ms mra mrf mrk mrg mrl mrs mo moo (updI moa (mo - 1) ((moa (mo - 1)) + 1)) mp mpp mfi mpl mpo mro mdp mdf mhg mhk mR mRf mRo mss msl msh mha mt) H := hP
    have hD : va_D A (W_M cI cS mA mf mn ml mk mg mls ms mra mrf mrk mrg mrl mrs mo moo (updI moa (mo - 1) ((moa (mo - 1)) + 1)) mp mpp mfi mpl mpo mro mdp mdf mhg mhk mR mRf mRo mss msl msh mha mt) := hD
    refine lv_aload_n hx hb dX7_goesOn_56 rfl (lv_at hl 2 rfl) ?_
    refine va_get (D := D) (ci := 7) (v := .ref (mA 4)) (C := RX7) (T := TX7) (N := 34) hx hb hts iw_7 hown hK.1 hP 0 rfl rfl 6 (by decide) fl_19 (fun _ h9 => h9) rfl dX7_goesOn_57 ?_
    refine lv_iconst (v := iI 4) hx hb dX7_goesOn_60 (by decide +kernel) ?_
    refine lv_iload_n hx hb dX7_goesOn_61 rfl (lv_at hl 1 rfl) ?_
    refine n_imul hx hb dX7_goesOn_62 ?_
    refine lv_iload_n hx hb dX7_goesOn_63 rfl (lv_at hl 0 rfl) ?_
    refine n_iadd hx hb dX7_goesOn_64 ?_
    refine n_iald (n := 20) hx hb hK.1 hP 4 0 rfl rfl (by omega) (by decide) dX7_goesOn_65 ?_
    rw [show (ms ((4 * (moo (mo - 1))) + (moa (mo - 1)))) = v from (by rw [hv0, Int.mul_comm 4])]
    refine lv_istore_n (lv' := [(3, .int (iI v)), (2, .int (iI (moa (mo - 1)))), (1, .int (iI (moo (mo - 1)))), (0, .ref (mA 0))]) hx hb dX7_goesOn_66 rfl hl (by decide) rfl (fun ls hl => ?_)
    refine lv_iload_n hx hb dX7_goesOn_67 rfl (lv_at hl 0 rfl) ?_
    refine lv_iconst (v := iI 4) hx hb dX7_goesOn_68 (by decide +kernel) ?_
    refine n_icmp_lt (tgt := 82) hx hb dX7_goesOn_69 (by decide) (by omega) (fun c_2 => ?_) (fun c_2 => ?_)
    ·
      refine lv_aload_n hx hb dX7_goesOn_82 rfl (lv_at hl 3 rfl) ?_
      refine va_get (D := D) (ci := 7) (v := .int (iI ml)) (C := RX7) (T := TX7) (N := 34) hx hb hts iw_7 hown hK.1 hP 0 rfl rfl 2 (by decide) fl_142 (fun _ h9 => h9) rfl dX7_goesOn_83 ?_
      refine lv_iload_n hx hb dX7_goesOn_86 rfl (lv_at hl 0 rfl) ?_
      have hq := shr_rng (x := ml) (k := v) (by omega)
      have hb2 : bit ml v = ml / pow2 v % 2 := rfl
      refine n_ishr (z := (ml / pow2 v)) (b_shr (by omega)) hx hb dX7_goesOn_87 ?_
      refine lv_iconst (v := iI 1) hx hb dX7_goesOn_88 (by decide +kernel) ?_
      refine n_iand (z := ((ml / pow2 v) % 2)) (b_and1 (by omega)) hx hb dX7_goesOn_89 ?_
      refine n_if_ne (tgt := 96) hx hb dX7_goesOn_90 (by decide) (by omega) (fun c_3 => ?_) (fun c_3 => ?_)
      ·
        have hon : bit ml v = 1 := by have := bit_rng ml v; omega
        refine lv_aload_n hx hb dX7_goesOn_96 rfl (lv_at hl 3 rfl) ?_
        refine lv_iload_n hx hb dX7_goesOn_97 rfl (lv_at hl 0 rfl) ?_
        have hmp2 : mp + 1 ≤ 1024 := by
          have e1 : ((unw mk mg ml mls ms moo moa (mo - 1).toNat (goF mk mg ml mls ms (moo (mo - 1)) (moa (mo - 1)))).2.1.length : Int) = 1 + ((unw mk mg ml mls ms moo moa (mo - 1).toNat (frA mk mg ml mls ms (moo (mo - 1)) (moa (mo - 1) + 1) (v, [], 0, []))).2.1.length : Int) := by
            rw [goF_on hx1 (by omega) (by rw [← hv0]; exact hon), unw_add, ← hv0]
            unfold addR
            dsimp only
            rw [List.length_append, List.length_singleton]; omega
          omega
        refine x_callVv (As := [.int (iI v)]) (rest := []) ⟨hx, hb, hml, hown, hts⟩ (c_X7_performs l D cI cS mA mf mn ml mk mg mls ms mra mrf mrk mrg mrl mrs mo moo (updI moa (mo - 1) ((moa (mo - 1)) + 1)) mp mpp mfi mpl mpo mro mdp mdf mhg mhk mR mRf mRo mss msl msh mha mt H.size v (by first | assumption | omega) (by omega)) (cwV 1 hts gX7_goesOn_X7_performs rfl rfl rfl (by decide +kernel) ⟨Nat.le_of_ble_eq_true rfl, Nat.le_of_ble_eq_true rfl⟩) hK hP hD hS hA [0, 1, 2, 3, 4, 5, 6, 7, 8, 9, 10, 11, 12, 13, 14, 15, 16, 17, 18, 19, 20, 21] [] (wr := ([] : va_W)) rfl rfl (by decide) (by decide) (by decide) 0 7 rfl rfl rfl [0, 1, 2, 3, 4, 5, 6, 7, 8, 9, 10, 11, 12, 13, 14, 15, 16, 17, 18, 19, 20, 21] (fun (u : (Int → Int)) => (W_M cI cS mA mf mn ml mk mg mls ms mra mrf mrk mrg mrl mrs mo moo (updI moa (mo - 1) ((moa (mo - 1)) + 1)) (mp + 1) (updI mpp mp v) mfi mo u mro mdp mdf mhg mhk mR mRf mRo mss msl msh mha mt)) (fun _ => rfl) (by decide) rfl hl.1 rfl (Nat.le_of_ble_eq_true rfl) ⟨Nat.zero_le _, Nat.zero_le _⟩ dX7_goesOn_98 (fun u_ H locs hw hP hD hS => ?_)
        obtain ⟨po2, eu_⟩ : ∃ z, z = u_ := ⟨_, rfl⟩
        subst eu_
        try dsimp only at hw
        have hpo2 := hw
        have hP : va_P D vwCl (W_M cI cS mA mf mn ml mk mg mls ms mra mrf mrk mrg mrl mrs mo moo (updI moa (mo - 1) ((moa (mo - 1)) + 1)) (mp + 1) (updI mpp mp v) mfi mo po2 mro mdp mdf mhg mhk mR mRf mRo mss msl msh mha mt) H := hP
        have hD : va_D A (W_M cI cS mA mf mn ml mk mg mls ms mra mrf mrk mrg mrl mrs mo moo (updI moa (mo - 1) ((moa (mo - 1)) + 1)) (mp + 1) (updI mpp mp v) mfi mo po2 mro mdp mdf mhg mhk mR mRf mRo mss msl msh mha mt) := hD
        refine lv_aload_n hx hb dX7_goesOn_101 rfl (lv_at hl 3 rfl) ?_
        refine lv_iload_n hx hb dX7_goesOn_102 rfl (lv_at hl 0 rfl) ?_
        refine x_callVi (As := [.int (iI v)]) (rest := []) ⟨hx, hb, hml, hown, hts⟩ (c_X7_comesOut l D cI cS mA mf mn ml mk mg mls ms mra mrf mrk mrg mrl mrs mo moo (updI moa (mo - 1) ((moa (mo - 1)) + 1)) (mp + 1) (updI mpp mp v) mfi mo po2 mro mdp mdf mhg mhk mR mRf mRo mss msl msh mha mt H.size v (by first | assumption | omega) (by first | assumption | omega) hst2 (by first | assumption | omega)) (cwV 1 hts gX7_goesOn_X7_comesOut rfl rfl rfl (by decide +kernel) ⟨Nat.le_of_ble_eq_true rfl, Nat.le_of_ble_eq_true rfl⟩) hK hP hD hS hA [0, 1, 2, 3, 4, 5, 6, 7, 8, 9, 10, 11, 12, 13, 14, 15, 16, 17, 18, 19, 20, 21] [] (wr := ([] : va_W)) rfl rfl (by decide) (by decide) (by decide) 0 7 rfl rfl rfl [0, 1, 2, 3, 4, 5, 6, 7, 8, 9, 10, 11, 12, 13, 14, 15, 16, 17, 18, 19, 20, 21] (fun (u : Int × Int) => (W_M cI cS mA mf mn ml mk mg mls ms mra mrf mrk mrg mrl mrs u.1 moo (updI moa (mo - 1) ((moa (mo - 1)) + 1)) (mp + 1) (updI mpp mp v) u.2 mo po2 mro mdp mdf mhg mhk mR mRf mRo mss msl msh mha mt)) (fun _ => rfl) (by decide) rfl hl.1 rfl (Nat.le_of_ble_eq_true rfl) ⟨Nat.zero_le _, Nat.zero_le _⟩ dX7_goesOn_103 (fun r_ u_ H locs hw hP hD hS => ?_)
        obtain ⟨mo2, fi2⟩ := u_
        try dsimp only at hw
        obtain ⟨z2, rfl, hcb, hcz⟩ := hw
        have hP : va_P D vwCl (W_M cI cS mA mf mn ml mk mg mls ms mra mrf mrk mrg mrl mrs mo2 moo (updI moa (mo - 1) ((moa (mo - 1)) + 1)) (mp + 1) (updI mpp mp v) fi2 mo po2 mro mdp mdf mhg mhk mR mRf mRo mss msl msh mha mt) H := hP
        have hD : va_D A (W_M cI cS mA mf mn ml mk mg mls ms mra mrf mrk mrg mrl mrs mo2 moo (updI moa (mo - 1) ((moa (mo - 1)) + 1)) (mp + 1) (updI mpp mp v) fi2 mo po2 mro mdp mdf mhg mhk mR mRf mRo mss msl msh mha mt) := hD
        exact W.iret (v := iI z2) hx hb hr (fun t ht hW => ⟨⟨_, (mo2, moo, (updI moa (mo - 1) ((moa (mo - 1)) + 1)), (mp + 1), (updI mpp mp v), fi2, mo, po2), rfl, ⟨z2, rfl, (by (try dsimp only); exact (by omega)), (by (try dsimp only); exact (by
            refine ⟨[v], fun P hp => pfOk_snoc hp, ?_⟩
            have hV : unw mk mg ml mls ms moo moa (mo - 1).toNat (goF mk mg ml mls ms (moo (mo - 1)) (moa (mo - 1))) = addR [v] 0 (unw mk mg ml mls ms moo (updI moa (mo - 1) (moa (mo - 1) + 1)) mo.toNat (v, [], 0, [])) := by
              rw [goF_on hx1 (by omega) (by rw [← hv0]; exact hon), unw_add, huo, ← hv0]
            rcases hcz with ⟨q1, q2, q3⟩ | ⟨q1, q2 | q2⟩
            · refine Or.inr ⟨q2, Or.inr ⟨by omega, seg moo mo.toNat 0, ?_, ?_, ?_⟩⟩
              · rw [hV, q3, addR_add, q1, Int.zero_add, List.append_nil]
              · rw [seg_len]; omega
              · intro j a b
                rw [seg_at _ _ _ _ (by omega), hpo2 j a b, show (0 : Int) + (j.toNat : Int) = j by omega]
            · refine Or.inl ⟨q2.1, stk_down hst2 (by omega), ?_, ?_⟩
              · rw [hV, q2.2, addR_add, Int.zero_add, List.append_nil]
              · have := muS_le mls moo (updI moa (mo - 1) (moa (mo - 1) + 1)) (show mo2 ≤ mo by omega)
                omega
            · refine Or.inr ⟨q2.1, Or.inl ⟨q1, ?_⟩⟩
              rw [hV, q2.2, addR_add, Int.zero_add, List.append_nil]))⟩, by rw [ht]; exact hP, hD⟩, hS.F ht⟩) hS.2.2 dX7_goesOn_106
      ·
        have hoff : ¬ bit ml v = 1 := by omega
        refine lv_bipush (v := iI (-9)) hx hb dX7_goesOn_93 (by decide +kernel) ?_
        exact W.iret (v := iI (-9)) hx hb hr (fun t ht hW => ⟨⟨_, (mo, moo, (updI moa (mo - 1) ((moa (mo - 1)) + 1)), mp, mpp, mfi, mpl, mpo), rfl, ⟨(-9), rfl, (by (try dsimp only); exact (by omega)), (by (try dsimp only); exact (by
            refine ⟨[], (fun P hp => by rw [List.append_nil]; exact hp), Or.inl ⟨hmo, hst2, ?_, by omega⟩⟩
            rw [updI_s, hua, show mfi - mfi = 0 by omega, addR_0, goF_off hx1 (by omega) (by rw [← hv0]; omega)]))⟩, by rw [ht]; exact hP, hD⟩, hS.F ht⟩) hS.2.2 dX7_goesOn_95
    ·
      have hpl := hln (v - 4) (by omega) (by omega)
      refine lv_aload_n hx hb dX7_goesOn_72 rfl (lv_at hl 3 rfl) ?_
      refine lv_iload_n hx hb dX7_goesOn_73 rfl (lv_at hl 0 rfl) ?_
      refine lv_iconst (v := iI 4) hx hb dX7_goesOn_74 (by decide +kernel) ?_
      refine n_isub hx hb dX7_goesOn_75 ?_
      refine x_callVv (As := [.int (iI (v - 4))]) (rest := []) ⟨hx, hb, hml, hown, hts⟩ (c_X7_opens l D cI cS mA mf mn ml mk mg mls ms mra mrf mrk mrg mrl mrs mo moo (updI moa (mo - 1) ((moa (mo - 1)) + 1)) mp mpp mfi mpl mpo mro mdp mdf mhg mhk mR mRf mRo mss msl msh mha mt H.size (v - 4) (by first | assumption | omega)) (cwV 1 hts gX7_goesOn_X7_opens rfl rfl rfl (by decide +kernel) ⟨Nat.le_of_ble_eq_true rfl, Nat.le_of_ble_eq_true rfl⟩) hK hP hD hS hA [0, 1, 2, 3, 4, 5, 6, 7, 8, 9, 10, 11, 12, 13, 14, 15, 16, 17, 18, 19, 20, 21] [] (wr := ([] : va_W)) rfl rfl (by decide) (by decide) (by decide) 0 7 rfl rfl rfl [0, 1, 2, 3, 4, 5, 6, 7, 8, 9, 10, 11, 12, 13, 14, 15, 16, 17, 18, 19, 20, 21] (fun (u : Unit) => (W_M cI cS mA mf mn ml mk mg mls ms mra mrf mrk mrg mrl mrs (mo + 1) (updI moo mo (v - 4)) (updI (updI moa (mo - 1) ((moa (mo - 1)) + 1)) mo 0) mp mpp mfi mpl mpo mro mdp mdf mhg mhk mR mRf mRo mss msl msh mha mt)) (fun _ => rfl) (by decide) rfl hl.1 rfl (Nat.le_of_ble_eq_true rfl) ⟨Nat.zero_le _, Nat.zero_le _⟩ dX7_goesOn_76 (fun u_ H locs hw hP hD hS => ?_)
      try dsimp only at hw
      have hP : va_P D vwCl (W_M cI cS mA mf mn ml mk mg mls ms mra mrf mrk mrg mrl mrs (mo + 1) (updI moo mo (v - 4)) (updI (updI moa (mo - 1) ((moa (mo - 1)) + 1)) mo 0) mp mpp mfi mpl mpo mro mdp mdf mhg mhk mR mRf mRo mss msl msh mha mt) H := hP
      have hD : va_D A (W_M cI cS mA mf mn ml mk mg mls ms mra mrf mrk mrg mrl mrs (mo + 1) (updI moo mo (v - 4)) (updI (updI moa (mo - 1) ((moa (mo - 1)) + 1)) mo 0) mp mpp mfi mpl mpo mro mdp mdf mhg mhk mR mRf mRo mss msl msh mha mt) := hD
      refine lv_bipush (v := iI (-9)) hx hb dX7_goesOn_79 (by decide +kernel) ?_
      exact W.iret (v := iI (-9)) hx hb hr (fun t ht hW => ⟨⟨_, ((mo + 1), (updI moo mo (v - 4)), (updI (updI moa (mo - 1) ((moa (mo - 1)) + 1)) mo 0), mp, mpp, mfi, mpl, mpo), rfl, ⟨(-9), rfl, (by (try dsimp only); exact (by omega)), (by (try dsimp only); exact (by
            refine ⟨[], (fun P hp => by rw [List.append_nil]; exact hp), Or.inl ⟨by omega, stk_push hst2 hmo (by omega) (by omega), ?_, ?_⟩⟩
            · rw [show mo + 1 - 1 = mo by omega, updI_s, updI_s, show mfi - mfi = 0 by omega, addR_0, goF_0 hok (by omega) (by omega), unw_congr (oo' := moo) (oa' := updI moa (mo - 1) (moa (mo - 1) + 1)) mo.toNat _ (fun j a b => ⟨updI_n (by omega), updI_n (by omega)⟩), huo, goF_step hx1, ← hv0]
              have e : stepR ml (sem mk mg ml mls ms) v = sem mk mg ml mls ms (v - 4) := by unfold stepR; rw [if_pos (by omega)]
              rw [e]
            · have := muS_push (ln := mls) (oo := moo) (oa := updI moa (mo - 1) (moa (mo - 1) + 1)) (d := mo) (g := v - 4) (by omega) (by omega) (f := moo (mo - 1)) (by omega)
              omega))⟩, by rw [ht]; exact hP, hD⟩, hS.F ht⟩) hS.2.2 dX7_goesOn_81
  ·
    have hge : goF mk mg ml mls ms (moo (mo - 1)) (moa (mo - 1)) = (4, [], 1, []) := goF_end (by omega)
    refine lv_aload_n hx hb dX7_goesOn_34 rfl (lv_at hl 2 rfl) ?_
    refine x_callVv (As := []) (rest := []) ⟨hx, hb, hml, hown, hts⟩ (c_X7_ends l D cI cS mA mf mn ml mk mg mls ms mra mrf mrk mrg mrl mrs mo moo moa mp mpp mfi mpl mpo mro mdp mdf mhg mhk mR mRf mRo mss msl msh mha mt s.heap.size) (cwV 0 hts gX7_goesOn_X7_ends rfl rfl rfl (by decide +kernel) ⟨Nat.le_of_ble_eq_true rfl, Nat.le_of_ble_eq_true rfl⟩) hK hP hD hS hA [0, 1, 2, 3, 4, 5, 6, 7, 8, 9, 10, 11, 12, 13, 14, 15, 16, 17, 18, 19, 20, 21] [] (wr := ([] : va_W)) rfl rfl (by decide) (by decide) (by decide) 0 7 rfl rfl rfl [0, 1, 2, 3, 4, 5, 6, 7, 8, 9, 10, 11, 12, 13, 14, 15, 16, 17, 18, 19, 20, 21] (fun (u : Unit) => (W_M cI cS mA mf mn ml mk mg mls ms mra mrf mrk mrg mrl mrs (mo - 1) moo moa mp mpp (mfi + 1) mpl mpo mro mdp mdf mhg mhk mR mRf mRo mss msl msh mha mt)) (fun _ => rfl) (by decide) rfl hl.1 rfl (Nat.le_of_ble_eq_true rfl) ⟨Nat.zero_le _, Nat.zero_le _⟩ dX7_goesOn_35 (fun u_ H locs hw hP hD hS => ?_)
    try dsimp only at hw
    have hP : va_P D vwCl (W_M cI cS mA mf mn ml mk mg mls ms mra mrf mrk mrg mrl mrs (mo - 1) moo moa mp mpp (mfi + 1) mpl mpo mro mdp mdf mhg mhk mR mRf mRo mss msl msh mha mt) H := hP
    have hD : va_D A (W_M cI cS mA mf mn ml mk mg mls ms mra mrf mrk mrg mrl mrs (mo - 1) moo moa mp mpp (mfi + 1) mpl mpo mro mdp mdf mhg mhk mR mRf mRo mss msl msh mha mt) := hD
    refine lv_bipush (v := iI (-9)) hx hb dX7_goesOn_38 (by decide +kernel) ?_
    exact W.iret (v := iI (-9)) hx hb hr (fun t ht hW => ⟨⟨_, ((mo - 1), moo, moa, mp, mpp, (mfi + 1), mpl, mpo), rfl, ⟨(-9), rfl, (by (try dsimp only); exact (by omega)), (by (try dsimp only); exact (by
            refine ⟨[], (fun P hp => by rw [List.append_nil]; exact hp), ?_⟩
            have hms := muS_s mls moo moa hmo
            by_cases q : mo - 1 = 0
            · refine Or.inr ⟨q, Or.inl ⟨rfl, ?_⟩⟩
              rw [hge, q]
              show (4, [], 1, []) = addR [] (mfi + 1 - mfi) (4, [], 0, [])
              rw [show mfi + 1 - mfi = 1 by omega]
              rfl
            · refine Or.inl ⟨by omega, stk_down hst (by omega), ?_, ?_⟩
              · rw [hge, unw_no (by omega), show mfi + 1 - mfi = 1 by omega]
              · rw [hms]
                have hone : 1 ≤ (mls (moo (mo - 1)) - moa (mo - 1) + 1).toNat * pw6 (moo (mo - 1)) := Nat.mul_pos (by omega) (pw6_pos _)
                omega))⟩, by rw [ht]; exact hP, hD⟩, hS.F ht⟩) hS.2.2 dX7_goesOn_40
set_option maxHeartbeats 4000000 in
set_option maxRecDepth 100000 in
theorem c_X7_runs (l : Launch) (D : va_G) (cI cS : ClassId) (mA : Nat → Nat) (mf : Int) (mn : Int) (ml : Int) (mk : Int → Int) (mg : Int → Int) (mls : Int → Int) (ms : Int → Int) (mra : Int) (mrf : Int) (mrk : Int → Int) (mrg : Int → Int) (mrl : Int → Int) (mrs : Int → Int) (mo : Int) (moo : Int → Int) (moa : Int → Int) (mp : Int) (mpp : Int → Int) (mfi : Int) (mpl : Int) (mpo : Int → Int) (mro : Int → Int) (mdp : Int) (mdf : Int) (mhg : Int → Int) (mhk : Int → Int) (mR : Int) (mRf : Int → Int) (mRo : Int → Int) (mss : Int → Int) (msl : Int → Int) (msh : Int → Int) (mha : Int → Int) (mt : Int) (sz : Nat) (f : Int) (hok : okP mn mls ms) (hkk : okK mn mk mg ml) (hf : 0 ≤ f ∧ f < mn) : Met l yX7_runs wsX7_runs ({ frames := 3, cells := 0, slots := 0, locals := 67 }) (cP D cI cS (W_M cI cS mA mf mn ml mk mg mls ms mra mrf mrk mrg mrl mrs mo moo moa mp mpp mfi mpl mpo mro mdp mdf mhg mhk mR mRf mRo mss msl msh mha mt) sz [.ref (mA 0), .int (iI f)]) (va_Qi (fun (r : Int32) (u : Int × (Int → Int) × (Int → Int) × Int × (Int → Int) × Int × Int × (Int → Int)) => ∃ z : Int, r = iI z ∧ (z = (if (sem mk mg ml mls ms f).1 = 4 then -9 else (sem mk mg ml mls ms f).1)) ∧ (pfOk u.2.2.2.2.1 u.2.2.2.1 (sem mk mg ml mls ms f).2.1) ∧ (u.2.2.2.2.2.1 = (sem mk mg ml mls ms f).2.2.1) ∧ (u.2.2.2.2.2.2.1 = ((sem mk mg ml mls ms f).2.2.2.length : Int) ∧ ∀ j : Int, 0 ≤ j → j < u.2.2.2.2.2.2.1 → u.2.2.2.2.2.2.2 j = (sem mk mg ml mls ms f).2.2.2.getD j.toNat (-9))) (fun (u : Int × (Int → Int) × (Int → Int) × Int × (Int → Int) × Int × Int × (Int → Int)) t => cB D (va_A (W_M cI cS mA mf mn ml mk mg mls ms mra mrf mrk mrg mrl mrs mo moo moa mp mpp mfi mpl mpo mro mdp mdf mhg mhk mR mRf mRo mss msl msh mha mt) sz) (W_M cI cS mA mf mn ml mk mg mls ms mra mrf mrk mrg mrl mrs u.1 u.2.1 u.2.2.1 u.2.2.2.1 u.2.2.2.2.1 u.2.2.2.2.2.1 u.2.2.2.2.2.2.1 u.2.2.2.2.2.2.2 mro mdp mdf mhg mhk mR mRf mRo mss msl msh mha mt) t) (va_A (W_M cI cS mA mf mn ml mk mg mls ms mra mrf mrk mrg mrl mrs mo moo moa mp mpp mfi mpl mpo mro mdp mdf mhg mhk mR mRf mRo mss msl msh mha mt) sz)) 0 0 (va_A (W_M cI cS mA mf mn ml mk mg mls ms mra mrf mrk mrg mrl mrs mo moo moa mp mpp mfi mpl mpo mro mdp mdf mhg mhk mR mRf mRo mss msl msh mha mt) sz) := by
  refine Met.ofW (cc := cX7_runs) (maxL := 3) (ret := (some .int)) (by decide) rfl ?_
  intro p e s m args below meth c_ s₁ B hml hv
  obtain ⟨rfl, hsz, hP, hK, hD0⟩ := hv
  have hx := B.exec
  have hb := B.bytes
  have hr := B.returns
  have hts := atoms_spec (ws := wsX7_runs) B.pre
  have hown : s.vm.findClass RX7 = some m.cls := findClass_of_methodNamed B.named
  have hlocks := B.notSynchronized
  subst hsz
  have hD := hD0.self (sz := s.heap.size)
  generalize hAe : va_A (W_M cI cS mA mf mn ml mk mg mls ms mra mrf mrk mrg mrl mrs mo moo moa mp mpp mfi mpl mpo mro mdp mdf mhg mhk mR mRf mRo mss msl msh mha mt) s.heap.size = A at hD ⊢
  have hA : ∀ q : Nat, s.heap.size ≤ q → A q := fun q h => by rw [← hAe]; exact Or.inr h
  have hS : va_S A s.heap s.heap [] := va_S.rf
  have hP : va_P D vwCl (W_M cI cS mA mf mn ml mk mg mls ms mra mrf mrk mrg mrl mrs mo moo moa mp mpp mfi mpl mpo mro mdp mdf mhg mhk mR mRf mRo mss msl msh mha mt) s.heap := hP
  have hl := lv_entry ([.ref (mA 0), .int (iI f)] : List Value) (n := 3) (Nat.le_of_ble_eq_true rfl)
  rw [lg_entry_eq]
  generalize (lg_sl ([.ref (mA 0), .int (iI f)] : List Value) ++ List.replicate (3 - (lg_sl ([.ref (mA 0), .int (iI f)] : List Value)).length) Slot.unset).toArray = ls at hl ⊢
  have hl : lv_has ls 3 [(0, .ref (mA 0)), (1, .int (iI f))] := hl
  have fl_148 := hts (.fieldLink RX7 148 "ActRowsModel" "open" "I") (by decide +kernel)
  have iw_7 : ∀ w ∈ wsX70, w ∈ wsX7_runs := by decide +kernel
  have fl_154 := hts (.fieldLink RX7 154 "ActRowsModel" "performed" "I") (by decide +kernel)
  have fl_151 := hts (.fieldLink RX7 151 "ActRowsModel" "finished" "I") (by decide +kernel)
  have fl_157 := hts (.fieldLink RX7 157 "ActRowsModel" "pathLength" "I") (by decide +kernel)
  have hmn := hok.1
  have hln := hok.2.1
  have hlf := hln f hf.1 hf.2
  refine lv_aload_n hx hb dX7_runs_0 rfl (lv_at hl 0 rfl) ?_
  refine lv_iconst (v := iI 0) hx hb dX7_runs_1 (by decide +kernel) ?_
  refine va_put (D := D) (ci := 7) (v := .int (iI 0)) (ty := .int) (C := RX7) (T := TX7) (N := 34) hx hb hts iw_7 tyX7 tyX7_ok nmX7 hown hK.1 hP hD hS 0 rfl rfl 13 (by decide) fl_148 (fun _ h9 => h9) rfl (by decide +kernel) rfl rfl (Nat.le_of_ble_eq_true rfl) dX7_runs_2 (fun H locs hP hD hS => ?_)
  have hP : va_P D vwCl (W_M cI cS mA mf mn ml mk mg mls ms mra mrf mrk mrg mrl mrs 0 moo moa mp mpp mfi mpl mpo mro mdp mdf mhg mhk mR mRf mRo mss msl msh mha mt) H := hP
  have hD : va_D A (W_M cI cS mA mf mn ml mk mg mls ms mra mrf mrk mrg mrl mrs 0 moo moa mp mpp mfi mpl mpo mro mdp mdf mhg mhk mR mRf mRo mss msl msh mha mt) := hD
  refine lv_aload_n hx hb dX7_runs_5 rfl (lv_at hl 0 rfl) ?_
  refine lv_iconst (v := iI 0) hx hb dX7_runs_6 (by decide +kernel) ?_
  refine va_put (D := D) (ci := 7) (v := .int (iI 0)) (ty := .int) (C := RX7) (T := TX7) (N := 34) hx hb hts iw_7 tyX7 tyX7_ok nmX7 hown hK.1 hP hD hS 0 rfl rfl 16 (by decide) fl_154 (fun _ h9 => h9) rfl (by decide +kernel) rfl rfl (Nat.le_of_ble_eq_true rfl) dX7_runs_7 (fun H locs hP hD hS => ?_)
  have hP : va_P D vwCl (W_M cI cS mA mf mn ml mk mg mls ms mra mrf mrk mrg mrl mrs 0 moo moa 0 mpp mfi mpl mpo mro mdp mdf mhg mhk mR mRf mRo mss msl msh mha mt) H := hP
  have hD : va_D A (W_M cI cS mA mf mn ml mk mg mls ms mra mrf mrk mrg mrl mrs 0 moo moa 0 mpp mfi mpl mpo mro mdp mdf mhg mhk mR mRf mRo mss msl msh mha mt) := hD
  refine lv_aload_n hx hb dX7_runs_10 rfl (lv_at hl 0 rfl) ?_
  refine lv_iconst (v := iI 0) hx hb dX7_runs_11 (by decide +kernel) ?_
  refine va_put (D := D) (ci := 7) (v := .int (iI 0)) (ty := .int) (C := RX7) (T := TX7) (N := 34) hx hb hts iw_7 tyX7 tyX7_ok nmX7 hown hK.1 hP hD hS 0 rfl rfl 18 (by decide) fl_151 (fun _ h9 => h9) rfl (by decide +kernel) rfl rfl (Nat.le_of_ble_eq_true rfl) dX7_runs_12 (fun H locs hP hD hS => ?_)
  have hP : va_P D vwCl (W_M cI cS mA mf mn ml mk mg mls ms mra mrf mrk mrg mrl mrs 0 moo moa 0 mpp 0 mpl mpo mro mdp mdf mhg mhk mR mRf mRo mss msl msh mha mt) H := hP
  have hD : va_D A (W_M cI cS mA mf mn ml mk mg mls ms mra mrf mrk mrg mrl mrs 0 moo moa 0 mpp 0 mpl mpo mro mdp mdf mhg mhk mR mRf mRo mss msl msh mha mt) := hD
  refine lv_aload_n hx hb dX7_runs_15 rfl (lv_at hl 0 rfl) ?_
  refine lv_iload_n hx hb dX7_runs_16 rfl (lv_at hl 1 rfl) ?_
  refine x_callVv (As := [.int (iI f)]) (rest := []) ⟨hx, hb, hml, hown, hts⟩ (c_X7_opens l D cI cS mA mf mn ml mk mg mls ms mra mrf mrk mrg mrl mrs 0 moo moa 0 mpp 0 mpl mpo mro mdp mdf mhg mhk mR mRf mRo mss msl msh mha mt H.size f (by first | assumption | omega)) (cwV 1 hts gX7_runs_X7_opens rfl rfl rfl (by decide +kernel) ⟨Nat.le_of_ble_eq_true rfl, Nat.le_of_ble_eq_true rfl⟩) hK hP hD hS hA [0, 1, 2, 3, 4, 5, 6, 7, 8, 9, 10, 11, 12, 13, 14, 15, 16, 17, 18, 19, 20, 21] [] (wr := ([] : va_W)) rfl rfl (by decide) (by decide) (by decide) 0 7 rfl rfl rfl [0, 1, 2, 3, 4, 5, 6, 7, 8, 9, 10, 11, 12, 13, 14, 15, 16, 17, 18, 19, 20, 21] (fun (u : Unit) => (W_M cI cS mA mf mn ml mk mg mls ms mra mrf mrk mrg mrl mrs (0 + 1) (updI moo 0 f) (updI moa 0 0) 0 mpp 0 mpl mpo mro mdp mdf mhg mhk mR mRf mRo mss msl msh mha mt)) (fun _ => rfl) (by decide) rfl hl.1 rfl (Nat.le_of_ble_eq_true rfl) ⟨Nat.zero_le _, Nat.zero_le _⟩ dX7_runs_17 (fun u_ H locs hw hP hD hS => ?_)
  try dsimp only at hw
  have hP : va_P D vwCl (W_M cI cS mA mf mn ml mk mg mls ms mra mrf mrk mrg mrl mrs (0 + 1) (updI moo 0 f) (updI moa 0 0) 0 mpp 0 mpl mpo mro mdp mdf mhg mhk mR mRf mRo mss msl msh mha mt) H := hP
  have hD : va_D A (W_M cI cS mA mf mn ml mk mg mls ms mra mrf mrk mrg mrl mrs (0 + 1) (updI moo 0 f) (updI moa 0 0) 0 mpp 0 mpl mpo mro mdp mdf mhg mhk mR mRf mRo mss msl msh mha mt) := hD
  refine lv_bipush (v := iI (-9)) hx hb dX7_runs_20 (by decide +kernel) ?_
  refine lv_istore_n (lv' := [(2, .int (iI (-9))), (0, .ref (mA 0)), (1, .int (iI f))]) hx hb dX7_runs_22 rfl hl (by decide) rfl (fun ls hl => ?_)
  refine x_loop (σ := Int × Int × (Int → Int) × (Int → Int) × Int × (Int → Int) × Int × Int × (Int → Int) × List Int) (fun (xv_ : Int × Int × (Int → Int) × (Int → Int) × Int × (Int → Int) × Int × Int × (Int → Int) × List Int) => match xv_ with | (ou, mo1, moo1, moa1, mp1, mpp1, fi1, mpl1, mpo1, P) => (stkOk mn mls moo1 moa1 mo1) ∧ (pfOk mpp1 mp1 P) ∧ (-9 ≤ ou ∧ ou ≤ 3) ∧ ((1 ≤ mo1 ∧ addR P fi1 (unw mk mg ml mls ms moo1 moa1 (mo1 - 1).toNat (goF mk mg ml mls ms (moo1 (mo1 - 1)) (moa1 (mo1 - 1)))) = sem mk mg ml mls ms f) ∨ (mo1 = 0 ∧ ((ou = -9 ∧ sem mk mg ml mls ms f = addR P fi1 (4, [], 0, [])) ∨ (0 ≤ ou ∧ ∃ q : List Int, sem mk mg ml mls ms f = addR P fi1 ((ou, [], 0, q) : Rc) ∧ mpl1 = (q.length : Int) ∧ ∀ j : Int, 0 ≤ j → j < mpl1 → mpo1 j = q.getD j.toNat (-9)))))) (fun (xv_ : Int × Int × (Int → Int) × (Int → Int) × Int × (Int → Int) × Int × Int × (Int → Int) × List Int) => match xv_ with | (ou, mo1, moo1, moa1, mp1, mpp1, fi1, mpl1, mpo1, P) => muS mls moo1 moa1 mo1.toNat) (fun (xv_ : Int × Int × (Int → Int) × (Int → Int) × Int × (Int → Int) × Int × Int × (Int → Int) × List Int) => match xv_ with | (ou, mo1, moo1, moa1, mp1, mpp1, fi1, mpl1, mpo1, P) => (W_M cI cS mA mf mn ml mk mg mls ms mra mrf mrk mrg mrl mrs mo1 moo1 moa1 mp1 mpp1 fi1 mpl1 mpo1 mro mdp mdf mhg mhk mR mRf mRo mss msl msh mha mt)) (fun (xv_ : Int × Int × (Int → Int) × (Int → Int) × Int × (Int → Int) × Int × Int × (Int → Int) × List Int) => match xv_ with | (ou, mo1, moo1, moa1, mp1, mpp1, fi1, mpl1, mpo1, P) => [(2, .int (iI ou)), (0, .ref (mA 0)), (1, .int (iI f))]) (nL := 3) ?step_1 ((-9), (0 + 1), (updI moo 0 f), (updI moa 0 0), 0, mpp, 0, mpl, mpo, []) (by (try dsimp only); exact ⟨⟨by omega, fun j a b => by rw [show j = 0 by omega, updI_s, updI_s]; omega⟩, ⟨rfl, fun j a b => absurd b (by omega)⟩, by omega, Or.inl ⟨by omega, by rw [show (0 : Int) + 1 - 1 = 0 by omega, updI_s, updI_s, goF_0 hok hf.1 hf.2]; exact addR_0 _⟩⟩) hP hD hS hl
  case step_1 =>
    intro xv_ hI ih H locs ls hP hD hS hl
    obtain ⟨ou, mo1, moo1, moa1, mp1, mpp1, fi1, mpl1, mpo1, P⟩ := xv_
    try dsimp only at hI ih
    obtain ⟨hst1, hpf, hour, hI⟩ := hI
    have hP : va_P D vwCl (W_M cI cS mA mf mn ml mk mg mls ms mra mrf mrk mrg mrl mrs mo1 moo1 moa1 mp1 mpp1 fi1 mpl1 mpo1 mro mdp mdf mhg mhk mR mRf mRo mss msl msh mha mt) H := hP
    have hD : va_D A (W_M cI cS mA mf mn ml mk mg mls ms mra mrf mrk mrg mrl mrs mo1 moo1 moa1 mp1 mpp1 fi1 mpl1 mpo1 mro mdp mdf mhg mhk mR mRf mRo mss msl msh mha mt) := hD
    have hl : lv_has ls 3 [(2, .int (iI ou)), (0, .ref (mA 0)), (1, .int (iI f))] := hl
    have hs1 := hst1.1
    have ih_2 := ih
    refine lv_aload_n hx hb dX7_runs_23 rfl (lv_at hl 1 rfl) ?_
    refine va_get (D := D) (ci := 7) (v := .int (iI mo1)) (C := RX7) (T := TX7) (N := 34) hx hb hts iw_7 hown hK.1 hP 0 rfl rfl 13 (by decide) fl_148 (fun _ h9 => h9) rfl dX7_runs_24 ?_
    refine n_if_le (tgt := 38) hx hb dX7_runs_27 (by decide) (by omega) (fun c_3 => ?_) (fun c_3 => ?_)
    ·
      have hI2 : (ou = -9 ∧ sem mk mg ml mls ms f = addR P fi1 (4, [], 0, [])) ∨ (0 ≤ ou ∧ ∃ q : List Int, sem mk mg ml mls ms f = addR P fi1 ((ou, [], 0, q) : Rc) ∧ mpl1 = (q.length : Int) ∧ ∀ j : Int, 0 ≤ j → j < mpl1 → mpo1 j = q.getD j.toNat (-9)) := by rcases hI with q | q; exact absurd q.1 (by omega); exact q.2
      refine lv_aload_n hx hb dX7_runs_38 rfl (lv_at hl 1 rfl) ?_
      refine lv_iload_n hx hb dX7_runs_39 rfl (lv_at hl 0 rfl) ?_
      refine n_if_ge (tgt := 47) hx hb dX7_runs_40 (by decide) (by omega) (fun c_4 => ?_) (fun c_4 => ?_)
      ·
        refine lv_aload_n hx hb dX7_runs_47 rfl (lv_at hl 1 rfl) ?_
        refine va_get (D := D) (ci := 7) (v := .int (iI mpl1)) (C := RX7) (T := TX7) (N := 34) hx hb hts iw_7 hown hK.1 hP 0 rfl rfl 19 (by decide) fl_157 (fun _ h9 => h9) rfl dX7_runs_48 ?_
        refine va_put (D := D) (ci := 7) (v := .int (iI mpl1)) (ty := .int) (C := RX7) (T := TX7) (N := 34) hx hb hts iw_7 tyX7 tyX7_ok nmX7 hown hK.1 hP hD hS 0 rfl rfl 19 (by decide) fl_157 (fun _ h9 => h9) rfl (by decide +kernel) rfl rfl (Nat.le_of_ble_eq_true rfl) dX7_runs_51 (fun H locs hP hD hS => ?_)
        have hP : va_P D vwCl (W_M cI cS mA mf mn ml mk mg mls ms mra mrf mrk mrg mrl mrs mo1 moo1 moa1 mp1 mpp1 fi1 mpl1 mpo1 mro mdp mdf mhg mhk mR mRf mRo mss msl msh mha mt) H := hP
        have hD : va_D A (W_M cI cS mA mf mn ml mk mg mls ms mra mrf mrk mrg mrl mrs mo1 moo1 moa1 mp1 mpp1 fi1 mpl1 mpo1 mro mdp mdf mhg mhk mR mRf mRo mss msl msh mha mt) := hD
        refine lv_iload_n hx hb dX7_runs_54 rfl (lv_at hl 0 rfl) ?_
        exact W.iret (v := iI ou) hx hb hr (fun t ht hW => ⟨⟨_, (mo1, moo1, moa1, mp1, mpp1, fi1, mpl1, mpo1), rfl, ⟨ou, rfl, (by (try dsimp only); exact (by rcases hI2 with q | ⟨q1, qq, q2, q3⟩; (rw [q.2]; exact q.1.trans (if_pos rfl).symm); (rw [q2]; exact (if_neg (show ¬ ou = 4 by omega)).symm))), (by (try dsimp only); exact (by rcases hI2 with q | ⟨q1, qq, q2, q3⟩; (rw [q.2]; show pfOk mpp1 mp1 (P ++ []); rw [List.append_nil]; exact hpf); (rw [q2]; show pfOk mpp1 mp1 (P ++ []); rw [List.append_nil]; exact hpf))), (by (try dsimp only); exact (by rcases hI2 with q | ⟨q1, qq, q2, q3⟩; (rw [q.2]; exact (Int.add_zero _).symm); (rw [q2]; exact (Int.add_zero _).symm))), (by (try dsimp only); exact (by rcases hI2 with q | ⟨q1, qq, q2, q3, q4⟩; (first | (rw [q.2]; exact ⟨rfl, fun j a b => absurd b (by omega)⟩) | (exact absurd q.1 (by omega))); (first | (rw [q2]; exact ⟨q3, q4⟩) | (exact absurd q1 (by omega)))))⟩, by rw [ht]; exact hP, hD⟩, hS.F ht⟩) hS.2.2 dX7_runs_55
      ·
        refine lv_iconst (v := iI 0) hx hb dX7_runs_43 (by decide +kernel) ?_
        refine lv_goto (tgt := 51) hx hb dX7_runs_44 (by decide) ?_
        refine va_put (D := D) (ci := 7) (v := .int (iI 0)) (ty := .int) (C := RX7) (T := TX7) (N := 34) hx hb hts iw_7 tyX7 tyX7_ok nmX7 hown hK.1 hP hD hS 0 rfl rfl 19 (by decide) fl_157 (fun _ h9 => h9) rfl (by decide +kernel) rfl rfl (Nat.le_of_ble_eq_true rfl) dX7_runs_51 (fun H locs hP hD hS => ?_)
        have hP : va_P D vwCl (W_M cI cS mA mf mn ml mk mg mls ms mra mrf mrk mrg mrl mrs mo1 moo1 moa1 mp1 mpp1 fi1 0 mpo1 mro mdp mdf mhg mhk mR mRf mRo mss msl msh mha mt) H := hP
        have hD : va_D A (W_M cI cS mA mf mn ml mk mg mls ms mra mrf mrk mrg mrl mrs mo1 moo1 moa1 mp1 mpp1 fi1 0 mpo1 mro mdp mdf mhg mhk mR mRf mRo mss msl msh mha mt) := hD
        refine lv_iload_n hx hb dX7_runs_54 rfl (lv_at hl 0 rfl) ?_
        exact W.iret (v := iI ou) hx hb hr (fun t ht hW => ⟨⟨_, (mo1, moo1, moa1, mp1, mpp1, fi1, 0, mpo1), rfl, ⟨ou, rfl, (by (try dsimp only); exact (by rcases hI2 with q | ⟨q1, qq, q2, q3⟩; (rw [q.2]; exact q.1.trans (if_pos rfl).symm); (rw [q2]; exact (if_neg (show ¬ ou = 4 by omega)).symm))), (by (try dsimp only); exact (by rcases hI2 with q | ⟨q1, qq, q2, q3⟩; (rw [q.2]; show pfOk mpp1 mp1 (P ++ []); rw [List.append_nil]; exact hpf); (rw [q2]; show pfOk mpp1 mp1 (P ++ []); rw [List.append_nil]; exact hpf))), (by (try dsimp only); exact (by rcases hI2 with q | ⟨q1, qq, q2, q3⟩; (rw [q.2]; exact (Int.add_zero _).symm); (rw [q2]; exact (Int.add_zero _).symm))), (by (try dsimp only); exact (by rcases hI2 with q | ⟨q1, qq, q2, q3, q4⟩; (first | (rw [q.2]; exact ⟨rfl, fun j a b => absurd b (by omega)⟩) | (exact absurd q.1 (by omega))); (first | (rw [q2]; exact ⟨q3, q4⟩) | (exact absurd q1 (by omega)))))⟩, by rw [ht]; exact hP, hD⟩, hS.F ht⟩) hS.2.2 dX7_runs_55
    ·
      have hI2 : addR P fi1 (unw mk mg ml mls ms moo1 moa1 (mo1 - 1).toNat (goF mk mg ml mls ms (moo1 (mo1 - 1)) (moa1 (mo1 - 1)))) = sem mk mg ml mls ms f := by rcases hI with q | q; exact q.2; exact absurd q.1 (by omega)
      refine lv_aload_n hx hb dX7_runs_30 rfl (lv_at hl 1 rfl) ?_
      refine x_callVi (As := []) (rest := []) ⟨hx, hb, hml, hown, hts⟩ (c_X7_goesOn l D cI cS mA mf mn ml mk mg mls ms mra mrf mrk mrg mrl mrs mo1 moo1 moa1 mp1 mpp1 fi1 mpl1 mpo1 mro mdp mdf mhg mhk mR mRf mRo mss msl msh mha mt H.size (by first | assumption | omega) (by first | assumption | omega) hst1 (by omega) (by
            have e := congrArg (fun r : Rc => (r.2.1.length : Int)) hI2
            have hsl := sem_len (K := mk) (G := mg) (L := ml) hok hf.1 hf.2
            have hpl := hpf.1
            dsimp only [addR] at e
            rw [List.length_append] at e
            omega)) (cwV 0 hts gX7_runs_X7_goesOn rfl rfl rfl (by decide +kernel) ⟨Nat.le_of_ble_eq_true rfl, Nat.le_of_ble_eq_true rfl⟩) hK hP hD hS hA [0, 1, 2, 3, 4, 5, 6, 7, 8, 9, 10, 11, 12, 13, 14, 15, 16, 17, 18, 19, 20, 21] [] (wr := ([] : va_W)) rfl rfl (by decide) (by decide) (by decide) 0 7 rfl rfl rfl [0, 1, 2, 3, 4, 5, 6, 7, 8, 9, 10, 11, 12, 13, 14, 15, 16, 17, 18, 19, 20, 21] (fun (u : Int × (Int → Int) × (Int → Int) × Int × (Int → Int) × Int × Int × (Int → Int)) => (W_M cI cS mA mf mn ml mk mg mls ms mra mrf mrk mrg mrl mrs u.1 u.2.1 u.2.2.1 u.2.2.2.1 u.2.2.2.2.1 u.2.2.2.2.2.1 u.2.2.2.2.2.2.1 u.2.2.2.2.2.2.2 mro mdp mdf mhg mhk mR mRf mRo mss msl msh mha mt)) (fun _ => rfl) (by decide) rfl hl.1 rfl (Nat.le_of_ble_eq_true rfl) ⟨Nat.zero_le _, Nat.zero_le _⟩ dX7_runs_31 (fun r_ u_ H locs hw hP hD hS => ?_)
      obtain ⟨mo2, moo2, moa2, mp2, mpp2, mfi2, mpl2, mpo2⟩ := u_
      try dsimp only at hw
      obtain ⟨z2, rfl, hzr2, hw2⟩ := hw
      have hP : va_P D vwCl (W_M cI cS mA mf mn ml mk mg mls ms mra mrf mrk mrg mrl mrs mo2 moo2 moa2 mp2 mpp2 mfi2 mpl2 mpo2 mro mdp mdf mhg mhk mR mRf mRo mss msl msh mha mt) H := hP
      have hD : va_D A (W_M cI cS mA mf mn ml mk mg mls ms mra mrf mrk mrg mrl mrs mo2 moo2 moa2 mp2 mpp2 mfi2 mpl2 mpo2 mro mdp mdf mhg mhk mR mRf mRo mss msl msh mha mt) := hD
      obtain ⟨w_, hpw, hcs⟩ := hw2
      refine lv_istore_n (lv' := [(2, .int (iI z2)), (0, .ref (mA 0)), (1, .int (iI f))]) hx hb dX7_runs_34 rfl hl (by decide) rfl (fun ls hl => ?_)
      refine lv_goto (tgt := 23) hx hb dX7_runs_35 (by decide) ?_
      exact ih_2 (z2, mo2, moo2, moa2, mp2, mpp2, mfi2, mpl2, mpo2, (P ++ w_)) (by (try dsimp only); exact (by
            refine ⟨?_, hpw P hpf, by omega, ?_⟩
            · rcases hcs with q | q
              · exact q.2.1
              · exact ⟨by omega, fun j a b => absurd b (by omega)⟩
            · rcases hcs with ⟨q1, q2, q3, q4⟩ | ⟨q1, ⟨q2, q3⟩ | ⟨q2, qq, q3, q4, q5⟩⟩
              · exact Or.inl ⟨q1, by rw [← hI2, q3, addR_add, show fi1 + (mfi2 - fi1) = mfi2 by omega]⟩
              · exact Or.inr ⟨q1, Or.inl ⟨q2, by rw [← hI2, q3, addR_add, show fi1 + (mfi2 - fi1) = mfi2 by omega]⟩⟩
              · exact Or.inr ⟨q1, Or.inr ⟨q2, qq, by rw [← hI2, q3, addR_add, show fi1 + (mfi2 - fi1) = mfi2 by omega], q4, q5⟩⟩)) (by (try dsimp only); exact (by
            rcases hcs with q | q
            · exact q.2.2.2
            · rw [q.1]
              show 0 < _
              rw [muS_s _ _ _ (by omega)]
              have hj := hst1.2 (mo1 - 1) (by omega) (by omega)
              have : 1 ≤ (mls (moo1 (mo1 - 1)) - moa1 (mo1 - 1) + 1).toNat * pw6 (moo1 (mo1 - 1)) := Nat.mul_pos (by omega) (pw6_pos _)
              omega)) _ _ _ hP hD hS (lv_sub hl [0, 1, 2] rfl)
set_option maxHeartbeats 4000000 in
set_option maxRecDepth 100000 in
theorem c_X7_runsBy (l : Launch) (D : va_G) (cI cS : ClassId) (mA : Nat → Nat) (mf : Int) (mn : Int) (ml : Int) (mk : Int → Int) (mg : Int → Int) (mls : Int → Int) (ms : Int → Int) (mra : Int) (mrf : Int) (mrk : Int → Int) (mrg : Int → Int) (mrl : Int → Int) (mrs : Int → Int) (mo : Int) (moo : Int → Int) (moa : Int → Int) (mp : Int) (mpp : Int → Int) (mfi : Int) (mpl : Int) (mpo : Int → Int) (mro : Int → Int) (mdp : Int) (mdf : Int) (mhg : Int → Int) (mhk : Int → Int) (mR : Int) (mRf : Int → Int) (mRo : Int → Int) (mss : Int → Int) (msl : Int → Int) (msh : Int → Int) (mha : Int → Int) (mt : Int) (sz : Nat) (f : Int) (set : Int) (hok : okP mn mls ms) (hkk : okK mn mk mg set) (hf : 0 ≤ f ∧ f < mn) : Met l yX7_runsBy wsX7_runsBy ({ frames := 4, cells := 0, slots := 0, locals := 89 }) (cP D cI cS (W_M cI cS mA mf mn ml mk mg mls ms mra mrf mrk mrg mrl mrs mo moo moa mp mpp mfi mpl mpo mro mdp mdf mhg mhk mR mRf mRo mss msl msh mha mt) sz [.ref (mA 0), .int (iI f), .int (iI set)]) (va_Qi (fun (r : Int32) (u : Int × (Int → Int) × (Int → Int) × Int × (Int → Int) × Int × Int × (Int → Int)) => r = iI (if (sem mk mg set mls ms f).1 = 4 then (-9) else (sem mk mg set mls ms f).1)) (fun (u : Int × (Int → Int) × (Int → Int) × Int × (Int → Int) × Int × Int × (Int → Int)) t => cB D (va_A (W_M cI cS mA mf mn ml mk mg mls ms mra mrf mrk mrg mrl mrs mo moo moa mp mpp mfi mpl mpo mro mdp mdf mhg mhk mR mRf mRo mss msl msh mha mt) sz) (W_M cI cS mA mf mn ml mk mg mls ms mra mrf mrk mrg mrl mrs u.1 u.2.1 u.2.2.1 u.2.2.2.1 u.2.2.2.2.1 u.2.2.2.2.2.1 u.2.2.2.2.2.2.1 u.2.2.2.2.2.2.2 mro mdp mdf mhg mhk mR mRf mRo mss msl msh mha mt) t) (va_A (W_M cI cS mA mf mn ml mk mg mls ms mra mrf mrk mrg mrl mrs mo moo moa mp mpp mfi mpl mpo mro mdp mdf mhg mhk mR mRf mRo mss msl msh mha mt) sz)) 0 0 (va_A (W_M cI cS mA mf mn ml mk mg mls ms mra mrf mrk mrg mrl mrs mo moo moa mp mpp mfi mpl mpo mro mdp mdf mhg mhk mR mRf mRo mss msl msh mha mt) sz) := by
  refine Met.ofW (cc := cX7_runsBy) (maxL := 5) (ret := (some .int)) (by decide) rfl ?_
  intro p e s m args below meth c_ s₁ B hml hv
  obtain ⟨rfl, hsz, hP, hK, hD0⟩ := hv
  have hx := B.exec
  have hb := B.bytes
  have hr := B.returns
  have hts := atoms_spec (ws := wsX7_runsBy) B.pre
  have hown : s.vm.findClass RX7 = some m.cls := findClass_of_methodNamed B.named
  have hlocks := B.notSynchronized
  subst hsz
  have hD := hD0.self (sz := s.heap.size)
  generalize hAe : va_A (W_M cI cS mA mf mn ml mk mg mls ms mra mrf mrk mrg mrl mrs mo moo moa mp mpp mfi mpl mpo mro mdp mdf mhg mhk mR mRf mRo mss msl msh mha mt) s.heap.size = A at hD ⊢
  have hA : ∀ q : Nat, s.heap.size ≤ q → A q := fun q h => by rw [← hAe]; exact Or.inr h
  have hS : va_S A s.heap s.heap [] := va_S.rf
  have hP : va_P D vwCl (W_M cI cS mA mf mn ml mk mg mls ms mra mrf mrk mrg mrl mrs mo moo moa mp mpp mfi mpl mpo mro mdp mdf mhg mhk mR mRf mRo mss msl msh mha mt) s.heap := hP
  have hl := lv_entry ([.ref (mA 0), .int (iI f), .int (iI set)] : List Value) (n := 5) (Nat.le_of_ble_eq_true rfl)
  rw [lg_entry_eq]
  generalize (lg_sl ([.ref (mA 0), .int (iI f), .int (iI set)] : List Value) ++ List.replicate (5 - (lg_sl ([.ref (mA 0), .int (iI f), .int (iI set)] : List Value)).length) Slot.unset).toArray = ls at hl ⊢
  have hl : lv_has ls 5 [(0, .ref (mA 0)), (1, .int (iI f)), (2, .int (iI set))] := hl
  have fl_142 := hts (.fieldLink RX7 142 "ActRowsModel" "liveNow" "I") (by decide +kernel)
  have iw_7 : ∀ w ∈ wsX70, w ∈ wsX7_runsBy := by decide +kernel
  refine lv_aload_n hx hb dX7_runsBy_0 rfl (lv_at hl 0 rfl) ?_
  refine va_get (D := D) (ci := 7) (v := .int (iI ml)) (C := RX7) (T := TX7) (N := 34) hx hb hts iw_7 hown hK.1 hP 0 rfl rfl 2 (by decide) fl_142 (fun _ h9 => h9) rfl dX7_runsBy_1 ?_
  refine lv_istore_n (lv' := [(3, .int (iI ml)), (0, .ref (mA 0)), (1, .int (iI f)), (2, .int (iI set))]) hx hb dX7_runsBy_4 rfl hl (by decide) rfl (fun ls hl => ?_)
  refine lv_aload_n hx hb dX7_runsBy_5 rfl (lv_at hl 1 rfl) ?_
  refine lv_iload_n hx hb dX7_runsBy_6 rfl (lv_at hl 3 rfl) ?_
  refine va_put (D := D) (ci := 7) (v := .int (iI set)) (ty := .int) (C := RX7) (T := TX7) (N := 34) hx hb hts iw_7 tyX7 tyX7_ok nmX7 hown hK.1 hP hD hS 0 rfl rfl 2 (by decide) fl_142 (fun _ h9 => h9) rfl (by decide +kernel) rfl rfl (Nat.le_of_ble_eq_true rfl) dX7_runsBy_7 (fun H locs hP hD hS => ?_)
  have hP : va_P D vwCl (W_M cI cS mA mf mn set mk mg mls ms mra mrf mrk mrg mrl mrs mo moo moa mp mpp mfi mpl mpo mro mdp mdf mhg mhk mR mRf mRo mss msl msh mha mt) H := hP
  have hD : va_D A (W_M cI cS mA mf mn set mk mg mls ms mra mrf mrk mrg mrl mrs mo moo moa mp mpp mfi mpl mpo mro mdp mdf mhg mhk mR mRf mRo mss msl msh mha mt) := hD
  refine lv_aload_n hx hb dX7_runsBy_10 rfl (lv_at hl 1 rfl) ?_
  refine lv_iload_n hx hb dX7_runsBy_11 rfl (lv_at hl 2 rfl) ?_
  refine x_callVi (As := [.int (iI f)]) (rest := []) ⟨hx, hb, hml, hown, hts⟩ (c_X7_runs l D cI cS mA mf mn set mk mg mls ms mra mrf mrk mrg mrl mrs mo moo moa mp mpp mfi mpl mpo mro mdp mdf mhg mhk mR mRf mRo mss msl msh mha mt H.size f (by first | assumption | omega) (by first | assumption | omega) (by first | assumption | omega)) (cwV 1 hts gX7_runsBy_X7_runs rfl rfl rfl (by decide +kernel) ⟨Nat.le_of_ble_eq_true rfl, Nat.le_of_ble_eq_true rfl⟩) hK hP hD hS hA [0, 1, 2, 3, 4, 5, 6, 7, 8, 9, 10, 11, 12, 13, 14, 15, 16, 17, 18, 19, 20, 21] [] (wr := ([] : va_W)) rfl rfl (by decide) (by decide) (by decide) 0 7 rfl rfl rfl [0, 1, 2, 3, 4, 5, 6, 7, 8, 9, 10, 11, 12, 13, 14, 15, 16, 17, 18, 19, 20, 21] (fun (u : Int × (Int → Int) × (Int → Int) × Int × (Int → Int) × Int × Int × (Int → Int)) => (W_M cI cS mA mf mn set mk mg mls ms mra mrf mrk mrg mrl mrs u.1 u.2.1 u.2.2.1 u.2.2.2.1 u.2.2.2.2.1 u.2.2.2.2.2.1 u.2.2.2.2.2.2.1 u.2.2.2.2.2.2.2 mro mdp mdf mhg mhk mR mRf mRo mss msl msh mha mt)) (fun _ => rfl) (by decide) rfl hl.1 rfl (Nat.le_of_ble_eq_true rfl) ⟨Nat.zero_le _, Nat.zero_le _⟩ dX7_runsBy_12 (fun r_ u_ H locs hw hP hD hS => ?_)
  obtain ⟨mo_1, moo_2, moa_3, mp_4, mpp_5, mfi_6, mpl_7, mpo_8⟩ := u_
  try dsimp only at hw
  obtain ⟨z_12, rfl, hz2, hp_9, he_10, hl_11⟩ := hw
  have hP : va_P D vwCl (W_M cI cS mA mf mn set mk mg mls ms mra mrf mrk mrg mrl mrs mo_1 moo_2 moa_3 mp_4 mpp_5 mfi_6 mpl_7 mpo_8 mro mdp mdf mhg mhk mR mRf mRo mss msl msh mha mt) H := hP
  have hD : va_D A (W_M cI cS mA mf mn set mk mg mls ms mra mrf mrk mrg mrl mrs mo_1 moo_2 moa_3 mp_4 mpp_5 mfi_6 mpl_7 mpo_8 mro mdp mdf mhg mhk mR mRf mRo mss msl msh mha mt) := hD
  refine lv_istore (lv' := [(4, .int (iI z_12)), (3, .int (iI ml)), (0, .ref (mA 0)), (1, .int (iI f)), (2, .int (iI set))]) hx hb dX7_runsBy_15 hl (by decide) rfl (fun ls hl => ?_)
  refine lv_aload_n hx hb dX7_runsBy_17 rfl (lv_at hl 2 rfl) ?_
  refine lv_iload_n hx hb dX7_runsBy_18 rfl (lv_at hl 1 rfl) ?_
  refine va_put (D := D) (ci := 7) (v := .int (iI ml)) (ty := .int) (C := RX7) (T := TX7) (N := 34) hx hb hts iw_7 tyX7 tyX7_ok nmX7 hown hK.1 hP hD hS 0 rfl rfl 2 (by decide) fl_142 (fun _ h9 => h9) rfl (by decide +kernel) rfl rfl (Nat.le_of_ble_eq_true rfl) dX7_runsBy_19 (fun H locs hP hD hS => ?_)
  have hP : va_P D vwCl (W_M cI cS mA mf mn ml mk mg mls ms mra mrf mrk mrg mrl mrs mo_1 moo_2 moa_3 mp_4 mpp_5 mfi_6 mpl_7 mpo_8 mro mdp mdf mhg mhk mR mRf mRo mss msl msh mha mt) H := hP
  have hD : va_D A (W_M cI cS mA mf mn ml mk mg mls ms mra mrf mrk mrg mrl mrs mo_1 moo_2 moa_3 mp_4 mpp_5 mfi_6 mpl_7 mpo_8 mro mdp mdf mhg mhk mR mRf mRo mss msl msh mha mt) := hD
  refine lv_iload hx hb dX7_runsBy_22 (lv_at hl 0 rfl) ?_
  exact W.iret (v := iI z_12) hx hb hr (fun t ht hW => ⟨⟨_, (mo_1, moo_2, moa_3, mp_4, mpp_5, mfi_6, mpl_7, mpo_8), rfl, congrArg iI (show z_12 = (if (sem mk mg set mls ms f).1 = 4 then (-9) else (sem mk mg set mls ms f).1) from hz2), by rw [ht]; exact hP, hD⟩, hS.F ht⟩) hS.2.2 dX7_runsBy_24
