abbrev W_M (cI cS : ClassId) (A_0 : Nat → Nat) (mf_0 : Int) (mn_0 : Int) (ml_0 : Int) (mk_0 : Int → Int) (mg_0 : Int → Int) (mls_0 : Int → Int) (ms_0 : Int → Int) (mra_0 : Int) (mrf_0 : Int) (mrk_0 : Int → Int) (mrg_0 : Int → Int) (mrl_0 : Int → Int) (mrs_0 : Int → Int) (mo_0 : Int) (moo_0 : Int → Int) (moa_0 : Int → Int) (mp_0 : Int) (mpp_0 : Int → Int) (mfi_0 : Int) (mpl_0 : Int) (mpo_0 : Int → Int) (mro_0 : Int → Int) (mdp_0 : Int) (mdf_0 : Int) (mhg_0 : Int → Int) (mhk_0 : Int → Int) (mR_0 : Int) (mRf_0 : Int → Int) (mRo_0 : Int → Int) (mss_0 : Int → Int) (msl_0 : Int → Int) (msh_0 : Int → Int) (mha_0 : Int → Int) (mt_0 : Int) : va_W := [(A_0 0, .inr (7, [.int (iI mf_0), .int (iI mn_0), .int (iI ml_0), .ref (A_0 1), .ref (A_0 2), .ref (A_0 3), .ref (A_0 4), .int (iI mra_0), .int (iI mrf_0), .ref (A_0 5), .ref (A_0 6), .ref (A_0 7), .ref (A_0 8), .int (iI mo_0), .ref (A_0 9), .ref (A_0 10), .int (iI mp_0), .ref (A_0 11), .int (iI mfi_0), .int (iI mpl_0), .ref (A_0 12), .ref (A_0 13), .int (iI mdp_0), .int (iI mdf_0), .ref (A_0 14), .ref (A_0 15), .int (iI mR_0), .ref (A_0 16), .ref (A_0 17), .ref (A_0 18), .ref (A_0 19), .ref (A_0 20), .ref (A_0 21), .int (iI mt_0)])), (A_0 1, .inl (cI, 5, .inl (aI mk_0))), (A_0 2, .inl (cI, 5, .inl (aI mg_0))), (A_0 3, .inl (cI, 5, .inl (aI mls_0))), (A_0 4, .inl (cI, 20, .inl (aI ms_0))), (A_0 5, .inl (cI, 5, .inl (aI mrk_0))), (A_0 6, .inl (cI, 5, .inl (aI mrg_0))), (A_0 7, .inl (cI, 5, .inl (aI mrl_0))), (A_0 8, .inl (cI, 20, .inl (aI mrs_0))), (A_0 9, .inl (cI, 5, .inl (aI moo_0))), (A_0 10, .inl (cI, 5, .inl (aI moa_0))), (A_0 11, .inl (cI, 1024, .inl (aI mpp_0))), (A_0 12, .inl (cI, 5, .inl (aI mpo_0))), (A_0 13, .inl (cI, 5, .inl (aI mro_0))), (A_0 14, .inl (cI, 5, .inl (aI mhg_0))), (A_0 15, .inl (cI, 5, .inl (aI mhk_0))), (A_0 16, .inl (cI, 8, .inl (aI mRf_0))), (A_0 17, .inl (cI, 8, .inl (aI mRo_0))), (A_0 18, .inl (cI, 4, .inl (aI mss_0))), (A_0 19, .inl (cI, 4, .inl (aI msl_0))), (A_0 20, .inl (cI, 240, .inl (aI msh_0))), (A_0 21, .inl (cI, 60, .inl (aI mha_0)))]
def lnM (mss msl : Int → Int) (k : Int) : Int := if mss k < 0 then -1 else msl k
def AT (n : Int) : Int := if n = 0 then 1 else 4
theorem wr_ex {c : Int} (h : -2147483648 ≤ c ∧ c < 2147483648) : ∃ z : Int, iI (c - 48) = iI z ∧ (-2147483648 ≤ z ∧ z < 2147483648) ∧ (z = c - 48 ∨ (3 < z ∧ c < 0)) := by
  by_cases q : c - 48 < -2147483648
  · refine ⟨c - 48 + 4294967296, ?_, by omega, Or.inr (by omega)⟩
    rw [← iI_add, show iI 4294967296 = 0 by decide +kernel, Int32.add_zero]
  · exact ⟨c - 48, rfl, by omega, Or.inl rfl⟩
def stk (n : Int) (cd : Int → Int) (ra rf : Int) (rl : Int → Int) : Prop := ra < n → ¬ cd ra = 59 → ¬ (0 ≤ stv (rf - 1) (cd ra) ∧ rl (rf - 1) < 4)
theorem pr_f {cd : Int → Int} {n i at_ cnt : Int} {kd gd ln st : Int → Int} (h2 : (i = n ∧ at_ ≠ 4) ∨ (i < n ∧ pStep at_ cnt kd gd ln st (cd i) = none)) : (pRun cd (n - i).toNat i ((at_, cnt, kd, gd, ln, st) : PQ)).1 = i := by
  rcases h2 with ⟨h, h3⟩ | ⟨h, h3⟩
  · rw [show (n - i).toNat = 0 by omega]
    show (if at_ = 4 then ((-1 : Int), ((at_, cnt, kd, gd, ln, st) : PQ)) else (i, (at_, cnt, kd, gd, ln, st))).1 = i
    rw [if_neg h3]
  · rw [show (n - i).toNat = (n - (i + 1)).toNat + 1 by omega, pRun_none (q := ((at_, cnt, kd, gd, ln, st) : PQ)) h3]
theorem pr_s {cd : Int → Int} {n i at_ cnt : Int} {kd gd ln st : Int → Int} {q : PQ} (h : i < n) (h3 : pStep at_ cnt kd gd ln st (cd i) = some q) : pRun cd (n - i).toNat i ((at_, cnt, kd, gd, ln, st) : PQ) = pRun cd (n - (i + 1)).toNat (i + 1) q := by
  rw [show (n - i).toNat = (n - (i + 1)).toNat + 1 by omega]
  exact pRun_some (q := ((at_, cnt, kd, gd, ln, st) : PQ)) h3
theorem pAT {cnt : Int} {kd gd ln st : Int → Int} {c : Int} : pStep (AT cnt) cnt kd gd ln st c = if cnt = 0 then pFun cnt kd gd ln st c else if c = 59 then pFun cnt kd gd ln st c else pStp cnt kd gd ln st c := by
  unfold AT
  by_cases h : cnt = 0
  · rw [if_pos h, if_pos h, pS_1 rfl]
  · rw [if_neg h, if_neg h, pS_4 (by decide)]
set_option maxHeartbeats 4000000 in
set_option maxRecDepth 100000 in
theorem c_X7_in (l : Launch) (D : va_G) (cI cS : ClassId) (sz : Nat) (v : Int) (lo : Int) (hi : Int) (hv : -9223372036854775808 ≤ v ∧ v < 9223372036854775808) (hlo : -9223372036854775808 ≤ lo ∧ lo < 9223372036854775808) (hhi : -9223372036854775808 ≤ hi ∧ hi < 9223372036854775808) : Met l yX7_in wsX7_in ({ frames := 0, cells := 0, slots := 0, locals := 0 }) (cP D cI cS ([] : va_W) sz [.long (lI v), .long (lI lo), .long (lI hi)]) (va_Qi (fun (r : Int32) (u : Unit) => r = iI (if lo ≤ v ∧ v ≤ hi then 1 else 0)) (fun (u : Unit) t => cB D (va_A ([] : va_W) sz) ([] : va_W) t) (va_A ([] : va_W) sz)) 0 0 (va_A ([] : va_W) sz) := by
  refine Met.ofW (cc := cX7_in) (maxL := 6) (ret := (some .boolean)) (by decide) rfl ?_
  intro p e s m args below meth c_ s₁ B hml hv
  obtain ⟨rfl, hsz, hP, hK, hD0⟩ := hv
  have hx := B.exec
  have hb := B.bytes
  have hr := B.returns
  have hts := atoms_spec (ws := wsX7_in) B.pre
  have hown : s.vm.findClass RX7 = some m.cls := findClass_of_methodNamed B.named
  have hlocks := B.notSynchronized
  subst hsz
  have hD := hD0.self (sz := s.heap.size)
  generalize hAe : va_A ([] : va_W) s.heap.size = A at hD ⊢
  have hA : ∀ q : Nat, s.heap.size ≤ q → A q := fun q h => by rw [← hAe]; exact Or.inr h
  have hS : va_S A s.heap s.heap [] := va_S.rf
  have hP : va_P D vwCl ([] : va_W) s.heap := hP
  have hl := lv_entry ([.long (lI v), .long (lI lo), .long (lI hi)] : List Value) (n := 6) (Nat.le_of_ble_eq_true rfl)
  rw [lg_entry_eq]
  generalize (lg_sl ([.long (lI v), .long (lI lo), .long (lI hi)] : List Value) ++ List.replicate (6 - (lg_sl ([.long (lI v), .long (lI lo), .long (lI hi)] : List Value)).length) Slot.unset).toArray = ls at hl ⊢
  have hl : lv_has ls 6 [(0, .long (lI v)), (2, .long (lI lo)), (4, .long (lI hi))] := hl
  refine lv_lload_n hx hb dX7_in_0 rfl (lv_at hl 0 rfl) ?_
  refine lv_lload_n hx hb dX7_in_1 rfl (lv_at hl 1 rfl) ?_
  refine n_lcmp_lt (tgt := 17) hx hb dX7_in_2 dX7_in_3 (by decide) (by omega) (fun c_1 => ?_) (fun c_1 => ?_)
  ·
    refine lv_iconst (v := iI 0) hx hb dX7_in_17 (by decide +kernel) ?_
    exact W.zret (v := iI 0) (ty := .boolean) hx hb hr (by decide +kernel) (fun t ht hW => ⟨⟨_, (), rfl, congrArg iI (show 0 = (if lo ≤ v ∧ v ≤ hi then 1 else 0) from (by omega)), by rw [ht]; exact hP, hD⟩, hS.F ht⟩) hS.2.2 dX7_in_18
  ·
    refine lv_lload_n hx hb dX7_in_6 rfl (lv_at hl 0 rfl) ?_
    refine lv_lload hx hb dX7_in_7 (lv_at hl 2 rfl) ?_
    refine n_lcmp_gt (tgt := 17) hx hb dX7_in_9 dX7_in_10 (by decide) (by omega) (fun c_2 => ?_) (fun c_2 => ?_)
    ·
      refine lv_iconst (v := iI 0) hx hb dX7_in_17 (by decide +kernel) ?_
      exact W.zret (v := iI 0) (ty := .boolean) hx hb hr (by decide +kernel) (fun t ht hW => ⟨⟨_, (), rfl, congrArg iI (show 0 = (if lo ≤ v ∧ v ≤ hi then 1 else 0) from (by omega)), by rw [ht]; exact hP, hD⟩, hS.F ht⟩) hS.2.2 dX7_in_18
    ·
      refine lv_iconst (v := iI 1) hx hb dX7_in_13 (by decide +kernel) ?_
      refine lv_goto (tgt := 18) hx hb dX7_in_14 (by decide) ?_
      exact W.zret (v := iI 1) (ty := .boolean) hx hb hr (by decide +kernel) (fun t ht hW => ⟨⟨_, (), rfl, congrArg iI (show 1 = (if lo ≤ v ∧ v ≤ hi then 1 else 0) from (by omega)), by rw [ht]; exact hP, hD⟩, hS.F ht⟩) hS.2.2 dX7_in_18
set_option maxHeartbeats 4000000 in
set_option maxRecDepth 100000 in
theorem c_X7_lost (l : Launch) (D : va_G) (cI cS : ClassId) (sz : Nat)  : Met l yX7_lost wsX7_lost ({ frames := 0, cells := 0, slots := 0, locals := 0 }) (cP D cI cS ([] : va_W) sz []) (va_Ql (fun (r : Int64) (u : Unit) => r = lI (-9223372036854775808)) (fun (u : Unit) t => cB D (va_A ([] : va_W) sz) ([] : va_W) t) (va_A ([] : va_W) sz)) 0 0 (va_A ([] : va_W) sz) := by
  refine Met.ofW (cc := cX7_lost) (maxL := 0) (ret := (some .long)) (by decide) rfl ?_
  intro p e s m args below meth c_ s₁ B hml hv
  obtain ⟨rfl, hsz, hP, hK, hD0⟩ := hv
  have hx := B.exec
  have hb := B.bytes
  have hr := B.returns
  have hts := atoms_spec (ws := wsX7_lost) B.pre
  have hown : s.vm.findClass RX7 = some m.cls := findClass_of_methodNamed B.named
  have hlocks := B.notSynchronized
  subst hsz
  have hD := hD0.self (sz := s.heap.size)
  generalize hAe : va_A ([] : va_W) s.heap.size = A at hD ⊢
  have hA : ∀ q : Nat, s.heap.size ≤ q → A q := fun q h => by rw [← hAe]; exact Or.inr h
  have hS : va_S A s.heap s.heap [] := va_S.rf
  have hP : va_P D vwCl ([] : va_W) s.heap := hP
  have hl := lv_entry ([] : List Value) (n := 0) (Nat.le_of_ble_eq_true rfl)
  rw [lg_entry_eq]
  generalize (lg_sl ([] : List Value) ++ List.replicate (0 - (lg_sl ([] : List Value)).length) Slot.unset).toArray = ls at hl ⊢
  have hl : lv_has ls 0 [] := hl
  have ck_73 := hts (.constantLong RX7 73 (lI (-9223372036854775808))) (by decide +kernel)
  refine lv_ldc2 hx hb hown ck_73 dX7_lost_0 ?_
  exact W.lret (v := lI (-9223372036854775808)) hx hb hr (fun t ht hW => ⟨⟨_, (), rfl, rfl, by rw [ht]; exact hP, hD⟩, hS.F ht⟩) hS.2.2 dX7_lost_3
set_option maxHeartbeats 4000000 in
set_option maxRecDepth 100000 in
theorem c_X7_refused (l : Launch) (D : va_G) (cI cS : ClassId) (mA : Nat → Nat) (mf : Int) (mn : Int) (ml : Int) (mk : Int → Int) (mg : Int → Int) (mls : Int → Int) (ms : Int → Int) (mra : Int) (mrf : Int) (mrk : Int → Int) (mrg : Int → Int) (mrl : Int → Int) (mrs : Int → Int) (mo : Int) (moo : Int → Int) (moa : Int → Int) (mp : Int) (mpp : Int → Int) (mfi : Int) (mpl : Int) (mpo : Int → Int) (mro : Int → Int) (mdp : Int) (mdf : Int) (mhg : Int → Int) (mhk : Int → Int) (mR : Int) (mRf : Int → Int) (mRo : Int → Int) (mss : Int → Int) (msl : Int → Int) (msh : Int → Int) (mha : Int → Int) (mt : Int) (sz : Nat) (x : Int)  : Met l yX7_refused wsX7_refused ({ frames := 0, cells := 0, slots := 0, locals := 0 }) (cP D cI cS (W_M cI cS mA mf mn ml mk mg mls ms mra mrf mrk mrg mrl mrs mo moo moa mp mpp mfi mpl mpo mro mdp mdf mhg mhk mR mRf mRo mss msl msh mha mt) sz [.ref (mA 0), .int (iI x)]) (va_Qi (fun (r : Int32) (u : Unit) => r = iI x) (fun (u : Unit) t => cB D (va_A (W_M cI cS mA mf mn ml mk mg mls ms mra mrf mrk mrg mrl mrs mo moo moa mp mpp mfi mpl mpo mro mdp mdf mhg mhk mR mRf mRo mss msl msh mha mt) sz) (W_M cI cS mA 0 mn ml mk mg mls ms mra mrf mrk mrg mrl mrs mo moo moa mp mpp mfi mpl mpo mro mdp mdf mhg mhk mR mRf mRo mss msl msh mha mt) t) (va_A (W_M cI cS mA mf mn ml mk mg mls ms mra mrf mrk mrg mrl mrs mo moo moa mp mpp mfi mpl mpo mro mdp mdf mhg mhk mR mRf mRo mss msl msh mha mt) sz)) 0 0 (va_A (W_M cI cS mA mf mn ml mk mg mls ms mra mrf mrk mrg mrl mrs mo moo moa mp mpp mfi mpl mpo mro mdp mdf mhg mhk mR mRf mRo mss msl msh mha mt) sz) := by
  refine Met.ofW (cc := cX7_refused) (maxL := 2) (ret := (some .int)) (by decide) rfl ?_
  intro p e s m args below meth c_ s₁ B hml hv
  obtain ⟨rfl, hsz, hP, hK, hD0⟩ := hv
  have hx := B.exec
  have hb := B.bytes
  have hr := B.returns
  have hts := atoms_spec (ws := wsX7_refused) B.pre
  have hown : s.vm.findClass RX7 = some m.cls := findClass_of_methodNamed B.named
  have hlocks := B.notSynchronized
  subst hsz
  have hD := hD0.self (sz := s.heap.size)
  generalize hAe : va_A (W_M cI cS mA mf mn ml mk mg mls ms mra mrf mrk mrg mrl mrs mo moo moa mp mpp mfi mpl mpo mro mdp mdf mhg mhk mR mRf mRo mss msl msh mha mt) s.heap.size = A at hD ⊢
  have hA : ∀ q : Nat, s.heap.size ≤ q → A q := fun q h => by rw [← hAe]; exact Or.inr h
  have hS : va_S A s.heap s.heap [] := va_S.rf
  have hP : va_P D vwCl (W_M cI cS mA mf mn ml mk mg mls ms mra mrf mrk mrg mrl mrs mo moo moa mp mpp mfi mpl mpo mro mdp mdf mhg mhk mR mRf mRo mss msl msh mha mt) s.heap := hP
  have hl := lv_entry ([.ref (mA 0), .int (iI x)] : List Value) (n := 2) (Nat.le_of_ble_eq_true rfl)
  rw [lg_entry_eq]
  generalize (lg_sl ([.ref (mA 0), .int (iI x)] : List Value) ++ List.replicate (2 - (lg_sl ([.ref (mA 0), .int (iI x)] : List Value)).length) Slot.unset).toArray = ls at hl ⊢
  have hl : lv_has ls 2 [(0, .ref (mA 0)), (1, .int (iI x))] := hl
  have fl_75 := hts (.fieldLink RX7 75 "ActRowsModel" "fault" "I") (by decide +kernel)
  have iw_7 : ∀ w ∈ wsX70, w ∈ wsX7_refused := by decide +kernel
  refine lv_aload_n hx hb dX7_refused_0 rfl (lv_at hl 0 rfl) ?_
  refine lv_iconst (v := iI 0) hx hb dX7_refused_1 (by decide +kernel) ?_
  refine va_put (D := D) (ci := 7) (v := .int (iI 0)) (ty := .int) (C := RX7) (T := TX7) (N := 34) hx hb hts iw_7 tyX7 tyX7_ok nmX7 hown hK.1 hP hD hS 0 rfl rfl 0 (by decide) fl_75 (fun _ h9 => h9) rfl (by decide +kernel) rfl rfl (Nat.le_of_ble_eq_true rfl) dX7_refused_2 (fun H locs hP hD hS => ?_)
  have hP : va_P D vwCl (W_M cI cS mA 0 mn ml mk mg mls ms mra mrf mrk mrg mrl mrs mo moo moa mp mpp mfi mpl mpo mro mdp mdf mhg mhk mR mRf mRo mss msl msh mha mt) H := hP
  have hD : va_D A (W_M cI cS mA 0 mn ml mk mg mls ms mra mrf mrk mrg mrl mrs mo moo moa mp mpp mfi mpl mpo mro mdp mdf mhg mhk mR mRf mRo mss msl msh mha mt) := hD
  refine lv_iload_n hx hb dX7_refused_5 rfl (lv_at hl 1 rfl) ?_
  exact W.iret (v := iI x) hx hb hr (fun t ht hW => ⟨⟨_, (), rfl, rfl, by rw [ht]; exact hP, hD⟩, hS.F ht⟩) hS.2.2 dX7_refused_6
set_option maxHeartbeats 4000000 in
set_option maxRecDepth 100000 in
theorem c_X7_failed (l : Launch) (D : va_G) (cI cS : ClassId) (mA : Nat → Nat) (mf : Int) (mn : Int) (ml : Int) (mk : Int → Int) (mg : Int → Int) (mls : Int → Int) (ms : Int → Int) (mra : Int) (mrf : Int) (mrk : Int → Int) (mrg : Int → Int) (mrl : Int → Int) (mrs : Int → Int) (mo : Int) (moo : Int → Int) (moa : Int → Int) (mp : Int) (mpp : Int → Int) (mfi : Int) (mpl : Int) (mpo : Int → Int) (mro : Int → Int) (mdp : Int) (mdf : Int) (mhg : Int → Int) (mhk : Int → Int) (mR : Int) (mRf : Int → Int) (mRo : Int → Int) (mss : Int → Int) (msl : Int → Int) (msh : Int → Int) (mha : Int → Int) (mt : Int) (sz : Nat) (x : Int)  : Met l yX7_failed wsX7_failed ({ frames := 0, cells := 0, slots := 0, locals := 0 }) (cP D cI cS (W_M cI cS mA mf mn ml mk mg mls ms mra mrf mrk mrg mrl mrs mo moo moa mp mpp mfi mpl mpo mro mdp mdf mhg mhk mR mRf mRo mss msl msh mha mt) sz [.ref (mA 0), .int (iI x)]) (va_Qi (fun (r : Int32) (u : Unit) => r = iI ((-10) - x)) (fun (u : Unit) t => cB D (va_A (W_M cI cS mA mf mn ml mk mg mls ms mra mrf mrk mrg mrl mrs mo moo moa mp mpp mfi mpl mpo mro mdp mdf mhg mhk mR mRf mRo mss msl msh mha mt) sz) (W_M cI cS mA x mn ml mk mg mls ms mra mrf mrk mrg mrl mrs mo moo moa mp mpp mfi mpl mpo mro mdp mdf mhg mhk mR mRf mRo mss msl msh mha mt) t) (va_A (W_M cI cS mA mf mn ml mk mg mls ms mra mrf mrk mrg mrl mrs mo moo moa mp mpp mfi mpl mpo mro mdp mdf mhg mhk mR mRf mRo mss msl msh mha mt) sz)) 0 0 (va_A (W_M cI cS mA mf mn ml mk mg mls ms mra mrf mrk mrg mrl mrs mo moo moa mp mpp mfi mpl mpo mro mdp mdf mhg mhk mR mRf mRo mss msl msh mha mt) sz) := by
  refine Met.ofW (cc := cX7_failed) (maxL := 2) (ret := (some .int)) (by decide) rfl ?_
  intro p e s m args below meth c_ s₁ B hml hv
  obtain ⟨rfl, hsz, hP, hK, hD0⟩ := hv
  have hx := B.exec
  have hb := B.bytes
  have hr := B.returns
  have hts := atoms_spec (ws := wsX7_failed) B.pre
  have hown : s.vm.findClass RX7 = some m.cls := findClass_of_methodNamed B.named
  have hlocks := B.notSynchronized
  subst hsz
  have hD := hD0.self (sz := s.heap.size)
  generalize hAe : va_A (W_M cI cS mA mf mn ml mk mg mls ms mra mrf mrk mrg mrl mrs mo moo moa mp mpp mfi mpl mpo mro mdp mdf mhg mhk mR mRf mRo mss msl msh mha mt) s.heap.size = A at hD ⊢
  have hA : ∀ q : Nat, s.heap.size ≤ q → A q := fun q h => by rw [← hAe]; exact Or.inr h
  have hS : va_S A s.heap s.heap [] := va_S.rf
  have hP : va_P D vwCl (W_M cI cS mA mf mn ml mk mg mls ms mra mrf mrk mrg mrl mrs mo moo moa mp mpp mfi mpl mpo mro mdp mdf mhg mhk mR mRf mRo mss msl msh mha mt) s.heap := hP
  have hl := lv_entry ([.ref (mA 0), .int (iI x)] : List Value) (n := 2) (Nat.le_of_ble_eq_true rfl)
  rw [lg_entry_eq]
  generalize (lg_sl ([.ref (mA 0), .int (iI x)] : List Value) ++ List.replicate (2 - (lg_sl ([.ref (mA 0), .int (iI x)] : List Value)).length) Slot.unset).toArray = ls at hl ⊢
  have hl : lv_has ls 2 [(0, .ref (mA 0)), (1, .int (iI x))] := hl
  have fl_75 := hts (.fieldLink RX7 75 "ActRowsModel" "fault" "I") (by decide +kernel)
  have iw_7 : ∀ w ∈ wsX70, w ∈ wsX7_failed := by decide +kernel
  refine lv_aload_n hx hb dX7_failed_0 rfl (lv_at hl 0 rfl) ?_
  refine lv_iload_n hx hb dX7_failed_1 rfl (lv_at hl 1 rfl) ?_
  refine va_put (D := D) (ci := 7) (v := .int (iI x)) (ty := .int) (C := RX7) (T := TX7) (N := 34) hx hb hts iw_7 tyX7 tyX7_ok nmX7 hown hK.1 hP hD hS 0 rfl rfl 0 (by decide) fl_75 (fun _ h9 => h9) rfl (by decide +kernel) rfl rfl (Nat.le_of_ble_eq_true rfl) dX7_failed_2 (fun H locs hP hD hS => ?_)
  have hP : va_P D vwCl (W_M cI cS mA x mn ml mk mg mls ms mra mrf mrk mrg mrl mrs mo moo moa mp mpp mfi mpl mpo mro mdp mdf mhg mhk mR mRf mRo mss msl msh mha mt) H := hP
  have hD : va_D A (W_M cI cS mA x mn ml mk mg mls ms mra mrf mrk mrg mrl mrs mo moo moa mp mpp mfi mpl mpo mro mdp mdf mhg mhk mR mRf mRo mss msl msh mha mt) := hD
  refine lv_bipush (v := iI (-10)) hx hb dX7_failed_5 (by decide +kernel) ?_
  refine lv_iload_n hx hb dX7_failed_7 rfl (lv_at hl 1 rfl) ?_
  refine n_isub hx hb dX7_failed_8 ?_
  exact W.iret (v := iI ((-10) - x)) hx hb hr (fun t ht hW => ⟨⟨_, (), rfl, rfl, by rw [ht]; exact hP, hD⟩, hS.F ht⟩) hS.2.2 dX7_failed_9
set_option maxHeartbeats 4000000 in
set_option maxRecDepth 100000 in
theorem c_X7_failedLong (l : Launch) (D : va_G) (cI cS : ClassId) (mA : Nat → Nat) (mf : Int) (mn : Int) (ml : Int) (mk : Int → Int) (mg : Int → Int) (mls : Int → Int) (ms : Int → Int) (mra : Int) (mrf : Int) (mrk : Int → Int) (mrg : Int → Int) (mrl : Int → Int) (mrs : Int → Int) (mo : Int) (moo : Int → Int) (moa : Int → Int) (mp : Int) (mpp : Int → Int) (mfi : Int) (mpl : Int) (mpo : Int → Int) (mro : Int → Int) (mdp : Int) (mdf : Int) (mhg : Int → Int) (mhk : Int → Int) (mR : Int) (mRf : Int → Int) (mRo : Int → Int) (mss : Int → Int) (msl : Int → Int) (msh : Int → Int) (mha : Int → Int) (mt : Int) (sz : Nat) (x : Int)  : Met l yX7_failedLong wsX7_failedLong ({ frames := 1, cells := 0, slots := 0, locals := 19 }) (cP D cI cS (W_M cI cS mA mf mn ml mk mg mls ms mra mrf mrk mrg mrl mrs mo moo moa mp mpp mfi mpl mpo mro mdp mdf mhg mhk mR mRf mRo mss msl msh mha mt) sz [.ref (mA 0), .int (iI x)]) (va_Ql (fun (r : Int64) (u : Unit) => r = lI (-9223372036854775808)) (fun (u : Unit) t => cB D (va_A (W_M cI cS mA mf mn ml mk mg mls ms mra mrf mrk mrg mrl mrs mo moo moa mp mpp mfi mpl mpo mro mdp mdf mhg mhk mR mRf mRo mss msl msh mha mt) sz) (W_M cI cS mA x mn ml mk mg mls ms mra mrf mrk mrg mrl mrs mo moo moa mp mpp mfi mpl mpo mro mdp mdf mhg mhk mR mRf mRo mss msl msh mha mt) t) (va_A (W_M cI cS mA mf mn ml mk mg mls ms mra mrf mrk mrg mrl mrs mo moo moa mp mpp mfi mpl mpo mro mdp mdf mhg mhk mR mRf mRo mss msl msh mha mt) sz)) 0 0 (va_A (W_M cI cS mA mf mn ml mk mg mls ms mra mrf mrk mrg mrl mrs mo moo moa mp mpp mfi mpl mpo mro mdp mdf mhg mhk mR mRf mRo mss msl msh mha mt) sz) := by
  refine Met.ofW (cc := cX7_failedLong) (maxL := 2) (ret := (some .long)) (by decide) rfl ?_
  intro p e s m args below meth c_ s₁ B hml hv
  obtain ⟨rfl, hsz, hP, hK, hD0⟩ := hv
  have hx := B.exec
  have hb := B.bytes
  have hr := B.returns
  have hts := atoms_spec (ws := wsX7_failedLong) B.pre
  have hown : s.vm.findClass RX7 = some m.cls := findClass_of_methodNamed B.named
  have hlocks := B.notSynchronized
  subst hsz
  have hD := hD0.self (sz := s.heap.size)
  generalize hAe : va_A (W_M cI cS mA mf mn ml mk mg mls ms mra mrf mrk mrg mrl mrs mo moo moa mp mpp mfi mpl mpo mro mdp mdf mhg mhk mR mRf mRo mss msl msh mha mt) s.heap.size = A at hD ⊢
  have hA : ∀ q : Nat, s.heap.size ≤ q → A q := fun q h => by rw [← hAe]; exact Or.inr h
  have hS : va_S A s.heap s.heap [] := va_S.rf
  have hP : va_P D vwCl (W_M cI cS mA mf mn ml mk mg mls ms mra mrf mrk mrg mrl mrs mo moo moa mp mpp mfi mpl mpo mro mdp mdf mhg mhk mR mRf mRo mss msl msh mha mt) s.heap := hP
  have hl := lv_entry ([.ref (mA 0), .int (iI x)] : List Value) (n := 2) (Nat.le_of_ble_eq_true rfl)
  rw [lg_entry_eq]
  generalize (lg_sl ([.ref (mA 0), .int (iI x)] : List Value) ++ List.replicate (2 - (lg_sl ([.ref (mA 0), .int (iI x)] : List Value)).length) Slot.unset).toArray = ls at hl ⊢
  have hl : lv_has ls 2 [(0, .ref (mA 0)), (1, .int (iI x))] := hl
  have fl_75 := hts (.fieldLink RX7 75 "ActRowsModel" "fault" "I") (by decide +kernel)
  have iw_7 : ∀ w ∈ wsX70, w ∈ wsX7_failedLong := by decide +kernel
  refine lv_aload_n hx hb dX7_failedLong_0 rfl (lv_at hl 0 rfl) ?_
  refine lv_iload_n hx hb dX7_failedLong_1 rfl (lv_at hl 1 rfl) ?_
  refine va_put (D := D) (ci := 7) (v := .int (iI x)) (ty := .int) (C := RX7) (T := TX7) (N := 34) hx hb hts iw_7 tyX7 tyX7_ok nmX7 hown hK.1 hP hD hS 0 rfl rfl 0 (by decide) fl_75 (fun _ h9 => h9) rfl (by decide +kernel) rfl rfl (Nat.le_of_ble_eq_true rfl) dX7_failedLong_2 (fun H locs hP hD hS => ?_)
  have hP : va_P D vwCl (W_M cI cS mA x mn ml mk mg mls ms mra mrf mrk mrg mrl mrs mo moo moa mp mpp mfi mpl mpo mro mdp mdf mhg mhk mR mRf mRo mss msl msh mha mt) H := hP
  have hD : va_D A (W_M cI cS mA x mn ml mk mg mls ms mra mrf mrk mrg mrl mrs mo moo moa mp mpp mfi mpl mpo mro mdp mdf mhg mhk mR mRf mRo mss msl msh mha mt) := hD
  refine x_callSl (As := []) (rest := []) ⟨hx, hb, hml, hown, hts⟩ (c_X7_lost l D cI cS H.size) (va_cwS 0 hts gX7_failedLong_X7_lost rfl rfl rfl (by decide +kernel) ⟨Nat.le_of_ble_eq_true rfl, Nat.le_of_ble_eq_true rfl⟩) hK hP hD hS hA [] [0, 1, 2, 3, 4, 5, 6, 7, 8, 9, 10, 11, 12, 13, 14, 15, 16, 17, 18, 19, 20, 21] (wr := [(mA 0, .inr (7, [.int (iI x), .int (iI mn), .int (iI ml), .ref (mA 1), .ref (mA 2), .ref (mA 3), .ref (mA 4), .int (iI mra), .int (iI mrf), .ref (mA 5), .ref (mA 6), .ref (mA 7), .ref (mA 8), .int (iI mo), .ref (mA 9), .ref (mA 10), .int (iI mp), .ref (mA 11), .int (iI mfi), .int (iI mpl), .ref (mA 12), .ref (mA 13), .int (iI mdp), .int (iI mdf), .ref (mA 14), .ref (mA 15), .int (iI mR), .ref (mA 16), .ref (mA 17), .ref (mA 18), .ref (mA 19), .ref (mA 20), .ref (mA 21), .int (iI mt)])), (mA 1, .inl (cI, 5, .inl (aI mk))), (mA 2, .inl (cI, 5, .inl (aI mg))), (mA 3, .inl (cI, 5, .inl (aI mls))), (mA 4, .inl (cI, 20, .inl (aI ms))), (mA 5, .inl (cI, 5, .inl (aI mrk))), (mA 6, .inl (cI, 5, .inl (aI mrg))), (mA 7, .inl (cI, 5, .inl (aI mrl))), (mA 8, .inl (cI, 20, .inl (aI mrs))), (mA 9, .inl (cI, 5, .inl (aI moo))), (mA 10, .inl (cI, 5, .inl (aI moa))), (mA 11, .inl (cI, 1024, .inl (aI mpp))), (mA 12, .inl (cI, 5, .inl (aI mpo))), (mA 13, .inl (cI, 5, .inl (aI mro))), (mA 14, .inl (cI, 5, .inl (aI mhg))), (mA 15, .inl (cI, 5, .inl (aI mhk))), (mA 16, .inl (cI, 8, .inl (aI mRf))), (mA 17, .inl (cI, 8, .inl (aI mRo))), (mA 18, .inl (cI, 4, .inl (aI mss))), (mA 19, .inl (cI, 4, .inl (aI msl))), (mA 20, .inl (cI, 240, .inl (aI msh))), (mA 21, .inl (cI, 60, .inl (aI mha)))]) rfl rfl (by decide) (by decide) (by decide) [0, 1, 2, 3, 4, 5, 6, 7, 8, 9, 10, 11, 12, 13, 14, 15, 16, 17, 18, 19, 20, 21] (fun (u : Unit) => (W_M cI cS mA x mn ml mk mg mls ms mra mrf mrk mrg mrl mrs mo moo moa mp mpp mfi mpl mpo mro mdp mdf mhg mhk mR mRf mRo mss msl msh mha mt)) (fun _ => rfl) (by decide) rfl hl.1 rfl (Nat.le_of_ble_eq_true rfl) ⟨Nat.zero_le _, Nat.zero_le _⟩ dX7_failedLong_5 (fun r_ u_ H locs hw hP hD hS => ?_)
  try dsimp only at hw
  subst hw
  have hP : va_P D vwCl (W_M cI cS mA x mn ml mk mg mls ms mra mrf mrk mrg mrl mrs mo moo moa mp mpp mfi mpl mpo mro mdp mdf mhg mhk mR mRf mRo mss msl msh mha mt) H := hP
  have hD : va_D A (W_M cI cS mA x mn ml mk mg mls ms mra mrf mrk mrg mrl mrs mo moo moa mp mpp mfi mpl mpo mro mdp mdf mhg mhk mR mRf mRo mss msl msh mha mt) := hD
  exact W.lret (v := lI (-9223372036854775808)) hx hb hr (fun t ht hW => ⟨⟨_, (), rfl, rfl, by rw [ht]; exact hP, hD⟩, hS.F ht⟩) hS.2.2 dX7_failedLong_8
set_option maxHeartbeats 4000000 in
set_option maxRecDepth 100000 in
theorem c_X7_noFunction (l : Launch) (D : va_G) (cI cS : ClassId) (mA : Nat → Nat) (mf : Int) (mn : Int) (ml : Int) (mk : Int → Int) (mg : Int → Int) (mls : Int → Int) (ms : Int → Int) (mra : Int) (mrf : Int) (mrk : Int → Int) (mrg : Int → Int) (mrl : Int → Int) (mrs : Int → Int) (mo : Int) (moo : Int → Int) (moa : Int → Int) (mp : Int) (mpp : Int → Int) (mfi : Int) (mpl : Int) (mpo : Int → Int) (mro : Int → Int) (mdp : Int) (mdf : Int) (mhg : Int → Int) (mhk : Int → Int) (mR : Int) (mRf : Int → Int) (mRo : Int → Int) (mss : Int → Int) (msl : Int → Int) (msh : Int → Int) (mha : Int → Int) (mt : Int) (sz : Nat) (f : Int) (hmn : 0 ≤ mn ∧ mn ≤ 5) (hfr : -2147483648 ≤ f ∧ f < 2147483648) : Met l yX7_noFunction wsX7_noFunction ({ frames := 1, cells := 0, slots := 0, locals := 25 }) (cP D cI cS (W_M cI cS mA mf mn ml mk mg mls ms mra mrf mrk mrg mrl mrs mo moo moa mp mpp mfi mpl mpo mro mdp mdf mhg mhk mR mRf mRo mss msl msh mha mt) sz [.ref (mA 0), .int (iI f)]) (va_Qi (fun (r : Int32) (u : Unit) => r = iI (if ¬ (0 ≤ f ∧ f < mn) then 1 else 0)) (fun (u : Unit) t => cB D (va_A (W_M cI cS mA mf mn ml mk mg mls ms mra mrf mrk mrg mrl mrs mo moo moa mp mpp mfi mpl mpo mro mdp mdf mhg mhk mR mRf mRo mss msl msh mha mt) sz) (W_M cI cS mA mf mn ml mk mg mls ms mra mrf mrk mrg mrl mrs mo moo moa mp mpp mfi mpl mpo mro mdp mdf mhg mhk mR mRf mRo mss msl msh mha mt) t) (va_A (W_M cI cS mA mf mn ml mk mg mls ms mra mrf mrk mrg mrl mrs mo moo moa mp mpp mfi mpl mpo mro mdp mdf mhg mhk mR mRf mRo mss msl msh mha mt) sz)) 0 0 (va_A (W_M cI cS mA mf mn ml mk mg mls ms mra mrf mrk mrg mrl mrs mo moo moa mp mpp mfi mpl mpo mro mdp mdf mhg mhk mR mRf mRo mss msl msh mha mt) sz) := by
  refine Met.ofW (cc := cX7_noFunction) (maxL := 2) (ret := (some .boolean)) (by decide) rfl ?_
  intro p e s m args below meth c_ s₁ B hml hv
  obtain ⟨rfl, hsz, hP, hK, hD0⟩ := hv
  have hx := B.exec
  have hb := B.bytes
  have hr := B.returns
  have hts := atoms_spec (ws := wsX7_noFunction) B.pre
  have hown : s.vm.findClass RX7 = some m.cls := findClass_of_methodNamed B.named
  have hlocks := B.notSynchronized
  subst hsz
  have hD := hD0.self (sz := s.heap.size)
  generalize hAe : va_A (W_M cI cS mA mf mn ml mk mg mls ms mra mrf mrk mrg mrl mrs mo moo moa mp mpp mfi mpl mpo mro mdp mdf mhg mhk mR mRf mRo mss msl msh mha mt) s.heap.size = A at hD ⊢
  have hA : ∀ q : Nat, s.heap.size ≤ q → A q := fun q h => by rw [← hAe]; exact Or.inr h
  have hS : va_S A s.heap s.heap [] := va_S.rf
  have hP : va_P D vwCl (W_M cI cS mA mf mn ml mk mg mls ms mra mrf mrk mrg mrl mrs mo moo moa mp mpp mfi mpl mpo mro mdp mdf mhg mhk mR mRf mRo mss msl msh mha mt) s.heap := hP
  have hl := lv_entry ([.ref (mA 0), .int (iI f)] : List Value) (n := 2) (Nat.le_of_ble_eq_true rfl)
  rw [lg_entry_eq]
  generalize (lg_sl ([.ref (mA 0), .int (iI f)] : List Value) ++ List.replicate (2 - (lg_sl ([.ref (mA 0), .int (iI f)] : List Value)).length) Slot.unset).toArray = ls at hl ⊢
  have hl : lv_has ls 2 [(0, .ref (mA 0)), (1, .int (iI f))] := hl
  have fl_83 := hts (.fieldLink RX7 83 "ActRowsModel" "functions" "I") (by decide +kernel)
  have iw_7 : ∀ w ∈ wsX70, w ∈ wsX7_noFunction := by decide +kernel
  refine lv_iload_n hx hb dX7_noFunction_0 rfl (lv_at hl 1 rfl) ?_
  refine n_i2l hx hb (by omega) dX7_noFunction_1 ?_
  refine lv_lconst (v := lI 0) hx hb dX7_noFunction_2 (by decide +kernel) ?_
  refine lv_aload_n hx hb dX7_noFunction_3 rfl (lv_at hl 0 rfl) ?_
  refine va_get (D := D) (ci := 7) (v := .int (iI mn)) (C := RX7) (T := TX7) (N := 34) hx hb hts iw_7 hown hK.1 hP 0 rfl rfl 1 (by decide) fl_83 (fun _ h9 => h9) rfl dX7_noFunction_4 ?_
  refine n_i2l hx hb (by omega) dX7_noFunction_7 ?_
  refine lv_lconst (v := lI 1) hx hb dX7_noFunction_8 (by decide +kernel) ?_
  refine n_lsub hx hb dX7_noFunction_9 ?_
  refine x_callSi (As := [.long (lI f), .long (lI 0), .long (lI (mn - 1))]) (rest := []) ⟨hx, hb, hml, hown, hts⟩ (c_X7_in l D cI cS s.heap.size f 0 (mn - 1) (by first | assumption | omega) (by first | assumption | omega) (by first | assumption | omega)) (va_cwS 3 hts gX7_noFunction_X7_in rfl rfl rfl (by decide +kernel) ⟨Nat.le_of_ble_eq_true rfl, Nat.le_of_ble_eq_true rfl⟩) hK hP hD hS hA [] [0, 1, 2, 3, 4, 5, 6, 7, 8, 9, 10, 11, 12, 13, 14, 15, 16, 17, 18, 19, 20, 21] (wr := [(mA 0, .inr (7, [.int (iI mf), .int (iI mn), .int (iI ml), .ref (mA 1), .ref (mA 2), .ref (mA 3), .ref (mA 4), .int (iI mra), .int (iI mrf), .ref (mA 5), .ref (mA 6), .ref (mA 7), .ref (mA 8), .int (iI mo), .ref (mA 9), .ref (mA 10), .int (iI mp), .ref (mA 11), .int (iI mfi), .int (iI mpl), .ref (mA 12), .ref (mA 13), .int (iI mdp), .int (iI mdf), .ref (mA 14), .ref (mA 15), .int (iI mR), .ref (mA 16), .ref (mA 17), .ref (mA 18), .ref (mA 19), .ref (mA 20), .ref (mA 21), .int (iI mt)])), (mA 1, .inl (cI, 5, .inl (aI mk))), (mA 2, .inl (cI, 5, .inl (aI mg))), (mA 3, .inl (cI, 5, .inl (aI mls))), (mA 4, .inl (cI, 20, .inl (aI ms))), (mA 5, .inl (cI, 5, .inl (aI mrk))), (mA 6, .inl (cI, 5, .inl (aI mrg))), (mA 7, .inl (cI, 5, .inl (aI mrl))), (mA 8, .inl (cI, 20, .inl (aI mrs))), (mA 9, .inl (cI, 5, .inl (aI moo))), (mA 10, .inl (cI, 5, .inl (aI moa))), (mA 11, .inl (cI, 1024, .inl (aI mpp))), (mA 12, .inl (cI, 5, .inl (aI mpo))), (mA 13, .inl (cI, 5, .inl (aI mro))), (mA 14, .inl (cI, 5, .inl (aI mhg))), (mA 15, .inl (cI, 5, .inl (aI mhk))), (mA 16, .inl (cI, 8, .inl (aI mRf))), (mA 17, .inl (cI, 8, .inl (aI mRo))), (mA 18, .inl (cI, 4, .inl (aI mss))), (mA 19, .inl (cI, 4, .inl (aI msl))), (mA 20, .inl (cI, 240, .inl (aI msh))), (mA 21, .inl (cI, 60, .inl (aI mha)))]) rfl rfl (by decide) (by decide) (by decide) [0, 1, 2, 3, 4, 5, 6, 7, 8, 9, 10, 11, 12, 13, 14, 15, 16, 17, 18, 19, 20, 21] (fun (u : Unit) => (W_M cI cS mA mf mn ml mk mg mls ms mra mrf mrk mrg mrl mrs mo moo moa mp mpp mfi mpl mpo mro mdp mdf mhg mhk mR mRf mRo mss msl msh mha mt)) (fun _ => rfl) (by decide) rfl hl.1 rfl (Nat.le_of_ble_eq_true rfl) ⟨Nat.zero_le _, Nat.zero_le _⟩ dX7_noFunction_10 (fun r_ u_ H locs hw hP hD hS => ?_)
  try dsimp only at hw
  subst hw
  have hP : va_P D vwCl (W_M cI cS mA mf mn ml mk mg mls ms mra mrf mrk mrg mrl mrs mo moo moa mp mpp mfi mpl mpo mro mdp mdf mhg mhk mR mRf mRo mss msl msh mha mt) H := hP
  have hD : va_D A (W_M cI cS mA mf mn ml mk mg mls ms mra mrf mrk mrg mrl mrs mo moo moa mp mpp mfi mpl mpo mro mdp mdf mhg mhk mR mRf mRo mss msl msh mha mt) := hD
  refine n_if_b2 (tgt := 20) hx hb dX7_noFunction_13 (by decide)  (fun c_1 => ?_) (fun c_1 => ?_)
  ·
    refine lv_iconst (v := iI 0) hx hb dX7_noFunction_20 (by decide +kernel) ?_
    exact W.zret (v := iI 0) (ty := .boolean) hx hb hr (by decide +kernel) (fun t ht hW => ⟨⟨_, (), rfl, congrArg iI (show 0 = (if ¬ (0 ≤ f ∧ f < mn) then 1 else 0) from (by omega)), by rw [ht]; exact hP, hD⟩, hS.F ht⟩) hS.2.2 dX7_noFunction_21
  ·
    refine lv_iconst (v := iI 1) hx hb dX7_noFunction_16 (by decide +kernel) ?_
    refine lv_goto (tgt := 21) hx hb dX7_noFunction_17 (by decide) ?_
    exact W.zret (v := iI 1) (ty := .boolean) hx hb hr (by decide +kernel) (fun t ht hW => ⟨⟨_, (), rfl, congrArg iI (show 1 = (if ¬ (0 ≤ f ∧ f < mn) then 1 else 0) from (by omega)), by rw [ht]; exact hP, hD⟩, hS.F ht⟩) hS.2.2 dX7_noFunction_21
set_option maxHeartbeats 4000000 in
set_option maxRecDepth 100000 in
theorem c_X7_isAct (l : Launch) (D : va_G) (cI cS : ClassId) (sz : Nat) (v : Int) (hv : -2147483648 ≤ v ∧ v < 2147483648) : Met l yX7_isAct wsX7_isAct ({ frames := 1, cells := 0, slots := 0, locals := 25 }) (cP D cI cS ([] : va_W) sz [.int (iI v)]) (va_Qi (fun (r : Int32) (u : Unit) => r = iI (if 0 ≤ v ∧ v < 4 then 1 else 0)) (fun (u : Unit) t => cB D (va_A ([] : va_W) sz) ([] : va_W) t) (va_A ([] : va_W) sz)) 0 0 (va_A ([] : va_W) sz) := by
  refine Met.ofW (cc := cX7_isAct) (maxL := 1) (ret := (some .boolean)) (by decide) rfl ?_
  intro p e s m args below meth c_ s₁ B hml hv
  obtain ⟨rfl, hsz, hP, hK, hD0⟩ := hv
  have hx := B.exec
  have hb := B.bytes
  have hr := B.returns
  have hts := atoms_spec (ws := wsX7_isAct) B.pre
  have hown : s.vm.findClass RX7 = some m.cls := findClass_of_methodNamed B.named
  have hlocks := B.notSynchronized
  subst hsz
  have hD := hD0.self (sz := s.heap.size)
  generalize hAe : va_A ([] : va_W) s.heap.size = A at hD ⊢
  have hA : ∀ q : Nat, s.heap.size ≤ q → A q := fun q h => by rw [← hAe]; exact Or.inr h
  have hS : va_S A s.heap s.heap [] := va_S.rf
  have hP : va_P D vwCl ([] : va_W) s.heap := hP
  have hl := lv_entry ([.int (iI v)] : List Value) (n := 1) (Nat.le_of_ble_eq_true rfl)
  rw [lg_entry_eq]
  generalize (lg_sl ([.int (iI v)] : List Value) ++ List.replicate (1 - (lg_sl ([.int (iI v)] : List Value)).length) Slot.unset).toArray = ls at hl ⊢
  have hl : lv_has ls 1 [(0, .int (iI v))] := hl
  have ck_108 := hts (.constantLong RX7 108 (lI 3)) (by decide +kernel)
  refine lv_iload_n hx hb dX7_isAct_0 rfl (lv_at hl 0 rfl) ?_
  refine n_i2l hx hb (by omega) dX7_isAct_1 ?_
  refine lv_lconst (v := lI 0) hx hb dX7_isAct_2 (by decide +kernel) ?_
  refine lv_ldc2 hx hb hown ck_108 dX7_isAct_3 ?_
  refine x_callSi (As := [.long (lI v), .long (lI 0), .long (lI 3)]) (rest := []) ⟨hx, hb, hml, hown, hts⟩ (c_X7_in l D cI cS s.heap.size v 0 3 (by first | assumption | omega) (by first | assumption | omega) (by first | assumption | omega)) (va_cwS 3 hts gX7_isAct_X7_in rfl rfl rfl (by decide +kernel) ⟨Nat.le_of_ble_eq_true rfl, Nat.le_of_ble_eq_true rfl⟩) hK hP hD hS hA [] [] (wr := ([] : va_W)) rfl rfl (by decide) (by decide) (by decide) [] (fun (u : Unit) => ([] : va_W)) (fun _ => rfl) (by decide) rfl hl.1 rfl (Nat.le_of_ble_eq_true rfl) ⟨Nat.zero_le _, Nat.zero_le _⟩ dX7_isAct_6 (fun r_ u_ H locs hw hP hD hS => ?_)
  try dsimp only at hw
  subst hw
  have hP : va_P D vwCl ([] : va_W) H := hP
  have hD : va_D A ([] : va_W) := hD
  exact W.zret (v := iI (if 0 ≤ v ∧ v ≤ 3 then 1 else 0)) (ty := .boolean) hx hb hr (by split <;> decide +kernel) (fun t ht hW => ⟨⟨_, (), rfl, congrArg iI (show (if 0 ≤ v ∧ v ≤ 3 then 1 else 0) = (if 0 ≤ v ∧ v < 4 then 1 else 0) from (by omega)), by rw [ht]; exact hP, hD⟩, hS.F ht⟩) hS.2.2 dX7_isAct_9
set_option maxHeartbeats 4000000 in
set_option maxRecDepth 100000 in
theorem c_X7_noSheet (l : Launch) (D : va_G) (cI cS : ClassId) (sz : Nat) (v : Int) (hv : -2147483648 ≤ v ∧ v < 2147483648) : Met l yX7_noSheet wsX7_noSheet ({ frames := 1, cells := 0, slots := 0, locals := 25 }) (cP D cI cS ([] : va_W) sz [.int (iI v)]) (va_Qi (fun (r : Int32) (u : Unit) => r = iI (if ¬ (0 ≤ v ∧ v < 4) then 1 else 0)) (fun (u : Unit) t => cB D (va_A ([] : va_W) sz) ([] : va_W) t) (va_A ([] : va_W) sz)) 0 0 (va_A ([] : va_W) sz) := by
  refine Met.ofW (cc := cX7_noSheet) (maxL := 1) (ret := (some .boolean)) (by decide) rfl ?_
  intro p e s m args below meth c_ s₁ B hml hv
  obtain ⟨rfl, hsz, hP, hK, hD0⟩ := hv
  have hx := B.exec
  have hb := B.bytes
  have hr := B.returns
  have hts := atoms_spec (ws := wsX7_noSheet) B.pre
  have hown : s.vm.findClass RX7 = some m.cls := findClass_of_methodNamed B.named
  have hlocks := B.notSynchronized
  subst hsz
  have hD := hD0.self (sz := s.heap.size)
  generalize hAe : va_A ([] : va_W) s.heap.size = A at hD ⊢
  have hA : ∀ q : Nat, s.heap.size ≤ q → A q := fun q h => by rw [← hAe]; exact Or.inr h
  have hS : va_S A s.heap s.heap [] := va_S.rf
  have hP : va_P D vwCl ([] : va_W) s.heap := hP
  have hl := lv_entry ([.int (iI v)] : List Value) (n := 1) (Nat.le_of_ble_eq_true rfl)
  rw [lg_entry_eq]
  generalize (lg_sl ([.int (iI v)] : List Value) ++ List.replicate (1 - (lg_sl ([.int (iI v)] : List Value)).length) Slot.unset).toArray = ls at hl ⊢
  have hl : lv_has ls 1 [(0, .int (iI v))] := hl
  have ck_108 := hts (.constantLong RX7 108 (lI 3)) (by decide +kernel)
  refine lv_iload_n hx hb dX7_noSheet_0 rfl (lv_at hl 0 rfl) ?_
  refine n_i2l hx hb (by omega) dX7_noSheet_1 ?_
  refine lv_lconst (v := lI 0) hx hb dX7_noSheet_2 (by decide +kernel) ?_
  refine lv_ldc2 hx hb hown ck_108 dX7_noSheet_3 ?_
  refine x_callSi (As := [.long (lI v), .long (lI 0), .long (lI 3)]) (rest := []) ⟨hx, hb, hml, hown, hts⟩ (c_X7_in l D cI cS s.heap.size v 0 3 (by first | assumption | omega) (by first | assumption | omega) (by first | assumption | omega)) (va_cwS 3 hts gX7_noSheet_X7_in rfl rfl rfl (by decide +kernel) ⟨Nat.le_of_ble_eq_true rfl, Nat.le_of_ble_eq_true rfl⟩) hK hP hD hS hA [] [] (wr := ([] : va_W)) rfl rfl (by decide) (by decide) (by decide) [] (fun (u : Unit) => ([] : va_W)) (fun _ => rfl) (by decide) rfl hl.1 rfl (Nat.le_of_ble_eq_true rfl) ⟨Nat.zero_le _, Nat.zero_le _⟩ dX7_noSheet_6 (fun r_ u_ H locs hw hP hD hS => ?_)
  try dsimp only at hw
  subst hw
  have hP : va_P D vwCl ([] : va_W) H := hP
  have hD : va_D A ([] : va_W) := hD
  refine n_if_b2 (tgt := 16) hx hb dX7_noSheet_9 (by decide)  (fun c_1 => ?_) (fun c_1 => ?_)
  ·
    refine lv_iconst (v := iI 0) hx hb dX7_noSheet_16 (by decide +kernel) ?_
    exact W.zret (v := iI 0) (ty := .boolean) hx hb hr (by decide +kernel) (fun t ht hW => ⟨⟨_, (), rfl, congrArg iI (show 0 = (if ¬ (0 ≤ v ∧ v < 4) then 1 else 0) from (by omega)), by rw [ht]; exact hP, hD⟩, hS.F ht⟩) hS.2.2 dX7_noSheet_17
  ·
    refine lv_iconst (v := iI 1) hx hb dX7_noSheet_12 (by decide +kernel) ?_
    refine lv_goto (tgt := 17) hx hb dX7_noSheet_13 (by decide) ?_
    exact W.zret (v := iI 1) (ty := .boolean) hx hb hr (by decide +kernel) (fun t ht hW => ⟨⟨_, (), rfl, congrArg iI (show 1 = (if ¬ (0 ≤ v ∧ v < 4) then 1 else 0) from (by omega)), by rw [ht]; exact hP, hD⟩, hS.F ht⟩) hS.2.2 dX7_noSheet_17
set_option maxHeartbeats 4000000 in
set_option maxRecDepth 100000 in
theorem c_X7_isBeyond (l : Launch) (D : va_G) (cI cS : ClassId) (sz : Nat) (i : Int) (n : Int) (al : Int) (hi : -2147483648 ≤ i ∧ i < 2147483648) (hn : -9000000000000000000 ≤ n ∧ n < 9000000000000000000) (hal : -2147483648 ≤ al ∧ al < 2147483648) : Met l yX7_isBeyond wsX7_isBeyond ({ frames := 0, cells := 0, slots := 0, locals := 0 }) (cP D cI cS ([] : va_W) sz [.int (iI i), .long (lI n), .int (iI al)]) (va_Qi (fun (r : Int32) (u : Unit) => r = iI (if ¬ (0 ≤ i ∧ 0 ≤ n ∧ i + n ≤ al) then 1 else 0)) (fun (u : Unit) t => cB D (va_A ([] : va_W) sz) ([] : va_W) t) (va_A ([] : va_W) sz)) 0 0 (va_A ([] : va_W) sz) := by
  refine Met.ofW (cc := cX7_isBeyond) (maxL := 4) (ret := (some .boolean)) (by decide) rfl ?_
  intro p e s m args below meth c_ s₁ B hml hv
  obtain ⟨rfl, hsz, hP, hK, hD0⟩ := hv
  have hx := B.exec
  have hb := B.bytes
  have hr := B.returns
  have hts := atoms_spec (ws := wsX7_isBeyond) B.pre
  have hown : s.vm.findClass RX7 = some m.cls := findClass_of_methodNamed B.named
  have hlocks := B.notSynchronized
  subst hsz
  have hD := hD0.self (sz := s.heap.size)
  generalize hAe : va_A ([] : va_W) s.heap.size = A at hD ⊢
  have hA : ∀ q : Nat, s.heap.size ≤ q → A q := fun q h => by rw [← hAe]; exact Or.inr h
  have hS : va_S A s.heap s.heap [] := va_S.rf
  have hP : va_P D vwCl ([] : va_W) s.heap := hP
  have hl := lv_entry ([.int (iI i), .long (lI n), .int (iI al)] : List Value) (n := 4) (Nat.le_of_ble_eq_true rfl)
  rw [lg_entry_eq]
  generalize (lg_sl ([.int (iI i), .long (lI n), .int (iI al)] : List Value) ++ List.replicate (4 - (lg_sl ([.int (iI i), .long (lI n), .int (iI al)] : List Value)).length) Slot.unset).toArray = ls at hl ⊢
  have hl : lv_has ls 4 [(0, .int (iI i)), (1, .long (lI n)), (3, .int (iI al))] := hl
  refine lv_iload_n hx hb dX7_isBeyond_0 rfl (lv_at hl 0 rfl) ?_
  refine n_if_lt (tgt := 20) hx hb dX7_isBeyond_1 (by decide) (by omega) (fun c_1 => ?_) (fun c_1 => ?_)
  ·
    refine lv_iconst (v := iI 1) hx hb dX7_isBeyond_20 (by decide +kernel) ?_
    refine lv_goto (tgt := 25) hx hb dX7_isBeyond_21 (by decide) ?_
    exact W.zret (v := iI 1) (ty := .boolean) hx hb hr (by decide +kernel) (fun t ht hW => ⟨⟨_, (), rfl, congrArg iI (show 1 = (if ¬ (0 ≤ i ∧ 0 ≤ n ∧ i + n ≤ al) then 1 else 0) from (by omega)), by rw [ht]; exact hP, hD⟩, hS.F ht⟩) hS.2.2 dX7_isBeyond_25
  ·
    refine lv_lload_n hx hb dX7_isBeyond_4 rfl (lv_at hl 1 rfl) ?_
    refine lv_lconst (v := lI 0) hx hb dX7_isBeyond_5 (by decide +kernel) ?_
    refine n_lcmp_lt (tgt := 20) hx hb dX7_isBeyond_6 dX7_isBeyond_7 (by decide) (by omega) (fun c_2 => ?_) (fun c_2 => ?_)
    ·
      refine lv_iconst (v := iI 1) hx hb dX7_isBeyond_20 (by decide +kernel) ?_
      refine lv_goto (tgt := 25) hx hb dX7_isBeyond_21 (by decide) ?_
      exact W.zret (v := iI 1) (ty := .boolean) hx hb hr (by decide +kernel) (fun t ht hW => ⟨⟨_, (), rfl, congrArg iI (show 1 = (if ¬ (0 ≤ i ∧ 0 ≤ n ∧ i + n ≤ al) then 1 else 0) from (by omega)), by rw [ht]; exact hP, hD⟩, hS.F ht⟩) hS.2.2 dX7_isBeyond_25
    ·
      refine lv_iload_n hx hb dX7_isBeyond_10 rfl (lv_at hl 0 rfl) ?_
      refine n_i2l hx hb (by omega) dX7_isBeyond_11 ?_
      refine lv_lload_n hx hb dX7_isBeyond_12 rfl (lv_at hl 1 rfl) ?_
      refine n_ladd hx hb dX7_isBeyond_13 ?_
      refine lv_iload_n hx hb dX7_isBeyond_14 rfl (lv_at hl 2 rfl) ?_
      refine n_i2l hx hb (by omega) dX7_isBeyond_15 ?_
      refine n_lcmp_le (tgt := 24) hx hb dX7_isBeyond_16 dX7_isBeyond_17 (by decide) (by omega) (fun c_3 => ?_) (fun c_3 => ?_)
      ·
        refine lv_iconst (v := iI 0) hx hb dX7_isBeyond_24 (by decide +kernel) ?_
        exact W.zret (v := iI 0) (ty := .boolean) hx hb hr (by decide +kernel) (fun t ht hW => ⟨⟨_, (), rfl, congrArg iI (show 0 = (if ¬ (0 ≤ i ∧ 0 ≤ n ∧ i + n ≤ al) then 1 else 0) from (by omega)), by rw [ht]; exact hP, hD⟩, hS.F ht⟩) hS.2.2 dX7_isBeyond_25
      ·
        refine lv_iconst (v := iI 1) hx hb dX7_isBeyond_20 (by decide +kernel) ?_
        refine lv_goto (tgt := 25) hx hb dX7_isBeyond_21 (by decide) ?_
        exact W.zret (v := iI 1) (ty := .boolean) hx hb hr (by decide +kernel) (fun t ht hW => ⟨⟨_, (), rfl, congrArg iI (show 1 = (if ¬ (0 ≤ i ∧ 0 ≤ n ∧ i + n ≤ al) then 1 else 0) from (by omega)), by rw [ht]; exact hP, hD⟩, hS.F ht⟩) hS.2.2 dX7_isBeyond_25
set_option maxHeartbeats 4000000 in
set_option maxRecDepth 100000 in
theorem c_X7_isAsTold (l : Launch) (D : va_G) (cI cS : ClassId) (sz : Nat) (x : Int) (y : Int) (hx_ : -2147483648 ≤ x ∧ x < 2147483648) (hy : -2147483648 ≤ y ∧ y < 2147483648) : Met l yX7_isAsTold wsX7_isAsTold ({ frames := 1, cells := 0, slots := 0, locals := 25 }) (cP D cI cS ([] : va_W) sz [.int (iI x), .int (iI y)]) (va_Qi (fun (r : Int32) (u : Unit) => r = iI (if tld x y = true then 1 else 0)) (fun (u : Unit) t => cB D (va_A ([] : va_W) sz) ([] : va_W) t) (va_A ([] : va_W) sz)) 0 0 (va_A ([] : va_W) sz) := by
  refine Met.ofW (cc := cX7_isAsTold) (maxL := 3) (ret := (some .boolean)) (by decide) rfl ?_
  intro p e s m args below meth c_ s₁ B hml hv
  obtain ⟨rfl, hsz, hP, hK, hD0⟩ := hv
  have hx := B.exec
  have hb := B.bytes
  have hr := B.returns
  have hts := atoms_spec (ws := wsX7_isAsTold) B.pre
  have hown : s.vm.findClass RX7 = some m.cls := findClass_of_methodNamed B.named
  have hlocks := B.notSynchronized
  subst hsz
  have hD := hD0.self (sz := s.heap.size)
  generalize hAe : va_A ([] : va_W) s.heap.size = A at hD ⊢
  have hA : ∀ q : Nat, s.heap.size ≤ q → A q := fun q h => by rw [← hAe]; exact Or.inr h
  have hS : va_S A s.heap s.heap [] := va_S.rf
  have hP : va_P D vwCl ([] : va_W) s.heap := hP
  have hl := lv_entry ([.int (iI x), .int (iI y)] : List Value) (n := 3) (Nat.le_of_ble_eq_true rfl)
  rw [lg_entry_eq]
  generalize (lg_sl ([.int (iI x), .int (iI y)] : List Value) ++ List.replicate (3 - (lg_sl ([.int (iI x), .int (iI y)] : List Value)).length) Slot.unset).toArray = ls at hl ⊢
  have hl : lv_has ls 3 [(0, .int (iI x)), (1, .int (iI y))] := hl
  have ck_202 := hts (.constantLong RX7 202 (lI 10)) (by decide +kernel)
  refine lv_iload_n hx hb dX7_isAsTold_0 rfl (lv_at hl 1 rfl) ?_
  refine lv_iconst (v := iI 5) hx hb dX7_isAsTold_1 (by decide +kernel) ?_
  refine n_icmp_ne (tgt := 10) hx hb dX7_isAsTold_2 (by decide) (by omega) (fun c_1 => ?_) (fun c_1 => ?_)
  ·
    refine lv_iload_n hx hb dX7_isAsTold_10 rfl (lv_at hl 1 rfl) ?_
    refine lv_iconst (v := iI 5) hx hb dX7_isAsTold_11 (by decide +kernel) ?_
    refine n_icmp_le (tgt := 19) hx hb dX7_isAsTold_12 (by decide) (by omega) (fun c_2 => ?_) (fun c_2 => ?_)
    ·
      refine lv_iconst (v := iI 0) hx hb dX7_isAsTold_19 (by decide +kernel) ?_
      refine lv_istore_n (lv' := [(2, .int (iI 0)), (0, .int (iI x)), (1, .int (iI y))]) hx hb dX7_isAsTold_20 rfl hl (by decide) rfl (fun ls hl => ?_)
      refine lv_iload_n hx hb dX7_isAsTold_21 rfl (lv_at hl 2 rfl) ?_
      refine n_i2l hx hb (by omega) dX7_isAsTold_22 ?_
      refine lv_lconst (v := lI 0) hx hb dX7_isAsTold_23 (by decide +kernel) ?_
      refine lv_ldc2 hx hb hown ck_202 dX7_isAsTold_24 ?_
      refine x_callSi (As := [.long (lI y), .long (lI 0), .long (lI 10)]) (rest := []) ⟨hx, hb, hml, hown, hts⟩ (c_X7_in l D cI cS s.heap.size y 0 10 (by first | assumption | omega) (by first | assumption | omega) (by first | assumption | omega)) (va_cwS 3 hts gX7_isAsTold_X7_in rfl rfl rfl (by decide +kernel) ⟨Nat.le_of_ble_eq_true rfl, Nat.le_of_ble_eq_true rfl⟩) hK hP hD hS hA [] [] (wr := ([] : va_W)) rfl rfl (by decide) (by decide) (by decide) [] (fun (u : Unit) => ([] : va_W)) (fun _ => rfl) (by decide) rfl hl.1 rfl (Nat.le_of_ble_eq_true rfl) ⟨Nat.zero_le _, Nat.zero_le _⟩ dX7_isAsTold_27 (fun r_ u_ H locs hw hP hD hS => ?_)
      try dsimp only at hw
      subst hw
      have hP : va_P D vwCl ([] : va_W) H := hP
      have hD : va_D A ([] : va_W) := hD
      refine n_if_b1 (tgt := 48) hx hb dX7_isAsTold_30 (by decide)  (fun c_3 => ?_) (fun c_3 => ?_)
      ·
        refine lv_iconst (v := iI 0) hx hb dX7_isAsTold_48 (by decide +kernel) ?_
        exact W.zret (v := iI 0) (ty := .boolean) hx hb hr (by decide +kernel) (fun t ht hW => ⟨⟨_, (), rfl, congrArg iI (show 0 = (if tld x y = true then 1 else 0) from (by unfold tld fw; first | (rw [if_pos (decide_eq_true (by omega))]; done) | (rw [if_neg (by rw [decide_eq_false (by omega)]; decide)]; done))), by rw [ht]; exact hP, hD⟩, hS.F ht⟩) hS.2.2 dX7_isAsTold_49
      ·
        refine lv_iload_n hx hb dX7_isAsTold_33 rfl (lv_at hl 1 rfl) ?_
        refine n_i2l hx hb (by omega) dX7_isAsTold_34 ?_
        refine lv_lconst (v := lI 0) hx hb dX7_isAsTold_35 (by decide +kernel) ?_
        refine lv_iload_n hx hb dX7_isAsTold_36 rfl (lv_at hl 0 rfl) ?_
        refine n_i2l hx hb (by omega) dX7_isAsTold_37 ?_
        refine x_callSi (As := [.long (lI x), .long (lI 0), .long (lI 0)]) (rest := []) ⟨hx, hb, hml, hown, hts⟩ (c_X7_in l D cI cS H.size x 0 0 (by first | assumption | omega) (by first | assumption | omega) (by first | assumption | omega)) (va_cwS 3 hts gX7_isAsTold_X7_in rfl rfl rfl (by decide +kernel) ⟨Nat.le_of_ble_eq_true rfl, Nat.le_of_ble_eq_true rfl⟩) hK hP hD hS hA [] [] (wr := ([] : va_W)) rfl rfl (by decide) (by decide) (by decide) [] (fun (u : Unit) => ([] : va_W)) (fun _ => rfl) (by decide) rfl hl.1 rfl (Nat.le_of_ble_eq_true rfl) ⟨Nat.zero_le _, Nat.zero_le _⟩ dX7_isAsTold_38 (fun r_ u_ H locs hw hP hD hS => ?_)
        try dsimp only at hw
        subst hw
        have hP : va_P D vwCl ([] : va_W) H := hP
        have hD : va_D A ([] : va_W) := hD
        refine n_if_b1 (tgt := 48) hx hb dX7_isAsTold_41 (by decide)  (fun c_4 => ?_) (fun c_4 => ?_)
        ·
          refine lv_iconst (v := iI 0) hx hb dX7_isAsTold_48 (by decide +kernel) ?_
          exact W.zret (v := iI 0) (ty := .boolean) hx hb hr (by decide +kernel) (fun t ht hW => ⟨⟨_, (), rfl, congrArg iI (show 0 = (if tld x y = true then 1 else 0) from (by unfold tld fw; first | (rw [if_pos (decide_eq_true (by omega))]; done) | (rw [if_neg (by rw [decide_eq_false (by omega)]; decide)]; done))), by rw [ht]; exact hP, hD⟩, hS.F ht⟩) hS.2.2 dX7_isAsTold_49
        ·
          refine lv_iconst (v := iI 1) hx hb dX7_isAsTold_44 (by decide +kernel) ?_
          refine lv_goto (tgt := 49) hx hb dX7_isAsTold_45 (by decide) ?_
          exact W.zret (v := iI 1) (ty := .boolean) hx hb hr (by decide +kernel) (fun t ht hW => ⟨⟨_, (), rfl, congrArg iI (show 1 = (if tld x y = true then 1 else 0) from (by unfold tld fw; first | (rw [if_pos (decide_eq_true (by omega))]; done) | (rw [if_neg (by rw [decide_eq_false (by omega)]; decide)]; done))), by rw [ht]; exact hP, hD⟩, hS.F ht⟩) hS.2.2 dX7_isAsTold_49
    ·
      refine lv_iconst (v := iI 3) hx hb dX7_isAsTold_15 (by decide +kernel) ?_
      refine lv_goto (tgt := 20) hx hb dX7_isAsTold_16 (by decide) ?_
      refine lv_istore_n (lv' := [(2, .int (iI 3)), (0, .int (iI x)), (1, .int (iI y))]) hx hb dX7_isAsTold_20 rfl hl (by decide) rfl (fun ls hl => ?_)
      refine lv_iload_n hx hb dX7_isAsTold_21 rfl (lv_at hl 2 rfl) ?_
      refine n_i2l hx hb (by omega) dX7_isAsTold_22 ?_
      refine lv_lconst (v := lI 0) hx hb dX7_isAsTold_23 (by decide +kernel) ?_
      refine lv_ldc2 hx hb hown ck_202 dX7_isAsTold_24 ?_
      refine x_callSi (As := [.long (lI y), .long (lI 0), .long (lI 10)]) (rest := []) ⟨hx, hb, hml, hown, hts⟩ (c_X7_in l D cI cS s.heap.size y 0 10 (by first | assumption | omega) (by first | assumption | omega) (by first | assumption | omega)) (va_cwS 3 hts gX7_isAsTold_X7_in rfl rfl rfl (by decide +kernel) ⟨Nat.le_of_ble_eq_true rfl, Nat.le_of_ble_eq_true rfl⟩) hK hP hD hS hA [] [] (wr := ([] : va_W)) rfl rfl (by decide) (by decide) (by decide) [] (fun (u : Unit) => ([] : va_W)) (fun _ => rfl) (by decide) rfl hl.1 rfl (Nat.le_of_ble_eq_true rfl) ⟨Nat.zero_le _, Nat.zero_le _⟩ dX7_isAsTold_27 (fun r_ u_ H locs hw hP hD hS => ?_)
      try dsimp only at hw
      subst hw
      have hP : va_P D vwCl ([] : va_W) H := hP
      have hD : va_D A ([] : va_W) := hD
      refine n_if_b1 (tgt := 48) hx hb dX7_isAsTold_30 (by decide)  (fun c_5 => ?_) (fun c_5 => ?_)
      ·
        refine lv_iconst (v := iI 0) hx hb dX7_isAsTold_48 (by decide +kernel) ?_
        exact W.zret (v := iI 0) (ty := .boolean) hx hb hr (by decide +kernel) (fun t ht hW => ⟨⟨_, (), rfl, congrArg iI (show 0 = (if tld x y = true then 1 else 0) from (by unfold tld fw; first | (rw [if_pos (decide_eq_true (by omega))]; done) | (rw [if_neg (by rw [decide_eq_false (by omega)]; decide)]; done))), by rw [ht]; exact hP, hD⟩, hS.F ht⟩) hS.2.2 dX7_isAsTold_49
      ·
        refine lv_iload_n hx hb dX7_isAsTold_33 rfl (lv_at hl 1 rfl) ?_
        refine n_i2l hx hb (by omega) dX7_isAsTold_34 ?_
        refine lv_lconst (v := lI 0) hx hb dX7_isAsTold_35 (by decide +kernel) ?_
        refine lv_iload_n hx hb dX7_isAsTold_36 rfl (lv_at hl 0 rfl) ?_
        refine n_i2l hx hb (by omega) dX7_isAsTold_37 ?_
        refine x_callSi (As := [.long (lI x), .long (lI 0), .long (lI 3)]) (rest := []) ⟨hx, hb, hml, hown, hts⟩ (c_X7_in l D cI cS H.size x 0 3 (by first | assumption | omega) (by first | assumption | omega) (by first | assumption | omega)) (va_cwS 3 hts gX7_isAsTold_X7_in rfl rfl rfl (by decide +kernel) ⟨Nat.le_of_ble_eq_true rfl, Nat.le_of_ble_eq_true rfl⟩) hK hP hD hS hA [] [] (wr := ([] : va_W)) rfl rfl (by decide) (by decide) (by decide) [] (fun (u : Unit) => ([] : va_W)) (fun _ => rfl) (by decide) rfl hl.1 rfl (Nat.le_of_ble_eq_true rfl) ⟨Nat.zero_le _, Nat.zero_le _⟩ dX7_isAsTold_38 (fun r_ u_ H locs hw hP hD hS => ?_)
        try dsimp only at hw
        subst hw
        have hP : va_P D vwCl ([] : va_W) H := hP
        have hD : va_D A ([] : va_W) := hD
        refine n_if_b1 (tgt := 48) hx hb dX7_isAsTold_41 (by decide)  (fun c_6 => ?_) (fun c_6 => ?_)
        ·
          refine lv_iconst (v := iI 0) hx hb dX7_isAsTold_48 (by decide +kernel) ?_
          exact W.zret (v := iI 0) (ty := .boolean) hx hb hr (by decide +kernel) (fun t ht hW => ⟨⟨_, (), rfl, congrArg iI (show 0 = (if tld x y = true then 1 else 0) from (by unfold tld fw; first | (rw [if_pos (decide_eq_true (by omega))]; done) | (rw [if_neg (by rw [decide_eq_false (by omega)]; decide)]; done))), by rw [ht]; exact hP, hD⟩, hS.F ht⟩) hS.2.2 dX7_isAsTold_49
        ·
          refine lv_iconst (v := iI 1) hx hb dX7_isAsTold_44 (by decide +kernel) ?_
          refine lv_goto (tgt := 49) hx hb dX7_isAsTold_45 (by decide) ?_
          exact W.zret (v := iI 1) (ty := .boolean) hx hb hr (by decide +kernel) (fun t ht hW => ⟨⟨_, (), rfl, congrArg iI (show 1 = (if tld x y = true then 1 else 0) from (by unfold tld fw; first | (rw [if_pos (decide_eq_true (by omega))]; done) | (rw [if_neg (by rw [decide_eq_false (by omega)]; decide)]; done))), by rw [ht]; exact hP, hD⟩, hS.F ht⟩) hS.2.2 dX7_isAsTold_49
  ·
    refine lv_bipush (v := iI 15) hx hb dX7_isAsTold_5 (by decide +kernel) ?_
    refine lv_goto (tgt := 20) hx hb dX7_isAsTold_7 (by decide) ?_
    refine lv_istore_n (lv' := [(2, .int (iI 15)), (0, .int (iI x)), (1, .int (iI y))]) hx hb dX7_isAsTold_20 rfl hl (by decide) rfl (fun ls hl => ?_)
    refine lv_iload_n hx hb dX7_isAsTold_21 rfl (lv_at hl 2 rfl) ?_
    refine n_i2l hx hb (by omega) dX7_isAsTold_22 ?_
    refine lv_lconst (v := lI 0) hx hb dX7_isAsTold_23 (by decide +kernel) ?_
    refine lv_ldc2 hx hb hown ck_202 dX7_isAsTold_24 ?_
    refine x_callSi (As := [.long (lI y), .long (lI 0), .long (lI 10)]) (rest := []) ⟨hx, hb, hml, hown, hts⟩ (c_X7_in l D cI cS s.heap.size y 0 10 (by first | assumption | omega) (by first | assumption | omega) (by first | assumption | omega)) (va_cwS 3 hts gX7_isAsTold_X7_in rfl rfl rfl (by decide +kernel) ⟨Nat.le_of_ble_eq_true rfl, Nat.le_of_ble_eq_true rfl⟩) hK hP hD hS hA [] [] (wr := ([] : va_W)) rfl rfl (by decide) (by decide) (by decide) [] (fun (u : Unit) => ([] : va_W)) (fun _ => rfl) (by decide) rfl hl.1 rfl (Nat.le_of_ble_eq_true rfl) ⟨Nat.zero_le _, Nat.zero_le _⟩ dX7_isAsTold_27 (fun r_ u_ H locs hw hP hD hS => ?_)
    try dsimp only at hw
    subst hw
    have hP : va_P D vwCl ([] : va_W) H := hP
    have hD : va_D A ([] : va_W) := hD
    refine n_if_b1 (tgt := 48) hx hb dX7_isAsTold_30 (by decide)  (fun c_7 => ?_) (fun c_7 => ?_)
    ·
      refine lv_iconst (v := iI 0) hx hb dX7_isAsTold_48 (by decide +kernel) ?_
      exact W.zret (v := iI 0) (ty := .boolean) hx hb hr (by decide +kernel) (fun t ht hW => ⟨⟨_, (), rfl, congrArg iI (show 0 = (if tld x y = true then 1 else 0) from (by unfold tld fw; first | (rw [if_pos (decide_eq_true (by omega))]; done) | (rw [if_neg (by rw [decide_eq_false (by omega)]; decide)]; done))), by rw [ht]; exact hP, hD⟩, hS.F ht⟩) hS.2.2 dX7_isAsTold_49
    ·
      refine lv_iload_n hx hb dX7_isAsTold_33 rfl (lv_at hl 1 rfl) ?_
      refine n_i2l hx hb (by omega) dX7_isAsTold_34 ?_
      refine lv_lconst (v := lI 0) hx hb dX7_isAsTold_35 (by decide +kernel) ?_
      refine lv_iload_n hx hb dX7_isAsTold_36 rfl (lv_at hl 0 rfl) ?_
      refine n_i2l hx hb (by omega) dX7_isAsTold_37 ?_
      refine x_callSi (As := [.long (lI x), .long (lI 0), .long (lI 15)]) (rest := []) ⟨hx, hb, hml, hown, hts⟩ (c_X7_in l D cI cS H.size x 0 15 (by first | assumption | omega) (by first | assumption | omega) (by first | assumption | omega)) (va_cwS 3 hts gX7_isAsTold_X7_in rfl rfl rfl (by decide +kernel) ⟨Nat.le_of_ble_eq_true rfl, Nat.le_of_ble_eq_true rfl⟩) hK hP hD hS hA [] [] (wr := ([] : va_W)) rfl rfl (by decide) (by decide) (by decide) [] (fun (u : Unit) => ([] : va_W)) (fun _ => rfl) (by decide) rfl hl.1 rfl (Nat.le_of_ble_eq_true rfl) ⟨Nat.zero_le _, Nat.zero_le _⟩ dX7_isAsTold_38 (fun r_ u_ H locs hw hP hD hS => ?_)
      try dsimp only at hw
      subst hw
      have hP : va_P D vwCl ([] : va_W) H := hP
      have hD : va_D A ([] : va_W) := hD
      refine n_if_b1 (tgt := 48) hx hb dX7_isAsTold_41 (by decide)  (fun c_8 => ?_) (fun c_8 => ?_)
      ·
        refine lv_iconst (v := iI 0) hx hb dX7_isAsTold_48 (by decide +kernel) ?_
        exact W.zret (v := iI 0) (ty := .boolean) hx hb hr (by decide +kernel) (fun t ht hW => ⟨⟨_, (), rfl, congrArg iI (show 0 = (if tld x y = true then 1 else 0) from (by unfold tld fw; first | (rw [if_pos (decide_eq_true (by omega))]; done) | (rw [if_neg (by rw [decide_eq_false (by omega)]; decide)]; done))), by rw [ht]; exact hP, hD⟩, hS.F ht⟩) hS.2.2 dX7_isAsTold_49
      ·
        refine lv_iconst (v := iI 1) hx hb dX7_isAsTold_44 (by decide +kernel) ?_
        refine lv_goto (tgt := 49) hx hb dX7_isAsTold_45 (by decide) ?_
        exact W.zret (v := iI 1) (ty := .boolean) hx hb hr (by decide +kernel) (fun t ht hW => ⟨⟨_, (), rfl, congrArg iI (show 1 = (if tld x y = true then 1 else 0) from (by unfold tld fw; first | (rw [if_pos (decide_eq_true (by omega))]; done) | (rw [if_neg (by rw [decide_eq_false (by omega)]; decide)]; done))), by rw [ht]; exact hP, hD⟩, hS.F ht⟩) hS.2.2 dX7_isAsTold_49
set_option maxHeartbeats 4000000 in
set_option maxRecDepth 100000 in
theorem c_X7_traced (l : Launch) (D : va_G) (cI cS : ClassId) (mA : Nat → Nat) (mf : Int) (mn : Int) (ml : Int) (mk : Int → Int) (mg : Int → Int) (mls : Int → Int) (ms : Int → Int) (mra : Int) (mrf : Int) (mrk : Int → Int) (mrg : Int → Int) (mrl : Int → Int) (mrs : Int → Int) (mo : Int) (moo : Int → Int) (moa : Int → Int) (mp : Int) (mpp : Int → Int) (mfi : Int) (mpl : Int) (mpo : Int → Int) (mro : Int → Int) (mdp : Int) (mdf : Int) (mhg : Int → Int) (mhk : Int → Int) (mR : Int) (mRf : Int → Int) (mRo : Int → Int) (mss : Int → Int) (msl : Int → Int) (msh : Int → Int) (mha : Int → Int) (mt : Int) (sz : Nat) (x : Int)  : Met l yX7_traced wsX7_traced ({ frames := 0, cells := 0, slots := 0, locals := 0 }) (cP D cI cS (W_M cI cS mA mf mn ml mk mg mls ms mra mrf mrk mrg mrl mrs mo moo moa mp mpp mfi mpl mpo mro mdp mdf mhg mhk mR mRf mRo mss msl msh mha mt) sz [.ref (mA 0), .int (iI x)]) (va_Qv (fun (u : Unit) => True) (fun (u : Unit) t => cB D (va_A (W_M cI cS mA mf mn ml mk mg mls ms mra mrf mrk mrg mrl mrs mo moo moa mp mpp mfi mpl mpo mro mdp mdf mhg mhk mR mRf mRo mss msl msh mha mt) sz) (W_M cI cS mA mf mn ml mk mg mls ms mra mrf mrk mrg mrl mrs mo moo moa mp mpp mfi mpl mpo mro mdp mdf mhg mhk mR mRf mRo mss msl msh mha ((31 * mt) + x)) t) (va_A (W_M cI cS mA mf mn ml mk mg mls ms mra mrf mrk mrg mrl mrs mo moo moa mp mpp mfi mpl mpo mro mdp mdf mhg mhk mR mRf mRo mss msl msh mha mt) sz)) 0 0 (va_A (W_M cI cS mA mf mn ml mk mg mls ms mra mrf mrk mrg mrl mrs mo moo moa mp mpp mfi mpl mpo mro mdp mdf mhg mhk mR mRf mRo mss msl msh mha mt) sz) := by
  refine Met.ofW (cc := cX7_traced) (maxL := 2) (ret := none) (by decide) rfl ?_
  intro p e s m args below meth c_ s₁ B hml hv
  obtain ⟨rfl, hsz, hP, hK, hD0⟩ := hv
  have hx := B.exec
  have hb := B.bytes
  have hr := B.returns
  have hts := atoms_spec (ws := wsX7_traced) B.pre
  have hown : s.vm.findClass RX7 = some m.cls := findClass_of_methodNamed B.named
  have hlocks := B.notSynchronized
  subst hsz
  have hD := hD0.self (sz := s.heap.size)
  generalize hAe : va_A (W_M cI cS mA mf mn ml mk mg mls ms mra mrf mrk mrg mrl mrs mo moo moa mp mpp mfi mpl mpo mro mdp mdf mhg mhk mR mRf mRo mss msl msh mha mt) s.heap.size = A at hD ⊢
  have hA : ∀ q : Nat, s.heap.size ≤ q → A q := fun q h => by rw [← hAe]; exact Or.inr h
  have hS : va_S A s.heap s.heap [] := va_S.rf
  have hP : va_P D vwCl (W_M cI cS mA mf mn ml mk mg mls ms mra mrf mrk mrg mrl mrs mo moo moa mp mpp mfi mpl mpo mro mdp mdf mhg mhk mR mRf mRo mss msl msh mha mt) s.heap := hP
  have hl := lv_entry ([.ref (mA 0), .int (iI x)] : List Value) (n := 2) (Nat.le_of_ble_eq_true rfl)
  rw [lg_entry_eq]
  generalize (lg_sl ([.ref (mA 0), .int (iI x)] : List Value) ++ List.replicate (2 - (lg_sl ([.ref (mA 0), .int (iI x)] : List Value)).length) Slot.unset).toArray = ls at hl ⊢
  have hl : lv_has ls 2 [(0, .ref (mA 0)), (1, .int (iI x))] := hl
  have fl_256 := hts (.fieldLink RX7 256 "ActRowsModel" "traceNow" "I") (by decide +kernel)
  have iw_7 : ∀ w ∈ wsX70, w ∈ wsX7_traced := by decide +kernel
  refine lv_aload_n hx hb dX7_traced_0 rfl (lv_at hl 0 rfl) ?_
  refine lv_bipush (v := iI 31) hx hb dX7_traced_1 (by decide +kernel) ?_
  refine lv_aload_n hx hb dX7_traced_3 rfl (lv_at hl 0 rfl) ?_
  refine va_get (D := D) (ci := 7) (v := .int (iI mt)) (C := RX7) (T := TX7) (N := 34) hx hb hts iw_7 hown hK.1 hP 0 rfl rfl 33 (by decide) fl_256 (fun _ h9 => h9) rfl dX7_traced_4 ?_
  refine n_imul hx hb dX7_traced_7 ?_
  refine lv_iload_n hx hb dX7_traced_8 rfl (lv_at hl 1 rfl) ?_
  refine n_iadd hx hb dX7_traced_9 ?_
  refine va_put (D := D) (ci := 7) (v := .int (iI ((31 * mt) + x))) (ty := .int) (C := RX7) (T := TX7) (N := 34) hx hb hts iw_7 tyX7 tyX7_ok nmX7 hown hK.1 hP hD hS 0 rfl rfl 33 (by decide) fl_256 (fun _ h9 => h9) rfl (by decide +kernel) rfl rfl (Nat.le_of_ble_eq_true rfl) dX7_traced_10 (fun H locs hP hD hS => ?_)
  have hP : va_P D vwCl (W_M cI cS mA mf mn ml mk mg mls ms mra mrf mrk mrg mrl mrs mo moo moa mp mpp mfi mpl mpo mro mdp mdf mhg mhk mR mRf mRo mss msl msh mha ((31 * mt) + x)) H := hP
  have hD : va_D A (W_M cI cS mA mf mn ml mk mg mls ms mra mrf mrk mrg mrl mrs mo moo moa mp mpp mfi mpl mpo mro mdp mdf mhg mhk mR mRf mRo mss msl msh mha ((31 * mt) + x)) := hD
  exact W.vret hx hb hr (fun t ht hW => ⟨⟨(), rfl, trivial, by rw [ht]; exact hP, hD⟩, hS.F ht⟩) hS.2.2 dX7_traced_13
theorem popc_s {x : Int} (h : 0 ≤ x ∧ x < 16) : popc x = x % 2 + popc (x / 2) :=
  all_lt (N := 16) (P := fun x => popc x = x % 2 + popc (x / 2)) (fun n hn => (by decide +kernel : ∀ n : Nat, n < 16 → popc (n : Int) = (n : Int) % 2 + popc ((n : Int) / 2)) n hn) h.1 h.2
theorem pow2_1 : pow2 1 = 2 := by decide +kernel
theorem l_div {x y : Int} (h : 0 ≤ x ∧ x < 2147483648 ∧ 0 < y ∧ y < 2147483648) : lI x / lI y = lI (x / y) := by
  obtain ⟨a, rfl⟩ := Int.eq_ofNat_of_zero_le h.1
  obtain ⟨b, rfl⟩ := Int.eq_ofNat_of_zero_le (Int.le_of_lt h.2.2.1)
  have e : ∀ k : Nat, k < 2147483648 → lI (k : Int) = lN k := fun k hk => by
    apply Int64.toInt_inj.mp
    rw [lN_toInt (by omega), lI_toInt (by omega) (by omega)]
  rw [e a (by omega), e b (by omega), pk_lDiv (by omega) (by omega) (by omega), show ((a : Int) / (b : Int)) = ((a / b : Nat) : Int) from rfl, e (a / b) (Nat.lt_of_le_of_lt (Nat.div_le_self a b) (by omega))]
theorem l_rem {x y : Int} (h : 0 ≤ x ∧ x < 2147483648 ∧ 0 < y ∧ y < 2147483648) : lI x - lI x / lI y * lI y = lI (x % y) := by
  obtain ⟨a, rfl⟩ := Int.eq_ofNat_of_zero_le h.1
  obtain ⟨b, rfl⟩ := Int.eq_ofNat_of_zero_le (Int.le_of_lt h.2.2.1)
  have e : ∀ k : Nat, k < 2147483648 → lI (k : Int) = lN k := fun k hk => by
    apply Int64.toInt_inj.mp
    rw [lN_toInt (by omega), lI_toInt (by omega) (by omega)]
  rw [e a (by omega), e b (by omega), pk_lRem (by omega) (by omega) (by omega), show ((a : Int) % (b : Int)) = ((a % b : Nat) : Int) from rfl, e (a % b) (Nat.lt_of_le_of_lt (Nat.mod_le a b) (by omega))]
section XL
variable {p : Program} {l : Launch} {e : Env} {R : Room} {s : State} {m : MethodId} {args : Array Value} {below : List Frame} {meth : Method} {c : Code} {H : Heap} {locs : List Loc} {cells slots : Nat} {Q : State → Prop}
variable {cc : ByteArray} {pc : Nat} {ls : Array Slot} {rest : List Value}
theorem n_ldiv {x y : Int} (h : 0 ≤ x ∧ x < 2147483648 ∧ 0 < y ∧ y < 2147483648) (hexec : p.tables.exec = Jvm.exec) (hb : c.code = cc) (hdg : decode cc pc = .ok (.ldiv, 1)) (k : W p l e R s m args below meth c H locs cells slots Q (F0 m (pc + 1) ls (.long (lI (x / y)) :: rest))) : W p l e R s m args below meth c H locs cells slots Q (F0 m pc ls (.long (lI y) :: .long (lI x) :: rest)) := lv_ldiv hexec hb hdg (by intro q; have q2 := congrArg Int64.toInt q; rw [lI_toInt (by omega) (by omega)] at q2; have : y = 0 := q2; omega) (by rw [l_div h]; exact k)
theorem n_lrem {x y : Int} (h : 0 ≤ x ∧ x < 2147483648 ∧ 0 < y ∧ y < 2147483648) (hexec : p.tables.exec = Jvm.exec) (hb : c.code = cc) (hdg : decode cc pc = .ok (.lrem, 1)) (k : W p l e R s m args below meth c H locs cells slots Q (F0 m (pc + 1) ls (.long (lI (x % y)) :: rest))) : W p l e R s m args below meth c H locs cells slots Q (F0 m pc ls (.long (lI y) :: .long (lI x) :: rest)) := lv_lrem hexec hb hdg (by intro q; have q2 := congrArg Int64.toInt q; rw [lI_toInt (by omega) (by omega)] at q2; have : y = 0 := q2; omega) (by rw [l_rem h]; exact k)
end XL
def gcdI : Nat → Int → Int → Int
  | 0, x, _ => x
  | n + 1, x, y => if y = 0 then x else gcdI n y (x % y)
theorem share_ok {n : Int} (h : 0 ≤ n ∧ n ≤ 16) : n / gcdI 20 n 16 = (hal 5 n 16).1 ∧ 16 / gcdI 20 n 16 = (hal 5 n 16).2 ∧ 0 < gcdI 20 n 16 ∧ gcdI 20 n 16 ≤ 16 := by
  obtain ⟨k, rfl⟩ := Int.eq_ofNat_of_zero_le h.1
  exact (by decide +kernel : ∀ k : Nat, k < 17 → (k : Int) / gcdI 20 (k : Int) 16 = (hal 5 (k : Int) 16).1 ∧ 16 / gcdI 20 (k : Int) 16 = (hal 5 (k : Int) 16).2 ∧ 0 < gcdI 20 (k : Int) 16 ∧ gcdI 20 (k : Int) 16 ≤ 16) k (by omega)
set_option maxHeartbeats 4000000 in
set_option maxRecDepth 100000 in
theorem c_X7_bits (l : Launch) (D : va_G) (cI cS : ClassId) (sz : Nat) (x : Int) (hx_ : 0 ≤ x ∧ x < 16) : Met l yX7_bits wsX7_bits ({ frames := 0, cells := 0, slots := 0, locals := 0 }) (cP D cI cS ([] : va_W) sz [.int (iI x)]) (va_Qi (fun (r : Int32) (u : Unit) => r = iI (popc x)) (fun (u : Unit) t => cB D (va_A ([] : va_W) sz) ([] : va_W) t) (va_A ([] : va_W) sz)) 0 0 (va_A ([] : va_W) sz) := by
  refine Met.ofW (cc := cX7_bits) (maxL := 3) (ret := (some .int)) (by decide) rfl ?_
  intro p e s m args below meth c_ s₁ B hml hv
  obtain ⟨rfl, hsz, hP, hK, hD0⟩ := hv
  have hx := B.exec
  have hb := B.bytes
  have hr := B.returns
  have hts := atoms_spec (ws := wsX7_bits) B.pre
  have hown : s.vm.findClass RX7 = some m.cls := findClass_of_methodNamed B.named
  have hlocks := B.notSynchronized
  subst hsz
  have hD := hD0.self (sz := s.heap.size)
  generalize hAe : va_A ([] : va_W) s.heap.size = A at hD ⊢
  have hA : ∀ q : Nat, s.heap.size ≤ q → A q := fun q h => by rw [← hAe]; exact Or.inr h
  have hS : va_S A s.heap s.heap [] := va_S.rf
  have hP : va_P D vwCl ([] : va_W) s.heap := hP
  have hl := lv_entry ([.int (iI x)] : List Value) (n := 3) (Nat.le_of_ble_eq_true rfl)
  rw [lg_entry_eq]
  generalize (lg_sl ([.int (iI x)] : List Value) ++ List.replicate (3 - (lg_sl ([.int (iI x)] : List Value)).length) Slot.unset).toArray = ls at hl ⊢
  have hl : lv_has ls 3 [(0, .int (iI x))] := hl
  refine lv_iconst (v := iI 0) hx hb dX7_bits_0 (by decide +kernel) ?_
  refine lv_istore_n (lv' := [(1, .int (iI 0)), (0, .int (iI x))]) hx hb dX7_bits_1 rfl hl (by decide) rfl (fun ls hl => ?_)
  refine lv_iload_n hx hb dX7_bits_2 rfl (lv_at hl 1 rfl) ?_
  refine lv_istore_n (lv' := [(2, .int (iI x)), (1, .int (iI 0)), (0, .int (iI x))]) hx hb dX7_bits_3 rfl hl (by decide) rfl (fun ls hl => ?_)
  refine x_loop (σ := Int × Int) (fun (xv_ : Int × Int) => match xv_ with | (n, lf) => (0 ≤ lf ∧ lf < 16) ∧ (n + popc lf = popc x)) (fun (xv_ : Int × Int) => match xv_ with | (n, lf) => lf.toNat) (fun (xv_ : Int × Int) => match xv_ with | (n, lf) => ([] : va_W)) (fun (xv_ : Int × Int) => match xv_ with | (n, lf) => [(2, .int (iI lf)), (1, .int (iI n)), (0, .int (iI x))]) (nL := 3) ?step_1 (0, x) (by (try dsimp only); exact ⟨hx_, Int.zero_add _⟩) hP hD hS hl
  case step_1 =>
    intro xv_ hI ih H locs ls hP hD hS hl
    obtain ⟨n, lf⟩ := xv_
    try dsimp only at hI ih
    obtain ⟨hlf, hn⟩ := hI
    have hP : va_P D vwCl ([] : va_W) H := hP
    have hD : va_D A ([] : va_W) := hD
    have hl : lv_has ls 3 [(2, .int (iI lf)), (1, .int (iI n)), (0, .int (iI x))] := hl
    have ih_2 := ih
    refine lv_iload_n hx hb dX7_bits_4 rfl (lv_at hl 0 rfl) ?_
    refine n_if_le (tgt := 21) hx hb dX7_bits_5 (by decide) (by omega) (fun c_3 => ?_) (fun c_3 => ?_)
    ·
      refine lv_iload_n hx hb dX7_bits_21 rfl (lv_at hl 1 rfl) ?_
      exact W.iret (v := iI n) hx hb hr (fun t ht hW => ⟨⟨_, (), rfl, congrArg iI (show n = (popc x) from (by rw [← hn, show lf = 0 by omega]; exact (Int.add_zero _).symm)), by rw [ht]; exact hP, hD⟩, hS.F ht⟩) hS.2.2 dX7_bits_22
    ·
      refine lv_iload_n hx hb dX7_bits_8 rfl (lv_at hl 1 rfl) ?_
      refine lv_iload_n hx hb dX7_bits_9 rfl (lv_at hl 0 rfl) ?_
      refine lv_iconst (v := iI 1) hx hb dX7_bits_10 (by decide +kernel) ?_
      refine n_iand (z := (lf % 2)) (b_and1 (by omega)) hx hb dX7_bits_11 ?_
      refine n_iadd hx hb dX7_bits_12 ?_
      refine lv_istore_n (lv' := [(1, .int (iI (n + (lf % 2)))), (2, .int (iI lf)), (0, .int (iI x))]) hx hb dX7_bits_13 rfl hl (by decide) rfl (fun ls hl => ?_)
      refine lv_iload_n hx hb dX7_bits_14 rfl (lv_at hl 1 rfl) ?_
      refine lv_iconst (v := iI 1) hx hb dX7_bits_15 (by decide +kernel) ?_
      refine n_ishr (z := (lf / pow2 1)) (b_shr (by omega)) hx hb dX7_bits_16 ?_
      refine lv_istore_n (lv' := [(2, .int (iI (lf / pow2 1))), (1, .int (iI (n + (lf % 2)))), (0, .int (iI x))]) hx hb dX7_bits_17 rfl hl (by decide) rfl (fun ls hl => ?_)
      refine lv_goto (tgt := 4) hx hb dX7_bits_18 (by decide) ?_
      exact ih_2 ((n + (lf % 2)), (lf / pow2 1)) (by (try dsimp only); exact ⟨by rw [pow2_1]; omega, by rw [pow2_1]; have := popc_s hlf; omega⟩) (by (try dsimp only); exact (by rw [pow2_1]; omega)) _ _ _ hP hD hS (lv_sub hl [0, 1, 2] rfl)
set_option maxHeartbeats 4000000 in
set_option maxRecDepth 100000 in
theorem c_X7_share (l : Launch) (D : va_G) (cI cS : ClassId) (sz : Nat) (up : Int) (dn : Int) (w : Int) (hu : 0 ≤ up ∧ up ≤ 16) (hdn : dn = 16) (hw_ : 0 ≤ w ∧ w ≤ 1) : Met l yX7_share wsX7_share ({ frames := 0, cells := 0, slots := 0, locals := 0 }) (cP D cI cS ([] : va_W) sz [.long (lI up), .long (lI dn), .int (iI w)]) (va_Ql (fun (r : Int64) (u : Unit) => r = lI (oddsI up w)) (fun (u : Unit) t => cB D (va_A ([] : va_W) sz) ([] : va_W) t) (va_A ([] : va_W) sz)) 0 0 (va_A ([] : va_W) sz) := by
  refine Met.ofW (cc := cX7_share) (maxL := 11) (ret := (some .long)) (by decide) rfl ?_
  intro p e s m args below meth c_ s₁ B hml hv
  obtain ⟨rfl, hsz, hP, hK, hD0⟩ := hv
  have hx := B.exec
  have hb := B.bytes
  have hr := B.returns
  have hts := atoms_spec (ws := wsX7_share) B.pre
  have hown : s.vm.findClass RX7 = some m.cls := findClass_of_methodNamed B.named
  have hlocks := B.notSynchronized
  subst hsz
  have hD := hD0.self (sz := s.heap.size)
  generalize hAe : va_A ([] : va_W) s.heap.size = A at hD ⊢
  have hA : ∀ q : Nat, s.heap.size ≤ q → A q := fun q h => by rw [← hAe]; exact Or.inr h
  have hS : va_S A s.heap s.heap [] := va_S.rf
  have hP : va_P D vwCl ([] : va_W) s.heap := hP
  have hl := lv_entry ([.long (lI up), .long (lI dn), .int (iI w)] : List Value) (n := 11) (Nat.le_of_ble_eq_true rfl)
  rw [lg_entry_eq]
  generalize (lg_sl ([.long (lI up), .long (lI dn), .int (iI w)] : List Value) ++ List.replicate (11 - (lg_sl ([.long (lI up), .long (lI dn), .int (iI w)] : List Value)).length) Slot.unset).toArray = ls at hl ⊢
  have hl : lv_has ls 11 [(0, .long (lI up)), (2, .long (lI dn)), (4, .int (iI w))] := hl
  have hsh := share_ok hu
  refine lv_lload_n hx hb dX7_share_0 rfl (lv_at hl 0 rfl) ?_
  refine lv_lstore (lv' := [(5, .long (lI up)), (0, .long (lI up)), (2, .long (lI dn)), (4, .int (iI w))]) hx hb dX7_share_1 hl (by decide) rfl (fun ls hl => ?_)
  refine lv_lload_n hx hb dX7_share_3 rfl (lv_at hl 2 rfl) ?_
  refine lv_lstore (lv' := [(7, .long (lI dn)), (5, .long (lI up)), (0, .long (lI up)), (2, .long (lI dn)), (4, .int (iI w))]) hx hb dX7_share_4 hl (by decide) rfl (fun ls hl => ?_)
  refine x_loop (σ := Int × Int × Nat) (fun (xv_ : Int × Int × Nat) => match xv_ with | (x, y, k_) => (0 ≤ x ∧ x ≤ 16 ∧ 0 ≤ y ∧ y ≤ 16) ∧ (y < k_ ∨ (k_ = 20 ∧ y = 16)) ∧ (1 ≤ k_ ∧ k_ ≤ 20) ∧ (gcdI k_ x y = gcdI 20 up 16)) (fun (xv_ : Int × Int × Nat) => match xv_ with | (x, y, k_) => y.toNat) (fun (xv_ : Int × Int × Nat) => match xv_ with | (x, y, k_) => ([] : va_W)) (fun (xv_ : Int × Int × Nat) => match xv_ with | (x, y, k_) => [(7, .long (lI y)), (5, .long (lI x)), (0, .long (lI up)), (2, .long (lI dn)), (4, .int (iI w))]) (nL := 11) ?step_1 (up, dn, 20) (by (try dsimp only); exact ⟨by omega, by omega, by omega, by rw [hdn]⟩) hP hD hS (lv_sub hl [0, 1, 2, 3, 4] rfl)
  case step_1 =>
    intro xv_ hI ih H locs ls hP hD hS hl
    obtain ⟨x, y, k_⟩ := xv_
    try dsimp only at hI ih
    obtain ⟨hxy, hk, hk2, hg⟩ := hI
    have hP : va_P D vwCl ([] : va_W) H := hP
    have hD : va_D A ([] : va_W) := hD
    have hl : lv_has ls 11 [(7, .long (lI y)), (5, .long (lI x)), (0, .long (lI up)), (2, .long (lI dn)), (4, .int (iI w))] := hl
    have hmod : 0 < y → 0 ≤ x % y ∧ x % y < y := fun q => ⟨Int.emod_nonneg x (by omega), Int.emod_lt_of_pos x q⟩
    have ih_2 := ih
    refine lv_lload hx hb dX7_share_6 (lv_at hl 0 rfl) ?_
    refine lv_lconst (v := lI 0) hx hb dX7_share_8 (by decide +kernel) ?_
    refine n_lcmp_eq (tgt := 31) hx hb dX7_share_9 dX7_share_10 (by decide) (by omega) (fun c_3 => ?_) (fun c_3 => ?_)
    ·
      have hgx : gcdI 20 up 16 = x := by rw [← hg, show k_ = (k_ - 1) + 1 by omega]; exact if_pos (by omega)
      refine lv_iload hx hb dX7_share_31 (lv_at hl 4 rfl) ?_
      refine n_if_ne (tgt := 40) hx hb dX7_share_33 (by decide) (by omega) (fun c_4 => ?_) (fun c_4 => ?_)
      ·
        refine lv_lload_n hx hb dX7_share_40 rfl (lv_at hl 3 rfl) ?_
        refine lv_lload hx hb dX7_share_41 (lv_at hl 1 rfl) ?_
        refine n_ldiv (by omega) hx hb dX7_share_43 ?_
        exact W.lret (v := lI (dn / x)) hx hb hr (fun t ht hW => ⟨⟨_, (), rfl, congrArg lI (show (dn / x) = (oddsI up w) from (by unfold oddsI; first | (rw [if_pos (by omega), ← hsh.1, hgx]; done) | (rw [if_neg (by omega), ← hsh.2.1, hgx, hdn]; done))), by rw [ht]; exact hP, hD⟩, hS.F ht⟩) hS.2.2 dX7_share_44
      ·
        refine lv_lload_n hx hb dX7_share_36 rfl (lv_at hl 2 rfl) ?_
        refine lv_goto (tgt := 41) hx hb dX7_share_37 (by decide) ?_
        refine lv_lload hx hb dX7_share_41 (lv_at hl 1 rfl) ?_
        refine n_ldiv (by omega) hx hb dX7_share_43 ?_
        exact W.lret (v := lI (up / x)) hx hb hr (fun t ht hW => ⟨⟨_, (), rfl, congrArg lI (show (up / x) = (oddsI up w) from (by unfold oddsI; first | (rw [if_pos (by omega), ← hsh.1, hgx]; done) | (rw [if_neg (by omega), ← hsh.2.1, hgx, hdn]; done))), by rw [ht]; exact hP, hD⟩, hS.F ht⟩) hS.2.2 dX7_share_44
    ·
      have hm2 := hmod (by omega)
      refine lv_lload hx hb dX7_share_13 (lv_at hl 1 rfl) ?_
      refine lv_lload hx hb dX7_share_15 (lv_at hl 0 rfl) ?_
      refine n_lrem (by omega) hx hb dX7_share_17 ?_
      refine lv_lstore (lv' := [(9, .long (lI (x % y))), (7, .long (lI y)), (5, .long (lI x)), (0, .long (lI up)), (2, .long (lI dn)), (4, .int (iI w))]) hx hb dX7_share_18 hl (by decide) rfl (fun ls hl => ?_)
      refine lv_lload hx hb dX7_share_20 (lv_at hl 1 rfl) ?_
      refine lv_lstore (lv' := [(5, .long (lI y)), (9, .long (lI (x % y))), (7, .long (lI y)), (0, .long (lI up)), (2, .long (lI dn)), (4, .int (iI w))]) hx hb dX7_share_22 hl (by decide) rfl (fun ls hl => ?_)
      refine lv_lload hx hb dX7_share_24 (lv_at hl 1 rfl) ?_
      refine lv_lstore (lv' := [(7, .long (lI (x % y))), (5, .long (lI y)), (9, .long (lI (x % y))), (0, .long (lI up)), (2, .long (lI dn)), (4, .int (iI w))]) hx hb dX7_share_26 hl (by decide) rfl (fun ls hl => ?_)
      refine lv_goto (tgt := 6) hx hb dX7_share_28 (by decide) ?_
      exact ih_2 (y, (x % y), (k_ - 1)) (by (try dsimp only); exact ⟨by omega, by have := Int.emod_lt_of_pos x (show 0 < y by omega); omega, by omega, by rw [← hg, show k_ = (k_ - 1) + 1 by omega]; exact (if_neg (by omega)).symm⟩) (by (try dsimp only); exact (by have := Int.emod_lt_of_pos x (show 0 < y by omega); have := Int.emod_nonneg x (show y ≠ 0 by omega); omega)) _ _ _ hP hD hS (lv_sub hl [0, 1, 3, 4, 5] rfl)
set_option maxHeartbeats 4000000 in
set_option maxRecDepth 100000 in
theorem c_X7_codeAt (l : Launch) (D : va_G) (cI cS : ClassId) (mA : Nat → Nat) (mf : Int) (mn : Int) (ml : Int) (mk : Int → Int) (mg : Int → Int) (mls : Int → Int) (ms : Int → Int) (mra : Int) (mrf : Int) (mrk : Int → Int) (mrg : Int → Int) (mrl : Int → Int) (mrs : Int → Int) (mo : Int) (moo : Int → Int) (moa : Int → Int) (mp : Int) (mpp : Int → Int) (mfi : Int) (mpl : Int) (mpo : Int → Int) (mro : Int → Int) (mdp : Int) (mdf : Int) (mhg : Int → Int) (mhk : Int → Int) (mR : Int) (mRf : Int → Int) (mRo : Int → Int) (mss : Int → Int) (msl : Int → Int) (msh : Int → Int) (mha : Int → Int) (mt : Int) (sz : Nat) (fo : Int) (n : Int) (hfo : 0 ≤ fo ∧ 0 ≤ n ∧ n ≤ 60 ∧ fo + n ≤ 240) (hra : 0 ≤ mra ∧ mra ≤ n) : Met l yX7_codeAt wsX7_codeAt ({ frames := 0, cells := 0, slots := 0, locals := 0 }) (cP D cI cS (W_M cI cS mA mf mn ml mk mg mls ms mra mrf mrk mrg mrl mrs mo moo moa mp mpp mfi mpl mpo mro mdp mdf mhg mhk mR mRf mRo mss msl msh mha mt) sz [.ref (mA 0), .int (iI fo), .int (iI n)]) (va_Qi (fun (r : Int32) (u : Unit) => r = iI (if mra < n then msh (fo + mra) else (-9))) (fun (u : Unit) t => cB D (va_A (W_M cI cS mA mf mn ml mk mg mls ms mra mrf mrk mrg mrl mrs mo moo moa mp mpp mfi mpl mpo mro mdp mdf mhg mhk mR mRf mRo mss msl msh mha mt) sz) (W_M cI cS mA mf mn ml mk mg mls ms mra mrf mrk mrg mrl mrs mo moo moa mp mpp mfi mpl mpo mro mdp mdf mhg mhk mR mRf mRo mss msl msh mha mt) t) (va_A (W_M cI cS mA mf mn ml mk mg mls ms mra mrf mrk mrg mrl mrs mo moo moa mp mpp mfi mpl mpo mro mdp mdf mhg mhk mR mRf mRo mss msl msh mha mt) sz)) 0 0 (va_A (W_M cI cS mA mf mn ml mk mg mls ms mra mrf mrk mrg mrl mrs mo moo moa mp mpp mfi mpl mpo mro mdp mdf mhg mhk mR mRf mRo mss msl msh mha mt) sz) := by
  refine Met.ofW (cc := cX7_codeAt) (maxL := 3) (ret := (some .int)) (by decide) rfl ?_
  intro p e s m args below meth c_ s₁ B hml hv
  obtain ⟨rfl, hsz, hP, hK, hD0⟩ := hv
  have hx := B.exec
  have hb := B.bytes
  have hr := B.returns
  have hts := atoms_spec (ws := wsX7_codeAt) B.pre
  have hown : s.vm.findClass RX7 = some m.cls := findClass_of_methodNamed B.named
  have hlocks := B.notSynchronized
  subst hsz
  have hD := hD0.self (sz := s.heap.size)
  generalize hAe : va_A (W_M cI cS mA mf mn ml mk mg mls ms mra mrf mrk mrg mrl mrs mo moo moa mp mpp mfi mpl mpo mro mdp mdf mhg mhk mR mRf mRo mss msl msh mha mt) s.heap.size = A at hD ⊢
  have hA : ∀ q : Nat, s.heap.size ≤ q → A q := fun q h => by rw [← hAe]; exact Or.inr h
  have hS : va_S A s.heap s.heap [] := va_S.rf
  have hP : va_P D vwCl (W_M cI cS mA mf mn ml mk mg mls ms mra mrf mrk mrg mrl mrs mo moo moa mp mpp mfi mpl mpo mro mdp mdf mhg mhk mR mRf mRo mss msl msh mha mt) s.heap := hP
  have hl := lv_entry ([.ref (mA 0), .int (iI fo), .int (iI n)] : List Value) (n := 3) (Nat.le_of_ble_eq_true rfl)
  rw [lg_entry_eq]
  generalize (lg_sl ([.ref (mA 0), .int (iI fo), .int (iI n)] : List Value) ++ List.replicate (3 - (lg_sl ([.ref (mA 0), .int (iI fo), .int (iI n)] : List Value)).length) Slot.unset).toArray = ls at hl ⊢
  have hl : lv_has ls 3 [(0, .ref (mA 0)), (1, .int (iI fo)), (2, .int (iI n))] := hl
  have fl_90 := hts (.fieldLink RX7 90 "ActRowsModel" "readAt" "I") (by decide +kernel)
  have iw_7 : ∀ w ∈ wsX70, w ∈ wsX7_codeAt := by decide +kernel
  have fl_67 := hts (.fieldLink RX7 67 "ActRowsModel" "sheet" "[I") (by decide +kernel)
  refine lv_aload_n hx hb dX7_codeAt_0 rfl (lv_at hl 0 rfl) ?_
  refine va_get (D := D) (ci := 7) (v := .int (iI mra)) (C := RX7) (T := TX7) (N := 34) hx hb hts iw_7 hown hK.1 hP 0 rfl rfl 7 (by decide) fl_90 (fun _ h9 => h9) rfl dX7_codeAt_1 ?_
  refine lv_iload_n hx hb dX7_codeAt_4 rfl (lv_at hl 2 rfl) ?_
  refine n_icmp_ge (tgt := 22) hx hb dX7_codeAt_5 (by decide) (by omega) (fun c_1 => ?_) (fun c_1 => ?_)
  ·
    refine lv_bipush (v := iI (-9)) hx hb dX7_codeAt_22 (by decide +kernel) ?_
    exact W.iret (v := iI (-9)) hx hb hr (fun t ht hW => ⟨⟨_, (), rfl, congrArg iI (show (-9) = (if mra < n then msh (fo + mra) else (-9)) from (by omega)), by rw [ht]; exact hP, hD⟩, hS.F ht⟩) hS.2.2 dX7_codeAt_24
  ·
    refine lv_aload_n hx hb dX7_codeAt_8 rfl (lv_at hl 0 rfl) ?_
    refine va_get (D := D) (ci := 7) (v := .ref (mA 20)) (C := RX7) (T := TX7) (N := 34) hx hb hts iw_7 hown hK.1 hP 0 rfl rfl 31 (by decide) fl_67 (fun _ h9 => h9) rfl dX7_codeAt_9 ?_
    refine lv_iload_n hx hb dX7_codeAt_12 rfl (lv_at hl 1 rfl) ?_
    refine lv_aload_n hx hb dX7_codeAt_13 rfl (lv_at hl 0 rfl) ?_
    refine va_get (D := D) (ci := 7) (v := .int (iI mra)) (C := RX7) (T := TX7) (N := 34) hx hb hts iw_7 hown hK.1 hP 0 rfl rfl 7 (by decide) fl_90 (fun _ h9 => h9) rfl dX7_codeAt_14 ?_
    refine n_iadd hx hb dX7_codeAt_17 ?_
    refine n_iald (n := 240) hx hb hK.1 hP 20 0 rfl rfl (by omega) (by decide) dX7_codeAt_18 ?_
    refine lv_goto (tgt := 24) hx hb dX7_codeAt_19 (by decide) ?_
    exact W.iret (v := iI (msh (fo + mra))) hx hb hr (fun t ht hW => ⟨⟨_, (), rfl, congrArg iI (show (msh (fo + mra)) = (if mra < n then msh (fo + mra) else (-9)) from (by omega)), by rw [ht]; exact hP, hD⟩, hS.F ht⟩) hS.2.2 dX7_codeAt_24
set_option maxHeartbeats 4000000 in
set_option maxRecDepth 100000 in
theorem c_X7_readsStep (l : Launch) (D : va_G) (cI cS : ClassId) (mA : Nat → Nat) (mf : Int) (mn : Int) (ml : Int) (mk : Int → Int) (mg : Int → Int) (mls : Int → Int) (ms : Int → Int) (mra : Int) (mrf : Int) (mrk : Int → Int) (mrg : Int → Int) (mrl : Int → Int) (mrs : Int → Int) (mo : Int) (moo : Int → Int) (moa : Int → Int) (mp : Int) (mpp : Int → Int) (mfi : Int) (mpl : Int) (mpo : Int → Int) (mro : Int → Int) (mdp : Int) (mdf : Int) (mhg : Int → Int) (mhk : Int → Int) (mR : Int) (mRf : Int → Int) (mRo : Int → Int) (mss : Int → Int) (msl : Int → Int) (msh : Int → Int) (mha : Int → Int) (mt : Int) (sz : Nat) (fo : Int) (n : Int) (f : Int) (hfo : 0 ≤ fo ∧ 0 ≤ n ∧ n ≤ 60 ∧ fo + n ≤ 240) (hra : 0 ≤ mra ∧ mra ≤ n) (hmsh : ∀ j : Int, -2147483648 ≤ msh j ∧ msh j < 2147483648) (hf : 0 ≤ f ∧ f < 5) (hrl : 0 ≤ mrl f ∧ mrl f ≤ 4) : Met l yX7_readsStep wsX7_readsStep ({ frames := 1, cells := 0, slots := 0, locals := 25 }) (cP D cI cS (W_M cI cS mA mf mn ml mk mg mls ms mra mrf mrk mrg mrl mrs mo moo moa mp mpp mfi mpl mpo mro mdp mdf mhg mhk mR mRf mRo mss msl msh mha mt) sz [.ref (mA 0), .int (iI fo), .int (iI n), .int (iI f)]) (va_Qi (fun (r : Int32) (u : Unit) => r = iI (if mra < n ∧ 0 ≤ stv f (msh (fo + mra)) ∧ mrl f < 4 then 1 else 0)) (fun (u : Unit) t => cB D (va_A (W_M cI cS mA mf mn ml mk mg mls ms mra mrf mrk mrg mrl mrs mo moo moa mp mpp mfi mpl mpo mro mdp mdf mhg mhk mR mRf mRo mss msl msh mha mt) sz) (W_M cI cS mA mf mn ml mk mg mls ms (if mra < n ∧ 0 ≤ stv f (msh (fo + mra)) ∧ mrl f < 4 then mra + 1 else mra) mrf mrk mrg (if mra < n ∧ 0 ≤ stv f (msh (fo + mra)) ∧ mrl f < 4 then updI mrl f (mrl f + 1) else mrl) (if mra < n ∧ 0 ≤ stv f (msh (fo + mra)) ∧ mrl f < 4 then updI mrs (f * 4 + mrl f) (stv f (msh (fo + mra))) else mrs) mo moo moa mp mpp mfi mpl mpo mro mdp mdf mhg mhk mR mRf mRo mss msl msh mha mt) t) (va_A (W_M cI cS mA mf mn ml mk mg mls ms mra mrf mrk mrg mrl mrs mo moo moa mp mpp mfi mpl mpo mro mdp mdf mhg mhk mR mRf mRo mss msl msh mha mt) sz)) 0 0 (va_A (W_M cI cS mA mf mn ml mk mg mls ms mra mrf mrk mrg mrl mrs mo moo moa mp mpp mfi mpl mpo mro mdp mdf mhg mhk mR mRf mRo mss msl msh mha mt) sz) := by
  refine Met.ofW (cc := cX7_readsStep) (maxL := 6) (ret := (some .boolean)) (by decide) rfl ?_
  intro p e s m args below meth c_ s₁ B hml hv
  obtain ⟨rfl, hsz, hP, hK, hD0⟩ := hv
  have hx := B.exec
  have hb := B.bytes
  have hr := B.returns
  have hts := atoms_spec (ws := wsX7_readsStep) B.pre
  have hown : s.vm.findClass RX7 = some m.cls := findClass_of_methodNamed B.named
  have hlocks := B.notSynchronized
  subst hsz
  have hD := hD0.self (sz := s.heap.size)
  generalize hAe : va_A (W_M cI cS mA mf mn ml mk mg mls ms mra mrf mrk mrg mrl mrs mo moo moa mp mpp mfi mpl mpo mro mdp mdf mhg mhk mR mRf mRo mss msl msh mha mt) s.heap.size = A at hD ⊢
  have hA : ∀ q : Nat, s.heap.size ≤ q → A q := fun q h => by rw [← hAe]; exact Or.inr h
  have hS : va_S A s.heap s.heap [] := va_S.rf
  have hP : va_P D vwCl (W_M cI cS mA mf mn ml mk mg mls ms mra mrf mrk mrg mrl mrs mo moo moa mp mpp mfi mpl mpo mro mdp mdf mhg mhk mR mRf mRo mss msl msh mha mt) s.heap := hP
  have hl := lv_entry ([.ref (mA 0), .int (iI fo), .int (iI n), .int (iI f)] : List Value) (n := 6) (Nat.le_of_ble_eq_true rfl)
  rw [lg_entry_eq]
  generalize (lg_sl ([.ref (mA 0), .int (iI fo), .int (iI n), .int (iI f)] : List Value) ++ List.replicate (6 - (lg_sl ([.ref (mA 0), .int (iI fo), .int (iI n), .int (iI f)] : List Value)).length) Slot.unset).toArray = ls at hl ⊢
  have hl : lv_has ls 6 [(0, .ref (mA 0)), (1, .int (iI fo)), (2, .int (iI n)), (3, .int (iI f))] := hl
  have ck_97 := hts (.constantLong RX7 97 (lI 97)) (by decide +kernel)
  have ck_99 := hts (.constantLong RX7 99 (lI 100)) (by decide +kernel)
  have ck_101 := hts (.constantLong RX7 101 (lI 48)) (by decide +kernel)
  have ck_103 := hts (.constantLong RX7 103 (lI 47)) (by decide +kernel)
  have fl_28 := hts (.fieldLink RX7 28 "ActRowsModel" "readSteps" "[I") (by decide +kernel)
  have iw_7 : ∀ w ∈ wsX70, w ∈ wsX7_readsStep := by decide +kernel
  have fl_31 := hts (.fieldLink RX7 31 "ActRowsModel" "readStep" "[I") (by decide +kernel)
  have fl_90 := hts (.fieldLink RX7 90 "ActRowsModel" "readAt" "I") (by decide +kernel)
  refine lv_aload_n hx hb dX7_readsStep_0 rfl (lv_at hl 0 rfl) ?_
  refine lv_iload_n hx hb dX7_readsStep_1 rfl (lv_at hl 1 rfl) ?_
  refine lv_iload_n hx hb dX7_readsStep_2 rfl (lv_at hl 2 rfl) ?_
  refine x_callVi (As := [.int (iI fo), .int (iI n)]) (rest := []) ⟨hx, hb, hml, hown, hts⟩ (c_X7_codeAt l D cI cS mA mf mn ml mk mg mls ms mra mrf mrk mrg mrl mrs mo moo moa mp mpp mfi mpl mpo mro mdp mdf mhg mhk mR mRf mRo mss msl msh mha mt s.heap.size fo n (by first | assumption | omega) (by first | assumption | omega)) (cwV 2 hts gX7_readsStep_X7_codeAt rfl rfl rfl (by decide +kernel) ⟨Nat.le_of_ble_eq_true rfl, Nat.le_of_ble_eq_true rfl⟩) hK hP hD hS hA [0, 1, 2, 3, 4, 5, 6, 7, 8, 9, 10, 11, 12, 13, 14, 15, 16, 17, 18, 19, 20, 21] [] (wr := ([] : va_W)) rfl rfl (by decide) (by decide) (by decide) 0 7 rfl rfl rfl [0, 1, 2, 3, 4, 5, 6, 7, 8, 9, 10, 11, 12, 13, 14, 15, 16, 17, 18, 19, 20, 21] (fun (u : Unit) => (W_M cI cS mA mf mn ml mk mg mls ms mra mrf mrk mrg mrl mrs mo moo moa mp mpp mfi mpl mpo mro mdp mdf mhg mhk mR mRf mRo mss msl msh mha mt)) (fun _ => rfl) (by decide) rfl hl.1 rfl (Nat.le_of_ble_eq_true rfl) ⟨Nat.zero_le _, Nat.zero_le _⟩ dX7_readsStep_3 (fun r_ u_ H locs hw hP hD hS => ?_)
  try dsimp only at hw
  subst hw
  have hP : va_P D vwCl (W_M cI cS mA mf mn ml mk mg mls ms mra mrf mrk mrg mrl mrs mo moo moa mp mpp mfi mpl mpo mro mdp mdf mhg mhk mR mRf mRo mss msl msh mha mt) H := hP
  have hD : va_D A (W_M cI cS mA mf mn ml mk mg mls ms mra mrf mrk mrg mrl mrs mo moo moa mp mpp mfi mpl mpo mro mdp mdf mhg mhk mR mRf mRo mss msl msh mha mt) := hD
  obtain ⟨c, h_c⟩ : ∃ z_ : Int, z_ = (if mra < n then msh (fo + mra) else (-9)) := ⟨_, rfl⟩
  rw [← h_c]
  have hcr := hmsh (fo + mra)
  have hc0 : (mra < n ∧ c = msh (fo + mra)) ∨ (n ≤ mra ∧ c = -9) := by omega
  refine lv_istore (lv' := [(4, .int (iI c)), (0, .ref (mA 0)), (1, .int (iI fo)), (2, .int (iI n)), (3, .int (iI f))]) hx hb dX7_readsStep_6 hl (by decide) rfl (fun ls hl => ?_)
  refine lv_iload hx hb dX7_readsStep_8 (lv_at hl 0 rfl) ?_
  refine n_i2l hx hb (by omega) dX7_readsStep_10 ?_
  refine lv_ldc2 hx hb hown ck_97 dX7_readsStep_11 ?_
  refine lv_ldc2 hx hb hown ck_99 dX7_readsStep_14 ?_
  refine x_callSi (As := [.long (lI c), .long (lI 97), .long (lI 100)]) (rest := []) ⟨hx, hb, hml, hown, hts⟩ (c_X7_in l D cI cS H.size c 97 100 (by first | assumption | omega) (by first | assumption | omega) (by first | assumption | omega)) (va_cwS 3 hts gX7_readsStep_X7_in rfl rfl rfl (by decide +kernel) ⟨Nat.le_of_ble_eq_true rfl, Nat.le_of_ble_eq_true rfl⟩) hK hP hD hS hA [] [0, 1, 2, 3, 4, 5, 6, 7, 8, 9, 10, 11, 12, 13, 14, 15, 16, 17, 18, 19, 20, 21] (wr := [(mA 0, .inr (7, [.int (iI mf), .int (iI mn), .int (iI ml), .ref (mA 1), .ref (mA 2), .ref (mA 3), .ref (mA 4), .int (iI mra), .int (iI mrf), .ref (mA 5), .ref (mA 6), .ref (mA 7), .ref (mA 8), .int (iI mo), .ref (mA 9), .ref (mA 10), .int (iI mp), .ref (mA 11), .int (iI mfi), .int (iI mpl), .ref (mA 12), .ref (mA 13), .int (iI mdp), .int (iI mdf), .ref (mA 14), .ref (mA 15), .int (iI mR), .ref (mA 16), .ref (mA 17), .ref (mA 18), .ref (mA 19), .ref (mA 20), .ref (mA 21), .int (iI mt)])), (mA 1, .inl (cI, 5, .inl (aI mk))), (mA 2, .inl (cI, 5, .inl (aI mg))), (mA 3, .inl (cI, 5, .inl (aI mls))), (mA 4, .inl (cI, 20, .inl (aI ms))), (mA 5, .inl (cI, 5, .inl (aI mrk))), (mA 6, .inl (cI, 5, .inl (aI mrg))), (mA 7, .inl (cI, 5, .inl (aI mrl))), (mA 8, .inl (cI, 20, .inl (aI mrs))), (mA 9, .inl (cI, 5, .inl (aI moo))), (mA 10, .inl (cI, 5, .inl (aI moa))), (mA 11, .inl (cI, 1024, .inl (aI mpp))), (mA 12, .inl (cI, 5, .inl (aI mpo))), (mA 13, .inl (cI, 5, .inl (aI mro))), (mA 14, .inl (cI, 5, .inl (aI mhg))), (mA 15, .inl (cI, 5, .inl (aI mhk))), (mA 16, .inl (cI, 8, .inl (aI mRf))), (mA 17, .inl (cI, 8, .inl (aI mRo))), (mA 18, .inl (cI, 4, .inl (aI mss))), (mA 19, .inl (cI, 4, .inl (aI msl))), (mA 20, .inl (cI, 240, .inl (aI msh))), (mA 21, .inl (cI, 60, .inl (aI mha)))]) rfl rfl (by decide) (by decide) (by decide) [0, 1, 2, 3, 4, 5, 6, 7, 8, 9, 10, 11, 12, 13, 14, 15, 16, 17, 18, 19, 20, 21] (fun (u : Unit) => (W_M cI cS mA mf mn ml mk mg mls ms mra mrf mrk mrg mrl mrs mo moo moa mp mpp mfi mpl mpo mro mdp mdf mhg mhk mR mRf mRo mss msl msh mha mt)) (fun _ => rfl) (by decide) rfl hl.1 rfl (Nat.le_of_ble_eq_true rfl) ⟨Nat.zero_le _, Nat.zero_le _⟩ dX7_readsStep_17 (fun r_ u_ H locs hw hP hD hS => ?_)
  try dsimp only at hw
  subst hw
  have hP : va_P D vwCl (W_M cI cS mA mf mn ml mk mg mls ms mra mrf mrk mrg mrl mrs mo moo moa mp mpp mfi mpl mpo mro mdp mdf mhg mhk mR mRf mRo mss msl msh mha mt) H := hP
  have hD : va_D A (W_M cI cS mA mf mn ml mk mg mls ms mra mrf mrk mrg mrl mrs mo moo moa mp mpp mfi mpl mpo mro mdp mdf mhg mhk mR mRf mRo mss msl msh mha mt) := hD
  refine n_if_b1 (tgt := 31) hx hb dX7_readsStep_20 (by decide)  (fun c_1 => ?_) (fun c_1 => ?_)
  ·
    refine lv_iload hx hb dX7_readsStep_31 (lv_at hl 0 rfl) ?_
    refine n_i2l hx hb (by omega) dX7_readsStep_33 ?_
    refine lv_ldc2 hx hb hown ck_101 dX7_readsStep_34 ?_
    refine lv_ldc2 hx hb hown ck_103 dX7_readsStep_37 ?_
    refine lv_iload_n hx hb dX7_readsStep_40 rfl (lv_at hl 4 rfl) ?_
    refine n_i2l hx hb (by omega) dX7_readsStep_41 ?_
    refine n_ladd hx hb dX7_readsStep_42 ?_
    refine x_callSi (As := [.long (lI c), .long (lI 48), .long (lI (47 + f))]) (rest := []) ⟨hx, hb, hml, hown, hts⟩ (c_X7_in l D cI cS H.size c 48 (47 + f) (by first | assumption | omega) (by first | assumption | omega) (by first | assumption | omega)) (va_cwS 3 hts gX7_readsStep_X7_in rfl rfl rfl (by decide +kernel) ⟨Nat.le_of_ble_eq_true rfl, Nat.le_of_ble_eq_true rfl⟩) hK hP hD hS hA [] [0, 1, 2, 3, 4, 5, 6, 7, 8, 9, 10, 11, 12, 13, 14, 15, 16, 17, 18, 19, 20, 21] (wr := [(mA 0, .inr (7, [.int (iI mf), .int (iI mn), .int (iI ml), .ref (mA 1), .ref (mA 2), .ref (mA 3), .ref (mA 4), .int (iI mra), .int (iI mrf), .ref (mA 5), .ref (mA 6), .ref (mA 7), .ref (mA 8), .int (iI mo), .ref (mA 9), .ref (mA 10), .int (iI mp), .ref (mA 11), .int (iI mfi), .int (iI mpl), .ref (mA 12), .ref (mA 13), .int (iI mdp), .int (iI mdf), .ref (mA 14), .ref (mA 15), .int (iI mR), .ref (mA 16), .ref (mA 17), .ref (mA 18), .ref (mA 19), .ref (mA 20), .ref (mA 21), .int (iI mt)])), (mA 1, .inl (cI, 5, .inl (aI mk))), (mA 2, .inl (cI, 5, .inl (aI mg))), (mA 3, .inl (cI, 5, .inl (aI mls))), (mA 4, .inl (cI, 20, .inl (aI ms))), (mA 5, .inl (cI, 5, .inl (aI mrk))), (mA 6, .inl (cI, 5, .inl (aI mrg))), (mA 7, .inl (cI, 5, .inl (aI mrl))), (mA 8, .inl (cI, 20, .inl (aI mrs))), (mA 9, .inl (cI, 5, .inl (aI moo))), (mA 10, .inl (cI, 5, .inl (aI moa))), (mA 11, .inl (cI, 1024, .inl (aI mpp))), (mA 12, .inl (cI, 5, .inl (aI mpo))), (mA 13, .inl (cI, 5, .inl (aI mro))), (mA 14, .inl (cI, 5, .inl (aI mhg))), (mA 15, .inl (cI, 5, .inl (aI mhk))), (mA 16, .inl (cI, 8, .inl (aI mRf))), (mA 17, .inl (cI, 8, .inl (aI mRo))), (mA 18, .inl (cI, 4, .inl (aI mss))), (mA 19, .inl (cI, 4, .inl (aI msl))), (mA 20, .inl (cI, 240, .inl (aI msh))), (mA 21, .inl (cI, 60, .inl (aI mha)))]) rfl rfl (by decide) (by decide) (by decide) [0, 1, 2, 3, 4, 5, 6, 7, 8, 9, 10, 11, 12, 13, 14, 15, 16, 17, 18, 19, 20, 21] (fun (u : Unit) => (W_M cI cS mA mf mn ml mk mg mls ms mra mrf mrk mrg mrl mrs mo moo moa mp mpp mfi mpl mpo mro mdp mdf mhg mhk mR mRf mRo mss msl msh mha mt)) (fun _ => rfl) (by decide) rfl hl.1 rfl (Nat.le_of_ble_eq_true rfl) ⟨Nat.zero_le _, Nat.zero_le _⟩ dX7_readsStep_43 (fun r_ u_ H locs hw hP hD hS => ?_)
    try dsimp only at hw
    subst hw
    have hP : va_P D vwCl (W_M cI cS mA mf mn ml mk mg mls ms mra mrf mrk mrg mrl mrs mo moo moa mp mpp mfi mpl mpo mro mdp mdf mhg mhk mR mRf mRo mss msl msh mha mt) H := hP
    have hD : va_D A (W_M cI cS mA mf mn ml mk mg mls ms mra mrf mrk mrg mrl mrs mo moo moa mp mpp mfi mpl mpo mro mdp mdf mhg mhk mR mRf mRo mss msl msh mha mt) := hD
    refine n_if_b1 (tgt := 59) hx hb dX7_readsStep_46 (by decide)  (fun c_2 => ?_) (fun c_2 => ?_)
    ·
      have hstv : n ≤ mra ∨ stv f (msh (fo + mra)) = -1 := by
        by_cases q : mra < n
        · right; unfold stv; rw [if_neg (by omega), if_neg (by omega)]
        · left; omega
      refine lv_bipush (v := iI (-9)) hx hb dX7_readsStep_59 (by decide +kernel) ?_
      refine lv_istore (lv' := [(5, .int (iI (-9))), (4, .int (iI c)), (0, .ref (mA 0)), (1, .int (iI fo)), (2, .int (iI n)), (3, .int (iI f))]) hx hb dX7_readsStep_61 hl (by decide) rfl (fun ls hl => ?_)
      refine lv_iload hx hb dX7_readsStep_63 (lv_at hl 0 rfl) ?_
      refine n_if_lt (tgt := 78) hx hb dX7_readsStep_65 (by decide) (by omega) (fun c_3 => ?_) (fun c_3 => ?_)
      ·
        refine lv_iconst (v := iI 0) hx hb dX7_readsStep_78 (by decide +kernel) ?_
        have e_4 : (mrs : Int → Int) = (if mra < n ∧ 0 ≤ stv f (msh (fo + mra)) ∧ mrl f < 4 then updI mrs (f * 4 + mrl f) (stv f (msh (fo + mra))) else mrs) := (by first | (rw [if_pos (by omega), hstv, Int.mul_comm 4 f]; done) | (rw [if_neg (by omega)]; done))
        have hP : va_P D vwCl (W_M cI cS mA mf mn ml mk mg mls ms mra mrf mrk mrg mrl (if mra < n ∧ 0 ≤ stv f (msh (fo + mra)) ∧ mrl f < 4 then updI mrs (f * 4 + mrl f) (stv f (msh (fo + mra))) else mrs) mo moo moa mp mpp mfi mpl mpo mro mdp mdf mhg mhk mR mRf mRo mss msl msh mha mt) H := Eq.mp (congrArg (fun z_ => va_P D vwCl (W_M cI cS mA mf mn ml mk mg mls ms mra mrf mrk mrg mrl z_ mo moo moa mp mpp mfi mpl mpo mro mdp mdf mhg mhk mR mRf mRo mss msl msh mha mt) H) e_4) hP
        have hD : va_D A (W_M cI cS mA mf mn ml mk mg mls ms mra mrf mrk mrg mrl (if mra < n ∧ 0 ≤ stv f (msh (fo + mra)) ∧ mrl f < 4 then updI mrs (f * 4 + mrl f) (stv f (msh (fo + mra))) else mrs) mo moo moa mp mpp mfi mpl mpo mro mdp mdf mhg mhk mR mRf mRo mss msl msh mha mt) := Eq.mp (congrArg (fun z_ => va_D A (W_M cI cS mA mf mn ml mk mg mls ms mra mrf mrk mrg mrl z_ mo moo moa mp mpp mfi mpl mpo mro mdp mdf mhg mhk mR mRf mRo mss msl msh mha mt)) e_4) hD
        have e_5 : (mrl : Int → Int) = (if mra < n ∧ 0 ≤ stv f (msh (fo + mra)) ∧ mrl f < 4 then updI mrl f (mrl f + 1) else mrl) := (by first | (rw [if_pos (by omega)]; done) | (rw [if_neg (by omega)]; done))
        have hP : va_P D vwCl (W_M cI cS mA mf mn ml mk mg mls ms mra mrf mrk mrg (if mra < n ∧ 0 ≤ stv f (msh (fo + mra)) ∧ mrl f < 4 then updI mrl f (mrl f + 1) else mrl) (if mra < n ∧ 0 ≤ stv f (msh (fo + mra)) ∧ mrl f < 4 then updI mrs (f * 4 + mrl f) (stv f (msh (fo + mra))) else mrs) mo moo moa mp mpp mfi mpl mpo mro mdp mdf mhg mhk mR mRf mRo mss msl msh mha mt) H := Eq.mp (congrArg (fun z_ => va_P D vwCl (W_M cI cS mA mf mn ml mk mg mls ms mra mrf mrk mrg z_ (if mra < n ∧ 0 ≤ stv f (msh (fo + mra)) ∧ mrl f < 4 then updI mrs (f * 4 + mrl f) (stv f (msh (fo + mra))) else mrs) mo moo moa mp mpp mfi mpl mpo mro mdp mdf mhg mhk mR mRf mRo mss msl msh mha mt) H) e_5) hP
        have hD : va_D A (W_M cI cS mA mf mn ml mk mg mls ms mra mrf mrk mrg (if mra < n ∧ 0 ≤ stv f (msh (fo + mra)) ∧ mrl f < 4 then updI mrl f (mrl f + 1) else mrl) (if mra < n ∧ 0 ≤ stv f (msh (fo + mra)) ∧ mrl f < 4 then updI mrs (f * 4 + mrl f) (stv f (msh (fo + mra))) else mrs) mo moo moa mp mpp mfi mpl mpo mro mdp mdf mhg mhk mR mRf mRo mss msl msh mha mt) := Eq.mp (congrArg (fun z_ => va_D A (W_M cI cS mA mf mn ml mk mg mls ms mra mrf mrk mrg z_ (if mra < n ∧ 0 ≤ stv f (msh (fo + mra)) ∧ mrl f < 4 then updI mrs (f * 4 + mrl f) (stv f (msh (fo + mra))) else mrs) mo moo moa mp mpp mfi mpl mpo mro mdp mdf mhg mhk mR mRf mRo mss msl msh mha mt)) e_5) hD
        have e_6 : (mra : Int) = (if mra < n ∧ 0 ≤ stv f (msh (fo + mra)) ∧ mrl f < 4 then mra + 1 else mra) := (by omega)
        have hP : va_P D vwCl (W_M cI cS mA mf mn ml mk mg mls ms (if mra < n ∧ 0 ≤ stv f (msh (fo + mra)) ∧ mrl f < 4 then mra + 1 else mra) mrf mrk mrg (if mra < n ∧ 0 ≤ stv f (msh (fo + mra)) ∧ mrl f < 4 then updI mrl f (mrl f + 1) else mrl) (if mra < n ∧ 0 ≤ stv f (msh (fo + mra)) ∧ mrl f < 4 then updI mrs (f * 4 + mrl f) (stv f (msh (fo + mra))) else mrs) mo moo moa mp mpp mfi mpl mpo mro mdp mdf mhg mhk mR mRf mRo mss msl msh mha mt) H := Eq.mp (congrArg (fun z_ => va_P D vwCl (W_M cI cS mA mf mn ml mk mg mls ms z_ mrf mrk mrg (if mra < n ∧ 0 ≤ stv f (msh (fo + mra)) ∧ mrl f < 4 then updI mrl f (mrl f + 1) else mrl) (if mra < n ∧ 0 ≤ stv f (msh (fo + mra)) ∧ mrl f < 4 then updI mrs (f * 4 + mrl f) (stv f (msh (fo + mra))) else mrs) mo moo moa mp mpp mfi mpl mpo mro mdp mdf mhg mhk mR mRf mRo mss msl msh mha mt) H) e_6) hP
        have hD : va_D A (W_M cI cS mA mf mn ml mk mg mls ms (if mra < n ∧ 0 ≤ stv f (msh (fo + mra)) ∧ mrl f < 4 then mra + 1 else mra) mrf mrk mrg (if mra < n ∧ 0 ≤ stv f (msh (fo + mra)) ∧ mrl f < 4 then updI mrl f (mrl f + 1) else mrl) (if mra < n ∧ 0 ≤ stv f (msh (fo + mra)) ∧ mrl f < 4 then updI mrs (f * 4 + mrl f) (stv f (msh (fo + mra))) else mrs) mo moo moa mp mpp mfi mpl mpo mro mdp mdf mhg mhk mR mRf mRo mss msl msh mha mt) := Eq.mp (congrArg (fun z_ => va_D A (W_M cI cS mA mf mn ml mk mg mls ms z_ mrf mrk mrg (if mra < n ∧ 0 ≤ stv f (msh (fo + mra)) ∧ mrl f < 4 then updI mrl f (mrl f + 1) else mrl) (if mra < n ∧ 0 ≤ stv f (msh (fo + mra)) ∧ mrl f < 4 then updI mrs (f * 4 + mrl f) (stv f (msh (fo + mra))) else mrs) mo moo moa mp mpp mfi mpl mpo mro mdp mdf mhg mhk mR mRf mRo mss msl msh mha mt)) e_6) hD
        exact W.zret (v := iI 0) (ty := .boolean) hx hb hr (by decide +kernel) (fun t ht hW => ⟨⟨_, (), rfl, congrArg iI (show 0 = (if mra < n ∧ 0 ≤ stv f (msh (fo + mra)) ∧ mrl f < 4 then 1 else 0) from (by omega)), by rw [ht]; exact hP, hD⟩, hS.F ht⟩) hS.2.2 dX7_readsStep_79
      · exact False.elim (by first | contradiction | omega)
    ·
      have hstv : stv f (msh (fo + mra)) = c - 48 + 4 := by unfold stv; rw [if_neg (by omega), if_pos (by omega)]; omega
      refine lv_iload hx hb dX7_readsStep_49 (lv_at hl 0 rfl) ?_
      refine lv_bipush (v := iI 48) hx hb dX7_readsStep_51 (by decide +kernel) ?_
      refine n_isub hx hb dX7_readsStep_53 ?_
      refine lv_iconst (v := iI 4) hx hb dX7_readsStep_54 (by decide +kernel) ?_
      refine n_iadd hx hb dX7_readsStep_55 ?_
      refine lv_goto (tgt := 61) hx hb dX7_readsStep_56 (by decide) ?_
      refine lv_istore (lv' := [(5, .int (iI ((c - 48) + 4))), (4, .int (iI c)), (0, .ref (mA 0)), (1, .int (iI fo)), (2, .int (iI n)), (3, .int (iI f))]) hx hb dX7_readsStep_61 hl (by decide) rfl (fun ls hl => ?_)
      refine lv_iload hx hb dX7_readsStep_63 (lv_at hl 0 rfl) ?_
      refine n_if_lt (tgt := 78) hx hb dX7_readsStep_65 (by decide) (by omega) (fun c_7 => ?_) (fun c_7 => ?_)
      ·
        refine lv_iconst (v := iI 0) hx hb dX7_readsStep_78 (by decide +kernel) ?_
        have e_8 : (mrs : Int → Int) = (if mra < n ∧ 0 ≤ stv f (msh (fo + mra)) ∧ mrl f < 4 then updI mrs (f * 4 + mrl f) (stv f (msh (fo + mra))) else mrs) := (by first | (rw [if_pos (by omega), hstv, Int.mul_comm 4 f]; done) | (rw [if_neg (by omega)]; done))
        have hP : va_P D vwCl (W_M cI cS mA mf mn ml mk mg mls ms mra mrf mrk mrg mrl (if mra < n ∧ 0 ≤ stv f (msh (fo + mra)) ∧ mrl f < 4 then updI mrs (f * 4 + mrl f) (stv f (msh (fo + mra))) else mrs) mo moo moa mp mpp mfi mpl mpo mro mdp mdf mhg mhk mR mRf mRo mss msl msh mha mt) H := Eq.mp (congrArg (fun z_ => va_P D vwCl (W_M cI cS mA mf mn ml mk mg mls ms mra mrf mrk mrg mrl z_ mo moo moa mp mpp mfi mpl mpo mro mdp mdf mhg mhk mR mRf mRo mss msl msh mha mt) H) e_8) hP
        have hD : va_D A (W_M cI cS mA mf mn ml mk mg mls ms mra mrf mrk mrg mrl (if mra < n ∧ 0 ≤ stv f (msh (fo + mra)) ∧ mrl f < 4 then updI mrs (f * 4 + mrl f) (stv f (msh (fo + mra))) else mrs) mo moo moa mp mpp mfi mpl mpo mro mdp mdf mhg mhk mR mRf mRo mss msl msh mha mt) := Eq.mp (congrArg (fun z_ => va_D A (W_M cI cS mA mf mn ml mk mg mls ms mra mrf mrk mrg mrl z_ mo moo moa mp mpp mfi mpl mpo mro mdp mdf mhg mhk mR mRf mRo mss msl msh mha mt)) e_8) hD
        have e_9 : (mrl : Int → Int) = (if mra < n ∧ 0 ≤ stv f (msh (fo + mra)) ∧ mrl f < 4 then updI mrl f (mrl f + 1) else mrl) := (by first | (rw [if_pos (by omega)]; done) | (rw [if_neg (by omega)]; done))
        have hP : va_P D vwCl (W_M cI cS mA mf mn ml mk mg mls ms mra mrf mrk mrg (if mra < n ∧ 0 ≤ stv f (msh (fo + mra)) ∧ mrl f < 4 then updI mrl f (mrl f + 1) else mrl) (if mra < n ∧ 0 ≤ stv f (msh (fo + mra)) ∧ mrl f < 4 then updI mrs (f * 4 + mrl f) (stv f (msh (fo + mra))) else mrs) mo moo moa mp mpp mfi mpl mpo mro mdp mdf mhg mhk mR mRf mRo mss msl msh mha mt) H := Eq.mp (congrArg (fun z_ => va_P D vwCl (W_M cI cS mA mf mn ml mk mg mls ms mra mrf mrk mrg z_ (if mra < n ∧ 0 ≤ stv f (msh (fo + mra)) ∧ mrl f < 4 then updI mrs (f * 4 + mrl f) (stv f (msh (fo + mra))) else mrs) mo moo moa mp mpp mfi mpl mpo mro mdp mdf mhg mhk mR mRf mRo mss msl msh mha mt) H) e_9) hP
        have hD : va_D A (W_M cI cS mA mf mn ml mk mg mls ms mra mrf mrk mrg (if mra < n ∧ 0 ≤ stv f (msh (fo + mra)) ∧ mrl f < 4 then updI mrl f (mrl f + 1) else mrl) (if mra < n ∧ 0 ≤ stv f (msh (fo + mra)) ∧ mrl f < 4 then updI mrs (f * 4 + mrl f) (stv f (msh (fo + mra))) else mrs) mo moo moa mp mpp mfi mpl mpo mro mdp mdf mhg mhk mR mRf mRo mss msl msh mha mt) := Eq.mp (congrArg (fun z_ => va_D A (W_M cI cS mA mf mn ml mk mg mls ms mra mrf mrk mrg z_ (if mra < n ∧ 0 ≤ stv f (msh (fo + mra)) ∧ mrl f < 4 then updI mrs (f * 4 + mrl f) (stv f (msh (fo + mra))) else mrs) mo moo moa mp mpp mfi mpl mpo mro mdp mdf mhg mhk mR mRf mRo mss msl msh mha mt)) e_9) hD
        have e_10 : (mra : Int) = (if mra < n ∧ 0 ≤ stv f (msh (fo + mra)) ∧ mrl f < 4 then mra + 1 else mra) := (by omega)
        have hP : va_P D vwCl (W_M cI cS mA mf mn ml mk mg mls ms (if mra < n ∧ 0 ≤ stv f (msh (fo + mra)) ∧ mrl f < 4 then mra + 1 else mra) mrf mrk mrg (if mra < n ∧ 0 ≤ stv f (msh (fo + mra)) ∧ mrl f < 4 then updI mrl f (mrl f + 1) else mrl) (if mra < n ∧ 0 ≤ stv f (msh (fo + mra)) ∧ mrl f < 4 then updI mrs (f * 4 + mrl f) (stv f (msh (fo + mra))) else mrs) mo moo moa mp mpp mfi mpl mpo mro mdp mdf mhg mhk mR mRf mRo mss msl msh mha mt) H := Eq.mp (congrArg (fun z_ => va_P D vwCl (W_M cI cS mA mf mn ml mk mg mls ms z_ mrf mrk mrg (if mra < n ∧ 0 ≤ stv f (msh (fo + mra)) ∧ mrl f < 4 then updI mrl f (mrl f + 1) else mrl) (if mra < n ∧ 0 ≤ stv f (msh (fo + mra)) ∧ mrl f < 4 then updI mrs (f * 4 + mrl f) (stv f (msh (fo + mra))) else mrs) mo moo moa mp mpp mfi mpl mpo mro mdp mdf mhg mhk mR mRf mRo mss msl msh mha mt) H) e_10) hP
        have hD : va_D A (W_M cI cS mA mf mn ml mk mg mls ms (if mra < n ∧ 0 ≤ stv f (msh (fo + mra)) ∧ mrl f < 4 then mra + 1 else mra) mrf mrk mrg (if mra < n ∧ 0 ≤ stv f (msh (fo + mra)) ∧ mrl f < 4 then updI mrl f (mrl f + 1) else mrl) (if mra < n ∧ 0 ≤ stv f (msh (fo + mra)) ∧ mrl f < 4 then updI mrs (f * 4 + mrl f) (stv f (msh (fo + mra))) else mrs) mo moo moa mp mpp mfi mpl mpo mro mdp mdf mhg mhk mR mRf mRo mss msl msh mha mt) := Eq.mp (congrArg (fun z_ => va_D A (W_M cI cS mA mf mn ml mk mg mls ms z_ mrf mrk mrg (if mra < n ∧ 0 ≤ stv f (msh (fo + mra)) ∧ mrl f < 4 then updI mrl f (mrl f + 1) else mrl) (if mra < n ∧ 0 ≤ stv f (msh (fo + mra)) ∧ mrl f < 4 then updI mrs (f * 4 + mrl f) (stv f (msh (fo + mra))) else mrs) mo moo moa mp mpp mfi mpl mpo mro mdp mdf mhg mhk mR mRf mRo mss msl msh mha mt)) e_10) hD
        exact W.zret (v := iI 0) (ty := .boolean) hx hb hr (by decide +kernel) (fun t ht hW => ⟨⟨_, (), rfl, congrArg iI (show 0 = (if mra < n ∧ 0 ≤ stv f (msh (fo + mra)) ∧ mrl f < 4 then 1 else 0) from (by omega)), by rw [ht]; exact hP, hD⟩, hS.F ht⟩) hS.2.2 dX7_readsStep_79
      ·
        refine lv_aload_n hx hb dX7_readsStep_68 rfl (lv_at hl 2 rfl) ?_
        refine va_get (D := D) (ci := 7) (v := .ref (mA 7)) (C := RX7) (T := TX7) (N := 34) hx hb hts iw_7 hown hK.1 hP 0 rfl rfl 11 (by decide) fl_28 (fun _ h9 => h9) rfl dX7_readsStep_69 ?_
        refine lv_iload_n hx hb dX7_readsStep_72 rfl (lv_at hl 5 rfl) ?_
        refine n_iald (n := 5) hx hb hK.1 hP 7 0 rfl rfl (by omega) (by decide) dX7_readsStep_73 ?_
        refine lv_iconst (v := iI 4) hx hb dX7_readsStep_74 (by decide +kernel) ?_
        refine n_icmp_ne (tgt := 80) hx hb dX7_readsStep_75 (by decide) (by omega) (fun c_11 => ?_) (fun c_11 => ?_)
        ·
          refine lv_aload_n hx hb dX7_readsStep_80 rfl (lv_at hl 2 rfl) ?_
          refine va_get (D := D) (ci := 7) (v := .ref (mA 8)) (C := RX7) (T := TX7) (N := 34) hx hb hts iw_7 hown hK.1 hP 0 rfl rfl 12 (by decide) fl_31 (fun _ h9 => h9) rfl dX7_readsStep_81 ?_
          refine lv_iconst (v := iI 4) hx hb dX7_readsStep_84 (by decide +kernel) ?_
          refine lv_iload_n hx hb dX7_readsStep_85 rfl (lv_at hl 5 rfl) ?_
          refine n_imul hx hb dX7_readsStep_86 ?_
          refine lv_aload_n hx hb dX7_readsStep_87 rfl (lv_at hl 2 rfl) ?_
          refine va_get (D := D) (ci := 7) (v := .ref (mA 7)) (C := RX7) (T := TX7) (N := 34) hx hb hts iw_7 hown hK.1 hP 0 rfl rfl 11 (by decide) fl_28 (fun _ h9 => h9) rfl dX7_readsStep_88 ?_
          refine lv_iload_n hx hb dX7_readsStep_91 rfl (lv_at hl 5 rfl) ?_
          refine n_iald (n := 5) hx hb hK.1 hP 7 0 rfl rfl (by omega) (by decide) dX7_readsStep_92 ?_
          refine n_iadd hx hb dX7_readsStep_93 ?_
          refine lv_iload hx hb dX7_readsStep_94 (lv_at hl 0 rfl) ?_
          refine n_iast (n := 20) hx hb hK.1 hP hD hS 8 0 rfl rfl (by omega) (by decide) dX7_readsStep_96 (fun H locs hP hD hS => ?_)
          have hP : va_P D vwCl (W_M cI cS mA mf mn ml mk mg mls ms mra mrf mrk mrg mrl (updI mrs ((4 * f) + (mrl f)) ((c - 48) + 4)) mo moo moa mp mpp mfi mpl mpo mro mdp mdf mhg mhk mR mRf mRo mss msl msh mha mt) H := hP
          have hD : va_D A (W_M cI cS mA mf mn ml mk mg mls ms mra mrf mrk mrg mrl (updI mrs ((4 * f) + (mrl f)) ((c - 48) + 4)) mo moo moa mp mpp mfi mpl mpo mro mdp mdf mhg mhk mR mRf mRo mss msl msh mha mt) := hD
          refine lv_aload_n hx hb dX7_readsStep_97 rfl (lv_at hl 2 rfl) ?_
          refine va_get (D := D) (ci := 7) (v := .ref (mA 7)) (C := RX7) (T := TX7) (N := 34) hx hb hts iw_7 hown hK.1 hP 0 rfl rfl 11 (by decide) fl_28 (fun _ h9 => h9) rfl dX7_readsStep_98 ?_
          refine lv_iload_n hx hb dX7_readsStep_101 rfl (lv_at hl 5 rfl) ?_
          refine lv_dup2_11 hx hb dX7_readsStep_102 rfl rfl ?_
          refine n_iald (n := 5) hx hb hK.1 hP 7 0 rfl rfl (by omega) (by decide) dX7_readsStep_103 ?_
          refine lv_iconst (v := iI 1) hx hb dX7_readsStep_104 (by decide +kernel) ?_
          refine n_iadd hx hb dX7_readsStep_105 ?_
          refine n_iast (n := 5) hx hb hK.1 hP hD hS 7 0 rfl rfl (by omega) (by decide) dX7_readsStep_106 (fun H locs hP hD hS => ?_)
          have hP : va_P D vwCl (W_M cI cS mA mf mn ml mk mg mls ms mra mrf mrk mrg (updI mrl f ((mrl f) + 1)) (updI mrs ((4 * f) + (mrl f)) ((c - 48) + 4)) mo moo moa mp mpp mfi mpl mpo mro mdp mdf mhg mhk mR mRf mRo mss msl msh mha mt) H := hP
          have hD : va_D A (W_M cI cS mA mf mn ml mk mg mls ms mra mrf mrk mrg (updI mrl f ((mrl f) + 1)) (updI mrs ((4 * f) + (mrl f)) ((c - 48) + 4)) mo moo moa mp mpp mfi mpl mpo mro mdp mdf mhg mhk mR mRf mRo mss msl msh mha mt) := hD
          refine lv_aload_n hx hb dX7_readsStep_107 rfl (lv_at hl 2 rfl) ?_
          refine lv_dup hx hb dX7_readsStep_108 rfl ?_
          refine va_get (D := D) (ci := 7) (v := .int (iI mra)) (C := RX7) (T := TX7) (N := 34) hx hb hts iw_7 hown hK.1 hP 0 rfl rfl 7 (by decide) fl_90 (fun _ h9 => h9) rfl dX7_readsStep_109 ?_
          refine lv_iconst (v := iI 1) hx hb dX7_readsStep_112 (by decide +kernel) ?_
          refine n_iadd hx hb dX7_readsStep_113 ?_
          refine va_put (D := D) (ci := 7) (v := .int (iI (mra + 1))) (ty := .int) (C := RX7) (T := TX7) (N := 34) hx hb hts iw_7 tyX7 tyX7_ok nmX7 hown hK.1 hP hD hS 0 rfl rfl 7 (by decide) fl_90 (fun _ h9 => h9) rfl (by decide +kernel) rfl rfl (Nat.le_of_ble_eq_true rfl) dX7_readsStep_114 (fun H locs hP hD hS => ?_)
          have hP : va_P D vwCl (W_M cI cS mA mf mn ml mk mg mls ms (mra + 1) mrf mrk mrg (updI mrl f ((mrl f) + 1)) (updI mrs ((4 * f) + (mrl f)) ((c - 48) + 4)) mo moo moa mp mpp mfi mpl mpo mro mdp mdf mhg mhk mR mRf mRo mss msl msh mha mt) H := hP
          have hD : va_D A (W_M cI cS mA mf mn ml mk mg mls ms (mra + 1) mrf mrk mrg (updI mrl f ((mrl f) + 1)) (updI mrs ((4 * f) + (mrl f)) ((c - 48) + 4)) mo moo moa mp mpp mfi mpl mpo mro mdp mdf mhg mhk mR mRf mRo mss msl msh mha mt) := hD
          refine lv_iconst (v := iI 1) hx hb dX7_readsStep_117 (by decide +kernel) ?_
          have e_12 : ((updI mrs ((4 * f) + (mrl f)) ((c - 48) + 4)) : Int → Int) = (if mra < n ∧ 0 ≤ stv f (msh (fo + mra)) ∧ mrl f < 4 then updI mrs (f * 4 + mrl f) (stv f (msh (fo + mra))) else mrs) := (by first | (rw [if_pos (by omega), hstv, Int.mul_comm 4 f]; done) | (rw [if_neg (by omega)]; done))
          have hP : va_P D vwCl (W_M cI cS mA mf mn ml mk mg mls ms (mra + 1) mrf mrk mrg (updI mrl f ((mrl f) + 1)) (if mra < n ∧ 0 ≤ stv f (msh (fo + mra)) ∧ mrl f < 4 then updI mrs (f * 4 + mrl f) (stv f (msh (fo + mra))) else mrs) mo moo moa mp mpp mfi mpl mpo mro mdp mdf mhg mhk mR mRf mRo mss msl msh mha mt) H := Eq.mp (congrArg (fun z_ => va_P D vwCl (W_M cI cS mA mf mn ml mk mg mls ms (mra + 1) mrf mrk mrg (updI mrl f ((mrl f) + 1)) z_ mo moo moa mp mpp mfi mpl mpo mro mdp mdf mhg mhk mR mRf mRo mss msl msh mha mt) H) e_12) hP
          have hD : va_D A (W_M cI cS mA mf mn ml mk mg mls ms (mra + 1) mrf mrk mrg (updI mrl f ((mrl f) + 1)) (if mra < n ∧ 0 ≤ stv f (msh (fo + mra)) ∧ mrl f < 4 then updI mrs (f * 4 + mrl f) (stv f (msh (fo + mra))) else mrs) mo moo moa mp mpp mfi mpl mpo mro mdp mdf mhg mhk mR mRf mRo mss msl msh mha mt) := Eq.mp (congrArg (fun z_ => va_D A (W_M cI cS mA mf mn ml mk mg mls ms (mra + 1) mrf mrk mrg (updI mrl f ((mrl f) + 1)) z_ mo moo moa mp mpp mfi mpl mpo mro mdp mdf mhg mhk mR mRf mRo mss msl msh mha mt)) e_12) hD
          have e_13 : ((updI mrl f ((mrl f) + 1)) : Int → Int) = (if mra < n ∧ 0 ≤ stv f (msh (fo + mra)) ∧ mrl f < 4 then updI mrl f (mrl f + 1) else mrl) := (by first | (rw [if_pos (by omega)]; done) | (rw [if_neg (by omega)]; done))
          have hP : va_P D vwCl (W_M cI cS mA mf mn ml mk mg mls ms (mra + 1) mrf mrk mrg (if mra < n ∧ 0 ≤ stv f (msh (fo + mra)) ∧ mrl f < 4 then updI mrl f (mrl f + 1) else mrl) (if mra < n ∧ 0 ≤ stv f (msh (fo + mra)) ∧ mrl f < 4 then updI mrs (f * 4 + mrl f) (stv f (msh (fo + mra))) else mrs) mo moo moa mp mpp mfi mpl mpo mro mdp mdf mhg mhk mR mRf mRo mss msl msh mha mt) H := Eq.mp (congrArg (fun z_ => va_P D vwCl (W_M cI cS mA mf mn ml mk mg mls ms (mra + 1) mrf mrk mrg z_ (if mra < n ∧ 0 ≤ stv f (msh (fo + mra)) ∧ mrl f < 4 then updI mrs (f * 4 + mrl f) (stv f (msh (fo + mra))) else mrs) mo moo moa mp mpp mfi mpl mpo mro mdp mdf mhg mhk mR mRf mRo mss msl msh mha mt) H) e_13) hP
          have hD : va_D A (W_M cI cS mA mf mn ml mk mg mls ms (mra + 1) mrf mrk mrg (if mra < n ∧ 0 ≤ stv f (msh (fo + mra)) ∧ mrl f < 4 then updI mrl f (mrl f + 1) else mrl) (if mra < n ∧ 0 ≤ stv f (msh (fo + mra)) ∧ mrl f < 4 then updI mrs (f * 4 + mrl f) (stv f (msh (fo + mra))) else mrs) mo moo moa mp mpp mfi mpl mpo mro mdp mdf mhg mhk mR mRf mRo mss msl msh mha mt) := Eq.mp (congrArg (fun z_ => va_D A (W_M cI cS mA mf mn ml mk mg mls ms (mra + 1) mrf mrk mrg z_ (if mra < n ∧ 0 ≤ stv f (msh (fo + mra)) ∧ mrl f < 4 then updI mrs (f * 4 + mrl f) (stv f (msh (fo + mra))) else mrs) mo moo moa mp mpp mfi mpl mpo mro mdp mdf mhg mhk mR mRf mRo mss msl msh mha mt)) e_13) hD
          have e_14 : ((mra + 1) : Int) = (if mra < n ∧ 0 ≤ stv f (msh (fo + mra)) ∧ mrl f < 4 then mra + 1 else mra) := (by omega)
          have hP : va_P D vwCl (W_M cI cS mA mf mn ml mk mg mls ms (if mra < n ∧ 0 ≤ stv f (msh (fo + mra)) ∧ mrl f < 4 then mra + 1 else mra) mrf mrk mrg (if mra < n ∧ 0 ≤ stv f (msh (fo + mra)) ∧ mrl f < 4 then updI mrl f (mrl f + 1) else mrl) (if mra < n ∧ 0 ≤ stv f (msh (fo + mra)) ∧ mrl f < 4 then updI mrs (f * 4 + mrl f) (stv f (msh (fo + mra))) else mrs) mo moo moa mp mpp mfi mpl mpo mro mdp mdf mhg mhk mR mRf mRo mss msl msh mha mt) H := Eq.mp (congrArg (fun z_ => va_P D vwCl (W_M cI cS mA mf mn ml mk mg mls ms z_ mrf mrk mrg (if mra < n ∧ 0 ≤ stv f (msh (fo + mra)) ∧ mrl f < 4 then updI mrl f (mrl f + 1) else mrl) (if mra < n ∧ 0 ≤ stv f (msh (fo + mra)) ∧ mrl f < 4 then updI mrs (f * 4 + mrl f) (stv f (msh (fo + mra))) else mrs) mo moo moa mp mpp mfi mpl mpo mro mdp mdf mhg mhk mR mRf mRo mss msl msh mha mt) H) e_14) hP
          have hD : va_D A (W_M cI cS mA mf mn ml mk mg mls ms (if mra < n ∧ 0 ≤ stv f (msh (fo + mra)) ∧ mrl f < 4 then mra + 1 else mra) mrf mrk mrg (if mra < n ∧ 0 ≤ stv f (msh (fo + mra)) ∧ mrl f < 4 then updI mrl f (mrl f + 1) else mrl) (if mra < n ∧ 0 ≤ stv f (msh (fo + mra)) ∧ mrl f < 4 then updI mrs (f * 4 + mrl f) (stv f (msh (fo + mra))) else mrs) mo moo moa mp mpp mfi mpl mpo mro mdp mdf mhg mhk mR mRf mRo mss msl msh mha mt) := Eq.mp (congrArg (fun z_ => va_D A (W_M cI cS mA mf mn ml mk mg mls ms z_ mrf mrk mrg (if mra < n ∧ 0 ≤ stv f (msh (fo + mra)) ∧ mrl f < 4 then updI mrl f (mrl f + 1) else mrl) (if mra < n ∧ 0 ≤ stv f (msh (fo + mra)) ∧ mrl f < 4 then updI mrs (f * 4 + mrl f) (stv f (msh (fo + mra))) else mrs) mo moo moa mp mpp mfi mpl mpo mro mdp mdf mhg mhk mR mRf mRo mss msl msh mha mt)) e_14) hD
          exact W.zret (v := iI 1) (ty := .boolean) hx hb hr (by decide +kernel) (fun t ht hW => ⟨⟨_, (), rfl, congrArg iI (show 1 = (if mra < n ∧ 0 ≤ stv f (msh (fo + mra)) ∧ mrl f < 4 then 1 else 0) from (by omega)), by rw [ht]; exact hP, hD⟩, hS.F ht⟩) hS.2.2 dX7_readsStep_118
        ·
          refine lv_iconst (v := iI 0) hx hb dX7_readsStep_78 (by decide +kernel) ?_
          have e_15 : (mrs : Int → Int) = (if mra < n ∧ 0 ≤ stv f (msh (fo + mra)) ∧ mrl f < 4 then updI mrs (f * 4 + mrl f) (stv f (msh (fo + mra))) else mrs) := (by first | (rw [if_pos (by omega), hstv, Int.mul_comm 4 f]; done) | (rw [if_neg (by omega)]; done))
          have hP : va_P D vwCl (W_M cI cS mA mf mn ml mk mg mls ms mra mrf mrk mrg mrl (if mra < n ∧ 0 ≤ stv f (msh (fo + mra)) ∧ mrl f < 4 then updI mrs (f * 4 + mrl f) (stv f (msh (fo + mra))) else mrs) mo moo moa mp mpp mfi mpl mpo mro mdp mdf mhg mhk mR mRf mRo mss msl msh mha mt) H := Eq.mp (congrArg (fun z_ => va_P D vwCl (W_M cI cS mA mf mn ml mk mg mls ms mra mrf mrk mrg mrl z_ mo moo moa mp mpp mfi mpl mpo mro mdp mdf mhg mhk mR mRf mRo mss msl msh mha mt) H) e_15) hP
          have hD : va_D A (W_M cI cS mA mf mn ml mk mg mls ms mra mrf mrk mrg mrl (if mra < n ∧ 0 ≤ stv f (msh (fo + mra)) ∧ mrl f < 4 then updI mrs (f * 4 + mrl f) (stv f (msh (fo + mra))) else mrs) mo moo moa mp mpp mfi mpl mpo mro mdp mdf mhg mhk mR mRf mRo mss msl msh mha mt) := Eq.mp (congrArg (fun z_ => va_D A (W_M cI cS mA mf mn ml mk mg mls ms mra mrf mrk mrg mrl z_ mo moo moa mp mpp mfi mpl mpo mro mdp mdf mhg mhk mR mRf mRo mss msl msh mha mt)) e_15) hD
          have e_16 : (mrl : Int → Int) = (if mra < n ∧ 0 ≤ stv f (msh (fo + mra)) ∧ mrl f < 4 then updI mrl f (mrl f + 1) else mrl) := (by first | (rw [if_pos (by omega)]; done) | (rw [if_neg (by omega)]; done))
          have hP : va_P D vwCl (W_M cI cS mA mf mn ml mk mg mls ms mra mrf mrk mrg (if mra < n ∧ 0 ≤ stv f (msh (fo + mra)) ∧ mrl f < 4 then updI mrl f (mrl f + 1) else mrl) (if mra < n ∧ 0 ≤ stv f (msh (fo + mra)) ∧ mrl f < 4 then updI mrs (f * 4 + mrl f) (stv f (msh (fo + mra))) else mrs) mo moo moa mp mpp mfi mpl mpo mro mdp mdf mhg mhk mR mRf mRo mss msl msh mha mt) H := Eq.mp (congrArg (fun z_ => va_P D vwCl (W_M cI cS mA mf mn ml mk mg mls ms mra mrf mrk mrg z_ (if mra < n ∧ 0 ≤ stv f (msh (fo + mra)) ∧ mrl f < 4 then updI mrs (f * 4 + mrl f) (stv f (msh (fo + mra))) else mrs) mo moo moa mp mpp mfi mpl mpo mro mdp mdf mhg mhk mR mRf mRo mss msl msh mha mt) H) e_16) hP
          have hD : va_D A (W_M cI cS mA mf mn ml mk mg mls ms mra mrf mrk mrg (if mra < n ∧ 0 ≤ stv f (msh (fo + mra)) ∧ mrl f < 4 then updI mrl f (mrl f + 1) else mrl) (if mra < n ∧ 0 ≤ stv f (msh (fo + mra)) ∧ mrl f < 4 then updI mrs (f * 4 + mrl f) (stv f (msh (fo + mra))) else mrs) mo moo moa mp mpp mfi mpl mpo mro mdp mdf mhg mhk mR mRf mRo mss msl msh mha mt) := Eq.mp (congrArg (fun z_ => va_D A (W_M cI cS mA mf mn ml mk mg mls ms mra mrf mrk mrg z_ (if mra < n ∧ 0 ≤ stv f (msh (fo + mra)) ∧ mrl f < 4 then updI mrs (f * 4 + mrl f) (stv f (msh (fo + mra))) else mrs) mo moo moa mp mpp mfi mpl mpo mro mdp mdf mhg mhk mR mRf mRo mss msl msh mha mt)) e_16) hD
          have e_17 : (mra : Int) = (if mra < n ∧ 0 ≤ stv f (msh (fo + mra)) ∧ mrl f < 4 then mra + 1 else mra) := (by omega)
          have hP : va_P D vwCl (W_M cI cS mA mf mn ml mk mg mls ms (if mra < n ∧ 0 ≤ stv f (msh (fo + mra)) ∧ mrl f < 4 then mra + 1 else mra) mrf mrk mrg (if mra < n ∧ 0 ≤ stv f (msh (fo + mra)) ∧ mrl f < 4 then updI mrl f (mrl f + 1) else mrl) (if mra < n ∧ 0 ≤ stv f (msh (fo + mra)) ∧ mrl f < 4 then updI mrs (f * 4 + mrl f) (stv f (msh (fo + mra))) else mrs) mo moo moa mp mpp mfi mpl mpo mro mdp mdf mhg mhk mR mRf mRo mss msl msh mha mt) H := Eq.mp (congrArg (fun z_ => va_P D vwCl (W_M cI cS mA mf mn ml mk mg mls ms z_ mrf mrk mrg (if mra < n ∧ 0 ≤ stv f (msh (fo + mra)) ∧ mrl f < 4 then updI mrl f (mrl f + 1) else mrl) (if mra < n ∧ 0 ≤ stv f (msh (fo + mra)) ∧ mrl f < 4 then updI mrs (f * 4 + mrl f) (stv f (msh (fo + mra))) else mrs) mo moo moa mp mpp mfi mpl mpo mro mdp mdf mhg mhk mR mRf mRo mss msl msh mha mt) H) e_17) hP
          have hD : va_D A (W_M cI cS mA mf mn ml mk mg mls ms (if mra < n ∧ 0 ≤ stv f (msh (fo + mra)) ∧ mrl f < 4 then mra + 1 else mra) mrf mrk mrg (if mra < n ∧ 0 ≤ stv f (msh (fo + mra)) ∧ mrl f < 4 then updI mrl f (mrl f + 1) else mrl) (if mra < n ∧ 0 ≤ stv f (msh (fo + mra)) ∧ mrl f < 4 then updI mrs (f * 4 + mrl f) (stv f (msh (fo + mra))) else mrs) mo moo moa mp mpp mfi mpl mpo mro mdp mdf mhg mhk mR mRf mRo mss msl msh mha mt) := Eq.mp (congrArg (fun z_ => va_D A (W_M cI cS mA mf mn ml mk mg mls ms z_ mrf mrk mrg (if mra < n ∧ 0 ≤ stv f (msh (fo + mra)) ∧ mrl f < 4 then updI mrl f (mrl f + 1) else mrl) (if mra < n ∧ 0 ≤ stv f (msh (fo + mra)) ∧ mrl f < 4 then updI mrs (f * 4 + mrl f) (stv f (msh (fo + mra))) else mrs) mo moo moa mp mpp mfi mpl mpo mro mdp mdf mhg mhk mR mRf mRo mss msl msh mha mt)) e_17) hD
          exact W.zret (v := iI 0) (ty := .boolean) hx hb hr (by decide +kernel) (fun t ht hW => ⟨⟨_, (), rfl, congrArg iI (show 0 = (if mra < n ∧ 0 ≤ stv f (msh (fo + mra)) ∧ mrl f < 4 then 1 else 0) from (by omega)), by rw [ht]; exact hP, hD⟩, hS.F ht⟩) hS.2.2 dX7_readsStep_79
  ·
    have hstv : stv f (msh (fo + mra)) = c - 97 := by unfold stv; rw [if_pos (by omega)]; omega
    refine lv_iload hx hb dX7_readsStep_23 (lv_at hl 0 rfl) ?_
    refine lv_bipush (v := iI 97) hx hb dX7_readsStep_25 (by decide +kernel) ?_
    refine n_isub hx hb dX7_readsStep_27 ?_
    refine lv_goto (tgt := 61) hx hb dX7_readsStep_28 (by decide) ?_
    refine lv_istore (lv' := [(5, .int (iI (c - 97))), (4, .int (iI c)), (0, .ref (mA 0)), (1, .int (iI fo)), (2, .int (iI n)), (3, .int (iI f))]) hx hb dX7_readsStep_61 hl (by decide) rfl (fun ls hl => ?_)
    refine lv_iload hx hb dX7_readsStep_63 (lv_at hl 0 rfl) ?_
    refine n_if_lt (tgt := 78) hx hb dX7_readsStep_65 (by decide) (by omega) (fun c_18 => ?_) (fun c_18 => ?_)
    ·
      refine lv_iconst (v := iI 0) hx hb dX7_readsStep_78 (by decide +kernel) ?_
      have e_19 : (mrs : Int → Int) = (if mra < n ∧ 0 ≤ stv f (msh (fo + mra)) ∧ mrl f < 4 then updI mrs (f * 4 + mrl f) (stv f (msh (fo + mra))) else mrs) := (by first | (rw [if_pos (by omega), hstv, Int.mul_comm 4 f]; done) | (rw [if_neg (by omega)]; done))
      have hP : va_P D vwCl (W_M cI cS mA mf mn ml mk mg mls ms mra mrf mrk mrg mrl (if mra < n ∧ 0 ≤ stv f (msh (fo + mra)) ∧ mrl f < 4 then updI mrs (f * 4 + mrl f) (stv f (msh (fo + mra))) else mrs) mo moo moa mp mpp mfi mpl mpo mro mdp mdf mhg mhk mR mRf mRo mss msl msh mha mt) H := Eq.mp (congrArg (fun z_ => va_P D vwCl (W_M cI cS mA mf mn ml mk mg mls ms mra mrf mrk mrg mrl z_ mo moo moa mp mpp mfi mpl mpo mro mdp mdf mhg mhk mR mRf mRo mss msl msh mha mt) H) e_19) hP
      have hD : va_D A (W_M cI cS mA mf mn ml mk mg mls ms mra mrf mrk mrg mrl (if mra < n ∧ 0 ≤ stv f (msh (fo + mra)) ∧ mrl f < 4 then updI mrs (f * 4 + mrl f) (stv f (msh (fo + mra))) else mrs) mo moo moa mp mpp mfi mpl mpo mro mdp mdf mhg mhk mR mRf mRo mss msl msh mha mt) := Eq.mp (congrArg (fun z_ => va_D A (W_M cI cS mA mf mn ml mk mg mls ms mra mrf mrk mrg mrl z_ mo moo moa mp mpp mfi mpl mpo mro mdp mdf mhg mhk mR mRf mRo mss msl msh mha mt)) e_19) hD
      have e_20 : (mrl : Int → Int) = (if mra < n ∧ 0 ≤ stv f (msh (fo + mra)) ∧ mrl f < 4 then updI mrl f (mrl f + 1) else mrl) := (by first | (rw [if_pos (by omega)]; done) | (rw [if_neg (by omega)]; done))
      have hP : va_P D vwCl (W_M cI cS mA mf mn ml mk mg mls ms mra mrf mrk mrg (if mra < n ∧ 0 ≤ stv f (msh (fo + mra)) ∧ mrl f < 4 then updI mrl f (mrl f + 1) else mrl) (if mra < n ∧ 0 ≤ stv f (msh (fo + mra)) ∧ mrl f < 4 then updI mrs (f * 4 + mrl f) (stv f (msh (fo + mra))) else mrs) mo moo moa mp mpp mfi mpl mpo mro mdp mdf mhg mhk mR mRf mRo mss msl msh mha mt) H := Eq.mp (congrArg (fun z_ => va_P D vwCl (W_M cI cS mA mf mn ml mk mg mls ms mra mrf mrk mrg z_ (if mra < n ∧ 0 ≤ stv f (msh (fo + mra)) ∧ mrl f < 4 then updI mrs (f * 4 + mrl f) (stv f (msh (fo + mra))) else mrs) mo moo moa mp mpp mfi mpl mpo mro mdp mdf mhg mhk mR mRf mRo mss msl msh mha mt) H) e_20) hP
      have hD : va_D A (W_M cI cS mA mf mn ml mk mg mls ms mra mrf mrk mrg (if mra < n ∧ 0 ≤ stv f (msh (fo + mra)) ∧ mrl f < 4 then updI mrl f (mrl f + 1) else mrl) (if mra < n ∧ 0 ≤ stv f (msh (fo + mra)) ∧ mrl f < 4 then updI mrs (f * 4 + mrl f) (stv f (msh (fo + mra))) else mrs) mo moo moa mp mpp mfi mpl mpo mro mdp mdf mhg mhk mR mRf mRo mss msl msh mha mt) := Eq.mp (congrArg (fun z_ => va_D A (W_M cI cS mA mf mn ml mk mg mls ms mra mrf mrk mrg z_ (if mra < n ∧ 0 ≤ stv f (msh (fo + mra)) ∧ mrl f < 4 then updI mrs (f * 4 + mrl f) (stv f (msh (fo + mra))) else mrs) mo moo moa mp mpp mfi mpl mpo mro mdp mdf mhg mhk mR mRf mRo mss msl msh mha mt)) e_20) hD
      have e_21 : (mra : Int) = (if mra < n ∧ 0 ≤ stv f (msh (fo + mra)) ∧ mrl f < 4 then mra + 1 else mra) := (by omega)
      have hP : va_P D vwCl (W_M cI cS mA mf mn ml mk mg mls ms (if mra < n ∧ 0 ≤ stv f (msh (fo + mra)) ∧ mrl f < 4 then mra + 1 else mra) mrf mrk mrg (if mra < n ∧ 0 ≤ stv f (msh (fo + mra)) ∧ mrl f < 4 then updI mrl f (mrl f + 1) else mrl) (if mra < n ∧ 0 ≤ stv f (msh (fo + mra)) ∧ mrl f < 4 then updI mrs (f * 4 + mrl f) (stv f (msh (fo + mra))) else mrs) mo moo moa mp mpp mfi mpl mpo mro mdp mdf mhg mhk mR mRf mRo mss msl msh mha mt) H := Eq.mp (congrArg (fun z_ => va_P D vwCl (W_M cI cS mA mf mn ml mk mg mls ms z_ mrf mrk mrg (if mra < n ∧ 0 ≤ stv f (msh (fo + mra)) ∧ mrl f < 4 then updI mrl f (mrl f + 1) else mrl) (if mra < n ∧ 0 ≤ stv f (msh (fo + mra)) ∧ mrl f < 4 then updI mrs (f * 4 + mrl f) (stv f (msh (fo + mra))) else mrs) mo moo moa mp mpp mfi mpl mpo mro mdp mdf mhg mhk mR mRf mRo mss msl msh mha mt) H) e_21) hP
      have hD : va_D A (W_M cI cS mA mf mn ml mk mg mls ms (if mra < n ∧ 0 ≤ stv f (msh (fo + mra)) ∧ mrl f < 4 then mra + 1 else mra) mrf mrk mrg (if mra < n ∧ 0 ≤ stv f (msh (fo + mra)) ∧ mrl f < 4 then updI mrl f (mrl f + 1) else mrl) (if mra < n ∧ 0 ≤ stv f (msh (fo + mra)) ∧ mrl f < 4 then updI mrs (f * 4 + mrl f) (stv f (msh (fo + mra))) else mrs) mo moo moa mp mpp mfi mpl mpo mro mdp mdf mhg mhk mR mRf mRo mss msl msh mha mt) := Eq.mp (congrArg (fun z_ => va_D A (W_M cI cS mA mf mn ml mk mg mls ms z_ mrf mrk mrg (if mra < n ∧ 0 ≤ stv f (msh (fo + mra)) ∧ mrl f < 4 then updI mrl f (mrl f + 1) else mrl) (if mra < n ∧ 0 ≤ stv f (msh (fo + mra)) ∧ mrl f < 4 then updI mrs (f * 4 + mrl f) (stv f (msh (fo + mra))) else mrs) mo moo moa mp mpp mfi mpl mpo mro mdp mdf mhg mhk mR mRf mRo mss msl msh mha mt)) e_21) hD
      exact W.zret (v := iI 0) (ty := .boolean) hx hb hr (by decide +kernel) (fun t ht hW => ⟨⟨_, (), rfl, congrArg iI (show 0 = (if mra < n ∧ 0 ≤ stv f (msh (fo + mra)) ∧ mrl f < 4 then 1 else 0) from (by omega)), by rw [ht]; exact hP, hD⟩, hS.F ht⟩) hS.2.2 dX7_readsStep_79
    ·
      refine lv_aload_n hx hb dX7_readsStep_68 rfl (lv_at hl 2 rfl) ?_
      refine va_get (D := D) (ci := 7) (v := .ref (mA 7)) (C := RX7) (T := TX7) (N := 34) hx hb hts iw_7 hown hK.1 hP 0 rfl rfl 11 (by decide) fl_28 (fun _ h9 => h9) rfl dX7_readsStep_69 ?_
      refine lv_iload_n hx hb dX7_readsStep_72 rfl (lv_at hl 5 rfl) ?_
      refine n_iald (n := 5) hx hb hK.1 hP 7 0 rfl rfl (by omega) (by decide) dX7_readsStep_73 ?_
      refine lv_iconst (v := iI 4) hx hb dX7_readsStep_74 (by decide +kernel) ?_
      refine n_icmp_ne (tgt := 80) hx hb dX7_readsStep_75 (by decide) (by omega) (fun c_22 => ?_) (fun c_22 => ?_)
      ·
        refine lv_aload_n hx hb dX7_readsStep_80 rfl (lv_at hl 2 rfl) ?_
        refine va_get (D := D) (ci := 7) (v := .ref (mA 8)) (C := RX7) (T := TX7) (N := 34) hx hb hts iw_7 hown hK.1 hP 0 rfl rfl 12 (by decide) fl_31 (fun _ h9 => h9) rfl dX7_readsStep_81 ?_
        refine lv_iconst (v := iI 4) hx hb dX7_readsStep_84 (by decide +kernel) ?_
        refine lv_iload_n hx hb dX7_readsStep_85 rfl (lv_at hl 5 rfl) ?_
        refine n_imul hx hb dX7_readsStep_86 ?_
        refine lv_aload_n hx hb dX7_readsStep_87 rfl (lv_at hl 2 rfl) ?_
        refine va_get (D := D) (ci := 7) (v := .ref (mA 7)) (C := RX7) (T := TX7) (N := 34) hx hb hts iw_7 hown hK.1 hP 0 rfl rfl 11 (by decide) fl_28 (fun _ h9 => h9) rfl dX7_readsStep_88 ?_
        refine lv_iload_n hx hb dX7_readsStep_91 rfl (lv_at hl 5 rfl) ?_
        refine n_iald (n := 5) hx hb hK.1 hP 7 0 rfl rfl (by omega) (by decide) dX7_readsStep_92 ?_
        refine n_iadd hx hb dX7_readsStep_93 ?_
        refine lv_iload hx hb dX7_readsStep_94 (lv_at hl 0 rfl) ?_
        refine n_iast (n := 20) hx hb hK.1 hP hD hS 8 0 rfl rfl (by omega) (by decide) dX7_readsStep_96 (fun H locs hP hD hS => ?_)
        have hP : va_P D vwCl (W_M cI cS mA mf mn ml mk mg mls ms mra mrf mrk mrg mrl (updI mrs ((4 * f) + (mrl f)) (c - 97)) mo moo moa mp mpp mfi mpl mpo mro mdp mdf mhg mhk mR mRf mRo mss msl msh mha mt) H := hP
        have hD : va_D A (W_M cI cS mA mf mn ml mk mg mls ms mra mrf mrk mrg mrl (updI mrs ((4 * f) + (mrl f)) (c - 97)) mo moo moa mp mpp mfi mpl mpo mro mdp mdf mhg mhk mR mRf mRo mss msl msh mha mt) := hD
        refine lv_aload_n hx hb dX7_readsStep_97 rfl (lv_at hl 2 rfl) ?_
        refine va_get (D := D) (ci := 7) (v := .ref (mA 7)) (C := RX7) (T := TX7) (N := 34) hx hb hts iw_7 hown hK.1 hP 0 rfl rfl 11 (by decide) fl_28 (fun _ h9 => h9) rfl dX7_readsStep_98 ?_
        refine lv_iload_n hx hb dX7_readsStep_101 rfl (lv_at hl 5 rfl) ?_
        refine lv_dup2_11 hx hb dX7_readsStep_102 rfl rfl ?_
        refine n_iald (n := 5) hx hb hK.1 hP 7 0 rfl rfl (by omega) (by decide) dX7_readsStep_103 ?_
        refine lv_iconst (v := iI 1) hx hb dX7_readsStep_104 (by decide +kernel) ?_
        refine n_iadd hx hb dX7_readsStep_105 ?_
        refine n_iast (n := 5) hx hb hK.1 hP hD hS 7 0 rfl rfl (by omega) (by decide) dX7_readsStep_106 (fun H locs hP hD hS => ?_)
        have hP : va_P D vwCl (W_M cI cS mA mf mn ml mk mg mls ms mra mrf mrk mrg (updI mrl f ((mrl f) + 1)) (updI mrs ((4 * f) + (mrl f)) (c - 97)) mo moo moa mp mpp mfi mpl mpo mro mdp mdf mhg mhk mR mRf mRo mss msl msh mha mt) H := hP
        have hD : va_D A (W_M cI cS mA mf mn ml mk mg mls ms mra mrf mrk mrg (updI mrl f ((mrl f) + 1)) (updI mrs ((4 * f) + (mrl f)) (c - 97)) mo moo moa mp mpp mfi mpl mpo mro mdp mdf mhg mhk mR mRf mRo mss msl msh mha mt) := hD
        refine lv_aload_n hx hb dX7_readsStep_107 rfl (lv_at hl 2 rfl) ?_
        refine lv_dup hx hb dX7_readsStep_108 rfl ?_
        refine va_get (D := D) (ci := 7) (v := .int (iI mra)) (C := RX7) (T := TX7) (N := 34) hx hb hts iw_7 hown hK.1 hP 0 rfl rfl 7 (by decide) fl_90 (fun _ h9 => h9) rfl dX7_readsStep_109 ?_
        refine lv_iconst (v := iI 1) hx hb dX7_readsStep_112 (by decide +kernel) ?_
        refine n_iadd hx hb dX7_readsStep_113 ?_
        refine va_put (D := D) (ci := 7) (v := .int (iI (mra + 1))) (ty := .int) (C := RX7) (T := TX7) (N := 34) hx hb hts iw_7 tyX7 tyX7_ok nmX7 hown hK.1 hP hD hS 0 rfl rfl 7 (by decide) fl_90 (fun _ h9 => h9) rfl (by decide +kernel) rfl rfl (Nat.le_of_ble_eq_true rfl) dX7_readsStep_114 (fun H locs hP hD hS => ?_)
        have hP : va_P D vwCl (W_M cI cS mA mf mn ml mk mg mls ms (mra + 1) mrf mrk mrg (updI mrl f ((mrl f) + 1)) (updI mrs ((4 * f) + (mrl f)) (c - 97)) mo moo moa mp mpp mfi mpl mpo mro mdp mdf mhg mhk mR mRf mRo mss msl msh mha mt) H := hP
        have hD : va_D A (W_M cI cS mA mf mn ml mk mg mls ms (mra + 1) mrf mrk mrg (updI mrl f ((mrl f) + 1)) (updI mrs ((4 * f) + (mrl f)) (c - 97)) mo moo moa mp mpp mfi mpl mpo mro mdp mdf mhg mhk mR mRf mRo mss msl msh mha mt) := hD
        refine lv_iconst (v := iI 1) hx hb dX7_readsStep_117 (by decide +kernel) ?_
        have e_23 : ((updI mrs ((4 * f) + (mrl f)) (c - 97)) : Int → Int) = (if mra < n ∧ 0 ≤ stv f (msh (fo + mra)) ∧ mrl f < 4 then updI mrs (f * 4 + mrl f) (stv f (msh (fo + mra))) else mrs) := (by first | (rw [if_pos (by omega), hstv, Int.mul_comm 4 f]; done) | (rw [if_neg (by omega)]; done))
        have hP : va_P D vwCl (W_M cI cS mA mf mn ml mk mg mls ms (mra + 1) mrf mrk mrg (updI mrl f ((mrl f) + 1)) (if mra < n ∧ 0 ≤ stv f (msh (fo + mra)) ∧ mrl f < 4 then updI mrs (f * 4 + mrl f) (stv f (msh (fo + mra))) else mrs) mo moo moa mp mpp mfi mpl mpo mro mdp mdf mhg mhk mR mRf mRo mss msl msh mha mt) H := Eq.mp (congrArg (fun z_ => va_P D vwCl (W_M cI cS mA mf mn ml mk mg mls ms (mra + 1) mrf mrk mrg (updI mrl f ((mrl f) + 1)) z_ mo moo moa mp mpp mfi mpl mpo mro mdp mdf mhg mhk mR mRf mRo mss msl msh mha mt) H) e_23) hP
        have hD : va_D A (W_M cI cS mA mf mn ml mk mg mls ms (mra + 1) mrf mrk mrg (updI mrl f ((mrl f) + 1)) (if mra < n ∧ 0 ≤ stv f (msh (fo + mra)) ∧ mrl f < 4 then updI mrs (f * 4 + mrl f) (stv f (msh (fo + mra))) else mrs) mo moo moa mp mpp mfi mpl mpo mro mdp mdf mhg mhk mR mRf mRo mss msl msh mha mt) := Eq.mp (congrArg (fun z_ => va_D A (W_M cI cS mA mf mn ml mk mg mls ms (mra + 1) mrf mrk mrg (updI mrl f ((mrl f) + 1)) z_ mo moo moa mp mpp mfi mpl mpo mro mdp mdf mhg mhk mR mRf mRo mss msl msh mha mt)) e_23) hD
        have e_24 : ((updI mrl f ((mrl f) + 1)) : Int → Int) = (if mra < n ∧ 0 ≤ stv f (msh (fo + mra)) ∧ mrl f < 4 then updI mrl f (mrl f + 1) else mrl) := (by first | (rw [if_pos (by omega)]; done) | (rw [if_neg (by omega)]; done))
        have hP : va_P D vwCl (W_M cI cS mA mf mn ml mk mg mls ms (mra + 1) mrf mrk mrg (if mra < n ∧ 0 ≤ stv f (msh (fo + mra)) ∧ mrl f < 4 then updI mrl f (mrl f + 1) else mrl) (if mra < n ∧ 0 ≤ stv f (msh (fo + mra)) ∧ mrl f < 4 then updI mrs (f * 4 + mrl f) (stv f (msh (fo + mra))) else mrs) mo moo moa mp mpp mfi mpl mpo mro mdp mdf mhg mhk mR mRf mRo mss msl msh mha mt) H := Eq.mp (congrArg (fun z_ => va_P D vwCl (W_M cI cS mA mf mn ml mk mg mls ms (mra + 1) mrf mrk mrg z_ (if mra < n ∧ 0 ≤ stv f (msh (fo + mra)) ∧ mrl f < 4 then updI mrs (f * 4 + mrl f) (stv f (msh (fo + mra))) else mrs) mo moo moa mp mpp mfi mpl mpo mro mdp mdf mhg mhk mR mRf mRo mss msl msh mha mt) H) e_24) hP
        have hD : va_D A (W_M cI cS mA mf mn ml mk mg mls ms (mra + 1) mrf mrk mrg (if mra < n ∧ 0 ≤ stv f (msh (fo + mra)) ∧ mrl f < 4 then updI mrl f (mrl f + 1) else mrl) (if mra < n ∧ 0 ≤ stv f (msh (fo + mra)) ∧ mrl f < 4 then updI mrs (f * 4 + mrl f) (stv f (msh (fo + mra))) else mrs) mo moo moa mp mpp mfi mpl mpo mro mdp mdf mhg mhk mR mRf mRo mss msl msh mha mt) := Eq.mp (congrArg (fun z_ => va_D A (W_M cI cS mA mf mn ml mk mg mls ms (mra + 1) mrf mrk mrg z_ (if mra < n ∧ 0 ≤ stv f (msh (fo + mra)) ∧ mrl f < 4 then updI mrs (f * 4 + mrl f) (stv f (msh (fo + mra))) else mrs) mo moo moa mp mpp mfi mpl mpo mro mdp mdf mhg mhk mR mRf mRo mss msl msh mha mt)) e_24) hD
        have e_25 : ((mra + 1) : Int) = (if mra < n ∧ 0 ≤ stv f (msh (fo + mra)) ∧ mrl f < 4 then mra + 1 else mra) := (by omega)
        have hP : va_P D vwCl (W_M cI cS mA mf mn ml mk mg mls ms (if mra < n ∧ 0 ≤ stv f (msh (fo + mra)) ∧ mrl f < 4 then mra + 1 else mra) mrf mrk mrg (if mra < n ∧ 0 ≤ stv f (msh (fo + mra)) ∧ mrl f < 4 then updI mrl f (mrl f + 1) else mrl) (if mra < n ∧ 0 ≤ stv f (msh (fo + mra)) ∧ mrl f < 4 then updI mrs (f * 4 + mrl f) (stv f (msh (fo + mra))) else mrs) mo moo moa mp mpp mfi mpl mpo mro mdp mdf mhg mhk mR mRf mRo mss msl msh mha mt) H := Eq.mp (congrArg (fun z_ => va_P D vwCl (W_M cI cS mA mf mn ml mk mg mls ms z_ mrf mrk mrg (if mra < n ∧ 0 ≤ stv f (msh (fo + mra)) ∧ mrl f < 4 then updI mrl f (mrl f + 1) else mrl) (if mra < n ∧ 0 ≤ stv f (msh (fo + mra)) ∧ mrl f < 4 then updI mrs (f * 4 + mrl f) (stv f (msh (fo + mra))) else mrs) mo moo moa mp mpp mfi mpl mpo mro mdp mdf mhg mhk mR mRf mRo mss msl msh mha mt) H) e_25) hP
        have hD : va_D A (W_M cI cS mA mf mn ml mk mg mls ms (if mra < n ∧ 0 ≤ stv f (msh (fo + mra)) ∧ mrl f < 4 then mra + 1 else mra) mrf mrk mrg (if mra < n ∧ 0 ≤ stv f (msh (fo + mra)) ∧ mrl f < 4 then updI mrl f (mrl f + 1) else mrl) (if mra < n ∧ 0 ≤ stv f (msh (fo + mra)) ∧ mrl f < 4 then updI mrs (f * 4 + mrl f) (stv f (msh (fo + mra))) else mrs) mo moo moa mp mpp mfi mpl mpo mro mdp mdf mhg mhk mR mRf mRo mss msl msh mha mt) := Eq.mp (congrArg (fun z_ => va_D A (W_M cI cS mA mf mn ml mk mg mls ms z_ mrf mrk mrg (if mra < n ∧ 0 ≤ stv f (msh (fo + mra)) ∧ mrl f < 4 then updI mrl f (mrl f + 1) else mrl) (if mra < n ∧ 0 ≤ stv f (msh (fo + mra)) ∧ mrl f < 4 then updI mrs (f * 4 + mrl f) (stv f (msh (fo + mra))) else mrs) mo moo moa mp mpp mfi mpl mpo mro mdp mdf mhg mhk mR mRf mRo mss msl msh mha mt)) e_25) hD
        exact W.zret (v := iI 1) (ty := .boolean) hx hb hr (by decide +kernel) (fun t ht hW => ⟨⟨_, (), rfl, congrArg iI (show 1 = (if mra < n ∧ 0 ≤ stv f (msh (fo + mra)) ∧ mrl f < 4 then 1 else 0) from (by omega)), by rw [ht]; exact hP, hD⟩, hS.F ht⟩) hS.2.2 dX7_readsStep_118
      ·
        refine lv_iconst (v := iI 0) hx hb dX7_readsStep_78 (by decide +kernel) ?_
        have e_26 : (mrs : Int → Int) = (if mra < n ∧ 0 ≤ stv f (msh (fo + mra)) ∧ mrl f < 4 then updI mrs (f * 4 + mrl f) (stv f (msh (fo + mra))) else mrs) := (by first | (rw [if_pos (by omega), hstv, Int.mul_comm 4 f]; done) | (rw [if_neg (by omega)]; done))
        have hP : va_P D vwCl (W_M cI cS mA mf mn ml mk mg mls ms mra mrf mrk mrg mrl (if mra < n ∧ 0 ≤ stv f (msh (fo + mra)) ∧ mrl f < 4 then updI mrs (f * 4 + mrl f) (stv f (msh (fo + mra))) else mrs) mo moo moa mp mpp mfi mpl mpo mro mdp mdf mhg mhk mR mRf mRo mss msl msh mha mt) H := Eq.mp (congrArg (fun z_ => va_P D vwCl (W_M cI cS mA mf mn ml mk mg mls ms mra mrf mrk mrg mrl z_ mo moo moa mp mpp mfi mpl mpo mro mdp mdf mhg mhk mR mRf mRo mss msl msh mha mt) H) e_26) hP
        have hD : va_D A (W_M cI cS mA mf mn ml mk mg mls ms mra mrf mrk mrg mrl (if mra < n ∧ 0 ≤ stv f (msh (fo + mra)) ∧ mrl f < 4 then updI mrs (f * 4 + mrl f) (stv f (msh (fo + mra))) else mrs) mo moo moa mp mpp mfi mpl mpo mro mdp mdf mhg mhk mR mRf mRo mss msl msh mha mt) := Eq.mp (congrArg (fun z_ => va_D A (W_M cI cS mA mf mn ml mk mg mls ms mra mrf mrk mrg mrl z_ mo moo moa mp mpp mfi mpl mpo mro mdp mdf mhg mhk mR mRf mRo mss msl msh mha mt)) e_26) hD
        have e_27 : (mrl : Int → Int) = (if mra < n ∧ 0 ≤ stv f (msh (fo + mra)) ∧ mrl f < 4 then updI mrl f (mrl f + 1) else mrl) := (by first | (rw [if_pos (by omega)]; done) | (rw [if_neg (by omega)]; done))
        have hP : va_P D vwCl (W_M cI cS mA mf mn ml mk mg mls ms mra mrf mrk mrg (if mra < n ∧ 0 ≤ stv f (msh (fo + mra)) ∧ mrl f < 4 then updI mrl f (mrl f + 1) else mrl) (if mra < n ∧ 0 ≤ stv f (msh (fo + mra)) ∧ mrl f < 4 then updI mrs (f * 4 + mrl f) (stv f (msh (fo + mra))) else mrs) mo moo moa mp mpp mfi mpl mpo mro mdp mdf mhg mhk mR mRf mRo mss msl msh mha mt) H := Eq.mp (congrArg (fun z_ => va_P D vwCl (W_M cI cS mA mf mn ml mk mg mls ms mra mrf mrk mrg z_ (if mra < n ∧ 0 ≤ stv f (msh (fo + mra)) ∧ mrl f < 4 then updI mrs (f * 4 + mrl f) (stv f (msh (fo + mra))) else mrs) mo moo moa mp mpp mfi mpl mpo mro mdp mdf mhg mhk mR mRf mRo mss msl msh mha mt) H) e_27) hP
        have hD : va_D A (W_M cI cS mA mf mn ml mk mg mls ms mra mrf mrk mrg (if mra < n ∧ 0 ≤ stv f (msh (fo + mra)) ∧ mrl f < 4 then updI mrl f (mrl f + 1) else mrl) (if mra < n ∧ 0 ≤ stv f (msh (fo + mra)) ∧ mrl f < 4 then updI mrs (f * 4 + mrl f) (stv f (msh (fo + mra))) else mrs) mo moo moa mp mpp mfi mpl mpo mro mdp mdf mhg mhk mR mRf mRo mss msl msh mha mt) := Eq.mp (congrArg (fun z_ => va_D A (W_M cI cS mA mf mn ml mk mg mls ms mra mrf mrk mrg z_ (if mra < n ∧ 0 ≤ stv f (msh (fo + mra)) ∧ mrl f < 4 then updI mrs (f * 4 + mrl f) (stv f (msh (fo + mra))) else mrs) mo moo moa mp mpp mfi mpl mpo mro mdp mdf mhg mhk mR mRf mRo mss msl msh mha mt)) e_27) hD
        have e_28 : (mra : Int) = (if mra < n ∧ 0 ≤ stv f (msh (fo + mra)) ∧ mrl f < 4 then mra + 1 else mra) := (by omega)
        have hP : va_P D vwCl (W_M cI cS mA mf mn ml mk mg mls ms (if mra < n ∧ 0 ≤ stv f (msh (fo + mra)) ∧ mrl f < 4 then mra + 1 else mra) mrf mrk mrg (if mra < n ∧ 0 ≤ stv f (msh (fo + mra)) ∧ mrl f < 4 then updI mrl f (mrl f + 1) else mrl) (if mra < n ∧ 0 ≤ stv f (msh (fo + mra)) ∧ mrl f < 4 then updI mrs (f * 4 + mrl f) (stv f (msh (fo + mra))) else mrs) mo moo moa mp mpp mfi mpl mpo mro mdp mdf mhg mhk mR mRf mRo mss msl msh mha mt) H := Eq.mp (congrArg (fun z_ => va_P D vwCl (W_M cI cS mA mf mn ml mk mg mls ms z_ mrf mrk mrg (if mra < n ∧ 0 ≤ stv f (msh (fo + mra)) ∧ mrl f < 4 then updI mrl f (mrl f + 1) else mrl) (if mra < n ∧ 0 ≤ stv f (msh (fo + mra)) ∧ mrl f < 4 then updI mrs (f * 4 + mrl f) (stv f (msh (fo + mra))) else mrs) mo moo moa mp mpp mfi mpl mpo mro mdp mdf mhg mhk mR mRf mRo mss msl msh mha mt) H) e_28) hP
        have hD : va_D A (W_M cI cS mA mf mn ml mk mg mls ms (if mra < n ∧ 0 ≤ stv f (msh (fo + mra)) ∧ mrl f < 4 then mra + 1 else mra) mrf mrk mrg (if mra < n ∧ 0 ≤ stv f (msh (fo + mra)) ∧ mrl f < 4 then updI mrl f (mrl f + 1) else mrl) (if mra < n ∧ 0 ≤ stv f (msh (fo + mra)) ∧ mrl f < 4 then updI mrs (f * 4 + mrl f) (stv f (msh (fo + mra))) else mrs) mo moo moa mp mpp mfi mpl mpo mro mdp mdf mhg mhk mR mRf mRo mss msl msh mha mt) := Eq.mp (congrArg (fun z_ => va_D A (W_M cI cS mA mf mn ml mk mg mls ms z_ mrf mrk mrg (if mra < n ∧ 0 ≤ stv f (msh (fo + mra)) ∧ mrl f < 4 then updI mrl f (mrl f + 1) else mrl) (if mra < n ∧ 0 ≤ stv f (msh (fo + mra)) ∧ mrl f < 4 then updI mrs (f * 4 + mrl f) (stv f (msh (fo + mra))) else mrs) mo moo moa mp mpp mfi mpl mpo mro mdp mdf mhg mhk mR mRf mRo mss msl msh mha mt)) e_28) hD
        exact W.zret (v := iI 0) (ty := .boolean) hx hb hr (by decide +kernel) (fun t ht hW => ⟨⟨_, (), rfl, congrArg iI (show 0 = (if mra < n ∧ 0 ≤ stv f (msh (fo + mra)) ∧ mrl f < 4 then 1 else 0) from (by omega)), by rw [ht]; exact hP, hD⟩, hS.F ht⟩) hS.2.2 dX7_readsStep_79
theorem stv_59 {f : Int} {c : Int} (h : 0 ≤ stv f c) (hf : f ≤ 5 := by omega) : ¬ c = 59 := by
  intro q
  subst q
  unfold stv at h
  omega
set_option maxHeartbeats 4000000 in
set_option maxRecDepth 100000 in
theorem c_X7_readsFunction (l : Launch) (D : va_G) (cI cS : ClassId) (mA : Nat → Nat) (mf : Int) (mn : Int) (ml : Int) (mk : Int → Int) (mg : Int → Int) (mls : Int → Int) (ms : Int → Int) (mra : Int) (mrf : Int) (mrk : Int → Int) (mrg : Int → Int) (mrl : Int → Int) (mrs : Int → Int) (mo : Int) (moo : Int → Int) (moa : Int → Int) (mp : Int) (mpp : Int → Int) (mfi : Int) (mpl : Int) (mpo : Int → Int) (mro : Int → Int) (mdp : Int) (mdf : Int) (mhg : Int → Int) (mhk : Int → Int) (mR : Int) (mRf : Int → Int) (mRo : Int → Int) (mss : Int → Int) (msl : Int → Int) (msh : Int → Int) (mha : Int → Int) (mt : Int) (sz : Nat) (fo : Int) (n : Int) (hfo : 0 ≤ fo ∧ 0 ≤ n ∧ n ≤ 60 ∧ fo + n ≤ 240) (hra : 0 ≤ mra ∧ mra ≤ n) (hmsh : ∀ j : Int, -2147483648 ≤ msh j ∧ msh j < 2147483648) (hmrf : 0 ≤ mrf ∧ mrf ≤ 5) (hlt : 1 ≤ mrf → mra < n) (hstk : 1 ≤ mrf → stk n (fun j => msh (fo + j)) mra mrf mrl) : Met l yX7_readsFunction wsX7_readsFunction ({ frames := 2, cells := 0, slots := 0, locals := 50 }) (cP D cI cS (W_M cI cS mA mf mn ml mk mg mls ms mra mrf mrk mrg mrl mrs mo moo moa mp mpp mfi mpl mpo mro mdp mdf mhg mhk mR mRf mRo mss msl msh mha mt) sz [.ref (mA 0), .int (iI fo), .int (iI n)]) (va_Qi (fun (r : Int32) (u : Int × Int × (Int → Int) × (Int → Int) × (Int → Int) × (Int → Int)) => ∃ z : Int, r = iI z ∧ (0 ≤ u.1 ∧ u.1 ≤ n) ∧ ((z = 1 ∧ pRun (fun j => msh (fo + j)) (n - mra).toNat mra ((AT mrf, mrf, mrk, mrg, mrl, mrs) : PQ) = pRun (fun j => msh (fo + j)) (n - u.1).toNat u.1 ((4, u.2.1, u.2.2.1, u.2.2.2.1, u.2.2.2.2.1, u.2.2.2.2.2) : PQ) ∧ (u.2.1 = mrf + 1 ∧ mrf < 5) ∧ stk n (fun j => msh (fo + j)) u.1 u.2.1 u.2.2.2.2.1) ∨ (z = 0 ∧ (pRun (fun j => msh (fo + j)) (n - mra).toNat mra ((AT mrf, mrf, mrk, mrg, mrl, mrs) : PQ)).1 = u.1))) (fun (u : Int × Int × (Int → Int) × (Int → Int) × (Int → Int) × (Int → Int)) t => cB D (va_A (W_M cI cS mA mf mn ml mk mg mls ms mra mrf mrk mrg mrl mrs mo moo moa mp mpp mfi mpl mpo mro mdp mdf mhg mhk mR mRf mRo mss msl msh mha mt) sz) (W_M cI cS mA mf mn ml mk mg mls ms u.1 u.2.1 u.2.2.1 u.2.2.2.1 u.2.2.2.2.1 u.2.2.2.2.2 mo moo moa mp mpp mfi mpl mpo mro mdp mdf mhg mhk mR mRf mRo mss msl msh mha mt) t) (va_A (W_M cI cS mA mf mn ml mk mg mls ms mra mrf mrk mrg mrl mrs mo moo moa mp mpp mfi mpl mpo mro mdp mdf mhg mhk mR mRf mRo mss msl msh mha mt) sz)) 0 0 (va_A (W_M cI cS mA mf mn ml mk mg mls ms mra mrf mrk mrg mrl mrs mo moo moa mp mpp mfi mpl mpo mro mdp mdf mhg mhk mR mRf mRo mss msl msh mha mt) sz) := by
  refine Met.ofW (cc := cX7_readsFunction) (maxL := 7) (ret := (some .boolean)) (by decide) rfl ?_
  intro p e s m args below meth c_ s₁ B hml hv
  obtain ⟨rfl, hsz, hP, hK, hD0⟩ := hv
  have hx := B.exec
  have hb := B.bytes
  have hr := B.returns
  have hts := atoms_spec (ws := wsX7_readsFunction) B.pre
  have hown : s.vm.findClass RX7 = some m.cls := findClass_of_methodNamed B.named
  have hlocks := B.notSynchronized
  subst hsz
  have hD := hD0.self (sz := s.heap.size)
  generalize hAe : va_A (W_M cI cS mA mf mn ml mk mg mls ms mra mrf mrk mrg mrl mrs mo moo moa mp mpp mfi mpl mpo mro mdp mdf mhg mhk mR mRf mRo mss msl msh mha mt) s.heap.size = A at hD ⊢
  have hA : ∀ q : Nat, s.heap.size ≤ q → A q := fun q h => by rw [← hAe]; exact Or.inr h
  have hS : va_S A s.heap s.heap [] := va_S.rf
  have hP : va_P D vwCl (W_M cI cS mA mf mn ml mk mg mls ms mra mrf mrk mrg mrl mrs mo moo moa mp mpp mfi mpl mpo mro mdp mdf mhg mhk mR mRf mRo mss msl msh mha mt) s.heap := hP
  have hl := lv_entry ([.ref (mA 0), .int (iI fo), .int (iI n)] : List Value) (n := 7) (Nat.le_of_ble_eq_true rfl)
  rw [lg_entry_eq]
  generalize (lg_sl ([.ref (mA 0), .int (iI fo), .int (iI n)] : List Value) ++ List.replicate (7 - (lg_sl ([.ref (mA 0), .int (iI fo), .int (iI n)] : List Value)).length) Slot.unset).toArray = ls at hl ⊢
  have hl : lv_has ls 7 [(0, .ref (mA 0)), (1, .int (iI fo)), (2, .int (iI n))] := hl
  have fl_105 := hts (.fieldLink RX7 105 "ActRowsModel" "readFunctions" "I") (by decide +kernel)
  have iw_7 : ∀ w ∈ wsX70, w ∈ wsX7_readsFunction := by decide +kernel
  have fl_90 := hts (.fieldLink RX7 90 "ActRowsModel" "readAt" "I") (by decide +kernel)
  have ck_108 := hts (.constantLong RX7 108 (lI 3)) (by decide +kernel)
  have fl_25 := hts (.fieldLink RX7 25 "ActRowsModel" "readGuard" "[I") (by decide +kernel)
  have fl_28 := hts (.fieldLink RX7 28 "ActRowsModel" "readSteps" "[I") (by decide +kernel)
  have fl_22 := hts (.fieldLink RX7 22 "ActRowsModel" "readKind" "[I") (by decide +kernel)
  refine lv_aload_n hx hb dX7_readsFunction_0 rfl (lv_at hl 0 rfl) ?_
  refine va_get (D := D) (ci := 7) (v := .int (iI mrf)) (C := RX7) (T := TX7) (N := 34) hx hb hts iw_7 hown hK.1 hP 0 rfl rfl 8 (by decide) fl_105 (fun _ h9 => h9) rfl dX7_readsFunction_1 ?_
  refine lv_iconst (v := iI 5) hx hb dX7_readsFunction_4 (by decide +kernel) ?_
  refine n_icmp_eq (tgt := 19) hx hb dX7_readsFunction_5 (by decide) (by omega) (fun c_1 => ?_) (fun c_1 => ?_)
  ·
    have hfz : (pRun (fun j => msh (fo + j)) (n - mra).toNat mra ((AT mrf, mrf, mrk, mrg, mrl, mrs) : PQ)).1 = mra := pr_f (Or.inr ⟨hlt (by omega), by
      rw [pAT, if_neg (by omega)]
      by_cases q : msh (fo + mra) = 59
      · rw [if_pos q]; unfold pFun; rw [if_neg (by omega)]
      · rw [if_neg q]; unfold pStp; rw [if_neg (hstk (by omega) (hlt (by omega)) q)]⟩)
    refine lv_iconst (v := iI 0) hx hb dX7_readsFunction_19 (by decide +kernel) ?_
    exact W.zret (v := iI 0) (ty := .boolean) hx hb hr (by decide +kernel) (fun t ht hW => ⟨⟨_, (mra, mrf, mrk, mrg, mrl, mrs), rfl, ⟨0, rfl, (by (try dsimp only); exact (by omega)), (by (try dsimp only); exact (Or.inr ⟨rfl, hfz⟩))⟩, by rw [ht]; exact hP, hD⟩, hS.F ht⟩) hS.2.2 dX7_readsFunction_20
  ·
    refine lv_aload_n hx hb dX7_readsFunction_8 rfl (lv_at hl 0 rfl) ?_
    refine lv_iload_n hx hb dX7_readsFunction_9 rfl (lv_at hl 1 rfl) ?_
    refine lv_iload_n hx hb dX7_readsFunction_10 rfl (lv_at hl 2 rfl) ?_
    refine x_callVi (As := [.int (iI fo), .int (iI n)]) (rest := []) ⟨hx, hb, hml, hown, hts⟩ (c_X7_codeAt l D cI cS mA mf mn ml mk mg mls ms mra mrf mrk mrg mrl mrs mo moo moa mp mpp mfi mpl mpo mro mdp mdf mhg mhk mR mRf mRo mss msl msh mha mt s.heap.size fo n (by first | assumption | omega) (by first | assumption | omega)) (cwV 2 hts gX7_readsFunction_X7_codeAt rfl rfl rfl (by decide +kernel) ⟨Nat.le_of_ble_eq_true rfl, Nat.le_of_ble_eq_true rfl⟩) hK hP hD hS hA [0, 1, 2, 3, 4, 5, 6, 7, 8, 9, 10, 11, 12, 13, 14, 15, 16, 17, 18, 19, 20, 21] [] (wr := ([] : va_W)) rfl rfl (by decide) (by decide) (by decide) 0 7 rfl rfl rfl [0, 1, 2, 3, 4, 5, 6, 7, 8, 9, 10, 11, 12, 13, 14, 15, 16, 17, 18, 19, 20, 21] (fun (u : Unit) => (W_M cI cS mA mf mn ml mk mg mls ms mra mrf mrk mrg mrl mrs mo moo moa mp mpp mfi mpl mpo mro mdp mdf mhg mhk mR mRf mRo mss msl msh mha mt)) (fun _ => rfl) (by decide) rfl hl.1 rfl (Nat.le_of_ble_eq_true rfl) ⟨Nat.zero_le _, Nat.zero_le _⟩ dX7_readsFunction_11 (fun r_ u_ H locs hw hP hD hS => ?_)
    try dsimp only at hw
    subst hw
    have hP : va_P D vwCl (W_M cI cS mA mf mn ml mk mg mls ms mra mrf mrk mrg mrl mrs mo moo moa mp mpp mfi mpl mpo mro mdp mdf mhg mhk mR mRf mRo mss msl msh mha mt) H := hP
    have hD : va_D A (W_M cI cS mA mf mn ml mk mg mls ms mra mrf mrk mrg mrl mrs mo moo moa mp mpp mfi mpl mpo mro mdp mdf mhg mhk mR mRf mRo mss msl msh mha mt) := hD
    obtain ⟨c1, h_c1⟩ : ∃ z_ : Int, z_ = (if mra < n then msh (fo + mra) else (-9)) := ⟨_, rfl⟩
    rw [← h_c1]
    have hc1r := hmsh (fo + mra)
    have hc1 : (mra < n ∧ c1 = msh (fo + mra)) ∨ (n ≤ mra ∧ c1 = -9) := by omega
    refine lv_bipush (v := iI 59) hx hb dX7_readsFunction_14 (by decide +kernel) ?_
    refine n_icmp_eq (tgt := 21) hx hb dX7_readsFunction_16 (by decide) (by omega) (fun c_2 => ?_) (fun c_2 => ?_)
    ·
      have hq1 : pRun (fun j => msh (fo + j)) (n - mra).toNat mra ((AT mrf, mrf, mrk, mrg, mrl, mrs) : PQ) = pRun (fun j => msh (fo + j)) (n - (mra + 1)).toNat (mra + 1) ((2, mrf + 1, mrk, mrg, updI mrl mrf 0, mrs) : PQ) := pr_s (by omega) (by
        rw [pAT]
        have e : pFun mrf mrk mrg mrl mrs (msh (fo + mra)) = some (2, mrf + 1, mrk, mrg, updI mrl mrf 0, mrs) := by unfold pFun; rw [if_pos (by omega)]
        by_cases q2 : mrf = 0
        · rw [if_pos q2]; exact e
        · rw [if_neg q2, if_pos (by omega)]; exact e)
      refine lv_aload_n hx hb dX7_readsFunction_21 rfl (lv_at hl 0 rfl) ?_
      refine lv_dup hx hb dX7_readsFunction_22 rfl ?_
      refine va_get (D := D) (ci := 7) (v := .int (iI mra)) (C := RX7) (T := TX7) (N := 34) hx hb hts iw_7 hown hK.1 hP 0 rfl rfl 7 (by decide) fl_90 (fun _ h9 => h9) rfl dX7_readsFunction_23 ?_
      refine lv_iconst (v := iI 1) hx hb dX7_readsFunction_26 (by decide +kernel) ?_
      refine n_iadd hx hb dX7_readsFunction_27 ?_
      refine va_put (D := D) (ci := 7) (v := .int (iI (mra + 1))) (ty := .int) (C := RX7) (T := TX7) (N := 34) hx hb hts iw_7 tyX7 tyX7_ok nmX7 hown hK.1 hP hD hS 0 rfl rfl 7 (by decide) fl_90 (fun _ h9 => h9) rfl (by decide +kernel) rfl rfl (Nat.le_of_ble_eq_true rfl) dX7_readsFunction_28 (fun H locs hP hD hS => ?_)
      have hP : va_P D vwCl (W_M cI cS mA mf mn ml mk mg mls ms (mra + 1) mrf mrk mrg mrl mrs mo moo moa mp mpp mfi mpl mpo mro mdp mdf mhg mhk mR mRf mRo mss msl msh mha mt) H := hP
      have hD : va_D A (W_M cI cS mA mf mn ml mk mg mls ms (mra + 1) mrf mrk mrg mrl mrs mo moo moa mp mpp mfi mpl mpo mro mdp mdf mhg mhk mR mRf mRo mss msl msh mha mt) := hD
      refine lv_aload_n hx hb dX7_readsFunction_31 rfl (lv_at hl 0 rfl) ?_
      refine lv_iload_n hx hb dX7_readsFunction_32 rfl (lv_at hl 1 rfl) ?_
      refine lv_iload_n hx hb dX7_readsFunction_33 rfl (lv_at hl 2 rfl) ?_
      refine x_callVi (As := [.int (iI fo), .int (iI n)]) (rest := []) ⟨hx, hb, hml, hown, hts⟩ (c_X7_codeAt l D cI cS mA mf mn ml mk mg mls ms (mra + 1) mrf mrk mrg mrl mrs mo moo moa mp mpp mfi mpl mpo mro mdp mdf mhg mhk mR mRf mRo mss msl msh mha mt H.size fo n (by first | assumption | omega) (by first | assumption | omega)) (cwV 2 hts gX7_readsFunction_X7_codeAt rfl rfl rfl (by decide +kernel) ⟨Nat.le_of_ble_eq_true rfl, Nat.le_of_ble_eq_true rfl⟩) hK hP hD hS hA [0, 1, 2, 3, 4, 5, 6, 7, 8, 9, 10, 11, 12, 13, 14, 15, 16, 17, 18, 19, 20, 21] [] (wr := ([] : va_W)) rfl rfl (by decide) (by decide) (by decide) 0 7 rfl rfl rfl [0, 1, 2, 3, 4, 5, 6, 7, 8, 9, 10, 11, 12, 13, 14, 15, 16, 17, 18, 19, 20, 21] (fun (u : Unit) => (W_M cI cS mA mf mn ml mk mg mls ms (mra + 1) mrf mrk mrg mrl mrs mo moo moa mp mpp mfi mpl mpo mro mdp mdf mhg mhk mR mRf mRo mss msl msh mha mt)) (fun _ => rfl) (by decide) rfl hl.1 rfl (Nat.le_of_ble_eq_true rfl) ⟨Nat.zero_le _, Nat.zero_le _⟩ dX7_readsFunction_34 (fun r_ u_ H locs hw hP hD hS => ?_)
      try dsimp only at hw
      subst hw
      have hP : va_P D vwCl (W_M cI cS mA mf mn ml mk mg mls ms (mra + 1) mrf mrk mrg mrl mrs mo moo moa mp mpp mfi mpl mpo mro mdp mdf mhg mhk mR mRf mRo mss msl msh mha mt) H := hP
      have hD : va_D A (W_M cI cS mA mf mn ml mk mg mls ms (mra + 1) mrf mrk mrg mrl mrs mo moo moa mp mpp mfi mpl mpo mro mdp mdf mhg mhk mR mRf mRo mss msl msh mha mt) := hD
      obtain ⟨c2, h_c2⟩ : ∃ z_ : Int, z_ = (if (mra + 1) < n then msh (fo + (mra + 1)) else (-9)) := ⟨_, rfl⟩
      rw [← h_c2]
      have hc2r := hmsh (fo + (mra + 1))
      have hc2 : (mra + 1 < n ∧ c2 = msh (fo + (mra + 1))) ∨ (n ≤ mra + 1 ∧ c2 = -9) := by omega
      refine lv_istore_n (lv' := [(3, .int (iI c2)), (0, .ref (mA 0)), (1, .int (iI fo)), (2, .int (iI n))]) hx hb dX7_readsFunction_37 rfl hl (by decide) rfl (fun ls hl => ?_)
      refine x_cut (D := D) (A := A) (H0 := s.heap) (σ := Unit) (fun (_x : Unit) => (c2 = 112 ∨ c2 = 108 ∨ c2 = 107)) (fun (_x : Unit) => (W_M cI cS mA mf mn ml mk mg mls ms (mra + 1) mrf mrk mrg mrl mrs mo moo moa mp mpp mfi mpl mpo mro mdp mdf mhg mhk mR mRf mRo mss msl msh mha mt)) (fun (_x : Unit) => [(0, .ref (mA 0)), (1, .int (iI fo)), (2, .int (iI n)), (3, .int (iI c2))]) (nL := 7) 58 (fun (_x : Unit) => []) ?join_4 (fun K_3 => ?_)
      case join_4 =>
        intro xv_ hI H locs ls hP hD hS hl
        try dsimp only at hI
        have hk3 := hI
        have hP : va_P D vwCl (W_M cI cS mA mf mn ml mk mg mls ms (mra + 1) mrf mrk mrg mrl mrs mo moo moa mp mpp mfi mpl mpo mro mdp mdf mhg mhk mR mRf mRo mss msl msh mha mt) H := hP
        have hD : va_D A (W_M cI cS mA mf mn ml mk mg mls ms (mra + 1) mrf mrk mrg mrl mrs mo moo moa mp mpp mfi mpl mpo mro mdp mdf mhg mhk mR mRf mRo mss msl msh mha mt) := hD
        have hl : lv_has ls 7 [(0, .ref (mA 0)), (1, .int (iI fo)), (2, .int (iI n)), (3, .int (iI c2))] := hl
        refine lv_aload_n hx hb dX7_readsFunction_58 rfl (lv_at hl 0 rfl) ?_
        refine lv_dup hx hb dX7_readsFunction_59 rfl ?_
        refine va_get (D := D) (ci := 7) (v := .int (iI (mra + 1))) (C := RX7) (T := TX7) (N := 34) hx hb hts iw_7 hown hK.1 hP 0 rfl rfl 7 (by decide) fl_90 (fun _ h9 => h9) rfl dX7_readsFunction_60 ?_
        refine lv_iconst (v := iI 1) hx hb dX7_readsFunction_63 (by decide +kernel) ?_
        refine n_iadd hx hb dX7_readsFunction_64 ?_
        refine va_put (D := D) (ci := 7) (v := .int (iI ((mra + 1) + 1))) (ty := .int) (C := RX7) (T := TX7) (N := 34) hx hb hts iw_7 tyX7 tyX7_ok nmX7 hown hK.1 hP hD hS 0 rfl rfl 7 (by decide) fl_90 (fun _ h9 => h9) rfl (by decide +kernel) rfl rfl (Nat.le_of_ble_eq_true rfl) dX7_readsFunction_65 (fun H locs hP hD hS => ?_)
        have hP : va_P D vwCl (W_M cI cS mA mf mn ml mk mg mls ms ((mra + 1) + 1) mrf mrk mrg mrl mrs mo moo moa mp mpp mfi mpl mpo mro mdp mdf mhg mhk mR mRf mRo mss msl msh mha mt) H := hP
        have hD : va_D A (W_M cI cS mA mf mn ml mk mg mls ms ((mra + 1) + 1) mrf mrk mrg mrl mrs mo moo moa mp mpp mfi mpl mpo mro mdp mdf mhg mhk mR mRf mRo mss msl msh mha mt) := hD
        refine lv_aload_n hx hb dX7_readsFunction_68 rfl (lv_at hl 0 rfl) ?_
        refine lv_iload_n hx hb dX7_readsFunction_69 rfl (lv_at hl 1 rfl) ?_
        refine lv_iload_n hx hb dX7_readsFunction_70 rfl (lv_at hl 2 rfl) ?_
        refine x_callVi (As := [.int (iI fo), .int (iI n)]) (rest := []) ⟨hx, hb, hml, hown, hts⟩ (c_X7_codeAt l D cI cS mA mf mn ml mk mg mls ms ((mra + 1) + 1) mrf mrk mrg mrl mrs mo moo moa mp mpp mfi mpl mpo mro mdp mdf mhg mhk mR mRf mRo mss msl msh mha mt H.size fo n (by first | assumption | omega) (by first | assumption | omega)) (cwV 2 hts gX7_readsFunction_X7_codeAt rfl rfl rfl (by decide +kernel) ⟨Nat.le_of_ble_eq_true rfl, Nat.le_of_ble_eq_true rfl⟩) hK hP hD hS hA [0, 1, 2, 3, 4, 5, 6, 7, 8, 9, 10, 11, 12, 13, 14, 15, 16, 17, 18, 19, 20, 21] [] (wr := ([] : va_W)) rfl rfl (by decide) (by decide) (by decide) 0 7 rfl rfl rfl [0, 1, 2, 3, 4, 5, 6, 7, 8, 9, 10, 11, 12, 13, 14, 15, 16, 17, 18, 19, 20, 21] (fun (u : Unit) => (W_M cI cS mA mf mn ml mk mg mls ms ((mra + 1) + 1) mrf mrk mrg mrl mrs mo moo moa mp mpp mfi mpl mpo mro mdp mdf mhg mhk mR mRf mRo mss msl msh mha mt)) (fun _ => rfl) (by decide) rfl hl.1 rfl (Nat.le_of_ble_eq_true rfl) ⟨Nat.zero_le _, Nat.zero_le _⟩ dX7_readsFunction_71 (fun r_ u_ H locs hw hP hD hS => ?_)
        try dsimp only at hw
        subst hw
        have hP : va_P D vwCl (W_M cI cS mA mf mn ml mk mg mls ms ((mra + 1) + 1) mrf mrk mrg mrl mrs mo moo moa mp mpp mfi mpl mpo mro mdp mdf mhg mhk mR mRf mRo mss msl msh mha mt) H := hP
        have hD : va_D A (W_M cI cS mA mf mn ml mk mg mls ms ((mra + 1) + 1) mrf mrk mrg mrl mrs mo moo moa mp mpp mfi mpl mpo mro mdp mdf mhg mhk mR mRf mRo mss msl msh mha mt) := hD
        obtain ⟨c3, h_c3⟩ : ∃ z_ : Int, z_ = (if ((mra + 1) + 1) < n then msh (fo + ((mra + 1) + 1)) else (-9)) := ⟨_, rfl⟩
        rw [← h_c3]
        have hc3r := hmsh (fo + (mra + 1 + 1))
        have hc3 : (mra + 1 + 1 < n ∧ c3 = msh (fo + (mra + 1 + 1))) ∨ (n ≤ mra + 1 + 1 ∧ c3 = -9) := by omega
        have hkk3 : 0 ≤ kOf (msh (fo + (mra + 1))) := by unfold kOf; omega
        have hq2 : pRun (fun j => msh (fo + j)) (n - mra).toNat mra ((AT mrf, mrf, mrk, mrg, mrl, mrs) : PQ) = pRun (fun j => msh (fo + j)) (n - (mra + 1 + 1)).toNat (mra + 1 + 1) ((3, mrf + 1, updI mrk mrf (kOf (msh (fo + (mra + 1)))), mrg, updI mrl mrf 0, mrs) : PQ) := by
          rw [hq1]
          exact pr_s (by omega) (by rw [pS_2 rfl]; unfold pKind; rw [if_pos hkk3, show mrf + 1 - 1 = mrf by omega])
        refine lv_bipush (v := iI 48) hx hb dX7_readsFunction_74 (by decide +kernel) ?_
        refine n_isub hx hb dX7_readsFunction_76 ?_
        obtain ⟨gv, hgv1, hgv2, hgv3⟩ := wr_ex (c := c3) (by omega)
        rw [hgv1]
        refine lv_istore (lv' := [(4, .int (iI gv)), (0, .ref (mA 0)), (1, .int (iI fo)), (2, .int (iI n)), (3, .int (iI c2))]) hx hb dX7_readsFunction_77 hl (by decide) rfl (fun ls hl => ?_)
        refine lv_iload hx hb dX7_readsFunction_79 (lv_at hl 0 rfl) ?_
        refine n_i2l hx hb (by omega) dX7_readsFunction_81 ?_
        refine lv_lconst (v := lI 0) hx hb dX7_readsFunction_82 (by decide +kernel) ?_
        refine lv_ldc2 hx hb hown ck_108 dX7_readsFunction_83 ?_
        refine x_callSi (As := [.long (lI gv), .long (lI 0), .long (lI 3)]) (rest := []) ⟨hx, hb, hml, hown, hts⟩ (c_X7_in l D cI cS H.size gv 0 3 (by first | assumption | omega) (by first | assumption | omega) (by first | assumption | omega)) (va_cwS 3 hts gX7_readsFunction_X7_in rfl rfl rfl (by decide +kernel) ⟨Nat.le_of_ble_eq_true rfl, Nat.le_of_ble_eq_true rfl⟩) hK hP hD hS hA [] [0, 1, 2, 3, 4, 5, 6, 7, 8, 9, 10, 11, 12, 13, 14, 15, 16, 17, 18, 19, 20, 21] (wr := [(mA 0, .inr (7, [.int (iI mf), .int (iI mn), .int (iI ml), .ref (mA 1), .ref (mA 2), .ref (mA 3), .ref (mA 4), .int (iI ((mra + 1) + 1)), .int (iI mrf), .ref (mA 5), .ref (mA 6), .ref (mA 7), .ref (mA 8), .int (iI mo), .ref (mA 9), .ref (mA 10), .int (iI mp), .ref (mA 11), .int (iI mfi), .int (iI mpl), .ref (mA 12), .ref (mA 13), .int (iI mdp), .int (iI mdf), .ref (mA 14), .ref (mA 15), .int (iI mR), .ref (mA 16), .ref (mA 17), .ref (mA 18), .ref (mA 19), .ref (mA 20), .ref (mA 21), .int (iI mt)])), (mA 1, .inl (cI, 5, .inl (aI mk))), (mA 2, .inl (cI, 5, .inl (aI mg))), (mA 3, .inl (cI, 5, .inl (aI mls))), (mA 4, .inl (cI, 20, .inl (aI ms))), (mA 5, .inl (cI, 5, .inl (aI mrk))), (mA 6, .inl (cI, 5, .inl (aI mrg))), (mA 7, .inl (cI, 5, .inl (aI mrl))), (mA 8, .inl (cI, 20, .inl (aI mrs))), (mA 9, .inl (cI, 5, .inl (aI moo))), (mA 10, .inl (cI, 5, .inl (aI moa))), (mA 11, .inl (cI, 1024, .inl (aI mpp))), (mA 12, .inl (cI, 5, .inl (aI mpo))), (mA 13, .inl (cI, 5, .inl (aI mro))), (mA 14, .inl (cI, 5, .inl (aI mhg))), (mA 15, .inl (cI, 5, .inl (aI mhk))), (mA 16, .inl (cI, 8, .inl (aI mRf))), (mA 17, .inl (cI, 8, .inl (aI mRo))), (mA 18, .inl (cI, 4, .inl (aI mss))), (mA 19, .inl (cI, 4, .inl (aI msl))), (mA 20, .inl (cI, 240, .inl (aI msh))), (mA 21, .inl (cI, 60, .inl (aI mha)))]) rfl rfl (by decide) (by decide) (by decide) [0, 1, 2, 3, 4, 5, 6, 7, 8, 9, 10, 11, 12, 13, 14, 15, 16, 17, 18, 19, 20, 21] (fun (u : Unit) => (W_M cI cS mA mf mn ml mk mg mls ms ((mra + 1) + 1) mrf mrk mrg mrl mrs mo moo moa mp mpp mfi mpl mpo mro mdp mdf mhg mhk mR mRf mRo mss msl msh mha mt)) (fun _ => rfl) (by decide) rfl hl.1 rfl (Nat.le_of_ble_eq_true rfl) ⟨Nat.zero_le _, Nat.zero_le _⟩ dX7_readsFunction_86 (fun r_ u_ H locs hw hP hD hS => ?_)
        try dsimp only at hw
        subst hw
        have hP : va_P D vwCl (W_M cI cS mA mf mn ml mk mg mls ms ((mra + 1) + 1) mrf mrk mrg mrl mrs mo moo moa mp mpp mfi mpl mpo mro mdp mdf mhg mhk mR mRf mRo mss msl msh mha mt) H := hP
        have hD : va_D A (W_M cI cS mA mf mn ml mk mg mls ms ((mra + 1) + 1) mrf mrk mrg mrl mrs mo moo moa mp mpp mfi mpl mpo mro mdp mdf mhg mhk mR mRf mRo mss msl msh mha mt) := hD
        refine n_if_b2 (tgt := 94) hx hb dX7_readsFunction_89 (by decide)  (fun c_5 => ?_) (fun c_5 => ?_)
        ·
          have hq3 : pRun (fun j => msh (fo + j)) (n - mra).toNat mra ((AT mrf, mrf, mrk, mrg, mrl, mrs) : PQ) = pRun (fun j => msh (fo + j)) (n - (mra + 1 + 1 + 1)).toNat (mra + 1 + 1 + 1) ((4, mrf + 1, updI mrk mrf (kOf (msh (fo + (mra + 1)))), updI mrg mrf gv, updI mrl mrf 0, mrs) : PQ) := by
            rw [hq2]
            exact pr_s (by omega) (by rw [pS_3 rfl]; unfold pGuard; rw [if_pos (by omega), show mrf + 1 - 1 = mrf by omega, show msh (fo + (mra + 1 + 1)) - 48 = gv by omega])
          refine lv_aload_n hx hb dX7_readsFunction_94 rfl (lv_at hl 1 rfl) ?_
          refine lv_dup hx hb dX7_readsFunction_95 rfl ?_
          refine va_get (D := D) (ci := 7) (v := .int (iI ((mra + 1) + 1))) (C := RX7) (T := TX7) (N := 34) hx hb hts iw_7 hown hK.1 hP 0 rfl rfl 7 (by decide) fl_90 (fun _ h9 => h9) rfl dX7_readsFunction_96 ?_
          refine lv_iconst (v := iI 1) hx hb dX7_readsFunction_99 (by decide +kernel) ?_
          refine n_iadd hx hb dX7_readsFunction_100 ?_
          refine va_put (D := D) (ci := 7) (v := .int (iI (((mra + 1) + 1) + 1))) (ty := .int) (C := RX7) (T := TX7) (N := 34) hx hb hts iw_7 tyX7 tyX7_ok nmX7 hown hK.1 hP hD hS 0 rfl rfl 7 (by decide) fl_90 (fun _ h9 => h9) rfl (by decide +kernel) rfl rfl (Nat.le_of_ble_eq_true rfl) dX7_readsFunction_101 (fun H locs hP hD hS => ?_)
          have hP : va_P D vwCl (W_M cI cS mA mf mn ml mk mg mls ms (((mra + 1) + 1) + 1) mrf mrk mrg mrl mrs mo moo moa mp mpp mfi mpl mpo mro mdp mdf mhg mhk mR mRf mRo mss msl msh mha mt) H := hP
          have hD : va_D A (W_M cI cS mA mf mn ml mk mg mls ms (((mra + 1) + 1) + 1) mrf mrk mrg mrl mrs mo moo moa mp mpp mfi mpl mpo mro mdp mdf mhg mhk mR mRf mRo mss msl msh mha mt) := hD
          refine lv_aload_n hx hb dX7_readsFunction_104 rfl (lv_at hl 1 rfl) ?_
          refine va_get (D := D) (ci := 7) (v := .int (iI mrf)) (C := RX7) (T := TX7) (N := 34) hx hb hts iw_7 hown hK.1 hP 0 rfl rfl 8 (by decide) fl_105 (fun _ h9 => h9) rfl dX7_readsFunction_105 ?_
          refine lv_istore (lv' := [(5, .int (iI mrf)), (4, .int (iI gv)), (0, .ref (mA 0)), (1, .int (iI fo)), (2, .int (iI n)), (3, .int (iI c2))]) hx hb dX7_readsFunction_108 hl (by decide) rfl (fun ls hl => ?_)
          refine x_cut (D := D) (A := A) (H0 := s.heap) (σ := (Int → Int)) (fun (mrk1 : (Int → Int)) => (mrk1 = updI mrk mrf (kOf (msh (fo + (mra + 1)))))) (fun (mrk1 : (Int → Int)) => (W_M cI cS mA mf mn ml mk mg mls ms (((mra + 1) + 1) + 1) mrf mrk1 mrg mrl mrs mo moo moa mp mpp mfi mpl mpo mro mdp mdf mhg mhk mR mRf mRo mss msl msh mha mt)) (fun (mrk1 : (Int → Int)) => [(0, .ref (mA 0)), (1, .int (iI fo)), (2, .int (iI n)), (4, .int (iI gv)), (5, .int (iI mrf))]) (nL := 7) 138 (fun (mrk1 : (Int → Int)) => []) ?join_7 (fun K_6 => ?_)
          case join_7 =>
            intro xv_ hI H locs ls hP hD hS hl
            obtain ⟨mrk1, ex_⟩ : ∃ z, z = xv_ := ⟨_, rfl⟩
            subst ex_
            try dsimp only at hI
            have hmrk := hI
            have hP : va_P D vwCl (W_M cI cS mA mf mn ml mk mg mls ms (((mra + 1) + 1) + 1) mrf mrk1 mrg mrl mrs mo moo moa mp mpp mfi mpl mpo mro mdp mdf mhg mhk mR mRf mRo mss msl msh mha mt) H := hP
            have hD : va_D A (W_M cI cS mA mf mn ml mk mg mls ms (((mra + 1) + 1) + 1) mrf mrk1 mrg mrl mrs mo moo moa mp mpp mfi mpl mpo mro mdp mdf mhg mhk mR mRf mRo mss msl msh mha mt) := hD
            have hl : lv_has ls 7 [(0, .ref (mA 0)), (1, .int (iI fo)), (2, .int (iI n)), (4, .int (iI gv)), (5, .int (iI mrf))] := hl
            refine lv_aload_n hx hb dX7_readsFunction_138 rfl (lv_at hl 0 rfl) ?_
            refine va_get (D := D) (ci := 7) (v := .ref (mA 6)) (C := RX7) (T := TX7) (N := 34) hx hb hts iw_7 hown hK.1 hP 0 rfl rfl 10 (by decide) fl_25 (fun _ h9 => h9) rfl dX7_readsFunction_139 ?_
            refine lv_iload hx hb dX7_readsFunction_142 (lv_at hl 4 rfl) ?_
            refine lv_iload hx hb dX7_readsFunction_144 (lv_at hl 3 rfl) ?_
            refine n_iast (n := 5) hx hb hK.1 hP hD hS 6 0 rfl rfl (by omega) (by decide) dX7_readsFunction_146 (fun H locs hP hD hS => ?_)
            have hP : va_P D vwCl (W_M cI cS mA mf mn ml mk mg mls ms (((mra + 1) + 1) + 1) mrf mrk1 (updI mrg mrf gv) mrl mrs mo moo moa mp mpp mfi mpl mpo mro mdp mdf mhg mhk mR mRf mRo mss msl msh mha mt) H := hP
            have hD : va_D A (W_M cI cS mA mf mn ml mk mg mls ms (((mra + 1) + 1) + 1) mrf mrk1 (updI mrg mrf gv) mrl mrs mo moo moa mp mpp mfi mpl mpo mro mdp mdf mhg mhk mR mRf mRo mss msl msh mha mt) := hD
            refine lv_aload_n hx hb dX7_readsFunction_147 rfl (lv_at hl 0 rfl) ?_
            refine va_get (D := D) (ci := 7) (v := .ref (mA 7)) (C := RX7) (T := TX7) (N := 34) hx hb hts iw_7 hown hK.1 hP 0 rfl rfl 11 (by decide) fl_28 (fun _ h9 => h9) rfl dX7_readsFunction_148 ?_
            refine lv_iload hx hb dX7_readsFunction_151 (lv_at hl 4 rfl) ?_
            refine lv_iconst (v := iI 0) hx hb dX7_readsFunction_153 (by decide +kernel) ?_
            refine n_iast (n := 5) hx hb hK.1 hP hD hS 7 0 rfl rfl (by omega) (by decide) dX7_readsFunction_154 (fun H locs hP hD hS => ?_)
            have hP : va_P D vwCl (W_M cI cS mA mf mn ml mk mg mls ms (((mra + 1) + 1) + 1) mrf mrk1 (updI mrg mrf gv) (updI mrl mrf 0) mrs mo moo moa mp mpp mfi mpl mpo mro mdp mdf mhg mhk mR mRf mRo mss msl msh mha mt) H := hP
            have hD : va_D A (W_M cI cS mA mf mn ml mk mg mls ms (((mra + 1) + 1) + 1) mrf mrk1 (updI mrg mrf gv) (updI mrl mrf 0) mrs mo moo moa mp mpp mfi mpl mpo mro mdp mdf mhg mhk mR mRf mRo mss msl msh mha mt) := hD
            refine lv_iconst (v := iI 1) hx hb dX7_readsFunction_155 (by decide +kernel) ?_
            refine lv_istore (lv' := [(6, .int (iI 1)), (0, .ref (mA 0)), (1, .int (iI fo)), (2, .int (iI n)), (4, .int (iI gv)), (5, .int (iI mrf))]) hx hb dX7_readsFunction_156 hl (by decide) rfl (fun ls hl => ?_)
            refine x_loop (σ := Int × Int × (Int → Int) × (Int → Int)) (fun (xv_ : Int × Int × (Int → Int) × (Int → Int)) => match xv_ with | (mo1, ra1, mrl1, mrs1) => (mo1 = 0 ∨ mo1 = 1) ∧ (0 ≤ ra1 ∧ ra1 ≤ n) ∧ (0 ≤ mrl1 mrf ∧ mrl1 mrf ≤ 4) ∧ (pRun (fun j => msh (fo + j)) (n - mra).toNat mra ((AT mrf, mrf, mrk, mrg, mrl, mrs) : PQ) = pRun (fun j => msh (fo + j)) (n - ra1).toNat ra1 ((4, mrf + 1, updI mrk mrf (kOf (msh (fo + (mra + 1)))), updI mrg mrf gv, mrl1, mrs1) : PQ)) ∧ (mo1 = 0 → stk n (fun j => msh (fo + j)) ra1 (mrf + 1) mrl1)) (fun (xv_ : Int × Int × (Int → Int) × (Int → Int)) => match xv_ with | (mo1, ra1, mrl1, mrs1) => (if mo1 = 1 then 60 + n - ra1 else 0).toNat) (fun (xv_ : Int × Int × (Int → Int) × (Int → Int)) => match xv_ with | (mo1, ra1, mrl1, mrs1) => (W_M cI cS mA mf mn ml mk mg mls ms ra1 mrf mrk1 (updI mrg mrf gv) mrl1 mrs1 mo moo moa mp mpp mfi mpl mpo mro mdp mdf mhg mhk mR mRf mRo mss msl msh mha mt)) (fun (xv_ : Int × Int × (Int → Int) × (Int → Int)) => match xv_ with | (mo1, ra1, mrl1, mrs1) => [(6, .int (iI mo1)), (0, .ref (mA 0)), (1, .int (iI fo)), (2, .int (iI n)), (5, .int (iI mrf))]) (nL := 7) ?step_8 (1, (((mra + 1) + 1) + 1), (updI mrl mrf 0), mrs) (by (try dsimp only); exact ⟨Or.inr rfl, by omega, by rw [updI_s]; omega, hq3, fun q => absurd q (by decide)⟩) hP hD hS (lv_sub hl [0, 1, 2, 3, 5] rfl)
            case step_8 =>
              intro xv_ hI ih H locs ls hP hD hS hl
              obtain ⟨mo1, ra1, mrl1, mrs1⟩ := xv_
              try dsimp only at hI ih
              obtain ⟨hmo, hra1, hrl1, hR, hst⟩ := hI
              have hP : va_P D vwCl (W_M cI cS mA mf mn ml mk mg mls ms ra1 mrf mrk1 (updI mrg mrf gv) mrl1 mrs1 mo moo moa mp mpp mfi mpl mpo mro mdp mdf mhg mhk mR mRf mRo mss msl msh mha mt) H := hP
              have hD : va_D A (W_M cI cS mA mf mn ml mk mg mls ms ra1 mrf mrk1 (updI mrg mrf gv) mrl1 mrs1 mo moo moa mp mpp mfi mpl mpo mro mdp mdf mhg mhk mR mRf mRo mss msl msh mha mt) := hD
              have hl : lv_has ls 7 [(6, .int (iI mo1)), (0, .ref (mA 0)), (1, .int (iI fo)), (2, .int (iI n)), (5, .int (iI mrf))] := hl
              have ih_9 := ih
              refine lv_iload hx hb dX7_readsFunction_158 (lv_at hl 0 rfl) ?_
              refine n_if_eq (tgt := 176) hx hb dX7_readsFunction_160 (by decide) (by omega) (fun c_10 => ?_) (fun c_10 => ?_)
              ·
                refine lv_aload_n hx hb dX7_readsFunction_176 rfl (lv_at hl 1 rfl) ?_
                refine lv_dup hx hb dX7_readsFunction_177 rfl ?_
                refine va_get (D := D) (ci := 7) (v := .int (iI mrf)) (C := RX7) (T := TX7) (N := 34) hx hb hts iw_7 hown hK.1 hP 0 rfl rfl 8 (by decide) fl_105 (fun _ h9 => h9) rfl dX7_readsFunction_178 ?_
                refine lv_iconst (v := iI 1) hx hb dX7_readsFunction_181 (by decide +kernel) ?_
                refine n_iadd hx hb dX7_readsFunction_182 ?_
                refine va_put (D := D) (ci := 7) (v := .int (iI (mrf + 1))) (ty := .int) (C := RX7) (T := TX7) (N := 34) hx hb hts iw_7 tyX7 tyX7_ok nmX7 hown hK.1 hP hD hS 0 rfl rfl 8 (by decide) fl_105 (fun _ h9 => h9) rfl (by decide +kernel) rfl rfl (Nat.le_of_ble_eq_true rfl) dX7_readsFunction_183 (fun H locs hP hD hS => ?_)
                have hP : va_P D vwCl (W_M cI cS mA mf mn ml mk mg mls ms ra1 (mrf + 1) mrk1 (updI mrg mrf gv) mrl1 mrs1 mo moo moa mp mpp mfi mpl mpo mro mdp mdf mhg mhk mR mRf mRo mss msl msh mha mt) H := hP
                have hD : va_D A (W_M cI cS mA mf mn ml mk mg mls ms ra1 (mrf + 1) mrk1 (updI mrg mrf gv) mrl1 mrs1 mo moo moa mp mpp mfi mpl mpo mro mdp mdf mhg mhk mR mRf mRo mss msl msh mha mt) := hD
                refine lv_iconst (v := iI 1) hx hb dX7_readsFunction_186 (by decide +kernel) ?_
                exact W.zret (v := iI 1) (ty := .boolean) hx hb hr (by decide +kernel) (fun t ht hW => ⟨⟨_, (ra1, (mrf + 1), mrk1, (updI mrg mrf gv), mrl1, mrs1), rfl, ⟨1, rfl, (by (try dsimp only); exact (by omega)), (by (try dsimp only); exact (Or.inl ⟨rfl, by rw [hmrk]; exact hR, by omega, hst (by omega)⟩))⟩, by rw [ht]; exact hP, hD⟩, hS.F ht⟩) hS.2.2 dX7_readsFunction_187
              ·
                refine lv_aload_n hx hb dX7_readsFunction_163 rfl (lv_at hl 1 rfl) ?_
                refine lv_iload_n hx hb dX7_readsFunction_164 rfl (lv_at hl 2 rfl) ?_
                refine lv_iload_n hx hb dX7_readsFunction_165 rfl (lv_at hl 3 rfl) ?_
                refine lv_iload hx hb dX7_readsFunction_166 (lv_at hl 4 rfl) ?_
                refine x_callVi (As := [.int (iI fo), .int (iI n), .int (iI mrf)]) (rest := []) ⟨hx, hb, hml, hown, hts⟩ (c_X7_readsStep l D cI cS mA mf mn ml mk mg mls ms ra1 mrf mrk1 (updI mrg mrf gv) mrl1 mrs1 mo moo moa mp mpp mfi mpl mpo mro mdp mdf mhg mhk mR mRf mRo mss msl msh mha mt H.size fo n mrf (by first | assumption | omega) (by first | assumption | omega) (by first | assumption | omega) (by first | assumption | omega) (by omega)) (cwV 3 hts gX7_readsFunction_X7_readsStep rfl rfl rfl (by decide +kernel) ⟨Nat.le_of_ble_eq_true rfl, Nat.le_of_ble_eq_true rfl⟩) hK hP hD hS hA [0, 1, 2, 3, 4, 5, 6, 7, 8, 9, 10, 11, 12, 13, 14, 15, 16, 17, 18, 19, 20, 21] [] (wr := ([] : va_W)) rfl rfl (by decide) (by decide) (by decide) 0 7 rfl rfl rfl [0, 1, 2, 3, 4, 5, 6, 7, 8, 9, 10, 11, 12, 13, 14, 15, 16, 17, 18, 19, 20, 21] (fun (u : Unit) => (W_M cI cS mA mf mn ml mk mg mls ms (if ra1 < n ∧ 0 ≤ stv mrf (msh (fo + ra1)) ∧ mrl1 mrf < 4 then ra1 + 1 else ra1) mrf mrk1 (updI mrg mrf gv) (if ra1 < n ∧ 0 ≤ stv mrf (msh (fo + ra1)) ∧ mrl1 mrf < 4 then updI mrl1 mrf (mrl1 mrf + 1) else mrl1) (if ra1 < n ∧ 0 ≤ stv mrf (msh (fo + ra1)) ∧ mrl1 mrf < 4 then updI mrs1 (mrf * 4 + mrl1 mrf) (stv mrf (msh (fo + ra1))) else mrs1) mo moo moa mp mpp mfi mpl mpo mro mdp mdf mhg mhk mR mRf mRo mss msl msh mha mt)) (fun _ => rfl) (by decide) rfl hl.1 rfl (Nat.le_of_ble_eq_true rfl) ⟨Nat.zero_le _, Nat.zero_le _⟩ dX7_readsFunction_168 (fun r_ u_ H locs hw hP hD hS => ?_)
                try dsimp only at hw
                subst hw
                have hP : va_P D vwCl (W_M cI cS mA mf mn ml mk mg mls ms (if ra1 < n ∧ 0 ≤ stv mrf (msh (fo + ra1)) ∧ mrl1 mrf < 4 then ra1 + 1 else ra1) mrf mrk1 (updI mrg mrf gv) (if ra1 < n ∧ 0 ≤ stv mrf (msh (fo + ra1)) ∧ mrl1 mrf < 4 then updI mrl1 mrf (mrl1 mrf + 1) else mrl1) (if ra1 < n ∧ 0 ≤ stv mrf (msh (fo + ra1)) ∧ mrl1 mrf < 4 then updI mrs1 (mrf * 4 + mrl1 mrf) (stv mrf (msh (fo + ra1))) else mrs1) mo moo moa mp mpp mfi mpl mpo mro mdp mdf mhg mhk mR mRf mRo mss msl msh mha mt) H := hP
                have hD : va_D A (W_M cI cS mA mf mn ml mk mg mls ms (if ra1 < n ∧ 0 ≤ stv mrf (msh (fo + ra1)) ∧ mrl1 mrf < 4 then ra1 + 1 else ra1) mrf mrk1 (updI mrg mrf gv) (if ra1 < n ∧ 0 ≤ stv mrf (msh (fo + ra1)) ∧ mrl1 mrf < 4 then updI mrl1 mrf (mrl1 mrf + 1) else mrl1) (if ra1 < n ∧ 0 ≤ stv mrf (msh (fo + ra1)) ∧ mrl1 mrf < 4 then updI mrs1 (mrf * 4 + mrl1 mrf) (stv mrf (msh (fo + ra1))) else mrs1) mo moo moa mp mpp mfi mpl mpo mro mdp mdf mhg mhk mR mRf mRo mss msl msh mha mt) := hD
                have hmm : (mo1 = 1 ∧ True) ∨ True := Or.inr trivial
                refine lv_istore (lv' := [(6, .int (iI (if ra1 < n ∧ 0 ≤ stv mrf (msh (fo + ra1)) ∧ mrl1 mrf < 4 then 1 else 0))), (0, .ref (mA 0)), (1, .int (iI fo)), (2, .int (iI n)), (5, .int (iI mrf))]) hx hb dX7_readsFunction_171 hl (by decide) rfl (fun ls hl => ?_)
                refine lv_goto (tgt := 158) hx hb dX7_readsFunction_173 (by decide) ?_
                exact ih_9 ((if ra1 < n ∧ 0 ≤ stv mrf (msh (fo + ra1)) ∧ mrl1 mrf < 4 then 1 else 0), (if ra1 < n ∧ 0 ≤ stv mrf (msh (fo + ra1)) ∧ mrl1 mrf < 4 then ra1 + 1 else ra1), (if ra1 < n ∧ 0 ≤ stv mrf (msh (fo + ra1)) ∧ mrl1 mrf < 4 then updI mrl1 mrf (mrl1 mrf + 1) else mrl1), (if ra1 < n ∧ 0 ≤ stv mrf (msh (fo + ra1)) ∧ mrl1 mrf < 4 then updI mrs1 (mrf * 4 + mrl1 mrf) (stv mrf (msh (fo + ra1))) else mrs1)) (by (try dsimp only); exact (by
                by_cases q : ra1 < n ∧ 0 ≤ stv mrf (msh (fo + ra1)) ∧ mrl1 mrf < 4
                · rw [if_pos q, if_pos q, if_pos q, if_pos q]
                  refine ⟨Or.inr rfl, by omega, by rw [updI_s]; omega, ?_, fun z => absurd z (by decide)⟩
                  rw [hR]
                  refine pr_s q.1 ?_
                  rw [pS_4 (by decide), if_neg (stv_59 q.2.1)]
                  unfold pStp
                  rw [show mrf + 1 - 1 = mrf by omega, if_pos q.2]
                · rw [if_neg q, if_neg q, if_neg q, if_neg q]
                  refine ⟨Or.inl rfl, by omega, by omega, hR, fun _ a b c => q ⟨a, ?_⟩⟩
                  rw [show mrf + 1 - 1 = mrf by omega] at c
                  exact c)) (by (try dsimp only); exact (by by_cases q : ra1 < n ∧ 0 ≤ stv mrf (msh (fo + ra1)) ∧ mrl1 mrf < 4; (rw [if_pos q, if_pos q]; omega); (rw [if_neg q, if_neg q]; omega))) _ _ _ hP hD hS (lv_sub hl [0, 1, 2, 3, 4] rfl)
          refine lv_aload_n hx hb dX7_readsFunction_110 rfl (lv_at hl 2 rfl) ?_
          refine va_get (D := D) (ci := 7) (v := .ref (mA 5)) (C := RX7) (T := TX7) (N := 34) hx hb hts iw_7 hown hK.1 hP 0 rfl rfl 9 (by decide) fl_22 (fun _ h9 => h9) rfl dX7_readsFunction_111 ?_
          refine lv_iload hx hb dX7_readsFunction_114 (lv_at hl 0 rfl) ?_
          refine lv_iload_n hx hb dX7_readsFunction_116 rfl (lv_at hl 5 rfl) ?_
          refine lv_bipush (v := iI 112) hx hb dX7_readsFunction_117 (by decide +kernel) ?_
          refine n_icmp_ne (tgt := 126) hx hb dX7_readsFunction_119 (by decide) (by omega) (fun c_11 => ?_) (fun c_11 => ?_)
          ·
            refine lv_iload_n hx hb dX7_readsFunction_126 rfl (lv_at hl 5 rfl) ?_
            refine lv_bipush (v := iI 108) hx hb dX7_readsFunction_127 (by decide +kernel) ?_
            refine n_icmp_ne (tgt := 136) hx hb dX7_readsFunction_129 (by decide) (by omega) (fun c_12 => ?_) (fun c_12 => ?_)
            ·
              refine lv_iconst (v := iI 2) hx hb dX7_readsFunction_136 (by decide +kernel) ?_
              refine n_iast (n := 5) hx hb hK.1 hP hD hS 5 0 rfl rfl (by omega) (by decide) dX7_readsFunction_137 (fun H locs hP hD hS => ?_)
              have hP : va_P D vwCl (W_M cI cS mA mf mn ml mk mg mls ms (((mra + 1) + 1) + 1) mrf (updI mrk mrf 2) mrg mrl mrs mo moo moa mp mpp mfi mpl mpo mro mdp mdf mhg mhk mR mRf mRo mss msl msh mha mt) H := hP
              have hD : va_D A (W_M cI cS mA mf mn ml mk mg mls ms (((mra + 1) + 1) + 1) mrf (updI mrk mrf 2) mrg mrl mrs mo moo moa mp mpp mfi mpl mpo mro mdp mdf mhg mhk mR mRf mRo mss msl msh mha mt) := hD
              exact K_6 (updI mrk mrf 2) (by (try dsimp only); exact (by unfold kOf; rw [← show c2 = msh (fo + (mra + 1)) by omega]; first | rfl | (congr 1; omega))) _ _ _ hP hD hS (lv_sub hl [2, 3, 4, 1, 0] rfl)
            ·
              refine lv_iconst (v := iI 1) hx hb dX7_readsFunction_132 (by decide +kernel) ?_
              refine lv_goto (tgt := 137) hx hb dX7_readsFunction_133 (by decide) ?_
              refine n_iast (n := 5) hx hb hK.1 hP hD hS 5 0 rfl rfl (by omega) (by decide) dX7_readsFunction_137 (fun H locs hP hD hS => ?_)
              have hP : va_P D vwCl (W_M cI cS mA mf mn ml mk mg mls ms (((mra + 1) + 1) + 1) mrf (updI mrk mrf 1) mrg mrl mrs mo moo moa mp mpp mfi mpl mpo mro mdp mdf mhg mhk mR mRf mRo mss msl msh mha mt) H := hP
              have hD : va_D A (W_M cI cS mA mf mn ml mk mg mls ms (((mra + 1) + 1) + 1) mrf (updI mrk mrf 1) mrg mrl mrs mo moo moa mp mpp mfi mpl mpo mro mdp mdf mhg mhk mR mRf mRo mss msl msh mha mt) := hD
              exact K_6 (updI mrk mrf 1) (by (try dsimp only); exact (by unfold kOf; rw [← show c2 = msh (fo + (mra + 1)) by omega]; first | rfl | (congr 1; omega))) _ _ _ hP hD hS (lv_sub hl [2, 3, 4, 1, 0] rfl)
          ·
            refine lv_iconst (v := iI 0) hx hb dX7_readsFunction_122 (by decide +kernel) ?_
            refine lv_goto (tgt := 137) hx hb dX7_readsFunction_123 (by decide) ?_
            refine n_iast (n := 5) hx hb hK.1 hP hD hS 5 0 rfl rfl (by omega) (by decide) dX7_readsFunction_137 (fun H locs hP hD hS => ?_)
            have hP : va_P D vwCl (W_M cI cS mA mf mn ml mk mg mls ms (((mra + 1) + 1) + 1) mrf (updI mrk mrf 0) mrg mrl mrs mo moo moa mp mpp mfi mpl mpo mro mdp mdf mhg mhk mR mRf mRo mss msl msh mha mt) H := hP
            have hD : va_D A (W_M cI cS mA mf mn ml mk mg mls ms (((mra + 1) + 1) + 1) mrf (updI mrk mrf 0) mrg mrl mrs mo moo moa mp mpp mfi mpl mpo mro mdp mdf mhg mhk mR mRf mRo mss msl msh mha mt) := hD
            exact K_6 (updI mrk mrf 0) (by (try dsimp only); exact (by unfold kOf; rw [← show c2 = msh (fo + (mra + 1)) by omega]; first | rfl | (congr 1; omega))) _ _ _ hP hD hS (lv_sub hl [2, 3, 4, 1, 0] rfl)
        ·
          have hfz : (pRun (fun j => msh (fo + j)) (n - mra).toNat mra ((AT mrf, mrf, mrk, mrg, mrl, mrs) : PQ)).1 = mra + 1 + 1 := by
            rw [hq2]
            refine pr_f ?_
            by_cases q : mra + 1 + 1 < n
            · refine Or.inr ⟨q, ?_⟩
              rw [pS_3 rfl]; unfold pGuard; rw [if_neg (by omega)]
            · exact Or.inl ⟨by omega, by decide⟩
          refine lv_iconst (v := iI 0) hx hb dX7_readsFunction_92 (by decide +kernel) ?_
          exact W.zret (v := iI 0) (ty := .boolean) hx hb hr (by decide +kernel) (fun t ht hW => ⟨⟨_, (((mra + 1) + 1), mrf, mrk, mrg, mrl, mrs), rfl, ⟨0, rfl, (by (try dsimp only); exact (by omega)), (by (try dsimp only); exact (Or.inr ⟨rfl, hfz⟩))⟩, by rw [ht]; exact hP, hD⟩, hS.F ht⟩) hS.2.2 dX7_readsFunction_93
      refine lv_iload_n hx hb dX7_readsFunction_38 rfl (lv_at hl 0 rfl) ?_
      refine lv_bipush (v := iI 112) hx hb dX7_readsFunction_39 (by decide +kernel) ?_
      refine n_icmp_eq (tgt := 58) hx hb dX7_readsFunction_41 (by decide) (by omega) (fun c_13 => ?_) (fun c_13 => ?_)
      ·
        exact K_3 () (by (try dsimp only); exact (by omega)) _ _ _ hP hD hS (lv_sub hl [1, 2, 3, 0] rfl)
      ·
        refine lv_iload_n hx hb dX7_readsFunction_44 rfl (lv_at hl 0 rfl) ?_
        refine lv_bipush (v := iI 108) hx hb dX7_readsFunction_45 (by decide +kernel) ?_
        refine n_icmp_eq (tgt := 58) hx hb dX7_readsFunction_47 (by decide) (by omega) (fun c_14 => ?_) (fun c_14 => ?_)
        ·
          exact K_3 () (by (try dsimp only); exact (by omega)) _ _ _ hP hD hS (lv_sub hl [1, 2, 3, 0] rfl)
        ·
          refine lv_iload_n hx hb dX7_readsFunction_50 rfl (lv_at hl 0 rfl) ?_
          refine lv_bipush (v := iI 107) hx hb dX7_readsFunction_51 (by decide +kernel) ?_
          refine n_icmp_eq (tgt := 58) hx hb dX7_readsFunction_53 (by decide) (by omega) (fun c_15 => ?_) (fun c_15 => ?_)
          ·
            exact K_3 () (by (try dsimp only); exact (by omega)) _ _ _ hP hD hS (lv_sub hl [1, 2, 3, 0] rfl)
          ·
            have hfz : (pRun (fun j => msh (fo + j)) (n - mra).toNat mra ((AT mrf, mrf, mrk, mrg, mrl, mrs) : PQ)).1 = mra + 1 := by
              rw [hq1]
              refine pr_f ?_
              by_cases q : mra + 1 < n
              · refine Or.inr ⟨q, ?_⟩
                rw [pS_2 rfl]; unfold pKind kOf; rw [if_neg (by omega)]
              · exact Or.inl ⟨by omega, by decide⟩
            refine lv_iconst (v := iI 0) hx hb dX7_readsFunction_56 (by decide +kernel) ?_
            exact W.zret (v := iI 0) (ty := .boolean) hx hb hr (by decide +kernel) (fun t ht hW => ⟨⟨_, ((mra + 1), mrf, mrk, mrg, mrl, mrs), rfl, ⟨0, rfl, (by (try dsimp only); exact (by omega)), (by (try dsimp only); exact (Or.inr ⟨rfl, hfz⟩))⟩, by rw [ht]; exact hP, hD⟩, hS.F ht⟩) hS.2.2 dX7_readsFunction_57
    ·
      have hfz : (pRun (fun j => msh (fo + j)) (n - mra).toNat mra ((AT mrf, mrf, mrk, mrg, mrl, mrs) : PQ)).1 = mra := pr_f (by
        by_cases q : mra < n
        · refine Or.inr ⟨q, ?_⟩
          rw [pAT]
          by_cases q2 : mrf = 0
          · rw [if_pos q2]; unfold pFun; rw [if_neg (by omega)]
          · rw [if_neg q2, if_neg (show ¬ msh (fo + mra) = 59 by omega)]; unfold pStp; rw [if_neg (hstk (by omega) q (show ¬ msh (fo + mra) = 59 by omega))]
        · refine Or.inl ⟨by omega, ?_⟩
          intro q2
          have : mrf = 0 := by
            rcases Int.lt_or_le mrf 1 with r | r
            · omega
            · exact absurd (hlt r) q
          rw [this] at q2; exact absurd q2 (by decide))
      refine lv_iconst (v := iI 0) hx hb dX7_readsFunction_19 (by decide +kernel) ?_
      exact W.zret (v := iI 0) (ty := .boolean) hx hb hr (by decide +kernel) (fun t ht hW => ⟨⟨_, (mra, mrf, mrk, mrg, mrl, mrs), rfl, ⟨0, rfl, (by (try dsimp only); exact (by omega)), (by (try dsimp only); exact (Or.inr ⟨rfl, hfz⟩))⟩, by rw [ht]; exact hP, hD⟩, hS.F ht⟩) hS.2.2 dX7_readsFunction_20
