set_option maxHeartbeats 4000000 in
set_option maxRecDepth 100000 in
theorem c_X7_readsProgram (l : Launch) (D : va_G) (cI cS : ClassId) (mA : Nat → Nat) (mf : Int) (mn : Int) (ml : Int) (mk : Int → Int) (mg : Int → Int) (mls : Int → Int) (ms : Int → Int) (mra : Int) (mrf : Int) (mrk : Int → Int) (mrg : Int → Int) (mrl : Int → Int) (mrs : Int → Int) (mo : Int) (moo : Int → Int) (moa : Int → Int) (mp : Int) (mpp : Int → Int) (mfi : Int) (mpl : Int) (mpo : Int → Int) (mro : Int → Int) (mdp : Int) (mdf : Int) (mhg : Int → Int) (mhk : Int → Int) (mR : Int) (mRf : Int → Int) (mRo : Int → Int) (mss : Int → Int) (msl : Int → Int) (msh : Int → Int) (mha : Int → Int) (mt : Int) (sz : Nat) (fo : Int) (n : Int) (hfo : 0 ≤ fo ∧ 0 ≤ n ∧ n ≤ 60 ∧ fo + n ≤ 240) (hmsh : ∀ j : Int, -2147483648 ≤ msh j ∧ msh j < 2147483648) : Met l yX7_readsProgram wsX7_readsProgram ({ frames := 3, cells := 0, slots := 0, locals := 76 }) (cP D cI cS (W_M cI cS mA mf mn ml mk mg mls ms mra mrf mrk mrg mrl mrs mo moo moa mp mpp mfi mpl mpo mro mdp mdf mhg mhk mR mRf mRo mss msl msh mha mt) sz [.ref (mA 0), .int (iI fo), .int (iI n)]) (va_Qi (fun (r : Int32) (u : Int × Int × (Int → Int) × (Int → Int) × (Int → Int) × (Int → Int)) => ∃ z : Int, r = iI z ∧ (0 ≤ u.1 ∧ u.1 ≤ n) ∧ ((z = 1 ∧ pRun (fun j => msh (fo + j)) n.toNat 0 ((0, 0, mrk, mrg, mrl, mrs) : PQ) = (-1, ((4, u.2.1, u.2.2.1, u.2.2.2.1, u.2.2.2.2.1, u.2.2.2.2.2) : PQ))) ∨ (z = 0 ∧ (pRun (fun j => msh (fo + j)) n.toNat 0 ((0, 0, mrk, mrg, mrl, mrs) : PQ)).1 = u.1))) (fun (u : Int × Int × (Int → Int) × (Int → Int) × (Int → Int) × (Int → Int)) t => cB D (va_A (W_M cI cS mA mf mn ml mk mg mls ms mra mrf mrk mrg mrl mrs mo moo moa mp mpp mfi mpl mpo mro mdp mdf mhg mhk mR mRf mRo mss msl msh mha mt) sz) (W_M cI cS mA mf mn ml mk mg mls ms u.1 u.2.1 u.2.2.1 u.2.2.2.1 u.2.2.2.2.1 u.2.2.2.2.2 mo moo moa mp mpp mfi mpl mpo mro mdp mdf mhg mhk mR mRf mRo mss msl msh mha mt) t) (va_A (W_M cI cS mA mf mn ml mk mg mls ms mra mrf mrk mrg mrl mrs mo moo moa mp mpp mfi mpl mpo mro mdp mdf mhg mhk mR mRf mRo mss msl msh mha mt) sz)) 0 0 (va_A (W_M cI cS mA mf mn ml mk mg mls ms mra mrf mrk mrg mrl mrs mo moo moa mp mpp mfi mpl mpo mro mdp mdf mhg mhk mR mRf mRo mss msl msh mha mt) sz) := by
  refine Met.ofW (cc := cX7_readsProgram) (maxL := 4) (ret := (some .boolean)) (by decide) rfl ?_
  intro p e s m args below meth c_ s₁ B hml hv
  obtain ⟨rfl, hsz, hP, hK, hD0⟩ := hv
  have hx := B.exec
  have hb := B.bytes
  have hr := B.returns
  have hts := atoms_spec (ws := wsX7_readsProgram) B.pre
  have hown : s.vm.findClass RX7 = some m.cls := findClass_of_methodNamed B.named
  have hlocks := B.notSynchronized
  subst hsz
  have hD := hD0.self (sz := s.heap.size)
  generalize hAe : va_A (W_M cI cS mA mf mn ml mk mg mls ms mra mrf mrk mrg mrl mrs mo moo moa mp mpp mfi mpl mpo mro mdp mdf mhg mhk mR mRf mRo mss msl msh mha mt) s.heap.size = A at hD ⊢
  have hA : ∀ q : Nat, s.heap.size ≤ q → A q := fun q h => by rw [← hAe]; exact Or.inr h
  have hS : va_S A s.heap s.heap [] := va_S.rf
  have hP : va_P D vwCl (W_M cI cS mA mf mn ml mk mg mls ms mra mrf mrk mrg mrl mrs mo moo moa mp mpp mfi mpl mpo mro mdp mdf mhg mhk mR mRf mRo mss msl msh mha mt) s.heap := hP
  have hl := lv_entry ([.ref (mA 0), .int (iI fo), .int (iI n)] : List Value) (n := 4) (Nat.le_of_ble_eq_true rfl)
  rw [lg_entry_eq]
  generalize (lg_sl ([.ref (mA 0), .int (iI fo), .int (iI n)] : List Value) ++ List.replicate (4 - (lg_sl ([.ref (mA 0), .int (iI fo), .int (iI n)] : List Value)).length) Slot.unset).toArray = ls at hl ⊢
  have hl : lv_has ls 4 [(0, .ref (mA 0)), (1, .int (iI fo)), (2, .int (iI n))] := hl
  have fl_90 := hts (.fieldLink RX7 90 "ActRowsModel" "readAt" "I") (by decide +kernel)
  have iw_7 : ∀ w ∈ wsX70, w ∈ wsX7_readsProgram := by decide +kernel
  have fl_105 := hts (.fieldLink RX7 105 "ActRowsModel" "readFunctions" "I") (by decide +kernel)
  refine lv_aload_n hx hb dX7_readsProgram_0 rfl (lv_at hl 0 rfl) ?_
  refine lv_iconst (v := iI 0) hx hb dX7_readsProgram_1 (by decide +kernel) ?_
  refine va_put (D := D) (ci := 7) (v := .int (iI 0)) (ty := .int) (C := RX7) (T := TX7) (N := 34) hx hb hts iw_7 tyX7 tyX7_ok nmX7 hown hK.1 hP hD hS 0 rfl rfl 7 (by decide) fl_90 (fun _ h9 => h9) rfl (by decide +kernel) rfl rfl (Nat.le_of_ble_eq_true rfl) dX7_readsProgram_2 (fun H locs hP hD hS => ?_)
  have hP : va_P D vwCl (W_M cI cS mA mf mn ml mk mg mls ms 0 mrf mrk mrg mrl mrs mo moo moa mp mpp mfi mpl mpo mro mdp mdf mhg mhk mR mRf mRo mss msl msh mha mt) H := hP
  have hD : va_D A (W_M cI cS mA mf mn ml mk mg mls ms 0 mrf mrk mrg mrl mrs mo moo moa mp mpp mfi mpl mpo mro mdp mdf mhg mhk mR mRf mRo mss msl msh mha mt) := hD
  refine lv_aload_n hx hb dX7_readsProgram_5 rfl (lv_at hl 0 rfl) ?_
  refine lv_iconst (v := iI 0) hx hb dX7_readsProgram_6 (by decide +kernel) ?_
  refine va_put (D := D) (ci := 7) (v := .int (iI 0)) (ty := .int) (C := RX7) (T := TX7) (N := 34) hx hb hts iw_7 tyX7 tyX7_ok nmX7 hown hK.1 hP hD hS 0 rfl rfl 8 (by decide) fl_105 (fun _ h9 => h9) rfl (by decide +kernel) rfl rfl (Nat.le_of_ble_eq_true rfl) dX7_readsProgram_7 (fun H locs hP hD hS => ?_)
  have hP : va_P D vwCl (W_M cI cS mA mf mn ml mk mg mls ms 0 0 mrk mrg mrl mrs mo moo moa mp mpp mfi mpl mpo mro mdp mdf mhg mhk mR mRf mRo mss msl msh mha mt) H := hP
  have hD : va_D A (W_M cI cS mA mf mn ml mk mg mls ms 0 0 mrk mrg mrl mrs mo moo moa mp mpp mfi mpl mpo mro mdp mdf mhg mhk mR mRf mRo mss msl msh mha mt) := hD
  refine lv_aload_n hx hb dX7_readsProgram_10 rfl (lv_at hl 0 rfl) ?_
  refine lv_iload_n hx hb dX7_readsProgram_11 rfl (lv_at hl 1 rfl) ?_
  refine lv_iload_n hx hb dX7_readsProgram_12 rfl (lv_at hl 2 rfl) ?_
  refine x_callVi (As := [.int (iI fo), .int (iI n)]) (rest := []) ⟨hx, hb, hml, hown, hts⟩ (c_X7_codeAt l D cI cS mA mf mn ml mk mg mls ms 0 0 mrk mrg mrl mrs mo moo moa mp mpp mfi mpl mpo mro mdp mdf mhg mhk mR mRf mRo mss msl msh mha mt H.size fo n (by first | assumption | omega) (by first | assumption | omega)) (cwV 2 hts gX7_readsProgram_X7_codeAt rfl rfl rfl (by decide +kernel) ⟨Nat.le_of_ble_eq_true rfl, Nat.le_of_ble_eq_true rfl⟩) hK hP hD hS hA [0, 1, 2, 3, 4, 5, 6, 7, 8, 9, 10, 11, 12, 13, 14, 15, 16, 17, 18, 19, 20, 21] [] (wr := ([] : va_W)) rfl rfl (by decide) (by decide) (by decide) 0 7 rfl rfl rfl [0, 1, 2, 3, 4, 5, 6, 7, 8, 9, 10, 11, 12, 13, 14, 15, 16, 17, 18, 19, 20, 21] (fun (u : Unit) => (W_M cI cS mA mf mn ml mk mg mls ms 0 0 mrk mrg mrl mrs mo moo moa mp mpp mfi mpl mpo mro mdp mdf mhg mhk mR mRf mRo mss msl msh mha mt)) (fun _ => rfl) (by decide) rfl hl.1 rfl (Nat.le_of_ble_eq_true rfl) ⟨Nat.zero_le _, Nat.zero_le _⟩ dX7_readsProgram_13 (fun r_ u_ H locs hw hP hD hS => ?_)
  try dsimp only at hw
  subst hw
  have hP : va_P D vwCl (W_M cI cS mA mf mn ml mk mg mls ms 0 0 mrk mrg mrl mrs mo moo moa mp mpp mfi mpl mpo mro mdp mdf mhg mhk mR mRf mRo mss msl msh mha mt) H := hP
  have hD : va_D A (W_M cI cS mA mf mn ml mk mg mls ms 0 0 mrk mrg mrl mrs mo moo moa mp mpp mfi mpl mpo mro mdp mdf mhg mhk mR mRf mRo mss msl msh mha mt) := hD
  obtain ⟨c1, h_c1⟩ : ∃ z_ : Int, z_ = (if 0 < n then msh (fo + 0) else (-9)) := ⟨_, rfl⟩
  rw [← h_c1]
  have hc1r := hmsh (fo + 0)
  have hc1 : (0 < n ∧ c1 = msh (fo + 0)) ∨ (n ≤ 0 ∧ c1 = -9) := by omega
  refine lv_bipush (v := iI 101) hx hb dX7_readsProgram_16 (by decide +kernel) ?_
  refine n_icmp_eq (tgt := 23) hx hb dX7_readsProgram_18 (by decide) (by omega) (fun c_1 => ?_) (fun c_1 => ?_)
  ·
    have hq1 : pRun (fun j => msh (fo + j)) n.toNat 0 ((0, 0, mrk, mrg, mrl, mrs) : PQ) = pRun (fun j => msh (fo + j)) (n - (0 + 1)).toNat (0 + 1) ((AT 0, 0, mrk, mrg, mrl, mrs) : PQ) := by
      have := pr_s (cd := (fun j => msh (fo + j))) (n := n) (i := 0) (at_ := 0) (cnt := 0) (kd := mrk) (gd := mrg) (ln := mrl) (st := mrs) (q := ((1, 0, mrk, mrg, mrl, mrs) : PQ)) (by omega) (by rw [pS_0 rfl, if_pos (show msh (fo + 0) = 101 by omega)])
      rw [Int.sub_zero] at this; exact this
    refine lv_aload_n hx hb dX7_readsProgram_23 rfl (lv_at hl 0 rfl) ?_
    refine lv_dup hx hb dX7_readsProgram_24 rfl ?_
    refine va_get (D := D) (ci := 7) (v := .int (iI 0)) (C := RX7) (T := TX7) (N := 34) hx hb hts iw_7 hown hK.1 hP 0 rfl rfl 7 (by decide) fl_90 (fun _ h9 => h9) rfl dX7_readsProgram_25 ?_
    refine lv_iconst (v := iI 1) hx hb dX7_readsProgram_28 (by decide +kernel) ?_
    refine n_iadd hx hb dX7_readsProgram_29 ?_
    refine va_put (D := D) (ci := 7) (v := .int (iI (0 + 1))) (ty := .int) (C := RX7) (T := TX7) (N := 34) hx hb hts iw_7 tyX7 tyX7_ok nmX7 hown hK.1 hP hD hS 0 rfl rfl 7 (by decide) fl_90 (fun _ h9 => h9) rfl (by decide +kernel) rfl rfl (Nat.le_of_ble_eq_true rfl) dX7_readsProgram_30 (fun H locs hP hD hS => ?_)
    have hP : va_P D vwCl (W_M cI cS mA mf mn ml mk mg mls ms (0 + 1) 0 mrk mrg mrl mrs mo moo moa mp mpp mfi mpl mpo mro mdp mdf mhg mhk mR mRf mRo mss msl msh mha mt) H := hP
    have hD : va_D A (W_M cI cS mA mf mn ml mk mg mls ms (0 + 1) 0 mrk mrg mrl mrs mo moo moa mp mpp mfi mpl mpo mro mdp mdf mhg mhk mR mRf mRo mss msl msh mha mt) := hD
    refine lv_iconst (v := iI 1) hx hb dX7_readsProgram_33 (by decide +kernel) ?_
    refine lv_istore_n (lv' := [(3, .int (iI 1)), (0, .ref (mA 0)), (1, .int (iI fo)), (2, .int (iI n))]) hx hb dX7_readsProgram_34 rfl hl (by decide) rfl (fun ls hl => ?_)
    refine x_loop (σ := Int × Int × Int × (Int → Int) × (Int → Int) × (Int → Int) × (Int → Int)) (fun (xv_ : Int × Int × Int × (Int → Int) × (Int → Int) × (Int → Int) × (Int → Int)) => match xv_ with | (is_, ra1, rf1, rk1, rg1, rl1, rs1) => (is_ = 0 ∨ is_ = 1) ∧ (0 ≤ ra1 ∧ ra1 ≤ n) ∧ (is_ = 1 → pRun (fun j => msh (fo + j)) (n - ra1).toNat ra1 ((AT rf1, rf1, rk1, rg1, rl1, rs1) : PQ) = pRun (fun j => msh (fo + j)) n.toNat 0 ((0, 0, mrk, mrg, mrl, mrs) : PQ) ∧ (0 ≤ rf1 ∧ rf1 ≤ 5) ∧ (1 ≤ rf1 → stk n (fun j => msh (fo + j)) ra1 rf1 rl1)) ∧ (is_ = 0 → (pRun (fun j => msh (fo + j)) n.toNat 0 ((0, 0, mrk, mrg, mrl, mrs) : PQ)).1 = ra1)) (fun (xv_ : Int × Int × Int × (Int → Int) × (Int → Int) × (Int → Int) × (Int → Int)) => match xv_ with | (is_, ra1, rf1, rk1, rg1, rl1, rs1) => (if is_ = 1 then 7 - rf1 else 0).toNat) (fun (xv_ : Int × Int × Int × (Int → Int) × (Int → Int) × (Int → Int) × (Int → Int)) => match xv_ with | (is_, ra1, rf1, rk1, rg1, rl1, rs1) => (W_M cI cS mA mf mn ml mk mg mls ms ra1 rf1 rk1 rg1 rl1 rs1 mo moo moa mp mpp mfi mpl mpo mro mdp mdf mhg mhk mR mRf mRo mss msl msh mha mt)) (fun (xv_ : Int × Int × Int × (Int → Int) × (Int → Int) × (Int → Int) × (Int → Int)) => match xv_ with | (is_, ra1, rf1, rk1, rg1, rl1, rs1) => [(3, .int (iI is_)), (0, .ref (mA 0)), (1, .int (iI fo)), (2, .int (iI n))]) (nL := 4) ?step_2 (1, (0 + 1), 0, mrk, mrg, mrl, mrs) (by (try dsimp only); exact ⟨Or.inr rfl, by omega, fun _ => ⟨hq1.symm, by omega, fun q => absurd q (by decide)⟩, fun q => absurd q (by decide)⟩) hP hD hS hl
    case step_2 =>
      intro xv_ hI ih H locs ls hP hD hS hl
      obtain ⟨is_, ra1, rf1, rk1, rg1, rl1, rs1⟩ := xv_
      try dsimp only at hI ih
      obtain ⟨hsv, hra1, hon, hoff⟩ := hI
      have hP : va_P D vwCl (W_M cI cS mA mf mn ml mk mg mls ms ra1 rf1 rk1 rg1 rl1 rs1 mo moo moa mp mpp mfi mpl mpo mro mdp mdf mhg mhk mR mRf mRo mss msl msh mha mt) H := hP
      have hD : va_D A (W_M cI cS mA mf mn ml mk mg mls ms ra1 rf1 rk1 rg1 rl1 rs1 mo moo moa mp mpp mfi mpl mpo mro mdp mdf mhg mhk mR mRf mRo mss msl msh mha mt) := hD
      have hl : lv_has ls 4 [(3, .int (iI is_)), (0, .ref (mA 0)), (1, .int (iI fo)), (2, .int (iI n))] := hl
      have hrfr : is_ = 1 → 0 ≤ rf1 ∧ rf1 ≤ 5 := fun q => (hon q).2.1
      have ih_3 := ih
      refine lv_iload_n hx hb dX7_readsProgram_35 rfl (lv_at hl 0 rfl) ?_
      refine n_if_eq (tgt := 65) hx hb dX7_readsProgram_36 (by decide) (by omega) (fun c_4 => ?_) (fun c_4 => ?_)
      ·
        refine lv_iload_n hx hb dX7_readsProgram_65 rfl (lv_at hl 0 rfl) ?_
        exact W.zret (v := iI is_) (ty := .boolean) hx hb hr (by rcases hsv with q | q <;> rw [q] <;> decide +kernel) (fun t ht hW => ⟨⟨_, (ra1, rf1, rk1, rg1, rl1, rs1), rfl, ⟨is_, rfl, (by (try dsimp only); exact hra1), (by (try dsimp only); exact (by
          rcases hsv with q | q
          · exact Or.inr ⟨q, hoff q⟩
          · refine Or.inl ⟨q, ?_⟩
            obtain ⟨a1, a2, a3⟩ := hon q
            rw [← a1, show (n - ra1).toNat = 0 by omega]
            have e4 : AT rf1 = 4 := if_neg (by omega)
            rw [e4]
            exact if_pos rfl))⟩, by rw [ht]; exact hP, hD⟩, hS.F ht⟩) hS.2.2 dX7_readsProgram_66
      ·
        have hrf5 := hrfr (by omega)
        refine x_cut (D := D) (A := A) (H0 := s.heap) (σ := Unit) (fun (_x : Unit) => (1 ≤ rf1 → ra1 < n) ∧ (is_ = 1)) (fun (_x : Unit) => (W_M cI cS mA mf mn ml mk mg mls ms ra1 rf1 rk1 rg1 rl1 rs1 mo moo moa mp mpp mfi mpl mpo mro mdp mdf mhg mhk mR mRf mRo mss msl msh mha mt)) (fun (_x : Unit) => [(0, .ref (mA 0)), (1, .int (iI fo)), (2, .int (iI n)), (3, .int (iI is_))]) (nL := 4) 55 (fun (_x : Unit) => []) ?join_6 (fun K_5 => ?_)
        case join_6 =>
          intro xv_ hI H locs ls hP hD hS hl
          try dsimp only at hI
          obtain ⟨hgo, hon1⟩ := hI
          have hP : va_P D vwCl (W_M cI cS mA mf mn ml mk mg mls ms ra1 rf1 rk1 rg1 rl1 rs1 mo moo moa mp mpp mfi mpl mpo mro mdp mdf mhg mhk mR mRf mRo mss msl msh mha mt) H := hP
          have hD : va_D A (W_M cI cS mA mf mn ml mk mg mls ms ra1 rf1 rk1 rg1 rl1 rs1 mo moo moa mp mpp mfi mpl mpo mro mdp mdf mhg mhk mR mRf mRo mss msl msh mha mt) := hD
          have hl : lv_has ls 4 [(0, .ref (mA 0)), (1, .int (iI fo)), (2, .int (iI n)), (3, .int (iI is_))] := hl
          refine lv_aload_n hx hb dX7_readsProgram_55 rfl (lv_at hl 0 rfl) ?_
          refine lv_iload_n hx hb dX7_readsProgram_56 rfl (lv_at hl 1 rfl) ?_
          refine lv_iload_n hx hb dX7_readsProgram_57 rfl (lv_at hl 2 rfl) ?_
          refine x_callVi (As := [.int (iI fo), .int (iI n)]) (rest := []) ⟨hx, hb, hml, hown, hts⟩ (c_X7_readsFunction l D cI cS mA mf mn ml mk mg mls ms ra1 rf1 rk1 rg1 rl1 rs1 mo moo moa mp mpp mfi mpl mpo mro mdp mdf mhg mhk mR mRf mRo mss msl msh mha mt H.size fo n (by first | assumption | omega) (by first | assumption | omega) (by first | assumption | omega) (by omega) (fun q => by omega) (fun q => (hon (by omega)).2.2 q)) (cwV 2 hts gX7_readsProgram_X7_readsFunction rfl rfl rfl (by decide +kernel) ⟨Nat.le_of_ble_eq_true rfl, Nat.le_of_ble_eq_true rfl⟩) hK hP hD hS hA [0, 1, 2, 3, 4, 5, 6, 7, 8, 9, 10, 11, 12, 13, 14, 15, 16, 17, 18, 19, 20, 21] [] (wr := ([] : va_W)) rfl rfl (by decide) (by decide) (by decide) 0 7 rfl rfl rfl [0, 1, 2, 3, 4, 5, 6, 7, 8, 9, 10, 11, 12, 13, 14, 15, 16, 17, 18, 19, 20, 21] (fun (u : Int × Int × (Int → Int) × (Int → Int) × (Int → Int) × (Int → Int)) => (W_M cI cS mA mf mn ml mk mg mls ms u.1 u.2.1 u.2.2.1 u.2.2.2.1 u.2.2.2.2.1 u.2.2.2.2.2 mo moo moa mp mpp mfi mpl mpo mro mdp mdf mhg mhk mR mRf mRo mss msl msh mha mt)) (fun _ => rfl) (by decide) rfl hl.1 rfl (Nat.le_of_ble_eq_true rfl) ⟨Nat.zero_le _, Nat.zero_le _⟩ dX7_readsProgram_58 (fun r_ u_ H locs hw hP hD hS => ?_)
          obtain ⟨ra2, rf2, rk2, rg2, rl2, rs2⟩ := u_
          try dsimp only at hw
          obtain ⟨z2, rfl, hb2, hz2⟩ := hw
          have hP : va_P D vwCl (W_M cI cS mA mf mn ml mk mg mls ms ra2 rf2 rk2 rg2 rl2 rs2 mo moo moa mp mpp mfi mpl mpo mro mdp mdf mhg mhk mR mRf mRo mss msl msh mha mt) H := hP
          have hD : va_D A (W_M cI cS mA mf mn ml mk mg mls ms ra2 rf2 rk2 rg2 rl2 rs2 mo moo moa mp mpp mfi mpl mpo mro mdp mdf mhg mhk mR mRf mRo mss msl msh mha mt) := hD
          refine lv_istore_n (lv' := [(3, .int (iI z2)), (0, .ref (mA 0)), (1, .int (iI fo)), (2, .int (iI n))]) hx hb dX7_readsProgram_61 rfl hl (by decide) rfl (fun ls hl => ?_)
          refine lv_goto (tgt := 35) hx hb dX7_readsProgram_62 (by decide) ?_
          exact ih_3 (z2, ra2, rf2, rk2, rg2, rl2, rs2) (by (try dsimp only); exact (by
              obtain ⟨b1, b2, b3⟩ := hon (by omega)
              rcases hz2 with ⟨q1, q2, q3, q4⟩ | ⟨q1, q2⟩
              · refine ⟨Or.inr q1, hb2, fun _ => ⟨?_, by omega, fun _ => q4⟩, fun q => absurd q (by omega)⟩
                have e4 : AT rf2 = 4 := if_neg (by omega)
                rw [e4, ← q2, b1]
              · exact ⟨Or.inl q1, hb2, fun q => absurd q (by omega), fun _ => by rw [← b1]; exact q2⟩)) (by (try dsimp only); exact (by obtain ⟨b1, b2, b3⟩ := hon (by omega); rcases hz2 with ⟨q1, q2, q3, q4⟩ | ⟨q1, q2⟩ <;> omega)) _ _ _ hP hD hS (lv_sub hl [0, 1, 2, 3] rfl)
        refine lv_aload_n hx hb dX7_readsProgram_39 rfl (lv_at hl 1 rfl) ?_
        refine va_get (D := D) (ci := 7) (v := .int (iI rf1)) (C := RX7) (T := TX7) (N := 34) hx hb hts iw_7 hown hK.1 hP 0 rfl rfl 8 (by decide) fl_105 (fun _ h9 => h9) rfl dX7_readsProgram_40 ?_
        refine lv_iconst (v := iI 1) hx hb dX7_readsProgram_43 (by decide +kernel) ?_
        refine n_icmp_lt (tgt := 55) hx hb dX7_readsProgram_44 (by decide) (by omega) (fun c_7 => ?_) (fun c_7 => ?_)
        ·
          exact K_5 () (by (try dsimp only); exact (by omega)) _ _ _ hP hD hS (lv_sub hl [1, 2, 3, 0] rfl)
        ·
          refine lv_aload_n hx hb dX7_readsProgram_47 rfl (lv_at hl 1 rfl) ?_
          refine va_get (D := D) (ci := 7) (v := .int (iI ra1)) (C := RX7) (T := TX7) (N := 34) hx hb hts iw_7 hown hK.1 hP 0 rfl rfl 7 (by decide) fl_90 (fun _ h9 => h9) rfl dX7_readsProgram_48 ?_
          refine lv_iload_n hx hb dX7_readsProgram_51 rfl (lv_at hl 3 rfl) ?_
          refine n_icmp_ge (tgt := 65) hx hb dX7_readsProgram_52 (by decide) (by omega) (fun c_8 => ?_) (fun c_8 => ?_)
          ·
            refine lv_iload_n hx hb dX7_readsProgram_65 rfl (lv_at hl 0 rfl) ?_
            exact W.zret (v := iI is_) (ty := .boolean) hx hb hr (by rcases hsv with q | q <;> rw [q] <;> decide +kernel) (fun t ht hW => ⟨⟨_, (ra1, rf1, rk1, rg1, rl1, rs1), rfl, ⟨is_, rfl, (by (try dsimp only); exact hra1), (by (try dsimp only); exact (by
          rcases hsv with q | q
          · exact Or.inr ⟨q, hoff q⟩
          · refine Or.inl ⟨q, ?_⟩
            obtain ⟨a1, a2, a3⟩ := hon q
            rw [← a1, show (n - ra1).toNat = 0 by omega]
            have e4 : AT rf1 = 4 := if_neg (by omega)
            rw [e4]
            exact if_pos rfl))⟩, by rw [ht]; exact hP, hD⟩, hS.F ht⟩) hS.2.2 dX7_readsProgram_66
          ·
            exact K_5 () (by (try dsimp only); exact (by omega)) _ _ _ hP hD hS (lv_sub hl [1, 2, 3, 0] rfl)
  ·
    have hfz : (pRun (fun j => msh (fo + j)) n.toNat 0 ((0, 0, mrk, mrg, mrl, mrs) : PQ)).1 = 0 := by
      have := pr_f (cd := (fun j => msh (fo + j))) (n := n) (i := 0) (at_ := 0) (cnt := 0) (kd := mrk) (gd := mrg) (ln := mrl) (st := mrs) (by
        by_cases q : 0 < n
        · exact Or.inr ⟨q, by rw [pS_0 rfl, if_neg (show ¬ msh (fo + 0) = 101 by omega)]⟩
        · exact Or.inl ⟨by omega, by decide⟩)
      rw [Int.sub_zero] at this; exact this
    refine lv_iconst (v := iI 0) hx hb dX7_readsProgram_21 (by decide +kernel) ?_
    exact W.zret (v := iI 0) (ty := .boolean) hx hb hr (by decide +kernel) (fun t ht hW => ⟨⟨_, (0, 0, mrk, mrg, mrl, mrs), rfl, ⟨0, rfl, (by (try dsimp only); exact (by omega)), (by (try dsimp only); exact (Or.inr ⟨rfl, hfz⟩))⟩, by rw [ht]; exact hP, hD⟩, hS.F ht⟩) hS.2.2 dX7_readsProgram_22
set_option maxHeartbeats 4000000 in
set_option maxRecDepth 100000 in
theorem c_X7_cellsBarred (l : Launch) (D : va_G) (cI cS : ClassId) (mA : Nat → Nat) (mf : Int) (mn : Int) (ml : Int) (mk : Int → Int) (mg : Int → Int) (mls : Int → Int) (ms : Int → Int) (mra : Int) (mrf : Int) (mrk : Int → Int) (mrg : Int → Int) (mrl : Int → Int) (mrs : Int → Int) (mo : Int) (moo : Int → Int) (moa : Int → Int) (mp : Int) (mpp : Int → Int) (mfi : Int) (mpl : Int) (mpo : Int → Int) (mro : Int → Int) (mdp : Int) (mdf : Int) (mhg : Int → Int) (mhk : Int → Int) (mR : Int) (mRf : Int → Int) (mRo : Int → Int) (mss : Int → Int) (msl : Int → Int) (msh : Int → Int) (mha : Int → Int) (mt : Int) (sz : Nat) (k : Int) (la : Int) (i : Int) (n : Int) (hk : 0 ≤ k ∧ k < 4) (hmss : ∀ j : Int, 0 ≤ j → j < 4 → -1 ≤ mss j ∧ mss j ≤ 60) (hmsl : ∀ j : Int, 0 ≤ j → j < 4 → 0 ≤ msl j ∧ msl j ≤ 2) (hlar : -2147483648 ≤ la ∧ la < 2147483648) (hi : -2147483648 ≤ i ∧ i < 2147483648) (hn : -9000000000000000000 ≤ n ∧ n < 9000000000000000000) : Met l yX7_cellsBarred wsX7_cellsBarred ({ frames := 1, cells := 0, slots := 0, locals := 23 }) (cP D cI cS (W_M cI cS mA mf mn ml mk mg mls ms mra mrf mrk mrg mrl mrs mo moo moa mp mpp mfi mpl mpo mro mdp mdf mhg mhk mR mRf mRo mss msl msh mha mt) sz [.ref (mA 0), .int (iI k), .int (iI la), .int (iI i), .long (lI n)]) (va_Qi (fun (r : Int32) (u : Unit) => r = iI (if (ftk (lnM mss msl k) (mss k) la i n) = 0 then 0 else (-10) - (ftk (lnM mss msl k) (mss k) la i n))) (fun (u : Unit) t => cB D (va_A (W_M cI cS mA mf mn ml mk mg mls ms mra mrf mrk mrg mrl mrs mo moo moa mp mpp mfi mpl mpo mro mdp mdf mhg mhk mR mRf mRo mss msl msh mha mt) sz) (W_M cI cS mA (if (ftk (lnM mss msl k) (mss k) la i n) = 0 then mf else (ftk (lnM mss msl k) (mss k) la i n)) mn ml mk mg mls ms mra mrf mrk mrg mrl mrs mo moo moa mp mpp mfi mpl mpo mro mdp mdf mhg mhk mR mRf mRo mss msl msh mha mt) t) (va_A (W_M cI cS mA mf mn ml mk mg mls ms mra mrf mrk mrg mrl mrs mo moo moa mp mpp mfi mpl mpo mro mdp mdf mhg mhk mR mRf mRo mss msl msh mha mt) sz)) 0 0 (va_A (W_M cI cS mA mf mn ml mk mg mls ms mra mrf mrk mrg mrl mrs mo moo moa mp mpp mfi mpl mpo mro mdp mdf mhg mhk mR mRf mRo mss msl msh mha mt) sz) := by
  refine Met.ofW (cc := cX7_cellsBarred) (maxL := 6) (ret := (some .int)) (by decide) rfl ?_
  intro p e s m args below meth c_ s₁ B hml hv
  obtain ⟨rfl, hsz, hP, hK, hD0⟩ := hv
  have hx := B.exec
  have hb := B.bytes
  have hr := B.returns
  have hts := atoms_spec (ws := wsX7_cellsBarred) B.pre
  have hown : s.vm.findClass RX7 = some m.cls := findClass_of_methodNamed B.named
  have hlocks := B.notSynchronized
  subst hsz
  have hD := hD0.self (sz := s.heap.size)
  generalize hAe : va_A (W_M cI cS mA mf mn ml mk mg mls ms mra mrf mrk mrg mrl mrs mo moo moa mp mpp mfi mpl mpo mro mdp mdf mhg mhk mR mRf mRo mss msl msh mha mt) s.heap.size = A at hD ⊢
  have hA : ∀ q : Nat, s.heap.size ≤ q → A q := fun q h => by rw [← hAe]; exact Or.inr h
  have hS : va_S A s.heap s.heap [] := va_S.rf
  have hP : va_P D vwCl (W_M cI cS mA mf mn ml mk mg mls ms mra mrf mrk mrg mrl mrs mo moo moa mp mpp mfi mpl mpo mro mdp mdf mhg mhk mR mRf mRo mss msl msh mha mt) s.heap := hP
  have hl := lv_entry ([.ref (mA 0), .int (iI k), .int (iI la), .int (iI i), .long (lI n)] : List Value) (n := 6) (Nat.le_of_ble_eq_true rfl)
  rw [lg_entry_eq]
  generalize (lg_sl ([.ref (mA 0), .int (iI k), .int (iI la), .int (iI i), .long (lI n)] : List Value) ++ List.replicate (6 - (lg_sl ([.ref (mA 0), .int (iI k), .int (iI la), .int (iI i), .long (lI n)] : List Value)).length) Slot.unset).toArray = ls at hl ⊢
  have hl : lv_has ls 6 [(0, .ref (mA 0)), (1, .int (iI k)), (2, .int (iI la)), (3, .int (iI i)), (4, .long (lI n))] := hl
  have fl_61 := hts (.fieldLink RX7 61 "ActRowsModel" "sheetSize" "[I") (by decide +kernel)
  have iw_7 : ∀ w ∈ wsX70, w ∈ wsX7_cellsBarred := by decide +kernel
  have fl_64 := hts (.fieldLink RX7 64 "ActRowsModel" "sheetLane" "[I") (by decide +kernel)
  have h1 := hmss k hk.1 hk.2
  have h2 := hmsl k hk.1 hk.2
  refine lv_aload_n hx hb dX7_cellsBarred_0 rfl (lv_at hl 0 rfl) ?_
  refine va_get (D := D) (ci := 7) (v := .ref (mA 18)) (C := RX7) (T := TX7) (N := 34) hx hb hts iw_7 hown hK.1 hP 0 rfl rfl 29 (by decide) fl_61 (fun _ h9 => h9) rfl dX7_cellsBarred_1 ?_
  refine lv_iload_n hx hb dX7_cellsBarred_4 rfl (lv_at hl 1 rfl) ?_
  refine n_iald (n := 4) hx hb hK.1 hP 18 0 rfl rfl (by omega) (by decide) dX7_cellsBarred_5 ?_
  refine n_if_lt (tgt := 25) hx hb dX7_cellsBarred_6 (by decide) (by omega) (fun c_1 => ?_) (fun c_1 => ?_)
  ·
    refine lv_aload_n hx hb dX7_cellsBarred_25 rfl (lv_at hl 0 rfl) ?_
    refine va_get (D := D) (ci := 7) (v := .ref (mA 18)) (C := RX7) (T := TX7) (N := 34) hx hb hts iw_7 hown hK.1 hP 0 rfl rfl 29 (by decide) fl_61 (fun _ h9 => h9) rfl dX7_cellsBarred_26 ?_
    refine lv_iload_n hx hb dX7_cellsBarred_29 rfl (lv_at hl 1 rfl) ?_
    refine n_iald (n := 4) hx hb hK.1 hP 18 0 rfl rfl (by omega) (by decide) dX7_cellsBarred_30 ?_
    refine n_if_ge (tgt := 40) hx hb dX7_cellsBarred_31 (by decide) (by omega) (fun c_2 => ?_) (fun c_2 => ?_)
    · exact False.elim (by first | contradiction | omega)
    ·
      refine lv_aload_n hx hb dX7_cellsBarred_34 rfl (lv_at hl 0 rfl) ?_
      refine lv_iconst (v := iI 1) hx hb dX7_cellsBarred_35 (by decide +kernel) ?_
      refine x_callVi (As := [.int (iI 1)]) (rest := []) ⟨hx, hb, hml, hown, hts⟩ (c_X7_failed l D cI cS mA mf mn ml mk mg mls ms mra mrf mrk mrg mrl mrs mo moo moa mp mpp mfi mpl mpo mro mdp mdf mhg mhk mR mRf mRo mss msl msh mha mt s.heap.size 1) (cwV 1 hts gX7_cellsBarred_X7_failed rfl rfl rfl (by decide +kernel) ⟨Nat.le_of_ble_eq_true rfl, Nat.le_of_ble_eq_true rfl⟩) hK hP hD hS hA [0, 1, 2, 3, 4, 5, 6, 7, 8, 9, 10, 11, 12, 13, 14, 15, 16, 17, 18, 19, 20, 21] [] (wr := ([] : va_W)) rfl rfl (by decide) (by decide) (by decide) 0 7 rfl rfl rfl [0, 1, 2, 3, 4, 5, 6, 7, 8, 9, 10, 11, 12, 13, 14, 15, 16, 17, 18, 19, 20, 21] (fun (u : Unit) => (W_M cI cS mA 1 mn ml mk mg mls ms mra mrf mrk mrg mrl mrs mo moo moa mp mpp mfi mpl mpo mro mdp mdf mhg mhk mR mRf mRo mss msl msh mha mt)) (fun _ => rfl) (by decide) rfl hl.1 rfl (Nat.le_of_ble_eq_true rfl) ⟨Nat.zero_le _, Nat.zero_le _⟩ dX7_cellsBarred_36 (fun r_ u_ H locs hw hP hD hS => ?_)
      try dsimp only at hw
      subst hw
      have hP : va_P D vwCl (W_M cI cS mA 1 mn ml mk mg mls ms mra mrf mrk mrg mrl mrs mo moo moa mp mpp mfi mpl mpo mro mdp mdf mhg mhk mR mRf mRo mss msl msh mha mt) H := hP
      have hD : va_D A (W_M cI cS mA 1 mn ml mk mg mls ms mra mrf mrk mrg mrl mrs mo moo moa mp mpp mfi mpl mpo mro mdp mdf mhg mhk mR mRf mRo mss msl msh mha mt) := hD
      have e_3 : (1 : Int) = (if (ftk (lnM mss msl k) (mss k) la i n) = 0 then mf else (ftk (lnM mss msl k) (mss k) la i n)) := (by unfold ftk lnM; omega)
      have hP : va_P D vwCl (W_M cI cS mA (if (ftk (lnM mss msl k) (mss k) la i n) = 0 then mf else (ftk (lnM mss msl k) (mss k) la i n)) mn ml mk mg mls ms mra mrf mrk mrg mrl mrs mo moo moa mp mpp mfi mpl mpo mro mdp mdf mhg mhk mR mRf mRo mss msl msh mha mt) H := Eq.mp (congrArg (fun z_ => va_P D vwCl (W_M cI cS mA z_ mn ml mk mg mls ms mra mrf mrk mrg mrl mrs mo moo moa mp mpp mfi mpl mpo mro mdp mdf mhg mhk mR mRf mRo mss msl msh mha mt) H) e_3) hP
      have hD : va_D A (W_M cI cS mA (if (ftk (lnM mss msl k) (mss k) la i n) = 0 then mf else (ftk (lnM mss msl k) (mss k) la i n)) mn ml mk mg mls ms mra mrf mrk mrg mrl mrs mo moo moa mp mpp mfi mpl mpo mro mdp mdf mhg mhk mR mRf mRo mss msl msh mha mt) := Eq.mp (congrArg (fun z_ => va_D A (W_M cI cS mA z_ mn ml mk mg mls ms mra mrf mrk mrg mrl mrs mo moo moa mp mpp mfi mpl mpo mro mdp mdf mhg mhk mR mRf mRo mss msl msh mha mt)) e_3) hD
      exact W.iret (v := iI ((-10) - 1)) hx hb hr (fun t ht hW => ⟨⟨_, (), rfl, congrArg iI (show ((-10) - 1) = (if (ftk (lnM mss msl k) (mss k) la i n) = 0 then 0 else (-10) - (ftk (lnM mss msl k) (mss k) la i n)) from (by unfold ftk lnM; omega)), by rw [ht]; exact hP, hD⟩, hS.F ht⟩) hS.2.2 dX7_cellsBarred_39
  ·
    refine lv_aload_n hx hb dX7_cellsBarred_9 rfl (lv_at hl 0 rfl) ?_
    refine va_get (D := D) (ci := 7) (v := .ref (mA 19)) (C := RX7) (T := TX7) (N := 34) hx hb hts iw_7 hown hK.1 hP 0 rfl rfl 30 (by decide) fl_64 (fun _ h9 => h9) rfl dX7_cellsBarred_10 ?_
    refine lv_iload_n hx hb dX7_cellsBarred_13 rfl (lv_at hl 1 rfl) ?_
    refine n_iald (n := 4) hx hb hK.1 hP 19 0 rfl rfl (by omega) (by decide) dX7_cellsBarred_14 ?_
    refine lv_iload_n hx hb dX7_cellsBarred_15 rfl (lv_at hl 2 rfl) ?_
    refine n_icmp_eq (tgt := 25) hx hb dX7_cellsBarred_16 (by decide) (by omega) (fun c_4 => ?_) (fun c_4 => ?_)
    ·
      refine lv_aload_n hx hb dX7_cellsBarred_25 rfl (lv_at hl 0 rfl) ?_
      refine va_get (D := D) (ci := 7) (v := .ref (mA 18)) (C := RX7) (T := TX7) (N := 34) hx hb hts iw_7 hown hK.1 hP 0 rfl rfl 29 (by decide) fl_61 (fun _ h9 => h9) rfl dX7_cellsBarred_26 ?_
      refine lv_iload_n hx hb dX7_cellsBarred_29 rfl (lv_at hl 1 rfl) ?_
      refine n_iald (n := 4) hx hb hK.1 hP 18 0 rfl rfl (by omega) (by decide) dX7_cellsBarred_30 ?_
      refine n_if_ge (tgt := 40) hx hb dX7_cellsBarred_31 (by decide) (by omega) (fun c_5 => ?_) (fun c_5 => ?_)
      ·
        refine lv_lload hx hb dX7_cellsBarred_40 (lv_at hl 4 rfl) ?_
        refine lv_lconst (v := lI 0) hx hb dX7_cellsBarred_42 (by decide +kernel) ?_
        refine n_lcmp_ge (tgt := 53) hx hb dX7_cellsBarred_43 dX7_cellsBarred_44 (by decide) (by omega) (fun c_6 => ?_) (fun c_6 => ?_)
        ·
          refine lv_iload_n hx hb dX7_cellsBarred_53 rfl (lv_at hl 3 rfl) ?_
          refine lv_lload hx hb dX7_cellsBarred_54 (lv_at hl 4 rfl) ?_
          refine lv_aload_n hx hb dX7_cellsBarred_56 rfl (lv_at hl 0 rfl) ?_
          refine va_get (D := D) (ci := 7) (v := .ref (mA 18)) (C := RX7) (T := TX7) (N := 34) hx hb hts iw_7 hown hK.1 hP 0 rfl rfl 29 (by decide) fl_61 (fun _ h9 => h9) rfl dX7_cellsBarred_57 ?_
          refine lv_iload_n hx hb dX7_cellsBarred_60 rfl (lv_at hl 1 rfl) ?_
          refine n_iald (n := 4) hx hb hK.1 hP 18 0 rfl rfl (by omega) (by decide) dX7_cellsBarred_61 ?_
          refine x_callSi (As := [.int (iI i), .long (lI n), .int (iI (mss k))]) (rest := []) ⟨hx, hb, hml, hown, hts⟩ (c_X7_isBeyond l D cI cS s.heap.size i n (mss k) (by first | assumption | omega) (by first | assumption | omega) (by first | assumption | omega)) (va_cwS 3 hts gX7_cellsBarred_X7_isBeyond rfl rfl rfl (by decide +kernel) ⟨Nat.le_of_ble_eq_true rfl, Nat.le_of_ble_eq_true rfl⟩) hK hP hD hS hA [] [0, 1, 2, 3, 4, 5, 6, 7, 8, 9, 10, 11, 12, 13, 14, 15, 16, 17, 18, 19, 20, 21] (wr := [(mA 0, .inr (7, [.int (iI mf), .int (iI mn), .int (iI ml), .ref (mA 1), .ref (mA 2), .ref (mA 3), .ref (mA 4), .int (iI mra), .int (iI mrf), .ref (mA 5), .ref (mA 6), .ref (mA 7), .ref (mA 8), .int (iI mo), .ref (mA 9), .ref (mA 10), .int (iI mp), .ref (mA 11), .int (iI mfi), .int (iI mpl), .ref (mA 12), .ref (mA 13), .int (iI mdp), .int (iI mdf), .ref (mA 14), .ref (mA 15), .int (iI mR), .ref (mA 16), .ref (mA 17), .ref (mA 18), .ref (mA 19), .ref (mA 20), .ref (mA 21), .int (iI mt)])), (mA 1, .inl (cI, 5, .inl (aI mk))), (mA 2, .inl (cI, 5, .inl (aI mg))), (mA 3, .inl (cI, 5, .inl (aI mls))), (mA 4, .inl (cI, 20, .inl (aI ms))), (mA 5, .inl (cI, 5, .inl (aI mrk))), (mA 6, .inl (cI, 5, .inl (aI mrg))), (mA 7, .inl (cI, 5, .inl (aI mrl))), (mA 8, .inl (cI, 20, .inl (aI mrs))), (mA 9, .inl (cI, 5, .inl (aI moo))), (mA 10, .inl (cI, 5, .inl (aI moa))), (mA 11, .inl (cI, 1024, .inl (aI mpp))), (mA 12, .inl (cI, 5, .inl (aI mpo))), (mA 13, .inl (cI, 5, .inl (aI mro))), (mA 14, .inl (cI, 5, .inl (aI mhg))), (mA 15, .inl (cI, 5, .inl (aI mhk))), (mA 16, .inl (cI, 8, .inl (aI mRf))), (mA 17, .inl (cI, 8, .inl (aI mRo))), (mA 18, .inl (cI, 4, .inl (aI mss))), (mA 19, .inl (cI, 4, .inl (aI msl))), (mA 20, .inl (cI, 240, .inl (aI msh))), (mA 21, .inl (cI, 60, .inl (aI mha)))]) rfl rfl (by decide) (by decide) (by decide) [0, 1, 2, 3, 4, 5, 6, 7, 8, 9, 10, 11, 12, 13, 14, 15, 16, 17, 18, 19, 20, 21] (fun (u : Unit) => (W_M cI cS mA mf mn ml mk mg mls ms mra mrf mrk mrg mrl mrs mo moo moa mp mpp mfi mpl mpo mro mdp mdf mhg mhk mR mRf mRo mss msl msh mha mt)) (fun _ => rfl) (by decide) rfl hl.1 rfl (Nat.le_of_ble_eq_true rfl) ⟨Nat.zero_le _, Nat.zero_le _⟩ dX7_cellsBarred_62 (fun r_ u_ H locs hw hP hD hS => ?_)
          try dsimp only at hw
          subst hw
          have hP : va_P D vwCl (W_M cI cS mA mf mn ml mk mg mls ms mra mrf mrk mrg mrl mrs mo moo moa mp mpp mfi mpl mpo mro mdp mdf mhg mhk mR mRf mRo mss msl msh mha mt) H := hP
          have hD : va_D A (W_M cI cS mA mf mn ml mk mg mls ms mra mrf mrk mrg mrl mrs mo moo moa mp mpp mfi mpl mpo mro mdp mdf mhg mhk mR mRf mRo mss msl msh mha mt) := hD
          refine n_if_b1 (tgt := 76) hx hb dX7_cellsBarred_65 (by decide)  (fun c_7 => ?_) (fun c_7 => ?_)
          ·
            refine lv_iconst (v := iI 0) hx hb dX7_cellsBarred_76 (by decide +kernel) ?_
            have e_8 : (mf : Int) = (if (ftk (lnM mss msl k) (mss k) la i n) = 0 then mf else (ftk (lnM mss msl k) (mss k) la i n)) := (by unfold ftk lnM; omega)
            have hP : va_P D vwCl (W_M cI cS mA (if (ftk (lnM mss msl k) (mss k) la i n) = 0 then mf else (ftk (lnM mss msl k) (mss k) la i n)) mn ml mk mg mls ms mra mrf mrk mrg mrl mrs mo moo moa mp mpp mfi mpl mpo mro mdp mdf mhg mhk mR mRf mRo mss msl msh mha mt) H := Eq.mp (congrArg (fun z_ => va_P D vwCl (W_M cI cS mA z_ mn ml mk mg mls ms mra mrf mrk mrg mrl mrs mo moo moa mp mpp mfi mpl mpo mro mdp mdf mhg mhk mR mRf mRo mss msl msh mha mt) H) e_8) hP
            have hD : va_D A (W_M cI cS mA (if (ftk (lnM mss msl k) (mss k) la i n) = 0 then mf else (ftk (lnM mss msl k) (mss k) la i n)) mn ml mk mg mls ms mra mrf mrk mrg mrl mrs mo moo moa mp mpp mfi mpl mpo mro mdp mdf mhg mhk mR mRf mRo mss msl msh mha mt) := Eq.mp (congrArg (fun z_ => va_D A (W_M cI cS mA z_ mn ml mk mg mls ms mra mrf mrk mrg mrl mrs mo moo moa mp mpp mfi mpl mpo mro mdp mdf mhg mhk mR mRf mRo mss msl msh mha mt)) e_8) hD
            exact W.iret (v := iI 0) hx hb hr (fun t ht hW => ⟨⟨_, (), rfl, congrArg iI (show 0 = (if (ftk (lnM mss msl k) (mss k) la i n) = 0 then 0 else (-10) - (ftk (lnM mss msl k) (mss k) la i n)) from (by unfold ftk lnM; omega)), by rw [ht]; exact hP, hD⟩, hS.F ht⟩) hS.2.2 dX7_cellsBarred_77
          ·
            refine lv_aload_n hx hb dX7_cellsBarred_68 rfl (lv_at hl 0 rfl) ?_
            refine lv_iconst (v := iI 3) hx hb dX7_cellsBarred_69 (by decide +kernel) ?_
            refine x_callVi (As := [.int (iI 3)]) (rest := []) ⟨hx, hb, hml, hown, hts⟩ (c_X7_failed l D cI cS mA mf mn ml mk mg mls ms mra mrf mrk mrg mrl mrs mo moo moa mp mpp mfi mpl mpo mro mdp mdf mhg mhk mR mRf mRo mss msl msh mha mt H.size 3) (cwV 1 hts gX7_cellsBarred_X7_failed rfl rfl rfl (by decide +kernel) ⟨Nat.le_of_ble_eq_true rfl, Nat.le_of_ble_eq_true rfl⟩) hK hP hD hS hA [0, 1, 2, 3, 4, 5, 6, 7, 8, 9, 10, 11, 12, 13, 14, 15, 16, 17, 18, 19, 20, 21] [] (wr := ([] : va_W)) rfl rfl (by decide) (by decide) (by decide) 0 7 rfl rfl rfl [0, 1, 2, 3, 4, 5, 6, 7, 8, 9, 10, 11, 12, 13, 14, 15, 16, 17, 18, 19, 20, 21] (fun (u : Unit) => (W_M cI cS mA 3 mn ml mk mg mls ms mra mrf mrk mrg mrl mrs mo moo moa mp mpp mfi mpl mpo mro mdp mdf mhg mhk mR mRf mRo mss msl msh mha mt)) (fun _ => rfl) (by decide) rfl hl.1 rfl (Nat.le_of_ble_eq_true rfl) ⟨Nat.zero_le _, Nat.zero_le _⟩ dX7_cellsBarred_70 (fun r_ u_ H locs hw hP hD hS => ?_)
            try dsimp only at hw
            subst hw
            have hP : va_P D vwCl (W_M cI cS mA 3 mn ml mk mg mls ms mra mrf mrk mrg mrl mrs mo moo moa mp mpp mfi mpl mpo mro mdp mdf mhg mhk mR mRf mRo mss msl msh mha mt) H := hP
            have hD : va_D A (W_M cI cS mA 3 mn ml mk mg mls ms mra mrf mrk mrg mrl mrs mo moo moa mp mpp mfi mpl mpo mro mdp mdf mhg mhk mR mRf mRo mss msl msh mha mt) := hD
            refine lv_goto (tgt := 77) hx hb dX7_cellsBarred_73 (by decide) ?_
            have e_9 : (3 : Int) = (if (ftk (lnM mss msl k) (mss k) la i n) = 0 then mf else (ftk (lnM mss msl k) (mss k) la i n)) := (by unfold ftk lnM; omega)
            have hP : va_P D vwCl (W_M cI cS mA (if (ftk (lnM mss msl k) (mss k) la i n) = 0 then mf else (ftk (lnM mss msl k) (mss k) la i n)) mn ml mk mg mls ms mra mrf mrk mrg mrl mrs mo moo moa mp mpp mfi mpl mpo mro mdp mdf mhg mhk mR mRf mRo mss msl msh mha mt) H := Eq.mp (congrArg (fun z_ => va_P D vwCl (W_M cI cS mA z_ mn ml mk mg mls ms mra mrf mrk mrg mrl mrs mo moo moa mp mpp mfi mpl mpo mro mdp mdf mhg mhk mR mRf mRo mss msl msh mha mt) H) e_9) hP
            have hD : va_D A (W_M cI cS mA (if (ftk (lnM mss msl k) (mss k) la i n) = 0 then mf else (ftk (lnM mss msl k) (mss k) la i n)) mn ml mk mg mls ms mra mrf mrk mrg mrl mrs mo moo moa mp mpp mfi mpl mpo mro mdp mdf mhg mhk mR mRf mRo mss msl msh mha mt) := Eq.mp (congrArg (fun z_ => va_D A (W_M cI cS mA z_ mn ml mk mg mls ms mra mrf mrk mrg mrl mrs mo moo moa mp mpp mfi mpl mpo mro mdp mdf mhg mhk mR mRf mRo mss msl msh mha mt)) e_9) hD
            exact W.iret (v := iI ((-10) - 3)) hx hb hr (fun t ht hW => ⟨⟨_, (), rfl, congrArg iI (show ((-10) - 3) = (if (ftk (lnM mss msl k) (mss k) la i n) = 0 then 0 else (-10) - (ftk (lnM mss msl k) (mss k) la i n)) from (by unfold ftk lnM; omega)), by rw [ht]; exact hP, hD⟩, hS.F ht⟩) hS.2.2 dX7_cellsBarred_77
        ·
          refine lv_aload_n hx hb dX7_cellsBarred_47 rfl (lv_at hl 0 rfl) ?_
          refine lv_iconst (v := iI 4) hx hb dX7_cellsBarred_48 (by decide +kernel) ?_
          refine x_callVi (As := [.int (iI 4)]) (rest := []) ⟨hx, hb, hml, hown, hts⟩ (c_X7_failed l D cI cS mA mf mn ml mk mg mls ms mra mrf mrk mrg mrl mrs mo moo moa mp mpp mfi mpl mpo mro mdp mdf mhg mhk mR mRf mRo mss msl msh mha mt s.heap.size 4) (cwV 1 hts gX7_cellsBarred_X7_failed rfl rfl rfl (by decide +kernel) ⟨Nat.le_of_ble_eq_true rfl, Nat.le_of_ble_eq_true rfl⟩) hK hP hD hS hA [0, 1, 2, 3, 4, 5, 6, 7, 8, 9, 10, 11, 12, 13, 14, 15, 16, 17, 18, 19, 20, 21] [] (wr := ([] : va_W)) rfl rfl (by decide) (by decide) (by decide) 0 7 rfl rfl rfl [0, 1, 2, 3, 4, 5, 6, 7, 8, 9, 10, 11, 12, 13, 14, 15, 16, 17, 18, 19, 20, 21] (fun (u : Unit) => (W_M cI cS mA 4 mn ml mk mg mls ms mra mrf mrk mrg mrl mrs mo moo moa mp mpp mfi mpl mpo mro mdp mdf mhg mhk mR mRf mRo mss msl msh mha mt)) (fun _ => rfl) (by decide) rfl hl.1 rfl (Nat.le_of_ble_eq_true rfl) ⟨Nat.zero_le _, Nat.zero_le _⟩ dX7_cellsBarred_49 (fun r_ u_ H locs hw hP hD hS => ?_)
          try dsimp only at hw
          subst hw
          have hP : va_P D vwCl (W_M cI cS mA 4 mn ml mk mg mls ms mra mrf mrk mrg mrl mrs mo moo moa mp mpp mfi mpl mpo mro mdp mdf mhg mhk mR mRf mRo mss msl msh mha mt) H := hP
          have hD : va_D A (W_M cI cS mA 4 mn ml mk mg mls ms mra mrf mrk mrg mrl mrs mo moo moa mp mpp mfi mpl mpo mro mdp mdf mhg mhk mR mRf mRo mss msl msh mha mt) := hD
          have e_10 : (4 : Int) = (if (ftk (lnM mss msl k) (mss k) la i n) = 0 then mf else (ftk (lnM mss msl k) (mss k) la i n)) := (by unfold ftk lnM; omega)
          have hP : va_P D vwCl (W_M cI cS mA (if (ftk (lnM mss msl k) (mss k) la i n) = 0 then mf else (ftk (lnM mss msl k) (mss k) la i n)) mn ml mk mg mls ms mra mrf mrk mrg mrl mrs mo moo moa mp mpp mfi mpl mpo mro mdp mdf mhg mhk mR mRf mRo mss msl msh mha mt) H := Eq.mp (congrArg (fun z_ => va_P D vwCl (W_M cI cS mA z_ mn ml mk mg mls ms mra mrf mrk mrg mrl mrs mo moo moa mp mpp mfi mpl mpo mro mdp mdf mhg mhk mR mRf mRo mss msl msh mha mt) H) e_10) hP
          have hD : va_D A (W_M cI cS mA (if (ftk (lnM mss msl k) (mss k) la i n) = 0 then mf else (ftk (lnM mss msl k) (mss k) la i n)) mn ml mk mg mls ms mra mrf mrk mrg mrl mrs mo moo moa mp mpp mfi mpl mpo mro mdp mdf mhg mhk mR mRf mRo mss msl msh mha mt) := Eq.mp (congrArg (fun z_ => va_D A (W_M cI cS mA z_ mn ml mk mg mls ms mra mrf mrk mrg mrl mrs mo moo moa mp mpp mfi mpl mpo mro mdp mdf mhg mhk mR mRf mRo mss msl msh mha mt)) e_10) hD
          exact W.iret (v := iI ((-10) - 4)) hx hb hr (fun t ht hW => ⟨⟨_, (), rfl, congrArg iI (show ((-10) - 4) = (if (ftk (lnM mss msl k) (mss k) la i n) = 0 then 0 else (-10) - (ftk (lnM mss msl k) (mss k) la i n)) from (by unfold ftk lnM; omega)), by rw [ht]; exact hP, hD⟩, hS.F ht⟩) hS.2.2 dX7_cellsBarred_52
      · exact False.elim (by first | contradiction | omega)
    ·
      refine lv_aload_n hx hb dX7_cellsBarred_19 rfl (lv_at hl 0 rfl) ?_
      refine lv_iconst (v := iI 2) hx hb dX7_cellsBarred_20 (by decide +kernel) ?_
      refine x_callVi (As := [.int (iI 2)]) (rest := []) ⟨hx, hb, hml, hown, hts⟩ (c_X7_failed l D cI cS mA mf mn ml mk mg mls ms mra mrf mrk mrg mrl mrs mo moo moa mp mpp mfi mpl mpo mro mdp mdf mhg mhk mR mRf mRo mss msl msh mha mt s.heap.size 2) (cwV 1 hts gX7_cellsBarred_X7_failed rfl rfl rfl (by decide +kernel) ⟨Nat.le_of_ble_eq_true rfl, Nat.le_of_ble_eq_true rfl⟩) hK hP hD hS hA [0, 1, 2, 3, 4, 5, 6, 7, 8, 9, 10, 11, 12, 13, 14, 15, 16, 17, 18, 19, 20, 21] [] (wr := ([] : va_W)) rfl rfl (by decide) (by decide) (by decide) 0 7 rfl rfl rfl [0, 1, 2, 3, 4, 5, 6, 7, 8, 9, 10, 11, 12, 13, 14, 15, 16, 17, 18, 19, 20, 21] (fun (u : Unit) => (W_M cI cS mA 2 mn ml mk mg mls ms mra mrf mrk mrg mrl mrs mo moo moa mp mpp mfi mpl mpo mro mdp mdf mhg mhk mR mRf mRo mss msl msh mha mt)) (fun _ => rfl) (by decide) rfl hl.1 rfl (Nat.le_of_ble_eq_true rfl) ⟨Nat.zero_le _, Nat.zero_le _⟩ dX7_cellsBarred_21 (fun r_ u_ H locs hw hP hD hS => ?_)
      try dsimp only at hw
      subst hw
      have hP : va_P D vwCl (W_M cI cS mA 2 mn ml mk mg mls ms mra mrf mrk mrg mrl mrs mo moo moa mp mpp mfi mpl mpo mro mdp mdf mhg mhk mR mRf mRo mss msl msh mha mt) H := hP
      have hD : va_D A (W_M cI cS mA 2 mn ml mk mg mls ms mra mrf mrk mrg mrl mrs mo moo moa mp mpp mfi mpl mpo mro mdp mdf mhg mhk mR mRf mRo mss msl msh mha mt) := hD
      have e_11 : (2 : Int) = (if (ftk (lnM mss msl k) (mss k) la i n) = 0 then mf else (ftk (lnM mss msl k) (mss k) la i n)) := (by unfold ftk lnM; omega)
      have hP : va_P D vwCl (W_M cI cS mA (if (ftk (lnM mss msl k) (mss k) la i n) = 0 then mf else (ftk (lnM mss msl k) (mss k) la i n)) mn ml mk mg mls ms mra mrf mrk mrg mrl mrs mo moo moa mp mpp mfi mpl mpo mro mdp mdf mhg mhk mR mRf mRo mss msl msh mha mt) H := Eq.mp (congrArg (fun z_ => va_P D vwCl (W_M cI cS mA z_ mn ml mk mg mls ms mra mrf mrk mrg mrl mrs mo moo moa mp mpp mfi mpl mpo mro mdp mdf mhg mhk mR mRf mRo mss msl msh mha mt) H) e_11) hP
      have hD : va_D A (W_M cI cS mA (if (ftk (lnM mss msl k) (mss k) la i n) = 0 then mf else (ftk (lnM mss msl k) (mss k) la i n)) mn ml mk mg mls ms mra mrf mrk mrg mrl mrs mo moo moa mp mpp mfi mpl mpo mro mdp mdf mhg mhk mR mRf mRo mss msl msh mha mt) := Eq.mp (congrArg (fun z_ => va_D A (W_M cI cS mA z_ mn ml mk mg mls ms mra mrf mrk mrg mrl mrs mo moo moa mp mpp mfi mpl mpo mro mdp mdf mhg mhk mR mRf mRo mss msl msh mha mt)) e_11) hD
      exact W.iret (v := iI ((-10) - 2)) hx hb hr (fun t ht hW => ⟨⟨_, (), rfl, congrArg iI (show ((-10) - 2) = (if (ftk (lnM mss msl k) (mss k) la i n) = 0 then 0 else (-10) - (ftk (lnM mss msl k) (mss k) la i n)) from (by unfold ftk lnM; omega)), by rw [ht]; exact hP, hD⟩, hS.F ht⟩) hS.2.2 dX7_cellsBarred_24
set_option maxHeartbeats 4000000 in
set_option maxRecDepth 100000 in
theorem c_X7_program (l : Launch) (D : va_G) (cI cS : ClassId) (mA : Nat → Nat) (mf : Int) (mn : Int) (ml : Int) (mk : Int → Int) (mg : Int → Int) (mls : Int → Int) (ms : Int → Int) (mra : Int) (mrf : Int) (mrk : Int → Int) (mrg : Int → Int) (mrl : Int → Int) (mrs : Int → Int) (mo : Int) (moo : Int → Int) (moa : Int → Int) (mp : Int) (mpp : Int → Int) (mfi : Int) (mpl : Int) (mpo : Int → Int) (mro : Int → Int) (mdp : Int) (mdf : Int) (mhg : Int → Int) (mhk : Int → Int) (mR : Int) (mRf : Int → Int) (mRo : Int → Int) (mss : Int → Int) (msl : Int → Int) (msh : Int → Int) (mha : Int → Int) (mt : Int) (sz : Nat) (sh : Int) (la : Int) (i : Int) (n : Int) (hmss : ∀ j : Int, 0 ≤ j → j < 4 → -1 ≤ mss j ∧ mss j ≤ 60) (hmsl : ∀ j : Int, 0 ≤ j → j < 4 → 0 ≤ msl j ∧ msl j ≤ 2) (hmsh : ∀ j : Int, -2147483648 ≤ msh j ∧ msh j < 2147483648) (hshr : -2147483648 ≤ sh ∧ sh < 2147483648) (hlar : -2147483648 ≤ la ∧ la < 2147483648) (hi : -2147483648 ≤ i ∧ i < 2147483648) (hn : -2147483648 ≤ n ∧ n < 2147483648) : Met l yX7_program wsX7_program ({ frames := 4, cells := 0, slots := 0, locals := 99 }) (cP D cI cS (W_M cI cS mA mf mn ml mk mg mls ms mra mrf mrk mrg mrl mrs mo moo moa mp mpp mfi mpl mpo mro mdp mdf mhg mhk mR mRf mRo mss msl msh mha mt) sz [.ref (mA 0), .int (iI sh), .int (iI la), .int (iI i), .int (iI n)]) (va_Qi (fun (r : Int32) (u : Int × Int × (Int → Int) × (Int → Int) × (Int → Int) × (Int → Int) × Int × Int × (Int → Int) × (Int → Int) × (Int → Int) × (Int → Int) × Int) => (r = iI (sProg (lnM mss msl sh) (mss sh) (fun j => msh (60 * sh + j)) sh la i n mrk mrg mrl mrs)) ∧ (sProgT (lnM mss msl sh) (mss sh) (fun j => msh (60 * sh + j)) sh la i n mrk mrg mrl mrs → u.2.2.2.2.2.2.1 = (PG (fun j => msh (60 * sh + j)) i n mrk mrg mrl mrs).2.2.1 ∧ u.2.2.2.2.2.2.2.1 = 15 ∧ u.2.2.2.2.2.2.2.2.2.2.2.2 = 0 ∧ (∀ j : Int, 0 ≤ j → j < (PG (fun j => msh (60 * sh + j)) i n mrk mrg mrl mrs).2.2.1 → u.2.2.2.2.2.2.2.2.1 j = (PG (fun j => msh (60 * sh + j)) i n mrk mrg mrl mrs).2.2.2.1 j ∧ u.2.2.2.2.2.2.2.2.2.1 j = (PG (fun j => msh (60 * sh + j)) i n mrk mrg mrl mrs).2.2.2.2.1 j ∧ u.2.2.2.2.2.2.2.2.2.2.1 j = (PG (fun j => msh (60 * sh + j)) i n mrk mrg mrl mrs).2.2.2.2.2.1 j) ∧ ∀ j : Int, 0 ≤ j → j < (PG (fun j => msh (60 * sh + j)) i n mrk mrg mrl mrs).2.2.1 → ∀ x : Int, 0 ≤ x → x < (PG (fun j => msh (60 * sh + j)) i n mrk mrg mrl mrs).2.2.2.2.2.1 j → u.2.2.2.2.2.2.2.2.2.2.2.1 (j * 4 + x) = (PG (fun j => msh (60 * sh + j)) i n mrk mrg mrl mrs).2.2.2.2.2.2 (j * 4 + x)) ∧ (¬ sProgT (lnM mss msl sh) (mss sh) (fun j => msh (60 * sh + j)) sh la i n mrk mrg mrl mrs → u.2.2.2.2.2.2.1 = mn ∧ u.2.2.2.2.2.2.2.1 = ml ∧ u.2.2.2.2.2.2.2.2.1 = mk ∧ u.2.2.2.2.2.2.2.2.2.1 = mg ∧ u.2.2.2.2.2.2.2.2.2.2.1 = mls ∧ u.2.2.2.2.2.2.2.2.2.2.2.1 = ms ∧ u.2.2.2.2.2.2.2.2.2.2.2.2 = mR)) (fun (u : Int × Int × (Int → Int) × (Int → Int) × (Int → Int) × (Int → Int) × Int × Int × (Int → Int) × (Int → Int) × (Int → Int) × (Int → Int) × Int) t => cB D (va_A (W_M cI cS mA mf mn ml mk mg mls ms mra mrf mrk mrg mrl mrs mo moo moa mp mpp mfi mpl mpo mro mdp mdf mhg mhk mR mRf mRo mss msl msh mha mt) sz) (W_M cI cS mA (sProgLf (lnM mss msl sh) (mss sh) sh la i n) u.2.2.2.2.2.2.1 u.2.2.2.2.2.2.2.1 u.2.2.2.2.2.2.2.2.1 u.2.2.2.2.2.2.2.2.2.1 u.2.2.2.2.2.2.2.2.2.2.1 u.2.2.2.2.2.2.2.2.2.2.2.1 u.1 u.2.1 u.2.2.1 u.2.2.2.1 u.2.2.2.2.1 u.2.2.2.2.2.1 mo moo moa mp mpp mfi mpl mpo mro mdp mdf mhg mhk u.2.2.2.2.2.2.2.2.2.2.2.2 mRf mRo mss msl msh mha mt) t) (va_A (W_M cI cS mA mf mn ml mk mg mls ms mra mrf mrk mrg mrl mrs mo moo moa mp mpp mfi mpl mpo mro mdp mdf mhg mhk mR mRf mRo mss msl msh mha mt) sz)) 0 0 (va_A (W_M cI cS mA mf mn ml mk mg mls ms mra mrf mrk mrg mrl mrs mo moo moa mp mpp mfi mpl mpo mro mdp mdf mhg mhk mR mRf mRo mss msl msh mha mt) sz) := by
  refine Met.ofW (cc := cX7_program) (maxL := 8) (ret := (some .int)) (by decide) rfl ?_
  intro p e s m args below meth c_ s₁ B hml hv
  obtain ⟨rfl, hsz, hP, hK, hD0⟩ := hv
  have hx := B.exec
  have hb := B.bytes
  have hr := B.returns
  have hts := atoms_spec (ws := wsX7_program) B.pre
  have hown : s.vm.findClass RX7 = some m.cls := findClass_of_methodNamed B.named
  have hlocks := B.notSynchronized
  subst hsz
  have hD := hD0.self (sz := s.heap.size)
  generalize hAe : va_A (W_M cI cS mA mf mn ml mk mg mls ms mra mrf mrk mrg mrl mrs mo moo moa mp mpp mfi mpl mpo mro mdp mdf mhg mhk mR mRf mRo mss msl msh mha mt) s.heap.size = A at hD ⊢
  have hA : ∀ q : Nat, s.heap.size ≤ q → A q := fun q h => by rw [← hAe]; exact Or.inr h
  have hS : va_S A s.heap s.heap [] := va_S.rf
  have hP : va_P D vwCl (W_M cI cS mA mf mn ml mk mg mls ms mra mrf mrk mrg mrl mrs mo moo moa mp mpp mfi mpl mpo mro mdp mdf mhg mhk mR mRf mRo mss msl msh mha mt) s.heap := hP
  have hl := lv_entry ([.ref (mA 0), .int (iI sh), .int (iI la), .int (iI i), .int (iI n)] : List Value) (n := 8) (Nat.le_of_ble_eq_true rfl)
  rw [lg_entry_eq]
  generalize (lg_sl ([.ref (mA 0), .int (iI sh), .int (iI la), .int (iI i), .int (iI n)] : List Value) ++ List.replicate (8 - (lg_sl ([.ref (mA 0), .int (iI sh), .int (iI la), .int (iI i), .int (iI n)] : List Value)).length) Slot.unset).toArray = ls at hl ⊢
  have hl : lv_has ls 8 [(0, .ref (mA 0)), (1, .int (iI sh)), (2, .int (iI la)), (3, .int (iI i)), (4, .int (iI n))] := hl
  have ck_133 := hts (.constantLong RX7 133 (lI 2)) (by decide +kernel)
  have fl_105 := hts (.fieldLink RX7 105 "ActRowsModel" "readFunctions" "I") (by decide +kernel)
  have iw_7 : ∀ w ∈ wsX70, w ∈ wsX7_program := by decide +kernel
  have fl_83 := hts (.fieldLink RX7 83 "ActRowsModel" "functions" "I") (by decide +kernel)
  have fl_142 := hts (.fieldLink RX7 142 "ActRowsModel" "liveNow" "I") (by decide +kernel)
  have fl_145 := hts (.fieldLink RX7 145 "ActRowsModel" "readings" "I") (by decide +kernel)
  have fl_7 := hts (.fieldLink RX7 7 "ActRowsModel" "kindOf" "[I") (by decide +kernel)
  have fl_22 := hts (.fieldLink RX7 22 "ActRowsModel" "readKind" "[I") (by decide +kernel)
  have fl_13 := hts (.fieldLink RX7 13 "ActRowsModel" "guardOf" "[I") (by decide +kernel)
  have fl_25 := hts (.fieldLink RX7 25 "ActRowsModel" "readGuard" "[I") (by decide +kernel)
  have fl_16 := hts (.fieldLink RX7 16 "ActRowsModel" "stepsOf" "[I") (by decide +kernel)
  have fl_28 := hts (.fieldLink RX7 28 "ActRowsModel" "readSteps" "[I") (by decide +kernel)
  have fl_19 := hts (.fieldLink RX7 19 "ActRowsModel" "stepOf" "[I") (by decide +kernel)
  have fl_31 := hts (.fieldLink RX7 31 "ActRowsModel" "readStep" "[I") (by decide +kernel)
  have fl_90 := hts (.fieldLink RX7 90 "ActRowsModel" "readAt" "I") (by decide +kernel)
  refine lv_iload_n hx hb dX7_program_0 rfl (lv_at hl 1 rfl) ?_
  refine x_callSi (As := [.int (iI sh)]) (rest := []) ⟨hx, hb, hml, hown, hts⟩ (c_X7_noSheet l D cI cS s.heap.size sh (by first | assumption | omega)) (va_cwS 1 hts gX7_program_X7_noSheet rfl rfl rfl (by decide +kernel) ⟨Nat.le_of_ble_eq_true rfl, Nat.le_of_ble_eq_true rfl⟩) hK hP hD hS hA [] [0, 1, 2, 3, 4, 5, 6, 7, 8, 9, 10, 11, 12, 13, 14, 15, 16, 17, 18, 19, 20, 21] (wr := [(mA 0, .inr (7, [.int (iI mf), .int (iI mn), .int (iI ml), .ref (mA 1), .ref (mA 2), .ref (mA 3), .ref (mA 4), .int (iI mra), .int (iI mrf), .ref (mA 5), .ref (mA 6), .ref (mA 7), .ref (mA 8), .int (iI mo), .ref (mA 9), .ref (mA 10), .int (iI mp), .ref (mA 11), .int (iI mfi), .int (iI mpl), .ref (mA 12), .ref (mA 13), .int (iI mdp), .int (iI mdf), .ref (mA 14), .ref (mA 15), .int (iI mR), .ref (mA 16), .ref (mA 17), .ref (mA 18), .ref (mA 19), .ref (mA 20), .ref (mA 21), .int (iI mt)])), (mA 1, .inl (cI, 5, .inl (aI mk))), (mA 2, .inl (cI, 5, .inl (aI mg))), (mA 3, .inl (cI, 5, .inl (aI mls))), (mA 4, .inl (cI, 20, .inl (aI ms))), (mA 5, .inl (cI, 5, .inl (aI mrk))), (mA 6, .inl (cI, 5, .inl (aI mrg))), (mA 7, .inl (cI, 5, .inl (aI mrl))), (mA 8, .inl (cI, 20, .inl (aI mrs))), (mA 9, .inl (cI, 5, .inl (aI moo))), (mA 10, .inl (cI, 5, .inl (aI moa))), (mA 11, .inl (cI, 1024, .inl (aI mpp))), (mA 12, .inl (cI, 5, .inl (aI mpo))), (mA 13, .inl (cI, 5, .inl (aI mro))), (mA 14, .inl (cI, 5, .inl (aI mhg))), (mA 15, .inl (cI, 5, .inl (aI mhk))), (mA 16, .inl (cI, 8, .inl (aI mRf))), (mA 17, .inl (cI, 8, .inl (aI mRo))), (mA 18, .inl (cI, 4, .inl (aI mss))), (mA 19, .inl (cI, 4, .inl (aI msl))), (mA 20, .inl (cI, 240, .inl (aI msh))), (mA 21, .inl (cI, 60, .inl (aI mha)))]) rfl rfl (by decide) (by decide) (by decide) [0, 1, 2, 3, 4, 5, 6, 7, 8, 9, 10, 11, 12, 13, 14, 15, 16, 17, 18, 19, 20, 21] (fun (u : Unit) => (W_M cI cS mA mf mn ml mk mg mls ms mra mrf mrk mrg mrl mrs mo moo moa mp mpp mfi mpl mpo mro mdp mdf mhg mhk mR mRf mRo mss msl msh mha mt)) (fun _ => rfl) (by decide) rfl hl.1 rfl (Nat.le_of_ble_eq_true rfl) ⟨Nat.zero_le _, Nat.zero_le _⟩ dX7_program_1 (fun r_ u_ H locs hw hP hD hS => ?_)
  try dsimp only at hw
  subst hw
  have hP : va_P D vwCl (W_M cI cS mA mf mn ml mk mg mls ms mra mrf mrk mrg mrl mrs mo moo moa mp mpp mfi mpl mpo mro mdp mdf mhg mhk mR mRf mRo mss msl msh mha mt) H := hP
  have hD : va_D A (W_M cI cS mA mf mn ml mk mg mls ms mra mrf mrk mrg mrl mrs mo moo moa mp mpp mfi mpl mpo mro mdp mdf mhg mhk mR mRf mRo mss msl msh mha mt) := hD
  refine n_if_b1 (tgt := 13) hx hb dX7_program_4 (by decide)  (fun c_1 => ?_) (fun c_1 => ?_)
  ·
    refine lv_iload_n hx hb dX7_program_13 rfl (lv_at hl 2 rfl) ?_
    refine n_i2l hx hb (by omega) dX7_program_14 ?_
    refine lv_lconst (v := lI 0) hx hb dX7_program_15 (by decide +kernel) ?_
    refine lv_ldc2 hx hb hown ck_133 dX7_program_16 ?_
    refine x_callSi (As := [.long (lI la), .long (lI 0), .long (lI 2)]) (rest := []) ⟨hx, hb, hml, hown, hts⟩ (c_X7_in l D cI cS H.size la 0 2 (by first | assumption | omega) (by first | assumption | omega) (by first | assumption | omega)) (va_cwS 3 hts gX7_program_X7_in rfl rfl rfl (by decide +kernel) ⟨Nat.le_of_ble_eq_true rfl, Nat.le_of_ble_eq_true rfl⟩) hK hP hD hS hA [] [0, 1, 2, 3, 4, 5, 6, 7, 8, 9, 10, 11, 12, 13, 14, 15, 16, 17, 18, 19, 20, 21] (wr := [(mA 0, .inr (7, [.int (iI mf), .int (iI mn), .int (iI ml), .ref (mA 1), .ref (mA 2), .ref (mA 3), .ref (mA 4), .int (iI mra), .int (iI mrf), .ref (mA 5), .ref (mA 6), .ref (mA 7), .ref (mA 8), .int (iI mo), .ref (mA 9), .ref (mA 10), .int (iI mp), .ref (mA 11), .int (iI mfi), .int (iI mpl), .ref (mA 12), .ref (mA 13), .int (iI mdp), .int (iI mdf), .ref (mA 14), .ref (mA 15), .int (iI mR), .ref (mA 16), .ref (mA 17), .ref (mA 18), .ref (mA 19), .ref (mA 20), .ref (mA 21), .int (iI mt)])), (mA 1, .inl (cI, 5, .inl (aI mk))), (mA 2, .inl (cI, 5, .inl (aI mg))), (mA 3, .inl (cI, 5, .inl (aI mls))), (mA 4, .inl (cI, 20, .inl (aI ms))), (mA 5, .inl (cI, 5, .inl (aI mrk))), (mA 6, .inl (cI, 5, .inl (aI mrg))), (mA 7, .inl (cI, 5, .inl (aI mrl))), (mA 8, .inl (cI, 20, .inl (aI mrs))), (mA 9, .inl (cI, 5, .inl (aI moo))), (mA 10, .inl (cI, 5, .inl (aI moa))), (mA 11, .inl (cI, 1024, .inl (aI mpp))), (mA 12, .inl (cI, 5, .inl (aI mpo))), (mA 13, .inl (cI, 5, .inl (aI mro))), (mA 14, .inl (cI, 5, .inl (aI mhg))), (mA 15, .inl (cI, 5, .inl (aI mhk))), (mA 16, .inl (cI, 8, .inl (aI mRf))), (mA 17, .inl (cI, 8, .inl (aI mRo))), (mA 18, .inl (cI, 4, .inl (aI mss))), (mA 19, .inl (cI, 4, .inl (aI msl))), (mA 20, .inl (cI, 240, .inl (aI msh))), (mA 21, .inl (cI, 60, .inl (aI mha)))]) rfl rfl (by decide) (by decide) (by decide) [0, 1, 2, 3, 4, 5, 6, 7, 8, 9, 10, 11, 12, 13, 14, 15, 16, 17, 18, 19, 20, 21] (fun (u : Unit) => (W_M cI cS mA mf mn ml mk mg mls ms mra mrf mrk mrg mrl mrs mo moo moa mp mpp mfi mpl mpo mro mdp mdf mhg mhk mR mRf mRo mss msl msh mha mt)) (fun _ => rfl) (by decide) rfl hl.1 rfl (Nat.le_of_ble_eq_true rfl) ⟨Nat.zero_le _, Nat.zero_le _⟩ dX7_program_19 (fun r_ u_ H locs hw hP hD hS => ?_)
    try dsimp only at hw
    subst hw
    have hP : va_P D vwCl (W_M cI cS mA mf mn ml mk mg mls ms mra mrf mrk mrg mrl mrs mo moo moa mp mpp mfi mpl mpo mro mdp mdf mhg mhk mR mRf mRo mss msl msh mha mt) H := hP
    have hD : va_D A (W_M cI cS mA mf mn ml mk mg mls ms mra mrf mrk mrg mrl mrs mo moo moa mp mpp mfi mpl mpo mro mdp mdf mhg mhk mR mRf mRo mss msl msh mha mt) := hD
    refine n_if_b2 (tgt := 32) hx hb dX7_program_22 (by decide)  (fun c_2 => ?_) (fun c_2 => ?_)
    ·
      refine lv_aload_n hx hb dX7_program_32 rfl (lv_at hl 0 rfl) ?_
      refine lv_iload_n hx hb dX7_program_33 rfl (lv_at hl 1 rfl) ?_
      refine lv_iload_n hx hb dX7_program_34 rfl (lv_at hl 2 rfl) ?_
      refine lv_iload_n hx hb dX7_program_35 rfl (lv_at hl 3 rfl) ?_
      refine lv_iload hx hb dX7_program_36 (lv_at hl 4 rfl) ?_
      refine n_i2l hx hb (by omega) dX7_program_38 ?_
      refine x_callVi (As := [.int (iI sh), .int (iI la), .int (iI i), .long (lI n)]) (rest := []) ⟨hx, hb, hml, hown, hts⟩ (c_X7_cellsBarred l D cI cS mA mf mn ml mk mg mls ms mra mrf mrk mrg mrl mrs mo moo moa mp mpp mfi mpl mpo mro mdp mdf mhg mhk mR mRf mRo mss msl msh mha mt H.size sh la i n (by first | assumption | omega) (by first | assumption | omega) (by first | assumption | omega) (by first | assumption | omega) (by first | assumption | omega) (by first | assumption | omega)) (cwV 4 hts gX7_program_X7_cellsBarred rfl rfl rfl (by decide +kernel) ⟨Nat.le_of_ble_eq_true rfl, Nat.le_of_ble_eq_true rfl⟩) hK hP hD hS hA [0, 1, 2, 3, 4, 5, 6, 7, 8, 9, 10, 11, 12, 13, 14, 15, 16, 17, 18, 19, 20, 21] [] (wr := ([] : va_W)) rfl rfl (by decide) (by decide) (by decide) 0 7 rfl rfl rfl [0, 1, 2, 3, 4, 5, 6, 7, 8, 9, 10, 11, 12, 13, 14, 15, 16, 17, 18, 19, 20, 21] (fun (u : Unit) => (W_M cI cS mA (if (ftk (lnM mss msl sh) (mss sh) la i n) = 0 then mf else (ftk (lnM mss msl sh) (mss sh) la i n)) mn ml mk mg mls ms mra mrf mrk mrg mrl mrs mo moo moa mp mpp mfi mpl mpo mro mdp mdf mhg mhk mR mRf mRo mss msl msh mha mt)) (fun _ => rfl) (by decide) rfl hl.1 rfl (Nat.le_of_ble_eq_true rfl) ⟨Nat.zero_le _, Nat.zero_le _⟩ dX7_program_39 (fun r_ u_ H locs hw hP hD hS => ?_)
      try dsimp only at hw
      subst hw
      have hP : va_P D vwCl (W_M cI cS mA (if (ftk (lnM mss msl sh) (mss sh) la i n) = 0 then mf else (ftk (lnM mss msl sh) (mss sh) la i n)) mn ml mk mg mls ms mra mrf mrk mrg mrl mrs mo moo moa mp mpp mfi mpl mpo mro mdp mdf mhg mhk mR mRf mRo mss msl msh mha mt) H := hP
      have hD : va_D A (W_M cI cS mA (if (ftk (lnM mss msl sh) (mss sh) la i n) = 0 then mf else (ftk (lnM mss msl sh) (mss sh) la i n)) mn ml mk mg mls ms mra mrf mrk mrg mrl mrs mo moo moa mp mpp mfi mpl mpo mro mdp mdf mhg mhk mR mRf mRo mss msl msh mha mt) := hD
      obtain ⟨met, h_met⟩ : ∃ z_ : Int, z_ = (if (ftk (lnM mss msl sh) (mss sh) la i n) = 0 then 0 else (-10) - (ftk (lnM mss msl sh) (mss sh) la i n)) := ⟨_, rfl⟩
      rw [← h_met]
      have hmr := ftk_rng (lnM mss msl sh) (mss sh) la i n
      refine lv_istore (lv' := [(5, .int (iI met)), (0, .ref (mA 0)), (1, .int (iI sh)), (2, .int (iI la)), (3, .int (iI i)), (4, .int (iI n))]) hx hb dX7_program_42 hl (by decide) rfl (fun ls hl => ?_)
      refine lv_iload hx hb dX7_program_44 (lv_at hl 0 rfl) ?_
      refine n_if_ge (tgt := 52) hx hb dX7_program_46 (by decide) (by omega) (fun c_3 => ?_) (fun c_3 => ?_)
      ·
        have hf0 := ftk_0 (lane := lnM mss msl sh) (len := mss sh) (as := la) (i := i) (n := n) (by omega)
        have hs60 := hmss sh (by omega) (by omega)
        refine lv_aload_n hx hb dX7_program_52 rfl (lv_at hl 1 rfl) ?_
        refine lv_bipush (v := iI 60) hx hb dX7_program_53 (by decide +kernel) ?_
        refine lv_iload_n hx hb dX7_program_55 rfl (lv_at hl 2 rfl) ?_
        refine n_imul hx hb dX7_program_56 ?_
        refine lv_iload_n hx hb dX7_program_57 rfl (lv_at hl 4 rfl) ?_
        refine n_iadd hx hb dX7_program_58 ?_
        refine lv_iload hx hb dX7_program_59 (lv_at hl 5 rfl) ?_
        refine x_callVi (As := [.int (iI ((60 * sh) + i)), .int (iI n)]) (rest := []) ⟨hx, hb, hml, hown, hts⟩ (c_X7_readsProgram l D cI cS mA (if (ftk (lnM mss msl sh) (mss sh) la i n) = 0 then mf else (ftk (lnM mss msl sh) (mss sh) la i n)) mn ml mk mg mls ms mra mrf mrk mrg mrl mrs mo moo moa mp mpp mfi mpl mpo mro mdp mdf mhg mhk mR mRf mRo mss msl msh mha mt H.size ((60 * sh) + i) n (by omega) (by first | assumption | omega)) (cwV 2 hts gX7_program_X7_readsProgram rfl rfl rfl (by decide +kernel) ⟨Nat.le_of_ble_eq_true rfl, Nat.le_of_ble_eq_true rfl⟩) hK hP hD hS hA [0, 1, 2, 3, 4, 5, 6, 7, 8, 9, 10, 11, 12, 13, 14, 15, 16, 17, 18, 19, 20, 21] [] (wr := ([] : va_W)) rfl rfl (by decide) (by decide) (by decide) 0 7 rfl rfl rfl [0, 1, 2, 3, 4, 5, 6, 7, 8, 9, 10, 11, 12, 13, 14, 15, 16, 17, 18, 19, 20, 21] (fun (u : Int × Int × (Int → Int) × (Int → Int) × (Int → Int) × (Int → Int)) => (W_M cI cS mA (if (ftk (lnM mss msl sh) (mss sh) la i n) = 0 then mf else (ftk (lnM mss msl sh) (mss sh) la i n)) mn ml mk mg mls ms u.1 u.2.1 u.2.2.1 u.2.2.2.1 u.2.2.2.2.1 u.2.2.2.2.2 mo moo moa mp mpp mfi mpl mpo mro mdp mdf mhg mhk mR mRf mRo mss msl msh mha mt)) (fun _ => rfl) (by decide) rfl hl.1 rfl (Nat.le_of_ble_eq_true rfl) ⟨Nat.zero_le _, Nat.zero_le _⟩ dX7_program_61 (fun r_ u_ H locs hw hP hD hS => ?_)
        obtain ⟨ra2, rf2, rk2, rg2, rl2, rs2⟩ := u_
        try dsimp only at hw
        obtain ⟨z2, rfl, hb2, hz2⟩ := hw
        have hP : va_P D vwCl (W_M cI cS mA (if (ftk (lnM mss msl sh) (mss sh) la i n) = 0 then mf else (ftk (lnM mss msl sh) (mss sh) la i n)) mn ml mk mg mls ms ra2 rf2 rk2 rg2 rl2 rs2 mo moo moa mp mpp mfi mpl mpo mro mdp mdf mhg mhk mR mRf mRo mss msl msh mha mt) H := hP
        have hD : va_D A (W_M cI cS mA (if (ftk (lnM mss msl sh) (mss sh) la i n) = 0 then mf else (ftk (lnM mss msl sh) (mss sh) la i n)) mn ml mk mg mls ms ra2 rf2 rk2 rg2 rl2 rs2 mo moo moa mp mpp mfi mpl mpo mro mdp mdf mhg mhk mR mRf mRo mss msl msh mha mt) := hD
        have hpg : PG (fun j => msh (60 * sh + j)) i n mrk mrg mrl mrs = pRun (fun j => msh (60 * sh + i + j)) n.toNat 0 ((0, 0, mrk, mrg, mrl, mrs) : PQ) := by
          have e : (fun j => msh (60 * sh + (i + j))) = (fun j => msh (60 * sh + i + j)) := by funext j; rw [Int.add_assoc]
          show pRun (fun j => msh (60 * sh + (i + j))) n.toNat 0 _ = _
          rw [e]
        rw [← hpg] at hz2
        refine n_if_ne (tgt := 79) hx hb dX7_program_64 (by decide) (by rcases hz2 with q | q <;> omega) (fun c_4 => ?_) (fun c_4 => ?_)
        ·
          have hz3 : (PG (fun j => msh (60 * sh + j)) i n mrk mrg mrl mrs) = (-1, ((4, rf2, rk2, rg2, rl2, rs2) : PQ)) := by rcases hz2 with q | q; exact q.2; exact absurd q.1 (by omega)
          have hok2 := pRun_ok (cd := fun j => msh (60 * sh + (i + j))) n.toNat 0 ((0, 0, mrk, mrg, mrl, mrs) : PQ) (okQ_0 mrk mrg mrl mrs) (fun _ => rfl)
          have hok3 : okQ 4 rf2 rk2 rg2 rl2 rs2 := by
            have e2 := congrArg (fun q : Int × PQ => okQ' q.2) hz3
            exact Eq.mp e2 hok2
          have hrf := hok3.2.1
          have hrl := hok3.2.2.2.1
          refine lv_aload_n hx hb dX7_program_79 rfl (lv_at hl 1 rfl) ?_
          refine lv_aload_n hx hb dX7_program_80 rfl (lv_at hl 1 rfl) ?_
          refine va_get (D := D) (ci := 7) (v := .int (iI rf2)) (C := RX7) (T := TX7) (N := 34) hx hb hts iw_7 hown hK.1 hP 0 rfl rfl 8 (by decide) fl_105 (fun _ h9 => h9) rfl dX7_program_81 ?_
          refine va_put (D := D) (ci := 7) (v := .int (iI rf2)) (ty := .int) (C := RX7) (T := TX7) (N := 34) hx hb hts iw_7 tyX7 tyX7_ok nmX7 hown hK.1 hP hD hS 0 rfl rfl 1 (by decide) fl_83 (fun _ h9 => h9) rfl (by decide +kernel) rfl rfl (Nat.le_of_ble_eq_true rfl) dX7_program_84 (fun H locs hP hD hS => ?_)
          have hP : va_P D vwCl (W_M cI cS mA (if (ftk (lnM mss msl sh) (mss sh) la i n) = 0 then mf else (ftk (lnM mss msl sh) (mss sh) la i n)) rf2 ml mk mg mls ms ra2 rf2 rk2 rg2 rl2 rs2 mo moo moa mp mpp mfi mpl mpo mro mdp mdf mhg mhk mR mRf mRo mss msl msh mha mt) H := hP
          have hD : va_D A (W_M cI cS mA (if (ftk (lnM mss msl sh) (mss sh) la i n) = 0 then mf else (ftk (lnM mss msl sh) (mss sh) la i n)) rf2 ml mk mg mls ms ra2 rf2 rk2 rg2 rl2 rs2 mo moo moa mp mpp mfi mpl mpo mro mdp mdf mhg mhk mR mRf mRo mss msl msh mha mt) := hD
          refine lv_aload_n hx hb dX7_program_87 rfl (lv_at hl 1 rfl) ?_
          refine lv_bipush (v := iI 15) hx hb dX7_program_88 (by decide +kernel) ?_
          refine va_put (D := D) (ci := 7) (v := .int (iI 15)) (ty := .int) (C := RX7) (T := TX7) (N := 34) hx hb hts iw_7 tyX7 tyX7_ok nmX7 hown hK.1 hP hD hS 0 rfl rfl 2 (by decide) fl_142 (fun _ h9 => h9) rfl (by decide +kernel) rfl rfl (Nat.le_of_ble_eq_true rfl) dX7_program_90 (fun H locs hP hD hS => ?_)
          have hP : va_P D vwCl (W_M cI cS mA (if (ftk (lnM mss msl sh) (mss sh) la i n) = 0 then mf else (ftk (lnM mss msl sh) (mss sh) la i n)) rf2 15 mk mg mls ms ra2 rf2 rk2 rg2 rl2 rs2 mo moo moa mp mpp mfi mpl mpo mro mdp mdf mhg mhk mR mRf mRo mss msl msh mha mt) H := hP
          have hD : va_D A (W_M cI cS mA (if (ftk (lnM mss msl sh) (mss sh) la i n) = 0 then mf else (ftk (lnM mss msl sh) (mss sh) la i n)) rf2 15 mk mg mls ms ra2 rf2 rk2 rg2 rl2 rs2 mo moo moa mp mpp mfi mpl mpo mro mdp mdf mhg mhk mR mRf mRo mss msl msh mha mt) := hD
          refine lv_iconst (v := iI 0) hx hb dX7_program_93 (by decide +kernel) ?_
          refine lv_istore (lv' := [(6, .int (iI 0)), (5, .int (iI met)), (0, .ref (mA 0)), (1, .int (iI sh)), (2, .int (iI la)), (3, .int (iI i)), (4, .int (iI n))]) hx hb dX7_program_94 hl (by decide) rfl (fun ls hl => ?_)
          refine x_loop (σ := Int × (Int → Int) × (Int → Int) × (Int → Int) × (Int → Int)) (fun (xv_ : Int × (Int → Int) × (Int → Int) × (Int → Int) × (Int → Int)) => match xv_ with | (f, mk1, mg1, mls1, ms1) => (0 ≤ f ∧ f ≤ rf2) ∧ (∀ j : Int, 0 ≤ j → j < f → (mk1 j = rk2 j ∧ mg1 j = rg2 j ∧ mls1 j = rl2 j) ∧ ∀ x : Int, 0 ≤ x → x < rl2 j → ms1 (j * 4 + x) = rs2 (j * 4 + x))) (fun (xv_ : Int × (Int → Int) × (Int → Int) × (Int → Int) × (Int → Int)) => match xv_ with | (f, mk1, mg1, mls1, ms1) => (rf2 - f).toNat) (fun (xv_ : Int × (Int → Int) × (Int → Int) × (Int → Int) × (Int → Int)) => match xv_ with | (f, mk1, mg1, mls1, ms1) => (W_M cI cS mA (if (ftk (lnM mss msl sh) (mss sh) la i n) = 0 then mf else (ftk (lnM mss msl sh) (mss sh) la i n)) rf2 15 mk1 mg1 mls1 ms1 ra2 rf2 rk2 rg2 rl2 rs2 mo moo moa mp mpp mfi mpl mpo mro mdp mdf mhg mhk mR mRf mRo mss msl msh mha mt)) (fun (xv_ : Int × (Int → Int) × (Int → Int) × (Int → Int) × (Int → Int)) => match xv_ with | (f, mk1, mg1, mls1, ms1) => [(6, .int (iI f)), (0, .ref (mA 0)), (1, .int (iI sh)), (2, .int (iI la)), (3, .int (iI i)), (4, .int (iI n))]) (nL := 8) ?step_5 (0, mk, mg, mls, ms) (by (try dsimp only); exact ⟨by omega, fun j a b => absurd b (by omega)⟩) hP hD hS (lv_sub hl [0, 2, 3, 4, 5, 6] rfl)
          case step_5 =>
            intro xv_ hI ih H locs ls hP hD hS hl
            obtain ⟨f, mk1, mg1, mls1, ms1⟩ := xv_
            try dsimp only at hI ih
            obtain ⟨hf, hdone⟩ := hI
            have hP : va_P D vwCl (W_M cI cS mA (if (ftk (lnM mss msl sh) (mss sh) la i n) = 0 then mf else (ftk (lnM mss msl sh) (mss sh) la i n)) rf2 15 mk1 mg1 mls1 ms1 ra2 rf2 rk2 rg2 rl2 rs2 mo moo moa mp mpp mfi mpl mpo mro mdp mdf mhg mhk mR mRf mRo mss msl msh mha mt) H := hP
            have hD : va_D A (W_M cI cS mA (if (ftk (lnM mss msl sh) (mss sh) la i n) = 0 then mf else (ftk (lnM mss msl sh) (mss sh) la i n)) rf2 15 mk1 mg1 mls1 ms1 ra2 rf2 rk2 rg2 rl2 rs2 mo moo moa mp mpp mfi mpl mpo mro mdp mdf mhg mhk mR mRf mRo mss msl msh mha mt) := hD
            have hl : lv_has ls 8 [(6, .int (iI f)), (0, .ref (mA 0)), (1, .int (iI sh)), (2, .int (iI la)), (3, .int (iI i)), (4, .int (iI n))] := hl
            have ih_6 := ih
            refine lv_iload hx hb dX7_program_96 (lv_at hl 0 rfl) ?_
            refine lv_aload_n hx hb dX7_program_98 rfl (lv_at hl 1 rfl) ?_
            refine va_get (D := D) (ci := 7) (v := .int (iI rf2)) (C := RX7) (T := TX7) (N := 34) hx hb hts iw_7 hown hK.1 hP 0 rfl rfl 1 (by decide) fl_83 (fun _ h9 => h9) rfl dX7_program_99 ?_
            refine n_icmp_ge (tgt := 198) hx hb dX7_program_102 (by decide) (by omega) (fun c_7 => ?_) (fun c_7 => ?_)
            ·
              refine lv_aload_n hx hb dX7_program_198 rfl (lv_at hl 1 rfl) ?_
              refine lv_iconst (v := iI 0) hx hb dX7_program_199 (by decide +kernel) ?_
              refine va_put (D := D) (ci := 7) (v := .int (iI 0)) (ty := .int) (C := RX7) (T := TX7) (N := 34) hx hb hts iw_7 tyX7 tyX7_ok nmX7 hown hK.1 hP hD hS 0 rfl rfl 26 (by decide) fl_145 (fun _ h9 => h9) rfl (by decide +kernel) rfl rfl (Nat.le_of_ble_eq_true rfl) dX7_program_200 (fun H locs hP hD hS => ?_)
              have hP : va_P D vwCl (W_M cI cS mA (if (ftk (lnM mss msl sh) (mss sh) la i n) = 0 then mf else (ftk (lnM mss msl sh) (mss sh) la i n)) rf2 15 mk1 mg1 mls1 ms1 ra2 rf2 rk2 rg2 rl2 rs2 mo moo moa mp mpp mfi mpl mpo mro mdp mdf mhg mhk 0 mRf mRo mss msl msh mha mt) H := hP
              have hD : va_D A (W_M cI cS mA (if (ftk (lnM mss msl sh) (mss sh) la i n) = 0 then mf else (ftk (lnM mss msl sh) (mss sh) la i n)) rf2 15 mk1 mg1 mls1 ms1 ra2 rf2 rk2 rg2 rl2 rs2 mo moo moa mp mpp mfi mpl mpo mro mdp mdf mhg mhk 0 mRf mRo mss msl msh mha mt) := hD
              refine lv_aload_n hx hb dX7_program_203 rfl (lv_at hl 1 rfl) ?_
              refine lv_aload_n hx hb dX7_program_204 rfl (lv_at hl 1 rfl) ?_
              refine va_get (D := D) (ci := 7) (v := .int (iI rf2)) (C := RX7) (T := TX7) (N := 34) hx hb hts iw_7 hown hK.1 hP 0 rfl rfl 1 (by decide) fl_83 (fun _ h9 => h9) rfl dX7_program_205 ?_
              refine x_callVi (As := [.int (iI rf2)]) (rest := []) ⟨hx, hb, hml, hown, hts⟩ (c_X7_refused l D cI cS mA (if (ftk (lnM mss msl sh) (mss sh) la i n) = 0 then mf else (ftk (lnM mss msl sh) (mss sh) la i n)) rf2 15 mk1 mg1 mls1 ms1 ra2 rf2 rk2 rg2 rl2 rs2 mo moo moa mp mpp mfi mpl mpo mro mdp mdf mhg mhk 0 mRf mRo mss msl msh mha mt H.size rf2) (cwV 1 hts gX7_program_X7_refused rfl rfl rfl (by decide +kernel) ⟨Nat.le_of_ble_eq_true rfl, Nat.le_of_ble_eq_true rfl⟩) hK hP hD hS hA [0, 1, 2, 3, 4, 5, 6, 7, 8, 9, 10, 11, 12, 13, 14, 15, 16, 17, 18, 19, 20, 21] [] (wr := ([] : va_W)) rfl rfl (by decide) (by decide) (by decide) 0 7 rfl rfl rfl [0, 1, 2, 3, 4, 5, 6, 7, 8, 9, 10, 11, 12, 13, 14, 15, 16, 17, 18, 19, 20, 21] (fun (u : Unit) => (W_M cI cS mA 0 rf2 15 mk1 mg1 mls1 ms1 ra2 rf2 rk2 rg2 rl2 rs2 mo moo moa mp mpp mfi mpl mpo mro mdp mdf mhg mhk 0 mRf mRo mss msl msh mha mt)) (fun _ => rfl) (by decide) rfl hl.1 rfl (Nat.le_of_ble_eq_true rfl) ⟨Nat.zero_le _, Nat.zero_le _⟩ dX7_program_208 (fun r_ u_ H locs hw hP hD hS => ?_)
              try dsimp only at hw
              subst hw
              have hP : va_P D vwCl (W_M cI cS mA 0 rf2 15 mk1 mg1 mls1 ms1 ra2 rf2 rk2 rg2 rl2 rs2 mo moo moa mp mpp mfi mpl mpo mro mdp mdf mhg mhk 0 mRf mRo mss msl msh mha mt) H := hP
              have hD : va_D A (W_M cI cS mA 0 rf2 15 mk1 mg1 mls1 ms1 ra2 rf2 rk2 rg2 rl2 rs2 mo moo moa mp mpp mfi mpl mpo mro mdp mdf mhg mhk 0 mRf mRo mss msl msh mha mt) := hD
              have e_8 : (0 : Int) = (sProgLf (lnM mss msl sh) (mss sh) sh la i n) := (by unfold sProgLf; rw [if_pos (by omega)]; omega)
              have hP : va_P D vwCl (W_M cI cS mA (sProgLf (lnM mss msl sh) (mss sh) sh la i n) rf2 15 mk1 mg1 mls1 ms1 ra2 rf2 rk2 rg2 rl2 rs2 mo moo moa mp mpp mfi mpl mpo mro mdp mdf mhg mhk 0 mRf mRo mss msl msh mha mt) H := Eq.mp (congrArg (fun z_ => va_P D vwCl (W_M cI cS mA z_ rf2 15 mk1 mg1 mls1 ms1 ra2 rf2 rk2 rg2 rl2 rs2 mo moo moa mp mpp mfi mpl mpo mro mdp mdf mhg mhk 0 mRf mRo mss msl msh mha mt) H) e_8) hP
              have hD : va_D A (W_M cI cS mA (sProgLf (lnM mss msl sh) (mss sh) sh la i n) rf2 15 mk1 mg1 mls1 ms1 ra2 rf2 rk2 rg2 rl2 rs2 mo moo moa mp mpp mfi mpl mpo mro mdp mdf mhg mhk 0 mRf mRo mss msl msh mha mt) := Eq.mp (congrArg (fun z_ => va_D A (W_M cI cS mA z_ rf2 15 mk1 mg1 mls1 ms1 ra2 rf2 rk2 rg2 rl2 rs2 mo moo moa mp mpp mfi mpl mpo mro mdp mdf mhg mhk 0 mRf mRo mss msl msh mha mt)) e_8) hD
              exact W.iret (v := iI rf2) hx hb hr (fun t ht hW => ⟨⟨_, (ra2, rf2, rk2, rg2, rl2, rs2, rf2, 15, mk1, mg1, mls1, ms1, 0), rfl, ⟨congrArg iI (show rf2 = (sProg (lnM mss msl sh) (mss sh) (fun j => msh (60 * sh + j)) sh la i n mrk mrg mrl mrs) from (by unfold sProg; rw [if_neg (by omega), if_neg (by omega), if_neg (by omega), if_neg (not_not_intro (by rw [hz3])), hz3])), (by (try dsimp only); exact (fun _ => by
            rw [hz3]
            refine ⟨rfl, rfl, rfl, fun j a b => (hdone j a (by have q9 : j < rf2 := b; omega)).1, fun j a b x c d => (hdone j a (by have q9 : j < rf2 := b; omega)).2 x c d⟩)), (by (try dsimp only); exact (fun q_ => absurd ⟨by omega, by omega, by omega, by rw [hz3]⟩ q_))⟩, by rw [ht]; exact hP, hD⟩, hS.F ht⟩) hS.2.2 dX7_program_211
            ·
              have hrlf := hrl f hf.1 (by omega)
              refine lv_aload_n hx hb dX7_program_105 rfl (lv_at hl 1 rfl) ?_
              refine va_get (D := D) (ci := 7) (v := .ref (mA 1)) (C := RX7) (T := TX7) (N := 34) hx hb hts iw_7 hown hK.1 hP 0 rfl rfl 3 (by decide) fl_7 (fun _ h9 => h9) rfl dX7_program_106 ?_
              refine lv_iload hx hb dX7_program_109 (lv_at hl 0 rfl) ?_
              refine lv_aload_n hx hb dX7_program_111 rfl (lv_at hl 1 rfl) ?_
              refine va_get (D := D) (ci := 7) (v := .ref (mA 5)) (C := RX7) (T := TX7) (N := 34) hx hb hts iw_7 hown hK.1 hP 0 rfl rfl 9 (by decide) fl_22 (fun _ h9 => h9) rfl dX7_program_112 ?_
              refine lv_iload hx hb dX7_program_115 (lv_at hl 0 rfl) ?_
              refine n_iald (n := 5) hx hb hK.1 hP 5 0 rfl rfl (by omega) (by decide) dX7_program_117 ?_
              refine n_iast (n := 5) hx hb hK.1 hP hD hS 1 0 rfl rfl (by omega) (by decide) dX7_program_118 (fun H locs hP hD hS => ?_)
              have hP : va_P D vwCl (W_M cI cS mA (if (ftk (lnM mss msl sh) (mss sh) la i n) = 0 then mf else (ftk (lnM mss msl sh) (mss sh) la i n)) rf2 15 (updI mk1 f (rk2 f)) mg1 mls1 ms1 ra2 rf2 rk2 rg2 rl2 rs2 mo moo moa mp mpp mfi mpl mpo mro mdp mdf mhg mhk mR mRf mRo mss msl msh mha mt) H := hP
              have hD : va_D A (W_M cI cS mA (if (ftk (lnM mss msl sh) (mss sh) la i n) = 0 then mf else (ftk (lnM mss msl sh) (mss sh) la i n)) rf2 15 (updI mk1 f (rk2 f)) mg1 mls1 ms1 ra2 rf2 rk2 rg2 rl2 rs2 mo moo moa mp mpp mfi mpl mpo mro mdp mdf mhg mhk mR mRf mRo mss msl msh mha mt) := hD
              refine lv_aload_n hx hb dX7_program_119 rfl (lv_at hl 1 rfl) ?_
              refine va_get (D := D) (ci := 7) (v := .ref (mA 2)) (C := RX7) (T := TX7) (N := 34) hx hb hts iw_7 hown hK.1 hP 0 rfl rfl 4 (by decide) fl_13 (fun _ h9 => h9) rfl dX7_program_120 ?_
              refine lv_iload hx hb dX7_program_123 (lv_at hl 0 rfl) ?_
              refine lv_aload_n hx hb dX7_program_125 rfl (lv_at hl 1 rfl) ?_
              refine va_get (D := D) (ci := 7) (v := .ref (mA 6)) (C := RX7) (T := TX7) (N := 34) hx hb hts iw_7 hown hK.1 hP 0 rfl rfl 10 (by decide) fl_25 (fun _ h9 => h9) rfl dX7_program_126 ?_
              refine lv_iload hx hb dX7_program_129 (lv_at hl 0 rfl) ?_
              refine n_iald (n := 5) hx hb hK.1 hP 6 0 rfl rfl (by omega) (by decide) dX7_program_131 ?_
              refine n_iast (n := 5) hx hb hK.1 hP hD hS 2 0 rfl rfl (by omega) (by decide) dX7_program_132 (fun H locs hP hD hS => ?_)
              have hP : va_P D vwCl (W_M cI cS mA (if (ftk (lnM mss msl sh) (mss sh) la i n) = 0 then mf else (ftk (lnM mss msl sh) (mss sh) la i n)) rf2 15 (updI mk1 f (rk2 f)) (updI mg1 f (rg2 f)) mls1 ms1 ra2 rf2 rk2 rg2 rl2 rs2 mo moo moa mp mpp mfi mpl mpo mro mdp mdf mhg mhk mR mRf mRo mss msl msh mha mt) H := hP
              have hD : va_D A (W_M cI cS mA (if (ftk (lnM mss msl sh) (mss sh) la i n) = 0 then mf else (ftk (lnM mss msl sh) (mss sh) la i n)) rf2 15 (updI mk1 f (rk2 f)) (updI mg1 f (rg2 f)) mls1 ms1 ra2 rf2 rk2 rg2 rl2 rs2 mo moo moa mp mpp mfi mpl mpo mro mdp mdf mhg mhk mR mRf mRo mss msl msh mha mt) := hD
              refine lv_aload_n hx hb dX7_program_133 rfl (lv_at hl 1 rfl) ?_
              refine va_get (D := D) (ci := 7) (v := .ref (mA 3)) (C := RX7) (T := TX7) (N := 34) hx hb hts iw_7 hown hK.1 hP 0 rfl rfl 5 (by decide) fl_16 (fun _ h9 => h9) rfl dX7_program_134 ?_
              refine lv_iload hx hb dX7_program_137 (lv_at hl 0 rfl) ?_
              refine lv_aload_n hx hb dX7_program_139 rfl (lv_at hl 1 rfl) ?_
              refine va_get (D := D) (ci := 7) (v := .ref (mA 7)) (C := RX7) (T := TX7) (N := 34) hx hb hts iw_7 hown hK.1 hP 0 rfl rfl 11 (by decide) fl_28 (fun _ h9 => h9) rfl dX7_program_140 ?_
              refine lv_iload hx hb dX7_program_143 (lv_at hl 0 rfl) ?_
              refine n_iald (n := 5) hx hb hK.1 hP 7 0 rfl rfl (by omega) (by decide) dX7_program_145 ?_
              refine n_iast (n := 5) hx hb hK.1 hP hD hS 3 0 rfl rfl (by omega) (by decide) dX7_program_146 (fun H locs hP hD hS => ?_)
              have hP : va_P D vwCl (W_M cI cS mA (if (ftk (lnM mss msl sh) (mss sh) la i n) = 0 then mf else (ftk (lnM mss msl sh) (mss sh) la i n)) rf2 15 (updI mk1 f (rk2 f)) (updI mg1 f (rg2 f)) (updI mls1 f (rl2 f)) ms1 ra2 rf2 rk2 rg2 rl2 rs2 mo moo moa mp mpp mfi mpl mpo mro mdp mdf mhg mhk mR mRf mRo mss msl msh mha mt) H := hP
              have hD : va_D A (W_M cI cS mA (if (ftk (lnM mss msl sh) (mss sh) la i n) = 0 then mf else (ftk (lnM mss msl sh) (mss sh) la i n)) rf2 15 (updI mk1 f (rk2 f)) (updI mg1 f (rg2 f)) (updI mls1 f (rl2 f)) ms1 ra2 rf2 rk2 rg2 rl2 rs2 mo moo moa mp mpp mfi mpl mpo mro mdp mdf mhg mhk mR mRf mRo mss msl msh mha mt) := hD
              refine lv_iconst (v := iI 0) hx hb dX7_program_147 (by decide +kernel) ?_
              refine lv_istore (lv' := [(7, .int (iI 0)), (6, .int (iI f)), (0, .ref (mA 0)), (1, .int (iI sh)), (2, .int (iI la)), (3, .int (iI i)), (4, .int (iI n))]) hx hb dX7_program_148 hl (by decide) rfl (fun ls hl => ?_)
              refine x_loop (σ := Int × (Int → Int)) (fun (xv_ : Int × (Int → Int)) => match xv_ with | (x, ms2) => (0 ≤ x ∧ x ≤ rl2 f) ∧ (∀ y : Int, 0 ≤ y → y < x → ms2 (f * 4 + y) = rs2 (f * 4 + y)) ∧ (∀ y : Int, y < f * 4 ∨ f * 4 + 4 ≤ y → ms2 y = ms1 y)) (fun (xv_ : Int × (Int → Int)) => match xv_ with | (x, ms2) => (rl2 f - x).toNat) (fun (xv_ : Int × (Int → Int)) => match xv_ with | (x, ms2) => (W_M cI cS mA (if (ftk (lnM mss msl sh) (mss sh) la i n) = 0 then mf else (ftk (lnM mss msl sh) (mss sh) la i n)) rf2 15 (updI mk1 f (rk2 f)) (updI mg1 f (rg2 f)) (updI mls1 f (rl2 f)) ms2 ra2 rf2 rk2 rg2 rl2 rs2 mo moo moa mp mpp mfi mpl mpo mro mdp mdf mhg mhk mR mRf mRo mss msl msh mha mt)) (fun (xv_ : Int × (Int → Int)) => match xv_ with | (x, ms2) => [(7, .int (iI x)), (6, .int (iI f)), (0, .ref (mA 0)), (1, .int (iI sh)), (2, .int (iI la)), (3, .int (iI i)), (4, .int (iI n))]) (nL := 8) ?step_9 (0, ms1) (by (try dsimp only); exact ⟨by omega, fun y a b => absurd b (by omega), fun _ _ => rfl⟩) hP hD hS (lv_sub hl [0, 1, 2, 3, 4, 5, 6] rfl)
              case step_9 =>
                intro xv_ hI ih H locs ls hP hD hS hl
                obtain ⟨x, ms2⟩ := xv_
                try dsimp only at hI ih
                obtain ⟨hx_, hcp, hot⟩ := hI
                have hP : va_P D vwCl (W_M cI cS mA (if (ftk (lnM mss msl sh) (mss sh) la i n) = 0 then mf else (ftk (lnM mss msl sh) (mss sh) la i n)) rf2 15 (updI mk1 f (rk2 f)) (updI mg1 f (rg2 f)) (updI mls1 f (rl2 f)) ms2 ra2 rf2 rk2 rg2 rl2 rs2 mo moo moa mp mpp mfi mpl mpo mro mdp mdf mhg mhk mR mRf mRo mss msl msh mha mt) H := hP
                have hD : va_D A (W_M cI cS mA (if (ftk (lnM mss msl sh) (mss sh) la i n) = 0 then mf else (ftk (lnM mss msl sh) (mss sh) la i n)) rf2 15 (updI mk1 f (rk2 f)) (updI mg1 f (rg2 f)) (updI mls1 f (rl2 f)) ms2 ra2 rf2 rk2 rg2 rl2 rs2 mo moo moa mp mpp mfi mpl mpo mro mdp mdf mhg mhk mR mRf mRo mss msl msh mha mt) := hD
                have hl : lv_has ls 8 [(7, .int (iI x)), (6, .int (iI f)), (0, .ref (mA 0)), (1, .int (iI sh)), (2, .int (iI la)), (3, .int (iI i)), (4, .int (iI n))] := hl
                have hx2 : updI mls1 f (rl2 f) f = rl2 f := updI_s _ _ _
                have ih_10 := ih
                refine lv_iload hx hb dX7_program_150 (lv_at hl 0 rfl) ?_
                refine lv_aload_n hx hb dX7_program_152 rfl (lv_at hl 2 rfl) ?_
                refine va_get (D := D) (ci := 7) (v := .ref (mA 3)) (C := RX7) (T := TX7) (N := 34) hx hb hts iw_7 hown hK.1 hP 0 rfl rfl 5 (by decide) fl_16 (fun _ h9 => h9) rfl dX7_program_153 ?_
                refine lv_iload hx hb dX7_program_156 (lv_at hl 1 rfl) ?_
                refine n_iald (n := 5) hx hb hK.1 hP 3 0 rfl rfl (by omega) (by decide) dX7_program_158 ?_
                rw [show ((updI mls1 f (rl2 f)) f) = (rl2 f) from (updI_s _ _ _)]
                refine n_icmp_ge (tgt := 192) hx hb dX7_program_159 (by decide) (by omega) (fun c_11 => ?_) (fun c_11 => ?_)
                ·
                  refine n_iinc (lv' := [(6, .int (iI (f + 1))), (7, .int (iI x)), (0, .ref (mA 0)), (1, .int (iI sh)), (2, .int (iI la)), (3, .int (iI i)), (4, .int (iI n))]) hx hb dX7_program_192 hl (k := 1) rfl (by decide) rfl (fun ls hl => ?_)
                  refine lv_goto (tgt := 96) hx hb dX7_program_195 (by decide) ?_
                  exact ih_6 ((f + 1), (updI mk1 f (rk2 f)), (updI mg1 f (rg2 f)), (updI mls1 f (rl2 f)), ms2) (by (try dsimp only); exact ⟨by omega, fun j a b => by
                by_cases e : j = f
                · subst e
                  rw [updI_s, updI_s, updI_s]
                  exact ⟨⟨rfl, rfl, rfl⟩, fun x c d => hcp x c (by omega)⟩
                · rw [updI_n e, updI_n e, updI_n e]
                  have hd := hdone j a (by omega)
                  exact ⟨hd.1, fun x c d => by have := hrl j a (by omega); rw [hot (j * 4 + x) (by omega)]; exact hd.2 x c d⟩⟩) (by (try dsimp only); exact (by omega)) _ _ _ hP hD hS (lv_sub hl [0, 2, 3, 4, 5, 6] rfl)
                ·
                  refine lv_aload_n hx hb dX7_program_162 rfl (lv_at hl 2 rfl) ?_
                  refine va_get (D := D) (ci := 7) (v := .ref (mA 4)) (C := RX7) (T := TX7) (N := 34) hx hb hts iw_7 hown hK.1 hP 0 rfl rfl 6 (by decide) fl_19 (fun _ h9 => h9) rfl dX7_program_163 ?_
                  refine lv_iconst (v := iI 4) hx hb dX7_program_166 (by decide +kernel) ?_
                  refine lv_iload hx hb dX7_program_167 (lv_at hl 1 rfl) ?_
                  refine n_imul hx hb dX7_program_169 ?_
                  refine lv_iload hx hb dX7_program_170 (lv_at hl 0 rfl) ?_
                  refine n_iadd hx hb dX7_program_172 ?_
                  refine lv_aload_n hx hb dX7_program_173 rfl (lv_at hl 2 rfl) ?_
                  refine va_get (D := D) (ci := 7) (v := .ref (mA 8)) (C := RX7) (T := TX7) (N := 34) hx hb hts iw_7 hown hK.1 hP 0 rfl rfl 12 (by decide) fl_31 (fun _ h9 => h9) rfl dX7_program_174 ?_
                  refine lv_iconst (v := iI 4) hx hb dX7_program_177 (by decide +kernel) ?_
                  refine lv_iload hx hb dX7_program_178 (lv_at hl 1 rfl) ?_
                  refine n_imul hx hb dX7_program_180 ?_
                  refine lv_iload hx hb dX7_program_181 (lv_at hl 0 rfl) ?_
                  refine n_iadd hx hb dX7_program_183 ?_
                  refine n_iald (n := 20) hx hb hK.1 hP 8 0 rfl rfl (by omega) (by decide) dX7_program_184 ?_
                  refine n_iast (n := 20) hx hb hK.1 hP hD hS 4 0 rfl rfl (by omega) (by decide) dX7_program_185 (fun H locs hP hD hS => ?_)
                  have hP : va_P D vwCl (W_M cI cS mA (if (ftk (lnM mss msl sh) (mss sh) la i n) = 0 then mf else (ftk (lnM mss msl sh) (mss sh) la i n)) rf2 15 (updI mk1 f (rk2 f)) (updI mg1 f (rg2 f)) (updI mls1 f (rl2 f)) (updI ms2 ((4 * f) + x) (rs2 ((4 * f) + x))) ra2 rf2 rk2 rg2 rl2 rs2 mo moo moa mp mpp mfi mpl mpo mro mdp mdf mhg mhk mR mRf mRo mss msl msh mha mt) H := hP
                  have hD : va_D A (W_M cI cS mA (if (ftk (lnM mss msl sh) (mss sh) la i n) = 0 then mf else (ftk (lnM mss msl sh) (mss sh) la i n)) rf2 15 (updI mk1 f (rk2 f)) (updI mg1 f (rg2 f)) (updI mls1 f (rl2 f)) (updI ms2 ((4 * f) + x) (rs2 ((4 * f) + x))) ra2 rf2 rk2 rg2 rl2 rs2 mo moo moa mp mpp mfi mpl mpo mro mdp mdf mhg mhk mR mRf mRo mss msl msh mha mt) := hD
                  refine n_iinc (lv' := [(7, .int (iI (x + 1))), (6, .int (iI f)), (0, .ref (mA 0)), (1, .int (iI sh)), (2, .int (iI la)), (3, .int (iI i)), (4, .int (iI n))]) hx hb dX7_program_186 hl (k := 0) rfl (by decide) rfl (fun ls hl => ?_)
                  refine lv_goto (tgt := 150) hx hb dX7_program_189 (by decide) ?_
                  exact ih_10 ((x + 1), (updI ms2 ((4 * f) + x) (rs2 ((4 * f) + x)))) (by (try dsimp only); exact ⟨by omega, fun y a b => by
                  rw [Int.mul_comm 4 f]
                  by_cases e : y = x
                  · rw [e, updI_s]
                  · rw [updI_n (by omega)]; exact hcp y a (by omega), fun y a => by rw [Int.mul_comm 4 f, updI_n (by omega)]; exact hot y a⟩) (by (try dsimp only); exact (by omega)) _ _ _ hP hD hS (lv_sub hl [0, 1, 2, 3, 4, 5, 6] rfl)
        ·
          have hz3 : ((PG (fun j => msh (60 * sh + j)) i n mrk mrg mrl mrs)).1 = ra2 := by rcases hz2 with q | q; exact absurd q.1 (by omega); exact q.2
          refine lv_aload_n hx hb dX7_program_67 rfl (lv_at hl 1 rfl) ?_
          refine lv_bipush (v := iI (-100)) hx hb dX7_program_68 (by decide +kernel) ?_
          refine lv_aload_n hx hb dX7_program_70 rfl (lv_at hl 1 rfl) ?_
          refine va_get (D := D) (ci := 7) (v := .int (iI ra2)) (C := RX7) (T := TX7) (N := 34) hx hb hts iw_7 hown hK.1 hP 0 rfl rfl 7 (by decide) fl_90 (fun _ h9 => h9) rfl dX7_program_71 ?_
          refine n_isub hx hb dX7_program_74 ?_
          refine x_callVi (As := [.int (iI ((-100) - ra2))]) (rest := []) ⟨hx, hb, hml, hown, hts⟩ (c_X7_refused l D cI cS mA (if (ftk (lnM mss msl sh) (mss sh) la i n) = 0 then mf else (ftk (lnM mss msl sh) (mss sh) la i n)) mn ml mk mg mls ms ra2 rf2 rk2 rg2 rl2 rs2 mo moo moa mp mpp mfi mpl mpo mro mdp mdf mhg mhk mR mRf mRo mss msl msh mha mt H.size ((-100) - ra2)) (cwV 1 hts gX7_program_X7_refused rfl rfl rfl (by decide +kernel) ⟨Nat.le_of_ble_eq_true rfl, Nat.le_of_ble_eq_true rfl⟩) hK hP hD hS hA [0, 1, 2, 3, 4, 5, 6, 7, 8, 9, 10, 11, 12, 13, 14, 15, 16, 17, 18, 19, 20, 21] [] (wr := ([] : va_W)) rfl rfl (by decide) (by decide) (by decide) 0 7 rfl rfl rfl [0, 1, 2, 3, 4, 5, 6, 7, 8, 9, 10, 11, 12, 13, 14, 15, 16, 17, 18, 19, 20, 21] (fun (u : Unit) => (W_M cI cS mA 0 mn ml mk mg mls ms ra2 rf2 rk2 rg2 rl2 rs2 mo moo moa mp mpp mfi mpl mpo mro mdp mdf mhg mhk mR mRf mRo mss msl msh mha mt)) (fun _ => rfl) (by decide) rfl hl.1 rfl (Nat.le_of_ble_eq_true rfl) ⟨Nat.zero_le _, Nat.zero_le _⟩ dX7_program_75 (fun r_ u_ H locs hw hP hD hS => ?_)
          try dsimp only at hw
          subst hw
          have hP : va_P D vwCl (W_M cI cS mA 0 mn ml mk mg mls ms ra2 rf2 rk2 rg2 rl2 rs2 mo moo moa mp mpp mfi mpl mpo mro mdp mdf mhg mhk mR mRf mRo mss msl msh mha mt) H := hP
          have hD : va_D A (W_M cI cS mA 0 mn ml mk mg mls ms ra2 rf2 rk2 rg2 rl2 rs2 mo moo moa mp mpp mfi mpl mpo mro mdp mdf mhg mhk mR mRf mRo mss msl msh mha mt) := hD
          have e_12 : (0 : Int) = (sProgLf (lnM mss msl sh) (mss sh) sh la i n) := (by unfold sProgLf; rw [if_pos (by omega)]; omega)
          have hP : va_P D vwCl (W_M cI cS mA (sProgLf (lnM mss msl sh) (mss sh) sh la i n) mn ml mk mg mls ms ra2 rf2 rk2 rg2 rl2 rs2 mo moo moa mp mpp mfi mpl mpo mro mdp mdf mhg mhk mR mRf mRo mss msl msh mha mt) H := Eq.mp (congrArg (fun z_ => va_P D vwCl (W_M cI cS mA z_ mn ml mk mg mls ms ra2 rf2 rk2 rg2 rl2 rs2 mo moo moa mp mpp mfi mpl mpo mro mdp mdf mhg mhk mR mRf mRo mss msl msh mha mt) H) e_12) hP
          have hD : va_D A (W_M cI cS mA (sProgLf (lnM mss msl sh) (mss sh) sh la i n) mn ml mk mg mls ms ra2 rf2 rk2 rg2 rl2 rs2 mo moo moa mp mpp mfi mpl mpo mro mdp mdf mhg mhk mR mRf mRo mss msl msh mha mt) := Eq.mp (congrArg (fun z_ => va_D A (W_M cI cS mA z_ mn ml mk mg mls ms ra2 rf2 rk2 rg2 rl2 rs2 mo moo moa mp mpp mfi mpl mpo mro mdp mdf mhg mhk mR mRf mRo mss msl msh mha mt)) e_12) hD
          exact W.iret (v := iI ((-100) - ra2)) hx hb hr (fun t ht hW => ⟨⟨_, (ra2, rf2, rk2, rg2, rl2, rs2, mn, ml, mk, mg, mls, ms, mR), rfl, ⟨congrArg iI (show ((-100) - ra2) = (sProg (lnM mss msl sh) (mss sh) (fun j => msh (60 * sh + j)) sh la i n mrk mrg mrl mrs) from (by unfold sProg; rw [if_neg (by omega), if_neg (by omega), if_neg (by omega), if_pos (by rw [hz3]; omega), hz3])), (by (try dsimp only); exact (fun q_ => absurd q_.2.2.2 (by rw [hz3]; omega))), (by (try dsimp only); exact (fun _ => ⟨rfl, rfl, rfl, rfl, rfl, rfl, rfl⟩))⟩, by rw [ht]; exact hP, hD⟩, hS.F ht⟩) hS.2.2 dX7_program_78
      ·
        refine lv_iload hx hb dX7_program_49 (lv_at hl 0 rfl) ?_
        have e_13 : ((if (ftk (lnM mss msl sh) (mss sh) la i n) = 0 then mf else (ftk (lnM mss msl sh) (mss sh) la i n)) : Int) = (sProgLf (lnM mss msl sh) (mss sh) sh la i n) := (by unfold sProgLf; omega)
        have hP : va_P D vwCl (W_M cI cS mA (sProgLf (lnM mss msl sh) (mss sh) sh la i n) mn ml mk mg mls ms mra mrf mrk mrg mrl mrs mo moo moa mp mpp mfi mpl mpo mro mdp mdf mhg mhk mR mRf mRo mss msl msh mha mt) H := Eq.mp (congrArg (fun z_ => va_P D vwCl (W_M cI cS mA z_ mn ml mk mg mls ms mra mrf mrk mrg mrl mrs mo moo moa mp mpp mfi mpl mpo mro mdp mdf mhg mhk mR mRf mRo mss msl msh mha mt) H) e_13) hP
        have hD : va_D A (W_M cI cS mA (sProgLf (lnM mss msl sh) (mss sh) sh la i n) mn ml mk mg mls ms mra mrf mrk mrg mrl mrs mo moo moa mp mpp mfi mpl mpo mro mdp mdf mhg mhk mR mRf mRo mss msl msh mha mt) := Eq.mp (congrArg (fun z_ => va_D A (W_M cI cS mA z_ mn ml mk mg mls ms mra mrf mrk mrg mrl mrs mo moo moa mp mpp mfi mpl mpo mro mdp mdf mhg mhk mR mRf mRo mss msl msh mha mt)) e_13) hD
        exact W.iret (v := iI met) hx hb hr (fun t ht hW => ⟨⟨_, (mra, mrf, mrk, mrg, mrl, mrs, mn, ml, mk, mg, mls, ms, mR), rfl, ⟨congrArg iI (show met = (sProg (lnM mss msl sh) (mss sh) (fun j => msh (60 * sh + j)) sh la i n mrk mrg mrl mrs) from (by unfold sProg; rw [if_neg (by omega), if_neg (by omega), if_pos (by omega)]; omega)), (by (try dsimp only); exact (fun q_ => absurd q_.2.2.1 (by omega))), (by (try dsimp only); exact (fun _ => ⟨rfl, rfl, rfl, rfl, rfl, rfl, rfl⟩))⟩, by rw [ht]; exact hP, hD⟩, hS.F ht⟩) hS.2.2 dX7_program_51
    ·
      refine lv_aload_n hx hb dX7_program_25 rfl (lv_at hl 0 rfl) ?_
      refine lv_bipush (v := iI (-2)) hx hb dX7_program_26 (by decide +kernel) ?_
      refine x_callVi (As := [.int (iI (-2))]) (rest := []) ⟨hx, hb, hml, hown, hts⟩ (c_X7_refused l D cI cS mA mf mn ml mk mg mls ms mra mrf mrk mrg mrl mrs mo moo moa mp mpp mfi mpl mpo mro mdp mdf mhg mhk mR mRf mRo mss msl msh mha mt H.size (-2)) (cwV 1 hts gX7_program_X7_refused rfl rfl rfl (by decide +kernel) ⟨Nat.le_of_ble_eq_true rfl, Nat.le_of_ble_eq_true rfl⟩) hK hP hD hS hA [0, 1, 2, 3, 4, 5, 6, 7, 8, 9, 10, 11, 12, 13, 14, 15, 16, 17, 18, 19, 20, 21] [] (wr := ([] : va_W)) rfl rfl (by decide) (by decide) (by decide) 0 7 rfl rfl rfl [0, 1, 2, 3, 4, 5, 6, 7, 8, 9, 10, 11, 12, 13, 14, 15, 16, 17, 18, 19, 20, 21] (fun (u : Unit) => (W_M cI cS mA 0 mn ml mk mg mls ms mra mrf mrk mrg mrl mrs mo moo moa mp mpp mfi mpl mpo mro mdp mdf mhg mhk mR mRf mRo mss msl msh mha mt)) (fun _ => rfl) (by decide) rfl hl.1 rfl (Nat.le_of_ble_eq_true rfl) ⟨Nat.zero_le _, Nat.zero_le _⟩ dX7_program_28 (fun r_ u_ H locs hw hP hD hS => ?_)
      try dsimp only at hw
      subst hw
      have hP : va_P D vwCl (W_M cI cS mA 0 mn ml mk mg mls ms mra mrf mrk mrg mrl mrs mo moo moa mp mpp mfi mpl mpo mro mdp mdf mhg mhk mR mRf mRo mss msl msh mha mt) H := hP
      have hD : va_D A (W_M cI cS mA 0 mn ml mk mg mls ms mra mrf mrk mrg mrl mrs mo moo moa mp mpp mfi mpl mpo mro mdp mdf mhg mhk mR mRf mRo mss msl msh mha mt) := hD
      have e_14 : (0 : Int) = (sProgLf (lnM mss msl sh) (mss sh) sh la i n) := (by unfold sProgLf; rw [if_neg (by omega)])
      have hP : va_P D vwCl (W_M cI cS mA (sProgLf (lnM mss msl sh) (mss sh) sh la i n) mn ml mk mg mls ms mra mrf mrk mrg mrl mrs mo moo moa mp mpp mfi mpl mpo mro mdp mdf mhg mhk mR mRf mRo mss msl msh mha mt) H := Eq.mp (congrArg (fun z_ => va_P D vwCl (W_M cI cS mA z_ mn ml mk mg mls ms mra mrf mrk mrg mrl mrs mo moo moa mp mpp mfi mpl mpo mro mdp mdf mhg mhk mR mRf mRo mss msl msh mha mt) H) e_14) hP
      have hD : va_D A (W_M cI cS mA (sProgLf (lnM mss msl sh) (mss sh) sh la i n) mn ml mk mg mls ms mra mrf mrk mrg mrl mrs mo moo moa mp mpp mfi mpl mpo mro mdp mdf mhg mhk mR mRf mRo mss msl msh mha mt) := Eq.mp (congrArg (fun z_ => va_D A (W_M cI cS mA z_ mn ml mk mg mls ms mra mrf mrk mrg mrl mrs mo moo moa mp mpp mfi mpl mpo mro mdp mdf mhg mhk mR mRf mRo mss msl msh mha mt)) e_14) hD
      exact W.iret (v := iI (-2)) hx hb hr (fun t ht hW => ⟨⟨_, (mra, mrf, mrk, mrg, mrl, mrs, mn, ml, mk, mg, mls, ms, mR), rfl, ⟨congrArg iI (show (-2) = (sProg (lnM mss msl sh) (mss sh) (fun j => msh (60 * sh + j)) sh la i n mrk mrg mrl mrs) from (by unfold sProg; rw [if_neg (by omega), if_pos (by omega)])), (by (try dsimp only); exact (fun q_ => absurd q_.2.1 (by omega))), (by (try dsimp only); exact (fun _ => ⟨rfl, rfl, rfl, rfl, rfl, rfl, rfl⟩))⟩, by rw [ht]; exact hP, hD⟩, hS.F ht⟩) hS.2.2 dX7_program_31
  ·
    refine lv_aload_n hx hb dX7_program_7 rfl (lv_at hl 0 rfl) ?_
    refine lv_iconst (v := iI (-1)) hx hb dX7_program_8 (by decide +kernel) ?_
    refine x_callVi (As := [.int (iI (-1))]) (rest := []) ⟨hx, hb, hml, hown, hts⟩ (c_X7_refused l D cI cS mA mf mn ml mk mg mls ms mra mrf mrk mrg mrl mrs mo moo moa mp mpp mfi mpl mpo mro mdp mdf mhg mhk mR mRf mRo mss msl msh mha mt H.size (-1)) (cwV 1 hts gX7_program_X7_refused rfl rfl rfl (by decide +kernel) ⟨Nat.le_of_ble_eq_true rfl, Nat.le_of_ble_eq_true rfl⟩) hK hP hD hS hA [0, 1, 2, 3, 4, 5, 6, 7, 8, 9, 10, 11, 12, 13, 14, 15, 16, 17, 18, 19, 20, 21] [] (wr := ([] : va_W)) rfl rfl (by decide) (by decide) (by decide) 0 7 rfl rfl rfl [0, 1, 2, 3, 4, 5, 6, 7, 8, 9, 10, 11, 12, 13, 14, 15, 16, 17, 18, 19, 20, 21] (fun (u : Unit) => (W_M cI cS mA 0 mn ml mk mg mls ms mra mrf mrk mrg mrl mrs mo moo moa mp mpp mfi mpl mpo mro mdp mdf mhg mhk mR mRf mRo mss msl msh mha mt)) (fun _ => rfl) (by decide) rfl hl.1 rfl (Nat.le_of_ble_eq_true rfl) ⟨Nat.zero_le _, Nat.zero_le _⟩ dX7_program_9 (fun r_ u_ H locs hw hP hD hS => ?_)
    try dsimp only at hw
    subst hw
    have hP : va_P D vwCl (W_M cI cS mA 0 mn ml mk mg mls ms mra mrf mrk mrg mrl mrs mo moo moa mp mpp mfi mpl mpo mro mdp mdf mhg mhk mR mRf mRo mss msl msh mha mt) H := hP
    have hD : va_D A (W_M cI cS mA 0 mn ml mk mg mls ms mra mrf mrk mrg mrl mrs mo moo moa mp mpp mfi mpl mpo mro mdp mdf mhg mhk mR mRf mRo mss msl msh mha mt) := hD
    have e_15 : (0 : Int) = (sProgLf (lnM mss msl sh) (mss sh) sh la i n) := (by unfold sProgLf; rw [if_neg (by omega)])
    have hP : va_P D vwCl (W_M cI cS mA (sProgLf (lnM mss msl sh) (mss sh) sh la i n) mn ml mk mg mls ms mra mrf mrk mrg mrl mrs mo moo moa mp mpp mfi mpl mpo mro mdp mdf mhg mhk mR mRf mRo mss msl msh mha mt) H := Eq.mp (congrArg (fun z_ => va_P D vwCl (W_M cI cS mA z_ mn ml mk mg mls ms mra mrf mrk mrg mrl mrs mo moo moa mp mpp mfi mpl mpo mro mdp mdf mhg mhk mR mRf mRo mss msl msh mha mt) H) e_15) hP
    have hD : va_D A (W_M cI cS mA (sProgLf (lnM mss msl sh) (mss sh) sh la i n) mn ml mk mg mls ms mra mrf mrk mrg mrl mrs mo moo moa mp mpp mfi mpl mpo mro mdp mdf mhg mhk mR mRf mRo mss msl msh mha mt) := Eq.mp (congrArg (fun z_ => va_D A (W_M cI cS mA z_ mn ml mk mg mls ms mra mrf mrk mrg mrl mrs mo moo moa mp mpp mfi mpl mpo mro mdp mdf mhg mhk mR mRf mRo mss msl msh mha mt)) e_15) hD
    exact W.iret (v := iI (-1)) hx hb hr (fun t ht hW => ⟨⟨_, (mra, mrf, mrk, mrg, mrl, mrs, mn, ml, mk, mg, mls, ms, mR), rfl, ⟨congrArg iI (show (-1) = (sProg (lnM mss msl sh) (mss sh) (fun j => msh (60 * sh + j)) sh la i n mrk mrg mrl mrs) from (by unfold sProg; rw [if_pos (by omega)])), (by (try dsimp only); exact (fun q_ => absurd q_.1 (by omega))), (by (try dsimp only); exact (fun _ => ⟨rfl, rfl, rfl, rfl, rfl, rfl, rfl⟩))⟩, by rw [ht]; exact hP, hD⟩, hS.F ht⟩) hS.2.2 dX7_program_12
