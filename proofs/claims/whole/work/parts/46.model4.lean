set_option maxHeartbeats 4000000 in
set_option maxRecDepth 100000 in
theorem c_X7_witness (l : Launch) (D : va_G) (cI cS : ClassId) (mA : Nat → Nat) (mf : Int) (mn : Int) (ml : Int) (mk : Int → Int) (mg : Int → Int) (mls : Int → Int) (ms : Int → Int) (mra : Int) (mrf : Int) (mrk : Int → Int) (mrg : Int → Int) (mrl : Int → Int) (mrs : Int → Int) (mo : Int) (moo : Int → Int) (moa : Int → Int) (mp : Int) (mpp : Int → Int) (mfi : Int) (mpl : Int) (mpo : Int → Int) (mro : Int → Int) (mdp : Int) (mdf : Int) (mhg : Int → Int) (mhk : Int → Int) (mR : Int) (mRf : Int → Int) (mRo : Int → Int) (mss : Int → Int) (msl : Int → Int) (msh : Int → Int) (mha : Int → Int) (mt : Int) (sz : Nat) (f : Int) (a_ : Int) (hok : okP mn mls ms) (hkk : okK mn mk mg ml) (hfr : -2147483648 ≤ f ∧ f < 2147483648) (har : -2147483648 ≤ a_ ∧ a_ < 2147483648) : Met l yX7_witness wsX7_witness ({ frames := 5, cells := 0, slots := 0, locals := 113 }) (cP D cI cS (W_M cI cS mA mf mn ml mk mg mls ms mra mrf mrk mrg mrl mrs mo moo moa mp mpp mfi mpl mpo mro mdp mdf mhg mhk mR mRf mRo mss msl msh mha mt) sz [.ref (mA 0), .int (iI f), .int (iI a_)]) (va_Qi (fun (r : Int32) (u : Int × (Int → Int) × (Int → Int) × Int × (Int → Int) × Int × Int × (Int → Int)) => r = iI (sWit mn mk mg mls ms f a_)) (fun (u : Int × (Int → Int) × (Int → Int) × Int × (Int → Int) × Int × Int × (Int → Int)) t => cB D (va_A (W_M cI cS mA mf mn ml mk mg mls ms mra mrf mrk mrg mrl mrs mo moo moa mp mpp mfi mpl mpo mro mdp mdf mhg mhk mR mRf mRo mss msl msh mha mt) sz) (W_M cI cS mA mf mn ml mk mg mls ms mra mrf mrk mrg mrl mrs u.1 u.2.1 u.2.2.1 u.2.2.2.1 u.2.2.2.2.1 u.2.2.2.2.2.1 u.2.2.2.2.2.2.1 u.2.2.2.2.2.2.2 mro mdp mdf mhg mhk mR mRf mRo mss msl msh mha mt) t) (va_A (W_M cI cS mA mf mn ml mk mg mls ms mra mrf mrk mrg mrl mrs mo moo moa mp mpp mfi mpl mpo mro mdp mdf mhg mhk mR mRf mRo mss msl msh mha mt) sz)) 0 0 (va_A (W_M cI cS mA mf mn ml mk mg mls ms mra mrf mrk mrg mrl mrs mo moo moa mp mpp mfi mpl mpo mro mdp mdf mhg mhk mR mRf mRo mss msl msh mha mt) sz) := by
  refine Met.ofW (cc := cX7_witness) (maxL := 5) (ret := (some .int)) (by decide) rfl ?_
  intro p e s m args below meth c_ s₁ B hml hv
  obtain ⟨rfl, hsz, hP, hK, hD0⟩ := hv
  have hx := B.exec
  have hb := B.bytes
  have hr := B.returns
  have hts := atoms_spec (ws := wsX7_witness) B.pre
  have hown : s.vm.findClass RX7 = some m.cls := findClass_of_methodNamed B.named
  have hlocks := B.notSynchronized
  subst hsz
  have hD := hD0.self (sz := s.heap.size)
  generalize hAe : va_A (W_M cI cS mA mf mn ml mk mg mls ms mra mrf mrk mrg mrl mrs mo moo moa mp mpp mfi mpl mpo mro mdp mdf mhg mhk mR mRf mRo mss msl msh mha mt) s.heap.size = A at hD ⊢
  have hA : ∀ q : Nat, s.heap.size ≤ q → A q := fun q h => by rw [← hAe]; exact Or.inr h
  have hS : va_S A s.heap s.heap [] := va_S.rf
  have hP : va_P D vwCl (W_M cI cS mA mf mn ml mk mg mls ms mra mrf mrk mrg mrl mrs mo moo moa mp mpp mfi mpl mpo mro mdp mdf mhg mhk mR mRf mRo mss msl msh mha mt) s.heap := hP
  have hl := lv_entry ([.ref (mA 0), .int (iI f), .int (iI a_)] : List Value) (n := 5) (Nat.le_of_ble_eq_true rfl)
  rw [lg_entry_eq]
  generalize (lg_sl ([.ref (mA 0), .int (iI f), .int (iI a_)] : List Value) ++ List.replicate (5 - (lg_sl ([.ref (mA 0), .int (iI f), .int (iI a_)] : List Value)).length) Slot.unset).toArray = ls at hl ⊢
  have hl : lv_has ls 5 [(0, .ref (mA 0)), (1, .int (iI f)), (2, .int (iI a_))] := hl
  have hmn := hok.1
  have hln := hok.2.1
  refine lv_aload_n hx hb dX7_witness_0 rfl (lv_at hl 0 rfl) ?_
  refine lv_iload_n hx hb dX7_witness_1 rfl (lv_at hl 1 rfl) ?_
  refine x_callVi (As := [.int (iI f)]) (rest := []) ⟨hx, hb, hml, hown, hts⟩ (c_X7_noFunction l D cI cS mA mf mn ml mk mg mls ms mra mrf mrk mrg mrl mrs mo moo moa mp mpp mfi mpl mpo mro mdp mdf mhg mhk mR mRf mRo mss msl msh mha mt s.heap.size f (by first | assumption | omega) (by first | assumption | omega)) (cwV 1 hts gX7_witness_X7_noFunction rfl rfl rfl (by decide +kernel) ⟨Nat.le_of_ble_eq_true rfl, Nat.le_of_ble_eq_true rfl⟩) hK hP hD hS hA [0, 1, 2, 3, 4, 5, 6, 7, 8, 9, 10, 11, 12, 13, 14, 15, 16, 17, 18, 19, 20, 21] [] (wr := ([] : va_W)) rfl rfl (by decide) (by decide) (by decide) 0 7 rfl rfl rfl [0, 1, 2, 3, 4, 5, 6, 7, 8, 9, 10, 11, 12, 13, 14, 15, 16, 17, 18, 19, 20, 21] (fun (u : Unit) => (W_M cI cS mA mf mn ml mk mg mls ms mra mrf mrk mrg mrl mrs mo moo moa mp mpp mfi mpl mpo mro mdp mdf mhg mhk mR mRf mRo mss msl msh mha mt)) (fun _ => rfl) (by decide) rfl hl.1 rfl (Nat.le_of_ble_eq_true rfl) ⟨Nat.zero_le _, Nat.zero_le _⟩ dX7_witness_2 (fun r_ u_ H locs hw hP hD hS => ?_)
  try dsimp only at hw
  subst hw
  have hP : va_P D vwCl (W_M cI cS mA mf mn ml mk mg mls ms mra mrf mrk mrg mrl mrs mo moo moa mp mpp mfi mpl mpo mro mdp mdf mhg mhk mR mRf mRo mss msl msh mha mt) H := hP
  have hD : va_D A (W_M cI cS mA mf mn ml mk mg mls ms mra mrf mrk mrg mrl mrs mo moo moa mp mpp mfi mpl mpo mro mdp mdf mhg mhk mR mRf mRo mss msl msh mha mt) := hD
  refine n_if_b1 (tgt := 10) hx hb dX7_witness_5 (by decide)  (fun c_1 => ?_) (fun c_1 => ?_)
  ·
    have hf : 0 ≤ f ∧ f < mn := by omega
    refine lv_iload_n hx hb dX7_witness_10 rfl (lv_at hl 2 rfl) ?_
    refine x_callSi (As := [.int (iI a_)]) (rest := []) ⟨hx, hb, hml, hown, hts⟩ (c_X7_isAct l D cI cS H.size a_ (by first | assumption | omega)) (va_cwS 1 hts gX7_witness_X7_isAct rfl rfl rfl (by decide +kernel) ⟨Nat.le_of_ble_eq_true rfl, Nat.le_of_ble_eq_true rfl⟩) hK hP hD hS hA [] [0, 1, 2, 3, 4, 5, 6, 7, 8, 9, 10, 11, 12, 13, 14, 15, 16, 17, 18, 19, 20, 21] (wr := [(mA 0, .inr (7, [.int (iI mf), .int (iI mn), .int (iI ml), .ref (mA 1), .ref (mA 2), .ref (mA 3), .ref (mA 4), .int (iI mra), .int (iI mrf), .ref (mA 5), .ref (mA 6), .ref (mA 7), .ref (mA 8), .int (iI mo), .ref (mA 9), .ref (mA 10), .int (iI mp), .ref (mA 11), .int (iI mfi), .int (iI mpl), .ref (mA 12), .ref (mA 13), .int (iI mdp), .int (iI mdf), .ref (mA 14), .ref (mA 15), .int (iI mR), .ref (mA 16), .ref (mA 17), .ref (mA 18), .ref (mA 19), .ref (mA 20), .ref (mA 21), .int (iI mt)])), (mA 1, .inl (cI, 5, .inl (aI mk))), (mA 2, .inl (cI, 5, .inl (aI mg))), (mA 3, .inl (cI, 5, .inl (aI mls))), (mA 4, .inl (cI, 20, .inl (aI ms))), (mA 5, .inl (cI, 5, .inl (aI mrk))), (mA 6, .inl (cI, 5, .inl (aI mrg))), (mA 7, .inl (cI, 5, .inl (aI mrl))), (mA 8, .inl (cI, 20, .inl (aI mrs))), (mA 9, .inl (cI, 5, .inl (aI moo))), (mA 10, .inl (cI, 5, .inl (aI moa))), (mA 11, .inl (cI, 1024, .inl (aI mpp))), (mA 12, .inl (cI, 5, .inl (aI mpo))), (mA 13, .inl (cI, 5, .inl (aI mro))), (mA 14, .inl (cI, 5, .inl (aI mhg))), (mA 15, .inl (cI, 5, .inl (aI mhk))), (mA 16, .inl (cI, 8, .inl (aI mRf))), (mA 17, .inl (cI, 8, .inl (aI mRo))), (mA 18, .inl (cI, 4, .inl (aI mss))), (mA 19, .inl (cI, 4, .inl (aI msl))), (mA 20, .inl (cI, 240, .inl (aI msh))), (mA 21, .inl (cI, 60, .inl (aI mha)))]) rfl rfl (by decide) (by decide) (by decide) [0, 1, 2, 3, 4, 5, 6, 7, 8, 9, 10, 11, 12, 13, 14, 15, 16, 17, 18, 19, 20, 21] (fun (u : Unit) => (W_M cI cS mA mf mn ml mk mg mls ms mra mrf mrk mrg mrl mrs mo moo moa mp mpp mfi mpl mpo mro mdp mdf mhg mhk mR mRf mRo mss msl msh mha mt)) (fun _ => rfl) (by decide) rfl hl.1 rfl (Nat.le_of_ble_eq_true rfl) ⟨Nat.zero_le _, Nat.zero_le _⟩ dX7_witness_11 (fun r_ u_ H locs hw hP hD hS => ?_)
    try dsimp only at hw
    subst hw
    have hP : va_P D vwCl (W_M cI cS mA mf mn ml mk mg mls ms mra mrf mrk mrg mrl mrs mo moo moa mp mpp mfi mpl mpo mro mdp mdf mhg mhk mR mRf mRo mss msl msh mha mt) H := hP
    have hD : va_D A (W_M cI cS mA mf mn ml mk mg mls ms mra mrf mrk mrg mrl mrs mo moo moa mp mpp mfi mpl mpo mro mdp mdf mhg mhk mR mRf mRo mss msl msh mha mt) := hD
    refine n_if_b2 (tgt := 20) hx hb dX7_witness_14 (by decide)  (fun c_2 => ?_) (fun c_2 => ?_)
    ·
      refine lv_bipush (v := iI (-9)) hx hb dX7_witness_20 (by decide +kernel) ?_
      refine lv_istore_n (lv' := [(3, .int (iI (-9))), (0, .ref (mA 0)), (1, .int (iI f)), (2, .int (iI a_))]) hx hb dX7_witness_22 rfl hl (by decide) rfl (fun ls hl => ?_)
      refine lv_bipush (v := iI 15) hx hb dX7_witness_23 (by decide +kernel) ?_
      refine lv_istore (lv' := [(4, .int (iI 15)), (3, .int (iI (-9))), (0, .ref (mA 0)), (1, .int (iI f)), (2, .int (iI a_))]) hx hb dX7_witness_25 hl (by decide) rfl (fun ls hl => ?_)
      refine x_loop (σ := Int × Int × Int × (Int → Int) × (Int → Int) × Int × (Int → Int) × Int × Int × (Int → Int)) (fun (xv_ : Int × Int × Int × (Int → Int) × (Int → Int) × Int × (Int → Int) × Int × Int × (Int → Int)) => match xv_ with | (le, x, mo9, moo9, moa9, mp9, mpp9, mfi9, mpl9, mpo9) => (-1 ≤ x ∧ x ≤ 15) ∧ (le = wfrom (fun x => (sem mk mg x mls ms f).1) a_ (16 - (x + 1)).toNat (x + 1))) (fun (xv_ : Int × Int × Int × (Int → Int) × (Int → Int) × Int × (Int → Int) × Int × Int × (Int → Int)) => match xv_ with | (le, x, mo9, moo9, moa9, mp9, mpp9, mfi9, mpl9, mpo9) => (x + 1).toNat) (fun (xv_ : Int × Int × Int × (Int → Int) × (Int → Int) × Int × (Int → Int) × Int × Int × (Int → Int)) => match xv_ with | (le, x, mo9, moo9, moa9, mp9, mpp9, mfi9, mpl9, mpo9) => (W_M cI cS mA mf mn ml mk mg mls ms mra mrf mrk mrg mrl mrs mo9 moo9 moa9 mp9 mpp9 mfi9 mpl9 mpo9 mro mdp mdf mhg mhk mR mRf mRo mss msl msh mha mt)) (fun (xv_ : Int × Int × Int × (Int → Int) × (Int → Int) × Int × (Int → Int) × Int × Int × (Int → Int)) => match xv_ with | (le, x, mo9, moo9, moa9, mp9, mpp9, mfi9, mpl9, mpo9) => [(4, .int (iI x)), (3, .int (iI le)), (0, .ref (mA 0)), (1, .int (iI f)), (2, .int (iI a_))]) (nL := 5) ?step_3 ((-9), 15, mo, moo, moa, mp, mpp, mfi, mpl, mpo) (by (try dsimp only); exact ⟨by omega, rfl⟩) hP hD hS (lv_sub hl [0, 1, 2, 3, 4] rfl)
      case step_3 =>
        intro xv_ hI ih H locs ls hP hD hS hl
        obtain ⟨le, x, mo9, moo9, moa9, mp9, mpp9, mfi9, mpl9, mpo9⟩ := xv_
        try dsimp only at hI ih
        obtain ⟨hs_, hw2⟩ := hI
        have hP : va_P D vwCl (W_M cI cS mA mf mn ml mk mg mls ms mra mrf mrk mrg mrl mrs mo9 moo9 moa9 mp9 mpp9 mfi9 mpl9 mpo9 mro mdp mdf mhg mhk mR mRf mRo mss msl msh mha mt) H := hP
        have hD : va_D A (W_M cI cS mA mf mn ml mk mg mls ms mra mrf mrk mrg mrl mrs mo9 moo9 moa9 mp9 mpp9 mfi9 mpl9 mpo9 mro mdp mdf mhg mhk mR mRf mRo mss msl msh mha mt) := hD
        have hl : lv_has ls 5 [(4, .int (iI x)), (3, .int (iI le)), (0, .ref (mA 0)), (1, .int (iI f)), (2, .int (iI a_))] := hl
        have ih_4 := ih
        refine lv_iload hx hb dX7_witness_27 (lv_at hl 0 rfl) ?_
        refine n_if_lt (tgt := 56) hx hb dX7_witness_29 (by decide) (by omega) (fun c_5 => ?_) (fun c_5 => ?_)
        ·
          refine lv_iload_n hx hb dX7_witness_56 rfl (lv_at hl 1 rfl) ?_
          exact W.iret (v := iI le) hx hb hr (fun t ht hW => ⟨⟨_, (mo9, moo9, moa9, mp9, mpp9, mfi9, mpl9, mpo9), rfl, congrArg iI (show le = (sWit mn mk mg mls ms f a_) from (by unfold sWit; rw [if_pos (by omega), if_pos (by omega), hw2, show x = -1 by omega]; rfl)), by rw [ht]; exact hP, hD⟩, hS.F ht⟩) hS.2.2 dX7_witness_57
        ·
          refine lv_aload_n hx hb dX7_witness_32 rfl (lv_at hl 2 rfl) ?_
          refine lv_iload_n hx hb dX7_witness_33 rfl (lv_at hl 3 rfl) ?_
          refine lv_iload hx hb dX7_witness_34 (lv_at hl 0 rfl) ?_
          refine x_callVi (As := [.int (iI f), .int (iI x)]) (rest := []) ⟨hx, hb, hml, hown, hts⟩ (c_X7_runsBy l D cI cS mA mf mn ml mk mg mls ms mra mrf mrk mrg mrl mrs mo9 moo9 moa9 mp9 mpp9 mfi9 mpl9 mpo9 mro mdp mdf mhg mhk mR mRf mRo mss msl msh mha mt H.size f x (by first | assumption | omega) ⟨hkk.1, by omega⟩ (by first | assumption | omega)) (cwV 2 hts gX7_witness_X7_runsBy rfl rfl rfl (by decide +kernel) ⟨Nat.le_of_ble_eq_true rfl, Nat.le_of_ble_eq_true rfl⟩) hK hP hD hS hA [0, 1, 2, 3, 4, 5, 6, 7, 8, 9, 10, 11, 12, 13, 14, 15, 16, 17, 18, 19, 20, 21] [] (wr := ([] : va_W)) rfl rfl (by decide) (by decide) (by decide) 0 7 rfl rfl rfl [0, 1, 2, 3, 4, 5, 6, 7, 8, 9, 10, 11, 12, 13, 14, 15, 16, 17, 18, 19, 20, 21] (fun (u : Int × (Int → Int) × (Int → Int) × Int × (Int → Int) × Int × Int × (Int → Int)) => (W_M cI cS mA mf mn ml mk mg mls ms mra mrf mrk mrg mrl mrs u.1 u.2.1 u.2.2.1 u.2.2.2.1 u.2.2.2.2.1 u.2.2.2.2.2.1 u.2.2.2.2.2.2.1 u.2.2.2.2.2.2.2 mro mdp mdf mhg mhk mR mRf mRo mss msl msh mha mt)) (fun _ => rfl) (by decide) rfl hl.1 rfl (Nat.le_of_ble_eq_true rfl) ⟨Nat.zero_le _, Nat.zero_le _⟩ dX7_witness_36 (fun r_ u_ H locs hw hP hD hS => ?_)
          obtain ⟨mo_6, moo_7, moa_8, mp_9, mpp_10, mfi_11, mpl_12, mpo_13⟩ := u_
          try dsimp only at hw
          subst hw
          have hP : va_P D vwCl (W_M cI cS mA mf mn ml mk mg mls ms mra mrf mrk mrg mrl mrs mo_6 moo_7 moa_8 mp_9 mpp_10 mfi_11 mpl_12 mpo_13 mro mdp mdf mhg mhk mR mRf mRo mss msl msh mha mt) H := hP
          have hD : va_D A (W_M cI cS mA mf mn ml mk mg mls ms mra mrf mrk mrg mrl mrs mo_6 moo_7 moa_8 mp_9 mpp_10 mfi_11 mpl_12 mpo_13 mro mdp mdf mhg mhk mR mRf mRo mss msl msh mha mt) := hD
          obtain ⟨o1z, h_o1z⟩ : ∃ z_ : Int, z_ = (if (sem mk mg x mls ms f).1 = 4 then (-9) else (sem mk mg x mls ms f).1) := ⟨_, rfl⟩
          rw [← h_o1z]
          obtain ⟨o1, ho1⟩ : ∃ z_ : Int, z_ = (sem mk mg x mls ms f).1 := ⟨_, rfl⟩
          have ho1r := (sem_ok (K := mk) (G := mg) (L := x) hok f (by omega) (by omega)).1
          rw [← ho1] at ho1r h_o1z
          refine lv_iload_n hx hb dX7_witness_39 rfl (lv_at hl 4 rfl) ?_
          refine n_icmp_ne (tgt := 48) hx hb dX7_witness_40 (by decide) (by omega) (fun c_14 => ?_) (fun c_14 => ?_)
          ·
            refine lv_iload_n hx hb dX7_witness_48 rfl (lv_at hl 1 rfl) ?_
            refine lv_istore_n (lv' := [(3, .int (iI le)), (4, .int (iI x)), (0, .ref (mA 0)), (1, .int (iI f)), (2, .int (iI a_))]) hx hb dX7_witness_49 rfl hl (by decide) rfl (fun ls hl => ?_)
            refine n_iinc (lv' := [(4, .int (iI (x + (-1)))), (3, .int (iI le)), (0, .ref (mA 0)), (1, .int (iI f)), (2, .int (iI a_))]) hx hb dX7_witness_50 hl (k := 1) rfl (by decide) rfl (fun ls hl => ?_)
            refine lv_goto (tgt := 27) hx hb dX7_witness_53 (by decide) ?_
            exact ih_4 (le, (x + (-1)), mo_6, moo_7, moa_8, mp_9, mpp_10, mfi_11, mpl_12, mpo_13) (by (try dsimp only); exact ⟨by omega, by rw [show x + -1 + 1 = x by omega, wfrom_s (by omega), ← ho1, ← hw2]; first | (rw [if_pos (by omega)]; done) | (rw [if_neg (by omega)]; done)⟩) (by (try dsimp only); exact (by omega)) _ _ _ hP hD hS (lv_sub hl [0, 1, 2, 3, 4] rfl)
          ·
            refine lv_iload hx hb dX7_witness_43 (lv_at hl 0 rfl) ?_
            refine lv_goto (tgt := 49) hx hb dX7_witness_45 (by decide) ?_
            refine lv_istore_n (lv' := [(3, .int (iI x)), (4, .int (iI x)), (0, .ref (mA 0)), (1, .int (iI f)), (2, .int (iI a_))]) hx hb dX7_witness_49 rfl hl (by decide) rfl (fun ls hl => ?_)
            refine n_iinc (lv' := [(4, .int (iI (x + (-1)))), (3, .int (iI x)), (0, .ref (mA 0)), (1, .int (iI f)), (2, .int (iI a_))]) hx hb dX7_witness_50 hl (k := 1) rfl (by decide) rfl (fun ls hl => ?_)
            refine lv_goto (tgt := 27) hx hb dX7_witness_53 (by decide) ?_
            exact ih_4 (x, (x + (-1)), mo_6, moo_7, moa_8, mp_9, mpp_10, mfi_11, mpl_12, mpo_13) (by (try dsimp only); exact ⟨by omega, by rw [show x + -1 + 1 = x by omega, wfrom_s (by omega), ← ho1, ← hw2]; first | (rw [if_pos (by omega)]; done) | (rw [if_neg (by omega)]; done)⟩) (by (try dsimp only); exact (by omega)) _ _ _ hP hD hS (lv_sub hl [0, 1, 2, 3, 4] rfl)
    ·
      refine lv_bipush (v := iI (-2)) hx hb dX7_witness_17 (by decide +kernel) ?_
      exact W.iret (v := iI (-2)) hx hb hr (fun t ht hW => ⟨⟨_, (mo, moo, moa, mp, mpp, mfi, mpl, mpo), rfl, congrArg iI (show (-2) = (sWit mn mk mg mls ms f a_) from (by unfold sWit; (repeat (first | rw [if_pos (by omega)] | rw [if_neg (by omega)])))), by rw [ht]; exact hP, hD⟩, hS.F ht⟩) hS.2.2 dX7_witness_19
  ·
    refine lv_iconst (v := iI (-1)) hx hb dX7_witness_8 (by decide +kernel) ?_
    exact W.iret (v := iI (-1)) hx hb hr (fun t ht hW => ⟨⟨_, (mo, moo, moa, mp, mpp, mfi, mpl, mpo), rfl, congrArg iI (show (-1) = (sWit mn mk mg mls ms f a_) from (by unfold sWit; (repeat (first | rw [if_pos (by omega)] | rw [if_neg (by omega)])))), by rw [ht]; exact hP, hD⟩, hS.F ht⟩) hS.2.2 dX7_witness_9
set_option maxHeartbeats 4000000 in
set_option maxRecDepth 100000 in
theorem c_X7_free (l : Launch) (D : va_G) (cI cS : ClassId) (mA : Nat → Nat) (mf : Int) (mn : Int) (ml : Int) (mk : Int → Int) (mg : Int → Int) (mls : Int → Int) (ms : Int → Int) (mra : Int) (mrf : Int) (mrk : Int → Int) (mrg : Int → Int) (mrl : Int → Int) (mrs : Int → Int) (mo : Int) (moo : Int → Int) (moa : Int → Int) (mp : Int) (mpp : Int → Int) (mfi : Int) (mpl : Int) (mpo : Int → Int) (mro : Int → Int) (mdp : Int) (mdf : Int) (mhg : Int → Int) (mhk : Int → Int) (mR : Int) (mRf : Int → Int) (mRo : Int → Int) (mss : Int → Int) (msl : Int → Int) (msh : Int → Int) (mha : Int → Int) (mt : Int) (sz : Nat) (f : Int) (g : Int) (hok : okP mn mls ms) (hkk : okK mn mk mg ml) (hfr : -2147483648 ≤ f ∧ f < 2147483648) (hgr : -2147483648 ≤ g ∧ g < 2147483648) : Met l yX7_free wsX7_free ({ frames := 5, cells := 0, slots := 0, locals := 113 }) (cP D cI cS (W_M cI cS mA mf mn ml mk mg mls ms mra mrf mrk mrg mrl mrs mo moo moa mp mpp mfi mpl mpo mro mdp mdf mhg mhk mR mRf mRo mss msl msh mha mt) sz [.ref (mA 0), .int (iI f), .int (iI g)]) (va_Qi (fun (r : Int32) (u : Int × (Int → Int) × (Int → Int) × Int × (Int → Int) × Int × Int × (Int → Int)) => r = iI (sFree mn mk mg mls ms f g)) (fun (u : Int × (Int → Int) × (Int → Int) × Int × (Int → Int) × Int × Int × (Int → Int)) t => cB D (va_A (W_M cI cS mA mf mn ml mk mg mls ms mra mrf mrk mrg mrl mrs mo moo moa mp mpp mfi mpl mpo mro mdp mdf mhg mhk mR mRf mRo mss msl msh mha mt) sz) (W_M cI cS mA mf mn ml mk mg mls ms mra mrf mrk mrg mrl mrs u.1 u.2.1 u.2.2.1 u.2.2.2.1 u.2.2.2.2.1 u.2.2.2.2.2.1 u.2.2.2.2.2.2.1 u.2.2.2.2.2.2.2 mro mdp mdf mhg mhk mR mRf mRo mss msl msh mha mt) t) (va_A (W_M cI cS mA mf mn ml mk mg mls ms mra mrf mrk mrg mrl mrs mo moo moa mp mpp mfi mpl mpo mro mdp mdf mhg mhk mR mRf mRo mss msl msh mha mt) sz)) 0 0 (va_A (W_M cI cS mA mf mn ml mk mg mls ms mra mrf mrk mrg mrl mrs mo moo moa mp mpp mfi mpl mpo mro mdp mdf mhg mhk mR mRf mRo mss msl msh mha mt) sz) := by
  refine Met.ofW (cc := cX7_free) (maxL := 7) (ret := (some .int)) (by decide) rfl ?_
  intro p e s m args below meth c_ s₁ B hml hv
  obtain ⟨rfl, hsz, hP, hK, hD0⟩ := hv
  have hx := B.exec
  have hb := B.bytes
  have hr := B.returns
  have hts := atoms_spec (ws := wsX7_free) B.pre
  have hown : s.vm.findClass RX7 = some m.cls := findClass_of_methodNamed B.named
  have hlocks := B.notSynchronized
  subst hsz
  have hD := hD0.self (sz := s.heap.size)
  generalize hAe : va_A (W_M cI cS mA mf mn ml mk mg mls ms mra mrf mrk mrg mrl mrs mo moo moa mp mpp mfi mpl mpo mro mdp mdf mhg mhk mR mRf mRo mss msl msh mha mt) s.heap.size = A at hD ⊢
  have hA : ∀ q : Nat, s.heap.size ≤ q → A q := fun q h => by rw [← hAe]; exact Or.inr h
  have hS : va_S A s.heap s.heap [] := va_S.rf
  have hP : va_P D vwCl (W_M cI cS mA mf mn ml mk mg mls ms mra mrf mrk mrg mrl mrs mo moo moa mp mpp mfi mpl mpo mro mdp mdf mhg mhk mR mRf mRo mss msl msh mha mt) s.heap := hP
  have hl := lv_entry ([.ref (mA 0), .int (iI f), .int (iI g)] : List Value) (n := 7) (Nat.le_of_ble_eq_true rfl)
  rw [lg_entry_eq]
  generalize (lg_sl ([.ref (mA 0), .int (iI f), .int (iI g)] : List Value) ++ List.replicate (7 - (lg_sl ([.ref (mA 0), .int (iI f), .int (iI g)] : List Value)).length) Slot.unset).toArray = ls at hl ⊢
  have hl : lv_has ls 7 [(0, .ref (mA 0)), (1, .int (iI f)), (2, .int (iI g))] := hl
  have hmn := hok.1
  have hln := hok.2.1
  refine lv_aload_n hx hb dX7_free_0 rfl (lv_at hl 0 rfl) ?_
  refine lv_iload_n hx hb dX7_free_1 rfl (lv_at hl 1 rfl) ?_
  refine x_callVi (As := [.int (iI f)]) (rest := []) ⟨hx, hb, hml, hown, hts⟩ (c_X7_noFunction l D cI cS mA mf mn ml mk mg mls ms mra mrf mrk mrg mrl mrs mo moo moa mp mpp mfi mpl mpo mro mdp mdf mhg mhk mR mRf mRo mss msl msh mha mt s.heap.size f (by first | assumption | omega) (by first | assumption | omega)) (cwV 1 hts gX7_free_X7_noFunction rfl rfl rfl (by decide +kernel) ⟨Nat.le_of_ble_eq_true rfl, Nat.le_of_ble_eq_true rfl⟩) hK hP hD hS hA [0, 1, 2, 3, 4, 5, 6, 7, 8, 9, 10, 11, 12, 13, 14, 15, 16, 17, 18, 19, 20, 21] [] (wr := ([] : va_W)) rfl rfl (by decide) (by decide) (by decide) 0 7 rfl rfl rfl [0, 1, 2, 3, 4, 5, 6, 7, 8, 9, 10, 11, 12, 13, 14, 15, 16, 17, 18, 19, 20, 21] (fun (u : Unit) => (W_M cI cS mA mf mn ml mk mg mls ms mra mrf mrk mrg mrl mrs mo moo moa mp mpp mfi mpl mpo mro mdp mdf mhg mhk mR mRf mRo mss msl msh mha mt)) (fun _ => rfl) (by decide) rfl hl.1 rfl (Nat.le_of_ble_eq_true rfl) ⟨Nat.zero_le _, Nat.zero_le _⟩ dX7_free_2 (fun r_ u_ H locs hw hP hD hS => ?_)
  try dsimp only at hw
  subst hw
  have hP : va_P D vwCl (W_M cI cS mA mf mn ml mk mg mls ms mra mrf mrk mrg mrl mrs mo moo moa mp mpp mfi mpl mpo mro mdp mdf mhg mhk mR mRf mRo mss msl msh mha mt) H := hP
  have hD : va_D A (W_M cI cS mA mf mn ml mk mg mls ms mra mrf mrk mrg mrl mrs mo moo moa mp mpp mfi mpl mpo mro mdp mdf mhg mhk mR mRf mRo mss msl msh mha mt) := hD
  refine n_if_b2 (tgt := 16) hx hb dX7_free_5 (by decide)  (fun c_1 => ?_) (fun c_1 => ?_)
  ·
    refine lv_iconst (v := iI (-1)) hx hb dX7_free_16 (by decide +kernel) ?_
    exact W.iret (v := iI (-1)) hx hb hr (fun t ht hW => ⟨⟨_, (mo, moo, moa, mp, mpp, mfi, mpl, mpo), rfl, congrArg iI (show (-1) = (sFree mn mk mg mls ms f g) from (by unfold sFree; (repeat (first | rw [if_pos (by omega)] | rw [if_neg (by omega)])))), by rw [ht]; exact hP, hD⟩, hS.F ht⟩) hS.2.2 dX7_free_17
  ·
    refine lv_aload_n hx hb dX7_free_8 rfl (lv_at hl 0 rfl) ?_
    refine lv_iload_n hx hb dX7_free_9 rfl (lv_at hl 2 rfl) ?_
    refine x_callVi (As := [.int (iI g)]) (rest := []) ⟨hx, hb, hml, hown, hts⟩ (c_X7_noFunction l D cI cS mA mf mn ml mk mg mls ms mra mrf mrk mrg mrl mrs mo moo moa mp mpp mfi mpl mpo mro mdp mdf mhg mhk mR mRf mRo mss msl msh mha mt H.size g (by first | assumption | omega) (by first | assumption | omega)) (cwV 1 hts gX7_free_X7_noFunction rfl rfl rfl (by decide +kernel) ⟨Nat.le_of_ble_eq_true rfl, Nat.le_of_ble_eq_true rfl⟩) hK hP hD hS hA [0, 1, 2, 3, 4, 5, 6, 7, 8, 9, 10, 11, 12, 13, 14, 15, 16, 17, 18, 19, 20, 21] [] (wr := ([] : va_W)) rfl rfl (by decide) (by decide) (by decide) 0 7 rfl rfl rfl [0, 1, 2, 3, 4, 5, 6, 7, 8, 9, 10, 11, 12, 13, 14, 15, 16, 17, 18, 19, 20, 21] (fun (u : Unit) => (W_M cI cS mA mf mn ml mk mg mls ms mra mrf mrk mrg mrl mrs mo moo moa mp mpp mfi mpl mpo mro mdp mdf mhg mhk mR mRf mRo mss msl msh mha mt)) (fun _ => rfl) (by decide) rfl hl.1 rfl (Nat.le_of_ble_eq_true rfl) ⟨Nat.zero_le _, Nat.zero_le _⟩ dX7_free_10 (fun r_ u_ H locs hw hP hD hS => ?_)
    try dsimp only at hw
    subst hw
    have hP : va_P D vwCl (W_M cI cS mA mf mn ml mk mg mls ms mra mrf mrk mrg mrl mrs mo moo moa mp mpp mfi mpl mpo mro mdp mdf mhg mhk mR mRf mRo mss msl msh mha mt) H := hP
    have hD : va_D A (W_M cI cS mA mf mn ml mk mg mls ms mra mrf mrk mrg mrl mrs mo moo moa mp mpp mfi mpl mpo mro mdp mdf mhg mhk mR mRf mRo mss msl msh mha mt) := hD
    refine n_if_b1 (tgt := 18) hx hb dX7_free_13 (by decide)  (fun c_2 => ?_) (fun c_2 => ?_)
    ·
      have hf : 0 ≤ f ∧ f < mn := by omega
      have hg : 0 ≤ g ∧ g < mn := by omega
      refine lv_iconst (v := iI 1) hx hb dX7_free_18 (by decide +kernel) ?_
      refine lv_istore_n (lv' := [(3, .int (iI 1)), (0, .ref (mA 0)), (1, .int (iI f)), (2, .int (iI g))]) hx hb dX7_free_19 rfl hl (by decide) rfl (fun ls hl => ?_)
      refine lv_iconst (v := iI 0) hx hb dX7_free_20 (by decide +kernel) ?_
      refine lv_istore (lv' := [(4, .int (iI 0)), (3, .int (iI 1)), (0, .ref (mA 0)), (1, .int (iI f)), (2, .int (iI g))]) hx hb dX7_free_21 hl (by decide) rfl (fun ls hl => ?_)
      refine x_loop (σ := Int × Int × Int × (Int → Int) × (Int → Int) × Int × (Int → Int) × Int × Int × (Int → Int)) (fun (xv_ : Int × Int × Int × (Int → Int) × (Int → Int) × Int × (Int → Int) × Int × Int × (Int → Int)) => match xv_ with | (ar, x, mo9, moo9, moa9, mp9, mpp9, mfi9, mpl9, mpo9) => (0 ≤ x ∧ x ≤ 16) ∧ (ar = (if freeB (fun x => (sem mk mg x mls ms f).1) (fun x => (sem mk mg x mls ms g).1) x.toNat = true then 1 else 0))) (fun (xv_ : Int × Int × Int × (Int → Int) × (Int → Int) × Int × (Int → Int) × Int × Int × (Int → Int)) => match xv_ with | (ar, x, mo9, moo9, moa9, mp9, mpp9, mfi9, mpl9, mpo9) => (16 - x).toNat) (fun (xv_ : Int × Int × Int × (Int → Int) × (Int → Int) × Int × (Int → Int) × Int × Int × (Int → Int)) => match xv_ with | (ar, x, mo9, moo9, moa9, mp9, mpp9, mfi9, mpl9, mpo9) => (W_M cI cS mA mf mn ml mk mg mls ms mra mrf mrk mrg mrl mrs mo9 moo9 moa9 mp9 mpp9 mfi9 mpl9 mpo9 mro mdp mdf mhg mhk mR mRf mRo mss msl msh mha mt)) (fun (xv_ : Int × Int × Int × (Int → Int) × (Int → Int) × Int × (Int → Int) × Int × Int × (Int → Int)) => match xv_ with | (ar, x, mo9, moo9, moa9, mp9, mpp9, mfi9, mpl9, mpo9) => [(4, .int (iI x)), (3, .int (iI ar)), (0, .ref (mA 0)), (1, .int (iI f)), (2, .int (iI g))]) (nL := 7) ?step_3 (1, 0, mo, moo, moa, mp, mpp, mfi, mpl, mpo) (by (try dsimp only); exact ⟨by omega, rfl⟩) hP hD hS (lv_sub hl [0, 1, 2, 3, 4] rfl)
      case step_3 =>
        intro xv_ hI ih H locs ls hP hD hS hl
        obtain ⟨ar, x, mo9, moo9, moa9, mp9, mpp9, mfi9, mpl9, mpo9⟩ := xv_
        try dsimp only at hI ih
        obtain ⟨hs_, hw2⟩ := hI
        have hP : va_P D vwCl (W_M cI cS mA mf mn ml mk mg mls ms mra mrf mrk mrg mrl mrs mo9 moo9 moa9 mp9 mpp9 mfi9 mpl9 mpo9 mro mdp mdf mhg mhk mR mRf mRo mss msl msh mha mt) H := hP
        have hD : va_D A (W_M cI cS mA mf mn ml mk mg mls ms mra mrf mrk mrg mrl mrs mo9 moo9 moa9 mp9 mpp9 mfi9 mpl9 mpo9 mro mdp mdf mhg mhk mR mRf mRo mss msl msh mha mt) := hD
        have hl : lv_has ls 7 [(4, .int (iI x)), (3, .int (iI ar)), (0, .ref (mA 0)), (1, .int (iI f)), (2, .int (iI g))] := hl
        have har : ar = 0 ∨ ar = 1 := by rw [hw2]; split <;> omega
        have ih_4 := ih
        refine lv_iload hx hb dX7_free_23 (lv_at hl 0 rfl) ?_
        refine lv_bipush (v := iI 16) hx hb dX7_free_25 (by decide +kernel) ?_
        refine n_icmp_ge (tgt := 81) hx hb dX7_free_27 (by decide) (by omega) (fun c_5 => ?_) (fun c_5 => ?_)
        ·
          refine lv_iload_n hx hb dX7_free_81 rfl (lv_at hl 1 rfl) ?_
          refine n_if_eq (tgt := 89) hx hb dX7_free_82 (by decide) (by omega) (fun c_6 => ?_) (fun c_6 => ?_)
          ·
            refine lv_iconst (v := iI 0) hx hb dX7_free_89 (by decide +kernel) ?_
            exact W.iret (v := iI 0) hx hb hr (fun t ht hW => ⟨⟨_, (mo9, moo9, moa9, mp9, mpp9, mfi9, mpl9, mpo9), rfl, congrArg iI (show 0 = (sFree mn mk mg mls ms f g) from (by unfold sFree; rw [if_pos (by omega), show (16 : Nat) = x.toNat by omega]; first | (rw [if_pos (by omega)]; done) | (by_cases q : freeB (fun x => (sem mk mg x mls ms f).1) (fun x => (sem mk mg x mls ms g).1) x.toNat = true; (rw [if_pos q] at hw2 ⊢ <;> omega); (rw [if_neg q] at hw2 ⊢ <;> omega)))), by rw [ht]; exact hP, hD⟩, hS.F ht⟩) hS.2.2 dX7_free_90
          ·
            refine lv_iconst (v := iI 1) hx hb dX7_free_85 (by decide +kernel) ?_
            refine lv_goto (tgt := 90) hx hb dX7_free_86 (by decide) ?_
            exact W.iret (v := iI 1) hx hb hr (fun t ht hW => ⟨⟨_, (mo9, moo9, moa9, mp9, mpp9, mfi9, mpl9, mpo9), rfl, congrArg iI (show 1 = (sFree mn mk mg mls ms f g) from (by unfold sFree; rw [if_pos (by omega), show (16 : Nat) = x.toNat by omega]; first | (rw [if_pos (by omega)]; done) | (by_cases q : freeB (fun x => (sem mk mg x mls ms f).1) (fun x => (sem mk mg x mls ms g).1) x.toNat = true; (rw [if_pos q] at hw2 ⊢ <;> omega); (rw [if_neg q] at hw2 ⊢ <;> omega)))), by rw [ht]; exact hP, hD⟩, hS.F ht⟩) hS.2.2 dX7_free_90
        ·
          refine lv_aload_n hx hb dX7_free_30 rfl (lv_at hl 2 rfl) ?_
          refine lv_iload_n hx hb dX7_free_31 rfl (lv_at hl 3 rfl) ?_
          refine lv_iload hx hb dX7_free_32 (lv_at hl 0 rfl) ?_
          refine x_callVi (As := [.int (iI f), .int (iI x)]) (rest := []) ⟨hx, hb, hml, hown, hts⟩ (c_X7_runsBy l D cI cS mA mf mn ml mk mg mls ms mra mrf mrk mrg mrl mrs mo9 moo9 moa9 mp9 mpp9 mfi9 mpl9 mpo9 mro mdp mdf mhg mhk mR mRf mRo mss msl msh mha mt H.size f x (by first | assumption | omega) ⟨hkk.1, by omega⟩ (by first | assumption | omega)) (cwV 2 hts gX7_free_X7_runsBy rfl rfl rfl (by decide +kernel) ⟨Nat.le_of_ble_eq_true rfl, Nat.le_of_ble_eq_true rfl⟩) hK hP hD hS hA [0, 1, 2, 3, 4, 5, 6, 7, 8, 9, 10, 11, 12, 13, 14, 15, 16, 17, 18, 19, 20, 21] [] (wr := ([] : va_W)) rfl rfl (by decide) (by decide) (by decide) 0 7 rfl rfl rfl [0, 1, 2, 3, 4, 5, 6, 7, 8, 9, 10, 11, 12, 13, 14, 15, 16, 17, 18, 19, 20, 21] (fun (u : Int × (Int → Int) × (Int → Int) × Int × (Int → Int) × Int × Int × (Int → Int)) => (W_M cI cS mA mf mn ml mk mg mls ms mra mrf mrk mrg mrl mrs u.1 u.2.1 u.2.2.1 u.2.2.2.1 u.2.2.2.2.1 u.2.2.2.2.2.1 u.2.2.2.2.2.2.1 u.2.2.2.2.2.2.2 mro mdp mdf mhg mhk mR mRf mRo mss msl msh mha mt)) (fun _ => rfl) (by decide) rfl hl.1 rfl (Nat.le_of_ble_eq_true rfl) ⟨Nat.zero_le _, Nat.zero_le _⟩ dX7_free_34 (fun r_ u_ H locs hw hP hD hS => ?_)
          obtain ⟨mo_7, moo_8, moa_9, mp_10, mpp_11, mfi_12, mpl_13, mpo_14⟩ := u_
          try dsimp only at hw
          subst hw
          have hP : va_P D vwCl (W_M cI cS mA mf mn ml mk mg mls ms mra mrf mrk mrg mrl mrs mo_7 moo_8 moa_9 mp_10 mpp_11 mfi_12 mpl_13 mpo_14 mro mdp mdf mhg mhk mR mRf mRo mss msl msh mha mt) H := hP
          have hD : va_D A (W_M cI cS mA mf mn ml mk mg mls ms mra mrf mrk mrg mrl mrs mo_7 moo_8 moa_9 mp_10 mpp_11 mfi_12 mpl_13 mpo_14 mro mdp mdf mhg mhk mR mRf mRo mss msl msh mha mt) := hD
          obtain ⟨o1z, h_o1z⟩ : ∃ z_ : Int, z_ = (if (sem mk mg x mls ms f).1 = 4 then (-9) else (sem mk mg x mls ms f).1) := ⟨_, rfl⟩
          rw [← h_o1z]
          obtain ⟨o1, ho1⟩ : ∃ z_ : Int, z_ = (sem mk mg x mls ms f).1 := ⟨_, rfl⟩
          have ho1r := (sem_ok (K := mk) (G := mg) (L := x) hok f (by omega) (by omega)).1
          rw [← ho1] at ho1r h_o1z
          refine lv_istore (lv' := [(5, .int (iI o1z)), (4, .int (iI x)), (3, .int (iI ar)), (0, .ref (mA 0)), (1, .int (iI f)), (2, .int (iI g))]) hx hb dX7_free_37 hl (by decide) rfl (fun ls hl => ?_)
          refine lv_aload_n hx hb dX7_free_39 rfl (lv_at hl 3 rfl) ?_
          refine lv_iload_n hx hb dX7_free_40 rfl (lv_at hl 5 rfl) ?_
          refine lv_iload hx hb dX7_free_41 (lv_at hl 1 rfl) ?_
          refine x_callVi (As := [.int (iI g), .int (iI x)]) (rest := []) ⟨hx, hb, hml, hown, hts⟩ (c_X7_runsBy l D cI cS mA mf mn ml mk mg mls ms mra mrf mrk mrg mrl mrs mo_7 moo_8 moa_9 mp_10 mpp_11 mfi_12 mpl_13 mpo_14 mro mdp mdf mhg mhk mR mRf mRo mss msl msh mha mt H.size g x (by first | assumption | omega) ⟨hkk.1, by omega⟩ (by first | assumption | omega)) (cwV 2 hts gX7_free_X7_runsBy rfl rfl rfl (by decide +kernel) ⟨Nat.le_of_ble_eq_true rfl, Nat.le_of_ble_eq_true rfl⟩) hK hP hD hS hA [0, 1, 2, 3, 4, 5, 6, 7, 8, 9, 10, 11, 12, 13, 14, 15, 16, 17, 18, 19, 20, 21] [] (wr := ([] : va_W)) rfl rfl (by decide) (by decide) (by decide) 0 7 rfl rfl rfl [0, 1, 2, 3, 4, 5, 6, 7, 8, 9, 10, 11, 12, 13, 14, 15, 16, 17, 18, 19, 20, 21] (fun (u : Int × (Int → Int) × (Int → Int) × Int × (Int → Int) × Int × Int × (Int → Int)) => (W_M cI cS mA mf mn ml mk mg mls ms mra mrf mrk mrg mrl mrs u.1 u.2.1 u.2.2.1 u.2.2.2.1 u.2.2.2.2.1 u.2.2.2.2.2.1 u.2.2.2.2.2.2.1 u.2.2.2.2.2.2.2 mro mdp mdf mhg mhk mR mRf mRo mss msl msh mha mt)) (fun _ => rfl) (by decide) rfl hl.1 rfl (Nat.le_of_ble_eq_true rfl) ⟨Nat.zero_le _, Nat.zero_le _⟩ dX7_free_43 (fun r_ u_ H locs hw hP hD hS => ?_)
          obtain ⟨mo_15, moo_16, moa_17, mp_18, mpp_19, mfi_20, mpl_21, mpo_22⟩ := u_
          try dsimp only at hw
          subst hw
          have hP : va_P D vwCl (W_M cI cS mA mf mn ml mk mg mls ms mra mrf mrk mrg mrl mrs mo_15 moo_16 moa_17 mp_18 mpp_19 mfi_20 mpl_21 mpo_22 mro mdp mdf mhg mhk mR mRf mRo mss msl msh mha mt) H := hP
          have hD : va_D A (W_M cI cS mA mf mn ml mk mg mls ms mra mrf mrk mrg mrl mrs mo_15 moo_16 moa_17 mp_18 mpp_19 mfi_20 mpl_21 mpo_22 mro mdp mdf mhg mhk mR mRf mRo mss msl msh mha mt) := hD
          obtain ⟨o2z, h_o2z⟩ : ∃ z_ : Int, z_ = (if (sem mk mg x mls ms g).1 = 4 then (-9) else (sem mk mg x mls ms g).1) := ⟨_, rfl⟩
          rw [← h_o2z]
          obtain ⟨o2, ho2⟩ : ∃ z_ : Int, z_ = (sem mk mg x mls ms g).1 := ⟨_, rfl⟩
          have ho2r := (sem_ok (K := mk) (G := mg) (L := x) hok g (by omega) (by omega)).1
          rw [← ho2] at ho2r h_o2z
          refine lv_istore (lv' := [(6, .int (iI o2z)), (5, .int (iI o1z)), (4, .int (iI x)), (3, .int (iI ar)), (0, .ref (mA 0)), (1, .int (iI f)), (2, .int (iI g))]) hx hb dX7_free_46 hl (by decide) rfl (fun ls hl => ?_)
          refine lv_iload_n hx hb dX7_free_48 rfl (lv_at hl 3 rfl) ?_
          refine n_if_eq (tgt := 73) hx hb dX7_free_49 (by decide) (by omega) (fun c_23 => ?_) (fun c_23 => ?_)
          ·
            refine lv_iconst (v := iI 0) hx hb dX7_free_73 (by decide +kernel) ?_
            refine lv_istore_n (lv' := [(3, .int (iI 0)), (6, .int (iI o2z)), (5, .int (iI o1z)), (4, .int (iI x)), (0, .ref (mA 0)), (1, .int (iI f)), (2, .int (iI g))]) hx hb dX7_free_74 rfl hl (by decide) rfl (fun ls hl => ?_)
            refine n_iinc (lv' := [(4, .int (iI (x + 1))), (3, .int (iI 0)), (6, .int (iI o2z)), (5, .int (iI o1z)), (0, .ref (mA 0)), (1, .int (iI f)), (2, .int (iI g))]) hx hb dX7_free_75 hl (k := 3) rfl (by decide) rfl (fun ls hl => ?_)
            refine lv_goto (tgt := 23) hx hb dX7_free_78 (by decide) ?_
            exact ih_4 (0, (x + 1), mo_15, moo_16, moa_17, mp_18, mpp_19, mfi_20, mpl_21, mpo_22) (by (try dsimp only); exact ⟨by omega, by
                rw [freeB_s _ _ hs_.1, ← ho1, ← ho2]
                by_cases q : freeB (fun x => (sem mk mg x mls ms f).1) (fun x => (sem mk mg x mls ms g).1) x.toNat = true
                · rw [if_pos q] at hw2
                  rw [q, Bool.true_and]
                  by_cases q2 : o1 = 4 ∨ o2 = 4 ∨ o1 = o2
                  · rw [if_pos (decide_eq_true q2)] <;> omega
                  · rw [if_neg (by rw [decide_eq_false q2]; decide)] <;> omega
                · rw [if_neg q] at hw2
                  rw [Bool.eq_false_iff.mpr q, Bool.false_and]
                  show _ = (0 : Int)
                  omega⟩) (by (try dsimp only); exact (by omega)) _ _ _ hP hD hS (lv_sub hl [0, 1, 4, 5, 6] rfl)
          ·
            refine lv_iload hx hb dX7_free_52 (lv_at hl 1 rfl) ?_
            refine n_if_lt (tgt := 69) hx hb dX7_free_54 (by decide) (by omega) (fun c_24 => ?_) (fun c_24 => ?_)
            ·
              refine lv_iconst (v := iI 1) hx hb dX7_free_69 (by decide +kernel) ?_
              refine lv_goto (tgt := 74) hx hb dX7_free_70 (by decide) ?_
              refine lv_istore_n (lv' := [(3, .int (iI 1)), (6, .int (iI o2z)), (5, .int (iI o1z)), (4, .int (iI x)), (0, .ref (mA 0)), (1, .int (iI f)), (2, .int (iI g))]) hx hb dX7_free_74 rfl hl (by decide) rfl (fun ls hl => ?_)
              refine n_iinc (lv' := [(4, .int (iI (x + 1))), (3, .int (iI 1)), (6, .int (iI o2z)), (5, .int (iI o1z)), (0, .ref (mA 0)), (1, .int (iI f)), (2, .int (iI g))]) hx hb dX7_free_75 hl (k := 3) rfl (by decide) rfl (fun ls hl => ?_)
              refine lv_goto (tgt := 23) hx hb dX7_free_78 (by decide) ?_
              exact ih_4 (1, (x + 1), mo_15, moo_16, moa_17, mp_18, mpp_19, mfi_20, mpl_21, mpo_22) (by (try dsimp only); exact ⟨by omega, by
                rw [freeB_s _ _ hs_.1, ← ho1, ← ho2]
                by_cases q : freeB (fun x => (sem mk mg x mls ms f).1) (fun x => (sem mk mg x mls ms g).1) x.toNat = true
                · rw [if_pos q] at hw2
                  rw [q, Bool.true_and]
                  by_cases q2 : o1 = 4 ∨ o2 = 4 ∨ o1 = o2
                  · rw [if_pos (decide_eq_true q2)] <;> omega
                  · rw [if_neg (by rw [decide_eq_false q2]; decide)] <;> omega
                · rw [if_neg q] at hw2
                  rw [Bool.eq_false_iff.mpr q, Bool.false_and]
                  show _ = (0 : Int)
                  omega⟩) (by (try dsimp only); exact (by omega)) _ _ _ hP hD hS (lv_sub hl [0, 1, 4, 5, 6] rfl)
            ·
              refine lv_iload hx hb dX7_free_57 (lv_at hl 0 rfl) ?_
              refine n_if_lt (tgt := 69) hx hb dX7_free_59 (by decide) (by omega) (fun c_25 => ?_) (fun c_25 => ?_)
              ·
                refine lv_iconst (v := iI 1) hx hb dX7_free_69 (by decide +kernel) ?_
                refine lv_goto (tgt := 74) hx hb dX7_free_70 (by decide) ?_
                refine lv_istore_n (lv' := [(3, .int (iI 1)), (6, .int (iI o2z)), (5, .int (iI o1z)), (4, .int (iI x)), (0, .ref (mA 0)), (1, .int (iI f)), (2, .int (iI g))]) hx hb dX7_free_74 rfl hl (by decide) rfl (fun ls hl => ?_)
                refine n_iinc (lv' := [(4, .int (iI (x + 1))), (3, .int (iI 1)), (6, .int (iI o2z)), (5, .int (iI o1z)), (0, .ref (mA 0)), (1, .int (iI f)), (2, .int (iI g))]) hx hb dX7_free_75 hl (k := 3) rfl (by decide) rfl (fun ls hl => ?_)
                refine lv_goto (tgt := 23) hx hb dX7_free_78 (by decide) ?_
                exact ih_4 (1, (x + 1), mo_15, moo_16, moa_17, mp_18, mpp_19, mfi_20, mpl_21, mpo_22) (by (try dsimp only); exact ⟨by omega, by
                rw [freeB_s _ _ hs_.1, ← ho1, ← ho2]
                by_cases q : freeB (fun x => (sem mk mg x mls ms f).1) (fun x => (sem mk mg x mls ms g).1) x.toNat = true
                · rw [if_pos q] at hw2
                  rw [q, Bool.true_and]
                  by_cases q2 : o1 = 4 ∨ o2 = 4 ∨ o1 = o2
                  · rw [if_pos (decide_eq_true q2)] <;> omega
                  · rw [if_neg (by rw [decide_eq_false q2]; decide)] <;> omega
                · rw [if_neg q] at hw2
                  rw [Bool.eq_false_iff.mpr q, Bool.false_and]
                  show _ = (0 : Int)
                  omega⟩) (by (try dsimp only); exact (by omega)) _ _ _ hP hD hS (lv_sub hl [0, 1, 4, 5, 6] rfl)
              ·
                refine lv_iload hx hb dX7_free_62 (lv_at hl 1 rfl) ?_
                refine lv_iload hx hb dX7_free_64 (lv_at hl 0 rfl) ?_
                refine n_icmp_ne (tgt := 73) hx hb dX7_free_66 (by decide) (by omega) (fun c_26 => ?_) (fun c_26 => ?_)
                ·
                  refine lv_iconst (v := iI 0) hx hb dX7_free_73 (by decide +kernel) ?_
                  refine lv_istore_n (lv' := [(3, .int (iI 0)), (6, .int (iI o2z)), (5, .int (iI o1z)), (4, .int (iI x)), (0, .ref (mA 0)), (1, .int (iI f)), (2, .int (iI g))]) hx hb dX7_free_74 rfl hl (by decide) rfl (fun ls hl => ?_)
                  refine n_iinc (lv' := [(4, .int (iI (x + 1))), (3, .int (iI 0)), (6, .int (iI o2z)), (5, .int (iI o1z)), (0, .ref (mA 0)), (1, .int (iI f)), (2, .int (iI g))]) hx hb dX7_free_75 hl (k := 3) rfl (by decide) rfl (fun ls hl => ?_)
                  refine lv_goto (tgt := 23) hx hb dX7_free_78 (by decide) ?_
                  exact ih_4 (0, (x + 1), mo_15, moo_16, moa_17, mp_18, mpp_19, mfi_20, mpl_21, mpo_22) (by (try dsimp only); exact ⟨by omega, by
                rw [freeB_s _ _ hs_.1, ← ho1, ← ho2]
                by_cases q : freeB (fun x => (sem mk mg x mls ms f).1) (fun x => (sem mk mg x mls ms g).1) x.toNat = true
                · rw [if_pos q] at hw2
                  rw [q, Bool.true_and]
                  by_cases q2 : o1 = 4 ∨ o2 = 4 ∨ o1 = o2
                  · rw [if_pos (decide_eq_true q2)] <;> omega
                  · rw [if_neg (by rw [decide_eq_false q2]; decide)] <;> omega
                · rw [if_neg q] at hw2
                  rw [Bool.eq_false_iff.mpr q, Bool.false_and]
                  show _ = (0 : Int)
                  omega⟩) (by (try dsimp only); exact (by omega)) _ _ _ hP hD hS (lv_sub hl [0, 1, 4, 5, 6] rfl)
                ·
                  refine lv_iconst (v := iI 1) hx hb dX7_free_69 (by decide +kernel) ?_
                  refine lv_goto (tgt := 74) hx hb dX7_free_70 (by decide) ?_
                  refine lv_istore_n (lv' := [(3, .int (iI 1)), (6, .int (iI o2z)), (5, .int (iI o1z)), (4, .int (iI x)), (0, .ref (mA 0)), (1, .int (iI f)), (2, .int (iI g))]) hx hb dX7_free_74 rfl hl (by decide) rfl (fun ls hl => ?_)
                  refine n_iinc (lv' := [(4, .int (iI (x + 1))), (3, .int (iI 1)), (6, .int (iI o2z)), (5, .int (iI o1z)), (0, .ref (mA 0)), (1, .int (iI f)), (2, .int (iI g))]) hx hb dX7_free_75 hl (k := 3) rfl (by decide) rfl (fun ls hl => ?_)
                  refine lv_goto (tgt := 23) hx hb dX7_free_78 (by decide) ?_
                  exact ih_4 (1, (x + 1), mo_15, moo_16, moa_17, mp_18, mpp_19, mfi_20, mpl_21, mpo_22) (by (try dsimp only); exact ⟨by omega, by
                rw [freeB_s _ _ hs_.1, ← ho1, ← ho2]
                by_cases q : freeB (fun x => (sem mk mg x mls ms f).1) (fun x => (sem mk mg x mls ms g).1) x.toNat = true
                · rw [if_pos q] at hw2
                  rw [q, Bool.true_and]
                  by_cases q2 : o1 = 4 ∨ o2 = 4 ∨ o1 = o2
                  · rw [if_pos (decide_eq_true q2)] <;> omega
                  · rw [if_neg (by rw [decide_eq_false q2]; decide)] <;> omega
                · rw [if_neg q] at hw2
                  rw [Bool.eq_false_iff.mpr q, Bool.false_and]
                  show _ = (0 : Int)
                  omega⟩) (by (try dsimp only); exact (by omega)) _ _ _ hP hD hS (lv_sub hl [0, 1, 4, 5, 6] rfl)
    ·
      refine lv_iconst (v := iI (-1)) hx hb dX7_free_16 (by decide +kernel) ?_
      exact W.iret (v := iI (-1)) hx hb hr (fun t ht hW => ⟨⟨_, (mo, moo, moa, mp, mpp, mfi, mpl, mpo), rfl, congrArg iI (show (-1) = (sFree mn mk mg mls ms f g) from (by unfold sFree; (repeat (first | rw [if_pos (by omega)] | rw [if_neg (by omega)])))), by rw [ht]; exact hP, hD⟩, hS.F ht⟩) hS.2.2 dX7_free_17
set_option maxHeartbeats 4000000 in
set_option maxRecDepth 100000 in
theorem c_X7_more (l : Launch) (D : va_G) (cI cS : ClassId) (mA : Nat → Nat) (mf : Int) (mn : Int) (ml : Int) (mk : Int → Int) (mg : Int → Int) (mls : Int → Int) (ms : Int → Int) (mra : Int) (mrf : Int) (mrk : Int → Int) (mrg : Int → Int) (mrl : Int → Int) (mrs : Int → Int) (mo : Int) (moo : Int → Int) (moa : Int → Int) (mp : Int) (mpp : Int → Int) (mfi : Int) (mpl : Int) (mpo : Int → Int) (mro : Int → Int) (mdp : Int) (mdf : Int) (mhg : Int → Int) (mhk : Int → Int) (mR : Int) (mRf : Int → Int) (mRo : Int → Int) (mss : Int → Int) (msl : Int → Int) (msh : Int → Int) (mha : Int → Int) (mt : Int) (sz : Nat) (f : Int) (g : Int) (hok : okP mn mls ms) (hkk : okK mn mk mg ml) (hfr : -2147483648 ≤ f ∧ f < 2147483648) (hgr : -2147483648 ≤ g ∧ g < 2147483648) : Met l yX7_more wsX7_more ({ frames := 5, cells := 0, slots := 0, locals := 113 }) (cP D cI cS (W_M cI cS mA mf mn ml mk mg mls ms mra mrf mrk mrg mrl mrs mo moo moa mp mpp mfi mpl mpo mro mdp mdf mhg mhk mR mRf mRo mss msl msh mha mt) sz [.ref (mA 0), .int (iI f), .int (iI g)]) (va_Qi (fun (r : Int32) (u : Int × (Int → Int) × (Int → Int) × Int × (Int → Int) × Int × Int × (Int → Int)) => r = iI (sMore mn mk mg mls ms f g)) (fun (u : Int × (Int → Int) × (Int → Int) × Int × (Int → Int) × Int × Int × (Int → Int)) t => cB D (va_A (W_M cI cS mA mf mn ml mk mg mls ms mra mrf mrk mrg mrl mrs mo moo moa mp mpp mfi mpl mpo mro mdp mdf mhg mhk mR mRf mRo mss msl msh mha mt) sz) (W_M cI cS mA mf mn ml mk mg mls ms mra mrf mrk mrg mrl mrs u.1 u.2.1 u.2.2.1 u.2.2.2.1 u.2.2.2.2.1 u.2.2.2.2.2.1 u.2.2.2.2.2.2.1 u.2.2.2.2.2.2.2 mro mdp mdf mhg mhk mR mRf mRo mss msl msh mha mt) t) (va_A (W_M cI cS mA mf mn ml mk mg mls ms mra mrf mrk mrg mrl mrs mo moo moa mp mpp mfi mpl mpo mro mdp mdf mhg mhk mR mRf mRo mss msl msh mha mt) sz)) 0 0 (va_A (W_M cI cS mA mf mn ml mk mg mls ms mra mrf mrk mrg mrl mrs mo moo moa mp mpp mfi mpl mpo mro mdp mdf mhg mhk mR mRf mRo mss msl msh mha mt) sz) := by
  refine Met.ofW (cc := cX7_more) (maxL := 6) (ret := (some .int)) (by decide) rfl ?_
  intro p e s m args below meth c_ s₁ B hml hv
  obtain ⟨rfl, hsz, hP, hK, hD0⟩ := hv
  have hx := B.exec
  have hb := B.bytes
  have hr := B.returns
  have hts := atoms_spec (ws := wsX7_more) B.pre
  have hown : s.vm.findClass RX7 = some m.cls := findClass_of_methodNamed B.named
  have hlocks := B.notSynchronized
  subst hsz
  have hD := hD0.self (sz := s.heap.size)
  generalize hAe : va_A (W_M cI cS mA mf mn ml mk mg mls ms mra mrf mrk mrg mrl mrs mo moo moa mp mpp mfi mpl mpo mro mdp mdf mhg mhk mR mRf mRo mss msl msh mha mt) s.heap.size = A at hD ⊢
  have hA : ∀ q : Nat, s.heap.size ≤ q → A q := fun q h => by rw [← hAe]; exact Or.inr h
  have hS : va_S A s.heap s.heap [] := va_S.rf
  have hP : va_P D vwCl (W_M cI cS mA mf mn ml mk mg mls ms mra mrf mrk mrg mrl mrs mo moo moa mp mpp mfi mpl mpo mro mdp mdf mhg mhk mR mRf mRo mss msl msh mha mt) s.heap := hP
  have hl := lv_entry ([.ref (mA 0), .int (iI f), .int (iI g)] : List Value) (n := 6) (Nat.le_of_ble_eq_true rfl)
  rw [lg_entry_eq]
  generalize (lg_sl ([.ref (mA 0), .int (iI f), .int (iI g)] : List Value) ++ List.replicate (6 - (lg_sl ([.ref (mA 0), .int (iI f), .int (iI g)] : List Value)).length) Slot.unset).toArray = ls at hl ⊢
  have hl : lv_has ls 6 [(0, .ref (mA 0)), (1, .int (iI f)), (2, .int (iI g))] := hl
  have hmn := hok.1
  have hln := hok.2.1
  refine lv_aload_n hx hb dX7_more_0 rfl (lv_at hl 0 rfl) ?_
  refine lv_iload_n hx hb dX7_more_1 rfl (lv_at hl 1 rfl) ?_
  refine x_callVi (As := [.int (iI f)]) (rest := []) ⟨hx, hb, hml, hown, hts⟩ (c_X7_noFunction l D cI cS mA mf mn ml mk mg mls ms mra mrf mrk mrg mrl mrs mo moo moa mp mpp mfi mpl mpo mro mdp mdf mhg mhk mR mRf mRo mss msl msh mha mt s.heap.size f (by first | assumption | omega) (by first | assumption | omega)) (cwV 1 hts gX7_more_X7_noFunction rfl rfl rfl (by decide +kernel) ⟨Nat.le_of_ble_eq_true rfl, Nat.le_of_ble_eq_true rfl⟩) hK hP hD hS hA [0, 1, 2, 3, 4, 5, 6, 7, 8, 9, 10, 11, 12, 13, 14, 15, 16, 17, 18, 19, 20, 21] [] (wr := ([] : va_W)) rfl rfl (by decide) (by decide) (by decide) 0 7 rfl rfl rfl [0, 1, 2, 3, 4, 5, 6, 7, 8, 9, 10, 11, 12, 13, 14, 15, 16, 17, 18, 19, 20, 21] (fun (u : Unit) => (W_M cI cS mA mf mn ml mk mg mls ms mra mrf mrk mrg mrl mrs mo moo moa mp mpp mfi mpl mpo mro mdp mdf mhg mhk mR mRf mRo mss msl msh mha mt)) (fun _ => rfl) (by decide) rfl hl.1 rfl (Nat.le_of_ble_eq_true rfl) ⟨Nat.zero_le _, Nat.zero_le _⟩ dX7_more_2 (fun r_ u_ H locs hw hP hD hS => ?_)
  try dsimp only at hw
  subst hw
  have hP : va_P D vwCl (W_M cI cS mA mf mn ml mk mg mls ms mra mrf mrk mrg mrl mrs mo moo moa mp mpp mfi mpl mpo mro mdp mdf mhg mhk mR mRf mRo mss msl msh mha mt) H := hP
  have hD : va_D A (W_M cI cS mA mf mn ml mk mg mls ms mra mrf mrk mrg mrl mrs mo moo moa mp mpp mfi mpl mpo mro mdp mdf mhg mhk mR mRf mRo mss msl msh mha mt) := hD
  refine n_if_b2 (tgt := 16) hx hb dX7_more_5 (by decide)  (fun c_1 => ?_) (fun c_1 => ?_)
  ·
    refine lv_iconst (v := iI (-1)) hx hb dX7_more_16 (by decide +kernel) ?_
    exact W.iret (v := iI (-1)) hx hb hr (fun t ht hW => ⟨⟨_, (mo, moo, moa, mp, mpp, mfi, mpl, mpo), rfl, congrArg iI (show (-1) = (sMore mn mk mg mls ms f g) from (by unfold sMore; (repeat (first | rw [if_pos (by omega)] | rw [if_neg (by omega)])))), by rw [ht]; exact hP, hD⟩, hS.F ht⟩) hS.2.2 dX7_more_17
  ·
    refine lv_aload_n hx hb dX7_more_8 rfl (lv_at hl 0 rfl) ?_
    refine lv_iload_n hx hb dX7_more_9 rfl (lv_at hl 2 rfl) ?_
    refine x_callVi (As := [.int (iI g)]) (rest := []) ⟨hx, hb, hml, hown, hts⟩ (c_X7_noFunction l D cI cS mA mf mn ml mk mg mls ms mra mrf mrk mrg mrl mrs mo moo moa mp mpp mfi mpl mpo mro mdp mdf mhg mhk mR mRf mRo mss msl msh mha mt H.size g (by first | assumption | omega) (by first | assumption | omega)) (cwV 1 hts gX7_more_X7_noFunction rfl rfl rfl (by decide +kernel) ⟨Nat.le_of_ble_eq_true rfl, Nat.le_of_ble_eq_true rfl⟩) hK hP hD hS hA [0, 1, 2, 3, 4, 5, 6, 7, 8, 9, 10, 11, 12, 13, 14, 15, 16, 17, 18, 19, 20, 21] [] (wr := ([] : va_W)) rfl rfl (by decide) (by decide) (by decide) 0 7 rfl rfl rfl [0, 1, 2, 3, 4, 5, 6, 7, 8, 9, 10, 11, 12, 13, 14, 15, 16, 17, 18, 19, 20, 21] (fun (u : Unit) => (W_M cI cS mA mf mn ml mk mg mls ms mra mrf mrk mrg mrl mrs mo moo moa mp mpp mfi mpl mpo mro mdp mdf mhg mhk mR mRf mRo mss msl msh mha mt)) (fun _ => rfl) (by decide) rfl hl.1 rfl (Nat.le_of_ble_eq_true rfl) ⟨Nat.zero_le _, Nat.zero_le _⟩ dX7_more_10 (fun r_ u_ H locs hw hP hD hS => ?_)
    try dsimp only at hw
    subst hw
    have hP : va_P D vwCl (W_M cI cS mA mf mn ml mk mg mls ms mra mrf mrk mrg mrl mrs mo moo moa mp mpp mfi mpl mpo mro mdp mdf mhg mhk mR mRf mRo mss msl msh mha mt) H := hP
    have hD : va_D A (W_M cI cS mA mf mn ml mk mg mls ms mra mrf mrk mrg mrl mrs mo moo moa mp mpp mfi mpl mpo mro mdp mdf mhg mhk mR mRf mRo mss msl msh mha mt) := hD
    refine n_if_b1 (tgt := 18) hx hb dX7_more_13 (by decide)  (fun c_2 => ?_) (fun c_2 => ?_)
    ·
      have hf : 0 ≤ f ∧ f < mn := by omega
      have hg : 0 ≤ g ∧ g < mn := by omega
      refine lv_iconst (v := iI 0) hx hb dX7_more_18 (by decide +kernel) ?_
      refine lv_istore_n (lv' := [(3, .int (iI 0)), (0, .ref (mA 0)), (1, .int (iI f)), (2, .int (iI g))]) hx hb dX7_more_19 rfl hl (by decide) rfl (fun ls hl => ?_)
      refine lv_iconst (v := iI 0) hx hb dX7_more_20 (by decide +kernel) ?_
      refine lv_istore (lv' := [(4, .int (iI 0)), (3, .int (iI 0)), (0, .ref (mA 0)), (1, .int (iI f)), (2, .int (iI g))]) hx hb dX7_more_21 hl (by decide) rfl (fun ls hl => ?_)
      refine x_loop (σ := Int × Int × Int × (Int → Int) × (Int → Int) × Int × (Int → Int) × Int × Int × (Int → Int)) (fun (xv_ : Int × Int × Int × (Int → Int) × (Int → Int) × Int × (Int → Int) × Int × Int × (Int → Int)) => match xv_ with | (n, x, mo9, moo9, moa9, mp9, mpp9, mfi9, mpl9, mpo9) => (0 ≤ x ∧ x ≤ 16) ∧ (n = moreGo (fun x => (sem mk mg x mls ms f).1) (fun x => (sem mk mg x mls ms g).1) x.toNat)) (fun (xv_ : Int × Int × Int × (Int → Int) × (Int → Int) × Int × (Int → Int) × Int × Int × (Int → Int)) => match xv_ with | (n, x, mo9, moo9, moa9, mp9, mpp9, mfi9, mpl9, mpo9) => (16 - x).toNat) (fun (xv_ : Int × Int × Int × (Int → Int) × (Int → Int) × Int × (Int → Int) × Int × Int × (Int → Int)) => match xv_ with | (n, x, mo9, moo9, moa9, mp9, mpp9, mfi9, mpl9, mpo9) => (W_M cI cS mA mf mn ml mk mg mls ms mra mrf mrk mrg mrl mrs mo9 moo9 moa9 mp9 mpp9 mfi9 mpl9 mpo9 mro mdp mdf mhg mhk mR mRf mRo mss msl msh mha mt)) (fun (xv_ : Int × Int × Int × (Int → Int) × (Int → Int) × Int × (Int → Int) × Int × Int × (Int → Int)) => match xv_ with | (n, x, mo9, moo9, moa9, mp9, mpp9, mfi9, mpl9, mpo9) => [(4, .int (iI x)), (3, .int (iI n)), (0, .ref (mA 0)), (1, .int (iI f)), (2, .int (iI g))]) (nL := 6) ?step_3 (0, 0, mo, moo, moa, mp, mpp, mfi, mpl, mpo) (by (try dsimp only); exact ⟨by omega, rfl⟩) hP hD hS (lv_sub hl [0, 1, 2, 3, 4] rfl)
      case step_3 =>
        intro xv_ hI ih H locs ls hP hD hS hl
        obtain ⟨n, x, mo9, moo9, moa9, mp9, mpp9, mfi9, mpl9, mpo9⟩ := xv_
        try dsimp only at hI ih
        obtain ⟨hs_, hm⟩ := hI
        have hP : va_P D vwCl (W_M cI cS mA mf mn ml mk mg mls ms mra mrf mrk mrg mrl mrs mo9 moo9 moa9 mp9 mpp9 mfi9 mpl9 mpo9 mro mdp mdf mhg mhk mR mRf mRo mss msl msh mha mt) H := hP
        have hD : va_D A (W_M cI cS mA mf mn ml mk mg mls ms mra mrf mrk mrg mrl mrs mo9 moo9 moa9 mp9 mpp9 mfi9 mpl9 mpo9 mro mdp mdf mhg mhk mR mRf mRo mss msl msh mha mt) := hD
        have hl : lv_has ls 6 [(4, .int (iI x)), (3, .int (iI n)), (0, .ref (mA 0)), (1, .int (iI f)), (2, .int (iI g))] := hl
        have ih_4 := ih
        refine lv_iload hx hb dX7_more_23 (lv_at hl 0 rfl) ?_
        refine lv_bipush (v := iI 16) hx hb dX7_more_25 (by decide +kernel) ?_
        refine n_icmp_ge (tgt := 70) hx hb dX7_more_27 (by decide) (by omega) (fun c_5 => ?_) (fun c_5 => ?_)
        ·
          refine lv_iload_n hx hb dX7_more_70 rfl (lv_at hl 1 rfl) ?_
          exact W.iret (v := iI n) hx hb hr (fun t ht hW => ⟨⟨_, (mo9, moo9, moa9, mp9, mpp9, mfi9, mpl9, mpo9), rfl, congrArg iI (show n = (sMore mn mk mg mls ms f g) from (by unfold sMore; rw [if_pos (by omega), hm, show x = 16 by omega]; rfl)), by rw [ht]; exact hP, hD⟩, hS.F ht⟩) hS.2.2 dX7_more_71
        ·
          refine lv_aload_n hx hb dX7_more_30 rfl (lv_at hl 2 rfl) ?_
          refine lv_iload_n hx hb dX7_more_31 rfl (lv_at hl 3 rfl) ?_
          refine lv_iload hx hb dX7_more_32 (lv_at hl 0 rfl) ?_
          refine x_callVi (As := [.int (iI f), .int (iI x)]) (rest := []) ⟨hx, hb, hml, hown, hts⟩ (c_X7_runsBy l D cI cS mA mf mn ml mk mg mls ms mra mrf mrk mrg mrl mrs mo9 moo9 moa9 mp9 mpp9 mfi9 mpl9 mpo9 mro mdp mdf mhg mhk mR mRf mRo mss msl msh mha mt H.size f x (by first | assumption | omega) ⟨hkk.1, by omega⟩ (by first | assumption | omega)) (cwV 2 hts gX7_more_X7_runsBy rfl rfl rfl (by decide +kernel) ⟨Nat.le_of_ble_eq_true rfl, Nat.le_of_ble_eq_true rfl⟩) hK hP hD hS hA [0, 1, 2, 3, 4, 5, 6, 7, 8, 9, 10, 11, 12, 13, 14, 15, 16, 17, 18, 19, 20, 21] [] (wr := ([] : va_W)) rfl rfl (by decide) (by decide) (by decide) 0 7 rfl rfl rfl [0, 1, 2, 3, 4, 5, 6, 7, 8, 9, 10, 11, 12, 13, 14, 15, 16, 17, 18, 19, 20, 21] (fun (u : Int × (Int → Int) × (Int → Int) × Int × (Int → Int) × Int × Int × (Int → Int)) => (W_M cI cS mA mf mn ml mk mg mls ms mra mrf mrk mrg mrl mrs u.1 u.2.1 u.2.2.1 u.2.2.2.1 u.2.2.2.2.1 u.2.2.2.2.2.1 u.2.2.2.2.2.2.1 u.2.2.2.2.2.2.2 mro mdp mdf mhg mhk mR mRf mRo mss msl msh mha mt)) (fun _ => rfl) (by decide) rfl hl.1 rfl (Nat.le_of_ble_eq_true rfl) ⟨Nat.zero_le _, Nat.zero_le _⟩ dX7_more_34 (fun r_ u_ H locs hw hP hD hS => ?_)
          obtain ⟨mo_6, moo_7, moa_8, mp_9, mpp_10, mfi_11, mpl_12, mpo_13⟩ := u_
          try dsimp only at hw
          subst hw
          have hP : va_P D vwCl (W_M cI cS mA mf mn ml mk mg mls ms mra mrf mrk mrg mrl mrs mo_6 moo_7 moa_8 mp_9 mpp_10 mfi_11 mpl_12 mpo_13 mro mdp mdf mhg mhk mR mRf mRo mss msl msh mha mt) H := hP
          have hD : va_D A (W_M cI cS mA mf mn ml mk mg mls ms mra mrf mrk mrg mrl mrs mo_6 moo_7 moa_8 mp_9 mpp_10 mfi_11 mpl_12 mpo_13 mro mdp mdf mhg mhk mR mRf mRo mss msl msh mha mt) := hD
          obtain ⟨o1z, h_o1z⟩ : ∃ z_ : Int, z_ = (if (sem mk mg x mls ms f).1 = 4 then (-9) else (sem mk mg x mls ms f).1) := ⟨_, rfl⟩
          rw [← h_o1z]
          obtain ⟨o1, ho1⟩ : ∃ z_ : Int, z_ = (sem mk mg x mls ms f).1 := ⟨_, rfl⟩
          have ho1r := (sem_ok (K := mk) (G := mg) (L := x) hok f (by omega) (by omega)).1
          rw [← ho1] at ho1r h_o1z
          refine lv_istore (lv' := [(5, .int (iI o1z)), (4, .int (iI x)), (3, .int (iI n)), (0, .ref (mA 0)), (1, .int (iI f)), (2, .int (iI g))]) hx hb dX7_more_37 hl (by decide) rfl (fun ls hl => ?_)
          refine lv_iload_n hx hb dX7_more_39 rfl (lv_at hl 2 rfl) ?_
          refine lv_iload hx hb dX7_more_40 (lv_at hl 0 rfl) ?_
          refine n_if_lt (tgt := 61) hx hb dX7_more_42 (by decide) (by omega) (fun c_14 => ?_) (fun c_14 => ?_)
          ·
            obtain ⟨o2, ho2⟩ : ∃ z_ : Int, z_ = (sem mk mg x mls ms g).1 := ⟨_, rfl⟩
            refine lv_iconst (v := iI 0) hx hb dX7_more_61 (by decide +kernel) ?_
            refine n_iadd hx hb dX7_more_62 ?_
            refine lv_istore_n (lv' := [(3, .int (iI (n + 0))), (5, .int (iI o1z)), (4, .int (iI x)), (0, .ref (mA 0)), (1, .int (iI f)), (2, .int (iI g))]) hx hb dX7_more_63 rfl hl (by decide) rfl (fun ls hl => ?_)
            refine n_iinc (lv' := [(4, .int (iI (x + 1))), (3, .int (iI (n + 0))), (5, .int (iI o1z)), (0, .ref (mA 0)), (1, .int (iI f)), (2, .int (iI g))]) hx hb dX7_more_64 hl (k := 2) rfl (by decide) rfl (fun ls hl => ?_)
            refine lv_goto (tgt := 23) hx hb dX7_more_67 (by decide) ?_
            exact ih_4 ((n + 0), (x + 1), mo_6, moo_7, moa_8, mp_9, mpp_10, mfi_11, mpl_12, mpo_13) (by (try dsimp only); exact ⟨by omega, by rw [moreGo_s _ _ hs_.1, ← hm, ← ho1, ← ho2]; omega⟩) (by (try dsimp only); exact (by omega)) _ _ _ hP hD hS (lv_sub hl [0, 1, 3, 4, 5] rfl)
          ·
            refine lv_aload_n hx hb dX7_more_45 rfl (lv_at hl 3 rfl) ?_
            refine lv_iload_n hx hb dX7_more_46 rfl (lv_at hl 5 rfl) ?_
            refine lv_iload hx hb dX7_more_47 (lv_at hl 1 rfl) ?_
            refine x_callVi (As := [.int (iI g), .int (iI x)]) (rest := [.int (iI n)]) ⟨hx, hb, hml, hown, hts⟩ (c_X7_runsBy l D cI cS mA mf mn ml mk mg mls ms mra mrf mrk mrg mrl mrs mo_6 moo_7 moa_8 mp_9 mpp_10 mfi_11 mpl_12 mpo_13 mro mdp mdf mhg mhk mR mRf mRo mss msl msh mha mt H.size g x (by first | assumption | omega) ⟨hkk.1, by omega⟩ (by first | assumption | omega)) (cwV 2 hts gX7_more_X7_runsBy rfl rfl rfl (by decide +kernel) ⟨Nat.le_of_ble_eq_true rfl, Nat.le_of_ble_eq_true rfl⟩) hK hP hD hS hA [0, 1, 2, 3, 4, 5, 6, 7, 8, 9, 10, 11, 12, 13, 14, 15, 16, 17, 18, 19, 20, 21] [] (wr := ([] : va_W)) rfl rfl (by decide) (by decide) (by decide) 0 7 rfl rfl rfl [0, 1, 2, 3, 4, 5, 6, 7, 8, 9, 10, 11, 12, 13, 14, 15, 16, 17, 18, 19, 20, 21] (fun (u : Int × (Int → Int) × (Int → Int) × Int × (Int → Int) × Int × Int × (Int → Int)) => (W_M cI cS mA mf mn ml mk mg mls ms mra mrf mrk mrg mrl mrs u.1 u.2.1 u.2.2.1 u.2.2.2.1 u.2.2.2.2.1 u.2.2.2.2.2.1 u.2.2.2.2.2.2.1 u.2.2.2.2.2.2.2 mro mdp mdf mhg mhk mR mRf mRo mss msl msh mha mt)) (fun _ => rfl) (by decide) rfl hl.1 rfl (Nat.le_of_ble_eq_true rfl) ⟨Nat.zero_le _, Nat.zero_le _⟩ dX7_more_49 (fun r_ u_ H locs hw hP hD hS => ?_)
            obtain ⟨mo_15, moo_16, moa_17, mp_18, mpp_19, mfi_20, mpl_21, mpo_22⟩ := u_
            try dsimp only at hw
            subst hw
            have hP : va_P D vwCl (W_M cI cS mA mf mn ml mk mg mls ms mra mrf mrk mrg mrl mrs mo_15 moo_16 moa_17 mp_18 mpp_19 mfi_20 mpl_21 mpo_22 mro mdp mdf mhg mhk mR mRf mRo mss msl msh mha mt) H := hP
            have hD : va_D A (W_M cI cS mA mf mn ml mk mg mls ms mra mrf mrk mrg mrl mrs mo_15 moo_16 moa_17 mp_18 mpp_19 mfi_20 mpl_21 mpo_22 mro mdp mdf mhg mhk mR mRf mRo mss msl msh mha mt) := hD
            obtain ⟨o2z, h_o2z⟩ : ∃ z_ : Int, z_ = (if (sem mk mg x mls ms g).1 = 4 then (-9) else (sem mk mg x mls ms g).1) := ⟨_, rfl⟩
            rw [← h_o2z]
            obtain ⟨o2, ho2⟩ : ∃ z_ : Int, z_ = (sem mk mg x mls ms g).1 := ⟨_, rfl⟩
            have ho2r := (sem_ok (K := mk) (G := mg) (L := x) hok g (by omega) (by omega)).1
            rw [← ho2] at ho2r h_o2z
            refine lv_iload hx hb dX7_more_52 (lv_at hl 0 rfl) ?_
            refine n_icmp_eq (tgt := 61) hx hb dX7_more_54 (by decide) (by omega) (fun c_23 => ?_) (fun c_23 => ?_)
            ·
              refine lv_iconst (v := iI 0) hx hb dX7_more_61 (by decide +kernel) ?_
              refine n_iadd hx hb dX7_more_62 ?_
              refine lv_istore_n (lv' := [(3, .int (iI (n + 0))), (5, .int (iI o1z)), (4, .int (iI x)), (0, .ref (mA 0)), (1, .int (iI f)), (2, .int (iI g))]) hx hb dX7_more_63 rfl hl (by decide) rfl (fun ls hl => ?_)
              refine n_iinc (lv' := [(4, .int (iI (x + 1))), (3, .int (iI (n + 0))), (5, .int (iI o1z)), (0, .ref (mA 0)), (1, .int (iI f)), (2, .int (iI g))]) hx hb dX7_more_64 hl (k := 2) rfl (by decide) rfl (fun ls hl => ?_)
              refine lv_goto (tgt := 23) hx hb dX7_more_67 (by decide) ?_
              exact ih_4 ((n + 0), (x + 1), mo_15, moo_16, moa_17, mp_18, mpp_19, mfi_20, mpl_21, mpo_22) (by (try dsimp only); exact ⟨by omega, by rw [moreGo_s _ _ hs_.1, ← hm, ← ho1, ← ho2]; omega⟩) (by (try dsimp only); exact (by omega)) _ _ _ hP hD hS (lv_sub hl [0, 1, 3, 4, 5] rfl)
            ·
              refine lv_iconst (v := iI 1) hx hb dX7_more_57 (by decide +kernel) ?_
              refine lv_goto (tgt := 62) hx hb dX7_more_58 (by decide) ?_
              refine n_iadd hx hb dX7_more_62 ?_
              refine lv_istore_n (lv' := [(3, .int (iI (n + 1))), (5, .int (iI o1z)), (4, .int (iI x)), (0, .ref (mA 0)), (1, .int (iI f)), (2, .int (iI g))]) hx hb dX7_more_63 rfl hl (by decide) rfl (fun ls hl => ?_)
              refine n_iinc (lv' := [(4, .int (iI (x + 1))), (3, .int (iI (n + 1))), (5, .int (iI o1z)), (0, .ref (mA 0)), (1, .int (iI f)), (2, .int (iI g))]) hx hb dX7_more_64 hl (k := 2) rfl (by decide) rfl (fun ls hl => ?_)
              refine lv_goto (tgt := 23) hx hb dX7_more_67 (by decide) ?_
              exact ih_4 ((n + 1), (x + 1), mo_15, moo_16, moa_17, mp_18, mpp_19, mfi_20, mpl_21, mpo_22) (by (try dsimp only); exact ⟨by omega, by rw [moreGo_s _ _ hs_.1, ← hm, ← ho1, ← ho2]; omega⟩) (by (try dsimp only); exact (by omega)) _ _ _ hP hD hS (lv_sub hl [0, 1, 3, 4, 5] rfl)
    ·
      refine lv_iconst (v := iI (-1)) hx hb dX7_more_16 (by decide +kernel) ?_
      exact W.iret (v := iI (-1)) hx hb hr (fun t ht hW => ⟨⟨_, (mo, moo, moa, mp, mpp, mfi, mpl, mpo), rfl, congrArg iI (show (-1) = (sMore mn mk mg mls ms f g) from (by unfold sMore; (repeat (first | rw [if_pos (by omega)] | rw [if_neg (by omega)])))), by rw [ht]; exact hP, hD⟩, hS.F ht⟩) hS.2.2 dX7_more_17
set_option maxHeartbeats 4000000 in
set_option maxRecDepth 100000 in
theorem c_X7_reading (l : Launch) (D : va_G) (cI cS : ClassId) (mA : Nat → Nat) (mf : Int) (mn : Int) (ml : Int) (mk : Int → Int) (mg : Int → Int) (mls : Int → Int) (ms : Int → Int) (mra : Int) (mrf : Int) (mrk : Int → Int) (mrg : Int → Int) (mrl : Int → Int) (mrs : Int → Int) (mo : Int) (moo : Int → Int) (moa : Int → Int) (mp : Int) (mpp : Int → Int) (mfi : Int) (mpl : Int) (mpo : Int → Int) (mro : Int → Int) (mdp : Int) (mdf : Int) (mhg : Int → Int) (mhk : Int → Int) (mR : Int) (mRf : Int → Int) (mRo : Int → Int) (mss : Int → Int) (msl : Int → Int) (msh : Int → Int) (mha : Int → Int) (mt : Int) (sz : Nat) (f : Int) (x : Int) (hmn : 0 ≤ mn ∧ mn ≤ 5) (hmR : 0 ≤ mR ∧ mR ≤ 8) (hfr : -2147483648 ≤ f ∧ f < 2147483648) (hxr : -2147483648 ≤ x ∧ x < 2147483648) : Met l yX7_reading wsX7_reading ({ frames := 2, cells := 0, slots := 0, locals := 46 }) (cP D cI cS (W_M cI cS mA mf mn ml mk mg mls ms mra mrf mrk mrg mrl mrs mo moo moa mp mpp mfi mpl mpo mro mdp mdf mhg mhk mR mRf mRo mss msl msh mha mt) sz [.ref (mA 0), .int (iI f), .int (iI x)]) (va_Qi (fun (r : Int32) (u : Unit) => r = iI (if 0 ≤ f ∧ f < mn then (if 0 ≤ x ∧ x ≤ 4 then (if mR < 8 then mR else (-4)) else (-2)) else (-1))) (fun (u : Unit) t => cB D (va_A (W_M cI cS mA mf mn ml mk mg mls ms mra mrf mrk mrg mrl mrs mo moo moa mp mpp mfi mpl mpo mro mdp mdf mhg mhk mR mRf mRo mss msl msh mha mt) sz) (W_M cI cS mA mf mn ml mk mg mls ms mra mrf mrk mrg mrl mrs mo moo moa mp mpp mfi mpl mpo mro mdp mdf mhg mhk (if (0 ≤ f ∧ f < mn) ∧ (0 ≤ x ∧ x ≤ 4) ∧ mR < 8 then mR + 1 else mR) (if (0 ≤ f ∧ f < mn) ∧ (0 ≤ x ∧ x ≤ 4) ∧ mR < 8 then updI mRf mR f else mRf) (if (0 ≤ f ∧ f < mn) ∧ (0 ≤ x ∧ x ≤ 4) ∧ mR < 8 then updI mRo mR x else mRo) mss msl msh mha mt) t) (va_A (W_M cI cS mA mf mn ml mk mg mls ms mra mrf mrk mrg mrl mrs mo moo moa mp mpp mfi mpl mpo mro mdp mdf mhg mhk mR mRf mRo mss msl msh mha mt) sz)) 0 0 (va_A (W_M cI cS mA mf mn ml mk mg mls ms mra mrf mrk mrg mrl mrs mo moo moa mp mpp mfi mpl mpo mro mdp mdf mhg mhk mR mRf mRo mss msl msh mha mt) sz) := by
  refine Met.ofW (cc := cX7_reading) (maxL := 3) (ret := (some .int)) (by decide) rfl ?_
  intro p e s m args below meth c_ s₁ B hml hv
  obtain ⟨rfl, hsz, hP, hK, hD0⟩ := hv
  have hx := B.exec
  have hb := B.bytes
  have hr := B.returns
  have hts := atoms_spec (ws := wsX7_reading) B.pre
  have hown : s.vm.findClass RX7 = some m.cls := findClass_of_methodNamed B.named
  have hlocks := B.notSynchronized
  subst hsz
  have hD := hD0.self (sz := s.heap.size)
  generalize hAe : va_A (W_M cI cS mA mf mn ml mk mg mls ms mra mrf mrk mrg mrl mrs mo moo moa mp mpp mfi mpl mpo mro mdp mdf mhg mhk mR mRf mRo mss msl msh mha mt) s.heap.size = A at hD ⊢
  have hA : ∀ q : Nat, s.heap.size ≤ q → A q := fun q h => by rw [← hAe]; exact Or.inr h
  have hS : va_S A s.heap s.heap [] := va_S.rf
  have hP : va_P D vwCl (W_M cI cS mA mf mn ml mk mg mls ms mra mrf mrk mrg mrl mrs mo moo moa mp mpp mfi mpl mpo mro mdp mdf mhg mhk mR mRf mRo mss msl msh mha mt) s.heap := hP
  have hl := lv_entry ([.ref (mA 0), .int (iI f), .int (iI x)] : List Value) (n := 3) (Nat.le_of_ble_eq_true rfl)
  rw [lg_entry_eq]
  generalize (lg_sl ([.ref (mA 0), .int (iI f), .int (iI x)] : List Value) ++ List.replicate (3 - (lg_sl ([.ref (mA 0), .int (iI f), .int (iI x)] : List Value)).length) Slot.unset).toArray = ls at hl ⊢
  have hl : lv_has ls 3 [(0, .ref (mA 0)), (1, .int (iI f)), (2, .int (iI x))] := hl
  have ck_200 := hts (.constantLong RX7 200 (lI 4)) (by decide +kernel)
  have fl_145 := hts (.fieldLink RX7 145 "ActRowsModel" "readings" "I") (by decide +kernel)
  have iw_7 : ∀ w ∈ wsX70, w ∈ wsX7_reading := by decide +kernel
  have fl_55 := hts (.fieldLink RX7 55 "ActRowsModel" "readingOf" "[I") (by decide +kernel)
  have fl_58 := hts (.fieldLink RX7 58 "ActRowsModel" "readingIs" "[I") (by decide +kernel)
  refine lv_aload_n hx hb dX7_reading_0 rfl (lv_at hl 0 rfl) ?_
  refine lv_iload_n hx hb dX7_reading_1 rfl (lv_at hl 1 rfl) ?_
  refine x_callVi (As := [.int (iI f)]) (rest := []) ⟨hx, hb, hml, hown, hts⟩ (c_X7_noFunction l D cI cS mA mf mn ml mk mg mls ms mra mrf mrk mrg mrl mrs mo moo moa mp mpp mfi mpl mpo mro mdp mdf mhg mhk mR mRf mRo mss msl msh mha mt s.heap.size f (by first | assumption | omega) (by first | assumption | omega)) (cwV 1 hts gX7_reading_X7_noFunction rfl rfl rfl (by decide +kernel) ⟨Nat.le_of_ble_eq_true rfl, Nat.le_of_ble_eq_true rfl⟩) hK hP hD hS hA [0, 1, 2, 3, 4, 5, 6, 7, 8, 9, 10, 11, 12, 13, 14, 15, 16, 17, 18, 19, 20, 21] [] (wr := ([] : va_W)) rfl rfl (by decide) (by decide) (by decide) 0 7 rfl rfl rfl [0, 1, 2, 3, 4, 5, 6, 7, 8, 9, 10, 11, 12, 13, 14, 15, 16, 17, 18, 19, 20, 21] (fun (u : Unit) => (W_M cI cS mA mf mn ml mk mg mls ms mra mrf mrk mrg mrl mrs mo moo moa mp mpp mfi mpl mpo mro mdp mdf mhg mhk mR mRf mRo mss msl msh mha mt)) (fun _ => rfl) (by decide) rfl hl.1 rfl (Nat.le_of_ble_eq_true rfl) ⟨Nat.zero_le _, Nat.zero_le _⟩ dX7_reading_2 (fun r_ u_ H locs hw hP hD hS => ?_)
  try dsimp only at hw
  subst hw
  have hP : va_P D vwCl (W_M cI cS mA mf mn ml mk mg mls ms mra mrf mrk mrg mrl mrs mo moo moa mp mpp mfi mpl mpo mro mdp mdf mhg mhk mR mRf mRo mss msl msh mha mt) H := hP
  have hD : va_D A (W_M cI cS mA mf mn ml mk mg mls ms mra mrf mrk mrg mrl mrs mo moo moa mp mpp mfi mpl mpo mro mdp mdf mhg mhk mR mRf mRo mss msl msh mha mt) := hD
  refine n_if_b1 (tgt := 10) hx hb dX7_reading_5 (by decide)  (fun c_1 => ?_) (fun c_1 => ?_)
  ·
    refine lv_iload_n hx hb dX7_reading_10 rfl (lv_at hl 2 rfl) ?_
    refine n_i2l hx hb (by omega) dX7_reading_11 ?_
    refine lv_lconst (v := lI 0) hx hb dX7_reading_12 (by decide +kernel) ?_
    refine lv_ldc2 hx hb hown ck_200 dX7_reading_13 ?_
    refine x_callSi (As := [.long (lI x), .long (lI 0), .long (lI 4)]) (rest := []) ⟨hx, hb, hml, hown, hts⟩ (c_X7_in l D cI cS H.size x 0 4 (by first | assumption | omega) (by first | assumption | omega) (by first | assumption | omega)) (va_cwS 3 hts gX7_reading_X7_in rfl rfl rfl (by decide +kernel) ⟨Nat.le_of_ble_eq_true rfl, Nat.le_of_ble_eq_true rfl⟩) hK hP hD hS hA [] [0, 1, 2, 3, 4, 5, 6, 7, 8, 9, 10, 11, 12, 13, 14, 15, 16, 17, 18, 19, 20, 21] (wr := [(mA 0, .inr (7, [.int (iI mf), .int (iI mn), .int (iI ml), .ref (mA 1), .ref (mA 2), .ref (mA 3), .ref (mA 4), .int (iI mra), .int (iI mrf), .ref (mA 5), .ref (mA 6), .ref (mA 7), .ref (mA 8), .int (iI mo), .ref (mA 9), .ref (mA 10), .int (iI mp), .ref (mA 11), .int (iI mfi), .int (iI mpl), .ref (mA 12), .ref (mA 13), .int (iI mdp), .int (iI mdf), .ref (mA 14), .ref (mA 15), .int (iI mR), .ref (mA 16), .ref (mA 17), .ref (mA 18), .ref (mA 19), .ref (mA 20), .ref (mA 21), .int (iI mt)])), (mA 1, .inl (cI, 5, .inl (aI mk))), (mA 2, .inl (cI, 5, .inl (aI mg))), (mA 3, .inl (cI, 5, .inl (aI mls))), (mA 4, .inl (cI, 20, .inl (aI ms))), (mA 5, .inl (cI, 5, .inl (aI mrk))), (mA 6, .inl (cI, 5, .inl (aI mrg))), (mA 7, .inl (cI, 5, .inl (aI mrl))), (mA 8, .inl (cI, 20, .inl (aI mrs))), (mA 9, .inl (cI, 5, .inl (aI moo))), (mA 10, .inl (cI, 5, .inl (aI moa))), (mA 11, .inl (cI, 1024, .inl (aI mpp))), (mA 12, .inl (cI, 5, .inl (aI mpo))), (mA 13, .inl (cI, 5, .inl (aI mro))), (mA 14, .inl (cI, 5, .inl (aI mhg))), (mA 15, .inl (cI, 5, .inl (aI mhk))), (mA 16, .inl (cI, 8, .inl (aI mRf))), (mA 17, .inl (cI, 8, .inl (aI mRo))), (mA 18, .inl (cI, 4, .inl (aI mss))), (mA 19, .inl (cI, 4, .inl (aI msl))), (mA 20, .inl (cI, 240, .inl (aI msh))), (mA 21, .inl (cI, 60, .inl (aI mha)))]) rfl rfl (by decide) (by decide) (by decide) [0, 1, 2, 3, 4, 5, 6, 7, 8, 9, 10, 11, 12, 13, 14, 15, 16, 17, 18, 19, 20, 21] (fun (u : Unit) => (W_M cI cS mA mf mn ml mk mg mls ms mra mrf mrk mrg mrl mrs mo moo moa mp mpp mfi mpl mpo mro mdp mdf mhg mhk mR mRf mRo mss msl msh mha mt)) (fun _ => rfl) (by decide) rfl hl.1 rfl (Nat.le_of_ble_eq_true rfl) ⟨Nat.zero_le _, Nat.zero_le _⟩ dX7_reading_16 (fun r_ u_ H locs hw hP hD hS => ?_)
    try dsimp only at hw
    subst hw
    have hP : va_P D vwCl (W_M cI cS mA mf mn ml mk mg mls ms mra mrf mrk mrg mrl mrs mo moo moa mp mpp mfi mpl mpo mro mdp mdf mhg mhk mR mRf mRo mss msl msh mha mt) H := hP
    have hD : va_D A (W_M cI cS mA mf mn ml mk mg mls ms mra mrf mrk mrg mrl mrs mo moo moa mp mpp mfi mpl mpo mro mdp mdf mhg mhk mR mRf mRo mss msl msh mha mt) := hD
    refine n_if_b2 (tgt := 25) hx hb dX7_reading_19 (by decide)  (fun c_2 => ?_) (fun c_2 => ?_)
    ·
      refine lv_aload_n hx hb dX7_reading_25 rfl (lv_at hl 0 rfl) ?_
      refine va_get (D := D) (ci := 7) (v := .int (iI mR)) (C := RX7) (T := TX7) (N := 34) hx hb hts iw_7 hown hK.1 hP 0 rfl rfl 26 (by decide) fl_145 (fun _ h9 => h9) rfl dX7_reading_26 ?_
      refine lv_bipush (v := iI 8) hx hb dX7_reading_29 (by decide +kernel) ?_
      refine n_icmp_ne (tgt := 37) hx hb dX7_reading_31 (by decide) (by omega) (fun c_3 => ?_) (fun c_3 => ?_)
      ·
        refine lv_aload_n hx hb dX7_reading_37 rfl (lv_at hl 0 rfl) ?_
        refine va_get (D := D) (ci := 7) (v := .ref (mA 16)) (C := RX7) (T := TX7) (N := 34) hx hb hts iw_7 hown hK.1 hP 0 rfl rfl 27 (by decide) fl_55 (fun _ h9 => h9) rfl dX7_reading_38 ?_
        refine lv_aload_n hx hb dX7_reading_41 rfl (lv_at hl 0 rfl) ?_
        refine va_get (D := D) (ci := 7) (v := .int (iI mR)) (C := RX7) (T := TX7) (N := 34) hx hb hts iw_7 hown hK.1 hP 0 rfl rfl 26 (by decide) fl_145 (fun _ h9 => h9) rfl dX7_reading_42 ?_
        refine lv_iload_n hx hb dX7_reading_45 rfl (lv_at hl 1 rfl) ?_
        refine n_iast (n := 8) hx hb hK.1 hP hD hS 16 0 rfl rfl (by omega) (by decide) dX7_reading_46 (fun H locs hP hD hS => ?_)
        have hP : va_P D vwCl (W_M cI cS mA mf mn ml mk mg mls ms mra mrf mrk mrg mrl mrs mo moo moa mp mpp mfi mpl mpo mro mdp mdf mhg mhk mR (updI mRf mR f) mRo mss msl msh mha mt) H := hP
        have hD : va_D A (W_M cI cS mA mf mn ml mk mg mls ms mra mrf mrk mrg mrl mrs mo moo moa mp mpp mfi mpl mpo mro mdp mdf mhg mhk mR (updI mRf mR f) mRo mss msl msh mha mt) := hD
        refine lv_aload_n hx hb dX7_reading_47 rfl (lv_at hl 0 rfl) ?_
        refine va_get (D := D) (ci := 7) (v := .ref (mA 17)) (C := RX7) (T := TX7) (N := 34) hx hb hts iw_7 hown hK.1 hP 0 rfl rfl 28 (by decide) fl_58 (fun _ h9 => h9) rfl dX7_reading_48 ?_
        refine lv_aload_n hx hb dX7_reading_51 rfl (lv_at hl 0 rfl) ?_
        refine va_get (D := D) (ci := 7) (v := .int (iI mR)) (C := RX7) (T := TX7) (N := 34) hx hb hts iw_7 hown hK.1 hP 0 rfl rfl 26 (by decide) fl_145 (fun _ h9 => h9) rfl dX7_reading_52 ?_
        refine lv_iload_n hx hb dX7_reading_55 rfl (lv_at hl 2 rfl) ?_
        refine n_iast (n := 8) hx hb hK.1 hP hD hS 17 0 rfl rfl (by omega) (by decide) dX7_reading_56 (fun H locs hP hD hS => ?_)
        have hP : va_P D vwCl (W_M cI cS mA mf mn ml mk mg mls ms mra mrf mrk mrg mrl mrs mo moo moa mp mpp mfi mpl mpo mro mdp mdf mhg mhk mR (updI mRf mR f) (updI mRo mR x) mss msl msh mha mt) H := hP
        have hD : va_D A (W_M cI cS mA mf mn ml mk mg mls ms mra mrf mrk mrg mrl mrs mo moo moa mp mpp mfi mpl mpo mro mdp mdf mhg mhk mR (updI mRf mR f) (updI mRo mR x) mss msl msh mha mt) := hD
        refine lv_aload_n hx hb dX7_reading_57 rfl (lv_at hl 0 rfl) ?_
        refine lv_dup hx hb dX7_reading_58 rfl ?_
        refine va_get (D := D) (ci := 7) (v := .int (iI mR)) (C := RX7) (T := TX7) (N := 34) hx hb hts iw_7 hown hK.1 hP 0 rfl rfl 26 (by decide) fl_145 (fun _ h9 => h9) rfl dX7_reading_59 ?_
        refine lv_iconst (v := iI 1) hx hb dX7_reading_62 (by decide +kernel) ?_
        refine n_iadd hx hb dX7_reading_63 ?_
        refine va_put (D := D) (ci := 7) (v := .int (iI (mR + 1))) (ty := .int) (C := RX7) (T := TX7) (N := 34) hx hb hts iw_7 tyX7 tyX7_ok nmX7 hown hK.1 hP hD hS 0 rfl rfl 26 (by decide) fl_145 (fun _ h9 => h9) rfl (by decide +kernel) rfl rfl (Nat.le_of_ble_eq_true rfl) dX7_reading_64 (fun H locs hP hD hS => ?_)
        have hP : va_P D vwCl (W_M cI cS mA mf mn ml mk mg mls ms mra mrf mrk mrg mrl mrs mo moo moa mp mpp mfi mpl mpo mro mdp mdf mhg mhk (mR + 1) (updI mRf mR f) (updI mRo mR x) mss msl msh mha mt) H := hP
        have hD : va_D A (W_M cI cS mA mf mn ml mk mg mls ms mra mrf mrk mrg mrl mrs mo moo moa mp mpp mfi mpl mpo mro mdp mdf mhg mhk (mR + 1) (updI mRf mR f) (updI mRo mR x) mss msl msh mha mt) := hD
        refine lv_aload_n hx hb dX7_reading_67 rfl (lv_at hl 0 rfl) ?_
        refine va_get (D := D) (ci := 7) (v := .int (iI (mR + 1))) (C := RX7) (T := TX7) (N := 34) hx hb hts iw_7 hown hK.1 hP 0 rfl rfl 26 (by decide) fl_145 (fun _ h9 => h9) rfl dX7_reading_68 ?_
        refine lv_iconst (v := iI 1) hx hb dX7_reading_71 (by decide +kernel) ?_
        refine n_isub hx hb dX7_reading_72 ?_
        have e_4 : ((mR + 1) : Int) = (if (0 ≤ f ∧ f < mn) ∧ (0 ≤ x ∧ x ≤ 4) ∧ mR < 8 then mR + 1 else mR) := (by omega)
        have hP : va_P D vwCl (W_M cI cS mA mf mn ml mk mg mls ms mra mrf mrk mrg mrl mrs mo moo moa mp mpp mfi mpl mpo mro mdp mdf mhg mhk (if (0 ≤ f ∧ f < mn) ∧ (0 ≤ x ∧ x ≤ 4) ∧ mR < 8 then mR + 1 else mR) (updI mRf mR f) (updI mRo mR x) mss msl msh mha mt) H := Eq.mp (congrArg (fun z_ => va_P D vwCl (W_M cI cS mA mf mn ml mk mg mls ms mra mrf mrk mrg mrl mrs mo moo moa mp mpp mfi mpl mpo mro mdp mdf mhg mhk z_ (updI mRf mR f) (updI mRo mR x) mss msl msh mha mt) H) e_4) hP
        have hD : va_D A (W_M cI cS mA mf mn ml mk mg mls ms mra mrf mrk mrg mrl mrs mo moo moa mp mpp mfi mpl mpo mro mdp mdf mhg mhk (if (0 ≤ f ∧ f < mn) ∧ (0 ≤ x ∧ x ≤ 4) ∧ mR < 8 then mR + 1 else mR) (updI mRf mR f) (updI mRo mR x) mss msl msh mha mt) := Eq.mp (congrArg (fun z_ => va_D A (W_M cI cS mA mf mn ml mk mg mls ms mra mrf mrk mrg mrl mrs mo moo moa mp mpp mfi mpl mpo mro mdp mdf mhg mhk z_ (updI mRf mR f) (updI mRo mR x) mss msl msh mha mt)) e_4) hD
        have e_5 : ((updI mRf mR f) : Int → Int) = (if (0 ≤ f ∧ f < mn) ∧ (0 ≤ x ∧ x ≤ 4) ∧ mR < 8 then updI mRf mR f else mRf) := (by first | (rw [if_pos (by omega)]; done) | (rw [if_neg (by omega)]; done))
        have hP : va_P D vwCl (W_M cI cS mA mf mn ml mk mg mls ms mra mrf mrk mrg mrl mrs mo moo moa mp mpp mfi mpl mpo mro mdp mdf mhg mhk (if (0 ≤ f ∧ f < mn) ∧ (0 ≤ x ∧ x ≤ 4) ∧ mR < 8 then mR + 1 else mR) (if (0 ≤ f ∧ f < mn) ∧ (0 ≤ x ∧ x ≤ 4) ∧ mR < 8 then updI mRf mR f else mRf) (updI mRo mR x) mss msl msh mha mt) H := Eq.mp (congrArg (fun z_ => va_P D vwCl (W_M cI cS mA mf mn ml mk mg mls ms mra mrf mrk mrg mrl mrs mo moo moa mp mpp mfi mpl mpo mro mdp mdf mhg mhk (if (0 ≤ f ∧ f < mn) ∧ (0 ≤ x ∧ x ≤ 4) ∧ mR < 8 then mR + 1 else mR) z_ (updI mRo mR x) mss msl msh mha mt) H) e_5) hP
        have hD : va_D A (W_M cI cS mA mf mn ml mk mg mls ms mra mrf mrk mrg mrl mrs mo moo moa mp mpp mfi mpl mpo mro mdp mdf mhg mhk (if (0 ≤ f ∧ f < mn) ∧ (0 ≤ x ∧ x ≤ 4) ∧ mR < 8 then mR + 1 else mR) (if (0 ≤ f ∧ f < mn) ∧ (0 ≤ x ∧ x ≤ 4) ∧ mR < 8 then updI mRf mR f else mRf) (updI mRo mR x) mss msl msh mha mt) := Eq.mp (congrArg (fun z_ => va_D A (W_M cI cS mA mf mn ml mk mg mls ms mra mrf mrk mrg mrl mrs mo moo moa mp mpp mfi mpl mpo mro mdp mdf mhg mhk (if (0 ≤ f ∧ f < mn) ∧ (0 ≤ x ∧ x ≤ 4) ∧ mR < 8 then mR + 1 else mR) z_ (updI mRo mR x) mss msl msh mha mt)) e_5) hD
        have e_6 : ((updI mRo mR x) : Int → Int) = (if (0 ≤ f ∧ f < mn) ∧ (0 ≤ x ∧ x ≤ 4) ∧ mR < 8 then updI mRo mR x else mRo) := (by first | (rw [if_pos (by omega)]; done) | (rw [if_neg (by omega)]; done))
        have hP : va_P D vwCl (W_M cI cS mA mf mn ml mk mg mls ms mra mrf mrk mrg mrl mrs mo moo moa mp mpp mfi mpl mpo mro mdp mdf mhg mhk (if (0 ≤ f ∧ f < mn) ∧ (0 ≤ x ∧ x ≤ 4) ∧ mR < 8 then mR + 1 else mR) (if (0 ≤ f ∧ f < mn) ∧ (0 ≤ x ∧ x ≤ 4) ∧ mR < 8 then updI mRf mR f else mRf) (if (0 ≤ f ∧ f < mn) ∧ (0 ≤ x ∧ x ≤ 4) ∧ mR < 8 then updI mRo mR x else mRo) mss msl msh mha mt) H := Eq.mp (congrArg (fun z_ => va_P D vwCl (W_M cI cS mA mf mn ml mk mg mls ms mra mrf mrk mrg mrl mrs mo moo moa mp mpp mfi mpl mpo mro mdp mdf mhg mhk (if (0 ≤ f ∧ f < mn) ∧ (0 ≤ x ∧ x ≤ 4) ∧ mR < 8 then mR + 1 else mR) (if (0 ≤ f ∧ f < mn) ∧ (0 ≤ x ∧ x ≤ 4) ∧ mR < 8 then updI mRf mR f else mRf) z_ mss msl msh mha mt) H) e_6) hP
        have hD : va_D A (W_M cI cS mA mf mn ml mk mg mls ms mra mrf mrk mrg mrl mrs mo moo moa mp mpp mfi mpl mpo mro mdp mdf mhg mhk (if (0 ≤ f ∧ f < mn) ∧ (0 ≤ x ∧ x ≤ 4) ∧ mR < 8 then mR + 1 else mR) (if (0 ≤ f ∧ f < mn) ∧ (0 ≤ x ∧ x ≤ 4) ∧ mR < 8 then updI mRf mR f else mRf) (if (0 ≤ f ∧ f < mn) ∧ (0 ≤ x ∧ x ≤ 4) ∧ mR < 8 then updI mRo mR x else mRo) mss msl msh mha mt) := Eq.mp (congrArg (fun z_ => va_D A (W_M cI cS mA mf mn ml mk mg mls ms mra mrf mrk mrg mrl mrs mo moo moa mp mpp mfi mpl mpo mro mdp mdf mhg mhk (if (0 ≤ f ∧ f < mn) ∧ (0 ≤ x ∧ x ≤ 4) ∧ mR < 8 then mR + 1 else mR) (if (0 ≤ f ∧ f < mn) ∧ (0 ≤ x ∧ x ≤ 4) ∧ mR < 8 then updI mRf mR f else mRf) z_ mss msl msh mha mt)) e_6) hD
        exact W.iret (v := iI ((mR + 1) - 1)) hx hb hr (fun t ht hW => ⟨⟨_, (), rfl, congrArg iI (show ((mR + 1) - 1) = (if 0 ≤ f ∧ f < mn then (if 0 ≤ x ∧ x ≤ 4 then (if mR < 8 then mR else (-4)) else (-2)) else (-1)) from (by omega)), by rw [ht]; exact hP, hD⟩, hS.F ht⟩) hS.2.2 dX7_reading_73
      ·
        refine lv_bipush (v := iI (-4)) hx hb dX7_reading_34 (by decide +kernel) ?_
        have e_7 : (mR : Int) = (if (0 ≤ f ∧ f < mn) ∧ (0 ≤ x ∧ x ≤ 4) ∧ mR < 8 then mR + 1 else mR) := (by omega)
        have hP : va_P D vwCl (W_M cI cS mA mf mn ml mk mg mls ms mra mrf mrk mrg mrl mrs mo moo moa mp mpp mfi mpl mpo mro mdp mdf mhg mhk (if (0 ≤ f ∧ f < mn) ∧ (0 ≤ x ∧ x ≤ 4) ∧ mR < 8 then mR + 1 else mR) mRf mRo mss msl msh mha mt) H := Eq.mp (congrArg (fun z_ => va_P D vwCl (W_M cI cS mA mf mn ml mk mg mls ms mra mrf mrk mrg mrl mrs mo moo moa mp mpp mfi mpl mpo mro mdp mdf mhg mhk z_ mRf mRo mss msl msh mha mt) H) e_7) hP
        have hD : va_D A (W_M cI cS mA mf mn ml mk mg mls ms mra mrf mrk mrg mrl mrs mo moo moa mp mpp mfi mpl mpo mro mdp mdf mhg mhk (if (0 ≤ f ∧ f < mn) ∧ (0 ≤ x ∧ x ≤ 4) ∧ mR < 8 then mR + 1 else mR) mRf mRo mss msl msh mha mt) := Eq.mp (congrArg (fun z_ => va_D A (W_M cI cS mA mf mn ml mk mg mls ms mra mrf mrk mrg mrl mrs mo moo moa mp mpp mfi mpl mpo mro mdp mdf mhg mhk z_ mRf mRo mss msl msh mha mt)) e_7) hD
        have e_8 : (mRf : Int → Int) = (if (0 ≤ f ∧ f < mn) ∧ (0 ≤ x ∧ x ≤ 4) ∧ mR < 8 then updI mRf mR f else mRf) := (by first | (rw [if_pos (by omega)]; done) | (rw [if_neg (by omega)]; done))
        have hP : va_P D vwCl (W_M cI cS mA mf mn ml mk mg mls ms mra mrf mrk mrg mrl mrs mo moo moa mp mpp mfi mpl mpo mro mdp mdf mhg mhk (if (0 ≤ f ∧ f < mn) ∧ (0 ≤ x ∧ x ≤ 4) ∧ mR < 8 then mR + 1 else mR) (if (0 ≤ f ∧ f < mn) ∧ (0 ≤ x ∧ x ≤ 4) ∧ mR < 8 then updI mRf mR f else mRf) mRo mss msl msh mha mt) H := Eq.mp (congrArg (fun z_ => va_P D vwCl (W_M cI cS mA mf mn ml mk mg mls ms mra mrf mrk mrg mrl mrs mo moo moa mp mpp mfi mpl mpo mro mdp mdf mhg mhk (if (0 ≤ f ∧ f < mn) ∧ (0 ≤ x ∧ x ≤ 4) ∧ mR < 8 then mR + 1 else mR) z_ mRo mss msl msh mha mt) H) e_8) hP
        have hD : va_D A (W_M cI cS mA mf mn ml mk mg mls ms mra mrf mrk mrg mrl mrs mo moo moa mp mpp mfi mpl mpo mro mdp mdf mhg mhk (if (0 ≤ f ∧ f < mn) ∧ (0 ≤ x ∧ x ≤ 4) ∧ mR < 8 then mR + 1 else mR) (if (0 ≤ f ∧ f < mn) ∧ (0 ≤ x ∧ x ≤ 4) ∧ mR < 8 then updI mRf mR f else mRf) mRo mss msl msh mha mt) := Eq.mp (congrArg (fun z_ => va_D A (W_M cI cS mA mf mn ml mk mg mls ms mra mrf mrk mrg mrl mrs mo moo moa mp mpp mfi mpl mpo mro mdp mdf mhg mhk (if (0 ≤ f ∧ f < mn) ∧ (0 ≤ x ∧ x ≤ 4) ∧ mR < 8 then mR + 1 else mR) z_ mRo mss msl msh mha mt)) e_8) hD
        have e_9 : (mRo : Int → Int) = (if (0 ≤ f ∧ f < mn) ∧ (0 ≤ x ∧ x ≤ 4) ∧ mR < 8 then updI mRo mR x else mRo) := (by first | (rw [if_pos (by omega)]; done) | (rw [if_neg (by omega)]; done))
        have hP : va_P D vwCl (W_M cI cS mA mf mn ml mk mg mls ms mra mrf mrk mrg mrl mrs mo moo moa mp mpp mfi mpl mpo mro mdp mdf mhg mhk (if (0 ≤ f ∧ f < mn) ∧ (0 ≤ x ∧ x ≤ 4) ∧ mR < 8 then mR + 1 else mR) (if (0 ≤ f ∧ f < mn) ∧ (0 ≤ x ∧ x ≤ 4) ∧ mR < 8 then updI mRf mR f else mRf) (if (0 ≤ f ∧ f < mn) ∧ (0 ≤ x ∧ x ≤ 4) ∧ mR < 8 then updI mRo mR x else mRo) mss msl msh mha mt) H := Eq.mp (congrArg (fun z_ => va_P D vwCl (W_M cI cS mA mf mn ml mk mg mls ms mra mrf mrk mrg mrl mrs mo moo moa mp mpp mfi mpl mpo mro mdp mdf mhg mhk (if (0 ≤ f ∧ f < mn) ∧ (0 ≤ x ∧ x ≤ 4) ∧ mR < 8 then mR + 1 else mR) (if (0 ≤ f ∧ f < mn) ∧ (0 ≤ x ∧ x ≤ 4) ∧ mR < 8 then updI mRf mR f else mRf) z_ mss msl msh mha mt) H) e_9) hP
        have hD : va_D A (W_M cI cS mA mf mn ml mk mg mls ms mra mrf mrk mrg mrl mrs mo moo moa mp mpp mfi mpl mpo mro mdp mdf mhg mhk (if (0 ≤ f ∧ f < mn) ∧ (0 ≤ x ∧ x ≤ 4) ∧ mR < 8 then mR + 1 else mR) (if (0 ≤ f ∧ f < mn) ∧ (0 ≤ x ∧ x ≤ 4) ∧ mR < 8 then updI mRf mR f else mRf) (if (0 ≤ f ∧ f < mn) ∧ (0 ≤ x ∧ x ≤ 4) ∧ mR < 8 then updI mRo mR x else mRo) mss msl msh mha mt) := Eq.mp (congrArg (fun z_ => va_D A (W_M cI cS mA mf mn ml mk mg mls ms mra mrf mrk mrg mrl mrs mo moo moa mp mpp mfi mpl mpo mro mdp mdf mhg mhk (if (0 ≤ f ∧ f < mn) ∧ (0 ≤ x ∧ x ≤ 4) ∧ mR < 8 then mR + 1 else mR) (if (0 ≤ f ∧ f < mn) ∧ (0 ≤ x ∧ x ≤ 4) ∧ mR < 8 then updI mRf mR f else mRf) z_ mss msl msh mha mt)) e_9) hD
        exact W.iret (v := iI (-4)) hx hb hr (fun t ht hW => ⟨⟨_, (), rfl, congrArg iI (show (-4) = (if 0 ≤ f ∧ f < mn then (if 0 ≤ x ∧ x ≤ 4 then (if mR < 8 then mR else (-4)) else (-2)) else (-1)) from (by omega)), by rw [ht]; exact hP, hD⟩, hS.F ht⟩) hS.2.2 dX7_reading_36
    ·
      refine lv_bipush (v := iI (-2)) hx hb dX7_reading_22 (by decide +kernel) ?_
      have e_10 : (mR : Int) = (if (0 ≤ f ∧ f < mn) ∧ (0 ≤ x ∧ x ≤ 4) ∧ mR < 8 then mR + 1 else mR) := (by omega)
      have hP : va_P D vwCl (W_M cI cS mA mf mn ml mk mg mls ms mra mrf mrk mrg mrl mrs mo moo moa mp mpp mfi mpl mpo mro mdp mdf mhg mhk (if (0 ≤ f ∧ f < mn) ∧ (0 ≤ x ∧ x ≤ 4) ∧ mR < 8 then mR + 1 else mR) mRf mRo mss msl msh mha mt) H := Eq.mp (congrArg (fun z_ => va_P D vwCl (W_M cI cS mA mf mn ml mk mg mls ms mra mrf mrk mrg mrl mrs mo moo moa mp mpp mfi mpl mpo mro mdp mdf mhg mhk z_ mRf mRo mss msl msh mha mt) H) e_10) hP
      have hD : va_D A (W_M cI cS mA mf mn ml mk mg mls ms mra mrf mrk mrg mrl mrs mo moo moa mp mpp mfi mpl mpo mro mdp mdf mhg mhk (if (0 ≤ f ∧ f < mn) ∧ (0 ≤ x ∧ x ≤ 4) ∧ mR < 8 then mR + 1 else mR) mRf mRo mss msl msh mha mt) := Eq.mp (congrArg (fun z_ => va_D A (W_M cI cS mA mf mn ml mk mg mls ms mra mrf mrk mrg mrl mrs mo moo moa mp mpp mfi mpl mpo mro mdp mdf mhg mhk z_ mRf mRo mss msl msh mha mt)) e_10) hD
      have e_11 : (mRf : Int → Int) = (if (0 ≤ f ∧ f < mn) ∧ (0 ≤ x ∧ x ≤ 4) ∧ mR < 8 then updI mRf mR f else mRf) := (by first | (rw [if_pos (by omega)]; done) | (rw [if_neg (by omega)]; done))
      have hP : va_P D vwCl (W_M cI cS mA mf mn ml mk mg mls ms mra mrf mrk mrg mrl mrs mo moo moa mp mpp mfi mpl mpo mro mdp mdf mhg mhk (if (0 ≤ f ∧ f < mn) ∧ (0 ≤ x ∧ x ≤ 4) ∧ mR < 8 then mR + 1 else mR) (if (0 ≤ f ∧ f < mn) ∧ (0 ≤ x ∧ x ≤ 4) ∧ mR < 8 then updI mRf mR f else mRf) mRo mss msl msh mha mt) H := Eq.mp (congrArg (fun z_ => va_P D vwCl (W_M cI cS mA mf mn ml mk mg mls ms mra mrf mrk mrg mrl mrs mo moo moa mp mpp mfi mpl mpo mro mdp mdf mhg mhk (if (0 ≤ f ∧ f < mn) ∧ (0 ≤ x ∧ x ≤ 4) ∧ mR < 8 then mR + 1 else mR) z_ mRo mss msl msh mha mt) H) e_11) hP
      have hD : va_D A (W_M cI cS mA mf mn ml mk mg mls ms mra mrf mrk mrg mrl mrs mo moo moa mp mpp mfi mpl mpo mro mdp mdf mhg mhk (if (0 ≤ f ∧ f < mn) ∧ (0 ≤ x ∧ x ≤ 4) ∧ mR < 8 then mR + 1 else mR) (if (0 ≤ f ∧ f < mn) ∧ (0 ≤ x ∧ x ≤ 4) ∧ mR < 8 then updI mRf mR f else mRf) mRo mss msl msh mha mt) := Eq.mp (congrArg (fun z_ => va_D A (W_M cI cS mA mf mn ml mk mg mls ms mra mrf mrk mrg mrl mrs mo moo moa mp mpp mfi mpl mpo mro mdp mdf mhg mhk (if (0 ≤ f ∧ f < mn) ∧ (0 ≤ x ∧ x ≤ 4) ∧ mR < 8 then mR + 1 else mR) z_ mRo mss msl msh mha mt)) e_11) hD
      have e_12 : (mRo : Int → Int) = (if (0 ≤ f ∧ f < mn) ∧ (0 ≤ x ∧ x ≤ 4) ∧ mR < 8 then updI mRo mR x else mRo) := (by first | (rw [if_pos (by omega)]; done) | (rw [if_neg (by omega)]; done))
      have hP : va_P D vwCl (W_M cI cS mA mf mn ml mk mg mls ms mra mrf mrk mrg mrl mrs mo moo moa mp mpp mfi mpl mpo mro mdp mdf mhg mhk (if (0 ≤ f ∧ f < mn) ∧ (0 ≤ x ∧ x ≤ 4) ∧ mR < 8 then mR + 1 else mR) (if (0 ≤ f ∧ f < mn) ∧ (0 ≤ x ∧ x ≤ 4) ∧ mR < 8 then updI mRf mR f else mRf) (if (0 ≤ f ∧ f < mn) ∧ (0 ≤ x ∧ x ≤ 4) ∧ mR < 8 then updI mRo mR x else mRo) mss msl msh mha mt) H := Eq.mp (congrArg (fun z_ => va_P D vwCl (W_M cI cS mA mf mn ml mk mg mls ms mra mrf mrk mrg mrl mrs mo moo moa mp mpp mfi mpl mpo mro mdp mdf mhg mhk (if (0 ≤ f ∧ f < mn) ∧ (0 ≤ x ∧ x ≤ 4) ∧ mR < 8 then mR + 1 else mR) (if (0 ≤ f ∧ f < mn) ∧ (0 ≤ x ∧ x ≤ 4) ∧ mR < 8 then updI mRf mR f else mRf) z_ mss msl msh mha mt) H) e_12) hP
      have hD : va_D A (W_M cI cS mA mf mn ml mk mg mls ms mra mrf mrk mrg mrl mrs mo moo moa mp mpp mfi mpl mpo mro mdp mdf mhg mhk (if (0 ≤ f ∧ f < mn) ∧ (0 ≤ x ∧ x ≤ 4) ∧ mR < 8 then mR + 1 else mR) (if (0 ≤ f ∧ f < mn) ∧ (0 ≤ x ∧ x ≤ 4) ∧ mR < 8 then updI mRf mR f else mRf) (if (0 ≤ f ∧ f < mn) ∧ (0 ≤ x ∧ x ≤ 4) ∧ mR < 8 then updI mRo mR x else mRo) mss msl msh mha mt) := Eq.mp (congrArg (fun z_ => va_D A (W_M cI cS mA mf mn ml mk mg mls ms mra mrf mrk mrg mrl mrs mo moo moa mp mpp mfi mpl mpo mro mdp mdf mhg mhk (if (0 ≤ f ∧ f < mn) ∧ (0 ≤ x ∧ x ≤ 4) ∧ mR < 8 then mR + 1 else mR) (if (0 ≤ f ∧ f < mn) ∧ (0 ≤ x ∧ x ≤ 4) ∧ mR < 8 then updI mRf mR f else mRf) z_ mss msl msh mha mt)) e_12) hD
      exact W.iret (v := iI (-2)) hx hb hr (fun t ht hW => ⟨⟨_, (), rfl, congrArg iI (show (-2) = (if 0 ≤ f ∧ f < mn then (if 0 ≤ x ∧ x ≤ 4 then (if mR < 8 then mR else (-4)) else (-2)) else (-1)) from (by omega)), by rw [ht]; exact hP, hD⟩, hS.F ht⟩) hS.2.2 dX7_reading_24
  ·
    refine lv_iconst (v := iI (-1)) hx hb dX7_reading_8 (by decide +kernel) ?_
    have e_13 : (mR : Int) = (if (0 ≤ f ∧ f < mn) ∧ (0 ≤ x ∧ x ≤ 4) ∧ mR < 8 then mR + 1 else mR) := (by omega)
    have hP : va_P D vwCl (W_M cI cS mA mf mn ml mk mg mls ms mra mrf mrk mrg mrl mrs mo moo moa mp mpp mfi mpl mpo mro mdp mdf mhg mhk (if (0 ≤ f ∧ f < mn) ∧ (0 ≤ x ∧ x ≤ 4) ∧ mR < 8 then mR + 1 else mR) mRf mRo mss msl msh mha mt) H := Eq.mp (congrArg (fun z_ => va_P D vwCl (W_M cI cS mA mf mn ml mk mg mls ms mra mrf mrk mrg mrl mrs mo moo moa mp mpp mfi mpl mpo mro mdp mdf mhg mhk z_ mRf mRo mss msl msh mha mt) H) e_13) hP
    have hD : va_D A (W_M cI cS mA mf mn ml mk mg mls ms mra mrf mrk mrg mrl mrs mo moo moa mp mpp mfi mpl mpo mro mdp mdf mhg mhk (if (0 ≤ f ∧ f < mn) ∧ (0 ≤ x ∧ x ≤ 4) ∧ mR < 8 then mR + 1 else mR) mRf mRo mss msl msh mha mt) := Eq.mp (congrArg (fun z_ => va_D A (W_M cI cS mA mf mn ml mk mg mls ms mra mrf mrk mrg mrl mrs mo moo moa mp mpp mfi mpl mpo mro mdp mdf mhg mhk z_ mRf mRo mss msl msh mha mt)) e_13) hD
    have e_14 : (mRf : Int → Int) = (if (0 ≤ f ∧ f < mn) ∧ (0 ≤ x ∧ x ≤ 4) ∧ mR < 8 then updI mRf mR f else mRf) := (by first | (rw [if_pos (by omega)]; done) | (rw [if_neg (by omega)]; done))
    have hP : va_P D vwCl (W_M cI cS mA mf mn ml mk mg mls ms mra mrf mrk mrg mrl mrs mo moo moa mp mpp mfi mpl mpo mro mdp mdf mhg mhk (if (0 ≤ f ∧ f < mn) ∧ (0 ≤ x ∧ x ≤ 4) ∧ mR < 8 then mR + 1 else mR) (if (0 ≤ f ∧ f < mn) ∧ (0 ≤ x ∧ x ≤ 4) ∧ mR < 8 then updI mRf mR f else mRf) mRo mss msl msh mha mt) H := Eq.mp (congrArg (fun z_ => va_P D vwCl (W_M cI cS mA mf mn ml mk mg mls ms mra mrf mrk mrg mrl mrs mo moo moa mp mpp mfi mpl mpo mro mdp mdf mhg mhk (if (0 ≤ f ∧ f < mn) ∧ (0 ≤ x ∧ x ≤ 4) ∧ mR < 8 then mR + 1 else mR) z_ mRo mss msl msh mha mt) H) e_14) hP
    have hD : va_D A (W_M cI cS mA mf mn ml mk mg mls ms mra mrf mrk mrg mrl mrs mo moo moa mp mpp mfi mpl mpo mro mdp mdf mhg mhk (if (0 ≤ f ∧ f < mn) ∧ (0 ≤ x ∧ x ≤ 4) ∧ mR < 8 then mR + 1 else mR) (if (0 ≤ f ∧ f < mn) ∧ (0 ≤ x ∧ x ≤ 4) ∧ mR < 8 then updI mRf mR f else mRf) mRo mss msl msh mha mt) := Eq.mp (congrArg (fun z_ => va_D A (W_M cI cS mA mf mn ml mk mg mls ms mra mrf mrk mrg mrl mrs mo moo moa mp mpp mfi mpl mpo mro mdp mdf mhg mhk (if (0 ≤ f ∧ f < mn) ∧ (0 ≤ x ∧ x ≤ 4) ∧ mR < 8 then mR + 1 else mR) z_ mRo mss msl msh mha mt)) e_14) hD
    have e_15 : (mRo : Int → Int) = (if (0 ≤ f ∧ f < mn) ∧ (0 ≤ x ∧ x ≤ 4) ∧ mR < 8 then updI mRo mR x else mRo) := (by first | (rw [if_pos (by omega)]; done) | (rw [if_neg (by omega)]; done))
    have hP : va_P D vwCl (W_M cI cS mA mf mn ml mk mg mls ms mra mrf mrk mrg mrl mrs mo moo moa mp mpp mfi mpl mpo mro mdp mdf mhg mhk (if (0 ≤ f ∧ f < mn) ∧ (0 ≤ x ∧ x ≤ 4) ∧ mR < 8 then mR + 1 else mR) (if (0 ≤ f ∧ f < mn) ∧ (0 ≤ x ∧ x ≤ 4) ∧ mR < 8 then updI mRf mR f else mRf) (if (0 ≤ f ∧ f < mn) ∧ (0 ≤ x ∧ x ≤ 4) ∧ mR < 8 then updI mRo mR x else mRo) mss msl msh mha mt) H := Eq.mp (congrArg (fun z_ => va_P D vwCl (W_M cI cS mA mf mn ml mk mg mls ms mra mrf mrk mrg mrl mrs mo moo moa mp mpp mfi mpl mpo mro mdp mdf mhg mhk (if (0 ≤ f ∧ f < mn) ∧ (0 ≤ x ∧ x ≤ 4) ∧ mR < 8 then mR + 1 else mR) (if (0 ≤ f ∧ f < mn) ∧ (0 ≤ x ∧ x ≤ 4) ∧ mR < 8 then updI mRf mR f else mRf) z_ mss msl msh mha mt) H) e_15) hP
    have hD : va_D A (W_M cI cS mA mf mn ml mk mg mls ms mra mrf mrk mrg mrl mrs mo moo moa mp mpp mfi mpl mpo mro mdp mdf mhg mhk (if (0 ≤ f ∧ f < mn) ∧ (0 ≤ x ∧ x ≤ 4) ∧ mR < 8 then mR + 1 else mR) (if (0 ≤ f ∧ f < mn) ∧ (0 ≤ x ∧ x ≤ 4) ∧ mR < 8 then updI mRf mR f else mRf) (if (0 ≤ f ∧ f < mn) ∧ (0 ≤ x ∧ x ≤ 4) ∧ mR < 8 then updI mRo mR x else mRo) mss msl msh mha mt) := Eq.mp (congrArg (fun z_ => va_D A (W_M cI cS mA mf mn ml mk mg mls ms mra mrf mrk mrg mrl mrs mo moo moa mp mpp mfi mpl mpo mro mdp mdf mhg mhk (if (0 ≤ f ∧ f < mn) ∧ (0 ≤ x ∧ x ≤ 4) ∧ mR < 8 then mR + 1 else mR) (if (0 ≤ f ∧ f < mn) ∧ (0 ≤ x ∧ x ≤ 4) ∧ mR < 8 then updI mRf mR f else mRf) z_ mss msl msh mha mt)) e_15) hD
    exact W.iret (v := iI (-1)) hx hb hr (fun t ht hW => ⟨⟨_, (), rfl, congrArg iI (show (-1) = (if 0 ≤ f ∧ f < mn then (if 0 ≤ x ∧ x ≤ 4 then (if mR < 8 then mR else (-4)) else (-2)) else (-1)) from (by omega)), by rw [ht]; exact hP, hD⟩, hS.F ht⟩) hS.2.2 dX7_reading_9
set_option maxHeartbeats 4000000 in
set_option maxRecDepth 100000 in
theorem c_X7_back (l : Launch) (D : va_G) (cI cS : ClassId) (mA : Nat → Nat) (mf : Int) (mn : Int) (ml : Int) (mk : Int → Int) (mg : Int → Int) (mls : Int → Int) (ms : Int → Int) (mra : Int) (mrf : Int) (mrk : Int → Int) (mrg : Int → Int) (mrl : Int → Int) (mrs : Int → Int) (mo : Int) (moo : Int → Int) (moa : Int → Int) (mp : Int) (mpp : Int → Int) (mfi : Int) (mpl : Int) (mpo : Int → Int) (mro : Int → Int) (mdp : Int) (mdf : Int) (mhg : Int → Int) (mhk : Int → Int) (mR : Int) (mRf : Int → Int) (mRo : Int → Int) (mss : Int → Int) (msl : Int → Int) (msh : Int → Int) (mha : Int → Int) (mt : Int) (sz : Nat) (k : Int) (hmR : 0 ≤ mR ∧ mR ≤ 8) (hkr : -2147483648 ≤ k ∧ k < 2147483648) : Met l yX7_back wsX7_back ({ frames := 1, cells := 0, slots := 0, locals := 25 }) (cP D cI cS (W_M cI cS mA mf mn ml mk mg mls ms mra mrf mrk mrg mrl mrs mo moo moa mp mpp mfi mpl mpo mro mdp mdf mhg mhk mR mRf mRo mss msl msh mha mt) sz [.ref (mA 0), .int (iI k)]) (va_Qi (fun (r : Int32) (u : Unit) => r = iI (if 0 ≤ k ∧ k ≤ mR then mR - k else (-2))) (fun (u : Unit) t => cB D (va_A (W_M cI cS mA mf mn ml mk mg mls ms mra mrf mrk mrg mrl mrs mo moo moa mp mpp mfi mpl mpo mro mdp mdf mhg mhk mR mRf mRo mss msl msh mha mt) sz) (W_M cI cS mA mf mn ml mk mg mls ms mra mrf mrk mrg mrl mrs mo moo moa mp mpp mfi mpl mpo mro mdp mdf mhg mhk (if 0 ≤ k ∧ k ≤ mR then mR - k else mR) mRf mRo mss msl msh mha mt) t) (va_A (W_M cI cS mA mf mn ml mk mg mls ms mra mrf mrk mrg mrl mrs mo moo moa mp mpp mfi mpl mpo mro mdp mdf mhg mhk mR mRf mRo mss msl msh mha mt) sz)) 0 0 (va_A (W_M cI cS mA mf mn ml mk mg mls ms mra mrf mrk mrg mrl mrs mo moo moa mp mpp mfi mpl mpo mro mdp mdf mhg mhk mR mRf mRo mss msl msh mha mt) sz) := by
  refine Met.ofW (cc := cX7_back) (maxL := 2) (ret := (some .int)) (by decide) rfl ?_
  intro p e s m args below meth c_ s₁ B hml hv
  obtain ⟨rfl, hsz, hP, hK, hD0⟩ := hv
  have hx := B.exec
  have hb := B.bytes
  have hr := B.returns
  have hts := atoms_spec (ws := wsX7_back) B.pre
  have hown : s.vm.findClass RX7 = some m.cls := findClass_of_methodNamed B.named
  have hlocks := B.notSynchronized
  subst hsz
  have hD := hD0.self (sz := s.heap.size)
  generalize hAe : va_A (W_M cI cS mA mf mn ml mk mg mls ms mra mrf mrk mrg mrl mrs mo moo moa mp mpp mfi mpl mpo mro mdp mdf mhg mhk mR mRf mRo mss msl msh mha mt) s.heap.size = A at hD ⊢
  have hA : ∀ q : Nat, s.heap.size ≤ q → A q := fun q h => by rw [← hAe]; exact Or.inr h
  have hS : va_S A s.heap s.heap [] := va_S.rf
  have hP : va_P D vwCl (W_M cI cS mA mf mn ml mk mg mls ms mra mrf mrk mrg mrl mrs mo moo moa mp mpp mfi mpl mpo mro mdp mdf mhg mhk mR mRf mRo mss msl msh mha mt) s.heap := hP
  have hl := lv_entry ([.ref (mA 0), .int (iI k)] : List Value) (n := 2) (Nat.le_of_ble_eq_true rfl)
  rw [lg_entry_eq]
  generalize (lg_sl ([.ref (mA 0), .int (iI k)] : List Value) ++ List.replicate (2 - (lg_sl ([.ref (mA 0), .int (iI k)] : List Value)).length) Slot.unset).toArray = ls at hl ⊢
  have hl : lv_has ls 2 [(0, .ref (mA 0)), (1, .int (iI k))] := hl
  have fl_145 := hts (.fieldLink RX7 145 "ActRowsModel" "readings" "I") (by decide +kernel)
  have iw_7 : ∀ w ∈ wsX70, w ∈ wsX7_back := by decide +kernel
  refine lv_iload_n hx hb dX7_back_0 rfl (lv_at hl 1 rfl) ?_
  refine n_i2l hx hb (by omega) dX7_back_1 ?_
  refine lv_lconst (v := lI 0) hx hb dX7_back_2 (by decide +kernel) ?_
  refine lv_aload_n hx hb dX7_back_3 rfl (lv_at hl 0 rfl) ?_
  refine va_get (D := D) (ci := 7) (v := .int (iI mR)) (C := RX7) (T := TX7) (N := 34) hx hb hts iw_7 hown hK.1 hP 0 rfl rfl 26 (by decide) fl_145 (fun _ h9 => h9) rfl dX7_back_4 ?_
  refine n_i2l hx hb (by omega) dX7_back_7 ?_
  refine x_callSi (As := [.long (lI k), .long (lI 0), .long (lI mR)]) (rest := []) ⟨hx, hb, hml, hown, hts⟩ (c_X7_in l D cI cS s.heap.size k 0 mR (by first | assumption | omega) (by first | assumption | omega) (by first | assumption | omega)) (va_cwS 3 hts gX7_back_X7_in rfl rfl rfl (by decide +kernel) ⟨Nat.le_of_ble_eq_true rfl, Nat.le_of_ble_eq_true rfl⟩) hK hP hD hS hA [] [0, 1, 2, 3, 4, 5, 6, 7, 8, 9, 10, 11, 12, 13, 14, 15, 16, 17, 18, 19, 20, 21] (wr := [(mA 0, .inr (7, [.int (iI mf), .int (iI mn), .int (iI ml), .ref (mA 1), .ref (mA 2), .ref (mA 3), .ref (mA 4), .int (iI mra), .int (iI mrf), .ref (mA 5), .ref (mA 6), .ref (mA 7), .ref (mA 8), .int (iI mo), .ref (mA 9), .ref (mA 10), .int (iI mp), .ref (mA 11), .int (iI mfi), .int (iI mpl), .ref (mA 12), .ref (mA 13), .int (iI mdp), .int (iI mdf), .ref (mA 14), .ref (mA 15), .int (iI mR), .ref (mA 16), .ref (mA 17), .ref (mA 18), .ref (mA 19), .ref (mA 20), .ref (mA 21), .int (iI mt)])), (mA 1, .inl (cI, 5, .inl (aI mk))), (mA 2, .inl (cI, 5, .inl (aI mg))), (mA 3, .inl (cI, 5, .inl (aI mls))), (mA 4, .inl (cI, 20, .inl (aI ms))), (mA 5, .inl (cI, 5, .inl (aI mrk))), (mA 6, .inl (cI, 5, .inl (aI mrg))), (mA 7, .inl (cI, 5, .inl (aI mrl))), (mA 8, .inl (cI, 20, .inl (aI mrs))), (mA 9, .inl (cI, 5, .inl (aI moo))), (mA 10, .inl (cI, 5, .inl (aI moa))), (mA 11, .inl (cI, 1024, .inl (aI mpp))), (mA 12, .inl (cI, 5, .inl (aI mpo))), (mA 13, .inl (cI, 5, .inl (aI mro))), (mA 14, .inl (cI, 5, .inl (aI mhg))), (mA 15, .inl (cI, 5, .inl (aI mhk))), (mA 16, .inl (cI, 8, .inl (aI mRf))), (mA 17, .inl (cI, 8, .inl (aI mRo))), (mA 18, .inl (cI, 4, .inl (aI mss))), (mA 19, .inl (cI, 4, .inl (aI msl))), (mA 20, .inl (cI, 240, .inl (aI msh))), (mA 21, .inl (cI, 60, .inl (aI mha)))]) rfl rfl (by decide) (by decide) (by decide) [0, 1, 2, 3, 4, 5, 6, 7, 8, 9, 10, 11, 12, 13, 14, 15, 16, 17, 18, 19, 20, 21] (fun (u : Unit) => (W_M cI cS mA mf mn ml mk mg mls ms mra mrf mrk mrg mrl mrs mo moo moa mp mpp mfi mpl mpo mro mdp mdf mhg mhk mR mRf mRo mss msl msh mha mt)) (fun _ => rfl) (by decide) rfl hl.1 rfl (Nat.le_of_ble_eq_true rfl) ⟨Nat.zero_le _, Nat.zero_le _⟩ dX7_back_8 (fun r_ u_ H locs hw hP hD hS => ?_)
  try dsimp only at hw
  subst hw
  have hP : va_P D vwCl (W_M cI cS mA mf mn ml mk mg mls ms mra mrf mrk mrg mrl mrs mo moo moa mp mpp mfi mpl mpo mro mdp mdf mhg mhk mR mRf mRo mss msl msh mha mt) H := hP
  have hD : va_D A (W_M cI cS mA mf mn ml mk mg mls ms mra mrf mrk mrg mrl mrs mo moo moa mp mpp mfi mpl mpo mro mdp mdf mhg mhk mR mRf mRo mss msl msh mha mt) := hD
  refine n_if_b2 (tgt := 17) hx hb dX7_back_11 (by decide)  (fun c_1 => ?_) (fun c_1 => ?_)
  ·
    refine lv_aload_n hx hb dX7_back_17 rfl (lv_at hl 0 rfl) ?_
    refine lv_dup hx hb dX7_back_18 rfl ?_
    refine va_get (D := D) (ci := 7) (v := .int (iI mR)) (C := RX7) (T := TX7) (N := 34) hx hb hts iw_7 hown hK.1 hP 0 rfl rfl 26 (by decide) fl_145 (fun _ h9 => h9) rfl dX7_back_19 ?_
    refine lv_iload_n hx hb dX7_back_22 rfl (lv_at hl 1 rfl) ?_
    refine n_isub hx hb dX7_back_23 ?_
    refine va_put (D := D) (ci := 7) (v := .int (iI (mR - k))) (ty := .int) (C := RX7) (T := TX7) (N := 34) hx hb hts iw_7 tyX7 tyX7_ok nmX7 hown hK.1 hP hD hS 0 rfl rfl 26 (by decide) fl_145 (fun _ h9 => h9) rfl (by decide +kernel) rfl rfl (Nat.le_of_ble_eq_true rfl) dX7_back_24 (fun H locs hP hD hS => ?_)
    have hP : va_P D vwCl (W_M cI cS mA mf mn ml mk mg mls ms mra mrf mrk mrg mrl mrs mo moo moa mp mpp mfi mpl mpo mro mdp mdf mhg mhk (mR - k) mRf mRo mss msl msh mha mt) H := hP
    have hD : va_D A (W_M cI cS mA mf mn ml mk mg mls ms mra mrf mrk mrg mrl mrs mo moo moa mp mpp mfi mpl mpo mro mdp mdf mhg mhk (mR - k) mRf mRo mss msl msh mha mt) := hD
    refine lv_aload_n hx hb dX7_back_27 rfl (lv_at hl 0 rfl) ?_
    refine va_get (D := D) (ci := 7) (v := .int (iI (mR - k))) (C := RX7) (T := TX7) (N := 34) hx hb hts iw_7 hown hK.1 hP 0 rfl rfl 26 (by decide) fl_145 (fun _ h9 => h9) rfl dX7_back_28 ?_
    have e_2 : ((mR - k) : Int) = (if 0 ≤ k ∧ k ≤ mR then mR - k else mR) := (by omega)
    have hP : va_P D vwCl (W_M cI cS mA mf mn ml mk mg mls ms mra mrf mrk mrg mrl mrs mo moo moa mp mpp mfi mpl mpo mro mdp mdf mhg mhk (if 0 ≤ k ∧ k ≤ mR then mR - k else mR) mRf mRo mss msl msh mha mt) H := Eq.mp (congrArg (fun z_ => va_P D vwCl (W_M cI cS mA mf mn ml mk mg mls ms mra mrf mrk mrg mrl mrs mo moo moa mp mpp mfi mpl mpo mro mdp mdf mhg mhk z_ mRf mRo mss msl msh mha mt) H) e_2) hP
    have hD : va_D A (W_M cI cS mA mf mn ml mk mg mls ms mra mrf mrk mrg mrl mrs mo moo moa mp mpp mfi mpl mpo mro mdp mdf mhg mhk (if 0 ≤ k ∧ k ≤ mR then mR - k else mR) mRf mRo mss msl msh mha mt) := Eq.mp (congrArg (fun z_ => va_D A (W_M cI cS mA mf mn ml mk mg mls ms mra mrf mrk mrg mrl mrs mo moo moa mp mpp mfi mpl mpo mro mdp mdf mhg mhk z_ mRf mRo mss msl msh mha mt)) e_2) hD
    exact W.iret (v := iI (mR - k)) hx hb hr (fun t ht hW => ⟨⟨_, (), rfl, congrArg iI (show (mR - k) = (if 0 ≤ k ∧ k ≤ mR then mR - k else (-2)) from (by omega)), by rw [ht]; exact hP, hD⟩, hS.F ht⟩) hS.2.2 dX7_back_31
  ·
    refine lv_bipush (v := iI (-2)) hx hb dX7_back_14 (by decide +kernel) ?_
    have e_3 : (mR : Int) = (if 0 ≤ k ∧ k ≤ mR then mR - k else mR) := (by omega)
    have hP : va_P D vwCl (W_M cI cS mA mf mn ml mk mg mls ms mra mrf mrk mrg mrl mrs mo moo moa mp mpp mfi mpl mpo mro mdp mdf mhg mhk (if 0 ≤ k ∧ k ≤ mR then mR - k else mR) mRf mRo mss msl msh mha mt) H := Eq.mp (congrArg (fun z_ => va_P D vwCl (W_M cI cS mA mf mn ml mk mg mls ms mra mrf mrk mrg mrl mrs mo moo moa mp mpp mfi mpl mpo mro mdp mdf mhg mhk z_ mRf mRo mss msl msh mha mt) H) e_3) hP
    have hD : va_D A (W_M cI cS mA mf mn ml mk mg mls ms mra mrf mrk mrg mrl mrs mo moo moa mp mpp mfi mpl mpo mro mdp mdf mhg mhk (if 0 ≤ k ∧ k ≤ mR then mR - k else mR) mRf mRo mss msl msh mha mt) := Eq.mp (congrArg (fun z_ => va_D A (W_M cI cS mA mf mn ml mk mg mls ms mra mrf mrk mrg mrl mrs mo moo moa mp mpp mfi mpl mpo mro mdp mdf mhg mhk z_ mRf mRo mss msl msh mha mt)) e_3) hD
    exact W.iret (v := iI (-2)) hx hb hr (fun t ht hW => ⟨⟨_, (), rfl, congrArg iI (show (-2) = (if 0 ≤ k ∧ k ≤ mR then mR - k else (-2)) from (by omega)), by rw [ht]; exact hP, hD⟩, hS.F ht⟩) hS.2.2 dX7_back_16
set_option maxHeartbeats 4000000 in
set_option maxRecDepth 100000 in
theorem c_X7_areSo (l : Launch) (D : va_G) (cI cS : ClassId) (mA : Nat → Nat) (mf : Int) (mn : Int) (ml : Int) (mk : Int → Int) (mg : Int → Int) (mls : Int → Int) (ms : Int → Int) (mra : Int) (mrf : Int) (mrk : Int → Int) (mrg : Int → Int) (mrl : Int → Int) (mrs : Int → Int) (mo : Int) (moo : Int → Int) (moa : Int → Int) (mp : Int) (mpp : Int → Int) (mfi : Int) (mpl : Int) (mpo : Int → Int) (mro : Int → Int) (mdp : Int) (mdf : Int) (mhg : Int → Int) (mhk : Int → Int) (mR : Int) (mRf : Int → Int) (mRo : Int → Int) (mss : Int → Int) (msl : Int → Int) (msh : Int → Int) (mha : Int → Int) (mt : Int) (sz : Nat) (hok : okP mn mls ms) (hkk : okK mn mk mg ml) (hmR : 0 ≤ mR ∧ mR ≤ 8) (hrd : ∀ x : Int, 0 ≤ x → x < mR → (0 ≤ mRf x ∧ mRf x < mn) ∧ 0 ≤ mRo x ∧ mRo x ≤ 4) : Met l yX7_areSo wsX7_areSo ({ frames := 4, cells := 0, slots := 0, locals := 89 }) (cP D cI cS (W_M cI cS mA mf mn ml mk mg mls ms mra mrf mrk mrg mrl mrs mo moo moa mp mpp mfi mpl mpo mro mdp mdf mhg mhk mR mRf mRo mss msl msh mha mt) sz [.ref (mA 0)]) (va_Qi (fun (r : Int32) (u : Int × (Int → Int) × (Int → Int) × Int × (Int → Int) × Int × Int × (Int → Int)) => r = iI (if soI (fun g => (sem mk mg ml mls ms g).1) mRf mRo mR.toNat = true then 1 else 0)) (fun (u : Int × (Int → Int) × (Int → Int) × Int × (Int → Int) × Int × Int × (Int → Int)) t => cB D (va_A (W_M cI cS mA mf mn ml mk mg mls ms mra mrf mrk mrg mrl mrs mo moo moa mp mpp mfi mpl mpo mro mdp mdf mhg mhk mR mRf mRo mss msl msh mha mt) sz) (W_M cI cS mA mf mn ml mk mg mls ms mra mrf mrk mrg mrl mrs u.1 u.2.1 u.2.2.1 u.2.2.2.1 u.2.2.2.2.1 u.2.2.2.2.2.1 u.2.2.2.2.2.2.1 u.2.2.2.2.2.2.2 mro mdp mdf mhg mhk mR mRf mRo mss msl msh mha mt) t) (va_A (W_M cI cS mA mf mn ml mk mg mls ms mra mrf mrk mrg mrl mrs mo moo moa mp mpp mfi mpl mpo mro mdp mdf mhg mhk mR mRf mRo mss msl msh mha mt) sz)) 0 0 (va_A (W_M cI cS mA mf mn ml mk mg mls ms mra mrf mrk mrg mrl mrs mo moo moa mp mpp mfi mpl mpo mro mdp mdf mhg mhk mR mRf mRo mss msl msh mha mt) sz) := by
  refine Met.ofW (cc := cX7_areSo) (maxL := 4) (ret := (some .boolean)) (by decide) rfl ?_
  intro p e s m args below meth c_ s₁ B hml hv
  obtain ⟨rfl, hsz, hP, hK, hD0⟩ := hv
  have hx := B.exec
  have hb := B.bytes
  have hr := B.returns
  have hts := atoms_spec (ws := wsX7_areSo) B.pre
  have hown : s.vm.findClass RX7 = some m.cls := findClass_of_methodNamed B.named
  have hlocks := B.notSynchronized
  subst hsz
  have hD := hD0.self (sz := s.heap.size)
  generalize hAe : va_A (W_M cI cS mA mf mn ml mk mg mls ms mra mrf mrk mrg mrl mrs mo moo moa mp mpp mfi mpl mpo mro mdp mdf mhg mhk mR mRf mRo mss msl msh mha mt) s.heap.size = A at hD ⊢
  have hA : ∀ q : Nat, s.heap.size ≤ q → A q := fun q h => by rw [← hAe]; exact Or.inr h
  have hS : va_S A s.heap s.heap [] := va_S.rf
  have hP : va_P D vwCl (W_M cI cS mA mf mn ml mk mg mls ms mra mrf mrk mrg mrl mrs mo moo moa mp mpp mfi mpl mpo mro mdp mdf mhg mhk mR mRf mRo mss msl msh mha mt) s.heap := hP
  have hl := lv_entry ([.ref (mA 0)] : List Value) (n := 4) (Nat.le_of_ble_eq_true rfl)
  rw [lg_entry_eq]
  generalize (lg_sl ([.ref (mA 0)] : List Value) ++ List.replicate (4 - (lg_sl ([.ref (mA 0)] : List Value)).length) Slot.unset).toArray = ls at hl ⊢
  have hl : lv_has ls 4 [(0, .ref (mA 0))] := hl
  have fl_145 := hts (.fieldLink RX7 145 "ActRowsModel" "readings" "I") (by decide +kernel)
  have iw_7 : ∀ w ∈ wsX70, w ∈ wsX7_areSo := by decide +kernel
  have fl_55 := hts (.fieldLink RX7 55 "ActRowsModel" "readingOf" "[I") (by decide +kernel)
  have fl_58 := hts (.fieldLink RX7 58 "ActRowsModel" "readingIs" "[I") (by decide +kernel)
  have hmn := hok.1
  have hln := hok.2.1
  refine lv_iconst (v := iI 1) hx hb dX7_areSo_0 (by decide +kernel) ?_
  refine lv_istore_n (lv' := [(1, .int (iI 1)), (0, .ref (mA 0))]) hx hb dX7_areSo_1 rfl hl (by decide) rfl (fun ls hl => ?_)
  refine lv_iconst (v := iI 0) hx hb dX7_areSo_2 (by decide +kernel) ?_
  refine lv_istore_n (lv' := [(2, .int (iI 0)), (1, .int (iI 1)), (0, .ref (mA 0))]) hx hb dX7_areSo_3 rfl hl (by decide) rfl (fun ls hl => ?_)
  refine x_loop (σ := Int × Int × Int × (Int → Int) × (Int → Int) × Int × (Int → Int) × Int × Int × (Int → Int)) (fun (xv_ : Int × Int × Int × (Int → Int) × (Int → Int) × Int × (Int → Int) × Int × Int × (Int → Int)) => match xv_ with | (ar, x, mo9, moo9, moa9, mp9, mpp9, mfi9, mpl9, mpo9) => (0 ≤ x ∧ x ≤ mR) ∧ (ar = (if soI (fun g => (sem mk mg ml mls ms g).1) mRf mRo x.toNat = true then 1 else 0))) (fun (xv_ : Int × Int × Int × (Int → Int) × (Int → Int) × Int × (Int → Int) × Int × Int × (Int → Int)) => match xv_ with | (ar, x, mo9, moo9, moa9, mp9, mpp9, mfi9, mpl9, mpo9) => (mR - x).toNat) (fun (xv_ : Int × Int × Int × (Int → Int) × (Int → Int) × Int × (Int → Int) × Int × Int × (Int → Int)) => match xv_ with | (ar, x, mo9, moo9, moa9, mp9, mpp9, mfi9, mpl9, mpo9) => (W_M cI cS mA mf mn ml mk mg mls ms mra mrf mrk mrg mrl mrs mo9 moo9 moa9 mp9 mpp9 mfi9 mpl9 mpo9 mro mdp mdf mhg mhk mR mRf mRo mss msl msh mha mt)) (fun (xv_ : Int × Int × Int × (Int → Int) × (Int → Int) × Int × (Int → Int) × Int × Int × (Int → Int)) => match xv_ with | (ar, x, mo9, moo9, moa9, mp9, mpp9, mfi9, mpl9, mpo9) => [(2, .int (iI x)), (1, .int (iI ar)), (0, .ref (mA 0))]) (nL := 4) ?step_1 (1, 0, mo, moo, moa, mp, mpp, mfi, mpl, mpo) (by (try dsimp only); exact ⟨by omega, rfl⟩) hP hD hS (lv_sub hl [0, 1, 2] rfl)
  case step_1 =>
    intro xv_ hI ih H locs ls hP hD hS hl
    obtain ⟨ar, x, mo9, moo9, moa9, mp9, mpp9, mfi9, mpl9, mpo9⟩ := xv_
    try dsimp only at hI ih
    obtain ⟨hx_, hw2⟩ := hI
    have hP : va_P D vwCl (W_M cI cS mA mf mn ml mk mg mls ms mra mrf mrk mrg mrl mrs mo9 moo9 moa9 mp9 mpp9 mfi9 mpl9 mpo9 mro mdp mdf mhg mhk mR mRf mRo mss msl msh mha mt) H := hP
    have hD : va_D A (W_M cI cS mA mf mn ml mk mg mls ms mra mrf mrk mrg mrl mrs mo9 moo9 moa9 mp9 mpp9 mfi9 mpl9 mpo9 mro mdp mdf mhg mhk mR mRf mRo mss msl msh mha mt) := hD
    have hl : lv_has ls 4 [(2, .int (iI x)), (1, .int (iI ar)), (0, .ref (mA 0))] := hl
    have har : ar = 0 ∨ ar = 1 := by rw [hw2]; split <;> omega
    have ih_2 := ih
    refine lv_iload_n hx hb dX7_areSo_4 rfl (lv_at hl 0 rfl) ?_
    refine lv_aload_n hx hb dX7_areSo_5 rfl (lv_at hl 2 rfl) ?_
    refine va_get (D := D) (ci := 7) (v := .int (iI mR)) (C := RX7) (T := TX7) (N := 34) hx hb hts iw_7 hown hK.1 hP 0 rfl rfl 26 (by decide) fl_145 (fun _ h9 => h9) rfl dX7_areSo_6 ?_
    refine n_icmp_ge (tgt := 57) hx hb dX7_areSo_9 (by decide) (by omega) (fun c_3 => ?_) (fun c_3 => ?_)
    ·
      refine lv_iload_n hx hb dX7_areSo_57 rfl (lv_at hl 1 rfl) ?_
      exact W.zret (v := iI ar) (ty := .boolean) hx hb hr (by rcases har with q | q <;> rw [q] <;> decide +kernel) (fun t ht hW => ⟨⟨_, (mo9, moo9, moa9, mp9, mpp9, mfi9, mpl9, mpo9), rfl, congrArg iI (show ar = (if soI (fun g => (sem mk mg ml mls ms g).1) mRf mRo mR.toNat = true then 1 else 0) from (by rw [hw2, show x = mR by omega])), by rw [ht]; exact hP, hD⟩, hS.F ht⟩) hS.2.2 dX7_areSo_58
    ·
      have hrx := hrd x hx_.1 (by omega)
      refine lv_aload_n hx hb dX7_areSo_12 rfl (lv_at hl 2 rfl) ?_
      refine lv_aload_n hx hb dX7_areSo_13 rfl (lv_at hl 2 rfl) ?_
      refine va_get (D := D) (ci := 7) (v := .ref (mA 16)) (C := RX7) (T := TX7) (N := 34) hx hb hts iw_7 hown hK.1 hP 0 rfl rfl 27 (by decide) fl_55 (fun _ h9 => h9) rfl dX7_areSo_14 ?_
      refine lv_iload_n hx hb dX7_areSo_17 rfl (lv_at hl 0 rfl) ?_
      refine n_iald (n := 8) hx hb hK.1 hP 16 0 rfl rfl (by omega) (by decide) dX7_areSo_18 ?_
      refine x_callVi (As := [.int (iI (mRf x))]) (rest := []) ⟨hx, hb, hml, hown, hts⟩ (c_X7_runs l D cI cS mA mf mn ml mk mg mls ms mra mrf mrk mrg mrl mrs mo9 moo9 moa9 mp9 mpp9 mfi9 mpl9 mpo9 mro mdp mdf mhg mhk mR mRf mRo mss msl msh mha mt H.size (mRf x) (by first | assumption | omega) (by first | assumption | omega) (by first | assumption | omega)) (cwV 1 hts gX7_areSo_X7_runs rfl rfl rfl (by decide +kernel) ⟨Nat.le_of_ble_eq_true rfl, Nat.le_of_ble_eq_true rfl⟩) hK hP hD hS hA [0, 1, 2, 3, 4, 5, 6, 7, 8, 9, 10, 11, 12, 13, 14, 15, 16, 17, 18, 19, 20, 21] [] (wr := ([] : va_W)) rfl rfl (by decide) (by decide) (by decide) 0 7 rfl rfl rfl [0, 1, 2, 3, 4, 5, 6, 7, 8, 9, 10, 11, 12, 13, 14, 15, 16, 17, 18, 19, 20, 21] (fun (u : Int × (Int → Int) × (Int → Int) × Int × (Int → Int) × Int × Int × (Int → Int)) => (W_M cI cS mA mf mn ml mk mg mls ms mra mrf mrk mrg mrl mrs u.1 u.2.1 u.2.2.1 u.2.2.2.1 u.2.2.2.2.1 u.2.2.2.2.2.1 u.2.2.2.2.2.2.1 u.2.2.2.2.2.2.2 mro mdp mdf mhg mhk mR mRf mRo mss msl msh mha mt)) (fun _ => rfl) (by decide) rfl hl.1 rfl (Nat.le_of_ble_eq_true rfl) ⟨Nat.zero_le _, Nat.zero_le _⟩ dX7_areSo_19 (fun r_ u_ H locs hw hP hD hS => ?_)
      obtain ⟨mo_4, moo_5, moa_6, mp2, mpp2, mfi2, mpl2, mpo2⟩ := u_
      try dsimp only at hw
      obtain ⟨z2, rfl, hz2, hp2, he2, hl2⟩ := hw
      have hP : va_P D vwCl (W_M cI cS mA mf mn ml mk mg mls ms mra mrf mrk mrg mrl mrs mo_4 moo_5 moa_6 mp2 mpp2 mfi2 mpl2 mpo2 mro mdp mdf mhg mhk mR mRf mRo mss msl msh mha mt) H := hP
      have hD : va_D A (W_M cI cS mA mf mn ml mk mg mls ms mra mrf mrk mrg mrl mrs mo_4 moo_5 moa_6 mp2 mpp2 mfi2 mpl2 mpo2 mro mdp mdf mhg mhk mR mRf mRo mss msl msh mha mt) := hD
      obtain ⟨o1, ho1⟩ : ∃ z_ : Int, z_ = (sem mk mg ml mls ms (mRf x)).1 := ⟨_, rfl⟩
      have ho1r := (sem_ok (K := mk) (G := mg) (L := ml) hok (mRf x) hrx.1.1 hrx.1.2).1
      rw [← ho1] at ho1r hz2
      refine lv_istore_n (lv' := [(3, .int (iI z2)), (2, .int (iI x)), (1, .int (iI ar)), (0, .ref (mA 0))]) hx hb dX7_areSo_22 rfl hl (by decide) rfl (fun ls hl => ?_)
      refine lv_iload_n hx hb dX7_areSo_23 rfl (lv_at hl 2 rfl) ?_
      refine n_if_eq (tgt := 49) hx hb dX7_areSo_24 (by decide) (by omega) (fun c_7 => ?_) (fun c_7 => ?_)
      ·
        refine lv_iconst (v := iI 0) hx hb dX7_areSo_49 (by decide +kernel) ?_
        refine lv_istore_n (lv' := [(1, .int (iI 0)), (3, .int (iI z2)), (2, .int (iI x)), (0, .ref (mA 0))]) hx hb dX7_areSo_50 rfl hl (by decide) rfl (fun ls hl => ?_)
        refine n_iinc (lv' := [(2, .int (iI (x + 1))), (1, .int (iI 0)), (3, .int (iI z2)), (0, .ref (mA 0))]) hx hb dX7_areSo_51 hl (k := 2) rfl (by decide) rfl (fun ls hl => ?_)
        refine lv_goto (tgt := 4) hx hb dX7_areSo_54 (by decide) ?_
        exact ih_2 (0, (x + 1), mo_4, moo_5, moa_6, mp2, mpp2, mfi2, mpl2, mpo2) (by (try dsimp only); exact ⟨by omega, by
                rw [soI_s _ _ _ hx_.1]
                by_cases q : soI (fun g => (sem mk mg ml mls ms g).1) mRf mRo x.toNat = true
                · rw [if_pos q] at hw2
                  rw [q, Bool.true_and]
                  by_cases q2 : (sem mk mg ml mls ms (mRf x)).1 = mRo x
                  · rw [if_pos (decide_eq_true q2)] <;> omega
                  · rw [if_neg (by rw [decide_eq_false q2]; decide)] <;> omega
                · rw [if_neg q] at hw2
                  rw [Bool.eq_false_iff.mpr q, Bool.false_and]
                  show _ = (0 : Int)
                  omega⟩) (by (try dsimp only); exact (by omega)) _ _ _ hP hD hS (lv_sub hl [0, 1, 3] rfl)
      ·
        refine lv_iload_n hx hb dX7_areSo_27 rfl (lv_at hl 0 rfl) ?_
        refine n_if_ge (tgt := 35) hx hb dX7_areSo_28 (by decide) (by omega) (fun c_8 => ?_) (fun c_8 => ?_)
        ·
          refine lv_iload_n hx hb dX7_areSo_35 rfl (lv_at hl 0 rfl) ?_
          refine lv_aload_n hx hb dX7_areSo_36 rfl (lv_at hl 3 rfl) ?_
          refine va_get (D := D) (ci := 7) (v := .ref (mA 17)) (C := RX7) (T := TX7) (N := 34) hx hb hts iw_7 hown hK.1 hP 0 rfl rfl 28 (by decide) fl_58 (fun _ h9 => h9) rfl dX7_areSo_37 ?_
          refine lv_iload_n hx hb dX7_areSo_40 rfl (lv_at hl 1 rfl) ?_
          refine n_iald (n := 8) hx hb hK.1 hP 17 0 rfl rfl (by omega) (by decide) dX7_areSo_41 ?_
          refine n_icmp_ne (tgt := 49) hx hb dX7_areSo_42 (by decide) (by omega) (fun c_9 => ?_) (fun c_9 => ?_)
          ·
            refine lv_iconst (v := iI 0) hx hb dX7_areSo_49 (by decide +kernel) ?_
            refine lv_istore_n (lv' := [(1, .int (iI 0)), (3, .int (iI z2)), (2, .int (iI x)), (0, .ref (mA 0))]) hx hb dX7_areSo_50 rfl hl (by decide) rfl (fun ls hl => ?_)
            refine n_iinc (lv' := [(2, .int (iI (x + 1))), (1, .int (iI 0)), (3, .int (iI z2)), (0, .ref (mA 0))]) hx hb dX7_areSo_51 hl (k := 2) rfl (by decide) rfl (fun ls hl => ?_)
            refine lv_goto (tgt := 4) hx hb dX7_areSo_54 (by decide) ?_
            exact ih_2 (0, (x + 1), mo_4, moo_5, moa_6, mp2, mpp2, mfi2, mpl2, mpo2) (by (try dsimp only); exact ⟨by omega, by
                rw [soI_s _ _ _ hx_.1]
                by_cases q : soI (fun g => (sem mk mg ml mls ms g).1) mRf mRo x.toNat = true
                · rw [if_pos q] at hw2
                  rw [q, Bool.true_and]
                  by_cases q2 : (sem mk mg ml mls ms (mRf x)).1 = mRo x
                  · rw [if_pos (decide_eq_true q2)] <;> omega
                  · rw [if_neg (by rw [decide_eq_false q2]; decide)] <;> omega
                · rw [if_neg q] at hw2
                  rw [Bool.eq_false_iff.mpr q, Bool.false_and]
                  show _ = (0 : Int)
                  omega⟩) (by (try dsimp only); exact (by omega)) _ _ _ hP hD hS (lv_sub hl [0, 1, 3] rfl)
          ·
            refine lv_iconst (v := iI 1) hx hb dX7_areSo_45 (by decide +kernel) ?_
            refine lv_goto (tgt := 50) hx hb dX7_areSo_46 (by decide) ?_
            refine lv_istore_n (lv' := [(1, .int (iI 1)), (3, .int (iI z2)), (2, .int (iI x)), (0, .ref (mA 0))]) hx hb dX7_areSo_50 rfl hl (by decide) rfl (fun ls hl => ?_)
            refine n_iinc (lv' := [(2, .int (iI (x + 1))), (1, .int (iI 1)), (3, .int (iI z2)), (0, .ref (mA 0))]) hx hb dX7_areSo_51 hl (k := 2) rfl (by decide) rfl (fun ls hl => ?_)
            refine lv_goto (tgt := 4) hx hb dX7_areSo_54 (by decide) ?_
            exact ih_2 (1, (x + 1), mo_4, moo_5, moa_6, mp2, mpp2, mfi2, mpl2, mpo2) (by (try dsimp only); exact ⟨by omega, by
                rw [soI_s _ _ _ hx_.1]
                by_cases q : soI (fun g => (sem mk mg ml mls ms g).1) mRf mRo x.toNat = true
                · rw [if_pos q] at hw2
                  rw [q, Bool.true_and]
                  by_cases q2 : (sem mk mg ml mls ms (mRf x)).1 = mRo x
                  · rw [if_pos (decide_eq_true q2)] <;> omega
                  · rw [if_neg (by rw [decide_eq_false q2]; decide)] <;> omega
                · rw [if_neg q] at hw2
                  rw [Bool.eq_false_iff.mpr q, Bool.false_and]
                  show _ = (0 : Int)
                  omega⟩) (by (try dsimp only); exact (by omega)) _ _ _ hP hD hS (lv_sub hl [0, 1, 3] rfl)
        ·
          refine lv_iconst (v := iI 4) hx hb dX7_areSo_31 (by decide +kernel) ?_
          refine lv_goto (tgt := 36) hx hb dX7_areSo_32 (by decide) ?_
          refine lv_aload_n hx hb dX7_areSo_36 rfl (lv_at hl 3 rfl) ?_
          refine va_get (D := D) (ci := 7) (v := .ref (mA 17)) (C := RX7) (T := TX7) (N := 34) hx hb hts iw_7 hown hK.1 hP 0 rfl rfl 28 (by decide) fl_58 (fun _ h9 => h9) rfl dX7_areSo_37 ?_
          refine lv_iload_n hx hb dX7_areSo_40 rfl (lv_at hl 1 rfl) ?_
          refine n_iald (n := 8) hx hb hK.1 hP 17 0 rfl rfl (by omega) (by decide) dX7_areSo_41 ?_
          refine n_icmp_ne (tgt := 49) hx hb dX7_areSo_42 (by decide) (by omega) (fun c_10 => ?_) (fun c_10 => ?_)
          ·
            refine lv_iconst (v := iI 0) hx hb dX7_areSo_49 (by decide +kernel) ?_
            refine lv_istore_n (lv' := [(1, .int (iI 0)), (3, .int (iI z2)), (2, .int (iI x)), (0, .ref (mA 0))]) hx hb dX7_areSo_50 rfl hl (by decide) rfl (fun ls hl => ?_)
            refine n_iinc (lv' := [(2, .int (iI (x + 1))), (1, .int (iI 0)), (3, .int (iI z2)), (0, .ref (mA 0))]) hx hb dX7_areSo_51 hl (k := 2) rfl (by decide) rfl (fun ls hl => ?_)
            refine lv_goto (tgt := 4) hx hb dX7_areSo_54 (by decide) ?_
            exact ih_2 (0, (x + 1), mo_4, moo_5, moa_6, mp2, mpp2, mfi2, mpl2, mpo2) (by (try dsimp only); exact ⟨by omega, by
                rw [soI_s _ _ _ hx_.1]
                by_cases q : soI (fun g => (sem mk mg ml mls ms g).1) mRf mRo x.toNat = true
                · rw [if_pos q] at hw2
                  rw [q, Bool.true_and]
                  by_cases q2 : (sem mk mg ml mls ms (mRf x)).1 = mRo x
                  · rw [if_pos (decide_eq_true q2)] <;> omega
                  · rw [if_neg (by rw [decide_eq_false q2]; decide)] <;> omega
                · rw [if_neg q] at hw2
                  rw [Bool.eq_false_iff.mpr q, Bool.false_and]
                  show _ = (0 : Int)
                  omega⟩) (by (try dsimp only); exact (by omega)) _ _ _ hP hD hS (lv_sub hl [0, 1, 3] rfl)
          ·
            refine lv_iconst (v := iI 1) hx hb dX7_areSo_45 (by decide +kernel) ?_
            refine lv_goto (tgt := 50) hx hb dX7_areSo_46 (by decide) ?_
            refine lv_istore_n (lv' := [(1, .int (iI 1)), (3, .int (iI z2)), (2, .int (iI x)), (0, .ref (mA 0))]) hx hb dX7_areSo_50 rfl hl (by decide) rfl (fun ls hl => ?_)
            refine n_iinc (lv' := [(2, .int (iI (x + 1))), (1, .int (iI 1)), (3, .int (iI z2)), (0, .ref (mA 0))]) hx hb dX7_areSo_51 hl (k := 2) rfl (by decide) rfl (fun ls hl => ?_)
            refine lv_goto (tgt := 4) hx hb dX7_areSo_54 (by decide) ?_
            exact ih_2 (1, (x + 1), mo_4, moo_5, moa_6, mp2, mpp2, mfi2, mpl2, mpo2) (by (try dsimp only); exact ⟨by omega, by
                rw [soI_s _ _ _ hx_.1]
                by_cases q : soI (fun g => (sem mk mg ml mls ms g).1) mRf mRo x.toNat = true
                · rw [if_pos q] at hw2
                  rw [q, Bool.true_and]
                  by_cases q2 : (sem mk mg ml mls ms (mRf x)).1 = mRo x
                  · rw [if_pos (decide_eq_true q2)] <;> omega
                  · rw [if_neg (by rw [decide_eq_false q2]; decide)] <;> omega
                · rw [if_neg q] at hw2
                  rw [Bool.eq_false_iff.mpr q, Bool.false_and]
                  show _ = (0 : Int)
                  omega⟩) (by (try dsimp only); exact (by omega)) _ _ _ hP hD hS (lv_sub hl [0, 1, 3] rfl)
set_option maxHeartbeats 4000000 in
set_option maxRecDepth 100000 in
theorem c_X7_kinds (l : Launch) (D : va_G) (cI cS : ClassId) (mA : Nat → Nat) (mf : Int) (mn : Int) (ml : Int) (mk : Int → Int) (mg : Int → Int) (mls : Int → Int) (ms : Int → Int) (mra : Int) (mrf : Int) (mrk : Int → Int) (mrg : Int → Int) (mrl : Int → Int) (mrs : Int → Int) (mo : Int) (moo : Int → Int) (moa : Int → Int) (mp : Int) (mpp : Int → Int) (mfi : Int) (mpl : Int) (mpo : Int → Int) (mro : Int → Int) (mdp : Int) (mdf : Int) (mhg : Int → Int) (mhk : Int → Int) (mR : Int) (mRf : Int → Int) (mRo : Int → Int) (mss : Int → Int) (msl : Int → Int) (msh : Int → Int) (mha : Int → Int) (mt : Int) (sz : Nat) (f : Int) (hok : okP mn mls ms) (hkk : okK mn mk mg ml) (hmR : 0 ≤ mR ∧ mR ≤ 8) (hrd : ∀ x : Int, 0 ≤ x → x < mR → (0 ≤ mRf x ∧ mRf x < mn) ∧ 0 ≤ mRo x ∧ mRo x ≤ 4) (hfr : -2147483648 ≤ f ∧ f < 2147483648) : Met l yX7_kinds wsX7_kinds ({ frames := 5, cells := 0, slots := 0, locals := 112 }) (cP D cI cS (W_M cI cS mA mf mn ml mk mg mls ms mra mrf mrk mrg mrl mrs mo moo moa mp mpp mfi mpl mpo mro mdp mdf mhg mhk mR mRf mRo mss msl msh mha mt) sz [.ref (mA 0), .int (iI f)]) (va_Qi (fun (r : Int32) (u : Int × (Int → Int) × (Int → Int) × Int × (Int → Int) × Int × Int × (Int → Int)) => r = iI (sKinds mn ml mk mg mls ms mR mRf mRo f)) (fun (u : Int × (Int → Int) × (Int → Int) × Int × (Int → Int) × Int × Int × (Int → Int)) t => cB D (va_A (W_M cI cS mA mf mn ml mk mg mls ms mra mrf mrk mrg mrl mrs mo moo moa mp mpp mfi mpl mpo mro mdp mdf mhg mhk mR mRf mRo mss msl msh mha mt) sz) (W_M cI cS mA mf mn ml mk mg mls ms mra mrf mrk mrg mrl mrs u.1 u.2.1 u.2.2.1 u.2.2.2.1 u.2.2.2.2.1 u.2.2.2.2.2.1 u.2.2.2.2.2.2.1 u.2.2.2.2.2.2.2 mro mdp mdf mhg mhk mR mRf mRo mss msl msh mha mt) t) (va_A (W_M cI cS mA mf mn ml mk mg mls ms mra mrf mrk mrg mrl mrs mo moo moa mp mpp mfi mpl mpo mro mdp mdf mhg mhk mR mRf mRo mss msl msh mha mt) sz)) 0 0 (va_A (W_M cI cS mA mf mn ml mk mg mls ms mra mrf mrk mrg mrl mrs mo moo moa mp mpp mfi mpl mpo mro mdp mdf mhg mhk mR mRf mRo mss msl msh mha mt) sz) := by
  refine Met.ofW (cc := cX7_kinds) (maxL := 5) (ret := (some .int)) (by decide) rfl ?_
  intro p e s m args below meth c_ s₁ B hml hv
  obtain ⟨rfl, hsz, hP, hK, hD0⟩ := hv
  have hx := B.exec
  have hb := B.bytes
  have hr := B.returns
  have hts := atoms_spec (ws := wsX7_kinds) B.pre
  have hown : s.vm.findClass RX7 = some m.cls := findClass_of_methodNamed B.named
  have hlocks := B.notSynchronized
  subst hsz
  have hD := hD0.self (sz := s.heap.size)
  generalize hAe : va_A (W_M cI cS mA mf mn ml mk mg mls ms mra mrf mrk mrg mrl mrs mo moo moa mp mpp mfi mpl mpo mro mdp mdf mhg mhk mR mRf mRo mss msl msh mha mt) s.heap.size = A at hD ⊢
  have hA : ∀ q : Nat, s.heap.size ≤ q → A q := fun q h => by rw [← hAe]; exact Or.inr h
  have hS : va_S A s.heap s.heap [] := va_S.rf
  have hP : va_P D vwCl (W_M cI cS mA mf mn ml mk mg mls ms mra mrf mrk mrg mrl mrs mo moo moa mp mpp mfi mpl mpo mro mdp mdf mhg mhk mR mRf mRo mss msl msh mha mt) s.heap := hP
  have hl := lv_entry ([.ref (mA 0), .int (iI f)] : List Value) (n := 5) (Nat.le_of_ble_eq_true rfl)
  rw [lg_entry_eq]
  generalize (lg_sl ([.ref (mA 0), .int (iI f)] : List Value) ++ List.replicate (5 - (lg_sl ([.ref (mA 0), .int (iI f)] : List Value)).length) Slot.unset).toArray = ls at hl ⊢
  have hl : lv_has ls 5 [(0, .ref (mA 0)), (1, .int (iI f))] := hl
  have fl_7 := hts (.fieldLink RX7 7 "ActRowsModel" "kindOf" "[I") (by decide +kernel)
  have iw_7 : ∀ w ∈ wsX70, w ∈ wsX7_kinds := by decide +kernel
  have hmn := hok.1
  have hln := hok.2.1
  refine lv_aload_n hx hb dX7_kinds_0 rfl (lv_at hl 0 rfl) ?_
  refine lv_iload_n hx hb dX7_kinds_1 rfl (lv_at hl 1 rfl) ?_
  refine x_callVi (As := [.int (iI f)]) (rest := []) ⟨hx, hb, hml, hown, hts⟩ (c_X7_noFunction l D cI cS mA mf mn ml mk mg mls ms mra mrf mrk mrg mrl mrs mo moo moa mp mpp mfi mpl mpo mro mdp mdf mhg mhk mR mRf mRo mss msl msh mha mt s.heap.size f (by first | assumption | omega) (by first | assumption | omega)) (cwV 1 hts gX7_kinds_X7_noFunction rfl rfl rfl (by decide +kernel) ⟨Nat.le_of_ble_eq_true rfl, Nat.le_of_ble_eq_true rfl⟩) hK hP hD hS hA [0, 1, 2, 3, 4, 5, 6, 7, 8, 9, 10, 11, 12, 13, 14, 15, 16, 17, 18, 19, 20, 21] [] (wr := ([] : va_W)) rfl rfl (by decide) (by decide) (by decide) 0 7 rfl rfl rfl [0, 1, 2, 3, 4, 5, 6, 7, 8, 9, 10, 11, 12, 13, 14, 15, 16, 17, 18, 19, 20, 21] (fun (u : Unit) => (W_M cI cS mA mf mn ml mk mg mls ms mra mrf mrk mrg mrl mrs mo moo moa mp mpp mfi mpl mpo mro mdp mdf mhg mhk mR mRf mRo mss msl msh mha mt)) (fun _ => rfl) (by decide) rfl hl.1 rfl (Nat.le_of_ble_eq_true rfl) ⟨Nat.zero_le _, Nat.zero_le _⟩ dX7_kinds_2 (fun r_ u_ H locs hw hP hD hS => ?_)
  try dsimp only at hw
  subst hw
  have hP : va_P D vwCl (W_M cI cS mA mf mn ml mk mg mls ms mra mrf mrk mrg mrl mrs mo moo moa mp mpp mfi mpl mpo mro mdp mdf mhg mhk mR mRf mRo mss msl msh mha mt) H := hP
  have hD : va_D A (W_M cI cS mA mf mn ml mk mg mls ms mra mrf mrk mrg mrl mrs mo moo moa mp mpp mfi mpl mpo mro mdp mdf mhg mhk mR mRf mRo mss msl msh mha mt) := hD
  refine n_if_b1 (tgt := 10) hx hb dX7_kinds_5 (by decide)  (fun c_1 => ?_) (fun c_1 => ?_)
  ·
    have hf : 0 ≤ f ∧ f < mn := by omega
    have hkf := hkk.1 f hf.1 hf.2
    refine lv_aload_n hx hb dX7_kinds_10 rfl (lv_at hl 0 rfl) ?_
    refine va_get (D := D) (ci := 7) (v := .ref (mA 1)) (C := RX7) (T := TX7) (N := 34) hx hb hts iw_7 hown hK.1 hP 0 rfl rfl 3 (by decide) fl_7 (fun _ h9 => h9) rfl dX7_kinds_11 ?_
    refine lv_iload_n hx hb dX7_kinds_14 rfl (lv_at hl 1 rfl) ?_
    refine n_iald (n := 5) hx hb hK.1 hP 1 0 rfl rfl (by omega) (by decide) dX7_kinds_15 ?_
    refine lv_istore_n (lv' := [(2, .int (iI (mk f))), (0, .ref (mA 0)), (1, .int (iI f))]) hx hb dX7_kinds_16 rfl hl (by decide) rfl (fun ls hl => ?_)
    refine lv_iconst (v := iI 0) hx hb dX7_kinds_17 (by decide +kernel) ?_
    refine lv_istore_n (lv' := [(3, .int (iI 0)), (2, .int (iI (mk f))), (0, .ref (mA 0)), (1, .int (iI f))]) hx hb dX7_kinds_18 rfl hl (by decide) rfl (fun ls hl => ?_)
    refine lv_iconst (v := iI 0) hx hb dX7_kinds_19 (by decide +kernel) ?_
    refine lv_istore (lv' := [(4, .int (iI 0)), (3, .int (iI 0)), (2, .int (iI (mk f))), (0, .ref (mA 0)), (1, .int (iI f))]) hx hb dX7_kinds_20 hl (by decide) rfl (fun ls hl => ?_)
    refine x_loop (σ := Int × Int × (Int → Int) × Int × (Int → Int) × (Int → Int) × Int × (Int → Int) × Int × Int × (Int → Int)) (fun (xv_ : Int × Int × (Int → Int) × Int × (Int → Int) × (Int → Int) × Int × (Int → Int) × Int × Int × (Int → Int)) => match xv_ with | (fd, y, mk1, mo9, moo9, moa9, mp9, mpp9, mfi9, mpl9, mpo9) => (0 ≤ y ∧ y ≤ 3) ∧ (∀ j : Int, j ≠ f → mk1 j = mk j) ∧ (okK mn mk1 mg ml) ∧ (fd = bitsGo (fun y => soK ml (updI mk f y) mg mls ms mR mRf mRo) y.toNat)) (fun (xv_ : Int × Int × (Int → Int) × Int × (Int → Int) × (Int → Int) × Int × (Int → Int) × Int × Int × (Int → Int)) => match xv_ with | (fd, y, mk1, mo9, moo9, moa9, mp9, mpp9, mfi9, mpl9, mpo9) => (3 - y).toNat) (fun (xv_ : Int × Int × (Int → Int) × Int × (Int → Int) × (Int → Int) × Int × (Int → Int) × Int × Int × (Int → Int)) => match xv_ with | (fd, y, mk1, mo9, moo9, moa9, mp9, mpp9, mfi9, mpl9, mpo9) => (W_M cI cS mA mf mn ml mk1 mg mls ms mra mrf mrk mrg mrl mrs mo9 moo9 moa9 mp9 mpp9 mfi9 mpl9 mpo9 mro mdp mdf mhg mhk mR mRf mRo mss msl msh mha mt)) (fun (xv_ : Int × Int × (Int → Int) × Int × (Int → Int) × (Int → Int) × Int × (Int → Int) × Int × Int × (Int → Int)) => match xv_ with | (fd, y, mk1, mo9, moo9, moa9, mp9, mpp9, mfi9, mpl9, mpo9) => [(4, .int (iI y)), (3, .int (iI fd)), (2, .int (iI (mk f))), (0, .ref (mA 0)), (1, .int (iI f))]) (nL := 5) ?step_2 (0, 0, mk, mo, moo, moa, mp, mpp, mfi, mpl, mpo) (by (try dsimp only); exact ⟨by omega, fun _ _ => rfl, hkk, rfl⟩) hP hD hS (lv_sub hl [0, 1, 2, 3, 4] rfl)
    case step_2 =>
      intro xv_ hI ih H locs ls hP hD hS hl
      obtain ⟨fd, y, mk1, mo9, moo9, moa9, mp9, mpp9, mfi9, mpl9, mpo9⟩ := xv_
      try dsimp only at hI ih
      obtain ⟨hy_, htk, hko1, hm⟩ := hI
      have hP : va_P D vwCl (W_M cI cS mA mf mn ml mk1 mg mls ms mra mrf mrk mrg mrl mrs mo9 moo9 moa9 mp9 mpp9 mfi9 mpl9 mpo9 mro mdp mdf mhg mhk mR mRf mRo mss msl msh mha mt) H := hP
      have hD : va_D A (W_M cI cS mA mf mn ml mk1 mg mls ms mra mrf mrk mrg mrl mrs mo9 moo9 moa9 mp9 mpp9 mfi9 mpl9 mpo9 mro mdp mdf mhg mhk mR mRf mRo mss msl msh mha mt) := hD
      have hl : lv_has ls 5 [(4, .int (iI y)), (3, .int (iI fd)), (2, .int (iI (mk f))), (0, .ref (mA 0)), (1, .int (iI f))] := hl
      have ih_3 := ih
      refine lv_iload hx hb dX7_kinds_22 (lv_at hl 0 rfl) ?_
      refine lv_iconst (v := iI 3) hx hb dX7_kinds_24 (by decide +kernel) ?_
      refine n_icmp_ge (tgt := 60) hx hb dX7_kinds_25 (by decide) (by omega) (fun c_4 => ?_) (fun c_4 => ?_)
      ·
        refine lv_aload_n hx hb dX7_kinds_60 rfl (lv_at hl 3 rfl) ?_
        refine va_get (D := D) (ci := 7) (v := .ref (mA 1)) (C := RX7) (T := TX7) (N := 34) hx hb hts iw_7 hown hK.1 hP 0 rfl rfl 3 (by decide) fl_7 (fun _ h9 => h9) rfl dX7_kinds_61 ?_
        refine lv_iload_n hx hb dX7_kinds_64 rfl (lv_at hl 4 rfl) ?_
        refine lv_iload_n hx hb dX7_kinds_65 rfl (lv_at hl 2 rfl) ?_
        refine n_iast (n := 5) hx hb hK.1 hP hD hS 1 0 rfl rfl (by omega) (by decide) dX7_kinds_66 (fun H locs hP hD hS => ?_)
        have hP : va_P D vwCl (W_M cI cS mA mf mn ml (updI mk1 f (mk f)) mg mls ms mra mrf mrk mrg mrl mrs mo9 moo9 moa9 mp9 mpp9 mfi9 mpl9 mpo9 mro mdp mdf mhg mhk mR mRf mRo mss msl msh mha mt) H := hP
        have hD : va_D A (W_M cI cS mA mf mn ml (updI mk1 f (mk f)) mg mls ms mra mrf mrk mrg mrl mrs mo9 moo9 moa9 mp9 mpp9 mfi9 mpl9 mpo9 mro mdp mdf mhg mhk mR mRf mRo mss msl msh mha mt) := hD
        refine lv_iload_n hx hb dX7_kinds_67 rfl (lv_at hl 1 rfl) ?_
        have e_5 : ((updI mk1 f (mk f)) : Int → Int) = mk := (by funext j; unfold updI; by_cases e : j = f; (rw [if_pos e, e]); (rw [if_neg e]; exact htk j e))
        have hP : va_P D vwCl (W_M cI cS mA mf mn ml mk mg mls ms mra mrf mrk mrg mrl mrs mo9 moo9 moa9 mp9 mpp9 mfi9 mpl9 mpo9 mro mdp mdf mhg mhk mR mRf mRo mss msl msh mha mt) H := Eq.mp (congrArg (fun z_ => va_P D vwCl (W_M cI cS mA mf mn ml z_ mg mls ms mra mrf mrk mrg mrl mrs mo9 moo9 moa9 mp9 mpp9 mfi9 mpl9 mpo9 mro mdp mdf mhg mhk mR mRf mRo mss msl msh mha mt) H) e_5) hP
        have hD : va_D A (W_M cI cS mA mf mn ml mk mg mls ms mra mrf mrk mrg mrl mrs mo9 moo9 moa9 mp9 mpp9 mfi9 mpl9 mpo9 mro mdp mdf mhg mhk mR mRf mRo mss msl msh mha mt) := Eq.mp (congrArg (fun z_ => va_D A (W_M cI cS mA mf mn ml z_ mg mls ms mra mrf mrk mrg mrl mrs mo9 moo9 moa9 mp9 mpp9 mfi9 mpl9 mpo9 mro mdp mdf mhg mhk mR mRf mRo mss msl msh mha mt)) e_5) hD
        exact W.iret (v := iI fd) hx hb hr (fun t ht hW => ⟨⟨_, (mo9, moo9, moa9, mp9, mpp9, mfi9, mpl9, mpo9), rfl, congrArg iI (show fd = (sKinds mn ml mk mg mls ms mR mRf mRo f) from (by unfold sKinds; rw [if_pos (by omega), hm, show y = 3 by omega]; rfl)), by rw [ht]; exact hP, hD⟩, hS.F ht⟩) hS.2.2 dX7_kinds_68
      ·
        have hko3 : okK mn (updI mk1 f y) mg ml := okK_updK hko1 (by omega)
        have he9 : updI mk1 f y = updI mk f y := by funext j; unfold updI; by_cases e : j = f; (rw [if_pos e, if_pos e]); (rw [if_neg e, if_neg e]; exact htk j e)
        have hbr := bitsGo_rng (fun y => soK ml (updI mk f y) mg mls ms mR mRf mRo) y.toNat (by omega)
        rw [← hm] at hbr
        have hp2 := pow2_rng (k := y) (by omega)
        refine lv_aload_n hx hb dX7_kinds_28 rfl (lv_at hl 3 rfl) ?_
        refine va_get (D := D) (ci := 7) (v := .ref (mA 1)) (C := RX7) (T := TX7) (N := 34) hx hb hts iw_7 hown hK.1 hP 0 rfl rfl 3 (by decide) fl_7 (fun _ h9 => h9) rfl dX7_kinds_29 ?_
        refine lv_iload_n hx hb dX7_kinds_32 rfl (lv_at hl 4 rfl) ?_
        refine lv_iload hx hb dX7_kinds_33 (lv_at hl 0 rfl) ?_
        refine n_iast (n := 5) hx hb hK.1 hP hD hS 1 0 rfl rfl (by omega) (by decide) dX7_kinds_35 (fun H locs hP hD hS => ?_)
        have hP : va_P D vwCl (W_M cI cS mA mf mn ml (updI mk1 f y) mg mls ms mra mrf mrk mrg mrl mrs mo9 moo9 moa9 mp9 mpp9 mfi9 mpl9 mpo9 mro mdp mdf mhg mhk mR mRf mRo mss msl msh mha mt) H := hP
        have hD : va_D A (W_M cI cS mA mf mn ml (updI mk1 f y) mg mls ms mra mrf mrk mrg mrl mrs mo9 moo9 moa9 mp9 mpp9 mfi9 mpl9 mpo9 mro mdp mdf mhg mhk mR mRf mRo mss msl msh mha mt) := hD
        refine lv_iload_n hx hb dX7_kinds_36 rfl (lv_at hl 1 rfl) ?_
        refine lv_aload_n hx hb dX7_kinds_37 rfl (lv_at hl 3 rfl) ?_
        refine x_callVi (As := []) (rest := [.int (iI fd)]) ⟨hx, hb, hml, hown, hts⟩ (c_X7_areSo l D cI cS mA mf mn ml (updI mk1 f y) mg mls ms mra mrf mrk mrg mrl mrs mo9 moo9 moa9 mp9 mpp9 mfi9 mpl9 mpo9 mro mdp mdf mhg mhk mR mRf mRo mss msl msh mha mt H.size (by first | assumption | omega) hko3 (by first | assumption | omega) (by first | assumption | omega)) (cwV 0 hts gX7_kinds_X7_areSo rfl rfl rfl (by decide +kernel) ⟨Nat.le_of_ble_eq_true rfl, Nat.le_of_ble_eq_true rfl⟩) hK hP hD hS hA [0, 1, 2, 3, 4, 5, 6, 7, 8, 9, 10, 11, 12, 13, 14, 15, 16, 17, 18, 19, 20, 21] [] (wr := ([] : va_W)) rfl rfl (by decide) (by decide) (by decide) 0 7 rfl rfl rfl [0, 1, 2, 3, 4, 5, 6, 7, 8, 9, 10, 11, 12, 13, 14, 15, 16, 17, 18, 19, 20, 21] (fun (u : Int × (Int → Int) × (Int → Int) × Int × (Int → Int) × Int × Int × (Int → Int)) => (W_M cI cS mA mf mn ml (updI mk1 f y) mg mls ms mra mrf mrk mrg mrl mrs u.1 u.2.1 u.2.2.1 u.2.2.2.1 u.2.2.2.2.1 u.2.2.2.2.2.1 u.2.2.2.2.2.2.1 u.2.2.2.2.2.2.2 mro mdp mdf mhg mhk mR mRf mRo mss msl msh mha mt)) (fun _ => rfl) (by decide) rfl hl.1 rfl (Nat.le_of_ble_eq_true rfl) ⟨Nat.zero_le _, Nat.zero_le _⟩ dX7_kinds_38 (fun r_ u_ H locs hw hP hD hS => ?_)
        obtain ⟨mo_6, moo_7, moa_8, mp_9, mpp_10, mfi_11, mpl_12, mpo_13⟩ := u_
        try dsimp only at hw
        subst hw
        have hP : va_P D vwCl (W_M cI cS mA mf mn ml (updI mk1 f y) mg mls ms mra mrf mrk mrg mrl mrs mo_6 moo_7 moa_8 mp_9 mpp_10 mfi_11 mpl_12 mpo_13 mro mdp mdf mhg mhk mR mRf mRo mss msl msh mha mt) H := hP
        have hD : va_D A (W_M cI cS mA mf mn ml (updI mk1 f y) mg mls ms mra mrf mrk mrg mrl mrs mo_6 moo_7 moa_8 mp_9 mpp_10 mfi_11 mpl_12 mpo_13 mro mdp mdf mhg mhk mR mRf mRo mss msl msh mha mt) := hD
        refine n_if_b1 (tgt := 51) hx hb dX7_kinds_41 (by decide)  (fun c_14 => ?_) (fun c_14 => ?_)
        ·
          refine lv_iconst (v := iI 0) hx hb dX7_kinds_51 (by decide +kernel) ?_
          refine n_ior (z := (orI fd 0)) (b_or (by omega)) hx hb dX7_kinds_52 ?_
          refine lv_istore_n (lv' := [(3, .int (iI (orI fd 0))), (4, .int (iI y)), (2, .int (iI (mk f))), (0, .ref (mA 0)), (1, .int (iI f))]) hx hb dX7_kinds_53 rfl hl (by decide) rfl (fun ls hl => ?_)
          refine n_iinc (lv' := [(4, .int (iI (y + 1))), (3, .int (iI (orI fd 0))), (2, .int (iI (mk f))), (0, .ref (mA 0)), (1, .int (iI f))]) hx hb dX7_kinds_54 hl (k := 1) rfl (by decide) rfl (fun ls hl => ?_)
          refine lv_goto (tgt := 22) hx hb dX7_kinds_57 (by decide) ?_
          exact ih_3 ((orI fd 0), (y + 1), (updI mk1 f y), mo_6, moo_7, moa_8, mp_9, mpp_10, mfi_11, mpl_12, mpo_13) (by (try dsimp only); exact ⟨by omega, fun j hj => (updI_n hj).trans (htk j hj), hko3, by rw [bitsGo_s _ hy_.1, ← hm]; show _ = if soI _ _ _ _ = true then _ else _; rw [← he9]; first | (rw [if_pos (by assumption)]; done) | (rw [if_neg (by assumption)]; exact orI_0 (by omega))⟩) (by (try dsimp only); exact (by omega)) _ _ _ hP hD hS (lv_sub hl [0, 1, 2, 3, 4] rfl)
        ·
          refine lv_iconst (v := iI 1) hx hb dX7_kinds_44 (by decide +kernel) ?_
          refine lv_iload hx hb dX7_kinds_45 (lv_at hl 0 rfl) ?_
          refine n_ishl (z := (pow2 y)) (b_shl (by omega)) hx hb dX7_kinds_47 ?_
          refine lv_goto (tgt := 52) hx hb dX7_kinds_48 (by decide) ?_
          refine n_ior (z := (orI fd (pow2 y))) (b_or (by omega)) hx hb dX7_kinds_52 ?_
          refine lv_istore_n (lv' := [(3, .int (iI (orI fd (pow2 y)))), (4, .int (iI y)), (2, .int (iI (mk f))), (0, .ref (mA 0)), (1, .int (iI f))]) hx hb dX7_kinds_53 rfl hl (by decide) rfl (fun ls hl => ?_)
          refine n_iinc (lv' := [(4, .int (iI (y + 1))), (3, .int (iI (orI fd (pow2 y)))), (2, .int (iI (mk f))), (0, .ref (mA 0)), (1, .int (iI f))]) hx hb dX7_kinds_54 hl (k := 1) rfl (by decide) rfl (fun ls hl => ?_)
          refine lv_goto (tgt := 22) hx hb dX7_kinds_57 (by decide) ?_
          exact ih_3 ((orI fd (pow2 y)), (y + 1), (updI mk1 f y), mo_6, moo_7, moa_8, mp_9, mpp_10, mfi_11, mpl_12, mpo_13) (by (try dsimp only); exact ⟨by omega, fun j hj => (updI_n hj).trans (htk j hj), hko3, by rw [bitsGo_s _ hy_.1, ← hm]; show _ = if soI _ _ _ _ = true then _ else _; rw [← he9]; first | (rw [if_pos (by assumption)]; done) | (rw [if_neg (by assumption)]; exact orI_0 (by omega))⟩) (by (try dsimp only); exact (by omega)) _ _ _ hP hD hS (lv_sub hl [0, 1, 2, 3, 4] rfl)
  ·
    refine lv_iconst (v := iI (-1)) hx hb dX7_kinds_8 (by decide +kernel) ?_
    exact W.iret (v := iI (-1)) hx hb hr (fun t ht hW => ⟨⟨_, (mo, moo, moa, mp, mpp, mfi, mpl, mpo), rfl, congrArg iI (show (-1) = (sKinds mn ml mk mg mls ms mR mRf mRo f) from (by unfold sKinds; (repeat (first | rw [if_pos (by omega)] | rw [if_neg (by omega)])))), by rw [ht]; exact hP, hD⟩, hS.F ht⟩) hS.2.2 dX7_kinds_9
set_option maxHeartbeats 4000000 in
set_option maxRecDepth 100000 in
theorem c_X7_guards (l : Launch) (D : va_G) (cI cS : ClassId) (mA : Nat → Nat) (mf : Int) (mn : Int) (ml : Int) (mk : Int → Int) (mg : Int → Int) (mls : Int → Int) (ms : Int → Int) (mra : Int) (mrf : Int) (mrk : Int → Int) (mrg : Int → Int) (mrl : Int → Int) (mrs : Int → Int) (mo : Int) (moo : Int → Int) (moa : Int → Int) (mp : Int) (mpp : Int → Int) (mfi : Int) (mpl : Int) (mpo : Int → Int) (mro : Int → Int) (mdp : Int) (mdf : Int) (mhg : Int → Int) (mhk : Int → Int) (mR : Int) (mRf : Int → Int) (mRo : Int → Int) (mss : Int → Int) (msl : Int → Int) (msh : Int → Int) (mha : Int → Int) (mt : Int) (sz : Nat) (f : Int) (hok : okP mn mls ms) (hkk : okK mn mk mg ml) (hmR : 0 ≤ mR ∧ mR ≤ 8) (hrd : ∀ x : Int, 0 ≤ x → x < mR → (0 ≤ mRf x ∧ mRf x < mn) ∧ 0 ≤ mRo x ∧ mRo x ≤ 4) (hfr : -2147483648 ≤ f ∧ f < 2147483648) : Met l yX7_guards wsX7_guards ({ frames := 5, cells := 0, slots := 0, locals := 112 }) (cP D cI cS (W_M cI cS mA mf mn ml mk mg mls ms mra mrf mrk mrg mrl mrs mo moo moa mp mpp mfi mpl mpo mro mdp mdf mhg mhk mR mRf mRo mss msl msh mha mt) sz [.ref (mA 0), .int (iI f)]) (va_Qi (fun (r : Int32) (u : Int × (Int → Int) × (Int → Int) × Int × (Int → Int) × Int × Int × (Int → Int)) => r = iI (sGuards mn ml mk mg mls ms mR mRf mRo f)) (fun (u : Int × (Int → Int) × (Int → Int) × Int × (Int → Int) × Int × Int × (Int → Int)) t => cB D (va_A (W_M cI cS mA mf mn ml mk mg mls ms mra mrf mrk mrg mrl mrs mo moo moa mp mpp mfi mpl mpo mro mdp mdf mhg mhk mR mRf mRo mss msl msh mha mt) sz) (W_M cI cS mA mf mn ml mk mg mls ms mra mrf mrk mrg mrl mrs u.1 u.2.1 u.2.2.1 u.2.2.2.1 u.2.2.2.2.1 u.2.2.2.2.2.1 u.2.2.2.2.2.2.1 u.2.2.2.2.2.2.2 mro mdp mdf mhg mhk mR mRf mRo mss msl msh mha mt) t) (va_A (W_M cI cS mA mf mn ml mk mg mls ms mra mrf mrk mrg mrl mrs mo moo moa mp mpp mfi mpl mpo mro mdp mdf mhg mhk mR mRf mRo mss msl msh mha mt) sz)) 0 0 (va_A (W_M cI cS mA mf mn ml mk mg mls ms mra mrf mrk mrg mrl mrs mo moo moa mp mpp mfi mpl mpo mro mdp mdf mhg mhk mR mRf mRo mss msl msh mha mt) sz) := by
  refine Met.ofW (cc := cX7_guards) (maxL := 5) (ret := (some .int)) (by decide) rfl ?_
  intro p e s m args below meth c_ s₁ B hml hv
  obtain ⟨rfl, hsz, hP, hK, hD0⟩ := hv
  have hx := B.exec
  have hb := B.bytes
  have hr := B.returns
  have hts := atoms_spec (ws := wsX7_guards) B.pre
  have hown : s.vm.findClass RX7 = some m.cls := findClass_of_methodNamed B.named
  have hlocks := B.notSynchronized
  subst hsz
  have hD := hD0.self (sz := s.heap.size)
  generalize hAe : va_A (W_M cI cS mA mf mn ml mk mg mls ms mra mrf mrk mrg mrl mrs mo moo moa mp mpp mfi mpl mpo mro mdp mdf mhg mhk mR mRf mRo mss msl msh mha mt) s.heap.size = A at hD ⊢
  have hA : ∀ q : Nat, s.heap.size ≤ q → A q := fun q h => by rw [← hAe]; exact Or.inr h
  have hS : va_S A s.heap s.heap [] := va_S.rf
  have hP : va_P D vwCl (W_M cI cS mA mf mn ml mk mg mls ms mra mrf mrk mrg mrl mrs mo moo moa mp mpp mfi mpl mpo mro mdp mdf mhg mhk mR mRf mRo mss msl msh mha mt) s.heap := hP
  have hl := lv_entry ([.ref (mA 0), .int (iI f)] : List Value) (n := 5) (Nat.le_of_ble_eq_true rfl)
  rw [lg_entry_eq]
  generalize (lg_sl ([.ref (mA 0), .int (iI f)] : List Value) ++ List.replicate (5 - (lg_sl ([.ref (mA 0), .int (iI f)] : List Value)).length) Slot.unset).toArray = ls at hl ⊢
  have hl : lv_has ls 5 [(0, .ref (mA 0)), (1, .int (iI f))] := hl
  have fl_13 := hts (.fieldLink RX7 13 "ActRowsModel" "guardOf" "[I") (by decide +kernel)
  have iw_7 : ∀ w ∈ wsX70, w ∈ wsX7_guards := by decide +kernel
  have hmn := hok.1
  have hln := hok.2.1
  refine lv_aload_n hx hb dX7_guards_0 rfl (lv_at hl 0 rfl) ?_
  refine lv_iload_n hx hb dX7_guards_1 rfl (lv_at hl 1 rfl) ?_
  refine x_callVi (As := [.int (iI f)]) (rest := []) ⟨hx, hb, hml, hown, hts⟩ (c_X7_noFunction l D cI cS mA mf mn ml mk mg mls ms mra mrf mrk mrg mrl mrs mo moo moa mp mpp mfi mpl mpo mro mdp mdf mhg mhk mR mRf mRo mss msl msh mha mt s.heap.size f (by first | assumption | omega) (by first | assumption | omega)) (cwV 1 hts gX7_guards_X7_noFunction rfl rfl rfl (by decide +kernel) ⟨Nat.le_of_ble_eq_true rfl, Nat.le_of_ble_eq_true rfl⟩) hK hP hD hS hA [0, 1, 2, 3, 4, 5, 6, 7, 8, 9, 10, 11, 12, 13, 14, 15, 16, 17, 18, 19, 20, 21] [] (wr := ([] : va_W)) rfl rfl (by decide) (by decide) (by decide) 0 7 rfl rfl rfl [0, 1, 2, 3, 4, 5, 6, 7, 8, 9, 10, 11, 12, 13, 14, 15, 16, 17, 18, 19, 20, 21] (fun (u : Unit) => (W_M cI cS mA mf mn ml mk mg mls ms mra mrf mrk mrg mrl mrs mo moo moa mp mpp mfi mpl mpo mro mdp mdf mhg mhk mR mRf mRo mss msl msh mha mt)) (fun _ => rfl) (by decide) rfl hl.1 rfl (Nat.le_of_ble_eq_true rfl) ⟨Nat.zero_le _, Nat.zero_le _⟩ dX7_guards_2 (fun r_ u_ H locs hw hP hD hS => ?_)
  try dsimp only at hw
  subst hw
  have hP : va_P D vwCl (W_M cI cS mA mf mn ml mk mg mls ms mra mrf mrk mrg mrl mrs mo moo moa mp mpp mfi mpl mpo mro mdp mdf mhg mhk mR mRf mRo mss msl msh mha mt) H := hP
  have hD : va_D A (W_M cI cS mA mf mn ml mk mg mls ms mra mrf mrk mrg mrl mrs mo moo moa mp mpp mfi mpl mpo mro mdp mdf mhg mhk mR mRf mRo mss msl msh mha mt) := hD
  refine n_if_b1 (tgt := 10) hx hb dX7_guards_5 (by decide)  (fun c_1 => ?_) (fun c_1 => ?_)
  ·
    have hf : 0 ≤ f ∧ f < mn := by omega
    have hkf := hkk.1 f hf.1 hf.2
    refine lv_aload_n hx hb dX7_guards_10 rfl (lv_at hl 0 rfl) ?_
    refine va_get (D := D) (ci := 7) (v := .ref (mA 2)) (C := RX7) (T := TX7) (N := 34) hx hb hts iw_7 hown hK.1 hP 0 rfl rfl 4 (by decide) fl_13 (fun _ h9 => h9) rfl dX7_guards_11 ?_
    refine lv_iload_n hx hb dX7_guards_14 rfl (lv_at hl 1 rfl) ?_
    refine n_iald (n := 5) hx hb hK.1 hP 2 0 rfl rfl (by omega) (by decide) dX7_guards_15 ?_
    refine lv_istore_n (lv' := [(2, .int (iI (mg f))), (0, .ref (mA 0)), (1, .int (iI f))]) hx hb dX7_guards_16 rfl hl (by decide) rfl (fun ls hl => ?_)
    refine lv_iconst (v := iI 0) hx hb dX7_guards_17 (by decide +kernel) ?_
    refine lv_istore_n (lv' := [(3, .int (iI 0)), (2, .int (iI (mg f))), (0, .ref (mA 0)), (1, .int (iI f))]) hx hb dX7_guards_18 rfl hl (by decide) rfl (fun ls hl => ?_)
    refine lv_iconst (v := iI 0) hx hb dX7_guards_19 (by decide +kernel) ?_
    refine lv_istore (lv' := [(4, .int (iI 0)), (3, .int (iI 0)), (2, .int (iI (mg f))), (0, .ref (mA 0)), (1, .int (iI f))]) hx hb dX7_guards_20 hl (by decide) rfl (fun ls hl => ?_)
    refine x_loop (σ := Int × Int × (Int → Int) × Int × (Int → Int) × (Int → Int) × Int × (Int → Int) × Int × Int × (Int → Int)) (fun (xv_ : Int × Int × (Int → Int) × Int × (Int → Int) × (Int → Int) × Int × (Int → Int) × Int × Int × (Int → Int)) => match xv_ with | (fd, y, mg1, mo9, moo9, moa9, mp9, mpp9, mfi9, mpl9, mpo9) => (0 ≤ y ∧ y ≤ 4) ∧ (∀ j : Int, j ≠ f → mg1 j = mg j) ∧ (okK mn mk mg1 ml) ∧ (fd = bitsGo (fun y => soK ml mk (updI mg f y) mls ms mR mRf mRo) y.toNat)) (fun (xv_ : Int × Int × (Int → Int) × Int × (Int → Int) × (Int → Int) × Int × (Int → Int) × Int × Int × (Int → Int)) => match xv_ with | (fd, y, mg1, mo9, moo9, moa9, mp9, mpp9, mfi9, mpl9, mpo9) => (4 - y).toNat) (fun (xv_ : Int × Int × (Int → Int) × Int × (Int → Int) × (Int → Int) × Int × (Int → Int) × Int × Int × (Int → Int)) => match xv_ with | (fd, y, mg1, mo9, moo9, moa9, mp9, mpp9, mfi9, mpl9, mpo9) => (W_M cI cS mA mf mn ml mk mg1 mls ms mra mrf mrk mrg mrl mrs mo9 moo9 moa9 mp9 mpp9 mfi9 mpl9 mpo9 mro mdp mdf mhg mhk mR mRf mRo mss msl msh mha mt)) (fun (xv_ : Int × Int × (Int → Int) × Int × (Int → Int) × (Int → Int) × Int × (Int → Int) × Int × Int × (Int → Int)) => match xv_ with | (fd, y, mg1, mo9, moo9, moa9, mp9, mpp9, mfi9, mpl9, mpo9) => [(4, .int (iI y)), (3, .int (iI fd)), (2, .int (iI (mg f))), (0, .ref (mA 0)), (1, .int (iI f))]) (nL := 5) ?step_2 (0, 0, mg, mo, moo, moa, mp, mpp, mfi, mpl, mpo) (by (try dsimp only); exact ⟨by omega, fun _ _ => rfl, hkk, rfl⟩) hP hD hS (lv_sub hl [0, 1, 2, 3, 4] rfl)
    case step_2 =>
      intro xv_ hI ih H locs ls hP hD hS hl
      obtain ⟨fd, y, mg1, mo9, moo9, moa9, mp9, mpp9, mfi9, mpl9, mpo9⟩ := xv_
      try dsimp only at hI ih
      obtain ⟨hy_, htk, hko1, hm⟩ := hI
      have hP : va_P D vwCl (W_M cI cS mA mf mn ml mk mg1 mls ms mra mrf mrk mrg mrl mrs mo9 moo9 moa9 mp9 mpp9 mfi9 mpl9 mpo9 mro mdp mdf mhg mhk mR mRf mRo mss msl msh mha mt) H := hP
      have hD : va_D A (W_M cI cS mA mf mn ml mk mg1 mls ms mra mrf mrk mrg mrl mrs mo9 moo9 moa9 mp9 mpp9 mfi9 mpl9 mpo9 mro mdp mdf mhg mhk mR mRf mRo mss msl msh mha mt) := hD
      have hl : lv_has ls 5 [(4, .int (iI y)), (3, .int (iI fd)), (2, .int (iI (mg f))), (0, .ref (mA 0)), (1, .int (iI f))] := hl
      have ih_3 := ih
      refine lv_iload hx hb dX7_guards_22 (lv_at hl 0 rfl) ?_
      refine lv_iconst (v := iI 4) hx hb dX7_guards_24 (by decide +kernel) ?_
      refine n_icmp_ge (tgt := 60) hx hb dX7_guards_25 (by decide) (by omega) (fun c_4 => ?_) (fun c_4 => ?_)
      ·
        refine lv_aload_n hx hb dX7_guards_60 rfl (lv_at hl 3 rfl) ?_
        refine va_get (D := D) (ci := 7) (v := .ref (mA 2)) (C := RX7) (T := TX7) (N := 34) hx hb hts iw_7 hown hK.1 hP 0 rfl rfl 4 (by decide) fl_13 (fun _ h9 => h9) rfl dX7_guards_61 ?_
        refine lv_iload_n hx hb dX7_guards_64 rfl (lv_at hl 4 rfl) ?_
        refine lv_iload_n hx hb dX7_guards_65 rfl (lv_at hl 2 rfl) ?_
        refine n_iast (n := 5) hx hb hK.1 hP hD hS 2 0 rfl rfl (by omega) (by decide) dX7_guards_66 (fun H locs hP hD hS => ?_)
        have hP : va_P D vwCl (W_M cI cS mA mf mn ml mk (updI mg1 f (mg f)) mls ms mra mrf mrk mrg mrl mrs mo9 moo9 moa9 mp9 mpp9 mfi9 mpl9 mpo9 mro mdp mdf mhg mhk mR mRf mRo mss msl msh mha mt) H := hP
        have hD : va_D A (W_M cI cS mA mf mn ml mk (updI mg1 f (mg f)) mls ms mra mrf mrk mrg mrl mrs mo9 moo9 moa9 mp9 mpp9 mfi9 mpl9 mpo9 mro mdp mdf mhg mhk mR mRf mRo mss msl msh mha mt) := hD
        refine lv_iload_n hx hb dX7_guards_67 rfl (lv_at hl 1 rfl) ?_
        have e_5 : ((updI mg1 f (mg f)) : Int → Int) = mg := (by funext j; unfold updI; by_cases e : j = f; (rw [if_pos e, e]); (rw [if_neg e]; exact htk j e))
        have hP : va_P D vwCl (W_M cI cS mA mf mn ml mk mg mls ms mra mrf mrk mrg mrl mrs mo9 moo9 moa9 mp9 mpp9 mfi9 mpl9 mpo9 mro mdp mdf mhg mhk mR mRf mRo mss msl msh mha mt) H := Eq.mp (congrArg (fun z_ => va_P D vwCl (W_M cI cS mA mf mn ml mk z_ mls ms mra mrf mrk mrg mrl mrs mo9 moo9 moa9 mp9 mpp9 mfi9 mpl9 mpo9 mro mdp mdf mhg mhk mR mRf mRo mss msl msh mha mt) H) e_5) hP
        have hD : va_D A (W_M cI cS mA mf mn ml mk mg mls ms mra mrf mrk mrg mrl mrs mo9 moo9 moa9 mp9 mpp9 mfi9 mpl9 mpo9 mro mdp mdf mhg mhk mR mRf mRo mss msl msh mha mt) := Eq.mp (congrArg (fun z_ => va_D A (W_M cI cS mA mf mn ml mk z_ mls ms mra mrf mrk mrg mrl mrs mo9 moo9 moa9 mp9 mpp9 mfi9 mpl9 mpo9 mro mdp mdf mhg mhk mR mRf mRo mss msl msh mha mt)) e_5) hD
        exact W.iret (v := iI fd) hx hb hr (fun t ht hW => ⟨⟨_, (mo9, moo9, moa9, mp9, mpp9, mfi9, mpl9, mpo9), rfl, congrArg iI (show fd = (sGuards mn ml mk mg mls ms mR mRf mRo f) from (by unfold sGuards; rw [if_pos (by omega), hm, show y = 4 by omega]; rfl)), by rw [ht]; exact hP, hD⟩, hS.F ht⟩) hS.2.2 dX7_guards_68
      ·
        have hko3 : okK mn mk (updI mg1 f y) ml := okK_updG hko1 (by omega)
        have he9 : updI mg1 f y = updI mg f y := by funext j; unfold updI; by_cases e : j = f; (rw [if_pos e, if_pos e]); (rw [if_neg e, if_neg e]; exact htk j e)
        have hbr := bitsGo_rng (fun y => soK ml mk (updI mg f y) mls ms mR mRf mRo) y.toNat (by omega)
        rw [← hm] at hbr
        have hp2 := pow2_rng (k := y) (by omega)
        refine lv_aload_n hx hb dX7_guards_28 rfl (lv_at hl 3 rfl) ?_
        refine va_get (D := D) (ci := 7) (v := .ref (mA 2)) (C := RX7) (T := TX7) (N := 34) hx hb hts iw_7 hown hK.1 hP 0 rfl rfl 4 (by decide) fl_13 (fun _ h9 => h9) rfl dX7_guards_29 ?_
        refine lv_iload_n hx hb dX7_guards_32 rfl (lv_at hl 4 rfl) ?_
        refine lv_iload hx hb dX7_guards_33 (lv_at hl 0 rfl) ?_
        refine n_iast (n := 5) hx hb hK.1 hP hD hS 2 0 rfl rfl (by omega) (by decide) dX7_guards_35 (fun H locs hP hD hS => ?_)
        have hP : va_P D vwCl (W_M cI cS mA mf mn ml mk (updI mg1 f y) mls ms mra mrf mrk mrg mrl mrs mo9 moo9 moa9 mp9 mpp9 mfi9 mpl9 mpo9 mro mdp mdf mhg mhk mR mRf mRo mss msl msh mha mt) H := hP
        have hD : va_D A (W_M cI cS mA mf mn ml mk (updI mg1 f y) mls ms mra mrf mrk mrg mrl mrs mo9 moo9 moa9 mp9 mpp9 mfi9 mpl9 mpo9 mro mdp mdf mhg mhk mR mRf mRo mss msl msh mha mt) := hD
        refine lv_iload_n hx hb dX7_guards_36 rfl (lv_at hl 1 rfl) ?_
        refine lv_aload_n hx hb dX7_guards_37 rfl (lv_at hl 3 rfl) ?_
        refine x_callVi (As := []) (rest := [.int (iI fd)]) ⟨hx, hb, hml, hown, hts⟩ (c_X7_areSo l D cI cS mA mf mn ml mk (updI mg1 f y) mls ms mra mrf mrk mrg mrl mrs mo9 moo9 moa9 mp9 mpp9 mfi9 mpl9 mpo9 mro mdp mdf mhg mhk mR mRf mRo mss msl msh mha mt H.size (by first | assumption | omega) hko3 (by first | assumption | omega) (by first | assumption | omega)) (cwV 0 hts gX7_guards_X7_areSo rfl rfl rfl (by decide +kernel) ⟨Nat.le_of_ble_eq_true rfl, Nat.le_of_ble_eq_true rfl⟩) hK hP hD hS hA [0, 1, 2, 3, 4, 5, 6, 7, 8, 9, 10, 11, 12, 13, 14, 15, 16, 17, 18, 19, 20, 21] [] (wr := ([] : va_W)) rfl rfl (by decide) (by decide) (by decide) 0 7 rfl rfl rfl [0, 1, 2, 3, 4, 5, 6, 7, 8, 9, 10, 11, 12, 13, 14, 15, 16, 17, 18, 19, 20, 21] (fun (u : Int × (Int → Int) × (Int → Int) × Int × (Int → Int) × Int × Int × (Int → Int)) => (W_M cI cS mA mf mn ml mk (updI mg1 f y) mls ms mra mrf mrk mrg mrl mrs u.1 u.2.1 u.2.2.1 u.2.2.2.1 u.2.2.2.2.1 u.2.2.2.2.2.1 u.2.2.2.2.2.2.1 u.2.2.2.2.2.2.2 mro mdp mdf mhg mhk mR mRf mRo mss msl msh mha mt)) (fun _ => rfl) (by decide) rfl hl.1 rfl (Nat.le_of_ble_eq_true rfl) ⟨Nat.zero_le _, Nat.zero_le _⟩ dX7_guards_38 (fun r_ u_ H locs hw hP hD hS => ?_)
        obtain ⟨mo_6, moo_7, moa_8, mp_9, mpp_10, mfi_11, mpl_12, mpo_13⟩ := u_
        try dsimp only at hw
        subst hw
        have hP : va_P D vwCl (W_M cI cS mA mf mn ml mk (updI mg1 f y) mls ms mra mrf mrk mrg mrl mrs mo_6 moo_7 moa_8 mp_9 mpp_10 mfi_11 mpl_12 mpo_13 mro mdp mdf mhg mhk mR mRf mRo mss msl msh mha mt) H := hP
        have hD : va_D A (W_M cI cS mA mf mn ml mk (updI mg1 f y) mls ms mra mrf mrk mrg mrl mrs mo_6 moo_7 moa_8 mp_9 mpp_10 mfi_11 mpl_12 mpo_13 mro mdp mdf mhg mhk mR mRf mRo mss msl msh mha mt) := hD
        refine n_if_b1 (tgt := 51) hx hb dX7_guards_41 (by decide)  (fun c_14 => ?_) (fun c_14 => ?_)
        ·
          refine lv_iconst (v := iI 0) hx hb dX7_guards_51 (by decide +kernel) ?_
          refine n_ior (z := (orI fd 0)) (b_or (by omega)) hx hb dX7_guards_52 ?_
          refine lv_istore_n (lv' := [(3, .int (iI (orI fd 0))), (4, .int (iI y)), (2, .int (iI (mg f))), (0, .ref (mA 0)), (1, .int (iI f))]) hx hb dX7_guards_53 rfl hl (by decide) rfl (fun ls hl => ?_)
          refine n_iinc (lv' := [(4, .int (iI (y + 1))), (3, .int (iI (orI fd 0))), (2, .int (iI (mg f))), (0, .ref (mA 0)), (1, .int (iI f))]) hx hb dX7_guards_54 hl (k := 1) rfl (by decide) rfl (fun ls hl => ?_)
          refine lv_goto (tgt := 22) hx hb dX7_guards_57 (by decide) ?_
          exact ih_3 ((orI fd 0), (y + 1), (updI mg1 f y), mo_6, moo_7, moa_8, mp_9, mpp_10, mfi_11, mpl_12, mpo_13) (by (try dsimp only); exact ⟨by omega, fun j hj => (updI_n hj).trans (htk j hj), hko3, by rw [bitsGo_s _ hy_.1, ← hm]; show _ = if soI _ _ _ _ = true then _ else _; rw [← he9]; first | (rw [if_pos (by assumption)]; done) | (rw [if_neg (by assumption)]; exact orI_0 (by omega))⟩) (by (try dsimp only); exact (by omega)) _ _ _ hP hD hS (lv_sub hl [0, 1, 2, 3, 4] rfl)
        ·
          refine lv_iconst (v := iI 1) hx hb dX7_guards_44 (by decide +kernel) ?_
          refine lv_iload hx hb dX7_guards_45 (lv_at hl 0 rfl) ?_
          refine n_ishl (z := (pow2 y)) (b_shl (by omega)) hx hb dX7_guards_47 ?_
          refine lv_goto (tgt := 52) hx hb dX7_guards_48 (by decide) ?_
          refine n_ior (z := (orI fd (pow2 y))) (b_or (by omega)) hx hb dX7_guards_52 ?_
          refine lv_istore_n (lv' := [(3, .int (iI (orI fd (pow2 y)))), (4, .int (iI y)), (2, .int (iI (mg f))), (0, .ref (mA 0)), (1, .int (iI f))]) hx hb dX7_guards_53 rfl hl (by decide) rfl (fun ls hl => ?_)
          refine n_iinc (lv' := [(4, .int (iI (y + 1))), (3, .int (iI (orI fd (pow2 y)))), (2, .int (iI (mg f))), (0, .ref (mA 0)), (1, .int (iI f))]) hx hb dX7_guards_54 hl (k := 1) rfl (by decide) rfl (fun ls hl => ?_)
          refine lv_goto (tgt := 22) hx hb dX7_guards_57 (by decide) ?_
          exact ih_3 ((orI fd (pow2 y)), (y + 1), (updI mg1 f y), mo_6, moo_7, moa_8, mp_9, mpp_10, mfi_11, mpl_12, mpo_13) (by (try dsimp only); exact ⟨by omega, fun j hj => (updI_n hj).trans (htk j hj), hko3, by rw [bitsGo_s _ hy_.1, ← hm]; show _ = if soI _ _ _ _ = true then _ else _; rw [← he9]; first | (rw [if_pos (by assumption)]; done) | (rw [if_neg (by assumption)]; exact orI_0 (by omega))⟩) (by (try dsimp only); exact (by omega)) _ _ _ hP hD hS (lv_sub hl [0, 1, 2, 3, 4] rfl)
  ·
    refine lv_iconst (v := iI (-1)) hx hb dX7_guards_8 (by decide +kernel) ?_
    exact W.iret (v := iI (-1)) hx hb hr (fun t ht hW => ⟨⟨_, (mo, moo, moa, mp, mpp, mfi, mpl, mpo), rfl, congrArg iI (show (-1) = (sGuards mn ml mk mg mls ms mR mRf mRo f) from (by unfold sGuards; (repeat (first | rw [if_pos (by omega)] | rw [if_neg (by omega)])))), by rw [ht]; exact hP, hD⟩, hS.F ht⟩) hS.2.2 dX7_guards_9
set_option maxHeartbeats 4000000 in
set_option maxRecDepth 100000 in
theorem c_X7_lives (l : Launch) (D : va_G) (cI cS : ClassId) (mA : Nat → Nat) (mf : Int) (mn : Int) (ml : Int) (mk : Int → Int) (mg : Int → Int) (mls : Int → Int) (ms : Int → Int) (mra : Int) (mrf : Int) (mrk : Int → Int) (mrg : Int → Int) (mrl : Int → Int) (mrs : Int → Int) (mo : Int) (moo : Int → Int) (moa : Int → Int) (mp : Int) (mpp : Int → Int) (mfi : Int) (mpl : Int) (mpo : Int → Int) (mro : Int → Int) (mdp : Int) (mdf : Int) (mhg : Int → Int) (mhk : Int → Int) (mR : Int) (mRf : Int → Int) (mRo : Int → Int) (mss : Int → Int) (msl : Int → Int) (msh : Int → Int) (mha : Int → Int) (mt : Int) (sz : Nat) (hok : okP mn mls ms) (hkk : okK mn mk mg ml) (hmR : 0 ≤ mR ∧ mR ≤ 8) (hrd : ∀ x : Int, 0 ≤ x → x < mR → (0 ≤ mRf x ∧ mRf x < mn) ∧ 0 ≤ mRo x ∧ mRo x ≤ 4) : Met l yX7_lives wsX7_lives ({ frames := 5, cells := 0, slots := 0, locals := 112 }) (cP D cI cS (W_M cI cS mA mf mn ml mk mg mls ms mra mrf mrk mrg mrl mrs mo moo moa mp mpp mfi mpl mpo mro mdp mdf mhg mhk mR mRf mRo mss msl msh mha mt) sz [.ref (mA 0)]) (va_Qi (fun (r : Int32) (u : Int × (Int → Int) × (Int → Int) × Int × (Int → Int) × Int × Int × (Int → Int)) => r = iI (sLives mn mk mg mls ms mR mRf mRo)) (fun (u : Int × (Int → Int) × (Int → Int) × Int × (Int → Int) × Int × Int × (Int → Int)) t => cB D (va_A (W_M cI cS mA mf mn ml mk mg mls ms mra mrf mrk mrg mrl mrs mo moo moa mp mpp mfi mpl mpo mro mdp mdf mhg mhk mR mRf mRo mss msl msh mha mt) sz) (W_M cI cS mA mf mn ml mk mg mls ms mra mrf mrk mrg mrl mrs u.1 u.2.1 u.2.2.1 u.2.2.2.1 u.2.2.2.2.1 u.2.2.2.2.2.1 u.2.2.2.2.2.2.1 u.2.2.2.2.2.2.2 mro mdp mdf mhg mhk mR mRf mRo mss msl msh mha mt) t) (va_A (W_M cI cS mA mf mn ml mk mg mls ms mra mrf mrk mrg mrl mrs mo moo moa mp mpp mfi mpl mpo mro mdp mdf mhg mhk mR mRf mRo mss msl msh mha mt) sz)) 0 0 (va_A (W_M cI cS mA mf mn ml mk mg mls ms mra mrf mrk mrg mrl mrs mo moo moa mp mpp mfi mpl mpo mro mdp mdf mhg mhk mR mRf mRo mss msl msh mha mt) sz) := by
  refine Met.ofW (cc := cX7_lives) (maxL := 4) (ret := (some .int)) (by decide) rfl ?_
  intro p e s m args below meth c_ s₁ B hml hv
  obtain ⟨rfl, hsz, hP, hK, hD0⟩ := hv
  have hx := B.exec
  have hb := B.bytes
  have hr := B.returns
  have hts := atoms_spec (ws := wsX7_lives) B.pre
  have hown : s.vm.findClass RX7 = some m.cls := findClass_of_methodNamed B.named
  have hlocks := B.notSynchronized
  subst hsz
  have hD := hD0.self (sz := s.heap.size)
  generalize hAe : va_A (W_M cI cS mA mf mn ml mk mg mls ms mra mrf mrk mrg mrl mrs mo moo moa mp mpp mfi mpl mpo mro mdp mdf mhg mhk mR mRf mRo mss msl msh mha mt) s.heap.size = A at hD ⊢
  have hA : ∀ q : Nat, s.heap.size ≤ q → A q := fun q h => by rw [← hAe]; exact Or.inr h
  have hS : va_S A s.heap s.heap [] := va_S.rf
  have hP : va_P D vwCl (W_M cI cS mA mf mn ml mk mg mls ms mra mrf mrk mrg mrl mrs mo moo moa mp mpp mfi mpl mpo mro mdp mdf mhg mhk mR mRf mRo mss msl msh mha mt) s.heap := hP
  have hl := lv_entry ([.ref (mA 0)] : List Value) (n := 4) (Nat.le_of_ble_eq_true rfl)
  rw [lg_entry_eq]
  generalize (lg_sl ([.ref (mA 0)] : List Value) ++ List.replicate (4 - (lg_sl ([.ref (mA 0)] : List Value)).length) Slot.unset).toArray = ls at hl ⊢
  have hl : lv_has ls 4 [(0, .ref (mA 0))] := hl
  have fl_83 := hts (.fieldLink RX7 83 "ActRowsModel" "functions" "I") (by decide +kernel)
  have iw_7 : ∀ w ∈ wsX70, w ∈ wsX7_lives := by decide +kernel
  have fl_142 := hts (.fieldLink RX7 142 "ActRowsModel" "liveNow" "I") (by decide +kernel)
  have hmn := hok.1
  have hln := hok.2.1
  refine lv_aload_n hx hb dX7_lives_0 rfl (lv_at hl 0 rfl) ?_
  refine va_get (D := D) (ci := 7) (v := .int (iI mn)) (C := RX7) (T := TX7) (N := 34) hx hb hts iw_7 hown hK.1 hP 0 rfl rfl 1 (by decide) fl_83 (fun _ h9 => h9) rfl dX7_lives_1 ?_
  refine n_if_ne (tgt := 10) hx hb dX7_lives_4 (by decide) (by omega) (fun c_1 => ?_) (fun c_1 => ?_)
  ·
    refine lv_aload_n hx hb dX7_lives_10 rfl (lv_at hl 0 rfl) ?_
    refine va_get (D := D) (ci := 7) (v := .int (iI ml)) (C := RX7) (T := TX7) (N := 34) hx hb hts iw_7 hown hK.1 hP 0 rfl rfl 2 (by decide) fl_142 (fun _ h9 => h9) rfl dX7_lives_11 ?_
    refine lv_istore_n (lv' := [(1, .int (iI ml)), (0, .ref (mA 0))]) hx hb dX7_lives_14 rfl hl (by decide) rfl (fun ls hl => ?_)
    refine lv_iconst (v := iI 0) hx hb dX7_lives_15 (by decide +kernel) ?_
    refine lv_istore_n (lv' := [(2, .int (iI 0)), (1, .int (iI ml)), (0, .ref (mA 0))]) hx hb dX7_lives_16 rfl hl (by decide) rfl (fun ls hl => ?_)
    refine lv_iconst (v := iI 0) hx hb dX7_lives_17 (by decide +kernel) ?_
    refine lv_istore_n (lv' := [(3, .int (iI 0)), (2, .int (iI 0)), (1, .int (iI ml)), (0, .ref (mA 0))]) hx hb dX7_lives_18 rfl hl (by decide) rfl (fun ls hl => ?_)
    refine x_loop (σ := Int × Int × Int × Int × (Int → Int) × (Int → Int) × Int × (Int → Int) × Int × Int × (Int → Int)) (fun (xv_ : Int × Int × Int × Int × (Int → Int) × (Int → Int) × Int × (Int → Int) × Int × Int × (Int → Int)) => match xv_ with | (fd, y, ml1, mo9, moo9, moa9, mp9, mpp9, mfi9, mpl9, mpo9) => (0 ≤ y ∧ y ≤ 16) ∧ (fd = bitsGo (fun y => soK y mk mg mls ms mR mRf mRo) y.toNat)) (fun (xv_ : Int × Int × Int × Int × (Int → Int) × (Int → Int) × Int × (Int → Int) × Int × Int × (Int → Int)) => match xv_ with | (fd, y, ml1, mo9, moo9, moa9, mp9, mpp9, mfi9, mpl9, mpo9) => (16 - y).toNat) (fun (xv_ : Int × Int × Int × Int × (Int → Int) × (Int → Int) × Int × (Int → Int) × Int × Int × (Int → Int)) => match xv_ with | (fd, y, ml1, mo9, moo9, moa9, mp9, mpp9, mfi9, mpl9, mpo9) => (W_M cI cS mA mf mn ml1 mk mg mls ms mra mrf mrk mrg mrl mrs mo9 moo9 moa9 mp9 mpp9 mfi9 mpl9 mpo9 mro mdp mdf mhg mhk mR mRf mRo mss msl msh mha mt)) (fun (xv_ : Int × Int × Int × Int × (Int → Int) × (Int → Int) × Int × (Int → Int) × Int × Int × (Int → Int)) => match xv_ with | (fd, y, ml1, mo9, moo9, moa9, mp9, mpp9, mfi9, mpl9, mpo9) => [(3, .int (iI y)), (2, .int (iI fd)), (1, .int (iI ml)), (0, .ref (mA 0))]) (nL := 4) ?step_2 (0, 0, ml, mo, moo, moa, mp, mpp, mfi, mpl, mpo) (by (try dsimp only); exact ⟨by omega, rfl⟩) hP hD hS (lv_sub hl [0, 1, 2, 3] rfl)
    case step_2 =>
      intro xv_ hI ih H locs ls hP hD hS hl
      obtain ⟨fd, y, ml1, mo9, moo9, moa9, mp9, mpp9, mfi9, mpl9, mpo9⟩ := xv_
      try dsimp only at hI ih
      obtain ⟨hy_, hm⟩ := hI
      have hP : va_P D vwCl (W_M cI cS mA mf mn ml1 mk mg mls ms mra mrf mrk mrg mrl mrs mo9 moo9 moa9 mp9 mpp9 mfi9 mpl9 mpo9 mro mdp mdf mhg mhk mR mRf mRo mss msl msh mha mt) H := hP
      have hD : va_D A (W_M cI cS mA mf mn ml1 mk mg mls ms mra mrf mrk mrg mrl mrs mo9 moo9 moa9 mp9 mpp9 mfi9 mpl9 mpo9 mro mdp mdf mhg mhk mR mRf mRo mss msl msh mha mt) := hD
      have hl : lv_has ls 4 [(3, .int (iI y)), (2, .int (iI fd)), (1, .int (iI ml)), (0, .ref (mA 0))] := hl
      have ih_3 := ih
      refine lv_iload_n hx hb dX7_lives_19 rfl (lv_at hl 0 rfl) ?_
      refine lv_bipush (v := iI 16) hx hb dX7_lives_20 (by decide +kernel) ?_
      refine n_icmp_ge (tgt := 53) hx hb dX7_lives_22 (by decide) (by omega) (fun c_4 => ?_) (fun c_4 => ?_)
      ·
        refine lv_aload_n hx hb dX7_lives_53 rfl (lv_at hl 3 rfl) ?_
        refine lv_iload_n hx hb dX7_lives_54 rfl (lv_at hl 2 rfl) ?_
        refine va_put (D := D) (ci := 7) (v := .int (iI ml)) (ty := .int) (C := RX7) (T := TX7) (N := 34) hx hb hts iw_7 tyX7 tyX7_ok nmX7 hown hK.1 hP hD hS 0 rfl rfl 2 (by decide) fl_142 (fun _ h9 => h9) rfl (by decide +kernel) rfl rfl (Nat.le_of_ble_eq_true rfl) dX7_lives_55 (fun H locs hP hD hS => ?_)
        have hP : va_P D vwCl (W_M cI cS mA mf mn ml mk mg mls ms mra mrf mrk mrg mrl mrs mo9 moo9 moa9 mp9 mpp9 mfi9 mpl9 mpo9 mro mdp mdf mhg mhk mR mRf mRo mss msl msh mha mt) H := hP
        have hD : va_D A (W_M cI cS mA mf mn ml mk mg mls ms mra mrf mrk mrg mrl mrs mo9 moo9 moa9 mp9 mpp9 mfi9 mpl9 mpo9 mro mdp mdf mhg mhk mR mRf mRo mss msl msh mha mt) := hD
        refine lv_iload_n hx hb dX7_lives_58 rfl (lv_at hl 1 rfl) ?_
        exact W.iret (v := iI fd) hx hb hr (fun t ht hW => ⟨⟨_, (mo9, moo9, moa9, mp9, mpp9, mfi9, mpl9, mpo9), rfl, congrArg iI (show fd = (sLives mn mk mg mls ms mR mRf mRo) from (by unfold sLives; rw [if_neg (by omega), hm, show y = 16 by omega]; rfl)), by rw [ht]; exact hP, hD⟩, hS.F ht⟩) hS.2.2 dX7_lives_59
      ·
        have hko3 : okK mn mk mg y := ⟨hkk.1, by omega⟩
        have hbr := bitsGo_rng (fun y => soK y mk mg mls ms mR mRf mRo) y.toNat (by omega)
        rw [← hm] at hbr
        have hp2 := pow2_rng (k := y) (by omega)
        refine lv_aload_n hx hb dX7_lives_25 rfl (lv_at hl 3 rfl) ?_
        refine lv_iload_n hx hb dX7_lives_26 rfl (lv_at hl 0 rfl) ?_
        refine va_put (D := D) (ci := 7) (v := .int (iI y)) (ty := .int) (C := RX7) (T := TX7) (N := 34) hx hb hts iw_7 tyX7 tyX7_ok nmX7 hown hK.1 hP hD hS 0 rfl rfl 2 (by decide) fl_142 (fun _ h9 => h9) rfl (by decide +kernel) rfl rfl (Nat.le_of_ble_eq_true rfl) dX7_lives_27 (fun H locs hP hD hS => ?_)
        have hP : va_P D vwCl (W_M cI cS mA mf mn y mk mg mls ms mra mrf mrk mrg mrl mrs mo9 moo9 moa9 mp9 mpp9 mfi9 mpl9 mpo9 mro mdp mdf mhg mhk mR mRf mRo mss msl msh mha mt) H := hP
        have hD : va_D A (W_M cI cS mA mf mn y mk mg mls ms mra mrf mrk mrg mrl mrs mo9 moo9 moa9 mp9 mpp9 mfi9 mpl9 mpo9 mro mdp mdf mhg mhk mR mRf mRo mss msl msh mha mt) := hD
        refine lv_iload_n hx hb dX7_lives_30 rfl (lv_at hl 1 rfl) ?_
        refine lv_aload_n hx hb dX7_lives_31 rfl (lv_at hl 3 rfl) ?_
        refine x_callVi (As := []) (rest := [.int (iI fd)]) ⟨hx, hb, hml, hown, hts⟩ (c_X7_areSo l D cI cS mA mf mn y mk mg mls ms mra mrf mrk mrg mrl mrs mo9 moo9 moa9 mp9 mpp9 mfi9 mpl9 mpo9 mro mdp mdf mhg mhk mR mRf mRo mss msl msh mha mt H.size (by first | assumption | omega) hko3 (by first | assumption | omega) (by first | assumption | omega)) (cwV 0 hts gX7_lives_X7_areSo rfl rfl rfl (by decide +kernel) ⟨Nat.le_of_ble_eq_true rfl, Nat.le_of_ble_eq_true rfl⟩) hK hP hD hS hA [0, 1, 2, 3, 4, 5, 6, 7, 8, 9, 10, 11, 12, 13, 14, 15, 16, 17, 18, 19, 20, 21] [] (wr := ([] : va_W)) rfl rfl (by decide) (by decide) (by decide) 0 7 rfl rfl rfl [0, 1, 2, 3, 4, 5, 6, 7, 8, 9, 10, 11, 12, 13, 14, 15, 16, 17, 18, 19, 20, 21] (fun (u : Int × (Int → Int) × (Int → Int) × Int × (Int → Int) × Int × Int × (Int → Int)) => (W_M cI cS mA mf mn y mk mg mls ms mra mrf mrk mrg mrl mrs u.1 u.2.1 u.2.2.1 u.2.2.2.1 u.2.2.2.2.1 u.2.2.2.2.2.1 u.2.2.2.2.2.2.1 u.2.2.2.2.2.2.2 mro mdp mdf mhg mhk mR mRf mRo mss msl msh mha mt)) (fun _ => rfl) (by decide) rfl hl.1 rfl (Nat.le_of_ble_eq_true rfl) ⟨Nat.zero_le _, Nat.zero_le _⟩ dX7_lives_32 (fun r_ u_ H locs hw hP hD hS => ?_)
        obtain ⟨mo_5, moo_6, moa_7, mp_8, mpp_9, mfi_10, mpl_11, mpo_12⟩ := u_
        try dsimp only at hw
        subst hw
        have hP : va_P D vwCl (W_M cI cS mA mf mn y mk mg mls ms mra mrf mrk mrg mrl mrs mo_5 moo_6 moa_7 mp_8 mpp_9 mfi_10 mpl_11 mpo_12 mro mdp mdf mhg mhk mR mRf mRo mss msl msh mha mt) H := hP
        have hD : va_D A (W_M cI cS mA mf mn y mk mg mls ms mra mrf mrk mrg mrl mrs mo_5 moo_6 moa_7 mp_8 mpp_9 mfi_10 mpl_11 mpo_12 mro mdp mdf mhg mhk mR mRf mRo mss msl msh mha mt) := hD
        refine n_if_b1 (tgt := 44) hx hb dX7_lives_35 (by decide)  (fun c_13 => ?_) (fun c_13 => ?_)
        ·
          refine lv_iconst (v := iI 0) hx hb dX7_lives_44 (by decide +kernel) ?_
          refine n_ior (z := (orI fd 0)) (b_or (by omega)) hx hb dX7_lives_45 ?_
          refine lv_istore_n (lv' := [(2, .int (iI (orI fd 0))), (3, .int (iI y)), (1, .int (iI ml)), (0, .ref (mA 0))]) hx hb dX7_lives_46 rfl hl (by decide) rfl (fun ls hl => ?_)
          refine n_iinc (lv' := [(3, .int (iI (y + 1))), (2, .int (iI (orI fd 0))), (1, .int (iI ml)), (0, .ref (mA 0))]) hx hb dX7_lives_47 hl (k := 1) rfl (by decide) rfl (fun ls hl => ?_)
          refine lv_goto (tgt := 19) hx hb dX7_lives_50 (by decide) ?_
          exact ih_3 ((orI fd 0), (y + 1), y, mo_5, moo_6, moa_7, mp_8, mpp_9, mfi_10, mpl_11, mpo_12) (by (try dsimp only); exact ⟨by omega, by rw [bitsGo_s _ hy_.1, ← hm]; show _ = if soI _ _ _ _ = true then _ else _; first | (rw [if_pos (by assumption)]; done) | (rw [if_neg (by assumption)]; exact orI_0 (by omega))⟩) (by (try dsimp only); exact (by omega)) _ _ _ hP hD hS (lv_sub hl [0, 1, 2, 3] rfl)
        ·
          refine lv_iconst (v := iI 1) hx hb dX7_lives_38 (by decide +kernel) ?_
          refine lv_iload_n hx hb dX7_lives_39 rfl (lv_at hl 0 rfl) ?_
          refine n_ishl (z := (pow2 y)) (b_shl (by omega)) hx hb dX7_lives_40 ?_
          refine lv_goto (tgt := 45) hx hb dX7_lives_41 (by decide) ?_
          refine n_ior (z := (orI fd (pow2 y))) (b_or (by omega)) hx hb dX7_lives_45 ?_
          refine lv_istore_n (lv' := [(2, .int (iI (orI fd (pow2 y)))), (3, .int (iI y)), (1, .int (iI ml)), (0, .ref (mA 0))]) hx hb dX7_lives_46 rfl hl (by decide) rfl (fun ls hl => ?_)
          refine n_iinc (lv' := [(3, .int (iI (y + 1))), (2, .int (iI (orI fd (pow2 y)))), (1, .int (iI ml)), (0, .ref (mA 0))]) hx hb dX7_lives_47 hl (k := 1) rfl (by decide) rfl (fun ls hl => ?_)
          refine lv_goto (tgt := 19) hx hb dX7_lives_50 (by decide) ?_
          exact ih_3 ((orI fd (pow2 y)), (y + 1), y, mo_5, moo_6, moa_7, mp_8, mpp_9, mfi_10, mpl_11, mpo_12) (by (try dsimp only); exact ⟨by omega, by rw [bitsGo_s _ hy_.1, ← hm]; show _ = if soI _ _ _ _ = true then _ else _; first | (rw [if_pos (by assumption)]; done) | (rw [if_neg (by assumption)]; exact orI_0 (by omega))⟩) (by (try dsimp only); exact (by omega)) _ _ _ hP hD hS (lv_sub hl [0, 1, 2, 3] rfl)
  ·
    refine lv_bipush (v := iI (-3)) hx hb dX7_lives_7 (by decide +kernel) ?_
    exact W.iret (v := iI (-3)) hx hb hr (fun t ht hW => ⟨⟨_, (mo, moo, moa, mp, mpp, mfi, mpl, mpo), rfl, congrArg iI (show (-3) = (sLives mn mk mg mls ms mR mRf mRo) from (by unfold sLives; (repeat (first | rw [if_pos (by omega)] | rw [if_neg (by omega)])))), by rw [ht]; exact hP, hD⟩, hS.F ht⟩) hS.2.2 dX7_lives_9
set_option maxHeartbeats 4000000 in
set_option maxRecDepth 100000 in
theorem c_X7_odds (l : Launch) (D : va_G) (cI cS : ClassId) (mA : Nat → Nat) (mf : Int) (mn : Int) (ml : Int) (mk : Int → Int) (mg : Int → Int) (mls : Int → Int) (ms : Int → Int) (mra : Int) (mrf : Int) (mrk : Int → Int) (mrg : Int → Int) (mrl : Int → Int) (mrs : Int → Int) (mo : Int) (moo : Int → Int) (moa : Int → Int) (mp : Int) (mpp : Int → Int) (mfi : Int) (mpl : Int) (mpo : Int → Int) (mro : Int → Int) (mdp : Int) (mdf : Int) (mhg : Int → Int) (mhk : Int → Int) (mR : Int) (mRf : Int → Int) (mRo : Int → Int) (mss : Int → Int) (msl : Int → Int) (msh : Int → Int) (mha : Int → Int) (mt : Int) (sz : Nat) (f : Int) (a_ : Int) (w : Int) (hok : okP mn mls ms) (hkk : okK mn mk mg ml) (hfr : -2147483648 ≤ f ∧ f < 2147483648) (har : -2147483648 ≤ a_ ∧ a_ < 2147483648) (hwr : -2147483648 ≤ w ∧ w < 2147483648) : Met l yX7_odds wsX7_odds ({ frames := 5, cells := 0, slots := 0, locals := 113 }) (cP D cI cS (W_M cI cS mA mf mn ml mk mg mls ms mra mrf mrk mrg mrl mrs mo moo moa mp mpp mfi mpl mpo mro mdp mdf mhg mhk mR mRf mRo mss msl msh mha mt) sz [.ref (mA 0), .int (iI f), .int (iI a_), .int (iI w)]) (va_Ql (fun (r : Int64) (u : Int × (Int → Int) × (Int → Int) × Int × (Int → Int) × Int × Int × (Int → Int)) => r = lI (sOdds mn mk mg mls ms f a_ w)) (fun (u : Int × (Int → Int) × (Int → Int) × Int × (Int → Int) × Int × Int × (Int → Int)) t => cB D (va_A (W_M cI cS mA mf mn ml mk mg mls ms mra mrf mrk mrg mrl mrs mo moo moa mp mpp mfi mpl mpo mro mdp mdf mhg mhk mR mRf mRo mss msl msh mha mt) sz) (W_M cI cS mA mf mn ml mk mg mls ms mra mrf mrk mrg mrl mrs u.1 u.2.1 u.2.2.1 u.2.2.2.1 u.2.2.2.2.1 u.2.2.2.2.2.1 u.2.2.2.2.2.2.1 u.2.2.2.2.2.2.2 mro mdp mdf mhg mhk mR mRf mRo mss msl msh mha mt) t) (va_A (W_M cI cS mA mf mn ml mk mg mls ms mra mrf mrk mrg mrl mrs mo moo moa mp mpp mfi mpl mpo mro mdp mdf mhg mhk mR mRf mRo mss msl msh mha mt) sz)) 0 0 (va_A (W_M cI cS mA mf mn ml mk mg mls ms mra mrf mrk mrg mrl mrs mo moo moa mp mpp mfi mpl mpo mro mdp mdf mhg mhk mR mRf mRo mss msl msh mha mt) sz) := by
  refine Met.ofW (cc := cX7_odds) (maxL := 7) (ret := (some .long)) (by decide) rfl ?_
  intro p e s m args below meth c_ s₁ B hml hv
  obtain ⟨rfl, hsz, hP, hK, hD0⟩ := hv
  have hx := B.exec
  have hb := B.bytes
  have hr := B.returns
  have hts := atoms_spec (ws := wsX7_odds) B.pre
  have hown : s.vm.findClass RX7 = some m.cls := findClass_of_methodNamed B.named
  have hlocks := B.notSynchronized
  subst hsz
  have hD := hD0.self (sz := s.heap.size)
  generalize hAe : va_A (W_M cI cS mA mf mn ml mk mg mls ms mra mrf mrk mrg mrl mrs mo moo moa mp mpp mfi mpl mpo mro mdp mdf mhg mhk mR mRf mRo mss msl msh mha mt) s.heap.size = A at hD ⊢
  have hA : ∀ q : Nat, s.heap.size ≤ q → A q := fun q h => by rw [← hAe]; exact Or.inr h
  have hS : va_S A s.heap s.heap [] := va_S.rf
  have hP : va_P D vwCl (W_M cI cS mA mf mn ml mk mg mls ms mra mrf mrk mrg mrl mrs mo moo moa mp mpp mfi mpl mpo mro mdp mdf mhg mhk mR mRf mRo mss msl msh mha mt) s.heap := hP
  have hl := lv_entry ([.ref (mA 0), .int (iI f), .int (iI a_), .int (iI w)] : List Value) (n := 7) (Nat.le_of_ble_eq_true rfl)
  rw [lg_entry_eq]
  generalize (lg_sl ([.ref (mA 0), .int (iI f), .int (iI a_), .int (iI w)] : List Value) ++ List.replicate (7 - (lg_sl ([.ref (mA 0), .int (iI f), .int (iI a_), .int (iI w)] : List Value)).length) Slot.unset).toArray = ls at hl ⊢
  have hl : lv_has ls 7 [(0, .ref (mA 0)), (1, .int (iI f)), (2, .int (iI a_)), (3, .int (iI w))] := hl
  have ck_200 := hts (.constantLong RX7 200 (lI 4)) (by decide +kernel)
  have ck_243 := hts (.constantLong RX7 243 (lI 16)) (by decide +kernel)
  have hmn := hok.1
  have hln := hok.2.1
  refine lv_aload_n hx hb dX7_odds_0 rfl (lv_at hl 0 rfl) ?_
  refine lv_iload_n hx hb dX7_odds_1 rfl (lv_at hl 1 rfl) ?_
  refine x_callVi (As := [.int (iI f)]) (rest := []) ⟨hx, hb, hml, hown, hts⟩ (c_X7_noFunction l D cI cS mA mf mn ml mk mg mls ms mra mrf mrk mrg mrl mrs mo moo moa mp mpp mfi mpl mpo mro mdp mdf mhg mhk mR mRf mRo mss msl msh mha mt s.heap.size f (by first | assumption | omega) (by first | assumption | omega)) (cwV 1 hts gX7_odds_X7_noFunction rfl rfl rfl (by decide +kernel) ⟨Nat.le_of_ble_eq_true rfl, Nat.le_of_ble_eq_true rfl⟩) hK hP hD hS hA [0, 1, 2, 3, 4, 5, 6, 7, 8, 9, 10, 11, 12, 13, 14, 15, 16, 17, 18, 19, 20, 21] [] (wr := ([] : va_W)) rfl rfl (by decide) (by decide) (by decide) 0 7 rfl rfl rfl [0, 1, 2, 3, 4, 5, 6, 7, 8, 9, 10, 11, 12, 13, 14, 15, 16, 17, 18, 19, 20, 21] (fun (u : Unit) => (W_M cI cS mA mf mn ml mk mg mls ms mra mrf mrk mrg mrl mrs mo moo moa mp mpp mfi mpl mpo mro mdp mdf mhg mhk mR mRf mRo mss msl msh mha mt)) (fun _ => rfl) (by decide) rfl hl.1 rfl (Nat.le_of_ble_eq_true rfl) ⟨Nat.zero_le _, Nat.zero_le _⟩ dX7_odds_2 (fun r_ u_ H locs hw hP hD hS => ?_)
  try dsimp only at hw
  subst hw
  have hP : va_P D vwCl (W_M cI cS mA mf mn ml mk mg mls ms mra mrf mrk mrg mrl mrs mo moo moa mp mpp mfi mpl mpo mro mdp mdf mhg mhk mR mRf mRo mss msl msh mha mt) H := hP
  have hD : va_D A (W_M cI cS mA mf mn ml mk mg mls ms mra mrf mrk mrg mrl mrs mo moo moa mp mpp mfi mpl mpo mro mdp mdf mhg mhk mR mRf mRo mss msl msh mha mt) := hD
  refine n_if_b2 (tgt := 30) hx hb dX7_odds_5 (by decide)  (fun c_1 => ?_) (fun c_1 => ?_)
  ·
    refine x_callSl (As := []) (rest := []) ⟨hx, hb, hml, hown, hts⟩ (c_X7_lost l D cI cS H.size) (va_cwS 0 hts gX7_odds_X7_lost rfl rfl rfl (by decide +kernel) ⟨Nat.le_of_ble_eq_true rfl, Nat.le_of_ble_eq_true rfl⟩) hK hP hD hS hA [] [0, 1, 2, 3, 4, 5, 6, 7, 8, 9, 10, 11, 12, 13, 14, 15, 16, 17, 18, 19, 20, 21] (wr := [(mA 0, .inr (7, [.int (iI mf), .int (iI mn), .int (iI ml), .ref (mA 1), .ref (mA 2), .ref (mA 3), .ref (mA 4), .int (iI mra), .int (iI mrf), .ref (mA 5), .ref (mA 6), .ref (mA 7), .ref (mA 8), .int (iI mo), .ref (mA 9), .ref (mA 10), .int (iI mp), .ref (mA 11), .int (iI mfi), .int (iI mpl), .ref (mA 12), .ref (mA 13), .int (iI mdp), .int (iI mdf), .ref (mA 14), .ref (mA 15), .int (iI mR), .ref (mA 16), .ref (mA 17), .ref (mA 18), .ref (mA 19), .ref (mA 20), .ref (mA 21), .int (iI mt)])), (mA 1, .inl (cI, 5, .inl (aI mk))), (mA 2, .inl (cI, 5, .inl (aI mg))), (mA 3, .inl (cI, 5, .inl (aI mls))), (mA 4, .inl (cI, 20, .inl (aI ms))), (mA 5, .inl (cI, 5, .inl (aI mrk))), (mA 6, .inl (cI, 5, .inl (aI mrg))), (mA 7, .inl (cI, 5, .inl (aI mrl))), (mA 8, .inl (cI, 20, .inl (aI mrs))), (mA 9, .inl (cI, 5, .inl (aI moo))), (mA 10, .inl (cI, 5, .inl (aI moa))), (mA 11, .inl (cI, 1024, .inl (aI mpp))), (mA 12, .inl (cI, 5, .inl (aI mpo))), (mA 13, .inl (cI, 5, .inl (aI mro))), (mA 14, .inl (cI, 5, .inl (aI mhg))), (mA 15, .inl (cI, 5, .inl (aI mhk))), (mA 16, .inl (cI, 8, .inl (aI mRf))), (mA 17, .inl (cI, 8, .inl (aI mRo))), (mA 18, .inl (cI, 4, .inl (aI mss))), (mA 19, .inl (cI, 4, .inl (aI msl))), (mA 20, .inl (cI, 240, .inl (aI msh))), (mA 21, .inl (cI, 60, .inl (aI mha)))]) rfl rfl (by decide) (by decide) (by decide) [0, 1, 2, 3, 4, 5, 6, 7, 8, 9, 10, 11, 12, 13, 14, 15, 16, 17, 18, 19, 20, 21] (fun (u : Unit) => (W_M cI cS mA mf mn ml mk mg mls ms mra mrf mrk mrg mrl mrs mo moo moa mp mpp mfi mpl mpo mro mdp mdf mhg mhk mR mRf mRo mss msl msh mha mt)) (fun _ => rfl) (by decide) rfl hl.1 rfl (Nat.le_of_ble_eq_true rfl) ⟨Nat.zero_le _, Nat.zero_le _⟩ dX7_odds_30 (fun r_ u_ H locs hw hP hD hS => ?_)
    try dsimp only at hw
    subst hw
    have hP : va_P D vwCl (W_M cI cS mA mf mn ml mk mg mls ms mra mrf mrk mrg mrl mrs mo moo moa mp mpp mfi mpl mpo mro mdp mdf mhg mhk mR mRf mRo mss msl msh mha mt) H := hP
    have hD : va_D A (W_M cI cS mA mf mn ml mk mg mls ms mra mrf mrk mrg mrl mrs mo moo moa mp mpp mfi mpl mpo mro mdp mdf mhg mhk mR mRf mRo mss msl msh mha mt) := hD
    exact W.lret (v := lI (-9223372036854775808)) hx hb hr (fun t ht hW => ⟨⟨_, (mo, moo, moa, mp, mpp, mfi, mpl, mpo), rfl, congrArg lI (show (-9223372036854775808) = (sOdds mn mk mg mls ms f a_ w) from (by unfold sOdds; rw [if_neg (by omega)])), by rw [ht]; exact hP, hD⟩, hS.F ht⟩) hS.2.2 dX7_odds_33
  ·
    refine lv_iload_n hx hb dX7_odds_8 rfl (lv_at hl 2 rfl) ?_
    refine n_i2l hx hb (by omega) dX7_odds_9 ?_
    refine lv_lconst (v := lI 0) hx hb dX7_odds_10 (by decide +kernel) ?_
    refine lv_ldc2 hx hb hown ck_200 dX7_odds_11 ?_
    refine x_callSi (As := [.long (lI a_), .long (lI 0), .long (lI 4)]) (rest := []) ⟨hx, hb, hml, hown, hts⟩ (c_X7_in l D cI cS H.size a_ 0 4 (by first | assumption | omega) (by first | assumption | omega) (by first | assumption | omega)) (va_cwS 3 hts gX7_odds_X7_in rfl rfl rfl (by decide +kernel) ⟨Nat.le_of_ble_eq_true rfl, Nat.le_of_ble_eq_true rfl⟩) hK hP hD hS hA [] [0, 1, 2, 3, 4, 5, 6, 7, 8, 9, 10, 11, 12, 13, 14, 15, 16, 17, 18, 19, 20, 21] (wr := [(mA 0, .inr (7, [.int (iI mf), .int (iI mn), .int (iI ml), .ref (mA 1), .ref (mA 2), .ref (mA 3), .ref (mA 4), .int (iI mra), .int (iI mrf), .ref (mA 5), .ref (mA 6), .ref (mA 7), .ref (mA 8), .int (iI mo), .ref (mA 9), .ref (mA 10), .int (iI mp), .ref (mA 11), .int (iI mfi), .int (iI mpl), .ref (mA 12), .ref (mA 13), .int (iI mdp), .int (iI mdf), .ref (mA 14), .ref (mA 15), .int (iI mR), .ref (mA 16), .ref (mA 17), .ref (mA 18), .ref (mA 19), .ref (mA 20), .ref (mA 21), .int (iI mt)])), (mA 1, .inl (cI, 5, .inl (aI mk))), (mA 2, .inl (cI, 5, .inl (aI mg))), (mA 3, .inl (cI, 5, .inl (aI mls))), (mA 4, .inl (cI, 20, .inl (aI ms))), (mA 5, .inl (cI, 5, .inl (aI mrk))), (mA 6, .inl (cI, 5, .inl (aI mrg))), (mA 7, .inl (cI, 5, .inl (aI mrl))), (mA 8, .inl (cI, 20, .inl (aI mrs))), (mA 9, .inl (cI, 5, .inl (aI moo))), (mA 10, .inl (cI, 5, .inl (aI moa))), (mA 11, .inl (cI, 1024, .inl (aI mpp))), (mA 12, .inl (cI, 5, .inl (aI mpo))), (mA 13, .inl (cI, 5, .inl (aI mro))), (mA 14, .inl (cI, 5, .inl (aI mhg))), (mA 15, .inl (cI, 5, .inl (aI mhk))), (mA 16, .inl (cI, 8, .inl (aI mRf))), (mA 17, .inl (cI, 8, .inl (aI mRo))), (mA 18, .inl (cI, 4, .inl (aI mss))), (mA 19, .inl (cI, 4, .inl (aI msl))), (mA 20, .inl (cI, 240, .inl (aI msh))), (mA 21, .inl (cI, 60, .inl (aI mha)))]) rfl rfl (by decide) (by decide) (by decide) [0, 1, 2, 3, 4, 5, 6, 7, 8, 9, 10, 11, 12, 13, 14, 15, 16, 17, 18, 19, 20, 21] (fun (u : Unit) => (W_M cI cS mA mf mn ml mk mg mls ms mra mrf mrk mrg mrl mrs mo moo moa mp mpp mfi mpl mpo mro mdp mdf mhg mhk mR mRf mRo mss msl msh mha mt)) (fun _ => rfl) (by decide) rfl hl.1 rfl (Nat.le_of_ble_eq_true rfl) ⟨Nat.zero_le _, Nat.zero_le _⟩ dX7_odds_14 (fun r_ u_ H locs hw hP hD hS => ?_)
    try dsimp only at hw
    subst hw
    have hP : va_P D vwCl (W_M cI cS mA mf mn ml mk mg mls ms mra mrf mrk mrg mrl mrs mo moo moa mp mpp mfi mpl mpo mro mdp mdf mhg mhk mR mRf mRo mss msl msh mha mt) H := hP
    have hD : va_D A (W_M cI cS mA mf mn ml mk mg mls ms mra mrf mrk mrg mrl mrs mo moo moa mp mpp mfi mpl mpo mro mdp mdf mhg mhk mR mRf mRo mss msl msh mha mt) := hD
    refine n_if_b1 (tgt := 30) hx hb dX7_odds_17 (by decide)  (fun c_2 => ?_) (fun c_2 => ?_)
    ·
      refine x_callSl (As := []) (rest := []) ⟨hx, hb, hml, hown, hts⟩ (c_X7_lost l D cI cS H.size) (va_cwS 0 hts gX7_odds_X7_lost rfl rfl rfl (by decide +kernel) ⟨Nat.le_of_ble_eq_true rfl, Nat.le_of_ble_eq_true rfl⟩) hK hP hD hS hA [] [0, 1, 2, 3, 4, 5, 6, 7, 8, 9, 10, 11, 12, 13, 14, 15, 16, 17, 18, 19, 20, 21] (wr := [(mA 0, .inr (7, [.int (iI mf), .int (iI mn), .int (iI ml), .ref (mA 1), .ref (mA 2), .ref (mA 3), .ref (mA 4), .int (iI mra), .int (iI mrf), .ref (mA 5), .ref (mA 6), .ref (mA 7), .ref (mA 8), .int (iI mo), .ref (mA 9), .ref (mA 10), .int (iI mp), .ref (mA 11), .int (iI mfi), .int (iI mpl), .ref (mA 12), .ref (mA 13), .int (iI mdp), .int (iI mdf), .ref (mA 14), .ref (mA 15), .int (iI mR), .ref (mA 16), .ref (mA 17), .ref (mA 18), .ref (mA 19), .ref (mA 20), .ref (mA 21), .int (iI mt)])), (mA 1, .inl (cI, 5, .inl (aI mk))), (mA 2, .inl (cI, 5, .inl (aI mg))), (mA 3, .inl (cI, 5, .inl (aI mls))), (mA 4, .inl (cI, 20, .inl (aI ms))), (mA 5, .inl (cI, 5, .inl (aI mrk))), (mA 6, .inl (cI, 5, .inl (aI mrg))), (mA 7, .inl (cI, 5, .inl (aI mrl))), (mA 8, .inl (cI, 20, .inl (aI mrs))), (mA 9, .inl (cI, 5, .inl (aI moo))), (mA 10, .inl (cI, 5, .inl (aI moa))), (mA 11, .inl (cI, 1024, .inl (aI mpp))), (mA 12, .inl (cI, 5, .inl (aI mpo))), (mA 13, .inl (cI, 5, .inl (aI mro))), (mA 14, .inl (cI, 5, .inl (aI mhg))), (mA 15, .inl (cI, 5, .inl (aI mhk))), (mA 16, .inl (cI, 8, .inl (aI mRf))), (mA 17, .inl (cI, 8, .inl (aI mRo))), (mA 18, .inl (cI, 4, .inl (aI mss))), (mA 19, .inl (cI, 4, .inl (aI msl))), (mA 20, .inl (cI, 240, .inl (aI msh))), (mA 21, .inl (cI, 60, .inl (aI mha)))]) rfl rfl (by decide) (by decide) (by decide) [0, 1, 2, 3, 4, 5, 6, 7, 8, 9, 10, 11, 12, 13, 14, 15, 16, 17, 18, 19, 20, 21] (fun (u : Unit) => (W_M cI cS mA mf mn ml mk mg mls ms mra mrf mrk mrg mrl mrs mo moo moa mp mpp mfi mpl mpo mro mdp mdf mhg mhk mR mRf mRo mss msl msh mha mt)) (fun _ => rfl) (by decide) rfl hl.1 rfl (Nat.le_of_ble_eq_true rfl) ⟨Nat.zero_le _, Nat.zero_le _⟩ dX7_odds_30 (fun r_ u_ H locs hw hP hD hS => ?_)
      try dsimp only at hw
      subst hw
      have hP : va_P D vwCl (W_M cI cS mA mf mn ml mk mg mls ms mra mrf mrk mrg mrl mrs mo moo moa mp mpp mfi mpl mpo mro mdp mdf mhg mhk mR mRf mRo mss msl msh mha mt) H := hP
      have hD : va_D A (W_M cI cS mA mf mn ml mk mg mls ms mra mrf mrk mrg mrl mrs mo moo moa mp mpp mfi mpl mpo mro mdp mdf mhg mhk mR mRf mRo mss msl msh mha mt) := hD
      exact W.lret (v := lI (-9223372036854775808)) hx hb hr (fun t ht hW => ⟨⟨_, (mo, moo, moa, mp, mpp, mfi, mpl, mpo), rfl, congrArg lI (show (-9223372036854775808) = (sOdds mn mk mg mls ms f a_ w) from (by unfold sOdds; rw [if_neg (by omega)])), by rw [ht]; exact hP, hD⟩, hS.F ht⟩) hS.2.2 dX7_odds_33
    ·
      refine lv_iload_n hx hb dX7_odds_20 rfl (lv_at hl 3 rfl) ?_
      refine n_i2l hx hb (by omega) dX7_odds_21 ?_
      refine lv_lconst (v := lI 0) hx hb dX7_odds_22 (by decide +kernel) ?_
      refine lv_lconst (v := lI 1) hx hb dX7_odds_23 (by decide +kernel) ?_
      refine x_callSi (As := [.long (lI w), .long (lI 0), .long (lI 1)]) (rest := []) ⟨hx, hb, hml, hown, hts⟩ (c_X7_in l D cI cS H.size w 0 1 (by first | assumption | omega) (by first | assumption | omega) (by first | assumption | omega)) (va_cwS 3 hts gX7_odds_X7_in rfl rfl rfl (by decide +kernel) ⟨Nat.le_of_ble_eq_true rfl, Nat.le_of_ble_eq_true rfl⟩) hK hP hD hS hA [] [0, 1, 2, 3, 4, 5, 6, 7, 8, 9, 10, 11, 12, 13, 14, 15, 16, 17, 18, 19, 20, 21] (wr := [(mA 0, .inr (7, [.int (iI mf), .int (iI mn), .int (iI ml), .ref (mA 1), .ref (mA 2), .ref (mA 3), .ref (mA 4), .int (iI mra), .int (iI mrf), .ref (mA 5), .ref (mA 6), .ref (mA 7), .ref (mA 8), .int (iI mo), .ref (mA 9), .ref (mA 10), .int (iI mp), .ref (mA 11), .int (iI mfi), .int (iI mpl), .ref (mA 12), .ref (mA 13), .int (iI mdp), .int (iI mdf), .ref (mA 14), .ref (mA 15), .int (iI mR), .ref (mA 16), .ref (mA 17), .ref (mA 18), .ref (mA 19), .ref (mA 20), .ref (mA 21), .int (iI mt)])), (mA 1, .inl (cI, 5, .inl (aI mk))), (mA 2, .inl (cI, 5, .inl (aI mg))), (mA 3, .inl (cI, 5, .inl (aI mls))), (mA 4, .inl (cI, 20, .inl (aI ms))), (mA 5, .inl (cI, 5, .inl (aI mrk))), (mA 6, .inl (cI, 5, .inl (aI mrg))), (mA 7, .inl (cI, 5, .inl (aI mrl))), (mA 8, .inl (cI, 20, .inl (aI mrs))), (mA 9, .inl (cI, 5, .inl (aI moo))), (mA 10, .inl (cI, 5, .inl (aI moa))), (mA 11, .inl (cI, 1024, .inl (aI mpp))), (mA 12, .inl (cI, 5, .inl (aI mpo))), (mA 13, .inl (cI, 5, .inl (aI mro))), (mA 14, .inl (cI, 5, .inl (aI mhg))), (mA 15, .inl (cI, 5, .inl (aI mhk))), (mA 16, .inl (cI, 8, .inl (aI mRf))), (mA 17, .inl (cI, 8, .inl (aI mRo))), (mA 18, .inl (cI, 4, .inl (aI mss))), (mA 19, .inl (cI, 4, .inl (aI msl))), (mA 20, .inl (cI, 240, .inl (aI msh))), (mA 21, .inl (cI, 60, .inl (aI mha)))]) rfl rfl (by decide) (by decide) (by decide) [0, 1, 2, 3, 4, 5, 6, 7, 8, 9, 10, 11, 12, 13, 14, 15, 16, 17, 18, 19, 20, 21] (fun (u : Unit) => (W_M cI cS mA mf mn ml mk mg mls ms mra mrf mrk mrg mrl mrs mo moo moa mp mpp mfi mpl mpo mro mdp mdf mhg mhk mR mRf mRo mss msl msh mha mt)) (fun _ => rfl) (by decide) rfl hl.1 rfl (Nat.le_of_ble_eq_true rfl) ⟨Nat.zero_le _, Nat.zero_le _⟩ dX7_odds_24 (fun r_ u_ H locs hw hP hD hS => ?_)
      try dsimp only at hw
      subst hw
      have hP : va_P D vwCl (W_M cI cS mA mf mn ml mk mg mls ms mra mrf mrk mrg mrl mrs mo moo moa mp mpp mfi mpl mpo mro mdp mdf mhg mhk mR mRf mRo mss msl msh mha mt) H := hP
      have hD : va_D A (W_M cI cS mA mf mn ml mk mg mls ms mra mrf mrk mrg mrl mrs mo moo moa mp mpp mfi mpl mpo mro mdp mdf mhg mhk mR mRf mRo mss msl msh mha mt) := hD
      refine n_if_b2 (tgt := 34) hx hb dX7_odds_27 (by decide)  (fun c_3 => ?_) (fun c_3 => ?_)
      ·
        have hf : 0 ≤ f ∧ f < mn := by omega
        refine lv_iconst (v := iI 0) hx hb dX7_odds_34 (by decide +kernel) ?_
        refine lv_istore (lv' := [(4, .int (iI 0)), (0, .ref (mA 0)), (1, .int (iI f)), (2, .int (iI a_)), (3, .int (iI w))]) hx hb dX7_odds_35 hl (by decide) rfl (fun ls hl => ?_)
        refine lv_iconst (v := iI 0) hx hb dX7_odds_37 (by decide +kernel) ?_
        refine lv_istore (lv' := [(5, .int (iI 0)), (4, .int (iI 0)), (0, .ref (mA 0)), (1, .int (iI f)), (2, .int (iI a_)), (3, .int (iI w))]) hx hb dX7_odds_38 hl (by decide) rfl (fun ls hl => ?_)
        refine x_loop (σ := Int × Int × Int × (Int → Int) × (Int → Int) × Int × (Int → Int) × Int × Int × (Int → Int)) (fun (xv_ : Int × Int × Int × (Int → Int) × (Int → Int) × Int × (Int → Int) × Int × Int × (Int → Int)) => match xv_ with | (n, x, mo9, moo9, moa9, mp9, mpp9, mfi9, mpl9, mpo9) => (0 ≤ x ∧ x ≤ 16) ∧ (n = cntEq (fun x => (sem mk mg x mls ms f).1) a_ x.toNat)) (fun (xv_ : Int × Int × Int × (Int → Int) × (Int → Int) × Int × (Int → Int) × Int × Int × (Int → Int)) => match xv_ with | (n, x, mo9, moo9, moa9, mp9, mpp9, mfi9, mpl9, mpo9) => (16 - x).toNat) (fun (xv_ : Int × Int × Int × (Int → Int) × (Int → Int) × Int × (Int → Int) × Int × Int × (Int → Int)) => match xv_ with | (n, x, mo9, moo9, moa9, mp9, mpp9, mfi9, mpl9, mpo9) => (W_M cI cS mA mf mn ml mk mg mls ms mra mrf mrk mrg mrl mrs mo9 moo9 moa9 mp9 mpp9 mfi9 mpl9 mpo9 mro mdp mdf mhg mhk mR mRf mRo mss msl msh mha mt)) (fun (xv_ : Int × Int × Int × (Int → Int) × (Int → Int) × Int × (Int → Int) × Int × Int × (Int → Int)) => match xv_ with | (n, x, mo9, moo9, moa9, mp9, mpp9, mfi9, mpl9, mpo9) => [(5, .int (iI x)), (4, .int (iI n)), (0, .ref (mA 0)), (1, .int (iI f)), (2, .int (iI a_)), (3, .int (iI w))]) (nL := 7) ?step_4 (0, 0, mo, moo, moa, mp, mpp, mfi, mpl, mpo) (by (try dsimp only); exact ⟨by omega, rfl⟩) hP hD hS (lv_sub hl [0, 1, 2, 3, 4, 5] rfl)
        case step_4 =>
          intro xv_ hI ih H locs ls hP hD hS hl
          obtain ⟨n, x, mo9, moo9, moa9, mp9, mpp9, mfi9, mpl9, mpo9⟩ := xv_
          try dsimp only at hI ih
          obtain ⟨hs_, hm⟩ := hI
          have hP : va_P D vwCl (W_M cI cS mA mf mn ml mk mg mls ms mra mrf mrk mrg mrl mrs mo9 moo9 moa9 mp9 mpp9 mfi9 mpl9 mpo9 mro mdp mdf mhg mhk mR mRf mRo mss msl msh mha mt) H := hP
          have hD : va_D A (W_M cI cS mA mf mn ml mk mg mls ms mra mrf mrk mrg mrl mrs mo9 moo9 moa9 mp9 mpp9 mfi9 mpl9 mpo9 mro mdp mdf mhg mhk mR mRf mRo mss msl msh mha mt) := hD
          have hl : lv_has ls 7 [(5, .int (iI x)), (4, .int (iI n)), (0, .ref (mA 0)), (1, .int (iI f)), (2, .int (iI a_)), (3, .int (iI w))] := hl
          have ih_5 := ih
          refine lv_iload hx hb dX7_odds_40 (lv_at hl 0 rfl) ?_
          refine lv_bipush (v := iI 16) hx hb dX7_odds_42 (by decide +kernel) ?_
          refine n_icmp_ge (tgt := 87) hx hb dX7_odds_44 (by decide) (by omega) (fun c_6 => ?_) (fun c_6 => ?_)
          ·
            have hnr := cntEq_rng (fun x => (sem mk mg x mls ms f).1) a_ 16
            have hm9 : n = cntEq (fun x => (sem mk mg x mls ms f).1) a_ 16 := by rw [hm, show x = 16 by omega]; rfl
            rw [← hm9] at hnr
            refine lv_iload hx hb dX7_odds_87 (lv_at hl 1 rfl) ?_
            refine n_i2l hx hb (by omega) dX7_odds_89 ?_
            refine lv_ldc2 hx hb hown ck_243 dX7_odds_90 ?_
            refine lv_iload_n hx hb dX7_odds_93 rfl (lv_at hl 5 rfl) ?_
            refine x_callSl (As := [.long (lI n), .long (lI 16), .int (iI w)]) (rest := []) ⟨hx, hb, hml, hown, hts⟩ (c_X7_share l D cI cS H.size n 16 w (by first | assumption | omega) rfl (by first | assumption | omega)) (va_cwS 3 hts gX7_odds_X7_share rfl rfl rfl (by decide +kernel) ⟨Nat.le_of_ble_eq_true rfl, Nat.le_of_ble_eq_true rfl⟩) hK hP hD hS hA [] [0, 1, 2, 3, 4, 5, 6, 7, 8, 9, 10, 11, 12, 13, 14, 15, 16, 17, 18, 19, 20, 21] (wr := [(mA 0, .inr (7, [.int (iI mf), .int (iI mn), .int (iI ml), .ref (mA 1), .ref (mA 2), .ref (mA 3), .ref (mA 4), .int (iI mra), .int (iI mrf), .ref (mA 5), .ref (mA 6), .ref (mA 7), .ref (mA 8), .int (iI mo9), .ref (mA 9), .ref (mA 10), .int (iI mp9), .ref (mA 11), .int (iI mfi9), .int (iI mpl9), .ref (mA 12), .ref (mA 13), .int (iI mdp), .int (iI mdf), .ref (mA 14), .ref (mA 15), .int (iI mR), .ref (mA 16), .ref (mA 17), .ref (mA 18), .ref (mA 19), .ref (mA 20), .ref (mA 21), .int (iI mt)])), (mA 1, .inl (cI, 5, .inl (aI mk))), (mA 2, .inl (cI, 5, .inl (aI mg))), (mA 3, .inl (cI, 5, .inl (aI mls))), (mA 4, .inl (cI, 20, .inl (aI ms))), (mA 5, .inl (cI, 5, .inl (aI mrk))), (mA 6, .inl (cI, 5, .inl (aI mrg))), (mA 7, .inl (cI, 5, .inl (aI mrl))), (mA 8, .inl (cI, 20, .inl (aI mrs))), (mA 9, .inl (cI, 5, .inl (aI moo9))), (mA 10, .inl (cI, 5, .inl (aI moa9))), (mA 11, .inl (cI, 1024, .inl (aI mpp9))), (mA 12, .inl (cI, 5, .inl (aI mpo9))), (mA 13, .inl (cI, 5, .inl (aI mro))), (mA 14, .inl (cI, 5, .inl (aI mhg))), (mA 15, .inl (cI, 5, .inl (aI mhk))), (mA 16, .inl (cI, 8, .inl (aI mRf))), (mA 17, .inl (cI, 8, .inl (aI mRo))), (mA 18, .inl (cI, 4, .inl (aI mss))), (mA 19, .inl (cI, 4, .inl (aI msl))), (mA 20, .inl (cI, 240, .inl (aI msh))), (mA 21, .inl (cI, 60, .inl (aI mha)))]) rfl rfl (by decide) (by decide) (by decide) [0, 1, 2, 3, 4, 5, 6, 7, 8, 9, 10, 11, 12, 13, 14, 15, 16, 17, 18, 19, 20, 21] (fun (u : Unit) => (W_M cI cS mA mf mn ml mk mg mls ms mra mrf mrk mrg mrl mrs mo9 moo9 moa9 mp9 mpp9 mfi9 mpl9 mpo9 mro mdp mdf mhg mhk mR mRf mRo mss msl msh mha mt)) (fun _ => rfl) (by decide) rfl hl.1 rfl (Nat.le_of_ble_eq_true rfl) ⟨Nat.zero_le _, Nat.zero_le _⟩ dX7_odds_94 (fun r_ u_ H locs hw hP hD hS => ?_)
            try dsimp only at hw
            subst hw
            have hP : va_P D vwCl (W_M cI cS mA mf mn ml mk mg mls ms mra mrf mrk mrg mrl mrs mo9 moo9 moa9 mp9 mpp9 mfi9 mpl9 mpo9 mro mdp mdf mhg mhk mR mRf mRo mss msl msh mha mt) H := hP
            have hD : va_D A (W_M cI cS mA mf mn ml mk mg mls ms mra mrf mrk mrg mrl mrs mo9 moo9 moa9 mp9 mpp9 mfi9 mpl9 mpo9 mro mdp mdf mhg mhk mR mRf mRo mss msl msh mha mt) := hD
            exact W.lret (v := lI (oddsI n w)) hx hb hr (fun t ht hW => ⟨⟨_, (mo9, moo9, moa9, mp9, mpp9, mfi9, mpl9, mpo9), rfl, congrArg lI (show (oddsI n w) = (sOdds mn mk mg mls ms f a_ w) from (by unfold sOdds; rw [if_pos (by omega), ← hm9])), by rw [ht]; exact hP, hD⟩, hS.F ht⟩) hS.2.2 dX7_odds_97
          ·
            refine lv_aload_n hx hb dX7_odds_47 rfl (lv_at hl 2 rfl) ?_
            refine lv_iload_n hx hb dX7_odds_48 rfl (lv_at hl 3 rfl) ?_
            refine lv_iload hx hb dX7_odds_49 (lv_at hl 0 rfl) ?_
            refine x_callVi (As := [.int (iI f), .int (iI x)]) (rest := []) ⟨hx, hb, hml, hown, hts⟩ (c_X7_runsBy l D cI cS mA mf mn ml mk mg mls ms mra mrf mrk mrg mrl mrs mo9 moo9 moa9 mp9 mpp9 mfi9 mpl9 mpo9 mro mdp mdf mhg mhk mR mRf mRo mss msl msh mha mt H.size f x (by first | assumption | omega) ⟨hkk.1, by omega⟩ (by first | assumption | omega)) (cwV 2 hts gX7_odds_X7_runsBy rfl rfl rfl (by decide +kernel) ⟨Nat.le_of_ble_eq_true rfl, Nat.le_of_ble_eq_true rfl⟩) hK hP hD hS hA [0, 1, 2, 3, 4, 5, 6, 7, 8, 9, 10, 11, 12, 13, 14, 15, 16, 17, 18, 19, 20, 21] [] (wr := ([] : va_W)) rfl rfl (by decide) (by decide) (by decide) 0 7 rfl rfl rfl [0, 1, 2, 3, 4, 5, 6, 7, 8, 9, 10, 11, 12, 13, 14, 15, 16, 17, 18, 19, 20, 21] (fun (u : Int × (Int → Int) × (Int → Int) × Int × (Int → Int) × Int × Int × (Int → Int)) => (W_M cI cS mA mf mn ml mk mg mls ms mra mrf mrk mrg mrl mrs u.1 u.2.1 u.2.2.1 u.2.2.2.1 u.2.2.2.2.1 u.2.2.2.2.2.1 u.2.2.2.2.2.2.1 u.2.2.2.2.2.2.2 mro mdp mdf mhg mhk mR mRf mRo mss msl msh mha mt)) (fun _ => rfl) (by decide) rfl hl.1 rfl (Nat.le_of_ble_eq_true rfl) ⟨Nat.zero_le _, Nat.zero_le _⟩ dX7_odds_51 (fun r_ u_ H locs hw hP hD hS => ?_)
            obtain ⟨mo_7, moo_8, moa_9, mp_10, mpp_11, mfi_12, mpl_13, mpo_14⟩ := u_
            try dsimp only at hw
            subst hw
            have hP : va_P D vwCl (W_M cI cS mA mf mn ml mk mg mls ms mra mrf mrk mrg mrl mrs mo_7 moo_8 moa_9 mp_10 mpp_11 mfi_12 mpl_13 mpo_14 mro mdp mdf mhg mhk mR mRf mRo mss msl msh mha mt) H := hP
            have hD : va_D A (W_M cI cS mA mf mn ml mk mg mls ms mra mrf mrk mrg mrl mrs mo_7 moo_8 moa_9 mp_10 mpp_11 mfi_12 mpl_13 mpo_14 mro mdp mdf mhg mhk mR mRf mRo mss msl msh mha mt) := hD
            obtain ⟨o1z, h_o1z⟩ : ∃ z_ : Int, z_ = (if (sem mk mg x mls ms f).1 = 4 then (-9) else (sem mk mg x mls ms f).1) := ⟨_, rfl⟩
            rw [← h_o1z]
            obtain ⟨o1, ho1⟩ : ∃ z_ : Int, z_ = (sem mk mg x mls ms f).1 := ⟨_, rfl⟩
            have ho1r := (sem_ok (K := mk) (G := mg) (L := x) hok f (by omega) (by omega)).1
            rw [← ho1] at ho1r h_o1z
            refine lv_istore (lv' := [(6, .int (iI o1z)), (5, .int (iI x)), (4, .int (iI n)), (0, .ref (mA 0)), (1, .int (iI f)), (2, .int (iI a_)), (3, .int (iI w))]) hx hb dX7_odds_54 hl (by decide) rfl (fun ls hl => ?_)
            refine lv_iload hx hb dX7_odds_56 (lv_at hl 2 rfl) ?_
            refine lv_iload hx hb dX7_odds_58 (lv_at hl 0 rfl) ?_
            refine n_if_ge (tgt := 67) hx hb dX7_odds_60 (by decide) (by omega) (fun c_15 => ?_) (fun c_15 => ?_)
            ·
              refine lv_iload hx hb dX7_odds_67 (lv_at hl 0 rfl) ?_
              refine lv_iload_n hx hb dX7_odds_69 rfl (lv_at hl 5 rfl) ?_
              refine n_icmp_ne (tgt := 77) hx hb dX7_odds_70 (by decide) (by omega) (fun c_16 => ?_) (fun c_16 => ?_)
              ·
                refine lv_iconst (v := iI 0) hx hb dX7_odds_77 (by decide +kernel) ?_
                refine n_iadd hx hb dX7_odds_78 ?_
                refine lv_istore (lv' := [(4, .int (iI (n + 0))), (6, .int (iI o1z)), (5, .int (iI x)), (0, .ref (mA 0)), (1, .int (iI f)), (2, .int (iI a_)), (3, .int (iI w))]) hx hb dX7_odds_79 hl (by decide) rfl (fun ls hl => ?_)
                refine n_iinc (lv' := [(5, .int (iI (x + 1))), (4, .int (iI (n + 0))), (6, .int (iI o1z)), (0, .ref (mA 0)), (1, .int (iI f)), (2, .int (iI a_)), (3, .int (iI w))]) hx hb dX7_odds_81 hl (k := 2) rfl (by decide) rfl (fun ls hl => ?_)
                refine lv_goto (tgt := 40) hx hb dX7_odds_84 (by decide) ?_
                exact ih_5 ((n + 0), (x + 1), mo_7, moo_8, moa_9, mp_10, mpp_11, mfi_12, mpl_13, mpo_14) (by (try dsimp only); exact ⟨by omega, by rw [cntEq_s _ _ hs_.1, ← hm, ← ho1]; omega⟩) (by (try dsimp only); exact (by omega)) _ _ _ hP hD hS (lv_sub hl [0, 1, 3, 4, 5, 6] rfl)
              ·
                refine lv_iconst (v := iI 1) hx hb dX7_odds_73 (by decide +kernel) ?_
                refine lv_goto (tgt := 78) hx hb dX7_odds_74 (by decide) ?_
                refine n_iadd hx hb dX7_odds_78 ?_
                refine lv_istore (lv' := [(4, .int (iI (n + 1))), (6, .int (iI o1z)), (5, .int (iI x)), (0, .ref (mA 0)), (1, .int (iI f)), (2, .int (iI a_)), (3, .int (iI w))]) hx hb dX7_odds_79 hl (by decide) rfl (fun ls hl => ?_)
                refine n_iinc (lv' := [(5, .int (iI (x + 1))), (4, .int (iI (n + 1))), (6, .int (iI o1z)), (0, .ref (mA 0)), (1, .int (iI f)), (2, .int (iI a_)), (3, .int (iI w))]) hx hb dX7_odds_81 hl (k := 2) rfl (by decide) rfl (fun ls hl => ?_)
                refine lv_goto (tgt := 40) hx hb dX7_odds_84 (by decide) ?_
                exact ih_5 ((n + 1), (x + 1), mo_7, moo_8, moa_9, mp_10, mpp_11, mfi_12, mpl_13, mpo_14) (by (try dsimp only); exact ⟨by omega, by rw [cntEq_s _ _ hs_.1, ← hm, ← ho1]; omega⟩) (by (try dsimp only); exact (by omega)) _ _ _ hP hD hS (lv_sub hl [0, 1, 3, 4, 5, 6] rfl)
            ·
              refine lv_iconst (v := iI 4) hx hb dX7_odds_63 (by decide +kernel) ?_
              refine lv_goto (tgt := 69) hx hb dX7_odds_64 (by decide) ?_
              refine lv_iload_n hx hb dX7_odds_69 rfl (lv_at hl 5 rfl) ?_
              refine n_icmp_ne (tgt := 77) hx hb dX7_odds_70 (by decide) (by omega) (fun c_17 => ?_) (fun c_17 => ?_)
              ·
                refine lv_iconst (v := iI 0) hx hb dX7_odds_77 (by decide +kernel) ?_
                refine n_iadd hx hb dX7_odds_78 ?_
                refine lv_istore (lv' := [(4, .int (iI (n + 0))), (6, .int (iI o1z)), (5, .int (iI x)), (0, .ref (mA 0)), (1, .int (iI f)), (2, .int (iI a_)), (3, .int (iI w))]) hx hb dX7_odds_79 hl (by decide) rfl (fun ls hl => ?_)
                refine n_iinc (lv' := [(5, .int (iI (x + 1))), (4, .int (iI (n + 0))), (6, .int (iI o1z)), (0, .ref (mA 0)), (1, .int (iI f)), (2, .int (iI a_)), (3, .int (iI w))]) hx hb dX7_odds_81 hl (k := 2) rfl (by decide) rfl (fun ls hl => ?_)
                refine lv_goto (tgt := 40) hx hb dX7_odds_84 (by decide) ?_
                exact ih_5 ((n + 0), (x + 1), mo_7, moo_8, moa_9, mp_10, mpp_11, mfi_12, mpl_13, mpo_14) (by (try dsimp only); exact ⟨by omega, by rw [cntEq_s _ _ hs_.1, ← hm, ← ho1]; omega⟩) (by (try dsimp only); exact (by omega)) _ _ _ hP hD hS (lv_sub hl [0, 1, 3, 4, 5, 6] rfl)
              ·
                refine lv_iconst (v := iI 1) hx hb dX7_odds_73 (by decide +kernel) ?_
                refine lv_goto (tgt := 78) hx hb dX7_odds_74 (by decide) ?_
                refine n_iadd hx hb dX7_odds_78 ?_
                refine lv_istore (lv' := [(4, .int (iI (n + 1))), (6, .int (iI o1z)), (5, .int (iI x)), (0, .ref (mA 0)), (1, .int (iI f)), (2, .int (iI a_)), (3, .int (iI w))]) hx hb dX7_odds_79 hl (by decide) rfl (fun ls hl => ?_)
                refine n_iinc (lv' := [(5, .int (iI (x + 1))), (4, .int (iI (n + 1))), (6, .int (iI o1z)), (0, .ref (mA 0)), (1, .int (iI f)), (2, .int (iI a_)), (3, .int (iI w))]) hx hb dX7_odds_81 hl (k := 2) rfl (by decide) rfl (fun ls hl => ?_)
                refine lv_goto (tgt := 40) hx hb dX7_odds_84 (by decide) ?_
                exact ih_5 ((n + 1), (x + 1), mo_7, moo_8, moa_9, mp_10, mpp_11, mfi_12, mpl_13, mpo_14) (by (try dsimp only); exact ⟨by omega, by rw [cntEq_s _ _ hs_.1, ← hm, ← ho1]; omega⟩) (by (try dsimp only); exact (by omega)) _ _ _ hP hD hS (lv_sub hl [0, 1, 3, 4, 5, 6] rfl)
      ·
        refine x_callSl (As := []) (rest := []) ⟨hx, hb, hml, hown, hts⟩ (c_X7_lost l D cI cS H.size) (va_cwS 0 hts gX7_odds_X7_lost rfl rfl rfl (by decide +kernel) ⟨Nat.le_of_ble_eq_true rfl, Nat.le_of_ble_eq_true rfl⟩) hK hP hD hS hA [] [0, 1, 2, 3, 4, 5, 6, 7, 8, 9, 10, 11, 12, 13, 14, 15, 16, 17, 18, 19, 20, 21] (wr := [(mA 0, .inr (7, [.int (iI mf), .int (iI mn), .int (iI ml), .ref (mA 1), .ref (mA 2), .ref (mA 3), .ref (mA 4), .int (iI mra), .int (iI mrf), .ref (mA 5), .ref (mA 6), .ref (mA 7), .ref (mA 8), .int (iI mo), .ref (mA 9), .ref (mA 10), .int (iI mp), .ref (mA 11), .int (iI mfi), .int (iI mpl), .ref (mA 12), .ref (mA 13), .int (iI mdp), .int (iI mdf), .ref (mA 14), .ref (mA 15), .int (iI mR), .ref (mA 16), .ref (mA 17), .ref (mA 18), .ref (mA 19), .ref (mA 20), .ref (mA 21), .int (iI mt)])), (mA 1, .inl (cI, 5, .inl (aI mk))), (mA 2, .inl (cI, 5, .inl (aI mg))), (mA 3, .inl (cI, 5, .inl (aI mls))), (mA 4, .inl (cI, 20, .inl (aI ms))), (mA 5, .inl (cI, 5, .inl (aI mrk))), (mA 6, .inl (cI, 5, .inl (aI mrg))), (mA 7, .inl (cI, 5, .inl (aI mrl))), (mA 8, .inl (cI, 20, .inl (aI mrs))), (mA 9, .inl (cI, 5, .inl (aI moo))), (mA 10, .inl (cI, 5, .inl (aI moa))), (mA 11, .inl (cI, 1024, .inl (aI mpp))), (mA 12, .inl (cI, 5, .inl (aI mpo))), (mA 13, .inl (cI, 5, .inl (aI mro))), (mA 14, .inl (cI, 5, .inl (aI mhg))), (mA 15, .inl (cI, 5, .inl (aI mhk))), (mA 16, .inl (cI, 8, .inl (aI mRf))), (mA 17, .inl (cI, 8, .inl (aI mRo))), (mA 18, .inl (cI, 4, .inl (aI mss))), (mA 19, .inl (cI, 4, .inl (aI msl))), (mA 20, .inl (cI, 240, .inl (aI msh))), (mA 21, .inl (cI, 60, .inl (aI mha)))]) rfl rfl (by decide) (by decide) (by decide) [0, 1, 2, 3, 4, 5, 6, 7, 8, 9, 10, 11, 12, 13, 14, 15, 16, 17, 18, 19, 20, 21] (fun (u : Unit) => (W_M cI cS mA mf mn ml mk mg mls ms mra mrf mrk mrg mrl mrs mo moo moa mp mpp mfi mpl mpo mro mdp mdf mhg mhk mR mRf mRo mss msl msh mha mt)) (fun _ => rfl) (by decide) rfl hl.1 rfl (Nat.le_of_ble_eq_true rfl) ⟨Nat.zero_le _, Nat.zero_le _⟩ dX7_odds_30 (fun r_ u_ H locs hw hP hD hS => ?_)
        try dsimp only at hw
        subst hw
        have hP : va_P D vwCl (W_M cI cS mA mf mn ml mk mg mls ms mra mrf mrk mrg mrl mrs mo moo moa mp mpp mfi mpl mpo mro mdp mdf mhg mhk mR mRf mRo mss msl msh mha mt) H := hP
        have hD : va_D A (W_M cI cS mA mf mn ml mk mg mls ms mra mrf mrk mrg mrl mrs mo moo moa mp mpp mfi mpl mpo mro mdp mdf mhg mhk mR mRf mRo mss msl msh mha mt) := hD
        exact W.lret (v := lI (-9223372036854775808)) hx hb hr (fun t ht hW => ⟨⟨_, (mo, moo, moa, mp, mpp, mfi, mpl, mpo), rfl, congrArg lI (show (-9223372036854775808) = (sOdds mn mk mg mls ms f a_ w) from (by unfold sOdds; rw [if_neg (by omega)])), by rw [ht]; exact hP, hD⟩, hS.F ht⟩) hS.2.2 dX7_odds_33
set_option maxHeartbeats 4000000 in
set_option maxRecDepth 100000 in
theorem c_X7_tell (l : Launch) (D : va_G) (cI cS : ClassId) (mA : Nat → Nat) (mf : Int) (mn : Int) (ml : Int) (mk : Int → Int) (mg : Int → Int) (mls : Int → Int) (ms : Int → Int) (mra : Int) (mrf : Int) (mrk : Int → Int) (mrg : Int → Int) (mrl : Int → Int) (mrs : Int → Int) (mo : Int) (moo : Int → Int) (moa : Int → Int) (mp : Int) (mpp : Int → Int) (mfi : Int) (mpl : Int) (mpo : Int → Int) (mro : Int → Int) (mdp : Int) (mdf : Int) (mhg : Int → Int) (mhk : Int → Int) (mR : Int) (mRf : Int → Int) (mRo : Int → Int) (mss : Int → Int) (msl : Int → Int) (msh : Int → Int) (mha : Int → Int) (mt : Int) (sz : Nat) (f : Int) (hok : okP mn mls ms) (hkk : okK mn mk mg ml) (hfr : -2147483648 ≤ f ∧ f < 2147483648) : Met l yX7_tell wsX7_tell ({ frames := 2, cells := 0, slots := 0, locals := 46 }) (cP D cI cS (W_M cI cS mA mf mn ml mk mg mls ms mra mrf mrk mrg mrl mrs mo moo moa mp mpp mfi mpl mpo mro mdp mdf mhg mhk mR mRf mRo mss msl msh mha mt) sz [.ref (mA 0), .int (iI f)]) (va_Qi (fun (r : Int32) (u : Unit) => r = iI (if 0 ≤ f ∧ f < mn then (if mk f = 1 then mls f + 100 else if mk f = 2 then mls f + 100 + mls f else mls f) else (-1))) (fun (u : Unit) t => cB D (va_A (W_M cI cS mA mf mn ml mk mg mls ms mra mrf mrk mrg mrl mrs mo moo moa mp mpp mfi mpl mpo mro mdp mdf mhg mhk mR mRf mRo mss msl msh mha mt) sz) (W_M cI cS mA mf mn ml mk mg mls ms mra mrf mrk mrg mrl mrs mo moo moa mp mpp mfi mpl mpo mro mdp mdf mhg mhk mR mRf mRo mss msl msh mha (if 0 ≤ f ∧ f < mn then (if mk f = 1 then (31 * ((31 * mt) + 2)) + 1 else if mk f = 2 then (31 * ((31 * ((31 * ((31 * mt) + 3)) + 2)) + 1)) + 1 else (31 * mt) + 1) else mt)) t) (va_A (W_M cI cS mA mf mn ml mk mg mls ms mra mrf mrk mrg mrl mrs mo moo moa mp mpp mfi mpl mpo mro mdp mdf mhg mhk mR mRf mRo mss msl msh mha mt) sz)) 0 0 (va_A (W_M cI cS mA mf mn ml mk mg mls ms mra mrf mrk mrg mrl mrs mo moo moa mp mpp mfi mpl mpo mro mdp mdf mhg mhk mR mRf mRo mss msl msh mha mt) sz) := by
  refine Met.ofW (cc := cX7_tell) (maxL := 4) (ret := (some .int)) (by decide) rfl ?_
  intro p e s m args below meth c_ s₁ B hml hv
  obtain ⟨rfl, hsz, hP, hK, hD0⟩ := hv
  have hx := B.exec
  have hb := B.bytes
  have hr := B.returns
  have hts := atoms_spec (ws := wsX7_tell) B.pre
  have hown : s.vm.findClass RX7 = some m.cls := findClass_of_methodNamed B.named
  have hlocks := B.notSynchronized
  subst hsz
  have hD := hD0.self (sz := s.heap.size)
  generalize hAe : va_A (W_M cI cS mA mf mn ml mk mg mls ms mra mrf mrk mrg mrl mrs mo moo moa mp mpp mfi mpl mpo mro mdp mdf mhg mhk mR mRf mRo mss msl msh mha mt) s.heap.size = A at hD ⊢
  have hA : ∀ q : Nat, s.heap.size ≤ q → A q := fun q h => by rw [← hAe]; exact Or.inr h
  have hS : va_S A s.heap s.heap [] := va_S.rf
  have hP : va_P D vwCl (W_M cI cS mA mf mn ml mk mg mls ms mra mrf mrk mrg mrl mrs mo moo moa mp mpp mfi mpl mpo mro mdp mdf mhg mhk mR mRf mRo mss msl msh mha mt) s.heap := hP
  have hl := lv_entry ([.ref (mA 0), .int (iI f)] : List Value) (n := 4) (Nat.le_of_ble_eq_true rfl)
  rw [lg_entry_eq]
  generalize (lg_sl ([.ref (mA 0), .int (iI f)] : List Value) ++ List.replicate (4 - (lg_sl ([.ref (mA 0), .int (iI f)] : List Value)).length) Slot.unset).toArray = ls at hl ⊢
  have hl : lv_has ls 4 [(0, .ref (mA 0)), (1, .int (iI f))] := hl
  have fl_7 := hts (.fieldLink RX7 7 "ActRowsModel" "kindOf" "[I") (by decide +kernel)
  have iw_7 : ∀ w ∈ wsX70, w ∈ wsX7_tell := by decide +kernel
  have fl_16 := hts (.fieldLink RX7 16 "ActRowsModel" "stepsOf" "[I") (by decide +kernel)
  have hmn := hok.1
  have hln := hok.2.1
  refine lv_aload_n hx hb dX7_tell_0 rfl (lv_at hl 0 rfl) ?_
  refine lv_iload_n hx hb dX7_tell_1 rfl (lv_at hl 1 rfl) ?_
  refine x_callVi (As := [.int (iI f)]) (rest := []) ⟨hx, hb, hml, hown, hts⟩ (c_X7_noFunction l D cI cS mA mf mn ml mk mg mls ms mra mrf mrk mrg mrl mrs mo moo moa mp mpp mfi mpl mpo mro mdp mdf mhg mhk mR mRf mRo mss msl msh mha mt s.heap.size f (by first | assumption | omega) (by first | assumption | omega)) (cwV 1 hts gX7_tell_X7_noFunction rfl rfl rfl (by decide +kernel) ⟨Nat.le_of_ble_eq_true rfl, Nat.le_of_ble_eq_true rfl⟩) hK hP hD hS hA [0, 1, 2, 3, 4, 5, 6, 7, 8, 9, 10, 11, 12, 13, 14, 15, 16, 17, 18, 19, 20, 21] [] (wr := ([] : va_W)) rfl rfl (by decide) (by decide) (by decide) 0 7 rfl rfl rfl [0, 1, 2, 3, 4, 5, 6, 7, 8, 9, 10, 11, 12, 13, 14, 15, 16, 17, 18, 19, 20, 21] (fun (u : Unit) => (W_M cI cS mA mf mn ml mk mg mls ms mra mrf mrk mrg mrl mrs mo moo moa mp mpp mfi mpl mpo mro mdp mdf mhg mhk mR mRf mRo mss msl msh mha mt)) (fun _ => rfl) (by decide) rfl hl.1 rfl (Nat.le_of_ble_eq_true rfl) ⟨Nat.zero_le _, Nat.zero_le _⟩ dX7_tell_2 (fun r_ u_ H locs hw hP hD hS => ?_)
  try dsimp only at hw
  subst hw
  have hP : va_P D vwCl (W_M cI cS mA mf mn ml mk mg mls ms mra mrf mrk mrg mrl mrs mo moo moa mp mpp mfi mpl mpo mro mdp mdf mhg mhk mR mRf mRo mss msl msh mha mt) H := hP
  have hD : va_D A (W_M cI cS mA mf mn ml mk mg mls ms mra mrf mrk mrg mrl mrs mo moo moa mp mpp mfi mpl mpo mro mdp mdf mhg mhk mR mRf mRo mss msl msh mha mt) := hD
  refine n_if_b1 (tgt := 10) hx hb dX7_tell_5 (by decide)  (fun c_1 => ?_) (fun c_1 => ?_)
  ·
    have hkf := hkk.1 f (by omega) (by omega)
    refine lv_aload_n hx hb dX7_tell_10 rfl (lv_at hl 0 rfl) ?_
    refine va_get (D := D) (ci := 7) (v := .ref (mA 1)) (C := RX7) (T := TX7) (N := 34) hx hb hts iw_7 hown hK.1 hP 0 rfl rfl 3 (by decide) fl_7 (fun _ h9 => h9) rfl dX7_tell_11 ?_
    refine lv_iload_n hx hb dX7_tell_14 rfl (lv_at hl 1 rfl) ?_
    refine n_iald (n := 5) hx hb hK.1 hP 1 0 rfl rfl (by omega) (by decide) dX7_tell_15 ?_
    refine lv_istore_n (lv' := [(2, .int (iI (mk f))), (0, .ref (mA 0)), (1, .int (iI f))]) hx hb dX7_tell_16 rfl hl (by decide) rfl (fun ls hl => ?_)
    refine lv_iload_n hx hb dX7_tell_17 rfl (lv_at hl 0 rfl) ?_
    refine lv_iconst (v := iI 2) hx hb dX7_tell_18 (by decide +kernel) ?_
    refine n_icmp_ne (tgt := 27) hx hb dX7_tell_19 (by decide) (by omega) (fun c_2 => ?_) (fun c_2 => ?_)
    ·
      refine lv_iload_n hx hb dX7_tell_27 rfl (lv_at hl 0 rfl) ?_
      refine n_if_le (tgt := 36) hx hb dX7_tell_28 (by decide) (by omega) (fun c_3 => ?_) (fun c_3 => ?_)
      ·
        refine lv_aload_n hx hb dX7_tell_36 rfl (lv_at hl 1 rfl) ?_
        refine lv_iconst (v := iI 1) hx hb dX7_tell_37 (by decide +kernel) ?_
        refine x_callVv (As := [.int (iI 1)]) (rest := []) ⟨hx, hb, hml, hown, hts⟩ (c_X7_traced l D cI cS mA mf mn ml mk mg mls ms mra mrf mrk mrg mrl mrs mo moo moa mp mpp mfi mpl mpo mro mdp mdf mhg mhk mR mRf mRo mss msl msh mha mt H.size 1) (cwV 1 hts gX7_tell_X7_traced rfl rfl rfl (by decide +kernel) ⟨Nat.le_of_ble_eq_true rfl, Nat.le_of_ble_eq_true rfl⟩) hK hP hD hS hA [0, 1, 2, 3, 4, 5, 6, 7, 8, 9, 10, 11, 12, 13, 14, 15, 16, 17, 18, 19, 20, 21] [] (wr := ([] : va_W)) rfl rfl (by decide) (by decide) (by decide) 0 7 rfl rfl rfl [0, 1, 2, 3, 4, 5, 6, 7, 8, 9, 10, 11, 12, 13, 14, 15, 16, 17, 18, 19, 20, 21] (fun (u : Unit) => (W_M cI cS mA mf mn ml mk mg mls ms mra mrf mrk mrg mrl mrs mo moo moa mp mpp mfi mpl mpo mro mdp mdf mhg mhk mR mRf mRo mss msl msh mha ((31 * mt) + 1))) (fun _ => rfl) (by decide) rfl hl.1 rfl (Nat.le_of_ble_eq_true rfl) ⟨Nat.zero_le _, Nat.zero_le _⟩ dX7_tell_38 (fun u_ H locs hw hP hD hS => ?_)
        try dsimp only at hw
        have hP : va_P D vwCl (W_M cI cS mA mf mn ml mk mg mls ms mra mrf mrk mrg mrl mrs mo moo moa mp mpp mfi mpl mpo mro mdp mdf mhg mhk mR mRf mRo mss msl msh mha ((31 * mt) + 1)) H := hP
        have hD : va_D A (W_M cI cS mA mf mn ml mk mg mls ms mra mrf mrk mrg mrl mrs mo moo moa mp mpp mfi mpl mpo mro mdp mdf mhg mhk mR mRf mRo mss msl msh mha ((31 * mt) + 1)) := hD
        refine lv_iload_n hx hb dX7_tell_41 rfl (lv_at hl 0 rfl) ?_
        refine lv_iconst (v := iI 2) hx hb dX7_tell_42 (by decide +kernel) ?_
        refine n_icmp_ne (tgt := 51) hx hb dX7_tell_43 (by decide) (by omega) (fun c_4 => ?_) (fun c_4 => ?_)
        ·
          refine lv_aload_n hx hb dX7_tell_51 rfl (lv_at hl 1 rfl) ?_
          refine va_get (D := D) (ci := 7) (v := .ref (mA 3)) (C := RX7) (T := TX7) (N := 34) hx hb hts iw_7 hown hK.1 hP 0 rfl rfl 5 (by decide) fl_16 (fun _ h9 => h9) rfl dX7_tell_52 ?_
          refine lv_iload_n hx hb dX7_tell_55 rfl (lv_at hl 2 rfl) ?_
          refine n_iald (n := 5) hx hb hK.1 hP 3 0 rfl rfl (by omega) (by decide) dX7_tell_56 ?_
          refine lv_istore_n (lv' := [(3, .int (iI (mls f))), (2, .int (iI (mk f))), (0, .ref (mA 0)), (1, .int (iI f))]) hx hb dX7_tell_57 rfl hl (by decide) rfl (fun ls hl => ?_)
          refine lv_iload_n hx hb dX7_tell_58 rfl (lv_at hl 1 rfl) ?_
          refine n_if_ne (tgt := 66) hx hb dX7_tell_59 (by decide) (by omega) (fun c_5 => ?_) (fun c_5 => ?_)
          · exact False.elim (by first | contradiction | omega)
          ·
            refine lv_iload_n hx hb dX7_tell_62 rfl (lv_at hl 0 rfl) ?_
            refine lv_goto (tgt := 84) hx hb dX7_tell_63 (by decide) ?_
            have e_6 : (((31 * mt) + 1) : Int) = (if 0 ≤ f ∧ f < mn then (if mk f = 1 then (31 * ((31 * mt) + 2)) + 1 else if mk f = 2 then (31 * ((31 * ((31 * ((31 * mt) + 3)) + 2)) + 1)) + 1 else (31 * mt) + 1) else mt) := (by omega)
            have hP : va_P D vwCl (W_M cI cS mA mf mn ml mk mg mls ms mra mrf mrk mrg mrl mrs mo moo moa mp mpp mfi mpl mpo mro mdp mdf mhg mhk mR mRf mRo mss msl msh mha (if 0 ≤ f ∧ f < mn then (if mk f = 1 then (31 * ((31 * mt) + 2)) + 1 else if mk f = 2 then (31 * ((31 * ((31 * ((31 * mt) + 3)) + 2)) + 1)) + 1 else (31 * mt) + 1) else mt)) H := Eq.mp (congrArg (fun z_ => va_P D vwCl (W_M cI cS mA mf mn ml mk mg mls ms mra mrf mrk mrg mrl mrs mo moo moa mp mpp mfi mpl mpo mro mdp mdf mhg mhk mR mRf mRo mss msl msh mha z_) H) e_6) hP
            have hD : va_D A (W_M cI cS mA mf mn ml mk mg mls ms mra mrf mrk mrg mrl mrs mo moo moa mp mpp mfi mpl mpo mro mdp mdf mhg mhk mR mRf mRo mss msl msh mha (if 0 ≤ f ∧ f < mn then (if mk f = 1 then (31 * ((31 * mt) + 2)) + 1 else if mk f = 2 then (31 * ((31 * ((31 * ((31 * mt) + 3)) + 2)) + 1)) + 1 else (31 * mt) + 1) else mt)) := Eq.mp (congrArg (fun z_ => va_D A (W_M cI cS mA mf mn ml mk mg mls ms mra mrf mrk mrg mrl mrs mo moo moa mp mpp mfi mpl mpo mro mdp mdf mhg mhk mR mRf mRo mss msl msh mha z_)) e_6) hD
            exact W.iret (v := iI (mls f)) hx hb hr (fun t ht hW => ⟨⟨_, (), rfl, congrArg iI (show (mls f) = (if 0 ≤ f ∧ f < mn then (if mk f = 1 then mls f + 100 else if mk f = 2 then mls f + 100 + mls f else mls f) else (-1)) from (by omega)), by rw [ht]; exact hP, hD⟩, hS.F ht⟩) hS.2.2 dX7_tell_84
        · exact False.elim (by first | contradiction | omega)
      ·
        refine lv_aload_n hx hb dX7_tell_31 rfl (lv_at hl 1 rfl) ?_
        refine lv_iconst (v := iI 2) hx hb dX7_tell_32 (by decide +kernel) ?_
        refine x_callVv (As := [.int (iI 2)]) (rest := []) ⟨hx, hb, hml, hown, hts⟩ (c_X7_traced l D cI cS mA mf mn ml mk mg mls ms mra mrf mrk mrg mrl mrs mo moo moa mp mpp mfi mpl mpo mro mdp mdf mhg mhk mR mRf mRo mss msl msh mha mt H.size 2) (cwV 1 hts gX7_tell_X7_traced rfl rfl rfl (by decide +kernel) ⟨Nat.le_of_ble_eq_true rfl, Nat.le_of_ble_eq_true rfl⟩) hK hP hD hS hA [0, 1, 2, 3, 4, 5, 6, 7, 8, 9, 10, 11, 12, 13, 14, 15, 16, 17, 18, 19, 20, 21] [] (wr := ([] : va_W)) rfl rfl (by decide) (by decide) (by decide) 0 7 rfl rfl rfl [0, 1, 2, 3, 4, 5, 6, 7, 8, 9, 10, 11, 12, 13, 14, 15, 16, 17, 18, 19, 20, 21] (fun (u : Unit) => (W_M cI cS mA mf mn ml mk mg mls ms mra mrf mrk mrg mrl mrs mo moo moa mp mpp mfi mpl mpo mro mdp mdf mhg mhk mR mRf mRo mss msl msh mha ((31 * mt) + 2))) (fun _ => rfl) (by decide) rfl hl.1 rfl (Nat.le_of_ble_eq_true rfl) ⟨Nat.zero_le _, Nat.zero_le _⟩ dX7_tell_33 (fun u_ H locs hw hP hD hS => ?_)
        try dsimp only at hw
        have hP : va_P D vwCl (W_M cI cS mA mf mn ml mk mg mls ms mra mrf mrk mrg mrl mrs mo moo moa mp mpp mfi mpl mpo mro mdp mdf mhg mhk mR mRf mRo mss msl msh mha ((31 * mt) + 2)) H := hP
        have hD : va_D A (W_M cI cS mA mf mn ml mk mg mls ms mra mrf mrk mrg mrl mrs mo moo moa mp mpp mfi mpl mpo mro mdp mdf mhg mhk mR mRf mRo mss msl msh mha ((31 * mt) + 2)) := hD
        refine lv_aload_n hx hb dX7_tell_36 rfl (lv_at hl 1 rfl) ?_
        refine lv_iconst (v := iI 1) hx hb dX7_tell_37 (by decide +kernel) ?_
        refine x_callVv (As := [.int (iI 1)]) (rest := []) ⟨hx, hb, hml, hown, hts⟩ (c_X7_traced l D cI cS mA mf mn ml mk mg mls ms mra mrf mrk mrg mrl mrs mo moo moa mp mpp mfi mpl mpo mro mdp mdf mhg mhk mR mRf mRo mss msl msh mha ((31 * mt) + 2) H.size 1) (cwV 1 hts gX7_tell_X7_traced rfl rfl rfl (by decide +kernel) ⟨Nat.le_of_ble_eq_true rfl, Nat.le_of_ble_eq_true rfl⟩) hK hP hD hS hA [0, 1, 2, 3, 4, 5, 6, 7, 8, 9, 10, 11, 12, 13, 14, 15, 16, 17, 18, 19, 20, 21] [] (wr := ([] : va_W)) rfl rfl (by decide) (by decide) (by decide) 0 7 rfl rfl rfl [0, 1, 2, 3, 4, 5, 6, 7, 8, 9, 10, 11, 12, 13, 14, 15, 16, 17, 18, 19, 20, 21] (fun (u : Unit) => (W_M cI cS mA mf mn ml mk mg mls ms mra mrf mrk mrg mrl mrs mo moo moa mp mpp mfi mpl mpo mro mdp mdf mhg mhk mR mRf mRo mss msl msh mha ((31 * ((31 * mt) + 2)) + 1))) (fun _ => rfl) (by decide) rfl hl.1 rfl (Nat.le_of_ble_eq_true rfl) ⟨Nat.zero_le _, Nat.zero_le _⟩ dX7_tell_38 (fun u_ H locs hw hP hD hS => ?_)
        try dsimp only at hw
        have hP : va_P D vwCl (W_M cI cS mA mf mn ml mk mg mls ms mra mrf mrk mrg mrl mrs mo moo moa mp mpp mfi mpl mpo mro mdp mdf mhg mhk mR mRf mRo mss msl msh mha ((31 * ((31 * mt) + 2)) + 1)) H := hP
        have hD : va_D A (W_M cI cS mA mf mn ml mk mg mls ms mra mrf mrk mrg mrl mrs mo moo moa mp mpp mfi mpl mpo mro mdp mdf mhg mhk mR mRf mRo mss msl msh mha ((31 * ((31 * mt) + 2)) + 1)) := hD
        refine lv_iload_n hx hb dX7_tell_41 rfl (lv_at hl 0 rfl) ?_
        refine lv_iconst (v := iI 2) hx hb dX7_tell_42 (by decide +kernel) ?_
        refine n_icmp_ne (tgt := 51) hx hb dX7_tell_43 (by decide) (by omega) (fun c_7 => ?_) (fun c_7 => ?_)
        ·
          refine lv_aload_n hx hb dX7_tell_51 rfl (lv_at hl 1 rfl) ?_
          refine va_get (D := D) (ci := 7) (v := .ref (mA 3)) (C := RX7) (T := TX7) (N := 34) hx hb hts iw_7 hown hK.1 hP 0 rfl rfl 5 (by decide) fl_16 (fun _ h9 => h9) rfl dX7_tell_52 ?_
          refine lv_iload_n hx hb dX7_tell_55 rfl (lv_at hl 2 rfl) ?_
          refine n_iald (n := 5) hx hb hK.1 hP 3 0 rfl rfl (by omega) (by decide) dX7_tell_56 ?_
          refine lv_istore_n (lv' := [(3, .int (iI (mls f))), (2, .int (iI (mk f))), (0, .ref (mA 0)), (1, .int (iI f))]) hx hb dX7_tell_57 rfl hl (by decide) rfl (fun ls hl => ?_)
          refine lv_iload_n hx hb dX7_tell_58 rfl (lv_at hl 1 rfl) ?_
          refine n_if_ne (tgt := 66) hx hb dX7_tell_59 (by decide) (by omega) (fun c_8 => ?_) (fun c_8 => ?_)
          ·
            refine lv_iload_n hx hb dX7_tell_66 rfl (lv_at hl 1 rfl) ?_
            refine lv_iconst (v := iI 1) hx hb dX7_tell_67 (by decide +kernel) ?_
            refine n_icmp_ne (tgt := 78) hx hb dX7_tell_68 (by decide) (by omega) (fun c_9 => ?_) (fun c_9 => ?_)
            ·
              refine lv_iconst (v := iI 2) hx hb dX7_tell_78 (by decide +kernel) ?_
              refine lv_iload_n hx hb dX7_tell_79 rfl (lv_at hl 0 rfl) ?_
              refine n_imul hx hb dX7_tell_80 ?_
              refine lv_bipush (v := iI 100) hx hb dX7_tell_81 (by decide +kernel) ?_
              refine n_iadd hx hb dX7_tell_83 ?_
              have e_10 : (((31 * ((31 * mt) + 2)) + 1) : Int) = (if 0 ≤ f ∧ f < mn then (if mk f = 1 then (31 * ((31 * mt) + 2)) + 1 else if mk f = 2 then (31 * ((31 * ((31 * ((31 * mt) + 3)) + 2)) + 1)) + 1 else (31 * mt) + 1) else mt) := (by omega)
              have hP : va_P D vwCl (W_M cI cS mA mf mn ml mk mg mls ms mra mrf mrk mrg mrl mrs mo moo moa mp mpp mfi mpl mpo mro mdp mdf mhg mhk mR mRf mRo mss msl msh mha (if 0 ≤ f ∧ f < mn then (if mk f = 1 then (31 * ((31 * mt) + 2)) + 1 else if mk f = 2 then (31 * ((31 * ((31 * ((31 * mt) + 3)) + 2)) + 1)) + 1 else (31 * mt) + 1) else mt)) H := Eq.mp (congrArg (fun z_ => va_P D vwCl (W_M cI cS mA mf mn ml mk mg mls ms mra mrf mrk mrg mrl mrs mo moo moa mp mpp mfi mpl mpo mro mdp mdf mhg mhk mR mRf mRo mss msl msh mha z_) H) e_10) hP
              have hD : va_D A (W_M cI cS mA mf mn ml mk mg mls ms mra mrf mrk mrg mrl mrs mo moo moa mp mpp mfi mpl mpo mro mdp mdf mhg mhk mR mRf mRo mss msl msh mha (if 0 ≤ f ∧ f < mn then (if mk f = 1 then (31 * ((31 * mt) + 2)) + 1 else if mk f = 2 then (31 * ((31 * ((31 * ((31 * mt) + 3)) + 2)) + 1)) + 1 else (31 * mt) + 1) else mt)) := Eq.mp (congrArg (fun z_ => va_D A (W_M cI cS mA mf mn ml mk mg mls ms mra mrf mrk mrg mrl mrs mo moo moa mp mpp mfi mpl mpo mro mdp mdf mhg mhk mR mRf mRo mss msl msh mha z_)) e_10) hD
              exact W.iret (v := iI ((2 * (mls f)) + 100)) hx hb hr (fun t ht hW => ⟨⟨_, (), rfl, congrArg iI (show ((2 * (mls f)) + 100) = (if 0 ≤ f ∧ f < mn then (if mk f = 1 then mls f + 100 else if mk f = 2 then mls f + 100 + mls f else mls f) else (-1)) from (by omega)), by rw [ht]; exact hP, hD⟩, hS.F ht⟩) hS.2.2 dX7_tell_84
            ·
              refine lv_iload_n hx hb dX7_tell_71 rfl (lv_at hl 0 rfl) ?_
              refine lv_bipush (v := iI 100) hx hb dX7_tell_72 (by decide +kernel) ?_
              refine n_iadd hx hb dX7_tell_74 ?_
              refine lv_goto (tgt := 84) hx hb dX7_tell_75 (by decide) ?_
              have e_11 : (((31 * ((31 * mt) + 2)) + 1) : Int) = (if 0 ≤ f ∧ f < mn then (if mk f = 1 then (31 * ((31 * mt) + 2)) + 1 else if mk f = 2 then (31 * ((31 * ((31 * ((31 * mt) + 3)) + 2)) + 1)) + 1 else (31 * mt) + 1) else mt) := (by omega)
              have hP : va_P D vwCl (W_M cI cS mA mf mn ml mk mg mls ms mra mrf mrk mrg mrl mrs mo moo moa mp mpp mfi mpl mpo mro mdp mdf mhg mhk mR mRf mRo mss msl msh mha (if 0 ≤ f ∧ f < mn then (if mk f = 1 then (31 * ((31 * mt) + 2)) + 1 else if mk f = 2 then (31 * ((31 * ((31 * ((31 * mt) + 3)) + 2)) + 1)) + 1 else (31 * mt) + 1) else mt)) H := Eq.mp (congrArg (fun z_ => va_P D vwCl (W_M cI cS mA mf mn ml mk mg mls ms mra mrf mrk mrg mrl mrs mo moo moa mp mpp mfi mpl mpo mro mdp mdf mhg mhk mR mRf mRo mss msl msh mha z_) H) e_11) hP
              have hD : va_D A (W_M cI cS mA mf mn ml mk mg mls ms mra mrf mrk mrg mrl mrs mo moo moa mp mpp mfi mpl mpo mro mdp mdf mhg mhk mR mRf mRo mss msl msh mha (if 0 ≤ f ∧ f < mn then (if mk f = 1 then (31 * ((31 * mt) + 2)) + 1 else if mk f = 2 then (31 * ((31 * ((31 * ((31 * mt) + 3)) + 2)) + 1)) + 1 else (31 * mt) + 1) else mt)) := Eq.mp (congrArg (fun z_ => va_D A (W_M cI cS mA mf mn ml mk mg mls ms mra mrf mrk mrg mrl mrs mo moo moa mp mpp mfi mpl mpo mro mdp mdf mhg mhk mR mRf mRo mss msl msh mha z_)) e_11) hD
              exact W.iret (v := iI ((mls f) + 100)) hx hb hr (fun t ht hW => ⟨⟨_, (), rfl, congrArg iI (show ((mls f) + 100) = (if 0 ≤ f ∧ f < mn then (if mk f = 1 then mls f + 100 else if mk f = 2 then mls f + 100 + mls f else mls f) else (-1)) from (by omega)), by rw [ht]; exact hP, hD⟩, hS.F ht⟩) hS.2.2 dX7_tell_84
          · exact False.elim (by first | contradiction | omega)
        · exact False.elim (by first | contradiction | omega)
    ·
      refine lv_aload_n hx hb dX7_tell_22 rfl (lv_at hl 1 rfl) ?_
      refine lv_iconst (v := iI 3) hx hb dX7_tell_23 (by decide +kernel) ?_
      refine x_callVv (As := [.int (iI 3)]) (rest := []) ⟨hx, hb, hml, hown, hts⟩ (c_X7_traced l D cI cS mA mf mn ml mk mg mls ms mra mrf mrk mrg mrl mrs mo moo moa mp mpp mfi mpl mpo mro mdp mdf mhg mhk mR mRf mRo mss msl msh mha mt H.size 3) (cwV 1 hts gX7_tell_X7_traced rfl rfl rfl (by decide +kernel) ⟨Nat.le_of_ble_eq_true rfl, Nat.le_of_ble_eq_true rfl⟩) hK hP hD hS hA [0, 1, 2, 3, 4, 5, 6, 7, 8, 9, 10, 11, 12, 13, 14, 15, 16, 17, 18, 19, 20, 21] [] (wr := ([] : va_W)) rfl rfl (by decide) (by decide) (by decide) 0 7 rfl rfl rfl [0, 1, 2, 3, 4, 5, 6, 7, 8, 9, 10, 11, 12, 13, 14, 15, 16, 17, 18, 19, 20, 21] (fun (u : Unit) => (W_M cI cS mA mf mn ml mk mg mls ms mra mrf mrk mrg mrl mrs mo moo moa mp mpp mfi mpl mpo mro mdp mdf mhg mhk mR mRf mRo mss msl msh mha ((31 * mt) + 3))) (fun _ => rfl) (by decide) rfl hl.1 rfl (Nat.le_of_ble_eq_true rfl) ⟨Nat.zero_le _, Nat.zero_le _⟩ dX7_tell_24 (fun u_ H locs hw hP hD hS => ?_)
      try dsimp only at hw
      have hP : va_P D vwCl (W_M cI cS mA mf mn ml mk mg mls ms mra mrf mrk mrg mrl mrs mo moo moa mp mpp mfi mpl mpo mro mdp mdf mhg mhk mR mRf mRo mss msl msh mha ((31 * mt) + 3)) H := hP
      have hD : va_D A (W_M cI cS mA mf mn ml mk mg mls ms mra mrf mrk mrg mrl mrs mo moo moa mp mpp mfi mpl mpo mro mdp mdf mhg mhk mR mRf mRo mss msl msh mha ((31 * mt) + 3)) := hD
      refine lv_iload_n hx hb dX7_tell_27 rfl (lv_at hl 0 rfl) ?_
      refine n_if_le (tgt := 36) hx hb dX7_tell_28 (by decide) (by omega) (fun c_12 => ?_) (fun c_12 => ?_)
      · exact False.elim (by first | contradiction | omega)
      ·
        refine lv_aload_n hx hb dX7_tell_31 rfl (lv_at hl 1 rfl) ?_
        refine lv_iconst (v := iI 2) hx hb dX7_tell_32 (by decide +kernel) ?_
        refine x_callVv (As := [.int (iI 2)]) (rest := []) ⟨hx, hb, hml, hown, hts⟩ (c_X7_traced l D cI cS mA mf mn ml mk mg mls ms mra mrf mrk mrg mrl mrs mo moo moa mp mpp mfi mpl mpo mro mdp mdf mhg mhk mR mRf mRo mss msl msh mha ((31 * mt) + 3) H.size 2) (cwV 1 hts gX7_tell_X7_traced rfl rfl rfl (by decide +kernel) ⟨Nat.le_of_ble_eq_true rfl, Nat.le_of_ble_eq_true rfl⟩) hK hP hD hS hA [0, 1, 2, 3, 4, 5, 6, 7, 8, 9, 10, 11, 12, 13, 14, 15, 16, 17, 18, 19, 20, 21] [] (wr := ([] : va_W)) rfl rfl (by decide) (by decide) (by decide) 0 7 rfl rfl rfl [0, 1, 2, 3, 4, 5, 6, 7, 8, 9, 10, 11, 12, 13, 14, 15, 16, 17, 18, 19, 20, 21] (fun (u : Unit) => (W_M cI cS mA mf mn ml mk mg mls ms mra mrf mrk mrg mrl mrs mo moo moa mp mpp mfi mpl mpo mro mdp mdf mhg mhk mR mRf mRo mss msl msh mha ((31 * ((31 * mt) + 3)) + 2))) (fun _ => rfl) (by decide) rfl hl.1 rfl (Nat.le_of_ble_eq_true rfl) ⟨Nat.zero_le _, Nat.zero_le _⟩ dX7_tell_33 (fun u_ H locs hw hP hD hS => ?_)
        try dsimp only at hw
        have hP : va_P D vwCl (W_M cI cS mA mf mn ml mk mg mls ms mra mrf mrk mrg mrl mrs mo moo moa mp mpp mfi mpl mpo mro mdp mdf mhg mhk mR mRf mRo mss msl msh mha ((31 * ((31 * mt) + 3)) + 2)) H := hP
        have hD : va_D A (W_M cI cS mA mf mn ml mk mg mls ms mra mrf mrk mrg mrl mrs mo moo moa mp mpp mfi mpl mpo mro mdp mdf mhg mhk mR mRf mRo mss msl msh mha ((31 * ((31 * mt) + 3)) + 2)) := hD
        refine lv_aload_n hx hb dX7_tell_36 rfl (lv_at hl 1 rfl) ?_
        refine lv_iconst (v := iI 1) hx hb dX7_tell_37 (by decide +kernel) ?_
        refine x_callVv (As := [.int (iI 1)]) (rest := []) ⟨hx, hb, hml, hown, hts⟩ (c_X7_traced l D cI cS mA mf mn ml mk mg mls ms mra mrf mrk mrg mrl mrs mo moo moa mp mpp mfi mpl mpo mro mdp mdf mhg mhk mR mRf mRo mss msl msh mha ((31 * ((31 * mt) + 3)) + 2) H.size 1) (cwV 1 hts gX7_tell_X7_traced rfl rfl rfl (by decide +kernel) ⟨Nat.le_of_ble_eq_true rfl, Nat.le_of_ble_eq_true rfl⟩) hK hP hD hS hA [0, 1, 2, 3, 4, 5, 6, 7, 8, 9, 10, 11, 12, 13, 14, 15, 16, 17, 18, 19, 20, 21] [] (wr := ([] : va_W)) rfl rfl (by decide) (by decide) (by decide) 0 7 rfl rfl rfl [0, 1, 2, 3, 4, 5, 6, 7, 8, 9, 10, 11, 12, 13, 14, 15, 16, 17, 18, 19, 20, 21] (fun (u : Unit) => (W_M cI cS mA mf mn ml mk mg mls ms mra mrf mrk mrg mrl mrs mo moo moa mp mpp mfi mpl mpo mro mdp mdf mhg mhk mR mRf mRo mss msl msh mha ((31 * ((31 * ((31 * mt) + 3)) + 2)) + 1))) (fun _ => rfl) (by decide) rfl hl.1 rfl (Nat.le_of_ble_eq_true rfl) ⟨Nat.zero_le _, Nat.zero_le _⟩ dX7_tell_38 (fun u_ H locs hw hP hD hS => ?_)
        try dsimp only at hw
        have hP : va_P D vwCl (W_M cI cS mA mf mn ml mk mg mls ms mra mrf mrk mrg mrl mrs mo moo moa mp mpp mfi mpl mpo mro mdp mdf mhg mhk mR mRf mRo mss msl msh mha ((31 * ((31 * ((31 * mt) + 3)) + 2)) + 1)) H := hP
        have hD : va_D A (W_M cI cS mA mf mn ml mk mg mls ms mra mrf mrk mrg mrl mrs mo moo moa mp mpp mfi mpl mpo mro mdp mdf mhg mhk mR mRf mRo mss msl msh mha ((31 * ((31 * ((31 * mt) + 3)) + 2)) + 1)) := hD
        refine lv_iload_n hx hb dX7_tell_41 rfl (lv_at hl 0 rfl) ?_
        refine lv_iconst (v := iI 2) hx hb dX7_tell_42 (by decide +kernel) ?_
        refine n_icmp_ne (tgt := 51) hx hb dX7_tell_43 (by decide) (by omega) (fun c_13 => ?_) (fun c_13 => ?_)
        · exact False.elim (by first | contradiction | omega)
        ·
          refine lv_aload_n hx hb dX7_tell_46 rfl (lv_at hl 1 rfl) ?_
          refine lv_iconst (v := iI 1) hx hb dX7_tell_47 (by decide +kernel) ?_
          refine x_callVv (As := [.int (iI 1)]) (rest := []) ⟨hx, hb, hml, hown, hts⟩ (c_X7_traced l D cI cS mA mf mn ml mk mg mls ms mra mrf mrk mrg mrl mrs mo moo moa mp mpp mfi mpl mpo mro mdp mdf mhg mhk mR mRf mRo mss msl msh mha ((31 * ((31 * ((31 * mt) + 3)) + 2)) + 1) H.size 1) (cwV 1 hts gX7_tell_X7_traced rfl rfl rfl (by decide +kernel) ⟨Nat.le_of_ble_eq_true rfl, Nat.le_of_ble_eq_true rfl⟩) hK hP hD hS hA [0, 1, 2, 3, 4, 5, 6, 7, 8, 9, 10, 11, 12, 13, 14, 15, 16, 17, 18, 19, 20, 21] [] (wr := ([] : va_W)) rfl rfl (by decide) (by decide) (by decide) 0 7 rfl rfl rfl [0, 1, 2, 3, 4, 5, 6, 7, 8, 9, 10, 11, 12, 13, 14, 15, 16, 17, 18, 19, 20, 21] (fun (u : Unit) => (W_M cI cS mA mf mn ml mk mg mls ms mra mrf mrk mrg mrl mrs mo moo moa mp mpp mfi mpl mpo mro mdp mdf mhg mhk mR mRf mRo mss msl msh mha ((31 * ((31 * ((31 * ((31 * mt) + 3)) + 2)) + 1)) + 1))) (fun _ => rfl) (by decide) rfl hl.1 rfl (Nat.le_of_ble_eq_true rfl) ⟨Nat.zero_le _, Nat.zero_le _⟩ dX7_tell_48 (fun u_ H locs hw hP hD hS => ?_)
          try dsimp only at hw
          have hP : va_P D vwCl (W_M cI cS mA mf mn ml mk mg mls ms mra mrf mrk mrg mrl mrs mo moo moa mp mpp mfi mpl mpo mro mdp mdf mhg mhk mR mRf mRo mss msl msh mha ((31 * ((31 * ((31 * ((31 * mt) + 3)) + 2)) + 1)) + 1)) H := hP
          have hD : va_D A (W_M cI cS mA mf mn ml mk mg mls ms mra mrf mrk mrg mrl mrs mo moo moa mp mpp mfi mpl mpo mro mdp mdf mhg mhk mR mRf mRo mss msl msh mha ((31 * ((31 * ((31 * ((31 * mt) + 3)) + 2)) + 1)) + 1)) := hD
          refine lv_aload_n hx hb dX7_tell_51 rfl (lv_at hl 1 rfl) ?_
          refine va_get (D := D) (ci := 7) (v := .ref (mA 3)) (C := RX7) (T := TX7) (N := 34) hx hb hts iw_7 hown hK.1 hP 0 rfl rfl 5 (by decide) fl_16 (fun _ h9 => h9) rfl dX7_tell_52 ?_
          refine lv_iload_n hx hb dX7_tell_55 rfl (lv_at hl 2 rfl) ?_
          refine n_iald (n := 5) hx hb hK.1 hP 3 0 rfl rfl (by omega) (by decide) dX7_tell_56 ?_
          refine lv_istore_n (lv' := [(3, .int (iI (mls f))), (2, .int (iI (mk f))), (0, .ref (mA 0)), (1, .int (iI f))]) hx hb dX7_tell_57 rfl hl (by decide) rfl (fun ls hl => ?_)
          refine lv_iload_n hx hb dX7_tell_58 rfl (lv_at hl 1 rfl) ?_
          refine n_if_ne (tgt := 66) hx hb dX7_tell_59 (by decide) (by omega) (fun c_14 => ?_) (fun c_14 => ?_)
          ·
            refine lv_iload_n hx hb dX7_tell_66 rfl (lv_at hl 1 rfl) ?_
            refine lv_iconst (v := iI 1) hx hb dX7_tell_67 (by decide +kernel) ?_
            refine n_icmp_ne (tgt := 78) hx hb dX7_tell_68 (by decide) (by omega) (fun c_15 => ?_) (fun c_15 => ?_)
            ·
              refine lv_iconst (v := iI 2) hx hb dX7_tell_78 (by decide +kernel) ?_
              refine lv_iload_n hx hb dX7_tell_79 rfl (lv_at hl 0 rfl) ?_
              refine n_imul hx hb dX7_tell_80 ?_
              refine lv_bipush (v := iI 100) hx hb dX7_tell_81 (by decide +kernel) ?_
              refine n_iadd hx hb dX7_tell_83 ?_
              have e_16 : (((31 * ((31 * ((31 * ((31 * mt) + 3)) + 2)) + 1)) + 1) : Int) = (if 0 ≤ f ∧ f < mn then (if mk f = 1 then (31 * ((31 * mt) + 2)) + 1 else if mk f = 2 then (31 * ((31 * ((31 * ((31 * mt) + 3)) + 2)) + 1)) + 1 else (31 * mt) + 1) else mt) := (by omega)
              have hP : va_P D vwCl (W_M cI cS mA mf mn ml mk mg mls ms mra mrf mrk mrg mrl mrs mo moo moa mp mpp mfi mpl mpo mro mdp mdf mhg mhk mR mRf mRo mss msl msh mha (if 0 ≤ f ∧ f < mn then (if mk f = 1 then (31 * ((31 * mt) + 2)) + 1 else if mk f = 2 then (31 * ((31 * ((31 * ((31 * mt) + 3)) + 2)) + 1)) + 1 else (31 * mt) + 1) else mt)) H := Eq.mp (congrArg (fun z_ => va_P D vwCl (W_M cI cS mA mf mn ml mk mg mls ms mra mrf mrk mrg mrl mrs mo moo moa mp mpp mfi mpl mpo mro mdp mdf mhg mhk mR mRf mRo mss msl msh mha z_) H) e_16) hP
              have hD : va_D A (W_M cI cS mA mf mn ml mk mg mls ms mra mrf mrk mrg mrl mrs mo moo moa mp mpp mfi mpl mpo mro mdp mdf mhg mhk mR mRf mRo mss msl msh mha (if 0 ≤ f ∧ f < mn then (if mk f = 1 then (31 * ((31 * mt) + 2)) + 1 else if mk f = 2 then (31 * ((31 * ((31 * ((31 * mt) + 3)) + 2)) + 1)) + 1 else (31 * mt) + 1) else mt)) := Eq.mp (congrArg (fun z_ => va_D A (W_M cI cS mA mf mn ml mk mg mls ms mra mrf mrk mrg mrl mrs mo moo moa mp mpp mfi mpl mpo mro mdp mdf mhg mhk mR mRf mRo mss msl msh mha z_)) e_16) hD
              exact W.iret (v := iI ((2 * (mls f)) + 100)) hx hb hr (fun t ht hW => ⟨⟨_, (), rfl, congrArg iI (show ((2 * (mls f)) + 100) = (if 0 ≤ f ∧ f < mn then (if mk f = 1 then mls f + 100 else if mk f = 2 then mls f + 100 + mls f else mls f) else (-1)) from (by omega)), by rw [ht]; exact hP, hD⟩, hS.F ht⟩) hS.2.2 dX7_tell_84
            ·
              refine lv_iload_n hx hb dX7_tell_71 rfl (lv_at hl 0 rfl) ?_
              refine lv_bipush (v := iI 100) hx hb dX7_tell_72 (by decide +kernel) ?_
              refine n_iadd hx hb dX7_tell_74 ?_
              refine lv_goto (tgt := 84) hx hb dX7_tell_75 (by decide) ?_
              have e_17 : (((31 * ((31 * ((31 * ((31 * mt) + 3)) + 2)) + 1)) + 1) : Int) = (if 0 ≤ f ∧ f < mn then (if mk f = 1 then (31 * ((31 * mt) + 2)) + 1 else if mk f = 2 then (31 * ((31 * ((31 * ((31 * mt) + 3)) + 2)) + 1)) + 1 else (31 * mt) + 1) else mt) := (by omega)
              have hP : va_P D vwCl (W_M cI cS mA mf mn ml mk mg mls ms mra mrf mrk mrg mrl mrs mo moo moa mp mpp mfi mpl mpo mro mdp mdf mhg mhk mR mRf mRo mss msl msh mha (if 0 ≤ f ∧ f < mn then (if mk f = 1 then (31 * ((31 * mt) + 2)) + 1 else if mk f = 2 then (31 * ((31 * ((31 * ((31 * mt) + 3)) + 2)) + 1)) + 1 else (31 * mt) + 1) else mt)) H := Eq.mp (congrArg (fun z_ => va_P D vwCl (W_M cI cS mA mf mn ml mk mg mls ms mra mrf mrk mrg mrl mrs mo moo moa mp mpp mfi mpl mpo mro mdp mdf mhg mhk mR mRf mRo mss msl msh mha z_) H) e_17) hP
              have hD : va_D A (W_M cI cS mA mf mn ml mk mg mls ms mra mrf mrk mrg mrl mrs mo moo moa mp mpp mfi mpl mpo mro mdp mdf mhg mhk mR mRf mRo mss msl msh mha (if 0 ≤ f ∧ f < mn then (if mk f = 1 then (31 * ((31 * mt) + 2)) + 1 else if mk f = 2 then (31 * ((31 * ((31 * ((31 * mt) + 3)) + 2)) + 1)) + 1 else (31 * mt) + 1) else mt)) := Eq.mp (congrArg (fun z_ => va_D A (W_M cI cS mA mf mn ml mk mg mls ms mra mrf mrk mrg mrl mrs mo moo moa mp mpp mfi mpl mpo mro mdp mdf mhg mhk mR mRf mRo mss msl msh mha z_)) e_17) hD
              exact W.iret (v := iI ((mls f) + 100)) hx hb hr (fun t ht hW => ⟨⟨_, (), rfl, congrArg iI (show ((mls f) + 100) = (if 0 ≤ f ∧ f < mn then (if mk f = 1 then mls f + 100 else if mk f = 2 then mls f + 100 + mls f else mls f) else (-1)) from (by omega)), by rw [ht]; exact hP, hD⟩, hS.F ht⟩) hS.2.2 dX7_tell_84
          · exact False.elim (by first | contradiction | omega)
  ·
    refine lv_iconst (v := iI (-1)) hx hb dX7_tell_8 (by decide +kernel) ?_
    have e_18 : (mt : Int) = (if 0 ≤ f ∧ f < mn then (if mk f = 1 then (31 * ((31 * mt) + 2)) + 1 else if mk f = 2 then (31 * ((31 * ((31 * ((31 * mt) + 3)) + 2)) + 1)) + 1 else (31 * mt) + 1) else mt) := (by omega)
    have hP : va_P D vwCl (W_M cI cS mA mf mn ml mk mg mls ms mra mrf mrk mrg mrl mrs mo moo moa mp mpp mfi mpl mpo mro mdp mdf mhg mhk mR mRf mRo mss msl msh mha (if 0 ≤ f ∧ f < mn then (if mk f = 1 then (31 * ((31 * mt) + 2)) + 1 else if mk f = 2 then (31 * ((31 * ((31 * ((31 * mt) + 3)) + 2)) + 1)) + 1 else (31 * mt) + 1) else mt)) H := Eq.mp (congrArg (fun z_ => va_P D vwCl (W_M cI cS mA mf mn ml mk mg mls ms mra mrf mrk mrg mrl mrs mo moo moa mp mpp mfi mpl mpo mro mdp mdf mhg mhk mR mRf mRo mss msl msh mha z_) H) e_18) hP
    have hD : va_D A (W_M cI cS mA mf mn ml mk mg mls ms mra mrf mrk mrg mrl mrs mo moo moa mp mpp mfi mpl mpo mro mdp mdf mhg mhk mR mRf mRo mss msl msh mha (if 0 ≤ f ∧ f < mn then (if mk f = 1 then (31 * ((31 * mt) + 2)) + 1 else if mk f = 2 then (31 * ((31 * ((31 * ((31 * mt) + 3)) + 2)) + 1)) + 1 else (31 * mt) + 1) else mt)) := Eq.mp (congrArg (fun z_ => va_D A (W_M cI cS mA mf mn ml mk mg mls ms mra mrf mrk mrg mrl mrs mo moo moa mp mpp mfi mpl mpo mro mdp mdf mhg mhk mR mRf mRo mss msl msh mha z_)) e_18) hD
    exact W.iret (v := iI (-1)) hx hb hr (fun t ht hW => ⟨⟨_, (), rfl, congrArg iI (show (-1) = (if 0 ≤ f ∧ f < mn then (if mk f = 1 then mls f + 100 else if mk f = 2 then mls f + 100 + mls f else mls f) else (-1)) from (by omega)), by rw [ht]; exact hP, hD⟩, hS.F ht⟩) hS.2.2 dX7_tell_9
set_option maxHeartbeats 4000000 in
set_option maxRecDepth 100000 in
theorem c_X7_name (l : Launch) (D : va_G) (cI cS : ClassId) (mA : Nat → Nat) (mf : Int) (mn : Int) (ml : Int) (mk : Int → Int) (mg : Int → Int) (mls : Int → Int) (ms : Int → Int) (mra : Int) (mrf : Int) (mrk : Int → Int) (mrg : Int → Int) (mrl : Int → Int) (mrs : Int → Int) (mo : Int) (moo : Int → Int) (moa : Int → Int) (mp : Int) (mpp : Int → Int) (mfi : Int) (mpl : Int) (mpo : Int → Int) (mro : Int → Int) (mdp : Int) (mdf : Int) (mhg : Int → Int) (mhk : Int → Int) (mR : Int) (mRf : Int → Int) (mRo : Int → Int) (mss : Int → Int) (msl : Int → Int) (msh : Int → Int) (mha : Int → Int) (mt : Int) (sz : Nat) (f : Int) (hok : okP mn mls ms) (hkk : okK mn mk mg ml) (hfr : -2147483648 ≤ f ∧ f < 2147483648) : Met l yX7_name wsX7_name ({ frames := 2, cells := 0, slots := 0, locals := 46 }) (cP D cI cS (W_M cI cS mA mf mn ml mk mg mls ms mra mrf mrk mrg mrl mrs mo moo moa mp mpp mfi mpl mpo mro mdp mdf mhg mhk mR mRf mRo mss msl msh mha mt) sz [.ref (mA 0), .int (iI f)]) (va_Qi (fun (r : Int32) (u : Unit) => r = iI (if 0 ≤ f ∧ f < mn then (if mk f = 2 then 60 else f) else (-1))) (fun (u : Unit) t => cB D (va_A (W_M cI cS mA mf mn ml mk mg mls ms mra mrf mrk mrg mrl mrs mo moo moa mp mpp mfi mpl mpo mro mdp mdf mhg mhk mR mRf mRo mss msl msh mha mt) sz) (W_M cI cS mA mf mn ml mk mg mls ms mra mrf mrk mrg mrl mrs mo moo moa mp mpp mfi mpl mpo mro mdp mdf mhg mhk mR mRf mRo mss msl msh mha (if 0 ≤ f ∧ f < mn then (if mk f = 2 then (31 * mt) + 5 else (31 * mt) + 4) else mt)) t) (va_A (W_M cI cS mA mf mn ml mk mg mls ms mra mrf mrk mrg mrl mrs mo moo moa mp mpp mfi mpl mpo mro mdp mdf mhg mhk mR mRf mRo mss msl msh mha mt) sz)) 0 0 (va_A (W_M cI cS mA mf mn ml mk mg mls ms mra mrf mrk mrg mrl mrs mo moo moa mp mpp mfi mpl mpo mro mdp mdf mhg mhk mR mRf mRo mss msl msh mha mt) sz) := by
  refine Met.ofW (cc := cX7_name) (maxL := 2) (ret := (some .int)) (by decide) rfl ?_
  intro p e s m args below meth c_ s₁ B hml hv
  obtain ⟨rfl, hsz, hP, hK, hD0⟩ := hv
  have hx := B.exec
  have hb := B.bytes
  have hr := B.returns
  have hts := atoms_spec (ws := wsX7_name) B.pre
  have hown : s.vm.findClass RX7 = some m.cls := findClass_of_methodNamed B.named
  have hlocks := B.notSynchronized
  subst hsz
  have hD := hD0.self (sz := s.heap.size)
  generalize hAe : va_A (W_M cI cS mA mf mn ml mk mg mls ms mra mrf mrk mrg mrl mrs mo moo moa mp mpp mfi mpl mpo mro mdp mdf mhg mhk mR mRf mRo mss msl msh mha mt) s.heap.size = A at hD ⊢
  have hA : ∀ q : Nat, s.heap.size ≤ q → A q := fun q h => by rw [← hAe]; exact Or.inr h
  have hS : va_S A s.heap s.heap [] := va_S.rf
  have hP : va_P D vwCl (W_M cI cS mA mf mn ml mk mg mls ms mra mrf mrk mrg mrl mrs mo moo moa mp mpp mfi mpl mpo mro mdp mdf mhg mhk mR mRf mRo mss msl msh mha mt) s.heap := hP
  have hl := lv_entry ([.ref (mA 0), .int (iI f)] : List Value) (n := 2) (Nat.le_of_ble_eq_true rfl)
  rw [lg_entry_eq]
  generalize (lg_sl ([.ref (mA 0), .int (iI f)] : List Value) ++ List.replicate (2 - (lg_sl ([.ref (mA 0), .int (iI f)] : List Value)).length) Slot.unset).toArray = ls at hl ⊢
  have hl : lv_has ls 2 [(0, .ref (mA 0)), (1, .int (iI f))] := hl
  have fl_7 := hts (.fieldLink RX7 7 "ActRowsModel" "kindOf" "[I") (by decide +kernel)
  have iw_7 : ∀ w ∈ wsX70, w ∈ wsX7_name := by decide +kernel
  have hmn := hok.1
  have hln := hok.2.1
  refine lv_aload_n hx hb dX7_name_0 rfl (lv_at hl 0 rfl) ?_
  refine lv_iload_n hx hb dX7_name_1 rfl (lv_at hl 1 rfl) ?_
  refine x_callVi (As := [.int (iI f)]) (rest := []) ⟨hx, hb, hml, hown, hts⟩ (c_X7_noFunction l D cI cS mA mf mn ml mk mg mls ms mra mrf mrk mrg mrl mrs mo moo moa mp mpp mfi mpl mpo mro mdp mdf mhg mhk mR mRf mRo mss msl msh mha mt s.heap.size f (by first | assumption | omega) (by first | assumption | omega)) (cwV 1 hts gX7_name_X7_noFunction rfl rfl rfl (by decide +kernel) ⟨Nat.le_of_ble_eq_true rfl, Nat.le_of_ble_eq_true rfl⟩) hK hP hD hS hA [0, 1, 2, 3, 4, 5, 6, 7, 8, 9, 10, 11, 12, 13, 14, 15, 16, 17, 18, 19, 20, 21] [] (wr := ([] : va_W)) rfl rfl (by decide) (by decide) (by decide) 0 7 rfl rfl rfl [0, 1, 2, 3, 4, 5, 6, 7, 8, 9, 10, 11, 12, 13, 14, 15, 16, 17, 18, 19, 20, 21] (fun (u : Unit) => (W_M cI cS mA mf mn ml mk mg mls ms mra mrf mrk mrg mrl mrs mo moo moa mp mpp mfi mpl mpo mro mdp mdf mhg mhk mR mRf mRo mss msl msh mha mt)) (fun _ => rfl) (by decide) rfl hl.1 rfl (Nat.le_of_ble_eq_true rfl) ⟨Nat.zero_le _, Nat.zero_le _⟩ dX7_name_2 (fun r_ u_ H locs hw hP hD hS => ?_)
  try dsimp only at hw
  subst hw
  have hP : va_P D vwCl (W_M cI cS mA mf mn ml mk mg mls ms mra mrf mrk mrg mrl mrs mo moo moa mp mpp mfi mpl mpo mro mdp mdf mhg mhk mR mRf mRo mss msl msh mha mt) H := hP
  have hD : va_D A (W_M cI cS mA mf mn ml mk mg mls ms mra mrf mrk mrg mrl mrs mo moo moa mp mpp mfi mpl mpo mro mdp mdf mhg mhk mR mRf mRo mss msl msh mha mt) := hD
  refine n_if_b1 (tgt := 10) hx hb dX7_name_5 (by decide)  (fun c_1 => ?_) (fun c_1 => ?_)
  ·
    have hkf := hkk.1 f (by omega) (by omega)
    refine lv_aload_n hx hb dX7_name_10 rfl (lv_at hl 0 rfl) ?_
    refine lv_aload_n hx hb dX7_name_11 rfl (lv_at hl 0 rfl) ?_
    refine va_get (D := D) (ci := 7) (v := .ref (mA 1)) (C := RX7) (T := TX7) (N := 34) hx hb hts iw_7 hown hK.1 hP 0 rfl rfl 3 (by decide) fl_7 (fun _ h9 => h9) rfl dX7_name_12 ?_
    refine lv_iload_n hx hb dX7_name_15 rfl (lv_at hl 1 rfl) ?_
    refine n_iald (n := 5) hx hb hK.1 hP 1 0 rfl rfl (by omega) (by decide) dX7_name_16 ?_
    refine lv_iconst (v := iI 2) hx hb dX7_name_17 (by decide +kernel) ?_
    refine n_icmp_ne (tgt := 25) hx hb dX7_name_18 (by decide) (by omega) (fun c_2 => ?_) (fun c_2 => ?_)
    ·
      refine lv_iconst (v := iI 4) hx hb dX7_name_25 (by decide +kernel) ?_
      refine x_callVv (As := [.int (iI 4)]) (rest := []) ⟨hx, hb, hml, hown, hts⟩ (c_X7_traced l D cI cS mA mf mn ml mk mg mls ms mra mrf mrk mrg mrl mrs mo moo moa mp mpp mfi mpl mpo mro mdp mdf mhg mhk mR mRf mRo mss msl msh mha mt H.size 4) (cwV 1 hts gX7_name_X7_traced rfl rfl rfl (by decide +kernel) ⟨Nat.le_of_ble_eq_true rfl, Nat.le_of_ble_eq_true rfl⟩) hK hP hD hS hA [0, 1, 2, 3, 4, 5, 6, 7, 8, 9, 10, 11, 12, 13, 14, 15, 16, 17, 18, 19, 20, 21] [] (wr := ([] : va_W)) rfl rfl (by decide) (by decide) (by decide) 0 7 rfl rfl rfl [0, 1, 2, 3, 4, 5, 6, 7, 8, 9, 10, 11, 12, 13, 14, 15, 16, 17, 18, 19, 20, 21] (fun (u : Unit) => (W_M cI cS mA mf mn ml mk mg mls ms mra mrf mrk mrg mrl mrs mo moo moa mp mpp mfi mpl mpo mro mdp mdf mhg mhk mR mRf mRo mss msl msh mha ((31 * mt) + 4))) (fun _ => rfl) (by decide) rfl hl.1 rfl (Nat.le_of_ble_eq_true rfl) ⟨Nat.zero_le _, Nat.zero_le _⟩ dX7_name_26 (fun u_ H locs hw hP hD hS => ?_)
      try dsimp only at hw
      have hP : va_P D vwCl (W_M cI cS mA mf mn ml mk mg mls ms mra mrf mrk mrg mrl mrs mo moo moa mp mpp mfi mpl mpo mro mdp mdf mhg mhk mR mRf mRo mss msl msh mha ((31 * mt) + 4)) H := hP
      have hD : va_D A (W_M cI cS mA mf mn ml mk mg mls ms mra mrf mrk mrg mrl mrs mo moo moa mp mpp mfi mpl mpo mro mdp mdf mhg mhk mR mRf mRo mss msl msh mha ((31 * mt) + 4)) := hD
      refine lv_aload_n hx hb dX7_name_29 rfl (lv_at hl 0 rfl) ?_
      refine va_get (D := D) (ci := 7) (v := .ref (mA 1)) (C := RX7) (T := TX7) (N := 34) hx hb hts iw_7 hown hK.1 hP 0 rfl rfl 3 (by decide) fl_7 (fun _ h9 => h9) rfl dX7_name_30 ?_
      refine lv_iload_n hx hb dX7_name_33 rfl (lv_at hl 1 rfl) ?_
      refine n_iald (n := 5) hx hb hK.1 hP 1 0 rfl rfl (by omega) (by decide) dX7_name_34 ?_
      refine lv_iconst (v := iI 2) hx hb dX7_name_35 (by decide +kernel) ?_
      refine n_icmp_ne (tgt := 44) hx hb dX7_name_36 (by decide) (by omega) (fun c_3 => ?_) (fun c_3 => ?_)
      ·
        refine lv_iload_n hx hb dX7_name_44 rfl (lv_at hl 1 rfl) ?_
        have e_4 : (((31 * mt) + 4) : Int) = (if 0 ≤ f ∧ f < mn then (if mk f = 2 then (31 * mt) + 5 else (31 * mt) + 4) else mt) := (by omega)
        have hP : va_P D vwCl (W_M cI cS mA mf mn ml mk mg mls ms mra mrf mrk mrg mrl mrs mo moo moa mp mpp mfi mpl mpo mro mdp mdf mhg mhk mR mRf mRo mss msl msh mha (if 0 ≤ f ∧ f < mn then (if mk f = 2 then (31 * mt) + 5 else (31 * mt) + 4) else mt)) H := Eq.mp (congrArg (fun z_ => va_P D vwCl (W_M cI cS mA mf mn ml mk mg mls ms mra mrf mrk mrg mrl mrs mo moo moa mp mpp mfi mpl mpo mro mdp mdf mhg mhk mR mRf mRo mss msl msh mha z_) H) e_4) hP
        have hD : va_D A (W_M cI cS mA mf mn ml mk mg mls ms mra mrf mrk mrg mrl mrs mo moo moa mp mpp mfi mpl mpo mro mdp mdf mhg mhk mR mRf mRo mss msl msh mha (if 0 ≤ f ∧ f < mn then (if mk f = 2 then (31 * mt) + 5 else (31 * mt) + 4) else mt)) := Eq.mp (congrArg (fun z_ => va_D A (W_M cI cS mA mf mn ml mk mg mls ms mra mrf mrk mrg mrl mrs mo moo moa mp mpp mfi mpl mpo mro mdp mdf mhg mhk mR mRf mRo mss msl msh mha z_)) e_4) hD
        exact W.iret (v := iI f) hx hb hr (fun t ht hW => ⟨⟨_, (), rfl, congrArg iI (show f = (if 0 ≤ f ∧ f < mn then (if mk f = 2 then 60 else f) else (-1)) from (by omega)), by rw [ht]; exact hP, hD⟩, hS.F ht⟩) hS.2.2 dX7_name_45
      · exact False.elim (by first | contradiction | omega)
    ·
      refine lv_iconst (v := iI 5) hx hb dX7_name_21 (by decide +kernel) ?_
      refine lv_goto (tgt := 26) hx hb dX7_name_22 (by decide) ?_
      refine x_callVv (As := [.int (iI 5)]) (rest := []) ⟨hx, hb, hml, hown, hts⟩ (c_X7_traced l D cI cS mA mf mn ml mk mg mls ms mra mrf mrk mrg mrl mrs mo moo moa mp mpp mfi mpl mpo mro mdp mdf mhg mhk mR mRf mRo mss msl msh mha mt H.size 5) (cwV 1 hts gX7_name_X7_traced rfl rfl rfl (by decide +kernel) ⟨Nat.le_of_ble_eq_true rfl, Nat.le_of_ble_eq_true rfl⟩) hK hP hD hS hA [0, 1, 2, 3, 4, 5, 6, 7, 8, 9, 10, 11, 12, 13, 14, 15, 16, 17, 18, 19, 20, 21] [] (wr := ([] : va_W)) rfl rfl (by decide) (by decide) (by decide) 0 7 rfl rfl rfl [0, 1, 2, 3, 4, 5, 6, 7, 8, 9, 10, 11, 12, 13, 14, 15, 16, 17, 18, 19, 20, 21] (fun (u : Unit) => (W_M cI cS mA mf mn ml mk mg mls ms mra mrf mrk mrg mrl mrs mo moo moa mp mpp mfi mpl mpo mro mdp mdf mhg mhk mR mRf mRo mss msl msh mha ((31 * mt) + 5))) (fun _ => rfl) (by decide) rfl hl.1 rfl (Nat.le_of_ble_eq_true rfl) ⟨Nat.zero_le _, Nat.zero_le _⟩ dX7_name_26 (fun u_ H locs hw hP hD hS => ?_)
      try dsimp only at hw
      have hP : va_P D vwCl (W_M cI cS mA mf mn ml mk mg mls ms mra mrf mrk mrg mrl mrs mo moo moa mp mpp mfi mpl mpo mro mdp mdf mhg mhk mR mRf mRo mss msl msh mha ((31 * mt) + 5)) H := hP
      have hD : va_D A (W_M cI cS mA mf mn ml mk mg mls ms mra mrf mrk mrg mrl mrs mo moo moa mp mpp mfi mpl mpo mro mdp mdf mhg mhk mR mRf mRo mss msl msh mha ((31 * mt) + 5)) := hD
      refine lv_aload_n hx hb dX7_name_29 rfl (lv_at hl 0 rfl) ?_
      refine va_get (D := D) (ci := 7) (v := .ref (mA 1)) (C := RX7) (T := TX7) (N := 34) hx hb hts iw_7 hown hK.1 hP 0 rfl rfl 3 (by decide) fl_7 (fun _ h9 => h9) rfl dX7_name_30 ?_
      refine lv_iload_n hx hb dX7_name_33 rfl (lv_at hl 1 rfl) ?_
      refine n_iald (n := 5) hx hb hK.1 hP 1 0 rfl rfl (by omega) (by decide) dX7_name_34 ?_
      refine lv_iconst (v := iI 2) hx hb dX7_name_35 (by decide +kernel) ?_
      refine n_icmp_ne (tgt := 44) hx hb dX7_name_36 (by decide) (by omega) (fun c_5 => ?_) (fun c_5 => ?_)
      · exact False.elim (by first | contradiction | omega)
      ·
        refine lv_bipush (v := iI 60) hx hb dX7_name_39 (by decide +kernel) ?_
        refine lv_goto (tgt := 45) hx hb dX7_name_41 (by decide) ?_
        have e_6 : (((31 * mt) + 5) : Int) = (if 0 ≤ f ∧ f < mn then (if mk f = 2 then (31 * mt) + 5 else (31 * mt) + 4) else mt) := (by omega)
        have hP : va_P D vwCl (W_M cI cS mA mf mn ml mk mg mls ms mra mrf mrk mrg mrl mrs mo moo moa mp mpp mfi mpl mpo mro mdp mdf mhg mhk mR mRf mRo mss msl msh mha (if 0 ≤ f ∧ f < mn then (if mk f = 2 then (31 * mt) + 5 else (31 * mt) + 4) else mt)) H := Eq.mp (congrArg (fun z_ => va_P D vwCl (W_M cI cS mA mf mn ml mk mg mls ms mra mrf mrk mrg mrl mrs mo moo moa mp mpp mfi mpl mpo mro mdp mdf mhg mhk mR mRf mRo mss msl msh mha z_) H) e_6) hP
        have hD : va_D A (W_M cI cS mA mf mn ml mk mg mls ms mra mrf mrk mrg mrl mrs mo moo moa mp mpp mfi mpl mpo mro mdp mdf mhg mhk mR mRf mRo mss msl msh mha (if 0 ≤ f ∧ f < mn then (if mk f = 2 then (31 * mt) + 5 else (31 * mt) + 4) else mt)) := Eq.mp (congrArg (fun z_ => va_D A (W_M cI cS mA mf mn ml mk mg mls ms mra mrf mrk mrg mrl mrs mo moo moa mp mpp mfi mpl mpo mro mdp mdf mhg mhk mR mRf mRo mss msl msh mha z_)) e_6) hD
        exact W.iret (v := iI 60) hx hb hr (fun t ht hW => ⟨⟨_, (), rfl, congrArg iI (show 60 = (if 0 ≤ f ∧ f < mn then (if mk f = 2 then 60 else f) else (-1)) from (by omega)), by rw [ht]; exact hP, hD⟩, hS.F ht⟩) hS.2.2 dX7_name_45
  ·
    refine lv_iconst (v := iI (-1)) hx hb dX7_name_8 (by decide +kernel) ?_
    have e_7 : (mt : Int) = (if 0 ≤ f ∧ f < mn then (if mk f = 2 then (31 * mt) + 5 else (31 * mt) + 4) else mt) := (by omega)
    have hP : va_P D vwCl (W_M cI cS mA mf mn ml mk mg mls ms mra mrf mrk mrg mrl mrs mo moo moa mp mpp mfi mpl mpo mro mdp mdf mhg mhk mR mRf mRo mss msl msh mha (if 0 ≤ f ∧ f < mn then (if mk f = 2 then (31 * mt) + 5 else (31 * mt) + 4) else mt)) H := Eq.mp (congrArg (fun z_ => va_P D vwCl (W_M cI cS mA mf mn ml mk mg mls ms mra mrf mrk mrg mrl mrs mo moo moa mp mpp mfi mpl mpo mro mdp mdf mhg mhk mR mRf mRo mss msl msh mha z_) H) e_7) hP
    have hD : va_D A (W_M cI cS mA mf mn ml mk mg mls ms mra mrf mrk mrg mrl mrs mo moo moa mp mpp mfi mpl mpo mro mdp mdf mhg mhk mR mRf mRo mss msl msh mha (if 0 ≤ f ∧ f < mn then (if mk f = 2 then (31 * mt) + 5 else (31 * mt) + 4) else mt)) := Eq.mp (congrArg (fun z_ => va_D A (W_M cI cS mA mf mn ml mk mg mls ms mra mrf mrk mrg mrl mrs mo moo moa mp mpp mfi mpl mpo mro mdp mdf mhg mhk mR mRf mRo mss msl msh mha z_)) e_7) hD
    exact W.iret (v := iI (-1)) hx hb hr (fun t ht hW => ⟨⟨_, (), rfl, congrArg iI (show (-1) = (if 0 ≤ f ∧ f < mn then (if mk f = 2 then 60 else f) else (-1)) from (by omega)), by rw [ht]; exact hP, hD⟩, hS.F ht⟩) hS.2.2 dX7_name_9
set_option maxHeartbeats 4000000 in
set_option maxRecDepth 100000 in
theorem c_X7_as (l : Launch) (D : va_G) (cI cS : ClassId) (mA : Nat → Nat) (mf : Int) (mn : Int) (ml : Int) (mk : Int → Int) (mg : Int → Int) (mls : Int → Int) (ms : Int → Int) (mra : Int) (mrf : Int) (mrk : Int → Int) (mrg : Int → Int) (mrl : Int → Int) (mrs : Int → Int) (mo : Int) (moo : Int → Int) (moa : Int → Int) (mp : Int) (mpp : Int → Int) (mfi : Int) (mpl : Int) (mpo : Int → Int) (mro : Int → Int) (mdp : Int) (mdf : Int) (mhg : Int → Int) (mhk : Int → Int) (mR : Int) (mRf : Int → Int) (mRo : Int → Int) (mss : Int → Int) (msl : Int → Int) (msh : Int → Int) (mha : Int → Int) (mt : Int) (sz : Nat) (f : Int) (y : Int) (hok : okP mn mls ms) (hkk : okK mn mk mg ml) (hfr : -2147483648 ≤ f ∧ f < 2147483648) (hyr : -2147483648 ≤ y ∧ y < 2147483648) : Met l yX7_as wsX7_as ({ frames := 2, cells := 0, slots := 0, locals := 46 }) (cP D cI cS (W_M cI cS mA mf mn ml mk mg mls ms mra mrf mrk mrg mrl mrs mo moo moa mp mpp mfi mpl mpo mro mdp mdf mhg mhk mR mRf mRo mss msl msh mha mt) sz [.ref (mA 0), .int (iI f), .int (iI y)]) (va_Qi (fun (r : Int32) (u : Unit) => r = iI (if 0 ≤ f ∧ f < mn then (if 0 ≤ y ∧ y < 3 then (if y ≤ mk f then 1 else (-12)) else (-2)) else (-1))) (fun (u : Unit) t => cB D (va_A (W_M cI cS mA mf mn ml mk mg mls ms mra mrf mrk mrg mrl mrs mo moo moa mp mpp mfi mpl mpo mro mdp mdf mhg mhk mR mRf mRo mss msl msh mha mt) sz) (W_M cI cS mA (if (0 ≤ f ∧ f < mn) ∧ (0 ≤ y ∧ y < 3) ∧ ¬ y ≤ mk f then 2 else 0) mn ml mk mg mls ms mra mrf mrk mrg mrl mrs mo moo moa mp mpp mfi mpl mpo mro mdp mdf mhg mhk mR mRf mRo mss msl msh mha mt) t) (va_A (W_M cI cS mA mf mn ml mk mg mls ms mra mrf mrk mrg mrl mrs mo moo moa mp mpp mfi mpl mpo mro mdp mdf mhg mhk mR mRf mRo mss msl msh mha mt) sz)) 0 0 (va_A (W_M cI cS mA mf mn ml mk mg mls ms mra mrf mrk mrg mrl mrs mo moo moa mp mpp mfi mpl mpo mro mdp mdf mhg mhk mR mRf mRo mss msl msh mha mt) sz) := by
  refine Met.ofW (cc := cX7_as) (maxL := 3) (ret := (some .int)) (by decide) rfl ?_
  intro p e s m args below meth c_ s₁ B hml hv
  obtain ⟨rfl, hsz, hP, hK, hD0⟩ := hv
  have hx := B.exec
  have hb := B.bytes
  have hr := B.returns
  have hts := atoms_spec (ws := wsX7_as) B.pre
  have hown : s.vm.findClass RX7 = some m.cls := findClass_of_methodNamed B.named
  have hlocks := B.notSynchronized
  subst hsz
  have hD := hD0.self (sz := s.heap.size)
  generalize hAe : va_A (W_M cI cS mA mf mn ml mk mg mls ms mra mrf mrk mrg mrl mrs mo moo moa mp mpp mfi mpl mpo mro mdp mdf mhg mhk mR mRf mRo mss msl msh mha mt) s.heap.size = A at hD ⊢
  have hA : ∀ q : Nat, s.heap.size ≤ q → A q := fun q h => by rw [← hAe]; exact Or.inr h
  have hS : va_S A s.heap s.heap [] := va_S.rf
  have hP : va_P D vwCl (W_M cI cS mA mf mn ml mk mg mls ms mra mrf mrk mrg mrl mrs mo moo moa mp mpp mfi mpl mpo mro mdp mdf mhg mhk mR mRf mRo mss msl msh mha mt) s.heap := hP
  have hl := lv_entry ([.ref (mA 0), .int (iI f), .int (iI y)] : List Value) (n := 3) (Nat.le_of_ble_eq_true rfl)
  rw [lg_entry_eq]
  generalize (lg_sl ([.ref (mA 0), .int (iI f), .int (iI y)] : List Value) ++ List.replicate (3 - (lg_sl ([.ref (mA 0), .int (iI f), .int (iI y)] : List Value)).length) Slot.unset).toArray = ls at hl ⊢
  have hl : lv_has ls 3 [(0, .ref (mA 0)), (1, .int (iI f)), (2, .int (iI y))] := hl
  have ck_133 := hts (.constantLong RX7 133 (lI 2)) (by decide +kernel)
  have fl_7 := hts (.fieldLink RX7 7 "ActRowsModel" "kindOf" "[I") (by decide +kernel)
  have iw_7 : ∀ w ∈ wsX70, w ∈ wsX7_as := by decide +kernel
  have hmn := hok.1
  have hln := hok.2.1
  refine lv_aload_n hx hb dX7_as_0 rfl (lv_at hl 0 rfl) ?_
  refine lv_iload_n hx hb dX7_as_1 rfl (lv_at hl 1 rfl) ?_
  refine x_callVi (As := [.int (iI f)]) (rest := []) ⟨hx, hb, hml, hown, hts⟩ (c_X7_noFunction l D cI cS mA mf mn ml mk mg mls ms mra mrf mrk mrg mrl mrs mo moo moa mp mpp mfi mpl mpo mro mdp mdf mhg mhk mR mRf mRo mss msl msh mha mt s.heap.size f (by first | assumption | omega) (by first | assumption | omega)) (cwV 1 hts gX7_as_X7_noFunction rfl rfl rfl (by decide +kernel) ⟨Nat.le_of_ble_eq_true rfl, Nat.le_of_ble_eq_true rfl⟩) hK hP hD hS hA [0, 1, 2, 3, 4, 5, 6, 7, 8, 9, 10, 11, 12, 13, 14, 15, 16, 17, 18, 19, 20, 21] [] (wr := ([] : va_W)) rfl rfl (by decide) (by decide) (by decide) 0 7 rfl rfl rfl [0, 1, 2, 3, 4, 5, 6, 7, 8, 9, 10, 11, 12, 13, 14, 15, 16, 17, 18, 19, 20, 21] (fun (u : Unit) => (W_M cI cS mA mf mn ml mk mg mls ms mra mrf mrk mrg mrl mrs mo moo moa mp mpp mfi mpl mpo mro mdp mdf mhg mhk mR mRf mRo mss msl msh mha mt)) (fun _ => rfl) (by decide) rfl hl.1 rfl (Nat.le_of_ble_eq_true rfl) ⟨Nat.zero_le _, Nat.zero_le _⟩ dX7_as_2 (fun r_ u_ H locs hw hP hD hS => ?_)
  try dsimp only at hw
  subst hw
  have hP : va_P D vwCl (W_M cI cS mA mf mn ml mk mg mls ms mra mrf mrk mrg mrl mrs mo moo moa mp mpp mfi mpl mpo mro mdp mdf mhg mhk mR mRf mRo mss msl msh mha mt) H := hP
  have hD : va_D A (W_M cI cS mA mf mn ml mk mg mls ms mra mrf mrk mrg mrl mrs mo moo moa mp mpp mfi mpl mpo mro mdp mdf mhg mhk mR mRf mRo mss msl msh mha mt) := hD
  refine n_if_b1 (tgt := 14) hx hb dX7_as_5 (by decide)  (fun c_1 => ?_) (fun c_1 => ?_)
  ·
    have hkf := hkk.1 f (by omega) (by omega)
    refine lv_iload_n hx hb dX7_as_14 rfl (lv_at hl 2 rfl) ?_
    refine n_i2l hx hb (by omega) dX7_as_15 ?_
    refine lv_lconst (v := lI 0) hx hb dX7_as_16 (by decide +kernel) ?_
    refine lv_ldc2 hx hb hown ck_133 dX7_as_17 ?_
    refine x_callSi (As := [.long (lI y), .long (lI 0), .long (lI 2)]) (rest := []) ⟨hx, hb, hml, hown, hts⟩ (c_X7_in l D cI cS H.size y 0 2 (by first | assumption | omega) (by first | assumption | omega) (by first | assumption | omega)) (va_cwS 3 hts gX7_as_X7_in rfl rfl rfl (by decide +kernel) ⟨Nat.le_of_ble_eq_true rfl, Nat.le_of_ble_eq_true rfl⟩) hK hP hD hS hA [] [0, 1, 2, 3, 4, 5, 6, 7, 8, 9, 10, 11, 12, 13, 14, 15, 16, 17, 18, 19, 20, 21] (wr := [(mA 0, .inr (7, [.int (iI mf), .int (iI mn), .int (iI ml), .ref (mA 1), .ref (mA 2), .ref (mA 3), .ref (mA 4), .int (iI mra), .int (iI mrf), .ref (mA 5), .ref (mA 6), .ref (mA 7), .ref (mA 8), .int (iI mo), .ref (mA 9), .ref (mA 10), .int (iI mp), .ref (mA 11), .int (iI mfi), .int (iI mpl), .ref (mA 12), .ref (mA 13), .int (iI mdp), .int (iI mdf), .ref (mA 14), .ref (mA 15), .int (iI mR), .ref (mA 16), .ref (mA 17), .ref (mA 18), .ref (mA 19), .ref (mA 20), .ref (mA 21), .int (iI mt)])), (mA 1, .inl (cI, 5, .inl (aI mk))), (mA 2, .inl (cI, 5, .inl (aI mg))), (mA 3, .inl (cI, 5, .inl (aI mls))), (mA 4, .inl (cI, 20, .inl (aI ms))), (mA 5, .inl (cI, 5, .inl (aI mrk))), (mA 6, .inl (cI, 5, .inl (aI mrg))), (mA 7, .inl (cI, 5, .inl (aI mrl))), (mA 8, .inl (cI, 20, .inl (aI mrs))), (mA 9, .inl (cI, 5, .inl (aI moo))), (mA 10, .inl (cI, 5, .inl (aI moa))), (mA 11, .inl (cI, 1024, .inl (aI mpp))), (mA 12, .inl (cI, 5, .inl (aI mpo))), (mA 13, .inl (cI, 5, .inl (aI mro))), (mA 14, .inl (cI, 5, .inl (aI mhg))), (mA 15, .inl (cI, 5, .inl (aI mhk))), (mA 16, .inl (cI, 8, .inl (aI mRf))), (mA 17, .inl (cI, 8, .inl (aI mRo))), (mA 18, .inl (cI, 4, .inl (aI mss))), (mA 19, .inl (cI, 4, .inl (aI msl))), (mA 20, .inl (cI, 240, .inl (aI msh))), (mA 21, .inl (cI, 60, .inl (aI mha)))]) rfl rfl (by decide) (by decide) (by decide) [0, 1, 2, 3, 4, 5, 6, 7, 8, 9, 10, 11, 12, 13, 14, 15, 16, 17, 18, 19, 20, 21] (fun (u : Unit) => (W_M cI cS mA mf mn ml mk mg mls ms mra mrf mrk mrg mrl mrs mo moo moa mp mpp mfi mpl mpo mro mdp mdf mhg mhk mR mRf mRo mss msl msh mha mt)) (fun _ => rfl) (by decide) rfl hl.1 rfl (Nat.le_of_ble_eq_true rfl) ⟨Nat.zero_le _, Nat.zero_le _⟩ dX7_as_20 (fun r_ u_ H locs hw hP hD hS => ?_)
    try dsimp only at hw
    subst hw
    have hP : va_P D vwCl (W_M cI cS mA mf mn ml mk mg mls ms mra mrf mrk mrg mrl mrs mo moo moa mp mpp mfi mpl mpo mro mdp mdf mhg mhk mR mRf mRo mss msl msh mha mt) H := hP
    have hD : va_D A (W_M cI cS mA mf mn ml mk mg mls ms mra mrf mrk mrg mrl mrs mo moo moa mp mpp mfi mpl mpo mro mdp mdf mhg mhk mR mRf mRo mss msl msh mha mt) := hD
    refine n_if_b2 (tgt := 33) hx hb dX7_as_23 (by decide)  (fun c_2 => ?_) (fun c_2 => ?_)
    ·
      refine lv_aload_n hx hb dX7_as_33 rfl (lv_at hl 0 rfl) ?_
      refine va_get (D := D) (ci := 7) (v := .ref (mA 1)) (C := RX7) (T := TX7) (N := 34) hx hb hts iw_7 hown hK.1 hP 0 rfl rfl 3 (by decide) fl_7 (fun _ h9 => h9) rfl dX7_as_34 ?_
      refine lv_iload_n hx hb dX7_as_37 rfl (lv_at hl 1 rfl) ?_
      refine n_iald (n := 5) hx hb hK.1 hP 1 0 rfl rfl (by omega) (by decide) dX7_as_38 ?_
      refine lv_iload_n hx hb dX7_as_39 rfl (lv_at hl 2 rfl) ?_
      refine n_icmp_lt (tgt := 51) hx hb dX7_as_40 (by decide) (by omega) (fun c_3 => ?_) (fun c_3 => ?_)
      ·
        refine lv_aload_n hx hb dX7_as_51 rfl (lv_at hl 0 rfl) ?_
        refine lv_iconst (v := iI 2) hx hb dX7_as_52 (by decide +kernel) ?_
        refine x_callVi (As := [.int (iI 2)]) (rest := []) ⟨hx, hb, hml, hown, hts⟩ (c_X7_failed l D cI cS mA mf mn ml mk mg mls ms mra mrf mrk mrg mrl mrs mo moo moa mp mpp mfi mpl mpo mro mdp mdf mhg mhk mR mRf mRo mss msl msh mha mt H.size 2) (cwV 1 hts gX7_as_X7_failed rfl rfl rfl (by decide +kernel) ⟨Nat.le_of_ble_eq_true rfl, Nat.le_of_ble_eq_true rfl⟩) hK hP hD hS hA [0, 1, 2, 3, 4, 5, 6, 7, 8, 9, 10, 11, 12, 13, 14, 15, 16, 17, 18, 19, 20, 21] [] (wr := ([] : va_W)) rfl rfl (by decide) (by decide) (by decide) 0 7 rfl rfl rfl [0, 1, 2, 3, 4, 5, 6, 7, 8, 9, 10, 11, 12, 13, 14, 15, 16, 17, 18, 19, 20, 21] (fun (u : Unit) => (W_M cI cS mA 2 mn ml mk mg mls ms mra mrf mrk mrg mrl mrs mo moo moa mp mpp mfi mpl mpo mro mdp mdf mhg mhk mR mRf mRo mss msl msh mha mt)) (fun _ => rfl) (by decide) rfl hl.1 rfl (Nat.le_of_ble_eq_true rfl) ⟨Nat.zero_le _, Nat.zero_le _⟩ dX7_as_53 (fun r_ u_ H locs hw hP hD hS => ?_)
        try dsimp only at hw
        subst hw
        have hP : va_P D vwCl (W_M cI cS mA 2 mn ml mk mg mls ms mra mrf mrk mrg mrl mrs mo moo moa mp mpp mfi mpl mpo mro mdp mdf mhg mhk mR mRf mRo mss msl msh mha mt) H := hP
        have hD : va_D A (W_M cI cS mA 2 mn ml mk mg mls ms mra mrf mrk mrg mrl mrs mo moo moa mp mpp mfi mpl mpo mro mdp mdf mhg mhk mR mRf mRo mss msl msh mha mt) := hD
        have e_4 : (2 : Int) = (if (0 ≤ f ∧ f < mn) ∧ (0 ≤ y ∧ y < 3) ∧ ¬ y ≤ mk f then 2 else 0) := (by omega)
        have hP : va_P D vwCl (W_M cI cS mA (if (0 ≤ f ∧ f < mn) ∧ (0 ≤ y ∧ y < 3) ∧ ¬ y ≤ mk f then 2 else 0) mn ml mk mg mls ms mra mrf mrk mrg mrl mrs mo moo moa mp mpp mfi mpl mpo mro mdp mdf mhg mhk mR mRf mRo mss msl msh mha mt) H := Eq.mp (congrArg (fun z_ => va_P D vwCl (W_M cI cS mA z_ mn ml mk mg mls ms mra mrf mrk mrg mrl mrs mo moo moa mp mpp mfi mpl mpo mro mdp mdf mhg mhk mR mRf mRo mss msl msh mha mt) H) e_4) hP
        have hD : va_D A (W_M cI cS mA (if (0 ≤ f ∧ f < mn) ∧ (0 ≤ y ∧ y < 3) ∧ ¬ y ≤ mk f then 2 else 0) mn ml mk mg mls ms mra mrf mrk mrg mrl mrs mo moo moa mp mpp mfi mpl mpo mro mdp mdf mhg mhk mR mRf mRo mss msl msh mha mt) := Eq.mp (congrArg (fun z_ => va_D A (W_M cI cS mA z_ mn ml mk mg mls ms mra mrf mrk mrg mrl mrs mo moo moa mp mpp mfi mpl mpo mro mdp mdf mhg mhk mR mRf mRo mss msl msh mha mt)) e_4) hD
        exact W.iret (v := iI ((-10) - 2)) hx hb hr (fun t ht hW => ⟨⟨_, (), rfl, congrArg iI (show ((-10) - 2) = (if 0 ≤ f ∧ f < mn then (if 0 ≤ y ∧ y < 3 then (if y ≤ mk f then 1 else (-12)) else (-2)) else (-1)) from (by omega)), by rw [ht]; exact hP, hD⟩, hS.F ht⟩) hS.2.2 dX7_as_56
      ·
        refine lv_aload_n hx hb dX7_as_43 rfl (lv_at hl 0 rfl) ?_
        refine lv_iconst (v := iI 1) hx hb dX7_as_44 (by decide +kernel) ?_
        refine x_callVi (As := [.int (iI 1)]) (rest := []) ⟨hx, hb, hml, hown, hts⟩ (c_X7_refused l D cI cS mA mf mn ml mk mg mls ms mra mrf mrk mrg mrl mrs mo moo moa mp mpp mfi mpl mpo mro mdp mdf mhg mhk mR mRf mRo mss msl msh mha mt H.size 1) (cwV 1 hts gX7_as_X7_refused rfl rfl rfl (by decide +kernel) ⟨Nat.le_of_ble_eq_true rfl, Nat.le_of_ble_eq_true rfl⟩) hK hP hD hS hA [0, 1, 2, 3, 4, 5, 6, 7, 8, 9, 10, 11, 12, 13, 14, 15, 16, 17, 18, 19, 20, 21] [] (wr := ([] : va_W)) rfl rfl (by decide) (by decide) (by decide) 0 7 rfl rfl rfl [0, 1, 2, 3, 4, 5, 6, 7, 8, 9, 10, 11, 12, 13, 14, 15, 16, 17, 18, 19, 20, 21] (fun (u : Unit) => (W_M cI cS mA 0 mn ml mk mg mls ms mra mrf mrk mrg mrl mrs mo moo moa mp mpp mfi mpl mpo mro mdp mdf mhg mhk mR mRf mRo mss msl msh mha mt)) (fun _ => rfl) (by decide) rfl hl.1 rfl (Nat.le_of_ble_eq_true rfl) ⟨Nat.zero_le _, Nat.zero_le _⟩ dX7_as_45 (fun r_ u_ H locs hw hP hD hS => ?_)
        try dsimp only at hw
        subst hw
        have hP : va_P D vwCl (W_M cI cS mA 0 mn ml mk mg mls ms mra mrf mrk mrg mrl mrs mo moo moa mp mpp mfi mpl mpo mro mdp mdf mhg mhk mR mRf mRo mss msl msh mha mt) H := hP
        have hD : va_D A (W_M cI cS mA 0 mn ml mk mg mls ms mra mrf mrk mrg mrl mrs mo moo moa mp mpp mfi mpl mpo mro mdp mdf mhg mhk mR mRf mRo mss msl msh mha mt) := hD
        refine lv_goto (tgt := 56) hx hb dX7_as_48 (by decide) ?_
        have e_5 : (0 : Int) = (if (0 ≤ f ∧ f < mn) ∧ (0 ≤ y ∧ y < 3) ∧ ¬ y ≤ mk f then 2 else 0) := (by omega)
        have hP : va_P D vwCl (W_M cI cS mA (if (0 ≤ f ∧ f < mn) ∧ (0 ≤ y ∧ y < 3) ∧ ¬ y ≤ mk f then 2 else 0) mn ml mk mg mls ms mra mrf mrk mrg mrl mrs mo moo moa mp mpp mfi mpl mpo mro mdp mdf mhg mhk mR mRf mRo mss msl msh mha mt) H := Eq.mp (congrArg (fun z_ => va_P D vwCl (W_M cI cS mA z_ mn ml mk mg mls ms mra mrf mrk mrg mrl mrs mo moo moa mp mpp mfi mpl mpo mro mdp mdf mhg mhk mR mRf mRo mss msl msh mha mt) H) e_5) hP
        have hD : va_D A (W_M cI cS mA (if (0 ≤ f ∧ f < mn) ∧ (0 ≤ y ∧ y < 3) ∧ ¬ y ≤ mk f then 2 else 0) mn ml mk mg mls ms mra mrf mrk mrg mrl mrs mo moo moa mp mpp mfi mpl mpo mro mdp mdf mhg mhk mR mRf mRo mss msl msh mha mt) := Eq.mp (congrArg (fun z_ => va_D A (W_M cI cS mA z_ mn ml mk mg mls ms mra mrf mrk mrg mrl mrs mo moo moa mp mpp mfi mpl mpo mro mdp mdf mhg mhk mR mRf mRo mss msl msh mha mt)) e_5) hD
        exact W.iret (v := iI 1) hx hb hr (fun t ht hW => ⟨⟨_, (), rfl, congrArg iI (show 1 = (if 0 ≤ f ∧ f < mn then (if 0 ≤ y ∧ y < 3 then (if y ≤ mk f then 1 else (-12)) else (-2)) else (-1)) from (by omega)), by rw [ht]; exact hP, hD⟩, hS.F ht⟩) hS.2.2 dX7_as_56
    ·
      refine lv_aload_n hx hb dX7_as_26 rfl (lv_at hl 0 rfl) ?_
      refine lv_bipush (v := iI (-2)) hx hb dX7_as_27 (by decide +kernel) ?_
      refine x_callVi (As := [.int (iI (-2))]) (rest := []) ⟨hx, hb, hml, hown, hts⟩ (c_X7_refused l D cI cS mA mf mn ml mk mg mls ms mra mrf mrk mrg mrl mrs mo moo moa mp mpp mfi mpl mpo mro mdp mdf mhg mhk mR mRf mRo mss msl msh mha mt H.size (-2)) (cwV 1 hts gX7_as_X7_refused rfl rfl rfl (by decide +kernel) ⟨Nat.le_of_ble_eq_true rfl, Nat.le_of_ble_eq_true rfl⟩) hK hP hD hS hA [0, 1, 2, 3, 4, 5, 6, 7, 8, 9, 10, 11, 12, 13, 14, 15, 16, 17, 18, 19, 20, 21] [] (wr := ([] : va_W)) rfl rfl (by decide) (by decide) (by decide) 0 7 rfl rfl rfl [0, 1, 2, 3, 4, 5, 6, 7, 8, 9, 10, 11, 12, 13, 14, 15, 16, 17, 18, 19, 20, 21] (fun (u : Unit) => (W_M cI cS mA 0 mn ml mk mg mls ms mra mrf mrk mrg mrl mrs mo moo moa mp mpp mfi mpl mpo mro mdp mdf mhg mhk mR mRf mRo mss msl msh mha mt)) (fun _ => rfl) (by decide) rfl hl.1 rfl (Nat.le_of_ble_eq_true rfl) ⟨Nat.zero_le _, Nat.zero_le _⟩ dX7_as_29 (fun r_ u_ H locs hw hP hD hS => ?_)
      try dsimp only at hw
      subst hw
      have hP : va_P D vwCl (W_M cI cS mA 0 mn ml mk mg mls ms mra mrf mrk mrg mrl mrs mo moo moa mp mpp mfi mpl mpo mro mdp mdf mhg mhk mR mRf mRo mss msl msh mha mt) H := hP
      have hD : va_D A (W_M cI cS mA 0 mn ml mk mg mls ms mra mrf mrk mrg mrl mrs mo moo moa mp mpp mfi mpl mpo mro mdp mdf mhg mhk mR mRf mRo mss msl msh mha mt) := hD
      have e_6 : (0 : Int) = (if (0 ≤ f ∧ f < mn) ∧ (0 ≤ y ∧ y < 3) ∧ ¬ y ≤ mk f then 2 else 0) := (by omega)
      have hP : va_P D vwCl (W_M cI cS mA (if (0 ≤ f ∧ f < mn) ∧ (0 ≤ y ∧ y < 3) ∧ ¬ y ≤ mk f then 2 else 0) mn ml mk mg mls ms mra mrf mrk mrg mrl mrs mo moo moa mp mpp mfi mpl mpo mro mdp mdf mhg mhk mR mRf mRo mss msl msh mha mt) H := Eq.mp (congrArg (fun z_ => va_P D vwCl (W_M cI cS mA z_ mn ml mk mg mls ms mra mrf mrk mrg mrl mrs mo moo moa mp mpp mfi mpl mpo mro mdp mdf mhg mhk mR mRf mRo mss msl msh mha mt) H) e_6) hP
      have hD : va_D A (W_M cI cS mA (if (0 ≤ f ∧ f < mn) ∧ (0 ≤ y ∧ y < 3) ∧ ¬ y ≤ mk f then 2 else 0) mn ml mk mg mls ms mra mrf mrk mrg mrl mrs mo moo moa mp mpp mfi mpl mpo mro mdp mdf mhg mhk mR mRf mRo mss msl msh mha mt) := Eq.mp (congrArg (fun z_ => va_D A (W_M cI cS mA z_ mn ml mk mg mls ms mra mrf mrk mrg mrl mrs mo moo moa mp mpp mfi mpl mpo mro mdp mdf mhg mhk mR mRf mRo mss msl msh mha mt)) e_6) hD
      exact W.iret (v := iI (-2)) hx hb hr (fun t ht hW => ⟨⟨_, (), rfl, congrArg iI (show (-2) = (if 0 ≤ f ∧ f < mn then (if 0 ≤ y ∧ y < 3 then (if y ≤ mk f then 1 else (-12)) else (-2)) else (-1)) from (by omega)), by rw [ht]; exact hP, hD⟩, hS.F ht⟩) hS.2.2 dX7_as_32
  ·
    refine lv_aload_n hx hb dX7_as_8 rfl (lv_at hl 0 rfl) ?_
    refine lv_iconst (v := iI (-1)) hx hb dX7_as_9 (by decide +kernel) ?_
    refine x_callVi (As := [.int (iI (-1))]) (rest := []) ⟨hx, hb, hml, hown, hts⟩ (c_X7_refused l D cI cS mA mf mn ml mk mg mls ms mra mrf mrk mrg mrl mrs mo moo moa mp mpp mfi mpl mpo mro mdp mdf mhg mhk mR mRf mRo mss msl msh mha mt H.size (-1)) (cwV 1 hts gX7_as_X7_refused rfl rfl rfl (by decide +kernel) ⟨Nat.le_of_ble_eq_true rfl, Nat.le_of_ble_eq_true rfl⟩) hK hP hD hS hA [0, 1, 2, 3, 4, 5, 6, 7, 8, 9, 10, 11, 12, 13, 14, 15, 16, 17, 18, 19, 20, 21] [] (wr := ([] : va_W)) rfl rfl (by decide) (by decide) (by decide) 0 7 rfl rfl rfl [0, 1, 2, 3, 4, 5, 6, 7, 8, 9, 10, 11, 12, 13, 14, 15, 16, 17, 18, 19, 20, 21] (fun (u : Unit) => (W_M cI cS mA 0 mn ml mk mg mls ms mra mrf mrk mrg mrl mrs mo moo moa mp mpp mfi mpl mpo mro mdp mdf mhg mhk mR mRf mRo mss msl msh mha mt)) (fun _ => rfl) (by decide) rfl hl.1 rfl (Nat.le_of_ble_eq_true rfl) ⟨Nat.zero_le _, Nat.zero_le _⟩ dX7_as_10 (fun r_ u_ H locs hw hP hD hS => ?_)
    try dsimp only at hw
    subst hw
    have hP : va_P D vwCl (W_M cI cS mA 0 mn ml mk mg mls ms mra mrf mrk mrg mrl mrs mo moo moa mp mpp mfi mpl mpo mro mdp mdf mhg mhk mR mRf mRo mss msl msh mha mt) H := hP
    have hD : va_D A (W_M cI cS mA 0 mn ml mk mg mls ms mra mrf mrk mrg mrl mrs mo moo moa mp mpp mfi mpl mpo mro mdp mdf mhg mhk mR mRf mRo mss msl msh mha mt) := hD
    have e_7 : (0 : Int) = (if (0 ≤ f ∧ f < mn) ∧ (0 ≤ y ∧ y < 3) ∧ ¬ y ≤ mk f then 2 else 0) := (by omega)
    have hP : va_P D vwCl (W_M cI cS mA (if (0 ≤ f ∧ f < mn) ∧ (0 ≤ y ∧ y < 3) ∧ ¬ y ≤ mk f then 2 else 0) mn ml mk mg mls ms mra mrf mrk mrg mrl mrs mo moo moa mp mpp mfi mpl mpo mro mdp mdf mhg mhk mR mRf mRo mss msl msh mha mt) H := Eq.mp (congrArg (fun z_ => va_P D vwCl (W_M cI cS mA z_ mn ml mk mg mls ms mra mrf mrk mrg mrl mrs mo moo moa mp mpp mfi mpl mpo mro mdp mdf mhg mhk mR mRf mRo mss msl msh mha mt) H) e_7) hP
    have hD : va_D A (W_M cI cS mA (if (0 ≤ f ∧ f < mn) ∧ (0 ≤ y ∧ y < 3) ∧ ¬ y ≤ mk f then 2 else 0) mn ml mk mg mls ms mra mrf mrk mrg mrl mrs mo moo moa mp mpp mfi mpl mpo mro mdp mdf mhg mhk mR mRf mRo mss msl msh mha mt) := Eq.mp (congrArg (fun z_ => va_D A (W_M cI cS mA z_ mn ml mk mg mls ms mra mrf mrk mrg mrl mrs mo moo moa mp mpp mfi mpl mpo mro mdp mdf mhg mhk mR mRf mRo mss msl msh mha mt)) e_7) hD
    exact W.iret (v := iI (-1)) hx hb hr (fun t ht hW => ⟨⟨_, (), rfl, congrArg iI (show (-1) = (if 0 ≤ f ∧ f < mn then (if 0 ≤ y ∧ y < 3 then (if y ≤ mk f then 1 else (-12)) else (-2)) else (-1)) from (by omega)), by rw [ht]; exact hP, hD⟩, hS.F ht⟩) hS.2.2 dX7_as_13
set_option maxHeartbeats 4000000 in
set_option maxRecDepth 100000 in
theorem c_X7_trace (l : Launch) (D : va_G) (cI cS : ClassId) (mA : Nat → Nat) (mf : Int) (mn : Int) (ml : Int) (mk : Int → Int) (mg : Int → Int) (mls : Int → Int) (ms : Int → Int) (mra : Int) (mrf : Int) (mrk : Int → Int) (mrg : Int → Int) (mrl : Int → Int) (mrs : Int → Int) (mo : Int) (moo : Int → Int) (moa : Int → Int) (mp : Int) (mpp : Int → Int) (mfi : Int) (mpl : Int) (mpo : Int → Int) (mro : Int → Int) (mdp : Int) (mdf : Int) (mhg : Int → Int) (mhk : Int → Int) (mR : Int) (mRf : Int → Int) (mRo : Int → Int) (mss : Int → Int) (msl : Int → Int) (msh : Int → Int) (mha : Int → Int) (mt : Int) (sz : Nat)  : Met l yX7_trace wsX7_trace ({ frames := 0, cells := 0, slots := 0, locals := 0 }) (cP D cI cS (W_M cI cS mA mf mn ml mk mg mls ms mra mrf mrk mrg mrl mrs mo moo moa mp mpp mfi mpl mpo mro mdp mdf mhg mhk mR mRf mRo mss msl msh mha mt) sz [.ref (mA 0)]) (va_Qi (fun (r : Int32) (u : Unit) => r = iI mt) (fun (u : Unit) t => cB D (va_A (W_M cI cS mA mf mn ml mk mg mls ms mra mrf mrk mrg mrl mrs mo moo moa mp mpp mfi mpl mpo mro mdp mdf mhg mhk mR mRf mRo mss msl msh mha mt) sz) (W_M cI cS mA mf mn ml mk mg mls ms mra mrf mrk mrg mrl mrs mo moo moa mp mpp mfi mpl mpo mro mdp mdf mhg mhk mR mRf mRo mss msl msh mha mt) t) (va_A (W_M cI cS mA mf mn ml mk mg mls ms mra mrf mrk mrg mrl mrs mo moo moa mp mpp mfi mpl mpo mro mdp mdf mhg mhk mR mRf mRo mss msl msh mha mt) sz)) 0 0 (va_A (W_M cI cS mA mf mn ml mk mg mls ms mra mrf mrk mrg mrl mrs mo moo moa mp mpp mfi mpl mpo mro mdp mdf mhg mhk mR mRf mRo mss msl msh mha mt) sz) := by
  refine Met.ofW (cc := cX7_trace) (maxL := 1) (ret := (some .int)) (by decide) rfl ?_
  intro p e s m args below meth c_ s₁ B hml hv
  obtain ⟨rfl, hsz, hP, hK, hD0⟩ := hv
  have hx := B.exec
  have hb := B.bytes
  have hr := B.returns
  have hts := atoms_spec (ws := wsX7_trace) B.pre
  have hown : s.vm.findClass RX7 = some m.cls := findClass_of_methodNamed B.named
  have hlocks := B.notSynchronized
  subst hsz
  have hD := hD0.self (sz := s.heap.size)
  generalize hAe : va_A (W_M cI cS mA mf mn ml mk mg mls ms mra mrf mrk mrg mrl mrs mo moo moa mp mpp mfi mpl mpo mro mdp mdf mhg mhk mR mRf mRo mss msl msh mha mt) s.heap.size = A at hD ⊢
  have hA : ∀ q : Nat, s.heap.size ≤ q → A q := fun q h => by rw [← hAe]; exact Or.inr h
  have hS : va_S A s.heap s.heap [] := va_S.rf
  have hP : va_P D vwCl (W_M cI cS mA mf mn ml mk mg mls ms mra mrf mrk mrg mrl mrs mo moo moa mp mpp mfi mpl mpo mro mdp mdf mhg mhk mR mRf mRo mss msl msh mha mt) s.heap := hP
  have hl := lv_entry ([.ref (mA 0)] : List Value) (n := 1) (Nat.le_of_ble_eq_true rfl)
  rw [lg_entry_eq]
  generalize (lg_sl ([.ref (mA 0)] : List Value) ++ List.replicate (1 - (lg_sl ([.ref (mA 0)] : List Value)).length) Slot.unset).toArray = ls at hl ⊢
  have hl : lv_has ls 1 [(0, .ref (mA 0))] := hl
  have fl_256 := hts (.fieldLink RX7 256 "ActRowsModel" "traceNow" "I") (by decide +kernel)
  have iw_7 : ∀ w ∈ wsX70, w ∈ wsX7_trace := by decide +kernel
  refine lv_aload_n hx hb dX7_trace_0 rfl (lv_at hl 0 rfl) ?_
  refine va_get (D := D) (ci := 7) (v := .int (iI mt)) (C := RX7) (T := TX7) (N := 34) hx hb hts iw_7 hown hK.1 hP 0 rfl rfl 33 (by decide) fl_256 (fun _ h9 => h9) rfl dX7_trace_1 ?_
  exact W.iret (v := iI mt) hx hb hr (fun t ht hW => ⟨⟨_, (), rfl, rfl, by rw [ht]; exact hP, hD⟩, hS.F ht⟩) hS.2.2 dX7_trace_4
set_option maxHeartbeats 4000000 in
set_option maxRecDepth 100000 in
theorem c_X7_fault (l : Launch) (D : va_G) (cI cS : ClassId) (mA : Nat → Nat) (mf : Int) (mn : Int) (ml : Int) (mk : Int → Int) (mg : Int → Int) (mls : Int → Int) (ms : Int → Int) (mra : Int) (mrf : Int) (mrk : Int → Int) (mrg : Int → Int) (mrl : Int → Int) (mrs : Int → Int) (mo : Int) (moo : Int → Int) (moa : Int → Int) (mp : Int) (mpp : Int → Int) (mfi : Int) (mpl : Int) (mpo : Int → Int) (mro : Int → Int) (mdp : Int) (mdf : Int) (mhg : Int → Int) (mhk : Int → Int) (mR : Int) (mRf : Int → Int) (mRo : Int → Int) (mss : Int → Int) (msl : Int → Int) (msh : Int → Int) (mha : Int → Int) (mt : Int) (sz : Nat)  : Met l yX7_fault wsX7_fault ({ frames := 0, cells := 0, slots := 0, locals := 0 }) (cP D cI cS (W_M cI cS mA mf mn ml mk mg mls ms mra mrf mrk mrg mrl mrs mo moo moa mp mpp mfi mpl mpo mro mdp mdf mhg mhk mR mRf mRo mss msl msh mha mt) sz [.ref (mA 0)]) (va_Qi (fun (r : Int32) (u : Unit) => r = iI mf) (fun (u : Unit) t => cB D (va_A (W_M cI cS mA mf mn ml mk mg mls ms mra mrf mrk mrg mrl mrs mo moo moa mp mpp mfi mpl mpo mro mdp mdf mhg mhk mR mRf mRo mss msl msh mha mt) sz) (W_M cI cS mA mf mn ml mk mg mls ms mra mrf mrk mrg mrl mrs mo moo moa mp mpp mfi mpl mpo mro mdp mdf mhg mhk mR mRf mRo mss msl msh mha mt) t) (va_A (W_M cI cS mA mf mn ml mk mg mls ms mra mrf mrk mrg mrl mrs mo moo moa mp mpp mfi mpl mpo mro mdp mdf mhg mhk mR mRf mRo mss msl msh mha mt) sz)) 0 0 (va_A (W_M cI cS mA mf mn ml mk mg mls ms mra mrf mrk mrg mrl mrs mo moo moa mp mpp mfi mpl mpo mro mdp mdf mhg mhk mR mRf mRo mss msl msh mha mt) sz) := by
  refine Met.ofW (cc := cX7_fault) (maxL := 1) (ret := (some .int)) (by decide) rfl ?_
  intro p e s m args below meth c_ s₁ B hml hv
  obtain ⟨rfl, hsz, hP, hK, hD0⟩ := hv
  have hx := B.exec
  have hb := B.bytes
  have hr := B.returns
  have hts := atoms_spec (ws := wsX7_fault) B.pre
  have hown : s.vm.findClass RX7 = some m.cls := findClass_of_methodNamed B.named
  have hlocks := B.notSynchronized
  subst hsz
  have hD := hD0.self (sz := s.heap.size)
  generalize hAe : va_A (W_M cI cS mA mf mn ml mk mg mls ms mra mrf mrk mrg mrl mrs mo moo moa mp mpp mfi mpl mpo mro mdp mdf mhg mhk mR mRf mRo mss msl msh mha mt) s.heap.size = A at hD ⊢
  have hA : ∀ q : Nat, s.heap.size ≤ q → A q := fun q h => by rw [← hAe]; exact Or.inr h
  have hS : va_S A s.heap s.heap [] := va_S.rf
  have hP : va_P D vwCl (W_M cI cS mA mf mn ml mk mg mls ms mra mrf mrk mrg mrl mrs mo moo moa mp mpp mfi mpl mpo mro mdp mdf mhg mhk mR mRf mRo mss msl msh mha mt) s.heap := hP
  have hl := lv_entry ([.ref (mA 0)] : List Value) (n := 1) (Nat.le_of_ble_eq_true rfl)
  rw [lg_entry_eq]
  generalize (lg_sl ([.ref (mA 0)] : List Value) ++ List.replicate (1 - (lg_sl ([.ref (mA 0)] : List Value)).length) Slot.unset).toArray = ls at hl ⊢
  have hl : lv_has ls 1 [(0, .ref (mA 0))] := hl
  have fl_75 := hts (.fieldLink RX7 75 "ActRowsModel" "fault" "I") (by decide +kernel)
  have iw_7 : ∀ w ∈ wsX70, w ∈ wsX7_fault := by decide +kernel
  refine lv_aload_n hx hb dX7_fault_0 rfl (lv_at hl 0 rfl) ?_
  refine va_get (D := D) (ci := 7) (v := .int (iI mf)) (C := RX7) (T := TX7) (N := 34) hx hb hts iw_7 hown hK.1 hP 0 rfl rfl 0 (by decide) fl_75 (fun _ h9 => h9) rfl dX7_fault_1 ?_
  exact W.iret (v := iI mf) hx hb hr (fun t ht hW => ⟨⟨_, (), rfl, rfl, by rw [ht]; exact hP, hD⟩, hS.F ht⟩) hS.2.2 dX7_fault_4
set_option maxHeartbeats 4000000 in
set_option maxRecDepth 100000 in
theorem c_X7_manyOut (l : Launch) (D : va_G) (cI cS : ClassId) (mA : Nat → Nat) (mf : Int) (mn : Int) (ml : Int) (mk : Int → Int) (mg : Int → Int) (mls : Int → Int) (ms : Int → Int) (mra : Int) (mrf : Int) (mrk : Int → Int) (mrg : Int → Int) (mrl : Int → Int) (mrs : Int → Int) (mo : Int) (moo : Int → Int) (moa : Int → Int) (mp : Int) (mpp : Int → Int) (mfi : Int) (mpl : Int) (mpo : Int → Int) (mro : Int → Int) (mdp : Int) (mdf : Int) (mhg : Int → Int) (mhk : Int → Int) (mR : Int) (mRf : Int → Int) (mRo : Int → Int) (mss : Int → Int) (msl : Int → Int) (msh : Int → Int) (mha : Int → Int) (mt : Int) (sz : Nat) (hok : okP mn mls ms) (hkk : okK mn mk mg ml) : Met l yX7_manyOut wsX7_manyOut ({ frames := 4, cells := 0, slots := 0, locals := 89 }) (cP D cI cS (W_M cI cS mA mf mn ml mk mg mls ms mra mrf mrk mrg mrl mrs mo moo moa mp mpp mfi mpl mpo mro mdp mdf mhg mhk mR mRf mRo mss msl msh mha mt) sz [.ref (mA 0)]) (va_Qi (fun (r : Int32) (u : Int × (Int → Int) × (Int → Int) × Int × (Int → Int) × Int × Int × (Int → Int)) => r = iI (cntNe (fun f => (sem mk mg ml mls ms f).1) mn.toNat)) (fun (u : Int × (Int → Int) × (Int → Int) × Int × (Int → Int) × Int × Int × (Int → Int)) t => cB D (va_A (W_M cI cS mA mf mn ml mk mg mls ms mra mrf mrk mrg mrl mrs mo moo moa mp mpp mfi mpl mpo mro mdp mdf mhg mhk mR mRf mRo mss msl msh mha mt) sz) (W_M cI cS mA mf mn ml mk mg mls ms mra mrf mrk mrg mrl mrs u.1 u.2.1 u.2.2.1 u.2.2.2.1 u.2.2.2.2.1 u.2.2.2.2.2.1 u.2.2.2.2.2.2.1 u.2.2.2.2.2.2.2 mro mdp mdf mhg mhk mR mRf mRo mss msl msh mha mt) t) (va_A (W_M cI cS mA mf mn ml mk mg mls ms mra mrf mrk mrg mrl mrs mo moo moa mp mpp mfi mpl mpo mro mdp mdf mhg mhk mR mRf mRo mss msl msh mha mt) sz)) 0 0 (va_A (W_M cI cS mA mf mn ml mk mg mls ms mra mrf mrk mrg mrl mrs mo moo moa mp mpp mfi mpl mpo mro mdp mdf mhg mhk mR mRf mRo mss msl msh mha mt) sz) := by
  refine Met.ofW (cc := cX7_manyOut) (maxL := 3) (ret := (some .int)) (by decide) rfl ?_
  intro p e s m args below meth c_ s₁ B hml hv
  obtain ⟨rfl, hsz, hP, hK, hD0⟩ := hv
  have hx := B.exec
  have hb := B.bytes
  have hr := B.returns
  have hts := atoms_spec (ws := wsX7_manyOut) B.pre
  have hown : s.vm.findClass RX7 = some m.cls := findClass_of_methodNamed B.named
  have hlocks := B.notSynchronized
  subst hsz
  have hD := hD0.self (sz := s.heap.size)
  generalize hAe : va_A (W_M cI cS mA mf mn ml mk mg mls ms mra mrf mrk mrg mrl mrs mo moo moa mp mpp mfi mpl mpo mro mdp mdf mhg mhk mR mRf mRo mss msl msh mha mt) s.heap.size = A at hD ⊢
  have hA : ∀ q : Nat, s.heap.size ≤ q → A q := fun q h => by rw [← hAe]; exact Or.inr h
  have hS : va_S A s.heap s.heap [] := va_S.rf
  have hP : va_P D vwCl (W_M cI cS mA mf mn ml mk mg mls ms mra mrf mrk mrg mrl mrs mo moo moa mp mpp mfi mpl mpo mro mdp mdf mhg mhk mR mRf mRo mss msl msh mha mt) s.heap := hP
  have hl := lv_entry ([.ref (mA 0)] : List Value) (n := 3) (Nat.le_of_ble_eq_true rfl)
  rw [lg_entry_eq]
  generalize (lg_sl ([.ref (mA 0)] : List Value) ++ List.replicate (3 - (lg_sl ([.ref (mA 0)] : List Value)).length) Slot.unset).toArray = ls at hl ⊢
  have hl : lv_has ls 3 [(0, .ref (mA 0))] := hl
  have fl_83 := hts (.fieldLink RX7 83 "ActRowsModel" "functions" "I") (by decide +kernel)
  have iw_7 : ∀ w ∈ wsX70, w ∈ wsX7_manyOut := by decide +kernel
  have hmn := hok.1
  have hln := hok.2.1
  refine lv_iconst (v := iI 0) hx hb dX7_manyOut_0 (by decide +kernel) ?_
  refine lv_istore_n (lv' := [(1, .int (iI 0)), (0, .ref (mA 0))]) hx hb dX7_manyOut_1 rfl hl (by decide) rfl (fun ls hl => ?_)
  refine lv_iconst (v := iI 0) hx hb dX7_manyOut_2 (by decide +kernel) ?_
  refine lv_istore_n (lv' := [(2, .int (iI 0)), (1, .int (iI 0)), (0, .ref (mA 0))]) hx hb dX7_manyOut_3 rfl hl (by decide) rfl (fun ls hl => ?_)
  refine x_loop (σ := Int × Int × Int × (Int → Int) × (Int → Int) × Int × (Int → Int) × Int × Int × (Int → Int)) (fun (xv_ : Int × Int × Int × (Int → Int) × (Int → Int) × Int × (Int → Int) × Int × Int × (Int → Int)) => match xv_ with | (n, f, mo9, moo9, moa9, mp9, mpp9, mfi9, mpl9, mpo9) => (0 ≤ f ∧ f ≤ mn) ∧ (n = cntNe (fun f => (sem mk mg ml mls ms f).1) f.toNat)) (fun (xv_ : Int × Int × Int × (Int → Int) × (Int → Int) × Int × (Int → Int) × Int × Int × (Int → Int)) => match xv_ with | (n, f, mo9, moo9, moa9, mp9, mpp9, mfi9, mpl9, mpo9) => (mn - f).toNat) (fun (xv_ : Int × Int × Int × (Int → Int) × (Int → Int) × Int × (Int → Int) × Int × Int × (Int → Int)) => match xv_ with | (n, f, mo9, moo9, moa9, mp9, mpp9, mfi9, mpl9, mpo9) => (W_M cI cS mA mf mn ml mk mg mls ms mra mrf mrk mrg mrl mrs mo9 moo9 moa9 mp9 mpp9 mfi9 mpl9 mpo9 mro mdp mdf mhg mhk mR mRf mRo mss msl msh mha mt)) (fun (xv_ : Int × Int × Int × (Int → Int) × (Int → Int) × Int × (Int → Int) × Int × Int × (Int → Int)) => match xv_ with | (n, f, mo9, moo9, moa9, mp9, mpp9, mfi9, mpl9, mpo9) => [(2, .int (iI f)), (1, .int (iI n)), (0, .ref (mA 0))]) (nL := 3) ?step_1 (0, 0, mo, moo, moa, mp, mpp, mfi, mpl, mpo) (by (try dsimp only); exact ⟨by omega, rfl⟩) hP hD hS (lv_sub hl [0, 1, 2] rfl)
  case step_1 =>
    intro xv_ hI ih H locs ls hP hD hS hl
    obtain ⟨n, f, mo9, moo9, moa9, mp9, mpp9, mfi9, mpl9, mpo9⟩ := xv_
    try dsimp only at hI ih
    obtain ⟨hf, hm⟩ := hI
    have hP : va_P D vwCl (W_M cI cS mA mf mn ml mk mg mls ms mra mrf mrk mrg mrl mrs mo9 moo9 moa9 mp9 mpp9 mfi9 mpl9 mpo9 mro mdp mdf mhg mhk mR mRf mRo mss msl msh mha mt) H := hP
    have hD : va_D A (W_M cI cS mA mf mn ml mk mg mls ms mra mrf mrk mrg mrl mrs mo9 moo9 moa9 mp9 mpp9 mfi9 mpl9 mpo9 mro mdp mdf mhg mhk mR mRf mRo mss msl msh mha mt) := hD
    have hl : lv_has ls 3 [(2, .int (iI f)), (1, .int (iI n)), (0, .ref (mA 0))] := hl
    have ih_2 := ih
    refine lv_iload_n hx hb dX7_manyOut_4 rfl (lv_at hl 0 rfl) ?_
    refine lv_aload_n hx hb dX7_manyOut_5 rfl (lv_at hl 2 rfl) ?_
    refine va_get (D := D) (ci := 7) (v := .int (iI mn)) (C := RX7) (T := TX7) (N := 34) hx hb hts iw_7 hown hK.1 hP 0 rfl rfl 1 (by decide) fl_83 (fun _ h9 => h9) rfl dX7_manyOut_6 ?_
    refine n_icmp_ge (tgt := 34) hx hb dX7_manyOut_9 (by decide) (by omega) (fun c_3 => ?_) (fun c_3 => ?_)
    ·
      refine lv_iload_n hx hb dX7_manyOut_34 rfl (lv_at hl 1 rfl) ?_
      exact W.iret (v := iI n) hx hb hr (fun t ht hW => ⟨⟨_, (mo9, moo9, moa9, mp9, mpp9, mfi9, mpl9, mpo9), rfl, congrArg iI (show n = (cntNe (fun f => (sem mk mg ml mls ms f).1) mn.toNat) from (by rw [hm, show f = mn by omega])), by rw [ht]; exact hP, hD⟩, hS.F ht⟩) hS.2.2 dX7_manyOut_35
    ·
      refine lv_iload_n hx hb dX7_manyOut_12 rfl (lv_at hl 1 rfl) ?_
      refine lv_aload_n hx hb dX7_manyOut_13 rfl (lv_at hl 2 rfl) ?_
      refine lv_iload_n hx hb dX7_manyOut_14 rfl (lv_at hl 0 rfl) ?_
      refine x_callVi (As := [.int (iI f)]) (rest := [.int (iI n)]) ⟨hx, hb, hml, hown, hts⟩ (c_X7_runs l D cI cS mA mf mn ml mk mg mls ms mra mrf mrk mrg mrl mrs mo9 moo9 moa9 mp9 mpp9 mfi9 mpl9 mpo9 mro mdp mdf mhg mhk mR mRf mRo mss msl msh mha mt H.size f (by first | assumption | omega) (by first | assumption | omega) (by omega)) (cwV 1 hts gX7_manyOut_X7_runs rfl rfl rfl (by decide +kernel) ⟨Nat.le_of_ble_eq_true rfl, Nat.le_of_ble_eq_true rfl⟩) hK hP hD hS hA [0, 1, 2, 3, 4, 5, 6, 7, 8, 9, 10, 11, 12, 13, 14, 15, 16, 17, 18, 19, 20, 21] [] (wr := ([] : va_W)) rfl rfl (by decide) (by decide) (by decide) 0 7 rfl rfl rfl [0, 1, 2, 3, 4, 5, 6, 7, 8, 9, 10, 11, 12, 13, 14, 15, 16, 17, 18, 19, 20, 21] (fun (u : Int × (Int → Int) × (Int → Int) × Int × (Int → Int) × Int × Int × (Int → Int)) => (W_M cI cS mA mf mn ml mk mg mls ms mra mrf mrk mrg mrl mrs u.1 u.2.1 u.2.2.1 u.2.2.2.1 u.2.2.2.2.1 u.2.2.2.2.2.1 u.2.2.2.2.2.2.1 u.2.2.2.2.2.2.2 mro mdp mdf mhg mhk mR mRf mRo mss msl msh mha mt)) (fun _ => rfl) (by decide) rfl hl.1 rfl (Nat.le_of_ble_eq_true rfl) ⟨Nat.zero_le _, Nat.zero_le _⟩ dX7_manyOut_15 (fun r_ u_ H locs hw hP hD hS => ?_)
      obtain ⟨mo_4, moo_5, moa_6, mp2, mpp2, mfi2, mpl2, mpo2⟩ := u_
      try dsimp only at hw
      obtain ⟨z2, rfl, hz2, hp2, he2, hl2⟩ := hw
      have hP : va_P D vwCl (W_M cI cS mA mf mn ml mk mg mls ms mra mrf mrk mrg mrl mrs mo_4 moo_5 moa_6 mp2 mpp2 mfi2 mpl2 mpo2 mro mdp mdf mhg mhk mR mRf mRo mss msl msh mha mt) H := hP
      have hD : va_D A (W_M cI cS mA mf mn ml mk mg mls ms mra mrf mrk mrg mrl mrs mo_4 moo_5 moa_6 mp2 mpp2 mfi2 mpl2 mpo2 mro mdp mdf mhg mhk mR mRf mRo mss msl msh mha mt) := hD
      obtain ⟨o1, ho1⟩ : ∃ z_ : Int, z_ = (sem mk mg ml mls ms f).1 := ⟨_, rfl⟩
      have ho1r := (sem_ok (K := mk) (G := mg) (L := ml) hok f (by omega) (by omega)).1
      rw [← ho1] at ho1r hz2
      refine n_if_lt (tgt := 25) hx hb dX7_manyOut_18 (by decide) (by omega) (fun c_7 => ?_) (fun c_7 => ?_)
      ·
        refine lv_iconst (v := iI 0) hx hb dX7_manyOut_25 (by decide +kernel) ?_
        refine n_iadd hx hb dX7_manyOut_26 ?_
        refine lv_istore_n (lv' := [(1, .int (iI (n + 0))), (2, .int (iI f)), (0, .ref (mA 0))]) hx hb dX7_manyOut_27 rfl hl (by decide) rfl (fun ls hl => ?_)
        refine n_iinc (lv' := [(2, .int (iI (f + 1))), (1, .int (iI (n + 0))), (0, .ref (mA 0))]) hx hb dX7_manyOut_28 hl (k := 1) rfl (by decide) rfl (fun ls hl => ?_)
        refine lv_goto (tgt := 4) hx hb dX7_manyOut_31 (by decide) ?_
        exact ih_2 ((n + 0), (f + 1), mo_4, moo_5, moa_6, mp2, mpp2, mfi2, mpl2, mpo2) (by (try dsimp only); exact ⟨by omega, by rw [cntNe_s _ hf.1, ← hm, ← ho1]; omega⟩) (by (try dsimp only); exact (by omega)) _ _ _ hP hD hS (lv_sub hl [0, 1, 2] rfl)
      ·
        refine lv_iconst (v := iI 1) hx hb dX7_manyOut_21 (by decide +kernel) ?_
        refine lv_goto (tgt := 26) hx hb dX7_manyOut_22 (by decide) ?_
        refine n_iadd hx hb dX7_manyOut_26 ?_
        refine lv_istore_n (lv' := [(1, .int (iI (n + 1))), (2, .int (iI f)), (0, .ref (mA 0))]) hx hb dX7_manyOut_27 rfl hl (by decide) rfl (fun ls hl => ?_)
        refine n_iinc (lv' := [(2, .int (iI (f + 1))), (1, .int (iI (n + 1))), (0, .ref (mA 0))]) hx hb dX7_manyOut_28 hl (k := 1) rfl (by decide) rfl (fun ls hl => ?_)
        refine lv_goto (tgt := 4) hx hb dX7_manyOut_31 (by decide) ?_
        exact ih_2 ((n + 1), (f + 1), mo_4, moo_5, moa_6, mp2, mpp2, mfi2, mpl2, mpo2) (by (try dsimp only); exact ⟨by omega, by rw [cntNe_s _ hf.1, ← hm, ← ho1]; omega⟩) (by (try dsimp only); exact (by omega)) _ _ _ hP hD hS (lv_sub hl [0, 1, 2] rfl)
set_option maxHeartbeats 4000000 in
set_option maxRecDepth 100000 in
theorem c_X7_many (l : Launch) (D : va_G) (cI cS : ClassId) (mA : Nat → Nat) (mf : Int) (mn : Int) (ml : Int) (mk : Int → Int) (mg : Int → Int) (mls : Int → Int) (ms : Int → Int) (mra : Int) (mrf : Int) (mrk : Int → Int) (mrg : Int → Int) (mrl : Int → Int) (mrs : Int → Int) (mo : Int) (moo : Int → Int) (moa : Int → Int) (mp : Int) (mpp : Int → Int) (mfi : Int) (mpl : Int) (mpo : Int → Int) (mro : Int → Int) (mdp : Int) (mdf : Int) (mhg : Int → Int) (mhk : Int → Int) (mR : Int) (mRf : Int → Int) (mRo : Int → Int) (mss : Int → Int) (msl : Int → Int) (msh : Int → Int) (mha : Int → Int) (mt : Int) (sz : Nat) (w : Int) (hok : okP mn mls ms) (hkk : okK mn mk mg ml) (hwr : -2147483648 ≤ w ∧ w < 2147483648) : Met l yX7_many wsX7_many ({ frames := 5, cells := 0, slots := 0, locals := 111 }) (cP D cI cS (W_M cI cS mA mf mn ml mk mg mls ms mra mrf mrk mrg mrl mrs mo moo moa mp mpp mfi mpl mpo mro mdp mdf mhg mhk mR mRf mRo mss msl msh mha mt) sz [.ref (mA 0), .int (iI w)]) (va_Qi (fun (r : Int32) (u : Int × (Int → Int) × (Int → Int) × Int × (Int → Int) × Int × Int × (Int → Int)) => r = iI (sMany mn ml mk mg mls ms mR w)) (fun (u : Int × (Int → Int) × (Int → Int) × Int × (Int → Int) × Int × Int × (Int → Int)) t => cB D (va_A (W_M cI cS mA mf mn ml mk mg mls ms mra mrf mrk mrg mrl mrs mo moo moa mp mpp mfi mpl mpo mro mdp mdf mhg mhk mR mRf mRo mss msl msh mha mt) sz) (W_M cI cS mA mf mn ml mk mg mls ms mra mrf mrk mrg mrl mrs u.1 u.2.1 u.2.2.1 u.2.2.2.1 u.2.2.2.2.1 u.2.2.2.2.2.1 u.2.2.2.2.2.2.1 u.2.2.2.2.2.2.2 mro mdp mdf mhg mhk mR mRf mRo mss msl msh mha mt) t) (va_A (W_M cI cS mA mf mn ml mk mg mls ms mra mrf mrk mrg mrl mrs mo moo moa mp mpp mfi mpl mpo mro mdp mdf mhg mhk mR mRf mRo mss msl msh mha mt) sz)) 0 0 (va_A (W_M cI cS mA mf mn ml mk mg mls ms mra mrf mrk mrg mrl mrs mo moo moa mp mpp mfi mpl mpo mro mdp mdf mhg mhk mR mRf mRo mss msl msh mha mt) sz) := by
  refine Met.ofW (cc := cX7_many) (maxL := 4) (ret := (some .int)) (by decide) rfl ?_
  intro p e s m args below meth c_ s₁ B hml hv
  obtain ⟨rfl, hsz, hP, hK, hD0⟩ := hv
  have hx := B.exec
  have hb := B.bytes
  have hr := B.returns
  have hts := atoms_spec (ws := wsX7_many) B.pre
  have hown : s.vm.findClass RX7 = some m.cls := findClass_of_methodNamed B.named
  have hlocks := B.notSynchronized
  subst hsz
  have hD := hD0.self (sz := s.heap.size)
  generalize hAe : va_A (W_M cI cS mA mf mn ml mk mg mls ms mra mrf mrk mrg mrl mrs mo moo moa mp mpp mfi mpl mpo mro mdp mdf mhg mhk mR mRf mRo mss msl msh mha mt) s.heap.size = A at hD ⊢
  have hA : ∀ q : Nat, s.heap.size ≤ q → A q := fun q h => by rw [← hAe]; exact Or.inr h
  have hS : va_S A s.heap s.heap [] := va_S.rf
  have hP : va_P D vwCl (W_M cI cS mA mf mn ml mk mg mls ms mra mrf mrk mrg mrl mrs mo moo moa mp mpp mfi mpl mpo mro mdp mdf mhg mhk mR mRf mRo mss msl msh mha mt) s.heap := hP
  have hl := lv_entry ([.ref (mA 0), .int (iI w)] : List Value) (n := 4) (Nat.le_of_ble_eq_true rfl)
  rw [lg_entry_eq]
  generalize (lg_sl ([.ref (mA 0), .int (iI w)] : List Value) ++ List.replicate (4 - (lg_sl ([.ref (mA 0), .int (iI w)] : List Value)).length) Slot.unset).toArray = ls at hl ⊢
  have hl : lv_has ls 4 [(0, .ref (mA 0)), (1, .int (iI w))] := hl
  have fl_83 := hts (.fieldLink RX7 83 "ActRowsModel" "functions" "I") (by decide +kernel)
  have iw_7 : ∀ w ∈ wsX70, w ∈ wsX7_many := by decide +kernel
  have fl_142 := hts (.fieldLink RX7 142 "ActRowsModel" "liveNow" "I") (by decide +kernel)
  have fl_145 := hts (.fieldLink RX7 145 "ActRowsModel" "readings" "I") (by decide +kernel)
  have fl_16 := hts (.fieldLink RX7 16 "ActRowsModel" "stepsOf" "[I") (by decide +kernel)
  have hmn := hok.1
  have hln := hok.2.1
  refine lv_iconst (v := iI 0) hx hb dX7_many_0 (by decide +kernel) ?_
  refine lv_istore_n (lv' := [(2, .int (iI 0)), (0, .ref (mA 0)), (1, .int (iI w))]) hx hb dX7_many_1 rfl hl (by decide) rfl (fun ls hl => ?_)
  refine lv_iconst (v := iI 0) hx hb dX7_many_2 (by decide +kernel) ?_
  refine lv_istore_n (lv' := [(3, .int (iI 0)), (2, .int (iI 0)), (0, .ref (mA 0)), (1, .int (iI w))]) hx hb dX7_many_3 rfl hl (by decide) rfl (fun ls hl => ?_)
  refine x_loop (σ := Int × Int) (fun (xv_ : Int × Int) => match xv_ with | (su, f) => (0 ≤ f ∧ f ≤ mn) ∧ (su = sumI mls f.toNat)) (fun (xv_ : Int × Int) => match xv_ with | (su, f) => (mn - f).toNat) (fun (xv_ : Int × Int) => match xv_ with | (su, f) => (W_M cI cS mA mf mn ml mk mg mls ms mra mrf mrk mrg mrl mrs mo moo moa mp mpp mfi mpl mpo mro mdp mdf mhg mhk mR mRf mRo mss msl msh mha mt)) (fun (xv_ : Int × Int) => match xv_ with | (su, f) => [(3, .int (iI f)), (2, .int (iI su)), (0, .ref (mA 0)), (1, .int (iI w))]) (nL := 4) ?step_1 (0, 0) (by (try dsimp only); exact ⟨by omega, rfl⟩) hP hD hS hl
  case step_1 =>
    intro xv_ hI ih H locs ls hP hD hS hl
    obtain ⟨su, f⟩ := xv_
    try dsimp only at hI ih
    obtain ⟨hf, hm⟩ := hI
    have hP : va_P D vwCl (W_M cI cS mA mf mn ml mk mg mls ms mra mrf mrk mrg mrl mrs mo moo moa mp mpp mfi mpl mpo mro mdp mdf mhg mhk mR mRf mRo mss msl msh mha mt) H := hP
    have hD : va_D A (W_M cI cS mA mf mn ml mk mg mls ms mra mrf mrk mrg mrl mrs mo moo moa mp mpp mfi mpl mpo mro mdp mdf mhg mhk mR mRf mRo mss msl msh mha mt) := hD
    have hl : lv_has ls 4 [(3, .int (iI f)), (2, .int (iI su)), (0, .ref (mA 0)), (1, .int (iI w))] := hl
    have ih_2 := ih
    refine lv_iload_n hx hb dX7_many_4 rfl (lv_at hl 0 rfl) ?_
    refine lv_aload_n hx hb dX7_many_5 rfl (lv_at hl 2 rfl) ?_
    refine va_get (D := D) (ci := 7) (v := .int (iI mn)) (C := RX7) (T := TX7) (N := 34) hx hb hts iw_7 hown hK.1 hP 0 rfl rfl 1 (by decide) fl_83 (fun _ h9 => h9) rfl dX7_many_6 ?_
    refine n_icmp_ge (tgt := 27) hx hb dX7_many_9 (by decide) (by omega) (fun c_3 => ?_) (fun c_3 => ?_)
    ·
      refine lv_iload_n hx hb dX7_many_27 rfl (lv_at hl 3 rfl) ?_
      by_cases c_4 : w = 0
      ·
        refine n_tableIn (off := 36) (tgt := 64) hx hb 0 dX7_many_28 c_4 (by decide) rfl (by decide) ?_
        refine lv_aload_n hx hb dX7_many_64 rfl (lv_at hl 2 rfl) ?_
        refine va_get (D := D) (ci := 7) (v := .int (iI mn)) (C := RX7) (T := TX7) (N := 34) hx hb hts iw_7 hown hK.1 hP 0 rfl rfl 1 (by decide) fl_83 (fun _ h9 => h9) rfl dX7_many_65 ?_
        exact W.iret (v := iI mn) hx hb hr (fun t ht hW => ⟨⟨_, (mo, moo, moa, mp, mpp, mfi, mpl, mpo), rfl, congrArg iI (show mn = (sMany mn ml mk mg mls ms mR w) from (by unfold sMany; (repeat (first | rw [if_pos (by omega)] | rw [if_neg (by omega)])))), by rw [ht]; exact hP, hD⟩, hS.F ht⟩) hS.2.2 dX7_many_68
      by_cases c_5 : w = 1
      ·
        refine n_tableIn (off := 41) (tgt := 69) hx hb 1 dX7_many_28 c_5 (by decide) rfl (by decide) ?_
        refine lv_iload_n hx hb dX7_many_69 rfl (lv_at hl 1 rfl) ?_
        exact W.iret (v := iI su) hx hb hr (fun t ht hW => ⟨⟨_, (mo, moo, moa, mp, mpp, mfi, mpl, mpo), rfl, congrArg iI (show su = (sMany mn ml mk mg mls ms mR w) from (by unfold sMany; rw [if_neg (by omega), if_pos (by omega), hm, show f = mn by omega])), by rw [ht]; exact hP, hD⟩, hS.F ht⟩) hS.2.2 dX7_many_70
      by_cases c_6 : w = 2
      ·
        refine n_tableIn (off := 43) (tgt := 71) hx hb 2 dX7_many_28 c_6 (by decide) rfl (by decide) ?_
        refine lv_aload_n hx hb dX7_many_71 rfl (lv_at hl 2 rfl) ?_
        refine va_get (D := D) (ci := 7) (v := .int (iI ml)) (C := RX7) (T := TX7) (N := 34) hx hb hts iw_7 hown hK.1 hP 0 rfl rfl 2 (by decide) fl_142 (fun _ h9 => h9) rfl dX7_many_72 ?_
        refine x_callSi (As := [.int (iI ml)]) (rest := []) ⟨hx, hb, hml, hown, hts⟩ (c_X7_bits l D cI cS H.size ml hkk.2) (va_cwS 1 hts gX7_many_X7_bits rfl rfl rfl (by decide +kernel) ⟨Nat.le_of_ble_eq_true rfl, Nat.le_of_ble_eq_true rfl⟩) hK hP hD hS hA [] [0, 1, 2, 3, 4, 5, 6, 7, 8, 9, 10, 11, 12, 13, 14, 15, 16, 17, 18, 19, 20, 21] (wr := [(mA 0, .inr (7, [.int (iI mf), .int (iI mn), .int (iI ml), .ref (mA 1), .ref (mA 2), .ref (mA 3), .ref (mA 4), .int (iI mra), .int (iI mrf), .ref (mA 5), .ref (mA 6), .ref (mA 7), .ref (mA 8), .int (iI mo), .ref (mA 9), .ref (mA 10), .int (iI mp), .ref (mA 11), .int (iI mfi), .int (iI mpl), .ref (mA 12), .ref (mA 13), .int (iI mdp), .int (iI mdf), .ref (mA 14), .ref (mA 15), .int (iI mR), .ref (mA 16), .ref (mA 17), .ref (mA 18), .ref (mA 19), .ref (mA 20), .ref (mA 21), .int (iI mt)])), (mA 1, .inl (cI, 5, .inl (aI mk))), (mA 2, .inl (cI, 5, .inl (aI mg))), (mA 3, .inl (cI, 5, .inl (aI mls))), (mA 4, .inl (cI, 20, .inl (aI ms))), (mA 5, .inl (cI, 5, .inl (aI mrk))), (mA 6, .inl (cI, 5, .inl (aI mrg))), (mA 7, .inl (cI, 5, .inl (aI mrl))), (mA 8, .inl (cI, 20, .inl (aI mrs))), (mA 9, .inl (cI, 5, .inl (aI moo))), (mA 10, .inl (cI, 5, .inl (aI moa))), (mA 11, .inl (cI, 1024, .inl (aI mpp))), (mA 12, .inl (cI, 5, .inl (aI mpo))), (mA 13, .inl (cI, 5, .inl (aI mro))), (mA 14, .inl (cI, 5, .inl (aI mhg))), (mA 15, .inl (cI, 5, .inl (aI mhk))), (mA 16, .inl (cI, 8, .inl (aI mRf))), (mA 17, .inl (cI, 8, .inl (aI mRo))), (mA 18, .inl (cI, 4, .inl (aI mss))), (mA 19, .inl (cI, 4, .inl (aI msl))), (mA 20, .inl (cI, 240, .inl (aI msh))), (mA 21, .inl (cI, 60, .inl (aI mha)))]) rfl rfl (by decide) (by decide) (by decide) [0, 1, 2, 3, 4, 5, 6, 7, 8, 9, 10, 11, 12, 13, 14, 15, 16, 17, 18, 19, 20, 21] (fun (u : Unit) => (W_M cI cS mA mf mn ml mk mg mls ms mra mrf mrk mrg mrl mrs mo moo moa mp mpp mfi mpl mpo mro mdp mdf mhg mhk mR mRf mRo mss msl msh mha mt)) (fun _ => rfl) (by decide) rfl hl.1 rfl (Nat.le_of_ble_eq_true rfl) ⟨Nat.zero_le _, Nat.zero_le _⟩ dX7_many_75 (fun r_ u_ H locs hw hP hD hS => ?_)
        try dsimp only at hw
        subst hw
        have hP : va_P D vwCl (W_M cI cS mA mf mn ml mk mg mls ms mra mrf mrk mrg mrl mrs mo moo moa mp mpp mfi mpl mpo mro mdp mdf mhg mhk mR mRf mRo mss msl msh mha mt) H := hP
        have hD : va_D A (W_M cI cS mA mf mn ml mk mg mls ms mra mrf mrk mrg mrl mrs mo moo moa mp mpp mfi mpl mpo mro mdp mdf mhg mhk mR mRf mRo mss msl msh mha mt) := hD
        exact W.iret (v := iI (popc ml)) hx hb hr (fun t ht hW => ⟨⟨_, (mo, moo, moa, mp, mpp, mfi, mpl, mpo), rfl, congrArg iI (show (popc ml) = (sMany mn ml mk mg mls ms mR w) from (by unfold sMany; (repeat (first | rw [if_pos (by omega)] | rw [if_neg (by omega)])))), by rw [ht]; exact hP, hD⟩, hS.F ht⟩) hS.2.2 dX7_many_78
      by_cases c_7 : w = 3
      ·
        refine n_tableIn (off := 51) (tgt := 79) hx hb 3 dX7_many_28 c_7 (by decide) rfl (by decide) ?_
        refine lv_aload_n hx hb dX7_many_79 rfl (lv_at hl 2 rfl) ?_
        refine x_callVi (As := []) (rest := []) ⟨hx, hb, hml, hown, hts⟩ (c_X7_manyOut l D cI cS mA mf mn ml mk mg mls ms mra mrf mrk mrg mrl mrs mo moo moa mp mpp mfi mpl mpo mro mdp mdf mhg mhk mR mRf mRo mss msl msh mha mt H.size (by first | assumption | omega) (by first | assumption | omega)) (cwV 0 hts gX7_many_X7_manyOut rfl rfl rfl (by decide +kernel) ⟨Nat.le_of_ble_eq_true rfl, Nat.le_of_ble_eq_true rfl⟩) hK hP hD hS hA [0, 1, 2, 3, 4, 5, 6, 7, 8, 9, 10, 11, 12, 13, 14, 15, 16, 17, 18, 19, 20, 21] [] (wr := ([] : va_W)) rfl rfl (by decide) (by decide) (by decide) 0 7 rfl rfl rfl [0, 1, 2, 3, 4, 5, 6, 7, 8, 9, 10, 11, 12, 13, 14, 15, 16, 17, 18, 19, 20, 21] (fun (u : Int × (Int → Int) × (Int → Int) × Int × (Int → Int) × Int × Int × (Int → Int)) => (W_M cI cS mA mf mn ml mk mg mls ms mra mrf mrk mrg mrl mrs u.1 u.2.1 u.2.2.1 u.2.2.2.1 u.2.2.2.2.1 u.2.2.2.2.2.1 u.2.2.2.2.2.2.1 u.2.2.2.2.2.2.2 mro mdp mdf mhg mhk mR mRf mRo mss msl msh mha mt)) (fun _ => rfl) (by decide) rfl hl.1 rfl (Nat.le_of_ble_eq_true rfl) ⟨Nat.zero_le _, Nat.zero_le _⟩ dX7_many_80 (fun r_ u_ H locs hw hP hD hS => ?_)
        obtain ⟨mo_8, moo_9, moa_10, mp_11, mpp_12, mfi_13, mpl_14, mpo_15⟩ := u_
        try dsimp only at hw
        subst hw
        have hP : va_P D vwCl (W_M cI cS mA mf mn ml mk mg mls ms mra mrf mrk mrg mrl mrs mo_8 moo_9 moa_10 mp_11 mpp_12 mfi_13 mpl_14 mpo_15 mro mdp mdf mhg mhk mR mRf mRo mss msl msh mha mt) H := hP
        have hD : va_D A (W_M cI cS mA mf mn ml mk mg mls ms mra mrf mrk mrg mrl mrs mo_8 moo_9 moa_10 mp_11 mpp_12 mfi_13 mpl_14 mpo_15 mro mdp mdf mhg mhk mR mRf mRo mss msl msh mha mt) := hD
        exact W.iret (v := iI (cntNe (fun f => (sem mk mg ml mls ms f).1) mn.toNat)) hx hb hr (fun t ht hW => ⟨⟨_, (mo_8, moo_9, moa_10, mp_11, mpp_12, mfi_13, mpl_14, mpo_15), rfl, congrArg iI (show (cntNe (fun f => (sem mk mg ml mls ms f).1) mn.toNat) = (sMany mn ml mk mg mls ms mR w) from (by unfold sMany; (repeat (first | rw [if_pos (by omega)] | rw [if_neg (by omega)])))), by rw [ht]; exact hP, hD⟩, hS.F ht⟩) hS.2.2 dX7_many_83
      by_cases c_16 : w = 4
      ·
        refine n_tableIn (off := 56) (tgt := 84) hx hb 4 dX7_many_28 c_16 (by decide) rfl (by decide) ?_
        refine lv_aload_n hx hb dX7_many_84 rfl (lv_at hl 2 rfl) ?_
        refine va_get (D := D) (ci := 7) (v := .int (iI mR)) (C := RX7) (T := TX7) (N := 34) hx hb hts iw_7 hown hK.1 hP 0 rfl rfl 26 (by decide) fl_145 (fun _ h9 => h9) rfl dX7_many_85 ?_
        exact W.iret (v := iI mR) hx hb hr (fun t ht hW => ⟨⟨_, (mo, moo, moa, mp, mpp, mfi, mpl, mpo), rfl, congrArg iI (show mR = (sMany mn ml mk mg mls ms mR w) from (by unfold sMany; (repeat (first | rw [if_pos (by omega)] | rw [if_neg (by omega)])))), by rw [ht]; exact hP, hD⟩, hS.F ht⟩) hS.2.2 dX7_many_88
      refine n_tableOut (tgt := 89) hx hb dX7_many_28 (by omega) (by omega) (by decide) ?_
      refine lv_bipush (v := iI (-2)) hx hb dX7_many_89 (by decide +kernel) ?_
      exact W.iret (v := iI (-2)) hx hb hr (fun t ht hW => ⟨⟨_, (mo, moo, moa, mp, mpp, mfi, mpl, mpo), rfl, congrArg iI (show (-2) = (sMany mn ml mk mg mls ms mR w) from (by unfold sMany; (repeat (first | rw [if_pos (by omega)] | rw [if_neg (by omega)])))), by rw [ht]; exact hP, hD⟩, hS.F ht⟩) hS.2.2 dX7_many_91
    ·
      refine lv_iload_n hx hb dX7_many_12 rfl (lv_at hl 1 rfl) ?_
      refine lv_aload_n hx hb dX7_many_13 rfl (lv_at hl 2 rfl) ?_
      refine va_get (D := D) (ci := 7) (v := .ref (mA 3)) (C := RX7) (T := TX7) (N := 34) hx hb hts iw_7 hown hK.1 hP 0 rfl rfl 5 (by decide) fl_16 (fun _ h9 => h9) rfl dX7_many_14 ?_
      refine lv_iload_n hx hb dX7_many_17 rfl (lv_at hl 0 rfl) ?_
      refine n_iald (n := 5) hx hb hK.1 hP 3 0 rfl rfl (by omega) (by decide) dX7_many_18 ?_
      have q_17 := hln f (by omega) (by omega)
      refine n_iadd hx hb dX7_many_19 ?_
      refine lv_istore_n (lv' := [(2, .int (iI (su + (mls f)))), (3, .int (iI f)), (0, .ref (mA 0)), (1, .int (iI w))]) hx hb dX7_many_20 rfl hl (by decide) rfl (fun ls hl => ?_)
      refine n_iinc (lv' := [(3, .int (iI (f + 1))), (2, .int (iI (su + (mls f)))), (0, .ref (mA 0)), (1, .int (iI w))]) hx hb dX7_many_21 hl (k := 1) rfl (by decide) rfl (fun ls hl => ?_)
      refine lv_goto (tgt := 4) hx hb dX7_many_24 (by decide) ?_
      exact ih_2 ((su + (mls f)), (f + 1)) (by (try dsimp only); exact ⟨by omega, by rw [sumI_s _ hf.1, hm]⟩) (by (try dsimp only); exact (by omega)) _ _ _ hP hD hS (lv_sub hl [0, 1, 2, 3] rfl)
set_option maxHeartbeats 4000000 in
set_option maxRecDepth 100000 in
theorem c_X7_plugsBy (l : Launch) (D : va_G) (cI cS : ClassId) (mA : Nat → Nat) (mf : Int) (mn : Int) (ml : Int) (mk : Int → Int) (mg : Int → Int) (mls : Int → Int) (ms : Int → Int) (mra : Int) (mrf : Int) (mrk : Int → Int) (mrg : Int → Int) (mrl : Int → Int) (mrs : Int → Int) (mo : Int) (moo : Int → Int) (moa : Int → Int) (mp : Int) (mpp : Int → Int) (mfi : Int) (mpl : Int) (mpo : Int → Int) (mro : Int → Int) (mdp : Int) (mdf : Int) (mhg : Int → Int) (mhk : Int → Int) (mR : Int) (mRf : Int → Int) (mRo : Int → Int) (mss : Int → Int) (msl : Int → Int) (msh : Int → Int) (mha : Int → Int) (mt : Int) (sz : Nat) (x : Int) (hmn : 0 ≤ mn ∧ mn ≤ 5) (hx_ : 0 ≤ x ∧ x < 4000) : Met l yX7_plugsBy wsX7_plugsBy ({ frames := 0, cells := 0, slots := 0, locals := 0 }) (cP D cI cS (W_M cI cS mA mf mn ml mk mg mls ms mra mrf mrk mrg mrl mrs mo moo moa mp mpp mfi mpl mpo mro mdp mdf mhg mhk mR mRf mRo mss msl msh mha mt) sz [.ref (mA 0), .int (iI x)]) (va_Qi (fun (r : Int32) (u : (Int → Int) × (Int → Int)) => (r = iI (costN (dg x) 0 mn.toNat)) ∧ (∀ j : Int, 0 ≤ j → j < mn → u.1 j = chK (mhk j) (dg x j) ∧ u.2 j = chG (mhg j) (dg x j))) (fun (u : (Int → Int) × (Int → Int)) t => cB D (va_A (W_M cI cS mA mf mn ml mk mg mls ms mra mrf mrk mrg mrl mrs mo moo moa mp mpp mfi mpl mpo mro mdp mdf mhg mhk mR mRf mRo mss msl msh mha mt) sz) (W_M cI cS mA mf mn ml u.1 u.2 mls ms mra mrf mrk mrg mrl mrs mo moo moa mp mpp mfi mpl mpo mro mdp mdf mhg mhk mR mRf mRo mss msl msh mha mt) t) (va_A (W_M cI cS mA mf mn ml mk mg mls ms mra mrf mrk mrg mrl mrs mo moo moa mp mpp mfi mpl mpo mro mdp mdf mhg mhk mR mRf mRo mss msl msh mha mt) sz)) 0 0 (va_A (W_M cI cS mA mf mn ml mk mg mls ms mra mrf mrk mrg mrl mrs mo moo moa mp mpp mfi mpl mpo mro mdp mdf mhg mhk mR mRf mRo mss msl msh mha mt) sz) := by
  refine Met.ofW (cc := cX7_plugsBy) (maxL := 6) (ret := (some .int)) (by decide) rfl ?_
  intro p e s m args below meth c_ s₁ B hml hv
  obtain ⟨rfl, hsz, hP, hK, hD0⟩ := hv
  have hx := B.exec
  have hb := B.bytes
  have hr := B.returns
  have hts := atoms_spec (ws := wsX7_plugsBy) B.pre
  have hown : s.vm.findClass RX7 = some m.cls := findClass_of_methodNamed B.named
  have hlocks := B.notSynchronized
  subst hsz
  have hD := hD0.self (sz := s.heap.size)
  generalize hAe : va_A (W_M cI cS mA mf mn ml mk mg mls ms mra mrf mrk mrg mrl mrs mo moo moa mp mpp mfi mpl mpo mro mdp mdf mhg mhk mR mRf mRo mss msl msh mha mt) s.heap.size = A at hD ⊢
  have hA : ∀ q : Nat, s.heap.size ≤ q → A q := fun q h => by rw [← hAe]; exact Or.inr h
  have hS : va_S A s.heap s.heap [] := va_S.rf
  have hP : va_P D vwCl (W_M cI cS mA mf mn ml mk mg mls ms mra mrf mrk mrg mrl mrs mo moo moa mp mpp mfi mpl mpo mro mdp mdf mhg mhk mR mRf mRo mss msl msh mha mt) s.heap := hP
  have hl := lv_entry ([.ref (mA 0), .int (iI x)] : List Value) (n := 6) (Nat.le_of_ble_eq_true rfl)
  rw [lg_entry_eq]
  generalize (lg_sl ([.ref (mA 0), .int (iI x)] : List Value) ++ List.replicate (6 - (lg_sl ([.ref (mA 0), .int (iI x)] : List Value)).length) Slot.unset).toArray = ls at hl ⊢
  have hl : lv_has ls 6 [(0, .ref (mA 0)), (1, .int (iI x))] := hl
  have fl_83 := hts (.fieldLink RX7 83 "ActRowsModel" "functions" "I") (by decide +kernel)
  have iw_7 : ∀ w ∈ wsX70, w ∈ wsX7_plugsBy := by decide +kernel
  have fl_7 := hts (.fieldLink RX7 7 "ActRowsModel" "kindOf" "[I") (by decide +kernel)
  have fl_13 := hts (.fieldLink RX7 13 "ActRowsModel" "guardOf" "[I") (by decide +kernel)
  have fl_52 := hts (.fieldLink RX7 52 "ActRowsModel" "hadKind" "[I") (by decide +kernel)
  have fl_49 := hts (.fieldLink RX7 49 "ActRowsModel" "hadGuard" "[I") (by decide +kernel)
  refine lv_iload_n hx hb dX7_plugsBy_0 rfl (lv_at hl 1 rfl) ?_
  refine lv_istore_n (lv' := [(2, .int (iI x)), (0, .ref (mA 0)), (1, .int (iI x))]) hx hb dX7_plugsBy_1 rfl hl (by decide) rfl (fun ls hl => ?_)
  refine lv_iconst (v := iI 0) hx hb dX7_plugsBy_2 (by decide +kernel) ?_
  refine lv_istore_n (lv' := [(3, .int (iI 0)), (2, .int (iI x)), (0, .ref (mA 0)), (1, .int (iI x))]) hx hb dX7_plugsBy_3 rfl hl (by decide) rfl (fun ls hl => ?_)
  refine lv_iconst (v := iI 0) hx hb dX7_plugsBy_4 (by decide +kernel) ?_
  refine lv_istore (lv' := [(4, .int (iI 0)), (3, .int (iI 0)), (2, .int (iI x)), (0, .ref (mA 0)), (1, .int (iI x))]) hx hb dX7_plugsBy_5 hl (by decide) rfl (fun ls hl => ?_)
  refine x_loop (σ := Int × Int × Int × (Int → Int) × (Int → Int)) (fun (xv_ : Int × Int × Int × (Int → Int) × (Int → Int)) => match xv_ with | (lf, mny, f, mk1, mg1) => (0 ≤ f ∧ f ≤ mn) ∧ (lf = dv f.toNat x) ∧ (0 ≤ lf ∧ lf < 4000) ∧ (mny = costN (dg x) 0 f.toNat) ∧ (∀ j : Int, 0 ≤ j → j < f → mk1 j = chK (mhk j) (dg x j) ∧ mg1 j = chG (mhg j) (dg x j))) (fun (xv_ : Int × Int × Int × (Int → Int) × (Int → Int)) => match xv_ with | (lf, mny, f, mk1, mg1) => (mn - f).toNat) (fun (xv_ : Int × Int × Int × (Int → Int) × (Int → Int)) => match xv_ with | (lf, mny, f, mk1, mg1) => (W_M cI cS mA mf mn ml mk1 mg1 mls ms mra mrf mrk mrg mrl mrs mo moo moa mp mpp mfi mpl mpo mro mdp mdf mhg mhk mR mRf mRo mss msl msh mha mt)) (fun (xv_ : Int × Int × Int × (Int → Int) × (Int → Int)) => match xv_ with | (lf, mny, f, mk1, mg1) => [(4, .int (iI f)), (3, .int (iI mny)), (2, .int (iI lf)), (0, .ref (mA 0)), (1, .int (iI x))]) (nL := 6) ?step_1 (x, 0, 0, mk, mg) (by (try dsimp only); exact ⟨by omega, rfl, by omega, rfl, fun j a b => absurd b (by omega)⟩) hP hD hS (lv_sub hl [0, 1, 2, 3, 4] rfl)
  case step_1 =>
    intro xv_ hI ih H locs ls hP hD hS hl
    obtain ⟨lf, mny, f, mk1, mg1⟩ := xv_
    try dsimp only at hI ih
    obtain ⟨hf, hlf, hlr, hm, hd1⟩ := hI
    have hP : va_P D vwCl (W_M cI cS mA mf mn ml mk1 mg1 mls ms mra mrf mrk mrg mrl mrs mo moo moa mp mpp mfi mpl mpo mro mdp mdf mhg mhk mR mRf mRo mss msl msh mha mt) H := hP
    have hD : va_D A (W_M cI cS mA mf mn ml mk1 mg1 mls ms mra mrf mrk mrg mrl mrs mo moo moa mp mpp mfi mpl mpo mro mdp mdf mhg mhk mR mRf mRo mss msl msh mha mt) := hD
    have hl : lv_has ls 6 [(4, .int (iI f)), (3, .int (iI mny)), (2, .int (iI lf)), (0, .ref (mA 0)), (1, .int (iI x))] := hl
    have ih_2 := ih
    refine lv_iload hx hb dX7_plugsBy_7 (lv_at hl 0 rfl) ?_
    refine lv_aload_n hx hb dX7_plugsBy_9 rfl (lv_at hl 3 rfl) ?_
    refine va_get (D := D) (ci := 7) (v := .int (iI mn)) (C := RX7) (T := TX7) (N := 34) hx hb hts iw_7 hown hK.1 hP 0 rfl rfl 1 (by decide) fl_83 (fun _ h9 => h9) rfl dX7_plugsBy_10 ?_
    refine n_icmp_ge (tgt := 93) hx hb dX7_plugsBy_13 (by decide) (by omega) (fun c_3 => ?_) (fun c_3 => ?_)
    ·
      refine lv_iload_n hx hb dX7_plugsBy_93 rfl (lv_at hl 1 rfl) ?_
      exact W.iret (v := iI mny) hx hb hr (fun t ht hW => ⟨⟨_, (mk1, mg1), rfl, ⟨congrArg iI (show mny = (costN (dg x) 0 mn.toNat) from (by rw [hm, show f = mn by omega])), (by (try dsimp only); exact (fun j a b => hd1 j a (by omega)))⟩, by rw [ht]; exact hP, hD⟩, hS.F ht⟩) hS.2.2 dX7_plugsBy_94
    ·
      have hdf : dg x f = lf % 5 := by rw [hlf]; rfl
      refine lv_iload_n hx hb dX7_plugsBy_16 rfl (lv_at hl 2 rfl) ?_
      refine lv_iconst (v := iI 5) hx hb dX7_plugsBy_17 (by decide +kernel) ?_
      refine n_irem (by omega) hx hb dX7_plugsBy_18 ?_
      refine lv_istore (lv' := [(5, .int (iI (lf % 5))), (4, .int (iI f)), (3, .int (iI mny)), (2, .int (iI lf)), (0, .ref (mA 0)), (1, .int (iI x))]) hx hb dX7_plugsBy_19 hl (by decide) rfl (fun ls hl => ?_)
      refine lv_iload_n hx hb dX7_plugsBy_21 rfl (lv_at hl 3 rfl) ?_
      refine lv_iconst (v := iI 5) hx hb dX7_plugsBy_22 (by decide +kernel) ?_
      refine n_idiv (by omega) hx hb dX7_plugsBy_23 ?_
      refine lv_istore_n (lv' := [(2, .int (iI (lf / 5))), (5, .int (iI (lf % 5))), (4, .int (iI f)), (3, .int (iI mny)), (0, .ref (mA 0)), (1, .int (iI x))]) hx hb dX7_plugsBy_24 rfl hl (by decide) rfl (fun ls hl => ?_)
      refine lv_aload_n hx hb dX7_plugsBy_25 rfl (lv_at hl 4 rfl) ?_
      refine va_get (D := D) (ci := 7) (v := .ref (mA 1)) (C := RX7) (T := TX7) (N := 34) hx hb hts iw_7 hown hK.1 hP 0 rfl rfl 3 (by decide) fl_7 (fun _ h9 => h9) rfl dX7_plugsBy_26 ?_
      refine lv_iload hx hb dX7_plugsBy_29 (lv_at hl 2 rfl) ?_
      refine lv_iload hx hb dX7_plugsBy_31 (lv_at hl 1 rfl) ?_
      refine n_if_ne (tgt := 46) hx hb dX7_plugsBy_33 (by decide) (by omega) (fun c_4 => ?_) (fun c_4 => ?_)
      ·
        refine lv_iconst (v := iI 2) hx hb dX7_plugsBy_46 (by decide +kernel) ?_
        refine n_iast (n := 5) hx hb hK.1 hP hD hS 1 0 rfl rfl (by omega) (by decide) dX7_plugsBy_47 (fun H locs hP hD hS => ?_)
        have hP : va_P D vwCl (W_M cI cS mA mf mn ml (updI mk1 f 2) mg1 mls ms mra mrf mrk mrg mrl mrs mo moo moa mp mpp mfi mpl mpo mro mdp mdf mhg mhk mR mRf mRo mss msl msh mha mt) H := hP
        have hD : va_D A (W_M cI cS mA mf mn ml (updI mk1 f 2) mg1 mls ms mra mrf mrk mrg mrl mrs mo moo moa mp mpp mfi mpl mpo mro mdp mdf mhg mhk mR mRf mRo mss msl msh mha mt) := hD
        refine lv_aload_n hx hb dX7_plugsBy_48 rfl (lv_at hl 4 rfl) ?_
        refine va_get (D := D) (ci := 7) (v := .ref (mA 2)) (C := RX7) (T := TX7) (N := 34) hx hb hts iw_7 hown hK.1 hP 0 rfl rfl 4 (by decide) fl_13 (fun _ h9 => h9) rfl dX7_plugsBy_49 ?_
        refine lv_iload hx hb dX7_plugsBy_52 (lv_at hl 2 rfl) ?_
        refine lv_iload hx hb dX7_plugsBy_54 (lv_at hl 1 rfl) ?_
        refine n_if_ne (tgt := 69) hx hb dX7_plugsBy_56 (by decide) (by omega) (fun c_5 => ?_) (fun c_5 => ?_)
        ·
          refine lv_iload hx hb dX7_plugsBy_69 (lv_at hl 1 rfl) ?_
          refine lv_iconst (v := iI 1) hx hb dX7_plugsBy_71 (by decide +kernel) ?_
          refine n_isub hx hb dX7_plugsBy_72 ?_
          refine n_iast (n := 5) hx hb hK.1 hP hD hS 2 0 rfl rfl (by omega) (by decide) dX7_plugsBy_73 (fun H locs hP hD hS => ?_)
          have hP : va_P D vwCl (W_M cI cS mA mf mn ml (updI mk1 f 2) (updI mg1 f ((lf % 5) - 1)) mls ms mra mrf mrk mrg mrl mrs mo moo moa mp mpp mfi mpl mpo mro mdp mdf mhg mhk mR mRf mRo mss msl msh mha mt) H := hP
          have hD : va_D A (W_M cI cS mA mf mn ml (updI mk1 f 2) (updI mg1 f ((lf % 5) - 1)) mls ms mra mrf mrk mrg mrl mrs mo moo moa mp mpp mfi mpl mpo mro mdp mdf mhg mhk mR mRf mRo mss msl msh mha mt) := hD
          refine lv_iload_n hx hb dX7_plugsBy_74 rfl (lv_at hl 3 rfl) ?_
          refine lv_iload hx hb dX7_plugsBy_75 (lv_at hl 1 rfl) ?_
          refine n_if_ne (tgt := 84) hx hb dX7_plugsBy_77 (by decide) (by omega) (fun c_6 => ?_) (fun c_6 => ?_)
          ·
            refine lv_iconst (v := iI 1) hx hb dX7_plugsBy_84 (by decide +kernel) ?_
            refine n_iadd hx hb dX7_plugsBy_85 ?_
            refine lv_istore_n (lv' := [(3, .int (iI (mny + 1))), (2, .int (iI (lf / 5))), (5, .int (iI (lf % 5))), (4, .int (iI f)), (0, .ref (mA 0)), (1, .int (iI x))]) hx hb dX7_plugsBy_86 rfl hl (by decide) rfl (fun ls hl => ?_)
            refine n_iinc (lv' := [(4, .int (iI (f + 1))), (3, .int (iI (mny + 1))), (2, .int (iI (lf / 5))), (5, .int (iI (lf % 5))), (0, .ref (mA 0)), (1, .int (iI x))]) hx hb dX7_plugsBy_87 hl (k := 3) rfl (by decide) rfl (fun ls hl => ?_)
            refine lv_goto (tgt := 7) hx hb dX7_plugsBy_90 (by decide) ?_
            exact ih_2 ((lf / 5), (mny + 1), (f + 1), (updI mk1 f 2), (updI mg1 f ((lf % 5) - 1))) (by (try dsimp only); exact ⟨by omega, by rw [show (f + 1).toNat = f.toNat + 1 by omega]; show lf / 5 = dv f.toNat x / 5; rw [hlf], by omega, by rw [show (f + 1).toNat = f.toNat + 1 by omega, costN_snoc, ← hm, show (0 : Int) + (f.toNat : Int) = f by omega, hdf]; omega, fun j a b => by
                by_cases e : j = f
                · rw [e, updI_s, updI_s, hdf]; unfold chK chG; first | (rw [if_pos (by omega), if_pos (by omega)]; exact ⟨rfl, rfl⟩) | (rw [if_neg (by omega), if_neg (by omega)]; exact ⟨rfl, rfl⟩)
                · rw [updI_n e, updI_n e]; exact hd1 j a (by omega)⟩) (by (try dsimp only); exact (by omega)) _ _ _ hP hD hS (lv_sub hl [0, 1, 2, 4, 5] rfl)
          · exact False.elim (by first | contradiction | omega)
        · exact False.elim (by first | contradiction | omega)
      ·
        refine lv_aload_n hx hb dX7_plugsBy_36 rfl (lv_at hl 4 rfl) ?_
        refine va_get (D := D) (ci := 7) (v := .ref (mA 15)) (C := RX7) (T := TX7) (N := 34) hx hb hts iw_7 hown hK.1 hP 0 rfl rfl 25 (by decide) fl_52 (fun _ h9 => h9) rfl dX7_plugsBy_37 ?_
        refine lv_iload hx hb dX7_plugsBy_40 (lv_at hl 2 rfl) ?_
        refine n_iald (n := 5) hx hb hK.1 hP 15 0 rfl rfl (by omega) (by decide) dX7_plugsBy_42 ?_
        refine lv_goto (tgt := 47) hx hb dX7_plugsBy_43 (by decide) ?_
        refine n_iast (n := 5) hx hb hK.1 hP hD hS 1 0 rfl rfl (by omega) (by decide) dX7_plugsBy_47 (fun H locs hP hD hS => ?_)
        have hP : va_P D vwCl (W_M cI cS mA mf mn ml (updI mk1 f (mhk f)) mg1 mls ms mra mrf mrk mrg mrl mrs mo moo moa mp mpp mfi mpl mpo mro mdp mdf mhg mhk mR mRf mRo mss msl msh mha mt) H := hP
        have hD : va_D A (W_M cI cS mA mf mn ml (updI mk1 f (mhk f)) mg1 mls ms mra mrf mrk mrg mrl mrs mo moo moa mp mpp mfi mpl mpo mro mdp mdf mhg mhk mR mRf mRo mss msl msh mha mt) := hD
        refine lv_aload_n hx hb dX7_plugsBy_48 rfl (lv_at hl 4 rfl) ?_
        refine va_get (D := D) (ci := 7) (v := .ref (mA 2)) (C := RX7) (T := TX7) (N := 34) hx hb hts iw_7 hown hK.1 hP 0 rfl rfl 4 (by decide) fl_13 (fun _ h9 => h9) rfl dX7_plugsBy_49 ?_
        refine lv_iload hx hb dX7_plugsBy_52 (lv_at hl 2 rfl) ?_
        refine lv_iload hx hb dX7_plugsBy_54 (lv_at hl 1 rfl) ?_
        refine n_if_ne (tgt := 69) hx hb dX7_plugsBy_56 (by decide) (by omega) (fun c_7 => ?_) (fun c_7 => ?_)
        · exact False.elim (by first | contradiction | omega)
        ·
          refine lv_aload_n hx hb dX7_plugsBy_59 rfl (lv_at hl 4 rfl) ?_
          refine va_get (D := D) (ci := 7) (v := .ref (mA 14)) (C := RX7) (T := TX7) (N := 34) hx hb hts iw_7 hown hK.1 hP 0 rfl rfl 24 (by decide) fl_49 (fun _ h9 => h9) rfl dX7_plugsBy_60 ?_
          refine lv_iload hx hb dX7_plugsBy_63 (lv_at hl 2 rfl) ?_
          refine n_iald (n := 5) hx hb hK.1 hP 14 0 rfl rfl (by omega) (by decide) dX7_plugsBy_65 ?_
          refine lv_goto (tgt := 73) hx hb dX7_plugsBy_66 (by decide) ?_
          refine n_iast (n := 5) hx hb hK.1 hP hD hS 2 0 rfl rfl (by omega) (by decide) dX7_plugsBy_73 (fun H locs hP hD hS => ?_)
          have hP : va_P D vwCl (W_M cI cS mA mf mn ml (updI mk1 f (mhk f)) (updI mg1 f (mhg f)) mls ms mra mrf mrk mrg mrl mrs mo moo moa mp mpp mfi mpl mpo mro mdp mdf mhg mhk mR mRf mRo mss msl msh mha mt) H := hP
          have hD : va_D A (W_M cI cS mA mf mn ml (updI mk1 f (mhk f)) (updI mg1 f (mhg f)) mls ms mra mrf mrk mrg mrl mrs mo moo moa mp mpp mfi mpl mpo mro mdp mdf mhg mhk mR mRf mRo mss msl msh mha mt) := hD
          refine lv_iload_n hx hb dX7_plugsBy_74 rfl (lv_at hl 3 rfl) ?_
          refine lv_iload hx hb dX7_plugsBy_75 (lv_at hl 1 rfl) ?_
          refine n_if_ne (tgt := 84) hx hb dX7_plugsBy_77 (by decide) (by omega) (fun c_8 => ?_) (fun c_8 => ?_)
          · exact False.elim (by first | contradiction | omega)
          ·
            refine lv_iconst (v := iI 0) hx hb dX7_plugsBy_80 (by decide +kernel) ?_
            refine lv_goto (tgt := 85) hx hb dX7_plugsBy_81 (by decide) ?_
            refine n_iadd hx hb dX7_plugsBy_85 ?_
            refine lv_istore_n (lv' := [(3, .int (iI (mny + 0))), (2, .int (iI (lf / 5))), (5, .int (iI (lf % 5))), (4, .int (iI f)), (0, .ref (mA 0)), (1, .int (iI x))]) hx hb dX7_plugsBy_86 rfl hl (by decide) rfl (fun ls hl => ?_)
            refine n_iinc (lv' := [(4, .int (iI (f + 1))), (3, .int (iI (mny + 0))), (2, .int (iI (lf / 5))), (5, .int (iI (lf % 5))), (0, .ref (mA 0)), (1, .int (iI x))]) hx hb dX7_plugsBy_87 hl (k := 3) rfl (by decide) rfl (fun ls hl => ?_)
            refine lv_goto (tgt := 7) hx hb dX7_plugsBy_90 (by decide) ?_
            exact ih_2 ((lf / 5), (mny + 0), (f + 1), (updI mk1 f (mhk f)), (updI mg1 f (mhg f))) (by (try dsimp only); exact ⟨by omega, by rw [show (f + 1).toNat = f.toNat + 1 by omega]; show lf / 5 = dv f.toNat x / 5; rw [hlf], by omega, by rw [show (f + 1).toNat = f.toNat + 1 by omega, costN_snoc, ← hm, show (0 : Int) + (f.toNat : Int) = f by omega, hdf]; omega, fun j a b => by
                by_cases e : j = f
                · rw [e, updI_s, updI_s, hdf]; unfold chK chG; first | (rw [if_pos (by omega), if_pos (by omega)]; exact ⟨rfl, rfl⟩) | (rw [if_neg (by omega), if_neg (by omega)]; exact ⟨rfl, rfl⟩)
                · rw [updI_n e, updI_n e]; exact hd1 j a (by omega)⟩) (by (try dsimp only); exact (by omega)) _ _ _ hP hD hS (lv_sub hl [0, 1, 2, 4, 5] rfl)
set_option maxHeartbeats 4000000 in
set_option maxRecDepth 100000 in
theorem c_X7_plugs (l : Launch) (D : va_G) (cI cS : ClassId) (mA : Nat → Nat) (mf : Int) (mn : Int) (ml : Int) (mk : Int → Int) (mg : Int → Int) (mls : Int → Int) (ms : Int → Int) (mra : Int) (mrf : Int) (mrk : Int → Int) (mrg : Int → Int) (mrl : Int → Int) (mrs : Int → Int) (mo : Int) (moo : Int → Int) (moa : Int → Int) (mp : Int) (mpp : Int → Int) (mfi : Int) (mpl : Int) (mpo : Int → Int) (mro : Int → Int) (mdp : Int) (mdf : Int) (mhg : Int → Int) (mhk : Int → Int) (mR : Int) (mRf : Int → Int) (mRo : Int → Int) (mss : Int → Int) (msl : Int → Int) (msh : Int → Int) (mha : Int → Int) (mt : Int) (sz : Nat) (f : Int) (hok : okP mn mls ms) (hkk : okK mn mk mg ml) (hfr : -2147483648 ≤ f ∧ f < 2147483648) : Met l yX7_plugs wsX7_plugs ({ frames := 4, cells := 0, slots := 0, locals := 89 }) (cP D cI cS (W_M cI cS mA mf mn ml mk mg mls ms mra mrf mrk mrg mrl mrs mo moo moa mp mpp mfi mpl mpo mro mdp mdf mhg mhk mR mRf mRo mss msl msh mha mt) sz [.ref (mA 0), .int (iI f)]) (va_Qi (fun (r : Int32) (u : Int × (Int → Int) × (Int → Int) × Int × (Int → Int) × Int × Int × (Int → Int) × (Int → Int) × (Int → Int) × (Int → Int) × (Int → Int)) => ∃ z : Int, r = iI z ∧ ((z = -1 ∧ ¬ (0 ≤ f ∧ f < mn)) ∨ ((0 ≤ f ∧ f < mn) ∧ plugsR mn ml mk mg mls ms f z)) ∧ (∀ j : Int, 0 ≤ j → j < mn → u.2.2.2.2.2.2.2.2.1 j = mk j ∧ u.2.2.2.2.2.2.2.2.2.1 j = mg j)) (fun (u : Int × (Int → Int) × (Int → Int) × Int × (Int → Int) × Int × Int × (Int → Int) × (Int → Int) × (Int → Int) × (Int → Int) × (Int → Int)) t => cB D (va_A (W_M cI cS mA mf mn ml mk mg mls ms mra mrf mrk mrg mrl mrs mo moo moa mp mpp mfi mpl mpo mro mdp mdf mhg mhk mR mRf mRo mss msl msh mha mt) sz) (W_M cI cS mA mf mn ml u.2.2.2.2.2.2.2.2.1 u.2.2.2.2.2.2.2.2.2.1 mls ms mra mrf mrk mrg mrl mrs u.1 u.2.1 u.2.2.1 u.2.2.2.1 u.2.2.2.2.1 u.2.2.2.2.2.1 u.2.2.2.2.2.2.1 u.2.2.2.2.2.2.2.1 mro mdp mdf u.2.2.2.2.2.2.2.2.2.2.2 u.2.2.2.2.2.2.2.2.2.2.1 mR mRf mRo mss msl msh mha mt) t) (va_A (W_M cI cS mA mf mn ml mk mg mls ms mra mrf mrk mrg mrl mrs mo moo moa mp mpp mfi mpl mpo mro mdp mdf mhg mhk mR mRf mRo mss msl msh mha mt) sz)) 0 0 (va_A (W_M cI cS mA mf mn ml mk mg mls ms mra mrf mrk mrg mrl mrs mo moo moa mp mpp mfi mpl mpo mro mdp mdf mhg mhk mR mRf mRo mss msl msh mha mt) sz) := by
  refine Met.ofW (cc := cX7_plugs) (maxL := 7) (ret := (some .int)) (by decide) rfl ?_
  intro p e s m args below meth c_ s₁ B hml hv
  obtain ⟨rfl, hsz, hP, hK, hD0⟩ := hv
  have hx := B.exec
  have hb := B.bytes
  have hr := B.returns
  have hts := atoms_spec (ws := wsX7_plugs) B.pre
  have hown : s.vm.findClass RX7 = some m.cls := findClass_of_methodNamed B.named
  have hlocks := B.notSynchronized
  subst hsz
  have hD := hD0.self (sz := s.heap.size)
  generalize hAe : va_A (W_M cI cS mA mf mn ml mk mg mls ms mra mrf mrk mrg mrl mrs mo moo moa mp mpp mfi mpl mpo mro mdp mdf mhg mhk mR mRf mRo mss msl msh mha mt) s.heap.size = A at hD ⊢
  have hA : ∀ q : Nat, s.heap.size ≤ q → A q := fun q h => by rw [← hAe]; exact Or.inr h
  have hS : va_S A s.heap s.heap [] := va_S.rf
  have hP : va_P D vwCl (W_M cI cS mA mf mn ml mk mg mls ms mra mrf mrk mrg mrl mrs mo moo moa mp mpp mfi mpl mpo mro mdp mdf mhg mhk mR mRf mRo mss msl msh mha mt) s.heap := hP
  have hl := lv_entry ([.ref (mA 0), .int (iI f)] : List Value) (n := 7) (Nat.le_of_ble_eq_true rfl)
  rw [lg_entry_eq]
  generalize (lg_sl ([.ref (mA 0), .int (iI f)] : List Value) ++ List.replicate (7 - (lg_sl ([.ref (mA 0), .int (iI f)] : List Value)).length) Slot.unset).toArray = ls at hl ⊢
  have hl : lv_has ls 7 [(0, .ref (mA 0)), (1, .int (iI f))] := hl
  have fl_83 := hts (.fieldLink RX7 83 "ActRowsModel" "functions" "I") (by decide +kernel)
  have iw_7 : ∀ w ∈ wsX70, w ∈ wsX7_plugs := by decide +kernel
  have fl_7 := hts (.fieldLink RX7 7 "ActRowsModel" "kindOf" "[I") (by decide +kernel)
  have fl_52 := hts (.fieldLink RX7 52 "ActRowsModel" "hadKind" "[I") (by decide +kernel)
  have fl_13 := hts (.fieldLink RX7 13 "ActRowsModel" "guardOf" "[I") (by decide +kernel)
  have fl_49 := hts (.fieldLink RX7 49 "ActRowsModel" "hadGuard" "[I") (by decide +kernel)
  have hmn := hok.1
  have hln := hok.2.1
  refine lv_aload_n hx hb dX7_plugs_0 rfl (lv_at hl 0 rfl) ?_
  refine lv_iload_n hx hb dX7_plugs_1 rfl (lv_at hl 1 rfl) ?_
  refine x_callVi (As := [.int (iI f)]) (rest := []) ⟨hx, hb, hml, hown, hts⟩ (c_X7_noFunction l D cI cS mA mf mn ml mk mg mls ms mra mrf mrk mrg mrl mrs mo moo moa mp mpp mfi mpl mpo mro mdp mdf mhg mhk mR mRf mRo mss msl msh mha mt s.heap.size f (by first | assumption | omega) (by first | assumption | omega)) (cwV 1 hts gX7_plugs_X7_noFunction rfl rfl rfl (by decide +kernel) ⟨Nat.le_of_ble_eq_true rfl, Nat.le_of_ble_eq_true rfl⟩) hK hP hD hS hA [0, 1, 2, 3, 4, 5, 6, 7, 8, 9, 10, 11, 12, 13, 14, 15, 16, 17, 18, 19, 20, 21] [] (wr := ([] : va_W)) rfl rfl (by decide) (by decide) (by decide) 0 7 rfl rfl rfl [0, 1, 2, 3, 4, 5, 6, 7, 8, 9, 10, 11, 12, 13, 14, 15, 16, 17, 18, 19, 20, 21] (fun (u : Unit) => (W_M cI cS mA mf mn ml mk mg mls ms mra mrf mrk mrg mrl mrs mo moo moa mp mpp mfi mpl mpo mro mdp mdf mhg mhk mR mRf mRo mss msl msh mha mt)) (fun _ => rfl) (by decide) rfl hl.1 rfl (Nat.le_of_ble_eq_true rfl) ⟨Nat.zero_le _, Nat.zero_le _⟩ dX7_plugs_2 (fun r_ u_ H locs hw hP hD hS => ?_)
  try dsimp only at hw
  subst hw
  have hP : va_P D vwCl (W_M cI cS mA mf mn ml mk mg mls ms mra mrf mrk mrg mrl mrs mo moo moa mp mpp mfi mpl mpo mro mdp mdf mhg mhk mR mRf mRo mss msl msh mha mt) H := hP
  have hD : va_D A (W_M cI cS mA mf mn ml mk mg mls ms mra mrf mrk mrg mrl mrs mo moo moa mp mpp mfi mpl mpo mro mdp mdf mhg mhk mR mRf mRo mss msl msh mha mt) := hD
  refine n_if_b1 (tgt := 10) hx hb dX7_plugs_5 (by decide)  (fun c_1 => ?_) (fun c_1 => ?_)
  ·
    have hf : 0 ≤ f ∧ f < mn := by omega
    refine lv_iconst (v := iI 1) hx hb dX7_plugs_10 (by decide +kernel) ?_
    refine lv_istore_n (lv' := [(2, .int (iI 1)), (0, .ref (mA 0)), (1, .int (iI f))]) hx hb dX7_plugs_11 rfl hl (by decide) rfl (fun ls hl => ?_)
    refine lv_iconst (v := iI 0) hx hb dX7_plugs_12 (by decide +kernel) ?_
    refine lv_istore_n (lv' := [(3, .int (iI 0)), (2, .int (iI 1)), (0, .ref (mA 0)), (1, .int (iI f))]) hx hb dX7_plugs_13 rfl hl (by decide) rfl (fun ls hl => ?_)
    refine x_loop (σ := Int × Int × (Int → Int) × (Int → Int)) (fun (xv_ : Int × Int × (Int → Int) × (Int → Int)) => match xv_ with | (al, x, mhk1, mhg1) => (0 ≤ x ∧ x ≤ mn) ∧ (al = p5 x.toNat) ∧ (1 ≤ al ∧ (x = 0 → al = 1) ∧ (x = 1 → al = 5) ∧ (x = 2 → al = 25) ∧ (x = 3 → al = 125) ∧ (x = 4 → al = 625) ∧ (x = 5 → al = 3125)) ∧ (∀ j : Int, 0 ≤ j → j < x → mhk1 j = mk j ∧ mhg1 j = mg j)) (fun (xv_ : Int × Int × (Int → Int) × (Int → Int)) => match xv_ with | (al, x, mhk1, mhg1) => (mn - x).toNat) (fun (xv_ : Int × Int × (Int → Int) × (Int → Int)) => match xv_ with | (al, x, mhk1, mhg1) => (W_M cI cS mA mf mn ml mk mg mls ms mra mrf mrk mrg mrl mrs mo moo moa mp mpp mfi mpl mpo mro mdp mdf mhg1 mhk1 mR mRf mRo mss msl msh mha mt)) (fun (xv_ : Int × Int × (Int → Int) × (Int → Int)) => match xv_ with | (al, x, mhk1, mhg1) => [(3, .int (iI x)), (2, .int (iI al)), (0, .ref (mA 0)), (1, .int (iI f))]) (nL := 7) ?step_2 (1, 0, mhk, mhg) (by (try dsimp only); exact ⟨by omega, rfl, by omega, fun j a b => absurd b (by omega)⟩) hP hD hS (lv_sub hl [0, 1, 2, 3] rfl)
    case step_2 =>
      intro xv_ hI ih H locs ls hP hD hS hl
      obtain ⟨al, x, mhk1, mhg1⟩ := xv_
      try dsimp only at hI ih
      obtain ⟨hs_, hall0, halr, hhad0⟩ := hI
      have hP : va_P D vwCl (W_M cI cS mA mf mn ml mk mg mls ms mra mrf mrk mrg mrl mrs mo moo moa mp mpp mfi mpl mpo mro mdp mdf mhg1 mhk1 mR mRf mRo mss msl msh mha mt) H := hP
      have hD : va_D A (W_M cI cS mA mf mn ml mk mg mls ms mra mrf mrk mrg mrl mrs mo moo moa mp mpp mfi mpl mpo mro mdp mdf mhg1 mhk1 mR mRf mRo mss msl msh mha mt) := hD
      have hl : lv_has ls 7 [(3, .int (iI x)), (2, .int (iI al)), (0, .ref (mA 0)), (1, .int (iI f))] := hl
      have ih_3 := ih
      refine lv_iload_n hx hb dX7_plugs_14 rfl (lv_at hl 0 rfl) ?_
      refine lv_aload_n hx hb dX7_plugs_15 rfl (lv_at hl 2 rfl) ?_
      refine va_get (D := D) (ci := 7) (v := .int (iI mn)) (C := RX7) (T := TX7) (N := 34) hx hb hts iw_7 hown hK.1 hP 0 rfl rfl 1 (by decide) fl_83 (fun _ h9 => h9) rfl dX7_plugs_16 ?_
      refine n_icmp_ge (tgt := 56) hx hb dX7_plugs_19 (by decide) (by omega) (fun c_4 => ?_) (fun c_4 => ?_)
      ·
        have hall : al = p5 mn.toNat := by rw [hall0, show x = mn by omega]
        have hal5 : 1 ≤ al ∧ al ≤ 3125 := by omega
        have hhad : ∀ j : Int, 0 ≤ j → j < mn → mhk1 j = mk j ∧ mhg1 j = mg j := fun j a b => hhad0 j a (by omega)
        refine lv_bipush (v := iI (-9)) hx hb dX7_plugs_56 (by decide +kernel) ?_
        refine lv_istore_n (lv' := [(3, .int (iI (-9))), (2, .int (iI al)), (0, .ref (mA 0)), (1, .int (iI f))]) hx hb dX7_plugs_58 rfl hl (by decide) rfl (fun ls hl => ?_)
        refine lv_iconst (v := iI 0) hx hb dX7_plugs_59 (by decide +kernel) ?_
        refine lv_istore (lv' := [(4, .int (iI 0)), (3, .int (iI (-9))), (2, .int (iI al)), (0, .ref (mA 0)), (1, .int (iI f))]) hx hb dX7_plugs_60 hl (by decide) rfl (fun ls hl => ?_)
        refine x_loop (σ := Int × Int × (Int → Int) × (Int → Int) × Int × (Int → Int) × (Int → Int) × Int × (Int → Int) × Int × Int × (Int → Int)) (fun (xv_ : Int × Int × (Int → Int) × (Int → Int) × Int × (Int → Int) × (Int → Int) × Int × (Int → Int) × Int × Int × (Int → Int)) => match xv_ with | (fw, x, mk1, mg1, mo9, moo9, moa9, mp9, mpp9, mfi9, mpl9, mpo9) => (0 ≤ x ∧ x ≤ al) ∧ (-9 ≤ fw ∧ fw ≤ 100) ∧ (plI mn ml mk mg mls ms f x fw)) (fun (xv_ : Int × Int × (Int → Int) × (Int → Int) × Int × (Int → Int) × (Int → Int) × Int × (Int → Int) × Int × Int × (Int → Int)) => match xv_ with | (fw, x, mk1, mg1, mo9, moo9, moa9, mp9, mpp9, mfi9, mpl9, mpo9) => (al - x).toNat) (fun (xv_ : Int × Int × (Int → Int) × (Int → Int) × Int × (Int → Int) × (Int → Int) × Int × (Int → Int) × Int × Int × (Int → Int)) => match xv_ with | (fw, x, mk1, mg1, mo9, moo9, moa9, mp9, mpp9, mfi9, mpl9, mpo9) => (W_M cI cS mA mf mn ml mk1 mg1 mls ms mra mrf mrk mrg mrl mrs mo9 moo9 moa9 mp9 mpp9 mfi9 mpl9 mpo9 mro mdp mdf mhg1 mhk1 mR mRf mRo mss msl msh mha mt)) (fun (xv_ : Int × Int × (Int → Int) × (Int → Int) × Int × (Int → Int) × (Int → Int) × Int × (Int → Int) × Int × Int × (Int → Int)) => match xv_ with | (fw, x, mk1, mg1, mo9, moo9, moa9, mp9, mpp9, mfi9, mpl9, mpo9) => [(4, .int (iI x)), (3, .int (iI fw)), (2, .int (iI al)), (0, .ref (mA 0)), (1, .int (iI f))]) (nL := 7) ?step_5 ((-9), 0, mk, mg, mo, moo, moa, mp, mpp, mfi, mpl, mpo) (by (try dsimp only); exact ⟨by omega, by omega, Or.inl ⟨rfl, fun y a b => absurd b (by omega)⟩⟩) hP hD hS (lv_sub hl [0, 1, 2, 3, 4] rfl)
        case step_5 =>
          intro xv_ hI ih H locs ls hP hD hS hl
          obtain ⟨fw, x, mk1, mg1, mo9, moo9, moa9, mp9, mpp9, mfi9, mpl9, mpo9⟩ := xv_
          try dsimp only at hI ih
          obtain ⟨hs_, hfwr, hpl⟩ := hI
          have hP : va_P D vwCl (W_M cI cS mA mf mn ml mk1 mg1 mls ms mra mrf mrk mrg mrl mrs mo9 moo9 moa9 mp9 mpp9 mfi9 mpl9 mpo9 mro mdp mdf mhg1 mhk1 mR mRf mRo mss msl msh mha mt) H := hP
          have hD : va_D A (W_M cI cS mA mf mn ml mk1 mg1 mls ms mra mrf mrk mrg mrl mrs mo9 moo9 moa9 mp9 mpp9 mfi9 mpl9 mpo9 mro mdp mdf mhg1 mhk1 mR mRf mRo mss msl msh mha mt) := hD
          have hl : lv_has ls 7 [(4, .int (iI x)), (3, .int (iI fw)), (2, .int (iI al)), (0, .ref (mA 0)), (1, .int (iI f))] := hl
          have ih_6 := ih
          refine lv_iload hx hb dX7_plugs_62 (lv_at hl 0 rfl) ?_
          refine lv_iload_n hx hb dX7_plugs_64 rfl (lv_at hl 2 rfl) ?_
          refine n_icmp_ge (tgt := 119) hx hb dX7_plugs_65 (by decide) (by omega) (fun c_7 => ?_) (fun c_7 => ?_)
          ·
            have hfin := plI_fin hok hf.1 hf.2 (by rw [← hall, ← show x = al by omega]; exact hpl)
            refine lv_iconst (v := iI 0) hx hb dX7_plugs_119 (by decide +kernel) ?_
            refine lv_istore (lv' := [(4, .int (iI 0)), (3, .int (iI fw)), (2, .int (iI al)), (0, .ref (mA 0)), (1, .int (iI f))]) hx hb dX7_plugs_120 hl (by decide) rfl (fun ls hl => ?_)
            refine x_loop (σ := Int × (Int → Int) × (Int → Int)) (fun (xv_ : Int × (Int → Int) × (Int → Int)) => match xv_ with | (x, mk1, mg1) => (0 ≤ x ∧ x ≤ mn) ∧ (∀ j : Int, 0 ≤ j → j < x → mk1 j = mk j ∧ mg1 j = mg j)) (fun (xv_ : Int × (Int → Int) × (Int → Int)) => match xv_ with | (x, mk1, mg1) => (mn - x).toNat) (fun (xv_ : Int × (Int → Int) × (Int → Int)) => match xv_ with | (x, mk1, mg1) => (W_M cI cS mA mf mn ml mk1 mg1 mls ms mra mrf mrk mrg mrl mrs mo9 moo9 moa9 mp9 mpp9 mfi9 mpl9 mpo9 mro mdp mdf mhg1 mhk1 mR mRf mRo mss msl msh mha mt)) (fun (xv_ : Int × (Int → Int) × (Int → Int)) => match xv_ with | (x, mk1, mg1) => [(4, .int (iI x)), (3, .int (iI fw)), (2, .int (iI al)), (0, .ref (mA 0)), (1, .int (iI f))]) (nL := 7) ?step_8 (0, mk1, mg1) (by (try dsimp only); exact ⟨by omega, fun j a b => absurd b (by omega)⟩) hP hD hS (lv_sub hl [0, 1, 2, 3, 4] rfl)
            case step_8 =>
              intro xv_ hI ih H locs ls hP hD hS hl
              obtain ⟨x, mk1, mg1⟩ := xv_
              try dsimp only at hI ih
              obtain ⟨hs2, hre⟩ := hI
              have hP : va_P D vwCl (W_M cI cS mA mf mn ml mk1 mg1 mls ms mra mrf mrk mrg mrl mrs mo9 moo9 moa9 mp9 mpp9 mfi9 mpl9 mpo9 mro mdp mdf mhg1 mhk1 mR mRf mRo mss msl msh mha mt) H := hP
              have hD : va_D A (W_M cI cS mA mf mn ml mk1 mg1 mls ms mra mrf mrk mrg mrl mrs mo9 moo9 moa9 mp9 mpp9 mfi9 mpl9 mpo9 mro mdp mdf mhg1 mhk1 mR mRf mRo mss msl msh mha mt) := hD
              have hl : lv_has ls 7 [(4, .int (iI x)), (3, .int (iI fw)), (2, .int (iI al)), (0, .ref (mA 0)), (1, .int (iI f))] := hl
              have ih_9 := ih
              refine lv_iload hx hb dX7_plugs_122 (lv_at hl 0 rfl) ?_
              refine lv_aload_n hx hb dX7_plugs_124 rfl (lv_at hl 3 rfl) ?_
              refine va_get (D := D) (ci := 7) (v := .int (iI mn)) (C := RX7) (T := TX7) (N := 34) hx hb hts iw_7 hown hK.1 hP 0 rfl rfl 1 (by decide) fl_83 (fun _ h9 => h9) rfl dX7_plugs_125 ?_
              refine n_icmp_ge (tgt := 165) hx hb dX7_plugs_128 (by decide) (by omega) (fun c_10 => ?_) (fun c_10 => ?_)
              ·
                refine lv_iload_n hx hb dX7_plugs_165 rfl (lv_at hl 1 rfl) ?_
                exact W.iret (v := iI fw) hx hb hr (fun t ht hW => ⟨⟨_, (mo9, moo9, moa9, mp9, mpp9, mfi9, mpl9, mpo9, mk1, mg1, mhk1, mhg1), rfl, ⟨fw, rfl, (by (try dsimp only); exact (Or.inr ⟨hf, hfin⟩)), (by (try dsimp only); exact (fun j a b => hre j a (by omega)))⟩, by rw [ht]; exact hP, hD⟩, hS.F ht⟩) hS.2.2 dX7_plugs_166
              ·
                refine lv_aload_n hx hb dX7_plugs_131 rfl (lv_at hl 3 rfl) ?_
                refine va_get (D := D) (ci := 7) (v := .ref (mA 1)) (C := RX7) (T := TX7) (N := 34) hx hb hts iw_7 hown hK.1 hP 0 rfl rfl 3 (by decide) fl_7 (fun _ h9 => h9) rfl dX7_plugs_132 ?_
                refine lv_iload hx hb dX7_plugs_135 (lv_at hl 0 rfl) ?_
                refine lv_aload_n hx hb dX7_plugs_137 rfl (lv_at hl 3 rfl) ?_
                refine va_get (D := D) (ci := 7) (v := .ref (mA 15)) (C := RX7) (T := TX7) (N := 34) hx hb hts iw_7 hown hK.1 hP 0 rfl rfl 25 (by decide) fl_52 (fun _ h9 => h9) rfl dX7_plugs_138 ?_
                refine lv_iload hx hb dX7_plugs_141 (lv_at hl 0 rfl) ?_
                refine n_iald (n := 5) hx hb hK.1 hP 15 0 rfl rfl (by omega) (by decide) dX7_plugs_143 ?_
                refine n_iast (n := 5) hx hb hK.1 hP hD hS 1 0 rfl rfl (by omega) (by decide) dX7_plugs_144 (fun H locs hP hD hS => ?_)
                have hP : va_P D vwCl (W_M cI cS mA mf mn ml (updI mk1 x (mhk1 x)) mg1 mls ms mra mrf mrk mrg mrl mrs mo9 moo9 moa9 mp9 mpp9 mfi9 mpl9 mpo9 mro mdp mdf mhg1 mhk1 mR mRf mRo mss msl msh mha mt) H := hP
                have hD : va_D A (W_M cI cS mA mf mn ml (updI mk1 x (mhk1 x)) mg1 mls ms mra mrf mrk mrg mrl mrs mo9 moo9 moa9 mp9 mpp9 mfi9 mpl9 mpo9 mro mdp mdf mhg1 mhk1 mR mRf mRo mss msl msh mha mt) := hD
                refine lv_aload_n hx hb dX7_plugs_145 rfl (lv_at hl 3 rfl) ?_
                refine va_get (D := D) (ci := 7) (v := .ref (mA 2)) (C := RX7) (T := TX7) (N := 34) hx hb hts iw_7 hown hK.1 hP 0 rfl rfl 4 (by decide) fl_13 (fun _ h9 => h9) rfl dX7_plugs_146 ?_
                refine lv_iload hx hb dX7_plugs_149 (lv_at hl 0 rfl) ?_
                refine lv_aload_n hx hb dX7_plugs_151 rfl (lv_at hl 3 rfl) ?_
                refine va_get (D := D) (ci := 7) (v := .ref (mA 14)) (C := RX7) (T := TX7) (N := 34) hx hb hts iw_7 hown hK.1 hP 0 rfl rfl 24 (by decide) fl_49 (fun _ h9 => h9) rfl dX7_plugs_152 ?_
                refine lv_iload hx hb dX7_plugs_155 (lv_at hl 0 rfl) ?_
                refine n_iald (n := 5) hx hb hK.1 hP 14 0 rfl rfl (by omega) (by decide) dX7_plugs_157 ?_
                refine n_iast (n := 5) hx hb hK.1 hP hD hS 2 0 rfl rfl (by omega) (by decide) dX7_plugs_158 (fun H locs hP hD hS => ?_)
                have hP : va_P D vwCl (W_M cI cS mA mf mn ml (updI mk1 x (mhk1 x)) (updI mg1 x (mhg1 x)) mls ms mra mrf mrk mrg mrl mrs mo9 moo9 moa9 mp9 mpp9 mfi9 mpl9 mpo9 mro mdp mdf mhg1 mhk1 mR mRf mRo mss msl msh mha mt) H := hP
                have hD : va_D A (W_M cI cS mA mf mn ml (updI mk1 x (mhk1 x)) (updI mg1 x (mhg1 x)) mls ms mra mrf mrk mrg mrl mrs mo9 moo9 moa9 mp9 mpp9 mfi9 mpl9 mpo9 mro mdp mdf mhg1 mhk1 mR mRf mRo mss msl msh mha mt) := hD
                refine n_iinc (lv' := [(4, .int (iI (x + 1))), (3, .int (iI fw)), (2, .int (iI al)), (0, .ref (mA 0)), (1, .int (iI f))]) hx hb dX7_plugs_159 hl (k := 0) rfl (by decide) rfl (fun ls hl => ?_)
                refine lv_goto (tgt := 122) hx hb dX7_plugs_162 (by decide) ?_
                exact ih_9 ((x + 1), (updI mk1 x (mhk1 x)), (updI mg1 x (mhg1 x))) (by (try dsimp only); exact ⟨by omega, fun j a b => by
                by_cases e : j = x
                · rw [e, updI_s, updI_s]; exact hhad x (by omega) (by omega)
                · rw [updI_n e, updI_n e]; exact hre j a (by omega)⟩) (by (try dsimp only); exact (by omega)) _ _ _ hP hD hS (lv_sub hl [0, 1, 2, 3, 4] rfl)
          ·
            refine lv_aload_n hx hb dX7_plugs_68 rfl (lv_at hl 3 rfl) ?_
            refine lv_iload hx hb dX7_plugs_69 (lv_at hl 0 rfl) ?_
            refine x_callVi (As := [.int (iI x)]) (rest := []) ⟨hx, hb, hml, hown, hts⟩ (c_X7_plugsBy l D cI cS mA mf mn ml mk1 mg1 mls ms mra mrf mrk mrg mrl mrs mo9 moo9 moa9 mp9 mpp9 mfi9 mpl9 mpo9 mro mdp mdf mhg1 mhk1 mR mRf mRo mss msl msh mha mt H.size x (by first | assumption | omega) (by omega)) (cwV 1 hts gX7_plugs_X7_plugsBy rfl rfl rfl (by decide +kernel) ⟨Nat.le_of_ble_eq_true rfl, Nat.le_of_ble_eq_true rfl⟩) hK hP hD hS hA [0, 1, 2, 3, 4, 5, 6, 7, 8, 9, 10, 11, 12, 13, 14, 15, 16, 17, 18, 19, 20, 21] [] (wr := ([] : va_W)) rfl rfl (by decide) (by decide) (by decide) 0 7 rfl rfl rfl [0, 1, 2, 3, 4, 5, 6, 7, 8, 9, 10, 11, 12, 13, 14, 15, 16, 17, 18, 19, 20, 21] (fun (u : (Int → Int) × (Int → Int)) => (W_M cI cS mA mf mn ml u.1 u.2 mls ms mra mrf mrk mrg mrl mrs mo9 moo9 moa9 mp9 mpp9 mfi9 mpl9 mpo9 mro mdp mdf mhg1 mhk1 mR mRf mRo mss msl msh mha mt)) (fun _ => rfl) (by decide) rfl hl.1 rfl (Nat.le_of_ble_eq_true rfl) ⟨Nat.zero_le _, Nat.zero_le _⟩ dX7_plugs_71 (fun r_ u_ H locs hw hP hD hS => ?_)
            obtain ⟨mk3, mg3⟩ := u_
            try dsimp only at hw
            obtain ⟨rfl, hd2⟩ := hw
            have hP : va_P D vwCl (W_M cI cS mA mf mn ml mk3 mg3 mls ms mra mrf mrk mrg mrl mrs mo9 moo9 moa9 mp9 mpp9 mfi9 mpl9 mpo9 mro mdp mdf mhg1 mhk1 mR mRf mRo mss msl msh mha mt) H := hP
            have hD : va_D A (W_M cI cS mA mf mn ml mk3 mg3 mls ms mra mrf mrk mrg mrl mrs mo9 moo9 moa9 mp9 mpp9 mfi9 mpl9 mpo9 mro mdp mdf mhg1 mhk1 mR mRf mRo mss msl msh mha mt) := hD
            obtain ⟨cst, h_cst⟩ : ∃ z_ : Int, z_ = (costN (dg x) 0 mn.toNat) := ⟨_, rfl⟩
            rw [← h_cst]
            have hcr := costN_nn (dg x) mn.toNat 0
            rw [← h_cst] at hcr
            have hd3 : ∀ j : Int, 0 ≤ j → j < mn → mk3 j = chK (mk j) (dg x j) ∧ mg3 j = chG (mg j) (dg x j) := fun j a b => by rw [(hd2 j a b).1, (hd2 j a b).2, (hhad j a b).1, (hhad j a b).2]; exact ⟨rfl, rfl⟩
            have hko3 : okK mn mk3 mg3 ml := ⟨fun j a b => by
              rw [(hd3 j a b).1, (hd3 j a b).2]; have q := hkk.1 j a b; have q2 := dg_PCh x j; unfold chK chG
              by_cases e : dg x j = 0
              · rw [if_pos e, if_pos e]; exact q
              · rw [if_neg e, if_neg e]; omega, hkk.2⟩
            have hout : (sem mk3 mg3 ml mls ms f).1 = outM 0 mk mg mk mg ml mls ms f (dg x) := by
              unfold outM
              rw [sem_pre hok hf.1 hf.2 (K' := mixK 0 mk mk (dg x)) (G' := mixG 0 mg mg (dg x)) (fun j a b => ?_)]
              unfold mixK mixG
              rw [if_neg (by omega), if_neg (by omega)]; exact hd3 j a (by omega)
            have hor := (sem_ok (K := mk3) (G := mg3) (L := ml) hok f hf.1 hf.2).1
            refine lv_istore (lv' := [(5, .int (iI cst)), (4, .int (iI x)), (3, .int (iI fw)), (2, .int (iI al)), (0, .ref (mA 0)), (1, .int (iI f))]) hx hb dX7_plugs_74 hl (by decide) rfl (fun ls hl => ?_)
            refine lv_iload_n hx hb dX7_plugs_76 rfl (lv_at hl 2 rfl) ?_
            refine n_if_lt (tgt := 86) hx hb dX7_plugs_77 (by decide) (by omega) (fun c_11 => ?_) (fun c_11 => ?_)
            ·
              refine lv_iconst (v := iI 1) hx hb dX7_plugs_86 (by decide +kernel) ?_
              refine lv_goto (tgt := 91) hx hb dX7_plugs_87 (by decide) ?_
              refine lv_istore (lv' := [(6, .int (iI 1)), (5, .int (iI cst)), (4, .int (iI x)), (3, .int (iI fw)), (2, .int (iI al)), (0, .ref (mA 0)), (1, .int (iI f))]) hx hb dX7_plugs_91 hl (by decide) rfl (fun ls hl => ?_)
              refine lv_iload hx hb dX7_plugs_93 (lv_at hl 0 rfl) ?_
              refine n_if_eq (tgt := 111) hx hb dX7_plugs_95 (by decide) (by omega) (fun c_12 => ?_) (fun c_12 => ?_)
              · exact False.elim (by first | contradiction | omega)
              ·
                refine lv_aload_n hx hb dX7_plugs_98 rfl (lv_at hl 5 rfl) ?_
                refine lv_iload_n hx hb dX7_plugs_99 rfl (lv_at hl 6 rfl) ?_
                refine x_callVi (As := [.int (iI f)]) (rest := []) ⟨hx, hb, hml, hown, hts⟩ (c_X7_runs l D cI cS mA mf mn ml mk3 mg3 mls ms mra mrf mrk mrg mrl mrs mo9 moo9 moa9 mp9 mpp9 mfi9 mpl9 mpo9 mro mdp mdf mhg1 mhk1 mR mRf mRo mss msl msh mha mt H.size f (by first | assumption | omega) hko3 (by first | assumption | omega)) (cwV 1 hts gX7_plugs_X7_runs rfl rfl rfl (by decide +kernel) ⟨Nat.le_of_ble_eq_true rfl, Nat.le_of_ble_eq_true rfl⟩) hK hP hD hS hA [0, 1, 2, 3, 4, 5, 6, 7, 8, 9, 10, 11, 12, 13, 14, 15, 16, 17, 18, 19, 20, 21] [] (wr := ([] : va_W)) rfl rfl (by decide) (by decide) (by decide) 0 7 rfl rfl rfl [0, 1, 2, 3, 4, 5, 6, 7, 8, 9, 10, 11, 12, 13, 14, 15, 16, 17, 18, 19, 20, 21] (fun (u : Int × (Int → Int) × (Int → Int) × Int × (Int → Int) × Int × Int × (Int → Int)) => (W_M cI cS mA mf mn ml mk3 mg3 mls ms mra mrf mrk mrg mrl mrs u.1 u.2.1 u.2.2.1 u.2.2.2.1 u.2.2.2.2.1 u.2.2.2.2.2.1 u.2.2.2.2.2.2.1 u.2.2.2.2.2.2.2 mro mdp mdf mhg1 mhk1 mR mRf mRo mss msl msh mha mt)) (fun _ => rfl) (by decide) rfl hl.1 rfl (Nat.le_of_ble_eq_true rfl) ⟨Nat.zero_le _, Nat.zero_le _⟩ dX7_plugs_100 (fun r_ u_ H locs hw hP hD hS => ?_)
                obtain ⟨mo_13, moo_14, moa_15, mp_16, mpp_17, mfi_18, mpl_19, mpo_20⟩ := u_
                try dsimp only at hw
                obtain ⟨z2, rfl, hz2, hp_21, he_22, hl_23⟩ := hw
                have hP : va_P D vwCl (W_M cI cS mA mf mn ml mk3 mg3 mls ms mra mrf mrk mrg mrl mrs mo_13 moo_14 moa_15 mp_16 mpp_17 mfi_18 mpl_19 mpo_20 mro mdp mdf mhg1 mhk1 mR mRf mRo mss msl msh mha mt) H := hP
                have hD : va_D A (W_M cI cS mA mf mn ml mk3 mg3 mls ms mra mrf mrk mrg mrl mrs mo_13 moo_14 moa_15 mp_16 mpp_17 mfi_18 mpl_19 mpo_20 mro mdp mdf mhg1 mhk1 mR mRf mRo mss msl msh mha mt) := hD
                refine n_if_ge (tgt := 111) hx hb dX7_plugs_103 (by decide) (by omega) (fun c_24 => ?_) (fun c_24 => ?_)
                ·
                  refine lv_iload_n hx hb dX7_plugs_111 rfl (lv_at hl 3 rfl) ?_
                  refine lv_istore_n (lv' := [(3, .int (iI fw)), (6, .int (iI 1)), (5, .int (iI cst)), (4, .int (iI x)), (2, .int (iI al)), (0, .ref (mA 0)), (1, .int (iI f))]) hx hb dX7_plugs_112 rfl hl (by decide) rfl (fun ls hl => ?_)
                  refine n_iinc (lv' := [(4, .int (iI (x + 1))), (3, .int (iI fw)), (6, .int (iI 1)), (5, .int (iI cst)), (2, .int (iI al)), (0, .ref (mA 0)), (1, .int (iI f))]) hx hb dX7_plugs_113 hl (k := 3) rfl (by decide) rfl (fun ls hl => ?_)
                  refine lv_goto (tgt := 62) hx hb dX7_plugs_116 (by decide) ?_
                  exact ih_6 (fw, (x + 1), mk3, mg3, mo_13, moo_14, moa_15, mp_16, mpp_17, mfi_18, mpl_19, mpo_20) (by (try dsimp only); exact (by
              first
              | exact ⟨by omega, by omega, by rw [h_cst]; exact plI_y hpl hs_.1 (by omega) (by rw [← hout]; omega)⟩
              | exact ⟨by omega, by omega, plI_n hpl hs_.1 (Or.inl (by rw [← hout]; omega))⟩
              | exact ⟨by omega, by omega, plI_n hpl hs_.1 (Or.inr (by omega))⟩)) (by (try dsimp only); exact (by omega)) _ _ _ hP hD hS (lv_sub hl [0, 1, 4, 5, 6] rfl)
                ·
                  refine lv_iload hx hb dX7_plugs_106 (lv_at hl 1 rfl) ?_
                  refine lv_goto (tgt := 112) hx hb dX7_plugs_108 (by decide) ?_
                  refine lv_istore_n (lv' := [(3, .int (iI cst)), (6, .int (iI 1)), (5, .int (iI cst)), (4, .int (iI x)), (2, .int (iI al)), (0, .ref (mA 0)), (1, .int (iI f))]) hx hb dX7_plugs_112 rfl hl (by decide) rfl (fun ls hl => ?_)
                  refine n_iinc (lv' := [(4, .int (iI (x + 1))), (3, .int (iI cst)), (6, .int (iI 1)), (5, .int (iI cst)), (2, .int (iI al)), (0, .ref (mA 0)), (1, .int (iI f))]) hx hb dX7_plugs_113 hl (k := 3) rfl (by decide) rfl (fun ls hl => ?_)
                  refine lv_goto (tgt := 62) hx hb dX7_plugs_116 (by decide) ?_
                  exact ih_6 (cst, (x + 1), mk3, mg3, mo_13, moo_14, moa_15, mp_16, mpp_17, mfi_18, mpl_19, mpo_20) (by (try dsimp only); exact (by
              first
              | exact ⟨by omega, by omega, by rw [h_cst]; exact plI_y hpl hs_.1 (by omega) (by rw [← hout]; omega)⟩
              | exact ⟨by omega, by omega, plI_n hpl hs_.1 (Or.inl (by rw [← hout]; omega))⟩
              | exact ⟨by omega, by omega, plI_n hpl hs_.1 (Or.inr (by omega))⟩)) (by (try dsimp only); exact (by omega)) _ _ _ hP hD hS (lv_sub hl [0, 1, 4, 5, 6] rfl)
            ·
              refine lv_iload hx hb dX7_plugs_80 (lv_at hl 0 rfl) ?_
              refine lv_iload_n hx hb dX7_plugs_82 rfl (lv_at hl 2 rfl) ?_
              refine n_icmp_ge (tgt := 90) hx hb dX7_plugs_83 (by decide) (by have := hfwr; omega) (fun c_25 => ?_) (fun c_25 => ?_)
              ·
                refine lv_iconst (v := iI 0) hx hb dX7_plugs_90 (by decide +kernel) ?_
                refine lv_istore (lv' := [(6, .int (iI 0)), (5, .int (iI cst)), (4, .int (iI x)), (3, .int (iI fw)), (2, .int (iI al)), (0, .ref (mA 0)), (1, .int (iI f))]) hx hb dX7_plugs_91 hl (by decide) rfl (fun ls hl => ?_)
                refine lv_iload hx hb dX7_plugs_93 (lv_at hl 0 rfl) ?_
                refine n_if_eq (tgt := 111) hx hb dX7_plugs_95 (by decide) (by omega) (fun c_26 => ?_) (fun c_26 => ?_)
                ·
                  refine lv_iload_n hx hb dX7_plugs_111 rfl (lv_at hl 3 rfl) ?_
                  refine lv_istore_n (lv' := [(3, .int (iI fw)), (6, .int (iI 0)), (5, .int (iI cst)), (4, .int (iI x)), (2, .int (iI al)), (0, .ref (mA 0)), (1, .int (iI f))]) hx hb dX7_plugs_112 rfl hl (by decide) rfl (fun ls hl => ?_)
                  refine n_iinc (lv' := [(4, .int (iI (x + 1))), (3, .int (iI fw)), (6, .int (iI 0)), (5, .int (iI cst)), (2, .int (iI al)), (0, .ref (mA 0)), (1, .int (iI f))]) hx hb dX7_plugs_113 hl (k := 3) rfl (by decide) rfl (fun ls hl => ?_)
                  refine lv_goto (tgt := 62) hx hb dX7_plugs_116 (by decide) ?_
                  exact ih_6 (fw, (x + 1), mk3, mg3, mo9, moo9, moa9, mp9, mpp9, mfi9, mpl9, mpo9) (by (try dsimp only); exact (by
              first
              | exact ⟨by omega, by omega, by rw [h_cst]; exact plI_y hpl hs_.1 (by omega) (by rw [← hout]; omega)⟩
              | exact ⟨by omega, by omega, plI_n hpl hs_.1 (Or.inl (by rw [← hout]; omega))⟩
              | exact ⟨by omega, by omega, plI_n hpl hs_.1 (Or.inr (by omega))⟩)) (by (try dsimp only); exact (by omega)) _ _ _ hP hD hS (lv_sub hl [0, 1, 4, 5, 6] rfl)
                · exact False.elim (by first | contradiction | omega)
              ·
                refine lv_iconst (v := iI 1) hx hb dX7_plugs_86 (by decide +kernel) ?_
                refine lv_goto (tgt := 91) hx hb dX7_plugs_87 (by decide) ?_
                refine lv_istore (lv' := [(6, .int (iI 1)), (5, .int (iI cst)), (4, .int (iI x)), (3, .int (iI fw)), (2, .int (iI al)), (0, .ref (mA 0)), (1, .int (iI f))]) hx hb dX7_plugs_91 hl (by decide) rfl (fun ls hl => ?_)
                refine lv_iload hx hb dX7_plugs_93 (lv_at hl 0 rfl) ?_
                refine n_if_eq (tgt := 111) hx hb dX7_plugs_95 (by decide) (by omega) (fun c_27 => ?_) (fun c_27 => ?_)
                · exact False.elim (by first | contradiction | omega)
                ·
                  refine lv_aload_n hx hb dX7_plugs_98 rfl (lv_at hl 5 rfl) ?_
                  refine lv_iload_n hx hb dX7_plugs_99 rfl (lv_at hl 6 rfl) ?_
                  refine x_callVi (As := [.int (iI f)]) (rest := []) ⟨hx, hb, hml, hown, hts⟩ (c_X7_runs l D cI cS mA mf mn ml mk3 mg3 mls ms mra mrf mrk mrg mrl mrs mo9 moo9 moa9 mp9 mpp9 mfi9 mpl9 mpo9 mro mdp mdf mhg1 mhk1 mR mRf mRo mss msl msh mha mt H.size f (by first | assumption | omega) hko3 (by first | assumption | omega)) (cwV 1 hts gX7_plugs_X7_runs rfl rfl rfl (by decide +kernel) ⟨Nat.le_of_ble_eq_true rfl, Nat.le_of_ble_eq_true rfl⟩) hK hP hD hS hA [0, 1, 2, 3, 4, 5, 6, 7, 8, 9, 10, 11, 12, 13, 14, 15, 16, 17, 18, 19, 20, 21] [] (wr := ([] : va_W)) rfl rfl (by decide) (by decide) (by decide) 0 7 rfl rfl rfl [0, 1, 2, 3, 4, 5, 6, 7, 8, 9, 10, 11, 12, 13, 14, 15, 16, 17, 18, 19, 20, 21] (fun (u : Int × (Int → Int) × (Int → Int) × Int × (Int → Int) × Int × Int × (Int → Int)) => (W_M cI cS mA mf mn ml mk3 mg3 mls ms mra mrf mrk mrg mrl mrs u.1 u.2.1 u.2.2.1 u.2.2.2.1 u.2.2.2.2.1 u.2.2.2.2.2.1 u.2.2.2.2.2.2.1 u.2.2.2.2.2.2.2 mro mdp mdf mhg1 mhk1 mR mRf mRo mss msl msh mha mt)) (fun _ => rfl) (by decide) rfl hl.1 rfl (Nat.le_of_ble_eq_true rfl) ⟨Nat.zero_le _, Nat.zero_le _⟩ dX7_plugs_100 (fun r_ u_ H locs hw hP hD hS => ?_)
                  obtain ⟨mo_28, moo_29, moa_30, mp_31, mpp_32, mfi_33, mpl_34, mpo_35⟩ := u_
                  try dsimp only at hw
                  obtain ⟨z2, rfl, hz2, hp_36, he_37, hl_38⟩ := hw
                  have hP : va_P D vwCl (W_M cI cS mA mf mn ml mk3 mg3 mls ms mra mrf mrk mrg mrl mrs mo_28 moo_29 moa_30 mp_31 mpp_32 mfi_33 mpl_34 mpo_35 mro mdp mdf mhg1 mhk1 mR mRf mRo mss msl msh mha mt) H := hP
                  have hD : va_D A (W_M cI cS mA mf mn ml mk3 mg3 mls ms mra mrf mrk mrg mrl mrs mo_28 moo_29 moa_30 mp_31 mpp_32 mfi_33 mpl_34 mpo_35 mro mdp mdf mhg1 mhk1 mR mRf mRo mss msl msh mha mt) := hD
                  refine n_if_ge (tgt := 111) hx hb dX7_plugs_103 (by decide) (by omega) (fun c_39 => ?_) (fun c_39 => ?_)
                  ·
                    refine lv_iload_n hx hb dX7_plugs_111 rfl (lv_at hl 3 rfl) ?_
                    refine lv_istore_n (lv' := [(3, .int (iI fw)), (6, .int (iI 1)), (5, .int (iI cst)), (4, .int (iI x)), (2, .int (iI al)), (0, .ref (mA 0)), (1, .int (iI f))]) hx hb dX7_plugs_112 rfl hl (by decide) rfl (fun ls hl => ?_)
                    refine n_iinc (lv' := [(4, .int (iI (x + 1))), (3, .int (iI fw)), (6, .int (iI 1)), (5, .int (iI cst)), (2, .int (iI al)), (0, .ref (mA 0)), (1, .int (iI f))]) hx hb dX7_plugs_113 hl (k := 3) rfl (by decide) rfl (fun ls hl => ?_)
                    refine lv_goto (tgt := 62) hx hb dX7_plugs_116 (by decide) ?_
                    exact ih_6 (fw, (x + 1), mk3, mg3, mo_28, moo_29, moa_30, mp_31, mpp_32, mfi_33, mpl_34, mpo_35) (by (try dsimp only); exact (by
              first
              | exact ⟨by omega, by omega, by rw [h_cst]; exact plI_y hpl hs_.1 (by omega) (by rw [← hout]; omega)⟩
              | exact ⟨by omega, by omega, plI_n hpl hs_.1 (Or.inl (by rw [← hout]; omega))⟩
              | exact ⟨by omega, by omega, plI_n hpl hs_.1 (Or.inr (by omega))⟩)) (by (try dsimp only); exact (by omega)) _ _ _ hP hD hS (lv_sub hl [0, 1, 4, 5, 6] rfl)
                  ·
                    refine lv_iload hx hb dX7_plugs_106 (lv_at hl 1 rfl) ?_
                    refine lv_goto (tgt := 112) hx hb dX7_plugs_108 (by decide) ?_
                    refine lv_istore_n (lv' := [(3, .int (iI cst)), (6, .int (iI 1)), (5, .int (iI cst)), (4, .int (iI x)), (2, .int (iI al)), (0, .ref (mA 0)), (1, .int (iI f))]) hx hb dX7_plugs_112 rfl hl (by decide) rfl (fun ls hl => ?_)
                    refine n_iinc (lv' := [(4, .int (iI (x + 1))), (3, .int (iI cst)), (6, .int (iI 1)), (5, .int (iI cst)), (2, .int (iI al)), (0, .ref (mA 0)), (1, .int (iI f))]) hx hb dX7_plugs_113 hl (k := 3) rfl (by decide) rfl (fun ls hl => ?_)
                    refine lv_goto (tgt := 62) hx hb dX7_plugs_116 (by decide) ?_
                    exact ih_6 (cst, (x + 1), mk3, mg3, mo_28, moo_29, moa_30, mp_31, mpp_32, mfi_33, mpl_34, mpo_35) (by (try dsimp only); exact (by
              first
              | exact ⟨by omega, by omega, by rw [h_cst]; exact plI_y hpl hs_.1 (by omega) (by rw [← hout]; omega)⟩
              | exact ⟨by omega, by omega, plI_n hpl hs_.1 (Or.inl (by rw [← hout]; omega))⟩
              | exact ⟨by omega, by omega, plI_n hpl hs_.1 (Or.inr (by omega))⟩)) (by (try dsimp only); exact (by omega)) _ _ _ hP hD hS (lv_sub hl [0, 1, 4, 5, 6] rfl)
      ·
        refine lv_aload_n hx hb dX7_plugs_22 rfl (lv_at hl 2 rfl) ?_
        refine va_get (D := D) (ci := 7) (v := .ref (mA 15)) (C := RX7) (T := TX7) (N := 34) hx hb hts iw_7 hown hK.1 hP 0 rfl rfl 25 (by decide) fl_52 (fun _ h9 => h9) rfl dX7_plugs_23 ?_
        refine lv_iload_n hx hb dX7_plugs_26 rfl (lv_at hl 0 rfl) ?_
        refine lv_aload_n hx hb dX7_plugs_27 rfl (lv_at hl 2 rfl) ?_
        refine va_get (D := D) (ci := 7) (v := .ref (mA 1)) (C := RX7) (T := TX7) (N := 34) hx hb hts iw_7 hown hK.1 hP 0 rfl rfl 3 (by decide) fl_7 (fun _ h9 => h9) rfl dX7_plugs_28 ?_
        refine lv_iload_n hx hb dX7_plugs_31 rfl (lv_at hl 0 rfl) ?_
        refine n_iald (n := 5) hx hb hK.1 hP 1 0 rfl rfl (by omega) (by decide) dX7_plugs_32 ?_
        refine n_iast (n := 5) hx hb hK.1 hP hD hS 15 0 rfl rfl (by omega) (by decide) dX7_plugs_33 (fun H locs hP hD hS => ?_)
        have hP : va_P D vwCl (W_M cI cS mA mf mn ml mk mg mls ms mra mrf mrk mrg mrl mrs mo moo moa mp mpp mfi mpl mpo mro mdp mdf mhg1 (updI mhk1 x (mk x)) mR mRf mRo mss msl msh mha mt) H := hP
        have hD : va_D A (W_M cI cS mA mf mn ml mk mg mls ms mra mrf mrk mrg mrl mrs mo moo moa mp mpp mfi mpl mpo mro mdp mdf mhg1 (updI mhk1 x (mk x)) mR mRf mRo mss msl msh mha mt) := hD
        refine lv_aload_n hx hb dX7_plugs_34 rfl (lv_at hl 2 rfl) ?_
        refine va_get (D := D) (ci := 7) (v := .ref (mA 14)) (C := RX7) (T := TX7) (N := 34) hx hb hts iw_7 hown hK.1 hP 0 rfl rfl 24 (by decide) fl_49 (fun _ h9 => h9) rfl dX7_plugs_35 ?_
        refine lv_iload_n hx hb dX7_plugs_38 rfl (lv_at hl 0 rfl) ?_
        refine lv_aload_n hx hb dX7_plugs_39 rfl (lv_at hl 2 rfl) ?_
        refine va_get (D := D) (ci := 7) (v := .ref (mA 2)) (C := RX7) (T := TX7) (N := 34) hx hb hts iw_7 hown hK.1 hP 0 rfl rfl 4 (by decide) fl_13 (fun _ h9 => h9) rfl dX7_plugs_40 ?_
        refine lv_iload_n hx hb dX7_plugs_43 rfl (lv_at hl 0 rfl) ?_
        refine n_iald (n := 5) hx hb hK.1 hP 2 0 rfl rfl (by omega) (by decide) dX7_plugs_44 ?_
        refine n_iast (n := 5) hx hb hK.1 hP hD hS 14 0 rfl rfl (by omega) (by decide) dX7_plugs_45 (fun H locs hP hD hS => ?_)
        have hP : va_P D vwCl (W_M cI cS mA mf mn ml mk mg mls ms mra mrf mrk mrg mrl mrs mo moo moa mp mpp mfi mpl mpo mro mdp mdf (updI mhg1 x (mg x)) (updI mhk1 x (mk x)) mR mRf mRo mss msl msh mha mt) H := hP
        have hD : va_D A (W_M cI cS mA mf mn ml mk mg mls ms mra mrf mrk mrg mrl mrs mo moo moa mp mpp mfi mpl mpo mro mdp mdf (updI mhg1 x (mg x)) (updI mhk1 x (mk x)) mR mRf mRo mss msl msh mha mt) := hD
        refine lv_iload_n hx hb dX7_plugs_46 rfl (lv_at hl 1 rfl) ?_
        refine lv_iconst (v := iI 5) hx hb dX7_plugs_47 (by decide +kernel) ?_
        refine n_imul hx hb dX7_plugs_48 ?_
        refine lv_istore_n (lv' := [(2, .int (iI (al * 5))), (3, .int (iI x)), (0, .ref (mA 0)), (1, .int (iI f))]) hx hb dX7_plugs_49 rfl hl (by decide) rfl (fun ls hl => ?_)
        refine n_iinc (lv' := [(3, .int (iI (x + 1))), (2, .int (iI (al * 5))), (0, .ref (mA 0)), (1, .int (iI f))]) hx hb dX7_plugs_50 hl (k := 1) rfl (by decide) rfl (fun ls hl => ?_)
        refine lv_goto (tgt := 14) hx hb dX7_plugs_53 (by decide) ?_
        exact ih_3 ((al * 5), (x + 1), (updI mhk1 x (mk x)), (updI mhg1 x (mg x))) (by (try dsimp only); exact ⟨by omega, by rw [show (x + 1).toNat = x.toNat + 1 by omega, hall0]; rfl, by omega, fun j a b => by
                by_cases e : j = x
                · rw [e, updI_s, updI_s]; exact ⟨rfl, rfl⟩
                · rw [updI_n e, updI_n e]; exact hhad0 j a (by omega)⟩) (by (try dsimp only); exact (by omega)) _ _ _ hP hD hS (lv_sub hl [0, 1, 2, 3] rfl)
  ·
    refine lv_iconst (v := iI (-1)) hx hb dX7_plugs_8 (by decide +kernel) ?_
    exact W.iret (v := iI (-1)) hx hb hr (fun t ht hW => ⟨⟨_, (mo, moo, moa, mp, mpp, mfi, mpl, mpo, mk, mg, mhk, mhg), rfl, ⟨(-1), rfl, (by (try dsimp only); exact (Or.inl ⟨rfl, by omega⟩)), (by (try dsimp only); exact (fun _ _ _ => ⟨rfl, rfl⟩))⟩, by rw [ht]; exact hP, hD⟩, hS.F ht⟩) hS.2.2 dX7_plugs_9
set_option maxHeartbeats 4000000 in
set_option maxRecDepth 100000 in
theorem c_X7_day (l : Launch) (D : va_G) (cI cS : ClassId) (mA : Nat → Nat) (mf : Int) (mn : Int) (ml : Int) (mk : Int → Int) (mg : Int → Int) (mls : Int → Int) (ms : Int → Int) (mra : Int) (mrf : Int) (mrk : Int → Int) (mrg : Int → Int) (mrl : Int → Int) (mrs : Int → Int) (mo : Int) (moo : Int → Int) (moa : Int → Int) (mp : Int) (mpp : Int → Int) (mfi : Int) (mpl : Int) (mpo : Int → Int) (mro : Int → Int) (mdp : Int) (mdf : Int) (mhg : Int → Int) (mhk : Int → Int) (mR : Int) (mRf : Int → Int) (mRo : Int → Int) (mss : Int → Int) (msl : Int → Int) (msh : Int → Int) (mha : Int → Int) (mt : Int) (sz : Nat) (sh : Int) (la : Int) (i : Int) (n : Int) (w : Int) (hmss : ∀ j : Int, 0 ≤ j → j < 4 → -1 ≤ mss j ∧ mss j ≤ 60) (hmsl : ∀ j : Int, 0 ≤ j → j < 4 → 0 ≤ msl j ∧ msl j ≤ 2) (hmsh : ∀ j : Int, -2147483648 ≤ msh j ∧ msh j < 2147483648) (hok : okP mn mls ms) (hkk : okK mn mk mg ml) (hshr : -2147483648 ≤ sh ∧ sh < 2147483648) (hlar : -2147483648 ≤ la ∧ la < 2147483648) (hi : -2147483648 ≤ i ∧ i < 2147483648) (hn : -2147483648 ≤ n ∧ n < 2147483648) (hwr : -2147483648 ≤ w ∧ w < 2147483648) : Met l yX7_day wsX7_day ({ frames := 7, cells := 0, slots := 0, locals := 158 }) (cP D cI cS (W_M cI cS mA mf mn ml mk mg mls ms mra mrf mrk mrg mrl mrs mo moo moa mp mpp mfi mpl mpo mro mdp mdf mhg mhk mR mRf mRo mss msl msh mha mt) sz [.ref (mA 0), .int (iI sh), .int (iI la), .int (iI i), .int (iI n), .int (iI w)]) (va_Qi (fun (r : Int32) (u : Int × Int × (Int → Int) × (Int → Int) × Int × (Int → Int) × (Int → Int) × Int × (Int → Int) × Int × Int × (Int → Int) × (Int → Int)) => (r = iI (sDay mn ml mk mg mls ms (lnM mss msl sh) (mss sh) (fun j => msh (60 * sh + j)) sh la i n w)) ∧ (∀ j : Int, 0 ≤ j → j < mn → u.2.2.1 j = mg j)) (fun (u : Int × Int × (Int → Int) × (Int → Int) × Int × (Int → Int) × (Int → Int) × Int × (Int → Int) × Int × Int × (Int → Int) × (Int → Int)) t => cB D (va_A (W_M cI cS mA mf mn ml mk mg mls ms mra mrf mrk mrg mrl mrs mo moo moa mp mpp mfi mpl mpo mro mdp mdf mhg mhk mR mRf mRo mss msl msh mha mt) sz) (W_M cI cS mA (sDayLf mn (lnM mss msl sh) (mss sh) sh la i n w) mn ml mk u.2.2.1 mls ms mra mrf mrk mrg mrl mrs u.2.2.2.2.1 u.2.2.2.2.2.1 u.2.2.2.2.2.2.1 u.2.2.2.2.2.2.2.1 u.2.2.2.2.2.2.2.2.1 u.2.2.2.2.2.2.2.2.2.1 u.2.2.2.2.2.2.2.2.2.2.1 u.2.2.2.2.2.2.2.2.2.2.2.1 u.2.2.2.2.2.2.2.2.2.2.2.2 u.1 u.2.1 u.2.2.2.1 mhk mR mRf mRo mss msl msh mha mt) t) (va_A (W_M cI cS mA mf mn ml mk mg mls ms mra mrf mrk mrg mrl mrs mo moo moa mp mpp mfi mpl mpo mro mdp mdf mhg mhk mR mRf mRo mss msl msh mha mt) sz)) 0 0 (va_A (W_M cI cS mA mf mn ml mk mg mls ms mra mrf mrk mrg mrl mrs mo moo moa mp mpp mfi mpl mpo mro mdp mdf mhg mhk mR mRf mRo mss msl msh mha mt) sz) := by
  refine Met.ofW (cc := cX7_day) (maxL := 11) (ret := (some .int)) (by decide) rfl ?_
  intro p e s m args below meth c_ s₁ B hml hv
  obtain ⟨rfl, hsz, hP, hK, hD0⟩ := hv
  have hx := B.exec
  have hb := B.bytes
  have hr := B.returns
  have hts := atoms_spec (ws := wsX7_day) B.pre
  have hown : s.vm.findClass RX7 = some m.cls := findClass_of_methodNamed B.named
  have hlocks := B.notSynchronized
  subst hsz
  have hD := hD0.self (sz := s.heap.size)
  generalize hAe : va_A (W_M cI cS mA mf mn ml mk mg mls ms mra mrf mrk mrg mrl mrs mo moo moa mp mpp mfi mpl mpo mro mdp mdf mhg mhk mR mRf mRo mss msl msh mha mt) s.heap.size = A at hD ⊢
  have hA : ∀ q : Nat, s.heap.size ≤ q → A q := fun q h => by rw [← hAe]; exact Or.inr h
  have hS : va_S A s.heap s.heap [] := va_S.rf
  have hP : va_P D vwCl (W_M cI cS mA mf mn ml mk mg mls ms mra mrf mrk mrg mrl mrs mo moo moa mp mpp mfi mpl mpo mro mdp mdf mhg mhk mR mRf mRo mss msl msh mha mt) s.heap := hP
  have hl := lv_entry ([.ref (mA 0), .int (iI sh), .int (iI la), .int (iI i), .int (iI n), .int (iI w)] : List Value) (n := 11) (Nat.le_of_ble_eq_true rfl)
  rw [lg_entry_eq]
  generalize (lg_sl ([.ref (mA 0), .int (iI sh), .int (iI la), .int (iI i), .int (iI n), .int (iI w)] : List Value) ++ List.replicate (11 - (lg_sl ([.ref (mA 0), .int (iI sh), .int (iI la), .int (iI i), .int (iI n), .int (iI w)] : List Value)).length) Slot.unset).toArray = ls at hl ⊢
  have hl : lv_has ls 11 [(0, .ref (mA 0)), (1, .int (iI sh)), (2, .int (iI la)), (3, .int (iI i)), (4, .int (iI n)), (5, .int (iI w))] := hl
  have ck_133 := hts (.constantLong RX7 133 (lI 2)) (by decide +kernel)
  have ck_225 := hts (.constantLong RX7 225 (lI 20)) (by decide +kernel)
  have ck_200 := hts (.constantLong RX7 200 (lI 4)) (by decide +kernel)
  have fl_83 := hts (.fieldLink RX7 83 "ActRowsModel" "functions" "I") (by decide +kernel)
  have iw_7 : ∀ w ∈ wsX70, w ∈ wsX7_day := by decide +kernel
  have fl_142 := hts (.fieldLink RX7 142 "ActRowsModel" "liveNow" "I") (by decide +kernel)
  have fl_13 := hts (.fieldLink RX7 13 "ActRowsModel" "guardOf" "[I") (by decide +kernel)
  have fl_49 := hts (.fieldLink RX7 49 "ActRowsModel" "hadGuard" "[I") (by decide +kernel)
  have fl_67 := hts (.fieldLink RX7 67 "ActRowsModel" "sheet" "[I") (by decide +kernel)
  have ck_202 := hts (.constantLong RX7 202 (lI 10)) (by decide +kernel)
  have ck_227 := hts (.constantLong RX7 227 (lI 14)) (by decide +kernel)
  have hmn := hok.1
  have hln := hok.2.1
  refine lv_iload_n hx hb dX7_day_0 rfl (lv_at hl 1 rfl) ?_
  refine x_callSi (As := [.int (iI sh)]) (rest := []) ⟨hx, hb, hml, hown, hts⟩ (c_X7_noSheet l D cI cS s.heap.size sh (by first | assumption | omega)) (va_cwS 1 hts gX7_day_X7_noSheet rfl rfl rfl (by decide +kernel) ⟨Nat.le_of_ble_eq_true rfl, Nat.le_of_ble_eq_true rfl⟩) hK hP hD hS hA [] [0, 1, 2, 3, 4, 5, 6, 7, 8, 9, 10, 11, 12, 13, 14, 15, 16, 17, 18, 19, 20, 21] (wr := [(mA 0, .inr (7, [.int (iI mf), .int (iI mn), .int (iI ml), .ref (mA 1), .ref (mA 2), .ref (mA 3), .ref (mA 4), .int (iI mra), .int (iI mrf), .ref (mA 5), .ref (mA 6), .ref (mA 7), .ref (mA 8), .int (iI mo), .ref (mA 9), .ref (mA 10), .int (iI mp), .ref (mA 11), .int (iI mfi), .int (iI mpl), .ref (mA 12), .ref (mA 13), .int (iI mdp), .int (iI mdf), .ref (mA 14), .ref (mA 15), .int (iI mR), .ref (mA 16), .ref (mA 17), .ref (mA 18), .ref (mA 19), .ref (mA 20), .ref (mA 21), .int (iI mt)])), (mA 1, .inl (cI, 5, .inl (aI mk))), (mA 2, .inl (cI, 5, .inl (aI mg))), (mA 3, .inl (cI, 5, .inl (aI mls))), (mA 4, .inl (cI, 20, .inl (aI ms))), (mA 5, .inl (cI, 5, .inl (aI mrk))), (mA 6, .inl (cI, 5, .inl (aI mrg))), (mA 7, .inl (cI, 5, .inl (aI mrl))), (mA 8, .inl (cI, 20, .inl (aI mrs))), (mA 9, .inl (cI, 5, .inl (aI moo))), (mA 10, .inl (cI, 5, .inl (aI moa))), (mA 11, .inl (cI, 1024, .inl (aI mpp))), (mA 12, .inl (cI, 5, .inl (aI mpo))), (mA 13, .inl (cI, 5, .inl (aI mro))), (mA 14, .inl (cI, 5, .inl (aI mhg))), (mA 15, .inl (cI, 5, .inl (aI mhk))), (mA 16, .inl (cI, 8, .inl (aI mRf))), (mA 17, .inl (cI, 8, .inl (aI mRo))), (mA 18, .inl (cI, 4, .inl (aI mss))), (mA 19, .inl (cI, 4, .inl (aI msl))), (mA 20, .inl (cI, 240, .inl (aI msh))), (mA 21, .inl (cI, 60, .inl (aI mha)))]) rfl rfl (by decide) (by decide) (by decide) [0, 1, 2, 3, 4, 5, 6, 7, 8, 9, 10, 11, 12, 13, 14, 15, 16, 17, 18, 19, 20, 21] (fun (u : Unit) => (W_M cI cS mA mf mn ml mk mg mls ms mra mrf mrk mrg mrl mrs mo moo moa mp mpp mfi mpl mpo mro mdp mdf mhg mhk mR mRf mRo mss msl msh mha mt)) (fun _ => rfl) (by decide) rfl hl.1 rfl (Nat.le_of_ble_eq_true rfl) ⟨Nat.zero_le _, Nat.zero_le _⟩ dX7_day_1 (fun r_ u_ H locs hw hP hD hS => ?_)
  try dsimp only at hw
  subst hw
  have hP : va_P D vwCl (W_M cI cS mA mf mn ml mk mg mls ms mra mrf mrk mrg mrl mrs mo moo moa mp mpp mfi mpl mpo mro mdp mdf mhg mhk mR mRf mRo mss msl msh mha mt) H := hP
  have hD : va_D A (W_M cI cS mA mf mn ml mk mg mls ms mra mrf mrk mrg mrl mrs mo moo moa mp mpp mfi mpl mpo mro mdp mdf mhg mhk mR mRf mRo mss msl msh mha mt) := hD
  refine n_if_b1 (tgt := 13) hx hb dX7_day_4 (by decide)  (fun c_1 => ?_) (fun c_1 => ?_)
  ·
    refine lv_iload_n hx hb dX7_day_13 rfl (lv_at hl 2 rfl) ?_
    refine n_i2l hx hb (by omega) dX7_day_14 ?_
    refine lv_lconst (v := lI 0) hx hb dX7_day_15 (by decide +kernel) ?_
    refine lv_ldc2 hx hb hown ck_133 dX7_day_16 ?_
    refine x_callSi (As := [.long (lI la), .long (lI 0), .long (lI 2)]) (rest := []) ⟨hx, hb, hml, hown, hts⟩ (c_X7_in l D cI cS H.size la 0 2 (by first | assumption | omega) (by first | assumption | omega) (by first | assumption | omega)) (va_cwS 3 hts gX7_day_X7_in rfl rfl rfl (by decide +kernel) ⟨Nat.le_of_ble_eq_true rfl, Nat.le_of_ble_eq_true rfl⟩) hK hP hD hS hA [] [0, 1, 2, 3, 4, 5, 6, 7, 8, 9, 10, 11, 12, 13, 14, 15, 16, 17, 18, 19, 20, 21] (wr := [(mA 0, .inr (7, [.int (iI mf), .int (iI mn), .int (iI ml), .ref (mA 1), .ref (mA 2), .ref (mA 3), .ref (mA 4), .int (iI mra), .int (iI mrf), .ref (mA 5), .ref (mA 6), .ref (mA 7), .ref (mA 8), .int (iI mo), .ref (mA 9), .ref (mA 10), .int (iI mp), .ref (mA 11), .int (iI mfi), .int (iI mpl), .ref (mA 12), .ref (mA 13), .int (iI mdp), .int (iI mdf), .ref (mA 14), .ref (mA 15), .int (iI mR), .ref (mA 16), .ref (mA 17), .ref (mA 18), .ref (mA 19), .ref (mA 20), .ref (mA 21), .int (iI mt)])), (mA 1, .inl (cI, 5, .inl (aI mk))), (mA 2, .inl (cI, 5, .inl (aI mg))), (mA 3, .inl (cI, 5, .inl (aI mls))), (mA 4, .inl (cI, 20, .inl (aI ms))), (mA 5, .inl (cI, 5, .inl (aI mrk))), (mA 6, .inl (cI, 5, .inl (aI mrg))), (mA 7, .inl (cI, 5, .inl (aI mrl))), (mA 8, .inl (cI, 20, .inl (aI mrs))), (mA 9, .inl (cI, 5, .inl (aI moo))), (mA 10, .inl (cI, 5, .inl (aI moa))), (mA 11, .inl (cI, 1024, .inl (aI mpp))), (mA 12, .inl (cI, 5, .inl (aI mpo))), (mA 13, .inl (cI, 5, .inl (aI mro))), (mA 14, .inl (cI, 5, .inl (aI mhg))), (mA 15, .inl (cI, 5, .inl (aI mhk))), (mA 16, .inl (cI, 8, .inl (aI mRf))), (mA 17, .inl (cI, 8, .inl (aI mRo))), (mA 18, .inl (cI, 4, .inl (aI mss))), (mA 19, .inl (cI, 4, .inl (aI msl))), (mA 20, .inl (cI, 240, .inl (aI msh))), (mA 21, .inl (cI, 60, .inl (aI mha)))]) rfl rfl (by decide) (by decide) (by decide) [0, 1, 2, 3, 4, 5, 6, 7, 8, 9, 10, 11, 12, 13, 14, 15, 16, 17, 18, 19, 20, 21] (fun (u : Unit) => (W_M cI cS mA mf mn ml mk mg mls ms mra mrf mrk mrg mrl mrs mo moo moa mp mpp mfi mpl mpo mro mdp mdf mhg mhk mR mRf mRo mss msl msh mha mt)) (fun _ => rfl) (by decide) rfl hl.1 rfl (Nat.le_of_ble_eq_true rfl) ⟨Nat.zero_le _, Nat.zero_le _⟩ dX7_day_19 (fun r_ u_ H locs hw hP hD hS => ?_)
    try dsimp only at hw
    subst hw
    have hP : va_P D vwCl (W_M cI cS mA mf mn ml mk mg mls ms mra mrf mrk mrg mrl mrs mo moo moa mp mpp mfi mpl mpo mro mdp mdf mhg mhk mR mRf mRo mss msl msh mha mt) H := hP
    have hD : va_D A (W_M cI cS mA mf mn ml mk mg mls ms mra mrf mrk mrg mrl mrs mo moo moa mp mpp mfi mpl mpo mro mdp mdf mhg mhk mR mRf mRo mss msl msh mha mt) := hD
    refine n_if_b1 (tgt := 66) hx hb dX7_day_22 (by decide)  (fun c_2 => ?_) (fun c_2 => ?_)
    ·
      refine lv_aload_n hx hb dX7_day_66 rfl (lv_at hl 0 rfl) ?_
      refine lv_bipush (v := iI (-2)) hx hb dX7_day_67 (by decide +kernel) ?_
      refine x_callVi (As := [.int (iI (-2))]) (rest := []) ⟨hx, hb, hml, hown, hts⟩ (c_X7_refused l D cI cS mA mf mn ml mk mg mls ms mra mrf mrk mrg mrl mrs mo moo moa mp mpp mfi mpl mpo mro mdp mdf mhg mhk mR mRf mRo mss msl msh mha mt H.size (-2)) (cwV 1 hts gX7_day_X7_refused rfl rfl rfl (by decide +kernel) ⟨Nat.le_of_ble_eq_true rfl, Nat.le_of_ble_eq_true rfl⟩) hK hP hD hS hA [0, 1, 2, 3, 4, 5, 6, 7, 8, 9, 10, 11, 12, 13, 14, 15, 16, 17, 18, 19, 20, 21] [] (wr := ([] : va_W)) rfl rfl (by decide) (by decide) (by decide) 0 7 rfl rfl rfl [0, 1, 2, 3, 4, 5, 6, 7, 8, 9, 10, 11, 12, 13, 14, 15, 16, 17, 18, 19, 20, 21] (fun (u : Unit) => (W_M cI cS mA 0 mn ml mk mg mls ms mra mrf mrk mrg mrl mrs mo moo moa mp mpp mfi mpl mpo mro mdp mdf mhg mhk mR mRf mRo mss msl msh mha mt)) (fun _ => rfl) (by decide) rfl hl.1 rfl (Nat.le_of_ble_eq_true rfl) ⟨Nat.zero_le _, Nat.zero_le _⟩ dX7_day_69 (fun r_ u_ H locs hw hP hD hS => ?_)
      try dsimp only at hw
      subst hw
      have hP : va_P D vwCl (W_M cI cS mA 0 mn ml mk mg mls ms mra mrf mrk mrg mrl mrs mo moo moa mp mpp mfi mpl mpo mro mdp mdf mhg mhk mR mRf mRo mss msl msh mha mt) H := hP
      have hD : va_D A (W_M cI cS mA 0 mn ml mk mg mls ms mra mrf mrk mrg mrl mrs mo moo moa mp mpp mfi mpl mpo mro mdp mdf mhg mhk mR mRf mRo mss msl msh mha mt) := hD
      have e_3 : (0 : Int) = (sDayLf mn (lnM mss msl sh) (mss sh) sh la i n w) := (by unfold sDayLf; omega)
      have hP : va_P D vwCl (W_M cI cS mA (sDayLf mn (lnM mss msl sh) (mss sh) sh la i n w) mn ml mk mg mls ms mra mrf mrk mrg mrl mrs mo moo moa mp mpp mfi mpl mpo mro mdp mdf mhg mhk mR mRf mRo mss msl msh mha mt) H := Eq.mp (congrArg (fun z_ => va_P D vwCl (W_M cI cS mA z_ mn ml mk mg mls ms mra mrf mrk mrg mrl mrs mo moo moa mp mpp mfi mpl mpo mro mdp mdf mhg mhk mR mRf mRo mss msl msh mha mt) H) e_3) hP
      have hD : va_D A (W_M cI cS mA (sDayLf mn (lnM mss msl sh) (mss sh) sh la i n w) mn ml mk mg mls ms mra mrf mrk mrg mrl mrs mo moo moa mp mpp mfi mpl mpo mro mdp mdf mhg mhk mR mRf mRo mss msl msh mha mt) := Eq.mp (congrArg (fun z_ => va_D A (W_M cI cS mA z_ mn ml mk mg mls ms mra mrf mrk mrg mrl mrs mo moo moa mp mpp mfi mpl mpo mro mdp mdf mhg mhk mR mRf mRo mss msl msh mha mt)) e_3) hD
      exact W.iret (v := iI (-2)) hx hb hr (fun t ht hW => ⟨⟨_, (mdp, mdf, mg, mhg, mo, moo, moa, mp, mpp, mfi, mpl, mpo, mro), rfl, ⟨congrArg iI (show (-2) = (sDay mn ml mk mg mls ms (lnM mss msl sh) (mss sh) (fun j => msh (60 * sh + j)) sh la i n w) from (by unfold sDay; rw [if_neg (by omega), if_pos (by omega)])), (by (try dsimp only); exact (fun _ _ _ => rfl))⟩, by rw [ht]; exact hP, hD⟩, hS.F ht⟩) hS.2.2 dX7_day_72
    ·
      refine lv_iload hx hb dX7_day_25 (lv_at hl 4 rfl) ?_
      refine n_i2l hx hb (by omega) dX7_day_27 ?_
      refine lv_lconst (v := lI 0) hx hb dX7_day_28 (by decide +kernel) ?_
      refine lv_ldc2 hx hb hown ck_225 dX7_day_29 ?_
      refine x_callSi (As := [.long (lI n), .long (lI 0), .long (lI 20)]) (rest := []) ⟨hx, hb, hml, hown, hts⟩ (c_X7_in l D cI cS H.size n 0 20 (by first | assumption | omega) (by first | assumption | omega) (by first | assumption | omega)) (va_cwS 3 hts gX7_day_X7_in rfl rfl rfl (by decide +kernel) ⟨Nat.le_of_ble_eq_true rfl, Nat.le_of_ble_eq_true rfl⟩) hK hP hD hS hA [] [0, 1, 2, 3, 4, 5, 6, 7, 8, 9, 10, 11, 12, 13, 14, 15, 16, 17, 18, 19, 20, 21] (wr := [(mA 0, .inr (7, [.int (iI mf), .int (iI mn), .int (iI ml), .ref (mA 1), .ref (mA 2), .ref (mA 3), .ref (mA 4), .int (iI mra), .int (iI mrf), .ref (mA 5), .ref (mA 6), .ref (mA 7), .ref (mA 8), .int (iI mo), .ref (mA 9), .ref (mA 10), .int (iI mp), .ref (mA 11), .int (iI mfi), .int (iI mpl), .ref (mA 12), .ref (mA 13), .int (iI mdp), .int (iI mdf), .ref (mA 14), .ref (mA 15), .int (iI mR), .ref (mA 16), .ref (mA 17), .ref (mA 18), .ref (mA 19), .ref (mA 20), .ref (mA 21), .int (iI mt)])), (mA 1, .inl (cI, 5, .inl (aI mk))), (mA 2, .inl (cI, 5, .inl (aI mg))), (mA 3, .inl (cI, 5, .inl (aI mls))), (mA 4, .inl (cI, 20, .inl (aI ms))), (mA 5, .inl (cI, 5, .inl (aI mrk))), (mA 6, .inl (cI, 5, .inl (aI mrg))), (mA 7, .inl (cI, 5, .inl (aI mrl))), (mA 8, .inl (cI, 20, .inl (aI mrs))), (mA 9, .inl (cI, 5, .inl (aI moo))), (mA 10, .inl (cI, 5, .inl (aI moa))), (mA 11, .inl (cI, 1024, .inl (aI mpp))), (mA 12, .inl (cI, 5, .inl (aI mpo))), (mA 13, .inl (cI, 5, .inl (aI mro))), (mA 14, .inl (cI, 5, .inl (aI mhg))), (mA 15, .inl (cI, 5, .inl (aI mhk))), (mA 16, .inl (cI, 8, .inl (aI mRf))), (mA 17, .inl (cI, 8, .inl (aI mRo))), (mA 18, .inl (cI, 4, .inl (aI mss))), (mA 19, .inl (cI, 4, .inl (aI msl))), (mA 20, .inl (cI, 240, .inl (aI msh))), (mA 21, .inl (cI, 60, .inl (aI mha)))]) rfl rfl (by decide) (by decide) (by decide) [0, 1, 2, 3, 4, 5, 6, 7, 8, 9, 10, 11, 12, 13, 14, 15, 16, 17, 18, 19, 20, 21] (fun (u : Unit) => (W_M cI cS mA mf mn ml mk mg mls ms mra mrf mrk mrg mrl mrs mo moo moa mp mpp mfi mpl mpo mro mdp mdf mhg mhk mR mRf mRo mss msl msh mha mt)) (fun _ => rfl) (by decide) rfl hl.1 rfl (Nat.le_of_ble_eq_true rfl) ⟨Nat.zero_le _, Nat.zero_le _⟩ dX7_day_32 (fun r_ u_ H locs hw hP hD hS => ?_)
      try dsimp only at hw
      subst hw
      have hP : va_P D vwCl (W_M cI cS mA mf mn ml mk mg mls ms mra mrf mrk mrg mrl mrs mo moo moa mp mpp mfi mpl mpo mro mdp mdf mhg mhk mR mRf mRo mss msl msh mha mt) H := hP
      have hD : va_D A (W_M cI cS mA mf mn ml mk mg mls ms mra mrf mrk mrg mrl mrs mo moo moa mp mpp mfi mpl mpo mro mdp mdf mhg mhk mR mRf mRo mss msl msh mha mt) := hD
      refine n_if_b1 (tgt := 66) hx hb dX7_day_35 (by decide)  (fun c_4 => ?_) (fun c_4 => ?_)
      ·
        refine lv_aload_n hx hb dX7_day_66 rfl (lv_at hl 0 rfl) ?_
        refine lv_bipush (v := iI (-2)) hx hb dX7_day_67 (by decide +kernel) ?_
        refine x_callVi (As := [.int (iI (-2))]) (rest := []) ⟨hx, hb, hml, hown, hts⟩ (c_X7_refused l D cI cS mA mf mn ml mk mg mls ms mra mrf mrk mrg mrl mrs mo moo moa mp mpp mfi mpl mpo mro mdp mdf mhg mhk mR mRf mRo mss msl msh mha mt H.size (-2)) (cwV 1 hts gX7_day_X7_refused rfl rfl rfl (by decide +kernel) ⟨Nat.le_of_ble_eq_true rfl, Nat.le_of_ble_eq_true rfl⟩) hK hP hD hS hA [0, 1, 2, 3, 4, 5, 6, 7, 8, 9, 10, 11, 12, 13, 14, 15, 16, 17, 18, 19, 20, 21] [] (wr := ([] : va_W)) rfl rfl (by decide) (by decide) (by decide) 0 7 rfl rfl rfl [0, 1, 2, 3, 4, 5, 6, 7, 8, 9, 10, 11, 12, 13, 14, 15, 16, 17, 18, 19, 20, 21] (fun (u : Unit) => (W_M cI cS mA 0 mn ml mk mg mls ms mra mrf mrk mrg mrl mrs mo moo moa mp mpp mfi mpl mpo mro mdp mdf mhg mhk mR mRf mRo mss msl msh mha mt)) (fun _ => rfl) (by decide) rfl hl.1 rfl (Nat.le_of_ble_eq_true rfl) ⟨Nat.zero_le _, Nat.zero_le _⟩ dX7_day_69 (fun r_ u_ H locs hw hP hD hS => ?_)
        try dsimp only at hw
        subst hw
        have hP : va_P D vwCl (W_M cI cS mA 0 mn ml mk mg mls ms mra mrf mrk mrg mrl mrs mo moo moa mp mpp mfi mpl mpo mro mdp mdf mhg mhk mR mRf mRo mss msl msh mha mt) H := hP
        have hD : va_D A (W_M cI cS mA 0 mn ml mk mg mls ms mra mrf mrk mrg mrl mrs mo moo moa mp mpp mfi mpl mpo mro mdp mdf mhg mhk mR mRf mRo mss msl msh mha mt) := hD
        have e_5 : (0 : Int) = (sDayLf mn (lnM mss msl sh) (mss sh) sh la i n w) := (by unfold sDayLf; omega)
        have hP : va_P D vwCl (W_M cI cS mA (sDayLf mn (lnM mss msl sh) (mss sh) sh la i n w) mn ml mk mg mls ms mra mrf mrk mrg mrl mrs mo moo moa mp mpp mfi mpl mpo mro mdp mdf mhg mhk mR mRf mRo mss msl msh mha mt) H := Eq.mp (congrArg (fun z_ => va_P D vwCl (W_M cI cS mA z_ mn ml mk mg mls ms mra mrf mrk mrg mrl mrs mo moo moa mp mpp mfi mpl mpo mro mdp mdf mhg mhk mR mRf mRo mss msl msh mha mt) H) e_5) hP
        have hD : va_D A (W_M cI cS mA (sDayLf mn (lnM mss msl sh) (mss sh) sh la i n w) mn ml mk mg mls ms mra mrf mrk mrg mrl mrs mo moo moa mp mpp mfi mpl mpo mro mdp mdf mhg mhk mR mRf mRo mss msl msh mha mt) := Eq.mp (congrArg (fun z_ => va_D A (W_M cI cS mA z_ mn ml mk mg mls ms mra mrf mrk mrg mrl mrs mo moo moa mp mpp mfi mpl mpo mro mdp mdf mhg mhk mR mRf mRo mss msl msh mha mt)) e_5) hD
        exact W.iret (v := iI (-2)) hx hb hr (fun t ht hW => ⟨⟨_, (mdp, mdf, mg, mhg, mo, moo, moa, mp, mpp, mfi, mpl, mpo, mro), rfl, ⟨congrArg iI (show (-2) = (sDay mn ml mk mg mls ms (lnM mss msl sh) (mss sh) (fun j => msh (60 * sh + j)) sh la i n w) from (by unfold sDay; rw [if_neg (by omega), if_pos (by omega)])), (by (try dsimp only); exact (fun _ _ _ => rfl))⟩, by rw [ht]; exact hP, hD⟩, hS.F ht⟩) hS.2.2 dX7_day_72
      ·
        refine lv_iload hx hb dX7_day_38 (lv_at hl 5 rfl) ?_
        refine n_i2l hx hb (by omega) dX7_day_40 ?_
        refine lv_lconst (v := lI 0) hx hb dX7_day_41 (by decide +kernel) ?_
        refine lv_ldc2 hx hb hown ck_200 dX7_day_42 ?_
        refine x_callSi (As := [.long (lI w), .long (lI 0), .long (lI 4)]) (rest := []) ⟨hx, hb, hml, hown, hts⟩ (c_X7_in l D cI cS H.size w 0 4 (by first | assumption | omega) (by first | assumption | omega) (by first | assumption | omega)) (va_cwS 3 hts gX7_day_X7_in rfl rfl rfl (by decide +kernel) ⟨Nat.le_of_ble_eq_true rfl, Nat.le_of_ble_eq_true rfl⟩) hK hP hD hS hA [] [0, 1, 2, 3, 4, 5, 6, 7, 8, 9, 10, 11, 12, 13, 14, 15, 16, 17, 18, 19, 20, 21] (wr := [(mA 0, .inr (7, [.int (iI mf), .int (iI mn), .int (iI ml), .ref (mA 1), .ref (mA 2), .ref (mA 3), .ref (mA 4), .int (iI mra), .int (iI mrf), .ref (mA 5), .ref (mA 6), .ref (mA 7), .ref (mA 8), .int (iI mo), .ref (mA 9), .ref (mA 10), .int (iI mp), .ref (mA 11), .int (iI mfi), .int (iI mpl), .ref (mA 12), .ref (mA 13), .int (iI mdp), .int (iI mdf), .ref (mA 14), .ref (mA 15), .int (iI mR), .ref (mA 16), .ref (mA 17), .ref (mA 18), .ref (mA 19), .ref (mA 20), .ref (mA 21), .int (iI mt)])), (mA 1, .inl (cI, 5, .inl (aI mk))), (mA 2, .inl (cI, 5, .inl (aI mg))), (mA 3, .inl (cI, 5, .inl (aI mls))), (mA 4, .inl (cI, 20, .inl (aI ms))), (mA 5, .inl (cI, 5, .inl (aI mrk))), (mA 6, .inl (cI, 5, .inl (aI mrg))), (mA 7, .inl (cI, 5, .inl (aI mrl))), (mA 8, .inl (cI, 20, .inl (aI mrs))), (mA 9, .inl (cI, 5, .inl (aI moo))), (mA 10, .inl (cI, 5, .inl (aI moa))), (mA 11, .inl (cI, 1024, .inl (aI mpp))), (mA 12, .inl (cI, 5, .inl (aI mpo))), (mA 13, .inl (cI, 5, .inl (aI mro))), (mA 14, .inl (cI, 5, .inl (aI mhg))), (mA 15, .inl (cI, 5, .inl (aI mhk))), (mA 16, .inl (cI, 8, .inl (aI mRf))), (mA 17, .inl (cI, 8, .inl (aI mRo))), (mA 18, .inl (cI, 4, .inl (aI mss))), (mA 19, .inl (cI, 4, .inl (aI msl))), (mA 20, .inl (cI, 240, .inl (aI msh))), (mA 21, .inl (cI, 60, .inl (aI mha)))]) rfl rfl (by decide) (by decide) (by decide) [0, 1, 2, 3, 4, 5, 6, 7, 8, 9, 10, 11, 12, 13, 14, 15, 16, 17, 18, 19, 20, 21] (fun (u : Unit) => (W_M cI cS mA mf mn ml mk mg mls ms mra mrf mrk mrg mrl mrs mo moo moa mp mpp mfi mpl mpo mro mdp mdf mhg mhk mR mRf mRo mss msl msh mha mt)) (fun _ => rfl) (by decide) rfl hl.1 rfl (Nat.le_of_ble_eq_true rfl) ⟨Nat.zero_le _, Nat.zero_le _⟩ dX7_day_45 (fun r_ u_ H locs hw hP hD hS => ?_)
        try dsimp only at hw
        subst hw
        have hP : va_P D vwCl (W_M cI cS mA mf mn ml mk mg mls ms mra mrf mrk mrg mrl mrs mo moo moa mp mpp mfi mpl mpo mro mdp mdf mhg mhk mR mRf mRo mss msl msh mha mt) H := hP
        have hD : va_D A (W_M cI cS mA mf mn ml mk mg mls ms mra mrf mrk mrg mrl mrs mo moo moa mp mpp mfi mpl mpo mro mdp mdf mhg mhk mR mRf mRo mss msl msh mha mt) := hD
        refine n_if_b2 (tgt := 73) hx hb dX7_day_48 (by decide)  (fun c_6 => ?_) (fun c_6 => ?_)
        ·
          refine lv_aload_n hx hb dX7_day_73 rfl (lv_at hl 0 rfl) ?_
          refine va_get (D := D) (ci := 7) (v := .int (iI mn)) (C := RX7) (T := TX7) (N := 34) hx hb hts iw_7 hown hK.1 hP 0 rfl rfl 1 (by decide) fl_83 (fun _ h9 => h9) rfl dX7_day_74 ?_
          refine n_if_ne (tgt := 87) hx hb dX7_day_77 (by decide) (by omega) (fun c_7 => ?_) (fun c_7 => ?_)
          ·
            refine lv_aload_n hx hb dX7_day_87 rfl (lv_at hl 0 rfl) ?_
            refine lv_iload_n hx hb dX7_day_88 rfl (lv_at hl 1 rfl) ?_
            refine lv_iload_n hx hb dX7_day_89 rfl (lv_at hl 2 rfl) ?_
            refine lv_iload_n hx hb dX7_day_90 rfl (lv_at hl 3 rfl) ?_
            refine lv_ldc2 hx hb hown ck_133 dX7_day_91 ?_
            refine lv_iload hx hb dX7_day_94 (lv_at hl 4 rfl) ?_
            refine n_i2l hx hb (by omega) dX7_day_96 ?_
            refine n_lmul hx hb dX7_day_97 ?_
            refine x_callVi (As := [.int (iI sh), .int (iI la), .int (iI i), .long (lI (2 * n))]) (rest := []) ⟨hx, hb, hml, hown, hts⟩ (c_X7_cellsBarred l D cI cS mA mf mn ml mk mg mls ms mra mrf mrk mrg mrl mrs mo moo moa mp mpp mfi mpl mpo mro mdp mdf mhg mhk mR mRf mRo mss msl msh mha mt H.size sh la i (2 * n) (by first | assumption | omega) (by first | assumption | omega) (by first | assumption | omega) (by first | assumption | omega) (by first | assumption | omega) (by first | assumption | omega)) (cwV 4 hts gX7_day_X7_cellsBarred rfl rfl rfl (by decide +kernel) ⟨Nat.le_of_ble_eq_true rfl, Nat.le_of_ble_eq_true rfl⟩) hK hP hD hS hA [0, 1, 2, 3, 4, 5, 6, 7, 8, 9, 10, 11, 12, 13, 14, 15, 16, 17, 18, 19, 20, 21] [] (wr := ([] : va_W)) rfl rfl (by decide) (by decide) (by decide) 0 7 rfl rfl rfl [0, 1, 2, 3, 4, 5, 6, 7, 8, 9, 10, 11, 12, 13, 14, 15, 16, 17, 18, 19, 20, 21] (fun (u : Unit) => (W_M cI cS mA (if (ftk (lnM mss msl sh) (mss sh) la i (2 * n)) = 0 then mf else (ftk (lnM mss msl sh) (mss sh) la i (2 * n))) mn ml mk mg mls ms mra mrf mrk mrg mrl mrs mo moo moa mp mpp mfi mpl mpo mro mdp mdf mhg mhk mR mRf mRo mss msl msh mha mt)) (fun _ => rfl) (by decide) rfl hl.1 rfl (Nat.le_of_ble_eq_true rfl) ⟨Nat.zero_le _, Nat.zero_le _⟩ dX7_day_98 (fun r_ u_ H locs hw hP hD hS => ?_)
            try dsimp only at hw
            subst hw
            have hP : va_P D vwCl (W_M cI cS mA (if (ftk (lnM mss msl sh) (mss sh) la i (2 * n)) = 0 then mf else (ftk (lnM mss msl sh) (mss sh) la i (2 * n))) mn ml mk mg mls ms mra mrf mrk mrg mrl mrs mo moo moa mp mpp mfi mpl mpo mro mdp mdf mhg mhk mR mRf mRo mss msl msh mha mt) H := hP
            have hD : va_D A (W_M cI cS mA (if (ftk (lnM mss msl sh) (mss sh) la i (2 * n)) = 0 then mf else (ftk (lnM mss msl sh) (mss sh) la i (2 * n))) mn ml mk mg mls ms mra mrf mrk mrg mrl mrs mo moo moa mp mpp mfi mpl mpo mro mdp mdf mhg mhk mR mRf mRo mss msl msh mha mt) := hD
            obtain ⟨met, h_met⟩ : ∃ z_ : Int, z_ = (if (ftk (lnM mss msl sh) (mss sh) la i (2 * n)) = 0 then 0 else (-10) - (ftk (lnM mss msl sh) (mss sh) la i (2 * n))) := ⟨_, rfl⟩
            rw [← h_met]
            have hmr := ftk_rng (lnM mss msl sh) (mss sh) la i (2 * n)
            refine lv_istore (lv' := [(6, .int (iI met)), (0, .ref (mA 0)), (1, .int (iI sh)), (2, .int (iI la)), (3, .int (iI i)), (4, .int (iI n)), (5, .int (iI w))]) hx hb dX7_day_101 hl (by decide) rfl (fun ls hl => ?_)
            refine lv_iload hx hb dX7_day_103 (lv_at hl 0 rfl) ?_
            refine n_if_ge (tgt := 111) hx hb dX7_day_105 (by decide) (by omega) (fun c_8 => ?_) (fun c_8 => ?_)
            ·
              have hf0 := ftk_0 (lane := lnM mss msl sh) (len := mss sh) (as := la) (i := i) (n := 2 * n) (by omega)
              have hs60 := hmss sh (by omega) (by omega)
              have ecd : (fun j => msh (60 * sh + (i + j))) = (fun j => msh (60 * sh + i + j)) := by funext j; rw [Int.add_assoc]
              refine lv_bipush (v := iI 60) hx hb dX7_day_111 (by decide +kernel) ?_
              refine lv_iload_n hx hb dX7_day_113 rfl (lv_at hl 2 rfl) ?_
              refine n_imul hx hb dX7_day_114 ?_
              refine lv_iload_n hx hb dX7_day_115 rfl (lv_at hl 4 rfl) ?_
              refine n_iadd hx hb dX7_day_116 ?_
              refine lv_istore (lv' := [(7, .int (iI ((60 * sh) + i))), (6, .int (iI met)), (0, .ref (mA 0)), (1, .int (iI sh)), (2, .int (iI la)), (3, .int (iI i)), (4, .int (iI n)), (5, .int (iI w))]) hx hb dX7_day_117 hl (by decide) rfl (fun ls hl => ?_)
              refine lv_iconst (v := iI 0) hx hb dX7_day_119 (by decide +kernel) ?_
              refine lv_istore (lv' := [(8, .int (iI 0)), (7, .int (iI ((60 * sh) + i))), (6, .int (iI met)), (0, .ref (mA 0)), (1, .int (iI sh)), (2, .int (iI la)), (3, .int (iI i)), (4, .int (iI n)), (5, .int (iI w))]) hx hb dX7_day_120 hl (by decide) rfl (fun ls hl => ?_)
              refine x_loop (σ := Int) (fun (x : Int) => (0 ≤ x ∧ x ≤ n) ∧ (tldB (fun j => msh (60 * sh + i + j)) x.toNat = true)) (fun (x : Int) => (n - x).toNat) (fun (x : Int) => (W_M cI cS mA (if (ftk (lnM mss msl sh) (mss sh) la i (2 * n)) = 0 then mf else (ftk (lnM mss msl sh) (mss sh) la i (2 * n))) mn ml mk mg mls ms mra mrf mrk mrg mrl mrs mo moo moa mp mpp mfi mpl mpo mro mdp mdf mhg mhk mR mRf mRo mss msl msh mha mt)) (fun (x : Int) => [(8, .int (iI x)), (7, .int (iI ((60 * sh) + i))), (0, .ref (mA 0)), (1, .int (iI sh)), (2, .int (iI la)), (3, .int (iI i)), (4, .int (iI n)), (5, .int (iI w))]) (nL := 11) ?step_9 0 (by (try dsimp only); exact ⟨by omega, rfl⟩) hP hD hS (lv_sub hl [0, 1, 3, 4, 5, 6, 7, 8] rfl)
              case step_9 =>
                intro xv_ hI ih H locs ls hP hD hS hl
                obtain ⟨x, ex_⟩ : ∃ z, z = xv_ := ⟨_, rfl⟩
                subst ex_
                try dsimp only at hI ih
                obtain ⟨hx_, htt⟩ := hI
                have hP : va_P D vwCl (W_M cI cS mA (if (ftk (lnM mss msl sh) (mss sh) la i (2 * n)) = 0 then mf else (ftk (lnM mss msl sh) (mss sh) la i (2 * n))) mn ml mk mg mls ms mra mrf mrk mrg mrl mrs mo moo moa mp mpp mfi mpl mpo mro mdp mdf mhg mhk mR mRf mRo mss msl msh mha mt) H := hP
                have hD : va_D A (W_M cI cS mA (if (ftk (lnM mss msl sh) (mss sh) la i (2 * n)) = 0 then mf else (ftk (lnM mss msl sh) (mss sh) la i (2 * n))) mn ml mk mg mls ms mra mrf mrk mrg mrl mrs mo moo moa mp mpp mfi mpl mpo mro mdp mdf mhg mhk mR mRf mRo mss msl msh mha mt) := hD
                have hl : lv_has ls 11 [(8, .int (iI x)), (7, .int (iI ((60 * sh) + i))), (0, .ref (mA 0)), (1, .int (iI sh)), (2, .int (iI la)), (3, .int (iI i)), (4, .int (iI n)), (5, .int (iI w))] := hl
                have ih_10 := ih
                refine lv_iload hx hb dX7_day_122 (lv_at hl 0 rfl) ?_
                refine lv_iload hx hb dX7_day_124 (lv_at hl 6 rfl) ?_
                refine n_icmp_ge (tgt := 174) hx hb dX7_day_126 (by decide) (by omega) (fun c_11 => ?_) (fun c_11 => ?_)
                ·
                  have hyt : tldB (fun j => msh (60 * sh + i + j)) n.toNat = true := by rw [show n = x by omega]; exact htt
                  refine lv_aload_n hx hb dX7_day_174 rfl (lv_at hl 2 rfl) ?_
                  refine va_get (D := D) (ci := 7) (v := .int (iI ml)) (C := RX7) (T := TX7) (N := 34) hx hb hts iw_7 hown hK.1 hP 0 rfl rfl 2 (by decide) fl_142 (fun _ h9 => h9) rfl dX7_day_175 ?_
                  refine lv_istore (lv' := [(8, .int (iI ml)), (7, .int (iI ((60 * sh) + i))), (0, .ref (mA 0)), (1, .int (iI sh)), (2, .int (iI la)), (3, .int (iI i)), (4, .int (iI n)), (5, .int (iI w))]) hx hb dX7_day_178 hl (by decide) rfl (fun ls hl => ?_)
                  refine lv_iconst (v := iI 0) hx hb dX7_day_180 (by decide +kernel) ?_
                  refine lv_istore (lv' := [(9, .int (iI 0)), (8, .int (iI ml)), (7, .int (iI ((60 * sh) + i))), (0, .ref (mA 0)), (1, .int (iI sh)), (2, .int (iI la)), (3, .int (iI i)), (4, .int (iI n)), (5, .int (iI w))]) hx hb dX7_day_181 hl (by decide) rfl (fun ls hl => ?_)
                  refine x_loop (σ := Int × (Int → Int)) (fun (xv_ : Int × (Int → Int)) => match xv_ with | (x2, mhg1) => (0 ≤ x2 ∧ x2 ≤ mn) ∧ (∀ j : Int, 0 ≤ j → j < x2 → mhg1 j = mg j)) (fun (xv_ : Int × (Int → Int)) => match xv_ with | (x2, mhg1) => (mn - x2).toNat) (fun (xv_ : Int × (Int → Int)) => match xv_ with | (x2, mhg1) => (W_M cI cS mA (if (ftk (lnM mss msl sh) (mss sh) la i (2 * n)) = 0 then mf else (ftk (lnM mss msl sh) (mss sh) la i (2 * n))) mn ml mk mg mls ms mra mrf mrk mrg mrl mrs mo moo moa mp mpp mfi mpl mpo mro mdp mdf mhg1 mhk mR mRf mRo mss msl msh mha mt)) (fun (xv_ : Int × (Int → Int)) => match xv_ with | (x2, mhg1) => [(9, .int (iI x2)), (8, .int (iI ml)), (7, .int (iI ((60 * sh) + i))), (0, .ref (mA 0)), (1, .int (iI sh)), (2, .int (iI la)), (3, .int (iI i)), (4, .int (iI n)), (5, .int (iI w))]) (nL := 11) ?step_12 (0, mhg) (by (try dsimp only); exact ⟨by omega, fun j a b => absurd b (by omega)⟩) hP hD hS (lv_sub hl [0, 1, 2, 3, 4, 5, 6, 7, 8] rfl)
                  case step_12 =>
                    intro xv_ hI ih H locs ls hP hD hS hl
                    obtain ⟨x2, mhg1⟩ := xv_
                    try dsimp only at hI ih
                    obtain ⟨hx2, hsv⟩ := hI
                    have hP : va_P D vwCl (W_M cI cS mA (if (ftk (lnM mss msl sh) (mss sh) la i (2 * n)) = 0 then mf else (ftk (lnM mss msl sh) (mss sh) la i (2 * n))) mn ml mk mg mls ms mra mrf mrk mrg mrl mrs mo moo moa mp mpp mfi mpl mpo mro mdp mdf mhg1 mhk mR mRf mRo mss msl msh mha mt) H := hP
                    have hD : va_D A (W_M cI cS mA (if (ftk (lnM mss msl sh) (mss sh) la i (2 * n)) = 0 then mf else (ftk (lnM mss msl sh) (mss sh) la i (2 * n))) mn ml mk mg mls ms mra mrf mrk mrg mrl mrs mo moo moa mp mpp mfi mpl mpo mro mdp mdf mhg1 mhk mR mRf mRo mss msl msh mha mt) := hD
                    have hl : lv_has ls 11 [(9, .int (iI x2)), (8, .int (iI ml)), (7, .int (iI ((60 * sh) + i))), (0, .ref (mA 0)), (1, .int (iI sh)), (2, .int (iI la)), (3, .int (iI i)), (4, .int (iI n)), (5, .int (iI w))] := hl
                    have ih_13 := ih
                    refine lv_iload hx hb dX7_day_183 (lv_at hl 0 rfl) ?_
                    refine lv_aload_n hx hb dX7_day_185 rfl (lv_at hl 3 rfl) ?_
                    refine va_get (D := D) (ci := 7) (v := .int (iI mn)) (C := RX7) (T := TX7) (N := 34) hx hb hts iw_7 hown hK.1 hP 0 rfl rfl 1 (by decide) fl_83 (fun _ h9 => h9) rfl dX7_day_186 ?_
                    refine n_icmp_ge (tgt := 212) hx hb dX7_day_189 (by decide) (by omega) (fun c_14 => ?_) (fun c_14 => ?_)
                    ·
                      refine lv_aload_n hx hb dX7_day_212 rfl (lv_at hl 3 rfl) ?_
                      refine lv_iload hx hb dX7_day_213 (lv_at hl 2 rfl) ?_
                      refine lv_iload hx hb dX7_day_215 (lv_at hl 7 rfl) ?_
                      refine lv_iload hx hb dX7_day_217 (lv_at hl 8 rfl) ?_
                      refine x_callVi (As := [.int (iI ((60 * sh) + i)), .int (iI n), .int (iI w)]) (rest := []) ⟨hx, hb, hml, hown, hts⟩ (c_X7_dayOf l D cI cS mA (if (ftk (lnM mss msl sh) (mss sh) la i (2 * n)) = 0 then mf else (ftk (lnM mss msl sh) (mss sh) la i (2 * n))) mn ml mk mg mls ms mra mrf mrk mrg mrl mrs mo moo moa mp mpp mfi mpl mpo mro mdp mdf mhg1 mhk mR mRf mRo mss msl msh mha mt H.size ((60 * sh) + i) n w (by first | assumption | omega) (by first | assumption | omega) (by omega) (by omega) hyt (by omega)) (cwV 3 hts gX7_day_X7_dayOf rfl rfl rfl (by decide +kernel) ⟨Nat.le_of_ble_eq_true rfl, Nat.le_of_ble_eq_true rfl⟩) hK hP hD hS hA [0, 1, 2, 3, 4, 5, 6, 7, 8, 9, 10, 11, 12, 13, 14, 15, 16, 17, 18, 19, 20, 21] [] (wr := ([] : va_W)) rfl rfl (by decide) (by decide) (by decide) 0 7 rfl rfl rfl [0, 1, 2, 3, 4, 5, 6, 7, 8, 9, 10, 11, 12, 13, 14, 15, 16, 17, 18, 19, 20, 21] (fun (u : Int × Int × Int × (Int → Int) × Int × (Int → Int) × (Int → Int) × Int × (Int → Int) × Int × Int × (Int → Int) × (Int → Int)) => (W_M cI cS mA (if (ftk (lnM mss msl sh) (mss sh) la i (2 * n)) = 0 then mf else (ftk (lnM mss msl sh) (mss sh) la i (2 * n))) mn u.2.2.1 mk u.2.2.2.1 mls ms mra mrf mrk mrg mrl mrs u.2.2.2.2.1 u.2.2.2.2.2.1 u.2.2.2.2.2.2.1 u.2.2.2.2.2.2.2.1 u.2.2.2.2.2.2.2.2.1 u.2.2.2.2.2.2.2.2.2.1 u.2.2.2.2.2.2.2.2.2.2.1 u.2.2.2.2.2.2.2.2.2.2.2.1 u.2.2.2.2.2.2.2.2.2.2.2.2 u.1 u.2.1 mhg1 mhk mR mRf mRo mss msl msh mha mt)) (fun _ => rfl) (by decide) rfl hl.1 rfl (Nat.le_of_ble_eq_true rfl) ⟨Nat.zero_le _, Nat.zero_le _⟩ dX7_day_219 (fun r_ u_ H locs hw hP hD hS => ?_)
                      obtain ⟨mdp_15, mdf_16, ml3, mg3, mo_17, moo_18, moa_19, mp_20, mpp_21, mfi_22, mpl_23, mpo_24, mro_25⟩ := u_
                      try dsimp only at hw
                      subst hw
                      have hP : va_P D vwCl (W_M cI cS mA (if (ftk (lnM mss msl sh) (mss sh) la i (2 * n)) = 0 then mf else (ftk (lnM mss msl sh) (mss sh) la i (2 * n))) mn ml3 mk mg3 mls ms mra mrf mrk mrg mrl mrs mo_17 moo_18 moa_19 mp_20 mpp_21 mfi_22 mpl_23 mpo_24 mro_25 mdp_15 mdf_16 mhg1 mhk mR mRf mRo mss msl msh mha mt) H := hP
                      have hD : va_D A (W_M cI cS mA (if (ftk (lnM mss msl sh) (mss sh) la i (2 * n)) = 0 then mf else (ftk (lnM mss msl sh) (mss sh) la i (2 * n))) mn ml3 mk mg3 mls ms mra mrf mrk mrg mrl mrs mo_17 moo_18 moa_19 mp_20 mpp_21 mfi_22 mpl_23 mpo_24 mro_25 mdp_15 mdf_16 mhg1 mhk mR mRf mRo mss msl msh mha mt) := hD
                      refine lv_istore (lv' := [(9, .int (iI (dAns mn mk mls ms (dRun mk mls ms mn (fun j => msh (((60 * sh) + i) + j)) n.toNat 0 ml mg 0 0) w))), (8, .int (iI ml)), (7, .int (iI ((60 * sh) + i))), (0, .ref (mA 0)), (1, .int (iI sh)), (2, .int (iI la)), (3, .int (iI i)), (4, .int (iI n)), (5, .int (iI w))]) hx hb dX7_day_222 hl (by decide) rfl (fun ls hl => ?_)
                      refine lv_aload_n hx hb dX7_day_224 rfl (lv_at hl 3 rfl) ?_
                      refine lv_iload hx hb dX7_day_225 (lv_at hl 1 rfl) ?_
                      refine va_put (D := D) (ci := 7) (v := .int (iI ml)) (ty := .int) (C := RX7) (T := TX7) (N := 34) hx hb hts iw_7 tyX7 tyX7_ok nmX7 hown hK.1 hP hD hS 0 rfl rfl 2 (by decide) fl_142 (fun _ h9 => h9) rfl (by decide +kernel) rfl rfl (Nat.le_of_ble_eq_true rfl) dX7_day_227 (fun H locs hP hD hS => ?_)
                      have hP : va_P D vwCl (W_M cI cS mA (if (ftk (lnM mss msl sh) (mss sh) la i (2 * n)) = 0 then mf else (ftk (lnM mss msl sh) (mss sh) la i (2 * n))) mn ml mk mg3 mls ms mra mrf mrk mrg mrl mrs mo_17 moo_18 moa_19 mp_20 mpp_21 mfi_22 mpl_23 mpo_24 mro_25 mdp_15 mdf_16 mhg1 mhk mR mRf mRo mss msl msh mha mt) H := hP
                      have hD : va_D A (W_M cI cS mA (if (ftk (lnM mss msl sh) (mss sh) la i (2 * n)) = 0 then mf else (ftk (lnM mss msl sh) (mss sh) la i (2 * n))) mn ml mk mg3 mls ms mra mrf mrk mrg mrl mrs mo_17 moo_18 moa_19 mp_20 mpp_21 mfi_22 mpl_23 mpo_24 mro_25 mdp_15 mdf_16 mhg1 mhk mR mRf mRo mss msl msh mha mt) := hD
                      refine lv_iconst (v := iI 0) hx hb dX7_day_230 (by decide +kernel) ?_
                      refine lv_istore (lv' := [(10, .int (iI 0)), (9, .int (iI (dAns mn mk mls ms (dRun mk mls ms mn (fun j => msh (((60 * sh) + i) + j)) n.toNat 0 ml mg 0 0) w))), (8, .int (iI ml)), (7, .int (iI ((60 * sh) + i))), (0, .ref (mA 0)), (1, .int (iI sh)), (2, .int (iI la)), (3, .int (iI i)), (4, .int (iI n)), (5, .int (iI w))]) hx hb dX7_day_231 hl (by decide) rfl (fun ls hl => ?_)
                      refine x_loop (σ := Int × (Int → Int)) (fun (xv_ : Int × (Int → Int)) => match xv_ with | (x3, mg4) => (0 ≤ x3 ∧ x3 ≤ mn) ∧ (∀ j : Int, 0 ≤ j → j < x3 → mg4 j = mg j)) (fun (xv_ : Int × (Int → Int)) => match xv_ with | (x3, mg4) => (mn - x3).toNat) (fun (xv_ : Int × (Int → Int)) => match xv_ with | (x3, mg4) => (W_M cI cS mA (if (ftk (lnM mss msl sh) (mss sh) la i (2 * n)) = 0 then mf else (ftk (lnM mss msl sh) (mss sh) la i (2 * n))) mn ml mk mg4 mls ms mra mrf mrk mrg mrl mrs mo_17 moo_18 moa_19 mp_20 mpp_21 mfi_22 mpl_23 mpo_24 mro_25 mdp_15 mdf_16 mhg1 mhk mR mRf mRo mss msl msh mha mt)) (fun (xv_ : Int × (Int → Int)) => match xv_ with | (x3, mg4) => [(10, .int (iI x3)), (9, .int (iI (dAns mn mk mls ms (dRun mk mls ms mn (fun j => msh (((60 * sh) + i) + j)) n.toNat 0 ml mg 0 0) w))), (8, .int (iI ml)), (7, .int (iI ((60 * sh) + i))), (0, .ref (mA 0)), (1, .int (iI sh)), (2, .int (iI la)), (3, .int (iI i)), (4, .int (iI n)), (5, .int (iI w))]) (nL := 11) ?step_26 (0, mg3) (by (try dsimp only); exact ⟨by omega, fun j a b => absurd b (by omega)⟩) hP hD hS (lv_sub hl [0, 1, 2, 3, 4, 5, 6, 7, 8, 9] rfl)
                      case step_26 =>
                        intro xv_ hI ih H locs ls hP hD hS hl
                        obtain ⟨x3, mg4⟩ := xv_
                        try dsimp only at hI ih
                        obtain ⟨hx3, hre⟩ := hI
                        have hP : va_P D vwCl (W_M cI cS mA (if (ftk (lnM mss msl sh) (mss sh) la i (2 * n)) = 0 then mf else (ftk (lnM mss msl sh) (mss sh) la i (2 * n))) mn ml mk mg4 mls ms mra mrf mrk mrg mrl mrs mo_17 moo_18 moa_19 mp_20 mpp_21 mfi_22 mpl_23 mpo_24 mro_25 mdp_15 mdf_16 mhg1 mhk mR mRf mRo mss msl msh mha mt) H := hP
                        have hD : va_D A (W_M cI cS mA (if (ftk (lnM mss msl sh) (mss sh) la i (2 * n)) = 0 then mf else (ftk (lnM mss msl sh) (mss sh) la i (2 * n))) mn ml mk mg4 mls ms mra mrf mrk mrg mrl mrs mo_17 moo_18 moa_19 mp_20 mpp_21 mfi_22 mpl_23 mpo_24 mro_25 mdp_15 mdf_16 mhg1 mhk mR mRf mRo mss msl msh mha mt) := hD
                        have hl : lv_has ls 11 [(10, .int (iI x3)), (9, .int (iI (dAns mn mk mls ms (dRun mk mls ms mn (fun j => msh (((60 * sh) + i) + j)) n.toNat 0 ml mg 0 0) w))), (8, .int (iI ml)), (7, .int (iI ((60 * sh) + i))), (0, .ref (mA 0)), (1, .int (iI sh)), (2, .int (iI la)), (3, .int (iI i)), (4, .int (iI n)), (5, .int (iI w))] := hl
                        have ih_27 := ih
                        refine lv_iload hx hb dX7_day_233 (lv_at hl 0 rfl) ?_
                        refine lv_aload_n hx hb dX7_day_235 rfl (lv_at hl 4 rfl) ?_
                        refine va_get (D := D) (ci := 7) (v := .int (iI mn)) (C := RX7) (T := TX7) (N := 34) hx hb hts iw_7 hown hK.1 hP 0 rfl rfl 1 (by decide) fl_83 (fun _ h9 => h9) rfl dX7_day_236 ?_
                        refine n_icmp_ge (tgt := 262) hx hb dX7_day_239 (by decide) (by omega) (fun c_28 => ?_) (fun c_28 => ?_)
                        ·
                          refine lv_aload_n hx hb dX7_day_262 rfl (lv_at hl 4 rfl) ?_
                          refine lv_iload hx hb dX7_day_263 (lv_at hl 1 rfl) ?_
                          refine x_callVi (As := [.int (iI (dAns mn mk mls ms (dRun mk mls ms mn (fun j => msh (((60 * sh) + i) + j)) n.toNat 0 ml mg 0 0) w))]) (rest := []) ⟨hx, hb, hml, hown, hts⟩ (c_X7_refused l D cI cS mA (if (ftk (lnM mss msl sh) (mss sh) la i (2 * n)) = 0 then mf else (ftk (lnM mss msl sh) (mss sh) la i (2 * n))) mn ml mk mg4 mls ms mra mrf mrk mrg mrl mrs mo_17 moo_18 moa_19 mp_20 mpp_21 mfi_22 mpl_23 mpo_24 mro_25 mdp_15 mdf_16 mhg1 mhk mR mRf mRo mss msl msh mha mt H.size (dAns mn mk mls ms (dRun mk mls ms mn (fun j => msh (((60 * sh) + i) + j)) n.toNat 0 ml mg 0 0) w)) (cwV 1 hts gX7_day_X7_refused rfl rfl rfl (by decide +kernel) ⟨Nat.le_of_ble_eq_true rfl, Nat.le_of_ble_eq_true rfl⟩) hK hP hD hS hA [0, 1, 2, 3, 4, 5, 6, 7, 8, 9, 10, 11, 12, 13, 14, 15, 16, 17, 18, 19, 20, 21] [] (wr := ([] : va_W)) rfl rfl (by decide) (by decide) (by decide) 0 7 rfl rfl rfl [0, 1, 2, 3, 4, 5, 6, 7, 8, 9, 10, 11, 12, 13, 14, 15, 16, 17, 18, 19, 20, 21] (fun (u : Unit) => (W_M cI cS mA 0 mn ml mk mg4 mls ms mra mrf mrk mrg mrl mrs mo_17 moo_18 moa_19 mp_20 mpp_21 mfi_22 mpl_23 mpo_24 mro_25 mdp_15 mdf_16 mhg1 mhk mR mRf mRo mss msl msh mha mt)) (fun _ => rfl) (by decide) rfl hl.1 rfl (Nat.le_of_ble_eq_true rfl) ⟨Nat.zero_le _, Nat.zero_le _⟩ dX7_day_265 (fun r_ u_ H locs hw hP hD hS => ?_)
                          try dsimp only at hw
                          subst hw
                          have hP : va_P D vwCl (W_M cI cS mA 0 mn ml mk mg4 mls ms mra mrf mrk mrg mrl mrs mo_17 moo_18 moa_19 mp_20 mpp_21 mfi_22 mpl_23 mpo_24 mro_25 mdp_15 mdf_16 mhg1 mhk mR mRf mRo mss msl msh mha mt) H := hP
                          have hD : va_D A (W_M cI cS mA 0 mn ml mk mg4 mls ms mra mrf mrk mrg mrl mrs mo_17 moo_18 moa_19 mp_20 mpp_21 mfi_22 mpl_23 mpo_24 mro_25 mdp_15 mdf_16 mhg1 mhk mR mRf mRo mss msl msh mha mt) := hD
                          have e_29 : (0 : Int) = (sDayLf mn (lnM mss msl sh) (mss sh) sh la i n w) := (by unfold sDayLf; omega)
                          have hP : va_P D vwCl (W_M cI cS mA (sDayLf mn (lnM mss msl sh) (mss sh) sh la i n w) mn ml mk mg4 mls ms mra mrf mrk mrg mrl mrs mo_17 moo_18 moa_19 mp_20 mpp_21 mfi_22 mpl_23 mpo_24 mro_25 mdp_15 mdf_16 mhg1 mhk mR mRf mRo mss msl msh mha mt) H := Eq.mp (congrArg (fun z_ => va_P D vwCl (W_M cI cS mA z_ mn ml mk mg4 mls ms mra mrf mrk mrg mrl mrs mo_17 moo_18 moa_19 mp_20 mpp_21 mfi_22 mpl_23 mpo_24 mro_25 mdp_15 mdf_16 mhg1 mhk mR mRf mRo mss msl msh mha mt) H) e_29) hP
                          have hD : va_D A (W_M cI cS mA (sDayLf mn (lnM mss msl sh) (mss sh) sh la i n w) mn ml mk mg4 mls ms mra mrf mrk mrg mrl mrs mo_17 moo_18 moa_19 mp_20 mpp_21 mfi_22 mpl_23 mpo_24 mro_25 mdp_15 mdf_16 mhg1 mhk mR mRf mRo mss msl msh mha mt) := Eq.mp (congrArg (fun z_ => va_D A (W_M cI cS mA z_ mn ml mk mg4 mls ms mra mrf mrk mrg mrl mrs mo_17 moo_18 moa_19 mp_20 mpp_21 mfi_22 mpl_23 mpo_24 mro_25 mdp_15 mdf_16 mhg1 mhk mR mRf mRo mss msl msh mha mt)) e_29) hD
                          exact W.iret (v := iI (dAns mn mk mls ms (dRun mk mls ms mn (fun j => msh (((60 * sh) + i) + j)) n.toNat 0 ml mg 0 0) w)) hx hb hr (fun t ht hW => ⟨⟨_, (mdp_15, mdf_16, mg4, mhg1, mo_17, moo_18, moa_19, mp_20, mpp_21, mfi_22, mpl_23, mpo_24, mro_25), rfl, ⟨congrArg iI (show (dAns mn mk mls ms (dRun mk mls ms mn (fun j => msh (((60 * sh) + i) + j)) n.toNat 0 ml mg 0 0) w) = (sDay mn ml mk mg mls ms (lnM mss msl sh) (mss sh) (fun j => msh (60 * sh + j)) sh la i n w) from (by unfold sDay; rw [if_neg (by omega), if_neg (by omega), if_neg (by omega), if_neg (by omega), ecd, if_neg (not_not_intro hyt)])), (by (try dsimp only); exact (fun j a b => hre j a (by omega)))⟩, by rw [ht]; exact hP, hD⟩, hS.F ht⟩) hS.2.2 dX7_day_268
                        ·
                          refine lv_aload_n hx hb dX7_day_242 rfl (lv_at hl 4 rfl) ?_
                          refine va_get (D := D) (ci := 7) (v := .ref (mA 2)) (C := RX7) (T := TX7) (N := 34) hx hb hts iw_7 hown hK.1 hP 0 rfl rfl 4 (by decide) fl_13 (fun _ h9 => h9) rfl dX7_day_243 ?_
                          refine lv_iload hx hb dX7_day_246 (lv_at hl 0 rfl) ?_
                          refine lv_aload_n hx hb dX7_day_248 rfl (lv_at hl 4 rfl) ?_
                          refine va_get (D := D) (ci := 7) (v := .ref (mA 14)) (C := RX7) (T := TX7) (N := 34) hx hb hts iw_7 hown hK.1 hP 0 rfl rfl 24 (by decide) fl_49 (fun _ h9 => h9) rfl dX7_day_249 ?_
                          refine lv_iload hx hb dX7_day_252 (lv_at hl 0 rfl) ?_
                          refine n_iald (n := 5) hx hb hK.1 hP 14 0 rfl rfl (by omega) (by decide) dX7_day_254 ?_
                          refine n_iast (n := 5) hx hb hK.1 hP hD hS 2 0 rfl rfl (by omega) (by decide) dX7_day_255 (fun H locs hP hD hS => ?_)
                          have hP : va_P D vwCl (W_M cI cS mA (if (ftk (lnM mss msl sh) (mss sh) la i (2 * n)) = 0 then mf else (ftk (lnM mss msl sh) (mss sh) la i (2 * n))) mn ml mk (updI mg4 x3 (mhg1 x3)) mls ms mra mrf mrk mrg mrl mrs mo_17 moo_18 moa_19 mp_20 mpp_21 mfi_22 mpl_23 mpo_24 mro_25 mdp_15 mdf_16 mhg1 mhk mR mRf mRo mss msl msh mha mt) H := hP
                          have hD : va_D A (W_M cI cS mA (if (ftk (lnM mss msl sh) (mss sh) la i (2 * n)) = 0 then mf else (ftk (lnM mss msl sh) (mss sh) la i (2 * n))) mn ml mk (updI mg4 x3 (mhg1 x3)) mls ms mra mrf mrk mrg mrl mrs mo_17 moo_18 moa_19 mp_20 mpp_21 mfi_22 mpl_23 mpo_24 mro_25 mdp_15 mdf_16 mhg1 mhk mR mRf mRo mss msl msh mha mt) := hD
                          refine n_iinc (lv' := [(10, .int (iI (x3 + 1))), (9, .int (iI (dAns mn mk mls ms (dRun mk mls ms mn (fun j => msh (((60 * sh) + i) + j)) n.toNat 0 ml mg 0 0) w))), (8, .int (iI ml)), (7, .int (iI ((60 * sh) + i))), (0, .ref (mA 0)), (1, .int (iI sh)), (2, .int (iI la)), (3, .int (iI i)), (4, .int (iI n)), (5, .int (iI w))]) hx hb dX7_day_256 hl (k := 0) rfl (by decide) rfl (fun ls hl => ?_)
                          refine lv_goto (tgt := 233) hx hb dX7_day_259 (by decide) ?_
                          exact ih_27 ((x3 + 1), (updI mg4 x3 (mhg1 x3))) (by (try dsimp only); exact ⟨by omega, fun j a b => by
                by_cases e : j = x3
                · rw [e, updI_s]; exact hsv x3 (by omega) (by omega)
                · rw [updI_n e]; exact hre j a (by omega)⟩) (by (try dsimp only); exact (by omega)) _ _ _ hP hD hS (lv_sub hl [0, 1, 2, 3, 4, 5, 6, 7, 8, 9] rfl)
                    ·
                      refine lv_aload_n hx hb dX7_day_192 rfl (lv_at hl 3 rfl) ?_
                      refine va_get (D := D) (ci := 7) (v := .ref (mA 14)) (C := RX7) (T := TX7) (N := 34) hx hb hts iw_7 hown hK.1 hP 0 rfl rfl 24 (by decide) fl_49 (fun _ h9 => h9) rfl dX7_day_193 ?_
                      refine lv_iload hx hb dX7_day_196 (lv_at hl 0 rfl) ?_
                      refine lv_aload_n hx hb dX7_day_198 rfl (lv_at hl 3 rfl) ?_
                      refine va_get (D := D) (ci := 7) (v := .ref (mA 2)) (C := RX7) (T := TX7) (N := 34) hx hb hts iw_7 hown hK.1 hP 0 rfl rfl 4 (by decide) fl_13 (fun _ h9 => h9) rfl dX7_day_199 ?_
                      refine lv_iload hx hb dX7_day_202 (lv_at hl 0 rfl) ?_
                      refine n_iald (n := 5) hx hb hK.1 hP 2 0 rfl rfl (by omega) (by decide) dX7_day_204 ?_
                      refine n_iast (n := 5) hx hb hK.1 hP hD hS 14 0 rfl rfl (by omega) (by decide) dX7_day_205 (fun H locs hP hD hS => ?_)
                      have hP : va_P D vwCl (W_M cI cS mA (if (ftk (lnM mss msl sh) (mss sh) la i (2 * n)) = 0 then mf else (ftk (lnM mss msl sh) (mss sh) la i (2 * n))) mn ml mk mg mls ms mra mrf mrk mrg mrl mrs mo moo moa mp mpp mfi mpl mpo mro mdp mdf (updI mhg1 x2 (mg x2)) mhk mR mRf mRo mss msl msh mha mt) H := hP
                      have hD : va_D A (W_M cI cS mA (if (ftk (lnM mss msl sh) (mss sh) la i (2 * n)) = 0 then mf else (ftk (lnM mss msl sh) (mss sh) la i (2 * n))) mn ml mk mg mls ms mra mrf mrk mrg mrl mrs mo moo moa mp mpp mfi mpl mpo mro mdp mdf (updI mhg1 x2 (mg x2)) mhk mR mRf mRo mss msl msh mha mt) := hD
                      refine n_iinc (lv' := [(9, .int (iI (x2 + 1))), (8, .int (iI ml)), (7, .int (iI ((60 * sh) + i))), (0, .ref (mA 0)), (1, .int (iI sh)), (2, .int (iI la)), (3, .int (iI i)), (4, .int (iI n)), (5, .int (iI w))]) hx hb dX7_day_206 hl (k := 0) rfl (by decide) rfl (fun ls hl => ?_)
                      refine lv_goto (tgt := 183) hx hb dX7_day_209 (by decide) ?_
                      exact ih_13 ((x2 + 1), (updI mhg1 x2 (mg x2))) (by (try dsimp only); exact ⟨by omega, fun j a b => by
                by_cases e : j = x2
                · rw [e, updI_s]
                · rw [updI_n e]; exact hsv j a (by omega)⟩) (by (try dsimp only); exact (by omega)) _ _ _ hP hD hS (lv_sub hl [0, 1, 2, 3, 4, 5, 6, 7, 8] rfl)
                ·
                  obtain ⟨ay, hay⟩ : ∃ z_ : Int, z_ = msh (60 * sh + i + 2 * x) := ⟨_, rfl⟩
                  obtain ⟨bz, hbz⟩ : ∃ z_ : Int, z_ = msh (60 * sh + i + (2 * x + 1)) := ⟨_, rfl⟩
                  have hayr := hmsh (60 * sh + i + 2 * x)
                  have hbzr := hmsh (60 * sh + i + (2 * x + 1))
                  rw [← hay] at hayr
                  rw [← hbz] at hbzr
                  refine lv_aload_n hx hb dX7_day_129 rfl (lv_at hl 2 rfl) ?_
                  refine va_get (D := D) (ci := 7) (v := .ref (mA 20)) (C := RX7) (T := TX7) (N := 34) hx hb hts iw_7 hown hK.1 hP 0 rfl rfl 31 (by decide) fl_67 (fun _ h9 => h9) rfl dX7_day_130 ?_
                  refine lv_iload hx hb dX7_day_133 (lv_at hl 1 rfl) ?_
                  refine lv_iconst (v := iI 2) hx hb dX7_day_135 (by decide +kernel) ?_
                  refine lv_iload hx hb dX7_day_136 (lv_at hl 0 rfl) ?_
                  refine n_imul hx hb dX7_day_138 ?_
                  refine n_iadd hx hb dX7_day_139 ?_
                  refine n_iald (n := 240) hx hb hK.1 hP 20 0 rfl rfl (by omega) (by decide) dX7_day_140 ?_
                  rw [show (msh (((60 * sh) + i) + (2 * x))) = ay from hay.symm]
                  refine lv_aload_n hx hb dX7_day_141 rfl (lv_at hl 2 rfl) ?_
                  refine va_get (D := D) (ci := 7) (v := .ref (mA 20)) (C := RX7) (T := TX7) (N := 34) hx hb hts iw_7 hown hK.1 hP 0 rfl rfl 31 (by decide) fl_67 (fun _ h9 => h9) rfl dX7_day_142 ?_
                  refine lv_iload hx hb dX7_day_145 (lv_at hl 1 rfl) ?_
                  refine lv_iconst (v := iI 2) hx hb dX7_day_147 (by decide +kernel) ?_
                  refine lv_iload hx hb dX7_day_148 (lv_at hl 0 rfl) ?_
                  refine n_imul hx hb dX7_day_150 ?_
                  refine n_iadd hx hb dX7_day_151 ?_
                  refine lv_iconst (v := iI 1) hx hb dX7_day_152 (by decide +kernel) ?_
                  refine n_iadd hx hb dX7_day_153 ?_
                  refine n_iald (n := 240) hx hb hK.1 hP 20 0 rfl rfl (by omega) (by decide) dX7_day_154 ?_
                  rw [show (msh ((((60 * sh) + i) + (2 * x)) + 1)) = bz from (by rw [hbz, Int.add_assoc])]
                  refine x_callSi (As := [.int (iI ay), .int (iI bz)]) (rest := []) ⟨hx, hb, hml, hown, hts⟩ (c_X7_isAsTold l D cI cS H.size ay bz (by first | assumption | omega) (by first | assumption | omega)) (va_cwS 2 hts gX7_day_X7_isAsTold rfl rfl rfl (by decide +kernel) ⟨Nat.le_of_ble_eq_true rfl, Nat.le_of_ble_eq_true rfl⟩) hK hP hD hS hA [] [0, 1, 2, 3, 4, 5, 6, 7, 8, 9, 10, 11, 12, 13, 14, 15, 16, 17, 18, 19, 20, 21] (wr := [(mA 0, .inr (7, [.int (iI (if (ftk (lnM mss msl sh) (mss sh) la i (2 * n)) = 0 then mf else (ftk (lnM mss msl sh) (mss sh) la i (2 * n)))), .int (iI mn), .int (iI ml), .ref (mA 1), .ref (mA 2), .ref (mA 3), .ref (mA 4), .int (iI mra), .int (iI mrf), .ref (mA 5), .ref (mA 6), .ref (mA 7), .ref (mA 8), .int (iI mo), .ref (mA 9), .ref (mA 10), .int (iI mp), .ref (mA 11), .int (iI mfi), .int (iI mpl), .ref (mA 12), .ref (mA 13), .int (iI mdp), .int (iI mdf), .ref (mA 14), .ref (mA 15), .int (iI mR), .ref (mA 16), .ref (mA 17), .ref (mA 18), .ref (mA 19), .ref (mA 20), .ref (mA 21), .int (iI mt)])), (mA 1, .inl (cI, 5, .inl (aI mk))), (mA 2, .inl (cI, 5, .inl (aI mg))), (mA 3, .inl (cI, 5, .inl (aI mls))), (mA 4, .inl (cI, 20, .inl (aI ms))), (mA 5, .inl (cI, 5, .inl (aI mrk))), (mA 6, .inl (cI, 5, .inl (aI mrg))), (mA 7, .inl (cI, 5, .inl (aI mrl))), (mA 8, .inl (cI, 20, .inl (aI mrs))), (mA 9, .inl (cI, 5, .inl (aI moo))), (mA 10, .inl (cI, 5, .inl (aI moa))), (mA 11, .inl (cI, 1024, .inl (aI mpp))), (mA 12, .inl (cI, 5, .inl (aI mpo))), (mA 13, .inl (cI, 5, .inl (aI mro))), (mA 14, .inl (cI, 5, .inl (aI mhg))), (mA 15, .inl (cI, 5, .inl (aI mhk))), (mA 16, .inl (cI, 8, .inl (aI mRf))), (mA 17, .inl (cI, 8, .inl (aI mRo))), (mA 18, .inl (cI, 4, .inl (aI mss))), (mA 19, .inl (cI, 4, .inl (aI msl))), (mA 20, .inl (cI, 240, .inl (aI msh))), (mA 21, .inl (cI, 60, .inl (aI mha)))]) rfl rfl (by decide) (by decide) (by decide) [0, 1, 2, 3, 4, 5, 6, 7, 8, 9, 10, 11, 12, 13, 14, 15, 16, 17, 18, 19, 20, 21] (fun (u : Unit) => (W_M cI cS mA (if (ftk (lnM mss msl sh) (mss sh) la i (2 * n)) = 0 then mf else (ftk (lnM mss msl sh) (mss sh) la i (2 * n))) mn ml mk mg mls ms mra mrf mrk mrg mrl mrs mo moo moa mp mpp mfi mpl mpo mro mdp mdf mhg mhk mR mRf mRo mss msl msh mha mt)) (fun _ => rfl) (by decide) rfl hl.1 rfl (Nat.le_of_ble_eq_true rfl) ⟨Nat.zero_le _, Nat.zero_le _⟩ dX7_day_155 (fun r_ u_ H locs hw hP hD hS => ?_)
                  try dsimp only at hw
                  subst hw
                  have hP : va_P D vwCl (W_M cI cS mA (if (ftk (lnM mss msl sh) (mss sh) la i (2 * n)) = 0 then mf else (ftk (lnM mss msl sh) (mss sh) la i (2 * n))) mn ml mk mg mls ms mra mrf mrk mrg mrl mrs mo moo moa mp mpp mfi mpl mpo mro mdp mdf mhg mhk mR mRf mRo mss msl msh mha mt) H := hP
                  have hD : va_D A (W_M cI cS mA (if (ftk (lnM mss msl sh) (mss sh) la i (2 * n)) = 0 then mf else (ftk (lnM mss msl sh) (mss sh) la i (2 * n))) mn ml mk mg mls ms mra mrf mrk mrg mrl mrs mo moo moa mp mpp mfi mpl mpo mro mdp mdf mhg mhk mR mRf mRo mss msl msh mha mt) := hD
                  refine n_if_b2 (tgt := 168) hx hb dX7_day_158 (by decide)  (fun c_30 => ?_) (fun c_30 => ?_)
                  ·
                    refine n_iinc (lv' := [(8, .int (iI (x + 1))), (7, .int (iI ((60 * sh) + i))), (0, .ref (mA 0)), (1, .int (iI sh)), (2, .int (iI la)), (3, .int (iI i)), (4, .int (iI n)), (5, .int (iI w))]) hx hb dX7_day_168 hl (k := 0) rfl (by decide) rfl (fun ls hl => ?_)
                    refine lv_goto (tgt := 122) hx hb dX7_day_171 (by decide) ?_
                    exact ih_10 (x + 1) (by (try dsimp only); exact ⟨by omega, by rw [tldB_s _ hx_.1, htt, Bool.true_and]; show tld (msh (60 * sh + i + 2 * x)) (msh (60 * sh + i + (2 * x + 1))) = true; rw [← hay, ← hbz]; assumption⟩) (by (try dsimp only); exact (by omega)) _ _ _ hP hD hS (lv_sub hl [0, 1, 2, 3, 4, 5, 6, 7] rfl)
                  ·
                    have hnt : ¬ tldB (fun j => msh (60 * sh + i + j)) n.toNat = true := by
                      rw [tldB_no hx_.1 (show tld (msh (60 * sh + i + 2 * x)) (msh (60 * sh + i + (2 * x + 1))) = false by rw [← hay, ← hbz]; exact Bool.eq_false_iff.mpr (by assumption)) n.toNat (by omega)]; decide
                    refine lv_aload_n hx hb dX7_day_161 rfl (lv_at hl 2 rfl) ?_
                    refine lv_bipush (v := iI (-2)) hx hb dX7_day_162 (by decide +kernel) ?_
                    refine x_callVi (As := [.int (iI (-2))]) (rest := []) ⟨hx, hb, hml, hown, hts⟩ (c_X7_refused l D cI cS mA (if (ftk (lnM mss msl sh) (mss sh) la i (2 * n)) = 0 then mf else (ftk (lnM mss msl sh) (mss sh) la i (2 * n))) mn ml mk mg mls ms mra mrf mrk mrg mrl mrs mo moo moa mp mpp mfi mpl mpo mro mdp mdf mhg mhk mR mRf mRo mss msl msh mha mt H.size (-2)) (cwV 1 hts gX7_day_X7_refused rfl rfl rfl (by decide +kernel) ⟨Nat.le_of_ble_eq_true rfl, Nat.le_of_ble_eq_true rfl⟩) hK hP hD hS hA [0, 1, 2, 3, 4, 5, 6, 7, 8, 9, 10, 11, 12, 13, 14, 15, 16, 17, 18, 19, 20, 21] [] (wr := ([] : va_W)) rfl rfl (by decide) (by decide) (by decide) 0 7 rfl rfl rfl [0, 1, 2, 3, 4, 5, 6, 7, 8, 9, 10, 11, 12, 13, 14, 15, 16, 17, 18, 19, 20, 21] (fun (u : Unit) => (W_M cI cS mA 0 mn ml mk mg mls ms mra mrf mrk mrg mrl mrs mo moo moa mp mpp mfi mpl mpo mro mdp mdf mhg mhk mR mRf mRo mss msl msh mha mt)) (fun _ => rfl) (by decide) rfl hl.1 rfl (Nat.le_of_ble_eq_true rfl) ⟨Nat.zero_le _, Nat.zero_le _⟩ dX7_day_164 (fun r_ u_ H locs hw hP hD hS => ?_)
                    try dsimp only at hw
                    subst hw
                    have hP : va_P D vwCl (W_M cI cS mA 0 mn ml mk mg mls ms mra mrf mrk mrg mrl mrs mo moo moa mp mpp mfi mpl mpo mro mdp mdf mhg mhk mR mRf mRo mss msl msh mha mt) H := hP
                    have hD : va_D A (W_M cI cS mA 0 mn ml mk mg mls ms mra mrf mrk mrg mrl mrs mo moo moa mp mpp mfi mpl mpo mro mdp mdf mhg mhk mR mRf mRo mss msl msh mha mt) := hD
                    have e_31 : (0 : Int) = (sDayLf mn (lnM mss msl sh) (mss sh) sh la i n w) := (by unfold sDayLf; omega)
                    have hP : va_P D vwCl (W_M cI cS mA (sDayLf mn (lnM mss msl sh) (mss sh) sh la i n w) mn ml mk mg mls ms mra mrf mrk mrg mrl mrs mo moo moa mp mpp mfi mpl mpo mro mdp mdf mhg mhk mR mRf mRo mss msl msh mha mt) H := Eq.mp (congrArg (fun z_ => va_P D vwCl (W_M cI cS mA z_ mn ml mk mg mls ms mra mrf mrk mrg mrl mrs mo moo moa mp mpp mfi mpl mpo mro mdp mdf mhg mhk mR mRf mRo mss msl msh mha mt) H) e_31) hP
                    have hD : va_D A (W_M cI cS mA (sDayLf mn (lnM mss msl sh) (mss sh) sh la i n w) mn ml mk mg mls ms mra mrf mrk mrg mrl mrs mo moo moa mp mpp mfi mpl mpo mro mdp mdf mhg mhk mR mRf mRo mss msl msh mha mt) := Eq.mp (congrArg (fun z_ => va_D A (W_M cI cS mA z_ mn ml mk mg mls ms mra mrf mrk mrg mrl mrs mo moo moa mp mpp mfi mpl mpo mro mdp mdf mhg mhk mR mRf mRo mss msl msh mha mt)) e_31) hD
                    exact W.iret (v := iI (-2)) hx hb hr (fun t ht hW => ⟨⟨_, (mdp, mdf, mg, mhg, mo, moo, moa, mp, mpp, mfi, mpl, mpo, mro), rfl, ⟨congrArg iI (show (-2) = (sDay mn ml mk mg mls ms (lnM mss msl sh) (mss sh) (fun j => msh (60 * sh + j)) sh la i n w) from (by unfold sDay; rw [if_neg (by omega), if_neg (by omega), if_neg (by omega), if_neg (by omega), ecd, if_pos hnt])), (by (try dsimp only); exact (fun _ _ _ => rfl))⟩, by rw [ht]; exact hP, hD⟩, hS.F ht⟩) hS.2.2 dX7_day_167
            ·
              refine lv_iload hx hb dX7_day_108 (lv_at hl 0 rfl) ?_
              have e_32 : ((if (ftk (lnM mss msl sh) (mss sh) la i (2 * n)) = 0 then mf else (ftk (lnM mss msl sh) (mss sh) la i (2 * n))) : Int) = (sDayLf mn (lnM mss msl sh) (mss sh) sh la i n w) := (by unfold sDayLf; omega)
              have hP : va_P D vwCl (W_M cI cS mA (sDayLf mn (lnM mss msl sh) (mss sh) sh la i n w) mn ml mk mg mls ms mra mrf mrk mrg mrl mrs mo moo moa mp mpp mfi mpl mpo mro mdp mdf mhg mhk mR mRf mRo mss msl msh mha mt) H := Eq.mp (congrArg (fun z_ => va_P D vwCl (W_M cI cS mA z_ mn ml mk mg mls ms mra mrf mrk mrg mrl mrs mo moo moa mp mpp mfi mpl mpo mro mdp mdf mhg mhk mR mRf mRo mss msl msh mha mt) H) e_32) hP
              have hD : va_D A (W_M cI cS mA (sDayLf mn (lnM mss msl sh) (mss sh) sh la i n w) mn ml mk mg mls ms mra mrf mrk mrg mrl mrs mo moo moa mp mpp mfi mpl mpo mro mdp mdf mhg mhk mR mRf mRo mss msl msh mha mt) := Eq.mp (congrArg (fun z_ => va_D A (W_M cI cS mA z_ mn ml mk mg mls ms mra mrf mrk mrg mrl mrs mo moo moa mp mpp mfi mpl mpo mro mdp mdf mhg mhk mR mRf mRo mss msl msh mha mt)) e_32) hD
              exact W.iret (v := iI met) hx hb hr (fun t ht hW => ⟨⟨_, (mdp, mdf, mg, mhg, mo, moo, moa, mp, mpp, mfi, mpl, mpo, mro), rfl, ⟨congrArg iI (show met = (sDay mn ml mk mg mls ms (lnM mss msl sh) (mss sh) (fun j => msh (60 * sh + j)) sh la i n w) from (by unfold sDay; rw [if_neg (by omega), if_neg (by omega), if_neg (by omega), if_pos (by omega)]; omega)), (by (try dsimp only); exact (fun _ _ _ => rfl))⟩, by rw [ht]; exact hP, hD⟩, hS.F ht⟩) hS.2.2 dX7_day_110
          ·
            refine lv_aload_n hx hb dX7_day_80 rfl (lv_at hl 0 rfl) ?_
            refine lv_bipush (v := iI (-3)) hx hb dX7_day_81 (by decide +kernel) ?_
            refine x_callVi (As := [.int (iI (-3))]) (rest := []) ⟨hx, hb, hml, hown, hts⟩ (c_X7_refused l D cI cS mA mf mn ml mk mg mls ms mra mrf mrk mrg mrl mrs mo moo moa mp mpp mfi mpl mpo mro mdp mdf mhg mhk mR mRf mRo mss msl msh mha mt H.size (-3)) (cwV 1 hts gX7_day_X7_refused rfl rfl rfl (by decide +kernel) ⟨Nat.le_of_ble_eq_true rfl, Nat.le_of_ble_eq_true rfl⟩) hK hP hD hS hA [0, 1, 2, 3, 4, 5, 6, 7, 8, 9, 10, 11, 12, 13, 14, 15, 16, 17, 18, 19, 20, 21] [] (wr := ([] : va_W)) rfl rfl (by decide) (by decide) (by decide) 0 7 rfl rfl rfl [0, 1, 2, 3, 4, 5, 6, 7, 8, 9, 10, 11, 12, 13, 14, 15, 16, 17, 18, 19, 20, 21] (fun (u : Unit) => (W_M cI cS mA 0 mn ml mk mg mls ms mra mrf mrk mrg mrl mrs mo moo moa mp mpp mfi mpl mpo mro mdp mdf mhg mhk mR mRf mRo mss msl msh mha mt)) (fun _ => rfl) (by decide) rfl hl.1 rfl (Nat.le_of_ble_eq_true rfl) ⟨Nat.zero_le _, Nat.zero_le _⟩ dX7_day_83 (fun r_ u_ H locs hw hP hD hS => ?_)
            try dsimp only at hw
            subst hw
            have hP : va_P D vwCl (W_M cI cS mA 0 mn ml mk mg mls ms mra mrf mrk mrg mrl mrs mo moo moa mp mpp mfi mpl mpo mro mdp mdf mhg mhk mR mRf mRo mss msl msh mha mt) H := hP
            have hD : va_D A (W_M cI cS mA 0 mn ml mk mg mls ms mra mrf mrk mrg mrl mrs mo moo moa mp mpp mfi mpl mpo mro mdp mdf mhg mhk mR mRf mRo mss msl msh mha mt) := hD
            have e_33 : (0 : Int) = (sDayLf mn (lnM mss msl sh) (mss sh) sh la i n w) := (by unfold sDayLf; omega)
            have hP : va_P D vwCl (W_M cI cS mA (sDayLf mn (lnM mss msl sh) (mss sh) sh la i n w) mn ml mk mg mls ms mra mrf mrk mrg mrl mrs mo moo moa mp mpp mfi mpl mpo mro mdp mdf mhg mhk mR mRf mRo mss msl msh mha mt) H := Eq.mp (congrArg (fun z_ => va_P D vwCl (W_M cI cS mA z_ mn ml mk mg mls ms mra mrf mrk mrg mrl mrs mo moo moa mp mpp mfi mpl mpo mro mdp mdf mhg mhk mR mRf mRo mss msl msh mha mt) H) e_33) hP
            have hD : va_D A (W_M cI cS mA (sDayLf mn (lnM mss msl sh) (mss sh) sh la i n w) mn ml mk mg mls ms mra mrf mrk mrg mrl mrs mo moo moa mp mpp mfi mpl mpo mro mdp mdf mhg mhk mR mRf mRo mss msl msh mha mt) := Eq.mp (congrArg (fun z_ => va_D A (W_M cI cS mA z_ mn ml mk mg mls ms mra mrf mrk mrg mrl mrs mo moo moa mp mpp mfi mpl mpo mro mdp mdf mhg mhk mR mRf mRo mss msl msh mha mt)) e_33) hD
            exact W.iret (v := iI (-3)) hx hb hr (fun t ht hW => ⟨⟨_, (mdp, mdf, mg, mhg, mo, moo, moa, mp, mpp, mfi, mpl, mpo, mro), rfl, ⟨congrArg iI (show (-3) = (sDay mn ml mk mg mls ms (lnM mss msl sh) (mss sh) (fun j => msh (60 * sh + j)) sh la i n w) from (by unfold sDay; rw [if_neg (by omega), if_neg (by omega), if_pos (by omega)])), (by (try dsimp only); exact (fun _ _ _ => rfl))⟩, by rw [ht]; exact hP, hD⟩, hS.F ht⟩) hS.2.2 dX7_day_86
        ·
          refine lv_iload hx hb dX7_day_51 (lv_at hl 5 rfl) ?_
          refine n_i2l hx hb (by omega) dX7_day_53 ?_
          refine lv_ldc2 hx hb hown ck_202 dX7_day_54 ?_
          refine lv_ldc2 hx hb hown ck_227 dX7_day_57 ?_
          refine x_callSi (As := [.long (lI w), .long (lI 10), .long (lI 14)]) (rest := []) ⟨hx, hb, hml, hown, hts⟩ (c_X7_in l D cI cS H.size w 10 14 (by first | assumption | omega) (by first | assumption | omega) (by first | assumption | omega)) (va_cwS 3 hts gX7_day_X7_in rfl rfl rfl (by decide +kernel) ⟨Nat.le_of_ble_eq_true rfl, Nat.le_of_ble_eq_true rfl⟩) hK hP hD hS hA [] [0, 1, 2, 3, 4, 5, 6, 7, 8, 9, 10, 11, 12, 13, 14, 15, 16, 17, 18, 19, 20, 21] (wr := [(mA 0, .inr (7, [.int (iI mf), .int (iI mn), .int (iI ml), .ref (mA 1), .ref (mA 2), .ref (mA 3), .ref (mA 4), .int (iI mra), .int (iI mrf), .ref (mA 5), .ref (mA 6), .ref (mA 7), .ref (mA 8), .int (iI mo), .ref (mA 9), .ref (mA 10), .int (iI mp), .ref (mA 11), .int (iI mfi), .int (iI mpl), .ref (mA 12), .ref (mA 13), .int (iI mdp), .int (iI mdf), .ref (mA 14), .ref (mA 15), .int (iI mR), .ref (mA 16), .ref (mA 17), .ref (mA 18), .ref (mA 19), .ref (mA 20), .ref (mA 21), .int (iI mt)])), (mA 1, .inl (cI, 5, .inl (aI mk))), (mA 2, .inl (cI, 5, .inl (aI mg))), (mA 3, .inl (cI, 5, .inl (aI mls))), (mA 4, .inl (cI, 20, .inl (aI ms))), (mA 5, .inl (cI, 5, .inl (aI mrk))), (mA 6, .inl (cI, 5, .inl (aI mrg))), (mA 7, .inl (cI, 5, .inl (aI mrl))), (mA 8, .inl (cI, 20, .inl (aI mrs))), (mA 9, .inl (cI, 5, .inl (aI moo))), (mA 10, .inl (cI, 5, .inl (aI moa))), (mA 11, .inl (cI, 1024, .inl (aI mpp))), (mA 12, .inl (cI, 5, .inl (aI mpo))), (mA 13, .inl (cI, 5, .inl (aI mro))), (mA 14, .inl (cI, 5, .inl (aI mhg))), (mA 15, .inl (cI, 5, .inl (aI mhk))), (mA 16, .inl (cI, 8, .inl (aI mRf))), (mA 17, .inl (cI, 8, .inl (aI mRo))), (mA 18, .inl (cI, 4, .inl (aI mss))), (mA 19, .inl (cI, 4, .inl (aI msl))), (mA 20, .inl (cI, 240, .inl (aI msh))), (mA 21, .inl (cI, 60, .inl (aI mha)))]) rfl rfl (by decide) (by decide) (by decide) [0, 1, 2, 3, 4, 5, 6, 7, 8, 9, 10, 11, 12, 13, 14, 15, 16, 17, 18, 19, 20, 21] (fun (u : Unit) => (W_M cI cS mA mf mn ml mk mg mls ms mra mrf mrk mrg mrl mrs mo moo moa mp mpp mfi mpl mpo mro mdp mdf mhg mhk mR mRf mRo mss msl msh mha mt)) (fun _ => rfl) (by decide) rfl hl.1 rfl (Nat.le_of_ble_eq_true rfl) ⟨Nat.zero_le _, Nat.zero_le _⟩ dX7_day_60 (fun r_ u_ H locs hw hP hD hS => ?_)
          try dsimp only at hw
          subst hw
          have hP : va_P D vwCl (W_M cI cS mA mf mn ml mk mg mls ms mra mrf mrk mrg mrl mrs mo moo moa mp mpp mfi mpl mpo mro mdp mdf mhg mhk mR mRf mRo mss msl msh mha mt) H := hP
          have hD : va_D A (W_M cI cS mA mf mn ml mk mg mls ms mra mrf mrk mrg mrl mrs mo moo moa mp mpp mfi mpl mpo mro mdp mdf mhg mhk mR mRf mRo mss msl msh mha mt) := hD
          refine n_if_b2 (tgt := 73) hx hb dX7_day_63 (by decide)  (fun c_34 => ?_) (fun c_34 => ?_)
          ·
            refine lv_aload_n hx hb dX7_day_73 rfl (lv_at hl 0 rfl) ?_
            refine va_get (D := D) (ci := 7) (v := .int (iI mn)) (C := RX7) (T := TX7) (N := 34) hx hb hts iw_7 hown hK.1 hP 0 rfl rfl 1 (by decide) fl_83 (fun _ h9 => h9) rfl dX7_day_74 ?_
            refine n_if_ne (tgt := 87) hx hb dX7_day_77 (by decide) (by omega) (fun c_35 => ?_) (fun c_35 => ?_)
            ·
              refine lv_aload_n hx hb dX7_day_87 rfl (lv_at hl 0 rfl) ?_
              refine lv_iload_n hx hb dX7_day_88 rfl (lv_at hl 1 rfl) ?_
              refine lv_iload_n hx hb dX7_day_89 rfl (lv_at hl 2 rfl) ?_
              refine lv_iload_n hx hb dX7_day_90 rfl (lv_at hl 3 rfl) ?_
              refine lv_ldc2 hx hb hown ck_133 dX7_day_91 ?_
              refine lv_iload hx hb dX7_day_94 (lv_at hl 4 rfl) ?_
              refine n_i2l hx hb (by omega) dX7_day_96 ?_
              refine n_lmul hx hb dX7_day_97 ?_
              refine x_callVi (As := [.int (iI sh), .int (iI la), .int (iI i), .long (lI (2 * n))]) (rest := []) ⟨hx, hb, hml, hown, hts⟩ (c_X7_cellsBarred l D cI cS mA mf mn ml mk mg mls ms mra mrf mrk mrg mrl mrs mo moo moa mp mpp mfi mpl mpo mro mdp mdf mhg mhk mR mRf mRo mss msl msh mha mt H.size sh la i (2 * n) (by first | assumption | omega) (by first | assumption | omega) (by first | assumption | omega) (by first | assumption | omega) (by first | assumption | omega) (by first | assumption | omega)) (cwV 4 hts gX7_day_X7_cellsBarred rfl rfl rfl (by decide +kernel) ⟨Nat.le_of_ble_eq_true rfl, Nat.le_of_ble_eq_true rfl⟩) hK hP hD hS hA [0, 1, 2, 3, 4, 5, 6, 7, 8, 9, 10, 11, 12, 13, 14, 15, 16, 17, 18, 19, 20, 21] [] (wr := ([] : va_W)) rfl rfl (by decide) (by decide) (by decide) 0 7 rfl rfl rfl [0, 1, 2, 3, 4, 5, 6, 7, 8, 9, 10, 11, 12, 13, 14, 15, 16, 17, 18, 19, 20, 21] (fun (u : Unit) => (W_M cI cS mA (if (ftk (lnM mss msl sh) (mss sh) la i (2 * n)) = 0 then mf else (ftk (lnM mss msl sh) (mss sh) la i (2 * n))) mn ml mk mg mls ms mra mrf mrk mrg mrl mrs mo moo moa mp mpp mfi mpl mpo mro mdp mdf mhg mhk mR mRf mRo mss msl msh mha mt)) (fun _ => rfl) (by decide) rfl hl.1 rfl (Nat.le_of_ble_eq_true rfl) ⟨Nat.zero_le _, Nat.zero_le _⟩ dX7_day_98 (fun r_ u_ H locs hw hP hD hS => ?_)
              try dsimp only at hw
              subst hw
              have hP : va_P D vwCl (W_M cI cS mA (if (ftk (lnM mss msl sh) (mss sh) la i (2 * n)) = 0 then mf else (ftk (lnM mss msl sh) (mss sh) la i (2 * n))) mn ml mk mg mls ms mra mrf mrk mrg mrl mrs mo moo moa mp mpp mfi mpl mpo mro mdp mdf mhg mhk mR mRf mRo mss msl msh mha mt) H := hP
              have hD : va_D A (W_M cI cS mA (if (ftk (lnM mss msl sh) (mss sh) la i (2 * n)) = 0 then mf else (ftk (lnM mss msl sh) (mss sh) la i (2 * n))) mn ml mk mg mls ms mra mrf mrk mrg mrl mrs mo moo moa mp mpp mfi mpl mpo mro mdp mdf mhg mhk mR mRf mRo mss msl msh mha mt) := hD
              obtain ⟨met, h_met⟩ : ∃ z_ : Int, z_ = (if (ftk (lnM mss msl sh) (mss sh) la i (2 * n)) = 0 then 0 else (-10) - (ftk (lnM mss msl sh) (mss sh) la i (2 * n))) := ⟨_, rfl⟩
              rw [← h_met]
              have hmr := ftk_rng (lnM mss msl sh) (mss sh) la i (2 * n)
              refine lv_istore (lv' := [(6, .int (iI met)), (0, .ref (mA 0)), (1, .int (iI sh)), (2, .int (iI la)), (3, .int (iI i)), (4, .int (iI n)), (5, .int (iI w))]) hx hb dX7_day_101 hl (by decide) rfl (fun ls hl => ?_)
              refine lv_iload hx hb dX7_day_103 (lv_at hl 0 rfl) ?_
              refine n_if_ge (tgt := 111) hx hb dX7_day_105 (by decide) (by omega) (fun c_36 => ?_) (fun c_36 => ?_)
              ·
                have hf0 := ftk_0 (lane := lnM mss msl sh) (len := mss sh) (as := la) (i := i) (n := 2 * n) (by omega)
                have hs60 := hmss sh (by omega) (by omega)
                have ecd : (fun j => msh (60 * sh + (i + j))) = (fun j => msh (60 * sh + i + j)) := by funext j; rw [Int.add_assoc]
                refine lv_bipush (v := iI 60) hx hb dX7_day_111 (by decide +kernel) ?_
                refine lv_iload_n hx hb dX7_day_113 rfl (lv_at hl 2 rfl) ?_
                refine n_imul hx hb dX7_day_114 ?_
                refine lv_iload_n hx hb dX7_day_115 rfl (lv_at hl 4 rfl) ?_
                refine n_iadd hx hb dX7_day_116 ?_
                refine lv_istore (lv' := [(7, .int (iI ((60 * sh) + i))), (6, .int (iI met)), (0, .ref (mA 0)), (1, .int (iI sh)), (2, .int (iI la)), (3, .int (iI i)), (4, .int (iI n)), (5, .int (iI w))]) hx hb dX7_day_117 hl (by decide) rfl (fun ls hl => ?_)
                refine lv_iconst (v := iI 0) hx hb dX7_day_119 (by decide +kernel) ?_
                refine lv_istore (lv' := [(8, .int (iI 0)), (7, .int (iI ((60 * sh) + i))), (6, .int (iI met)), (0, .ref (mA 0)), (1, .int (iI sh)), (2, .int (iI la)), (3, .int (iI i)), (4, .int (iI n)), (5, .int (iI w))]) hx hb dX7_day_120 hl (by decide) rfl (fun ls hl => ?_)
                refine x_loop (σ := Int) (fun (x : Int) => (0 ≤ x ∧ x ≤ n) ∧ (tldB (fun j => msh (60 * sh + i + j)) x.toNat = true)) (fun (x : Int) => (n - x).toNat) (fun (x : Int) => (W_M cI cS mA (if (ftk (lnM mss msl sh) (mss sh) la i (2 * n)) = 0 then mf else (ftk (lnM mss msl sh) (mss sh) la i (2 * n))) mn ml mk mg mls ms mra mrf mrk mrg mrl mrs mo moo moa mp mpp mfi mpl mpo mro mdp mdf mhg mhk mR mRf mRo mss msl msh mha mt)) (fun (x : Int) => [(8, .int (iI x)), (7, .int (iI ((60 * sh) + i))), (0, .ref (mA 0)), (1, .int (iI sh)), (2, .int (iI la)), (3, .int (iI i)), (4, .int (iI n)), (5, .int (iI w))]) (nL := 11) ?step_37 0 (by (try dsimp only); exact ⟨by omega, rfl⟩) hP hD hS (lv_sub hl [0, 1, 3, 4, 5, 6, 7, 8] rfl)
                case step_37 =>
                  intro xv_ hI ih H locs ls hP hD hS hl
                  obtain ⟨x, ex_⟩ : ∃ z, z = xv_ := ⟨_, rfl⟩
                  subst ex_
                  try dsimp only at hI ih
                  obtain ⟨hx_, htt⟩ := hI
                  have hP : va_P D vwCl (W_M cI cS mA (if (ftk (lnM mss msl sh) (mss sh) la i (2 * n)) = 0 then mf else (ftk (lnM mss msl sh) (mss sh) la i (2 * n))) mn ml mk mg mls ms mra mrf mrk mrg mrl mrs mo moo moa mp mpp mfi mpl mpo mro mdp mdf mhg mhk mR mRf mRo mss msl msh mha mt) H := hP
                  have hD : va_D A (W_M cI cS mA (if (ftk (lnM mss msl sh) (mss sh) la i (2 * n)) = 0 then mf else (ftk (lnM mss msl sh) (mss sh) la i (2 * n))) mn ml mk mg mls ms mra mrf mrk mrg mrl mrs mo moo moa mp mpp mfi mpl mpo mro mdp mdf mhg mhk mR mRf mRo mss msl msh mha mt) := hD
                  have hl : lv_has ls 11 [(8, .int (iI x)), (7, .int (iI ((60 * sh) + i))), (0, .ref (mA 0)), (1, .int (iI sh)), (2, .int (iI la)), (3, .int (iI i)), (4, .int (iI n)), (5, .int (iI w))] := hl
                  have ih_38 := ih
                  refine lv_iload hx hb dX7_day_122 (lv_at hl 0 rfl) ?_
                  refine lv_iload hx hb dX7_day_124 (lv_at hl 6 rfl) ?_
                  refine n_icmp_ge (tgt := 174) hx hb dX7_day_126 (by decide) (by omega) (fun c_39 => ?_) (fun c_39 => ?_)
                  ·
                    have hyt : tldB (fun j => msh (60 * sh + i + j)) n.toNat = true := by rw [show n = x by omega]; exact htt
                    refine lv_aload_n hx hb dX7_day_174 rfl (lv_at hl 2 rfl) ?_
                    refine va_get (D := D) (ci := 7) (v := .int (iI ml)) (C := RX7) (T := TX7) (N := 34) hx hb hts iw_7 hown hK.1 hP 0 rfl rfl 2 (by decide) fl_142 (fun _ h9 => h9) rfl dX7_day_175 ?_
                    refine lv_istore (lv' := [(8, .int (iI ml)), (7, .int (iI ((60 * sh) + i))), (0, .ref (mA 0)), (1, .int (iI sh)), (2, .int (iI la)), (3, .int (iI i)), (4, .int (iI n)), (5, .int (iI w))]) hx hb dX7_day_178 hl (by decide) rfl (fun ls hl => ?_)
                    refine lv_iconst (v := iI 0) hx hb dX7_day_180 (by decide +kernel) ?_
                    refine lv_istore (lv' := [(9, .int (iI 0)), (8, .int (iI ml)), (7, .int (iI ((60 * sh) + i))), (0, .ref (mA 0)), (1, .int (iI sh)), (2, .int (iI la)), (3, .int (iI i)), (4, .int (iI n)), (5, .int (iI w))]) hx hb dX7_day_181 hl (by decide) rfl (fun ls hl => ?_)
                    refine x_loop (σ := Int × (Int → Int)) (fun (xv_ : Int × (Int → Int)) => match xv_ with | (x2, mhg1) => (0 ≤ x2 ∧ x2 ≤ mn) ∧ (∀ j : Int, 0 ≤ j → j < x2 → mhg1 j = mg j)) (fun (xv_ : Int × (Int → Int)) => match xv_ with | (x2, mhg1) => (mn - x2).toNat) (fun (xv_ : Int × (Int → Int)) => match xv_ with | (x2, mhg1) => (W_M cI cS mA (if (ftk (lnM mss msl sh) (mss sh) la i (2 * n)) = 0 then mf else (ftk (lnM mss msl sh) (mss sh) la i (2 * n))) mn ml mk mg mls ms mra mrf mrk mrg mrl mrs mo moo moa mp mpp mfi mpl mpo mro mdp mdf mhg1 mhk mR mRf mRo mss msl msh mha mt)) (fun (xv_ : Int × (Int → Int)) => match xv_ with | (x2, mhg1) => [(9, .int (iI x2)), (8, .int (iI ml)), (7, .int (iI ((60 * sh) + i))), (0, .ref (mA 0)), (1, .int (iI sh)), (2, .int (iI la)), (3, .int (iI i)), (4, .int (iI n)), (5, .int (iI w))]) (nL := 11) ?step_40 (0, mhg) (by (try dsimp only); exact ⟨by omega, fun j a b => absurd b (by omega)⟩) hP hD hS (lv_sub hl [0, 1, 2, 3, 4, 5, 6, 7, 8] rfl)
                    case step_40 =>
                      intro xv_ hI ih H locs ls hP hD hS hl
                      obtain ⟨x2, mhg1⟩ := xv_
                      try dsimp only at hI ih
                      obtain ⟨hx2, hsv⟩ := hI
                      have hP : va_P D vwCl (W_M cI cS mA (if (ftk (lnM mss msl sh) (mss sh) la i (2 * n)) = 0 then mf else (ftk (lnM mss msl sh) (mss sh) la i (2 * n))) mn ml mk mg mls ms mra mrf mrk mrg mrl mrs mo moo moa mp mpp mfi mpl mpo mro mdp mdf mhg1 mhk mR mRf mRo mss msl msh mha mt) H := hP
                      have hD : va_D A (W_M cI cS mA (if (ftk (lnM mss msl sh) (mss sh) la i (2 * n)) = 0 then mf else (ftk (lnM mss msl sh) (mss sh) la i (2 * n))) mn ml mk mg mls ms mra mrf mrk mrg mrl mrs mo moo moa mp mpp mfi mpl mpo mro mdp mdf mhg1 mhk mR mRf mRo mss msl msh mha mt) := hD
                      have hl : lv_has ls 11 [(9, .int (iI x2)), (8, .int (iI ml)), (7, .int (iI ((60 * sh) + i))), (0, .ref (mA 0)), (1, .int (iI sh)), (2, .int (iI la)), (3, .int (iI i)), (4, .int (iI n)), (5, .int (iI w))] := hl
                      have ih_41 := ih
                      refine lv_iload hx hb dX7_day_183 (lv_at hl 0 rfl) ?_
                      refine lv_aload_n hx hb dX7_day_185 rfl (lv_at hl 3 rfl) ?_
                      refine va_get (D := D) (ci := 7) (v := .int (iI mn)) (C := RX7) (T := TX7) (N := 34) hx hb hts iw_7 hown hK.1 hP 0 rfl rfl 1 (by decide) fl_83 (fun _ h9 => h9) rfl dX7_day_186 ?_
                      refine n_icmp_ge (tgt := 212) hx hb dX7_day_189 (by decide) (by omega) (fun c_42 => ?_) (fun c_42 => ?_)
                      ·
                        refine lv_aload_n hx hb dX7_day_212 rfl (lv_at hl 3 rfl) ?_
                        refine lv_iload hx hb dX7_day_213 (lv_at hl 2 rfl) ?_
                        refine lv_iload hx hb dX7_day_215 (lv_at hl 7 rfl) ?_
                        refine lv_iload hx hb dX7_day_217 (lv_at hl 8 rfl) ?_
                        refine x_callVi (As := [.int (iI ((60 * sh) + i)), .int (iI n), .int (iI w)]) (rest := []) ⟨hx, hb, hml, hown, hts⟩ (c_X7_dayOf l D cI cS mA (if (ftk (lnM mss msl sh) (mss sh) la i (2 * n)) = 0 then mf else (ftk (lnM mss msl sh) (mss sh) la i (2 * n))) mn ml mk mg mls ms mra mrf mrk mrg mrl mrs mo moo moa mp mpp mfi mpl mpo mro mdp mdf mhg1 mhk mR mRf mRo mss msl msh mha mt H.size ((60 * sh) + i) n w (by first | assumption | omega) (by first | assumption | omega) (by omega) (by omega) hyt (by omega)) (cwV 3 hts gX7_day_X7_dayOf rfl rfl rfl (by decide +kernel) ⟨Nat.le_of_ble_eq_true rfl, Nat.le_of_ble_eq_true rfl⟩) hK hP hD hS hA [0, 1, 2, 3, 4, 5, 6, 7, 8, 9, 10, 11, 12, 13, 14, 15, 16, 17, 18, 19, 20, 21] [] (wr := ([] : va_W)) rfl rfl (by decide) (by decide) (by decide) 0 7 rfl rfl rfl [0, 1, 2, 3, 4, 5, 6, 7, 8, 9, 10, 11, 12, 13, 14, 15, 16, 17, 18, 19, 20, 21] (fun (u : Int × Int × Int × (Int → Int) × Int × (Int → Int) × (Int → Int) × Int × (Int → Int) × Int × Int × (Int → Int) × (Int → Int)) => (W_M cI cS mA (if (ftk (lnM mss msl sh) (mss sh) la i (2 * n)) = 0 then mf else (ftk (lnM mss msl sh) (mss sh) la i (2 * n))) mn u.2.2.1 mk u.2.2.2.1 mls ms mra mrf mrk mrg mrl mrs u.2.2.2.2.1 u.2.2.2.2.2.1 u.2.2.2.2.2.2.1 u.2.2.2.2.2.2.2.1 u.2.2.2.2.2.2.2.2.1 u.2.2.2.2.2.2.2.2.2.1 u.2.2.2.2.2.2.2.2.2.2.1 u.2.2.2.2.2.2.2.2.2.2.2.1 u.2.2.2.2.2.2.2.2.2.2.2.2 u.1 u.2.1 mhg1 mhk mR mRf mRo mss msl msh mha mt)) (fun _ => rfl) (by decide) rfl hl.1 rfl (Nat.le_of_ble_eq_true rfl) ⟨Nat.zero_le _, Nat.zero_le _⟩ dX7_day_219 (fun r_ u_ H locs hw hP hD hS => ?_)
                        obtain ⟨mdp_43, mdf_44, ml3, mg3, mo_45, moo_46, moa_47, mp_48, mpp_49, mfi_50, mpl_51, mpo_52, mro_53⟩ := u_
                        try dsimp only at hw
                        subst hw
                        have hP : va_P D vwCl (W_M cI cS mA (if (ftk (lnM mss msl sh) (mss sh) la i (2 * n)) = 0 then mf else (ftk (lnM mss msl sh) (mss sh) la i (2 * n))) mn ml3 mk mg3 mls ms mra mrf mrk mrg mrl mrs mo_45 moo_46 moa_47 mp_48 mpp_49 mfi_50 mpl_51 mpo_52 mro_53 mdp_43 mdf_44 mhg1 mhk mR mRf mRo mss msl msh mha mt) H := hP
                        have hD : va_D A (W_M cI cS mA (if (ftk (lnM mss msl sh) (mss sh) la i (2 * n)) = 0 then mf else (ftk (lnM mss msl sh) (mss sh) la i (2 * n))) mn ml3 mk mg3 mls ms mra mrf mrk mrg mrl mrs mo_45 moo_46 moa_47 mp_48 mpp_49 mfi_50 mpl_51 mpo_52 mro_53 mdp_43 mdf_44 mhg1 mhk mR mRf mRo mss msl msh mha mt) := hD
                        refine lv_istore (lv' := [(9, .int (iI (dAns mn mk mls ms (dRun mk mls ms mn (fun j => msh (((60 * sh) + i) + j)) n.toNat 0 ml mg 0 0) w))), (8, .int (iI ml)), (7, .int (iI ((60 * sh) + i))), (0, .ref (mA 0)), (1, .int (iI sh)), (2, .int (iI la)), (3, .int (iI i)), (4, .int (iI n)), (5, .int (iI w))]) hx hb dX7_day_222 hl (by decide) rfl (fun ls hl => ?_)
                        refine lv_aload_n hx hb dX7_day_224 rfl (lv_at hl 3 rfl) ?_
                        refine lv_iload hx hb dX7_day_225 (lv_at hl 1 rfl) ?_
                        refine va_put (D := D) (ci := 7) (v := .int (iI ml)) (ty := .int) (C := RX7) (T := TX7) (N := 34) hx hb hts iw_7 tyX7 tyX7_ok nmX7 hown hK.1 hP hD hS 0 rfl rfl 2 (by decide) fl_142 (fun _ h9 => h9) rfl (by decide +kernel) rfl rfl (Nat.le_of_ble_eq_true rfl) dX7_day_227 (fun H locs hP hD hS => ?_)
                        have hP : va_P D vwCl (W_M cI cS mA (if (ftk (lnM mss msl sh) (mss sh) la i (2 * n)) = 0 then mf else (ftk (lnM mss msl sh) (mss sh) la i (2 * n))) mn ml mk mg3 mls ms mra mrf mrk mrg mrl mrs mo_45 moo_46 moa_47 mp_48 mpp_49 mfi_50 mpl_51 mpo_52 mro_53 mdp_43 mdf_44 mhg1 mhk mR mRf mRo mss msl msh mha mt) H := hP
                        have hD : va_D A (W_M cI cS mA (if (ftk (lnM mss msl sh) (mss sh) la i (2 * n)) = 0 then mf else (ftk (lnM mss msl sh) (mss sh) la i (2 * n))) mn ml mk mg3 mls ms mra mrf mrk mrg mrl mrs mo_45 moo_46 moa_47 mp_48 mpp_49 mfi_50 mpl_51 mpo_52 mro_53 mdp_43 mdf_44 mhg1 mhk mR mRf mRo mss msl msh mha mt) := hD
                        refine lv_iconst (v := iI 0) hx hb dX7_day_230 (by decide +kernel) ?_
                        refine lv_istore (lv' := [(10, .int (iI 0)), (9, .int (iI (dAns mn mk mls ms (dRun mk mls ms mn (fun j => msh (((60 * sh) + i) + j)) n.toNat 0 ml mg 0 0) w))), (8, .int (iI ml)), (7, .int (iI ((60 * sh) + i))), (0, .ref (mA 0)), (1, .int (iI sh)), (2, .int (iI la)), (3, .int (iI i)), (4, .int (iI n)), (5, .int (iI w))]) hx hb dX7_day_231 hl (by decide) rfl (fun ls hl => ?_)
                        refine x_loop (σ := Int × (Int → Int)) (fun (xv_ : Int × (Int → Int)) => match xv_ with | (x3, mg4) => (0 ≤ x3 ∧ x3 ≤ mn) ∧ (∀ j : Int, 0 ≤ j → j < x3 → mg4 j = mg j)) (fun (xv_ : Int × (Int → Int)) => match xv_ with | (x3, mg4) => (mn - x3).toNat) (fun (xv_ : Int × (Int → Int)) => match xv_ with | (x3, mg4) => (W_M cI cS mA (if (ftk (lnM mss msl sh) (mss sh) la i (2 * n)) = 0 then mf else (ftk (lnM mss msl sh) (mss sh) la i (2 * n))) mn ml mk mg4 mls ms mra mrf mrk mrg mrl mrs mo_45 moo_46 moa_47 mp_48 mpp_49 mfi_50 mpl_51 mpo_52 mro_53 mdp_43 mdf_44 mhg1 mhk mR mRf mRo mss msl msh mha mt)) (fun (xv_ : Int × (Int → Int)) => match xv_ with | (x3, mg4) => [(10, .int (iI x3)), (9, .int (iI (dAns mn mk mls ms (dRun mk mls ms mn (fun j => msh (((60 * sh) + i) + j)) n.toNat 0 ml mg 0 0) w))), (8, .int (iI ml)), (7, .int (iI ((60 * sh) + i))), (0, .ref (mA 0)), (1, .int (iI sh)), (2, .int (iI la)), (3, .int (iI i)), (4, .int (iI n)), (5, .int (iI w))]) (nL := 11) ?step_54 (0, mg3) (by (try dsimp only); exact ⟨by omega, fun j a b => absurd b (by omega)⟩) hP hD hS (lv_sub hl [0, 1, 2, 3, 4, 5, 6, 7, 8, 9] rfl)
                        case step_54 =>
                          intro xv_ hI ih H locs ls hP hD hS hl
                          obtain ⟨x3, mg4⟩ := xv_
                          try dsimp only at hI ih
                          obtain ⟨hx3, hre⟩ := hI
                          have hP : va_P D vwCl (W_M cI cS mA (if (ftk (lnM mss msl sh) (mss sh) la i (2 * n)) = 0 then mf else (ftk (lnM mss msl sh) (mss sh) la i (2 * n))) mn ml mk mg4 mls ms mra mrf mrk mrg mrl mrs mo_45 moo_46 moa_47 mp_48 mpp_49 mfi_50 mpl_51 mpo_52 mro_53 mdp_43 mdf_44 mhg1 mhk mR mRf mRo mss msl msh mha mt) H := hP
                          have hD : va_D A (W_M cI cS mA (if (ftk (lnM mss msl sh) (mss sh) la i (2 * n)) = 0 then mf else (ftk (lnM mss msl sh) (mss sh) la i (2 * n))) mn ml mk mg4 mls ms mra mrf mrk mrg mrl mrs mo_45 moo_46 moa_47 mp_48 mpp_49 mfi_50 mpl_51 mpo_52 mro_53 mdp_43 mdf_44 mhg1 mhk mR mRf mRo mss msl msh mha mt) := hD
                          have hl : lv_has ls 11 [(10, .int (iI x3)), (9, .int (iI (dAns mn mk mls ms (dRun mk mls ms mn (fun j => msh (((60 * sh) + i) + j)) n.toNat 0 ml mg 0 0) w))), (8, .int (iI ml)), (7, .int (iI ((60 * sh) + i))), (0, .ref (mA 0)), (1, .int (iI sh)), (2, .int (iI la)), (3, .int (iI i)), (4, .int (iI n)), (5, .int (iI w))] := hl
                          have ih_55 := ih
                          refine lv_iload hx hb dX7_day_233 (lv_at hl 0 rfl) ?_
                          refine lv_aload_n hx hb dX7_day_235 rfl (lv_at hl 4 rfl) ?_
                          refine va_get (D := D) (ci := 7) (v := .int (iI mn)) (C := RX7) (T := TX7) (N := 34) hx hb hts iw_7 hown hK.1 hP 0 rfl rfl 1 (by decide) fl_83 (fun _ h9 => h9) rfl dX7_day_236 ?_
                          refine n_icmp_ge (tgt := 262) hx hb dX7_day_239 (by decide) (by omega) (fun c_56 => ?_) (fun c_56 => ?_)
                          ·
                            refine lv_aload_n hx hb dX7_day_262 rfl (lv_at hl 4 rfl) ?_
                            refine lv_iload hx hb dX7_day_263 (lv_at hl 1 rfl) ?_
                            refine x_callVi (As := [.int (iI (dAns mn mk mls ms (dRun mk mls ms mn (fun j => msh (((60 * sh) + i) + j)) n.toNat 0 ml mg 0 0) w))]) (rest := []) ⟨hx, hb, hml, hown, hts⟩ (c_X7_refused l D cI cS mA (if (ftk (lnM mss msl sh) (mss sh) la i (2 * n)) = 0 then mf else (ftk (lnM mss msl sh) (mss sh) la i (2 * n))) mn ml mk mg4 mls ms mra mrf mrk mrg mrl mrs mo_45 moo_46 moa_47 mp_48 mpp_49 mfi_50 mpl_51 mpo_52 mro_53 mdp_43 mdf_44 mhg1 mhk mR mRf mRo mss msl msh mha mt H.size (dAns mn mk mls ms (dRun mk mls ms mn (fun j => msh (((60 * sh) + i) + j)) n.toNat 0 ml mg 0 0) w)) (cwV 1 hts gX7_day_X7_refused rfl rfl rfl (by decide +kernel) ⟨Nat.le_of_ble_eq_true rfl, Nat.le_of_ble_eq_true rfl⟩) hK hP hD hS hA [0, 1, 2, 3, 4, 5, 6, 7, 8, 9, 10, 11, 12, 13, 14, 15, 16, 17, 18, 19, 20, 21] [] (wr := ([] : va_W)) rfl rfl (by decide) (by decide) (by decide) 0 7 rfl rfl rfl [0, 1, 2, 3, 4, 5, 6, 7, 8, 9, 10, 11, 12, 13, 14, 15, 16, 17, 18, 19, 20, 21] (fun (u : Unit) => (W_M cI cS mA 0 mn ml mk mg4 mls ms mra mrf mrk mrg mrl mrs mo_45 moo_46 moa_47 mp_48 mpp_49 mfi_50 mpl_51 mpo_52 mro_53 mdp_43 mdf_44 mhg1 mhk mR mRf mRo mss msl msh mha mt)) (fun _ => rfl) (by decide) rfl hl.1 rfl (Nat.le_of_ble_eq_true rfl) ⟨Nat.zero_le _, Nat.zero_le _⟩ dX7_day_265 (fun r_ u_ H locs hw hP hD hS => ?_)
                            try dsimp only at hw
                            subst hw
                            have hP : va_P D vwCl (W_M cI cS mA 0 mn ml mk mg4 mls ms mra mrf mrk mrg mrl mrs mo_45 moo_46 moa_47 mp_48 mpp_49 mfi_50 mpl_51 mpo_52 mro_53 mdp_43 mdf_44 mhg1 mhk mR mRf mRo mss msl msh mha mt) H := hP
                            have hD : va_D A (W_M cI cS mA 0 mn ml mk mg4 mls ms mra mrf mrk mrg mrl mrs mo_45 moo_46 moa_47 mp_48 mpp_49 mfi_50 mpl_51 mpo_52 mro_53 mdp_43 mdf_44 mhg1 mhk mR mRf mRo mss msl msh mha mt) := hD
                            have e_57 : (0 : Int) = (sDayLf mn (lnM mss msl sh) (mss sh) sh la i n w) := (by unfold sDayLf; omega)
                            have hP : va_P D vwCl (W_M cI cS mA (sDayLf mn (lnM mss msl sh) (mss sh) sh la i n w) mn ml mk mg4 mls ms mra mrf mrk mrg mrl mrs mo_45 moo_46 moa_47 mp_48 mpp_49 mfi_50 mpl_51 mpo_52 mro_53 mdp_43 mdf_44 mhg1 mhk mR mRf mRo mss msl msh mha mt) H := Eq.mp (congrArg (fun z_ => va_P D vwCl (W_M cI cS mA z_ mn ml mk mg4 mls ms mra mrf mrk mrg mrl mrs mo_45 moo_46 moa_47 mp_48 mpp_49 mfi_50 mpl_51 mpo_52 mro_53 mdp_43 mdf_44 mhg1 mhk mR mRf mRo mss msl msh mha mt) H) e_57) hP
                            have hD : va_D A (W_M cI cS mA (sDayLf mn (lnM mss msl sh) (mss sh) sh la i n w) mn ml mk mg4 mls ms mra mrf mrk mrg mrl mrs mo_45 moo_46 moa_47 mp_48 mpp_49 mfi_50 mpl_51 mpo_52 mro_53 mdp_43 mdf_44 mhg1 mhk mR mRf mRo mss msl msh mha mt) := Eq.mp (congrArg (fun z_ => va_D A (W_M cI cS mA z_ mn ml mk mg4 mls ms mra mrf mrk mrg mrl mrs mo_45 moo_46 moa_47 mp_48 mpp_49 mfi_50 mpl_51 mpo_52 mro_53 mdp_43 mdf_44 mhg1 mhk mR mRf mRo mss msl msh mha mt)) e_57) hD
                            exact W.iret (v := iI (dAns mn mk mls ms (dRun mk mls ms mn (fun j => msh (((60 * sh) + i) + j)) n.toNat 0 ml mg 0 0) w)) hx hb hr (fun t ht hW => ⟨⟨_, (mdp_43, mdf_44, mg4, mhg1, mo_45, moo_46, moa_47, mp_48, mpp_49, mfi_50, mpl_51, mpo_52, mro_53), rfl, ⟨congrArg iI (show (dAns mn mk mls ms (dRun mk mls ms mn (fun j => msh (((60 * sh) + i) + j)) n.toNat 0 ml mg 0 0) w) = (sDay mn ml mk mg mls ms (lnM mss msl sh) (mss sh) (fun j => msh (60 * sh + j)) sh la i n w) from (by unfold sDay; rw [if_neg (by omega), if_neg (by omega), if_neg (by omega), if_neg (by omega), ecd, if_neg (not_not_intro hyt)])), (by (try dsimp only); exact (fun j a b => hre j a (by omega)))⟩, by rw [ht]; exact hP, hD⟩, hS.F ht⟩) hS.2.2 dX7_day_268
                          ·
                            refine lv_aload_n hx hb dX7_day_242 rfl (lv_at hl 4 rfl) ?_
                            refine va_get (D := D) (ci := 7) (v := .ref (mA 2)) (C := RX7) (T := TX7) (N := 34) hx hb hts iw_7 hown hK.1 hP 0 rfl rfl 4 (by decide) fl_13 (fun _ h9 => h9) rfl dX7_day_243 ?_
                            refine lv_iload hx hb dX7_day_246 (lv_at hl 0 rfl) ?_
                            refine lv_aload_n hx hb dX7_day_248 rfl (lv_at hl 4 rfl) ?_
                            refine va_get (D := D) (ci := 7) (v := .ref (mA 14)) (C := RX7) (T := TX7) (N := 34) hx hb hts iw_7 hown hK.1 hP 0 rfl rfl 24 (by decide) fl_49 (fun _ h9 => h9) rfl dX7_day_249 ?_
                            refine lv_iload hx hb dX7_day_252 (lv_at hl 0 rfl) ?_
                            refine n_iald (n := 5) hx hb hK.1 hP 14 0 rfl rfl (by omega) (by decide) dX7_day_254 ?_
                            refine n_iast (n := 5) hx hb hK.1 hP hD hS 2 0 rfl rfl (by omega) (by decide) dX7_day_255 (fun H locs hP hD hS => ?_)
                            have hP : va_P D vwCl (W_M cI cS mA (if (ftk (lnM mss msl sh) (mss sh) la i (2 * n)) = 0 then mf else (ftk (lnM mss msl sh) (mss sh) la i (2 * n))) mn ml mk (updI mg4 x3 (mhg1 x3)) mls ms mra mrf mrk mrg mrl mrs mo_45 moo_46 moa_47 mp_48 mpp_49 mfi_50 mpl_51 mpo_52 mro_53 mdp_43 mdf_44 mhg1 mhk mR mRf mRo mss msl msh mha mt) H := hP
                            have hD : va_D A (W_M cI cS mA (if (ftk (lnM mss msl sh) (mss sh) la i (2 * n)) = 0 then mf else (ftk (lnM mss msl sh) (mss sh) la i (2 * n))) mn ml mk (updI mg4 x3 (mhg1 x3)) mls ms mra mrf mrk mrg mrl mrs mo_45 moo_46 moa_47 mp_48 mpp_49 mfi_50 mpl_51 mpo_52 mro_53 mdp_43 mdf_44 mhg1 mhk mR mRf mRo mss msl msh mha mt) := hD
                            refine n_iinc (lv' := [(10, .int (iI (x3 + 1))), (9, .int (iI (dAns mn mk mls ms (dRun mk mls ms mn (fun j => msh (((60 * sh) + i) + j)) n.toNat 0 ml mg 0 0) w))), (8, .int (iI ml)), (7, .int (iI ((60 * sh) + i))), (0, .ref (mA 0)), (1, .int (iI sh)), (2, .int (iI la)), (3, .int (iI i)), (4, .int (iI n)), (5, .int (iI w))]) hx hb dX7_day_256 hl (k := 0) rfl (by decide) rfl (fun ls hl => ?_)
                            refine lv_goto (tgt := 233) hx hb dX7_day_259 (by decide) ?_
                            exact ih_55 ((x3 + 1), (updI mg4 x3 (mhg1 x3))) (by (try dsimp only); exact ⟨by omega, fun j a b => by
                by_cases e : j = x3
                · rw [e, updI_s]; exact hsv x3 (by omega) (by omega)
                · rw [updI_n e]; exact hre j a (by omega)⟩) (by (try dsimp only); exact (by omega)) _ _ _ hP hD hS (lv_sub hl [0, 1, 2, 3, 4, 5, 6, 7, 8, 9] rfl)
                      ·
                        refine lv_aload_n hx hb dX7_day_192 rfl (lv_at hl 3 rfl) ?_
                        refine va_get (D := D) (ci := 7) (v := .ref (mA 14)) (C := RX7) (T := TX7) (N := 34) hx hb hts iw_7 hown hK.1 hP 0 rfl rfl 24 (by decide) fl_49 (fun _ h9 => h9) rfl dX7_day_193 ?_
                        refine lv_iload hx hb dX7_day_196 (lv_at hl 0 rfl) ?_
                        refine lv_aload_n hx hb dX7_day_198 rfl (lv_at hl 3 rfl) ?_
                        refine va_get (D := D) (ci := 7) (v := .ref (mA 2)) (C := RX7) (T := TX7) (N := 34) hx hb hts iw_7 hown hK.1 hP 0 rfl rfl 4 (by decide) fl_13 (fun _ h9 => h9) rfl dX7_day_199 ?_
                        refine lv_iload hx hb dX7_day_202 (lv_at hl 0 rfl) ?_
                        refine n_iald (n := 5) hx hb hK.1 hP 2 0 rfl rfl (by omega) (by decide) dX7_day_204 ?_
                        refine n_iast (n := 5) hx hb hK.1 hP hD hS 14 0 rfl rfl (by omega) (by decide) dX7_day_205 (fun H locs hP hD hS => ?_)
                        have hP : va_P D vwCl (W_M cI cS mA (if (ftk (lnM mss msl sh) (mss sh) la i (2 * n)) = 0 then mf else (ftk (lnM mss msl sh) (mss sh) la i (2 * n))) mn ml mk mg mls ms mra mrf mrk mrg mrl mrs mo moo moa mp mpp mfi mpl mpo mro mdp mdf (updI mhg1 x2 (mg x2)) mhk mR mRf mRo mss msl msh mha mt) H := hP
                        have hD : va_D A (W_M cI cS mA (if (ftk (lnM mss msl sh) (mss sh) la i (2 * n)) = 0 then mf else (ftk (lnM mss msl sh) (mss sh) la i (2 * n))) mn ml mk mg mls ms mra mrf mrk mrg mrl mrs mo moo moa mp mpp mfi mpl mpo mro mdp mdf (updI mhg1 x2 (mg x2)) mhk mR mRf mRo mss msl msh mha mt) := hD
                        refine n_iinc (lv' := [(9, .int (iI (x2 + 1))), (8, .int (iI ml)), (7, .int (iI ((60 * sh) + i))), (0, .ref (mA 0)), (1, .int (iI sh)), (2, .int (iI la)), (3, .int (iI i)), (4, .int (iI n)), (5, .int (iI w))]) hx hb dX7_day_206 hl (k := 0) rfl (by decide) rfl (fun ls hl => ?_)
                        refine lv_goto (tgt := 183) hx hb dX7_day_209 (by decide) ?_
                        exact ih_41 ((x2 + 1), (updI mhg1 x2 (mg x2))) (by (try dsimp only); exact ⟨by omega, fun j a b => by
                by_cases e : j = x2
                · rw [e, updI_s]
                · rw [updI_n e]; exact hsv j a (by omega)⟩) (by (try dsimp only); exact (by omega)) _ _ _ hP hD hS (lv_sub hl [0, 1, 2, 3, 4, 5, 6, 7, 8] rfl)
                  ·
                    obtain ⟨ay, hay⟩ : ∃ z_ : Int, z_ = msh (60 * sh + i + 2 * x) := ⟨_, rfl⟩
                    obtain ⟨bz, hbz⟩ : ∃ z_ : Int, z_ = msh (60 * sh + i + (2 * x + 1)) := ⟨_, rfl⟩
                    have hayr := hmsh (60 * sh + i + 2 * x)
                    have hbzr := hmsh (60 * sh + i + (2 * x + 1))
                    rw [← hay] at hayr
                    rw [← hbz] at hbzr
                    refine lv_aload_n hx hb dX7_day_129 rfl (lv_at hl 2 rfl) ?_
                    refine va_get (D := D) (ci := 7) (v := .ref (mA 20)) (C := RX7) (T := TX7) (N := 34) hx hb hts iw_7 hown hK.1 hP 0 rfl rfl 31 (by decide) fl_67 (fun _ h9 => h9) rfl dX7_day_130 ?_
                    refine lv_iload hx hb dX7_day_133 (lv_at hl 1 rfl) ?_
                    refine lv_iconst (v := iI 2) hx hb dX7_day_135 (by decide +kernel) ?_
                    refine lv_iload hx hb dX7_day_136 (lv_at hl 0 rfl) ?_
                    refine n_imul hx hb dX7_day_138 ?_
                    refine n_iadd hx hb dX7_day_139 ?_
                    refine n_iald (n := 240) hx hb hK.1 hP 20 0 rfl rfl (by omega) (by decide) dX7_day_140 ?_
                    rw [show (msh (((60 * sh) + i) + (2 * x))) = ay from hay.symm]
                    refine lv_aload_n hx hb dX7_day_141 rfl (lv_at hl 2 rfl) ?_
                    refine va_get (D := D) (ci := 7) (v := .ref (mA 20)) (C := RX7) (T := TX7) (N := 34) hx hb hts iw_7 hown hK.1 hP 0 rfl rfl 31 (by decide) fl_67 (fun _ h9 => h9) rfl dX7_day_142 ?_
                    refine lv_iload hx hb dX7_day_145 (lv_at hl 1 rfl) ?_
                    refine lv_iconst (v := iI 2) hx hb dX7_day_147 (by decide +kernel) ?_
                    refine lv_iload hx hb dX7_day_148 (lv_at hl 0 rfl) ?_
                    refine n_imul hx hb dX7_day_150 ?_
                    refine n_iadd hx hb dX7_day_151 ?_
                    refine lv_iconst (v := iI 1) hx hb dX7_day_152 (by decide +kernel) ?_
                    refine n_iadd hx hb dX7_day_153 ?_
                    refine n_iald (n := 240) hx hb hK.1 hP 20 0 rfl rfl (by omega) (by decide) dX7_day_154 ?_
                    rw [show (msh ((((60 * sh) + i) + (2 * x)) + 1)) = bz from (by rw [hbz, Int.add_assoc])]
                    refine x_callSi (As := [.int (iI ay), .int (iI bz)]) (rest := []) ⟨hx, hb, hml, hown, hts⟩ (c_X7_isAsTold l D cI cS H.size ay bz (by first | assumption | omega) (by first | assumption | omega)) (va_cwS 2 hts gX7_day_X7_isAsTold rfl rfl rfl (by decide +kernel) ⟨Nat.le_of_ble_eq_true rfl, Nat.le_of_ble_eq_true rfl⟩) hK hP hD hS hA [] [0, 1, 2, 3, 4, 5, 6, 7, 8, 9, 10, 11, 12, 13, 14, 15, 16, 17, 18, 19, 20, 21] (wr := [(mA 0, .inr (7, [.int (iI (if (ftk (lnM mss msl sh) (mss sh) la i (2 * n)) = 0 then mf else (ftk (lnM mss msl sh) (mss sh) la i (2 * n)))), .int (iI mn), .int (iI ml), .ref (mA 1), .ref (mA 2), .ref (mA 3), .ref (mA 4), .int (iI mra), .int (iI mrf), .ref (mA 5), .ref (mA 6), .ref (mA 7), .ref (mA 8), .int (iI mo), .ref (mA 9), .ref (mA 10), .int (iI mp), .ref (mA 11), .int (iI mfi), .int (iI mpl), .ref (mA 12), .ref (mA 13), .int (iI mdp), .int (iI mdf), .ref (mA 14), .ref (mA 15), .int (iI mR), .ref (mA 16), .ref (mA 17), .ref (mA 18), .ref (mA 19), .ref (mA 20), .ref (mA 21), .int (iI mt)])), (mA 1, .inl (cI, 5, .inl (aI mk))), (mA 2, .inl (cI, 5, .inl (aI mg))), (mA 3, .inl (cI, 5, .inl (aI mls))), (mA 4, .inl (cI, 20, .inl (aI ms))), (mA 5, .inl (cI, 5, .inl (aI mrk))), (mA 6, .inl (cI, 5, .inl (aI mrg))), (mA 7, .inl (cI, 5, .inl (aI mrl))), (mA 8, .inl (cI, 20, .inl (aI mrs))), (mA 9, .inl (cI, 5, .inl (aI moo))), (mA 10, .inl (cI, 5, .inl (aI moa))), (mA 11, .inl (cI, 1024, .inl (aI mpp))), (mA 12, .inl (cI, 5, .inl (aI mpo))), (mA 13, .inl (cI, 5, .inl (aI mro))), (mA 14, .inl (cI, 5, .inl (aI mhg))), (mA 15, .inl (cI, 5, .inl (aI mhk))), (mA 16, .inl (cI, 8, .inl (aI mRf))), (mA 17, .inl (cI, 8, .inl (aI mRo))), (mA 18, .inl (cI, 4, .inl (aI mss))), (mA 19, .inl (cI, 4, .inl (aI msl))), (mA 20, .inl (cI, 240, .inl (aI msh))), (mA 21, .inl (cI, 60, .inl (aI mha)))]) rfl rfl (by decide) (by decide) (by decide) [0, 1, 2, 3, 4, 5, 6, 7, 8, 9, 10, 11, 12, 13, 14, 15, 16, 17, 18, 19, 20, 21] (fun (u : Unit) => (W_M cI cS mA (if (ftk (lnM mss msl sh) (mss sh) la i (2 * n)) = 0 then mf else (ftk (lnM mss msl sh) (mss sh) la i (2 * n))) mn ml mk mg mls ms mra mrf mrk mrg mrl mrs mo moo moa mp mpp mfi mpl mpo mro mdp mdf mhg mhk mR mRf mRo mss msl msh mha mt)) (fun _ => rfl) (by decide) rfl hl.1 rfl (Nat.le_of_ble_eq_true rfl) ⟨Nat.zero_le _, Nat.zero_le _⟩ dX7_day_155 (fun r_ u_ H locs hw hP hD hS => ?_)
                    try dsimp only at hw
                    subst hw
                    have hP : va_P D vwCl (W_M cI cS mA (if (ftk (lnM mss msl sh) (mss sh) la i (2 * n)) = 0 then mf else (ftk (lnM mss msl sh) (mss sh) la i (2 * n))) mn ml mk mg mls ms mra mrf mrk mrg mrl mrs mo moo moa mp mpp mfi mpl mpo mro mdp mdf mhg mhk mR mRf mRo mss msl msh mha mt) H := hP
                    have hD : va_D A (W_M cI cS mA (if (ftk (lnM mss msl sh) (mss sh) la i (2 * n)) = 0 then mf else (ftk (lnM mss msl sh) (mss sh) la i (2 * n))) mn ml mk mg mls ms mra mrf mrk mrg mrl mrs mo moo moa mp mpp mfi mpl mpo mro mdp mdf mhg mhk mR mRf mRo mss msl msh mha mt) := hD
                    refine n_if_b2 (tgt := 168) hx hb dX7_day_158 (by decide)  (fun c_58 => ?_) (fun c_58 => ?_)
                    ·
                      refine n_iinc (lv' := [(8, .int (iI (x + 1))), (7, .int (iI ((60 * sh) + i))), (0, .ref (mA 0)), (1, .int (iI sh)), (2, .int (iI la)), (3, .int (iI i)), (4, .int (iI n)), (5, .int (iI w))]) hx hb dX7_day_168 hl (k := 0) rfl (by decide) rfl (fun ls hl => ?_)
                      refine lv_goto (tgt := 122) hx hb dX7_day_171 (by decide) ?_
                      exact ih_38 (x + 1) (by (try dsimp only); exact ⟨by omega, by rw [tldB_s _ hx_.1, htt, Bool.true_and]; show tld (msh (60 * sh + i + 2 * x)) (msh (60 * sh + i + (2 * x + 1))) = true; rw [← hay, ← hbz]; assumption⟩) (by (try dsimp only); exact (by omega)) _ _ _ hP hD hS (lv_sub hl [0, 1, 2, 3, 4, 5, 6, 7] rfl)
                    ·
                      have hnt : ¬ tldB (fun j => msh (60 * sh + i + j)) n.toNat = true := by
                        rw [tldB_no hx_.1 (show tld (msh (60 * sh + i + 2 * x)) (msh (60 * sh + i + (2 * x + 1))) = false by rw [← hay, ← hbz]; exact Bool.eq_false_iff.mpr (by assumption)) n.toNat (by omega)]; decide
                      refine lv_aload_n hx hb dX7_day_161 rfl (lv_at hl 2 rfl) ?_
                      refine lv_bipush (v := iI (-2)) hx hb dX7_day_162 (by decide +kernel) ?_
                      refine x_callVi (As := [.int (iI (-2))]) (rest := []) ⟨hx, hb, hml, hown, hts⟩ (c_X7_refused l D cI cS mA (if (ftk (lnM mss msl sh) (mss sh) la i (2 * n)) = 0 then mf else (ftk (lnM mss msl sh) (mss sh) la i (2 * n))) mn ml mk mg mls ms mra mrf mrk mrg mrl mrs mo moo moa mp mpp mfi mpl mpo mro mdp mdf mhg mhk mR mRf mRo mss msl msh mha mt H.size (-2)) (cwV 1 hts gX7_day_X7_refused rfl rfl rfl (by decide +kernel) ⟨Nat.le_of_ble_eq_true rfl, Nat.le_of_ble_eq_true rfl⟩) hK hP hD hS hA [0, 1, 2, 3, 4, 5, 6, 7, 8, 9, 10, 11, 12, 13, 14, 15, 16, 17, 18, 19, 20, 21] [] (wr := ([] : va_W)) rfl rfl (by decide) (by decide) (by decide) 0 7 rfl rfl rfl [0, 1, 2, 3, 4, 5, 6, 7, 8, 9, 10, 11, 12, 13, 14, 15, 16, 17, 18, 19, 20, 21] (fun (u : Unit) => (W_M cI cS mA 0 mn ml mk mg mls ms mra mrf mrk mrg mrl mrs mo moo moa mp mpp mfi mpl mpo mro mdp mdf mhg mhk mR mRf mRo mss msl msh mha mt)) (fun _ => rfl) (by decide) rfl hl.1 rfl (Nat.le_of_ble_eq_true rfl) ⟨Nat.zero_le _, Nat.zero_le _⟩ dX7_day_164 (fun r_ u_ H locs hw hP hD hS => ?_)
                      try dsimp only at hw
                      subst hw
                      have hP : va_P D vwCl (W_M cI cS mA 0 mn ml mk mg mls ms mra mrf mrk mrg mrl mrs mo moo moa mp mpp mfi mpl mpo mro mdp mdf mhg mhk mR mRf mRo mss msl msh mha mt) H := hP
                      have hD : va_D A (W_M cI cS mA 0 mn ml mk mg mls ms mra mrf mrk mrg mrl mrs mo moo moa mp mpp mfi mpl mpo mro mdp mdf mhg mhk mR mRf mRo mss msl msh mha mt) := hD
                      have e_59 : (0 : Int) = (sDayLf mn (lnM mss msl sh) (mss sh) sh la i n w) := (by unfold sDayLf; omega)
                      have hP : va_P D vwCl (W_M cI cS mA (sDayLf mn (lnM mss msl sh) (mss sh) sh la i n w) mn ml mk mg mls ms mra mrf mrk mrg mrl mrs mo moo moa mp mpp mfi mpl mpo mro mdp mdf mhg mhk mR mRf mRo mss msl msh mha mt) H := Eq.mp (congrArg (fun z_ => va_P D vwCl (W_M cI cS mA z_ mn ml mk mg mls ms mra mrf mrk mrg mrl mrs mo moo moa mp mpp mfi mpl mpo mro mdp mdf mhg mhk mR mRf mRo mss msl msh mha mt) H) e_59) hP
                      have hD : va_D A (W_M cI cS mA (sDayLf mn (lnM mss msl sh) (mss sh) sh la i n w) mn ml mk mg mls ms mra mrf mrk mrg mrl mrs mo moo moa mp mpp mfi mpl mpo mro mdp mdf mhg mhk mR mRf mRo mss msl msh mha mt) := Eq.mp (congrArg (fun z_ => va_D A (W_M cI cS mA z_ mn ml mk mg mls ms mra mrf mrk mrg mrl mrs mo moo moa mp mpp mfi mpl mpo mro mdp mdf mhg mhk mR mRf mRo mss msl msh mha mt)) e_59) hD
                      exact W.iret (v := iI (-2)) hx hb hr (fun t ht hW => ⟨⟨_, (mdp, mdf, mg, mhg, mo, moo, moa, mp, mpp, mfi, mpl, mpo, mro), rfl, ⟨congrArg iI (show (-2) = (sDay mn ml mk mg mls ms (lnM mss msl sh) (mss sh) (fun j => msh (60 * sh + j)) sh la i n w) from (by unfold sDay; rw [if_neg (by omega), if_neg (by omega), if_neg (by omega), if_neg (by omega), ecd, if_pos hnt])), (by (try dsimp only); exact (fun _ _ _ => rfl))⟩, by rw [ht]; exact hP, hD⟩, hS.F ht⟩) hS.2.2 dX7_day_167
              ·
                refine lv_iload hx hb dX7_day_108 (lv_at hl 0 rfl) ?_
                have e_60 : ((if (ftk (lnM mss msl sh) (mss sh) la i (2 * n)) = 0 then mf else (ftk (lnM mss msl sh) (mss sh) la i (2 * n))) : Int) = (sDayLf mn (lnM mss msl sh) (mss sh) sh la i n w) := (by unfold sDayLf; omega)
                have hP : va_P D vwCl (W_M cI cS mA (sDayLf mn (lnM mss msl sh) (mss sh) sh la i n w) mn ml mk mg mls ms mra mrf mrk mrg mrl mrs mo moo moa mp mpp mfi mpl mpo mro mdp mdf mhg mhk mR mRf mRo mss msl msh mha mt) H := Eq.mp (congrArg (fun z_ => va_P D vwCl (W_M cI cS mA z_ mn ml mk mg mls ms mra mrf mrk mrg mrl mrs mo moo moa mp mpp mfi mpl mpo mro mdp mdf mhg mhk mR mRf mRo mss msl msh mha mt) H) e_60) hP
                have hD : va_D A (W_M cI cS mA (sDayLf mn (lnM mss msl sh) (mss sh) sh la i n w) mn ml mk mg mls ms mra mrf mrk mrg mrl mrs mo moo moa mp mpp mfi mpl mpo mro mdp mdf mhg mhk mR mRf mRo mss msl msh mha mt) := Eq.mp (congrArg (fun z_ => va_D A (W_M cI cS mA z_ mn ml mk mg mls ms mra mrf mrk mrg mrl mrs mo moo moa mp mpp mfi mpl mpo mro mdp mdf mhg mhk mR mRf mRo mss msl msh mha mt)) e_60) hD
                exact W.iret (v := iI met) hx hb hr (fun t ht hW => ⟨⟨_, (mdp, mdf, mg, mhg, mo, moo, moa, mp, mpp, mfi, mpl, mpo, mro), rfl, ⟨congrArg iI (show met = (sDay mn ml mk mg mls ms (lnM mss msl sh) (mss sh) (fun j => msh (60 * sh + j)) sh la i n w) from (by unfold sDay; rw [if_neg (by omega), if_neg (by omega), if_neg (by omega), if_pos (by omega)]; omega)), (by (try dsimp only); exact (fun _ _ _ => rfl))⟩, by rw [ht]; exact hP, hD⟩, hS.F ht⟩) hS.2.2 dX7_day_110
            ·
              refine lv_aload_n hx hb dX7_day_80 rfl (lv_at hl 0 rfl) ?_
              refine lv_bipush (v := iI (-3)) hx hb dX7_day_81 (by decide +kernel) ?_
              refine x_callVi (As := [.int (iI (-3))]) (rest := []) ⟨hx, hb, hml, hown, hts⟩ (c_X7_refused l D cI cS mA mf mn ml mk mg mls ms mra mrf mrk mrg mrl mrs mo moo moa mp mpp mfi mpl mpo mro mdp mdf mhg mhk mR mRf mRo mss msl msh mha mt H.size (-3)) (cwV 1 hts gX7_day_X7_refused rfl rfl rfl (by decide +kernel) ⟨Nat.le_of_ble_eq_true rfl, Nat.le_of_ble_eq_true rfl⟩) hK hP hD hS hA [0, 1, 2, 3, 4, 5, 6, 7, 8, 9, 10, 11, 12, 13, 14, 15, 16, 17, 18, 19, 20, 21] [] (wr := ([] : va_W)) rfl rfl (by decide) (by decide) (by decide) 0 7 rfl rfl rfl [0, 1, 2, 3, 4, 5, 6, 7, 8, 9, 10, 11, 12, 13, 14, 15, 16, 17, 18, 19, 20, 21] (fun (u : Unit) => (W_M cI cS mA 0 mn ml mk mg mls ms mra mrf mrk mrg mrl mrs mo moo moa mp mpp mfi mpl mpo mro mdp mdf mhg mhk mR mRf mRo mss msl msh mha mt)) (fun _ => rfl) (by decide) rfl hl.1 rfl (Nat.le_of_ble_eq_true rfl) ⟨Nat.zero_le _, Nat.zero_le _⟩ dX7_day_83 (fun r_ u_ H locs hw hP hD hS => ?_)
              try dsimp only at hw
              subst hw
              have hP : va_P D vwCl (W_M cI cS mA 0 mn ml mk mg mls ms mra mrf mrk mrg mrl mrs mo moo moa mp mpp mfi mpl mpo mro mdp mdf mhg mhk mR mRf mRo mss msl msh mha mt) H := hP
              have hD : va_D A (W_M cI cS mA 0 mn ml mk mg mls ms mra mrf mrk mrg mrl mrs mo moo moa mp mpp mfi mpl mpo mro mdp mdf mhg mhk mR mRf mRo mss msl msh mha mt) := hD
              have e_61 : (0 : Int) = (sDayLf mn (lnM mss msl sh) (mss sh) sh la i n w) := (by unfold sDayLf; omega)
              have hP : va_P D vwCl (W_M cI cS mA (sDayLf mn (lnM mss msl sh) (mss sh) sh la i n w) mn ml mk mg mls ms mra mrf mrk mrg mrl mrs mo moo moa mp mpp mfi mpl mpo mro mdp mdf mhg mhk mR mRf mRo mss msl msh mha mt) H := Eq.mp (congrArg (fun z_ => va_P D vwCl (W_M cI cS mA z_ mn ml mk mg mls ms mra mrf mrk mrg mrl mrs mo moo moa mp mpp mfi mpl mpo mro mdp mdf mhg mhk mR mRf mRo mss msl msh mha mt) H) e_61) hP
              have hD : va_D A (W_M cI cS mA (sDayLf mn (lnM mss msl sh) (mss sh) sh la i n w) mn ml mk mg mls ms mra mrf mrk mrg mrl mrs mo moo moa mp mpp mfi mpl mpo mro mdp mdf mhg mhk mR mRf mRo mss msl msh mha mt) := Eq.mp (congrArg (fun z_ => va_D A (W_M cI cS mA z_ mn ml mk mg mls ms mra mrf mrk mrg mrl mrs mo moo moa mp mpp mfi mpl mpo mro mdp mdf mhg mhk mR mRf mRo mss msl msh mha mt)) e_61) hD
              exact W.iret (v := iI (-3)) hx hb hr (fun t ht hW => ⟨⟨_, (mdp, mdf, mg, mhg, mo, moo, moa, mp, mpp, mfi, mpl, mpo, mro), rfl, ⟨congrArg iI (show (-3) = (sDay mn ml mk mg mls ms (lnM mss msl sh) (mss sh) (fun j => msh (60 * sh + j)) sh la i n w) from (by unfold sDay; rw [if_neg (by omega), if_neg (by omega), if_pos (by omega)])), (by (try dsimp only); exact (fun _ _ _ => rfl))⟩, by rw [ht]; exact hP, hD⟩, hS.F ht⟩) hS.2.2 dX7_day_86
          ·
            refine lv_aload_n hx hb dX7_day_66 rfl (lv_at hl 0 rfl) ?_
            refine lv_bipush (v := iI (-2)) hx hb dX7_day_67 (by decide +kernel) ?_
            refine x_callVi (As := [.int (iI (-2))]) (rest := []) ⟨hx, hb, hml, hown, hts⟩ (c_X7_refused l D cI cS mA mf mn ml mk mg mls ms mra mrf mrk mrg mrl mrs mo moo moa mp mpp mfi mpl mpo mro mdp mdf mhg mhk mR mRf mRo mss msl msh mha mt H.size (-2)) (cwV 1 hts gX7_day_X7_refused rfl rfl rfl (by decide +kernel) ⟨Nat.le_of_ble_eq_true rfl, Nat.le_of_ble_eq_true rfl⟩) hK hP hD hS hA [0, 1, 2, 3, 4, 5, 6, 7, 8, 9, 10, 11, 12, 13, 14, 15, 16, 17, 18, 19, 20, 21] [] (wr := ([] : va_W)) rfl rfl (by decide) (by decide) (by decide) 0 7 rfl rfl rfl [0, 1, 2, 3, 4, 5, 6, 7, 8, 9, 10, 11, 12, 13, 14, 15, 16, 17, 18, 19, 20, 21] (fun (u : Unit) => (W_M cI cS mA 0 mn ml mk mg mls ms mra mrf mrk mrg mrl mrs mo moo moa mp mpp mfi mpl mpo mro mdp mdf mhg mhk mR mRf mRo mss msl msh mha mt)) (fun _ => rfl) (by decide) rfl hl.1 rfl (Nat.le_of_ble_eq_true rfl) ⟨Nat.zero_le _, Nat.zero_le _⟩ dX7_day_69 (fun r_ u_ H locs hw hP hD hS => ?_)
            try dsimp only at hw
            subst hw
            have hP : va_P D vwCl (W_M cI cS mA 0 mn ml mk mg mls ms mra mrf mrk mrg mrl mrs mo moo moa mp mpp mfi mpl mpo mro mdp mdf mhg mhk mR mRf mRo mss msl msh mha mt) H := hP
            have hD : va_D A (W_M cI cS mA 0 mn ml mk mg mls ms mra mrf mrk mrg mrl mrs mo moo moa mp mpp mfi mpl mpo mro mdp mdf mhg mhk mR mRf mRo mss msl msh mha mt) := hD
            have e_62 : (0 : Int) = (sDayLf mn (lnM mss msl sh) (mss sh) sh la i n w) := (by unfold sDayLf; omega)
            have hP : va_P D vwCl (W_M cI cS mA (sDayLf mn (lnM mss msl sh) (mss sh) sh la i n w) mn ml mk mg mls ms mra mrf mrk mrg mrl mrs mo moo moa mp mpp mfi mpl mpo mro mdp mdf mhg mhk mR mRf mRo mss msl msh mha mt) H := Eq.mp (congrArg (fun z_ => va_P D vwCl (W_M cI cS mA z_ mn ml mk mg mls ms mra mrf mrk mrg mrl mrs mo moo moa mp mpp mfi mpl mpo mro mdp mdf mhg mhk mR mRf mRo mss msl msh mha mt) H) e_62) hP
            have hD : va_D A (W_M cI cS mA (sDayLf mn (lnM mss msl sh) (mss sh) sh la i n w) mn ml mk mg mls ms mra mrf mrk mrg mrl mrs mo moo moa mp mpp mfi mpl mpo mro mdp mdf mhg mhk mR mRf mRo mss msl msh mha mt) := Eq.mp (congrArg (fun z_ => va_D A (W_M cI cS mA z_ mn ml mk mg mls ms mra mrf mrk mrg mrl mrs mo moo moa mp mpp mfi mpl mpo mro mdp mdf mhg mhk mR mRf mRo mss msl msh mha mt)) e_62) hD
            exact W.iret (v := iI (-2)) hx hb hr (fun t ht hW => ⟨⟨_, (mdp, mdf, mg, mhg, mo, moo, moa, mp, mpp, mfi, mpl, mpo, mro), rfl, ⟨congrArg iI (show (-2) = (sDay mn ml mk mg mls ms (lnM mss msl sh) (mss sh) (fun j => msh (60 * sh + j)) sh la i n w) from (by unfold sDay; rw [if_neg (by omega), if_pos (by omega)])), (by (try dsimp only); exact (fun _ _ _ => rfl))⟩, by rw [ht]; exact hP, hD⟩, hS.F ht⟩) hS.2.2 dX7_day_72
  ·
    refine lv_aload_n hx hb dX7_day_7 rfl (lv_at hl 0 rfl) ?_
    refine lv_iconst (v := iI (-1)) hx hb dX7_day_8 (by decide +kernel) ?_
    refine x_callVi (As := [.int (iI (-1))]) (rest := []) ⟨hx, hb, hml, hown, hts⟩ (c_X7_refused l D cI cS mA mf mn ml mk mg mls ms mra mrf mrk mrg mrl mrs mo moo moa mp mpp mfi mpl mpo mro mdp mdf mhg mhk mR mRf mRo mss msl msh mha mt H.size (-1)) (cwV 1 hts gX7_day_X7_refused rfl rfl rfl (by decide +kernel) ⟨Nat.le_of_ble_eq_true rfl, Nat.le_of_ble_eq_true rfl⟩) hK hP hD hS hA [0, 1, 2, 3, 4, 5, 6, 7, 8, 9, 10, 11, 12, 13, 14, 15, 16, 17, 18, 19, 20, 21] [] (wr := ([] : va_W)) rfl rfl (by decide) (by decide) (by decide) 0 7 rfl rfl rfl [0, 1, 2, 3, 4, 5, 6, 7, 8, 9, 10, 11, 12, 13, 14, 15, 16, 17, 18, 19, 20, 21] (fun (u : Unit) => (W_M cI cS mA 0 mn ml mk mg mls ms mra mrf mrk mrg mrl mrs mo moo moa mp mpp mfi mpl mpo mro mdp mdf mhg mhk mR mRf mRo mss msl msh mha mt)) (fun _ => rfl) (by decide) rfl hl.1 rfl (Nat.le_of_ble_eq_true rfl) ⟨Nat.zero_le _, Nat.zero_le _⟩ dX7_day_9 (fun r_ u_ H locs hw hP hD hS => ?_)
    try dsimp only at hw
    subst hw
    have hP : va_P D vwCl (W_M cI cS mA 0 mn ml mk mg mls ms mra mrf mrk mrg mrl mrs mo moo moa mp mpp mfi mpl mpo mro mdp mdf mhg mhk mR mRf mRo mss msl msh mha mt) H := hP
    have hD : va_D A (W_M cI cS mA 0 mn ml mk mg mls ms mra mrf mrk mrg mrl mrs mo moo moa mp mpp mfi mpl mpo mro mdp mdf mhg mhk mR mRf mRo mss msl msh mha mt) := hD
    have e_63 : (0 : Int) = (sDayLf mn (lnM mss msl sh) (mss sh) sh la i n w) := (by unfold sDayLf; omega)
    have hP : va_P D vwCl (W_M cI cS mA (sDayLf mn (lnM mss msl sh) (mss sh) sh la i n w) mn ml mk mg mls ms mra mrf mrk mrg mrl mrs mo moo moa mp mpp mfi mpl mpo mro mdp mdf mhg mhk mR mRf mRo mss msl msh mha mt) H := Eq.mp (congrArg (fun z_ => va_P D vwCl (W_M cI cS mA z_ mn ml mk mg mls ms mra mrf mrk mrg mrl mrs mo moo moa mp mpp mfi mpl mpo mro mdp mdf mhg mhk mR mRf mRo mss msl msh mha mt) H) e_63) hP
    have hD : va_D A (W_M cI cS mA (sDayLf mn (lnM mss msl sh) (mss sh) sh la i n w) mn ml mk mg mls ms mra mrf mrk mrg mrl mrs mo moo moa mp mpp mfi mpl mpo mro mdp mdf mhg mhk mR mRf mRo mss msl msh mha mt) := Eq.mp (congrArg (fun z_ => va_D A (W_M cI cS mA z_ mn ml mk mg mls ms mra mrf mrk mrg mrl mrs mo moo moa mp mpp mfi mpl mpo mro mdp mdf mhg mhk mR mRf mRo mss msl msh mha mt)) e_63) hD
    exact W.iret (v := iI (-1)) hx hb hr (fun t ht hW => ⟨⟨_, (mdp, mdf, mg, mhg, mo, moo, moa, mp, mpp, mfi, mpl, mpo, mro), rfl, ⟨congrArg iI (show (-1) = (sDay mn ml mk mg mls ms (lnM mss msl sh) (mss sh) (fun j => msh (60 * sh + j)) sh la i n w) from (by unfold sDay; rw [if_pos (by omega)])), (by (try dsimp only); exact (fun _ _ _ => rfl))⟩, by rw [ht]; exact hP, hD⟩, hS.F ht⟩) hS.2.2 dX7_day_12
