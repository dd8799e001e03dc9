theorem orI_0 {x : Int} (h : 0 ≤ x) : orI x 0 = x := by
  obtain ⟨k, rfl⟩ := Int.eq_ofNat_of_zero_le h
  show ((k ||| 0 : Nat) : Int) = k
  rw [Nat.or_zero]
set_option maxHeartbeats 4000000 in
set_option maxRecDepth 100000 in
theorem c_X7_rows (l : Launch) (D : va_G) (cI cS : ClassId) (mA : Nat → Nat) (mf : Int) (mn : Int) (ml : Int) (mk : Int → Int) (mg : Int → Int) (mls : Int → Int) (ms : Int → Int) (mra : Int) (mrf : Int) (mrk : Int → Int) (mrg : Int → Int) (mrl : Int → Int) (mrs : Int → Int) (mo : Int) (moo : Int → Int) (moa : Int → Int) (mp : Int) (mpp : Int → Int) (mfi : Int) (mpl : Int) (mpo : Int → Int) (mro : Int → Int) (mdp : Int) (mdf : Int) (mhg : Int → Int) (mhk : Int → Int) (mR : Int) (mRf : Int → Int) (mRo : Int → Int) (mss : Int → Int) (msl : Int → Int) (msh : Int → Int) (mha : Int → Int) (mt : Int) (sz : Nat) (hok : okP mn mls ms) (hkk : okK mn mk mg ml) : Met l yX7_rows wsX7_rows ({ frames := 0, cells := 0, slots := 0, locals := 0 }) (cP D cI cS (W_M cI cS mA mf mn ml mk mg mls ms mra mrf mrk mrg mrl mrs mo moo moa mp mpp mfi mpl mpo mro mdp mdf mhg mhk mR mRf mRo mss msl msh mha mt) sz [.ref (mA 0)]) (va_Qv (fun (u : (Int → Int)) => ∀ g : Int, 0 ≤ g → g < mn → u g = rowS mk mg mls ms g) (fun (u : (Int → Int)) t => cB D (va_A (W_M cI cS mA mf mn ml mk mg mls ms mra mrf mrk mrg mrl mrs mo moo moa mp mpp mfi mpl mpo mro mdp mdf mhg mhk mR mRf mRo mss msl msh mha mt) sz) (W_M cI cS mA mf mn ml mk mg mls ms mra mrf mrk mrg mrl mrs mo moo moa mp mpp mfi mpl mpo u mdp mdf mhg mhk mR mRf mRo mss msl msh mha mt) t) (va_A (W_M cI cS mA mf mn ml mk mg mls ms mra mrf mrk mrg mrl mrs mo moo moa mp mpp mfi mpl mpo mro mdp mdf mhg mhk mR mRf mRo mss msl msh mha mt) sz)) 0 0 (va_A (W_M cI cS mA mf mn ml mk mg mls ms mra mrf mrk mrg mrl mrs mo moo moa mp mpp mfi mpl mpo mro mdp mdf mhg mhk mR mRf mRo mss msl msh mha mt) sz) := by
  refine Met.ofW (cc := cX7_rows) (maxL := 5) (ret := none) (by decide) rfl ?_
  intro p e s m args below meth c_ s₁ B hml hv
  obtain ⟨rfl, hsz, hP, hK, hD0⟩ := hv
  have hx := B.exec
  have hb := B.bytes
  have hr := B.returns
  have hts := atoms_spec (ws := wsX7_rows) B.pre
  have hown : s.vm.findClass RX7 = some m.cls := findClass_of_methodNamed B.named
  have hlocks := B.notSynchronized
  subst hsz
  have hD := hD0.self (sz := s.heap.size)
  generalize hAe : va_A (W_M cI cS mA mf mn ml mk mg mls ms mra mrf mrk mrg mrl mrs mo moo moa mp mpp mfi mpl mpo mro mdp mdf mhg mhk mR mRf mRo mss msl msh mha mt) s.heap.size = A at hD ⊢
  have hA : ∀ q : Nat, s.heap.size ≤ q → A q := fun q h => by rw [← hAe]; exact Or.inr h
  have hS : va_S A s.heap s.heap [] := va_S.rf
  have hP : va_P D vwCl (W_M cI cS mA mf mn ml mk mg mls ms mra mrf mrk mrg mrl mrs mo moo moa mp mpp mfi mpl mpo mro mdp mdf mhg mhk mR mRf mRo mss msl msh mha mt) s.heap := hP
  have hl := lv_entry ([.ref (mA 0)] : List Value) (n := 5) (Nat.le_of_ble_eq_true rfl)
  rw [lg_entry_eq]
  generalize (lg_sl ([.ref (mA 0)] : List Value) ++ List.replicate (5 - (lg_sl ([.ref (mA 0)] : List Value)).length) Slot.unset).toArray = ls at hl ⊢
  have hl : lv_has ls 5 [(0, .ref (mA 0))] := hl
  have fl_83 := hts (.fieldLink RX7 83 "ActRowsModel" "functions" "I") (by decide +kernel)
  have iw_7 : ∀ w ∈ wsX70, w ∈ wsX7_rows := by decide +kernel
  have fl_16 := hts (.fieldLink RX7 16 "ActRowsModel" "stepsOf" "[I") (by decide +kernel)
  have fl_46 := hts (.fieldLink RX7 46 "ActRowsModel" "rowOf" "[I") (by decide +kernel)
  have fl_7 := hts (.fieldLink RX7 7 "ActRowsModel" "kindOf" "[I") (by decide +kernel)
  have fl_13 := hts (.fieldLink RX7 13 "ActRowsModel" "guardOf" "[I") (by decide +kernel)
  have fl_19 := hts (.fieldLink RX7 19 "ActRowsModel" "stepOf" "[I") (by decide +kernel)
  have hmn := hok.1
  have hln := hok.2.1
  refine lv_iconst (v := iI 0) hx hb dX7_rows_0 (by decide +kernel) ?_
  refine lv_istore_n (lv' := [(1, .int (iI 0)), (0, .ref (mA 0))]) hx hb dX7_rows_1 rfl hl (by decide) rfl (fun ls hl => ?_)
  refine x_loop (σ := Int × (Int → Int)) (fun (xv_ : Int × (Int → Int)) => match xv_ with | (f, mro1) => (0 ≤ f ∧ f ≤ mn) ∧ (∀ g : Int, 0 ≤ g → g < f → mro1 g = rowS mk mg mls ms g)) (fun (xv_ : Int × (Int → Int)) => match xv_ with | (f, mro1) => (mn - f).toNat) (fun (xv_ : Int × (Int → Int)) => match xv_ with | (f, mro1) => (W_M cI cS mA mf mn ml mk mg mls ms mra mrf mrk mrg mrl mrs mo moo moa mp mpp mfi mpl mpo mro1 mdp mdf mhg mhk mR mRf mRo mss msl msh mha mt)) (fun (xv_ : Int × (Int → Int)) => match xv_ with | (f, mro1) => [(1, .int (iI f)), (0, .ref (mA 0))]) (nL := 5) ?step_1 (0, mro) (by (try dsimp only); exact ⟨by omega, fun g h0 h1 => absurd h1 (by omega)⟩) hP hD hS (lv_sub hl [0, 1] rfl)
  case step_1 =>
    intro xv_ hI ih H locs ls hP hD hS hl
    obtain ⟨f, mro1⟩ := xv_
    try dsimp only at hI ih
    obtain ⟨hf, hT⟩ := hI
    have hP : va_P D vwCl (W_M cI cS mA mf mn ml mk mg mls ms mra mrf mrk mrg mrl mrs mo moo moa mp mpp mfi mpl mpo mro1 mdp mdf mhg mhk mR mRf mRo mss msl msh mha mt) H := hP
    have hD : va_D A (W_M cI cS mA mf mn ml mk mg mls ms mra mrf mrk mrg mrl mrs mo moo moa mp mpp mfi mpl mpo mro1 mdp mdf mhg mhk mR mRf mRo mss msl msh mha mt) := hD
    have hl : lv_has ls 5 [(1, .int (iI f)), (0, .ref (mA 0))] := hl
    have ih_2 := ih
    refine lv_iload_n hx hb dX7_rows_2 rfl (lv_at hl 0 rfl) ?_
    refine lv_aload_n hx hb dX7_rows_3 rfl (lv_at hl 1 rfl) ?_
    refine va_get (D := D) (ci := 7) (v := .int (iI mn)) (C := RX7) (T := TX7) (N := 34) hx hb hts iw_7 hown hK.1 hP 0 rfl rfl 1 (by decide) fl_83 (fun _ h9 => h9) rfl dX7_rows_4 ?_
    refine n_icmp_ge (tgt := 116) hx hb dX7_rows_7 (by decide) (by omega) (fun c_3 => ?_) (fun c_3 => ?_)
    ·
      exact W.vret hx hb hr (fun t ht hW => ⟨⟨(mro1), rfl, (by (try dsimp only); exact (fun g h0 h1 => hT g h0 (by omega))), by rw [ht]; exact hP, hD⟩, hS.F ht⟩) hS.2.2 dX7_rows_116
    ·
      have hf2 : 0 ≤ f ∧ f < mn := by omega
      have hlf := hln f hf2.1 hf2.2
      have hkf := hkk.1 f hf2.1 hf2.2
      refine lv_iconst (v := iI 0) hx hb dX7_rows_10 (by decide +kernel) ?_
      refine lv_istore_n (lv' := [(2, .int (iI 0)), (1, .int (iI f)), (0, .ref (mA 0))]) hx hb dX7_rows_11 rfl hl (by decide) rfl (fun ls hl => ?_)
      refine lv_iconst (v := iI 0) hx hb dX7_rows_12 (by decide +kernel) ?_
      refine lv_istore_n (lv' := [(3, .int (iI 0)), (2, .int (iI 0)), (1, .int (iI f)), (0, .ref (mA 0))]) hx hb dX7_rows_13 rfl hl (by decide) rfl (fun ls hl => ?_)
      refine x_loop (σ := Int × Int) (fun (xv_ : Int × Int) => match xv_ with | (row, i) => (0 ≤ i ∧ i ≤ mls f) ∧ (row = rowGo (fun i => ms (f * 4 + i)) (rowS mk mg mls ms) i.toNat)) (fun (xv_ : Int × Int) => match xv_ with | (row, i) => (mls f - i).toNat) (fun (xv_ : Int × Int) => match xv_ with | (row, i) => (W_M cI cS mA mf mn ml mk mg mls ms mra mrf mrk mrg mrl mrs mo moo moa mp mpp mfi mpl mpo mro1 mdp mdf mhg mhk mR mRf mRo mss msl msh mha mt)) (fun (xv_ : Int × Int) => match xv_ with | (row, i) => [(3, .int (iI i)), (2, .int (iI row)), (1, .int (iI f)), (0, .ref (mA 0))]) (nL := 5) ?step_4 (0, 0) (by (try dsimp only); exact ⟨by omega, rfl⟩) hP hD hS (lv_sub hl [0, 1, 2, 3] rfl)
      case step_4 =>
        intro xv_ hI ih H locs ls hP hD hS hl
        obtain ⟨row, i⟩ := xv_
        try dsimp only at hI ih
        obtain ⟨hi, hrow⟩ := hI
        have hP : va_P D vwCl (W_M cI cS mA mf mn ml mk mg mls ms mra mrf mrk mrg mrl mrs mo moo moa mp mpp mfi mpl mpo mro1 mdp mdf mhg mhk mR mRf mRo mss msl msh mha mt) H := hP
        have hD : va_D A (W_M cI cS mA mf mn ml mk mg mls ms mra mrf mrk mrg mrl mrs mo moo moa mp mpp mfi mpl mpo mro1 mdp mdf mhg mhk mR mRf mRo mss msl msh mha mt) := hD
        have hl : lv_has ls 5 [(3, .int (iI i)), (2, .int (iI row)), (1, .int (iI f)), (0, .ref (mA 0))] := hl
        have hrr : 0 ≤ row ∧ row < 16 := by
          rw [hrow]; refine rowGo_rng _ (fun j hj1 hj2 => ?_)
          have hv := hok.2.2 f hf2.1 hf2.2 j hj1 (by omega)
          exact ⟨hv.1, fun h4 => rowS_rng hok (fun j a b => (hkk.1 j a b).2) _ (by omega) (by omega)⟩
        have hpg := pow2_4 (k := mg f) (by omega)
        have hsg := shr_rng (x := row) (k := mg f) (by omega)
        have hbg : bit row (mg f) = row / pow2 (mg f) % 2 := rfl
        have ih_5 := ih
        refine lv_iload_n hx hb dX7_rows_14 rfl (lv_at hl 0 rfl) ?_
        refine lv_aload_n hx hb dX7_rows_15 rfl (lv_at hl 3 rfl) ?_
        refine va_get (D := D) (ci := 7) (v := .ref (mA 3)) (C := RX7) (T := TX7) (N := 34) hx hb hts iw_7 hown hK.1 hP 0 rfl rfl 5 (by decide) fl_16 (fun _ h9 => h9) rfl dX7_rows_16 ?_
        refine lv_iload_n hx hb dX7_rows_19 rfl (lv_at hl 2 rfl) ?_
        refine n_iald (n := 5) hx hb hK.1 hP 3 0 rfl rfl (by omega) (by decide) dX7_rows_20 ?_
        refine n_icmp_ge (tgt := 67) hx hb dX7_rows_21 (by decide) (by omega) (fun c_6 => ?_) (fun c_6 => ?_)
        ·
          refine lv_aload_n hx hb dX7_rows_67 rfl (lv_at hl 3 rfl) ?_
          refine va_get (D := D) (ci := 7) (v := .ref (mA 13)) (C := RX7) (T := TX7) (N := 34) hx hb hts iw_7 hown hK.1 hP 0 rfl rfl 21 (by decide) fl_46 (fun _ h9 => h9) rfl dX7_rows_68 ?_
          refine lv_iload_n hx hb dX7_rows_71 rfl (lv_at hl 2 rfl) ?_
          refine lv_aload_n hx hb dX7_rows_72 rfl (lv_at hl 3 rfl) ?_
          refine va_get (D := D) (ci := 7) (v := .ref (mA 1)) (C := RX7) (T := TX7) (N := 34) hx hb hts iw_7 hown hK.1 hP 0 rfl rfl 3 (by decide) fl_7 (fun _ h9 => h9) rfl dX7_rows_73 ?_
          refine lv_iload_n hx hb dX7_rows_76 rfl (lv_at hl 2 rfl) ?_
          refine n_iald (n := 5) hx hb hK.1 hP 1 0 rfl rfl (by omega) (by decide) dX7_rows_77 ?_
          refine n_if_le (tgt := 108) hx hb dX7_rows_78 (by decide) (by omega) (fun c_7 => ?_) (fun c_7 => ?_)
          ·
            refine lv_iload_n hx hb dX7_rows_108 rfl (lv_at hl 1 rfl) ?_
            refine n_iast (n := 5) hx hb hK.1 hP hD hS 13 0 rfl rfl (by omega) (by decide) dX7_rows_109 (fun H locs hP hD hS => ?_)
            have hP : va_P D vwCl (W_M cI cS mA mf mn ml mk mg mls ms mra mrf mrk mrg mrl mrs mo moo moa mp mpp mfi mpl mpo (updI mro1 f row) mdp mdf mhg mhk mR mRf mRo mss msl msh mha mt) H := hP
            have hD : va_D A (W_M cI cS mA mf mn ml mk mg mls ms mra mrf mrk mrg mrl mrs mo moo moa mp mpp mfi mpl mpo (updI mro1 f row) mdp mdf mhg mhk mR mRf mRo mss msl msh mha mt) := hD
            refine n_iinc (lv' := [(1, .int (iI (f + 1))), (3, .int (iI i)), (2, .int (iI row)), (0, .ref (mA 0))]) hx hb dX7_rows_110 hl (k := 2) rfl (by decide) rfl (fun ls hl => ?_)
            refine lv_goto (tgt := 2) hx hb dX7_rows_113 (by decide) ?_
            exact ih_2 ((f + 1), (updI mro1 f row)) (by (try dsimp only); exact ⟨by omega, fun g h0 h1 => by
            by_cases e : g = f
            · rw [e, updI_s, rowS_un hok hf.1 hf2.2, ← show i = mls f by omega, ← hrow]; unfold rowK wo; omega
            · rw [updI_n e]; exact hT g h0 (by omega)⟩) (by (try dsimp only); exact (by omega)) _ _ _ hP hD hS (lv_sub hl [0, 3] rfl)
          ·
            refine lv_iload_n hx hb dX7_rows_81 rfl (lv_at hl 1 rfl) ?_
            refine lv_aload_n hx hb dX7_rows_82 rfl (lv_at hl 3 rfl) ?_
            refine va_get (D := D) (ci := 7) (v := .ref (mA 2)) (C := RX7) (T := TX7) (N := 34) hx hb hts iw_7 hown hK.1 hP 0 rfl rfl 4 (by decide) fl_13 (fun _ h9 => h9) rfl dX7_rows_83 ?_
            refine lv_iload_n hx hb dX7_rows_86 rfl (lv_at hl 2 rfl) ?_
            refine n_iald (n := 5) hx hb hK.1 hP 2 0 rfl rfl (by omega) (by decide) dX7_rows_87 ?_
            refine n_ishr (z := (row / pow2 (mg f))) (b_shr (by omega)) hx hb dX7_rows_88 ?_
            refine lv_iconst (v := iI 1) hx hb dX7_rows_89 (by decide +kernel) ?_
            refine n_iand (z := ((row / pow2 (mg f)) % 2)) (b_and1 (by omega)) hx hb dX7_rows_90 ?_
            refine lv_iconst (v := iI 1) hx hb dX7_rows_91 (by decide +kernel) ?_
            refine n_icmp_ne (tgt := 108) hx hb dX7_rows_92 (by decide) (by omega) (fun c_8 => ?_) (fun c_8 => ?_)
            ·
              refine lv_iload_n hx hb dX7_rows_108 rfl (lv_at hl 1 rfl) ?_
              refine n_iast (n := 5) hx hb hK.1 hP hD hS 13 0 rfl rfl (by omega) (by decide) dX7_rows_109 (fun H locs hP hD hS => ?_)
              have hP : va_P D vwCl (W_M cI cS mA mf mn ml mk mg mls ms mra mrf mrk mrg mrl mrs mo moo moa mp mpp mfi mpl mpo (updI mro1 f row) mdp mdf mhg mhk mR mRf mRo mss msl msh mha mt) H := hP
              have hD : va_D A (W_M cI cS mA mf mn ml mk mg mls ms mra mrf mrk mrg mrl mrs mo moo moa mp mpp mfi mpl mpo (updI mro1 f row) mdp mdf mhg mhk mR mRf mRo mss msl msh mha mt) := hD
              refine n_iinc (lv' := [(1, .int (iI (f + 1))), (3, .int (iI i)), (2, .int (iI row)), (0, .ref (mA 0))]) hx hb dX7_rows_110 hl (k := 2) rfl (by decide) rfl (fun ls hl => ?_)
              refine lv_goto (tgt := 2) hx hb dX7_rows_113 (by decide) ?_
              exact ih_2 ((f + 1), (updI mro1 f row)) (by (try dsimp only); exact ⟨by omega, fun g h0 h1 => by
            by_cases e : g = f
            · rw [e, updI_s, rowS_un hok hf.1 hf2.2, ← show i = mls f by omega, ← hrow]; unfold rowK wo; omega
            · rw [updI_n e]; exact hT g h0 (by omega)⟩) (by (try dsimp only); exact (by omega)) _ _ _ hP hD hS (lv_sub hl [0, 3] rfl)
            ·
              refine lv_iload_n hx hb dX7_rows_95 rfl (lv_at hl 1 rfl) ?_
              refine lv_iconst (v := iI 1) hx hb dX7_rows_96 (by decide +kernel) ?_
              refine lv_aload_n hx hb dX7_rows_97 rfl (lv_at hl 3 rfl) ?_
              refine va_get (D := D) (ci := 7) (v := .ref (mA 2)) (C := RX7) (T := TX7) (N := 34) hx hb hts iw_7 hown hK.1 hP 0 rfl rfl 4 (by decide) fl_13 (fun _ h9 => h9) rfl dX7_rows_98 ?_
              refine lv_iload_n hx hb dX7_rows_101 rfl (lv_at hl 2 rfl) ?_
              refine n_iald (n := 5) hx hb hK.1 hP 2 0 rfl rfl (by omega) (by decide) dX7_rows_102 ?_
              refine n_ishl (z := (pow2 (mg f))) (b_shl (by omega)) hx hb dX7_rows_103 ?_
              refine n_isub hx hb dX7_rows_104 ?_
              refine lv_goto (tgt := 109) hx hb dX7_rows_105 (by decide) ?_
              refine n_iast (n := 5) hx hb hK.1 hP hD hS 13 0 rfl rfl (by omega) (by decide) dX7_rows_109 (fun H locs hP hD hS => ?_)
              have hP : va_P D vwCl (W_M cI cS mA mf mn ml mk mg mls ms mra mrf mrk mrg mrl mrs mo moo moa mp mpp mfi mpl mpo (updI mro1 f (row - (pow2 (mg f)))) mdp mdf mhg mhk mR mRf mRo mss msl msh mha mt) H := hP
              have hD : va_D A (W_M cI cS mA mf mn ml mk mg mls ms mra mrf mrk mrg mrl mrs mo moo moa mp mpp mfi mpl mpo (updI mro1 f (row - (pow2 (mg f)))) mdp mdf mhg mhk mR mRf mRo mss msl msh mha mt) := hD
              refine n_iinc (lv' := [(1, .int (iI (f + 1))), (3, .int (iI i)), (2, .int (iI row)), (0, .ref (mA 0))]) hx hb dX7_rows_110 hl (k := 2) rfl (by decide) rfl (fun ls hl => ?_)
              refine lv_goto (tgt := 2) hx hb dX7_rows_113 (by decide) ?_
              exact ih_2 ((f + 1), (updI mro1 f (row - (pow2 (mg f))))) (by (try dsimp only); exact ⟨by omega, fun g h0 h1 => by
            by_cases e : g = f
            · rw [e, updI_s, rowS_un hok hf.1 hf2.2, ← show i = mls f by omega, ← hrow]; unfold rowK wo; omega
            · rw [updI_n e]; exact hT g h0 (by omega)⟩) (by (try dsimp only); exact (by omega)) _ _ _ hP hD hS (lv_sub hl [0, 3] rfl)
        ·
          obtain ⟨v, hv0⟩ : ∃ z_ : Int, z_ = ms (f * 4 + i) := ⟨_, rfl⟩
          have hvr := hok.2.2 f hf2.1 hf2.2 i hi.1 (by omega)
          rw [← hv0] at hvr
          refine lv_aload_n hx hb dX7_rows_24 rfl (lv_at hl 3 rfl) ?_
          refine va_get (D := D) (ci := 7) (v := .ref (mA 4)) (C := RX7) (T := TX7) (N := 34) hx hb hts iw_7 hown hK.1 hP 0 rfl rfl 6 (by decide) fl_19 (fun _ h9 => h9) rfl dX7_rows_25 ?_
          refine lv_iconst (v := iI 4) hx hb dX7_rows_28 (by decide +kernel) ?_
          refine lv_iload_n hx hb dX7_rows_29 rfl (lv_at hl 2 rfl) ?_
          refine n_imul hx hb dX7_rows_30 ?_
          refine lv_iload_n hx hb dX7_rows_31 rfl (lv_at hl 0 rfl) ?_
          refine n_iadd hx hb dX7_rows_32 ?_
          refine n_iald (n := 20) hx hb hK.1 hP 4 0 rfl rfl (by omega) (by decide) dX7_rows_33 ?_
          rw [show (ms ((4 * f) + i)) = v from (by rw [hv0, Int.mul_comm 4])]
          refine lv_istore (lv' := [(4, .int (iI v)), (3, .int (iI i)), (2, .int (iI row)), (1, .int (iI f)), (0, .ref (mA 0))]) hx hb dX7_rows_34 hl (by decide) rfl (fun ls hl => ?_)
          refine lv_iload_n hx hb dX7_rows_36 rfl (lv_at hl 2 rfl) ?_
          refine lv_iload hx hb dX7_rows_37 (lv_at hl 0 rfl) ?_
          refine lv_iconst (v := iI 4) hx hb dX7_rows_39 (by decide +kernel) ?_
          refine n_icmp_ge (tgt := 50) hx hb dX7_rows_40 (by decide) (by omega) (fun c_9 => ?_) (fun c_9 => ?_)
          ·
            have hp2 := rowS_rng (K := mk) hok (fun j a b => (hkk.1 j a b).2) (v - 4) (by omega) (by omega)
            rw [← hT (v - 4) (by omega) (by omega)] at hp2
            refine lv_aload_n hx hb dX7_rows_50 rfl (lv_at hl 4 rfl) ?_
            refine va_get (D := D) (ci := 7) (v := .ref (mA 13)) (C := RX7) (T := TX7) (N := 34) hx hb hts iw_7 hown hK.1 hP 0 rfl rfl 21 (by decide) fl_46 (fun _ h9 => h9) rfl dX7_rows_51 ?_
            refine lv_iload hx hb dX7_rows_54 (lv_at hl 0 rfl) ?_
            refine lv_iconst (v := iI 4) hx hb dX7_rows_56 (by decide +kernel) ?_
            refine n_isub hx hb dX7_rows_57 ?_
            refine n_iald (n := 5) hx hb hK.1 hP 13 0 rfl rfl (by omega) (by decide) dX7_rows_58 ?_
            refine n_ior (z := (orI row (mro1 (v - 4)))) (b_or (by omega)) hx hb dX7_rows_59 ?_
            refine lv_istore_n (lv' := [(2, .int (iI (orI row (mro1 (v - 4))))), (4, .int (iI v)), (3, .int (iI i)), (1, .int (iI f)), (0, .ref (mA 0))]) hx hb dX7_rows_60 rfl hl (by decide) rfl (fun ls hl => ?_)
            refine n_iinc (lv' := [(3, .int (iI (i + 1))), (2, .int (iI (orI row (mro1 (v - 4))))), (4, .int (iI v)), (1, .int (iI f)), (0, .ref (mA 0))]) hx hb dX7_rows_61 hl (k := 2) rfl (by decide) rfl (fun ls hl => ?_)
            refine lv_goto (tgt := 14) hx hb dX7_rows_64 (by decide) ?_
            exact ih_5 ((orI row (mro1 (v - 4))), (i + 1)) (by (try dsimp only); exact ⟨by omega, by rw [rowGo_s _ _ hi.1, ← hrow, ← hv0]; first | (rw [if_pos (by omega), ← hT (v - 4) (by omega) (by omega)]; done) | (rw [if_neg (by omega)]; done)⟩) (by (try dsimp only); exact (by omega)) _ _ _ hP hD hS (lv_sub hl [0, 1, 3, 4] rfl)
          ·
            have hp2 := pow2_4 (k := v) (by omega)
            refine lv_iconst (v := iI 1) hx hb dX7_rows_43 (by decide +kernel) ?_
            refine lv_iload hx hb dX7_rows_44 (lv_at hl 0 rfl) ?_
            refine n_ishl (z := (pow2 v)) (b_shl (by omega)) hx hb dX7_rows_46 ?_
            refine lv_goto (tgt := 59) hx hb dX7_rows_47 (by decide) ?_
            refine n_ior (z := (orI row (pow2 v))) (b_or (by omega)) hx hb dX7_rows_59 ?_
            refine lv_istore_n (lv' := [(2, .int (iI (orI row (pow2 v)))), (4, .int (iI v)), (3, .int (iI i)), (1, .int (iI f)), (0, .ref (mA 0))]) hx hb dX7_rows_60 rfl hl (by decide) rfl (fun ls hl => ?_)
            refine n_iinc (lv' := [(3, .int (iI (i + 1))), (2, .int (iI (orI row (pow2 v)))), (4, .int (iI v)), (1, .int (iI f)), (0, .ref (mA 0))]) hx hb dX7_rows_61 hl (k := 2) rfl (by decide) rfl (fun ls hl => ?_)
            refine lv_goto (tgt := 14) hx hb dX7_rows_64 (by decide) ?_
            exact ih_5 ((orI row (pow2 v)), (i + 1)) (by (try dsimp only); exact ⟨by omega, by rw [rowGo_s _ _ hi.1, ← hrow, ← hv0]; first | (rw [if_pos (by omega), ← hT (v - 4) (by omega) (by omega)]; done) | (rw [if_neg (by omega)]; done)⟩) (by (try dsimp only); exact (by omega)) _ _ _ hP hD hS (lv_sub hl [0, 1, 3, 4] rfl)
set_option maxHeartbeats 4000000 in
set_option maxRecDepth 100000 in
theorem c_X7_mayOf (l : Launch) (D : va_G) (cI cS : ClassId) (mA : Nat → Nat) (mf : Int) (mn : Int) (ml : Int) (mk : Int → Int) (mg : Int → Int) (mls : Int → Int) (ms : Int → Int) (mra : Int) (mrf : Int) (mrk : Int → Int) (mrg : Int → Int) (mrl : Int → Int) (mrs : Int → Int) (mo : Int) (moo : Int → Int) (moa : Int → Int) (mp : Int) (mpp : Int → Int) (mfi : Int) (mpl : Int) (mpo : Int → Int) (mro : Int → Int) (mdp : Int) (mdf : Int) (mhg : Int → Int) (mhk : Int → Int) (mR : Int) (mRf : Int → Int) (mRo : Int → Int) (mss : Int → Int) (msl : Int → Int) (msh : Int → Int) (mha : Int → Int) (mt : Int) (sz : Nat) (f : Int) (hok : okP mn mls ms) (hkk : okK mn mk mg ml) (hf : 0 ≤ f ∧ f < mn) : Met l yX7_mayOf wsX7_mayOf ({ frames := 5, cells := 0, slots := 0, locals := 113 }) (cP D cI cS (W_M cI cS mA mf mn ml mk mg mls ms mra mrf mrk mrg mrl mrs mo moo moa mp mpp mfi mpl mpo mro mdp mdf mhg mhk mR mRf mRo mss msl msh mha mt) sz [.ref (mA 0), .int (iI f)]) (va_Qi (fun (r : Int32) (u : Int × (Int → Int) × (Int → Int) × Int × (Int → Int) × Int × Int × (Int → Int)) => r = iI (mayGo (fun x => (sem mk mg x mls ms f).1) 16)) (fun (u : Int × (Int → Int) × (Int → Int) × Int × (Int → Int) × Int × Int × (Int → Int)) t => cB D (va_A (W_M cI cS mA mf mn ml mk mg mls ms mra mrf mrk mrg mrl mrs mo moo moa mp mpp mfi mpl mpo mro mdp mdf mhg mhk mR mRf mRo mss msl msh mha mt) sz) (W_M cI cS mA mf mn ml mk mg mls ms mra mrf mrk mrg mrl mrs u.1 u.2.1 u.2.2.1 u.2.2.2.1 u.2.2.2.2.1 u.2.2.2.2.2.1 u.2.2.2.2.2.2.1 u.2.2.2.2.2.2.2 mro mdp mdf mhg mhk mR mRf mRo mss msl msh mha mt) t) (va_A (W_M cI cS mA mf mn ml mk mg mls ms mra mrf mrk mrg mrl mrs mo moo moa mp mpp mfi mpl mpo mro mdp mdf mhg mhk mR mRf mRo mss msl msh mha mt) sz)) 0 0 (va_A (W_M cI cS mA mf mn ml mk mg mls ms mra mrf mrk mrg mrl mrs mo moo moa mp mpp mfi mpl mpo mro mdp mdf mhg mhk mR mRf mRo mss msl msh mha mt) sz) := by
  refine Met.ofW (cc := cX7_mayOf) (maxL := 5) (ret := (some .int)) (by decide) rfl ?_
  intro p e s m args below meth c_ s₁ B hml hv
  obtain ⟨rfl, hsz, hP, hK, hD0⟩ := hv
  have hx := B.exec
  have hb := B.bytes
  have hr := B.returns
  have hts := atoms_spec (ws := wsX7_mayOf) B.pre
  have hown : s.vm.findClass RX7 = some m.cls := findClass_of_methodNamed B.named
  have hlocks := B.notSynchronized
  subst hsz
  have hD := hD0.self (sz := s.heap.size)
  generalize hAe : va_A (W_M cI cS mA mf mn ml mk mg mls ms mra mrf mrk mrg mrl mrs mo moo moa mp mpp mfi mpl mpo mro mdp mdf mhg mhk mR mRf mRo mss msl msh mha mt) s.heap.size = A at hD ⊢
  have hA : ∀ q : Nat, s.heap.size ≤ q → A q := fun q h => by rw [← hAe]; exact Or.inr h
  have hS : va_S A s.heap s.heap [] := va_S.rf
  have hP : va_P D vwCl (W_M cI cS mA mf mn ml mk mg mls ms mra mrf mrk mrg mrl mrs mo moo moa mp mpp mfi mpl mpo mro mdp mdf mhg mhk mR mRf mRo mss msl msh mha mt) s.heap := hP
  have hl := lv_entry ([.ref (mA 0), .int (iI f)] : List Value) (n := 5) (Nat.le_of_ble_eq_true rfl)
  rw [lg_entry_eq]
  generalize (lg_sl ([.ref (mA 0), .int (iI f)] : List Value) ++ List.replicate (5 - (lg_sl ([.ref (mA 0), .int (iI f)] : List Value)).length) Slot.unset).toArray = ls at hl ⊢
  have hl : lv_has ls 5 [(0, .ref (mA 0)), (1, .int (iI f))] := hl
  have hmn := hok.1
  have hln := hok.2.1
  refine lv_iconst (v := iI 0) hx hb dX7_mayOf_0 (by decide +kernel) ?_
  refine lv_istore_n (lv' := [(2, .int (iI 0)), (0, .ref (mA 0)), (1, .int (iI f))]) hx hb dX7_mayOf_1 rfl hl (by decide) rfl (fun ls hl => ?_)
  refine lv_iconst (v := iI 0) hx hb dX7_mayOf_2 (by decide +kernel) ?_
  refine lv_istore_n (lv' := [(3, .int (iI 0)), (2, .int (iI 0)), (0, .ref (mA 0)), (1, .int (iI f))]) hx hb dX7_mayOf_3 rfl hl (by decide) rfl (fun ls hl => ?_)
  refine x_loop (σ := Int × Int × Int × (Int → Int) × (Int → Int) × Int × (Int → Int) × Int × Int × (Int → Int)) (fun (xv_ : Int × Int × Int × (Int → Int) × (Int → Int) × Int × (Int → Int) × Int × Int × (Int → Int)) => match xv_ with | (may, x, mo9, moo9, moa9, mp9, mpp9, mfi9, mpl9, mpo9) => (0 ≤ x ∧ x ≤ 16) ∧ (may = mayGo (fun x => (sem mk mg x mls ms f).1) x.toNat)) (fun (xv_ : Int × Int × Int × (Int → Int) × (Int → Int) × Int × (Int → Int) × Int × Int × (Int → Int)) => match xv_ with | (may, x, mo9, moo9, moa9, mp9, mpp9, mfi9, mpl9, mpo9) => (16 - x).toNat) (fun (xv_ : Int × Int × Int × (Int → Int) × (Int → Int) × Int × (Int → Int) × Int × Int × (Int → Int)) => match xv_ with | (may, x, mo9, moo9, moa9, mp9, mpp9, mfi9, mpl9, mpo9) => (W_M cI cS mA mf mn ml mk mg mls ms mra mrf mrk mrg mrl mrs mo9 moo9 moa9 mp9 mpp9 mfi9 mpl9 mpo9 mro mdp mdf mhg mhk mR mRf mRo mss msl msh mha mt)) (fun (xv_ : Int × Int × Int × (Int → Int) × (Int → Int) × Int × (Int → Int) × Int × Int × (Int → Int)) => match xv_ with | (may, x, mo9, moo9, moa9, mp9, mpp9, mfi9, mpl9, mpo9) => [(3, .int (iI x)), (2, .int (iI may)), (0, .ref (mA 0)), (1, .int (iI f))]) (nL := 5) ?step_1 (0, 0, mo, moo, moa, mp, mpp, mfi, mpl, mpo) (by (try dsimp only); exact ⟨by omega, rfl⟩) hP hD hS (lv_sub hl [0, 1, 2, 3] rfl)
  case step_1 =>
    intro xv_ hI ih H locs ls hP hD hS hl
    obtain ⟨may, x, mo9, moo9, moa9, mp9, mpp9, mfi9, mpl9, mpo9⟩ := xv_
    try dsimp only at hI ih
    obtain ⟨hs_, hm⟩ := hI
    have hP : va_P D vwCl (W_M cI cS mA mf mn ml mk mg mls ms mra mrf mrk mrg mrl mrs mo9 moo9 moa9 mp9 mpp9 mfi9 mpl9 mpo9 mro mdp mdf mhg mhk mR mRf mRo mss msl msh mha mt) H := hP
    have hD : va_D A (W_M cI cS mA mf mn ml mk mg mls ms mra mrf mrk mrg mrl mrs mo9 moo9 moa9 mp9 mpp9 mfi9 mpl9 mpo9 mro mdp mdf mhg mhk mR mRf mRo mss msl msh mha mt) := hD
    have hl : lv_has ls 5 [(3, .int (iI x)), (2, .int (iI may)), (0, .ref (mA 0)), (1, .int (iI f))] := hl
    have hmr := mayGo_rng (o := (fun x => (sem mk mg x mls ms f).1)) (fun x => (sem_ok (K := mk) (G := mg) (L := x) hok f hf.1 hf.2).1) x.toNat
    rw [← hm] at hmr
    have ih_2 := ih
    refine lv_iload_n hx hb dX7_mayOf_4 rfl (lv_at hl 0 rfl) ?_
    refine lv_bipush (v := iI 16) hx hb dX7_mayOf_5 (by decide +kernel) ?_
    refine n_icmp_ge (tgt := 40) hx hb dX7_mayOf_7 (by decide) (by omega) (fun c_3 => ?_) (fun c_3 => ?_)
    ·
      refine lv_iload_n hx hb dX7_mayOf_40 rfl (lv_at hl 1 rfl) ?_
      exact W.iret (v := iI may) hx hb hr (fun t ht hW => ⟨⟨_, (mo9, moo9, moa9, mp9, mpp9, mfi9, mpl9, mpo9), rfl, congrArg iI (show may = (mayGo (fun x => (sem mk mg x mls ms f).1) 16) from (by rw [hm, show x = 16 by omega]; rfl)), by rw [ht]; exact hP, hD⟩, hS.F ht⟩) hS.2.2 dX7_mayOf_41
    ·
      refine lv_aload_n hx hb dX7_mayOf_10 rfl (lv_at hl 2 rfl) ?_
      refine lv_iload_n hx hb dX7_mayOf_11 rfl (lv_at hl 3 rfl) ?_
      refine lv_iload_n hx hb dX7_mayOf_12 rfl (lv_at hl 0 rfl) ?_
      refine x_callVi (As := [.int (iI f), .int (iI x)]) (rest := []) ⟨hx, hb, hml, hown, hts⟩ (c_X7_runsBy l D cI cS mA mf mn ml mk mg mls ms mra mrf mrk mrg mrl mrs mo9 moo9 moa9 mp9 mpp9 mfi9 mpl9 mpo9 mro mdp mdf mhg mhk mR mRf mRo mss msl msh mha mt H.size f x (by first | assumption | omega) ⟨hkk.1, by omega⟩ (by first | assumption | omega)) (cwV 2 hts gX7_mayOf_X7_runsBy rfl rfl rfl (by decide +kernel) ⟨Nat.le_of_ble_eq_true rfl, Nat.le_of_ble_eq_true rfl⟩) hK hP hD hS hA [0, 1, 2, 3, 4, 5, 6, 7, 8, 9, 10, 11, 12, 13, 14, 15, 16, 17, 18, 19, 20, 21] [] (wr := ([] : va_W)) rfl rfl (by decide) (by decide) (by decide) 0 7 rfl rfl rfl [0, 1, 2, 3, 4, 5, 6, 7, 8, 9, 10, 11, 12, 13, 14, 15, 16, 17, 18, 19, 20, 21] (fun (u : Int × (Int → Int) × (Int → Int) × Int × (Int → Int) × Int × Int × (Int → Int)) => (W_M cI cS mA mf mn ml mk mg mls ms mra mrf mrk mrg mrl mrs u.1 u.2.1 u.2.2.1 u.2.2.2.1 u.2.2.2.2.1 u.2.2.2.2.2.1 u.2.2.2.2.2.2.1 u.2.2.2.2.2.2.2 mro mdp mdf mhg mhk mR mRf mRo mss msl msh mha mt)) (fun _ => rfl) (by decide) rfl hl.1 rfl (Nat.le_of_ble_eq_true rfl) ⟨Nat.zero_le _, Nat.zero_le _⟩ dX7_mayOf_13 (fun r_ u_ H locs hw hP hD hS => ?_)
      obtain ⟨mo_4, moo_5, moa_6, mp_7, mpp_8, mfi_9, mpl_10, mpo_11⟩ := u_
      try dsimp only at hw
      subst hw
      have hP : va_P D vwCl (W_M cI cS mA mf mn ml mk mg mls ms mra mrf mrk mrg mrl mrs mo_4 moo_5 moa_6 mp_7 mpp_8 mfi_9 mpl_10 mpo_11 mro mdp mdf mhg mhk mR mRf mRo mss msl msh mha mt) H := hP
      have hD : va_D A (W_M cI cS mA mf mn ml mk mg mls ms mra mrf mrk mrg mrl mrs mo_4 moo_5 moa_6 mp_7 mpp_8 mfi_9 mpl_10 mpo_11 mro mdp mdf mhg mhk mR mRf mRo mss msl msh mha mt) := hD
      obtain ⟨o1z, h_o1z⟩ : ∃ z_ : Int, z_ = (if (sem mk mg x mls ms f).1 = 4 then (-9) else (sem mk mg x mls ms f).1) := ⟨_, rfl⟩
      rw [← h_o1z]
      obtain ⟨o1, ho1⟩ : ∃ z_ : Int, z_ = (sem mk mg x mls ms f).1 := ⟨_, rfl⟩
      have ho1r := (sem_ok (K := mk) (G := mg) (L := x) hok f (by omega) (by omega)).1
      rw [← ho1] at ho1r h_o1z
      refine lv_istore (lv' := [(4, .int (iI o1z)), (3, .int (iI x)), (2, .int (iI may)), (0, .ref (mA 0)), (1, .int (iI f))]) hx hb dX7_mayOf_16 hl (by decide) rfl (fun ls hl => ?_)
      refine lv_iload_n hx hb dX7_mayOf_18 rfl (lv_at hl 2 rfl) ?_
      refine lv_iload hx hb dX7_mayOf_19 (lv_at hl 0 rfl) ?_
      refine n_if_ge (tgt := 28) hx hb dX7_mayOf_21 (by decide) (by omega) (fun c_12 => ?_) (fun c_12 => ?_)
      ·
        have hp2 := pow2_4 (k := o1z) (by omega)
        have hzo : o1z = o1 := by omega
        refine lv_iconst (v := iI 1) hx hb dX7_mayOf_28 (by decide +kernel) ?_
        refine lv_iload hx hb dX7_mayOf_29 (lv_at hl 0 rfl) ?_
        refine n_ishl (z := (pow2 o1z)) (b_shl (by omega)) hx hb dX7_mayOf_31 ?_
        refine n_ior (z := (orI may (pow2 o1z))) (b_or (by omega)) hx hb dX7_mayOf_32 ?_
        refine lv_istore_n (lv' := [(2, .int (iI (orI may (pow2 o1z)))), (4, .int (iI o1z)), (3, .int (iI x)), (0, .ref (mA 0)), (1, .int (iI f))]) hx hb dX7_mayOf_33 rfl hl (by decide) rfl (fun ls hl => ?_)
        refine n_iinc (lv' := [(3, .int (iI (x + 1))), (2, .int (iI (orI may (pow2 o1z)))), (4, .int (iI o1z)), (0, .ref (mA 0)), (1, .int (iI f))]) hx hb dX7_mayOf_34 hl (k := 2) rfl (by decide) rfl (fun ls hl => ?_)
        refine lv_goto (tgt := 4) hx hb dX7_mayOf_37 (by decide) ?_
        exact ih_2 ((orI may (pow2 o1z)), (x + 1), mo_4, moo_5, moa_6, mp_7, mpp_8, mfi_9, mpl_10, mpo_11) (by (try dsimp only); exact ⟨by omega, by rw [mayGo_s _ hs_.1, ← hm, ← ho1]; first | (rw [if_pos (by omega)]; exact orI_0 (by omega)) | (rw [if_neg (by omega), hzo])⟩) (by (try dsimp only); exact (by omega)) _ _ _ hP hD hS (lv_sub hl [0, 1, 3, 4] rfl)
      ·
        refine lv_iconst (v := iI 0) hx hb dX7_mayOf_24 (by decide +kernel) ?_
        refine lv_goto (tgt := 32) hx hb dX7_mayOf_25 (by decide) ?_
        refine n_ior (z := (orI may 0)) (b_or (by omega)) hx hb dX7_mayOf_32 ?_
        refine lv_istore_n (lv' := [(2, .int (iI (orI may 0))), (4, .int (iI o1z)), (3, .int (iI x)), (0, .ref (mA 0)), (1, .int (iI f))]) hx hb dX7_mayOf_33 rfl hl (by decide) rfl (fun ls hl => ?_)
        refine n_iinc (lv' := [(3, .int (iI (x + 1))), (2, .int (iI (orI may 0))), (4, .int (iI o1z)), (0, .ref (mA 0)), (1, .int (iI f))]) hx hb dX7_mayOf_34 hl (k := 2) rfl (by decide) rfl (fun ls hl => ?_)
        refine lv_goto (tgt := 4) hx hb dX7_mayOf_37 (by decide) ?_
        exact ih_2 ((orI may 0), (x + 1), mo_4, moo_5, moa_6, mp_7, mpp_8, mfi_9, mpl_10, mpo_11) (by (try dsimp only); exact ⟨by omega, by rw [mayGo_s _ hs_.1, ← hm, ← ho1]; first | (rw [if_pos (by omega)]; exact orI_0 (by omega)) | (rw [if_neg (by omega), hzo])⟩) (by (try dsimp only); exact (by omega)) _ _ _ hP hD hS (lv_sub hl [0, 1, 3, 4] rfl)
set_option maxHeartbeats 4000000 in
set_option maxRecDepth 100000 in
theorem c_X7_ofFunction (l : Launch) (D : va_G) (cI cS : ClassId) (mA : Nat → Nat) (mf : Int) (mn : Int) (ml : Int) (mk : Int → Int) (mg : Int → Int) (mls : Int → Int) (ms : Int → Int) (mra : Int) (mrf : Int) (mrk : Int → Int) (mrg : Int → Int) (mrl : Int → Int) (mrs : Int → Int) (mo : Int) (moo : Int → Int) (moa : Int → Int) (mp : Int) (mpp : Int → Int) (mfi : Int) (mpl : Int) (mpo : Int → Int) (mro : Int → Int) (mdp : Int) (mdf : Int) (mhg : Int → Int) (mhk : Int → Int) (mR : Int) (mRf : Int → Int) (mRo : Int → Int) (mss : Int → Int) (msl : Int → Int) (msh : Int → Int) (mha : Int → Int) (mt : Int) (sz : Nat) (f : Int) (w : Int) (hok : okP mn mls ms) (hkk : okK mn mk mg ml) (hfr : -2147483648 ≤ f ∧ f < 2147483648) (hwr : -2147483648 ≤ w ∧ w < 2147483648) : Met l yX7_ofFunction wsX7_ofFunction ({ frames := 6, cells := 0, slots := 0, locals := 137 }) (cP D cI cS (W_M cI cS mA mf mn ml mk mg mls ms mra mrf mrk mrg mrl mrs mo moo moa mp mpp mfi mpl mpo mro mdp mdf mhg mhk mR mRf mRo mss msl msh mha mt) sz [.ref (mA 0), .int (iI f), .int (iI w)]) (va_Qi (fun (r : Int32) (u : Int × (Int → Int) × (Int → Int) × Int × (Int → Int) × Int × Int × (Int → Int) × (Int → Int)) => r = iI (sOf mn mk mg mls ms f w)) (fun (u : Int × (Int → Int) × (Int → Int) × Int × (Int → Int) × Int × Int × (Int → Int) × (Int → Int)) t => cB D (va_A (W_M cI cS mA mf mn ml mk mg mls ms mra mrf mrk mrg mrl mrs mo moo moa mp mpp mfi mpl mpo mro mdp mdf mhg mhk mR mRf mRo mss msl msh mha mt) sz) (W_M cI cS mA mf mn ml mk mg mls ms mra mrf mrk mrg mrl mrs u.1 u.2.1 u.2.2.1 u.2.2.2.1 u.2.2.2.2.1 u.2.2.2.2.2.1 u.2.2.2.2.2.2.1 u.2.2.2.2.2.2.2.1 u.2.2.2.2.2.2.2.2 mdp mdf mhg mhk mR mRf mRo mss msl msh mha mt) t) (va_A (W_M cI cS mA mf mn ml mk mg mls ms mra mrf mrk mrg mrl mrs mo moo moa mp mpp mfi mpl mpo mro mdp mdf mhg mhk mR mRf mRo mss msl msh mha mt) sz)) 0 0 (va_A (W_M cI cS mA mf mn ml mk mg mls ms mra mrf mrk mrg mrl mrs mo moo moa mp mpp mfi mpl mpo mro mdp mdf mhg mhk mR mRf mRo mss msl msh mha mt) sz) := by
  refine Met.ofW (cc := cX7_ofFunction) (maxL := 3) (ret := (some .int)) (by decide) rfl ?_
  intro p e s m args below meth c_ s₁ B hml hv
  obtain ⟨rfl, hsz, hP, hK, hD0⟩ := hv
  have hx := B.exec
  have hb := B.bytes
  have hr := B.returns
  have hts := atoms_spec (ws := wsX7_ofFunction) B.pre
  have hown : s.vm.findClass RX7 = some m.cls := findClass_of_methodNamed B.named
  have hlocks := B.notSynchronized
  subst hsz
  have hD := hD0.self (sz := s.heap.size)
  generalize hAe : va_A (W_M cI cS mA mf mn ml mk mg mls ms mra mrf mrk mrg mrl mrs mo moo moa mp mpp mfi mpl mpo mro mdp mdf mhg mhk mR mRf mRo mss msl msh mha mt) s.heap.size = A at hD ⊢
  have hA : ∀ q : Nat, s.heap.size ≤ q → A q := fun q h => by rw [← hAe]; exact Or.inr h
  have hS : va_S A s.heap s.heap [] := va_S.rf
  have hP : va_P D vwCl (W_M cI cS mA mf mn ml mk mg mls ms mra mrf mrk mrg mrl mrs mo moo moa mp mpp mfi mpl mpo mro mdp mdf mhg mhk mR mRf mRo mss msl msh mha mt) s.heap := hP
  have hl := lv_entry ([.ref (mA 0), .int (iI f), .int (iI w)] : List Value) (n := 3) (Nat.le_of_ble_eq_true rfl)
  rw [lg_entry_eq]
  generalize (lg_sl ([.ref (mA 0), .int (iI f), .int (iI w)] : List Value) ++ List.replicate (3 - (lg_sl ([.ref (mA 0), .int (iI f), .int (iI w)] : List Value)).length) Slot.unset).toArray = ls at hl ⊢
  have hl : lv_has ls 3 [(0, .ref (mA 0)), (1, .int (iI f)), (2, .int (iI w))] := hl
  have fl_7 := hts (.fieldLink RX7 7 "ActRowsModel" "kindOf" "[I") (by decide +kernel)
  have iw_7 : ∀ w ∈ wsX70, w ∈ wsX7_ofFunction := by decide +kernel
  have fl_13 := hts (.fieldLink RX7 13 "ActRowsModel" "guardOf" "[I") (by decide +kernel)
  have fl_16 := hts (.fieldLink RX7 16 "ActRowsModel" "stepsOf" "[I") (by decide +kernel)
  have fl_46 := hts (.fieldLink RX7 46 "ActRowsModel" "rowOf" "[I") (by decide +kernel)
  have hmn := hok.1
  have hln := hok.2.1
  refine lv_aload_n hx hb dX7_ofFunction_0 rfl (lv_at hl 0 rfl) ?_
  refine lv_iload_n hx hb dX7_ofFunction_1 rfl (lv_at hl 1 rfl) ?_
  refine x_callVi (As := [.int (iI f)]) (rest := []) ⟨hx, hb, hml, hown, hts⟩ (c_X7_noFunction l D cI cS mA mf mn ml mk mg mls ms mra mrf mrk mrg mrl mrs mo moo moa mp mpp mfi mpl mpo mro mdp mdf mhg mhk mR mRf mRo mss msl msh mha mt s.heap.size f (by first | assumption | omega) (by first | assumption | omega)) (cwV 1 hts gX7_ofFunction_X7_noFunction rfl rfl rfl (by decide +kernel) ⟨Nat.le_of_ble_eq_true rfl, Nat.le_of_ble_eq_true rfl⟩) hK hP hD hS hA [0, 1, 2, 3, 4, 5, 6, 7, 8, 9, 10, 11, 12, 13, 14, 15, 16, 17, 18, 19, 20, 21] [] (wr := ([] : va_W)) rfl rfl (by decide) (by decide) (by decide) 0 7 rfl rfl rfl [0, 1, 2, 3, 4, 5, 6, 7, 8, 9, 10, 11, 12, 13, 14, 15, 16, 17, 18, 19, 20, 21] (fun (u : Unit) => (W_M cI cS mA mf mn ml mk mg mls ms mra mrf mrk mrg mrl mrs mo moo moa mp mpp mfi mpl mpo mro mdp mdf mhg mhk mR mRf mRo mss msl msh mha mt)) (fun _ => rfl) (by decide) rfl hl.1 rfl (Nat.le_of_ble_eq_true rfl) ⟨Nat.zero_le _, Nat.zero_le _⟩ dX7_ofFunction_2 (fun r_ u_ H locs hw hP hD hS => ?_)
  try dsimp only at hw
  subst hw
  have hP : va_P D vwCl (W_M cI cS mA mf mn ml mk mg mls ms mra mrf mrk mrg mrl mrs mo moo moa mp mpp mfi mpl mpo mro mdp mdf mhg mhk mR mRf mRo mss msl msh mha mt) H := hP
  have hD : va_D A (W_M cI cS mA mf mn ml mk mg mls ms mra mrf mrk mrg mrl mrs mo moo moa mp mpp mfi mpl mpo mro mdp mdf mhg mhk mR mRf mRo mss msl msh mha mt) := hD
  refine n_if_b1 (tgt := 10) hx hb dX7_ofFunction_5 (by decide)  (fun c_1 => ?_) (fun c_1 => ?_)
  ·
    have hf : 0 ≤ f ∧ f < mn := by omega
    refine lv_aload_n hx hb dX7_ofFunction_10 rfl (lv_at hl 0 rfl) ?_
    refine x_callVv (As := []) (rest := []) ⟨hx, hb, hml, hown, hts⟩ (c_X7_rows l D cI cS mA mf mn ml mk mg mls ms mra mrf mrk mrg mrl mrs mo moo moa mp mpp mfi mpl mpo mro mdp mdf mhg mhk mR mRf mRo mss msl msh mha mt H.size (by first | assumption | omega) (by first | assumption | omega)) (cwV 0 hts gX7_ofFunction_X7_rows rfl rfl rfl (by decide +kernel) ⟨Nat.le_of_ble_eq_true rfl, Nat.le_of_ble_eq_true rfl⟩) hK hP hD hS hA [0, 1, 2, 3, 4, 5, 6, 7, 8, 9, 10, 11, 12, 13, 14, 15, 16, 17, 18, 19, 20, 21] [] (wr := ([] : va_W)) rfl rfl (by decide) (by decide) (by decide) 0 7 rfl rfl rfl [0, 1, 2, 3, 4, 5, 6, 7, 8, 9, 10, 11, 12, 13, 14, 15, 16, 17, 18, 19, 20, 21] (fun (u : (Int → Int)) => (W_M cI cS mA mf mn ml mk mg mls ms mra mrf mrk mrg mrl mrs mo moo moa mp mpp mfi mpl mpo u mdp mdf mhg mhk mR mRf mRo mss msl msh mha mt)) (fun _ => rfl) (by decide) rfl hl.1 rfl (Nat.le_of_ble_eq_true rfl) ⟨Nat.zero_le _, Nat.zero_le _⟩ dX7_ofFunction_11 (fun u_ H locs hw hP hD hS => ?_)
    obtain ⟨mro_2, eu_⟩ : ∃ z, z = u_ := ⟨_, rfl⟩
    subst eu_
    try dsimp only at hw
    have hR2 := hw
    have hP : va_P D vwCl (W_M cI cS mA mf mn ml mk mg mls ms mra mrf mrk mrg mrl mrs mo moo moa mp mpp mfi mpl mpo mro_2 mdp mdf mhg mhk mR mRf mRo mss msl msh mha mt) H := hP
    have hD : va_D A (W_M cI cS mA mf mn ml mk mg mls ms mra mrf mrk mrg mrl mrs mo moo moa mp mpp mfi mpl mpo mro_2 mdp mdf mhg mhk mR mRf mRo mss msl msh mha mt) := hD
    refine lv_iload_n hx hb dX7_ofFunction_14 rfl (lv_at hl 2 rfl) ?_
    by_cases c_3 : w = 0
    ·
      refine n_tableIn (off := 33) (tgt := 48) hx hb 0 dX7_ofFunction_15 c_3 (by decide) rfl (by decide) ?_
      refine lv_aload_n hx hb dX7_ofFunction_48 rfl (lv_at hl 0 rfl) ?_
      refine va_get (D := D) (ci := 7) (v := .ref (mA 1)) (C := RX7) (T := TX7) (N := 34) hx hb hts iw_7 hown hK.1 hP 0 rfl rfl 3 (by decide) fl_7 (fun _ h9 => h9) rfl dX7_ofFunction_49 ?_
      refine lv_iload_n hx hb dX7_ofFunction_52 rfl (lv_at hl 1 rfl) ?_
      refine n_iald (n := 5) hx hb hK.1 hP 1 0 rfl rfl (by omega) (by decide) dX7_ofFunction_53 ?_
      exact W.iret (v := iI (mk f)) hx hb hr (fun t ht hW => ⟨⟨_, (mo, moo, moa, mp, mpp, mfi, mpl, mpo, mro_2), rfl, congrArg iI (show (mk f) = (sOf mn mk mg mls ms f w) from (by unfold sOf; (repeat (first | rw [if_pos (by omega)] | rw [if_neg (by omega)])))), by rw [ht]; exact hP, hD⟩, hS.F ht⟩) hS.2.2 dX7_ofFunction_54
    by_cases c_4 : w = 1
    ·
      refine n_tableIn (off := 40) (tgt := 55) hx hb 1 dX7_ofFunction_15 c_4 (by decide) rfl (by decide) ?_
      refine lv_aload_n hx hb dX7_ofFunction_55 rfl (lv_at hl 0 rfl) ?_
      refine va_get (D := D) (ci := 7) (v := .ref (mA 2)) (C := RX7) (T := TX7) (N := 34) hx hb hts iw_7 hown hK.1 hP 0 rfl rfl 4 (by decide) fl_13 (fun _ h9 => h9) rfl dX7_ofFunction_56 ?_
      refine lv_iload_n hx hb dX7_ofFunction_59 rfl (lv_at hl 1 rfl) ?_
      refine n_iald (n := 5) hx hb hK.1 hP 2 0 rfl rfl (by omega) (by decide) dX7_ofFunction_60 ?_
      exact W.iret (v := iI (mg f)) hx hb hr (fun t ht hW => ⟨⟨_, (mo, moo, moa, mp, mpp, mfi, mpl, mpo, mro_2), rfl, congrArg iI (show (mg f) = (sOf mn mk mg mls ms f w) from (by unfold sOf; (repeat (first | rw [if_pos (by omega)] | rw [if_neg (by omega)])))), by rw [ht]; exact hP, hD⟩, hS.F ht⟩) hS.2.2 dX7_ofFunction_61
    by_cases c_5 : w = 2
    ·
      refine n_tableIn (off := 47) (tgt := 62) hx hb 2 dX7_ofFunction_15 c_5 (by decide) rfl (by decide) ?_
      refine lv_aload_n hx hb dX7_ofFunction_62 rfl (lv_at hl 0 rfl) ?_
      refine va_get (D := D) (ci := 7) (v := .ref (mA 3)) (C := RX7) (T := TX7) (N := 34) hx hb hts iw_7 hown hK.1 hP 0 rfl rfl 5 (by decide) fl_16 (fun _ h9 => h9) rfl dX7_ofFunction_63 ?_
      refine lv_iload_n hx hb dX7_ofFunction_66 rfl (lv_at hl 1 rfl) ?_
      refine n_iald (n := 5) hx hb hK.1 hP 3 0 rfl rfl (by omega) (by decide) dX7_ofFunction_67 ?_
      exact W.iret (v := iI (mls f)) hx hb hr (fun t ht hW => ⟨⟨_, (mo, moo, moa, mp, mpp, mfi, mpl, mpo, mro_2), rfl, congrArg iI (show (mls f) = (sOf mn mk mg mls ms f w) from (by unfold sOf; (repeat (first | rw [if_pos (by omega)] | rw [if_neg (by omega)])))), by rw [ht]; exact hP, hD⟩, hS.F ht⟩) hS.2.2 dX7_ofFunction_68
    by_cases c_6 : w = 3
    ·
      refine n_tableIn (off := 54) (tgt := 69) hx hb 3 dX7_ofFunction_15 c_6 (by decide) rfl (by decide) ?_
      refine lv_aload_n hx hb dX7_ofFunction_69 rfl (lv_at hl 0 rfl) ?_
      refine va_get (D := D) (ci := 7) (v := .ref (mA 13)) (C := RX7) (T := TX7) (N := 34) hx hb hts iw_7 hown hK.1 hP 0 rfl rfl 21 (by decide) fl_46 (fun _ h9 => h9) rfl dX7_ofFunction_70 ?_
      refine lv_iload_n hx hb dX7_ofFunction_73 rfl (lv_at hl 1 rfl) ?_
      refine n_iald (n := 5) hx hb hK.1 hP 13 0 rfl rfl (by omega) (by decide) dX7_ofFunction_74 ?_
      exact W.iret (v := iI (mro_2 f)) hx hb hr (fun t ht hW => ⟨⟨_, (mo, moo, moa, mp, mpp, mfi, mpl, mpo, mro_2), rfl, congrArg iI (show (mro_2 f) = (sOf mn mk mg mls ms f w) from (by unfold sOf; (repeat (first | rw [if_pos (by omega)] | rw [if_neg (by omega)])); exact hR2 f hf.1 hf.2)), by rw [ht]; exact hP, hD⟩, hS.F ht⟩) hS.2.2 dX7_ofFunction_75
    by_cases c_7 : w = 4
    ·
      refine n_tableIn (off := 61) (tgt := 76) hx hb 4 dX7_ofFunction_15 c_7 (by decide) rfl (by decide) ?_
      refine lv_aload_n hx hb dX7_ofFunction_76 rfl (lv_at hl 0 rfl) ?_
      refine lv_iload_n hx hb dX7_ofFunction_77 rfl (lv_at hl 1 rfl) ?_
      refine x_callVi (As := [.int (iI f)]) (rest := []) ⟨hx, hb, hml, hown, hts⟩ (c_X7_mayOf l D cI cS mA mf mn ml mk mg mls ms mra mrf mrk mrg mrl mrs mo moo moa mp mpp mfi mpl mpo mro_2 mdp mdf mhg mhk mR mRf mRo mss msl msh mha mt H.size f (by first | assumption | omega) (by first | assumption | omega) (by first | assumption | omega)) (cwV 1 hts gX7_ofFunction_X7_mayOf rfl rfl rfl (by decide +kernel) ⟨Nat.le_of_ble_eq_true rfl, Nat.le_of_ble_eq_true rfl⟩) hK hP hD hS hA [0, 1, 2, 3, 4, 5, 6, 7, 8, 9, 10, 11, 12, 13, 14, 15, 16, 17, 18, 19, 20, 21] [] (wr := ([] : va_W)) rfl rfl (by decide) (by decide) (by decide) 0 7 rfl rfl rfl [0, 1, 2, 3, 4, 5, 6, 7, 8, 9, 10, 11, 12, 13, 14, 15, 16, 17, 18, 19, 20, 21] (fun (u : Int × (Int → Int) × (Int → Int) × Int × (Int → Int) × Int × Int × (Int → Int)) => (W_M cI cS mA mf mn ml mk mg mls ms mra mrf mrk mrg mrl mrs u.1 u.2.1 u.2.2.1 u.2.2.2.1 u.2.2.2.2.1 u.2.2.2.2.2.1 u.2.2.2.2.2.2.1 u.2.2.2.2.2.2.2 mro_2 mdp mdf mhg mhk mR mRf mRo mss msl msh mha mt)) (fun _ => rfl) (by decide) rfl hl.1 rfl (Nat.le_of_ble_eq_true rfl) ⟨Nat.zero_le _, Nat.zero_le _⟩ dX7_ofFunction_78 (fun r_ u_ H locs hw hP hD hS => ?_)
      obtain ⟨mo_8, moo_9, moa_10, mp_11, mpp_12, mfi_13, mpl_14, mpo_15⟩ := u_
      try dsimp only at hw
      subst hw
      have hP : va_P D vwCl (W_M cI cS mA mf mn ml mk mg mls ms mra mrf mrk mrg mrl mrs mo_8 moo_9 moa_10 mp_11 mpp_12 mfi_13 mpl_14 mpo_15 mro_2 mdp mdf mhg mhk mR mRf mRo mss msl msh mha mt) H := hP
      have hD : va_D A (W_M cI cS mA mf mn ml mk mg mls ms mra mrf mrk mrg mrl mrs mo_8 moo_9 moa_10 mp_11 mpp_12 mfi_13 mpl_14 mpo_15 mro_2 mdp mdf mhg mhk mR mRf mRo mss msl msh mha mt) := hD
      exact W.iret (v := iI (mayGo (fun x => (sem mk mg x mls ms f).1) 16)) hx hb hr (fun t ht hW => ⟨⟨_, (mo_8, moo_9, moa_10, mp_11, mpp_12, mfi_13, mpl_14, mpo_15, mro_2), rfl, congrArg iI (show (mayGo (fun x => (sem mk mg x mls ms f).1) 16) = (sOf mn mk mg mls ms f w) from (by unfold sOf; (repeat (first | rw [if_pos (by omega)] | rw [if_neg (by omega)])))), by rw [ht]; exact hP, hD⟩, hS.F ht⟩) hS.2.2 dX7_ofFunction_81
    refine n_tableOut (tgt := 82) hx hb dX7_ofFunction_15 (by omega) (by omega) (by decide) ?_
    refine lv_bipush (v := iI (-2)) hx hb dX7_ofFunction_82 (by decide +kernel) ?_
    exact W.iret (v := iI (-2)) hx hb hr (fun t ht hW => ⟨⟨_, (mo, moo, moa, mp, mpp, mfi, mpl, mpo, mro_2), rfl, congrArg iI (show (-2) = (sOf mn mk mg mls ms f w) from (by unfold sOf; (repeat (first | rw [if_pos (by omega)] | rw [if_neg (by omega)])))), by rw [ht]; exact hP, hD⟩, hS.F ht⟩) hS.2.2 dX7_ofFunction_84
  ·
    refine lv_iconst (v := iI (-1)) hx hb dX7_ofFunction_8 (by decide +kernel) ?_
    exact W.iret (v := iI (-1)) hx hb hr (fun t ht hW => ⟨⟨_, (mo, moo, moa, mp, mpp, mfi, mpl, mpo, mro), rfl, congrArg iI (show (-1) = (sOf mn mk mg mls ms f w) from (by unfold sOf; (repeat (first | rw [if_pos (by omega)] | rw [if_neg (by omega)])))), by rw [ht]; exact hP, hD⟩, hS.F ht⟩) hS.2.2 dX7_ofFunction_9
set_option maxHeartbeats 4000000 in
set_option maxRecDepth 100000 in
theorem c_X7_noStep (l : Launch) (D : va_G) (cI cS : ClassId) (mA : Nat → Nat) (mf : Int) (mn : Int) (ml : Int) (mk : Int → Int) (mg : Int → Int) (mls : Int → Int) (ms : Int → Int) (mra : Int) (mrf : Int) (mrk : Int → Int) (mrg : Int → Int) (mrl : Int → Int) (mrs : Int → Int) (mo : Int) (moo : Int → Int) (moa : Int → Int) (mp : Int) (mpp : Int → Int) (mfi : Int) (mpl : Int) (mpo : Int → Int) (mro : Int → Int) (mdp : Int) (mdf : Int) (mhg : Int → Int) (mhk : Int → Int) (mR : Int) (mRf : Int → Int) (mRo : Int → Int) (mss : Int → Int) (msl : Int → Int) (msh : Int → Int) (mha : Int → Int) (mt : Int) (sz : Nat) (f : Int) (i : Int) (hmn : 0 ≤ mn ∧ mn ≤ 5) (hln : ∀ j : Int, 0 ≤ j → j < mn → 0 ≤ mls j ∧ mls j ≤ 4) (hfr : -2147483648 ≤ f ∧ f < 2147483648) (hi : -2147483648 ≤ i ∧ i < 2147483648) : Met l yX7_noStep wsX7_noStep ({ frames := 2, cells := 0, slots := 0, locals := 46 }) (cP D cI cS (W_M cI cS mA mf mn ml mk mg mls ms mra mrf mrk mrg mrl mrs mo moo moa mp mpp mfi mpl mpo mro mdp mdf mhg mhk mR mRf mRo mss msl msh mha mt) sz [.ref (mA 0), .int (iI f), .int (iI i)]) (va_Qi (fun (r : Int32) (u : Unit) => r = iI (if ¬ (0 ≤ f ∧ f < mn ∧ 0 ≤ i ∧ i < mls f) then 1 else 0)) (fun (u : Unit) t => cB D (va_A (W_M cI cS mA mf mn ml mk mg mls ms mra mrf mrk mrg mrl mrs mo moo moa mp mpp mfi mpl mpo mro mdp mdf mhg mhk mR mRf mRo mss msl msh mha mt) sz) (W_M cI cS mA mf mn ml mk mg mls ms mra mrf mrk mrg mrl mrs mo moo moa mp mpp mfi mpl mpo mro mdp mdf mhg mhk mR mRf mRo mss msl msh mha mt) t) (va_A (W_M cI cS mA mf mn ml mk mg mls ms mra mrf mrk mrg mrl mrs mo moo moa mp mpp mfi mpl mpo mro mdp mdf mhg mhk mR mRf mRo mss msl msh mha mt) sz)) 0 0 (va_A (W_M cI cS mA mf mn ml mk mg mls ms mra mrf mrk mrg mrl mrs mo moo moa mp mpp mfi mpl mpo mro mdp mdf mhg mhk mR mRf mRo mss msl msh mha mt) sz) := by
  refine Met.ofW (cc := cX7_noStep) (maxL := 3) (ret := (some .boolean)) (by decide) rfl ?_
  intro p e s m args below meth c_ s₁ B hml hv
  obtain ⟨rfl, hsz, hP, hK, hD0⟩ := hv
  have hx := B.exec
  have hb := B.bytes
  have hr := B.returns
  have hts := atoms_spec (ws := wsX7_noStep) B.pre
  have hown : s.vm.findClass RX7 = some m.cls := findClass_of_methodNamed B.named
  have hlocks := B.notSynchronized
  subst hsz
  have hD := hD0.self (sz := s.heap.size)
  generalize hAe : va_A (W_M cI cS mA mf mn ml mk mg mls ms mra mrf mrk mrg mrl mrs mo moo moa mp mpp mfi mpl mpo mro mdp mdf mhg mhk mR mRf mRo mss msl msh mha mt) s.heap.size = A at hD ⊢
  have hA : ∀ q : Nat, s.heap.size ≤ q → A q := fun q h => by rw [← hAe]; exact Or.inr h
  have hS : va_S A s.heap s.heap [] := va_S.rf
  have hP : va_P D vwCl (W_M cI cS mA mf mn ml mk mg mls ms mra mrf mrk mrg mrl mrs mo moo moa mp mpp mfi mpl mpo mro mdp mdf mhg mhk mR mRf mRo mss msl msh mha mt) s.heap := hP
  have hl := lv_entry ([.ref (mA 0), .int (iI f), .int (iI i)] : List Value) (n := 3) (Nat.le_of_ble_eq_true rfl)
  rw [lg_entry_eq]
  generalize (lg_sl ([.ref (mA 0), .int (iI f), .int (iI i)] : List Value) ++ List.replicate (3 - (lg_sl ([.ref (mA 0), .int (iI f), .int (iI i)] : List Value)).length) Slot.unset).toArray = ls at hl ⊢
  have hl : lv_has ls 3 [(0, .ref (mA 0)), (1, .int (iI f)), (2, .int (iI i))] := hl
  have fl_16 := hts (.fieldLink RX7 16 "ActRowsModel" "stepsOf" "[I") (by decide +kernel)
  have iw_7 : ∀ w ∈ wsX70, w ∈ wsX7_noStep := by decide +kernel
  refine lv_aload_n hx hb dX7_noStep_0 rfl (lv_at hl 0 rfl) ?_
  refine lv_iload_n hx hb dX7_noStep_1 rfl (lv_at hl 1 rfl) ?_
  refine x_callVi (As := [.int (iI f)]) (rest := []) ⟨hx, hb, hml, hown, hts⟩ (c_X7_noFunction l D cI cS mA mf mn ml mk mg mls ms mra mrf mrk mrg mrl mrs mo moo moa mp mpp mfi mpl mpo mro mdp mdf mhg mhk mR mRf mRo mss msl msh mha mt s.heap.size f (by first | assumption | omega) (by first | assumption | omega)) (cwV 1 hts gX7_noStep_X7_noFunction rfl rfl rfl (by decide +kernel) ⟨Nat.le_of_ble_eq_true rfl, Nat.le_of_ble_eq_true rfl⟩) hK hP hD hS hA [0, 1, 2, 3, 4, 5, 6, 7, 8, 9, 10, 11, 12, 13, 14, 15, 16, 17, 18, 19, 20, 21] [] (wr := ([] : va_W)) rfl rfl (by decide) (by decide) (by decide) 0 7 rfl rfl rfl [0, 1, 2, 3, 4, 5, 6, 7, 8, 9, 10, 11, 12, 13, 14, 15, 16, 17, 18, 19, 20, 21] (fun (u : Unit) => (W_M cI cS mA mf mn ml mk mg mls ms mra mrf mrk mrg mrl mrs mo moo moa mp mpp mfi mpl mpo mro mdp mdf mhg mhk mR mRf mRo mss msl msh mha mt)) (fun _ => rfl) (by decide) rfl hl.1 rfl (Nat.le_of_ble_eq_true rfl) ⟨Nat.zero_le _, Nat.zero_le _⟩ dX7_noStep_2 (fun r_ u_ H locs hw hP hD hS => ?_)
  try dsimp only at hw
  subst hw
  have hP : va_P D vwCl (W_M cI cS mA mf mn ml mk mg mls ms mra mrf mrk mrg mrl mrs mo moo moa mp mpp mfi mpl mpo mro mdp mdf mhg mhk mR mRf mRo mss msl msh mha mt) H := hP
  have hD : va_D A (W_M cI cS mA mf mn ml mk mg mls ms mra mrf mrk mrg mrl mrs mo moo moa mp mpp mfi mpl mpo mro mdp mdf mhg mhk mR mRf mRo mss msl msh mha mt) := hD
  refine n_if_b2 (tgt := 26) hx hb dX7_noStep_5 (by decide)  (fun c_1 => ?_) (fun c_1 => ?_)
  ·
    refine lv_iconst (v := iI 1) hx hb dX7_noStep_26 (by decide +kernel) ?_
    refine lv_goto (tgt := 31) hx hb dX7_noStep_27 (by decide) ?_
    exact W.zret (v := iI 1) (ty := .boolean) hx hb hr (by decide +kernel) (fun t ht hW => ⟨⟨_, (), rfl, congrArg iI (show 1 = (if ¬ (0 ≤ f ∧ f < mn ∧ 0 ≤ i ∧ i < mls f) then 1 else 0) from (by omega)), by rw [ht]; exact hP, hD⟩, hS.F ht⟩) hS.2.2 dX7_noStep_31
  ·
    have hlf := hln f (by omega) (by omega)
    refine lv_iload_n hx hb dX7_noStep_8 rfl (lv_at hl 2 rfl) ?_
    refine n_i2l hx hb (by omega) dX7_noStep_9 ?_
    refine lv_lconst (v := lI 0) hx hb dX7_noStep_10 (by decide +kernel) ?_
    refine lv_aload_n hx hb dX7_noStep_11 rfl (lv_at hl 0 rfl) ?_
    refine va_get (D := D) (ci := 7) (v := .ref (mA 3)) (C := RX7) (T := TX7) (N := 34) hx hb hts iw_7 hown hK.1 hP 0 rfl rfl 5 (by decide) fl_16 (fun _ h9 => h9) rfl dX7_noStep_12 ?_
    refine lv_iload_n hx hb dX7_noStep_15 rfl (lv_at hl 1 rfl) ?_
    refine n_iald (n := 5) hx hb hK.1 hP 3 0 rfl rfl (by omega) (by decide) dX7_noStep_16 ?_
    refine n_i2l hx hb (by omega) dX7_noStep_17 ?_
    refine lv_lconst (v := lI 1) hx hb dX7_noStep_18 (by decide +kernel) ?_
    refine n_lsub hx hb dX7_noStep_19 ?_
    refine x_callSi (As := [.long (lI i), .long (lI 0), .long (lI ((mls f) - 1))]) (rest := []) ⟨hx, hb, hml, hown, hts⟩ (c_X7_in l D cI cS H.size i 0 ((mls f) - 1) (by first | assumption | omega) (by first | assumption | omega) (by first | assumption | omega)) (va_cwS 3 hts gX7_noStep_X7_in rfl rfl rfl (by decide +kernel) ⟨Nat.le_of_ble_eq_true rfl, Nat.le_of_ble_eq_true rfl⟩) hK hP hD hS hA [] [0, 1, 2, 3, 4, 5, 6, 7, 8, 9, 10, 11, 12, 13, 14, 15, 16, 17, 18, 19, 20, 21] (wr := [(mA 0, .inr (7, [.int (iI mf), .int (iI mn), .int (iI ml), .ref (mA 1), .ref (mA 2), .ref (mA 3), .ref (mA 4), .int (iI mra), .int (iI mrf), .ref (mA 5), .ref (mA 6), .ref (mA 7), .ref (mA 8), .int (iI mo), .ref (mA 9), .ref (mA 10), .int (iI mp), .ref (mA 11), .int (iI mfi), .int (iI mpl), .ref (mA 12), .ref (mA 13), .int (iI mdp), .int (iI mdf), .ref (mA 14), .ref (mA 15), .int (iI mR), .ref (mA 16), .ref (mA 17), .ref (mA 18), .ref (mA 19), .ref (mA 20), .ref (mA 21), .int (iI mt)])), (mA 1, .inl (cI, 5, .inl (aI mk))), (mA 2, .inl (cI, 5, .inl (aI mg))), (mA 3, .inl (cI, 5, .inl (aI mls))), (mA 4, .inl (cI, 20, .inl (aI ms))), (mA 5, .inl (cI, 5, .inl (aI mrk))), (mA 6, .inl (cI, 5, .inl (aI mrg))), (mA 7, .inl (cI, 5, .inl (aI mrl))), (mA 8, .inl (cI, 20, .inl (aI mrs))), (mA 9, .inl (cI, 5, .inl (aI moo))), (mA 10, .inl (cI, 5, .inl (aI moa))), (mA 11, .inl (cI, 1024, .inl (aI mpp))), (mA 12, .inl (cI, 5, .inl (aI mpo))), (mA 13, .inl (cI, 5, .inl (aI mro))), (mA 14, .inl (cI, 5, .inl (aI mhg))), (mA 15, .inl (cI, 5, .inl (aI mhk))), (mA 16, .inl (cI, 8, .inl (aI mRf))), (mA 17, .inl (cI, 8, .inl (aI mRo))), (mA 18, .inl (cI, 4, .inl (aI mss))), (mA 19, .inl (cI, 4, .inl (aI msl))), (mA 20, .inl (cI, 240, .inl (aI msh))), (mA 21, .inl (cI, 60, .inl (aI mha)))]) rfl rfl (by decide) (by decide) (by decide) [0, 1, 2, 3, 4, 5, 6, 7, 8, 9, 10, 11, 12, 13, 14, 15, 16, 17, 18, 19, 20, 21] (fun (u : Unit) => (W_M cI cS mA mf mn ml mk mg mls ms mra mrf mrk mrg mrl mrs mo moo moa mp mpp mfi mpl mpo mro mdp mdf mhg mhk mR mRf mRo mss msl msh mha mt)) (fun _ => rfl) (by decide) rfl hl.1 rfl (Nat.le_of_ble_eq_true rfl) ⟨Nat.zero_le _, Nat.zero_le _⟩ dX7_noStep_20 (fun r_ u_ H locs hw hP hD hS => ?_)
    try dsimp only at hw
    subst hw
    have hP : va_P D vwCl (W_M cI cS mA mf mn ml mk mg mls ms mra mrf mrk mrg mrl mrs mo moo moa mp mpp mfi mpl mpo mro mdp mdf mhg mhk mR mRf mRo mss msl msh mha mt) H := hP
    have hD : va_D A (W_M cI cS mA mf mn ml mk mg mls ms mra mrf mrk mrg mrl mrs mo moo moa mp mpp mfi mpl mpo mro mdp mdf mhg mhk mR mRf mRo mss msl msh mha mt) := hD
    refine n_if_b2 (tgt := 30) hx hb dX7_noStep_23 (by decide)  (fun c_2 => ?_) (fun c_2 => ?_)
    ·
      refine lv_iconst (v := iI 0) hx hb dX7_noStep_30 (by decide +kernel) ?_
      exact W.zret (v := iI 0) (ty := .boolean) hx hb hr (by decide +kernel) (fun t ht hW => ⟨⟨_, (), rfl, congrArg iI (show 0 = (if ¬ (0 ≤ f ∧ f < mn ∧ 0 ≤ i ∧ i < mls f) then 1 else 0) from (by omega)), by rw [ht]; exact hP, hD⟩, hS.F ht⟩) hS.2.2 dX7_noStep_31
    ·
      refine lv_iconst (v := iI 1) hx hb dX7_noStep_26 (by decide +kernel) ?_
      refine lv_goto (tgt := 31) hx hb dX7_noStep_27 (by decide) ?_
      exact W.zret (v := iI 1) (ty := .boolean) hx hb hr (by decide +kernel) (fun t ht hW => ⟨⟨_, (), rfl, congrArg iI (show 1 = (if ¬ (0 ≤ f ∧ f < mn ∧ 0 ≤ i ∧ i < mls f) then 1 else 0) from (by omega)), by rw [ht]; exact hP, hD⟩, hS.F ht⟩) hS.2.2 dX7_noStep_31
set_option maxHeartbeats 4000000 in
set_option maxRecDepth 100000 in
theorem c_X7_step (l : Launch) (D : va_G) (cI cS : ClassId) (mA : Nat → Nat) (mf : Int) (mn : Int) (ml : Int) (mk : Int → Int) (mg : Int → Int) (mls : Int → Int) (ms : Int → Int) (mra : Int) (mrf : Int) (mrk : Int → Int) (mrg : Int → Int) (mrl : Int → Int) (mrs : Int → Int) (mo : Int) (moo : Int → Int) (moa : Int → Int) (mp : Int) (mpp : Int → Int) (mfi : Int) (mpl : Int) (mpo : Int → Int) (mro : Int → Int) (mdp : Int) (mdf : Int) (mhg : Int → Int) (mhk : Int → Int) (mR : Int) (mRf : Int → Int) (mRo : Int → Int) (mss : Int → Int) (msl : Int → Int) (msh : Int → Int) (mha : Int → Int) (mt : Int) (sz : Nat) (f : Int) (i : Int) (hok : okP mn mls ms) (hfr : -2147483648 ≤ f ∧ f < 2147483648) (hi : -2147483648 ≤ i ∧ i < 2147483648) : Met l yX7_step wsX7_step ({ frames := 3, cells := 0, slots := 0, locals := 68 }) (cP D cI cS (W_M cI cS mA mf mn ml mk mg mls ms mra mrf mrk mrg mrl mrs mo moo moa mp mpp mfi mpl mpo mro mdp mdf mhg mhk mR mRf mRo mss msl msh mha mt) sz [.ref (mA 0), .int (iI f), .int (iI i)]) (va_Qi (fun (r : Int32) (u : Unit) => r = iI (if 0 ≤ f ∧ f < mn ∧ 0 ≤ i ∧ i < mls f then ms (f * 4 + i) else (-1))) (fun (u : Unit) t => cB D (va_A (W_M cI cS mA mf mn ml mk mg mls ms mra mrf mrk mrg mrl mrs mo moo moa mp mpp mfi mpl mpo mro mdp mdf mhg mhk mR mRf mRo mss msl msh mha mt) sz) (W_M cI cS mA mf mn ml mk mg mls ms mra mrf mrk mrg mrl mrs mo moo moa mp mpp mfi mpl mpo mro mdp mdf mhg mhk mR mRf mRo mss msl msh mha mt) t) (va_A (W_M cI cS mA mf mn ml mk mg mls ms mra mrf mrk mrg mrl mrs mo moo moa mp mpp mfi mpl mpo mro mdp mdf mhg mhk mR mRf mRo mss msl msh mha mt) sz)) 0 0 (va_A (W_M cI cS mA mf mn ml mk mg mls ms mra mrf mrk mrg mrl mrs mo moo moa mp mpp mfi mpl mpo mro mdp mdf mhg mhk mR mRf mRo mss msl msh mha mt) sz) := by
  refine Met.ofW (cc := cX7_step) (maxL := 3) (ret := (some .int)) (by decide) rfl ?_
  intro p e s m args below meth c_ s₁ B hml hv
  obtain ⟨rfl, hsz, hP, hK, hD0⟩ := hv
  have hx := B.exec
  have hb := B.bytes
  have hr := B.returns
  have hts := atoms_spec (ws := wsX7_step) B.pre
  have hown : s.vm.findClass RX7 = some m.cls := findClass_of_methodNamed B.named
  have hlocks := B.notSynchronized
  subst hsz
  have hD := hD0.self (sz := s.heap.size)
  generalize hAe : va_A (W_M cI cS mA mf mn ml mk mg mls ms mra mrf mrk mrg mrl mrs mo moo moa mp mpp mfi mpl mpo mro mdp mdf mhg mhk mR mRf mRo mss msl msh mha mt) s.heap.size = A at hD ⊢
  have hA : ∀ q : Nat, s.heap.size ≤ q → A q := fun q h => by rw [← hAe]; exact Or.inr h
  have hS : va_S A s.heap s.heap [] := va_S.rf
  have hP : va_P D vwCl (W_M cI cS mA mf mn ml mk mg mls ms mra mrf mrk mrg mrl mrs mo moo moa mp mpp mfi mpl mpo mro mdp mdf mhg mhk mR mRf mRo mss msl msh mha mt) s.heap := hP
  have hl := lv_entry ([.ref (mA 0), .int (iI f), .int (iI i)] : List Value) (n := 3) (Nat.le_of_ble_eq_true rfl)
  rw [lg_entry_eq]
  generalize (lg_sl ([.ref (mA 0), .int (iI f), .int (iI i)] : List Value) ++ List.replicate (3 - (lg_sl ([.ref (mA 0), .int (iI f), .int (iI i)] : List Value)).length) Slot.unset).toArray = ls at hl ⊢
  have hl : lv_has ls 3 [(0, .ref (mA 0)), (1, .int (iI f)), (2, .int (iI i))] := hl
  have fl_19 := hts (.fieldLink RX7 19 "ActRowsModel" "stepOf" "[I") (by decide +kernel)
  have iw_7 : ∀ w ∈ wsX70, w ∈ wsX7_step := by decide +kernel
  have hmn := hok.1
  have hln := hok.2.1
  refine lv_aload_n hx hb dX7_step_0 rfl (lv_at hl 0 rfl) ?_
  refine lv_iload_n hx hb dX7_step_1 rfl (lv_at hl 1 rfl) ?_
  refine lv_iload_n hx hb dX7_step_2 rfl (lv_at hl 2 rfl) ?_
  refine x_callVi (As := [.int (iI f), .int (iI i)]) (rest := []) ⟨hx, hb, hml, hown, hts⟩ (c_X7_noStep l D cI cS mA mf mn ml mk mg mls ms mra mrf mrk mrg mrl mrs mo moo moa mp mpp mfi mpl mpo mro mdp mdf mhg mhk mR mRf mRo mss msl msh mha mt s.heap.size f i (by first | assumption | omega) (by first | assumption | omega) (by first | assumption | omega) (by first | assumption | omega)) (cwV 2 hts gX7_step_X7_noStep rfl rfl rfl (by decide +kernel) ⟨Nat.le_of_ble_eq_true rfl, Nat.le_of_ble_eq_true rfl⟩) hK hP hD hS hA [0, 1, 2, 3, 4, 5, 6, 7, 8, 9, 10, 11, 12, 13, 14, 15, 16, 17, 18, 19, 20, 21] [] (wr := ([] : va_W)) rfl rfl (by decide) (by decide) (by decide) 0 7 rfl rfl rfl [0, 1, 2, 3, 4, 5, 6, 7, 8, 9, 10, 11, 12, 13, 14, 15, 16, 17, 18, 19, 20, 21] (fun (u : Unit) => (W_M cI cS mA mf mn ml mk mg mls ms mra mrf mrk mrg mrl mrs mo moo moa mp mpp mfi mpl mpo mro mdp mdf mhg mhk mR mRf mRo mss msl msh mha mt)) (fun _ => rfl) (by decide) rfl hl.1 rfl (Nat.le_of_ble_eq_true rfl) ⟨Nat.zero_le _, Nat.zero_le _⟩ dX7_step_3 (fun r_ u_ H locs hw hP hD hS => ?_)
  try dsimp only at hw
  subst hw
  have hP : va_P D vwCl (W_M cI cS mA mf mn ml mk mg mls ms mra mrf mrk mrg mrl mrs mo moo moa mp mpp mfi mpl mpo mro mdp mdf mhg mhk mR mRf mRo mss msl msh mha mt) H := hP
  have hD : va_D A (W_M cI cS mA mf mn ml mk mg mls ms mra mrf mrk mrg mrl mrs mo moo moa mp mpp mfi mpl mpo mro mdp mdf mhg mhk mR mRf mRo mss msl msh mha mt) := hD
  refine n_if_b1 (tgt := 13) hx hb dX7_step_6 (by decide)  (fun c_1 => ?_) (fun c_1 => ?_)
  ·
    have hlf := hln f (by omega) (by omega)
    refine lv_aload_n hx hb dX7_step_13 rfl (lv_at hl 0 rfl) ?_
    refine va_get (D := D) (ci := 7) (v := .ref (mA 4)) (C := RX7) (T := TX7) (N := 34) hx hb hts iw_7 hown hK.1 hP 0 rfl rfl 6 (by decide) fl_19 (fun _ h9 => h9) rfl dX7_step_14 ?_
    refine lv_iconst (v := iI 4) hx hb dX7_step_17 (by decide +kernel) ?_
    refine lv_iload_n hx hb dX7_step_18 rfl (lv_at hl 1 rfl) ?_
    refine n_imul hx hb dX7_step_19 ?_
    refine lv_iload_n hx hb dX7_step_20 rfl (lv_at hl 2 rfl) ?_
    refine n_iadd hx hb dX7_step_21 ?_
    refine n_iald (n := 20) hx hb hK.1 hP 4 0 rfl rfl (by omega) (by decide) dX7_step_22 ?_
    exact W.iret (v := iI (ms ((4 * f) + i))) hx hb hr (fun t ht hW => ⟨⟨_, (), rfl, congrArg iI (show (ms ((4 * f) + i)) = (if 0 ≤ f ∧ f < mn ∧ 0 ≤ i ∧ i < mls f then ms (f * 4 + i) else (-1)) from (by first | omega | (rw [if_pos (by omega), Int.mul_comm 4 f]; done) | (rw [if_pos (by omega), if_pos (by omega), Int.mul_comm 4 f]; done) | (rw [if_neg (by omega)]; done))), by rw [ht]; exact hP, hD⟩, hS.F ht⟩) hS.2.2 dX7_step_23
  ·
    refine lv_iconst (v := iI (-1)) hx hb dX7_step_9 (by decide +kernel) ?_
    refine lv_goto (tgt := 23) hx hb dX7_step_10 (by decide) ?_
    exact W.iret (v := iI (-1)) hx hb hr (fun t ht hW => ⟨⟨_, (), rfl, congrArg iI (show (-1) = (if 0 ≤ f ∧ f < mn ∧ 0 ≤ i ∧ i < mls f then ms (f * 4 + i) else (-1)) from (by first | omega | (rw [if_pos (by omega), Int.mul_comm 4 f]; done) | (rw [if_pos (by omega), if_pos (by omega), Int.mul_comm 4 f]; done) | (rw [if_neg (by omega)]; done))), by rw [ht]; exact hP, hD⟩, hS.F ht⟩) hS.2.2 dX7_step_23
set_option maxHeartbeats 4000000 in
set_option maxRecDepth 100000 in
theorem c_X7_patch (l : Launch) (D : va_G) (cI cS : ClassId) (mA : Nat → Nat) (mf : Int) (mn : Int) (ml : Int) (mk : Int → Int) (mg : Int → Int) (mls : Int → Int) (ms : Int → Int) (mra : Int) (mrf : Int) (mrk : Int → Int) (mrg : Int → Int) (mrl : Int → Int) (mrs : Int → Int) (mo : Int) (moo : Int → Int) (moa : Int → Int) (mp : Int) (mpp : Int → Int) (mfi : Int) (mpl : Int) (mpo : Int → Int) (mro : Int → Int) (mdp : Int) (mdf : Int) (mhg : Int → Int) (mhk : Int → Int) (mR : Int) (mRf : Int → Int) (mRo : Int → Int) (mss : Int → Int) (msl : Int → Int) (msh : Int → Int) (mha : Int → Int) (mt : Int) (sz : Nat) (f : Int) (i : Int) (v : Int) (hok : okP mn mls ms) (hfr : -2147483648 ≤ f ∧ f < 2147483648) (hi : -2147483648 ≤ i ∧ i < 2147483648) (hv : -2147483648 ≤ v ∧ v < 2147483648) : Met l yX7_patch wsX7_patch ({ frames := 3, cells := 0, slots := 0, locals := 68 }) (cP D cI cS (W_M cI cS mA mf mn ml mk mg mls ms mra mrf mrk mrg mrl mrs mo moo moa mp mpp mfi mpl mpo mro mdp mdf mhg mhk mR mRf mRo mss msl msh mha mt) sz [.ref (mA 0), .int (iI f), .int (iI i), .int (iI v)]) (va_Qi (fun (r : Int32) (u : Unit) => r = iI (if 0 ≤ f ∧ f < mn ∧ 0 ≤ i ∧ i < mls f then (if 0 ≤ v ∧ v < 4 + f then ms (f * 4 + i) else (-2)) else (-1))) (fun (u : Unit) t => cB D (va_A (W_M cI cS mA mf mn ml mk mg mls ms mra mrf mrk mrg mrl mrs mo moo moa mp mpp mfi mpl mpo mro mdp mdf mhg mhk mR mRf mRo mss msl msh mha mt) sz) (W_M cI cS mA mf mn ml mk mg mls (if (0 ≤ f ∧ f < mn ∧ 0 ≤ i ∧ i < mls f) ∧ 0 ≤ v ∧ v < 4 + f then updI ms (f * 4 + i) v else ms) mra mrf mrk mrg mrl mrs mo moo moa mp mpp mfi mpl mpo mro mdp mdf mhg mhk mR mRf mRo mss msl msh mha mt) t) (va_A (W_M cI cS mA mf mn ml mk mg mls ms mra mrf mrk mrg mrl mrs mo moo moa mp mpp mfi mpl mpo mro mdp mdf mhg mhk mR mRf mRo mss msl msh mha mt) sz)) 0 0 (va_A (W_M cI cS mA mf mn ml mk mg mls ms mra mrf mrk mrg mrl mrs mo moo moa mp mpp mfi mpl mpo mro mdp mdf mhg mhk mR mRf mRo mss msl msh mha mt) sz) := by
  refine Met.ofW (cc := cX7_patch) (maxL := 5) (ret := (some .int)) (by decide) rfl ?_
  intro p e s m args below meth c_ s₁ B hml hv
  obtain ⟨rfl, hsz, hP, hK, hD0⟩ := hv
  have hx := B.exec
  have hb := B.bytes
  have hr := B.returns
  have hts := atoms_spec (ws := wsX7_patch) B.pre
  have hown : s.vm.findClass RX7 = some m.cls := findClass_of_methodNamed B.named
  have hlocks := B.notSynchronized
  subst hsz
  have hD := hD0.self (sz := s.heap.size)
  generalize hAe : va_A (W_M cI cS mA mf mn ml mk mg mls ms mra mrf mrk mrg mrl mrs mo moo moa mp mpp mfi mpl mpo mro mdp mdf mhg mhk mR mRf mRo mss msl msh mha mt) s.heap.size = A at hD ⊢
  have hA : ∀ q : Nat, s.heap.size ≤ q → A q := fun q h => by rw [← hAe]; exact Or.inr h
  have hS : va_S A s.heap s.heap [] := va_S.rf
  have hP : va_P D vwCl (W_M cI cS mA mf mn ml mk mg mls ms mra mrf mrk mrg mrl mrs mo moo moa mp mpp mfi mpl mpo mro mdp mdf mhg mhk mR mRf mRo mss msl msh mha mt) s.heap := hP
  have hl := lv_entry ([.ref (mA 0), .int (iI f), .int (iI i), .int (iI v)] : List Value) (n := 5) (Nat.le_of_ble_eq_true rfl)
  rw [lg_entry_eq]
  generalize (lg_sl ([.ref (mA 0), .int (iI f), .int (iI i), .int (iI v)] : List Value) ++ List.replicate (5 - (lg_sl ([.ref (mA 0), .int (iI f), .int (iI i), .int (iI v)] : List Value)).length) Slot.unset).toArray = ls at hl ⊢
  have hl : lv_has ls 5 [(0, .ref (mA 0)), (1, .int (iI f)), (2, .int (iI i)), (3, .int (iI v))] := hl
  have fl_19 := hts (.fieldLink RX7 19 "ActRowsModel" "stepOf" "[I") (by decide +kernel)
  have iw_7 : ∀ w ∈ wsX70, w ∈ wsX7_patch := by decide +kernel
  have hmn := hok.1
  have hln := hok.2.1
  refine lv_aload_n hx hb dX7_patch_0 rfl (lv_at hl 0 rfl) ?_
  refine lv_iload_n hx hb dX7_patch_1 rfl (lv_at hl 1 rfl) ?_
  refine lv_iload_n hx hb dX7_patch_2 rfl (lv_at hl 2 rfl) ?_
  refine x_callVi (As := [.int (iI f), .int (iI i)]) (rest := []) ⟨hx, hb, hml, hown, hts⟩ (c_X7_noStep l D cI cS mA mf mn ml mk mg mls ms mra mrf mrk mrg mrl mrs mo moo moa mp mpp mfi mpl mpo mro mdp mdf mhg mhk mR mRf mRo mss msl msh mha mt s.heap.size f i (by first | assumption | omega) (by first | assumption | omega) (by first | assumption | omega) (by first | assumption | omega)) (cwV 2 hts gX7_patch_X7_noStep rfl rfl rfl (by decide +kernel) ⟨Nat.le_of_ble_eq_true rfl, Nat.le_of_ble_eq_true rfl⟩) hK hP hD hS hA [0, 1, 2, 3, 4, 5, 6, 7, 8, 9, 10, 11, 12, 13, 14, 15, 16, 17, 18, 19, 20, 21] [] (wr := ([] : va_W)) rfl rfl (by decide) (by decide) (by decide) 0 7 rfl rfl rfl [0, 1, 2, 3, 4, 5, 6, 7, 8, 9, 10, 11, 12, 13, 14, 15, 16, 17, 18, 19, 20, 21] (fun (u : Unit) => (W_M cI cS mA mf mn ml mk mg mls ms mra mrf mrk mrg mrl mrs mo moo moa mp mpp mfi mpl mpo mro mdp mdf mhg mhk mR mRf mRo mss msl msh mha mt)) (fun _ => rfl) (by decide) rfl hl.1 rfl (Nat.le_of_ble_eq_true rfl) ⟨Nat.zero_le _, Nat.zero_le _⟩ dX7_patch_3 (fun r_ u_ H locs hw hP hD hS => ?_)
  try dsimp only at hw
  subst hw
  have hP : va_P D vwCl (W_M cI cS mA mf mn ml mk mg mls ms mra mrf mrk mrg mrl mrs mo moo moa mp mpp mfi mpl mpo mro mdp mdf mhg mhk mR mRf mRo mss msl msh mha mt) H := hP
  have hD : va_D A (W_M cI cS mA mf mn ml mk mg mls ms mra mrf mrk mrg mrl mrs mo moo moa mp mpp mfi mpl mpo mro mdp mdf mhg mhk mR mRf mRo mss msl msh mha mt) := hD
  refine n_if_b1 (tgt := 11) hx hb dX7_patch_6 (by decide)  (fun c_1 => ?_) (fun c_1 => ?_)
  ·
    have hlf := hln f (by omega) (by omega)
    refine lv_iload_n hx hb dX7_patch_11 rfl (lv_at hl 3 rfl) ?_
    refine n_i2l hx hb (by omega) dX7_patch_12 ?_
    refine lv_lconst (v := lI 0) hx hb dX7_patch_13 (by decide +kernel) ?_
    refine lv_iconst (v := iI 4) hx hb dX7_patch_14 (by decide +kernel) ?_
    refine lv_iload_n hx hb dX7_patch_15 rfl (lv_at hl 1 rfl) ?_
    refine n_iadd hx hb dX7_patch_16 ?_
    refine n_i2l hx hb (by omega) dX7_patch_17 ?_
    refine lv_lconst (v := lI 1) hx hb dX7_patch_18 (by decide +kernel) ?_
    refine n_lsub hx hb dX7_patch_19 ?_
    refine x_callSi (As := [.long (lI v), .long (lI 0), .long (lI ((4 + f) - 1))]) (rest := []) ⟨hx, hb, hml, hown, hts⟩ (c_X7_in l D cI cS H.size v 0 ((4 + f) - 1) (by first | assumption | omega) (by first | assumption | omega) (by first | assumption | omega)) (va_cwS 3 hts gX7_patch_X7_in rfl rfl rfl (by decide +kernel) ⟨Nat.le_of_ble_eq_true rfl, Nat.le_of_ble_eq_true rfl⟩) hK hP hD hS hA [] [0, 1, 2, 3, 4, 5, 6, 7, 8, 9, 10, 11, 12, 13, 14, 15, 16, 17, 18, 19, 20, 21] (wr := [(mA 0, .inr (7, [.int (iI mf), .int (iI mn), .int (iI ml), .ref (mA 1), .ref (mA 2), .ref (mA 3), .ref (mA 4), .int (iI mra), .int (iI mrf), .ref (mA 5), .ref (mA 6), .ref (mA 7), .ref (mA 8), .int (iI mo), .ref (mA 9), .ref (mA 10), .int (iI mp), .ref (mA 11), .int (iI mfi), .int (iI mpl), .ref (mA 12), .ref (mA 13), .int (iI mdp), .int (iI mdf), .ref (mA 14), .ref (mA 15), .int (iI mR), .ref (mA 16), .ref (mA 17), .ref (mA 18), .ref (mA 19), .ref (mA 20), .ref (mA 21), .int (iI mt)])), (mA 1, .inl (cI, 5, .inl (aI mk))), (mA 2, .inl (cI, 5, .inl (aI mg))), (mA 3, .inl (cI, 5, .inl (aI mls))), (mA 4, .inl (cI, 20, .inl (aI ms))), (mA 5, .inl (cI, 5, .inl (aI mrk))), (mA 6, .inl (cI, 5, .inl (aI mrg))), (mA 7, .inl (cI, 5, .inl (aI mrl))), (mA 8, .inl (cI, 20, .inl (aI mrs))), (mA 9, .inl (cI, 5, .inl (aI moo))), (mA 10, .inl (cI, 5, .inl (aI moa))), (mA 11, .inl (cI, 1024, .inl (aI mpp))), (mA 12, .inl (cI, 5, .inl (aI mpo))), (mA 13, .inl (cI, 5, .inl (aI mro))), (mA 14, .inl (cI, 5, .inl (aI mhg))), (mA 15, .inl (cI, 5, .inl (aI mhk))), (mA 16, .inl (cI, 8, .inl (aI mRf))), (mA 17, .inl (cI, 8, .inl (aI mRo))), (mA 18, .inl (cI, 4, .inl (aI mss))), (mA 19, .inl (cI, 4, .inl (aI msl))), (mA 20, .inl (cI, 240, .inl (aI msh))), (mA 21, .inl (cI, 60, .inl (aI mha)))]) rfl rfl (by decide) (by decide) (by decide) [0, 1, 2, 3, 4, 5, 6, 7, 8, 9, 10, 11, 12, 13, 14, 15, 16, 17, 18, 19, 20, 21] (fun (u : Unit) => (W_M cI cS mA mf mn ml mk mg mls ms mra mrf mrk mrg mrl mrs mo moo moa mp mpp mfi mpl mpo mro mdp mdf mhg mhk mR mRf mRo mss msl msh mha mt)) (fun _ => rfl) (by decide) rfl hl.1 rfl (Nat.le_of_ble_eq_true rfl) ⟨Nat.zero_le _, Nat.zero_le _⟩ dX7_patch_20 (fun r_ u_ H locs hw hP hD hS => ?_)
    try dsimp only at hw
    subst hw
    have hP : va_P D vwCl (W_M cI cS mA mf mn ml mk mg mls ms mra mrf mrk mrg mrl mrs mo moo moa mp mpp mfi mpl mpo mro mdp mdf mhg mhk mR mRf mRo mss msl msh mha mt) H := hP
    have hD : va_D A (W_M cI cS mA mf mn ml mk mg mls ms mra mrf mrk mrg mrl mrs mo moo moa mp mpp mfi mpl mpo mro mdp mdf mhg mhk mR mRf mRo mss msl msh mha mt) := hD
    refine n_if_b2 (tgt := 29) hx hb dX7_patch_23 (by decide)  (fun c_2 => ?_) (fun c_2 => ?_)
    ·
      refine lv_aload_n hx hb dX7_patch_29 rfl (lv_at hl 0 rfl) ?_
      refine va_get (D := D) (ci := 7) (v := .ref (mA 4)) (C := RX7) (T := TX7) (N := 34) hx hb hts iw_7 hown hK.1 hP 0 rfl rfl 6 (by decide) fl_19 (fun _ h9 => h9) rfl dX7_patch_30 ?_
      refine lv_iconst (v := iI 4) hx hb dX7_patch_33 (by decide +kernel) ?_
      refine lv_iload_n hx hb dX7_patch_34 rfl (lv_at hl 1 rfl) ?_
      refine n_imul hx hb dX7_patch_35 ?_
      refine lv_iload_n hx hb dX7_patch_36 rfl (lv_at hl 2 rfl) ?_
      refine n_iadd hx hb dX7_patch_37 ?_
      refine n_iald (n := 20) hx hb hK.1 hP 4 0 rfl rfl (by omega) (by decide) dX7_patch_38 ?_
      refine lv_istore (lv' := [(4, .int (iI (ms ((4 * f) + i)))), (0, .ref (mA 0)), (1, .int (iI f)), (2, .int (iI i)), (3, .int (iI v))]) hx hb dX7_patch_39 hl (by decide) rfl (fun ls hl => ?_)
      refine lv_aload_n hx hb dX7_patch_41 rfl (lv_at hl 1 rfl) ?_
      refine va_get (D := D) (ci := 7) (v := .ref (mA 4)) (C := RX7) (T := TX7) (N := 34) hx hb hts iw_7 hown hK.1 hP 0 rfl rfl 6 (by decide) fl_19 (fun _ h9 => h9) rfl dX7_patch_42 ?_
      refine lv_iconst (v := iI 4) hx hb dX7_patch_45 (by decide +kernel) ?_
      refine lv_iload_n hx hb dX7_patch_46 rfl (lv_at hl 2 rfl) ?_
      refine n_imul hx hb dX7_patch_47 ?_
      refine lv_iload_n hx hb dX7_patch_48 rfl (lv_at hl 3 rfl) ?_
      refine n_iadd hx hb dX7_patch_49 ?_
      refine lv_iload_n hx hb dX7_patch_50 rfl (lv_at hl 4 rfl) ?_
      refine n_iast (n := 20) hx hb hK.1 hP hD hS 4 0 rfl rfl (by omega) (by decide) dX7_patch_51 (fun H locs hP hD hS => ?_)
      have hP : va_P D vwCl (W_M cI cS mA mf mn ml mk mg mls (updI ms ((4 * f) + i) v) mra mrf mrk mrg mrl mrs mo moo moa mp mpp mfi mpl mpo mro mdp mdf mhg mhk mR mRf mRo mss msl msh mha mt) H := hP
      have hD : va_D A (W_M cI cS mA mf mn ml mk mg mls (updI ms ((4 * f) + i) v) mra mrf mrk mrg mrl mrs mo moo moa mp mpp mfi mpl mpo mro mdp mdf mhg mhk mR mRf mRo mss msl msh mha mt) := hD
      refine lv_iload hx hb dX7_patch_52 (lv_at hl 0 rfl) ?_
      have e_3 : ((updI ms ((4 * f) + i) v) : Int → Int) = (if (0 ≤ f ∧ f < mn ∧ 0 ≤ i ∧ i < mls f) ∧ 0 ≤ v ∧ v < 4 + f then updI ms (f * 4 + i) v else ms) := (by first | (rw [if_pos (by omega), Int.mul_comm 4 f]; done) | (rw [if_neg (by omega)]; done))
      have hP : va_P D vwCl (W_M cI cS mA mf mn ml mk mg mls (if (0 ≤ f ∧ f < mn ∧ 0 ≤ i ∧ i < mls f) ∧ 0 ≤ v ∧ v < 4 + f then updI ms (f * 4 + i) v else ms) mra mrf mrk mrg mrl mrs mo moo moa mp mpp mfi mpl mpo mro mdp mdf mhg mhk mR mRf mRo mss msl msh mha mt) H := Eq.mp (congrArg (fun z_ => va_P D vwCl (W_M cI cS mA mf mn ml mk mg mls z_ mra mrf mrk mrg mrl mrs mo moo moa mp mpp mfi mpl mpo mro mdp mdf mhg mhk mR mRf mRo mss msl msh mha mt) H) e_3) hP
      have hD : va_D A (W_M cI cS mA mf mn ml mk mg mls (if (0 ≤ f ∧ f < mn ∧ 0 ≤ i ∧ i < mls f) ∧ 0 ≤ v ∧ v < 4 + f then updI ms (f * 4 + i) v else ms) mra mrf mrk mrg mrl mrs mo moo moa mp mpp mfi mpl mpo mro mdp mdf mhg mhk mR mRf mRo mss msl msh mha mt) := Eq.mp (congrArg (fun z_ => va_D A (W_M cI cS mA mf mn ml mk mg mls z_ mra mrf mrk mrg mrl mrs mo moo moa mp mpp mfi mpl mpo mro mdp mdf mhg mhk mR mRf mRo mss msl msh mha mt)) e_3) hD
      exact W.iret (v := iI (ms ((4 * f) + i))) hx hb hr (fun t ht hW => ⟨⟨_, (), rfl, congrArg iI (show (ms ((4 * f) + i)) = (if 0 ≤ f ∧ f < mn ∧ 0 ≤ i ∧ i < mls f then (if 0 ≤ v ∧ v < 4 + f then ms (f * 4 + i) else (-2)) else (-1)) from (by first | omega | (rw [if_pos (by omega), Int.mul_comm 4 f]; done) | (rw [if_pos (by omega), if_pos (by omega), Int.mul_comm 4 f]; done) | (rw [if_neg (by omega)]; done))), by rw [ht]; exact hP, hD⟩, hS.F ht⟩) hS.2.2 dX7_patch_54
    ·
      refine lv_bipush (v := iI (-2)) hx hb dX7_patch_26 (by decide +kernel) ?_
      have e_4 : (ms : Int → Int) = (if (0 ≤ f ∧ f < mn ∧ 0 ≤ i ∧ i < mls f) ∧ 0 ≤ v ∧ v < 4 + f then updI ms (f * 4 + i) v else ms) := (by first | (rw [if_pos (by omega), Int.mul_comm 4 f]; done) | (rw [if_neg (by omega)]; done))
      have hP : va_P D vwCl (W_M cI cS mA mf mn ml mk mg mls (if (0 ≤ f ∧ f < mn ∧ 0 ≤ i ∧ i < mls f) ∧ 0 ≤ v ∧ v < 4 + f then updI ms (f * 4 + i) v else ms) mra mrf mrk mrg mrl mrs mo moo moa mp mpp mfi mpl mpo mro mdp mdf mhg mhk mR mRf mRo mss msl msh mha mt) H := Eq.mp (congrArg (fun z_ => va_P D vwCl (W_M cI cS mA mf mn ml mk mg mls z_ mra mrf mrk mrg mrl mrs mo moo moa mp mpp mfi mpl mpo mro mdp mdf mhg mhk mR mRf mRo mss msl msh mha mt) H) e_4) hP
      have hD : va_D A (W_M cI cS mA mf mn ml mk mg mls (if (0 ≤ f ∧ f < mn ∧ 0 ≤ i ∧ i < mls f) ∧ 0 ≤ v ∧ v < 4 + f then updI ms (f * 4 + i) v else ms) mra mrf mrk mrg mrl mrs mo moo moa mp mpp mfi mpl mpo mro mdp mdf mhg mhk mR mRf mRo mss msl msh mha mt) := Eq.mp (congrArg (fun z_ => va_D A (W_M cI cS mA mf mn ml mk mg mls z_ mra mrf mrk mrg mrl mrs mo moo moa mp mpp mfi mpl mpo mro mdp mdf mhg mhk mR mRf mRo mss msl msh mha mt)) e_4) hD
      exact W.iret (v := iI (-2)) hx hb hr (fun t ht hW => ⟨⟨_, (), rfl, congrArg iI (show (-2) = (if 0 ≤ f ∧ f < mn ∧ 0 ≤ i ∧ i < mls f then (if 0 ≤ v ∧ v < 4 + f then ms (f * 4 + i) else (-2)) else (-1)) from (by first | omega | (rw [if_pos (by omega), Int.mul_comm 4 f]; done) | (rw [if_pos (by omega), if_pos (by omega), Int.mul_comm 4 f]; done) | (rw [if_neg (by omega)]; done))), by rw [ht]; exact hP, hD⟩, hS.F ht⟩) hS.2.2 dX7_patch_28
  ·
    refine lv_iconst (v := iI (-1)) hx hb dX7_patch_9 (by decide +kernel) ?_
    have e_5 : (ms : Int → Int) = (if (0 ≤ f ∧ f < mn ∧ 0 ≤ i ∧ i < mls f) ∧ 0 ≤ v ∧ v < 4 + f then updI ms (f * 4 + i) v else ms) := (by first | (rw [if_pos (by omega), Int.mul_comm 4 f]; done) | (rw [if_neg (by omega)]; done))
    have hP : va_P D vwCl (W_M cI cS mA mf mn ml mk mg mls (if (0 ≤ f ∧ f < mn ∧ 0 ≤ i ∧ i < mls f) ∧ 0 ≤ v ∧ v < 4 + f then updI ms (f * 4 + i) v else ms) mra mrf mrk mrg mrl mrs mo moo moa mp mpp mfi mpl mpo mro mdp mdf mhg mhk mR mRf mRo mss msl msh mha mt) H := Eq.mp (congrArg (fun z_ => va_P D vwCl (W_M cI cS mA mf mn ml mk mg mls z_ mra mrf mrk mrg mrl mrs mo moo moa mp mpp mfi mpl mpo mro mdp mdf mhg mhk mR mRf mRo mss msl msh mha mt) H) e_5) hP
    have hD : va_D A (W_M cI cS mA mf mn ml mk mg mls (if (0 ≤ f ∧ f < mn ∧ 0 ≤ i ∧ i < mls f) ∧ 0 ≤ v ∧ v < 4 + f then updI ms (f * 4 + i) v else ms) mra mrf mrk mrg mrl mrs mo moo moa mp mpp mfi mpl mpo mro mdp mdf mhg mhk mR mRf mRo mss msl msh mha mt) := Eq.mp (congrArg (fun z_ => va_D A (W_M cI cS mA mf mn ml mk mg mls z_ mra mrf mrk mrg mrl mrs mo moo moa mp mpp mfi mpl mpo mro mdp mdf mhg mhk mR mRf mRo mss msl msh mha mt)) e_5) hD
    exact W.iret (v := iI (-1)) hx hb hr (fun t ht hW => ⟨⟨_, (), rfl, congrArg iI (show (-1) = (if 0 ≤ f ∧ f < mn ∧ 0 ≤ i ∧ i < mls f then (if 0 ≤ v ∧ v < 4 + f then ms (f * 4 + i) else (-2)) else (-1)) from (by first | omega | (rw [if_pos (by omega), Int.mul_comm 4 f]; done) | (rw [if_pos (by omega), if_pos (by omega), Int.mul_comm 4 f]; done) | (rw [if_neg (by omega)]; done))), by rw [ht]; exact hP, hD⟩, hS.F ht⟩) hS.2.2 dX7_patch_10
set_option maxHeartbeats 4000000 in
set_option maxRecDepth 100000 in
theorem c_X7_guard (l : Launch) (D : va_G) (cI cS : ClassId) (mA : Nat → Nat) (mf : Int) (mn : Int) (ml : Int) (mk : Int → Int) (mg : Int → Int) (mls : Int → Int) (ms : Int → Int) (mra : Int) (mrf : Int) (mrk : Int → Int) (mrg : Int → Int) (mrl : Int → Int) (mrs : Int → Int) (mo : Int) (moo : Int → Int) (moa : Int → Int) (mp : Int) (mpp : Int → Int) (mfi : Int) (mpl : Int) (mpo : Int → Int) (mro : Int → Int) (mdp : Int) (mdf : Int) (mhg : Int → Int) (mhk : Int → Int) (mR : Int) (mRf : Int → Int) (mRo : Int → Int) (mss : Int → Int) (msl : Int → Int) (msh : Int → Int) (mha : Int → Int) (mt : Int) (sz : Nat) (f : Int) (x : Int) (hmn : 0 ≤ mn ∧ mn ≤ 5) (hfr : -2147483648 ≤ f ∧ f < 2147483648) (hxr : -2147483648 ≤ x ∧ x < 2147483648) : Met l yX7_guard wsX7_guard ({ frames := 2, cells := 0, slots := 0, locals := 46 }) (cP D cI cS (W_M cI cS mA mf mn ml mk mg mls ms mra mrf mrk mrg mrl mrs mo moo moa mp mpp mfi mpl mpo mro mdp mdf mhg mhk mR mRf mRo mss msl msh mha mt) sz [.ref (mA 0), .int (iI f), .int (iI x)]) (va_Qi (fun (r : Int32) (u : Unit) => r = iI (if 0 ≤ f ∧ f < mn then (if 0 ≤ x ∧ x < 4 then mg f else (-2)) else (-1))) (fun (u : Unit) t => cB D (va_A (W_M cI cS mA mf mn ml mk mg mls ms mra mrf mrk mrg mrl mrs mo moo moa mp mpp mfi mpl mpo mro mdp mdf mhg mhk mR mRf mRo mss msl msh mha mt) sz) (W_M cI cS mA mf mn ml mk (if (0 ≤ f ∧ f < mn) ∧ 0 ≤ x ∧ x < 4 then updI mg f x else mg) mls ms mra mrf mrk mrg mrl mrs mo moo moa mp mpp mfi mpl mpo mro mdp mdf mhg mhk mR mRf mRo mss msl msh mha mt) t) (va_A (W_M cI cS mA mf mn ml mk mg mls ms mra mrf mrk mrg mrl mrs mo moo moa mp mpp mfi mpl mpo mro mdp mdf mhg mhk mR mRf mRo mss msl msh mha mt) sz)) 0 0 (va_A (W_M cI cS mA mf mn ml mk mg mls ms mra mrf mrk mrg mrl mrs mo moo moa mp mpp mfi mpl mpo mro mdp mdf mhg mhk mR mRf mRo mss msl msh mha mt) sz) := by
  refine Met.ofW (cc := cX7_guard) (maxL := 4) (ret := (some .int)) (by decide) rfl ?_
  intro p e s m args below meth c_ s₁ B hml hv
  obtain ⟨rfl, hsz, hP, hK, hD0⟩ := hv
  have hx := B.exec
  have hb := B.bytes
  have hr := B.returns
  have hts := atoms_spec (ws := wsX7_guard) B.pre
  have hown : s.vm.findClass RX7 = some m.cls := findClass_of_methodNamed B.named
  have hlocks := B.notSynchronized
  subst hsz
  have hD := hD0.self (sz := s.heap.size)
  generalize hAe : va_A (W_M cI cS mA mf mn ml mk mg mls ms mra mrf mrk mrg mrl mrs mo moo moa mp mpp mfi mpl mpo mro mdp mdf mhg mhk mR mRf mRo mss msl msh mha mt) s.heap.size = A at hD ⊢
  have hA : ∀ q : Nat, s.heap.size ≤ q → A q := fun q h => by rw [← hAe]; exact Or.inr h
  have hS : va_S A s.heap s.heap [] := va_S.rf
  have hP : va_P D vwCl (W_M cI cS mA mf mn ml mk mg mls ms mra mrf mrk mrg mrl mrs mo moo moa mp mpp mfi mpl mpo mro mdp mdf mhg mhk mR mRf mRo mss msl msh mha mt) s.heap := hP
  have hl := lv_entry ([.ref (mA 0), .int (iI f), .int (iI x)] : List Value) (n := 4) (Nat.le_of_ble_eq_true rfl)
  rw [lg_entry_eq]
  generalize (lg_sl ([.ref (mA 0), .int (iI f), .int (iI x)] : List Value) ++ List.replicate (4 - (lg_sl ([.ref (mA 0), .int (iI f), .int (iI x)] : List Value)).length) Slot.unset).toArray = ls at hl ⊢
  have hl : lv_has ls 4 [(0, .ref (mA 0)), (1, .int (iI f)), (2, .int (iI x))] := hl
  have fl_13 := hts (.fieldLink RX7 13 "ActRowsModel" "guardOf" "[I") (by decide +kernel)
  have iw_7 : ∀ w ∈ wsX70, w ∈ wsX7_guard := by decide +kernel
  refine lv_aload_n hx hb dX7_guard_0 rfl (lv_at hl 0 rfl) ?_
  refine lv_iload_n hx hb dX7_guard_1 rfl (lv_at hl 1 rfl) ?_
  refine x_callVi (As := [.int (iI f)]) (rest := []) ⟨hx, hb, hml, hown, hts⟩ (c_X7_noFunction l D cI cS mA mf mn ml mk mg mls ms mra mrf mrk mrg mrl mrs mo moo moa mp mpp mfi mpl mpo mro mdp mdf mhg mhk mR mRf mRo mss msl msh mha mt s.heap.size f (by first | assumption | omega) (by first | assumption | omega)) (cwV 1 hts gX7_guard_X7_noFunction rfl rfl rfl (by decide +kernel) ⟨Nat.le_of_ble_eq_true rfl, Nat.le_of_ble_eq_true rfl⟩) hK hP hD hS hA [0, 1, 2, 3, 4, 5, 6, 7, 8, 9, 10, 11, 12, 13, 14, 15, 16, 17, 18, 19, 20, 21] [] (wr := ([] : va_W)) rfl rfl (by decide) (by decide) (by decide) 0 7 rfl rfl rfl [0, 1, 2, 3, 4, 5, 6, 7, 8, 9, 10, 11, 12, 13, 14, 15, 16, 17, 18, 19, 20, 21] (fun (u : Unit) => (W_M cI cS mA mf mn ml mk mg mls ms mra mrf mrk mrg mrl mrs mo moo moa mp mpp mfi mpl mpo mro mdp mdf mhg mhk mR mRf mRo mss msl msh mha mt)) (fun _ => rfl) (by decide) rfl hl.1 rfl (Nat.le_of_ble_eq_true rfl) ⟨Nat.zero_le _, Nat.zero_le _⟩ dX7_guard_2 (fun r_ u_ H locs hw hP hD hS => ?_)
  try dsimp only at hw
  subst hw
  have hP : va_P D vwCl (W_M cI cS mA mf mn ml mk mg mls ms mra mrf mrk mrg mrl mrs mo moo moa mp mpp mfi mpl mpo mro mdp mdf mhg mhk mR mRf mRo mss msl msh mha mt) H := hP
  have hD : va_D A (W_M cI cS mA mf mn ml mk mg mls ms mra mrf mrk mrg mrl mrs mo moo moa mp mpp mfi mpl mpo mro mdp mdf mhg mhk mR mRf mRo mss msl msh mha mt) := hD
  refine n_if_b1 (tgt := 10) hx hb dX7_guard_5 (by decide)  (fun c_1 => ?_) (fun c_1 => ?_)
  ·
    refine lv_iload_n hx hb dX7_guard_10 rfl (lv_at hl 2 rfl) ?_
    refine x_callSi (As := [.int (iI x)]) (rest := []) ⟨hx, hb, hml, hown, hts⟩ (c_X7_isAct l D cI cS H.size x (by first | assumption | omega)) (va_cwS 1 hts gX7_guard_X7_isAct rfl rfl rfl (by decide +kernel) ⟨Nat.le_of_ble_eq_true rfl, Nat.le_of_ble_eq_true rfl⟩) hK hP hD hS hA [] [0, 1, 2, 3, 4, 5, 6, 7, 8, 9, 10, 11, 12, 13, 14, 15, 16, 17, 18, 19, 20, 21] (wr := [(mA 0, .inr (7, [.int (iI mf), .int (iI mn), .int (iI ml), .ref (mA 1), .ref (mA 2), .ref (mA 3), .ref (mA 4), .int (iI mra), .int (iI mrf), .ref (mA 5), .ref (mA 6), .ref (mA 7), .ref (mA 8), .int (iI mo), .ref (mA 9), .ref (mA 10), .int (iI mp), .ref (mA 11), .int (iI mfi), .int (iI mpl), .ref (mA 12), .ref (mA 13), .int (iI mdp), .int (iI mdf), .ref (mA 14), .ref (mA 15), .int (iI mR), .ref (mA 16), .ref (mA 17), .ref (mA 18), .ref (mA 19), .ref (mA 20), .ref (mA 21), .int (iI mt)])), (mA 1, .inl (cI, 5, .inl (aI mk))), (mA 2, .inl (cI, 5, .inl (aI mg))), (mA 3, .inl (cI, 5, .inl (aI mls))), (mA 4, .inl (cI, 20, .inl (aI ms))), (mA 5, .inl (cI, 5, .inl (aI mrk))), (mA 6, .inl (cI, 5, .inl (aI mrg))), (mA 7, .inl (cI, 5, .inl (aI mrl))), (mA 8, .inl (cI, 20, .inl (aI mrs))), (mA 9, .inl (cI, 5, .inl (aI moo))), (mA 10, .inl (cI, 5, .inl (aI moa))), (mA 11, .inl (cI, 1024, .inl (aI mpp))), (mA 12, .inl (cI, 5, .inl (aI mpo))), (mA 13, .inl (cI, 5, .inl (aI mro))), (mA 14, .inl (cI, 5, .inl (aI mhg))), (mA 15, .inl (cI, 5, .inl (aI mhk))), (mA 16, .inl (cI, 8, .inl (aI mRf))), (mA 17, .inl (cI, 8, .inl (aI mRo))), (mA 18, .inl (cI, 4, .inl (aI mss))), (mA 19, .inl (cI, 4, .inl (aI msl))), (mA 20, .inl (cI, 240, .inl (aI msh))), (mA 21, .inl (cI, 60, .inl (aI mha)))]) rfl rfl (by decide) (by decide) (by decide) [0, 1, 2, 3, 4, 5, 6, 7, 8, 9, 10, 11, 12, 13, 14, 15, 16, 17, 18, 19, 20, 21] (fun (u : Unit) => (W_M cI cS mA mf mn ml mk mg mls ms mra mrf mrk mrg mrl mrs mo moo moa mp mpp mfi mpl mpo mro mdp mdf mhg mhk mR mRf mRo mss msl msh mha mt)) (fun _ => rfl) (by decide) rfl hl.1 rfl (Nat.le_of_ble_eq_true rfl) ⟨Nat.zero_le _, Nat.zero_le _⟩ dX7_guard_11 (fun r_ u_ H locs hw hP hD hS => ?_)
    try dsimp only at hw
    subst hw
    have hP : va_P D vwCl (W_M cI cS mA mf mn ml mk mg mls ms mra mrf mrk mrg mrl mrs mo moo moa mp mpp mfi mpl mpo mro mdp mdf mhg mhk mR mRf mRo mss msl msh mha mt) H := hP
    have hD : va_D A (W_M cI cS mA mf mn ml mk mg mls ms mra mrf mrk mrg mrl mrs mo moo moa mp mpp mfi mpl mpo mro mdp mdf mhg mhk mR mRf mRo mss msl msh mha mt) := hD
    refine n_if_b2 (tgt := 20) hx hb dX7_guard_14 (by decide)  (fun c_2 => ?_) (fun c_2 => ?_)
    ·
      refine lv_aload_n hx hb dX7_guard_20 rfl (lv_at hl 0 rfl) ?_
      refine va_get (D := D) (ci := 7) (v := .ref (mA 2)) (C := RX7) (T := TX7) (N := 34) hx hb hts iw_7 hown hK.1 hP 0 rfl rfl 4 (by decide) fl_13 (fun _ h9 => h9) rfl dX7_guard_21 ?_
      refine lv_iload_n hx hb dX7_guard_24 rfl (lv_at hl 1 rfl) ?_
      refine n_iald (n := 5) hx hb hK.1 hP 2 0 rfl rfl (by omega) (by decide) dX7_guard_25 ?_
      refine lv_istore_n (lv' := [(3, .int (iI (mg f))), (0, .ref (mA 0)), (1, .int (iI f)), (2, .int (iI x))]) hx hb dX7_guard_26 rfl hl (by decide) rfl (fun ls hl => ?_)
      refine lv_aload_n hx hb dX7_guard_27 rfl (lv_at hl 1 rfl) ?_
      refine va_get (D := D) (ci := 7) (v := .ref (mA 2)) (C := RX7) (T := TX7) (N := 34) hx hb hts iw_7 hown hK.1 hP 0 rfl rfl 4 (by decide) fl_13 (fun _ h9 => h9) rfl dX7_guard_28 ?_
      refine lv_iload_n hx hb dX7_guard_31 rfl (lv_at hl 2 rfl) ?_
      refine lv_iload_n hx hb dX7_guard_32 rfl (lv_at hl 3 rfl) ?_
      refine n_iast (n := 5) hx hb hK.1 hP hD hS 2 0 rfl rfl (by omega) (by decide) dX7_guard_33 (fun H locs hP hD hS => ?_)
      have hP : va_P D vwCl (W_M cI cS mA mf mn ml mk (updI mg f x) mls ms mra mrf mrk mrg mrl mrs mo moo moa mp mpp mfi mpl mpo mro mdp mdf mhg mhk mR mRf mRo mss msl msh mha mt) H := hP
      have hD : va_D A (W_M cI cS mA mf mn ml mk (updI mg f x) mls ms mra mrf mrk mrg mrl mrs mo moo moa mp mpp mfi mpl mpo mro mdp mdf mhg mhk mR mRf mRo mss msl msh mha mt) := hD
      refine lv_iload_n hx hb dX7_guard_34 rfl (lv_at hl 0 rfl) ?_
      have e_3 : ((updI mg f x) : Int → Int) = (if (0 ≤ f ∧ f < mn) ∧ 0 ≤ x ∧ x < 4 then updI mg f x else mg) := (by first | (rw [if_pos (by omega)]; done) | (rw [if_neg (by omega)]; done))
      have hP : va_P D vwCl (W_M cI cS mA mf mn ml mk (if (0 ≤ f ∧ f < mn) ∧ 0 ≤ x ∧ x < 4 then updI mg f x else mg) mls ms mra mrf mrk mrg mrl mrs mo moo moa mp mpp mfi mpl mpo mro mdp mdf mhg mhk mR mRf mRo mss msl msh mha mt) H := Eq.mp (congrArg (fun z_ => va_P D vwCl (W_M cI cS mA mf mn ml mk z_ mls ms mra mrf mrk mrg mrl mrs mo moo moa mp mpp mfi mpl mpo mro mdp mdf mhg mhk mR mRf mRo mss msl msh mha mt) H) e_3) hP
      have hD : va_D A (W_M cI cS mA mf mn ml mk (if (0 ≤ f ∧ f < mn) ∧ 0 ≤ x ∧ x < 4 then updI mg f x else mg) mls ms mra mrf mrk mrg mrl mrs mo moo moa mp mpp mfi mpl mpo mro mdp mdf mhg mhk mR mRf mRo mss msl msh mha mt) := Eq.mp (congrArg (fun z_ => va_D A (W_M cI cS mA mf mn ml mk z_ mls ms mra mrf mrk mrg mrl mrs mo moo moa mp mpp mfi mpl mpo mro mdp mdf mhg mhk mR mRf mRo mss msl msh mha mt)) e_3) hD
      exact W.iret (v := iI (mg f)) hx hb hr (fun t ht hW => ⟨⟨_, (), rfl, congrArg iI (show (mg f) = (if 0 ≤ f ∧ f < mn then (if 0 ≤ x ∧ x < 4 then mg f else (-2)) else (-1)) from (by omega)), by rw [ht]; exact hP, hD⟩, hS.F ht⟩) hS.2.2 dX7_guard_35
    ·
      refine lv_bipush (v := iI (-2)) hx hb dX7_guard_17 (by decide +kernel) ?_
      have e_4 : (mg : Int → Int) = (if (0 ≤ f ∧ f < mn) ∧ 0 ≤ x ∧ x < 4 then updI mg f x else mg) := (by first | (rw [if_pos (by omega)]; done) | (rw [if_neg (by omega)]; done))
      have hP : va_P D vwCl (W_M cI cS mA mf mn ml mk (if (0 ≤ f ∧ f < mn) ∧ 0 ≤ x ∧ x < 4 then updI mg f x else mg) mls ms mra mrf mrk mrg mrl mrs mo moo moa mp mpp mfi mpl mpo mro mdp mdf mhg mhk mR mRf mRo mss msl msh mha mt) H := Eq.mp (congrArg (fun z_ => va_P D vwCl (W_M cI cS mA mf mn ml mk z_ mls ms mra mrf mrk mrg mrl mrs mo moo moa mp mpp mfi mpl mpo mro mdp mdf mhg mhk mR mRf mRo mss msl msh mha mt) H) e_4) hP
      have hD : va_D A (W_M cI cS mA mf mn ml mk (if (0 ≤ f ∧ f < mn) ∧ 0 ≤ x ∧ x < 4 then updI mg f x else mg) mls ms mra mrf mrk mrg mrl mrs mo moo moa mp mpp mfi mpl mpo mro mdp mdf mhg mhk mR mRf mRo mss msl msh mha mt) := Eq.mp (congrArg (fun z_ => va_D A (W_M cI cS mA mf mn ml mk z_ mls ms mra mrf mrk mrg mrl mrs mo moo moa mp mpp mfi mpl mpo mro mdp mdf mhg mhk mR mRf mRo mss msl msh mha mt)) e_4) hD
      exact W.iret (v := iI (-2)) hx hb hr (fun t ht hW => ⟨⟨_, (), rfl, congrArg iI (show (-2) = (if 0 ≤ f ∧ f < mn then (if 0 ≤ x ∧ x < 4 then mg f else (-2)) else (-1)) from (by omega)), by rw [ht]; exact hP, hD⟩, hS.F ht⟩) hS.2.2 dX7_guard_19
  ·
    refine lv_iconst (v := iI (-1)) hx hb dX7_guard_8 (by decide +kernel) ?_
    have e_5 : (mg : Int → Int) = (if (0 ≤ f ∧ f < mn) ∧ 0 ≤ x ∧ x < 4 then updI mg f x else mg) := (by first | (rw [if_pos (by omega)]; done) | (rw [if_neg (by omega)]; done))
    have hP : va_P D vwCl (W_M cI cS mA mf mn ml mk (if (0 ≤ f ∧ f < mn) ∧ 0 ≤ x ∧ x < 4 then updI mg f x else mg) mls ms mra mrf mrk mrg mrl mrs mo moo moa mp mpp mfi mpl mpo mro mdp mdf mhg mhk mR mRf mRo mss msl msh mha mt) H := Eq.mp (congrArg (fun z_ => va_P D vwCl (W_M cI cS mA mf mn ml mk z_ mls ms mra mrf mrk mrg mrl mrs mo moo moa mp mpp mfi mpl mpo mro mdp mdf mhg mhk mR mRf mRo mss msl msh mha mt) H) e_5) hP
    have hD : va_D A (W_M cI cS mA mf mn ml mk (if (0 ≤ f ∧ f < mn) ∧ 0 ≤ x ∧ x < 4 then updI mg f x else mg) mls ms mra mrf mrk mrg mrl mrs mo moo moa mp mpp mfi mpl mpo mro mdp mdf mhg mhk mR mRf mRo mss msl msh mha mt) := Eq.mp (congrArg (fun z_ => va_D A (W_M cI cS mA mf mn ml mk z_ mls ms mra mrf mrk mrg mrl mrs mo moo moa mp mpp mfi mpl mpo mro mdp mdf mhg mhk mR mRf mRo mss msl msh mha mt)) e_5) hD
    exact W.iret (v := iI (-1)) hx hb hr (fun t ht hW => ⟨⟨_, (), rfl, congrArg iI (show (-1) = (if 0 ≤ f ∧ f < mn then (if 0 ≤ x ∧ x < 4 then mg f else (-2)) else (-1)) from (by omega)), by rw [ht]; exact hP, hD⟩, hS.F ht⟩) hS.2.2 dX7_guard_9
set_option maxHeartbeats 4000000 in
set_option maxRecDepth 100000 in
theorem c_X7_live (l : Launch) (D : va_G) (cI cS : ClassId) (mA : Nat → Nat) (mf : Int) (mn : Int) (ml : Int) (mk : Int → Int) (mg : Int → Int) (mls : Int → Int) (ms : Int → Int) (mra : Int) (mrf : Int) (mrk : Int → Int) (mrg : Int → Int) (mrl : Int → Int) (mrs : Int → Int) (mo : Int) (moo : Int → Int) (moa : Int → Int) (mp : Int) (mpp : Int → Int) (mfi : Int) (mpl : Int) (mpo : Int → Int) (mro : Int → Int) (mdp : Int) (mdf : Int) (mhg : Int → Int) (mhk : Int → Int) (mR : Int) (mRf : Int → Int) (mRo : Int → Int) (mss : Int → Int) (msl : Int → Int) (msh : Int → Int) (mha : Int → Int) (mt : Int) (sz : Nat) (x : Int) (hmn : 0 ≤ mn ∧ mn ≤ 5) (hxr : -2147483648 ≤ x ∧ x < 2147483648) : Met l yX7_live wsX7_live ({ frames := 1, cells := 0, slots := 0, locals := 25 }) (cP D cI cS (W_M cI cS mA mf mn ml mk mg mls ms mra mrf mrk mrg mrl mrs mo moo moa mp mpp mfi mpl mpo mro mdp mdf mhg mhk mR mRf mRo mss msl msh mha mt) sz [.ref (mA 0), .int (iI x)]) (va_Qi (fun (r : Int32) (u : Unit) => r = iI (if 0 ≤ x ∧ x < 16 then (if mn = 0 then (-3) else ml) else (-2))) (fun (u : Unit) t => cB D (va_A (W_M cI cS mA mf mn ml mk mg mls ms mra mrf mrk mrg mrl mrs mo moo moa mp mpp mfi mpl mpo mro mdp mdf mhg mhk mR mRf mRo mss msl msh mha mt) sz) (W_M cI cS mA mf mn (if (0 ≤ x ∧ x < 16) ∧ mn ≠ 0 then x else ml) mk mg mls ms mra mrf mrk mrg mrl mrs mo moo moa mp mpp mfi mpl mpo mro mdp mdf mhg mhk mR mRf mRo mss msl msh mha mt) t) (va_A (W_M cI cS mA mf mn ml mk mg mls ms mra mrf mrk mrg mrl mrs mo moo moa mp mpp mfi mpl mpo mro mdp mdf mhg mhk mR mRf mRo mss msl msh mha mt) sz)) 0 0 (va_A (W_M cI cS mA mf mn ml mk mg mls ms mra mrf mrk mrg mrl mrs mo moo moa mp mpp mfi mpl mpo mro mdp mdf mhg mhk mR mRf mRo mss msl msh mha mt) sz) := by
  refine Met.ofW (cc := cX7_live) (maxL := 3) (ret := (some .int)) (by decide) rfl ?_
  intro p e s m args below meth c_ s₁ B hml hv
  obtain ⟨rfl, hsz, hP, hK, hD0⟩ := hv
  have hx := B.exec
  have hb := B.bytes
  have hr := B.returns
  have hts := atoms_spec (ws := wsX7_live) B.pre
  have hown : s.vm.findClass RX7 = some m.cls := findClass_of_methodNamed B.named
  have hlocks := B.notSynchronized
  subst hsz
  have hD := hD0.self (sz := s.heap.size)
  generalize hAe : va_A (W_M cI cS mA mf mn ml mk mg mls ms mra mrf mrk mrg mrl mrs mo moo moa mp mpp mfi mpl mpo mro mdp mdf mhg mhk mR mRf mRo mss msl msh mha mt) s.heap.size = A at hD ⊢
  have hA : ∀ q : Nat, s.heap.size ≤ q → A q := fun q h => by rw [← hAe]; exact Or.inr h
  have hS : va_S A s.heap s.heap [] := va_S.rf
  have hP : va_P D vwCl (W_M cI cS mA mf mn ml mk mg mls ms mra mrf mrk mrg mrl mrs mo moo moa mp mpp mfi mpl mpo mro mdp mdf mhg mhk mR mRf mRo mss msl msh mha mt) s.heap := hP
  have hl := lv_entry ([.ref (mA 0), .int (iI x)] : List Value) (n := 3) (Nat.le_of_ble_eq_true rfl)
  rw [lg_entry_eq]
  generalize (lg_sl ([.ref (mA 0), .int (iI x)] : List Value) ++ List.replicate (3 - (lg_sl ([.ref (mA 0), .int (iI x)] : List Value)).length) Slot.unset).toArray = ls at hl ⊢
  have hl : lv_has ls 3 [(0, .ref (mA 0)), (1, .int (iI x))] := hl
  have ck_198 := hts (.constantLong RX7 198 (lI 15)) (by decide +kernel)
  have fl_83 := hts (.fieldLink RX7 83 "ActRowsModel" "functions" "I") (by decide +kernel)
  have iw_7 : ∀ w ∈ wsX70, w ∈ wsX7_live := by decide +kernel
  have fl_142 := hts (.fieldLink RX7 142 "ActRowsModel" "liveNow" "I") (by decide +kernel)
  refine lv_iload_n hx hb dX7_live_0 rfl (lv_at hl 1 rfl) ?_
  refine n_i2l hx hb (by omega) dX7_live_1 ?_
  refine lv_lconst (v := lI 0) hx hb dX7_live_2 (by decide +kernel) ?_
  refine lv_ldc2 hx hb hown ck_198 dX7_live_3 ?_
  refine x_callSi (As := [.long (lI x), .long (lI 0), .long (lI 15)]) (rest := []) ⟨hx, hb, hml, hown, hts⟩ (c_X7_in l D cI cS s.heap.size x 0 15 (by first | assumption | omega) (by first | assumption | omega) (by first | assumption | omega)) (va_cwS 3 hts gX7_live_X7_in rfl rfl rfl (by decide +kernel) ⟨Nat.le_of_ble_eq_true rfl, Nat.le_of_ble_eq_true rfl⟩) hK hP hD hS hA [] [0, 1, 2, 3, 4, 5, 6, 7, 8, 9, 10, 11, 12, 13, 14, 15, 16, 17, 18, 19, 20, 21] (wr := [(mA 0, .inr (7, [.int (iI mf), .int (iI mn), .int (iI ml), .ref (mA 1), .ref (mA 2), .ref (mA 3), .ref (mA 4), .int (iI mra), .int (iI mrf), .ref (mA 5), .ref (mA 6), .ref (mA 7), .ref (mA 8), .int (iI mo), .ref (mA 9), .ref (mA 10), .int (iI mp), .ref (mA 11), .int (iI mfi), .int (iI mpl), .ref (mA 12), .ref (mA 13), .int (iI mdp), .int (iI mdf), .ref (mA 14), .ref (mA 15), .int (iI mR), .ref (mA 16), .ref (mA 17), .ref (mA 18), .ref (mA 19), .ref (mA 20), .ref (mA 21), .int (iI mt)])), (mA 1, .inl (cI, 5, .inl (aI mk))), (mA 2, .inl (cI, 5, .inl (aI mg))), (mA 3, .inl (cI, 5, .inl (aI mls))), (mA 4, .inl (cI, 20, .inl (aI ms))), (mA 5, .inl (cI, 5, .inl (aI mrk))), (mA 6, .inl (cI, 5, .inl (aI mrg))), (mA 7, .inl (cI, 5, .inl (aI mrl))), (mA 8, .inl (cI, 20, .inl (aI mrs))), (mA 9, .inl (cI, 5, .inl (aI moo))), (mA 10, .inl (cI, 5, .inl (aI moa))), (mA 11, .inl (cI, 1024, .inl (aI mpp))), (mA 12, .inl (cI, 5, .inl (aI mpo))), (mA 13, .inl (cI, 5, .inl (aI mro))), (mA 14, .inl (cI, 5, .inl (aI mhg))), (mA 15, .inl (cI, 5, .inl (aI mhk))), (mA 16, .inl (cI, 8, .inl (aI mRf))), (mA 17, .inl (cI, 8, .inl (aI mRo))), (mA 18, .inl (cI, 4, .inl (aI mss))), (mA 19, .inl (cI, 4, .inl (aI msl))), (mA 20, .inl (cI, 240, .inl (aI msh))), (mA 21, .inl (cI, 60, .inl (aI mha)))]) rfl rfl (by decide) (by decide) (by decide) [0, 1, 2, 3, 4, 5, 6, 7, 8, 9, 10, 11, 12, 13, 14, 15, 16, 17, 18, 19, 20, 21] (fun (u : Unit) => (W_M cI cS mA mf mn ml mk mg mls ms mra mrf mrk mrg mrl mrs mo moo moa mp mpp mfi mpl mpo mro mdp mdf mhg mhk mR mRf mRo mss msl msh mha mt)) (fun _ => rfl) (by decide) rfl hl.1 rfl (Nat.le_of_ble_eq_true rfl) ⟨Nat.zero_le _, Nat.zero_le _⟩ dX7_live_6 (fun r_ u_ H locs hw hP hD hS => ?_)
  try dsimp only at hw
  subst hw
  have hP : va_P D vwCl (W_M cI cS mA mf mn ml mk mg mls ms mra mrf mrk mrg mrl mrs mo moo moa mp mpp mfi mpl mpo mro mdp mdf mhg mhk mR mRf mRo mss msl msh mha mt) H := hP
  have hD : va_D A (W_M cI cS mA mf mn ml mk mg mls ms mra mrf mrk mrg mrl mrs mo moo moa mp mpp mfi mpl mpo mro mdp mdf mhg mhk mR mRf mRo mss msl msh mha mt) := hD
  refine n_if_b2 (tgt := 15) hx hb dX7_live_9 (by decide)  (fun c_1 => ?_) (fun c_1 => ?_)
  ·
    refine lv_aload_n hx hb dX7_live_15 rfl (lv_at hl 0 rfl) ?_
    refine va_get (D := D) (ci := 7) (v := .int (iI mn)) (C := RX7) (T := TX7) (N := 34) hx hb hts iw_7 hown hK.1 hP 0 rfl rfl 1 (by decide) fl_83 (fun _ h9 => h9) rfl dX7_live_16 ?_
    refine n_if_ne (tgt := 25) hx hb dX7_live_19 (by decide) (by omega) (fun c_2 => ?_) (fun c_2 => ?_)
    ·
      refine lv_aload_n hx hb dX7_live_25 rfl (lv_at hl 0 rfl) ?_
      refine va_get (D := D) (ci := 7) (v := .int (iI ml)) (C := RX7) (T := TX7) (N := 34) hx hb hts iw_7 hown hK.1 hP 0 rfl rfl 2 (by decide) fl_142 (fun _ h9 => h9) rfl dX7_live_26 ?_
      refine lv_istore_n (lv' := [(2, .int (iI ml)), (0, .ref (mA 0)), (1, .int (iI x))]) hx hb dX7_live_29 rfl hl (by decide) rfl (fun ls hl => ?_)
      refine lv_aload_n hx hb dX7_live_30 rfl (lv_at hl 1 rfl) ?_
      refine lv_iload_n hx hb dX7_live_31 rfl (lv_at hl 2 rfl) ?_
      refine va_put (D := D) (ci := 7) (v := .int (iI x)) (ty := .int) (C := RX7) (T := TX7) (N := 34) hx hb hts iw_7 tyX7 tyX7_ok nmX7 hown hK.1 hP hD hS 0 rfl rfl 2 (by decide) fl_142 (fun _ h9 => h9) rfl (by decide +kernel) rfl rfl (Nat.le_of_ble_eq_true rfl) dX7_live_32 (fun H locs hP hD hS => ?_)
      have hP : va_P D vwCl (W_M cI cS mA mf mn x mk mg mls ms mra mrf mrk mrg mrl mrs mo moo moa mp mpp mfi mpl mpo mro mdp mdf mhg mhk mR mRf mRo mss msl msh mha mt) H := hP
      have hD : va_D A (W_M cI cS mA mf mn x mk mg mls ms mra mrf mrk mrg mrl mrs mo moo moa mp mpp mfi mpl mpo mro mdp mdf mhg mhk mR mRf mRo mss msl msh mha mt) := hD
      refine lv_iload_n hx hb dX7_live_35 rfl (lv_at hl 0 rfl) ?_
      have e_3 : (x : Int) = (if (0 ≤ x ∧ x < 16) ∧ mn ≠ 0 then x else ml) := (by omega)
      have hP : va_P D vwCl (W_M cI cS mA mf mn (if (0 ≤ x ∧ x < 16) ∧ mn ≠ 0 then x else ml) mk mg mls ms mra mrf mrk mrg mrl mrs mo moo moa mp mpp mfi mpl mpo mro mdp mdf mhg mhk mR mRf mRo mss msl msh mha mt) H := Eq.mp (congrArg (fun z_ => va_P D vwCl (W_M cI cS mA mf mn z_ mk mg mls ms mra mrf mrk mrg mrl mrs mo moo moa mp mpp mfi mpl mpo mro mdp mdf mhg mhk mR mRf mRo mss msl msh mha mt) H) e_3) hP
      have hD : va_D A (W_M cI cS mA mf mn (if (0 ≤ x ∧ x < 16) ∧ mn ≠ 0 then x else ml) mk mg mls ms mra mrf mrk mrg mrl mrs mo moo moa mp mpp mfi mpl mpo mro mdp mdf mhg mhk mR mRf mRo mss msl msh mha mt) := Eq.mp (congrArg (fun z_ => va_D A (W_M cI cS mA mf mn z_ mk mg mls ms mra mrf mrk mrg mrl mrs mo moo moa mp mpp mfi mpl mpo mro mdp mdf mhg mhk mR mRf mRo mss msl msh mha mt)) e_3) hD
      exact W.iret (v := iI ml) hx hb hr (fun t ht hW => ⟨⟨_, (), rfl, congrArg iI (show ml = (if 0 ≤ x ∧ x < 16 then (if mn = 0 then (-3) else ml) else (-2)) from (by omega)), by rw [ht]; exact hP, hD⟩, hS.F ht⟩) hS.2.2 dX7_live_36
    ·
      refine lv_bipush (v := iI (-3)) hx hb dX7_live_22 (by decide +kernel) ?_
      have e_4 : (ml : Int) = (if (0 ≤ x ∧ x < 16) ∧ mn ≠ 0 then x else ml) := (by omega)
      have hP : va_P D vwCl (W_M cI cS mA mf mn (if (0 ≤ x ∧ x < 16) ∧ mn ≠ 0 then x else ml) mk mg mls ms mra mrf mrk mrg mrl mrs mo moo moa mp mpp mfi mpl mpo mro mdp mdf mhg mhk mR mRf mRo mss msl msh mha mt) H := Eq.mp (congrArg (fun z_ => va_P D vwCl (W_M cI cS mA mf mn z_ mk mg mls ms mra mrf mrk mrg mrl mrs mo moo moa mp mpp mfi mpl mpo mro mdp mdf mhg mhk mR mRf mRo mss msl msh mha mt) H) e_4) hP
      have hD : va_D A (W_M cI cS mA mf mn (if (0 ≤ x ∧ x < 16) ∧ mn ≠ 0 then x else ml) mk mg mls ms mra mrf mrk mrg mrl mrs mo moo moa mp mpp mfi mpl mpo mro mdp mdf mhg mhk mR mRf mRo mss msl msh mha mt) := Eq.mp (congrArg (fun z_ => va_D A (W_M cI cS mA mf mn z_ mk mg mls ms mra mrf mrk mrg mrl mrs mo moo moa mp mpp mfi mpl mpo mro mdp mdf mhg mhk mR mRf mRo mss msl msh mha mt)) e_4) hD
      exact W.iret (v := iI (-3)) hx hb hr (fun t ht hW => ⟨⟨_, (), rfl, congrArg iI (show (-3) = (if 0 ≤ x ∧ x < 16 then (if mn = 0 then (-3) else ml) else (-2)) from (by omega)), by rw [ht]; exact hP, hD⟩, hS.F ht⟩) hS.2.2 dX7_live_24
  ·
    refine lv_bipush (v := iI (-2)) hx hb dX7_live_12 (by decide +kernel) ?_
    have e_5 : (ml : Int) = (if (0 ≤ x ∧ x < 16) ∧ mn ≠ 0 then x else ml) := (by omega)
    have hP : va_P D vwCl (W_M cI cS mA mf mn (if (0 ≤ x ∧ x < 16) ∧ mn ≠ 0 then x else ml) mk mg mls ms mra mrf mrk mrg mrl mrs mo moo moa mp mpp mfi mpl mpo mro mdp mdf mhg mhk mR mRf mRo mss msl msh mha mt) H := Eq.mp (congrArg (fun z_ => va_P D vwCl (W_M cI cS mA mf mn z_ mk mg mls ms mra mrf mrk mrg mrl mrs mo moo moa mp mpp mfi mpl mpo mro mdp mdf mhg mhk mR mRf mRo mss msl msh mha mt) H) e_5) hP
    have hD : va_D A (W_M cI cS mA mf mn (if (0 ≤ x ∧ x < 16) ∧ mn ≠ 0 then x else ml) mk mg mls ms mra mrf mrk mrg mrl mrs mo moo moa mp mpp mfi mpl mpo mro mdp mdf mhg mhk mR mRf mRo mss msl msh mha mt) := Eq.mp (congrArg (fun z_ => va_D A (W_M cI cS mA mf mn z_ mk mg mls ms mra mrf mrk mrg mrl mrs mo moo moa mp mpp mfi mpl mpo mro mdp mdf mhg mhk mR mRf mRo mss msl msh mha mt)) e_5) hD
    exact W.iret (v := iI (-2)) hx hb hr (fun t ht hW => ⟨⟨_, (), rfl, congrArg iI (show (-2) = (if 0 ≤ x ∧ x < 16 then (if mn = 0 then (-3) else ml) else (-2)) from (by omega)), by rw [ht]; exact hP, hD⟩, hS.F ht⟩) hS.2.2 dX7_live_14
set_option maxHeartbeats 4000000 in
set_option maxRecDepth 100000 in
theorem c_X7_run (l : Launch) (D : va_G) (cI cS : ClassId) (mA : Nat → Nat) (mf : Int) (mn : Int) (ml : Int) (mk : Int → Int) (mg : Int → Int) (mls : Int → Int) (ms : Int → Int) (mra : Int) (mrf : Int) (mrk : Int → Int) (mrg : Int → Int) (mrl : Int → Int) (mrs : Int → Int) (mo : Int) (moo : Int → Int) (moa : Int → Int) (mp : Int) (mpp : Int → Int) (mfi : Int) (mpl : Int) (mpo : Int → Int) (mro : Int → Int) (mdp : Int) (mdf : Int) (mhg : Int → Int) (mhk : Int → Int) (mR : Int) (mRf : Int → Int) (mRo : Int → Int) (mss : Int → Int) (msl : Int → Int) (msh : Int → Int) (mha : Int → Int) (mt : Int) (sz : Nat) (f : Int) (w : Int) (hok : okP mn mls ms) (hkk : okK mn mk mg ml) (hfr : -2147483648 ≤ f ∧ f < 2147483648) (hwr : -2147483648 ≤ w ∧ w < 2147483648) : Met l yX7_run wsX7_run ({ frames := 4, cells := 0, slots := 0, locals := 89 }) (cP D cI cS (W_M cI cS mA mf mn ml mk mg mls ms mra mrf mrk mrg mrl mrs mo moo moa mp mpp mfi mpl mpo mro mdp mdf mhg mhk mR mRf mRo mss msl msh mha mt) sz [.ref (mA 0), .int (iI f), .int (iI w)]) (va_Qi (fun (r : Int32) (u : Int × (Int → Int) × (Int → Int) × Int × (Int → Int) × Int × Int × (Int → Int)) => r = iI (sRun mn ml mk mg mls ms f w)) (fun (u : Int × (Int → Int) × (Int → Int) × Int × (Int → Int) × Int × Int × (Int → Int)) t => cB D (va_A (W_M cI cS mA mf mn ml mk mg mls ms mra mrf mrk mrg mrl mrs mo moo moa mp mpp mfi mpl mpo mro mdp mdf mhg mhk mR mRf mRo mss msl msh mha mt) sz) (W_M cI cS mA mf mn ml mk mg mls ms mra mrf mrk mrg mrl mrs u.1 u.2.1 u.2.2.1 u.2.2.2.1 u.2.2.2.2.1 u.2.2.2.2.2.1 u.2.2.2.2.2.2.1 u.2.2.2.2.2.2.2 mro mdp mdf mhg mhk mR mRf mRo mss msl msh mha mt) t) (va_A (W_M cI cS mA mf mn ml mk mg mls ms mra mrf mrk mrg mrl mrs mo moo moa mp mpp mfi mpl mpo mro mdp mdf mhg mhk mR mRf mRo mss msl msh mha mt) sz)) 0 0 (va_A (W_M cI cS mA mf mn ml mk mg mls ms mra mrf mrk mrg mrl mrs mo moo moa mp mpp mfi mpl mpo mro mdp mdf mhg mhk mR mRf mRo mss msl msh mha mt) sz) := by
  refine Met.ofW (cc := cX7_run) (maxL := 4) (ret := (some .int)) (by decide) rfl ?_
  intro p e s m args below meth c_ s₁ B hml hv
  obtain ⟨rfl, hsz, hP, hK, hD0⟩ := hv
  have hx := B.exec
  have hb := B.bytes
  have hr := B.returns
  have hts := atoms_spec (ws := wsX7_run) B.pre
  have hown : s.vm.findClass RX7 = some m.cls := findClass_of_methodNamed B.named
  have hlocks := B.notSynchronized
  subst hsz
  have hD := hD0.self (sz := s.heap.size)
  generalize hAe : va_A (W_M cI cS mA mf mn ml mk mg mls ms mra mrf mrk mrg mrl mrs mo moo moa mp mpp mfi mpl mpo mro mdp mdf mhg mhk mR mRf mRo mss msl msh mha mt) s.heap.size = A at hD ⊢
  have hA : ∀ q : Nat, s.heap.size ≤ q → A q := fun q h => by rw [← hAe]; exact Or.inr h
  have hS : va_S A s.heap s.heap [] := va_S.rf
  have hP : va_P D vwCl (W_M cI cS mA mf mn ml mk mg mls ms mra mrf mrk mrg mrl mrs mo moo moa mp mpp mfi mpl mpo mro mdp mdf mhg mhk mR mRf mRo mss msl msh mha mt) s.heap := hP
  have hl := lv_entry ([.ref (mA 0), .int (iI f), .int (iI w)] : List Value) (n := 4) (Nat.le_of_ble_eq_true rfl)
  rw [lg_entry_eq]
  generalize (lg_sl ([.ref (mA 0), .int (iI f), .int (iI w)] : List Value) ++ List.replicate (4 - (lg_sl ([.ref (mA 0), .int (iI f), .int (iI w)] : List Value)).length) Slot.unset).toArray = ls at hl ⊢
  have hl : lv_has ls 4 [(0, .ref (mA 0)), (1, .int (iI f)), (2, .int (iI w))] := hl
  have ck_108 := hts (.constantLong RX7 108 (lI 3)) (by decide +kernel)
  have fl_157 := hts (.fieldLink RX7 157 "ActRowsModel" "pathLength" "I") (by decide +kernel)
  have iw_7 : ∀ w ∈ wsX70, w ∈ wsX7_run := by decide +kernel
  have fl_151 := hts (.fieldLink RX7 151 "ActRowsModel" "finished" "I") (by decide +kernel)
  have fl_154 := hts (.fieldLink RX7 154 "ActRowsModel" "performed" "I") (by decide +kernel)
  have hmn := hok.1
  have hln := hok.2.1
  refine lv_aload_n hx hb dX7_run_0 rfl (lv_at hl 0 rfl) ?_
  refine lv_iload_n hx hb dX7_run_1 rfl (lv_at hl 1 rfl) ?_
  refine x_callVi (As := [.int (iI f)]) (rest := []) ⟨hx, hb, hml, hown, hts⟩ (c_X7_noFunction l D cI cS mA mf mn ml mk mg mls ms mra mrf mrk mrg mrl mrs mo moo moa mp mpp mfi mpl mpo mro mdp mdf mhg mhk mR mRf mRo mss msl msh mha mt s.heap.size f (by first | assumption | omega) (by first | assumption | omega)) (cwV 1 hts gX7_run_X7_noFunction rfl rfl rfl (by decide +kernel) ⟨Nat.le_of_ble_eq_true rfl, Nat.le_of_ble_eq_true rfl⟩) hK hP hD hS hA [0, 1, 2, 3, 4, 5, 6, 7, 8, 9, 10, 11, 12, 13, 14, 15, 16, 17, 18, 19, 20, 21] [] (wr := ([] : va_W)) rfl rfl (by decide) (by decide) (by decide) 0 7 rfl rfl rfl [0, 1, 2, 3, 4, 5, 6, 7, 8, 9, 10, 11, 12, 13, 14, 15, 16, 17, 18, 19, 20, 21] (fun (u : Unit) => (W_M cI cS mA mf mn ml mk mg mls ms mra mrf mrk mrg mrl mrs mo moo moa mp mpp mfi mpl mpo mro mdp mdf mhg mhk mR mRf mRo mss msl msh mha mt)) (fun _ => rfl) (by decide) rfl hl.1 rfl (Nat.le_of_ble_eq_true rfl) ⟨Nat.zero_le _, Nat.zero_le _⟩ dX7_run_2 (fun r_ u_ H locs hw hP hD hS => ?_)
  try dsimp only at hw
  subst hw
  have hP : va_P D vwCl (W_M cI cS mA mf mn ml mk mg mls ms mra mrf mrk mrg mrl mrs mo moo moa mp mpp mfi mpl mpo mro mdp mdf mhg mhk mR mRf mRo mss msl msh mha mt) H := hP
  have hD : va_D A (W_M cI cS mA mf mn ml mk mg mls ms mra mrf mrk mrg mrl mrs mo moo moa mp mpp mfi mpl mpo mro mdp mdf mhg mhk mR mRf mRo mss msl msh mha mt) := hD
  refine n_if_b1 (tgt := 10) hx hb dX7_run_5 (by decide)  (fun c_1 => ?_) (fun c_1 => ?_)
  ·
    have hf : 0 ≤ f ∧ f < mn := by omega
    refine lv_iload_n hx hb dX7_run_10 rfl (lv_at hl 2 rfl) ?_
    refine n_i2l hx hb (by omega) dX7_run_11 ?_
    refine lv_lconst (v := lI 0) hx hb dX7_run_12 (by decide +kernel) ?_
    refine lv_ldc2 hx hb hown ck_108 dX7_run_13 ?_
    refine x_callSi (As := [.long (lI w), .long (lI 0), .long (lI 3)]) (rest := []) ⟨hx, hb, hml, hown, hts⟩ (c_X7_in l D cI cS H.size w 0 3 (by first | assumption | omega) (by first | assumption | omega) (by first | assumption | omega)) (va_cwS 3 hts gX7_run_X7_in rfl rfl rfl (by decide +kernel) ⟨Nat.le_of_ble_eq_true rfl, Nat.le_of_ble_eq_true rfl⟩) hK hP hD hS hA [] [0, 1, 2, 3, 4, 5, 6, 7, 8, 9, 10, 11, 12, 13, 14, 15, 16, 17, 18, 19, 20, 21] (wr := [(mA 0, .inr (7, [.int (iI mf), .int (iI mn), .int (iI ml), .ref (mA 1), .ref (mA 2), .ref (mA 3), .ref (mA 4), .int (iI mra), .int (iI mrf), .ref (mA 5), .ref (mA 6), .ref (mA 7), .ref (mA 8), .int (iI mo), .ref (mA 9), .ref (mA 10), .int (iI mp), .ref (mA 11), .int (iI mfi), .int (iI mpl), .ref (mA 12), .ref (mA 13), .int (iI mdp), .int (iI mdf), .ref (mA 14), .ref (mA 15), .int (iI mR), .ref (mA 16), .ref (mA 17), .ref (mA 18), .ref (mA 19), .ref (mA 20), .ref (mA 21), .int (iI mt)])), (mA 1, .inl (cI, 5, .inl (aI mk))), (mA 2, .inl (cI, 5, .inl (aI mg))), (mA 3, .inl (cI, 5, .inl (aI mls))), (mA 4, .inl (cI, 20, .inl (aI ms))), (mA 5, .inl (cI, 5, .inl (aI mrk))), (mA 6, .inl (cI, 5, .inl (aI mrg))), (mA 7, .inl (cI, 5, .inl (aI mrl))), (mA 8, .inl (cI, 20, .inl (aI mrs))), (mA 9, .inl (cI, 5, .inl (aI moo))), (mA 10, .inl (cI, 5, .inl (aI moa))), (mA 11, .inl (cI, 1024, .inl (aI mpp))), (mA 12, .inl (cI, 5, .inl (aI mpo))), (mA 13, .inl (cI, 5, .inl (aI mro))), (mA 14, .inl (cI, 5, .inl (aI mhg))), (mA 15, .inl (cI, 5, .inl (aI mhk))), (mA 16, .inl (cI, 8, .inl (aI mRf))), (mA 17, .inl (cI, 8, .inl (aI mRo))), (mA 18, .inl (cI, 4, .inl (aI mss))), (mA 19, .inl (cI, 4, .inl (aI msl))), (mA 20, .inl (cI, 240, .inl (aI msh))), (mA 21, .inl (cI, 60, .inl (aI mha)))]) rfl rfl (by decide) (by decide) (by decide) [0, 1, 2, 3, 4, 5, 6, 7, 8, 9, 10, 11, 12, 13, 14, 15, 16, 17, 18, 19, 20, 21] (fun (u : Unit) => (W_M cI cS mA mf mn ml mk mg mls ms mra mrf mrk mrg mrl mrs mo moo moa mp mpp mfi mpl mpo mro mdp mdf mhg mhk mR mRf mRo mss msl msh mha mt)) (fun _ => rfl) (by decide) rfl hl.1 rfl (Nat.le_of_ble_eq_true rfl) ⟨Nat.zero_le _, Nat.zero_le _⟩ dX7_run_16 (fun r_ u_ H locs hw hP hD hS => ?_)
    try dsimp only at hw
    subst hw
    have hP : va_P D vwCl (W_M cI cS mA mf mn ml mk mg mls ms mra mrf mrk mrg mrl mrs mo moo moa mp mpp mfi mpl mpo mro mdp mdf mhg mhk mR mRf mRo mss msl msh mha mt) H := hP
    have hD : va_D A (W_M cI cS mA mf mn ml mk mg mls ms mra mrf mrk mrg mrl mrs mo moo moa mp mpp mfi mpl mpo mro mdp mdf mhg mhk mR mRf mRo mss msl msh mha mt) := hD
    refine n_if_b2 (tgt := 25) hx hb dX7_run_19 (by decide)  (fun c_2 => ?_) (fun c_2 => ?_)
    ·
      refine lv_aload_n hx hb dX7_run_25 rfl (lv_at hl 0 rfl) ?_
      refine lv_iload_n hx hb dX7_run_26 rfl (lv_at hl 1 rfl) ?_
      refine x_callVi (As := [.int (iI f)]) (rest := []) ⟨hx, hb, hml, hown, hts⟩ (c_X7_runs l D cI cS mA mf mn ml mk mg mls ms mra mrf mrk mrg mrl mrs mo moo moa mp mpp mfi mpl mpo mro mdp mdf mhg mhk mR mRf mRo mss msl msh mha mt H.size f (by first | assumption | omega) (by first | assumption | omega) (by first | assumption | omega)) (cwV 1 hts gX7_run_X7_runs rfl rfl rfl (by decide +kernel) ⟨Nat.le_of_ble_eq_true rfl, Nat.le_of_ble_eq_true rfl⟩) hK hP hD hS hA [0, 1, 2, 3, 4, 5, 6, 7, 8, 9, 10, 11, 12, 13, 14, 15, 16, 17, 18, 19, 20, 21] [] (wr := ([] : va_W)) rfl rfl (by decide) (by decide) (by decide) 0 7 rfl rfl rfl [0, 1, 2, 3, 4, 5, 6, 7, 8, 9, 10, 11, 12, 13, 14, 15, 16, 17, 18, 19, 20, 21] (fun (u : Int × (Int → Int) × (Int → Int) × Int × (Int → Int) × Int × Int × (Int → Int)) => (W_M cI cS mA mf mn ml mk mg mls ms mra mrf mrk mrg mrl mrs u.1 u.2.1 u.2.2.1 u.2.2.2.1 u.2.2.2.2.1 u.2.2.2.2.2.1 u.2.2.2.2.2.2.1 u.2.2.2.2.2.2.2 mro mdp mdf mhg mhk mR mRf mRo mss msl msh mha mt)) (fun _ => rfl) (by decide) rfl hl.1 rfl (Nat.le_of_ble_eq_true rfl) ⟨Nat.zero_le _, Nat.zero_le _⟩ dX7_run_27 (fun r_ u_ H locs hw hP hD hS => ?_)
      obtain ⟨mo_3, moo_4, moa_5, mp2, mpp2, mfi2, mpl2, mpo2⟩ := u_
      try dsimp only at hw
      obtain ⟨z2, rfl, hz2, hp2, he2, hl2⟩ := hw
      have hP : va_P D vwCl (W_M cI cS mA mf mn ml mk mg mls ms mra mrf mrk mrg mrl mrs mo_3 moo_4 moa_5 mp2 mpp2 mfi2 mpl2 mpo2 mro mdp mdf mhg mhk mR mRf mRo mss msl msh mha mt) H := hP
      have hD : va_D A (W_M cI cS mA mf mn ml mk mg mls ms mra mrf mrk mrg mrl mrs mo_3 moo_4 moa_5 mp2 mpp2 mfi2 mpl2 mpo2 mro mdp mdf mhg mhk mR mRf mRo mss msl msh mha mt) := hD
      refine lv_istore_n (lv' := [(3, .int (iI z2)), (0, .ref (mA 0)), (1, .int (iI f)), (2, .int (iI w))]) hx hb dX7_run_30 rfl hl (by decide) rfl (fun ls hl => ?_)
      refine lv_iload_n hx hb dX7_run_31 rfl (lv_at hl 3 rfl) ?_
      refine n_if_ne (tgt := 39) hx hb dX7_run_32 (by decide) (by omega) (fun c_6 => ?_) (fun c_6 => ?_)
      ·
        refine lv_iload_n hx hb dX7_run_39 rfl (lv_at hl 3 rfl) ?_
        refine lv_iconst (v := iI 1) hx hb dX7_run_40 (by decide +kernel) ?_
        refine n_icmp_ne (tgt := 51) hx hb dX7_run_41 (by decide) (by omega) (fun c_7 => ?_) (fun c_7 => ?_)
        ·
          refine lv_iload_n hx hb dX7_run_51 rfl (lv_at hl 3 rfl) ?_
          refine lv_iconst (v := iI 2) hx hb dX7_run_52 (by decide +kernel) ?_
          refine n_icmp_ne (tgt := 63) hx hb dX7_run_53 (by decide) (by omega) (fun c_8 => ?_) (fun c_8 => ?_)
          ·
            refine lv_aload_n hx hb dX7_run_63 rfl (lv_at hl 1 rfl) ?_
            refine va_get (D := D) (ci := 7) (v := .int (iI mpl2)) (C := RX7) (T := TX7) (N := 34) hx hb hts iw_7 hown hK.1 hP 0 rfl rfl 19 (by decide) fl_157 (fun _ h9 => h9) rfl dX7_run_64 ?_
            exact W.iret (v := iI mpl2) hx hb hr (fun t ht hW => ⟨⟨_, (mo_3, moo_4, moa_5, mp2, mpp2, mfi2, mpl2, mpo2), rfl, congrArg iI (show mpl2 = (sRun mn ml mk mg mls ms f w) from (by unfold sRun; rw [if_pos (by omega), if_pos (by omega)]; unfold runA; first | (rw [if_pos (by omega)]; exact hz2) | (rw [if_neg (by omega), if_pos (by omega)]; exact hp2.1) | (rw [if_neg (by omega), if_neg (by omega), if_pos (by omega)]; exact he2) | (rw [if_neg (by omega), if_neg (by omega), if_neg (by omega)]; exact hl2.1))), by rw [ht]; exact hP, hD⟩, hS.F ht⟩) hS.2.2 dX7_run_67
          ·
            refine lv_aload_n hx hb dX7_run_56 rfl (lv_at hl 1 rfl) ?_
            refine va_get (D := D) (ci := 7) (v := .int (iI mfi2)) (C := RX7) (T := TX7) (N := 34) hx hb hts iw_7 hown hK.1 hP 0 rfl rfl 18 (by decide) fl_151 (fun _ h9 => h9) rfl dX7_run_57 ?_
            refine lv_goto (tgt := 67) hx hb dX7_run_60 (by decide) ?_
            exact W.iret (v := iI mfi2) hx hb hr (fun t ht hW => ⟨⟨_, (mo_3, moo_4, moa_5, mp2, mpp2, mfi2, mpl2, mpo2), rfl, congrArg iI (show mfi2 = (sRun mn ml mk mg mls ms f w) from (by unfold sRun; rw [if_pos (by omega), if_pos (by omega)]; unfold runA; first | (rw [if_pos (by omega)]; exact hz2) | (rw [if_neg (by omega), if_pos (by omega)]; exact hp2.1) | (rw [if_neg (by omega), if_neg (by omega), if_pos (by omega)]; exact he2) | (rw [if_neg (by omega), if_neg (by omega), if_neg (by omega)]; exact hl2.1))), by rw [ht]; exact hP, hD⟩, hS.F ht⟩) hS.2.2 dX7_run_67
        ·
          refine lv_aload_n hx hb dX7_run_44 rfl (lv_at hl 1 rfl) ?_
          refine va_get (D := D) (ci := 7) (v := .int (iI mp2)) (C := RX7) (T := TX7) (N := 34) hx hb hts iw_7 hown hK.1 hP 0 rfl rfl 16 (by decide) fl_154 (fun _ h9 => h9) rfl dX7_run_45 ?_
          refine lv_goto (tgt := 67) hx hb dX7_run_48 (by decide) ?_
          exact W.iret (v := iI mp2) hx hb hr (fun t ht hW => ⟨⟨_, (mo_3, moo_4, moa_5, mp2, mpp2, mfi2, mpl2, mpo2), rfl, congrArg iI (show mp2 = (sRun mn ml mk mg mls ms f w) from (by unfold sRun; rw [if_pos (by omega), if_pos (by omega)]; unfold runA; first | (rw [if_pos (by omega)]; exact hz2) | (rw [if_neg (by omega), if_pos (by omega)]; exact hp2.1) | (rw [if_neg (by omega), if_neg (by omega), if_pos (by omega)]; exact he2) | (rw [if_neg (by omega), if_neg (by omega), if_neg (by omega)]; exact hl2.1))), by rw [ht]; exact hP, hD⟩, hS.F ht⟩) hS.2.2 dX7_run_67
      ·
        refine lv_iload_n hx hb dX7_run_35 rfl (lv_at hl 0 rfl) ?_
        refine lv_goto (tgt := 67) hx hb dX7_run_36 (by decide) ?_
        exact W.iret (v := iI z2) hx hb hr (fun t ht hW => ⟨⟨_, (mo_3, moo_4, moa_5, mp2, mpp2, mfi2, mpl2, mpo2), rfl, congrArg iI (show z2 = (sRun mn ml mk mg mls ms f w) from (by unfold sRun; rw [if_pos (by omega), if_pos (by omega)]; unfold runA; first | (rw [if_pos (by omega)]; exact hz2) | (rw [if_neg (by omega), if_pos (by omega)]; exact hp2.1) | (rw [if_neg (by omega), if_neg (by omega), if_pos (by omega)]; exact he2) | (rw [if_neg (by omega), if_neg (by omega), if_neg (by omega)]; exact hl2.1))), by rw [ht]; exact hP, hD⟩, hS.F ht⟩) hS.2.2 dX7_run_67
    ·
      refine lv_bipush (v := iI (-2)) hx hb dX7_run_22 (by decide +kernel) ?_
      exact W.iret (v := iI (-2)) hx hb hr (fun t ht hW => ⟨⟨_, (mo, moo, moa, mp, mpp, mfi, mpl, mpo), rfl, congrArg iI (show (-2) = (sRun mn ml mk mg mls ms f w) from (by unfold sRun; (repeat (first | rw [if_pos (by omega)] | rw [if_neg (by omega)])))), by rw [ht]; exact hP, hD⟩, hS.F ht⟩) hS.2.2 dX7_run_24
  ·
    refine lv_iconst (v := iI (-1)) hx hb dX7_run_8 (by decide +kernel) ?_
    exact W.iret (v := iI (-1)) hx hb hr (fun t ht hW => ⟨⟨_, (mo, moo, moa, mp, mpp, mfi, mpl, mpo), rfl, congrArg iI (show (-1) = (sRun mn ml mk mg mls ms f w) from (by unfold sRun; (repeat (first | rw [if_pos (by omega)] | rw [if_neg (by omega)])))), by rw [ht]; exact hP, hD⟩, hS.F ht⟩) hS.2.2 dX7_run_9
set_option maxHeartbeats 4000000 in
set_option maxRecDepth 100000 in
theorem c_X7_performed (l : Launch) (D : va_G) (cI cS : ClassId) (mA : Nat → Nat) (mf : Int) (mn : Int) (ml : Int) (mk : Int → Int) (mg : Int → Int) (mls : Int → Int) (ms : Int → Int) (mra : Int) (mrf : Int) (mrk : Int → Int) (mrg : Int → Int) (mrl : Int → Int) (mrs : Int → Int) (mo : Int) (moo : Int → Int) (moa : Int → Int) (mp : Int) (mpp : Int → Int) (mfi : Int) (mpl : Int) (mpo : Int → Int) (mro : Int → Int) (mdp : Int) (mdf : Int) (mhg : Int → Int) (mhk : Int → Int) (mR : Int) (mRf : Int → Int) (mRo : Int → Int) (mss : Int → Int) (msl : Int → Int) (msh : Int → Int) (mha : Int → Int) (mt : Int) (sz : Nat) (f : Int) (k : Int) (hok : okP mn mls ms) (hkk : okK mn mk mg ml) (hfr : -2147483648 ≤ f ∧ f < 2147483648) (hkr : -2147483648 ≤ k ∧ k < 2147483648) : Met l yX7_performed wsX7_performed ({ frames := 4, cells := 0, slots := 0, locals := 89 }) (cP D cI cS (W_M cI cS mA mf mn ml mk mg mls ms mra mrf mrk mrg mrl mrs mo moo moa mp mpp mfi mpl mpo mro mdp mdf mhg mhk mR mRf mRo mss msl msh mha mt) sz [.ref (mA 0), .int (iI f), .int (iI k)]) (va_Qi (fun (r : Int32) (u : Int × (Int → Int) × (Int → Int) × Int × (Int → Int) × Int × Int × (Int → Int)) => r = iI (sPerf mn ml mk mg mls ms f k)) (fun (u : Int × (Int → Int) × (Int → Int) × Int × (Int → Int) × Int × Int × (Int → Int)) t => cB D (va_A (W_M cI cS mA mf mn ml mk mg mls ms mra mrf mrk mrg mrl mrs mo moo moa mp mpp mfi mpl mpo mro mdp mdf mhg mhk mR mRf mRo mss msl msh mha mt) sz) (W_M cI cS mA mf mn ml mk mg mls ms mra mrf mrk mrg mrl mrs u.1 u.2.1 u.2.2.1 u.2.2.2.1 u.2.2.2.2.1 u.2.2.2.2.2.1 u.2.2.2.2.2.2.1 u.2.2.2.2.2.2.2 mro mdp mdf mhg mhk mR mRf mRo mss msl msh mha mt) t) (va_A (W_M cI cS mA mf mn ml mk mg mls ms mra mrf mrk mrg mrl mrs mo moo moa mp mpp mfi mpl mpo mro mdp mdf mhg mhk mR mRf mRo mss msl msh mha mt) sz)) 0 0 (va_A (W_M cI cS mA mf mn ml mk mg mls ms mra mrf mrk mrg mrl mrs mo moo moa mp mpp mfi mpl mpo mro mdp mdf mhg mhk mR mRf mRo mss msl msh mha mt) sz) := by
  refine Met.ofW (cc := cX7_performed) (maxL := 4) (ret := (some .int)) (by decide) rfl ?_
  intro p e s m args below meth c_ s₁ B hml hv
  obtain ⟨rfl, hsz, hP, hK, hD0⟩ := hv
  have hx := B.exec
  have hb := B.bytes
  have hr := B.returns
  have hts := atoms_spec (ws := wsX7_performed) B.pre
  have hown : s.vm.findClass RX7 = some m.cls := findClass_of_methodNamed B.named
  have hlocks := B.notSynchronized
  subst hsz
  have hD := hD0.self (sz := s.heap.size)
  generalize hAe : va_A (W_M cI cS mA mf mn ml mk mg mls ms mra mrf mrk mrg mrl mrs mo moo moa mp mpp mfi mpl mpo mro mdp mdf mhg mhk mR mRf mRo mss msl msh mha mt) s.heap.size = A at hD ⊢
  have hA : ∀ q : Nat, s.heap.size ≤ q → A q := fun q h => by rw [← hAe]; exact Or.inr h
  have hS : va_S A s.heap s.heap [] := va_S.rf
  have hP : va_P D vwCl (W_M cI cS mA mf mn ml mk mg mls ms mra mrf mrk mrg mrl mrs mo moo moa mp mpp mfi mpl mpo mro mdp mdf mhg mhk mR mRf mRo mss msl msh mha mt) s.heap := hP
  have hl := lv_entry ([.ref (mA 0), .int (iI f), .int (iI k)] : List Value) (n := 4) (Nat.le_of_ble_eq_true rfl)
  rw [lg_entry_eq]
  generalize (lg_sl ([.ref (mA 0), .int (iI f), .int (iI k)] : List Value) ++ List.replicate (4 - (lg_sl ([.ref (mA 0), .int (iI f), .int (iI k)] : List Value)).length) Slot.unset).toArray = ls at hl ⊢
  have hl : lv_has ls 4 [(0, .ref (mA 0)), (1, .int (iI f)), (2, .int (iI k))] := hl
  have fl_154 := hts (.fieldLink RX7 154 "ActRowsModel" "performed" "I") (by decide +kernel)
  have iw_7 : ∀ w ∈ wsX70, w ∈ wsX7_performed := by decide +kernel
  have fl_40 := hts (.fieldLink RX7 40 "ActRowsModel" "performedOf" "[I") (by decide +kernel)
  have hmn := hok.1
  have hln := hok.2.1
  refine lv_aload_n hx hb dX7_performed_0 rfl (lv_at hl 0 rfl) ?_
  refine lv_iload_n hx hb dX7_performed_1 rfl (lv_at hl 1 rfl) ?_
  refine x_callVi (As := [.int (iI f)]) (rest := []) ⟨hx, hb, hml, hown, hts⟩ (c_X7_noFunction l D cI cS mA mf mn ml mk mg mls ms mra mrf mrk mrg mrl mrs mo moo moa mp mpp mfi mpl mpo mro mdp mdf mhg mhk mR mRf mRo mss msl msh mha mt s.heap.size f (by first | assumption | omega) (by first | assumption | omega)) (cwV 1 hts gX7_performed_X7_noFunction rfl rfl rfl (by decide +kernel) ⟨Nat.le_of_ble_eq_true rfl, Nat.le_of_ble_eq_true rfl⟩) hK hP hD hS hA [0, 1, 2, 3, 4, 5, 6, 7, 8, 9, 10, 11, 12, 13, 14, 15, 16, 17, 18, 19, 20, 21] [] (wr := ([] : va_W)) rfl rfl (by decide) (by decide) (by decide) 0 7 rfl rfl rfl [0, 1, 2, 3, 4, 5, 6, 7, 8, 9, 10, 11, 12, 13, 14, 15, 16, 17, 18, 19, 20, 21] (fun (u : Unit) => (W_M cI cS mA mf mn ml mk mg mls ms mra mrf mrk mrg mrl mrs mo moo moa mp mpp mfi mpl mpo mro mdp mdf mhg mhk mR mRf mRo mss msl msh mha mt)) (fun _ => rfl) (by decide) rfl hl.1 rfl (Nat.le_of_ble_eq_true rfl) ⟨Nat.zero_le _, Nat.zero_le _⟩ dX7_performed_2 (fun r_ u_ H locs hw hP hD hS => ?_)
  try dsimp only at hw
  subst hw
  have hP : va_P D vwCl (W_M cI cS mA mf mn ml mk mg mls ms mra mrf mrk mrg mrl mrs mo moo moa mp mpp mfi mpl mpo mro mdp mdf mhg mhk mR mRf mRo mss msl msh mha mt) H := hP
  have hD : va_D A (W_M cI cS mA mf mn ml mk mg mls ms mra mrf mrk mrg mrl mrs mo moo moa mp mpp mfi mpl mpo mro mdp mdf mhg mhk mR mRf mRo mss msl msh mha mt) := hD
  refine n_if_b1 (tgt := 10) hx hb dX7_performed_5 (by decide)  (fun c_1 => ?_) (fun c_1 => ?_)
  ·
    have hf : 0 ≤ f ∧ f < mn := by omega
    refine lv_iload_n hx hb dX7_performed_10 rfl (lv_at hl 2 rfl) ?_
    refine n_if_ge (tgt := 17) hx hb dX7_performed_11 (by decide) (by omega) (fun c_2 => ?_) (fun c_2 => ?_)
    ·
      refine lv_aload_n hx hb dX7_performed_17 rfl (lv_at hl 0 rfl) ?_
      refine lv_iload_n hx hb dX7_performed_18 rfl (lv_at hl 1 rfl) ?_
      refine x_callVi (As := [.int (iI f)]) (rest := []) ⟨hx, hb, hml, hown, hts⟩ (c_X7_runs l D cI cS mA mf mn ml mk mg mls ms mra mrf mrk mrg mrl mrs mo moo moa mp mpp mfi mpl mpo mro mdp mdf mhg mhk mR mRf mRo mss msl msh mha mt H.size f (by first | assumption | omega) (by first | assumption | omega) (by first | assumption | omega)) (cwV 1 hts gX7_performed_X7_runs rfl rfl rfl (by decide +kernel) ⟨Nat.le_of_ble_eq_true rfl, Nat.le_of_ble_eq_true rfl⟩) hK hP hD hS hA [0, 1, 2, 3, 4, 5, 6, 7, 8, 9, 10, 11, 12, 13, 14, 15, 16, 17, 18, 19, 20, 21] [] (wr := ([] : va_W)) rfl rfl (by decide) (by decide) (by decide) 0 7 rfl rfl rfl [0, 1, 2, 3, 4, 5, 6, 7, 8, 9, 10, 11, 12, 13, 14, 15, 16, 17, 18, 19, 20, 21] (fun (u : Int × (Int → Int) × (Int → Int) × Int × (Int → Int) × Int × Int × (Int → Int)) => (W_M cI cS mA mf mn ml mk mg mls ms mra mrf mrk mrg mrl mrs u.1 u.2.1 u.2.2.1 u.2.2.2.1 u.2.2.2.2.1 u.2.2.2.2.2.1 u.2.2.2.2.2.2.1 u.2.2.2.2.2.2.2 mro mdp mdf mhg mhk mR mRf mRo mss msl msh mha mt)) (fun _ => rfl) (by decide) rfl hl.1 rfl (Nat.le_of_ble_eq_true rfl) ⟨Nat.zero_le _, Nat.zero_le _⟩ dX7_performed_19 (fun r_ u_ H locs hw hP hD hS => ?_)
      obtain ⟨mo_3, moo_4, moa_5, mp2, mpp2, mfi2, mpl2, mpo2⟩ := u_
      try dsimp only at hw
      obtain ⟨z2, rfl, hz2, hp2, he2, hl2⟩ := hw
      have hP : va_P D vwCl (W_M cI cS mA mf mn ml mk mg mls ms mra mrf mrk mrg mrl mrs mo_3 moo_4 moa_5 mp2 mpp2 mfi2 mpl2 mpo2 mro mdp mdf mhg mhk mR mRf mRo mss msl msh mha mt) H := hP
      have hD : va_D A (W_M cI cS mA mf mn ml mk mg mls ms mra mrf mrk mrg mrl mrs mo_3 moo_4 moa_5 mp2 mpp2 mfi2 mpl2 mpo2 mro mdp mdf mhg mhk mR mRf mRo mss msl msh mha mt) := hD
      have hsl := sem_len (K := mk) (G := mg) (L := ml) hok hf.1 hf.2
      have hpl := hp2.1
      refine lv_istore_n (lv' := [(3, .int (iI z2)), (0, .ref (mA 0)), (1, .int (iI f)), (2, .int (iI k))]) hx hb dX7_performed_22 rfl hl (by decide) rfl (fun ls hl => ?_)
      refine lv_iload_n hx hb dX7_performed_23 rfl (lv_at hl 3 rfl) ?_
      refine lv_aload_n hx hb dX7_performed_24 rfl (lv_at hl 1 rfl) ?_
      refine va_get (D := D) (ci := 7) (v := .int (iI mp2)) (C := RX7) (T := TX7) (N := 34) hx hb hts iw_7 hown hK.1 hP 0 rfl rfl 16 (by decide) fl_154 (fun _ h9 => h9) rfl dX7_performed_25 ?_
      refine n_icmp_ge (tgt := 40) hx hb dX7_performed_28 (by decide) (by omega) (fun c_6 => ?_) (fun c_6 => ?_)
      ·
        refine lv_bipush (v := iI (-9)) hx hb dX7_performed_40 (by decide +kernel) ?_
        exact W.iret (v := iI (-9)) hx hb hr (fun t ht hW => ⟨⟨_, (mo_3, moo_4, moa_5, mp2, mpp2, mfi2, mpl2, mpo2), rfl, congrArg iI (show (-9) = (sPerf mn ml mk mg mls ms f k) from (by unfold sPerf; rw [if_pos (by omega), if_neg (by omega)]; first | exact hp2.2 k (by omega) (by omega) | (rw [List.getD_eq_getElem?_getD, List.getElem?_eq_none (by omega)]; rfl))), by rw [ht]; exact hP, hD⟩, hS.F ht⟩) hS.2.2 dX7_performed_42
      ·
        refine lv_aload_n hx hb dX7_performed_31 rfl (lv_at hl 1 rfl) ?_
        refine va_get (D := D) (ci := 7) (v := .ref (mA 11)) (C := RX7) (T := TX7) (N := 34) hx hb hts iw_7 hown hK.1 hP 0 rfl rfl 17 (by decide) fl_40 (fun _ h9 => h9) rfl dX7_performed_32 ?_
        refine lv_iload_n hx hb dX7_performed_35 rfl (lv_at hl 3 rfl) ?_
        refine n_iald (n := 1024) hx hb hK.1 hP 11 0 rfl rfl (by omega) (by decide) dX7_performed_36 ?_
        refine lv_goto (tgt := 42) hx hb dX7_performed_37 (by decide) ?_
        exact W.iret (v := iI (mpp2 k)) hx hb hr (fun t ht hW => ⟨⟨_, (mo_3, moo_4, moa_5, mp2, mpp2, mfi2, mpl2, mpo2), rfl, congrArg iI (show (mpp2 k) = (sPerf mn ml mk mg mls ms f k) from (by unfold sPerf; rw [if_pos (by omega), if_neg (by omega)]; first | exact hp2.2 k (by omega) (by omega) | (rw [List.getD_eq_getElem?_getD, List.getElem?_eq_none (by omega)]; rfl))), by rw [ht]; exact hP, hD⟩, hS.F ht⟩) hS.2.2 dX7_performed_42
    ·
      refine lv_bipush (v := iI (-2)) hx hb dX7_performed_14 (by decide +kernel) ?_
      exact W.iret (v := iI (-2)) hx hb hr (fun t ht hW => ⟨⟨_, (mo, moo, moa, mp, mpp, mfi, mpl, mpo), rfl, congrArg iI (show (-2) = (sPerf mn ml mk mg mls ms f k) from (by unfold sPerf; (repeat (first | rw [if_pos (by omega)] | rw [if_neg (by omega)])))), by rw [ht]; exact hP, hD⟩, hS.F ht⟩) hS.2.2 dX7_performed_16
  ·
    refine lv_iconst (v := iI (-1)) hx hb dX7_performed_8 (by decide +kernel) ?_
    exact W.iret (v := iI (-1)) hx hb hr (fun t ht hW => ⟨⟨_, (mo, moo, moa, mp, mpp, mfi, mpl, mpo), rfl, congrArg iI (show (-1) = (sPerf mn ml mk mg mls ms f k) from (by unfold sPerf; (repeat (first | rw [if_pos (by omega)] | rw [if_neg (by omega)])))), by rw [ht]; exact hP, hD⟩, hS.F ht⟩) hS.2.2 dX7_performed_9
set_option maxHeartbeats 4000000 in
set_option maxRecDepth 100000 in
theorem c_X7_path (l : Launch) (D : va_G) (cI cS : ClassId) (mA : Nat → Nat) (mf : Int) (mn : Int) (ml : Int) (mk : Int → Int) (mg : Int → Int) (mls : Int → Int) (ms : Int → Int) (mra : Int) (mrf : Int) (mrk : Int → Int) (mrg : Int → Int) (mrl : Int → Int) (mrs : Int → Int) (mo : Int) (moo : Int → Int) (moa : Int → Int) (mp : Int) (mpp : Int → Int) (mfi : Int) (mpl : Int) (mpo : Int → Int) (mro : Int → Int) (mdp : Int) (mdf : Int) (mhg : Int → Int) (mhk : Int → Int) (mR : Int) (mRf : Int → Int) (mRo : Int → Int) (mss : Int → Int) (msl : Int → Int) (msh : Int → Int) (mha : Int → Int) (mt : Int) (sz : Nat) (f : Int) (k : Int) (hok : okP mn mls ms) (hkk : okK mn mk mg ml) (hfr : -2147483648 ≤ f ∧ f < 2147483648) (hkr : -2147483648 ≤ k ∧ k < 2147483648) : Met l yX7_path wsX7_path ({ frames := 4, cells := 0, slots := 0, locals := 89 }) (cP D cI cS (W_M cI cS mA mf mn ml mk mg mls ms mra mrf mrk mrg mrl mrs mo moo moa mp mpp mfi mpl mpo mro mdp mdf mhg mhk mR mRf mRo mss msl msh mha mt) sz [.ref (mA 0), .int (iI f), .int (iI k)]) (va_Qi (fun (r : Int32) (u : Int × (Int → Int) × (Int → Int) × Int × (Int → Int) × Int × Int × (Int → Int)) => r = iI (sPath mn ml mk mg mls ms f k)) (fun (u : Int × (Int → Int) × (Int → Int) × Int × (Int → Int) × Int × Int × (Int → Int)) t => cB D (va_A (W_M cI cS mA mf mn ml mk mg mls ms mra mrf mrk mrg mrl mrs mo moo moa mp mpp mfi mpl mpo mro mdp mdf mhg mhk mR mRf mRo mss msl msh mha mt) sz) (W_M cI cS mA mf mn ml mk mg mls ms mra mrf mrk mrg mrl mrs u.1 u.2.1 u.2.2.1 u.2.2.2.1 u.2.2.2.2.1 u.2.2.2.2.2.1 u.2.2.2.2.2.2.1 u.2.2.2.2.2.2.2 mro mdp mdf mhg mhk mR mRf mRo mss msl msh mha mt) t) (va_A (W_M cI cS mA mf mn ml mk mg mls ms mra mrf mrk mrg mrl mrs mo moo moa mp mpp mfi mpl mpo mro mdp mdf mhg mhk mR mRf mRo mss msl msh mha mt) sz)) 0 0 (va_A (W_M cI cS mA mf mn ml mk mg mls ms mra mrf mrk mrg mrl mrs mo moo moa mp mpp mfi mpl mpo mro mdp mdf mhg mhk mR mRf mRo mss msl msh mha mt) sz) := by
  refine Met.ofW (cc := cX7_path) (maxL := 4) (ret := (some .int)) (by decide) rfl ?_
  intro p e s m args below meth c_ s₁ B hml hv
  obtain ⟨rfl, hsz, hP, hK, hD0⟩ := hv
  have hx := B.exec
  have hb := B.bytes
  have hr := B.returns
  have hts := atoms_spec (ws := wsX7_path) B.pre
  have hown : s.vm.findClass RX7 = some m.cls := findClass_of_methodNamed B.named
  have hlocks := B.notSynchronized
  subst hsz
  have hD := hD0.self (sz := s.heap.size)
  generalize hAe : va_A (W_M cI cS mA mf mn ml mk mg mls ms mra mrf mrk mrg mrl mrs mo moo moa mp mpp mfi mpl mpo mro mdp mdf mhg mhk mR mRf mRo mss msl msh mha mt) s.heap.size = A at hD ⊢
  have hA : ∀ q : Nat, s.heap.size ≤ q → A q := fun q h => by rw [← hAe]; exact Or.inr h
  have hS : va_S A s.heap s.heap [] := va_S.rf
  have hP : va_P D vwCl (W_M cI cS mA mf mn ml mk mg mls ms mra mrf mrk mrg mrl mrs mo moo moa mp mpp mfi mpl mpo mro mdp mdf mhg mhk mR mRf mRo mss msl msh mha mt) s.heap := hP
  have hl := lv_entry ([.ref (mA 0), .int (iI f), .int (iI k)] : List Value) (n := 4) (Nat.le_of_ble_eq_true rfl)
  rw [lg_entry_eq]
  generalize (lg_sl ([.ref (mA 0), .int (iI f), .int (iI k)] : List Value) ++ List.replicate (4 - (lg_sl ([.ref (mA 0), .int (iI f), .int (iI k)] : List Value)).length) Slot.unset).toArray = ls at hl ⊢
  have hl : lv_has ls 4 [(0, .ref (mA 0)), (1, .int (iI f)), (2, .int (iI k))] := hl
  have ck_200 := hts (.constantLong RX7 200 (lI 4)) (by decide +kernel)
  have fl_157 := hts (.fieldLink RX7 157 "ActRowsModel" "pathLength" "I") (by decide +kernel)
  have iw_7 : ∀ w ∈ wsX70, w ∈ wsX7_path := by decide +kernel
  have fl_43 := hts (.fieldLink RX7 43 "ActRowsModel" "pathOf" "[I") (by decide +kernel)
  have hmn := hok.1
  have hln := hok.2.1
  refine lv_aload_n hx hb dX7_path_0 rfl (lv_at hl 0 rfl) ?_
  refine lv_iload_n hx hb dX7_path_1 rfl (lv_at hl 1 rfl) ?_
  refine x_callVi (As := [.int (iI f)]) (rest := []) ⟨hx, hb, hml, hown, hts⟩ (c_X7_noFunction l D cI cS mA mf mn ml mk mg mls ms mra mrf mrk mrg mrl mrs mo moo moa mp mpp mfi mpl mpo mro mdp mdf mhg mhk mR mRf mRo mss msl msh mha mt s.heap.size f (by first | assumption | omega) (by first | assumption | omega)) (cwV 1 hts gX7_path_X7_noFunction rfl rfl rfl (by decide +kernel) ⟨Nat.le_of_ble_eq_true rfl, Nat.le_of_ble_eq_true rfl⟩) hK hP hD hS hA [0, 1, 2, 3, 4, 5, 6, 7, 8, 9, 10, 11, 12, 13, 14, 15, 16, 17, 18, 19, 20, 21] [] (wr := ([] : va_W)) rfl rfl (by decide) (by decide) (by decide) 0 7 rfl rfl rfl [0, 1, 2, 3, 4, 5, 6, 7, 8, 9, 10, 11, 12, 13, 14, 15, 16, 17, 18, 19, 20, 21] (fun (u : Unit) => (W_M cI cS mA mf mn ml mk mg mls ms mra mrf mrk mrg mrl mrs mo moo moa mp mpp mfi mpl mpo mro mdp mdf mhg mhk mR mRf mRo mss msl msh mha mt)) (fun _ => rfl) (by decide) rfl hl.1 rfl (Nat.le_of_ble_eq_true rfl) ⟨Nat.zero_le _, Nat.zero_le _⟩ dX7_path_2 (fun r_ u_ H locs hw hP hD hS => ?_)
  try dsimp only at hw
  subst hw
  have hP : va_P D vwCl (W_M cI cS mA mf mn ml mk mg mls ms mra mrf mrk mrg mrl mrs mo moo moa mp mpp mfi mpl mpo mro mdp mdf mhg mhk mR mRf mRo mss msl msh mha mt) H := hP
  have hD : va_D A (W_M cI cS mA mf mn ml mk mg mls ms mra mrf mrk mrg mrl mrs mo moo moa mp mpp mfi mpl mpo mro mdp mdf mhg mhk mR mRf mRo mss msl msh mha mt) := hD
  refine n_if_b1 (tgt := 10) hx hb dX7_path_5 (by decide)  (fun c_1 => ?_) (fun c_1 => ?_)
  ·
    have hf : 0 ≤ f ∧ f < mn := by omega
    refine lv_iload_n hx hb dX7_path_10 rfl (lv_at hl 2 rfl) ?_
    refine n_i2l hx hb (by omega) dX7_path_11 ?_
    refine lv_lconst (v := lI 0) hx hb dX7_path_12 (by decide +kernel) ?_
    refine lv_ldc2 hx hb hown ck_200 dX7_path_13 ?_
    refine x_callSi (As := [.long (lI k), .long (lI 0), .long (lI 4)]) (rest := []) ⟨hx, hb, hml, hown, hts⟩ (c_X7_in l D cI cS H.size k 0 4 (by first | assumption | omega) (by first | assumption | omega) (by first | assumption | omega)) (va_cwS 3 hts gX7_path_X7_in rfl rfl rfl (by decide +kernel) ⟨Nat.le_of_ble_eq_true rfl, Nat.le_of_ble_eq_true rfl⟩) hK hP hD hS hA [] [0, 1, 2, 3, 4, 5, 6, 7, 8, 9, 10, 11, 12, 13, 14, 15, 16, 17, 18, 19, 20, 21] (wr := [(mA 0, .inr (7, [.int (iI mf), .int (iI mn), .int (iI ml), .ref (mA 1), .ref (mA 2), .ref (mA 3), .ref (mA 4), .int (iI mra), .int (iI mrf), .ref (mA 5), .ref (mA 6), .ref (mA 7), .ref (mA 8), .int (iI mo), .ref (mA 9), .ref (mA 10), .int (iI mp), .ref (mA 11), .int (iI mfi), .int (iI mpl), .ref (mA 12), .ref (mA 13), .int (iI mdp), .int (iI mdf), .ref (mA 14), .ref (mA 15), .int (iI mR), .ref (mA 16), .ref (mA 17), .ref (mA 18), .ref (mA 19), .ref (mA 20), .ref (mA 21), .int (iI mt)])), (mA 1, .inl (cI, 5, .inl (aI mk))), (mA 2, .inl (cI, 5, .inl (aI mg))), (mA 3, .inl (cI, 5, .inl (aI mls))), (mA 4, .inl (cI, 20, .inl (aI ms))), (mA 5, .inl (cI, 5, .inl (aI mrk))), (mA 6, .inl (cI, 5, .inl (aI mrg))), (mA 7, .inl (cI, 5, .inl (aI mrl))), (mA 8, .inl (cI, 20, .inl (aI mrs))), (mA 9, .inl (cI, 5, .inl (aI moo))), (mA 10, .inl (cI, 5, .inl (aI moa))), (mA 11, .inl (cI, 1024, .inl (aI mpp))), (mA 12, .inl (cI, 5, .inl (aI mpo))), (mA 13, .inl (cI, 5, .inl (aI mro))), (mA 14, .inl (cI, 5, .inl (aI mhg))), (mA 15, .inl (cI, 5, .inl (aI mhk))), (mA 16, .inl (cI, 8, .inl (aI mRf))), (mA 17, .inl (cI, 8, .inl (aI mRo))), (mA 18, .inl (cI, 4, .inl (aI mss))), (mA 19, .inl (cI, 4, .inl (aI msl))), (mA 20, .inl (cI, 240, .inl (aI msh))), (mA 21, .inl (cI, 60, .inl (aI mha)))]) rfl rfl (by decide) (by decide) (by decide) [0, 1, 2, 3, 4, 5, 6, 7, 8, 9, 10, 11, 12, 13, 14, 15, 16, 17, 18, 19, 20, 21] (fun (u : Unit) => (W_M cI cS mA mf mn ml mk mg mls ms mra mrf mrk mrg mrl mrs mo moo moa mp mpp mfi mpl mpo mro mdp mdf mhg mhk mR mRf mRo mss msl msh mha mt)) (fun _ => rfl) (by decide) rfl hl.1 rfl (Nat.le_of_ble_eq_true rfl) ⟨Nat.zero_le _, Nat.zero_le _⟩ dX7_path_16 (fun r_ u_ H locs hw hP hD hS => ?_)
    try dsimp only at hw
    subst hw
    have hP : va_P D vwCl (W_M cI cS mA mf mn ml mk mg mls ms mra mrf mrk mrg mrl mrs mo moo moa mp mpp mfi mpl mpo mro mdp mdf mhg mhk mR mRf mRo mss msl msh mha mt) H := hP
    have hD : va_D A (W_M cI cS mA mf mn ml mk mg mls ms mra mrf mrk mrg mrl mrs mo moo moa mp mpp mfi mpl mpo mro mdp mdf mhg mhk mR mRf mRo mss msl msh mha mt) := hD
    refine n_if_b2 (tgt := 25) hx hb dX7_path_19 (by decide)  (fun c_2 => ?_) (fun c_2 => ?_)
    ·
      refine lv_aload_n hx hb dX7_path_25 rfl (lv_at hl 0 rfl) ?_
      refine lv_iload_n hx hb dX7_path_26 rfl (lv_at hl 1 rfl) ?_
      refine x_callVi (As := [.int (iI f)]) (rest := []) ⟨hx, hb, hml, hown, hts⟩ (c_X7_runs l D cI cS mA mf mn ml mk mg mls ms mra mrf mrk mrg mrl mrs mo moo moa mp mpp mfi mpl mpo mro mdp mdf mhg mhk mR mRf mRo mss msl msh mha mt H.size f (by first | assumption | omega) (by first | assumption | omega) (by first | assumption | omega)) (cwV 1 hts gX7_path_X7_runs rfl rfl rfl (by decide +kernel) ⟨Nat.le_of_ble_eq_true rfl, Nat.le_of_ble_eq_true rfl⟩) hK hP hD hS hA [0, 1, 2, 3, 4, 5, 6, 7, 8, 9, 10, 11, 12, 13, 14, 15, 16, 17, 18, 19, 20, 21] [] (wr := ([] : va_W)) rfl rfl (by decide) (by decide) (by decide) 0 7 rfl rfl rfl [0, 1, 2, 3, 4, 5, 6, 7, 8, 9, 10, 11, 12, 13, 14, 15, 16, 17, 18, 19, 20, 21] (fun (u : Int × (Int → Int) × (Int → Int) × Int × (Int → Int) × Int × Int × (Int → Int)) => (W_M cI cS mA mf mn ml mk mg mls ms mra mrf mrk mrg mrl mrs u.1 u.2.1 u.2.2.1 u.2.2.2.1 u.2.2.2.2.1 u.2.2.2.2.2.1 u.2.2.2.2.2.2.1 u.2.2.2.2.2.2.2 mro mdp mdf mhg mhk mR mRf mRo mss msl msh mha mt)) (fun _ => rfl) (by decide) rfl hl.1 rfl (Nat.le_of_ble_eq_true rfl) ⟨Nat.zero_le _, Nat.zero_le _⟩ dX7_path_27 (fun r_ u_ H locs hw hP hD hS => ?_)
      obtain ⟨mo_3, moo_4, moa_5, mp2, mpp2, mfi2, mpl2, mpo2⟩ := u_
      try dsimp only at hw
      obtain ⟨z2, rfl, hz2, hp2, he2, hl2⟩ := hw
      have hP : va_P D vwCl (W_M cI cS mA mf mn ml mk mg mls ms mra mrf mrk mrg mrl mrs mo_3 moo_4 moa_5 mp2 mpp2 mfi2 mpl2 mpo2 mro mdp mdf mhg mhk mR mRf mRo mss msl msh mha mt) H := hP
      have hD : va_D A (W_M cI cS mA mf mn ml mk mg mls ms mra mrf mrk mrg mrl mrs mo_3 moo_4 moa_5 mp2 mpp2 mfi2 mpl2 mpo2 mro mdp mdf mhg mhk mR mRf mRo mss msl msh mha mt) := hD
      have hpa := (path_all (K := mk) (G := mg) (L := ml) hok f hf.1 hf.2).2
      have hpl := hl2.1
      refine lv_istore_n (lv' := [(3, .int (iI z2)), (0, .ref (mA 0)), (1, .int (iI f)), (2, .int (iI k))]) hx hb dX7_path_30 rfl hl (by decide) rfl (fun ls hl => ?_)
      refine lv_iload_n hx hb dX7_path_31 rfl (lv_at hl 3 rfl) ?_
      refine lv_aload_n hx hb dX7_path_32 rfl (lv_at hl 1 rfl) ?_
      refine va_get (D := D) (ci := 7) (v := .int (iI mpl2)) (C := RX7) (T := TX7) (N := 34) hx hb hts iw_7 hown hK.1 hP 0 rfl rfl 19 (by decide) fl_157 (fun _ h9 => h9) rfl dX7_path_33 ?_
      refine n_icmp_ge (tgt := 48) hx hb dX7_path_36 (by decide) (by omega) (fun c_6 => ?_) (fun c_6 => ?_)
      ·
        refine lv_bipush (v := iI (-9)) hx hb dX7_path_48 (by decide +kernel) ?_
        exact W.iret (v := iI (-9)) hx hb hr (fun t ht hW => ⟨⟨_, (mo_3, moo_4, moa_5, mp2, mpp2, mfi2, mpl2, mpo2), rfl, congrArg iI (show (-9) = (sPath mn ml mk mg mls ms f k) from (by unfold sPath; rw [if_pos (by omega), if_pos (by omega)]; first | exact hl2.2 k (by omega) (by omega) | (rw [List.getD_eq_getElem?_getD, List.getElem?_eq_none (by omega)]; rfl))), by rw [ht]; exact hP, hD⟩, hS.F ht⟩) hS.2.2 dX7_path_50
      ·
        refine lv_aload_n hx hb dX7_path_39 rfl (lv_at hl 1 rfl) ?_
        refine va_get (D := D) (ci := 7) (v := .ref (mA 12)) (C := RX7) (T := TX7) (N := 34) hx hb hts iw_7 hown hK.1 hP 0 rfl rfl 20 (by decide) fl_43 (fun _ h9 => h9) rfl dX7_path_40 ?_
        refine lv_iload_n hx hb dX7_path_43 rfl (lv_at hl 3 rfl) ?_
        refine n_iald (n := 5) hx hb hK.1 hP 12 0 rfl rfl (by omega) (by decide) dX7_path_44 ?_
        refine lv_goto (tgt := 50) hx hb dX7_path_45 (by decide) ?_
        exact W.iret (v := iI (mpo2 k)) hx hb hr (fun t ht hW => ⟨⟨_, (mo_3, moo_4, moa_5, mp2, mpp2, mfi2, mpl2, mpo2), rfl, congrArg iI (show (mpo2 k) = (sPath mn ml mk mg mls ms f k) from (by unfold sPath; rw [if_pos (by omega), if_pos (by omega)]; first | exact hl2.2 k (by omega) (by omega) | (rw [List.getD_eq_getElem?_getD, List.getElem?_eq_none (by omega)]; rfl))), by rw [ht]; exact hP, hD⟩, hS.F ht⟩) hS.2.2 dX7_path_50
    ·
      refine lv_bipush (v := iI (-2)) hx hb dX7_path_22 (by decide +kernel) ?_
      exact W.iret (v := iI (-2)) hx hb hr (fun t ht hW => ⟨⟨_, (mo, moo, moa, mp, mpp, mfi, mpl, mpo), rfl, congrArg iI (show (-2) = (sPath mn ml mk mg mls ms f k) from (by unfold sPath; (repeat (first | rw [if_pos (by omega)] | rw [if_neg (by omega)])))), by rw [ht]; exact hP, hD⟩, hS.F ht⟩) hS.2.2 dX7_path_24
  ·
    refine lv_iconst (v := iI (-1)) hx hb dX7_path_8 (by decide +kernel) ?_
    exact W.iret (v := iI (-1)) hx hb hr (fun t ht hW => ⟨⟨_, (mo, moo, moa, mp, mpp, mfi, mpl, mpo), rfl, congrArg iI (show (-1) = (sPath mn ml mk mg mls ms f k) from (by unfold sPath; (repeat (first | rw [if_pos (by omega)] | rw [if_neg (by omega)])))), by rw [ht]; exact hP, hD⟩, hS.F ht⟩) hS.2.2 dX7_path_9
set_option maxHeartbeats 4000000 in
set_option maxRecDepth 100000 in
theorem c_X7_runsOnly (l : Launch) (D : va_G) (cI cS : ClassId) (mA : Nat → Nat) (mf : Int) (mn : Int) (ml : Int) (mk : Int → Int) (mg : Int → Int) (mls : Int → Int) (ms : Int → Int) (mra : Int) (mrf : Int) (mrk : Int → Int) (mrg : Int → Int) (mrl : Int → Int) (mrs : Int → Int) (mo : Int) (moo : Int → Int) (moa : Int → Int) (mp : Int) (mpp : Int → Int) (mfi : Int) (mpl : Int) (mpo : Int → Int) (mro : Int → Int) (mdp : Int) (mdf : Int) (mhg : Int → Int) (mhk : Int → Int) (mR : Int) (mRf : Int → Int) (mRo : Int → Int) (mss : Int → Int) (msl : Int → Int) (msh : Int → Int) (mha : Int → Int) (mt : Int) (sz : Nat) (f : Int) (hok : okP mn mls ms) (hkk : okK mn mk mg ml) (hf0 : 0 ≤ f ∧ f < 5) : Met l yX7_runsOnly wsX7_runsOnly ({ frames := 4, cells := 0, slots := 0, locals := 89 }) (cP D cI cS (W_M cI cS mA mf mn ml mk mg mls ms mra mrf mrk mrg mrl mrs mo moo moa mp mpp mfi mpl mpo mro mdp mdf mhg mhk mR mRf mRo mss msl msh mha mt) sz [.ref (mA 0), .int (iI f)]) (va_Qi (fun (r : Int32) (u : Int × (Int → Int) × (Int → Int) × Int × (Int → Int) × Int × Int × (Int → Int)) => r = iI (if f < mn ∧ (sem mk mg ml mls ms f).1 = 4 then 1 else 0)) (fun (u : Int × (Int → Int) × (Int → Int) × Int × (Int → Int) × Int × Int × (Int → Int)) t => cB D (va_A (W_M cI cS mA mf mn ml mk mg mls ms mra mrf mrk mrg mrl mrs mo moo moa mp mpp mfi mpl mpo mro mdp mdf mhg mhk mR mRf mRo mss msl msh mha mt) sz) (W_M cI cS mA mf mn ml mk mg mls ms mra mrf mrk mrg mrl mrs u.1 u.2.1 u.2.2.1 u.2.2.2.1 u.2.2.2.2.1 u.2.2.2.2.2.1 u.2.2.2.2.2.2.1 u.2.2.2.2.2.2.2 mro (if f < mn then mdp + ((sem mk mg ml mls ms f).2.1.length : Int) else mdp) (if f < mn then mdf + (sem mk mg ml mls ms f).2.2.1 else mdf) mhg mhk mR mRf mRo mss msl msh mha mt) t) (va_A (W_M cI cS mA mf mn ml mk mg mls ms mra mrf mrk mrg mrl mrs mo moo moa mp mpp mfi mpl mpo mro mdp mdf mhg mhk mR mRf mRo mss msl msh mha mt) sz)) 0 0 (va_A (W_M cI cS mA mf mn ml mk mg mls ms mra mrf mrk mrg mrl mrs mo moo moa mp mpp mfi mpl mpo mro mdp mdf mhg mhk mR mRf mRo mss msl msh mha mt) sz) := by
  refine Met.ofW (cc := cX7_runsOnly) (maxL := 3) (ret := (some .boolean)) (by decide) rfl ?_
  intro p e s m args below meth c_ s₁ B hml hv
  obtain ⟨rfl, hsz, hP, hK, hD0⟩ := hv
  have hx := B.exec
  have hb := B.bytes
  have hr := B.returns
  have hts := atoms_spec (ws := wsX7_runsOnly) B.pre
  have hown : s.vm.findClass RX7 = some m.cls := findClass_of_methodNamed B.named
  have hlocks := B.notSynchronized
  subst hsz
  have hD := hD0.self (sz := s.heap.size)
  generalize hAe : va_A (W_M cI cS mA mf mn ml mk mg mls ms mra mrf mrk mrg mrl mrs mo moo moa mp mpp mfi mpl mpo mro mdp mdf mhg mhk mR mRf mRo mss msl msh mha mt) s.heap.size = A at hD ⊢
  have hA : ∀ q : Nat, s.heap.size ≤ q → A q := fun q h => by rw [← hAe]; exact Or.inr h
  have hS : va_S A s.heap s.heap [] := va_S.rf
  have hP : va_P D vwCl (W_M cI cS mA mf mn ml mk mg mls ms mra mrf mrk mrg mrl mrs mo moo moa mp mpp mfi mpl mpo mro mdp mdf mhg mhk mR mRf mRo mss msl msh mha mt) s.heap := hP
  have hl := lv_entry ([.ref (mA 0), .int (iI f)] : List Value) (n := 3) (Nat.le_of_ble_eq_true rfl)
  rw [lg_entry_eq]
  generalize (lg_sl ([.ref (mA 0), .int (iI f)] : List Value) ++ List.replicate (3 - (lg_sl ([.ref (mA 0), .int (iI f)] : List Value)).length) Slot.unset).toArray = ls at hl ⊢
  have hl : lv_has ls 3 [(0, .ref (mA 0)), (1, .int (iI f))] := hl
  have fl_204 := hts (.fieldLink RX7 204 "ActRowsModel" "dayPerformed" "I") (by decide +kernel)
  have iw_7 : ∀ w ∈ wsX70, w ∈ wsX7_runsOnly := by decide +kernel
  have fl_154 := hts (.fieldLink RX7 154 "ActRowsModel" "performed" "I") (by decide +kernel)
  have fl_207 := hts (.fieldLink RX7 207 "ActRowsModel" "dayFinished" "I") (by decide +kernel)
  have fl_151 := hts (.fieldLink RX7 151 "ActRowsModel" "finished" "I") (by decide +kernel)
  have hmn := hok.1
  have hln := hok.2.1
  refine lv_aload_n hx hb dX7_runsOnly_0 rfl (lv_at hl 0 rfl) ?_
  refine lv_iload_n hx hb dX7_runsOnly_1 rfl (lv_at hl 1 rfl) ?_
  refine x_callVi (As := [.int (iI f)]) (rest := []) ⟨hx, hb, hml, hown, hts⟩ (c_X7_noFunction l D cI cS mA mf mn ml mk mg mls ms mra mrf mrk mrg mrl mrs mo moo moa mp mpp mfi mpl mpo mro mdp mdf mhg mhk mR mRf mRo mss msl msh mha mt s.heap.size f (by first | assumption | omega) (by first | assumption | omega)) (cwV 1 hts gX7_runsOnly_X7_noFunction rfl rfl rfl (by decide +kernel) ⟨Nat.le_of_ble_eq_true rfl, Nat.le_of_ble_eq_true rfl⟩) hK hP hD hS hA [0, 1, 2, 3, 4, 5, 6, 7, 8, 9, 10, 11, 12, 13, 14, 15, 16, 17, 18, 19, 20, 21] [] (wr := ([] : va_W)) rfl rfl (by decide) (by decide) (by decide) 0 7 rfl rfl rfl [0, 1, 2, 3, 4, 5, 6, 7, 8, 9, 10, 11, 12, 13, 14, 15, 16, 17, 18, 19, 20, 21] (fun (u : Unit) => (W_M cI cS mA mf mn ml mk mg mls ms mra mrf mrk mrg mrl mrs mo moo moa mp mpp mfi mpl mpo mro mdp mdf mhg mhk mR mRf mRo mss msl msh mha mt)) (fun _ => rfl) (by decide) rfl hl.1 rfl (Nat.le_of_ble_eq_true rfl) ⟨Nat.zero_le _, Nat.zero_le _⟩ dX7_runsOnly_2 (fun r_ u_ H locs hw hP hD hS => ?_)
  try dsimp only at hw
  subst hw
  have hP : va_P D vwCl (W_M cI cS mA mf mn ml mk mg mls ms mra mrf mrk mrg mrl mrs mo moo moa mp mpp mfi mpl mpo mro mdp mdf mhg mhk mR mRf mRo mss msl msh mha mt) H := hP
  have hD : va_D A (W_M cI cS mA mf mn ml mk mg mls ms mra mrf mrk mrg mrl mrs mo moo moa mp mpp mfi mpl mpo mro mdp mdf mhg mhk mR mRf mRo mss msl msh mha mt) := hD
  refine n_if_b1 (tgt := 10) hx hb dX7_runsOnly_5 (by decide)  (fun c_1 => ?_) (fun c_1 => ?_)
  ·
    have hf : 0 ≤ f ∧ f < mn := by omega
    refine lv_aload_n hx hb dX7_runsOnly_10 rfl (lv_at hl 0 rfl) ?_
    refine lv_iload_n hx hb dX7_runsOnly_11 rfl (lv_at hl 1 rfl) ?_
    refine x_callVi (As := [.int (iI f)]) (rest := []) ⟨hx, hb, hml, hown, hts⟩ (c_X7_runs l D cI cS mA mf mn ml mk mg mls ms mra mrf mrk mrg mrl mrs mo moo moa mp mpp mfi mpl mpo mro mdp mdf mhg mhk mR mRf mRo mss msl msh mha mt H.size f (by first | assumption | omega) (by first | assumption | omega) (by first | assumption | omega)) (cwV 1 hts gX7_runsOnly_X7_runs rfl rfl rfl (by decide +kernel) ⟨Nat.le_of_ble_eq_true rfl, Nat.le_of_ble_eq_true rfl⟩) hK hP hD hS hA [0, 1, 2, 3, 4, 5, 6, 7, 8, 9, 10, 11, 12, 13, 14, 15, 16, 17, 18, 19, 20, 21] [] (wr := ([] : va_W)) rfl rfl (by decide) (by decide) (by decide) 0 7 rfl rfl rfl [0, 1, 2, 3, 4, 5, 6, 7, 8, 9, 10, 11, 12, 13, 14, 15, 16, 17, 18, 19, 20, 21] (fun (u : Int × (Int → Int) × (Int → Int) × Int × (Int → Int) × Int × Int × (Int → Int)) => (W_M cI cS mA mf mn ml mk mg mls ms mra mrf mrk mrg mrl mrs u.1 u.2.1 u.2.2.1 u.2.2.2.1 u.2.2.2.2.1 u.2.2.2.2.2.1 u.2.2.2.2.2.2.1 u.2.2.2.2.2.2.2 mro mdp mdf mhg mhk mR mRf mRo mss msl msh mha mt)) (fun _ => rfl) (by decide) rfl hl.1 rfl (Nat.le_of_ble_eq_true rfl) ⟨Nat.zero_le _, Nat.zero_le _⟩ dX7_runsOnly_12 (fun r_ u_ H locs hw hP hD hS => ?_)
    obtain ⟨mo_2, moo_3, moa_4, mp2, mpp2, mfi2, mpl2, mpo2⟩ := u_
    try dsimp only at hw
    obtain ⟨z2, rfl, hz2, hp2, he2, hl2⟩ := hw
    have hP : va_P D vwCl (W_M cI cS mA mf mn ml mk mg mls ms mra mrf mrk mrg mrl mrs mo_2 moo_3 moa_4 mp2 mpp2 mfi2 mpl2 mpo2 mro mdp mdf mhg mhk mR mRf mRo mss msl msh mha mt) H := hP
    have hD : va_D A (W_M cI cS mA mf mn ml mk mg mls ms mra mrf mrk mrg mrl mrs mo_2 moo_3 moa_4 mp2 mpp2 mfi2 mpl2 mpo2 mro mdp mdf mhg mhk mR mRf mRo mss msl msh mha mt) := hD
    have hpl := hp2.1
    have hzr := (sem_ok (K := mk) (G := mg) (L := ml) hok f hf.1 hf.2).1
    refine lv_istore_n (lv' := [(2, .int (iI z2)), (0, .ref (mA 0)), (1, .int (iI f))]) hx hb dX7_runsOnly_15 rfl hl (by decide) rfl (fun ls hl => ?_)
    refine lv_aload_n hx hb dX7_runsOnly_16 rfl (lv_at hl 1 rfl) ?_
    refine lv_dup hx hb dX7_runsOnly_17 rfl ?_
    refine va_get (D := D) (ci := 7) (v := .int (iI mdp)) (C := RX7) (T := TX7) (N := 34) hx hb hts iw_7 hown hK.1 hP 0 rfl rfl 22 (by decide) fl_204 (fun _ h9 => h9) rfl dX7_runsOnly_18 ?_
    refine lv_aload_n hx hb dX7_runsOnly_21 rfl (lv_at hl 1 rfl) ?_
    refine va_get (D := D) (ci := 7) (v := .int (iI mp2)) (C := RX7) (T := TX7) (N := 34) hx hb hts iw_7 hown hK.1 hP 0 rfl rfl 16 (by decide) fl_154 (fun _ h9 => h9) rfl dX7_runsOnly_22 ?_
    refine n_iadd hx hb dX7_runsOnly_25 ?_
    refine va_put (D := D) (ci := 7) (v := .int (iI (mdp + mp2))) (ty := .int) (C := RX7) (T := TX7) (N := 34) hx hb hts iw_7 tyX7 tyX7_ok nmX7 hown hK.1 hP hD hS 0 rfl rfl 22 (by decide) fl_204 (fun _ h9 => h9) rfl (by decide +kernel) rfl rfl (Nat.le_of_ble_eq_true rfl) dX7_runsOnly_26 (fun H locs hP hD hS => ?_)
    have hP : va_P D vwCl (W_M cI cS mA mf mn ml mk mg mls ms mra mrf mrk mrg mrl mrs mo_2 moo_3 moa_4 mp2 mpp2 mfi2 mpl2 mpo2 mro (mdp + mp2) mdf mhg mhk mR mRf mRo mss msl msh mha mt) H := hP
    have hD : va_D A (W_M cI cS mA mf mn ml mk mg mls ms mra mrf mrk mrg mrl mrs mo_2 moo_3 moa_4 mp2 mpp2 mfi2 mpl2 mpo2 mro (mdp + mp2) mdf mhg mhk mR mRf mRo mss msl msh mha mt) := hD
    refine lv_aload_n hx hb dX7_runsOnly_29 rfl (lv_at hl 1 rfl) ?_
    refine lv_dup hx hb dX7_runsOnly_30 rfl ?_
    refine va_get (D := D) (ci := 7) (v := .int (iI mdf)) (C := RX7) (T := TX7) (N := 34) hx hb hts iw_7 hown hK.1 hP 0 rfl rfl 23 (by decide) fl_207 (fun _ h9 => h9) rfl dX7_runsOnly_31 ?_
    refine lv_aload_n hx hb dX7_runsOnly_34 rfl (lv_at hl 1 rfl) ?_
    refine va_get (D := D) (ci := 7) (v := .int (iI mfi2)) (C := RX7) (T := TX7) (N := 34) hx hb hts iw_7 hown hK.1 hP 0 rfl rfl 18 (by decide) fl_151 (fun _ h9 => h9) rfl dX7_runsOnly_35 ?_
    refine n_iadd hx hb dX7_runsOnly_38 ?_
    refine va_put (D := D) (ci := 7) (v := .int (iI (mdf + mfi2))) (ty := .int) (C := RX7) (T := TX7) (N := 34) hx hb hts iw_7 tyX7 tyX7_ok nmX7 hown hK.1 hP hD hS 0 rfl rfl 23 (by decide) fl_207 (fun _ h9 => h9) rfl (by decide +kernel) rfl rfl (Nat.le_of_ble_eq_true rfl) dX7_runsOnly_39 (fun H locs hP hD hS => ?_)
    have hP : va_P D vwCl (W_M cI cS mA mf mn ml mk mg mls ms mra mrf mrk mrg mrl mrs mo_2 moo_3 moa_4 mp2 mpp2 mfi2 mpl2 mpo2 mro (mdp + mp2) (mdf + mfi2) mhg mhk mR mRf mRo mss msl msh mha mt) H := hP
    have hD : va_D A (W_M cI cS mA mf mn ml mk mg mls ms mra mrf mrk mrg mrl mrs mo_2 moo_3 moa_4 mp2 mpp2 mfi2 mpl2 mpo2 mro (mdp + mp2) (mdf + mfi2) mhg mhk mR mRf mRo mss msl msh mha mt) := hD
    refine lv_iload_n hx hb dX7_runsOnly_42 rfl (lv_at hl 0 rfl) ?_
    refine n_if_ge (tgt := 50) hx hb dX7_runsOnly_43 (by decide) (by omega) (fun c_5 => ?_) (fun c_5 => ?_)
    ·
      refine lv_iconst (v := iI 0) hx hb dX7_runsOnly_50 (by decide +kernel) ?_
      have e_6 : ((mdp + mp2) : Int) = (if f < mn then mdp + ((sem mk mg ml mls ms f).2.1.length : Int) else mdp) := (by rw [if_pos (by omega), hpl])
      have hP : va_P D vwCl (W_M cI cS mA mf mn ml mk mg mls ms mra mrf mrk mrg mrl mrs mo_2 moo_3 moa_4 mp2 mpp2 mfi2 mpl2 mpo2 mro (if f < mn then mdp + ((sem mk mg ml mls ms f).2.1.length : Int) else mdp) (mdf + mfi2) mhg mhk mR mRf mRo mss msl msh mha mt) H := Eq.mp (congrArg (fun z_ => va_P D vwCl (W_M cI cS mA mf mn ml mk mg mls ms mra mrf mrk mrg mrl mrs mo_2 moo_3 moa_4 mp2 mpp2 mfi2 mpl2 mpo2 mro z_ (mdf + mfi2) mhg mhk mR mRf mRo mss msl msh mha mt) H) e_6) hP
      have hD : va_D A (W_M cI cS mA mf mn ml mk mg mls ms mra mrf mrk mrg mrl mrs mo_2 moo_3 moa_4 mp2 mpp2 mfi2 mpl2 mpo2 mro (if f < mn then mdp + ((sem mk mg ml mls ms f).2.1.length : Int) else mdp) (mdf + mfi2) mhg mhk mR mRf mRo mss msl msh mha mt) := Eq.mp (congrArg (fun z_ => va_D A (W_M cI cS mA mf mn ml mk mg mls ms mra mrf mrk mrg mrl mrs mo_2 moo_3 moa_4 mp2 mpp2 mfi2 mpl2 mpo2 mro z_ (mdf + mfi2) mhg mhk mR mRf mRo mss msl msh mha mt)) e_6) hD
      have e_7 : ((mdf + mfi2) : Int) = (if f < mn then mdf + (sem mk mg ml mls ms f).2.2.1 else mdf) := (by rw [if_pos (by omega), he2])
      have hP : va_P D vwCl (W_M cI cS mA mf mn ml mk mg mls ms mra mrf mrk mrg mrl mrs mo_2 moo_3 moa_4 mp2 mpp2 mfi2 mpl2 mpo2 mro (if f < mn then mdp + ((sem mk mg ml mls ms f).2.1.length : Int) else mdp) (if f < mn then mdf + (sem mk mg ml mls ms f).2.2.1 else mdf) mhg mhk mR mRf mRo mss msl msh mha mt) H := Eq.mp (congrArg (fun z_ => va_P D vwCl (W_M cI cS mA mf mn ml mk mg mls ms mra mrf mrk mrg mrl mrs mo_2 moo_3 moa_4 mp2 mpp2 mfi2 mpl2 mpo2 mro (if f < mn then mdp + ((sem mk mg ml mls ms f).2.1.length : Int) else mdp) z_ mhg mhk mR mRf mRo mss msl msh mha mt) H) e_7) hP
      have hD : va_D A (W_M cI cS mA mf mn ml mk mg mls ms mra mrf mrk mrg mrl mrs mo_2 moo_3 moa_4 mp2 mpp2 mfi2 mpl2 mpo2 mro (if f < mn then mdp + ((sem mk mg ml mls ms f).2.1.length : Int) else mdp) (if f < mn then mdf + (sem mk mg ml mls ms f).2.2.1 else mdf) mhg mhk mR mRf mRo mss msl msh mha mt) := Eq.mp (congrArg (fun z_ => va_D A (W_M cI cS mA mf mn ml mk mg mls ms mra mrf mrk mrg mrl mrs mo_2 moo_3 moa_4 mp2 mpp2 mfi2 mpl2 mpo2 mro (if f < mn then mdp + ((sem mk mg ml mls ms f).2.1.length : Int) else mdp) z_ mhg mhk mR mRf mRo mss msl msh mha mt)) e_7) hD
      exact W.zret (v := iI 0) (ty := .boolean) hx hb hr (by decide +kernel) (fun t ht hW => ⟨⟨_, (mo_2, moo_3, moa_4, mp2, mpp2, mfi2, mpl2, mpo2), rfl, congrArg iI (show 0 = (if f < mn ∧ (sem mk mg ml mls ms f).1 = 4 then 1 else 0) from (by omega)), by rw [ht]; exact hP, hD⟩, hS.F ht⟩) hS.2.2 dX7_runsOnly_51
    ·
      refine lv_iconst (v := iI 1) hx hb dX7_runsOnly_46 (by decide +kernel) ?_
      refine lv_goto (tgt := 51) hx hb dX7_runsOnly_47 (by decide) ?_
      have e_8 : ((mdp + mp2) : Int) = (if f < mn then mdp + ((sem mk mg ml mls ms f).2.1.length : Int) else mdp) := (by rw [if_pos (by omega), hpl])
      have hP : va_P D vwCl (W_M cI cS mA mf mn ml mk mg mls ms mra mrf mrk mrg mrl mrs mo_2 moo_3 moa_4 mp2 mpp2 mfi2 mpl2 mpo2 mro (if f < mn then mdp + ((sem mk mg ml mls ms f).2.1.length : Int) else mdp) (mdf + mfi2) mhg mhk mR mRf mRo mss msl msh mha mt) H := Eq.mp (congrArg (fun z_ => va_P D vwCl (W_M cI cS mA mf mn ml mk mg mls ms mra mrf mrk mrg mrl mrs mo_2 moo_3 moa_4 mp2 mpp2 mfi2 mpl2 mpo2 mro z_ (mdf + mfi2) mhg mhk mR mRf mRo mss msl msh mha mt) H) e_8) hP
      have hD : va_D A (W_M cI cS mA mf mn ml mk mg mls ms mra mrf mrk mrg mrl mrs mo_2 moo_3 moa_4 mp2 mpp2 mfi2 mpl2 mpo2 mro (if f < mn then mdp + ((sem mk mg ml mls ms f).2.1.length : Int) else mdp) (mdf + mfi2) mhg mhk mR mRf mRo mss msl msh mha mt) := Eq.mp (congrArg (fun z_ => va_D A (W_M cI cS mA mf mn ml mk mg mls ms mra mrf mrk mrg mrl mrs mo_2 moo_3 moa_4 mp2 mpp2 mfi2 mpl2 mpo2 mro z_ (mdf + mfi2) mhg mhk mR mRf mRo mss msl msh mha mt)) e_8) hD
      have e_9 : ((mdf + mfi2) : Int) = (if f < mn then mdf + (sem mk mg ml mls ms f).2.2.1 else mdf) := (by rw [if_pos (by omega), he2])
      have hP : va_P D vwCl (W_M cI cS mA mf mn ml mk mg mls ms mra mrf mrk mrg mrl mrs mo_2 moo_3 moa_4 mp2 mpp2 mfi2 mpl2 mpo2 mro (if f < mn then mdp + ((sem mk mg ml mls ms f).2.1.length : Int) else mdp) (if f < mn then mdf + (sem mk mg ml mls ms f).2.2.1 else mdf) mhg mhk mR mRf mRo mss msl msh mha mt) H := Eq.mp (congrArg (fun z_ => va_P D vwCl (W_M cI cS mA mf mn ml mk mg mls ms mra mrf mrk mrg mrl mrs mo_2 moo_3 moa_4 mp2 mpp2 mfi2 mpl2 mpo2 mro (if f < mn then mdp + ((sem mk mg ml mls ms f).2.1.length : Int) else mdp) z_ mhg mhk mR mRf mRo mss msl msh mha mt) H) e_9) hP
      have hD : va_D A (W_M cI cS mA mf mn ml mk mg mls ms mra mrf mrk mrg mrl mrs mo_2 moo_3 moa_4 mp2 mpp2 mfi2 mpl2 mpo2 mro (if f < mn then mdp + ((sem mk mg ml mls ms f).2.1.length : Int) else mdp) (if f < mn then mdf + (sem mk mg ml mls ms f).2.2.1 else mdf) mhg mhk mR mRf mRo mss msl msh mha mt) := Eq.mp (congrArg (fun z_ => va_D A (W_M cI cS mA mf mn ml mk mg mls ms mra mrf mrk mrg mrl mrs mo_2 moo_3 moa_4 mp2 mpp2 mfi2 mpl2 mpo2 mro (if f < mn then mdp + ((sem mk mg ml mls ms f).2.1.length : Int) else mdp) z_ mhg mhk mR mRf mRo mss msl msh mha mt)) e_9) hD
      exact W.zret (v := iI 1) (ty := .boolean) hx hb hr (by decide +kernel) (fun t ht hW => ⟨⟨_, (mo_2, moo_3, moa_4, mp2, mpp2, mfi2, mpl2, mpo2), rfl, congrArg iI (show 1 = (if f < mn ∧ (sem mk mg ml mls ms f).1 = 4 then 1 else 0) from (by omega)), by rw [ht]; exact hP, hD⟩, hS.F ht⟩) hS.2.2 dX7_runsOnly_51
  ·
    refine lv_iconst (v := iI 0) hx hb dX7_runsOnly_8 (by decide +kernel) ?_
    have e_10 : (mdp : Int) = (if f < mn then mdp + ((sem mk mg ml mls ms f).2.1.length : Int) else mdp) := (by rw [if_neg (by omega)])
    have hP : va_P D vwCl (W_M cI cS mA mf mn ml mk mg mls ms mra mrf mrk mrg mrl mrs mo moo moa mp mpp mfi mpl mpo mro (if f < mn then mdp + ((sem mk mg ml mls ms f).2.1.length : Int) else mdp) mdf mhg mhk mR mRf mRo mss msl msh mha mt) H := Eq.mp (congrArg (fun z_ => va_P D vwCl (W_M cI cS mA mf mn ml mk mg mls ms mra mrf mrk mrg mrl mrs mo moo moa mp mpp mfi mpl mpo mro z_ mdf mhg mhk mR mRf mRo mss msl msh mha mt) H) e_10) hP
    have hD : va_D A (W_M cI cS mA mf mn ml mk mg mls ms mra mrf mrk mrg mrl mrs mo moo moa mp mpp mfi mpl mpo mro (if f < mn then mdp + ((sem mk mg ml mls ms f).2.1.length : Int) else mdp) mdf mhg mhk mR mRf mRo mss msl msh mha mt) := Eq.mp (congrArg (fun z_ => va_D A (W_M cI cS mA mf mn ml mk mg mls ms mra mrf mrk mrg mrl mrs mo moo moa mp mpp mfi mpl mpo mro z_ mdf mhg mhk mR mRf mRo mss msl msh mha mt)) e_10) hD
    have e_11 : (mdf : Int) = (if f < mn then mdf + (sem mk mg ml mls ms f).2.2.1 else mdf) := (by rw [if_neg (by omega)])
    have hP : va_P D vwCl (W_M cI cS mA mf mn ml mk mg mls ms mra mrf mrk mrg mrl mrs mo moo moa mp mpp mfi mpl mpo mro (if f < mn then mdp + ((sem mk mg ml mls ms f).2.1.length : Int) else mdp) (if f < mn then mdf + (sem mk mg ml mls ms f).2.2.1 else mdf) mhg mhk mR mRf mRo mss msl msh mha mt) H := Eq.mp (congrArg (fun z_ => va_P D vwCl (W_M cI cS mA mf mn ml mk mg mls ms mra mrf mrk mrg mrl mrs mo moo moa mp mpp mfi mpl mpo mro (if f < mn then mdp + ((sem mk mg ml mls ms f).2.1.length : Int) else mdp) z_ mhg mhk mR mRf mRo mss msl msh mha mt) H) e_11) hP
    have hD : va_D A (W_M cI cS mA mf mn ml mk mg mls ms mra mrf mrk mrg mrl mrs mo moo moa mp mpp mfi mpl mpo mro (if f < mn then mdp + ((sem mk mg ml mls ms f).2.1.length : Int) else mdp) (if f < mn then mdf + (sem mk mg ml mls ms f).2.2.1 else mdf) mhg mhk mR mRf mRo mss msl msh mha mt) := Eq.mp (congrArg (fun z_ => va_D A (W_M cI cS mA mf mn ml mk mg mls ms mra mrf mrk mrg mrl mrs mo moo moa mp mpp mfi mpl mpo mro (if f < mn then mdp + ((sem mk mg ml mls ms f).2.1.length : Int) else mdp) z_ mhg mhk mR mRf mRo mss msl msh mha mt)) e_11) hD
    exact W.zret (v := iI 0) (ty := .boolean) hx hb hr (by decide +kernel) (fun t ht hW => ⟨⟨_, (mo, moo, moa, mp, mpp, mfi, mpl, mpo), rfl, congrArg iI (show 0 = (if f < mn ∧ (sem mk mg ml mls ms f).1 = 4 then 1 else 0) from (by omega)), by rw [ht]; exact hP, hD⟩, hS.F ht⟩) hS.2.2 dX7_runsOnly_9
set_option maxHeartbeats 4000000 in
set_option maxRecDepth 100000 in
theorem c_X7_doesPair (l : Launch) (D : va_G) (cI cS : ClassId) (mA : Nat → Nat) (mf : Int) (mn : Int) (ml : Int) (mk : Int → Int) (mg : Int → Int) (mls : Int → Int) (ms : Int → Int) (mra : Int) (mrf : Int) (mrk : Int → Int) (mrg : Int → Int) (mrl : Int → Int) (mrs : Int → Int) (mo : Int) (moo : Int → Int) (moa : Int → Int) (mp : Int) (mpp : Int → Int) (mfi : Int) (mpl : Int) (mpo : Int → Int) (mro : Int → Int) (mdp : Int) (mdf : Int) (mhg : Int → Int) (mhk : Int → Int) (mR : Int) (mRf : Int → Int) (mRo : Int → Int) (mss : Int → Int) (msl : Int → Int) (msh : Int → Int) (mha : Int → Int) (mt : Int) (sz : Nat) (x : Int) (y : Int) (hok : okP mn mls ms) (hkk : okK mn mk mg ml) (hm1 : 1 ≤ mn) (htl : tld x y = true) : Met l yX7_doesPair wsX7_doesPair ({ frames := 5, cells := 0, slots := 0, locals := 111 }) (cP D cI cS (W_M cI cS mA mf mn ml mk mg mls ms mra mrf mrk mrg mrl mrs mo moo moa mp mpp mfi mpl mpo mro mdp mdf mhg mhk mR mRf mRo mss msl msh mha mt) sz [.ref (mA 0), .int (iI x), .int (iI y)]) (va_Qi (fun (r : Int32) (u : Int × (Int → Int) × (Int → Int) × Int × (Int → Int) × Int × Int × (Int → Int)) => r = iI (if dOkB mn (sem mk mg ml mls ms) y = true then 1 else 0)) (fun (u : Int × (Int → Int) × (Int → Int) × Int × (Int → Int) × Int × Int × (Int → Int)) t => cB D (va_A (W_M cI cS mA mf mn ml mk mg mls ms mra mrf mrk mrg mrl mrs mo moo moa mp mpp mfi mpl mpo mro mdp mdf mhg mhk mR mRf mRo mss msl msh mha mt) sz) (W_M cI cS mA mf mn (dL ml x y) mk (dG mn mg x y) mls ms mra mrf mrk mrg mrl mrs u.1 u.2.1 u.2.2.1 u.2.2.2.1 u.2.2.2.2.1 u.2.2.2.2.2.1 u.2.2.2.2.2.2.1 u.2.2.2.2.2.2.2 mro (dA mn (sem mk mg ml mls ms) mdp y) (dE mn (sem mk mg ml mls ms) mdf y) mhg mhk mR mRf mRo mss msl msh mha mt) t) (va_A (W_M cI cS mA mf mn ml mk mg mls ms mra mrf mrk mrg mrl mrs mo moo moa mp mpp mfi mpl mpo mro mdp mdf mhg mhk mR mRf mRo mss msl msh mha mt) sz)) 0 0 (va_A (W_M cI cS mA mf mn ml mk mg mls ms mra mrf mrk mrg mrl mrs mo moo moa mp mpp mfi mpl mpo mro mdp mdf mhg mhk mR mRf mRo mss msl msh mha mt) sz) := by
  refine Met.ofW (cc := cX7_doesPair) (maxL := 3) (ret := (some .boolean)) (by decide) rfl ?_
  intro p e s m args below meth c_ s₁ B hml hv
  obtain ⟨rfl, hsz, hP, hK, hD0⟩ := hv
  have hx := B.exec
  have hb := B.bytes
  have hr := B.returns
  have hts := atoms_spec (ws := wsX7_doesPair) B.pre
  have hown : s.vm.findClass RX7 = some m.cls := findClass_of_methodNamed B.named
  have hlocks := B.notSynchronized
  subst hsz
  have hD := hD0.self (sz := s.heap.size)
  generalize hAe : va_A (W_M cI cS mA mf mn ml mk mg mls ms mra mrf mrk mrg mrl mrs mo moo moa mp mpp mfi mpl mpo mro mdp mdf mhg mhk mR mRf mRo mss msl msh mha mt) s.heap.size = A at hD ⊢
  have hA : ∀ q : Nat, s.heap.size ≤ q → A q := fun q h => by rw [← hAe]; exact Or.inr h
  have hS : va_S A s.heap s.heap [] := va_S.rf
  have hP : va_P D vwCl (W_M cI cS mA mf mn ml mk mg mls ms mra mrf mrk mrg mrl mrs mo moo moa mp mpp mfi mpl mpo mro mdp mdf mhg mhk mR mRf mRo mss msl msh mha mt) s.heap := hP
  have hl := lv_entry ([.ref (mA 0), .int (iI x), .int (iI y)] : List Value) (n := 3) (Nat.le_of_ble_eq_true rfl)
  rw [lg_entry_eq]
  generalize (lg_sl ([.ref (mA 0), .int (iI x), .int (iI y)] : List Value) ++ List.replicate (3 - (lg_sl ([.ref (mA 0), .int (iI x), .int (iI y)] : List Value)).length) Slot.unset).toArray = ls at hl ⊢
  have hl : lv_has ls 3 [(0, .ref (mA 0)), (1, .int (iI x)), (2, .int (iI y))] := hl
  have hmn := hok.1
  have hln := hok.2.1
  have hts_ := tld_sp htl
  have hxr : -2147483648 ≤ x ∧ x < 2147483648 := by omega
  have hL := hkk.2
  refine lv_iload_n hx hb dX7_doesPair_0 rfl (lv_at hl 2 rfl) ?_
  refine lv_iconst (v := iI 5) hx hb dX7_doesPair_1 (by decide +kernel) ?_
  refine n_icmp_ge (tgt := 13) hx hb dX7_doesPair_2 (by decide) (by omega) (fun c_1 => ?_) (fun c_1 => ?_)
  ·
    refine lv_iload_n hx hb dX7_doesPair_13 rfl (lv_at hl 2 rfl) ?_
    refine lv_iconst (v := iI 5) hx hb dX7_doesPair_14 (by decide +kernel) ?_
    refine n_icmp_ne (tgt := 34) hx hb dX7_doesPair_15 (by decide) (by omega) (fun c_2 => ?_) (fun c_2 => ?_)
    ·
      refine lv_aload_n hx hb dX7_doesPair_34 rfl (lv_at hl 0 rfl) ?_
      refine lv_iload_n hx hb dX7_doesPair_35 rfl (lv_at hl 2 rfl) ?_
      refine lv_bipush (v := iI 6) hx hb dX7_doesPair_36 (by decide +kernel) ?_
      refine n_isub hx hb dX7_doesPair_38 ?_
      refine lv_iload_n hx hb dX7_doesPair_39 rfl (lv_at hl 1 rfl) ?_
      refine x_callVi (As := [.int (iI (y - 6)), .int (iI x)]) (rest := []) ⟨hx, hb, hml, hown, hts⟩ (c_X7_guard l D cI cS mA mf mn ml mk mg mls ms mra mrf mrk mrg mrl mrs mo moo moa mp mpp mfi mpl mpo mro mdp mdf mhg mhk mR mRf mRo mss msl msh mha mt s.heap.size (y - 6) x (by first | assumption | omega) (by first | assumption | omega) (by first | assumption | omega)) (cwV 2 hts gX7_doesPair_X7_guard rfl rfl rfl (by decide +kernel) ⟨Nat.le_of_ble_eq_true rfl, Nat.le_of_ble_eq_true rfl⟩) hK hP hD hS hA [0, 1, 2, 3, 4, 5, 6, 7, 8, 9, 10, 11, 12, 13, 14, 15, 16, 17, 18, 19, 20, 21] [] (wr := ([] : va_W)) rfl rfl (by decide) (by decide) (by decide) 0 7 rfl rfl rfl [0, 1, 2, 3, 4, 5, 6, 7, 8, 9, 10, 11, 12, 13, 14, 15, 16, 17, 18, 19, 20, 21] (fun (u : Unit) => (W_M cI cS mA mf mn ml mk (if (0 ≤ (y - 6) ∧ (y - 6) < mn) ∧ 0 ≤ x ∧ x < 4 then updI mg (y - 6) x else mg) mls ms mra mrf mrk mrg mrl mrs mo moo moa mp mpp mfi mpl mpo mro mdp mdf mhg mhk mR mRf mRo mss msl msh mha mt)) (fun _ => rfl) (by decide) rfl hl.1 rfl (Nat.le_of_ble_eq_true rfl) ⟨Nat.zero_le _, Nat.zero_le _⟩ dX7_doesPair_40 (fun r_ u_ H locs hw hP hD hS => ?_)
      try dsimp only at hw
      subst hw
      have hP : va_P D vwCl (W_M cI cS mA mf mn ml mk (if (0 ≤ (y - 6) ∧ (y - 6) < mn) ∧ 0 ≤ x ∧ x < 4 then updI mg (y - 6) x else mg) mls ms mra mrf mrk mrg mrl mrs mo moo moa mp mpp mfi mpl mpo mro mdp mdf mhg mhk mR mRf mRo mss msl msh mha mt) H := hP
      have hD : va_D A (W_M cI cS mA mf mn ml mk (if (0 ≤ (y - 6) ∧ (y - 6) < mn) ∧ 0 ≤ x ∧ x < 4 then updI mg (y - 6) x else mg) mls ms mra mrf mrk mrg mrl mrs mo moo moa mp mpp mfi mpl mpo mro mdp mdf mhg mhk mR mRf mRo mss msl msh mha mt) := hD
      have hgq : y - 6 < mn → 0 ≤ mg (y - 6) ∧ mg (y - 6) ≤ 3 := fun q => (hkk.1 (y - 6) (by omega) q).2
      have hgq2 : (y - 6 < mn ∧ 0 ≤ mg (y - 6) ∧ mg (y - 6) ≤ 3) ∨ mn ≤ y - 6 := by
        by_cases q : y - 6 < mn
        · exact Or.inl ⟨q, hgq q⟩
        · exact Or.inr (by omega)
      refine n_if_lt (tgt := 50) hx hb dX7_doesPair_43 (by decide) (by omega) (fun c_3 => ?_) (fun c_3 => ?_)
      ·
        refine lv_iconst (v := iI 0) hx hb dX7_doesPair_50 (by decide +kernel) ?_
        have e_4 : (mdp : Int) = (dA mn (sem mk mg ml mls ms) mdp y) := (by unfold dA; first | (by_cases q : y < mn; (rw [if_pos q, if_pos (by omega)]; done); (rw [if_neg q, if_neg (by omega)]; done)) | (rw [if_pos (by omega), if_pos (by omega)]; done) | (rw [if_pos (by omega)]; done) | (rw [if_neg (by omega)]; done) | (rw [if_neg (by omega), if_neg (by omega)]; done) | omega)
        have hP : va_P D vwCl (W_M cI cS mA mf mn ml mk (if (0 ≤ (y - 6) ∧ (y - 6) < mn) ∧ 0 ≤ x ∧ x < 4 then updI mg (y - 6) x else mg) mls ms mra mrf mrk mrg mrl mrs mo moo moa mp mpp mfi mpl mpo mro (dA mn (sem mk mg ml mls ms) mdp y) mdf mhg mhk mR mRf mRo mss msl msh mha mt) H := Eq.mp (congrArg (fun z_ => va_P D vwCl (W_M cI cS mA mf mn ml mk (if (0 ≤ (y - 6) ∧ (y - 6) < mn) ∧ 0 ≤ x ∧ x < 4 then updI mg (y - 6) x else mg) mls ms mra mrf mrk mrg mrl mrs mo moo moa mp mpp mfi mpl mpo mro z_ mdf mhg mhk mR mRf mRo mss msl msh mha mt) H) e_4) hP
        have hD : va_D A (W_M cI cS mA mf mn ml mk (if (0 ≤ (y - 6) ∧ (y - 6) < mn) ∧ 0 ≤ x ∧ x < 4 then updI mg (y - 6) x else mg) mls ms mra mrf mrk mrg mrl mrs mo moo moa mp mpp mfi mpl mpo mro (dA mn (sem mk mg ml mls ms) mdp y) mdf mhg mhk mR mRf mRo mss msl msh mha mt) := Eq.mp (congrArg (fun z_ => va_D A (W_M cI cS mA mf mn ml mk (if (0 ≤ (y - 6) ∧ (y - 6) < mn) ∧ 0 ≤ x ∧ x < 4 then updI mg (y - 6) x else mg) mls ms mra mrf mrk mrg mrl mrs mo moo moa mp mpp mfi mpl mpo mro z_ mdf mhg mhk mR mRf mRo mss msl msh mha mt)) e_4) hD
        have e_5 : (mdf : Int) = (dE mn (sem mk mg ml mls ms) mdf y) := (by unfold dE; first | (by_cases q : y < mn; (rw [if_pos q, if_pos (by omega)]; done); (rw [if_neg q, if_neg (by omega)]; done)) | (rw [if_pos (by omega), if_pos (by omega)]; done) | (rw [if_pos (by omega)]; done) | (rw [if_neg (by omega)]; done) | (rw [if_neg (by omega), if_neg (by omega)]; done) | omega)
        have hP : va_P D vwCl (W_M cI cS mA mf mn ml mk (if (0 ≤ (y - 6) ∧ (y - 6) < mn) ∧ 0 ≤ x ∧ x < 4 then updI mg (y - 6) x else mg) mls ms mra mrf mrk mrg mrl mrs mo moo moa mp mpp mfi mpl mpo mro (dA mn (sem mk mg ml mls ms) mdp y) (dE mn (sem mk mg ml mls ms) mdf y) mhg mhk mR mRf mRo mss msl msh mha mt) H := Eq.mp (congrArg (fun z_ => va_P D vwCl (W_M cI cS mA mf mn ml mk (if (0 ≤ (y - 6) ∧ (y - 6) < mn) ∧ 0 ≤ x ∧ x < 4 then updI mg (y - 6) x else mg) mls ms mra mrf mrk mrg mrl mrs mo moo moa mp mpp mfi mpl mpo mro (dA mn (sem mk mg ml mls ms) mdp y) z_ mhg mhk mR mRf mRo mss msl msh mha mt) H) e_5) hP
        have hD : va_D A (W_M cI cS mA mf mn ml mk (if (0 ≤ (y - 6) ∧ (y - 6) < mn) ∧ 0 ≤ x ∧ x < 4 then updI mg (y - 6) x else mg) mls ms mra mrf mrk mrg mrl mrs mo moo moa mp mpp mfi mpl mpo mro (dA mn (sem mk mg ml mls ms) mdp y) (dE mn (sem mk mg ml mls ms) mdf y) mhg mhk mR mRf mRo mss msl msh mha mt) := Eq.mp (congrArg (fun z_ => va_D A (W_M cI cS mA mf mn ml mk (if (0 ≤ (y - 6) ∧ (y - 6) < mn) ∧ 0 ≤ x ∧ x < 4 then updI mg (y - 6) x else mg) mls ms mra mrf mrk mrg mrl mrs mo moo moa mp mpp mfi mpl mpo mro (dA mn (sem mk mg ml mls ms) mdp y) z_ mhg mhk mR mRf mRo mss msl msh mha mt)) e_5) hD
        have e_6 : (ml : Int) = (dL ml x y) := (by unfold dL; first | (rw [if_pos (by omega), if_pos (by omega)]; done) | (rw [if_pos (by omega)]; done) | (rw [if_neg (by omega)]; done) | (rw [if_neg (by omega), if_neg (by omega)]; done) | omega)
        have hP : va_P D vwCl (W_M cI cS mA mf mn (dL ml x y) mk (if (0 ≤ (y - 6) ∧ (y - 6) < mn) ∧ 0 ≤ x ∧ x < 4 then updI mg (y - 6) x else mg) mls ms mra mrf mrk mrg mrl mrs mo moo moa mp mpp mfi mpl mpo mro (dA mn (sem mk mg ml mls ms) mdp y) (dE mn (sem mk mg ml mls ms) mdf y) mhg mhk mR mRf mRo mss msl msh mha mt) H := Eq.mp (congrArg (fun z_ => va_P D vwCl (W_M cI cS mA mf mn z_ mk (if (0 ≤ (y - 6) ∧ (y - 6) < mn) ∧ 0 ≤ x ∧ x < 4 then updI mg (y - 6) x else mg) mls ms mra mrf mrk mrg mrl mrs mo moo moa mp mpp mfi mpl mpo mro (dA mn (sem mk mg ml mls ms) mdp y) (dE mn (sem mk mg ml mls ms) mdf y) mhg mhk mR mRf mRo mss msl msh mha mt) H) e_6) hP
        have hD : va_D A (W_M cI cS mA mf mn (dL ml x y) mk (if (0 ≤ (y - 6) ∧ (y - 6) < mn) ∧ 0 ≤ x ∧ x < 4 then updI mg (y - 6) x else mg) mls ms mra mrf mrk mrg mrl mrs mo moo moa mp mpp mfi mpl mpo mro (dA mn (sem mk mg ml mls ms) mdp y) (dE mn (sem mk mg ml mls ms) mdf y) mhg mhk mR mRf mRo mss msl msh mha mt) := Eq.mp (congrArg (fun z_ => va_D A (W_M cI cS mA mf mn z_ mk (if (0 ≤ (y - 6) ∧ (y - 6) < mn) ∧ 0 ≤ x ∧ x < 4 then updI mg (y - 6) x else mg) mls ms mra mrf mrk mrg mrl mrs mo moo moa mp mpp mfi mpl mpo mro (dA mn (sem mk mg ml mls ms) mdp y) (dE mn (sem mk mg ml mls ms) mdf y) mhg mhk mR mRf mRo mss msl msh mha mt)) e_6) hD
        have e_7 : ((if (0 ≤ (y - 6) ∧ (y - 6) < mn) ∧ 0 ≤ x ∧ x < 4 then updI mg (y - 6) x else mg) : Int → Int) = (dG mn mg x y) := (by unfold dG; first | (rw [if_pos (by omega), if_pos (by omega)]; done) | (rw [if_pos (by omega)]; done) | (rw [if_neg (by omega)]; done) | (rw [if_neg (by omega), if_neg (by omega)]; done) | omega)
        have hP : va_P D vwCl (W_M cI cS mA mf mn (dL ml x y) mk (dG mn mg x y) mls ms mra mrf mrk mrg mrl mrs mo moo moa mp mpp mfi mpl mpo mro (dA mn (sem mk mg ml mls ms) mdp y) (dE mn (sem mk mg ml mls ms) mdf y) mhg mhk mR mRf mRo mss msl msh mha mt) H := Eq.mp (congrArg (fun z_ => va_P D vwCl (W_M cI cS mA mf mn (dL ml x y) mk z_ mls ms mra mrf mrk mrg mrl mrs mo moo moa mp mpp mfi mpl mpo mro (dA mn (sem mk mg ml mls ms) mdp y) (dE mn (sem mk mg ml mls ms) mdf y) mhg mhk mR mRf mRo mss msl msh mha mt) H) e_7) hP
        have hD : va_D A (W_M cI cS mA mf mn (dL ml x y) mk (dG mn mg x y) mls ms mra mrf mrk mrg mrl mrs mo moo moa mp mpp mfi mpl mpo mro (dA mn (sem mk mg ml mls ms) mdp y) (dE mn (sem mk mg ml mls ms) mdf y) mhg mhk mR mRf mRo mss msl msh mha mt) := Eq.mp (congrArg (fun z_ => va_D A (W_M cI cS mA mf mn (dL ml x y) mk z_ mls ms mra mrf mrk mrg mrl mrs mo moo moa mp mpp mfi mpl mpo mro (dA mn (sem mk mg ml mls ms) mdp y) (dE mn (sem mk mg ml mls ms) mdf y) mhg mhk mR mRf mRo mss msl msh mha mt)) e_7) hD
        exact W.zret (v := iI 0) (ty := .boolean) hx hb hr (by decide +kernel) (fun t ht hW => ⟨⟨_, (mo, moo, moa, mp, mpp, mfi, mpl, mpo), rfl, congrArg iI (show 0 = (if dOkB mn (sem mk mg ml mls ms) y = true then 1 else 0) from (by
          unfold dOkB
          first
          | (rw [if_pos (decide_eq_true (by omega))]; done)
          | (rw [if_neg (by rw [decide_eq_false (by omega)]; decide)]; done)
          | (by_cases q : y < mn ∧ (sem mk mg ml mls ms y).1 = 4
             · rw [if_pos q, if_pos (decide_eq_true (by omega))]
             · rw [if_neg q, if_neg (by rw [decide_eq_false (by omega)]; decide)]))), by rw [ht]; exact hP, hD⟩, hS.F ht⟩) hS.2.2 dX7_doesPair_51
      ·
        refine lv_iconst (v := iI 1) hx hb dX7_doesPair_46 (by decide +kernel) ?_
        refine lv_goto (tgt := 51) hx hb dX7_doesPair_47 (by decide) ?_
        have e_8 : (mdp : Int) = (dA mn (sem mk mg ml mls ms) mdp y) := (by unfold dA; first | (by_cases q : y < mn; (rw [if_pos q, if_pos (by omega)]; done); (rw [if_neg q, if_neg (by omega)]; done)) | (rw [if_pos (by omega), if_pos (by omega)]; done) | (rw [if_pos (by omega)]; done) | (rw [if_neg (by omega)]; done) | (rw [if_neg (by omega), if_neg (by omega)]; done) | omega)
        have hP : va_P D vwCl (W_M cI cS mA mf mn ml mk (if (0 ≤ (y - 6) ∧ (y - 6) < mn) ∧ 0 ≤ x ∧ x < 4 then updI mg (y - 6) x else mg) mls ms mra mrf mrk mrg mrl mrs mo moo moa mp mpp mfi mpl mpo mro (dA mn (sem mk mg ml mls ms) mdp y) mdf mhg mhk mR mRf mRo mss msl msh mha mt) H := Eq.mp (congrArg (fun z_ => va_P D vwCl (W_M cI cS mA mf mn ml mk (if (0 ≤ (y - 6) ∧ (y - 6) < mn) ∧ 0 ≤ x ∧ x < 4 then updI mg (y - 6) x else mg) mls ms mra mrf mrk mrg mrl mrs mo moo moa mp mpp mfi mpl mpo mro z_ mdf mhg mhk mR mRf mRo mss msl msh mha mt) H) e_8) hP
        have hD : va_D A (W_M cI cS mA mf mn ml mk (if (0 ≤ (y - 6) ∧ (y - 6) < mn) ∧ 0 ≤ x ∧ x < 4 then updI mg (y - 6) x else mg) mls ms mra mrf mrk mrg mrl mrs mo moo moa mp mpp mfi mpl mpo mro (dA mn (sem mk mg ml mls ms) mdp y) mdf mhg mhk mR mRf mRo mss msl msh mha mt) := Eq.mp (congrArg (fun z_ => va_D A (W_M cI cS mA mf mn ml mk (if (0 ≤ (y - 6) ∧ (y - 6) < mn) ∧ 0 ≤ x ∧ x < 4 then updI mg (y - 6) x else mg) mls ms mra mrf mrk mrg mrl mrs mo moo moa mp mpp mfi mpl mpo mro z_ mdf mhg mhk mR mRf mRo mss msl msh mha mt)) e_8) hD
        have e_9 : (mdf : Int) = (dE mn (sem mk mg ml mls ms) mdf y) := (by unfold dE; first | (by_cases q : y < mn; (rw [if_pos q, if_pos (by omega)]; done); (rw [if_neg q, if_neg (by omega)]; done)) | (rw [if_pos (by omega), if_pos (by omega)]; done) | (rw [if_pos (by omega)]; done) | (rw [if_neg (by omega)]; done) | (rw [if_neg (by omega), if_neg (by omega)]; done) | omega)
        have hP : va_P D vwCl (W_M cI cS mA mf mn ml mk (if (0 ≤ (y - 6) ∧ (y - 6) < mn) ∧ 0 ≤ x ∧ x < 4 then updI mg (y - 6) x else mg) mls ms mra mrf mrk mrg mrl mrs mo moo moa mp mpp mfi mpl mpo mro (dA mn (sem mk mg ml mls ms) mdp y) (dE mn (sem mk mg ml mls ms) mdf y) mhg mhk mR mRf mRo mss msl msh mha mt) H := Eq.mp (congrArg (fun z_ => va_P D vwCl (W_M cI cS mA mf mn ml mk (if (0 ≤ (y - 6) ∧ (y - 6) < mn) ∧ 0 ≤ x ∧ x < 4 then updI mg (y - 6) x else mg) mls ms mra mrf mrk mrg mrl mrs mo moo moa mp mpp mfi mpl mpo mro (dA mn (sem mk mg ml mls ms) mdp y) z_ mhg mhk mR mRf mRo mss msl msh mha mt) H) e_9) hP
        have hD : va_D A (W_M cI cS mA mf mn ml mk (if (0 ≤ (y - 6) ∧ (y - 6) < mn) ∧ 0 ≤ x ∧ x < 4 then updI mg (y - 6) x else mg) mls ms mra mrf mrk mrg mrl mrs mo moo moa mp mpp mfi mpl mpo mro (dA mn (sem mk mg ml mls ms) mdp y) (dE mn (sem mk mg ml mls ms) mdf y) mhg mhk mR mRf mRo mss msl msh mha mt) := Eq.mp (congrArg (fun z_ => va_D A (W_M cI cS mA mf mn ml mk (if (0 ≤ (y - 6) ∧ (y - 6) < mn) ∧ 0 ≤ x ∧ x < 4 then updI mg (y - 6) x else mg) mls ms mra mrf mrk mrg mrl mrs mo moo moa mp mpp mfi mpl mpo mro (dA mn (sem mk mg ml mls ms) mdp y) z_ mhg mhk mR mRf mRo mss msl msh mha mt)) e_9) hD
        have e_10 : (ml : Int) = (dL ml x y) := (by unfold dL; first | (rw [if_pos (by omega), if_pos (by omega)]; done) | (rw [if_pos (by omega)]; done) | (rw [if_neg (by omega)]; done) | (rw [if_neg (by omega), if_neg (by omega)]; done) | omega)
        have hP : va_P D vwCl (W_M cI cS mA mf mn (dL ml x y) mk (if (0 ≤ (y - 6) ∧ (y - 6) < mn) ∧ 0 ≤ x ∧ x < 4 then updI mg (y - 6) x else mg) mls ms mra mrf mrk mrg mrl mrs mo moo moa mp mpp mfi mpl mpo mro (dA mn (sem mk mg ml mls ms) mdp y) (dE mn (sem mk mg ml mls ms) mdf y) mhg mhk mR mRf mRo mss msl msh mha mt) H := Eq.mp (congrArg (fun z_ => va_P D vwCl (W_M cI cS mA mf mn z_ mk (if (0 ≤ (y - 6) ∧ (y - 6) < mn) ∧ 0 ≤ x ∧ x < 4 then updI mg (y - 6) x else mg) mls ms mra mrf mrk mrg mrl mrs mo moo moa mp mpp mfi mpl mpo mro (dA mn (sem mk mg ml mls ms) mdp y) (dE mn (sem mk mg ml mls ms) mdf y) mhg mhk mR mRf mRo mss msl msh mha mt) H) e_10) hP
        have hD : va_D A (W_M cI cS mA mf mn (dL ml x y) mk (if (0 ≤ (y - 6) ∧ (y - 6) < mn) ∧ 0 ≤ x ∧ x < 4 then updI mg (y - 6) x else mg) mls ms mra mrf mrk mrg mrl mrs mo moo moa mp mpp mfi mpl mpo mro (dA mn (sem mk mg ml mls ms) mdp y) (dE mn (sem mk mg ml mls ms) mdf y) mhg mhk mR mRf mRo mss msl msh mha mt) := Eq.mp (congrArg (fun z_ => va_D A (W_M cI cS mA mf mn z_ mk (if (0 ≤ (y - 6) ∧ (y - 6) < mn) ∧ 0 ≤ x ∧ x < 4 then updI mg (y - 6) x else mg) mls ms mra mrf mrk mrg mrl mrs mo moo moa mp mpp mfi mpl mpo mro (dA mn (sem mk mg ml mls ms) mdp y) (dE mn (sem mk mg ml mls ms) mdf y) mhg mhk mR mRf mRo mss msl msh mha mt)) e_10) hD
        have e_11 : ((if (0 ≤ (y - 6) ∧ (y - 6) < mn) ∧ 0 ≤ x ∧ x < 4 then updI mg (y - 6) x else mg) : Int → Int) = (dG mn mg x y) := (by unfold dG; first | (rw [if_pos (by omega), if_pos (by omega)]; done) | (rw [if_pos (by omega)]; done) | (rw [if_neg (by omega)]; done) | (rw [if_neg (by omega), if_neg (by omega)]; done) | omega)
        have hP : va_P D vwCl (W_M cI cS mA mf mn (dL ml x y) mk (dG mn mg x y) mls ms mra mrf mrk mrg mrl mrs mo moo moa mp mpp mfi mpl mpo mro (dA mn (sem mk mg ml mls ms) mdp y) (dE mn (sem mk mg ml mls ms) mdf y) mhg mhk mR mRf mRo mss msl msh mha mt) H := Eq.mp (congrArg (fun z_ => va_P D vwCl (W_M cI cS mA mf mn (dL ml x y) mk z_ mls ms mra mrf mrk mrg mrl mrs mo moo moa mp mpp mfi mpl mpo mro (dA mn (sem mk mg ml mls ms) mdp y) (dE mn (sem mk mg ml mls ms) mdf y) mhg mhk mR mRf mRo mss msl msh mha mt) H) e_11) hP
        have hD : va_D A (W_M cI cS mA mf mn (dL ml x y) mk (dG mn mg x y) mls ms mra mrf mrk mrg mrl mrs mo moo moa mp mpp mfi mpl mpo mro (dA mn (sem mk mg ml mls ms) mdp y) (dE mn (sem mk mg ml mls ms) mdf y) mhg mhk mR mRf mRo mss msl msh mha mt) := Eq.mp (congrArg (fun z_ => va_D A (W_M cI cS mA mf mn (dL ml x y) mk z_ mls ms mra mrf mrk mrg mrl mrs mo moo moa mp mpp mfi mpl mpo mro (dA mn (sem mk mg ml mls ms) mdp y) (dE mn (sem mk mg ml mls ms) mdf y) mhg mhk mR mRf mRo mss msl msh mha mt)) e_11) hD
        exact W.zret (v := iI 1) (ty := .boolean) hx hb hr (by decide +kernel) (fun t ht hW => ⟨⟨_, (mo, moo, moa, mp, mpp, mfi, mpl, mpo), rfl, congrArg iI (show 1 = (if dOkB mn (sem mk mg ml mls ms) y = true then 1 else 0) from (by
          unfold dOkB
          first
          | (rw [if_pos (decide_eq_true (by omega))]; done)
          | (rw [if_neg (by rw [decide_eq_false (by omega)]; decide)]; done)
          | (by_cases q : y < mn ∧ (sem mk mg ml mls ms y).1 = 4
             · rw [if_pos q, if_pos (decide_eq_true (by omega))]
             · rw [if_neg q, if_neg (by rw [decide_eq_false (by omega)]; decide)]))), by rw [ht]; exact hP, hD⟩, hS.F ht⟩) hS.2.2 dX7_doesPair_51
    ·
      refine lv_aload_n hx hb dX7_doesPair_18 rfl (lv_at hl 0 rfl) ?_
      refine lv_iload_n hx hb dX7_doesPair_19 rfl (lv_at hl 1 rfl) ?_
      refine x_callVi (As := [.int (iI x)]) (rest := []) ⟨hx, hb, hml, hown, hts⟩ (c_X7_live l D cI cS mA mf mn ml mk mg mls ms mra mrf mrk mrg mrl mrs mo moo moa mp mpp mfi mpl mpo mro mdp mdf mhg mhk mR mRf mRo mss msl msh mha mt s.heap.size x (by first | assumption | omega) (by first | assumption | omega)) (cwV 1 hts gX7_doesPair_X7_live rfl rfl rfl (by decide +kernel) ⟨Nat.le_of_ble_eq_true rfl, Nat.le_of_ble_eq_true rfl⟩) hK hP hD hS hA [0, 1, 2, 3, 4, 5, 6, 7, 8, 9, 10, 11, 12, 13, 14, 15, 16, 17, 18, 19, 20, 21] [] (wr := ([] : va_W)) rfl rfl (by decide) (by decide) (by decide) 0 7 rfl rfl rfl [0, 1, 2, 3, 4, 5, 6, 7, 8, 9, 10, 11, 12, 13, 14, 15, 16, 17, 18, 19, 20, 21] (fun (u : Unit) => (W_M cI cS mA mf mn (if (0 ≤ x ∧ x < 16) ∧ mn ≠ 0 then x else ml) mk mg mls ms mra mrf mrk mrg mrl mrs mo moo moa mp mpp mfi mpl mpo mro mdp mdf mhg mhk mR mRf mRo mss msl msh mha mt)) (fun _ => rfl) (by decide) rfl hl.1 rfl (Nat.le_of_ble_eq_true rfl) ⟨Nat.zero_le _, Nat.zero_le _⟩ dX7_doesPair_20 (fun r_ u_ H locs hw hP hD hS => ?_)
      try dsimp only at hw
      subst hw
      have hP : va_P D vwCl (W_M cI cS mA mf mn (if (0 ≤ x ∧ x < 16) ∧ mn ≠ 0 then x else ml) mk mg mls ms mra mrf mrk mrg mrl mrs mo moo moa mp mpp mfi mpl mpo mro mdp mdf mhg mhk mR mRf mRo mss msl msh mha mt) H := hP
      have hD : va_D A (W_M cI cS mA mf mn (if (0 ≤ x ∧ x < 16) ∧ mn ≠ 0 then x else ml) mk mg mls ms mra mrf mrk mrg mrl mrs mo moo moa mp mpp mfi mpl mpo mro mdp mdf mhg mhk mR mRf mRo mss msl msh mha mt) := hD
      refine n_if_lt (tgt := 30) hx hb dX7_doesPair_23 (by decide) (by omega) (fun c_12 => ?_) (fun c_12 => ?_)
      ·
        refine lv_iconst (v := iI 0) hx hb dX7_doesPair_30 (by decide +kernel) ?_
        refine lv_goto (tgt := 51) hx hb dX7_doesPair_31 (by decide) ?_
        have e_13 : (mdp : Int) = (dA mn (sem mk mg ml mls ms) mdp y) := (by unfold dA; first | (by_cases q : y < mn; (rw [if_pos q, if_pos (by omega)]; done); (rw [if_neg q, if_neg (by omega)]; done)) | (rw [if_pos (by omega), if_pos (by omega)]; done) | (rw [if_pos (by omega)]; done) | (rw [if_neg (by omega)]; done) | (rw [if_neg (by omega), if_neg (by omega)]; done) | omega)
        have hP : va_P D vwCl (W_M cI cS mA mf mn (if (0 ≤ x ∧ x < 16) ∧ mn ≠ 0 then x else ml) mk mg mls ms mra mrf mrk mrg mrl mrs mo moo moa mp mpp mfi mpl mpo mro (dA mn (sem mk mg ml mls ms) mdp y) mdf mhg mhk mR mRf mRo mss msl msh mha mt) H := Eq.mp (congrArg (fun z_ => va_P D vwCl (W_M cI cS mA mf mn (if (0 ≤ x ∧ x < 16) ∧ mn ≠ 0 then x else ml) mk mg mls ms mra mrf mrk mrg mrl mrs mo moo moa mp mpp mfi mpl mpo mro z_ mdf mhg mhk mR mRf mRo mss msl msh mha mt) H) e_13) hP
        have hD : va_D A (W_M cI cS mA mf mn (if (0 ≤ x ∧ x < 16) ∧ mn ≠ 0 then x else ml) mk mg mls ms mra mrf mrk mrg mrl mrs mo moo moa mp mpp mfi mpl mpo mro (dA mn (sem mk mg ml mls ms) mdp y) mdf mhg mhk mR mRf mRo mss msl msh mha mt) := Eq.mp (congrArg (fun z_ => va_D A (W_M cI cS mA mf mn (if (0 ≤ x ∧ x < 16) ∧ mn ≠ 0 then x else ml) mk mg mls ms mra mrf mrk mrg mrl mrs mo moo moa mp mpp mfi mpl mpo mro z_ mdf mhg mhk mR mRf mRo mss msl msh mha mt)) e_13) hD
        have e_14 : (mdf : Int) = (dE mn (sem mk mg ml mls ms) mdf y) := (by unfold dE; first | (by_cases q : y < mn; (rw [if_pos q, if_pos (by omega)]; done); (rw [if_neg q, if_neg (by omega)]; done)) | (rw [if_pos (by omega), if_pos (by omega)]; done) | (rw [if_pos (by omega)]; done) | (rw [if_neg (by omega)]; done) | (rw [if_neg (by omega), if_neg (by omega)]; done) | omega)
        have hP : va_P D vwCl (W_M cI cS mA mf mn (if (0 ≤ x ∧ x < 16) ∧ mn ≠ 0 then x else ml) mk mg mls ms mra mrf mrk mrg mrl mrs mo moo moa mp mpp mfi mpl mpo mro (dA mn (sem mk mg ml mls ms) mdp y) (dE mn (sem mk mg ml mls ms) mdf y) mhg mhk mR mRf mRo mss msl msh mha mt) H := Eq.mp (congrArg (fun z_ => va_P D vwCl (W_M cI cS mA mf mn (if (0 ≤ x ∧ x < 16) ∧ mn ≠ 0 then x else ml) mk mg mls ms mra mrf mrk mrg mrl mrs mo moo moa mp mpp mfi mpl mpo mro (dA mn (sem mk mg ml mls ms) mdp y) z_ mhg mhk mR mRf mRo mss msl msh mha mt) H) e_14) hP
        have hD : va_D A (W_M cI cS mA mf mn (if (0 ≤ x ∧ x < 16) ∧ mn ≠ 0 then x else ml) mk mg mls ms mra mrf mrk mrg mrl mrs mo moo moa mp mpp mfi mpl mpo mro (dA mn (sem mk mg ml mls ms) mdp y) (dE mn (sem mk mg ml mls ms) mdf y) mhg mhk mR mRf mRo mss msl msh mha mt) := Eq.mp (congrArg (fun z_ => va_D A (W_M cI cS mA mf mn (if (0 ≤ x ∧ x < 16) ∧ mn ≠ 0 then x else ml) mk mg mls ms mra mrf mrk mrg mrl mrs mo moo moa mp mpp mfi mpl mpo mro (dA mn (sem mk mg ml mls ms) mdp y) z_ mhg mhk mR mRf mRo mss msl msh mha mt)) e_14) hD
        have e_15 : ((if (0 ≤ x ∧ x < 16) ∧ mn ≠ 0 then x else ml) : Int) = (dL ml x y) := (by unfold dL; first | (rw [if_pos (by omega), if_pos (by omega)]; done) | (rw [if_pos (by omega)]; done) | (rw [if_neg (by omega)]; done) | (rw [if_neg (by omega), if_neg (by omega)]; done) | omega)
        have hP : va_P D vwCl (W_M cI cS mA mf mn (dL ml x y) mk mg mls ms mra mrf mrk mrg mrl mrs mo moo moa mp mpp mfi mpl mpo mro (dA mn (sem mk mg ml mls ms) mdp y) (dE mn (sem mk mg ml mls ms) mdf y) mhg mhk mR mRf mRo mss msl msh mha mt) H := Eq.mp (congrArg (fun z_ => va_P D vwCl (W_M cI cS mA mf mn z_ mk mg mls ms mra mrf mrk mrg mrl mrs mo moo moa mp mpp mfi mpl mpo mro (dA mn (sem mk mg ml mls ms) mdp y) (dE mn (sem mk mg ml mls ms) mdf y) mhg mhk mR mRf mRo mss msl msh mha mt) H) e_15) hP
        have hD : va_D A (W_M cI cS mA mf mn (dL ml x y) mk mg mls ms mra mrf mrk mrg mrl mrs mo moo moa mp mpp mfi mpl mpo mro (dA mn (sem mk mg ml mls ms) mdp y) (dE mn (sem mk mg ml mls ms) mdf y) mhg mhk mR mRf mRo mss msl msh mha mt) := Eq.mp (congrArg (fun z_ => va_D A (W_M cI cS mA mf mn z_ mk mg mls ms mra mrf mrk mrg mrl mrs mo moo moa mp mpp mfi mpl mpo mro (dA mn (sem mk mg ml mls ms) mdp y) (dE mn (sem mk mg ml mls ms) mdf y) mhg mhk mR mRf mRo mss msl msh mha mt)) e_15) hD
        have e_16 : (mg : Int → Int) = (dG mn mg x y) := (by unfold dG; first | (rw [if_pos (by omega), if_pos (by omega)]; done) | (rw [if_pos (by omega)]; done) | (rw [if_neg (by omega)]; done) | (rw [if_neg (by omega), if_neg (by omega)]; done) | omega)
        have hP : va_P D vwCl (W_M cI cS mA mf mn (dL ml x y) mk (dG mn mg x y) mls ms mra mrf mrk mrg mrl mrs mo moo moa mp mpp mfi mpl mpo mro (dA mn (sem mk mg ml mls ms) mdp y) (dE mn (sem mk mg ml mls ms) mdf y) mhg mhk mR mRf mRo mss msl msh mha mt) H := Eq.mp (congrArg (fun z_ => va_P D vwCl (W_M cI cS mA mf mn (dL ml x y) mk z_ mls ms mra mrf mrk mrg mrl mrs mo moo moa mp mpp mfi mpl mpo mro (dA mn (sem mk mg ml mls ms) mdp y) (dE mn (sem mk mg ml mls ms) mdf y) mhg mhk mR mRf mRo mss msl msh mha mt) H) e_16) hP
        have hD : va_D A (W_M cI cS mA mf mn (dL ml x y) mk (dG mn mg x y) mls ms mra mrf mrk mrg mrl mrs mo moo moa mp mpp mfi mpl mpo mro (dA mn (sem mk mg ml mls ms) mdp y) (dE mn (sem mk mg ml mls ms) mdf y) mhg mhk mR mRf mRo mss msl msh mha mt) := Eq.mp (congrArg (fun z_ => va_D A (W_M cI cS mA mf mn (dL ml x y) mk z_ mls ms mra mrf mrk mrg mrl mrs mo moo moa mp mpp mfi mpl mpo mro (dA mn (sem mk mg ml mls ms) mdp y) (dE mn (sem mk mg ml mls ms) mdf y) mhg mhk mR mRf mRo mss msl msh mha mt)) e_16) hD
        exact W.zret (v := iI 0) (ty := .boolean) hx hb hr (by decide +kernel) (fun t ht hW => ⟨⟨_, (mo, moo, moa, mp, mpp, mfi, mpl, mpo), rfl, congrArg iI (show 0 = (if dOkB mn (sem mk mg ml mls ms) y = true then 1 else 0) from (by
          unfold dOkB
          first
          | (rw [if_pos (decide_eq_true (by omega))]; done)
          | (rw [if_neg (by rw [decide_eq_false (by omega)]; decide)]; done)
          | (by_cases q : y < mn ∧ (sem mk mg ml mls ms y).1 = 4
             · rw [if_pos q, if_pos (decide_eq_true (by omega))]
             · rw [if_neg q, if_neg (by rw [decide_eq_false (by omega)]; decide)]))), by rw [ht]; exact hP, hD⟩, hS.F ht⟩) hS.2.2 dX7_doesPair_51
      ·
        refine lv_iconst (v := iI 1) hx hb dX7_doesPair_26 (by decide +kernel) ?_
        refine lv_goto (tgt := 51) hx hb dX7_doesPair_27 (by decide) ?_
        have e_17 : (mdp : Int) = (dA mn (sem mk mg ml mls ms) mdp y) := (by unfold dA; first | (by_cases q : y < mn; (rw [if_pos q, if_pos (by omega)]; done); (rw [if_neg q, if_neg (by omega)]; done)) | (rw [if_pos (by omega), if_pos (by omega)]; done) | (rw [if_pos (by omega)]; done) | (rw [if_neg (by omega)]; done) | (rw [if_neg (by omega), if_neg (by omega)]; done) | omega)
        have hP : va_P D vwCl (W_M cI cS mA mf mn (if (0 ≤ x ∧ x < 16) ∧ mn ≠ 0 then x else ml) mk mg mls ms mra mrf mrk mrg mrl mrs mo moo moa mp mpp mfi mpl mpo mro (dA mn (sem mk mg ml mls ms) mdp y) mdf mhg mhk mR mRf mRo mss msl msh mha mt) H := Eq.mp (congrArg (fun z_ => va_P D vwCl (W_M cI cS mA mf mn (if (0 ≤ x ∧ x < 16) ∧ mn ≠ 0 then x else ml) mk mg mls ms mra mrf mrk mrg mrl mrs mo moo moa mp mpp mfi mpl mpo mro z_ mdf mhg mhk mR mRf mRo mss msl msh mha mt) H) e_17) hP
        have hD : va_D A (W_M cI cS mA mf mn (if (0 ≤ x ∧ x < 16) ∧ mn ≠ 0 then x else ml) mk mg mls ms mra mrf mrk mrg mrl mrs mo moo moa mp mpp mfi mpl mpo mro (dA mn (sem mk mg ml mls ms) mdp y) mdf mhg mhk mR mRf mRo mss msl msh mha mt) := Eq.mp (congrArg (fun z_ => va_D A (W_M cI cS mA mf mn (if (0 ≤ x ∧ x < 16) ∧ mn ≠ 0 then x else ml) mk mg mls ms mra mrf mrk mrg mrl mrs mo moo moa mp mpp mfi mpl mpo mro z_ mdf mhg mhk mR mRf mRo mss msl msh mha mt)) e_17) hD
        have e_18 : (mdf : Int) = (dE mn (sem mk mg ml mls ms) mdf y) := (by unfold dE; first | (by_cases q : y < mn; (rw [if_pos q, if_pos (by omega)]; done); (rw [if_neg q, if_neg (by omega)]; done)) | (rw [if_pos (by omega), if_pos (by omega)]; done) | (rw [if_pos (by omega)]; done) | (rw [if_neg (by omega)]; done) | (rw [if_neg (by omega), if_neg (by omega)]; done) | omega)
        have hP : va_P D vwCl (W_M cI cS mA mf mn (if (0 ≤ x ∧ x < 16) ∧ mn ≠ 0 then x else ml) mk mg mls ms mra mrf mrk mrg mrl mrs mo moo moa mp mpp mfi mpl mpo mro (dA mn (sem mk mg ml mls ms) mdp y) (dE mn (sem mk mg ml mls ms) mdf y) mhg mhk mR mRf mRo mss msl msh mha mt) H := Eq.mp (congrArg (fun z_ => va_P D vwCl (W_M cI cS mA mf mn (if (0 ≤ x ∧ x < 16) ∧ mn ≠ 0 then x else ml) mk mg mls ms mra mrf mrk mrg mrl mrs mo moo moa mp mpp mfi mpl mpo mro (dA mn (sem mk mg ml mls ms) mdp y) z_ mhg mhk mR mRf mRo mss msl msh mha mt) H) e_18) hP
        have hD : va_D A (W_M cI cS mA mf mn (if (0 ≤ x ∧ x < 16) ∧ mn ≠ 0 then x else ml) mk mg mls ms mra mrf mrk mrg mrl mrs mo moo moa mp mpp mfi mpl mpo mro (dA mn (sem mk mg ml mls ms) mdp y) (dE mn (sem mk mg ml mls ms) mdf y) mhg mhk mR mRf mRo mss msl msh mha mt) := Eq.mp (congrArg (fun z_ => va_D A (W_M cI cS mA mf mn (if (0 ≤ x ∧ x < 16) ∧ mn ≠ 0 then x else ml) mk mg mls ms mra mrf mrk mrg mrl mrs mo moo moa mp mpp mfi mpl mpo mro (dA mn (sem mk mg ml mls ms) mdp y) z_ mhg mhk mR mRf mRo mss msl msh mha mt)) e_18) hD
        have e_19 : ((if (0 ≤ x ∧ x < 16) ∧ mn ≠ 0 then x else ml) : Int) = (dL ml x y) := (by unfold dL; first | (rw [if_pos (by omega), if_pos (by omega)]; done) | (rw [if_pos (by omega)]; done) | (rw [if_neg (by omega)]; done) | (rw [if_neg (by omega), if_neg (by omega)]; done) | omega)
        have hP : va_P D vwCl (W_M cI cS mA mf mn (dL ml x y) mk mg mls ms mra mrf mrk mrg mrl mrs mo moo moa mp mpp mfi mpl mpo mro (dA mn (sem mk mg ml mls ms) mdp y) (dE mn (sem mk mg ml mls ms) mdf y) mhg mhk mR mRf mRo mss msl msh mha mt) H := Eq.mp (congrArg (fun z_ => va_P D vwCl (W_M cI cS mA mf mn z_ mk mg mls ms mra mrf mrk mrg mrl mrs mo moo moa mp mpp mfi mpl mpo mro (dA mn (sem mk mg ml mls ms) mdp y) (dE mn (sem mk mg ml mls ms) mdf y) mhg mhk mR mRf mRo mss msl msh mha mt) H) e_19) hP
        have hD : va_D A (W_M cI cS mA mf mn (dL ml x y) mk mg mls ms mra mrf mrk mrg mrl mrs mo moo moa mp mpp mfi mpl mpo mro (dA mn (sem mk mg ml mls ms) mdp y) (dE mn (sem mk mg ml mls ms) mdf y) mhg mhk mR mRf mRo mss msl msh mha mt) := Eq.mp (congrArg (fun z_ => va_D A (W_M cI cS mA mf mn z_ mk mg mls ms mra mrf mrk mrg mrl mrs mo moo moa mp mpp mfi mpl mpo mro (dA mn (sem mk mg ml mls ms) mdp y) (dE mn (sem mk mg ml mls ms) mdf y) mhg mhk mR mRf mRo mss msl msh mha mt)) e_19) hD
        have e_20 : (mg : Int → Int) = (dG mn mg x y) := (by unfold dG; first | (rw [if_pos (by omega), if_pos (by omega)]; done) | (rw [if_pos (by omega)]; done) | (rw [if_neg (by omega)]; done) | (rw [if_neg (by omega), if_neg (by omega)]; done) | omega)
        have hP : va_P D vwCl (W_M cI cS mA mf mn (dL ml x y) mk (dG mn mg x y) mls ms mra mrf mrk mrg mrl mrs mo moo moa mp mpp mfi mpl mpo mro (dA mn (sem mk mg ml mls ms) mdp y) (dE mn (sem mk mg ml mls ms) mdf y) mhg mhk mR mRf mRo mss msl msh mha mt) H := Eq.mp (congrArg (fun z_ => va_P D vwCl (W_M cI cS mA mf mn (dL ml x y) mk z_ mls ms mra mrf mrk mrg mrl mrs mo moo moa mp mpp mfi mpl mpo mro (dA mn (sem mk mg ml mls ms) mdp y) (dE mn (sem mk mg ml mls ms) mdf y) mhg mhk mR mRf mRo mss msl msh mha mt) H) e_20) hP
        have hD : va_D A (W_M cI cS mA mf mn (dL ml x y) mk (dG mn mg x y) mls ms mra mrf mrk mrg mrl mrs mo moo moa mp mpp mfi mpl mpo mro (dA mn (sem mk mg ml mls ms) mdp y) (dE mn (sem mk mg ml mls ms) mdf y) mhg mhk mR mRf mRo mss msl msh mha mt) := Eq.mp (congrArg (fun z_ => va_D A (W_M cI cS mA mf mn (dL ml x y) mk z_ mls ms mra mrf mrk mrg mrl mrs mo moo moa mp mpp mfi mpl mpo mro (dA mn (sem mk mg ml mls ms) mdp y) (dE mn (sem mk mg ml mls ms) mdf y) mhg mhk mR mRf mRo mss msl msh mha mt)) e_20) hD
        exact W.zret (v := iI 1) (ty := .boolean) hx hb hr (by decide +kernel) (fun t ht hW => ⟨⟨_, (mo, moo, moa, mp, mpp, mfi, mpl, mpo), rfl, congrArg iI (show 1 = (if dOkB mn (sem mk mg ml mls ms) y = true then 1 else 0) from (by
          unfold dOkB
          first
          | (rw [if_pos (decide_eq_true (by omega))]; done)
          | (rw [if_neg (by rw [decide_eq_false (by omega)]; decide)]; done)
          | (by_cases q : y < mn ∧ (sem mk mg ml mls ms y).1 = 4
             · rw [if_pos q, if_pos (decide_eq_true (by omega))]
             · rw [if_neg q, if_neg (by rw [decide_eq_false (by omega)]; decide)]))), by rw [ht]; exact hP, hD⟩, hS.F ht⟩) hS.2.2 dX7_doesPair_51
  ·
    refine lv_aload_n hx hb dX7_doesPair_5 rfl (lv_at hl 0 rfl) ?_
    refine lv_iload_n hx hb dX7_doesPair_6 rfl (lv_at hl 2 rfl) ?_
    refine x_callVi (As := [.int (iI y)]) (rest := []) ⟨hx, hb, hml, hown, hts⟩ (c_X7_runsOnly l D cI cS mA mf mn ml mk mg mls ms mra mrf mrk mrg mrl mrs mo moo moa mp mpp mfi mpl mpo mro mdp mdf mhg mhk mR mRf mRo mss msl msh mha mt s.heap.size y (by first | assumption | omega) (by first | assumption | omega) (by omega)) (cwV 1 hts gX7_doesPair_X7_runsOnly rfl rfl rfl (by decide +kernel) ⟨Nat.le_of_ble_eq_true rfl, Nat.le_of_ble_eq_true rfl⟩) hK hP hD hS hA [0, 1, 2, 3, 4, 5, 6, 7, 8, 9, 10, 11, 12, 13, 14, 15, 16, 17, 18, 19, 20, 21] [] (wr := ([] : va_W)) rfl rfl (by decide) (by decide) (by decide) 0 7 rfl rfl rfl [0, 1, 2, 3, 4, 5, 6, 7, 8, 9, 10, 11, 12, 13, 14, 15, 16, 17, 18, 19, 20, 21] (fun (u : Int × (Int → Int) × (Int → Int) × Int × (Int → Int) × Int × Int × (Int → Int)) => (W_M cI cS mA mf mn ml mk mg mls ms mra mrf mrk mrg mrl mrs u.1 u.2.1 u.2.2.1 u.2.2.2.1 u.2.2.2.2.1 u.2.2.2.2.2.1 u.2.2.2.2.2.2.1 u.2.2.2.2.2.2.2 mro (if y < mn then mdp + ((sem mk mg ml mls ms y).2.1.length : Int) else mdp) (if y < mn then mdf + (sem mk mg ml mls ms y).2.2.1 else mdf) mhg mhk mR mRf mRo mss msl msh mha mt)) (fun _ => rfl) (by decide) rfl hl.1 rfl (Nat.le_of_ble_eq_true rfl) ⟨Nat.zero_le _, Nat.zero_le _⟩ dX7_doesPair_7 (fun r_ u_ H locs hw hP hD hS => ?_)
    obtain ⟨mo_21, moo_22, moa_23, mp_24, mpp_25, mfi_26, mpl_27, mpo_28⟩ := u_
    try dsimp only at hw
    subst hw
    have hP : va_P D vwCl (W_M cI cS mA mf mn ml mk mg mls ms mra mrf mrk mrg mrl mrs mo_21 moo_22 moa_23 mp_24 mpp_25 mfi_26 mpl_27 mpo_28 mro (if y < mn then mdp + ((sem mk mg ml mls ms y).2.1.length : Int) else mdp) (if y < mn then mdf + (sem mk mg ml mls ms y).2.2.1 else mdf) mhg mhk mR mRf mRo mss msl msh mha mt) H := hP
    have hD : va_D A (W_M cI cS mA mf mn ml mk mg mls ms mra mrf mrk mrg mrl mrs mo_21 moo_22 moa_23 mp_24 mpp_25 mfi_26 mpl_27 mpo_28 mro (if y < mn then mdp + ((sem mk mg ml mls ms y).2.1.length : Int) else mdp) (if y < mn then mdf + (sem mk mg ml mls ms y).2.2.1 else mdf) mhg mhk mR mRf mRo mss msl msh mha mt) := hD
    refine lv_goto (tgt := 51) hx hb dX7_doesPair_10 (by decide) ?_
    have e_29 : ((if y < mn then mdp + ((sem mk mg ml mls ms y).2.1.length : Int) else mdp) : Int) = (dA mn (sem mk mg ml mls ms) mdp y) := (by unfold dA; first | (by_cases q : y < mn; (rw [if_pos q, if_pos (by omega)]; done); (rw [if_neg q, if_neg (by omega)]; done)) | (rw [if_pos (by omega), if_pos (by omega)]; done) | (rw [if_pos (by omega)]; done) | (rw [if_neg (by omega)]; done) | (rw [if_neg (by omega), if_neg (by omega)]; done) | omega)
    have hP : va_P D vwCl (W_M cI cS mA mf mn ml mk mg mls ms mra mrf mrk mrg mrl mrs mo_21 moo_22 moa_23 mp_24 mpp_25 mfi_26 mpl_27 mpo_28 mro (dA mn (sem mk mg ml mls ms) mdp y) (if y < mn then mdf + (sem mk mg ml mls ms y).2.2.1 else mdf) mhg mhk mR mRf mRo mss msl msh mha mt) H := Eq.mp (congrArg (fun z_ => va_P D vwCl (W_M cI cS mA mf mn ml mk mg mls ms mra mrf mrk mrg mrl mrs mo_21 moo_22 moa_23 mp_24 mpp_25 mfi_26 mpl_27 mpo_28 mro z_ (if y < mn then mdf + (sem mk mg ml mls ms y).2.2.1 else mdf) mhg mhk mR mRf mRo mss msl msh mha mt) H) e_29) hP
    have hD : va_D A (W_M cI cS mA mf mn ml mk mg mls ms mra mrf mrk mrg mrl mrs mo_21 moo_22 moa_23 mp_24 mpp_25 mfi_26 mpl_27 mpo_28 mro (dA mn (sem mk mg ml mls ms) mdp y) (if y < mn then mdf + (sem mk mg ml mls ms y).2.2.1 else mdf) mhg mhk mR mRf mRo mss msl msh mha mt) := Eq.mp (congrArg (fun z_ => va_D A (W_M cI cS mA mf mn ml mk mg mls ms mra mrf mrk mrg mrl mrs mo_21 moo_22 moa_23 mp_24 mpp_25 mfi_26 mpl_27 mpo_28 mro z_ (if y < mn then mdf + (sem mk mg ml mls ms y).2.2.1 else mdf) mhg mhk mR mRf mRo mss msl msh mha mt)) e_29) hD
    have e_30 : ((if y < mn then mdf + (sem mk mg ml mls ms y).2.2.1 else mdf) : Int) = (dE mn (sem mk mg ml mls ms) mdf y) := (by unfold dE; first | (by_cases q : y < mn; (rw [if_pos q, if_pos (by omega)]; done); (rw [if_neg q, if_neg (by omega)]; done)) | (rw [if_pos (by omega), if_pos (by omega)]; done) | (rw [if_pos (by omega)]; done) | (rw [if_neg (by omega)]; done) | (rw [if_neg (by omega), if_neg (by omega)]; done) | omega)
    have hP : va_P D vwCl (W_M cI cS mA mf mn ml mk mg mls ms mra mrf mrk mrg mrl mrs mo_21 moo_22 moa_23 mp_24 mpp_25 mfi_26 mpl_27 mpo_28 mro (dA mn (sem mk mg ml mls ms) mdp y) (dE mn (sem mk mg ml mls ms) mdf y) mhg mhk mR mRf mRo mss msl msh mha mt) H := Eq.mp (congrArg (fun z_ => va_P D vwCl (W_M cI cS mA mf mn ml mk mg mls ms mra mrf mrk mrg mrl mrs mo_21 moo_22 moa_23 mp_24 mpp_25 mfi_26 mpl_27 mpo_28 mro (dA mn (sem mk mg ml mls ms) mdp y) z_ mhg mhk mR mRf mRo mss msl msh mha mt) H) e_30) hP
    have hD : va_D A (W_M cI cS mA mf mn ml mk mg mls ms mra mrf mrk mrg mrl mrs mo_21 moo_22 moa_23 mp_24 mpp_25 mfi_26 mpl_27 mpo_28 mro (dA mn (sem mk mg ml mls ms) mdp y) (dE mn (sem mk mg ml mls ms) mdf y) mhg mhk mR mRf mRo mss msl msh mha mt) := Eq.mp (congrArg (fun z_ => va_D A (W_M cI cS mA mf mn ml mk mg mls ms mra mrf mrk mrg mrl mrs mo_21 moo_22 moa_23 mp_24 mpp_25 mfi_26 mpl_27 mpo_28 mro (dA mn (sem mk mg ml mls ms) mdp y) z_ mhg mhk mR mRf mRo mss msl msh mha mt)) e_30) hD
    have e_31 : (ml : Int) = (dL ml x y) := (by unfold dL; first | (rw [if_pos (by omega), if_pos (by omega)]; done) | (rw [if_pos (by omega)]; done) | (rw [if_neg (by omega)]; done) | (rw [if_neg (by omega), if_neg (by omega)]; done) | omega)
    have hP : va_P D vwCl (W_M cI cS mA mf mn (dL ml x y) mk mg mls ms mra mrf mrk mrg mrl mrs mo_21 moo_22 moa_23 mp_24 mpp_25 mfi_26 mpl_27 mpo_28 mro (dA mn (sem mk mg ml mls ms) mdp y) (dE mn (sem mk mg ml mls ms) mdf y) mhg mhk mR mRf mRo mss msl msh mha mt) H := Eq.mp (congrArg (fun z_ => va_P D vwCl (W_M cI cS mA mf mn z_ mk mg mls ms mra mrf mrk mrg mrl mrs mo_21 moo_22 moa_23 mp_24 mpp_25 mfi_26 mpl_27 mpo_28 mro (dA mn (sem mk mg ml mls ms) mdp y) (dE mn (sem mk mg ml mls ms) mdf y) mhg mhk mR mRf mRo mss msl msh mha mt) H) e_31) hP
    have hD : va_D A (W_M cI cS mA mf mn (dL ml x y) mk mg mls ms mra mrf mrk mrg mrl mrs mo_21 moo_22 moa_23 mp_24 mpp_25 mfi_26 mpl_27 mpo_28 mro (dA mn (sem mk mg ml mls ms) mdp y) (dE mn (sem mk mg ml mls ms) mdf y) mhg mhk mR mRf mRo mss msl msh mha mt) := Eq.mp (congrArg (fun z_ => va_D A (W_M cI cS mA mf mn z_ mk mg mls ms mra mrf mrk mrg mrl mrs mo_21 moo_22 moa_23 mp_24 mpp_25 mfi_26 mpl_27 mpo_28 mro (dA mn (sem mk mg ml mls ms) mdp y) (dE mn (sem mk mg ml mls ms) mdf y) mhg mhk mR mRf mRo mss msl msh mha mt)) e_31) hD
    have e_32 : (mg : Int → Int) = (dG mn mg x y) := (by unfold dG; first | (rw [if_pos (by omega), if_pos (by omega)]; done) | (rw [if_pos (by omega)]; done) | (rw [if_neg (by omega)]; done) | (rw [if_neg (by omega), if_neg (by omega)]; done) | omega)
    have hP : va_P D vwCl (W_M cI cS mA mf mn (dL ml x y) mk (dG mn mg x y) mls ms mra mrf mrk mrg mrl mrs mo_21 moo_22 moa_23 mp_24 mpp_25 mfi_26 mpl_27 mpo_28 mro (dA mn (sem mk mg ml mls ms) mdp y) (dE mn (sem mk mg ml mls ms) mdf y) mhg mhk mR mRf mRo mss msl msh mha mt) H := Eq.mp (congrArg (fun z_ => va_P D vwCl (W_M cI cS mA mf mn (dL ml x y) mk z_ mls ms mra mrf mrk mrg mrl mrs mo_21 moo_22 moa_23 mp_24 mpp_25 mfi_26 mpl_27 mpo_28 mro (dA mn (sem mk mg ml mls ms) mdp y) (dE mn (sem mk mg ml mls ms) mdf y) mhg mhk mR mRf mRo mss msl msh mha mt) H) e_32) hP
    have hD : va_D A (W_M cI cS mA mf mn (dL ml x y) mk (dG mn mg x y) mls ms mra mrf mrk mrg mrl mrs mo_21 moo_22 moa_23 mp_24 mpp_25 mfi_26 mpl_27 mpo_28 mro (dA mn (sem mk mg ml mls ms) mdp y) (dE mn (sem mk mg ml mls ms) mdf y) mhg mhk mR mRf mRo mss msl msh mha mt) := Eq.mp (congrArg (fun z_ => va_D A (W_M cI cS mA mf mn (dL ml x y) mk z_ mls ms mra mrf mrk mrg mrl mrs mo_21 moo_22 moa_23 mp_24 mpp_25 mfi_26 mpl_27 mpo_28 mro (dA mn (sem mk mg ml mls ms) mdp y) (dE mn (sem mk mg ml mls ms) mdf y) mhg mhk mR mRf mRo mss msl msh mha mt)) e_32) hD
    exact W.zret (v := iI (if y < mn ∧ (sem mk mg ml mls ms y).1 = 4 then 1 else 0)) (ty := .boolean) hx hb hr (by split <;> decide +kernel) (fun t ht hW => ⟨⟨_, (mo_21, moo_22, moa_23, mp_24, mpp_25, mfi_26, mpl_27, mpo_28), rfl, congrArg iI (show (if y < mn ∧ (sem mk mg ml mls ms y).1 = 4 then 1 else 0) = (if dOkB mn (sem mk mg ml mls ms) y = true then 1 else 0) from (by
          unfold dOkB
          first
          | (rw [if_pos (decide_eq_true (by omega))]; done)
          | (rw [if_neg (by rw [decide_eq_false (by omega)]; decide)]; done)
          | (by_cases q : y < mn ∧ (sem mk mg ml mls ms y).1 = 4
             · rw [if_pos q, if_pos (decide_eq_true (by omega))]
             · rw [if_neg q, if_neg (by rw [decide_eq_false (by omega)]; decide)]))), by rw [ht]; exact hP, hD⟩, hS.F ht⟩) hS.2.2 dX7_doesPair_51
set_option maxHeartbeats 4000000 in
set_option maxRecDepth 100000 in
theorem c_X7_allRows (l : Launch) (D : va_G) (cI cS : ClassId) (mA : Nat → Nat) (mf : Int) (mn : Int) (ml : Int) (mk : Int → Int) (mg : Int → Int) (mls : Int → Int) (ms : Int → Int) (mra : Int) (mrf : Int) (mrk : Int → Int) (mrg : Int → Int) (mrl : Int → Int) (mrs : Int → Int) (mo : Int) (moo : Int → Int) (moa : Int → Int) (mp : Int) (mpp : Int → Int) (mfi : Int) (mpl : Int) (mpo : Int → Int) (mro : Int → Int) (mdp : Int) (mdf : Int) (mhg : Int → Int) (mhk : Int → Int) (mR : Int) (mRf : Int → Int) (mRo : Int → Int) (mss : Int → Int) (msl : Int → Int) (msh : Int → Int) (mha : Int → Int) (mt : Int) (sz : Nat) (hok : okP mn mls ms) (hkk : okK mn mk mg ml) : Met l yX7_allRows wsX7_allRows ({ frames := 1, cells := 0, slots := 0, locals := 24 }) (cP D cI cS (W_M cI cS mA mf mn ml mk mg mls ms mra mrf mrk mrg mrl mrs mo moo moa mp mpp mfi mpl mpo mro mdp mdf mhg mhk mR mRf mRo mss msl msh mha mt) sz [.ref (mA 0)]) (va_Qi (fun (r : Int32) (u : (Int → Int)) => r = iI (orAll (rowS mk mg mls ms) mn.toNat)) (fun (u : (Int → Int)) t => cB D (va_A (W_M cI cS mA mf mn ml mk mg mls ms mra mrf mrk mrg mrl mrs mo moo moa mp mpp mfi mpl mpo mro mdp mdf mhg mhk mR mRf mRo mss msl msh mha mt) sz) (W_M cI cS mA mf mn ml mk mg mls ms mra mrf mrk mrg mrl mrs mo moo moa mp mpp mfi mpl mpo u mdp mdf mhg mhk mR mRf mRo mss msl msh mha mt) t) (va_A (W_M cI cS mA mf mn ml mk mg mls ms mra mrf mrk mrg mrl mrs mo moo moa mp mpp mfi mpl mpo mro mdp mdf mhg mhk mR mRf mRo mss msl msh mha mt) sz)) 0 0 (va_A (W_M cI cS mA mf mn ml mk mg mls ms mra mrf mrk mrg mrl mrs mo moo moa mp mpp mfi mpl mpo mro mdp mdf mhg mhk mR mRf mRo mss msl msh mha mt) sz) := by
  refine Met.ofW (cc := cX7_allRows) (maxL := 3) (ret := (some .int)) (by decide) rfl ?_
  intro p e s m args below meth c_ s₁ B hml hv
  obtain ⟨rfl, hsz, hP, hK, hD0⟩ := hv
  have hx := B.exec
  have hb := B.bytes
  have hr := B.returns
  have hts := atoms_spec (ws := wsX7_allRows) B.pre
  have hown : s.vm.findClass RX7 = some m.cls := findClass_of_methodNamed B.named
  have hlocks := B.notSynchronized
  subst hsz
  have hD := hD0.self (sz := s.heap.size)
  generalize hAe : va_A (W_M cI cS mA mf mn ml mk mg mls ms mra mrf mrk mrg mrl mrs mo moo moa mp mpp mfi mpl mpo mro mdp mdf mhg mhk mR mRf mRo mss msl msh mha mt) s.heap.size = A at hD ⊢
  have hA : ∀ q : Nat, s.heap.size ≤ q → A q := fun q h => by rw [← hAe]; exact Or.inr h
  have hS : va_S A s.heap s.heap [] := va_S.rf
  have hP : va_P D vwCl (W_M cI cS mA mf mn ml mk mg mls ms mra mrf mrk mrg mrl mrs mo moo moa mp mpp mfi mpl mpo mro mdp mdf mhg mhk mR mRf mRo mss msl msh mha mt) s.heap := hP
  have hl := lv_entry ([.ref (mA 0)] : List Value) (n := 3) (Nat.le_of_ble_eq_true rfl)
  rw [lg_entry_eq]
  generalize (lg_sl ([.ref (mA 0)] : List Value) ++ List.replicate (3 - (lg_sl ([.ref (mA 0)] : List Value)).length) Slot.unset).toArray = ls at hl ⊢
  have hl : lv_has ls 3 [(0, .ref (mA 0))] := hl
  have fl_83 := hts (.fieldLink RX7 83 "ActRowsModel" "functions" "I") (by decide +kernel)
  have iw_7 : ∀ w ∈ wsX70, w ∈ wsX7_allRows := by decide +kernel
  have fl_46 := hts (.fieldLink RX7 46 "ActRowsModel" "rowOf" "[I") (by decide +kernel)
  have hmn := hok.1
  have hln := hok.2.1
  refine lv_aload_n hx hb dX7_allRows_0 rfl (lv_at hl 0 rfl) ?_
  refine x_callVv (As := []) (rest := []) ⟨hx, hb, hml, hown, hts⟩ (c_X7_rows l D cI cS mA mf mn ml mk mg mls ms mra mrf mrk mrg mrl mrs mo moo moa mp mpp mfi mpl mpo mro mdp mdf mhg mhk mR mRf mRo mss msl msh mha mt s.heap.size (by first | assumption | omega) (by first | assumption | omega)) (cwV 0 hts gX7_allRows_X7_rows rfl rfl rfl (by decide +kernel) ⟨Nat.le_of_ble_eq_true rfl, Nat.le_of_ble_eq_true rfl⟩) hK hP hD hS hA [0, 1, 2, 3, 4, 5, 6, 7, 8, 9, 10, 11, 12, 13, 14, 15, 16, 17, 18, 19, 20, 21] [] (wr := ([] : va_W)) rfl rfl (by decide) (by decide) (by decide) 0 7 rfl rfl rfl [0, 1, 2, 3, 4, 5, 6, 7, 8, 9, 10, 11, 12, 13, 14, 15, 16, 17, 18, 19, 20, 21] (fun (u : (Int → Int)) => (W_M cI cS mA mf mn ml mk mg mls ms mra mrf mrk mrg mrl mrs mo moo moa mp mpp mfi mpl mpo u mdp mdf mhg mhk mR mRf mRo mss msl msh mha mt)) (fun _ => rfl) (by decide) rfl hl.1 rfl (Nat.le_of_ble_eq_true rfl) ⟨Nat.zero_le _, Nat.zero_le _⟩ dX7_allRows_1 (fun u_ H locs hw hP hD hS => ?_)
  obtain ⟨mro2, eu_⟩ : ∃ z, z = u_ := ⟨_, rfl⟩
  subst eu_
  try dsimp only at hw
  have hR2 := hw
  have hP : va_P D vwCl (W_M cI cS mA mf mn ml mk mg mls ms mra mrf mrk mrg mrl mrs mo moo moa mp mpp mfi mpl mpo mro2 mdp mdf mhg mhk mR mRf mRo mss msl msh mha mt) H := hP
  have hD : va_D A (W_M cI cS mA mf mn ml mk mg mls ms mra mrf mrk mrg mrl mrs mo moo moa mp mpp mfi mpl mpo mro2 mdp mdf mhg mhk mR mRf mRo mss msl msh mha mt) := hD
  refine lv_iconst (v := iI 0) hx hb dX7_allRows_4 (by decide +kernel) ?_
  refine lv_istore_n (lv' := [(1, .int (iI 0)), (0, .ref (mA 0))]) hx hb dX7_allRows_5 rfl hl (by decide) rfl (fun ls hl => ?_)
  refine lv_iconst (v := iI 0) hx hb dX7_allRows_6 (by decide +kernel) ?_
  refine lv_istore_n (lv' := [(2, .int (iI 0)), (1, .int (iI 0)), (0, .ref (mA 0))]) hx hb dX7_allRows_7 rfl hl (by decide) rfl (fun ls hl => ?_)
  refine x_loop (σ := Int × Int) (fun (xv_ : Int × Int) => match xv_ with | (al, f) => (0 ≤ f ∧ f ≤ mn) ∧ (al = orAll (rowS mk mg mls ms) f.toNat)) (fun (xv_ : Int × Int) => match xv_ with | (al, f) => (mn - f).toNat) (fun (xv_ : Int × Int) => match xv_ with | (al, f) => (W_M cI cS mA mf mn ml mk mg mls ms mra mrf mrk mrg mrl mrs mo moo moa mp mpp mfi mpl mpo mro2 mdp mdf mhg mhk mR mRf mRo mss msl msh mha mt)) (fun (xv_ : Int × Int) => match xv_ with | (al, f) => [(2, .int (iI f)), (1, .int (iI al)), (0, .ref (mA 0))]) (nL := 3) ?step_1 (0, 0) (by (try dsimp only); exact ⟨by omega, rfl⟩) hP hD hS hl
  case step_1 =>
    intro xv_ hI ih H locs ls hP hD hS hl
    obtain ⟨al, f⟩ := xv_
    try dsimp only at hI ih
    obtain ⟨hf, ha⟩ := hI
    have hP : va_P D vwCl (W_M cI cS mA mf mn ml mk mg mls ms mra mrf mrk mrg mrl mrs mo moo moa mp mpp mfi mpl mpo mro2 mdp mdf mhg mhk mR mRf mRo mss msl msh mha mt) H := hP
    have hD : va_D A (W_M cI cS mA mf mn ml mk mg mls ms mra mrf mrk mrg mrl mrs mo moo moa mp mpp mfi mpl mpo mro2 mdp mdf mhg mhk mR mRf mRo mss msl msh mha mt) := hD
    have hl : lv_has ls 3 [(2, .int (iI f)), (1, .int (iI al)), (0, .ref (mA 0))] := hl
    have har := orAll_rng (r := rowS mk mg mls ms) f.toNat (fun j a b => rowS_rng hok (fun j a b => (hkk.1 j a b).2) j a (by omega))
    rw [← ha] at har
    have ih_2 := ih
    refine lv_iload_n hx hb dX7_allRows_8 rfl (lv_at hl 0 rfl) ?_
    refine lv_aload_n hx hb dX7_allRows_9 rfl (lv_at hl 2 rfl) ?_
    refine va_get (D := D) (ci := 7) (v := .int (iI mn)) (C := RX7) (T := TX7) (N := 34) hx hb hts iw_7 hown hK.1 hP 0 rfl rfl 1 (by decide) fl_83 (fun _ h9 => h9) rfl dX7_allRows_10 ?_
    refine n_icmp_ge (tgt := 31) hx hb dX7_allRows_13 (by decide) (by omega) (fun c_3 => ?_) (fun c_3 => ?_)
    ·
      refine lv_iload_n hx hb dX7_allRows_31 rfl (lv_at hl 1 rfl) ?_
      exact W.iret (v := iI al) hx hb hr (fun t ht hW => ⟨⟨_, (mro2), rfl, congrArg iI (show al = (orAll (rowS mk mg mls ms) mn.toNat) from (by rw [ha, show f = mn by omega])), by rw [ht]; exact hP, hD⟩, hS.F ht⟩) hS.2.2 dX7_allRows_32
    ·
      refine lv_iload_n hx hb dX7_allRows_16 rfl (lv_at hl 1 rfl) ?_
      refine lv_aload_n hx hb dX7_allRows_17 rfl (lv_at hl 2 rfl) ?_
      refine va_get (D := D) (ci := 7) (v := .ref (mA 13)) (C := RX7) (T := TX7) (N := 34) hx hb hts iw_7 hown hK.1 hP 0 rfl rfl 21 (by decide) fl_46 (fun _ h9 => h9) rfl dX7_allRows_18 ?_
      refine lv_iload_n hx hb dX7_allRows_21 rfl (lv_at hl 0 rfl) ?_
      have hp2 := rowS_rng (K := mk) hok (fun j a b => (hkk.1 j a b).2) f hf.1 (by omega)
      rw [← hR2 f hf.1 (by omega)] at hp2
      refine n_iald (n := 5) hx hb hK.1 hP 13 0 rfl rfl (by omega) (by decide) dX7_allRows_22 ?_
      refine n_ior (z := (orI al (mro2 f))) (b_or (by omega)) hx hb dX7_allRows_23 ?_
      refine lv_istore_n (lv' := [(1, .int (iI (orI al (mro2 f)))), (2, .int (iI f)), (0, .ref (mA 0))]) hx hb dX7_allRows_24 rfl hl (by decide) rfl (fun ls hl => ?_)
      refine n_iinc (lv' := [(2, .int (iI (f + 1))), (1, .int (iI (orI al (mro2 f)))), (0, .ref (mA 0))]) hx hb dX7_allRows_25 hl (k := 1) rfl (by decide) rfl (fun ls hl => ?_)
      refine lv_goto (tgt := 8) hx hb dX7_allRows_28 (by decide) ?_
      exact ih_2 ((orI al (mro2 f)), (f + 1)) (by (try dsimp only); exact ⟨by omega, by rw [orAll_s _ hf.1, ← ha, ← hR2 f hf.1 (by omega)]⟩) (by (try dsimp only); exact (by omega)) _ _ _ hP hD hS (lv_sub hl [0, 1, 2] rfl)
set_option maxHeartbeats 4000000 in
set_option maxRecDepth 100000 in
theorem c_X7_dayOf (l : Launch) (D : va_G) (cI cS : ClassId) (mA : Nat → Nat) (mf : Int) (mn : Int) (ml : Int) (mk : Int → Int) (mg : Int → Int) (mls : Int → Int) (ms : Int → Int) (mra : Int) (mrf : Int) (mrk : Int → Int) (mrg : Int → Int) (mrl : Int → Int) (mrs : Int → Int) (mo : Int) (moo : Int → Int) (moa : Int → Int) (mp : Int) (mpp : Int → Int) (mfi : Int) (mpl : Int) (mpo : Int → Int) (mro : Int → Int) (mdp : Int) (mdf : Int) (mhg : Int → Int) (mhk : Int → Int) (mR : Int) (mRf : Int → Int) (mRo : Int → Int) (mss : Int → Int) (msl : Int → Int) (msh : Int → Int) (mha : Int → Int) (mt : Int) (sz : Nat) (fo : Int) (n : Int) (w : Int) (hok : okP mn mls ms) (hkk : okK mn mk mg ml) (hm1 : 1 ≤ mn) (hfo : 0 ≤ fo ∧ 0 ≤ n ∧ n ≤ 20 ∧ fo + 2 * n ≤ 240) (htl : tldB (fun j => msh (fo + j)) n.toNat = true) (hw_ : (0 ≤ w ∧ w ≤ 4) ∨ (10 ≤ w ∧ w < 15)) : Met l yX7_dayOf wsX7_dayOf ({ frames := 6, cells := 0, slots := 0, locals := 133 }) (cP D cI cS (W_M cI cS mA mf mn ml mk mg mls ms mra mrf mrk mrg mrl mrs mo moo moa mp mpp mfi mpl mpo mro mdp mdf mhg mhk mR mRf mRo mss msl msh mha mt) sz [.ref (mA 0), .int (iI fo), .int (iI n), .int (iI w)]) (va_Qi (fun (r : Int32) (u : Int × Int × Int × (Int → Int) × Int × (Int → Int) × (Int → Int) × Int × (Int → Int) × Int × Int × (Int → Int) × (Int → Int)) => r = iI (dAns mn mk mls ms (dRun mk mls ms mn (fun j => msh (fo + j)) n.toNat 0 ml mg 0 0) w)) (fun (u : Int × Int × Int × (Int → Int) × Int × (Int → Int) × (Int → Int) × Int × (Int → Int) × Int × Int × (Int → Int) × (Int → Int)) t => cB D (va_A (W_M cI cS mA mf mn ml mk mg mls ms mra mrf mrk mrg mrl mrs mo moo moa mp mpp mfi mpl mpo mro mdp mdf mhg mhk mR mRf mRo mss msl msh mha mt) sz) (W_M cI cS mA mf mn u.2.2.1 mk u.2.2.2.1 mls ms mra mrf mrk mrg mrl mrs u.2.2.2.2.1 u.2.2.2.2.2.1 u.2.2.2.2.2.2.1 u.2.2.2.2.2.2.2.1 u.2.2.2.2.2.2.2.2.1 u.2.2.2.2.2.2.2.2.2.1 u.2.2.2.2.2.2.2.2.2.2.1 u.2.2.2.2.2.2.2.2.2.2.2.1 u.2.2.2.2.2.2.2.2.2.2.2.2 u.1 u.2.1 mhg mhk mR mRf mRo mss msl msh mha mt) t) (va_A (W_M cI cS mA mf mn ml mk mg mls ms mra mrf mrk mrg mrl mrs mo moo moa mp mpp mfi mpl mpo mro mdp mdf mhg mhk mR mRf mRo mss msl msh mha mt) sz)) 0 0 (va_A (W_M cI cS mA mf mn ml mk mg mls ms mra mrf mrk mrg mrl mrs mo moo moa mp mpp mfi mpl mpo mro mdp mdf mhg mhk mR mRf mRo mss msl msh mha mt) sz) := by
  refine Met.ofW (cc := cX7_dayOf) (maxL := 6) (ret := (some .int)) (by decide) rfl ?_
  intro p e s m args below meth c_ s₁ B hml hv
  obtain ⟨rfl, hsz, hP, hK, hD0⟩ := hv
  have hx := B.exec
  have hb := B.bytes
  have hr := B.returns
  have hts := atoms_spec (ws := wsX7_dayOf) B.pre
  have hown : s.vm.findClass RX7 = some m.cls := findClass_of_methodNamed B.named
  have hlocks := B.notSynchronized
  subst hsz
  have hD := hD0.self (sz := s.heap.size)
  generalize hAe : va_A (W_M cI cS mA mf mn ml mk mg mls ms mra mrf mrk mrg mrl mrs mo moo moa mp mpp mfi mpl mpo mro mdp mdf mhg mhk mR mRf mRo mss msl msh mha mt) s.heap.size = A at hD ⊢
  have hA : ∀ q : Nat, s.heap.size ≤ q → A q := fun q h => by rw [← hAe]; exact Or.inr h
  have hS : va_S A s.heap s.heap [] := va_S.rf
  have hP : va_P D vwCl (W_M cI cS mA mf mn ml mk mg mls ms mra mrf mrk mrg mrl mrs mo moo moa mp mpp mfi mpl mpo mro mdp mdf mhg mhk mR mRf mRo mss msl msh mha mt) s.heap := hP
  have hl := lv_entry ([.ref (mA 0), .int (iI fo), .int (iI n), .int (iI w)] : List Value) (n := 6) (Nat.le_of_ble_eq_true rfl)
  rw [lg_entry_eq]
  generalize (lg_sl ([.ref (mA 0), .int (iI fo), .int (iI n), .int (iI w)] : List Value) ++ List.replicate (6 - (lg_sl ([.ref (mA 0), .int (iI fo), .int (iI n), .int (iI w)] : List Value)).length) Slot.unset).toArray = ls at hl ⊢
  have hl : lv_has ls 6 [(0, .ref (mA 0)), (1, .int (iI fo)), (2, .int (iI n)), (3, .int (iI w))] := hl
  have fl_204 := hts (.fieldLink RX7 204 "ActRowsModel" "dayPerformed" "I") (by decide +kernel)
  have iw_7 : ∀ w ∈ wsX70, w ∈ wsX7_dayOf := by decide +kernel
  have fl_207 := hts (.fieldLink RX7 207 "ActRowsModel" "dayFinished" "I") (by decide +kernel)
  have fl_142 := hts (.fieldLink RX7 142 "ActRowsModel" "liveNow" "I") (by decide +kernel)
  have fl_13 := hts (.fieldLink RX7 13 "ActRowsModel" "guardOf" "[I") (by decide +kernel)
  have fl_67 := hts (.fieldLink RX7 67 "ActRowsModel" "sheet" "[I") (by decide +kernel)
  have hmn := hok.1
  have hln := hok.2.1
  refine lv_bipush (v := iI (-9)) hx hb dX7_dayOf_0 (by decide +kernel) ?_
  refine lv_istore (lv' := [(4, .int (iI (-9))), (0, .ref (mA 0)), (1, .int (iI fo)), (2, .int (iI n)), (3, .int (iI w))]) hx hb dX7_dayOf_2 hl (by decide) rfl (fun ls hl => ?_)
  refine lv_aload_n hx hb dX7_dayOf_4 rfl (lv_at hl 1 rfl) ?_
  refine lv_iconst (v := iI 0) hx hb dX7_dayOf_5 (by decide +kernel) ?_
  refine va_put (D := D) (ci := 7) (v := .int (iI 0)) (ty := .int) (C := RX7) (T := TX7) (N := 34) hx hb hts iw_7 tyX7 tyX7_ok nmX7 hown hK.1 hP hD hS 0 rfl rfl 22 (by decide) fl_204 (fun _ h9 => h9) rfl (by decide +kernel) rfl rfl (Nat.le_of_ble_eq_true rfl) dX7_dayOf_6 (fun H locs hP hD hS => ?_)
  have hP : va_P D vwCl (W_M cI cS mA mf mn ml mk mg mls ms mra mrf mrk mrg mrl mrs mo moo moa mp mpp mfi mpl mpo mro 0 mdf mhg mhk mR mRf mRo mss msl msh mha mt) H := hP
  have hD : va_D A (W_M cI cS mA mf mn ml mk mg mls ms mra mrf mrk mrg mrl mrs mo moo moa mp mpp mfi mpl mpo mro 0 mdf mhg mhk mR mRf mRo mss msl msh mha mt) := hD
  refine lv_aload_n hx hb dX7_dayOf_9 rfl (lv_at hl 1 rfl) ?_
  refine lv_iconst (v := iI 0) hx hb dX7_dayOf_10 (by decide +kernel) ?_
  refine va_put (D := D) (ci := 7) (v := .int (iI 0)) (ty := .int) (C := RX7) (T := TX7) (N := 34) hx hb hts iw_7 tyX7 tyX7_ok nmX7 hown hK.1 hP hD hS 0 rfl rfl 23 (by decide) fl_207 (fun _ h9 => h9) rfl (by decide +kernel) rfl rfl (Nat.le_of_ble_eq_true rfl) dX7_dayOf_11 (fun H locs hP hD hS => ?_)
  have hP : va_P D vwCl (W_M cI cS mA mf mn ml mk mg mls ms mra mrf mrk mrg mrl mrs mo moo moa mp mpp mfi mpl mpo mro 0 0 mhg mhk mR mRf mRo mss msl msh mha mt) H := hP
  have hD : va_D A (W_M cI cS mA mf mn ml mk mg mls ms mra mrf mrk mrg mrl mrs mo moo moa mp mpp mfi mpl mpo mro 0 0 mhg mhk mR mRf mRo mss msl msh mha mt) := hD
  refine x_cut (D := D) (A := A) (H0 := s.heap) (σ := Int × Int × Int × Int × (Int → Int) × Int × (Int → Int) × (Int → Int) × Int × (Int → Int) × Int × Int × (Int → Int)) (fun (xv_ : Int × Int × Int × Int × (Int → Int) × Int × (Int → Int) × (Int → Int) × Int × (Int → Int) × Int × Int × (Int → Int)) => match xv_ with | (wr, mdp1, mdf1, ml1, mg1, mo9, moo9, moa9, mp9, mpp9, mfi9, mpl9, mpo9) => (okK mn mk mg1 ml1) ∧ ((wr = -9 ∧ (((-9), ml1, mg1, mdp1, mdf1) : DS) = dRun mk mls ms mn (fun j => msh (fo + j)) n.toNat 0 ml mg 0 0) ∨ ((0 ≤ wr ∧ wr < n) ∧ (dRun mk mls ms mn (fun j => msh (fo + j)) n.toNat 0 ml mg 0 0).1 = wr))) (fun (xv_ : Int × Int × Int × Int × (Int → Int) × Int × (Int → Int) × (Int → Int) × Int × (Int → Int) × Int × Int × (Int → Int)) => match xv_ with | (wr, mdp1, mdf1, ml1, mg1, mo9, moo9, moa9, mp9, mpp9, mfi9, mpl9, mpo9) => (W_M cI cS mA mf mn ml1 mk mg1 mls ms mra mrf mrk mrg mrl mrs mo9 moo9 moa9 mp9 mpp9 mfi9 mpl9 mpo9 mro mdp1 mdf1 mhg mhk mR mRf mRo mss msl msh mha mt)) (fun (xv_ : Int × Int × Int × Int × (Int → Int) × Int × (Int → Int) × (Int → Int) × Int × (Int → Int) × Int × Int × (Int → Int)) => match xv_ with | (wr, mdp1, mdf1, ml1, mg1, mo9, moo9, moa9, mp9, mpp9, mfi9, mpl9, mpo9) => [(0, .ref (mA 0)), (1, .int (iI fo)), (2, .int (iI n)), (3, .int (iI w)), (4, .int (iI wr))]) (nL := 6) 74 (fun (xv_ : Int × Int × Int × Int × (Int → Int) × Int × (Int → Int) × (Int → Int) × Int × (Int → Int) × Int × Int × (Int → Int)) => match xv_ with | (wr, mdp1, mdf1, ml1, mg1, mo9, moo9, moa9, mp9, mpp9, mfi9, mpl9, mpo9) => []) ?join_2 (fun K_1 => ?_)
  case join_2 =>
    intro xv_ hI H locs ls hP hD hS hl
    obtain ⟨wr, mdp1, mdf1, ml1, mg1, mo9, moo9, moa9, mp9, mpp9, mfi9, mpl9, mpo9⟩ := xv_
    try dsimp only at hI
    obtain ⟨hko, hR2⟩ := hI
    have hP : va_P D vwCl (W_M cI cS mA mf mn ml1 mk mg1 mls ms mra mrf mrk mrg mrl mrs mo9 moo9 moa9 mp9 mpp9 mfi9 mpl9 mpo9 mro mdp1 mdf1 mhg mhk mR mRf mRo mss msl msh mha mt) H := hP
    have hD : va_D A (W_M cI cS mA mf mn ml1 mk mg1 mls ms mra mrf mrk mrg mrl mrs mo9 moo9 moa9 mp9 mpp9 mfi9 mpl9 mpo9 mro mdp1 mdf1 mhg mhk mR mRf mRo mss msl msh mha mt) := hD
    have hl : lv_has ls 6 [(0, .ref (mA 0)), (1, .int (iI fo)), (2, .int (iI n)), (3, .int (iI w)), (4, .int (iI wr))] := hl
    refine lv_iload_n hx hb dX7_dayOf_74 rfl (lv_at hl 3 rfl) ?_
    refine lv_iconst (v := iI 1) hx hb dX7_dayOf_75 (by decide +kernel) ?_
    refine n_icmp_ne (tgt := 82) hx hb dX7_dayOf_76 (by decide) (by omega) (fun c_3 => ?_) (fun c_3 => ?_)
    ·
      refine lv_iload hx hb dX7_dayOf_82 (lv_at hl 4 rfl) ?_
      refine n_if_lt (tgt := 93) hx hb dX7_dayOf_84 (by decide) (by rcases hR2 with q | q <;> omega) (fun c_4 => ?_) (fun c_4 => ?_)
      ·
        refine lv_iload_n hx hb dX7_dayOf_93 rfl (lv_at hl 3 rfl) ?_
        refine lv_bipush (v := iI 10) hx hb dX7_dayOf_94 (by decide +kernel) ?_
        refine n_icmp_lt (tgt := 125) hx hb dX7_dayOf_96 (by decide) (by omega) (fun c_5 => ?_) (fun c_5 => ?_)
        ·
          refine lv_iload_n hx hb dX7_dayOf_125 rfl (lv_at hl 3 rfl) ?_
          refine n_if_ne (tgt := 136) hx hb dX7_dayOf_126 (by decide) (by omega) (fun c_6 => ?_) (fun c_6 => ?_)
          ·
            refine lv_iload_n hx hb dX7_dayOf_136 rfl (lv_at hl 3 rfl) ?_
            refine lv_iconst (v := iI 2) hx hb dX7_dayOf_137 (by decide +kernel) ?_
            refine n_icmp_ne (tgt := 148) hx hb dX7_dayOf_138 (by decide) (by omega) (fun c_7 => ?_) (fun c_7 => ?_)
            ·
              refine lv_iload_n hx hb dX7_dayOf_148 rfl (lv_at hl 3 rfl) ?_
              refine lv_iconst (v := iI 3) hx hb dX7_dayOf_149 (by decide +kernel) ?_
              refine n_icmp_ne (tgt := 160) hx hb dX7_dayOf_150 (by decide) (by omega) (fun c_8 => ?_) (fun c_8 => ?_)
              ·
                refine lv_aload_n hx hb dX7_dayOf_160 rfl (lv_at hl 0 rfl) ?_
                refine x_callVi (As := []) (rest := []) ⟨hx, hb, hml, hown, hts⟩ (c_X7_allRows l D cI cS mA mf mn ml1 mk mg1 mls ms mra mrf mrk mrg mrl mrs mo9 moo9 moa9 mp9 mpp9 mfi9 mpl9 mpo9 mro mdp1 mdf1 mhg mhk mR mRf mRo mss msl msh mha mt H.size (by first | assumption | omega) hko) (cwV 0 hts gX7_dayOf_X7_allRows rfl rfl rfl (by decide +kernel) ⟨Nat.le_of_ble_eq_true rfl, Nat.le_of_ble_eq_true rfl⟩) hK hP hD hS hA [0, 1, 2, 3, 4, 5, 6, 7, 8, 9, 10, 11, 12, 13, 14, 15, 16, 17, 18, 19, 20, 21] [] (wr := ([] : va_W)) rfl rfl (by decide) (by decide) (by decide) 0 7 rfl rfl rfl [0, 1, 2, 3, 4, 5, 6, 7, 8, 9, 10, 11, 12, 13, 14, 15, 16, 17, 18, 19, 20, 21] (fun (u : (Int → Int)) => (W_M cI cS mA mf mn ml1 mk mg1 mls ms mra mrf mrk mrg mrl mrs mo9 moo9 moa9 mp9 mpp9 mfi9 mpl9 mpo9 u mdp1 mdf1 mhg mhk mR mRf mRo mss msl msh mha mt)) (fun _ => rfl) (by decide) rfl hl.1 rfl (Nat.le_of_ble_eq_true rfl) ⟨Nat.zero_le _, Nat.zero_le _⟩ dX7_dayOf_161 (fun r_ u_ H locs hw hP hD hS => ?_)
                obtain ⟨mro_9, eu_⟩ : ∃ z, z = u_ := ⟨_, rfl⟩
                subst eu_
                try dsimp only at hw
                subst hw
                have hP : va_P D vwCl (W_M cI cS mA mf mn ml1 mk mg1 mls ms mra mrf mrk mrg mrl mrs mo9 moo9 moa9 mp9 mpp9 mfi9 mpl9 mpo9 mro_9 mdp1 mdf1 mhg mhk mR mRf mRo mss msl msh mha mt) H := hP
                have hD : va_D A (W_M cI cS mA mf mn ml1 mk mg1 mls ms mra mrf mrk mrg mrl mrs mo9 moo9 moa9 mp9 mpp9 mfi9 mpl9 mpo9 mro_9 mdp1 mdf1 mhg mhk mR mRf mRo mss msl msh mha mt) := hD
                exact W.iret (v := iI (orAll (rowS mk mg1 mls ms) mn.toNat)) hx hb hr (fun t ht hW => ⟨⟨_, (mdp1, mdf1, ml1, mg1, mo9, moo9, moa9, mp9, mpp9, mfi9, mpl9, mpo9, mro_9), rfl, congrArg iI (show (orAll (rowS mk mg1 mls ms) mn.toNat) = (dAns mn mk mls ms (dRun mk mls ms mn (fun j => msh (fo + j)) n.toNat 0 ml mg 0 0) w) from (by
            rcases hR2 with q | q
            · first
              | (exfalso; omega)
              | (rw [← q.2]; unfold dAns; dsimp only; (try rw [q.1]); (repeat (first | rw [if_pos (by omega)] | rw [if_neg (by omega)])))
            · first
              | (exfalso; omega)
              | (unfold dAns; rw [q.2]; (repeat (first | rw [if_pos (by omega)] | rw [if_neg (by omega)]))))), by rw [ht]; exact hP, hD⟩, hS.F ht⟩) hS.2.2 dX7_dayOf_164
              ·
                refine lv_aload_n hx hb dX7_dayOf_153 rfl (lv_at hl 0 rfl) ?_
                refine va_get (D := D) (ci := 7) (v := .int (iI ml1)) (C := RX7) (T := TX7) (N := 34) hx hb hts iw_7 hown hK.1 hP 0 rfl rfl 2 (by decide) fl_142 (fun _ h9 => h9) rfl dX7_dayOf_154 ?_
                refine lv_goto (tgt := 164) hx hb dX7_dayOf_157 (by decide) ?_
                exact W.iret (v := iI ml1) hx hb hr (fun t ht hW => ⟨⟨_, (mdp1, mdf1, ml1, mg1, mo9, moo9, moa9, mp9, mpp9, mfi9, mpl9, mpo9, mro), rfl, congrArg iI (show ml1 = (dAns mn mk mls ms (dRun mk mls ms mn (fun j => msh (fo + j)) n.toNat 0 ml mg 0 0) w) from (by
            rcases hR2 with q | q
            · first
              | (exfalso; omega)
              | (rw [← q.2]; unfold dAns; dsimp only; (try rw [q.1]); (repeat (first | rw [if_pos (by omega)] | rw [if_neg (by omega)])))
            · first
              | (exfalso; omega)
              | (unfold dAns; rw [q.2]; (repeat (first | rw [if_pos (by omega)] | rw [if_neg (by omega)]))))), by rw [ht]; exact hP, hD⟩, hS.F ht⟩) hS.2.2 dX7_dayOf_164
            ·
              refine lv_aload_n hx hb dX7_dayOf_141 rfl (lv_at hl 0 rfl) ?_
              refine va_get (D := D) (ci := 7) (v := .int (iI mdf1)) (C := RX7) (T := TX7) (N := 34) hx hb hts iw_7 hown hK.1 hP 0 rfl rfl 23 (by decide) fl_207 (fun _ h9 => h9) rfl dX7_dayOf_142 ?_
              refine lv_goto (tgt := 164) hx hb dX7_dayOf_145 (by decide) ?_
              exact W.iret (v := iI mdf1) hx hb hr (fun t ht hW => ⟨⟨_, (mdp1, mdf1, ml1, mg1, mo9, moo9, moa9, mp9, mpp9, mfi9, mpl9, mpo9, mro), rfl, congrArg iI (show mdf1 = (dAns mn mk mls ms (dRun mk mls ms mn (fun j => msh (fo + j)) n.toNat 0 ml mg 0 0) w) from (by
            rcases hR2 with q | q
            · first
              | (exfalso; omega)
              | (rw [← q.2]; unfold dAns; dsimp only; (try rw [q.1]); (repeat (first | rw [if_pos (by omega)] | rw [if_neg (by omega)])))
            · first
              | (exfalso; omega)
              | (unfold dAns; rw [q.2]; (repeat (first | rw [if_pos (by omega)] | rw [if_neg (by omega)]))))), by rw [ht]; exact hP, hD⟩, hS.F ht⟩) hS.2.2 dX7_dayOf_164
          ·
            refine lv_aload_n hx hb dX7_dayOf_129 rfl (lv_at hl 0 rfl) ?_
            refine va_get (D := D) (ci := 7) (v := .int (iI mdp1)) (C := RX7) (T := TX7) (N := 34) hx hb hts iw_7 hown hK.1 hP 0 rfl rfl 22 (by decide) fl_204 (fun _ h9 => h9) rfl dX7_dayOf_130 ?_
            refine lv_goto (tgt := 164) hx hb dX7_dayOf_133 (by decide) ?_
            exact W.iret (v := iI mdp1) hx hb hr (fun t ht hW => ⟨⟨_, (mdp1, mdf1, ml1, mg1, mo9, moo9, moa9, mp9, mpp9, mfi9, mpl9, mpo9, mro), rfl, congrArg iI (show mdp1 = (dAns mn mk mls ms (dRun mk mls ms mn (fun j => msh (fo + j)) n.toNat 0 ml mg 0 0) w) from (by
            rcases hR2 with q | q
            · first
              | (exfalso; omega)
              | (rw [← q.2]; unfold dAns; dsimp only; (try rw [q.1]); (repeat (first | rw [if_pos (by omega)] | rw [if_neg (by omega)])))
            · first
              | (exfalso; omega)
              | (unfold dAns; rw [q.2]; (repeat (first | rw [if_pos (by omega)] | rw [if_neg (by omega)]))))), by rw [ht]; exact hP, hD⟩, hS.F ht⟩) hS.2.2 dX7_dayOf_164
        ·
          refine lv_aload_n hx hb dX7_dayOf_99 rfl (lv_at hl 0 rfl) ?_
          refine lv_iload_n hx hb dX7_dayOf_100 rfl (lv_at hl 3 rfl) ?_
          refine lv_bipush (v := iI 10) hx hb dX7_dayOf_101 (by decide +kernel) ?_
          refine n_isub hx hb dX7_dayOf_103 ?_
          refine x_callVi (As := [.int (iI (w - 10))]) (rest := []) ⟨hx, hb, hml, hown, hts⟩ (c_X7_noFunction l D cI cS mA mf mn ml1 mk mg1 mls ms mra mrf mrk mrg mrl mrs mo9 moo9 moa9 mp9 mpp9 mfi9 mpl9 mpo9 mro mdp1 mdf1 mhg mhk mR mRf mRo mss msl msh mha mt H.size (w - 10) (by first | assumption | omega) (by first | assumption | omega)) (cwV 1 hts gX7_dayOf_X7_noFunction rfl rfl rfl (by decide +kernel) ⟨Nat.le_of_ble_eq_true rfl, Nat.le_of_ble_eq_true rfl⟩) hK hP hD hS hA [0, 1, 2, 3, 4, 5, 6, 7, 8, 9, 10, 11, 12, 13, 14, 15, 16, 17, 18, 19, 20, 21] [] (wr := ([] : va_W)) rfl rfl (by decide) (by decide) (by decide) 0 7 rfl rfl rfl [0, 1, 2, 3, 4, 5, 6, 7, 8, 9, 10, 11, 12, 13, 14, 15, 16, 17, 18, 19, 20, 21] (fun (u : Unit) => (W_M cI cS mA mf mn ml1 mk mg1 mls ms mra mrf mrk mrg mrl mrs mo9 moo9 moa9 mp9 mpp9 mfi9 mpl9 mpo9 mro mdp1 mdf1 mhg mhk mR mRf mRo mss msl msh mha mt)) (fun _ => rfl) (by decide) rfl hl.1 rfl (Nat.le_of_ble_eq_true rfl) ⟨Nat.zero_le _, Nat.zero_le _⟩ dX7_dayOf_104 (fun r_ u_ H locs hw hP hD hS => ?_)
          try dsimp only at hw
          subst hw
          have hP : va_P D vwCl (W_M cI cS mA mf mn ml1 mk mg1 mls ms mra mrf mrk mrg mrl mrs mo9 moo9 moa9 mp9 mpp9 mfi9 mpl9 mpo9 mro mdp1 mdf1 mhg mhk mR mRf mRo mss msl msh mha mt) H := hP
          have hD : va_D A (W_M cI cS mA mf mn ml1 mk mg1 mls ms mra mrf mrk mrg mrl mrs mo9 moo9 moa9 mp9 mpp9 mfi9 mpl9 mpo9 mro mdp1 mdf1 mhg mhk mR mRf mRo mss msl msh mha mt) := hD
          refine n_if_b1 (tgt := 115) hx hb dX7_dayOf_107 (by decide)  (fun c_10 => ?_) (fun c_10 => ?_)
          ·
            refine lv_aload_n hx hb dX7_dayOf_115 rfl (lv_at hl 0 rfl) ?_
            refine va_get (D := D) (ci := 7) (v := .ref (mA 2)) (C := RX7) (T := TX7) (N := 34) hx hb hts iw_7 hown hK.1 hP 0 rfl rfl 4 (by decide) fl_13 (fun _ h9 => h9) rfl dX7_dayOf_116 ?_
            refine lv_iload_n hx hb dX7_dayOf_119 rfl (lv_at hl 3 rfl) ?_
            refine lv_bipush (v := iI 10) hx hb dX7_dayOf_120 (by decide +kernel) ?_
            refine n_isub hx hb dX7_dayOf_122 ?_
            refine n_iald (n := 5) hx hb hK.1 hP 2 0 rfl rfl (by omega) (by decide) dX7_dayOf_123 ?_
            exact W.iret (v := iI (mg1 (w - 10))) hx hb hr (fun t ht hW => ⟨⟨_, (mdp1, mdf1, ml1, mg1, mo9, moo9, moa9, mp9, mpp9, mfi9, mpl9, mpo9, mro), rfl, congrArg iI (show (mg1 (w - 10)) = (dAns mn mk mls ms (dRun mk mls ms mn (fun j => msh (fo + j)) n.toNat 0 ml mg 0 0) w) from (by
            rcases hR2 with q | q
            · first
              | (exfalso; omega)
              | (rw [← q.2]; unfold dAns; dsimp only; (try rw [q.1]); (repeat (first | rw [if_pos (by omega)] | rw [if_neg (by omega)])))
            · first
              | (exfalso; omega)
              | (unfold dAns; rw [q.2]; (repeat (first | rw [if_pos (by omega)] | rw [if_neg (by omega)]))))), by rw [ht]; exact hP, hD⟩, hS.F ht⟩) hS.2.2 dX7_dayOf_124
          ·
            refine lv_bipush (v := iI (-9)) hx hb dX7_dayOf_110 (by decide +kernel) ?_
            refine lv_goto (tgt := 124) hx hb dX7_dayOf_112 (by decide) ?_
            exact W.iret (v := iI (-9)) hx hb hr (fun t ht hW => ⟨⟨_, (mdp1, mdf1, ml1, mg1, mo9, moo9, moa9, mp9, mpp9, mfi9, mpl9, mpo9, mro), rfl, congrArg iI (show (-9) = (dAns mn mk mls ms (dRun mk mls ms mn (fun j => msh (fo + j)) n.toNat 0 ml mg 0 0) w) from (by
            rcases hR2 with q | q
            · first
              | (exfalso; omega)
              | (rw [← q.2]; unfold dAns; dsimp only; (try rw [q.1]); (repeat (first | rw [if_pos (by omega)] | rw [if_neg (by omega)])))
            · first
              | (exfalso; omega)
              | (unfold dAns; rw [q.2]; (repeat (first | rw [if_pos (by omega)] | rw [if_neg (by omega)]))))), by rw [ht]; exact hP, hD⟩, hS.F ht⟩) hS.2.2 dX7_dayOf_124
      ·
        refine lv_bipush (v := iI (-100)) hx hb dX7_dayOf_87 (by decide +kernel) ?_
        refine lv_iload hx hb dX7_dayOf_89 (lv_at hl 4 rfl) ?_
        refine n_isub hx hb dX7_dayOf_91 ?_
        exact W.iret (v := iI ((-100) - wr)) hx hb hr (fun t ht hW => ⟨⟨_, (mdp1, mdf1, ml1, mg1, mo9, moo9, moa9, mp9, mpp9, mfi9, mpl9, mpo9, mro), rfl, congrArg iI (show ((-100) - wr) = (dAns mn mk mls ms (dRun mk mls ms mn (fun j => msh (fo + j)) n.toNat 0 ml mg 0 0) w) from (by
            rcases hR2 with q | q
            · first
              | (exfalso; omega)
              | (rw [← q.2]; unfold dAns; dsimp only; (try rw [q.1]); (repeat (first | rw [if_pos (by omega)] | rw [if_neg (by omega)])))
            · first
              | (exfalso; omega)
              | (unfold dAns; rw [q.2]; (repeat (first | rw [if_pos (by omega)] | rw [if_neg (by omega)]))))), by rw [ht]; exact hP, hD⟩, hS.F ht⟩) hS.2.2 dX7_dayOf_92
    ·
      refine lv_iload hx hb dX7_dayOf_79 (lv_at hl 4 rfl) ?_
      exact W.iret (v := iI wr) hx hb hr (fun t ht hW => ⟨⟨_, (mdp1, mdf1, ml1, mg1, mo9, moo9, moa9, mp9, mpp9, mfi9, mpl9, mpo9, mro), rfl, congrArg iI (show wr = (dAns mn mk mls ms (dRun mk mls ms mn (fun j => msh (fo + j)) n.toNat 0 ml mg 0 0) w) from (by
            rcases hR2 with q | q
            · first
              | (exfalso; omega)
              | (rw [← q.2]; unfold dAns; dsimp only; (try rw [q.1]); (repeat (first | rw [if_pos (by omega)] | rw [if_neg (by omega)])))
            · first
              | (exfalso; omega)
              | (unfold dAns; rw [q.2]; (repeat (first | rw [if_pos (by omega)] | rw [if_neg (by omega)]))))), by rw [ht]; exact hP, hD⟩, hS.F ht⟩) hS.2.2 dX7_dayOf_81
  refine lv_iconst (v := iI 0) hx hb dX7_dayOf_14 (by decide +kernel) ?_
  refine lv_istore (lv' := [(5, .int (iI 0)), (4, .int (iI (-9))), (0, .ref (mA 0)), (1, .int (iI fo)), (2, .int (iI n)), (3, .int (iI w))]) hx hb dX7_dayOf_15 hl (by decide) rfl (fun ls hl => ?_)
  refine x_loop (σ := Int × Int × Int × Int × Int × (Int → Int) × Int × (Int → Int) × (Int → Int) × Int × (Int → Int) × Int × Int × (Int → Int)) (fun (xv_ : Int × Int × Int × Int × Int × (Int → Int) × Int × (Int → Int) × (Int → Int) × Int × (Int → Int) × Int × Int × (Int → Int)) => match xv_ with | (wr, pl, mdp1, mdf1, ml1, mg1, mo9, moo9, moa9, mp9, mpp9, mfi9, mpl9, mpo9) => (0 ≤ pl ∧ pl ≤ n) ∧ (okK mn mk mg1 ml1) ∧ ((wr = -9 ∧ dRun mk mls ms mn (fun j => msh (fo + j)) (n - pl).toNat pl ml1 mg1 mdp1 mdf1 = dRun mk mls ms mn (fun j => msh (fo + j)) n.toNat 0 ml mg 0 0) ∨ ((0 ≤ wr ∧ wr < n) ∧ (dRun mk mls ms mn (fun j => msh (fo + j)) n.toNat 0 ml mg 0 0).1 = wr))) (fun (xv_ : Int × Int × Int × Int × Int × (Int → Int) × Int × (Int → Int) × (Int → Int) × Int × (Int → Int) × Int × Int × (Int → Int)) => match xv_ with | (wr, pl, mdp1, mdf1, ml1, mg1, mo9, moo9, moa9, mp9, mpp9, mfi9, mpl9, mpo9) => (n - pl).toNat) (fun (xv_ : Int × Int × Int × Int × Int × (Int → Int) × Int × (Int → Int) × (Int → Int) × Int × (Int → Int) × Int × Int × (Int → Int)) => match xv_ with | (wr, pl, mdp1, mdf1, ml1, mg1, mo9, moo9, moa9, mp9, mpp9, mfi9, mpl9, mpo9) => (W_M cI cS mA mf mn ml1 mk mg1 mls ms mra mrf mrk mrg mrl mrs mo9 moo9 moa9 mp9 mpp9 mfi9 mpl9 mpo9 mro mdp1 mdf1 mhg mhk mR mRf mRo mss msl msh mha mt)) (fun (xv_ : Int × Int × Int × Int × Int × (Int → Int) × Int × (Int → Int) × (Int → Int) × Int × (Int → Int) × Int × Int × (Int → Int)) => match xv_ with | (wr, pl, mdp1, mdf1, ml1, mg1, mo9, moo9, moa9, mp9, mpp9, mfi9, mpl9, mpo9) => [(5, .int (iI pl)), (4, .int (iI wr)), (0, .ref (mA 0)), (1, .int (iI fo)), (2, .int (iI n)), (3, .int (iI w))]) (nL := 6) ?step_11 ((-9), 0, 0, 0, ml, mg, mo, moo, moa, mp, mpp, mfi, mpl, mpo) (by (try dsimp only); exact ⟨by omega, hkk, Or.inl ⟨rfl, by rw [Int.sub_zero]⟩⟩) hP hD hS (lv_sub hl [0, 1, 2, 3, 4, 5] rfl)
  case step_11 =>
    intro xv_ hI ih H locs ls hP hD hS hl
    obtain ⟨wr, pl, mdp1, mdf1, ml1, mg1, mo9, moo9, moa9, mp9, mpp9, mfi9, mpl9, mpo9⟩ := xv_
    try dsimp only at hI ih
    obtain ⟨hpl, hko, hM⟩ := hI
    have hP : va_P D vwCl (W_M cI cS mA mf mn ml1 mk mg1 mls ms mra mrf mrk mrg mrl mrs mo9 moo9 moa9 mp9 mpp9 mfi9 mpl9 mpo9 mro mdp1 mdf1 mhg mhk mR mRf mRo mss msl msh mha mt) H := hP
    have hD : va_D A (W_M cI cS mA mf mn ml1 mk mg1 mls ms mra mrf mrk mrg mrl mrs mo9 moo9 moa9 mp9 mpp9 mfi9 mpl9 mpo9 mro mdp1 mdf1 mhg mhk mR mRf mRo mss msl msh mha mt) := hD
    have hl : lv_has ls 6 [(5, .int (iI pl)), (4, .int (iI wr)), (0, .ref (mA 0)), (1, .int (iI fo)), (2, .int (iI n)), (3, .int (iI w))] := hl
    have hwr : -9 ≤ wr ∧ wr < 20 := by rcases hM with q | q <;> omega
    have ih_12 := ih
    refine lv_iload hx hb dX7_dayOf_17 (lv_at hl 0 rfl) ?_
    refine lv_iload_n hx hb dX7_dayOf_19 rfl (lv_at hl 4 rfl) ?_
    refine n_icmp_ge (tgt := 74) hx hb dX7_dayOf_20 (by decide) (by omega) (fun c_13 => ?_) (fun c_13 => ?_)
    ·
      exact K_1 (wr, mdp1, mdf1, ml1, mg1, mo9, moo9, moa9, mp9, mpp9, mfi9, mpl9, mpo9) (by (try dsimp only); exact ⟨hko, by rcases hM with q | q; (refine Or.inl ⟨q.1, ?_⟩; have z := q.2; rw [show (n - pl).toNat = 0 by omega] at z; exact z); exact Or.inr q⟩) _ _ _ hP hD hS (lv_sub hl [2, 3, 4, 5, 1] rfl)
    ·
      refine lv_iload hx hb dX7_dayOf_23 (lv_at hl 1 rfl) ?_
      refine n_if_ge (tgt := 74) hx hb dX7_dayOf_25 (by decide) (by omega) (fun c_14 => ?_) (fun c_14 => ?_)
      ·
        exact K_1 (wr, mdp1, mdf1, ml1, mg1, mo9, moo9, moa9, mp9, mpp9, mfi9, mpl9, mpo9) (by (try dsimp only); exact ⟨hko, by rcases hM with q | q; (refine Or.inl ⟨q.1, ?_⟩; have z := q.2; rw [show (n - pl).toNat = 0 by omega] at z; exact z); exact Or.inr q⟩) _ _ _ hP hD hS (lv_sub hl [2, 3, 4, 5, 1] rfl)
      ·
        have hM2 : wr = -9 ∧ dRun mk mls ms mn (fun j => msh (fo + j)) (n - pl).toNat pl ml1 mg1 mdp1 mdf1 = dRun mk mls ms mn (fun j => msh (fo + j)) n.toNat 0 ml mg 0 0 := by rcases hM with q | q; exact q; exact absurd q.1 (by omega)
        have htx := tldB_at n.toNat htl pl hpl.1 (by omega)
        obtain ⟨ay, hay⟩ : ∃ z_ : Int, z_ = msh (fo + 2 * pl) := ⟨_, rfl⟩
        obtain ⟨bz, hbz⟩ : ∃ z_ : Int, z_ = msh (fo + (2 * pl + 1)) := ⟨_, rfl⟩
        have hya := hay.symm
        have hby := hbz.symm
        rw [hya, hby] at htx
        have hkn := dG_ok hko htx
        refine lv_aload_n hx hb dX7_dayOf_28 rfl (lv_at hl 2 rfl) ?_
        refine lv_aload_n hx hb dX7_dayOf_29 rfl (lv_at hl 2 rfl) ?_
        refine va_get (D := D) (ci := 7) (v := .ref (mA 20)) (C := RX7) (T := TX7) (N := 34) hx hb hts iw_7 hown hK.1 hP 0 rfl rfl 31 (by decide) fl_67 (fun _ h9 => h9) rfl dX7_dayOf_30 ?_
        refine lv_iload_n hx hb dX7_dayOf_33 rfl (lv_at hl 3 rfl) ?_
        refine lv_iconst (v := iI 2) hx hb dX7_dayOf_34 (by decide +kernel) ?_
        refine lv_iload hx hb dX7_dayOf_35 (lv_at hl 0 rfl) ?_
        refine n_imul hx hb dX7_dayOf_37 ?_
        refine n_iadd hx hb dX7_dayOf_38 ?_
        refine n_iald (n := 240) hx hb hK.1 hP 20 0 rfl rfl (by omega) (by decide) dX7_dayOf_39 ?_
        rw [show (msh (fo + (2 * pl))) = ay from hay.symm]
        refine lv_aload_n hx hb dX7_dayOf_40 rfl (lv_at hl 2 rfl) ?_
        refine va_get (D := D) (ci := 7) (v := .ref (mA 20)) (C := RX7) (T := TX7) (N := 34) hx hb hts iw_7 hown hK.1 hP 0 rfl rfl 31 (by decide) fl_67 (fun _ h9 => h9) rfl dX7_dayOf_41 ?_
        refine lv_iload_n hx hb dX7_dayOf_44 rfl (lv_at hl 3 rfl) ?_
        refine lv_iconst (v := iI 2) hx hb dX7_dayOf_45 (by decide +kernel) ?_
        refine lv_iload hx hb dX7_dayOf_46 (lv_at hl 0 rfl) ?_
        refine n_imul hx hb dX7_dayOf_48 ?_
        refine n_iadd hx hb dX7_dayOf_49 ?_
        refine lv_iconst (v := iI 1) hx hb dX7_dayOf_50 (by decide +kernel) ?_
        refine n_iadd hx hb dX7_dayOf_51 ?_
        refine n_iald (n := 240) hx hb hK.1 hP 20 0 rfl rfl (by omega) (by decide) dX7_dayOf_52 ?_
        rw [show (msh ((fo + (2 * pl)) + 1)) = bz from (by rw [hbz, Int.add_assoc])]
        refine x_callVi (As := [.int (iI ay), .int (iI bz)]) (rest := []) ⟨hx, hb, hml, hown, hts⟩ (c_X7_doesPair l D cI cS mA mf mn ml1 mk mg1 mls ms mra mrf mrk mrg mrl mrs mo9 moo9 moa9 mp9 mpp9 mfi9 mpl9 mpo9 mro mdp1 mdf1 mhg mhk mR mRf mRo mss msl msh mha mt H.size ay bz (by first | assumption | omega) hko (by first | assumption | omega) htx) (cwV 2 hts gX7_dayOf_X7_doesPair rfl rfl rfl (by decide +kernel) ⟨Nat.le_of_ble_eq_true rfl, Nat.le_of_ble_eq_true rfl⟩) hK hP hD hS hA [0, 1, 2, 3, 4, 5, 6, 7, 8, 9, 10, 11, 12, 13, 14, 15, 16, 17, 18, 19, 20, 21] [] (wr := ([] : va_W)) rfl rfl (by decide) (by decide) (by decide) 0 7 rfl rfl rfl [0, 1, 2, 3, 4, 5, 6, 7, 8, 9, 10, 11, 12, 13, 14, 15, 16, 17, 18, 19, 20, 21] (fun (u : Int × (Int → Int) × (Int → Int) × Int × (Int → Int) × Int × Int × (Int → Int)) => (W_M cI cS mA mf mn (dL ml1 ay bz) mk (dG mn mg1 ay bz) mls ms mra mrf mrk mrg mrl mrs u.1 u.2.1 u.2.2.1 u.2.2.2.1 u.2.2.2.2.1 u.2.2.2.2.2.1 u.2.2.2.2.2.2.1 u.2.2.2.2.2.2.2 mro (dA mn (sem mk mg1 ml1 mls ms) mdp1 bz) (dE mn (sem mk mg1 ml1 mls ms) mdf1 bz) mhg mhk mR mRf mRo mss msl msh mha mt)) (fun _ => rfl) (by decide) rfl hl.1 rfl (Nat.le_of_ble_eq_true rfl) ⟨Nat.zero_le _, Nat.zero_le _⟩ dX7_dayOf_53 (fun r_ u_ H locs hw hP hD hS => ?_)
        obtain ⟨mo_15, moo_16, moa_17, mp_18, mpp_19, mfi_20, mpl_21, mpo_22⟩ := u_
        try dsimp only at hw
        subst hw
        have hP : va_P D vwCl (W_M cI cS mA mf mn (dL ml1 ay bz) mk (dG mn mg1 ay bz) mls ms mra mrf mrk mrg mrl mrs mo_15 moo_16 moa_17 mp_18 mpp_19 mfi_20 mpl_21 mpo_22 mro (dA mn (sem mk mg1 ml1 mls ms) mdp1 bz) (dE mn (sem mk mg1 ml1 mls ms) mdf1 bz) mhg mhk mR mRf mRo mss msl msh mha mt) H := hP
        have hD : va_D A (W_M cI cS mA mf mn (dL ml1 ay bz) mk (dG mn mg1 ay bz) mls ms mra mrf mrk mrg mrl mrs mo_15 moo_16 moa_17 mp_18 mpp_19 mfi_20 mpl_21 mpo_22 mro (dA mn (sem mk mg1 ml1 mls ms) mdp1 bz) (dE mn (sem mk mg1 ml1 mls ms) mdf1 bz) mhg mhk mR mRf mRo mss msl msh mha mt) := hD
        refine n_if_b1 (tgt := 64) hx hb dX7_dayOf_56 (by decide)  (fun c_23 => ?_) (fun c_23 => ?_)
        ·
          have hno : ¬ dOkB mn (sem mk mg1 ml1 mls ms) (msh (fo + (2 * pl + 1))) = true := by rw [hby]; assumption
          refine lv_iload hx hb dX7_dayOf_64 (lv_at hl 0 rfl) ?_
          refine lv_istore (lv' := [(4, .int (iI pl)), (5, .int (iI pl)), (0, .ref (mA 0)), (1, .int (iI fo)), (2, .int (iI n)), (3, .int (iI w))]) hx hb dX7_dayOf_66 hl (by decide) rfl (fun ls hl => ?_)
          refine n_iinc (lv' := [(5, .int (iI (pl + 1))), (4, .int (iI pl)), (0, .ref (mA 0)), (1, .int (iI fo)), (2, .int (iI n)), (3, .int (iI w))]) hx hb dX7_dayOf_68 hl (k := 1) rfl (by decide) rfl (fun ls hl => ?_)
          refine lv_goto (tgt := 17) hx hb dX7_dayOf_71 (by decide) ?_
          exact ih_12 (pl, (pl + 1), (dA mn (sem mk mg1 ml1 mls ms) mdp1 bz), (dE mn (sem mk mg1 ml1 mls ms) mdf1 bz), (dL ml1 ay bz), (dG mn mg1 ay bz), mo_15, moo_16, moa_17, mp_18, mpp_19, mfi_20, mpl_21, mpo_22) (by (try dsimp only); exact (by
          first
          | exact ⟨by omega, hkn, Or.inl ⟨rfl, by rw [← hM2.2, show (n - pl).toNat = (n - (pl + 1)).toNat + 1 by omega, dRun_y (cd := (fun j => msh (fo + j))) (x := pl) hyes, hya, hby]⟩⟩
          | exact ⟨by omega, hkn, Or.inr ⟨by omega, by rw [← hM2.2, show (n - pl).toNat = (n - (pl + 1)).toNat + 1 by omega, dRun_n (cd := (fun j => msh (fo + j))) (x := pl) hno]⟩⟩)) (by (try dsimp only); exact (by omega)) _ _ _ hP hD hS (lv_sub hl [0, 1, 2, 3, 4, 5] rfl)
        ·
          have hyes : dOkB mn (sem mk mg1 ml1 mls ms) (msh (fo + (2 * pl + 1))) = true := by rw [hby]; assumption
          refine lv_bipush (v := iI (-9)) hx hb dX7_dayOf_59 (by decide +kernel) ?_
          refine lv_goto (tgt := 66) hx hb dX7_dayOf_61 (by decide) ?_
          refine lv_istore (lv' := [(4, .int (iI (-9))), (5, .int (iI pl)), (0, .ref (mA 0)), (1, .int (iI fo)), (2, .int (iI n)), (3, .int (iI w))]) hx hb dX7_dayOf_66 hl (by decide) rfl (fun ls hl => ?_)
          refine n_iinc (lv' := [(5, .int (iI (pl + 1))), (4, .int (iI (-9))), (0, .ref (mA 0)), (1, .int (iI fo)), (2, .int (iI n)), (3, .int (iI w))]) hx hb dX7_dayOf_68 hl (k := 1) rfl (by decide) rfl (fun ls hl => ?_)
          refine lv_goto (tgt := 17) hx hb dX7_dayOf_71 (by decide) ?_
          exact ih_12 ((-9), (pl + 1), (dA mn (sem mk mg1 ml1 mls ms) mdp1 bz), (dE mn (sem mk mg1 ml1 mls ms) mdf1 bz), (dL ml1 ay bz), (dG mn mg1 ay bz), mo_15, moo_16, moa_17, mp_18, mpp_19, mfi_20, mpl_21, mpo_22) (by (try dsimp only); exact (by
          first
          | exact ⟨by omega, hkn, Or.inl ⟨rfl, by rw [← hM2.2, show (n - pl).toNat = (n - (pl + 1)).toNat + 1 by omega, dRun_y (cd := (fun j => msh (fo + j))) (x := pl) hyes, hya, hby]⟩⟩
          | exact ⟨by omega, hkn, Or.inr ⟨by omega, by rw [← hM2.2, show (n - pl).toNat = (n - (pl + 1)).toNat + 1 by omega, dRun_n (cd := (fun j => msh (fo + j))) (x := pl) hno]⟩⟩)) (by (try dsimp only); exact (by omega)) _ _ _ hP hD hS (lv_sub hl [0, 1, 2, 3, 4, 5] rfl)
