theorem plRes_eq {at_ f us be L : Int} {tk tg tk' tg' kd gd ln st : Int → Int} {z : Int} (e : ∀ j : Int, j < at_ → tk j = tk' j ∧ tg j = tg' j) (h : plRes at_ f us be L tk tg kd gd ln st z) : plRes at_ f us be L tk' tg' kd gd ln st z := by
  have eo : ∀ c : Int → Int, outM at_ tk tg kd gd L ln st f c = outM at_ tk' tg' kd gd L ln st f c := fun c => outM_eq e
  refine ⟨h.1, ?_, fun c hc ho => h.2.2 c hc ((eo c).trans ho)⟩
  rcases h.2.1 with q | ⟨c, hc, ho, hz⟩
  · exact Or.inl q
  · exact Or.inr ⟨c, hc, (eo c).symm.trans ho, hz⟩
theorem Tab_pre {cnt at_ L : Int} {tk tg tk2 tg2 ln st : Int → Int} (ok : okP cnt ln st) (hat : at_ ≤ cnt) {to ta te ts to2 ta2 te2 ts2 : Int → Int} (h : Tab at_ (sem tk tg L ln st) to ta te ts) (e : ∀ j : Int, j < at_ → tk2 j = tk j ∧ tg2 j = tg j ∧ to2 j = to j ∧ ta2 j = ta j ∧ te2 j = te j ∧ ts2 j = ts j) : Tab at_ (sem tk2 tg2 L ln st) to2 ta2 te2 ts2 := fun g h0 h1 => by
  obtain ⟨-, -, e3, e4, e5, e6⟩ := e g h1
  rw [e3, e4, e5, e6, sem_pre ok h0 (by omega) (K := tk2) (G := tg2) (K' := tk) (G' := tg) (fun j _ hj => ⟨(e j (by omega)).1, (e j (by omega)).2.1⟩)]
  exact h g h0 h1
theorem okK_upd {cnt L i k g : Int} {tk tg : Int → Int} (h : okK cnt tk tg L) (hk : 0 ≤ k ∧ k ≤ 2) (hg : 0 ≤ g ∧ g ≤ 3) : okK cnt (updI tk i k) (updI tg i g) L := ⟨fun j h0 h1 => by
  unfold updI
  by_cases e : j = i
  · rw [if_pos e, if_pos e]; exact ⟨hk, hg⟩
  · rw [if_neg e, if_neg e]; exact h.1 j h0 h1, h.2⟩
theorem okK_updK {cnt L i k : Int} {tk tg : Int → Int} (h : okK cnt tk tg L) (hk : 0 ≤ k ∧ k ≤ 2) : okK cnt (updI tk i k) tg L := ⟨fun j h0 h1 => by
  unfold updI
  by_cases e : j = i
  · rw [if_pos e]; exact ⟨hk, (h.1 j h0 h1).2⟩
  · rw [if_neg e]; exact h.1 j h0 h1, h.2⟩
theorem okK_updG {cnt L i g : Int} {tk tg : Int → Int} (h : okK cnt tk tg L) (hg : 0 ≤ g ∧ g ≤ 3) : okK cnt tk (updI tg i g) L := ⟨fun j h0 h1 => by
  unfold updI
  by_cases e : j = i
  · rw [if_pos e]; exact ⟨(h.1 j h0 h1).1, hg⟩
  · rw [if_neg e]; exact h.1 j h0 h1, h.2⟩
set_option maxHeartbeats 4000000 in
set_option maxRecDepth 100000 in
theorem c_X5_fewestPlugs (l : Launch) (D : va_G) (cI cS : ClassId) : ∀ (d : Nat) (b : Nat → Nat) (a : Nat → Nat) (tk : Int → Int) (tg : Int → Int) (tl : Int) (to : Int → Int) (ta : Int → Int) (te : Int → Int) (ts : Int → Int) (tr : Int → Int) (cnt : Int) (lv : Int) (kd : Int → Int) (gd : Int → Int) (ln : Int → Int) (st : Int → Int) (sz : Nat) (f : Int) (at_ : Int) (us : Int) (be : Int) (hok : okP cnt ln st) (hkd : okK cnt kd gd tl) (hkt : okK cnt tk tg tl) (hf : 0 ≤ f ∧ f < cnt) (hat : 0 ≤ at_ ∧ at_ ≤ f + 1) (hd : d = (f + 1 - at_).toNat) (hus : 0 ≤ us ∧ us ≤ at_) (hbe : 0 ≤ be ∧ be ≤ 6) (htab : Tab at_ (sem tk tg tl ln st) to ta te ts), Met l yX5_fewestPlugs wsX5_fewestPlugs ({ frames := 20 + d, cells := 0, slots := 0, locals := 400 + 40 * d }) (cP D cI cS (W_T_P cI cS b a tk tg tl to ta te ts tr a cnt lv kd gd ln st) sz [.ref (b 0), .int (iI f), .int (iI at_), .int (iI us), .int (iI be)]) (va_Qi (fun (r : Int32) (u : (Int → Int) × (Int → Int) × (Int → Int) × (Int → Int) × (Int → Int) × (Int → Int)) => ∃ z : Int, r = iI z ∧ (plRes at_ f us be tl tk tg kd gd ln st z) ∧ (∀ j : Int, j < at_ → u.1 j = tk j ∧ u.2.1 j = tg j ∧ u.2.2.1 j = to j ∧ u.2.2.2.1 j = ta j ∧ u.2.2.2.2.1 j = te j ∧ u.2.2.2.2.2 j = ts j) ∧ (okK cnt u.1 u.2.1 tl)) (fun (u : (Int → Int) × (Int → Int) × (Int → Int) × (Int → Int) × (Int → Int) × (Int → Int)) t => cB D (va_A (W_T_P cI cS b a tk tg tl to ta te ts tr a cnt lv kd gd ln st) sz) (W_T_P cI cS b a u.1 u.2.1 tl u.2.2.1 u.2.2.2.1 u.2.2.2.2.1 u.2.2.2.2.2 tr a cnt lv kd gd ln st) t) (va_A (W_T_P cI cS b a tk tg tl to ta te ts tr a cnt lv kd gd ln st) sz)) 0 0 (va_A (W_T_P cI cS b a tk tg tl to ta te ts tr a cnt lv kd gd ln st) sz) := by
  intro d
  induction d using Nat.strongRecOn with
  | ind d IH =>
    intro b a tk tg tl to ta te ts tr cnt lv kd gd ln st sz f at_ us be hok hkd hkt hf hat hd hus hbe htab
    refine Met.ofW (cc := cX5_fewestPlugs) (maxL := 8) (ret := (some .int)) (by decide) rfl ?_
    intro p e s m args below meth c_ s₁ B hml hv
    obtain ⟨rfl, hsz, hP, hK, hD0⟩ := hv
    have hx := B.exec
    have hb := B.bytes
    have hr := B.returns
    have hts := atoms_spec (ws := wsX5_fewestPlugs) B.pre
    have hown : s.vm.findClass RX5 = some m.cls := findClass_of_methodNamed B.named
    have hlocks := B.notSynchronized
    subst hsz
    have hD := hD0.self (sz := s.heap.size)
    generalize hAe : va_A (W_T_P cI cS b a tk tg tl to ta te ts tr a cnt lv kd gd ln st) s.heap.size = A at hD ⊢
    have hA : ∀ q : Nat, s.heap.size ≤ q → A q := fun q h => by rw [← hAe]; exact Or.inr h
    have hS : va_S A s.heap s.heap [] := va_S.rf
    have hP : va_P D vwCl (W_T_P cI cS b a tk tg tl to ta te ts tr a cnt lv kd gd ln st) s.heap := hP
    have hl := lv_entry ([.ref (b 0), .int (iI f), .int (iI at_), .int (iI us), .int (iI be)] : List Value) (n := 8) (Nat.le_of_ble_eq_true rfl)
    rw [lg_entry_eq]
    generalize (lg_sl ([.ref (b 0), .int (iI f), .int (iI at_), .int (iI us), .int (iI be)] : List Value) ++ List.replicate (8 - (lg_sl ([.ref (b 0), .int (iI f), .int (iI at_), .int (iI us), .int (iI be)] : List Value)).length) Slot.unset).toArray = ls at hl ⊢
    have hl : lv_has ls 8 [(0, .ref (b 0)), (1, .int (iI f)), (2, .int (iI at_)), (3, .int (iI us)), (4, .int (iI be))] := hl
    have fl_29 := hts (.fieldLink RX5 29 "ActRows$Trial" "outs" "[I") (by decide +kernel)
    have iw_5 : ∀ w ∈ wsX50, w ∈ wsX5_fewestPlugs := by decide +kernel
    have fl_18 := hts (.fieldLink RX5 18 "ActRows$Trial" "kinds" "[I") (by decide +kernel)
    have fl_12 := hts (.fieldLink RX5 12 "ActRows$Trial" "program" "LActRows$Program;") (by decide +kernel)
    have fn_44 := va_Nw.use (A := ([.ref (b 0), .int (iI f), .int (iI at_), .int (iI us), .int (iI be)] : List Value).toArray) rfl (hK.2 ("ActRows$Trial", 44, "ActRows$Program", "kinds", "[I") (List.mem_of_getElem? (i := 27) rfl))
    have iw_1 : ∀ w ∈ wsX10, w ∈ wsX5_fewestPlugs := by decide +kernel
    have fl_22 := hts (.fieldLink RX5 22 "ActRows$Trial" "guarded" "[I") (by decide +kernel)
    have fn_51 := va_Nw.use (A := ([.ref (b 0), .int (iI f), .int (iI at_), .int (iI us), .int (iI be)] : List Value).toArray) rfl (hK.2 ("ActRows$Trial", 51, "ActRows$Program", "guarded", "[I") (List.mem_of_getElem? (i := 28) rfl))
    have hc := hok.1
    have hln := hok.2.1
    refine lv_iload_n hx hb dX5_fewestPlugs_0 rfl (lv_at hl 3 rfl) ?_
    refine lv_iload hx hb dX5_fewestPlugs_1 (lv_at hl 4 rfl) ?_
    refine n_icmp_lt (tgt := 9) hx hb dX5_fewestPlugs_3 (by decide) (by omega) (fun c_1 => ?_) (fun c_1 => ?_)
    ·
      refine lv_iload_n hx hb dX5_fewestPlugs_9 rfl (lv_at hl 2 rfl) ?_
      refine lv_iload_n hx hb dX5_fewestPlugs_10 rfl (lv_at hl 1 rfl) ?_
      refine n_icmp_gt (tgt := 19) hx hb dX5_fewestPlugs_11 (by decide) (by omega) (fun c_2 => ?_) (fun c_2 => ?_)
      ·
        have htf := htab f hf.1 (by omega)
        have hof := (sem_ok (K := tk) (G := tg) (L := tl) hok f hf.1 hf.2).1
        refine lv_aload_n hx hb dX5_fewestPlugs_19 rfl (lv_at hl 0 rfl) ?_
        refine va_get (D := D) (ci := 5) (v := .ref (b 3)) (C := RX5) (T := TX5) (N := 9) hx hb hts iw_5 hown hK.1 hP 0 rfl rfl 4 (by decide) fl_29 (fun _ h9 => h9) rfl dX5_fewestPlugs_20 ?_
        refine lv_iload_n hx hb dX5_fewestPlugs_23 rfl (lv_at hl 1 rfl) ?_
        refine n_iald (n := 5) hx hb hK.1 hP 3 0 rfl rfl (by omega) (by decide) dX5_fewestPlugs_24 ?_
        refine lv_iconst (v := iI 4) hx hb dX5_fewestPlugs_25 (by decide +kernel) ?_
        refine n_icmp_ne (tgt := 33) hx hb dX5_fewestPlugs_26 (by decide) (by omega) (fun c_3 => ?_) (fun c_3 => ?_)
        ·
          refine lv_iload hx hb dX5_fewestPlugs_33 (lv_at hl 4 rfl) ?_
          exact W.iret (v := iI be) hx hb hr (fun t ht hW => ⟨⟨_, (tk, tg, to, ta, te, ts), rfl, ⟨be, rfl, (by (try dsimp only); exact (by first | exact (plRes_base hok hf.1 hf.2 (by omega) (by omega)).1 (by omega) | exact (plRes_base hok hf.1 hf.2 (by omega) (by omega)).2 (by omega))), (by (try dsimp only); exact (fun j _ => ⟨rfl, rfl, rfl, rfl, rfl, rfl⟩)), (by (try dsimp only); exact hkt)⟩, by rw [ht]; exact hP, hD⟩, hS.F ht⟩) hS.2.2 dX5_fewestPlugs_35
        ·
          refine lv_iload_n hx hb dX5_fewestPlugs_29 rfl (lv_at hl 3 rfl) ?_
          refine lv_goto (tgt := 35) hx hb dX5_fewestPlugs_30 (by decide) ?_
          exact W.iret (v := iI us) hx hb hr (fun t ht hW => ⟨⟨_, (tk, tg, to, ta, te, ts), rfl, ⟨us, rfl, (by (try dsimp only); exact (by first | exact (plRes_base hok hf.1 hf.2 (by omega) (by omega)).1 (by omega) | exact (plRes_base hok hf.1 hf.2 (by omega) (by omega)).2 (by omega))), (by (try dsimp only); exact (fun j _ => ⟨rfl, rfl, rfl, rfl, rfl, rfl⟩)), (by (try dsimp only); exact hkt)⟩, by rw [ht]; exact hP, hD⟩, hS.F ht⟩) hS.2.2 dX5_fewestPlugs_35
      ·
        have hatf : at_ ≤ f := by omega
        have hat2 : 0 ≤ at_ ∧ at_ < cnt := by omega
        have hkda := hkd.1 at_ hat2.1 hat2.2
        have hko1 := okK_upd (i := at_) hkt hkda.1 hkda.2
        have htab1 : Tab at_ (sem (updI tk at_ (kd at_)) (updI tg at_ (gd at_)) tl ln st) to ta te ts := Tab_pre hok (by omega) htab (fun j hj => ⟨updI_n (by omega), updI_n (by omega), rfl, rfl, rfl, rfl⟩)
        refine lv_iload_n hx hb dX5_fewestPlugs_14 rfl (lv_at hl 2 rfl) ?_
        refine lv_iconst (v := iI 5) hx hb dX5_fewestPlugs_15 (by decide +kernel) ?_
        refine n_icmp_lt (tgt := 36) hx hb dX5_fewestPlugs_16 (by decide) (by omega) (fun c_4 => ?_) (fun c_4 => ?_)
        ·
          refine lv_aload_n hx hb dX5_fewestPlugs_36 rfl (lv_at hl 0 rfl) ?_
          refine va_get (D := D) (ci := 5) (v := .ref (b 1)) (C := RX5) (T := TX5) (N := 9) hx hb hts iw_5 hown hK.1 hP 0 rfl rfl 1 (by decide) fl_18 (fun _ h9 => h9) rfl dX5_fewestPlugs_37 ?_
          refine lv_iload_n hx hb dX5_fewestPlugs_40 rfl (lv_at hl 2 rfl) ?_
          refine lv_aload_n hx hb dX5_fewestPlugs_41 rfl (lv_at hl 0 rfl) ?_
          refine va_get (D := D) (ci := 5) (v := .ref (a 0)) (C := RX5) (T := TX5) (N := 9) hx hb hts iw_5 hown hK.1 hP 0 rfl rfl 0 (by decide) fl_12 (fun _ h9 => h9) rfl dX5_fewestPlugs_42 ?_
          refine va_getN (D := D) (ci := 1) (v := .ref (a 1)) (C := RX1) (T := TX1) (N := 6) hx hb hts iw_1 hown hK.1 hP 8 rfl rfl 0 (by decide) fn_44 (fun _ h9 => h9) rfl dX5_fewestPlugs_45 ?_
          refine lv_iload_n hx hb dX5_fewestPlugs_48 rfl (lv_at hl 2 rfl) ?_
          refine n_iald (n := 5) hx hb hK.1 hP 9 0 rfl rfl (by omega) (by decide) dX5_fewestPlugs_49 ?_
          refine n_iast (n := 5) hx hb hK.1 hP hD hS 1 0 rfl rfl (by omega) (by decide) dX5_fewestPlugs_50 (fun H locs hP hD hS => ?_)
          have hP : va_P D vwCl (W_T_P cI cS b a (updI tk at_ (kd at_)) tg tl to ta te ts tr a cnt lv kd gd ln st) H := hP
          have hD : va_D A (W_T_P cI cS b a (updI tk at_ (kd at_)) tg tl to ta te ts tr a cnt lv kd gd ln st) := hD
          refine lv_aload_n hx hb dX5_fewestPlugs_51 rfl (lv_at hl 0 rfl) ?_
          refine va_get (D := D) (ci := 5) (v := .ref (b 2)) (C := RX5) (T := TX5) (N := 9) hx hb hts iw_5 hown hK.1 hP 0 rfl rfl 2 (by decide) fl_22 (fun _ h9 => h9) rfl dX5_fewestPlugs_52 ?_
          refine lv_iload_n hx hb dX5_fewestPlugs_55 rfl (lv_at hl 2 rfl) ?_
          refine lv_aload_n hx hb dX5_fewestPlugs_56 rfl (lv_at hl 0 rfl) ?_
          refine va_get (D := D) (ci := 5) (v := .ref (a 0)) (C := RX5) (T := TX5) (N := 9) hx hb hts iw_5 hown hK.1 hP 0 rfl rfl 0 (by decide) fl_12 (fun _ h9 => h9) rfl dX5_fewestPlugs_57 ?_
          refine va_getN (D := D) (ci := 1) (v := .ref (a 2)) (C := RX1) (T := TX1) (N := 6) hx hb hts iw_1 hown hK.1 hP 8 rfl rfl 1 (by decide) fn_51 (fun _ h9 => h9) rfl dX5_fewestPlugs_60 ?_
          refine lv_iload_n hx hb dX5_fewestPlugs_63 rfl (lv_at hl 2 rfl) ?_
          refine n_iald (n := 5) hx hb hK.1 hP 10 0 rfl rfl (by omega) (by decide) dX5_fewestPlugs_64 ?_
          refine n_iast (n := 5) hx hb hK.1 hP hD hS 2 0 rfl rfl (by omega) (by decide) dX5_fewestPlugs_65 (fun H locs hP hD hS => ?_)
          have hP : va_P D vwCl (W_T_P cI cS b a (updI tk at_ (kd at_)) (updI tg at_ (gd at_)) tl to ta te ts tr a cnt lv kd gd ln st) H := hP
          have hD : va_D A (W_T_P cI cS b a (updI tk at_ (kd at_)) (updI tg at_ (gd at_)) tl to ta te ts tr a cnt lv kd gd ln st) := hD
          refine lv_aload_n hx hb dX5_fewestPlugs_66 rfl (lv_at hl 0 rfl) ?_
          refine lv_iload_n hx hb dX5_fewestPlugs_67 rfl (lv_at hl 2 rfl) ?_
          refine x_callVv (As := [.int (iI at_)]) (rest := []) ⟨hx, hb, hml, hown, hts⟩ (c_X5_settle l D cI cS b a (updI tk at_ (kd at_)) (updI tg at_ (gd at_)) tl to ta te ts tr cnt lv kd gd ln st H.size at_ (by first | assumption | omega) hko1 (by first | assumption | omega) htab1) (cwV 1 hts gX5_fewestPlugs_X5_settle rfl rfl rfl (by decide +kernel) ⟨by show 3 + 1 ≤ 20 + d; omega, by show 8 + (5 + 11) + 65 ≤ 400 + 40 * d; omega⟩) hK hP hD hS hA [0, 1, 2, 3, 4, 5, 6, 7, 8, 9, 10, 11, 12] [] (wr := ([] : va_W)) rfl rfl (by decide) (by decide) (by decide) 0 5 rfl rfl rfl [0, 1, 2, 3, 4, 5, 6, 7, 8, 9, 10, 11, 12] (fun (u : Unit) => (W_T_P cI cS b a (updI tk at_ (kd at_)) (updI tg at_ (gd at_)) tl (updI to at_ (sem (updI tk at_ (kd at_)) (updI tg at_ (gd at_)) tl ln st at_).1) (updI ta at_ ((sem (updI tk at_ (kd at_)) (updI tg at_ (gd at_)) tl ln st at_).2.1.length : Int)) (updI te at_ (sem (updI tk at_ (kd at_)) (updI tg at_ (gd at_)) tl ln st at_).2.2.1) (updI ts at_ (srcR (sem (updI tk at_ (kd at_)) (updI tg at_ (gd at_)) tl ln st at_))) tr a cnt lv kd gd ln st)) (fun _ => rfl) (by decide) rfl hl.1 rfl (Nat.le_of_ble_eq_true rfl) ⟨Nat.zero_le _, Nat.zero_le _⟩ dX5_fewestPlugs_68 (fun u_ H locs hw hP hD hS => ?_)
          try dsimp only at hw
          have hP : va_P D vwCl (W_T_P cI cS b a (updI tk at_ (kd at_)) (updI tg at_ (gd at_)) tl (updI to at_ (sem (updI tk at_ (kd at_)) (updI tg at_ (gd at_)) tl ln st at_).1) (updI ta at_ ((sem (updI tk at_ (kd at_)) (updI tg at_ (gd at_)) tl ln st at_).2.1.length : Int)) (updI te at_ (sem (updI tk at_ (kd at_)) (updI tg at_ (gd at_)) tl ln st at_).2.2.1) (updI ts at_ (srcR (sem (updI tk at_ (kd at_)) (updI tg at_ (gd at_)) tl ln st at_))) tr a cnt lv kd gd ln st) H := hP
          have hD : va_D A (W_T_P cI cS b a (updI tk at_ (kd at_)) (updI tg at_ (gd at_)) tl (updI to at_ (sem (updI tk at_ (kd at_)) (updI tg at_ (gd at_)) tl ln st at_).1) (updI ta at_ ((sem (updI tk at_ (kd at_)) (updI tg at_ (gd at_)) tl ln st at_).2.1.length : Int)) (updI te at_ (sem (updI tk at_ (kd at_)) (updI tg at_ (gd at_)) tl ln st at_).2.2.1) (updI ts at_ (srcR (sem (updI tk at_ (kd at_)) (updI tg at_ (gd at_)) tl ln st at_))) tr a cnt lv kd gd ln st) := hD
          obtain ⟨x0, hx0⟩ : ∃ x_ : Int, x_ = (sem (updI tk at_ (kd at_)) (updI tg at_ (gd at_)) tl ln st at_).1 := ⟨_, rfl⟩
          have hx0r : 0 ≤ x0 ∧ x0 ≤ 4 := by rw [hx0]; exact (sem_ok (K := (updI tk at_ (kd at_))) (G := (updI tg at_ (gd at_))) (L := tl) hok at_ hat2.1 hat2.2).1
          have hx00 : oAt at_ tk tg kd gd tl ln st 0 = x0 := by rw [hx0]; rfl
          refine lv_iconst (v := iI 1) hx hb dX5_fewestPlugs_71 (by decide +kernel) ?_
          refine lv_aload_n hx hb dX5_fewestPlugs_72 rfl (lv_at hl 0 rfl) ?_
          refine va_get (D := D) (ci := 5) (v := .ref (b 3)) (C := RX5) (T := TX5) (N := 9) hx hb hts iw_5 hown hK.1 hP 0 rfl rfl 4 (by decide) fl_29 (fun _ h9 => h9) rfl dX5_fewestPlugs_73 ?_
          refine lv_iload_n hx hb dX5_fewestPlugs_76 rfl (lv_at hl 2 rfl) ?_
          refine n_iald (n := 5) hx hb hK.1 hP 3 0 rfl rfl (by omega) (by decide) dX5_fewestPlugs_77 ?_
          rw [show ((updI to at_ (sem (updI tk at_ (kd at_)) (updI tg at_ (gd at_)) tl ln st at_).1) at_) = x0 from (by rw [updI_s, hx0])]
          refine n_ishl (z := (pow2 x0)) (b_shl (by omega)) hx hb dX5_fewestPlugs_78 ?_
          refine lv_istore (lv' := [(5, .int (iI (pow2 x0))), (0, .ref (b 0)), (1, .int (iI f)), (2, .int (iI at_)), (3, .int (iI us)), (4, .int (iI be))]) hx hb dX5_fewestPlugs_79 hl (by decide) rfl (fun ls hl => ?_)
          refine lv_aload_n hx hb dX5_fewestPlugs_81 rfl (lv_at hl 1 rfl) ?_
          refine lv_iload_n hx hb dX5_fewestPlugs_82 rfl (lv_at hl 2 rfl) ?_
          refine lv_iload_n hx hb dX5_fewestPlugs_83 rfl (lv_at hl 3 rfl) ?_
          refine lv_iconst (v := iI 1) hx hb dX5_fewestPlugs_84 (by decide +kernel) ?_
          refine n_iadd hx hb dX5_fewestPlugs_85 ?_
          refine lv_iload_n hx hb dX5_fewestPlugs_86 rfl (lv_at hl 4 rfl) ?_
          refine lv_iload hx hb dX5_fewestPlugs_87 (lv_at hl 5 rfl) ?_
          refine x_callVi (As := [.int (iI f), .int (iI (at_ + 1)), .int (iI us), .int (iI be)]) (rest := []) ⟨hx, hb, hml, hown, hts⟩ (IH (d - 1) (by omega) b a (updI tk at_ (kd at_)) (updI tg at_ (gd at_)) tl (updI to at_ (sem (updI tk at_ (kd at_)) (updI tg at_ (gd at_)) tl ln st at_).1) (updI ta at_ ((sem (updI tk at_ (kd at_)) (updI tg at_ (gd at_)) tl ln st at_).2.1.length : Int)) (updI te at_ (sem (updI tk at_ (kd at_)) (updI tg at_ (gd at_)) tl ln st at_).2.2.1) (updI ts at_ (srcR (sem (updI tk at_ (kd at_)) (updI tg at_ (gd at_)) tl ln st at_))) tr cnt lv kd gd ln st H.size f (at_ + 1) us be (by first | assumption | omega) (by first | assumption | omega) hko1 (by first | assumption | omega) (by omega) (by omega) (by first | assumption | omega) (by first | assumption | omega) (Tab.snoc htab1)) (cwV 4 hts gX5_fewestPlugs_X5_fewestPlugs rfl rfl rfl (by decide +kernel) ⟨by show 20 + (d - 1) + 1 ≤ 20 + d; omega, by show 8 + (8 + 11) + (400 + 40 * (d - 1)) ≤ 400 + 40 * d; omega⟩) hK hP hD hS hA [0, 1, 2, 3, 4, 5, 6, 7, 8, 9, 10, 11, 12] [] (wr := ([] : va_W)) rfl rfl (by decide) (by decide) (by decide) 0 5 rfl rfl rfl [0, 1, 2, 3, 4, 5, 6, 7, 8, 9, 10, 11, 12] (fun (u : (Int → Int) × (Int → Int) × (Int → Int) × (Int → Int) × (Int → Int) × (Int → Int)) => (W_T_P cI cS b a u.1 u.2.1 tl u.2.2.1 u.2.2.2.1 u.2.2.2.2.1 u.2.2.2.2.2 tr a cnt lv kd gd ln st)) (fun _ => rfl) (by decide) rfl hl.1 rfl (Nat.le_of_ble_eq_true rfl) ⟨Nat.zero_le _, Nat.zero_le _⟩ dX5_fewestPlugs_89 (fun r_ u_ H locs hw hP hD hS => ?_)
          obtain ⟨tk3, tg3, to3, ta3, te3, ts3⟩ := u_
          try dsimp only at hw
          obtain ⟨z0, rfl, hz0, hfr0, hko0⟩ := hw
          have hP : va_P D vwCl (W_T_P cI cS b a tk3 tg3 tl to3 ta3 te3 ts3 tr a cnt lv kd gd ln st) H := hP
          have hD : va_D A (W_T_P cI cS b a tk3 tg3 tl to3 ta3 te3 ts3 tr a cnt lv kd gd ln st) := hD
          refine lv_istore (lv' := [(6, .int (iI z0)), (5, .int (iI (pow2 x0))), (0, .ref (b 0)), (1, .int (iI f)), (2, .int (iI at_)), (3, .int (iI us)), (4, .int (iI be))]) hx hb dX5_fewestPlugs_92 hl (by decide) rfl (fun ls hl => ?_)
          refine lv_aload_n hx hb dX5_fewestPlugs_94 rfl (lv_at hl 2 rfl) ?_
          refine va_get (D := D) (ci := 5) (v := .ref (b 1)) (C := RX5) (T := TX5) (N := 9) hx hb hts iw_5 hown hK.1 hP 0 rfl rfl 1 (by decide) fl_18 (fun _ h9 => h9) rfl dX5_fewestPlugs_95 ?_
          refine lv_iload_n hx hb dX5_fewestPlugs_98 rfl (lv_at hl 4 rfl) ?_
          refine lv_iconst (v := iI 2) hx hb dX5_fewestPlugs_99 (by decide +kernel) ?_
          refine n_iast (n := 5) hx hb hK.1 hP hD hS 1 0 rfl rfl (by omega) (by decide) dX5_fewestPlugs_100 (fun H locs hP hD hS => ?_)
          have hP : va_P D vwCl (W_T_P cI cS b a (updI tk3 at_ 2) tg3 tl to3 ta3 te3 ts3 tr a cnt lv kd gd ln st) H := hP
          have hD : va_D A (W_T_P cI cS b a (updI tk3 at_ 2) tg3 tl to3 ta3 te3 ts3 tr a cnt lv kd gd ln st) := hD
          refine lv_iconst (v := iI 0) hx hb dX5_fewestPlugs_101 (by decide +kernel) ?_
          refine lv_istore (lv' := [(7, .int (iI 0)), (6, .int (iI z0)), (5, .int (iI (pow2 x0))), (0, .ref (b 0)), (1, .int (iI f)), (2, .int (iI at_)), (3, .int (iI us)), (4, .int (iI be))]) hx hb dX5_fewestPlugs_102 hl (by decide) rfl (fun ls hl => ?_)
          refine x_loop (σ := Int × Int × Int × (Int → Int) × (Int → Int) × (Int → Int) × (Int → Int) × (Int → Int) × (Int → Int)) (fun (xv_ : Int × Int × Int × (Int → Int) × (Int → Int) × (Int → Int) × (Int → Int) × (Int → Int) × (Int → Int)) => match xv_ with | (act, trd, fe, tk2, tg2, to2, ta2, te2, ts2) => (0 ≤ act ∧ act ≤ 4) ∧ (∀ j : Int, j < at_ → tk2 j = tk j ∧ tg2 j = tg j ∧ to2 j = to j ∧ ta2 j = ta j ∧ te2 j = te j ∧ ts2 j = ts j) ∧ (tk2 at_ = 2) ∧ (okK cnt tk2 tg2 tl) ∧ (plInv at_ f us be tl tk tg kd gd ln st (act + 1) fe trd)) (fun (xv_ : Int × Int × Int × (Int → Int) × (Int → Int) × (Int → Int) × (Int → Int) × (Int → Int) × (Int → Int)) => match xv_ with | (act, trd, fe, tk2, tg2, to2, ta2, te2, ts2) => (4 - act).toNat) (fun (xv_ : Int × Int × Int × (Int → Int) × (Int → Int) × (Int → Int) × (Int → Int) × (Int → Int) × (Int → Int)) => match xv_ with | (act, trd, fe, tk2, tg2, to2, ta2, te2, ts2) => (W_T_P cI cS b a tk2 tg2 tl to2 ta2 te2 ts2 tr a cnt lv kd gd ln st)) (fun (xv_ : Int × Int × Int × (Int → Int) × (Int → Int) × (Int → Int) × (Int → Int) × (Int → Int) × (Int → Int)) => match xv_ with | (act, trd, fe, tk2, tg2, to2, ta2, te2, ts2) => [(7, .int (iI act)), (6, .int (iI fe)), (5, .int (iI trd)), (0, .ref (b 0)), (1, .int (iI f)), (2, .int (iI at_)), (3, .int (iI us)), (4, .int (iI be))]) (nL := 8) ?step_5 (0, (pow2 x0), z0, (updI tk3 at_ 2), tg3, to3, ta3, te3, ts3) (by (try dsimp only); exact ⟨by omega, fun j hj => by
          have q := hfr0 j (by omega)
          rw [updI_n (show j ≠ at_ by omega)]
          rw [updI_n (show j ≠ at_ by omega), updI_n (show j ≠ at_ by omega), updI_n (show j ≠ at_ by omega), updI_n (show j ≠ at_ by omega), updI_n (show j ≠ at_ by omega), updI_n (show j ≠ at_ by omega)] at q
          exact q, updI_s _ _ _, okK_updK hko0 (by omega), plInv_init hok hat2.1 hatf hf.2 hz0 hx00 hx0r⟩) hP hD hS hl
          case step_5 =>
            intro xv_ hI ih H locs ls hP hD hS hl
            obtain ⟨act, trd, fe, tk2, tg2, to2, ta2, te2, ts2⟩ := xv_
            try dsimp only at hI ih
            obtain ⟨ha, hfr, hk2, hko, hI⟩ := hI
            have hP : va_P D vwCl (W_T_P cI cS b a tk2 tg2 tl to2 ta2 te2 ts2 tr a cnt lv kd gd ln st) H := hP
            have hD : va_D A (W_T_P cI cS b a tk2 tg2 tl to2 ta2 te2 ts2 tr a cnt lv kd gd ln st) := hD
            have hl : lv_has ls 8 [(7, .int (iI act)), (6, .int (iI fe)), (5, .int (iI trd)), (0, .ref (b 0)), (1, .int (iI f)), (2, .int (iI at_)), (3, .int (iI us)), (4, .int (iI be))] := hl
            have ih_6 := ih
            refine lv_iload hx hb dX5_fewestPlugs_104 (lv_at hl 0 rfl) ?_
            refine lv_iconst (v := iI 4) hx hb dX5_fewestPlugs_106 (by decide +kernel) ?_
            refine n_icmp_ge (tgt := 171) hx hb dX5_fewestPlugs_107 (by decide) (by omega) (fun c_7 => ?_) (fun c_7 => ?_)
            ·
              refine lv_iload hx hb dX5_fewestPlugs_171 (lv_at hl 1 rfl) ?_
              exact W.iret (v := iI fe) hx hb hr (fun t ht hW => ⟨⟨_, (tk2, tg2, to2, ta2, te2, ts2), rfl, ⟨fe, rfl, (by (try dsimp only); exact (plRes_fin hI (by omega))), (by (try dsimp only); exact hfr), (by (try dsimp only); exact hko)⟩, by rw [ht]; exact hP, hD⟩, hS.F ht⟩) hS.2.2 dX5_fewestPlugs_173
            ·
              have htab2 : Tab at_ (sem tk2 (updI tg2 at_ act) tl ln st) to2 ta2 te2 ts2 := Tab_pre hok (by omega) htab (fun j hj => ⟨(hfr j hj).1, by rw [updI_n (by omega)]; exact (hfr j hj).2.1, (hfr j hj).2.2⟩)
              refine lv_aload_n hx hb dX5_fewestPlugs_110 rfl (lv_at hl 3 rfl) ?_
              refine va_get (D := D) (ci := 5) (v := .ref (b 2)) (C := RX5) (T := TX5) (N := 9) hx hb hts iw_5 hown hK.1 hP 0 rfl rfl 2 (by decide) fl_22 (fun _ h9 => h9) rfl dX5_fewestPlugs_111 ?_
              refine lv_iload_n hx hb dX5_fewestPlugs_114 rfl (lv_at hl 5 rfl) ?_
              refine lv_iload hx hb dX5_fewestPlugs_115 (lv_at hl 0 rfl) ?_
              refine n_iast (n := 5) hx hb hK.1 hP hD hS 2 0 rfl rfl (by omega) (by decide) dX5_fewestPlugs_117 (fun H locs hP hD hS => ?_)
              have hP : va_P D vwCl (W_T_P cI cS b a tk2 (updI tg2 at_ act) tl to2 ta2 te2 ts2 tr a cnt lv kd gd ln st) H := hP
              have hD : va_D A (W_T_P cI cS b a tk2 (updI tg2 at_ act) tl to2 ta2 te2 ts2 tr a cnt lv kd gd ln st) := hD
              refine lv_aload_n hx hb dX5_fewestPlugs_118 rfl (lv_at hl 3 rfl) ?_
              refine lv_iload_n hx hb dX5_fewestPlugs_119 rfl (lv_at hl 5 rfl) ?_
              refine x_callVv (As := [.int (iI at_)]) (rest := []) ⟨hx, hb, hml, hown, hts⟩ (c_X5_settle l D cI cS b a tk2 (updI tg2 at_ act) tl to2 ta2 te2 ts2 tr cnt lv kd gd ln st H.size at_ (by first | assumption | omega) (okK_updG hko (by omega)) (by first | assumption | omega) htab2) (cwV 1 hts gX5_fewestPlugs_X5_settle rfl rfl rfl (by decide +kernel) ⟨by show 3 + 1 ≤ 20 + d; omega, by show 8 + (5 + 11) + 65 ≤ 400 + 40 * d; omega⟩) hK hP hD hS hA [0, 1, 2, 3, 4, 5, 6, 7, 8, 9, 10, 11, 12] [] (wr := ([] : va_W)) rfl rfl (by decide) (by decide) (by decide) 0 5 rfl rfl rfl [0, 1, 2, 3, 4, 5, 6, 7, 8, 9, 10, 11, 12] (fun (u : Unit) => (W_T_P cI cS b a tk2 (updI tg2 at_ act) tl (updI to2 at_ (sem tk2 (updI tg2 at_ act) tl ln st at_).1) (updI ta2 at_ ((sem tk2 (updI tg2 at_ act) tl ln st at_).2.1.length : Int)) (updI te2 at_ (sem tk2 (updI tg2 at_ act) tl ln st at_).2.2.1) (updI ts2 at_ (srcR (sem tk2 (updI tg2 at_ act) tl ln st at_))) tr a cnt lv kd gd ln st)) (fun _ => rfl) (by decide) rfl hl.1 rfl (Nat.le_of_ble_eq_true rfl) ⟨Nat.zero_le _, Nat.zero_le _⟩ dX5_fewestPlugs_120 (fun u_ H locs hw hP hD hS => ?_)
              try dsimp only at hw
              have hP : va_P D vwCl (W_T_P cI cS b a tk2 (updI tg2 at_ act) tl (updI to2 at_ (sem tk2 (updI tg2 at_ act) tl ln st at_).1) (updI ta2 at_ ((sem tk2 (updI tg2 at_ act) tl ln st at_).2.1.length : Int)) (updI te2 at_ (sem tk2 (updI tg2 at_ act) tl ln st at_).2.2.1) (updI ts2 at_ (srcR (sem tk2 (updI tg2 at_ act) tl ln st at_))) tr a cnt lv kd gd ln st) H := hP
              have hD : va_D A (W_T_P cI cS b a tk2 (updI tg2 at_ act) tl (updI to2 at_ (sem tk2 (updI tg2 at_ act) tl ln st at_).1) (updI ta2 at_ ((sem tk2 (updI tg2 at_ act) tl ln st at_).2.1.length : Int)) (updI te2 at_ (sem tk2 (updI tg2 at_ act) tl ln st at_).2.2.1) (updI ts2 at_ (srcR (sem tk2 (updI tg2 at_ act) tl ln st at_))) tr a cnt lv kd gd ln st) := hD
              obtain ⟨x1, hx1⟩ : ∃ x_ : Int, x_ = (sem tk2 (updI tg2 at_ act) tl ln st at_).1 := ⟨_, rfl⟩
              have hx1r : 0 ≤ x1 ∧ x1 ≤ 4 := by rw [hx1]; exact (sem_ok (K := tk2) (G := updI tg2 at_ act) (L := tl) hok at_ hat2.1 hat2.2).1
              have hx11 : oAt at_ tk tg kd gd tl ln st (act + 1) = x1 := by
                rw [hx1]; unfold oAt chK chG
                rw [if_neg (by omega), if_neg (by omega), sem_pre hok hat2.1 hat2.2 (K' := tk2) (G' := updI tg2 at_ act) (fun j _ hj => ?_)]
                by_cases e : j = at_
                · rw [e, updI_s, updI_s, updI_s, hk2]; exact ⟨rfl, by omega⟩
                · rw [updI_n e, updI_n e, updI_n e, (hfr j (by omega)).1, (hfr j (by omega)).2.1]; exact ⟨rfl, rfl⟩
              have hp32 := pow2_32 hx1r
              have hIt := hI.2.2.2.1
              have hIf := hI.1
              have hb2 : bit trd x1 = trd / pow2 x1 % 2 := rfl
              have hsr := shr_rng (x := trd) (k := x1) (by omega)
              refine lv_iload hx hb dX5_fewestPlugs_123 (lv_at hl 2 rfl) ?_
              refine lv_aload_n hx hb dX5_fewestPlugs_125 rfl (lv_at hl 3 rfl) ?_
              refine va_get (D := D) (ci := 5) (v := .ref (b 3)) (C := RX5) (T := TX5) (N := 9) hx hb hts iw_5 hown hK.1 hP 0 rfl rfl 4 (by decide) fl_29 (fun _ h9 => h9) rfl dX5_fewestPlugs_126 ?_
              refine lv_iload_n hx hb dX5_fewestPlugs_129 rfl (lv_at hl 5 rfl) ?_
              refine n_iald (n := 5) hx hb hK.1 hP 3 0 rfl rfl (by omega) (by decide) dX5_fewestPlugs_130 ?_
              rw [show ((updI to2 at_ (sem tk2 (updI tg2 at_ act) tl ln st at_).1) at_) = x1 from (by rw [updI_s, hx1])]
              refine n_ishr (z := (trd / pow2 x1)) (b_shr (by omega)) hx hb dX5_fewestPlugs_131 ?_
              refine lv_iconst (v := iI 1) hx hb dX5_fewestPlugs_132 (by decide +kernel) ?_
              refine n_iand (z := ((trd / pow2 x1) % 2)) (b_and1 (by omega)) hx hb dX5_fewestPlugs_133 ?_
              refine n_if_ne (tgt := 165) hx hb dX5_fewestPlugs_134 (by decide) (by omega) (fun c_8 => ?_) (fun c_8 => ?_)
              ·
                have hnext := plInv_skip hok hat2.1 hatf hf.2 (by omega) hI hx11 hx1r (by have := bit_rng trd x1; omega)
                refine n_iinc (lv' := [(7, .int (iI (act + 1))), (6, .int (iI fe)), (5, .int (iI trd)), (0, .ref (b 0)), (1, .int (iI f)), (2, .int (iI at_)), (3, .int (iI us)), (4, .int (iI be))]) hx hb dX5_fewestPlugs_165 hl (k := 0) rfl (by decide) rfl (fun ls hl => ?_)
                refine lv_goto (tgt := 104) hx hb dX5_fewestPlugs_168 (by decide) ?_
                exact ih_6 ((act + 1), trd, fe, tk2, (updI tg2 at_ act), (updI to2 at_ (sem tk2 (updI tg2 at_ act) tl ln st at_).1), (updI ta2 at_ ((sem tk2 (updI tg2 at_ act) tl ln st at_).2.1.length : Int)), (updI te2 at_ (sem tk2 (updI tg2 at_ act) tl ln st at_).2.2.1), (updI ts2 at_ (srcR (sem tk2 (updI tg2 at_ act) tl ln st at_)))) (by (try dsimp only); exact (by
              first
              | exact ⟨by omega, fun j hj => by
                  have q := hfr1 j (by omega)
                  rw [updI_n (show j ≠ at_ by omega), updI_n (show j ≠ at_ by omega), updI_n (show j ≠ at_ by omega), updI_n (show j ≠ at_ by omega), updI_n (show j ≠ at_ by omega)] at q
                  have q2 := hfr j hj
                  exact ⟨q.1.trans q2.1, q.2.1.trans q2.2.1, q.2.2.1.trans q2.2.2.1, q.2.2.2.1.trans q2.2.2.2.1, q.2.2.2.2.1.trans q2.2.2.2.2.1, q.2.2.2.2.2.trans q2.2.2.2.2.2⟩, ((hfr1 at_ (by omega)).1).trans hk2, hko1b, hnext⟩
              | exact ⟨by omega, fun j hj => by
                  rw [updI_n (show j ≠ at_ by omega), updI_n (show j ≠ at_ by omega), updI_n (show j ≠ at_ by omega), updI_n (show j ≠ at_ by omega), updI_n (show j ≠ at_ by omega)]
                  exact hfr j hj, hk2, okK_updG hko (by omega), hnext⟩)) (by (try dsimp only); exact (by omega)) _ _ _ hP hD hS (lv_sub hl [0, 1, 2, 3, 4, 5, 6, 7] rfl)
              ·
                refine lv_iload hx hb dX5_fewestPlugs_137 (lv_at hl 2 rfl) ?_
                refine lv_iconst (v := iI 1) hx hb dX5_fewestPlugs_139 (by decide +kernel) ?_
                refine lv_aload_n hx hb dX5_fewestPlugs_140 rfl (lv_at hl 3 rfl) ?_
                refine va_get (D := D) (ci := 5) (v := .ref (b 3)) (C := RX5) (T := TX5) (N := 9) hx hb hts iw_5 hown hK.1 hP 0 rfl rfl 4 (by decide) fl_29 (fun _ h9 => h9) rfl dX5_fewestPlugs_141 ?_
                refine lv_iload_n hx hb dX5_fewestPlugs_144 rfl (lv_at hl 5 rfl) ?_
                refine n_iald (n := 5) hx hb hK.1 hP 3 0 rfl rfl (by omega) (by decide) dX5_fewestPlugs_145 ?_
                rw [show ((updI to2 at_ (sem tk2 (updI tg2 at_ act) tl ln st at_).1) at_) = x1 from (by rw [updI_s, hx1])]
                refine n_ishl (z := (pow2 x1)) (b_shl (by omega)) hx hb dX5_fewestPlugs_146 ?_
                refine n_ior (z := (orI trd (pow2 x1))) (b_or (by omega)) hx hb dX5_fewestPlugs_147 ?_
                refine lv_istore (lv' := [(5, .int (iI (orI trd (pow2 x1)))), (7, .int (iI act)), (6, .int (iI fe)), (0, .ref (b 0)), (1, .int (iI f)), (2, .int (iI at_)), (3, .int (iI us)), (4, .int (iI be))]) hx hb dX5_fewestPlugs_148 hl (by decide) rfl (fun ls hl => ?_)
                refine lv_aload_n hx hb dX5_fewestPlugs_150 rfl (lv_at hl 3 rfl) ?_
                refine lv_iload_n hx hb dX5_fewestPlugs_151 rfl (lv_at hl 4 rfl) ?_
                refine lv_iload_n hx hb dX5_fewestPlugs_152 rfl (lv_at hl 5 rfl) ?_
                refine lv_iconst (v := iI 1) hx hb dX5_fewestPlugs_153 (by decide +kernel) ?_
                refine n_iadd hx hb dX5_fewestPlugs_154 ?_
                refine lv_iload_n hx hb dX5_fewestPlugs_155 rfl (lv_at hl 6 rfl) ?_
                refine lv_iconst (v := iI 1) hx hb dX5_fewestPlugs_156 (by decide +kernel) ?_
                refine n_iadd hx hb dX5_fewestPlugs_157 ?_
                refine lv_iload hx hb dX5_fewestPlugs_158 (lv_at hl 2 rfl) ?_
                refine x_callVi (As := [.int (iI f), .int (iI (at_ + 1)), .int (iI (us + 1)), .int (iI fe)]) (rest := []) ⟨hx, hb, hml, hown, hts⟩ (IH (d - 1) (by omega) b a tk2 (updI tg2 at_ act) tl (updI to2 at_ (sem tk2 (updI tg2 at_ act) tl ln st at_).1) (updI ta2 at_ ((sem tk2 (updI tg2 at_ act) tl ln st at_).2.1.length : Int)) (updI te2 at_ (sem tk2 (updI tg2 at_ act) tl ln st at_).2.2.1) (updI ts2 at_ (srcR (sem tk2 (updI tg2 at_ act) tl ln st at_))) tr cnt lv kd gd ln st H.size f (at_ + 1) (us + 1) fe (by first | assumption | omega) (by first | assumption | omega) (okK_updG hko (by omega)) (by first | assumption | omega) (by omega) (by omega) (by first | assumption | omega) (by first | assumption | omega) (Tab.snoc htab2)) (cwV 4 hts gX5_fewestPlugs_X5_fewestPlugs rfl rfl rfl (by decide +kernel) ⟨by show 20 + (d - 1) + 1 ≤ 20 + d; omega, by show 8 + (8 + 11) + (400 + 40 * (d - 1)) ≤ 400 + 40 * d; omega⟩) hK hP hD hS hA [0, 1, 2, 3, 4, 5, 6, 7, 8, 9, 10, 11, 12] [] (wr := ([] : va_W)) rfl rfl (by decide) (by decide) (by decide) 0 5 rfl rfl rfl [0, 1, 2, 3, 4, 5, 6, 7, 8, 9, 10, 11, 12] (fun (u : (Int → Int) × (Int → Int) × (Int → Int) × (Int → Int) × (Int → Int) × (Int → Int)) => (W_T_P cI cS b a u.1 u.2.1 tl u.2.2.1 u.2.2.2.1 u.2.2.2.2.1 u.2.2.2.2.2 tr a cnt lv kd gd ln st)) (fun _ => rfl) (by decide) rfl hl.1 rfl (Nat.le_of_ble_eq_true rfl) ⟨Nat.zero_le _, Nat.zero_le _⟩ dX5_fewestPlugs_160 (fun r_ u_ H locs hw hP hD hS => ?_)
                obtain ⟨tk4, tg4, to4, ta4, te4, ts4⟩ := u_
                try dsimp only at hw
                obtain ⟨z1, rfl, hz1, hfr1, hko1b⟩ := hw
                have hP : va_P D vwCl (W_T_P cI cS b a tk4 tg4 tl to4 ta4 te4 ts4 tr a cnt lv kd gd ln st) H := hP
                have hD : va_D A (W_T_P cI cS b a tk4 tg4 tl to4 ta4 te4 ts4 tr a cnt lv kd gd ln st) := hD
                have hz1b := plRes_eq (tk' := updI tk at_ 2) (tg' := updI tg at_ (act + 1 - 1)) (fun j hj => by
                  by_cases e : j = at_
                  · rw [e, updI_s, updI_s, updI_s, hk2]; exact ⟨rfl, by omega⟩
                  · rw [updI_n e, updI_n e, updI_n e]; exact ⟨(hfr j (by omega)).1, (hfr j (by omega)).2.1⟩) hz1
                have hnext := plInv_step hok hat2.1 hatf hf.2 (by omega) hI hx11 hx1r hz1b
                refine lv_istore (lv' := [(6, .int (iI z1)), (5, .int (iI (orI trd (pow2 x1)))), (7, .int (iI act)), (0, .ref (b 0)), (1, .int (iI f)), (2, .int (iI at_)), (3, .int (iI us)), (4, .int (iI be))]) hx hb dX5_fewestPlugs_163 hl (by decide) rfl (fun ls hl => ?_)
                refine n_iinc (lv' := [(7, .int (iI (act + 1))), (6, .int (iI z1)), (5, .int (iI (orI trd (pow2 x1)))), (0, .ref (b 0)), (1, .int (iI f)), (2, .int (iI at_)), (3, .int (iI us)), (4, .int (iI be))]) hx hb dX5_fewestPlugs_165 hl (k := 2) rfl (by decide) rfl (fun ls hl => ?_)
                refine lv_goto (tgt := 104) hx hb dX5_fewestPlugs_168 (by decide) ?_
                exact ih_6 ((act + 1), (orI trd (pow2 x1)), z1, tk4, tg4, to4, ta4, te4, ts4) (by (try dsimp only); exact (by
              first
              | exact ⟨by omega, fun j hj => by
                  have q := hfr1 j (by omega)
                  rw [updI_n (show j ≠ at_ by omega), updI_n (show j ≠ at_ by omega), updI_n (show j ≠ at_ by omega), updI_n (show j ≠ at_ by omega), updI_n (show j ≠ at_ by omega)] at q
                  have q2 := hfr j hj
                  exact ⟨q.1.trans q2.1, q.2.1.trans q2.2.1, q.2.2.1.trans q2.2.2.1, q.2.2.2.1.trans q2.2.2.2.1, q.2.2.2.2.1.trans q2.2.2.2.2.1, q.2.2.2.2.2.trans q2.2.2.2.2.2⟩, ((hfr1 at_ (by omega)).1).trans hk2, hko1b, hnext⟩
              | exact ⟨by omega, fun j hj => by
                  rw [updI_n (show j ≠ at_ by omega), updI_n (show j ≠ at_ by omega), updI_n (show j ≠ at_ by omega), updI_n (show j ≠ at_ by omega), updI_n (show j ≠ at_ by omega)]
                  exact hfr j hj, hk2, okK_updG hko (by omega), hnext⟩)) (by (try dsimp only); exact (by omega)) _ _ _ hP hD hS (lv_sub hl [0, 1, 2, 3, 4, 5, 6, 7] rfl)
        · exact False.elim (by first | contradiction | omega)
    ·
      refine lv_iload hx hb dX5_fewestPlugs_6 (lv_at hl 4 rfl) ?_
      exact W.iret (v := iI be) hx hb hr (fun t ht hW => ⟨⟨_, (tk, tg, to, ta, te, ts), rfl, ⟨be, rfl, (by (try dsimp only); exact (plRes_early (by omega) (by omega))), (by (try dsimp only); exact (fun j _ => ⟨rfl, rfl, rfl, rfl, rfl, rfl⟩)), (by (try dsimp only); exact hkt)⟩, by rw [ht]; exact hP, hD⟩, hS.F ht⟩) hS.2.2 dX5_fewestPlugs_8
set_option maxHeartbeats 4000000 in
set_option maxRecDepth 100000 in
theorem c_X5_plugsOf (l : Launch) (D : va_G) (cI cS : ClassId) (b : Nat → Nat) (a : Nat → Nat) (tk : Int → Int) (tg : Int → Int) (tl : Int) (to : Int → Int) (ta : Int → Int) (te : Int → Int) (ts : Int → Int) (tr : Int → Int) (cnt : Int) (lv : Int) (kd : Int → Int) (gd : Int → Int) (ln : Int → Int) (st : Int → Int) (sz : Nat) (f : Int) (hok : okP cnt ln st) (hkd : okK cnt kd gd tl) (hkt : okK cnt tk tg tl) (hf : 0 ≤ f ∧ f < cnt) : Met l yX5_plugsOf wsX5_plugsOf ({ frames := 28, cells := 0, slots := 0, locals := 660 }) (cP D cI cS (W_T_P cI cS b a tk tg tl to ta te ts tr a cnt lv kd gd ln st) sz [.ref (b 0), .int (iI f)]) (va_Qi (fun (r : Int32) (u : (Int → Int) × (Int → Int) × (Int → Int) × (Int → Int) × (Int → Int) × (Int → Int)) => ∃ z : Int, r = iI z ∧ ((z = -9 ∧ plRes 0 f 0 6 tl tk tg kd gd ln st 6) ∨ (z ≠ 6 ∧ plRes 0 f 0 6 tl tk tg kd gd ln st z))) (fun (u : (Int → Int) × (Int → Int) × (Int → Int) × (Int → Int) × (Int → Int) × (Int → Int)) t => cB D (va_A (W_T_P cI cS b a tk tg tl to ta te ts tr a cnt lv kd gd ln st) sz) (W_T_P cI cS b a u.1 u.2.1 tl u.2.2.1 u.2.2.2.1 u.2.2.2.2.1 u.2.2.2.2.2 tr a cnt lv kd gd ln st) t) (va_A (W_T_P cI cS b a tk tg tl to ta te ts tr a cnt lv kd gd ln st) sz)) 0 0 (va_A (W_T_P cI cS b a tk tg tl to ta te ts tr a cnt lv kd gd ln st) sz) := by
  refine Met.ofW (cc := cX5_plugsOf) (maxL := 4) (ret := (some .int)) (by decide) rfl ?_
  intro p e s m args below meth c_ s₁ B hml hv
  obtain ⟨rfl, hsz, hP, hK, hD0⟩ := hv
  have hx := B.exec
  have hb := B.bytes
  have hr := B.returns
  have hts := atoms_spec (ws := wsX5_plugsOf) B.pre
  have hown : s.vm.findClass RX5 = some m.cls := findClass_of_methodNamed B.named
  have hlocks := B.notSynchronized
  subst hsz
  have hD := hD0.self (sz := s.heap.size)
  generalize hAe : va_A (W_T_P cI cS b a tk tg tl to ta te ts tr a cnt lv kd gd ln st) s.heap.size = A at hD ⊢
  have hA : ∀ q : Nat, s.heap.size ≤ q → A q := fun q h => by rw [← hAe]; exact Or.inr h
  have hS : va_S A s.heap s.heap [] := va_S.rf
  have hP : va_P D vwCl (W_T_P cI cS b a tk tg tl to ta te ts tr a cnt lv kd gd ln st) s.heap := hP
  have hl := lv_entry ([.ref (b 0), .int (iI f)] : List Value) (n := 4) (Nat.le_of_ble_eq_true rfl)
  rw [lg_entry_eq]
  generalize (lg_sl ([.ref (b 0), .int (iI f)] : List Value) ++ List.replicate (4 - (lg_sl ([.ref (b 0), .int (iI f)] : List Value)).length) Slot.unset).toArray = ls at hl ⊢
  have hl : lv_has ls 4 [(0, .ref (b 0)), (1, .int (iI f))] := hl
  have hc := hok.1
  have hln := hok.2.1
  refine lv_bipush (v := iI 6) hx hb dX5_plugsOf_0 (by decide +kernel) ?_
  refine lv_istore_n (lv' := [(2, .int (iI 6)), (0, .ref (b 0)), (1, .int (iI f))]) hx hb dX5_plugsOf_2 rfl hl (by decide) rfl (fun ls hl => ?_)
  refine lv_aload_n hx hb dX5_plugsOf_3 rfl (lv_at hl 1 rfl) ?_
  refine lv_iload_n hx hb dX5_plugsOf_4 rfl (lv_at hl 2 rfl) ?_
  refine lv_iconst (v := iI 0) hx hb dX5_plugsOf_5 (by decide +kernel) ?_
  refine lv_iconst (v := iI 0) hx hb dX5_plugsOf_6 (by decide +kernel) ?_
  refine lv_iload_n hx hb dX5_plugsOf_7 rfl (lv_at hl 0 rfl) ?_
  refine x_callVi (As := [.int (iI f), .int (iI 0), .int (iI 0), .int (iI 6)]) (rest := []) ⟨hx, hb, hml, hown, hts⟩ (c_X5_fewestPlugs l D cI cS ((f + 1).toNat) b a tk tg tl to ta te ts tr cnt lv kd gd ln st s.heap.size f 0 0 6 (by first | assumption | omega) (by first | assumption | omega) (by first | assumption | omega) (by first | assumption | omega) (by first | assumption | omega) (by omega) (by first | assumption | omega) (by first | assumption | omega) (fun g a b => absurd b (by omega))) (cwV 4 hts gX5_plugsOf_X5_fewestPlugs rfl rfl rfl (by decide +kernel) ⟨by show 20 + (f + 1).toNat + 1 ≤ 28; omega, by show 8 + (8 + 11) + (400 + 40 * (f + 1).toNat) ≤ 660; omega⟩) hK hP hD hS hA [0, 1, 2, 3, 4, 5, 6, 7, 8, 9, 10, 11, 12] [] (wr := ([] : va_W)) rfl rfl (by decide) (by decide) (by decide) 0 5 rfl rfl rfl [0, 1, 2, 3, 4, 5, 6, 7, 8, 9, 10, 11, 12] (fun (u : (Int → Int) × (Int → Int) × (Int → Int) × (Int → Int) × (Int → Int) × (Int → Int)) => (W_T_P cI cS b a u.1 u.2.1 tl u.2.2.1 u.2.2.2.1 u.2.2.2.2.1 u.2.2.2.2.2 tr a cnt lv kd gd ln st)) (fun _ => rfl) (by decide) rfl hl.1 rfl (Nat.le_of_ble_eq_true rfl) ⟨Nat.zero_le _, Nat.zero_le _⟩ dX5_plugsOf_8 (fun r_ u_ H locs hw hP hD hS => ?_)
  obtain ⟨tk_1, tg_2, to_3, ta_4, te_5, ts_6⟩ := u_
  try dsimp only at hw
  obtain ⟨z0, rfl, hz_, hfr_7, hko_8⟩ := hw
  have hP : va_P D vwCl (W_T_P cI cS b a tk_1 tg_2 tl to_3 ta_4 te_5 ts_6 tr a cnt lv kd gd ln st) H := hP
  have hD : va_D A (W_T_P cI cS b a tk_1 tg_2 tl to_3 ta_4 te_5 ts_6 tr a cnt lv kd gd ln st) := hD
  have hzr := hz_.1
  refine lv_istore_n (lv' := [(3, .int (iI z0)), (2, .int (iI 6)), (0, .ref (b 0)), (1, .int (iI f))]) hx hb dX5_plugsOf_11 rfl hl (by decide) rfl (fun ls hl => ?_)
  refine lv_iload_n hx hb dX5_plugsOf_12 rfl (lv_at hl 0 rfl) ?_
  refine lv_iload_n hx hb dX5_plugsOf_13 rfl (lv_at hl 1 rfl) ?_
  refine n_icmp_ne (tgt := 22) hx hb dX5_plugsOf_14 (by decide) (by omega) (fun c_9 => ?_) (fun c_9 => ?_)
  ·
    have hz7 : z0 ≠ 6 := by omega
    refine lv_iload_n hx hb dX5_plugsOf_22 rfl (lv_at hl 0 rfl) ?_
    exact W.iret (v := iI z0) hx hb hr (fun t ht hW => ⟨⟨_, (tk_1, tg_2, to_3, ta_4, te_5, ts_6), rfl, ⟨z0, rfl, (by (try dsimp only); exact (by first | exact Or.inl ⟨rfl, hz_⟩ | exact Or.inr ⟨hz7, hz_⟩))⟩, by rw [ht]; exact hP, hD⟩, hS.F ht⟩) hS.2.2 dX5_plugsOf_23
  ·
    have hz6 : z0 = 6 := by omega
    rw [hz6] at hz_
    refine lv_bipush (v := iI (-9)) hx hb dX5_plugsOf_17 (by decide +kernel) ?_
    refine lv_goto (tgt := 23) hx hb dX5_plugsOf_19 (by decide) ?_
    exact W.iret (v := iI (-9)) hx hb hr (fun t ht hW => ⟨⟨_, (tk_1, tg_2, to_3, ta_4, te_5, ts_6), rfl, ⟨(-9), rfl, (by (try dsimp only); exact (by first | exact Or.inl ⟨rfl, hz_⟩ | exact Or.inr ⟨hz7, hz_⟩))⟩, by rw [ht]; exact hP, hD⟩, hS.F ht⟩) hS.2.2 dX5_plugsOf_23
