def pthS (S : Int → Rc) (at_ : Int) : List Int := if at_ = -1 then [] else (S at_).2.2.2
theorem pth_m1 {S : Int → Rc} {at_ : Int} {n : Nat} (h : at_ = -1) : (-9 : Int) = (pthS S at_).getD n (-9) := by unfold pthS; rw [if_pos h]; rfl
theorem pth_0 {K G : Int → Int} {L cnt : Int} {ln st : Int → Int} (ok : okP cnt ln st) {f : Int} (h0 : 0 ≤ f) (h1 : f < cnt) (ho : (sem K G L ln st f).1 ≠ 4) {n : Nat} (hn : n = 0) : f = (pthS (sem K G L ln st) f).getD n (-9) := by
  obtain ⟨q, hq⟩ := (sem_path (K := K) (G := G) (L := L) ok h0 h1).2 ho
  unfold pthS
  rw [if_neg (by omega), hq, hn]
  rfl
theorem pth_s {K G : Int → Int} {L cnt : Int} {ln st : Int → Int} (ok : okP cnt ln st) {f : Int} (h0 : 0 ≤ f) (h1 : f < cnt) (ho : (sem K G L ln st f).1 ≠ 4) : (srcR (sem K G L ln st f) = -1 ∨ ((0 ≤ srcR (sem K G L ln st f) ∧ srcR (sem K G L ln st f) < cnt) ∧ (sem K G L ln st (srcR (sem K G L ln st f))).1 ≠ 4)) ∧ ∀ n : Nat, (pthS (sem K G L ln st) (srcR (sem K G L ln st f))).getD n (-9) = (pthS (sem K G L ln st) f).getD (n + 1) (-9) := by
  rcases path_src ok h0 h1 ho with ⟨q1, q2⟩ | ⟨q1, q2, q3⟩
  · refine ⟨Or.inl q1, fun n => ?_⟩
    unfold pthS
    rw [if_pos q1, if_neg (by omega), q2]
    rfl
  · refine ⟨Or.inr ⟨⟨q1.1, by omega⟩, q2⟩, fun n => ?_⟩
    unfold pthS
    rw [if_neg (by omega), if_neg (by omega), q3]
    rfl
theorem path_getD {K G : Int → Int} {L cnt : Int} {ln st : Int → Int} (ok : okP cnt ln st) {f : Int} (h0 : 0 ≤ f) (h1 : f < cnt) (n : Nat) : (n < (sem K G L ln st f).2.2.2.length → 0 ≤ (sem K G L ln st f).2.2.2.getD n (-9) ∧ (sem K G L ln st f).2.2.2.getD n (-9) ≤ f) ∧ ((sem K G L ln st f).2.2.2.length ≤ n → (sem K G L ln st f).2.2.2.getD n (-9) = -9) := by
  refine ⟨fun h => ?_, fun h => ?_⟩
  · rw [List.getD_eq_getElem?_getD, List.getElem?_eq_getElem h]
    exact (path_all ok f h0 h1).1 _ (List.getElem_mem h)
  · rw [List.getD_eq_getElem?_getD, List.getElem?_eq_none h]
    rfl
theorem stepR_len {K G : Int → Int} {L cnt : Int} {ln st : Int → Int} (ok : okP cnt ln st) {f v : Int} (h0 : 0 ≤ f) (h1 : f < cnt) (hv : 0 ≤ v ∧ v < 4 + f) : (stepR L (sem K G L ln st) v).2.1.length ≤ 1024 := by
  unfold stepR
  by_cases c : 4 ≤ v
  · rw [if_pos c]; exact sem_len ok (by omega) (by omega)
  · rw [if_neg c]; split
    · exact (by decide : 1 ≤ 1024)
    · exact (by decide : 0 ≤ 1024)
theorem ahead_rng {K G : Int → Int} {L cnt : Int} {ln st : Int → Int} (ok : okP cnt ln st) {f : Int} (h0 : 0 ≤ f) (h1 : f < cnt) : ∀ n : Nat, (n : Int) ≤ ln f → 0 ≤ aheadI L (sem K G L ln st) st f n ∧ aheadI L (sem K G L ln st) st f n ≤ 1024 * n
  | 0, _ => ⟨Int.le_refl 0, Int.le_refl 0⟩
  | n + 1, h => by
    have ih := ahead_rng ok h0 h1 n (by omega) (K := K) (G := G) (L := L)
    have e := ahead_s L (sem K G L ln st) st f (n := (n : Int)) (by omega)
    have hv := ok.2.2 f h0 h1 n (by omega) (by omega)
    have := stepR_len (K := K) (G := G) (L := L) ok h0 h1 hv
    rw [show ((n + 1 : Nat) : Int) = (n : Int) + 1 by omega, e]
    omega
theorem ahead_rng2 {K G : Int → Int} {L cnt : Int} {ln st : Int → Int} (ok : okP cnt ln st) {f n : Int} (h0 : 0 ≤ f) (h1 : f < cnt) (hn : 0 ≤ n) : 0 ≤ aheadI L (sem K G L ln st) st f (if n < ln f then n else ln f) ∧ aheadI L (sem K G L ln st) st f (if n < ln f then n else ln f) ≤ 4096 := by
  have hl := ok.2.1 f h0 h1
  obtain ⟨k, hk⟩ : ∃ k : Nat, (k : Int) = (if n < ln f then n else ln f) := ⟨(if n < ln f then n else ln f).toNat, by split <;> omega⟩
  rw [← hk]
  have hk2 : (k : Int) ≤ ln f := by rw [hk]; split <;> omega
  have := ahead_rng (K := K) (G := G) (L := L) ok h0 h1 k hk2
  omega
theorem b_xor {g : Int} (h : 0 ≤ g ∧ g < 4) : iI (pow2 g) ^^^ iI (-1) = iI (-1 - pow2 g) :=
  all_lt (N := 4) (P := fun g => iI (pow2 g) ^^^ iI (-1) = iI (-1 - pow2 g)) (fun m hm => (by decide +kernel : ∀ m : Nat, m < 4 → iI (pow2 (m : Int)) ^^^ iI (-1) = iI (-1 - pow2 (m : Int))) m hm) h.1 h.2
set_option maxHeartbeats 4000000 in
set_option maxRecDepth 100000 in
theorem c_X5_firstOut (l : Launch) (D : va_G) (cI cS : ClassId) (b : Nat → Nat) (a : Nat → Nat) (tk : Int → Int) (tg : Int → Int) (tl : Int) (to : Int → Int) (ta : Int → Int) (te : Int → Int) (ts : Int → Int) (tr : Int → Int) (sz : Nat) (f : Int) (g : Int) (hf : 0 ≤ f ∧ f < 5) (hg : 0 ≤ g ∧ g < 5) (hto : -2147483648 ≤ to f ∧ to f < 2147483648) : Met l yX5_firstOut wsX5_firstOut ({ frames := 0, cells := 0, slots := 0, locals := 0 }) (cP D cI cS (W_T cI cS b a tk tg tl to ta te ts tr) sz [.ref (b 0), .int (iI f), .int (iI g)]) (va_Qi (fun (r : Int32) (u : Unit) => r = iI (if to f = 4 then to g else to f)) (fun (u : Unit) t => cB D (va_A (W_T cI cS b a tk tg tl to ta te ts tr) sz) (W_T cI cS b a tk tg tl to ta te ts tr) t) (va_A (W_T cI cS b a tk tg tl to ta te ts tr) sz)) 0 0 (va_A (W_T cI cS b a tk tg tl to ta te ts tr) sz) := by
  refine Met.ofW (cc := cX5_firstOut) (maxL := 3) (ret := (some .int)) (by decide) rfl ?_
  intro p e s m args below meth c_ s₁ B hml hv
  obtain ⟨rfl, hsz, hP, hK, hD0⟩ := hv
  have hx := B.exec
  have hb := B.bytes
  have hr := B.returns
  have hts := atoms_spec (ws := wsX5_firstOut) B.pre
  have hown : s.vm.findClass RX5 = some m.cls := findClass_of_methodNamed B.named
  have hlocks := B.notSynchronized
  subst hsz
  have hD := hD0.self (sz := s.heap.size)
  generalize hAe : va_A (W_T cI cS b a tk tg tl to ta te ts tr) s.heap.size = A at hD ⊢
  have hA : ∀ q : Nat, s.heap.size ≤ q → A q := fun q h => by rw [← hAe]; exact Or.inr h
  have hS : va_S A s.heap s.heap [] := va_S.rf
  have hP : va_P D vwCl (W_T cI cS b a tk tg tl to ta te ts tr) s.heap := hP
  have hl := lv_entry ([.ref (b 0), .int (iI f), .int (iI g)] : List Value) (n := 3) (Nat.le_of_ble_eq_true rfl)
  rw [lg_entry_eq]
  generalize (lg_sl ([.ref (b 0), .int (iI f), .int (iI g)] : List Value) ++ List.replicate (3 - (lg_sl ([.ref (b 0), .int (iI f), .int (iI g)] : List Value)).length) Slot.unset).toArray = ls at hl ⊢
  have hl : lv_has ls 3 [(0, .ref (b 0)), (1, .int (iI f)), (2, .int (iI g))] := hl
  have fl_29 := hts (.fieldLink RX5 29 "ActRows$Trial" "outs" "[I") (by decide +kernel)
  have iw_5 : ∀ w ∈ wsX50, w ∈ wsX5_firstOut := by decide +kernel
  refine lv_aload_n hx hb dX5_firstOut_0 rfl (lv_at hl 0 rfl) ?_
  refine va_get (D := D) (ci := 5) (v := .ref (b 3)) (C := RX5) (T := TX5) (N := 9) hx hb hts iw_5 hown hK.1 hP 0 rfl rfl 4 (by decide) fl_29 (fun _ h9 => h9) rfl dX5_firstOut_1 ?_
  refine lv_iload_n hx hb dX5_firstOut_4 rfl (lv_at hl 1 rfl) ?_
  refine n_iald (n := 5) hx hb hK.1 hP 3 0 rfl rfl (by omega) (by decide) dX5_firstOut_5 ?_
  refine lv_iconst (v := iI 4) hx hb dX5_firstOut_6 (by decide +kernel) ?_
  refine n_icmp_eq (tgt := 19) hx hb dX5_firstOut_7 (by decide) (by omega) (fun c_1 => ?_) (fun c_1 => ?_)
  ·
    refine lv_aload_n hx hb dX5_firstOut_19 rfl (lv_at hl 0 rfl) ?_
    refine va_get (D := D) (ci := 5) (v := .ref (b 3)) (C := RX5) (T := TX5) (N := 9) hx hb hts iw_5 hown hK.1 hP 0 rfl rfl 4 (by decide) fl_29 (fun _ h9 => h9) rfl dX5_firstOut_20 ?_
    refine lv_iload_n hx hb dX5_firstOut_23 rfl (lv_at hl 2 rfl) ?_
    refine n_iald (n := 5) hx hb hK.1 hP 3 0 rfl rfl (by omega) (by decide) dX5_firstOut_24 ?_
    exact W.iret (v := iI (to g)) hx hb hr (fun t ht hW => ⟨⟨_, (), rfl, congrArg iI (show (to g) = (if to f = 4 then to g else to f) from (by first | rfl | omega | (rw [if_pos (by omega)]) | (rw [if_neg (by omega)]))), by rw [ht]; exact hP, hD⟩, hS.F ht⟩) hS.2.2 dX5_firstOut_25
  ·
    refine lv_aload_n hx hb dX5_firstOut_10 rfl (lv_at hl 0 rfl) ?_
    refine va_get (D := D) (ci := 5) (v := .ref (b 3)) (C := RX5) (T := TX5) (N := 9) hx hb hts iw_5 hown hK.1 hP 0 rfl rfl 4 (by decide) fl_29 (fun _ h9 => h9) rfl dX5_firstOut_11 ?_
    refine lv_iload_n hx hb dX5_firstOut_14 rfl (lv_at hl 1 rfl) ?_
    refine n_iald (n := 5) hx hb hK.1 hP 3 0 rfl rfl (by omega) (by decide) dX5_firstOut_15 ?_
    refine lv_goto (tgt := 25) hx hb dX5_firstOut_16 (by decide) ?_
    exact W.iret (v := iI (to f)) hx hb hr (fun t ht hW => ⟨⟨_, (), rfl, congrArg iI (show (to f) = (if to f = 4 then to g else to f) from (by first | rfl | omega | (rw [if_pos (by omega)]) | (rw [if_neg (by omega)]))), by rw [ht]; exact hP, hD⟩, hS.F ht⟩) hS.2.2 dX5_firstOut_25
set_option maxHeartbeats 4000000 in
set_option maxRecDepth 100000 in
theorem c_X5_howManyLetOut (l : Launch) (D : va_G) (cI cS : ClassId) (b : Nat → Nat) (a : Nat → Nat) (tk : Int → Int) (tg : Int → Int) (tl : Int) (to : Int → Int) (ta : Int → Int) (te : Int → Int) (ts : Int → Int) (tr : Int → Int) (cnt : Int) (lv : Int) (kd : Int → Int) (gd : Int → Int) (ln : Int → Int) (st : Int → Int) (sz : Nat) (hc : 0 ≤ cnt ∧ cnt ≤ 5) (hto : ∀ j : Int, 0 ≤ j → j < cnt → 0 ≤ to j ∧ to j ≤ 4) : Met l yX5_howManyLetOut wsX5_howManyLetOut ({ frames := 0, cells := 0, slots := 0, locals := 0 }) (cP D cI cS (W_T_P cI cS b a tk tg tl to ta te ts tr a cnt lv kd gd ln st) sz [.ref (b 0)]) (va_Qi (fun (r : Int32) (u : Unit) => r = iI (cntNe to cnt.toNat)) (fun (u : Unit) t => cB D (va_A (W_T_P cI cS b a tk tg tl to ta te ts tr a cnt lv kd gd ln st) sz) (W_T_P cI cS b a tk tg tl to ta te ts tr a cnt lv kd gd ln st) t) (va_A (W_T_P cI cS b a tk tg tl to ta te ts tr a cnt lv kd gd ln st) sz)) 0 0 (va_A (W_T_P cI cS b a tk tg tl to ta te ts tr a cnt lv kd gd ln st) sz) := by
  refine Met.ofW (cc := cX5_howManyLetOut) (maxL := 3) (ret := (some .int)) (by decide) rfl ?_
  intro p e s m args below meth c_ s₁ B hml hv
  obtain ⟨rfl, hsz, hP, hK, hD0⟩ := hv
  have hx := B.exec
  have hb := B.bytes
  have hr := B.returns
  have hts := atoms_spec (ws := wsX5_howManyLetOut) B.pre
  have hown : s.vm.findClass RX5 = some m.cls := findClass_of_methodNamed B.named
  have hlocks := B.notSynchronized
  subst hsz
  have hD := hD0.self (sz := s.heap.size)
  generalize hAe : va_A (W_T_P cI cS b a tk tg tl to ta te ts tr a cnt lv kd gd ln st) s.heap.size = A at hD ⊢
  have hA : ∀ q : Nat, s.heap.size ≤ q → A q := fun q h => by rw [← hAe]; exact Or.inr h
  have hS : va_S A s.heap s.heap [] := va_S.rf
  have hP : va_P D vwCl (W_T_P cI cS b a tk tg tl to ta te ts tr a cnt lv kd gd ln st) s.heap := hP
  have hl := lv_entry ([.ref (b 0)] : List Value) (n := 3) (Nat.le_of_ble_eq_true rfl)
  rw [lg_entry_eq]
  generalize (lg_sl ([.ref (b 0)] : List Value) ++ List.replicate (3 - (lg_sl ([.ref (b 0)] : List Value)).length) Slot.unset).toArray = ls at hl ⊢
  have hl : lv_has ls 3 [(0, .ref (b 0))] := hl
  have fl_12 := hts (.fieldLink RX5 12 "ActRows$Trial" "program" "LActRows$Program;") (by decide +kernel)
  have iw_5 : ∀ w ∈ wsX50, w ∈ wsX5_howManyLetOut := by decide +kernel
  have fn_56 := va_Nw.use (A := ([.ref (b 0)] : List Value).toArray) rfl (hK.2 ("ActRows$Trial", 56, "ActRows$Program", "count", "I") (List.mem_of_getElem? (i := 30) rfl))
  have iw_1 : ∀ w ∈ wsX10, w ∈ wsX5_howManyLetOut := by decide +kernel
  have fl_29 := hts (.fieldLink RX5 29 "ActRows$Trial" "outs" "[I") (by decide +kernel)
  refine lv_iconst (v := iI 0) hx hb dX5_howManyLetOut_0 (by decide +kernel) ?_
  refine lv_istore_n (lv' := [(1, .int (iI 0)), (0, .ref (b 0))]) hx hb dX5_howManyLetOut_1 rfl hl (by decide) rfl (fun ls hl => ?_)
  refine lv_iconst (v := iI 0) hx hb dX5_howManyLetOut_2 (by decide +kernel) ?_
  refine lv_istore_n (lv' := [(2, .int (iI 0)), (1, .int (iI 0)), (0, .ref (b 0))]) hx hb dX5_howManyLetOut_3 rfl hl (by decide) rfl (fun ls hl => ?_)
  refine x_loop (σ := Int × Int) (fun (xv_ : Int × Int) => match xv_ with | (mny, f) => (0 ≤ f ∧ f ≤ cnt) ∧ (mny = cntNe to f.toNat)) (fun (xv_ : Int × Int) => match xv_ with | (mny, f) => (cnt - f).toNat) (fun (xv_ : Int × Int) => match xv_ with | (mny, f) => (W_T_P cI cS b a tk tg tl to ta te ts tr a cnt lv kd gd ln st)) (fun (xv_ : Int × Int) => match xv_ with | (mny, f) => [(2, .int (iI f)), (1, .int (iI mny)), (0, .ref (b 0))]) (nL := 3) ?step_1 (0, 0) (by (try dsimp only); exact ⟨by omega, rfl⟩) hP hD hS hl
  case step_1 =>
    intro xv_ hI ih H locs ls hP hD hS hl
    obtain ⟨mny, f⟩ := xv_
    try dsimp only at hI ih
    obtain ⟨hf, hm⟩ := hI
    have hP : va_P D vwCl (W_T_P cI cS b a tk tg tl to ta te ts tr a cnt lv kd gd ln st) H := hP
    have hD : va_D A (W_T_P cI cS b a tk tg tl to ta te ts tr a cnt lv kd gd ln st) := hD
    have hl : lv_has ls 3 [(2, .int (iI f)), (1, .int (iI mny)), (0, .ref (b 0))] := hl
    have ih_2 := ih
    refine lv_iload_n hx hb dX5_howManyLetOut_4 rfl (lv_at hl 0 rfl) ?_
    refine lv_aload_n hx hb dX5_howManyLetOut_5 rfl (lv_at hl 2 rfl) ?_
    refine va_get (D := D) (ci := 5) (v := .ref (a 0)) (C := RX5) (T := TX5) (N := 9) hx hb hts iw_5 hown hK.1 hP 0 rfl rfl 0 (by decide) fl_12 (fun _ h9 => h9) rfl dX5_howManyLetOut_6 ?_
    refine va_getN (D := D) (ci := 1) (v := .int (iI cnt)) (C := RX1) (T := TX1) (N := 6) hx hb hts iw_1 hown hK.1 hP 8 rfl rfl 4 (by decide) fn_56 (fun _ h9 => h9) rfl dX5_howManyLetOut_9 ?_
    refine n_icmp_ge (tgt := 34) hx hb dX5_howManyLetOut_12 (by decide) (by omega) (fun c_3 => ?_) (fun c_3 => ?_)
    ·
      refine lv_iload_n hx hb dX5_howManyLetOut_34 rfl (lv_at hl 1 rfl) ?_
      exact W.iret (v := iI mny) hx hb hr (fun t ht hW => ⟨⟨_, (), rfl, congrArg iI (show mny = (cntNe to cnt.toNat) from (by rw [hm, show f = cnt by omega])), by rw [ht]; exact hP, hD⟩, hS.F ht⟩) hS.2.2 dX5_howManyLetOut_35
    ·
      refine lv_aload_n hx hb dX5_howManyLetOut_15 rfl (lv_at hl 2 rfl) ?_
      refine va_get (D := D) (ci := 5) (v := .ref (b 3)) (C := RX5) (T := TX5) (N := 9) hx hb hts iw_5 hown hK.1 hP 0 rfl rfl 4 (by decide) fl_29 (fun _ h9 => h9) rfl dX5_howManyLetOut_16 ?_
      refine lv_iload_n hx hb dX5_howManyLetOut_19 rfl (lv_at hl 0 rfl) ?_
      refine n_iald (n := 5) hx hb hK.1 hP 3 0 rfl rfl (by omega) (by decide) dX5_howManyLetOut_20 ?_
      have q_4 := hto f (by omega) (by omega)
      refine lv_iconst (v := iI 4) hx hb dX5_howManyLetOut_21 (by decide +kernel) ?_
      refine n_icmp_eq (tgt := 28) hx hb dX5_howManyLetOut_22 (by decide) (by omega) (fun c_5 => ?_) (fun c_5 => ?_)
      ·
        refine n_iinc (lv' := [(2, .int (iI (f + 1))), (1, .int (iI mny)), (0, .ref (b 0))]) hx hb dX5_howManyLetOut_28 hl (k := 0) rfl (by decide) rfl (fun ls hl => ?_)
        refine lv_goto (tgt := 4) hx hb dX5_howManyLetOut_31 (by decide) ?_
        exact ih_2 (mny, (f + 1)) (by (try dsimp only); exact ⟨by omega, by rw [cntNe_s to hf.1]; first | (rw [if_pos (by omega)]; omega) | (rw [if_neg (by omega)]; omega)⟩) (by (try dsimp only); exact (by omega)) _ _ _ hP hD hS (lv_sub hl [0, 1, 2] rfl)
      ·
        refine n_iinc (lv' := [(1, .int (iI (mny + 1))), (2, .int (iI f)), (0, .ref (b 0))]) hx hb dX5_howManyLetOut_25 hl (k := 1) rfl (by decide) rfl (fun ls hl => ?_)
        refine n_iinc (lv' := [(2, .int (iI (f + 1))), (1, .int (iI (mny + 1))), (0, .ref (b 0))]) hx hb dX5_howManyLetOut_28 hl (k := 1) rfl (by decide) rfl (fun ls hl => ?_)
        refine lv_goto (tgt := 4) hx hb dX5_howManyLetOut_31 (by decide) ?_
        exact ih_2 ((mny + 1), (f + 1)) (by (try dsimp only); exact ⟨by omega, by rw [cntNe_s to hf.1]; first | (rw [if_pos (by omega)]; omega) | (rw [if_neg (by omega)]; omega)⟩) (by (try dsimp only); exact (by omega)) _ _ _ hP hD hS (lv_sub hl [0, 1, 2] rfl)
set_option maxHeartbeats 4000000 in
set_option maxRecDepth 100000 in
theorem c_X5_pathAt (l : Launch) (D : va_G) (cI cS : ClassId) (b : Nat → Nat) (a : Nat → Nat) (tk : Int → Int) (tg : Int → Int) (tl : Int) (to : Int → Int) (ta : Int → Int) (te : Int → Int) (ts : Int → Int) (tr : Int → Int) (cnt : Int) (lv : Int) (kd : Int → Int) (gd : Int → Int) (ln : Int → Int) (st : Int → Int) (sz : Nat) (f : Int) (k : Int) (hok : okP cnt ln st) (htab : Tab cnt (sem tk tg tl ln st) to ta te ts) (hf : 0 ≤ f ∧ f < cnt) (hk : 0 ≤ k ∧ k ≤ 5) : Met l yX5_pathAt wsX5_pathAt ({ frames := 1, cells := 0, slots := 0, locals := 21 }) (cP D cI cS (W_T_P cI cS b a tk tg tl to ta te ts tr a cnt lv kd gd ln st) sz [.ref (b 0), .int (iI f), .int (iI k)]) (va_Qi (fun (r : Int32) (u : Unit) => r = iI ((sem tk tg tl ln st f).2.2.2.getD k.toNat (-9))) (fun (u : Unit) t => cB D (va_A (W_T_P cI cS b a tk tg tl to ta te ts tr a cnt lv kd gd ln st) sz) (W_T_P cI cS b a tk tg tl to ta te ts tr a cnt lv kd gd ln st) t) (va_A (W_T_P cI cS b a tk tg tl to ta te ts tr a cnt lv kd gd ln st) sz)) 0 0 (va_A (W_T_P cI cS b a tk tg tl to ta te ts tr a cnt lv kd gd ln st) sz) := by
  refine Met.ofW (cc := cX5_pathAt) (maxL := 5) (ret := (some .int)) (by decide) rfl ?_
  intro p e s m args below meth c_ s₁ B hml hv
  obtain ⟨rfl, hsz, hP, hK, hD0⟩ := hv
  have hx := B.exec
  have hb := B.bytes
  have hr := B.returns
  have hts := atoms_spec (ws := wsX5_pathAt) B.pre
  have hown : s.vm.findClass RX5 = some m.cls := findClass_of_methodNamed B.named
  have hlocks := B.notSynchronized
  subst hsz
  have hD := hD0.self (sz := s.heap.size)
  generalize hAe : va_A (W_T_P cI cS b a tk tg tl to ta te ts tr a cnt lv kd gd ln st) s.heap.size = A at hD ⊢
  have hA : ∀ q : Nat, s.heap.size ≤ q → A q := fun q h => by rw [← hAe]; exact Or.inr h
  have hS : va_S A s.heap s.heap [] := va_S.rf
  have hP : va_P D vwCl (W_T_P cI cS b a tk tg tl to ta te ts tr a cnt lv kd gd ln st) s.heap := hP
  have hl := lv_entry ([.ref (b 0), .int (iI f), .int (iI k)] : List Value) (n := 5) (Nat.le_of_ble_eq_true rfl)
  rw [lg_entry_eq]
  generalize (lg_sl ([.ref (b 0), .int (iI f), .int (iI k)] : List Value) ++ List.replicate (5 - (lg_sl ([.ref (b 0), .int (iI f), .int (iI k)] : List Value)).length) Slot.unset).toArray = ls at hl ⊢
  have hl : lv_has ls 5 [(0, .ref (b 0)), (1, .int (iI f)), (2, .int (iI k))] := hl
  have fl_29 := hts (.fieldLink RX5 29 "ActRows$Trial" "outs" "[I") (by decide +kernel)
  have iw_5 : ∀ w ∈ wsX50, w ∈ wsX5_pathAt := by decide +kernel
  have fl_12 := hts (.fieldLink RX5 12 "ActRows$Trial" "program" "LActRows$Program;") (by decide +kernel)
  have fl_38 := hts (.fieldLink RX5 38 "ActRows$Trial" "sources" "[I") (by decide +kernel)
  have hc := hok.1
  have hln := hok.2.1
  have htf := htab f hf.1 hf.2
  have hof := (sem_ok (K := tk) (G := tg) (L := tl) hok f hf.1 hf.2).1
  refine lv_aload_n hx hb dX5_pathAt_0 rfl (lv_at hl 0 rfl) ?_
  refine va_get (D := D) (ci := 5) (v := .ref (b 3)) (C := RX5) (T := TX5) (N := 9) hx hb hts iw_5 hown hK.1 hP 0 rfl rfl 4 (by decide) fl_29 (fun _ h9 => h9) rfl dX5_pathAt_1 ?_
  refine lv_iload_n hx hb dX5_pathAt_4 rfl (lv_at hl 1 rfl) ?_
  refine n_iald (n := 5) hx hb hK.1 hP 3 0 rfl rfl (by omega) (by decide) dX5_pathAt_5 ?_
  refine lv_iconst (v := iI 4) hx hb dX5_pathAt_6 (by decide +kernel) ?_
  refine n_icmp_ne (tgt := 13) hx hb dX5_pathAt_7 (by decide) (by omega) (fun c_1 => ?_) (fun c_1 => ?_)
  ·
    refine lv_iload_n hx hb dX5_pathAt_13 rfl (lv_at hl 1 rfl) ?_
    refine lv_istore_n (lv' := [(3, .int (iI f)), (0, .ref (b 0)), (1, .int (iI f)), (2, .int (iI k))]) hx hb dX5_pathAt_14 rfl hl (by decide) rfl (fun ls hl => ?_)
    refine lv_iconst (v := iI 0) hx hb dX5_pathAt_15 (by decide +kernel) ?_
    refine lv_istore (lv' := [(4, .int (iI 0)), (3, .int (iI f)), (0, .ref (b 0)), (1, .int (iI f)), (2, .int (iI k))]) hx hb dX5_pathAt_16 hl (by decide) rfl (fun ls hl => ?_)
    refine x_loop (σ := Int × Int) (fun (xv_ : Int × Int) => match xv_ with | (at_, pl) => (0 ≤ pl ∧ pl ≤ k) ∧ (at_ = -1 ∨ ((0 ≤ at_ ∧ at_ < cnt) ∧ (sem tk tg tl ln st at_).1 ≠ 4)) ∧ ((pthS (sem tk tg tl ln st) at_).getD (k - pl).toNat (-9) = (sem tk tg tl ln st f).2.2.2.getD k.toNat (-9))) (fun (xv_ : Int × Int) => match xv_ with | (at_, pl) => (k - pl).toNat) (fun (xv_ : Int × Int) => match xv_ with | (at_, pl) => (W_T_P cI cS b a tk tg tl to ta te ts tr a cnt lv kd gd ln st)) (fun (xv_ : Int × Int) => match xv_ with | (at_, pl) => [(4, .int (iI pl)), (3, .int (iI at_)), (0, .ref (b 0)), (1, .int (iI f)), (2, .int (iI k))]) (nL := 5) ?step_2 (f, 0) (by (try dsimp only); exact ⟨by omega, Or.inr ⟨hf, by omega⟩, by unfold pthS; rw [if_neg (by omega), Int.sub_zero]⟩) hP hD hS hl
    case step_2 =>
      intro xv_ hI ih H locs ls hP hD hS hl
      obtain ⟨at_, pl⟩ := xv_
      try dsimp only at hI ih
      obtain ⟨hp, hat, hq⟩ := hI
      have hP : va_P D vwCl (W_T_P cI cS b a tk tg tl to ta te ts tr a cnt lv kd gd ln st) H := hP
      have hD : va_D A (W_T_P cI cS b a tk tg tl to ta te ts tr a cnt lv kd gd ln st) := hD
      have hl : lv_has ls 5 [(4, .int (iI pl)), (3, .int (iI at_)), (0, .ref (b 0)), (1, .int (iI f)), (2, .int (iI k))] := hl
      have ih_3 := ih
      refine lv_iload hx hb dX5_pathAt_18 (lv_at hl 0 rfl) ?_
      refine lv_iload_n hx hb dX5_pathAt_20 rfl (lv_at hl 4 rfl) ?_
      refine n_icmp_ge (tgt := 57) hx hb dX5_pathAt_21 (by decide) (by omega) (fun c_4 => ?_) (fun c_4 => ?_)
      ·
        refine lv_iload_n hx hb dX5_pathAt_57 rfl (lv_at hl 1 rfl) ?_
        refine lv_iconst (v := iI (-1)) hx hb dX5_pathAt_58 (by decide +kernel) ?_
        refine n_icmp_ne (tgt := 67) hx hb dX5_pathAt_59 (by decide) (by omega) (fun c_5 => ?_) (fun c_5 => ?_)
        ·
          refine lv_iload_n hx hb dX5_pathAt_67 rfl (lv_at hl 1 rfl) ?_
          exact W.iret (v := iI at_) hx hb hr (fun t ht hW => ⟨⟨_, (), rfl, congrArg iI (show at_ = ((sem tk tg tl ln st f).2.2.2.getD k.toNat (-9)) from (by rw [← hq]; first | exact pth_m1 (by omega) | (rcases hat with q | q; exact absurd q (by assumption); exact pth_0 hok q.1.1 q.1.2 q.2 (by omega)))), by rw [ht]; exact hP, hD⟩, hS.F ht⟩) hS.2.2 dX5_pathAt_68
        ·
          refine lv_bipush (v := iI (-9)) hx hb dX5_pathAt_62 (by decide +kernel) ?_
          refine lv_goto (tgt := 68) hx hb dX5_pathAt_64 (by decide) ?_
          exact W.iret (v := iI (-9)) hx hb hr (fun t ht hW => ⟨⟨_, (), rfl, congrArg iI (show (-9) = ((sem tk tg tl ln st f).2.2.2.getD k.toNat (-9)) from (by rw [← hq]; first | exact pth_m1 (by omega) | (rcases hat with q | q; exact absurd q (by assumption); exact pth_0 hok q.1.1 q.1.2 q.2 (by omega)))), by rw [ht]; exact hP, hD⟩, hS.F ht⟩) hS.2.2 dX5_pathAt_68
      ·
        refine lv_iload_n hx hb dX5_pathAt_24 rfl (lv_at hl 1 rfl) ?_
        refine lv_iconst (v := iI (-1)) hx hb dX5_pathAt_25 (by decide +kernel) ?_
        refine n_icmp_eq (tgt := 57) hx hb dX5_pathAt_26 (by decide) (by omega) (fun c_6 => ?_) (fun c_6 => ?_)
        ·
          refine lv_iload_n hx hb dX5_pathAt_57 rfl (lv_at hl 1 rfl) ?_
          refine lv_iconst (v := iI (-1)) hx hb dX5_pathAt_58 (by decide +kernel) ?_
          refine n_icmp_ne (tgt := 67) hx hb dX5_pathAt_59 (by decide) (by omega) (fun c_7 => ?_) (fun c_7 => ?_)
          · exact False.elim (by first | contradiction | omega)
          ·
            refine lv_bipush (v := iI (-9)) hx hb dX5_pathAt_62 (by decide +kernel) ?_
            refine lv_goto (tgt := 68) hx hb dX5_pathAt_64 (by decide) ?_
            exact W.iret (v := iI (-9)) hx hb hr (fun t ht hW => ⟨⟨_, (), rfl, congrArg iI (show (-9) = ((sem tk tg tl ln st f).2.2.2.getD k.toNat (-9)) from (by rw [← hq]; first | exact pth_m1 (by omega) | (rcases hat with q | q; exact absurd q (by assumption); exact pth_0 hok q.1.1 q.1.2 q.2 (by omega)))), by rw [ht]; exact hP, hD⟩, hS.F ht⟩) hS.2.2 dX5_pathAt_68
        ·
          have hav : (0 ≤ at_ ∧ at_ < cnt) ∧ (sem tk tg tl ln st at_).1 ≠ 4 := by rcases hat with q | q; exact absurd q (by assumption); exact q
          have hsr := (htab at_ hav.1.1 hav.1.2).2.2.2
          have hps := pth_s (K := tk) (G := tg) (L := tl) hok hav.1.1 hav.1.2 hav.2
          refine lv_aload_n hx hb dX5_pathAt_29 rfl (lv_at hl 2 rfl) ?_
          refine va_get (D := D) (ci := 5) (v := .ref (a 0)) (C := RX5) (T := TX5) (N := 9) hx hb hts iw_5 hown hK.1 hP 0 rfl rfl 0 (by decide) fl_12 (fun _ h9 => h9) rfl dX5_pathAt_30 ?_
          refine lv_iload_n hx hb dX5_pathAt_33 rfl (lv_at hl 1 rfl) ?_
          refine x_callVi (As := [.int (iI at_)]) (rest := []) ⟨hx, hb, hml, hown, hts⟩ (c_X1_has l D cI cS a cnt lv kd gd ln st H.size at_ (by first | assumption | omega) (by first | assumption | omega)) (cwV 1 hts gX5_pathAt_X1_has rfl rfl rfl (by decide +kernel) ⟨Nat.le_of_ble_eq_true rfl, Nat.le_of_ble_eq_true rfl⟩) hK hP hD hS hA [8, 9, 10, 11, 12] [0, 1, 2, 3, 4, 5, 6, 7] (wr := [(b 0, .inr (5, [.ref (a 0), .ref (b 1), .ref (b 2), .int (iI tl), .ref (b 3), .ref (b 4), .ref (b 5), .ref (b 6), .ref (b 7)])), (b 1, .inl (cI, 5, .inl (aI tk))), (b 2, .inl (cI, 5, .inl (aI tg))), (b 3, .inl (cI, 5, .inl (aI to))), (b 4, .inl (cI, 5, .inl (aI ta))), (b 5, .inl (cI, 5, .inl (aI te))), (b 6, .inl (cI, 5, .inl (aI ts))), (b 7, .inl (cI, 5, .inl (aI tr)))]) rfl rfl (by decide) (by decide) (by decide) 0 1 rfl rfl rfl [0, 1, 2, 3, 4, 5, 6, 7, 8, 9, 10, 11, 12] (fun (u : Unit) => (W_T_P cI cS b a tk tg tl to ta te ts tr a cnt lv kd gd ln st)) (fun _ => rfl) (by decide) rfl hl.1 rfl (Nat.le_of_ble_eq_true rfl) ⟨Nat.zero_le _, Nat.zero_le _⟩ dX5_pathAt_34 (fun r_ u_ H locs hw hP hD hS => ?_)
          try dsimp only at hw
          subst hw
          have hP : va_P D vwCl (W_T_P cI cS b a tk tg tl to ta te ts tr a cnt lv kd gd ln st) H := hP
          have hD : va_D A (W_T_P cI cS b a tk tg tl to ta te ts tr a cnt lv kd gd ln st) := hD
          refine n_if_b1 (tgt := 49) hx hb dX5_pathAt_37 (by decide)  (fun c_8 => ?_) (fun c_8 => ?_)
          · exact False.elim (by first | contradiction | omega)
          ·
            refine lv_aload_n hx hb dX5_pathAt_40 rfl (lv_at hl 2 rfl) ?_
            refine va_get (D := D) (ci := 5) (v := .ref (b 6)) (C := RX5) (T := TX5) (N := 9) hx hb hts iw_5 hown hK.1 hP 0 rfl rfl 7 (by decide) fl_38 (fun _ h9 => h9) rfl dX5_pathAt_41 ?_
            refine lv_iload_n hx hb dX5_pathAt_44 rfl (lv_at hl 1 rfl) ?_
            refine n_iald (n := 5) hx hb hK.1 hP 6 0 rfl rfl (by omega) (by decide) dX5_pathAt_45 ?_
            refine lv_goto (tgt := 50) hx hb dX5_pathAt_46 (by decide) ?_
            refine lv_istore_n (lv' := [(3, .int (iI (ts at_))), (4, .int (iI pl)), (0, .ref (b 0)), (1, .int (iI f)), (2, .int (iI k))]) hx hb dX5_pathAt_50 rfl hl (by decide) rfl (fun ls hl => ?_)
            refine n_iinc (lv' := [(4, .int (iI (pl + 1))), (3, .int (iI (ts at_))), (0, .ref (b 0)), (1, .int (iI f)), (2, .int (iI k))]) hx hb dX5_pathAt_51 hl (k := 1) rfl (by decide) rfl (fun ls hl => ?_)
            refine lv_goto (tgt := 18) hx hb dX5_pathAt_54 (by decide) ?_
            exact ih_3 ((ts at_), (pl + 1)) (by (try dsimp only); exact ⟨by omega, by rw [hsr]; exact hps.1, by rw [hsr, hps.2, show (k - (pl + 1)).toNat + 1 = (k - pl).toNat by omega]; exact hq⟩) (by (try dsimp only); exact (by omega)) _ _ _ hP hD hS (lv_sub hl [0, 1, 2, 3, 4] rfl)
  ·
    refine lv_bipush (v := iI (-9)) hx hb dX5_pathAt_10 (by decide +kernel) ?_
    exact W.iret (v := iI (-9)) hx hb hr (fun t ht hW => ⟨⟨_, (), rfl, congrArg iI (show (-9) = ((sem tk tg tl ln st f).2.2.2.getD k.toNat (-9)) from (by rw [(sem_path (K := tk) (G := tg) (L := tl) hok hf.1 hf.2).1 (by omega)]; rfl)), by rw [ht]; exact hP, hD⟩, hS.F ht⟩) hS.2.2 dX5_pathAt_12
set_option maxHeartbeats 4000000 in
set_option maxRecDepth 100000 in
theorem c_X5_pathLength (l : Launch) (D : va_G) (cI cS : ClassId) (b : Nat → Nat) (a : Nat → Nat) (tk : Int → Int) (tg : Int → Int) (tl : Int) (to : Int → Int) (ta : Int → Int) (te : Int → Int) (ts : Int → Int) (tr : Int → Int) (cnt : Int) (lv : Int) (kd : Int → Int) (gd : Int → Int) (ln : Int → Int) (st : Int → Int) (sz : Nat) (f : Int) (hok : okP cnt ln st) (htab : Tab cnt (sem tk tg tl ln st) to ta te ts) (hf : 0 ≤ f ∧ f < cnt) : Met l yX5_pathLength wsX5_pathLength ({ frames := 2, cells := 0, slots := 0, locals := 45 }) (cP D cI cS (W_T_P cI cS b a tk tg tl to ta te ts tr a cnt lv kd gd ln st) sz [.ref (b 0), .int (iI f)]) (va_Qi (fun (r : Int32) (u : Unit) => r = iI ((sem tk tg tl ln st f).2.2.2.length : Int)) (fun (u : Unit) t => cB D (va_A (W_T_P cI cS b a tk tg tl to ta te ts tr a cnt lv kd gd ln st) sz) (W_T_P cI cS b a tk tg tl to ta te ts tr a cnt lv kd gd ln st) t) (va_A (W_T_P cI cS b a tk tg tl to ta te ts tr a cnt lv kd gd ln st) sz)) 0 0 (va_A (W_T_P cI cS b a tk tg tl to ta te ts tr a cnt lv kd gd ln st) sz) := by
  refine Met.ofW (cc := cX5_pathLength) (maxL := 3) (ret := (some .int)) (by decide) rfl ?_
  intro p e s m args below meth c_ s₁ B hml hv
  obtain ⟨rfl, hsz, hP, hK, hD0⟩ := hv
  have hx := B.exec
  have hb := B.bytes
  have hr := B.returns
  have hts := atoms_spec (ws := wsX5_pathLength) B.pre
  have hown : s.vm.findClass RX5 = some m.cls := findClass_of_methodNamed B.named
  have hlocks := B.notSynchronized
  subst hsz
  have hD := hD0.self (sz := s.heap.size)
  generalize hAe : va_A (W_T_P cI cS b a tk tg tl to ta te ts tr a cnt lv kd gd ln st) s.heap.size = A at hD ⊢
  have hA : ∀ q : Nat, s.heap.size ≤ q → A q := fun q h => by rw [← hAe]; exact Or.inr h
  have hS : va_S A s.heap s.heap [] := va_S.rf
  have hP : va_P D vwCl (W_T_P cI cS b a tk tg tl to ta te ts tr a cnt lv kd gd ln st) s.heap := hP
  have hl := lv_entry ([.ref (b 0), .int (iI f)] : List Value) (n := 3) (Nat.le_of_ble_eq_true rfl)
  rw [lg_entry_eq]
  generalize (lg_sl ([.ref (b 0), .int (iI f)] : List Value) ++ List.replicate (3 - (lg_sl ([.ref (b 0), .int (iI f)] : List Value)).length) Slot.unset).toArray = ls at hl ⊢
  have hl : lv_has ls 3 [(0, .ref (b 0)), (1, .int (iI f))] := hl
  have hc := hok.1
  have hln := hok.2.1
  have htf := htab f hf.1 hf.2
  have hof := (sem_ok (K := tk) (G := tg) (L := tl) hok f hf.1 hf.2).1
  have hpa := (path_all (K := tk) (G := tg) (L := tl) hok f hf.1 hf.2).2
  refine lv_iconst (v := iI 0) hx hb dX5_pathLength_0 (by decide +kernel) ?_
  refine lv_istore_n (lv' := [(2, .int (iI 0)), (0, .ref (b 0)), (1, .int (iI f))]) hx hb dX5_pathLength_1 rfl hl (by decide) rfl (fun ls hl => ?_)
  refine x_loop (σ := Int) (fun (n : Int) => (0 ≤ n ∧ n ≤ 5) ∧ (n ≤ ((sem tk tg tl ln st f).2.2.2.length : Int))) (fun (n : Int) => (5 - n).toNat) (fun (n : Int) => (W_T_P cI cS b a tk tg tl to ta te ts tr a cnt lv kd gd ln st)) (fun (n : Int) => [(2, .int (iI n)), (0, .ref (b 0)), (1, .int (iI f))]) (nL := 3) ?step_1 0 (by (try dsimp only); exact ⟨by omega, by omega⟩) hP hD hS hl
  case step_1 =>
    intro xv_ hI ih H locs ls hP hD hS hl
    obtain ⟨n, ex_⟩ : ∃ z, z = xv_ := ⟨_, rfl⟩
    subst ex_
    try dsimp only at hI ih
    obtain ⟨hn, hn2⟩ := hI
    have hP : va_P D vwCl (W_T_P cI cS b a tk tg tl to ta te ts tr a cnt lv kd gd ln st) H := hP
    have hD : va_D A (W_T_P cI cS b a tk tg tl to ta te ts tr a cnt lv kd gd ln st) := hD
    have hl : lv_has ls 3 [(2, .int (iI n)), (0, .ref (b 0)), (1, .int (iI f))] := hl
    have ih_2 := ih
    refine lv_iload_n hx hb dX5_pathLength_2 rfl (lv_at hl 0 rfl) ?_
    refine lv_iconst (v := iI 5) hx hb dX5_pathLength_3 (by decide +kernel) ?_
    refine n_icmp_ge (tgt := 24) hx hb dX5_pathLength_4 (by decide) (by omega) (fun c_3 => ?_) (fun c_3 => ?_)
    ·
      refine lv_iload_n hx hb dX5_pathLength_24 rfl (lv_at hl 0 rfl) ?_
      exact W.iret (v := iI n) hx hb hr (fun t ht hW => ⟨⟨_, (), rfl, congrArg iI (show n = ((sem tk tg tl ln st f).2.2.2.length : Int) from (by omega)), by rw [ht]; exact hP, hD⟩, hS.F ht⟩) hS.2.2 dX5_pathLength_25
    ·
      refine lv_aload_n hx hb dX5_pathLength_7 rfl (lv_at hl 1 rfl) ?_
      refine lv_iload_n hx hb dX5_pathLength_8 rfl (lv_at hl 2 rfl) ?_
      refine lv_iload_n hx hb dX5_pathLength_9 rfl (lv_at hl 0 rfl) ?_
      refine x_callVi (As := [.int (iI f), .int (iI n)]) (rest := []) ⟨hx, hb, hml, hown, hts⟩ (c_X5_pathAt l D cI cS b a tk tg tl to ta te ts tr cnt lv kd gd ln st H.size f n (by first | assumption | omega) (by first | assumption | omega) (by first | assumption | omega) (by first | assumption | omega)) (cwV 2 hts gX5_pathLength_X5_pathAt rfl rfl rfl (by decide +kernel) ⟨Nat.le_of_ble_eq_true rfl, Nat.le_of_ble_eq_true rfl⟩) hK hP hD hS hA [0, 1, 2, 3, 4, 5, 6, 7, 8, 9, 10, 11, 12] [] (wr := ([] : va_W)) rfl rfl (by decide) (by decide) (by decide) 0 5 rfl rfl rfl [0, 1, 2, 3, 4, 5, 6, 7, 8, 9, 10, 11, 12] (fun (u : Unit) => (W_T_P cI cS b a tk tg tl to ta te ts tr a cnt lv kd gd ln st)) (fun _ => rfl) (by decide) rfl hl.1 rfl (Nat.le_of_ble_eq_true rfl) ⟨Nat.zero_le _, Nat.zero_le _⟩ dX5_pathLength_10 (fun r_ u_ H locs hw hP hD hS => ?_)
      try dsimp only at hw
      subst hw
      have hP : va_P D vwCl (W_T_P cI cS b a tk tg tl to ta te ts tr a cnt lv kd gd ln st) H := hP
      have hD : va_D A (W_T_P cI cS b a tk tg tl to ta te ts tr a cnt lv kd gd ln st) := hD
      obtain ⟨z, h_z⟩ : ∃ z_ : Int, z_ = ((sem tk tg tl ln st f).2.2.2.getD n.toNat (-9)) := ⟨_, rfl⟩
      rw [← h_z]
      have hz := path_getD (K := tk) (G := tg) (L := tl) hok hf.1 hf.2 n.toNat
      rw [← h_z] at hz
      have hz3 : n < ((sem tk tg tl ln st f).2.2.2.length : Int) ∨ ((sem tk tg tl ln st f).2.2.2.length : Int) ≤ n := by omega
      have hz4 : (0 ≤ z ∧ z ≤ f ∧ n < ((sem tk tg tl ln st f).2.2.2.length : Int)) ∨ (z = -9 ∧ ((sem tk tg tl ln st f).2.2.2.length : Int) ≤ n) := by
        rcases hz3 with q | q
        · exact Or.inl ⟨(hz.1 (by omega)).1, (hz.1 (by omega)).2, q⟩
        · exact Or.inr ⟨hz.2 (by omega), q⟩
      refine lv_bipush (v := iI (-9)) hx hb dX5_pathLength_13 (by decide +kernel) ?_
      refine n_icmp_eq (tgt := 24) hx hb dX5_pathLength_15 (by decide) (by omega) (fun c_4 => ?_) (fun c_4 => ?_)
      ·
        refine lv_iload_n hx hb dX5_pathLength_24 rfl (lv_at hl 0 rfl) ?_
        exact W.iret (v := iI n) hx hb hr (fun t ht hW => ⟨⟨_, (), rfl, congrArg iI (show n = ((sem tk tg tl ln st f).2.2.2.length : Int) from (by omega)), by rw [ht]; exact hP, hD⟩, hS.F ht⟩) hS.2.2 dX5_pathLength_25
      ·
        refine n_iinc (lv' := [(2, .int (iI (n + 1))), (0, .ref (b 0)), (1, .int (iI f))]) hx hb dX5_pathLength_18 hl (k := 0) rfl (by decide) rfl (fun ls hl => ?_)
        refine lv_goto (tgt := 2) hx hb dX5_pathLength_21 (by decide) ?_
        exact ih_2 (n + 1) (by (try dsimp only); exact ⟨by omega, by omega⟩) (by (try dsimp only); exact (by omega)) _ _ _ hP hD hS (lv_sub hl [0, 1, 2] rfl)
set_option maxHeartbeats 4000000 in
set_option maxRecDepth 100000 in
theorem c_X5_actsAheadOf (l : Launch) (D : va_G) (cI cS : ClassId) (b : Nat → Nat) (a : Nat → Nat) (tk : Int → Int) (tg : Int → Int) (tl : Int) (to : Int → Int) (ta : Int → Int) (te : Int → Int) (ts : Int → Int) (tr : Int → Int) (cnt : Int) (lv : Int) (kd : Int → Int) (gd : Int → Int) (ln : Int → Int) (st : Int → Int) (sz : Nat) (f : Int) (i : Int) (hok : okP cnt ln st) (hkk : okK cnt tk tg tl) (htab : Tab cnt (sem tk tg tl ln st) to ta te ts) (hf : 0 ≤ f ∧ f < cnt) (hi : 0 ≤ i ∧ i ≤ 5) : Met l yX5_actsAheadOf wsX5_actsAheadOf ({ frames := 3, cells := 0, slots := 0, locals := 65 }) (cP D cI cS (W_T_P cI cS b a tk tg tl to ta te ts tr a cnt lv kd gd ln st) sz [.ref (b 0), .int (iI f), .int (iI i)]) (va_Qi (fun (r : Int32) (u : Unit) => r = iI (aheadI tl (sem tk tg tl ln st) st f (if i < ln f then i else ln f))) (fun (u : Unit) t => cB D (va_A (W_T_P cI cS b a tk tg tl to ta te ts tr a cnt lv kd gd ln st) sz) (W_T_P cI cS b a tk tg tl to ta te ts tr a cnt lv kd gd ln st) t) (va_A (W_T_P cI cS b a tk tg tl to ta te ts tr a cnt lv kd gd ln st) sz)) 0 0 (va_A (W_T_P cI cS b a tk tg tl to ta te ts tr a cnt lv kd gd ln st) sz) := by
  refine Met.ofW (cc := cX5_actsAheadOf) (maxL := 5) (ret := (some .int)) (by decide) rfl ?_
  intro p e s m args below meth c_ s₁ B hml hv
  obtain ⟨rfl, hsz, hP, hK, hD0⟩ := hv
  have hx := B.exec
  have hb := B.bytes
  have hr := B.returns
  have hts := atoms_spec (ws := wsX5_actsAheadOf) B.pre
  have hown : s.vm.findClass RX5 = some m.cls := findClass_of_methodNamed B.named
  have hlocks := B.notSynchronized
  subst hsz
  have hD := hD0.self (sz := s.heap.size)
  generalize hAe : va_A (W_T_P cI cS b a tk tg tl to ta te ts tr a cnt lv kd gd ln st) s.heap.size = A at hD ⊢
  have hA : ∀ q : Nat, s.heap.size ≤ q → A q := fun q h => by rw [← hAe]; exact Or.inr h
  have hS : va_S A s.heap s.heap [] := va_S.rf
  have hP : va_P D vwCl (W_T_P cI cS b a tk tg tl to ta te ts tr a cnt lv kd gd ln st) s.heap := hP
  have hl := lv_entry ([.ref (b 0), .int (iI f), .int (iI i)] : List Value) (n := 5) (Nat.le_of_ble_eq_true rfl)
  rw [lg_entry_eq]
  generalize (lg_sl ([.ref (b 0), .int (iI f), .int (iI i)] : List Value) ++ List.replicate (5 - (lg_sl ([.ref (b 0), .int (iI f), .int (iI i)] : List Value)).length) Slot.unset).toArray = ls at hl ⊢
  have hl : lv_has ls 5 [(0, .ref (b 0)), (1, .int (iI f)), (2, .int (iI i))] := hl
  have fl_12 := hts (.fieldLink RX5 12 "ActRows$Trial" "program" "LActRows$Program;") (by decide +kernel)
  have iw_5 : ∀ w ∈ wsX50, w ∈ wsX5_actsAheadOf := by decide +kernel
  have hc := hok.1
  have hln := hok.2.1
  have hL := hkk.2
  have hlf := hln f hf.1 hf.2
  refine lv_iconst (v := iI 0) hx hb dX5_actsAheadOf_0 (by decide +kernel) ?_
  refine lv_istore_n (lv' := [(3, .int (iI 0)), (0, .ref (b 0)), (1, .int (iI f)), (2, .int (iI i))]) hx hb dX5_actsAheadOf_1 rfl hl (by decide) rfl (fun ls hl => ?_)
  refine lv_iconst (v := iI 0) hx hb dX5_actsAheadOf_2 (by decide +kernel) ?_
  refine lv_istore (lv' := [(4, .int (iI 0)), (3, .int (iI 0)), (0, .ref (b 0)), (1, .int (iI f)), (2, .int (iI i))]) hx hb dX5_actsAheadOf_3 hl (by decide) rfl (fun ls hl => ?_)
  refine x_loop (σ := Int × Int) (fun (xv_ : Int × Int) => match xv_ with | (ac, bf) => (0 ≤ bf ∧ bf ≤ i ∧ bf ≤ ln f) ∧ (ac = aheadI tl (sem tk tg tl ln st) st f bf)) (fun (xv_ : Int × Int) => match xv_ with | (ac, bf) => (i - bf).toNat) (fun (xv_ : Int × Int) => match xv_ with | (ac, bf) => (W_T_P cI cS b a tk tg tl to ta te ts tr a cnt lv kd gd ln st)) (fun (xv_ : Int × Int) => match xv_ with | (ac, bf) => [(4, .int (iI bf)), (3, .int (iI ac)), (0, .ref (b 0)), (1, .int (iI f)), (2, .int (iI i))]) (nL := 5) ?step_1 (0, 0) (by (try dsimp only); exact ⟨by omega, rfl⟩) hP hD hS hl
  case step_1 =>
    intro xv_ hI ih H locs ls hP hD hS hl
    obtain ⟨ac, bf⟩ := xv_
    try dsimp only at hI ih
    obtain ⟨hb_, ha⟩ := hI
    have hP : va_P D vwCl (W_T_P cI cS b a tk tg tl to ta te ts tr a cnt lv kd gd ln st) H := hP
    have hD : va_D A (W_T_P cI cS b a tk tg tl to ta te ts tr a cnt lv kd gd ln st) := hD
    have hl : lv_has ls 5 [(4, .int (iI bf)), (3, .int (iI ac)), (0, .ref (b 0)), (1, .int (iI f)), (2, .int (iI i))] := hl
    have ih_2 := ih
    refine lv_iload hx hb dX5_actsAheadOf_5 (lv_at hl 0 rfl) ?_
    refine lv_iload_n hx hb dX5_actsAheadOf_7 rfl (lv_at hl 4 rfl) ?_
    refine n_icmp_ge (tgt := 47) hx hb dX5_actsAheadOf_8 (by decide) (by omega) (fun c_3 => ?_) (fun c_3 => ?_)
    ·
      refine lv_iload_n hx hb dX5_actsAheadOf_47 rfl (lv_at hl 1 rfl) ?_
      exact W.iret (v := iI ac) hx hb hr (fun t ht hW => ⟨⟨_, (), rfl, congrArg iI (show ac = (aheadI tl (sem tk tg tl ln st) st f (if i < ln f then i else ln f)) from (by rw [ha]; congr 1; split <;> omega)), by rw [ht]; exact hP, hD⟩, hS.F ht⟩) hS.2.2 dX5_actsAheadOf_48
    ·
      refine lv_aload_n hx hb dX5_actsAheadOf_11 rfl (lv_at hl 2 rfl) ?_
      refine va_get (D := D) (ci := 5) (v := .ref (a 0)) (C := RX5) (T := TX5) (N := 9) hx hb hts iw_5 hown hK.1 hP 0 rfl rfl 0 (by decide) fl_12 (fun _ h9 => h9) rfl dX5_actsAheadOf_12 ?_
      refine lv_iload_n hx hb dX5_actsAheadOf_15 rfl (lv_at hl 3 rfl) ?_
      refine lv_iload hx hb dX5_actsAheadOf_16 (lv_at hl 0 rfl) ?_
      refine x_callVi (As := [.int (iI f), .int (iI bf)]) (rest := []) ⟨hx, hb, hml, hown, hts⟩ (c_X1_hasStep l D cI cS a cnt lv kd gd ln st H.size f bf (by first | assumption | omega) (by first | assumption | omega) (by first | assumption | omega) (by first | assumption | omega)) (cwV 2 hts gX5_actsAheadOf_X1_hasStep rfl rfl rfl (by decide +kernel) ⟨Nat.le_of_ble_eq_true rfl, Nat.le_of_ble_eq_true rfl⟩) hK hP hD hS hA [8, 9, 10, 11, 12] [0, 1, 2, 3, 4, 5, 6, 7] (wr := [(b 0, .inr (5, [.ref (a 0), .ref (b 1), .ref (b 2), .int (iI tl), .ref (b 3), .ref (b 4), .ref (b 5), .ref (b 6), .ref (b 7)])), (b 1, .inl (cI, 5, .inl (aI tk))), (b 2, .inl (cI, 5, .inl (aI tg))), (b 3, .inl (cI, 5, .inl (aI to))), (b 4, .inl (cI, 5, .inl (aI ta))), (b 5, .inl (cI, 5, .inl (aI te))), (b 6, .inl (cI, 5, .inl (aI ts))), (b 7, .inl (cI, 5, .inl (aI tr)))]) rfl rfl (by decide) (by decide) (by decide) 0 1 rfl rfl rfl [0, 1, 2, 3, 4, 5, 6, 7, 8, 9, 10, 11, 12] (fun (u : Unit) => (W_T_P cI cS b a tk tg tl to ta te ts tr a cnt lv kd gd ln st)) (fun _ => rfl) (by decide) rfl hl.1 rfl (Nat.le_of_ble_eq_true rfl) ⟨Nat.zero_le _, Nat.zero_le _⟩ dX5_actsAheadOf_18 (fun r_ u_ H locs hw hP hD hS => ?_)
      try dsimp only at hw
      subst hw
      have hP : va_P D vwCl (W_T_P cI cS b a tk tg tl to ta te ts tr a cnt lv kd gd ln st) H := hP
      have hD : va_D A (W_T_P cI cS b a tk tg tl to ta te ts tr a cnt lv kd gd ln st) := hD
      refine n_if_b1 (tgt := 47) hx hb dX5_actsAheadOf_21 (by decide)  (fun c_4 => ?_) (fun c_4 => ?_)
      ·
        refine lv_iload_n hx hb dX5_actsAheadOf_47 rfl (lv_at hl 1 rfl) ?_
        exact W.iret (v := iI ac) hx hb hr (fun t ht hW => ⟨⟨_, (), rfl, congrArg iI (show ac = (aheadI tl (sem tk tg tl ln st) st f (if i < ln f then i else ln f)) from (by rw [ha]; congr 1; split <;> omega)), by rw [ht]; exact hP, hD⟩, hS.F ht⟩) hS.2.2 dX5_actsAheadOf_48
      ·
        refine lv_iload_n hx hb dX5_actsAheadOf_24 rfl (lv_at hl 1 rfl) ?_
        refine lv_aload_n hx hb dX5_actsAheadOf_25 rfl (lv_at hl 2 rfl) ?_
        refine lv_aload_n hx hb dX5_actsAheadOf_26 rfl (lv_at hl 2 rfl) ?_
        refine va_get (D := D) (ci := 5) (v := .ref (a 0)) (C := RX5) (T := TX5) (N := 9) hx hb hts iw_5 hown hK.1 hP 0 rfl rfl 0 (by decide) fl_12 (fun _ h9 => h9) rfl dX5_actsAheadOf_27 ?_
        refine lv_iload_n hx hb dX5_actsAheadOf_30 rfl (lv_at hl 3 rfl) ?_
        refine lv_iload hx hb dX5_actsAheadOf_31 (lv_at hl 0 rfl) ?_
        refine x_callVi (As := [.int (iI f), .int (iI bf)]) (rest := [.ref (b 0), .int (iI ac)]) ⟨hx, hb, hml, hown, hts⟩ (c_X1_stepAt l D cI cS a cnt lv kd gd ln st H.size f bf (by first | assumption | omega) (by first | assumption | omega) (by first | assumption | omega) (by first | assumption | omega)) (cwV 2 hts gX5_actsAheadOf_X1_stepAt rfl rfl rfl (by decide +kernel) ⟨Nat.le_of_ble_eq_true rfl, Nat.le_of_ble_eq_true rfl⟩) hK hP hD hS hA [8, 9, 10, 11, 12] [0, 1, 2, 3, 4, 5, 6, 7] (wr := [(b 0, .inr (5, [.ref (a 0), .ref (b 1), .ref (b 2), .int (iI tl), .ref (b 3), .ref (b 4), .ref (b 5), .ref (b 6), .ref (b 7)])), (b 1, .inl (cI, 5, .inl (aI tk))), (b 2, .inl (cI, 5, .inl (aI tg))), (b 3, .inl (cI, 5, .inl (aI to))), (b 4, .inl (cI, 5, .inl (aI ta))), (b 5, .inl (cI, 5, .inl (aI te))), (b 6, .inl (cI, 5, .inl (aI ts))), (b 7, .inl (cI, 5, .inl (aI tr)))]) rfl rfl (by decide) (by decide) (by decide) 0 1 rfl rfl rfl [0, 1, 2, 3, 4, 5, 6, 7, 8, 9, 10, 11, 12] (fun (u : Unit) => (W_T_P cI cS b a tk tg tl to ta te ts tr a cnt lv kd gd ln st)) (fun _ => rfl) (by decide) rfl hl.1 rfl (Nat.le_of_ble_eq_true rfl) ⟨Nat.zero_le _, Nat.zero_le _⟩ dX5_actsAheadOf_33 (fun r_ u_ H locs hw hP hD hS => ?_)
        try dsimp only at hw
        subst hw
        have hP : va_P D vwCl (W_T_P cI cS b a tk tg tl to ta te ts tr a cnt lv kd gd ln st) H := hP
        have hD : va_D A (W_T_P cI cS b a tk tg tl to ta te ts tr a cnt lv kd gd ln st) := hD
        obtain ⟨v, h_v⟩ : ∃ z_ : Int, z_ = (if 0 ≤ f ∧ f < cnt ∧ 0 ≤ bf ∧ bf < ln f then st (f * 4 + bf) else (-1)) := ⟨_, rfl⟩
        rw [← h_v]
        have hvv : v = st (f * 4 + bf) := by rw [h_v, if_pos (by omega)]
        have hvr := hok.2.2 f hf.1 hf.2 bf hb_.1 (by omega)
        rw [← hvv] at hvr
        refine x_callVi (As := [.int (iI v)]) (rest := [.int (iI ac)]) ⟨hx, hb, hml, hown, hts⟩ (c_X5_actsOfStep l D cI cS b a tk tg tl to ta te ts tr cnt lv kd gd ln st H.size v (by first | assumption | omega) (by first | assumption | omega) (by first | assumption | omega)) (cwV 1 hts gX5_actsAheadOf_X5_actsOfStep rfl rfl rfl (by decide +kernel) ⟨Nat.le_of_ble_eq_true rfl, Nat.le_of_ble_eq_true rfl⟩) hK hP hD hS hA [0, 1, 2, 3, 4, 5, 6, 7, 8, 9, 10, 11, 12] [] (wr := ([] : va_W)) rfl rfl (by decide) (by decide) (by decide) 0 5 rfl rfl rfl [0, 1, 2, 3, 4, 5, 6, 7, 8, 9, 10, 11, 12] (fun (u : Unit) => (W_T_P cI cS b a tk tg tl to ta te ts tr a cnt lv kd gd ln st)) (fun _ => rfl) (by decide) rfl hl.1 rfl (Nat.le_of_ble_eq_true rfl) ⟨Nat.zero_le _, Nat.zero_le _⟩ dX5_actsAheadOf_36 (fun r_ u_ H locs hw hP hD hS => ?_)
        try dsimp only at hw
        subst hw
        have hP : va_P D vwCl (W_T_P cI cS b a tk tg tl to ta te ts tr a cnt lv kd gd ln st) H := hP
        have hD : va_D A (W_T_P cI cS b a tk tg tl to ta te ts tr a cnt lv kd gd ln st) := hD
        obtain ⟨y, h_y⟩ : ∃ z_ : Int, z_ = (actC cnt tl ta v) := ⟨_, rfl⟩
        rw [← h_y]
        refine n_iadd hx hb dX5_actsAheadOf_39 ?_
        refine lv_istore_n (lv' := [(3, .int (iI (ac + y))), (4, .int (iI bf)), (0, .ref (b 0)), (1, .int (iI f)), (2, .int (iI i))]) hx hb dX5_actsAheadOf_40 rfl hl (by decide) rfl (fun ls hl => ?_)
        refine n_iinc (lv' := [(4, .int (iI (bf + 1))), (3, .int (iI (ac + y))), (0, .ref (b 0)), (1, .int (iI f)), (2, .int (iI i))]) hx hb dX5_actsAheadOf_41 hl (k := 1) rfl (by decide) rfl (fun ls hl => ?_)
        refine lv_goto (tgt := 5) hx hb dX5_actsAheadOf_44 (by decide) ?_
        exact ih_2 ((ac + y), (bf + 1)) (by (try dsimp only); exact ⟨by omega, by rw [ahead_s tl _ st f hb_.1, ha, ← hvv, h_y, actC_s (htab.upto (f := f) (by omega) (fun _ _ => ⟨rfl, rfl, rfl, rfl⟩)) hvr hf.2]⟩) (by (try dsimp only); exact (by omega)) _ _ _ hP hD hS (lv_sub hl [0, 1, 2, 3, 4] rfl)
set_option maxHeartbeats 4000000 in
set_option maxRecDepth 100000 in
theorem c_X5_stepWithAct (l : Launch) (D : va_G) (cI cS : ClassId) (b : Nat → Nat) (a : Nat → Nat) (tk : Int → Int) (tg : Int → Int) (tl : Int) (to : Int → Int) (ta : Int → Int) (te : Int → Int) (ts : Int → Int) (tr : Int → Int) (cnt : Int) (lv : Int) (kd : Int → Int) (gd : Int → Int) (ln : Int → Int) (st : Int → Int) (sz : Nat) (f : Int) (k : Int) (hok : okP cnt ln st) (hkk : okK cnt tk tg tl) (htab : Tab cnt (sem tk tg tl ln st) to ta te ts) (hf : 0 ≤ f ∧ f < cnt) (hk : 0 ≤ k ∧ k < 1024) : Met l yX5_stepWithAct wsX5_stepWithAct ({ frames := 4, cells := 0, slots := 0, locals := 89 }) (cP D cI cS (W_T_P cI cS b a tk tg tl to ta te ts tr a cnt lv kd gd ln st) sz [.ref (b 0), .int (iI f), .int (iI k)]) (va_Qi (fun (r : Int32) (u : Unit) => ∃ z : Int, r = iI z ∧ (0 ≤ z ∧ z ≤ 4) ∧ (∀ y : Int, 0 ≤ y → y < z → aheadI tl (sem tk tg tl ln st) st f (if y + 1 < ln f then y + 1 else ln f) ≤ k) ∧ (4 ≤ z ∨ k < aheadI tl (sem tk tg tl ln st) st f (if z + 1 < ln f then z + 1 else ln f))) (fun (u : Unit) t => cB D (va_A (W_T_P cI cS b a tk tg tl to ta te ts tr a cnt lv kd gd ln st) sz) (W_T_P cI cS b a tk tg tl to ta te ts tr a cnt lv kd gd ln st) t) (va_A (W_T_P cI cS b a tk tg tl to ta te ts tr a cnt lv kd gd ln st) sz)) 0 0 (va_A (W_T_P cI cS b a tk tg tl to ta te ts tr a cnt lv kd gd ln st) sz) := by
  refine Met.ofW (cc := cX5_stepWithAct) (maxL := 4) (ret := (some .int)) (by decide) rfl ?_
  intro p e s m args below meth c_ s₁ B hml hv
  obtain ⟨rfl, hsz, hP, hK, hD0⟩ := hv
  have hx := B.exec
  have hb := B.bytes
  have hr := B.returns
  have hts := atoms_spec (ws := wsX5_stepWithAct) B.pre
  have hown : s.vm.findClass RX5 = some m.cls := findClass_of_methodNamed B.named
  have hlocks := B.notSynchronized
  subst hsz
  have hD := hD0.self (sz := s.heap.size)
  generalize hAe : va_A (W_T_P cI cS b a tk tg tl to ta te ts tr a cnt lv kd gd ln st) s.heap.size = A at hD ⊢
  have hA : ∀ q : Nat, s.heap.size ≤ q → A q := fun q h => by rw [← hAe]; exact Or.inr h
  have hS : va_S A s.heap s.heap [] := va_S.rf
  have hP : va_P D vwCl (W_T_P cI cS b a tk tg tl to ta te ts tr a cnt lv kd gd ln st) s.heap := hP
  have hl := lv_entry ([.ref (b 0), .int (iI f), .int (iI k)] : List Value) (n := 4) (Nat.le_of_ble_eq_true rfl)
  rw [lg_entry_eq]
  generalize (lg_sl ([.ref (b 0), .int (iI f), .int (iI k)] : List Value) ++ List.replicate (4 - (lg_sl ([.ref (b 0), .int (iI f), .int (iI k)] : List Value)).length) Slot.unset).toArray = ls at hl ⊢
  have hl : lv_has ls 4 [(0, .ref (b 0)), (1, .int (iI f)), (2, .int (iI k))] := hl
  refine lv_iconst (v := iI 0) hx hb dX5_stepWithAct_0 (by decide +kernel) ?_
  refine lv_istore_n (lv' := [(3, .int (iI 0)), (0, .ref (b 0)), (1, .int (iI f)), (2, .int (iI k))]) hx hb dX5_stepWithAct_1 rfl hl (by decide) rfl (fun ls hl => ?_)
  refine x_loop (σ := Int) (fun (i : Int) => (0 ≤ i ∧ i ≤ 4) ∧ (∀ y : Int, 0 ≤ y → y < i → aheadI tl (sem tk tg tl ln st) st f (if y + 1 < ln f then y + 1 else ln f) ≤ k)) (fun (i : Int) => (4 - i).toNat) (fun (i : Int) => (W_T_P cI cS b a tk tg tl to ta te ts tr a cnt lv kd gd ln st)) (fun (i : Int) => [(3, .int (iI i)), (0, .ref (b 0)), (1, .int (iI f)), (2, .int (iI k))]) (nL := 4) ?step_1 0 (by (try dsimp only); exact ⟨by omega, fun y h1 h2 => absurd h2 (by omega)⟩) hP hD hS hl
  case step_1 =>
    intro xv_ hI ih H locs ls hP hD hS hl
    obtain ⟨i, ex_⟩ : ∃ z, z = xv_ := ⟨_, rfl⟩
    subst ex_
    try dsimp only at hI ih
    obtain ⟨hi, hy⟩ := hI
    have hP : va_P D vwCl (W_T_P cI cS b a tk tg tl to ta te ts tr a cnt lv kd gd ln st) H := hP
    have hD : va_D A (W_T_P cI cS b a tk tg tl to ta te ts tr a cnt lv kd gd ln st) := hD
    have hl : lv_has ls 4 [(3, .int (iI i)), (0, .ref (b 0)), (1, .int (iI f)), (2, .int (iI k))] := hl
    have ih_2 := ih
    refine lv_iload_n hx hb dX5_stepWithAct_2 rfl (lv_at hl 0 rfl) ?_
    refine lv_iconst (v := iI 4) hx hb dX5_stepWithAct_3 (by decide +kernel) ?_
    refine n_icmp_ge (tgt := 25) hx hb dX5_stepWithAct_4 (by decide) (by omega) (fun c_3 => ?_) (fun c_3 => ?_)
    ·
      refine lv_iload_n hx hb dX5_stepWithAct_25 rfl (lv_at hl 0 rfl) ?_
      exact W.iret (v := iI i) hx hb hr (fun t ht hW => ⟨⟨_, (), rfl, ⟨i, rfl, (by (try dsimp only); exact (by omega)), (by (try dsimp only); exact hy), (by (try dsimp only); exact (by first | exact Or.inl (by omega) | exact Or.inr (by rw [← h_w]; omega)))⟩, by rw [ht]; exact hP, hD⟩, hS.F ht⟩) hS.2.2 dX5_stepWithAct_26
    ·
      refine lv_aload_n hx hb dX5_stepWithAct_7 rfl (lv_at hl 1 rfl) ?_
      refine lv_iload_n hx hb dX5_stepWithAct_8 rfl (lv_at hl 2 rfl) ?_
      refine lv_iload_n hx hb dX5_stepWithAct_9 rfl (lv_at hl 0 rfl) ?_
      refine lv_iconst (v := iI 1) hx hb dX5_stepWithAct_10 (by decide +kernel) ?_
      refine n_iadd hx hb dX5_stepWithAct_11 ?_
      refine x_callVi (As := [.int (iI f), .int (iI (i + 1))]) (rest := []) ⟨hx, hb, hml, hown, hts⟩ (c_X5_actsAheadOf l D cI cS b a tk tg tl to ta te ts tr cnt lv kd gd ln st H.size f (i + 1) (by first | assumption | omega) (by first | assumption | omega) (by first | assumption | omega) (by first | assumption | omega) (by first | assumption | omega)) (cwV 2 hts gX5_stepWithAct_X5_actsAheadOf rfl rfl rfl (by decide +kernel) ⟨Nat.le_of_ble_eq_true rfl, Nat.le_of_ble_eq_true rfl⟩) hK hP hD hS hA [0, 1, 2, 3, 4, 5, 6, 7, 8, 9, 10, 11, 12] [] (wr := ([] : va_W)) rfl rfl (by decide) (by decide) (by decide) 0 5 rfl rfl rfl [0, 1, 2, 3, 4, 5, 6, 7, 8, 9, 10, 11, 12] (fun (u : Unit) => (W_T_P cI cS b a tk tg tl to ta te ts tr a cnt lv kd gd ln st)) (fun _ => rfl) (by decide) rfl hl.1 rfl (Nat.le_of_ble_eq_true rfl) ⟨Nat.zero_le _, Nat.zero_le _⟩ dX5_stepWithAct_12 (fun r_ u_ H locs hw hP hD hS => ?_)
      try dsimp only at hw
      subst hw
      have hP : va_P D vwCl (W_T_P cI cS b a tk tg tl to ta te ts tr a cnt lv kd gd ln st) H := hP
      have hD : va_D A (W_T_P cI cS b a tk tg tl to ta te ts tr a cnt lv kd gd ln st) := hD
      obtain ⟨w, h_w⟩ : ∃ z_ : Int, z_ = (aheadI tl (sem tk tg tl ln st) st f (if (i + 1) < ln f then (i + 1) else ln f)) := ⟨_, rfl⟩
      rw [← h_w]
      have hwr := ahead_rng2 (K := tk) (G := tg) (L := tl) hok hf.1 hf.2 (n := i + 1) (by omega)
      rw [← h_w] at hwr
      refine lv_iload_n hx hb dX5_stepWithAct_15 rfl (lv_at hl 3 rfl) ?_
      refine n_icmp_gt (tgt := 25) hx hb dX5_stepWithAct_16 (by decide) (by omega) (fun c_4 => ?_) (fun c_4 => ?_)
      ·
        refine lv_iload_n hx hb dX5_stepWithAct_25 rfl (lv_at hl 0 rfl) ?_
        exact W.iret (v := iI i) hx hb hr (fun t ht hW => ⟨⟨_, (), rfl, ⟨i, rfl, (by (try dsimp only); exact (by omega)), (by (try dsimp only); exact hy), (by (try dsimp only); exact (by first | exact Or.inl (by omega) | exact Or.inr (by rw [← h_w]; omega)))⟩, by rw [ht]; exact hP, hD⟩, hS.F ht⟩) hS.2.2 dX5_stepWithAct_26
      ·
        refine n_iinc (lv' := [(3, .int (iI (i + 1))), (0, .ref (b 0)), (1, .int (iI f)), (2, .int (iI k))]) hx hb dX5_stepWithAct_19 hl (k := 0) rfl (by decide) rfl (fun ls hl => ?_)
        refine lv_goto (tgt := 2) hx hb dX5_stepWithAct_22 (by decide) ?_
        exact ih_2 (i + 1) (by (try dsimp only); exact ⟨by omega, fun y h1 h2 => by
          by_cases e : y = i
          · rw [e, ← h_w]; omega
          · exact hy y h1 (by omega)⟩) (by (try dsimp only); exact (by omega)) _ _ _ hP hD hS (lv_sub hl [0, 1, 2, 3] rfl)
theorem act_own {L : Int} {S : Int → Rc} {v x : Int} {n : Int} (hv : v < 4) (hx : x < n + ((stepR L S v).2.1.length : Int)) (hn : n ≤ x) : v = (stepR L S v).2.1.getD (x - n).toNat (-9) := by
  unfold stepR at hx ⊢
  rw [if_neg (by omega)] at hx ⊢
  by_cases c : bit L v = 1
  · rw [if_pos c] at hx ⊢
    rw [show (x - n).toNat = 0 by have : x < n + 1 := hx; omega]
    rfl
  · rw [if_neg c] at hx
    exact absurd hx (by show ¬ x < n + 0; omega)
set_option maxHeartbeats 4000000 in
set_option maxRecDepth 100000 in
theorem c_X5_actAt (l : Launch) (D : va_G) (cI cS : ClassId) (b : Nat → Nat) (a : Nat → Nat) (tk : Int → Int) (tg : Int → Int) (tl : Int) (to : Int → Int) (ta : Int → Int) (te : Int → Int) (ts : Int → Int) (tr : Int → Int) (cnt : Int) (lv : Int) (kd : Int → Int) (gd : Int → Int) (ln : Int → Int) (st : Int → Int) (sz : Nat) (f : Int) (k : Int) (hok : okP cnt ln st) (hkk : okK cnt tk tg tl) (htab : Tab cnt (sem tk tg tl ln st) to ta te ts) (hf : 0 ≤ f ∧ f < cnt) (hk : 0 ≤ k ∧ k < 2147483648) : Met l yX5_actAt wsX5_actAt ({ frames := 5, cells := 0, slots := 0, locals := 112 }) (cP D cI cS (W_T_P cI cS b a tk tg tl to ta te ts tr a cnt lv kd gd ln st) sz [.ref (b 0), .int (iI f), .int (iI k)]) (va_Qi (fun (r : Int32) (u : Unit) => r = iI ((sem tk tg tl ln st f).2.1.getD k.toNat (-9))) (fun (u : Unit) t => cB D (va_A (W_T_P cI cS b a tk tg tl to ta te ts tr a cnt lv kd gd ln st) sz) (W_T_P cI cS b a tk tg tl to ta te ts tr a cnt lv kd gd ln st) t) (va_A (W_T_P cI cS b a tk tg tl to ta te ts tr a cnt lv kd gd ln st) sz)) 0 0 (va_A (W_T_P cI cS b a tk tg tl to ta te ts tr a cnt lv kd gd ln st) sz) := by
  refine Met.ofW (cc := cX5_actAt) (maxL := 8) (ret := (some .int)) (by decide) rfl ?_
  intro p e s m args below meth c_ s₁ B hml hv
  obtain ⟨rfl, hsz, hP, hK, hD0⟩ := hv
  have hx := B.exec
  have hb := B.bytes
  have hr := B.returns
  have hts := atoms_spec (ws := wsX5_actAt) B.pre
  have hown : s.vm.findClass RX5 = some m.cls := findClass_of_methodNamed B.named
  have hlocks := B.notSynchronized
  subst hsz
  have hD := hD0.self (sz := s.heap.size)
  generalize hAe : va_A (W_T_P cI cS b a tk tg tl to ta te ts tr a cnt lv kd gd ln st) s.heap.size = A at hD ⊢
  have hA : ∀ q : Nat, s.heap.size ≤ q → A q := fun q h => by rw [← hAe]; exact Or.inr h
  have hS : va_S A s.heap s.heap [] := va_S.rf
  have hP : va_P D vwCl (W_T_P cI cS b a tk tg tl to ta te ts tr a cnt lv kd gd ln st) s.heap := hP
  have hl := lv_entry ([.ref (b 0), .int (iI f), .int (iI k)] : List Value) (n := 8) (Nat.le_of_ble_eq_true rfl)
  rw [lg_entry_eq]
  generalize (lg_sl ([.ref (b 0), .int (iI f), .int (iI k)] : List Value) ++ List.replicate (8 - (lg_sl ([.ref (b 0), .int (iI f), .int (iI k)] : List Value)).length) Slot.unset).toArray = ls at hl ⊢
  have hl : lv_has ls 8 [(0, .ref (b 0)), (1, .int (iI f)), (2, .int (iI k))] := hl
  have fl_32 := hts (.fieldLink RX5 32 "ActRows$Trial" "actCounts" "[I") (by decide +kernel)
  have iw_5 : ∀ w ∈ wsX50, w ∈ wsX5_actAt := by decide +kernel
  have fl_12 := hts (.fieldLink RX5 12 "ActRows$Trial" "program" "LActRows$Program;") (by decide +kernel)
  have hc := hok.1
  have hln := hok.2.1
  have htf := htab f hf.1 hf.2
  have hof := (sem_ok (K := tk) (G := tg) (L := tl) hok f hf.1 hf.2).1
  have hsl := sem_len (K := tk) (G := tg) (L := tl) hok hf.1 hf.2
  refine lv_iload_n hx hb dX5_actAt_0 rfl (lv_at hl 2 rfl) ?_
  refine lv_aload_n hx hb dX5_actAt_1 rfl (lv_at hl 0 rfl) ?_
  refine va_get (D := D) (ci := 5) (v := .ref (b 4)) (C := RX5) (T := TX5) (N := 9) hx hb hts iw_5 hown hK.1 hP 0 rfl rfl 5 (by decide) fl_32 (fun _ h9 => h9) rfl dX5_actAt_2 ?_
  refine lv_iload_n hx hb dX5_actAt_5 rfl (lv_at hl 1 rfl) ?_
  refine n_iald (n := 5) hx hb hK.1 hP 4 0 rfl rfl (by omega) (by decide) dX5_actAt_6 ?_
  refine n_icmp_lt (tgt := 13) hx hb dX5_actAt_7 (by decide) (by omega) (fun c_1 => ?_) (fun c_1 => ?_)
  ·
    refine lv_iload_n hx hb dX5_actAt_13 rfl (lv_at hl 1 rfl) ?_
    refine lv_istore_n (lv' := [(3, .int (iI f)), (0, .ref (b 0)), (1, .int (iI f)), (2, .int (iI k))]) hx hb dX5_actAt_14 rfl hl (by decide) rfl (fun ls hl => ?_)
    refine lv_iload_n hx hb dX5_actAt_15 rfl (lv_at hl 3 rfl) ?_
    refine lv_istore (lv' := [(4, .int (iI k)), (3, .int (iI f)), (0, .ref (b 0)), (1, .int (iI f)), (2, .int (iI k))]) hx hb dX5_actAt_16 hl (by decide) rfl (fun ls hl => ?_)
    refine lv_iconst (v := iI 0) hx hb dX5_actAt_18 (by decide +kernel) ?_
    refine lv_istore (lv' := [(5, .int (iI 0)), (4, .int (iI k)), (3, .int (iI f)), (0, .ref (b 0)), (1, .int (iI f)), (2, .int (iI k))]) hx hb dX5_actAt_19 hl (by decide) rfl (fun ls hl => ?_)
    refine x_loop (σ := Int × Int × Int) (fun (xv_ : Int × Int × Int) => match xv_ with | (at_, lf, dp) => (0 ≤ at_ ∧ at_ < cnt) ∧ (0 ≤ lf ∧ lf < ((sem tk tg tl ln st at_).2.1.length : Int)) ∧ (0 ≤ dp ∧ at_ + dp ≤ f) ∧ ((sem tk tg tl ln st at_).2.1.getD lf.toNat (-9) = (sem tk tg tl ln st f).2.1.getD k.toNat (-9))) (fun (xv_ : Int × Int × Int) => match xv_ with | (at_, lf, dp) => (5 - dp).toNat) (fun (xv_ : Int × Int × Int) => match xv_ with | (at_, lf, dp) => (W_T_P cI cS b a tk tg tl to ta te ts tr a cnt lv kd gd ln st)) (fun (xv_ : Int × Int × Int) => match xv_ with | (at_, lf, dp) => [(5, .int (iI dp)), (4, .int (iI lf)), (3, .int (iI at_)), (0, .ref (b 0)), (1, .int (iI f)), (2, .int (iI k))]) (nL := 8) ?step_2 (f, k, 0) (by (try dsimp only); exact ⟨hf, by omega, by omega, rfl⟩) hP hD hS (lv_sub hl [0, 1, 2, 3, 4, 5] rfl)
    case step_2 =>
      intro xv_ hI ih H locs ls hP hD hS hl
      obtain ⟨at_, lf, dp⟩ := xv_
      try dsimp only at hI ih
      obtain ⟨hat, hlf, hdp, hq⟩ := hI
      have hP : va_P D vwCl (W_T_P cI cS b a tk tg tl to ta te ts tr a cnt lv kd gd ln st) H := hP
      have hD : va_D A (W_T_P cI cS b a tk tg tl to ta te ts tr a cnt lv kd gd ln st) := hD
      have hl : lv_has ls 8 [(5, .int (iI dp)), (4, .int (iI lf)), (3, .int (iI at_)), (0, .ref (b 0)), (1, .int (iI f)), (2, .int (iI k))] := hl
      have ih_3 := ih
      refine lv_iload hx hb dX5_actAt_21 (lv_at hl 0 rfl) ?_
      refine lv_iconst (v := iI 5) hx hb dX5_actAt_23 (by decide +kernel) ?_
      refine n_icmp_ge (tgt := 80) hx hb dX5_actAt_24 (by decide) (by omega) (fun c_4 => ?_) (fun c_4 => ?_)
      · exact False.elim (by first | contradiction | omega)
      ·
        refine lv_aload_n hx hb dX5_actAt_27 rfl (lv_at hl 3 rfl) ?_
        refine lv_iload_n hx hb dX5_actAt_28 rfl (lv_at hl 2 rfl) ?_
        refine lv_iload hx hb dX5_actAt_29 (lv_at hl 1 rfl) ?_
        refine x_callVi (As := [.int (iI at_), .int (iI lf)]) (rest := []) ⟨hx, hb, hml, hown, hts⟩ (c_X5_stepWithAct l D cI cS b a tk tg tl to ta te ts tr cnt lv kd gd ln st H.size at_ lf (by first | assumption | omega) (by first | assumption | omega) (by first | assumption | omega) (by first | assumption | omega) (by have := sem_len (K := tk) (G := tg) (L := tl) hok hat.1 hat.2; omega)) (cwV 2 hts gX5_actAt_X5_stepWithAct rfl rfl rfl (by decide +kernel) ⟨Nat.le_of_ble_eq_true rfl, Nat.le_of_ble_eq_true rfl⟩) hK hP hD hS hA [0, 1, 2, 3, 4, 5, 6, 7, 8, 9, 10, 11, 12] [] (wr := ([] : va_W)) rfl rfl (by decide) (by decide) (by decide) 0 5 rfl rfl rfl [0, 1, 2, 3, 4, 5, 6, 7, 8, 9, 10, 11, 12] (fun (u : Unit) => (W_T_P cI cS b a tk tg tl to ta te ts tr a cnt lv kd gd ln st)) (fun _ => rfl) (by decide) rfl hl.1 rfl (Nat.le_of_ble_eq_true rfl) ⟨Nat.zero_le _, Nat.zero_le _⟩ dX5_actAt_31 (fun r_ u_ H locs hw hP hD hS => ?_)
        try dsimp only at hw
        obtain ⟨z, rfl, hz0, hz1, hz2⟩ := hw
        have hP : va_P D vwCl (W_T_P cI cS b a tk tg tl to ta te ts tr a cnt lv kd gd ln st) H := hP
        have hD : va_D A (W_T_P cI cS b a tk tg tl to ta te ts tr a cnt lv kd gd ln st) := hD
        have hsel := act_sel (K := tk) (G := tg) (L := tl) hok hat.1 hat.2 hlf.1 hlf.2 hz0.1 hz1 hz2
        have hzi : (if z < ln at_ then z else ln at_) = z := if_pos hsel.1
        have has_ := ahead_s tl (sem tk tg tl ln st) st at_ hz0.1
        refine lv_istore (lv' := [(6, .int (iI z)), (5, .int (iI dp)), (4, .int (iI lf)), (3, .int (iI at_)), (0, .ref (b 0)), (1, .int (iI f)), (2, .int (iI k))]) hx hb dX5_actAt_34 hl (by decide) rfl (fun ls hl => ?_)
        refine lv_aload_n hx hb dX5_actAt_36 rfl (lv_at hl 4 rfl) ?_
        refine va_get (D := D) (ci := 5) (v := .ref (a 0)) (C := RX5) (T := TX5) (N := 9) hx hb hts iw_5 hown hK.1 hP 0 rfl rfl 0 (by decide) fl_12 (fun _ h9 => h9) rfl dX5_actAt_37 ?_
        refine lv_iload_n hx hb dX5_actAt_40 rfl (lv_at hl 3 rfl) ?_
        refine lv_iload hx hb dX5_actAt_41 (lv_at hl 0 rfl) ?_
        refine x_callVi (As := [.int (iI at_), .int (iI z)]) (rest := []) ⟨hx, hb, hml, hown, hts⟩ (c_X1_stepAt l D cI cS a cnt lv kd gd ln st H.size at_ z (by first | assumption | omega) (by first | assumption | omega) (by first | assumption | omega) (by first | assumption | omega)) (cwV 2 hts gX5_actAt_X1_stepAt rfl rfl rfl (by decide +kernel) ⟨Nat.le_of_ble_eq_true rfl, Nat.le_of_ble_eq_true rfl⟩) hK hP hD hS hA [8, 9, 10, 11, 12] [0, 1, 2, 3, 4, 5, 6, 7] (wr := [(b 0, .inr (5, [.ref (a 0), .ref (b 1), .ref (b 2), .int (iI tl), .ref (b 3), .ref (b 4), .ref (b 5), .ref (b 6), .ref (b 7)])), (b 1, .inl (cI, 5, .inl (aI tk))), (b 2, .inl (cI, 5, .inl (aI tg))), (b 3, .inl (cI, 5, .inl (aI to))), (b 4, .inl (cI, 5, .inl (aI ta))), (b 5, .inl (cI, 5, .inl (aI te))), (b 6, .inl (cI, 5, .inl (aI ts))), (b 7, .inl (cI, 5, .inl (aI tr)))]) rfl rfl (by decide) (by decide) (by decide) 0 1 rfl rfl rfl [0, 1, 2, 3, 4, 5, 6, 7, 8, 9, 10, 11, 12] (fun (u : Unit) => (W_T_P cI cS b a tk tg tl to ta te ts tr a cnt lv kd gd ln st)) (fun _ => rfl) (by decide) rfl hl.1 rfl (Nat.le_of_ble_eq_true rfl) ⟨Nat.zero_le _, Nat.zero_le _⟩ dX5_actAt_43 (fun r_ u_ H locs hw hP hD hS => ?_)
        try dsimp only at hw
        subst hw
        have hP : va_P D vwCl (W_T_P cI cS b a tk tg tl to ta te ts tr a cnt lv kd gd ln st) H := hP
        have hD : va_D A (W_T_P cI cS b a tk tg tl to ta te ts tr a cnt lv kd gd ln st) := hD
        obtain ⟨v, h_v⟩ : ∃ z_ : Int, z_ = (if 0 ≤ at_ ∧ at_ < cnt ∧ 0 ≤ z ∧ z < ln at_ then st (at_ * 4 + z) else (-1)) := ⟨_, rfl⟩
        rw [← h_v]
        have hvv : v = st (at_ * 4 + z) := by rw [h_v, if_pos (by omega)]
        have hvr := hok.2.2 at_ hat.1 hat.2 z hz0.1 hsel.1
        rw [← hvv] at hvr has_
        refine lv_istore (lv' := [(7, .int (iI v)), (6, .int (iI z)), (5, .int (iI dp)), (4, .int (iI lf)), (3, .int (iI at_)), (0, .ref (b 0)), (1, .int (iI f)), (2, .int (iI k))]) hx hb dX5_actAt_46 hl (by decide) rfl (fun ls hl => ?_)
        refine lv_iload hx hb dX5_actAt_48 (lv_at hl 0 rfl) ?_
        refine lv_iconst (v := iI 4) hx hb dX5_actAt_50 (by decide +kernel) ?_
        refine n_icmp_ge (tgt := 57) hx hb dX5_actAt_51 (by decide) (by omega) (fun c_5 => ?_) (fun c_5 => ?_)
        ·
          have hs4 : stepR tl (sem tk tg tl ln st) (st (at_ * 4 + z)) = sem tk tg tl ln st (v - 4) := by rw [← hvv]; unfold stepR; rw [if_pos (by omega)]
          have hs5 := congrArg (fun r : Rc => (r.2.1.length : Int)) hs4
          rw [← hvv] at hs5
          try dsimp only at hs5
          refine lv_iload hx hb dX5_actAt_57 (lv_at hl 3 rfl) ?_
          refine lv_aload_n hx hb dX5_actAt_59 rfl (lv_at hl 5 rfl) ?_
          refine lv_iload_n hx hb dX5_actAt_60 rfl (lv_at hl 4 rfl) ?_
          refine lv_iload hx hb dX5_actAt_61 (lv_at hl 1 rfl) ?_
          refine x_callVi (As := [.int (iI at_), .int (iI z)]) (rest := [.int (iI lf)]) ⟨hx, hb, hml, hown, hts⟩ (c_X5_actsAheadOf l D cI cS b a tk tg tl to ta te ts tr cnt lv kd gd ln st H.size at_ z (by first | assumption | omega) (by first | assumption | omega) (by first | assumption | omega) (by first | assumption | omega) (by first | assumption | omega)) (cwV 2 hts gX5_actAt_X5_actsAheadOf rfl rfl rfl (by decide +kernel) ⟨Nat.le_of_ble_eq_true rfl, Nat.le_of_ble_eq_true rfl⟩) hK hP hD hS hA [0, 1, 2, 3, 4, 5, 6, 7, 8, 9, 10, 11, 12] [] (wr := ([] : va_W)) rfl rfl (by decide) (by decide) (by decide) 0 5 rfl rfl rfl [0, 1, 2, 3, 4, 5, 6, 7, 8, 9, 10, 11, 12] (fun (u : Unit) => (W_T_P cI cS b a tk tg tl to ta te ts tr a cnt lv kd gd ln st)) (fun _ => rfl) (by decide) rfl hl.1 rfl (Nat.le_of_ble_eq_true rfl) ⟨Nat.zero_le _, Nat.zero_le _⟩ dX5_actAt_63 (fun r_ u_ H locs hw hP hD hS => ?_)
          try dsimp only at hw
          subst hw
          have hP : va_P D vwCl (W_T_P cI cS b a tk tg tl to ta te ts tr a cnt lv kd gd ln st) H := hP
          have hD : va_D A (W_T_P cI cS b a tk tg tl to ta te ts tr a cnt lv kd gd ln st) := hD
          have hzz : aheadI tl (sem tk tg tl ln st) st at_ (if z < ln at_ then z else ln at_) = aheadI tl (sem tk tg tl ln st) st at_ z := by rw [hzi]
          refine n_isub hx hb dX5_actAt_66 ?_
          refine lv_istore (lv' := [(4, .int (iI (lf - (aheadI tl (sem tk tg tl ln st) st at_ (if z < ln at_ then z else ln at_))))), (7, .int (iI v)), (6, .int (iI z)), (5, .int (iI dp)), (3, .int (iI at_)), (0, .ref (b 0)), (1, .int (iI f)), (2, .int (iI k))]) hx hb dX5_actAt_67 hl (by decide) rfl (fun ls hl => ?_)
          refine lv_iload hx hb dX5_actAt_69 (lv_at hl 1 rfl) ?_
          refine lv_iconst (v := iI 4) hx hb dX5_actAt_71 (by decide +kernel) ?_
          refine n_isub hx hb dX5_actAt_72 ?_
          refine lv_istore_n (lv' := [(3, .int (iI (v - 4))), (4, .int (iI (lf - (aheadI tl (sem tk tg tl ln st) st at_ (if z < ln at_ then z else ln at_))))), (7, .int (iI v)), (6, .int (iI z)), (5, .int (iI dp)), (0, .ref (b 0)), (1, .int (iI f)), (2, .int (iI k))]) hx hb dX5_actAt_73 rfl hl (by decide) rfl (fun ls hl => ?_)
          refine n_iinc (lv' := [(5, .int (iI (dp + 1))), (3, .int (iI (v - 4))), (4, .int (iI (lf - (aheadI tl (sem tk tg tl ln st) st at_ (if z < ln at_ then z else ln at_))))), (7, .int (iI v)), (6, .int (iI z)), (0, .ref (b 0)), (1, .int (iI f)), (2, .int (iI k))]) hx hb dX5_actAt_74 hl (k := 4) rfl (by decide) rfl (fun ls hl => ?_)
          refine lv_goto (tgt := 21) hx hb dX5_actAt_77 (by decide) ?_
          exact ih_3 ((v - 4), (lf - (aheadI tl (sem tk tg tl ln st) st at_ (if z < ln at_ then z else ln at_))), (dp + 1)) (by (try dsimp only); exact ⟨by omega, by omega, by omega, by rw [← hs4, show (lf - aheadI tl (sem tk tg tl ln st) st at_ (if z < ln at_ then z else ln at_)).toNat = (lf - aheadI tl (sem tk tg tl ln st) st at_ z).toNat by rw [hzi]]; exact hsel.2.2.2.symm.trans hq⟩) (by (try dsimp only); exact (by omega)) _ _ _ hP hD hS (lv_sub hl [0, 2, 1, 5, 6, 7] rfl)
        ·
          refine lv_iload hx hb dX5_actAt_54 (lv_at hl 0 rfl) ?_
          exact W.iret (v := iI v) hx hb hr (fun t ht hW => ⟨⟨_, (), rfl, congrArg iI (show v = ((sem tk tg tl ln st f).2.1.getD k.toNat (-9)) from (by rw [← hq, hsel.2.2.2, ← hvv]; exact act_own (by omega) (by omega) (by omega))), by rw [ht]; exact hP, hD⟩, hS.F ht⟩) hS.2.2 dX5_actAt_56
  ·
    refine lv_bipush (v := iI (-9)) hx hb dX5_actAt_10 (by decide +kernel) ?_
    exact W.iret (v := iI (-9)) hx hb hr (fun t ht hW => ⟨⟨_, (), rfl, congrArg iI (show (-9) = ((sem tk tg tl ln st f).2.1.getD k.toNat (-9)) from (by rw [List.getD_eq_getElem?_getD, List.getElem?_eq_none (by omega)]; rfl)), by rw [ht]; exact hP, hD⟩, hS.F ht⟩) hS.2.2 dX5_actAt_12
set_option maxHeartbeats 4000000 in
set_option maxRecDepth 100000 in
theorem c_X5_gatherRows (l : Launch) (D : va_G) (cI cS : ClassId) (b : Nat → Nat) (a : Nat → Nat) (tk : Int → Int) (tg : Int → Int) (tl : Int) (to : Int → Int) (ta : Int → Int) (te : Int → Int) (ts : Int → Int) (tr : Int → Int) (cnt : Int) (lv : Int) (kd : Int → Int) (gd : Int → Int) (ln : Int → Int) (st : Int → Int) (sz : Nat) (hok : okP cnt ln st) (hkk : okK cnt tk tg tl) : Met l yX5_gatherRows wsX5_gatherRows ({ frames := 3, cells := 0, slots := 0, locals := 65 }) (cP D cI cS (W_T_P cI cS b a tk tg tl to ta te ts tr a cnt lv kd gd ln st) sz [.ref (b 0)]) (va_Qv (fun (u : (Int → Int)) => ∀ g : Int, 0 ≤ g → g < cnt → u g = rowS tk tg ln st g) (fun (u : (Int → Int)) t => cB D (va_A (W_T_P cI cS b a tk tg tl to ta te ts tr a cnt lv kd gd ln st) sz) (W_T_P cI cS b a tk tg tl to ta te ts u a cnt lv kd gd ln st) t) (va_A (W_T_P cI cS b a tk tg tl to ta te ts tr a cnt lv kd gd ln st) sz)) 0 0 (va_A (W_T_P cI cS b a tk tg tl to ta te ts tr a cnt lv kd gd ln st) sz) := by
  refine Met.ofW (cc := cX5_gatherRows) (maxL := 5) (ret := none) (by decide) rfl ?_
  intro p e s m args below meth c_ s₁ B hml hv
  obtain ⟨rfl, hsz, hP, hK, hD0⟩ := hv
  have hx := B.exec
  have hb := B.bytes
  have hr := B.returns
  have hts := atoms_spec (ws := wsX5_gatherRows) B.pre
  have hown : s.vm.findClass RX5 = some m.cls := findClass_of_methodNamed B.named
  have hlocks := B.notSynchronized
  subst hsz
  have hD := hD0.self (sz := s.heap.size)
  generalize hAe : va_A (W_T_P cI cS b a tk tg tl to ta te ts tr a cnt lv kd gd ln st) s.heap.size = A at hD ⊢
  have hA : ∀ q : Nat, s.heap.size ≤ q → A q := fun q h => by rw [← hAe]; exact Or.inr h
  have hS : va_S A s.heap s.heap [] := va_S.rf
  have hP : va_P D vwCl (W_T_P cI cS b a tk tg tl to ta te ts tr a cnt lv kd gd ln st) s.heap := hP
  have hl := lv_entry ([.ref (b 0)] : List Value) (n := 5) (Nat.le_of_ble_eq_true rfl)
  rw [lg_entry_eq]
  generalize (lg_sl ([.ref (b 0)] : List Value) ++ List.replicate (5 - (lg_sl ([.ref (b 0)] : List Value)).length) Slot.unset).toArray = ls at hl ⊢
  have hl : lv_has ls 5 [(0, .ref (b 0))] := hl
  have fl_12 := hts (.fieldLink RX5 12 "ActRows$Trial" "program" "LActRows$Program;") (by decide +kernel)
  have iw_5 : ∀ w ∈ wsX50, w ∈ wsX5_gatherRows := by decide +kernel
  have fn_56 := va_Nw.use (A := ([.ref (b 0)] : List Value).toArray) rfl (hK.2 ("ActRows$Trial", 56, "ActRows$Program", "count", "I") (List.mem_of_getElem? (i := 30) rfl))
  have iw_1 : ∀ w ∈ wsX10, w ∈ wsX5_gatherRows := by decide +kernel
  have fn_63 := va_Nw.use (A := ([.ref (b 0)] : List Value).toArray) rfl (hK.2 ("ActRows$Trial", 63, "ActRows$Program", "lengths", "[I") (List.mem_of_getElem? (i := 31) rfl))
  have fl_41 := hts (.fieldLink RX5 41 "ActRows$Trial" "rows" "[I") (by decide +kernel)
  have fl_18 := hts (.fieldLink RX5 18 "ActRows$Trial" "kinds" "[I") (by decide +kernel)
  have fl_22 := hts (.fieldLink RX5 22 "ActRows$Trial" "guarded" "[I") (by decide +kernel)
  have hc := hok.1
  have hln := hok.2.1
  refine lv_iconst (v := iI 0) hx hb dX5_gatherRows_0 (by decide +kernel) ?_
  refine lv_istore_n (lv' := [(1, .int (iI 0)), (0, .ref (b 0))]) hx hb dX5_gatherRows_1 rfl hl (by decide) rfl (fun ls hl => ?_)
  refine x_loop (σ := Int × (Int → Int)) (fun (xv_ : Int × (Int → Int)) => match xv_ with | (f, tr1) => (0 ≤ f ∧ f ≤ cnt) ∧ (∀ g : Int, 0 ≤ g → g < f → tr1 g = rowS tk tg ln st g)) (fun (xv_ : Int × (Int → Int)) => match xv_ with | (f, tr1) => (cnt - f).toNat) (fun (xv_ : Int × (Int → Int)) => match xv_ with | (f, tr1) => (W_T_P cI cS b a tk tg tl to ta te ts tr1 a cnt lv kd gd ln st)) (fun (xv_ : Int × (Int → Int)) => match xv_ with | (f, tr1) => [(1, .int (iI f)), (0, .ref (b 0))]) (nL := 5) ?step_1 (0, tr) (by (try dsimp only); exact ⟨by omega, fun g h0 h1 => absurd h1 (by omega)⟩) hP hD hS (lv_sub hl [0, 1] rfl)
  case step_1 =>
    intro xv_ hI ih H locs ls hP hD hS hl
    obtain ⟨f, tr1⟩ := xv_
    try dsimp only at hI ih
    obtain ⟨hf, hT⟩ := hI
    have hP : va_P D vwCl (W_T_P cI cS b a tk tg tl to ta te ts tr1 a cnt lv kd gd ln st) H := hP
    have hD : va_D A (W_T_P cI cS b a tk tg tl to ta te ts tr1 a cnt lv kd gd ln st) := hD
    have hl : lv_has ls 5 [(1, .int (iI f)), (0, .ref (b 0))] := hl
    have ih_2 := ih
    refine lv_iload_n hx hb dX5_gatherRows_2 rfl (lv_at hl 0 rfl) ?_
    refine lv_aload_n hx hb dX5_gatherRows_3 rfl (lv_at hl 1 rfl) ?_
    refine va_get (D := D) (ci := 5) (v := .ref (a 0)) (C := RX5) (T := TX5) (N := 9) hx hb hts iw_5 hown hK.1 hP 0 rfl rfl 0 (by decide) fl_12 (fun _ h9 => h9) rfl dX5_gatherRows_4 ?_
    refine va_getN (D := D) (ci := 1) (v := .int (iI cnt)) (C := RX1) (T := TX1) (N := 6) hx hb hts iw_1 hown hK.1 hP 8 rfl rfl 4 (by decide) fn_56 (fun _ h9 => h9) rfl dX5_gatherRows_7 ?_
    refine n_icmp_ge (tgt := 117) hx hb dX5_gatherRows_10 (by decide) (by omega) (fun c_3 => ?_) (fun c_3 => ?_)
    ·
      exact W.vret hx hb hr (fun t ht hW => ⟨⟨(tr1), rfl, (by (try dsimp only); exact (fun g h0 h1 => hT g h0 (by omega))), by rw [ht]; exact hP, hD⟩, hS.F ht⟩) hS.2.2 dX5_gatherRows_117
    ·
      have hf2 : 0 ≤ f ∧ f < cnt := by omega
      have hlf := hln f hf2.1 hf2.2
      have hkf := hkk.1 f hf2.1 hf2.2
      refine lv_iconst (v := iI 0) hx hb dX5_gatherRows_13 (by decide +kernel) ?_
      refine lv_istore_n (lv' := [(2, .int (iI 0)), (1, .int (iI f)), (0, .ref (b 0))]) hx hb dX5_gatherRows_14 rfl hl (by decide) rfl (fun ls hl => ?_)
      refine lv_iconst (v := iI 0) hx hb dX5_gatherRows_15 (by decide +kernel) ?_
      refine lv_istore_n (lv' := [(3, .int (iI 0)), (2, .int (iI 0)), (1, .int (iI f)), (0, .ref (b 0))]) hx hb dX5_gatherRows_16 rfl hl (by decide) rfl (fun ls hl => ?_)
      refine x_loop (σ := Int × Int) (fun (xv_ : Int × Int) => match xv_ with | (row, i) => (0 ≤ i ∧ i ≤ ln f) ∧ (row = rowGo (fun i => st (f * 4 + i)) (rowS tk tg ln st) i.toNat)) (fun (xv_ : Int × Int) => match xv_ with | (row, i) => (ln f - i).toNat) (fun (xv_ : Int × Int) => match xv_ with | (row, i) => (W_T_P cI cS b a tk tg tl to ta te ts tr1 a cnt lv kd gd ln st)) (fun (xv_ : Int × Int) => match xv_ with | (row, i) => [(3, .int (iI i)), (2, .int (iI row)), (1, .int (iI f)), (0, .ref (b 0))]) (nL := 5) ?step_4 (0, 0) (by (try dsimp only); exact ⟨by omega, rfl⟩) hP hD hS (lv_sub hl [0, 1, 2, 3] rfl)
      case step_4 =>
        intro xv_ hI ih H locs ls hP hD hS hl
        obtain ⟨row, i⟩ := xv_
        try dsimp only at hI ih
        obtain ⟨hi, hrow⟩ := hI
        have hP : va_P D vwCl (W_T_P cI cS b a tk tg tl to ta te ts tr1 a cnt lv kd gd ln st) H := hP
        have hD : va_D A (W_T_P cI cS b a tk tg tl to ta te ts tr1 a cnt lv kd gd ln st) := hD
        have hl : lv_has ls 5 [(3, .int (iI i)), (2, .int (iI row)), (1, .int (iI f)), (0, .ref (b 0))] := hl
        have hrr : 0 ≤ row ∧ row < 16 := by
          rw [hrow]; refine rowGo_rng _ (fun j hj1 hj2 => ?_)
          have hv := hok.2.2 f hf2.1 hf2.2 j hj1 (by omega)
          exact ⟨hv.1, fun h4 => rowS_rng hok (fun j a b => (hkk.1 j a b).2) _ (by omega) (by omega)⟩
        have ih_5 := ih
        refine lv_iload_n hx hb dX5_gatherRows_17 rfl (lv_at hl 0 rfl) ?_
        refine lv_aload_n hx hb dX5_gatherRows_18 rfl (lv_at hl 3 rfl) ?_
        refine va_get (D := D) (ci := 5) (v := .ref (a 0)) (C := RX5) (T := TX5) (N := 9) hx hb hts iw_5 hown hK.1 hP 0 rfl rfl 0 (by decide) fl_12 (fun _ h9 => h9) rfl dX5_gatherRows_19 ?_
        refine va_getN (D := D) (ci := 1) (v := .ref (a 3)) (C := RX1) (T := TX1) (N := 6) hx hb hts iw_1 hown hK.1 hP 8 rfl rfl 2 (by decide) fn_63 (fun _ h9 => h9) rfl dX5_gatherRows_22 ?_
        refine lv_iload_n hx hb dX5_gatherRows_25 rfl (lv_at hl 2 rfl) ?_
        refine n_iald (n := 5) hx hb hK.1 hP 11 0 rfl rfl (by omega) (by decide) dX5_gatherRows_26 ?_
        refine n_icmp_ge (tgt := 80) hx hb dX5_gatherRows_27 (by decide) (by omega) (fun c_6 => ?_) (fun c_6 => ?_)
        ·
          refine lv_aload_n hx hb dX5_gatherRows_80 rfl (lv_at hl 3 rfl) ?_
          refine va_get (D := D) (ci := 5) (v := .ref (b 7)) (C := RX5) (T := TX5) (N := 9) hx hb hts iw_5 hown hK.1 hP 0 rfl rfl 8 (by decide) fl_41 (fun _ h9 => h9) rfl dX5_gatherRows_81 ?_
          refine lv_iload_n hx hb dX5_gatherRows_84 rfl (lv_at hl 2 rfl) ?_
          refine lv_aload_n hx hb dX5_gatherRows_85 rfl (lv_at hl 3 rfl) ?_
          refine va_get (D := D) (ci := 5) (v := .ref (b 1)) (C := RX5) (T := TX5) (N := 9) hx hb hts iw_5 hown hK.1 hP 0 rfl rfl 1 (by decide) fl_18 (fun _ h9 => h9) rfl dX5_gatherRows_86 ?_
          refine lv_iload_n hx hb dX5_gatherRows_89 rfl (lv_at hl 2 rfl) ?_
          refine n_iald (n := 5) hx hb hK.1 hP 1 0 rfl rfl (by omega) (by decide) dX5_gatherRows_90 ?_
          refine n_if_ne (tgt := 98) hx hb dX5_gatherRows_91 (by decide) (by omega) (fun c_7 => ?_) (fun c_7 => ?_)
          ·
            refine lv_iload_n hx hb dX5_gatherRows_98 rfl (lv_at hl 1 rfl) ?_
            refine lv_iconst (v := iI 1) hx hb dX5_gatherRows_99 (by decide +kernel) ?_
            refine lv_aload_n hx hb dX5_gatherRows_100 rfl (lv_at hl 3 rfl) ?_
            refine va_get (D := D) (ci := 5) (v := .ref (b 2)) (C := RX5) (T := TX5) (N := 9) hx hb hts iw_5 hown hK.1 hP 0 rfl rfl 2 (by decide) fl_22 (fun _ h9 => h9) rfl dX5_gatherRows_101 ?_
            refine lv_iload_n hx hb dX5_gatherRows_104 rfl (lv_at hl 2 rfl) ?_
            refine n_iald (n := 5) hx hb hK.1 hP 2 0 rfl rfl (by omega) (by decide) dX5_gatherRows_105 ?_
            refine n_ishl (z := (pow2 (tg f))) (b_shl (by omega)) hx hb dX5_gatherRows_106 ?_
            refine lv_iconst (v := iI (-1)) hx hb dX5_gatherRows_107 (by decide +kernel) ?_
            refine n_ixor (z := (-1 - pow2 (tg f))) (b_xor (by omega)) hx hb dX5_gatherRows_108 ?_
            refine n_iand (z := (wo row (tg f))) (by rw [← b_xor (g := tg f) (by omega)]; exact b_wo (x := row) (g := tg f) (by omega)) hx hb dX5_gatherRows_109 ?_
            refine n_iast (n := 5) hx hb hK.1 hP hD hS 7 0 rfl rfl (by omega) (by decide) dX5_gatherRows_110 (fun H locs hP hD hS => ?_)
            have hP : va_P D vwCl (W_T_P cI cS b a tk tg tl to ta te ts (updI tr1 f (wo row (tg f))) a cnt lv kd gd ln st) H := hP
            have hD : va_D A (W_T_P cI cS b a tk tg tl to ta te ts (updI tr1 f (wo row (tg f))) a cnt lv kd gd ln st) := hD
            refine n_iinc (lv' := [(1, .int (iI (f + 1))), (3, .int (iI i)), (2, .int (iI row)), (0, .ref (b 0))]) hx hb dX5_gatherRows_111 hl (k := 2) rfl (by decide) rfl (fun ls hl => ?_)
            refine lv_goto (tgt := 2) hx hb dX5_gatherRows_114 (by decide) ?_
            exact ih_2 ((f + 1), (updI tr1 f (wo row (tg f)))) (by (try dsimp only); exact ⟨by omega, fun g h0 h1 => by
            by_cases e : g = f
            · rw [e, updI_s, rowS_un hok hf.1 hf2.2, ← show i = ln f by omega, ← hrow]; unfold rowK; first | rw [if_pos (by omega)] | rw [if_neg (by omega)]
            · rw [updI_n e]; exact hT g h0 (by omega)⟩) (by (try dsimp only); exact (by omega)) _ _ _ hP hD hS (lv_sub hl [0, 3] rfl)
          ·
            refine lv_iload_n hx hb dX5_gatherRows_94 rfl (lv_at hl 1 rfl) ?_
            refine lv_goto (tgt := 110) hx hb dX5_gatherRows_95 (by decide) ?_
            refine n_iast (n := 5) hx hb hK.1 hP hD hS 7 0 rfl rfl (by omega) (by decide) dX5_gatherRows_110 (fun H locs hP hD hS => ?_)
            have hP : va_P D vwCl (W_T_P cI cS b a tk tg tl to ta te ts (updI tr1 f row) a cnt lv kd gd ln st) H := hP
            have hD : va_D A (W_T_P cI cS b a tk tg tl to ta te ts (updI tr1 f row) a cnt lv kd gd ln st) := hD
            refine n_iinc (lv' := [(1, .int (iI (f + 1))), (3, .int (iI i)), (2, .int (iI row)), (0, .ref (b 0))]) hx hb dX5_gatherRows_111 hl (k := 2) rfl (by decide) rfl (fun ls hl => ?_)
            refine lv_goto (tgt := 2) hx hb dX5_gatherRows_114 (by decide) ?_
            exact ih_2 ((f + 1), (updI tr1 f row)) (by (try dsimp only); exact ⟨by omega, fun g h0 h1 => by
            by_cases e : g = f
            · rw [e, updI_s, rowS_un hok hf.1 hf2.2, ← show i = ln f by omega, ← hrow]; unfold rowK; first | rw [if_pos (by omega)] | rw [if_neg (by omega)]
            · rw [updI_n e]; exact hT g h0 (by omega)⟩) (by (try dsimp only); exact (by omega)) _ _ _ hP hD hS (lv_sub hl [0, 3] rfl)
        ·
          refine lv_aload_n hx hb dX5_gatherRows_30 rfl (lv_at hl 3 rfl) ?_
          refine va_get (D := D) (ci := 5) (v := .ref (a 0)) (C := RX5) (T := TX5) (N := 9) hx hb hts iw_5 hown hK.1 hP 0 rfl rfl 0 (by decide) fl_12 (fun _ h9 => h9) rfl dX5_gatherRows_31 ?_
          refine lv_iload_n hx hb dX5_gatherRows_34 rfl (lv_at hl 2 rfl) ?_
          refine lv_iload_n hx hb dX5_gatherRows_35 rfl (lv_at hl 0 rfl) ?_
          refine x_callVi (As := [.int (iI f), .int (iI i)]) (rest := []) ⟨hx, hb, hml, hown, hts⟩ (c_X1_stepAt l D cI cS a cnt lv kd gd ln st H.size f i (by first | assumption | omega) (by first | assumption | omega) (by first | assumption | omega) (by first | assumption | omega)) (cwV 2 hts gX5_gatherRows_X1_stepAt rfl rfl rfl (by decide +kernel) ⟨Nat.le_of_ble_eq_true rfl, Nat.le_of_ble_eq_true rfl⟩) hK hP hD hS hA [8, 9, 10, 11, 12] [0, 1, 2, 3, 4, 5, 6, 7] (wr := [(b 0, .inr (5, [.ref (a 0), .ref (b 1), .ref (b 2), .int (iI tl), .ref (b 3), .ref (b 4), .ref (b 5), .ref (b 6), .ref (b 7)])), (b 1, .inl (cI, 5, .inl (aI tk))), (b 2, .inl (cI, 5, .inl (aI tg))), (b 3, .inl (cI, 5, .inl (aI to))), (b 4, .inl (cI, 5, .inl (aI ta))), (b 5, .inl (cI, 5, .inl (aI te))), (b 6, .inl (cI, 5, .inl (aI ts))), (b 7, .inl (cI, 5, .inl (aI tr1)))]) rfl rfl (by decide) (by decide) (by decide) 0 1 rfl rfl rfl [0, 1, 2, 3, 4, 5, 6, 7, 8, 9, 10, 11, 12] (fun (u : Unit) => (W_T_P cI cS b a tk tg tl to ta te ts tr1 a cnt lv kd gd ln st)) (fun _ => rfl) (by decide) rfl hl.1 rfl (Nat.le_of_ble_eq_true rfl) ⟨Nat.zero_le _, Nat.zero_le _⟩ dX5_gatherRows_36 (fun r_ u_ H locs hw hP hD hS => ?_)
          try dsimp only at hw
          subst hw
          have hP : va_P D vwCl (W_T_P cI cS b a tk tg tl to ta te ts tr1 a cnt lv kd gd ln st) H := hP
          have hD : va_D A (W_T_P cI cS b a tk tg tl to ta te ts tr1 a cnt lv kd gd ln st) := hD
          obtain ⟨v, h_v⟩ : ∃ z_ : Int, z_ = (if 0 ≤ f ∧ f < cnt ∧ 0 ≤ i ∧ i < ln f then st (f * 4 + i) else (-1)) := ⟨_, rfl⟩
          rw [← h_v]
          have hvv : v = st (f * 4 + i) := by rw [h_v, if_pos (by omega)]
          have hvr := hok.2.2 f hf2.1 hf2.2 i hi.1 (by omega)
          rw [← hvv] at hvr
          refine lv_istore (lv' := [(4, .int (iI v)), (3, .int (iI i)), (2, .int (iI row)), (1, .int (iI f)), (0, .ref (b 0))]) hx hb dX5_gatherRows_39 hl (by decide) rfl (fun ls hl => ?_)
          refine lv_iload_n hx hb dX5_gatherRows_41 rfl (lv_at hl 2 rfl) ?_
          refine lv_aload_n hx hb dX5_gatherRows_42 rfl (lv_at hl 4 rfl) ?_
          refine va_get (D := D) (ci := 5) (v := .ref (a 0)) (C := RX5) (T := TX5) (N := 9) hx hb hts iw_5 hown hK.1 hP 0 rfl rfl 0 (by decide) fl_12 (fun _ h9 => h9) rfl dX5_gatherRows_43 ?_
          refine lv_iload hx hb dX5_gatherRows_46 (lv_at hl 0 rfl) ?_
          refine lv_iconst (v := iI 4) hx hb dX5_gatherRows_48 (by decide +kernel) ?_
          refine n_isub hx hb dX5_gatherRows_49 ?_
          refine x_callVi (As := [.int (iI (v - 4))]) (rest := [.int (iI row)]) ⟨hx, hb, hml, hown, hts⟩ (c_X1_has l D cI cS a cnt lv kd gd ln st H.size (v - 4) (by first | assumption | omega) (by first | assumption | omega)) (cwV 1 hts gX5_gatherRows_X1_has rfl rfl rfl (by decide +kernel) ⟨Nat.le_of_ble_eq_true rfl, Nat.le_of_ble_eq_true rfl⟩) hK hP hD hS hA [8, 9, 10, 11, 12] [0, 1, 2, 3, 4, 5, 6, 7] (wr := [(b 0, .inr (5, [.ref (a 0), .ref (b 1), .ref (b 2), .int (iI tl), .ref (b 3), .ref (b 4), .ref (b 5), .ref (b 6), .ref (b 7)])), (b 1, .inl (cI, 5, .inl (aI tk))), (b 2, .inl (cI, 5, .inl (aI tg))), (b 3, .inl (cI, 5, .inl (aI to))), (b 4, .inl (cI, 5, .inl (aI ta))), (b 5, .inl (cI, 5, .inl (aI te))), (b 6, .inl (cI, 5, .inl (aI ts))), (b 7, .inl (cI, 5, .inl (aI tr1)))]) rfl rfl (by decide) (by decide) (by decide) 0 1 rfl rfl rfl [0, 1, 2, 3, 4, 5, 6, 7, 8, 9, 10, 11, 12] (fun (u : Unit) => (W_T_P cI cS b a tk tg tl to ta te ts tr1 a cnt lv kd gd ln st)) (fun _ => rfl) (by decide) rfl hl.1 rfl (Nat.le_of_ble_eq_true rfl) ⟨Nat.zero_le _, Nat.zero_le _⟩ dX5_gatherRows_50 (fun r_ u_ H locs hw hP hD hS => ?_)
          try dsimp only at hw
          subst hw
          have hP : va_P D vwCl (W_T_P cI cS b a tk tg tl to ta te ts tr1 a cnt lv kd gd ln st) H := hP
          have hD : va_D A (W_T_P cI cS b a tk tg tl to ta te ts tr1 a cnt lv kd gd ln st) := hD
          refine n_if_b1 (tgt := 68) hx hb dX5_gatherRows_53 (by decide)  (fun c_8 => ?_) (fun c_8 => ?_)
          ·
            have hp2 := pow2_4 (k := v) (by omega)
            refine lv_iconst (v := iI 1) hx hb dX5_gatherRows_68 (by decide +kernel) ?_
            refine lv_iload hx hb dX5_gatherRows_69 (lv_at hl 0 rfl) ?_
            refine n_ishl (z := (pow2 v)) (b_shl (by omega)) hx hb dX5_gatherRows_71 ?_
            refine n_ior (z := (orI row (pow2 v))) (b_or (by omega)) hx hb dX5_gatherRows_72 ?_
            refine lv_istore_n (lv' := [(2, .int (iI (orI row (pow2 v)))), (4, .int (iI v)), (3, .int (iI i)), (1, .int (iI f)), (0, .ref (b 0))]) hx hb dX5_gatherRows_73 rfl hl (by decide) rfl (fun ls hl => ?_)
            refine n_iinc (lv' := [(3, .int (iI (i + 1))), (2, .int (iI (orI row (pow2 v)))), (4, .int (iI v)), (1, .int (iI f)), (0, .ref (b 0))]) hx hb dX5_gatherRows_74 hl (k := 2) rfl (by decide) rfl (fun ls hl => ?_)
            refine lv_goto (tgt := 17) hx hb dX5_gatherRows_77 (by decide) ?_
            exact ih_5 ((orI row (pow2 v)), (i + 1)) (by (try dsimp only); exact ⟨by omega, by rw [rowGo_s _ _ hi.1, ← hrow, ← hvv]; first | (rw [if_pos (by omega), ← hT (v - 4) (by omega) (by omega)]) | (rw [if_neg (by omega)])⟩) (by (try dsimp only); exact (by omega)) _ _ _ hP hD hS (lv_sub hl [0, 1, 3, 4] rfl)
          ·
            have hp2 := rowS_rng (K := tk) hok (fun j a b => (hkk.1 j a b).2) (v - 4) (by omega) (by omega)
            rw [← hT (v - 4) (by omega) (by omega)] at hp2
            refine lv_aload_n hx hb dX5_gatherRows_56 rfl (lv_at hl 4 rfl) ?_
            refine va_get (D := D) (ci := 5) (v := .ref (b 7)) (C := RX5) (T := TX5) (N := 9) hx hb hts iw_5 hown hK.1 hP 0 rfl rfl 8 (by decide) fl_41 (fun _ h9 => h9) rfl dX5_gatherRows_57 ?_
            refine lv_iload hx hb dX5_gatherRows_60 (lv_at hl 0 rfl) ?_
            refine lv_iconst (v := iI 4) hx hb dX5_gatherRows_62 (by decide +kernel) ?_
            refine n_isub hx hb dX5_gatherRows_63 ?_
            refine n_iald (n := 5) hx hb hK.1 hP 7 0 rfl rfl (by omega) (by decide) dX5_gatherRows_64 ?_
            refine lv_goto (tgt := 72) hx hb dX5_gatherRows_65 (by decide) ?_
            refine n_ior (z := (orI row (tr1 (v - 4)))) (b_or (by omega)) hx hb dX5_gatherRows_72 ?_
            refine lv_istore_n (lv' := [(2, .int (iI (orI row (tr1 (v - 4))))), (4, .int (iI v)), (3, .int (iI i)), (1, .int (iI f)), (0, .ref (b 0))]) hx hb dX5_gatherRows_73 rfl hl (by decide) rfl (fun ls hl => ?_)
            refine n_iinc (lv' := [(3, .int (iI (i + 1))), (2, .int (iI (orI row (tr1 (v - 4))))), (4, .int (iI v)), (1, .int (iI f)), (0, .ref (b 0))]) hx hb dX5_gatherRows_74 hl (k := 2) rfl (by decide) rfl (fun ls hl => ?_)
            refine lv_goto (tgt := 17) hx hb dX5_gatherRows_77 (by decide) ?_
            exact ih_5 ((orI row (tr1 (v - 4))), (i + 1)) (by (try dsimp only); exact ⟨by omega, by rw [rowGo_s _ _ hi.1, ← hrow, ← hvv]; first | (rw [if_pos (by omega), ← hT (v - 4) (by omega) (by omega)]) | (rw [if_neg (by omega)])⟩) (by (try dsimp only); exact (by omega)) _ _ _ hP hD hS (lv_sub hl [0, 1, 3, 4] rfl)
set_option maxHeartbeats 4000000 in
set_option maxRecDepth 100000 in
theorem c_X5_rowOf (l : Launch) (D : va_G) (cI cS : ClassId) (b : Nat → Nat) (a : Nat → Nat) (tk : Int → Int) (tg : Int → Int) (tl : Int) (to : Int → Int) (ta : Int → Int) (te : Int → Int) (ts : Int → Int) (tr : Int → Int) (cnt : Int) (lv : Int) (kd : Int → Int) (gd : Int → Int) (ln : Int → Int) (st : Int → Int) (sz : Nat) (f : Int) (hok : okP cnt ln st) (hkk : okK cnt tk tg tl) (hf : 0 ≤ f ∧ f < cnt) : Met l yX5_rowOf wsX5_rowOf ({ frames := 4, cells := 0, slots := 0, locals := 89 }) (cP D cI cS (W_T_P cI cS b a tk tg tl to ta te ts tr a cnt lv kd gd ln st) sz [.ref (b 0), .int (iI f)]) (va_Qi (fun (r : Int32) (u : (Int → Int)) => r = iI (rowS tk tg ln st f)) (fun (u : (Int → Int)) t => cB D (va_A (W_T_P cI cS b a tk tg tl to ta te ts tr a cnt lv kd gd ln st) sz) (W_T_P cI cS b a tk tg tl to ta te ts u a cnt lv kd gd ln st) t) (va_A (W_T_P cI cS b a tk tg tl to ta te ts tr a cnt lv kd gd ln st) sz)) 0 0 (va_A (W_T_P cI cS b a tk tg tl to ta te ts tr a cnt lv kd gd ln st) sz) := by
  refine Met.ofW (cc := cX5_rowOf) (maxL := 2) (ret := (some .int)) (by decide) rfl ?_
  intro p e s m args below meth c_ s₁ B hml hv
  obtain ⟨rfl, hsz, hP, hK, hD0⟩ := hv
  have hx := B.exec
  have hb := B.bytes
  have hr := B.returns
  have hts := atoms_spec (ws := wsX5_rowOf) B.pre
  have hown : s.vm.findClass RX5 = some m.cls := findClass_of_methodNamed B.named
  have hlocks := B.notSynchronized
  subst hsz
  have hD := hD0.self (sz := s.heap.size)
  generalize hAe : va_A (W_T_P cI cS b a tk tg tl to ta te ts tr a cnt lv kd gd ln st) s.heap.size = A at hD ⊢
  have hA : ∀ q : Nat, s.heap.size ≤ q → A q := fun q h => by rw [← hAe]; exact Or.inr h
  have hS : va_S A s.heap s.heap [] := va_S.rf
  have hP : va_P D vwCl (W_T_P cI cS b a tk tg tl to ta te ts tr a cnt lv kd gd ln st) s.heap := hP
  have hl := lv_entry ([.ref (b 0), .int (iI f)] : List Value) (n := 2) (Nat.le_of_ble_eq_true rfl)
  rw [lg_entry_eq]
  generalize (lg_sl ([.ref (b 0), .int (iI f)] : List Value) ++ List.replicate (2 - (lg_sl ([.ref (b 0), .int (iI f)] : List Value)).length) Slot.unset).toArray = ls at hl ⊢
  have hl : lv_has ls 2 [(0, .ref (b 0)), (1, .int (iI f))] := hl
  have fl_41 := hts (.fieldLink RX5 41 "ActRows$Trial" "rows" "[I") (by decide +kernel)
  have iw_5 : ∀ w ∈ wsX50, w ∈ wsX5_rowOf := by decide +kernel
  have hc := hok.1
  have hln := hok.2.1
  refine lv_aload_n hx hb dX5_rowOf_0 rfl (lv_at hl 0 rfl) ?_
  refine x_callVv (As := []) (rest := []) ⟨hx, hb, hml, hown, hts⟩ (c_X5_gatherRows l D cI cS b a tk tg tl to ta te ts tr cnt lv kd gd ln st s.heap.size (by first | assumption | omega) (by first | assumption | omega)) (cwV 0 hts gX5_rowOf_X5_gatherRows rfl rfl rfl (by decide +kernel) ⟨Nat.le_of_ble_eq_true rfl, Nat.le_of_ble_eq_true rfl⟩) hK hP hD hS hA [0, 1, 2, 3, 4, 5, 6, 7, 8, 9, 10, 11, 12] [] (wr := ([] : va_W)) rfl rfl (by decide) (by decide) (by decide) 0 5 rfl rfl rfl [0, 1, 2, 3, 4, 5, 6, 7, 8, 9, 10, 11, 12] (fun (u : (Int → Int)) => (W_T_P cI cS b a tk tg tl to ta te ts u a cnt lv kd gd ln st)) (fun _ => rfl) (by decide) rfl hl.1 rfl (Nat.le_of_ble_eq_true rfl) ⟨Nat.zero_le _, Nat.zero_le _⟩ dX5_rowOf_1 (fun u_ H locs hw hP hD hS => ?_)
  obtain ⟨tr_1, eu_⟩ : ∃ z, z = u_ := ⟨_, rfl⟩
  subst eu_
  try dsimp only at hw
  have hR2 := hw
  have hP : va_P D vwCl (W_T_P cI cS b a tk tg tl to ta te ts tr_1 a cnt lv kd gd ln st) H := hP
  have hD : va_D A (W_T_P cI cS b a tk tg tl to ta te ts tr_1 a cnt lv kd gd ln st) := hD
  refine lv_aload_n hx hb dX5_rowOf_4 rfl (lv_at hl 0 rfl) ?_
  refine va_get (D := D) (ci := 5) (v := .ref (b 7)) (C := RX5) (T := TX5) (N := 9) hx hb hts iw_5 hown hK.1 hP 0 rfl rfl 8 (by decide) fl_41 (fun _ h9 => h9) rfl dX5_rowOf_5 ?_
  refine lv_iload_n hx hb dX5_rowOf_8 rfl (lv_at hl 1 rfl) ?_
  refine n_iald (n := 5) hx hb hK.1 hP 7 0 rfl rfl (by omega) (by decide) dX5_rowOf_9 ?_
  exact W.iret (v := iI (tr_1 f)) hx hb hr (fun t ht hW => ⟨⟨_, (tr_1), rfl, congrArg iI (show (tr_1 f) = (rowS tk tg ln st f) from (hR2 f hf.1 hf.2)), by rw [ht]; exact hP, hD⟩, hS.F ht⟩) hS.2.2 dX5_rowOf_10
set_option maxHeartbeats 4000000 in
set_option maxRecDepth 100000 in
theorem c_X5_rowOfAll (l : Launch) (D : va_G) (cI cS : ClassId) (b : Nat → Nat) (a : Nat → Nat) (tk : Int → Int) (tg : Int → Int) (tl : Int) (to : Int → Int) (ta : Int → Int) (te : Int → Int) (ts : Int → Int) (tr : Int → Int) (cnt : Int) (lv : Int) (kd : Int → Int) (gd : Int → Int) (ln : Int → Int) (st : Int → Int) (sz : Nat) (hok : okP cnt ln st) (hkk : okK cnt tk tg tl) : Met l yX5_rowOfAll wsX5_rowOfAll ({ frames := 4, cells := 0, slots := 0, locals := 89 }) (cP D cI cS (W_T_P cI cS b a tk tg tl to ta te ts tr a cnt lv kd gd ln st) sz [.ref (b 0)]) (va_Qi (fun (r : Int32) (u : (Int → Int)) => r = iI (orAll (rowS tk tg ln st) cnt.toNat)) (fun (u : (Int → Int)) t => cB D (va_A (W_T_P cI cS b a tk tg tl to ta te ts tr a cnt lv kd gd ln st) sz) (W_T_P cI cS b a tk tg tl to ta te ts u a cnt lv kd gd ln st) t) (va_A (W_T_P cI cS b a tk tg tl to ta te ts tr a cnt lv kd gd ln st) sz)) 0 0 (va_A (W_T_P cI cS b a tk tg tl to ta te ts tr a cnt lv kd gd ln st) sz) := by
  refine Met.ofW (cc := cX5_rowOfAll) (maxL := 3) (ret := (some .int)) (by decide) rfl ?_
  intro p e s m args below meth c_ s₁ B hml hv
  obtain ⟨rfl, hsz, hP, hK, hD0⟩ := hv
  have hx := B.exec
  have hb := B.bytes
  have hr := B.returns
  have hts := atoms_spec (ws := wsX5_rowOfAll) B.pre
  have hown : s.vm.findClass RX5 = some m.cls := findClass_of_methodNamed B.named
  have hlocks := B.notSynchronized
  subst hsz
  have hD := hD0.self (sz := s.heap.size)
  generalize hAe : va_A (W_T_P cI cS b a tk tg tl to ta te ts tr a cnt lv kd gd ln st) s.heap.size = A at hD ⊢
  have hA : ∀ q : Nat, s.heap.size ≤ q → A q := fun q h => by rw [← hAe]; exact Or.inr h
  have hS : va_S A s.heap s.heap [] := va_S.rf
  have hP : va_P D vwCl (W_T_P cI cS b a tk tg tl to ta te ts tr a cnt lv kd gd ln st) s.heap := hP
  have hl := lv_entry ([.ref (b 0)] : List Value) (n := 3) (Nat.le_of_ble_eq_true rfl)
  rw [lg_entry_eq]
  generalize (lg_sl ([.ref (b 0)] : List Value) ++ List.replicate (3 - (lg_sl ([.ref (b 0)] : List Value)).length) Slot.unset).toArray = ls at hl ⊢
  have hl : lv_has ls 3 [(0, .ref (b 0))] := hl
  have fl_12 := hts (.fieldLink RX5 12 "ActRows$Trial" "program" "LActRows$Program;") (by decide +kernel)
  have iw_5 : ∀ w ∈ wsX50, w ∈ wsX5_rowOfAll := by decide +kernel
  have fn_56 := va_Nw.use (A := ([.ref (b 0)] : List Value).toArray) rfl (hK.2 ("ActRows$Trial", 56, "ActRows$Program", "count", "I") (List.mem_of_getElem? (i := 30) rfl))
  have iw_1 : ∀ w ∈ wsX10, w ∈ wsX5_rowOfAll := by decide +kernel
  have fl_41 := hts (.fieldLink RX5 41 "ActRows$Trial" "rows" "[I") (by decide +kernel)
  have hc := hok.1
  have hln := hok.2.1
  refine lv_aload_n hx hb dX5_rowOfAll_0 rfl (lv_at hl 0 rfl) ?_
  refine x_callVv (As := []) (rest := []) ⟨hx, hb, hml, hown, hts⟩ (c_X5_gatherRows l D cI cS b a tk tg tl to ta te ts tr cnt lv kd gd ln st s.heap.size (by first | assumption | omega) (by first | assumption | omega)) (cwV 0 hts gX5_rowOfAll_X5_gatherRows rfl rfl rfl (by decide +kernel) ⟨Nat.le_of_ble_eq_true rfl, Nat.le_of_ble_eq_true rfl⟩) hK hP hD hS hA [0, 1, 2, 3, 4, 5, 6, 7, 8, 9, 10, 11, 12] [] (wr := ([] : va_W)) rfl rfl (by decide) (by decide) (by decide) 0 5 rfl rfl rfl [0, 1, 2, 3, 4, 5, 6, 7, 8, 9, 10, 11, 12] (fun (u : (Int → Int)) => (W_T_P cI cS b a tk tg tl to ta te ts u a cnt lv kd gd ln st)) (fun _ => rfl) (by decide) rfl hl.1 rfl (Nat.le_of_ble_eq_true rfl) ⟨Nat.zero_le _, Nat.zero_le _⟩ dX5_rowOfAll_1 (fun u_ H locs hw hP hD hS => ?_)
  obtain ⟨tr2, eu_⟩ : ∃ z, z = u_ := ⟨_, rfl⟩
  subst eu_
  try dsimp only at hw
  have hR2 := hw
  have hP : va_P D vwCl (W_T_P cI cS b a tk tg tl to ta te ts tr2 a cnt lv kd gd ln st) H := hP
  have hD : va_D A (W_T_P cI cS b a tk tg tl to ta te ts tr2 a cnt lv kd gd ln st) := hD
  refine lv_iconst (v := iI 0) hx hb dX5_rowOfAll_4 (by decide +kernel) ?_
  refine lv_istore_n (lv' := [(1, .int (iI 0)), (0, .ref (b 0))]) hx hb dX5_rowOfAll_5 rfl hl (by decide) rfl (fun ls hl => ?_)
  refine lv_iconst (v := iI 0) hx hb dX5_rowOfAll_6 (by decide +kernel) ?_
  refine lv_istore_n (lv' := [(2, .int (iI 0)), (1, .int (iI 0)), (0, .ref (b 0))]) hx hb dX5_rowOfAll_7 rfl hl (by decide) rfl (fun ls hl => ?_)
  refine x_loop (σ := Int × Int) (fun (xv_ : Int × Int) => match xv_ with | (al, f) => (0 ≤ f ∧ f ≤ cnt) ∧ (al = orAll (rowS tk tg ln st) f.toNat)) (fun (xv_ : Int × Int) => match xv_ with | (al, f) => (cnt - f).toNat) (fun (xv_ : Int × Int) => match xv_ with | (al, f) => (W_T_P cI cS b a tk tg tl to ta te ts tr2 a cnt lv kd gd ln st)) (fun (xv_ : Int × Int) => match xv_ with | (al, f) => [(2, .int (iI f)), (1, .int (iI al)), (0, .ref (b 0))]) (nL := 3) ?step_1 (0, 0) (by (try dsimp only); exact ⟨by omega, rfl⟩) hP hD hS hl
  case step_1 =>
    intro xv_ hI ih H locs ls hP hD hS hl
    obtain ⟨al, f⟩ := xv_
    try dsimp only at hI ih
    obtain ⟨hf, ha⟩ := hI
    have hP : va_P D vwCl (W_T_P cI cS b a tk tg tl to ta te ts tr2 a cnt lv kd gd ln st) H := hP
    have hD : va_D A (W_T_P cI cS b a tk tg tl to ta te ts tr2 a cnt lv kd gd ln st) := hD
    have hl : lv_has ls 3 [(2, .int (iI f)), (1, .int (iI al)), (0, .ref (b 0))] := hl
    have har := orAll_rng (r := rowS tk tg ln st) f.toNat (fun j a b => rowS_rng hok (fun j a b => (hkk.1 j a b).2) j a (by omega))
    rw [← ha] at har
    have ih_2 := ih
    refine lv_iload_n hx hb dX5_rowOfAll_8 rfl (lv_at hl 0 rfl) ?_
    refine lv_aload_n hx hb dX5_rowOfAll_9 rfl (lv_at hl 2 rfl) ?_
    refine va_get (D := D) (ci := 5) (v := .ref (a 0)) (C := RX5) (T := TX5) (N := 9) hx hb hts iw_5 hown hK.1 hP 0 rfl rfl 0 (by decide) fl_12 (fun _ h9 => h9) rfl dX5_rowOfAll_10 ?_
    refine va_getN (D := D) (ci := 1) (v := .int (iI cnt)) (C := RX1) (T := TX1) (N := 6) hx hb hts iw_1 hown hK.1 hP 8 rfl rfl 4 (by decide) fn_56 (fun _ h9 => h9) rfl dX5_rowOfAll_13 ?_
    refine n_icmp_ge (tgt := 34) hx hb dX5_rowOfAll_16 (by decide) (by omega) (fun c_3 => ?_) (fun c_3 => ?_)
    ·
      refine lv_iload_n hx hb dX5_rowOfAll_34 rfl (lv_at hl 1 rfl) ?_
      exact W.iret (v := iI al) hx hb hr (fun t ht hW => ⟨⟨_, (tr2), rfl, congrArg iI (show al = (orAll (rowS tk tg ln st) cnt.toNat) from (by rw [ha, show f = cnt by omega])), by rw [ht]; exact hP, hD⟩, hS.F ht⟩) hS.2.2 dX5_rowOfAll_35
    ·
      refine lv_iload_n hx hb dX5_rowOfAll_19 rfl (lv_at hl 1 rfl) ?_
      refine lv_aload_n hx hb dX5_rowOfAll_20 rfl (lv_at hl 2 rfl) ?_
      refine va_get (D := D) (ci := 5) (v := .ref (b 7)) (C := RX5) (T := TX5) (N := 9) hx hb hts iw_5 hown hK.1 hP 0 rfl rfl 8 (by decide) fl_41 (fun _ h9 => h9) rfl dX5_rowOfAll_21 ?_
      refine lv_iload_n hx hb dX5_rowOfAll_24 rfl (lv_at hl 0 rfl) ?_
      have hp2 := rowS_rng (K := tk) hok (fun j a b => (hkk.1 j a b).2) f hf.1 (by omega)
      rw [← hR2 f hf.1 (by omega)] at hp2
      refine n_iald (n := 5) hx hb hK.1 hP 7 0 rfl rfl (by omega) (by decide) dX5_rowOfAll_25 ?_
      refine n_ior (z := (orI al (tr2 f))) (b_or (by omega)) hx hb dX5_rowOfAll_26 ?_
      refine lv_istore_n (lv' := [(1, .int (iI (orI al (tr2 f)))), (2, .int (iI f)), (0, .ref (b 0))]) hx hb dX5_rowOfAll_27 rfl hl (by decide) rfl (fun ls hl => ?_)
      refine n_iinc (lv' := [(2, .int (iI (f + 1))), (1, .int (iI (orI al (tr2 f)))), (0, .ref (b 0))]) hx hb dX5_rowOfAll_28 hl (k := 1) rfl (by decide) rfl (fun ls hl => ?_)
      refine lv_goto (tgt := 8) hx hb dX5_rowOfAll_31 (by decide) ?_
      exact ih_2 ((orI al (tr2 f)), (f + 1)) (by (try dsimp only); exact ⟨by omega, by rw [orAll_s _ hf.1, ← ha, ← hR2 f hf.1 (by omega)]⟩) (by (try dsimp only); exact (by omega)) _ _ _ hP hD hS (lv_sub hl [0, 1, 2] rfl)
set_option maxHeartbeats 4000000 in
set_option maxRecDepth 100000 in
theorem c_X5_mayOf (l : Launch) (D : va_G) (cI cS : ClassId) (b : Nat → Nat) (a : Nat → Nat) (tk : Int → Int) (tg : Int → Int) (tl : Int) (to : Int → Int) (ta : Int → Int) (te : Int → Int) (ts : Int → Int) (tr : Int → Int) (cnt : Int) (lv : Int) (kd : Int → Int) (gd : Int → Int) (ln : Int → Int) (st : Int → Int) (sz : Nat) (f : Int) (hok : okP cnt ln st) (hkk : okK cnt tk tg tl) (hf : 0 ≤ f ∧ f < cnt) : Met l yX5_mayOf wsX5_mayOf ({ frames := 6, cells := 0, slots := 0, locals := 131 }) (cP D cI cS (W_T_P cI cS b a tk tg tl to ta te ts tr a cnt lv kd gd ln st) sz [.ref (b 0), .int (iI f)]) (va_Qi (fun (r : Int32) (u : Int × (Int → Int) × (Int → Int) × (Int → Int) × (Int → Int)) => r = iI (mayGo (fun x => (sem tk tg x ln st f).1) 16)) (fun (u : Int × (Int → Int) × (Int → Int) × (Int → Int) × (Int → Int)) t => cB D (va_A (W_T_P cI cS b a tk tg tl to ta te ts tr a cnt lv kd gd ln st) sz) (W_T_P cI cS b a tk tg u.1 u.2.1 u.2.2.1 u.2.2.2.1 u.2.2.2.2 tr a cnt lv kd gd ln st) t) (va_A (W_T_P cI cS b a tk tg tl to ta te ts tr a cnt lv kd gd ln st) sz)) 0 0 (va_A (W_T_P cI cS b a tk tg tl to ta te ts tr a cnt lv kd gd ln st) sz) := by
  refine Met.ofW (cc := cX5_mayOf) (maxL := 4) (ret := (some .int)) (by decide) rfl ?_
  intro p e s m args below meth c_ s₁ B hml hv
  obtain ⟨rfl, hsz, hP, hK, hD0⟩ := hv
  have hx := B.exec
  have hb := B.bytes
  have hr := B.returns
  have hts := atoms_spec (ws := wsX5_mayOf) B.pre
  have hown : s.vm.findClass RX5 = some m.cls := findClass_of_methodNamed B.named
  have hlocks := B.notSynchronized
  subst hsz
  have hD := hD0.self (sz := s.heap.size)
  generalize hAe : va_A (W_T_P cI cS b a tk tg tl to ta te ts tr a cnt lv kd gd ln st) s.heap.size = A at hD ⊢
  have hA : ∀ q : Nat, s.heap.size ≤ q → A q := fun q h => by rw [← hAe]; exact Or.inr h
  have hS : va_S A s.heap s.heap [] := va_S.rf
  have hP : va_P D vwCl (W_T_P cI cS b a tk tg tl to ta te ts tr a cnt lv kd gd ln st) s.heap := hP
  have hl := lv_entry ([.ref (b 0), .int (iI f)] : List Value) (n := 4) (Nat.le_of_ble_eq_true rfl)
  rw [lg_entry_eq]
  generalize (lg_sl ([.ref (b 0), .int (iI f)] : List Value) ++ List.replicate (4 - (lg_sl ([.ref (b 0), .int (iI f)] : List Value)).length) Slot.unset).toArray = ls at hl ⊢
  have hl : lv_has ls 4 [(0, .ref (b 0)), (1, .int (iI f))] := hl
  have fl_29 := hts (.fieldLink RX5 29 "ActRows$Trial" "outs" "[I") (by decide +kernel)
  have iw_5 : ∀ w ∈ wsX50, w ∈ wsX5_mayOf := by decide +kernel
  have hc := hok.1
  have hln := hok.2.1
  refine lv_iconst (v := iI 0) hx hb dX5_mayOf_0 (by decide +kernel) ?_
  refine lv_istore_n (lv' := [(2, .int (iI 0)), (0, .ref (b 0)), (1, .int (iI f))]) hx hb dX5_mayOf_1 rfl hl (by decide) rfl (fun ls hl => ?_)
  refine lv_iconst (v := iI 0) hx hb dX5_mayOf_2 (by decide +kernel) ?_
  refine lv_istore_n (lv' := [(3, .int (iI 0)), (2, .int (iI 0)), (0, .ref (b 0)), (1, .int (iI f))]) hx hb dX5_mayOf_3 rfl hl (by decide) rfl (fun ls hl => ?_)
  refine x_loop (σ := Int × Int × Int × (Int → Int) × (Int → Int) × (Int → Int) × (Int → Int)) (fun (xv_ : Int × Int × Int × (Int → Int) × (Int → Int) × (Int → Int) × (Int → Int)) => match xv_ with | (may, set, tl1, to1, ta1, te1, ts1) => (0 ≤ set ∧ set ≤ 16) ∧ (may = mayGo (fun x => (sem tk tg x ln st f).1) set.toNat)) (fun (xv_ : Int × Int × Int × (Int → Int) × (Int → Int) × (Int → Int) × (Int → Int)) => match xv_ with | (may, set, tl1, to1, ta1, te1, ts1) => (16 - set).toNat) (fun (xv_ : Int × Int × Int × (Int → Int) × (Int → Int) × (Int → Int) × (Int → Int)) => match xv_ with | (may, set, tl1, to1, ta1, te1, ts1) => (W_T_P cI cS b a tk tg tl1 to1 ta1 te1 ts1 tr a cnt lv kd gd ln st)) (fun (xv_ : Int × Int × Int × (Int → Int) × (Int → Int) × (Int → Int) × (Int → Int)) => match xv_ with | (may, set, tl1, to1, ta1, te1, ts1) => [(3, .int (iI set)), (2, .int (iI may)), (0, .ref (b 0)), (1, .int (iI f))]) (nL := 4) ?step_1 (0, 0, tl, to, ta, te, ts) (by (try dsimp only); exact ⟨by omega, rfl⟩) hP hD hS hl
  case step_1 =>
    intro xv_ hI ih H locs ls hP hD hS hl
    obtain ⟨may, set, tl1, to1, ta1, te1, ts1⟩ := xv_
    try dsimp only at hI ih
    obtain ⟨hs, hm⟩ := hI
    have hP : va_P D vwCl (W_T_P cI cS b a tk tg tl1 to1 ta1 te1 ts1 tr a cnt lv kd gd ln st) H := hP
    have hD : va_D A (W_T_P cI cS b a tk tg tl1 to1 ta1 te1 ts1 tr a cnt lv kd gd ln st) := hD
    have hl : lv_has ls 4 [(3, .int (iI set)), (2, .int (iI may)), (0, .ref (b 0)), (1, .int (iI f))] := hl
    have hmr := mayGo_rng (o := (fun x => (sem tk tg x ln st f).1)) (fun x => (sem_ok (K := tk) (G := tg) (L := x) hok f hf.1 hf.2).1) set.toNat
    rw [← hm] at hmr
    have ih_2 := ih
    refine lv_iload_n hx hb dX5_mayOf_4 rfl (lv_at hl 0 rfl) ?_
    refine lv_bipush (v := iI 16) hx hb dX5_mayOf_5 (by decide +kernel) ?_
    refine n_icmp_ge (tgt := 42) hx hb dX5_mayOf_7 (by decide) (by omega) (fun c_3 => ?_) (fun c_3 => ?_)
    ·
      refine lv_iload_n hx hb dX5_mayOf_42 rfl (lv_at hl 1 rfl) ?_
      exact W.iret (v := iI may) hx hb hr (fun t ht hW => ⟨⟨_, (tl1, to1, ta1, te1, ts1), rfl, congrArg iI (show may = (mayGo (fun x => (sem tk tg x ln st f).1) 16) from (by rw [hm, show set = 16 by omega]; rfl)), by rw [ht]; exact hP, hD⟩, hS.F ht⟩) hS.2.2 dX5_mayOf_43
    ·
      refine lv_aload_n hx hb dX5_mayOf_10 rfl (lv_at hl 2 rfl) ?_
      refine lv_iload_n hx hb dX5_mayOf_11 rfl (lv_at hl 0 rfl) ?_
      refine x_callVv (As := [.int (iI set)]) (rest := []) ⟨hx, hb, hml, hown, hts⟩ (c_X5_settleBy l D cI cS b a tk tg tl1 to1 ta1 te1 ts1 tr cnt lv kd gd ln st H.size set (by first | assumption | omega) ⟨hkk.1, by omega⟩) (cwV 1 hts gX5_mayOf_X5_settleBy rfl rfl rfl (by decide +kernel) ⟨Nat.le_of_ble_eq_true rfl, Nat.le_of_ble_eq_true rfl⟩) hK hP hD hS hA [0, 1, 2, 3, 4, 5, 6, 7, 8, 9, 10, 11, 12] [] (wr := ([] : va_W)) rfl rfl (by decide) (by decide) (by decide) 0 5 rfl rfl rfl [0, 1, 2, 3, 4, 5, 6, 7, 8, 9, 10, 11, 12] (fun (u : (Int → Int) × (Int → Int) × (Int → Int) × (Int → Int)) => (W_T_P cI cS b a tk tg set u.1 u.2.1 u.2.2.1 u.2.2.2 tr a cnt lv kd gd ln st)) (fun _ => rfl) (by decide) rfl hl.1 rfl (Nat.le_of_ble_eq_true rfl) ⟨Nat.zero_le _, Nat.zero_le _⟩ dX5_mayOf_12 (fun u_ H locs hw hP hD hS => ?_)
      obtain ⟨to2, ta_4, te_5, ts_6⟩ := u_
      try dsimp only at hw
      have hT2 := hw
      have hP : va_P D vwCl (W_T_P cI cS b a tk tg set to2 ta_4 te_5 ts_6 tr a cnt lv kd gd ln st) H := hP
      have hD : va_D A (W_T_P cI cS b a tk tg set to2 ta_4 te_5 ts_6 tr a cnt lv kd gd ln st) := hD
      have hO2 := (hT2 f hf.1 hf.2).1
      have hO3 := (sem_ok (K := tk) (G := tg) (L := set) hok f hf.1 hf.2).1
      refine lv_aload_n hx hb dX5_mayOf_15 rfl (lv_at hl 2 rfl) ?_
      refine va_get (D := D) (ci := 5) (v := .ref (b 3)) (C := RX5) (T := TX5) (N := 9) hx hb hts iw_5 hown hK.1 hP 0 rfl rfl 4 (by decide) fl_29 (fun _ h9 => h9) rfl dX5_mayOf_16 ?_
      refine lv_iload_n hx hb dX5_mayOf_19 rfl (lv_at hl 3 rfl) ?_
      refine n_iald (n := 5) hx hb hK.1 hP 3 0 rfl rfl (by omega) (by decide) dX5_mayOf_20 ?_
      refine lv_iconst (v := iI 4) hx hb dX5_mayOf_21 (by decide +kernel) ?_
      refine n_icmp_eq (tgt := 36) hx hb dX5_mayOf_22 (by decide) (by omega) (fun c_7 => ?_) (fun c_7 => ?_)
      ·
        refine n_iinc (lv' := [(3, .int (iI (set + 1))), (2, .int (iI may)), (0, .ref (b 0)), (1, .int (iI f))]) hx hb dX5_mayOf_36 hl (k := 0) rfl (by decide) rfl (fun ls hl => ?_)
        refine lv_goto (tgt := 4) hx hb dX5_mayOf_39 (by decide) ?_
        exact ih_2 (may, (set + 1), set, to2, ta_4, te_5, ts_6) (by (try dsimp only); exact ⟨by omega, by rw [mayGo_s _ hs.1, ← hm, ← hO2]; first | (rw [if_pos (by omega)]) | (rw [if_neg (by omega)])⟩) (by (try dsimp only); exact (by omega)) _ _ _ hP hD hS (lv_sub hl [0, 1, 2, 3] rfl)
      ·
        have hp2 := pow2_4 (k := to2 f) (by omega)
        refine lv_iload_n hx hb dX5_mayOf_25 rfl (lv_at hl 1 rfl) ?_
        refine lv_iconst (v := iI 1) hx hb dX5_mayOf_26 (by decide +kernel) ?_
        refine lv_aload_n hx hb dX5_mayOf_27 rfl (lv_at hl 2 rfl) ?_
        refine va_get (D := D) (ci := 5) (v := .ref (b 3)) (C := RX5) (T := TX5) (N := 9) hx hb hts iw_5 hown hK.1 hP 0 rfl rfl 4 (by decide) fl_29 (fun _ h9 => h9) rfl dX5_mayOf_28 ?_
        refine lv_iload_n hx hb dX5_mayOf_31 rfl (lv_at hl 3 rfl) ?_
        refine n_iald (n := 5) hx hb hK.1 hP 3 0 rfl rfl (by omega) (by decide) dX5_mayOf_32 ?_
        refine n_ishl (z := (pow2 (to2 f))) (b_shl (by omega)) hx hb dX5_mayOf_33 ?_
        refine n_ior (z := (orI may (pow2 (to2 f)))) (b_or (by omega)) hx hb dX5_mayOf_34 ?_
        refine lv_istore_n (lv' := [(2, .int (iI (orI may (pow2 (to2 f))))), (3, .int (iI set)), (0, .ref (b 0)), (1, .int (iI f))]) hx hb dX5_mayOf_35 rfl hl (by decide) rfl (fun ls hl => ?_)
        refine n_iinc (lv' := [(3, .int (iI (set + 1))), (2, .int (iI (orI may (pow2 (to2 f))))), (0, .ref (b 0)), (1, .int (iI f))]) hx hb dX5_mayOf_36 hl (k := 1) rfl (by decide) rfl (fun ls hl => ?_)
        refine lv_goto (tgt := 4) hx hb dX5_mayOf_39 (by decide) ?_
        exact ih_2 ((orI may (pow2 (to2 f))), (set + 1), set, to2, ta_4, te_5, ts_6) (by (try dsimp only); exact ⟨by omega, by rw [mayGo_s _ hs.1, ← hm, ← hO2]; first | (rw [if_pos (by omega)]) | (rw [if_neg (by omega)])⟩) (by (try dsimp only); exact (by omega)) _ _ _ hP hD hS (lv_sub hl [0, 1, 2, 3] rfl)
set_option maxHeartbeats 4000000 in
set_option maxRecDepth 100000 in
theorem c_X5_setsThatLetOut (l : Launch) (D : va_G) (cI cS : ClassId) (b : Nat → Nat) (a : Nat → Nat) (tk : Int → Int) (tg : Int → Int) (tl : Int) (to : Int → Int) (ta : Int → Int) (te : Int → Int) (ts : Int → Int) (tr : Int → Int) (cnt : Int) (lv : Int) (kd : Int → Int) (gd : Int → Int) (ln : Int → Int) (st : Int → Int) (sz : Nat) (f : Int) (x0 : Int) (hok : okP cnt ln st) (hkk : okK cnt tk tg tl) (hf : 0 ≤ f ∧ f < cnt) (hx0 : -2147483648 ≤ x0 ∧ x0 < 2147483648) : Met l yX5_setsThatLetOut wsX5_setsThatLetOut ({ frames := 6, cells := 0, slots := 0, locals := 131 }) (cP D cI cS (W_T_P cI cS b a tk tg tl to ta te ts tr a cnt lv kd gd ln st) sz [.ref (b 0), .int (iI f), .int (iI x0)]) (va_Qi (fun (r : Int32) (u : Int × (Int → Int) × (Int → Int) × (Int → Int) × (Int → Int)) => r = iI (cntEq (fun x => (sem tk tg x ln st f).1) x0 16)) (fun (u : Int × (Int → Int) × (Int → Int) × (Int → Int) × (Int → Int)) t => cB D (va_A (W_T_P cI cS b a tk tg tl to ta te ts tr a cnt lv kd gd ln st) sz) (W_T_P cI cS b a tk tg u.1 u.2.1 u.2.2.1 u.2.2.2.1 u.2.2.2.2 tr a cnt lv kd gd ln st) t) (va_A (W_T_P cI cS b a tk tg tl to ta te ts tr a cnt lv kd gd ln st) sz)) 0 0 (va_A (W_T_P cI cS b a tk tg tl to ta te ts tr a cnt lv kd gd ln st) sz) := by
  refine Met.ofW (cc := cX5_setsThatLetOut) (maxL := 5) (ret := (some .int)) (by decide) rfl ?_
  intro p e s m args below meth c_ s₁ B hml hv
  obtain ⟨rfl, hsz, hP, hK, hD0⟩ := hv
  have hx := B.exec
  have hb := B.bytes
  have hr := B.returns
  have hts := atoms_spec (ws := wsX5_setsThatLetOut) B.pre
  have hown : s.vm.findClass RX5 = some m.cls := findClass_of_methodNamed B.named
  have hlocks := B.notSynchronized
  subst hsz
  have hD := hD0.self (sz := s.heap.size)
  generalize hAe : va_A (W_T_P cI cS b a tk tg tl to ta te ts tr a cnt lv kd gd ln st) s.heap.size = A at hD ⊢
  have hA : ∀ q : Nat, s.heap.size ≤ q → A q := fun q h => by rw [← hAe]; exact Or.inr h
  have hS : va_S A s.heap s.heap [] := va_S.rf
  have hP : va_P D vwCl (W_T_P cI cS b a tk tg tl to ta te ts tr a cnt lv kd gd ln st) s.heap := hP
  have hl := lv_entry ([.ref (b 0), .int (iI f), .int (iI x0)] : List Value) (n := 5) (Nat.le_of_ble_eq_true rfl)
  rw [lg_entry_eq]
  generalize (lg_sl ([.ref (b 0), .int (iI f), .int (iI x0)] : List Value) ++ List.replicate (5 - (lg_sl ([.ref (b 0), .int (iI f), .int (iI x0)] : List Value)).length) Slot.unset).toArray = ls at hl ⊢
  have hl : lv_has ls 5 [(0, .ref (b 0)), (1, .int (iI f)), (2, .int (iI x0))] := hl
  have fl_29 := hts (.fieldLink RX5 29 "ActRows$Trial" "outs" "[I") (by decide +kernel)
  have iw_5 : ∀ w ∈ wsX50, w ∈ wsX5_setsThatLetOut := by decide +kernel
  have hc := hok.1
  have hln := hok.2.1
  refine lv_iconst (v := iI 0) hx hb dX5_setsThatLetOut_0 (by decide +kernel) ?_
  refine lv_istore_n (lv' := [(3, .int (iI 0)), (0, .ref (b 0)), (1, .int (iI f)), (2, .int (iI x0))]) hx hb dX5_setsThatLetOut_1 rfl hl (by decide) rfl (fun ls hl => ?_)
  refine lv_iconst (v := iI 0) hx hb dX5_setsThatLetOut_2 (by decide +kernel) ?_
  refine lv_istore (lv' := [(4, .int (iI 0)), (3, .int (iI 0)), (0, .ref (b 0)), (1, .int (iI f)), (2, .int (iI x0))]) hx hb dX5_setsThatLetOut_3 hl (by decide) rfl (fun ls hl => ?_)
  refine x_loop (σ := Int × Int × Int × (Int → Int) × (Int → Int) × (Int → Int) × (Int → Int)) (fun (xv_ : Int × Int × Int × (Int → Int) × (Int → Int) × (Int → Int) × (Int → Int)) => match xv_ with | (n, set, tl1, to1, ta1, te1, ts1) => (0 ≤ set ∧ set ≤ 16) ∧ (n = cntEq (fun x => (sem tk tg x ln st f).1) x0 set.toNat)) (fun (xv_ : Int × Int × Int × (Int → Int) × (Int → Int) × (Int → Int) × (Int → Int)) => match xv_ with | (n, set, tl1, to1, ta1, te1, ts1) => (16 - set).toNat) (fun (xv_ : Int × Int × Int × (Int → Int) × (Int → Int) × (Int → Int) × (Int → Int)) => match xv_ with | (n, set, tl1, to1, ta1, te1, ts1) => (W_T_P cI cS b a tk tg tl1 to1 ta1 te1 ts1 tr a cnt lv kd gd ln st)) (fun (xv_ : Int × Int × Int × (Int → Int) × (Int → Int) × (Int → Int) × (Int → Int)) => match xv_ with | (n, set, tl1, to1, ta1, te1, ts1) => [(4, .int (iI set)), (3, .int (iI n)), (0, .ref (b 0)), (1, .int (iI f)), (2, .int (iI x0))]) (nL := 5) ?step_1 (0, 0, tl, to, ta, te, ts) (by (try dsimp only); exact ⟨by omega, rfl⟩) hP hD hS hl
  case step_1 =>
    intro xv_ hI ih H locs ls hP hD hS hl
    obtain ⟨n, set, tl1, to1, ta1, te1, ts1⟩ := xv_
    try dsimp only at hI ih
    obtain ⟨hs, hm⟩ := hI
    have hP : va_P D vwCl (W_T_P cI cS b a tk tg tl1 to1 ta1 te1 ts1 tr a cnt lv kd gd ln st) H := hP
    have hD : va_D A (W_T_P cI cS b a tk tg tl1 to1 ta1 te1 ts1 tr a cnt lv kd gd ln st) := hD
    have hl : lv_has ls 5 [(4, .int (iI set)), (3, .int (iI n)), (0, .ref (b 0)), (1, .int (iI f)), (2, .int (iI x0))] := hl
    have ih_2 := ih
    refine lv_iload hx hb dX5_setsThatLetOut_5 (lv_at hl 0 rfl) ?_
    refine lv_bipush (v := iI 16) hx hb dX5_setsThatLetOut_7 (by decide +kernel) ?_
    refine n_icmp_ge (tgt := 37) hx hb dX5_setsThatLetOut_9 (by decide) (by omega) (fun c_3 => ?_) (fun c_3 => ?_)
    ·
      refine lv_iload_n hx hb dX5_setsThatLetOut_37 rfl (lv_at hl 1 rfl) ?_
      exact W.iret (v := iI n) hx hb hr (fun t ht hW => ⟨⟨_, (tl1, to1, ta1, te1, ts1), rfl, congrArg iI (show n = (cntEq (fun x => (sem tk tg x ln st f).1) x0 16) from (by rw [hm, show set = 16 by omega]; rfl)), by rw [ht]; exact hP, hD⟩, hS.F ht⟩) hS.2.2 dX5_setsThatLetOut_38
    ·
      refine lv_aload_n hx hb dX5_setsThatLetOut_12 rfl (lv_at hl 2 rfl) ?_
      refine lv_iload hx hb dX5_setsThatLetOut_13 (lv_at hl 0 rfl) ?_
      refine x_callVv (As := [.int (iI set)]) (rest := []) ⟨hx, hb, hml, hown, hts⟩ (c_X5_settleBy l D cI cS b a tk tg tl1 to1 ta1 te1 ts1 tr cnt lv kd gd ln st H.size set (by first | assumption | omega) ⟨hkk.1, by omega⟩) (cwV 1 hts gX5_setsThatLetOut_X5_settleBy rfl rfl rfl (by decide +kernel) ⟨Nat.le_of_ble_eq_true rfl, Nat.le_of_ble_eq_true rfl⟩) hK hP hD hS hA [0, 1, 2, 3, 4, 5, 6, 7, 8, 9, 10, 11, 12] [] (wr := ([] : va_W)) rfl rfl (by decide) (by decide) (by decide) 0 5 rfl rfl rfl [0, 1, 2, 3, 4, 5, 6, 7, 8, 9, 10, 11, 12] (fun (u : (Int → Int) × (Int → Int) × (Int → Int) × (Int → Int)) => (W_T_P cI cS b a tk tg set u.1 u.2.1 u.2.2.1 u.2.2.2 tr a cnt lv kd gd ln st)) (fun _ => rfl) (by decide) rfl hl.1 rfl (Nat.le_of_ble_eq_true rfl) ⟨Nat.zero_le _, Nat.zero_le _⟩ dX5_setsThatLetOut_15 (fun u_ H locs hw hP hD hS => ?_)
      obtain ⟨to2, ta_4, te_5, ts_6⟩ := u_
      try dsimp only at hw
      have hT2 := hw
      have hP : va_P D vwCl (W_T_P cI cS b a tk tg set to2 ta_4 te_5 ts_6 tr a cnt lv kd gd ln st) H := hP
      have hD : va_D A (W_T_P cI cS b a tk tg set to2 ta_4 te_5 ts_6 tr a cnt lv kd gd ln st) := hD
      have hO2 := (hT2 f hf.1 hf.2).1
      have hO3 := (sem_ok (K := tk) (G := tg) (L := set) hok f hf.1 hf.2).1
      refine lv_aload_n hx hb dX5_setsThatLetOut_18 rfl (lv_at hl 2 rfl) ?_
      refine va_get (D := D) (ci := 5) (v := .ref (b 3)) (C := RX5) (T := TX5) (N := 9) hx hb hts iw_5 hown hK.1 hP 0 rfl rfl 4 (by decide) fl_29 (fun _ h9 => h9) rfl dX5_setsThatLetOut_19 ?_
      refine lv_iload_n hx hb dX5_setsThatLetOut_22 rfl (lv_at hl 3 rfl) ?_
      refine n_iald (n := 5) hx hb hK.1 hP 3 0 rfl rfl (by omega) (by decide) dX5_setsThatLetOut_23 ?_
      refine lv_iload_n hx hb dX5_setsThatLetOut_24 rfl (lv_at hl 4 rfl) ?_
      refine n_icmp_ne (tgt := 31) hx hb dX5_setsThatLetOut_25 (by decide) (by omega) (fun c_7 => ?_) (fun c_7 => ?_)
      ·
        refine n_iinc (lv' := [(4, .int (iI (set + 1))), (3, .int (iI n)), (0, .ref (b 0)), (1, .int (iI f)), (2, .int (iI x0))]) hx hb dX5_setsThatLetOut_31 hl (k := 0) rfl (by decide) rfl (fun ls hl => ?_)
        refine lv_goto (tgt := 5) hx hb dX5_setsThatLetOut_34 (by decide) ?_
        exact ih_2 (n, (set + 1), set, to2, ta_4, te_5, ts_6) (by (try dsimp only); exact ⟨by omega, by rw [cntEq_s _ _ hs.1, ← hm, ← hO2]; first | (rw [if_pos (by omega)]) | (rw [if_neg (by omega)]; omega)⟩) (by (try dsimp only); exact (by omega)) _ _ _ hP hD hS (lv_sub hl [0, 1, 2, 3, 4] rfl)
      ·
        refine n_iinc (lv' := [(3, .int (iI (n + 1))), (4, .int (iI set)), (0, .ref (b 0)), (1, .int (iI f)), (2, .int (iI x0))]) hx hb dX5_setsThatLetOut_28 hl (k := 1) rfl (by decide) rfl (fun ls hl => ?_)
        refine n_iinc (lv' := [(4, .int (iI (set + 1))), (3, .int (iI (n + 1))), (0, .ref (b 0)), (1, .int (iI f)), (2, .int (iI x0))]) hx hb dX5_setsThatLetOut_31 hl (k := 1) rfl (by decide) rfl (fun ls hl => ?_)
        refine lv_goto (tgt := 5) hx hb dX5_setsThatLetOut_34 (by decide) ?_
        exact ih_2 ((n + 1), (set + 1), set, to2, ta_4, te_5, ts_6) (by (try dsimp only); exact ⟨by omega, by rw [cntEq_s _ _ hs.1, ← hm, ← hO2]; first | (rw [if_pos (by omega)]) | (rw [if_neg (by omega)]; omega)⟩) (by (try dsimp only); exact (by omega)) _ _ _ hP hD hS (lv_sub hl [0, 1, 2, 3, 4] rfl)
