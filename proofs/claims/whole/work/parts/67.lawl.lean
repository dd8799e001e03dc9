section LAWL
variable {p : Program} {l : Launch} {e : Env} {s : State} {m : MethodId} {below : List Frame} {meth : Method} {c_ : Code} {Q : State → Prop} {cells slots : Nat} {D : va_G} {cI cS : ClassId} {b L : Nat} {xs : Nat → Int32} {sq : Nat → Option Nat} {zh zq zx zt zb za zd zr zk0 zk1 zk2 zk3 zm : Nat → Nat} {A : Nat → Prop} {i : Int} {H : Heap} {locs : List Loc} {ls : Array Slot}
theorem and31 (x : Int32) : 0 ≤ (x &&& iI 31).toInt ∧ (x &&& iI 31).toInt ≤ 31 := by
  have h1 : (x &&& iI 31).toBitVec = x.toBitVec &&& 31#32 := rfl
  have h2 : (x.toBitVec &&& 31#32).toNat ≤ 31 := by rw [BitVec.toNat_and]; exact Nat.and_le_right
  have h3 : (x &&& iI 31).toInt = ((x.toBitVec &&& 31#32).toNat : Int) := by
    show ((x &&& iI 31).toBitVec).toInt = _
    rw [h1, BitVec.toInt_eq_toNat_of_lt (by omega)]
  omega
theorem ofNat_iI {L : Nat} (h : L ≤ 3072) : Int32.ofNat L = iI (L : Int) := by
  obtain ⟨k, h1, h2, h3⟩ := iI_nn (i := (L : Int)) (n := 4000) (by omega) (by decide)
  have e : k = L := by omega
  rw [h3, e]
  rfl
theorem lc_0 (X : LawX p s m c_ b L xs D cI cS sq zk0 zk1 zk2 zk3 A) (hcs : cells ≤ room_1.cells ∧ slots ≤ room_1.slots) (hi : 0 ≤ i ∧ i + 6 ≤ L) (nxt : LawN p l e s m below meth c_ Q cells slots D cI cS b sq zh zq zx zt zb za zd zr zk0 zk1 zk2 zk3 zm A i) (y : LawS) (hI : LawI y) (hP : va_P D vwCl (W_L cI cS sq zh zq zx zt zb za zd zr zk0 zk1 zk2 zk3 zm y) H) (hD : va_D A (W_L cI cS sq zh zq zx zt zb za zd zr zk0 zk1 zk2 zk3 zm y)) (hS : va_S A s.heap H locs) (hl : lv_has ls 4 [(0, .ref b), (1, .ref (zh 0)), (2, .ref (zm 0)), (3, .int (iI i))]) : W p l e room_1 s m #[Value.ref b] below meth c_ H locs cells slots Q (F0 m 172 ls []) := by
  by_cases w1 : av xs (i + 1) = 1
  ·
    exact lc_0_1 X hcs hi (fun _ _ => w1) nxt y hI hP hD hS hl
  ·
    by_cases w2 : av xs (i + 1) = 2
    ·
      exact lc_0_2 X hcs hi (fun _ _ => w2) nxt y hI hP hD hS hl
    ·
      by_cases w3 : av xs (i + 1) = 3
      ·
        exact lc_0_3 X hcs hi (fun _ _ => w3) nxt y hI hP hD hS hl
      ·
        exact lc_0_0 X hcs hi (fun a9 b9 => by omega) nxt y hI hP hD hS hl
theorem lc_9 (X : LawX p s m c_ b L xs D cI cS sq zk0 zk1 zk2 zk3 A) (hcs : cells ≤ room_1.cells ∧ slots ≤ room_1.slots) (hi : 0 ≤ i ∧ i + 6 ≤ L) (nxt : LawN p l e s m below meth c_ Q cells slots D cI cS b sq zh zq zx zt zb za zd zr zk0 zk1 zk2 zk3 zm A i) (y : LawS) (hI : LawI y) (hP : va_P D vwCl (W_L cI cS sq zh zq zx zt zb za zd zr zk0 zk1 zk2 zk3 zm y) H) (hD : va_D A (W_L cI cS sq zh zq zx zt zb za zd zr zk0 zk1 zk2 zk3 zm y)) (hS : va_S A s.heap H locs) (hl : lv_has ls 4 [(0, .ref b), (1, .ref (zh 0)), (2, .ref (zm 0)), (3, .int (iI i))]) : W p l e room_1 s m #[Value.ref b] below meth c_ H locs cells slots Q (F0 m 489 ls []) := by
  by_cases w1 : av xs (i + 1) = 1
  ·
    exact lc_9_1 X hcs hi (fun _ _ => w1) nxt y hI hP hD hS hl
  ·
    by_cases w2 : av xs (i + 1) = 2
    ·
      exact lc_9_2 X hcs hi (fun _ _ => w2) nxt y hI hP hD hS hl
    ·
      by_cases w3 : av xs (i + 1) = 3
      ·
        exact lc_9_3 X hcs hi (fun _ _ => w3) nxt y hI hP hD hS hl
      ·
        exact lc_9_0 X hcs hi (fun a9 b9 => by omega) nxt y hI hP hD hS hl
theorem lc_20 (X : LawX p s m c_ b L xs D cI cS sq zk0 zk1 zk2 zk3 A) (hcs : cells ≤ room_1.cells ∧ slots ≤ room_1.slots) (hi : 0 ≤ i ∧ i + 6 ≤ L) (nxt : LawN p l e s m below meth c_ Q cells slots D cI cS b sq zh zq zx zt zb za zd zr zk0 zk1 zk2 zk3 zm A i) (y : LawS) (hI : LawI y) (hP : va_P D vwCl (W_L cI cS sq zh zq zx zt zb za zd zr zk0 zk1 zk2 zk3 zm y) H) (hD : va_D A (W_L cI cS sq zh zq zx zt zb za zd zr zk0 zk1 zk2 zk3 zm y)) (hS : va_S A s.heap H locs) (hl : lv_has ls 4 [(0, .ref b), (1, .ref (zh 0)), (2, .ref (zm 0)), (3, .int (iI i))]) : W p l e room_1 s m #[Value.ref b] below meth c_ H locs cells slots Q (F0 m 833 ls []) := by
  by_cases w1 : av xs (i + 1) = 1
  ·
    exact lc_20_1 X hcs hi (fun _ _ => w1) nxt y hI hP hD hS hl
  ·
    by_cases w2 : av xs (i + 1) = 2
    ·
      exact lc_20_2 X hcs hi (fun _ _ => w2) nxt y hI hP hD hS hl
    ·
      by_cases w3 : av xs (i + 1) = 3
      ·
        exact lc_20_3 X hcs hi (fun _ _ => w3) nxt y hI hP hD hS hl
      ·
        exact lc_20_0 X hcs hi (fun a9 b9 => by omega) nxt y hI hP hD hS hl
theorem lc_21 (X : LawX p s m c_ b L xs D cI cS sq zk0 zk1 zk2 zk3 A) (hcs : cells ≤ room_1.cells ∧ slots ≤ room_1.slots) (hi : 0 ≤ i ∧ i + 6 ≤ L) (nxt : LawN p l e s m below meth c_ Q cells slots D cI cS b sq zh zq zx zt zb za zd zr zk0 zk1 zk2 zk3 zm A i) (y : LawS) (hI : LawI y) (hP : va_P D vwCl (W_L cI cS sq zh zq zx zt zb za zd zr zk0 zk1 zk2 zk3 zm y) H) (hD : va_D A (W_L cI cS sq zh zq zx zt zb za zd zr zk0 zk1 zk2 zk3 zm y)) (hS : va_S A s.heap H locs) (hl : lv_has ls 4 [(0, .ref b), (1, .ref (zh 0)), (2, .ref (zm 0)), (3, .int (iI i))]) : W p l e room_1 s m #[Value.ref b] below meth c_ H locs cells slots Q (F0 m 876 ls []) := by
  by_cases w1 : av xs (i + 1) = 1
  ·
    exact lc_21_1 X hcs hi (fun _ _ => w1) nxt y hI hP hD hS hl
  ·
    by_cases w2 : av xs (i + 1) = 2
    ·
      exact lc_21_2 X hcs hi (fun _ _ => w2) nxt y hI hP hD hS hl
    ·
      by_cases w3 : av xs (i + 1) = 3
      ·
        exact lc_21_3 X hcs hi (fun _ _ => w3) nxt y hI hP hD hS hl
      ·
        exact lc_21_0 X hcs hi (fun a9 b9 => by omega) nxt y hI hP hD hS hl
theorem lc_22 (X : LawX p s m c_ b L xs D cI cS sq zk0 zk1 zk2 zk3 A) (hcs : cells ≤ room_1.cells ∧ slots ≤ room_1.slots) (hi : 0 ≤ i ∧ i + 6 ≤ L) (nxt : LawN p l e s m below meth c_ Q cells slots D cI cS b sq zh zq zx zt zb za zd zr zk0 zk1 zk2 zk3 zm A i) (y : LawS) (hI : LawI y) (hP : va_P D vwCl (W_L cI cS sq zh zq zx zt zb za zd zr zk0 zk1 zk2 zk3 zm y) H) (hD : va_D A (W_L cI cS sq zh zq zx zt zb za zd zr zk0 zk1 zk2 zk3 zm y)) (hS : va_S A s.heap H locs) (hl : lv_has ls 4 [(0, .ref b), (1, .ref (zh 0)), (2, .ref (zm 0)), (3, .int (iI i))]) : W p l e room_1 s m #[Value.ref b] below meth c_ H locs cells slots Q (F0 m 899 ls []) := by
  by_cases w1 : av xs (i + 1) = 1
  ·
    exact lc_22_1 X hcs hi (fun _ _ => w1) nxt y hI hP hD hS hl
  ·
    by_cases w2 : av xs (i + 1) = 2
    ·
      exact lc_22_2 X hcs hi (fun _ _ => w2) nxt y hI hP hD hS hl
    ·
      by_cases w3 : av xs (i + 1) = 3
      ·
        exact lc_22_3 X hcs hi (fun _ _ => w3) nxt y hI hP hD hS hl
      ·
        exact lc_22_0 X hcs hi (fun a9 b9 => by omega) nxt y hI hP hD hS hl
theorem lc_23 (X : LawX p s m c_ b L xs D cI cS sq zk0 zk1 zk2 zk3 A) (hcs : cells ≤ room_1.cells ∧ slots ≤ room_1.slots) (hi : 0 ≤ i ∧ i + 6 ≤ L) (nxt : LawN p l e s m below meth c_ Q cells slots D cI cS b sq zh zq zx zt zb za zd zr zk0 zk1 zk2 zk3 zm A i) (y : LawS) (hI : LawI y) (hP : va_P D vwCl (W_L cI cS sq zh zq zx zt zb za zd zr zk0 zk1 zk2 zk3 zm y) H) (hD : va_D A (W_L cI cS sq zh zq zx zt zb za zd zr zk0 zk1 zk2 zk3 zm y)) (hS : va_S A s.heap H locs) (hl : lv_has ls 4 [(0, .ref b), (1, .ref (zh 0)), (2, .ref (zm 0)), (3, .int (iI i))]) : W p l e room_1 s m #[Value.ref b] below meth c_ H locs cells slots Q (F0 m 942 ls []) := by
  by_cases w1 : av xs (i + 1) = 1
  ·
    exact lc_23_1 X hcs hi (fun _ _ => w1) nxt y hI hP hD hS hl
  ·
    by_cases w2 : av xs (i + 1) = 2
    ·
      exact lc_23_2 X hcs hi (fun _ _ => w2) nxt y hI hP hD hS hl
    ·
      by_cases w3 : av xs (i + 1) = 3
      ·
        exact lc_23_3 X hcs hi (fun _ _ => w3) nxt y hI hP hD hS hl
      ·
        exact lc_23_0 X hcs hi (fun a9 b9 => by omega) nxt y hI hP hD hS hl
theorem lc_24 (X : LawX p s m c_ b L xs D cI cS sq zk0 zk1 zk2 zk3 A) (hcs : cells ≤ room_1.cells ∧ slots ≤ room_1.slots) (hi : 0 ≤ i ∧ i + 6 ≤ L) (nxt : LawN p l e s m below meth c_ Q cells slots D cI cS b sq zh zq zx zt zb za zd zr zk0 zk1 zk2 zk3 zm A i) (y : LawS) (hI : LawI y) (hP : va_P D vwCl (W_L cI cS sq zh zq zx zt zb za zd zr zk0 zk1 zk2 zk3 zm y) H) (hD : va_D A (W_L cI cS sq zh zq zx zt zb za zd zr zk0 zk1 zk2 zk3 zm y)) (hS : va_S A s.heap H locs) (hl : lv_has ls 4 [(0, .ref b), (1, .ref (zh 0)), (2, .ref (zm 0)), (3, .int (iI i))]) : W p l e room_1 s m #[Value.ref b] below meth c_ H locs cells slots Q (F0 m 986 ls []) := by
  by_cases w1 : av xs (i + 1) = 1
  ·
    by_cases v1 : av xs (i + 3) = 1
    ·
      exact lc_24_1_1 X hcs hi (fun _ _ => w1) (fun _ _ => v1) nxt y hI hP hD hS hl
    ·
      by_cases v2 : av xs (i + 3) = 2
      ·
        exact lc_24_1_2 X hcs hi (fun _ _ => w1) (fun _ _ => v2) nxt y hI hP hD hS hl
      ·
        by_cases v3 : av xs (i + 3) = 3
        ·
          exact lc_24_1_3 X hcs hi (fun _ _ => w1) (fun _ _ => v3) nxt y hI hP hD hS hl
        ·
          exact lc_24_1_0 X hcs hi (fun _ _ => w1) (fun a9 b9 => by omega) nxt y hI hP hD hS hl
  ·
    by_cases w2 : av xs (i + 1) = 2
    ·
      by_cases v1 : av xs (i + 3) = 1
      ·
        exact lc_24_2_1 X hcs hi (fun _ _ => w2) (fun _ _ => v1) nxt y hI hP hD hS hl
      ·
        by_cases v2 : av xs (i + 3) = 2
        ·
          exact lc_24_2_2 X hcs hi (fun _ _ => w2) (fun _ _ => v2) nxt y hI hP hD hS hl
        ·
          by_cases v3 : av xs (i + 3) = 3
          ·
            exact lc_24_2_3 X hcs hi (fun _ _ => w2) (fun _ _ => v3) nxt y hI hP hD hS hl
          ·
            exact lc_24_2_0 X hcs hi (fun _ _ => w2) (fun a9 b9 => by omega) nxt y hI hP hD hS hl
    ·
      by_cases w3 : av xs (i + 1) = 3
      ·
        by_cases v1 : av xs (i + 3) = 1
        ·
          exact lc_24_3_1 X hcs hi (fun _ _ => w3) (fun _ _ => v1) nxt y hI hP hD hS hl
        ·
          by_cases v2 : av xs (i + 3) = 2
          ·
            exact lc_24_3_2 X hcs hi (fun _ _ => w3) (fun _ _ => v2) nxt y hI hP hD hS hl
          ·
            by_cases v3 : av xs (i + 3) = 3
            ·
              exact lc_24_3_3 X hcs hi (fun _ _ => w3) (fun _ _ => v3) nxt y hI hP hD hS hl
            ·
              exact lc_24_3_0 X hcs hi (fun _ _ => w3) (fun a9 b9 => by omega) nxt y hI hP hD hS hl
      ·
        by_cases v1 : av xs (i + 3) = 1
        ·
          exact lc_24_0_1 X hcs hi (fun a9 b9 => by omega) (fun _ _ => v1) nxt y hI hP hD hS hl
        ·
          by_cases v2 : av xs (i + 3) = 2
          ·
            exact lc_24_0_2 X hcs hi (fun a9 b9 => by omega) (fun _ _ => v2) nxt y hI hP hD hS hl
          ·
            by_cases v3 : av xs (i + 3) = 3
            ·
              exact lc_24_0_3 X hcs hi (fun a9 b9 => by omega) (fun _ _ => v3) nxt y hI hP hD hS hl
            ·
              exact lc_24_0_0 X hcs hi (fun a9 b9 => by omega) (fun a9 b9 => by omega) nxt y hI hP hD hS hl
set_option maxHeartbeats 4000000 in
set_option maxRecDepth 100000 in
theorem law_go (X : LawX p s m c_ b L xs D cI cS sq zk0 zk1 zk2 zk3 A) (hcs : cells ≤ room_1.cells ∧ slots ≤ room_1.slots) (hend : ∀ (H : Heap) (locs : List Loc) (ls : Array Slot), va_S A s.heap H locs → W p l e room_1 s m #[Value.ref b] below meth c_ H locs cells slots Q (F0 m 1183 ls [])) : ∀ (n : Nat) (i : Int) (y : LawS) (H : Heap) (locs : List Loc) (ls : Array Slot), (L + 6 - i).toNat < n → 0 ≤ i → i ≤ L → LawI y → va_P D vwCl (W_L cI cS sq zh zq zx zt zb za zd zr zk0 zk1 zk2 zk3 zm y) H → va_D A (W_L cI cS sq zh zq zx zt zb za zd zr zk0 zk1 zk2 zk3 zm y) → va_S A s.heap H locs → lv_has ls 4 [(0, .ref b), (1, .ref (zh 0)), (2, .ref (zm 0)), (3, .int (iI i))] → W p l e room_1 s m #[Value.ref b] below meth c_ H locs cells slots Q (F0 m 18 ls []) := by
  obtain ⟨hx, hb, hml, hown, hts, hX, hbl, hA, hbA, hL, hK, hq⟩ := id X
  intro n
  induction n with
  | zero => intro i y H locs ls hn; exact absurd hn (Nat.not_lt_zero _)
  | succ n ih =>
    intro i y H locs ls hn hi0 hi1 hI hP hD hS hl
    refine lv_iload_n hx hb dL_law_18 rfl (lv_at hl 3 rfl) ?_
    refine lv_aload_n hx hb dL_law_19 rfl (lv_at hl 0 rfl) ?_
    refine va_slen hx hb hX hbl hbA hS dL_law_20 ?_
    rw [ofNat_iI hL]
    refine lv_bipush (v := iI 6) hx hb dL_law_21 (by decide +kernel) ?_
    refine n_isub hx hb dL_law_23 ?_
    refine n_icmp_gt (tgt := 1183) hx hb dL_law_24 (by decide) (by omega) (fun c1 => ?_) (fun c1 => ?_)
    · exact hend H locs ls hS
    · have hi : 0 ≤ i ∧ i + 6 ≤ L := by omega
      have nxt : LawN p l e s m below meth c_ Q cells slots D cI cS b sq zh zq zx zt zb za zd zr zk0 zk1 zk2 zk3 zm A i := by
        intro y2 H2 locs2 ls2 hI2 hP2 hD2 hS2 hl2
        refine n_iinc (lv' := [(3, .int (iI (i + 6))), (0, .ref b), (1, .ref (zh 0)), (2, .ref (zm 0))]) hx hb dL_law_1177 hl2 (k := 3) rfl (by decide) rfl (fun ls hl => ?_)
        refine lv_goto (tgt := 18) hx hb dL_law_1180 (by decide) ?_
        exact ih (i + 6) y2 H2 locs2 ls (by omega) (by omega) (by omega) hI2 hP2 hD2 hS2 (lv_sub hl [1, 2, 3, 0] rfl)
      refine lv_aload_n hx hb dL_law_27 rfl (lv_at hl 0 rfl) ?_
      refine lv_iload_n hx hb dL_law_28 rfl (lv_at hl 3 rfl) ?_
      refine va_sld hx hb hX hbl hbA hS (iI_vp (n := L) (by omega) (by omega)) dL_law_29 ?_
      generalize xs (iI i).toNatClampNeg = w0
      refine lv_bipush (v := iI 31) hx hb dL_law_30 (by decide +kernel) ?_
      refine lv_iand hx hb dL_law_32 ?_
      have hr := and31 w0
      obtain ⟨z, hz⟩ : ∃ z : Int, z = (w0 &&& iI 31).toInt := ⟨_, rfl⟩
      rw [show w0 &&& iI 31 = iI z by rw [hz]; exact (iI_of _).symm]
      rw [← hz] at hr
      by_cases q0 : z = 0
      · refine n_tableIn (off := 139) (tgt := 172) hx hb 0 dL_law_33 q0 (by decide) rfl (by decide) ?_
        exact lc_0 X hcs hi nxt y hI hP hD hS hl
      by_cases q1 : z = 1
      · refine n_tableIn (off := 192) (tgt := 225) hx hb 1 dL_law_33 q1 (by decide) rfl (by decide) ?_
        exact lc_1 X hcs hi nxt y hI hP hD hS hl
      by_cases q2 : z = 2
      · refine n_tableIn (off := 225) (tgt := 258) hx hb 2 dL_law_33 q2 (by decide) rfl (by decide) ?_
        exact lc_2 X hcs hi nxt y hI hP hD hS hl
      by_cases q3 : z = 3
      · refine n_tableIn (off := 258) (tgt := 291) hx hb 3 dL_law_33 q3 (by decide) rfl (by decide) ?_
        exact lc_3 X hcs hi nxt y hI hP hD hS hl
      by_cases q4 : z = 4
      · refine n_tableIn (off := 301) (tgt := 334) hx hb 4 dL_law_33 q4 (by decide) rfl (by decide) ?_
        exact lc_4 X hcs hi nxt y hI hP hD hS hl
      by_cases q5 : z = 5
      · refine n_tableIn (off := 334) (tgt := 367) hx hb 5 dL_law_33 q5 (by decide) rfl (by decide) ?_
        exact lc_5 X hcs hi nxt y hI hP hD hS hl
      by_cases q6 : z = 6
      · refine n_tableIn (off := 357) (tgt := 390) hx hb 6 dL_law_33 q6 (by decide) rfl (by decide) ?_
        exact lc_6 X hcs hi nxt y hI hP hD hS hl
      by_cases q7 : z = 7
      · refine n_tableIn (off := 390) (tgt := 423) hx hb 7 dL_law_33 q7 (by decide) rfl (by decide) ?_
        exact lc_7 X hcs hi nxt y hI hP hD hS hl
      by_cases q8 : z = 8
      · refine n_tableIn (off := 423) (tgt := 456) hx hb 8 dL_law_33 q8 (by decide) rfl (by decide) ?_
        exact lc_8 X hcs hi nxt y hI hP hD hS hl
      by_cases q9 : z = 9
      · refine n_tableIn (off := 456) (tgt := 489) hx hb 9 dL_law_33 q9 (by decide) rfl (by decide) ?_
        exact lc_9 X hcs hi nxt y hI hP hD hS hl
      by_cases q10 : z = 10
      · refine n_tableIn (off := 519) (tgt := 552) hx hb 10 dL_law_33 q10 (by decide) rfl (by decide) ?_
        exact lc_10 X hcs hi nxt y hI hP hD hS hl
      by_cases q11 : z = 11
      · refine n_tableIn (off := 552) (tgt := 585) hx hb 11 dL_law_33 q11 (by decide) rfl (by decide) ?_
        exact lc_11 X hcs hi nxt y hI hP hD hS hl
      by_cases q12 : z = 12
      · refine n_tableIn (off := 585) (tgt := 618) hx hb 12 dL_law_33 q12 (by decide) rfl (by decide) ?_
        exact lc_12 X hcs hi nxt y hI hP hD hS hl
      by_cases q13 : z = 13
      · refine n_tableIn (off := 608) (tgt := 641) hx hb 13 dL_law_33 q13 (by decide) rfl (by decide) ?_
        exact lc_13 X hcs hi nxt y hI hP hD hS hl
      by_cases q14 : z = 14
      · refine n_tableIn (off := 641) (tgt := 674) hx hb 14 dL_law_33 q14 (by decide) rfl (by decide) ?_
        exact lc_14 X hcs hi nxt y hI hP hD hS hl
      by_cases q15 : z = 15
      · refine n_tableIn (off := 674) (tgt := 707) hx hb 15 dL_law_33 q15 (by decide) rfl (by decide) ?_
        exact lc_15 X hcs hi nxt y hI hP hD hS hl
      by_cases q16 : z = 16
      · refine n_tableIn (off := 697) (tgt := 730) hx hb 16 dL_law_33 q16 (by decide) rfl (by decide) ?_
        exact lc_16 X hcs hi nxt y hI hP hD hS hl
      by_cases q17 : z = 17
      · refine n_tableIn (off := 720) (tgt := 753) hx hb 17 dL_law_33 q17 (by decide) rfl (by decide) ?_
        exact lc_17 X hcs hi nxt y hI hP hD hS hl
      by_cases q18 : z = 18
      · refine n_tableIn (off := 743) (tgt := 776) hx hb 18 dL_law_33 q18 (by decide) rfl (by decide) ?_
        exact lc_18 X hcs hi nxt y hI hP hD hS hl
      by_cases q19 : z = 19
      · refine n_tableIn (off := 756) (tgt := 789) hx hb 19 dL_law_33 q19 (by decide) rfl (by decide) ?_
        exact lc_19 X hcs hi nxt y hI hP hD hS hl
      by_cases q20 : z = 20
      · refine n_tableIn (off := 800) (tgt := 833) hx hb 20 dL_law_33 q20 (by decide) rfl (by decide) ?_
        exact lc_20 X hcs hi nxt y hI hP hD hS hl
      by_cases q21 : z = 21
      · refine n_tableIn (off := 843) (tgt := 876) hx hb 21 dL_law_33 q21 (by decide) rfl (by decide) ?_
        exact lc_21 X hcs hi nxt y hI hP hD hS hl
      by_cases q22 : z = 22
      · refine n_tableIn (off := 866) (tgt := 899) hx hb 22 dL_law_33 q22 (by decide) rfl (by decide) ?_
        exact lc_22 X hcs hi nxt y hI hP hD hS hl
      by_cases q23 : z = 23
      · refine n_tableIn (off := 909) (tgt := 942) hx hb 23 dL_law_33 q23 (by decide) rfl (by decide) ?_
        exact lc_23 X hcs hi nxt y hI hP hD hS hl
      by_cases q24 : z = 24
      · refine n_tableIn (off := 953) (tgt := 986) hx hb 24 dL_law_33 q24 (by decide) rfl (by decide) ?_
        exact lc_24 X hcs hi nxt y hI hP hD hS hl
      by_cases q25 : z = 25
      · refine n_tableIn (off := 1016) (tgt := 1049) hx hb 25 dL_law_33 q25 (by decide) rfl (by decide) ?_
        exact lc_25 X hcs hi nxt y hI hP hD hS hl
      by_cases q26 : z = 26
      · refine n_tableIn (off := 1039) (tgt := 1072) hx hb 26 dL_law_33 q26 (by decide) rfl (by decide) ?_
        exact lc_26 X hcs hi nxt y hI hP hD hS hl
      by_cases q27 : z = 27
      · refine n_tableIn (off := 1062) (tgt := 1095) hx hb 27 dL_law_33 q27 (by decide) rfl (by decide) ?_
        exact lc_27 X hcs hi nxt y hI hP hD hS hl
      by_cases q28 : z = 28
      · refine n_tableIn (off := 1095) (tgt := 1128) hx hb 28 dL_law_33 q28 (by decide) rfl (by decide) ?_
        exact lc_28 X hcs hi nxt y hI hP hD hS hl
      by_cases q29 : z = 29
      · refine n_tableIn (off := 1108) (tgt := 1141) hx hb 29 dL_law_33 q29 (by decide) rfl (by decide) ?_
        exact lc_29 X hcs hi nxt y hI hP hD hS hl
      by_cases q30 : z = 30
      · refine n_tableIn (off := 1121) (tgt := 1154) hx hb 30 dL_law_33 q30 (by decide) rfl (by decide) ?_
        exact lc_30 X hcs hi nxt y hI hP hD hS hl
      refine n_tableOut (tgt := 1177) hx hb dL_law_33 (by omega) (Or.inr (by omega)) (by decide) ?_
      exact nxt y H locs ls hI hP hD hS hl
end LAWL
theorem mem_by {α : Type} {big : List Cond} (f : α → Cond) (l : List α) (ps : List Nat) (hp : l.map f = ps.filterMap (fun i => big[i]?)) : ∀ t ∈ l, f t ∈ big := by
  intro t ht
  have h1 : f t ∈ l.map f := List.mem_map_of_mem ht
  rw [hp] at h1
  obtain ⟨i, -, hi⟩ := List.mem_filterMap.mp h1
  exact List.mem_of_getElem? hi
theorem tb_in {w : Cond} (h : w ∈ tables_1) : w ∈ lw_tbl := List.mem_append_right _ h
set_option maxRecDepth 20000 in
theorem nw_in : ∀ t ∈ nwT, Cond.fieldLinkNest t.1 t.2.1 t.2.2.1 t.2.2.2.1 t.2.2.2.2 "ActRows" ∈ tables_1 := mem_by (fun t : String × Nat × String × String × String => Cond.fieldLinkNest t.1 t.2.1 t.2.2.1 t.2.2.2.1 t.2.2.2.2 "ActRows") nwT [41, 44, 53, 99, 102, 105, 89, 92, 95, 168, 166, 85, 69, 152, 48, 37, 94, 87, 91, 101, 104, 98, 86, 97, 50, 38, 42, 36, 40, 52, 49, 45] (by decide +kernel)
set_option maxRecDepth 20000 in
theorem ni_in : ∀ t ∈ niT, Cond.methodLinkNest t.1 t.2.1 ⟨t.2.2, "<init>", "()V"⟩ "ActRows" ∈ tables_1 := mem_by (fun t : String × Nat × String => Cond.methodLinkNest t.1 t.2.1 ⟨t.2.2, "<init>", "()V"⟩ "ActRows") niT [25, 31, 78, 83, 129, 145, 161] (by decide +kernel)
set_option maxRecDepth 20000 in
theorem ao_in : Cond.arrayOver (.object "ActRows$Sheet") ∈ tables_1 := List.mem_of_getElem? (i := 22) (by decide +kernel)
set_option maxRecDepth 20000 in
theorem ac_in : Cond.arrayClass .int ∈ tables_1 := List.mem_of_getElem? (i := 67) (by decide +kernel)
set_option maxRecDepth 20000 in
theorem ii_0 : Cond.instantiable RX0 3 ∈ tables_1 := List.mem_of_getElem? (i := 128) (by decide +kernel)
set_option maxRecDepth 20000 in
theorem ii_1 : Cond.instantiable RX1 6 ∈ tables_1 := List.mem_of_getElem? (i := 30) (by decide +kernel)
set_option maxRecDepth 20000 in
theorem ii_2 : Cond.instantiable RX2 3 ∈ tables_1 := List.mem_of_getElem? (i := 144) (by decide +kernel)
set_option maxRecDepth 20000 in
theorem ii_3 : Cond.instantiable RX3 3 ∈ tables_1 := List.mem_of_getElem? (i := 160) (by decide +kernel)
set_option maxRecDepth 20000 in
theorem ii_4 : Cond.instantiable RX4 2 ∈ tables_1 := List.mem_of_getElem? (i := 24) (by decide +kernel)
set_option maxRecDepth 20000 in
theorem ii_5 : Cond.instantiable RX5 9 ∈ tables_1 := List.mem_of_getElem? (i := 77) (by decide +kernel)
set_option maxRecDepth 20000 in
theorem ii_6 : Cond.instantiable RX6 8 ∈ tables_1 := List.mem_of_getElem? (i := 14) (by decide +kernel)
set_option maxRecDepth 20000 in
theorem ii_7 : Cond.instantiable RX7 34 ∈ tables_1 := List.mem_of_getElem? (i := 626) (by decide +kernel)
