/-! ===== sheets, days, texts: the same on both sides ===== -/
def SH (k lane len : Int) (cl mss msl msh : Int → Int) : Prop := (0 ≤ len ∧ len ≤ 60) ∧ (-1 ≤ lane ∧ lane ≤ 2) ∧ (∀ j : Int, -2147483648 ≤ cl j ∧ cl j < 2147483648) ∧ lnM mss msl k = lane ∧ (lane ≠ -1 → mss k = len) ∧ ∀ j : Int, 0 ≤ j → j < len → msh (60 * k + j) = cl j
def MS3 (mss msl msh : Int → Int) : Prop := (∀ j : Int, 0 ≤ j → j < 4 → -1 ≤ mss j ∧ mss j ≤ 60) ∧ (∀ j : Int, 0 ≤ j → j < 4 → 0 ≤ msl j ∧ msl j ≤ 2) ∧ ∀ j : Int, -2147483648 ≤ msh j ∧ msh j < 2147483648
theorem ftk_c {lane len lane' len' : Int} (h1 : lane' = lane) (h2 : lane ≠ -1 → len' = len) (as i n : Int) : ftk lane' len' as i n = ftk lane len as i n := by
  unfold ftk
  rw [h1]
  by_cases c : lane = -1
  · rw [if_pos c, if_pos c]
  · rw [h2 c]
section SAME2
variable {cnt lv lane len sh la i n : Int} {kd gd ln st mk mg mls ms cl mss msl msh kd2 gd2 ln2 st2 mrk mrg mrl mrs : Int → Int}
theorem sDay_c (ok : okP cnt ln st) (ag : Ag cnt kd gd ln st mk mg mls ms) (hsh : 0 ≤ sh → sh < 4 → SH sh lane len cl mss msl msh) (w : Int) : sDay cnt lv kd gd ln st lane len cl sh la i n w = sDay cnt lv mk mg mls ms (lnM mss msl sh) (mss sh) (fun j => msh (60 * sh + j)) sh la i n w := by
  unfold sDay
  by_cases c1 : 0 ≤ sh ∧ sh < 4
  · have S := hsh c1.1 c1.2
    rw [if_neg (not_not_intro c1), if_neg (not_not_intro c1), ftk_c S.2.2.2.1 S.2.2.2.2.1]
    by_cases c2 : (0 ≤ la ∧ la < 3) ∧ (0 ≤ n ∧ n ≤ 20) ∧ ((0 ≤ w ∧ w ≤ 4) ∨ (10 ≤ w ∧ w < 15))
    · rw [if_neg (not_not_intro c2), if_neg (not_not_intro c2)]
      by_cases c3 : cnt = 0
      · rw [if_pos c3, if_pos c3]
      · rw [if_neg c3, if_neg c3]
        by_cases c4 : ftk lane len la i (2 * n) ≠ 0
        · rw [if_pos c4, if_pos c4]
        · rw [if_neg c4, if_neg c4]
          have f0 := ftk_0 (lane := lane) (len := len) (as := la) (i := i) (n := 2 * n) (by omega)
          have hcd : ∀ j : Int, 0 ≤ j → j < 2 * n → cl (i + j) = msh (60 * sh + (i + j)) := fun j a b => (S.2.2.2.2.2 (i + j) (by omega) (by omega)).symm
          have ht : tldB (fun j => cl (i + j)) n.toNat = tldB (fun j => msh (60 * sh + (i + j))) n.toNat := tldB_congr _ (fun j a b => hcd j a (by omega))
          show (if ¬ tldB (fun j => cl (i + j)) n.toNat = true then _ else _) = (if ¬ tldB (fun j => msh (60 * sh + (i + j))) n.toNat = true then _ else _)
          rw [← ht]
          by_cases c5 : tldB (fun j => cl (i + j)) n.toNat = true
          · rw [if_neg (not_not_intro c5), if_neg (not_not_intro c5)]
            have okm := ag_okP ok ag
            exact dAns_congr ok okm (fun j a b => ⟨(ag.1 j a b).1, (ag.1 j a b).2.2⟩) ag.2 (dRun_congr ok okm (fun j a b => ⟨(ag.1 j a b).1, (ag.1 j a b).2.2⟩) ag.2 n.toNat 0 lv gd mg 0 0 (by omega) (fun j a b => hcd j (by omega) (by omega)) (fun j a b => (tld_sp (tldB_at n.toNat c5 j (by omega) (by omega))).1.1) (fun j a b => (ag.1 j a b).2.1)) w
          · rw [if_pos c5, if_pos c5]
    · rw [if_pos c2, if_pos c2]
  · rw [if_pos c1, if_pos c1]
theorem sDayLf_c (hsh : 0 ≤ sh → sh < 4 → SH sh lane len cl mss msl msh) (w : Int) : sDayLf cnt lane len sh la i n w = sDayLf cnt (lnM mss msl sh) (mss sh) sh la i n w := by
  unfold sDayLf
  by_cases c1 : 0 ≤ sh ∧ sh < 4
  · have S := hsh c1.1 c1.2
    rw [ftk_c S.2.2.2.1 S.2.2.2.2.1]
  · rw [if_neg (fun q => c1 q.1), if_neg (fun q => c1 q.1)]
theorem sProgLf_c (hsh : 0 ≤ sh → sh < 4 → SH sh lane len cl mss msl msh) : sProgLf lane len sh la i n = sProgLf (lnM mss msl sh) (mss sh) sh la i n := by
  unfold sProgLf
  by_cases c1 : 0 ≤ sh ∧ sh < 4
  · have S := hsh c1.1 c1.2
    rw [ftk_c S.2.2.2.1 S.2.2.2.2.1]
  · rw [if_neg (fun q => c1 q.1), if_neg (fun q => c1 q.1)]
theorem PG_c (S : SH sh lane len cl mss msl msh) (h0 : ftk lane len la i n = 0) : (PG cl i n kd2 gd2 ln2 st2).1 = (PG (fun j => msh (60 * sh + j)) i n mrk mrg mrl mrs).1 ∧ AgQ (PG cl i n kd2 gd2 ln2 st2).2 (PG (fun j => msh (60 * sh + j)) i n mrk mrg mrl mrs).2 := by
  have f0 := ftk_0 h0
  exact AgQ_run (cd := fun j => cl (i + j)) (cd' := fun j => msh (60 * sh + (i + j))) n.toNat 0 ((0, 0, kd2, gd2, ln2, st2) : PQ) ((0, 0, mrk, mrg, mrl, mrs) : PQ) (okQ_0 kd2 gd2 ln2 st2) (fun _ => rfl) ⟨rfl, rfl, fun j a b => absurd b (by show ¬ j < 0; omega), fun j a b => absurd b (by show ¬ j < 0; omega), fun j a b => absurd b (by show ¬ j < 0; omega), fun j a b => absurd b (by show ¬ j < 0; omega)⟩ (fun j a b => (S.2.2.2.2.2 (i + j) (by omega) (by omega)).symm)
theorem sProg_c (hsh : 0 ≤ sh → sh < 4 → SH sh lane len cl mss msl msh) : sProg lane len cl sh la i n kd2 gd2 ln2 st2 = sProg (lnM mss msl sh) (mss sh) (fun j => msh (60 * sh + j)) sh la i n mrk mrg mrl mrs := by
  unfold sProg
  by_cases c1 : 0 ≤ sh ∧ sh < 4
  · have S := hsh c1.1 c1.2
    rw [if_neg (not_not_intro c1), if_neg (not_not_intro c1), ftk_c S.2.2.2.1 S.2.2.2.2.1]
    by_cases c2 : 0 ≤ la ∧ la < 3
    · rw [if_neg (not_not_intro c2), if_neg (not_not_intro c2)]
      by_cases c4 : ftk lane len la i n ≠ 0
      · rw [if_pos c4, if_pos c4]
      · have c5 : ftk lane len la i n = 0 := by omega
        have e := PG_c (kd2 := kd2) (gd2 := gd2) (ln2 := ln2) (st2 := st2) (mrk := mrk) (mrg := mrg) (mrl := mrl) (mrs := mrs) S c5
        rw [if_neg c4, if_neg c4, e.1, e.2.2.1]
    · rw [if_pos c2, if_pos c2]
  · rw [if_pos c1, if_pos c1]
theorem sProgT_c (hsh : 0 ≤ sh → sh < 4 → SH sh lane len cl mss msl msh) : sProgT lane len cl sh la i n kd2 gd2 ln2 st2 ↔ sProgT (lnM mss msl sh) (mss sh) (fun j => msh (60 * sh + j)) sh la i n mrk mrg mrl mrs := by
  unfold sProgT
  constructor
  · intro h
    have S := hsh h.1.1 h.1.2
    refine ⟨h.1, h.2.1, by rw [ftk_c S.2.2.2.1 S.2.2.2.2.1]; exact h.2.2.1, ?_⟩
    rw [← (PG_c (kd2 := kd2) (gd2 := gd2) (ln2 := ln2) (st2 := st2) S h.2.2.1).1]; exact h.2.2.2
  · intro h
    have S := hsh h.1.1 h.1.2
    have h3 := h.2.2.1
    rw [ftk_c S.2.2.2.1 S.2.2.2.2.1] at h3
    refine ⟨h.1, h.2.1, h3, ?_⟩
    rw [(PG_c (mrk := mrk) (mrg := mrg) (mrl := mrl) (mrs := mrs) S h3).1]; exact h.2.2.2
theorem prog_st {cnt' lv' rn rn' mn' ml' mR' : Int} {kd' gd' ln' st' mk' mg' mls' ms' : Int → Int} (ok : okP cnt ln st) (kk : okK cnt kd gd lv) (ag : Ag cnt kd gd ln st mk mg mls ms) (hsh : 0 ≤ sh → sh < 4 → SH sh lane len cl mss msl msh)
    (hT : sProgT lane len cl sh la i n kd2 gd2 ln2 st2 → cnt' = (PG cl i n kd2 gd2 ln2 st2).2.2.1 ∧ lv' = 15 ∧ rn' = 0 ∧ (∀ j : Int, 0 ≤ j → j < 5 → kd' j = (PG cl i n kd2 gd2 ln2 st2).2.2.2.1 j ∧ gd' j = (PG cl i n kd2 gd2 ln2 st2).2.2.2.2.1 j ∧ ln' j = (PG cl i n kd2 gd2 ln2 st2).2.2.2.2.2.1 j) ∧ ∀ j : Int, 0 ≤ j → j < 20 → st' j = (PG cl i n kd2 gd2 ln2 st2).2.2.2.2.2.2 j)
    (hN : ¬ sProgT lane len cl sh la i n kd2 gd2 ln2 st2 → cnt' = cnt ∧ lv' = lv ∧ kd' = kd ∧ gd' = gd ∧ ln' = ln ∧ st' = st ∧ rn' = rn)
    (hTm : sProgT (lnM mss msl sh) (mss sh) (fun j => msh (60 * sh + j)) sh la i n mrk mrg mrl mrs → mn' = (PG (fun j => msh (60 * sh + j)) i n mrk mrg mrl mrs).2.2.1 ∧ ml' = 15 ∧ mR' = 0 ∧ (∀ j : Int, 0 ≤ j → j < (PG (fun j => msh (60 * sh + j)) i n mrk mrg mrl mrs).2.2.1 → mk' j = (PG (fun j => msh (60 * sh + j)) i n mrk mrg mrl mrs).2.2.2.1 j ∧ mg' j = (PG (fun j => msh (60 * sh + j)) i n mrk mrg mrl mrs).2.2.2.2.1 j ∧ mls' j = (PG (fun j => msh (60 * sh + j)) i n mrk mrg mrl mrs).2.2.2.2.2.1 j) ∧ ∀ j : Int, 0 ≤ j → j < (PG (fun j => msh (60 * sh + j)) i n mrk mrg mrl mrs).2.2.1 → ∀ x : Int, 0 ≤ x → x < (PG (fun j => msh (60 * sh + j)) i n mrk mrg mrl mrs).2.2.2.2.2.1 j → ms' (j * 4 + x) = (PG (fun j => msh (60 * sh + j)) i n mrk mrg mrl mrs).2.2.2.2.2.2 (j * 4 + x))
    (hNm : ¬ sProgT (lnM mss msl sh) (mss sh) (fun j => msh (60 * sh + j)) sh la i n mrk mrg mrl mrs → mn' = cnt ∧ ml' = lv ∧ mk' = mk ∧ mg' = mg ∧ mls' = mls ∧ ms' = ms ∧ mR' = rn) :
    cnt' = mn' ∧ lv' = ml' ∧ rn' = mR' ∧ okP cnt' ln' st' ∧ okK cnt' kd' gd' lv' ∧ Ag cnt' kd' gd' ln' st' mk' mg' mls' ms' ∧ (rn' = 0 ∨ (rn' = rn ∧ cnt' = cnt)) := by
  by_cases c : sProgT lane len cl sh la i n kd2 gd2 ln2 st2
  · have cm := (sProgT_c (mrk := mrk) (mrg := mrg) (mrl := mrl) (mrs := mrs) hsh).mp c
    obtain ⟨a1, a2, a3, a4, a5⟩ := hT c
    obtain ⟨b1, b2, b3, b4, b5⟩ := hTm cm
    have S := hsh c.1.1 c.1.2
    have e := (PG_c (kd2 := kd2) (gd2 := gd2) (ln2 := ln2) (st2 := st2) (mrk := mrk) (mrg := mrg) (mrl := mrl) (mrs := mrs) S c.2.2.1).2
    have hq4 : (PG cl i n kd2 gd2 ln2 st2).2.1 = 4 := pRun_taken n.toNat 0 _ (by omega) c.2.2.2
    have hok := pRun_ok (cd := fun j => cl (i + j)) n.toNat 0 ((0, 0, kd2, gd2, ln2, st2) : PQ) (okQ_0 kd2 gd2 ln2 st2) (fun _ => rfl)
    have hok : okQ' (PG cl i n kd2 gd2 ln2 st2).2 := hok
    generalize hq : (PG cl i n kd2 gd2 ln2 st2).2 = q at *
    generalize hq' : (PG (fun j => msh (60 * sh + j)) i n mrk mrg mrl mrs).2 = q' at *
    obtain ⟨o1, o2, o3, o4, o5, o6, o7⟩ := hok
    obtain ⟨g1, g2, g3, g4, g5, g6⟩ := e
    have hc : cnt' = mn' := by rw [a1, b1, g2]
    refine ⟨hc, by rw [a2, b2], by rw [a3, b3], ⟨by omega, fun j x y => ?_, fun j x y z u v => ?_⟩, ⟨fun j x y => ?_, by omega⟩, ⟨fun j x y => ?_, fun j x y z u v => ?_⟩, Or.inl a3⟩
    · rw [(a4 j x (by omega)).2.2]; exact o4 j x (by omega)
    · rw [(a4 j x (by omega)).2.2] at v
      have h4 := o4 j x (by omega)
      rw [a5 (j * 4 + z) (by omega) (by omega)]; exact o5 j x (by omega) z u v
    · rw [(a4 j x (by omega)).1, (a4 j x (by omega)).2.1]; exact ⟨o6 j x (by omega) (Or.inr (by omega)), o7 j x (by omega) (Or.inr hq4)⟩
    · have b4' := b4 j x (by omega)
      rw [(a4 j x (by omega)).1, (a4 j x (by omega)).2.1, (a4 j x (by omega)).2.2, b4'.1, b4'.2.1, b4'.2.2]
      exact ⟨g3 j x (by omega) (Or.inr (by omega)), g4 j x (by omega) (Or.inr hq4), g5 j x (by omega)⟩
    · rw [(a4 j x (by omega)).2.2] at v
      have h4 := o4 j x (by omega)
      have v2 := v
      rw [g5 j x (by omega)] at v2
      rw [a5 (j * 4 + z) (by omega) (by omega), b5 j x (by omega) z u v2]
      exact g6 j x (by omega) z u v
  · have cm : ¬ sProgT (lnM mss msl sh) (mss sh) (fun j => msh (60 * sh + j)) sh la i n mrk mrg mrl mrs := fun q => c ((sProgT_c hsh).mpr q)
    obtain ⟨a1, a2, a3, a4, a5, a6, a7⟩ := hN c
    obtain ⟨b1, b2, b3, b4, b5, b6, b7⟩ := hNm cm
    subst a3 a4 a5 a6 b3 b4 b5 b6
    rw [a1, a2, a7, b1, b2, b7]
    exact ⟨rfl, rfl, rfl, ok, kk, ag, Or.inr ⟨rfl, rfl⟩⟩
theorem rd_prog {cnt' rn rn' : Int} {rf ro mRf mRo : Int → Int} (h : RdK cnt rn rf ro mRf mRo) (hp : rn' = 0 ∨ (rn' = rn ∧ cnt' = cnt)) : RdK cnt' rn' rf ro mRf mRo := by
  rcases hp with q | ⟨q, q2⟩
  · rw [q]; exact ⟨by omega, fun x a b => absurd b (by omega), fun x a b => absurd b (by omega)⟩
  · rw [q, q2]; exact h
end SAME2
/-! sheets -/
section SAME3
variable {k lane len sh la i n v : Int} {cl mss msl msh : Int → Int}
theorem SH_sheet_s (hk : 0 ≤ sh → sh < 4 → sh = k) (h : SH k lane len cl mss msl msh) : SH k (if (0 ≤ sh ∧ sh < 4) ∧ (0 ≤ la ∧ la < 3) ∧ 0 ≤ n ∧ n ≤ 60 then la else lane) (if (0 ≤ sh ∧ sh < 4) ∧ (0 ≤ la ∧ la < 3) ∧ 0 ≤ n ∧ n ≤ 60 then n else len) (if (0 ≤ sh ∧ sh < 4) ∧ (0 ≤ la ∧ la < 3) ∧ 0 ≤ n ∧ n ≤ 60 then fillI cl 60 0 else cl) (if (0 ≤ sh ∧ sh < 4) ∧ (0 ≤ la ∧ la < 3) ∧ 0 ≤ n ∧ n ≤ 60 then updI mss sh n else mss) (if (0 ≤ sh ∧ sh < 4) ∧ (0 ≤ la ∧ la < 3) ∧ 0 ≤ n ∧ n ≤ 60 then updI msl sh la else msl) (if (0 ≤ sh ∧ sh < 4) ∧ (0 ≤ la ∧ la < 3) ∧ 0 ≤ n ∧ n ≤ 60 then fillM msh (60 * sh) n else msh) := by
  by_cases c : (0 ≤ sh ∧ sh < 4) ∧ (0 ≤ la ∧ la < 3) ∧ 0 ≤ n ∧ n ≤ 60
  · rw [if_pos c, if_pos c, if_pos c, if_pos c, if_pos c, if_pos c]
    have e := hk c.1.1 c.1.2
    subst e
    refine ⟨c.2.2, by omega, fun j => ?_, ?_, fun _ => updI_s _ _ _, fun j a b => ?_⟩
    · unfold fillI
      by_cases q : 0 ≤ j ∧ j < 60
      · rw [if_pos q]; omega
      · rw [if_neg q]; exact h.2.2.1 j
    · unfold lnM; rw [updI_s, updI_s, if_neg (by omega)]
    · unfold fillM fillI; rw [if_pos (by omega), if_pos (by omega)]
  · rw [if_neg c, if_neg c, if_neg c, if_neg c, if_neg c, if_neg c]; exact h
theorem SH_sheet_o (hk : 0 ≤ sh → sh < 4 → sh ≠ k) (h : SH k lane len cl mss msl msh) : SH k lane len cl (if (0 ≤ sh ∧ sh < 4) ∧ (0 ≤ la ∧ la < 3) ∧ 0 ≤ n ∧ n ≤ 60 then updI mss sh n else mss) (if (0 ≤ sh ∧ sh < 4) ∧ (0 ≤ la ∧ la < 3) ∧ 0 ≤ n ∧ n ≤ 60 then updI msl sh la else msl) (if (0 ≤ sh ∧ sh < 4) ∧ (0 ≤ la ∧ la < 3) ∧ 0 ≤ n ∧ n ≤ 60 then fillM msh (60 * sh) n else msh) := by
  by_cases c : (0 ≤ sh ∧ sh < 4) ∧ (0 ≤ la ∧ la < 3) ∧ 0 ≤ n ∧ n ≤ 60
  · rw [if_pos c, if_pos c, if_pos c]
    have e := hk c.1.1 c.1.2
    have e2 : k ≠ sh := fun q => e q.symm
    have h0 := h.1
    refine ⟨h.1, h.2.1, h.2.2.1, ?_, fun q => by rw [updI_n e2]; exact h.2.2.2.2.1 q, fun j a b => ?_⟩
    · unfold lnM; rw [updI_n e2, updI_n e2]; exact h.2.2.2.1
    · unfold fillM; rw [if_neg (by omega)]; exact h.2.2.2.2.2 j a b
  · rw [if_neg c, if_neg c, if_neg c]; exact h
theorem M3_sheet (h : MS3 mss msl msh) : MS3 (if (0 ≤ sh ∧ sh < 4) ∧ (0 ≤ la ∧ la < 3) ∧ 0 ≤ n ∧ n ≤ 60 then updI mss sh n else mss) (if (0 ≤ sh ∧ sh < 4) ∧ (0 ≤ la ∧ la < 3) ∧ 0 ≤ n ∧ n ≤ 60 then updI msl sh la else msl) (if (0 ≤ sh ∧ sh < 4) ∧ (0 ≤ la ∧ la < 3) ∧ 0 ≤ n ∧ n ≤ 60 then fillM msh (60 * sh) n else msh) := by
  by_cases c : (0 ≤ sh ∧ sh < 4) ∧ (0 ≤ la ∧ la < 3) ∧ 0 ≤ n ∧ n ≤ 60
  · rw [if_pos c, if_pos c, if_pos c]
    refine ⟨fun j a b => ?_, fun j a b => ?_, fun j => ?_⟩
    · unfold updI
      by_cases q : j = sh
      · rw [if_pos q]; omega
      · rw [if_neg q]; exact h.1 j a b
    · unfold updI
      by_cases q : j = sh
      · rw [if_pos q]; omega
      · rw [if_neg q]; exact h.2.1 j a b
    · unfold fillM
      by_cases q : 60 * sh ≤ j ∧ j < 60 * sh + n
      · rw [if_pos q]; omega
      · rw [if_neg q]; exact h.2.2 j
  · rw [if_neg c, if_neg c, if_neg c]; exact h
theorem SH_lose_s (hk : 0 ≤ sh → sh < 4 → sh = k) (h : SH k lane len cl mss msl msh) : SH k (if (0 ≤ sh ∧ sh < 4) ∧ lane ≠ -1 then (-1) else lane) (if (0 ≤ sh ∧ sh < 4) ∧ lane ≠ -1 then 0 else len) cl (if 0 ≤ sh ∧ sh < 4 then updI mss sh (-1) else mss) msl msh := by
  have h0 := h.1
  have h1 := h.2.1
  by_cases c : 0 ≤ sh ∧ sh < 4
  · have e := hk c.1 c.2
    subst e
    rw [if_pos c]
    refine ⟨by omega, by omega, h.2.2.1, ?_, fun q => absurd q (by omega), fun j a b => h.2.2.2.2.2 j a (by omega)⟩
    unfold lnM; rw [updI_s, if_pos (by omega)]; omega
  · rw [if_neg (by omega), if_neg (by omega), if_neg c]; exact h
theorem SH_lose_o (hk : 0 ≤ sh → sh < 4 → sh ≠ k) (h : SH k lane len cl mss msl msh) : SH k lane len cl (if 0 ≤ sh ∧ sh < 4 then updI mss sh (-1) else mss) msl msh := by
  by_cases c : 0 ≤ sh ∧ sh < 4
  · rw [if_pos c]
    have e2 : k ≠ sh := fun q => hk c.1 c.2 q.symm
    refine ⟨h.1, h.2.1, h.2.2.1, ?_, fun q => by rw [updI_n e2]; exact h.2.2.2.2.1 q, h.2.2.2.2.2⟩
    unfold lnM; rw [updI_n e2]; exact h.2.2.2.1
  · rw [if_neg c]; exact h
theorem M3_lose (h : MS3 mss msl msh) : MS3 (if 0 ≤ sh ∧ sh < 4 then updI mss sh (-1) else mss) msl msh := by
  by_cases c : 0 ≤ sh ∧ sh < 4
  · rw [if_pos c]
    refine ⟨fun j a b => ?_, h.2⟩
    unfold updI
    by_cases q : j = sh
    · rw [if_pos q]; omega
    · rw [if_neg q]; exact h.1 j a b
  · rw [if_neg c]; exact h
theorem cut_rng (lane : Int) (hv : -2147483648 ≤ v ∧ v < 2147483648) : -2147483648 ≤ cutI lane v ∧ cutI lane v < 2147483648 := by
  unfold cutI
  by_cases c : lane = 0
  · rw [if_pos c]
    have h1 := Int.le_bmod (x := v) (m := 256) (by decide)
    have h2 := Int.bmod_lt (x := v) (m := 256) (by decide)
    omega
  · rw [if_neg c]
    by_cases c2 : lane = 1
    · rw [if_pos c2]
      have h1 := Int.le_bmod (x := v) (m := 65536) (by decide)
      have h2 := Int.bmod_lt (x := v) (m := 65536) (by decide)
      omega
    · rw [if_neg c2]; exact hv
theorem SH_l (h : SH k lane len cl mss msl msh) (c : lane ≠ -1) : mss k = len ∧ msl k = lane := by
  have e := h.2.2.2.1
  have e2 := h.2.2.2.2.1 c
  have h0 := h.1
  unfold lnM at e
  rw [if_neg (by omega)] at e
  exact ⟨e2, e⟩
theorem SH_put_s (hk : 0 ≤ sh → sh < 4 → sh = k) (hv : -2147483648 ≤ v ∧ v < 2147483648) (h : SH k lane len cl mss msl msh) : SH k lane len (if (0 ≤ sh ∧ sh < 4) ∧ lane ≠ -1 ∧ 0 ≤ i ∧ i < len then updI cl i (cutI lane v) else cl) mss msl (if (0 ≤ sh ∧ sh < 4) ∧ (lnM mss msl sh) ≠ -1 ∧ 0 ≤ i ∧ i < (mss sh) then updI msh (60 * sh + i) (cutI (msl sh) v) else msh) := by
  by_cases c : 0 ≤ sh ∧ sh < 4
  · have e := hk c.1 c.2
    subst e
    rw [h.2.2.2.1]
    by_cases c2 : lane ≠ -1
    · obtain ⟨e1, e2⟩ := SH_l h c2
      rw [e1, e2]
      by_cases c3 : 0 ≤ i ∧ i < len
      · rw [if_pos ⟨c, c2, c3⟩, if_pos ⟨c, c2, c3⟩]
        refine ⟨h.1, h.2.1, fun j => ?_, h.2.2.2.1, h.2.2.2.2.1, fun j a b => ?_⟩
        · unfold updI
          by_cases q : j = i
          · rw [if_pos q]; exact cut_rng lane hv
          · rw [if_neg q]; exact h.2.2.1 j
        · unfold updI
          by_cases q : j = i
          · rw [if_pos q, if_pos (by omega)]
          · rw [if_neg q, if_neg (by omega)]; exact h.2.2.2.2.2 j a b
      · rw [if_neg (fun q => c3 q.2.2), if_neg (fun q => c3 q.2.2)]; exact h
    · rw [if_neg (fun q => c2 q.2.1), if_neg (fun q => c2 q.2.1)]; exact h
  · rw [if_neg (fun q => c q.1), if_neg (fun q => c q.1)]; exact h
theorem SH_put_o (hk : 0 ≤ sh → sh < 4 → sh ≠ k) (hm : ∀ j : Int, 0 ≤ j → j < 4 → -1 ≤ mss j ∧ mss j ≤ 60) (h : SH k lane len cl mss msl msh) : SH k lane len cl mss msl (if (0 ≤ sh ∧ sh < 4) ∧ (lnM mss msl sh) ≠ -1 ∧ 0 ≤ i ∧ i < (mss sh) then updI msh (60 * sh + i) (cutI (msl sh) v) else msh) := by
  by_cases c : (0 ≤ sh ∧ sh < 4) ∧ (lnM mss msl sh) ≠ -1 ∧ 0 ≤ i ∧ i < (mss sh)
  · rw [if_pos c]
    have e := hk c.1.1 c.1.2
    have h1 := hm sh c.1.1 c.1.2
    have h0 := h.1
    refine ⟨h.1, h.2.1, h.2.2.1, h.2.2.2.1, h.2.2.2.2.1, fun j a b => ?_⟩
    rw [updI_n (by omega)]; exact h.2.2.2.2.2 j a b
  · rw [if_neg c]; exact h
theorem M3_put (hv : -2147483648 ≤ v ∧ v < 2147483648) (h : MS3 mss msl msh) : MS3 mss msl (if (0 ≤ sh ∧ sh < 4) ∧ (lnM mss msl sh) ≠ -1 ∧ 0 ≤ i ∧ i < (mss sh) then updI msh (60 * sh + i) (cutI (msl sh) v) else msh) := by
  by_cases c : (0 ≤ sh ∧ sh < 4) ∧ (lnM mss msl sh) ≠ -1 ∧ 0 ≤ i ∧ i < (mss sh)
  · rw [if_pos c]
    refine ⟨h.1, h.2.1, fun j => ?_⟩
    unfold updI
    by_cases q : j = 60 * sh + i
    · rw [if_pos q]; exact cut_rng _ hv
    · rw [if_neg q]; exact h.2.2 j
  · rw [if_neg c]; exact h
theorem lose_c (hsh : 0 ≤ sh → sh < 4 → SH sh lane len cl mss msl msh) : (if 0 ≤ sh ∧ sh < 4 then (if lane = -1 then (0 : Int) else 1) else (-1)) = (if 0 ≤ sh ∧ sh < 4 then (if (lnM mss msl sh) = -1 then 0 else 1) else (-1)) := by
  by_cases c : 0 ≤ sh ∧ sh < 4
  · rw [(hsh c.1 c.2).2.2.2.1]
  · rw [if_neg c, if_neg c]
theorem put_c (hsh : 0 ≤ sh → sh < 4 → SH sh lane len cl mss msl msh) (x y z w : Int) : (if 0 ≤ sh ∧ sh < 4 then (if lane = -1 then x else if 0 ≤ i ∧ i < len then y else z) else w) = (if 0 ≤ sh ∧ sh < 4 then (if (lnM mss msl sh) = -1 then x else if 0 ≤ i ∧ i < (mss sh) then y else z) else w) := by
  by_cases c : 0 ≤ sh ∧ sh < 4
  · have S := hsh c.1 c.2
    rw [S.2.2.2.1]
    by_cases c2 : lane = -1
    · rw [if_pos c2, if_pos c2]
    · rw [S.2.2.2.2.1 c2]
  · rw [if_neg c, if_neg c]
theorem cell_c (hsh : 0 ≤ sh → sh < 4 → SH sh lane len cl mss msl msh) : (if (0 ≤ sh ∧ sh < 4) ∧ (0 ≤ la ∧ la < 3) ∧ ftk lane len la i 1 = 0 then cl i else (-9223372036854775808)) = (if (0 ≤ sh ∧ sh < 4) ∧ (0 ≤ la ∧ la < 3) ∧ ftk (lnM mss msl sh) (mss sh) la i 1 = 0 then msh (60 * sh + i) else (-9223372036854775808)) := by
  by_cases c : 0 ≤ sh ∧ sh < 4
  · have S := hsh c.1 c.2
    rw [ftk_c S.2.2.2.1 S.2.2.2.2.1]
    by_cases c2 : (0 ≤ sh ∧ sh < 4) ∧ (0 ≤ la ∧ la < 3) ∧ ftk lane len la i 1 = 0
    · have f0 := ftk_0 c2.2.2
      rw [if_pos c2, if_pos c2]; exact (S.2.2.2.2.2 i (by omega) (by omega)).symm
    · rw [if_neg c2, if_neg c2]
  · rw [if_neg (fun q => c q.1), if_neg (fun q => c q.1)]
theorem cellLf_c (hsh : 0 ≤ sh → sh < 4 → SH sh lane len cl mss msl msh) : (if (0 ≤ sh ∧ sh < 4) ∧ (0 ≤ la ∧ la < 3) then ftk lane len la i 1 else 0) = (if (0 ≤ sh ∧ sh < 4) ∧ (0 ≤ la ∧ la < 3) then ftk (lnM mss msl sh) (mss sh) la i 1 else 0) := by
  by_cases c : 0 ≤ sh ∧ sh < 4
  · have S := hsh c.1 c.2
    rw [ftk_c S.2.2.2.1 S.2.2.2.2.1]
  · rw [if_neg (fun q => c q.1), if_neg (fun q => c q.1)]
variable {so j lane2 len2 : Int} {cl2 : Int → Int}
theorem copy_c (hsh : 0 ≤ sh → sh < 4 → SH sh lane len cl mss msl msh) (hso : 0 ≤ so → so < 4 → SH so lane2 len2 cl2 mss msl msh) (x y z w u : Int) : (if (0 ≤ sh ∧ sh < 4) ∧ 0 ≤ so ∧ so < 4 then (if lane = -1 ∨ lane2 = -1 then x else if lane ≠ lane2 then y else if (0 ≤ i ∧ 0 ≤ n ∧ i + n ≤ len) ∧ 0 ≤ j ∧ j + n ≤ len2 then z else w) else u) = (if (0 ≤ sh ∧ sh < 4) ∧ 0 ≤ so ∧ so < 4 then (if (lnM mss msl sh) = -1 ∨ (lnM mss msl so) = -1 then x else if (lnM mss msl sh) ≠ (lnM mss msl so) then y else if (0 ≤ i ∧ 0 ≤ n ∧ i + n ≤ (mss sh)) ∧ 0 ≤ j ∧ j + n ≤ (mss so) then z else w) else u) := by
  by_cases c : (0 ≤ sh ∧ sh < 4) ∧ 0 ≤ so ∧ so < 4
  · have S := hsh c.1.1 c.1.2
    have S2 := hso c.2.1 c.2.2
    rw [S.2.2.2.1, S2.2.2.2.1]
    by_cases c2 : lane = -1 ∨ lane2 = -1
    · rw [if_pos c2, if_pos c2]
    · rw [S.2.2.2.2.1 (fun q => c2 (Or.inl q)), S2.2.2.2.2.1 (fun q => c2 (Or.inr q))]
  · rw [if_neg c, if_neg c]
theorem cpv_c (hsh : 0 ≤ sh → sh < 4 → SH sh lane len cl mss msl msh) (hso : 0 ≤ so → so < 4 → SH so lane2 len2 cl2 mss msl msh) : ((0 ≤ sh ∧ sh < 4) ∧ (0 ≤ so ∧ so < 4) ∧ lane ≠ -1 ∧ lane2 ≠ -1 ∧ lane = lane2 ∧ (0 ≤ i ∧ 0 ≤ n ∧ i + n ≤ len) ∧ 0 ≤ j ∧ j + n ≤ len2) ↔ ((0 ≤ sh ∧ sh < 4) ∧ (0 ≤ so ∧ so < 4) ∧ (lnM mss msl sh) ≠ -1 ∧ (lnM mss msl so) ≠ -1 ∧ (lnM mss msl sh) = (lnM mss msl so) ∧ (0 ≤ i ∧ 0 ≤ n ∧ i + n ≤ (mss sh)) ∧ 0 ≤ j ∧ j + n ≤ (mss so)) := by
  by_cases c : (0 ≤ sh ∧ sh < 4) ∧ 0 ≤ so ∧ so < 4
  · have S := hsh c.1.1 c.1.2
    have S2 := hso c.2.1 c.2.2
    rw [S.2.2.2.1, S2.2.2.2.1]
    constructor
    · intro q
      rw [S.2.2.2.2.1 q.2.2.1, S2.2.2.2.2.1 q.2.2.2.1]; exact q
    · intro q
      rw [S.2.2.2.2.1 q.2.2.1, S2.2.2.2.2.1 q.2.2.2.1] at q; exact q
  · constructor
    · intro q; exact absurd ⟨q.1, q.2.1⟩ c
    · intro q; exact absurd ⟨q.1, q.2.1⟩ c
/-- the cells' row behind a copy -/
theorem SH_copy_s (hsh : 0 ≤ sh → sh < 4 → SH sh lane len cl mss msl msh) (hk : 0 ≤ so → so < 4 → so = k) (h : SH k lane2 len2 cl2 mss msl msh) : SH k lane2 len2 (if (0 ≤ sh ∧ sh < 4) ∧ (0 ≤ so ∧ so < 4) ∧ lane ≠ -1 ∧ lane2 ≠ -1 ∧ lane = lane2 ∧ (0 ≤ i ∧ 0 ≤ n ∧ i + n ≤ len) ∧ 0 ≤ j ∧ j + n ≤ len2 then cpyI cl cl2 i j n else cl2) mss msl (if (0 ≤ sh ∧ sh < 4) ∧ (0 ≤ so ∧ so < 4) ∧ (lnM mss msl sh) ≠ -1 ∧ (lnM mss msl so) ≠ -1 ∧ (lnM mss msl sh) = (lnM mss msl so) ∧ (0 ≤ i ∧ 0 ≤ n ∧ i + n ≤ (mss sh)) ∧ 0 ≤ j ∧ j + n ≤ (mss so) then cpyI msh msh (60 * sh + i) (60 * so + j) n else msh) := by
  have hso : 0 ≤ so → so < 4 → SH so lane2 len2 cl2 mss msl msh := fun a b => by rw [hk a b]; exact h
  have hiff := cpv_c (i := i) (n := n) (j := j) hsh hso
  by_cases c : (0 ≤ sh ∧ sh < 4) ∧ (0 ≤ so ∧ so < 4) ∧ lane ≠ -1 ∧ lane2 ≠ -1 ∧ lane = lane2 ∧ (0 ≤ i ∧ 0 ≤ n ∧ i + n ≤ len) ∧ 0 ≤ j ∧ j + n ≤ len2
  · rw [if_pos c, if_pos (hiff.mp c)]
    have e := hk c.2.1.1 c.2.1.2
    subst e
    have S := hsh c.1.1 c.1.2
    refine ⟨h.1, h.2.1, fun x => ?_, h.2.2.2.1, h.2.2.2.2.1, fun x a b => ?_⟩
    · unfold cpyI
      by_cases q : j ≤ x ∧ x < j + n
      · rw [if_pos q]; exact S.2.2.1 _
      · rw [if_neg q]; exact h.2.2.1 x
    · unfold cpyI
      by_cases q : j ≤ x ∧ x < j + n
      · rw [if_pos q, if_pos (by omega), show 60 * sh + i + (60 * so + x - (60 * so + j)) = 60 * sh + (i + (x - j)) by omega]
        exact S.2.2.2.2.2 _ (by omega) (by omega)
      · rw [if_neg q, if_neg (by omega)]; exact h.2.2.2.2.2 x a b
  · rw [if_neg c, if_neg (fun q => c (hiff.mpr q))]; exact h
theorem SH_copy_o (hm : ∀ j : Int, 0 ≤ j → j < 4 → -1 ≤ mss j ∧ mss j ≤ 60) (hk : 0 ≤ so → so < 4 → so ≠ k) (h : SH k lane len cl mss msl msh) : SH k lane len cl mss msl (if (0 ≤ sh ∧ sh < 4) ∧ (0 ≤ so ∧ so < 4) ∧ (lnM mss msl sh) ≠ -1 ∧ (lnM mss msl so) ≠ -1 ∧ (lnM mss msl sh) = (lnM mss msl so) ∧ (0 ≤ i ∧ 0 ≤ n ∧ i + n ≤ (mss sh)) ∧ 0 ≤ j ∧ j + n ≤ (mss so) then cpyI msh msh (60 * sh + i) (60 * so + j) n else msh) := by
  by_cases c : (0 ≤ sh ∧ sh < 4) ∧ (0 ≤ so ∧ so < 4) ∧ (lnM mss msl sh) ≠ -1 ∧ (lnM mss msl so) ≠ -1 ∧ (lnM mss msl sh) = (lnM mss msl so) ∧ (0 ≤ i ∧ 0 ≤ n ∧ i + n ≤ (mss sh)) ∧ 0 ≤ j ∧ j + n ≤ (mss so)
  · rw [if_pos c]
    have e := hk c.2.1.1 c.2.1.2
    have h1 := hm so c.2.1.1 c.2.1.2
    have h0 := h.1
    refine ⟨h.1, h.2.1, h.2.2.1, h.2.2.2.1, h.2.2.2.2.1, fun x a b => ?_⟩
    unfold cpyI; rw [if_neg (by omega)]; exact h.2.2.2.2.2 x a b
  · rw [if_neg c]; exact h
theorem M3_copy (h : MS3 mss msl msh) : MS3 mss msl (if (0 ≤ sh ∧ sh < 4) ∧ (0 ≤ so ∧ so < 4) ∧ (lnM mss msl sh) ≠ -1 ∧ (lnM mss msl so) ≠ -1 ∧ (lnM mss msl sh) = (lnM mss msl so) ∧ (0 ≤ i ∧ 0 ≤ n ∧ i + n ≤ (mss sh)) ∧ 0 ≤ j ∧ j + n ≤ (mss so) then cpyI msh msh (60 * sh + i) (60 * so + j) n else msh) := by
  by_cases c : (0 ≤ sh ∧ sh < 4) ∧ (0 ≤ so ∧ so < 4) ∧ (lnM mss msl sh) ≠ -1 ∧ (lnM mss msl so) ≠ -1 ∧ (lnM mss msl sh) = (lnM mss msl so) ∧ (0 ≤ i ∧ 0 ≤ n ∧ i + n ≤ (mss sh)) ∧ 0 ≤ j ∧ j + n ≤ (mss so)
  · rw [if_pos c]
    refine ⟨h.1, h.2.1, fun x => ?_⟩
    unfold cpyI
    by_cases q : 60 * so + j ≤ x ∧ x < 60 * so + j + n
    · rw [if_pos q]; exact h.2.2 _
    · rw [if_neg q]; exact h.2.2 x
  · rw [if_neg c]; exact h
end SAME3
