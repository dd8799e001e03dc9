/-! ===== both sides hold the same ===== -/
def Ag (cnt : Int) (kd gd ln st mk mg mls ms : Int → Int) : Prop := (∀ j : Int, 0 ≤ j → j < cnt → kd j = mk j ∧ gd j = mg j ∧ ln j = mls j) ∧ ∀ j : Int, 0 ≤ j → j < cnt → ∀ i : Int, 0 ≤ i → i < ln j → st (j * 4 + i) = ms (j * 4 + i)
section SAME
variable {cnt lv : Int} {kd gd ln st mk mg mls ms : Int → Int}
theorem ag_okP (ok : okP cnt ln st) (ag : Ag cnt kd gd ln st mk mg mls ms) : okP cnt mls ms := ⟨ok.1, fun j a b => by rw [← (ag.1 j a b).2.2]; exact ok.2.1 j a b, fun j a b i c d => by
  rw [← (ag.1 j a b).2.2] at d
  rw [← ag.2 j a b i c d]
  exact ok.2.2 j a b i c d⟩
theorem ag_okK (kk : okK cnt kd gd lv) (ag : Ag cnt kd gd ln st mk mg mls ms) : okK cnt mk mg lv := ⟨fun j a b => by rw [← (ag.1 j a b).1, ← (ag.1 j a b).2.1]; exact kk.1 j a b, kk.2⟩
theorem ag_sem (ok : okP cnt ln st) (ag : Ag cnt kd gd ln st mk mg mls ms) (L f : Int) (h : 0 ≤ f ∧ f < cnt) : sem kd gd L ln st f = sem mk mg L mls ms f := sem_congr ok (ag_okP ok ag) ag.1 ag.2 f h.1 h.2
theorem ag_updK (ag : Ag cnt kd gd ln st mk mg mls ms) (f y : Int) : Ag cnt (updI kd f y) gd ln st (updI mk f y) mg mls ms := ⟨fun j a b => by
  refine ⟨?_, (ag.1 j a b).2⟩
  unfold updI
  by_cases e : j = f
  · rw [if_pos e, if_pos e]
  · rw [if_neg e, if_neg e]; exact (ag.1 j a b).1, ag.2⟩
theorem ag_updG (ag : Ag cnt kd gd ln st mk mg mls ms) (f y : Int) : Ag cnt kd (updI gd f y) ln st mk (updI mg f y) mls ms := ⟨fun j a b => by
  refine ⟨(ag.1 j a b).1, ?_, (ag.1 j a b).2.2⟩
  unfold updI
  by_cases e : j = f
  · rw [if_pos e, if_pos e]
  · rw [if_neg e, if_neg e]; exact (ag.1 j a b).2.1, ag.2⟩
theorem ag_mg {mg' : Int → Int} (ag : Ag cnt kd gd ln st mk mg mls ms) (h : ∀ j : Int, 0 ≤ j → j < cnt → mg' j = mg j) : Ag cnt kd gd ln st mk mg' mls ms := ⟨fun j a b => ⟨(ag.1 j a b).1, by rw [h j a b]; exact (ag.1 j a b).2.1, (ag.1 j a b).2.2⟩, ag.2⟩
theorem ag_mkg {mk' mg' : Int → Int} (ag : Ag cnt kd gd ln st mk mg mls ms) (h : ∀ j : Int, 0 ≤ j → j < cnt → mk' j = mk j ∧ mg' j = mg j) : Ag cnt kd gd ln st mk' mg' mls ms := ⟨fun j a b => ⟨by rw [(h j a b).1]; exact (ag.1 j a b).1, by rw [(h j a b).2]; exact (ag.1 j a b).2.1, (ag.1 j a b).2.2⟩, ag.2⟩
theorem sOf_c (ok : okP cnt ln st) (ag : Ag cnt kd gd ln st mk mg mls ms) (f w : Int) : sOf cnt kd gd ln st f w = sOf cnt mk mg mls ms f w := by
  unfold sOf
  by_cases h : 0 ≤ f ∧ f < cnt
  · rw [if_pos h, if_pos h, (ag.1 f h.1 h.2).1, (ag.1 f h.1 h.2).2.1, (ag.1 f h.1 h.2).2.2, rowS_congr ok (ag_okP ok ag) ag.1 ag.2 f h.1 h.2, mayGo_congr (o := fun x => (sem kd gd x ln st f).1) (o' := fun x => (sem mk mg x mls ms f).1) 16 (fun j _ _ => congrArg (fun r : Rc => r.1) (ag_sem ok ag j f h))]
  · rw [if_neg h, if_neg h]
theorem sRun_c (ok : okP cnt ln st) (ag : Ag cnt kd gd ln st mk mg mls ms) (f w : Int) : sRun cnt lv kd gd ln st f w = sRun cnt lv mk mg mls ms f w := by
  unfold sRun
  by_cases h : 0 ≤ f ∧ f < cnt
  · rw [if_pos h, if_pos h, ag_sem ok ag lv f h]
  · rw [if_neg h, if_neg h]
theorem sPerf_c (ok : okP cnt ln st) (ag : Ag cnt kd gd ln st mk mg mls ms) (f w : Int) : sPerf cnt lv kd gd ln st f w = sPerf cnt lv mk mg mls ms f w := by
  unfold sPerf
  by_cases h : 0 ≤ f ∧ f < cnt
  · rw [if_pos h, if_pos h, ag_sem ok ag lv f h]
  · rw [if_neg h, if_neg h]
theorem sPath_c (ok : okP cnt ln st) (ag : Ag cnt kd gd ln st mk mg mls ms) (f w : Int) : sPath cnt lv kd gd ln st f w = sPath cnt lv mk mg mls ms f w := by
  unfold sPath
  by_cases h : 0 ≤ f ∧ f < cnt
  · rw [if_pos h, if_pos h, ag_sem ok ag lv f h]
  · rw [if_neg h, if_neg h]
theorem sWit_c (ok : okP cnt ln st) (ag : Ag cnt kd gd ln st mk mg mls ms) (f w : Int) : sWit cnt kd gd ln st f w = sWit cnt mk mg mls ms f w := by
  unfold sWit
  by_cases h : 0 ≤ f ∧ f < cnt
  · rw [if_pos h, if_pos h, wfrom_congr (o := fun x => (sem kd gd x ln st f).1) (o' := fun x => (sem mk mg x mls ms f).1) 16 0 (fun j _ _ => congrArg (fun r : Rc => r.1) (ag_sem ok ag j f h))]
  · rw [if_neg h, if_neg h]
theorem sFree_c (ok : okP cnt ln st) (ag : Ag cnt kd gd ln st mk mg mls ms) (f g : Int) : sFree cnt kd gd ln st f g = sFree cnt mk mg mls ms f g := by
  unfold sFree
  by_cases h : (0 ≤ f ∧ f < cnt) ∧ 0 ≤ g ∧ g < cnt
  · rw [if_pos h, if_pos h, freeB_congr (o := fun x => (sem kd gd x ln st f).1) (o' := fun x => (sem mk mg x mls ms f).1) (p := fun x => (sem kd gd x ln st g).1) (p' := fun x => (sem mk mg x mls ms g).1) 16 (fun j _ _ => ⟨congrArg (fun r : Rc => r.1) (ag_sem ok ag j f h.1), congrArg (fun r : Rc => r.1) (ag_sem ok ag j g h.2)⟩)]
  · rw [if_neg h, if_neg h]
theorem sMore_c (ok : okP cnt ln st) (ag : Ag cnt kd gd ln st mk mg mls ms) (f g : Int) : sMore cnt kd gd ln st f g = sMore cnt mk mg mls ms f g := by
  unfold sMore
  by_cases h : (0 ≤ f ∧ f < cnt) ∧ 0 ≤ g ∧ g < cnt
  · rw [if_pos h, if_pos h, moreGo_congr (o := fun x => (sem kd gd x ln st f).1) (o' := fun x => (sem mk mg x mls ms f).1) (p := fun x => (sem kd gd x ln st g).1) (p' := fun x => (sem mk mg x mls ms g).1) 16 (fun j _ _ => ⟨congrArg (fun r : Rc => r.1) (ag_sem ok ag j f h.1), congrArg (fun r : Rc => r.1) (ag_sem ok ag j g h.2)⟩)]
  · rw [if_neg h, if_neg h]
theorem sOdds_c (ok : okP cnt ln st) (ag : Ag cnt kd gd ln st mk mg mls ms) (f x w : Int) : sOdds cnt kd gd ln st f x w = sOdds cnt mk mg mls ms f x w := by
  unfold sOdds
  by_cases h : (0 ≤ f ∧ f < cnt) ∧ (0 ≤ x ∧ x ≤ 4) ∧ 0 ≤ w ∧ w ≤ 1
  · rw [if_pos h, if_pos h, cntEq_congr (o := fun y => (sem kd gd y ln st f).1) (o' := fun y => (sem mk mg y mls ms f).1) (x := x) 16 (fun j _ _ => congrArg (fun r : Rc => r.1) (ag_sem ok ag j f h.1))]
  · rw [if_neg h, if_neg h]
theorem sumI_c {g g' : Int → Int} : ∀ n : Nat, (∀ j : Int, 0 ≤ j → j < n → g j = g' j) → sumI g n = sumI g' n
  | 0, _ => rfl
  | n + 1, h => by
    show sumI g n + g n = sumI g' n + g' n
    rw [sumI_c n (fun j a b => h j a (by omega)), h n (by omega) (by omega)]
theorem sMany_c (ok : okP cnt ln st) (ag : Ag cnt kd gd ln st mk mg mls ms) (rn w : Int) : sMany cnt lv kd gd ln st rn w = sMany cnt lv mk mg mls ms rn w := by
  unfold sMany
  rw [sumI_c (g := ln) (g' := mls) cnt.toNat (fun j a b => (ag.1 j a (by omega)).2.2), cntNe_congr (o := fun f => (sem kd gd lv ln st f).1) (o' := fun f => (sem mk mg lv mls ms f).1) cnt.toNat (fun j a b => congrArg (fun r : Rc => r.1) (ag_sem ok ag lv j ⟨a, by omega⟩))]
theorem plugs_c (ok : okP cnt ln st) (ag : Ag cnt kd gd ln st mk mg mls ms) {f z z' : Int} (h : (z = -1 ∧ ¬ (0 ≤ f ∧ f < cnt)) ∨ ((0 ≤ f ∧ f < cnt) ∧ plugsR cnt lv kd gd ln st f z)) (h' : (z' = -1 ∧ ¬ (0 ≤ f ∧ f < cnt)) ∨ ((0 ≤ f ∧ f < cnt) ∧ plugsR cnt lv mk mg mls ms f z')) : z = z' := by
  rcases h with ⟨a, b⟩ | ⟨a, b⟩
  · rcases h' with ⟨c, d⟩ | ⟨c, d⟩
    · rw [a, c]
    · exact absurd c b
  · rcases h' with ⟨c, d⟩ | ⟨c, d⟩
    · exact absurd a d
    · exact plugsR_uniq (plugsR_congr ok (ag_okP ok ag) ag.1 ag.2 a.1 a.2 b) d
/-! readings -/
def RdK (cnt rn : Int) (rf ro mRf mRo : Int → Int) : Prop := (0 ≤ rn ∧ rn ≤ 8) ∧ (∀ x : Int, 0 ≤ x → x < rn → (0 ≤ rf x ∧ rf x < cnt) ∧ 0 ≤ ro x ∧ ro x ≤ 4) ∧ ∀ x : Int, 0 ≤ x → x < rn → rf x = mRf x ∧ ro x = mRo x
theorem rdM {rn : Int} {rf ro mRf mRo : Int → Int} (h : RdK cnt rn rf ro mRf mRo) : ∀ x : Int, 0 ≤ x → x < rn → (0 ≤ mRf x ∧ mRf x < cnt) ∧ 0 ≤ mRo x ∧ mRo x ≤ 4 := fun x a b => by rw [← (h.2.2 x a b).1, ← (h.2.2 x a b).2]; exact h.2.1 x a b
theorem soK_c {rn : Int} {rf ro mRf mRo : Int → Int} (ok : okP cnt ln st) (ag : Ag cnt kd gd ln st mk mg mls ms) (h : RdK cnt rn rf ro mRf mRo) (L : Int) : soK L kd gd ln st rn rf ro = soK L mk mg mls ms rn mRf mRo := soI_congr _ (fun j a b => by
  have b' : j < rn := by omega
  refine ⟨?_, (h.2.2 j a b').2⟩
  show (sem kd gd L ln st (rf j)).1 = (sem mk mg L mls ms (mRf j)).1
  rw [← (h.2.2 j a b').1, ag_sem ok ag L (rf j) (h.2.1 j a b').1])
theorem sKinds_c {rn : Int} {rf ro mRf mRo : Int → Int} (ok : okP cnt ln st) (ag : Ag cnt kd gd ln st mk mg mls ms) (h : RdK cnt rn rf ro mRf mRo) (f : Int) : sKinds cnt lv kd gd ln st rn rf ro f = sKinds cnt lv mk mg mls ms rn mRf mRo f := by
  unfold sKinds
  rw [bitsGo_congr (b := fun y => soK lv (updI kd f y) gd ln st rn rf ro) (b' := fun y => soK lv (updI mk f y) mg mls ms rn mRf mRo) 3 (fun y _ _ => soK_c ok (ag_updK ag f y) h lv)]
theorem sGuards_c {rn : Int} {rf ro mRf mRo : Int → Int} (ok : okP cnt ln st) (ag : Ag cnt kd gd ln st mk mg mls ms) (h : RdK cnt rn rf ro mRf mRo) (f : Int) : sGuards cnt lv kd gd ln st rn rf ro f = sGuards cnt lv mk mg mls ms rn mRf mRo f := by
  unfold sGuards
  rw [bitsGo_congr (b := fun y => soK lv kd (updI gd f y) ln st rn rf ro) (b' := fun y => soK lv mk (updI mg f y) mls ms rn mRf mRo) 4 (fun y _ _ => soK_c ok (ag_updG ag f y) h lv)]
theorem sLives_c {rn : Int} {rf ro mRf mRo : Int → Int} (ok : okP cnt ln st) (ag : Ag cnt kd gd ln st mk mg mls ms) (h : RdK cnt rn rf ro mRf mRo) : sLives cnt kd gd ln st rn rf ro = sLives cnt mk mg mls ms rn mRf mRo := by
  unfold sLives
  rw [bitsGo_congr (b := fun y => soK y kd gd ln st rn rf ro) (b' := fun y => soK y mk mg mls ms rn mRf mRo) 16 (fun y _ _ => soK_c ok ag h y)]
theorem rd_reading {rn f x : Int} {rf ro mRf mRo : Int → Int} (h : RdK cnt rn rf ro mRf mRo) : RdK cnt (if (0 ≤ f ∧ f < cnt) ∧ (0 ≤ x ∧ x ≤ 4) ∧ rn < 8 then rn + 1 else rn) (if (0 ≤ f ∧ f < cnt) ∧ (0 ≤ x ∧ x ≤ 4) ∧ rn < 8 then updI rf rn f else rf) (if (0 ≤ f ∧ f < cnt) ∧ (0 ≤ x ∧ x ≤ 4) ∧ rn < 8 then updI ro rn x else ro) (if (0 ≤ f ∧ f < cnt) ∧ (0 ≤ x ∧ x ≤ 4) ∧ rn < 8 then updI mRf rn f else mRf) (if (0 ≤ f ∧ f < cnt) ∧ (0 ≤ x ∧ x ≤ 4) ∧ rn < 8 then updI mRo rn x else mRo) := by
  by_cases c : (0 ≤ f ∧ f < cnt) ∧ (0 ≤ x ∧ x ≤ 4) ∧ rn < 8
  · rw [if_pos c, if_pos c, if_pos c, if_pos c, if_pos c]
    have h0 := h.1
    refine ⟨by omega, fun y a b => ?_, fun y a b => ?_⟩
    · unfold updI
      by_cases e : y = rn
      · rw [if_pos e, if_pos e]; exact ⟨c.1, c.2.1⟩
      · rw [if_neg e, if_neg e]; exact h.2.1 y a (by omega)
    · unfold updI
      by_cases e : y = rn
      · rw [if_pos e, if_pos e, if_pos e, if_pos e]; exact ⟨rfl, rfl⟩
      · rw [if_neg e, if_neg e, if_neg e, if_neg e]; exact h.2.2 y a (by omega)
  · rw [if_neg c, if_neg c, if_neg c, if_neg c, if_neg c]; exact h
theorem rd_back {rn k : Int} {rf ro mRf mRo : Int → Int} (h : RdK cnt rn rf ro mRf mRo) : RdK cnt (if 0 ≤ k ∧ k ≤ rn then rn - k else rn) rf ro mRf mRo := by
  have h0 := h.1
  exact ⟨by omega, fun y a b => h.2.1 y a (by omega), fun y a b => h.2.2 y a (by omega)⟩
/-! patch, guard, live -/
theorem st_rng {c f i v : Int} (hi : 0 ≤ i ∧ i < 4) {j x : Int} (hx : 0 ≤ x ∧ x < 4) (e : j * 4 + x = f * 4 + i) : j = f ∧ x = i := by omega
theorem ok_patch {f i v : Int} (ok : okP cnt ln st) : okP cnt ln (if (0 ≤ f ∧ f < cnt ∧ 0 ≤ i ∧ i < ln f) ∧ 0 ≤ v ∧ v < 4 + f then updI st (f * 4 + i) v else st) := by
  by_cases c : (0 ≤ f ∧ f < cnt ∧ 0 ≤ i ∧ i < ln f) ∧ 0 ≤ v ∧ v < 4 + f
  · rw [if_pos c]
    refine ⟨ok.1, ok.2.1, fun j a b x d e => ?_⟩
    have h1 := ok.2.1 j a b
    have h2 := ok.2.1 f c.1.1 c.1.2.1
    unfold updI
    by_cases q : j * 4 + x = f * 4 + i
    · rw [if_pos q]; omega
    · rw [if_neg q]; exact ok.2.2 j a b x d e
  · rw [if_neg c]; exact ok
theorem ag_patch {f i v : Int} (ok : okP cnt ln st) (ag : Ag cnt kd gd ln st mk mg mls ms) : Ag cnt kd gd ln (if (0 ≤ f ∧ f < cnt ∧ 0 ≤ i ∧ i < ln f) ∧ 0 ≤ v ∧ v < 4 + f then updI st (f * 4 + i) v else st) mk mg mls (if (0 ≤ f ∧ f < cnt ∧ 0 ≤ i ∧ i < mls f) ∧ 0 ≤ v ∧ v < 4 + f then updI ms (f * 4 + i) v else ms) := by
  by_cases c0 : 0 ≤ f ∧ f < cnt
  · have e := (ag.1 f c0.1 c0.2).2.2
    rw [← e]
    by_cases c : (0 ≤ f ∧ f < cnt ∧ 0 ≤ i ∧ i < ln f) ∧ 0 ≤ v ∧ v < 4 + f
    · rw [if_pos c, if_pos c]
      refine ⟨ag.1, fun j a b x d e => ?_⟩
      unfold updI
      by_cases q : j * 4 + x = f * 4 + i
      · rw [if_pos q, if_pos q]
      · rw [if_neg q, if_neg q]; exact ag.2 j a b x d e
    · rw [if_neg c, if_neg c]; exact ag
  · rw [if_neg (by omega), if_neg (by omega)]; exact ag
theorem kk_guard {f x : Int} (kk : okK cnt kd gd lv) : okK cnt kd (if (0 ≤ f ∧ f < cnt) ∧ 0 ≤ x ∧ x < 4 then updI gd f x else gd) lv := by
  by_cases c : (0 ≤ f ∧ f < cnt) ∧ 0 ≤ x ∧ x < 4
  · rw [if_pos c]; exact okK_updG kk (by omega)
  · rw [if_neg c]; exact kk
theorem ag_guard {f x : Int} (ag : Ag cnt kd gd ln st mk mg mls ms) : Ag cnt kd (if (0 ≤ f ∧ f < cnt) ∧ 0 ≤ x ∧ x < 4 then updI gd f x else gd) ln st mk (if (0 ≤ f ∧ f < cnt) ∧ 0 ≤ x ∧ x < 4 then updI mg f x else mg) mls ms := by
  by_cases c : (0 ≤ f ∧ f < cnt) ∧ 0 ≤ x ∧ x < 4
  · rw [if_pos c, if_pos c]; exact ag_updG ag f x
  · rw [if_neg c, if_neg c]; exact ag
theorem kk_live {x : Int} (kk : okK cnt kd gd lv) : okK cnt kd gd (if (0 ≤ x ∧ x < 16) ∧ cnt ≠ 0 then x else lv) := by
  have h := kk.2
  exact ⟨kk.1, by omega⟩
theorem step_c {f i : Int} (ag : Ag cnt kd gd ln st mk mg mls ms) : (if 0 ≤ f ∧ f < cnt ∧ 0 ≤ i ∧ i < ln f then st (f * 4 + i) else (-1)) = (if 0 ≤ f ∧ f < cnt ∧ 0 ≤ i ∧ i < mls f then ms (f * 4 + i) else (-1)) := by
  by_cases c0 : 0 ≤ f ∧ f < cnt
  · rw [← (ag.1 f c0.1 c0.2).2.2]
    by_cases c : 0 ≤ f ∧ f < cnt ∧ 0 ≤ i ∧ i < ln f
    · rw [if_pos c, if_pos c]; exact ag.2 f c.1 c.2.1 i c.2.2.1 c.2.2.2
    · rw [if_neg c, if_neg c]
  · rw [if_neg (by omega), if_neg (by omega)]
theorem patch_c {f i v : Int} (ag : Ag cnt kd gd ln st mk mg mls ms) : (if 0 ≤ f ∧ f < cnt ∧ 0 ≤ i ∧ i < ln f then (if 0 ≤ v ∧ v < 4 + f then st (f * 4 + i) else (-2)) else (-1)) = (if 0 ≤ f ∧ f < cnt ∧ 0 ≤ i ∧ i < mls f then (if 0 ≤ v ∧ v < 4 + f then ms (f * 4 + i) else (-2)) else (-1)) := by
  by_cases c0 : 0 ≤ f ∧ f < cnt
  · rw [← (ag.1 f c0.1 c0.2).2.2]
    by_cases c : 0 ≤ f ∧ f < cnt ∧ 0 ≤ i ∧ i < ln f
    · rw [if_pos c, if_pos c, ag.2 f c.1 c.2.1 i c.2.2.1 c.2.2.2]
    · rw [if_neg c, if_neg c]
  · rw [if_neg (by omega), if_neg (by omega)]
theorem guard_c {f x : Int} (ag : Ag cnt kd gd ln st mk mg mls ms) : (if 0 ≤ f ∧ f < cnt then (if 0 ≤ x ∧ x < 4 then gd f else (-2)) else (-1)) = (if 0 ≤ f ∧ f < cnt then (if 0 ≤ x ∧ x < 4 then mg f else (-2)) else (-1)) := by
  by_cases c : 0 ≤ f ∧ f < cnt
  · rw [(ag.1 f c.1 c.2).2.1]
  · rw [if_neg c, if_neg c]
theorem tell_c {f : Int} (ag : Ag cnt kd gd ln st mk mg mls ms) : (if 0 ≤ f ∧ f < cnt then (if kd f = 1 then ln f + 100 else if kd f = 2 then ln f + 100 + ln f else ln f) else (-1)) = (if 0 ≤ f ∧ f < cnt then (if mk f = 1 then mls f + 100 else if mk f = 2 then mls f + 100 + mls f else mls f) else (-1)) := by
  by_cases c : 0 ≤ f ∧ f < cnt
  · rw [(ag.1 f c.1 c.2).1, (ag.1 f c.1 c.2).2.2]
  · rw [if_neg c, if_neg c]
theorem tellT_c {f tc : Int} (ag : Ag cnt kd gd ln st mk mg mls ms) : (if 0 ≤ f ∧ f < cnt then (if kd f = 1 then (31 * ((31 * tc) + 2)) + 1 else if kd f = 2 then (31 * ((31 * ((31 * ((31 * tc) + 3)) + 2)) + 1)) + 1 else (31 * tc) + 1) else tc) = (if 0 ≤ f ∧ f < cnt then (if mk f = 1 then (31 * ((31 * tc) + 2)) + 1 else if mk f = 2 then (31 * ((31 * ((31 * ((31 * tc) + 3)) + 2)) + 1)) + 1 else (31 * tc) + 1) else tc) := by
  by_cases c : 0 ≤ f ∧ f < cnt
  · rw [(ag.1 f c.1 c.2).1]
  · rw [if_neg c, if_neg c]
theorem name_c {f : Int} (ag : Ag cnt kd gd ln st mk mg mls ms) : (if 0 ≤ f ∧ f < cnt then (if kd f = 2 then 60 else f) else (-1)) = (if 0 ≤ f ∧ f < cnt then (if mk f = 2 then 60 else f) else (-1)) := by
  by_cases c : 0 ≤ f ∧ f < cnt
  · rw [(ag.1 f c.1 c.2).1]
  · rw [if_neg c, if_neg c]
theorem nameT_c {f tc : Int} (ag : Ag cnt kd gd ln st mk mg mls ms) : (if 0 ≤ f ∧ f < cnt then (if kd f = 2 then (31 * tc) + 5 else (31 * tc) + 4) else tc) = (if 0 ≤ f ∧ f < cnt then (if mk f = 2 then (31 * tc) + 5 else (31 * tc) + 4) else tc) := by
  by_cases c : 0 ≤ f ∧ f < cnt
  · rw [(ag.1 f c.1 c.2).1]
  · rw [if_neg c, if_neg c]
theorem as_c {f y : Int} (ag : Ag cnt kd gd ln st mk mg mls ms) : (if 0 ≤ f ∧ f < cnt then (if 0 ≤ y ∧ y < 3 then (if y ≤ kd f then 1 else (-12)) else (-2)) else (-1)) = (if 0 ≤ f ∧ f < cnt then (if 0 ≤ y ∧ y < 3 then (if y ≤ mk f then 1 else (-12)) else (-2)) else (-1)) := by
  by_cases c : 0 ≤ f ∧ f < cnt
  · rw [(ag.1 f c.1 c.2).1]
  · rw [if_neg c, if_neg c]
theorem asT_c {f y : Int} (ag : Ag cnt kd gd ln st mk mg mls ms) : (if (0 ≤ f ∧ f < cnt) ∧ (0 ≤ y ∧ y < 3) ∧ ¬ y ≤ kd f then (2 : Int) else 0) = (if (0 ≤ f ∧ f < cnt) ∧ (0 ≤ y ∧ y < 3) ∧ ¬ y ≤ mk f then 2 else 0) := by
  by_cases c : 0 ≤ f ∧ f < cnt
  · rw [(ag.1 f c.1 c.2).1]
  · rw [if_neg (by omega), if_neg (by omega)]
end SAME
