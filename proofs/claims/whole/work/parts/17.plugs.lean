/-! ===== the fewest that must keep ===== -/
theorem okP_le {cnt n : Int} {ln st : Int → Int} (ok : okP cnt ln st) (h0 : 0 ≤ n) (h1 : n ≤ cnt) : okP n ln st := ⟨by have := ok.1; omega, fun j a b => ok.2.1 j a (by omega), fun j a b => ok.2.2 j a (by omega)⟩
theorem sem_pre {K G K' G' : Int → Int} {L cnt : Int} {ln st : Int → Int} (ok : okP cnt ln st) {f : Int} (h0 : 0 ≤ f) (h1 : f < cnt) (hk : ∀ j : Int, 0 ≤ j → j ≤ f → K j = K' j ∧ G j = G' j) : sem K G L ln st f = sem K' G' L ln st f :=
  sem_congr (okP_le ok (n := f + 1) (by omega) (by omega)) (okP_le ok (n := f + 1) (by omega) (by omega)) (fun j a b => ⟨(hk j a (by omega)).1, (hk j a (by omega)).2, rfl⟩) (fun _ _ _ _ _ _ => rfl) f h0 (by omega)
theorem goR_out {k g L : Int} {sf : Int → Int} {tb tb' : Int → Rc} : ∀ (n : Nat) (i : Int), (∀ j : Int, i ≤ j → j < i + n → (stepR L tb (sf j)).1 = (stepR L tb' (sf j)).1) → (goR k g L sf tb n i).1 = (goR k g L sf tb' n i).1
  | 0, _, _ => rfl
  | n + 1, i, h => by
    have e1 := h i (Int.le_refl i) (by omega)
    have e2 := goR_out n (i + 1) (fun j h1 h2 => h j (by omega) (by omega)) (k := k) (g := g)
    show (aftR k g _ _).1 = (aftR k g _ _).1
    unfold aftR
    rw [e1]
    split
    · rfl
    · split
      · rfl
      · exact e2
/-- what comes out of those behind hangs on what comes out of one alone -/
theorem sem_out {K G K' G' : Int → Int} {L cnt : Int} {ln st : Int → Int} (ok : okP cnt ln st) {at_ : Int} (hk : ∀ j : Int, 0 ≤ j → j < cnt → j ≠ at_ → K j = K' j ∧ G j = G' j) (ha : (sem K G L ln st at_).1 = (sem K' G' L ln st at_).1) : ∀ f : Int, 0 ≤ f → f < cnt → (sem K G L ln st f).1 = (sem K' G' L ln st f).1 := by
  have main : ∀ (n : Nat) (f : Int), 0 ≤ f → f < cnt → f < n → (sem K G L ln st f).1 = (sem K' G' L ln st f).1 := by
    intro n
    induction n with
    | zero => intro f h0 h1 h2; exact absurd h2 (by omega)
    | succ n ih =>
      intro f h0 h1 h2
      by_cases e : f = at_
      · rw [e]; exact ha
      · rw [sem_un ok h0 h1, sem_un ok h0 h1, (hk f h0 h1 e).1, (hk f h0 h1 e).2]
        refine goR_out _ _ (fun j hj1 hj2 => ?_)
        have hl := ok.2.1 f h0 h1
        have hv := ok.2.2 f h0 h1 j hj1 (by omega)
        show (stepR L _ (st (f * 4 + j))).1 = (stepR L _ (st (f * 4 + j))).1
        unfold stepR
        by_cases h4 : 4 ≤ st (f * 4 + j)
        · rw [if_pos h4, if_pos h4]
          exact ih _ (by omega) (by omega) (by omega)
        · rw [if_neg h4, if_neg h4]
  intro f h0 h1
  exact main (f.toNat + 1) f h0 h1 (by omega)
def PCh (c : Int → Int) : Prop := ∀ g : Int, 0 ≤ c g ∧ c g ≤ 4
def chK (k y : Int) : Int := if y = 0 then k else 2
def chG (g y : Int) : Int := if y = 0 then g else y - 1
def mixK (at_ : Int) (tk kd c : Int → Int) : Int → Int := fun g => if g < at_ then tk g else chK (kd g) (c g)
def mixG (at_ : Int) (tg gd c : Int → Int) : Int → Int := fun g => if g < at_ then tg g else chG (gd g) (c g)
def outM (at_ : Int) (tk tg kd gd : Int → Int) (L : Int) (ln st : Int → Int) (f : Int) (c : Int → Int) : Int := (sem (mixK at_ tk kd c) (mixG at_ tg gd c) L ln st f).1
def costN (c : Int → Int) : Int → Nat → Int
  | _, 0 => 0
  | i, n + 1 => (if c i = 0 then 0 else 1) + costN c (i + 1) n
def costI (c : Int → Int) (at_ f : Int) : Int := costN c at_ (f + 1 - at_).toNat
theorem costN_nn (c : Int → Int) : ∀ (n : Nat) (i : Int), 0 ≤ costN c i n ∧ costN c i n ≤ n
  | 0, _ => ⟨Int.le_refl 0, Int.le_refl 0⟩
  | n + 1, i => by
    have := costN_nn c n (i + 1)
    show 0 ≤ (if c i = 0 then (0 : Int) else 1) + costN c (i + 1) n ∧ (if c i = 0 then (0 : Int) else 1) + costN c (i + 1) n ≤ ((n + 1 : Nat) : Int)
    split <;> omega
theorem costN_congr {c c' : Int → Int} : ∀ (n : Nat) (i : Int), (∀ j : Int, i ≤ j → c j = c' j) → costN c i n = costN c' i n
  | 0, _, _ => rfl
  | n + 1, i, h => by
    show (if c i = 0 then (0 : Int) else 1) + costN c (i + 1) n = (if c' i = 0 then (0 : Int) else 1) + costN c' (i + 1) n
    rw [h i (Int.le_refl i), costN_congr n (i + 1) (fun j hj => h j (by omega))]
theorem costI_s (c : Int → Int) {at_ f : Int} (h : at_ ≤ f) : costI c at_ f = (if c at_ = 0 then 0 else 1) + costI c (at_ + 1) f := by
  unfold costI
  rw [show (f + 1 - at_).toNat = (f + 1 - (at_ + 1)).toNat + 1 by omega]
  rfl
theorem costI_nn (c : Int → Int) (at_ f : Int) : 0 ≤ costI c at_ f := (costN_nn c _ _).1
theorem outM_s {at_ f : Int} {tk tg kd gd : Int → Int} {L : Int} {ln st c : Int → Int} : outM at_ tk tg kd gd L ln st f c = outM (at_ + 1) (updI tk at_ (chK (kd at_) (c at_))) (updI tg at_ (chG (gd at_) (c at_))) kd gd L ln st f c := by
  have e1 : mixK at_ tk kd c = mixK (at_ + 1) (updI tk at_ (chK (kd at_) (c at_))) kd c := by
    funext g; unfold mixK updI
    by_cases h1 : g < at_
    · rw [if_pos h1, if_pos (by omega), if_neg (by omega)]
    · rw [if_neg h1]
      by_cases h2 : g = at_
      · rw [if_pos (by omega), if_pos h2, h2]
      · rw [if_neg (by omega)]
  have e2 : mixG at_ tg gd c = mixG (at_ + 1) (updI tg at_ (chG (gd at_) (c at_))) gd c := by
    funext g; unfold mixG updI
    by_cases h1 : g < at_
    · rw [if_pos h1, if_pos (by omega), if_neg (by omega)]
    · rw [if_neg h1]
      by_cases h2 : g = at_
      · rw [if_pos (by omega), if_pos h2, h2]
      · rw [if_neg (by omega)]
  unfold outM
  rw [e1, e2]
theorem mix_eq {at_ : Int} {tk tk' kd c c' : Int → Int} (h : ∀ j : Int, j < at_ → tk j = tk' j) (hc : ∀ j : Int, at_ ≤ j → c j = c' j) : mixK at_ tk kd c = mixK at_ tk' kd c' := by
  funext g; unfold mixK
  by_cases h1 : g < at_
  · rw [if_pos h1, if_pos h1, h g h1]
  · rw [if_neg h1, if_neg h1, hc g (by omega)]
theorem mixG_eq {at_ : Int} {tk tk' kd c c' : Int → Int} (h : ∀ j : Int, j < at_ → tk j = tk' j) (hc : ∀ j : Int, at_ ≤ j → c j = c' j) : mixG at_ tk kd c = mixG at_ tk' kd c' := by
  funext g; unfold mixG
  by_cases h1 : g < at_
  · rw [if_pos h1, if_pos h1, h g h1]
  · rw [if_neg h1, if_neg h1, hc g (by omega)]
theorem outM_eq {at_ f : Int} {tk tg tk' tg' kd gd : Int → Int} {L : Int} {ln st c : Int → Int} (h : ∀ j : Int, j < at_ → tk j = tk' j ∧ tg j = tg' j) : outM at_ tk tg kd gd L ln st f c = outM at_ tk' tg' kd gd L ln st f c := by
  unfold outM
  rw [mix_eq (fun j hj => (h j hj).1) (fun _ _ => rfl), mixG_eq (fun j hj => (h j hj).2) (fun _ _ => rfl)]
/-- what comes out of one by a choice -/
def oAt (at_ : Int) (tk tg kd gd : Int → Int) (L : Int) (ln st : Int → Int) (y : Int) : Int := (sem (updI tk at_ (chK (kd at_) y)) (updI tg at_ (chG (gd at_) y)) L ln st at_).1
theorem outM_skip {cnt at_ f : Int} {tk tg kd gd : Int → Int} {L : Int} {ln st c : Int → Int} (ok : okP cnt ln st) (ha : 0 ≤ at_) (haf : at_ ≤ f) (hf : f < cnt) {y : Int} (h : oAt at_ tk tg kd gd L ln st (c at_) = oAt at_ tk tg kd gd L ln st y) : outM at_ tk tg kd gd L ln st f c = outM at_ tk tg kd gd L ln st f (updI c at_ y) := by
  unfold outM
  have key : ∀ z : Int → Int, (sem (mixK at_ tk kd z) (mixG at_ tg gd z) L ln st at_).1 = oAt at_ tk tg kd gd L ln st (z at_) := by
    intro z
    unfold oAt
    rw [sem_pre ok ha (by omega) (K' := updI tk at_ (chK (kd at_) (z at_))) (G' := updI tg at_ (chG (gd at_) (z at_))) (fun j hj1 hj2 => ?_)]
    unfold mixK mixG updI
    by_cases e : j = at_
    · exact ⟨by rw [if_neg (show ¬ j < at_ by omega), if_pos e, e], by rw [if_neg (show ¬ j < at_ by omega), if_pos e, e]⟩
    · exact ⟨by rw [if_pos (show j < at_ by omega), if_neg e], by rw [if_pos (show j < at_ by omega), if_neg e]⟩
  refine sem_out ok (at_ := at_) (fun j h0 h1 hne => ?_) ?_ f (by omega) hf
  · unfold mixK mixG
    by_cases e : j < at_
    · rw [if_pos e, if_pos e, if_pos e, if_pos e]; exact ⟨rfl, rfl⟩
    · rw [if_neg e, if_neg e, if_neg e, if_neg e, updI_n hne]; exact ⟨rfl, rfl⟩
  · rw [key, key, updI_s]; exact h
/-- what the search answers -/
def plRes (at_ f us be L : Int) (tk tg kd gd ln st : Int → Int) (z : Int) : Prop := (0 ≤ z ∧ z ≤ be) ∧ (z = be ∨ ∃ c : Int → Int, PCh c ∧ outM at_ tk tg kd gd L ln st f c = 4 ∧ z = us + costI c at_ f) ∧ ∀ c : Int → Int, PCh c → outM at_ tk tg kd gd L ln st f c = 4 → z ≤ us + costI c at_ f
def plInv (at_ f us be L : Int) (tk tg kd gd ln st : Int → Int) (y fe tr : Int) : Prop := (0 ≤ fe ∧ fe ≤ be) ∧ (fe = be ∨ ∃ c : Int → Int, PCh c ∧ outM at_ tk tg kd gd L ln st f c = 4 ∧ fe = us + costI c at_ f) ∧ (∀ c : Int → Int, PCh c → c at_ < y → outM at_ tk tg kd gd L ln st f c = 4 → fe ≤ us + costI c at_ f) ∧ (0 ≤ tr ∧ tr < 32) ∧ ∀ x : Int, 0 ≤ x → x ≤ 4 → bit tr x = 1 → ∃ y' : Int, 0 ≤ y' ∧ y' < y ∧ oAt at_ tk tg kd gd L ln st y' = x
theorem plRes_early {at_ f us be L : Int} {tk tg kd gd ln st : Int → Int} (h : be ≤ us) (h0 : 0 ≤ be) : plRes at_ f us be L tk tg kd gd ln st be := ⟨⟨h0, Int.le_refl be⟩, Or.inl rfl, fun c _ _ => by have := costI_nn c at_ f; omega⟩
theorem plRes_base {cnt f us be L : Int} {tk tg kd gd ln st : Int → Int} (ok : okP cnt ln st) (h0 : 0 ≤ f) (h1 : f < cnt) {at_ : Int} (ha : at_ = f + 1) (hu : 0 ≤ us ∧ us < be) : ((sem tk tg L ln st f).1 = 4 → plRes at_ f us be L tk tg kd gd ln st us) ∧ ((sem tk tg L ln st f).1 ≠ 4 → plRes at_ f us be L tk tg kd gd ln st be) := by
  subst ha
  have e : ∀ c : Int → Int, outM (f + 1) tk tg kd gd L ln st f c = (sem tk tg L ln st f).1 := fun c => by
    unfold outM
    rw [sem_pre ok h0 h1 (K' := tk) (G' := tg) (fun j _ hj => ?_)]
    unfold mixK mixG
    rw [if_pos (by omega), if_pos (by omega)]
    exact ⟨rfl, rfl⟩
  have hc : ∀ c : Int → Int, costI c (f + 1) f = 0 := fun c => by
    unfold costI
    rw [show (f + 1 - (f + 1)).toNat = 0 by omega]
    rfl
  refine ⟨fun h => ⟨by omega, Or.inr ⟨fun _ => 0, fun _ => (by decide : (0 : Int) ≤ 0 ∧ (0 : Int) ≤ 4), (e _).trans h, by rw [hc]; omega⟩, fun c _ _ => by rw [hc]; omega⟩, fun h => ⟨by omega, Or.inl rfl, fun c _ q => absurd ((e c).symm.trans q) h⟩⟩
theorem plRes_fin {at_ f us be L : Int} {tk tg kd gd ln st : Int → Int} {y fe tr : Int} (h : plInv at_ f us be L tk tg kd gd ln st y fe tr) (hy : 5 ≤ y) : plRes at_ f us be L tk tg kd gd ln st fe := ⟨h.1, h.2.1, fun c hc ho => h.2.2.1 c hc (by have := hc at_; omega) ho⟩
theorem bit_or {tr x x' : Int} (h : 0 ≤ tr ∧ tr < 32 ∧ 0 ≤ x ∧ x ≤ 4 ∧ 0 ≤ x' ∧ x' ≤ 4) (hb : bit (orI tr (pow2 x)) x' = 1) : bit tr x' = 1 ∨ x' = x := by
  obtain ⟨a, rfl⟩ := Int.eq_ofNat_of_zero_le h.1
  obtain ⟨b, rfl⟩ := Int.eq_ofNat_of_zero_le h.2.2.1
  obtain ⟨d, rfl⟩ := Int.eq_ofNat_of_zero_le h.2.2.2.2.1
  have key : ∀ a : Nat, a < 32 → ∀ b : Nat, b < 5 → ∀ d : Nat, d < 5 → bit (orI (a : Int) (pow2 (b : Int))) (d : Int) = 1 → (bit (a : Int) (d : Int) = 1 ∨ d = b) := by decide +kernel
  rcases key a (by omega) b (by omega) d (by omega) hb with q | q
  · exact Or.inl q
  · exact Or.inr (by omega)
theorem or_32 {tr x : Int} (h : 0 ≤ tr ∧ tr < 32 ∧ 0 ≤ x ∧ x ≤ 4) : 0 ≤ orI tr (pow2 x) ∧ orI tr (pow2 x) < 32 := by
  obtain ⟨a, rfl⟩ := Int.eq_ofNat_of_zero_le h.1
  obtain ⟨b, rfl⟩ := Int.eq_ofNat_of_zero_le h.2.2.1
  have key : ∀ a : Nat, a < 32 → ∀ b : Nat, b < 5 → 0 ≤ orI (a : Int) (pow2 (b : Int)) ∧ orI (a : Int) (pow2 (b : Int)) < 32 := by decide +kernel
  exact key a (by omega) b (by omega)
theorem bit_pow {x x' : Int} (h : 0 ≤ x ∧ x ≤ 4 ∧ 0 ≤ x' ∧ x' ≤ 4) (hb : bit (pow2 x) x' = 1) : x' = x := by
  obtain ⟨b, rfl⟩ := Int.eq_ofNat_of_zero_le h.1
  obtain ⟨d, rfl⟩ := Int.eq_ofNat_of_zero_le h.2.2.1
  have key : ∀ b : Nat, b < 5 → ∀ d : Nat, d < 5 → bit (pow2 (b : Int)) (d : Int) = 1 → d = b := by decide +kernel
  have := key b (by omega) d (by omega) hb
  omega
theorem pow2_32 {x : Int} (h : 0 ≤ x ∧ x ≤ 4) : 1 ≤ pow2 x ∧ pow2 x < 32 :=
  all_lt (N := 5) (P := fun k => 1 ≤ pow2 k ∧ pow2 k < 32) (fun m hm => (by decide +kernel : ∀ m : Nat, m < 5 → 1 ≤ pow2 (m : Int) ∧ pow2 (m : Int) < 32) m hm) h.1 (by omega)
theorem plInv_init {cnt at_ f us be L : Int} {tk tg kd gd ln st : Int → Int} (ok : okP cnt ln st) (ha : 0 ≤ at_) (haf : at_ ≤ f) (hf : f < cnt) {z : Int} (h : plRes (at_ + 1) f us be L (updI tk at_ (kd at_)) (updI tg at_ (gd at_)) kd gd ln st z) {x : Int} (hx : oAt at_ tk tg kd gd L ln st 0 = x) (hx2 : 0 ≤ x ∧ x ≤ 4) : plInv at_ f us be L tk tg kd gd ln st 1 z (pow2 x) := by
  have e : ∀ c : Int → Int, c at_ = 0 → outM at_ tk tg kd gd L ln st f c = outM (at_ + 1) (updI tk at_ (kd at_)) (updI tg at_ (gd at_)) kd gd L ln st f c := fun c hc => by
    rw [outM_s (at_ := at_), hc]
    rfl
  have ec : ∀ c : Int → Int, c at_ = 0 → costI c at_ f = costI c (at_ + 1) f := fun c hc => by rw [costI_s c haf, if_pos hc]; omega
  have hp := pow2_32 hx2
  refine ⟨h.1, ?_, fun c hc hy ho => ?_, by omega, fun x' h0 h1 hb => ⟨0, Int.le_refl 0, by decide, ?_⟩⟩
  · rcases h.2.1 with q | ⟨c, hc, ho, hz⟩
    · exact Or.inl q
    · have hcu : (updI c at_ 0) at_ = 0 := updI_s _ _ _
      refine Or.inr ⟨updI c at_ 0, fun g => ?_, ?_, ?_⟩
      · unfold updI; split
        · decide
        · exact hc g
      · rw [e _ hcu, ← ho]
        unfold outM
        rw [mix_eq (fun _ _ => rfl) (fun j hj => updI_n (by omega)), mixG_eq (fun _ _ => rfl) (fun j hj => updI_n (by omega))]
      · rw [ec _ hcu, hz]
        unfold costI
        rw [costN_congr _ _ (fun j hj => updI_n (show j ≠ at_ by omega))]
  · have hc0 : c at_ = 0 := by have := hc at_; omega
    rw [ec c hc0]
    exact h.2.2 c hc ((e c hc0).symm.trans ho)
  · rw [hx]; exact (bit_pow (by omega) hb).symm
theorem plInv_skip {cnt at_ f us be L : Int} {tk tg kd gd ln st : Int → Int} (ok : okP cnt ln st) (ha : 0 ≤ at_) (haf : at_ ≤ f) (hf : f < cnt) {y fe tr : Int} (hy : 1 ≤ y) (h : plInv at_ f us be L tk tg kd gd ln st y fe tr) {x : Int} (hx : oAt at_ tk tg kd gd L ln st y = x) (hx2 : 0 ≤ x ∧ x ≤ 4) (hb : bit tr x = 1) : plInv at_ f us be L tk tg kd gd ln st (y + 1) fe tr := by
  obtain ⟨h1, h2, h3, h4, h5⟩ := h
  refine ⟨h1, h2, fun c hc hcy ho => ?_, h4, fun x' a b d => ?_⟩
  · by_cases e : c at_ < y
    · exact h3 c hc e ho
    · have ey : c at_ = y := by omega
      obtain ⟨y', q1, q2, q3⟩ := h5 x hx2.1 hx2.2 hb
      have hs := outM_skip (c := c) ok ha haf hf (tk := tk) (tg := tg) (kd := kd) (gd := gd) (L := L) (y := y') (by rw [ey, hx, q3])
      have hcu : PCh (updI c at_ y') := fun g => by
        unfold updI
        split
        · have := hc at_; omega
        · exact hc g
      have := h3 (updI c at_ y') hcu (by rw [updI_s]; exact q2) (hs.symm.trans ho)
      have e1 := costI_s c haf
      have e2 := costI_s (updI c at_ y') haf
      rw [updI_s] at e2
      have e3 : costI (updI c at_ y') (at_ + 1) f = costI c (at_ + 1) f := by unfold costI; exact costN_congr _ _ (fun j hj => updI_n (by omega))
      rw [if_neg (by omega)] at e1
      have e4 : (if y' = 0 then (0 : Int) else 1) ≤ 1 := by split <;> omega
      omega
  · obtain ⟨y', q1, q2, q3⟩ := h5 x' a b d
    exact ⟨y', q1, by omega, q3⟩
theorem plInv_step {cnt at_ f us be L : Int} {tk tg kd gd ln st : Int → Int} (ok : okP cnt ln st) (ha : 0 ≤ at_) (haf : at_ ≤ f) (hf : f < cnt) {y fe tr : Int} (hy : 1 ≤ y ∧ y ≤ 4) (h : plInv at_ f us be L tk tg kd gd ln st y fe tr) {x : Int} (hx : oAt at_ tk tg kd gd L ln st y = x) (hx2 : 0 ≤ x ∧ x ≤ 4) {z : Int} (hz : plRes (at_ + 1) f (us + 1) fe L (updI tk at_ 2) (updI tg at_ (y - 1)) kd gd ln st z) : plInv at_ f us be L tk tg kd gd ln st (y + 1) z (orI tr (pow2 x)) := by
  obtain ⟨h1, h2, h3, h4, h5⟩ := h
  have e : ∀ c : Int → Int, c at_ = y → outM at_ tk tg kd gd L ln st f c = outM (at_ + 1) (updI tk at_ 2) (updI tg at_ (y - 1)) kd gd L ln st f c := fun c hc => by
    rw [outM_s (at_ := at_), hc]
    unfold chK chG
    rw [if_neg (by omega), if_neg (by omega)]
  have ec : ∀ c : Int → Int, c at_ = y → us + costI c at_ f = us + 1 + costI c (at_ + 1) f := fun c hc => by rw [costI_s c haf, if_neg (by omega)]; omega
  refine ⟨⟨hz.1.1, by have := hz.1.2; omega⟩, ?_, fun c hc hcy ho => ?_, or_32 (by omega), fun x' a b d => ?_⟩
  · rcases hz.2.1 with q | ⟨c, hc, ho, hq⟩
    · rw [q]; exact h2
    · have hcu : (updI c at_ y) at_ = y := updI_s _ _ _
      refine Or.inr ⟨updI c at_ y, fun g => ?_, ?_, ?_⟩
      · unfold updI; split
        · omega
        · exact hc g
      · rw [e _ hcu, ← ho]
        unfold outM
        rw [mix_eq (fun _ _ => rfl) (fun j hj => updI_n (by omega)), mixG_eq (fun _ _ => rfl) (fun j hj => updI_n (by omega))]
      · rw [ec _ hcu, hq]
        unfold costI
        rw [costN_congr _ _ (fun j hj => updI_n (show j ≠ at_ by omega))]
  · by_cases e1 : c at_ < y
    · have := h3 c hc e1 ho
      have := hz.1.2
      omega
    · have ey : c at_ = y := by omega
      rw [ec c ey]
      exact hz.2.2 c hc ((e c ey).symm.trans ho)
  · rcases bit_or (by omega) d with q | q
    · obtain ⟨y', q1, q2, q3⟩ := h5 x' a b q
      exact ⟨y', q1, by omega, q3⟩
    · exact ⟨y, by omega, by omega, by rw [hx, q]⟩
