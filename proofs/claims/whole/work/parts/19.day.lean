/-! ===== days ===== -/
def fw (b : Int) : Int := if b = 5 then 16 else if b < 5 then 1 else 4
def tld (a b : Int) : Bool := decide (0 ≤ b ∧ b ≤ 10 ∧ 0 ≤ a ∧ a < fw b)
def tldB (cd : Int → Int) : Nat → Bool
  | 0 => true
  | n + 1 => tldB cd n && tld (cd (2 * (n : Int))) (cd (2 * (n : Int) + 1))
theorem tldB_s (cd : Int → Int) {i : Int} (h : 0 ≤ i) : tldB cd (i + 1).toNat = (tldB cd i.toNat && tld (cd (2 * i)) (cd (2 * i + 1))) := by
  obtain ⟨k, rfl⟩ := Int.eq_ofNat_of_zero_le h
  rfl
theorem tldB_no {cd : Int → Int} {i : Int} (h : 0 ≤ i) (hn : tld (cd (2 * i)) (cd (2 * i + 1)) = false) : ∀ n : Nat, i < n → tldB cd n = false
  | 0, h1 => absurd h1 (by omega)
  | n + 1, h1 => by
    show (tldB cd n && tld (cd (2 * (n : Int))) (cd (2 * (n : Int) + 1))) = false
    by_cases e : i = (n : Int)
    · rw [← e, hn, Bool.and_false]
    · rw [tldB_no h hn n (by omega), Bool.false_and]
theorem tldB_at {cd : Int → Int} : ∀ n : Nat, tldB cd n = true → ∀ i : Int, 0 ≤ i → i < n → tld (cd (2 * i)) (cd (2 * i + 1)) = true
  | 0, _, i, h0, h1 => absurd h1 (by omega)
  | n + 1, h, i, h0, h1 => by
    have h2 : (tldB cd n && tld (cd (2 * (n : Int))) (cd (2 * (n : Int) + 1))) = true := h
    rw [Bool.and_eq_true] at h2
    by_cases e : i = (n : Int)
    · rw [e]; exact h2.2
    · exact tldB_at n h2.1 i h0 (by omega)
theorem tldB_congr {cd cd' : Int → Int} : ∀ n : Nat, (∀ j : Int, 0 ≤ j → j < 2 * n → cd j = cd' j) → tldB cd n = tldB cd' n
  | 0, _ => rfl
  | n + 1, h => by
    show (tldB cd n && tld (cd (2 * (n : Int))) (cd (2 * (n : Int) + 1))) = (tldB cd' n && tld (cd' (2 * (n : Int))) (cd' (2 * (n : Int) + 1)))
    rw [tldB_congr n (fun j a b => h j a (by omega)), h _ (by omega) (by omega), h (2 * (n : Int) + 1) (by omega) (by omega)]
theorem tld_sp {a b : Int} (h : tld a b = true) : (0 ≤ b ∧ b ≤ 10) ∧ (b < 5 → a = 0) ∧ (b = 5 → 0 ≤ a ∧ a < 16) ∧ (5 < b → 0 ≤ a ∧ a < 4) := by
  unfold tld fw at h
  have h2 := of_decide_eq_true h
  refine ⟨by omega, fun q => ?_, fun q => ?_, fun q => ?_⟩
  · rw [if_neg (by omega), if_pos q] at h2; omega
  · rw [if_pos q] at h2; omega
  · rw [if_neg (by omega), if_neg (by omega)] at h2; omega
/-- first wrong (-9: none), live, guards, acts performed, finishing parts -/
abbrev DS : Type := Int × Int × (Int → Int) × Int × Int
def dOk (cnt : Int) (S : Int → Rc) (b : Int) : Prop := b = 5 ∨ (b < 5 ∧ b < cnt ∧ (S b).1 = 4) ∨ (5 < b ∧ b - 6 < cnt)
def dOkB (cnt : Int) (S : Int → Rc) (b : Int) : Bool := decide (b = 5 ∨ (b < 5 ∧ b < cnt ∧ (S b).1 = 4) ∨ (5 < b ∧ b - 6 < cnt))
def dL (L a b : Int) : Int := if b = 5 then a else L
def dG (cnt : Int) (G : Int → Int) (a b : Int) : Int → Int := if 5 < b ∧ b - 6 < cnt then updI G (b - 6) a else G
def dA (cnt : Int) (S : Int → Rc) (A b : Int) : Int := if b < 5 ∧ b < cnt then A + ((S b).2.1.length : Int) else A
def dE (cnt : Int) (S : Int → Rc) (E b : Int) : Int := if b < 5 ∧ b < cnt then E + (S b).2.2.1 else E
def dRun (K ln st : Int → Int) (cnt : Int) (cd : Int → Int) : Nat → Int → Int → (Int → Int) → Int → Int → DS
  | 0, _, L, G, A, E => (-9, L, G, A, E)
  | n + 1, x, L, G, A, E => if dOkB cnt (sem K G L ln st) (cd (2 * x + 1)) = true then dRun K ln st cnt cd n (x + 1) (dL L (cd (2 * x)) (cd (2 * x + 1))) (dG cnt G (cd (2 * x)) (cd (2 * x + 1))) (dA cnt (sem K G L ln st) A (cd (2 * x + 1))) (dE cnt (sem K G L ln st) E (cd (2 * x + 1))) else (x, L, G, A, E)
theorem dRun_y {K ln st : Int → Int} {cnt : Int} {cd : Int → Int} {n : Nat} {x L : Int} {G : Int → Int} {A E : Int} (h : dOkB cnt (sem K G L ln st) (cd (2 * x + 1)) = true) : dRun K ln st cnt cd (n + 1) x L G A E = dRun K ln st cnt cd n (x + 1) (dL L (cd (2 * x)) (cd (2 * x + 1))) (dG cnt G (cd (2 * x)) (cd (2 * x + 1))) (dA cnt (sem K G L ln st) A (cd (2 * x + 1))) (dE cnt (sem K G L ln st) E (cd (2 * x + 1))) := if_pos h
theorem dRun_n {K ln st : Int → Int} {cnt : Int} {cd : Int → Int} {n : Nat} {x L : Int} {G : Int → Int} {A E : Int} (h : ¬ dOkB cnt (sem K G L ln st) (cd (2 * x + 1)) = true) : dRun K ln st cnt cd (n + 1) x L G A E = (x, L, G, A, E) := if_neg h
def dAns (cnt : Int) (K ln st : Int → Int) (r : DS) (w : Int) : Int := if w = 1 then r.1 else if r.1 ≠ -9 then -100 - r.1 else if w = 0 then r.2.2.2.1 else if w = 2 then r.2.2.2.2 else if w = 3 then r.2.1 else if w = 4 then orAll (rowS K r.2.2.1 ln st) cnt.toNat else if 0 ≤ w - 10 ∧ w - 10 < cnt then r.2.2.1 (w - 10) else -9
theorem dG_ok {cnt L a b : Int} {K G : Int → Int} (h : okK cnt K G L) (ht : tld a b = true) : okK cnt K (dG cnt G a b) (dL L a b) := by
  have hs := tld_sp ht
  unfold dG dL
  by_cases c5 : b = 5
  · rw [if_neg (by omega), if_pos c5]
    exact ⟨h.1, hs.2.2.1 c5⟩
  · rw [if_neg c5]
    by_cases c6 : 5 < b ∧ b - 6 < cnt
    · rw [if_pos c6]
      refine ⟨fun j h0 h1 => ⟨(h.1 j h0 h1).1, ?_⟩, h.2⟩
      by_cases e : j = b - 6
      · rw [e, updI_s]; have := hs.2.2.2 c6.1; omega
      · rw [updI_n e]; exact (h.1 j h0 h1).2
    · rw [if_neg c6]; exact h
theorem dRun_rng {K ln st : Int → Int} {cnt : Int} {cd : Int → Int} : ∀ (n : Nat) (x L : Int) (G : Int → Int) (A E : Int), 0 ≤ x → (dRun K ln st cnt cd n x L G A E).1 = -9 ∨ (x ≤ (dRun K ln st cnt cd n x L G A E).1 ∧ (dRun K ln st cnt cd n x L G A E).1 < x + n)
  | 0, _, _, _, _, _, _ => Or.inl rfl
  | n + 1, x, L, G, A, E, h => by
    by_cases c : dOkB cnt (sem K G L ln st) (cd (2 * x + 1)) = true
    · rw [dRun_y c]
      rcases dRun_rng n (x + 1) (dL L (cd (2 * x)) (cd (2 * x + 1))) (dG cnt G (cd (2 * x)) (cd (2 * x + 1))) (dA cnt (sem K G L ln st) A (cd (2 * x + 1))) (dE cnt (sem K G L ln st) E (cd (2 * x + 1))) (by omega) (K := K) (ln := ln) (st := st) (cnt := cnt) (cd := cd) with q | q
      · exact Or.inl q
      · exact Or.inr ⟨by omega, by omega⟩
    · rw [dRun_n c]
      exact Or.inr ⟨Int.le_refl x, by show x < x + ((n + 1 : Nat) : Int); omega⟩
/-- the same day over rows that agree where they count -/
def AgD (cnt : Int) (r r' : DS) : Prop := r.1 = r'.1 ∧ r.2.1 = r'.2.1 ∧ (∀ j : Int, 0 ≤ j → j < cnt → r.2.2.1 j = r'.2.2.1 j) ∧ r.2.2.2.1 = r'.2.2.2.1 ∧ r.2.2.2.2 = r'.2.2.2.2
theorem dRun_congr {K ln st K' ln' st' : Int → Int} {cnt : Int} {cd cd' : Int → Int} (ok : okP cnt ln st) (ok' : okP cnt ln' st') (hk : ∀ j : Int, 0 ≤ j → j < cnt → K j = K' j ∧ ln j = ln' j) (hs : ∀ j : Int, 0 ≤ j → j < cnt → ∀ i : Int, 0 ≤ i → i < ln j → st (j * 4 + i) = st' (j * 4 + i)) : ∀ (n : Nat) (x L : Int) (G G' : Int → Int) (A E : Int), 0 ≤ x → (∀ j : Int, 2 * x ≤ j → j < 2 * (x + n) → cd j = cd' j) → (∀ j : Int, x ≤ j → j < x + n → 0 ≤ cd (2 * j + 1)) → (∀ j : Int, 0 ≤ j → j < cnt → G j = G' j) → AgD cnt (dRun K ln st cnt cd n x L G A E) (dRun K' ln' st' cnt cd' n x L G' A E)
  | 0, _, _, _, _, _, _, _, _, _, hg => ⟨rfl, rfl, hg, rfl, rfl⟩
  | n + 1, x, L, G, G', A, E, hx, hc, hp, hg => by
    have e1 := hc (2 * x) (by omega) (by omega)
    have e2 := hc (2 * x + 1) (by omega) (by omega)
    have h0 := hp x (by omega) (by omega)
    have es : ∀ f : Int, 0 ≤ f → f < cnt → sem K G L ln st f = sem K' G' L ln' st' f := sem_congr ok ok' (fun j a b => ⟨(hk j a b).1, hg j a b, (hk j a b).2⟩) hs
    have eo : dOkB cnt (sem K G L ln st) (cd (2 * x + 1)) = dOkB cnt (sem K' G' L ln' st') (cd (2 * x + 1)) := by
      unfold dOkB
      by_cases c : cd (2 * x + 1) < cnt
      · rw [es _ h0 c]
      · congr 1
        exact propext ⟨fun q => by rcases q with q | q | q; exact Or.inl q; exact absurd q.2.1 c; exact Or.inr (Or.inr q), fun q => by rcases q with q | q | q; exact Or.inl q; exact absurd q.2.1 c; exact Or.inr (Or.inr q)⟩
    by_cases c : dOkB cnt (sem K G L ln st) (cd (2 * x + 1)) = true
    · rw [dRun_y c, dRun_y (by rw [← e2, ← eo]; exact c), ← e1, ← e2]
      have ea : dA cnt (sem K G L ln st) A (cd (2 * x + 1)) = dA cnt (sem K' G' L ln' st') A (cd (2 * x + 1)) := by
        unfold dA
        by_cases c2 : cd (2 * x + 1) < 5 ∧ cd (2 * x + 1) < cnt
        · rw [if_pos c2, if_pos c2, es _ h0 c2.2]
        · rw [if_neg c2, if_neg c2]
      have ee : dE cnt (sem K G L ln st) E (cd (2 * x + 1)) = dE cnt (sem K' G' L ln' st') E (cd (2 * x + 1)) := by
        unfold dE
        by_cases c2 : cd (2 * x + 1) < 5 ∧ cd (2 * x + 1) < cnt
        · rw [if_pos c2, if_pos c2, es _ h0 c2.2]
        · rw [if_neg c2, if_neg c2]
      rw [ea, ee]
      refine dRun_congr ok ok' hk hs n (x + 1) _ _ _ _ _ (by omega) (fun j a b => hc j (by omega) (by omega)) (fun j a b => hp j (by omega) (by omega)) (fun j a b => ?_)
      unfold dG
      by_cases c2 : 5 < cd (2 * x + 1) ∧ cd (2 * x + 1) - 6 < cnt
      · rw [if_pos c2, if_pos c2]
        by_cases e : j = cd (2 * x + 1) - 6
        · rw [e, updI_s, updI_s]
        · rw [updI_n e, updI_n e]; exact hg j a b
      · rw [if_neg c2, if_neg c2]; exact hg j a b
    · rw [dRun_n c, dRun_n (by rw [← e2, ← eo]; exact c)]
      exact ⟨rfl, rfl, hg, rfl, rfl⟩
theorem dAns_congr {K ln st K' ln' st' : Int → Int} {cnt : Int} (ok : okP cnt ln st) (ok' : okP cnt ln' st') (hk : ∀ j : Int, 0 ≤ j → j < cnt → K j = K' j ∧ ln j = ln' j) (hs : ∀ j : Int, 0 ≤ j → j < cnt → ∀ i : Int, 0 ≤ i → i < ln j → st (j * 4 + i) = st' (j * 4 + i)) {r r' : DS} (h : AgD cnt r r') (w : Int) : dAns cnt K ln st r w = dAns cnt K' ln' st' r' w := by
  obtain ⟨h1, h2, h3, h4, h5⟩ := h
  unfold dAns
  rw [h1, h2, h4, h5]
  have hc := ok.1
  have er : orAll (rowS K r.2.2.1 ln st) cnt.toNat = orAll (rowS K' r'.2.2.1 ln' st') cnt.toNat := orAll_congr _ (fun j a b => rowS_congr ok ok' (fun j a b => ⟨(hk j a b).1, h3 j a b, (hk j a b).2⟩) hs j a (by omega))
  rw [er]
  by_cases c : 0 ≤ w - 10 ∧ w - 10 < cnt
  · rw [if_pos c, if_pos c, h3 _ c.1 c.2]
  · rw [if_neg c, if_neg c]
