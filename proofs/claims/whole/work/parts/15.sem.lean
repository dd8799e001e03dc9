/-! ===== what a run comes to: what comes out (4: nothing), the acts performed, the finishing parts, the path ===== -/
abbrev Rc : Type := Int × List Int × Int × List Int
def stepR (L : Int) (tb : Int → Rc) (v : Int) : Rc := if 4 ≤ v then tb (v - 4) else if bit L v = 1 then (v, [v], 0, []) else (4, [], 0, [])
/-- a step's result s, and t, what the steps behind it come to -/
def aftR (k g : Int) (s t : Rc) : Rc := if s.1 ≠ 4 ∧ ¬ (k ≠ 0 ∧ g = s.1) then (s.1, s.2.1, s.2.2.1 + 1, s.2.2.2) else if s.1 ≠ 4 ∧ k = 1 then (4, s.2.1, s.2.2.1 + 1, []) else (t.1, s.2.1 ++ t.2.1, s.2.2.1 + t.2.2.1, t.2.2.2)
def goR (k g L : Int) (sf : Int → Int) (tb : Int → Rc) : Nat → Int → Rc
  | 0, _ => (4, [], 1, [])
  | n + 1, i => aftR k g (stepR L tb (sf i)) (goR k g L sf tb n (i + 1))
def mkR (f : Int) (r : Rc) : Rc := (r.1, r.2.1, r.2.2.1, if r.1 = 4 then [] else f :: r.2.2.2)
def semT (K G : Int → Int) (L : Int) (ln st : Int → Int) : Nat → Int → Rc
  | 0, _ => (4, [], 0, [])
  | n + 1, j => if j = (n : Int) then mkR n (goR (K n) (G n) L (fun i => st ((n : Int) * 4 + i)) (semT K G L ln st n) (ln n).toNat 0) else semT K G L ln st n j
def sem (K G : Int → Int) (L : Int) (ln st : Int → Int) (f : Int) : Rc := semT K G L ln st (f.toNat + 1) f
def okP (cnt : Int) (ln st : Int → Int) : Prop := (0 ≤ cnt ∧ cnt ≤ 5) ∧ (∀ j : Int, 0 ≤ j → j < cnt → 0 ≤ ln j ∧ ln j ≤ 4) ∧ ∀ j : Int, 0 ≤ j → j < cnt → ∀ i : Int, 0 ≤ i → i < ln j → 0 ≤ st (j * 4 + i) ∧ st (j * 4 + i) < 4 + j
def okK (cnt : Int) (K G : Int → Int) (L : Int) : Prop := (∀ j : Int, 0 ≤ j → j < cnt → (0 ≤ K j ∧ K j ≤ 2) ∧ 0 ≤ G j ∧ G j ≤ 3) ∧ 0 ≤ L ∧ L < 16
theorem goR_congr {k g L : Int} {sf sf' : Int → Int} {tb tb' : Int → Rc} : ∀ (n : Nat) (i : Int), (∀ j : Int, i ≤ j → j < i + n → stepR L tb (sf j) = stepR L tb' (sf' j)) → goR k g L sf tb n i = goR k g L sf' tb' n i
  | 0, _, _ => rfl
  | n + 1, i, h => by
    have e1 := h i (Int.le_refl i) (by omega)
    have e2 := goR_congr n (i + 1) (fun j h1 h2 => h j (by omega) (by omega)) (k := k) (g := g)
    show aftR k g _ _ = aftR k g _ _
    rw [e1, e2]
theorem semT_lt (K G : Int → Int) (L : Int) (ln st : Int → Int) : ∀ (n : Nat) (j : Int), 0 ≤ j → j < n → semT K G L ln st n j = sem K G L ln st j
  | 0, j, h0, h1 => absurd h1 (by omega)
  | n + 1, j, h0, h1 => by
    by_cases e : j = (n : Int)
    · subst e; rfl
    · show (if j = (n : Int) then _ else semT K G L ln st n j) = _
      rw [if_neg e]
      exact semT_lt K G L ln st n j h0 (by omega)
theorem sem_un {K G : Int → Int} {L cnt : Int} {ln st : Int → Int} (ok : okP cnt ln st) {f : Int} (h0 : 0 ≤ f) (h1 : f < cnt) : sem K G L ln st f = mkR f (goR (K f) (G f) L (fun i => st (f * 4 + i)) (sem K G L ln st) (ln f).toNat 0) := by
  obtain ⟨n, rfl⟩ := Int.eq_ofNat_of_zero_le h0
  show semT K G L ln st ((n : Int).toNat + 1) (n : Int) = _
  rw [Int.toNat_natCast]
  show (if (n : Int) = (n : Int) then _ else _) = _
  rw [if_pos rfl]
  congr 1
  refine goR_congr _ _ (fun j hj1 hj2 => ?_)
  have hv := ok.2.2 n h0 h1 j hj1 (by have := ok.2.1 n h0 h1; omega)
  show stepR L _ (st ((n : Int) * 4 + j)) = stepR L _ (st ((n : Int) * 4 + j))
  unfold stepR
  by_cases h4 : 4 ≤ st ((n : Int) * 4 + j)
  · rw [if_pos h4, if_pos h4]
    exact semT_lt K G L ln st n _ (by omega) (by omega)
  · rw [if_neg h4, if_neg h4]
theorem sem_congr {K G K' G' : Int → Int} {L cnt : Int} {ln st ln' st' : Int → Int} (ok : okP cnt ln st) (ok' : okP cnt ln' st') (hk : ∀ j : Int, 0 ≤ j → j < cnt → K j = K' j ∧ G j = G' j ∧ ln j = ln' j) (hs : ∀ j : Int, 0 ≤ j → j < cnt → ∀ i : Int, 0 ≤ i → i < ln j → st (j * 4 + i) = st' (j * 4 + i)) : ∀ f : Int, 0 ≤ f → f < cnt → sem K G L ln st f = sem K' G' L ln' st' f := by
  have main : ∀ (n : Nat) (f : Int), 0 ≤ f → f < cnt → f < n → sem K G L ln st f = sem K' G' L ln' st' f := by
    intro n
    induction n with
    | zero => intro f h0 h1 h2; exact absurd h2 (by omega)
    | succ n ih =>
      intro f h0 h1 h2
      rw [sem_un ok h0 h1, sem_un ok' h0 h1, (hk f h0 h1).1, (hk f h0 h1).2.1, ← (hk f h0 h1).2.2]
      congr 1
      refine goR_congr _ _ (fun j hj1 hj2 => ?_)
      have hl := ok.2.1 f h0 h1
      have hv := ok.2.2 f h0 h1 j hj1 (by omega)
      have e := hs f h0 h1 j hj1 (by omega)
      show stepR L _ (st (f * 4 + j)) = stepR L _ (st' (f * 4 + j))
      rw [← e]
      unfold stepR
      by_cases h4 : 4 ≤ st (f * 4 + j)
      · rw [if_pos h4, if_pos h4]
        exact ih _ (by omega) (by omega) (by omega)
      · rw [if_neg h4, if_neg h4]
  intro f h0 h1
  exact main (f.toNat + 1) f h0 h1 (by omega)
/-- what holds of every result -/
def rOk (B : Nat) (r : Rc) : Prop := (0 ≤ r.1 ∧ r.1 ≤ 4) ∧ (∀ x ∈ r.2.1, 0 ≤ x ∧ x < 4) ∧ r.2.1.length ≤ B
theorem r44 : (0 : Int) ≤ 4 ∧ (4 : Int) ≤ 4 := by decide
theorem goR_ok {k g L : Int} {sf : Int → Int} {tb : Int → Rc} {B : Nat} : ∀ (n : Nat) (i : Int), (∀ j : Int, i ≤ j → j < i + n → rOk B (stepR L tb (sf j))) → rOk (n * B) (goR k g L sf tb n i)
  | 0, _, _ => ⟨r44, fun x hx => (by cases hx), Nat.zero_le _⟩
  | n + 1, i, h => by
    have e1 := h i (Int.le_refl i) (by omega)
    have e2 := goR_ok n (i + 1) (fun j h1 h2 => h j (by omega) (by omega)) (k := k) (g := g)
    have hB : B ≤ (n + 1) * B := Nat.le_mul_of_pos_left B (by omega)
    show rOk ((n + 1) * B) (aftR k g _ _)
    unfold aftR
    by_cases c1 : (stepR L tb (sf i)).1 ≠ 4 ∧ ¬ (k ≠ 0 ∧ g = (stepR L tb (sf i)).1)
    · rw [if_pos c1]
      exact ⟨e1.1, e1.2.1, Nat.le_trans e1.2.2 hB⟩
    · rw [if_neg c1]
      by_cases c2 : (stepR L tb (sf i)).1 ≠ 4 ∧ k = 1
      · rw [if_pos c2]
        exact ⟨r44, e1.2.1, Nat.le_trans e1.2.2 hB⟩
      · rw [if_neg c2]
        refine ⟨e2.1, fun x hx => ?_, ?_⟩
        · rcases List.mem_append.mp hx with h1 | h1
          · exact e1.2.1 x h1
          · exact e2.2.1 x h1
        · show ((stepR L tb (sf i)).2.1 ++ (goR k g L sf tb n (i + 1)).2.1).length ≤ _
          rw [List.length_append, Nat.succ_mul]
          have := e1.2.2; have := e2.2.2; omega
theorem pow4 {a b : Nat} (h : a ≤ b) : 4 ^ a ≤ 4 ^ b := Nat.pow_le_pow_right (by decide) h
theorem sem_ok {K G : Int → Int} {L cnt : Int} {ln st : Int → Int} (ok : okP cnt ln st) : ∀ f : Int, 0 ≤ f → f < cnt → rOk (4 ^ (f.toNat + 1)) (sem K G L ln st f) := by
  have main : ∀ (n : Nat) (f : Int), 0 ≤ f → f < cnt → f < n → rOk (4 ^ (f.toNat + 1)) (sem K G L ln st f) := by
    intro n
    induction n with
    | zero => intro f h0 h1 h2; exact absurd h2 (by omega)
    | succ n ih =>
      intro f h0 h1 h2
      rw [sem_un ok h0 h1]
      have hl := ok.2.1 f h0 h1
      have hg := goR_ok (k := K f) (g := G f) (L := L) (sf := fun i => st (f * 4 + i)) (tb := sem K G L ln st) (B := 4 ^ f.toNat) (ln f).toNat 0 (fun j hj1 hj2 => by
        have hv := ok.2.2 f h0 h1 j hj1 (by omega)
        show rOk _ (stepR L _ (st (f * 4 + j)))
        unfold stepR
        by_cases h4 : 4 ≤ st (f * 4 + j)
        · rw [if_pos h4]
          have q := ih (st (f * 4 + j) - 4) (by omega) (by omega) (by omega)
          exact ⟨q.1, q.2.1, Nat.le_trans q.2.2 (pow4 (by omega))⟩
        · rw [if_neg h4]
          have h1 : 1 ≤ 4 ^ f.toNat := Nat.one_le_pow _ _ (by decide)
          by_cases hb : bit L (st (f * 4 + j)) = 1
          · rw [if_pos hb]
            refine ⟨⟨by show 0 ≤ st (f * 4 + j); omega, by show st (f * 4 + j) ≤ 4; omega⟩, fun x hx => ?_, h1⟩
            rw [List.mem_singleton.mp hx]; omega
          · rw [if_neg hb]
            exact ⟨r44, fun x hx => (by cases hx), Nat.zero_le _⟩)
      refine ⟨hg.1, hg.2.1, Nat.le_trans hg.2.2 ?_⟩
      rw [Nat.pow_succ, Nat.mul_comm]
      exact Nat.mul_le_mul_left _ (by omega)
  intro f h0 h1
  exact main (f.toNat + 1) f h0 h1 (by omega)
theorem sem_len {K G : Int → Int} {L cnt : Int} {ln st : Int → Int} (ok : okP cnt ln st) {f : Int} (h0 : 0 ≤ f) (h1 : f < cnt) : (sem K G L ln st f).2.1.length ≤ 1024 := by
  have h := (sem_ok (K := K) (G := G) (L := L) ok f h0 h1).2.2
  have hc := ok.1
  exact Nat.le_trans h (Nat.le_trans (pow4 (show f.toNat + 1 ≤ 5 by omega)) (by decide))
theorem sem_path {K G : Int → Int} {L cnt : Int} {ln st : Int → Int} (ok : okP cnt ln st) {f : Int} (h0 : 0 ≤ f) (h1 : f < cnt) : ((sem K G L ln st f).1 = 4 → (sem K G L ln st f).2.2.2 = []) ∧ ((sem K G L ln st f).1 ≠ 4 → ∃ q, (sem K G L ln st f).2.2.2 = f :: q) := by
  rw [sem_un ok h0 h1]
  unfold mkR
  refine ⟨fun h => if_pos h, fun h => ⟨_, if_neg h⟩⟩
/-- the one from which it came; -1: its own step -/
def srcR (r : Rc) : Int := match r.2.2.2 with
  | [] => -1
  | [_] => -1
  | _ :: g :: _ => g
/-- the class's tables of what runs come to -/
def Tab (n : Int) (S : Int → Rc) (to ta te ts : Int → Int) : Prop := ∀ g : Int, 0 ≤ g → g < n → to g = (S g).1 ∧ ta g = ((S g).2.1.length : Int) ∧ te g = (S g).2.2.1 ∧ ts g = srcR (S g)
theorem updI_u (g : Int → Int) (i x y : Int) : updI (updI g i x) i y = updI g i y := by
  funext j; unfold updI
  by_cases h : j = i
  · rw [if_pos h, if_pos h]
  · rw [if_neg h, if_neg h, if_neg h]
theorem updI_self (g : Int → Int) (i : Int) : updI g i (g i) = g := by
  funext j; unfold updI
  by_cases h : j = i
  · rw [if_pos h, h]
  · rw [if_neg h]
theorem updI_of {g g1 : Int → Int} {i : Int} (h : ∀ j, j ≠ i → g1 j = g j) : g1 = updI g i (g1 i) := by
  funext j; unfold updI
  by_cases e : j = i
  · rw [if_pos e, e]
  · rw [if_neg e, h j e]
