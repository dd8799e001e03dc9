/-! ===== paths, acts one by one, rows, sets ===== -/
theorem goR_src {k g L : Int} {sf : Int → Int} {tb : Int → Rc} : ∀ (n : Nat) (i : Int), (goR k g L sf tb n i).1 ≠ 4 → ∃ j : Int, i ≤ j ∧ j < i + n ∧ (stepR L tb (sf j)).1 ≠ 4 ∧ (goR k g L sf tb n i).2.2.2 = (stepR L tb (sf j)).2.2.2
  | 0, _, h => absurd rfl h
  | n + 1, i, h => by
    have ih := goR_src n (i + 1) (k := k) (g := g) (L := L) (sf := sf) (tb := tb)
    change (aftR k g (stepR L tb (sf i)) (goR k g L sf tb n (i + 1))).1 ≠ 4 at h
    show ∃ j : Int, i ≤ j ∧ j < i + ((n + 1 : Nat) : Int) ∧ (stepR L tb (sf j)).1 ≠ 4 ∧ (aftR k g (stepR L tb (sf i)) (goR k g L sf tb n (i + 1))).2.2.2 = (stepR L tb (sf j)).2.2.2
    unfold aftR at h ⊢
    by_cases c1 : (stepR L tb (sf i)).1 ≠ 4 ∧ ¬ (k ≠ 0 ∧ g = (stepR L tb (sf i)).1)
    · rw [if_pos c1] at h ⊢
      exact ⟨i, Int.le_refl i, by omega, c1.1, rfl⟩
    · rw [if_neg c1] at h ⊢
      by_cases c2 : (stepR L tb (sf i)).1 ≠ 4 ∧ k = 1
      · rw [if_pos c2] at h
        exact absurd rfl h
      · rw [if_neg c2] at h ⊢
        obtain ⟨j, h1, h2, h3, h4⟩ := ih h
        exact ⟨j, by omega, by omega, h3, h4⟩
theorem path_src {K G : Int → Int} {L cnt : Int} {ln st : Int → Int} (ok : okP cnt ln st) {f : Int} (h0 : 0 ≤ f) (h1 : f < cnt) (ho : (sem K G L ln st f).1 ≠ 4) :
    (srcR (sem K G L ln st f) = -1 ∧ (sem K G L ln st f).2.2.2 = [f]) ∨ ((0 ≤ srcR (sem K G L ln st f) ∧ srcR (sem K G L ln st f) < f) ∧ (sem K G L ln st (srcR (sem K G L ln st f))).1 ≠ 4 ∧ (sem K G L ln st f).2.2.2 = f :: (sem K G L ln st (srcR (sem K G L ln st f))).2.2.2) := by
  have e := sem_un (K := K) (G := G) (L := L) ok h0 h1
  have ho2 := ho
  rw [e] at ho2
  obtain ⟨j, hj1, hj2, hj3, hj4⟩ := goR_src (ln f).toNat 0 ho2
  have hl := ok.2.1 f h0 h1
  have hv := ok.2.2 f h0 h1 j hj1 (by omega)
  have hp : (sem K G L ln st f).2.2.2 = f :: (stepR L (sem K G L ln st) (st (f * 4 + j))).2.2.2 := by
    rw [e]
    refine (if_neg ho2).trans ?_
    rw [hj4]
  by_cases h4 : 4 ≤ st (f * 4 + j)
  · have hs : stepR L (sem K G L ln st) (st (f * 4 + j)) = sem K G L ln st (st (f * 4 + j) - 4) := by unfold stepR; rw [if_pos h4]
    change (stepR L (sem K G L ln st) (st (f * 4 + j))).1 ≠ 4 at hj3
    rw [hs] at hp hj3
    obtain ⟨q, hq⟩ := (sem_path (K := K) (G := G) (L := L) ok (f := st (f * 4 + j) - 4) (by omega) (by omega)).2 hj3
    have hsr : srcR (sem K G L ln st f) = st (f * 4 + j) - 4 := by unfold srcR; rw [hp, hq]
    right
    rw [hsr]
    exact ⟨by omega, hj3, hp⟩
  · have hs : (stepR L (sem K G L ln st) (st (f * 4 + j))).2.2.2 = [] := by unfold stepR; rw [if_neg h4]; split <;> rfl
    rw [hs] at hp
    left
    exact ⟨by unfold srcR; rw [hp], hp⟩
theorem path_all {K G : Int → Int} {L cnt : Int} {ln st : Int → Int} (ok : okP cnt ln st) : ∀ f : Int, 0 ≤ f → f < cnt → (∀ x ∈ (sem K G L ln st f).2.2.2, 0 ≤ x ∧ x ≤ f) ∧ (((sem K G L ln st f).2.2.2.length : Nat) : Int) ≤ f + 1 := by
  have main : ∀ (n : Nat) (f : Int), 0 ≤ f → f < cnt → f < n → (∀ x ∈ (sem K G L ln st f).2.2.2, 0 ≤ x ∧ x ≤ f) ∧ (((sem K G L ln st f).2.2.2.length : Nat) : Int) ≤ f + 1 := by
    intro n
    induction n with
    | zero => intro f h0 h1 h2; exact absurd h2 (by omega)
    | succ n ih =>
      intro f h0 h1 h2
      by_cases ho : (sem K G L ln st f).1 = 4
      · rw [(sem_path ok h0 h1).1 ho]
        exact ⟨fun x hx => (by cases hx), by show (0 : Int) ≤ f + 1; omega⟩
      · rcases path_src ok h0 h1 ho with ⟨-, hp⟩ | ⟨hr, -, hp⟩
        · rw [hp]
          refine ⟨fun x hx => ?_, by show (1 : Int) ≤ f + 1; omega⟩
          rw [List.mem_singleton.mp hx]; omega
        · obtain ⟨q1, q2⟩ := ih (srcR (sem K G L ln st f)) hr.1 (by omega) (by omega)
          rw [hp]
          refine ⟨fun x hx => ?_, ?_⟩
          · rcases List.mem_cons.mp hx with e | e
            · omega
            · have := q1 x e; omega
          · rw [List.length_cons]; omega
  intro f h0 h1
  exact main (f.toNat + 1) f h0 h1 (by omega)
/-- lists one behind another -/
def flatF (A : Int → List Int) : Int → Nat → List Int
  | _, 0 => []
  | i, n + 1 => A i ++ flatF A (i + 1) n
theorem flatF_snoc (A : Int → List Int) : ∀ (n : Nat) (i : Int), flatF A i (n + 1) = flatF A i n ++ A (i + n)
  | 0, i => by show A i ++ [] = [] ++ A (i + 0); rw [List.append_nil, Int.add_zero]; rfl
  | n + 1, i => by
    show A i ++ flatF A (i + 1) (n + 1) = (A i ++ flatF A (i + 1) n) ++ _
    rw [flatF_snoc A n (i + 1), List.append_assoc, show i + 1 + (n : Int) = i + ((n + 1 : Nat) : Int) by omega]
theorem flatF_split (A : Int → List Int) {z : Nat} : ∀ (m : Nat) (i : Int), z < m → ∃ rest, flatF A i m = flatF A i z ++ (A (i + z) ++ rest)
  | 0, _, h => absurd h (Nat.not_lt_zero _)
  | m + 1, i, h => by
    by_cases e : z = m
    · subst e
      exact ⟨[], by rw [flatF_snoc, List.append_nil]⟩
    · obtain ⟨rest, hr⟩ := flatF_split A m i (by omega) (z := z)
      exact ⟨rest ++ A (i + m), by rw [flatF_snoc, hr]; simp only [List.append_assoc]⟩
theorem goR_acts {k g L : Int} {sf : Int → Int} {tb : Int → Rc} : ∀ (n : Nat) (i : Int), ∃ m : Nat, m ≤ n ∧ (goR k g L sf tb n i).2.1 = flatF (fun j => (stepR L tb (sf j)).2.1) i m
  | 0, _ => ⟨0, Nat.le_refl 0, rfl⟩
  | n + 1, i => by
    obtain ⟨m, h1, h2⟩ := goR_acts n (i + 1) (k := k) (g := g) (L := L) (sf := sf) (tb := tb)
    show ∃ m : Nat, m ≤ n + 1 ∧ (aftR k g (stepR L tb (sf i)) (goR k g L sf tb n (i + 1))).2.1 = _
    unfold aftR
    by_cases c1 : (stepR L tb (sf i)).1 ≠ 4 ∧ ¬ (k ≠ 0 ∧ g = (stepR L tb (sf i)).1)
    · rw [if_pos c1]
      exact ⟨1, by omega, (List.append_nil _).symm⟩
    · rw [if_neg c1]
      by_cases c2 : (stepR L tb (sf i)).1 ≠ 4 ∧ k = 1
      · rw [if_pos c2]
        exact ⟨1, by omega, (List.append_nil _).symm⟩
      · rw [if_neg c2]
        exact ⟨m + 1, by omega, by show _ ++ _ = _ ++ _; rw [h2]⟩
/-- the acts of a function's steps -/
def acA (L : Int) (S : Int → Rc) (st : Int → Int) (f : Int) : Int → List Int := fun j => (stepR L S (st (f * 4 + j))).2.1
def aheadI (L : Int) (S : Int → Rc) (st : Int → Int) (f n : Int) : Int := ((flatF (acA L S st f) 0 n.toNat).length : Int)
theorem ahead_s (L : Int) (S : Int → Rc) (st : Int → Int) (f : Int) {n : Int} (h : 0 ≤ n) : aheadI L S st f (n + 1) = aheadI L S st f n + ((stepR L S (st (f * 4 + n))).2.1.length : Int) := by
  unfold aheadI
  rw [show (n + 1).toNat = n.toNat + 1 by omega, flatF_snoc, List.length_append]
  show (_ : Int) = _ + ((acA L S st f n).length : Int)
  rw [show (0 : Int) + (n.toNat : Int) = n by omega]
  omega
/-- the step within whose acts the k-th falls -/
theorem act_sel {K G : Int → Int} {L cnt : Int} {ln st : Int → Int} (ok : okP cnt ln st) {f k z : Int} (h0 : 0 ≤ f) (h1 : f < cnt) (hk : 0 ≤ k) (hk2 : k < ((sem K G L ln st f).2.1.length : Int)) (hz0 : 0 ≤ z)
    (hz1 : ∀ y : Int, 0 ≤ y → y < z → aheadI L (sem K G L ln st) st f (if y + 1 < ln f then y + 1 else ln f) ≤ k) (hz2 : 4 ≤ z ∨ k < aheadI L (sem K G L ln st) st f (if z + 1 < ln f then z + 1 else ln f)) :
    z < ln f ∧ aheadI L (sem K G L ln st) st f z ≤ k ∧ k < aheadI L (sem K G L ln st) st f (z + 1) ∧ (sem K G L ln st f).2.1.getD k.toNat (-9) = (stepR L (sem K G L ln st) (st (f * 4 + z))).2.1.getD (k - aheadI L (sem K G L ln st) st f z).toNat (-9) := by
  have hl := ok.2.1 f h0 h1
  have e := sem_un (K := K) (G := G) (L := L) ok h0 h1
  obtain ⟨m, hm, ha⟩ := goR_acts (k := K f) (g := G f) (L := L) (sf := fun i => st (f * 4 + i)) (tb := sem K G L ln st) (ln f).toNat 0
  have hacts : (sem K G L ln st f).2.1 = flatF (acA L (sem K G L ln st) st f) 0 m := by rw [e]; exact ha
  have hkm : k < aheadI L (sem K G L ln st) st f (m : Int) := by unfold aheadI; rw [Int.toNat_natCast, ← hacts]; exact hk2
  have hm0 : 0 < m := by
    rcases Nat.eq_zero_or_pos m with q | q
    · subst q
      exact absurd hkm (by show ¬ k < 0; omega)
    · exact q
  have hzm : z < m := by
    rcases Int.lt_or_le z m with q | q
    · exact q
    · have := hz1 ((m : Int) - 1) (by omega) (by omega)
      by_cases c : (m : Int) - 1 + 1 < ln f
      · rw [if_pos c, show (m : Int) - 1 + 1 = m by omega] at this
        omega
      · rw [if_neg c, show ln f = m by omega] at this
        omega
  have hz3 : k < aheadI L (sem K G L ln st) st f (z + 1) := by
    rcases hz2 with q | q
    · omega
    · by_cases c : z + 1 < ln f
      · rw [if_pos c] at q; exact q
      · rw [if_neg c, show ln f = z + 1 by omega] at q; exact q
  have hz4 : aheadI L (sem K G L ln st) st f z ≤ k := by
    rcases Int.lt_or_le 0 z with q | q
    · have := hz1 (z - 1) (by omega) (by omega)
      rw [if_pos (by omega), show z - 1 + 1 = z by omega] at this
      exact this
    · rw [show z = 0 by omega]
      exact hk
  refine ⟨by omega, hz4, hz3, ?_⟩
  obtain ⟨rest, hr⟩ := flatF_split (acA L (sem K G L ln st) st f) (z := z.toNat) m 0 (by omega)
  rw [hacts, hr]
  have hlen : aheadI L (sem K G L ln st) st f z = ((flatF (acA L (sem K G L ln st) st f) 0 z.toNat).length : Int) := rfl
  have hs := ahead_s L (sem K G L ln st) st f hz0
  have hA : acA L (sem K G L ln st) st f (0 + (z.toNat : Int)) = (stepR L (sem K G L ln st) (st (f * 4 + z))).2.1 := by rw [show (0 : Int) + (z.toNat : Int) = z by omega]; rfl
  rw [List.getD_eq_getElem?_getD, List.getD_eq_getElem?_getD, List.getElem?_append_right (by omega), hA, List.getElem?_append_left (by omega)]
  congr 2
  omega
def cntNe (o : Int → Int) : Nat → Int
  | 0 => 0
  | n + 1 => cntNe o n + if o (n : Int) = 4 then 0 else 1
def cntEq (o : Int → Int) (x : Int) : Nat → Int
  | 0 => 0
  | n + 1 => cntEq o x n + if o (n : Int) = x then 1 else 0
def mayGo (o : Int → Int) : Nat → Int
  | 0 => 0
  | n + 1 => if o (n : Int) = 4 then mayGo o n else orI (mayGo o n) (pow2 (o (n : Int)))
theorem cntNe_s (o : Int → Int) {i : Int} (h : 0 ≤ i) : cntNe o (i + 1).toNat = cntNe o i.toNat + if o i = 4 then 0 else 1 := by
  obtain ⟨k, rfl⟩ := Int.eq_ofNat_of_zero_le h
  rfl
theorem cntEq_s (o : Int → Int) (x : Int) {i : Int} (h : 0 ≤ i) : cntEq o x (i + 1).toNat = cntEq o x i.toNat + if o i = x then 1 else 0 := by
  obtain ⟨k, rfl⟩ := Int.eq_ofNat_of_zero_le h
  rfl
theorem mayGo_s (o : Int → Int) {i : Int} (h : 0 ≤ i) : mayGo o (i + 1).toNat = if o i = 4 then mayGo o i.toNat else orI (mayGo o i.toNat) (pow2 (o i)) := by
  obtain ⟨k, rfl⟩ := Int.eq_ofNat_of_zero_le h
  rfl
theorem cntEq_rng (o : Int → Int) (x : Int) : ∀ n : Nat, 0 ≤ cntEq o x n ∧ cntEq o x n ≤ n
  | 0 => ⟨Int.le_refl 0, Int.le_refl 0⟩
  | n + 1 => by
    have := cntEq_rng o x n
    show 0 ≤ cntEq o x n + (if o (n : Int) = x then 1 else 0) ∧ cntEq o x n + (if o (n : Int) = x then 1 else 0) ≤ ((n + 1 : Nat) : Int)
    split <;> omega
theorem mayGo_rng {o : Int → Int} (h : ∀ i : Int, 0 ≤ o i ∧ o i ≤ 4) : ∀ n : Nat, 0 ≤ mayGo o n ∧ mayGo o n < 16
  | 0 => ⟨Int.le_refl 0, (show (0 : Int) < 16 by decide)⟩
  | n + 1 => by
    have ih := mayGo_rng h n
    show 0 ≤ (if o (n : Int) = 4 then mayGo o n else orI (mayGo o n) (pow2 (o (n : Int)))) ∧ (if o (n : Int) = 4 then mayGo o n else orI (mayGo o n) (pow2 (o (n : Int)))) < 16
    by_cases c : o (n : Int) = 4
    · rw [if_pos c]; exact ih
    · rw [if_neg c]
      have h1 := h n
      have h2 := pow2_4 (k := o (n : Int)) (by omega)
      exact orI_16 (by omega)
/-- rows by steps alone -/
def rowGo (sf : Int → Int) (tb : Int → Int) : Nat → Int
  | 0 => 0
  | n + 1 => orI (rowGo sf tb n) (if 4 ≤ sf (n : Int) then tb (sf (n : Int) - 4) else pow2 (sf (n : Int)))
def rowK (k g s : Int) : Int := if k = 0 then s else wo s g
def rowT (K G ln st : Int → Int) : Nat → Int → Int
  | 0, _ => 0
  | n + 1, j => if j = (n : Int) then rowK (K n) (G n) (rowGo (fun i => st ((n : Int) * 4 + i)) (rowT K G ln st n) (ln n).toNat) else rowT K G ln st n j
def rowS (K G ln st : Int → Int) (f : Int) : Int := rowT K G ln st (f.toNat + 1) f
theorem rowGo_congr {sf sf' tb tb' : Int → Int} : ∀ n : Nat, (∀ j : Int, 0 ≤ j → j < n → sf j = sf' j ∧ (4 ≤ sf j → tb (sf j - 4) = tb' (sf j - 4))) → rowGo sf tb n = rowGo sf' tb' n
  | 0, _ => rfl
  | n + 1, h => by
    have ih := rowGo_congr n (fun j h1 h2 => h j h1 (by omega))
    obtain ⟨e1, e2⟩ := h n (by omega) (by omega)
    show orI _ _ = orI _ _
    rw [ih, ← e1]
    by_cases c : 4 ≤ sf (n : Int)
    · rw [if_pos c, if_pos c, e2 c]
    · rw [if_neg c, if_neg c]
theorem rowT_lt (K G ln st : Int → Int) : ∀ (n : Nat) (j : Int), 0 ≤ j → j < n → rowT K G ln st n j = rowS K G ln st j
  | 0, j, h0, h1 => absurd h1 (by omega)
  | n + 1, j, h0, h1 => by
    by_cases e : j = (n : Int)
    · subst e; rfl
    · show (if j = (n : Int) then _ else rowT K G ln st n j) = _
      rw [if_neg e]
      exact rowT_lt K G ln st n j h0 (by omega)
theorem rowS_un {K G : Int → Int} {cnt : Int} {ln st : Int → Int} (ok : okP cnt ln st) {f : Int} (h0 : 0 ≤ f) (h1 : f < cnt) : rowS K G ln st f = rowK (K f) (G f) (rowGo (fun i => st (f * 4 + i)) (rowS K G ln st) (ln f).toNat) := by
  obtain ⟨n, rfl⟩ := Int.eq_ofNat_of_zero_le h0
  show rowT K G ln st ((n : Int).toNat + 1) (n : Int) = _
  rw [Int.toNat_natCast]
  show (if (n : Int) = (n : Int) then _ else _) = _
  rw [if_pos rfl]
  congr 1
  refine rowGo_congr _ (fun j hj1 hj2 => ⟨rfl, fun h4 => ?_⟩)
  have hv := ok.2.2 n h0 h1 j hj1 (by have := ok.2.1 n h0 h1; omega)
  exact rowT_lt K G ln st n _ (by omega) (by omega)
theorem rowS_congr {K G K' G' : Int → Int} {cnt : Int} {ln st ln' st' : Int → Int} (ok : okP cnt ln st) (ok' : okP cnt ln' st') (hk : ∀ j : Int, 0 ≤ j → j < cnt → K j = K' j ∧ G j = G' j ∧ ln j = ln' j) (hs : ∀ j : Int, 0 ≤ j → j < cnt → ∀ i : Int, 0 ≤ i → i < ln j → st (j * 4 + i) = st' (j * 4 + i)) : ∀ f : Int, 0 ≤ f → f < cnt → rowS K G ln st f = rowS K' G' ln' st' f := by
  have main : ∀ (n : Nat) (f : Int), 0 ≤ f → f < cnt → f < n → rowS K G ln st f = rowS K' G' ln' st' f := by
    intro n
    induction n with
    | zero => intro f h0 h1 h2; exact absurd h2 (by omega)
    | succ n ih =>
      intro f h0 h1 h2
      rw [rowS_un ok h0 h1, rowS_un ok' h0 h1, (hk f h0 h1).1, (hk f h0 h1).2.1, ← (hk f h0 h1).2.2]
      congr 1
      refine rowGo_congr _ (fun j hj1 hj2 => ?_)
      have hl := ok.2.1 f h0 h1
      have hv := ok.2.2 f h0 h1 j hj1 (by omega)
      exact ⟨hs f h0 h1 j hj1 (by omega), fun h4 => ih _ (by omega) (by omega) (by omega)⟩
  intro f h0 h1
  exact main (f.toNat + 1) f h0 h1 (by omega)
theorem rowK_rng {k g x : Int} (h : 0 ≤ x ∧ x < 16) (hg : 0 ≤ g ∧ g ≤ 3) : 0 ≤ rowK k g x ∧ rowK k g x < 16 := by
  unfold rowK
  by_cases c : k = 0
  · rw [if_pos c]; exact h
  · rw [if_neg c]; exact wo_rng (by omega)
theorem rowGo_rng {sf tb : Int → Int} : ∀ n : Nat, (∀ j : Int, 0 ≤ j → j < n → 0 ≤ sf j ∧ (4 ≤ sf j → 0 ≤ tb (sf j - 4) ∧ tb (sf j - 4) < 16)) → 0 ≤ rowGo sf tb n ∧ rowGo sf tb n < 16
  | 0, _ => ⟨Int.le_refl 0, (show (0 : Int) < 16 by decide)⟩
  | n + 1, h => by
    have ih := rowGo_rng n (fun j h1 h2 => h j h1 (by omega))
    obtain ⟨e1, e2⟩ := h n (by omega) (by omega)
    show 0 ≤ orI _ _ ∧ orI _ _ < 16
    by_cases c : 4 ≤ sf (n : Int)
    · rw [if_pos c]; have := e2 c; exact orI_16 (by omega)
    · rw [if_neg c]; have := pow2_4 (k := sf (n : Int)) (by omega); exact orI_16 (by omega)
theorem rowGo_s (sf tb : Int → Int) {i : Int} (h : 0 ≤ i) : rowGo sf tb (i + 1).toNat = orI (rowGo sf tb i.toNat) (if 4 ≤ sf i then tb (sf i - 4) else pow2 (sf i)) := by
  obtain ⟨k, rfl⟩ := Int.eq_ofNat_of_zero_le h
  rfl
theorem rowS_rng {K G : Int → Int} {cnt : Int} {ln st : Int → Int} (ok : okP cnt ln st) (hG : ∀ j : Int, 0 ≤ j → j < cnt → 0 ≤ G j ∧ G j ≤ 3) : ∀ f : Int, 0 ≤ f → f < cnt → 0 ≤ rowS K G ln st f ∧ rowS K G ln st f < 16 := by
  have main : ∀ (n : Nat) (f : Int), 0 ≤ f → f < cnt → f < n → 0 ≤ rowS K G ln st f ∧ rowS K G ln st f < 16 := by
    intro n
    induction n with
    | zero => intro f h0 h1 h2; exact absurd h2 (by omega)
    | succ n ih =>
      intro f h0 h1 h2
      rw [rowS_un ok h0 h1]
      have hl := ok.2.1 f h0 h1
      refine rowK_rng (rowGo_rng _ (fun j hj1 hj2 => ?_)) (hG f h0 h1)
      have hv := ok.2.2 f h0 h1 j hj1 (by omega)
      exact ⟨hv.1, fun h4 => ih _ (by omega) (by omega) (by omega)⟩
  intro f h0 h1
  exact main (f.toNat + 1) f h0 h1 (by omega)
def orAll (r : Int → Int) : Nat → Int
  | 0 => 0
  | n + 1 => orI (orAll r n) (r (n : Int))
theorem orAll_s (r : Int → Int) {i : Int} (h : 0 ≤ i) : orAll r (i + 1).toNat = orI (orAll r i.toNat) (r i) := by
  obtain ⟨k, rfl⟩ := Int.eq_ofNat_of_zero_le h
  rfl
theorem orAll_rng {r : Int → Int} : ∀ n : Nat, (∀ j : Int, 0 ≤ j → j < n → 0 ≤ r j ∧ r j < 16) → 0 ≤ orAll r n ∧ orAll r n < 16
  | 0, _ => ⟨Int.le_refl 0, (show (0 : Int) < 16 by decide)⟩
  | n + 1, h => by
    have ih := orAll_rng n (fun j h1 h2 => h j h1 (by omega))
    have := h n (by omega) (by omega)
    exact orI_16 (by omega)
theorem orAll_congr {r r' : Int → Int} : ∀ n : Nat, (∀ j : Int, 0 ≤ j → j < n → r j = r' j) → orAll r n = orAll r' n
  | 0, _ => rfl
  | n + 1, h => by
    show orI _ _ = orI _ _
    rw [orAll_congr n (fun j h1 h2 => h j h1 (by omega)), h n (by omega) (by omega)]
