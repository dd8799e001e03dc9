/-! ===== texts: at, how many functions, kinds, guards, lengths, steps ===== -/
abbrev PQ : Type := Int × Int × (Int → Int) × (Int → Int) × (Int → Int) × (Int → Int)
def kOf (c : Int) : Int := if c = 107 then 2 else if c = 108 then 1 else if c = 112 then 0 else -1
def stv (f c : Int) : Int := if 97 ≤ c ∧ c < 101 then c - 97 else if 48 ≤ c ∧ c < 48 + f then 4 + c - 48 else -1
def pFun (cnt : Int) (kd gd ln st : Int → Int) (c : Int) : Option PQ := if c = 59 ∧ cnt < 5 then some (2, cnt + 1, kd, gd, updI ln cnt 0, st) else none
def pKind (cnt : Int) (kd gd ln st : Int → Int) (c : Int) : Option PQ := if 0 ≤ kOf c then some (3, cnt, updI kd (cnt - 1) (kOf c), gd, ln, st) else none
def pGuard (cnt : Int) (kd gd ln st : Int → Int) (c : Int) : Option PQ := if 48 ≤ c ∧ c < 52 then some (4, cnt, kd, updI gd (cnt - 1) (c - 48), ln, st) else none
def pStp (cnt : Int) (kd gd ln st : Int → Int) (c : Int) : Option PQ := if 0 ≤ stv (cnt - 1) c ∧ ln (cnt - 1) < 4 then some (4, cnt, kd, gd, updI ln (cnt - 1) (ln (cnt - 1) + 1), updI st ((cnt - 1) * 4 + ln (cnt - 1)) (stv (cnt - 1) c)) else none
def pStep (at_ cnt : Int) (kd gd ln st : Int → Int) (c : Int) : Option PQ :=
  if at_ = 0 then (if c = 101 then some (1, cnt, kd, gd, ln, st) else none)
  else if at_ = 1 then pFun cnt kd gd ln st c
  else if at_ = 2 then pKind cnt kd gd ln st c
  else if at_ = 3 then pGuard cnt kd gd ln st c
  else if c = 59 then pFun cnt kd gd ln st c else pStp cnt kd gd ln st c
def pStepQ (q : PQ) (c : Int) : Option PQ := pStep q.1 q.2.1 q.2.2.1 q.2.2.2.1 q.2.2.2.2.1 q.2.2.2.2.2 c
/-- the place of the first fault, -1: taken; and what was read -/
def pRun (cd : Int → Int) : Nat → Int → PQ → Int × PQ
  | 0, i, q => if q.1 = 4 then (-1, q) else (i, q)
  | n + 1, i, q => match pStepQ q (cd i) with
    | none => (i, q)
    | some q' => pRun cd n (i + 1) q'
theorem pRun_none {cd : Int → Int} {n : Nat} {i : Int} {q : PQ} (h : pStepQ q (cd i) = none) : pRun cd (n + 1) i q = (i, q) := by
  show (match pStepQ q (cd i) with | none => (i, q) | some q' => pRun cd n (i + 1) q') = _
  rw [h]
theorem pRun_some {cd : Int → Int} {n : Nat} {i : Int} {q q' : PQ} (h : pStepQ q (cd i) = some q') : pRun cd (n + 1) i q = pRun cd n (i + 1) q' := by
  show (match pStepQ q (cd i) with | none => (i, q) | some q' => pRun cd n (i + 1) q') = _
  rw [h]
/-- what holds of a text that is being read -/
def okQ (at_ cnt : Int) (kd gd ln st : Int → Int) : Prop := (0 ≤ at_ ∧ at_ ≤ 4) ∧ (0 ≤ cnt ∧ cnt ≤ 5) ∧ (2 ≤ at_ → 1 ≤ cnt) ∧ (∀ j : Int, 0 ≤ j → j < cnt → 0 ≤ ln j ∧ ln j ≤ 4) ∧ (∀ j : Int, 0 ≤ j → j < cnt → ∀ i : Int, 0 ≤ i → i < ln j → 0 ≤ st (j * 4 + i) ∧ st (j * 4 + i) < 4 + j) ∧ (∀ j : Int, 0 ≤ j → j < cnt → (j < cnt - 1 ∨ 3 ≤ at_) → 0 ≤ kd j ∧ kd j ≤ 2) ∧ ∀ j : Int, 0 ≤ j → j < cnt → (j < cnt - 1 ∨ at_ = 4) → 0 ≤ gd j ∧ gd j ≤ 3
def okQ' (q : PQ) : Prop := okQ q.1 q.2.1 q.2.2.1 q.2.2.2.1 q.2.2.2.2.1 q.2.2.2.2.2
theorem okQ_fun {at_ cnt : Int} {kd gd ln st : Int → Int} (h : okQ at_ cnt kd gd ln st) (ha : at_ = 1 ∧ cnt = 0 ∨ at_ = 4) (hc : cnt < 5) : okQ 2 (cnt + 1) kd gd (updI ln cnt 0) st := by
  obtain ⟨h1, h2, h3, h4, h5, h6, h7⟩ := h
  refine ⟨by omega, by omega, fun _ => by omega, fun j a b => ?_, fun j a b i c d => ?_, fun j a b e => h6 j a (by omega) ?_, fun j a b e => h7 j a (by omega) ?_⟩
  · by_cases e : j = cnt
    · rw [e, updI_s]; omega
    · rw [updI_n e]; exact h4 j a (by omega)
  · by_cases e : j = cnt
    · rw [e, updI_s] at d; omega
    · rw [updI_n e] at d; exact h5 j a (by omega) i c d
  · rcases ha with q | q
    · omega
    · exact Or.inr (by omega)
  · rcases ha with q | q
    · omega
    · exact Or.inr q
theorem kOf_rng (c : Int) : -1 ≤ kOf c ∧ kOf c ≤ 2 := by
  unfold kOf
  split
  · omega
  · split
    · omega
    · split <;> omega
theorem stv_rng {f c : Int} (h : 0 ≤ f) (h0 : 0 ≤ stv f c) : stv f c < 4 + f := by
  unfold stv at h0 ⊢
  by_cases c1 : 97 ≤ c ∧ c < 101
  · rw [if_pos c1]; omega
  · rw [if_neg c1] at h0 ⊢
    by_cases c2 : 48 ≤ c ∧ c < 48 + f
    · rw [if_pos c2]; omega
    · rw [if_neg c2] at h0; omega
theorem okQ_step {at_ cnt : Int} {kd gd ln st : Int → Int} (h : okQ at_ cnt kd gd ln st) (h1c : at_ ≤ 1 → cnt = 0) {c : Int} {q : PQ} (hs : pStep at_ cnt kd gd ln st c = some q) : okQ' q ∧ (q.1 ≤ 1 → q.2.1 = 0) := by
  have hh := h
  obtain ⟨h1, h2, h3, h4, h5, h6, h7⟩ := hh
  unfold pStep at hs
  by_cases a0 : at_ = 0
  · rw [if_pos a0] at hs
    by_cases c0 : c = 101
    · rw [if_pos c0] at hs
      cases hs
      exact ⟨⟨(by decide : (0 : Int) ≤ 1 ∧ (1 : Int) ≤ 4), h2, fun q => absurd q (by simp), h4, h5, fun j a b e => h6 j a b (by rcases e with e | e; exact Or.inl e; exact absurd e (by simp)), fun j a b e => h7 j a b (by rcases e with e | e; exact Or.inl e; exact absurd e (by simp))⟩, fun _ => h1c (by omega)⟩
    · rw [if_neg c0] at hs; cases hs
  · rw [if_neg a0] at hs
    by_cases a1 : at_ = 1
    · rw [if_pos a1] at hs
      unfold pFun at hs
      by_cases c0 : c = 59 ∧ cnt < 5
      · rw [if_pos c0] at hs
        cases hs
        exact ⟨okQ_fun h (Or.inl ⟨a1, h1c (by omega)⟩) c0.2, fun q => absurd q (by simp)⟩
      · rw [if_neg c0] at hs; cases hs
    · rw [if_neg a1] at hs
      have hcnt : 1 ≤ cnt := h3 (by omega)
      by_cases a2 : at_ = 2
      · rw [if_pos a2] at hs
        unfold pKind at hs
        by_cases c0 : 0 ≤ kOf c
        · rw [if_pos c0] at hs
          cases hs
          refine ⟨⟨(by decide : (0 : Int) ≤ 3 ∧ (3 : Int) ≤ 4), h2, fun _ => hcnt, h4, h5, fun j a b e => ?_, fun j a b e => h7 j a b (by rcases e with e | e; exact Or.inl e; exact absurd e (by simp))⟩, fun q => absurd q (by simp)⟩
          show 0 ≤ updI kd (cnt - 1) (kOf c) j ∧ updI kd (cnt - 1) (kOf c) j ≤ 2
          by_cases ej : j = cnt - 1
          · rw [ej, updI_s]; have := kOf_rng c; omega
          · rw [updI_n ej]; exact h6 j a b (Or.inl (by have : j < cnt := b; omega))
        · rw [if_neg c0] at hs; cases hs
      · rw [if_neg a2] at hs
        by_cases a3 : at_ = 3
        · rw [if_pos a3] at hs
          unfold pGuard at hs
          by_cases c0 : 48 ≤ c ∧ c < 52
          · rw [if_pos c0] at hs
            cases hs
            refine ⟨⟨(by decide : (0 : Int) ≤ 4 ∧ (4 : Int) ≤ 4), h2, fun _ => hcnt, h4, h5, fun j a b e => h6 j a b (Or.inr (by omega)), fun j a b e => ?_⟩, fun q => absurd q (by simp)⟩
            show 0 ≤ updI gd (cnt - 1) (c - 48) j ∧ updI gd (cnt - 1) (c - 48) j ≤ 3
            by_cases ej : j = cnt - 1
            · rw [ej, updI_s]; omega
            · rw [updI_n ej]; exact h7 j a b (Or.inl (by have : j < cnt := b; omega))
          · rw [if_neg c0] at hs; cases hs
        · rw [if_neg a3] at hs
          have a4 : at_ = 4 := by omega
          by_cases c59 : c = 59
          · rw [if_pos c59] at hs
            unfold pFun at hs
            by_cases c0 : c = 59 ∧ cnt < 5
            · rw [if_pos c0] at hs
              cases hs
              exact ⟨okQ_fun h (Or.inr a4) c0.2, fun q => absurd q (by simp)⟩
            · rw [if_neg c0] at hs; cases hs
          · rw [if_neg c59] at hs
            unfold pStp at hs
            by_cases c0 : 0 ≤ stv (cnt - 1) c ∧ ln (cnt - 1) < 4
            · rw [if_pos c0] at hs
              cases hs
              have hl := h4 (cnt - 1) (by omega) (by omega)
              refine ⟨⟨(by decide : (0 : Int) ≤ 4 ∧ (4 : Int) ≤ 4), h2, fun _ => hcnt, fun j a b => ?_, fun j a b i ci di => ?_, fun j a b e => h6 j a b (Or.inr (by omega)), fun j a b e => h7 j a b (Or.inr a4)⟩, fun q => absurd q (by simp)⟩
              · show 0 ≤ updI ln (cnt - 1) (ln (cnt - 1) + 1) j ∧ updI ln (cnt - 1) (ln (cnt - 1) + 1) j ≤ 4
                by_cases ej : j = cnt - 1
                · rw [ej, updI_s]; omega
                · rw [updI_n ej]; exact h4 j a b
              · change i < updI ln (cnt - 1) (ln (cnt - 1) + 1) j at di
                show 0 ≤ updI st ((cnt - 1) * 4 + ln (cnt - 1)) (stv (cnt - 1) c) (j * 4 + i) ∧ updI st ((cnt - 1) * 4 + ln (cnt - 1)) (stv (cnt - 1) c) (j * 4 + i) < 4 + j
                have hb : j < cnt := b
                by_cases ej : j = cnt - 1
                · subst ej
                  rw [updI_s] at di
                  by_cases ei : i = ln (cnt - 1)
                  · rw [ei, updI_s]; exact ⟨c0.1, stv_rng (by omega) c0.1⟩
                  · rw [updI_n (by omega)]; exact h5 (cnt - 1) a b i ci (by omega)
                · rw [updI_n ej] at di
                  have hlj := h4 j a b
                  rw [updI_n (by omega)]; exact h5 j a b i ci di
            · rw [if_neg c0] at hs; cases hs
theorem pRun_ok {cd : Int → Int} : ∀ (n : Nat) (i : Int) (q : PQ), okQ' q → (q.1 ≤ 1 → q.2.1 = 0) → okQ' (pRun cd n i q).2
  | 0, i, q, h, _ => by
    show okQ' (if q.1 = 4 then ((-1 : Int), q) else (i, q)).2
    split <;> exact h
  | n + 1, i, q, h, h0 => by
    rcases hs : pStepQ q (cd i) with _ | q'
    · rw [pRun_none hs]; exact h
    · rw [pRun_some hs]
      obtain ⟨a, b⟩ := okQ_step h h0 hs
      exact pRun_ok n (i + 1) q' a b
theorem pRun_taken {cd : Int → Int} : ∀ (n : Nat) (i : Int) (q : PQ), 0 ≤ i → (pRun cd n i q).1 = -1 → (pRun cd n i q).2.1 = 4
  | 0, i, q, h0, h => by
    change (if q.1 = 4 then ((-1 : Int), q) else (i, q)).1 = -1 at h
    show (if q.1 = 4 then ((-1 : Int), q) else (i, q)).2.1 = 4
    by_cases c : q.1 = 4
    · rw [if_pos c]; exact c
    · rw [if_neg c] at h; exact absurd h (by show ¬ i = -1; omega)
  | n + 1, i, q, h0, h => by
    rcases hs : pStepQ q (cd i) with _ | q'
    · rw [pRun_none hs] at h; exact absurd h (by show ¬ i = -1; omega)
    · rw [pRun_some hs] at h ⊢
      exact pRun_taken n (i + 1) q' (by omega) h
theorem pRun_rng {cd : Int → Int} : ∀ (n : Nat) (i : Int) (q : PQ), 0 ≤ i → (pRun cd n i q).1 = -1 ∨ (i ≤ (pRun cd n i q).1 ∧ (pRun cd n i q).1 ≤ i + n)
  | 0, i, q, h0 => by
    show (if q.1 = 4 then ((-1 : Int), q) else (i, q)).1 = -1 ∨ (i ≤ (if q.1 = 4 then ((-1 : Int), q) else (i, q)).1 ∧ (if q.1 = 4 then ((-1 : Int), q) else (i, q)).1 ≤ i + (0 : Nat))
    by_cases c : q.1 = 4
    · rw [if_pos c]; exact Or.inl rfl
    · rw [if_neg c]; exact Or.inr ⟨Int.le_refl i, by show i ≤ i + (0 : Nat); omega⟩
  | n + 1, i, q, h0 => by
    rcases hs : pStepQ q (cd i) with _ | q'
    · rw [pRun_none hs]; exact Or.inr ⟨Int.le_refl i, by show i ≤ i + ((n + 1 : Nat) : Int); omega⟩
    · rw [pRun_some hs]
      rcases pRun_rng n (i + 1) q' (by omega) (cd := cd) with e | e
      · exact Or.inl e
      · exact Or.inr ⟨by omega, by omega⟩
/-- two readings of the same codes, over rows that were used before -/
def AgQ (q q' : PQ) : Prop := q.1 = q'.1 ∧ q.2.1 = q'.2.1 ∧ (∀ j : Int, 0 ≤ j → j < q.2.1 → (j < q.2.1 - 1 ∨ 3 ≤ q.1) → q.2.2.1 j = q'.2.2.1 j) ∧ (∀ j : Int, 0 ≤ j → j < q.2.1 → (j < q.2.1 - 1 ∨ q.1 = 4) → q.2.2.2.1 j = q'.2.2.2.1 j) ∧ (∀ j : Int, 0 ≤ j → j < q.2.1 → q.2.2.2.2.1 j = q'.2.2.2.2.1 j) ∧ ∀ j : Int, 0 ≤ j → j < q.2.1 → ∀ i : Int, 0 ≤ i → i < q.2.2.2.2.1 j → q.2.2.2.2.2 (j * 4 + i) = q'.2.2.2.2.2 (j * 4 + i)
theorem AgQ_fun {at_ cnt at' : Int} {kd gd ln st kd' gd' ln' st' : Int → Int} (ok : okQ at_ cnt kd gd ln st) (ha : at_ = 1 ∧ cnt = 0 ∨ at_ = 4) (h : AgQ (at_, cnt, kd, gd, ln, st) (at', cnt, kd', gd', ln', st')) : AgQ (2, cnt + 1, kd, gd, updI ln cnt 0, st) (2, cnt + 1, kd', gd', updI ln' cnt 0, st') := by
  obtain ⟨h1, h2, h3, h4, h5, h6⟩ := h
  dsimp only at h1 h2 h3 h4 h5 h6
  refine ⟨rfl, rfl, fun j a b e => ?_, fun j a b e => ?_, fun j a b => ?_, fun j a b i c d => ?_⟩
  · change j < cnt + 1 at b; change (j < cnt + 1 - 1 ∨ (3 : Int) ≤ 2) at e
    exact h3 j a (by omega) (by omega)
  · change j < cnt + 1 at b; change (j < cnt + 1 - 1 ∨ (2 : Int) = 4) at e
    exact h4 j a (by omega) (by omega)
  · change j < cnt + 1 at b
    show updI ln cnt 0 j = updI ln' cnt 0 j
    by_cases e : j = cnt
    · rw [e, updI_s, updI_s]
    · rw [updI_n e, updI_n e]; exact h5 j a (by omega)
  · change j < cnt + 1 at b; change i < updI ln cnt 0 j at d
    by_cases e : j = cnt
    · rw [e, updI_s] at d; omega
    · rw [updI_n e] at d; exact h6 j a (by omega) i c d
theorem AgQ_step {q q' : PQ} (ok : okQ' q) (h0 : q.1 ≤ 1 → q.2.1 = 0) (h : AgQ q q') (c : Int) : (pStepQ q c = none ∧ pStepQ q' c = none) ∨ ∃ r r', pStepQ q c = some r ∧ pStepQ q' c = some r' ∧ AgQ r r' := by
  obtain ⟨at_, cnt, kd, gd, ln, st⟩ := q
  obtain ⟨at', cnt', kd', gd', ln', st'⟩ := q'
  obtain ⟨o1, o2, o3, o4, o5, o6, o7⟩ := id ok
  have hh := h
  obtain ⟨h1, h2, h3, h4, h5, h6⟩ := hh
  dsimp only at h1 h2 h3 h4 h5 h6 o1 o2 o3 o4 o5 o6 o7 h0
  subst h1
  subst h2
  show (pStep at_ cnt kd gd ln st c = none ∧ pStep at_ cnt kd' gd' ln' st' c = none) ∨ ∃ r r', pStep at_ cnt kd gd ln st c = some r ∧ pStep at_ cnt kd' gd' ln' st' c = some r' ∧ AgQ r r'
  unfold pStep
  by_cases a0 : at_ = 0
  · rw [if_pos a0, if_pos a0]
    by_cases c0 : c = 101
    · rw [if_pos c0, if_pos c0]
      refine Or.inr ⟨_, _, rfl, rfl, rfl, rfl, fun j a b e => ?_, fun j a b e => ?_, h5, h6⟩
      · have hb : j < cnt := b; have := h0 (by omega); omega
      · have hb : j < cnt := b; have := h0 (by omega); omega
    · rw [if_neg c0, if_neg c0]; exact Or.inl ⟨rfl, rfl⟩
  · rw [if_neg a0, if_neg a0]
    by_cases a1 : at_ = 1
    · rw [if_pos a1, if_pos a1]
      unfold pFun
      by_cases c0 : c = 59 ∧ cnt < 5
      · rw [if_pos c0, if_pos c0]
        exact Or.inr ⟨_, _, rfl, rfl, AgQ_fun ok (Or.inl ⟨a1, h0 (by omega)⟩) h⟩
      · rw [if_neg c0, if_neg c0]; exact Or.inl ⟨rfl, rfl⟩
    · rw [if_neg a1, if_neg a1]
      have hcnt : 1 ≤ cnt := o3 (by omega)
      by_cases a2 : at_ = 2
      · rw [if_pos a2, if_pos a2]
        unfold pKind
        by_cases c0 : 0 ≤ kOf c
        · rw [if_pos c0, if_pos c0]
          refine Or.inr ⟨_, _, rfl, rfl, rfl, rfl, fun j a b e => ?_, fun j a b e => h4 j a b (by rcases e with e | e; exact Or.inl e; exact absurd e (by simp)), h5, h6⟩
          have hb : j < cnt := b
          show updI kd (cnt - 1) (kOf c) j = updI kd' (cnt - 1) (kOf c) j
          by_cases ej : j = cnt - 1
          · rw [ej, updI_s, updI_s]
          · rw [updI_n ej, updI_n ej]; exact h3 j a b (Or.inl (by omega))
        · rw [if_neg c0, if_neg c0]; exact Or.inl ⟨rfl, rfl⟩
      · rw [if_neg a2, if_neg a2]
        by_cases a3 : at_ = 3
        · rw [if_pos a3, if_pos a3]
          unfold pGuard
          by_cases c0 : 48 ≤ c ∧ c < 52
          · rw [if_pos c0, if_pos c0]
            refine Or.inr ⟨_, _, rfl, rfl, rfl, rfl, fun j a b e => h3 j a b (Or.inr (by omega)), fun j a b e => ?_, h5, h6⟩
            have hb : j < cnt := b
            show updI gd (cnt - 1) (c - 48) j = updI gd' (cnt - 1) (c - 48) j
            by_cases ej : j = cnt - 1
            · rw [ej, updI_s, updI_s]
            · rw [updI_n ej, updI_n ej]; exact h4 j a b (Or.inl (by omega))
          · rw [if_neg c0, if_neg c0]; exact Or.inl ⟨rfl, rfl⟩
        · rw [if_neg a3, if_neg a3]
          have a4 : at_ = 4 := by omega
          by_cases c59 : c = 59
          · rw [if_pos c59, if_pos c59]
            unfold pFun
            by_cases c0 : c = 59 ∧ cnt < 5
            · rw [if_pos c0, if_pos c0]
              exact Or.inr ⟨_, _, rfl, rfl, AgQ_fun ok (Or.inr a4) h⟩
            · rw [if_neg c0, if_neg c0]; exact Or.inl ⟨rfl, rfl⟩
          · rw [if_neg c59, if_neg c59]
            unfold pStp
            have hl := o4 (cnt - 1) (by omega) (by omega)
            have el := h5 (cnt - 1) (by omega) (by omega)
            rw [← el]
            by_cases c0 : 0 ≤ stv (cnt - 1) c ∧ ln (cnt - 1) < 4
            · rw [if_pos c0, if_pos c0]
              refine Or.inr ⟨_, _, rfl, rfl, rfl, rfl, fun j a b e => h3 j a b (Or.inr (by omega)), fun j a b e => h4 j a b (Or.inr a4), fun j a b => ?_, fun j a b i ci di => ?_⟩
              · show updI ln (cnt - 1) (ln (cnt - 1) + 1) j = updI ln' (cnt - 1) (ln (cnt - 1) + 1) j
                by_cases ej : j = cnt - 1
                · rw [ej, updI_s, updI_s]
                · rw [updI_n ej, updI_n ej]; exact h5 j a b
              · change i < updI ln (cnt - 1) (ln (cnt - 1) + 1) j at di
                have hb : j < cnt := b
                show updI st ((cnt - 1) * 4 + ln (cnt - 1)) (stv (cnt - 1) c) (j * 4 + i) = updI st' ((cnt - 1) * 4 + ln (cnt - 1)) (stv (cnt - 1) c) (j * 4 + i)
                by_cases ej : j = cnt - 1
                · subst ej
                  rw [updI_s] at di
                  by_cases ei : i = ln (cnt - 1)
                  · rw [ei, updI_s, updI_s]
                  · rw [updI_n (by omega), updI_n (by omega)]; exact h6 (cnt - 1) a b i ci (by omega)
                · rw [updI_n ej] at di
                  have hlj := o4 j a b
                  rw [updI_n (by omega), updI_n (by omega)]; exact h6 j a b i ci di
            · rw [if_neg c0, if_neg c0]; exact Or.inl ⟨rfl, rfl⟩
theorem AgQ_run {cd cd' : Int → Int} : ∀ (n : Nat) (i : Int) (q q' : PQ), okQ' q → (q.1 ≤ 1 → q.2.1 = 0) → AgQ q q' → (∀ j : Int, i ≤ j → j < i + n → cd j = cd' j) → (pRun cd n i q).1 = (pRun cd' n i q').1 ∧ AgQ (pRun cd n i q).2 (pRun cd' n i q').2
  | 0, i, q, q', _, _, h, _ => by
    show (if q.1 = 4 then ((-1 : Int), q) else (i, q)).1 = (if q'.1 = 4 then ((-1 : Int), q') else (i, q')).1 ∧ AgQ (if q.1 = 4 then ((-1 : Int), q) else (i, q)).2 (if q'.1 = 4 then ((-1 : Int), q') else (i, q')).2
    rw [← h.1]
    by_cases c : q.1 = 4
    · rw [if_pos c, if_pos c]; exact ⟨rfl, h⟩
    · rw [if_neg c, if_neg c]; exact ⟨rfl, h⟩
  | n + 1, i, q, q', ok, h0, h, hc => by
    have ec := hc i (Int.le_refl i) (by omega)
    rcases AgQ_step ok h0 h (cd i) with ⟨e1, e2⟩ | ⟨r, r', e1, e2, e3⟩
    · rw [pRun_none e1, pRun_none (by rw [← ec]; exact e2)]; exact ⟨rfl, h⟩
    · rw [pRun_some e1, pRun_some (show pStepQ q' (cd' i) = some r' by rw [← ec]; exact e2)]
      obtain ⟨a, b⟩ := okQ_step ok h0 e1
      exact AgQ_run n (i + 1) r r' a b e3 (fun j hj1 hj2 => hc j (by omega) (by omega))
