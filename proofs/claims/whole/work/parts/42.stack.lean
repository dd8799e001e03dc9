/-! ===== the reference's run: those that are open, one behind another ===== -/
def addR (P : List Int) (k : Int) (r : Rc) : Rc := (r.1, P ++ r.2.1, k + r.2.2.1, r.2.2.2)
theorem addR_add (P P' : List Int) (k k' : Int) (r : Rc) : addR P k (addR P' k' r) = addR (P ++ P') (k + k') r := by
  unfold addR
  dsimp only
  rw [List.append_assoc, Int.add_assoc]
theorem addR_0 (r : Rc) : addR [] 0 r = r := by unfold addR; rw [List.nil_append, Int.zero_add]
theorem aft_add (k g : Int) (P : List Int) (e : Int) (s t : Rc) : aftR k g (addR P e s) t = addR P e (aftR k g s t) := by
  unfold aftR addR
  dsimp only
  by_cases c1 : s.1 ≠ 4 ∧ ¬ (k ≠ 0 ∧ g = s.1)
  · rw [if_pos c1, if_pos c1, Int.add_assoc]
  · rw [if_neg c1, if_neg c1]
    by_cases c2 : s.1 ≠ 4 ∧ k = 1
    · rw [if_pos c2, if_pos c2, Int.add_assoc]
    · rw [if_neg c2, if_neg c2, List.append_assoc, Int.add_assoc]
theorem mk_add (f : Int) (P : List Int) (e : Int) (r : Rc) : mkR f (addR P e r) = addR P e (mkR f r) := rfl
def goF (K G : Int → Int) (L : Int) (ln st : Int → Int) (f x : Int) : Rc := mkR f (goR (K f) (G f) L (fun i => st (f * 4 + i)) (sem K G L ln st) (ln f - x).toNat x)
def frA (K G : Int → Int) (L : Int) (ln st : Int → Int) (f x : Int) (s : Rc) : Rc := mkR f (aftR (K f) (G f) s (goR (K f) (G f) L (fun i => st (f * 4 + i)) (sem K G L ln st) (ln f - x).toNat x))
def unw (K G : Int → Int) (L : Int) (ln st oo oa : Int → Int) : Nat → Rc → Rc
  | 0, s => s
  | d + 1, s => unw K G L ln st oo oa d (frA K G L ln st (oo (d : Int)) (oa (d : Int)) s)
theorem unw_add (K G : Int → Int) (L : Int) (ln st oo oa : Int → Int) (P : List Int) (e : Int) : ∀ (d : Nat) (s : Rc), unw K G L ln st oo oa d (addR P e s) = addR P e (unw K G L ln st oo oa d s)
  | 0, _ => rfl
  | d + 1, s => by
    show unw K G L ln st oo oa d (frA K G L ln st (oo (d : Int)) (oa (d : Int)) (addR P e s)) = _
    have e1 : frA K G L ln st (oo (d : Int)) (oa (d : Int)) (addR P e s) = addR P e (frA K G L ln st (oo (d : Int)) (oa (d : Int)) s) := by
      unfold frA
      rw [aft_add, mk_add]
    rw [e1, unw_add K G L ln st oo oa P e d]
    rfl
theorem unw_s {K G : Int → Int} {L : Int} {ln st oo oa : Int → Int} {d : Int} (h : 1 ≤ d) (s : Rc) : unw K G L ln st oo oa d.toNat s = unw K G L ln st oo oa (d - 1).toNat (frA K G L ln st (oo (d - 1)) (oa (d - 1)) s) := by
  rw [show d.toNat = (d - 1).toNat + 1 by omega]
  show unw K G L ln st oo oa (d - 1).toNat (frA K G L ln st (oo (((d - 1).toNat : Nat) : Int)) (oa (((d - 1).toNat : Nat) : Int)) s) = _
  rw [show (((d - 1).toNat : Nat) : Int) = d - 1 by omega]
theorem unw_congr {K G : Int → Int} {L : Int} {ln st oo oa oo' oa' : Int → Int} : ∀ (d : Nat) (s : Rc), (∀ j : Int, 0 ≤ j → j < d → oo j = oo' j ∧ oa j = oa' j) → unw K G L ln st oo oa d s = unw K G L ln st oo' oa' d s
  | 0, _, _ => rfl
  | d + 1, s, h => by
    show unw K G L ln st oo oa d (frA K G L ln st (oo (d : Int)) (oa (d : Int)) s) = unw K G L ln st oo' oa' d (frA K G L ln st (oo' (d : Int)) (oa' (d : Int)) s)
    rw [(h d (by omega) (by omega)).1, (h d (by omega) (by omega)).2]
    exact unw_congr d _ (fun j a b => h j a (by omega))
/-- nothing comes out of a step: the one that is open goes on -/
theorem frA_no (K G : Int → Int) (L : Int) (ln st : Int → Int) (f x : Int) (P : List Int) (e : Int) (q : List Int) : frA K G L ln st f x (4, P, e, q) = addR P e (goF K G L ln st f x) := by
  unfold frA goF aftR
  rw [if_neg (fun h => h.1 rfl), if_neg (fun h => h.1 rfl)]
  rfl
theorem unw_no {K G : Int → Int} {L : Int} {ln st oo oa : Int → Int} {d : Int} (h : 1 ≤ d) (P : List Int) (e : Int) (q : List Int) : unw K G L ln st oo oa d.toNat (4, P, e, q) = addR P e (unw K G L ln st oo oa (d - 1).toNat (goF K G L ln st (oo (d - 1)) (oa (d - 1)))) := by
  rw [unw_s h, frA_no, unw_add]
theorem goF_end {K G : Int → Int} {L : Int} {ln st : Int → Int} {f x : Int} (h : x = ln f) : goF K G L ln st f x = (4, [], 1, []) := by
  unfold goF
  rw [show (ln f - x).toNat = 0 by omega]
  rfl
theorem goF_step {K G : Int → Int} {L : Int} {ln st : Int → Int} {f x : Int} (h : x < ln f) : goF K G L ln st f x = frA K G L ln st f (x + 1) (stepR L (sem K G L ln st) (st (f * 4 + x))) := by
  unfold goF frA
  rw [goR_s h]
theorem goF_0 {K G : Int → Int} {L cnt : Int} {ln st : Int → Int} (ok : okP cnt ln st) {f : Int} (h0 : 0 ≤ f) (h1 : f < cnt) : goF K G L ln st f 0 = sem K G L ln st f := by
  rw [sem_un ok h0 h1]
  unfold goF
  rw [Int.sub_zero]
theorem goF_off {K G : Int → Int} {L : Int} {ln st : Int → Int} {f x : Int} (h : x < ln f) (hv : st (f * 4 + x) < 4) (hb : ¬ bit L (st (f * 4 + x)) = 1) : goF K G L ln st f x = goF K G L ln st f (x + 1) := by
  rw [goF_step h]
  have e : stepR L (sem K G L ln st) (st (f * 4 + x)) = (4, [], 0, []) := by unfold stepR; rw [if_neg (by omega), if_neg hb]
  rw [e, frA_no, addR_0]
theorem goF_on {K G : Int → Int} {L : Int} {ln st : Int → Int} {f x : Int} (h : x < ln f) (hv : st (f * 4 + x) < 4) (hb : bit L (st (f * 4 + x)) = 1) : goF K G L ln st f x = addR [st (f * 4 + x)] 0 (frA K G L ln st f (x + 1) (st (f * 4 + x), [], 0, [])) := by
  rw [goF_step h]
  have e : stepR L (sem K G L ln st) (st (f * 4 + x)) = addR [st (f * 4 + x)] 0 (st (f * 4 + x), [], 0, []) := by unfold stepR; rw [if_neg (by omega), if_pos hb]; rfl
  rw [e]
  unfold frA
  rw [aft_add, mk_add]
theorem frA_out {K G : Int → Int} {L : Int} {ln st : Int → Int} {f x o : Int} {q : List Int} (h : o ≠ 4) (hg : ¬ (K f ≠ 0 ∧ G f = o)) : frA K G L ln st f x (o, [], 0, q) = addR [] 1 (o, [], 0, f :: q) := by
  unfold frA aftR
  rw [if_pos ⟨h, hg⟩]
  unfold mkR addR
  dsimp only
  rw [if_neg h]
  rfl
theorem frA_leave {K G : Int → Int} {L : Int} {ln st : Int → Int} {f x o : Int} {q : List Int} (h : o ≠ 4) (hg : K f ≠ 0 ∧ G f = o) (hk : K f = 1) : frA K G L ln st f x (o, [], 0, q) = (4, [], 1, []) := by
  unfold frA aftR
  rw [if_neg (fun z => z.2 hg), if_pos ⟨h, hk⟩]
  rfl
theorem frA_keep {K G : Int → Int} {L : Int} {ln st : Int → Int} {f x o : Int} {q : List Int} (hg : K f ≠ 0 ∧ G f = o) (hk : ¬ K f = 1) : frA K G L ln st f x (o, [], 0, q) = goF K G L ln st f x := by
  unfold frA aftR
  rw [if_neg (fun z => z.2 hg), if_neg (fun z => hk z.2)]
  unfold goF
  dsimp only
  rw [List.nil_append, Int.zero_add]
def stkOk (cnt : Int) (ln oo oa : Int → Int) (d : Int) : Prop := (0 ≤ d ∧ d ≤ 5) ∧ ∀ j : Int, 0 ≤ j → j < d → (0 ≤ oo j ∧ oo j < cnt ∧ oo j + j ≤ 4) ∧ 0 ≤ oa j ∧ oa j ≤ ln (oo j)
/-- the places of a row from i to d -/
def seg (oo : Int → Int) : Nat → Int → List Int
  | 0, _ => []
  | n + 1, i => oo i :: seg oo n (i + 1)
theorem seg_len (oo : Int → Int) : ∀ (n : Nat) (i : Int), (seg oo n i).length = n
  | 0, _ => rfl
  | n + 1, i => by show (seg oo n (i + 1)).length + 1 = n + 1; rw [seg_len oo n]
theorem seg_at (oo : Int → Int) : ∀ (n : Nat) (i : Int) (k : Nat), k < n → (seg oo n i).getD k (-9) = oo (i + k)
  | 0, _, _, h => absurd h (Nat.not_lt_zero _)
  | n + 1, i, 0, _ => by show oo i = oo (i + (0 : Nat)); rw [show i + ((0 : Nat) : Int) = i by omega]
  | n + 1, i, k + 1, h => by
    show (seg oo n (i + 1)).getD k (-9) = _
    rw [seg_at oo n (i + 1) k (by omega), show i + 1 + (k : Int) = i + ((k + 1 : Nat) : Int) by omega]
theorem seg_s (oo : Int → Int) {d D : Int} (h : d ≤ D) : seg oo (D - (d - 1)).toNat (d - 1) = oo (d - 1) :: seg oo (D - d).toNat d := by
  rw [show (D - (d - 1)).toNat = (D - d).toNat + 1 by omega]
  show oo (d - 1) :: seg oo (D - d).toNat (d - 1 + 1) = _
  rw [show d - 1 + 1 = d by omega]
def pw6 (f : Int) : Nat := 6 ^ f.toNat
def muS (ln oo oa : Int → Int) : Nat → Nat
  | 0 => 0
  | d + 1 => muS ln oo oa d + (ln (oo (d : Int)) - oa (d : Int) + 1).toNat * pw6 (oo (d : Int))
theorem muS_s (ln oo oa : Int → Int) {d : Int} (h : 1 ≤ d) : muS ln oo oa d.toNat = muS ln oo oa (d - 1).toNat + (ln (oo (d - 1)) - oa (d - 1) + 1).toNat * pw6 (oo (d - 1)) := by
  rw [show d.toNat = (d - 1).toNat + 1 by omega]
  show muS ln oo oa (d - 1).toNat + (ln (oo (((d - 1).toNat : Nat) : Int)) - oa (((d - 1).toNat : Nat) : Int) + 1).toNat * pw6 (oo (((d - 1).toNat : Nat) : Int)) = _
  rw [show (((d - 1).toNat : Nat) : Int) = d - 1 by omega]
theorem muS_congr {ln oo oa oo' oa' : Int → Int} : ∀ d : Nat, (∀ j : Int, 0 ≤ j → j < d → oo j = oo' j ∧ oa j = oa' j) → muS ln oo oa d = muS ln oo' oa' d
  | 0, _ => rfl
  | d + 1, h => by
    show muS ln oo oa d + _ = muS ln oo' oa' d + _
    rw [muS_congr d (fun j a b => h j a (by omega)), (h d (by omega) (by omega)).1, (h d (by omega) (by omega)).2]
theorem muS_le (ln oo oa : Int → Int) {a b : Int} (h : a ≤ b) : muS ln oo oa a.toNat ≤ muS ln oo oa b.toNat := by
  have key : ∀ (n m : Nat), muS ln oo oa n ≤ muS ln oo oa (n + m) := by
    intro n m
    induction m with
    | zero => exact Nat.le_refl _
    | succ m ih => exact Nat.le_trans ih (Nat.le_add_right _ _)
  rcases Int.lt_or_le a 0 with q | q
  · rw [show a.toNat = 0 by omega]; exact Nat.zero_le _
  · have := key a.toNat (b.toNat - a.toNat)
    rw [show a.toNat + (b.toNat - a.toNat) = b.toNat by omega] at this
    exact this
theorem pw6_pos (f : Int) : 1 ≤ pw6 f := Nat.one_le_pow _ _ (by decide)
theorem pw6_lt {g f : Int} (h0 : 0 ≤ g) (h : g < f) {n : Nat} (hn : n ≤ 5) : n * pw6 g < pw6 f := by
  unfold pw6
  have e1 : 6 ^ (g.toNat + 1) ≤ 6 ^ f.toNat := Nat.pow_le_pow_right (by decide) (by omega)
  rw [Nat.pow_succ] at e1
  have e2 : n * 6 ^ g.toNat ≤ 5 * 6 ^ g.toNat := Nat.mul_le_mul_right _ hn
  have e3 : 1 ≤ 6 ^ g.toNat := Nat.one_le_pow _ _ (by decide)
  omega
/-- the top goes one step on: what falls -/
theorem muS_up {ln oo oa : Int → Int} {d : Int} (h : 1 ≤ d) (hx : oa (d - 1) < ln (oo (d - 1))) : muS ln oo (updI oa (d - 1) (oa (d - 1) + 1)) d.toNat + pw6 (oo (d - 1)) = muS ln oo oa d.toNat := by
  rw [muS_s _ _ _ h, muS_s _ _ _ h, updI_s, muS_congr (oo' := oo) (oa' := oa) (d - 1).toNat (fun j a b => ⟨rfl, updI_n (by omega)⟩), show (ln (oo (d - 1)) - oa (d - 1) + 1).toNat = (ln (oo (d - 1)) - (oa (d - 1) + 1) + 1).toNat + 1 by omega, Nat.succ_mul]
  omega
theorem muS_push {ln oo oa : Int → Int} {d g : Int} (h : 0 ≤ d) (hg : 0 ≤ g ∧ ln g ≤ 4) {f : Int} (hf : g < f) : muS ln (updI oo d g) (updI oa d 0) (d + 1).toNat < muS ln oo oa d.toNat + pw6 f := by
  rw [muS_s _ _ _ (show 1 ≤ d + 1 by omega), show d + 1 - 1 = d by omega, updI_s, updI_s, muS_congr (oo' := oo) (oa' := oa) d.toNat (fun j a b => ⟨updI_n (by omega), updI_n (by omega)⟩)]
  have := pw6_lt hg.1 hf (n := (ln g - 0 + 1).toNat) (by omega)
  omega
/-- acts one by one in a row -/
def pfOk (pp : Int → Int) (n : Int) (P : List Int) : Prop := n = (P.length : Int) ∧ ∀ j : Int, 0 ≤ j → j < n → pp j = P.getD j.toNat (-9)
theorem pfOk_snoc {pp : Int → Int} {n v : Int} {P : List Int} (h : pfOk pp n P) : pfOk (updI pp n v) (n + 1) (P ++ [v]) := by
  refine ⟨by rw [List.length_append, h.1]; rfl, fun j a b => ?_⟩
  by_cases e : j = n
  · rw [e, updI_s, List.getD_eq_getElem?_getD, h.1, Int.toNat_natCast, List.getElem?_append_right (Nat.le_refl _), Nat.sub_self]
    rfl
  · rw [updI_n e, h.2 j a (by omega), List.getD_eq_getElem?_getD, List.getD_eq_getElem?_getD, List.getElem?_append_left (by have := h.1; omega)]
