/-! ===== the answers ===== -/
theorem cl_toNat {i : Int} (h : 0 ≤ i) (h2 : i < 2147483648) : (iI i).toNatClampNeg = i.toNat := by have := iI_cl h h2; omega
def sOf (cnt : Int) (kd gd ln st : Int → Int) (f w : Int) : Int := if 0 ≤ f ∧ f < cnt then (if w = 0 then kd f else if w = 1 then gd f else if w = 2 then ln f else if w = 3 then rowS kd gd ln st f else if w = 4 then mayGo (fun x => (sem kd gd x ln st f).1) 16 else -2) else -1
def runA (r : Rc) (w : Int) : Int := if w = 0 then (if r.1 = 4 then -9 else r.1) else if w = 1 then (r.2.1.length : Int) else if w = 2 then r.2.2.1 else (r.2.2.2.length : Int)
def sRun (cnt lv : Int) (kd gd ln st : Int → Int) (f w : Int) : Int := if 0 ≤ f ∧ f < cnt then (if 0 ≤ w ∧ w ≤ 3 then runA (sem kd gd lv ln st f) w else -2) else -1
def sPerf (cnt lv : Int) (kd gd ln st : Int → Int) (f k : Int) : Int := if 0 ≤ f ∧ f < cnt then (if k < 0 then -2 else (sem kd gd lv ln st f).2.1.getD k.toNat (-9)) else -1
def sPath (cnt lv : Int) (kd gd ln st : Int → Int) (f k : Int) : Int := if 0 ≤ f ∧ f < cnt then (if 0 ≤ k ∧ k < 5 then (sem kd gd lv ln st f).2.2.2.getD k.toNat (-9) else -2) else -1
def wfrom (o : Int → Int) (a : Int) : Nat → Int → Int
  | 0, _ => -9
  | k + 1, x => if o x = a then x else wfrom o a k (x + 1)
theorem wfrom_s {o : Int → Int} {a x : Int} (h : x < 16) : wfrom o a (16 - x).toNat x = if o x = a then x else wfrom o a (16 - (x + 1)).toNat (x + 1) := by
  rw [show (16 - x).toNat = (16 - (x + 1)).toNat + 1 by omega]
  rfl
theorem wfrom_congr {o o' : Int → Int} {a : Int} : ∀ (n : Nat) (x : Int), (∀ y : Int, x ≤ y → y < x + n → o y = o' y) → wfrom o a n x = wfrom o' a n x
  | 0, _, _ => rfl
  | n + 1, x, h => by
    show (if o x = a then x else wfrom o a n (x + 1)) = (if o' x = a then x else wfrom o' a n (x + 1))
    rw [h x (Int.le_refl x) (by omega), wfrom_congr n (x + 1) (fun y a b => h y (by omega) (by omega))]
def sWit (cnt : Int) (kd gd ln st : Int → Int) (f a : Int) : Int := if 0 ≤ f ∧ f < cnt then (if 0 ≤ a ∧ a < 4 then wfrom (fun x => (sem kd gd x ln st f).1) a 16 0 else -2) else -1
def freeB (o p : Int → Int) : Nat → Bool
  | 0 => true
  | n + 1 => freeB o p n && decide (o (n : Int) = 4 ∨ p (n : Int) = 4 ∨ o (n : Int) = p (n : Int))
theorem freeB_s (o p : Int → Int) {i : Int} (h : 0 ≤ i) : freeB o p (i + 1).toNat = (freeB o p i.toNat && decide (o i = 4 ∨ p i = 4 ∨ o i = p i)) := by
  obtain ⟨k, rfl⟩ := Int.eq_ofNat_of_zero_le h
  rfl
theorem freeB_no {o p : Int → Int} {i : Int} (h : 0 ≤ i) (hn : ¬ (o i = 4 ∨ p i = 4 ∨ o i = p i)) : ∀ n : Nat, i < n → freeB o p n = false
  | 0, h1 => absurd h1 (by omega)
  | n + 1, h1 => by
    show (freeB o p n && decide (o (n : Int) = 4 ∨ p (n : Int) = 4 ∨ o (n : Int) = p (n : Int))) = false
    by_cases e : i = (n : Int)
    · rw [← e, decide_eq_false hn, Bool.and_false]
    · rw [freeB_no h hn n (by omega), Bool.false_and]
def sFree (cnt : Int) (kd gd ln st : Int → Int) (f g : Int) : Int := if (0 ≤ f ∧ f < cnt) ∧ 0 ≤ g ∧ g < cnt then (if freeB (fun x => (sem kd gd x ln st f).1) (fun x => (sem kd gd x ln st g).1) 16 = true then 1 else 0) else -1
def moreGo (o p : Int → Int) : Nat → Int
  | 0 => 0
  | n + 1 => moreGo o p n + if o (n : Int) ≠ 4 ∧ p (n : Int) ≠ o (n : Int) then 1 else 0
theorem moreGo_s (o p : Int → Int) {i : Int} (h : 0 ≤ i) : moreGo o p (i + 1).toNat = moreGo o p i.toNat + if o i ≠ 4 ∧ p i ≠ o i then 1 else 0 := by
  obtain ⟨k, rfl⟩ := Int.eq_ofNat_of_zero_le h
  rfl
def sMore (cnt : Int) (kd gd ln st : Int → Int) (f g : Int) : Int := if (0 ≤ f ∧ f < cnt) ∧ 0 ≤ g ∧ g < cnt then moreGo (fun x => (sem kd gd x ln st f).1) (fun x => (sem kd gd x ln st g).1) 16 else -1
def plugsR (cnt lv : Int) (kd gd ln st : Int → Int) (f z : Int) : Prop := (z = -9 ∧ ∀ c : Int → Int, PCh c → outM 0 kd gd kd gd lv ln st f c ≠ 4) ∨ (0 ≤ z ∧ (∃ c : Int → Int, PCh c ∧ outM 0 kd gd kd gd lv ln st f c = 4 ∧ z = costI c 0 f) ∧ ∀ c : Int → Int, PCh c → outM 0 kd gd kd gd lv ln st f c = 4 → z ≤ costI c 0 f)
def bitsGo (b : Int → Bool) : Nat → Int
  | 0 => 0
  | n + 1 => if b (n : Int) = true then orI (bitsGo b n) (pow2 (n : Int)) else bitsGo b n
theorem bitsGo_s (b : Int → Bool) {i : Int} (h : 0 ≤ i) : bitsGo b (i + 1).toNat = if b i = true then orI (bitsGo b i.toNat) (pow2 i) else bitsGo b i.toNat := by
  obtain ⟨k, rfl⟩ := Int.eq_ofNat_of_zero_le h
  rfl
theorem bitsGo_rng (b : Int → Bool) : ∀ n : Nat, n ≤ 16 → 0 ≤ bitsGo b n ∧ bitsGo b n < 65536
  | 0, _ => ⟨Int.le_refl 0, (show (0 : Int) < 65536 by decide)⟩
  | n + 1, h => by
    have ih := bitsGo_rng b n (by omega)
    show 0 ≤ (if b (n : Int) = true then orI (bitsGo b n) (pow2 (n : Int)) else bitsGo b n) ∧ (if b (n : Int) = true then orI (bitsGo b n) (pow2 (n : Int)) else bitsGo b n) < 65536
    by_cases c : b (n : Int) = true
    · rw [if_pos c]; have := pow2_rng (k := (n : Int)) (by omega); exact orI_rng (by omega)
    · rw [if_neg c]; exact ih
theorem bitsGo_congr {b b' : Int → Bool} : ∀ n : Nat, (∀ j : Int, 0 ≤ j → j < n → b j = b' j) → bitsGo b n = bitsGo b' n
  | 0, _ => rfl
  | n + 1, h => by
    show (if b (n : Int) = true then orI (bitsGo b n) (pow2 (n : Int)) else bitsGo b n) = (if b' (n : Int) = true then orI (bitsGo b' n) (pow2 (n : Int)) else bitsGo b' n)
    rw [bitsGo_congr n (fun j a b => h j a (by omega)), h n (by omega) (by omega)]
def soK (lv : Int) (kd gd ln st : Int → Int) (rn : Int) (rf ro : Int → Int) : Bool := soI (fun g => (sem kd gd lv ln st g).1) rf ro rn.toNat
def sKinds (cnt lv : Int) (kd gd ln st : Int → Int) (rn : Int) (rf ro : Int → Int) (f : Int) : Int := if 0 ≤ f ∧ f < cnt then bitsGo (fun y => soK lv (updI kd f y) gd ln st rn rf ro) 3 else -1
def sGuards (cnt lv : Int) (kd gd ln st : Int → Int) (rn : Int) (rf ro : Int → Int) (f : Int) : Int := if 0 ≤ f ∧ f < cnt then bitsGo (fun y => soK lv kd (updI gd f y) ln st rn rf ro) 4 else -1
def sLives (cnt : Int) (kd gd ln st : Int → Int) (rn : Int) (rf ro : Int → Int) : Int := if cnt = 0 then -3 else bitsGo (fun y => soK y kd gd ln st rn rf ro) 16
def hal : Nat → Int → Int → Int × Int
  | 0, u, l => (u, l)
  | k + 1, u, l => if 1 < l ∧ u % 2 = 0 then hal k (u / 2) (l / 2) else (u, l)
def oddsI (n w : Int) : Int := if w = 0 then (hal 5 n 16).1 else (hal 5 n 16).2
def sOdds (cnt : Int) (kd gd ln st : Int → Int) (f x w : Int) : Int := if (0 ≤ f ∧ f < cnt) ∧ (0 ≤ x ∧ x ≤ 4) ∧ 0 ≤ w ∧ w ≤ 1 then oddsI (cntEq (fun y => (sem kd gd y ln st f).1) x 16) w else -9223372036854775808
def popc (x : Int) : Int := x % 2 + x / 2 % 2 + x / 4 % 2 + x / 8 % 2
def sMany (cnt lv : Int) (kd gd ln st : Int → Int) (rn w : Int) : Int := if w = 0 then cnt else if w = 1 then sumI ln cnt.toNat else if w = 2 then popc lv else if w = 3 then cntNe (fun f => (sem kd gd lv ln st f).1) cnt.toNat else if w = 4 then rn else -2
theorem cntNe_congr {o o' : Int → Int} : ∀ n : Nat, (∀ j : Int, 0 ≤ j → j < n → o j = o' j) → cntNe o n = cntNe o' n
  | 0, _ => rfl
  | n + 1, h => by
    show cntNe o n + (if o (n : Int) = 4 then 0 else 1) = cntNe o' n + (if o' (n : Int) = 4 then 0 else 1)
    rw [cntNe_congr n (fun j a b => h j a (by omega)), h n (by omega) (by omega)]
theorem cntEq_congr {o o' : Int → Int} {x : Int} : ∀ n : Nat, (∀ j : Int, 0 ≤ j → j < n → o j = o' j) → cntEq o x n = cntEq o' x n
  | 0, _ => rfl
  | n + 1, h => by
    show cntEq o x n + (if o (n : Int) = x then 1 else 0) = cntEq o' x n + (if o' (n : Int) = x then 1 else 0)
    rw [cntEq_congr n (fun j a b => h j a (by omega)), h n (by omega) (by omega)]
theorem mayGo_congr {o o' : Int → Int} : ∀ n : Nat, (∀ j : Int, 0 ≤ j → j < n → o j = o' j) → mayGo o n = mayGo o' n
  | 0, _ => rfl
  | n + 1, h => by
    show (if o (n : Int) = 4 then mayGo o n else orI (mayGo o n) (pow2 (o (n : Int)))) = (if o' (n : Int) = 4 then mayGo o' n else orI (mayGo o' n) (pow2 (o' (n : Int))))
    rw [mayGo_congr n (fun j a b => h j a (by omega)), h n (by omega) (by omega)]
theorem freeB_congr {o p o' p' : Int → Int} : ∀ n : Nat, (∀ j : Int, 0 ≤ j → j < n → o j = o' j ∧ p j = p' j) → freeB o p n = freeB o' p' n
  | 0, _ => rfl
  | n + 1, h => by
    show (freeB o p n && decide (o (n : Int) = 4 ∨ p (n : Int) = 4 ∨ o (n : Int) = p (n : Int))) = (freeB o' p' n && decide (o' (n : Int) = 4 ∨ p' (n : Int) = 4 ∨ o' (n : Int) = p' (n : Int)))
    rw [freeB_congr n (fun j a b => h j a (by omega)), (h n (by omega) (by omega)).1, (h n (by omega) (by omega)).2]
theorem moreGo_congr {o p o' p' : Int → Int} : ∀ n : Nat, (∀ j : Int, 0 ≤ j → j < n → o j = o' j ∧ p j = p' j) → moreGo o p n = moreGo o' p' n
  | 0, _ => rfl
  | n + 1, h => by
    show moreGo o p n + (if o (n : Int) ≠ 4 ∧ p (n : Int) ≠ o (n : Int) then 1 else 0) = moreGo o' p' n + (if o' (n : Int) ≠ 4 ∧ p' (n : Int) ≠ o' (n : Int) then 1 else 0)
    rw [moreGo_congr n (fun j a b => h j a (by omega)), (h n (by omega) (by omega)).1, (h n (by omega) (by omega)).2]
theorem soI_oc {o o' rf ro : Int → Int} {cnt : Int} (n : Nat) (hr : ∀ x : Int, 0 ≤ x → x < n → 0 ≤ rf x ∧ rf x < cnt) (h : ∀ f : Int, 0 ≤ f → f < cnt → o f = o' f) : soI o rf ro n = soI o' rf ro n := soI_congr n (fun j a b => ⟨h _ (hr j a b).1 (hr j a b).2, rfl⟩)
theorem hal_r {n : Int} (h : 0 ≤ n ∧ n ≤ 16) (w : Int) : 0 ≤ oddsI n w ∧ oddsI n w ≤ 16 := by
  obtain ⟨k, rfl⟩ := Int.eq_ofNat_of_zero_le h.1
  have key : ∀ k : Nat, k < 17 → (0 ≤ (hal 5 (k : Int) 16).1 ∧ (hal 5 (k : Int) 16).1 ≤ 16) ∧ 0 ≤ (hal 5 (k : Int) 16).2 ∧ (hal 5 (k : Int) 16).2 ≤ 16 := by decide +kernel
  have := key k (by omega)
  unfold oddsI
  split <;> omega
