/-! ===== all ways, by the figures of a number ===== -/
def dv : Nat → Int → Int
  | 0, x => x
  | n + 1, x => dv n x / 5
def dg (x g : Int) : Int := dv g.toNat x % 5
theorem dv_nn : ∀ (n : Nat) (x : Int), 0 ≤ x → 0 ≤ dv n x ∧ dv n x ≤ x
  | 0, x, h => ⟨h, Int.le_refl x⟩
  | n + 1, x, h => by
    have := dv_nn n x h
    show 0 ≤ dv n x / 5 ∧ dv n x / 5 ≤ x
    omega
theorem dv_s : ∀ (n : Nat) (x : Int), dv (n + 1) x = dv n (x / 5)
  | 0, _ => rfl
  | n + 1, x => by
    show dv (n + 1) x / 5 = dv n (x / 5) / 5
    rw [dv_s n x]
theorem dg_PCh (x : Int) : PCh (dg x) := fun g => by unfold dg; omega
def encL (c : Int → Int) : Nat → Int → Int
  | 0, _ => 0
  | n + 1, i => c i + 5 * encL c n (i + 1)
def p5 : Nat → Int
  | 0 => 1
  | n + 1 => p5 n * 5
theorem p5_pos : ∀ n : Nat, 1 ≤ p5 n
  | 0 => Int.le_refl 1
  | n + 1 => by have := p5_pos n; show 1 ≤ p5 n * 5; omega
theorem enc_ok {c : Int → Int} (hc : PCh c) : ∀ (n : Nat) (i : Int), (0 ≤ encL c n i ∧ encL c n i < p5 n) ∧ ∀ k : Nat, k < n → dv k (encL c n i) % 5 = c (i + k)
  | 0, _ => ⟨⟨Int.le_refl 0, (by decide : (0 : Int) < 1)⟩, fun k hk => absurd hk (Nat.not_lt_zero k)⟩
  | n + 1, i => by
    obtain ⟨h1, h2⟩ := enc_ok hc n (i + 1)
    have hi := hc i
    refine ⟨?_, fun k hk => ?_⟩
    · show 0 ≤ c i + 5 * encL c n (i + 1) ∧ c i + 5 * encL c n (i + 1) < p5 n * 5
      omega
    · cases k with
      | zero =>
        show (c i + 5 * encL c n (i + 1)) % 5 = c (i + (0 : Nat))
        rw [show i + ((0 : Nat) : Int) = i by omega]
        omega
      | succ k =>
        rw [dv_s]
        show dv k ((c i + 5 * encL c n (i + 1)) / 5) % 5 = _
        rw [show (c i + 5 * encL c n (i + 1)) / 5 = encL c n (i + 1) by omega, h2 k (by omega), show i + 1 + (k : Int) = i + ((k + 1 : Nat) : Int) by omega]
theorem costN_snoc (c : Int → Int) : ∀ (n : Nat) (i : Int), costN c i (n + 1) = costN c i n + if c (i + n) = 0 then 0 else 1
  | 0, i => by
    show (if c i = 0 then (0 : Int) else 1) + 0 = 0 + (if c (i + (0 : Nat)) = 0 then 0 else 1)
    rw [show i + ((0 : Nat) : Int) = i by omega]; omega
  | n + 1, i => by
    show (if c i = 0 then (0 : Int) else 1) + costN c (i + 1) (n + 1) = ((if c i = 0 then (0 : Int) else 1) + costN c (i + 1) n) + _
    rw [costN_snoc c n (i + 1), show i + 1 + (n : Int) = i + ((n + 1 : Nat) : Int) by omega]
    omega
theorem costN_mono (c : Int → Int) (i : Int) {a b : Nat} (h : a ≤ b) : costN c i a ≤ costN c i b := by
  obtain ⟨k, rfl⟩ := Nat.le.dest h
  induction k with
  | zero => exact Int.le_refl _
  | succ k ih =>
    have := ih (Nat.le_add_right _ _)
    rw [show a + (k + 1) = a + k + 1 by omega, costN_snoc]
    split <;> omega
theorem costN_cong {c c' : Int → Int} : ∀ (n : Nat) (i : Int), (∀ j : Int, i ≤ j → j < i + n → c j = c' j) → costN c i n = costN c' i n
  | 0, _, _ => rfl
  | n + 1, i, h => by
    show (if c i = 0 then (0 : Int) else 1) + costN c (i + 1) n = (if c' i = 0 then (0 : Int) else 1) + costN c' (i + 1) n
    rw [h i (Int.le_refl i) (by omega), costN_cong n (i + 1) (fun j a b => h j (by omega) (by omega))]
theorem costN_zero {c : Int → Int} (i : Int) {a b : Nat} (h : a ≤ b) (hz : ∀ j : Int, i + a ≤ j → c j = 0) : costN c i b = costN c i a := by
  obtain ⟨k, rfl⟩ := Nat.le.dest h
  induction k with
  | zero => rfl
  | succ k ih =>
    rw [show a + (k + 1) = a + k + 1 by omega, costN_snoc, ih (Nat.le_add_right _ _), if_pos (hz _ (by omega))]
    omega
theorem outM0_congr {cnt f : Int} {K G : Int → Int} {L : Int} {ln st c c' : Int → Int} (ok : okP cnt ln st) (h0 : 0 ≤ f) (h1 : f < cnt) (h : ∀ g : Int, 0 ≤ g → g ≤ f → c g = c' g) : outM 0 K G K G L ln st f c = outM 0 K G K G L ln st f c' := by
  unfold outM
  rw [sem_pre ok h0 h1 (K' := mixK 0 K K c') (G' := mixG 0 G G c') (fun j a b => ?_)]
  unfold mixK mixG
  rw [if_neg (by omega), if_neg (by omega), if_neg (by omega), if_neg (by omega), h j a b]
  exact ⟨rfl, rfl⟩
/-- the fewest among the first x ways -/
def plI (cnt L : Int) (K G ln st : Int → Int) (f x fw : Int) : Prop := (fw = -9 ∧ ∀ y : Int, 0 ≤ y → y < x → outM 0 K G K G L ln st f (dg y) ≠ 4) ∨ (0 ≤ fw ∧ (∃ y : Int, (0 ≤ y ∧ y < x) ∧ outM 0 K G K G L ln st f (dg y) = 4 ∧ fw = costN (dg y) 0 cnt.toNat) ∧ ∀ y : Int, 0 ≤ y → y < x → outM 0 K G K G L ln st f (dg y) = 4 → fw ≤ costN (dg y) 0 cnt.toNat)
theorem plI_y {cnt L : Int} {K G ln st : Int → Int} {f x fw : Int} (h : plI cnt L K G ln st f x fw) (hx : 0 ≤ x) (hb : fw < 0 ∨ costN (dg x) 0 cnt.toNat < fw) (ho : outM 0 K G K G L ln st f (dg x) = 4) : plI cnt L K G ln st f (x + 1) (costN (dg x) 0 cnt.toNat) := by
  have hn := (costN_nn (dg x) cnt.toNat 0).1
  refine Or.inr ⟨hn, ⟨x, by omega, ho, rfl⟩, fun y a b c => ?_⟩
  by_cases e : y = x
  · rw [e]; exact Int.le_refl _
  · rcases h with ⟨q1, q2⟩ | ⟨q1, q2, q3⟩
    · exact absurd c (q2 y a (by omega))
    · have := q3 y a (by omega) c
      omega
theorem plI_n {cnt L : Int} {K G ln st : Int → Int} {f x fw : Int} (h : plI cnt L K G ln st f x fw) (hx : 0 ≤ x) (hb : outM 0 K G K G L ln st f (dg x) ≠ 4 ∨ ¬ (fw < 0 ∨ costN (dg x) 0 cnt.toNat < fw)) : plI cnt L K G ln st f (x + 1) fw := by
  rcases h with ⟨q1, q2⟩ | ⟨q1, ⟨y0, q2, q3, q4⟩, q5⟩
  · refine Or.inl ⟨q1, fun y a b => ?_⟩
    by_cases e : y = x
    · rw [e]; rcases hb with z | z
      · exact z
      · exact absurd (Or.inl (by omega)) z
    · exact q2 y a (by omega)
  · refine Or.inr ⟨q1, ⟨y0, by omega, q3, q4⟩, fun y a b c => ?_⟩
    by_cases e : y = x
    · rw [e]; rcases hb with z | z
      · exact absurd (by rw [← e]; exact c) z
      · omega
    · exact q5 y a (by omega) c
theorem plI_fin {cnt L : Int} {K G ln st : Int → Int} {f fw : Int} (ok : okP cnt ln st) (h0 : 0 ≤ f) (h1 : f < cnt) (h : plI cnt L K G ln st f (p5 cnt.toNat) fw) : plugsR cnt L K G ln st f fw := by
  have cut : ∀ c : Int → Int, PCh c → ∃ y : Int, (0 ≤ y ∧ y < p5 cnt.toNat) ∧ outM 0 K G K G L ln st f (dg y) = outM 0 K G K G L ln st f c ∧ costN (dg y) 0 cnt.toNat = costI c 0 f := by
    intro c hc
    have hc' : PCh (fun g => if g ≤ f then c g else 0) := fun g => by
      by_cases q : g ≤ f
      · show 0 ≤ (if g ≤ f then c g else 0) ∧ (if g ≤ f then c g else 0) ≤ 4
        rw [if_pos q]; exact hc g
      · show 0 ≤ (if g ≤ f then c g else 0) ∧ (if g ≤ f then c g else 0) ≤ 4
        rw [if_neg q]; decide
    obtain ⟨e1, e2⟩ := enc_ok hc' cnt.toNat 0
    have ed : ∀ g : Int, 0 ≤ g → g < cnt → dg (encL (fun g => if g ≤ f then c g else 0) cnt.toNat 0) g = if g ≤ f then c g else 0 := fun g a b => by
      unfold dg
      rw [e2 g.toNat (by omega), show (0 : Int) + (g.toNat : Int) = g by omega]
    refine ⟨_, e1, ?_, ?_⟩
    · refine outM0_congr ok h0 h1 (fun g a b => ?_)
      rw [ed g a (by omega), if_pos b]
    · have s1 : costN (dg (encL (fun g => if g ≤ f then c g else 0) cnt.toNat 0)) 0 cnt.toNat = costN (fun g => if g ≤ f then c g else 0) 0 cnt.toNat := costN_cong _ _ (fun j a b => ed j a (by omega))
      have s2 : costN (fun g => if g ≤ f then c g else 0) 0 cnt.toNat = costN (fun g => if g ≤ f then c g else 0) 0 (f + 1).toNat := costN_zero 0 (by omega) (fun j a => if_neg (by omega))
      have s3 : costN (fun g => if g ≤ f then c g else 0) 0 (f + 1).toNat = costN c 0 (f + 1).toNat := costN_cong _ _ (fun j a b => if_pos (by omega))
      rw [s1, s2, s3]
      unfold costI
      rw [Int.sub_zero]
  rcases h with ⟨q1, q2⟩ | ⟨q1, ⟨y0, q2, q3, q4⟩, q5⟩
  · refine Or.inl ⟨q1, fun c hc ho => ?_⟩
    obtain ⟨y, r1, r2, -⟩ := cut c hc
    exact q2 y r1.1 r1.2 (r2.trans ho)
  · have key : ∀ c : Int → Int, PCh c → outM 0 K G K G L ln st f c = 4 → fw ≤ costI c 0 f := fun c hc ho => by
      obtain ⟨y, r1, r2, r3⟩ := cut c hc
      rw [← r3]
      exact q5 y r1.1 r1.2 (r2.trans ho)
    refine Or.inr ⟨q1, ⟨dg y0, dg_PCh y0, q3, ?_⟩, key⟩
    have k1 := key (dg y0) (dg_PCh y0) q3
    have k2 : costI (dg y0) 0 f ≤ costN (dg y0) 0 cnt.toNat := by
      unfold costI
      rw [Int.sub_zero]
      exact costN_mono _ _ (by omega)
    omega
theorem plugsR_uniq {cnt L : Int} {K G ln st : Int → Int} {f z z' : Int} (h : plugsR cnt L K G ln st f z) (h' : plugsR cnt L K G ln st f z') : z = z' := by
  rcases h with ⟨a1, a2⟩ | ⟨a1, ⟨c, a2, a3, a4⟩, a5⟩
  · rcases h' with ⟨b1, b2⟩ | ⟨b1, ⟨c', b2, b3, b4⟩, b5⟩
    · omega
    · exact absurd b3 (a2 c' b2)
  · rcases h' with ⟨b1, b2⟩ | ⟨b1, ⟨c', b2, b3, b4⟩, b5⟩
    · exact absurd a3 (b2 c a2)
    · have := a5 c' b2 b3
      have := b5 c a2 a3
      omega
theorem plugsR_congr {cnt L : Int} {K G ln st K' G' ln' st' : Int → Int} {f z : Int} (ok : okP cnt ln st) (ok' : okP cnt ln' st') (hk : ∀ j : Int, 0 ≤ j → j < cnt → K j = K' j ∧ G j = G' j ∧ ln j = ln' j) (hs : ∀ j : Int, 0 ≤ j → j < cnt → ∀ i : Int, 0 ≤ i → i < ln j → st (j * 4 + i) = st' (j * 4 + i)) (h0 : 0 ≤ f) (h1 : f < cnt) (h : plugsR cnt L K G ln st f z) : plugsR cnt L K' G' ln' st' f z := by
  have e : ∀ c : Int → Int, outM 0 K G K G L ln st f c = outM 0 K' G' K' G' L ln' st' f c := fun c => by
    unfold outM
    rw [sem_congr ok ok' (fun j a b => ⟨?_, ?_, (hk j a b).2.2⟩) hs f h0 h1]
    · unfold mixK; rw [if_neg (by omega), if_neg (by omega), (hk j a b).1]
    · unfold mixG; rw [if_neg (by omega), if_neg (by omega), (hk j a b).2.1]
  rcases h with ⟨a1, a2⟩ | ⟨a1, ⟨c, a2, a3, a4⟩, a5⟩
  · exact Or.inl ⟨a1, fun c hc ho => a2 c hc ((e c).trans ho)⟩
  · exact Or.inr ⟨a1, ⟨c, a2, (e c).symm.trans a3, a4⟩, fun c hc ho => a5 c hc ((e c).trans ho)⟩
