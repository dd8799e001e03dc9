/-! ===== ints and longs by whole numbers; arrays by functions of whole numbers ===== -/
def iI (z : Int) : Int32 := Int32.ofInt z
def lI (z : Int) : Int64 := Int64.ofInt z
def aI (g : Int → Int) : Nat → Int32 := fun j => iI (g (j : Int))
def updI (g : Int → Int) (i x : Int) : Int → Int := fun j => if j = i then x else g j
theorem updI_s (g : Int → Int) (i x : Int) : updI g i x i = x := if_pos rfl
theorem updI_n {g : Int → Int} {i x j : Int} (h : j ≠ i) : updI g i x j = g j := if_neg h
theorem iI_toInt {z : Int} (h1 : -2147483648 ≤ z) (h2 : z < 2147483648) : (iI z).toInt = z := by
  unfold iI
  exact Int32.toInt_ofInt_of_le h1 h2
theorem lI_toInt {z : Int} (h1 : -9223372036854775808 ≤ z) (h2 : z < 9223372036854775808) : (lI z).toInt = z := by
  unfold lI
  exact Int64.toInt_ofInt_of_le h1 h2
theorem iI_of (x : Int32) : iI x.toInt = x := by unfold iI; exact Int32.ofInt_toInt x
theorem lI_of (x : Int64) : lI x.toInt = x := by unfold lI; exact Int64.ofInt_toInt x
theorem iI_add (a b : Int) : iI a + iI b = iI (a + b) := by unfold iI; exact (Int32.ofInt_add a b).symm
theorem iI_sub (a b : Int) : iI a - iI b = iI (a - b) := by unfold iI; exact (Int32.ofInt_sub a b).symm
theorem iI_mul (a b : Int) : iI a * iI b = iI (a * b) := by unfold iI; exact (Int32.ofInt_mul a b).symm
theorem lI_add (a b : Int) : lI a + lI b = lI (a + b) := by unfold lI; exact (Int64.ofInt_add a b).symm
theorem lI_sub (a b : Int) : lI a - lI b = lI (a - b) := by unfold lI; exact (Int64.ofInt_sub a b).symm
theorem lI_mul (a b : Int) : lI a * lI b = lI (a * b) := by unfold lI; exact (Int64.ofInt_mul a b).symm
theorem iI_rng (x : Int32) : -2147483648 ≤ x.toInt ∧ x.toInt < 2147483648 := ⟨by have := Int32.le_toInt x; simpa using this, by have := Int32.toInt_lt x; simpa using this⟩
theorem iI_eq {a b : Int} (h : (-2147483648 ≤ a ∧ a < 2147483648) ∧ -2147483648 ≤ b ∧ b < 2147483648) : iI a = iI b ↔ a = b := by
  constructor
  · intro q
    have q2 := congrArg Int32.toInt q
    rw [iI_toInt h.1.1 h.1.2, iI_toInt h.2.1 h.2.2] at q2
    exact q2
  · intro q; rw [q]
theorem iI_lt {a b : Int} (h : (-2147483648 ≤ a ∧ a < 2147483648) ∧ -2147483648 ≤ b ∧ b < 2147483648) : iI a < iI b ↔ a < b := by
  rw [Int32.lt_iff_toInt_lt, iI_toInt h.1.1 h.1.2, iI_toInt h.2.1 h.2.2]
theorem iI_le {a b : Int} (h : (-2147483648 ≤ a ∧ a < 2147483648) ∧ -2147483648 ≤ b ∧ b < 2147483648) : iI a ≤ iI b ↔ a ≤ b := by
  rw [Int32.le_iff_toInt_le, iI_toInt h.1.1 h.1.2, iI_toInt h.2.1 h.2.2]
theorem iI_0 : (0 : Int32) = iI 0 := by decide +kernel
theorem iI_nn {i : Int} {n : Nat} (h : 0 ≤ i ∧ i < n) (hn : n < 2147483648) : ∃ k : Nat, i = (k : Int) ∧ k < n ∧ iI i = nI k := by
  obtain ⟨k, rfl⟩ := Int.eq_ofNat_of_zero_le h.1
  refine ⟨k, rfl, by omega, ?_⟩
  apply Int32.toInt_inj.mp
  rw [nI_toInt (by omega), iI_toInt (by omega) (by omega)]
theorem iI_vp {i : Int} {n : Nat} (h : 0 ≤ i ∧ i < n) (hn : n < 2147483648) : vp_in (iI i) n := by
  rw [vp_in_iff, iI_toInt (by omega) (by omega)]
  exact h
theorem iI_cl {i : Int} (h : 0 ≤ i) (h2 : i < 2147483648) : (((iI i).toNatClampNeg : Nat) : Int) = i := by
  obtain ⟨k, rfl⟩ := Int.eq_ofNat_of_zero_le h
  have e : iI (k : Int) = nI k := by
    apply Int32.toInt_inj.mp
    rw [nI_toInt (by omega), iI_toInt (by omega) (by omega)]
  rw [e, nI_clamp (by omega)]
theorem aI_at {g : Int → Int} {i : Int} (h : 0 ≤ i) (h2 : i < 2147483648) : aI g (iI i).toNatClampNeg = iI (g i) := by
  unfold aI
  rw [iI_cl h h2]
theorem aI_upd {g : Int → Int} {i x : Int} (h : 0 ≤ i) (h2 : i < 2147483648) : upd (aI g) (iI i).toNatClampNeg (iI x) = aI (updI g i x) := by
  funext j
  unfold upd aI updI
  by_cases hj : j = (iI i).toNatClampNeg
  · have : (j : Int) = i := by rw [hj]; exact iI_cl h h2
    rw [if_pos hj, if_pos this]
  · have : ¬ (j : Int) = i := fun q => hj (by have := iI_cl h h2; omega)
    rw [if_neg hj, if_neg this]
/-! the nest's words -/
def nwT : List (String × Nat × String × String × String) := [("ActRows", 103, "ActRows$Program", "guarded", "[I"), ("ActRows", 106, "ActRows$Program", "lengths", "[I"), ("ActRows", 140, "ActRows$Program", "live", "I"), ("ActRows", 146, "ActRows$Trial", "outs", "[I"), ("ActRows", 149, "ActRows$Trial", "actCounts", "[I"), ("ActRows", 152, "ActRows$Trial", "endCounts", "[I"), ("ActRows", 194, "ActRows$Trial", "kinds", "[I"), ("ActRows", 199, "ActRows$Trial", "guarded", "[I"), ("ActRows", 200, "ActRows$Trial", "live", "I"), ("ActRows", 225, "ActRows$Sheet", "lane", "I"), ("ActRows", 228, "ActRows$Sheet", "cells", "[I"), ("ActRows", 31, "ActRows$Trial", "program", "LActRows$Program;"), ("ActRows", 79, "ActRows$Text", "draft", "LActRows$Program;"), ("ActRows", 88, "ActRows$Readings", "count", "I"), ("ActRows", 95, "ActRows$Program", "count", "I"), ("ActRows", 99, "ActRows$Program", "kinds", "[I"), ("ActRows$Day", 39, "ActRows$Trial", "live", "I"), ("ActRows$Day", 42, "ActRows$Trial", "program", "LActRows$Program;"), ("ActRows$Day", 56, "ActRows$Trial", "guarded", "[I"), ("ActRows$Day", 63, "ActRows$Trial", "actCounts", "[I"), ("ActRows$Day", 66, "ActRows$Trial", "endCounts", "[I"), ("ActRows$Day", 69, "ActRows$Trial", "outs", "[I"), ("ActRows$Readings", 33, "ActRows$Trial", "program", "LActRows$Program;"), ("ActRows$Readings", 43, "ActRows$Trial", "outs", "[I"), ("ActRows$Text", 54, "ActRows$Program", "count", "I"), ("ActRows$Text", 60, "ActRows$Program", "kinds", "[I"), ("ActRows$Text", 64, "ActRows$Program", "guarded", "[I"), ("ActRows$Trial", 44, "ActRows$Program", "kinds", "[I"), ("ActRows$Trial", 51, "ActRows$Program", "guarded", "[I"), ("ActRows$Trial", 52, "ActRows$Program", "live", "I"), ("ActRows$Trial", 56, "ActRows$Program", "count", "I"), ("ActRows$Trial", 63, "ActRows$Program", "lengths", "[I")]
def NW (U : State) : Prop := ∀ t ∈ nwT, va_Nw (.fieldLinkNest t.1 t.2.1 t.2.2.1 t.2.2.2.1 t.2.2.2.2 "ActRows") U
theorem NW.warm {s U : State} (hW : s.WarmedH U.vm) (h : NW s) : NW U := fun t ht => va_Nw.warmF hW (h t ht)
theorem NW.same {u U : State} (e : u.vm = U.vm) (h : NW u) : NW U := fun t ht => va_Nw.same rfl e (h t ht)
/-- classes, the int arrays' class, the sheets' array's class, the nest's words -/
def KK (D : va_G) (cI cS : ClassId) (U : State) : Prop := va_K D vwCl [(cI, .int), (cS, .object "ActRows$Sheet")] U ∧ NW U
theorem KK.warm {D : va_G} {cI cS : ClassId} {s U : State} (hW : s.WarmedH U.vm) (h : KK D cI cS s) : KK D cI cS U := ⟨va_K.moved hW.alike h.1, NW.warm hW h.2⟩
theorem KK.call {D : va_G} {cI cS : ClassId} {U : State} {g : JFrame} {mk : MethodId} {a : Array Value} (h : KK D cI cS U) : KK D cI cS (U.calling g mk a) := ⟨va_K.moved (u := U) (U := U.calling g mk a) (Vm.Alike.refl U.vm) h.1, NW.same (u := U) (U := U.calling g mk a) rfl h.2⟩
/-- a contract's start, the world behind it -/
def cP (D : va_G) (cI cS : ClassId) (Wc : va_W) (sz : Nat) (av : List Value) : Array Value → State → Prop := va_Pc av (fun U => U.heap.size = sz ∧ va_P D vwCl Wc U.heap ∧ KK D cI cS U ∧ va_D (fun _ => True) Wc)
def cB (D : va_G) (A : Nat → Prop) (w : va_W) (t : State) : Prop := va_P D vwCl w t.heap ∧ va_D A w
theorem cP.blind {D : va_G} {cI cS : ClassId} {Wc : va_W} {sz : Nat} {av : List Value} : FrameBlind (cP D cI cS Wc sz av) := by
  intro a U g mk q
  obtain ⟨q0, q1, qP, qK, qD⟩ := q
  exact ⟨q0, q1, qP, KK.call qK, qD⟩
theorem map_filter {α β : Type} {f : α → Option β} : ∀ {l : List α} {r : List β}, l.map f = r.map some → l.filterMap f = r
  | [], [], _ => rfl
  | [], _ :: _, h => by simp at h
  | _ :: _, [], h => by simp at h
  | a :: l, b :: r, h => by
    simp only [List.map_cons, List.cons.injEq] at h
    rw [List.filterMap_cons, h.1]
    exact congrArg (fun x => b :: x) (map_filter h.2)
section XC
variable {p : Program} {l : Launch} {e : Env} {R : Room} {s : State} {m : MethodId} {args : Array Value} {below : List Frame} {meth : Method} {c : Code} {H : Heap} {locs : List Loc} {cells slots : Nat} {Q : State → Prop}
variable {cc : ByteArray} {pc : Nat} {ls : Array Slot} {rest st0 : List Value} {D : va_G} {A : Nat → Prop} {H0 : Heap} {Wd : va_W} {cI cS : ClassId} {tys : List (ClassId × FieldType)}
theorem n_iadd (hexec : p.tables.exec = Jvm.exec) (hb : c.code = cc) {x y : Int} (hdg : decode cc pc = .ok (.iadd, 1)) (k : W p l e R s m args below meth c H locs cells slots Q (F0 m (pc + 1) ls (.int (iI (x + y)) :: rest))) : W p l e R s m args below meth c H locs cells slots Q (F0 m pc ls (.int (iI y) :: .int (iI x) :: rest)) := lv_iadd hexec hb hdg (by rw [iI_add]; exact k)
theorem n_isub (hexec : p.tables.exec = Jvm.exec) (hb : c.code = cc) {x y : Int} (hdg : decode cc pc = .ok (.isub, 1)) (k : W p l e R s m args below meth c H locs cells slots Q (F0 m (pc + 1) ls (.int (iI (x - y)) :: rest))) : W p l e R s m args below meth c H locs cells slots Q (F0 m pc ls (.int (iI y) :: .int (iI x) :: rest)) := lv_isub hexec hb hdg (by rw [iI_sub]; exact k)
theorem n_imul (hexec : p.tables.exec = Jvm.exec) (hb : c.code = cc) {x y : Int} (hdg : decode cc pc = .ok (.imul, 1)) (k : W p l e R s m args below meth c H locs cells slots Q (F0 m (pc + 1) ls (.int (iI (x * y)) :: rest))) : W p l e R s m args below meth c H locs cells slots Q (F0 m pc ls (.int (iI y) :: .int (iI x) :: rest)) := lv_imul hexec hb hdg (by rw [iI_mul]; exact k)
theorem n_ladd (hexec : p.tables.exec = Jvm.exec) (hb : c.code = cc) {x y : Int} (hdg : decode cc pc = .ok (.ladd, 1)) (k : W p l e R s m args below meth c H locs cells slots Q (F0 m (pc + 1) ls (.long (lI (x + y)) :: rest))) : W p l e R s m args below meth c H locs cells slots Q (F0 m pc ls (.long (lI y) :: .long (lI x) :: rest)) := lv_ladd hexec hb hdg (by rw [lI_add]; exact k)
theorem n_lsub (hexec : p.tables.exec = Jvm.exec) (hb : c.code = cc) {x y : Int} (hdg : decode cc pc = .ok (.lsub, 1)) (k : W p l e R s m args below meth c H locs cells slots Q (F0 m (pc + 1) ls (.long (lI (x - y)) :: rest))) : W p l e R s m args below meth c H locs cells slots Q (F0 m pc ls (.long (lI y) :: .long (lI x) :: rest)) := lv_lsub hexec hb hdg (by rw [lI_sub]; exact k)
theorem n_lmul (hexec : p.tables.exec = Jvm.exec) (hb : c.code = cc) {x y : Int} (hdg : decode cc pc = .ok (.lmul, 1)) (k : W p l e R s m args below meth c H locs cells slots Q (F0 m (pc + 1) ls (.long (lI (x * y)) :: rest))) : W p l e R s m args below meth c H locs cells slots Q (F0 m pc ls (.long (lI y) :: .long (lI x) :: rest)) := lv_lmul hexec hb hdg (by rw [lI_mul]; exact k)
theorem n_i2l (hexec : p.tables.exec = Jvm.exec) (hb : c.code = cc) {x : Int} (hr : -2147483648 ≤ x ∧ x < 2147483648) (hdg : decode cc pc = .ok (.i2l, 1)) (k : W p l e R s m args below meth c H locs cells slots Q (F0 m (pc + 1) ls (.long (lI x) :: rest))) : W p l e R s m args below meth c H locs cells slots Q (F0 m pc ls (.int (iI x) :: rest)) := lv_i2l (v := lI x) hexec hb hdg (by
    apply Int64.toInt_inj.mp
    rw [Int32.toInt_toInt64, iI_toInt hr.1 hr.2, lI_toInt (by omega) (by omega)]) k
theorem n_icmp_eq (hexec : p.tables.exec = Jvm.exec) (hb : c.code = cc) {x y : Int} {off : Int} {tgt : Nat} (hdg : decode cc pc = .ok (.if_icmp .eq off, 3)) (ht : (pc : Int) + off = (tgt : Int)) (h : (-2147483648 ≤ x ∧ x < 2147483648) ∧ -2147483648 ≤ y ∧ y < 2147483648) (kt : x = y → W p l e R s m args below meth c H locs cells slots Q (F0 m tgt ls rest)) (kf : ¬ x = y → W p l e R s m args below meth c H locs cells slots Q (F0 m (pc + 3) ls rest)) : W p l e R s m args below meth c H locs cells slots Q (F0 m pc ls (.int (iI y) :: .int (iI x) :: rest)) := lv_icmp_eq hexec hb hdg ht (fun q => kt ((iI_eq h).mp q)) (fun q => kf (fun z => q ((iI_eq h).mpr z)))
theorem n_if_eq (hexec : p.tables.exec = Jvm.exec) (hb : c.code = cc) {x : Int} {off : Int} {tgt : Nat} (hdg : decode cc pc = .ok (.ifCond .eq off, 3)) (ht : (pc : Int) + off = (tgt : Int)) (h : -2147483648 ≤ x ∧ x < 2147483648) (kt : x = 0 → W p l e R s m args below meth c H locs cells slots Q (F0 m tgt ls rest)) (kf : ¬ x = 0 → W p l e R s m args below meth c H locs cells slots Q (F0 m (pc + 3) ls rest)) : W p l e R s m args below meth c H locs cells slots Q (F0 m pc ls (.int (iI x) :: rest)) := lv_if_eq hexec hb hdg ht (fun q => kt ((by rw [iI_0]; exact (iI_eq ⟨h, by omega⟩) : iI x = 0 ↔ x = 0).mp q)) (fun q => kf (fun z => q ((by rw [iI_0]; exact (iI_eq ⟨h, by omega⟩) : iI x = 0 ↔ x = 0).mpr z)))
theorem n_icmp_ne (hexec : p.tables.exec = Jvm.exec) (hb : c.code = cc) {x y : Int} {off : Int} {tgt : Nat} (hdg : decode cc pc = .ok (.if_icmp .ne off, 3)) (ht : (pc : Int) + off = (tgt : Int)) (h : (-2147483648 ≤ x ∧ x < 2147483648) ∧ -2147483648 ≤ y ∧ y < 2147483648) (kt : ¬ x = y → W p l e R s m args below meth c H locs cells slots Q (F0 m tgt ls rest)) (kf : x = y → W p l e R s m args below meth c H locs cells slots Q (F0 m (pc + 3) ls rest)) : W p l e R s m args below meth c H locs cells slots Q (F0 m pc ls (.int (iI y) :: .int (iI x) :: rest)) := lv_icmp_ne hexec hb hdg ht (fun q => kt (fun z => q ((iI_eq h).mpr z))) (fun q => kf ((iI_eq h).mp q))
theorem n_if_ne (hexec : p.tables.exec = Jvm.exec) (hb : c.code = cc) {x : Int} {off : Int} {tgt : Nat} (hdg : decode cc pc = .ok (.ifCond .ne off, 3)) (ht : (pc : Int) + off = (tgt : Int)) (h : -2147483648 ≤ x ∧ x < 2147483648) (kt : ¬ x = 0 → W p l e R s m args below meth c H locs cells slots Q (F0 m tgt ls rest)) (kf : x = 0 → W p l e R s m args below meth c H locs cells slots Q (F0 m (pc + 3) ls rest)) : W p l e R s m args below meth c H locs cells slots Q (F0 m pc ls (.int (iI x) :: rest)) := lv_if_ne hexec hb hdg ht (fun q => kt (fun z => q ((by rw [iI_0]; exact (iI_eq ⟨h, by omega⟩) : iI x = 0 ↔ x = 0).mpr z))) (fun q => kf ((by rw [iI_0]; exact (iI_eq ⟨h, by omega⟩) : iI x = 0 ↔ x = 0).mp q))
theorem n_icmp_lt (hexec : p.tables.exec = Jvm.exec) (hb : c.code = cc) {x y : Int} {off : Int} {tgt : Nat} (hdg : decode cc pc = .ok (.if_icmp .lt off, 3)) (ht : (pc : Int) + off = (tgt : Int)) (h : (-2147483648 ≤ x ∧ x < 2147483648) ∧ -2147483648 ≤ y ∧ y < 2147483648) (kt : x < y → W p l e R s m args below meth c H locs cells slots Q (F0 m tgt ls rest)) (kf : ¬ x < y → W p l e R s m args below meth c H locs cells slots Q (F0 m (pc + 3) ls rest)) : W p l e R s m args below meth c H locs cells slots Q (F0 m pc ls (.int (iI y) :: .int (iI x) :: rest)) := lv_icmp_lt hexec hb hdg ht (fun q => kt ((iI_lt h).mp q)) (fun q => kf (fun z => q ((iI_lt h).mpr z)))
theorem n_if_lt (hexec : p.tables.exec = Jvm.exec) (hb : c.code = cc) {x : Int} {off : Int} {tgt : Nat} (hdg : decode cc pc = .ok (.ifCond .lt off, 3)) (ht : (pc : Int) + off = (tgt : Int)) (h : -2147483648 ≤ x ∧ x < 2147483648) (kt : x < 0 → W p l e R s m args below meth c H locs cells slots Q (F0 m tgt ls rest)) (kf : ¬ x < 0 → W p l e R s m args below meth c H locs cells slots Q (F0 m (pc + 3) ls rest)) : W p l e R s m args below meth c H locs cells slots Q (F0 m pc ls (.int (iI x) :: rest)) := lv_if_lt hexec hb hdg ht (fun q => kt ((by rw [iI_0]; exact (iI_lt ⟨h, by omega⟩) : iI x < 0 ↔ x < 0).mp q)) (fun q => kf (fun z => q ((by rw [iI_0]; exact (iI_lt ⟨h, by omega⟩) : iI x < 0 ↔ x < 0).mpr z)))
theorem n_icmp_ge (hexec : p.tables.exec = Jvm.exec) (hb : c.code = cc) {x y : Int} {off : Int} {tgt : Nat} (hdg : decode cc pc = .ok (.if_icmp .ge off, 3)) (ht : (pc : Int) + off = (tgt : Int)) (h : (-2147483648 ≤ x ∧ x < 2147483648) ∧ -2147483648 ≤ y ∧ y < 2147483648) (kt : y ≤ x → W p l e R s m args below meth c H locs cells slots Q (F0 m tgt ls rest)) (kf : ¬ y ≤ x → W p l e R s m args below meth c H locs cells slots Q (F0 m (pc + 3) ls rest)) : W p l e R s m args below meth c H locs cells slots Q (F0 m pc ls (.int (iI y) :: .int (iI x) :: rest)) := lv_icmp_ge hexec hb hdg ht (fun q => kt ((iI_le ⟨h.2, h.1⟩).mp q)) (fun q => kf (fun z => q ((iI_le ⟨h.2, h.1⟩).mpr z)))
theorem n_if_ge (hexec : p.tables.exec = Jvm.exec) (hb : c.code = cc) {x : Int} {off : Int} {tgt : Nat} (hdg : decode cc pc = .ok (.ifCond .ge off, 3)) (ht : (pc : Int) + off = (tgt : Int)) (h : -2147483648 ≤ x ∧ x < 2147483648) (kt : 0 ≤ x → W p l e R s m args below meth c H locs cells slots Q (F0 m tgt ls rest)) (kf : ¬ 0 ≤ x → W p l e R s m args below meth c H locs cells slots Q (F0 m (pc + 3) ls rest)) : W p l e R s m args below meth c H locs cells slots Q (F0 m pc ls (.int (iI x) :: rest)) := lv_if_ge hexec hb hdg ht (fun q => kt ((by rw [iI_0]; exact (iI_le ⟨by omega, h⟩) : 0 ≤ iI x ↔ 0 ≤ x).mp q)) (fun q => kf (fun z => q ((by rw [iI_0]; exact (iI_le ⟨by omega, h⟩) : 0 ≤ iI x ↔ 0 ≤ x).mpr z)))
theorem n_icmp_gt (hexec : p.tables.exec = Jvm.exec) (hb : c.code = cc) {x y : Int} {off : Int} {tgt : Nat} (hdg : decode cc pc = .ok (.if_icmp .gt off, 3)) (ht : (pc : Int) + off = (tgt : Int)) (h : (-2147483648 ≤ x ∧ x < 2147483648) ∧ -2147483648 ≤ y ∧ y < 2147483648) (kt : y < x → W p l e R s m args below meth c H locs cells slots Q (F0 m tgt ls rest)) (kf : ¬ y < x → W p l e R s m args below meth c H locs cells slots Q (F0 m (pc + 3) ls rest)) : W p l e R s m args below meth c H locs cells slots Q (F0 m pc ls (.int (iI y) :: .int (iI x) :: rest)) := lv_icmp_gt hexec hb hdg ht (fun q => kt ((iI_lt ⟨h.2, h.1⟩).mp q)) (fun q => kf (fun z => q ((iI_lt ⟨h.2, h.1⟩).mpr z)))
theorem n_if_gt (hexec : p.tables.exec = Jvm.exec) (hb : c.code = cc) {x : Int} {off : Int} {tgt : Nat} (hdg : decode cc pc = .ok (.ifCond .gt off, 3)) (ht : (pc : Int) + off = (tgt : Int)) (h : -2147483648 ≤ x ∧ x < 2147483648) (kt : 0 < x → W p l e R s m args below meth c H locs cells slots Q (F0 m tgt ls rest)) (kf : ¬ 0 < x → W p l e R s m args below meth c H locs cells slots Q (F0 m (pc + 3) ls rest)) : W p l e R s m args below meth c H locs cells slots Q (F0 m pc ls (.int (iI x) :: rest)) := lv_if_gt hexec hb hdg ht (fun q => kt ((by rw [iI_0]; exact (iI_lt ⟨by omega, h⟩) : 0 < iI x ↔ 0 < x).mp q)) (fun q => kf (fun z => q ((by rw [iI_0]; exact (iI_lt ⟨by omega, h⟩) : 0 < iI x ↔ 0 < x).mpr z)))
theorem n_icmp_le (hexec : p.tables.exec = Jvm.exec) (hb : c.code = cc) {x y : Int} {off : Int} {tgt : Nat} (hdg : decode cc pc = .ok (.if_icmp .le off, 3)) (ht : (pc : Int) + off = (tgt : Int)) (h : (-2147483648 ≤ x ∧ x < 2147483648) ∧ -2147483648 ≤ y ∧ y < 2147483648) (kt : x ≤ y → W p l e R s m args below meth c H locs cells slots Q (F0 m tgt ls rest)) (kf : ¬ x ≤ y → W p l e R s m args below meth c H locs cells slots Q (F0 m (pc + 3) ls rest)) : W p l e R s m args below meth c H locs cells slots Q (F0 m pc ls (.int (iI y) :: .int (iI x) :: rest)) := lv_icmp_le hexec hb hdg ht (fun q => kt ((iI_le h).mp q)) (fun q => kf (fun z => q ((iI_le h).mpr z)))
theorem n_if_le (hexec : p.tables.exec = Jvm.exec) (hb : c.code = cc) {x : Int} {off : Int} {tgt : Nat} (hdg : decode cc pc = .ok (.ifCond .le off, 3)) (ht : (pc : Int) + off = (tgt : Int)) (h : -2147483648 ≤ x ∧ x < 2147483648) (kt : x ≤ 0 → W p l e R s m args below meth c H locs cells slots Q (F0 m tgt ls rest)) (kf : ¬ x ≤ 0 → W p l e R s m args below meth c H locs cells slots Q (F0 m (pc + 3) ls rest)) : W p l e R s m args below meth c H locs cells slots Q (F0 m pc ls (.int (iI x) :: rest)) := lv_if_le hexec hb hdg ht (fun q => kt ((by rw [iI_0]; exact (iI_le ⟨h, by omega⟩) : iI x ≤ 0 ↔ x ≤ 0).mp q)) (fun q => kf (fun z => q ((by rw [iI_0]; exact (iI_le ⟨h, by omega⟩) : iI x ≤ 0 ↔ x ≤ 0).mpr z)))
theorem n_lcmp_ge (hexec : p.tables.exec = Jvm.exec) (hb : c.code = cc) {x y : Int} {off : Int} {tgt : Nat} (hd1 : decode cc pc = .ok (.lcmp, 1)) (hdg : decode cc (pc + 1) = .ok (.ifCond .ge off, 3)) (ht : ((pc + 1 : Nat) : Int) + off = (tgt : Int)) (h : (-9223372036854775808 ≤ x ∧ x < 9223372036854775808) ∧ -9223372036854775808 ≤ y ∧ y < 9223372036854775808) (kt : y ≤ x → W p l e R s m args below meth c H locs cells slots Q (F0 m tgt ls rest)) (kf : ¬ y ≤ x → W p l e R s m args below meth c H locs cells slots Q (F0 m (pc + 1 + 3) ls rest)) : W p l e R s m args below meth c H locs cells slots Q (F0 m pc ls (.long (lI y) :: .long (lI x) :: rest)) := by
  refine W.lcmp hexec hb hd1 ?_
  have e1 := lI_toInt h.1.1 h.1.2
  have e2 := lI_toInt h.2.1 h.2.2
  refine lv_if_ge hexec hb hdg ht (fun q => kt ?_) (fun q => kf ?_)
  · rw [lg_cmp_ge, Int64.le_iff_toInt_le, e1, e2] at q; exact q
  · rw [lg_cmp_ge, Int64.le_iff_toInt_le, e1, e2] at q; exact q
theorem n_lcmp_le (hexec : p.tables.exec = Jvm.exec) (hb : c.code = cc) {x y : Int} {off : Int} {tgt : Nat} (hd1 : decode cc pc = .ok (.lcmp, 1)) (hdg : decode cc (pc + 1) = .ok (.ifCond .le off, 3)) (ht : ((pc + 1 : Nat) : Int) + off = (tgt : Int)) (h : (-9223372036854775808 ≤ x ∧ x < 9223372036854775808) ∧ -9223372036854775808 ≤ y ∧ y < 9223372036854775808) (kt : x ≤ y → W p l e R s m args below meth c H locs cells slots Q (F0 m tgt ls rest)) (kf : ¬ x ≤ y → W p l e R s m args below meth c H locs cells slots Q (F0 m (pc + 1 + 3) ls rest)) : W p l e R s m args below meth c H locs cells slots Q (F0 m pc ls (.long (lI y) :: .long (lI x) :: rest)) := by
  refine W.lcmp hexec hb hd1 ?_
  have e1 := lI_toInt h.1.1 h.1.2
  have e2 := lI_toInt h.2.1 h.2.2
  refine lv_if_le hexec hb hdg ht (fun q => kt ?_) (fun q => kf ?_)
  · rw [lg_cmp_le, Int64.le_iff_toInt_le, e1, e2] at q; exact q
  · rw [lg_cmp_le, Int64.le_iff_toInt_le, e1, e2] at q; exact q
theorem n_lcmp_gt (hexec : p.tables.exec = Jvm.exec) (hb : c.code = cc) {x y : Int} {off : Int} {tgt : Nat} (hd1 : decode cc pc = .ok (.lcmp, 1)) (hdg : decode cc (pc + 1) = .ok (.ifCond .gt off, 3)) (ht : ((pc + 1 : Nat) : Int) + off = (tgt : Int)) (h : (-9223372036854775808 ≤ x ∧ x < 9223372036854775808) ∧ -9223372036854775808 ≤ y ∧ y < 9223372036854775808) (kt : y < x → W p l e R s m args below meth c H locs cells slots Q (F0 m tgt ls rest)) (kf : ¬ y < x → W p l e R s m args below meth c H locs cells slots Q (F0 m (pc + 1 + 3) ls rest)) : W p l e R s m args below meth c H locs cells slots Q (F0 m pc ls (.long (lI y) :: .long (lI x) :: rest)) := by
  refine W.lcmp hexec hb hd1 ?_
  have e1 := lI_toInt h.1.1 h.1.2
  have e2 := lI_toInt h.2.1 h.2.2
  refine lv_if_gt hexec hb hdg ht (fun q => kt ?_) (fun q => kf ?_)
  · rw [lg_cmp_gt, Int64.lt_iff_toInt_lt, e1, e2] at q; exact q
  · rw [lg_cmp_gt, Int64.lt_iff_toInt_lt, e1, e2] at q; exact q
theorem n_lcmp_lt (hexec : p.tables.exec = Jvm.exec) (hb : c.code = cc) {x y : Int} {off : Int} {tgt : Nat} (hd1 : decode cc pc = .ok (.lcmp, 1)) (hdg : decode cc (pc + 1) = .ok (.ifCond .lt off, 3)) (ht : ((pc + 1 : Nat) : Int) + off = (tgt : Int)) (h : (-9223372036854775808 ≤ x ∧ x < 9223372036854775808) ∧ -9223372036854775808 ≤ y ∧ y < 9223372036854775808) (kt : x < y → W p l e R s m args below meth c H locs cells slots Q (F0 m tgt ls rest)) (kf : ¬ x < y → W p l e R s m args below meth c H locs cells slots Q (F0 m (pc + 1 + 3) ls rest)) : W p l e R s m args below meth c H locs cells slots Q (F0 m pc ls (.long (lI y) :: .long (lI x) :: rest)) := by
  refine W.lcmp hexec hb hd1 ?_
  have e1 := lI_toInt h.1.1 h.1.2
  have e2 := lI_toInt h.2.1 h.2.2
  refine lv_if_lt hexec hb hdg ht (fun q => kt ?_) (fun q => kf ?_)
  · rw [lg_cmp_lt, Int64.lt_iff_toInt_lt, e1, e2] at q; exact q
  · rw [lg_cmp_lt, Int64.lt_iff_toInt_lt, e1, e2] at q; exact q
theorem n_lcmp_eq (hexec : p.tables.exec = Jvm.exec) (hb : c.code = cc) {x y : Int} {off : Int} {tgt : Nat} (hd1 : decode cc pc = .ok (.lcmp, 1)) (hdg : decode cc (pc + 1) = .ok (.ifCond .eq off, 3)) (ht : ((pc + 1 : Nat) : Int) + off = (tgt : Int)) (h : (-9223372036854775808 ≤ x ∧ x < 9223372036854775808) ∧ -9223372036854775808 ≤ y ∧ y < 9223372036854775808) (kt : x = y → W p l e R s m args below meth c H locs cells slots Q (F0 m tgt ls rest)) (kf : ¬ x = y → W p l e R s m args below meth c H locs cells slots Q (F0 m (pc + 1 + 3) ls rest)) : W p l e R s m args below meth c H locs cells slots Q (F0 m pc ls (.long (lI y) :: .long (lI x) :: rest)) := by
  refine W.lcmp hexec hb hd1 ?_
  have e1 := lI_toInt h.1.1 h.1.2
  have e2 := lI_toInt h.2.1 h.2.2
  refine lv_if_eq hexec hb hdg ht (fun q => kt ?_) (fun q => kf ?_)
  · rw [lg_cmp_eq, ← Int64.toInt_inj, e1, e2] at q; exact q
  · rw [lg_cmp_eq, ← Int64.toInt_inj, e1, e2] at q; exact q
theorem n_lcmp_ne (hexec : p.tables.exec = Jvm.exec) (hb : c.code = cc) {x y : Int} {off : Int} {tgt : Nat} (hd1 : decode cc pc = .ok (.lcmp, 1)) (hdg : decode cc (pc + 1) = .ok (.ifCond .ne off, 3)) (ht : ((pc + 1 : Nat) : Int) + off = (tgt : Int)) (h : (-9223372036854775808 ≤ x ∧ x < 9223372036854775808) ∧ -9223372036854775808 ≤ y ∧ y < 9223372036854775808) (kt : ¬ x = y → W p l e R s m args below meth c H locs cells slots Q (F0 m tgt ls rest)) (kf : x = y → W p l e R s m args below meth c H locs cells slots Q (F0 m (pc + 1 + 3) ls rest)) : W p l e R s m args below meth c H locs cells slots Q (F0 m pc ls (.long (lI y) :: .long (lI x) :: rest)) := by
  refine W.lcmp hexec hb hd1 ?_
  have e1 := lI_toInt h.1.1 h.1.2
  have e2 := lI_toInt h.2.1 h.2.2
  refine lv_if_ne hexec hb hdg ht (fun q => kt ?_) (fun q => kf ?_)
  · rw [lg_cmp_eq, ← Int64.toInt_inj, e1, e2] at q; exact q
  · rw [lg_cmp_eq, ← Int64.toInt_inj, e1, e2] at q; exact q
theorem n_if_b1 (hexec : p.tables.exec = Jvm.exec) (hb : c.code = cc) {P : Prop} {dP : Decidable P} {off : Int} {tgt : Nat} (hdg : decode cc pc = .ok (.ifCond .eq off, 3)) (ht : (pc : Int) + off = (tgt : Int)) (kt : ¬ P → W p l e R s m args below meth c H locs cells slots Q (F0 m tgt ls rest)) (kf : P → W p l e R s m args below meth c H locs cells slots Q (F0 m (pc + 3) ls rest)) : W p l e R s m args below meth c H locs cells slots Q (F0 m pc ls (.int (iI (@ite Int P dP 1 0)) :: rest)) := by
  refine lv_if_eq hexec hb hdg ht (fun q => ?_) (fun q => ?_)
  · refine kt (fun hp => ?_)
    rw [if_pos hp] at q
    exact absurd q (by decide +kernel)
  · refine kf (Decidable.by_contra fun hp => ?_)
    rw [if_neg hp] at q
    exact q (by decide +kernel)
theorem n_if_b2 (hexec : p.tables.exec = Jvm.exec) (hb : c.code = cc) {P : Prop} {dP : Decidable P} {off : Int} {tgt : Nat} (hdg : decode cc pc = .ok (.ifCond .ne off, 3)) (ht : (pc : Int) + off = (tgt : Int)) (kt : P → W p l e R s m args below meth c H locs cells slots Q (F0 m tgt ls rest)) (kf : ¬ P → W p l e R s m args below meth c H locs cells slots Q (F0 m (pc + 3) ls rest)) : W p l e R s m args below meth c H locs cells slots Q (F0 m pc ls (.int (iI (@ite Int P dP 1 0)) :: rest)) := by
  refine lv_if_ne hexec hb hdg ht (fun q => ?_) (fun q => ?_)
  · refine kt (Decidable.by_contra fun hp => ?_)
    rw [if_neg hp] at q
    exact q (by decide +kernel)
  · refine kf (fun hp => ?_)
    rw [if_pos hp] at q
    exact absurd q (by decide +kernel)
theorem n_iald (hexec : p.tables.exec = Jvm.exec) (hb : c.code = cc) (hK : va_K D vwCl tys s) (hP : va_P D vwCl Wd H) (q0 t0 : Nat) {a : Nat} {cA : ClassId} {n : Nat} {g : Int → Int} (ha : Wd[q0]? = some (a, .inl (cA, n, .inl (aI g)))) (ht : tys[t0]? = some (cA, .int)) {i : Int} (hin : 0 ≤ i ∧ i < n) (hn : n < 2147483648) (hdg : decode cc pc = .ok (.iaload, 1))
    (kk : W p l e R s m args below meth c H locs cells slots Q (F0 m (pc + 1) ls (.int (iI (g i)) :: rest))) : W p l e R s m args below meth c H locs cells slots Q (F0 m pc ls (.int (iI i) :: .ref a :: rest)) := va_iald hexec hb hK hP q0 t0 ha ht (iI_vp hin hn) hdg (by rw [aI_at hin.1 (by omega)]; exact kk)
theorem n_iast (hexec : p.tables.exec = Jvm.exec) (hb : c.code = cc) (hK : va_K D vwCl tys s) (hP : va_P D vwCl Wd H) (hD : va_D A Wd) (hS : va_S A H0 H locs) (q0 t0 : Nat) {a : Nat} {cA : ClassId} {n : Nat} {g : Int → Int} (ha : Wd[q0]? = some (a, .inl (cA, n, .inl (aI g)))) (ht : tys[t0]? = some (cA, .int)) {i x : Int} (hin : 0 ≤ i ∧ i < n) (hn : n < 2147483648) (hdg : decode cc pc = .ok (.iastore, 1))
    (kk : ∀ (H1 : Heap) (locs1 : List Loc), va_P D vwCl (Wd.set q0 (a, .inl (cA, n, .inl (aI (updI g i x))))) H1 → va_D A (Wd.set q0 (a, .inl (cA, n, .inl (aI (updI g i x))))) → va_S A H0 H1 locs1 → W p l e R s m args below meth c H1 locs1 cells slots Q (F0 m (pc + 1) ls rest)) : W p l e R s m args below meth c H locs cells slots Q (F0 m pc ls (.int (iI x) :: .int (iI i) :: .ref a :: rest)) := va_iast hexec hb hK hP hD hS q0 t0 ha ht (iI_vp hin hn) hdg (by rw [aI_upd hin.1 (by omega)]; exact kk)
theorem n_iinc (hexec : p.tables.exec = Jvm.exec) (hb : c.code = cc) {i nL k : Nat} {n : Int} {x : Int} {lv lv' : List (Nat × Value)} (hdg : decode cc pc = .ok (.iinc i n, 3)) (h : lv_has ls nL lv) (hk : lv[k]? = some (i, .int (iI x))) (hn : i < nL) (hl : (i, Value.int (iI (x + n))) :: lv.filter (fun q => !(q.1 == i) && !(q.1 + 1 == i && q.2.category == 2)) = lv')
    (kk : ∀ ls' : Array Slot, lv_has ls' nL lv' → W p l e R s m args below meth c H locs cells slots Q (F0 m (pc + 3) ls' rest)) : W p l e R s m args below meth c H locs cells slots Q (F0 m pc ls rest) := lv_iinc (v := iI (x + n)) hexec hb hdg h hk (by rw [← iI_add]; rfl) hn hl kk
theorem n_tableIn (hexec : p.tables.exec = Jvm.exec) (hb : c.code = cc) {dflt lo hi : Int} {offs : Array Int} {len : Nat} {x : Int} (v : Int) {off : Int} {tgt : Nat} (hdg : decode cc pc = .ok (.tableswitch dflt lo hi offs, len)) (hv : x = v) (hr : -2147483648 ≤ v ∧ v < 2147483648 ∧ lo ≤ v ∧ v ≤ hi) (ho : offs[(v - lo).toNat]? = some off) (ht : (pc : Int) + off = (tgt : Int))
    (k : W p l e R s m args below meth c H locs cells slots Q (F0 m tgt ls rest)) : W p l e R s m args below meth c H locs cells slots Q (F0 m pc ls (.int (iI x) :: rest)) := by
  subst hv
  have e := iI_toInt hr.1 hr.2.1
  exact lv_tableIn hexec hb hdg (by rw [e]; omega) (by rw [e]; omega) (by rw [e]; exact ho) ht k
theorem n_tableOut (hexec : p.tables.exec = Jvm.exec) (hb : c.code = cc) {dflt lo hi : Int} {offs : Array Int} {len : Nat} {x : Int} {tgt : Nat} (hdg : decode cc pc = .ok (.tableswitch dflt lo hi offs, len)) (hr : -2147483648 ≤ x ∧ x < 2147483648) (hv : x < lo ∨ hi < x) (ht : (pc : Int) + dflt = (tgt : Int))
    (k : W p l e R s m args below meth c H locs cells slots Q (F0 m tgt ls rest)) : W p l e R s m args below meth c H locs cells slots Q (F0 m pc ls (.int (iI x) :: rest)) := by
  have e := iI_toInt hr.1 hr.2
  exact lv_tableOut hexec hb hdg (by rw [e]; exact hv) ht k
theorem n_lookup (hexec : p.tables.exec = Jvm.exec) (hb : c.code = cc) {dflt : Int} {ps : Array (Int × Int)} {len : Nat} {x off : Int} {tgt : Nat} (hdg : decode cc pc = .ok (.lookupswitch dflt ps, len)) (hp : (ps.toList.zip (ps.toList.drop 1)).all (fun (a, next) => a.1 < next.1) = true) (hr : -2147483648 ≤ x ∧ x < 2147483648) (ho : Op.lookupswitch.offset ps.toList dflt x = off) (ht : (pc : Int) + off = (tgt : Int))
    (k : W p l e R s m args below meth c H locs cells slots Q (F0 m tgt ls rest)) : W p l e R s m args below meth c H locs cells slots Q (F0 m pc ls (.int (iI x) :: rest)) := lv_lookup hexec hb hdg hp (by rw [iI_toInt hr.1 hr.2]; exact ho) ht k
/-- cells of one row copied into another -/
def cpyI (f g : Int → Int) (sp dp n : Int) : Int → Int := fun j => if dp ≤ j ∧ j < dp + n then f (sp + (j - dp)) else g j
theorem aI_cpy {f g : Int → Int} {sp dp n : Int} (h1 : 0 ≤ sp) (h2 : 0 ≤ dp) (h3 : 0 ≤ n) (h4 : sp < 2147483648) (h5 : dp < 2147483648) (h6 : n < 2147483648) : va_cpy (aI f) (aI g) (iI sp).toNatClampNeg (iI dp).toNatClampNeg (iI n).toNatClampNeg = aI (cpyI f g sp dp n) := by
  funext j
  have e1 := iI_cl h1 h4
  have e2 := iI_cl h2 h5
  have e3 := iI_cl h3 h6
  unfold va_cpy aI cpyI
  by_cases hj : (iI dp).toNatClampNeg ≤ j ∧ j < (iI dp).toNatClampNeg + (iI n).toNatClampNeg
  · rw [if_pos hj, if_pos (by omega)]
    congr 2
    omega
  · rw [if_neg hj, if_neg (by omega)]
theorem n_copy (hexec : p.tables.exec = Jvm.exec) (hb : c.code = cc) (hml : c.maxLocals = ls.size) {own : String} {index : Nat} (hown : s.vm.findClass own = some m.cls) (hlink : (Cond.methodLink own index arraycopyName).before args s = true) (hnat : (Cond.native arraycopyName).before args s = true) (hstat : (Cond.static arraycopyName).before args s = true) (hini : (Cond.initialized "java/lang/System").before args s = true)
    (hK : va_K D vwCl tys s) (hP : va_P D vwCl Wd H) (hD : va_D A Wd) (hS : va_S A H0 H locs) (q0 q1 t0 : Nat) {a0 a : Nat} {c0 : ClassId} {n0 n1 : Nat} {f g : Int → Int} (ha0 : Wd[q0]? = some (a0, .inl (c0, n0, .inl (aI f)))) (ha1 : Wd[q1]? = some (a, .inl (c0, n1, .inl (aI g)))) (ht0 : tys[t0]? = some (c0, .int))
    {sp dp n : Int} (h : 0 ≤ sp ∧ 0 ≤ dp ∧ 0 ≤ n ∧ sp + n ≤ n0 ∧ dp + n ≤ n1) (hn0 : n0 < 2147483648) (hn1 : n1 < 2147483648)
    (hframes : 1 ≤ R.frames) (hlocals : (rest.map fun v => v.category).sum + (nativeFrameWords "java/lang/System" "arraycopy" 5 + 11) ≤ R.locals) (hdg : decode cc pc = .ok (.invokestatic index, 3))
    (kk : ∀ (H1 : Heap) (locs1 : List Loc), va_P D vwCl (Wd.set q1 (a, .inl (c0, n1, .inl (aI (cpyI f g sp dp n))))) H1 → va_D A (Wd.set q1 (a, .inl (c0, n1, .inl (aI (cpyI f g sp dp n))))) → va_S A H0 H1 locs1 → W p l e R s m args below meth c H1 locs1 cells slots Q (F0 m (pc + 3) ls rest)) : W p l e R s m args below meth c H locs cells slots Q (F0 m pc ls (.int (iI n) :: .int (iI dp) :: .ref a :: .int (iI sp) :: .ref a0 :: rest)) := by
  have e1 := iI_cl (i := sp) h.1 (by omega)
  have e2 := iI_cl (i := dp) h.2.1 (by omega)
  have e3 := iI_cl (i := n) h.2.2.1 (by omega)
  have nn : ∀ z : Int, 0 ≤ z → z < 2147483648 → ¬ iI z < 0 := fun z h1 h2 => by rw [iI_0, iI_lt ⟨⟨by omega, by omega⟩, by omega, by omega⟩]; omega
  refine va_copyi hexec hb hml hown hlink hnat hstat hini hK hP hD hS q0 q1 t0 t0 ha0 ha1 ht0 ht0 rfl (nn sp h.1 (by omega)) (nn dp h.2.1 (by omega)) (nn n h.2.2.1 (by omega)) (by omega) (by omega) (fun _ _ => rfl) hframes hlocals hdg ?_
  rw [aI_cpy h.1 h.2.1 h.2.2.1 (by omega) (by omega) (by omega)]
  exact kk
/-- a loop: its states, what holds at its head, what falls -/
theorem x_loop {σ : Type} (Inv : σ → Prop) (μ : σ → Nat) (Wd : σ → va_W) (Lv : σ → List (Nat × Value)) {nL : Nat}
    (step : ∀ x : σ, Inv x → (∀ y : σ, Inv y → μ y < μ x → ∀ (H : Heap) (locs : List Loc) (ls : Array Slot), va_P D vwCl (Wd y) H → va_D A (Wd y) → va_S A H0 H locs → lv_has ls nL (Lv y) → W p l e R s m args below meth c H locs cells slots Q (F0 m pc ls st0)) →
      ∀ (H : Heap) (locs : List Loc) (ls : Array Slot), va_P D vwCl (Wd x) H → va_D A (Wd x) → va_S A H0 H locs → lv_has ls nL (Lv x) → W p l e R s m args below meth c H locs cells slots Q (F0 m pc ls st0))
    (x : σ) (hI : Inv x) (hP : va_P D vwCl (Wd x) H) (hD : va_D A (Wd x)) (hS : va_S A H0 H locs) (hl : lv_has ls nL (Lv x)) : W p l e R s m args below meth c H locs cells slots Q (F0 m pc ls st0) := by
  have main : ∀ (n : Nat) (x : σ), μ x < n → Inv x → ∀ (H : Heap) (locs : List Loc) (ls : Array Slot), va_P D vwCl (Wd x) H → va_D A (Wd x) → va_S A H0 H locs → lv_has ls nL (Lv x) → W p l e R s m args below meth c H locs cells slots Q (F0 m pc ls st0) := by
    intro n
    induction n with
    | zero => intro x hx; exact absurd hx (Nat.not_lt_zero _)
    | succ n ih =>
      intro x hx hI
      exact step x hI (fun y hy hm => ih y (by omega) hy)
  exact main (μ x + 1) x (Nat.lt_succ_self _) hI H locs ls hP hD hS hl
/-- a place where roads meet -/
theorem x_cut {σ : Type} (Inv : σ → Prop) (Wd : σ → va_W) (Lv : σ → List (Nat × Value)) {nL : Nat} (pcj : Nat) (stj : σ → List Value)
    (hc : ∀ x : σ, Inv x → ∀ (H : Heap) (locs : List Loc) (ls : Array Slot), va_P D vwCl (Wd x) H → va_D A (Wd x) → va_S A H0 H locs → lv_has ls nL (Lv x) → W p l e R s m args below meth c H locs cells slots Q (F0 m pcj ls (stj x)))
    (k : (∀ x : σ, Inv x → ∀ (H : Heap) (locs : List Loc) (ls : Array Slot), va_P D vwCl (Wd x) H → va_D A (Wd x) → va_S A H0 H locs → lv_has ls nL (Lv x) → W p l e R s m args below meth c H locs cells slots Q (F0 m pcj ls (stj x))) → W p l e R s m args below meth c H locs cells slots Q (F0 m pc ls st0)) : W p l e R s m args below meth c H locs cells slots Q (F0 m pc ls st0) := k hc
theorem x_callVi {S : Type} {y : MethodName} {ws : List Cond} {rm : Room} {bytes : ByteArray} {maxL n index nL : Nat} {ret : Option FieldType} {Ts : List Cond} {own : String} {b : Addr} {C : String} {As : List Value} {Wc : va_W} {W' : S → va_W} {post : Int32 → S → Prop}
    (S0 : CallFix p m c cc nL s args Ts own) (hM : Met l y ws rm (cP D cI cS Wc H.size (.ref b :: As)) (va_Qi post (fun u t => cB D (va_A Wc H.size) (W' u) t) (va_A Wc H.size)) 0 0 (va_A Wc H.size)) (cw : CallW R s args own C index y bytes maxL ret ws rm 0 0 n)
    (hK : KK D cI cS s) (hP : va_P D vwCl Wd H) (hD : va_D A Wd) (hS : va_S A H0 H locs) (hA : ∀ q, H0.size ≤ q → A q) (isC isR : List Nat) {wr : va_W} (hC : isC.map (fun i => Wd[i]?) = Wc.map some) (hR : isR.map (fun i => Wd[i]?) = wr.map some) (hnC : va_nd isC = true) (hnR : va_nd isR = true) (hdis : ∀ i ∈ isR, i ∉ isC)
    (q0 ci : Nat) {fs : List Value} {q : vw_C} (hc : vwCl[ci]? = some q) (hq : q.1 = C) (he : Wc[q0]? = some (b, .inr (ci, fs))) (is2 : List Nat) (W2 : S → va_W) (h2 : ∀ u, is2.map (fun i => (wr ++ W' u)[i]?) = (W2 u).map some) (hn2 : va_nd is2 = true) (hn : As.length = n) (hsize : ls.size = nL) (hst : st0 = As.reverse ++ .ref b :: rest) (hroom : (rest.map fun v => v.category).sum ≤ 8) (hcs : cells ≤ R.cells ∧ slots ≤ R.slots) (hdg : decode cc pc = .ok (.invokevirtual index, 3))
    (kk : ∀ (r : Int32) (u : S) (H1 : Heap) (locs1 : List Loc), post r u → va_P D vwCl (W2 u) H1 → va_D A (W2 u) → va_S A H0 H1 locs1 → W p l e R s m args below meth c H1 locs1 cells slots Q (F0 m (pc + 3) ls (.int r :: rest))) : W p l e R s m args below meth c H locs cells slots Q (F0 m pc ls st0) := by
  have hPc := hP.sub (ws' := Wc) isC (map_filter hC)
  have hDc := hD.sub (ws' := Wc) isC hnC hC
  have hFc := va_free (wc := Wc) hD hS hA isC hC
  refine va_calli (va_runV (As := As) (rest := rest) (g := F0 m pc ls st0) S0 hM cw ⟨cP.blind, by have z := va_recv hK.1 hPc (ci := ci) (q0 := q0) hc he; rw [hq] at z; exact z, fun U hU hW => ⟨rfl, by rw [hU], by rw [hU]; exact hPc, KK.warm hW hK, hDc.weaken (fun _ _ _ _ => trivial)⟩⟩ rfl hn hsize hst (lv_room hroom) hdg hcs) hS (fun q _ h => hFc q h) hFc (fun r u t H1 locs1 ht hvm hw hB hz1 hk1 hS1 => ?_)
  obtain ⟨hP1, hD1⟩ := hB
  rw [ht] at hP1
  obtain ⟨hP2, hD2⟩ := va_join (wr := wr) (w1 := W' u) hP hD isC isR hC hR hnR hdis hk1 hFc hP1 hD1
  exact kk r u H1 locs1 hw (hP2.sub is2 (map_filter (h2 u))) (hD2.sub is2 hn2 (h2 u)) hS1
theorem x_callVl {S : Type} {y : MethodName} {ws : List Cond} {rm : Room} {bytes : ByteArray} {maxL n index nL : Nat} {ret : Option FieldType} {Ts : List Cond} {own : String} {b : Addr} {C : String} {As : List Value} {Wc : va_W} {W' : S → va_W} {post : Int64 → S → Prop}
    (S0 : CallFix p m c cc nL s args Ts own) (hM : Met l y ws rm (cP D cI cS Wc H.size (.ref b :: As)) (va_Ql post (fun u t => cB D (va_A Wc H.size) (W' u) t) (va_A Wc H.size)) 0 0 (va_A Wc H.size)) (cw : CallW R s args own C index y bytes maxL ret ws rm 0 0 n)
    (hK : KK D cI cS s) (hP : va_P D vwCl Wd H) (hD : va_D A Wd) (hS : va_S A H0 H locs) (hA : ∀ q, H0.size ≤ q → A q) (isC isR : List Nat) {wr : va_W} (hC : isC.map (fun i => Wd[i]?) = Wc.map some) (hR : isR.map (fun i => Wd[i]?) = wr.map some) (hnC : va_nd isC = true) (hnR : va_nd isR = true) (hdis : ∀ i ∈ isR, i ∉ isC)
    (q0 ci : Nat) {fs : List Value} {q : vw_C} (hc : vwCl[ci]? = some q) (hq : q.1 = C) (he : Wc[q0]? = some (b, .inr (ci, fs))) (is2 : List Nat) (W2 : S → va_W) (h2 : ∀ u, is2.map (fun i => (wr ++ W' u)[i]?) = (W2 u).map some) (hn2 : va_nd is2 = true) (hn : As.length = n) (hsize : ls.size = nL) (hst : st0 = As.reverse ++ .ref b :: rest) (hroom : (rest.map fun v => v.category).sum ≤ 8) (hcs : cells ≤ R.cells ∧ slots ≤ R.slots) (hdg : decode cc pc = .ok (.invokevirtual index, 3))
    (kk : ∀ (r : Int64) (u : S) (H1 : Heap) (locs1 : List Loc), post r u → va_P D vwCl (W2 u) H1 → va_D A (W2 u) → va_S A H0 H1 locs1 → W p l e R s m args below meth c H1 locs1 cells slots Q (F0 m (pc + 3) ls (.long r :: rest))) : W p l e R s m args below meth c H locs cells slots Q (F0 m pc ls st0) := by
  have hPc := hP.sub (ws' := Wc) isC (map_filter hC)
  have hDc := hD.sub (ws' := Wc) isC hnC hC
  have hFc := va_free (wc := Wc) hD hS hA isC hC
  refine va_calll (va_runV (As := As) (rest := rest) (g := F0 m pc ls st0) S0 hM cw ⟨cP.blind, by have z := va_recv hK.1 hPc (ci := ci) (q0 := q0) hc he; rw [hq] at z; exact z, fun U hU hW => ⟨rfl, by rw [hU], by rw [hU]; exact hPc, KK.warm hW hK, hDc.weaken (fun _ _ _ _ => trivial)⟩⟩ rfl hn hsize hst (lv_room hroom) hdg hcs) hS (fun q _ h => hFc q h) hFc (fun r u t H1 locs1 ht hvm hw hB hz1 hk1 hS1 => ?_)
  obtain ⟨hP1, hD1⟩ := hB
  rw [ht] at hP1
  obtain ⟨hP2, hD2⟩ := va_join (wr := wr) (w1 := W' u) hP hD isC isR hC hR hnR hdis hk1 hFc hP1 hD1
  exact kk r u H1 locs1 hw (hP2.sub is2 (map_filter (h2 u))) (hD2.sub is2 hn2 (h2 u)) hS1
theorem x_callVv {S : Type} {y : MethodName} {ws : List Cond} {rm : Room} {bytes : ByteArray} {maxL n index nL : Nat} {ret : Option FieldType} {Ts : List Cond} {own : String} {b : Addr} {C : String} {As : List Value} {Wc : va_W} {W' : S → va_W} {post : S → Prop}
    (S0 : CallFix p m c cc nL s args Ts own) (hM : Met l y ws rm (cP D cI cS Wc H.size (.ref b :: As)) (va_Qv post (fun u t => cB D (va_A Wc H.size) (W' u) t) (va_A Wc H.size)) 0 0 (va_A Wc H.size)) (cw : CallW R s args own C index y bytes maxL ret ws rm 0 0 n)
    (hK : KK D cI cS s) (hP : va_P D vwCl Wd H) (hD : va_D A Wd) (hS : va_S A H0 H locs) (hA : ∀ q, H0.size ≤ q → A q) (isC isR : List Nat) {wr : va_W} (hC : isC.map (fun i => Wd[i]?) = Wc.map some) (hR : isR.map (fun i => Wd[i]?) = wr.map some) (hnC : va_nd isC = true) (hnR : va_nd isR = true) (hdis : ∀ i ∈ isR, i ∉ isC)
    (q0 ci : Nat) {fs : List Value} {q : vw_C} (hc : vwCl[ci]? = some q) (hq : q.1 = C) (he : Wc[q0]? = some (b, .inr (ci, fs))) (is2 : List Nat) (W2 : S → va_W) (h2 : ∀ u, is2.map (fun i => (wr ++ W' u)[i]?) = (W2 u).map some) (hn2 : va_nd is2 = true) (hn : As.length = n) (hsize : ls.size = nL) (hst : st0 = As.reverse ++ .ref b :: rest) (hroom : (rest.map fun v => v.category).sum ≤ 8) (hcs : cells ≤ R.cells ∧ slots ≤ R.slots) (hdg : decode cc pc = .ok (.invokevirtual index, 3))
    (kk : ∀ (u : S) (H1 : Heap) (locs1 : List Loc), post u → va_P D vwCl (W2 u) H1 → va_D A (W2 u) → va_S A H0 H1 locs1 → W p l e R s m args below meth c H1 locs1 cells slots Q (F0 m (pc + 3) ls (rest))) : W p l e R s m args below meth c H locs cells slots Q (F0 m pc ls st0) := by
  have hPc := hP.sub (ws' := Wc) isC (map_filter hC)
  have hDc := hD.sub (ws' := Wc) isC hnC hC
  have hFc := va_free (wc := Wc) hD hS hA isC hC
  refine va_callv (va_runV (As := As) (rest := rest) (g := F0 m pc ls st0) S0 hM cw ⟨cP.blind, by have z := va_recv hK.1 hPc (ci := ci) (q0 := q0) hc he; rw [hq] at z; exact z, fun U hU hW => ⟨rfl, by rw [hU], by rw [hU]; exact hPc, KK.warm hW hK, hDc.weaken (fun _ _ _ _ => trivial)⟩⟩ rfl hn hsize hst (lv_room hroom) hdg hcs) hS (fun q _ h => hFc q h) hFc (fun u t H1 locs1 ht hvm hw hB hz1 hk1 hS1 => ?_)
  obtain ⟨hP1, hD1⟩ := hB
  rw [ht] at hP1
  obtain ⟨hP2, hD2⟩ := va_join (wr := wr) (w1 := W' u) hP hD isC isR hC hR hnR hdis hk1 hFc hP1 hD1
  exact kk u H1 locs1 hw (hP2.sub is2 (map_filter (h2 u))) (hD2.sub is2 hn2 (h2 u)) hS1
theorem x_callSi {S : Type} {y : MethodName} {ws : List Cond} {rm : Room} {bytes : ByteArray} {maxL n index nL : Nat} {ret : Option FieldType} {Ts : List Cond} {own : String} {As : List Value} {Wc : va_W} {W' : S → va_W} {post : Int32 → S → Prop}
    (S0 : CallFix p m c cc nL s args Ts own) (hM : Met l y ws rm (cP D cI cS Wc H.size As) (va_Qi post (fun u t => cB D (va_A Wc H.size) (W' u) t) (va_A Wc H.size)) 0 0 (va_A Wc H.size)) (cw : CallB R s args own index y bytes maxL ret ws rm 0 0 n ∧ (Cond.static y).before args s = true)
    (hK : KK D cI cS s) (hP : va_P D vwCl Wd H) (hD : va_D A Wd) (hS : va_S A H0 H locs) (hA : ∀ q, H0.size ≤ q → A q) (isC isR : List Nat) {wr : va_W} (hC : isC.map (fun i => Wd[i]?) = Wc.map some) (hR : isR.map (fun i => Wd[i]?) = wr.map some) (hnC : va_nd isC = true) (hnR : va_nd isR = true) (hdis : ∀ i ∈ isR, i ∉ isC)
    (is2 : List Nat) (W2 : S → va_W) (h2 : ∀ u, is2.map (fun i => (wr ++ W' u)[i]?) = (W2 u).map some) (hn2 : va_nd is2 = true) (hn : As.length = n) (hsize : ls.size = nL) (hst : st0 = As.reverse ++ rest) (hroom : (rest.map fun v => v.category).sum ≤ 8) (hcs : cells ≤ R.cells ∧ slots ≤ R.slots) (hdg : decode cc pc = .ok (.invokestatic index, 3))
    (kk : ∀ (r : Int32) (u : S) (H1 : Heap) (locs1 : List Loc), post r u → va_P D vwCl (W2 u) H1 → va_D A (W2 u) → va_S A H0 H1 locs1 → W p l e R s m args below meth c H1 locs1 cells slots Q (F0 m (pc + 3) ls (.int r :: rest))) : W p l e R s m args below meth c H locs cells slots Q (F0 m pc ls st0) := by
  have hPc := hP.sub (ws' := Wc) isC (map_filter hC)
  have hDc := hD.sub (ws' := Wc) isC hnC hC
  have hFc := va_free (wc := Wc) hD hS hA isC hC
  refine va_calli (va_runS (As := As) (rest := rest) (g := F0 m pc ls st0) S0 hM cw ⟨cP.blind, fun U hU hW => ⟨rfl, by rw [hU], by rw [hU]; exact hPc, KK.warm hW hK, hDc.weaken (fun _ _ _ _ => trivial)⟩⟩ rfl hn hsize hst (lv_room hroom) hdg hcs) hS (fun q _ h => hFc q h) hFc (fun r u t H1 locs1 ht hvm hw hB hz1 hk1 hS1 => ?_)
  obtain ⟨hP1, hD1⟩ := hB
  rw [ht] at hP1
  obtain ⟨hP2, hD2⟩ := va_join (wr := wr) (w1 := W' u) hP hD isC isR hC hR hnR hdis hk1 hFc hP1 hD1
  exact kk r u H1 locs1 hw (hP2.sub is2 (map_filter (h2 u))) (hD2.sub is2 hn2 (h2 u)) hS1
theorem x_callSl {S : Type} {y : MethodName} {ws : List Cond} {rm : Room} {bytes : ByteArray} {maxL n index nL : Nat} {ret : Option FieldType} {Ts : List Cond} {own : String} {As : List Value} {Wc : va_W} {W' : S → va_W} {post : Int64 → S → Prop}
    (S0 : CallFix p m c cc nL s args Ts own) (hM : Met l y ws rm (cP D cI cS Wc H.size As) (va_Ql post (fun u t => cB D (va_A Wc H.size) (W' u) t) (va_A Wc H.size)) 0 0 (va_A Wc H.size)) (cw : CallB R s args own index y bytes maxL ret ws rm 0 0 n ∧ (Cond.static y).before args s = true)
    (hK : KK D cI cS s) (hP : va_P D vwCl Wd H) (hD : va_D A Wd) (hS : va_S A H0 H locs) (hA : ∀ q, H0.size ≤ q → A q) (isC isR : List Nat) {wr : va_W} (hC : isC.map (fun i => Wd[i]?) = Wc.map some) (hR : isR.map (fun i => Wd[i]?) = wr.map some) (hnC : va_nd isC = true) (hnR : va_nd isR = true) (hdis : ∀ i ∈ isR, i ∉ isC)
    (is2 : List Nat) (W2 : S → va_W) (h2 : ∀ u, is2.map (fun i => (wr ++ W' u)[i]?) = (W2 u).map some) (hn2 : va_nd is2 = true) (hn : As.length = n) (hsize : ls.size = nL) (hst : st0 = As.reverse ++ rest) (hroom : (rest.map fun v => v.category).sum ≤ 8) (hcs : cells ≤ R.cells ∧ slots ≤ R.slots) (hdg : decode cc pc = .ok (.invokestatic index, 3))
    (kk : ∀ (r : Int64) (u : S) (H1 : Heap) (locs1 : List Loc), post r u → va_P D vwCl (W2 u) H1 → va_D A (W2 u) → va_S A H0 H1 locs1 → W p l e R s m args below meth c H1 locs1 cells slots Q (F0 m (pc + 3) ls (.long r :: rest))) : W p l e R s m args below meth c H locs cells slots Q (F0 m pc ls st0) := by
  have hPc := hP.sub (ws' := Wc) isC (map_filter hC)
  have hDc := hD.sub (ws' := Wc) isC hnC hC
  have hFc := va_free (wc := Wc) hD hS hA isC hC
  refine va_calll (va_runS (As := As) (rest := rest) (g := F0 m pc ls st0) S0 hM cw ⟨cP.blind, fun U hU hW => ⟨rfl, by rw [hU], by rw [hU]; exact hPc, KK.warm hW hK, hDc.weaken (fun _ _ _ _ => trivial)⟩⟩ rfl hn hsize hst (lv_room hroom) hdg hcs) hS (fun q _ h => hFc q h) hFc (fun r u t H1 locs1 ht hvm hw hB hz1 hk1 hS1 => ?_)
  obtain ⟨hP1, hD1⟩ := hB
  rw [ht] at hP1
  obtain ⟨hP2, hD2⟩ := va_join (wr := wr) (w1 := W' u) hP hD isC isR hC hR hnR hdis hk1 hFc hP1 hD1
  exact kk r u H1 locs1 hw (hP2.sub is2 (map_filter (h2 u))) (hD2.sub is2 hn2 (h2 u)) hS1
theorem x_callSv {S : Type} {y : MethodName} {ws : List Cond} {rm : Room} {bytes : ByteArray} {maxL n index nL : Nat} {ret : Option FieldType} {Ts : List Cond} {own : String} {As : List Value} {Wc : va_W} {W' : S → va_W} {post : S → Prop}
    (S0 : CallFix p m c cc nL s args Ts own) (hM : Met l y ws rm (cP D cI cS Wc H.size As) (va_Qv post (fun u t => cB D (va_A Wc H.size) (W' u) t) (va_A Wc H.size)) 0 0 (va_A Wc H.size)) (cw : CallB R s args own index y bytes maxL ret ws rm 0 0 n ∧ (Cond.static y).before args s = true)
    (hK : KK D cI cS s) (hP : va_P D vwCl Wd H) (hD : va_D A Wd) (hS : va_S A H0 H locs) (hA : ∀ q, H0.size ≤ q → A q) (isC isR : List Nat) {wr : va_W} (hC : isC.map (fun i => Wd[i]?) = Wc.map some) (hR : isR.map (fun i => Wd[i]?) = wr.map some) (hnC : va_nd isC = true) (hnR : va_nd isR = true) (hdis : ∀ i ∈ isR, i ∉ isC)
    (is2 : List Nat) (W2 : S → va_W) (h2 : ∀ u, is2.map (fun i => (wr ++ W' u)[i]?) = (W2 u).map some) (hn2 : va_nd is2 = true) (hn : As.length = n) (hsize : ls.size = nL) (hst : st0 = As.reverse ++ rest) (hroom : (rest.map fun v => v.category).sum ≤ 8) (hcs : cells ≤ R.cells ∧ slots ≤ R.slots) (hdg : decode cc pc = .ok (.invokestatic index, 3))
    (kk : ∀ (u : S) (H1 : Heap) (locs1 : List Loc), post u → va_P D vwCl (W2 u) H1 → va_D A (W2 u) → va_S A H0 H1 locs1 → W p l e R s m args below meth c H1 locs1 cells slots Q (F0 m (pc + 3) ls (rest))) : W p l e R s m args below meth c H locs cells slots Q (F0 m pc ls st0) := by
  have hPc := hP.sub (ws' := Wc) isC (map_filter hC)
  have hDc := hD.sub (ws' := Wc) isC hnC hC
  have hFc := va_free (wc := Wc) hD hS hA isC hC
  refine va_callv (va_runS (As := As) (rest := rest) (g := F0 m pc ls st0) S0 hM cw ⟨cP.blind, fun U hU hW => ⟨rfl, by rw [hU], by rw [hU]; exact hPc, KK.warm hW hK, hDc.weaken (fun _ _ _ _ => trivial)⟩⟩ rfl hn hsize hst (lv_room hroom) hdg hcs) hS (fun q _ h => hFc q h) hFc (fun u t H1 locs1 ht hvm hw hB hz1 hk1 hS1 => ?_)
  obtain ⟨hP1, hD1⟩ := hB
  rw [ht] at hP1
  obtain ⟨hP2, hD2⟩ := va_join (wr := wr) (w1 := W' u) hP hD isC isR hC hR hnR hdis hk1 hFc hP1 hD1
  exact kk u H1 locs1 hw (hP2.sub is2 (map_filter (h2 u))) (hD2.sub is2 hn2 (h2 u)) hS1
end XC
