/-! ===== bits by whole numbers ===== -/
def bit (L v : Int) : Int := L / (2 ^ v.toNat) % 2
def pow2 (v : Int) : Int := 2 ^ v.toNat
def orI (x y : Int) : Int := ((x.toNat ||| y.toNat : Nat) : Int)
theorem iI_nI (n : Nat) (h : n < 2 ^ 31) : iI (n : Int) = nI n := by
  apply Int32.toInt_inj.mp
  rw [nI_toInt h, iI_toInt (by omega) (by omega)]
theorem all_lt {N : Nat} {P : Int → Prop} (h : ∀ n : Nat, n < N → P (n : Int)) {x : Int} (h0 : 0 ≤ x) (h1 : x < N) : P x := by
  obtain ⟨k, rfl⟩ := Int.eq_ofNat_of_zero_le h0
  exact h k (by omega)
theorem b_shr {x k : Int} (h : 0 ≤ x ∧ x < 64 ∧ 0 ≤ k ∧ k < 6) : iI x >>> (iI k &&& 31) = iI (x / pow2 k) :=
  all_lt (N := 64) (P := fun x => iI x >>> (iI k &&& 31) = iI (x / pow2 k)) (fun n hn => all_lt (N := 6) (P := fun k => iI (n : Int) >>> (iI k &&& 31) = iI ((n : Int) / pow2 k)) (fun m hm => (by decide +kernel : ∀ n : Nat, n < 64 → ∀ m : Nat, m < 6 → iI (n : Int) >>> (iI (m : Int) &&& 31) = iI ((n : Int) / pow2 (m : Int))) n hn m hm) h.2.2.1 h.2.2.2) h.1 h.2.1
theorem b_shl {k : Int} (h : 0 ≤ k ∧ k < 30) : iI 1 <<< (iI k &&& 31) = iI (pow2 k) :=
  all_lt (N := 30) (P := fun k => iI 1 <<< (iI k &&& 31) = iI (pow2 k)) (fun m hm => (by decide +kernel : ∀ m : Nat, m < 30 → iI 1 <<< (iI (m : Int) &&& 31) = iI (pow2 (m : Int))) m hm) h.1 h.2
theorem b_and1 {x : Int} (h : 0 ≤ x ∧ x < 64) : iI x &&& iI 1 = iI (x % 2) :=
  all_lt (N := 64) (P := fun x => iI x &&& iI 1 = iI (x % 2)) (fun n hn => (by decide +kernel : ∀ n : Nat, n < 64 → iI (n : Int) &&& iI 1 = iI ((n : Int) % 2)) n hn) h.1 h.2
theorem b_or {x y : Int} (h : 0 ≤ x ∧ x < 65536 ∧ 0 ≤ y ∧ y < 65536) : iI x ||| iI y = iI (orI x y) := by
  obtain ⟨a, rfl⟩ := Int.eq_ofNat_of_zero_le h.1
  obtain ⟨b, rfl⟩ := Int.eq_ofNat_of_zero_le h.2.2.1
  have ha : a < 2 ^ 16 := by omega
  have hb : b < 2 ^ 16 := by omega
  have hab : a ||| b < 2 ^ 16 := Nat.or_lt_two_pow ha hb
  show iI (a : Int) ||| iI (b : Int) = iI ((a ||| b : Nat) : Int)
  rw [iI_nI a (by omega), iI_nI b (by omega), iI_nI (a ||| b) (by omega)]
  apply Int32.toBitVec_inj.mp
  apply BitVec.eq_of_toNat_eq
  rw [Int32.toBitVec_or, BitVec.toNat_or, pk_tn (by omega), pk_tn (by omega), pk_tn (by omega)]
theorem orI_rng {x y : Int} (h : 0 ≤ x ∧ x < 65536 ∧ 0 ≤ y ∧ y < 65536) : 0 ≤ orI x y ∧ orI x y < 65536 := by
  obtain ⟨a, rfl⟩ := Int.eq_ofNat_of_zero_le h.1
  obtain ⟨b, rfl⟩ := Int.eq_ofNat_of_zero_le h.2.2.1
  have hab : a ||| b < 2 ^ 16 := Nat.or_lt_two_pow (by omega) (by omega)
  show (0 : Int) ≤ ((a ||| b : Nat) : Int) ∧ ((a ||| b : Nat) : Int) < 65536
  omega
theorem orI_16 {x y : Int} (h : 0 ≤ x ∧ x < 16 ∧ 0 ≤ y ∧ y < 16) : 0 ≤ orI x y ∧ orI x y < 16 := by
  obtain ⟨a, rfl⟩ := Int.eq_ofNat_of_zero_le h.1
  obtain ⟨b, rfl⟩ := Int.eq_ofNat_of_zero_le h.2.2.1
  have hab : a ||| b < 2 ^ 4 := Nat.or_lt_two_pow (by omega) (by omega)
  show (0 : Int) ≤ ((a ||| b : Nat) : Int) ∧ ((a ||| b : Nat) : Int) < 16
  omega
theorem pow2_rng {k : Int} (h : 0 ≤ k ∧ k < 16) : 1 ≤ pow2 k ∧ pow2 k < 65536 :=
  all_lt (N := 16) (P := fun k => 1 ≤ pow2 k ∧ pow2 k < 65536) (fun m hm => (by decide +kernel : ∀ m : Nat, m < 16 → 1 ≤ pow2 (m : Int) ∧ pow2 (m : Int) < 65536) m hm) h.1 h.2
theorem pow2_4 {k : Int} (h : 0 ≤ k ∧ k < 4) : 1 ≤ pow2 k ∧ pow2 k < 16 :=
  all_lt (N := 4) (P := fun k => 1 ≤ pow2 k ∧ pow2 k < 16) (fun m hm => (by decide +kernel : ∀ m : Nat, m < 4 → 1 ≤ pow2 (m : Int) ∧ pow2 (m : Int) < 16) m hm) h.1 h.2
theorem shr_rng {x k : Int} (h : 0 ≤ x ∧ x < 64 ∧ 0 ≤ k ∧ k < 6) : 0 ≤ x / pow2 k ∧ x / pow2 k < 64 :=
  all_lt (N := 64) (P := fun x => 0 ≤ x / pow2 k ∧ x / pow2 k < 64) (fun n hn => all_lt (N := 6) (P := fun k => 0 ≤ (n : Int) / pow2 k ∧ (n : Int) / pow2 k < 64) (fun m hm => (by decide +kernel : ∀ n : Nat, n < 64 → ∀ m : Nat, m < 6 → 0 ≤ (n : Int) / pow2 (m : Int) ∧ (n : Int) / pow2 (m : Int) < 64) n hn m hm) h.2.2.1 h.2.2.2) h.1 h.2.1
theorem bit_rng (L v : Int) : 0 ≤ bit L v ∧ bit L v < 2 := by unfold bit; omega
/-- a set without one act, as the class and as the reference have it -/
def wo (x g : Int) : Int := if bit x g = 1 then x - pow2 g else x
theorem b_wo {x g : Int} (h : 0 ≤ x ∧ x < 16 ∧ 0 ≤ g ∧ g < 4) : iI x &&& (iI (pow2 g) ^^^ iI (-1)) = iI (wo x g) :=
  all_lt (N := 16) (P := fun x => iI x &&& (iI (pow2 g) ^^^ iI (-1)) = iI (wo x g)) (fun n hn => all_lt (N := 4) (P := fun g => iI (n : Int) &&& (iI (pow2 g) ^^^ iI (-1)) = iI (wo (n : Int) g)) (fun m hm => (by decide +kernel : ∀ n : Nat, n < 16 → ∀ m : Nat, m < 4 → iI (n : Int) &&& (iI (pow2 (m : Int)) ^^^ iI (-1)) = iI (wo (n : Int) (m : Int))) n hn m hm) h.2.2.1 h.2.2.2) h.1 h.2.1
theorem wo_rng {x g : Int} (h : 0 ≤ x ∧ x < 16 ∧ 0 ≤ g ∧ g < 4) : 0 ≤ wo x g ∧ wo x g < 16 :=
  all_lt (N := 16) (P := fun x => 0 ≤ wo x g ∧ wo x g < 16) (fun n hn => all_lt (N := 4) (P := fun g => 0 ≤ wo (n : Int) g ∧ wo (n : Int) g < 16) (fun m hm => (by decide +kernel : ∀ n : Nat, n < 16 → ∀ m : Nat, m < 4 → 0 ≤ wo (n : Int) (m : Int) ∧ wo (n : Int) (m : Int) < 16) n hn m hm) h.2.2.1 h.2.2.2) h.1 h.2.1
theorem b_i2b (x : Int) : (iI x).toInt8.toInt32 = iI (x.bmod 256) := by
  apply Int32.toInt_inj.mp
  have h1 := Int.bmod_lt (x := x) (m := 256) (by decide)
  have h2 := Int.le_bmod (x := x) (m := 256) (by decide)
  rw [Int8.toInt_toInt32, Int32.toInt_toInt8, iI_toInt (z := x.bmod 256) (by omega) (by omega)]
  unfold iI
  rw [Int32.toInt_ofInt]
  exact Int.bmod_bmod_of_dvd (show (2 ^ 8 : Nat) ∣ 2 ^ 32 by decide)
theorem b_i2s (x : Int) : (iI x).toInt16.toInt32 = iI (x.bmod 65536) := by
  apply Int32.toInt_inj.mp
  have h1 := Int.bmod_lt (x := x) (m := 65536) (by decide)
  have h2 := Int.le_bmod (x := x) (m := 65536) (by decide)
  rw [Int16.toInt_toInt32, Int32.toInt_toInt16, iI_toInt (z := x.bmod 65536) (by omega) (by omega)]
  unfold iI
  rw [Int32.toInt_ofInt]
  exact Int.bmod_bmod_of_dvd (show (2 ^ 16 : Nat) ∣ 2 ^ 32 by decide)
theorem b_div {x y : Int} (h : 0 ≤ x ∧ x < 2147483648 ∧ 0 < y ∧ y < 2147483648) : iI x / iI y = iI (x / y) := by
  obtain ⟨a, rfl⟩ := Int.eq_ofNat_of_zero_le h.1
  obtain ⟨b, rfl⟩ := Int.eq_ofNat_of_zero_le (Int.le_of_lt h.2.2.1)
  rw [iI_nI a (by omega), iI_nI b (by omega), pk_div (by omega) (by omega) (by omega)]
  rw [show ((a : Int) / (b : Int)) = ((a / b : Nat) : Int) from rfl, iI_nI (a / b) (Nat.lt_of_le_of_lt (Nat.div_le_self a b) (by omega))]
theorem b_rem {x y : Int} (h : 0 ≤ x ∧ x < 2147483648 ∧ 0 < y ∧ y < 2147483648) : iI x - iI x / iI y * iI y = iI (x % y) := by
  obtain ⟨a, rfl⟩ := Int.eq_ofNat_of_zero_le h.1
  obtain ⟨b, rfl⟩ := Int.eq_ofNat_of_zero_le (Int.le_of_lt h.2.2.1)
  rw [iI_nI a (by omega), iI_nI b (by omega), pk_rem (by omega) (by omega) (by omega)]
  rw [show ((a : Int) % (b : Int)) = ((a % b : Nat) : Int) from rfl, iI_nI (a % b) (Nat.lt_of_le_of_lt (Nat.mod_le a b) (by omega))]
section XB
variable {p : Program} {l : Launch} {e : Env} {R : Room} {s : State} {m : MethodId} {args : Array Value} {below : List Frame} {meth : Method} {c : Code} {H : Heap} {locs : List Loc} {cells slots : Nat} {Q : State → Prop}
variable {cc : ByteArray} {pc : Nat} {ls : Array Slot} {rest : List Value}
theorem n_ishl {x y z : Int} (h : iI x <<< (iI y &&& 31) = iI z) (hexec : p.tables.exec = Jvm.exec) (hb : c.code = cc) (hdg : decode cc pc = .ok (.ishl, 1)) (k : W p l e R s m args below meth c H locs cells slots Q (F0 m (pc + 1) ls (.int (iI z) :: rest))) : W p l e R s m args below meth c H locs cells slots Q (F0 m pc ls (.int (iI y) :: .int (iI x) :: rest)) := lv_ishl hexec hb hdg (by rw [h]; exact k)
theorem n_ishr {x y z : Int} (h : iI x >>> (iI y &&& 31) = iI z) (hexec : p.tables.exec = Jvm.exec) (hb : c.code = cc) (hdg : decode cc pc = .ok (.ishr, 1)) (k : W p l e R s m args below meth c H locs cells slots Q (F0 m (pc + 1) ls (.int (iI z) :: rest))) : W p l e R s m args below meth c H locs cells slots Q (F0 m pc ls (.int (iI y) :: .int (iI x) :: rest)) := lv_ishr hexec hb hdg (by rw [h]; exact k)
theorem n_iand {x y z : Int} (h : iI x &&& iI y = iI z) (hexec : p.tables.exec = Jvm.exec) (hb : c.code = cc) (hdg : decode cc pc = .ok (.iand, 1)) (k : W p l e R s m args below meth c H locs cells slots Q (F0 m (pc + 1) ls (.int (iI z) :: rest))) : W p l e R s m args below meth c H locs cells slots Q (F0 m pc ls (.int (iI y) :: .int (iI x) :: rest)) := lv_iand hexec hb hdg (by rw [h]; exact k)
theorem n_ior {x y z : Int} (h : iI x ||| iI y = iI z) (hexec : p.tables.exec = Jvm.exec) (hb : c.code = cc) (hdg : decode cc pc = .ok (.ior, 1)) (k : W p l e R s m args below meth c H locs cells slots Q (F0 m (pc + 1) ls (.int (iI z) :: rest))) : W p l e R s m args below meth c H locs cells slots Q (F0 m pc ls (.int (iI y) :: .int (iI x) :: rest)) := lv_ior hexec hb hdg (by rw [h]; exact k)
theorem n_ixor {x y z : Int} (h : iI x ^^^ iI y = iI z) (hexec : p.tables.exec = Jvm.exec) (hb : c.code = cc) (hdg : decode cc pc = .ok (.ixor, 1)) (k : W p l e R s m args below meth c H locs cells slots Q (F0 m (pc + 1) ls (.int (iI z) :: rest))) : W p l e R s m args below meth c H locs cells slots Q (F0 m pc ls (.int (iI y) :: .int (iI x) :: rest)) := lv_ixor hexec hb hdg (by rw [h]; exact k)
theorem n_idiv {x y : Int} (h : 0 ≤ x ∧ x < 2147483648 ∧ 0 < y ∧ y < 2147483648) (hexec : p.tables.exec = Jvm.exec) (hb : c.code = cc) (hdg : decode cc pc = .ok (.idiv, 1)) (k : W p l e R s m args below meth c H locs cells slots Q (F0 m (pc + 1) ls (.int (iI (x / y)) :: rest))) : W p l e R s m args below meth c H locs cells slots Q (F0 m pc ls (.int (iI y) :: .int (iI x) :: rest)) := lv_idiv hexec hb hdg (by rw [iI_0, iI_eq ⟨⟨by omega, by omega⟩, by omega, by omega⟩]; omega) (by rw [b_div h]; exact k)
theorem n_irem {x y : Int} (h : 0 ≤ x ∧ x < 2147483648 ∧ 0 < y ∧ y < 2147483648) (hexec : p.tables.exec = Jvm.exec) (hb : c.code = cc) (hdg : decode cc pc = .ok (.irem, 1)) (k : W p l e R s m args below meth c H locs cells slots Q (F0 m (pc + 1) ls (.int (iI (x % y)) :: rest))) : W p l e R s m args below meth c H locs cells slots Q (F0 m pc ls (.int (iI y) :: .int (iI x) :: rest)) := lv_irem hexec hb hdg (by rw [iI_0, iI_eq ⟨⟨by omega, by omega⟩, by omega, by omega⟩]; omega) (by rw [b_rem h]; exact k)
theorem n_i2b {x : Int} (hexec : p.tables.exec = Jvm.exec) (hb : c.code = cc) (hdg : decode cc pc = .ok (.i2b, 1)) (k : W p l e R s m args below meth c H locs cells slots Q (F0 m (pc + 1) ls (.int (iI (x.bmod 256)) :: rest))) : W p l e R s m args below meth c H locs cells slots Q (F0 m pc ls (.int (iI x) :: rest)) := lv_i2b hexec hb hdg (b_i2b x) k
theorem n_i2s {x : Int} (hexec : p.tables.exec = Jvm.exec) (hb : c.code = cc) (hdg : decode cc pc = .ok (.i2s, 1)) (k : W p l e R s m args below meth c H locs cells slots Q (F0 m (pc + 1) ls (.int (iI (x.bmod 65536)) :: rest))) : W p l e R s m args below meth c H locs cells slots Q (F0 m pc ls (.int (iI x) :: rest)) := lv_i2s hexec hb hdg (b_i2s x) k
end XB
