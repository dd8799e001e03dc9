section XM
variable {p : Program} {l : Launch} {e : Env} {R : Room} {s : State} {m : MethodId} {args : Array Value} {below : List Frame} {meth : Method} {c : Code} {H : Heap} {locs : List Loc} {cells slots : Nat} {Q : State → Prop}
variable {cc : ByteArray} {pc : Nat} {ls : Array Slot} {rest : List Value}
theorem n_max (hexec : p.tables.exec = Jvm.exec) (hb : c.code = cc) (hml : c.maxLocals = ls.size) {own : String} {index : Nat} (hown : s.vm.findClass own = some m.cls) (hlink : (Cond.methodLink own index Lib.Math.max.name).before args s = true) (hstat : (Cond.static Lib.Math.max.name).before args s = true) (hini : (Cond.initialized "java/lang/Math").before args s = true) (hcode : (Cond.code Lib.Math.max.name Lib.Math.max.code 2 (some .int)).before args s = true)
    (hframes : 1 ≤ R.frames) (hlocals : (rest.map fun v => v.category).sum + 13 ≤ R.locals) (hc : cells ≤ R.cells) (hs : slots ≤ R.slots) {x y : Int} (h : (-2147483648 ≤ x ∧ x < 2147483648) ∧ -2147483648 ≤ y ∧ y < 2147483648) (hdg : decode cc pc = .ok (.invokestatic index, 3))
    (kk : W p l e R s m args below meth c H locs cells slots Q (F0 m (pc + 3) ls (.int (iI (if x < y then y else x)) :: rest))) : W p l e R s m args below meth c H locs cells slots Q (F0 m pc ls (.int (iI y) :: .int (iI x) :: rest)) := by
  refine va_mmax hexec hb hml hown hlink hstat hini hcode hframes hlocals hc hs hdg ?_
  have e : (if iI x < iI y then iI y else iI x) = iI (if x < y then y else x) := by
    by_cases q : x < y
    · rw [if_pos q, if_pos ((iI_lt h).mpr q)]
    · rw [if_neg q, if_neg (fun z => q ((iI_lt h).mp z))]
  rw [e]
  exact kk
end XM
def soI (o rf ro : Int → Int) : Nat → Bool
  | 0 => true
  | n + 1 => soI o rf ro n && decide (o (rf (n : Int)) = ro (n : Int))
theorem soI_s (o rf ro : Int → Int) {i : Int} (h : 0 ≤ i) : soI o rf ro (i + 1).toNat = (soI o rf ro i.toNat && decide (o (rf i) = ro i)) := by
  obtain ⟨k, rfl⟩ := Int.eq_ofNat_of_zero_le h
  rfl
theorem soI_no {o rf ro : Int → Int} {i : Int} (h : 0 ≤ i) (hn : ¬ o (rf i) = ro i) : ∀ n : Nat, i < n → soI o rf ro n = false
  | 0, h1 => absurd h1 (by omega)
  | n + 1, h1 => by
    show (soI o rf ro n && decide (o (rf (n : Int)) = ro (n : Int))) = false
    by_cases e : i = (n : Int)
    · rw [← e, decide_eq_false hn, Bool.and_false]
    · rw [soI_no h hn n (by omega), Bool.false_and]
theorem soI_congr {o o' rf ro rf' ro' : Int → Int} : ∀ n : Nat, (∀ j : Int, 0 ≤ j → j < n → o (rf j) = o' (rf' j) ∧ ro j = ro' j) → soI o rf ro n = soI o' rf' ro' n
  | 0, _ => rfl
  | n + 1, h => by
    obtain ⟨e1, e2⟩ := h n (by omega) (by omega)
    show (soI o rf ro n && decide (o (rf (n : Int)) = ro (n : Int))) = (soI o' rf' ro' n && decide (o' (rf' (n : Int)) = ro' (n : Int)))
    rw [soI_congr n (fun j a b => h j a (by omega)), e1, e2]
