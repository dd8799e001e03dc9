/-! ===== makers: what they need, how they are called ===== -/
def niT : List (String × Nat × String) := [("ActRows", 19, "ActRows$Text"), ("ActRows$Text", 11, "ActRows$Program"), ("ActRows", 26, "ActRows$Trial"), ("ActRows$Trial", 11, "ActRows$Program"), ("ActRows", 40, "ActRows$Day"), ("ActRows", 47, "ActRows$Readings"), ("ActRows", 59, "ActRows$Sheet")]
def NI (U : State) : Prop := ∀ t ∈ niT, va_Nw (.methodLinkNest t.1 t.2.1 ⟨t.2.2, "<init>", "()V"⟩ "ActRows") U
theorem NI.warm {s U : State} (hW : s.WarmedH U.vm) (h : NI s) : NI U := fun t ht => va_Nw.warmM hW (h t ht)
theorem NI.same {u U : State} (e : u.vm = U.vm) (h : NI u) : NI U := fun t ht => va_Nw.same rfl e (h t ht)
def KI (D : va_G) (cI cS : ClassId) (U : State) : Prop := KK D cI cS U ∧ NI U ∧ va_AO "ActRows$Sheet" U
theorem KI.warm {D : va_G} {cI cS : ClassId} {s U : State} (hW : s.WarmedH U.vm) (h : KI D cI cS s) : KI D cI cS U := ⟨KK.warm hW h.1, NI.warm hW h.2.1, va_AO.moved hW.alike h.2.2⟩
theorem KI.call {D : va_G} {cI cS : ClassId} {U : State} {g : JFrame} {mk : MethodId} {a : Array Value} (h : KI D cI cS U) : KI D cI cS (U.calling g mk a) := ⟨KK.call h.1, NI.same (u := U) (U := U.calling g mk a) rfl h.2.1, va_AO.moved (u := U) (U := U.calling g mk a) (Vm.Alike.refl U.vm) h.2.2⟩
def cPI (D : va_G) (cI cS : ClassId) (Wc : va_W) (sz : Nat) (av : List Value) : Array Value → State → Prop := va_Pc av (fun U => U.heap.size = sz ∧ va_P D vwCl Wc U.heap ∧ KI D cI cS U ∧ va_D (fun _ => True) Wc)
theorem cPI.blind {D : va_G} {cI cS : ClassId} {Wc : va_W} {sz : Nat} {av : List Value} : FrameBlind (cPI D cI cS Wc sz av) := by
  intro a U g mk q
  obtain ⟨q0, q1, qP, qK, qD⟩ := q
  exact ⟨q0, q1, qP, KI.call qK, qD⟩
def adrs {α : Type} (d : α) : List α → Nat → α
  | [], _ => d
  | a :: _, 0 => a
  | _ :: l, n + 1 => adrs d l n
abbrev z0 : Int → Int := fun _ => 0
section XI
variable {p : Program} {l : Launch} {e : Env} {R : Room} {s : State} {m : MethodId} {args : Array Value} {below : List Frame} {meth : Method} {c : Code} {H : Heap} {locs : List Loc} {cells slots : Nat} {Q : State → Prop}
variable {cc : ByteArray} {pc : Nat} {ls : Array Slot} {rest st0 : List Value} {D : va_G} {A : Nat → Prop} {H0 : Heap} {Wd : va_W} {cI cS : ClassId}
theorem x_callIN {S : Type} {y : MethodName} {ws : List Cond} {rm : Room} {bytes : ByteArray} {maxL index nL mc ms : Nat} {Ts : List Cond} {own : String} {b : Addr} {Wc : va_W} {W' : S → va_W} {post : S → Prop}
    (S0 : CallFix p m c cc nL s args Ts own) (hM : Met l y ws rm (cPI D cI cS Wc H.size [.ref b]) (va_Qv post (fun u t => cB D (va_A Wc H.size) (W' u) t) (va_A Wc H.size)) mc ms (va_A Wc H.size)) (cw : va_CN R s args own index y "ActRows" bytes maxL none ws rm mc ms 0 ∧ y.name = "<init>" ∧ (Cond.instanceMethod y).before args s = true)
    (hK : KI D cI cS s) (hP : va_P D vwCl Wd H) (hD : va_D A Wd) (hS : va_S A H0 H locs) (hA : ∀ q, H0.size ≤ q → A q) (isC isR : List Nat) {wr : va_W} (hC : isC.map (fun i => Wd[i]?) = Wc.map some) (hR : isR.map (fun i => Wd[i]?) = wr.map some) (hnC : va_nd isC = true) (hnR : va_nd isR = true) (hdis : ∀ i ∈ isR, i ∉ isC)
    (hsize : ls.size = nL) (hst : st0 = .ref b :: rest) (hroom : (rest.map fun v => v.category).sum ≤ 8) (hcs : cells + mc ≤ R.cells ∧ slots + ms ≤ R.slots) (hdg : decode cc pc = .ok (.invokespecial index, 3))
    (kk : ∀ (u : S) (H1 : Heap) (locs1 : List Loc), post u → va_P D vwCl (wr ++ W' u) H1 → va_D A (wr ++ W' u) → va_S A H0 H1 locs1 → W p l e R s m args below meth c H1 locs1 (cells + mc) (slots + ms) Q (F0 m (pc + 3) ls (rest))) : W p l e R s m args below meth c H locs cells slots Q (F0 m pc ls st0) := by
  have hPc := hP.sub (ws' := Wc) isC (map_filter hC)
  have hDc := hD.sub (ws' := Wc) isC hnC hC
  have hFc := va_free (wc := Wc) hD hS hA isC hC
  refine va_callv (va_runIN (As := []) (rest := rest) (g := F0 m pc ls st0) S0 hM cw ⟨cPI.blind, fun U hU hW => ⟨rfl, by rw [hU], by rw [hU]; exact hPc, KI.warm hW hK, hDc.weaken (fun _ _ _ _ => trivial)⟩⟩ rfl rfl hsize hst (lv_room hroom) hdg hcs) hS (fun q _ h => hFc q h) hFc (fun u t H1 locs1 ht hvm hw hB hz1 hk1 hS1 => ?_)
  obtain ⟨hP1, hD1⟩ := hB
  rw [ht] at hP1
  obtain ⟨hP2, hD2⟩ := va_join (wr := wr) (w1 := W' u) hP hD isC isR hC hR hnR hdis hk1 hFc hP1 hD1
  exact kk u H1 locs1 hw hP2 hD2 hS1
theorem x_callI {S : Type} {y : MethodName} {ws : List Cond} {rm : Room} {bytes : ByteArray} {maxL index nL mc ms : Nat} {Ts : List Cond} {own : String} {b : Addr} {Wc : va_W} {W' : S → va_W} {post : S → Prop}
    (S0 : CallFix p m c cc nL s args Ts own) (hM : Met l y ws rm (cPI D cI cS Wc H.size [.ref b]) (va_Qv post (fun u t => cB D (va_A Wc H.size) (W' u) t) (va_A Wc H.size)) mc ms (va_A Wc H.size)) (cw : CallB R s args own index y bytes maxL none ws rm mc ms 0 ∧ y.name = "<init>" ∧ (Cond.instanceMethod y).before args s = true)
    (hK : KI D cI cS s) (hP : va_P D vwCl Wd H) (hD : va_D A Wd) (hS : va_S A H0 H locs) (hA : ∀ q, H0.size ≤ q → A q) (isC isR : List Nat) {wr : va_W} (hC : isC.map (fun i => Wd[i]?) = Wc.map some) (hR : isR.map (fun i => Wd[i]?) = wr.map some) (hnC : va_nd isC = true) (hnR : va_nd isR = true) (hdis : ∀ i ∈ isR, i ∉ isC)
    (hsize : ls.size = nL) (hst : st0 = .ref b :: rest) (hroom : (rest.map fun v => v.category).sum ≤ 8) (hcs : cells + mc ≤ R.cells ∧ slots + ms ≤ R.slots) (hdg : decode cc pc = .ok (.invokespecial index, 3))
    (kk : ∀ (u : S) (H1 : Heap) (locs1 : List Loc), post u → va_P D vwCl (wr ++ W' u) H1 → va_D A (wr ++ W' u) → va_S A H0 H1 locs1 → W p l e R s m args below meth c H1 locs1 (cells + mc) (slots + ms) Q (F0 m (pc + 3) ls (rest))) : W p l e R s m args below meth c H locs cells slots Q (F0 m pc ls st0) := by
  have hPc := hP.sub (ws' := Wc) isC (map_filter hC)
  have hDc := hD.sub (ws' := Wc) isC hnC hC
  have hFc := va_free (wc := Wc) hD hS hA isC hC
  refine va_callv (va_runI (As := []) (rest := rest) (g := F0 m pc ls st0) S0 hM cw ⟨cPI.blind, fun U hU hW => ⟨rfl, by rw [hU], by rw [hU]; exact hPc, KI.warm hW hK, hDc.weaken (fun _ _ _ _ => trivial)⟩⟩ rfl rfl hsize hst (lv_room hroom) hdg hcs) hS (fun q _ h => hFc q h) hFc (fun u t H1 locs1 ht hvm hw hB hz1 hk1 hS1 => ?_)
  obtain ⟨hP1, hD1⟩ := hB
  rw [ht] at hP1
  obtain ⟨hP2, hD2⟩ := va_join (wr := wr) (w1 := W' u) hP hD isC isR hC hR hnR hdis hk1 hFc hP1 hD1
  exact kk u H1 locs1 hw hP2 hD2 hS1
theorem n_newa (hexec : p.tables.exec = Jvm.exec) (hb : c.code = cc) (harr : (Cond.arrayClass .int).before args s = true) (hK : KI D cI cS s) (hP : va_P D vwCl Wd H) (hD : va_D A Wd) (hS : va_S A H0 H locs) (hA : ∀ q, H0.size ≤ q → A q)
    {k : Int} (N : Nat) (hk : k = (N : Int)) (hN : N ≤ 2000) (hcells : cells + 1 ≤ R.cells) (hslots : slots + N ≤ R.slots) (hdg : decode cc pc = .ok (.newarray .int, 2))
    (kk : ∀ (q : Nat) (H1 : Heap), va_P D vwCl (Wd ++ [(q, .inl (cI, N, .inl (aI z0)))]) H1 → va_D A (Wd ++ [(q, .inl (cI, N, .inl (aI z0)))]) → va_S A H0 H1 locs →
      W p l e R s m args below meth c H1 locs (cells + 1) (slots + N) Q (F0 m (pc + 2) ls (.ref q :: rest))) : W p l e R s m args below meth c H locs cells slots Q (F0 m pc ls (.int (iI k) :: rest)) := by
  subst hk
  have hcl := iI_cl (i := (N : Int)) (by omega) (by omega)
  refine va_newa (atype := .int) (ty := .int) (N' := N) (a0 := (N, .inl (aI z0))) hexec hb harr rfl hK.1.1 hP hD hS hA (fun cA => rfl) (by rw [iI_0, iI_lt ⟨⟨by omega, by omega⟩, by omega, by omega⟩]; omega) (by omega) (by show N * 4 ≤ _; omega) hcells hslots hdg (fun q cA H1 hK2 hP2 hD2 hS2 => ?_)
  have e1 := (hK2.2 2 (cA, .int) rfl).2
  have e2 := (hK.1.1.2 0 (cI, .int) rfl).2
  have e3 : cA = cI := Option.some.inj (e1.symm.trans e2)
  subst e3
  exact kk q H1 hP2 hD2 hS2
theorem n_newq (hexec : p.tables.exec = Jvm.exec) (hb : c.code = cc) {own : String} {index : Nat} (hown : s.vm.findClass own = some m.cls) (hclink : (Cond.classLink own index "ActRows$Sheet").before args s = true) (hK : KI D cI cS s) (hP : va_P D vwCl Wd H) (hD : va_D A Wd) (hS : va_S A H0 H locs) (hA : ∀ q, H0.size ≤ q → A q)
    {k : Int} (N : Nat) (hk : k = (N : Int)) (hN : N ≤ 2000) (hcells : cells + 1 ≤ R.cells) (hslots : slots + N ≤ R.slots) (hdg : decode cc pc = .ok (.anewarray index, 3))
    (kk : ∀ (q : Nat) (H1 : Heap), va_P D vwCl (Wd ++ [(q, .inl (cS, N, .inr (.inr (.inr (.inr (fun _ => none))))))]) H1 → va_D A (Wd ++ [(q, .inl (cS, N, .inr (.inr (.inr (.inr (fun _ => none))))))]) → va_S A H0 H1 locs →
      W p l e R s m args below meth c H1 locs (cells + 1) (slots + N) Q (F0 m (pc + 3) ls (.ref q :: rest))) : W p l e R s m args below meth c H locs cells slots Q (F0 m pc ls (.int (iI k) :: rest)) := by
  subst hk
  have hcl := iI_cl (i := (N : Int)) (by omega) (by omega)
  refine va_newq (N' := N) hexec hb hown hclink hK.2.2 hK.1.1 hP hD hS hA (by rw [iI_0, iI_lt ⟨⟨by omega, by omega⟩, by omega, by omega⟩]; omega) (by omega) (by omega) hcells hslots hdg (fun q cA H1 hK2 hP2 hD2 hS2 => ?_)
  obtain ⟨k1, o1, -, -, -, e1⟩ := (hK2.2 2 (cA, .object "ActRows$Sheet") rfl).2
  obtain ⟨k2, o2, -, -, -, e2⟩ := (hK.1.1.2 1 (cS, .object "ActRows$Sheet") rfl).2
  have e3 : cA = cS := Option.some.inj (e1.symm.trans e2)
  subst e3
  exact kk q H1 hP2 hD2 hS2
end XI
