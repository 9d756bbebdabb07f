/-! what makes cells -/
theorem fc_inj {U : State} {n : String} {a b : ClassId} (h1 : U.vm.findClass n = some a) (h2 : U.vm.findClass n = some b) : a = b := Option.some.inj (h1.symm.trans h2)
section KN
variable {p : Program} {l : Launch} {e : Env} {R : Room} {s : State} {m : MethodId} {args : Array Value} {below : List Frame} {meth : Method} {c : Code} {H : Heap} {locs : List Loc} {cells slots : Nat} {Q : State → Prop}
variable {own nme : String} {cc : ByteArray} {ret : Option FieldType} {mL : Nat} {Ts : List Cond} {E : EV} {A : Nat → Prop} {pc : Nat} {ls : Array Slot} {rest : List Value} {a : Nat} {w : va_W}
theorem r_newI (C0 : Cx own nme cc ret mL Ts p s m args meth c) (hA : Ax E A s) (hw : Wd E A s H locs w) (harr : Cond.arrayClass .int ∈ Ts) {n : Int32} {N : Nat} (hn : ¬ n < 0) (hN : n.toNatClampNeg = N) (hbytes : N * componentBytes .int ≤ 536870912) (hcells : cells + 1 ≤ R.cells) (hslots : slots + N ≤ R.slots) (hdg : decode cc pc = .ok (.newarray .int, 2))
    (kk : ∀ (q : Nat) (H1 : Heap), Wd E A s H1 locs (w ++ [(q, .inl (E.2.1.2.1, N, .inl (fun _ => 0)))]) → W p l e R s m args below meth c H1 locs (cells + 1) (slots + N) Q (F0 m (pc + 2) ls (.ref q :: rest))) : W p l e R s m args below meth c H locs cells slots Q (F0 m pc ls (.int n :: rest)) :=
  va_newa (a0 := (N, .inl (fun _ => 0))) (atype := .int) (ty := .int) C0.1 C0.2.1 (show (Cond.arrayClass (newarray.typeOf .int)).before args s = true from C0.2.2.2.2.2.1 (Cond.arrayClass .int) harr) rfl hA.2.2.1.1 hw.1 hw.2.1 hw.2.2 hA.1 (fun _ => rfl) hn hN hbytes hcells hslots hdg (fun q cA H1 hK hP hD hS => by
    have e1 : s.vm.findClass ("[" ++ (FieldType.int).toString) = some cA := (hK.2 3 _ rfl).2
    have e2 : s.vm.findClass ("[" ++ (FieldType.int).toString) = some E.2.1.2.1 := (hK.2 1 _ rfl).2
    have e3 := fc_inj e1 e2
    subst e3
    exact kk q H1 ⟨hP, hD, hS⟩)
theorem r_newC (C0 : Cx own nme cc ret mL Ts p s m args meth c) (hA : Ax E A s) (hw : Wd E A s H locs w) (harr : Cond.arrayClass .char ∈ Ts) {n : Int32} {N : Nat} (hn : ¬ n < 0) (hN : n.toNatClampNeg = N) (hbytes : N * componentBytes .char ≤ 536870912) (hcells : cells + 1 ≤ R.cells) (hslots : slots + N ≤ R.slots) (hdg : decode cc pc = .ok (.newarray .char, 2))
    (kk : ∀ (q : Nat) (H1 : Heap), Wd E A s H1 locs (w ++ [(q, .inl (E.2.1.1, N, .inl (fun _ => 0)))]) → W p l e R s m args below meth c H1 locs (cells + 1) (slots + N) Q (F0 m (pc + 2) ls (.ref q :: rest))) : W p l e R s m args below meth c H locs cells slots Q (F0 m pc ls (.int n :: rest)) :=
  va_newa (a0 := (N, .inl (fun _ => 0))) (atype := .char) (ty := .char) C0.1 C0.2.1 (show (Cond.arrayClass (newarray.typeOf .char)).before args s = true from C0.2.2.2.2.2.1 (Cond.arrayClass .char) harr) rfl hA.2.2.1.1 hw.1 hw.2.1 hw.2.2 hA.1 (fun _ => rfl) hn hN hbytes hcells hslots hdg (fun q cA H1 hK hP hD hS => by
    have e1 : s.vm.findClass ("[" ++ (FieldType.char).toString) = some cA := (hK.2 3 _ rfl).2
    have e2 : s.vm.findClass ("[" ++ (FieldType.char).toString) = some E.2.1.1 := (hK.2 0 _ rfl).2
    have e3 := fc_inj e1 e2
    subst e3
    exact kk q H1 ⟨hP, hD, hS⟩)
theorem r_newJ (C0 : Cx own nme cc ret mL Ts p s m args meth c) (hA : Ax E A s) (hw : Wd E A s H locs w) (harr : Cond.arrayClass .long ∈ Ts) {n : Int32} {N : Nat} (hn : ¬ n < 0) (hN : n.toNatClampNeg = N) (hbytes : N * componentBytes .long ≤ 536870912) (hcells : cells + 1 ≤ R.cells) (hslots : slots + N ≤ R.slots) (hdg : decode cc pc = .ok (.newarray .long, 2))
    (kk : ∀ (q : Nat) (H1 : Heap), Wd E A s H1 locs (w ++ [(q, .inl (E.2.1.2.2, N, .inr (.inl (fun _ => 0))))]) → W p l e R s m args below meth c H1 locs (cells + 1) (slots + N) Q (F0 m (pc + 2) ls (.ref q :: rest))) : W p l e R s m args below meth c H locs cells slots Q (F0 m pc ls (.int n :: rest)) :=
  va_newa (a0 := (N, .inr (.inl (fun _ => 0)))) (atype := .long) (ty := .long) C0.1 C0.2.1 (show (Cond.arrayClass (newarray.typeOf .long)).before args s = true from C0.2.2.2.2.2.1 (Cond.arrayClass .long) harr) rfl hA.2.2.1.1 hw.1 hw.2.1 hw.2.2 hA.1 (fun _ => rfl) hn hN hbytes hcells hslots hdg (fun q cA H1 hK hP hD hS => by
    have e1 : s.vm.findClass ("[" ++ (FieldType.long).toString) = some cA := (hK.2 3 _ rfl).2
    have e2 : s.vm.findClass ("[" ++ (FieldType.long).toString) = some E.2.1.2.2 := (hK.2 2 _ rfl).2
    have e3 := fc_inj e1 e2
    subst e3
    exact kk q H1 ⟨hP, hD, hS⟩)
theorem r_new (C0 : Cx own nme cc ret mL Ts p s m args meth c) (hA : Ax E A s) (hw : Wd E A s H locs w) {C : String} {T : u_T} {N ci index : Nat} (hin : ∀ w ∈ u_ws C T N, w ∈ Ts) (ty : Nat → FieldType) (hty : ∀ k, k < N → parseFieldDescriptor (T k).2.2.1 = some (ty k)) (hcl : Cond.classLink own index C ∈ Ts) (hinst : Cond.instantiable C N ∈ Ts) (hini : Cond.initialized C ∈ Ts) (hc : vwCl[ci]? = some (C, T, N)) {fs : List Value} (hfs : ∀ j, j < N → defaultValue (ty j) = vp_V fs j) (hcells : cells + 1 ≤ R.cells) (hslots : slots + N ≤ R.slots) (hdg : decode cc pc = .ok (.new index, 3))
    (kk : ∀ (q : Nat) (H1 : Heap), Wd E A s H1 locs (w ++ [(q, .inr (ci, fs))]) → W p l e R s m args below meth c H1 locs (cells + 1) (slots + N) Q (F0 m (pc + 3) ls (.ref q :: rest))) : W p l e R s m args below meth c H locs cells slots Q (F0 m pc ls rest) :=
  va_new C0.1 C0.2.1 C0.2.2.2.2.2.1 hin ty hty C0.2.2.2.2.1 (C0.2.2.2.2.2.1 _ hcl) (C0.2.2.2.2.2.1 _ hinst) (C0.2.2.2.2.2.1 _ hini) hA.2.2.1.1 hw.1 hw.2.1 hw.2.2 hA.1 hc hfs hcells hslots hdg (fun q H1 hP hD hS => kk q H1 ⟨hP, hD, hS⟩)
theorem r_obj (C0 : Cx own nme cc ret mL Ts p s m args meth c) {idx : Nat} (h1 : Cond.methodLink own idx objectInit ∈ Ts) (h2 : Cond.instanceMethod objectInit ∈ Ts) (h3 : Cond.code objectInit ⟨#[0xb1]⟩ 1 none ∈ Ts) (hsz : ls.size = mL) (hdg : decode cc pc = .ok (.invokespecial idx, 3)) (hf : 1 ≤ R.frames) (hlo : 12 ≤ R.locals)
    (kk : W p l e R s m args below meth c H locs cells slots Q (F0 m (pc + 3) ls [])) : W p l e R s m args below meth c H locs cells slots Q (F0 m pc ls [.ref a]) := by
  refine W.objInit C0.1 C0.2.1 C0.2.2.2.2.1 (C0.2.2.2.2.2.1 _ h1) (C0.2.2.2.2.2.1 _ h2) (C0.2.2.2.2.2.1 _ h3) rfl (by rw [C0.2.2.2.1]; exact hsz) rfl hdg hf hlo ?_
  exact W.eq (g2 := F0 m (pc + 3) ls []) rfl kk
theorem r_copyx {β : Type} (C0 : Cx own nme cc ret mL Ts p s m args meth c) (hA : Ax E A s) (hw : Wd E A s H locs w) (hsz : ls.size = mL) {b0 n0 : Nat} {f : Nat → Int32} (hX : va_X b0 n0 f s s.heap) (hb0 : b0 < E.2.2.1) (q1 : Nat) {n1 : Nat} {g : Nat → Int32} (ha1 : w[q1]? = some (a, .inl (E.2.1.2.1, n1, .inl g))) {index : Nat} (hlink : Cond.methodLink own index arraycopyName ∈ Ts) (hnat : Cond.native arraycopyName ∈ Ts) (hstat : Cond.static arraycopyName ∈ Ts) (hini : Cond.initialized "java/lang/System" ∈ Ts)
    {sp dp n : Int32} (h : ¬ sp < 0 ∧ ¬ dp < 0 ∧ ¬ n < 0 ∧ sp.toNatClampNeg + n.toNatClampNeg ≤ n0 ∧ dp.toNatClampNeg + n.toNatClampNeg ≤ n1) (hframes : 1 ≤ R.frames) (hlocals : (rest.map fun v => v.category).sum + 18 ≤ R.locals) (hdg : decode cc pc = .ok (.invokestatic index, 3))
    (z : β) (ff : β → va_W) (hset : w.set q1 (a, .inl (E.2.1.2.1, n1, .inl (va_cpy f g sp.toNatClampNeg dp.toNatClampNeg n.toNatClampNeg))) = ff z)
    (kk : ∀ (y : β), y = z → ∀ (H1 : Heap) (locs1 : List Loc), Wd E A s H1 locs1 (ff y) → W p l e R s m args below meth c H1 locs1 cells slots Q (F0 m (pc + 3) ls rest)) : W p l e R s m args below meth c H locs cells slots Q (F0 m pc ls (.int n :: .int dp :: .ref a :: .int sp :: .ref b0 :: rest)) :=
  va_copyx C0.1 C0.2.1 (C0.2.2.2.1.trans hsz.symm) C0.2.2.2.2.1 (C0.2.2.2.2.2.1 _ hlink) (C0.2.2.2.2.2.1 _ hnat) (C0.2.2.2.2.2.1 _ hstat) (C0.2.2.2.2.2.1 _ hini) hA.2.2.1.1 hw.1 hw.2.1 hw.2.2 hX (Nat.lt_of_lt_of_le hb0 hA.2.2.2) (fun z => by have := hA.2.1 _ z; omega) q1 1 ha1 rfl h.1 h.2.1 h.2.2.1 h.2.2.2.1 h.2.2.2.2 hframes hlocals hdg (fun H1 locs1 h1 h2 h3 => kk z rfl H1 locs1 (hset ▸ ⟨h1, h2, h3⟩))
end KN
