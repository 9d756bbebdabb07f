/-! static tables, arraycopy, Arrays.fill -/
def cpy {α : Type} (sp dp n : Int32) (n0 n1 : Nat) (k : Option α) : Option α := if sp < 0 ∨ dp < 0 ∨ n < 0 ∨ n0 < sp.toNatClampNeg + n.toNatClampNeg ∨ n1 < dp.toNatClampNeg + n.toNatClampNeg then none else k
theorem cpy_some {α : Type} {sp dp n : Int32} {n0 n1 : Nat} {k : Option α} {v : α} (h : cpy sp dp n n0 n1 k = some v) : (¬ sp < 0 ∧ ¬ dp < 0 ∧ ¬ n < 0 ∧ sp.toNatClampNeg + n.toNatClampNeg ≤ n0 ∧ dp.toNatClampNeg + n.toNatClampNeg ≤ n1) ∧ k = some v := by
  unfold cpy at h
  by_cases c : sp < 0 ∨ dp < 0 ∨ n < 0 ∨ n0 < sp.toNatClampNeg + n.toNatClampNeg ∨ n1 < dp.toNatClampNeg + n.toNatClampNeg
  · rw [if_pos c] at h; cases h
  · rw [if_neg c] at h
    refine ⟨⟨fun z => c (Or.inl z), fun z => c (Or.inr (Or.inl z)), fun z => c (Or.inr (Or.inr (Or.inl z))), ?_, ?_⟩, h⟩
    · exact Nat.not_lt.mp (fun z => c (Or.inr (Or.inr (Or.inr (Or.inl z)))))
    · exact Nat.not_lt.mp (fun z => c (Or.inr (Or.inr (Or.inr (Or.inr z)))))
def fillF (n : Nat) (f : Nat → Int32) (v : Int32) : Nat → Int32 := fun j => if j < n then v else f j
section KT
variable {p : Program} {l : Launch} {e : Env} {R : Room} {s : State} {m : MethodId} {args : Array Value} {below : List Frame} {meth : Method} {c : Code} {H : Heap} {locs : List Loc} {cells slots : Nat} {Q : State → Prop}
variable {own nme : String} {cc : ByteArray} {ret : Option FieldType} {mL : Nat} {Ts : List Cond} {E : EV} {A : Nat → Prop} {pc : Nat} {ls : Array Slot} {rest : List Value} {a : Nat} {w : va_W}
theorem r_gets (C0 : Cx own nme cc ret mL Ts p s m args meth c) (hA : Ax E A s) (hw : Wd E A s H locs w) {C n d : String} {v : Value} (hZ : va_Z C n d v (fun q => E.2.2.1 ≤ q) s s.heap) {index : Nat} (hlink : (Cond.fieldLink own index C n d).before args s = true) (hdg : decode cc pc = .ok (.getstatic index, 3))
    (kk : W p l e R s m args below meth c H locs cells slots Q (F0 m (pc + 3) ls (v :: rest))) : W p l e R s m args below meth c H locs cells slots Q (F0 m pc ls rest) :=
  va_gets C0.1 C0.2.1 (hZ.narrow hA.2.1) hw.2.2 C0.2.2.2.2.1 hlink (fun _ h => h) hdg kk
theorem r_tld (C0 : Cx own nme cc ret mL Ts p s m args meth c) (hA : Ax E A s) (hw : Wd E A s H locs w) {t N : Nat} {f : Nat → Int32} (hT : va_T .int t N (fun j => .int (f j)) (fun q => E.2.2.1 ≤ q) s s.heap) {i : Int32} (hin : vp_in i N) (hdg : decode cc pc = .ok (.iaload, 1))
    (kk : W p l e R s m args below meth c H locs cells slots Q (F0 m (pc + 1) ls (.int (f i.toNatClampNeg) :: rest))) : W p l e R s m args below meth c H locs cells slots Q (F0 m pc ls (.int i :: .ref t :: rest)) :=
  va_ti C0.1 C0.2.1 (hT.narrow hA.2.1) hw.2.2 hin rfl hdg kk
theorem r_copy {β : Type} (C0 : Cx own nme cc ret mL Ts p s m args meth c) (hA : Ax E A s) (hw : Wd E A s H locs w) (hsz : ls.size = mL) (q0 q1 : Nat) {a0 : Nat} {n0 n1 : Nat} {f g : Nat → Int32} (ha0 : w[q0]? = some (a0, .inl (E.2.1.2.1, n0, .inl f))) (ha1 : w[q1]? = some (a, .inl (E.2.1.2.1, n1, .inl g))) {index : Nat} (hlink : (Cond.methodLink own index arraycopyName).before args s = true) (hnat : (Cond.native arraycopyName).before args s = true) (hstat : (Cond.static arraycopyName).before args s = true) (hini : (Cond.initialized "java/lang/System").before args s = true)
    {sp dp n : Int32} (h : ¬ sp < 0 ∧ ¬ dp < 0 ∧ ¬ n < 0 ∧ sp.toNatClampNeg + n.toNatClampNeg ≤ n0 ∧ dp.toNatClampNeg + n.toNatClampNeg ≤ n1) (hframes : 1 ≤ R.frames) (hlocals : (rest.map fun v => v.category).sum + 18 ≤ R.locals) (hdg : decode cc pc = .ok (.invokestatic index, 3))
    (z : β) (ff : β → va_W) (hset : w.set q1 (a, .inl (E.2.1.2.1, n1, .inl (va_cpy f g sp.toNatClampNeg dp.toNatClampNeg n.toNatClampNeg))) = ff z)
    (kk : ∀ (y : β), y = z → ∀ (H1 : Heap) (locs1 : List Loc), Wd E A s H1 locs1 (ff y) → W p l e R s m args below meth c H1 locs1 cells slots Q (F0 m (pc + 3) ls rest)) : W p l e R s m args below meth c H locs cells slots Q (F0 m pc ls (.int n :: .int dp :: .ref a :: .int sp :: .ref a0 :: rest)) :=
  va_copyi C0.1 C0.2.1 (C0.2.2.2.1.trans hsz.symm) C0.2.2.2.2.1 hlink hnat hstat hini hA.2.2.1.1 hw.1 hw.2.1 hw.2.2 q0 q1 1 1 ha0 ha1 rfl rfl rfl h.1 h.2.1 h.2.2.1 h.2.2.2.1 h.2.2.2.2 (fun _ _ => rfl) hframes hlocals hdg (fun H1 locs1 h1 h2 h3 => kk z rfl H1 locs1 (hset ▸ ⟨h1, h2, h3⟩))
theorem r_len (C0 : Cx own nme cc ret mL Ts p s m args meth c) (hA : Ax E A s) (hw : Wd E A s H locs w) (q0 : Nat) {n : Nat} {f : Nat → Int32} (ha : w[q0]? = some (a, .inl (E.2.1.2.1, n, .inl f))) (hdg : decode cc pc = .ok (.arraylength, 1))
    (kk : W p l e R s m args below meth c H locs cells slots Q (F0 m (pc + 1) ls (.int (nI n) :: rest))) : W p l e R s m args below meth c H locs cells slots Q (F0 m pc ls (.ref a :: rest)) :=
  va_alen C0.1 C0.2.1 hA.2.2.1.1 hw.1 q0 1 ha rfl rfl hdg kk
end KT
def wA (E : EV) (ad : Nat → Nat) (n : Nat) (f : Nat → Int32) : va_W := [(ad 0, .inl (E.2.1.2.1, n, .inl f))]
set_option maxRecDepth 20000 in
theorem k_fill {p : Program} {l : Launch} {e : Env} {s : State} {m : MethodId} {args : Array Value} {below : List Frame} {meth : Method} {c : Code} {A : Nat → Prop} {E : EV} {ad : Nat → Nat} {R : Room} {N : Nat} {f : Nat → Int32} {v : Int32} (hN : N < 2 ^ 31) (C0 : Cx RJ7 "fill" cJ7_fill_53178 none 4 wsJ7_fill_53178 p s m args meth c) (hA : Ax E A s) :
    ∀ (n i : Nat) (H : Heap) (locs : List Loc) (ls : Array Slot), i + n = N → Wd E A s H locs (wA E ad N (fun j => if j < i then v else f j)) → lv_has ls 4 [(0, .ref (ad 0)), (1, .int v), (2, .int (nI i)), (3, .int (nI N))] → W p l e R s m args below meth c H locs 0 0 (MQ below (QG E (Qd none (wA E ad N (fillF N f v))) A) args s 0 0 A) (F0 m 5 ls []) := by
  have hx := C0.1
  have hb := C0.2.1
  intro n
  induction n with
  | zero =>
    intro i H locs ls hi hw hl
    have hi : i = N := by omega
    subst hi
    refine lv_iload_n hx hb dJ7_fill_53178_5 rfl (lv_at hl 2 rfl) ?_
    refine lv_iload_n hx hb dJ7_fill_53178_6 rfl (lv_at hl 3 rfl) ?_
    refine lv_icmp_ge (tgt := 20) hx hb dJ7_fill_53178_7 (by decide) (fun c1 => ?_) (fun c1 => ?_)
    · exact r_vret C0 hw dJ7_fill_53178_20 ⟨rfl, rfl⟩
    · exact absurd (nI_le (Nat.le_refl i) hN) c1
  | succ n ih =>
    intro i H locs ls hi hw hl
    have hlt : i < N := by omega
    refine lv_iload_n hx hb dJ7_fill_53178_5 rfl (lv_at hl 2 rfl) ?_
    refine lv_iload_n hx hb dJ7_fill_53178_6 rfl (lv_at hl 3 rfl) ?_
    refine lv_icmp_ge (tgt := 20) hx hb dJ7_fill_53178_7 (by decide) (fun c1 => ?_) (fun c1 => ?_)
    · exact absurd c1 (nI_ge hlt hN)
    · refine lv_aload_n hx hb dJ7_fill_53178_10 rfl (lv_at hl 0 rfl) ?_
      refine lv_iload_n hx hb dJ7_fill_53178_11 rfl (lv_at hl 2 rfl) ?_
      refine lv_iload_n hx hb dJ7_fill_53178_12 rfl (lv_at hl 1 rfl) ?_
      have hfe : upd (fun j => if j < i then v else f j) (nI i).toNatClampNeg v = (fun j => if j < i + 1 then v else f j) := by
        funext j
        rw [nI_clamp (by omega)]
        unfold upd
        by_cases h : j = i
        · subst h; simp
        · by_cases h2 : j < i
          · simp [h, h2, Nat.lt_succ_of_lt h2]
          · have h3 : ¬ j < i + 1 := by omega
            simp [h, h2, h3]
      refine r_ist C0 hA hw 0 rfl (vp_in_nI hlt (by omega)) dJ7_fill_53178_13 (fun j => if j < i + 1 then v else f j) (fun y => wA E ad N y) (by rw [hfe]; rfl) (fun y ey H locs hw => ?_)
      subst ey
      refine lv_iinc (v := nI (i + 1)) (lv' := [(2, .int (nI (i + 1))), (0, .ref (ad 0)), (1, .int v), (3, .int (nI N))]) hx hb dJ7_fill_53178_14 hl (k := 2) rfl (nI_1 i) (by decide) rfl (fun ls hl => ?_)
      refine lv_goto (tgt := 5) hx hb dJ7_fill_53178_17 (by decide) ?_
      exact ih (i + 1) _ _ _ (by omega) hw (lv_sub hl [1, 2, 0, 3] rfl)
theorem t_fill (l : Launch) (E : EV) (ad : Nat → Nat) (n : Nat) (f : Nat → Int32) (v : Int32) (hn : n < 2 ^ 31) : CT l yJ7_fill_53178 wsJ7_fill_53178 ({ frames := 0, cells := 0, slots := 0, locals := 0 } : Room) E [.ref (ad 0), .int v] (wA E ad n f) (Qd none (wA E ad n (fillF n f v))) 0 0 :=
  CT.of (mL := 4) (lvs := [(0, .ref (ad 0)), (1, .int v)]) (by decide +kernel) rfl (Nat.le_of_ble_eq_true rfl) rfl rfl rfl (fun p e s m below meth c A C0 hA hw ls hl => by
    have hx := C0.1
    have hb := C0.2.1
    refine lv_iconst (v := 0) hx hb dJ7_fill_53178_0 (by decide) ?_
    refine lv_istore_n (lv' := [(2, .int 0), (0, .ref (ad 0)), (1, .int v)]) hx hb dJ7_fill_53178_1 rfl hl (by decide) rfl (fun ls hl => ?_)
    refine lv_aload_n hx hb dJ7_fill_53178_2 rfl (lv_at hl 1 rfl) ?_
    refine r_len C0 hA hw 0 rfl dJ7_fill_53178_3 ?_
    refine lv_istore_n (lv' := [(3, .int (nI n)), (2, .int 0), (0, .ref (ad 0)), (1, .int v)]) hx hb dJ7_fill_53178_4 rfl hl (by decide) rfl (fun ls hl => ?_)
    have hfe : (fun j => if j < 0 then v else f j) = f := by funext j; simp
    exact k_fill hn C0 hA n 0 _ _ _ (by omega) (by rw [hfe]; exact hw) (lv_sub hl [2, 3, 1, 0] rfl))
