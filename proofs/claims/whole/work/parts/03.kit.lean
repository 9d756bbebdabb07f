/-! own rows: abstract states, contexts, contracts, and the kit's rows over them -/
/-- the numbers of an object and of its arrays, by the field's number: ints, longs, int (char) arrays, long arrays -/
abbrev OS : Type := (Nat → Int32) × (Nat → Int64) × (Nat → Nat → Int32) × (Nat → Nat → Int64)
def sI (σ : OS) (k : Nat) (v : Int32) : OS := (va_up σ.1 k v, σ.2)
def sL (σ : OS) (k : Nat) (v : Int64) : OS := (σ.1, va_up σ.2.1 k v, σ.2.2)
def sR (σ : OS) (k : Nat) (f : Nat → Int32) : OS := (σ.1, σ.2.1, va_up σ.2.2.1 k f, σ.2.2.2)
def sT (σ : OS) (k : Nat) (f : Nat → Int64) : OS := (σ.1, σ.2.1, σ.2.2.1, va_up σ.2.2.2 k f)
def sA (σ : OS) (k : Nat) (i v : Int32) : OS := sR σ k (upd (σ.2.2.1 k) i.toNatClampNeg v)
def sB (σ : OS) (k : Nat) (i : Int32) (v : Int64) : OS := sT σ k (vp_updL (σ.2.2.2 k) i.toNatClampNeg v)
/-- guards and steps of the mirrors -/
def gd {α : Type} (i : Int32) (n : Nat) (k : Option α) : Option α := if i < 0 ∨ n ≤ i.toNatClampNeg then none else k
def nz {α : Type} (y : Int32) (k : Option α) : Option α := if y = 0 then none else k
def nzl {α : Type} (y : Int64) (k : Option α) : Option α := if y = 0 then none else k
def bz {α : Type} (v : Int32) (k : Option α) : Option α := if v = 0 ∨ v = 1 then k else none
def nm {α β : Type} (e : α) (k : α → β) : β := k e
def b1 {α γ : Type} (o : Option α) (k : α → Option γ) : Option γ := o.bind k
def b2 {α β γ : Type} (o : Option (α × β)) (k : α → β → Option γ) : Option γ := o.bind fun q => k q.1 q.2
def b3 {α β δ γ : Type} (o : Option (α × β × δ)) (k : α → β → δ → Option γ) : Option γ := o.bind fun q => k q.1 q.2.1 q.2.2
def b4 {α β δ ε γ : Type} (o : Option (α × β × δ × ε)) (k : α → β → δ → ε → Option γ) : Option γ := o.bind fun q => k q.1 q.2.1 q.2.2.1 q.2.2.2
def b5 {α β δ ε ζ γ : Type} (o : Option (α × β × δ × ε × ζ)) (k : α → β → δ → ε → ζ → Option γ) : Option γ := o.bind fun q => k q.1 q.2.1 q.2.2.1 q.2.2.2.1 q.2.2.2.2
theorem gd_some {α : Type} {i : Int32} {n : Nat} {k : Option α} {v : α} (h : gd i n k = some v) : vp_in i n ∧ k = some v := by
  unfold gd at h
  by_cases c : i < 0 ∨ n ≤ i.toNatClampNeg
  · rw [if_pos c] at h; cases h
  · rw [if_neg c] at h; exact ⟨c, h⟩
theorem nz_some {α : Type} {y : Int32} {k : Option α} {v : α} (h : nz y k = some v) : ¬ y = 0 ∧ k = some v := by
  unfold nz at h
  by_cases c : y = 0
  · rw [if_pos c] at h; cases h
  · rw [if_neg c] at h; exact ⟨c, h⟩
theorem nzl_some {α : Type} {y : Int64} {k : Option α} {v : α} (h : nzl y k = some v) : ¬ y = 0 ∧ k = some v := by
  unfold nzl at h
  by_cases c : y = 0
  · rw [if_pos c] at h; cases h
  · rw [if_neg c] at h; exact ⟨c, h⟩
theorem bz_some {α : Type} {y : Int32} {k : Option α} {v : α} (h : bz y k = some v) : narrow .boolean (.int y) = .int y ∧ k = some v := by
  unfold bz at h
  by_cases c : y = 0 ∨ y = 1
  · rw [if_pos c] at h
    refine ⟨?_, h⟩
    rcases c with rfl | rfl <;> rfl
  · rw [if_neg c] at h; cases h
theorem nm_at {α β : Type} {e y : α} {k : α → β} {v : β} (h : nm e k = v) (ey : y = e) : k y = v := by subst ey; exact h
theorem b1_some {α γ : Type} {o : Option α} {k : α → Option γ} {v : γ} (h : b1 o k = some v) : ∃ a, o = some a ∧ k a = some v := by
  cases o with
  | none => cases h
  | some a => exact ⟨a, rfl, h⟩
theorem b2_some {α β γ : Type} {o : Option (α × β)} {k : α → β → Option γ} {v : γ} (h : b2 o k = some v) : ∃ a b, o = some (a, b) ∧ k a b = some v := by
  cases o with
  | none => cases h
  | some q => exact ⟨q.1, q.2, rfl, h⟩
theorem b3_some {α β δ γ : Type} {o : Option (α × β × δ)} {k : α → β → δ → Option γ} {v : γ} (h : b3 o k = some v) : ∃ a b c, o = some (a, b, c) ∧ k a b c = some v := by
  cases o with
  | none => cases h
  | some q => exact ⟨q.1, q.2.1, q.2.2, rfl, h⟩
theorem b4_some {α β δ ε γ : Type} {o : Option (α × β × δ × ε)} {k : α → β → δ → ε → Option γ} {v : γ} (h : b4 o k = some v) : ∃ a b c d, o = some (a, b, c, d) ∧ k a b c d = some v := by
  cases o with
  | none => cases h
  | some q => exact ⟨q.1, q.2.1, q.2.2.1, q.2.2.2, rfl, h⟩
theorem b5_some {α β δ ε ζ γ : Type} {o : Option (α × β × δ × ε × ζ)} {k : α → β → δ → ε → ζ → Option γ} {v : γ} (h : b5 o k = some v) : ∃ a b c d e, o = some (a, b, c, d, e) ∧ k a b c d e = some v := by
  cases o with
  | none => cases h
  | some q => exact ⟨q.1, q.2.1, q.2.2.1, q.2.2.2.1, q.2.2.2.2, rfl, h⟩
abbrev vwCl : List vw_C := [(RX0, TX0, 5), (RX1, TX1, 1), (RX2, TX2, 16), (RX3, TX3, 12), (RX4, TX4, 8), (RX5, TX5, 4), (RX6, TX6, 2), (RX7, TX7, 1), (RX8, TX8, 7), (RX9, TX9, 9), (RX10, TX10, 53)]
def nestWords : List Cond := [Cond.fieldLinkNest "GrammarTunes$Reader" 54 "GrammarTunes$Script" "characters" "[C" "GrammarTunes",
  Cond.fieldLinkNest "GrammarTunes$Reader" 51 "GrammarTunes$Script" "length" "I" "GrammarTunes",
  Cond.fieldLinkNest "GrammarTunes" 179 "GrammarTunes$Script" "length" "I" "GrammarTunes",
  Cond.fieldLinkNest "GrammarTunes$Maker" 120 "GrammarTunes$Grammar" "firstOf" "[I" "GrammarTunes",
  Cond.fieldLinkNest "GrammarTunes" 99 "GrammarTunes$Grammar" "alternativesOf" "[I" "GrammarTunes",
  Cond.fieldLinkNest "GrammarTunes$Maker" 128 "GrammarTunes$Grammar" "alternativesOf" "[I" "GrammarTunes",
  Cond.fieldLinkNest "GrammarTunes$Maker" 89 "GrammarTunes$Grammar" "weightsOf" "[I" "GrammarTunes",
  Cond.fieldLinkNest "GrammarTunes" 102 "GrammarTunes$Grammar" "weightsOf" "[I" "GrammarTunes",
  Cond.fieldLinkNest "GrammarTunes$Maker" 131 "GrammarTunes$Grammar" "weight" "[I" "GrammarTunes",
  Cond.fieldLinkNest "GrammarTunes$Maker" 114 "GrammarTunes$Grammar" "firstSign" "[I" "GrammarTunes",
  Cond.fieldLinkNest "GrammarTunes$Maker" 117 "GrammarTunes$Grammar" "endSign" "[I" "GrammarTunes",
  Cond.fieldLinkNest "GrammarTunes$Maker" 137 "GrammarTunes$Grammar" "letter" "[I" "GrammarTunes",
  Cond.fieldLinkNest "GrammarTunes$Maker" 145 "GrammarTunes$Grammar" "degree" "[I" "GrammarTunes",
  Cond.fieldLinkNest "GrammarTunes$Maker" 148 "GrammarTunes$Grammar" "octave" "[I" "GrammarTunes",
  Cond.fieldLinkNest "GrammarTunes$Maker" 158 "GrammarTunes$Grammar" "length" "[I" "GrammarTunes",
  Cond.fieldLinkNest "GrammarTunes" 88 "GrammarTunes$Grammar" "rules" "I" "GrammarTunes",
  Cond.fieldLinkNest "GrammarTunes" 181 "GrammarTunes$Grammar" "alternatives" "I" "GrammarTunes",
  Cond.fieldLinkNest "GrammarTunes" 184 "GrammarTunes$Grammar" "signs" "I" "GrammarTunes",
  Cond.fieldLinkNest "GrammarTunes$Maker" 59 "GrammarTunes$Grammar" "startLetter" "I" "GrammarTunes",
  Cond.fieldLinkNest "GrammarTunes" 133 "GrammarTunes$Tune" "pitch" "[I" "GrammarTunes",
  Cond.fieldLinkNest "GrammarTunes" 136 "GrammarTunes$Tune" "length" "[I" "GrammarTunes",
  Cond.fieldLinkNest "GrammarTunes" 139 "GrammarTunes$Tune" "begin" "[I" "GrammarTunes",
  Cond.fieldLinkNest "GrammarTunes" 142 "GrammarTunes$Tune" "degree" "[I" "GrammarTunes",
  Cond.fieldLinkNest "GrammarTunes$Maker" 79 "GrammarTunes$Tune" "count" "I" "GrammarTunes",
  Cond.fieldLinkNest "GrammarTunes" 130 "GrammarTunes$Tune" "count" "I" "GrammarTunes",
  Cond.fieldLinkNest "GrammarTunes$Maker" 86 "GrammarTunes$Places" "letter" "[I" "GrammarTunes",
  Cond.fieldLinkNest "GrammarTunes$Maker" 67 "GrammarTunes$Places" "weightLeft" "[I" "GrammarTunes",
  Cond.fieldLinkNest "GrammarTunes$Maker" 92 "GrammarTunes$Places" "tried" "[J" "GrammarTunes",
  Cond.fieldLinkNest "GrammarTunes$Maker" 96 "GrammarTunes$Places" "items" "[I" "GrammarTunes",
  Cond.fieldLinkNest "GrammarTunes$Maker" 99 "GrammarTunes$Places" "waiting" "[I" "GrammarTunes",
  Cond.fieldLinkNest "GrammarTunes$Maker" 101 "GrammarTunes$Places" "restFrom" "[I" "GrammarTunes",
  Cond.fieldLinkNest "GrammarTunes$Maker" 104 "GrammarTunes$Places" "restEnd" "[I" "GrammarTunes",
  Cond.fieldLinkNest "GrammarTunes$Maker" 107 "GrammarTunes$Places" "restOuter" "[I" "GrammarTunes",
  Cond.fieldLinkNest "GrammarTunes" 162 "GrammarTunes$Chain" "path" "[I" "GrammarTunes",
  Cond.fieldLinkNest "GrammarTunes" 154 "GrammarTunes$Chain" "count" "I" "GrammarTunes",
  Cond.fieldLinkNest "GrammarTunes" 159 "GrammarTunes$Chain" "walked" "I" "GrammarTunes",
  Cond.fieldLinkNest "GrammarTunes" 124 "GrammarTunes$Maker" "tries" "I" "GrammarTunes",
  Cond.methodLinkNest "GrammarTunes" 11 ⟨"GrammarTunes$Script", "<init>", "()V"⟩ "GrammarTunes",
  Cond.methodLinkNest "GrammarTunes" 18 ⟨"GrammarTunes$Grammar", "<init>", "()V"⟩ "GrammarTunes",
  Cond.methodLinkNest "GrammarTunes" 32 ⟨"GrammarTunes$Tune", "<init>", "()V"⟩ "GrammarTunes",
  Cond.methodLinkNest "GrammarTunes" 39 ⟨"GrammarTunes$Places", "<init>", "()V"⟩ "GrammarTunes",
  Cond.methodLinkNest "GrammarTunes" 50 ⟨"GrammarTunes$Chain", "<init>", "()V"⟩ "GrammarTunes",
  Cond.methodLinkNest "GrammarTunes" 57 ⟨"GrammarTunes$ToneRow", "<init>", "()V"⟩ "GrammarTunes",
  Cond.methodLinkNest "GrammarTunes$Script" 27 ⟨"GrammarTunes", "isWithin", "(III)Z"⟩ "GrammarTunes",
  Cond.methodLinkNest "GrammarTunes$Script" 35 ⟨"GrammarTunes", "isBlank", "(I)Z"⟩ "GrammarTunes",
  Cond.methodLinkNest "GrammarTunes$Grammar" 67 ⟨"GrammarTunes", "isWithin", "(III)Z"⟩ "GrammarTunes",
  Cond.methodLinkNest "GrammarTunes$Reader" 75 ⟨"GrammarTunes", "isDigit", "(I)Z"⟩ "GrammarTunes",
  Cond.methodLinkNest "GrammarTunes$Reader" 93 ⟨"GrammarTunes", "isLetter", "(I)Z"⟩ "GrammarTunes",
  Cond.methodLinkNest "GrammarTunes$Reader" 102 ⟨"GrammarTunes", "isDegree", "(I)Z"⟩ "GrammarTunes",
  Cond.methodLinkNest "GrammarTunes$Tune" 34 ⟨"GrammarTunes", "isWithin", "(III)Z"⟩ "GrammarTunes",
  Cond.methodLinkNest "GrammarTunes$Maker" 168 ⟨"GrammarTunes", "isWithin", "(III)Z"⟩ "GrammarTunes"]
def nw_ok : Cond → Bool
  | .fieldLinkNest _ _ _ _ _ _ => true
  | .methodLinkNest _ _ _ _ => true
  | _ => false
theorem nestWords_ok : nestWords.all nw_ok = true := by decide +kernel
def NW (U : State) : Prop := ∀ w ∈ nestWords, va_Nw w U
theorem nw_warm {w : Cond} (h : nw_ok w = true) {s U : State} (hW : s.WarmedH U.vm) (hZ : va_Nw w s) : va_Nw w U := by
  cases w <;> first | exact va_Nw.warmF hW hZ | exact va_Nw.warmM hW hZ | (simp [nw_ok] at h)
theorem nw_same {w : Cond} (h : nw_ok w = true) {s U : State} (hW : s.vm = U.vm) (hZ : va_Nw w s) : va_Nw w U := by
  cases w <;> first | exact va_Nw.same rfl hW hZ | (simp [nw_ok] at h)
theorem NW.warm {s U : State} (hW : s.WarmedH U.vm) (h : NW s) : NW U := fun w hw => nw_warm (List.all_eq_true.mp nestWords_ok w hw) hW (h w hw)
theorem NW.same {s U : State} (hW : s.vm = U.vm) (h : NW s) : NW U := fun w hw => nw_same (List.all_eq_true.mp nestWords_ok w hw) hW (h w hw)
theorem NW.use {w : Cond} (hw : w ∈ nestWords) {args : Array Value} {U : State} (h : NW U) : w.before args U = true := by
  have h1 := List.all_eq_true.mp nestWords_ok w hw
  have h2 := h w hw
  cases w <;> first | exact va_Nw.use rfl h2 | (simp [nw_ok] at h1)
/-- the static tables -/
def stW (j : Nat) : Int32 := ([0, 127, 127, 127, 1, -1, 500] : List Int32).getD j 0
def stLo (j : Nat) : Int32 := ([0, 0, 0, 0, 0, -1, 1] : List Int32).getD j 0
def stHi (j : Nat) : Int32 := ([127, 127, 127, 127, 1, 6, 3000] : List Int32).getD j 0
def stPi (j : Nat) : Int32 := ([60, 62, 64, 65, 67, 69, 71] : List Int32).getD j 0
def ST1 (B0 : Nat) (C n : String) (t : Nat) (f : Nat → Int32) (U : State) (H : Heap) : Prop := va_Z C n "[I" (.ref t) (fun q => B0 ≤ q) U H ∧ va_T .int t 7 (fun j => .int (f j)) (fun q => B0 ≤ q) U H
theorem ST1.moved {B0 : Nat} {C n : String} {t : Nat} {f : Nat → Int32} {u U : State} {H : Heap} (hvm : u.vm.Alike U.vm) (h : ST1 B0 C n t f u H) : ST1 B0 C n t f U H := ⟨h.1.moved hvm, h.2.moved hvm⟩
theorem ST1.kept {B0 : Nat} {C n : String} {t : Nat} {f : Nat → Int32} {U : State} {H H1 : Heap} (h : ST1 B0 C n t f U H) (hq : ∀ a : Nat, a < H.size → ¬ B0 ≤ a → H1[a]? = H[a]?) : ST1 B0 C n t f U H1 := ⟨h.1.kept hq, h.2.kept hq⟩
def ST (B0 : Nat) (tt : Nat → Nat) (U : State) (H : Heap) : Prop := ST1 B0 "GrammarTunes" "WANTED_AT_FIRST" (tt 0) stW U H ∧ ST1 B0 "GrammarTunes" "WANTED_LEAST" (tt 1) stLo U H ∧ ST1 B0 "GrammarTunes" "WANTED_GREATEST" (tt 2) stHi U H ∧ ST1 B0 "GrammarTunes$Tune" "PITCH_OF_DEGREE" (tt 3) stPi U H ∧ va_X (tt 0) 7 stW U H ∧ tt 0 < B0
theorem ST.moved {B0 : Nat} {tt : Nat → Nat} {u U : State} {H : Heap} (hvm : u.vm.Alike U.vm) (h : ST B0 tt u H) : ST B0 tt U H := ⟨h.1.moved hvm, h.2.1.moved hvm, h.2.2.1.moved hvm, h.2.2.2.1.moved hvm, h.2.2.2.2.1.moved hvm, h.2.2.2.2.2⟩
theorem ST.kept {B0 : Nat} {tt : Nat → Nat} {U : State} {H H1 : Heap} (h : ST B0 tt U H) (hq : ∀ a : Nat, a < H.size → ¬ B0 ≤ a → H1[a]? = H[a]?) : ST B0 tt U H1 := ⟨h.1.kept hq, h.2.1.kept hq, h.2.2.1.kept hq, h.2.2.2.1.kept hq, h.2.2.2.2.1.kept (hq _ (by obtain ⟨scr, h1, -⟩ := h.2.2.2.2.1; exact (Array.getElem?_eq_some_iff.mp h1).1) (by have := h.2.2.2.2.2; omega)), h.2.2.2.2.2⟩
/-- the surroundings: the classes' numbers and slots, the classes of char[], int[], long[], the first cell that is ours, the static tables' cells -/
abbrev EV : Type := va_G × (ClassId × ClassId × ClassId) × Nat × (Nat → Nat)
abbrev tysX (E : EV) : List (ClassId × FieldType) := [(E.2.1.1, .char), (E.2.1.2.1, .int), (E.2.1.2.2, .long)]
def Kx (E : EV) (U : State) (H : Heap) : Prop := va_K E.1 vwCl (tysX E) U ∧ NW U ∧ ST E.2.2.1 E.2.2.2 U H
theorem Kx.warm {E : EV} {s U : State} {H : Heap} (hW : s.WarmedH U.vm) (h : Kx E s H) : Kx E U H := ⟨va_K.moved hW.alike h.1, h.2.1.warm hW, h.2.2.moved hW.alike⟩
theorem Kx.kept {E : EV} {U : State} {H H1 : Heap} (h : Kx E U H) (hq : ∀ a : Nat, a < H.size → ¬ E.2.2.1 ≤ a → H1[a]? = H[a]?) : Kx E U H1 := ⟨h.1, h.2.1, h.2.2.kept hq⟩
/-- the world of a walk -/
def Wd (E : EV) (A : Nat → Prop) (s : State) (H : Heap) (locs : List Loc) (w : va_W) : Prop := va_P E.1 vwCl w H ∧ va_D A w ∧ va_S A s.heap H locs
/-- what a walk knows of its method -/
def Cx (own nme : String) (cc : ByteArray) (ret : Option FieldType) (mL : Nat) (Ts : List Cond) (p : Program) (s : State) (m : MethodId) (args : Array Value) (meth : Method) (c : Code) : Prop :=
  p.tables.exec = Jvm.exec ∧ c.code = cc ∧ meth.sig.returnType = ret ∧ c.maxLocals = mL ∧ s.vm.findClass own = some m.cls ∧ (∀ w ∈ Ts, w.before args s = true) ∧ meth.locks = false ∧ meth.name = nme
/-- what a walk may write: all from its start on, nothing below the first cell that is ours -/
def Ax (E : EV) (A : Nat → Prop) (s : State) : Prop := (∀ q, s.heap.size ≤ q → A q) ∧ (∀ q, A q → E.2.2.1 ≤ q) ∧ Kx E s s.heap ∧ E.2.2.1 ≤ s.heap.size
def PG (E : EV) (av : List Value) (w0 : va_W) (sz : Nat) : Array Value → State → Prop := va_Pc av (fun U => U.heap.size = sz ∧ va_P E.1 vwCl w0 U.heap ∧ Kx E U U.heap ∧ va_D (fun q => E.2.2.1 ≤ q) w0 ∧ E.2.2.1 ≤ sz)
def QG (E : EV) (Qr : Option Value → va_W → Prop) (A : Nat → Prop) : Array Value → State → Outcome → State → Prop := fun _ st oc t => (∃ (v : Option Value) (w1 : va_W), oc = .returned v ∧ Qr v w1 ∧ va_P E.1 vwCl w1 t.heap ∧ va_D A w1) ∧ va_F A st t
def Qd (v : Option Value) (w : va_W) : Option Value → va_W → Prop := fun v' w' => v' = v ∧ w' = w
def CT (l : Launch) (y : MethodName) (ws : List Cond) (rm : Room) (E : EV) (av : List Value) (w0 : va_W) (Qr : Option Value → va_W → Prop) (mc ms : Nat) : Prop := ∀ sz : Nat, Met l y ws rm (PG E av w0 sz) (QG E Qr (va_A w0 sz)) mc ms (va_A w0 sz)
theorem PG_blind {E : EV} {av : List Value} {w0 : va_W} {sz : Nat} : FrameBlind (PG E av w0 sz) := by
  intro a U g mk q
  obtain ⟨q0, q1, qP, qK, qD⟩ := q
  exact ⟨q0, q1, qP, ⟨va_K.moved (u := U) (U := U.calling g mk a) (Vm.Alike.refl U.vm) qK.1, NW.same (s := U) (U := U.calling g mk a) rfl qK.2.1, ST.moved (u := U) (U := U.calling g mk a) (Vm.Alike.refl U.vm) qK.2.2⟩, qD⟩
theorem CT.of {l : Launch} {y : MethodName} {ws ws' : List Cond} {rm : Room} {E : EV} {av : List Value} {w0 : va_W} {Qr : Option Value → va_W → Prop} {mc ms : Nat} {cc : ByteArray} {mL : Nat} {ret : Option FieldType} {lvs : List (Nat × Value)} {nme own : String}
    (hy : plainName y.cls = true) (hw : ws = Cond.code y cc mL ret :: ws') (hlen : (lg_sl av).length ≤ mL) (hlv : lv_args 0 av = lvs) (hnme : y.name = nme) (hown : y.cls = own)
    (body : ∀ (p : Program) (e : Env) (s : State) (m : MethodId) (below : List Frame) (meth : Method) (c : Code) (A : Nat → Prop), Cx own nme cc ret mL ws p s m av.toArray meth c → Ax E A s → Wd E A s s.heap [] w0 → ∀ ls, lv_has ls mL lvs →
      W p l e rm s m av.toArray below meth c s.heap [] 0 0 (MQ below (QG E Qr A) av.toArray s mc ms A) (F0 m 0 ls [])) : CT l y ws rm E av w0 Qr mc ms := by
  intro sz
  refine Met.ofW (cc := cc) (maxL := mL) (ret := ret) hy hw ?_
  intro p e s m args below meth c s₁ B hml hv
  obtain ⟨rfl, hsz, hP, hK, hD0, hB⟩ := hv
  subst hsz
  subst hlv
  subst hnme
  subst hown
  have hl := lv_entry av (n := mL) hlen
  rw [lg_entry_eq]
  exact body p e s m below meth c _ ⟨B.exec, B.bytes, B.returns, hml, findClass_of_methodNamed B.named, atoms_spec (ws := ws) B.pre, B.notSynchronized, (name_of_methodNamed B.named B.method).1⟩ ⟨fun q h => Or.inr h, fun q h => by
    rcases h with ⟨k, e, h⟩ | h
    · exact hD0.2 k _ h
    · exact Nat.le_trans hB h, hK, hB⟩ ⟨hP, hD0.self, va_S.rf⟩ _ hl
theorem CT.ofF {l : Launch} {y : MethodName} {ws ws' : List Cond} {rm : Room} {E : EV} {av : List Value} {w0 : va_W} {Qr : Option Value → va_W → Prop} {mc ms : Nat} {cc : ByteArray} {mL : Nat} {ret : Option FieldType} {lvs : List (Nat × Value)} {nme own : String}
    (hy : plainFor y = true) (hw : ws = Cond.code y cc mL ret :: ws') (hlen : (lg_sl av).length ≤ mL) (hlv : lv_args 0 av = lvs) (hnme : y.name = nme) (hown : y.cls = own)
    (body : ∀ (p : Program) (e : Env) (s : State) (m : MethodId) (below : List Frame) (meth : Method) (c : Code) (A : Nat → Prop), Cx own nme cc ret mL ws p s m av.toArray meth c → Ax E A s → Wd E A s s.heap [] w0 → ∀ ls, lv_has ls mL lvs →
      W p l e rm s m av.toArray below meth c s.heap [] 0 0 (MQ below (QG E Qr A) av.toArray s mc ms A) (F0 m 0 ls [])) : CT l y ws rm E av w0 Qr mc ms := by
  intro sz
  refine va_MetF (cc := cc) (maxL := mL) (ret := ret) hy hw ?_
  intro p e s m args below meth c s₁ B hml hv
  obtain ⟨rfl, hsz, hP, hK, hD0, hB⟩ := hv
  subst hsz
  subst hlv
  subst hnme
  subst hown
  have hl := lv_entry av (n := mL) hlen
  rw [lg_entry_eq]
  exact body p e s m below meth c _ ⟨B.exec, B.bytes, B.returns, hml, findClass_of_methodNamed B.named, atoms_spec (ws := ws) B.pre, B.notSynchronized, (name_of_methodNamed B.named B.method).1⟩ ⟨fun q h => Or.inr h, fun q h => by
    rcases h with ⟨k, e, h⟩ | h
    · exact hD0.2 k _ h
    · exact Nat.le_trans hB h, hK, hB⟩ ⟨hP, hD0.self, va_S.rf⟩ _ hl
theorem fm_of {w w' : va_W} {is : List Nat} (hs : is.map (fun i => w[i]?) = w'.map some) : is.filterMap (fun i => w[i]?) = w' := by
  have h1 : is.filterMap (fun i => w[i]?) = (is.map (fun i => w[i]?)).filterMap id := by rw [List.filterMap_map]; rfl
  rw [h1, hs, List.filterMap_map]
  simp
section KR
variable {p : Program} {l : Launch} {e : Env} {R : Room} {s : State} {m : MethodId} {args : Array Value} {below : List Frame} {meth : Method} {c : Code} {H : Heap} {locs : List Loc} {cells slots : Nat} {Q : State → Prop}
variable {own nme : String} {cc : ByteArray} {ret : Option FieldType} {mL : Nat} {Ts : List Cond} {E : EV} {A : Nat → Prop} {pc : Nat} {ls : Array Slot} {rest : List Value} {a : Nat} {w : va_W}
theorem Wd.K (hw : Wd E A s H locs w) (hA : Ax E A s) : Kx E s H := hA.2.2.1.kept (fun q h1 h2 => hw.2.2.2.1 q h1 (fun z => h2 (hA.2.1 q z)))
theorem r_get (C0 : Cx own nme cc ret mL Ts p s m args meth c) (hA : Ax E A s) (hw : Wd E A s H locs w) (q0 : Nat) {ci : Nat} {fs : List Value} (he : w[q0]? = some (a, .inr (ci, fs))) {C : String} {T : u_T} {N : Nat} (hc : vwCl[ci]? = some (C, T, N)) (hin : ∀ w ∈ u_ws C T N, w ∈ Ts) (k : Nat) (hk : k < N) {index : Nat} (hlink : Cond.fieldLink own index (T k).1 (T k).2.1 (T k).2.2.1 ∈ Ts) {v : Value} (hv : fs[k]? = some v) (hdg : decode cc pc = .ok (.getfield index, 3))
    (kk : W p l e R s m args below meth c H locs cells slots Q (F0 m (pc + 3) ls (v :: rest))) : W p l e R s m args below meth c H locs cells slots Q (F0 m pc ls (.ref a :: rest)) :=
  va_get C0.1 C0.2.1 C0.2.2.2.2.2.1 hin C0.2.2.2.2.1 hA.2.2.1.1 hw.1 q0 he hc k hk (C0.2.2.2.2.2.1 _ hlink) (fun _ h => h) hv hdg kk
theorem r_getN (C0 : Cx own nme cc ret mL Ts p s m args meth c) (hA : Ax E A s) (hw : Wd E A s H locs w) (q0 : Nat) {ci : Nat} {fs : List Value} (he : w[q0]? = some (a, .inr (ci, fs))) {C : String} {T : u_T} {N : Nat} (hc : vwCl[ci]? = some (C, T, N)) (hin : ∀ w ∈ u_ws C T N, w ∈ Ts) (k : Nat) (hk : k < N) {index : Nat} (hlink : Cond.fieldLinkNest own index (T k).1 (T k).2.1 (T k).2.2.1 "GrammarTunes" ∈ nestWords) {v : Value} (hv : fs[k]? = some v) (hdg : decode cc pc = .ok (.getfield index, 3))
    (kk : W p l e R s m args below meth c H locs cells slots Q (F0 m (pc + 3) ls (v :: rest))) : W p l e R s m args below meth c H locs cells slots Q (F0 m pc ls (.ref a :: rest)) :=
  va_getN C0.1 C0.2.1 C0.2.2.2.2.2.1 hin C0.2.2.2.2.1 hA.2.2.1.1 hw.1 q0 he hc k hk (NW.use hlink hA.2.2.1.2.1) (fun _ h => h) hv hdg kk
theorem r_put {β : Type} (C0 : Cx own nme cc ret mL Ts p s m args meth c) (hA : Ax E A s) (hw : Wd E A s H locs w) (q0 : Nat) {ci : Nat} {fs : List Value} (he : w[q0]? = some (a, .inr (ci, fs))) {C : String} {T : u_T} {N : Nat} (hc : vwCl[ci]? = some (C, T, N)) (hin : ∀ w ∈ u_ws C T N, w ∈ Ts) (ty0 : Nat → FieldType) (hty : ∀ k, k < N → parseFieldDescriptor (T k).2.2.1 = some (ty0 k)) (hnm : ∀ a, a < N → ∀ b, b < N → a ≠ b → (T a).2.1 ≠ (T b).2.1) (k : Nat) (hk : k < N) {index : Nat} (hlink : Cond.fieldLink own index (T k).1 (T k).2.1 (T k).2.2.1 ∈ Ts) (hfin : (T k).2.2.2 = false) {v : Value} (hn : narrow (ty0 k) v = v) (hfit : fits (ty0 k) v = true) (hl : k < fs.length) (hdg : decode cc pc = .ok (.putfield index, 3))
    (z : β) (f : β → va_W) (hset : w.set q0 (a, .inr (ci, fs.set k v)) = f z)
    (kk : ∀ (y : β), y = z → ∀ (H1 : Heap) (locs1 : List Loc), Wd E A s H1 locs1 (f y) → W p l e R s m args below meth c H1 locs1 cells slots Q (F0 m (pc + 3) ls rest)) : W p l e R s m args below meth c H locs cells slots Q (F0 m pc ls (v :: .ref a :: rest)) :=
  va_put C0.1 C0.2.1 C0.2.2.2.2.2.1 hin ty0 hty hnm C0.2.2.2.2.1 hA.2.2.1.1 hw.1 hw.2.1 hw.2.2 q0 he hc k hk (C0.2.2.2.2.2.1 _ hlink) (fun _ h => h) hfin (hty k hk) hn hfit hl hdg (fun H1 locs1 h1 h2 h3 => kk z rfl H1 locs1 (hset ▸ ⟨h1, h2, h3⟩))
theorem r_putF {β : Type} (C0 : Cx own nme cc ret mL Ts p s m args meth c) (hA : Ax E A s) (hw : Wd E A s H locs w) (q0 : Nat) {ci : Nat} {fs : List Value} (he : w[q0]? = some (a, .inr (ci, fs))) {C : String} {T : u_T} {N : Nat} (hc : vwCl[ci]? = some (C, T, N)) (hin : ∀ w ∈ u_ws C T N, w ∈ Ts) (ty0 : Nat → FieldType) (hty : ∀ k, k < N → parseFieldDescriptor (T k).2.2.1 = some (ty0 k)) (hnm : ∀ a, a < N → ∀ b, b < N → a ≠ b → (T a).2.1 ≠ (T b).2.1) (k : Nat) (hk : k < N) {index : Nat} (hlink : Cond.fieldLink own index (T k).1 (T k).2.1 (T k).2.2.1 ∈ Ts) (hfin : (T k).2.2.2 = true) (hini : nme = "<init>") (hdecl : (T k).1 = own) {v : Value} (hn : narrow (ty0 k) v = v) (hfit : fits (ty0 k) v = true) (hl : k < fs.length) (hdg : decode cc pc = .ok (.putfield index, 3))
    (z : β) (f : β → va_W) (hset : w.set q0 (a, .inr (ci, fs.set k v)) = f z)
    (kk : ∀ (y : β), y = z → ∀ (H1 : Heap) (locs1 : List Loc), Wd E A s H1 locs1 (f y) → W p l e R s m args below meth c H1 locs1 cells slots Q (F0 m (pc + 3) ls rest)) : W p l e R s m args below meth c H locs cells slots Q (F0 m pc ls (v :: .ref a :: rest)) :=
  va_putF C0.1 C0.2.1 C0.2.2.2.2.2.1 hin ty0 hty hnm C0.2.2.2.2.1 hA.2.2.1.1 hw.1 hw.2.1 hw.2.2 q0 he hc k hk (C0.2.2.2.2.2.1 _ hlink) (fun _ h => h) hfin (C0.2.2.2.2.2.2.2.trans hini) hdecl (hty k hk) hn hfit hl hdg (fun H1 locs1 h1 h2 h3 => kk z rfl H1 locs1 (hset ▸ ⟨h1, h2, h3⟩))
theorem r_ild (C0 : Cx own nme cc ret mL Ts p s m args meth c) (hA : Ax E A s) (hw : Wd E A s H locs w) (q0 : Nat) {n : Nat} {f : Nat → Int32} (ha : w[q0]? = some (a, .inl (E.2.1.2.1, n, .inl f))) {i : Int32} (hin : vp_in i n) (hdg : decode cc pc = .ok (.iaload, 1))
    (kk : W p l e R s m args below meth c H locs cells slots Q (F0 m (pc + 1) ls (.int (f i.toNatClampNeg) :: rest))) : W p l e R s m args below meth c H locs cells slots Q (F0 m pc ls (.int i :: .ref a :: rest)) :=
  va_iald C0.1 C0.2.1 hA.2.2.1.1 hw.1 q0 1 ha rfl hin hdg kk
theorem r_cld (C0 : Cx own nme cc ret mL Ts p s m args meth c) (hA : Ax E A s) (hw : Wd E A s H locs w) (q0 : Nat) {n : Nat} {f : Nat → Int32} (ha : w[q0]? = some (a, .inl (E.2.1.1, n, .inl f))) {i : Int32} (hin : vp_in i n) (hdg : decode cc pc = .ok (.caload, 1))
    (kk : W p l e R s m args below meth c H locs cells slots Q (F0 m (pc + 1) ls (.int (f i.toNatClampNeg) :: rest))) : W p l e R s m args below meth c H locs cells slots Q (F0 m pc ls (.int i :: .ref a :: rest)) :=
  va_cald C0.1 C0.2.1 hA.2.2.1.1 hw.1 q0 0 ha rfl hin hdg kk
theorem r_lld (C0 : Cx own nme cc ret mL Ts p s m args meth c) (hA : Ax E A s) (hw : Wd E A s H locs w) (q0 : Nat) {n : Nat} {f : Nat → Int64} (ha : w[q0]? = some (a, .inl (E.2.1.2.2, n, .inr (.inl f)))) {i : Int32} (hin : vp_in i n) (hdg : decode cc pc = .ok (.laload, 1))
    (kk : W p l e R s m args below meth c H locs cells slots Q (F0 m (pc + 1) ls (.long (f i.toNatClampNeg) :: rest))) : W p l e R s m args below meth c H locs cells slots Q (F0 m pc ls (.int i :: .ref a :: rest)) :=
  va_lald C0.1 C0.2.1 hA.2.2.1.1 hw.1 q0 2 ha rfl hin hdg kk
theorem r_ist {β : Type} (C0 : Cx own nme cc ret mL Ts p s m args meth c) (hA : Ax E A s) (hw : Wd E A s H locs w) (q0 : Nat) {n : Nat} {f : Nat → Int32} (ha : w[q0]? = some (a, .inl (E.2.1.2.1, n, .inl f))) {i x : Int32} (hin : vp_in i n) (hdg : decode cc pc = .ok (.iastore, 1))
    (z : β) (g : β → va_W) (hset : w.set q0 (a, .inl (E.2.1.2.1, n, .inl (upd f i.toNatClampNeg x))) = g z)
    (kk : ∀ (y : β), y = z → ∀ (H1 : Heap) (locs1 : List Loc), Wd E A s H1 locs1 (g y) → W p l e R s m args below meth c H1 locs1 cells slots Q (F0 m (pc + 1) ls rest)) : W p l e R s m args below meth c H locs cells slots Q (F0 m pc ls (.int x :: .int i :: .ref a :: rest)) :=
  va_iast C0.1 C0.2.1 hA.2.2.1.1 hw.1 hw.2.1 hw.2.2 q0 1 ha rfl hin hdg (fun H1 locs1 h1 h2 h3 => kk z rfl H1 locs1 (hset ▸ ⟨h1, h2, h3⟩))
theorem r_cst {β : Type} (C0 : Cx own nme cc ret mL Ts p s m args meth c) (hA : Ax E A s) (hw : Wd E A s H locs w) (q0 : Nat) {n : Nat} {f : Nat → Int32} (ha : w[q0]? = some (a, .inl (E.2.1.1, n, .inl f))) {i x : Int32} (hin : vp_in i n) (hdg : decode cc pc = .ok (.castore, 1))
    (z : β) (g : β → va_W) (hset : w.set q0 (a, .inl (E.2.1.1, n, .inl (upd f i.toNatClampNeg (vp_nar .char x)))) = g z)
    (kk : ∀ (y : β), y = z → ∀ (H1 : Heap) (locs1 : List Loc), Wd E A s H1 locs1 (g y) → W p l e R s m args below meth c H1 locs1 cells slots Q (F0 m (pc + 1) ls rest)) : W p l e R s m args below meth c H locs cells slots Q (F0 m pc ls (.int x :: .int i :: .ref a :: rest)) :=
  va_cast C0.1 C0.2.1 hA.2.2.1.1 hw.1 hw.2.1 hw.2.2 q0 0 ha rfl hin hdg (fun H1 locs1 h1 h2 h3 => kk z rfl H1 locs1 (hset ▸ ⟨h1, h2, h3⟩))
theorem r_lst {β : Type} (C0 : Cx own nme cc ret mL Ts p s m args meth c) (hA : Ax E A s) (hw : Wd E A s H locs w) (q0 : Nat) {n : Nat} {f : Nat → Int64} (ha : w[q0]? = some (a, .inl (E.2.1.2.2, n, .inr (.inl f)))) {i : Int32} {x : Int64} (hin : vp_in i n) (hdg : decode cc pc = .ok (.lastore, 1))
    (z : β) (g : β → va_W) (hset : w.set q0 (a, .inl (E.2.1.2.2, n, .inr (.inl (vp_updL f i.toNatClampNeg x)))) = g z)
    (kk : ∀ (y : β), y = z → ∀ (H1 : Heap) (locs1 : List Loc), Wd E A s H1 locs1 (g y) → W p l e R s m args below meth c H1 locs1 cells slots Q (F0 m (pc + 1) ls rest)) : W p l e R s m args below meth c H locs cells slots Q (F0 m pc ls (.long x :: .int i :: .ref a :: rest)) :=
  va_last C0.1 C0.2.1 hA.2.2.1.1 hw.1 hw.2.1 hw.2.2 q0 2 ha rfl hin hdg (fun H1 locs1 h1 h2 h3 => kk z rfl H1 locs1 (hset ▸ ⟨h1, h2, h3⟩))
/-- the returns -/
theorem r_iret {Qr : Option Value → va_W → Prop} {r : Int32} (C0 : Cx own nme cc (some .int) mL Ts p s m args meth c) (hw : Wd E A s H locs w) (hdg : decode cc pc = .ok (.ireturn, 1)) (hq : Qr (some (.int r)) w) : W p l e R s m args below meth c H locs cells slots (MQ below (QG E Qr A) args s cells slots A) (F0 m pc ls [.int r]) :=
  W.iret C0.1 C0.2.1 C0.2.2.1 (fun t ht _ => ⟨⟨_, w, rfl, hq, by rw [ht]; exact hw.1, hw.2.1⟩, hw.2.2.F ht⟩) hw.2.2.2.2 hdg C0.2.2.2.2.2.2.1
theorem r_zret {Qr : Option Value → va_W → Prop} {r : Int32} (C0 : Cx own nme cc (some .boolean) mL Ts p s m args meth c) (hw : Wd E A s H locs w) (hdg : decode cc pc = .ok (.ireturn, 1)) (hn : narrow .boolean (.int r) = .int r) (hq : Qr (some (.int r)) w) : W p l e R s m args below meth c H locs cells slots (MQ below (QG E Qr A) args s cells slots A) (F0 m pc ls [.int r]) :=
  W.zret C0.1 C0.2.1 C0.2.2.1 hn (fun t ht _ => ⟨⟨_, w, rfl, hq, by rw [ht]; exact hw.1, hw.2.1⟩, hw.2.2.F ht⟩) hw.2.2.2.2 hdg C0.2.2.2.2.2.2.1
theorem r_lret {Qr : Option Value → va_W → Prop} {r : Int64} (C0 : Cx own nme cc (some .long) mL Ts p s m args meth c) (hw : Wd E A s H locs w) (hdg : decode cc pc = .ok (.lreturn, 1)) (hq : Qr (some (.long r)) w) : W p l e R s m args below meth c H locs cells slots (MQ below (QG E Qr A) args s cells slots A) (F0 m pc ls [.long r]) :=
  W.lret C0.1 C0.2.1 C0.2.2.1 (fun t ht _ => ⟨⟨_, w, rfl, hq, by rw [ht]; exact hw.1, hw.2.1⟩, hw.2.2.F ht⟩) hw.2.2.2.2 hdg C0.2.2.2.2.2.2.1
theorem r_vret {Qr : Option Value → va_W → Prop} (C0 : Cx own nme cc none mL Ts p s m args meth c) (hw : Wd E A s H locs w) (hdg : decode cc pc = .ok (.return_, 1)) (hq : Qr none w) : W p l e R s m args below meth c H locs cells slots (MQ below (QG E Qr A) args s cells slots A) (F0 m pc ls []) :=
  W.vret C0.1 C0.2.1 C0.2.2.1 (fun t ht _ => ⟨⟨_, w, rfl, hq, by rw [ht]; exact hw.1, hw.2.1⟩, hw.2.2.F ht⟩) hw.2.2.2.2 hdg C0.2.2.2.2.2.2.1
/-- behind a call -/
theorem r_back {Qr : Option Value → va_W → Prop} {wc wr : va_W} {mc ms : Nat} {av : Array Value} {st0 : List Value} (hr : va_Run p l e R s m args below meth c H locs cells slots mc ms (F0 m pc ls st0) rest (QG E Qr (va_A wc H.size) av) (va_A wc H.size)) (hA : Ax E A s) (hw : Wd E A s H locs w) (isC isR : List Nat) (hC : isC.map (fun i => w[i]?) = wc.map some) (hR : isR.map (fun i => w[i]?) = wr.map some) (hn : va_nd isR = true) (hdis : ∀ i ∈ isR, i ∉ isC)
    (kk : ∀ (v : Option Value) (w1 : va_W) (H1 : Heap) (locs1 : List Loc), Qr v w1 → Wd E A s H1 locs1 (wr ++ w1) → W p l e R s m args below meth c H1 locs1 (cells + mc) (slots + ms) Q (F0 m (pc + 3) ls (v.toList ++ rest))) : W p l e R s m args below meth c H locs cells slots Q (F0 m pc ls st0) := by
  have hF := va_free (wc := wc) hw.2.1 hw.2.2 hA.1 isC hC
  have hS := hw.2.2
  intro T hT X
  obtain ⟨v, st₀, t, T', L, h0, X', hL, e1, e2, ⟨⟨v', w1, hv, hq, hp1, hd1⟩, hz, hk⟩, st⟩ := hr T hT X
  cases hv
  rw [h0] at hz hk
  rw [← e1] at hp1
  have hk' : ∀ q : Nat, q < H.size → ¬ va_A wc H.size q → T'.heap[q]? = H[q]? := fun q h1 h2 => by rw [e1]; exact hk q h1 h2
  obtain ⟨g1, g2⟩ := va_join (wr := wr) (w1 := w1) hw.1 hw.2.1 isC isR hC hR hn hdis hk' hF hp1 hd1
  obtain ⟨t2, a1, b1⟩ := kk v w1 T'.heap (locs ++ L) hq ⟨g1, g2, Nat.le_trans hS.1 (by rw [e1]; exact hz), fun q h1 h2 => by rw [e1, hk q (Nat.lt_of_lt_of_le h1 hS.1) (fun z => h2 (hF q z))]; exact hS.2.1 q h1 h2, fun q hq => by
      rcases List.mem_append.mp hq with h | h
      · exact hS.2.2 q h
      · exact hF _ (hL q h)⟩ T' rfl X'
  exact ⟨t2, st t2 a1, b1⟩
theorem pg_at {wc : va_W} {av : List Value} (hA : Ax E A s) (hw : Wd E A s H locs w) (isC : List Nat) (hn : va_nd isC = true) (hC : isC.map (fun i => w[i]?) = wc.map some) : ∀ U : State, U.heap = H → s.WarmedH U.vm → PG E av wc H.size av.toArray U := by
  intro U hU hW
  have hK := hw.K hA
  refine ⟨rfl, by rw [hU], by rw [hU]; exact va_P.sub hw.1 isC (fm_of hC), by rw [hU]; exact hK.warm hW, ?_, Nat.le_trans hA.2.2.2 hw.2.2.1⟩
  exact (hw.2.1.sub isC hn hC).weaken (fun _ q _ h => hA.2.1 q.1 h)
end KR
section KS
variable {p : Program} {l : Launch} {e : Env} {R : Room} {s : State} {m : MethodId} {args : Array Value} {below : List Frame} {meth : Method} {c : Code} {H : Heap} {locs : List Loc} {cells slots : Nat} {Q : State → Prop}
variable {E : EV} {A : Nat → Prop} {pc : Nat} {ls : Array Slot} {rest : List Value} {w : va_W}
theorem Wd.sub {w' : va_W} (hw : Wd E A s H locs w) (is : List Nat) (hn : va_nd is = true) (hs : is.map (fun i => w[i]?) = w'.map some) : Wd E A s H locs w' := ⟨va_P.sub hw.1 is (fm_of hs), hw.2.1.sub is hn hs, hw.2.2⟩
theorem pg_self {av : List Value} (hA : Ax E A s) (hw : Wd E A s H locs w) : ∀ U : State, U.heap = H → s.WarmedH U.vm → PG E av w H.size av.toArray U := by
  intro U hU hW
  have hK := hw.K hA
  exact ⟨rfl, by rw [hU], by rw [hU]; exact hw.1, by rw [hU]; exact hK.warm hW, hw.2.1.weaken (fun _ q _ h => hA.2.1 q.1 h), Nat.le_trans hA.2.2.2 hw.2.2.1⟩
theorem pg_nil {av : List Value} (hA : Ax E A s) (hw : Wd E A s H locs w) : ∀ U : State, U.heap = H → s.WarmedH U.vm → PG E av [] H.size av.toArray U := by
  intro U hU hW
  have hK := hw.K hA
  exact ⟨rfl, by rw [hU], fun k q h => by simp at h, by rw [hU]; exact hK.warm hW, ⟨fun i j p q h => by simp at h, fun k q h => by simp at h⟩, Nat.le_trans hA.2.2.2 hw.2.2.1⟩
/-- behind a call over the whole world -/
theorem r_backS {v : Option Value} {w1 : va_W} {av : Array Value} {st0 : List Value} (hr : va_Run p l e R s m args below meth c H locs cells slots 0 0 (F0 m pc ls st0) rest (QG E (Qd v w1) (va_A w H.size) av) (va_A w H.size)) (hA : Ax E A s) (hw : Wd E A s H locs w)
    (kk : ∀ (H1 : Heap) (locs1 : List Loc), Wd E A s H1 locs1 w1 → W p l e R s m args below meth c H1 locs1 cells slots Q (F0 m (pc + 3) ls (v.toList ++ rest))) : W p l e R s m args below meth c H locs cells slots Q (F0 m pc ls st0) := by
  have hF : ∀ q, va_A w H.size q → A q := by
    intro q h
    rcases h with ⟨k, e, h⟩ | h
    · exact hw.2.1.2 k _ h
    · exact hA.1 q (Nat.le_trans hw.2.2.1 h)
  have hS := hw.2.2
  intro T hT X
  obtain ⟨v', st₀, t, T', L, h0, X', hL, e1, e2, ⟨⟨v'', w1', hv, ⟨hq1, hq2⟩, hp1, hd1⟩, hz, hk⟩, st⟩ := hr T hT X
  cases hv
  subst hq1
  subst hq2
  rw [h0] at hz hk
  rw [← e1] at hp1
  obtain ⟨t2, a1, b1⟩ := kk T'.heap (locs ++ L) ⟨hp1, hd1.weaken (fun _ q _ h => hF q.1 h), Nat.le_trans hS.1 (by rw [e1]; exact hz), fun q h1 h2 => by rw [e1, hk q (Nat.lt_of_lt_of_le h1 hS.1) (fun z => h2 (hF q z))]; exact hS.2.1 q h1 h2, fun q hq => by
      rcases List.mem_append.mp hq with h | h
      · exact hS.2.2 q h
      · exact hF _ (hL q h)⟩ T' rfl X'
  exact ⟨t2, st t2 a1, b1⟩
/-- behind a call over a part of the world -/
theorem r_backP {v : Option Value} {wc wr w1 : va_W} {av : Array Value} {st0 : List Value} (hr : va_Run p l e R s m args below meth c H locs cells slots 0 0 (F0 m pc ls st0) rest (QG E (Qd v w1) (va_A wc H.size) av) (va_A wc H.size)) (hA : Ax E A s) (hw : Wd E A s H locs w) (isC isR : List Nat) (hC : isC.map (fun i => w[i]?) = wc.map some) (hR : isR.map (fun i => w[i]?) = wr.map some) (hn : va_nd isR = true) (hdis : ∀ i ∈ isR, i ∉ isC)
    (kk : ∀ (H1 : Heap) (locs1 : List Loc), Wd E A s H1 locs1 (wr ++ w1) → W p l e R s m args below meth c H1 locs1 cells slots Q (F0 m (pc + 3) ls (v.toList ++ rest))) : W p l e R s m args below meth c H locs cells slots Q (F0 m pc ls st0) :=
  r_back hr hA hw isC isR hC hR hn hdis (fun v' w1' H1 locs1 hq hw1 => by
    obtain ⟨rfl, rfl⟩ := hq
    exact kk H1 locs1 hw1)
/-- behind a call over nothing -/
theorem r_backZ {v : Option Value} {av : Array Value} {st0 : List Value} (hr : va_Run p l e R s m args below meth c H locs cells slots 0 0 (F0 m pc ls st0) rest (QG E (Qd v []) (va_A [] H.size) av) (va_A [] H.size)) (hA : Ax E A s) (hw : Wd E A s H locs w)
    (kk : ∀ (H1 : Heap) (locs1 : List Loc), Wd E A s H1 locs1 w → W p l e R s m args below meth c H1 locs1 cells slots Q (F0 m (pc + 3) ls (v.toList ++ rest))) : W p l e R s m args below meth c H locs cells slots Q (F0 m pc ls st0) := by
  have hF : ∀ q, va_A [] H.size q → A q := by
    intro q h
    rcases h with ⟨k, e, h⟩ | h
    · simp at h
    · exact hA.1 q (Nat.le_trans hw.2.2.1 h)
  have hN : ∀ q, q < H.size → ¬ va_A [] H.size q := by
    intro q h1 h
    rcases h with ⟨k, e, h⟩ | h
    · simp at h
    · omega
  have hS := hw.2.2
  intro T hT X
  obtain ⟨v', st₀, t, T', L, h0, X', hL, e1, e2, ⟨⟨v'', w1', hv, ⟨hq1, hq2⟩, hp1, hd1⟩, hz, hk⟩, st⟩ := hr T hT X
  cases hv
  subst hq1
  rw [h0] at hz hk
  obtain ⟨t2, a1, b1⟩ := kk T'.heap (locs ++ L) ⟨hw.1.kept (fun k q h => by rw [e1]; exact hk q.1 (hw.1 k q h).lt (hN q.1 (hw.1 k q h).lt)), hw.2.1, Nat.le_trans hS.1 (by rw [e1]; exact hz), fun q h1 h2 => by rw [e1, hk q (Nat.lt_of_lt_of_le h1 hS.1) (hN q (Nat.lt_of_lt_of_le h1 hS.1))]; exact hS.2.1 q h1 h2, fun q hq => by
      rcases List.mem_append.mp hq with h | h
      · exact hS.2.2 q h
      · exact hF _ (hL q h)⟩ T' rfl X'
  exact ⟨t2, st t2 a1, b1⟩
end KS
theorem i32_ne {x y : Int32} (h : ¬ x = y) : x.toInt ≠ y.toInt := fun e => h (Int32.toInt_inj.mp e)
theorem sj1 {α : Type} {a b : α} (h : some a = some b) : a = b := Option.some.inj h
theorem sj2 {α β : Type} {a b : α} {c d : β} (h : some (a, c) = some (b, d)) : a = b ∧ c = d := ⟨congrArg Prod.fst (Option.some.inj h), congrArg Prod.snd (Option.some.inj h)⟩
theorem sj3 {α β γ : Type} {a b : α} {c d : β} {e f : γ} (h : some (a, c, e) = some (b, d, f)) : a = b ∧ c = d ∧ e = f := ⟨congrArg Prod.fst (Option.some.inj h), congrArg (fun q => q.2.1) (Option.some.inj h), congrArg (fun q => q.2.2) (Option.some.inj h)⟩
theorem sj4 {α β γ δ : Type} {a b : α} {c d : β} {e f : γ} {g k : δ} (h : some (a, c, e, g) = some (b, d, f, k)) : a = b ∧ c = d ∧ e = f ∧ g = k := ⟨congrArg Prod.fst (Option.some.inj h), congrArg (fun q => q.2.1) (Option.some.inj h), congrArg (fun q => q.2.2.1) (Option.some.inj h), congrArg (fun q => q.2.2.2) (Option.some.inj h)⟩
theorem sj5 {α β γ δ ε : Type} {a b : α} {c d : β} {e f : γ} {g k : δ} {i j : ε} (h : some (a, c, e, g, i) = some (b, d, f, k, j)) : a = b ∧ c = d ∧ e = f ∧ g = k ∧ i = j := ⟨congrArg Prod.fst (Option.some.inj h), congrArg (fun q => q.2.1) (Option.some.inj h), congrArg (fun q => q.2.2.1) (Option.some.inj h), congrArg (fun q => q.2.2.2.1) (Option.some.inj h), congrArg (fun q => q.2.2.2.2) (Option.some.inj h)⟩
