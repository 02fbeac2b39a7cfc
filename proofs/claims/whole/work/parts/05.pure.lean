/-! small pure words for the functions of the methods -/
def itR {T : Type} (f : Nat → T → T) : Nat → Nat → T → T
  | _, 0, x => x
  | i, n + 1, x => itR f (i + 1) n (f i x)
/-- with a way out -/
def itE {R T : Type} (f : Nat → T → R ⊕ T) : Nat → Nat → T → R ⊕ T
  | _, 0, x => .inr x
  | i, n + 1, x => match f i x with
    | .inl r => .inl r
    | .inr y => itE f (i + 1) n y
def mnI (x y : Int32) : Int32 := if y < x then y else x
def mxI (x y : Int32) : Int32 := if x < y then y else x
theorem ixc {x n : Int32} {N : Nat} (h0 : ¬ x < 0) (h1 : ¬ n ≤ x) (hn : n.toInt = (N : Int)) : x = nI x.toNatClampNeg ∧ x.toNatClampNeg < N := by
  rw [Int32.lt_iff_toInt_lt, Int32.toInt_zero] at h0
  rw [Int32.le_iff_toInt_le] at h1
  have h2 : x.toNatClampNeg = x.toInt.toNat := rfl
  refine ⟨?_, by omega⟩
  obtain ⟨j, hj, e⟩ := nI_of (x := x) (by rw [Int32.lt_iff_toInt_lt, Int32.toInt_zero]; omega)
  rw [e, nI_clamp hj]
section MM
variable {p : Program} {l : Launch} {e : Env} {R : Room} {S : State} {m : MethodId} {args : Array Value} {below : List Frame} {meth : Method} {c : Code} {H : Heap} {locs : List Loc} {cells slots : Nat} {Q : State → Prop} {pc : Nat} {ls : Array Slot} {rest : List Value}
theorem c_mmin {cc : ByteArray} (hexec : p.tables.exec = Jvm.exec) (hb : c.code = cc) (hml : c.maxLocals = ls.size) {own : String} {index : Nat} (hown : S.vm.findClass own = some m.cls) (hlink : (Cond.methodLink own index Lib.Math.min.name).before args S = true) (hstat : (Cond.static Lib.Math.min.name).before args S = true) (hini : (Cond.initialized "java/lang/Math").before args S = true) (hcode : (Cond.code Lib.Math.min.name Lib.Math.min.code 2 (some .int)).before args S = true)
    (hframes : 1 ≤ R.frames) (hlocals : (rest.map fun v => v.category).sum + 13 ≤ R.locals) (hc : cells ≤ R.cells) (hs : slots ≤ R.slots) {x y : Int32} (hdg : decode cc pc = .ok (.invokestatic index, 3))
    (kk : W p l e R S m args below meth c H locs cells slots Q (F0 m (pc + 3) ls (.int (mnI x y) :: rest))) : W p l e R S m args below meth c H locs cells slots Q (F0 m pc ls (.int y :: .int x :: rest)) :=
  va_mmin hexec hb hml hown hlink hstat hini hcode hframes hlocals hc hs hdg kk
theorem c_mmax {cc : ByteArray} (hexec : p.tables.exec = Jvm.exec) (hb : c.code = cc) (hml : c.maxLocals = ls.size) {own : String} {index : Nat} (hown : S.vm.findClass own = some m.cls) (hlink : (Cond.methodLink own index Lib.Math.max.name).before args S = true) (hstat : (Cond.static Lib.Math.max.name).before args S = true) (hini : (Cond.initialized "java/lang/Math").before args S = true) (hcode : (Cond.code Lib.Math.max.name Lib.Math.max.code 2 (some .int)).before args S = true)
    (hframes : 1 ≤ R.frames) (hlocals : (rest.map fun v => v.category).sum + 13 ≤ R.locals) (hc : cells ≤ R.cells) (hs : slots ≤ R.slots) {x y : Int32} (hdg : decode cc pc = .ok (.invokestatic index, 3))
    (kk : W p l e R S m args below meth c H locs cells slots Q (F0 m (pc + 3) ls (.int (mxI x y) :: rest))) : W p l e R S m args below meth c H locs cells slots Q (F0 m pc ls (.int y :: .int x :: rest)) :=
  va_mmax hexec hb hml hown hlink hstat hini hcode hframes hlocals hc hs hdg kk
end MM
