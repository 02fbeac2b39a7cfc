/-! what the reference's walks need of a State: its members' number, where they are -/
def Ix (x : Int32) (n : Nat) : Prop := ∃ j, j < n ∧ x = nI j
def atR (x : Int32) : Prop := x = -1 ∨ x = 0 ∨ x = 1 ∨ x = 2
def wf (τ : Nat → Nat → Int32) (N : Nat) : Prop := τ 0 1 = nI N ∧ N ≤ 12 ∧ ∀ m, m < N → atR (τ 2 (9*m+5))
def wfn (τ : Nat → Nat → Int32) : Nat := (τ 0 1).toNatClampNeg
def rowC (τ ρ : Nat → Nat → Int32) (r n : Nat) : Nat → Nat → Int32 := fun r' => if r' = r then va_cpy (ρ r) (τ r) 0 0 n else τ r'
theorem Ix.t {x : Int32} {n : Nat} (h : Ix x n) (hn : n ≤ 2 ^ 31) : x = nI x.toNatClampNeg ∧ x.toNatClampNeg < n := by
  obtain ⟨j, hj, rfl⟩ := h
  rw [nI_clamp (by omega)]
  exact ⟨rfl, hj⟩
theorem ix9 {x y : Int32} (h0 : Ix x 12) (h1 : Ix y 9) : Ix ((9 : Int32) * x + y) 108 := by
  obtain ⟨i, hi, rfl⟩ := h0
  obtain ⟨j, hj, rfl⟩ := h1
  exact ⟨9*i+j, by omega, by rw [show (9 : Int32) = nI 9 from rfl, pk_mul, nI_add]⟩
theorem ix9v {i j : Nat} (hi : i < 12) (hj : j < 9) : ((9 : Int32) * nI i + nI j).toNatClampNeg = 9*i+j := by
  rw [show (9 : Int32) = nI 9 from rfl, pk_mul, nI_add, nI_clamp (by omega)]
theorem wfn_eq {τ : Nat → Nat → Int32} {N : Nat} (h : wf τ N) : wfn τ = N := by
  unfold wfn
  rw [h.1, nI_clamp (by have := h.2.1; omega)]
theorem wf_in {τ : Nat → Nat → Int32} {N i : Nat} (h : wf τ N) (hi : i < N) : ¬ τ 0 1 ≤ nI i := by
  rw [h.1]
  exact nI_ge hi (by have := h.2.1; omega)
theorem wf_ex {τ : Nat → Nat → Int32} {N : Nat} (h : wf τ N) : τ 0 1 ≤ nI N := by
  rw [h.1]
  exact nI_le (Nat.le_refl _) (by have := h.2.1; omega)
theorem wf_12 {τ : Nat → Nat → Int32} {N : Nat} (h : wf τ N) : N ≤ 12 := h.2.1
theorem wf_up0 {τ : Nat → Nat → Int32} {N k : Nat} {v : Int32} (h : wf τ N) (hk : k ≠ 1) : wf (up2 τ 0 k v) N := by
  refine ⟨?_, h.2.1, fun m hm => ?_⟩
  · rw [show up2 τ 0 k v 0 1 = τ 0 1 by simp [up2, Ne.symm hk]]; exact h.1
  · rw [show up2 τ 0 k v 2 (9*m+5) = τ 2 (9*m+5) by simp [up2]]; exact h.2.2 m hm
theorem wf_up1 {τ : Nat → Nat → Int32} {N k : Nat} {v : Int32} (h : wf τ N) : wf (up2 τ 1 k v) N := by
  refine ⟨?_, h.2.1, fun m hm => ?_⟩
  · rw [show up2 τ 1 k v 0 1 = τ 0 1 by simp [up2]]; exact h.1
  · rw [show up2 τ 1 k v 2 (9*m+5) = τ 2 (9*m+5) by simp [up2]]; exact h.2.2 m hm
theorem wf_up2 {τ : Nat → Nat → Int32} {N k : Nat} {v : Int32} (h : wf τ N) (hk : ∀ m, m < N → k = 9*m+5 → atR v) : wf (up2 τ 2 k v) N := by
  refine ⟨?_, h.2.1, fun m hm => ?_⟩
  · rw [show up2 τ 2 k v 0 1 = τ 0 1 by simp [up2]]; exact h.1
  · by_cases e : k = 9*m+5
    · subst e
      rw [up2_s]
      exact hk m hm rfl
    · rw [show up2 τ 2 k v 2 (9*m+5) = τ 2 (9*m+5) by simp [up2, Ne.symm e]]; exact h.2.2 m hm
theorem itR_pres {T : Type} {P : T → Prop} {f : Nat → T → T} {N : Nat} (h : ∀ i x, i < N → P x → P (f i x)) : ∀ (n i : Nat) (x : T), i + n ≤ N → P x → P (itR f i n x) := by
  intro n
  induction n with
  | zero => exact fun i x _ hx => hx
  | succ n ih => exact fun i x hin hx => ih (i+1) (f i x) (by omega) (h i x (by omega) hx)
theorem ixt {x : Int32} {n : Nat} (h : Ix x n) (hn : n ≤ 2 ^ 31) : x = nI x.toNatClampNeg ∧ x.toNatClampNeg < n := h.t hn
theorem rem8 {x : Int32} (h : ¬ x < 0) : Ix (x - x / (8 : Int32) * (8 : Int32)) 8 := by
  obtain ⟨j, hj, rfl⟩ := nI_of h
  exact ⟨j % 8, Nat.mod_lt _ (by decide), pk_rem (d := 8) hj (by decide) (by decide)⟩
theorem rW_sw {cI : ClassId} {b : Nat → Nat} {s : Nat} {θ τ ρ : Nat → Nat → Int32} (hs : s < 2) : rW cI b s θ τ ρ = rW cI b (1-s) θ ρ τ := gws_congr (fun k hk => by
    unfold rF
    by_cases h0 : k = 0
    · rw [if_pos h0, if_pos h0]
    · rw [if_neg h0, if_neg h0]
      by_cases h1 : k = 1
      · rw [if_pos h1, if_pos h1]
      · rw [if_neg h1, if_neg h1]
        by_cases hq : (k-2)/3 = s
        · simp only [fo, if_pos hq]
          rw [if_neg (by omega)]
        · simp only [fo, if_neg hq]
          rw [if_pos (by omega)])
section RACP
variable {p : Program} {l : Launch} {e : Env} {R : Room} {S : State} {m : MethodId} {args : Array Value} {below : List Frame} {meth : Method} {c : Code} {H : Heap} {locs : List Loc} {cells slots : Nat} {Q : State → Prop}
variable {cc : ByteArray} {pc : Nat} {ls : Array Slot} {rest : List Value} {D : va_G} {cI : ClassId} {b : Nat → Nat} {A : Nat → Prop} {H0 : Heap} {s : Nat} {θ τ ρ : Nat → Nat → Int32} {own : String} {index : Nat}
/-- a row of the other State copied whole -/
theorem r_acp (hexec : p.tables.exec = Jvm.exec) (hb : c.code = cc) (hml : c.maxLocals = ls.size) (hown : S.vm.findClass own = some m.cls) (hlink : (Cond.methodLink own index arraycopyName).before args S = true) (hnat : (Cond.native arraycopyName).before args S = true) (hstat : (Cond.static arraycopyName).before args S = true) (hini : (Cond.initialized "java/lang/System").before args S = true)
    (hC : rB D cI b S A H0 H locs s θ τ ρ) (hs : s < 2) (r n : Nat) (hr : (r = 1 ∧ n = 3) ∨ (r = 2 ∧ n = 108)) (hframes : 1 ≤ R.frames) (hlocals : (rest.map fun v => v.category).sum + (nativeFrameWords "java/lang/System" "arraycopy" 5 + 11) ≤ R.locals) (hdg : decode cc pc = .ok (.invokestatic index, 3))
    (kk : ∀ (H : Heap) (locs : List Loc) (τ1 : Nat → Nat → Int32), rowC τ ρ r n = τ1 → rB D cI b S A H0 H locs s θ τ1 ρ → W p l e R S m args below meth c H locs cells slots Q (F0 m (pc + 3) ls rest)) :
    W p l e R S m args below meth c H locs cells slots Q (F0 m pc ls (.int (nI n) :: .int 0 :: .ref (b (3*s+2+r)) :: .int 0 :: .ref (b (3*(1-s)+2+r)) :: rest)) := by
  have hC0 := hC
  obtain ⟨hK, hP, hD, hS, hN⟩ := hC
  have g1 := rB.get (cI := cI) (b := b) (θ := θ) (τ := τ) (ρ := ρ) hs (show r < 3 by omega)
  have g0 := rB.get (cI := cI) (b := b) (θ := θ) (τ := ρ) (ρ := τ) (s := 1-s) (by omega) (show r < 3 by omega)
  rw [← rW_sw hs] at g0
  rw [rR_arr (by omega) (by omega)] at g0 g1
  have hn : (if r = 1 then 3 else 108) = n := by rcases hr with ⟨rfl, rfl⟩ | ⟨rfl, rfl⟩ <;> rfl
  rw [hn] at g0 g1
  have hcl : (nI n).toNatClampNeg = n := nI_clamp (by omega)
  have h0c : (0 : Int32).toNatClampNeg = 0 := rfl
  refine va_copyi hexec hb hml hown hlink hnat hstat hini hK hP hD hS (3*(1-s)+2+r) (3*s+2+r) 0 0 g0 g1 rfl rfl rfl (by decide) (by decide) (nI_pos (by omega)) (by rw [hcl, h0c]; omega) (by rw [hcl, h0c]; omega) (fun i hi => rfl) hframes hlocals hdg (fun H1 locs1 hP1 hD1 hS1 => ?_)
  rw [hcl, h0c] at hP1 hD1
  refine kk H1 locs1 _ rfl (hC0.set hs (by omega) ?_ (fun r' h' => by simp [rowC, h']) hP1 hD1 hS1)
  rw [rR_arr (by omega) (by omega), hn]
  simp [rowC]
end RACP
