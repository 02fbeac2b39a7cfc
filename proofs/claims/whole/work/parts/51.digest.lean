/-! the digests agree -/
section DIG
variable {k N w : Nat} {ν t τ α θ : Mm} {B : Int}
theorem dg2_eq {σ ρ : Mm} {v : Int64} : fX2_digest_k2 σ ρ v = fX2_digest_k3x (itR (fun i (x : Int32 × Int64 × Mm × Mm) => fX2_digest_b3 i x.1 x.2.1 x.2.2.1 x.2.2.2) 0 3 ((8 : Int32), v, σ, ρ)) := by
  unfold fX2_digest_k2
  with_reducible rfl
theorem dg4_eq {τ ρ θ1 : Mm} {v : Int64} : fX4_digest_k2 τ ρ θ1 v = fX4_digest_k3x ρ θ1 (itR (fun i (x : Int32 × Int64 × Mm) => fX4_digest_b3 ρ i x.1 x.2.1 x.2.2) 0 3 ((8 : Int32), v, τ)) := by
  unfold fX4_digest_k2
  with_reducible rfl
theorem dg2_1 {σ ρ : Mm} {v : Int64} : fX2_digest_k1 σ ρ v = fX2_digest_k2 σ ρ (itR (fun i x => fX2_digest_b2 ρ i x) 0 8 ((v * (31 : Int64)) + (((ρ 0 6)).toInt64))) := by
  unfold fX2_digest_k1
  with_reducible rfl
theorem dg4_1 {τ ρ θ1 : Mm} {v : Int64} : fX4_digest_k1 τ ρ θ1 v = fX4_digest_k2 τ ρ θ1 (itR (fun i x => fX4_digest_b2 θ1 i x) 0 8 ((v * (31 : Int64)) + (((θ1 0 1)).toInt64))) := by
  unfold fX4_digest_k1
  with_reducible rfl
theorem dg2_0 {σ ρ : Mm} : fX2_digest σ ρ = fX2_digest_k1 σ ρ (itR (fun i x => fX2_digest_b1 ρ i x) 0 13 (1361 : Int64)) := by
  unfold fX2_digest
  with_reducible rfl
theorem dg4_0 {θ τ ρ : Mm} : fX4_digest θ τ ρ = fX4_digest_k1 τ ρ (up2 θ 0 0 0) (itR (fun i x => fX4_digest_b1 ρ i x) 0 13 (1361 : Int64)) := by
  unfold fX4_digest
  with_reducible rfl
theorem dg2_3 {x1 : Int32} {x2 : Int64} {x3 x4 : Mm} : fX2_digest_k3x (x1, x2, x3, x4) = (itR (fun i x => fX2_digest_b5 x4 i x) 0 12 x2, x3, x4) := by
  unfold fX2_digest_k3x fX2_digest_k3 fX2_digest_k5
  with_reducible rfl
theorem dg4_3 {ρ θ1 : Mm} {x1 : Int32} {x2 : Int64} {x3 : Mm} : fX4_digest_k3x ρ θ1 (x1, x2, x3) = ((itR (fun i (x : Int32 × Int64) => fX4_digest_b5 ρ i x.1 x.2) 0 (wfn ρ) (x1, x2)).2, θ1, x3) := by
  unfold fX4_digest_k3x fX4_digest_k3 fX4_digest_k5x fX4_digest_k5
  with_reducible rfl
theorem ag_digest (hI : Inv k ν τ θ) (hk : k < 512) : (fX2_digest t ν).1 = (fX4_digest θ α τ).1 ∧ Inv (k+1) (fX2_digest t ν).2.2 τ (fX4_digest θ α τ).2.1 := by
  obtain ⟨N, w, h, hw, hw2⟩ := hI
  have hB := Bk_ok (k := k) (by omega)
  have e1 : itR (fun i x => fX2_digest_b1 ν i x) 0 13 (1361 : Int64) = itR (fun i x => fX4_digest_b1 τ i x) 0 13 (1361 : Int64) := by
    refine itR_two (f := fun i x => fX2_digest_b1 ν i x) (g := fun i x => fX4_digest_b1 τ i x) (P := fun _ (a b : Int64) => a = b) rfl 13 (fun i a b hi e => ?_)
    show fX2_digest_b1 ν i a = fX4_digest_b1 τ i b
    unfold fX2_digest_b1 fX4_digest_b1
    rw [e, h.tally]
  have e2 : ∀ z : Int64, itR (fun i x => fX2_digest_b2 ν i x) 0 8 z = itR (fun i x => fX4_digest_b2 (up2 θ 0 0 0) i x) 0 8 z := by
    intro z
    refine itR_two (f := fun i x => fX2_digest_b2 ν i x) (g := fun i x => fX4_digest_b2 (up2 θ 0 0 0) i x) (P := fun _ (a b : Int64) => a = b) rfl 8 (fun i a b hi e => ?_)
    show fX2_digest_b2 ν i a = fX4_digest_b2 (up2 θ 0 0 0) i b
    unfold fX2_digest_b2 fX4_digest_b2
    rw [e, (h.fv i hi).1]
    simp [up2_ap]
  have e3 : ∀ z : Int64, (itR (fun i (x : Int32 × Int64 × Mm × Mm) => fX2_digest_b3 i x.1 x.2.1 x.2.2.1 x.2.2.2) 0 3 ((8 : Int32), z, t, ν)).2.1 = (itR (fun i (x : Int32 × Int64 × Mm) => fX4_digest_b3 τ i x.1 x.2.1 x.2.2) 0 3 ((8 : Int32), z, α)).2.1 ∧ ∀ r, r ≠ 3 → (itR (fun i (x : Int32 × Int64 × Mm × Mm) => fX2_digest_b3 i x.1 x.2.1 x.2.2.1 x.2.2.2) 0 3 ((8 : Int32), z, t, ν)).2.2.2 r = ν r := by
    intro z
    refine itR_two (f := fun i (x : Int32 × Int64 × Mm × Mm) => fX2_digest_b3 i x.1 x.2.1 x.2.2.1 x.2.2.2) (g := fun i (x : Int32 × Int64 × Mm) => fX4_digest_b3 τ i x.1 x.2.1 x.2.2) (x := ((8 : Int32), z, t, ν)) (y := ((8 : Int32), z, α)) (P := fun _ x y => x.2.1 = y.2.1 ∧ ∀ r, r ≠ 3 → x.2.2.2 r = ν r) ⟨rfl, fun r _ => rfl⟩ 3 (fun i x y hi hP => ?_)
    obtain ⟨x1, x2, x3, x4⟩ := x
    obtain ⟨y1, y2, y3⟩ := y
    obtain ⟨q1, q2⟩ := hP
    have q1' : x2 = y2 := q1
    subst q1'
    show (fX2_digest_b3 i x1 x2 x3 x4).2.1 = (fX4_digest_b3 τ i y1 x2 y3).2.1 ∧ ∀ r, r ≠ 3 → (fX2_digest_b3 i x1 x2 x3 x4).2.2.2 r = ν r
    have H := itR_two (f := fun j (x : Int64 × Mm × Mm) => fX2_digest_b4 i j x.1 x.2.1 x.2.2) (g := fun j (x : Int64 × Mm) => fX4_digest_b4 τ i j x.1 x.2) (x := (x2, x3, x4)) (y := (x2, y3)) (P := fun _ x y => x.1 = y.1 ∧ ∀ r, r ≠ 3 → x.2.2 r = ν r) ⟨rfl, q2⟩ 4 (fun j x y hj hP => by
      obtain ⟨x1, x2, x3⟩ := x
      obtain ⟨y1, y2⟩ := y
      obtain ⟨q1, q2⟩ := hP
      have q1' : x1 = y1 := q1
      subst q1'
      show (fX2_digest_b4 i j x1 x2 x3).1 = (fX4_digest_b4 τ i j x1 y2).1 ∧ ∀ r, r ≠ 3 → (fX2_digest_b4 i j x1 x2 x3).2.2 r = ν r
      unfold fX2_digest_b4 fX4_digest_b4
      dsimp only
      obtain ⟨z1, z2⟩ := (h.row3 q2).potF (t := x2) (α := y2) hi (nI j)
      rw [z1]
      exact ⟨rfl, fun r hr => (z2 r hr).trans (q2 r hr)⟩)
    unfold fX2_digest_b3 fX4_digest_b3 fX2_digest_k4x fX4_digest_k4x fX2_digest_k4 fX4_digest_k4
    dsimp only
    exact H
  have e4 : ∀ (ρ : Mm) (z : Int64) (c : Int32), (∀ r, r ≠ 3 → ρ r = ν r) → itR (fun i x => fX2_digest_b5 ρ i x) 0 12 z = (itR (fun i (x : Int32 × Int64) => fX4_digest_b5 τ i x.1 x.2) 0 N (c, z)).2 := by
    intro ρ z c hρ
    have h' := h.row3 hρ
    refine itR_12 (f := fun i x => fX2_digest_b5 ρ i x) (g := fun i (x : Int32 × Int64) => fX4_digest_b5 τ i x.1 x.2) (P := fun _ (a : Int64) (b : Int32 × Int64) => a = b.2) h.n12 rfl (fun i a b hi e => ?_) (fun i a b hi hi2 e => ?_)
    · have hi12 : i < 12 := by have := h.n12; omega
      obtain ⟨b1, b2⟩ := b
      have e' : a = b2 := e
      subst e'
      show fX2_digest_b5 ρ i a = (fX4_digest_b5 τ i b1 a).2
      unfold fX2_digest_b5 fX4_digest_b5 fX2_digest_k6 fX4_digest_k6
      rw [if_neg (by rcases (h'.ok hi).1 with q | q | q <;> rw [q] <;> decide)]
      refine itR_two (f := fun j x => fX2_digest_b6 ρ i j x) (g := fun j x => fX4_digest_b6 τ i j x) (P := fun _ (a b : Int64) => a = b) rfl 9 (fun j a b hj e => ?_)
      show fX2_digest_b6 ρ i j a = fX4_digest_b6 τ i j b
      unfold fX2_digest_b6 fX4_digest_b6
      rw [e, of_c hi12 hj, h'.cell hi hj]
      revert j
      refine nine ?_ ?_ ?_ ?_ ?_ ?_ ?_ ?_ ?_ <;> rfl
    · show fX2_digest_b5 ρ i a = b.2
      unfold fX2_digest_b5
      rw [if_pos (h'.no hi hi2).1]
      exact e
  have s6 : ν 0 6 = up2 θ 0 0 0 0 1 := by
    rw [h.sc.2.2.2.2.2.1]
    simp [up2_ap]
  rw [dg2_0, dg4_0, e1]
  generalize itR (fun i x => fX4_digest_b1 τ i x) 0 13 (1361 : Int64) = Z0
  rw [dg2_1, dg4_1, e2, s6]
  generalize itR (fun i x => fX4_digest_b2 (up2 θ 0 0 0) i x) 0 8 _ = Z
  rw [dg2_eq, dg4_eq]
  obtain ⟨z1, z2⟩ := e3 Z
  generalize itR (fun i (x : Int32 × Int64 × Mm × Mm) => fX2_digest_b3 i x.1 x.2.1 x.2.2.1 x.2.2.2) 0 3 ((8 : Int32), Z, t, ν) = X at z1 z2 ⊢
  generalize itR (fun i (x : Int32 × Int64 × Mm) => fX4_digest_b3 τ i x.1 x.2.1 x.2.2) 0 3 ((8 : Int32), Z, α) = Y at z1 ⊢
  obtain ⟨x1, x2, x3, x4⟩ := X
  obtain ⟨y1, y2, y3⟩ := Y
  rw [dg2_3, dg4_3, h.wfnm]
  have z1' : x2 = y2 := z1
  have z2' : ∀ r, r ≠ 3 → x4 r = ν r := z2
  have z3 := e4 x4 x2 y1 z2'
  generalize itR (fun i x => fX2_digest_b5 x4 i x) 0 12 x2 = V at z3 ⊢
  subst z1'
  generalize itR (fun i (x : Int32 × Int64) => fX4_digest_b5 τ i x.1 x.2) 0 N (y1, x2) = V2 at z3 ⊢
  refine ⟨z3, N, w, ((h.row3 z2').mono (by omega) hB.2.2).th (by funext f; simp [up2_ap]) (by simp [up2_ap]), ?_, by omega⟩
  show x4 0 0 = nI w
  rw [z2' 0 (by decide)]
  exact hw
end DIG
