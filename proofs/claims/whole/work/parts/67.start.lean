/-! THE LAW, from its entry -/
theorem va_rot {A : Nat → Prop} {x y z : va_W} (h : va_D A ((x ++ z) ++ y)) : va_D A (x ++ (y ++ z)) := by
  refine h.by (fun k => if k < x.length then k else if k < x.length + y.length then z.length + k else k - y.length) (fun k q hk => ?_) (fun i j hi hj e => ?_)
  · by_cases h1 : k < x.length
    · rw [List.getElem?_append_left h1] at hk
      simp only [if_pos h1]
      exact ap_l (ap_l hk)
    · rw [List.getElem?_append_right (by omega)] at hk
      by_cases h2 : k - x.length < y.length
      · rw [List.getElem?_append_left h2] at hk
        simp only [if_neg h1, if_pos (show k < x.length + y.length by omega)]
        have h3 := ap_r (xs := x ++ z) hk
        rwa [List.length_append, show x.length + z.length + (k - x.length) = z.length + k by omega] at h3
      · rw [List.getElem?_append_right (by omega)] at hk
        simp only [if_neg h1, if_neg (show ¬ k < x.length + y.length by omega)]
        have h3 := ap_l (ys := y) (ap_r (xs := x) hk)
        rwa [show x.length + (k - x.length - y.length) = k - y.length by omega] at h3
  · rw [List.length_append, List.length_append] at hi hj
    by_cases a1 : i < x.length <;> by_cases a2 : i < x.length + y.length <;> by_cases b1 : j < x.length <;> by_cases b2 : j < x.length + y.length <;> simp only [a1, a2, b1, b2, if_true, if_false] at e <;> omega
theorem sgI_no {f : Nat → Int32} {i : Nat} (hi : i < 12) : mNo (sgI f (i+5)) := ⟨rfl, rfl, rfl, rfl, rfl, rfl, rfl, rfl⟩
theorem inv0 {f : Nat → Int32} (hf : ∀ j, j < 8 → f j = -1) : Inv 0 (sgI f) tauI thI := by
  refine ⟨0, 0, ⟨⟨by decide, by decide⟩, ⟨rfl, rfl⟩, ⟨rfl, rfl, rfl, rfl, rfl, rfl, rfl, rfl⟩, fun j hj => ?_, fun j _ => rfl, fun i f hi => absurd hi (Nat.not_lt_zero i), fun i hi => absurd hi (Nat.not_lt_zero i), fun i _ hi => sgI_no hi, fun i _ => rfl, ⟨(by decide : (0 : Int) ≤ (60 : Int32).toInt), (by decide : (0 : Int) ≤ (200 : Int32).toInt), (by decide : (0 : Int) ≤ (1 : Int32).toInt), (by decide : (1 : Int32).toInt ≤ 3), ?_⟩, trivial, trivial⟩, rfl, Nat.le_refl 0⟩
  · have h1 : sgI f 1 j = -1 := hf j hj
    exact ⟨h1.trans (fvI_8 j hj).symm, Or.inl h1⟩
  · show (60 : Int32).toInt + (200 : Int32).toInt + smq (fun i => (0 : Int32).toInt) 12 ≤ Bk 0
    decide
