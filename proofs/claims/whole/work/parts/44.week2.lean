/-! bits of the reference's row of the dead (these six began as texts given for pasting) -/
def btq (x : Int32) (i : Nat) : Bool := x.toBitVec.getLsbD i
theorem bq_or (x y : Int32) (i : Nat) : btq (x ||| y) i = (btq x i || btq y i) := by unfold btq; rw [Int32.toBitVec_or, BitVec.getLsbD_or]
theorem bq_0 (i : Nat) : btq 0 i = false := BitVec.getLsbD_zero
theorem bq_s : ∀ n, n < 32 → ((nI n &&& 31).toBitVec.smod 32).toNat = n := by decide +kernel
theorem bq_1 : ∀ n, n < 12 → ∀ k, k < 12 → btq ((1 : Int32) <<< (nI n &&& 31)) k = decide (k = n) := by decide +kernel
theorem bq_sshr (n : Nat) (hn : n < 12) (x : Int32) : btq (x >>> (nI n &&& 31)) 0 = btq x n := by
  unfold btq
  rw [Int32.toBitVec_shiftRight]
  show (x.toBitVec.sshiftRight ((nI n &&& 31).toBitVec.smod 32).toNat).getLsbD 0 = _
  rw [bq_s n (by omega), BitVec.getLsbD_sshiftRight]
  simp
  omega
theorem bq_and1 (x : Int32) : (x &&& 1 = 1) ↔ btq x 0 = true := by
  have h : x &&& 1 = 1 ↔ (x &&& 1).toBitVec = (1 : Int32).toBitVec := Int32.toBitVec_inj.symm
  rw [h, Int32.toBitVec_and]
  show x.toBitVec &&& 1#32 = 1#32 ↔ x.toBitVec.getLsbD 0 = true
  constructor
  · intro e
    have := congrArg (fun b => BitVec.getLsbD b 0) e
    simpa using this
  · intro e
    apply BitVec.eq_of_getLsbD_eq
    intro k hk
    rw [BitVec.getLsbD_and]
    by_cases q : k = 0
    · subst q
      rw [e]
      rfl
    · have e1 : BitVec.getLsbD 1#32 k = false := by
        rw [BitVec.getLsbD_one]
        simp [q]
      rw [e1, Bool.and_false]
theorem bq_test (n : Nat) (hn : n < 12) (x : Int32) : ((x >>> (nI n &&& 31)) &&& 1 = 1) ↔ btq x n = true := by
  rw [bq_and1, bq_sshr n hn]
/-! the loops -/
theorem sf_eq {σ : Mm} : fX1_spreadFever σ = itR (fun i x => fX1_spreadFever_b1 σ i x) 0 12 σ := by
  unfold fX1_spreadFever fX1_spreadFever_k1
  dsimp only
theorem rv_eq {θ τ : Mm} : fX3_fever θ τ = itR (fun i x => fX3_fever_b1 θ τ i x) 0 (wfn τ) τ := by
  unfold fX3_fever fX3_fever_k1
  dsimp only
theorem ns_eq {σ : Mm} : fX1_nurseSick σ = itR (fun i x => fX1_nurseSick_b1 i x) 0 12 σ := by
  unfold fX1_nurseSick fX1_nurseSick_k1
  dsimp only
theorem td_eq {σ : Mm} : fX1_takeDues σ = itR (fun i x => fX1_takeDues_b1 i x) 0 12 σ := by
  unfold fX1_takeDues fX1_takeDues_k1
  dsimp only
theorem cn_eq {σ : Mm} : fX1_holdClubNight σ = itR (fun i x => fX1_holdClubNight_b1 i x) 0 12 σ := by
  unfold fX1_holdClubNight fX1_holdClubNight_k1
  dsimp only
theorem hf_eq {σ : Mm} : fX1_holdFunerals σ = itR (fun i x => fX1_holdFunerals_b1 i x) 0 12 σ := by
  unfold fX1_holdFunerals fX1_holdFunerals_k1
  dsimp only
theorem bu_eq {σ : Mm} {j : Nat} : fX1_bury σ j = itR (fun i x => fX1_bury_b1 i x) 0 12 (buA σ j) := by
  unfold fX1_bury fX1_bury_k1 buA
  dsimp only
theorem rb_eq {τ : Mm} {j : Nat} : fX3_bury τ (nI j) = itR (fun i x => fX3_bury_b1 i x) 0 (wfn (buB τ j)) (buB τ j) := by
  unfold fX3_bury fX3_bury_k1 buB
  dsimp only
section WEEK2
variable {N : Nat} {B : Int} {u : Nat → Int32} {E : Int32 → Int32 → Prop} {σ τ θ : Mm}
theorem Rl.fevers (h : Rl N B u E σ τ θ) {w : Nat} (hw : σ 0 0 = nI w) (hw2 : w < 2 ^ 31) : Rl N B u E (fX1_spreadFever σ) (fX3_fever θ τ) θ ∧ fX3_fever θ τ 0 0 = τ 0 0 := by
  have hF : σ 1 (fJ9_floorMod_7cf53 (σ 0 0) 8).toNatClampNeg = θ 1 ((τ 0 0) - (τ 0 0) / (8 : Int32) * (8 : Int32)).toNatClampNeg := by
    have h8 := fm_ix (σ 0 0)
    rw [(h.fv _ h8.2).1, ← h.sc.1]
    have e : fJ9_floorMod_7cf53 (σ 0 0) 8 = σ 0 0 - σ 0 0 / 8 * 8 := fm_pos (by rw [hw]; exact nI_pos' hw2) (by decide)
    rw [e]
  rw [sf_eq, rv_eq, h.wfnm]
  exact itR_12 (f := fun i x => fX1_spreadFever_b1 σ i x) (g := fun i x => fX3_fever_b1 θ τ i x) (P := fun _ x y => Rl N B u E x y θ ∧ y 0 0 = τ 0 0) h.n12 ⟨h, rfl⟩ (fun i x y hi hP => by
    have hi12 : i < 12 := by have := h.n12; omega
    refine ⟨hP.1.fever hi hF, ?_⟩
    refine Eq.trans ?_ hP.2
    show fX3_fever_b1 θ τ i y 0 0 = y 0 0
    unfold fX3_fever_b1
    dsimp only
    repeat' split
    all_goals simp only [fX3_set_00]) (fun i x y hi hi2 hP => by
    have e : fX1_spreadFever_b1 σ i x = x := by
      unfold fX1_spreadFever_b1
      rw [if_pos (idle_combs (hP.1.no hi hi2))]
    show Rl N B u E (fX1_spreadFever_b1 σ i x) y θ ∧ _
    rw [e]
    exact hP)
/-- v tells who is dead and not buried -/
def Mk (N : Nat) (v : Int32) (u : Nat → Int32) : Prop := ∀ k, k < 12 → ((u k = 0 ∧ btq v k = false) ∨ (u k = 1 ∧ btq v k = true)) ∧ (N ≤ k → u k = 0)
theorem Rl.nurses (h : Rl N B (fun _ => 0) E σ τ θ) : ∃ u, Rl N B u E (fX1_nurseSick σ) (itR (fun i x => fX3_pass_b1 i x.1 x.2) 0 (wfn τ) ((0 : Int32), τ)).2 θ ∧ Mk N (itR (fun i x => fX3_pass_b1 i x.1 x.2) 0 (wfn τ) ((0 : Int32), τ)).1 u ∧ (itR (fun i x => fX3_pass_b1 i x.1 x.2) 0 (wfn τ) ((0 : Int32), τ)).2 0 0 = τ 0 0 := by
  rw [ns_eq, h.wfnm]
  refine itR_12 (f := fun i x => fX1_nurseSick_b1 i x) (g := fun i (x : Int32 × Mm) => fX3_pass_b1 i x.1 x.2) (P := fun _ (x : Mm) (y : Int32 × Mm) => ∃ u, Rl N B u E x y.2 θ ∧ Mk N y.1 u ∧ y.2 0 0 = τ 0 0) h.n12 ⟨_, h, fun k hk => ⟨Or.inl ⟨rfl, bq_0 k⟩, fun _ => rfl⟩, rfl⟩ ?_ ?_
  · intro i x y hi hP
    obtain ⟨v, y⟩ := y
    obtain ⟨u, q1, q2, q3⟩ := hP
    have hi12 : i < 12 := by have := h.n12; omega
    have c6 : y 2 (9*i+6) = x (i+5) 6 := q1.cell hi (f := 6) (by decide)
    show ∃ u, Rl N B u E (fX1_nurseSick_b1 i x) (fX3_pass_b1 i v y).2 θ ∧ Mk N (fX3_pass_b1 i v y).1 u ∧ (fX3_pass_b1 i v y).2 0 0 = τ 0 0
    unfold fX1_nurseSick_b1 fX3_pass_b1
    dsimp only
    rw [of6 hi12, c6]
    by_cases h1 : x (i+5) 6 = 1
    · obtain ⟨hd, r1⟩ := q1.nurse hi h1
      have c6' : fX3_nurse y (nI i) 2 (9*i+6) = fX1_nurse x i (i+5) 6 := r1.cell hi (f := 6) (by decide)
      rw [if_pos h1, if_pos h1, of6 hi12, c6']
      rcases hd with ⟨d1, d2⟩ | ⟨d1, d2⟩
      · rw [if_pos d1]
        refine ⟨_, r1, ?_, fX3_nurse_00.trans q3⟩
        intro k hk
        rw [d2]
        show ((upd u i 1 k = 0 ∧ btq (v ||| ((1 : Int32) <<< (nI i &&& 31))) k = false) ∨ (upd u i 1 k = 1 ∧ btq (v ||| ((1 : Int32) <<< (nI i &&& 31))) k = true)) ∧ (N ≤ k → upd u i 1 k = 0)
        rw [bq_or, bq_1 i hi12 k hk]
        by_cases e : k = i
        · subst e
          refine ⟨Or.inr ⟨pk_us, by simp⟩, fun q => by omega⟩
        · rw [pk_un e]
          refine ⟨?_, (q2 k hk).2⟩
          simpa [e] using (q2 k hk).1
      · rw [if_neg d1]
        refine ⟨u, r1.cu (fun k hk => ?_), ?_, fX3_nurse_00.trans q3⟩
        · rw [d2, q1.bit hi12]
          by_cases e : k = i
          · subst e
            rw [pk_us]
          · rw [pk_un e]
        · intro k hk
          show ((u k = 0 ∧ btq (v ||| 0) k = false) ∨ (u k = 1 ∧ btq (v ||| 0) k = true)) ∧ (N ≤ k → u k = 0)
          rw [bq_or, bq_0, Bool.or_false]
          exact q2 k hk
    · rw [if_neg h1, if_neg h1]
      exact ⟨u, q1, q2, q3⟩
  · intro i x y hi hi2 hP
    obtain ⟨u, q1, q2, q3⟩ := hP
    have e : fX1_nurseSick_b1 i x = x := by
      unfold fX1_nurseSick_b1
      rw [(q1.no hi hi2).1]
      exact if_neg (by decide)
    show ∃ u, Rl N B u E (fX1_nurseSick_b1 i x) y.2 θ ∧ _
    rw [e]
    exact ⟨u, q1, q2, q3⟩
theorem Rl.duess (h : Rl N B u E σ τ θ) : Rl N B u E (fX1_takeDues σ) (itR (fun i x => fX3_pass_b2 θ i x) 0 (wfn τ) τ) θ ∧ itR (fun i x => fX3_pass_b2 θ i x) 0 (wfn τ) τ 0 0 = τ 0 0 := by
  rw [td_eq, h.wfnm]
  exact itR_12 (f := fun i x => fX1_takeDues_b1 i x) (g := fun i x => fX3_pass_b2 θ i x) (P := fun _ x y => Rl N B u E x y θ ∧ y 0 0 = τ 0 0) h.n12 ⟨h, rfl⟩ (fun i x y hi hP => by
    refine ⟨hP.1.dues hi, Eq.trans ?_ hP.2⟩
    show fX3_pass_b2 θ i y 0 0 = y 0 0
    unfold fX3_pass_b2
    split
    · exact fX3_payDues_00
    · rfl) (fun i x y hi hi2 hP => by
    have e : fX1_takeDues_b1 i x = x := by
      unfold fX1_takeDues_b1
      rw [(hP.1.no hi hi2).1]
      exact if_neg (by decide)
    show Rl N B u E (fX1_takeDues_b1 i x) y θ ∧ _
    rw [e]
    exact hP)
theorem Rl.drinks (h : Rl N B u E σ τ θ) (hm : (τ 0 0) - (τ 0 0) / (4 : Int32) * (4 : Int32) = 3) : Rl N B u E (fX1_holdClubNight σ) (itR (fun i x => fX3_pass_b3 i x) 0 (wfn τ) τ) θ ∧ itR (fun i x => fX3_pass_b3 i x) 0 (wfn τ) τ 0 0 = τ 0 0 := by
  rw [cn_eq, h.wfnm]
  exact itR_12 (f := fun i x => fX1_holdClubNight_b1 i x) (g := fun i x => fX3_pass_b3 i x) (P := fun _ x y => Rl N B u E x y θ ∧ y 0 0 = τ 0 0) h.n12 ⟨h, rfl⟩ (fun i x y hi hP => by
    obtain ⟨q1, q2⟩ := hP
    have hi12 : i < 12 := by have := h.n12; omega
    have c6 := q1.cell hi (f := 6) (by decide)
    show Rl N B u E (fX1_holdClubNight_b1 i x) (fX3_pass_b3 i y) θ ∧ fX3_pass_b3 i y 0 0 = τ 0 0
    unfold fX3_pass_b3
    rw [q2, if_pos hm, of6 hi12, c6]
    by_cases h6 : x (i+5) 6 = 0
    · rw [if_pos h6]
      exact ⟨q1.drink hi h6, fX3_drink_00.trans q2⟩
    · rw [if_neg h6]
      unfold fX1_holdClubNight_b1
      rw [if_neg h6]
      exact ⟨q1, q2⟩) (fun i x y hi hi2 hP => by
    have e : fX1_holdClubNight_b1 i x = x := by
      unfold fX1_holdClubNight_b1
      rw [(hP.1.no hi hi2).1]
      exact if_neg (by decide)
    show Rl N B u E (fX1_holdClubNight_b1 i x) y θ ∧ _
    rw [e]
    exact hP)
theorem drinks_not (hm : ¬ (τ 0 0) - (τ 0 0) / (4 : Int32) * (4 : Int32) = 3) : itR (fun i x => fX3_pass_b3 i x) 0 (wfn τ) τ = τ := by
  refine itR_id (fun i hi => ?_)
  show fX3_pass_b3 i τ = τ
  unfold fX3_pass_b3
  exact if_neg hm
theorem fX3_pay_00' {d : Int32} : (fX3_pay τ d).2 0 0 = τ 0 0 := fX3_pay_00
theorem Rl.bury {i : Nat} (h : Rl N B u E σ τ θ) (hi : i < N) : Rl N B (upd u i 0) E (fX1_bury σ i) (fX3_bury τ (nI i)) θ ∧ fX3_bury τ (nI i) 0 0 = τ 0 0 := by
  have h0 := h.bury0 hi
  have hi12 : i < 12 := by have := h.n12; omega
  rw [bu_eq, rb_eq, h0.wfnm]
  have e0 : buB τ i 0 0 = τ 0 0 := by
    unfold buB
    rw [fX3_set_00]
    simp [up2_ap, fX3_pay_00]
  exact itR_12 (f := fun i x => fX1_bury_b1 i x) (g := fun i x => fX3_bury_b1 i x) (P := fun _ x y => Rl N B (upd u i 0) E x y θ ∧ y 0 0 = τ 0 0) h.n12 ⟨h0, e0⟩ (fun k x y hk hP => by
    refine ⟨hP.1.bury1 hk, Eq.trans ?_ hP.2⟩
    show fX3_bury_b1 k y 0 0 = y 0 0
    unfold fX3_bury_b1
    dsimp only
    repeat' split
    all_goals simp [fX3_set_00, up2_ap]) (fun k x y hk hk2 hP => by
    have e : fX1_bury_b1 k x = x := by
      have el : fX0_lives x k = 0 := by
        unfold fX0_lives
        rw [(hP.1.no hk hk2).1]
        decide
      unfold fX1_bury_b1
      exact if_pos el
    show Rl N B (upd u i 0) E (fX1_bury_b1 k x) y θ ∧ _
    rw [e]
    exact hP)
theorem Rl.burys (h : Rl N B u E σ τ θ) {v : Int32} (hM : Mk N v u) : Rl N B (fun _ => 0) E (fX1_holdFunerals σ) (itR (fun i x => fX3_pass_b4 v i x) 0 (wfn τ) τ) θ ∧ itR (fun i x => fX3_pass_b4 v i x) 0 (wfn τ) τ 0 0 = τ 0 0 := by
  rw [hf_eq, h.wfnm]
  have H := itR_12 (f := fun i x => fX1_holdFunerals_b1 i x) (g := fun i x => fX3_pass_b4 v i x) (P := fun i x y => Rl N B (fun k => if k < i then 0 else u k) E x y θ ∧ y 0 0 = τ 0 0) h.n12 ⟨h.cu (fun k hk => if_neg (by omega)), rfl⟩ (fun i x y hi hP => by
    obtain ⟨q1, q2⟩ := hP
    have hi12 : i < 12 := by have := h.n12; omega
    have hb : x (i+5) 9 = u i := (q1.bit hi12).trans (if_neg (by omega))
    show Rl N B (fun k => if k < i+1 then 0 else u k) E (fX1_holdFunerals_b1 i x) (fX3_pass_b4 v i y) θ ∧ fX3_pass_b4 v i y 0 0 = τ 0 0
    unfold fX1_holdFunerals_b1 fX3_pass_b4
    rw [hb]
    rcases (hM i hi12).1 with ⟨m1, m2⟩ | ⟨m1, m2⟩
    · rw [if_pos m1, if_neg (fun q => by rw [(bq_test i hi12 v).mp q] at m2; cases m2)]
      refine ⟨q1.cu (fun k hk => ?_), q2⟩
      by_cases e : k = i
      · subst e
        simp [m1]
      · by_cases e2 : k < i
        · rw [if_pos e2, if_pos (by omega)]
        · rw [if_neg e2, if_neg (by omega)]
    · rw [if_neg (by rw [m1]; decide), if_pos ((bq_test i hi12 v).mpr m2)]
      obtain ⟨r1, r2⟩ := q1.bury hi
      refine ⟨r1.cu (fun k hk => ?_), r2.trans q2⟩
      by_cases e : k = i
      · subst e
        rw [pk_us, if_pos (by omega)]
      · rw [pk_un e]
        by_cases e2 : k < i
        · rw [if_pos e2, if_pos (by omega)]
        · rw [if_neg e2, if_neg (by omega)]) (fun i x y hi hi2 hP => by
    obtain ⟨q1, q2⟩ := hP
    have hb : x (i+5) 9 = 0 := (q1.bit hi2).trans ((if_neg (by omega)).trans ((hM i hi2).2 hi))
    have e : fX1_holdFunerals_b1 i x = x := by
      unfold fX1_holdFunerals_b1
      exact if_pos hb
    show Rl N B (fun k => if k < i+1 then 0 else u k) E (fX1_holdFunerals_b1 i x) y θ ∧ _
    rw [e]
    refine ⟨q1.cu (fun k hk => ?_), q2⟩
    by_cases e : k = i
    · subst e
      simp [(hM k hk).2 hi]
    · by_cases e2 : k < i
      · rw [if_pos e2, if_pos (by omega)]
      · rw [if_neg e2, if_neg (by omega)])
  exact ⟨H.1.cu (fun k hk => (if_pos hk).symm), H.2⟩
end WEEK2
