/-! the sixteen helpers -/
abbrev rmL : Room := { frames := 7, cells := 1, slots := 6, locals := 190 }
set_option maxHeartbeats 1000000 in
set_option maxRecDepth 100000 in
theorem t_L_join (l : Launch) (hl0 : l.stackTraces = false) (D : va_G) (cI cM cL : ClassId) (a : Nat → Nat) (o : Nat) (σ ρ : Mm) (g : Nat → Int64) (p0 p1 : Int32) (hcs : ∀ x, fX2_join σ ρ p0 p1 = .inr x → x ∈ [eA, eS]) : hMt l yL_join wsL_join rmL D cI cM cL a o [.ref (a 34), .int p0, .int p1, .ref o] 0 σ ρ g [eA, eS] (fX2_join σ ρ p0 p1) := by
  intro sz
  refine h_head (cc := cL_join) (maxL := 5) (ret := some .int) (by decide) rfl (Nat.le_of_ble_eq_true rfl) ?_
  intro p e S m below meth c hx hb hr hml hown hts hlocks htab hXN hXZ hXC hA hsz hC ls hl
  have hF : CallFix p m c cL_join 5 S ([.ref (a 34), .int p0, .int p1, .ref o] : List Value).toArray wsL_join RL := ⟨hx, hb, hml, hown, hts⟩
  have hl : lv_has ls 5 [(0, .ref (a 34)), (1, .int p0), (2, .int p1), (3, .ref o)] := hl
  refine lv_aload_n hx hb dL_join_0 rfl (lv_at hl 3 rfl) ?_
  refine lv_iconst (v := 0) hx hb dL_join_1 (by decide) ?_
  refine lv_aload_n hx hb dL_join_2 rfl (lv_at hl 0 rfl) ?_
  refine lv_iload_n hx hb dL_join_3 rfl (lv_at hl 1 rfl) ?_
  refine lv_iload_n hx hb dL_join_4 rfl (lv_at hl 2 rfl) ?_
  refine h_call (n := 2) (As := [.int p0, .int p1]) (rest := [.int 0, .ref o]) hF (c_X2_join l hl0 D cI cM a σ ρ p0 p1) gL_join_X2_join rfl rfl rfl (by decide +kernel) ⟨Nat.le_of_ble_eq_true rfl, Nat.le_of_ble_eq_true rfl⟩ hC hsz hXN hXZ rfl hl.1 rfl (Nat.le_of_ble_eq_true rfl) dL_join_5 ⟨Nat.le_of_ble_eq_true rfl, Nat.le_of_ble_eq_true rfl⟩ (fun E ce q9 H locs hE hC hce hcv hcl => ?_) (fun r σ2 ρ2 H locs hE hC => ?_)
  · rcases (show E = eA ∨ E = eS by simpa using hcs E hE) with rfl | rfl
    · refine vx_catch (name := eA) (E := eA) hown [] ⟨0, 10, 13, 13⟩ [⟨0, 10, 17, 15⟩] (htab.trans rfl) (fun z hz => absurd hz List.not_mem_nil) (by decide) (by decide) (hts (.classLink RL 13 eA) (by decide +kernel)) (va_Nw.use rfl hXN.2.2.2.1) hce hcv hcl ?_
      refine lv_astore (lv' := (4, .ref q9) :: [(0, .ref (a 34)), (1, .int p0), (2, .int p1), (3, .ref o)]) hx hb dL_join_13 hl (by decide) rfl ?_
      clear hl; intro ls hl
      refine lv_iconst (v := 1) hx hb dL_join_15 (by decide) ?_
      exact h_ret hx hb hr hlocks hC dL_join_16 (Or.inr ⟨eA, hE, by decide, rfl⟩)
    · refine vx_catch (name := eS) (E := eS) hown [⟨0, 10, 13, 13⟩] ⟨0, 10, 17, 15⟩ [] (htab.trans rfl) (fun z hz => by
        rcases (show z = ⟨0, 10, 13, 13⟩ by simpa using hz) with rfl
        · exact Or.inr ⟨by decide, eA, hts (.classLink RL 13 eA) (by decide +kernel), hXC.1⟩) (by decide) (by decide) (hts (.classLink RL 15 eS) (by decide +kernel)) (va_Nw.use rfl hXN.2.2.2.2.1) hce hcv hcl ?_
      refine lv_astore (lv' := (4, .ref q9) :: [(0, .ref (a 34)), (1, .int p0), (2, .int p1), (3, .ref o)]) hx hb dL_join_17 hl (by decide) rfl ?_
      clear hl; intro ls hl
      refine lv_iconst (v := 2) hx hb dL_join_19 (by decide) ?_
      exact h_ret hx hb hr hlocks hC dL_join_20 (Or.inr ⟨eS, hE, by decide, rfl⟩)
  · refine lv_i2l hx hb dL_join_8 rfl ?_
    refine h_put hx hb hC dL_join_9 ?_
    clear hC; intro H locs hC
    refine lv_goto (tgt := 21) hx hb dL_join_10 (by decide) ?_
    refine lv_iconst (v := 0) hx hb dL_join_21 (by decide) ?_
    exact h_ret hx hb hr hlocks hC dL_join_22 (Or.inl ⟨r, hE, rfl, (show vp_updL g 0 r.toInt64 0 = r.toInt64 from pk_uLs)⟩)
set_option maxHeartbeats 1000000 in
set_option maxRecDepth 100000 in
theorem t_L_place (l : Launch) (hl0 : l.stackTraces = false) (D : va_G) (cI cM cL : ClassId) (a : Nat → Nat) (o : Nat) (σ ρ : Mm) (g : Nat → Int64) (p0 p1 : Int32) (hcs : ∀ x, fX2_place σ ρ p0 p1 = .inr x → x ∈ [eI, eS]) : hMt l yL_place wsL_place rmL D cI cM cL a o [.ref (a 34), .int p0, .int p1, .ref o] 0 σ ρ g [eI, eS] (fX2_place σ ρ p0 p1) := by
  intro sz
  refine h_head (cc := cL_place) (maxL := 5) (ret := some .int) (by decide) rfl (Nat.le_of_ble_eq_true rfl) ?_
  intro p e S m below meth c hx hb hr hml hown hts hlocks htab hXN hXZ hXC hA hsz hC ls hl
  have hF : CallFix p m c cL_place 5 S ([.ref (a 34), .int p0, .int p1, .ref o] : List Value).toArray wsL_place RL := ⟨hx, hb, hml, hown, hts⟩
  have hl : lv_has ls 5 [(0, .ref (a 34)), (1, .int p0), (2, .int p1), (3, .ref o)] := hl
  refine lv_aload_n hx hb dL_place_0 rfl (lv_at hl 3 rfl) ?_
  refine lv_iconst (v := 0) hx hb dL_place_1 (by decide) ?_
  refine lv_aload_n hx hb dL_place_2 rfl (lv_at hl 0 rfl) ?_
  refine lv_iload_n hx hb dL_place_3 rfl (lv_at hl 1 rfl) ?_
  refine lv_iload_n hx hb dL_place_4 rfl (lv_at hl 2 rfl) ?_
  refine h_call (n := 2) (As := [.int p0, .int p1]) (rest := [.int 0, .ref o]) hF (c_X2_place l hl0 D cI cM a σ ρ p0 p1) gL_place_X2_place rfl rfl rfl (by decide +kernel) ⟨Nat.le_of_ble_eq_true rfl, Nat.le_of_ble_eq_true rfl⟩ hC hsz hXN hXZ rfl hl.1 rfl (Nat.le_of_ble_eq_true rfl) dL_place_5 ⟨Nat.le_of_ble_eq_true rfl, Nat.le_of_ble_eq_true rfl⟩ (fun E ce q9 H locs hE hC hce hcv hcl => ?_) (fun r σ2 ρ2 H locs hE hC => ?_)
  · rcases (show E = eI ∨ E = eS by simpa using hcs E hE) with rfl | rfl
    · refine vx_catch (name := eI) (E := eI) hown [] ⟨0, 10, 13, 20⟩ [⟨0, 10, 17, 15⟩] (htab.trans rfl) (fun z hz => absurd hz List.not_mem_nil) (by decide) (by decide) (hts (.classLink RL 20 eI) (by decide +kernel)) (va_Nw.use rfl hXN.2.2.2.2.2.1) hce hcv hcl ?_
      refine lv_astore (lv' := (4, .ref q9) :: [(0, .ref (a 34)), (1, .int p0), (2, .int p1), (3, .ref o)]) hx hb dL_place_13 hl (by decide) rfl ?_
      clear hl; intro ls hl
      refine lv_iconst (v := 1) hx hb dL_place_15 (by decide) ?_
      exact h_ret hx hb hr hlocks hC dL_place_16 (Or.inr ⟨eI, hE, by decide, rfl⟩)
    · refine vx_catch (name := eS) (E := eS) hown [⟨0, 10, 13, 20⟩] ⟨0, 10, 17, 15⟩ [] (htab.trans rfl) (fun z hz => by
        rcases (show z = ⟨0, 10, 13, 20⟩ by simpa using hz) with rfl
        · exact Or.inr ⟨by decide, eI, hts (.classLink RL 20 eI) (by decide +kernel), hXC.2.1⟩) (by decide) (by decide) (hts (.classLink RL 15 eS) (by decide +kernel)) (va_Nw.use rfl hXN.2.2.2.2.1) hce hcv hcl ?_
      refine lv_astore (lv' := (4, .ref q9) :: [(0, .ref (a 34)), (1, .int p0), (2, .int p1), (3, .ref o)]) hx hb dL_place_17 hl (by decide) rfl ?_
      clear hl; intro ls hl
      refine lv_iconst (v := 2) hx hb dL_place_19 (by decide) ?_
      exact h_ret hx hb hr hlocks hC dL_place_20 (Or.inr ⟨eS, hE, by decide, rfl⟩)
  · refine lv_i2l hx hb dL_place_8 rfl ?_
    refine h_put hx hb hC dL_place_9 ?_
    clear hC; intro H locs hC
    refine lv_goto (tgt := 21) hx hb dL_place_10 (by decide) ?_
    refine lv_iconst (v := 0) hx hb dL_place_21 (by decide) ?_
    exact h_ret hx hb hr hlocks hC dL_place_22 (Or.inl ⟨r, hE, rfl, (show vp_updL g 0 r.toInt64 0 = r.toInt64 from pk_uLs)⟩)
set_option maxHeartbeats 1000000 in
set_option maxRecDepth 100000 in
theorem t_L_give (l : Launch) (hl0 : l.stackTraces = false) (D : va_G) (cI cM cL : ClassId) (a : Nat → Nat) (o : Nat) (σ ρ : Mm) (g : Nat → Int64) (p0 p1 p2 : Int32) (hcs : ∀ x, fX2_give σ ρ p0 p1 p2 = .inr x → x ∈ [eI, eA, eS]) : hMt l yL_give wsL_give rmL D cI cM cL a o [.ref (a 34), .int p0, .int p1, .int p2, .ref o] 0 σ ρ g [eI, eA, eS] (fX2_give σ ρ p0 p1 p2) := by
  intro sz
  refine h_head (cc := cL_give) (maxL := 6) (ret := some .int) (by decide) rfl (Nat.le_of_ble_eq_true rfl) ?_
  intro p e S m below meth c hx hb hr hml hown hts hlocks htab hXN hXZ hXC hA hsz hC ls hl
  have hF : CallFix p m c cL_give 6 S ([.ref (a 34), .int p0, .int p1, .int p2, .ref o] : List Value).toArray wsL_give RL := ⟨hx, hb, hml, hown, hts⟩
  have hl : lv_has ls 6 [(0, .ref (a 34)), (1, .int p0), (2, .int p1), (3, .int p2), (4, .ref o)] := hl
  refine lv_aload hx hb dL_give_0 (lv_at hl 4 rfl) ?_
  refine lv_iconst (v := 0) hx hb dL_give_2 (by decide) ?_
  refine lv_aload_n hx hb dL_give_3 rfl (lv_at hl 0 rfl) ?_
  refine lv_iload_n hx hb dL_give_4 rfl (lv_at hl 1 rfl) ?_
  refine lv_iload_n hx hb dL_give_5 rfl (lv_at hl 2 rfl) ?_
  refine lv_iload_n hx hb dL_give_6 rfl (lv_at hl 3 rfl) ?_
  refine h_call (n := 3) (As := [.int p0, .int p1, .int p2]) (rest := [.int 0, .ref o]) hF (c_X2_give l hl0 D cI cM a σ ρ p0 p1 p2) gL_give_X2_give rfl rfl rfl (by decide +kernel) ⟨Nat.le_of_ble_eq_true rfl, Nat.le_of_ble_eq_true rfl⟩ hC hsz hXN hXZ rfl hl.1 rfl (Nat.le_of_ble_eq_true rfl) dL_give_7 ⟨Nat.le_of_ble_eq_true rfl, Nat.le_of_ble_eq_true rfl⟩ (fun E ce q9 H locs hE hC hce hcv hcl => ?_) (fun r σ2 ρ2 H locs hE hC => ?_)
  · rcases (show E = eI ∨ E = eA ∨ E = eS by simpa using hcs E hE) with rfl | rfl | rfl
    · refine vx_catch (name := eI) (E := eI) hown [] ⟨0, 12, 15, 20⟩ [⟨0, 12, 19, 13⟩, ⟨0, 12, 23, 15⟩] (htab.trans rfl) (fun z hz => absurd hz List.not_mem_nil) (by decide) (by decide) (hts (.classLink RL 20 eI) (by decide +kernel)) (va_Nw.use rfl hXN.2.2.2.2.2.1) hce hcv hcl ?_
      refine lv_astore (lv' := (5, .ref q9) :: [(0, .ref (a 34)), (1, .int p0), (2, .int p1), (3, .int p2), (4, .ref o)]) hx hb dL_give_15 hl (by decide) rfl ?_
      clear hl; intro ls hl
      refine lv_iconst (v := 1) hx hb dL_give_17 (by decide) ?_
      exact h_ret hx hb hr hlocks hC dL_give_18 (Or.inr ⟨eI, hE, by decide, rfl⟩)
    · refine vx_catch (name := eA) (E := eA) hown [⟨0, 12, 15, 20⟩] ⟨0, 12, 19, 13⟩ [⟨0, 12, 23, 15⟩] (htab.trans rfl) (fun z hz => by
        rcases (show z = ⟨0, 12, 15, 20⟩ by simpa using hz) with rfl
        · exact Or.inr ⟨by decide, eI, hts (.classLink RL 20 eI) (by decide +kernel), hXC.2.2.1⟩) (by decide) (by decide) (hts (.classLink RL 13 eA) (by decide +kernel)) (va_Nw.use rfl hXN.2.2.2.1) hce hcv hcl ?_
      refine lv_astore (lv' := (5, .ref q9) :: [(0, .ref (a 34)), (1, .int p0), (2, .int p1), (3, .int p2), (4, .ref o)]) hx hb dL_give_19 hl (by decide) rfl ?_
      clear hl; intro ls hl
      refine lv_iconst (v := 2) hx hb dL_give_21 (by decide) ?_
      exact h_ret hx hb hr hlocks hC dL_give_22 (Or.inr ⟨eA, hE, by decide, rfl⟩)
    · refine vx_catch (name := eS) (E := eS) hown [⟨0, 12, 15, 20⟩, ⟨0, 12, 19, 13⟩] ⟨0, 12, 23, 15⟩ [] (htab.trans rfl) (fun z hz => by
        rcases (show z = ⟨0, 12, 15, 20⟩ ∨ z = ⟨0, 12, 19, 13⟩ by simpa using hz) with rfl | rfl
        · exact Or.inr ⟨by decide, eI, hts (.classLink RL 20 eI) (by decide +kernel), hXC.2.1⟩
        · exact Or.inr ⟨by decide, eA, hts (.classLink RL 13 eA) (by decide +kernel), hXC.1⟩) (by decide) (by decide) (hts (.classLink RL 15 eS) (by decide +kernel)) (va_Nw.use rfl hXN.2.2.2.2.1) hce hcv hcl ?_
      refine lv_astore (lv' := (5, .ref q9) :: [(0, .ref (a 34)), (1, .int p0), (2, .int p1), (3, .int p2), (4, .ref o)]) hx hb dL_give_23 hl (by decide) rfl ?_
      clear hl; intro ls hl
      refine lv_iconst (v := 3) hx hb dL_give_25 (by decide) ?_
      exact h_ret hx hb hr hlocks hC dL_give_26 (Or.inr ⟨eS, hE, by decide, rfl⟩)
  · refine lv_i2l hx hb dL_give_10 rfl ?_
    refine h_put hx hb hC dL_give_11 ?_
    clear hC; intro H locs hC
    refine lv_goto (tgt := 27) hx hb dL_give_12 (by decide) ?_
    refine lv_iconst (v := 0) hx hb dL_give_27 (by decide) ?_
    exact h_ret hx hb hr hlocks hC dL_give_28 (Or.inl ⟨r, hE, rfl, (show vp_updL g 0 r.toInt64 0 = r.toInt64 from pk_uLs)⟩)
set_option maxHeartbeats 1000000 in
set_option maxRecDepth 100000 in
theorem t_L_settle (l : Launch) (hl0 : l.stackTraces = false) (D : va_G) (cI cM cL : ClassId) (a : Nat → Nat) (o : Nat) (σ ρ : Mm) (g : Nat → Int64) (p0 : Int32) (hcs : ∀ x, fX2_settle σ ρ p0 = .inr x → x ∈ [eI, eS]) : hMt l yL_settle wsL_settle rmL D cI cM cL a o [.ref (a 34), .int p0, .ref o] 0 σ ρ g [eI, eS] (fX2_settle σ ρ p0) := by
  intro sz
  refine h_head (cc := cL_settle) (maxL := 4) (ret := some .int) (by decide) rfl (Nat.le_of_ble_eq_true rfl) ?_
  intro p e S m below meth c hx hb hr hml hown hts hlocks htab hXN hXZ hXC hA hsz hC ls hl
  have hF : CallFix p m c cL_settle 4 S ([.ref (a 34), .int p0, .ref o] : List Value).toArray wsL_settle RL := ⟨hx, hb, hml, hown, hts⟩
  have hl : lv_has ls 4 [(0, .ref (a 34)), (1, .int p0), (2, .ref o)] := hl
  refine lv_aload_n hx hb dL_settle_0 rfl (lv_at hl 2 rfl) ?_
  refine lv_iconst (v := 0) hx hb dL_settle_1 (by decide) ?_
  refine lv_aload_n hx hb dL_settle_2 rfl (lv_at hl 0 rfl) ?_
  refine lv_iload_n hx hb dL_settle_3 rfl (lv_at hl 1 rfl) ?_
  refine h_call (n := 1) (As := [.int p0]) (rest := [.int 0, .ref o]) hF (c_X2_settle l hl0 D cI cM a σ ρ p0) gL_settle_X2_settle rfl rfl rfl (by decide +kernel) ⟨Nat.le_of_ble_eq_true rfl, Nat.le_of_ble_eq_true rfl⟩ hC hsz hXN hXZ rfl hl.1 rfl (Nat.le_of_ble_eq_true rfl) dL_settle_4 ⟨Nat.le_of_ble_eq_true rfl, Nat.le_of_ble_eq_true rfl⟩ (fun E ce q9 H locs hE hC hce hcv hcl => ?_) (fun r σ2 ρ2 H locs hE hC => ?_)
  · rcases (show E = eI ∨ E = eS by simpa using hcs E hE) with rfl | rfl
    · refine vx_catch (name := eI) (E := eI) hown [] ⟨0, 9, 12, 20⟩ [⟨0, 9, 15, 15⟩] (htab.trans rfl) (fun z hz => absurd hz List.not_mem_nil) (by decide) (by decide) (hts (.classLink RL 20 eI) (by decide +kernel)) (va_Nw.use rfl hXN.2.2.2.2.2.1) hce hcv hcl ?_
      refine lv_astore_n (lv' := (3, .ref q9) :: [(0, .ref (a 34)), (1, .int p0), (2, .ref o)]) hx hb dL_settle_12 rfl hl (by decide) rfl ?_
      clear hl; intro ls hl
      refine lv_iconst (v := 1) hx hb dL_settle_13 (by decide) ?_
      exact h_ret hx hb hr hlocks hC dL_settle_14 (Or.inr ⟨eI, hE, by decide, rfl⟩)
    · refine vx_catch (name := eS) (E := eS) hown [⟨0, 9, 12, 20⟩] ⟨0, 9, 15, 15⟩ [] (htab.trans rfl) (fun z hz => by
        rcases (show z = ⟨0, 9, 12, 20⟩ by simpa using hz) with rfl
        · exact Or.inr ⟨by decide, eI, hts (.classLink RL 20 eI) (by decide +kernel), hXC.2.1⟩) (by decide) (by decide) (hts (.classLink RL 15 eS) (by decide +kernel)) (va_Nw.use rfl hXN.2.2.2.2.1) hce hcv hcl ?_
      refine lv_astore_n (lv' := (3, .ref q9) :: [(0, .ref (a 34)), (1, .int p0), (2, .ref o)]) hx hb dL_settle_15 rfl hl (by decide) rfl ?_
      clear hl; intro ls hl
      refine lv_iconst (v := 2) hx hb dL_settle_16 (by decide) ?_
      exact h_ret hx hb hr hlocks hC dL_settle_17 (Or.inr ⟨eS, hE, by decide, rfl⟩)
  · refine lv_i2l hx hb dL_settle_7 rfl ?_
    refine h_put hx hb hC dL_settle_8 ?_
    clear hC; intro H locs hC
    refine lv_goto (tgt := 18) hx hb dL_settle_9 (by decide) ?_
    refine lv_iconst (v := 0) hx hb dL_settle_18 (by decide) ?_
    exact h_ret hx hb hr hlocks hC dL_settle_19 (Or.inl ⟨r, hE, rfl, (show vp_updL g 0 r.toInt64 0 = r.toInt64 from pk_uLs)⟩)
set_option maxHeartbeats 1000000 in
set_option maxRecDepth 100000 in
theorem t_L_told (l : Launch) (hl0 : l.stackTraces = false) (D : va_G) (cI cM cL : ClassId) (a : Nat → Nat) (o : Nat) (σ ρ : Mm) (g : Nat → Int64) (p0 p1 : Int32) (hcs : ∀ x, fX2_told σ ρ p0 p1 = .inr x → x ∈ [eI]) : hMt l yL_told wsL_told rmL D cI cM cL a o [.ref (a 34), .int p0, .int p1, .ref o] 0 σ ρ g [eI] (fX2_told σ ρ p0 p1) := by
  intro sz
  refine h_head (cc := cL_told) (maxL := 5) (ret := some .int) (by decide) rfl (Nat.le_of_ble_eq_true rfl) ?_
  intro p e S m below meth c hx hb hr hml hown hts hlocks htab hXN hXZ hXC hA hsz hC ls hl
  have hF : CallFix p m c cL_told 5 S ([.ref (a 34), .int p0, .int p1, .ref o] : List Value).toArray wsL_told RL := ⟨hx, hb, hml, hown, hts⟩
  have hl : lv_has ls 5 [(0, .ref (a 34)), (1, .int p0), (2, .int p1), (3, .ref o)] := hl
  refine lv_aload_n hx hb dL_told_0 rfl (lv_at hl 3 rfl) ?_
  refine lv_iconst (v := 0) hx hb dL_told_1 (by decide) ?_
  refine lv_aload_n hx hb dL_told_2 rfl (lv_at hl 0 rfl) ?_
  refine lv_iload_n hx hb dL_told_3 rfl (lv_at hl 1 rfl) ?_
  refine lv_iload_n hx hb dL_told_4 rfl (lv_at hl 2 rfl) ?_
  refine h_call (n := 2) (As := [.int p0, .int p1]) (rest := [.int 0, .ref o]) hF (c_X2_told l hl0 D cI cM a σ ρ p0 p1) gL_told_X2_told rfl rfl rfl (by decide +kernel) ⟨Nat.le_of_ble_eq_true rfl, Nat.le_of_ble_eq_true rfl⟩ hC hsz hXN hXZ rfl hl.1 rfl (Nat.le_of_ble_eq_true rfl) dL_told_5 ⟨Nat.le_of_ble_eq_true rfl, Nat.le_of_ble_eq_true rfl⟩ (fun E ce q9 H locs hE hC hce hcv hcl => ?_) (fun r σ2 ρ2 H locs hE hC => ?_)
  · rcases (show E = eI by simpa using hcs E hE) with rfl
    · refine vx_catch (name := eI) (E := eI) hown [] ⟨0, 10, 13, 20⟩ [] (htab.trans rfl) (fun z hz => absurd hz List.not_mem_nil) (by decide) (by decide) (hts (.classLink RL 20 eI) (by decide +kernel)) (va_Nw.use rfl hXN.2.2.2.2.2.1) hce hcv hcl ?_
      refine lv_astore (lv' := (4, .ref q9) :: [(0, .ref (a 34)), (1, .int p0), (2, .int p1), (3, .ref o)]) hx hb dL_told_13 hl (by decide) rfl ?_
      clear hl; intro ls hl
      refine lv_iconst (v := 1) hx hb dL_told_15 (by decide) ?_
      exact h_ret hx hb hr hlocks hC dL_told_16 (Or.inr ⟨eI, hE, by decide, rfl⟩)
  · refine lv_i2l hx hb dL_told_8 rfl ?_
    refine h_put hx hb hC dL_told_9 ?_
    clear hC; intro H locs hC
    refine lv_goto (tgt := 17) hx hb dL_told_10 (by decide) ?_
    refine lv_iconst (v := 0) hx hb dL_told_17 (by decide) ?_
    exact h_ret hx hb hr hlocks hC dL_told_18 (Or.inl ⟨r, hE, rfl, (show vp_updL g 0 r.toInt64 0 = r.toInt64 from pk_uLs)⟩)
set_option maxHeartbeats 1000000 in
set_option maxRecDepth 100000 in
theorem t_L_setFever (l : Launch) (hl0 : l.stackTraces = false) (D : va_G) (cI cM cL : ClassId) (a : Nat → Nat) (o : Nat) (σ ρ : Mm) (g : Nat → Int64) (p0 p1 : Int32) (hcs : ∀ x, fX2_setFever σ ρ p0 p1 = .inr x → x ∈ [eI, eA]) : hMt l yL_setFever wsL_setFever rmL D cI cM cL a o [.ref (a 34), .int p0, .int p1, .ref o] 0 σ ρ g [eI, eA] (fX2_setFever σ ρ p0 p1) := by
  intro sz
  refine h_head (cc := cL_setFever) (maxL := 5) (ret := some .int) (by decide) rfl (Nat.le_of_ble_eq_true rfl) ?_
  intro p e S m below meth c hx hb hr hml hown hts hlocks htab hXN hXZ hXC hA hsz hC ls hl
  have hF : CallFix p m c cL_setFever 5 S ([.ref (a 34), .int p0, .int p1, .ref o] : List Value).toArray wsL_setFever RL := ⟨hx, hb, hml, hown, hts⟩
  have hl : lv_has ls 5 [(0, .ref (a 34)), (1, .int p0), (2, .int p1), (3, .ref o)] := hl
  refine lv_aload_n hx hb dL_setFever_0 rfl (lv_at hl 3 rfl) ?_
  refine lv_iconst (v := 0) hx hb dL_setFever_1 (by decide) ?_
  refine lv_aload_n hx hb dL_setFever_2 rfl (lv_at hl 0 rfl) ?_
  refine lv_iload_n hx hb dL_setFever_3 rfl (lv_at hl 1 rfl) ?_
  refine lv_iload_n hx hb dL_setFever_4 rfl (lv_at hl 2 rfl) ?_
  refine h_call (n := 2) (As := [.int p0, .int p1]) (rest := [.int 0, .ref o]) hF (c_X2_setFever l hl0 D cI cM a σ ρ p0 p1) gL_setFever_X2_setFever rfl rfl rfl (by decide +kernel) ⟨Nat.le_of_ble_eq_true rfl, Nat.le_of_ble_eq_true rfl⟩ hC hsz hXN hXZ rfl hl.1 rfl (Nat.le_of_ble_eq_true rfl) dL_setFever_5 ⟨Nat.le_of_ble_eq_true rfl, Nat.le_of_ble_eq_true rfl⟩ (fun E ce q9 H locs hE hC hce hcv hcl => ?_) (fun r σ2 ρ2 H locs hE hC => ?_)
  · rcases (show E = eI ∨ E = eA by simpa using hcs E hE) with rfl | rfl
    · refine vx_catch (name := eI) (E := eI) hown [] ⟨0, 10, 13, 20⟩ [⟨0, 10, 17, 13⟩] (htab.trans rfl) (fun z hz => absurd hz List.not_mem_nil) (by decide) (by decide) (hts (.classLink RL 20 eI) (by decide +kernel)) (va_Nw.use rfl hXN.2.2.2.2.2.1) hce hcv hcl ?_
      refine lv_astore (lv' := (4, .ref q9) :: [(0, .ref (a 34)), (1, .int p0), (2, .int p1), (3, .ref o)]) hx hb dL_setFever_13 hl (by decide) rfl ?_
      clear hl; intro ls hl
      refine lv_iconst (v := 1) hx hb dL_setFever_15 (by decide) ?_
      exact h_ret hx hb hr hlocks hC dL_setFever_16 (Or.inr ⟨eI, hE, by decide, rfl⟩)
    · refine vx_catch (name := eA) (E := eA) hown [⟨0, 10, 13, 20⟩] ⟨0, 10, 17, 13⟩ [] (htab.trans rfl) (fun z hz => by
        rcases (show z = ⟨0, 10, 13, 20⟩ by simpa using hz) with rfl
        · exact Or.inr ⟨by decide, eI, hts (.classLink RL 20 eI) (by decide +kernel), hXC.2.2.1⟩) (by decide) (by decide) (hts (.classLink RL 13 eA) (by decide +kernel)) (va_Nw.use rfl hXN.2.2.2.1) hce hcv hcl ?_
      refine lv_astore (lv' := (4, .ref q9) :: [(0, .ref (a 34)), (1, .int p0), (2, .int p1), (3, .ref o)]) hx hb dL_setFever_17 hl (by decide) rfl ?_
      clear hl; intro ls hl
      refine lv_iconst (v := 2) hx hb dL_setFever_19 (by decide) ?_
      exact h_ret hx hb hr hlocks hC dL_setFever_20 (Or.inr ⟨eA, hE, by decide, rfl⟩)
  · refine lv_i2l hx hb dL_setFever_8 rfl ?_
    refine h_put hx hb hC dL_setFever_9 ?_
    clear hC; intro H locs hC
    refine lv_goto (tgt := 21) hx hb dL_setFever_10 (by decide) ?_
    refine lv_iconst (v := 0) hx hb dL_setFever_21 (by decide) ?_
    exact h_ret hx hb hr hlocks hC dL_setFever_22 (Or.inl ⟨r, hE, rfl, (show vp_updL g 0 r.toInt64 0 = r.toInt64 from pk_uLs)⟩)
set_option maxHeartbeats 1000000 in
set_option maxRecDepth 100000 in
theorem t_L_setDues (l : Launch) (hl0 : l.stackTraces = false) (D : va_G) (cI cM cL : ClassId) (a : Nat → Nat) (o : Nat) (σ ρ : Mm) (g : Nat → Int64) (p0 : Int32) (hcs : ∀ x, fX2_setDues σ ρ p0 = .inr x → x ∈ [eA]) : hMt l yL_setDues wsL_setDues rmL D cI cM cL a o [.ref (a 34), .int p0, .ref o] 0 σ ρ g [eA] (fX2_setDues σ ρ p0) := by
  intro sz
  refine h_head (cc := cL_setDues) (maxL := 4) (ret := some .int) (by decide) rfl (Nat.le_of_ble_eq_true rfl) ?_
  intro p e S m below meth c hx hb hr hml hown hts hlocks htab hXN hXZ hXC hA hsz hC ls hl
  have hF : CallFix p m c cL_setDues 4 S ([.ref (a 34), .int p0, .ref o] : List Value).toArray wsL_setDues RL := ⟨hx, hb, hml, hown, hts⟩
  have hl : lv_has ls 4 [(0, .ref (a 34)), (1, .int p0), (2, .ref o)] := hl
  refine lv_aload_n hx hb dL_setDues_0 rfl (lv_at hl 2 rfl) ?_
  refine lv_iconst (v := 0) hx hb dL_setDues_1 (by decide) ?_
  refine lv_aload_n hx hb dL_setDues_2 rfl (lv_at hl 0 rfl) ?_
  refine lv_iload_n hx hb dL_setDues_3 rfl (lv_at hl 1 rfl) ?_
  refine h_call (n := 1) (As := [.int p0]) (rest := [.int 0, .ref o]) hF (c_X2_setDues l hl0 D cI cM a σ ρ p0) gL_setDues_X2_setDues rfl rfl rfl (by decide +kernel) ⟨Nat.le_of_ble_eq_true rfl, Nat.le_of_ble_eq_true rfl⟩ hC hsz hXN hXZ rfl hl.1 rfl (Nat.le_of_ble_eq_true rfl) dL_setDues_4 ⟨Nat.le_of_ble_eq_true rfl, Nat.le_of_ble_eq_true rfl⟩ (fun E ce q9 H locs hE hC hce hcv hcl => ?_) (fun r σ2 ρ2 H locs hE hC => ?_)
  · rcases (show E = eA by simpa using hcs E hE) with rfl
    · refine vx_catch (name := eA) (E := eA) hown [] ⟨0, 9, 12, 13⟩ [] (htab.trans rfl) (fun z hz => absurd hz List.not_mem_nil) (by decide) (by decide) (hts (.classLink RL 13 eA) (by decide +kernel)) (va_Nw.use rfl hXN.2.2.2.1) hce hcv hcl ?_
      refine lv_astore_n (lv' := (3, .ref q9) :: [(0, .ref (a 34)), (1, .int p0), (2, .ref o)]) hx hb dL_setDues_12 rfl hl (by decide) rfl ?_
      clear hl; intro ls hl
      refine lv_iconst (v := 1) hx hb dL_setDues_13 (by decide) ?_
      exact h_ret hx hb hr hlocks hC dL_setDues_14 (Or.inr ⟨eA, hE, by decide, rfl⟩)
  · refine lv_i2l hx hb dL_setDues_7 rfl ?_
    refine h_put hx hb hC dL_setDues_8 ?_
    clear hC; intro H locs hC
    refine lv_goto (tgt := 15) hx hb dL_setDues_9 (by decide) ?_
    refine lv_iconst (v := 0) hx hb dL_setDues_15 (by decide) ?_
    exact h_ret hx hb hr hlocks hC dL_setDues_16 (Or.inl ⟨r, hE, rfl, (show vp_updL g 0 r.toInt64 0 = r.toInt64 from pk_uLs)⟩)
set_option maxHeartbeats 1000000 in
set_option maxRecDepth 100000 in
theorem t_L_buy (l : Launch) (hl0 : l.stackTraces = false) (D : va_G) (cI cM cL : ClassId) (a : Nat → Nat) (o : Nat) (σ ρ : Mm) (g : Nat → Int64) (p0 p1 : Int32) (hcs : ∀ x, fX2_buy σ ρ p0 p1 = .inr x → x ∈ [eI, eA, eS]) : hMt l yL_buy wsL_buy rmL D cI cM cL a o [.ref (a 34), .int p0, .int p1, .ref o] 0 σ ρ g [eI, eA, eS] (fX2_buy σ ρ p0 p1) := by
  intro sz
  refine h_head (cc := cL_buy) (maxL := 5) (ret := some .int) (by decide) rfl (Nat.le_of_ble_eq_true rfl) ?_
  intro p e S m below meth c hx hb hr hml hown hts hlocks htab hXN hXZ hXC hA hsz hC ls hl
  have hF : CallFix p m c cL_buy 5 S ([.ref (a 34), .int p0, .int p1, .ref o] : List Value).toArray wsL_buy RL := ⟨hx, hb, hml, hown, hts⟩
  have hl : lv_has ls 5 [(0, .ref (a 34)), (1, .int p0), (2, .int p1), (3, .ref o)] := hl
  refine lv_aload_n hx hb dL_buy_0 rfl (lv_at hl 3 rfl) ?_
  refine lv_iconst (v := 0) hx hb dL_buy_1 (by decide) ?_
  refine lv_aload_n hx hb dL_buy_2 rfl (lv_at hl 0 rfl) ?_
  refine lv_iload_n hx hb dL_buy_3 rfl (lv_at hl 1 rfl) ?_
  refine lv_iload_n hx hb dL_buy_4 rfl (lv_at hl 2 rfl) ?_
  refine h_call (n := 2) (As := [.int p0, .int p1]) (rest := [.int 0, .ref o]) hF (c_X2_buy l hl0 D cI cM a σ ρ p0 p1) gL_buy_X2_buy rfl rfl rfl (by decide +kernel) ⟨Nat.le_of_ble_eq_true rfl, Nat.le_of_ble_eq_true rfl⟩ hC hsz hXN hXZ rfl hl.1 rfl (Nat.le_of_ble_eq_true rfl) dL_buy_5 ⟨Nat.le_of_ble_eq_true rfl, Nat.le_of_ble_eq_true rfl⟩ (fun E ce q9 H locs hE hC hce hcv hcl => ?_) (fun r σ2 ρ2 H locs hE hC => ?_)
  · rcases (show E = eI ∨ E = eA ∨ E = eS by simpa using hcs E hE) with rfl | rfl | rfl
    · refine vx_catch (name := eI) (E := eI) hown [] ⟨0, 10, 13, 20⟩ [⟨0, 10, 17, 13⟩, ⟨0, 10, 21, 15⟩] (htab.trans rfl) (fun z hz => absurd hz List.not_mem_nil) (by decide) (by decide) (hts (.classLink RL 20 eI) (by decide +kernel)) (va_Nw.use rfl hXN.2.2.2.2.2.1) hce hcv hcl ?_
      refine lv_astore (lv' := (4, .ref q9) :: [(0, .ref (a 34)), (1, .int p0), (2, .int p1), (3, .ref o)]) hx hb dL_buy_13 hl (by decide) rfl ?_
      clear hl; intro ls hl
      refine lv_iconst (v := 1) hx hb dL_buy_15 (by decide) ?_
      exact h_ret hx hb hr hlocks hC dL_buy_16 (Or.inr ⟨eI, hE, by decide, rfl⟩)
    · refine vx_catch (name := eA) (E := eA) hown [⟨0, 10, 13, 20⟩] ⟨0, 10, 17, 13⟩ [⟨0, 10, 21, 15⟩] (htab.trans rfl) (fun z hz => by
        rcases (show z = ⟨0, 10, 13, 20⟩ by simpa using hz) with rfl
        · exact Or.inr ⟨by decide, eI, hts (.classLink RL 20 eI) (by decide +kernel), hXC.2.2.1⟩) (by decide) (by decide) (hts (.classLink RL 13 eA) (by decide +kernel)) (va_Nw.use rfl hXN.2.2.2.1) hce hcv hcl ?_
      refine lv_astore (lv' := (4, .ref q9) :: [(0, .ref (a 34)), (1, .int p0), (2, .int p1), (3, .ref o)]) hx hb dL_buy_17 hl (by decide) rfl ?_
      clear hl; intro ls hl
      refine lv_iconst (v := 2) hx hb dL_buy_19 (by decide) ?_
      exact h_ret hx hb hr hlocks hC dL_buy_20 (Or.inr ⟨eA, hE, by decide, rfl⟩)
    · refine vx_catch (name := eS) (E := eS) hown [⟨0, 10, 13, 20⟩, ⟨0, 10, 17, 13⟩] ⟨0, 10, 21, 15⟩ [] (htab.trans rfl) (fun z hz => by
        rcases (show z = ⟨0, 10, 13, 20⟩ ∨ z = ⟨0, 10, 17, 13⟩ by simpa using hz) with rfl | rfl
        · exact Or.inr ⟨by decide, eI, hts (.classLink RL 20 eI) (by decide +kernel), hXC.2.1⟩
        · exact Or.inr ⟨by decide, eA, hts (.classLink RL 13 eA) (by decide +kernel), hXC.1⟩) (by decide) (by decide) (hts (.classLink RL 15 eS) (by decide +kernel)) (va_Nw.use rfl hXN.2.2.2.2.1) hce hcv hcl ?_
      refine lv_astore (lv' := (4, .ref q9) :: [(0, .ref (a 34)), (1, .int p0), (2, .int p1), (3, .ref o)]) hx hb dL_buy_21 hl (by decide) rfl ?_
      clear hl; intro ls hl
      refine lv_iconst (v := 3) hx hb dL_buy_23 (by decide) ?_
      exact h_ret hx hb hr hlocks hC dL_buy_24 (Or.inr ⟨eS, hE, by decide, rfl⟩)
  · refine lv_i2l hx hb dL_buy_8 rfl ?_
    refine h_put hx hb hC dL_buy_9 ?_
    clear hC; intro H locs hC
    refine lv_goto (tgt := 25) hx hb dL_buy_10 (by decide) ?_
    refine lv_iconst (v := 0) hx hb dL_buy_25 (by decide) ?_
    exact h_ret hx hb hr hlocks hC dL_buy_26 (Or.inl ⟨r, hE, rfl, (show vp_updL g 0 r.toInt64 0 = r.toInt64 from pk_uLs)⟩)
set_option maxHeartbeats 1000000 in
set_option maxRecDepth 100000 in
theorem t_L_sell (l : Launch) (hl0 : l.stackTraces = false) (D : va_G) (cI cM cL : ClassId) (a : Nat → Nat) (o : Nat) (σ ρ : Mm) (g : Nat → Int64) (p0 : Int32) (hcs : ∀ x, fX2_sell σ ρ p0 = .inr x → x ∈ [eA, eS]) : hMt l yL_sell wsL_sell rmL D cI cM cL a o [.ref (a 34), .int p0, .ref o] 0 σ ρ g [eA, eS] (fX2_sell σ ρ p0) := by
  intro sz
  refine h_head (cc := cL_sell) (maxL := 4) (ret := some .int) (by decide) rfl (Nat.le_of_ble_eq_true rfl) ?_
  intro p e S m below meth c hx hb hr hml hown hts hlocks htab hXN hXZ hXC hA hsz hC ls hl
  have hF : CallFix p m c cL_sell 4 S ([.ref (a 34), .int p0, .ref o] : List Value).toArray wsL_sell RL := ⟨hx, hb, hml, hown, hts⟩
  have hl : lv_has ls 4 [(0, .ref (a 34)), (1, .int p0), (2, .ref o)] := hl
  refine lv_aload_n hx hb dL_sell_0 rfl (lv_at hl 2 rfl) ?_
  refine lv_iconst (v := 0) hx hb dL_sell_1 (by decide) ?_
  refine lv_aload_n hx hb dL_sell_2 rfl (lv_at hl 0 rfl) ?_
  refine lv_iload_n hx hb dL_sell_3 rfl (lv_at hl 1 rfl) ?_
  refine h_call (n := 1) (As := [.int p0]) (rest := [.int 0, .ref o]) hF (c_X2_sell l hl0 D cI cM a σ ρ p0) gL_sell_X2_sell rfl rfl rfl (by decide +kernel) ⟨Nat.le_of_ble_eq_true rfl, Nat.le_of_ble_eq_true rfl⟩ hC hsz hXN hXZ rfl hl.1 rfl (Nat.le_of_ble_eq_true rfl) dL_sell_4 ⟨Nat.le_of_ble_eq_true rfl, Nat.le_of_ble_eq_true rfl⟩ (fun E ce q9 H locs hE hC hce hcv hcl => ?_) (fun r σ2 ρ2 H locs hE hC => ?_)
  · rcases (show E = eA ∨ E = eS by simpa using hcs E hE) with rfl | rfl
    · refine vx_catch (name := eA) (E := eA) hown [] ⟨0, 9, 12, 13⟩ [⟨0, 9, 15, 15⟩] (htab.trans rfl) (fun z hz => absurd hz List.not_mem_nil) (by decide) (by decide) (hts (.classLink RL 13 eA) (by decide +kernel)) (va_Nw.use rfl hXN.2.2.2.1) hce hcv hcl ?_
      refine lv_astore_n (lv' := (3, .ref q9) :: [(0, .ref (a 34)), (1, .int p0), (2, .ref o)]) hx hb dL_sell_12 rfl hl (by decide) rfl ?_
      clear hl; intro ls hl
      refine lv_iconst (v := 1) hx hb dL_sell_13 (by decide) ?_
      exact h_ret hx hb hr hlocks hC dL_sell_14 (Or.inr ⟨eA, hE, by decide, rfl⟩)
    · refine vx_catch (name := eS) (E := eS) hown [⟨0, 9, 12, 13⟩] ⟨0, 9, 15, 15⟩ [] (htab.trans rfl) (fun z hz => by
        rcases (show z = ⟨0, 9, 12, 13⟩ by simpa using hz) with rfl
        · exact Or.inr ⟨by decide, eA, hts (.classLink RL 13 eA) (by decide +kernel), hXC.1⟩) (by decide) (by decide) (hts (.classLink RL 15 eS) (by decide +kernel)) (va_Nw.use rfl hXN.2.2.2.2.1) hce hcv hcl ?_
      refine lv_astore_n (lv' := (3, .ref q9) :: [(0, .ref (a 34)), (1, .int p0), (2, .ref o)]) hx hb dL_sell_15 rfl hl (by decide) rfl ?_
      clear hl; intro ls hl
      refine lv_iconst (v := 2) hx hb dL_sell_16 (by decide) ?_
      exact h_ret hx hb hr hlocks hC dL_sell_17 (Or.inr ⟨eS, hE, by decide, rfl⟩)
  · refine lv_i2l hx hb dL_sell_7 rfl ?_
    refine h_put hx hb hC dL_sell_8 ?_
    clear hC; intro H locs hC
    refine lv_goto (tgt := 18) hx hb dL_sell_9 (by decide) ?_
    refine lv_iconst (v := 0) hx hb dL_sell_18 (by decide) ?_
    exact h_ret hx hb hr hlocks hC dL_sell_19 (Or.inl ⟨r, hE, rfl, (show vp_updL g 0 r.toInt64 0 = r.toInt64 from pk_uLs)⟩)
set_option maxHeartbeats 1000000 in
set_option maxRecDepth 100000 in
theorem t_L_pot (l : Launch) (hl0 : l.stackTraces = false) (D : va_G) (cI cM cL : ClassId) (a : Nat → Nat) (o : Nat) (σ ρ : Mm) (g : Nat → Int64) (p0 p1 : Int32) (hU : ∀ i, i < 12 → ρ (i+5) 9 = 0 ∨ ρ (i+5) 9 = 1) (hcs : ∀ x, fX2_pot σ ρ p0 p1 = .inr x → x ∈ [eI]) : hMt l yL_pot wsL_pot rmL D cI cM cL a o [.ref (a 34), .int p0, .int p1, .ref o] 1 σ ρ g [eI] (fX2_pot σ ρ p0 p1) := by
  intro sz
  refine h_head (cc := cL_pot) (maxL := 5) (ret := some .int) (by decide) rfl (Nat.le_of_ble_eq_true rfl) ?_
  intro p e S m below meth c hx hb hr hml hown hts hlocks htab hXN hXZ hXC hA hsz hC ls hl
  have hF : CallFix p m c cL_pot 5 S ([.ref (a 34), .int p0, .int p1, .ref o] : List Value).toArray wsL_pot RL := ⟨hx, hb, hml, hown, hts⟩
  have hl : lv_has ls 5 [(0, .ref (a 34)), (1, .int p0), (2, .int p1), (3, .ref o)] := hl
  refine lv_aload_n hx hb dL_pot_0 rfl (lv_at hl 3 rfl) ?_
  refine lv_iconst (v := 0) hx hb dL_pot_1 (by decide) ?_
  refine lv_aload_n hx hb dL_pot_2 rfl (lv_at hl 0 rfl) ?_
  refine lv_iload_n hx hb dL_pot_3 rfl (lv_at hl 1 rfl) ?_
  refine lv_iload_n hx hb dL_pot_4 rfl (lv_at hl 2 rfl) ?_
  refine h_call (n := 2) (As := [.int p0, .int p1]) (rest := [.int 0, .ref o]) hF (c_X2_pot l hl0 D cI cM a σ ρ p0 p1 hU) gL_pot_X2_pot rfl rfl rfl (by decide +kernel) ⟨Nat.le_of_ble_eq_true rfl, Nat.le_of_ble_eq_true rfl⟩ hC hsz hXN hXZ rfl hl.1 rfl (Nat.le_of_ble_eq_true rfl) dL_pot_5 ⟨Nat.le_of_ble_eq_true rfl, Nat.le_of_ble_eq_true rfl⟩ (fun E ce q9 H locs hE hC hce hcv hcl => ?_) (fun r σ2 ρ2 H locs hE hC => ?_)
  · rcases (show E = eI by simpa using hcs E hE) with rfl
    · refine vx_catch (name := eI) (E := eI) hown [] ⟨0, 10, 13, 20⟩ [] (htab.trans rfl) (fun z hz => absurd hz List.not_mem_nil) (by decide) (by decide) (hts (.classLink RL 20 eI) (by decide +kernel)) (va_Nw.use rfl hXN.2.2.2.2.2.1) hce hcv hcl ?_
      refine lv_astore (lv' := (4, .ref q9) :: [(0, .ref (a 34)), (1, .int p0), (2, .int p1), (3, .ref o)]) hx hb dL_pot_13 hl (by decide) rfl ?_
      clear hl; intro ls hl
      refine lv_iconst (v := 1) hx hb dL_pot_15 (by decide) ?_
      exact h_ret hx hb hr hlocks hC dL_pot_16 (Or.inr ⟨eI, hE, by decide, rfl⟩)
  · refine lv_i2l hx hb dL_pot_8 rfl ?_
    refine h_put hx hb hC dL_pot_9 ?_
    clear hC; intro H locs hC
    refine lv_goto (tgt := 17) hx hb dL_pot_10 (by decide) ?_
    refine lv_iconst (v := 0) hx hb dL_pot_17 (by decide) ?_
    exact h_ret hx hb hr hlocks hC dL_pot_18 (Or.inl ⟨r, hE, rfl, (show vp_updL g 0 r.toInt64 0 = r.toInt64 from pk_uLs)⟩)
set_option maxHeartbeats 1000000 in
set_option maxRecDepth 100000 in
theorem t_L_count (l : Launch) (hl0 : l.stackTraces = false) (D : va_G) (cI cM cL : ClassId) (a : Nat → Nat) (o : Nat) (σ ρ : Mm) (g : Nat → Int64) (p0 : Int32) (hcs : ∀ x, fX2_count σ ρ p0 = .inr x → x ∈ [eI]) : hMt l yL_count wsL_count rmL D cI cM cL a o [.ref (a 34), .int p0, .ref o] 0 σ ρ g [eI] (fX2_count σ ρ p0) := by
  intro sz
  refine h_head (cc := cL_count) (maxL := 4) (ret := some .int) (by decide) rfl (Nat.le_of_ble_eq_true rfl) ?_
  intro p e S m below meth c hx hb hr hml hown hts hlocks htab hXN hXZ hXC hA hsz hC ls hl
  have hF : CallFix p m c cL_count 4 S ([.ref (a 34), .int p0, .ref o] : List Value).toArray wsL_count RL := ⟨hx, hb, hml, hown, hts⟩
  have hl : lv_has ls 4 [(0, .ref (a 34)), (1, .int p0), (2, .ref o)] := hl
  refine lv_aload_n hx hb dL_count_0 rfl (lv_at hl 2 rfl) ?_
  refine lv_iconst (v := 0) hx hb dL_count_1 (by decide) ?_
  refine lv_aload_n hx hb dL_count_2 rfl (lv_at hl 0 rfl) ?_
  refine lv_iload_n hx hb dL_count_3 rfl (lv_at hl 1 rfl) ?_
  refine h_call (n := 1) (As := [.int p0]) (rest := [.int 0, .ref o]) hF (c_X2_count l hl0 D cI cM a σ ρ p0) gL_count_X2_count rfl rfl rfl (by decide +kernel) ⟨Nat.le_of_ble_eq_true rfl, Nat.le_of_ble_eq_true rfl⟩ hC hsz hXN hXZ rfl hl.1 rfl (Nat.le_of_ble_eq_true rfl) dL_count_4 ⟨Nat.le_of_ble_eq_true rfl, Nat.le_of_ble_eq_true rfl⟩ (fun E ce q9 H locs hE hC hce hcv hcl => ?_) (fun r σ2 ρ2 H locs hE hC => ?_)
  · rcases (show E = eI by simpa using hcs E hE) with rfl
    · refine vx_catch (name := eI) (E := eI) hown [] ⟨0, 9, 12, 20⟩ [] (htab.trans rfl) (fun z hz => absurd hz List.not_mem_nil) (by decide) (by decide) (hts (.classLink RL 20 eI) (by decide +kernel)) (va_Nw.use rfl hXN.2.2.2.2.2.1) hce hcv hcl ?_
      refine lv_astore_n (lv' := (3, .ref q9) :: [(0, .ref (a 34)), (1, .int p0), (2, .ref o)]) hx hb dL_count_12 rfl hl (by decide) rfl ?_
      clear hl; intro ls hl
      refine lv_iconst (v := 1) hx hb dL_count_13 (by decide) ?_
      exact h_ret hx hb hr hlocks hC dL_count_14 (Or.inr ⟨eI, hE, by decide, rfl⟩)
  · refine lv_i2l hx hb dL_count_7 rfl ?_
    refine h_put hx hb hC dL_count_8 ?_
    clear hC; intro H locs hC
    refine lv_goto (tgt := 15) hx hb dL_count_9 (by decide) ?_
    refine lv_iconst (v := 0) hx hb dL_count_15 (by decide) ?_
    exact h_ret hx hb hr hlocks hC dL_count_16 (Or.inl ⟨r, hE, rfl, (show vp_updL g 0 r.toInt64 0 = r.toInt64 from pk_uLs)⟩)
set_option maxHeartbeats 1000000 in
set_option maxRecDepth 100000 in
theorem t_L_pass (l : Launch) (hl0 : l.stackTraces = false) (D : va_G) (cI cM cL : ClassId) (a : Nat → Nat) (o : Nat) (σ ρ : Mm) (g : Nat → Int64) (p0 : Int32) (hcs : ∀ x, fX2_pass σ ρ p0 = .inr x → x ∈ [eA]) : hMt l yL_pass wsL_pass rmL D cI cM cL a o [.ref (a 34), .int p0, .ref o] 0 σ ρ g [eA] (fX2_pass σ ρ p0) := by
  intro sz
  refine h_head (cc := cL_pass) (maxL := 4) (ret := some .int) (by decide) rfl (Nat.le_of_ble_eq_true rfl) ?_
  intro p e S m below meth c hx hb hr hml hown hts hlocks htab hXN hXZ hXC hA hsz hC ls hl
  have hF : CallFix p m c cL_pass 4 S ([.ref (a 34), .int p0, .ref o] : List Value).toArray wsL_pass RL := ⟨hx, hb, hml, hown, hts⟩
  have hl : lv_has ls 4 [(0, .ref (a 34)), (1, .int p0), (2, .ref o)] := hl
  refine lv_aload_n hx hb dL_pass_0 rfl (lv_at hl 2 rfl) ?_
  refine lv_iconst (v := 0) hx hb dL_pass_1 (by decide) ?_
  refine lv_aload_n hx hb dL_pass_2 rfl (lv_at hl 0 rfl) ?_
  refine lv_iload_n hx hb dL_pass_3 rfl (lv_at hl 1 rfl) ?_
  refine h_call (n := 1) (As := [.int p0]) (rest := [.int 0, .ref o]) hF (c_X2_pass l hl0 D cI cM a σ ρ p0) gL_pass_X2_pass rfl rfl rfl (by decide +kernel) ⟨Nat.le_of_ble_eq_true rfl, Nat.le_of_ble_eq_true rfl⟩ hC hsz hXN hXZ rfl hl.1 rfl (Nat.le_of_ble_eq_true rfl) dL_pass_4 ⟨Nat.le_of_ble_eq_true rfl, Nat.le_of_ble_eq_true rfl⟩ (fun E ce q9 H locs hE hC hce hcv hcl => ?_) (fun r σ2 ρ2 H locs hE hC => ?_)
  · rcases (show E = eA by simpa using hcs E hE) with rfl
    · refine vx_catch (name := eA) (E := eA) hown [] ⟨0, 9, 12, 13⟩ [] (htab.trans rfl) (fun z hz => absurd hz List.not_mem_nil) (by decide) (by decide) (hts (.classLink RL 13 eA) (by decide +kernel)) (va_Nw.use rfl hXN.2.2.2.1) hce hcv hcl ?_
      refine lv_astore_n (lv' := (3, .ref q9) :: [(0, .ref (a 34)), (1, .int p0), (2, .ref o)]) hx hb dL_pass_12 rfl hl (by decide) rfl ?_
      clear hl; intro ls hl
      refine lv_iconst (v := 1) hx hb dL_pass_13 (by decide) ?_
      exact h_ret hx hb hr hlocks hC dL_pass_14 (Or.inr ⟨eA, hE, by decide, rfl⟩)
  · refine lv_i2l hx hb dL_pass_7 rfl ?_
    refine h_put hx hb hC dL_pass_8 ?_
    clear hC; intro H locs hC
    refine lv_goto (tgt := 15) hx hb dL_pass_9 (by decide) ?_
    refine lv_iconst (v := 0) hx hb dL_pass_15 (by decide) ?_
    exact h_ret hx hb hr hlocks hC dL_pass_16 (Or.inl ⟨r, hE, rfl, (show vp_updL g 0 r.toInt64 0 = r.toInt64 from pk_uLs)⟩)
set_option maxHeartbeats 1000000 in
set_option maxRecDepth 100000 in
theorem t_L_foresee (l : Launch) (hl0 : l.stackTraces = false) (D : va_G) (cI cM cL : ClassId) (a : Nat → Nat) (o : Nat) (σ ρ : Mm) (g : Nat → Int64) (p0 p1 : Int32) (hU : ∀ i, i < 12 → ρ (i+5) 9 = 0 ∨ ρ (i+5) 9 = 1) (hcs : ∀ x, fX2_foresee σ ρ p0 p1 = .inr x → x ∈ [eA, eI]) : hMt l yL_foresee wsL_foresee rmL D cI cM cL a o [.ref (a 34), .int p0, .int p1, .ref o] 1 σ ρ g [eA, eI] (fX2_foresee σ ρ p0 p1) := by
  intro sz
  refine h_head (cc := cL_foresee) (maxL := 5) (ret := some .int) (by decide) rfl (Nat.le_of_ble_eq_true rfl) ?_
  intro p e S m below meth c hx hb hr hml hown hts hlocks htab hXN hXZ hXC hA hsz hC ls hl
  have hF : CallFix p m c cL_foresee 5 S ([.ref (a 34), .int p0, .int p1, .ref o] : List Value).toArray wsL_foresee RL := ⟨hx, hb, hml, hown, hts⟩
  have hl : lv_has ls 5 [(0, .ref (a 34)), (1, .int p0), (2, .int p1), (3, .ref o)] := hl
  refine lv_aload_n hx hb dL_foresee_0 rfl (lv_at hl 3 rfl) ?_
  refine lv_iconst (v := 0) hx hb dL_foresee_1 (by decide) ?_
  refine lv_aload_n hx hb dL_foresee_2 rfl (lv_at hl 0 rfl) ?_
  refine lv_iload_n hx hb dL_foresee_3 rfl (lv_at hl 1 rfl) ?_
  refine lv_iload_n hx hb dL_foresee_4 rfl (lv_at hl 2 rfl) ?_
  refine h_call (n := 2) (As := [.int p0, .int p1]) (rest := [.int 0, .ref o]) hF (c_X2_foresee l hl0 D cI cM a σ ρ p0 p1 hU) gL_foresee_X2_foresee rfl rfl rfl (by decide +kernel) ⟨Nat.le_of_ble_eq_true rfl, Nat.le_of_ble_eq_true rfl⟩ hC hsz hXN hXZ rfl hl.1 rfl (Nat.le_of_ble_eq_true rfl) dL_foresee_5 ⟨Nat.le_of_ble_eq_true rfl, Nat.le_of_ble_eq_true rfl⟩ (fun E ce q9 H locs hE hC hce hcv hcl => ?_) (fun r σ2 ρ2 H locs hE hC => ?_)
  · rcases (show E = eA ∨ E = eI by simpa using hcs E hE) with rfl | rfl
    · refine vx_catch (name := eA) (E := eA) hown [] ⟨0, 10, 13, 13⟩ [⟨0, 10, 17, 20⟩] (htab.trans rfl) (fun z hz => absurd hz List.not_mem_nil) (by decide) (by decide) (hts (.classLink RL 13 eA) (by decide +kernel)) (va_Nw.use rfl hXN.2.2.2.1) hce hcv hcl ?_
      refine lv_astore (lv' := (4, .ref q9) :: [(0, .ref (a 34)), (1, .int p0), (2, .int p1), (3, .ref o)]) hx hb dL_foresee_13 hl (by decide) rfl ?_
      clear hl; intro ls hl
      refine lv_iconst (v := 1) hx hb dL_foresee_15 (by decide) ?_
      exact h_ret hx hb hr hlocks hC dL_foresee_16 (Or.inr ⟨eA, hE, by decide, rfl⟩)
    · refine vx_catch (name := eI) (E := eI) hown [⟨0, 10, 13, 13⟩] ⟨0, 10, 17, 20⟩ [] (htab.trans rfl) (fun z hz => by
        rcases (show z = ⟨0, 10, 13, 13⟩ by simpa using hz) with rfl
        · exact Or.inr ⟨by decide, eA, hts (.classLink RL 13 eA) (by decide +kernel), hXC.2.2.2⟩) (by decide) (by decide) (hts (.classLink RL 20 eI) (by decide +kernel)) (va_Nw.use rfl hXN.2.2.2.2.2.1) hce hcv hcl ?_
      refine lv_astore (lv' := (4, .ref q9) :: [(0, .ref (a 34)), (1, .int p0), (2, .int p1), (3, .ref o)]) hx hb dL_foresee_17 hl (by decide) rfl ?_
      clear hl; intro ls hl
      refine lv_iconst (v := 2) hx hb dL_foresee_19 (by decide) ?_
      exact h_ret hx hb hr hlocks hC dL_foresee_20 (Or.inr ⟨eI, hE, by decide, rfl⟩)
  · refine lv_i2l hx hb dL_foresee_8 rfl ?_
    refine h_put hx hb hC dL_foresee_9 ?_
    clear hC; intro H locs hC
    refine lv_goto (tgt := 21) hx hb dL_foresee_10 (by decide) ?_
    refine lv_iconst (v := 0) hx hb dL_foresee_21 (by decide) ?_
    exact h_ret hx hb hr hlocks hC dL_foresee_22 (Or.inl ⟨r, hE, rfl, (show vp_updL g 0 r.toInt64 0 = r.toInt64 from pk_uLs)⟩)
set_option maxHeartbeats 1000000 in
set_option maxRecDepth 100000 in
theorem t_L_earns (l : Launch) (hl0 : l.stackTraces = false) (D : va_G) (cI cM cL : ClassId) (a : Nat → Nat) (o : Nat) (σ ρ : Mm) (g : Nat → Int64) (p0 : Int32) (hU : ∀ i, i < 12 → ρ (i+5) 9 = 0 ∨ ρ (i+5) 9 = 1) (hcs : ∀ x, fX2_earns σ ρ p0 = .inr x → x ∈ [eI]) : hMt l yL_earns wsL_earns rmL D cI cM cL a o [.ref (a 34), .int p0, .ref o] 1 σ ρ g [eI] (fX2_earns σ ρ p0) := by
  intro sz
  refine h_head (cc := cL_earns) (maxL := 4) (ret := some .int) (by decide) rfl (Nat.le_of_ble_eq_true rfl) ?_
  intro p e S m below meth c hx hb hr hml hown hts hlocks htab hXN hXZ hXC hA hsz hC ls hl
  have hF : CallFix p m c cL_earns 4 S ([.ref (a 34), .int p0, .ref o] : List Value).toArray wsL_earns RL := ⟨hx, hb, hml, hown, hts⟩
  have hl : lv_has ls 4 [(0, .ref (a 34)), (1, .int p0), (2, .ref o)] := hl
  refine lv_aload_n hx hb dL_earns_0 rfl (lv_at hl 2 rfl) ?_
  refine lv_iconst (v := 0) hx hb dL_earns_1 (by decide) ?_
  refine lv_aload_n hx hb dL_earns_2 rfl (lv_at hl 0 rfl) ?_
  refine lv_iload_n hx hb dL_earns_3 rfl (lv_at hl 1 rfl) ?_
  refine h_call (n := 1) (As := [.int p0]) (rest := [.int 0, .ref o]) hF (c_X2_earns l hl0 D cI cM a σ ρ p0 hU) gL_earns_X2_earns rfl rfl rfl (by decide +kernel) ⟨Nat.le_of_ble_eq_true rfl, Nat.le_of_ble_eq_true rfl⟩ hC hsz hXN hXZ rfl hl.1 rfl (Nat.le_of_ble_eq_true rfl) dL_earns_4 ⟨Nat.le_of_ble_eq_true rfl, Nat.le_of_ble_eq_true rfl⟩ (fun E ce q9 H locs hE hC hce hcv hcl => ?_) (fun r σ2 ρ2 H locs hE hC => ?_)
  · rcases (show E = eI by simpa using hcs E hE) with rfl
    · refine vx_catch (name := eI) (E := eI) hown [] ⟨0, 9, 12, 20⟩ [] (htab.trans rfl) (fun z hz => absurd hz List.not_mem_nil) (by decide) (by decide) (hts (.classLink RL 20 eI) (by decide +kernel)) (va_Nw.use rfl hXN.2.2.2.2.2.1) hce hcv hcl ?_
      refine lv_astore_n (lv' := (3, .ref q9) :: [(0, .ref (a 34)), (1, .int p0), (2, .ref o)]) hx hb dL_earns_12 rfl hl (by decide) rfl ?_
      clear hl; intro ls hl
      refine lv_iconst (v := 1) hx hb dL_earns_13 (by decide) ?_
      exact h_ret hx hb hr hlocks hC dL_earns_14 (Or.inr ⟨eI, hE, by decide, rfl⟩)
  · refine lv_i2l hx hb dL_earns_7 rfl ?_
    refine h_put hx hb hC dL_earns_8 ?_
    clear hC; intro H locs hC
    refine lv_goto (tgt := 15) hx hb dL_earns_9 (by decide) ?_
    refine lv_iconst (v := 0) hx hb dL_earns_15 (by decide) ?_
    exact h_ret hx hb hr hlocks hC dL_earns_16 (Or.inl ⟨r, hE, rfl, (show vp_updL g 0 r.toInt64 0 = r.toInt64 from pk_uLs)⟩)
set_option maxHeartbeats 1000000 in
set_option maxRecDepth 100000 in
theorem t_L_dies (l : Launch) (hl0 : l.stackTraces = false) (D : va_G) (cI cM cL : ClassId) (a : Nat → Nat) (o : Nat) (σ ρ : Mm) (g : Nat → Int64) (p0 : Int32) (hU : ∀ i, i < 12 → ρ (i+5) 9 = 0 ∨ ρ (i+5) 9 = 1) (hcs : ∀ x, fX2_dies σ ρ p0 = .inr x → x ∈ [eI]) : hMt l yL_dies wsL_dies rmL D cI cM cL a o [.ref (a 34), .int p0, .ref o] 1 σ ρ g [eI] (fX2_dies σ ρ p0) := by
  intro sz
  refine h_head (cc := cL_dies) (maxL := 4) (ret := some .int) (by decide) rfl (Nat.le_of_ble_eq_true rfl) ?_
  intro p e S m below meth c hx hb hr hml hown hts hlocks htab hXN hXZ hXC hA hsz hC ls hl
  have hF : CallFix p m c cL_dies 4 S ([.ref (a 34), .int p0, .ref o] : List Value).toArray wsL_dies RL := ⟨hx, hb, hml, hown, hts⟩
  have hl : lv_has ls 4 [(0, .ref (a 34)), (1, .int p0), (2, .ref o)] := hl
  refine lv_aload_n hx hb dL_dies_0 rfl (lv_at hl 2 rfl) ?_
  refine lv_iconst (v := 0) hx hb dL_dies_1 (by decide) ?_
  refine lv_aload_n hx hb dL_dies_2 rfl (lv_at hl 0 rfl) ?_
  refine lv_iload_n hx hb dL_dies_3 rfl (lv_at hl 1 rfl) ?_
  refine h_call (n := 1) (As := [.int p0]) (rest := [.int 0, .ref o]) hF (c_X2_dies l hl0 D cI cM a σ ρ p0 hU) gL_dies_X2_dies rfl rfl rfl (by decide +kernel) ⟨Nat.le_of_ble_eq_true rfl, Nat.le_of_ble_eq_true rfl⟩ hC hsz hXN hXZ rfl hl.1 rfl (Nat.le_of_ble_eq_true rfl) dL_dies_4 ⟨Nat.le_of_ble_eq_true rfl, Nat.le_of_ble_eq_true rfl⟩ (fun E ce q9 H locs hE hC hce hcv hcl => ?_) (fun r σ2 ρ2 H locs hE hC => ?_)
  · rcases (show E = eI by simpa using hcs E hE) with rfl
    · refine vx_catch (name := eI) (E := eI) hown [] ⟨0, 9, 12, 20⟩ [] (htab.trans rfl) (fun z hz => absurd hz List.not_mem_nil) (by decide) (by decide) (hts (.classLink RL 20 eI) (by decide +kernel)) (va_Nw.use rfl hXN.2.2.2.2.2.1) hce hcv hcl ?_
      refine lv_astore_n (lv' := (3, .ref q9) :: [(0, .ref (a 34)), (1, .int p0), (2, .ref o)]) hx hb dL_dies_12 rfl hl (by decide) rfl ?_
      clear hl; intro ls hl
      refine lv_iconst (v := 1) hx hb dL_dies_13 (by decide) ?_
      exact h_ret hx hb hr hlocks hC dL_dies_14 (Or.inr ⟨eI, hE, by decide, rfl⟩)
  · refine lv_i2l hx hb dL_dies_7 rfl ?_
    refine h_put hx hb hC dL_dies_8 ?_
    clear hC; intro H locs hC
    refine lv_goto (tgt := 15) hx hb dL_dies_9 (by decide) ?_
    refine lv_iconst (v := 0) hx hb dL_dies_15 (by decide) ?_
    exact h_ret hx hb hr hlocks hC dL_dies_16 (Or.inl ⟨r, hE, rfl, (show vp_updL g 0 r.toInt64 0 = r.toInt64 from pk_uLs)⟩)
set_option maxHeartbeats 1000000 in
set_option maxRecDepth 100000 in
theorem t_L_advise (l : Launch) (hl0 : l.stackTraces = false) (D : va_G) (cI cM cL : ClassId) (a : Nat → Nat) (o : Nat) (σ ρ : Mm) (g : Nat → Int64) (p0 : Int32) (hU : ∀ i, i < 12 → ρ (i+5) 9 = 0 ∨ ρ (i+5) 9 = 1) (hcs : ∀ x, fX2_advise σ ρ p0 = .inr x → x ∈ [eI, eS]) : hMt l yL_advise wsL_advise rmL D cI cM cL a o [.ref (a 34), .int p0, .ref o] 1 σ ρ g [eI, eS] (fX2_advise σ ρ p0) := by
  intro sz
  refine h_head (cc := cL_advise) (maxL := 4) (ret := some .int) (by decide) rfl (Nat.le_of_ble_eq_true rfl) ?_
  intro p e S m below meth c hx hb hr hml hown hts hlocks htab hXN hXZ hXC hA hsz hC ls hl
  have hF : CallFix p m c cL_advise 4 S ([.ref (a 34), .int p0, .ref o] : List Value).toArray wsL_advise RL := ⟨hx, hb, hml, hown, hts⟩
  have hl : lv_has ls 4 [(0, .ref (a 34)), (1, .int p0), (2, .ref o)] := hl
  refine lv_aload_n hx hb dL_advise_0 rfl (lv_at hl 2 rfl) ?_
  refine lv_iconst (v := 0) hx hb dL_advise_1 (by decide) ?_
  refine lv_aload_n hx hb dL_advise_2 rfl (lv_at hl 0 rfl) ?_
  refine lv_iload_n hx hb dL_advise_3 rfl (lv_at hl 1 rfl) ?_
  refine h_call (n := 1) (As := [.int p0]) (rest := [.int 0, .ref o]) hF (c_X2_advise l hl0 D cI cM a σ ρ p0 hU) gL_advise_X2_advise rfl rfl rfl (by decide +kernel) ⟨Nat.le_of_ble_eq_true rfl, Nat.le_of_ble_eq_true rfl⟩ hC hsz hXN hXZ rfl hl.1 rfl (Nat.le_of_ble_eq_true rfl) dL_advise_4 ⟨Nat.le_of_ble_eq_true rfl, Nat.le_of_ble_eq_true rfl⟩ (fun E ce q9 H locs hE hC hce hcv hcl => ?_) (fun r σ2 ρ2 H locs hE hC => ?_)
  · rcases (show E = eI ∨ E = eS by simpa using hcs E hE) with rfl | rfl
    · refine vx_catch (name := eI) (E := eI) hown [] ⟨0, 9, 12, 20⟩ [⟨0, 9, 15, 15⟩] (htab.trans rfl) (fun z hz => absurd hz List.not_mem_nil) (by decide) (by decide) (hts (.classLink RL 20 eI) (by decide +kernel)) (va_Nw.use rfl hXN.2.2.2.2.2.1) hce hcv hcl ?_
      refine lv_astore_n (lv' := (3, .ref q9) :: [(0, .ref (a 34)), (1, .int p0), (2, .ref o)]) hx hb dL_advise_12 rfl hl (by decide) rfl ?_
      clear hl; intro ls hl
      refine lv_iconst (v := 1) hx hb dL_advise_13 (by decide) ?_
      exact h_ret hx hb hr hlocks hC dL_advise_14 (Or.inr ⟨eI, hE, by decide, rfl⟩)
    · refine vx_catch (name := eS) (E := eS) hown [⟨0, 9, 12, 20⟩] ⟨0, 9, 15, 15⟩ [] (htab.trans rfl) (fun z hz => by
        rcases (show z = ⟨0, 9, 12, 20⟩ by simpa using hz) with rfl
        · exact Or.inr ⟨by decide, eI, hts (.classLink RL 20 eI) (by decide +kernel), hXC.2.1⟩) (by decide) (by decide) (hts (.classLink RL 15 eS) (by decide +kernel)) (va_Nw.use rfl hXN.2.2.2.2.1) hce hcv hcl ?_
      refine lv_astore_n (lv' := (3, .ref q9) :: [(0, .ref (a 34)), (1, .int p0), (2, .ref o)]) hx hb dL_advise_15 rfl hl (by decide) rfl ?_
      clear hl; intro ls hl
      refine lv_iconst (v := 2) hx hb dL_advise_16 (by decide) ?_
      exact h_ret hx hb hr hlocks hC dL_advise_17 (Or.inr ⟨eS, hE, by decide, rfl⟩)
  · refine lv_i2l hx hb dL_advise_7 rfl ?_
    refine h_put hx hb hC dL_advise_8 ?_
    clear hC; intro H locs hC
    refine lv_goto (tgt := 18) hx hb dL_advise_9 (by decide) ?_
    refine lv_iconst (v := 0) hx hb dL_advise_18 (by decide) ?_
    exact h_ret hx hb hr hlocks hC dL_advise_19 (Or.inl ⟨r, hE, rfl, (show vp_updL g 0 r.toInt64 0 = r.toInt64 from pk_uLs)⟩)
