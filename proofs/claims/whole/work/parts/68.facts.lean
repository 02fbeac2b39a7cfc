/-! what holds at the law's entry -/
theorem st_x {s : State} {b : Nat} {cur : ClassId} (hcur : s.vm.findClass RX2 = some cur) {k : Nat} {tx : String} (h : (Cond.stringRef RX2 k tx).before #[Value.ref b] s = true) : xS k tx s := by
  obtain ⟨_, _, _, a, _, _, _, _, _, hev⟩ := Cond.stringRef_spec hcur h
  exact ⟨a, vk_R.of h hev⟩
set_option maxRecDepth 100000 in
theorem st_xN {s : State} {b : Nat} {cur : ClassId} (hts : ∀ w ∈ lw_tbl, w.before #[Value.ref b] s = true) (hcur : s.vm.findClass RX2 = some cur) : xN s :=
  ⟨va_Nw.of (A := #[Value.ref b]) rfl (hts _ (by decide +kernel)), va_Nw.of (A := #[Value.ref b]) rfl (hts _ (by decide +kernel)), va_Nw.of (A := #[Value.ref b]) rfl (hts _ (by decide +kernel)), va_Nw.of (A := #[Value.ref b]) rfl (hts _ (by decide +kernel)), va_Nw.of (A := #[Value.ref b]) rfl (hts _ (by decide +kernel)), va_Nw.of (A := #[Value.ref b]) rfl (hts _ (by decide +kernel)),
   st_x (b := b) hcur (hts _ (by decide +kernel)), st_x (b := b) hcur (hts _ (by decide +kernel)), st_x (b := b) hcur (hts _ (by decide +kernel)), st_x (b := b) hcur (hts _ (by decide +kernel)), st_x (b := b) hcur (hts _ (by decide +kernel)), st_x (b := b) hcur (hts _ (by decide +kernel)), st_x (b := b) hcur (hts _ (by decide +kernel)), st_x (b := b) hcur (hts _ (by decide +kernel)), st_x (b := b) hcur (hts _ (by decide +kernel)), st_x (b := b) hcur (hts _ (by decide +kernel)), st_x (b := b) hcur (hts _ (by decide +kernel)), st_x (b := b) hcur (hts _ (by decide +kernel)), st_x (b := b) hcur (hts _ (by decide +kernel)), st_x (b := b) hcur (hts _ (by decide +kernel)), st_x (b := b) hcur (hts _ (by decide +kernel)), st_x (b := b) hcur (hts _ (by decide +kernel)), st_x (b := b) hcur (hts _ (by decide +kernel)), st_x (b := b) hcur (hts _ (by decide +kernel)), st_x (b := b) hcur (hts _ (by decide +kernel))⟩
set_option maxRecDepth 100000 in
theorem st_rNw {s : State} {b : Nat} (hts : ∀ w ∈ lw_tbl, w.before #[Value.ref b] s = true) : rNw s :=
  ⟨va_Nw.of (A := #[Value.ref b]) rfl (hts _ (by decide +kernel)), va_Nw.of (A := #[Value.ref b]) rfl (hts _ (by decide +kernel)), va_Nw.of (A := #[Value.ref b]) rfl (hts _ (by decide +kernel)), va_Nw.of (A := #[Value.ref b]) rfl (hts _ (by decide +kernel)), va_Nw.of (A := #[Value.ref b]) rfl (hts _ (by decide +kernel)), va_Nw.of (A := #[Value.ref b]) rfl (hts _ (by decide +kernel)), va_Nw.of (A := #[Value.ref b]) rfl (hts _ (by decide +kernel)), va_Nw.of (A := #[Value.ref b]) rfl (hts _ (by decide +kernel)), va_Nw.of (A := #[Value.ref b]) rfl (hts _ (by decide +kernel)), va_Nw.of (A := #[Value.ref b]) rfl (hts _ (by decide +kernel)), va_Nw.of (A := #[Value.ref b]) rfl (hts _ (by decide +kernel)), va_Nw.of (A := #[Value.ref b]) rfl (hts _ (by decide +kernel)), va_Nw.of (A := #[Value.ref b]) rfl (hts _ (by decide +kernel)), va_Nw.of (A := #[Value.ref b]) rfl (hts _ (by decide +kernel))⟩
set_option maxRecDepth 100000 in
theorem st_xC {s : State} {b : Nat} (hgv : (Jvm.Cond.and given_1 narrow_1).before #[Value.ref b] s = true) : xC s := by
  have hs := flat_of_before _ hgv
  exact ⟨va_Nc.of (args := #[Value.ref b]) (hs _ (by decide +kernel)), va_Nc.of (args := #[Value.ref b]) (hs _ (by decide +kernel)), va_Nc.of (args := #[Value.ref b]) (hs _ (by decide +kernel)), va_Nc.of (args := #[Value.ref b]) (hs _ (by decide +kernel))⟩
set_option maxRecDepth 100000 in
theorem st_xZ {s : State} {b : Nat} (hts : ∀ w ∈ lw_tbl, w.before #[Value.ref b] s = true) (hgv : (Jvm.Cond.and given_1 narrow_1).before #[Value.ref b] s = true) : xZ (fun q : Nat => s.heap.size ≤ q) s s.heap := by
  have hs := flat_of_before _ hgv
  exact ⟨vx_Zqof (args := #[Value.ref b]) (hts _ (by decide +kernel)) (hts _ (by decide +kernel)) (hs _ (by decide +kernel)) (fun q h => Nat.not_le.mpr h), vx_Zqof (args := #[Value.ref b]) (hts _ (by decide +kernel)) (hts _ (by decide +kernel)) (hs _ (by decide +kernel)) (fun q h => Nat.not_le.mpr h)⟩
set_option maxRecDepth 100000 in
theorem st_i0 : ∀ w ∈ u_ws RX0 TX0 10, w ∈ wsL_law := by decide +kernel
set_option maxRecDepth 100000 in
theorem st_i1 : ∀ w ∈ u_ws RX1 TX1 14, w ∈ wsL_law := by decide +kernel
set_option maxRecDepth 100000 in
theorem st_i2 : ∀ w ∈ u_ws RX2 TX2 2, w ∈ wsL_law := by decide +kernel
set_option maxRecDepth 100000 in
theorem st_i3 : ∀ w ∈ u_ws RX3 TX3 12, w ∈ wsL_law := by decide +kernel
set_option maxRecDepth 100000 in
theorem st_i4 : ∀ w ∈ u_ws RX4 TX4 5, w ∈ wsL_law := by decide +kernel
set_option maxRecDepth 100000 in
theorem st_K {s : State} {b : Nat} (hts : ∀ w ∈ wsL_law, w.before #[Value.ref b] s = true) : ∃ D : va_G, va_K D vwCl [] s := by
  obtain ⟨c0, iS0, hKn0⟩ := u_known (C := RX0) (T := TX0) (N := 10) (n := 10) hts st_i0 (hts (.instantiable RX0 10) (by decide +kernel))
  obtain ⟨c1, iS1, hKn1⟩ := u_known (C := RX1) (T := TX1) (N := 14) (n := 14) hts st_i1 (hts (.instantiable RX1 14) (by decide +kernel))
  obtain ⟨c2, iS2, hKn2⟩ := u_known (C := RX2) (T := TX2) (N := 2) (n := 2) hts st_i2 (hts (.instantiable RX2 2) (by decide +kernel))
  obtain ⟨c3, iS3, hKn3⟩ := u_known (C := RX3) (T := TX3) (N := 12) (n := 12) hts st_i3 (hts (.instantiable RX3 12) (by decide +kernel))
  obtain ⟨c4, iS4, hKn4⟩ := u_known (C := RX4) (T := TX4) (N := 5) (n := 5) hts st_i4 (hts (.instantiable RX4 5) (by decide +kernel))
  refine ⟨(fun k => match k with | 0 => c0 | 1 => c1 | 2 => c2 | 3 => c3 | _ => c4, fun k => match k with | 0 => iS0 | 1 => iS1 | 2 => iS2 | 3 => iS3 | _ => iS4), fun k q hq => ?_, fun k q h => by simp at h⟩
  match k, hq with
  | 0, hq => cases hq; exact hKn0
  | 1, hq => cases hq; exact hKn1
  | 2, hq => cases hq; exact hKn2
  | 3, hq => cases hq; exact hKn3
  | 4, hq => cases hq; exact hKn4
  | k + 5, hq => simp [vwCl] at hq
