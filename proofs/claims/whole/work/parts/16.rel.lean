/-! the relation of class and reference between two calls -/
def zlim (u : ZC) (r : ZR) : Prop := (1 ≤ cI u 4 0 ∧ cI u 4 0 ≤ 12 ∧ rI r 0 = cI u 4 0) ∧ (0 ≤ cI u 5 0 ∧ cI u 5 0 ≤ 160 ∧ rI r 1 = cI u 5 0) ∧ (8 ≤ rI r 2 ∧ rI r 2 ≤ 96) ∧ cN u 1 = 96 ∧ cN u 2 = 0 ∧ ∀ k : Nat, k < 5 → (cN u (3 + 4 * k) : Int) = rI r 2 ∧ (cN u (4 + 4 * k) : Int) = rI r 2 ∧ (cN u (5 + 4 * k) : Int) = rI r 2 ∧ (cN u (6 + 4 * k) : Int) = cI u 5 0
def zRel (u : ZC) (r : ZR) : Prop := zln u r ∧ zlim u r ∧ (∃ c h : Nat, zTree u r c h ∧ (c : Int) ≤ cI u 4 0) ∧ zout u r ∧ cI u 7 0 = zsum r 0 13 ∧ cI u 7 0 ≤ cI u 5 0 ∧ rI r 45 = cI u 8 0 ∧ (0 ≤ cI u 8 0 ∧ cI u 8 0 ≤ 127) ∧ rI r 48 = cI u 9 0
theorem zsum_keep {r w : ZR} (h : zkR r w) : ∀ (j k : Nat), zsum w k j = zsum r k j := by
  intro j
  induction j with
  | zero => intro k; rfl
  | succ j ih =>
    intro k
    simp only [zsum, ih, h.2.2.1 3 k (by decide), h.2.2.1 7 k (by decide)]
theorem zRel_keep {u w : ZC} {r s : ZR} (a : zkC u w) (b : zkR r s) (hl : zln w s) (H : zRel u r) : zRel w s := by
  obtain ⟨a1, a2, a3, a4, a5, a6⟩ := a
  obtain ⟨b1, b2, b3, b4⟩ := b
  obtain ⟨-, h2, ⟨c, h, h3, h3b⟩, h4, h5, h6, h7, h8, h9⟩ := H
  have i4 := a1 4 0 (by omega)
  have i5 := a1 5 0 (by omega)
  have i6 := a1 6 0 (by omega)
  have i7 := a1 7 0 (by omega)
  have i8 := a1 8 0 (by omega)
  have i9 := a1 9 0 (by omega)
  have i3 := a1 0 3 (by omega)
  have iT : ∀ n : Nat, cI w 0 (n + 23) = cI u 0 (n + 23) := fun n => a1 0 (n + 23) (by omega)
  have aT : ∀ n i : Nat, cA w 0 (n + 23) i = cA u 0 (n + 23) i := fun n i => a4 0 (n + 23) i (by omega)
  have a3' : ∀ i : Nat, cA w 0 3 i = cA u 0 3 i := fun i => a4 0 3 i (by omega)
  refine ⟨hl, ?_, ⟨c, h, ?_, by rw [i4]; exact h3b⟩, ?_, ?_, by rw [i7, i5]; exact h6, by rw [b1 45 (by decide), i8]; exact h7, by rw [i8]; exact h8, by rw [b1 48 (by decide), i9]; exact h9⟩
  · simp only [zlim, i4, i5, a5, b1 0 (by decide), b1 1 (by decide), b1 2 (by decide)]
    exact h2
  · simp only [zTree, zNode, i5, i6, iT, aT, a2, a3, a5, a6, b1 9 (by decide), b3 3 _ (by decide), b3 4 _ (by decide), b3 5 _ (by decide), b3 7 _ (by decide), b3 8 _ (by decide), b4]
    exact h3
  · simp only [zout, i3, a3', a5, b1 46 (by decide), b3 47 _ (by decide)]
    exact h4
  · rw [i7, zsum_keep ⟨b1, b2, b3, b4⟩]
    exact h5
theorem wipe_alike (F : Nat) (u : ZC) (r : ZR) (H : zln u r) : ∃ (u2 : ZC) (r2 : ZR), cShell_wipe F u = some u2 ∧ r_wipe F r = some r2 ∧ zln u2 r2 ∧ zkC u u2 ∧ zkR r r2 := by
  refine ⟨sI (sI u 0 0 0) 1 0 0, tI r 10 0, ?_, rfl, ⟨⟨Int.le_refl _, show (0 : Int) ≤ 64 by decide⟩, rfl, H.2.2.1, fun i hi => ?_⟩, ⟨fun f o h => ?_, fun _ _ => rfl, fun _ _ => rfl, fun _ _ _ _ => rfl, rfl, rfl⟩, zkR_I r 0⟩
  · show Option.bind (if zlT u 0 then some (sI (sI u 0 0 0) 1 0 0) else none) _ = _
    rw [if_pos (show zlT u 0 from Or.inl (by decide))]
    rfl
  · have hi : (i : Int) < 0 := hi
    omega
  · show (if f = 1 ∧ o = 0 then 0 else if f = 0 ∧ o = 0 then 0 else cI u f o) = cI u f o
    rw [if_neg (by omega), if_neg (by omega)]
/-- the steps of the calls that need no running -/
theorem step_type (F : Nat) (hF : 20 ≤ F) (u : ZC) (r : ZR) (v : Int64) (H : zRel u r) : ∃ (a : Int) (u2 : ZC) (r2 : ZR), cShell_type F u v = some (a, u2) ∧ r_type F r v = some (a, r2) ∧ cL u2 = cL u ∧ zRel u2 r2 := by
  obtain ⟨a, u2, r2, h1, h2, h3, h4, h5⟩ := type_alike F (by omega) u r v H.1
  exact ⟨a, u2, r2, h1, h2, h4.2.2.2.2.2, zRel_keep h4 h5 h3 H⟩
theorem step_wipe (F : Nat) (u : ZC) (r : ZR) (H : zRel u r) : ∃ (u2 : ZC) (r2 : ZR), cShell_wipe F u = some u2 ∧ r_wipe F r = some r2 ∧ cL u2 = cL u ∧ zRel u2 r2 := by
  obtain ⟨u2, r2, h1, h2, h3, h4, h5⟩ := wipe_alike F u r H.1
  exact ⟨u2, r2, h1, h2, h4.2.2.2.2.2, zRel_keep h4 h5 h3 H⟩
theorem step_typed (F : Nat) (u : ZC) (r : ZR) (H : zRel u r) : ∃ a : Int, cShell_typed F u = some a ∧ r_typed F r = some a ∧ zRel u r := ⟨cI u 0 0, rfl, congrArg some H.1.2.1, H⟩
theorem step_status (F : Nat) (u : ZC) (r : ZR) (H : zRel u r) : ∃ a : Int, cShell_status F u = some a ∧ r_status F r = some a ∧ zRel u r := ⟨cI u 8 0, rfl, congrArg some H.2.2.2.2.2.2.1, H⟩
theorem step_ran (F : Nat) (u : ZC) (r : ZR) (H : zRel u r) : ∃ a : Int, cShell_ran F u = some a ∧ r_ran F r = some a ∧ zRel u r := ⟨cI u 9 0, rfl, congrArg some H.2.2.2.2.2.2.2.2, H⟩
theorem step_length (F : Nat) (u : ZC) (r : ZR) (H : zRel u r) : ∃ a : Int, cShell_length F u = some a ∧ r_length F r = some a ∧ zRel u r := by
  obtain ⟨a, h1, h2⟩ := length_alike F H.2.2.2.1
  exact ⟨a, h1, h2, H⟩
theorem step_out (F : Nat) (hF : 20 ≤ F) (u : ZC) (r : ZR) (v : Int) (hv : -2147483648 ≤ v) (hv2 : v < 2147483648) (H : zRel u r) : ∃ a : Int64, cShell_out F u v = some a ∧ r_out F r v = some a ∧ zRel u r := by
  obtain ⟨a, h1, h2⟩ := out_alike F (by omega) H.2.2.2.1 v hv hv2
  exact ⟨a, h1, h2, H⟩
theorem step_nodes (F : Nat) (hF : 20 ≤ F) (u : ZC) (r : ZR) (H : zRel u r) : ∃ a : Int, cShell_nodes F u = some a ∧ r_nodes F r = some a ∧ zRel u r := by
  obtain ⟨c, h, h3, -⟩ := H.2.2.1
  obtain ⟨a, h1, h2⟩ := nodes_alike F (by omega) h3
  exact ⟨a, h1, h2, H⟩
theorem step_chars (F : Nat) (hF : 20 ≤ F) (u : ZC) (r : ZR) (H : zRel u r) : ∃ a : Int, cShell_chars F u = some a ∧ r_chars F r = some a ∧ zRel u r := ⟨cI u 7 0, rfl, (chars_is F (by omega) r).trans (congrArg some H.2.2.2.2.1.symm), H⟩
theorem step_depth (F : Nat) (hF : 20 ≤ F) (u : ZC) (r : ZR) (H : zRel u r) : ∃ a : Int, cShell_depth F u = some a ∧ r_depth F r = some a ∧ zRel u r := by
  obtain ⟨c, h, h3, -⟩ := H.2.2.1
  obtain ⟨a, h1, h2⟩ := depth_alike F (by omega) h3
  exact ⟨a, h1, h2, H⟩
theorem step_cap {u : ZC} {r : ZR} (H : zRel u r) : (cL u).length ≤ 36 := by
  obtain ⟨c, h, h3, -⟩ := H.2.2.1
  have h1 := h3.1
  have h2 := h3.2.2.2.2.2.2.2.2.2.2.1
  omega
