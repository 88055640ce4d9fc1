/-! a group -/
/-- what is said of the list at level k that begins at p -/
def zLst (F m n : Nat) (K L A B : Nat → Int) (k : Nat) (rec : ZC → Int → Int → Int → Nat → Option (Int × ZC)) : Prop :=
  ∀ (u : ZC) (r : ZR) (c h p inp nn t : Nat), zRn u r m n K L A B c h k → rI r 22 = (p : Int) → p < m → zIp inp (rA r 23 k) → zA K m p 0 k = true → (p = 0 ∨ ¬ (7 ≤ K (p - 1) ∧ K (p - 1) ≤ 9)) → nn + t = F → t ≤ p →
  ∃ (b : Int) (c2 : Nat) (u2 : ZC) (r2 : ZR), cRunner_runList_25 F rec F u ((zF qC K m p 0 : Nat) : Int) (k : Int) inp 0 (p : Int) = some (b, u2) ∧ c ≤ c2 ∧ (∀ y, y ≤ c → cP u2 6 y = cP u 6 y) ∧ zLo k u u2 ∧ zLk k r r2 ∧
  ((b = 0 ∧ r_execute_6 F nn (zSP r K m k p) (t : Int) = some (0, r2) ∧ zFl u2 r2 m n K L A B k c) ∨
   (b = 1 ∧ ∃ (h2 n2 N2 t2 : Nat) (v2 : Int), r_execute_6 F nn (zSP r K m k p) (t : Int) = r_execute_41 F (r_execute_6 F n2) N2 r2 (t2 : Int) v2 ∧ zRn u2 r2 m n K L A B c2 h2 k ∧ rI r2 22 = ((zF qC K m p 0 : Nat) : Int) ∧ (n2 + t2 + 1 = F ∧ t2 < zF qC K m p 0 ∧ k + 1 ≤ N2) ∧ (0 ≤ v2 ∧ v2 ≤ 127) ∧ (cI u2 8 0 = 0 ∨ cI u2 8 0 = 1 ∨ cI u2 8 0 = 2 ∨ cI u2 8 0 = 127)))
theorem end138_bl (F : Nat) : ∀ (n : Nat) (r : ZR) (st k : Int) (p : Int) (s : ZR), r_endCommand_138 F n r st k = some (p, s) → p = 1 := by
  intro n
  induction n with
  | zero => intro r st k p s h; cases h
  | succ n ih =>
    intro r st k p s h
    rw [r_endCommand_138] at h
    by_cases h1 : zI (rI r 35) ≤ zI k
    · rw [if_pos h1] at h
      obtain ⟨-, h⟩ := zg h
      obtain ⟨x, -, h⟩ := ze1 h
      obtain ⟨-, h⟩ := zg h
      obtain ⟨y, -, h⟩ := ze1 h
      obtain ⟨z, -, h⟩ := ze1 h
      exact ((Prod.mk.inj (Option.some.inj h)).1).symm
    · rw [if_neg h1] at h
      obtain ⟨-, h⟩ := zg h
      obtain ⟨-, h⟩ := zg h
      obtain ⟨-, h⟩ := zg h
      obtain ⟨x, -, h⟩ := ze1 h
      exact ih _ _ _ _ _ h
theorem end64_bl (F : Nat) (r : ZR) (st : Int) (p : Int) (s : ZR) (h : r_endCommand_64 F r st = some (p, s)) : p = 0 ∨ p = 1 := by
  unfold r_endCommand_64 at h
  obtain ⟨x, -, h⟩ := ze1 h
  by_cases h1 : zI x = zI 4
  · rw [if_neg (not_not_intro h1)] at h
    obtain ⟨y, -, h⟩ := ze1 h
    obtain ⟨-, h⟩ := zg h
    obtain ⟨z, -, h⟩ := ze1 h
    exact Or.inr ((Prod.mk.inj (Option.some.inj h)).1).symm
  · rw [if_pos h1] at h
    obtain ⟨-, h⟩ := zg h
    by_cases h2 : zI (rA r 31 (rI r 21).toNat + rI r 35) ≤ zI (rI r 2)
    · rw [if_pos h2] at h
      exact Or.inr (end138_bl F F r st 0 p s h)
    · rw [if_neg h2] at h
      exact Or.inl ((Prod.mk.inj (Option.some.inj h)).1).symm
theorem endc_bl (F : Nat) (r : ZR) (st g : Int) (p : Int) (s : ZR) (h : r_endCommand F r st g = some (p, s)) : zbl p := by
  unfold r_endCommand at h
  obtain ⟨x, -, h⟩ := ze1 h
  obtain ⟨-, h⟩ := zg h
  by_cases h1 : zI (rA x 26 (rI x 21).toNat) < 0
  · rw [if_pos h1] at h
    exact end64_bl F _ _ _ _ h
  · rw [if_neg h1] at h
    obtain ⟨y, z, -, h⟩ := ze2 h
    by_cases h2 : zI y = 0
    · rw [if_neg (not_not_intro h2)] at h
      exact Or.inl ((Prod.mk.inj (Option.some.inj h)).1).symm
    · rw [if_pos h2] at h
      exact end64_bl F _ _ _ _ h
theorem zb2_bl {α : Type} (x : Option (Int × ZR)) (hx : ∀ p s, x = some (p, s) → zbl p) (f : Int → ZR → Option α) : zb2 (zb2 x fun (p2 : Int) (u3 : ZR) => if zbl p2 then some (p2, u3) else none) f = zb2 x f := by
  cases x with
  | none => rfl
  | some y =>
    obtain ⟨p, s⟩ := y
    simp only [zb2_some]
    rw [if_pos (hx p s rfl)]
    rfl
/-- the reference looks for redirections: nothing inside the group -/
theorem scan89 (F : Nat) {r : ZR} {m : Nat} {K : Nat → Int} (hm64 : m ≤ 64) (hK : ∀ j, j < m → (0 ≤ K j ∧ K j ≤ 10) ∧ rA r 13 j = zrk (K j)) (e : Nat) (he : e ≤ m) (g : Int) : ∀ (f i : Nat) (x : Int) (n : Nat), m - i = f → 0 ≤ x ∧ x ≤ (i : Int) + 1 → zF qC K m i x < e → i ≤ zF qC K m i x → r_startCommand_89 F (n + (zF qC K m i x + 1 - i)) r g (e : Int) (x + 1) (i : Int) = r_startCommand_89 F n r g (e : Int) 0 ((zF qC K m i x + 1 : Nat) : Int) := by
  intro f
  induction f with
  | zero =>
    intro i x n hf hx h1 h2
    rw [zF_end (by omega)] at h1
    omega
  | succ f ih =>
    intro i x n hf hx h1 h2
    obtain ⟨hk, hr⟩ := hK i (by omega)
    have hq := zrk_eq hk
    have hzr := hq.2.2.2.1
    have hstep : ∀ N, r_startCommand_89 F (N + 1) r g (e : Int) (x + 1) (i : Int) = r_startCommand_89 F N r g (e : Int) (znd (K i) (x + 1)) ((i : Int) + 1) := by
      intro N
      rw [r_startCommand_89, if_neg (by rw [zI_le (by omega) (by omega) (by omega) (by omega)]; omega), if_pos (show zix (i : Int) 64 from ⟨by omega, by omega, by omega⟩), Int.toNat_natCast, hr]
      have hx8 : (if ¬ zI (zrk (K i)) = zI 8 then (if ¬ zI (zrk (K i)) = zI 9 then some (x + 1) else some (x + 1 - 1)) else some (x + 1 + 1)) = some (znd (K i) (x + 1)) := by
        unfold znd
        by_cases k5 : K i = 5
        · rw [if_neg (not_not_intro (by rw [hq.1.2 k5])), if_pos k5]
        · rw [if_pos (by rw [zI_eq (by omega) (by omega) (by omega) (by omega)]; exact fun hh => k5 (hq.1.1 hh)), if_neg k5]
          by_cases k6 : K i = 6
          · rw [if_neg (not_not_intro (by rw [hq.2.1.2 k6])), if_pos k6]
          · rw [if_pos (by rw [zI_eq (by omega) (by omega) (by omega) (by omega)]; exact fun hh => k6 (hq.2.1.1 hh)), if_neg k6]
      rw [hx8]
      simp only [Option.bind_some]
      have hb : (if ¬ zI (znd (K i) (x + 1)) = 0 then some true else Option.bind (r_redirects F r (zrk (K i))) fun (p9 : Int) => if zI p9 = 0 then some true else some false) = some true := by
        by_cases h0 : znd (K i) (x + 1) = 0
        · rw [if_neg (not_not_intro (by rw [h0]; decide)), rredir hk]
          have k6 : K i = 6 := by
            unfold znd at h0
            by_cases k5 : K i = 5
            · rw [if_pos k5] at h0; omega
            · rw [if_neg k5] at h0
              by_cases k6 : K i = 6
              · exact k6
              · rw [if_neg k6] at h0; omega
          rw [decide_eq_false (by omega)]
          rfl
        · have hb : -1 ≤ znd (K i) (x + 1) ∧ znd (K i) (x + 1) ≤ x + 2 := by
            unfold znd
            split
            · omega
            · split <;> omega
          rw [if_pos (by rw [zI_eq0 (by omega) (by omega)]; exact h0)]
      rw [hb]
      simp only [Option.bind_some, if_true]
    by_cases hc : x = 0 ∧ qC (K i) = true
    · have k6 : K i = 6 := of_decide_eq_true hc.2
      rw [zF_hit (by omega) hc.1 hc.2, show n + (i + 1 - i) = n + 1 by omega, hstep n, k6, hc.1]
      rfl
    · have hgo := zF_go (q := qC) (K := K) (m := m) (i := i) (d := x) (by omega) hc
      have hx2 : 0 ≤ znd (K i) x ∧ znd (K i) x ≤ x + 1 ∧ znd (K i) (x + 1) = znd (K i) x + 1 := by
        unfold znd
        by_cases k5 : K i = 5
        · rw [if_pos k5, if_pos k5]; omega
        · rw [if_neg k5, if_neg k5]
          by_cases k6 : K i = 6
          · rw [if_pos k6, if_pos k6]
            have : x ≠ 0 := fun h0 => hc ⟨h0, by unfold qC; exact decide_eq_true k6⟩
            omega
          · rw [if_neg k6, if_neg k6]; omega
      have hge := (zF_in qC K m (m - (i + 1)) (i + 1) (znd (K i) x) rfl).1 (by omega)
      rw [hgo] at h1 ⊢
      rw [show n + (zF qC K m (i + 1) (znd (K i) x) + 1 - i) = (n + (zF qC K m (i + 1) (znd (K i) x) + 1 - (i + 1))) + 1 by omega, hstep, hx2.2.2, show (i : Int) + 1 = ((i + 1 : Nat) : Int) by omega]
      exact ih (i + 1) (znd (K i) x) n (by omega) (by omega) h1 hge
/-- one level lower -/
theorem zRn_lower {u : ZC} {r : ZR} {m n c h k : Nat} {K L A B : Nat → Int} (H : zRn u r m n K L A B c h (k + 1)) : zRn u (tI r 21 (k : Int)) m n K L A B c h k := by
  obtain ⟨h1, h2, h3, h4, h5, h6, h7, h8, h9⟩ := H
  exact ⟨h1, h2, h3, h4, h5, h6, h7, ⟨by have := h8.1; omega, rfl⟩, fun j hj => h9 j (by omega)⟩
theorem sP_sP (u : ZC) (f o : Nat) (v w : Option Nat) : sP (sP u f o v) f o w = sP u f o w := by
  refine Prod.ext rfl (Prod.ext rfl (Prod.ext ?_ rfl))
  funext a b
  show (if a = f ∧ b = o then w else if a = f ∧ b = o then v else u.2.2.1 a b) = if a = f ∧ b = o then w else u.2.2.1 a b
  by_cases hh : a = f ∧ b = o
  · rw [if_pos hh, if_pos hh]
  · rw [if_neg hh, if_neg hh, if_neg hh]
theorem zhr_P (r : ZR) (k hb : Nat) (u : ZC) : zhr r k hb (sP u 1 0 (some hb)) = sP u 1 0 (some hb) := by
  unfold zhr
  split
  · rfl
  · rw [sP_sP]
