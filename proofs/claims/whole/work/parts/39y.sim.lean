/-! the beginning and the end of a command -/
theorem zRn_st0 {u : ZC} {r : ZR} {m n c h k : Nat} {K L A B : Nat → Int} (H : zRn u r m n K L A B c h k) (v : Int) (hv : 0 ≤ v ∧ v ≤ 127) : zRn (sI u 8 0 v) (tI r 45 v) m n K L A B c h k := by
  obtain ⟨h1, h2, -, h4, h5, h6, h7, h8, h9⟩ := H
  exact ⟨h1, h2, ⟨rfl, hv⟩, h4, h5, h6, h7, h8, h9⟩
theorem zRn_here {u : ZC} {r : ZR} {m n c h x k : Nat} {K L A B : Nat → Int} (H : zRn u r m n K L A B c h k) (hx : x ≤ c) (hd : cP u 6 x = none) : zRn (sP u 1 0 (some x)) (tI r 9 (x : Int)) m n K L A B c x k := by
  obtain ⟨⟨h1, h1b, h1c⟩, h2, h3, h4, h5, ⟨h6, h6b⟩, h7, h8, h9⟩ := H
  exact ⟨⟨zTree_cd h1 hx hd, h1b, h1c⟩, h2, h3, h4, h5, ⟨h6, h6b⟩, h7, h8, h9⟩
theorem tI_tI (r : ZR) (k : Nat) (a b : Int) : tI (tI r k a) k b = tI r k b := by
  refine Prod.ext ?_ rfl
  funext f
  show (if f = k then b else if f = k then a else r.1 f) = if f = k then b else r.1 f
  by_cases h : f = k
  · rw [if_pos h, if_pos h]
  · rw [if_neg h, if_neg h, if_neg h]
theorem tI_self (r : ZR) (k : Nat) : tI r k (rI r k) = r := by
  refine Prod.ext ?_ rfl
  funext f
  show (if f = k then rI r k else r.1 f) = r.1 f
  by_cases h : f = k
  · rw [if_pos h, h]; rfl
  · rw [if_neg h]
theorem tI_eq {r : ZR} {k : Nat} {v : Int} (h : rI r k = v) : tI r k v = r := by rw [← h]; exact tI_self r k
theorem sP_self {u : ZC} {f o : Nat} {v : Option Nat} (h : cP u f o = v) : sP u f o v = u := by
  refine Prod.ext rfl (Prod.ext rfl (Prod.ext ?_ rfl))
  funext a b
  show (if a = f ∧ b = o then v else u.2.2.1 a b) = u.2.2.1 a b
  by_cases hh : a = f ∧ b = o
  · rw [if_pos hh, hh.1, hh.2]; exact h.symm
  · rw [if_neg hh]
/-- the line ends by SPACE: what is left, seen from level k -/
def zFl (u : ZC) (r : ZR) (m n : Nat) (K L A B : Nat → Int) (k c0 : Nat) : Prop := ∃ c h lv : Nat, c0 ≤ c ∧ zRn (sI u 8 0 0) (tI (tI (tI r 9 (h : Int)) 21 (k : Int)) 45 0) m n K L A B c h k ∧ rI r 21 = (lv : Int) ∧ k ≤ lv ∧ lv < 5 ∧ (h : Int) = (if lv = k then (if zI (rA r 28 k) = 0 then rI r 9 else rA r 27 k) else rA r 27 k)
/-- the rest of the class's runCommand behind its tool or group -/
def zTlC (F k : Nat) (x14 : Int) (u15 : ZC) : Option (Int × ZC) :=
    Option.bind ((
        if zI x14 = zI 100 then
          some true
        else
        if zI (cI u15 1 (4 + 4 * k)) = 0 then
          some false
        else
        some true) : Option (Bool)) fun (b16 : Bool) =>
    if b16 = true then
      some (100, u15)
    else
    Option.bind (some (cP u15 4 k)) fun (o17 : Option Nat) =>
    Option.elim o17 (
        some (x14, u15)) fun (n18 : Nat) =>
    Option.bind (some (cP u15 4 k)) fun (o19 : Option Nat) =>
    Option.elim o19 none fun (n20 : Nat) =>
    zb2 (cTree_append F u15 n20 (4 + 4 * k)) fun (p21 : Int) (u22 : ZC) =>
    if ¬ zI p21 = 0 then
      Option.bind (cText_clear F u22 (4 + 4 * k)) fun (u23 : ZC) =>
      some (x14, u23)
    else
    some (100, u22)
/-- before endCommand, on both sides: hx is where the class is -/
def zMid (u : ZC) (r : ZR) (m n : Nat) (K L A B : Nat → Int) (c hx hb k inp : Nat) (g : Int) (w : List Int) : Prop := zRn u (tI r 9 (hx : Int)) m n K L A B c hx k ∧ zLv u r c k inp ∧ zH u (4 + 4 * k) w ∧ (rI r 35 = (w.length : Int) ∧ zRA r 34 0 w) ∧ (w.length : Int) ≤ rI r 2 ∧ rA r 27 k = (hb : Int) ∧ hb ≤ c ∧ cP u 6 hb = none ∧ ((g = 1 ∧ hx = hb) ∨ (g = 0 ∧ rI r 9 = (hx : Int))) ∧ (rA r 28 k = 0 ∨ rA r 28 k = 1)
theorem addTo22_9 (F : Nat) (a x : Int) : ∀ (n : Nat) (r : ZR) (k : Int), r_addTo_22 F n (tI r 9 a) x k = (r_addTo_22 F n r x k).map (fun y => (y.1, tI y.2 9 a)) := by
  intro n
  induction n with
  | zero => intro r k; rfl
  | succ n ih =>
    intro r k
    rw [r_addTo_22, r_addTo_22]
    have e35 : rI (tI r 9 a) 35 = rI r 35 := rfl
    have e7 : ∀ i, rA (tI r 9 a) 7 i = rA r 7 i := fun _ => rfl
    have e34 : ∀ i, rA (tI r 9 a) 34 i = rA r 34 i := fun _ => rfl
    have eA : ∀ f i v, tA (tI r 9 a) f i v = tI (tA r f i v) 9 a := fun _ _ _ => rfl
    simp only [e35, e7, e34, eA, Option.bind_some]
    by_cases h1 : zI (rI r 35) ≤ zI k
    · rw [if_pos h1, if_pos h1]
      by_cases h2 : zix x 13
      · rw [if_pos h2, if_pos h2]; rfl
      · rw [if_neg h2, if_neg h2]; rfl
    · rw [if_neg h1, if_neg h1]
      by_cases h2 : zix x 13
      · rw [if_pos h2, if_pos h2]
        by_cases h3 : zix k 96
        · rw [if_pos h3, if_pos h3]
          by_cases h4 : zix (160 * x + rA r 7 x.toNat + k) 2080
          · rw [if_pos h4, if_pos h4]
            exact ih _ _
          · rw [if_neg h4, if_neg h4]; rfl
        · rw [if_neg h3, if_neg h3]; rfl
      · rw [if_neg h2, if_neg h2]; rfl
theorem addTo_9 (F : Nat) (hF : 20 ≤ F) (a x : Int) (r : ZR) : r_addTo F (tI r 9 a) x = (r_addTo F r x).map (fun y => (y.1, tI y.2 9 a)) := by
  unfold r_addTo
  rw [chars_is F (by omega) r, chars_is F (by omega) (tI r 9 a), zsum_eq (r := r) (s := tI r 9 a) (fun _ => rfl) (fun _ => rfl) 13 0]
  have e35 : rI (tI r 9 a) 35 = rI r 35 := rfl
  have e1 : rI (tI r 9 a) 1 = rI r 1 := rfl
  simp only [Option.bind_some, e35, e1]
  by_cases h : zI (zsum r 0 13 + rI r 35) ≤ zI (rI r 1)
  · rw [if_pos h, if_pos h]
    exact addTo22_9 F a x F r 0
  · rw [if_neg h, if_neg h]; rfl
theorem fin_alike (F : Nat) (hF : 200 ≤ F) {u : ZC} {r : ZR} {m n c hx hb k inp : Nat} {K L A B : Nat → Int} {g : Int} {w : List Int} (M : zMid u r m n K L A B c hx hb k inp g w) (st : Int) (hst : st = 0 ∨ st = 1 ∨ st = 2 ∨ st = 127) :
    (∃ u2 r2, zTlC F k st u = some (100, u2) ∧ r_endCommand F r st g = some (0, r2) ∧ zFl (if zI (rA r 28 k) = 0 then u2 else sP u2 1 0 (some hb)) r2 m n K L A B k c ∧ zLo k u u2 ∧ zLk k r r2 ∧ cP u2 = cP u) ∨
    (∃ u2 r2 h2 w2, zTlC F k st u = some (st, u2) ∧ r_endCommand F r st g = r_endCommand_64 F r2 st ∧ zRn (if zI (rA r 28 k) = 0 then u2 else sP u2 1 0 (some hb)) r2 m n K L A B c h2 k ∧ zT (if zI (rA r 28 k) = 0 then u2 else sP u2 1 0 (some hb)) (4 + 4 * k) w2 ∧ (rI r2 35 = (w2.length : Int) ∧ zRA r2 34 0 w2) ∧ zLo k u u2 ∧ zq [9, 35] [7, 8] r r2 ∧ cP u2 = cP u) := by
  obtain ⟨M1, M2, M3, M4, M5, M6, M7, M8, M9, M10⟩ := M
  have hk5 : k < 5 := M1.2.2.2.2.2.2.2.1.1
  have h21 : rI r 21 = (k : Int) := M1.2.2.2.2.2.2.2.1.2
  have HT1 := M1.1.1
  have hz : zix (k : Int) 5 := ⟨by omega, by omega, by omega⟩
  obtain ⟨hcap1, hcap2, hcap3⟩ := zcap M1.1.2.2 k hk5
  have hcap1' : (cN u (4 + 4 * k) : Int) = rI r 2 := hcap1
  have hlt : ∀ u : ZC, zlT u (4 + 4 * k) := fun u => Or.inl (by omega)
  obtain ⟨hsp, hTw⟩ := M3.2.1 (by omega)
  have hRw : True ∧ rI r 35 = (w.length : Int) ∧ zRA r 34 0 w := ⟨trivial, M4⟩
  -- where both are then
  obtain ⟨h2, hh2, hh2b⟩ : ∃ h2 : Nat, (Option.bind (if ¬ zI g = 0 then some true else if zix (rI r 21) 5 then (if zI (rA r 28 (rI r 21).toNat) = 0 then some false else some true) else none) fun (b1 : Bool) => if b1 = true then (if zix (rI r 21) 5 then some (tI r 9 (rA r 27 (rI r 21).toNat)) else none) else some r) = some (tI r 9 (h2 : Int)) ∧ ((zI (rA r 28 k) = 0 ∧ h2 = hx) ∨ (¬ zI (rA r 28 k) = 0 ∧ h2 = hb)) := by
    rw [h21, if_pos hz, Int.toNat_natCast, M6]
    rcases M9 with ⟨g1, g2⟩ | ⟨g1, g2⟩
    · rw [g1, if_pos z10]
      refine ⟨hb, by simp only [Option.bind_some, if_true, if_pos hz], ?_⟩
      by_cases h28 : zI (rA r 28 k) = 0
      · exact Or.inl ⟨h28, g2.symm⟩
      · exact Or.inr ⟨h28, rfl⟩
    · rw [g1, if_neg (not_not_intro z00)]
      by_cases h28 : zI (rA r 28 k) = 0
      · rw [if_pos h28]
        exact ⟨hx, by rw [tI_eq g2]; rfl, Or.inl ⟨h28, rfl⟩⟩
      · rw [if_neg h28]
        exact ⟨hb, by simp only [Option.bind_some, if_true, if_pos hz], Or.inr ⟨h28, rfl⟩⟩
  have hrel : ∀ (u2 : ZC) (r2 : ZR), zRn u2 (tI r2 9 (hx : Int)) m n K L A B c hx k → cP u2 6 hb = none → zRn (if zI (rA r 28 k) = 0 then u2 else sP u2 1 0 (some hb)) (tI r2 9 (h2 : Int)) m n K L A B c h2 k := by
    intro u2 r2 q1 q2
    rcases hh2b with ⟨e1, e2⟩ | ⟨e1, e2⟩
    · rw [if_pos e1, e2]; exact q1
    · rw [if_neg e1, e2]
      have := zRn_here q1 M7 q2
      rw [tI_tI] at this
      exact this
  have hend : r_endCommand F r st g = (if zI (rA r 26 k) < 0 then r_endCommand_64 F (tI r 9 (h2 : Int)) st else zb2 (r_addTo F (tI r 9 (h2 : Int)) (rA r 26 k)) fun (p3 : Int) (u4 : ZR) => if ¬ zI p3 = 0 then r_endCommand_64 F (tI u4 35 0) st else some (0, u4)) := by
    unfold r_endCommand
    rw [hh2]
    have e21 : rI (tI r 9 (h2 : Int)) 21 = (k : Int) := h21
    have e26 : rA (tI r 9 (h2 : Int)) 26 k = rA r 26 k := rfl
    simp only [Option.bind_some, e21, if_pos hz, Int.toNat_natCast, e26]
  have htl : zTlC F k st u = (Option.elim (cP u 4 k) (some (st, u)) fun (n18 : Nat) => zb2 (cTree_append F u n18 (4 + 4 * k)) fun (p21 : Int) (u22 : ZC) => if ¬ zI p21 = 0 then (Option.bind (cText_clear F u22 (4 + 4 * k)) fun (u23 : ZC) => some (st, u23)) else some (100, u22)) := by
    unfold zTlC
    have : (if zI st = zI 100 then some true else if zI (cI u 1 (4 + 4 * k)) = 0 then some false else some true) = some false := by
      rw [hsp, if_neg (by rcases hst with h | h | h | h <;> (rw [h]; decide)), if_pos z00]
    rw [this]
    cases cP u 4 k with
    | none => rfl
    | some x => rfl
  rw [htl, hend]
  rcases M2.2 with ⟨v1, v2⟩ | ⟨x, v1, v2, v3, v4, v5⟩
  · -- no target
    rw [v1, v2, if_pos (by decide)]
    refine Or.inr ⟨u, tI r 9 (h2 : Int), h2, w, rfl, rfl, hrel u r M1 M8, ?_, ⟨hRw.2.1, hRw.2.2⟩, zLo_rf _ _, zq_I _ _ r 9 _ (by decide), rfl⟩
    split
    · exact hTw
    · exact hTw
  · -- a file
    have hc12 := HT1.1
    rw [v1, v2, if_neg (by rw [zI_lt0 (by omega) (by omega)]; omega)]
    simp only [Option.elim_some]
    have M1' : zRn u (tI r 9 (hx : Int)) m n K L A B c hx k := M1
    rcases append_alike F hF M1' x ⟨v3, v4⟩ v5 hTw ⟨hRw.2.1, hRw.2.2⟩ with ⟨a1, a2⟩ | ⟨u2, r2, a1, a2, a3, a4, a5, a6, a7⟩
    · -- too long
      have a2' : r_addTo F (tI r 9 (h2 : Int)) (x : Int) = some (0, tI r 9 (h2 : Int)) := by
        have := addTo_9 F (by omega) (h2 : Int) (x : Int) (tI r 9 (hx : Int))
        rw [tI_tI, a2] at this
        rw [this]
        show some ((0 : Int), tI (tI r 9 (hx : Int)) 9 (h2 : Int)) = _
        rw [tI_tI]
      have hfl := zRn_st0 (hrel u r M1 M8) 0 (by decide)
      refine Or.inl ⟨u, tI r 9 (h2 : Int), ?_, ?_, ⟨c, h2, k, Nat.le_refl _, ?_, h21, Nat.le_refl _, hk5, ?_⟩, zLo_rf _ _, ?_, rfl⟩
      · rw [a1]; rfl
      · rw [a2']; rfl
      · rw [tI_tI, tI_eq (r := tI r 9 (h2 : Int)) (k := 21) (v := (k : Int)) h21]
        exact hfl
      · rw [if_pos rfl]
        rcases hh2b with ⟨e1, e2⟩ | ⟨e1, e2⟩
        · rw [if_pos (show zI (rA (tI r 9 (h2 : Int)) 28 k) = 0 from e1)]
          rfl
        · rw [if_neg (show ¬ zI (rA (tI r 9 (h2 : Int)) 28 k) = 0 from e1), e2]
          exact M6.symm
      · exact zLk_q (zq_I [9] [] r 9 (h2 : Int) (by decide)) (by decide)
    · -- it fits
      have a2' : r_addTo F (tI r 9 (h2 : Int)) (x : Int) = some (1, tI r2 9 (h2 : Int)) := by
        have := addTo_9 F (by omega) (h2 : Int) (x : Int) (tI r 9 (hx : Int))
        rw [tI_tI, a2] at this
        exact this
      obtain ⟨u3, b1, b2, b3⟩ := clear_is F (hlt u2)
      have hT0 : zT u3 (4 + 4 * k) [] := (b2.2.1 (Nat.zero_le _)).2
      have e9 : rI r2 9 = (hx : Int) := a3.1.1.2.2.2.2.1
      have a3' : zRn u3 (tI r2 9 (hx : Int)) m n K L A B c hx k := by
        rw [tI_eq e9]
        exact zRn_fr a3 b3 ⟨Or.inr (Or.inl rfl), Or.inr (Or.inl rfl)⟩ (zq_rf [] [] r2) (by decide) (by decide) (zPb_fr b3 a3.2.2.2.2.2.1.1)
      have eP : cP u3 = cP u := by
        rw [← a4]
        funext f o
        exact b3.2.2.1 f o (by omega)
      have h6 : cP u3 6 hb = none := by rw [eP]; exact M8
      have hq : zq [9, 35] [7, 8] r (tI (tI r2 9 (h2 : Int)) 35 0) := zq_tr (zq_tr (zq_tr (zq_I _ _ r 9 (hx : Int) (by decide)) (zq_mono a7 (by decide) (by decide))) (zq_I _ _ r2 9 (h2 : Int) (by decide))) (zq_I _ _ _ 35 0 (by decide))
      have hR3 := hrel u3 r2 a3' h6
      refine Or.inr ⟨u3, tI (tI r2 9 (h2 : Int)) 35 0, h2, [], ?_, ?_, ?_, ?_, ⟨rfl, fun i hi => absurd hi (Nat.not_lt_zero i)⟩, ?_, hq, eP⟩
      · rw [a1]
        simp only [zb2_some, z10, not_false_iff, if_true, b1, Option.bind_some]
      · rw [a2']
        simp only [zb2_some, z10, not_false_iff, if_true]
      · exact zRn_fr hR3 (zFr_rf 7777 7777 0 0 _) ⟨Or.inr (Or.inr rfl), Or.inr (Or.inr rfl)⟩ (zq_I [35] [] (tI r2 9 (h2 : Int)) 35 0 (by decide)) (by decide) (by decide) hR3.2.2.2.2.2.1.1
      · split
        · exact hT0
        · exact hT0
      · intro j hj
        have e4 := a5 (4 + 4 * j) (by omega)
        have g4 : zT4 u2 u3 (4 + 4 * j) := zT4_fr b3 (by omega)
        have e := zT4_tr e4 g4
        exact ⟨(b3.1 11 j (by omega) (by omega)).trans (a6 j), by rw [eP], e.1, e.2.1, e.2.2.2⟩
