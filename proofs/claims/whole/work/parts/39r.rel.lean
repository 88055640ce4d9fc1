/-! the relation of class and reference while a line runs -/
/-- the tokens -/
def zTs (u : ZC) (r : ZR) (m n : Nat) (K L A B : Nat → Int) : Prop := cI u 2 0 = (m : Int) ∧ rI r 12 = (m : Int) ∧ (cN u 0 = 64 ∧ rI r 10 = 0) ∧ (∀ j : Nat, j < m → cA u 1 0 j = K j ∧ rA r 13 j = zrk (K j) ∧ cA u 2 0 j = A j ∧ rA r 14 j = A j ∧ cA u 3 0 j = B j ∧ (K j = 10 → rA r 15 j = B j)) ∧ ∀ i : Nat, i < n → cA u 0 0 i = L i ∧ rA r 11 i = L i
/-- what is fixed of them -/
def zSt (m n : Nat) (K L A B : Nat → Int) : Prop := m ≤ n ∧ n ≤ 64 ∧ (∀ j : Nat, j < m → 0 ≤ K j ∧ K j ≤ 10) ∧ (∀ j : Nat, j < m → ∃ a b : Nat, A j = (a : Int) ∧ B j = (b : Int) ∧ a < b ∧ b ≤ n) ∧ (∀ i j : Nat, i < j → j < m → B i ≤ A j) ∧ ∀ i : Nat, i < n → 32 ≤ L i ∧ L i ≤ 126
/-- the output of the list at level j -/
def zPt (u : ZC) (r : ZR) (j : Nat) : Prop := ∃ w, zT u (3 + 4 * j) w ∧ rA r 31 j = (w.length : Int) ∧ zRA r 30 (96 * j) w
def zRn (u : ZC) (r : ZR) (m n : Nat) (K L A B : Nat → Int) (c h k : Nat) : Prop :=
  (zTree u r c h ∧ (c : Int) ≤ cI u 4 0 ∧ zlim u r) ∧ (cI u 7 0 = zsum r 0 13 ∧ 0 ≤ cI u 7 0 ∧ cI u 7 0 ≤ cI u 5 0) ∧ (rI r 45 = cI u 8 0 ∧ 0 ≤ cI u 8 0 ∧ cI u 8 0 ≤ 127) ∧ rI r 48 = cI u 9 0 ∧ zBs u r ∧ (zPb u c ∧ zTg u c) ∧ zTs u r m n K L A B ∧ (k < 5 ∧ rI r 21 = (k : Int)) ∧ ∀ j : Nat, j ≤ k → zPt u r j
/-- what a row number of the reference stands for -/
def zIp (inp : Nat) (b : Int) : Prop := (inp = 2 ∧ b = -1) ∨ ∃ b' : Nat, b' < 10 ∧ inp = zbt b' ∧ b = (b' : Int)
/-- what level k holds of its command -/
def zLv (u : ZC) (r : ZR) (c k inp : Nat) : Prop := ((cI u 11 k = 0 ∧ zIp inp (rA r 24 k)) ∨ (cI u 11 k = 1 ∧ rA r 24 k = 2 * (k : Int) + 1)) ∧ ((cP u 4 k = none ∧ rA r 26 k = -1) ∨ ∃ x : Nat, cP u 4 k = some (x + 23) ∧ rA r 26 k = (x : Int) ∧ 1 ≤ x ∧ x ≤ c ∧ cP u 6 x = some (x + 23))
/-- the levels under k are as they were -/
def zLo (k : Nat) (u w : ZC) : Prop := ∀ j : Nat, j < k → cI w 11 j = cI u 11 j ∧ cP w 4 j = cP u 4 j ∧ cI w 0 (4 + 4 * j) = cI u 0 (4 + 4 * j) ∧ cI w 1 (4 + 4 * j) = cI u 1 (4 + 4 * j) ∧ ∀ i, cA w 0 (4 + 4 * j) i = cA u 0 (4 + 4 * j) i
def zLk (k : Nat) (r s : ZR) : Prop := ∀ f : Nat, 23 ≤ f → f ≤ 29 → ∀ j : Nat, j < k → rA s f j = rA r f j
theorem zLo_rf (k : Nat) (u : ZC) : zLo k u u := fun _ _ => ⟨rfl, rfl, rfl, rfl, fun _ => rfl⟩
theorem zLo_tr {k : Nat} {u v w : ZC} (a : zLo k u v) (b : zLo k v w) : zLo k u w := fun j hj => ⟨(b j hj).1.trans (a j hj).1, (b j hj).2.1.trans (a j hj).2.1, (b j hj).2.2.1.trans (a j hj).2.2.1, (b j hj).2.2.2.1.trans (a j hj).2.2.2.1, fun i => ((b j hj).2.2.2.2 i).trans ((a j hj).2.2.2.2 i)⟩
theorem zLo_le {k l : Nat} {u w : ZC} (a : zLo l u w) (h : k ≤ l) : zLo k u w := fun j hj => a j (by omega)
theorem zLk_rf (k : Nat) (r : ZR) : zLk k r r := fun _ _ _ _ _ => rfl
theorem zLk_tr {k : Nat} {u v w : ZR} (a : zLk k u v) (b : zLk k v w) : zLk k u w := fun f h1 h2 j hj => (b f h1 h2 j hj).trans (a f h1 h2 j hj)
theorem zLk_le {k l : Nat} {u w : ZR} (a : zLk l u w) (h : k ≤ l) : zLk k u w := fun f h1 h2 j hj => a f h1 h2 j (by omega)
theorem zLk_q {k : Nat} {S A : List Nat} {r s : ZR} (a : zq S A r s) (hA : 23 ∉ A ∧ 24 ∉ A ∧ 25 ∉ A ∧ 26 ∉ A ∧ 27 ∉ A ∧ 28 ∉ A ∧ 29 ∉ A) : zLk k r s := by
  intro f h1 h2 j _
  have : f = 23 ∨ f = 24 ∨ f = 25 ∨ f = 26 ∨ f = 27 ∨ f = 28 ∨ f = 29 := by omega
  rcases this with rfl | rfl | rfl | rfl | rfl | rfl | rfl
  · exact a.2.2.1 23 j hA.1
  · exact a.2.2.1 24 j hA.2.1
  · exact a.2.2.1 25 j hA.2.2.1
  · exact a.2.2.1 26 j hA.2.2.2.1
  · exact a.2.2.1 27 j hA.2.2.2.2.1
  · exact a.2.2.1 28 j hA.2.2.2.2.2.1
  · exact a.2.2.1 29 j hA.2.2.2.2.2.2
theorem zLo_fr {k t t2 W P : Nat} {u w : ZC} (a : zFr t t2 W P u w) (ht : ∀ j, j < k → t ≠ 4 + 4 * j ∧ t2 ≠ 4 + 4 * j) : zLo k u w := by
  intro j hj
  have := ht j hj
  exact ⟨a.1 11 j (by omega) (by omega), a.2.2.1 4 j (by omega), a.1 0 _ (by omega) (by omega), a.1 1 _ (by omega) (by omega), fun i => a.2.2.2.1 0 _ i (by omega) (by omega)⟩
theorem zTs_fr {t t2 W P : Nat} {u w : ZC} {r s : ZR} {S X : List Nat} {m n : Nat} {K L A B : Nat → Int} (a : zFr t t2 W P u w) (ht : t ≠ 0 ∧ t2 ≠ 0) (b : zq S X r s) (hS : 12 ∉ S ∧ 10 ∉ S) (hA : 11 ∉ X ∧ 13 ∉ X ∧ 14 ∉ X ∧ 15 ∉ X) (H : zTs u r m n K L A B) : zTs w s m n K L A B := by
  obtain ⟨h1, h2, h3, h4, h5⟩ := H
  refine ⟨by rw [a.1 2 0 (by omega) (by omega)]; exact h1, by rw [b.1 12 hS.1]; exact h2, by rw [a.2.2.2.2.1, b.1 10 hS.2]; exact h3, fun j hj => ?_, fun i hi => ?_⟩
  · rw [a.2.2.2.1 1 0 j (by omega) (by omega), a.2.2.2.1 2 0 j (by omega) (by omega), a.2.2.2.1 3 0 j (by omega) (by omega), b.2.2.1 13 j hA.2.1, b.2.2.1 14 j hA.2.2.1, b.2.2.1 15 j hA.2.2.2]
    exact h4 j hj
  · rw [a.2.2.2.1 0 0 i (by omega) (by omega), b.2.2.1 11 i hA.1]
    exact h5 i hi
theorem zPt_fr {t t2 W P : Nat} {u w : ZC} {r s : ZR} {S X : List Nat} {j : Nat} (a : zFr t t2 W P u w) (ht : t ≠ 3 + 4 * j ∧ t2 ≠ 3 + 4 * j) (b : zq S X r s) (hA : 30 ∉ X ∧ 31 ∉ X) (H : zPt u r j) : zPt w s j := by
  obtain ⟨v, h1, h2, h3⟩ := H
  exact ⟨v, zFr_T a ⟨by omega, by omega, fun _ => by omega⟩ h1, by rw [b.2.2.1 31 j hA.2]; exact h2, fun i hi => by rw [b.2.2.1 30 _ hA.1]; exact h3 i hi⟩
theorem zTg_fr {t t2 W P : Nat} {u w : ZC} {c : Nat} (a : zFr t t2 W P u w) (H : zTg u c) : zTg w c := fun k hk t ht => H k hk t (by rw [← a.2.2.1 4 k (by omega)]; exact ht)
/-- small changes keep the relation: words, path, the output of the command -/
theorem zRn_fr {t t2 W P : Nat} {u w : ZC} {r s : ZR} {S X : List Nat} {m n c h k : Nat} {K L A B : Nat → Int} (H : zRn u r m n K L A B c h k) (a : zFr t t2 W P u w) (ht : (t = 1 ∨ t = 4 + 4 * k ∨ t = 7777) ∧ (t2 = 1 ∨ t2 = 4 + 4 * k ∨ t2 = 7777)) (b : zq S X r s) (hS : [0, 1, 2, 9, 10, 12, 21, 45, 48].all (fun f => !S.contains f) = true) (hX : [3, 4, 5, 6, 7, 8, 11, 13, 14, 15, 30, 31, 32, 33].all (fun f => !X.contains f) = true) (HP : zPb w c) : zRn w s m n K L A B c h k := by
  have eS : ∀ f, f ∈ [0, 1, 2, 9, 10, 12, 21, 45, 48] → f ∉ S := fun f hf hh => by
    have := List.all_eq_true.1 hS f hf
    rw [List.contains_iff_mem.2 hh] at this
    cases this
  have eX : ∀ f, f ∈ [3, 4, 5, 6, 7, 8, 11, 13, 14, 15, 30, 31, 32, 33] → f ∉ X := fun f hf hh => by
    have := List.all_eq_true.1 hX f hf
    rw [List.contains_iff_mem.2 hh] at this
    cases this
  obtain ⟨⟨h1, h1b, h1c⟩, h2, h3, h4, h5, ⟨-, h6⟩, h7, ⟨h8, h8b⟩, h9⟩ := H
  have hb : ∀ x, x < 10 → t ≠ zbt x ∧ t2 ≠ zbt x := fun x hx => by
    have := zbt_in x hx
    have h4 := (this.2.2 k).1
    omega
  refine ⟨⟨zTree_fr a (by omega) (by omega) b (eS 9 (by decide)) ⟨eX 3 (by decide), eX 4 (by decide), eX 5 (by decide), eX 6 (by decide), eX 7 (by decide), eX 8 (by decide)⟩ h1, by rw [a.1 4 0 (by omega) (by omega)]; exact h1b, zlim_fr a b ⟨eS 0 (by decide), eS 1 (by decide), eS 2 (by decide)⟩ h1c⟩, ?_, ?_, ?_, zBs_fr a ⟨by omega, fun x hx => (hb x hx).1⟩ ⟨by omega, fun x hx => (hb x hx).2⟩ b ⟨eX 32 (by decide), eX 33 (by decide)⟩ h5, ⟨HP, zTg_fr a h6⟩, zTs_fr a (by omega) b ⟨eS 12 (by decide), eS 10 (by decide)⟩ ⟨eX 11 (by decide), eX 13 (by decide), eX 14 (by decide), eX 15 (by decide)⟩ h7, ⟨h8, by rw [b.1 21 (eS 21 (by decide))]; exact h8b⟩, fun j hj => zPt_fr a (by omega) b ⟨eX 30 (by decide), eX 31 (by decide)⟩ (h9 j hj)⟩
  · rw [a.1 7 0 (by omega) (by omega), a.1 5 0 (by omega) (by omega), zsum_eq (fun i => b.2.2.1 3 i (eX 3 (by decide))) (fun i => b.2.2.1 7 i (eX 7 (by decide))) 13 0]
    exact h2
  · rw [a.1 8 0 (by omega) (by omega), b.1 45 (eS 45 (by decide))]
    exact h3
  · rw [a.1 9 0 (by omega) (by omega), b.1 48 (eS 48 (by decide))]
    exact h4
/-- a word of the line, on both sides -/
theorem word_alike (F : Nat) (hF : 110 ≤ F) {u : ZC} {r : ZR} {m n c h k : Nat} {K L A B : Nat → Int} (HS : zSt m n K L A B) (H : zRn u r m n K L A B c h k) {ws : List (List Int)} (hl : zwl ws) (HW : zW u ws) (HR : zWr r ws) (j : Nat) (hj : j < m) (hk10 : K j = 10) (hlen : 2 * (ws.flatten.length : Int) ≤ 3 * A j) (hws : ws.length < 64) :
    ∃ (w : List Int) (u2 : ZC) (r2 : ZR), cWords_add F u (j : Int) (cI u 8 0) = some u2 ∧ r_expand F r (j : Int) = some r2 ∧ zwl (ws ++ [w]) ∧ zW u2 (ws ++ [w]) ∧ zWr r2 (ws ++ [w]) ∧ 2 * ((ws ++ [w]).flatten.length : Int) ≤ 3 * B j ∧ zFr 1 1 1 0 u u2 ∧ zq [16, 19] [17, 18, 20] r r2 := by
  obtain ⟨s1, s2, s3, s4, s5, s6⟩ := HS
  obtain ⟨a, b, ha, hb, hab, hbn⟩ := s4 j hj
  obtain ⟨t1, t2, t3, t4, t5⟩ := H.2.2.2.2.2.2.1
  obtain ⟨q1, q2, q3, q4, q5, q6⟩ := t4 j hj
  obtain ⟨st, hst⟩ : ∃ st : Nat, cI u 8 0 = (st : Int) := ⟨(cI u 8 0).toNat, by have := H.2.2.1; omega⟩
  have hst2 := H.2.2.1
  have hlen' : 2 * ws.flatten.length + 3 * (b - a) ≤ 192 := by omega
  obtain ⟨u2, c1, c2, c3⟩ := wadd_is F (by omega) HW m a b st j hj (by omega) t1 (q1.trans hk10) (q3.trans ha) (q5.trans hb) (by omega) (by omega) (by omega) t3.1 (fun i hi => by rw [(t5 i (by omega)).1]; exact s6 i (by omega)) hlen' hws
  obtain ⟨r2, d1, d2, d3⟩ := expand_is F (by omega) HR (cA u 0 0) a b st j (by omega) (q4.trans ha) ((q6 hk10).trans hb) (by omega) (by omega) (by omega) (by rw [hst2.1, hst]) (fun i hi => ⟨by rw [(t5 i (by omega)).2, (t5 i (by omega)).1], by rw [(t5 i (by omega)).1]; exact s6 i (by omega)⟩) hlen' hws
  refine ⟨_, u2, r2, by rw [hst]; exact c1, d1, fun w hw => ?_, c2, d2, ?_, c3, d3⟩
  · rcases List.mem_append.1 hw with hw | hw
    · exact hl w hw
    · rw [List.mem_singleton.1 hw]
      exact zexp_ok (cA u 0 0) b (zdg st) (zdg_ok st (by omega)) (fun i hi => by rw [(t5 i (by omega)).1]; exact s6 i (by omega)) (b - a) a false
  · have := zexp_len (cA u 0 0) b (zdg st) (zdg_len st).2 (b - a) a false
    rw [List.flatten_append, List.length_append]
    simp only [List.flatten_cons, List.flatten_nil, List.append_nil]
    omega
