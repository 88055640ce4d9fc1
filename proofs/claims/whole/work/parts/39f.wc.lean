/-! where a tool reads; wc -/
theorem zSrc_fr {S A : List Nat} {r s : ZR} {v : List Int} (a : zq S A r s) (hS : 38 ∉ S ∧ 39 ∉ S) (hA : 37 ∉ A ∧ 40 ∉ A ∧ 41 ∉ A) (H : zSrc r v) : zSrc s v := by
  obtain ⟨h1, h2, h3, h4, h5, h6⟩ := H
  refine ⟨by rw [a.1 38 hS.1]; exact h1, h2, h3, fun i hi => by rw [a.2.2.1 37 _ hA.1]; exact h4 i hi, by rw [a.1 39 hS.2]; exact h5, fun i hi => by rw [a.2.2.1 40 _ hA.2.1, a.2.2.1 41 _ hA.2.2]; exact h6 i hi⟩
theorem zPa_b {u : ZC} {r : ZR} {c : Nat} (H : zPa u r c) : zPb u c := ⟨H.2.2.1, fun d hd => (H.2.2.2 d hd).1.1⟩
/-- a word names a file, or not -/
theorem src_word (F : Nat) (hF : 170 ≤ F) {u : ZC} {r : ZR} {c h lev inp : Nat} {ws : List (List Int)} (E : zEv u r c h lev inp ws) (k : Nat) (hk : k < ws.length) :
    ∃ (p : Option Nat) (u2 : ZC) (r2 : ZR), cTree_follow F u (k : Int) = some (p, u2) ∧ zFp u u2 ∧ zq [38, 39, 42, 43, 44] [37, 40, 41] r r2 ∧ zPb u2 c ∧
      ((cTools_contentOf F u2 p = some none ∧ r_reads F r (k : Int) = some (0, r2)) ∨ ∃ (t : Nat) (v : List Int), cTools_contentOf F u2 p = some (some t) ∧ r_reads F r (k : Int) = some (1, r2) ∧ zT u2 t v ∧ zSrc r2 v ∧ 24 ≤ t ∧ zlT u2 t ∧ cN u2 t ≤ 160) := by
  obtain ⟨HT, HL, ⟨hl, HW, HR, hw1⟩, ⟨hlev, h21⟩, HB, HP, HI⟩ := E
  have hw64 := HW.2.1
  have q38 : zq [38, 39, 42, 43, 44] [37, 40, 41] r (tI r 38 0) := zq_I _ _ r 38 0 (by decide)
  have HT1 : zTree u (tI r 38 0) c h := zTree_fr (zFr_rf 7777 7777 0 0 u) (Or.inr rfl) (Or.inr rfl) q38 (by decide) (by decide) HT
  obtain ⟨u2, r2, c1, c2, c3, c4, c5⟩ := follow_alike F (by omega) HT1 hl HW (zWr_fr q38 (by decide) (by decide) HR) k hk
  have HT2 : zTree u2 r2 c h := zTree_fr (c4 7777 7777) (Or.inr rfl) (Or.inr rfl) c5 (by decide) (by decide) HT1
  have hc12 := HT.1
  have hI5 : cI u2 5 0 = cI u 5 0 := (c4 7777 7777).1 5 0 (by omega) (by omega)
  have hl5 : 0 ≤ cI u2 5 0 ∧ cI u2 5 0 ≤ 160 := by rw [hI5]; exact ⟨HL.2.1.1, HL.2.1.2.1⟩
  have hq2 : zq [38, 39, 42, 43, 44] [37, 40, 41] r r2 := zq_tr q38 (zq_mono c5 (by decide) (by decide))
  have e16 : rI (tI r 38 0) 16 = (ws.length : Int) := HR.1
  have hread : r_reads F r (k : Int) = (Option.bind (if zI (rI r2 42) < 0 then some true else if zix (rI r2 42) 13 then (if zI (rA r2 4 (rI r2 42).toNat) = 0 then some false else some true) else none) fun (b3 : Bool) => if b3 = true then some (0, r2) else if zix (rI r2 42) 13 then r_reads_54 F F (tI r2 38 (rA r2 7 (rI r2 42).toNat)) 0 else none) := by
    unfold r_reads
    rw [e16, if_neg (by rw [zI_le (by omega) (by omega) (by omega) (by omega)]; omega), c2]
    rfl
  have hno : ∀ (hx : (if zI (rI r2 42) < 0 then some true else if zix (rI r2 42) 13 then (if zI (rA r2 4 (rI r2 42).toNat) = 0 then some false else some true) else none) = some true), cTools_contentOf F u2 (cP u2 2 0) = some none → ∃ (p : Option Nat) (u2' : ZC) (r2 : ZR), cTree_follow F u (k : Int) = some (p, u2') ∧ zFp u u2' ∧ zq [38, 39, 42, 43, 44] [37, 40, 41] r r2 ∧ zPb u2' c ∧
      ((cTools_contentOf F u2' p = some none ∧ r_reads F r (k : Int) = some (0, r2)) ∨ ∃ (t : Nat) (v : List Int), cTools_contentOf F u2' p = some (some t) ∧ r_reads F r (k : Int) = some (1, r2) ∧ zT u2' t v ∧ zSrc r2 v ∧ 24 ≤ t ∧ zlT u2' t ∧ cN u2' t ≤ 160) := by
    intro hx hco
    refine ⟨_, u2, r2, c1, c4, hq2, zPa_b c3, Or.inl ⟨hco, ?_⟩⟩
    rw [hread, hx]
    rfl
  cases ho : cP u2 2 0 with
  | none =>
    refine hno ?_ (by rw [ho]; rfl)
    rw [c3.1, ho]
    rfl
  | some x =>
    have hx := c3.2.2.1 x ho
    have e42 : rI r2 42 = (x : Int) := by rw [c3.1, ho]; rfl
    have hlx : zlN u2 x := zlN_of HT2 hx
    have hz : zix (x : Int) 13 := ⟨by omega, by omega, by omega⟩
    have hco : cTools_contentOf F u2 (some x) = some (cP u2 6 x) := by
      unfold cTools_contentOf
      simp only [Option.elim_some, if_pos hlx, Option.bind_some]
    rcases zdir HT2 x hx with ⟨d1, d2⟩ | ⟨d0, d1, d2⟩
    · refine hno ?_ (by rw [ho, hco, d1])
      rw [e42, if_neg (by rw [zI_lt0 (by omega) (by omega)]; omega), if_pos hz, Int.toNat_natCast, d2, if_neg z10]
    · obtain ⟨f1, f2, f3, f4, f5, v, f6, f7, f8, f9⟩ := zfile HT2 hl5 x (x + 23) hx d1
      obtain ⟨r3, g1, g2, g3⟩ := copy54 F f7 x (by omega) v.length 0 F (tI r2 38 (v.length : Int)) (by omega) (by omega) rfl e42 f9 (fun i hi => absurd hi (Nat.not_lt_zero i))
      have e38 : rI r3 38 = (v.length : Int) := by rw [g3.1 38 (by decide)]; rfl
      obtain ⟨r4, k1, k2, k3⟩ := reads_end F hF f7 f6.2.2.2 e38 g2
      refine ⟨_, u2, r4, c1, c4, zq_tr (zq_tr (zq_tr hq2 (zq_I _ _ r2 38 (v.length : Int) (by decide))) (zq_mono g3 (by decide) (by decide))) (zq_mono k3 (by decide) (by decide)), zPa_b c3, Or.inr ⟨x + 23, v, by rw [ho, hco, d1], ?_, f6, k2, by omega, f4, by omega⟩⟩
      rw [hread, e42, if_neg (by rw [zI_lt0 (by omega) (by omega)]; omega), if_pos hz, Int.toNat_natCast, d2, if_pos z00]
      simp only [Option.bind_some, reduceCtorEq, if_false, if_pos hz, f8]
      rw [show (0 : Int) = ((0 : Nat) : Int) from rfl, g1]
      exact k1
/-- the input -/
theorem src_in (F : Nat) (hF : 170 ≤ F) {u : ZC} {r : ZR} {c h lev inp : Nat} {ws : List (List Int)} (E : zEv u r c h lev inp ws) (k : Nat) (hk : ws.length ≤ k) (hk2 : k ≤ 66) :
    ∃ (v : List Int) (r2 : ZR), r_reads F r (k : Int) = some (1, r2) ∧ zT u inp v ∧ zSrc r2 v ∧ zq [38, 39] [33, 37, 40, 41] r r2 ∧ (∀ b, b < 10 → rA r2 33 b = if inp = zbt b then 0 else rA r 33 b) := by
  obtain ⟨HT, HL, ⟨hl, HW, HR, hw1⟩, ⟨hlev, h21⟩, HB, HP, HI⟩ := E
  have hw64 := HW.2.1
  have e16 : rI (tI r 38 0) 16 = (ws.length : Int) := HR.1
  have e21 : rI (tI r 38 0) 21 = (lev : Int) := h21
  have e24 : rA (tI r 38 0) 24 lev = rA r 24 lev := rfl
  have hz5 : zix (lev : Int) 5 := ⟨by omega, by omega, by omega⟩
  rcases HI with ⟨hi, hb⟩ | ⟨b, hb10, hi, hb⟩
  · obtain ⟨r4, k1, k2, k3⟩ := reads_end F hF (v := []) (by decide) (fun x hx => by cases hx) (r := tI r 38 0) rfl (fun i hi => absurd hi (Nat.not_lt_zero i))
    refine ⟨[], r4, ?_, by rw [hi]; exact HB.1, k2, zq_tr (zq_I _ _ r 38 0 (by decide)) (zq_mono k3 (by decide) (by decide)), fun b hb2 => ?_⟩
    · unfold r_reads
      rw [e16, if_pos (by rw [zI_le (by omega) (by omega) (by omega) (by omega)]; omega), e21, if_pos hz5, Int.toNat_natCast, e24, hb, if_pos (by decide)]
      exact k1
    · have := (zbt_in b hb2).1
      rw [if_neg (by omega), k3.2.2.1 33 b (by decide)]
      rfl
  · obtain ⟨v, g1, g2, g3, g4⟩ := HB.2 b hb10
    have e33 : rA (tI r 38 0) 33 b = (v.length : Int) := g3
    obtain ⟨r3, f1, f2, f3⟩ := copy126 F g2 b hb10 v.length 0 F (tI (tI r 38 0) 38 (v.length : Int)) (by omega) (by omega) rfl g4 (fun i hi => absurd hi (Nat.not_lt_zero i))
    have e38 : rI (tA r3 33 b 0) 38 = (v.length : Int) := by show rI r3 38 = _; rw [f3.1 38 (by decide)]; rfl
    obtain ⟨r4, k1, k2, k3⟩ := reads_end F hF g2 g1.2.2.2 (r := tA r3 33 b 0) e38 f2
    refine ⟨v, r4, ?_, by rw [hi]; exact g1, k2, zq_tr (zq_tr (zq_tr (zq_tr (zq_I _ _ r 38 0 (by decide)) (zq_I _ _ _ 38 _ (by decide))) (zq_mono f3 (by decide) (by decide))) (zq_A _ _ r3 33 b 0 (by decide))) (zq_mono k3 (by decide) (by decide)), fun b2 hb2 => ?_⟩
    · unfold r_reads
      rw [e16, if_pos (by rw [zI_le (by omega) (by omega) (by omega) (by omega)]; omega), e21, if_pos hz5, Int.toNat_natCast, e24, hb, if_neg (by rw [zI_lt0 (by omega) (by omega)]; omega), if_pos (show zix (b : Int) 10 from ⟨by omega, by omega, by omega⟩), Int.toNat_natCast]
      simp only [Option.bind_some]
      rw [e33, show (0 : Int) = ((0 : Nat) : Int) from rfl]
      exact f1.trans k1
    · rw [k3.2.2.1 33 b2 (by decide)]
      show (if 33 = 33 ∧ b2 = b then 0 else rA r3 33 b2) = _
      rw [hi]
      by_cases hbb : b2 = b
      · rw [if_pos ⟨rfl, hbb⟩, if_pos (by rw [hbb])]
      · rw [if_neg (by omega), if_neg (fun e => hbb (zbt_inj b b2 e).symm), f3.2.2.1 33 b2 (by decide)]
        rfl
/-- the input is read, and cleared on both sides -/
theorem zBs_clear {u w : ZC} {r s : ZR} {out inp : Nat} {S A : List Nat} (HB : zBs u r) (a : zFr out inp 0 1 u w) (hout : out ≠ 2 ∧ ∀ b, b < 10 → out ≠ zbt b) (hT : zT w inp []) (b : zq S A r s) (hA : 32 ∉ A) (h33 : ∀ b, b < 10 → rA s 33 b = if inp = zbt b then 0 else rA r 33 b) : zBs w s := by
  refine ⟨?_, fun x hx => ?_⟩
  · by_cases h2 : inp = 2
    · rw [← h2]; exact hT
    · exact zFr_T a ⟨fun e => hout.1 e.symm, fun e => h2 e.symm, fun h => absurd h (by decide)⟩ HB.1
  · obtain ⟨v, g1, g2, g3, g4⟩ := HB.2 x hx
    by_cases hxi : inp = zbt x
    · exact ⟨[], by rw [← hxi]; exact hT, by decide, by rw [h33 x hx, if_pos hxi]; rfl, fun i hi => absurd hi (Nat.not_lt_zero i)⟩
    · exact ⟨v, zFr_T a ⟨fun e => hout.2 x hx e.symm, fun e => hxi e.symm, fun h => absurd h (by decide)⟩ g1, g2, by rw [h33 x hx, if_neg hxi]; exact g3, fun i hi => by rw [b.2.2.1 32 _ hA]; exact g4 i hi⟩
theorem zout_ne (lev : Nat) (h : lev < 5) : (4 + 4 * lev ≠ 2 ∧ ∀ b, b < 10 → 4 + 4 * lev ≠ zbt b) ∧ 4 + 4 * lev < 23 ∧ 4 + 4 * lev ≠ 1 := by
  refine ⟨⟨by omega, fun b hb => fun e => ((zbt_in b hb).2.2 lev).1 e.symm⟩, by omega, by omega⟩
theorem wcs1 (x : Int) (hx : zOk x) : (Option.bind (if zI x = zI 32 then some true else if ¬ zI x = zI 10 then some false else some true) fun (b16 : Bool) => if b16 = true then some (1 : Int) else some 0) = some (zB (decide (x = 10 ∨ x = 32))) := by
  unfold zOk at hx
  simp (disch := omega) only [zI_eq]
  by_cases h32 : x = 32
  · simp [h32, zB]
  · by_cases h10 : x = 10
    · simp [h10, zB]
    · simp [h32, h10, zB]
theorem wcs2 (x : Int) (hx : zOk x) : (if ¬ zI x = zI 10 then some (0 : Int) else some 1) = some (((if x = 10 then 1 else 0 : Nat)) : Int) := by
  unfold zOk at hx
  simp (disch := omega) only [zI_eq]
  by_cases h10 : x = 10
  · simp [h10]
  · simp [h10]
theorem wcs3 (x : Int) (hx : zOk x) (a : Nat) : (if ¬ zI x = zI 10 then some (a : Int) else some ((a : Int) + 1)) = some ((a + (if x = 10 then 1 else 0 : Nat) : Nat) : Int) := by
  unfold zOk at hx
  simp (disch := omega) only [zI_eq]
  by_cases h10 : x = 10
  · simp [h10]
  · simp [h10]
theorem wcs4 (x : Int) (hx : zOk x) : (if zI x = zI 10 then some true else if ¬ zI x = zI 32 then some false else some true) = some (decide (x = 10 ∨ x = 32)) := by
  unfold zOk at hx
  simp (disch := omega) only [zI_eq]
  by_cases h10 : x = 10
  · simp [h10]
  · by_cases h32 : x = 32
    · simp [h32]
    · simp [h10, h32]
theorem wcs5 (x : Int) (hx : zOk x) : (if zI x = zI 10 then some true else if zI x = zI 32 then some true else some false) = some (decide (x = 10 ∨ x = 32)) := by
  unfold zOk at hx
  simp (disch := omega) only [zI_eq]
  by_cases h10 : x = 10
  · simp [h10]
  · by_cases h32 : x = 32
    · simp [h32]
    · simp [h10, h32]
/-- the loops of wc -/
theorem wc_loop (F : Nat) (hF : 170 ≤ F) {v : List Int} (hv : v.length ≤ 160) (hok : ∀ x ∈ v, zOk x) (lev src inp : Nat) (hlev : lev < 5) (hsrc : src ≠ 4 + 4 * lev) (hinp : inp ≠ 4 + 4 * lev) (hi23 : inp < 23) (fi : Bool) : ∀ (j k n n2 : Nat) (u : ZC) (r : ZR) (a p : Nat) (bt : Bool), k + j = v.length → j < n → j < n2 → a ≤ k → p ≤ k → (bt = true ↔ (k = 0 ∨ v.getD (k - 1) 0 = 10 ∨ v.getD (k - 1) 0 = 32)) → zlim u r → zlT u src → cN u src ≤ 200 → zT u src v → zSrc r v → zH u (4 + 4 * lev) [] → zHr r [] →
    ∃ (w : List Int) (u2 : ZC) (r2 : ZR), cTools_wc_74 F n u inp (4 + 4 * lev) (zB fi) src (a : Int) (p : Int) (zB bt) (k : Int) = some (0, u2) ∧ r_wc_26 F n2 r (a : Int) (p : Int) (k : Int) = some (0, r2) ∧ zH u2 (4 + 4 * lev) w ∧ zHr r2 w ∧ zq [35, 36] [34] r r2 ∧ (fi = false → zFr (4 + 4 * lev) (4 + 4 * lev) 0 0 u u2) ∧ (fi = true → zFr (4 + 4 * lev) inp 0 0 u u2 ∧ zT u2 inp []) := by
  have hlt : ∀ u : ZC, zlT u (4 + 4 * lev) := fun u => Or.inl (by omega)
  intro j
  induction j with
  | zero =>
    intro k n n2 u r a p bt hk hn hn2 hak hpk hbt HL hls hcs hT hS hH hHr
    obtain ⟨n, rfl⟩ : ∃ n', n = n' + 1 := ⟨n - 1, by omega⟩
    obtain ⟨n2, rfl⟩ : ∃ n', n2 = n' + 1 := ⟨n2 - 1, by omega⟩
    obtain ⟨hc1, hc2, -⟩ := zcap HL lev hlev
    obtain ⟨u1, a1, a2, a3⟩ := addNumber_is F (by omega) (hlt u) hc2 hH a (by omega)
    obtain ⟨u2, b1, b2, b3⟩ := add_is F (hlt u1) (by rw [a3.2.2.2.2.1]; exact hc2) a2 32 (Or.inr (by omega))
    have f12 := zFr_tr a3 b3
    obtain ⟨u3, c1, c2, c3⟩ := addNumber_is F (by omega) (hlt u2) (by rw [f12.2.2.2.2.1]; exact hc2) b2 p (by omega)
    have f13 := zFr_tr f12 c3
    obtain ⟨u4, d1, d2, d3⟩ := add_is F (hlt u3) (by rw [f13.2.2.2.2.1]; exact hc2) c2 32 (Or.inr (by omega))
    have f14 := zFr_tr f13 d3
    have e0 : cI u4 0 src = (v.length : Int) := by rw [f14.1 0 src (by omega) (by omega)]; exact hT.1
    obtain ⟨u5, e1, e2, e3⟩ := addNumber_is F (by omega) (hlt u4) (by rw [f14.2.2.2.2.1]; exact hc2) d2 v.length (by omega)
    have f15 := zFr_tr f14 e3
    obtain ⟨u6, g1, g2, g3⟩ := add_is F (hlt u5) (by rw [f15.2.2.2.2.1]; exact hc2) e2 10 (Or.inl rfl)
    have f16 := zFr_tr f15 g3
    obtain ⟨r1, A1, A2, A3⟩ := emitNumber_is F (by omega) hHr a (by omega)
    obtain ⟨r2, B1, B2, B3⟩ := emit_is F A2 32
    obtain ⟨r3, C1, C2, C3⟩ := emitNumber_is F (by omega) B2 p (by omega)
    obtain ⟨r4, D1, D2, D3⟩ := emit_is F C2 32
    have q14 := zq_tr (zq_tr (zq_tr A3 B3) C3) D3
    have E0 : rI r4 38 = (v.length : Int) := by rw [q14.1 38 (by decide)]; exact hS.1
    obtain ⟨r5, E1, E2, E3⟩ := emitNumber_is F (by omega) D2 v.length (by omega)
    obtain ⟨r6, G1, G2, G3⟩ := emit_is F E2 10
    have q16 := zq_tr (zq_tr q14 E3) G3
    have hls4 : zlT u4 src := zlT_keep f14.2.2.2.2.2 hls
    have hcond : zI (v.length : Int) ≤ zI (k : Int) := by rw [zI_le (by omega) (by omega) (by omega) (by omega)]; omega
    rw [cTools_wc_74, if_pos hls, hT.1, r_wc_26, hS.1]
    simp only [if_pos hcond, if_pos (hlt u), a1, b1, c1, d1, e1, g1, A1, B1, C1, D1, E1, G1, Option.bind_some, if_pos (hlt u1), if_pos (hlt u2), if_pos (hlt u3), if_pos (hlt u4), if_pos (hlt u5), if_pos hls4, e0, E0]
    cases fi
    · simp only [zB_f, z00, if_true, Option.bind_some]
      exact ⟨_, u6, r6, rfl, rfl, g2, G2, q16, fun _ => f16, fun hh => absurd hh (by decide)⟩
    · obtain ⟨u7, h1, h2, h3⟩ := clear_is F (u := u6) (t := inp) (Or.inl hi23)
      simp only [zB_t, z10, if_false, if_pos (show zlT u6 inp from Or.inl hi23), h1, Option.bind_some]
      refine ⟨_, u7, r6, rfl, rfl, zFr_H h3 (by omega) g2, G2, q16, fun hh => absurd hh (by decide), fun _ => ⟨zFr_tr (zFr_mono f16 (by omega) (by omega) (by omega) (by omega)) (zFr_mono h3 (by omega) (by omega) (by omega) (by omega)), (h2.2.1 (Nat.zero_le _)).2⟩⟩
  | succ j ih =>
    intro k n n2 u r a p bt hk hn hn2 hak hpk hbt HL hls hcs hT hS hH hHr
    obtain ⟨n, rfl⟩ : ∃ n', n = n' + 1 := ⟨n - 1, by omega⟩
    obtain ⟨n2, rfl⟩ : ∃ n', n2 = n' + 1 := ⟨n2 - 1, by omega⟩
    have hx : zOk (v.getD k 0) := hok _ (by rw [zgE v k (by omega)]; exact List.getElem_mem _)
    have hx' := hx
    unfold zOk at hx'
    have eC : cA u 0 src k = v.getD k 0 := hT.2.2.1 k (by omega)
    have eR : rA r 37 k = v.getD k 0 := by have := hS.2.2.2.1 k (by omega); rw [Nat.zero_add] at this; exact this
    obtain ⟨sep, hsep⟩ : ∃ sep : Bool, sep = decide (v.getD k 0 = 10 ∨ v.getD k 0 = 32) := ⟨_, rfl⟩
    obtain ⟨nl, hnl⟩ : ∃ nl : Nat, nl = if v.getD k 0 = 10 then 1 else 0 := ⟨_, rfl⟩
    obtain ⟨pc, hpc⟩ : ∃ pc : Nat, pc = if bt = true ∧ sep = false then 1 else 0 := ⟨_, rfl⟩
    have h17 : (Option.bind (if zI (v.getD k 0) = zI 32 then some true else if ¬ zI (v.getD k 0) = zI 10 then some false else some true) fun (b16 : Bool) => if b16 = true then some (1 : Int) else some 0) = some (zB sep) := by
      rw [hsep]
      exact wcs1 _ hx
    have h18 : (if ¬ zI (v.getD k 0) = zI 10 then some (0 : Int) else some 1) = some (nl : Int) := by
      rw [hnl]
      exact wcs2 _ hx
    have h20 : (Option.bind (if zI (zB bt) = 0 then some true else if ¬ zI (zB sep) = 0 then some true else some false) fun (b19 : Bool) => if b19 = true then some (0 : Int) else some 1) = some (pc : Int) := by
      rw [hpc]
      cases bt
      · rfl
      · cases sep
        · rfl
        · rfl
    have hnl1 : nl ≤ 1 := by rw [hnl]; split <;> omega
    have hpc1 : pc ≤ 1 := by rw [hpc]; split <;> omega
    obtain ⟨w, u2, r2, g⟩ := ih (k + 1) n n2 u r (a + nl) (p + pc) sep (by omega) (by omega) (by omega) (by omega) (by omega) (by rw [hsep, Nat.add_sub_cancel]; simp) HL hls hcs hT hS hH hHr
    refine ⟨w, u2, r2, ?_, ?_, g.2.2⟩
    · rw [cTools_wc_74, if_pos hls, hT.1, if_neg (by rw [zI_le (by omega) (by omega) (by omega) (by omega)]; omega), if_pos (show zix (k : Int) (cN u src) from ⟨by omega, by have := hT.2.1; omega, by omega⟩), Int.toNat_natCast, eC, h17, h18]
      simp only [Option.bind_some]
      rw [h20]
      simp only [Option.bind_some]
      rw [show (a : Int) + (nl : Int) = ((a + nl : Nat) : Int) by omega, show (p : Int) + (pc : Int) = ((p + pc : Nat) : Int) by omega, show (k : Int) + 1 = ((k + 1 : Nat) : Int) by omega]
      exact g.1
    · have h9 : (if ¬ zI (v.getD k 0) = zI 10 then some (a : Int) else some ((a : Int) + 1)) = some ((a + nl : Nat) : Int) := by
        rw [hnl]
        exact wcs3 _ hx a
      have h11 : (Option.bind (if zI (k : Int) = 0 then some true else if zix ((k : Int) - 1) 160 then (if zI (rA r 37 ((k : Int) - 1).toNat) = zI 10 then some true else if ¬ zI (rA r 37 ((k : Int) - 1).toNat) = zI 32 then some false else some true) else none) fun (b10 : Bool) => if b10 = true then some (1 : Int) else some 0) = some (zB bt) := by
        by_cases h0 : k = 0
        · have : bt = true := hbt.2 (Or.inl h0)
          rw [this, h0]
          rfl
        · have eP : rA r 37 ((k : Int) - 1).toNat = v.getD (k - 1) 0 := by
            rw [show ((k : Int) - 1).toNat = k - 1 by omega]
            have := hS.2.2.2.1 (k - 1) (by omega)
            rw [Nat.zero_add] at this
            exact this
          have hxp : zOk (v.getD (k - 1) 0) := hok _ (by rw [zgE v (k - 1) (by omega)]; exact List.getElem_mem _)
          rw [if_neg (by rw [zI_eq0 (by omega) (by omega)]; omega), if_pos (show zix ((k : Int) - 1) 160 from ⟨by omega, by omega, by omega⟩), eP, wcs4 _ hxp]
          have hbb : bt = decide (v.getD (k - 1) 0 = 10 ∨ v.getD (k - 1) 0 = 32) := by
            cases hb : bt
            · symm
              apply decide_eq_false
              intro hh
              rw [hbt.2 (Or.inr hh)] at hb
              cases hb
            · symm
              apply decide_eq_true
              exact (hbt.1 hb).resolve_left h0
          rw [hbb]
          cases decide (v.getD (k - 1) 0 = 10 ∨ v.getD (k - 1) 0 = 32)
          · rfl
          · rfl
      have h13 : (Option.bind (if zI (zB bt) = 0 then some true else if zI (v.getD k 0) = zI 10 then some true else if zI (v.getD k 0) = zI 32 then some true else some false) fun (b12 : Bool) => if b12 = true then some (p : Int) else some ((p : Int) + 1)) = some ((p + pc : Nat) : Int) := by
        rw [wcs5 _ hx, ← hsep, hpc]
        cases bt
        · rfl
        · cases sep
          · rfl
          · rfl
      rw [← g.2.1, r_wc_26, hS.1, if_neg (by rw [zI_le (by omega) (by omega) (by omega) (by omega)]; omega), if_pos (show zix (k : Int) 160 from ⟨by omega, by omega, by omega⟩), Int.toNat_natCast, eR, h9]
      simp only [Option.bind_some]
      rw [h11]
      simp only [Option.bind_some]
      rw [h13]
      simp only [Option.bind_some]
      rw [show (k : Int) + 1 = ((k + 1 : Nat) : Int) by omega]
/-- what a tool leaves behind: status, output, the rest as it was -/
def zDone (u : ZC) (r : ZR) (c lev inp : Nat) (x : Option (Int × ZC)) (y : Option (Int × ZR)) : Prop :=
  ∃ (st : Int) (w : List Int) (u2 : ZC) (r2 : ZR), x = some (st, u2) ∧ y = some (st, r2) ∧ (st = 0 ∨ st = 1 ∨ st = 2) ∧ (st ≠ 0 → w = []) ∧ zH u2 (4 + 4 * lev) w ∧ zHr r2 w ∧ zFr (4 + 4 * lev) inp 0 1 u u2 ∧ zq [35, 36, 38, 39, 42, 43, 44] [33, 34, 37, 40, 41] r r2 ∧ zBs u2 r2 ∧ zPb u2 c
theorem zEv_inp {u : ZC} {r : ZR} {c h lev inp : Nat} {ws : List (List Int)} (E : zEv u r c h lev inp ws) : inp ≠ 4 + 4 * lev ∧ inp < 23 ∧ inp ≠ 1 ∧ inp ≠ 7777 := by
  rcases E.2.2.2.2.2.2 with ⟨hi, -⟩ | ⟨b, hb, hi, -⟩
  · omega
  · have := zbt_in b hb
    have h4 := (this.2.2 lev).1
    omega
theorem zPb_fr {t t2 W : Nat} {u w : ZC} {c : Nat} (a : zFr t t2 W 0 u w) (H : zPb u c) : zPb w c := by
  unfold zPb at H ⊢
  rw [a.2.2.1 2 0 (by omega), a.2.2.1 3 0 (by omega)]
  exact H
theorem zdone_0 {u : ZC} {r : ZR} {c h lev inp : Nat} {ws : List (List Int)} (E : zEv u r c h lev inp ws) (hH : zH u (4 + 4 * lev) []) (hHr : zHr r []) (st : Int) (hst : st = 0 ∨ st = 1 ∨ st = 2) : zDone u r c lev inp (some (st, u)) (some (st, r)) :=
  ⟨st, [], u, r, rfl, rfl, hst, fun _ => rfl, hH, hHr, zFr_rf _ _ _ _ u, zq_rf _ _ r, E.2.2.2.2.1, E.2.2.2.2.2.1⟩
theorem wc_alike (F : Nat) (hF : 170 ≤ F) {u : ZC} {r : ZR} {c h lev inp : Nat} {ws : List (List Int)} (E : zEv u r c h lev inp ws) (hH : zH u (4 + 4 * lev) []) (hHr : zHr r []) : zDone u r c lev inp (cTools_wc F u inp (4 + 4 * lev)) (r_wc F r) := by
  have E0 := E
  obtain ⟨hi1, hi2, hi3, hi4⟩ := zEv_inp E
  obtain ⟨HT, HL, ⟨hl, HW, HR, hw1⟩, ⟨hlev, h21⟩, HB, HP, HI⟩ := E
  have hw64 := HW.2.1
  obtain ⟨hone, ho23, ho1⟩ := zout_ne lev hlev
  unfold cTools_wc r_wc
  rw [HW.1, HR.1]
  by_cases h2 : ws.length ≤ 2
  · have hc : zI (ws.length : Int) ≤ zI 2 := by rw [zI_le (by omega) (by omega) (by omega) (by omega)]; omega
    simp only [if_pos hc]
    by_cases h1 : ws.length = 1
    · -- from the input
      obtain ⟨v, r2, g1, g2, g3, g4, g5⟩ := src_in F hF E0 1 (by omega) (by omega)
      have g1' : r_reads F r 1 = some (1, r2) := g1
      have hHr2 : zHr r2 [] := zHr_keep g4 (by decide) (by decide) hHr
      have HL2 : zlim u r2 := zlim_fr (zFr_rf 7777 7777 0 0 u) g4 (by decide) HL
      have hlc : cN u inp ≤ 200 := by
        rcases HI with ⟨hi, -⟩ | ⟨b, hb, hi, -⟩
        · rw [hi, HL.2.2.2.2.1]; omega
        · have hN := HL.2.2.2.2.2 (b / 2) (by omega)
          have h3 := HL.2.2.1
          have h5 := HL.2.1
          rw [hi]
          unfold zbt
          split
          · have := hN.2.2.1
            rw [show 5 + 2 * b = 5 + 4 * (b / 2) by omega]
            omega
          · have := hN.2.2.2
            rw [show 4 + 2 * b = 6 + 4 * (b / 2) by omega]
            omega
      obtain ⟨w, u3, r3, k1, k2, k3, k4, k5, -, k6⟩ := wc_loop F hF g3.2.1 g3.2.2.1 lev inp inp hlev hi1 hi1 hi2 true v.length 0 F F u r2 0 0 true (by omega) (by have := g3.2.1; omega) (by have := g3.2.1; omega) (Nat.le_refl _) (Nat.le_refl _) (by simp) HL2 (Or.inl hi2) hlc g2 g3 hH hHr2
      obtain ⟨k6, k7⟩ := k6 rfl
      have k1' : cTools_wc_74 F F u inp (4 + 4 * lev) 1 inp 0 0 1 0 = some (0, u3) := k1
      have k2' : r_wc_26 F F r2 0 0 0 = some (0, r3) := k2
      have hF2 : zFr (4 + 4 * lev) inp 0 1 u u3 := zFr_mono k6 (by omega) (by omega) (by omega) (by omega)
      have hQ : zq [35, 36, 38, 39, 42, 43, 44] [33, 34, 37, 40, 41] r r3 := zq_tr (zq_mono g4 (by decide) (by decide)) (zq_mono k5 (by decide) (by decide))
      rw [h1, if_neg (not_not_intro (by rfl))]
      simp only [Option.bind_some, zb2_some, Option.elim_some, g1', not_false_iff, if_true, if_false, z10, k1', k2']
      exact ⟨0, w, u3, r3, rfl, rfl, Or.inl rfl, fun hh => absurd rfl hh, k3, k4, hF2, hQ, zBs_clear HB hF2 hone k7 hQ (by decide) (fun b hb => by rw [k5.2.2.1 33 b (by decide)]; exact g5 b hb), zPb_fr k6 HP⟩
    · -- from a file
      obtain ⟨p, u2, r2, g1, g2, g3, g4, g5⟩ := src_word F hF E0 1 (by omega)
      have g1' : cTree_follow F u 1 = some (p, u2) := g1
      have hne : ¬ zI (ws.length : Int) = zI 1 := by rw [zI_eq (by omega) (by omega) (by omega) (by omega)]; omega
      have hF2 : zFr (4 + 4 * lev) inp 0 1 u u2 := g2 _ _
      have hQ2 : zq [35, 36, 38, 39, 42, 43, 44] [33, 34, 37, 40, 41] r r2 := zq_mono g3 (by decide) (by decide)
      have hH2 : zH u2 (4 + 4 * lev) [] := zFr_H (g2 7777 7777) (by omega) hH
      have hHr2 : zHr r2 [] := zHr_keep g3 (by decide) (by decide) hHr
      have HB2 : zBs u2 r2 := zBs_fr (g2 7777 7777) ⟨by decide, fun b hb => by have := (zbt_in b hb).2.1; omega⟩ ⟨by decide, fun b hb => by have := (zbt_in b hb).2.1; omega⟩ g3 (by decide) HB
      simp only [if_pos hne, Option.bind_some, if_pos z00, g1', zb2_some]
      rcases g5 with ⟨k1, k2⟩ | ⟨t, v, k1, k2, k3, k4, k5, k6, k7⟩
      · have k2' : r_reads F r 1 = some (0, r2) := k2
        rw [k1, k2']
        simp only [Option.bind_some, zb2_some, Option.elim_none, z00, not_true, if_false]
        exact ⟨1, [], u2, r2, rfl, rfl, Or.inr (Or.inl rfl), fun _ => rfl, hH2, hHr2, hF2, hQ2, HB2, g4⟩
      · have k2' : r_reads F r 1 = some (1, r2) := k2
        have HL2 : zlim u2 r2 := zlim_fr (g2 7777 7777) g3 (by decide) HL
        obtain ⟨w, u3, r3, m1, m2, m3, m4, m5, m6, -⟩ := wc_loop F hF k4.2.1 k4.2.2.1 lev t inp hlev (by omega) hi1 hi2 false v.length 0 F F u2 r2 0 0 true (by omega) (by have := k4.2.1; omega) (by have := k4.2.1; omega) (Nat.le_refl _) (Nat.le_refl _) (by simp) HL2 k6 (by omega) k3 k4 hH2 hHr2
        have m6 := m6 rfl
        have m1' : cTools_wc_74 F F u2 inp (4 + 4 * lev) 0 t 0 0 1 0 = some (0, u3) := m1
        have m2' : r_wc_26 F F r2 0 0 0 = some (0, r3) := m2
        rw [k1, k2']
        simp only [Option.bind_some, zb2_some, Option.elim_some, z10, not_false_iff, if_true, m1', m2']
        exact ⟨0, w, u3, r3, rfl, rfl, Or.inl rfl, fun hh => absurd rfl hh, m3, m4, zFr_tr hF2 (zFr_mono m6 (by omega) (by omega) (by omega) (by omega)), zq_tr hQ2 (zq_mono m5 (by decide) (by decide)), zBs_fr m6 hone hone m5 (by decide) HB2, zPb_fr m6 g4⟩
  · have hc : ¬ zI (ws.length : Int) ≤ zI 2 := by rw [zI_le (by omega) (by omega) (by omega) (by omega)]; omega
    simp only [if_neg hc]
    exact zdone_0 E0 hH hHr 2 (Or.inr (Or.inr rfl))
