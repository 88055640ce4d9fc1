/-! paths on both sides: the whole path -/
theorem cscan (F : Nat) {u : ZC} {fl : List Int} (hfl : fl.length ≤ 96) (hL : zlw fl) (hT : zT u 1 fl) (hN : cN u 1 = 96) (a b e : Nat) (hbe : b ≤ e) (he : e ≤ fl.length) (hno : ∀ i, a ≤ i → i < b → fl.getD i 0 ≠ 47) : ∀ (j i n : Nat), i + j = b → a ≤ i → ∃ n2, n ≤ n2 + j ∧ n2 ≤ n ∧ (j ≤ n → n2 + j = n ∧ cTree_follow_71 F n u (e : Int) (zpc (zsl fl a i) 0) ((zsl fl a i).length : Int) (zB ((zsl fl a i).all zNb)) (i : Int) = cTree_follow_71 F n2 u (e : Int) (zpc (zsl fl a b) 0) ((zsl fl a b).length : Int) (zB ((zsl fl a b).all zNb)) (b : Int)) := by
  intro j
  induction j with
  | zero =>
    intro i n hi hai
    have : i = b := by omega
    subst this
    exact ⟨n, Nat.le_refl _, Nat.le_refl _, fun _ => ⟨rfl, rfl⟩⟩
  | succ j ih =>
    intro i n hi hai
    by_cases hn : n = 0
    · exact ⟨0, by omega, by omega, fun h => by omega⟩
    · obtain ⟨n, rfl⟩ : ∃ n', n = n' + 1 := ⟨n - 1, by omega⟩
      obtain ⟨n2, g1, g2, g3⟩ := ih (i + 1) n (by omega) (by omega)
      refine ⟨n2, by omega, by omega, fun hj => ⟨by have := (g3 (by omega)).1; omega, ?_⟩⟩
      rw [← (g3 (by omega)).2]
      have hx := zlw_get hL i (by omega)
      have h47 := hno i hai (by omega)
      have eA := hT.2.2.1 i (by omega)
      have hz : zix (i : Int) (cN u 1) := ⟨by omega, by omega, by omega⟩
      have hsn := zsl_snoc fl a i hai (by omega)
      rw [cTree_follow_71, if_neg (by rw [zI_lt (by omega) (by omega) (by omega) (by omega)]; omega), if_neg (show ¬ zI (e : Int) ≤ zI (i : Int) by rw [zI_le (by omega) (by omega) (by omega) (by omega)]; omega)]
      simp only [if_pos hz, Int.toNat_natCast, eA]
      rw [if_neg (show ¬ zI (fl.getD i 0) = zI 47 by rw [zI_eq (by omega) (by omega) (by omega) (by omega)]; exact h47), nameLetter_is F u _ hx]
      simp only [Option.bind_some, reduceCtorEq, if_false]
      have hpl : (Option.bind (if zI (zB ((zsl fl a i).all zNb)) = 0 then some true else if zI (zB (zNb (fl.getD i 0))) = 0 then some true else some false) fun (b10 : Bool) => if b10 = true then some (0 : Int) else some 1) = some (zB ((zsl fl a (i + 1)).all zNb)) := by
        rw [hsn, List.all_append, List.all_cons, List.all_nil, Bool.and_true]
        cases (zsl fl a i).all zNb
        · rfl
        · cases zNb (fl.getD i 0)
          · rfl
          · rfl
      rw [hpl]
      simp only [Option.bind_some, zb4_some]
      have e1 : (zlshl (zpc (zsl fl a i) 0) 8) ||| (zi2l (fl.getD i 0)) = zpc (zsl fl a (i + 1)) 0 := by
        rw [hsn]
        unfold zpc
        rw [List.foldl_append]
        rfl
      have e2 : ((zsl fl a i).length : Int) + 1 = ((zsl fl a (i + 1)).length : Int) := by
        rw [hsn, List.length_append, List.length_singleton]
        omega
      rw [e1, e2, show (i : Int) + 1 = ((i + 1 : Nat) : Int) by omega]
theorem rscan (F : Nat) {r : ZR} {fl : List Int} (hfl : fl.length ≤ 96) (hL : zlw fl) (H : zRA r 20 0 fl) (K : ZR → Int → Int → Option ZR) (a b e : Nat) (hbe : b ≤ e) (he : e ≤ fl.length) (hno : ∀ i, a ≤ i → i < b → fl.getD i 0 ≠ 47) : ∀ (j i n : Nat), i + j = b → a ≤ i → r_follow_55 F K (n + j) r (e : Int) (a : Int) (i : Int) = r_follow_55 F K n r (e : Int) (a : Int) (b : Int) := by
  intro j
  induction j with
  | zero =>
    intro i n hi hai
    have : i = b := by omega
    subst this
    rfl
  | succ j ih =>
    intro i n hi hai
    have hx := zlw_get hL i (by omega)
    have h47 := hno i hai (by omega)
    have eA := H i (by omega)
    rw [Nat.zero_add] at eA
    rw [← ih (i + 1) n (by omega) (by omega), show n + (j + 1) = (n + j) + 1 by omega, r_follow_55, if_neg (show ¬ zI (e : Int) ≤ zI (i : Int) by rw [zI_le (by omega) (by omega) (by omega) (by omega)]; omega), if_pos (show zix (i : Int) 200 from ⟨by omega, by omega, by omega⟩), Int.toNat_natCast, eA, if_neg (show ¬ zI (fl.getD i 0) = zI 47 by rw [zI_eq (by omega) (by omega) (by omega) (by omega)]; exact h47)]
    simp only [Option.bind_some, reduceCtorEq, if_false]
    rw [show (i : Int) + 1 = ((i + 1 : Nat) : Int) by omega]
theorem zslash (fl : List Int) (e : Nat) : ∀ (j a : Nat), a + j = e → ∃ b, a ≤ b ∧ b ≤ e ∧ (b = e ∨ fl.getD b 0 = 47) ∧ ∀ i, a ≤ i → i < b → fl.getD i 0 ≠ 47 := by
  intro j
  induction j with
  | zero => intro a ha; exact ⟨a, Nat.le_refl _, by omega, Or.inl (by omega), fun i h1 h2 => by omega⟩
  | succ j ih =>
    intro a ha
    by_cases h47 : fl.getD a 0 = 47
    · exact ⟨a, Nat.le_refl _, by omega, Or.inr h47, fun i h1 h2 => by omega⟩
    · obtain ⟨b, h1, h2, h3, h4⟩ := ih (a + 1) (by omega)
      refine ⟨b, by omega, h2, h3, fun i g1 g2 => ?_⟩
      by_cases hi : i = a
      · rw [hi]; exact h47
      · exact h4 i (by omega) g2
theorem zPa_fr {u w : ZC} {r s : ZR} {c : Nat} (h2 : cP w 2 0 = cP u 2 0) (h3 : cP w 3 0 = cP u 3 0) (h6 : ∀ d, cP w 6 d = cP u 6 d) (h5 : ∀ d, cP w 5 d = cP u 5 d) (hJ : ∀ f o, cJ w f o = cJ u f o) (g1 : rI s 42 = rI r 42) (g2 : rI s 43 = rI r 43) (g3 : rJ s 44 = rJ r 44) (H : zPa u r c) : zPa w s c := by
  unfold zPa zM at H ⊢
  rw [h2, h3, g1, g2, g3]
  simp only [h6, h5, hJ]
  exact H
theorem follow_loop (F : Nat) (hF : 110 ≤ F) {c h : Nat} {fl : List Int} (hfl : fl.length ≤ 96) (hL : zlw fl) (e : Nat) (he : e ≤ fl.length) : ∀ (f a : Nat) (u : ZC) (r : ZR) (n n2 : Nat), e - a = f → a ≤ e → e - a + 2 ≤ n → e - a + 2 ≤ n2 → zTree u r c h → zPa u r c → zT u 1 fl → cN u 1 = 96 → zRA r 20 0 fl →
    ∃ (u2 : ZC) (r2 : ZR), cTree_follow_71 F n u (e : Int) 0 0 1 (a : Int) = some (cP u2 2 0, u2) ∧ r_follow_47 F n2 r (e : Int) (a : Int) = some r2 ∧ zPa u2 r2 c ∧ zFp u u2 ∧ zq [42, 43, 44] [] r r2 := by
  intro f
  induction f using Nat.strongRecOn with
  | _ f ih =>
    intro a u r n n2 hf hae hn hn2 HT HP hT hN hR
    obtain ⟨b, b1, b2, b3, b4⟩ := zslash fl e (e - a) a (by omega)
    obtain ⟨u2, r2, c1, c2, c2b, c3, c4, c5⟩ := piece_alike F (by omega) HT HP hfl hL hR a b e b1 b2 he b3
    have HT2 : zTree u2 r2 c h := zTree_fr (c4 7777 7777) (Or.inr rfl) (Or.inr rfl) c5 (by decide) (by decide) HT
    have hT2 : zT u2 1 fl := zFr_T (c4 7777 7777) (by omega) hT
    have hN2 : cN u2 1 = 96 := by rw [(c4 7777 7777).2.2.2.2.1]; exact hN
    have hR2 : zRA r2 20 0 fl := fun i hi => by rw [c5.2.2.1 20 _ (by decide)]; exact hR i hi
    obtain ⟨m, -, -, hm⟩ := cscan F hfl hL hT hN a b e b2 he b4 (b - a) a n (by omega) (Nat.le_refl _)
    obtain ⟨hm1, hm2⟩ := hm (by omega)
    have hz0 : zsl fl a a = [] := List.eq_nil_of_length_eq_zero (by rw [zsl_len fl a a (by omega)]; omega)
    rw [hz0] at hm2
    have hm2' : cTree_follow_71 F n u (e : Int) 0 0 1 (a : Int) = cTree_follow_71 F m u (e : Int) (zpc (zsl fl a b) 0) ((zsl fl a b).length : Int) (zB ((zsl fl a b).all zNb)) (b : Int) := hm2
    obtain ⟨m, rfl⟩ : ∃ m', m = m' + 1 := ⟨m - 1, by omega⟩
    have hstep : cTree_follow_71 F (m + 1) u (e : Int) (zpc (zsl fl a b) 0) ((zsl fl a b).length : Int) (zB ((zsl fl a b).all zNb)) (b : Int) = cTree_follow_71 F m u2 (e : Int) 0 0 1 ((b + 1 : Nat) : Int) := by
      have hb7 : (if zI (e : Int) ≤ zI (b : Int) then some true else if zix (b : Int) (cN u 1) then (if zI (cA u 0 1 (b : Int).toNat) = zI 47 then some true else some false) else none) = some true := by
        by_cases hbe2 : b = e
        · rw [if_pos (by rw [zI_le (by omega) (by omega) (by omega) (by omega)]; omega)]
        · have e47 := b3.resolve_left hbe2
          rw [if_neg (by rw [zI_le (by omega) (by omega) (by omega) (by omega)]; omega), if_pos (show zix (b : Int) (cN u 1) from ⟨by omega, by omega, by omega⟩), Int.toNat_natCast, hT.2.2.1 b (by omega), e47, if_pos rfl]
      rw [cTree_follow_71, if_neg (by rw [zI_lt (by omega) (by omega) (by omega) (by omega)]; omega), hb7]
      simp only [Option.bind_some, if_true, c1, zb4_some]
      rw [show (b : Int) + 1 = ((b + 1 : Nat) : Int) by omega]
    rw [hm2', hstep]
    by_cases hbe : b = e
    · -- the last piece
      obtain ⟨m, rfl⟩ : ∃ m', m = m' + 1 := ⟨m - 1, by omega⟩
      refine ⟨u2, r2, ?_, ?_, c3, c4, c5⟩
      · rw [cTree_follow_71, if_pos (by rw [zI_lt (by omega) (by omega) (by omega) (by omega)]; omega)]
        rfl
      · obtain ⟨n2, rfl⟩ : ∃ m', n2 = m' + 1 := ⟨n2 - 1, by omega⟩
        rw [r_follow_47]
        by_cases hae2 : a < e
        · obtain ⟨n2, rfl⟩ : ∃ m', n2 = m' + 1 := ⟨n2 - 1, by omega⟩
          obtain ⟨G, hG⟩ : ∃ G, F = (G + 1) + (b - a) := ⟨F - (b - a) - 1, by omega⟩
          have hs := rscan F hfl hL hR (r_follow_47 F (n2 + 1)) a b e b2 he b4 (b - a) a (G + 1) (by omega) (Nat.le_refl _)
          rw [if_neg (by rw [zI_le (by omega) (by omega) (by omega) (by omega)]; omega)]
          rw [← hG] at hs
          rw [hs, c2 (r_follow_47 F (n2 + 1)) G hae2, r_follow_47, if_pos (by rw [zI_le (by omega) (by omega) (by omega) (by omega)]; omega)]
        · rw [if_pos (by rw [zI_le (by omega) (by omega) (by omega) (by omega)]; omega), c2b hae2]
    · obtain ⟨n2, rfl⟩ : ∃ m', n2 = m' + 1 := ⟨n2 - 1, by omega⟩
      obtain ⟨u3, r3, d1, d2, d3, d4, d5⟩ := ih (e - (b + 1)) (by omega) (b + 1) u2 r2 m n2 rfl (by omega) (by omega) (by omega) HT2 c3 hT2 hN2 hR2
      refine ⟨u3, r3, d1, ?_, d3, zFp_tr c4 d4, zq_tr c5 d5⟩
      obtain ⟨G, hG⟩ : ∃ G, F = (G + 1) + (b - a) := ⟨F - (b - a) - 1, by omega⟩
      have hs := rscan F hfl hL hR (r_follow_47 F n2) a b e b2 he b4 (b - a) a (G + 1) (by omega) (Nat.le_refl _)
      rw [← hG] at hs
      rw [r_follow_47, if_neg (by rw [zI_le (by omega) (by omega) (by omega) (by omega)]; omega), hs, c2 (r_follow_47 F n2) G (by omega), show (b : Int) + 1 = ((b + 1 : Nat) : Int) by omega]
      exact d2
/-- follow, on both sides -/
theorem follow_alike (F : Nat) (hF : 110 ≤ F) {u : ZC} {r : ZR} {c h : Nat} {ws : List (List Int)} (HT : zTree u r c h) (hl : zwl ws) (HW : zW u ws) (HR : zWr r ws) (k : Nat) (hk : k < ws.length) :
    ∃ (u2 : ZC) (r2 : ZR), cTree_follow F u (k : Int) = some (cP u2 2 0, u2) ∧ r_follow F r (k : Int) = some r2 ∧ zPa u2 r2 c ∧ zFp u u2 ∧ zq [42, 43, 44] [] r r2 := by
  have hT := zW_T HW
  obtain ⟨h1, h2, h3⟩ := zst_mono ws k hk
  have hw2 := HW.2.1
  have hfl := HW.2.2.2.1.1
  have hN := HW.2.2.1
  have hL := zwl_flat hl
  obtain ⟨w1, w2, w3, w4, w5⟩ := HR
  -- where the path begins
  have hroot : ∃ x : Nat, x ≤ c ∧ (Option.bind (if zI (zst ws (k + 1) : Int) ≤ zI (zst ws k : Int) then some true else if zix (zst ws k : Int) (cN u 1) then (if ¬ zI (cA u 0 1 (zst ws k : Int).toNat) = zI 47 then some true else some false) else none) fun (b3 : Bool) => if b3 = true then Option.bind (some (cP u 1 0)) (fun (o4 : Option Nat) => some o4) else some (some 0)) = some (some x) ∧ (Option.bind (if zI (zst ws (k + 1) : Int) ≤ zI (zst ws k : Int) then some true else if zix (zst ws k : Int) 200 then (if ¬ zI (rA r 20 (zst ws k : Int).toNat) = zI 47 then some true else some false) else none) fun (b1 : Bool) => if b1 = true then some (rI r 9) else some 0) = some (x : Int) := by
    have e1 : cP u 1 0 = some h := HT.2.2.2.1
    have e9 : rI r 9 = (h : Int) := HT.2.2.2.2.1
    have hh := HT.2.2.2.2.2.1
    rw [e1, e9]
    by_cases hemp : zst ws (k + 1) ≤ zst ws k
    · have hcc : zI (zst ws (k + 1) : Int) ≤ zI (zst ws k : Int) := by rw [zI_le (by omega) (by omega) (by omega) (by omega)]; omega
      simp only [if_pos hcc]
      exact ⟨h, hh, rfl, rfl⟩
    · have hcc : ¬ zI (zst ws (k + 1) : Int) ≤ zI (zst ws k : Int) := by rw [zI_le (by omega) (by omega) (by omega) (by omega)]; omega
      simp only [if_neg hcc]
      rw [if_pos (show zix (zst ws k : Int) (cN u 1) from ⟨by omega, by omega, by omega⟩), if_pos (show zix (zst ws k : Int) 200 from ⟨by omega, by omega, by omega⟩)]
      have ea := hT.2.2.1 (zst ws k) (by omega)
      have eb := w4 (zst ws k) (by omega)
      rw [Nat.zero_add] at eb
      rw [Int.toNat_natCast, ea, eb]
      by_cases h47 : ¬ zI (ws.flatten.getD (zst ws k) 0) = zI 47
      · rw [if_pos h47]
        exact ⟨h, hh, rfl, rfl⟩
      · rw [if_neg h47]
        exact ⟨0, Nat.zero_le _, rfl, rfl⟩
  obtain ⟨x, hx, x1, x2⟩ := hroot
  have hPth : zFp u (sP (sP u 2 0 (some x)) 3 0 none) := by
    intro t t2
    refine ⟨fun _ _ _ _ => rfl, fun _ _ _ => rfl, fun g o hh => ?_, fun _ _ _ _ _ => rfl, rfl, rfl⟩
    show (if g = 3 ∧ o = 0 then none else if g = 2 ∧ o = 0 then some x else cP u g o) = cP u g o
    rw [if_neg (by omega), if_neg (by omega)]
  have hqr : zq [42, 43, 44] [] r (tI (tI r 42 (x : Int)) 43 (-1)) := zq_tr (zq_I _ _ r 42 _ (by decide)) (zq_I _ _ _ 43 _ (by decide))
  have HT1 := zTree_fr (hPth 7777 7777) (Or.inr rfl) (Or.inr rfl) hqr (by decide) (by decide) HT
  obtain ⟨u2, r2, c1, c2, c3, c4, c5⟩ := follow_loop F hF hfl hL (zst ws (k + 1)) h2 (zst ws (k + 1) - zst ws k) (zst ws k) (sP (sP u 2 0 (some x)) 3 0 none) (tI (tI r 42 (x : Int)) 43 (-1)) F F rfl h1 (by omega) (by omega) HT1 ⟨rfl, rfl, fun n hn => by rw [← Option.some.inj hn]; exact hx, fun d hd => (by cases hd)⟩ hT hN w4
  refine ⟨u2, r2, ?_, ?_, c3, zFp_tr hPth c4, zq_tr hqr c5⟩
  · unfold cTree_follow
    rw [startOf_is F HW k (by omega), endOf_is F HW k (by omega), if_pos (show k ≤ ws.length by omega), if_pos hk]
    simp only [Option.bind_some]
    have x1' : (Option.bind (if zI (zst ws (k + 1) : Int) ≤ zI (zst ws k : Int) then some true else if zix (zst ws k : Int) (cN u 1) then (if ¬ zI (cA u 0 1 (zst ws k : Int).toNat) = zI 47 then some true else some false) else none) fun (b3 : Bool) => if b3 = true then some (cP u 1 0) else some (some 0)) = some (some x) := x1
    rw [x1']
    exact c1
  · unfold r_follow
    rw [if_pos (show zix (k : Int) 65 from ⟨by omega, by omega, by omega⟩), Int.toNat_natCast, (w5 k hk).1, (w5 k hk).2, x2]
    exact c2
