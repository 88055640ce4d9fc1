/-! paths on both sides: a piece, a whole path -/
/-- the reference at the end of a piece -/
theorem rpiece_is (F : Nat) (hF : 20 ≤ F) {r : ZR} {fl : List Int} (hfl : fl.length ≤ 96) (hL : zlw fl) (H : zRA r 20 0 fl) (a b e : Nat) (hab : a ≤ b) (hbe : b ≤ e) (he : e ≤ fl.length) (hend : b = e ∨ fl.getD b 0 = 47)
    (hw : ¬ (zsl fl a b = [] ∨ zsl fl a b = [46])) (K : ZR → Int → Int → Option ZR) (n : Nat) (x7 x11 x14 : Int) (h7 : x7 = 0 ∨ x7 = 1)
    (g7 : (if zI (rI r 42) < 0 then some true else if zix (rI r 42) 13 then (if zI (rA r 4 (rI r 42).toNat) = 0 then some true else some false) else none) = some (decide (x7 = 0)))
    (g11 : (if ¬ zI x7 = 0 then Option.bind (r_isDots F (tJ r 44 (zPk (zsl fl a b))) (a : Int) (b : Int)) (fun (p9 : Int) => if zI p9 = 0 then Option.bind (r_child F (tJ r 44 (zPk (zsl fl a b))) (rI r 42) (zPk (zsl fl a b))) (fun (p10 : Int) => some p10) else if zix (rI r 42) 13 then some (rA r 5 (rI r 42).toNat) else none) else some (-1)) = some x11)
    (g14 : (if zI x7 = 0 then some true else if 0 ≤ zI x11 then some true else Option.bind (r_isName F (tI (tJ r 44 (zPk (zsl fl a b))) 42 x11) (a : Int) (b : Int)) (fun (p12 : Int) => if zI p12 = 0 then some true else some false)) = some (decide (x14 = -1))) (h14 : x14 = -1 ∨ (x14 = rI r 42 ∧ x14 ≠ -1)) :
    r_follow_55 F K (n + 1) r (e : Int) (a : Int) (b : Int) = K (tI (tI (tJ r 44 (zPk (zsl fl a b))) 42 x11) 43 x14) (e : Int) ((b : Int) + 1) := by
  have hlen := zsl_len fl a b (by omega)
  rw [r_follow_55]
  have hb3 : (if zI (e : Int) ≤ zI (b : Int) then some true else if zix (b : Int) 200 then (if zI (rA r 20 (b : Int).toNat) = zI 47 then some true else some false) else none) = some true := by
    by_cases hbe2 : b = e
    · rw [if_pos (by rw [zI_le (by omega) (by omega) (by omega) (by omega)]; omega)]
    · have e47 := hend.resolve_left hbe2
      have eb := H b (by omega)
      rw [Nat.zero_add] at eb
      rw [if_neg (by rw [zI_le (by omega) (by omega) (by omega) (by omega)]; omega), if_pos (show zix (b : Int) 200 from ⟨by omega, by omega, by omega⟩), Int.toNat_natCast, eb, e47, if_pos rfl]
  rw [hb3]
  simp only [Option.bind_some, if_true]
  have hskip : (if zI (b : Int) = zI (a : Int) then some true else if ¬ zI ((b : Int) - (a : Int)) = zI 1 then some false else if zix (a : Int) 200 then (if ¬ zI (rA r 20 (a : Int).toNat) = zI 46 then some false else some true) else none) = some false := by
    have hne : b ≠ a := fun h => hw (Or.inl (List.eq_nil_of_length_eq_zero (by omega)))
    rw [if_neg (by rw [zI_eq (by omega) (by omega) (by omega) (by omega)]; omega)]
    by_cases h1 : b - a = 1
    · have ea := H a (by omega)
      rw [Nat.zero_add] at ea
      have hx := zlw_get hL a (by omega)
      rw [if_neg (not_not_intro (by rw [show (b : Int) - (a : Int) = 1 by omega])), if_pos (show zix (a : Int) 200 from ⟨by omega, by omega, by omega⟩), Int.toNat_natCast, ea, if_pos]
      rw [zI_eq (by omega) (by omega) (by omega) (by omega)]
      intro h46
      apply hw
      refine Or.inr ((zdots1 _).2 ⟨by omega, ?_⟩)
      rw [zsl_get fl a b 0 (by omega), Nat.add_zero, h46]
    · rw [if_pos (by rw [zI_eq (by omega) (by omega) (by omega) (by omega)]; omega)]
  rw [hskip]
  simp only [Option.bind_some, reduceCtorEq, if_false, z00, not_true]
  rw [g7]
  have e44 : rJ (tJ r 44 (zPk (zsl fl a b))) 44 = zPk (zsl fl a b) := rfl
  have hx7 : (Option.bind (some (decide (x7 = 0))) fun (b6 : Bool) => if b6 = true then some (0 : Int) else some 1) = some x7 := by
    rcases h7 with h | h
    · subst h; rfl
    · subst h; rfl
  rw [hx7]
  simp only [Option.bind_some, packed_is F (by omega) hfl hL H a b hab (by omega), e44]
  have g11' : (if ¬ zI x7 = 0 then Option.bind (r_isDots F (tJ r 44 (zPk (zsl fl a b))) (a : Int) (b : Int)) (fun (p9 : Int) => if zI p9 = 0 then Option.bind (r_child F (tJ r 44 (zPk (zsl fl a b))) (rI r 42) (zPk (zsl fl a b))) (fun (p10 : Int) => some p10) else if zix (rI r 42) 13 then some (rA (tJ r 44 (zPk (zsl fl a b))) 5 (rI r 42).toNat) else none) else some (-1)) = some x11 := g11
  rw [g11']
  simp only [Option.bind_some]
  have e42 : rI (tI (tJ r 44 (zPk (zsl fl a b))) 42 x11) 42 = x11 := rfl
  rw [e42, g14]
  simp only [Option.bind_some]
  rcases h14 with h | ⟨h, h2⟩
  · subst h; rfl
  · have : decide (x14 = -1) = false := decide_eq_false h2
    simp only [this, reduceCtorEq, if_false, ← h, Option.bind_some]
theorem zo_lt {o : Option Nat} (h : ∀ n, o = some n → n ≤ 12) : -1 ≤ zo o ∧ zo o ≤ 12 ∧ (o = none ↔ zo o < 0) := by
  cases o with
  | none => exact ⟨by decide, by decide, by decide⟩
  | some n =>
    have := h n rfl
    refine ⟨by show -1 ≤ (n : Int); omega, by show (n : Int) ≤ 12; omega, ⟨fun h => (by cases h), fun h => ?_⟩⟩
    have h : (n : Int) < 0 := h
    omega
theorem piece_alike (F : Nat) (hF : 20 ≤ F) {u : ZC} {r : ZR} {c h : Nat} (HT : zTree u r c h) (HP : zPa u r c) {fl : List Int} (hfl : fl.length ≤ 96) (hL : zlw fl) (H : zRA r 20 0 fl) (a b e : Nat) (hab : a ≤ b) (hbe : b ≤ e) (he : e ≤ fl.length) (hend : b = e ∨ fl.getD b 0 = 47) :
    ∃ (u2 : ZC) (r2 : ZR), cTree_followPiece F u (zpc (zsl fl a b) 0) ((zsl fl a b).length : Int) (zB ((zsl fl a b).all zNb)) = some u2 ∧ (∀ K n, a < e → r_follow_55 F K (n + 1) r (e : Int) (a : Int) (b : Int) = K r2 (e : Int) ((b : Int) + 1)) ∧ (¬ a < e → r2 = r) ∧ zPa u2 r2 c ∧ zFp u u2 ∧ zq [42, 43, 44] [] r r2 := by
  have hc12 := HT.1
  have hlen := zsl_len fl a b (by omega)
  have hwl : zlw (zsl fl a b) := fun x hx => hL x (zsl_mem hx)
  obtain ⟨P1, P2, P3, P4⟩ := HP
  have hP3 : ∀ n, cP u 2 0 = some n → n ≤ 12 := fun n hn => by have := P3 n hn; omega
  have hzo := zo_lt hP3
  rcases cpiece_is F hF HT P3 (zsl fl a b) hwl (by omega) with ⟨hA, c1⟩ | ⟨hA, c0, c1⟩ | ⟨hA, d, c0, c0b, c1⟩
  · -- skipped
    refine ⟨u, r, c1, fun K n hae => ?_, fun _ => rfl, ⟨P1, P2, P3, P4⟩, zFp_rf u, zq_rf _ _ r⟩
    rw [r_follow_55]
    have hb3 : (if zI (e : Int) ≤ zI (b : Int) then some true else if zix (b : Int) 200 then (if zI (rA r 20 (b : Int).toNat) = zI 47 then some true else some false) else none) = some true := by
      by_cases hbe2 : b = e
      · rw [if_pos (by rw [zI_le (by omega) (by omega) (by omega) (by omega)]; omega)]
      · have e47 := hend.resolve_left hbe2
        have eb := H b (by omega)
        rw [Nat.zero_add] at eb
        rw [if_neg (by rw [zI_le (by omega) (by omega) (by omega) (by omega)]; omega), if_pos (show zix (b : Int) 200 from ⟨by omega, by omega, by omega⟩), Int.toNat_natCast, eb, e47, if_pos rfl]
    rw [hb3]
    simp only [Option.bind_some, if_true]
    have hskip : (if zI (b : Int) = zI (a : Int) then some true else if ¬ zI ((b : Int) - (a : Int)) = zI 1 then some false else if zix (a : Int) 200 then (if ¬ zI (rA r 20 (a : Int).toNat) = zI 46 then some false else some true) else none) = some true := by
      rcases hA with hA | hA
      · have : b - a = 0 := by rw [← hlen, hA]; rfl
        rw [show b = a by omega, if_pos rfl]
      · obtain ⟨k1, k2⟩ := (zdots1 _).1 hA
        rw [zsl_get fl a b 0 (by omega), Nat.add_zero] at k2
        have ea := H a (by omega)
        rw [Nat.zero_add] at ea
        rw [if_neg (by rw [zI_eq (by omega) (by omega) (by omega) (by omega)]; omega), if_neg (not_not_intro (by rw [show (b : Int) - (a : Int) = 1 by omega])), if_pos (show zix (a : Int) 200 from ⟨by omega, by omega, by omega⟩), Int.toNat_natCast, ea, k2, if_neg (not_not_intro rfl)]
    rw [hskip]
    simp only [Option.bind_some, if_true, z10, not_false_iff]
  · -- nothing there, or a file
    have hab2 : a < b := by
      apply Classical.byContradiction
      intro hn
      exact hA (Or.inl (List.eq_nil_of_length_eq_zero (by omega)))
    refine ⟨_, _, c1, fun K n hae => rpiece_is F hF hfl hL H a b e hab hbe he hend hA K n 0 (-1) (-1) (Or.inl rfl) ?_ ?_ ?_ (Or.inl rfl), fun hn => absurd (Nat.lt_of_lt_of_le hab2 hbe) hn, ⟨rfl, rfl, fun n hn => (by cases hn), fun d hd => (by cases hd)⟩, zFp_th u none none _, zq_tr (zq_tr (zq_J _ _ r 44 _ (by decide)) (zq_I _ _ _ 42 _ (by decide))) (zq_I _ _ _ 43 _ (by decide))⟩
    · rw [P1]
      cases ho : cP u 2 0 with
      | none => rfl
      | some d =>
        have hd := P3 d ho
        rcases zdir HT d hd with ⟨d1, d2⟩ | ⟨d0, d1, d2⟩
        · exact absurd d1 (c0 d ho)
        · show (if zI (d : Int) < 0 then some true else if zix (d : Int) 13 then (if zI (rA r 4 (d : Int).toNat) = 0 then some true else some false) else none) = some true
          rw [if_neg (by rw [zI_lt0 (by omega) (by omega)]; omega), if_pos (show zix (d : Int) 13 from ⟨by omega, by omega, by omega⟩), Int.toNat_natCast, d2, if_pos z00]
    · rw [if_neg (not_not_intro z00)]
    · rw [if_pos z00]
      rfl
  · -- a directory
    have hab2 : a < b := by
      apply Classical.byContradiction
      intro hn
      exact hA (Or.inl (List.eq_nil_of_length_eq_zero (by omega)))
    have hd := P3 d c0
    have e42 : rI r 42 = (d : Int) := by rw [P1, c0]; rfl
    have hz : zix (d : Int) 13 := ⟨by omega, by omega, by omega⟩
    have d2 : rA r 4 d = 1 := by
      rcases zdir HT d hd with ⟨d1, d2⟩ | ⟨d0, d1, d2⟩
      · exact d2
      · rw [c0b] at d1; cases d1
    have g7 : (if zI (rI r 42) < 0 then some true else if zix (rI r 42) 13 then (if zI (rA r 4 (rI r 42).toNat) = 0 then some true else some false) else none) = some (decide ((1 : Int) = 0)) := by
      rw [e42, if_neg (by rw [zI_lt0 (by omega) (by omega)]; omega), if_pos hz, Int.toNat_natCast, d2, if_neg z10]
      rfl
    have hRA : ∀ v, zRA (tJ r 44 v) 20 0 fl := fun v => H
    have hRA2 : ∀ v x, zRA (tI (tJ r 44 v) 42 x) 20 0 fl := fun v x => H
    have hdots := isDots_is F hfl hL (hRA (zPk (zsl fl a b))) a b hab (by omega)
    have hfrq : ∀ v x y, zq [42, 43, 44] [] r (tI (tI (tJ r 44 v) 42 x) 43 y) := fun v x y => zq_tr (zq_tr (zq_J _ _ r 44 _ (by decide)) (zq_I _ _ _ 42 _ (by decide))) (zq_I _ _ _ 43 _ (by decide))
    have hTq : zTree u (tJ r 44 (zPk (zsl fl a b))) c h := zTree_fr (zFr_rf 7777 7777 0 0 u) (Or.inr rfl) (Or.inr rfl) (zq_J [44] [] r 44 (zPk (zsl fl a b)) (by decide)) (by decide) (by decide) HT
    rcases c1 with ⟨h2, c1⟩ | ⟨h2, hpl, c1⟩ | ⟨h2, hpl, o, hk, c1⟩
    · -- to the parent
      have hdd : zsl fl a b = [46] ∨ zsl fl a b = [46, 46] := Or.inr h2
      simp only [hdd, decide_true, zB_t] at hdots
      have hpe : ∃ p : Nat, p ≤ c ∧ rA r 5 d = (p : Int) ∧ (cP u 5 d).getD d = p := by
        rcases zpar HT d hd with ⟨p0, p1, p2⟩ | ⟨p, p0, p1, p2⟩
        · exact ⟨0, Nat.zero_le _, p2, by rw [p1, p0]; rfl⟩
        · exact ⟨p, by omega, p2, by rw [p1]; rfl⟩
      obtain ⟨p, hp, p1, p2⟩ := hpe
      rw [p2] at c1
      refine ⟨_, _, c1, fun K n hae => rpiece_is F hF hfl hL H a b e hab hbe he hend hA K n 1 (p : Int) (-1) (Or.inr rfl) g7 ?_ ?_ (Or.inl rfl), fun hn => absurd (Nat.lt_of_lt_of_le hab2 hbe) hn, ⟨rfl, rfl, fun n hn => by rw [← Option.some.inj hn]; exact hp, fun d hd => (by cases hd)⟩, zFp_th u _ none _, hfrq _ _ _⟩
      · rw [if_pos z10, hdots]
        simp only [Option.bind_some, if_neg z10, e42, if_pos hz, Int.toNat_natCast, p1]
      · rw [if_neg z10, if_pos (by rw [zI_0le (by omega) (by omega)]; omega)]
        rfl
    · -- no name
      have hdd : ¬ (zsl fl a b = [46] ∨ zsl fl a b = [46, 46]) := fun hh => hh.elim (fun h1 => hA (Or.inr h1)) h2
      simp only [hdd, decide_false, zB_f] at hdots
      have hch := child_is F hF hTq d (by omega) _ none (znokid HT d _ hwl hpl)
      have hnm := isName_is F hF hfl hL (hRA2 (zPk (zsl fl a b)) (-1)) a b hab (by omega)
      have hnm0 : (decide ((1 ≤ b - a ∧ b - a ≤ 7) ∧ ¬ (zsl fl a b = [46] ∨ zsl fl a b = [46, 46])) && (zsl fl a b).all zNb) = false := by
        cases hall : (zsl fl a b).all zNb
        · rw [Bool.and_false]
        · have : ¬ b - a ≤ 7 := fun h7 => hpl ⟨by omega, hall⟩
          simp [this]
      rw [hnm0, zB_f] at hnm
      refine ⟨_, _, c1, fun K n hae => rpiece_is F hF hfl hL H a b e hab hbe he hend hA K n 1 (-1) (-1) (Or.inr rfl) g7 ?_ ?_ (Or.inl rfl), fun hn => absurd (Nat.lt_of_lt_of_le hab2 hbe) hn, ⟨rfl, rfl, fun n hn => (by cases hn), fun d hd => (by cases hd)⟩, zFp_th u _ none _, hfrq _ _ _⟩
      · rw [if_pos z10, hdots]
        simp only [Option.bind_some, if_pos z00, e42, hch]
        rfl
      · rw [if_neg z10, if_neg (by decide), hnm]
        rfl
    · -- a name
      have hdd : ¬ (zsl fl a b = [46] ∨ zsl fl a b = [46, 46]) := fun hh => hh.elim (fun h1 => hA (Or.inr h1)) h2
      simp only [hdd, decide_false, zB_f] at hdots
      have hpk : zPk (zsl fl a b) = zpack (zsl fl a b) := by unfold zPk; rw [if_pos hpl.1]
      have hch := child_is F hF hTq d (by omega) (zPk (zsl fl a b)) o (by rw [hpk]; exact hk)
      have hnm := isName_is F hF hfl hL (hRA2 (zPk (zsl fl a b)) (-1)) a b hab (by omega)
      have hnm1 : (decide ((1 ≤ b - a ∧ b - a ≤ 7) ∧ ¬ (zsl fl a b = [46] ∨ zsl fl a b = [46, 46])) && (zsl fl a b).all zNb) = true := by
        rw [hpl.2, Bool.and_true]
        exact decide_eq_true ⟨⟨by omega, by have := hpl.1; omega⟩, hdd⟩
      rw [hnm1, zB_t] at hnm
      have hzNm : zNm (zpack (zsl fl a b)) := ⟨zsl fl a b, by omega, hpl.1, fun x hx => (zNb_iff x).1 (List.all_eq_true.1 hpl.2 x hx), rfl⟩
      cases ho : o with
      | none =>
        subst ho
        refine ⟨_, _, c1, fun K n hae => rpiece_is F hF hfl hL H a b e hab hbe he hend hA K n 1 (-1) (d : Int) (Or.inr rfl) g7 ?_ ?_ (Or.inr ⟨e42.symm, by omega⟩), fun hn => absurd (Nat.lt_of_lt_of_le hab2 hbe) hn, ⟨rfl, rfl, fun n hn => (by cases hn), fun d' hd' => ?_⟩, zFp_th u _ _ _, hfrq _ _ _⟩
        · rw [if_pos z10, hdots]
          simp only [Option.bind_some, if_pos z00, e42, hch]
          rfl
        · rw [if_neg z10, if_neg (by decide), hnm]
          simp only [Option.bind_some, if_neg z10]
          exact congrArg some (decide_eq_false (by omega)).symm
        · have e : d = d' := Option.some.inj hd'
          subst e
          refine ⟨⟨hd, c0b⟩, hpk, hzNm, rfl, fun x x1 x2 hm => ?_⟩
          rcases hk with ⟨-, hh⟩ | ⟨y, hy, -⟩
          · exact hh x x1 x2 hm
          · cases hy
      | some x =>
        subst ho
        have hx : 1 ≤ x ∧ x ≤ c := by
          rcases hk with ⟨hh, -⟩ | ⟨y, hy, y1, y2, -⟩
          · cases hh
          · rw [Option.some.inj hy]; exact ⟨y1, y2⟩
        refine ⟨_, _, c1, fun K n hae => rpiece_is F hF hfl hL H a b e hab hbe he hend hA K n 1 (x : Int) (-1) (Or.inr rfl) g7 ?_ ?_ (Or.inl rfl), fun hn => absurd (Nat.lt_of_lt_of_le hab2 hbe) hn, ⟨rfl, rfl, fun n hn => by rw [← Option.some.inj hn]; exact hx.2, fun d' hd' => (by cases hd')⟩, zFp_th u _ _ _, hfrq _ _ _⟩
        · rw [if_pos z10, hdots]
          simp only [Option.bind_some, if_pos z00, e42, hch]
          rfl
        · rw [if_neg z10, if_pos (by rw [zI_0le (by omega) (by omega)]; omega)]
          rfl
