/-! a command: its beginning, a simple one -/
theorem fin_empty (F : Nat) (hF : 200 ≤ F) {u : ZC} {r : ZR} {m n c hx hb k inp : Nat} {K L A B : Nat → Int} {g : Int} (M : zMid u r m n K L A B c hx hb k inp g []) (st : Int) :
    ∃ h2 : Nat, r_endCommand F r st g = r_endCommand_64 F (tI r 9 (h2 : Int)) st ∧ zRn (if zI (rA r 28 k) = 0 then u else sP u 1 0 (some hb)) (tI r 9 (h2 : Int)) m n K L A B c h2 k := by
  obtain ⟨M1, M2, M3, M4, M5, M6, M7, M8, M9, M10⟩ := M
  have hk5 : k < 5 := M1.2.2.2.2.2.2.2.1.1
  have h21 : rI r 21 = (k : Int) := M1.2.2.2.2.2.2.2.1.2
  have hz : zix (k : Int) 5 := ⟨by omega, by omega, by omega⟩
  have HT1 := M1.1.1
  have hc12 := HT1.1
  have h35 : rI r 35 = 0 := M4.1
  obtain ⟨h2, hh2, hh2b⟩ : ∃ h2 : Nat, (Option.bind (if ¬ zI g = 0 then some true else if zix (rI r 21) 5 then (if zI (rA r 28 (rI r 21).toNat) = 0 then some false else some true) else none) fun (b1 : Bool) => if b1 = true then (if zix (rI r 21) 5 then some (tI r 9 (rA r 27 (rI r 21).toNat)) else none) else some r) = some (tI r 9 (h2 : Int)) ∧ ((zI (rA r 28 k) = 0 ∧ h2 = hx) ∨ (¬ zI (rA r 28 k) = 0 ∧ h2 = hb)) := by
    rw [h21, if_pos hz, Int.toNat_natCast, M6]
    rcases M9 with ⟨g1, g2⟩ | ⟨g1, g2⟩
    · rw [g1, if_pos z10]
      refine ⟨hb, by simp only [Option.bind_some, if_true, if_pos hz], ?_⟩
      by_cases h28 : zI (rA r 28 k) = 0
      · exact Or.inl ⟨h28, g2.symm⟩
      · exact Or.inr ⟨h28, rfl⟩
    · rw [g1, if_neg (not_not_intro z00)]
      by_cases h28 : zI (rA r 28 k) = 0
      · rw [if_pos h28]
        exact ⟨hx, by rw [tI_eq g2]; rfl, Or.inl ⟨h28, rfl⟩⟩
      · rw [if_neg h28]
        exact ⟨hb, by simp only [Option.bind_some, if_true, if_pos hz], Or.inr ⟨h28, rfl⟩⟩
  refine ⟨h2, ?_, ?_⟩
  · unfold r_endCommand
    rw [hh2]
    have e21 : rI (tI r 9 (h2 : Int)) 21 = (k : Int) := h21
    have e26 : rA (tI r 9 (h2 : Int)) 26 k = rA r 26 k := rfl
    simp only [Option.bind_some, e21, if_pos hz, Int.toNat_natCast, e26]
    rcases M2.2 with ⟨v1, v2⟩ | ⟨x, v1, v2, v3, v4, v5⟩
    · rw [v2, if_pos (by decide)]
    · rw [v2, if_neg (by rw [zI_lt0 (by omega) (by omega)]; omega)]
      have hadd : r_addTo F (tI r 9 (h2 : Int)) (x : Int) = some (1, tI r 9 (h2 : Int)) := by
        have htot := M1.2.1
        have h5 := M1.1.2.2.2.1
        have e35 : rI (tI r 9 (h2 : Int)) 35 = 0 := h35
        have e1 : rI (tI r 9 (h2 : Int)) 1 = cI u 5 0 := h5.2.2
        have hs : zsum (tI r 9 (h2 : Int)) 0 13 = zsum (tI r 9 (hx : Int)) 0 13 := zsum_eq (fun _ => rfl) (fun _ => rfl) 13 0
        unfold r_addTo
        rw [chars_is F (by omega)]
        simp only [Option.bind_some]
        rw [e35, e1, hs, if_pos (by rw [zI_le (by omega) (by omega) (by omega) (by omega)]; omega)]
        obtain ⟨F', hF'⟩ : ∃ F', F = F' + 1 := ⟨F - 1, by omega⟩
        have : ∀ FF, r_addTo_22 F (FF + 1) (tI r 9 (h2 : Int)) (x : Int) 0 = some (1, tI r 9 (h2 : Int)) := by
          intro FF
          rw [r_addTo_22, e35, if_pos (by decide), if_pos (show zix (x : Int) 13 from ⟨by omega, by omega, by omega⟩), Int.toNat_natCast]
          simp only [Option.bind_some]
          congr 2
          refine Prod.ext rfl (Prod.ext rfl (Prod.ext ?_ rfl))
          funext a j
          show (if a = 7 ∧ j = x then rA r 7 x + 0 else rA r a j) = rA r a j
          by_cases hh : a = 7 ∧ j = x
          · rw [if_pos hh, hh.1, hh.2, Int.add_zero]
          · rw [if_neg hh]
        have t := this F'
        rw [← hF'] at t
        exact t
      rw [hadd]
      simp only [zb2_some, z10, not_false_iff, if_true]
      rw [tI_eq (r := tI r 9 (h2 : Int)) (k := 35) (v := 0) h35]
  · rcases hh2b with ⟨e1, e2⟩ | ⟨e1, e2⟩
    · rw [if_pos e1, e2]; exact M1
    · rw [if_neg e1, e2]
      have := zRn_here M1 M7 M8
      rw [tI_tI] at this
      exact this
/-- the reference's state when a command begins -/
def zSC (r : ZR) (k : Nat) : ZR := tI (tI (tA (tA (tA r 27 k (rI r 9)) 24 k (rA r 25 k)) 26 k (-1)) 35 0) 36 0
theorem zSC_q (r : ZR) (k : Nat) : zq [35, 36] [24, 26, 27] r (zSC r k) := zq_tr (zq_tr (zq_tr (zq_tr (zq_A _ _ r 27 k _ (by decide)) (zq_A _ _ _ 24 k _ (by decide))) (zq_A _ _ _ 26 k _ (by decide))) (zq_I _ _ _ 35 0 (by decide))) (zq_I _ _ _ 36 0 (by decide))
theorem zSC_k (r : ZR) (k : Nat) : rA (zSC r k) 27 k = rI r 9 ∧ rA (zSC r k) 24 k = rA r 25 k ∧ rA (zSC r k) 26 k = -1 ∧ ∀ f i, i ≠ k → rA (zSC r k) f i = rA r f i := by
  refine ⟨?_, ?_, ?_, fun f i hi => ?_⟩
  · show (if 27 = 26 ∧ k = k then (-1 : Int) else if 27 = 24 ∧ k = k then rA (tA r 27 k (rI r 9)) 25 k else if 27 = 27 ∧ k = k then rI r 9 else rA r 27 k) = _
    rw [if_neg (by omega), if_neg (by omega), if_pos ⟨rfl, rfl⟩]
  · show (if 24 = 26 ∧ k = k then (-1 : Int) else if 24 = 24 ∧ k = k then rA r 25 k else _) = _
    rw [if_neg (by omega), if_pos ⟨rfl, rfl⟩]
  · show (if 26 = 26 ∧ k = k then (-1 : Int) else _) = _
    rw [if_pos ⟨rfl, rfl⟩]
  · show (if f = 26 ∧ i = k then (-1 : Int) else if f = 24 ∧ i = k then _ else if f = 27 ∧ i = k then rI r 9 else rA r f i) = _
    rw [if_neg (by omega), if_neg (by omega), if_neg (by omega)]
theorem startCmd_is (F : Nat) (hF : 200 ≤ F) {u : ZC} {r : ZR} {m n c h k : Nat} {K L A B : Nat → Int} (HS : zSt m n K L A B) (H : zRn u r m n K L A B c h k) (p : Nat) (hp : p < m) (h22 : rI r 22 = (p : Int)) : r_startCommand F r = r_startCommand_89 F F (zSC r k) (zB (decide (K p = 5))) ((zF qP K m p 0 : Nat) : Int) 0 (p : Int) := by
  have hk5 : k < 5 := H.2.2.2.2.2.2.2.1.1
  have h21 : rI r 21 = (k : Int) := H.2.2.2.2.2.2.2.1.2
  have hz : zix (k : Int) 5 := ⟨by omega, by omega, by omega⟩
  obtain ⟨m64, k2, k12, kK, kR⟩ := zTs_K HS H.2.2.2.2.2.2.1
  have hq := zSC_q r k
  unfold r_startCommand
  rw [h21, if_pos hz, Int.toNat_natCast]
  have e21a : rI (tA r 27 k (rI r 9)) 21 = (k : Int) := h21
  have e25 : rA (tA r 27 k (rI r 9)) 25 k = rA r 25 k := rfl
  have e21b : ∀ v, rI (tA (tA r 27 k (rI r 9)) 24 k v) 21 = (k : Int) := fun _ => h21
  simp only [e21a, if_pos hz, Int.toNat_natCast, e25, Option.bind_some, e21b]
  have eS : tI (tI (tA (tA (tA r 27 k (rI r 9)) 24 k (rA r 25 k)) 26 k (-1)) 35 0) 36 0 = zSC r k := rfl
  rw [eS]
  have e22 : rI (zSC r k) 22 = (p : Int) := h22
  have hkR : ∀ j, j < m → (0 ≤ K j ∧ K j ≤ 10) ∧ rA (zSC r k) 13 j = zrk (K j) := fun j hj => ⟨(kR j hj).1, by rw [hq.2.2.1 13 j (by decide)]; exact (kR j hj).2⟩
  have hpe : r_pipelineEnd F (zSC r k) (p : Int) 1 = some ((zF qP K m p 0 : Nat) : Int) := pend_is F (by omega) m64 (by rw [hq.1 12 (by decide)]; exact k12) hkR true p (by omega)
  rw [e22, if_pos (show zix (p : Int) 64 from ⟨by omega, by omega, by omega⟩), Int.toNat_natCast, (hkR p hp).2, hpe]
  simp only [Option.bind_some]
  have hqk := zrk_eq (kR p hp).1
  have hzr := hqk.2.2.2.1
  have : (if ¬ zI (zrk (K p)) = zI 8 then some (0 : Int) else some 1) = some (zB (decide (K p = 5))) := by
    by_cases h5 : K p = 5
    · rw [if_neg (not_not_intro (by rw [hqk.1.2 h5])), decide_eq_true h5]; rfl
    · rw [if_pos (by rw [zI_eq (by omega) (by omega) (by omega) (by omega)]; exact fun hh => h5 (hqk.1.1 hh)), decide_eq_false h5]; rfl
  rw [this]
  rfl
/-- the class's state when a command begins -/
theorem pre_alike (F : Nat) {u : ZC} {r : ZR} {m n c h k inp : Nat} {K L A B : Nat → Int} (H : zRn u r m n K L A B c h k) (hin : zIp inp (rA r 25 k)) :
    ∃ u1, cText_clear F u (4 + 4 * k) = some u1 ∧ zRn (sP (sI u1 11 k 0) 4 k none) (zSC r k) m n K L A B c h k ∧ zLv (sP (sI u1 11 k 0) 4 k none) (zSC r k) c k inp ∧ zH (sP (sI u1 11 k 0) 4 k none) (4 + 4 * k) [] ∧ zHr (zSC r k) [] ∧ zLo k u (sP (sI u1 11 k 0) 4 k none) ∧ zLk k r (zSC r k) ∧ (∀ f o, ¬ (f = 4 ∧ o = k) → cP (sP (sI u1 11 k 0) 4 k none) f o = cP u f o) := by
  have hk5 : k < 5 := H.2.2.2.2.2.2.2.1.1
  have hlt : ∀ u : ZC, zlT u (4 + 4 * k) := fun u => Or.inl (by omega)
  obtain ⟨u1, a1, a2, a3⟩ := clear_is F (hlt u)
  have hq := zSC_q r k
  obtain ⟨s1, s2, s3, s4⟩ := zSC_k r k
  have H1 : zRn u1 (zSC r k) m n K L A B c h k := zRn_fr H a3 ⟨Or.inr (Or.inl rfl), Or.inr (Or.inl rfl)⟩ hq (by decide) (by decide) (zPb_fr a3 H.2.2.2.2.2.1.1)
  refine ⟨u1, a1, ?_, ⟨Or.inl ⟨?_, ?_⟩, Or.inl ⟨?_, s3⟩⟩, a2, ?_, ?_, ?_, fun f o hh => ?_⟩
  · obtain ⟨q1, q2, q3, q4, q5, ⟨q6, q7⟩, q8, q9, q10⟩ := H1
    refine ⟨q1, q2, q3, q4, q5, ⟨q6, fun j hj t ht => ?_⟩, q8, q9, q10⟩
    have ht : (if 4 = 4 ∧ j = k then none else cP u1 4 j) = some t := ht
    by_cases hjk : j = k
    · rw [if_pos ⟨rfl, hjk⟩] at ht; cases ht
    · rw [if_neg (by omega)] at ht
      exact q7 j hj t ht
  · show (if 11 = 11 ∧ k = k then (0 : Int) else _) = 0
    rw [if_pos ⟨rfl, rfl⟩]
  · rw [s2]; exact hin
  · show (if 4 = 4 ∧ k = k then none else _) = none
    rw [if_pos ⟨rfl, rfl⟩]
  · have hp := H.1.2.2.2.2.1
    exact ⟨hp, ⟨Int.le_refl _, by show (0 : Int) ≤ rI r 2; omega⟩, fun _ => ⟨rfl, rfl, fun i hi => absurd hi (Nat.not_lt_zero i)⟩, fun hh => by have hh : rI r 2 < 0 := hh; omega⟩
  · intro j hj
    have e4 : zT4 u u1 (4 + 4 * j) := zT4_fr a3 (by omega)
    refine ⟨?_, ?_, e4.1, e4.2.1, e4.2.2.2⟩
    · show (if 11 = 11 ∧ j = k then (0 : Int) else cI u1 11 j) = _
      rw [if_neg (by omega)]
      exact a3.1 11 j (by omega) (by omega)
    · show (if 4 = 4 ∧ j = k then none else cP u1 4 j) = _
      rw [if_neg (by omega)]
      exact a3.2.2.1 4 j (by omega)
  · intro f _ _ j hj
    exact s4 f j (by omega)
  · show (if f = 4 ∧ o = k then none else cP u1 f o) = _
    rw [if_neg hh]
    exact a3.2.2.1 f o (by omega)
