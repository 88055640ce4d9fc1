theorem w_544 : (Jvm.Cond.instanceMethod ({ cls := "TreeShell$Tree", name := "make", desc := "(Z)LTreeShell$Node;" } : Jvm.MethodName)) ∈ zt := List.mem_filter.mpr ⟨List.mem_of_getElem? (i := 544) (by decide +kernel), rfl⟩
theorem w_545 : (Jvm.Cond.selects "TreeShell$Tree" ({ cls := "TreeShell$Tree", name := "make", desc := "(Z)LTreeShell$Node;" } : Jvm.MethodName) ({ cls := "TreeShell$Tree", name := "make", desc := "(Z)LTreeShell$Node;" } : Jvm.MethodName)) ∈ zt := List.mem_filter.mpr ⟨List.mem_of_getElem? (i := 545) (by decide +kernel), rfl⟩
theorem w_546 : (Jvm.Cond.code ({ cls := "TreeShell$Tree", name := "make", desc := "(Z)LTreeShell$Node;" } : Jvm.MethodName) prog_9_method_6_code (3 : Nat) (Option.some (Jvm.ClassFile.FieldType.object "TreeShell$Node"))) ∈ zt := List.mem_filter.mpr ⟨List.mem_of_getElem? (i := 546) (by decide +kernel), rfl⟩
theorem w_547 : (Jvm.Cond.classLink "TreeShell$Tree" (56 : Nat) "TreeShell$Text") ∈ zt := List.mem_filter.mpr ⟨List.mem_of_getElem? (i := 547) (by decide +kernel), rfl⟩
theorem w_548 : (Jvm.Cond.methodLink "TreeShell$Tree" (92 : Nat) ({ cls := "TreeShell$Text", name := "<init>", desc := "(I)V" } : Jvm.MethodName)) ∈ zt := List.mem_filter.mpr ⟨List.mem_of_getElem? (i := 548) (by decide +kernel), rfl⟩
theorem d_cTree_make_0 : decode b_cTree_make 0 = .ok (.aload_n 0, 1) := by decide +kernel
theorem d_cTree_make_1 : decode b_cTree_make 1 = .ok (.getfield 36, 3) := by decide +kernel
theorem d_cTree_make_4 : decode b_cTree_make 4 = .ok (.ifnull 14, 3) := by decide +kernel
theorem d_cTree_make_7 : decode b_cTree_make 7 = .ok (.aload_n 0, 1) := by decide +kernel
theorem d_cTree_make_8 : decode b_cTree_make 8 = .ok (.getfield 26, 3) := by decide +kernel
theorem d_cTree_make_11 : decode b_cTree_make 11 = .ok (.aload_n 0, 1) := by decide +kernel
theorem d_cTree_make_12 : decode b_cTree_make 12 = .ok (.getfield 43, 3) := by decide +kernel
theorem d_cTree_make_15 : decode b_cTree_make 15 = .ok (.if_icmp .lt 5, 3) := by decide +kernel
theorem d_cTree_make_18 : decode b_cTree_make 18 = .ok (.aconst_null, 1) := by decide +kernel
theorem d_cTree_make_19 : decode b_cTree_make 19 = .ok (.areturn, 1) := by decide +kernel
theorem d_cTree_make_20 : decode b_cTree_make 20 = .ok (.iload_n 1, 1) := by decide +kernel
theorem d_cTree_make_21 : decode b_cTree_make 21 = .ok (.ifCond .eq 17, 3) := by decide +kernel
theorem d_cTree_make_24 : decode b_cTree_make 24 = .ok (.new 56, 3) := by decide +kernel
theorem d_cTree_make_27 : decode b_cTree_make 27 = .ok (.dup, 1) := by decide +kernel
theorem d_cTree_make_28 : decode b_cTree_make 28 = .ok (.aload_n 0, 1) := by decide +kernel
theorem d_cTree_make_29 : decode b_cTree_make 29 = .ok (.getfield 46, 3) := by decide +kernel
theorem d_cTree_make_32 : decode b_cTree_make 32 = .ok (.invokespecial 92, 3) := by decide +kernel
theorem d_cTree_make_35 : decode b_cTree_make 35 = .ok (.goto 4, 3) := by decide +kernel
theorem d_cTree_make_38 : decode b_cTree_make 38 = .ok (.aconst_null, 1) := by decide +kernel
theorem d_cTree_make_39 : decode b_cTree_make 39 = .ok (.astore_n 2, 1) := by decide +kernel
theorem d_cTree_make_40 : decode b_cTree_make 40 = .ok (.aload_n 0, 1) := by decide +kernel
theorem d_cTree_make_41 : decode b_cTree_make 41 = .ok (.new 9, 3) := by decide +kernel
theorem d_cTree_make_44 : decode b_cTree_make 44 = .ok (.dup, 1) := by decide +kernel
theorem d_cTree_make_45 : decode b_cTree_make 45 = .ok (.aload_n 0, 1) := by decide +kernel
theorem d_cTree_make_46 : decode b_cTree_make 46 = .ok (.getfield 36, 3) := by decide +kernel
theorem d_cTree_make_49 : decode b_cTree_make 49 = .ok (.aload_n 0, 1) := by decide +kernel
theorem d_cTree_make_50 : decode b_cTree_make 50 = .ok (.getfield 39, 3) := by decide +kernel
theorem d_cTree_make_53 : decode b_cTree_make 53 = .ok (.aload_n 2, 1) := by decide +kernel
theorem d_cTree_make_54 : decode b_cTree_make 54 = .ok (.aload_n 0, 1) := by decide +kernel
theorem d_cTree_make_55 : decode b_cTree_make 55 = .ok (.getfield 20, 3) := by decide +kernel
theorem d_cTree_make_58 : decode b_cTree_make 58 = .ok (.invokespecial 11, 3) := by decide +kernel
theorem d_cTree_make_61 : decode b_cTree_make 61 = .ok (.putfield 20, 3) := by decide +kernel
theorem d_cTree_make_64 : decode b_cTree_make 64 = .ok (.aload_n 0, 1) := by decide +kernel
theorem d_cTree_make_65 : decode b_cTree_make 65 = .ok (.dup, 1) := by decide +kernel
theorem d_cTree_make_66 : decode b_cTree_make 66 = .ok (.getfield 26, 3) := by decide +kernel
theorem d_cTree_make_69 : decode b_cTree_make 69 = .ok (.iconst 1, 1) := by decide +kernel
theorem d_cTree_make_70 : decode b_cTree_make 70 = .ok (.iadd, 1) := by decide +kernel
theorem d_cTree_make_71 : decode b_cTree_make 71 = .ok (.putfield 26, 3) := by decide +kernel
theorem d_cTree_make_74 : decode b_cTree_make 74 = .ok (.aload_n 0, 1) := by decide +kernel
theorem d_cTree_make_75 : decode b_cTree_make 75 = .ok (.getfield 20, 3) := by decide +kernel
theorem d_cTree_make_78 : decode b_cTree_make 78 = .ok (.areturn, 1) := by decide +kernel
theorem cw_cTree_make {mc ms : Nat} {R : Room} {s : State} {args : Array Value} {own : String} {ix : Nat} (hts : ∀ w ∈ zt, w.before args s = true) (hl : (Cond.methodLink own ix y_cTree_make).before args s = true) (h1 : 7 ≤ R.frames) (h2 : 192 ≤ R.locals) : CallW R s args own "TreeShell$Tree" ix y_cTree_make b_cTree_make 3 (some (.object "TreeShell$Node")) (.code y_cTree_make b_cTree_make 3 (some (.object "TreeShell$Node")) :: zt) { frames := 6, cells := mc, slots := ms, locals := 170 } mc ms 1 := ⟨callB_of 1 hts (zgood w_546) rfl rfl rfl (hts _ w_72) hl ⟨by decide, by decide, by decide +kernel⟩ ⟨h1, h2⟩, hts _ w_544, hts _ w_545⟩
/-! Tree.make: a new Text, a new Node, in the world that grows -/
theorem zids_f : ∀ i ∈ zids, (i.1 = 3 → i.2 = 0) ∧ (i.1 = 1 ∨ i.1 = 2 → i.2 < 23) ∧ (i.1 = 4 → i.2 < 5) := by decide +kernel
theorem zrids_f : ∀ i ∈ zrids, 10 ≤ i.1 := by decide +kernel
theorem zid_c {q : Bool} {u : ZC} {i : Nat × Nat} (h : i ∈ zid q u) : i ∈ zids ∨ i ∈ cL u ∨ 10 ≤ i.1 := by
  rcases List.mem_append.mp h with h | h
  · exact (List.mem_append.mp h).elim Or.inl (fun h => Or.inr (Or.inl h))
  · by_cases hq : q = true
    · rw [if_pos hq] at h
      exact Or.inr (Or.inr (zrids_f i h))
    · rw [if_neg hq] at h
      cases h
theorem zx_Ppre {D : va_G} {cl : List vw_C} {a b : va_W} {H : Heap} (h : va_P D cl (a ++ b) H) : va_P D cl a H := fun k x hx => h k x (by rw [List.getElem?_append_left (List.getElem?_eq_some_iff.mp hx).1]; exact hx)
theorem zx_Dpre {A : Nat → Prop} {a b : va_W} (h : va_D A (a ++ b)) : va_D A a := ⟨fun i j x z hx hz hh => h.1 i j x z (by rw [List.getElem?_append_left (List.getElem?_eq_some_iff.mp hx).1]; exact hx) (by rw [List.getElem?_append_left (List.getElem?_eq_some_iff.mp hz).1]; exact hz) hh, fun k x hx => h.2 k x (by rw [List.getElem?_append_left (List.getElem?_eq_some_iff.mp hx).1]; exact hx)⟩
theorem zx_last {ws : va_W} {x : Nat × va_E} : (ws ++ [x])[ws.length]? = some x := by rw [List.getElem?_append_right (Nat.le_refl _), Nat.sub_self]; rfl
theorem zx_one {x y : Nat × va_E} {k : Nat} (h : [x][k]? = some y) : y = x ∧ k = 0 := by
  cases k with
  | zero => exact ⟨(Option.some.inj h).symm, rfl⟩
  | succ k => cases h
theorem zx_Psuf {D : va_G} {cl : List vw_C} {a : va_W} {x : Nat × va_E} {H : Heap} (h : va_P D cl (a ++ [x]) H) : va_P D cl [x] H := fun k z hz => by
  rw [(zx_one hz).1]
  exact h a.length x zx_last
theorem zx_Dsuf {A : Nat → Prop} {a : va_W} {x : Nat × va_E} (h : va_D A (a ++ [x])) : va_D A [x] := ⟨fun i j _ _ h1 h2 _ => (zx_one h1).2.trans (zx_one h2).2.symm, fun k z hz => by
  rw [(zx_one hz).1]
  exact h.2 a.length x zx_last⟩
theorem zx_Fsuf {A : Nat → Prop} {a : va_W} {x : Nat × va_E} {H0 H : Heap} {locs : List Loc} (h : va_D A (a ++ [x])) (hS : va_S A H0 H locs) (hA : ∀ q, H0.size ≤ q → A q) : ∀ q, va_A [x] H.size q → A q := fun q hq => by
  rcases hq with ⟨k, e, hk⟩ | hq
  · have := (zx_one hk).1
    have h2 := h.2 a.length x zx_last
    rw [← this] at h2
    exact h2
  · exact hA q (Nat.le_trans hS.1 hq)
theorem zx_joinE {A : Nat → Prop} {D : va_G} {cl : List vw_C} {ws w1 : va_W} {x : Nat × va_E} {H H1 : Heap} (hP : va_P D cl (ws ++ [x]) H) (hD : va_D A (ws ++ [x])) (hk : ∀ q : Nat, q < H.size → ¬ va_A [x] H.size q → H1[q]? = H[q]?) (hF : ∀ q, va_A [x] H.size q → A q) (hP1 : va_P D cl w1 H1) (hD1 : va_D (va_A [x] H.size) w1) : va_P D cl (ws ++ w1) H1 ∧ va_D A (ws ++ w1) := by
  have apart : ∀ (k : Nat) (z : Nat × va_E), ws[k]? = some z → z.1 < H.size ∧ ¬ va_A [x] H.size z.1 := by
    intro k z hz
    have hl := (zx_Ppre hP k z hz).lt
    refine ⟨hl, fun h => ?_⟩
    rcases h with ⟨k2, e, h⟩ | h
    · have e1 := (zx_one h).1
      have hkl := (List.getElem?_eq_some_iff.mp hz).1
      have := hD.1 k ws.length z x (by rw [List.getElem?_append_left hkl]; exact hz) zx_last (by rw [← e1])
      omega
    · omega
  refine ⟨va_P.app (fun k z hz => ?_) hP1, va_D.app (zx_Dpre hD) (hD1.weaken (fun k z _ h => hF z.1 h)) (fun i j z w hz hw hzw => ?_)⟩
  · obtain ⟨g1, g2⟩ := apart k z hz
    exact (zx_Ppre hP k z hz).kept (hk z.1 g1 g2)
  · exact (apart i z hz).2 (by rw [hzw]; exact hD1.2 j w hw)
theorem zw_grow {D : va_G} {B : Nat} {y : Nat → ClassId} {ad ad2 : Nat × Nat → Nat} {q : Bool} {u v : ZC} {r : ZR} {H : Heap} {N : List (Nat × Nat)} {E : va_W} (hL : cL v = cL u ++ N) (hE : (N.map fun i => (ad2 i, zcell ad2 y v r i)) = E) (ho : ∀ j, j ∈ zid q u → ad2 j = ad j ∧ zcell ad2 y v r j = zcell ad y u r j) (hP : va_P D ZCL (zws q ad y u r ++ E) H) (hD : va_D (fun x => B ≤ x) (zws q ad y u r ++ E)) : ZW D B y ad2 q v r H := by
  have e1 : zws q ad y u r = (zids ++ cL u).map (fun i => (ad2 i, zcell ad2 y v r i)) ++ (if q = true then zrids else []).map (fun i => (ad2 i, zcell ad2 y v r i)) := by
    rw [← List.map_append]
    exact List.map_congr_left (fun j hj => by rw [(ho j hj).1, (ho j hj).2])
  have e2 : zws q ad2 y v r = ((zids ++ cL u).map (fun i => (ad2 i, zcell ad2 y v r i)) ++ E) ++ (if q = true then zrids else []).map (fun i => (ad2 i, zcell ad2 y v r i)) := by
    unfold zws zid
    rw [hL, ← List.append_assoc, List.map_append, List.map_append, hE]
  unfold ZW
  rw [e2]
  rw [e1] at hP hD
  exact ⟨hP.swap, hD.swap⟩
/-- what a cell names -/
theorem zcell_ad {ad ad2 : Nat × Nat → Nat} {y : Nat → ClassId} {u : ZC} {r : ZR} {j : Nat × Nat} (h0 : ∀ k, ad2 (0, k) = ad (0, k)) (h4 : ∀ k, ad2 (4, k) = ad (4, k)) (h11 : ∀ k, ad2 (11, k) = ad (11, k)) (h30 : ad2 (3, 0) = ad (3, 0)) (h1 : ∀ t, t < 23 → ad2 (1, t) = ad (1, t)) (h2 : j.1 = 1 → ad2 (2, j.2) = ad (2, j.2)) (hl : j.1 = 4 → j.2 < 5) (hp : ∀ f, f < 4 → zrf ad2 3 (cP u f 0) = zrf ad 3 (cP u f 0)) (hp4 : j.1 = 4 → zrf ad2 1 (cP u 4 j.2) = zrf ad 1 (cP u 4 j.2)) (hp5 : j.1 = 3 → zrf ad2 3 (cP u 5 j.2) = zrf ad 3 (cP u 5 j.2) ∧ zrf ad2 1 (cP u 6 j.2) = zrf ad 1 (cP u 6 j.2) ∧ zrf ad2 3 (cP u 7 j.2) = zrf ad 3 (cP u 7 j.2)) : zcell ad2 y u r j = zcell ad y u r j := by
  have e0 := h1 0 (by decide)
  have e1 := h1 1 (by decide)
  have e2 := h1 2 (by decide)
  have p0 := hp 0 (by decide)
  have p1 := hp 1 (by decide)
  have p2 := hp 2 (by decide)
  have p3 := hp 3 (by decide)
  unfold zcell
  split
  case h_13 t => simp only [h2 rfl]
  case h_15 t => rw [(hp5 rfl).1, (hp5 rfl).2.1, (hp5 rfl).2.2]
  case h_16 t =>
    have := hl rfl
    rw [h1 (3 + 4 * t) (by omega), h1 (4 + 4 * t) (by omega), h1 (5 + 4 * t) (by omega), h1 (6 + 4 * t) (by omega), hp4 rfl]
  all_goals first | rfl | simp only [h0, h4, h11, h30, e0, e1, e2, p0, p1, p2, p3]
def adT (ad : Nat × Nat → Nat) (t a1 a2 : Nat) : Nat × Nat → Nat := fun i => if i = (1, t) then a1 else if i = (2, t) then a2 else ad i
def adN (ad : Nat × Nat → Nat) (n a3 : Nat) : Nat × Nat → Nat := fun i => if i = (3, n) then a3 else ad i
theorem adT_n {ad : Nat × Nat → Nat} {t a1 a2 : Nat} {i : Nat × Nat} (h1 : i ≠ (1, t)) (h2 : i ≠ (2, t)) : adT ad t a1 a2 i = ad i := by unfold adT; rw [if_neg h1, if_neg h2]
theorem adN_n {ad : Nat × Nat → Nat} {n a3 : Nat} {i : Nat × Nat} (h1 : i ≠ (3, n)) : adN ad n a3 i = ad i := if_neg h1
theorem zrf_eq {ad ad2 : Nat × Nat → Nat} {k : Nat} {w : Option Nat} (h : ∀ n, w = some n → ad2 (k, n) = ad (k, n)) : zrf ad2 k w = zrf ad k w := by
  cases w with
  | none => rfl
  | some n => exact congrArg Value.ref (h n rfl)
theorem zpn {a b c d : Nat} (h : a ≠ c ∨ b ≠ d) : (a, b) ≠ (c, d) := fun e => by
  have e1 := congrArg Prod.fst e
  have e2 := congrArg Prod.snd e
  rcases h with h | h
  · exact h e1
  · exact h e2
theorem nt_I {u : ZC} {t len : Nat} (f o : Nat) (h : 2 ≤ f ∨ o ≠ t) : cI (sNT u t len) f o = cI u f o := if_neg (fun hh => by omega)
theorem zo_NT {ad : Nat × Nat → Nat} {y : Nat → ClassId} {u : ZC} {r : ZR} {t len : Nat} {j : Nat × Nat} (h1 : j ≠ (1, t)) (h2 : j ≠ (2, t)) : zcell ad y (sNT u t len) r j = zcell ad y u r j := by
  unfold zcell
  split
  case h_13 b =>
    have hb : b ≠ t := fun h => h1 (by rw [h])
    rw [nt_I 0 b (Or.inr hb), nt_I 1 b (Or.inr hb)]
  case h_14 b =>
    have hb : b ≠ t := fun h => h2 (by rw [h])
    have e1 : cN (sNT u t len) b = cN u b := if_neg hb
    have e2 : (fun i => zI (cA (sNT u t len) 0 b i)) = fun i => zI (cA u 0 b i) := by
      funext i
      exact congrArg zI (if_neg (fun h => hb h.2))
    rw [e1, e2]
  case h_16 b => rw [nt_I 11 b (Or.inl (by decide))]; rfl
  all_goals first | rfl | (simp only [nt_I 2 0 (Or.inl (by decide)), nt_I 3 0 (Or.inl (by decide)), nt_I 4 0 (Or.inl (by decide)), nt_I 5 0 (Or.inl (by decide)), nt_I 6 0 (Or.inl (by decide)), nt_I 7 0 (Or.inl (by decide)), nt_I 8 0 (Or.inl (by decide)), nt_I 9 0 (Or.inl (by decide)), nt_I 10 0 (Or.inl (by decide))] <;> rfl)
theorem zo_NN {ad : Nat × Nat → Nat} {y : Nat → ClassId} {u : ZC} {r : ZR} {n : Nat} {pp ct w : Option Nat} {nm : Int64} {j : Nat × Nat} (h1 : j ≠ (3, n)) : zcell ad y (sNN u n pp nm ct w) r j = zcell ad y u r j := by
  unfold zcell
  split
  case h_15 b =>
    have hb : b ≠ n := fun h => h1 (by rw [h])
    have e1 : cJ (sNN u n pp nm ct w) 0 b = cJ u 0 b := if_neg (fun h => hb h.2)
    have e2 : cP (sNN u n pp nm ct w) 5 b = cP u 5 b := if_neg (fun h => hb h.2)
    have e3 : cP (sNN u n pp nm ct w) 6 b = cP u 6 b := if_neg (fun h => hb h.2)
    have e4 : cP (sNN u n pp nm ct w) 7 b = cP u 7 b := if_neg (fun h => hb h.2)
    rw [e1, e2, e3, e4]
  all_goals rfl
/-- a new Text in the world -/
theorem zw_text {D : va_G} {B : Nat} {y : Nat → ClassId} {ad : Nat × Nat → Nat} {q : Bool} {u : ZC} {r : ZR} {H : Heap} {t len a1 a2 : Nat} (ht : 23 ≤ t) (f1 : (1, t) ∉ cL u) (f2 : (2, t) ∉ cL u) (f4 : ∀ i ∈ cL u, i.1 ≠ 4) (g4 : ∀ k ∈ [0, 1, 2, 3, 4], cP u 4 k ≠ some t) (g6 : ∀ i ∈ (3, 0) :: cL u, cP u 6 i.2 ≠ some t) (hP : va_P D ZCL (zws q ad y u r ++ [(a1, .inr (7, [.ref a2, .int (zI 0), .int (zI 0)])), (a2, .inl (y 1, len, .inl (fun _ => zI 0)))]) H) (hD : va_D (fun x => B ≤ x) (zws q ad y u r ++ [(a1, .inr (7, [.ref a2, .int (zI 0), .int (zI 0)])), (a2, .inl (y 1, len, .inl (fun _ => zI 0)))])) : ZW D B y (adT ad t a1 a2) q (sNT u t len) r H := by
  have hne : ∀ j, j ∈ zid q u → j ≠ (1, t) ∧ j ≠ (2, t) := by
    intro j hj
    rcases zid_c hj with h | h | h
    · have := zids_f j h
      exact ⟨fun e => by rw [e] at this; have := this.2.1 (Or.inl rfl); omega, fun e => by rw [e] at this; have := this.2.1 (Or.inr rfl); omega⟩
    · exact ⟨fun e => f1 (by rw [← e]; exact h), fun e => f2 (by rw [← e]; exact h)⟩
    · exact ⟨fun e => by rw [e] at h; omega, fun e => by rw [e] at h; omega⟩
  have e1 : adT ad t a1 a2 (1, t) = a1 := if_pos rfl
  have e2 : adT ad t a1 a2 (2, t) = a2 := by unfold adT; rw [if_neg (zpn (Or.inl (by decide))), if_pos rfl]
  refine zw_grow (u := u) (N := [(1, t), (2, t)]) rfl ?_ (fun j hj => ⟨adT_n (hne j hj).1 (hne j hj).2, ?_⟩) hP hD
  · have c1 : cI (sNT u t len) 0 t = 0 := if_pos ⟨rfl, Or.inl rfl⟩
    have c2 : cI (sNT u t len) 1 t = 0 := if_pos ⟨rfl, Or.inr rfl⟩
    have c3 : cN (sNT u t len) t = len := if_pos rfl
    have c4 : (fun i => zI (cA (sNT u t len) 0 t i)) = fun _ => zI 0 := by
      funext i
      exact congrArg zI (if_pos ⟨rfl, rfl⟩)
    show [(adT ad t a1 a2 (1, t), (.inr (7, [.ref (adT ad t a1 a2 (2, t)), .int (zI (cI (sNT u t len) 0 t)), .int (zI (cI (sNT u t len) 1 t))]) : va_E)), (adT ad t a1 a2 (2, t), .inl (y 1, cN (sNT u t len) t, .inl (fun i => zI (cA (sNT u t len) 0 t i))))] = _
    rw [e1, e2, c1, c2, c3, c4]
  · rw [zo_NT (hne j hj).1 (hne j hj).2]
    have hk : ∀ a b : Nat, a ≠ 1 → a ≠ 2 → adT ad t a1 a2 (a, b) = ad (a, b) := fun a b ha hb => adT_n (zpn (Or.inl ha)) (zpn (Or.inl hb))
    have h3 : ∀ w, zrf (adT ad t a1 a2) 3 w = zrf ad 3 w := fun w => zrf_eq (fun n _ => hk 3 n (by decide) (by decide))
    have h1t : ∀ w : Option Nat, w ≠ some t → zrf (adT ad t a1 a2) 1 w = zrf ad 1 w := fun w hw => zrf_eq (fun n hn => adT_n (zpn (Or.inr (fun e => hw (by rw [hn, e])))) (zpn (Or.inl (by decide))))
    refine zcell_ad (fun k => hk 0 k (by decide) (by decide)) (fun k => hk 4 k (by decide) (by decide)) (fun k => hk 11 k (by decide) (by decide)) (hk 3 0 (by decide) (by decide)) (fun k hk => adT_n (zpn (Or.inr (by omega))) (zpn (Or.inl (by decide)))) (fun h => ?_) (fun h => ?_) (fun f _ => h3 _) (fun h => h1t _ ?_) (fun h => ⟨h3 _, h1t _ ?_, h3 _⟩)
    · exact adT_n (zpn (Or.inl (by decide))) (zpn (Or.inr (fun e => (hne j hj).1 (Prod.ext h e))))
    · rcases zid_c hj with g | g | g
      · exact (zids_f j g).2.2 h
      · exact absurd h (f4 j g)
      · omega
    · have hj5 : j.2 < 5 := by
        rcases zid_c hj with g | g | g
        · exact (zids_f j g).2.2 h
        · exact absurd h (f4 j g)
        · omega
      exact g4 j.2 (by simp only [List.mem_cons, List.not_mem_nil, or_false]; omega)
    · rcases zid_c hj with g | g | g
      · rw [(zids_f j g).1 h]
        exact g6 (3, 0) List.mem_cons_self
      · exact g6 j (List.mem_cons_of_mem _ g)
      · omega
/-- a new Node in the world -/
theorem zw_node {D : va_G} {B : Nat} {y : Nat → ClassId} {ad : Nat × Nat → Nat} {q : Bool} {u : ZC} {r : ZR} {H : Heap} {n a3 pn : Nat} {nm : Int64} {ct w : Option Nat} (hn : 1 ≤ n) (f3 : (3, n) ∉ cL u) (f4 : ∀ i ∈ cL u, i.1 ≠ 4) (gp : ∀ f ∈ [0, 1, 2, 3], cP u f 0 ≠ some n) (g5 : ∀ i ∈ (3, 0) :: cL u, i.1 = 3 → cP u 5 i.2 ≠ some n ∧ cP u 7 i.2 ≠ some n) (hpn : pn ≠ n) (hw : w ≠ some n) (hP : va_P D ZCL (zws q ad y u r ++ [(a3, .inr (8, [.ref (ad (3, pn)), .long nm, zrf ad 1 ct, zrf ad 3 w]))]) H) (hD : va_D (fun x => B ≤ x) (zws q ad y u r ++ [(a3, .inr (8, [.ref (ad (3, pn)), .long nm, zrf ad 1 ct, zrf ad 3 w]))])) : ZW D B y (adN ad n a3) q (sNN u n (some pn) nm ct w) r H := by
  have hne : ∀ j, j ∈ zid q u → j ≠ (3, n) := by
    intro j hj e
    rcases zid_c hj with h | h | h
    · have := (zids_f j h).1
      rw [e] at this
      have := this rfl
      omega
    · exact f3 (by rw [← e]; exact h)
    · rw [e] at h; omega
  have e1 : adN ad n a3 (3, n) = a3 := if_pos rfl
  have hk : ∀ a b : Nat, a ≠ 3 → adN ad n a3 (a, b) = ad (a, b) := fun a b ha => adN_n (zpn (Or.inl ha))
  have h1 : ∀ w, zrf (adN ad n a3) 1 w = zrf ad 1 w := fun w => zrf_eq (fun m _ => hk 1 m (by decide))
  have h3 : ∀ w : Option Nat, w ≠ some n → zrf (adN ad n a3) 3 w = zrf ad 3 w := fun w hw => zrf_eq (fun m hm => adN_n (zpn (Or.inr (fun e => hw (by rw [hm, e])))))
  refine zw_grow (u := u) (N := [(3, n)]) rfl ?_ (fun j hj => ⟨adN_n (hne j hj), ?_⟩) hP hD
  · have c1 : cP (sNN u n (some pn) nm ct w) 5 n = some pn := if_pos ⟨rfl, rfl⟩
    have c2 : cP (sNN u n (some pn) nm ct w) 6 n = ct := if_pos ⟨rfl, rfl⟩
    have c3 : cP (sNN u n (some pn) nm ct w) 7 n = w := if_pos ⟨rfl, rfl⟩
    have c4 : cJ (sNN u n (some pn) nm ct w) 0 n = nm := if_pos ⟨rfl, rfl⟩
    show [(adN ad n a3 (3, n), (.inr (8, [zrf (adN ad n a3) 3 (cP (sNN u n (some pn) nm ct w) 5 n), .long (cJ (sNN u n (some pn) nm ct w) 0 n), zrf (adN ad n a3) 1 (cP (sNN u n (some pn) nm ct w) 6 n), zrf (adN ad n a3) 3 (cP (sNN u n (some pn) nm ct w) 7 n)]) : va_E))] = _
    rw [c1, c2, c3, c4, e1, h1, h3 w hw, h3 (some pn) (fun e => hpn (Option.some.inj e))]
    rfl
  · rw [zo_NN (hne j hj)]
    refine zcell_ad (fun k => hk 0 k (by decide)) (fun k => hk 4 k (by decide)) (fun k => hk 11 k (by decide)) (adN_n (zpn (Or.inr (by omega)))) (fun k _ => hk 1 k (by decide)) (fun _ => hk 2 _ (by decide)) (fun h => ?_) (fun f hf => h3 _ (gp f (by simp only [List.mem_cons, List.not_mem_nil, or_false]; omega))) (fun _ => h1 _) (fun h => ?_)
    · rcases zid_c hj with g | g | g
      · exact (zids_f j g).2.2 h
      · exact absurd h (f4 j g)
      · omega
    · have hg : cP u 5 j.2 ≠ some n ∧ cP u 7 j.2 ≠ some n := by
        rcases zid_c hj with g | g | g
        · rw [(zids_f j g).1 h]
          exact g5 (3, 0) List.mem_cons_self rfl
        · exact g5 j (List.mem_cons_of_mem _ g) h
        · omega
      exact ⟨h3 _ hg.1, h1 _, h3 _ hg.2⟩
set_option maxHeartbeats 8000000 in
set_option maxRecDepth 100000 in
theorem i_No_newD0 {l : Launch} {D : va_G} {y : Nat → ClassId} (h0 sz : Nat) (r1 r4 r5 : Nat) (v2 : Int64) : Met l y_cNode_init (.code y_cNode_init b_cNode_init 6 none :: zt) { frames := 1, cells := 0, slots := 0, locals := 12 } (va_Pc [.ref h0, .ref r1, .long v2, .null, .null] (fun U => U.heap.size = sz ∧ va_P D ZCL [(h0, .inr (8, [.null, .long 0, .null, .null]))] U.heap ∧ va_K D ZCL (ztys y) U ∧ va_D (fun _ => True) [(h0, .inr (8, [.null, .long 0, .null, .null]))])) (va_Qv (fun _ : Nat → Nat => True) (fun x t => va_P D ZCL [(h0, .inr (8, [.ref r1, .long v2, .null, .null]))] t.heap ∧ va_K D ZCL (ztys y) t ∧ va_D (va_A [(h0, .inr (8, [.null, .long 0, .null, .null]))] sz) [(h0, .inr (8, [.ref r1, .long v2, .null, .null]))]) (va_A [(h0, .inr (8, [.null, .long 0, .null, .null]))] sz)) 0 0 (va_A [(h0, .inr (8, [.null, .long 0, .null, .null]))] sz) := by
  refine Met.ofW (cc := b_cNode_init) (maxL := 6) (ret := none) (by decide) rfl ?_
  intro p e s m args below meth c s₁ Bd hml hv
  obtain ⟨hargs, hsz, hP, hK, hD0⟩ := hv
  have hx := Bd.exec
  have hb := Bd.bytes
  have hr := Bd.returns
  have hts0 := atoms_spec (ws := .code y_cNode_init b_cNode_init 6 none :: zt) Bd.pre
  have hts : ∀ w ∈ zt, w.before args s = true := fun w h => hts0 w (List.mem_cons_of_mem _ h)
  have hown : s.vm.findClass "TreeShell$Node" = some m.cls := findClass_of_methodNamed Bd.named
  have hlocks := Bd.notSynchronized
  have hin : meth.name = "<init>" := (name_of_methodNamed Bd.named Bd.method).1
  subst hsz
  have hD := hD0.self (sz := s.heap.size)
  generalize hAe : va_A [(h0, .inr (8, [.null, .long 0, .null, .null]))] s.heap.size = A at hD ⊢
  have hA : ∀ q : Nat, s.heap.size ≤ q → A q := fun q h => by rw [← hAe]; exact Or.inr h
  have hS : va_S A s.heap s.heap [] := va_S.rf
  have hP : va_P D ZCL [(h0, .inr (8, [.null, .long 0, .null, .null]))] s.heap := hP
  have hE := lg_entry_eq m ([.ref h0, .ref r1, .long v2, .null, .null] : List Value) 6
  rw [← hargs] at hE
  rw [hE]
  have hl := lv_entry ([.ref h0, .ref r1, .long v2, .null, .null] : List Value) (n := 6) (Nat.le_of_ble_eq_true rfl)
  generalize (lg_sl ([.ref h0, .ref r1, .long v2, .null, .null] : List Value) ++ List.replicate (6 - (lg_sl ([.ref h0, .ref r1, .long v2, .null, .null] : List Value)).length) Slot.unset).toArray = ls at hl ⊢
  have hl : lv_has ls 6 [(0, .ref h0), (1, .ref r1), (2, .long v2), (4, .null), (5, .null)] := hl
  generalize hH : s.heap = H at hP
  have hS : va_S A s.heap H [] := by rw [← hH]; exact hS
  refine lv_aload_n hx hb d_cNode_init_0 rfl (lv_at hl 0 rfl) ?_
  refine W.objInit hx hb hown (hts _ w_182) (hts _ w_91) (hts _ w_92) rfl (by rw [hml]; exact hl.1) rfl d_cNode_init_1 (Nat.le_of_ble_eq_true rfl) (Nat.le_of_ble_eq_true rfl) ?_
  refine W.eq (g2 := F0 m 4 ls []) rfl ?_
  refine lv_aload_n hx hb d_cNode_init_4 rfl (lv_at hl 0 rfl) ?_
  refine lv_aload_n hx hb d_cNode_init_5 rfl (lv_at hl 1 rfl) ?_
  refine va_putF (D := D) (ci := 8) (v := .ref r1) (ty := .object "TreeShell$Node") (C := "TreeShell$Node") (T := F_No) (N := 4) hx hb hts i_No t_No t_No_ok n_No hown hK hP hD hS 0 rfl rfl 0 (by decide) (hts _ w_183) (fun _ h9 => h9) rfl hin rfl (by decide +kernel) rfl rfl (Nat.le_of_ble_eq_true rfl) d_cNode_init_6 (fun H locs hP hD hS => ?_)
  have hP : va_P D ZCL [(h0, .inr (8, [.ref r1, .long 0, .null, .null]))] H := hP
  have hD : va_D A [(h0, .inr (8, [.ref r1, .long 0, .null, .null]))] := hD
  refine lv_aload_n hx hb d_cNode_init_9 rfl (lv_at hl 0 rfl) ?_
  refine lv_lload_n hx hb d_cNode_init_10 rfl (lv_at hl 2 rfl) ?_
  refine va_putF (D := D) (ci := 8) (v := .long v2) (ty := .long) (C := "TreeShell$Node") (T := F_No) (N := 4) hx hb hts i_No t_No t_No_ok n_No hown hK hP hD hS 0 rfl rfl 1 (by decide) (hts _ w_186) (fun _ h9 => h9) rfl hin rfl (by decide +kernel) rfl rfl (Nat.le_of_ble_eq_true rfl) d_cNode_init_11 (fun H locs hP hD hS => ?_)
  have hP : va_P D ZCL [(h0, .inr (8, [.ref r1, .long v2, .null, .null]))] H := hP
  have hD : va_D A [(h0, .inr (8, [.ref r1, .long v2, .null, .null]))] := hD
  refine lv_aload_n hx hb d_cNode_init_14 rfl (lv_at hl 0 rfl) ?_
  refine lv_aloadN hx hb d_cNode_init_15 (lv_at hl 3 rfl) ?_
  refine va_putF (D := D) (ci := 8) (v := .null) (ty := .object "TreeShell$Text") (C := "TreeShell$Node") (T := F_No) (N := 4) hx hb hts i_No t_No t_No_ok n_No hown hK hP hD hS 0 rfl rfl 2 (by decide) (hts _ w_189) (fun _ h9 => h9) rfl hin rfl (by decide +kernel) rfl rfl (Nat.le_of_ble_eq_true rfl) d_cNode_init_17 (fun H locs hP hD hS => ?_)
  have hP : va_P D ZCL [(h0, .inr (8, [.ref r1, .long v2, .null, .null]))] H := hP
  have hD : va_D A [(h0, .inr (8, [.ref r1, .long v2, .null, .null]))] := hD
  refine lv_aload_n hx hb d_cNode_init_20 rfl (lv_at hl 0 rfl) ?_
  refine lv_aloadN hx hb d_cNode_init_21 (lv_at hl 4 rfl) ?_
  refine va_putF (D := D) (ci := 8) (v := .null) (ty := .object "TreeShell$Node") (C := "TreeShell$Node") (T := F_No) (N := 4) hx hb hts i_No t_No t_No_ok n_No hown hK hP hD hS 0 rfl rfl 3 (by decide) (hts _ w_193) (fun _ h9 => h9) rfl hin rfl (by decide +kernel) rfl rfl (Nat.le_of_ble_eq_true rfl) d_cNode_init_23 (fun H locs hP hD hS => ?_)
  have hP : va_P D ZCL [(h0, .inr (8, [.ref r1, .long v2, .null, .null]))] H := hP
  have hD : va_D A [(h0, .inr (8, [.ref r1, .long v2, .null, .null]))] := hD
  exact W.vret hx hb hr (fun t ht hW => ⟨⟨(fun i => ([] : List Nat).getD i 0), rfl, trivial, by rw [ht]; exact hP, va_K.moved hW.alike hK, hD⟩, hS.F ht⟩) hS.2.2 d_cNode_init_26
theorem cwi_i_No_newD0 {R : Room} {s : State} {args : Array Value} {own : String} {ix : Nat} (hts : ∀ w ∈ zt, w.before args s = true) (hl : (Cond.methodLink own ix y_cNode_init).before args s = true) (h1 : 2 ≤ R.frames) (h2 : 37 ≤ R.locals) : CallB R s args own ix y_cNode_init b_cNode_init 6 none (.code y_cNode_init b_cNode_init 6 none :: zt) { frames := 1, cells := 0, slots := 0, locals := 12 } 0 0 4 ∧ y_cNode_init.name = "<init>" ∧ (Cond.instanceMethod y_cNode_init).before args s = true := ⟨callB_of 4 hts (zgood w_181) rfl rfl rfl (hts _ w_74) hl ⟨by decide, by decide, by decide +kernel⟩ ⟨h1, h2⟩, rfl, hts _ w_180⟩
set_option maxHeartbeats 8000000 in
set_option maxRecDepth 100000 in
theorem i_No_newF0 {l : Launch} {D : va_G} {y : Nat → ClassId} (h0 sz : Nat) (r1 r4 r5 : Nat) (v2 : Int64) : Met l y_cNode_init (.code y_cNode_init b_cNode_init 6 none :: zt) { frames := 1, cells := 0, slots := 0, locals := 12 } (va_Pc [.ref h0, .ref r1, .long v2, .ref r4, .null] (fun U => U.heap.size = sz ∧ va_P D ZCL [(h0, .inr (8, [.null, .long 0, .null, .null]))] U.heap ∧ va_K D ZCL (ztys y) U ∧ va_D (fun _ => True) [(h0, .inr (8, [.null, .long 0, .null, .null]))])) (va_Qv (fun _ : Nat → Nat => True) (fun x t => va_P D ZCL [(h0, .inr (8, [.ref r1, .long v2, .ref r4, .null]))] t.heap ∧ va_K D ZCL (ztys y) t ∧ va_D (va_A [(h0, .inr (8, [.null, .long 0, .null, .null]))] sz) [(h0, .inr (8, [.ref r1, .long v2, .ref r4, .null]))]) (va_A [(h0, .inr (8, [.null, .long 0, .null, .null]))] sz)) 0 0 (va_A [(h0, .inr (8, [.null, .long 0, .null, .null]))] sz) := by
  refine Met.ofW (cc := b_cNode_init) (maxL := 6) (ret := none) (by decide) rfl ?_
  intro p e s m args below meth c s₁ Bd hml hv
  obtain ⟨hargs, hsz, hP, hK, hD0⟩ := hv
  have hx := Bd.exec
  have hb := Bd.bytes
  have hr := Bd.returns
  have hts0 := atoms_spec (ws := .code y_cNode_init b_cNode_init 6 none :: zt) Bd.pre
  have hts : ∀ w ∈ zt, w.before args s = true := fun w h => hts0 w (List.mem_cons_of_mem _ h)
  have hown : s.vm.findClass "TreeShell$Node" = some m.cls := findClass_of_methodNamed Bd.named
  have hlocks := Bd.notSynchronized
  have hin : meth.name = "<init>" := (name_of_methodNamed Bd.named Bd.method).1
  subst hsz
  have hD := hD0.self (sz := s.heap.size)
  generalize hAe : va_A [(h0, .inr (8, [.null, .long 0, .null, .null]))] s.heap.size = A at hD ⊢
  have hA : ∀ q : Nat, s.heap.size ≤ q → A q := fun q h => by rw [← hAe]; exact Or.inr h
  have hS : va_S A s.heap s.heap [] := va_S.rf
  have hP : va_P D ZCL [(h0, .inr (8, [.null, .long 0, .null, .null]))] s.heap := hP
  have hE := lg_entry_eq m ([.ref h0, .ref r1, .long v2, .ref r4, .null] : List Value) 6
  rw [← hargs] at hE
  rw [hE]
  have hl := lv_entry ([.ref h0, .ref r1, .long v2, .ref r4, .null] : List Value) (n := 6) (Nat.le_of_ble_eq_true rfl)
  generalize (lg_sl ([.ref h0, .ref r1, .long v2, .ref r4, .null] : List Value) ++ List.replicate (6 - (lg_sl ([.ref h0, .ref r1, .long v2, .ref r4, .null] : List Value)).length) Slot.unset).toArray = ls at hl ⊢
  have hl : lv_has ls 6 [(0, .ref h0), (1, .ref r1), (2, .long v2), (4, .ref r4), (5, .null)] := hl
  generalize hH : s.heap = H at hP
  have hS : va_S A s.heap H [] := by rw [← hH]; exact hS
  refine lv_aload_n hx hb d_cNode_init_0 rfl (lv_at hl 0 rfl) ?_
  refine W.objInit hx hb hown (hts _ w_182) (hts _ w_91) (hts _ w_92) rfl (by rw [hml]; exact hl.1) rfl d_cNode_init_1 (Nat.le_of_ble_eq_true rfl) (Nat.le_of_ble_eq_true rfl) ?_
  refine W.eq (g2 := F0 m 4 ls []) rfl ?_
  refine lv_aload_n hx hb d_cNode_init_4 rfl (lv_at hl 0 rfl) ?_
  refine lv_aload_n hx hb d_cNode_init_5 rfl (lv_at hl 1 rfl) ?_
  refine va_putF (D := D) (ci := 8) (v := .ref r1) (ty := .object "TreeShell$Node") (C := "TreeShell$Node") (T := F_No) (N := 4) hx hb hts i_No t_No t_No_ok n_No hown hK hP hD hS 0 rfl rfl 0 (by decide) (hts _ w_183) (fun _ h9 => h9) rfl hin rfl (by decide +kernel) rfl rfl (Nat.le_of_ble_eq_true rfl) d_cNode_init_6 (fun H locs hP hD hS => ?_)
  have hP : va_P D ZCL [(h0, .inr (8, [.ref r1, .long 0, .null, .null]))] H := hP
  have hD : va_D A [(h0, .inr (8, [.ref r1, .long 0, .null, .null]))] := hD
  refine lv_aload_n hx hb d_cNode_init_9 rfl (lv_at hl 0 rfl) ?_
  refine lv_lload_n hx hb d_cNode_init_10 rfl (lv_at hl 2 rfl) ?_
  refine va_putF (D := D) (ci := 8) (v := .long v2) (ty := .long) (C := "TreeShell$Node") (T := F_No) (N := 4) hx hb hts i_No t_No t_No_ok n_No hown hK hP hD hS 0 rfl rfl 1 (by decide) (hts _ w_186) (fun _ h9 => h9) rfl hin rfl (by decide +kernel) rfl rfl (Nat.le_of_ble_eq_true rfl) d_cNode_init_11 (fun H locs hP hD hS => ?_)
  have hP : va_P D ZCL [(h0, .inr (8, [.ref r1, .long v2, .null, .null]))] H := hP
  have hD : va_D A [(h0, .inr (8, [.ref r1, .long v2, .null, .null]))] := hD
  refine lv_aload_n hx hb d_cNode_init_14 rfl (lv_at hl 0 rfl) ?_
  refine lv_aload hx hb d_cNode_init_15 (lv_at hl 3 rfl) ?_
  refine va_putF (D := D) (ci := 8) (v := .ref r4) (ty := .object "TreeShell$Text") (C := "TreeShell$Node") (T := F_No) (N := 4) hx hb hts i_No t_No t_No_ok n_No hown hK hP hD hS 0 rfl rfl 2 (by decide) (hts _ w_189) (fun _ h9 => h9) rfl hin rfl (by decide +kernel) rfl rfl (Nat.le_of_ble_eq_true rfl) d_cNode_init_17 (fun H locs hP hD hS => ?_)
  have hP : va_P D ZCL [(h0, .inr (8, [.ref r1, .long v2, .ref r4, .null]))] H := hP
  have hD : va_D A [(h0, .inr (8, [.ref r1, .long v2, .ref r4, .null]))] := hD
  refine lv_aload_n hx hb d_cNode_init_20 rfl (lv_at hl 0 rfl) ?_
  refine lv_aloadN hx hb d_cNode_init_21 (lv_at hl 4 rfl) ?_
  refine va_putF (D := D) (ci := 8) (v := .null) (ty := .object "TreeShell$Node") (C := "TreeShell$Node") (T := F_No) (N := 4) hx hb hts i_No t_No t_No_ok n_No hown hK hP hD hS 0 rfl rfl 3 (by decide) (hts _ w_193) (fun _ h9 => h9) rfl hin rfl (by decide +kernel) rfl rfl (Nat.le_of_ble_eq_true rfl) d_cNode_init_23 (fun H locs hP hD hS => ?_)
  have hP : va_P D ZCL [(h0, .inr (8, [.ref r1, .long v2, .ref r4, .null]))] H := hP
  have hD : va_D A [(h0, .inr (8, [.ref r1, .long v2, .ref r4, .null]))] := hD
  exact W.vret hx hb hr (fun t ht hW => ⟨⟨(fun i => ([] : List Nat).getD i 0), rfl, trivial, by rw [ht]; exact hP, va_K.moved hW.alike hK, hD⟩, hS.F ht⟩) hS.2.2 d_cNode_init_26
theorem cwi_i_No_newF0 {R : Room} {s : State} {args : Array Value} {own : String} {ix : Nat} (hts : ∀ w ∈ zt, w.before args s = true) (hl : (Cond.methodLink own ix y_cNode_init).before args s = true) (h1 : 2 ≤ R.frames) (h2 : 37 ≤ R.locals) : CallB R s args own ix y_cNode_init b_cNode_init 6 none (.code y_cNode_init b_cNode_init 6 none :: zt) { frames := 1, cells := 0, slots := 0, locals := 12 } 0 0 4 ∧ y_cNode_init.name = "<init>" ∧ (Cond.instanceMethod y_cNode_init).before args s = true := ⟨callB_of 4 hts (zgood w_181) rfl rfl rfl (hts _ w_74) hl ⟨by decide, by decide, by decide +kernel⟩ ⟨h1, h2⟩, rfl, hts _ w_180⟩
section
variable {p : Program} {l : Launch} {e : Env} {R : Room} {s : State} {m : MethodId} {args : Array Value} {below : List Frame} {meth : Method} {c : Code} {H H0 : Heap} {locs : List Loc} {cells slots : Nat} {Q : State → Prop}
variable {cc : ByteArray} {pc : Nat} {ls : Array Slot} {rest : List Value} {α : Type} {o : α} {D : va_G} {B : Nat} {y : Nat → ClassId} {ad : Nat × Nat → Nat} {q : Bool} {u : ZC} {r : ZR} {sa sv : Nat → Nat}
variable {L0 : List (Nat × Nat)} {ad0 : Nat × Nat → Nat} {cs ss : Nat}
theorem i_No_newG {l : Launch} {D : va_G} {y : Nat → ClassId} (h0 sz r1 : Nat) (v2 : Int64) (o4 o5 : Option Nat) : Met l y_cNode_init (.code y_cNode_init b_cNode_init 6 none :: zt) { frames := 1, cells := 0, slots := 0, locals := 12 } (va_Pc [.ref h0, .ref r1, .long v2, va_rf o4, va_rf o5] (fun U => U.heap.size = sz ∧ va_P D ZCL [(h0, .inr (8, [.null, .long 0, .null, .null]))] U.heap ∧ va_K D ZCL (ztys y) U ∧ va_D (fun _ => True) [(h0, .inr (8, [.null, .long 0, .null, .null]))])) (va_Qv (fun _ : Nat → Nat => True) (fun x t => va_P D ZCL [(h0, .inr (8, [.ref r1, .long v2, va_rf o4, va_rf o5]))] t.heap ∧ va_K D ZCL (ztys y) t ∧ va_D (va_A [(h0, .inr (8, [.null, .long 0, .null, .null]))] sz) [(h0, .inr (8, [.ref r1, .long v2, va_rf o4, va_rf o5]))]) (va_A [(h0, .inr (8, [.null, .long 0, .null, .null]))] sz)) 0 0 (va_A [(h0, .inr (8, [.null, .long 0, .null, .null]))] sz) := by
  cases o4 with
  | none =>
    cases o5 with
    | none => exact i_No_newD0 h0 sz r1 0 0 v2
    | some r5 => exact i_No_newD h0 sz r1 0 r5 v2
  | some r4 =>
    cases o5 with
    | none => exact i_No_newF0 h0 sz r1 r4 0 v2
    | some r5 => exact i_No_newF h0 sz r1 r4 r5 v2
theorem z_startMq {uo : ZC} {a : Option Nat} {g : JFrame} (h : ∀ (Q : State → Prop) (R9 : Room) (L0 : List (Nat × Nat)) (ad0 : Nat × Nat → Nat) (cs ss : Nat), Q = MQ below (va_Qq (fun v (ad2 : Nat × Nat → Nat) => v = (a.map fun n => ad2 (3, n)) ∧ ∀ j, j ∈ zidL q L0 → ad2 j = ad0 j) (fun ad2 t => ZP D B y ad2 q uo r t) (fun x => B ≤ x)) args s ((cL uo).length - L0.length) (160 * ((cL uo).length - L0.length)) (fun x => B ≤ x) → R9 = R → L0 = cL u → zmk q R9 L0 ad0 (cL u) ad cs ss → W p l e R9 s m args below meth c H locs cs ss Q g) : W p l e R s m args below meth c H locs 0 0 (MQ below (va_Qq (fun v (ad2 : Nat × Nat → Nat) => v = (a.map fun n => ad2 (3, n)) ∧ ∀ j, j ∈ zid q u → ad2 j = ad j) (fun ad2 t => ZP D B y ad2 q uo r t) (fun x => B ≤ x)) args s ((cL uo).length - (cL u).length) (160 * ((cL uo).length - (cL u).length)) (fun x => B ≤ x)) g := h _ _ (cL u) ad 0 0 rfl rfl rfl zmk_0
theorem z_retqM (hx : p.tables.exec = Jvm.exec) (hb : c.code = cc) {a : Option Nat} {C : String} (hr : meth.sig.returnType = some (.object C)) (hlocks : meth.locks = false) (hB : B ≤ s.heap.size) (hK : va_K D ZCL (ztys y) s) (hW : ZW D B y ad q u r H) (hS : va_S (fun x => B ≤ x) s.heap H locs) (hM : zmk q R L0 ad0 (cL u) ad cs ss) (hd : decode cc pc = .ok (.areturn, 1)) : W p l e R s m args below meth c H locs cs ss (MQ below (va_Qq (fun v (ad2 : Nat × Nat → Nat) => v = (a.map fun n => ad2 (3, n)) ∧ ∀ j, j ∈ zidL q L0 → ad2 j = ad0 j) (fun ad2 t => ZP D B y ad2 q u r t) (fun x => B ≤ x)) args s ((cL u).length - L0.length) (160 * ((cL u).length - L0.length)) (fun x => B ≤ x)) (F0 m pc ls [zrf ad 3 a]) := by
  rw [(zmk_end hM).1, show 160 * cs = ss from hM.2.2.2.1.symm]
  exact W.aret (v := zrf ad 3 a) hx hb hr (Or.inl ⟨_, rfl⟩) (va_rf_or _) (fun t ht hw => ⟨⟨a.map fun n => ad (3, n), ad, rfl, ⟨rfl, hM.2.1⟩, ⟨by rw [ht]; exact Nat.le_trans hB hS.1, by rw [ht]; exact hW, va_K.moved hw.alike hK⟩⟩, hS.F ht⟩) hS.2.2 hd (hlocks := hlocks)
/-- new Node(vacantIn, vacantName, content, newest) -/
theorem mk_node {ct : Option Nat} {pn : Nat} (M : ZM p c b_cTree_make s args m "TreeShell$Tree" D y) (hml : c.maxLocals = 3) (hB : B ≤ s.heap.size) (hl : lv_has ls 3 [(0, .ref (ad (0, 3))), (2, zrf ad 1 ct)]) (hpn : cP u 3 0 = some pn) (hW : ZW D B y ad q u r H) (hS : va_S (fun x => B ≤ x) s.heap H locs) (hfr : 2 ≤ R.frames) (hlo : 37 ≤ R.locals) (hc : cells + 1 ≤ R.cells) (hs : slots + 4 ≤ R.slots) (kk : ∀ (a3 : Nat) (H1 : Heap) (locs1 : List Loc), va_P D ZCL (zws q ad y u r ++ [(a3, .inr (8, [.ref (ad (3, pn)), .long (cJ u 1 0), zrf ad 1 ct, zrf ad 3 (cP u 0 0)]))]) H1 → va_D (fun x => B ≤ x) (zws q ad y u r ++ [(a3, .inr (8, [.ref (ad (3, pn)), .long (cJ u 1 0), zrf ad 1 ct, zrf ad 3 (cP u 0 0)]))]) → va_S (fun x => B ≤ x) s.heap H1 locs1 → W p l e R s m args below meth c H1 locs1 (cells + 1) (slots + 4) Q (F0 m 61 ls [.ref a3, .ref (ad (0, 3))])) : W p l e R s m args below meth c H locs cells slots Q (F0 m 40 ls []) := by
  have hx := M.1
  have hb := M.2.1
  have hts := M.2.2.1
  have hown := M.2.2.2.1
  have hK := M.2.2.2.2
  have hA : ∀ x : Nat, s.heap.size ≤ x → B ≤ x := fun x h => Nat.le_trans hB h
  refine lv_aload_n hx hb d_cTree_make_40 rfl (lv_at hl 0 rfl) ?_
  refine va_new (ci := 8) (fs := [.null, .long 0, .null, .null]) (C := "TreeShell$Node") (T := F_No) (N := 4) hx hb hts i_No t_No t_No_ok hown (hts _ w_177) (hts _ w_178) (hts _ w_74) hK hW.1 hW.2 hS hA rfl (fun j hj => by rcases (show j = 0 ∨ j = 1 ∨ j = 2 ∨ j = 3 by omega) with rfl | rfl | rfl | rfl <;> rfl) hc hs d_cTree_make_41 (fun a3 H hP hD hS => ?_)
  have hW : ZW D B y ad q u r H := ⟨zx_Ppre hP, zx_Dpre hD⟩
  refine lv_dup hx hb d_cTree_make_44 rfl ?_
  refine lv_aload_n hx hb d_cTree_make_45 rfl (lv_at hl 0 rfl) ?_
  refine zg_Tr_vacantIn M hW (hts _ w_221) d_cTree_make_46 ?_
  rw [hpn]
  refine lv_aload_n hx hb d_cTree_make_49 rfl (lv_at hl 0 rfl) ?_
  refine zg_Tr_vacantName M hW (hts _ w_224) d_cTree_make_50 ?_
  refine z_aload_nR (w := ct.map fun n => ad (1, n)) hx hb d_cTree_make_53 rfl (lv_at hl 1 rfl) ?_
  refine lv_aload_n hx hb d_cTree_make_54 rfl (lv_at hl 0 rfl) ?_
  refine zg_Tr_newest M hW (hts _ w_209) d_cTree_make_55 ?_
  have hPc := zx_Psuf hP
  have hDc := zx_Dsuf hD
  have hFc := zx_Fsuf hD hS hA
  refine va_callv (va_runI (As := [.ref (ad (3, pn)), .long (cJ u 1 0), va_rf (ct.map fun n => ad (1, n)), va_rf ((cP u 0 0).map fun n => ad (3, n))]) (rest := [.ref a3, .ref (ad (0, 3))]) ⟨hx, hb, hml, hown, hts⟩ (i_No_newG a3 H.size (ad (3, pn)) (cJ u 1 0) (ct.map fun n => ad (1, n)) ((cP u 0 0).map fun n => ad (3, n))) (cwi_i_No_newD hts (hts _ w_179) hfr hlo) ⟨z_ib, fun U hU hW => ⟨rfl, by rw [hU], by rw [hU]; exact hPc, va_K.moved hW.alike hK, hDc.weaken (fun _ _ _ _ => trivial)⟩⟩ rfl rfl hl.1 rfl (lv_room (Nat.le_of_ble_eq_true rfl)) d_cTree_make_58 ⟨hc, hs⟩) hS (fun x _ h => hFc x h) hFc (fun x10 t H1 locs1 ht hvm h9 hB9 hz1 hk1 hS => ?_)
  obtain ⟨hP1, hK1, hD1⟩ := hB9
  rw [ht] at hP1
  obtain ⟨hP, hD⟩ := zx_joinE hP hD hk1 hFc hP1 hD1
  exact kk a3 H1 locs1 hP hD hS
/-- new Text(mostChars) -/
theorem mk_text (M : ZM p c b_cTree_make s args m "TreeShell$Tree" D y) (hml : c.maxLocals = 3) (hB : B ≤ s.heap.size) (hl : lv_has ls 3 [(0, .ref (ad (0, 3)))]) (hmc : 0 ≤ cI u 5 0 ∧ cI u 5 0 ≤ 160) (hW : ZW D B y ad q u r H) (hS : va_S (fun x => B ≤ x) s.heap H locs) (hfr : 2 ≤ R.frames) (hlo : 37 ≤ R.locals) (hc : cells + 2 ≤ R.cells) (hs : slots + 163 ≤ R.slots) (kk : ∀ (a1 a2 : Nat) (H1 : Heap) (locs1 : List Loc), va_P D ZCL (zws q ad y u r ++ [(a1, .inr (7, [.ref a2, .int (zI 0), .int (zI 0)])), (a2, .inl (y 1, (cI u 5 0).toNat, .inl (fun _ => zI 0)))]) H1 → va_D (fun x => B ≤ x) (zws q ad y u r ++ [(a1, .inr (7, [.ref a2, .int (zI 0), .int (zI 0)])), (a2, .inl (y 1, (cI u 5 0).toNat, .inl (fun _ => zI 0)))]) → va_S (fun x => B ≤ x) s.heap H1 locs1 → W p l e R s m args below meth c H1 locs1 (cells + 2) (slots + 163) Q (F0 m 39 ls [.ref a1])) : W p l e R s m args below meth c H locs cells slots Q (F0 m 24 ls []) := by
  have hx := M.1
  have hb := M.2.1
  have hts := M.2.2.1
  have hown := M.2.2.2.1
  have hK := M.2.2.2.2
  have hA : ∀ x : Nat, s.heap.size ≤ x → B ≤ x := fun x h => Nat.le_trans hB h
  refine va_new (ci := 7) (fs := [.null, .int (zI 0), .int (zI 0)]) (C := "TreeShell$Text") (T := F_Tx) (N := 3) hx hb hts i_Tx t_Tx t_Tx_ok hown (hts _ w_547) (hts _ w_94) (hts _ w_69) hK hW.1 hW.2 hS hA rfl (fun j hj => by rcases (show j = 0 ∨ j = 1 ∨ j = 2 by omega) with rfl | rfl | rfl <;> rfl) (by omega) (by omega) d_cTree_make_24 (fun a1 H hP hD hS => ?_)
  have hW : ZW D B y ad q u r H := ⟨zx_Ppre hP, zx_Dpre hD⟩
  refine lv_dup hx hb d_cTree_make_27 rfl ?_
  refine lv_aload_n hx hb d_cTree_make_28 rfl (lv_at hl 0 rfl) ?_
  refine zg_Tr_mostChars M hW (hts _ w_205) d_cTree_make_29 ?_
  have hPc := zx_Psuf hP
  have hDc := zx_Dsuf hD
  have hFc := zx_Fsuf hD hS hA
  refine va_callv (va_runI (As := [.int (zI (cI u 5 0))]) (rest := [.ref a1]) ⟨hx, hb, hml, hown, hts⟩ (i_Tx_new a1 H.size (cI u 5 0) hmc) (cwi_i_Tx_new hts (hts _ w_548) hfr (by omega)) ⟨z_ib, fun U hU hW => ⟨rfl, by rw [hU], by rw [hU]; exact hPc, va_K.moved hW.alike hK, hDc.weaken (fun _ _ _ _ => trivial)⟩⟩ rfl rfl hl.1 rfl (lv_room (Nat.le_of_ble_eq_true rfl)) d_cTree_make_32 ⟨hc, by omega⟩) hS (fun x _ h => hFc x h) hFc (fun x10 t H1 locs1 ht hvm h9 hB9 hz1 hk1 hS => ?_)
  obtain ⟨hP1, hK1, hD1⟩ := hB9
  rw [ht] at hP1
  obtain ⟨hP, hD⟩ := zx_joinE hP hD hk1 hFc hP1 hD1
  refine W.widen (k := cells + 2) (n := slots + 163) (by omega) (by omega) ?_
  refine lv_goto hx hb d_cTree_make_35 rfl ?_
  exact kk a1 (x10 0) H1 locs1 hP hD hS
/-- from the new node on -/
theorem mk_end {n : Nat} {k : Int} (M : ZM p c b_cTree_make s args m "TreeShell$Tree" D y) (hr : meth.sig.returnType = some (.object "TreeShell$Node")) (hlocks : meth.locks = false) (hB : B ≤ s.heap.size) (hl : lv_has ls 3 [(0, .ref (ad (0, 3)))]) (hk : cI u 6 0 = k) (hW : ZW D B y ad q u r H) (hS : va_S (fun x => B ≤ x) s.heap H locs) (hM : zmk q R L0 ad0 (cL u) ad cs ss) : W p l e R s m args below meth c H locs cs ss (MQ below (va_Qq (fun v (ad2 : Nat × Nat → Nat) => v = ((some n).map fun n => ad2 (3, n)) ∧ ∀ j, j ∈ zidL q L0 → ad2 j = ad0 j) (fun ad2 t => ZP D B y ad2 q (sI (sP u 0 0 (some n)) 6 0 (k + 1)) r t) (fun x => B ≤ x)) args s ((cL u).length - L0.length) (160 * ((cL u).length - L0.length)) (fun x => B ≤ x)) (F0 m 61 ls [.ref (ad (3, n)), .ref (ad (0, 3))]) := by
  have hx := M.1
  have hb := M.2.1
  refine zp_Tr_newest (v := some n) M hW hS (M.2.2.1 _ w_209) d_cTree_make_61 (fun H locs hW hS => ?_)
  refine lv_aload_n hx hb d_cTree_make_64 rfl (lv_at hl 0 rfl) ?_
  refine lv_dup hx hb d_cTree_make_65 rfl ?_
  refine zg_Tr_count M hW (M.2.2.1 _ w_214) d_cTree_make_66 ?_
  rw [show cI (sP u 0 0 (some n)) 6 0 = k from hk]
  refine z_iconst hx hb d_cTree_make_69 ?_
  refine z_iadd hx hb d_cTree_make_70 ?_
  refine zp_Tr_count M hW hS (M.2.2.1 _ w_214) d_cTree_make_71 (fun H locs hW hS => ?_)
  refine lv_aload_n hx hb d_cTree_make_74 rfl (lv_at hl 0 rfl) ?_
  refine zg_Tr_newest M hW (M.2.2.1 _ w_209) d_cTree_make_75 ?_
  exact z_retqM (a := some n) hx hb hr hlocks hB M.2.2.2.2 hW hS hM d_cTree_make_78
end
set_option maxRecDepth 100000 in
set_option maxHeartbeats 4000000 in
theorem k_cTree_make {l : Launch} {D : va_G} {B : Nat} {y : Nat → ClassId} {ad : Nat × Nat → Nat} {q : Bool} {r : ZR} {sa sv : Nat → Nat} (F : Nat) (u : ZC) (v1 : Int) {res : Option Nat} {uo : ZC} (hf : cTree_make F u v1 = some (res, uo)) : Met l y_cTree_make (.code y_cTree_make b_cTree_make 3 (some (.object "TreeShell$Node")) :: zt) { frames := 6, cells := (cL uo).length - (cL u).length, slots := 160 * ((cL uo).length - (cL u).length), locals := 170 } (va_Pc [.ref (ad (0, 3)), .int (zI v1)] (fun U => ZP D B y ad q u r U ∧ zX B sa sv U)) (va_Qq (fun v (ad2 : Nat × Nat → Nat) => v = (res.map fun n => ad2 (3, n)) ∧ ∀ j, j ∈ zid q u → ad2 j = ad j) (fun ad2 t => ZP D B y ad2 q uo r t) (fun x => B ≤ x)) ((cL uo).length - (cL u).length) (160 * ((cL uo).length - (cL u).length)) (fun x => B ≤ x) := by
  refine Met.ofW (cc := b_cTree_make) (maxL := 3) (ret := (some (.object "TreeShell$Node"))) (by decide) rfl ?_
  intro p e s m args below meth c s₁ Bd hml hv
  obtain ⟨hargs, ⟨hB, hW, hK⟩, -⟩ := hv
  have hx := Bd.exec
  have hb := Bd.bytes
  have hr := Bd.returns
  have hts0 := atoms_spec (ws := .code y_cTree_make b_cTree_make 3 (some (.object "TreeShell$Node")) :: zt) Bd.pre
  have hown : s.vm.findClass "TreeShell$Tree" = some m.cls := findClass_of_methodNamed Bd.named
  have hlocks := Bd.notSynchronized
  have M : ZM p c b_cTree_make s args m "TreeShell$Tree" D y := ⟨hx, hb, fun w h => hts0 w (List.mem_cons_of_mem _ h), hown, hK⟩
  have hS : va_S (fun x => B ≤ x) s.heap s.heap [] := va_S.rf
  have hE := lg_entry_eq m ([.ref (ad (0, 3)), .int (zI v1)] : List Value) 3
  rw [← hargs] at hE
  rw [hE]
  have hl := lv_entry ([.ref (ad (0, 3)), .int (zI v1)] : List Value) (n := 3) (Nat.le_of_ble_eq_true rfl)
  generalize (lg_sl ([.ref (ad (0, 3)), .int (zI v1)] : List Value) ++ List.replicate (3 - (lg_sl ([.ref (ad (0, 3)), .int (zI v1)] : List Value)).length) Slot.unset).toArray = ls at hl ⊢
  have hl : lv_has ls 3 [(0, .ref (ad (0, 3))), (1, .int (zI v1))] := hl
  refine z_startMq (fun Q R L0 ad0 cs ss hQ hR hL0 hM => ?_)
  have hRc : R.cells = (cL uo).length - L0.length ∧ R.slots = 160 * ((cL uo).length - L0.length) := by rw [hR, hL0]; exact ⟨rfl, rfl⟩
  have hfr : 2 ≤ R.frames := by rw [hR]; exact Nat.le_of_ble_eq_true rfl
  have hlo : 37 ≤ R.locals := by rw [hR]; exact Nat.le_of_ble_eq_true rfl
  generalize hH : s.heap = H at hW
  have hS : va_S (fun x => B ≤ x) s.heap H [] := by rw [← hH]; exact hS
  rw [cTree_make] at hf
  refine lv_aload_n hx hb d_cTree_make_0 rfl (lv_at hl 0 rfl) ?_
  refine zg_Tr_vacantIn M hW (M.2.2.1 _ w_221) d_cTree_make_1 ?_
  refine z_ifnull hx hb d_cTree_make_4 rfl hf (fun hf hn => ?_) (fun pn hpn hf => ?_)
  · refine lv_null hx hb d_cTree_make_18 ?_
    cases hf
    subst hQ
    exact z_retqM (a := none) hx hb hr hlocks hB hK hW hS hM d_cTree_make_19
  refine lv_aload_n hx hb d_cTree_make_7 rfl (lv_at hl 0 rfl) ?_
  refine zg_Tr_count M hW (M.2.2.1 _ w_214) d_cTree_make_8 ?_
  refine lv_aload_n hx hb d_cTree_make_11 rfl (lv_at hl 0 rfl) ?_
  refine zg_Tr_mostNodes M hW (M.2.2.1 _ w_204) d_cTree_make_12 ?_
  refine lv_icmp_lt hx hb d_cTree_make_15 rfl (fun hg => ?_) (fun hg => ?_)
  · have hf := zn (Int32.not_le.mpr hg) hf
    obtain ⟨⟨hc, hmc, hp, hnw, ⟨hfr0, hfr1, hfr2⟩, h3, h1, h2, h4⟩, hf⟩ := zg hf
    have ht24 : (cI u 6 0).toNat + 1 + 23 = (cI u 6 0).toNat + 24 := by omega
    rw [ht24] at hfr1 hfr2
    have hpn1 : pn ≠ (cI u 6 0).toNat + 1 := fun h => hfr0 3 (by decide) (by rw [hpn, h])
    have hL0l : cs + L0.length = (cL u).length := hM.2.2.1
    refine lv_iload_n hx hb d_cTree_make_20 rfl (lv_at hl 1 rfl) ?_
    refine z_if_eq hx hb d_cTree_make_21 rfl hf (fun hf => ?_) (fun hf => ?_)
    · cases hf
      refine lv_null hx hb d_cTree_make_38 ?_
      refine lv_astore_nN (lv' := [(2, .null), (0, .ref (ad (0, 3))), (1, .int (zI v1))]) hx hb d_cTree_make_39 rfl hl (by decide) rfl (fun ls hl => ?_)
      have hlen : (cL (sI (sP (sNN u ((cI u 6 0).toNat + 1) (some pn) (cJ u 1 0) none (cP u 0 0)) 0 0 (some ((cI u 6 0).toNat + 1))) 6 0 (cI u 6 0 + 1))).length = (cL u).length + 1 := List.length_append
      rw [hlen] at hRc
      obtain ⟨hz0, ha0, -, hs0, hcr, hsr⟩ := hM
      refine mk_node (ct := none) M hml hB (lv_sub hl [1, 0] rfl) hpn hW hS hfr hlo (by omega) (by omega) (fun a3 H locs hP hD hS => ?_)
      have hW := zw_node (n := (cI u 6 0).toNat + 1) (by omega) h3 h4 hfr0 (fun i hi _ => ⟨(hfr2 i hi).1, (hfr2 i hi).2.2⟩) hpn1 (hfr0 0 (by decide)) hP hD
      have e3 : adN ad ((cI u 6 0).toNat + 1) a3 (3, (cI u 6 0).toNat + 1) = a3 := if_pos rfl
      have e0 : adN ad ((cI u 6 0).toNat + 1) a3 (0, 3) = ad (0, 3) := adN_n (zpn (Or.inl (by decide)))
      have hag : ∀ j, j ∈ zid q u → adN ad ((cI u 6 0).toNat + 1) a3 j = ad j := fun j hj => adN_n (fun e => by
        rw [e] at hj
        rcases zid_c hj with h | h | h
        · have := (zids_f _ h).1 rfl
          omega
        · exact h3 h
        · omega)
      refine W.widen (k := cs + 1) (n := 160 * (cs + 1)) (by omega) (by omega) ?_
      have hl : lv_has ls 3 [(0, .ref (adN ad ((cI u 6 0).toNat + 1) a3 (0, 3)))] := by
        rw [e0]
        exact lv_sub hl [1] rfl
      have hM : zmk q R L0 ad0 (cL (sNN u ((cI u 6 0).toNat + 1) (some pn) (cJ u 1 0) none (cP u 0 0))) (adN ad ((cI u 6 0).toNat + 1) a3) (cs + 1) (160 * (cs + 1)) := by
        obtain ⟨l9, hl9⟩ := hz0
        refine ⟨⟨l9 ++ [(3, (cI u 6 0).toNat + 1)], ?_⟩, fun j hj => (hag j (zidL_sub hl9 hj)).trans (ha0 j hj), ?_, rfl, by omega, by omega⟩
        · show cL u ++ [(3, (cI u 6 0).toNat + 1)] = _
          rw [hl9, List.append_assoc]
        · show cs + 1 + L0.length = (cL u ++ [(3, (cI u 6 0).toNat + 1)]).length
          rw [List.length_append]
          show cs + 1 + L0.length = (cL u).length + 1
          omega
      subst hQ
      have G := mk_end (p := p) (l := l) (e := e) (s := s) (m := m) (args := args) (below := below) (meth := meth) (c := c) (ls := ls) (u := sNN u ((cI u 6 0).toNat + 1) (some pn) (cJ u 1 0) none (cP u 0 0)) (n := (cI u 6 0).toNat + 1) (k := cI u 6 0) M hr hlocks hB hl rfl hW hS hM
      rw [e3, e0] at G
      exact G
    · cases hf
      have hlen : (cL (sI (sP (sNN (sNT u ((cI u 6 0).toNat + 24) (cI u 5 0).toNat) ((cI u 6 0).toNat + 1) (some pn) (cJ u 1 0) (some ((cI u 6 0).toNat + 24)) (cP u 0 0)) 0 0 (some ((cI u 6 0).toNat + 1))) 6 0 (cI u 6 0 + 1))).length = (cL u).length + 3 := by
        show ((cL u ++ [(1, (cI u 6 0).toNat + 24), (2, (cI u 6 0).toNat + 24)]) ++ [(3, (cI u 6 0).toNat + 1)]).length = _
        rw [List.length_append, List.length_append]
        rfl
      rw [hlen] at hRc
      obtain ⟨hz0, ha0, -, hs0, hcr, hsr⟩ := hM
      refine mk_text M hml hB (lv_sub hl [0] rfl) hmc hW hS hfr hlo (by omega) (by omega) (fun a1 a2 H locs hP hD hS => ?_)
      have hW := zw_text (t := (cI u 6 0).toNat + 24) (by omega) h1 h2 h4 hfr1 (fun i hi => (hfr2 i hi).2.1) hP hD
      have hagT : ∀ j, j ∈ zid q u → adT ad ((cI u 6 0).toNat + 24) a1 a2 j = ad j := fun j hj => adT_n (fun e => by
        rw [e] at hj
        rcases zid_c hj with h | h | h
        · have := (zids_f _ h).2.1 (Or.inl rfl)
          omega
        · exact h1 h
        · omega) (fun e => by
        rw [e] at hj
        rcases zid_c hj with h | h | h
        · have := (zids_f _ h).2.1 (Or.inr rfl)
          omega
        · exact h2 h
        · omega)
      have e0 : adT ad ((cI u 6 0).toNat + 24) a1 a2 (0, 3) = ad (0, 3) := adT_n (zpn (Or.inl (by decide))) (zpn (Or.inl (by decide)))
      have e1 : adT ad ((cI u 6 0).toNat + 24) a1 a2 (1, (cI u 6 0).toNat + 24) = a1 := if_pos rfl
      generalize hadt : adT ad ((cI u 6 0).toNat + 24) a1 a2 = adt at hW hagT e0 e1
      rw [← e1]
      refine lv_astore_n (lv' := [(2, .ref (adt (1, (cI u 6 0).toNat + 24))), (0, .ref (ad (0, 3))), (1, .int (zI v1))]) hx hb d_cTree_make_39 rfl hl (by decide) rfl (fun ls hl => ?_)
      have hl : lv_has ls 3 [(2, .ref (adt (1, (cI u 6 0).toNat + 24))), (0, .ref (adt (0, 3)))] := by
        rw [e0]
        exact lv_sub hl [0, 1] rfl
      rw [show (F0 m (39 + 1) ls ([] : List Value)) = F0 m 40 ls [] from rfl]
      refine mk_node (u := sNT u ((cI u 6 0).toNat + 24) (cI u 5 0).toNat) (ad := adt) (ct := some ((cI u 6 0).toNat + 24)) M hml hB (lv_sub hl [1, 0] rfl) hpn hW hS hfr hlo (by omega) (by omega) (fun a3 H locs hP hD hS => ?_)
      have h3' : (3, (cI u 6 0).toNat + 1) ∉ cL (sNT u ((cI u 6 0).toNat + 24) (cI u 5 0).toNat) := fun h => by
        rcases List.mem_append.mp h with h | h
        · exact h3 h
        · rcases List.mem_cons.mp h with h | h
          · cases h
          · rcases List.mem_cons.mp h with h | h
            · cases h
            · cases h
      have h4' : ∀ i ∈ cL (sNT u ((cI u 6 0).toNat + 24) (cI u 5 0).toNat), i.1 ≠ 4 := fun i h => by
        rcases List.mem_append.mp h with h | h
        · exact h4 i h
        · rcases List.mem_cons.mp h with h | h
          · rw [h]; exact (by decide : (1 : Nat) ≠ 4)
          · rcases List.mem_cons.mp h with h | h
            · rw [h]; exact (by decide : (2 : Nat) ≠ 4)
            · cases h
      have hfr2' : ∀ i ∈ (3, 0) :: cL (sNT u ((cI u 6 0).toNat + 24) (cI u 5 0).toNat), i.1 = 3 → cP u 5 i.2 ≠ some ((cI u 6 0).toNat + 1) ∧ cP u 7 i.2 ≠ some ((cI u 6 0).toNat + 1) := fun i h hi => by
        rcases List.mem_cons.mp h with h | h
        · exact ⟨(hfr2 i (by rw [h]; exact List.mem_cons_self)).1, (hfr2 i (by rw [h]; exact List.mem_cons_self)).2.2⟩
        · rcases List.mem_append.mp h with h | h
          · exact ⟨(hfr2 i (List.mem_cons_of_mem _ h)).1, (hfr2 i (List.mem_cons_of_mem _ h)).2.2⟩
          · rcases List.mem_cons.mp h with h | h
            · rw [h] at hi; cases hi
            · rcases List.mem_cons.mp h with h | h
              · rw [h] at hi; cases hi
              · cases h
      have hW := zw_node (n := (cI u 6 0).toNat + 1) (by omega) h3' h4' hfr0 hfr2' hpn1 (hfr0 0 (by decide)) hP hD
      have e3 : adN adt ((cI u 6 0).toNat + 1) a3 (3, (cI u 6 0).toNat + 1) = a3 := if_pos rfl
      have e03 : adN adt ((cI u 6 0).toNat + 1) a3 (0, 3) = adt (0, 3) := adN_n (zpn (Or.inl (by decide)))
      have hag : ∀ j, j ∈ zid q u → adN adt ((cI u 6 0).toNat + 1) a3 j = ad j := fun j hj => (adN_n (fun e => by
        rw [e] at hj
        rcases zid_c hj with h | h | h
        · have := (zids_f _ h).1 rfl
          omega
        · exact h3 h
        · omega)).trans (hagT j hj)
      refine W.widen (k := cs + 3) (n := 160 * (cs + 3)) (by omega) (by omega) ?_
      have hl : lv_has ls 3 [(0, .ref (adN adt ((cI u 6 0).toNat + 1) a3 (0, 3)))] := by
        rw [e03]
        exact lv_sub hl [1] rfl
      have hM : zmk q R L0 ad0 (cL (sNN (sNT u ((cI u 6 0).toNat + 24) (cI u 5 0).toNat) ((cI u 6 0).toNat + 1) (some pn) (cJ u 1 0) (some ((cI u 6 0).toNat + 24)) (cP u 0 0))) (adN adt ((cI u 6 0).toNat + 1) a3) (cs + 3) (160 * (cs + 3)) := by
        obtain ⟨l9, hl9⟩ := hz0
        refine ⟨⟨l9 ++ ([(1, (cI u 6 0).toNat + 24), (2, (cI u 6 0).toNat + 24)] ++ [(3, (cI u 6 0).toNat + 1)]), ?_⟩, fun j hj => (hag j (zidL_sub hl9 hj)).trans (ha0 j hj), ?_, rfl, by omega, by omega⟩
        · show (cL u ++ [(1, (cI u 6 0).toNat + 24), (2, (cI u 6 0).toNat + 24)]) ++ [(3, (cI u 6 0).toNat + 1)] = _
          rw [hl9, List.append_assoc, List.append_assoc]
        · show cs + 3 + L0.length = ((cL u ++ [(1, (cI u 6 0).toNat + 24), (2, (cI u 6 0).toNat + 24)]) ++ [(3, (cI u 6 0).toNat + 1)]).length
          rw [List.length_append, List.length_append]
          show cs + 3 + L0.length = (cL u).length + 2 + 1
          omega
      subst hQ
      have G := mk_end (p := p) (l := l) (e := e) (s := s) (m := m) (args := args) (below := below) (meth := meth) (c := c) (ls := ls) (u := sNN (sNT u ((cI u 6 0).toNat + 24) (cI u 5 0).toNat) ((cI u 6 0).toNat + 1) (some pn) (cJ u 1 0) (some ((cI u 6 0).toNat + 24)) (cP u 0 0)) (n := (cI u 6 0).toNat + 1) (k := cI u 6 0) M hr hlocks hB hl (show cI (sNT u ((cI u 6 0).toNat + 24) (cI u 5 0).toNat) 6 0 = cI u 6 0 from nt_I 6 0 (Or.inl (by decide))) hW hS hM
      rw [e3, e03] at G
      exact G
  · have hf := zp (Int32.not_lt.mp hg) hf
    refine lv_null hx hb d_cTree_make_18 ?_
    cases hf
    subst hQ
    exact z_retqM (a := none) hx hb hr hlocks hB hK hW hS hM d_cTree_make_19
