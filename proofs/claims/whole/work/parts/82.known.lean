set_option maxRecDepth 100000 in
theorem z_known {s : State} {args : Array Value} (hts : ∀ w ∈ lw_tbl, w.before args s = true) : ∃ (D : va_G) (y : Nat → ClassId), va_K D ZCL (ztys y) s := by
  have h : ∀ w ∈ zt, w.before args s = true := fun w h => hts w (zt_in h)
  obtain ⟨c0, i0, h0⟩ := u_known (C := "TreeShell") (T := F_Sh) (N := 5) (n := 5) h i_Sh (h _ w_86)
  obtain ⟨c1, i1, h1⟩ := u_known (C := "TreeShell$Tokens") (T := F_Tk) (N := 5) (n := 5) h i_Tk (h _ w_122)
  obtain ⟨c2, i2, h2⟩ := u_known (C := "TreeShell$Grammar") (T := F_Gr) (N := 2) (n := 2) h i_Gr (h _ w_150)
  obtain ⟨c3, i3, h3⟩ := u_known (C := "TreeShell$Tree") (T := F_Tr) (N := 10) (n := 10) h i_Tr (h _ w_163)
  obtain ⟨c4, i4, h4⟩ := u_known (C := "TreeShell$Runner") (T := F_Ru) (N := 8) (n := 8) h i_Ru (h _ w_247)
  obtain ⟨c5, i5, h5⟩ := u_known (C := "TreeShell$Words") (T := F_Wo) (N := 3) (n := 3) h i_Wo (h _ w_255)
  obtain ⟨c6, i6, h6⟩ := u_known (C := "TreeShell$Tools") (T := F_To) (N := 2) (n := 2) h i_To (h _ w_278)
  obtain ⟨c7, i7, h7⟩ := u_known (C := "TreeShell$Text") (T := F_Tx) (N := 3) (n := 3) h i_Tx (h _ w_94)
  obtain ⟨c8, i8, h8⟩ := u_known (C := "TreeShell$Node") (T := F_No) (N := 4) (n := 4) h i_No (h _ w_178)
  obtain ⟨c9, i9, h9⟩ := u_known (C := "TreeShell$Level") (T := F_Le) (N := 6) (n := 6) h i_Le (h _ w_290)
  obtain ⟨c10, i10, h10⟩ := u_known (C := "TreeShellModel") (T := F_Mo) (N := 49) (n := 49) h i_Mo (h _ w_727)
  obtain ⟨a0, k0, p0, e0, f0, g0⟩ := Cond.arrayClass_spec (h (.arrayClass .int) w_148)
  obtain ⟨a1, k1, p1, e1, f1, g1⟩ := Cond.arrayClass_spec (h (.arrayClass .char) w_120)
  obtain ⟨a2, k2, p2, e2, f2, g2⟩ := Cond.arrayClass_spec (h (.arrayClass .boolean) w_880)
  obtain ⟨a3, k3, p3, e3, f3, g3⟩ := Cond.arrayClass_spec (h (.arrayClass .long) w_881)
  obtain ⟨p4, a4, k4, e4, -, f4, g4, j4⟩ := Cond.arrayOver_spec (hts (.arrayOver (.object "TreeShell$Level")) (List.mem_of_getElem? (i := 276) (by decide +kernel)))
  refine ⟨(fun c => match c with | 0 => c0 | 1 => c1 | 2 => c2 | 3 => c3 | 4 => c4 | 5 => c5 | 6 => c6 | 7 => c7 | 8 => c8 | 9 => c9 | _ => c10, fun c => match c with | 0 => i0 | 1 => i1 | 2 => i2 | 3 => i3 | 4 => i4 | 5 => i5 | 6 => i6 | 7 => i7 | 8 => i8 | 9 => i9 | _ => i10), fun k => match k with | 0 => a0 | 1 => a1 | 2 => a2 | 3 => a3 | _ => a4, fun c q hq => ?_, fun k q hq => ?_⟩
  · match c, hq with
    | 0, hq => cases hq; exact h0
    | 1, hq => cases hq; exact h1
    | 2, hq => cases hq; exact h2
    | 3, hq => cases hq; exact h3
    | 4, hq => cases hq; exact h4
    | 5, hq => cases hq; exact h5
    | 6, hq => cases hq; exact h6
    | 7, hq => cases hq; exact h7
    | 8, hq => cases hq; exact h8
    | 9, hq => cases hq; exact h9
    | 10, hq => cases hq; exact h10
    | c + 11, hq => cases hq
  · match k, hq with
    | 0, hq => cases hq; exact ⟨fun n z => ⟨fun k h => (by cases h), k0, f0, p0, g0⟩, e0⟩
    | 1, hq => cases hq; exact ⟨fun n z => ⟨fun k h => (by cases h), k1, f1, p1, g1⟩, e1⟩
    | 2, hq => cases hq; exact ⟨fun n z => ⟨fun k h => (by cases h), k2, f2, p2, g2⟩, e2⟩
    | 3, hq => cases hq; exact ⟨fun n z => ⟨fun k h => (by cases h), k3, f3, p3, g3⟩, e3⟩
    | 4, hq => cases hq; exact ⟨fun n z => ⟨fun k h => (by cases h), k4, f4, p4, g4⟩, k4, p4, f4, g4, e4, j4⟩
    | k + 5, hq => cases hq
theorem z_zxc {s : State} {args : Array Value} (hts : ∀ w ∈ lw_tbl, w.before args s = true) : zxc s := ⟨va_AO.of (hts (.arrayOver (.object "TreeShell$Level")) (List.mem_of_getElem? (i := 276) (by decide +kernel))), va_Nw.of rfl (hts (.methodLinkNest "TreeShell$Runner" 22 y_cWords_init "TreeShell") (List.mem_of_getElem? (i := 256) (by decide +kernel)))⟩
