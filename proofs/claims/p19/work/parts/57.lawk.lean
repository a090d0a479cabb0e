/-! what holds at the law's entry -/
section LK
variable {args : Array Value} {s : State}
theorem arr_of {ty : FieldType} {c comp : ClassId} {k : Class} (h1 : s.vm.classes[c]? = some k) (h2 : k.kind = .array comp ty) : ArrOfT s c ty := fun n z => ⟨(fun q h => by cases h), k, h1, comp, h2⟩
theorem arr_p {ty : FieldType} (hp : refKind ty = false) (h : (Cond.arrayClass ty).before args s = true) : ∃ c, ArrOfT s c ty ∧ s.vm.findClass ("[" ++ ty.toString) = some c := by
  obtain ⟨c, k, comp, h1, h2, h3⟩ := Cond.arrayClass_spec h
  exact ⟨c, arr_of h2 h3, h1⟩
theorem arr_a {ty : FieldType} (h : (Cond.arrayOver (.array ty)).before args s = true) : ∃ c, ArrOfT s c (.array ty) ∧ s.vm.findClass ("[" ++ (FieldType.array ty).toString) = some c := by
  obtain ⟨comp, c, k, h1, h2, h3, h4, h5⟩ := arrayOverA_spec h
  exact ⟨c, arr_of h3 h4, h5⟩
set_option maxRecDepth 4000 in
theorem law_K (hts : ∀ w ∈ lw_tbl, w.before args s = true) : ∃ (D : va_G) (kI kJ kZ kG kH : ClassId), va_K D rcl (TY kI kJ kZ kG kH) s ∧ nst s := by
  have hg : ∀ w ∈ gw, w.before args s = true := fun w hw => hts w (List.mem_filter.mp hw).1
  have ht : ∀ w ∈ tables_1, w.before args s = true := fun w hw => hts w (List.mem_append_right _ hw)
  obtain ⟨c0, i0, h0⟩ := u_known (C := NW) (T := TW) (N := 10) hg uwW (hg _ hw25)
  obtain ⟨c1, i1, h1⟩ := u_known (C := NF) (T := TF) (N := 3) hg uwF (hg _ hw90)
  obtain ⟨c2, i2, h2⟩ := u_known (C := NT) (T := TT) (N := 6) hg uwT (hg _ hw107)
  obtain ⟨c3, i3, h3⟩ := u_known (C := NX) (T := TX) (N := 6) hg uwX (hg _ hw84)
  obtain ⟨c4, i4, h4⟩ := u_known (C := NR) (T := TR) (N := 14) hg uwR (hg _ hw157)
  obtain ⟨c5, i5, h5⟩ := u_known (C := NC) (T := TC) (N := 6) hg uwC (hg _ hw17)
  obtain ⟨c6, i6, h6⟩ := u_known (C := NJS) (T := TJS) (N := 6) hg uwJS (hg _ hw551)
  obtain ⟨c7, i7, h7⟩ := u_known (C := NJT) (T := TJT) (N := 5) hg uwJT (hg _ hw587)
  obtain ⟨c8, i8, h8⟩ := u_known (C := NM) (T := TM) (N := 30) hg uwM (hg _ hw625)
  obtain ⟨kI, aI, fI⟩ := arr_p (ty := .int) rfl (hg _ hw82)
  obtain ⟨kJ, aJ, fJ⟩ := arr_p (ty := .long) rfl (hg _ hw81)
  obtain ⟨kZ, aZ, fZ⟩ := arr_p (ty := .boolean) rfl (hg _ hw105)
  have o1 := ht _ (List.mem_of_getElem? (i := 31) (a := Cond.arrayOver (.array .int)) (by decide +kernel))
  have o2 := ht _ (List.mem_of_getElem? (i := 33) (a := Cond.arrayOver (.array .long)) (by decide +kernel))
  obtain ⟨kG, aG, fG⟩ := arr_a o1
  obtain ⟨kH, aH, fH⟩ := arr_a o2
  refine ⟨(fun k => [c0, c1, c2, c3, c4, c5, c6, c7, c8].getD k 0, fun k => [i0, i1, i2, i3, i4, i5, i6, i7, i8].getD k i0), kI, kJ, kZ, kG, kH, ⟨fun k q hq => ?_, fun k q hq => ?_⟩, fun w hw => ?_, ?_, ?_⟩
  · match k, hq with
    | 0, hq => cases hq; exact h0
    | 1, hq => cases hq; exact h1
    | 2, hq => cases hq; exact h2
    | 3, hq => cases hq; exact h3
    | 4, hq => cases hq; exact h4
    | 5, hq => cases hq; exact h5
    | 6, hq => cases hq; exact h6
    | 7, hq => cases hq; exact h7
    | 8, hq => cases hq; exact h8
    | k + 9, hq => simp [rcl] at hq
  · match k, hq with
    | 0, hq => cases hq; exact ⟨aI, fI⟩
    | 1, hq => cases hq; exact ⟨aJ, fJ⟩
    | 2, hq => cases hq; exact ⟨aZ, fZ⟩
    | 3, hq => cases hq; exact ⟨aG, fG⟩
    | 4, hq => cases hq; exact ⟨aH, fH⟩
    | k + 5, hq => simp at hq
  · have h9 := List.mem_filter.mp hw
    have h8 := ht w h9.1
    have h7 := h9.2
    cases w <;> first | (cases h7; done) | exact va_Nw.of rfl h8
  · exact o1
  · exact o2
/-- the words of the throw stand in the tables -/
theorem law_OA (hts : ∀ w ∈ lw_tbl, w.before args s = true) (hgv : (Jvm.Cond.and given_1 narrow_1).before args s = true) : OA s := by
  have ht : ∀ w ∈ tables_1, w.before args s = true := fun w hw => hts w (List.mem_append_right _ hw)
  have hf := flat_of_before _ hgv
  have k : ∀ c ∈ OAl, c ∈ tables_1 ∨ c ∈ flatC (Jvm.Cond.and given_1 narrow_1) := by decide +kernel
  exact fun c hc => oa_heap (u := s) rfl (fun _ _ h _ => h) hc ((k c hc).elim (ht c) (hf c))
theorem law_Z (hts : ∀ w ∈ lw_tbl, w.before args s = true) : ∃ sq : Nat, vk_R "RoundColumns" 107 "more labels than steps" sq s := by
  have ht : ∀ w ∈ tables_1, w.before args s = true := fun w hw => hts w (List.mem_append_right _ hw)
  have h1 : (Cond.stringRef "RoundColumns" 107 "more labels than steps").before args s = true := ht _ (List.mem_of_getElem? (i := 589) (by decide +kernel))
  have hc : ∃ c, s.vm.findClass "RoundColumns" = some c := by
    obtain ⟨c, k, h, -⟩ := Cond.instantiable_spec (ht (.instantiable "RoundColumns" 6) (List.mem_of_getElem? (i := 17) (by decide +kernel)))
    exact ⟨c, h⟩
  obtain ⟨c, hc⟩ := hc
  have h2 : (Cond.stringRef "RoundColumns" 107 "more labels than steps").before #[] s = true := h1
  obtain ⟨k, cf, i, a, -, -, -, -, -, h9⟩ := Cond.stringRef_spec (args := #[]) (first := s) (o := none) (idx := []) hc h2
  exact ⟨a, h2, h9⟩
/-- a machine that is started so keeps no traces -/
theorem law_tr {l : Launch} (h : l.flags = flags0) : ∀ e : Env, l.admits e → e.platform.stackTraces = false := fun e he => by
  rw [he.platform]
  show l.stackTraces = false
  unfold Launch.stackTraces
  rw [h]
  decide +kernel
end LK
