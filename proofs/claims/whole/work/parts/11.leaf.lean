/-! leaves -/
set_option maxHeartbeats 4000000 in
set_option maxRecDepth 100000 in
theorem cC_isWithin (l : Launch) (a : Int64) (b : Int64) : Met l yC_isWithin wC_isWithin (rmL 0 0 0) (va_Pc [.long a, .long b] (fun U => True)) (vp_Si (fun r : Int32 => r = if 0 ≤ a ∧ a ≤ b then 1 else 0)) 0 0 (fun _ => False) := by
  refine Met.ofW (cc := bC_isWithin) (maxL := 4) (ret := (some .boolean)) (by decide) rfl ?_
  intro p e s m args below meth c s₁ B hml hv
  obtain ⟨rfl, hv⟩ := hv
  have hx := B.exec
  have hb := B.bytes
  have hr := B.returns
  have hts := atoms_spec (ws := wC_isWithin) B.pre
  have hown : s.vm.findClass NC = some m.cls := findClass_of_methodNamed B.named
  have hlocks := B.notSynchronized
  have hl := lv_entry ([.long a, .long b]) (n := 4) (Nat.le_of_ble_eq_true rfl)
  rw [lg_entry_eq]
  generalize (lg_sl ([.long a, .long b]) ++ List.replicate (4 - (lg_sl ([.long a, .long b])).length) Slot.unset).toArray = ls at hl ⊢
  have hl : lv_has ls 4 [(0, .long a), (2, .long b)] := hl
  refine lv_lload_n hx hb dC_isWithin_0 rfl (lv_at hl 0 rfl) ?_
  refine lv_lconst (v := 0) hx hb dC_isWithin_1 (by decide) ?_
  refine W.lcmp hx hb dC_isWithin_2 ?_
  refine lv_if_lt (tgt := 16) hx hb dC_isWithin_3 (by decide) (fun c3 => ?_) (fun c3 => ?_)
  · have c3 := (lg_cmp_lt a 0).mp c3
    refine lv_iconst (v := 0) hx hb dC_isWithin_16 (by decide) ?_
    exact W.zret (v := 0) (ty := .boolean) hx hb hr (by decide) (fun t ht hW => ⟨_, rfl, by rw [if_neg (fun h => absurd h.1 (Int64.not_le.mpr c3))], ht⟩) t_nil dC_isWithin_17
  · have c3 := mt (lg_cmp_lt a 0).mpr c3
    refine lv_lload_n hx hb dC_isWithin_6 rfl (lv_at hl 0 rfl) ?_
    refine lv_lload_n hx hb dC_isWithin_7 rfl (lv_at hl 1 rfl) ?_
    refine W.lcmp hx hb dC_isWithin_8 ?_
    refine lv_if_gt (tgt := 16) hx hb dC_isWithin_9 (by decide) (fun c9 => ?_) (fun c9 => ?_)
    · have c9 := (lg_cmp_gt a b).mp c9
      refine lv_iconst (v := 0) hx hb dC_isWithin_16 (by decide) ?_
      exact W.zret (v := 0) (ty := .boolean) hx hb hr (by decide) (fun t ht hW => ⟨_, rfl, by rw [if_neg (fun h => absurd h.2 (Int64.not_le.mpr c9))], ht⟩) t_nil dC_isWithin_17
    · have c9 := mt (lg_cmp_gt a b).mpr c9
      refine lv_iconst (v := 1) hx hb dC_isWithin_12 (by decide) ?_
      refine lv_goto (tgt := 17) hx hb dC_isWithin_13 (by decide) ?_
      exact W.zret (v := 1) (ty := .boolean) hx hb hr (by decide) (fun t ht hW => ⟨_, rfl, by rw [if_pos ⟨Int64.not_lt.mp c3, Int64.not_lt.mp c9⟩], ht⟩) t_nil dC_isWithin_17

set_option maxHeartbeats 4000000 in
set_option maxRecDepth 100000 in
theorem cM_isIn (l : Launch) (a : Int64) (b : Int64) : Met l yM_isIn wM_isIn (rmL 0 0 0) (va_Pc [.long a, .long b] (fun U => True)) (vp_Si (fun r : Int32 => r = if 0 ≤ a ∧ a ≤ b then 1 else 0)) 0 0 (fun _ => False) := by
  refine Met.ofW (cc := bM_isIn) (maxL := 4) (ret := (some .boolean)) (by decide) rfl ?_
  intro p e s m args below meth c s₁ B hml hv
  obtain ⟨rfl, hv⟩ := hv
  have hx := B.exec
  have hb := B.bytes
  have hr := B.returns
  have hts := atoms_spec (ws := wM_isIn) B.pre
  have hown : s.vm.findClass NM = some m.cls := findClass_of_methodNamed B.named
  have hlocks := B.notSynchronized
  have hl := lv_entry ([.long a, .long b]) (n := 4) (Nat.le_of_ble_eq_true rfl)
  rw [lg_entry_eq]
  generalize (lg_sl ([.long a, .long b]) ++ List.replicate (4 - (lg_sl ([.long a, .long b])).length) Slot.unset).toArray = ls at hl ⊢
  have hl : lv_has ls 4 [(0, .long a), (2, .long b)] := hl
  refine lv_lload_n hx hb dM_isIn_0 rfl (lv_at hl 0 rfl) ?_
  refine lv_lconst (v := 0) hx hb dM_isIn_1 (by decide) ?_
  refine W.lcmp hx hb dM_isIn_2 ?_
  refine lv_if_lt (tgt := 16) hx hb dM_isIn_3 (by decide) (fun c3 => ?_) (fun c3 => ?_)
  · have c3 := (lg_cmp_lt a 0).mp c3
    refine lv_iconst (v := 0) hx hb dM_isIn_16 (by decide) ?_
    exact W.zret (v := 0) (ty := .boolean) hx hb hr (by decide) (fun t ht hW => ⟨_, rfl, by rw [if_neg (fun h => absurd h.1 (Int64.not_le.mpr c3))], ht⟩) t_nil dM_isIn_17
  · have c3 := mt (lg_cmp_lt a 0).mpr c3
    refine lv_lload_n hx hb dM_isIn_6 rfl (lv_at hl 0 rfl) ?_
    refine lv_lload_n hx hb dM_isIn_7 rfl (lv_at hl 1 rfl) ?_
    refine W.lcmp hx hb dM_isIn_8 ?_
    refine lv_if_gt (tgt := 16) hx hb dM_isIn_9 (by decide) (fun c9 => ?_) (fun c9 => ?_)
    · have c9 := (lg_cmp_gt a b).mp c9
      refine lv_iconst (v := 0) hx hb dM_isIn_16 (by decide) ?_
      exact W.zret (v := 0) (ty := .boolean) hx hb hr (by decide) (fun t ht hW => ⟨_, rfl, by rw [if_neg (fun h => absurd h.2 (Int64.not_le.mpr c9))], ht⟩) t_nil dM_isIn_17
    · have c9 := mt (lg_cmp_gt a b).mpr c9
      refine lv_iconst (v := 1) hx hb dM_isIn_12 (by decide) ?_
      refine lv_goto (tgt := 17) hx hb dM_isIn_13 (by decide) ?_
      exact W.zret (v := 1) (ty := .boolean) hx hb hr (by decide) (fun t ht hW => ⟨_, rfl, by rw [if_pos ⟨Int64.not_lt.mp c3, Int64.not_lt.mp c9⟩], ht⟩) t_nil dM_isIn_17

set_option maxHeartbeats 4000000 in
set_option maxRecDepth 100000 in
theorem cC_isIndex (l : Launch) (a : Int32) (b : Int32) : Met l yC_isIndex wC_isIndex (rmL 0 0 0) (va_Pc [.int a, .int b] (fun U => True)) (vp_Si (fun r : Int32 => r = if 0 ≤ a ∧ a < b then 1 else 0)) 0 0 (fun _ => False) := by
  refine Met.ofW (cc := bC_isIndex) (maxL := 2) (ret := (some .boolean)) (by decide) rfl ?_
  intro p e s m args below meth c s₁ B hml hv
  obtain ⟨rfl, hv⟩ := hv
  have hx := B.exec
  have hb := B.bytes
  have hr := B.returns
  have hts := atoms_spec (ws := wC_isIndex) B.pre
  have hown : s.vm.findClass NC = some m.cls := findClass_of_methodNamed B.named
  have hlocks := B.notSynchronized
  have hl := lv_entry ([.int a, .int b]) (n := 2) (Nat.le_of_ble_eq_true rfl)
  rw [lg_entry_eq]
  generalize (lg_sl ([.int a, .int b]) ++ List.replicate (2 - (lg_sl ([.int a, .int b])).length) Slot.unset).toArray = ls at hl ⊢
  have hl : lv_has ls 2 [(0, .int a), (1, .int b)] := hl
  refine lv_iload_n hx hb dC_isIndex_0 rfl (lv_at hl 0 rfl) ?_
  refine lv_if_lt (tgt := 13) hx hb dC_isIndex_1 (by decide) (fun c1 => ?_) (fun c1 => ?_)
  · refine lv_iconst (v := 0) hx hb dC_isIndex_13 (by decide) ?_
    exact W.zret (v := 0) (ty := .boolean) hx hb hr (by decide) (fun t ht hW => ⟨_, rfl, by rw [if_neg (fun h => absurd h.1 (Int32.not_le.mpr c1))], ht⟩) t_nil dC_isIndex_14
  · refine lv_iload_n hx hb dC_isIndex_4 rfl (lv_at hl 0 rfl) ?_
    refine lv_iload_n hx hb dC_isIndex_5 rfl (lv_at hl 1 rfl) ?_
    refine lv_icmp_ge (tgt := 13) hx hb dC_isIndex_6 (by decide) (fun c6 => ?_) (fun c6 => ?_)
    · refine lv_iconst (v := 0) hx hb dC_isIndex_13 (by decide) ?_
      exact W.zret (v := 0) (ty := .boolean) hx hb hr (by decide) (fun t ht hW => ⟨_, rfl, by rw [if_neg (fun h => absurd h.2 (Int32.not_lt.mpr c6))], ht⟩) t_nil dC_isIndex_14
    · refine lv_iconst (v := 1) hx hb dC_isIndex_9 (by decide) ?_
      refine lv_goto (tgt := 14) hx hb dC_isIndex_10 (by decide) ?_
      exact W.zret (v := 1) (ty := .boolean) hx hb hr (by decide) (fun t ht hW => ⟨_, rfl, by rw [if_pos ⟨Int32.not_lt.mp c1, Int32.not_le.mp c6⟩], ht⟩) t_nil dC_isIndex_14
