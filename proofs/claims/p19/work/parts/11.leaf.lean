/-! leaves -/
set_option maxHeartbeats 4000000 in
set_option maxRecDepth 100000 in
theorem cC_isWithin (l : Launch) (a : Int64) (b : Int64) : Met l yC_isWithin wC_isWithin (rmL 0 0 0) (va_Pc [.long a, .long b] (fun U => True)) (vp_Si (fun r : Int32 => r = if 0 ≤ a ∧ a ≤ b then 1 else 0)) 0 0 (fun _ => False) := by
  refine Met.ofW (cc := bC_isWithin) (maxL := 4) (ret := (some .boolean)) (by decide) rfl ?_
  intro p e s m args below meth c s₁ B hml hv
  obtain ⟨rfl, hv⟩ := hv
  have hx := B.exec
  have hb := B.bytes
  have hr := B.returns
  have hts := atoms_spec (ws := wC_isWithin) B.pre
  have hown : s.vm.findClass NC = some m.cls := findClass_of_methodNamed B.named
  have hlocks := B.notSynchronized
  have hl := lv_entry ([.long a, .long b]) (n := 4) (Nat.le_of_ble_eq_true rfl)
  rw [lg_entry_eq]
  generalize (lg_sl ([.long a, .long b]) ++ List.replicate (4 - (lg_sl ([.long a, .long b])).length) Slot.unset).toArray = ls at hl ⊢
  have hl : lv_has ls 4 [(0, .long a), (2, .long b)] := hl
  refine lv_lload_n hx hb dC_isWithin_0 rfl (lv_at hl 0 rfl) ?_
  refine lv_lconst (v := 0) hx hb dC_isWithin_1 (by decide) ?_
  refine W.lcmp hx hb dC_isWithin_2 ?_
  refine lv_if_lt (tgt := 16) hx hb dC_isWithin_3 (by decide) (fun c3 => ?_) (fun c3 => ?_)
  · have c3 := (lg_cmp_lt a 0).mp c3
    refine lv_iconst (v := 0) hx hb dC_isWithin_16 (by decide) ?_
    exact W.zret (v := 0) (ty := .boolean) hx hb hr (by decide) (fun t ht9 hW9 => ⟨_, rfl, by rw [if_neg (fun h => absurd h.1 (Int64.not_le.mpr c3))], ht9⟩) t_nil dC_isWithin_17
  · have c3 := mt (lg_cmp_lt a 0).mpr c3
    refine lv_lload_n hx hb dC_isWithin_6 rfl (lv_at hl 0 rfl) ?_
    refine lv_lload_n hx hb dC_isWithin_7 rfl (lv_at hl 1 rfl) ?_
    refine W.lcmp hx hb dC_isWithin_8 ?_
    refine lv_if_gt (tgt := 16) hx hb dC_isWithin_9 (by decide) (fun c9 => ?_) (fun c9 => ?_)
    · have c9 := (lg_cmp_gt a b).mp c9
      refine lv_iconst (v := 0) hx hb dC_isWithin_16 (by decide) ?_
      exact W.zret (v := 0) (ty := .boolean) hx hb hr (by decide) (fun t ht9 hW9 => ⟨_, rfl, by rw [if_neg (fun h => absurd h.2 (Int64.not_le.mpr c9))], ht9⟩) t_nil dC_isWithin_17
    · have c9 := mt (lg_cmp_gt a b).mpr c9
      refine lv_iconst (v := 1) hx hb dC_isWithin_12 (by decide) ?_
      refine lv_goto (tgt := 17) hx hb dC_isWithin_13 (by decide) ?_
      exact W.zret (v := 1) (ty := .boolean) hx hb hr (by decide) (fun t ht9 hW9 => ⟨_, rfl, by rw [if_pos ⟨Int64.not_lt.mp c3, Int64.not_lt.mp c9⟩], ht9⟩) t_nil dC_isWithin_17

set_option maxHeartbeats 4000000 in
set_option maxRecDepth 100000 in
theorem cM_isIn (l : Launch) (a : Int64) (b : Int64) : Met l yM_isIn wM_isIn (rmL 0 0 0) (va_Pc [.long a, .long b] (fun U => True)) (vp_Si (fun r : Int32 => r = if 0 ≤ a ∧ a ≤ b then 1 else 0)) 0 0 (fun _ => False) := by
  refine Met.ofW (cc := bM_isIn) (maxL := 4) (ret := (some .boolean)) (by decide) rfl ?_
  intro p e s m args below meth c s₁ B hml hv
  obtain ⟨rfl, hv⟩ := hv
  have hx := B.exec
  have hb := B.bytes
  have hr := B.returns
  have hts := atoms_spec (ws := wM_isIn) B.pre
  have hown : s.vm.findClass NM = some m.cls := findClass_of_methodNamed B.named
  have hlocks := B.notSynchronized
  have hl := lv_entry ([.long a, .long b]) (n := 4) (Nat.le_of_ble_eq_true rfl)
  rw [lg_entry_eq]
  generalize (lg_sl ([.long a, .long b]) ++ List.replicate (4 - (lg_sl ([.long a, .long b])).length) Slot.unset).toArray = ls at hl ⊢
  have hl : lv_has ls 4 [(0, .long a), (2, .long b)] := hl
  refine lv_lload_n hx hb dM_isIn_0 rfl (lv_at hl 0 rfl) ?_
  refine lv_lconst (v := 0) hx hb dM_isIn_1 (by decide) ?_
  refine W.lcmp hx hb dM_isIn_2 ?_
  refine lv_if_lt (tgt := 16) hx hb dM_isIn_3 (by decide) (fun c3 => ?_) (fun c3 => ?_)
  · have c3 := (lg_cmp_lt a 0).mp c3
    refine lv_iconst (v := 0) hx hb dM_isIn_16 (by decide) ?_
    exact W.zret (v := 0) (ty := .boolean) hx hb hr (by decide) (fun t ht9 hW9 => ⟨_, rfl, by rw [if_neg (fun h => absurd h.1 (Int64.not_le.mpr c3))], ht9⟩) t_nil dM_isIn_17
  · have c3 := mt (lg_cmp_lt a 0).mpr c3
    refine lv_lload_n hx hb dM_isIn_6 rfl (lv_at hl 0 rfl) ?_
    refine lv_lload_n hx hb dM_isIn_7 rfl (lv_at hl 1 rfl) ?_
    refine W.lcmp hx hb dM_isIn_8 ?_
    refine lv_if_gt (tgt := 16) hx hb dM_isIn_9 (by decide) (fun c9 => ?_) (fun c9 => ?_)
    · have c9 := (lg_cmp_gt a b).mp c9
      refine lv_iconst (v := 0) hx hb dM_isIn_16 (by decide) ?_
      exact W.zret (v := 0) (ty := .boolean) hx hb hr (by decide) (fun t ht9 hW9 => ⟨_, rfl, by rw [if_neg (fun h => absurd h.2 (Int64.not_le.mpr c9))], ht9⟩) t_nil dM_isIn_17
    · have c9 := mt (lg_cmp_gt a b).mpr c9
      refine lv_iconst (v := 1) hx hb dM_isIn_12 (by decide) ?_
      refine lv_goto (tgt := 17) hx hb dM_isIn_13 (by decide) ?_
      exact W.zret (v := 1) (ty := .boolean) hx hb hr (by decide) (fun t ht9 hW9 => ⟨_, rfl, by rw [if_pos ⟨Int64.not_lt.mp c3, Int64.not_lt.mp c9⟩], ht9⟩) t_nil dM_isIn_17

set_option maxHeartbeats 4000000 in
set_option maxRecDepth 100000 in
theorem cC_isIndex (l : Launch) (a : Int32) (b : Int32) : Met l yC_isIndex wC_isIndex (rmL 0 0 0) (va_Pc [.int a, .int b] (fun U => True)) (vp_Si (fun r : Int32 => r = if 0 ≤ a ∧ a < b then 1 else 0)) 0 0 (fun _ => False) := by
  refine Met.ofW (cc := bC_isIndex) (maxL := 2) (ret := (some .boolean)) (by decide) rfl ?_
  intro p e s m args below meth c s₁ B hml hv
  obtain ⟨rfl, hv⟩ := hv
  have hx := B.exec
  have hb := B.bytes
  have hr := B.returns
  have hts := atoms_spec (ws := wC_isIndex) B.pre
  have hown : s.vm.findClass NC = some m.cls := findClass_of_methodNamed B.named
  have hlocks := B.notSynchronized
  have hl := lv_entry ([.int a, .int b]) (n := 2) (Nat.le_of_ble_eq_true rfl)
  rw [lg_entry_eq]
  generalize (lg_sl ([.int a, .int b]) ++ List.replicate (2 - (lg_sl ([.int a, .int b])).length) Slot.unset).toArray = ls at hl ⊢
  have hl : lv_has ls 2 [(0, .int a), (1, .int b)] := hl
  refine lv_iload_n hx hb dC_isIndex_0 rfl (lv_at hl 0 rfl) ?_
  refine lv_if_lt (tgt := 13) hx hb dC_isIndex_1 (by decide) (fun c1 => ?_) (fun c1 => ?_)
  · refine lv_iconst (v := 0) hx hb dC_isIndex_13 (by decide) ?_
    exact W.zret (v := 0) (ty := .boolean) hx hb hr (by decide) (fun t ht9 hW9 => ⟨_, rfl, by rw [if_neg (fun h => absurd h.1 (Int32.not_le.mpr c1))], ht9⟩) t_nil dC_isIndex_14
  · refine lv_iload_n hx hb dC_isIndex_4 rfl (lv_at hl 0 rfl) ?_
    refine lv_iload_n hx hb dC_isIndex_5 rfl (lv_at hl 1 rfl) ?_
    refine lv_icmp_ge (tgt := 13) hx hb dC_isIndex_6 (by decide) (fun c6 => ?_) (fun c6 => ?_)
    · refine lv_iconst (v := 0) hx hb dC_isIndex_13 (by decide) ?_
      exact W.zret (v := 0) (ty := .boolean) hx hb hr (by decide) (fun t ht9 hW9 => ⟨_, rfl, by rw [if_neg (fun h => absurd h.2 (Int32.not_lt.mpr c6))], ht9⟩) t_nil dC_isIndex_14
    · refine lv_iconst (v := 1) hx hb dC_isIndex_9 (by decide) ?_
      refine lv_goto (tgt := 14) hx hb dC_isIndex_10 (by decide) ?_
      exact W.zret (v := 1) (ty := .boolean) hx hb hr (by decide) (fun t ht9 hW9 => ⟨_, rfl, by rw [if_pos ⟨Int32.not_lt.mp c1, Int32.not_le.mp c6⟩], ht9⟩) t_nil dC_isIndex_14

set_option maxHeartbeats 4000000 in
set_option maxRecDepth 100000 in
theorem cC_isIn (l : Launch) (kk : Nat) (jj : Nat) (hk : kk < 2 ^ 31) (hj : jj < 32) : Met l yC_isIn wC_isIn (rmL 0 0 0) (va_Pc [.int (nI kk), .int (nI jj)] (fun U => True)) (vp_Si (fun r : Int32 => r = if kk.testBit jj then 1 else 0)) 0 0 (fun _ => False) := by
  refine Met.ofW (cc := bC_isIn) (maxL := 2) (ret := (some .boolean)) (by decide) rfl ?_
  intro p e s m args below meth c s₁ B hml hv
  obtain ⟨rfl, hv⟩ := hv
  have hx := B.exec
  have hb := B.bytes
  have hr := B.returns
  have hts := atoms_spec (ws := wC_isIn) B.pre
  have hown : s.vm.findClass NC = some m.cls := findClass_of_methodNamed B.named
  have hlocks := B.notSynchronized
  have hl := lv_entry ([.int (nI kk), .int (nI jj)]) (n := 2) (Nat.le_of_ble_eq_true rfl)
  rw [lg_entry_eq]
  generalize (lg_sl ([.int (nI kk), .int (nI jj)]) ++ List.replicate (2 - (lg_sl ([.int (nI kk), .int (nI jj)])).length) Slot.unset).toArray = ls at hl ⊢
  have hl : lv_has ls 2 [(0, .int (nI kk)), (1, .int (nI jj))] := hl
  refine lv_iload_n hx hb dC_isIn_0 rfl (lv_at hl 0 rfl) ?_
  refine lv_iload_n hx hb dC_isIn_1 rfl (lv_at hl 1 rfl) ?_
  refine lv_ishr hx hb dC_isIn_2 ?_
  refine lv_iconst (v := 1) hx hb dC_isIn_3 (by decide) ?_
  refine lv_iand hx hb dC_isIn_4 ?_
  refine lv_if_eq (tgt := 12) hx hb dC_isIn_5 (by decide) (fun c5 => ?_) (fun c5 => ?_)
  · refine lv_iconst (v := 0) hx hb dC_isIn_12 (by decide) ?_
    exact W.zret (v := 0) (ty := .boolean) hx hb hr (by decide) (fun t ht9 hW9 => ⟨_, rfl, by rw [nn_bit hk hj] at c5; cases h : kk.testBit jj <;> rw [h] at c5 <;> first | rfl | exact absurd c5 (by decide), ht9⟩) t_nil dC_isIn_13
  · refine lv_iconst (v := 1) hx hb dC_isIn_8 (by decide) ?_
    refine lv_goto (tgt := 13) hx hb dC_isIn_9 (by decide) ?_
    exact W.zret (v := 1) (ty := .boolean) hx hb hr (by decide) (fun t ht9 hW9 => ⟨_, rfl, by rw [nn_bit hk hj] at c5; cases h : kk.testBit jj <;> rw [h] at c5 <;> first | rfl | exact absurd rfl c5, ht9⟩) t_nil dC_isIn_13

set_option maxHeartbeats 4000000 in
set_option maxRecDepth 100000 in
theorem cM_has (l : Launch) (kk : Nat) (jj : Nat) (hk : kk < 2 ^ 31) (hj : jj < 32) : Met l yM_has wM_has (rmL 0 0 0) (va_Pc [.int (nI kk), .int (nI jj)] (fun U => True)) (vp_Si (fun r : Int32 => r = if kk.testBit jj then 1 else 0)) 0 0 (fun _ => False) := by
  refine Met.ofW (cc := bM_has) (maxL := 2) (ret := (some .boolean)) (by decide) rfl ?_
  intro p e s m args below meth c s₁ B hml hv
  obtain ⟨rfl, hv⟩ := hv
  have hx := B.exec
  have hb := B.bytes
  have hr := B.returns
  have hts := atoms_spec (ws := wM_has) B.pre
  have hown : s.vm.findClass NM = some m.cls := findClass_of_methodNamed B.named
  have hlocks := B.notSynchronized
  have hl := lv_entry ([.int (nI kk), .int (nI jj)]) (n := 2) (Nat.le_of_ble_eq_true rfl)
  rw [lg_entry_eq]
  generalize (lg_sl ([.int (nI kk), .int (nI jj)]) ++ List.replicate (2 - (lg_sl ([.int (nI kk), .int (nI jj)])).length) Slot.unset).toArray = ls at hl ⊢
  have hl : lv_has ls 2 [(0, .int (nI kk)), (1, .int (nI jj))] := hl
  refine lv_iload_n hx hb dM_has_0 rfl (lv_at hl 0 rfl) ?_
  refine lv_iload_n hx hb dM_has_1 rfl (lv_at hl 1 rfl) ?_
  refine lv_ishr hx hb dM_has_2 ?_
  refine lv_iconst (v := 1) hx hb dM_has_3 (by decide) ?_
  refine lv_iand hx hb dM_has_4 ?_
  refine lv_iconst (v := 1) hx hb dM_has_5 (by decide) ?_
  refine lv_icmp_ne (tgt := 13) hx hb dM_has_6 (by decide) (fun c6 => ?_) (fun c6 => ?_)
  · refine lv_iconst (v := 0) hx hb dM_has_13 (by decide) ?_
    exact W.zret (v := 0) (ty := .boolean) hx hb hr (by decide) (fun t ht9 hW9 => ⟨_, rfl, by rw [nn_bit hk hj] at c6; cases h : kk.testBit jj <;> rw [h] at c6 <;> first | rfl | exact absurd rfl c6, ht9⟩) t_nil dM_has_14
  · refine lv_iconst (v := 1) hx hb dM_has_9 (by decide) ?_
    refine lv_goto (tgt := 14) hx hb dM_has_10 (by decide) ?_
    exact W.zret (v := 1) (ty := .boolean) hx hb hr (by decide) (fun t ht9 hW9 => ⟨_, rfl, by rw [nn_bit hk hj] at c6; cases h : kk.testBit jj <;> rw [h] at c6 <;> first | rfl | exact absurd c6 (by decide), ht9⟩) t_nil dM_has_14

set_option maxHeartbeats 4000000 in
set_option maxRecDepth 100000 in
theorem cC_nthBin (l : Launch) (kk : Nat) (n : Int32) (hk : kk < 2 ^ 31) : Met l yC_nthBin wC_nthBin (rmL 1 0 0) (va_Pc [.int (nI kk), .int n] (fun U => True)) (vp_Si (fun r : Int32 => r = nthF kk n 6 0 0)) 0 0 (fun _ => False) := by
  refine Met.ofW (cc := bC_nthBin) (maxL := 4) (ret := (some .int)) (by decide) rfl ?_
  intro p e s m args below meth c s₁ B hml hv
  obtain ⟨rfl, hv⟩ := hv
  have hx := B.exec
  have hb := B.bytes
  have hr := B.returns
  have hts := atoms_spec (ws := wC_nthBin) B.pre
  have hown : s.vm.findClass NC = some m.cls := findClass_of_methodNamed B.named
  have hlocks := B.notSynchronized
  have hl := lv_entry ([.int (nI kk), .int n]) (n := 4) (Nat.le_of_ble_eq_true rfl)
  rw [lg_entry_eq]
  generalize (lg_sl ([.int (nI kk), .int n]) ++ List.replicate (4 - (lg_sl ([.int (nI kk), .int n])).length) Slot.unset).toArray = ls at hl ⊢
  have hl : lv_has ls 4 [(0, .int (nI kk)), (1, .int n)] := hl
  have LP4 : ∀ (dd : Nat) (bb : Nat) (qq : Nat) (ls : Array Slot), 6 - bb < dd → (bb ≤ 6) → (qq ≤ bb) → (nthF kk n 6 0 0 = nthF kk n (6 - bb) bb qq) → lv_has ls 4 [(0, .int (nI kk)), (1, .int n), (2, .int (nI qq)), (3, .int (nI bb))] → W p l e (headSpec wC_nthBin (rmL 1 0 0)).room s m ([.int (nI kk), .int n] : List Value).toArray below meth c s.heap [] 0 0 (MQ below (vp_Si (fun r : Int32 => r = nthF kk n 6 0 0)) ([.int (nI kk), .int n] : List Value).toArray s 0 0 (fun _ => False)) (F0 m 4 ls []) := by
    intro dd
    induction dd with
    | zero =>
      intro bb qq ls hm
      exact absurd hm (Nat.not_lt_zero _)
    | succ dd ih =>
      intro bb qq ls hm hb6 hq hf hl
      refine lv_iload_n hx hb dC_nthBin_4 rfl (lv_at hl 3 rfl) ?_
      refine lv_bipush (v := 6) hx hb dC_nthBin_5 (by decide) ?_
      refine lv_icmp_ge (tgt := 34) hx hb dC_nthBin_7 (by decide) (fun c7 => ?_) (fun c7 => ?_)
      · have c7 : 6 ≤ bb := (nI_leI (a := 6) (b := bb) (by omega) (by omega)).mp c7
        refine lv_iconst (v := -1) hx hb dC_nthBin_34 (by decide) ?_
        exact W.iret (v := (-1)) hx hb hr (fun t ht9 hW9 => ⟨_, rfl, by rw [hf, show 6 - bb = 0 by omega]; rfl, ht9⟩) t_nil dC_nthBin_35
      · have c7 : ¬ 6 ≤ bb := mt (nI_leI (a := 6) (b := bb) (by omega) (by omega)).mpr c7
        refine lv_iload_n hx hb dC_nthBin_10 rfl (lv_at hl 0 rfl) ?_
        refine lv_iload_n hx hb dC_nthBin_11 rfl (lv_at hl 3 rfl) ?_
        refine vp_callSi (W.runS (As := [.int (nI kk), .int (nI bb)]) (rest := []) ⟨hx, hb, hml, hown, hts⟩ (cC_isIn l kk bb hk (by omega)) ⟨cB 2 hts hw341 hw1 hw457 (by decide +kernel) ⟨Nat.le_of_ble_eq_true rfl, Nat.le_of_ble_eq_true rfl⟩ rfl rfl, hts _ (gw_t _ hw340)⟩ ⟨fun a U g mk q => ⟨q.1, trivial⟩, fun U hU hW => ⟨rfl, trivial⟩⟩ rfl rfl hl.1 rfl (lv_room (Nat.le_of_ble_eq_true rfl)) dC_nthBin_12 ⟨Nat.le_of_ble_eq_true rfl, Nat.le_of_ble_eq_true rfl⟩) (fun r12 hr12 => ?_)
        refine lv_if_eq (tgt := 28) hx hb dC_nthBin_15 (by decide) (fun c15 => ?_) (fun c15 => ?_)
        · have ht : ¬ kk.testBit bb = true := fun h => by rw [hr12, if_pos h] at c15; exact absurd c15 (by decide)
          refine lv_iinc (v := nI (bb + 1)) (lv' := [(3, .int (nI (bb + 1))), (0, .int (nI kk)), (1, .int n), (2, .int (nI qq))]) hx hb dC_nthBin_28 hl (k := 3) rfl (nI_add bb 1) (by decide) rfl (fun ls hl => ?_)
          refine lv_goto (tgt := 4) hx hb dC_nthBin_31 (by decide) ?_
          exact ih (bb + 1) qq ls (by omega) (by omega) (by omega) (by rw [hf, show 6 - bb = (6 - (bb + 1)) + 1 by omega]; simp only [nthF]; rw [if_neg ht]) (lv_sub hl [1, 2, 3, 0] rfl)
        · have ht : kk.testBit bb = true := by cases h : kk.testBit bb <;> rw [h] at hr12 <;> first | rfl | exact absurd hr12 c15
          refine lv_iload_n hx hb dC_nthBin_18 rfl (lv_at hl 2 rfl) ?_
          refine lv_iload_n hx hb dC_nthBin_19 rfl (lv_at hl 1 rfl) ?_
          refine lv_icmp_ne (tgt := 25) hx hb dC_nthBin_20 (by decide) (fun c20 => ?_) (fun c20 => ?_)
          · refine lv_iinc (v := nI (qq + 1)) (lv' := [(2, .int (nI (qq + 1))), (0, .int (nI kk)), (1, .int n), (3, .int (nI bb))]) hx hb dC_nthBin_25 hl (k := 2) rfl (nI_add qq 1) (by decide) rfl (fun ls hl => ?_)
            refine lv_iinc (v := nI (bb + 1)) (lv' := [(3, .int (nI (bb + 1))), (2, .int (nI (qq + 1))), (0, .int (nI kk)), (1, .int n)]) hx hb dC_nthBin_28 hl (k := 3) rfl (nI_add bb 1) (by decide) rfl (fun ls hl => ?_)
            refine lv_goto (tgt := 4) hx hb dC_nthBin_31 (by decide) ?_
            exact ih (bb + 1) (qq + 1) ls (by omega) (by omega) (by omega) (by rw [hf, show 6 - bb = (6 - (bb + 1)) + 1 by omega]; simp only [nthF]; rw [if_pos ht, if_neg c20]) (lv_sub hl [2, 3, 1, 0] rfl)
          · refine lv_iload_n hx hb dC_nthBin_23 rfl (lv_at hl 3 rfl) ?_
            exact W.iret (v := nI bb) hx hb hr (fun t ht9 hW9 => ⟨_, rfl, by rw [hf, show 6 - bb = (6 - (bb + 1)) + 1 by omega]; simp only [nthF]; rw [if_pos ht, if_pos c20], ht9⟩) t_nil dC_nthBin_24
  refine lv_iconst (v := 0) hx hb dC_nthBin_0 (by decide) ?_
  refine lv_istore_n (lv' := [(2, .int 0), (0, .int (nI kk)), (1, .int n)]) hx hb dC_nthBin_1 rfl hl (by decide) rfl (fun ls hl => ?_)
  refine lv_iconst (v := 0) hx hb dC_nthBin_2 (by decide) ?_
  refine lv_istore_n (lv' := [(3, .int 0), (2, .int 0), (0, .int (nI kk)), (1, .int n)]) hx hb dC_nthBin_3 rfl hl (by decide) rfl (fun ls hl => ?_)
  exact LP4 _ 0 0 ls (Nat.lt_succ_self _) (by omega) (by omega) rfl (lv_sub hl [2, 3, 1, 0] rfl)

set_option maxHeartbeats 4000000 in
set_option maxRecDepth 100000 in
theorem cM_bitOf (l : Launch) (kk : Nat) (n : Int32) (hk : kk < 2 ^ 31) : Met l yM_bitOf wM_bitOf (rmL 1 0 0) (va_Pc [.int (nI kk), .int n] (fun U => True)) (vp_Si (fun r : Int32 => r = nthF kk n 6 0 0)) 0 0 (fun _ => False) := by
  refine Met.ofW (cc := bM_bitOf) (maxL := 4) (ret := (some .int)) (by decide) rfl ?_
  intro p e s m args below meth c s₁ B hml hv
  obtain ⟨rfl, hv⟩ := hv
  have hx := B.exec
  have hb := B.bytes
  have hr := B.returns
  have hts := atoms_spec (ws := wM_bitOf) B.pre
  have hown : s.vm.findClass NM = some m.cls := findClass_of_methodNamed B.named
  have hlocks := B.notSynchronized
  have hl := lv_entry ([.int (nI kk), .int n]) (n := 4) (Nat.le_of_ble_eq_true rfl)
  rw [lg_entry_eq]
  generalize (lg_sl ([.int (nI kk), .int n]) ++ List.replicate (4 - (lg_sl ([.int (nI kk), .int n])).length) Slot.unset).toArray = ls at hl ⊢
  have hl : lv_has ls 4 [(0, .int (nI kk)), (1, .int n)] := hl
  have LP4 : ∀ (dd : Nat) (bb : Nat) (qq : Nat) (ls : Array Slot), 6 - bb < dd → (bb ≤ 6) → (qq ≤ bb) → (nthF kk n 6 0 0 = nthF kk n (6 - bb) bb qq) → lv_has ls 4 [(0, .int (nI kk)), (1, .int n), (2, .int (nI qq)), (3, .int (nI bb))] → W p l e (headSpec wM_bitOf (rmL 1 0 0)).room s m ([.int (nI kk), .int n] : List Value).toArray below meth c s.heap [] 0 0 (MQ below (vp_Si (fun r : Int32 => r = nthF kk n 6 0 0)) ([.int (nI kk), .int n] : List Value).toArray s 0 0 (fun _ => False)) (F0 m 4 ls []) := by
    intro dd
    induction dd with
    | zero =>
      intro bb qq ls hm
      exact absurd hm (Nat.not_lt_zero _)
    | succ dd ih =>
      intro bb qq ls hm hb6 hq hf hl
      refine lv_iload_n hx hb dM_bitOf_4 rfl (lv_at hl 3 rfl) ?_
      refine lv_bipush (v := 6) hx hb dM_bitOf_5 (by decide) ?_
      refine lv_icmp_ge (tgt := 34) hx hb dM_bitOf_7 (by decide) (fun c7 => ?_) (fun c7 => ?_)
      · have c7 : 6 ≤ bb := (nI_leI (a := 6) (b := bb) (by omega) (by omega)).mp c7
        refine lv_iconst (v := -1) hx hb dM_bitOf_34 (by decide) ?_
        exact W.iret (v := (-1)) hx hb hr (fun t ht9 hW9 => ⟨_, rfl, by rw [hf, show 6 - bb = 0 by omega]; rfl, ht9⟩) t_nil dM_bitOf_35
      · have c7 : ¬ 6 ≤ bb := mt (nI_leI (a := 6) (b := bb) (by omega) (by omega)).mpr c7
        refine lv_iload_n hx hb dM_bitOf_10 rfl (lv_at hl 0 rfl) ?_
        refine lv_iload_n hx hb dM_bitOf_11 rfl (lv_at hl 3 rfl) ?_
        refine vp_callSi (W.runS (As := [.int (nI kk), .int (nI bb)]) (rest := []) ⟨hx, hb, hml, hown, hts⟩ (cM_has l kk bb hk (by omega)) ⟨cB 2 hts hw767 hw8 hw765 (by decide +kernel) ⟨Nat.le_of_ble_eq_true rfl, Nat.le_of_ble_eq_true rfl⟩ rfl rfl, hts _ (gw_t _ hw766)⟩ ⟨fun a U g mk q => ⟨q.1, trivial⟩, fun U hU hW => ⟨rfl, trivial⟩⟩ rfl rfl hl.1 rfl (lv_room (Nat.le_of_ble_eq_true rfl)) dM_bitOf_12 ⟨Nat.le_of_ble_eq_true rfl, Nat.le_of_ble_eq_true rfl⟩) (fun r12 hr12 => ?_)
        refine lv_if_eq (tgt := 28) hx hb dM_bitOf_15 (by decide) (fun c15 => ?_) (fun c15 => ?_)
        · have ht : ¬ kk.testBit bb = true := fun h => by rw [hr12, if_pos h] at c15; exact absurd c15 (by decide)
          refine lv_iinc (v := nI (bb + 1)) (lv' := [(3, .int (nI (bb + 1))), (0, .int (nI kk)), (1, .int n), (2, .int (nI qq))]) hx hb dM_bitOf_28 hl (k := 3) rfl (nI_add bb 1) (by decide) rfl (fun ls hl => ?_)
          refine lv_goto (tgt := 4) hx hb dM_bitOf_31 (by decide) ?_
          exact ih (bb + 1) qq ls (by omega) (by omega) (by omega) (by rw [hf, show 6 - bb = (6 - (bb + 1)) + 1 by omega]; simp only [nthF]; rw [if_neg ht]) (lv_sub hl [1, 2, 3, 0] rfl)
        · have ht : kk.testBit bb = true := by cases h : kk.testBit bb <;> rw [h] at hr12 <;> first | rfl | exact absurd hr12 c15
          refine lv_iload_n hx hb dM_bitOf_18 rfl (lv_at hl 2 rfl) ?_
          refine lv_iload_n hx hb dM_bitOf_19 rfl (lv_at hl 1 rfl) ?_
          refine lv_icmp_ne (tgt := 25) hx hb dM_bitOf_20 (by decide) (fun c20 => ?_) (fun c20 => ?_)
          · refine lv_iinc (v := nI (qq + 1)) (lv' := [(2, .int (nI (qq + 1))), (0, .int (nI kk)), (1, .int n), (3, .int (nI bb))]) hx hb dM_bitOf_25 hl (k := 2) rfl (nI_add qq 1) (by decide) rfl (fun ls hl => ?_)
            refine lv_iinc (v := nI (bb + 1)) (lv' := [(3, .int (nI (bb + 1))), (2, .int (nI (qq + 1))), (0, .int (nI kk)), (1, .int n)]) hx hb dM_bitOf_28 hl (k := 3) rfl (nI_add bb 1) (by decide) rfl (fun ls hl => ?_)
            refine lv_goto (tgt := 4) hx hb dM_bitOf_31 (by decide) ?_
            exact ih (bb + 1) (qq + 1) ls (by omega) (by omega) (by omega) (by rw [hf, show 6 - bb = (6 - (bb + 1)) + 1 by omega]; simp only [nthF]; rw [if_pos ht, if_neg c20]) (lv_sub hl [2, 3, 1, 0] rfl)
          · refine lv_iload_n hx hb dM_bitOf_23 rfl (lv_at hl 3 rfl) ?_
            exact W.iret (v := nI bb) hx hb hr (fun t ht9 hW9 => ⟨_, rfl, by rw [hf, show 6 - bb = (6 - (bb + 1)) + 1 by omega]; simp only [nthF]; rw [if_pos ht, if_pos c20], ht9⟩) t_nil dM_bitOf_24
  refine lv_iconst (v := 0) hx hb dM_bitOf_0 (by decide) ?_
  refine lv_istore_n (lv' := [(2, .int 0), (0, .int (nI kk)), (1, .int n)]) hx hb dM_bitOf_1 rfl hl (by decide) rfl (fun ls hl => ?_)
  refine lv_iconst (v := 0) hx hb dM_bitOf_2 (by decide) ?_
  refine lv_istore_n (lv' := [(3, .int 0), (2, .int 0), (0, .int (nI kk)), (1, .int n)]) hx hb dM_bitOf_3 rfl hl (by decide) rfl (fun ls hl => ?_)
  exact LP4 _ 0 0 ls (Nat.lt_succ_self _) (by omega) (by omega) rfl (lv_sub hl [2, 3, 1, 0] rfl)
