/-! coming: the first that lessens the goal -/
def cmP (tb : Nat → Rat) (op : Nat → Int32) (k : Nat) : Bool := decide (¬ op k = 0) && decide ((tb (504 + k)).num < 0)
theorem cm_t {tb : Nat → Rat} {op : Nat → Int32} {k : Nat} (h1 : ¬ op k = 0) (h2 : (tb (504 + k)).num < 0) : cmP tb op k = true := by simp [cmP, h1, h2]
theorem cm_f {tb : Nat → Rat} {op : Nat → Int32} {k : Nat} (h : op k = 0 ∨ ¬ (tb (504 + k)).num < 0) : ¬ cmP tb op k = true := by
  rcases h with h | h <;> simp [cmP, h]
theorem i64_nl {q : Rat} (h : q.num.natAbs < 2 ^ 63) (c : ¬ Int64.ofInt q.num < 0) : ¬ q.num < 0 := fun z => c (by
  rw [Int64.lt_iff_toInt_lt, i64_toInt h, show (0 : Int64).toInt = 0 by decide]; exact z)
set_option maxHeartbeats 4000000 in
set_option maxRecDepth 100000 in
theorem cM_coming (l : Launch) (D : va_G) (kI kJ kZ kG kH : ClassId) (h0 : Nat) (z_kilograms : Nat) (z_seconds : Nat) (z_waySeconds : Nat) (z_wayCosts : Nat) (z_pairs : Nat) (z_foundKilograms : Nat) (z_rows : Nat) (z_rounds : Nat) (z_costs : Nat) (z_lists : Nat) (z_barred : Nat) (z_row : Nat) (z_newRows : Nat) (z_newRounds : Nat) (z_newCosts : Nat) (z_newLists : Nat) (z_over : Nat) (z_under : Nat) (z_based : Nat) (z_open : Nat) (m_bins : Nat) (m_kilograms : Nat → Int32) (m_seconds : Nat → Int32) (m_waySeconds : Nat → Int32) (m_wayCosts : Nat → Int32) (m_load : Int32) (m_time : Int32) (m_vehicles : Int32) (m_pairs : Nat → Int32) (m_isFound : Int32) (m_foundBins : Int32) (m_foundLoad : Int32) (m_foundVehicles : Int32) (m_foundKilograms : Nat → Int32) (m_rows : Nat → Int32) (m_rounds : Nat → Int32) (m_costs : Nat → Int32) (m_lists : Nat → Int32) (m_barred : Nat → Int32) (m_fault : Int32) (m_row : Nat → Int32) (m_length : Int32) (m_newRows : Nat → Int32) (m_newRounds : Nat → Int32) (m_newCosts : Nat → Int32) (m_newLists : Nat → Int32) (m_based : Nat → Int32) (m_open : Nat → Int32) (tb : Nat → Rat) (h1 : ∀ x, x < 576 → Sm (tb x)) : Met l yM_coming wM_coming (rmL 0 0 0) (va_Pc [.ref h0] (fun U => wd D kI kJ kZ kG kH [(h0, .inr (8, [.int (nI m_bins), .ref z_kilograms, .ref z_seconds, .ref z_waySeconds, .ref z_wayCosts, .int m_load, .int m_time, .int m_vehicles, .ref z_pairs, .int m_isFound, .int m_foundBins, .int m_foundLoad, .int m_foundVehicles, .ref z_foundKilograms, .ref z_rows, .ref z_rounds, .ref z_costs, .ref z_lists, .ref z_barred, .int m_fault, .ref z_row, .int m_length, .ref z_newRows, .ref z_newRounds, .ref z_newCosts, .ref z_newLists, .ref z_over, .ref z_under, .ref z_based, .ref z_open])), (z_kilograms, .inl (kI, 6, .inl m_kilograms)), (z_seconds, .inl (kI, 6, .inl m_seconds)), (z_waySeconds, .inl (kI, 49, .inl m_waySeconds)), (z_wayCosts, .inl (kI, 49, .inl m_wayCosts)), (z_pairs, .inl (kI, 36, .inl m_pairs)), (z_foundKilograms, .inl (kI, 6, .inl m_foundKilograms)), (z_rows, .inl (kZ, 384, .inl m_rows)), (z_rounds, .inl (kZ, 384, .inl m_rounds)), (z_costs, .inl (kI, 64, .inl m_costs)), (z_lists, .inl (kI, 384, .inl m_lists)), (z_barred, .inl (kZ, 64, .inl m_barred)), (z_row, .inl (kI, 6, .inl m_row)), (z_newRows, .inl (kZ, 384, .inl m_newRows)), (z_newRounds, .inl (kZ, 384, .inl m_newRounds)), (z_newCosts, .inl (kI, 64, .inl m_newCosts)), (z_newLists, .inl (kI, 384, .inl m_newLists)), (z_over, .inl (kJ, 576, .inr (.inl (ovR tb)))), (z_under, .inl (kJ, 576, .inr (.inl (unR tb)))), (z_based, .inl (kI, 7, .inl m_based)), (z_open, .inl (kZ, 64, .inl m_open))] U)) (vp_Si (fun r : Int32 => r = (match nthP (cmP tb m_open) 0 64 0 0 with | some b => nI b | none => -1))) 0 0 (fun _ => False) := by
  refine Met.ofW (cc := bM_coming) (maxL := 2) (ret := (some .int)) (by decide) rfl ?_
  intro p e s m args below meth c s₁ B hml hv
  obtain ⟨rfl, hP, hK, hN⟩ := hv
  have hx := B.exec
  have hb := B.bytes
  have hr := B.returns
  have hts := atoms_spec (ws := wM_coming) B.pre
  have hown : s.vm.findClass NM = some m.cls := findClass_of_methodNamed B.named
  have hlocks := B.notSynchronized
  have hl := lv_entry ([.ref h0]) (n := 2) (Nat.le_of_ble_eq_true rfl)
  rw [lg_entry_eq]
  generalize (lg_sl ([.ref h0]) ++ List.replicate (2 - (lg_sl ([.ref h0])).length) Slot.unset).toArray = ls at hl ⊢
  have hl : lv_has ls 2 [(0, .ref h0)] := hl
  have LP2 : ∀ (dd : Nat) (k : Nat) (ls : Array Slot), 64 - k < dd → (k ≤ 64) → (nthP (cmP tb m_open) 0 64 0 0 = nthP (cmP tb m_open) 0 (64 - k) k 0) → lv_has ls 2 [(0, .ref h0), (1, .int (nI k))] → W p l e (headSpec wM_coming (rmL 0 0 0)).room s m ([.ref h0] : List Value).toArray below meth c s.heap [] 0 0 (MQ below (vp_Si (fun r : Int32 => r = (match nthP (cmP tb m_open) 0 64 0 0 with | some b => nI b | none => -1))) ([.ref h0] : List Value).toArray s 0 0 (fun _ => False)) (F0 m 2 ls []) := by
    intro dd
    induction dd with
    | zero =>
      intro k ls hm
      exact absurd hm (Nat.not_lt_zero _)
    | succ dd ihLP2 =>
      intro k ls hm hk hf hl
      refine lv_iload_n hx hb dM_coming_2 rfl (lv_at hl 1 rfl) ?_
      refine lv_bipush (v := 64) hx hb dM_coming_3 (by decide) ?_
      refine lv_icmp_ge (tgt := 38) hx hb dM_coming_5 (by decide) (fun c5 => ?_) (fun c5 => ?_)
      · have c5 : 64 ≤ k := (nI_leI (a := 64) (b := k) (by omega) (by omega)).mp c5
        refine lv_iload_n hx hb dM_coming_38 rfl (lv_at hl 1 rfl) ?_
        refine lv_bipush (v := 64) hx hb dM_coming_39 (by decide) ?_
        refine lv_icmp_ge (tgt := 48) hx hb dM_coming_41 (by decide) (fun c41 => ?_) (fun c41 => ?_)
        · have c41 : 64 ≤ k := (nI_leI (a := 64) (b := k) (by omega) (by omega)).mp c41
          refine lv_iconst (v := -1) hx hb dM_coming_48 (by decide) ?_
          exact W.iret (v := (-1)) hx hb hr (fun t ht9 hW9 => ⟨_, rfl, by rw [hf, show 64 - k = 0 by omega]; rfl, ht9⟩) t_nil dM_coming_49
        · have c41 : ¬ 64 ≤ k := mt (nI_leI (a := 64) (b := k) (by omega) (by omega)).mpr c41
          exact absurd c5 c41
      · have c5 : ¬ 64 ≤ k := mt (nI_leI (a := 64) (b := k) (by omega) (by omega)).mpr c5
        refine lv_aload_n hx hb dM_coming_8 rfl (lv_at hl 0 rfl) ?_
        refine va_get (D := D) (cl := rcl) (ci := 8) (v := .ref z_open) (C := NM) (T := TM) (N := 30) hx hb hts (fun w h => gw_t w (uwM w h)) hown hK hP 0 rfl rfl 29 (by decide) (hts _ (gw_t _ hw659)) (fun _ h9 => h9) rfl dM_coming_9 ?_
        refine lv_iload_n hx hb dM_coming_12 rfl (lv_at hl 1 rfl) ?_
        refine ra_z (k := k) hx hb hK hP 20 2 rfl rfl (by omega) (by omega) dM_coming_13 ?_
        refine lv_if_eq (tgt := 32) hx hb dM_coming_14 (by decide) (fun c14 => ?_) (fun c14 => ?_)
        · have hno : ¬ cmP tb m_open k = true := cm_f (Or.inl c14)
          refine lv_iinc (v := nI (k + 1)) (lv' := [(1, .int (nI (k + 1))), (0, .ref h0)]) hx hb dM_coming_32 hl (k := 1) rfl (nI_add k 1) (by decide) rfl (fun ls hl => ?_)
          refine lv_goto (tgt := 2) hx hb dM_coming_35 (by decide) ?_
          exact ihLP2 (k + 1) ls (by omega) (by omega) (by rw [hf, show 64 - k = (64 - (k + 1)) + 1 by omega]; simp only [nthP]; rw [if_neg hno]) (lv_sub hl [1, 0] rfl)
        · refine lv_aload_n hx hb dM_coming_17 rfl (lv_at hl 0 rfl) ?_
          refine va_get (D := D) (cl := rcl) (ci := 8) (v := .ref z_over) (C := NM) (T := TM) (N := 30) hx hb hts (fun w h => gw_t w (uwM w h)) hown hK hP 0 rfl rfl 26 (by decide) (hts _ (gw_t _ hw656)) (fun _ h9 => h9) rfl dM_coming_18 ?_
          refine lv_sipush (v := 504) hx hb dM_coming_21 (by decide) ?_
          refine lv_iload_n hx hb dM_coming_24 rfl (lv_at hl 1 rfl) ?_
          refine lv_iadd hx hb dM_coming_25 ?_
          refine lc_i (y := nI (504 + k)) (nI_add 504 k) ?_
          refine ra_l (k := 504 + k) hx hb hK hP 17 1 rfl rfl (by omega) (by omega) dM_coming_26 ?_
          refine lc_l (y := Int64.ofInt (tb (504 + k)).num) (rfl) ?_
          refine lv_lconst (v := 0) hx hb dM_coming_27 (by decide) ?_
          refine W.lcmp hx hb dM_coming_28 ?_
          refine lv_if_lt (tgt := 38) hx hb dM_coming_29 (by decide) (fun c29 => ?_) (fun c29 => ?_)
          · have c29 := (lg_cmp_lt (Int64.ofInt (tb (504 + k)).num) 0).mp c29
            have hyes : cmP tb m_open k = true := cm_t c14 (i64_lt (sm_n (h1 _ (by omega))) c29)
            refine lv_iload_n hx hb dM_coming_38 rfl (lv_at hl 1 rfl) ?_
            refine lv_bipush (v := 64) hx hb dM_coming_39 (by decide) ?_
            refine lv_icmp_ge (tgt := 48) hx hb dM_coming_41 (by decide) (fun c41 => ?_) (fun c41 => ?_)
            · have c41 : 64 ≤ k := (nI_leI (a := 64) (b := k) (by omega) (by omega)).mp c41
              exact absurd c41 c5
            · have c41 : ¬ 64 ≤ k := mt (nI_leI (a := 64) (b := k) (by omega) (by omega)).mpr c41
              refine lv_iload_n hx hb dM_coming_44 rfl (lv_at hl 1 rfl) ?_
              refine lv_goto (tgt := 49) hx hb dM_coming_45 (by decide) ?_
              exact W.iret (v := nI k) hx hb hr (fun t ht9 hW9 => ⟨_, rfl, by rw [hf, show 64 - k = (64 - (k + 1)) + 1 by omega]; simp only [nthP]; rw [if_pos hyes, if_pos nI_0], ht9⟩) t_nil dM_coming_49
          · have c29 := mt (lg_cmp_lt (Int64.ofInt (tb (504 + k)).num) 0).mpr c29
            have hno : ¬ cmP tb m_open k = true := cm_f (Or.inr (i64_nl (sm_n (h1 _ (by omega))) c29))
            refine lv_iinc (v := nI (k + 1)) (lv' := [(1, .int (nI (k + 1))), (0, .ref h0)]) hx hb dM_coming_32 hl (k := 1) rfl (nI_add k 1) (by decide) rfl (fun ls hl => ?_)
            refine lv_goto (tgt := 2) hx hb dM_coming_35 (by decide) ?_
            exact ihLP2 (k + 1) ls (by omega) (by omega) (by rw [hf, show 64 - k = (64 - (k + 1)) + 1 by omega]; simp only [nthP]; rw [if_neg hno]) (lv_sub hl [1, 0] rfl)
  refine lv_iconst (v := 0) hx hb dM_coming_0 (by decide) ?_
  refine lv_istore_n (lv' := [(1, .int 0), (0, .ref h0)]) hx hb dM_coming_1 rfl hl (by decide) rfl (fun ls hl => ?_)
  exact LP2 _ 0 ls (Nat.lt_succ_self _) (by omega) rfl (lv_sub hl [1, 0] rfl)
