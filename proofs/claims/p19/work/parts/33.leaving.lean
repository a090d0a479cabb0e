/-! leaving: the tightest row -/
def fdI (fd : Option Nat) : Int32 := match fd with
  | some b => nI b
  | none => -1
/-- a fraction of the rows -/
def St (q : Rat) : Prop := q.num.natAbs < 2 ^ 15 ∧ q.den < 2 ^ 14
def lvF (tb : Nat → Rat) (bs : Nat → Nat) (c : Nat) : Nat → Nat → Option Nat → Option Nat
  | 0, _, fd => fd
  | n + 1, i, fd => lvF tb bs c n (i + 1) (if 0 < (tb (72 * i + c)).num then (match fd with | none => some i | some f => if (tb (72 * i + 71)).num * (tb (72 * i + c)).den * ((tb (72 * f + 71)).den * (tb (72 * f + c)).num) < (tb (72 * f + 71)).num * (tb (72 * f + c)).den * ((tb (72 * i + 71)).den * (tb (72 * i + c)).num) ∨ ((tb (72 * i + 71)).num * (tb (72 * i + c)).den * ((tb (72 * f + 71)).den * (tb (72 * f + c)).num) = (tb (72 * f + 71)).num * (tb (72 * f + c)).den * ((tb (72 * i + 71)).den * (tb (72 * i + c)).num) ∧ bs i < bs f) then some i else some f) else fd)
theorem st_n {q : Rat} (h : St q) : q.num.natAbs < 2 ^ 63 := Nat.lt_trans h.1 (by decide)
theorem st_bd {a b c d : Rat} (ha : St a) (hb : St b) (hc : St c) (hd : St d) : (a.num * b.den * (c.den * d.num)).natAbs < 2 ^ 63 := by
  rw [Int.natAbs_mul, Int.natAbs_mul, Int.natAbs_mul, Int.natAbs_natCast, Int.natAbs_natCast]
  exact Nat.lt_of_le_of_lt (Nat.mul_le_mul (Nat.mul_le_mul (Nat.le_of_lt ha.1) (Nat.le_of_lt hb.2)) (Nat.mul_le_mul (Nat.le_of_lt hc.2) (Nat.le_of_lt hd.1))) (by decide)
theorem i64_ltI {a b : Int} (ha : a.natAbs < 2 ^ 63) (hb : b.natAbs < 2 ^ 63) : Int64.ofInt a < Int64.ofInt b ↔ a < b := by
  rw [Int64.lt_iff_toInt_lt, i64_toInt ha, i64_toInt hb]
theorem i64_eqI {a b : Int} (ha : a.natAbs < 2 ^ 63) (hb : b.natAbs < 2 ^ 63) : Int64.ofInt a = Int64.ofInt b ↔ a = b := by
  rw [← Int64.toInt_inj, i64_toInt ha, i64_toInt hb]
theorem i64_np {q : Rat} (h : q.num.natAbs < 2 ^ 63) (c : Int64.ofInt q.num ≤ 0) : ¬ 0 < q.num := by
  have h1 := Int64.le_iff_toInt_le.mp c
  rw [i64_toInt h, show (0 : Int64).toInt = 0 by decide] at h1
  omega
theorem i64_ps {q : Rat} (h : q.num.natAbs < 2 ^ 63) (c : 0 < Int64.ofInt q.num) : 0 < q.num := by
  have h1 := Int64.lt_iff_toInt_lt.mp c
  rw [i64_toInt h, show (0 : Int64).toInt = 0 by decide] at h1
  omega
theorem fd_some {fd : Option Nat} (h : 0 ≤ fdI fd) : ∃ f, fd = some f := by
  cases fd with
  | none => exact absurd h (by decide)
  | some f => exact ⟨f, rfl⟩
theorem fd_none {fd : Option Nat} (h : ¬ 0 ≤ fdI fd) : fd = none ∨ ∃ f, fd = some f ∧ ¬ 0 ≤ nI f := by
  cases fd with
  | none => exact Or.inl rfl
  | some f => exact Or.inr ⟨f, rfl, h⟩
set_option maxHeartbeats 4000000 in
set_option maxRecDepth 100000 in
theorem cM_leaving (l : Launch) (D : va_G) (kI kJ kZ kG kH : ClassId) (h0 : Nat) (z_kilograms : Nat) (z_seconds : Nat) (z_waySeconds : Nat) (z_wayCosts : Nat) (z_pairs : Nat) (z_foundKilograms : Nat) (z_rows : Nat) (z_rounds : Nat) (z_costs : Nat) (z_lists : Nat) (z_barred : Nat) (z_row : Nat) (z_newRows : Nat) (z_newRounds : Nat) (z_newCosts : Nat) (z_newLists : Nat) (z_over : Nat) (z_under : Nat) (z_based : Nat) (z_open : Nat) (m_bins : Nat) (m_kilograms : Nat → Int32) (m_seconds : Nat → Int32) (m_waySeconds : Nat → Int32) (m_wayCosts : Nat → Int32) (m_load : Int32) (m_time : Int32) (m_vehicles : Int32) (m_pairs : Nat → Int32) (m_isFound : Int32) (m_foundBins : Int32) (m_foundLoad : Int32) (m_foundVehicles : Int32) (m_foundKilograms : Nat → Int32) (m_rows : Nat → Int32) (m_rounds : Nat → Int32) (m_costs : Nat → Int32) (m_lists : Nat → Int32) (m_barred : Nat → Int32) (m_fault : Int32) (m_row : Nat → Int32) (m_length : Int32) (m_newRows : Nat → Int32) (m_newRounds : Nat → Int32) (m_newCosts : Nat → Int32) (m_newLists : Nat → Int32) (m_based : Nat → Int32) (m_open : Nat → Int32) (tb : Nat → Rat) (c9 : Nat) (bs : Nat → Nat) (hc7 : c9 < 72) (h3 : ∀ x, x < 504 → St (tb x)) (hbs : ∀ j, j < 7 → bs j < 72 ∧ m_based j = nI (bs j)) : Met l yM_leaving wM_leaving (rmL 0 0 0) (va_Pc [.ref h0, .int (nI c9)] (fun U => wd D kI kJ kZ kG kH [(h0, .inr (8, [.int (nI m_bins), .ref z_kilograms, .ref z_seconds, .ref z_waySeconds, .ref z_wayCosts, .int m_load, .int m_time, .int m_vehicles, .ref z_pairs, .int m_isFound, .int m_foundBins, .int m_foundLoad, .int m_foundVehicles, .ref z_foundKilograms, .ref z_rows, .ref z_rounds, .ref z_costs, .ref z_lists, .ref z_barred, .int m_fault, .ref z_row, .int m_length, .ref z_newRows, .ref z_newRounds, .ref z_newCosts, .ref z_newLists, .ref z_over, .ref z_under, .ref z_based, .ref z_open])), (z_kilograms, .inl (kI, 6, .inl m_kilograms)), (z_seconds, .inl (kI, 6, .inl m_seconds)), (z_waySeconds, .inl (kI, 49, .inl m_waySeconds)), (z_wayCosts, .inl (kI, 49, .inl m_wayCosts)), (z_pairs, .inl (kI, 36, .inl m_pairs)), (z_foundKilograms, .inl (kI, 6, .inl m_foundKilograms)), (z_rows, .inl (kZ, 384, .inl m_rows)), (z_rounds, .inl (kZ, 384, .inl m_rounds)), (z_costs, .inl (kI, 64, .inl m_costs)), (z_lists, .inl (kI, 384, .inl m_lists)), (z_barred, .inl (kZ, 64, .inl m_barred)), (z_row, .inl (kI, 6, .inl m_row)), (z_newRows, .inl (kZ, 384, .inl m_newRows)), (z_newRounds, .inl (kZ, 384, .inl m_newRounds)), (z_newCosts, .inl (kI, 64, .inl m_newCosts)), (z_newLists, .inl (kI, 384, .inl m_newLists)), (z_over, .inl (kJ, 576, .inr (.inl (ovR tb)))), (z_under, .inl (kJ, 576, .inr (.inl (unR tb)))), (z_based, .inl (kI, 7, .inl m_based)), (z_open, .inl (kZ, 64, .inl m_open))] U)) (vp_Si (fun r : Int32 => r = fdI (lvF tb bs c9 7 0 none))) 0 0 (fun _ => False) := by
  refine Met.ofW (cc := bM_leaving) (maxL := 14) (ret := (some .int)) (by decide) rfl ?_
  intro p e s m args below meth c s₁ B hml hv
  obtain ⟨rfl, hP, hK, hN⟩ := hv
  have hx := B.exec
  have hb := B.bytes
  have hr := B.returns
  have hts := atoms_spec (ws := wM_leaving) B.pre
  have hown : s.vm.findClass NM = some m.cls := findClass_of_methodNamed B.named
  have hlocks := B.notSynchronized
  have hl := lv_entry ([.ref h0, .int (nI c9)]) (n := 14) (Nat.le_of_ble_eq_true rfl)
  rw [lg_entry_eq]
  generalize (lg_sl ([.ref h0, .int (nI c9)]) ++ List.replicate (14 - (lg_sl ([.ref h0, .int (nI c9)])).length) Slot.unset).toArray = ls at hl ⊢
  have hl : lv_has ls 14 [(0, .ref h0), (1, .int (nI c9))] := hl
  have LP4 : ∀ (dd : Nat) (i : Nat) (fd : Option Nat) (ls : Array Slot), 7 - i < dd → (i ≤ 7) → (∀ b, fd = some b → b < i) → (lvF tb bs c9 7 0 none = lvF tb bs c9 (7 - i) i fd) → lv_has ls 14 [(0, .ref h0), (1, .int (nI c9)), (2, .int (fdI fd)), (3, .int (nI i))] → W p l e (headSpec wM_leaving (rmL 0 0 0)).room s m ([.ref h0, .int (nI c9)] : List Value).toArray below meth c s.heap [] 0 0 (MQ below (vp_Si (fun r : Int32 => r = fdI (lvF tb bs c9 7 0 none))) ([.ref h0, .int (nI c9)] : List Value).toArray s 0 0 (fun _ => False)) (F0 m 4 ls []) := by
    intro dd
    induction dd with
    | zero =>
      intro i fd ls hm
      exact absurd hm (Nat.not_lt_zero _)
    | succ dd ihLP4 =>
      intro i fd ls hm hi hfd hf hl
      refine lv_iload_n hx hb dM_leaving_4 rfl (lv_at hl 3 rfl) ?_
      refine lv_bipush (v := 7) hx hb dM_leaving_5 (by decide) ?_
      refine lv_icmp_ge (tgt := 209) hx hb dM_leaving_7 (by decide) (fun c7 => ?_) (fun c7 => ?_)
      · have c7 : 7 ≤ i := (nI_leI (a := 7) (b := i) (by omega) (by omega)).mp c7
        refine lv_iload_n hx hb dM_leaving_209 rfl (lv_at hl 2 rfl) ?_
        exact W.iret (v := fdI fd) hx hb hr (fun t ht9 hW9 => ⟨_, rfl, by rw [hf, show 7 - i = 0 by omega]; rfl, ht9⟩) t_nil dM_leaving_210
      · have c7 : ¬ 7 ≤ i := mt (nI_leI (a := 7) (b := i) (by omega) (by omega)).mpr c7
        refine lv_bipush (v := 72) hx hb dM_leaving_10 (by decide) ?_
        refine lv_iload_n hx hb dM_leaving_12 rfl (lv_at hl 3 rfl) ?_
        refine lv_imul hx hb dM_leaving_13 ?_
        refine lc_i (y := nI (72 * i)) (pk_mul 72 i) ?_
        refine lv_iload_n hx hb dM_leaving_14 rfl (lv_at hl 1 rfl) ?_
        refine lv_iadd hx hb dM_leaving_15 ?_
        refine lc_i (y := nI (72 * i + c9)) (nI_add (72 * i) c9) ?_
        refine lv_istore (lv' := [(4, .int (nI (72 * i + c9))), (0, .ref h0), (1, .int (nI c9)), (2, .int (fdI fd)), (3, .int (nI i))]) hx hb dM_leaving_16 hl (by decide) rfl (fun ls hl => ?_)
        refine lv_aload_n hx hb dM_leaving_18 rfl (lv_at hl 1 rfl) ?_
        refine va_get (D := D) (cl := rcl) (ci := 8) (v := .ref z_over) (C := NM) (T := TM) (N := 30) hx hb hts (fun w h => gw_t w (uwM w h)) hown hK hP 0 rfl rfl 26 (by decide) (hts _ (gw_t _ hw656)) (fun _ h9 => h9) rfl dM_leaving_19 ?_
        refine lv_iload hx hb dM_leaving_22 (lv_at hl 0 rfl) ?_
        refine ra_l (k := 72 * i + c9) hx hb hK hP 17 1 rfl rfl (by omega) (by omega) dM_leaving_24 ?_
        refine lc_l (y := Int64.ofInt (tb (72 * i + c9)).num) (rfl) ?_
        refine lv_lconst (v := 0) hx hb dM_leaving_25 (by decide) ?_
        refine W.lcmp hx hb dM_leaving_26 ?_
        refine lv_if_le (tgt := 203) hx hb dM_leaving_27 (by decide) (fun c27 => ?_) (fun c27 => ?_)
        · have c27 := (lg_cmp_le (Int64.ofInt (tb (72 * i + c9)).num) 0).mp c27
          have w27 := i64_np (st_n (h3 _ (by omega))) c27
          refine lv_iinc (v := nI (i + 1)) (lv' := [(3, .int (nI (i + 1))), (4, .int (nI (72 * i + c9))), (0, .ref h0), (1, .int (nI c9)), (2, .int (fdI fd))]) hx hb dM_leaving_203 hl (k := 4) rfl (nI_add i 1) (by decide) rfl (fun ls hl => ?_)
          refine lv_goto (tgt := 4) hx hb dM_leaving_206 (by decide) ?_
          exact ihLP4 (i + 1) fd ls (by omega) (by omega) (fun b h => by have := hfd b h; omega) (by rw [hf, show 7 - i = (7 - (i + 1)) + 1 by omega]; simp only [lvF]; rw [if_neg w27]) (lv_sub hl [2, 3, 4, 0] rfl)
        · have c27 := mt (lg_cmp_le (Int64.ofInt (tb (72 * i + c9)).num) 0).mpr c27
          have w27 := i64_ps (st_n (h3 _ (by omega))) (Int64.not_le.mp c27)
          refine lv_iload_n hx hb dM_leaving_30 rfl (lv_at hl 3 rfl) ?_
          refine lv_if_ge (tgt := 38) hx hb dM_leaving_31 (by decide) (fun c31 => ?_) (fun c31 => ?_)
          · obtain ⟨f, rfl⟩ := fd_some c31
            have hfi := hfd f rfl
            refine lv_iconst (v := 0) hx hb dM_leaving_38 (by decide) ?_
            refine lv_istore (lv' := [(5, .int 0), (4, .int (nI (72 * i + c9))), (0, .ref h0), (1, .int (nI c9)), (2, .int (nI f)), (3, .int (nI i))]) hx hb dM_leaving_39 hl (by decide) rfl (fun ls hl => ?_)
            refine lv_iload hx hb dM_leaving_41 (lv_at hl 0 rfl) ?_
            refine lv_if_ne (tgt := 192) hx hb dM_leaving_43 (by decide) (fun c43 => ?_) (fun c43 => ?_)
            · exact absurd rfl c43
            · refine lv_aload_n hx hb dM_leaving_46 rfl (lv_at hl 2 rfl) ?_
              refine va_get (D := D) (cl := rcl) (ci := 8) (v := .ref z_over) (C := NM) (T := TM) (N := 30) hx hb hts (fun w h => gw_t w (uwM w h)) hown hK hP 0 rfl rfl 26 (by decide) (hts _ (gw_t _ hw656)) (fun _ h9 => h9) rfl dM_leaving_47 ?_
              refine lv_bipush (v := 72) hx hb dM_leaving_50 (by decide) ?_
              refine lv_iload_n hx hb dM_leaving_52 rfl (lv_at hl 5 rfl) ?_
              refine lv_imul hx hb dM_leaving_53 ?_
              refine lc_i (y := nI (72 * i)) (pk_mul 72 i) ?_
              refine lv_bipush (v := 71) hx hb dM_leaving_54 (by decide) ?_
              refine lv_iadd hx hb dM_leaving_56 ?_
              refine lc_i (y := nI (72 * i + 71)) (nI_add (72 * i) 71) ?_
              refine ra_l (k := 72 * i + 71) hx hb hK hP 17 1 rfl rfl (by omega) (by omega) dM_leaving_57 ?_
              refine lc_l (y := Int64.ofInt (tb (72 * i + 71)).num) (rfl) ?_
              refine lv_aload_n hx hb dM_leaving_58 rfl (lv_at hl 2 rfl) ?_
              refine va_get (D := D) (cl := rcl) (ci := 8) (v := .ref z_under) (C := NM) (T := TM) (N := 30) hx hb hts (fun w h => gw_t w (uwM w h)) hown hK hP 0 rfl rfl 27 (by decide) (hts _ (gw_t _ hw657)) (fun _ h9 => h9) rfl dM_leaving_59 ?_
              refine lv_iload hx hb dM_leaving_62 (lv_at hl 1 rfl) ?_
              refine ra_l (k := 72 * i + c9) hx hb hK hP 18 1 rfl rfl (by omega) (by omega) dM_leaving_64 ?_
              refine lc_l (y := lN (tb (72 * i + c9)).den) (rfl) ?_
              refine lv_lmul hx hb dM_leaving_65 ?_
              refine lc_l (y := Int64.ofInt ((tb (72 * i + 71)).num * (tb (72 * i + c9)).den)) (by rw [Int64.ofInt_mul, i64_nat]) ?_
              refine lv_lstore (lv' := [(6, .long (Int64.ofInt ((tb (72 * i + 71)).num * (tb (72 * i + c9)).den))), (5, .int 0), (4, .int (nI (72 * i + c9))), (0, .ref h0), (1, .int (nI c9)), (2, .int (nI f)), (3, .int (nI i))]) hx hb dM_leaving_66 hl (by decide) rfl (fun ls hl => ?_)
              refine lv_aload_n hx hb dM_leaving_68 rfl (lv_at hl 3 rfl) ?_
              refine va_get (D := D) (cl := rcl) (ci := 8) (v := .ref z_under) (C := NM) (T := TM) (N := 30) hx hb hts (fun w h => gw_t w (uwM w h)) hown hK hP 0 rfl rfl 27 (by decide) (hts _ (gw_t _ hw657)) (fun _ h9 => h9) rfl dM_leaving_69 ?_
              refine lv_bipush (v := 72) hx hb dM_leaving_72 (by decide) ?_
              refine lv_iload_n hx hb dM_leaving_74 rfl (lv_at hl 6 rfl) ?_
              refine lv_imul hx hb dM_leaving_75 ?_
              refine lc_i (y := nI (72 * i)) (pk_mul 72 i) ?_
              refine lv_bipush (v := 71) hx hb dM_leaving_76 (by decide) ?_
              refine lv_iadd hx hb dM_leaving_78 ?_
              refine lc_i (y := nI (72 * i + 71)) (nI_add (72 * i) 71) ?_
              refine ra_l (k := 72 * i + 71) hx hb hK hP 18 1 rfl rfl (by omega) (by omega) dM_leaving_79 ?_
              refine lc_l (y := lN (tb (72 * i + 71)).den) (rfl) ?_
              refine lv_aload_n hx hb dM_leaving_80 rfl (lv_at hl 3 rfl) ?_
              refine va_get (D := D) (cl := rcl) (ci := 8) (v := .ref z_over) (C := NM) (T := TM) (N := 30) hx hb hts (fun w h => gw_t w (uwM w h)) hown hK hP 0 rfl rfl 26 (by decide) (hts _ (gw_t _ hw656)) (fun _ h9 => h9) rfl dM_leaving_81 ?_
              refine lv_iload hx hb dM_leaving_84 (lv_at hl 2 rfl) ?_
              refine ra_l (k := 72 * i + c9) hx hb hK hP 17 1 rfl rfl (by omega) (by omega) dM_leaving_86 ?_
              refine lc_l (y := Int64.ofInt (tb (72 * i + c9)).num) (rfl) ?_
              refine lv_lmul hx hb dM_leaving_87 ?_
              refine lc_l (y := Int64.ofInt ((tb (72 * i + 71)).den * (tb (72 * i + c9)).num)) (by rw [Int64.ofInt_mul, i64_nat]) ?_
              refine lv_lstore (lv' := [(8, .long (Int64.ofInt ((tb (72 * i + 71)).den * (tb (72 * i + c9)).num))), (6, .long (Int64.ofInt ((tb (72 * i + 71)).num * (tb (72 * i + c9)).den))), (5, .int 0), (4, .int (nI (72 * i + c9))), (0, .ref h0), (1, .int (nI c9)), (2, .int (nI f)), (3, .int (nI i))]) hx hb dM_leaving_88 hl (by decide) rfl (fun ls hl => ?_)
              refine lv_aload_n hx hb dM_leaving_90 rfl (lv_at hl 4 rfl) ?_
              refine va_get (D := D) (cl := rcl) (ci := 8) (v := .ref z_over) (C := NM) (T := TM) (N := 30) hx hb hts (fun w h => gw_t w (uwM w h)) hown hK hP 0 rfl rfl 26 (by decide) (hts _ (gw_t _ hw656)) (fun _ h9 => h9) rfl dM_leaving_91 ?_
              refine lv_bipush (v := 72) hx hb dM_leaving_94 (by decide) ?_
              refine lv_iload_n hx hb dM_leaving_96 rfl (lv_at hl 6 rfl) ?_
              refine lv_imul hx hb dM_leaving_97 ?_
              refine lc_i (y := nI (72 * f)) (pk_mul 72 f) ?_
              refine lv_bipush (v := 71) hx hb dM_leaving_98 (by decide) ?_
              refine lv_iadd hx hb dM_leaving_100 ?_
              refine lc_i (y := nI (72 * f + 71)) (nI_add (72 * f) 71) ?_
              refine ra_l (k := 72 * f + 71) hx hb hK hP 17 1 rfl rfl (by omega) (by omega) dM_leaving_101 ?_
              refine lc_l (y := Int64.ofInt (tb (72 * f + 71)).num) (rfl) ?_
              refine lv_aload_n hx hb dM_leaving_102 rfl (lv_at hl 4 rfl) ?_
              refine va_get (D := D) (cl := rcl) (ci := 8) (v := .ref z_under) (C := NM) (T := TM) (N := 30) hx hb hts (fun w h => gw_t w (uwM w h)) hown hK hP 0 rfl rfl 27 (by decide) (hts _ (gw_t _ hw657)) (fun _ h9 => h9) rfl dM_leaving_103 ?_
              refine lv_bipush (v := 72) hx hb dM_leaving_106 (by decide) ?_
              refine lv_iload_n hx hb dM_leaving_108 rfl (lv_at hl 6 rfl) ?_
              refine lv_imul hx hb dM_leaving_109 ?_
              refine lc_i (y := nI (72 * f)) (pk_mul 72 f) ?_
              refine lv_iload_n hx hb dM_leaving_110 rfl (lv_at hl 5 rfl) ?_
              refine lv_iadd hx hb dM_leaving_111 ?_
              refine lc_i (y := nI (72 * f + c9)) (nI_add (72 * f) c9) ?_
              refine ra_l (k := 72 * f + c9) hx hb hK hP 18 1 rfl rfl (by omega) (by omega) dM_leaving_112 ?_
              refine lc_l (y := lN (tb (72 * f + c9)).den) (rfl) ?_
              refine lv_lmul hx hb dM_leaving_113 ?_
              refine lc_l (y := Int64.ofInt ((tb (72 * f + 71)).num * (tb (72 * f + c9)).den)) (by rw [Int64.ofInt_mul, i64_nat]) ?_
              refine lv_lstore (lv' := [(10, .long (Int64.ofInt ((tb (72 * f + 71)).num * (tb (72 * f + c9)).den))), (8, .long (Int64.ofInt ((tb (72 * i + 71)).den * (tb (72 * i + c9)).num))), (6, .long (Int64.ofInt ((tb (72 * i + 71)).num * (tb (72 * i + c9)).den))), (5, .int 0), (4, .int (nI (72 * i + c9))), (0, .ref h0), (1, .int (nI c9)), (2, .int (nI f)), (3, .int (nI i))]) hx hb dM_leaving_114 hl (by decide) rfl (fun ls hl => ?_)
              refine lv_aload_n hx hb dM_leaving_116 rfl (lv_at hl 5 rfl) ?_
              refine va_get (D := D) (cl := rcl) (ci := 8) (v := .ref z_under) (C := NM) (T := TM) (N := 30) hx hb hts (fun w h => gw_t w (uwM w h)) hown hK hP 0 rfl rfl 27 (by decide) (hts _ (gw_t _ hw657)) (fun _ h9 => h9) rfl dM_leaving_117 ?_
              refine lv_bipush (v := 72) hx hb dM_leaving_120 (by decide) ?_
              refine lv_iload_n hx hb dM_leaving_122 rfl (lv_at hl 7 rfl) ?_
              refine lv_imul hx hb dM_leaving_123 ?_
              refine lc_i (y := nI (72 * f)) (pk_mul 72 f) ?_
              refine lv_bipush (v := 71) hx hb dM_leaving_124 (by decide) ?_
              refine lv_iadd hx hb dM_leaving_126 ?_
              refine lc_i (y := nI (72 * f + 71)) (nI_add (72 * f) 71) ?_
              refine ra_l (k := 72 * f + 71) hx hb hK hP 18 1 rfl rfl (by omega) (by omega) dM_leaving_127 ?_
              refine lc_l (y := lN (tb (72 * f + 71)).den) (rfl) ?_
              refine lv_aload_n hx hb dM_leaving_128 rfl (lv_at hl 5 rfl) ?_
              refine va_get (D := D) (cl := rcl) (ci := 8) (v := .ref z_over) (C := NM) (T := TM) (N := 30) hx hb hts (fun w h => gw_t w (uwM w h)) hown hK hP 0 rfl rfl 26 (by decide) (hts _ (gw_t _ hw656)) (fun _ h9 => h9) rfl dM_leaving_129 ?_
              refine lv_bipush (v := 72) hx hb dM_leaving_132 (by decide) ?_
              refine lv_iload_n hx hb dM_leaving_134 rfl (lv_at hl 7 rfl) ?_
              refine lv_imul hx hb dM_leaving_135 ?_
              refine lc_i (y := nI (72 * f)) (pk_mul 72 f) ?_
              refine lv_iload_n hx hb dM_leaving_136 rfl (lv_at hl 6 rfl) ?_
              refine lv_iadd hx hb dM_leaving_137 ?_
              refine lc_i (y := nI (72 * f + c9)) (nI_add (72 * f) c9) ?_
              refine ra_l (k := 72 * f + c9) hx hb hK hP 17 1 rfl rfl (by omega) (by omega) dM_leaving_138 ?_
              refine lc_l (y := Int64.ofInt (tb (72 * f + c9)).num) (rfl) ?_
              refine lv_lmul hx hb dM_leaving_139 ?_
              refine lc_l (y := Int64.ofInt ((tb (72 * f + 71)).den * (tb (72 * f + c9)).num)) (by rw [Int64.ofInt_mul, i64_nat]) ?_
              refine lv_lstore (lv' := [(12, .long (Int64.ofInt ((tb (72 * f + 71)).den * (tb (72 * f + c9)).num))), (10, .long (Int64.ofInt ((tb (72 * f + 71)).num * (tb (72 * f + c9)).den))), (8, .long (Int64.ofInt ((tb (72 * i + 71)).den * (tb (72 * i + c9)).num))), (6, .long (Int64.ofInt ((tb (72 * i + 71)).num * (tb (72 * i + c9)).den))), (5, .int 0), (4, .int (nI (72 * i + c9))), (0, .ref h0), (1, .int (nI c9)), (2, .int (nI f)), (3, .int (nI i))]) hx hb dM_leaving_140 hl (by decide) rfl (fun ls hl => ?_)
              refine lv_lload hx hb dM_leaving_142 (lv_at hl 3 rfl) ?_
              refine lv_lload hx hb dM_leaving_144 (lv_at hl 0 rfl) ?_
              refine lv_lmul hx hb dM_leaving_146 ?_
              refine lc_l (y := Int64.ofInt (((tb (72 * i + 71)).num * (tb (72 * i + c9)).den) * ((tb (72 * f + 71)).den * (tb (72 * f + c9)).num))) ((Int64.ofInt_mul _ _).symm) ?_
              refine lv_lload hx hb dM_leaving_147 (lv_at hl 1 rfl) ?_
              refine lv_lload hx hb dM_leaving_149 (lv_at hl 2 rfl) ?_
              refine lv_lmul hx hb dM_leaving_151 ?_
              refine lc_l (y := Int64.ofInt (((tb (72 * f + 71)).num * (tb (72 * f + c9)).den) * ((tb (72 * i + 71)).den * (tb (72 * i + c9)).num))) ((Int64.ofInt_mul _ _).symm) ?_
              refine W.lcmp hx hb dM_leaving_152 ?_
              refine lv_if_lt (tgt := 185) hx hb dM_leaving_153 (by decide) (fun c153 => ?_) (fun c153 => ?_)
              · have c153 := (lg_cmp_lt (Int64.ofInt (((tb (72 * i + 71)).num * (tb (72 * i + c9)).den) * ((tb (72 * f + 71)).den * (tb (72 * f + c9)).num))) (Int64.ofInt (((tb (72 * f + 71)).num * (tb (72 * f + c9)).den) * ((tb (72 * i + 71)).den * (tb (72 * i + c9)).num)))).mp c153
                have w153 := (i64_ltI (st_bd (h3 _ (by omega)) (h3 _ (by omega)) (h3 _ (by omega)) (h3 _ (by omega))) (st_bd (h3 _ (by omega)) (h3 _ (by omega)) (h3 _ (by omega)) (h3 _ (by omega)))).mp c153
                refine lv_iconst (v := 1) hx hb dM_leaving_185 (by decide) ?_
                refine lv_goto (tgt := 190) hx hb dM_leaving_186 (by decide) ?_
                refine lv_istore (lv' := [(5, .int 1), (12, .long (Int64.ofInt ((tb (72 * f + 71)).den * (tb (72 * f + c9)).num))), (10, .long (Int64.ofInt ((tb (72 * f + 71)).num * (tb (72 * f + c9)).den))), (8, .long (Int64.ofInt ((tb (72 * i + 71)).den * (tb (72 * i + c9)).num))), (6, .long (Int64.ofInt ((tb (72 * i + 71)).num * (tb (72 * i + c9)).den))), (4, .int (nI (72 * i + c9))), (0, .ref h0), (1, .int (nI c9)), (2, .int (nI f)), (3, .int (nI i))]) hx hb dM_leaving_190 hl (by decide) rfl (fun ls hl => ?_)
                refine lv_iload hx hb dM_leaving_192 (lv_at hl 0 rfl) ?_
                refine lv_if_eq (tgt := 201) hx hb dM_leaving_194 (by decide) (fun c194 => ?_) (fun c194 => ?_)
                · exact absurd c194 (by decide)
                · refine lv_iload_n hx hb dM_leaving_197 rfl (lv_at hl 9 rfl) ?_
                  refine lv_goto (tgt := 202) hx hb dM_leaving_198 (by decide) ?_
                  refine lv_istore_n (lv' := [(2, .int (nI i)), (5, .int 1), (12, .long (Int64.ofInt ((tb (72 * f + 71)).den * (tb (72 * f + c9)).num))), (10, .long (Int64.ofInt ((tb (72 * f + 71)).num * (tb (72 * f + c9)).den))), (8, .long (Int64.ofInt ((tb (72 * i + 71)).den * (tb (72 * i + c9)).num))), (6, .long (Int64.ofInt ((tb (72 * i + 71)).num * (tb (72 * i + c9)).den))), (4, .int (nI (72 * i + c9))), (0, .ref h0), (1, .int (nI c9)), (3, .int (nI i))]) hx hb dM_leaving_202 rfl hl (by decide) rfl (fun ls hl => ?_)
                  refine lv_iinc (v := nI (i + 1)) (lv' := [(3, .int (nI (i + 1))), (2, .int (nI i)), (5, .int 1), (12, .long (Int64.ofInt ((tb (72 * f + 71)).den * (tb (72 * f + c9)).num))), (10, .long (Int64.ofInt ((tb (72 * f + 71)).num * (tb (72 * f + c9)).den))), (8, .long (Int64.ofInt ((tb (72 * i + 71)).den * (tb (72 * i + c9)).num))), (6, .long (Int64.ofInt ((tb (72 * i + 71)).num * (tb (72 * i + c9)).den))), (4, .int (nI (72 * i + c9))), (0, .ref h0), (1, .int (nI c9))]) hx hb dM_leaving_203 hl (k := 9) rfl (nI_add i 1) (by decide) rfl (fun ls hl => ?_)
                  refine lv_goto (tgt := 4) hx hb dM_leaving_206 (by decide) ?_
                  exact ihLP4 (i + 1) (some i) ls (by omega) (by omega) (fun b h => by cases h; omega) (by rw [hf, show 7 - i = (7 - (i + 1)) + 1 by omega]; simp only [lvF]; rw [if_pos w27, if_pos (Or.inl w153)]) (lv_sub hl [8, 9, 1, 0] rfl)
              · have c153 := mt (lg_cmp_lt (Int64.ofInt (((tb (72 * i + 71)).num * (tb (72 * i + c9)).den) * ((tb (72 * f + 71)).den * (tb (72 * f + c9)).num))) (Int64.ofInt (((tb (72 * f + 71)).num * (tb (72 * f + c9)).den) * ((tb (72 * i + 71)).den * (tb (72 * i + c9)).num)))).mpr c153
                have w153 := mt (i64_ltI (st_bd (h3 _ (by omega)) (h3 _ (by omega)) (h3 _ (by omega)) (h3 _ (by omega))) (st_bd (h3 _ (by omega)) (h3 _ (by omega)) (h3 _ (by omega)) (h3 _ (by omega)))).mpr c153
                refine lv_lload hx hb dM_leaving_156 (lv_at hl 3 rfl) ?_
                refine lv_lload hx hb dM_leaving_158 (lv_at hl 0 rfl) ?_
                refine lv_lmul hx hb dM_leaving_160 ?_
                refine lc_l (y := Int64.ofInt (((tb (72 * i + 71)).num * (tb (72 * i + c9)).den) * ((tb (72 * f + 71)).den * (tb (72 * f + c9)).num))) ((Int64.ofInt_mul _ _).symm) ?_
                refine lv_lload hx hb dM_leaving_161 (lv_at hl 1 rfl) ?_
                refine lv_lload hx hb dM_leaving_163 (lv_at hl 2 rfl) ?_
                refine lv_lmul hx hb dM_leaving_165 ?_
                refine lc_l (y := Int64.ofInt (((tb (72 * f + 71)).num * (tb (72 * f + c9)).den) * ((tb (72 * i + 71)).den * (tb (72 * i + c9)).num))) ((Int64.ofInt_mul _ _).symm) ?_
                refine W.lcmp hx hb dM_leaving_166 ?_
                refine lv_if_ne (tgt := 189) hx hb dM_leaving_167 (by decide) (fun c167 => ?_) (fun c167 => ?_)
                · have c167 := mt (lg_cmp_eq (Int64.ofInt (((tb (72 * i + 71)).num * (tb (72 * i + c9)).den) * ((tb (72 * f + 71)).den * (tb (72 * f + c9)).num))) (Int64.ofInt (((tb (72 * f + 71)).num * (tb (72 * f + c9)).den) * ((tb (72 * i + 71)).den * (tb (72 * i + c9)).num)))).mpr c167
                  have w167 := mt (i64_eqI (st_bd (h3 _ (by omega)) (h3 _ (by omega)) (h3 _ (by omega)) (h3 _ (by omega))) (st_bd (h3 _ (by omega)) (h3 _ (by omega)) (h3 _ (by omega)) (h3 _ (by omega)))).mpr c167
                  refine lv_iconst (v := 0) hx hb dM_leaving_189 (by decide) ?_
                  refine lv_istore (lv' := [(5, .int 0), (12, .long (Int64.ofInt ((tb (72 * f + 71)).den * (tb (72 * f + c9)).num))), (10, .long (Int64.ofInt ((tb (72 * f + 71)).num * (tb (72 * f + c9)).den))), (8, .long (Int64.ofInt ((tb (72 * i + 71)).den * (tb (72 * i + c9)).num))), (6, .long (Int64.ofInt ((tb (72 * i + 71)).num * (tb (72 * i + c9)).den))), (4, .int (nI (72 * i + c9))), (0, .ref h0), (1, .int (nI c9)), (2, .int (nI f)), (3, .int (nI i))]) hx hb dM_leaving_190 hl (by decide) rfl (fun ls hl => ?_)
                  refine lv_iload hx hb dM_leaving_192 (lv_at hl 0 rfl) ?_
                  refine lv_if_eq (tgt := 201) hx hb dM_leaving_194 (by decide) (fun c194 => ?_) (fun c194 => ?_)
                  · refine lv_iload_n hx hb dM_leaving_201 rfl (lv_at hl 8 rfl) ?_
                    refine lv_istore_n (lv' := [(2, .int (nI f)), (5, .int 0), (12, .long (Int64.ofInt ((tb (72 * f + 71)).den * (tb (72 * f + c9)).num))), (10, .long (Int64.ofInt ((tb (72 * f + 71)).num * (tb (72 * f + c9)).den))), (8, .long (Int64.ofInt ((tb (72 * i + 71)).den * (tb (72 * i + c9)).num))), (6, .long (Int64.ofInt ((tb (72 * i + 71)).num * (tb (72 * i + c9)).den))), (4, .int (nI (72 * i + c9))), (0, .ref h0), (1, .int (nI c9)), (3, .int (nI i))]) hx hb dM_leaving_202 rfl hl (by decide) rfl (fun ls hl => ?_)
                    refine lv_iinc (v := nI (i + 1)) (lv' := [(3, .int (nI (i + 1))), (2, .int (nI f)), (5, .int 0), (12, .long (Int64.ofInt ((tb (72 * f + 71)).den * (tb (72 * f + c9)).num))), (10, .long (Int64.ofInt ((tb (72 * f + 71)).num * (tb (72 * f + c9)).den))), (8, .long (Int64.ofInt ((tb (72 * i + 71)).den * (tb (72 * i + c9)).num))), (6, .long (Int64.ofInt ((tb (72 * i + 71)).num * (tb (72 * i + c9)).den))), (4, .int (nI (72 * i + c9))), (0, .ref h0), (1, .int (nI c9))]) hx hb dM_leaving_203 hl (k := 9) rfl (nI_add i 1) (by decide) rfl (fun ls hl => ?_)
                    refine lv_goto (tgt := 4) hx hb dM_leaving_206 (by decide) ?_
                    exact ihLP4 (i + 1) (some f) ls (by omega) (by omega) (fun b h => by have := hfd b h; omega) (by rw [hf, show 7 - i = (7 - (i + 1)) + 1 by omega]; simp only [lvF]; rw [if_pos w27, if_neg (fun q => q.elim w153 (fun z => w167 z.1))]) (lv_sub hl [8, 9, 1, 0] rfl)
                  · exact absurd rfl c194
                · have c167 := (lg_cmp_eq (Int64.ofInt (((tb (72 * i + 71)).num * (tb (72 * i + c9)).den) * ((tb (72 * f + 71)).den * (tb (72 * f + c9)).num))) (Int64.ofInt (((tb (72 * f + 71)).num * (tb (72 * f + c9)).den) * ((tb (72 * i + 71)).den * (tb (72 * i + c9)).num)))).mp c167
                  have w167 := (i64_eqI (st_bd (h3 _ (by omega)) (h3 _ (by omega)) (h3 _ (by omega)) (h3 _ (by omega))) (st_bd (h3 _ (by omega)) (h3 _ (by omega)) (h3 _ (by omega)) (h3 _ (by omega)))).mp c167
                  refine lv_aload_n hx hb dM_leaving_170 rfl (lv_at hl 6 rfl) ?_
                  refine va_get (D := D) (cl := rcl) (ci := 8) (v := .ref z_based) (C := NM) (T := TM) (N := 30) hx hb hts (fun w h => gw_t w (uwM w h)) hown hK hP 0 rfl rfl 28 (by decide) (hts _ (gw_t _ hw658)) (fun _ h9 => h9) rfl dM_leaving_171 ?_
                  refine lv_iload_n hx hb dM_leaving_174 rfl (lv_at hl 9 rfl) ?_
                  refine ra_i (k := i) hx hb hK hP 19 0 rfl rfl (by omega) (by omega) dM_leaving_175 ?_
                  refine lc_i (y := nI (bs i)) ((hbs i (by omega)).2) ?_
                  refine lv_aload_n hx hb dM_leaving_176 rfl (lv_at hl 6 rfl) ?_
                  refine va_get (D := D) (cl := rcl) (ci := 8) (v := .ref z_based) (C := NM) (T := TM) (N := 30) hx hb hts (fun w h => gw_t w (uwM w h)) hown hK hP 0 rfl rfl 28 (by decide) (hts _ (gw_t _ hw658)) (fun _ h9 => h9) rfl dM_leaving_177 ?_
                  refine lv_iload_n hx hb dM_leaving_180 rfl (lv_at hl 8 rfl) ?_
                  refine ra_i (k := f) hx hb hK hP 19 0 rfl rfl (by omega) (by omega) dM_leaving_181 ?_
                  refine lc_i (y := nI (bs f)) ((hbs f (by omega)).2) ?_
                  have hb1 := (hbs i (by omega)).1
                  have hb2 := (hbs f (by omega)).1
                  refine lv_icmp_ge (tgt := 189) hx hb dM_leaving_182 (by decide) (fun c182 => ?_) (fun c182 => ?_)
                  · have c182 : bs f ≤ bs i := (nI_leI (a := bs f) (b := bs i) (by omega) (by omega)).mp c182
                    refine lv_iconst (v := 0) hx hb dM_leaving_189 (by decide) ?_
                    refine lv_istore (lv' := [(5, .int 0), (12, .long (Int64.ofInt ((tb (72 * f + 71)).den * (tb (72 * f + c9)).num))), (10, .long (Int64.ofInt ((tb (72 * f + 71)).num * (tb (72 * f + c9)).den))), (8, .long (Int64.ofInt ((tb (72 * i + 71)).den * (tb (72 * i + c9)).num))), (6, .long (Int64.ofInt ((tb (72 * i + 71)).num * (tb (72 * i + c9)).den))), (4, .int (nI (72 * i + c9))), (0, .ref h0), (1, .int (nI c9)), (2, .int (nI f)), (3, .int (nI i))]) hx hb dM_leaving_190 hl (by decide) rfl (fun ls hl => ?_)
                    refine lv_iload hx hb dM_leaving_192 (lv_at hl 0 rfl) ?_
                    refine lv_if_eq (tgt := 201) hx hb dM_leaving_194 (by decide) (fun c194 => ?_) (fun c194 => ?_)
                    · refine lv_iload_n hx hb dM_leaving_201 rfl (lv_at hl 8 rfl) ?_
                      refine lv_istore_n (lv' := [(2, .int (nI f)), (5, .int 0), (12, .long (Int64.ofInt ((tb (72 * f + 71)).den * (tb (72 * f + c9)).num))), (10, .long (Int64.ofInt ((tb (72 * f + 71)).num * (tb (72 * f + c9)).den))), (8, .long (Int64.ofInt ((tb (72 * i + 71)).den * (tb (72 * i + c9)).num))), (6, .long (Int64.ofInt ((tb (72 * i + 71)).num * (tb (72 * i + c9)).den))), (4, .int (nI (72 * i + c9))), (0, .ref h0), (1, .int (nI c9)), (3, .int (nI i))]) hx hb dM_leaving_202 rfl hl (by decide) rfl (fun ls hl => ?_)
                      refine lv_iinc (v := nI (i + 1)) (lv' := [(3, .int (nI (i + 1))), (2, .int (nI f)), (5, .int 0), (12, .long (Int64.ofInt ((tb (72 * f + 71)).den * (tb (72 * f + c9)).num))), (10, .long (Int64.ofInt ((tb (72 * f + 71)).num * (tb (72 * f + c9)).den))), (8, .long (Int64.ofInt ((tb (72 * i + 71)).den * (tb (72 * i + c9)).num))), (6, .long (Int64.ofInt ((tb (72 * i + 71)).num * (tb (72 * i + c9)).den))), (4, .int (nI (72 * i + c9))), (0, .ref h0), (1, .int (nI c9))]) hx hb dM_leaving_203 hl (k := 9) rfl (nI_add i 1) (by decide) rfl (fun ls hl => ?_)
                      refine lv_goto (tgt := 4) hx hb dM_leaving_206 (by decide) ?_
                      exact ihLP4 (i + 1) (some f) ls (by omega) (by omega) (fun b h => by have := hfd b h; omega) (by rw [hf, show 7 - i = (7 - (i + 1)) + 1 by omega]; simp only [lvF]; rw [if_pos w27, if_neg (fun q => q.elim w153 (fun z => by omega))]) (lv_sub hl [8, 9, 1, 0] rfl)
                    · exact absurd rfl c194
                  · have c182 : ¬ bs f ≤ bs i := mt (nI_leI (a := bs f) (b := bs i) (by omega) (by omega)).mpr c182
                    refine lv_iconst (v := 1) hx hb dM_leaving_185 (by decide) ?_
                    refine lv_goto (tgt := 190) hx hb dM_leaving_186 (by decide) ?_
                    refine lv_istore (lv' := [(5, .int 1), (12, .long (Int64.ofInt ((tb (72 * f + 71)).den * (tb (72 * f + c9)).num))), (10, .long (Int64.ofInt ((tb (72 * f + 71)).num * (tb (72 * f + c9)).den))), (8, .long (Int64.ofInt ((tb (72 * i + 71)).den * (tb (72 * i + c9)).num))), (6, .long (Int64.ofInt ((tb (72 * i + 71)).num * (tb (72 * i + c9)).den))), (4, .int (nI (72 * i + c9))), (0, .ref h0), (1, .int (nI c9)), (2, .int (nI f)), (3, .int (nI i))]) hx hb dM_leaving_190 hl (by decide) rfl (fun ls hl => ?_)
                    refine lv_iload hx hb dM_leaving_192 (lv_at hl 0 rfl) ?_
                    refine lv_if_eq (tgt := 201) hx hb dM_leaving_194 (by decide) (fun c194 => ?_) (fun c194 => ?_)
                    · exact absurd c194 (by decide)
                    · refine lv_iload_n hx hb dM_leaving_197 rfl (lv_at hl 9 rfl) ?_
                      refine lv_goto (tgt := 202) hx hb dM_leaving_198 (by decide) ?_
                      refine lv_istore_n (lv' := [(2, .int (nI i)), (5, .int 1), (12, .long (Int64.ofInt ((tb (72 * f + 71)).den * (tb (72 * f + c9)).num))), (10, .long (Int64.ofInt ((tb (72 * f + 71)).num * (tb (72 * f + c9)).den))), (8, .long (Int64.ofInt ((tb (72 * i + 71)).den * (tb (72 * i + c9)).num))), (6, .long (Int64.ofInt ((tb (72 * i + 71)).num * (tb (72 * i + c9)).den))), (4, .int (nI (72 * i + c9))), (0, .ref h0), (1, .int (nI c9)), (3, .int (nI i))]) hx hb dM_leaving_202 rfl hl (by decide) rfl (fun ls hl => ?_)
                      refine lv_iinc (v := nI (i + 1)) (lv' := [(3, .int (nI (i + 1))), (2, .int (nI i)), (5, .int 1), (12, .long (Int64.ofInt ((tb (72 * f + 71)).den * (tb (72 * f + c9)).num))), (10, .long (Int64.ofInt ((tb (72 * f + 71)).num * (tb (72 * f + c9)).den))), (8, .long (Int64.ofInt ((tb (72 * i + 71)).den * (tb (72 * i + c9)).num))), (6, .long (Int64.ofInt ((tb (72 * i + 71)).num * (tb (72 * i + c9)).den))), (4, .int (nI (72 * i + c9))), (0, .ref h0), (1, .int (nI c9))]) hx hb dM_leaving_203 hl (k := 9) rfl (nI_add i 1) (by decide) rfl (fun ls hl => ?_)
                      refine lv_goto (tgt := 4) hx hb dM_leaving_206 (by decide) ?_
                      exact ihLP4 (i + 1) (some i) ls (by omega) (by omega) (fun b h => by cases h; omega) (by rw [hf, show 7 - i = (7 - (i + 1)) + 1 by omega]; simp only [lvF]; rw [if_pos w27, if_pos (Or.inr ⟨w167, by omega⟩)]) (lv_sub hl [8, 9, 1, 0] rfl)
          · have hfn : fd = none := (fd_none c31).elim id (fun ⟨f, e, q⟩ => absurd (nI_pos' (by have := hfd f e; omega)) q)
            subst hfn
            refine lv_iconst (v := 1) hx hb dM_leaving_34 (by decide) ?_
            refine lv_goto (tgt := 39) hx hb dM_leaving_35 (by decide) ?_
            refine lv_istore (lv' := [(5, .int 1), (4, .int (nI (72 * i + c9))), (0, .ref h0), (1, .int (nI c9)), (2, .int (fdI none)), (3, .int (nI i))]) hx hb dM_leaving_39 hl (by decide) rfl (fun ls hl => ?_)
            refine lv_iload hx hb dM_leaving_41 (lv_at hl 0 rfl) ?_
            refine lv_if_ne (tgt := 192) hx hb dM_leaving_43 (by decide) (fun c43 => ?_) (fun c43 => ?_)
            · refine lv_iload hx hb dM_leaving_192 (lv_at hl 0 rfl) ?_
              refine lv_if_eq (tgt := 201) hx hb dM_leaving_194 (by decide) (fun c194 => ?_) (fun c194 => ?_)
              · exact absurd c194 (by decide)
              · refine lv_iload_n hx hb dM_leaving_197 rfl (lv_at hl 5 rfl) ?_
                refine lv_goto (tgt := 202) hx hb dM_leaving_198 (by decide) ?_
                refine lv_istore_n (lv' := [(2, .int (nI i)), (5, .int 1), (4, .int (nI (72 * i + c9))), (0, .ref h0), (1, .int (nI c9)), (3, .int (nI i))]) hx hb dM_leaving_202 rfl hl (by decide) rfl (fun ls hl => ?_)
                refine lv_iinc (v := nI (i + 1)) (lv' := [(3, .int (nI (i + 1))), (2, .int (nI i)), (5, .int 1), (4, .int (nI (72 * i + c9))), (0, .ref h0), (1, .int (nI c9))]) hx hb dM_leaving_203 hl (k := 5) rfl (nI_add i 1) (by decide) rfl (fun ls hl => ?_)
                refine lv_goto (tgt := 4) hx hb dM_leaving_206 (by decide) ?_
                exact ihLP4 (i + 1) (some i) ls (by omega) (by omega) (fun b h => by cases h; omega) (by rw [hf, show 7 - i = (7 - (i + 1)) + 1 by omega]; simp only [lvF]; rw [if_pos w27]) (lv_sub hl [4, 5, 1, 0] rfl)
            · exact absurd c43 (by decide)
  refine lv_iconst (v := -1) hx hb dM_leaving_0 (by decide) ?_
  refine lv_istore_n (lv' := [(2, .int (-1)), (0, .ref h0), (1, .int (nI c9))]) hx hb dM_leaving_1 rfl hl (by decide) rfl (fun ls hl => ?_)
  refine lv_iconst (v := 0) hx hb dM_leaving_2 (by decide) ?_
  refine lv_istore_n (lv' := [(3, .int 0), (2, .int (-1)), (0, .ref h0), (1, .int (nI c9))]) hx hb dM_leaving_3 rfl hl (by decide) rfl (fun ls hl => ?_)
  exact LP4 _ 0 none ls (Nat.lt_succ_self _) (by omega) (fun b h => by cases h) rfl (lv_sub hl [2, 3, 1, 0] rfl)
