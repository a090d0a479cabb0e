/-! FractionRow: the greatest divisor, put -/
/-- Euclid's steps, as both sides take them -/
def gdF : Nat → Int64 → Int64 → Int64
  | 0, a, _ => a
  | f + 1, a, b => if b = 0 then a else gdF f b (a - a / b * b)
def absL (a : Int64) : Int64 := if 0 ≤ a then a else -a
def fdv (top bot : Int64) : Int64 := if 0 < bot then gdF 128 (if 0 ≤ top then top else -top) bot else 0
def fdT (top bot : Int64) : Int64 := if fdv top bot ≤ 0 then 0 else top / fdv top bot
def fdB (top bot : Int64) : Int64 := if fdv top bot ≤ 0 then 0 else bot / fdv top bot
set_option maxHeartbeats 4000000 in
set_option maxRecDepth 100000 in
theorem cF_greatestDivisor (l : Launch) (a : Int64) (b : Int64) : Met l yF_greatestDivisor wF_greatestDivisor (rmL 0 0 0) (va_Pc [.long a, .long b] (fun U => True)) (vp_Sl (fun r : Int64 => r = gdF 128 a b)) 0 0 (fun _ => False) := by
  refine Met.ofW (cc := bF_greatestDivisor) (maxL := 11) (ret := (some .long)) (by decide) rfl ?_
  intro p e s m args below meth c s₁ B hml hv
  obtain ⟨rfl, hv⟩ := hv
  have hx := B.exec
  have hb := B.bytes
  have hr := B.returns
  have hts := atoms_spec (ws := wF_greatestDivisor) B.pre
  have hown : s.vm.findClass NF = some m.cls := findClass_of_methodNamed B.named
  have hlocks := B.notSynchronized
  have hl := lv_entry ([.long a, .long b]) (n := 11) (Nat.le_of_ble_eq_true rfl)
  rw [lg_entry_eq]
  generalize (lg_sl ([.long a, .long b]) ++ List.replicate (11 - (lg_sl ([.long a, .long b])).length) Slot.unset).toArray = ls at hl ⊢
  have hl : lv_has ls 11 [(0, .long a), (2, .long b)] := hl
  have LP9 : ∀ (dd : Nat) (ii : Nat) (x : Int64) (y : Int64) (ls : Array Slot), 128 - ii < dd → (ii ≤ 128) → (gdF 128 a b = gdF (128 - ii) x y) → lv_has ls 11 [(0, .long a), (2, .long b), (4, .long x), (6, .long y), (8, .int (nI ii))] → W p l e (headSpec wF_greatestDivisor (rmL 0 0 0)).room s m ([.long a, .long b] : List Value).toArray below meth c s.heap [] 0 0 (MQ below (vp_Sl (fun r : Int64 => r = gdF 128 a b)) ([.long a, .long b] : List Value).toArray s 0 0 (fun _ => False)) (F0 m 9 ls []) := by
    intro dd
    induction dd with
    | zero =>
      intro ii x y ls hm
      exact absurd hm (Nat.not_lt_zero _)
    | succ dd ih =>
      intro ii x y ls hm hi hf hl
      refine lv_iload hx hb dF_greatestDivisor_9 (lv_at hl 4 rfl) ?_
      refine lv_sipush (v := 128) hx hb dF_greatestDivisor_11 (by decide) ?_
      refine lv_icmp_ge (tgt := 45) hx hb dF_greatestDivisor_14 (by decide) (fun c14 => ?_) (fun c14 => ?_)
      · have c14 : 128 ≤ ii := (nI_leI (a := 128) (b := ii) (by omega) (by omega)).mp c14
        refine lv_lload hx hb dF_greatestDivisor_45 (lv_at hl 2 rfl) ?_
        exact W.lret (v := x) hx hb hr (fun t ht9 hW9 => ⟨_, rfl, by rw [hf]; rw [show 128 - ii = 0 by omega]; rfl, ht9⟩) t_nil dF_greatestDivisor_47
      · have c14 : ¬ 128 ≤ ii := mt (nI_leI (a := 128) (b := ii) (by omega) (by omega)).mpr c14
        refine lv_lload hx hb dF_greatestDivisor_17 (lv_at hl 3 rfl) ?_
        refine lv_lconst (v := 0) hx hb dF_greatestDivisor_19 (by decide) ?_
        refine W.lcmp hx hb dF_greatestDivisor_20 ?_
        refine lv_if_eq (tgt := 45) hx hb dF_greatestDivisor_21 (by decide) (fun c21 => ?_) (fun c21 => ?_)
        · have c21 := (lg_cmp_eq y 0).mp c21
          refine lv_lload hx hb dF_greatestDivisor_45 (lv_at hl 2 rfl) ?_
          exact W.lret (v := x) hx hb hr (fun t ht9 hW9 => ⟨_, rfl, by rw [hf]; rw [show 128 - ii = (128 - (ii + 1)) + 1 by omega]; simp only [gdF]; rw [if_pos c21], ht9⟩) t_nil dF_greatestDivisor_47
        · have c21 := mt (lg_cmp_eq y 0).mpr c21
          refine lv_lload hx hb dF_greatestDivisor_24 (lv_at hl 2 rfl) ?_
          refine lv_lload hx hb dF_greatestDivisor_26 (lv_at hl 3 rfl) ?_
          refine lv_lrem hx hb dF_greatestDivisor_28 (c21) ?_
          refine lv_topl (fun v1 ev1 => ?_)
          refine lv_lstore (lv' := [(9, .long v1), (0, .long a), (2, .long b), (4, .long x), (6, .long y), (8, .int (nI ii))]) hx hb dF_greatestDivisor_29 hl (by decide) rfl (fun ls hl => ?_)
          refine lv_lload hx hb dF_greatestDivisor_31 (lv_at hl 4 rfl) ?_
          refine lv_lstore (lv' := [(4, .long y), (9, .long v1), (0, .long a), (2, .long b), (6, .long y), (8, .int (nI ii))]) hx hb dF_greatestDivisor_33 hl (by decide) rfl (fun ls hl => ?_)
          refine lv_lload hx hb dF_greatestDivisor_35 (lv_at hl 1 rfl) ?_
          refine lv_lstore (lv' := [(6, .long v1), (4, .long y), (9, .long v1), (0, .long a), (2, .long b), (8, .int (nI ii))]) hx hb dF_greatestDivisor_37 hl (by decide) rfl (fun ls hl => ?_)
          refine lv_iinc (v := nI (ii + 1)) (lv' := [(8, .int (nI (ii + 1))), (6, .long v1), (4, .long y), (9, .long v1), (0, .long a), (2, .long b)]) hx hb dF_greatestDivisor_39 hl (k := 5) rfl (nI_add ii 1) (by decide) rfl (fun ls hl => ?_)
          refine lv_goto (tgt := 9) hx hb dF_greatestDivisor_42 (by decide) ?_
          exact ih (ii + 1) y v1 ls (by omega) (by omega) (by rw [hf, show 128 - ii = (128 - (ii + 1)) + 1 by omega]; simp only [gdF]; rw [if_neg c21, ev1]) (lv_sub hl [4, 5, 2, 1, 0] rfl)
  refine lv_lload_n hx hb dF_greatestDivisor_0 rfl (lv_at hl 0 rfl) ?_
  refine lv_lstore (lv' := [(4, .long a), (0, .long a), (2, .long b)]) hx hb dF_greatestDivisor_1 hl (by decide) rfl (fun ls hl => ?_)
  refine lv_lload_n hx hb dF_greatestDivisor_3 rfl (lv_at hl 2 rfl) ?_
  refine lv_lstore (lv' := [(6, .long b), (4, .long a), (0, .long a), (2, .long b)]) hx hb dF_greatestDivisor_4 hl (by decide) rfl (fun ls hl => ?_)
  refine lv_iconst (v := 0) hx hb dF_greatestDivisor_6 (by decide) ?_
  refine lv_istore (lv' := [(8, .int 0), (6, .long b), (4, .long a), (0, .long a), (2, .long b)]) hx hb dF_greatestDivisor_7 hl (by decide) rfl (fun ls hl => ?_)
  exact LP9 _ 0 a b ls (Nat.lt_succ_self _) (by omega) rfl (lv_sub hl [3, 4, 2, 1, 0] rfl)

set_option maxHeartbeats 4000000 in
set_option maxRecDepth 100000 in
theorem cJM_abs (l : Launch) (a : Int64) : Met l yJM_abs wJM_abs (rmL 0 0 0) (va_Pc [.long a] (fun U => True)) (vp_Sl (fun r : Int64 => r = if 0 ≤ a then a else -a)) 0 0 (fun _ => False) := by
  refine va_MetF (cc := bJM_abs) (maxL := 2) (ret := (some .long)) (by decide +kernel) rfl ?_
  intro p e s m args below meth c s₁ B hml hv
  obtain ⟨rfl, hv⟩ := hv
  have hx := B.exec
  have hb := B.bytes
  have hr := B.returns
  have hts := atoms_spec (ws := wJM_abs) B.pre
  have hown : s.vm.findClass NJM = some m.cls := findClass_of_methodNamed B.named
  have hlocks := B.notSynchronized
  have hl := lv_entry ([.long a]) (n := 2) (Nat.le_of_ble_eq_true rfl)
  rw [lg_entry_eq]
  generalize (lg_sl ([.long a]) ++ List.replicate (2 - (lg_sl ([.long a])).length) Slot.unset).toArray = ls at hl ⊢
  have hl : lv_has ls 2 [(0, .long a)] := hl
  refine lv_lload_n hx hb dJM_abs_0 rfl (lv_at hl 0 rfl) ?_
  refine lv_lconst (v := 0) hx hb dJM_abs_1 (by decide) ?_
  refine W.lcmp hx hb dJM_abs_2 ?_
  refine lv_if_ge (tgt := 11) hx hb dJM_abs_3 (by decide) (fun c3 => ?_) (fun c3 => ?_)
  · have c3 := (lg_cmp_ge a 0).mp c3
    refine lv_lload_n hx hb dJM_abs_11 rfl (lv_at hl 0 rfl) ?_
    exact W.lret (v := a) hx hb hr (fun t ht9 hW9 => ⟨_, rfl, by rw [if_pos c3], ht9⟩) t_nil dJM_abs_12
  · have c3 := mt (lg_cmp_ge a 0).mpr c3
    refine lv_lload_n hx hb dJM_abs_6 rfl (lv_at hl 0 rfl) ?_
    refine lv_lneg hx hb dJM_abs_7 ?_
    refine lv_goto (tgt := 12) hx hb dJM_abs_8 (by decide) ?_
    exact W.lret (v := -a) hx hb hr (fun t ht9 hW9 => ⟨_, rfl, by rw [if_neg c3], ht9⟩) t_nil dJM_abs_12

set_option maxHeartbeats 4000000 in
set_option maxRecDepth 100000 in
theorem cF_put (l : Launch) (D : va_G) (kI kJ kZ kG kH : ClassId) (h0 : Nat) (q0 : Nat) (q1 : Nat) (q2 : Nat) (n : Nat) (kn : Nat → Int32) (tp : Nat → Int64) (bt : Nat → Int64) (i : Nat) (top : Int64) (bot : Int64) (hn : n < 2 ^ 31) (hi : i < n) (sz : Nat) : Met l yF_put wF_put (rmL 1 0 0) (va_Pc [.ref h0, .int (nI i), .long top, .long bot] (fun U => U.heap.size = sz ∧ wd D kI kJ kZ kG kH [(h0, .inr (1, [.ref q0, .ref q1, .ref q2])), (q0, .inl (kZ, n, .inl kn)), (q1, .inl (kJ, n, .inr (.inl tp))), (q2, .inl (kJ, n, .inr (.inl bt)))] U ∧ va_D (fun _ => True) [(h0, .inr (1, [.ref q0, .ref q1, .ref q2])), (q0, .inl (kZ, n, .inl kn)), (q1, .inl (kJ, n, .inr (.inl tp))), (q2, .inl (kJ, n, .inr (.inl bt)))])) (va_Qv (fun u : Unit => True) (fun u t => va_P D rcl [(h0, .inr (1, [.ref q0, .ref q1, .ref q2])), (q0, .inl (kZ, n, .inl (upd kn i 1))), (q1, .inl (kJ, n, .inr (.inl (vp_updL tp i (fdT top bot))))), (q2, .inl (kJ, n, .inr (.inl (vp_updL bt i (fdB top bot)))))] t.heap ∧ va_K D rcl (TY kI kJ kZ kG kH) t ∧ va_D (va_A [(h0, .inr (1, [.ref q0, .ref q1, .ref q2])), (q0, .inl (kZ, n, .inl kn)), (q1, .inl (kJ, n, .inr (.inl tp))), (q2, .inl (kJ, n, .inr (.inl bt)))] sz) [(h0, .inr (1, [.ref q0, .ref q1, .ref q2])), (q0, .inl (kZ, n, .inl (upd kn i 1))), (q1, .inl (kJ, n, .inr (.inl (vp_updL tp i (fdT top bot))))), (q2, .inl (kJ, n, .inr (.inl (vp_updL bt i (fdB top bot)))))]) (va_A [(h0, .inr (1, [.ref q0, .ref q1, .ref q2])), (q0, .inl (kZ, n, .inl kn)), (q1, .inl (kJ, n, .inr (.inl tp))), (q2, .inl (kJ, n, .inr (.inl bt)))] sz)) 0 0 (va_A [(h0, .inr (1, [.ref q0, .ref q1, .ref q2])), (q0, .inl (kZ, n, .inl kn)), (q1, .inl (kJ, n, .inr (.inl tp))), (q2, .inl (kJ, n, .inr (.inl bt)))] sz) := by
  refine Met.ofW (cc := bF_put) (maxL := 8) (ret := none) (by decide) rfl ?_
  intro p e s m args below meth c s₁ B hml hv
  obtain ⟨rfl, hsz, ⟨hP, hK, hN⟩, hD0⟩ := hv
  have hx := B.exec
  have hb := B.bytes
  have hr := B.returns
  have hts := atoms_spec (ws := wF_put) B.pre
  have hown : s.vm.findClass NF = some m.cls := findClass_of_methodNamed B.named
  have hlocks := B.notSynchronized
  subst hsz
  have hD := hD0.self (sz := s.heap.size)
  generalize hAe : va_A [(h0, .inr (1, [.ref q0, .ref q1, .ref q2])), (q0, .inl (kZ, n, .inl kn)), (q1, .inl (kJ, n, .inr (.inl tp))), (q2, .inl (kJ, n, .inr (.inl bt)))] s.heap.size = A at hD ⊢
  have hA : ∀ q : Nat, s.heap.size ≤ q → A q := fun q h => by rw [← hAe]; exact Or.inr h
  have hS : va_S A s.heap s.heap [] := va_S.rf
  have hP : va_P D rcl [(h0, .inr (1, [.ref q0, .ref q1, .ref q2])), (q0, .inl (kZ, n, .inl kn)), (q1, .inl (kJ, n, .inr (.inl tp))), (q2, .inl (kJ, n, .inr (.inl bt)))] s.heap := hP
  have hl := lv_entry ([.ref h0, .int (nI i), .long top, .long bot]) (n := 8) (Nat.le_of_ble_eq_true rfl)
  rw [lg_entry_eq]
  generalize (lg_sl ([.ref h0, .int (nI i), .long top, .long bot]) ++ List.replicate (8 - (lg_sl ([.ref h0, .int (nI i), .long top, .long bot])).length) Slot.unset).toArray = ls at hl ⊢
  have hl : lv_has ls 8 [(0, .ref h0), (1, .int (nI i)), (2, .long top), (4, .long bot)] := hl
  refine lv_lload hx hb dF_put_0 (lv_at hl 3 rfl) ?_
  refine lv_lconst (v := 0) hx hb dF_put_2 (by decide) ?_
  refine W.lcmp hx hb dF_put_3 ?_
  refine lv_if_le (tgt := 19) hx hb dF_put_4 (by decide) (fun c4 => ?_) (fun c4 => ?_)
  · have c4 := (lg_cmp_le bot 0).mp c4
    refine lv_lconst (v := 0) hx hb dF_put_19 (by decide) ?_
    refine lv_lstore (lv' := [(6, .long 0), (0, .ref h0), (1, .int (nI i)), (2, .long top), (4, .long bot)]) hx hb dF_put_20 hl (by decide) rfl (fun ls hl => ?_)
    have hdv : fdv top bot = 0 := if_neg (Int64.not_lt.mpr c4)
    refine lv_lload hx hb dF_put_22 (lv_at hl 0 rfl) ?_
    refine lv_lconst (v := 0) hx hb dF_put_24 (by decide) ?_
    refine W.lcmp hx hb dF_put_25 ?_
    refine lv_if_gt (tgt := 35) hx hb dF_put_26 (by decide) (fun c26 => ?_) (fun c26 => ?_)
    · have c26 := (lg_cmp_gt 0 0).mp c26
      exact absurd c26 (fun h => Int64.lt_irrefl h)
    · have c26 := mt (lg_cmp_gt 0 0).mpr c26
      refine lv_aload_n hx hb dF_put_29 rfl (lv_at hl 1 rfl) ?_
      refine lv_iload_n hx hb dF_put_30 rfl (lv_at hl 2 rfl) ?_
      have hPc := hP.sub (ws' := [(h0, .inr (1, [.ref q0, .ref q1, .ref q2])), (q0, .inl (kZ, n, .inl kn)), (q1, .inl (kJ, n, .inr (.inl tp))), (q2, .inl (kJ, n, .inr (.inl bt)))]) [0, 1, 2, 3] rfl
      have hDc := hD.sub (ws' := [(h0, .inr (1, [.ref q0, .ref q1, .ref q2])), (q0, .inl (kZ, n, .inl kn)), (q1, .inl (kJ, n, .inr (.inl tp))), (q2, .inl (kJ, n, .inr (.inl bt)))]) [0, 1, 2, 3] (by decide) rfl
      have hFc := va_free (wc := [(h0, .inr (1, [.ref q0, .ref q1, .ref q2])), (q0, .inl (kZ, n, .inl kn)), (q1, .inl (kJ, n, .inr (.inl tp))), (q2, .inl (kJ, n, .inr (.inl bt)))]) hD hS hA [0, 1, 2, 3] rfl
      refine va_callv (va_runV (C := NF) (As := [.int (nI i)]) (rest := []) ⟨hx, hb, hml, hown, hts⟩ (cF_putNone l D kI kJ kZ kG kH h0 q0 q1 q2 n kn tp bt i hn hi s.heap.size) ⟨cB 1 hts hw406 hw5 hw403 (by decide +kernel) ⟨Nat.le_of_ble_eq_true rfl, Nat.le_of_ble_eq_true rfl⟩ rfl rfl, hts _ (gw_t _ hw404), hts _ (gw_t _ hw405)⟩ ⟨fun a U g mk q => ⟨q.1, q.2.1, q.2.2.1.calling g mk a, q.2.2.2⟩, va_recv hK hPc (ci := 1) (q0 := 0) rfl rfl, fun U hU hW => ⟨rfl, by rw [hU], wd.use hPc hK hN hU hW, hDc.weaken (fun _ _ _ _ => trivial)⟩⟩ rfl rfl hl.1 rfl (lv_room (Nat.le_of_ble_eq_true rfl)) dF_put_31 ⟨Nat.le_of_ble_eq_true rfl, Nat.le_of_ble_eq_true rfl⟩) hS (fun q _ h => hFc q h) hFc (fun u9 t9 H1 locs ht9 hvm9 hr1 hB9 hz9 hk9 hS => ?_)
      obtain ⟨hP1, -, hD1⟩ := hB9
      rw [ht9] at hP1
      obtain ⟨hP, hD⟩ := va_join (wr := []) (w1 := [(h0, .inr (1, [.ref q0, .ref q1, .ref q2])), (q0, .inl (kZ, n, .inl (upd kn i 1))), (q1, .inl (kJ, n, .inr (.inl (vp_updL tp i 0)))), (q2, .inl (kJ, n, .inr (.inl (vp_updL bt i 0))))]) hP hD [0, 1, 2, 3] [] rfl rfl (by decide) (by decide) hk9 hFc hP1 hD1
      generalize H1 = H at hP hS ⊢
      have hP : va_P D rcl [(h0, .inr (1, [.ref q0, .ref q1, .ref q2])), (q0, .inl (kZ, n, .inl (upd kn i 1))), (q1, .inl (kJ, n, .inr (.inl (vp_updL tp i 0)))), (q2, .inl (kJ, n, .inr (.inl (vp_updL bt i 0))))] H := hP
      have hD : va_D A [(h0, .inr (1, [.ref q0, .ref q1, .ref q2])), (q0, .inl (kZ, n, .inl (upd kn i 1))), (q1, .inl (kJ, n, .inr (.inl (vp_updL tp i 0)))), (q2, .inl (kJ, n, .inr (.inl (vp_updL bt i 0))))] := hD
      obtain ⟨hP, hD⟩ := fn_l hP hD 2 rfl (vp_updL tp i (fdT top bot)) (fun j _ => by rw [show fdT top bot = 0 from by unfold fdT; rw [hdv, if_pos (Int64.le_refl _)]])
      have hP : va_P D rcl [(h0, .inr (1, [.ref q0, .ref q1, .ref q2])), (q0, .inl (kZ, n, .inl (upd kn i 1))), (q1, .inl (kJ, n, .inr (.inl (vp_updL tp i (fdT top bot))))), (q2, .inl (kJ, n, .inr (.inl (vp_updL bt i 0))))] H := hP
      have hD : va_D A [(h0, .inr (1, [.ref q0, .ref q1, .ref q2])), (q0, .inl (kZ, n, .inl (upd kn i 1))), (q1, .inl (kJ, n, .inr (.inl (vp_updL tp i (fdT top bot))))), (q2, .inl (kJ, n, .inr (.inl (vp_updL bt i 0))))] := hD
      obtain ⟨hP, hD⟩ := fn_l hP hD 3 rfl (vp_updL bt i (fdB top bot)) (fun j _ => by rw [show fdB top bot = 0 from by unfold fdB; rw [hdv, if_pos (Int64.le_refl _)]])
      have hP : va_P D rcl [(h0, .inr (1, [.ref q0, .ref q1, .ref q2])), (q0, .inl (kZ, n, .inl (upd kn i 1))), (q1, .inl (kJ, n, .inr (.inl (vp_updL tp i (fdT top bot))))), (q2, .inl (kJ, n, .inr (.inl (vp_updL bt i (fdB top bot)))))] H := hP
      have hD : va_D A [(h0, .inr (1, [.ref q0, .ref q1, .ref q2])), (q0, .inl (kZ, n, .inl (upd kn i 1))), (q1, .inl (kJ, n, .inr (.inl (vp_updL tp i (fdT top bot))))), (q2, .inl (kJ, n, .inr (.inl (vp_updL bt i (fdB top bot)))))] := hD
      refine W.widen (k := 0) (n := 0) (by omega) (by omega) ?_
      exact W.vret hx hb hr (fun t ht9 hW9 => ⟨⟨(), rfl, trivial, by rw [ht9]; exact hP, va_K.moved hW9.alike hK, hD⟩, hS.F ht9⟩) hS.2.2 dF_put_34
  · have c4 := mt (lg_cmp_le bot 0).mpr c4
    refine lv_lload_n hx hb dF_put_7 rfl (lv_at hl 2 rfl) ?_
    refine vp_callSl (W.runS (As := [.long top]) (rest := []) ⟨hx, hb, hml, hown, hts⟩ (cJM_abs l top) ⟨cB 1 hts hw399 hw15 hw397 (by decide +kernel) ⟨Nat.le_of_ble_eq_true rfl, Nat.le_of_ble_eq_true rfl⟩ rfl rfl, hts _ (gw_t _ hw398)⟩ ⟨fun a U g mk q => ⟨q.1, trivial⟩, fun U hU hW => ⟨rfl, trivial⟩⟩ rfl rfl hl.1 rfl (lv_room (Nat.le_of_ble_eq_true rfl)) dF_put_8 ⟨Nat.le_of_ble_eq_true rfl, Nat.le_of_ble_eq_true rfl⟩) (fun r8 hr8 => ?_)
    refine lv_lload hx hb dF_put_11 (lv_at hl 3 rfl) ?_
    refine vp_callSl (W.runS (As := [.long r8, .long bot]) (rest := []) ⟨hx, hb, hml, hown, hts⟩ (cF_greatestDivisor l r8 bot) ⟨cB 2 hts hw402 hw5 hw400 (by decide +kernel) ⟨Nat.le_of_ble_eq_true rfl, Nat.le_of_ble_eq_true rfl⟩ rfl rfl, hts _ (gw_t _ hw401)⟩ ⟨fun a U g mk q => ⟨q.1, trivial⟩, fun U hU hW => ⟨rfl, trivial⟩⟩ rfl rfl hl.1 rfl (lv_room (Nat.le_of_ble_eq_true rfl)) dF_put_13 ⟨Nat.le_of_ble_eq_true rfl, Nat.le_of_ble_eq_true rfl⟩) (fun r13 hr13 => ?_)
    refine lv_goto (tgt := 20) hx hb dF_put_16 (by decide) ?_
    refine lv_lstore (lv' := [(6, .long r13), (0, .ref h0), (1, .int (nI i)), (2, .long top), (4, .long bot)]) hx hb dF_put_20 hl (by decide) rfl (fun ls hl => ?_)
    have hdv : fdv top bot = r13 := by rw [hr13, hr8]; exact if_pos (Int64.not_le.mp c4)
    refine lv_lload hx hb dF_put_22 (lv_at hl 0 rfl) ?_
    refine lv_lconst (v := 0) hx hb dF_put_24 (by decide) ?_
    refine W.lcmp hx hb dF_put_25 ?_
    refine lv_if_gt (tgt := 35) hx hb dF_put_26 (by decide) (fun c26 => ?_) (fun c26 => ?_)
    · have c26 := (lg_cmp_gt r13 0).mp c26
      refine lv_aload_n hx hb dF_put_35 rfl (lv_at hl 1 rfl) ?_
      refine va_get (D := D) (cl := rcl) (ci := 1) (v := .ref q0) (C := NF) (T := TF) (N := 3) hx hb hts (fun w h => gw_t w (uwF w h)) hown hK hP 0 rfl rfl 0 (by decide) (hts _ (gw_t _ hw95)) (fun _ h9 => h9) rfl dF_put_36 ?_
      refine lv_iload_n hx hb dF_put_39 rfl (lv_at hl 2 rfl) ?_
      refine lv_iconst (v := 1) hx hb dF_put_40 (by decide) ?_
      refine wa_z (k := i) hx hb hK hP hD hS 1 2 rfl rfl (by decide) (by omega) (by omega) dF_put_41 (fun H locs hP hD hS => ?_)
      have hP : va_P D rcl [(h0, .inr (1, [.ref q0, .ref q1, .ref q2])), (q0, .inl (kZ, n, .inl (upd kn i 1))), (q1, .inl (kJ, n, .inr (.inl tp))), (q2, .inl (kJ, n, .inr (.inl bt)))] H := hP
      have hD : va_D A [(h0, .inr (1, [.ref q0, .ref q1, .ref q2])), (q0, .inl (kZ, n, .inl (upd kn i 1))), (q1, .inl (kJ, n, .inr (.inl tp))), (q2, .inl (kJ, n, .inr (.inl bt)))] := hD
      refine lv_aload_n hx hb dF_put_42 rfl (lv_at hl 1 rfl) ?_
      refine va_get (D := D) (cl := rcl) (ci := 1) (v := .ref q1) (C := NF) (T := TF) (N := 3) hx hb hts (fun w h => gw_t w (uwF w h)) hown hK hP 0 rfl rfl 1 (by decide) (hts _ (gw_t _ hw96)) (fun _ h9 => h9) rfl dF_put_43 ?_
      refine lv_iload_n hx hb dF_put_46 rfl (lv_at hl 2 rfl) ?_
      refine lv_lload_n hx hb dF_put_47 rfl (lv_at hl 3 rfl) ?_
      refine lv_lload hx hb dF_put_48 (lv_at hl 0 rfl) ?_
      refine lv_ldiv hx hb dF_put_50 (fun h => by rw [h] at c26; exact Int64.lt_irrefl c26) ?_
      refine lc_l (y := fdT top bot) (by unfold fdT; rw [hdv, if_neg (Int64.not_le.mpr c26)]) ?_
      refine wa_l (k := i) hx hb hK hP hD hS 2 1 rfl rfl (by omega) (by omega) dF_put_51 (fun H locs hP hD hS => ?_)
      have hP : va_P D rcl [(h0, .inr (1, [.ref q0, .ref q1, .ref q2])), (q0, .inl (kZ, n, .inl (upd kn i 1))), (q1, .inl (kJ, n, .inr (.inl (vp_updL tp i (fdT top bot))))), (q2, .inl (kJ, n, .inr (.inl bt)))] H := hP
      have hD : va_D A [(h0, .inr (1, [.ref q0, .ref q1, .ref q2])), (q0, .inl (kZ, n, .inl (upd kn i 1))), (q1, .inl (kJ, n, .inr (.inl (vp_updL tp i (fdT top bot))))), (q2, .inl (kJ, n, .inr (.inl bt)))] := hD
      refine lv_aload_n hx hb dF_put_52 rfl (lv_at hl 1 rfl) ?_
      refine va_get (D := D) (cl := rcl) (ci := 1) (v := .ref q2) (C := NF) (T := TF) (N := 3) hx hb hts (fun w h => gw_t w (uwF w h)) hown hK hP 0 rfl rfl 2 (by decide) (hts _ (gw_t _ hw97)) (fun _ h9 => h9) rfl dF_put_53 ?_
      refine lv_iload_n hx hb dF_put_56 rfl (lv_at hl 2 rfl) ?_
      refine lv_lload hx hb dF_put_57 (lv_at hl 4 rfl) ?_
      refine lv_lload hx hb dF_put_59 (lv_at hl 0 rfl) ?_
      refine lv_ldiv hx hb dF_put_61 (fun h => by rw [h] at c26; exact Int64.lt_irrefl c26) ?_
      refine lc_l (y := fdB top bot) (by unfold fdB; rw [hdv, if_neg (Int64.not_le.mpr c26)]) ?_
      refine wa_l (k := i) hx hb hK hP hD hS 3 1 rfl rfl (by omega) (by omega) dF_put_62 (fun H locs hP hD hS => ?_)
      have hP : va_P D rcl [(h0, .inr (1, [.ref q0, .ref q1, .ref q2])), (q0, .inl (kZ, n, .inl (upd kn i 1))), (q1, .inl (kJ, n, .inr (.inl (vp_updL tp i (fdT top bot))))), (q2, .inl (kJ, n, .inr (.inl (vp_updL bt i (fdB top bot)))))] H := hP
      have hD : va_D A [(h0, .inr (1, [.ref q0, .ref q1, .ref q2])), (q0, .inl (kZ, n, .inl (upd kn i 1))), (q1, .inl (kJ, n, .inr (.inl (vp_updL tp i (fdT top bot))))), (q2, .inl (kJ, n, .inr (.inl (vp_updL bt i (fdB top bot)))))] := hD
      refine W.widen (k := 0) (n := 0) (by omega) (by omega) ?_
      exact W.vret hx hb hr (fun t ht9 hW9 => ⟨⟨(), rfl, trivial, by rw [ht9]; exact hP, va_K.moved hW9.alike hK, hD⟩, hS.F ht9⟩) hS.2.2 dF_put_63
    · have c26 := mt (lg_cmp_gt r13 0).mpr c26
      refine lv_aload_n hx hb dF_put_29 rfl (lv_at hl 1 rfl) ?_
      refine lv_iload_n hx hb dF_put_30 rfl (lv_at hl 2 rfl) ?_
      have hPc := hP.sub (ws' := [(h0, .inr (1, [.ref q0, .ref q1, .ref q2])), (q0, .inl (kZ, n, .inl kn)), (q1, .inl (kJ, n, .inr (.inl tp))), (q2, .inl (kJ, n, .inr (.inl bt)))]) [0, 1, 2, 3] rfl
      have hDc := hD.sub (ws' := [(h0, .inr (1, [.ref q0, .ref q1, .ref q2])), (q0, .inl (kZ, n, .inl kn)), (q1, .inl (kJ, n, .inr (.inl tp))), (q2, .inl (kJ, n, .inr (.inl bt)))]) [0, 1, 2, 3] (by decide) rfl
      have hFc := va_free (wc := [(h0, .inr (1, [.ref q0, .ref q1, .ref q2])), (q0, .inl (kZ, n, .inl kn)), (q1, .inl (kJ, n, .inr (.inl tp))), (q2, .inl (kJ, n, .inr (.inl bt)))]) hD hS hA [0, 1, 2, 3] rfl
      refine va_callv (va_runV (C := NF) (As := [.int (nI i)]) (rest := []) ⟨hx, hb, hml, hown, hts⟩ (cF_putNone l D kI kJ kZ kG kH h0 q0 q1 q2 n kn tp bt i hn hi s.heap.size) ⟨cB 1 hts hw406 hw5 hw403 (by decide +kernel) ⟨Nat.le_of_ble_eq_true rfl, Nat.le_of_ble_eq_true rfl⟩ rfl rfl, hts _ (gw_t _ hw404), hts _ (gw_t _ hw405)⟩ ⟨fun a U g mk q => ⟨q.1, q.2.1, q.2.2.1.calling g mk a, q.2.2.2⟩, va_recv hK hPc (ci := 1) (q0 := 0) rfl rfl, fun U hU hW => ⟨rfl, by rw [hU], wd.use hPc hK hN hU hW, hDc.weaken (fun _ _ _ _ => trivial)⟩⟩ rfl rfl hl.1 rfl (lv_room (Nat.le_of_ble_eq_true rfl)) dF_put_31 ⟨Nat.le_of_ble_eq_true rfl, Nat.le_of_ble_eq_true rfl⟩) hS (fun q _ h => hFc q h) hFc (fun u9 t9 H1 locs ht9 hvm9 hr2 hB9 hz9 hk9 hS => ?_)
      obtain ⟨hP1, -, hD1⟩ := hB9
      rw [ht9] at hP1
      obtain ⟨hP, hD⟩ := va_join (wr := []) (w1 := [(h0, .inr (1, [.ref q0, .ref q1, .ref q2])), (q0, .inl (kZ, n, .inl (upd kn i 1))), (q1, .inl (kJ, n, .inr (.inl (vp_updL tp i 0)))), (q2, .inl (kJ, n, .inr (.inl (vp_updL bt i 0))))]) hP hD [0, 1, 2, 3] [] rfl rfl (by decide) (by decide) hk9 hFc hP1 hD1
      generalize H1 = H at hP hS ⊢
      have hP : va_P D rcl [(h0, .inr (1, [.ref q0, .ref q1, .ref q2])), (q0, .inl (kZ, n, .inl (upd kn i 1))), (q1, .inl (kJ, n, .inr (.inl (vp_updL tp i 0)))), (q2, .inl (kJ, n, .inr (.inl (vp_updL bt i 0))))] H := hP
      have hD : va_D A [(h0, .inr (1, [.ref q0, .ref q1, .ref q2])), (q0, .inl (kZ, n, .inl (upd kn i 1))), (q1, .inl (kJ, n, .inr (.inl (vp_updL tp i 0)))), (q2, .inl (kJ, n, .inr (.inl (vp_updL bt i 0))))] := hD
      obtain ⟨hP, hD⟩ := fn_l hP hD 2 rfl (vp_updL tp i (fdT top bot)) (fun j _ => by rw [show fdT top bot = 0 from by unfold fdT; rw [hdv, if_pos (Int64.not_lt.mp c26)]])
      have hP : va_P D rcl [(h0, .inr (1, [.ref q0, .ref q1, .ref q2])), (q0, .inl (kZ, n, .inl (upd kn i 1))), (q1, .inl (kJ, n, .inr (.inl (vp_updL tp i (fdT top bot))))), (q2, .inl (kJ, n, .inr (.inl (vp_updL bt i 0))))] H := hP
      have hD : va_D A [(h0, .inr (1, [.ref q0, .ref q1, .ref q2])), (q0, .inl (kZ, n, .inl (upd kn i 1))), (q1, .inl (kJ, n, .inr (.inl (vp_updL tp i (fdT top bot))))), (q2, .inl (kJ, n, .inr (.inl (vp_updL bt i 0))))] := hD
      obtain ⟨hP, hD⟩ := fn_l hP hD 3 rfl (vp_updL bt i (fdB top bot)) (fun j _ => by rw [show fdB top bot = 0 from by unfold fdB; rw [hdv, if_pos (Int64.not_lt.mp c26)]])
      have hP : va_P D rcl [(h0, .inr (1, [.ref q0, .ref q1, .ref q2])), (q0, .inl (kZ, n, .inl (upd kn i 1))), (q1, .inl (kJ, n, .inr (.inl (vp_updL tp i (fdT top bot))))), (q2, .inl (kJ, n, .inr (.inl (vp_updL bt i (fdB top bot)))))] H := hP
      have hD : va_D A [(h0, .inr (1, [.ref q0, .ref q1, .ref q2])), (q0, .inl (kZ, n, .inl (upd kn i 1))), (q1, .inl (kJ, n, .inr (.inl (vp_updL tp i (fdT top bot))))), (q2, .inl (kJ, n, .inr (.inl (vp_updL bt i (fdB top bot)))))] := hD
      refine W.widen (k := 0) (n := 0) (by omega) (by omega) ?_
      exact W.vret hx hb hr (fun t ht9 hW9 => ⟨⟨(), rfl, trivial, by rw [ht9]; exact hP, va_K.moved hW9.alike hK, hD⟩, hS.F ht9⟩) hS.2.2 dF_put_34
