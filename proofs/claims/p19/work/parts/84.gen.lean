/-! the law over a general state -/
section SL
variable {p : Program} {l : Launch} {e : Env} {R : Room} {s : State} {m : MethodId} {args : Array Value} {below : List Frame} {meth : Method} {c : Code} {H : Heap} {locs : List Loc} {cells slots : Nat} {Q : State → Prop}
variable {cc : ByteArray} {pc : Nat} {ls : Array Slot} {rest : List Value} {A : Nat → Prop} {H0 : Heap}
theorem sc_ld (hexec : p.tables.exec = Jvm.exec) (hb : c.code = cc) {b L : Nat} {xs : Nat → Int32} (hX : va_X b L xs s H0) (hbl : b < H0.size) (hbA : ¬ A b) (hS : va_S A H0 H locs) {k : Nat} (hk : k < L) (hL : L < 2 ^ 31) (hdg : decode cc pc = .ok (.iaload, 1))
    (kk : W p l e R s m args below meth c H locs cells slots Q (F0 m (pc + 1) ls (.int (xs k) :: rest))) : W p l e R s m args below meth c H locs cells slots Q (F0 m pc ls (.int (nI k) :: .ref b :: rest)) := by
  refine va_sld hexec hb hX hbl hbA hS (vp_in_nI hk hL) hdg ?_
  rw [nI_clamp (by omega)]
  exact kk
end SL
theorem and31 (x : Int32) : ∃ k, k < 32 ∧ x &&& 31 = nI k := by
  obtain ⟨k, -, h⟩ := and_nI (a := 31) (by decide) x
  refine ⟨31 &&& x.toBitVec.toNat, Nat.lt_of_le_of_lt Nat.and_le_left (by decide), ?_⟩
  rw [Int32.and_comm]
  show nI 31 &&& x = _
  rw [← nn_and]
  congr 1
  apply Int32.toBitVec_inj.mp
  show x.toBitVec = BitVec.ofNat 32 x.toBitVec.toNat
  rw [BitVec.ofNat_toNat, BitVec.setWidth_eq]
theorem sw_out {k : Nat} (h : k < 32) (g : 18 ≤ k) : (17 : Int) < (nI k).toInt := by
  have z : ∀ k, k < 32 → 18 ≤ k → (17 : Int) < (nI k).toInt := by decide +kernel
  exact z k h g
/-- found rounds -/
def OkO (bn cc lc : Nat) (cs re ro od rw : Nat → Nat) : Prop := bn ≤ 6 ∧ cc ≤ 63 ∧ lc < 2 ^ 20 ∧ (∀ j, j < 63 → cs j < 64) ∧ (∀ j, j < 64 → re j < 64) ∧ (∀ j, j < 64 → ro j < 64) ∧ (∀ j, j < 384 → od j < 6) ∧ ∀ j, j < 6 → rw j < 6
/-- spare rounds -/
def OkQ (cs od rw : Nat → Nat) : Prop := (∀ j, j < 63 → cs j < 64) ∧ (∀ j, j < 384 → od j < 6) ∧ ∀ j, j < 6 → rw j < 6
/-- the mixtures -/
def OkX (voc vo2 ga ua : Nat → Int32) (hh ww hh2 ww2 : Nat) : Prop := VO voc ∧ VO vo2 ∧ K01 6 ga ∧ K01 63 ua ∧ hh ≤ 8 ∧ (2 ≤ ww ∧ ww ≤ 65) ∧ hh2 ≤ 8 ∧ (2 ≤ ww2 ∧ ww2 ≤ 65)
/-- the reference -/
def OkM (ve fb fv lo fl ln : Nat) (kn fk rw : Nat → Nat) (C costs lists newLists : Nat → Int32) (fd : Int32) : Prop := ve ≤ 6 ∧ fb ≤ 6 ∧ fv ≤ 6 ∧ lo ≤ 6000 ∧ fl ≤ 6000 ∧ ln ≤ 6 ∧ (∀ j, j < 6 → kn j ≤ 1000) ∧ (∀ j, j < 6 → fk j ≤ 1000) ∧ (∀ j, j < 6 → rw j < 6) ∧ CoW C ∧ (∀ j, j < 64 → (costs j).toInt ≤ 14000) ∧ (∀ j, j < 384 → lists j < 0 ∨ ∃ n, n < 6 ∧ lists j = nI n) ∧ (∀ k, k < 64 → ¬ costs k < 0 → ¬ lists (6 * k + 0) < 0) ∧ (∀ j, j < 384 → newLists j < 0 ∨ ∃ n, n < 6 ∧ newLists j = nI n) ∧ (fd = 0 ∨ fd = 1)
theorem l_nI {kk z : Int64} {n : Nat} (h : 0 ≤ kk ∧ kk ≤ z) (hz : z.toInt = (n : Int)) (hn : n < 2 ^ 31) : ∃ k, k ≤ n ∧ kk.toInt32 = nI k := by
  have h1 : (0 : Int) ≤ kk.toInt := Int64.le_iff_toInt_le.mp h.1
  have h2 := Int64.le_iff_toInt_le.mp h.2
  rw [hz] at h2
  refine ⟨kk.toInt.toNat, by omega, ?_⟩
  apply Int32.toInt_inj.mp
  rw [Int64.toInt_toInt32, Int.bmod_eq_of_le (by omega) (by omega)]
  show _ = (Int32.ofNat _).toInt
  rw [Int32.toInt_ofNat_of_lt (by omega)]
  omega
theorem i_nI {x : Int32} {z : Int64} {n : Nat} (h : 0 ≤ x.toInt64 ∧ x.toInt64 ≤ z) (hz : z.toInt = (n : Int)) (hn : n < 2 ^ 31) : ∃ k, k ≤ n ∧ x = nI k := by
  have h1 := Int64.le_iff_toInt_le.mp h.1
  have h2 := Int64.le_iff_toInt_le.mp h.2
  rw [Int32.toInt_toInt64] at h1 h2
  rw [hz] at h2
  have h1 : (0 : Int) ≤ x.toInt := h1
  refine ⟨x.toInt.toNat, by omega, ?_⟩
  apply Int32.toInt_inj.mp
  show _ = (Int32.ofNat _).toInt
  rw [Int32.toInt_ofNat_of_lt (by omega)]
  omega
theorem upN_le {f : Nat → Nat} {n b k x : Nat} (h : ∀ j, j < n → f j ≤ b) (hx : x ≤ b) : ∀ j, j < n → upN f k x j ≤ b := fun j hj => by
  unfold upN
  split
  · exact hx
  · exact h j hj
theorem bsI_upF (b : Nat → Nat) (k x : Nat) : upd (bsI b) k (nI x) = bsI (upN b k x) := funext (bsI_up b k x)
theorem cow_up {C : Nat → Int32} (h : CoW C) {k : Nat} (hk : k ≤ 2000) (i : Nat) : CoW (upd C i (nI k)) := fun j hj => by
  by_cases q : j = i
  · subst q
    rw [pk_us]
    show 0 ≤ (Int32.ofNat k).toInt ∧ _
    have e : (nI k).toInt = k := Int32.toInt_ofNat_of_lt (by omega)
    refine ⟨?_, ?_⟩
    · show (0 : Int) ≤ (nI k).toInt
      omega
    · omega
  · rw [pk_un q]; exact h j hj
theorem lbl_le (re : Nat → Nat) : ∀ f b, lbl re f b ≤ 6 * f
  | 0, _ => Nat.le_refl _
  | f + 1, b => by
    show pcn (re b) + lbl re f (b + 1) ≤ _
    have := lbl_le re f (b + 1)
    have := pcn_le (re b)
    omega
theorem fnd_iv {tb : Nat} {tsec : Int32} {tl : Int64} {tk : Nat → Int64} {tbs : Nat → Int32} {S : Nat → Nat → Int32} {C : Nat → Nat → Int64} {cs : Nat → Nat} {co : Nat → Int64} {od rw : Nat → Nat} {v : (Nat → Int64) × (Nat → Int32) × SR × Nat × Nat × (Nat → Nat)} (htb : tb ≤ 6) (hrw : ∀ j, j < 6 → rw j < 6) (hod : ∀ j, j < 384 → od j < 6) (hcs : ∀ j, j < 63 → cs j < 64) (h : fndC tb tsec tl tk tbs S C cs co od rw v) :
    OkO tb v.2.2.2.2.1 v.2.2.2.1 v.2.2.2.2.2 v.2.2.1.2.1 v.2.2.1.2.2.1 v.2.2.1.2.2.2.2 v.2.2.1.1 ∧ OkQ v.2.2.2.2.2 v.2.2.1.2.2.2.2 v.2.2.1.1 := by
  obtain ⟨-, h2, h3, h4⟩ := h
  have hp : 2 ^ tb ≤ 64 := Nat.le_trans (Nat.pow_le_pow_right (by decide) htb) (by decide)
  have i1 : Iv v.2.2.1 := by rw [h2]; exact ex_iv htb 6 0 0 0 0 _ (by decide) (sr_iv hrw hod)
  have i2 := ls_iv (ro := v.2.2.1.2.2.1) (2 ^ tb - 1) 1 (0, cs) (by omega) hcs
  rw [← h4] at i2
  have i3 := lbl_le v.2.2.1.2.1 (2 ^ tb - 1) 1
  rw [← h3] at i3
  have i4 := i2.1
  dsimp only at i4
  exact ⟨⟨htb, by omega, by omega, i2.2, i1.2.1, i1.2.2.1, i1.2.2.2, i1.1⟩, i2.2, i1.2.2.2, i1.1⟩
theorem ok_o0 : OkO 0 0 0 (fun _ => 0) (fun _ => 0) (fun _ => 0) (fun _ => 0) (fun _ => 0) := ⟨by decide, by decide, by decide, fun _ _ => (by decide : 0 < 64), fun _ _ => (by decide : 0 < 64), fun _ _ => (by decide : 0 < 64), fun _ _ => (by decide : 0 < 6), fun _ _ => (by decide : 0 < 6)⟩
theorem ok_q0 : OkQ (fun _ => 0) (fun _ => 0) (fun _ => 0) := ⟨fun _ _ => (by decide : 0 < 64), fun _ _ => (by decide : 0 < 6), fun _ _ => (by decide : 0 < 6)⟩
theorem ok_x0 : OkX (fun _ => 0) (fun _ => 0) (fun _ => 0) (fun _ => 0) 2 2 2 2 := ⟨fun _ _ => Or.inr ⟨0, by decide, rfl⟩, fun _ _ => Or.inr ⟨0, by decide, rfl⟩, fun _ _ => Or.inl rfl, fun _ _ => Or.inl rfl, by decide, by decide, by decide, by decide⟩
theorem ok_m0 : OkM 0 0 0 0 0 0 (fun _ => 0) (fun _ => 0) (fun _ => 0) (fun _ => 0) (fun _ => -1) (fun _ => 0) (fun _ => 0) 0 :=
  ⟨by decide, by decide, by decide, by decide, by decide, by decide, fun _ _ => (by decide : 0 ≤ 1000), fun _ _ => (by decide : 0 ≤ 1000), fun _ _ => (by decide : 0 < 6), fun _ _ => (by decide : 0 ≤ (0 : Int32).toInt ∧ (0 : Int32).toInt ≤ 2000), fun _ _ => (by decide : (-1 : Int32).toInt ≤ 14000), fun _ _ => Or.inr ⟨0, by decide, rfl⟩, fun _ _ h => absurd (by decide : (-1 : Int32) < 0) h, fun _ _ => Or.inr ⟨0, by decide, rfl⟩, Or.inl rfl⟩
theorem lp_in {L i : Nat} (hL : L ≤ 3072) (hi : i ≤ 512) (h : ¬ nI L - 6 < nI (6 * i)) : 6 * i + 6 ≤ L := by
  have h := Int32.not_lt.mp h
  have h := Int32.le_iff_toInt_le.mp h
  have e1 : (nI (6 * i)).toInt = ((6 * i : Nat) : Int) := Int32.toInt_ofNat_of_lt (by omega)
  have e2 : (nI L).toInt = L := Int32.toInt_ofNat_of_lt (by omega)
  rw [e1, Int32.toInt_sub, e2] at h
  have e3 : (6 : Int32).toInt = 6 := by decide
  rw [e3, Int.bmod_eq_of_le (by omega) (by omega)] at h
  omega
theorem inj2 {α β : Type} {a a' : α} {b b' : β} (h : (a, b) = (a', b')) : a = a' ∧ b = b' := Prod.mk.inj h
theorem inj3 {α β γ : Type} {a a' : α} {b b' : β} {c c' : γ} (h : (a, b, c) = (a', b', c')) : a = a' ∧ b = b' ∧ c = c' := ⟨(Prod.mk.inj h).1, Prod.mk.inj (Prod.mk.inj h).2⟩
/-! both towns, and what both have found, over the calls -/
theorem l_nL {kk z : Int64} {n : Nat} (h : 0 ≤ kk ∧ kk ≤ z) (hz : z.toInt = (n : Int)) (hn : n < 2 ^ 31) : ∃ k, k ≤ n ∧ kk.toInt32 = nI k ∧ kk = lN k := by
  obtain ⟨k, h1, h2⟩ := l_nI h hz hn
  have h3 : (0 : Int) ≤ kk.toInt := Int64.le_iff_toInt_le.mp h.1
  have h4 := Int64.le_iff_toInt_le.mp h.2
  rw [hz] at h4
  refine ⟨k, h1, h2, ?_⟩
  apply Int64.toInt_inj.mp
  rw [lN_toInt (by omega)]
  have h5 := congrArg Int32.toInt h2
  rw [Int64.toInt_toInt32, Int.bmod_eq_of_le (by omega) (by omega)] at h5
  rw [h5]
  exact Int32.toInt_ofNat_of_lt (by omega)
section TW
variable {tl : Int64} {tk : Nat → Int64} {tbs : Nat → Int32} {S : Nat → Nat → Int32} {Cc : Nat → Nat → Int64} {lo tb : Nat} {kn : Nat → Nat} {W B C : Nat → Int32}
theorem tw_bin {k v : Nat} {kk : Int64} {se : Int32} (h : TwR tl tk tbs S Cc lo kn W B C) (hk : k ≤ 1000) (ek : kk = lN k) (hv : v ≤ 1000) (ev : se = nI v) : TwR tl (vp_updL tk tb kk) (upd tbs tb se) S Cc lo (upN kn tb k) W (upd B tb se) C := by
  obtain ⟨t1, t2, t3, t4, t5, t6, t7, t8⟩ := h
  refine ⟨t1, t2, fun j hj => ?_, upN_le t4 hk, fun j hj => ?_, t6, t7, t8⟩
  · by_cases q : j = tb
    · subst q; rw [pk_uLs, upN_at]; exact ek
    · rw [pk_uLn q, upN_ne q]; exact t3 j hj
  · by_cases q : j = tb
    · subst q; rw [pk_us, pk_us]; exact ⟨rfl, v, hv, ev⟩
    · rw [pk_un q, pk_un q]; exact t5 j hj
theorem tw_way {a b v k : Nat} {co : Int64} {se : Int32} (h : TwR tl tk tbs S Cc lo kn W B C) (ha : a < 7) (hb : b < 7) (hv : v ≤ 1000) (ev : se = nI v) (hk : k ≤ 2000) (ek : co.toInt32 = nI k) (el : co = lN k) : TwR tl tk tbs (up2 S a (upd (S a) b se)) (up2 Cc a (vp_updL (Cc a) b co)) lo kn (upd W (7 * a + b) se) B (upd C (7 * a + b) co.toInt32) := by
  obtain ⟨t1, t2, t3, t4, t5, t6, t7, t8⟩ := h
  refine ⟨t1, t2, t3, t4, t5, fun i j hi hj => ?_, fun j hj => ?_, by rw [ek]; exact cow_up t8 hk _⟩
  · unfold up2
    by_cases q : i = a
    · subst q
      rw [if_pos rfl, if_pos rfl]
      by_cases r : j = b
      · subst r
        rw [pk_us, pk_us, pk_uLs, pk_us, ek, nIl (by omega)]
        exact ⟨rfl, el⟩
      · rw [pk_un r, pk_uLn r, pk_un (by omega), pk_un (by omega)]
        exact t6 i j hi hj
    · rw [if_neg q, if_neg q, pk_un (by omega), pk_un (by omega)]
      exact t6 i j hi hj
  · by_cases q : j = 7 * a + b
    · subst q; rw [pk_us]; exact Or.inr ⟨v, hv, ev⟩
    · rw [pk_un q]; exact t7 j hj
theorem tw_veh {k : Nat} {lo2 : Int64} (h : TwR tl tk tbs S Cc lo kn W B C) (hk : k ≤ 6000) (ek : lo2 = lN k) : TwR lo2 tk tbs S Cc k kn W B C := ⟨ek, hk, h.2.2⟩
theorem ix7 {a : Int32} {tb : Nat} (h : 0 ≤ a.toInt64 ∧ a.toInt64 ≤ (nI tb).toInt64) (ht : tb ≤ 6) : a.toNatClampNeg < 7 := by
  obtain ⟨k, hk, rfl⟩ := i_nI (n := tb) h (by rw [nIl (by omega), lN_toInt (by omega)]) (by omega)
  rw [nI_clamp (by omega)]
  omega
theorem fr_new {tsec tm : Int32} {cs : Nat → Nat} {co : Nat → Int64} {od rw rwM : Nat → Nat} {L : Nat → Int32} {v : (Nat → Int64) × (Nat → Int32) × SR × Nat × Nat × (Nat → Nat)} {x : (Nat → Nat) × ZT} (hT : TwR tl tk tbs S Cc lo kn W B C) (htm : tsec = tm) (htb : tb ≤ 6) (h6 : ∀ j, j < 6 → rwM j < 6) (hrw : ∀ j, j < 6 → rw j < 6) (hod : ∀ j, j < 384 → od j < 6) (hcs : ∀ j, j < 63 → cs j < 64) (h : fndC tb tsec tl tk tbs S Cc cs co od rw v) (hx : x = srM (bsI kn) W B C (nI lo) tm tb rwM L) :
    x.2.2.2.2.2 = nI v.2.2.2.1 ∧ FR tb tl v.2.2.2.1 v.2.2.2.2.1 v.2.2.2.2.2 v.1 v.2.2.1.2.1 v.2.2.1.2.2.1 v.2.2.1.2.2.2.1 v.2.2.1.2.2.2.2 1 tb lo kn x.2.1 x.2.2.1 x.2.2.2.1 x.2.2.2.2.1 1 := by
  subst htm
  have i1 := (fnd_iv htb hrw hod hcs h).1
  obtain ⟨h1, h2, h3, h4⟩ := h
  have R := same_search (tm := tsec) (rc := rw) (co' := fun _ => 0) (co := co) (od := od) (L := L) hT htb h1 h6
  rw [← h2, ← hx] at R
  have hl := rel_lab htb R i1.2.2.2.2.1
  obtain ⟨r1, r2, r3, r4, r5⟩ := R
  refine ⟨r4.trans ((congrArg nI hl).trans (congrArg nI h3.symm)), rfl, hT.1, fun j hj => ?_, ⟨r1, r2, r3, rfl, r5⟩, h3, ⟨cs, h4⟩, rfl, Or.inl rfl⟩
  rw [h1 j hj]
  exact wsum_kgN hT.2.2.1 tb htb
end TW
theorem tw_0 : TwR 0 (fun _ => 0) (fun _ => 0) (fun _ _ => -1) (fun _ _ => 0) 0 (fun _ => 0) (fun _ => -1) (fun _ => 0) (fun _ => 0) :=
  ⟨rfl, by decide, fun _ _ => rfl, fun _ _ => (by decide : 0 ≤ 1000), fun _ _ => ⟨rfl, 0, by decide, rfl⟩, fun _ _ _ _ => ⟨rfl, (by decide : (0 : Int64) = (0 : Int32).toInt64)⟩, fun _ _ => Or.inl rfl, fun _ _ => (by decide : 0 ≤ (0 : Int32).toInt ∧ (0 : Int32).toInt ≤ 2000)⟩
theorem fr_0 : FR 0 0 0 0 (fun _ => 0) (fun _ => 0) (fun _ => 0) (fun _ => 0) (fun _ => 0) (fun _ => 0) 0 0 0 (fun _ => 0) (fun _ => 0) (fun _ => 0) (fun _ => -1) (fun _ => 0) 0 := by
  refine ⟨rfl, rfl, fun j _ => rfl, ⟨fun st b _ _ => ?_, fun st b _ _ => ?_, fun st _ => Or.inl ⟨rfl, rfl⟩, rfl, fun _ _ _ => ⟨rfl, rfl⟩⟩, rfl, ⟨fun _ => 0, rfl⟩, rfl, Or.inr ⟨rfl, rfl⟩⟩
  · show (0 : Int32) = if (Nat.testBit 0 b) = true then 1 else 0
    rw [Nat.zero_testBit]; rfl
  · show (0 : Int32) = if (Nat.testBit 0 b) = true then 1 else 0
    rw [Nat.zero_testBit]; rfl
def LEg (p : Program) (l : Launch) (e : Env) (s : State) (m : MethodId) (below : List Frame) (meth : Method) (c : Code) (Q : State → Prop) (b : Nat) (D : va_G) (kI kJ kZ kG kH : ClassId) (A : Nat → Prop) (i9 c9 s9 : Nat) : Prop :=
  ∀ {h0 u x y f g u0 u1 u2 u3 u4 u5 x0 x1 x2 x3 x4 x0a x0b x0c x1a x1b x1c x2a x2b x2c x30 x31 x32 x40 x41 x42 f0 f1 f2 f3 f4 f5 f6 f7 g0 g1 g2 g3 g4 g5 g6 g7 y0 y1 y2 mo z_kilograms z_seconds z_waySeconds z_wayCosts z_pairs z_foundKilograms z_rows z_rounds z_costs z_lists z_barred z_row z_newRows z_newRounds z_newCosts z_newLists z_over z_under z_based z_open qo : Nat} {ur us x3r x4r : Nat → Nat} {wr : Int32} {tb : Nat} {tl : Int64} {tsec : Int32} {tv : Int32} {tk : Nat → Int64} {tbs : Nat → Int32} {S : Nat → Nat → Int32} {C : Nat → Nat → Int64} {tg : Nat → Int32} {ap : Nat → Int32} {an : Int32} {fa : Nat → Int32} {fb : Nat → Int64} {fc : Nat → Int64} {ga : Nat → Int32} {gb : Nat → Int64} {gc : Nat → Int64} {ua : Nat → Int32} {ub : Nat → Int64} {uc : Nat → Int64} {dn : Int64} {hh : Nat} {ww : Nat} {voc : Nat → Int32} {M : Nat → Nat → Int64} {bz : Nat → Int32} {dn2 : Int64} {hh2 : Nat} {ww2 : Nat} {vo2 : Nat → Int32} {M2 : Nat → Nat → Int64} {bz2 : Nat → Int32} {o_bn : Nat} {o_ld : Int64} {o_vh : Int32} {o_lc : Nat} {o_cc : Nat} {o_cs : Nat → Nat} {o_kg : Nat → Int64} {o_re : Nat → Nat} {o_ro : Nat → Nat} {o_ba : Nat → Int32} {o_co : Nat → Int64} {o_od : Nat → Nat} {o_rw : Nat → Nat} {p_bn : Nat} {p_ld : Int64} {p_vh : Int32} {p_lc : Nat} {p_cc : Nat} {p_cs : Nat → Nat} {p_kg : Nat → Int64} {p_re : Nat → Nat} {p_ro : Nat → Nat} {p_ba : Nat → Int32} {p_co : Nat → Int64} {p_od : Nat → Nat} {p_rw : Nat → Nat} {ya : Nat → Int32} {yb : Nat → Int64} {yc : Nat → Int64} {n_lo : Nat} {n_ve : Nat} {n_fb : Nat} {n_fl : Nat} {n_fv : Nat} {n_ln : Nat} {n_kn : Nat → Nat} {n_fk : Nat → Nat} {n_rw : Nat → Nat} {m_seconds : Nat → Int32} {m_waySeconds : Nat → Int32} {m_wayCosts : Nat → Int32} {m_time : Int32} {m_pairs : Nat → Int32} {m_isFound : Int32} {m_rows : Nat → Int32} {m_rounds : Nat → Int32} {m_costs : Nat → Int32} {m_lists : Nat → Int32} {m_barred : Nat → Int32} {m_fault : Int32} {m_newRows : Nat → Int32} {m_newRounds : Nat → Int32} {m_newCosts : Nat → Int32} {m_newLists : Nat → Int32} {m_over : Nat → Int64} {m_under : Nat → Int64} {m_based : Nat → Int32} {m_open : Nat → Int32} {ov : Nat → Int64} {H : Heap} {locs : List Loc} {cells slots : Nat} {ls : Array Slot}, tb ≤ 6 → OkO o_bn o_cc o_lc o_cs o_re o_ro o_od o_rw → OkQ p_cs p_od p_rw → OkX voc vo2 ga ua hh ww hh2 ww2 → OkM n_ve n_fb n_fv n_lo n_fl n_ln n_kn n_fk n_rw m_wayCosts m_costs m_lists m_newLists m_isFound → TwR tl tk tbs S C n_lo n_kn m_waySeconds m_seconds m_wayCosts → tsec = m_time → FR o_bn o_ld o_lc o_cc o_cs o_kg o_re o_ro o_co o_od wr n_fb n_fl n_fk m_rows m_rounds m_costs m_lists m_isFound → va_P D rcl (([(h0, .inr (5, [.ref u, .ref x, .ref y, .ref f, .ref g, .int wr])), (u, .inr (0, [.int (nI tb), .long tl, .int tsec, .int tv, .ref u0, .ref u1, .ref u2, .ref u3, .ref u4, .ref u5])), (u0, .inl (kJ, 6, .inr (.inl tk))), (u1, .inl (kI, 6, .inl tbs)), (u2, .inl (kG, 7, .inr (.inr (.inr (.inr (fun i => some (ur i))))))), (u3, .inl (kH, 7, .inr (.inr (.inr (.inr (fun i => some (us i))))))), (u4, .inl (kI, 6, .inl tg)), (u5, .inl (kI, 6, .inl ap)), (x, .inr (3, [.int an, .ref x0, .ref x1, .ref x2, .ref x3, .ref x4])), (x0, .inr (1, [.ref x0a, .ref x0b, .ref x0c])), (x0a, .inl (kZ, 1, .inl fa)), (x0b, .inl (kJ, 1, .inr (.inl fb))), (x0c, .inl (kJ, 1, .inr (.inl fc))), (x1, .inr (1, [.ref x1a, .ref x1b, .ref x1c])), (x1a, .inl (kZ, 6, .inl ga)), (x1b, .inl (kJ, 6, .inr (.inl gb))), (x1c, .inl (kJ, 6, .inr (.inl gc))), (x2, .inr (1, [.ref x2a, .ref x2b, .ref x2c])), (x2a, .inl (kZ, 63, .inl ua)), (x2b, .inl (kJ, 63, .inr (.inl ub))), (x2c, .inl (kJ, 63, .inr (.inl uc))), (x3, .inr (2, [.ref x30, .long dn, .int (nI hh), .int (nI ww), .ref x31, .ref x32])), (x30, .inl (kI, 63, .inl voc)), (x31, .inl (kH, 8, .inr (.inr (.inr (.inr (fun i => some (x3r i))))))), (x32, .inl (kI, 8, .inl bz)), (x4, .inr (2, [.ref x40, .long dn2, .int (nI hh2), .int (nI ww2), .ref x41, .ref x42])), (x40, .inl (kI, 63, .inl vo2)), (x41, .inl (kH, 8, .inr (.inr (.inr (.inr (fun i => some (x4r i))))))), (x42, .inl (kI, 8, .inl bz2)), (f, .inr (4, [.ref u, .int (nI o_bn), .long o_ld, .int o_vh, .int (nI o_lc), .int (nI o_cc), .ref f0, .ref f1, .ref f2, .ref f3, .ref f4, .ref f5, .ref f6, .ref f7])), (f0, .inl (kI, 63, .inl (bsI o_cs))), (f1, .inl (kJ, 64, .inr (.inl o_kg))), (f2, .inl (kI, 64, .inl (bsI o_re))), (f3, .inl (kI, 64, .inl (bsI o_ro))), (f4, .inl (kZ, 64, .inl o_ba)), (f5, .inl (kJ, 64, .inr (.inl o_co))), (f6, .inl (kI, 384, .inl (bsI o_od))), (f7, .inl (kI, 6, .inl (bsI o_rw))), (g, .inr (4, [.ref u, .int (nI p_bn), .long p_ld, .int p_vh, .int (nI p_lc), .int (nI p_cc), .ref g0, .ref g1, .ref g2, .ref g3, .ref g4, .ref g5, .ref g6, .ref g7])), (g0, .inl (kI, 63, .inl (bsI p_cs))), (g1, .inl (kJ, 64, .inr (.inl p_kg))), (g2, .inl (kI, 64, .inl (bsI p_re))), (g3, .inl (kI, 64, .inl (bsI p_ro))), (g4, .inl (kZ, 64, .inl p_ba)), (g5, .inl (kJ, 64, .inr (.inl p_co))), (g6, .inl (kI, 384, .inl (bsI p_od))), (g7, .inl (kI, 6, .inl (bsI p_rw))), (y, .inr (1, [.ref y0, .ref y1, .ref y2])), (y0, .inl (kZ, 1, .inl ya)), (y1, .inl (kJ, 1, .inr (.inl yb))), (y2, .inl (kJ, 1, .inr (.inl yc))), (mo, .inr (8, [.int (nI tb), .ref z_kilograms, .ref z_seconds, .ref z_waySeconds, .ref z_wayCosts, .int (nI n_lo), .int m_time, .int (nI n_ve), .ref z_pairs, .int m_isFound, .int (nI n_fb), .int (nI n_fl), .int (nI n_fv), .ref z_foundKilograms, .ref z_rows, .ref z_rounds, .ref z_costs, .ref z_lists, .ref z_barred, .int m_fault, .ref z_row, .int (nI n_ln), .ref z_newRows, .ref z_newRounds, .ref z_newCosts, .ref z_newLists, .ref z_over, .ref z_under, .ref z_based, .ref z_open])), (z_kilograms, .inl (kI, 6, .inl (bsI n_kn))), (z_seconds, .inl (kI, 6, .inl m_seconds)), (z_waySeconds, .inl (kI, 49, .inl m_waySeconds)), (z_wayCosts, .inl (kI, 49, .inl m_wayCosts)), (z_pairs, .inl (kI, 36, .inl m_pairs)), (z_foundKilograms, .inl (kI, 6, .inl (bsI n_fk))), (z_rows, .inl (kZ, 384, .inl m_rows)), (z_rounds, .inl (kZ, 384, .inl m_rounds)), (z_costs, .inl (kI, 64, .inl m_costs)), (z_lists, .inl (kI, 384, .inl m_lists)), (z_barred, .inl (kZ, 64, .inl m_barred)), (z_row, .inl (kI, 6, .inl (bsI n_rw))), (z_newRows, .inl (kZ, 384, .inl m_newRows)), (z_newRounds, .inl (kZ, 384, .inl m_newRounds)), (z_newCosts, .inl (kI, 64, .inl m_newCosts)), (z_newLists, .inl (kI, 384, .inl m_newLists)), (z_over, .inl (kJ, 576, .inr (.inl m_over))), (z_under, .inl (kJ, 576, .inr (.inl m_under))), (z_based, .inl (kI, 7, .inl m_based)), (z_open, .inl (kZ, 64, .inl m_open)), (qo, .inl (kJ, 1, .inr (.inl ov)))] : va_W) ++ (gI kI 7 7 ur S ++ (gJ kJ 7 7 us C ++ (gJ kJ 8 65 x3r M ++ (gJ kJ 8 65 x4r M2 ++ ([] : va_W)))))) H → va_D A (([(h0, .inr (5, [.ref u, .ref x, .ref y, .ref f, .ref g, .int wr])), (u, .inr (0, [.int (nI tb), .long tl, .int tsec, .int tv, .ref u0, .ref u1, .ref u2, .ref u3, .ref u4, .ref u5])), (u0, .inl (kJ, 6, .inr (.inl tk))), (u1, .inl (kI, 6, .inl tbs)), (u2, .inl (kG, 7, .inr (.inr (.inr (.inr (fun i => some (ur i))))))), (u3, .inl (kH, 7, .inr (.inr (.inr (.inr (fun i => some (us i))))))), (u4, .inl (kI, 6, .inl tg)), (u5, .inl (kI, 6, .inl ap)), (x, .inr (3, [.int an, .ref x0, .ref x1, .ref x2, .ref x3, .ref x4])), (x0, .inr (1, [.ref x0a, .ref x0b, .ref x0c])), (x0a, .inl (kZ, 1, .inl fa)), (x0b, .inl (kJ, 1, .inr (.inl fb))), (x0c, .inl (kJ, 1, .inr (.inl fc))), (x1, .inr (1, [.ref x1a, .ref x1b, .ref x1c])), (x1a, .inl (kZ, 6, .inl ga)), (x1b, .inl (kJ, 6, .inr (.inl gb))), (x1c, .inl (kJ, 6, .inr (.inl gc))), (x2, .inr (1, [.ref x2a, .ref x2b, .ref x2c])), (x2a, .inl (kZ, 63, .inl ua)), (x2b, .inl (kJ, 63, .inr (.inl ub))), (x2c, .inl (kJ, 63, .inr (.inl uc))), (x3, .inr (2, [.ref x30, .long dn, .int (nI hh), .int (nI ww), .ref x31, .ref x32])), (x30, .inl (kI, 63, .inl voc)), (x31, .inl (kH, 8, .inr (.inr (.inr (.inr (fun i => some (x3r i))))))), (x32, .inl (kI, 8, .inl bz)), (x4, .inr (2, [.ref x40, .long dn2, .int (nI hh2), .int (nI ww2), .ref x41, .ref x42])), (x40, .inl (kI, 63, .inl vo2)), (x41, .inl (kH, 8, .inr (.inr (.inr (.inr (fun i => some (x4r i))))))), (x42, .inl (kI, 8, .inl bz2)), (f, .inr (4, [.ref u, .int (nI o_bn), .long o_ld, .int o_vh, .int (nI o_lc), .int (nI o_cc), .ref f0, .ref f1, .ref f2, .ref f3, .ref f4, .ref f5, .ref f6, .ref f7])), (f0, .inl (kI, 63, .inl (bsI o_cs))), (f1, .inl (kJ, 64, .inr (.inl o_kg))), (f2, .inl (kI, 64, .inl (bsI o_re))), (f3, .inl (kI, 64, .inl (bsI o_ro))), (f4, .inl (kZ, 64, .inl o_ba)), (f5, .inl (kJ, 64, .inr (.inl o_co))), (f6, .inl (kI, 384, .inl (bsI o_od))), (f7, .inl (kI, 6, .inl (bsI o_rw))), (g, .inr (4, [.ref u, .int (nI p_bn), .long p_ld, .int p_vh, .int (nI p_lc), .int (nI p_cc), .ref g0, .ref g1, .ref g2, .ref g3, .ref g4, .ref g5, .ref g6, .ref g7])), (g0, .inl (kI, 63, .inl (bsI p_cs))), (g1, .inl (kJ, 64, .inr (.inl p_kg))), (g2, .inl (kI, 64, .inl (bsI p_re))), (g3, .inl (kI, 64, .inl (bsI p_ro))), (g4, .inl (kZ, 64, .inl p_ba)), (g5, .inl (kJ, 64, .inr (.inl p_co))), (g6, .inl (kI, 384, .inl (bsI p_od))), (g7, .inl (kI, 6, .inl (bsI p_rw))), (y, .inr (1, [.ref y0, .ref y1, .ref y2])), (y0, .inl (kZ, 1, .inl ya)), (y1, .inl (kJ, 1, .inr (.inl yb))), (y2, .inl (kJ, 1, .inr (.inl yc))), (mo, .inr (8, [.int (nI tb), .ref z_kilograms, .ref z_seconds, .ref z_waySeconds, .ref z_wayCosts, .int (nI n_lo), .int m_time, .int (nI n_ve), .ref z_pairs, .int m_isFound, .int (nI n_fb), .int (nI n_fl), .int (nI n_fv), .ref z_foundKilograms, .ref z_rows, .ref z_rounds, .ref z_costs, .ref z_lists, .ref z_barred, .int m_fault, .ref z_row, .int (nI n_ln), .ref z_newRows, .ref z_newRounds, .ref z_newCosts, .ref z_newLists, .ref z_over, .ref z_under, .ref z_based, .ref z_open])), (z_kilograms, .inl (kI, 6, .inl (bsI n_kn))), (z_seconds, .inl (kI, 6, .inl m_seconds)), (z_waySeconds, .inl (kI, 49, .inl m_waySeconds)), (z_wayCosts, .inl (kI, 49, .inl m_wayCosts)), (z_pairs, .inl (kI, 36, .inl m_pairs)), (z_foundKilograms, .inl (kI, 6, .inl (bsI n_fk))), (z_rows, .inl (kZ, 384, .inl m_rows)), (z_rounds, .inl (kZ, 384, .inl m_rounds)), (z_costs, .inl (kI, 64, .inl m_costs)), (z_lists, .inl (kI, 384, .inl m_lists)), (z_barred, .inl (kZ, 64, .inl m_barred)), (z_row, .inl (kI, 6, .inl (bsI n_rw))), (z_newRows, .inl (kZ, 384, .inl m_newRows)), (z_newRounds, .inl (kZ, 384, .inl m_newRounds)), (z_newCosts, .inl (kI, 64, .inl m_newCosts)), (z_newLists, .inl (kI, 384, .inl m_newLists)), (z_over, .inl (kJ, 576, .inr (.inl m_over))), (z_under, .inl (kJ, 576, .inr (.inl m_under))), (z_based, .inl (kI, 7, .inl m_based)), (z_open, .inl (kZ, 64, .inl m_open)), (qo, .inl (kJ, 1, .inr (.inl ov)))] : va_W) ++ (gI kI 7 7 ur S ++ (gJ kJ 7 7 us C ++ (gJ kJ 8 65 x3r M ++ (gJ kJ 8 65 x4r M2 ++ ([] : va_W)))))) → va_S A s.heap H locs → lv_has ls 7 [(0, .ref b), (1, .ref h0), (2, .ref mo), (3, .ref qo), (4, .int (nI (6 * i9)))] → cells ≤ c9 + 1 → slots ≤ s9 + 6 → W p l e room_1 s m #[Value.ref b] below meth c H locs cells slots Q (F0 m 775 ls [])
