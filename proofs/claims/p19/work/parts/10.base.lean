/-! rows of my own over the kit: indices by natural numbers, a value put in another form, calls over the words gw -/
abbrev rmL (k mc ms : Nat) : Room := { frames := k + 1, cells := mc, slots := ms, locals := 64 * (k + 1) }
section BS
variable {p : Program} {l : Launch} {e : Env} {R : Room} {s : State} {m : MethodId} {args : Array Value} {below : List Frame} {meth : Method} {c : Code} {H : Heap} {locs : List Loc} {cells slots : Nat} {Q : State → Prop}
variable {cc : ByteArray} {pc : Nat} {ls : Array Slot} {rest : List Value} {D : va_G} {cl : List vw_C} {A : Nat → Prop} {a : Nat} {tys : List (ClassId × FieldType)} {ws : va_W} {H0 : Heap}
theorem lc_i {x y : Int32} (h : x = y) (k : W p l e R s m args below meth c H locs cells slots Q (F0 m pc ls (.int y :: rest))) : W p l e R s m args below meth c H locs cells slots Q (F0 m pc ls (.int x :: rest)) := by subst h; exact k
theorem lc_l {x y : Int64} (h : x = y) (k : W p l e R s m args below meth c H locs cells slots Q (F0 m pc ls (.long y :: rest))) : W p l e R s m args below meth c H locs cells slots Q (F0 m pc ls (.long x :: rest)) := by subst h; exact k
theorem ra_i (hexec : p.tables.exec = Jvm.exec) (hb : c.code = cc) (hK : va_K D cl tys s) (hP : va_P D cl ws H) (q0 t0 : Nat) {cA : ClassId} {n : Nat} {f : Nat → Int32} (ha : ws[q0]? = some (a, .inl (cA, n, .inl f))) (ht : tys[t0]? = some (cA, .int)) {k : Nat} (hk : k < n) (hn : n < 2 ^ 31) (hdg : decode cc pc = .ok (.iaload, 1))
    (kk : W p l e R s m args below meth c H locs cells slots Q (F0 m (pc + 1) ls (.int (f k) :: rest))) : W p l e R s m args below meth c H locs cells slots Q (F0 m pc ls (.int (nI k) :: .ref a :: rest)) := by
  refine va_iald hexec hb hK hP q0 t0 ha ht (vp_in_nI hk hn) hdg ?_
  rw [nI_clamp (by omega)]; exact kk
theorem ra_z (hexec : p.tables.exec = Jvm.exec) (hb : c.code = cc) (hK : va_K D cl tys s) (hP : va_P D cl ws H) (q0 t0 : Nat) {cA : ClassId} {n : Nat} {f : Nat → Int32} (ha : ws[q0]? = some (a, .inl (cA, n, .inl f))) (ht : tys[t0]? = some (cA, .boolean)) {k : Nat} (hk : k < n) (hn : n < 2 ^ 31) (hdg : decode cc pc = .ok (.baload, 1))
    (kk : W p l e R s m args below meth c H locs cells slots Q (F0 m (pc + 1) ls (.int (f k) :: rest))) : W p l e R s m args below meth c H locs cells slots Q (F0 m pc ls (.int (nI k) :: .ref a :: rest)) := by
  refine va_zald hexec hb hK hP q0 t0 ha ht (vp_in_nI hk hn) hdg ?_
  rw [nI_clamp (by omega)]; exact kk
theorem ra_l (hexec : p.tables.exec = Jvm.exec) (hb : c.code = cc) (hK : va_K D cl tys s) (hP : va_P D cl ws H) (q0 t0 : Nat) {cA : ClassId} {n : Nat} {f : Nat → Int64} (ha : ws[q0]? = some (a, .inl (cA, n, .inr (.inl f)))) (ht : tys[t0]? = some (cA, .long)) {k : Nat} (hk : k < n) (hn : n < 2 ^ 31) (hdg : decode cc pc = .ok (.laload, 1))
    (kk : W p l e R s m args below meth c H locs cells slots Q (F0 m (pc + 1) ls (.long (f k) :: rest))) : W p l e R s m args below meth c H locs cells slots Q (F0 m pc ls (.int (nI k) :: .ref a :: rest)) := by
  refine va_lald hexec hb hK hP q0 t0 ha ht (vp_in_nI hk hn) hdg ?_
  rw [nI_clamp (by omega)]; exact kk
theorem wa_i (hexec : p.tables.exec = Jvm.exec) (hb : c.code = cc) (hK : va_K D cl tys s) (hP : va_P D cl ws H) (hD : va_D A ws) (hS : va_S A H0 H locs) (q0 t0 : Nat) {cA : ClassId} {n : Nat} {f : Nat → Int32} (ha : ws[q0]? = some (a, .inl (cA, n, .inl f))) (ht : tys[t0]? = some (cA, .int)) {k : Nat} {x : Int32} (hk : k < n) (hn : n < 2 ^ 31) (hdg : decode cc pc = .ok (.iastore, 1))
    (kk : ∀ (H1 : Heap) (locs1 : List Loc), va_P D cl (ws.set q0 (a, .inl (cA, n, .inl (upd f k x)))) H1 → va_D A (ws.set q0 (a, .inl (cA, n, .inl (upd f k x)))) → va_S A H0 H1 locs1 → W p l e R s m args below meth c H1 locs1 cells slots Q (F0 m (pc + 1) ls rest)) : W p l e R s m args below meth c H locs cells slots Q (F0 m pc ls (.int x :: .int (nI k) :: .ref a :: rest)) := by
  refine va_iast hexec hb hK hP hD hS q0 t0 ha ht (vp_in_nI hk hn) hdg (fun H1 locs1 h1 h2 h3 => ?_)
  rw [nI_clamp (by omega)] at h1 h2
  exact kk H1 locs1 h1 h2 h3
theorem wa_z (hexec : p.tables.exec = Jvm.exec) (hb : c.code = cc) (hK : va_K D cl tys s) (hP : va_P D cl ws H) (hD : va_D A ws) (hS : va_S A H0 H locs) (q0 t0 : Nat) {cA : ClassId} {n : Nat} {f : Nat → Int32} (ha : ws[q0]? = some (a, .inl (cA, n, .inl f))) (ht : tys[t0]? = some (cA, .boolean)) {k : Nat} {x : Int32} (hx : vp_nar .boolean x = x) (hk : k < n) (hn : n < 2 ^ 31) (hdg : decode cc pc = .ok (.bastore, 1))
    (kk : ∀ (H1 : Heap) (locs1 : List Loc), va_P D cl (ws.set q0 (a, .inl (cA, n, .inl (upd f k x)))) H1 → va_D A (ws.set q0 (a, .inl (cA, n, .inl (upd f k x)))) → va_S A H0 H1 locs1 → W p l e R s m args below meth c H1 locs1 cells slots Q (F0 m (pc + 1) ls rest)) : W p l e R s m args below meth c H locs cells slots Q (F0 m pc ls (.int x :: .int (nI k) :: .ref a :: rest)) := by
  refine va_zast hexec hb hK hP hD hS q0 t0 ha ht (vp_in_nI hk hn) hdg (fun H1 locs1 h1 h2 h3 => ?_)
  rw [nI_clamp (by omega), hx] at h1 h2
  exact kk H1 locs1 h1 h2 h3
theorem wa_l (hexec : p.tables.exec = Jvm.exec) (hb : c.code = cc) (hK : va_K D cl tys s) (hP : va_P D cl ws H) (hD : va_D A ws) (hS : va_S A H0 H locs) (q0 t0 : Nat) {cA : ClassId} {n : Nat} {f : Nat → Int64} (ha : ws[q0]? = some (a, .inl (cA, n, .inr (.inl f)))) (ht : tys[t0]? = some (cA, .long)) {k : Nat} {x : Int64} (hk : k < n) (hn : n < 2 ^ 31) (hdg : decode cc pc = .ok (.lastore, 1))
    (kk : ∀ (H1 : Heap) (locs1 : List Loc), va_P D cl (ws.set q0 (a, .inl (cA, n, .inr (.inl (vp_updL f k x))))) H1 → va_D A (ws.set q0 (a, .inl (cA, n, .inr (.inl (vp_updL f k x))))) → va_S A H0 H1 locs1 → W p l e R s m args below meth c H1 locs1 cells slots Q (F0 m (pc + 1) ls rest)) : W p l e R s m args below meth c H locs cells slots Q (F0 m pc ls (.long x :: .int (nI k) :: .ref a :: rest)) := by
  refine va_last hexec hb hK hP hD hS q0 t0 ha ht (vp_in_nI hk hn) hdg (fun H1 locs1 h1 h2 h3 => ?_)
  rw [nI_clamp (by omega)] at h1 h2
  exact kk H1 locs1 h1 h2 h3
/-- reading a place of an array of arrays -/
theorem ra_a (hexec : p.tables.exec = Jvm.exec) (hb : c.code = cc) (hK : va_K D cl tys s) (hP : va_P D cl ws H) (q0 t0 : Nat) {cA : ClassId} {ty : FieldType} {n : Nat} {f : Nat → Option Nat} (ha : ws[q0]? = some (a, .inl (cA, n, .inr (.inr (.inr (.inr f)))))) (ht : tys[t0]? = some (cA, .array ty)) {k : Nat} (hk : k < n) (hn : n < 2 ^ 31) {q : Nat} (hq : f k = some q) (hdg : decode cc pc = .ok (.aaload, 1))
    (kk : W p l e R s m args below meth c H locs cells slots Q (F0 m (pc + 1) ls (.ref q :: rest))) : W p l e R s m args below meth c H locs cells slots Q (F0 m pc ls (.int (nI k) :: .ref a :: rest)) := by
  have h1 : vp_in (nI k) n := vp_in_nI hk hn
  have h2 : (nI k).toNatClampNeg = k := nI_clamp (by omega)
  exact W.aald (v := .ref q) (ty := .array ty) hexec hb (hP q0 _ ha) ((hK.2 t0 _ ht).1 n (fun j => va_rf (f j))) rfl (fun q => by cases q) (by show ¬ (nI k < 0 ∨ (arrV _ _ _).slots.size ≤ _); rw [arrV_size]; exact h1) (by show (arrV _ _ _).slots[_]? = _; rw [h2, arrV_read _ _ hk, hq]; rfl) rfl rfl hdg kk
variable {own : String} {index maxL mc ms : Nat} {y : MethodName} {bytes : ByteArray} {ret : Option FieldType} {w0 : Cond} {rm : Room}
/-- what a call needs of the tables, out of gw -/
theorem cB (n : Nat) (ht : ∀ w ∈ w0 :: gw, w.before args s = true) (hc : Cond.code y bytes maxL ret ∈ gw) (hi : Cond.initialized y.cls ∈ gw) (hl : Cond.methodLink own index y ∈ gw) (hd : y.cls ≠ "java/lang/invoke/MethodHandle" ∧ y.cls ≠ "java/lang/invoke/VarHandle" ∧ (parseMethodDescriptor y.desc).map (fun d => d.parameters.length) = some n) (hR : rm.frames + 1 ≤ R.frames ∧ 8 + (maxL + 11) + rm.locals ≤ R.locals) (hrc : rm.cells = mc) (hrs : rm.slots = ms) : CallB R s args own index y bytes maxL ret (Cond.code y bytes maxL ret :: gw) rm mc ms n :=
  ⟨hrc, hrs, hR.1, hR.2, pay_in ht (gw_good gw_t (gw_c hc gw_s)), List.mem_cons_self, ht _ (gw_t _ hc), ht _ (gw_t _ hi), ⟨hd.1, hd.2.1⟩, fun sig h => by have h2 := hd.2.2; rw [h] at h2; exact (Option.some.inj h2).symm, ht _ (gw_t _ hl)⟩
end BS
/-- the words of private members across the nest -/
def nestW : List Cond := tables_1.filter (fun w => match w with | .methodLinkNest .. => true | _ => false)
/-- an array class over an array class stands in the tables -/
def aos (ty : FieldType) (U : State) : Prop := (Cond.arrayOver (.array ty)).before #[] U = true
theorem aos.moved {ty : FieldType} {u U : State} (hvm : u.vm.Alike U.vm) (h : aos ty u) : aos ty U := by
  obtain ⟨comp, c, k, h1, h2, h3, h4, h5⟩ := arrayOverA_spec h
  obtain ⟨k', hk', he⟩ := hvm.2.2 _ _ h3
  have hkind : k'.kind = .array comp (.array ty) := by rw [he]; exact h4
  have f1 : U.vm.findClass (FieldType.array ty).toString = some comp := by rw [hvm.findClass]; exact h1
  have f2 : U.vm.findClass ("[" ++ (FieldType.array ty).toString) = some c := by rw [hvm.findClass]; exact h5
  unfold aos Cond.before
  simp only [Cond.holds, Cond.value, f1, Option.bind_some, beq_iff_eq]
  rw [Option.bind_eq_some_iff]
  refine ⟨c, (hvm.findIdx?_eq _ (fun _ => rfl)).trans h2, ?_⟩
  simp [hk', hkind, f2]
def nst (U : State) : Prop := (∀ w ∈ nestW, va_Nw w U) ∧ aos .int U ∧ aos .long U
theorem nst.warm {s U : State} (hW : s.WarmedH U.vm) (h : nst s) : nst U := ⟨fun w hw => by
  have h1 := (List.mem_filter.mp hw).2
  cases w <;> first | (cases h1; done) | exact va_Nw.warmM hW (h.1 _ hw), h.2.1.moved hW.alike, h.2.2.moved hW.alike⟩
theorem nst.calling {U : State} {g : JFrame} {mk : MethodId} {a : Array Value} (h : nst U) : nst (U.calling g mk a) := ⟨fun w hw => by
  have h1 := (List.mem_filter.mp hw).2
  cases w <;> first | (cases h1; done) | exact va_tabs (A := #[]) (u := U) rfl rfl (h.1 _ hw), h.2.1.moved (Vm.Alike.refl U.vm), h.2.2.moved (Vm.Alike.refl U.vm)⟩
/-- the classes of the arrays that are used: int[], long[], boolean[], int[][], long[][] -/
abbrev TY (kI kJ kZ kG kH : ClassId) : List (ClassId × FieldType) := [(kI, .int), (kJ, .long), (kZ, .boolean), (kG, .array .int), (kH, .array .long)]
/-- a world: cells, classes, the nest -/
def wd (D : va_G) (kI kJ kZ kG kH : ClassId) (ws : va_W) (U : State) : Prop := va_P D rcl ws U.heap ∧ va_K D rcl (TY kI kJ kZ kG kH) U ∧ nst U
theorem wd.calling {D : va_G} {kI kJ kZ kG kH : ClassId} {ws : va_W} {U : State} (g : JFrame) (mk : MethodId) (a : Array Value) (h : wd D kI kJ kZ kG kH ws U) : wd D kI kJ kZ kG kH ws (U.calling g mk a) := ⟨h.1, va_K.moved (u := U) (U := U.calling g mk a) (Vm.Alike.refl U.vm) h.2.1, h.2.2.calling⟩
theorem wd.use {D : va_G} {kI kJ kZ kG kH : ClassId} {ws : va_W} {s U : State} {H : Heap} (hP : va_P D rcl ws H) (hK : va_K D rcl (TY kI kJ kZ kG kH) s) (hN : nst s) (hU : U.heap = H) (hW : s.WarmedH U.vm) : wd D kI kJ kZ kG kH ws U := ⟨by rw [hU]; exact hP, va_K.moved hW.alike hK, hN.warm hW⟩
section NA
variable {p : Program} {l : Launch} {e : Env} {R : Room} {s : State} {m : MethodId} {args : Array Value} {below : List Frame} {meth : Method} {c : Code} {H : Heap} {locs : List Loc} {cells slots : Nat} {Q : State → Prop}
variable {cc : ByteArray} {pc : Nat} {ls : Array Slot} {rest : List Value} {D : va_G} {cl : List vw_C} {A : Nat → Prop} {a : Nat} {tys : List (ClassId × FieldType)} {ws : va_W} {H0 : Heap}
/-- a new array, of the class that the list of types has -/
theorem na_p (hexec : p.tables.exec = Jvm.exec) (hb : c.code = cc) {atype : ArrayType} (harr : (Cond.arrayClass (newarray.typeOf atype)).before args s = true) {ty : FieldType} (hty : newarray.typeOf atype = ty) (hK : va_K D cl tys s) (hP : va_P D cl ws H) (hD : va_D A ws) (hS : va_S A H0 H locs) (hA : ∀ q, H0.size ≤ q → A q) (t0 : Nat) {cK : ClassId} (ht : tys[t0]? = some (cK, ty)) (hra : ∀ k, va_RA s k ty → s.vm.findClass ("[" ++ ty.toString) = some k) {N' : Nat} {a0 : vp_A} (ha : ∀ cA : ClassId, vp_cell cA a0 = arrV cA N' (fun _ => defaultValue ty)) (hN : N' < 2 ^ 31) (hbytes : N' * componentBytes ty ≤ 536870912) (hcells : cells + 1 ≤ R.cells) (hslots : slots + N' ≤ R.slots) (hdg : decode cc pc = .ok (.newarray atype, 2))
    (kk : ∀ (q : Nat) (H1 : Heap), va_P D cl (ws ++ [(q, .inl (cK, a0))]) H1 → va_D A (ws ++ [(q, .inl (cK, a0))]) → va_S A H0 H1 locs → W p l e R s m args below meth c H1 locs (cells + 1) (slots + N') Q (F0 m (pc + 2) ls (.ref q :: rest))) : W p l e R s m args below meth c H locs cells slots Q (F0 m pc ls (.int (nI N') :: rest)) := by
  refine va_newa hexec hb harr hty hK hP hD hS hA ha (nI_pos hN) (nI_clamp hN) hbytes hcells hslots hdg (fun q cA H1 h1 h2 h3 h4 => ?_)
  have e1 := hra _ (hK.2 t0 _ ht).2
  have e2 := hra _ (h1.2 tys.length (cA, ty) (by simp)).2
  have e3 : cA = cK := Option.some.inj (e2.symm.trans e1)
  subst e3
  exact kk q H1 h2 h3 h4
end NA
section FN
variable {D : va_G} {cl : List vw_C} {A : Nat → Prop} {ws : va_W} {H : Heap} {a n : Nat} {c : ClassId}
theorem same_cell {e1 e2 : va_E} (hP : va_P D cl ws H) (hD : va_D A ws) (q : Nat) (hq : ws[q]? = some (a, e1)) (h : va_at D cl (a, e1) H → va_at D cl (a, e2) H) : va_P D cl (ws.set q (a, e2)) H ∧ va_D A (ws.set q (a, e2)) := by
  refine ⟨fun k x hx => ?_, hD.set hq⟩
  rw [List.getElem?_set] at hx
  split at hx
  · rename_i hk
    subst hk
    split at hx
    · cases hx
      exact h (hP _ _ hq)
    · cases hx
  · exact hP k x hx
theorem fn_i {f : Nat → Int32} (hP : va_P D cl ws H) (hD : va_D A ws) (q : Nat) (hq : ws[q]? = some (a, .inl (c, n, .inl f))) (g : Nat → Int32) (h : ∀ j, j < n → f j = g j) : va_P D cl (ws.set q (a, .inl (c, n, .inl g))) H ∧ va_D A (ws.set q (a, .inl (c, n, .inl g))) :=
  same_cell hP hD q hq (fun x => by show H[a]? = some (vp_cell c (n, .inl g)); rw [← cell_i h]; exact x)
theorem fn_l {f : Nat → Int64} (hP : va_P D cl ws H) (hD : va_D A ws) (q : Nat) (hq : ws[q]? = some (a, .inl (c, n, .inr (.inl f)))) (g : Nat → Int64) (h : ∀ j, j < n → f j = g j) : va_P D cl (ws.set q (a, .inl (c, n, .inr (.inl g)))) H ∧ va_D A (ws.set q (a, .inl (c, n, .inr (.inl g)))) :=
  same_cell hP hD q hq (fun x => by show H[a]? = some (vp_cell c (n, .inr (.inl g))); rw [← cell_l h]; exact x)
end FN
theorem upd_lt {g : Nat → Int32} {k : Nat} {v : Int32} (h : ∀ j, j < k → g j = v) : ∀ j, j < k + 1 → upd g k v j = v := fun j hj => by
  by_cases e : j = k
  · subst e; exact pk_us
  · rw [pk_un e]; exact h j (by omega)
theorem updL_lt {g : Nat → Int64} {k : Nat} {v : Int64} (h : ∀ j, j < k → g j = v) : ∀ j, j < k + 1 → vp_updL g k v j = v := fun j hj => by
  by_cases e : j = k
  · subst e; exact pk_uLs
  · rw [pk_uLn e]; exact h j (by omega)
