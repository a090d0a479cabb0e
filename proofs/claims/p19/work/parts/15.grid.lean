/-! arrays of arrays: the outer cell, and its rows behind it -/
def gr {α : Type} (n : Nat) (g : Nat → α) : List α := (List.range n).map g
theorem gr_len {α : Type} {n : Nat} {g : Nat → α} : (gr n g).length = n := by simp [gr]
theorem gr_at {α : Type} {n : Nat} {g : Nat → α} {i : Nat} (h : i < n) : (gr n g)[i]? = some (g i) := by simp [gr, h]
theorem gr_get {α : Type} {X Y : List α} {n : Nat} {g : Nat → α} {i : Nat} (h : i < n) : (X ++ (gr n g ++ Y))[X.length + i]? = some (g i) := by
  rw [List.getElem?_append_right (Nat.le_add_right _ _), Nat.add_sub_cancel_left, List.getElem?_append_left (by rw [gr_len]; exact h), gr_at h]
theorem gr_set {α : Type} {X Y : List α} {n : Nat} {g : Nat → α} {i : Nat} (h : i < n) (e : α) : (X ++ (gr n g ++ Y)).set (X.length + i) e = X ++ (gr n (fun a => if a = i then e else g a) ++ Y) := by
  rw [List.set_append_right _ _ (Nat.le_add_right _ _), Nat.add_sub_cancel_left, List.set_append_left _ _ (by rw [gr_len]; exact h)]
  congr 2
  apply List.ext_getElem?
  intro j
  rw [List.getElem?_set]
  by_cases hj : j < n
  · rw [gr_at hj, gr_at hj]
    by_cases e1 : i = j
    · subst e1; simp [gr_len, h]
    · simp [e1, Ne.symm e1]
  · have h1 : (gr n g)[j]? = none := List.getElem?_eq_none (by rw [gr_len]; omega)
    have h2 : (gr n (fun a => if a = i then e else g a))[j]? = none := List.getElem?_eq_none (by rw [gr_len]; omega)
    rw [h1, h2, if_neg (by omega)]
/-- a row's new content -/
def up2 {α : Type} (M : Nat → Nat → α) (i : Nat) (f : Nat → α) : Nat → Nat → α := fun a => if a = i then f else M a
abbrev gI (k : ClassId) (n w : Nat) (r : Nat → Nat) (M : Nat → Nat → Int32) : va_W := gr n (fun i => (r i, .inl (k, w, .inl (M i))))
abbrev gJ (k : ClassId) (n w : Nat) (r : Nat → Nat) (M : Nat → Nat → Int64) : va_W := gr n (fun i => (r i, .inl (k, w, .inr (.inl (M i)))))
theorem gI_set {X Y : va_W} {k : ClassId} {n w : Nat} {r : Nat → Nat} {M : Nat → Nat → Int32} {i : Nat} (h : i < n) (f : Nat → Int32) : (X ++ (gI k n w r M ++ Y)).set (X.length + i) (r i, .inl (k, w, .inl f)) = X ++ (gI k n w r (up2 M i f) ++ Y) := by
  rw [gr_set h]
  congr 2
  unfold gr
  congr 1
  funext a
  by_cases e : a = i
  · subst e; simp [up2]
  · simp [up2, e]
theorem gJ_set {X Y : va_W} {k : ClassId} {n w : Nat} {r : Nat → Nat} {M : Nat → Nat → Int64} {i : Nat} (h : i < n) (f : Nat → Int64) : (X ++ (gJ k n w r M ++ Y)).set (X.length + i) (r i, .inl (k, w, .inr (.inl f))) = X ++ (gJ k n w r (up2 M i f) ++ Y) := by
  rw [gr_set h]
  congr 2
  unfold gr
  congr 1
  funext a
  by_cases e : a = i
  · subst e; simp [up2]
  · simp [up2, e]
theorem gr_get2 {α : Type} {X Y : List α} {n n2 : Nat} {g g2 : Nat → α} {i : Nat} (h : i < n2) : (X ++ (gr n g ++ (gr n2 g2 ++ Y)))[X.length + (n + i)]? = some (g2 i) := by
  have h1 := gr_get (X := X ++ gr n g) (Y := Y) (g := g2) h
  rw [List.append_assoc, List.length_append, gr_len, Nat.add_assoc] at h1
  exact h1
theorem gJ_set2 {X Y : va_W} {k k0 : ClassId} {n n0 w w0 : Nat} {r r0 : Nat → Nat} {M : Nat → Nat → Int64} {M0 : Nat → Nat → Int32} {i : Nat} (h : i < n) (f : Nat → Int64) : (X ++ (gI k0 n0 w0 r0 M0 ++ (gJ k n w r M ++ Y))).set (X.length + (n0 + i)) (r i, .inl (k, w, .inr (.inl f))) = X ++ (gI k0 n0 w0 r0 M0 ++ (gJ k n w r (up2 M i f) ++ Y)) := by
  have h1 := gJ_set (X := X ++ gI k0 n0 w0 r0 M0) (Y := Y) (k := k) (w := w) (r := r) (M := M) h f
  rw [List.append_assoc, List.append_assoc, List.length_append, gr_len, Nat.add_assoc] at h1
  exact h1
theorem gJJ_set2 {X Y : va_W} {k k0 : ClassId} {n n0 w w0 : Nat} {r r0 : Nat → Nat} {M : Nat → Nat → Int64} {M0 : Nat → Nat → Int64} {i : Nat} (h : i < n) (f : Nat → Int64) : (X ++ (gJ k0 n0 w0 r0 M0 ++ (gJ k n w r M ++ Y))).set (X.length + (n0 + i)) (r i, .inl (k, w, .inr (.inl f))) = X ++ (gJ k0 n0 w0 r0 M0 ++ (gJ k n w r (up2 M i f) ++ Y)) := by
  have h1 := gJ_set (X := X ++ gJ k0 n0 w0 r0 M0) (Y := Y) (k := k) (w := w) (r := r) (M := M) h f
  rw [List.append_assoc, List.append_assoc, List.length_append, gr_len, Nat.add_assoc] at h1
  exact h1
theorem setX {X pl : va_W} {k : Nat} {x : Nat × va_E} (h : k < X.length) : (X ++ pl).set k x = X.set k x ++ pl := List.set_append_left _ _ h
theorem va_Pl {D : va_G} {cl : List vw_C} {X pl : va_W} {H : Heap} (h : va_P D cl (X ++ pl) H) : va_P D cl X H := fun k q hk => h k q (by rw [List.getElem?_append_left (List.getElem?_eq_some_iff.mp hk).1]; exact hk)
theorem va_Dl {A : Nat → Prop} {X pl : va_W} (h : va_D A (X ++ pl)) : va_D A X := ⟨fun i j p q hi hj => h.1 i j p q (by rw [List.getElem?_append_left (List.getElem?_eq_some_iff.mp hi).1]; exact hi) (by rw [List.getElem?_append_left (List.getElem?_eq_some_iff.mp hj).1]; exact hj), fun k q hk => h.2 k q (by rw [List.getElem?_append_left (List.getElem?_eq_some_iff.mp hk).1]; exact hk)⟩
section MG
variable {p : Program} {l : Launch} {e : Env} {R : Room} {s : State} {m : MethodId} {args : Array Value} {below : List Frame} {meth : Method} {c : Code} {H : Heap} {locs : List Loc} {cells slots : Nat} {Q : State → Prop}
variable {cc : ByteArray} {pc : Nat} {ls : Array Slot} {rest : List Value} {D : va_G} {cl : List vw_C} {A : Nat → Prop} {a : Nat} {tys : List (ClassId × FieldType)} {ws : va_W} {H0 : Heap}
theorem mg_outer (k : ClassId) (N h0 : Nat) : ∀ i : Nat, i ≤ N → Jvm.Free.Multi.outerC k N h0 i = arrV k N (fun j => va_rf (if j < i then some (h0 + 1 + j) else none))
  | 0, _ => by
    show ({ cls := k, slots := Array.replicate N .null, vm := .none } : Cell) = _
    rw [arrV_new]
    exact congrArg (arrV k N) (funext fun j => by simp [va_rf])
  | i + 1, h => by
    show (Jvm.Free.Multi.outerC k N h0 i).setSlot i (.ref (h0 + 1 + i)) = _
    rw [mg_outer k N h0 i (by omega), arrV_store]
    refine congrArg (arrV k N) (funext fun j => ?_)
    by_cases e : j = i
    · subst e; simp [updV, va_rf]
    · by_cases h1 : j < i
      · simp [updV, e, h1, Nat.lt_succ_of_lt h1]
      · simp [updV, e, h1, show ¬ j < i + 1 by omega]
theorem mg_cell (k : ClassId) (N h0 : Nat) : Jvm.Free.Multi.outerC k N h0 N = vp_cell k (N, .inr (.inr (.inr (.inr (fun i => some (h0 + 1 + i)))))) := by
  rw [mg_outer k N h0 N (Nat.le_refl _), vp_cell_q]
  unfold arrV
  congr 1
  apply Array.ext <;> simp
/-- new T[N][M], T a number -/
theorem mg_p (hexec : p.tables.exec = Jvm.exec) (hb : c.code = cc) {own : String} {index : Nat} {ty : FieldType} (hown : s.vm.findClass own = some m.cls) (hclink : (Cond.classLink own index ("[" ++ (FieldType.array ty).toString)).before args s = true) (hover : aos ty s) (harr : (Cond.arrayClass ty).before args s = true)
    (hK : va_K D cl tys s) (hP : va_P D cl ws H) (hD : va_D A ws) (hS : va_S A H0 H locs) (hA : ∀ q, H0.size ≤ q → A q) (t0 t1 : Nat) {cG cE : ClassId} (ht0 : tys[t0]? = some (cG, .array ty)) (ht1 : tys[t1]? = some (cE, ty)) (hra : ∀ k, va_RA s k ty → s.vm.findClass ("[" ++ ty.toString) = some k) {N M : Nat} {z : vp_A} (hN : N < 2 ^ 27) (hM : M < 2 ^ 27) (hb2 : M * componentBytes ty ≤ 536870912) (hdf : fits ty (defaultValue ty) = true) (hdd : (defaultValue ty).isDefault = true) (hcells : cells + (1 + N) ≤ R.cells) (hslots : slots + (N + N * M) ≤ R.slots) (hz : ∀ k : ClassId, Jvm.Free.Multi.innerC k M (defaultValue ty) = vp_cell k z) (hdg : decode cc pc = .ok (.multianewarray index 2, 4))
    (kk : ∀ (q : Nat) (H1 : Heap), va_P D cl ((ws ++ [(q, .inl (cG, N, .inr (.inr (.inr (.inr (fun i => some (q + 1 + i)))))))]) ++ gr N (fun i => (q + 1 + i, .inl (cE, z)))) H1 → va_D A ((ws ++ [(q, .inl (cG, N, .inr (.inr (.inr (.inr (fun i => some (q + 1 + i)))))))]) ++ gr N (fun i => (q + 1 + i, .inl (cE, z)))) → va_S A H0 H1 locs → W p l e R s m args below meth c H1 locs (cells + 1 + N) (slots + N + N * M) Q (F0 m (pc + 4) ls (.ref q :: rest))) : W p l e R s m args below meth c H locs cells slots Q (F0 m pc ls (.int (nI M) :: .int (nI N) :: rest)) := by
  have eN : (nI N).toNatClampNeg = N := nI_clamp (by omega)
  have eM : (nI M).toNatClampNeg = M := nI_clamp (by omega)
  intro T hT Xs
  obtain ⟨vm₁, cA, comp, -, fA, fC, -, -, X', step⟩ := Xs.multianewarray2F hexec hown hclink hover harr (g := F0 m pc ls (.int (nI M) :: .int (nI N) :: rest)) rfl (by rw [hb]; exact hdg) rfl (nI_pos (by omega)) (nI_pos (by omega)) (by rw [eN]; omega) (by rw [eM]; exact hb2) (by rw [eM]; omega) hdf hdd (by rw [eN]; exact hcells) (by rw [eN, eM]; exact hslots)
  have e1 : cA = cG := Option.some.inj (fA.symm.trans (show s.vm.findClass ("[" ++ (FieldType.array ty).toString) = some cG from (hK.2 t0 _ ht0).2))
  have e2 : comp = cE := Option.some.inj (fC.symm.trans (hra _ (hK.2 t1 _ ht1).2))
  subst e1
  subst e2
  rw [eN, eM] at X' step
  generalize hF : Jvm.Free.Multi.fill (T.setVm vm₁) cA comp N M (defaultValue ty) N = F at X' step
  have hTh : (T.setVm vm₁).heap = H := hT
  obtain ⟨f1, f2, -, -⟩ := Jvm.Free.Multi.fill_facts (T.setVm vm₁) cA comp N M (defaultValue ty) N
  rw [hF, hTh] at f1 f2
  rw [mg_cell] at f2
  have hold : ∀ x : Nat, x < H.size → F.heap[x]? = H[x]? := fun x hx => by
    have h := Jvm.Free.Multi.fill_old (T.setVm vm₁) cA comp N M (defaultValue ty) (a := x) (by rw [hTh]; exact hx) N
    rw [hF, hTh] at h
    exact h
  have hrow : ∀ j : Nat, j < N → F.heap[H.size + 1 + j]? = some (vp_cell comp z) := fun j hj => by
    have h := Jvm.Free.Multi.fill_inner (T.setVm vm₁) cA comp N M (defaultValue ty) N j hj
    rw [hF, hTh, hz] at h
    exact h
  have hnew : ∀ (k9 : Nat) (x : Nat × va_E), ([(H.size, Sum.inl (cA, N, .inr (.inr (.inr (.inr (fun i => some (H.size + 1 + i)))))))] ++ gr N (fun i => (H.size + 1 + i, Sum.inl (comp, z))) : va_W)[k9]? = some x → x.1 = H.size + k9 ∧ va_at D cl x F.heap := fun k9 x hx => by
    cases k9 with
    | zero => cases hx; exact ⟨rfl, f2⟩
    | succ k9 =>
      have hx : (gr N (fun i => (H.size + 1 + i, Sum.inl (comp, z))) : va_W)[k9]? = some x := hx
      have h9 : k9 < N := by
        rcases Nat.lt_or_ge k9 N with h | h
        · exact h
        · rw [List.getElem?_eq_none (by rw [gr_len]; exact h)] at hx; cases hx
      rw [gr_at h9] at hx
      cases hx
      exact ⟨by show H.size + 1 + k9 = H.size + (k9 + 1); omega, hrow k9 h9⟩
  have hP2 : va_P D cl (ws ++ ([(H.size, Sum.inl (cA, N, .inr (.inr (.inr (.inr (fun i => some (H.size + 1 + i)))))))] ++ gr N (fun i => (H.size + 1 + i, Sum.inl (comp, z))))) F.heap :=
    (hP.kept (fun k9 x hx => hold x.1 ((hP k9 x hx).lt))).app (fun k9 x hx => (hnew k9 x hx).2)
  have hD2 : va_D A (ws ++ ([(H.size, Sum.inl (cA, N, .inr (.inr (.inr (.inr (fun i => some (H.size + 1 + i)))))))] ++ gr N (fun i => (H.size + 1 + i, Sum.inl (comp, z))))) := by
    refine hD.app ⟨fun i j x y hi hj hxy => ?_, fun k9 x hx => hA _ ?_⟩ (fun i j x y hi hj hxy => ?_)
    · have h1 := (hnew i x hi).1
      have h2 := (hnew j y hj).1
      omega
    · have h1 := (hnew k9 x hx).1
      have := hS.1
      omega
    · have h1 := (hP i x hi).lt
      have h2 := (hnew j y hj).1
      omega
  rw [← List.append_assoc] at hP2 hD2
  obtain ⟨t, a1, b1⟩ := kk H.size F.heap hP2 hD2 ⟨by rw [f1]; have := hS.1; omega, fun x h1 h2 => (hold x (Nat.lt_of_lt_of_le h1 hS.1)).trans (hS.2.1 x h1 h2), hS.2.2⟩ F rfl X'
  refine ⟨t, step t ?_, b1⟩
  have e : T.heap.size = H.size := by rw [hT]
  rw [e]
  exact a1
end MG
section LY
variable {D : va_G} {cl : List vw_C} {A : Nat → Prop} {X pl g ws : va_W} {o : Nat × va_E} {H H1 : Heap} {a q : Nat} {e e1 : va_E}
theorem ly_0 (h : va_P D cl ((X ++ [o]) ++ g) H) : va_P D cl ((X ++ [o]) ++ (g ++ [])) H := by rw [List.append_nil]; exact h
theorem ly_0D (h : va_D A ((X ++ [o]) ++ g)) : va_D A ((X ++ [o]) ++ (g ++ [])) := by rw [List.append_nil]; exact h
theorem ly_1 (h : va_P D cl (((X ++ (pl ++ [])) ++ [o]) ++ g) H) : va_P D cl ((X ++ [o]) ++ (pl ++ (g ++ []))) H := by
  rw [List.append_nil] at h ⊢
  rw [List.append_assoc (X ++ pl)] at h
  have h1 := va_P.swap h
  rw [← List.append_assoc X] at h1
  have h2 := va_P.swap h1
  rw [List.append_assoc (X ++ [o])] at h2
  exact h2
theorem ly_1D (h : va_D A (((X ++ (pl ++ [])) ++ [o]) ++ g)) : va_D A ((X ++ [o]) ++ (pl ++ (g ++ []))) := by
  rw [List.append_nil] at h ⊢
  rw [List.append_assoc (X ++ pl)] at h
  have h1 := va_D.swap h
  rw [← List.append_assoc X] at h1
  have h2 := va_D.swap h1
  rw [List.append_assoc (X ++ [o])] at h2
  exact h2
/-- one cell goes to a callee and comes back -/
theorem one_c (hP : va_P D cl ws H) (hq : ws[q]? = some (a, e)) : va_P D cl [(a, e)] H := fun k x hx => by
  have h0 : k < 1 := (List.getElem?_eq_some_iff.mp hx).1
  rw [show k = 0 by omega] at hx
  cases hx
  exact hP q _ hq
theorem one_d : va_D (fun _ => True) [(a, e)] := ⟨fun i j x y hi hj _ => by
  have h1 : i < 1 := (List.getElem?_eq_some_iff.mp hi).1
  have h2 : j < 1 := (List.getElem?_eq_some_iff.mp hj).1
  omega, fun _ _ _ => trivial⟩
theorem one_f {H0 : Heap} {locs : List Loc} (hD : va_D A ws) (hS : va_S A H0 H locs) (hA : ∀ q, H0.size ≤ q → A q) (hq : ws[q]? = some (a, e)) : ∀ x, va_A [(a, e)] H.size x → A x := by
  intro x hx
  rcases hx with ⟨k, y, hk⟩ | hx
  · have h0 : k < 1 := (List.getElem?_eq_some_iff.mp hk).1
    rw [show k = 0 by omega] at hk
    cases hk
    exact hD.2 q _ hq
  · exact hA x (Nat.le_trans hS.1 hx)
theorem one_j (hP : va_P D cl ws H) (hD : va_D A ws) (hq : ws[q]? = some (a, e)) (hk : ∀ x : Nat, x < H.size → ¬ va_A [(a, e)] H.size x → H1[x]? = H[x]?) (hP1 : va_P D cl [(a, e1)] H1) : va_P D cl (ws.set q (a, e1)) H1 ∧ va_D A (ws.set q (a, e1)) := by
  refine ⟨fun k x hx => ?_, hD.set hq⟩
  rw [List.getElem?_set] at hx
  split at hx
  · split at hx
    · cases hx
      exact hP1 0 _ rfl
    · cases hx
  · rename_i hne
    have h1 := hP k x hx
    refine (va_P.kept (ws := [x]) (H := H) (fun j y hy => ?_) (fun j y hy => ?_)) 0 x rfl
    · have h0 : j < 1 := (List.getElem?_eq_some_iff.mp hy).1
      rw [show j = 0 by omega] at hy
      cases hy
      exact h1
    · have h0 : j < 1 := (List.getElem?_eq_some_iff.mp hy).1
      rw [show j = 0 by omega] at hy
      cases hy
      refine hk x.1 h1.lt (fun hA1 => ?_)
      rcases hA1 with ⟨k9, y9, h9⟩ | h9
      · have h0 : k9 < 1 := (List.getElem?_eq_some_iff.mp h9).1
        rw [show k9 = 0 by omega] at h9
        have h8 : (a, e) = (x.1, y9) := Option.some.inj h9
        exact hne (hD.1 q k _ x hq hx (by rw [h8]))
      · exact absurd h1.lt (Nat.not_lt.mpr h9)
end LY
theorem up2_lt {M : Nat → Nat → Int32} {k w : Nat} {v : Int32} (h : ∀ j, j < k → ∀ i, i < w → M j i = v) : ∀ j, j < k + 1 → ∀ i, i < w → up2 M k (fun _ => v) j i = v := fun j hj i hi => by
  by_cases e : j = k
  · subst e; simp [up2]
  · simp only [up2, if_neg e]; exact h j (by omega) i hi
/-- rows that hold the same numbers are the same rows -/
theorem gr_same {D : va_G} {cl : List vw_C} {A : Nat → Prop} {X Y : va_W} {n : Nat} {r : Nat → Nat} {f1 f2 : Nat → va_E} {H : Heap} (hP : va_P D cl (X ++ (gr n (fun i => (r i, f1 i)) ++ Y)) H) (hD : va_D A (X ++ (gr n (fun i => (r i, f1 i)) ++ Y))) (h : ∀ i, i < n → va_at D cl (r i, f1 i) H → va_at D cl (r i, f2 i) H) : va_P D cl (X ++ (gr n (fun i => (r i, f2 i)) ++ Y)) H ∧ va_D A (X ++ (gr n (fun i => (r i, f2 i)) ++ Y)) := by
  have key : ∀ (k : Nat) (x : Nat × va_E), (X ++ (gr n (fun i => (r i, f2 i)) ++ Y))[k]? = some x → ∃ y, (X ++ (gr n (fun i => (r i, f1 i)) ++ Y))[k]? = some y ∧ y.1 = x.1 ∧ (va_at D cl y H → va_at D cl x H) := fun k x hx => by
    by_cases h1 : k < X.length
    · rw [List.getElem?_append_left h1] at hx ⊢
      exact ⟨x, hx, rfl, id⟩
    · rw [List.getElem?_append_right (by omega)] at hx ⊢
      by_cases h2 : k - X.length < n
      · rw [List.getElem?_append_left (by rw [gr_len]; exact h2), gr_at h2] at hx ⊢
        cases hx
        exact ⟨_, rfl, rfl, h _ h2⟩
      · rw [List.getElem?_append_right (by rw [gr_len]; omega), gr_len] at hx ⊢
        exact ⟨x, hx, rfl, id⟩
  refine ⟨fun k x hx => ?_, fun i j p q hi hj hpq => ?_, fun k x hx => ?_⟩
  · obtain ⟨y, h1, -, h3⟩ := key k x hx
    exact h3 (hP k y h1)
  · obtain ⟨y, h1, h2, -⟩ := key i p hi
    obtain ⟨z, h3, h4, -⟩ := key j q hj
    exact hD.1 i j y z h1 h3 (by rw [h2, h4, hpq])
  · obtain ⟨y, h1, h2, -⟩ := key k x hx
    rw [← h2]
    exact hD.2 k y h1
theorem fn_g {D : va_G} {cl : List vw_C} {A : Nat → Prop} {X Y : va_W} {k : ClassId} {n w : Nat} {r : Nat → Nat} {M M2 : Nat → Nat → Int32} {H : Heap} (hP : va_P D cl (X ++ (gI k n w r M ++ Y)) H) (hD : va_D A (X ++ (gI k n w r M ++ Y))) (h : ∀ a i, a < n → i < w → M a i = M2 a i) : va_P D cl (X ++ (gI k n w r M2 ++ Y)) H ∧ va_D A (X ++ (gI k n w r M2 ++ Y)) :=
  gr_same hP hD (fun i hi x => by
    show H[r i]? = some (vp_cell k (w, .inl (M2 i)))
    rw [← cell_i (fun j hj => h i j hi hj)]
    exact x)
theorem ly_2 {D : va_G} {cl : List vw_C} {rx l9 t9 pl : va_W} {H : Heap} (h : va_P D cl ((rx ++ (l9 ++ t9)) ++ pl) H) : va_P D cl ((rx ++ l9) ++ (pl ++ t9)) H := by
  rw [← List.append_assoc rx] at h
  have h1 := va_P.swap h
  rw [List.append_assoc (rx ++ l9)] at h1
  exact h1
theorem ly_2D {A : Nat → Prop} {rx l9 t9 pl : va_W} (h : va_D A ((rx ++ (l9 ++ t9)) ++ pl)) : va_D A ((rx ++ l9) ++ (pl ++ t9)) := by
  rw [← List.append_assoc rx] at h
  have h1 := va_D.swap h
  rw [List.append_assoc (rx ++ l9)] at h1
  exact h1
