/-! calls of a method that may throw; calls of a method with a table of handlers; the catch -/
section CT
variable {p : Program} {l : Launch} {e : Env} {R : Room} {s : State} {m : MethodId} {args : Array Value} {below : List Frame} {meth : Method} {c : Code} {H : Heap} {locs : List Loc} {cells slots : Nat} {Q : State → Prop}
variable {y : MethodName} {bytes cc : ByteArray} {maxL nL mc ms n index pc : Nat} {ret : Option FieldType} {ws : List Cond} {rm : Room} {Pc : Array Value → State → Prop} {Qc : Array Value → State → Outcome → State → Prop} {free : Addr → Prop} {Ts : List Cond} {own C : String} {b : Addr} {As rest : List Value} {ls : Array Slot} {hh : List (Nat × Nat × Nat × Nat)}
theorem W_callT (S : CallFix p m c cc nL s args Ts own) (hM : MetT l y ws rm Pc Qc mc ms free) (cw : CallW R s args own C index y bytes maxL ret ws rm mc ms n) (hp : PreV s H C b Pc As) {st0 : List Value} (hst : st0 = As.reverse ++ .ref b :: rest)
    (hn : As.length = n) (hsize : ls.size = nL) (hW : (rest.map fun v => v.category).sum ≤ 8) (hdg : decode cc pc = .ok (.invokevirtual index, 3)) (hf : cells + mc ≤ R.cells ∧ slots + ms ≤ R.slots)
    (kr : ∀ (v : Option Value) (st₀ t T' : State) (L : List Loc), st₀.heap = H → T'.heap = t.heap → T'.vm = t.vm → (∀ q ∈ L, free q.base) → Qc (Value.ref b :: As).toArray st₀ (.returned v) t → Stand p l e R s m args below meth c T' (locs ++ L) (cells + mc) (slots + ms) → ∃ t2, Steps p.tables e below (T'.setTop (F0 m (pc + 3) ls (v.toList ++ rest))) t2 ∧ Q t2)
    (kt : ∀ (x : Addr) (st₀ t T' : State) (L : List Loc), st₀.heap = H → T'.heap = t.heap → T'.vm = t.vm → (∀ q ∈ L, free q.base) → Qc (Value.ref b :: As).toArray st₀ (.threw x) t → Stand p l e R s m args below meth c T' (locs ++ L) (cells + mc) (slots + ms) → ∃ t2, Steps p.tables e below ((T'.setTop (F0 m pc ls rest)).pushFrame (.throwing x)) t2 ∧ Q t2) :
    W p l e R s m args below meth c H locs cells slots Q (F0 m pc ls st0) := by
  subst hst
  obtain ⟨⟨hrc, hrs, hfr, hlo, hws, hcw, hcode, hini, hy, hlen, hl⟩, hin, hse⟩ := cw
  obtain ⟨hx, hb, hml, ho, -⟩ := S
  obtain ⟨hbl, ⟨cellB, hcB, hoB, hclB⟩, hPc⟩ := hp
  intro T hT X
  obtain ⟨mk, methM, hnamed, hmethM, hstM, habM⟩ := Cond.instanceMethod_spec hin
  obtain ⟨methM', cM, hmethM', -, -, -, -, -, -, hsigM⟩ := Cond.code_spec hnamed hcode
  cases hmethM.symm.trans hmethM'
  obtain ⟨c2, r2, m2, q1, q2, q3, q4, kP, hkP, hkPi⟩ := Cond.selects_spec hse
  cases hclB.symm.trans q1
  cases (State.methodFound?_of_named hnamed hy).symm.trans q2
  cases hnamed.symm.trans q3
  have hselP : selectMethod e.platform s.vm cellB.cls mk = .method mk := by rw [Launch.admits_selectMethod X.admits]; exact q4
  obtain ⟨vm₁, X₁, hstep₁⟩ := X.invokevirtual hx ho hl hnamed hmethM hstM hkP hkPi hy (a := b) (cell := cellB) (by rw [hT]; exact hcB)
    (fun z h => by rw [h] at hoB; cases hoB) hselP hmethM habM hkP hkPi (g := F0 m pc ls (As.reverse ++ .ref b :: rest)) rfl (argsL := As) (rest := rest) (hn.trans (hlen _ hsigM)) rfl (by rw [hb]; exact hdg)
  have hini' : ∀ (a' : Array Value) (U : State), s.WarmedH U.vm → (Cond.initialized y.cls).before a' U = true := fun a' U hW9 => word_at hW9 (Or.inl (by first | rfl | simp [Cond.onTables, Cond.keeps, Cond.steady])) hini
  obtain ⟨o, t, T', L, X', e1, e2, hq, hL, hor⟩ := mt_call (bytes := bytes) (maxL := maxL) (ret := ret) hM hrc hrs hfr hlo hws hcw hini' X₁ (g := F0 m pc ls rest) rfl (hsize.trans hml.symm) (ig := .invokevirtual index) (len := 3) (by rw [hb]; exact hdg) (by show 2 * 0 + (rest.map fun v => v.category).sum ≤ 8; omega) (mk := mk) (X₁.named hnamed) (a := (Value.ref b :: As).toArray)
    (hbl _ _ _ _ (hPc (T.setVm vm₁) hT X₁.warmed)) hf.1 hf.2
  rcases hor with ⟨v, rfl, st⟩ | ⟨x, rfl, st⟩
  · obtain ⟨t2, a2, b2⟩ := kr v ((T.setVm vm₁).calling (F0 m pc ls rest) mk (Value.ref b :: As).toArray) t T' L hT e1 e2 hL hq X'
    exact ⟨t2, hstep₁ _ fun acts => by rw [doInvoke_state]; exact st.trans a2, b2⟩
  · obtain ⟨t2, a2, b2⟩ := kt x ((T.setVm vm₁).calling (F0 m pc ls rest) mk (Value.ref b :: As).toArray) t T' L hT e1 e2 hL hq X'
    exact ⟨t2, hstep₁ _ fun acts => by rw [doInvoke_state]; exact st.trans a2, b2⟩
/-- a static method that has handlers -/
theorem runSW (S : CallFix p m c cc nL s args Ts own) (hM : Met l y ws rm Pc Qc mc ms free) (hrc : rm.cells = mc) (hrs : rm.slots = ms) (hfr : rm.frames + 1 ≤ R.frames) (hlo : 8 + (maxL + 11) + rm.locals ≤ R.locals)
    (hws : ∀ w ∈ ws, ∀ (a' : Array Value) (U : State), s.WarmedH U.vm → w.before a' U = true) (hcw : Cond.codeWith y bytes maxL ret hh ∈ ws) (hcode : (Cond.codeWith y bytes maxL ret hh).before args s = true) (hini : (Cond.initialized y.cls).before args s = true) (hy : y.cls ≠ "java/lang/invoke/MethodHandle" ∧ y.cls ≠ "java/lang/invoke/VarHandle") (hlen : ∀ sig, parseMethodDescriptor y.desc = some sig → n = sig.parameters.length) (hl : (Cond.methodLink own index y).before args s = true) (hstt : (Cond.static y).before args s = true) (hp : PreS s H Pc As)
    {g : JFrame} (hg : g.method = m) (hn : As.length = n) (hsize : g.locals.size = nL) (hstack : g.stack = As.reverse ++ rest) (hW : 2 * g.monitorRoom + (rest.map fun v => v.category).sum ≤ 8) (hdg : decode cc g.pc = .ok (.invokestatic index, 3)) (hf : cells + mc ≤ R.cells ∧ slots + ms ≤ R.slots) :
    va_Run p l e R s m args below meth c H locs cells slots mc ms g rest (Qc As.toArray) (free) := by
  have hK : Back l R p e below s args y 3 8 (PreOf R mc ms Pc) (PostOf Qc mc ms free) := va_backW (bytes := bytes) (maxL := maxL) (ret := ret) (hh := hh) hM hp.1 hrc hrs hfr hlo hws hcw (fun a' U hW9 => word_at hW9 (Or.inl (by first | rfl | simp [Cond.onTables, Cond.keeps, Cond.steady])) hini)
  obtain ⟨hx, hb, hml, ho, -⟩ := S
  intro T hT X
  obtain ⟨mk, methM, cM, hnamed, hmethM, -, -, -, -, -, -, hsigM⟩ := Cond.codeWith_spec hcode
  have hstatic : methM.isStatic = true := Cond.static_spec hnamed hmethM hstt
  obtain ⟨kP, hkP, -⟩ := className_of_methodNamed hnamed
  have hinitP : kP.init = .initialized := Cond.initialized_spec (findClass_of_methodNamed hnamed) hkP hini
  obtain ⟨vm₁, X₁, hstep₁⟩ := X.invokestatic hx ho hl hnamed hmethM hstatic hkP hinitP hy (g := g) hg (argsL := As) (rest := rest) (hn.trans (hlen _ hsigM)) hstack (by rw [hb]; exact hdg)
  obtain ⟨v, ⟨U', l2, c2, s2⟩, X', ⟨g', mk', t, L, e1, e2, hq, h1, hL, h2, h3⟩, hsteps⟩ := hK m meth c ⟨T.setVm vm₁, locs, cells, slots⟩ { g with stack := rest } (.invokestatic index) mk As.toArray X₁ hg (hsize.trans hml.symm) (by rw [hb]; exact hdg) hW (X₁.named hnamed) ⟨hf.1, hf.2, hp.2 (T.setVm vm₁) hT X₁.warmed⟩
  dsimp only [Pt.U, Pt.locs, Pt.cells, Pt.slots] at X' e1 e2 h1 h2 h3 hsteps
  subst h1; subst h2; subst h3
  exact ⟨v, (T.setVm vm₁).calling g' mk' As.toArray, t, U', L, hT, X', hL, e1, e2, hq, fun target h => hstep₁ _ fun acts => by rw [doInvoke_state]; exact hsteps.trans h⟩
/-- the exception that lies there is caught in the method's one handler -/
theorem W_catch {x : Addr} {T' : State} {locs' : List Loc} {cells' slots' : Nat} {st1 : List Value} (X : Stand p l e R s m args below meth c T' locs' cells' slots') (hown : s.vm.findClass own = some m.cls) {e0 e1 e2 e3 : Nat} (hnm : s.methodNamed? y = some m) (hcode : (Cond.codeWith y bytes maxL ret [(e0, e1, e2, e3)]).before args s = true) (hin : e0 ≤ pc ∧ pc < e1) (h3 : e3 ≠ 0) (hlink : (Cond.classLink own e3 "java/lang/IllegalStateException").before args s = true)
    {ce : Cell} (hce : T'.heap[x]? = some ce) (hv : ce.vm = .none) (hf : s.vm.findClass "java/lang/IllegalStateException" = some ce.cls) (ha : s.vm.assignable ce.cls ce.cls = true)
    (k : W p l e R s m args below meth c T'.heap locs' cells' slots' Q (F0 m e2 ls [.ref x])) : ∃ t2, Steps p.tables e below ((T'.setTop (F0 m pc ls st1)).pushFrame (.throwing x)) t2 ∧ Q t2 := by
  obtain ⟨mk, methM, cM, hnamed, hmethM, hcM, -, -, htab, -⟩ := Cond.codeWith_spec hcode
  cases hnm.symm.trans hnamed
  cases X.method.symm.trans hmethM
  cases X.code.symm.trans hcM
  obtain ⟨x0, hx0, hx1⟩ : ∃ x0, c.exceptionTable.toList = [x0] ∧ (x0.startPc, x0.endPc, x0.handlerPc, x0.catchType) = (e0, e1, e2, e3) := by
    cases hh9 : c.exceptionTable.toList with
    | nil => rw [hh9] at htab; cases htab
    | cons x0 r0 =>
      rw [hh9] at htab
      cases r0 with
      | nil => exact ⟨x0, rfl, (List.cons.inj htab).1⟩
      | cons y0 z0 => cases htab
  obtain ⟨g0, g1, g2, g3⟩ : x0.startPc = e0 ∧ x0.endPc = e1 ∧ x0.handlerPc = e2 ∧ x0.catchType = e3 := by
    simpa [Prod.ext_iff] using hx1
  obtain ⟨vm', X', st⟩ := X.caughtLink x (g := F0 m pc ls st1) rfl hown [] x0 [] hx0 (fun _ h => by cases h) (by simp only [covers, g0, g1]; simp [hin.1, hin.2]) (by rw [g3]; exact h3) (by rw [g3]; exact hlink) hf hce (by rw [hv]; rfl) ha
  obtain ⟨t2, a2, b2⟩ := k (T'.setVm vm') rfl X'
  rw [X.pushThrowing_eq]
  exact ⟨t2, st t2 (by rw [g2]; exact a2), b2⟩
end CT
