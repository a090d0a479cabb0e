/-! a call that comes back or throws; the throw itself; the catch -/
section TH
variable {p : Program} {l : Launch} {e : Env} {R : Room} {s : State} {m : MethodId} {args : Array Value} {below : List Frame} {meth : Method} {c : Code} {H : Heap} {locs : List Loc} {cells slots : Nat} {Q Q' : State → Prop}
theorem W_mono {g : JFrame} (h : ∀ t, Q t → Q' t) (k : W p l e R s m args below meth c H locs cells slots Q g) : W p l e R s m args below meth c H locs cells slots Q' g := fun T hT X => by
  obtain ⟨t, a, b⟩ := k T hT X
  exact ⟨t, a, h t b⟩
/-- how an invocation leaves the state, whether it comes back or throws -/
def FE (first t : State) (L : List Loc) (k n : Nat) : Prop := first.WarmedH t.vm ∧ first.sameButNew ({ t with vm := first.vm } : State) L k n
def MTQ (below : List Frame) (Qc : Array Value → State → Outcome → State → Prop) (a : Array Value) (s : State) (mc ms : Nat) (free : Addr → Prop) : State → Prop := fun t =>
  ∃ o, t.status = .running ∧ Ended t below o ∧ Qc a s o t ∧ ∃ L, FE s t L mc ms ∧ ∀ q ∈ L, free q.base
/-- a contract of a method that may throw -/
def MetT (l : Launch) (y : MethodName) (ws : List Cond) (rm : Room) (Pc : Array Value → State → Prop) (Qc : Array Value → State → Outcome → State → Prop) (mc ms : Nat) (free : Addr → Prop) : Prop :=
  MetFree l y (headSpec ws rm) Pc (fun _ _ _ _ _ => True) (fun a st o t => Qc a st o t ∧ ∃ L, FE st t L mc ms ∧ ∀ q ∈ L, free q.base)
theorem mtq_of {Qc Qc' : Array Value → State → Outcome → State → Prop} {a : Array Value} {mc ms : Nat} {free : Addr → Prop} (h : ∀ o t, Qc a s o t → Qc' a s o t) (t : State) (q : MQ below Qc a s mc ms free t) : MTQ below Qc' a s mc ms free t := by
  obtain ⟨o, h1, h2, h3, L, h4, h5⟩ := q
  exact ⟨o, h1, h2, h o t h3, L, h4.2, h5⟩
theorem MetT.ofW {y : MethodName} {ws ws' : List Cond} {rm : Room} {Pc : Array Value → State → Prop} {Qc : Array Value → State → Outcome → State → Prop} {mc ms : Nat} {free : Addr → Prop} {cc : ByteArray} {maxL : Nat} {ret : Option FieldType}
    (hy : plainName y.cls = true) (hw : ws = Cond.code y cc maxL ret :: ws')
    (body : ∀ p e s m args below meth c s₁, BodyLoose p l y (headSpec ws rm) cc maxL ret e s m args below meth c s₁ → c.maxLocals = maxL → Pc args s →
      W p l e (headSpec ws rm).room s m args below meth c s.heap [] 0 0 (MTQ below Qc args s mc ms free) (entryFrame m args maxL)) : MetT l y ws rm Pc Qc mc ms free := by
  refine MetFree.of_bodyS (code := cc) (maxLocals := maxL) (ret := ret) hy (fun args s m h hn => ?_) (fun p e s m args below meth c s₁ B hml hP _ => ?_)
  · obtain ⟨meth, c, h1, h2, h3, h4, h5, h6, -, -⟩ := Cond.code_spec hn (atoms_spec (ws := ws) h _ (by rw [hw]; exact List.mem_cons_self))
    exact ⟨meth, c, h1, h2, h3, h4, h5, h6⟩
  · have h0 : s₁.heap = s.heap := by rw [B.state]; rfl
    obtain ⟨t, a1, o, b1, b2, b3, b4⟩ := body p e s m args below meth c s₁ B hml hP s₁ h0 (Stand.of_body B)
    exact ⟨t, o, a1, b1, b2, b3, b4⟩
/-- the call: it comes back, or the note of a throw lies over the caller's frame -/
theorem mt_call {y : MethodName} {ws : List Cond} {rm : Room} {Pc : Array Value → State → Prop} {Qc : Array Value → State → Outcome → State → Prop} {mc ms : Nat} {free : Addr → Prop} {bytes : ByteArray} {maxL : Nat} {ret : Option FieldType}
    (hM : MetT l y ws rm Pc Qc mc ms free) (hrc : rm.cells = mc) (hrs : rm.slots = ms) (hfr : rm.frames + 1 ≤ R.frames) (hlo : 8 + (maxL + 11) + rm.locals ≤ R.locals)
    (hws : ∀ w ∈ ws, ∀ (a' : Array Value) (U : State), s.WarmedH U.vm → w.before a' U = true) (hcode : Cond.code y bytes maxL ret ∈ ws) (hini : ∀ (a' : Array Value) (U : State), s.WarmedH U.vm → (Cond.initialized y.cls).before a' U = true)
    {T : State} (X : Stand p l e R s m args below meth c T locs cells slots) {g : JFrame} (hg : g.method = m) (hsize : g.locals.size = c.maxLocals) {ig : Instr} {len : Nat} (hdg : decode c.code g.pc = .ok (ig, len))
    (hW : 2 * g.monitorRoom + (g.stack.map fun v => v.category).sum ≤ 8) {mk : MethodId} (hn : T.methodNamed? y = some mk) {a : Array Value} (hP : Pc a (T.calling g mk a)) (hc : cells + mc ≤ R.cells) (hs : slots + ms ≤ R.slots) :
    ∃ (o : Outcome) (t T' : State) (L : List Loc), Stand p l e R s m args below meth c T' (locs ++ L) (cells + mc) (slots + ms) ∧ T'.heap = t.heap ∧ T'.vm = t.vm ∧ Qc a (T.calling g mk a) o t ∧ (∀ q ∈ L, free q.base) ∧
      ((∃ v, o = .returned v ∧ Steps p.tables e below (doInvoke e (T.setTop g) [] mk a).1 (T'.setTop { g with pc := g.pc + len, stack := v.toList ++ g.stack })) ∨
        ∃ x, o = .threw x ∧ Steps p.tables e below (doInvoke e (T.setTop g) [] mk a).1 ((T'.setTop g).pushFrame (.throwing x))) := by
  obtain ⟨methY, cY, hmY, hcY, -, hlY, -, -, -, -⟩ := Cond.code_spec hn (hws _ hcode a _ X.warmed)
  obtain ⟨kY, hkY, -⟩ := className_of_methodNamed hn
  have hinitY : kY.init = .initialized := Cond.initialized_spec (findClass_of_methodNamed hn) hkY (hini a _ X.warmed)
  have h : At T g.method c below := by rw [hg]; exact X.here
  have happ : (headSpec ws rm).appliesLoose y e.platform (T.calling g mk a) = true :=
    Spec.appliesLoose_calling (g := g) h hdg hn hkY hinitY
      (X.room_calling (g := g) (R' := (headSpec ws rm).room) hsize hmY hcY hfr (by rw [hlY]; show _ + _ + rm.locals ≤ _; omega) (by rw [show (headSpec ws rm).room.cells = mc from hrc]; exact hc) (by rw [show (headSpec ws rm).room.slots = ms from hrs]; exact hs)) (atoms_intro fun w hw => hws w hw _ _ X.warmed)
  obtain ⟨mid, hmid⟩ := h.above
  have hfrm : (T.setTop g).frames = (.java g :: mid) ++ below := by rw [State.frames_setTop' g h.top, hmid]; rfl
  obtain ⟨o, s₂, hsteps, -, hend, hq⟩ := Steps.callFree hM p X.admits X.cas X.clock (acts := []) hfrm happ hP trivial
  obtain ⟨hq, L, hfe, hL⟩ : Qc a (T.calling g mk a) o s₂ ∧ ∃ L, FE (T.calling g mk a) s₂ L mc ms ∧ ∀ q ∈ L, free q.base := hq
  rw [State.frames_setTop' g h.top] at hend
  obtain ⟨hW₂, e2, q2, q3, q4, q5, q6⟩ := id hfe
  have e3 : s₂ = ({ (T.calling g mk a).setFrames s₂.frames with heap := s₂.heap, slotsUsed := s₂.slotsUsed } : State).setVm s₂.vm := by
    have e4 : s₂ = ({ s₂ with vm := (T.calling g mk a).vm } : State).setVm s₂.vm := rfl
    rw [e2] at e4
    exact e4
  have hW' : T.WarmedH s₂.vm := hW₂
  obtain ⟨g₀, hg0⟩ := Option.isSome_iff_exists.mp h.top
  obtain ⟨r, hr⟩ := State.topJava?_eq_some.mp hg0
  have hr' : (({ T with heap := s₂.heap, slotsUsed := s₂.slotsUsed } : State).setVm s₂.vm).frames = .java g₀ :: r := hr
  have hsame : T.sameButNew ({ T with heap := s₂.heap, slotsUsed := s₂.slotsUsed } : State) L mc ms := by
    refine ⟨?_, q2, q3, q4, q5, q6⟩
    obtain ⟨t, ht, -⟩ := State.frames_cons hr
    show ({ T with heap := s₂.heap, slotsUsed := s₂.slotsUsed } : State) = { T.setFrames T.frames with heap := s₂.heap, slotsUsed := s₂.slotsUsed }
    rw [State.setFrames_self ht]
  have XX : Stand p l e R s m args below meth c (({ T with heap := s₂.heap, slotsUsed := s₂.slotsUsed } : State).setVm s₂.vm) (locs ++ L) (cells + mc) (slots + ms) :=
    ⟨X.admits, X.cas, X.clock, X.frames, X.room, X.hears, X.method, X.code, (X.here.setHeapUsed s₂.heap s₂.slotsUsed).setVm hW'.alike, X.tail, State.WarmedH.trans X.warmed hW', X.limits, X.bytes, X.same.trans (hsame.setVm s.vm)⟩
  refine ⟨o, s₂, ({ T with heap := s₂.heap, slotsUsed := s₂.slotsUsed } : State).setVm s₂.vm, L, XX, rfl, rfl, hq, hL, ?_⟩
  cases o with
  | returned v =>
    obtain ⟨c₂, i₂, len₂, hc₂, hd₂, hf₂⟩ := hend
    have hcc : c₂ = c := by
      have h1 : s₂.code? g.method = T.code? g.method := by rw [State.code?_eq, State.code?_eq, hW'.alike.method?]
      exact Option.some.inj (hc₂.symm.trans (h1.trans h.code))
    subst hcc
    have hlen : len₂ = len := by rw [hdg] at hd₂; cases hd₂; rfl
    subst hlen
    refine Or.inl ⟨v, rfl, ?_⟩
    have hs₂ : s₂ = (({ T with heap := s₂.heap, slotsUsed := s₂.slotsUsed } : State).setVm s₂.vm).setTop { g with pc := g.pc + len₂, stack := v.toList ++ g.stack } := by
      refine e3.trans ?_
      rw [hf₂, State.calling_eq h.top, State.setFrames_setFrames, State.setTop_of_frames _ hr', hr]
      rfl
    rw [← hs₂]
    exact hsteps
  | threw x =>
    have hf₂ : s₂.frames = .throwing x :: .java g :: T.frames.tail := hend
    refine Or.inr ⟨x, rfl, ?_⟩
    have hs₂ : s₂ = ((({ T with heap := s₂.heap, slotsUsed := s₂.slotsUsed } : State).setVm s₂.vm).setTop g).pushFrame (.throwing x) := by
      refine e3.trans ?_
      rw [hf₂, State.calling_eq h.top, State.setFrames_setFrames, State.pushFrame, State.frames_setTop _ hr', State.setTop_of_frames _ hr', State.setFrames_setFrames, hr]
      rfl
    rw [← hs₂]
    exact hsteps
end TH
/-! the throw: where it stands, the words it needs, its end -/
section RB
variable {p : Program} {l : Launch} {e : Env} {R : Room} {s : State} {m : MethodId} {args : Array Value} {below : List Frame} {meth : Method} {c : Code} {T : State} {locs : List Loc} {cells slots : Nat}
theorem stand_re (X : Stand p l e R s m args below meth c T locs cells slots) (hc : cells ≤ R.cells) (hs : slots ≤ R.slots) :
    Stand p l e { R with cells := R.cells - cells, slots := R.slots - slots } ({ s with heap := T.heap, slotsUsed := T.slotsUsed } : State) m args below meth c T [] 0 0 := by
  have h1 := X.heapSize
  have h2 := X.used
  have hr := X.room
  have hb := X.book
  obtain ⟨e1, -⟩ := X.same
  refine ⟨X.admits, X.cas, X.clock, X.frames, ?_, X.hears, X.method, X.code, X.here, X.tail, X.warmed, X.limits, X.bytes, ?_⟩
  · simp only [State.hasRoom, Bool.and_eq_true, decide_eq_true_eq] at hr ⊢
    obtain ⟨⟨⟨⟨a1, a2⟩, a3⟩, a4⟩, a5⟩ := hr
    refine ⟨⟨⟨⟨a1, a2⟩, ?_⟩, ?_⟩, hb⟩
    · show T.heap.size + (R.cells - cells) ≤ _
      omega
    · show T.slotsUsed + (R.slots - slots) ≤ _
      omega
  · refine ⟨?_, Nat.le_refl _, Nat.le_refl _, ?_, ?_, fun a c' hc' => ⟨c', hc', rfl, rfl, fun _ _ => rfl⟩⟩
    · exact e1
    · have hd : List.drop T.heap.size T.heap.toList = [] := List.drop_eq_nil_of_le (by simp)
      show T.slotsUsed = T.slotsUsed + ((List.drop T.heap.size T.heap.toList).map _).sum
      rw [hd]; rfl
    · have hd : List.drop T.heap.size T.heap.toList = [] := List.drop_eq_nil_of_le (by simp)
      show ((List.drop T.heap.size T.heap.toList).map _).sum ≤ 0
      rw [hd]; exact Nat.le_refl _
theorem same_re (X : Stand p l e R s m args below meth c T locs cells slots) {t : State} {L : List Loc} {k n : Nat} (h : ({ s with heap := T.heap, slotsUsed := T.slotsUsed } : State).sameButNew ({ t with vm := s.vm } : State) L k n) : s.sameButNew ({ t with vm := s.vm } : State) (locs ++ L) (cells + k) (slots + n) := by
  refine X.same.trans ?_
  obtain ⟨h1, h2⟩ := h
  refine ⟨?_, h2⟩
  have e := X.same.1
  have e2 : (T.setVm s.vm).setFrames ({ t with vm := s.vm } : State).frames = ({ s.setFrames ({ t with vm := s.vm } : State).frames with heap := T.heap, slotsUsed := T.slotsUsed } : State) := by
    rw [e]
    show ({ (s.setFrames _).setFrames _ with heap := T.heap, slotsUsed := T.slotsUsed } : State) = _
    rw [State.setFrames_setFrames]
  rw [e2]
  exact h1
end RB
def OAl : List Cond := Bundle.ownAtoms "RoundColumns" 109 "java/lang/IllegalStateException" ["java/lang/RuntimeException", "java/lang/Exception"]
/-- cells of statics are as they were -/
def KS (H0 H : Heap) : Prop := ∀ (q : Nat) (cell : Cell), H0[q]? = some cell → cell.vm.isStatics = true → H[q]? = some cell
theorem oa_shift {A : Array Value} {s : State} {vm' : Vm} (hW : s.WarmedH vm') {c : Cond} (hc : c ∈ OAl) (h : c.before A s = true) : c.before A (s.setVm vm') = true := by
  have k : ∀ c ∈ OAl, c.keepsFace = true := by decide +kernel
  exact Cond.before_shiftedFace (State.Shifted.of_warmed hW) _ (k c hc) h
theorem ks_lays {A A' : Array Value} {u U : State} (hv : U.vm = u.vm) (hk : KS u.heap U.heap) {o n d : String} (h : (Cond.laysStatic o n d).before A u = true) : (Cond.laysStatic o n d).before A' U = true := by
  have e1 : U.fieldFound? o n d = u.fieldFound? o n d := by simp only [State.fieldFound?, hv]
  simp only [Cond.before, Cond.holds, Cond.value, hv, e1] at h ⊢
  cases h1 : u.vm.findClass o with
  | none => simp [h1] at h
  | some c =>
    cases h2 : u.fieldFound? o n d with
    | none => simp [h1, h2] at h
    | some x =>
      obtain ⟨c', k, i, f⟩ := x
      simp only [h1, h2] at h ⊢
      cases h3 : k.statics with
      | none => simp [h3] at h
      | some a =>
        cases h4 : u.heap[a]? with
        | none => simp [h3, h4] at h
        | some cell =>
          simp only [h3, Option.bind_some, h4, Option.map_some] at h ⊢
          have h5 : cell.vm.isStatics = true := by
            simp only [beq_iff_eq, Option.some.injEq, Bool.and_eq_true] at h
            exact h.1.1.1.2
          rw [hk a cell h4 h5]
          exact h
theorem ks_ref {A A' : Array Value} {u U : State} (hv : U.vm = u.vm) (hk : KS u.heap U.heap) {o n d : String} (h : (Cond.isRef (.static o n d)).before A u = true) : (Cond.isRef (.static o n d)).before A' U = true := by
  have e1 : ∀ b, U.fieldNamed? o n d b = u.fieldNamed? o n d b := fun b => by simp only [State.fieldNamed?, State.fieldFound?, hv]
  simp only [Cond.before, Cond.holds, Cond.value, Term.eval, e1] at h ⊢
  cases h1 : u.fieldNamed? o n d true with
  | none => simp [h1] at h
  | some x =>
    obtain ⟨c', k, i⟩ := x
    cases h3 : k.statics with
    | none => simp [h1, h3] at h
    | some a =>
      cases h4 : u.heap[a]? with
      | none => simp [h1, h3, h4] at h
      | some cell =>
        simp only [h1, h3, h4, Option.bind_eq_bind, Option.bind_some] at h ⊢
        by_cases h5 : cell.vm.isStatics = true
        · rw [hk a cell h4 h5]
          simp only [Option.bind_some]
          exact h
        · simp [h5] at h
def oaB : Cond → Bool
  | .laysStatic .. => true
  | .isRef (.static ..) => true
  | c => c.onTables
def OA (U : State) : Prop := ∀ c ∈ OAl, c.before #[] U = true
theorem oa_heap {A A' : Array Value} {u U : State} (hv : U.vm = u.vm) (hk : KS u.heap U.heap) {c : Cond} (hc : c ∈ OAl) (h : c.before A u = true) : c.before A' U = true := by
  have k : ∀ c ∈ OAl, oaB c = true := by decide +kernel
  have k : c.onTables = true ∨ (∃ o n d, c = .laysStatic o n d) ∨ ∃ o n d, c = .isRef (.static o n d) := by
    have q := k c hc
    unfold oaB at q
    split at q
    · exact Or.inr (Or.inl ⟨_, _, _, rfl⟩)
    · exact Or.inr (Or.inr ⟨_, _, _, rfl⟩)
    · exact Or.inl q
  rcases k with g | ⟨o, n, d, rfl⟩ | ⟨o, n, d, rfl⟩
  · have e := Cond.onTables_vm (A := A) (A' := A') (U := u) (U' := U) u.vm c g
    have e2 : u.setVm u.vm = u := rfl
    have e3 : U.setVm u.vm = U := by rw [← hv]; rfl
    rw [e2, e3] at e
    rw [← e]; exact h
  · exact ks_lays hv hk h
  · exact ks_ref hv hk h
theorem OA.moved {s U : State} (hW : s.WarmedH U.vm) (hk : KS s.heap U.heap) (h : OA s) : OA U := fun c hc => oa_heap (u := s.setVm U.vm) (U := U) rfl hk hc (oa_shift hW hc (h c hc))
theorem OA.any {A : Array Value} {s : State} (h : OA s) : ∀ c ∈ OAl, c.before A s = true := fun c hc => oa_heap (u := s) rfl (fun _ _ h1 _ => h1) hc (h c hc)
section TW
variable {p : Program} {l : Launch} {e : Env} {R : Room} {s : State} {m : MethodId} {args : Array Value} {below : List Frame} {meth : Method} {c : Code} {H : Heap} {locs : List Loc} {cells slots : Nat} {Q : State → Prop}
variable {cc : ByteArray} {pc : Nat} {ls : Array Slot} {rest : List Value}
/-- the invocation's beginning put where it stands now -/
theorem W_re {g : JFrame} (hc : cells ≤ R.cells) (hs : slots ≤ R.slots)
    (k : ∀ u : Nat, (∀ (t : State) (L : List Loc) (k n : Nat), ({ s with heap := H, slotsUsed := u } : State).sameButNew ({ t with vm := s.vm } : State) L k n → s.sameButNew ({ t with vm := s.vm } : State) (locs ++ L) (cells + k) (slots + n)) → W p l e { R with cells := R.cells - cells, slots := R.slots - slots } ({ s with heap := H, slotsUsed := u } : State) m args below meth c H [] 0 0 Q g) : W p l e R s m args below meth c H locs cells slots Q g := by
  intro T hT X
  subst hT
  exact k T.slotsUsed (fun t L k n h => same_re X h) T rfl (stand_re X hc hs)
/-- made by its constructor with a text, and thrown out of the method -/
theorem W_throw (hexec : p.tables.exec = Jvm.exec) (hb : c.code = cc) (hlk : meth.locks = false) (hml : c.maxLocals = ls.size) (htr : ∀ e : Env, l.admits e → e.platform.stackTraces = false) (hown : s.vm.findClass "RoundColumns" = some m.cls) (hoa : OA s)
    {y : MethodName} {bytes : ByteArray} {maxL : Nat} {ret : Option FieldType} (hnm : s.methodNamed? y = some m) (hcw : (Cond.code y bytes maxL ret).before args s = true) (hlocs : ∀ x ∈ locs, ∀ cell, s.heap[x.base]? = some cell → cell.vm.isStatics = false)
    {a : Addr} {cX : ClassId} {kX : Class} (hf : s.vm.findClass "java/lang/IllegalStateException" = some cX) (hk : s.vm.classes[cX]? = some kX) (hcell : H[a]? = some (freshCell cX kX)) (hnew : s.heap.size ≤ a) {q : Addr}
    (hd6 : decode cc pc = .ok (.invokespecial 109, 3)) (hd9 : decode cc (pc + 3) = .ok (.athrow, 1)) (hRf : 5 < R.frames) (hRl : ((Value.ref a :: rest).map fun v => v.category).sum + 81 ≤ R.locals)
    (hq : ∀ (U : State) (ce : Cell), U.status = .running → Ended U below (.threw a) → s.WarmedH U.vm → s.sameButNew ({ U with vm := s.vm } : State) locs cells slots → U.heap[a]? = some ce → s.vm.findClass "java/lang/IllegalStateException" = some ce.cls → s.vm.assignable ce.cls ce.cls = true → ce.vm = .none → Q U) : W p l e R s m args below meth c H locs cells slots Q (F0 m pc ls (.ref q :: .ref a :: .ref a :: rest)) := by
  intro T hT X
  obtain ⟨meth', c', g1, g2, -, -, -, -, g3, -⟩ := Cond.code_spec hnm hcw
  cases X.method.symm.trans g1
  cases X.code.symm.trans g2
  have hex : c.exceptionTable.toList = [] := by
    have h0 : c.exceptionTable.size = 0 := by simpa [Array.isEmpty] using g3
    exact List.eq_nil_of_length_eq_zero (by simpa using h0)
  obtain ⟨U, st, h1, h2, h3, h4, ce, h5, h6⟩ := X.ctorThrowS (names := ["java/lang/RuntimeException", "java/lang/Exception"]) hexec (htr e X.admits) hown (by decide +kernel) (by decide +kernel) hoa.any hlocs hf hk (by rw [hT]; exact hcell) hnew (msg := .ref q) rfl (g := F0 m pc ls (.ref q :: .ref a :: .ref a :: rest)) rfl hml.symm rfl rfl (rest := rest) rfl (by rw [hb]; exact hd6) (by rw [hb]; exact hd9) (fun x hx => by rw [hex] at hx; cases hx) hRf (by show 2 * 0 + _ + _ ≤ _; simp only [List.length_cons, List.length_nil]; omega) hlk
  exact ⟨U, st, hq U ce h1 h2 h3 h4 h5 h6.cls h6.self h6.vm⟩
end TW
/-- the words that outlive a call hold where the heap alone is another -/
theorem gw_re {A : Array Value} {s : State} {H : Heap} {u : Nat} {w : Cond} (hw : w ∈ gw) (h : w.before A s = true) : w.before A ({ s with heap := H, slotsUsed := u } : State) = true := word_at (U := ({ s with heap := H, slotsUsed := u } : State)) (State.WarmedH.refl s) (good_of_word (List.mem_filter.mp hw).2) h
theorem same_kept {s2 U : State} {k n : Nat} (h : s2.sameButNew ({ U with vm := s2.vm } : State) [] k n) : ∀ q : Nat, q < s2.heap.size → U.heap[q]? = s2.heap[q]? := fun q hq => by
  obtain ⟨c', h1, h2, h3, h4⟩ := h.2.2.2.2.2 q _ (Array.getElem?_eq_getElem hq)
  have e : c'.slots = s2.heap[q].slots := Array.ext_getElem? fun i => h4 i (by simp)
  rw [e] at h2
  rw [Array.getElem?_eq_getElem hq]
  rw [← show c' = s2.heap[q] from h2]
  exact h1
theorem wP_kept {D : va_G} {cl : List vw_C} {ws : va_W} {H H1 : Heap} (hP : va_P D cl ws H) (h : ∀ q : Nat, q < H.size → H1[q]? = H[q]?) : va_P D cl ws H1 := fun k q hq => (hP k q hq).kept (h q.1 (hP k q hq).lt)
/-- the cells of a world are no statics -/
theorem ks_world {D : va_G} {cl : List vw_C} {ws : va_W} {H0 H : Heap} {A : Nat → Prop} {locs : List Loc} (hP : va_P D cl ws H0) (hA : ∀ q, A q → (∃ (k : Nat) (e : va_E), ws[k]? = some (q, e)) ∨ H0.size ≤ q) (hS : va_S A H0 H locs) : KS H0 H := fun q cell h1 h2 => by
  have hlt : q < H0.size := (Array.getElem?_eq_some_iff.mp h1).1
  by_cases ha : A q
  · exfalso
    rcases hA q ha with ⟨k, e, hk⟩ | hq
    · have hp := hP k _ hk
      cases e with
      | inl a =>
        have h3 : H0[q]? = some (vp_cell a.1 a.2) := hp
        rw [h1] at h3
        cases h3
        obtain ⟨c9, n9, f9⟩ := a
        rcases f9 with f | f | f | f | f <;> cases h2
      | inr o =>
        obtain ⟨r, -, hob⟩ := hp
        obtain ⟨cell', g1, -, g2, -⟩ := hob
        have e : cell' = cell := Option.some.inj (g1.symm.trans h1)
        subst e
        rw [g2] at h2
        cases h2
    · omega
  · rw [hS.2.1 q hlt ha]; exact h1
