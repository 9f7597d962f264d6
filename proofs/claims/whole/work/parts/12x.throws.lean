/-! methods that throw (draft, not yet tried): MetT: the method ends by throwing an object of the class exn k; nothing that was there has changed, one cell of six slots is new -/
def exn (k : Nat) : String := match k with
  | 0 => "java/lang/IllegalArgumentException"
  | 1 => "java/lang/IllegalStateException"
  | _ => "java/lang/IndexOutOfBoundsException"
def xnames : List String := ["java/lang/RuntimeException", "java/lang/Exception"]
/-- the words of a throw that no list of steady words carries -/
def xwords : List Cond := [.declares (Bundle.init0 "java/lang/RuntimeException"), .declares (Bundle.init0 "java/lang/Exception"), .declares (Bundle.init0 Bundle.tN), .castable (exn 0) (exn 0), .castable (exn 1) (exn 1), .castable (exn 2) (exn 2), .isRef (.static Bundle.tN "UNASSIGNED_STACK" Bundle.steD), .isRef (.static Bundle.tN "SUPPRESSED_SENTINEL" Bundle.listD), .laysStatic Bundle.tN "UNASSIGNED_STACK" Bundle.steD, .laysStatic Bundle.tN "SUPPRESSED_SENTINEL" Bundle.listD]
def XW (U : State) : Prop := ∀ w ∈ xwords, w.before #[] U = true
def TX (k : Nat) (s : State) (x : Addr) (t : State) : Prop := ∃ ce : Cell, t.heap[x]? = some ce ∧ s.vm.findClass (exn k) = some ce.cls ∧ ce.vm.isStatics = false
def QT (below : List Frame) (k : Nat) (s : State) : State → Prop := fun t => ∃ x, t.status = .running ∧ Ended t below (.threw x) ∧ TX k s x t ∧ s.WarmedH t.vm ∧ s.sameButNew ({ t with vm := s.vm } : State) [] 1 6
def MetT (l : Launch) (y : MethodName) (ws : List Cond) (rm : Room) (Pc : Array Value → State → Prop) (k : Nat) : Prop :=
  MetFree l y (headSpec ws rm) Pc (fun _ _ _ _ _ => True) (fun _ st o t => ∃ x, o = .threw x ∧ TX k st x t ∧ st.WarmedH t.vm ∧ st.sameButNew ({ t with vm := st.vm } : State) [] 1 6)
abbrev PX (D : va_G) (tys : List (ClassId × FieldType)) (av : List Value) (ws : va_W) (sz : Nat) : Array Value → State → Prop := fun v U => PC D tys av ws sz v U ∧ XW U
theorem MetT.ofW {l : Launch} {y : MethodName} {ws ws' : List Cond} {rm : Room} {Pc : Array Value → State → Prop} {k : Nat} {cc : ByteArray} {maxL : Nat} {ret : Option FieldType} (hy : plainName y.cls = true) (hw : ws = Cond.code y cc maxL ret :: ws')
    (body : ∀ p e s m args below meth c s₁, BodyLoose p l y (headSpec ws rm) cc maxL ret e s m args below meth c s₁ → c.maxLocals = maxL → Pc args s →
      W p l e (headSpec ws rm).room s m args below meth c s.heap [] 0 0 (QT below k s) (entryFrame m args maxL)) : MetT l y ws rm Pc k := by
  refine MetFree.of_bodyS (code := cc) (maxLocals := maxL) (ret := ret) hy ?_ ?_
  · intro args s m h hn
    obtain ⟨meth, c, h1, h2, h3, h4, h5, h6, -, -⟩ := Cond.code_spec hn (atoms_spec (ws := ws) h _ (by rw [hw]; exact List.mem_cons_self))
    exact ⟨meth, c, h1, h2, h3, h4, h5, h6⟩
  · intro p e s m args below meth c s₁ B hml hP _
    have hh0 : s₁.heap = s.heap := by rw [B.state]; rfl
    obtain ⟨t, a1, x, b1, b2, b3⟩ := body p e s m args below meth c s₁ B hml hP s₁ hh0 (Stand.of_body B)
    exact ⟨t, .threw x, a1, b1, b2, x, rfl, b3⟩

theorem xw_args {s : State} {args : Array Value} {w : Cond} (hw : w ∈ xwords) (h : w.before #[] s = true) : w.before args s = true := by
  simp only [xwords, List.mem_cons, List.not_mem_nil, or_false] at hw
  rcases hw with rfl | rfl | rfl | rfl | rfl | rfl | rfl | rfl | rfl | rfl <;> exact h
theorem xw_ref {V U : State} (hv : U.vm = V.vm) (hh : ∀ (q : Nat) (c : Cell), V.heap[q]? = some c → U.heap[q]? = some c) {o n d : String} (h : (Cond.isRef (.static o n d)).before #[] V = true) : (Cond.isRef (.static o n d)).before #[] U = true := by
  have hf : U.fieldFound? o n d = V.fieldFound? o n d := by unfold State.fieldFound?; rw [hv]
  simp only [Cond.before, Cond.holds, Cond.value, Term.eval, State.fieldNamed?, hf] at h ⊢
  cases hx : V.fieldFound? o n d with
  | none => simp [hx] at h
  | some x =>
    obtain ⟨c, k, i, f⟩ := x
    simp only [hx] at h ⊢
    by_cases hs : f.isStatic = true
    · cases hst : k.statics with
      | none => simp [hs, hst] at h
      | some a =>
        cases hc : V.heap[a]? with
        | none => simp [hs, hst, hc] at h
        | some cell =>
          have hc' := hh a cell hc
          simp [hs, hst, hc] at h
          simp [hs, hst, hc']
          exact h
    · simp [hs] at h
theorem xw_lay {V U : State} (hv : U.vm = V.vm) (hh : ∀ (q : Nat) (c : Cell), V.heap[q]? = some c → U.heap[q]? = some c) {o n d : String} (h : (Cond.laysStatic o n d).before #[] V = true) : (Cond.laysStatic o n d).before #[] U = true := by
  have hf : U.fieldFound? o n d = V.fieldFound? o n d := by unfold State.fieldFound?; rw [hv]
  simp only [Cond.before, Cond.holds, Cond.value, hf, hv] at h ⊢
  cases hx : V.fieldFound? o n d with
  | none => cases hz : V.vm.findClass o <;> simp [hx, hz] at h
  | some x =>
    obtain ⟨c, k, i, f⟩ := x
    cases hz : V.vm.findClass o with
    | none => simp [hx, hz] at h
    | some z =>
      cases hst : k.statics with
      | none => simp [hx, hz, hst] at h
      | some a =>
        cases hc : V.heap[a]? with
        | none => simp [hx, hz, hst, hc] at h
        | some cell =>
          have hc' := hh a cell hc
          simp [hx, hz, hst, hc] at h
          simp [hst, hc']
          exact h
/-- warmer tables, and every cell that was there: the words hold on -/
theorem xw_ext {s U : State} (hh : ∀ (q : Nat) (c : Cell), s.heap[q]? = some c → U.heap[q]? = some c) (hW : s.WarmedH U.vm) (h : XW s) : XW U := by
  intro w hw
  have h1 := h w hw
  simp only [xwords, List.mem_cons, List.not_mem_nil, or_false] at hw
  rcases hw with rfl | rfl | rfl | rfl | rfl | rfl | rfl | rfl | rfl | rfl
  · exact Cond.before_warmed hW (.declares (Bundle.init0 "java/lang/RuntimeException")) trivial h1
  · exact Cond.before_warmed hW (.declares (Bundle.init0 "java/lang/Exception")) trivial h1
  · exact Cond.before_warmed hW (.declares (Bundle.init0 Bundle.tN)) trivial h1
  · exact Cond.before_warmed hW (.castable (exn 0) (exn 0)) trivial h1
  · exact Cond.before_warmed hW (.castable (exn 1) (exn 1)) trivial h1
  · exact Cond.before_warmed hW (.castable (exn 2) (exn 2)) trivial h1
  · exact xw_ref (V := s.setVm U.vm) (U := U) rfl hh (Cond.before_warmed hW (.isRef (.static Bundle.tN "UNASSIGNED_STACK" Bundle.steD)) (show (Cond.isRef (.static Bundle.tN "UNASSIGNED_STACK" Bundle.steD)).keeps = true from by decide) h1)
  · exact xw_ref (V := s.setVm U.vm) (U := U) rfl hh (Cond.before_warmed hW (.isRef (.static Bundle.tN "SUPPRESSED_SENTINEL" Bundle.listD)) (show (Cond.isRef (.static Bundle.tN "SUPPRESSED_SENTINEL" Bundle.listD)).keeps = true from by decide) h1)
  · exact xw_lay (V := s.setVm U.vm) (U := U) rfl hh (Cond.before_warmed hW (.laysStatic Bundle.tN "UNASSIGNED_STACK" Bundle.steD) (show (Cond.laysStatic Bundle.tN "UNASSIGNED_STACK" Bundle.steD).keeps = true from by decide) h1)
  · exact xw_lay (V := s.setVm U.vm) (U := U) rfl hh (Cond.before_warmed hW (.laysStatic Bundle.tN "SUPPRESSED_SENTINEL" Bundle.listD) (show (Cond.laysStatic Bundle.tN "SUPPRESSED_SENTINEL" Bundle.listD).keeps = true from by decide) h1)
theorem xw_warm {s U : State} (hh : U.heap = s.heap) (hW : s.WarmedH U.vm) (h : XW s) : XW U := xw_ext (fun q c hc => by rw [hh]; exact hc) hW h
theorem px_blind {D : va_G} {tys : List (ClassId × FieldType)} {wc : va_W} {av : List Value} {sz : Nat} : FrameBlind (PX D tys av wc sz) := fun a U g mk q =>
  ⟨pc_blind a U g mk q.1, xw_warm (s := U) (U := U.calling g mk a) rfl (State.WarmedH.refl U) q.2⟩
theorem px_S {D : va_G} {tys : List (ClassId × FieldType)} {ws wc : va_W} {A : Nat → Prop} {s : State} (hXW : XW s) (av : List Value) (hP : va_P D vwCl ws s.heap) (hK : va_K D vwCl tys s) (hD : va_D A ws) (hN : NW s) (isC : List Nat) (hn : va_nd isC = true) (hC : isC.map (fun i => ws[i]?) = wc.map some) (hF : isC.filterMap (fun i => ws[i]?) = wc) : PreS s s.heap (PX D tys av wc s.heap.size) av :=
  ⟨px_blind, fun U hU hW => ⟨(pc_S av hP hK hD hN isC hn hC hF).2 U hU hW, xw_warm hU hW hXW⟩⟩
theorem px_V {D : va_G} {tys : List (ClassId × FieldType)} {ws wc : va_W} {A : Nat → Prop} {s : State} (hXW : XW s) (q0 ci : Nat) {q : vw_C} {b : Nat} {fs : List Value} (As : List Value) (hP : va_P D vwCl ws s.heap) (hK : va_K D vwCl tys s) (hD : va_D A ws) (hN : NW s) (isC : List Nat) (hn : va_nd isC = true) (hC : isC.map (fun i => ws[i]?) = wc.map some) (hF : isC.filterMap (fun i => ws[i]?) = wc) (hc : vwCl[ci]? = some q) (he : ws[q0]? = some (b, .inr (ci, fs))) : PreV s s.heap q.1 b (PX D tys (.ref b :: As) wc s.heap.size) As :=
  ⟨px_blind, va_recv hK hP hc he, fun U hU hW => ⟨(pc_V q0 ci As hP hK hD hN isC hn hC hF hc he).2.2 U hU hW, xw_warm hU hW hXW⟩⟩
section TB
variable {p : Program} {l : Launch} {e : Env} {R : Room} {s : State} {m : MethodId} {args : Array Value} {below : List Frame} {meth : Method} {c : Code} {T : State} {locs : List Loc} {cells slots : Nat}
/-- a callee that throws, called from where the invocation stands -/
theorem tb_of {y : MethodName} {ws : List Cond} {rm : Room} {Pc : Array Value → State → Prop} {k : Nat} {bytes : ByteArray} {maxL : Nat} {ret : Option FieldType} {W : Nat} (hM : MetT l y ws rm Pc k)
    (hframes : rm.frames + 1 ≤ R.frames) (hlocals : W + (maxL + 11) + rm.locals ≤ R.locals) (hcw : Cond.code y bytes maxL ret ∈ ws)
    (X : Stand p l e R s m args below meth c T locs cells slots) {g : JFrame} (hg : g.method = m) (hsize : g.locals.size = c.maxLocals) {ig : Instr} {len : Nat} (hdg : decode c.code g.pc = .ok (ig, len)) (hW : 2 * g.monitorRoom + (g.stack.map fun v => v.category).sum ≤ W)
    {mk : MethodId} (hn : T.methodNamed? y = some mk) {a : Array Value} (hws : ∀ w ∈ ws, w.before a T = true) (hini : (Cond.initialized y.cls).before a T = true) (hP : Pc a (T.calling g mk a)) (hc : cells + rm.cells ≤ R.cells) (hs : slots + rm.slots ≤ R.slots) :
    ∃ (T' : State) (x : Addr), Stand p l e R s m args below meth c T' (locs ++ []) (cells + 1) (slots + 6) ∧ T.WarmedH T'.vm ∧ TX k (T.calling g mk a) x ((T'.setTop g).pushFrame (.throwing x)) ∧ T.sameButNew (T'.setVm T.vm) [] 1 6 ∧
      Steps p.tables e below (doInvoke e (T.setTop g) [] mk a).1 ((T'.setTop g).pushFrame (.throwing x)) := by
  have h2 := hws _ hcw
  obtain ⟨methY, cY, hmY, hcY, -, hlY, -, -, -, -⟩ := Cond.code_spec hn h2
  obtain ⟨kY, hkY, -⟩ := className_of_methodNamed hn
  have hinitY : kY.init = .initialized := Cond.initialized_spec (findClass_of_methodNamed hn) hkY hini
  have h : At T g.method c below := by rw [hg]; exact X.here
  have happ : (headSpec ws rm).appliesLoose y e.platform (T.calling g mk a) = true :=
    Spec.appliesLoose_calling (g := g) h hdg hn hkY hinitY (X.room_calling (g := g) (R' := (headSpec ws rm).room) hsize hmY hcY hframes (by rw [hlY]; exact Nat.le_trans (Nat.add_le_add_right (Nat.add_le_add_right hW _) _) hlocals) hc hs) (atoms_intro hws)
  obtain ⟨mid, hmid⟩ := h.above
  have hfr : (T.setTop g).frames = (.java g :: mid) ++ below := by rw [State.frames_setTop' g h.top, hmid]; rfl
  obtain ⟨o, s₂, hsteps, -, hend, hq⟩ := Steps.callFree hM p X.admits X.cas X.clock (acts := []) hfr happ hP trivial
  have hq' : ∃ x, o = .threw x ∧ TX k (T.calling g mk a) x s₂ ∧ (T.calling g mk a).WarmedH s₂.vm ∧ (T.calling g mk a).sameButNew ({ s₂ with vm := (T.calling g mk a).vm } : State) [] 1 6 := hq
  obtain ⟨x, rfl, hx, hW2, hsame⟩ := hq'
  rw [State.frames_setTop' g h.top, X.tail] at hend
  obtain ⟨T', X', hW', hB, ht⟩ := X.outOfThrown hg hend hW2 hsame
  exact ⟨T', x, X', hW', by rw [← ht]; exact hx, hB, by rw [← ht]; exact hsteps⟩
theorem tx_moved {k : Nat} {s U : State} {x : Addr} {t t' : State} (ha : s.vm.Alike U.vm) (hh : t'.heap = t.heap) (h : TX k U x t) : TX k s x t' := by
  obtain ⟨ce, h1, h2, h3⟩ := h
  exact ⟨ce, by rw [hh]; exact h1, by rw [← ha.findClass]; exact h2, h3⟩
variable {y : MethodName} {bytes cc : ByteArray} {maxL nL n index : Nat} {ret : Option FieldType} {ws : List Cond} {rm : Room} {Pc : Array Value → State → Prop} {Ts : List Cond} {own C : String} {b : Addr} {As rest : List Value} {g : JFrame} {k : Nat}
theorem wt_callV (hno : c.exceptionTable.isEmpty = true) (hlocks : meth.locks = false) (S : CallFix p m c cc nL s args Ts own) (hM : MetT l y ws rm Pc k) (cw : CallW R s args own C index y bytes maxL ret ws rm 1 6 n) (hp : PreV s s.heap C b Pc As)
    (hg : g.method = m) (hn : As.length = n) (hsize : g.locals.size = nL) (hstack : g.stack = As.reverse ++ .ref b :: rest) (hW : 2 * g.monitorRoom + (rest.map fun v => v.category).sum ≤ 8) (hl0 : g.locked = none) (he0 : g.entered = []) (hdg : decode cc g.pc = .ok (.invokevirtual index, 3)) (hf : 0 + 1 ≤ R.cells ∧ 0 + 6 ≤ R.slots) :
    W p l e R s m args below meth c s.heap [] 0 0 (QT below k s) g := by
  obtain ⟨⟨hrc, hrs, hfr, hlo, hws, hcw, hcode, hini, hy, hlen, hl⟩, hinst, hsel⟩ := cw
  obtain ⟨hx, hb, hml, hown, -⟩ := S
  obtain ⟨hbl, ⟨cellB, hcB, hoB, hclB⟩, hPc⟩ := hp
  intro T hT X
  obtain ⟨mk, methM, hnamed, hmethM, hstM, habM⟩ := Cond.instanceMethod_spec hinst
  obtain ⟨methM', cM, hmethM', -, -, -, -, -, -, hsigM⟩ := Cond.code_spec hnamed hcode
  cases hmethM.symm.trans hmethM'
  obtain ⟨c2, r2, m2, q1, q2, q3, q4, kP, hkP, hkPi⟩ := Cond.selects_spec hsel
  cases hclB.symm.trans q1
  cases (State.methodFound?_of_named hnamed hy).symm.trans q2
  cases hnamed.symm.trans q3
  have hselP : selectMethod e.platform s.vm cellB.cls mk = .method mk := by rw [Launch.admits_selectMethod X.admits]; exact q4
  obtain ⟨vm₁, X₁, hstep₁⟩ := X.invokevirtual hx hown hl hnamed hmethM hstM hkP hkPi hy (a := b) (cell := cellB) (by rw [hT]; exact hcB)
    (fun z h => by rw [h] at hoB; cases hoB) hselP hmethM habM hkP hkPi (g := g) hg (argsL := As) (rest := rest) (hn.trans (hlen _ hsigM)) hstack (by rw [hb]; exact hdg)
  obtain ⟨T', x, X', hW', hTX, hB, hst⟩ := tb_of (bytes := bytes) (maxL := maxL) (ret := ret) (W := 8) hM hfr hlo hcw X₁ (g := { g with stack := rest }) hg (hsize.trans hml.symm) (by rw [hb]; exact hdg) hW (X₁.named hnamed) (a := (Value.ref b :: As).toArray) (fun w hw => hws w hw _ _ X₁.warmed)
    (word_at X₁.warmed (Or.inl (by first | rfl | simp [Cond.onTables, Cond.keeps, Cond.steady])) hini) (hbl _ _ _ _ (hPc (T.setVm vm₁) hT X₁.warmed)) (by rw [hrc]; exact hf.1) (by rw [hrs]; exact hf.2)
  obtain ⟨a1, a2, a3, a4, a5⟩ := X'.leaveThrown x (g := { g with stack := rest }) hg hl0 he0 (covers_of_empty hno _) hlocks
  exact ⟨_, hstep₁ _ (fun acts => by rw [doInvoke_state]; exact hst.trans a1), x, a2, a3, tx_moved X₁.warmed.alike rfl hTX, a4, a5⟩
theorem wt_callS (hno : c.exceptionTable.isEmpty = true) (hlocks : meth.locks = false) (S : CallFix p m c cc nL s args Ts own) (hM : MetT l y ws rm Pc k) (cw : CallB R s args own index y bytes maxL ret ws rm 1 6 n ∧ (Cond.static y).before args s = true) (hp : PreS s s.heap Pc As)
    (hg : g.method = m) (hn : As.length = n) (hsize : g.locals.size = nL) (hstack : g.stack = As.reverse ++ rest) (hW : 2 * g.monitorRoom + (rest.map fun v => v.category).sum ≤ 8) (hl0 : g.locked = none) (he0 : g.entered = []) (hdg : decode cc g.pc = .ok (.invokestatic index, 3)) (hf : 0 + 1 ≤ R.cells ∧ 0 + 6 ≤ R.slots) :
    W p l e R s m args below meth c s.heap [] 0 0 (QT below k s) g := by
  obtain ⟨⟨hrc, hrs, hfr, hlo, hws, hcw, hcode, hini, hy, hlen, hl⟩, hstat⟩ := cw
  obtain ⟨hx, hb, hml, hown, -⟩ := S
  obtain ⟨hbl, hPc⟩ := hp
  intro T hT X
  obtain ⟨mk, hnamed⟩ := Cond.code_named hcode
  obtain ⟨methM, cM, hmethM, -, -, -, -, -, -, hsigM⟩ := Cond.code_spec hnamed hcode
  have hstatic : methM.isStatic = true := Cond.static_spec hnamed hmethM hstat
  obtain ⟨kP, hkP, -⟩ := className_of_methodNamed hnamed
  have hinitP : kP.init = .initialized := Cond.initialized_spec (findClass_of_methodNamed hnamed) hkP hini
  obtain ⟨vm₁, X₁, hstep₁⟩ := X.invokestatic hx hown hl hnamed hmethM hstatic hkP hinitP hy (g := g) hg (argsL := As) (rest := rest) (hn.trans (hlen _ hsigM)) hstack (by rw [hb]; exact hdg)
  obtain ⟨T', x, X', hW', hTX, hB, hst⟩ := tb_of (bytes := bytes) (maxL := maxL) (ret := ret) (W := 8) hM hfr hlo hcw X₁ (g := { g with stack := rest }) hg (hsize.trans hml.symm) (by rw [hb]; exact hdg) hW (X₁.named hnamed) (a := As.toArray) (fun w hw => hws w hw _ _ X₁.warmed)
    (word_at X₁.warmed (Or.inl (by first | rfl | simp [Cond.onTables, Cond.keeps, Cond.steady])) hini) (hbl _ _ _ _ (hPc (T.setVm vm₁) hT X₁.warmed)) (by rw [hrc]; exact hf.1) (by rw [hrs]; exact hf.2)
  obtain ⟨a1, a2, a3, a4, a5⟩ := X'.leaveThrown x (g := { g with stack := rest }) hg hl0 he0 (covers_of_empty hno _) hlocks
  exact ⟨_, hstep₁ _ (fun acts => by rw [doInvoke_state]; exact hst.trans a1), x, a2, a3, tx_moved X₁.warmed.alike rfl hTX, a4, a5⟩
theorem wt_throw (hfl : l.flags = pinnedFlags ++ [noTraceFlag]) (hno : c.exceptionTable.isEmpty = true) (hlocks : meth.locks = false) (hx : p.tables.exec = Jvm.exec) (hb : c.code = cc) (hml : c.maxLocals = nL) {ls : Array Slot} (hsz : ls.size = nL) {i ic : Nat} {cls : String} (hk : exn k = cls) (hcls : Bundle.fit cls = true) (hnames : ∀ n ∈ xnames, Bundle.fit n = true)
    (hown : s.vm.findClass own = some m.cls) (hcl : (Cond.classLink own i cls).before args s = true) (hins : (Cond.instantiable cls 6).before args s = true) (hini : (Cond.initialized cls).before args s = true) (hat : ∀ a ∈ Bundle.ownAtoms0 own ic cls xnames, a.before args s = true) {pc : Nat}
    (d0 : decode cc pc = .ok (.new i, 3)) (d1 : decode cc (pc + 3) = .ok (.dup, 1)) (d2 : decode cc (pc + 4) = .ok (.invokespecial ic, 3)) (d3 : decode cc (pc + 7) = .ok (.athrow, 1))
    (hRf : 5 < R.frames) (hRl : 8 + 90 ≤ R.locals) (hW : (rest.map fun v => v.category).sum ≤ 8) (hf : 0 + 1 ≤ R.cells ∧ 0 + 6 ≤ R.slots) :
    W p l e R s m args below meth c s.heap [] 0 0 (QT below k s) (F0 m pc ls rest) := by
  obtain ⟨cX, kX, hfc, hkX, -⟩ := Cond.instantiable_spec hins
  refine W.newcK hx hb hown hcl hins hini rfl d0 hf.1 hf.2 hfc rfl (fun H' kC hkC e1 z1 o1 => ?_)
  refine lv_dup hx hb d1 rfl ?_
  intro T hT X
  obtain ⟨U, hst, hrun, hend, hWm, hsame, ce, hce, hoc⟩ := X.ctorThrow0 hx (Launch.traces_off hfl X.admits) hown hcls hnames hat (fun x hx => by cases hx) hfc hkC (by rw [hT]; exact e1) (Nat.le_refl _) (g := F0 m (pc + 4) ls (.ref s.heap.size :: .ref s.heap.size :: rest)) rfl (hsz.trans hml.symm) rfl rfl rfl (by rw [hb]; exact d2) (by rw [hb]; exact d3) (covers_of_empty hno _) hRf (by show 2 * 0 + (1 + (rest.map fun v => v.category).sum) + (13 * 3 + 41) ≤ R.locals; omega) hlocks
  exact ⟨U, hst, s.heap.size, hrun, hend, ⟨ce, hce, by rw [hk]; exact hoc.cls, by rw [hoc.vm]; rfl⟩, hWm, hsame⟩
end TB
