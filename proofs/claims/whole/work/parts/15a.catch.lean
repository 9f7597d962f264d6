/-! a callee throws and the caller catches: the class of a handler may have to be resolved there -/
section CT
variable {E : CtlPost} {e : Env} {d : Bool} {acts : List Action} {s : State} {f : JFrame} {a : Addr} {Q : Handler → Pre}
theorem ct_class {x : ExceptionTableEntry} {t : List ExceptionTableEntry} {c : ClassId} {cell : Cell} (hx : covers x f.pc = true) (h0 : x.catchType ≠ 0)
    (hcl : s.vm.ClassLinks e.platform f.method.cls x.catchType c) (hcell : s.heap[a]? = some cell) (hobj : ∀ k, cell.vm ≠ .statics k)
    (hk : ∃ k, (s.vm.noted f.method.cls x.catchType (.cls c)).classes[cell.cls]? = some k) (hc : ∃ k, (s.vm.noted f.method.cls x.catchType (.cls c)).classes[c]? = some k) :
    wp (findHandler.go f a (x :: t)) Q E e d acts s ↔
      if (s.vm.noted f.method.cls x.catchType (.cls c)).assignable cell.cls c = true then Q (.found x.handlerPc) d acts (s.setVm (s.vm.noted f.method.cls x.catchType (.cls c))) else wp (findHandler.go f a t) Q E e d acts (s.setVm (s.vm.noted f.method.cls x.catchType (.cls c))) := by
  simp only [covers] at hx
  have hop : (VmOp.resolveClass f.method.cls x.catchType).answer e s.vm = .ok c ∧ (VmOp.resolveClass f.method.cls x.catchType).tables e s.vm = s.vm.noted f.method.cls x.catchType (.cls c) := (resolveClass_links e.toSetting hcl).op rfl
  cases hfit : (s.vm.noted f.method.cls x.catchType (.cls c)).assignable cell.cls c <;>
    simp [findHandler.go, hx, h0, hop, hcell, hobj, hk, hc, hfit, VmOp.dirties, VmOp.acts]
end CT
/-- what the search gives, and the tables behind it -/
def FindsV (e : Env) (s : State) (f : JFrame) (a : Addr) (h : Handler) (vm' : Vm) : Prop :=
  ∀ (Q : Handler → Pre) (E : CtlPost) (d : Bool) (acts : List Action), wp (findHandler f a) Q E e d acts s ↔ Q h d acts (s.setVm vm')
theorem ct_step {e : Env} {s : State} {a : Addr} {f : JFrame} {r : List Frame} {pc : Nat} {vm' : Vm} (hfind : FindsV e s f a (.found pc) vm') :
    (stepThrowing e s a (.java f :: r)).Is ((s.setVm vm').setFrames (.java { f with pc := pc, stack := [.ref a] } :: r)) [] := by
  simp only [stepThrowing, searchFrame, vmDo]
  generalize hr : Sem.go _ e false [] s = res
  obtain ⟨as, rfl, ha⟩ := Sem.eq_ok_of hr (a := Handler.found pc) (s' := s.setVm vm') (acts' := []) (by simp [hfind _ _ _ _])
  exact ⟨rfl, ha⟩
theorem ct_caught {tb : Tables} {e : Env} {s target : State} {g : JFrame} {c : Code} {below : List Frame} {a : Addr} {vm' : Vm} (h : At s g.method c below) {pc : Nat} (hfind : FindsV e ((s.setTop g).pushFrame (.throwing a)) g a (.found pc) vm')
    (hrest : Steps tb e below ((s.setVm vm').setTop { g with pc := pc, stack := [.ref a] }) target) :
    Steps tb e below ((s.setTop g).pushFrame (.throwing a)) target := by
  obtain ⟨hgo, hw⟩ := h.throwing a
  refine Steps.head hgo hw ?_
  rw [stepThread_throwing (frames_entered h.top _), (ct_step (s := (s.setTop g).pushFrame (.throwing a)) hfind).1]
  obtain ⟨g₀, hg⟩ := Option.isSome_iff_exists.mp h.top
  obtain ⟨r, hr⟩ := State.topJava?_eq_some.mp hg
  have hr' : (s.setVm vm').frames = .java g₀ :: r := hr
  rw [State.setTop_of_frames _ hr'] at hrest
  rw [State.pushFrame, State.setTop_of_frames _ hr, State.setFrames_setFrames, hr, show ∀ Z, (s.setFrames Z).setVm vm' = (s.setVm vm').setFrames Z from fun _ => rfl, State.setFrames_setFrames]
  exact hrest
/-- the table of a method by its word -/
theorem ct_table {p : Program} {l : Launch} {y : MethodName} {S : Spec} {cc : ByteArray} {maxL : Nat} {ret : Option FieldType} {hh : List (Nat × Nat × Nat × Nat)} {e : Env} {s : State} {m : MethodId} {args : Array Value} {below : List Frame} {meth : Method} {c : Code} {s₁ : State}
    (B : BodyLoose p l y S cc maxL ret e s m args below meth c s₁) (h : (Cond.codeWith y cc maxL ret hh).before args s = true) : c.exceptionTable.toList.map (fun h => (h.startPc, h.endPc, h.handlerPc, h.catchType)) = hh := by
  obtain ⟨m9, meth9, c9, hn9, h1, h2, -, -, h5, -⟩ := Cond.codeWith_spec h
  cases B.named.symm.trans hn9
  cases B.method.symm.trans h1
  cases (Stand.of_body B).code.symm.trans h2
  exact h5
/-- one handler more is passed, or takes it -/
theorem ct_go {e : Env} {s : State} {U : State} {args : Array Value} {own : String} {f : JFrame} {a : Addr} {x : ExceptionTableEntry} {t : List ExceptionTableEntry} {cls X : String} {cell : Cell} (hpl : e.platform.magicAccessors = ({} : Platform).magicAccessors) (hown : s.vm.findClass own = some f.method.cls) (hW : s.WarmedH U.vm)
    (hx : covers x f.pc = true) (h0 : x.catchType ≠ 0) (hlink : (Cond.classLink own x.catchType cls).before args s = true) (hcell : U.heap[a]? = some cell) (hobj : cell.vm.isStatics = false) (hX : s.vm.findClass X = some cell.cls) :
    ∃ (vm' : Vm) (cT : ClassId), s.WarmedH vm' ∧ s.vm.findClass cls = some cT ∧ ∀ (Q : Handler → Pre) (E : CtlPost) (d : Bool) (acts : List Action),
      (wp (findHandler.go f a (x :: t)) Q E e d acts U ↔ if s.vm.assignable cell.cls cT = true then Q (.found x.handlerPc) d acts (U.setVm vm') else wp (findHandler.go f a t) Q E e d acts (U.setVm vm')) := by
  obtain ⟨cT, hcT, hcl⟩ := Cond.classLink_spec hown hlink e.platform hpl
  obtain ⟨dk, _, _, kt, hd, _, _, _, _, hkt, _, hopen⟩ := hcl.here
  have hcl₀ := hW.classLinks hcl
  have hW' : s.WarmedH (U.vm.noted f.method.cls x.catchType (.cls cT)) := hW.noted hd hopen (State.rightAt_cls hcl)
  obtain ⟨ks, hks⟩ := Vm.classAt_of_findClass hX
  obtain ⟨ks', hks', -⟩ := hW'.alike.2.2 _ _ hks
  obtain ⟨kt', hkt', -⟩ := hW'.alike.2.2 _ _ hkt
  refine ⟨_, cT, hW', hcT, fun Q E d acts => ?_⟩
  rw [ct_class hx h0 hcl₀ hcell (VmData.ne_statics_of hobj) ⟨ks', hks'⟩ ⟨kt', hkt'⟩, hW'.alike.assignable]
/-- what can be cast, and what cannot -/
theorem ct_cast {s : State} {args : Array Value} {a b : String} {ca cb : ClassId} (ha : s.vm.findClass a = some ca) (hb : s.vm.findClass b = some cb) (h : (Cond.castable a b).before args s = true) : s.vm.assignable ca cb = true := by
  simp only [Cond.before, Cond.holds, Cond.value, ha, hb] at h
  simpa using h
theorem ct_ncast {s : State} {args : Array Value} {a b : String} {ca cb : ClassId} (ha : s.vm.findClass a = some ca) (hb : s.vm.findClass b = some cb) (h : (Cond.not (.castable a b)).before args s = true) : s.vm.assignable ca cb = false := by
  simp only [Cond.before, Cond.holds, Cond.value, ha, hb] at h
  simpa using h
/-- the handlers before are passed, then one takes it -/
theorem ct_run {e : Env} {s : State} {args : Array Value} {own X : String} {f : JFrame} {a : Addr} {cell : Cell} {x : ExceptionTableEntry} {rest : List ExceptionTableEntry} (hpl : e.platform.magicAccessors = ({} : Platform).magicAccessors) (hown : s.vm.findClass own = some f.method.cls) (hX : s.vm.findClass X = some cell.cls) (hobj : cell.vm.isStatics = false)
    (hx : covers x f.pc = true) (h0 : x.catchType ≠ 0) (hlink : (Cond.classLink own x.catchType X).before args s = true) (hself : (Cond.castable X X).before args s = true) :
    ∀ (pre : List ExceptionTableEntry) (U : State), s.WarmedH U.vm → U.heap[a]? = some cell → (∀ y ∈ pre, covers y f.pc = true ∧ y.catchType ≠ 0 ∧ ∃ cls, (Cond.classLink own y.catchType cls).before args s = true ∧ (Cond.not (.castable X cls)).before args s = true) →
      ∃ vm', s.WarmedH vm' ∧ ∀ (Q : Handler → Pre) (E : CtlPost) (d : Bool) (acts : List Action), (wp (findHandler.go f a (pre ++ x :: rest)) Q E e d acts U ↔ Q (.found x.handlerPc) d acts (U.setVm vm')) := by
  intro pre
  induction pre with
  | nil =>
    intro U hW hc _
    obtain ⟨vm', cT, h1, h2, h3⟩ := ct_go (t := rest) hpl hown hW hx h0 hlink hc hobj hX
    refine ⟨vm', h1, fun Q E d acts => ?_⟩
    rw [List.nil_append, h3, if_pos (ct_cast hX h2 hself)]
  | cons y pre ih =>
    intro U hW hc hp
    obtain ⟨g1, g2, cls, g3, g4⟩ := hp y List.mem_cons_self
    obtain ⟨vm1, cT, h1, h2, h3⟩ := ct_go (t := pre ++ x :: rest) hpl hown hW g1 g2 g3 hc hobj hX
    obtain ⟨vm', k1, k2⟩ := ih (U.setVm vm1) h1 hc (fun z hz => hp z (List.mem_cons_of_mem _ hz))
    refine ⟨vm', k1, fun Q E d acts => ?_⟩
    rw [List.cons_append, h3, if_neg (by rw [ct_ncast hX h2 g4]; decide), k2]
    exact Iff.rfl
section CT2
variable {p : Program} {l : Launch} {e : Env} {R : Room} {s : State} {m : MethodId} {args : Array Value} {below : List Frame} {meth : Method} {c : Code} {Q : State → Prop}
variable {y : MethodName} {bytes cc : ByteArray} {maxL nL n index : Nat} {ret : Option FieldType} {ws : List Cond} {rm : Room} {Pc : Array Value → State → Prop} {Ts : List Cond} {own C : String} {b : Addr} {As rest : List Value} {g : JFrame} {k : Nat}
theorem wt_catch {pre tl : List ExceptionTableEntry} {x : ExceptionTableEntry} (htab : c.exceptionTable.toList = pre ++ x :: tl) (hcov : covers x g.pc = true) (hct : x.catchType ≠ 0) {cls : String} (hk : exn k = cls) (hlink : (Cond.classLink own x.catchType cls).before args s = true) (hself : (Cond.castable cls cls).before args s = true)
    (hpre : ∀ y ∈ pre, covers y g.pc = true ∧ y.catchType ≠ 0 ∧ ∃ d, (Cond.classLink own y.catchType d).before args s = true ∧ (Cond.not (.castable cls d)).before args s = true)
    (S : CallFix p m c cc nL s args Ts own) (hM : MetT l y ws rm Pc k) (cw : CallW R s args own C index y bytes maxL ret ws rm 1 6 n) (hp : PreV s s.heap C b Pc As)
    (hg : g.method = m) (hn : As.length = n) (hsize : g.locals.size = nL) (hstack : g.stack = As.reverse ++ .ref b :: rest) (hW : 2 * g.monitorRoom + (rest.map fun v => v.category).sum ≤ 8) (hdg : decode cc g.pc = .ok (.invokevirtual index, 3)) (hf : 0 + 1 ≤ R.cells ∧ 0 + 6 ≤ R.slots)
    (kk : ∀ (x1 : Addr) (H1 : Heap), s.heap.size ≤ H1.size → (∀ (q : Nat) (ce : Cell), s.heap[q]? = some ce → H1[q]? = some ce) → W p l e R s m args below meth c H1 [] 1 6 Q { g with pc := x.handlerPc, stack := [.ref x1] }) :
    W p l e R s m args below meth c s.heap [] 0 0 Q g := by
  obtain ⟨⟨hrc, hrs, hfr, hlo, hws, hcw, hcode, hini, hy, hlen, hl⟩, hinst, hsel⟩ := cw
  obtain ⟨hx, hb, hml, hown, -⟩ := S
  obtain ⟨hbl, ⟨cellB, hcB, hoB, hclB⟩, hPc⟩ := hp
  intro T hT X
  obtain ⟨mk, methM, hnamed, hmethM, hstM, habM⟩ := Cond.instanceMethod_spec hinst
  obtain ⟨methM', cM, hmethM', -, -, -, -, -, -, hsigM⟩ := Cond.code_spec hnamed hcode
  cases hmethM.symm.trans hmethM'
  obtain ⟨c2, r2, m2, q1, q2, q3, q4, kP, hkP, hkPi⟩ := Cond.selects_spec hsel
  cases hclB.symm.trans q1
  cases (State.methodFound?_of_named hnamed hy).symm.trans q2
  cases hnamed.symm.trans q3
  have hselP : selectMethod e.platform s.vm cellB.cls mk = .method mk := by rw [Launch.admits_selectMethod X.admits]; exact q4
  obtain ⟨vm₁, X₁, hstep₁⟩ := X.invokevirtual hx hown hl hnamed hmethM hstM hkP hkPi hy (a := b) (cell := cellB) (by rw [hT]; exact hcB)
    (fun z h => by rw [h] at hoB; cases hoB) hselP hmethM habM hkP hkPi (g := g) hg (argsL := As) (rest := rest) (hn.trans (hlen _ hsigM)) hstack (by rw [hb]; exact hdg)
  obtain ⟨T', x1, X', hW', hTX, hB, hst⟩ := tb_of (bytes := bytes) (maxL := maxL) (ret := ret) (W := 8) hM hfr hlo hcw X₁ (g := { g with stack := rest }) hg (hsize.trans hml.symm) (by rw [hb]; exact hdg) hW (X₁.named hnamed) (a := (Value.ref b :: As).toArray) (fun w hw => hws w hw _ _ X₁.warmed)
    (word_at X₁.warmed (Or.inl (by first | rfl | simp [Cond.onTables, Cond.keeps, Cond.steady])) hini) (hbl _ _ _ _ (hPc (T.setVm vm₁) hT X₁.warmed)) (by rw [hrc]; exact hf.1) (by rw [hrs]; exact hf.2)
  have hTX' : TX k s x1 T' := tx_moved X₁.warmed.alike rfl hTX
  obtain ⟨ce, t1, t2, t3⟩ := hTX'
  rw [hk] at t2
  have hpl : e.platform.magicAccessors = ({} : Platform).magicAccessors := by rw [X.admits.platform]
  have hownf : s.vm.findClass own = some ({ g with stack := rest } : JFrame).method.cls := by rw [show ({ g with stack := rest } : JFrame).method = m from hg]; exact hown
  have hvmT : ((T'.setTop { g with stack := rest }).pushFrame (.throwing x1)).vm = T'.vm := Stand.throwing_vm _ _ _
  have hheapT : ((T'.setTop { g with stack := rest }).pushFrame (.throwing x1)).heap = T'.heap := Stand.throwing_heap _ _ _
  obtain ⟨vm', k1, k2⟩ := ct_run (rest := tl) (f := { g with stack := rest }) (a := x1) (cell := ce) hpl hownf t2 t3 hcov hct hlink hself pre ((T'.setTop { g with stack := rest }).pushFrame (.throwing x1)) (by rw [hvmT]; exact X'.warmed) (by rw [hheapT]; exact t1) hpre
  have hF : FindsV e ((T'.setTop { g with stack := rest }).pushFrame (.throwing x1)) { g with stack := rest } x1 (.found x.handlerPc) vm' := by
    intro Q E d acts
    rw [Jvm.W.findHandler_eq (meth := meth) (code := c) (by rw [hvmT, show ({ g with stack := rest } : JFrame).method = m from hg]; exact X'.method') X'.code, htab]
    exact k2 Q E d acts
  have hkeep : ∀ (q : Nat) (ce : Cell), s.heap[q]? = some ce → T'.heap[q]? = some ce := fun q ce hq => hB.kept_nil (show (T.setVm vm₁).heap[q]? = some ce from by rw [show (T.setVm vm₁).heap = s.heap from hT]; exact hq)
  have hsz : s.heap.size ≤ T'.heap.size := by
    have := hB.2.1
    rw [show (T.setVm vm₁).heap = s.heap from hT] at this
    exact this
  obtain ⟨t, a1, b1⟩ := kk x1 T'.heap hsz hkeep (T'.setVm vm') rfl (X'.noted k1)
  exact ⟨t, hstep₁ _ (fun acts => by rw [doInvoke_state]; exact hst.trans (ct_caught (by rw [show ({ g with stack := rest } : JFrame).method = m from hg]; exact X'.here) hF a1)), b1⟩
end CT2
/-- the words of what cannot be cast -/
def ywords : List Cond := [.not (.castable (exn 0) (exn 1)), .not (.castable (exn 2) (exn 1)), .not (.castable (exn 2) (exn 0))]
def YW (U : State) : Prop := ∀ w ∈ ywords, w.before #[] U = true
theorem yw_warm {s U : State} (hW : s.WarmedH U.vm) (h : YW s) : YW U := by
  intro w hw
  have h1 := h w hw
  simp only [ywords, List.mem_cons, List.not_mem_nil, or_false] at hw
  rcases hw with rfl | rfl | rfl
  · exact Cond.castAtom_setVm hW.alike (.not (.castable (exn 0) (exn 1))) rfl h1
  · exact Cond.castAtom_setVm hW.alike (.not (.castable (exn 2) (exn 1))) rfl h1
  · exact Cond.castAtom_setVm hW.alike (.not (.castable (exn 2) (exn 0))) rfl h1
theorem yw_at {s : State} (h : YW s) {args : Array Value} (k : Nat) {w : Cond} (hw : ywords[k]? = some w) : w.before args s = true := by
  have h1 := h w (List.mem_of_getElem? hw)
  have hm := List.mem_of_getElem? hw
  simp only [ywords, List.mem_cons, List.not_mem_nil, or_false] at hm
  rcases hm with rfl | rfl | rfl <;> exact h1
abbrev PY (D : va_G) (tys : List (ClassId × FieldType)) (av : List Value) (ws : va_W) (sz : Nat) : Array Value → State → Prop := fun v U => PX D tys av ws sz v U ∧ YW U
theorem ct_l1 {l : List ExceptionTableEntry} {a b c d : Nat} (h : l.map (fun h => (h.startPc, h.endPc, h.handlerPc, h.catchType)) = [(a, b, c, d)]) : ∃ x, l = [x] ∧ x.startPc = a ∧ x.endPc = b ∧ x.handlerPc = c ∧ x.catchType = d := by
  match l, h with
  | [x], h =>
    simp only [List.map_cons, List.map_nil, List.cons.injEq, Prod.mk.injEq, and_true] at h
    exact ⟨x, rfl, h⟩
theorem ct_l2 {l : List ExceptionTableEntry} {a b c d a2 b2 c2 d2 : Nat} (h : l.map (fun h => (h.startPc, h.endPc, h.handlerPc, h.catchType)) = [(a, b, c, d), (a2, b2, c2, d2)]) : ∃ x y, l = [x, y] ∧ (x.startPc = a ∧ x.endPc = b ∧ x.handlerPc = c ∧ x.catchType = d) ∧ y.startPc = a2 ∧ y.endPc = b2 ∧ y.handlerPc = c2 ∧ y.catchType = d2 := by
  match l, h with
  | [x, y], h =>
    simp only [List.map_cons, List.map_nil, List.cons.injEq, Prod.mk.injEq, and_true] at h
    exact ⟨x, y, rfl, h⟩
theorem ct_l3 {l : List ExceptionTableEntry} {a b c d a2 b2 c2 d2 a3 b3 c3 d3 : Nat} (h : l.map (fun h => (h.startPc, h.endPc, h.handlerPc, h.catchType)) = [(a, b, c, d), (a2, b2, c2, d2), (a3, b3, c3, d3)]) : ∃ x y z, l = [x, y, z] ∧ (x.startPc = a ∧ x.endPc = b ∧ x.handlerPc = c ∧ x.catchType = d) ∧ (y.startPc = a2 ∧ y.endPc = b2 ∧ y.handlerPc = c2 ∧ y.catchType = d2) ∧ z.startPc = a3 ∧ z.endPc = b3 ∧ z.handlerPc = c3 ∧ z.catchType = d3 := by
  match l, h with
  | [x, y, z], h =>
    simp only [List.map_cons, List.map_nil, List.cons.injEq, Prod.mk.injEq, and_true] at h
    exact ⟨x, y, z, rfl, h⟩
theorem ct_cov {x : ExceptionTableEntry} {a b pc : Nat} (h1 : x.startPc = a) (h2 : x.endPc = b) (h3 : a ≤ pc) (h4 : pc < b) : covers x pc = true := by
  show (decide (x.startPc ≤ pc) && decide (pc < x.endPc)) = true
  rw [h1, h2, decide_eq_true h3, decide_eq_true h4]; rfl
theorem ct_P {D : va_G} {cl : List vw_C} {ws : va_W} {H H1 : Heap} (hP : va_P D cl ws H) (hk : ∀ (q : Nat) (ce : Cell), H[q]? = some ce → H1[q]? = some ce) : va_P D cl ws H1 := by
  intro k q hq
  have h := hP k q hq
  obtain ⟨a, e⟩ := q
  cases e with
  | inl z => exact hk _ _ h
  | inr o =>
    obtain ⟨r, h1, cell, q1, q2⟩ := h
    exact ⟨r, h1, cell, hk _ _ q1, q2⟩
theorem ct_S {A : Nat → Prop} {H H1 : Heap} (hz : H.size ≤ H1.size) (hk : ∀ (q : Nat) (ce : Cell), H[q]? = some ce → H1[q]? = some ce) : va_S A H H1 [] :=
  ⟨hz, fun q hq _ => by rw [Array.getElem?_eq_getElem hq]; exact hk q _ (Array.getElem?_eq_getElem hq), fun _ h => nomatch h⟩
