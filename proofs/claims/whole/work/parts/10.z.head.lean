/-- as Met.ofW, for a method of the JDK that is no native's name -/
theorem Met_ofWF {l : Launch} {y : MethodName} {ws ws' : List Cond} {rm : Room} {Pc : Array Value → State → Prop} {Qc : Array Value → State → Outcome → State → Prop} {mc ms : Nat} {free : Addr → Prop} {cc : ByteArray} {maxL : Nat} {ret : Option FieldType}
    (hy : plainFor y = true) (hw : ws = Cond.code y cc maxL ret :: ws')
    (body : ∀ p e s m args below meth c s₁, BodyLoose p l y (headSpec ws rm) cc maxL ret e s m args below meth c s₁ → c.maxLocals = maxL → Pc args s →
      W p l e (headSpec ws rm).room s m args below meth c s.heap [] 0 0 (MQ below Qc args s mc ms free) (entryFrame m args maxL)) : Met l y ws rm Pc Qc mc ms free := by
  refine MetFree.of_bodySF (code := cc) (maxLocals := maxL) (ret := ret) hy ?_ ?_
  · intro args s m h hn
    obtain ⟨meth, c, h1, h2, h3, h4, h5, h6, -, -⟩ := Cond.code_spec hn (atoms_spec (ws := ws) h _ (by rw [hw]; exact List.mem_cons_self))
    exact ⟨meth, c, h1, h2, h3, h4, h5, h6⟩
  · intro p e s m args below meth c s₁ B hml hP _
    have hh0 : s₁.heap = s.heap := by rw [B.state]; rfl
    obtain ⟨t, a1, o, b1, b2, b3⟩ := body p e s m args below meth c s₁ B hml hP s₁ hh0 (Stand.of_body B)
    exact ⟨t, o, a1, b1, b2, ⟨b3.1, b3.2⟩⟩
theorem AM_ofF {g : GT} {sd : Bool} {y : MethodName} {cc : ByteArray} {nL : Nat} {ret : Option FieldType} {d : Nat} {nS nE nf : Int} {av : List AV} {M : Mem} {o : Res} (hy : plainFor y = true) (hw : argW av ≤ nL) (hin : nS < nE → y.name = "<init>") (h : AW g sd y.cls cc nL ret d nS nE nf 0 (argL 0 av) [] nS M o) : AM g sd y cc nL ret d nS nE nf av M o := by
  intro hok r M' ho Mo
  refine Met_ofWF (cc := cc) (maxL := nL) (ret := ret) hy rfl ?_
  intro p e s m args below meth c s₁ B hml hv
  obtain ⟨rfl, hH, hK, hT⟩ := hv
  have hown : s.vm.findClass y.cls = some m.cls := findClass_of_methodNamed B.named
  have hname : meth.name = y.name := (name_of_methodNamed B.named B.method).1
  have hsz : gB g < s.heap.size := by rw [hH.2.1]; omega
  have hC : Cx g p s m meth c y.cls cc nL := ⟨B.exec, B.bytes, hml, hown, hK, hT, B.notSynchronized, hsz⟩
  have hb := h r M' ho Mo p e s m (av.map (tv (gB g))).toArray below meth c hC B.returns (fun q => by rw [hname]; exact hin q)
  have hl := lv_entry (av.map (tv (gB g))) (n := nL) (by rw [lgsl_len]; exact hw)
  rw [argL_map] at hl
  rw [lg_entry_eq]
  have h0 : cs nS nS = 0 := by unfold cs; omega
  have h1 : sl nS nS = 0 := by unfold sl; omega
  rw [h0, h1] at hb
  exact hb s.heap [] _ hH va_S.rf (by rw [hml]; exact hl) (argL_ok av 0 hok) (fun v hv => by cases hv)
