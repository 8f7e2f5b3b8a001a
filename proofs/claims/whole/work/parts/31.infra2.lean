/-! Methods with a table of their own that catch all that their callee throws: contracts and calls; the law's empty world. -/
abbrev CWi (l : Launch) (y : MethodName) (cc : ByteArray) (maxL : Nat) (ty : FieldType) (hh : List (Nat × Nat × Nat × Nat)) (fr lo : Nat) (D : va_G) (cl : List vw_C) (tys : List (ClassId × FieldType)) (av : List Value) (w0 : va_W) (sz : Nat) {S : Type} (w1 : S → va_W) (r : Int32) (nc ns : Nat) : Prop :=
  Met l y (Cond.codeWith y cc maxL (some ty) hh :: TB) ({ frames := fr, cells := nc, slots := ns, locals := lo }) (PX D cl tys av w0 sz) (va_Qi (fun r' _ => r' = r) (WB D cl w0 sz w1) (va_A w0 sz)) nc ns (va_A w0 sz)
theorem mk_wi {l : Launch} {y : MethodName} {cc : ByteArray} {maxL nc ns sz fr lo : Nat} {D : va_G} {cl : List vw_C} {tys : List (ClassId × FieldType)} {av : List Value} {w0 : va_W} {S : Type} {ty : FieldType} {hh : List (Nat × Nat × Nat × Nat)} {w1 : S → va_W} {r : Int32} (hy : plainName y.cls = true) (hav : (lg_sl av).length ≤ maxL)
    (body : ∀ (p : Program) (e : Env) (s : State) (m : MethodId) (args : Array Value) (below : List Frame) (meth : Method) (c : Code) (ls : Array Slot) (A : Nat → Prop) (Q : State → Prop), p.tables.exec = Jvm.exec → c.code = cc → c.maxLocals = maxL → (∀ w ∈ TB, w.before args s = true) → s.vm.findClass y.cls = some m.cls → meth.name = y.name → va_K D cl tys s → NW s → va_P D cl w0 s.heap → va_D A w0 → (∀ q : Nat, s.heap.size ≤ q → A q) → lv_has ls maxL (lv_args 0 av) →
      XW A s s.heap → c.exceptionTable.toList = tableOf hh →
      (∀ (pc : Nat) (ls : Array Slot) (H : Heap) (locs : List Loc) (cells slots : Nat) (q : S), decode cc pc = .ok (.ireturn, 1) → narrow ty (.int r) = .int r → va_P D cl (w1 q) H → va_D A (w1 q) → va_S A s.heap H locs → cells ≤ nc → slots ≤ ns → W p l e ({ frames := fr, cells := nc, slots := ns, locals := lo }) s m args below meth c H locs cells slots Q (F0 m pc ls [.int r])) →
      W p l e ({ frames := fr, cells := nc, slots := ns, locals := lo }) s m args below meth c s.heap [] 0 0 Q (F0 m 0 ls [])) :
    CWi l y cc maxL ty hh fr lo D cl tys av w0 sz w1 r nc ns := by
  refine va_MetW (cc := cc) (maxL := maxL) (ret := some ty) (hh := hh) hy rfl ?_
  intro p e s m args below meth c s₁ B hml hv
  obtain ⟨rfl, hsz, hP, hK, hN, hD0, hX⟩ := hv
  have hts := atoms_spec (ws := Cond.codeWith y cc maxL (some ty) hh :: TB) B.pre
  subst hsz
  have hD := hD0.self (sz := s.heap.size)
  have hl := lv_entry av (n := maxL) hav
  have hex := vx_table (x := y) B (hts _ List.mem_cons_self)
  rw [lg_entry_eq]
  refine body p e s m _ below meth c _ (va_A w0 s.heap.size) _ B.exec B.bytes hml (fun w hw => hts w (List.mem_cons_of_mem _ hw)) (findClass_of_methodNamed B.named) (name_of_methodNamed B.named B.method).1 hK hN hP hD (fun q h => Or.inr h) hl hX hex ?_
  intro pc ls H locs cells slots q hd hnr hP1 hD1 hS hc1 hc2
  refine W.widen (k := nc) (n := ns) hc1 hc2 ?_
  exact W.zret (v := r) B.exec B.bytes B.returns hnr (fun t ht hW => ⟨⟨r, q, rfl, rfl, by rw [ht]; exact hP1, hD1⟩, hS.F ht⟩) hS.2.2 hd B.notSynchronized
theorem csw_of {R : Room} {s : State} {args : Array Value} {own : String} {index maxL n mc ms : Nat} {y : MethodName} {bytes : ByteArray} {ret : Option FieldType} {hh : List (Nat × Nat × Nat × Nat)} {fr lo : Nat} (hts : ∀ w ∈ TB, w.before args s = true) (h1 : Cond.methodLink own index y ∈ TB) (h2 : Cond.initialized y.cls ∈ TB) (h3 : Cond.codeWith y bytes maxL ret hh ∈ TB) (h4 : Cond.static y ∈ TB)
    (hd : y.cls ≠ "java/lang/invoke/MethodHandle" ∧ y.cls ≠ "java/lang/invoke/VarHandle" ∧ (parseMethodDescriptor y.desc).map (fun d => d.parameters.length) = some n) (hR : fr + 1 ≤ R.frames ∧ 8 + (maxL + 11) + lo ≤ R.locals) :
    vx_CSW R s args own index y bytes maxL ret hh (Cond.codeWith y bytes maxL ret hh :: TB) ({ frames := fr, cells := mc, slots := ms, locals := lo }) mc ms n := by
  refine ⟨⟨rfl, rfl, hR.1, hR.2, pay_in hts (good_TT h3), List.mem_cons_self⟩, hts _ h3, hts _ h2, ⟨hd.1, hd.2.1⟩, fun sig h => ?_, hts _ h1, hts _ h4⟩
  have h9 := hd.2.2
  rw [h] at h9
  exact (Option.some.inj h9).symm
theorem lw_D0 (A : Nat → Prop) : va_D A [] := ⟨fun i j p q h => by simp at h, fun k q h => by simp at h⟩
