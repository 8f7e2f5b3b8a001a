/-! Contracts of methods that return or throw (over the kit's vx_ rows), one form; calls of them; catching. -/
def exN : Nat → String
  | 1 => "java/lang/IllegalArgumentException"
  | 2 => "java/lang/IllegalStateException"
  | 3 => "java/lang/IndexOutOfBoundsException"
  | _ => "java/lang/UnsupportedOperationException"
def exI : Nat → Nat
  | 1 => 55
  | 2 => 87
  | 3 => 188
  | _ => 164
def upN : List String := ["java/lang/RuntimeException", "java/lang/Exception"]
def strs : List (Nat × String) := [(53, "no such style"), (68, "no such size of a band"), (74, "too many blocks"), (85, "no band can be added"), (222, "no such block"), (102, "no such layer"), (104, "no such number of missing planes"), (106, "a head was written"), (127, "no such number of passes"), (133, "too many pieces"), (139, "no such number of bytes"), (144, "all pieces have bytes told"), (156, "the next head can't be written"), (162, "too many bytes"), (181, "no such byte"), (193, "no such bytes"), (195, "no head can be read"), (204, "the head is wrong"), (215, "no such thing to ask"), (217, "no such piece")]
def castW : Cond → Bool
  | .castable .. => true
  | _ => false
/-- what a throw and a catch need of the tables and of Throwable's statics -/
def XW (A : Nat → Prop) (U : State) (H : Heap) : Prop :=
  (∀ w ∈ lw_tbl, castW w = true → va_Nw w U) ∧ (∀ q ∈ strs, ∃ a, vk_R "PacketHeads" q.1 q.2 a U) ∧ (∀ i j : Nat, exN i ≠ exN j → va_Nc (exN i) (exN j) U) ∧
  vx_Zq Bundle.tN "UNASSIGNED_STACK" Bundle.steD A U H ∧ vx_Zq Bundle.tN "SUPPRESSED_SENTINEL" Bundle.listD A U H
theorem XW.moved {A : Nat → Prop} {s U : State} {H : Heap} (hW : s.WarmedH U.vm) (h : XW A s H) : XW A U H := by
  obtain ⟨h1, h2, h3, h4, h5⟩ := h
  refine ⟨fun w hw hc => ?_, fun q hq => ?_, fun i j hij => (h3 i j hij).moved hW.alike, h4.moved hW.alike, h5.moved hW.alike⟩
  · have h0 := h1 w hw hc
    cases w <;> first | exact va_Nw.warmC hW h0 | (exfalso; cases hc)
  · obtain ⟨a, ha⟩ := h2 q hq
    exact ⟨a, ha.warm hW⟩
theorem XW.same {A : Nat → Prop} {u U : State} {H : Heap} (hv : u.vm = U.vm) (h : XW A u H) : XW A U H := by
  obtain ⟨h1, h2, h3, h4, h5⟩ := h
  have hal : u.vm.Alike U.vm := by rw [hv]; exact Vm.Alike.refl _
  refine ⟨fun w hw hc => ?_, fun q hq => ?_, fun i j hij => (h3 i j hij).moved hal, h4.moved hal, h5.moved hal⟩
  · have h0 := h1 w hw hc
    cases w <;> first | exact va_Nw.same rfl hv h0 | (exfalso; cases hc)
  · obtain ⟨a, ha⟩ := h2 q hq
    exact ⟨a, ha.same hv.symm⟩
theorem XW.kept {A : Nat → Prop} {U : State} {H H1 : Heap} (h : XW A U H) (hq : ∀ a : Nat, a < H.size → ¬ A a → H1[a]? = H[a]?) : XW A U H1 := ⟨h.1, h.2.1, h.2.2.1, h.2.2.2.1.kept hq, h.2.2.2.2.kept hq⟩
theorem XW.narrow {A B : Nat → Prop} {U : State} {H : Heap} (h : XW A U H) (hAB : ∀ q, B q → A q) : XW B U H := ⟨h.1, h.2.1, h.2.2.1, h.2.2.2.1.narrow hAB, h.2.2.2.2.narrow hAB⟩
theorem at_in1 : ∀ w ∈ vx_atS "PacketHeads" (exI 1) (exN 1) upN, w ∈ lw_tbl := by decide +kernel
theorem at_in2 : ∀ w ∈ vx_atS "PacketHeads" (exI 2) (exN 2) upN, w ∈ lw_tbl := by decide +kernel
theorem at_in3 : ∀ w ∈ vx_atS "PacketHeads" (exI 3) (exN 3) upN, w ∈ lw_tbl := by decide +kernel
theorem at_in4 : ∀ w ∈ vx_atS "PacketHeads" (exI 4) (exN 4) upN, w ∈ lw_tbl := by decide +kernel
theorem at_k1 : (vx_atS "PacketHeads" (exI 1) (exN 1) upN).all (fun w => (goodWord w || nestW w || castW w) && vx_ot w) = true := by decide +kernel
theorem at_k2 : (vx_atS "PacketHeads" (exI 2) (exN 2) upN).all (fun w => (goodWord w || nestW w || castW w) && vx_ot w) = true := by decide +kernel
theorem at_k3 : (vx_atS "PacketHeads" (exI 3) (exN 3) upN).all (fun w => (goodWord w || nestW w || castW w) && vx_ot w) = true := by decide +kernel
theorem at_k4 : (vx_atS "PacketHeads" (exI 4) (exN 4) upN).all (fun w => (goodWord w || nestW w || castW w) && vx_ot w) = true := by decide +kernel
theorem up_fit : ∀ n ∈ upN, Bundle.fit n = true := by decide +kernel
theorem at_hold {L : List Cond} {A : Nat → Prop} {s : State} {args : Array Value} {H : Heap} (hts : ∀ w ∈ TB, w.before args s = true) (hN : NW s) (hX : XW A s H) (hin : ∀ w ∈ L, w ∈ lw_tbl) (hk : L.all (fun w => (goodWord w || nestW w || castW w) && vx_ot w) = true) : ∀ w ∈ L, w.before args s = true := by
  intro w hw
  have h9 := List.all_eq_true.mp hk w hw
  simp only [Bool.and_eq_true, Bool.or_eq_true] at h9
  rcases h9.1 with (h1 | h1) | h1
  · exact hts w (in_TB (hin w hw) h1)
  · have h0 := hN w (hin w hw) h1
    cases w <;> first | exact va_Nw.use rfl h0 | (exfalso; cases h1)
  · have h0 := hX.1 w (hin w hw) h1
    cases w <;> first | exact va_Nw.use rfl h0 | (exfalso; cases h1)
theorem at_ot {L : List Cond} (hk : L.all (fun w => (goodWord w || nestW w || castW w) && vx_ot w) = true) : ∀ w ∈ L, vx_ot w = true := by
  intro w hw
  have h9 := List.all_eq_true.mp hk w hw
  simp only [Bool.and_eq_true] at h9
  exact h9.2
abbrev PX (D : va_G) (cl : List vw_C) (tys : List (ClassId × FieldType)) (av : List Value) (w0 : va_W) (sz : Nat) : Array Value → State → Prop :=
  va_Pc av (fun U => U.heap.size = sz ∧ va_P D cl w0 U.heap ∧ va_K D cl tys U ∧ NW U ∧ va_D (fun _ => True) w0 ∧ XW (va_A w0 sz) U U.heap)
theorem PX_blind {D : va_G} {cl : List vw_C} {tys : List (ClassId × FieldType)} {av : List Value} {w0 : va_W} {sz : Nat} : FrameBlind (PX D cl tys av w0 sz) := by
  intro a U g mk q
  obtain ⟨q0, q1, qP, qK, qN, qD, qZ⟩ := q
  exact ⟨q0, q1, qP, va_K.moved (u := U) (U := U.calling g mk a) (Vm.Alike.refl U.vm) qK, NW.same (u := U) (U := U.calling g mk a) rfl qN, qD, XW.same (u := U) (U := U.calling g mk a) rfl qZ⟩
abbrev XB (D : va_G) (cl : List vw_C) (w0 : va_W) (sz tg : Nat) {S : Type} (w1 : S → va_W) : String → State → State → Prop :=
  vx_X (fun _ : S => tg ≠ 0) (fun E q t => E = exN tg ∧ va_P D cl (w1 q) t.heap ∧ va_D (va_A w0 sz) (w1 q)) (va_A w0 sz)
abbrev CXi (l : Launch) (y : MethodName) (cc : ByteArray) (maxL : Nat) (ty : FieldType) (fr lo : Nat) (D : va_G) (cl : List vw_C) (tys : List (ClassId × FieldType)) (av : List Value) (w0 : va_W) (sz : Nat) {S : Type} (w1 : S → va_W) (tg : Nat) (r : Int32) (nc ns : Nat) : Prop :=
  vx_Met l y (Cond.code y cc maxL (some ty) :: TB) ({ frames := fr, cells := nc, slots := ns, locals := lo }) (PX D cl tys av w0 sz) (va_Qi (fun r' _ => tg = 0 ∧ r' = r) (WB D cl w0 sz w1) (va_A w0 sz)) (XB D cl w0 sz tg w1) nc ns (va_A w0 sz)
abbrev CXv (l : Launch) (y : MethodName) (cc : ByteArray) (maxL : Nat) (fr lo : Nat) (D : va_G) (cl : List vw_C) (tys : List (ClassId × FieldType)) (av : List Value) (w0 : va_W) (sz : Nat) {S : Type} (w1 : S → va_W) (tg : Nat) (nc ns : Nat) : Prop :=
  vx_Met l y (Cond.code y cc maxL none :: TB) ({ frames := fr, cells := nc, slots := ns, locals := lo }) (PX D cl tys av w0 sz) (va_Qv (fun _ => tg = 0) (WB D cl w0 sz w1) (va_A w0 sz)) (XB D cl w0 sz tg w1) nc ns (va_A w0 sz)
/-- a throw of the class's own, of kind tg, out of the frame at pc -/
def THR (p : Program) (l : Launch) (e : Env) (R : Room) (s : State) (m : MethodId) (args : Array Value) (below : List Frame) (meth : Method) (c : Code) (cc : ByteArray) (A : Nat → Prop) (Q : State → Prop) (D : va_G) (cl : List vw_C) (tg nc ns : Nat) {S : Type} (w1 : S → va_W) : Prop :=
  ∀ (pc ik is : Nat) (tx : String) (ls : Array Slot) (rest : List Value) (H : Heap) (locs : List Loc) (cells slots : Nat) (q : S), tg = 1 ∨ tg = 2 ∨ tg = 3 ∨ tg = 4 → (Cond.classLink "PacketHeads" ik (exN tg)).before args s = true → (Cond.initialized (exN tg)).before args s = true → (is, tx) ∈ strs →
    ls.size = c.maxLocals → va_P D cl (w1 q) H → va_D A (w1 q) → va_S A s.heap H locs → cells + 1 ≤ nc → slots + 6 ≤ ns → cells + 1 ≤ R.cells → slots + 6 ≤ R.slots → 5 < R.frames → (rest.map fun v => v.category).sum + 82 ≤ R.locals →
    decode cc pc = .ok (.new ik, 3) → decode cc (pc + 3) = .ok (.dup, 1) → decode cc (pc + 4) = .ok (.ldc is, 2) → decode cc (pc + 6) = .ok (.invokespecial (exI tg), 3) → decode cc (pc + 9) = .ok (.athrow, 1) →
    W p l e R s m args below meth c H locs cells slots Q (F0 m pc ls rest)
/-- a callee's throw goes on -/
def PAS (p : Program) (l : Launch) (e : Env) (R : Room) (s : State) (m : MethodId) (args : Array Value) (below : List Frame) (meth : Method) (c : Code) (A : Nat → Prop) (Q : State → Prop) (D : va_G) (cl : List vw_C) (tg nc ns : Nat) {S : Type} (w1 : S → va_W) : Prop :=
  ∀ (pc : Nat) (ls : Array Slot) (rest : List Value) (H : Heap) (locs : List Loc) (cells slots : Nat) (q : S) (x : Addr) (ce : Cell) (E : String), tg ≠ 0 → E = exN tg → H[x]? = some ce → ce.vm = .none → s.vm.findClass E = some ce.cls → va_P D cl (w1 q) H → va_D A (w1 q) → va_S A s.heap H locs → cells ≤ nc → slots ≤ ns →
    vx_W p l e R s m args below meth c H locs cells slots Q (F0 m pc ls rest) x
section XMK
variable {l : Launch} {cc : ByteArray} {maxL nc ns sz fr lo tg : Nat} {nm ds : String} {D : va_G} {cl : List vw_C} {tys : List (ClassId × FieldType)} {av : List Value} {w0 : va_W} {S : Type}
theorem thr_of {p : Program} {e : Env} {R : Room} {s : State} {m : MethodId} {args : Array Value} {below : List Frame} {meth : Method} {c : Code} {A : Nat → Prop} {Qc : Array Value → State → Outcome → State → Prop} {w1 : S → va_W} (hl : l.stackTraces = false) (hx : p.tables.exec = Jvm.exec) (hb : c.code = cc) (hts : ∀ w ∈ TB, w.before args s = true) (hown : s.vm.findClass "PacketHeads" = some m.cls) (hN : NW s) (hX : XW (va_A w0 s.heap.size) s s.heap) (hex : ∀ x ∈ c.exceptionTable.toList, False) (hlocks : meth.locks = false) (hA : va_A w0 s.heap.size = A) :
    THR p l e R s m args below meth c cc A (vx_MQ below Qc (XB D cl w0 s.heap.size tg w1) args s nc ns (va_A w0 s.heap.size)) D cl tg nc ns w1 := by
  subst hA
  intro pc ik is tx ls rest H locs cells slots q htg hk hini hst hsize hP hD hS hc1 hc2 hR1 hR2 hR3 hR4 d0 d3 d4 d6 d9
  obtain ⟨sa, hsa⟩ := hX.2.1 _ hst
  have go : ∀ k : Nat, tg = k → k ≠ 0 → (∀ w ∈ vx_atS "PacketHeads" (exI k) (exN k) upN, w ∈ lw_tbl) → (vx_atS "PacketHeads" (exI k) (exN k) upN).all (fun w => (goodWord w || nestW w || castW w) && vx_ot w) = true → Bundle.fit (exN k) = true → (vx_ot (.classLink "PacketHeads" ik (exN k)) = true ∧ vx_ot (.initialized (exN k)) = true) →
      W p l e R s m args below meth c H locs cells slots (vx_MQ below Qc (XB D cl w0 s.heap.size tg w1) args s nc ns (va_A w0 s.heap.size)) (F0 m pc ls rest) := by
    intro k hk1 hk0 hin hall hfit hot
    subst hk1
    refine vx_throwS (names := upN) (sa := sa) hx hb hl hown hfit up_fit hk hini hsa (at_hold hts hN hX hin hall) ?_ hX.2.2.2.1 hX.2.2.2.2 hS hsize d0 d3 d4 d6 d9 (fun x h => (hex x h).elim) hR3 hR4 hR1 hR2 hlocks ?_ hS.2.2 hc1 hc2
    · intro w hw
      rcases List.mem_cons.mp hw with rfl | hw
      · exact hot.1
      · rcases List.mem_cons.mp hw with rfl | hw
        · exact hot.2
        · exact at_ot hall w hw
    · intro t hal hz hq
      refine ⟨q, hk0, ⟨rfl, hP.kept fun k9 q9 h9 => hq _ (hP k9 q9 h9).lt, hD⟩, ⟨Nat.le_trans hS.1 hz, fun q9 h8 h9 => ?_⟩⟩
      rw [hq q9 (Nat.lt_of_lt_of_le h8 hS.1)]
      exact hS.2.1 q9 h8 h9
  rcases htg with h | h | h | h
  · exact go 1 h (by decide) at_in1 at_k1 (by decide +kernel) ⟨rfl, rfl⟩
  · exact go 2 h (by decide) at_in2 at_k2 (by decide +kernel) ⟨rfl, rfl⟩
  · exact go 3 h (by decide) at_in3 at_k3 (by decide +kernel) ⟨rfl, rfl⟩
  · exact go 4 h (by decide) at_in4 at_k4 (by decide +kernel) ⟨rfl, rfl⟩
theorem pas_of {p : Program} {e : Env} {R : Room} {s : State} {m : MethodId} {args : Array Value} {below : List Frame} {meth : Method} {c : Code} {A : Nat → Prop} {Qc : Array Value → State → Outcome → State → Prop} {w1 : S → va_W} (hex : ∀ x ∈ c.exceptionTable.toList, False) (hlocks : meth.locks = false) (hA : va_A w0 s.heap.size = A) :
    PAS p l e R s m args below meth c A (vx_MQ below Qc (XB D cl w0 s.heap.size tg w1) args s nc ns (va_A w0 s.heap.size)) D cl tg nc ns w1 := by
  subst hA
  intro pc ls rest H locs cells slots q x ce E htg hE hce hcv hcc hP hD hS hc1 hc2
  refine vx_out (fun x h => (hex x h).elim) hlocks hce hcv hcc (fun t ht hal => ⟨q, htg, ⟨hE, by rw [ht]; exact hP, hD⟩, hS.F ht⟩) hS.2.2 hc1 hc2
theorem mk_xi {ty : FieldType} {w1 : S → va_W} {r : Int32} (hl : l.stackTraces = false) (hav : (lg_sl av).length ≤ maxL)
    (body : ∀ (p : Program) (e : Env) (s : State) (m : MethodId) (args : Array Value) (below : List Frame) (meth : Method) (c : Code) (ls : Array Slot) (A : Nat → Prop) (Q : State → Prop), p.tables.exec = Jvm.exec → c.code = cc → c.maxLocals = maxL → (∀ w ∈ TB, w.before args s = true) → s.vm.findClass "PacketHeads" = some m.cls → meth.name = nm → va_K D cl tys s → NW s → va_P D cl w0 s.heap → va_D A w0 → (∀ q : Nat, s.heap.size ≤ q → A q) → lv_has ls maxL (lv_args 0 av) →
      XW A s s.heap → THR p l e ({ frames := fr, cells := nc, slots := ns, locals := lo }) s m args below meth c cc A Q D cl tg nc ns w1 → PAS p l e ({ frames := fr, cells := nc, slots := ns, locals := lo }) s m args below meth c A Q D cl tg nc ns w1 →
      (∀ (pc : Nat) (ls : Array Slot) (H : Heap) (locs : List Loc) (cells slots : Nat) (q : S), tg = 0 → decode cc pc = .ok (.ireturn, 1) → narrow ty (.int r) = .int r → va_P D cl (w1 q) H → va_D A (w1 q) → va_S A s.heap H locs → cells ≤ nc → slots ≤ ns → W p l e ({ frames := fr, cells := nc, slots := ns, locals := lo }) s m args below meth c H locs cells slots Q (F0 m pc ls [.int r])) →
      W p l e ({ frames := fr, cells := nc, slots := ns, locals := lo }) s m args below meth c s.heap [] 0 0 Q (F0 m 0 ls [])) :
    CXi l ⟨"PacketHeads", nm, ds⟩ cc maxL ty fr lo D cl tys av w0 sz w1 tg r nc ns := by
  refine vx_ofW (cc := cc) (maxL := maxL) (ret := some ty) (show plainName "PacketHeads" = true by decide +kernel) rfl ?_
  intro p e s m args below meth c s₁ B hml hex hv
  obtain ⟨rfl, hsz, hP, hK, hN, hD0, hX⟩ := hv
  have hts := atoms_spec (ws := Cond.code ⟨"PacketHeads", nm, ds⟩ cc maxL (some ty) :: TB) B.pre
  subst hsz
  have hD := hD0.self (sz := s.heap.size)
  have hl1 := lv_entry av (n := maxL) hav
  have hts' : ∀ w ∈ TB, w.before av.toArray s = true := fun w hw => hts w (List.mem_cons_of_mem _ hw)
  have hown : s.vm.findClass "PacketHeads" = some m.cls := findClass_of_methodNamed B.named
  rw [lg_entry_eq]
  refine body p e s m _ below meth c _ (va_A w0 s.heap.size) _ B.exec B.bytes hml hts' hown (name_of_methodNamed B.named B.method).1 hK hN hP hD (fun q h => Or.inr h) hl1 hX (thr_of hl B.exec B.bytes hts' hown hN hX hex B.notSynchronized rfl) (pas_of hex B.notSynchronized rfl) ?_
  intro pc ls H locs cells slots q htg hd hnr hP1 hD1 hS hc1 hc2
  refine vx_ret ?_
  refine W.widen (k := nc) (n := ns) hc1 hc2 ?_
  exact W.zret (v := r) B.exec B.bytes B.returns hnr (fun t ht hW => ⟨⟨r, q, rfl, ⟨htg, rfl⟩, by rw [ht]; exact hP1, hD1⟩, hS.F ht⟩) hS.2.2 hd B.notSynchronized
theorem mk_xv {w1 : S → va_W} (hl : l.stackTraces = false) (hav : (lg_sl av).length ≤ maxL)
    (body : ∀ (p : Program) (e : Env) (s : State) (m : MethodId) (args : Array Value) (below : List Frame) (meth : Method) (c : Code) (ls : Array Slot) (A : Nat → Prop) (Q : State → Prop), p.tables.exec = Jvm.exec → c.code = cc → c.maxLocals = maxL → (∀ w ∈ TB, w.before args s = true) → s.vm.findClass "PacketHeads" = some m.cls → meth.name = nm → va_K D cl tys s → NW s → va_P D cl w0 s.heap → va_D A w0 → (∀ q : Nat, s.heap.size ≤ q → A q) → lv_has ls maxL (lv_args 0 av) →
      XW A s s.heap → THR p l e ({ frames := fr, cells := nc, slots := ns, locals := lo }) s m args below meth c cc A Q D cl tg nc ns w1 → PAS p l e ({ frames := fr, cells := nc, slots := ns, locals := lo }) s m args below meth c A Q D cl tg nc ns w1 →
      (∀ (pc : Nat) (ls : Array Slot) (H : Heap) (locs : List Loc) (cells slots : Nat) (q : S), tg = 0 → decode cc pc = .ok (.return_, 1) → va_P D cl (w1 q) H → va_D A (w1 q) → va_S A s.heap H locs → cells ≤ nc → slots ≤ ns → W p l e ({ frames := fr, cells := nc, slots := ns, locals := lo }) s m args below meth c H locs cells slots Q (F0 m pc ls [])) →
      W p l e ({ frames := fr, cells := nc, slots := ns, locals := lo }) s m args below meth c s.heap [] 0 0 Q (F0 m 0 ls [])) :
    CXv l ⟨"PacketHeads", nm, ds⟩ cc maxL fr lo D cl tys av w0 sz w1 tg nc ns := by
  refine vx_ofW (cc := cc) (maxL := maxL) (ret := none) (show plainName "PacketHeads" = true by decide +kernel) rfl ?_
  intro p e s m args below meth c s₁ B hml hex hv
  obtain ⟨rfl, hsz, hP, hK, hN, hD0, hX⟩ := hv
  have hts := atoms_spec (ws := Cond.code ⟨"PacketHeads", nm, ds⟩ cc maxL none :: TB) B.pre
  subst hsz
  have hD := hD0.self (sz := s.heap.size)
  have hl1 := lv_entry av (n := maxL) hav
  have hts' : ∀ w ∈ TB, w.before av.toArray s = true := fun w hw => hts w (List.mem_cons_of_mem _ hw)
  have hown : s.vm.findClass "PacketHeads" = some m.cls := findClass_of_methodNamed B.named
  rw [lg_entry_eq]
  refine body p e s m _ below meth c _ (va_A w0 s.heap.size) _ B.exec B.bytes hml hts' hown (name_of_methodNamed B.named B.method).1 hK hN hP hD (fun q h => Or.inr h) hl1 hX (thr_of hl B.exec B.bytes hts' hown hN hX hex B.notSynchronized rfl) (pas_of hex B.notSynchronized rfl) ?_
  intro pc ls H locs cells slots q htg hd hP1 hD1 hS hc1 hc2
  refine vx_ret ?_
  refine W.widen (k := nc) (n := ns) hc1 hc2 ?_
  exact W.vret B.exec B.bytes B.returns (fun t ht hW => ⟨⟨q, rfl, htg, by rw [ht]; exact hP1, hD1⟩, hS.F ht⟩) hS.2.2 hd B.notSynchronized
end XMK
section XCALL
variable {p : Program} {l : Launch} {e : Env} {R : Room} {s : State} {m : MethodId} {args : Array Value} {below : List Frame} {meth : Method} {c : Code} {H : Heap} {locs : List Loc} {cells slots : Nat} {Q : State → Prop}
variable {D : va_G} {cl : List vw_C} {tys : List (ClassId × FieldType)} {A0 : Nat → Prop} {ws wc wr : va_W} {pc mc ms tg : Nat} {ls : Array Slot} {rest st0 As : List Value} {a : Array Value} {S : Type}
theorem pr_X {b q0 ci N : Nat} {C : String} {T : u_T} {fs : List Value} (hK : va_K D cl tys s) (hN : NW s) (hX : XW A0 s s.heap) (hS : va_S A0 s.heap H locs) (hF : ∀ q, va_A wc H.size q → A0 q) (hPc : va_P D cl wc H) (hDc : va_D A0 wc) (hc : cl[ci]? = some (C, T, N)) (he : wc[q0]? = some (b, .inr (ci, fs))) : PreV s H C b (PX D cl tys (.ref b :: As) wc H.size) As :=
  ⟨PX_blind, va_recv hK hPc hc he, fun U hU hW => ⟨rfl, by rw [hU], by rw [hU]; exact hPc, va_K.moved hW.alike hK, hN.moved hW, hDc.weaken (fun _ _ _ _ => trivial), by rw [hU]; exact ((hX.kept hS.2.1).moved hW).narrow hF⟩⟩
theorem pr_XS (hK : va_K D cl tys s) (hN : NW s) (hX : XW A0 s s.heap) (hS : va_S A0 s.heap H locs) (hF : ∀ q, va_A wc H.size q → A0 q) (hPc : va_P D cl wc H) (hDc : va_D A0 wc) : PreS s H (PX D cl tys As wc H.size) As :=
  ⟨PX_blind, fun U hU hW => ⟨rfl, by rw [hU], by rw [hU]; exact hPc, va_K.moved hW.alike hK, hN.moved hW, hDc.weaken (fun _ _ _ _ => trivial), by rw [hU]; exact ((hX.kept hS.2.1).moved hW).narrow hF⟩⟩
theorem jx_i {r0 : Int32} {w1 : S → va_W} (hr : vx_Run p l e R s m args below meth c H locs cells slots mc ms (F0 m pc ls st0) rest (va_Qi (fun r' _ => tg = 0 ∧ r' = r0) (WB D cl wc H.size w1) (va_A wc H.size) a) (XB D cl wc H.size tg w1) (va_A wc H.size))
    (hP : va_P D cl ws H) (hD : va_D A0 ws) (hS : va_S A0 s.heap H locs) (hA : ∀ q, s.heap.size ≤ q → A0 q) (isC isR : List Nat) (hC : isC.map (fun i => ws[i]?) = wc.map some) (hR : isR.map (fun i => ws[i]?) = wr.map some) (hn : va_nd isR = true) (hdis : ∀ i ∈ isR, i ∉ isC)
    (kx : ∀ (E : String) (ce : Cell) (x : Addr) (q : S) (H1 : Heap) (locs1 : List Loc), tg ≠ 0 → E = exN tg → va_P D cl (wr ++ w1 q) H1 → va_D A0 (wr ++ w1 q) → va_S A0 s.heap H1 locs1 → H1[x]? = some ce → ce.vm = .none → s.vm.findClass E = some ce.cls → vx_W p l e R s m args below meth c H1 locs1 (cells + mc) (slots + ms) Q (F0 m pc ls rest) x)
    (kk : ∀ (q : S) (H1 : Heap) (locs1 : List Loc), tg = 0 → va_P D cl (wr ++ w1 q) H1 → va_D A0 (wr ++ w1 q) → va_S A0 s.heap H1 locs1 → W p l e R s m args below meth c H1 locs1 (cells + mc) (slots + ms) Q (F0 m (pc + 3) ls (.int r0 :: rest))) : W p l e R s m args below meth c H locs cells slots Q (F0 m pc ls st0) := by
  have hFc := va_free (wc := wc) hD hS hA isC hC
  refine vx_calli hr hS (fun q _ h => hFc q h) hFc (fun q _ h => hFc q h) (fun E ce x u t H1 locs1 ht hvm hpx hB hz1 hk1 hS1 hce hcv hcc => ?_) (fun r u t H1 locs1 ht hvm hw hB hz1 hk1 hS1 => ?_)
  · obtain ⟨hE, hP1, hD1⟩ := hB
    rw [ht] at hP1
    obtain ⟨hP2, hD2⟩ := va_join (wr := wr) hP hD isC isR hC hR hn hdis hk1 hFc hP1 hD1
    exact kx E ce x u H1 locs1 hpx hE hP2 hD2 hS1 hce hcv hcc
  · obtain ⟨hP1, hD1⟩ := hB
    rw [ht] at hP1
    obtain ⟨hP2, hD2⟩ := va_join (wr := wr) hP hD isC isR hC hR hn hdis hk1 hFc hP1 hD1
    rw [hw.2]
    exact kk u H1 locs1 hw.1 hP2 hD2 hS1
theorem jx_v {w1 : S → va_W} (hr : vx_Run p l e R s m args below meth c H locs cells slots mc ms (F0 m pc ls st0) rest (va_Qv (fun _ => tg = 0) (WB D cl wc H.size w1) (va_A wc H.size) a) (XB D cl wc H.size tg w1) (va_A wc H.size))
    (hP : va_P D cl ws H) (hD : va_D A0 ws) (hS : va_S A0 s.heap H locs) (hA : ∀ q, s.heap.size ≤ q → A0 q) (isC isR : List Nat) (hC : isC.map (fun i => ws[i]?) = wc.map some) (hR : isR.map (fun i => ws[i]?) = wr.map some) (hn : va_nd isR = true) (hdis : ∀ i ∈ isR, i ∉ isC)
    (kx : ∀ (E : String) (ce : Cell) (x : Addr) (q : S) (H1 : Heap) (locs1 : List Loc), tg ≠ 0 → E = exN tg → va_P D cl (wr ++ w1 q) H1 → va_D A0 (wr ++ w1 q) → va_S A0 s.heap H1 locs1 → H1[x]? = some ce → ce.vm = .none → s.vm.findClass E = some ce.cls → vx_W p l e R s m args below meth c H1 locs1 (cells + mc) (slots + ms) Q (F0 m pc ls rest) x)
    (kk : ∀ (q : S) (H1 : Heap) (locs1 : List Loc), tg = 0 → va_P D cl (wr ++ w1 q) H1 → va_D A0 (wr ++ w1 q) → va_S A0 s.heap H1 locs1 → W p l e R s m args below meth c H1 locs1 (cells + mc) (slots + ms) Q (F0 m (pc + 3) ls rest)) : W p l e R s m args below meth c H locs cells slots Q (F0 m pc ls st0) := by
  have hFc := va_free (wc := wc) hD hS hA isC hC
  refine vx_callv hr hS (fun q _ h => hFc q h) hFc (fun q _ h => hFc q h) (fun E ce x u t H1 locs1 ht hvm hpx hB hz1 hk1 hS1 hce hcv hcc => ?_) (fun u t H1 locs1 ht hvm hw hB hz1 hk1 hS1 => ?_)
  · obtain ⟨hE, hP1, hD1⟩ := hB
    rw [ht] at hP1
    obtain ⟨hP2, hD2⟩ := va_join (wr := wr) hP hD isC isR hC hR hn hdis hk1 hFc hP1 hD1
    exact kx E ce x u H1 locs1 hpx hE hP2 hD2 hS1 hce hcv hcc
  · obtain ⟨hP1, hD1⟩ := hB
    rw [ht] at hP1
    obtain ⟨hP2, hD2⟩ := va_join (wr := wr) hP hD isC isR hC hR hn hdis hk1 hFc hP1 hD1
    exact kk u H1 locs1 hw hP2 hD2 hS1
end XCALL
theorem tag_eq {α : Type} {o : Option (Nat × Nat × Nat × α)} {u : Nat × Nat × Nat × α} (h : o = some u) : o = some (u.1, u.2.1, u.2.2.1, u.2.2.2) := h
