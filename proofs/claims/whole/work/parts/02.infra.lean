/-! What the printed walks stand on: the mirror's words, contracts in one form, calls in one form. -/
noncomputable def asm {α : Type} (P : Prop) (k : Option α) : Option α := @ite _ P (Classical.propDecidable P) k none
theorem asm_of {α : Type} {P : Prop} {k : Option α} {o : α} (h : asm P k = some o) : P ∧ k = some o := by
  unfold asm at h
  by_cases hp : P
  · rw [if_pos hp] at h; exact ⟨hp, h⟩
  · rw [if_neg hp] at h; cases h
theorem asm_t {α : Type} {P : Prop} {k : Option α} (h : P) : asm P k = k := if_pos h
def letb {α β : Type} (a : α) (k : α → β) : β := k a
theorem letb_of {α β : Type} {a y : α} {k : α → β} {o : β} (h : letb a k = o) (e : y = a) : k y = o := by subst e; exact h
theorem letb_eq {α β : Type} (a : α) (k : α → β) : letb a k = k a := rfl
theorem ite_t {c : Prop} [Decidable c] {α : Type} {a b o : α} (hc : c) (h : (if c then a else b) = o) : a = o := by rw [if_pos hc] at h; exact h
theorem ite_f {c : Prop} [Decidable c] {α : Type} {a b o : α} (hc : ¬ c) (h : (if c then a else b) = o) : b = o := by rw [if_neg hc] at h; exact h
def bd {α β : Type} (o : Option α) (k : α → Option β) : Option β := o.bind k
theorem bd_of {α β : Type} {o : Option α} {k : α → Option β} {z : β} (h : bd o k = some z) : ∃ u, o = some u ∧ k u = some z := Option.bind_eq_some_iff.mp h
theorem bd_some {α β : Type} (a : α) (k : α → Option β) : bd (some a) k = k a := rfl
/-- so many cells and slots more are made -/
def addc {α : Type} (k n : Nat) (o : Option (Nat × Nat × α)) : Option (Nat × Nat × α) := o.map fun x => (x.1 + k, x.2.1 + n, x.2.2)
theorem addc_of {α : Type} {k n a b : Nat} {u : α} {o : Option (Nat × Nat × α)} (h : addc k n o = some (a, b, u)) : ∃ a' b', o = some (a', b', u) ∧ a = a' + k ∧ b = b' + n := by
  unfold addc at h
  cases o with
  | none => cases h
  | some x =>
    obtain ⟨x1, x2, x3⟩ := x
    cases h
    exact ⟨x1, x2, rfl, rfl, rfl⟩
theorem addc_some {α : Type} (k n a b : Nat) (u : α) : addc k n (some (a, b, u)) = some (a + k, b + n, u) := rfl
theorem tag_ne {α : Type} {a b : Nat} {x y : α} {P : Prop} (hn : a ≠ b) (h : some (a, x) = some (b, y)) : P := absurd (congrArg Prod.fst (Option.some.inj h)) hn
-- ===== the words: good ones, and a nest's =====
def TB : List Cond := lw_tbl.filter goodWord
theorem in_TB {w : Cond} (h : w ∈ lw_tbl) (hg : goodWord w = true) : w ∈ TB := List.mem_filter.mpr ⟨h, hg⟩
theorem TB_in {w : Cond} (h : w ∈ TB) : w ∈ lw_tbl := (List.mem_filter.mp h).1
theorem good_TB {a b : Cond} (h : b ∈ TB) : GoodIn (a :: TB) (b :: TB) := by
  intro w hw
  rcases List.mem_cons.mp hw with rfl | h1
  · exact ⟨List.mem_cons_of_mem _ h, good_of_word (List.mem_filter.mp h).2⟩
  · exact ⟨List.mem_cons_of_mem _ h1, good_of_word (List.mem_filter.mp h1).2⟩
theorem good_TT {b : Cond} (h : b ∈ TB) : GoodIn TB (b :: TB) := by
  intro w hw
  rcases List.mem_cons.mp hw with rfl | h1
  · exact ⟨h, good_of_word (List.mem_filter.mp h).2⟩
  · exact ⟨h1, good_of_word (List.mem_filter.mp h1).2⟩
def nestW : Cond → Bool
  | .fieldLinkNest .. => true
  | .methodLinkNest .. => true
  | .declares _ => true
  | _ => false
def NW (U : State) : Prop := ∀ w ∈ lw_tbl, nestW w = true → va_Nw w U
theorem NW.moved {s U : State} (hW : s.WarmedH U.vm) (h : NW s) : NW U := by
  intro w hw hn
  have h0 := h w hw hn
  cases w <;> first | exact va_Nw.warmF hW h0 | exact va_Nw.warmM hW h0 | exact va_Nw.warmD hW h0 | (exfalso; cases hn)
theorem NW.same {u U : State} (hv : u.vm = U.vm) (h : NW u) : NW U := by
  intro w hw hn
  have h0 := h w hw hn
  cases w <;> first | exact va_Nw.same rfl hv h0 | (exfalso; cases hn)
-- ===== a contract's start =====
abbrev PC (D : va_G) (cl : List vw_C) (tys : List (ClassId × FieldType)) (av : List Value) (w0 : va_W) (sz : Nat) : Array Value → State → Prop :=
  va_Pc av (fun U => U.heap.size = sz ∧ va_P D cl w0 U.heap ∧ va_K D cl tys U ∧ NW U ∧ va_D (fun _ => True) w0)
theorem PC_blind {D : va_G} {cl : List vw_C} {tys : List (ClassId × FieldType)} {av : List Value} {w0 : va_W} {sz : Nat} : FrameBlind (PC D cl tys av w0 sz) := by
  intro a U g mk q
  obtain ⟨q0, q1, qP, qK, qN, qD⟩ := q
  exact ⟨q0, q1, qP, va_K.moved (u := U) (U := U.calling g mk a) (Vm.Alike.refl U.vm) qK, NW.same (u := U) (U := U.calling g mk a) rfl qN, qD⟩
abbrev WB (D : va_G) (cl : List vw_C) (w0 : va_W) (sz : Nat) {S : Type} (w1 : S → va_W) : S → State → Prop := fun q t => va_P D cl (w1 q) t.heap ∧ va_D (va_A w0 sz) (w1 q)
abbrev WR (D : va_G) (cl : List vw_C) (w0 : va_W) (sz : Nat) {S : Type} (w1 : S → Nat → va_W) : S → Nat → State → Prop := fun q a t => va_P D cl (w1 q a) t.heap ∧ va_D (va_A w0 sz) (w1 q a)
/-- contracts: an int, a boolean (as an int), a long, nothing, an array or object (its address comes with the world) -/
abbrev CTi (l : Launch) (y : MethodName) (cc : ByteArray) (maxL : Nat) (ty : FieldType) (fr lo : Nat) (D : va_G) (cl : List vw_C) (tys : List (ClassId × FieldType)) (av : List Value) (w0 : va_W) (sz : Nat) {S : Type} (w1 : S → va_W) (r : Int32) (nc ns : Nat) : Prop :=
  Met l y (Cond.code y cc maxL (some ty) :: TB) ({ frames := fr, cells := nc, slots := ns, locals := lo }) (PC D cl tys av w0 sz) (va_Qi (fun r' _ => r' = r) (WB D cl w0 sz w1) (va_A w0 sz)) nc ns (va_A w0 sz)
abbrev CTl (l : Launch) (y : MethodName) (cc : ByteArray) (maxL : Nat) (fr lo : Nat) (D : va_G) (cl : List vw_C) (tys : List (ClassId × FieldType)) (av : List Value) (w0 : va_W) (sz : Nat) {S : Type} (w1 : S → va_W) (r : Int64) (nc ns : Nat) : Prop :=
  Met l y (Cond.code y cc maxL (some .long) :: TB) ({ frames := fr, cells := nc, slots := ns, locals := lo }) (PC D cl tys av w0 sz) (va_Ql (fun r' _ => r' = r) (WB D cl w0 sz w1) (va_A w0 sz)) nc ns (va_A w0 sz)
abbrev CTv (l : Launch) (y : MethodName) (cc : ByteArray) (maxL : Nat) (fr lo : Nat) (D : va_G) (cl : List vw_C) (tys : List (ClassId × FieldType)) (av : List Value) (w0 : va_W) (sz : Nat) {S : Type} (w1 : S → va_W) (nc ns : Nat) : Prop :=
  Met l y (Cond.code y cc maxL none :: TB) ({ frames := fr, cells := nc, slots := ns, locals := lo }) (PC D cl tys av w0 sz) (va_Qv (fun _ => True) (WB D cl w0 sz w1) (va_A w0 sz)) nc ns (va_A w0 sz)
abbrev CTr (l : Launch) (y : MethodName) (cc : ByteArray) (maxL : Nat) (ty : FieldType) (fr lo : Nat) (D : va_G) (cl : List vw_C) (tys : List (ClassId × FieldType)) (av : List Value) (w0 : va_W) (sz : Nat) {S : Type} (w1 : S → Nat → va_W) (nc ns : Nat) : Prop :=
  Met l y (Cond.code y cc maxL (some ty) :: TB) ({ frames := fr, cells := nc, slots := ns, locals := lo }) (PC D cl tys av w0 sz) (va_Qr (fun _ => True) (WR D cl w0 sz w1) (va_A w0 sz)) nc ns (va_A w0 sz)
section MK
variable {l : Launch} {y : MethodName} {cc : ByteArray} {maxL nc ns sz fr lo : Nat} {D : va_G} {cl : List vw_C} {tys : List (ClassId × FieldType)} {av : List Value} {w0 : va_W} {S : Type}
theorem mk_i {ty : FieldType} {w1 : S → va_W} {r : Int32} (hy : plainName y.cls = true) (hav : (lg_sl av).length ≤ maxL)
    (body : ∀ (p : Program) (e : Env) (s : State) (m : MethodId) (args : Array Value) (below : List Frame) (meth : Method) (c : Code) (ls : Array Slot) (A : Nat → Prop) (Q : State → Prop), p.tables.exec = Jvm.exec → c.code = cc → c.maxLocals = maxL → (∀ w ∈ TB, w.before args s = true) → s.vm.findClass y.cls = some m.cls → meth.name = y.name → va_K D cl tys s → NW s → va_P D cl w0 s.heap → va_D A w0 → (∀ q : Nat, s.heap.size ≤ q → A q) → lv_has ls maxL (lv_args 0 av) →
      (∀ (pc : Nat) (ls : Array Slot) (H : Heap) (locs : List Loc) (cells slots : Nat) (q : S), decode cc pc = .ok (.ireturn, 1) → narrow ty (.int r) = .int r → va_P D cl (w1 q) H → va_D A (w1 q) → va_S A s.heap H locs → cells ≤ nc → slots ≤ ns → W p l e ({ frames := fr, cells := nc, slots := ns, locals := lo }) s m args below meth c H locs cells slots Q (F0 m pc ls [.int r])) →
      W p l e ({ frames := fr, cells := nc, slots := ns, locals := lo }) s m args below meth c s.heap [] 0 0 Q (F0 m 0 ls [])) :
    CTi l y cc maxL ty fr lo D cl tys av w0 sz w1 r nc ns := by
  refine Met.ofW (cc := cc) (maxL := maxL) (ret := some ty) hy rfl ?_
  intro p e s m args below meth c s₁ B hml hv
  obtain ⟨rfl, hsz, hP, hK, hN, hD0⟩ := hv
  have hts := atoms_spec (ws := Cond.code y cc maxL (some ty) :: TB) B.pre
  subst hsz
  have hD := hD0.self (sz := s.heap.size)
  have hl := lv_entry av (n := maxL) hav
  rw [lg_entry_eq]
  refine body p e s m _ below meth c _ (va_A w0 s.heap.size) _ B.exec B.bytes hml (fun w hw => hts w (List.mem_cons_of_mem _ hw)) (findClass_of_methodNamed B.named) (name_of_methodNamed B.named B.method).1 hK hN hP hD (fun q h => Or.inr h) hl ?_
  intro pc ls H locs cells slots q hd hnr hP1 hD1 hS hc1 hc2
  refine W.widen (k := nc) (n := ns) hc1 hc2 ?_
  exact W.zret (v := r) B.exec B.bytes B.returns hnr (fun t ht hW => ⟨⟨r, q, rfl, rfl, by rw [ht]; exact hP1, hD1⟩, hS.F ht⟩) hS.2.2 hd B.notSynchronized
theorem mk_l {w1 : S → va_W} {r : Int64} (hy : plainName y.cls = true) (hav : (lg_sl av).length ≤ maxL)
    (body : ∀ (p : Program) (e : Env) (s : State) (m : MethodId) (args : Array Value) (below : List Frame) (meth : Method) (c : Code) (ls : Array Slot) (A : Nat → Prop) (Q : State → Prop), p.tables.exec = Jvm.exec → c.code = cc → c.maxLocals = maxL → (∀ w ∈ TB, w.before args s = true) → s.vm.findClass y.cls = some m.cls → meth.name = y.name → va_K D cl tys s → NW s → va_P D cl w0 s.heap → va_D A w0 → (∀ q : Nat, s.heap.size ≤ q → A q) → lv_has ls maxL (lv_args 0 av) →
      (∀ (pc : Nat) (ls : Array Slot) (H : Heap) (locs : List Loc) (cells slots : Nat) (q : S), decode cc pc = .ok (.lreturn, 1) → va_P D cl (w1 q) H → va_D A (w1 q) → va_S A s.heap H locs → cells ≤ nc → slots ≤ ns → W p l e ({ frames := fr, cells := nc, slots := ns, locals := lo }) s m args below meth c H locs cells slots Q (F0 m pc ls [.long r])) →
      W p l e ({ frames := fr, cells := nc, slots := ns, locals := lo }) s m args below meth c s.heap [] 0 0 Q (F0 m 0 ls [])) :
    CTl l y cc maxL fr lo D cl tys av w0 sz w1 r nc ns := by
  refine Met.ofW (cc := cc) (maxL := maxL) (ret := some .long) hy rfl ?_
  intro p e s m args below meth c s₁ B hml hv
  obtain ⟨rfl, hsz, hP, hK, hN, hD0⟩ := hv
  have hts := atoms_spec (ws := Cond.code y cc maxL (some .long) :: TB) B.pre
  subst hsz
  have hD := hD0.self (sz := s.heap.size)
  have hl := lv_entry av (n := maxL) hav
  rw [lg_entry_eq]
  refine body p e s m _ below meth c _ (va_A w0 s.heap.size) _ B.exec B.bytes hml (fun w hw => hts w (List.mem_cons_of_mem _ hw)) (findClass_of_methodNamed B.named) (name_of_methodNamed B.named B.method).1 hK hN hP hD (fun q h => Or.inr h) hl ?_
  intro pc ls H locs cells slots q hd hP1 hD1 hS hc1 hc2
  refine W.widen (k := nc) (n := ns) hc1 hc2 ?_
  exact W.lret (v := r) B.exec B.bytes B.returns (fun t ht hW => ⟨⟨r, q, rfl, rfl, by rw [ht]; exact hP1, hD1⟩, hS.F ht⟩) hS.2.2 hd B.notSynchronized
theorem mk_v {w1 : S → va_W} (hy : plainName y.cls = true) (hav : (lg_sl av).length ≤ maxL)
    (body : ∀ (p : Program) (e : Env) (s : State) (m : MethodId) (args : Array Value) (below : List Frame) (meth : Method) (c : Code) (ls : Array Slot) (A : Nat → Prop) (Q : State → Prop), p.tables.exec = Jvm.exec → c.code = cc → c.maxLocals = maxL → (∀ w ∈ TB, w.before args s = true) → s.vm.findClass y.cls = some m.cls → meth.name = y.name → va_K D cl tys s → NW s → va_P D cl w0 s.heap → va_D A w0 → (∀ q : Nat, s.heap.size ≤ q → A q) → lv_has ls maxL (lv_args 0 av) →
      (∀ (pc : Nat) (ls : Array Slot) (H : Heap) (locs : List Loc) (cells slots : Nat) (q : S), decode cc pc = .ok (.return_, 1) → va_P D cl (w1 q) H → va_D A (w1 q) → va_S A s.heap H locs → cells ≤ nc → slots ≤ ns → W p l e ({ frames := fr, cells := nc, slots := ns, locals := lo }) s m args below meth c H locs cells slots Q (F0 m pc ls [])) →
      W p l e ({ frames := fr, cells := nc, slots := ns, locals := lo }) s m args below meth c s.heap [] 0 0 Q (F0 m 0 ls [])) :
    CTv l y cc maxL fr lo D cl tys av w0 sz w1 nc ns := by
  refine Met.ofW (cc := cc) (maxL := maxL) (ret := none) hy rfl ?_
  intro p e s m args below meth c s₁ B hml hv
  obtain ⟨rfl, hsz, hP, hK, hN, hD0⟩ := hv
  have hts := atoms_spec (ws := Cond.code y cc maxL none :: TB) B.pre
  subst hsz
  have hD := hD0.self (sz := s.heap.size)
  have hl := lv_entry av (n := maxL) hav
  rw [lg_entry_eq]
  refine body p e s m _ below meth c _ (va_A w0 s.heap.size) _ B.exec B.bytes hml (fun w hw => hts w (List.mem_cons_of_mem _ hw)) (findClass_of_methodNamed B.named) (name_of_methodNamed B.named B.method).1 hK hN hP hD (fun q h => Or.inr h) hl ?_
  intro pc ls H locs cells slots q hd hP1 hD1 hS hc1 hc2
  refine W.widen (k := nc) (n := ns) hc1 hc2 ?_
  exact W.vret B.exec B.bytes B.returns (fun t ht hW => ⟨⟨q, rfl, trivial, by rw [ht]; exact hP1, hD1⟩, hS.F ht⟩) hS.2.2 hd B.notSynchronized
theorem mk_r {ty : FieldType} {w1 : S → Nat → va_W} (hy : plainName y.cls = true) (hav : (lg_sl av).length ≤ maxL) (hty : (∃ n, ty = .object n) ∨ ∃ t, ty = .array t)
    (body : ∀ (p : Program) (e : Env) (s : State) (m : MethodId) (args : Array Value) (below : List Frame) (meth : Method) (c : Code) (ls : Array Slot) (A : Nat → Prop) (Q : State → Prop), p.tables.exec = Jvm.exec → c.code = cc → c.maxLocals = maxL → (∀ w ∈ TB, w.before args s = true) → s.vm.findClass y.cls = some m.cls → meth.name = y.name → va_K D cl tys s → NW s → va_P D cl w0 s.heap → va_D A w0 → (∀ q : Nat, s.heap.size ≤ q → A q) → lv_has ls maxL (lv_args 0 av) →
      (∀ (pc : Nat) (ls : Array Slot) (H : Heap) (locs : List Loc) (cells slots : Nat) (q : S) (a : Nat), decode cc pc = .ok (.areturn, 1) → va_P D cl (w1 q a) H → va_D A (w1 q a) → va_S A s.heap H locs → cells ≤ nc → slots ≤ ns → W p l e ({ frames := fr, cells := nc, slots := ns, locals := lo }) s m args below meth c H locs cells slots Q (F0 m pc ls [.ref a])) →
      W p l e ({ frames := fr, cells := nc, slots := ns, locals := lo }) s m args below meth c s.heap [] 0 0 Q (F0 m 0 ls [])) :
    CTr l y cc maxL ty fr lo D cl tys av w0 sz w1 nc ns := by
  refine Met.ofW (cc := cc) (maxL := maxL) (ret := some ty) hy rfl ?_
  intro p e s m args below meth c s₁ B hml hv
  obtain ⟨rfl, hsz, hP, hK, hN, hD0⟩ := hv
  have hts := atoms_spec (ws := Cond.code y cc maxL (some ty) :: TB) B.pre
  subst hsz
  have hD := hD0.self (sz := s.heap.size)
  have hl := lv_entry av (n := maxL) hav
  rw [lg_entry_eq]
  refine body p e s m _ below meth c _ (va_A w0 s.heap.size) _ B.exec B.bytes hml (fun w hw => hts w (List.mem_cons_of_mem _ hw)) (findClass_of_methodNamed B.named) (name_of_methodNamed B.named B.method).1 hK hN hP hD (fun q h => Or.inr h) hl ?_
  intro pc ls H locs cells slots q a hd hP1 hD1 hS hc1 hc2
  refine W.widen (k := nc) (n := ns) hc1 hc2 ?_
  exact W.aret (v := .ref a) B.exec B.bytes B.returns hty (Or.inr ⟨a, rfl⟩) (fun t ht hW => ⟨⟨q, a, rfl, trivial, by rw [ht]; exact hP1, hD1⟩, hS.F ht⟩) hS.2.2 hd B.notSynchronized
end MK
-- ===== calls: what a callee asks, and the frame behind it =====
section CALLS
variable {p : Program} {l : Launch} {e : Env} {R : Room} {s : State} {m : MethodId} {args : Array Value} {below : List Frame} {meth : Method} {c : Code} {H : Heap} {locs : List Loc} {cells slots : Nat} {Q : State → Prop}
variable {D : va_G} {cl : List vw_C} {tys : List (ClassId × FieldType)} {A0 : Nat → Prop} {H0 : Heap} {ws wc wr : va_W} {pc mc ms : Nat} {ls : Array Slot} {rest st0 As : List Value} {a : Array Value} {S : Type}
theorem pr_S (hK : va_K D cl tys s) (hN : NW s) (hPc : va_P D cl wc H) (hDc : va_D A0 wc) : PreS s H (PC D cl tys As wc H.size) As :=
  ⟨PC_blind, fun U hU hW => ⟨rfl, by rw [hU], by rw [hU]; exact hPc, va_K.moved hW.alike hK, hN.moved hW, hDc.weaken (fun _ _ _ _ => trivial)⟩⟩
theorem pr_V {b q0 ci N : Nat} {C : String} {T : u_T} {fs : List Value} (hK : va_K D cl tys s) (hN : NW s) (hPc : va_P D cl wc H) (hDc : va_D A0 wc) (hc : cl[ci]? = some (C, T, N)) (he : wc[q0]? = some (b, .inr (ci, fs))) : PreV s H C b (PC D cl tys (.ref b :: As) wc H.size) As :=
  ⟨PC_blind, va_recv hK hPc hc he, fun U hU hW => ⟨rfl, by rw [hU], by rw [hU]; exact hPc, va_K.moved hW.alike hK, hN.moved hW, hDc.weaken (fun _ _ _ _ => trivial)⟩⟩
theorem jn_i {post : Int32 → S → Prop} {w1 : S → va_W} (hr : va_Run p l e R s m args below meth c H locs cells slots mc ms (F0 m pc ls st0) rest (va_Qi post (WB D cl wc H.size w1) (va_A wc H.size) a) (va_A wc H.size))
    (hP : va_P D cl ws H) (hD : va_D A0 ws) (hS : va_S A0 H0 H locs) (hA : ∀ q, H0.size ≤ q → A0 q) (isC isR : List Nat) (hC : isC.map (fun i => ws[i]?) = wc.map some) (hR : isR.map (fun i => ws[i]?) = wr.map some) (hn : va_nd isR = true) (hdis : ∀ i ∈ isR, i ∉ isC)
    (kk : ∀ (r : Int32) (q : S) (H1 : Heap) (locs1 : List Loc), post r q → va_P D cl (wr ++ w1 q) H1 → va_D A0 (wr ++ w1 q) → va_S A0 H0 H1 locs1 → W p l e R s m args below meth c H1 locs1 (cells + mc) (slots + ms) Q (F0 m (pc + 3) ls (.int r :: rest))) : W p l e R s m args below meth c H locs cells slots Q (F0 m pc ls st0) := by
  have hFc := va_free (wc := wc) hD hS hA isC hC
  refine va_calli hr hS (fun q _ h => hFc q h) hFc (fun r u t H1 locs1 ht hvm hw hB hz1 hk1 hS1 => ?_)
  obtain ⟨hP1, hD1⟩ := hB
  rw [ht] at hP1
  obtain ⟨hP2, hD2⟩ := va_join (wr := wr) hP hD isC isR hC hR hn hdis hk1 hFc hP1 hD1
  exact kk r u H1 locs1 hw hP2 hD2 hS1
theorem jn_l {post : Int64 → S → Prop} {w1 : S → va_W} (hr : va_Run p l e R s m args below meth c H locs cells slots mc ms (F0 m pc ls st0) rest (va_Ql post (WB D cl wc H.size w1) (va_A wc H.size) a) (va_A wc H.size))
    (hP : va_P D cl ws H) (hD : va_D A0 ws) (hS : va_S A0 H0 H locs) (hA : ∀ q, H0.size ≤ q → A0 q) (isC isR : List Nat) (hC : isC.map (fun i => ws[i]?) = wc.map some) (hR : isR.map (fun i => ws[i]?) = wr.map some) (hn : va_nd isR = true) (hdis : ∀ i ∈ isR, i ∉ isC)
    (kk : ∀ (r : Int64) (q : S) (H1 : Heap) (locs1 : List Loc), post r q → va_P D cl (wr ++ w1 q) H1 → va_D A0 (wr ++ w1 q) → va_S A0 H0 H1 locs1 → W p l e R s m args below meth c H1 locs1 (cells + mc) (slots + ms) Q (F0 m (pc + 3) ls (.long r :: rest))) : W p l e R s m args below meth c H locs cells slots Q (F0 m pc ls st0) := by
  have hFc := va_free (wc := wc) hD hS hA isC hC
  refine va_calll hr hS (fun q _ h => hFc q h) hFc (fun r u t H1 locs1 ht hvm hw hB hz1 hk1 hS1 => ?_)
  obtain ⟨hP1, hD1⟩ := hB
  rw [ht] at hP1
  obtain ⟨hP2, hD2⟩ := va_join (wr := wr) hP hD isC isR hC hR hn hdis hk1 hFc hP1 hD1
  exact kk r u H1 locs1 hw hP2 hD2 hS1
theorem jn_v {post : S → Prop} {w1 : S → va_W} (hr : va_Run p l e R s m args below meth c H locs cells slots mc ms (F0 m pc ls st0) rest (va_Qv post (WB D cl wc H.size w1) (va_A wc H.size) a) (va_A wc H.size))
    (hP : va_P D cl ws H) (hD : va_D A0 ws) (hS : va_S A0 H0 H locs) (hA : ∀ q, H0.size ≤ q → A0 q) (isC isR : List Nat) (hC : isC.map (fun i => ws[i]?) = wc.map some) (hR : isR.map (fun i => ws[i]?) = wr.map some) (hn : va_nd isR = true) (hdis : ∀ i ∈ isR, i ∉ isC)
    (kk : ∀ (q : S) (H1 : Heap) (locs1 : List Loc), va_P D cl (wr ++ w1 q) H1 → va_D A0 (wr ++ w1 q) → va_S A0 H0 H1 locs1 → W p l e R s m args below meth c H1 locs1 (cells + mc) (slots + ms) Q (F0 m (pc + 3) ls rest)) : W p l e R s m args below meth c H locs cells slots Q (F0 m pc ls st0) := by
  have hFc := va_free (wc := wc) hD hS hA isC hC
  refine va_callv hr hS (fun q _ h => hFc q h) hFc (fun u t H1 locs1 ht hvm hw hB hz1 hk1 hS1 => ?_)
  obtain ⟨hP1, hD1⟩ := hB
  rw [ht] at hP1
  obtain ⟨hP2, hD2⟩ := va_join (wr := wr) hP hD isC isR hC hR hn hdis hk1 hFc hP1 hD1
  exact kk u H1 locs1 hP2 hD2 hS1
theorem jn_r {post : S → Prop} {w1 : S → Nat → va_W} (hr : va_Run p l e R s m args below meth c H locs cells slots mc ms (F0 m pc ls st0) rest (va_Qr post (WR D cl wc H.size w1) (va_A wc H.size) a) (va_A wc H.size))
    (hP : va_P D cl ws H) (hD : va_D A0 ws) (hS : va_S A0 H0 H locs) (hA : ∀ q, H0.size ≤ q → A0 q) (isC isR : List Nat) (hC : isC.map (fun i => ws[i]?) = wc.map some) (hR : isR.map (fun i => ws[i]?) = wr.map some) (hn : va_nd isR = true) (hdis : ∀ i ∈ isR, i ∉ isC)
    (kk : ∀ (q : S) (ra : Nat) (H1 : Heap) (locs1 : List Loc), va_P D cl (wr ++ w1 q ra) H1 → va_D A0 (wr ++ w1 q ra) → va_S A0 H0 H1 locs1 → W p l e R s m args below meth c H1 locs1 (cells + mc) (slots + ms) Q (F0 m (pc + 3) ls (.ref ra :: rest))) : W p l e R s m args below meth c H locs cells slots Q (F0 m pc ls st0) := by
  have hFc := va_free (wc := wc) hD hS hA isC hC
  refine va_callr hr hS (fun q _ h => hFc q h) hFc (fun u ra t H1 locs1 ht hvm hw hB hz1 hk1 hS1 => ?_)
  obtain ⟨hP1, hD1⟩ := hB
  rw [ht] at hP1
  obtain ⟨hP2, hD2⟩ := va_join (wr := wr) hP hD isC isR hC hR hn hdis hk1 hFc hP1 hD1
  exact kk u ra H1 locs1 hP2 hD2 hS1
/-- the words of a call, out of the tables' good words -/
theorem cb_of {own : String} {index maxL n : Nat} {y : MethodName} {bytes : ByteArray} {ret : Option FieldType} {fr lo : Nat} (hts : ∀ w ∈ TB, w.before args s = true) (h1 : Cond.methodLink own index y ∈ TB) (h2 : Cond.initialized y.cls ∈ TB) (h3 : Cond.code y bytes maxL ret ∈ TB)
    (hd : y.cls ≠ "java/lang/invoke/MethodHandle" ∧ y.cls ≠ "java/lang/invoke/VarHandle" ∧ (parseMethodDescriptor y.desc).map (fun d => d.parameters.length) = some n) (hR : fr + 1 ≤ R.frames ∧ 8 + (maxL + 11) + lo ≤ R.locals) :
    CallB R s args own index y bytes maxL ret (Cond.code y bytes maxL ret :: TB) ({ frames := fr, cells := mc, slots := ms, locals := lo }) mc ms n :=
  callB_of n hts (good_TT h3) rfl rfl rfl (hts _ h2) (hts _ h1) hd hR
theorem cv_of {own C : String} {index maxL n : Nat} {y : MethodName} {bytes : ByteArray} {ret : Option FieldType} {fr lo : Nat} (hts : ∀ w ∈ TB, w.before args s = true) (h1 : Cond.methodLink own index y ∈ TB) (h2 : Cond.initialized y.cls ∈ TB) (h3 : Cond.code y bytes maxL ret ∈ TB) (h4 : Cond.instanceMethod y ∈ TB) (h5 : Cond.selects C y y ∈ TB)
    (hd : y.cls ≠ "java/lang/invoke/MethodHandle" ∧ y.cls ≠ "java/lang/invoke/VarHandle" ∧ (parseMethodDescriptor y.desc).map (fun d => d.parameters.length) = some n) (hR : fr + 1 ≤ R.frames ∧ 8 + (maxL + 11) + lo ≤ R.locals) :
    CallW R s args own C index y bytes maxL ret (Cond.code y bytes maxL ret :: TB) ({ frames := fr, cells := mc, slots := ms, locals := lo }) mc ms n :=
  ⟨cb_of hts h1 h2 h3 hd hR, hts _ h4, hts _ h5⟩
theorem cs_of {own : String} {index maxL n : Nat} {y : MethodName} {bytes : ByteArray} {ret : Option FieldType} {fr lo : Nat} (hts : ∀ w ∈ TB, w.before args s = true) (h1 : Cond.methodLink own index y ∈ TB) (h2 : Cond.initialized y.cls ∈ TB) (h3 : Cond.code y bytes maxL ret ∈ TB) (h4 : Cond.static y ∈ TB)
    (hd : y.cls ≠ "java/lang/invoke/MethodHandle" ∧ y.cls ≠ "java/lang/invoke/VarHandle" ∧ (parseMethodDescriptor y.desc).map (fun d => d.parameters.length) = some n) (hR : fr + 1 ≤ R.frames ∧ 8 + (maxL + 11) + lo ≤ R.locals) :
    CallB R s args own index y bytes maxL ret (Cond.code y bytes maxL ret :: TB) ({ frames := fr, cells := mc, slots := ms, locals := lo }) mc ms n ∧ (Cond.static y).before args s = true :=
  ⟨cb_of hts h1 h2 h3 hd hR, hts _ h4⟩
theorem ci_of {own : String} {index maxL n : Nat} {y : MethodName} {bytes : ByteArray} {fr lo : Nat} (hts : ∀ w ∈ TB, w.before args s = true) (h1 : Cond.methodLink own index y ∈ TB) (h2 : Cond.initialized y.cls ∈ TB) (h3 : Cond.code y bytes maxL none ∈ TB) (h4 : Cond.instanceMethod y ∈ TB) (hy : y.name = "<init>")
    (hd : y.cls ≠ "java/lang/invoke/MethodHandle" ∧ y.cls ≠ "java/lang/invoke/VarHandle" ∧ (parseMethodDescriptor y.desc).map (fun d => d.parameters.length) = some n) (hR : fr + 1 ≤ R.frames ∧ 8 + (maxL + 11) + lo ≤ R.locals) :
    CallB R s args own index y bytes maxL none (Cond.code y bytes maxL none :: TB) ({ frames := fr, cells := mc, slots := ms, locals := lo }) mc ms n ∧ y.name = "<init>" ∧ (Cond.instanceMethod y).before args s = true :=
  ⟨cb_of hts h1 h2 h3 hd hR, hy, hts _ h4⟩
theorem cn_of {own host : String} {index maxL n : Nat} {y : MethodName} {bytes : ByteArray} {ret : Option FieldType} {fr lo : Nat} (hts : ∀ w ∈ TB, w.before args s = true) (hN : NW s) (h1 : Cond.methodLinkNest own index y host ∈ lw_tbl) (h2 : Cond.initialized y.cls ∈ TB) (h3 : Cond.code y bytes maxL ret ∈ TB)
    (hd : y.cls ≠ "java/lang/invoke/MethodHandle" ∧ y.cls ≠ "java/lang/invoke/VarHandle" ∧ (parseMethodDescriptor y.desc).map (fun d => d.parameters.length) = some n) (hR : fr + 1 ≤ R.frames ∧ 8 + (maxL + 11) + lo ≤ R.locals) :
    va_CN R s args own index y host bytes maxL ret (Cond.code y bytes maxL ret :: TB) ({ frames := fr, cells := mc, slots := ms, locals := lo }) mc ms n :=
  va_cnB n hts (good_TT h3) rfl rfl rfl (hN _ h1 rfl) (hts _ h2) hd hR
theorem cu_of {own C : String} {index maxL n : Nat} {x y : MethodName} {bytes : ByteArray} {ret : Option FieldType} {fr lo : Nat} (hts : ∀ w ∈ TB, w.before args s = true) (h1 : Cond.methodLink own index x ∈ TB) (h2 : Cond.sameMethod x.cls x.cls x.name x.desc ∈ TB) (h3 : Cond.initialized y.cls ∈ TB) (h4 : Cond.code y bytes maxL ret ∈ TB) (h5 : Cond.instanceMethod y ∈ TB) (h6 : Cond.selects C x y ∈ TB)
    (hd : x.cls ≠ "java/lang/invoke/MethodHandle" ∧ x.cls ≠ "java/lang/invoke/VarHandle" ∧ (parseMethodDescriptor x.desc).map (fun d => d.parameters.length) = some n) (hR : fr + 1 ≤ R.frames ∧ 8 + (maxL + 11) + lo ≤ R.locals) (hyx : y = x := by rfl) :
    va_CU R s args own C x.cls index x y bytes maxL ret (Cond.code y bytes maxL ret :: TB) ({ frames := fr, cells := mc, slots := ms, locals := lo }) mc ms n := by
  refine ⟨⟨rfl, rfl, hR.1, hR.2, pay_in hts (good_TT h4), List.mem_cons_self⟩, hts _ h4, hts _ h3, ⟨hd.1, hd.2.1⟩, fun sig h => ?_, hts _ h1, hts _ h2, ?_, hts _ h6, hts _ h5⟩
  · have h9 := hd.2.2
    rw [h] at h9
    exact (Option.some.inj h9).symm
  · subst hyx
    exact va_Decl.of (hts _ h5) (hts _ h4)
theorem ca_of {own C : String} {index maxL n : Nat} {x y : MethodName} {bytes : ByteArray} {ret : Option FieldType} {fr lo : Nat} (hts : ∀ w ∈ TB, w.before args s = true) (hN : NW s) (h0 : Cond.declares x ∈ lw_tbl) (h1 : Cond.methodLink own index x ∈ TB) (h2 : Cond.sameMethod x.cls x.cls x.name x.desc ∈ TB) (h3 : Cond.initialized y.cls ∈ TB) (h4 : Cond.code y bytes maxL ret ∈ TB) (h5 : Cond.instanceMethod y ∈ TB) (h6 : Cond.selects C x y ∈ TB)
    (hd : x.cls ≠ "java/lang/invoke/MethodHandle" ∧ x.cls ≠ "java/lang/invoke/VarHandle" ∧ (parseMethodDescriptor x.desc).map (fun d => d.parameters.length) = some n) (hR : fr + 1 ≤ R.frames ∧ 8 + (maxL + 11) + lo ≤ R.locals) :
    va_CU R s args own C x.cls index x y bytes maxL ret (Cond.code y bytes maxL ret :: TB) ({ frames := fr, cells := mc, slots := ms, locals := lo }) mc ms n := by
  refine ⟨⟨rfl, rfl, hR.1, hR.2, pay_in hts (good_TT h4), List.mem_cons_self⟩, hts _ h4, hts _ h3, ⟨hd.1, hd.2.1⟩, fun sig h => ?_, hts _ h1, hts _ h2, va_Decl.abs (hN _ h0 rfl), hts _ h6, hts _ h5⟩
  have h9 := hd.2.2
  rw [h] at h9
  exact (Option.some.inj h9).symm
end CALLS
/-- the class of int arrays is one -/
theorem ty_one {D : va_G} {cl : List vw_C} {tys tys2 : List (ClassId × FieldType)} {s : State} {c1 c2 : ClassId} {i j : Nat} {ty : FieldType} (h : va_K D cl tys s) (h2 : va_K D cl tys2 s) (hi : tys[i]? = some (c1, ty)) (hj : tys2[j]? = some (c2, ty)) (hty : ∀ n, ty ≠ .object n) : c1 = c2 := by
  have a1 := (h.2 i _ hi).2
  have a2 := (h2.2 j _ hj).2
  cases ty with
  | object n => exact absurd rfl (hty n)
  | _ => exact Option.some.inj (a1.symm.trans a2)
