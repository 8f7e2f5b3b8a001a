/-! The entry: what the Statement gives of the start. -/
theorem e_arr {args : Array Value} {s : State} {ty : FieldType} (h : (Cond.arrayClass ty).before args s = true) (hty : refKind ty = false) : ∃ cA : ClassId, ArrOfT s cA ty ∧ s.vm.findClass ("[" ++ ty.toString) = some cA := by
  obtain ⟨cA, kA, comp, h1, h2, h3⟩ := Cond.arrayClass_spec h
  exact ⟨cA, fun n z => ⟨fun k h => (by cases h), kA, h2, comp, h3⟩, h1⟩
theorem e_in0 : Cond.instantiable R_Bands 6 ∈ lw_tbl := by decide +kernel
theorem e_in1 : Cond.instantiable R_Side 12 ∈ lw_tbl := by decide +kernel
theorem e_in2 : Cond.instantiable R_Sink 3 ∈ lw_tbl := by decide +kernel
theorem e_in3 : Cond.instantiable R_Source 7 ∈ lw_tbl := by decide +kernel
theorem e_in4 : Cond.instantiable R_Store 2 ∈ lw_tbl := by decide +kernel
theorem e_in5 : Cond.instantiable R_Trees 5 ∈ lw_tbl := by decide +kernel
theorem e_in6 : Cond.instantiable R_PH 7 ∈ lw_tbl := by decide +kernel
theorem e_in7 : Cond.instantiable R_Mo 27 ∈ lw_tbl := by decide +kernel
theorem e_ar0 : Cond.arrayClass .int ∈ lw_tbl := by decide +kernel
theorem e_ar1 : Cond.arrayClass .byte ∈ lw_tbl := by decide +kernel
theorem e_ar2 : Cond.arrayClass .long ∈ lw_tbl := by decide +kernel
theorem e_ar3 : Cond.arrayClass .boolean ∈ lw_tbl := by decide +kernel
theorem e_K {args : Array Value} {s : State} (h0 : ∀ w ∈ lw_tbl, w.before args s = true) : ∃ (dC : Nat → ClassId) (dI : Nat → Nat → Nat) (tI tB tL tZ : ClassId), va_K (dC, dI) classes [(tI, .int), (tB, .byte), (tL, .long), (tZ, .boolean)] s := by
  have hts : ∀ w ∈ TB, w.before args s = true := fun w hw => h0 w (TB_in hw)
  obtain ⟨c0, i0, k0⟩ := u_known hts i_Bands (h0 _ e_in0)
  obtain ⟨c1, i1, k1⟩ := u_known hts i_Side (h0 _ e_in1)
  obtain ⟨c2, i2, k2⟩ := u_known hts i_Sink (h0 _ e_in2)
  obtain ⟨c3, i3, k3⟩ := u_known hts i_Source (h0 _ e_in3)
  obtain ⟨c4, i4, k4⟩ := u_known hts i_Store (h0 _ e_in4)
  obtain ⟨c5, i5, k5⟩ := u_known hts i_Trees (h0 _ e_in5)
  obtain ⟨c6, i6, k6⟩ := u_known hts i_PH (h0 _ e_in6)
  obtain ⟨c7, i7, k7⟩ := u_known hts i_Mo (h0 _ e_in7)
  obtain ⟨tI, aI, bI⟩ := e_arr (h0 _ e_ar0) rfl
  obtain ⟨tB, aB, bB⟩ := e_arr (h0 _ e_ar1) rfl
  obtain ⟨tL, aL, bL⟩ := e_arr (h0 _ e_ar2) rfl
  obtain ⟨tZ, aZ, bZ⟩ := e_arr (h0 _ e_ar3) rfl
  refine ⟨fun c => [c0, c1, c2, c3, c4, c5, c6, c7].getD c c0, fun c => [i0, i1, i2, i3, i4, i5, i6, i7].getD c i0, tI, tB, tL, tZ, fun c q hq => ?_, fun k q hq => ?_⟩
  · have hc : c < 8 := (List.getElem?_eq_some_iff.mp hq).1
    have h8 : c = 0 ∨ c = 1 ∨ c = 2 ∨ c = 3 ∨ c = 4 ∨ c = 5 ∨ c = 6 ∨ c = 7 := by omega
    rcases h8 with rfl | rfl | rfl | rfl | rfl | rfl | rfl | rfl
    · obtain rfl := Option.some.inj hq; exact k0
    · obtain rfl := Option.some.inj hq; exact k1
    · obtain rfl := Option.some.inj hq; exact k2
    · obtain rfl := Option.some.inj hq; exact k3
    · obtain rfl := Option.some.inj hq; exact k4
    · obtain rfl := Option.some.inj hq; exact k5
    · obtain rfl := Option.some.inj hq; exact k6
    · obtain rfl := Option.some.inj hq; exact k7
  · have hc : k < 4 := (List.getElem?_eq_some_iff.mp hq).1
    have h4 : k = 0 ∨ k = 1 ∨ k = 2 ∨ k = 3 := by omega
    rcases h4 with rfl | rfl | rfl | rfl
    · obtain rfl := Option.some.inj hq; exact ⟨aI, bI⟩
    · obtain rfl := Option.some.inj hq; exact ⟨aB, bB⟩
    · obtain rfl := Option.some.inj hq; exact ⟨aL, bL⟩
    · obtain rfl := Option.some.inj hq; exact ⟨aZ, bZ⟩
theorem e_NW {args : Array Value} {s : State} (h0 : ∀ w ∈ lw_tbl, w.before args s = true) : NW s := by
  intro w hw hn
  have h := h0 w hw
  cases w <;> first | exact va_Nw.of rfl h | (exfalso; cases hn)
def e_ex : List String := ["java/lang/IllegalArgumentException", "java/lang/IllegalStateException", "java/lang/IndexOutOfBoundsException", "java/lang/UnsupportedOperationException"]
theorem e_exN (i : Nat) : exN i ∈ e_ex := by
  unfold exN
  split <;> decide
theorem e_nc : ∀ C ∈ e_ex, ∀ T ∈ e_ex, C ≠ T → Cond.not (.castable C T) ∈ flatC (Jvm.Cond.and given_1 narrow_1) := by decide +kernel
theorem e_s1 : ∀ q ∈ strs, Cond.stringRef "PacketHeads" q.1 q.2 ∈ lw_tbl := by decide +kernel
theorem e_s2 : ∀ q ∈ strs, Cond.exactly (.string "PacketHeads" q.1) "java/lang/String" ∈ flatC (Jvm.Cond.and given_1 narrow_1) := by decide +kernel
theorem e_t0 : Cond.initialized Bundle.tN ∈ lw_tbl := by decide +kernel
theorem e_t1 : Cond.laysStatic Bundle.tN "UNASSIGNED_STACK" Bundle.steD ∈ lw_tbl := by decide +kernel
theorem e_t2 : Cond.laysStatic Bundle.tN "SUPPRESSED_SENTINEL" Bundle.listD ∈ lw_tbl := by decide +kernel
theorem e_t3 : Cond.isRef (.static Bundle.tN "UNASSIGNED_STACK" Bundle.steD) ∈ flatC (Jvm.Cond.and given_1 narrow_1) := by decide +kernel
theorem e_t4 : Cond.isRef (.static Bundle.tN "SUPPRESSED_SENTINEL" Bundle.listD) ∈ flatC (Jvm.Cond.and given_1 narrow_1) := by decide +kernel
theorem e_XW {args : Array Value} {s : State} (h0 : ∀ w ∈ lw_tbl, w.before args s = true) (hg : (Jvm.Cond.and given_1 narrow_1).before args s = true) : XW (fun q : Nat => s.heap.size ≤ q) s s.heap := by
  have hs := flat_of_before _ hg
  have hA : ∀ a : Nat, a < s.heap.size → ¬ s.heap.size ≤ a := fun a h => by omega
  refine ⟨fun w hw hc => ?_, fun q hq => ?_, fun i j hij => va_Nc.of (hs _ (e_nc _ (e_exN i) _ (e_exN j) hij)), vx_Zqof (h0 _ e_t1) (h0 _ e_t0) (hs _ e_t3) hA, vx_Zqof (h0 _ e_t2) (h0 _ e_t0) (hs _ e_t4) hA⟩
  · have h := h0 w hw
    cases w <;> first | exact va_Nw.of rfl h | (exfalso; cases hc)
  · obtain ⟨a, -, -, -, ha, -⟩ := Cond.exactly_spec (hs _ (e_s2 q hq))
    exact ⟨a, vk_R.of (h0 _ (e_s1 q hq)) ha⟩
