/-! Numbers and passes, bit by bit, on both sides at once. -/
theorem sh64_n : ∀ n, n < 64 → (((nI n).toInt64 &&& 63).toBitVec.smod 64).toNat = n := by decide +kernel
theorem ti64_shr {x : Int64} {k : Int32} (h : 0 ≤ k.toInt ∧ k.toInt < 64) : (x >>> (k.toInt64 &&& 63)).toInt = x.toInt / (2 ^ k.toInt.toNat : Nat) := by
  obtain ⟨n, hn, rfl⟩ := i_nat h.1
  have h2 : n < 64 := by omega
  have h3 : (nI n).toInt.toNat = n := by omega
  rw [h3, ← Int64.toInt_toBitVec, Int64.toBitVec_shiftRight, BitVec.sshiftRight', sh64_n n h2, BitVec.toInt_sshiftRight, Int.shiftRight_eq_div_pow, Int64.toInt_toBitVec]
theorem ti64_and1 (x : Int64) : (x &&& 1).toInt = x.toInt % 2 := by
  have h : (x &&& 1).toBitVec.toNat = x.toBitVec.toNat % 2 := by
    rw [Int64.toBitVec_and, BitVec.toNat_and]; exact Nat.and_two_pow_sub_one_eq_mod _ 1
  have h2 : (x &&& 1).toInt = ((x &&& 1).toBitVec.toNat : Int) := by
    rw [← Int64.toInt_toBitVec, BitVec.toInt_eq_toNat_of_lt (by rw [h]; omega)]
  rw [h2, h, ← Int64.toInt_toBitVec, BitVec.toInt_eq_toNat_bmod]
  have := x.toBitVec.isLt
  rw [Int.bmod_def]
  omega
theorem ti64_to32 {x : Int64} (h : -2147483648 ≤ x.toInt ∧ x.toInt ≤ 2147483647) : x.toInt32.toInt = x.toInt := by
  rw [Int64.toInt_toInt32]; exact Int.bmod_eq_of_le (by omega) (by omega)
theorem ti64_bitC (x : Int64) : (x.toInt32 &&& 1).toInt = x.toInt % 2 := by
  rw [ti_and1, Int64.toInt_toInt32, Int.bmod_def]
  omega
theorem ti64_bitM (x : Int64) : ((x &&& 1).toInt32).toInt = x.toInt % 2 := by
  have h := ti64_and1 x
  rw [ti64_to32 (by rw [h]; omega), h]
theorem ti64_acc {a b : Int64} {x : Int32} (h : -1000000000000000 ≤ a.toInt ∧ a.toInt ≤ 1000000000000000) (hb : b = a * 2 ∨ b = 2 * a) : (b + x.toInt64).toInt = 2 * a.toInt + x.toInt := by
  have l2 : (2 : Int64).toInt = 2 := by decide
  have e1 : b.toInt = 2 * a.toInt := by
    rcases hb with rfl | rfl
    · rw [Int64.toInt_mul, l2, Int.bmod_eq_of_le (by omega) (by omega)]; omega
    · rw [Int64.toInt_mul, l2, Int.bmod_eq_of_le (by omega) (by omega)]
  have h1 := ti_lo x
  have h2 := ti_hi x
  rw [Int64.toInt_add, Int32.toInt_toInt64, e1, Int.bmod_eq_of_le (by omega) (by omega)]
theorem div_step (v : Int) (j : Nat) : 2 * (v / (2 ^ (j + 1) : Nat)) + v / (2 ^ j : Nat) % 2 = v / (2 ^ j : Nat) := by
  have h : v / (2 ^ (j + 1) : Nat) = v / (2 ^ j : Nat) / 2 := by
    rw [Nat.pow_succ, Int.natCast_mul, ← Int.ediv_ediv_of_nonneg (Int.natCast_nonneg _)]
    rfl
  rw [h]
  omega
set_option maxHeartbeats 1000000 in
theorem s_numW {F : Nat} (hF : 1000000 ≤ F) {g r c : Int32} {N : Nat} {R : Nat → Int32} {sz wr s e q wg bits : Int32} {B : Nat → Int32} {v : Int64} {k m : Nat} (hw : wr.toInt = 1) (hg : wg.toInt = 0) (hm : (m : Int) = bits.toInt) (hm2 : m ≤ 40) (hv : 0 ≤ v.toInt ∧ v.toInt < (2 ^ m : Nat)) (h : RelW (k + m) g r c N R s e q B) :
    Ok (f_Bits_numberW F g r c N R v bits) (fun u => Ok (f_Mo_codeNumber F sz wr s e q wg 262144 B v bits) (fun w => u.2.2.1 = v ∧ w.1 = v ∧ w.2.2.2.1 = wg ∧ RelW k u.2.2.2.1 u.2.2.2.2.1 u.2.2.2.2.2.1 u.2.2.2.2.2.2.1 u.2.2.2.2.2.2.2 s w.2.1 w.2.2.1 w.2.2.2.2 ∧ 16 * u.1 + N ≤ u.2.2.2.2.2.2.1 ∧ u.2.1 + 2 * N ≤ 2 * u.2.2.2.2.2.2.1)) := by
  have L := lits
  have l0 : (0 : Int64).toInt = 0 := by decide
  have key : ∀ (j : Nat) (n n' : Nat) (g r c : Int32) (N : Nat) (R : Nat → Int32) (e q wg : Int32) (B : Nat → Int32) (a : Int64) (i : Int32), wg.toInt = 0 → (j : Int) = i.toInt + 1 → j ≤ m → j < n → j < n' → a.toInt = v.toInt / (2 ^ j : Nat) → RelW (k + j) g r c N R s e q B →
      Ok (f_Bits_numberW_8 F n g r c N R v a i) (fun u => Ok (f_Mo_codeNumber_8 F sz wr s 262144 n' e q wg B v a i) (fun w => u.2.2.1 = v ∧ w.1 = v ∧ w.2.2.2.1 = wg ∧ RelW k u.2.2.2.1 u.2.2.2.2.1 u.2.2.2.2.2.1 u.2.2.2.2.2.2.1 u.2.2.2.2.2.2.2 s w.2.1 w.2.2.1 w.2.2.2.2 ∧ 16 * u.1 + N ≤ u.2.2.2.2.2.2.1 ∧ u.2.1 + 2 * N ≤ 2 * u.2.2.2.2.2.2.1)) := by
    intro j
    induction j with
    | zero =>
      intro n n' g r c N R e q wg B a i hg0 h1 h2 h3 h4 h5 h6
      obtain ⟨n, rfl⟩ : ∃ x, n = x + 1 := ⟨n - 1, by omega⟩
      obtain ⟨n', rfl⟩ : ∃ x, n' = x + 1 := ⟨n' - 1, by omega⟩
      simp only [f_Bits_numberW_8, g_Bits_numberW_8, f_Mo_codeNumber_8, g_Mo_codeNumber_8]
      refine ok_lt (fun hc => ok_s ?_) (fun hc => by omega)
      refine ok_lt (fun hc => ok_s ?_) (fun hc => by omega)
      have ea : a = v := Int64.toInt_inj.mp (by rw [h5]; simp)
      try dsimp only
      exact ⟨ea, ea, rfl, h6, by omega, by omega⟩
    | succ j ih =>
      intro n n' g r c N R e q wg B a i hg0 h1 h2 h3 h4 h5 h6
      obtain ⟨n, rfl⟩ : ∃ x, n = x + 1 := ⟨n - 1, by omega⟩
      obtain ⟨n', rfl⟩ : ∃ x, n' = x + 1 := ⟨n' - 1, by omega⟩
      simp only [f_Bits_numberW_8, g_Bits_numberW_8, f_Mo_codeNumber_8, g_Mo_codeNumber_8]
      have ei : i.toInt.toNat = j := by omega
      refine ok_lt (fun hc => by omega) (fun hc => ?_)
      refine ok_l (fun x13 e13 => ok_l (fun x14 e14 => ok_l (fun x15 e15 => ok_l (fun x16 e16 => ?_))))
      refine ok_swap (ok_lt (fun hc => by omega) (fun hc => ?_))
      refine ok_l (fun y10 f10 => ok_l (fun y11 f11 => ok_l (fun y12 f12 => ok_l (fun y13 f13 => ok_swap ?_))))
      have b1 : x16.toInt = v.toInt / (2 ^ j : Nat) % 2 := by rw [e16, e15, ti64_bitC, e14, ti64_shr (by omega), ei]
      have b2 : y13.toInt = v.toInt / (2 ^ j : Nat) % 2 := by rw [f13, f12, ti64_bitM, f11, ti64_shr (by omega), ei]
      have b3 : y13 = x16 := ti_ofI (by omega)
      subst b3
      have p1 := Nat.two_pow_pos (j + 1)
      have a0 : 0 ≤ a.toInt := by rw [h5]; exact Int.ediv_nonneg hv.1 (by omega)
      have a1 : a.toInt ≤ v.toInt := by rw [h5]; exact Int.ediv_le_self _ hv.1
      have pm : (2 : Nat) ^ m ≤ 2 ^ 40 := Nat.pow_le_pow_right (by decide) hm2
      have p40 : (2 : Nat) ^ 40 = 1099511627776 := by decide
      refine ok_b2 (s_bitW hw hg0 (by omega) h6) (fun u w hq => ?_)
      obtain ⟨q1, q2, q3, q4, q5, q6⟩ := hq
      refine ok_c ?_
      refine ok_l (fun x21 e21 => ok_l (fun x22 e22 => ok_add (by omega) (fun x23 e23 => ?_)))
      refine ok_swap (ok_l (fun y15 f15 => ok_l (fun y16 f16 => ok_add (by omega) (fun y17 f17 => ok_swap ?_))))
      have c1 : x22.toInt = v.toInt / (2 ^ j : Nat) := by
        rw [e22, e21, ti64_acc (by omega) (Or.inl e13), q1, b1, h5]; exact div_step _ _
      have c2 : y16.toInt = v.toInt / (2 ^ j : Nat) := by
        rw [f16, f15, ti64_acc (by omega) (Or.inr f10), q2, b1, h5]; exact div_step _ _
      have c3 : y16 = x22 := Int64.toInt_inj.mp (by omega)
      have c4 : y17 = x23 := ti_ofI (by omega)
      rw [c3, c4]
      refine ok_m (ih n n' _ _ _ _ _ _ _ _ _ x22 x23 (by rw [q3]; exact hg0) (by omega) (by omega) (by omega) (by omega) c1 q4) (fun u' hu' => ok_m hu' (fun w' hw' => ?_))
      obtain ⟨z1, z2, z3, z4, z5, z6⟩ := hw'
      try dsimp only
      exact ⟨z1, z2, by rw [z3]; exact q3, z4, by omega, by omega⟩
  simp only [f_Bits_numberW, f_Mo_codeNumber]
  refine ok_sub (by omega) (fun x hx => ?_)
  refine ok_swap (ok_sub (by omega) (fun y hy => ok_swap ?_))
  rw [show y = x from ti_ofI (by omega)]
  refine key m F F g r c N R e q wg B 0 x hg (by omega) (Nat.le_refl m) (by omega) (by omega) ?_ h
  rw [l0]
  exact (Int.ediv_eq_zero_of_lt hv.1 hv.2).symm
set_option maxHeartbeats 1000000 in
theorem s_numR {F : Nat} (hF : 1000000 ≤ F) {st n0 en la lf lk c : Int32} {N : Nat} {R : Nat → Int32} {sz wr s e q wg bits : Int32} {B : Nat → Int32} {v v' : Int64} {m : Nat} (hw : wr.toInt = 0) (hm : (m : Int) = bits.toInt) (hm2 : m ≤ 48) (h : RelR st n0 en la lf lk c N R sz s e q wg B) :
    Ok (f_Bits_numberR F n0 en la lf lk c N R v bits) (fun u => Ok (f_Mo_codeNumber F sz wr s e q wg 262144 B v' bits) (fun w => u.1 = w.1 ∧ 0 ≤ w.1.toInt ∧ w.1.toInt < (2 ^ m : Nat) ∧ w.2.2.2.2 = B ∧ RelR st u.2.1 en u.2.2.1 u.2.2.2.1 u.2.2.2.2 c N R sz s w.2.1 w.2.2.1 w.2.2.2.1 B ∧ (¬ wg.toInt = 0 → ¬ w.2.2.2.1.toInt = 0))) := by
  have L := lits
  have l0 : (0 : Int64).toInt = 0 := by decide
  have key : ∀ (j : Nat) (n n' : Nat) (n0 la lf lk : Int32) (e q wg : Int32) (a : Int64) (i : Int32), (j : Int) = i.toInt + 1 → j ≤ m → j < n → j < n' → 0 ≤ a.toInt → a.toInt < (2 ^ (m - j) : Nat) → RelR st n0 en la lf lk c N R sz s e q wg B →
      Ok (f_Bits_numberR_8 F en c N R n n0 la lf lk v a i) (fun u => Ok (f_Mo_codeNumber_8 F sz wr s 262144 n' e q wg B v' a i) (fun w => u.1 = w.1 ∧ 0 ≤ w.1.toInt ∧ w.1.toInt < (2 ^ m : Nat) ∧ w.2.2.2.2 = B ∧ RelR st u.2.1 en u.2.2.1 u.2.2.2.1 u.2.2.2.2 c N R sz s w.2.1 w.2.2.1 w.2.2.2.1 B ∧ (¬ wg.toInt = 0 → ¬ w.2.2.2.1.toInt = 0))) := by
    intro j
    induction j with
    | zero =>
      intro n n' n0 la lf lk e q wg a i h1 h2 h3 h4 h5 h5' h6
      obtain ⟨n, rfl⟩ : ∃ x, n = x + 1 := ⟨n - 1, by omega⟩
      obtain ⟨n', rfl⟩ : ∃ x, n' = x + 1 := ⟨n' - 1, by omega⟩
      simp only [f_Bits_numberR_8, g_Bits_numberR_8, f_Mo_codeNumber_8, g_Mo_codeNumber_8]
      refine ok_lt (fun hc => ok_s ?_) (fun hc => by omega)
      refine ok_lt (fun hc => ok_s ?_) (fun hc => by omega)
      try dsimp only
      exact ⟨rfl, h5, h5', rfl, h6, fun z => z⟩
    | succ j ih =>
      intro n n' n0 la lf lk e q wg a i h1 h2 h3 h4 h5 h5' h6
      obtain ⟨n, rfl⟩ : ∃ x, n = x + 1 := ⟨n - 1, by omega⟩
      obtain ⟨n', rfl⟩ : ∃ x, n' = x + 1 := ⟨n' - 1, by omega⟩
      simp only [f_Bits_numberR_8, g_Bits_numberR_8, f_Mo_codeNumber_8, g_Mo_codeNumber_8]
      refine ok_lt (fun hc => by omega) (fun hc => ?_)
      refine ok_l (fun x13 e13 => ok_l (fun x14 e14 => ok_l (fun x15 e15 => ok_l (fun x16 e16 => ?_))))
      refine ok_swap (ok_lt (fun hc => by omega) (fun hc => ?_))
      refine ok_l (fun y10 f10 => ok_l (fun y11 f11 => ok_l (fun y12 f12 => ok_l (fun y13 f13 => ok_swap ?_))))
      have pm : (2 : Nat) ^ (m - (j + 1)) ≤ 2 ^ 48 := Nat.pow_le_pow_right (by decide) (by omega)
      have p40 : (2 : Nat) ^ 48 = 281474976710656 := by decide
      refine ok_b2 (s_bitR hw h6) (fun u w hq => ?_)
      obtain ⟨q1, q2, q3, q4, q5⟩ := hq
      refine ok_l (fun x21 e21 => ok_l (fun x22 e22 => ok_add (by omega) (fun x23 e23 => ?_)))
      refine ok_swap (ok_l (fun y15 f15 => ok_l (fun y16 f16 => ok_add (by omega) (fun y17 f17 => ok_swap ?_))))
      have c1 : x22.toInt = 2 * a.toInt + w.1.toInt := by rw [e22, e21, ti64_acc (by omega) (Or.inl e13), q1]
      have c2 : y16.toInt = 2 * a.toInt + w.1.toInt := by rw [f16, f15, ti64_acc (by omega) (Or.inr f10)]
      have c3 : y16 = x22 := Int64.toInt_inj.mp (by omega)
      have c4 : y17 = x23 := ti_ofI (by omega)
      have p2 : (2 : Nat) ^ (m - j) = 2 * 2 ^ (m - (j + 1)) := by rw [show m - j = (m - (j + 1)) + 1 from by omega, Nat.pow_succ]; omega
      rw [c3, c4, q3]
      refine ok_m (ih n n' _ _ _ _ _ _ _ x22 x23 (by omega) (by omega) (by omega) (by omega) (by omega) (by omega) q4) (fun u' hu' => ok_m hu' (fun w' hw' => ?_))
      obtain ⟨z1, z2, z3, z4, z5, z6⟩ := hw'
      try dsimp only
      exact ⟨z1, z2, z3, z4, z5, fun z => z6 (q5 z)⟩
  simp only [f_Bits_numberR, f_Mo_codeNumber]
  refine ok_sub (by omega) (fun x hx => ?_)
  refine ok_swap (ok_sub (by omega) (fun y hy => ok_swap ?_))
  rw [show y = x from ti_ofI (by omega)]
  refine key m F F n0 la lf lk e q wg 0 x (by omega) (Nat.le_refl m) (by omega) (by omega) (by omega) ?_ h
  rw [l0, Nat.sub_self]
  decide
