/-! How many passes: on both sides at once. -/
set_option maxHeartbeats 2000000 in
theorem s_pasR {F : Nat} (hF : 1000000 ≤ F) {st n0 en la lf lk c : Int32} {N : Nat} {R : Nat → Int32} {sz wr s e q wg p p' : Int32} {B : Nat → Int32} (hw : wr.toInt = 0) (h : RelR st n0 en la lf lk c N R sz s e q wg B) :
    Ok (f_Bits_passesR F n0 en la lf lk c N R p) (fun u => Ok (f_Mo_codePasses F sz wr s e q wg 262144 B p') (fun w => u.1 = w.1 ∧ 1 ≤ w.1.toInt ∧ w.1.toInt ≤ 164 ∧ w.2.2.2.2 = B ∧ RelR st u.2.1 en u.2.2.1 u.2.2.2.1 u.2.2.2.2 c N R sz s w.2.1 w.2.2.1 w.2.2.2.1 B ∧ (¬ wg.toInt = 0 → ¬ w.2.2.2.1.toInt = 0))) := by
  have L := lits
  have e4 : ((2 ^ 2 : Nat) : Int) = 4 := by decide
  have e32 : ((2 ^ 5 : Nat) : Int) = 32 := by decide
  have e128 : ((2 ^ 7 : Nat) : Int) = 128 := by decide
  have k30 : ∀ (n0 la lf lk e q wg0 s0 s0' : Int32), RelR st n0 en la lf lk c N R sz s e q wg0 B → (¬ wg.toInt = 0 → ¬ wg0.toInt = 0) → Ok (g_Bits_passesR_30 F en c N R n0 la lf lk p s0) (fun u => Ok (g_Mo_codePasses_30 F sz wr s 262144 e q wg0 B p' s0') (fun w => u.1 = w.1 ∧ 1 ≤ w.1.toInt ∧ w.1.toInt ≤ 164 ∧ w.2.2.2.2 = B ∧ RelR st u.2.1 en u.2.2.1 u.2.2.2.1 u.2.2.2.2 c N R sz s w.2.1 w.2.2.1 w.2.2.2.1 B ∧ (¬ wg.toInt = 0 → ¬ w.2.2.2.1.toInt = 0))) := by
    intro n0 la lf lk e q wg0 s0 s0' h hm
    simp only [g_Bits_passesR_30, g_Mo_codePasses_30]
    refine ok_b2 (s_bitR hw h) (fun u w hq => ?_)
    obtain ⟨q1, q2, q3, q4, q5⟩ := hq
    rw [q1]
    refine ok_eq (fun hc => ok_s ?_) (fun hc => ?_)
    · refine ok_eq (fun hc2 => ok_s ?_) (fun hc2 => absurd hc hc2)
      try dsimp only
      exact ⟨rfl, by omega, by omega, q3, q4, fun z => q5 (hm z)⟩
    · refine ok_swap (ok_eq (fun hc2 => absurd hc2 hc) (fun hc2 => ok_swap ?_))
      refine ok_l (fun x21 _ => ok_l (fun x22 _ => ok_l (fun x23 _ => ?_)))
      rw [q3]
      have k55 : ∀ z : Int64, Ok (bd (f_Bits_numberR F u.2.1 en u.2.2.1 u.2.2.2.1 u.2.2.2.2 c N R x23 2) fun u24 => letb (u24.1.toInt32) fun x25 => if 3 ≤ x25 then (letb (p - 6) fun x26 => letb (if 31 < x26 then 31 else x26) fun x27 => letb (x27.toInt64) fun x28 => bd (f_Bits_numberR F u24.2.1 en u24.2.2.1 u24.2.2.2.1 u24.2.2.2.2 c N R x28 5) fun u29 => letb (u29.1.toInt32) fun x30 => if 31 ≤ x30 then (letb (p - 37) fun x31 => letb (x31.toInt64) fun x32 => bd (f_Bits_numberR F u29.2.1 en u29.2.2.1 u29.2.2.2.1 u29.2.2.2.2 c N R x32 7) fun u33 => letb (u33.1.toInt32) fun x34 => letb (37 + x34) fun x35 => some (x35, u33.2.1, u33.2.2.1, u33.2.2.2.1, u33.2.2.2.2)) else (letb (6 + x30) fun x36 => some (x36, u29.2.1, u29.2.2.1, u29.2.2.2.1, u29.2.2.2.2))) else (letb (3 + x25) fun x37 => some (x37, u24.2.1, u24.2.2.1, u24.2.2.2.1, u24.2.2.2.2)))
          (fun u => Ok (g_Mo_codePasses_55 F sz wr s 262144 w.2.1 w.2.2.1 w.2.2.2.1 B p' z) (fun w => u.1 = w.1 ∧ 1 ≤ w.1.toInt ∧ w.1.toInt ≤ 164 ∧ w.2.2.2.2 = B ∧ RelR st u.2.1 en u.2.2.1 u.2.2.2.1 u.2.2.2.2 c N R sz s w.2.1 w.2.2.1 w.2.2.2.1 B ∧ (¬ wg.toInt = 0 → ¬ w.2.2.2.1.toInt = 0))) := by
        intro z
        simp only [g_Mo_codePasses_55]
        refine ok_b2 (s_numR hF (m := 2) hw (by omega) (by omega) q4) (fun u2 w2 hq2 => ?_)
        obtain ⟨a1, a2, a3, a4, a5, a6⟩ := hq2
        rw [a1]
        refine ok_l (fun x25 f25 => ok_swap (ok_l (fun y27 g27 => ok_swap ?_)))
        have v25 : x25.toInt = w2.1.toInt := by rw [f25, ti64_to32 (by omega)]
        rw [show y27 = x25 from by rw [g27, f25]]
        refine ok_le (fun hc3 => ?_) (fun hc3 => ?_)
        · refine ok_swap (ok_le (fun hc4 => ok_swap ?_) (fun hc4 => by omega))
          refine ok_l (fun x26 _ => ok_l (fun x27 _ => ok_l (fun x28 _ => ?_)))
          rw [a4]
          have k88 : ∀ z : Int64, Ok (bd (f_Bits_numberR F u2.2.1 en u2.2.2.1 u2.2.2.2.1 u2.2.2.2.2 c N R x28 5) fun u29 => letb (u29.1.toInt32) fun x30 => if 31 ≤ x30 then (letb (p - 37) fun x31 => letb (x31.toInt64) fun x32 => bd (f_Bits_numberR F u29.2.1 en u29.2.2.1 u29.2.2.2.1 u29.2.2.2.2 c N R x32 7) fun u33 => letb (u33.1.toInt32) fun x34 => letb (37 + x34) fun x35 => some (x35, u33.2.1, u33.2.2.1, u33.2.2.2.1, u33.2.2.2.2)) else (letb (6 + x30) fun x36 => some (x36, u29.2.1, u29.2.2.1, u29.2.2.2.1, u29.2.2.2.2)))
              (fun u => Ok (g_Mo_codePasses_88 F sz wr s 262144 w2.2.1 w2.2.2.1 w2.2.2.2.1 B p' z) (fun w => u.1 = w.1 ∧ 1 ≤ w.1.toInt ∧ w.1.toInt ≤ 164 ∧ w.2.2.2.2 = B ∧ RelR st u.2.1 en u.2.2.1 u.2.2.2.1 u.2.2.2.2 c N R sz s w.2.1 w.2.2.1 w.2.2.2.1 B ∧ (¬ wg.toInt = 0 → ¬ w.2.2.2.1.toInt = 0))) := by
            intro z
            simp only [g_Mo_codePasses_88, g_Mo_codePasses_122]
            refine ok_b2 (s_numR hF (m := 5) hw (by omega) (by omega) a5) (fun u3 w3 hq3 => ?_)
            obtain ⟨b1, b2, b3, b4, b5, b6⟩ := hq3
            rw [b1]
            refine ok_l (fun x30 f30 => ok_swap (ok_l (fun y30 g30 => ok_swap ?_)))
            have v30 : x30.toInt = w3.1.toInt := by rw [f30, ti64_to32 (by omega)]
            rw [show y30 = x30 from by rw [g30, f30]]
            refine ok_le (fun hc5 => ?_) (fun hc5 => ?_)
            · refine ok_swap (ok_le (fun hc6 => ok_swap ?_) (fun hc6 => by omega))
              refine ok_l (fun x31 _ => ok_l (fun x32 _ => ?_))
              refine ok_swap (ok_l (fun y31 _ => ok_l (fun y32 _ => ok_swap ?_)))
              rw [b4]
              refine ok_b2 (s_numR hF (m := 7) hw (by omega) (by omega) b5) (fun u4 w4 hq4 => ?_)
              obtain ⟨d1, d2, d3, d4, d5, d6⟩ := hq4
              rw [d1]
              refine ok_l (fun x34 f34 => ok_swap (ok_l (fun y34 g34 => ok_swap ?_)))
              have v34 : x34.toInt = w4.1.toInt := by rw [f34, ti64_to32 (by omega)]
              rw [show y34 = x34 from by rw [g34, f34]]
              refine ok_add (by omega) (fun x35 f35 => ok_s ?_)
              refine ok_add (by omega) (fun y35 g35 => ok_s ?_)
              try dsimp only
              exact ⟨ti_ofI (by omega), by omega, by omega, d4, d5, fun z => d6 (b6 (a6 (q5 (hm z))))⟩
            · refine ok_swap (ok_le (fun hc6 => by omega) (fun hc6 => ok_swap ?_))
              refine ok_add (by omega) (fun x35 f35 => ok_s ?_)
              refine ok_add (by omega) (fun y35 g35 => ok_s ?_)
              try dsimp only
              exact ⟨ti_ofI (by omega), by omega, by omega, b4, b5, fun z => b6 (a6 (q5 (hm z)))⟩
          refine ok_swap (ok_le (fun hc5 => ok_swap (k88 _)) (fun hc5 => ?_))
          exact ok_l (fun y28 _ => ok_l (fun y29 _ => ok_swap (k88 _)))
        · refine ok_swap (ok_le (fun hc4 => by omega) (fun hc4 => ok_swap ?_))
          refine ok_add (by omega) (fun x35 f35 => ok_s ?_)
          refine ok_add (by omega) (fun y35 g35 => ok_s ?_)
          try dsimp only
          exact ⟨ti_ofI (by omega), by omega, by omega, a4, a5, fun z => a6 (q5 (hm z))⟩
      refine ok_swap (ok_le (fun hc5 => ok_swap (k55 _)) (fun hc5 => ?_))
      exact ok_l (fun y28 _ => ok_l (fun y29 _ => ok_swap (k55 _)))
  have k11 : ∀ (s0 s0' : Int32), Ok (g_Bits_passesR_11 F en c N R n0 la lf lk p s0) (fun u => Ok (g_Mo_codePasses_11 F sz wr s 262144 e q wg B p' s0') (fun w => u.1 = w.1 ∧ 1 ≤ w.1.toInt ∧ w.1.toInt ≤ 164 ∧ w.2.2.2.2 = B ∧ RelR st u.2.1 en u.2.2.1 u.2.2.2.1 u.2.2.2.2 c N R sz s w.2.1 w.2.2.1 w.2.2.2.1 B ∧ (¬ wg.toInt = 0 → ¬ w.2.2.2.1.toInt = 0))) := by
    intro s0 s0'
    simp only [g_Bits_passesR_11, g_Mo_codePasses_11]
    refine ok_b2 (s_bitR hw h) (fun u w hq => ?_)
    obtain ⟨q1, q2, q3, q4, q5⟩ := hq
    rw [q1]
    refine ok_eq (fun hc => ok_s ?_) (fun hc => ?_)
    · refine ok_eq (fun hc2 => ok_s ?_) (fun hc2 => absurd hc hc2)
      try dsimp only
      exact ⟨rfl, by omega, by omega, q3, q4, q5⟩
    · refine ok_swap (ok_eq (fun hc2 => absurd hc2 hc) (fun hc2 => ok_swap ?_))
      rw [q3]
      refine ok_le (fun c1 => ok_swap (ok_le (fun c2 => ok_swap ?_) (fun c2 => ok_swap ?_))) (fun c1 => ok_swap (ok_le (fun c2 => ok_swap ?_) (fun c2 => ok_swap ?_)))
      all_goals exact k30 _ _ _ _ _ _ _ _ _ q4 q5
  simp only [f_Bits_passesR, f_Mo_codePasses]
  refine ok_le (fun c1 => ok_swap (ok_le (fun c2 => ok_swap ?_) (fun c2 => ok_swap ?_))) (fun c1 => ok_swap (ok_le (fun c2 => ok_swap ?_) (fun c2 => ok_swap ?_)))
  all_goals exact k11 _ _
set_option maxHeartbeats 2000000 in
theorem s_pasW {F : Nat} (hF : 1000000 ≤ F) {k : Nat} {g r c : Int32} {N : Nat} {R : Nat → Int32} {sz wr s e q wg p : Int32} {B : Nat → Int32} (hw : wr.toInt = 1) (hg : wg.toInt = 0) (hp : 1 ≤ p.toInt ∧ p.toInt ≤ 164) (h : RelW (k + 16) g r c N R s e q B) :
    Ok (f_Bits_passesW F g r c N R p) (fun u => Ok (f_Mo_codePasses F sz wr s e q wg 262144 B p) (fun w => u.2.2.1 = p ∧ w.1 = p ∧ w.2.2.2.1 = wg ∧ RelW k u.2.2.2.1 u.2.2.2.2.1 u.2.2.2.2.2.1 u.2.2.2.2.2.2.1 u.2.2.2.2.2.2.2 s w.2.1 w.2.2.1 w.2.2.2.2 ∧ 16 * u.1 + N ≤ u.2.2.2.2.2.2.1 ∧ u.2.1 + 2 * N ≤ 2 * u.2.2.2.2.2.2.1)) := by
  have L := lits
  have e4 : ((2 ^ 2 : Nat) : Int) = 4 := by decide
  have e32 : ((2 ^ 5 : Nat) : Int) = 32 := by decide
  have e128 : ((2 ^ 7 : Nat) : Int) = 128 := by decide
  have l3 : (3 : Int64).toInt = 3 := by decide
  have l31 : (31 : Int64).toInt = 31 := by decide
  simp only [f_Bits_passesW, f_Mo_codePasses, g_Bits_passesW_11, g_Mo_codePasses_11]
  refine ok_le (fun c1 => ok_swap (ok_le (fun c2 => ok_swap ?_) (fun c2 => by omega))) (fun c1 => ok_swap (ok_le (fun c2 => by omega) (fun c2 => ok_swap ?_)))
  · refine ok_b2 (s_bitW (k := k + 15) hw hg (by omega) h) (fun u w hq => ?_)
    obtain ⟨q1, q2, q3, q4, q5, q6⟩ := hq
    rw [q1, q2]
    refine ok_c (ok_eq (fun _ => ok_s ?_) (fun hc => absurd rfl hc))
    refine ok_eq (fun _ => ok_s ?_) (fun hc => absurd rfl hc)
    try dsimp only
    exact ⟨ti_ofI (by omega), ti_ofI (by omega), q3, q4.less (by omega), by omega, by omega⟩
  · refine ok_b2 (s_bitW (k := k + 15) hw hg (by omega) h) (fun u w hq => ?_)
    obtain ⟨q1, q2, q3, q4, q5, q6⟩ := hq
    rw [q1, q2]
    refine ok_c (ok_eq (fun hc => by omega) (fun hc => ?_))
    refine ok_swap (ok_eq (fun hc => by omega) (fun hc => ok_swap ?_))
    simp only [g_Bits_passesW_30, g_Mo_codePasses_30]
    refine ok_le (fun c3 => ok_swap (ok_le (fun c4 => ok_swap ?_) (fun c4 => by omega))) (fun c3 => ok_swap (ok_le (fun c4 => by omega) (fun c4 => ok_swap ?_)))
    · refine ok_b2 (s_bitW (k := k + 14) hw (by rw [q3]; exact hg) (by omega) q4) (fun u2 w2 hq2 => ?_)
      obtain ⟨a1, a2, a3, a4, a5, a6⟩ := hq2
      rw [a1, a2]
      refine ok_c (ok_eq (fun _ => ok_s ?_) (fun hc => absurd rfl hc))
      refine ok_eq (fun _ => ok_s ?_) (fun hc => absurd rfl hc)
      try dsimp only
      exact ⟨ti_ofI (by omega), ti_ofI (by omega), by rw [a3, q3], a4.less (by omega), by omega, by omega⟩
    · refine ok_b2 (s_bitW (k := k + 14) hw (by rw [q3]; exact hg) (by omega) q4) (fun u2 w2 hq2 => ?_)
      obtain ⟨a1, a2, a3, a4, a5, a6⟩ := hq2
      rw [a1, a2]
      refine ok_c (ok_eq (fun hc => by omega) (fun hc => ?_))
      refine ok_swap (ok_eq (fun hc => by omega) (fun hc => ?_))
      simp only [g_Mo_codePasses_55, g_Mo_codePasses_88, g_Mo_codePasses_122]
      refine ok_le (fun c5 => ok_swap ?_) (fun c5 => ?_)
      · -- six or more
        refine ok_sub (by omega) (fun x39 f39 => ok_min (fun x40 f40 => ok_l (fun x41 f41 => ?_)))
        have e41 : x41 = 3 := Int64.toInt_inj.mp (by rw [f41, Int32.toInt_toInt64, l3]; omega)
        rw [e41]
        refine ok_b2 (s_numW hF (k := k + 12) (m := 2) hw (by rw [a3, q3]; exact hg) (by omega) (by omega) (by rw [l3]; omega) a4) (fun u3 w3 hq3 => ?_)
        obtain ⟨b1, b2, b3, b4, b5, b6⟩ := hq3
        rw [b1, b2]
        refine ok_c (ok_l (fun x46 f46 => ok_swap (ok_l (fun y46 g46 => ok_swap ?_))))
        have v46 : x46.toInt = 3 := by rw [f46, ti64_to32 (by omega), l3]
        rw [show y46 = x46 from by rw [g46, f46]]
        refine ok_le (fun c6 => ok_swap (ok_le (fun c7 => ok_swap ?_) (fun c7 => by omega))) (fun c6 => by omega)
        refine ok_sub (by omega) (fun x47 f47 => ok_min (fun x48 f48 => ok_l (fun x49 f49 => ?_)))
        have e49 : x49.toInt = x48.toInt := by rw [f49, Int32.toInt_toInt64]
        refine ok_swap (ok_le (fun c8 => ok_swap ?_) (fun c8 => ?_))
        · -- 37 or more
          have e49b : x49 = 31 := Int64.toInt_inj.mp (by rw [l31]; omega)
          rw [e49b]
          refine ok_b2 (s_numW hF (k := k + 7) (m := 5) hw (by rw [b3, a3, q3]; exact hg) (by omega) (by omega) (by rw [l31]; omega) b4) (fun u4 w4 hq4 => ?_)
          obtain ⟨d1, d2, d3, d4, d5, d6⟩ := hq4
          rw [d1, d2]
          refine ok_c (ok_l (fun x54 f54 => ok_swap (ok_l (fun y54 g54 => ok_swap ?_))))
          have v54 : x54.toInt = 31 := by rw [f54, ti64_to32 (by omega), l31]
          rw [show y54 = x54 from by rw [g54, f54]]
          refine ok_le (fun c9 => ok_swap (ok_le (fun c10 => ok_swap ?_) (fun c10 => by omega))) (fun c9 => by omega)
          refine ok_sub (by omega) (fun x55 f55 => ok_l (fun x56 f56 => ?_))
          refine ok_swap (ok_sub (by omega) (fun y55 g55 => ok_l (fun y56 g56 => ok_swap ?_)))
          have e56 : x56.toInt = p.toInt - 37 := by rw [f56, Int32.toInt_toInt64]; omega
          have e56b : y56 = x56 := Int64.toInt_inj.mp (by rw [g56, Int32.toInt_toInt64]; omega)
          rw [e56b]
          refine ok_b2 (s_numW hF (k := k) (m := 7) hw (by rw [d3, b3, a3, q3]; exact hg) (by omega) (by omega) (by omega) d4) (fun u5 w5 hq5 => ?_)
          obtain ⟨i1, i2, i3, i4, i5, i6⟩ := hq5
          rw [i1, i2]
          refine ok_c (ok_l (fun x61 f61 => ok_add (by rw [f61, ti64_to32 (by omega)]; omega) (fun x62 f62 => ok_s ?_)))
          refine ok_l (fun y61 g61 => ok_add (by rw [g61, ti64_to32 (by omega)]; omega) (fun y62 g62 => ok_s ?_))
          have v61 : x61.toInt = p.toInt - 37 := by rw [f61, ti64_to32 (by omega)]; omega
          have v61' : y61.toInt = p.toInt - 37 := by rw [g61, ti64_to32 (by omega)]; omega
          try dsimp only
          exact ⟨ti_ofI (by omega), ti_ofI (by omega), by rw [i3, d3, b3, a3, q3], i4, by omega, by omega⟩
        · refine ok_sub (by omega) (fun y28 g28 => ok_l (fun y29 g29 => ok_swap ?_))
          have e49b : y29 = x49 := Int64.toInt_inj.mp (by rw [g29, Int32.toInt_toInt64]; omega)
          rw [e49b]
          refine ok_b2 (s_numW hF (k := k + 7) (m := 5) hw (by rw [b3, a3, q3]; exact hg) (by omega) (by omega) (by omega) b4) (fun u4 w4 hq4 => ?_)
          obtain ⟨d1, d2, d3, d4, d5, d6⟩ := hq4
          rw [d1, d2]
          refine ok_c (ok_l (fun x54 f54 => ok_swap (ok_l (fun y54 g54 => ok_swap ?_))))
          have v54 : x54.toInt = p.toInt - 6 := by rw [f54, ti64_to32 (by omega)]; omega
          rw [show y54 = x54 from by rw [g54, f54]]
          refine ok_le (fun c9 => by omega) (fun c9 => ok_swap (ok_le (fun c10 => by omega) (fun c10 => ok_swap ?_)))
          refine ok_add (by omega) (fun x35 f35 => ok_s ?_)
          refine ok_add (by omega) (fun y35 g35 => ok_s ?_)
          try dsimp only
          exact ⟨ti_ofI (by omega), ti_ofI (by omega), by rw [d3, b3, a3, q3], d4.less (by omega), by omega, by omega⟩
      · -- three to five
        refine ok_sub (by omega) (fun y32 g32 => ok_l (fun y33 g33 => ok_swap ?_))
        refine ok_sub (by omega) (fun x39 f39 => ok_min (fun x40 f40 => ok_l (fun x41 f41 => ?_)))
        have e41 : x41.toInt = p.toInt - 3 := by rw [f41, Int32.toInt_toInt64]; omega
        have e41b : y33 = x41 := Int64.toInt_inj.mp (by rw [g33, Int32.toInt_toInt64]; omega)
        rw [e41b]
        refine ok_b2 (s_numW hF (k := k + 12) (m := 2) hw (by rw [a3, q3]; exact hg) (by omega) (by omega) (by omega) a4) (fun u3 w3 hq3 => ?_)
        obtain ⟨b1, b2, b3, b4, b5, b6⟩ := hq3
        rw [b1, b2]
        refine ok_c (ok_l (fun x46 f46 => ok_swap (ok_l (fun y46 g46 => ok_swap ?_))))
        have v46 : x46.toInt = p.toInt - 3 := by rw [f46, ti64_to32 (by omega)]; omega
        rw [show y46 = x46 from by rw [g46, f46]]
        refine ok_le (fun c6 => by omega) (fun c6 => ok_swap (ok_le (fun c7 => by omega) (fun c7 => ok_swap ?_)))
        refine ok_add (by omega) (fun x35 f35 => ok_s ?_)
        refine ok_add (by omega) (fun y35 g35 => ok_s ?_)
        try dsimp only
        exact ⟨ti_ofI (by omega), ti_ofI (by omega), by rw [b3, a3, q3], b4.less (by omega), by omega, by omega⟩
