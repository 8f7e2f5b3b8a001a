/-! Bytes and bits: the class's store, sink and source, and the reference's code. -/
def by8 (v : Nat) : Int32 := (nI v).toInt8.toInt32
theorem fit_iff {x : Int32} : fits .byte (.int x) = true ↔ -128 ≤ x.toInt ∧ x.toInt ≤ 127 := by
  show (decide (-128 ≤ x) && decide (x ≤ 127)) = true ↔ _
  rw [Bool.and_eq_true, decide_eq_true_eq, decide_eq_true_eq, Int32.le_iff_toInt_le, Int32.le_iff_toInt_le]
  have h4 : (-128 : Int32).toInt = -128 := by decide
  have h5 : (127 : Int32).toInt = 127 := by decide
  rw [h4, h5]
theorem nar_b (x : Int32) : vp_nar .byte (x.toInt8.toInt32) = x.toInt8.toInt32 := by
  show (x.toInt8.toInt32).toInt8.toInt32 = x.toInt8.toInt32
  rw [Int8.toInt8_toInt32]
theorem nar_b0 : vp_nar .byte 0 = by8 0 := by decide
theorem by_255 : (by8 255).toInt = -1 := by decide
theorem by_is255 : ∀ v, v < 256 → ((by8 v).toInt = -1 ↔ v = 255) := by decide +kernel
theorem by_step : ∀ q, q < 8 → ∀ g, g < 128 → g * 2 ^ (q + 1) < 256 → ∀ b, b < 2 → (by8 (g * 2 ^ (q + 1)) ||| (nI b <<< (nI q &&& 31))).toInt8.toInt32 = by8 ((2 * g + b) * 2 ^ q) := by decide +kernel
theorem by_new : ∀ q, q < 8 → ∀ b, b < 2 → (by8 0 ||| (nI b <<< (nI q &&& 31))).toInt8.toInt32 = by8 (b * 2 ^ q) := by decide +kernel
theorem nI_to {x : Int32} {n : Nat} (h : (n : Int) = x.toInt) : x = nI n := by
  refine ti_ofI ?_
  have := ti_hi x
  rw [nI_toInt (by omega)]; omega
theorem w_Store_add {F N : Nat} {c v : Int32} {R : Nat → Int32} (h : 16 ≤ N ∧ N ≤ 600000 ∧ 0 ≤ c.toInt ∧ c.toInt < 262144 ∧ c.toInt ≤ N) (hf : ∀ i, i < N → fits .byte (.int (R i)) = true) : Ok (f_Store_add F c N R v) (fun u => 16 * u.1 + N ≤ u.2.2.2.1 ∧ u.2.1 + 2 * N ≤ 2 * u.2.2.2.1 ∧ u.2.2.1.toInt = c.toInt + 1 ∧ c.toInt + 1 ≤ u.2.2.2.1 ∧ u.2.2.2.1 ≤ 600000 ∧ (∀ i, i < u.2.2.2.1 → fits .byte (.int (u.2.2.2.2 i)) = true) ∧ u.2.2.2.2 c.toInt.toNat = v.toInt8.toInt32 ∧ ∀ i : Nat, (i : Int) < c.toInt → u.2.2.2.2 i = R i) := by
  have L := lits
  simp only [f_Store_add, g_Store_add_40, clamp_eq]
  refine ok_lt (fun hc => ?_) (fun hc => by omega)
  refine ok_len (by omega) (fun x hx => ?_)
  refine ok_lt (fun hc2 => ?_) (fun hc2 => ?_)
  · refine ok_l (fun y hy => ?_)
    refine ok_in (by omega) ?_
    refine ok_add (by omega) (fun z hz => ok_s ?_)
    dsimp only
    subst hy
    rw [nar_b]
    try dsimp only
    refine ⟨by omega, by omega, by omega, by omega, by omega, fun i hi => ?_, upd_is _ _ _, fun i hi => upd_no (by omega)⟩
    by_cases q : i = c.toInt.toNat
    · rw [q, upd_is]; exact byte_fit v
    · rw [upd_no q]; exact hf i hi
  · refine ok_len (by omega) (fun y hy => ?_)
    refine ok_2x (by omega) (fun z hz => ?_)
    refine ok_bm (w_copyB (by omega) hf) (fun u hu => ?_)
    obtain ⟨u1, u2, u3, u4, u5⟩ := hu
    refine ok_c ?_
    refine ok_l (fun y2 hy2 => ?_)
    refine ok_in (by omega) ?_
    refine ok_add (by omega) (fun z2 hz2 => ok_s ?_)
    dsimp only
    subst hy2
    rw [nar_b]
    try dsimp only
    refine ⟨by omega, by omega, by omega, by omega, by omega, fun i hi => ?_, upd_is _ _ _, fun i hi => ?_⟩
    · by_cases q : i = c.toInt.toNat
      · rw [q, upd_is]; exact byte_fit v
      · rw [upd_no q]
        rcases Nat.lt_or_ge i N with q2 | q2
        · rw [u4 i q2]; exact hf i q2
        · rw [u5 i q2]; rfl
    · rw [upd_no (by omega)]; exact u4 i (by omega)
/-- the sink and the reference's bytes: k bits more have room -/
def RelW0 (k : Nat) (g r c : Int32) (N : Nat) (R : Nat → Int32) (s e q : Int32) (B : Nat → Int32) : Prop :=
  16 ≤ N ∧ N ≤ 600000 ∧ (∀ i, i < N → fits .byte (.int (R i)) = true) ∧ 0 ≤ s.toInt ∧ s.toInt ≤ c.toInt ∧ c.toInt ≤ 262144 ∧ c.toInt ≤ N ∧ (∀ i : Nat, (i : Int) < c.toInt → R i = B i) ∧ (k : Int) + 1 ≤ 7 * (262143 - c.toInt) + r.toInt ∧
  ((q.toInt = 0 ∧ e.toInt = c.toInt ∧ g.toInt = 0 ∧ ((r.toInt = 8 ∧ ¬ (s.toInt < c.toInt ∧ (B (c.toInt.toNat - 1)).toInt = -1)) ∨ (r.toInt = 7 ∧ s.toInt < c.toInt ∧ (B (c.toInt.toNat - 1)).toInt = -1))) ∨
   (∃ gn qn : Nat, (gn : Int) = g.toInt ∧ (qn : Int) = q.toInt ∧ 1 ≤ qn ∧ qn ≤ 7 ∧ r.toInt = q.toInt ∧ e.toInt = c.toInt + 1 ∧ gn * 2 ^ qn < 256 ∧ B c.toInt.toNat = by8 (gn * 2 ^ qn)))
theorem RelW0.less {k k' : Nat} {g r c : Int32} {N : Nat} {R : Nat → Int32} {s e q : Int32} {B : Nat → Int32} (h : RelW0 k g r c N R s e q B) (hk : k' ≤ k) : RelW0 k' g r c N R s e q B := by
  obtain ⟨h1, h2, h3, h4, h5, h6, h7, h8, h9, h10⟩ := h
  try dsimp only
  exact ⟨h1, h2, h3, h4, h5, h6, h7, h8, by omega, h10⟩
theorem w_lastByte {F NB : Nat} {e : Int32} {B : Nat → Int32} (h : 1 ≤ e.toInt ∧ e.toInt ≤ NB ∧ NB ≤ 1000000) : Ok (f_Mo_lastByte F e NB B) (fun u => u.toInt = (B (e.toInt.toNat - 1)).toInt % 256) := by
  have L := lits
  simp only [f_Mo_lastByte, clamp_eq]
  refine ok_sub (by omega) (fun x hx => ?_)
  refine ok_in (by omega) ?_
  refine ok_rd (fun y hy => ?_)
  refine ok_and255 (fun z hz => ok_s ?_)
  rw [hz, hy, show x.toInt.toNat = e.toInt.toNat - 1 from by omega]
theorem w_nextW {F : Nat} {wr s e q : Int32} {B : Nat → Int32} (hw : wr.toInt = 1) (h : 0 ≤ s.toInt ∧ s.toInt ≤ e.toInt ∧ e.toInt < 262144) (hb : s.toInt < e.toInt → -128 ≤ (B (e.toInt.toNat - 1)).toInt ∧ (B (e.toInt.toNat - 1)).toInt ≤ 127) : Ok (f_Mo_nextByte F wr s e q 262144 B) (fun u => u.1.toInt = e.toInt + 1 ∧ ((u.2.1.toInt = 7 ∧ s.toInt < e.toInt ∧ (B (e.toInt.toNat - 1)).toInt = -1) ∨ (u.2.1.toInt = 8 ∧ ¬ (s.toInt < e.toInt ∧ (B (e.toInt.toNat - 1)).toInt = -1))) ∧ u.2.2 = upd B e.toInt.toNat (by8 0)) := by
  have L := lits
  simp only [f_Mo_nextByte, g_Mo_nextByte_27, g_Mo_nextByte_29, g_Mo_nextByte_61, clamp_eq]
  refine ok_le (fun hc => ?_) (fun hc => ?_)
  · refine ok_add (by omega) (fun x hx => ?_)
    refine ok_eq (fun hc2 => by omega) (fun hc2 => ?_)
    refine ok_sub (by omega) (fun y hy => ?_)
    refine ok_in (by omega) (ok_s ?_)
    dsimp only
    rw [show y.toInt.toNat = e.toInt.toNat from by omega, nar_b0]
    try dsimp only
    exact ⟨by omega, Or.inr ⟨by omega, by omega⟩, rfl⟩
  · refine ok_bm (w_lastByte (by omega)) (fun u hu => ?_)
    have hb := hb hc
    refine ok_eq (fun hc3 => ?_) (fun hc3 => ?_)
    · refine ok_add (by omega) (fun x hx => ?_)
      refine ok_eq (fun hc2 => by omega) (fun hc2 => ?_)
      refine ok_sub (by omega) (fun y hy => ?_)
      refine ok_in (by omega) (ok_s ?_)
      dsimp only
      rw [show y.toInt.toNat = e.toInt.toNat from by omega, nar_b0]
      try dsimp only
      exact ⟨by omega, Or.inl ⟨by omega, by omega, by omega⟩, rfl⟩
    · refine ok_add (by omega) (fun x hx => ?_)
      refine ok_eq (fun hc2 => by omega) (fun hc2 => ?_)
      refine ok_sub (by omega) (fun y hy => ?_)
      refine ok_in (by omega) (ok_s ?_)
      dsimp only
      rw [show y.toInt.toNat = e.toInt.toNat from by omega, nar_b0]
      try dsimp only
      exact ⟨by omega, Or.inr ⟨by omega, by omega⟩, rfl⟩
/-- a bit is written: behind it the last byte bears it -/
theorem w_codeW {F : Nat} {sz wr s e q wg o : Int32} {B : Nat → Int32} (hw : wr.toInt = 1) (hg : wg.toInt = 0) (h : 0 ≤ s.toInt ∧ s.toInt ≤ e.toInt ∧ 0 ≤ q.toInt ∧ q.toInt ≤ 7 ∧ (q.toInt = 0 → e.toInt < 262144) ∧ (1 ≤ q.toInt → 1 ≤ e.toInt ∧ e.toInt ≤ 262144)) (hb : q.toInt = 0 → s.toInt < e.toInt → -128 ≤ (B (e.toInt.toNat - 1)).toInt ∧ (B (e.toInt.toNat - 1)).toInt ≤ 127) :
    Ok (f_Mo_code F sz wr s e q wg 262144 B o) (fun v => v.1 = o ∧ v.2.2.2.1 = wg ∧
      ((q.toInt = 0 ∧ v.2.1.toInt = e.toInt + 1 ∧ ((v.2.2.1.toInt = 6 ∧ s.toInt < e.toInt ∧ (B (e.toInt.toNat - 1)).toInt = -1) ∨ (v.2.2.1.toInt = 7 ∧ ¬ (s.toInt < e.toInt ∧ (B (e.toInt.toNat - 1)).toInt = -1))) ∧ v.2.2.2.2 = upd (upd B e.toInt.toNat (by8 0)) e.toInt.toNat ((by8 0 ||| (o <<< (v.2.2.1 &&& 31))).toInt8.toInt32)) ∨
       (1 ≤ q.toInt ∧ v.2.1 = e ∧ v.2.2.1.toInt = q.toInt - 1 ∧ v.2.2.2.2 = upd B (e.toInt.toNat - 1) ((B (e.toInt.toNat - 1) ||| (o <<< (v.2.2.1 &&& 31))).toInt8.toInt32)))) := by
  have L := lits
  simp only [f_Mo_code, g_Mo_code_30, g_Mo_code_50, g_Mo_code_97, g_Mo_code_126, clamp_eq]
  refine ok_eq (fun hq => ?_) (fun hq => ?_)
  · refine ok_eq (fun c1 => by omega) (fun c1 => ?_)
    refine ok_eq (fun c2 => ?_) (fun c2 => by omega)
    refine ok_eq (fun c3 => ?_) (fun c3 => by omega)
    refine ok_bm (w_nextW hw (by omega) (hb (by omega))) (fun u hu => ?_)
    obtain ⟨u1, u2, u3⟩ := hu
    refine ok_sub (by omega) (fun x hx => ?_)
    refine ok_eq (fun c4 => by omega) (fun c4 => ?_)
    refine ok_sub (by omega) (fun y hy => ?_)
    refine ok_sub (by omega) (fun y2 hy2 => ?_)
    refine ok_in (by omega) ?_
    refine ok_rd (fun z hz => ?_)
    refine ok_l (fun a ha => ok_l (fun b hb => ok_l (fun d hd => ok_in (by omega) ?_)))
    refine ok_eq (fun c5 => by omega) (fun c5 => ok_s ?_)
    dsimp only
    try dsimp only
    refine ⟨rfl, rfl, Or.inl ⟨by omega, by omega, by omega, ?_⟩⟩
    rw [hd, nar_b, hb, ha, hz, u3, show y.toInt.toNat = e.toInt.toNat from by omega, show y2.toInt.toNat = e.toInt.toNat from by omega, upd_is]
  · refine ok_eq (fun c2 => ?_) (fun c2 => by omega)
    refine ok_eq (fun c3 => by omega) (fun c3 => ?_)
    refine ok_sub (by omega) (fun x hx => ?_)
    refine ok_eq (fun c4 => by omega) (fun c4 => ?_)
    refine ok_sub (by omega) (fun y hy => ?_)
    refine ok_sub (by omega) (fun y2 hy2 => ?_)
    refine ok_in (by omega) ?_
    refine ok_rd (fun z hz => ?_)
    refine ok_l (fun a ha => ok_l (fun b hb => ok_l (fun d hd => ok_in (by omega) ?_)))
    refine ok_eq (fun c5 => by omega) (fun c5 => ok_s ?_)
    dsimp only
    try dsimp only
    refine ⟨rfl, rfl, Or.inr ⟨by omega, rfl, by omega, ?_⟩⟩
    rw [hd, nar_b, hb, ha, hz, show y.toInt.toNat = e.toInt.toNat - 1 from by omega, show y2.toInt.toNat = e.toInt.toNat - 1 from by omega]
theorem upd_upd (f : Nat → Int32) (i : Nat) (a b : Int32) : upd (upd f i a) i b = upd f i b := by
  funext j
  by_cases h : j = i
  · rw [h, upd_is, upd_is]
  · rw [upd_no h, upd_no h, upd_no h]
set_option maxHeartbeats 1000000 in
theorem s_bitW0 {F k : Nat} {g r c : Int32} {N : Nat} {R : Nat → Int32} {sz wr s e q wg o : Int32} {B : Nat → Int32} (hw : wr.toInt = 1) (hg : wg.toInt = 0) (ho : o.toInt = 0 ∨ o.toInt = 1) (h : RelW0 (k + 1) g r c N R s e q B) :
    Ok (f_Sink_bit F g r c N R o) (fun u => Ok (f_Mo_code F sz wr s e q wg 262144 B o) (fun v => u.2.2.1 = o ∧ v.1 = o ∧ v.2.2.2.1 = wg ∧ RelW0 k u.2.2.2.1 u.2.2.2.2.1 u.2.2.2.2.2.1 u.2.2.2.2.2.2.1 u.2.2.2.2.2.2.2 s v.2.1 v.2.2.1 v.2.2.2.2 ∧ 16 * u.1 + N ≤ u.2.2.2.2.2.2.1 ∧ u.2.1 + 2 * N ≤ 2 * u.2.2.2.2.2.2.1)) := by
  have L := lits
  obtain ⟨h1, h2, h3, h4, h5, h6, h7, h8, h9, h10⟩ := h
  obtain ⟨on, hon, rfl⟩ := i_nat (k := o) (by omega)
  have hon2 : on < 2 := by omega
  have hbyte : ∀ i : Nat, (i : Int) < c.toInt → -128 ≤ (B i).toInt ∧ (B i).toInt ≤ 127 := fun i hi => by rw [← h8 i hi]; exact fit_iff.mp (h3 i (by omega))
  refine ok_swap ?_
  have hb0 : q.toInt = 0 → s.toInt < e.toInt → -128 ≤ (B (e.toInt.toNat - 1)).toInt ∧ (B (e.toInt.toNat - 1)).toInt ≤ 127 := by
    intro hq hse
    rcases h10 with q1 | ⟨gn, qn, q1⟩
    · exact hbyte _ (by omega)
    · omega
  refine ok_m (w_codeW hw hg (by rcases h10 with q1 | ⟨gn, qn, q1⟩ <;> omega) hb0) (fun v hv => ?_)
  obtain ⟨v1, v2, v3⟩ := hv
  simp only [f_Sink_bit, g_Sink_bit_58, g_Sink_bit_66]
  refine ok_sub (by rcases h10 with q1 | ⟨gn, qn, q1⟩ <;> omega) (fun x8 hx8 => ?_)
  refine ok_x2 (by
    rcases h10 with q1 | ⟨gn, qn, q1, q2, q3, q4, q5, q6, q7, q8⟩
    · omega
    · have : gn * 2 ≤ gn * 2 ^ qn := Nat.mul_le_mul_left gn (by have := Nat.pow_le_pow_right (show 1 ≤ 2 by decide) q3; omega)
      omega) (fun x9 hx9 => ?_)
  refine ok_add (by
    rcases h10 with q1 | ⟨gn, qn, q1, q2, q3, q4, q5, q6, q7, q8⟩
    · omega
    · have : gn * 2 ≤ gn * 2 ^ qn := Nat.mul_le_mul_left gn (by have := Nat.pow_le_pow_right (show 1 ≤ 2 by decide) q3; omega)
      omega) (fun x10 hx10 => ?_)
  rcases h10 with ⟨q1, q2, q3, q4⟩ | ⟨gn, qn, q1, q2, q3, q4, q5, q6, q7, q8⟩
  · -- a new byte begins
    refine ok_eq (fun hc => by omega) (fun hc => ok_s ?_)
    dsimp only
    obtain ⟨a1, a2, a3, a4⟩ : q.toInt = 0 ∧ v.2.1.toInt = e.toInt + 1 ∧ ((v.2.2.1.toInt = 6 ∧ s.toInt < e.toInt ∧ (B (e.toInt.toNat - 1)).toInt = -1) ∨ (v.2.2.1.toInt = 7 ∧ ¬ (s.toInt < e.toInt ∧ (B (e.toInt.toNat - 1)).toInt = -1))) ∧ v.2.2.2.2 = upd (upd B e.toInt.toNat (by8 0)) e.toInt.toNat ((by8 0 ||| (nI on <<< (v.2.2.1 &&& 31))).toInt8.toInt32) := by
      rcases v3 with w | w
      · exact w
      · omega
    rw [q2] at a3
    have ec : e.toInt.toNat = c.toInt.toNat := by omega
    rw [ec, upd_upd] at a4
    obtain ⟨rn, hrn, hrn2⟩ := i_nat (k := v.2.2.1) (by omega)
    try dsimp only
    refine ⟨rfl, v1, v2, ⟨h1, h2, h3, h4, h5, h6, h7, fun i hi => ?_, by omega, Or.inr ⟨on, rn, by omega, hrn, by omega, by omega, by omega, by omega, ?_, ?_⟩⟩, by omega, by omega⟩
    · rw [a4, upd_no (by omega)]; exact h8 i hi
    · have : 2 ^ rn ≤ 2 ^ 7 := Nat.pow_le_pow_right (by decide) (by omega)
      have e7 : (2 : Nat) ^ 7 = 128 := by decide
      have : on * 2 ^ rn ≤ 1 * 2 ^ rn := Nat.mul_le_mul_right _ (by omega)
      omega
    · rw [a4, upd_is, hrn2]
      exact by_new rn (by omega) on hon2
  · -- a byte that has begun
    obtain ⟨a1, a2, a3, a4⟩ : 1 ≤ q.toInt ∧ v.2.1 = e ∧ v.2.2.1.toInt = q.toInt - 1 ∧ v.2.2.2.2 = upd B (e.toInt.toNat - 1) ((B (e.toInt.toNat - 1) ||| (nI on <<< (v.2.2.1 &&& 31))).toInt8.toInt32) := by
      rcases v3 with w | w
      · omega
      · exact w
    have ec : e.toInt.toNat - 1 = c.toInt.toNat := by omega
    obtain ⟨rn, hrn, hrn2⟩ := i_nat (k := v.2.2.1) (by omega)
    obtain ⟨qm, rfl⟩ : ∃ qm, qn = qm + 1 := ⟨qn - 1, by omega⟩
    have erq : rn = qm := by omega
    have hg2 : gn * 2 ≤ gn * 2 ^ (qm + 1) := Nat.mul_le_mul_left gn (by have := Nat.pow_le_pow_right (show 1 ≤ 2 by decide) q3; omega)
    have hst := by_step qm (by omega) gn (by omega) q7 on hon2
    rw [ec, q8, hrn2, erq, hst] at a4
    have hB : ∀ i : Nat, (i : Int) < c.toInt → R i = v.2.2.2.2 i := fun i hi => by rw [a4, upd_no (by omega)]; exact h8 i hi
    have hBc : v.2.2.2.2 c.toInt.toNat = by8 ((2 * gn + on) * 2 ^ qm) := by rw [a4, upd_is]
    have hlt : (2 * gn + on) * 2 ^ qm < 256 := by
      have e1 : gn * 2 ^ (qm + 1) = 2 * gn * 2 ^ qm := by rw [Nat.pow_succ, Nat.mul_comm (2 ^ qm) 2, ← Nat.mul_assoc, Nat.mul_comm gn 2]
      rw [Nat.add_mul]
      rw [e1] at q7
      have e2 : on * 2 ^ qm ≤ 1 * 2 ^ qm := Nat.mul_le_mul_right _ (by omega)
      -- 2 ^ qm divides 256 and 2 * gn * 2 ^ qm is an even multiple of it
      have e3 : 256 = 2 ^ (7 - qm) * 2 * 2 ^ qm := by rw [← Nat.pow_succ, ← Nat.pow_add, show 7 - qm + 1 + qm = 8 by omega]
      rw [e3] at q7 ⊢
      have e4 : 2 * gn < 2 ^ (7 - qm) * 2 := Nat.lt_of_mul_lt_mul_right q7
      have e5 : 2 * gn + 1 + 1 ≤ 2 ^ (7 - qm) * 2 := by omega
      have e6 := Nat.mul_le_mul_right (2 ^ qm) e5
      rw [Nat.add_mul, Nat.add_mul] at e6
      have e7 := Nat.two_pow_pos qm
      omega
    refine ok_eq (fun hc => ?_) (fun hc => ok_s ?_)
    · -- the byte is full
      have hqm : qm = 0 := by omega
      subst hqm
      rw [Nat.pow_zero, Nat.mul_one] at hBc hlt
      refine ok_bm (w_Store_add (by omega) h3) (fun w hw2 => ?_)
      obtain ⟨w1, w2, w3, w4, w5, w6, w7, w8⟩ := hw2
      refine ok_c ?_
      have hx10 : x10 = nI (2 * gn + on) := nI_to (by omega)
      have hxb : x10.toInt8.toInt32 = by8 (2 * gn + on) := by rw [hx10]; rfl
      have hB2 : ∀ i : Nat, (i : Int) < w.2.2.1.toInt → w.2.2.2.2 i = v.2.2.2.2 i := fun i hi => by
        by_cases hi2 : i = c.toInt.toNat
        · rw [hi2, w7, hxb, hBc]
        · rw [w8 i (by omega)]; exact hB i (by omega)
      have h255 := by_is255 (2 * gn + on) hlt
      have hl : (v.2.2.2.2 (w.2.2.1.toInt.toNat - 1)).toInt = -1 ↔ 2 * gn + on = 255 := by rw [show w.2.2.1.toInt.toNat - 1 = c.toInt.toNat from by omega, hBc]; exact h255
      refine ok_eq (fun hc2 => ok_s ?_) (fun hc2 => ok_s ?_)
      · dsimp only
        try dsimp only
        refine ⟨rfl, v1, v2, ⟨by omega, w5, w6, h4, by omega, by omega, by omega, hB2, by omega, Or.inl ⟨by omega, by rw [a2]; omega, by omega, Or.inr ⟨by omega, by omega, hl.mpr (by omega)⟩⟩⟩, by omega, by omega⟩
      · dsimp only
        try dsimp only
        refine ⟨rfl, v1, v2, ⟨by omega, w5, w6, h4, by omega, by omega, by omega, hB2, by omega, Or.inl ⟨by omega, by rw [a2]; omega, by omega, Or.inl ⟨by omega, fun z => hc2 (by have := hl.mp z.2; omega)⟩⟩⟩, by omega, by omega⟩
    · dsimp only
      try dsimp only
      refine ⟨rfl, v1, v2, ⟨h1, h2, h3, h4, h5, h6, h7, hB, by omega, Or.inr ⟨2 * gn + on, qm, by omega, by omega, by omega, by omega, by omega, by rw [a2]; omega, hlt, hBc⟩⟩, by omega, by omega⟩

/-- the source and the reference's reading: both are well and agree, or both lack bits -/
def RelR0 (st n en la lf lk c : Int32) (N : Nat) (R : Nat → Int32) (sz s e q wg : Int32) (B : Nat → Int32) : Prop :=
  st.toInt = s.toInt ∧ en.toInt = sz.toInt ∧ 0 ≤ s.toInt ∧ s.toInt ≤ sz.toInt ∧ sz.toInt ≤ c.toInt ∧ c.toInt ≤ 262144 ∧ c.toInt ≤ N ∧ N ≤ 600000 ∧ (∀ i, i < N → fits .byte (.int (R i)) = true) ∧ (∀ i : Nat, (i : Int) < c.toInt → R i = B i) ∧
  ((wg.toInt = 0 ∧ lk.toInt = 0 ∧ n.toInt = e.toInt ∧ lf.toInt = q.toInt ∧ s.toInt ≤ e.toInt ∧ e.toInt ≤ sz.toInt ∧ 0 ≤ q.toInt ∧ q.toInt ≤ 7 ∧ (1 ≤ q.toInt → s.toInt < e.toInt) ∧ ((s.toInt < e.toInt ∧ la.toInt = (B (e.toInt.toNat - 1)).toInt % 256) ∨ (s.toInt = e.toInt ∧ la.toInt = 0))) ∨
   (wg.toInt = 1 ∧ lk.toInt = 1 ∧ lf.toInt = 0 ∧ en.toInt ≤ n.toInt))
theorem w_Store_get {F N : Nat} {c k : Int32} {R : Nat → Int32} (h : 0 ≤ k.toInt ∧ k.toInt < c.toInt ∧ c.toInt ≤ N) : Ok (f_Store_get F c N R k) (fun u => u.toInt = (R k.toInt.toNat).toInt % 256) := by
  have L := lits
  simp only [f_Store_get, g_Store_get_12, g_Store_get_26, clamp_eq]
  refine ok_lt (fun hc => by omega) (fun hc => ?_)
  refine ok_lt (fun hc2 => ?_) (fun hc2 => by omega)
  refine ok_in (by omega) ?_
  refine ok_rd (fun x hx => ?_)
  refine ok_and255 (fun y hy => ok_s ?_)
  rw [hy, hx]
/-- a bit of a byte, as it is or without its sign -/
theorem bit_same {x y k : Int32} (h : y.toInt = x.toInt % 256) (hk : 0 ≤ k.toInt ∧ k.toInt ≤ 7) : ((y >>> (k &&& 31)) &&& 1).toInt = ((x >>> (k &&& 31)) &&& 1).toInt := by
  rw [ti_and1, ti_and1, ti_shr (by omega), ti_shr (by omega), h]
  obtain ⟨n, hn⟩ : ∃ n : Nat, (n : Int) = k.toInt := ⟨k.toInt.toNat, by omega⟩
  rw [show k.toInt.toNat = n from by omega]
  have hn7 : n ≤ 7 := by omega
  generalize x.toInt = z
  rcases (show n = 0 ∨ n = 1 ∨ n = 2 ∨ n = 3 ∨ n = 4 ∨ n = 5 ∨ n = 6 ∨ n = 7 by omega) with e | e | e | e | e | e | e | e <;> subst e <;> simp only [Nat.reducePow] <;> omega
theorem w_nextR {F : Nat} {wr s e q : Int32} {B : Nat → Int32} (hw : wr.toInt = 0) (h : 0 ≤ s.toInt ∧ s.toInt ≤ e.toInt ∧ e.toInt < 262144) : Ok (f_Mo_nextByte F wr s e q 262144 B) (fun u => u.1.toInt = e.toInt + 1 ∧ ((u.2.1.toInt = 7 ∧ s.toInt < e.toInt ∧ (B (e.toInt.toNat - 1)).toInt % 256 = 255) ∨ (u.2.1.toInt = 8 ∧ ¬ (s.toInt < e.toInt ∧ (B (e.toInt.toNat - 1)).toInt % 256 = 255))) ∧ u.2.2 = B) := by
  have L := lits
  simp only [f_Mo_nextByte, g_Mo_nextByte_27, g_Mo_nextByte_29, g_Mo_nextByte_61, clamp_eq]
  refine ok_le (fun hc => ?_) (fun hc => ?_)
  · refine ok_add (by omega) (fun x hx => ?_)
    refine ok_eq (fun hc2 => ok_s ?_) (fun hc2 => by omega)
    try dsimp only
    exact ⟨by omega, Or.inr ⟨by omega, by omega⟩, rfl⟩
  · refine ok_bm (w_lastByte (by omega)) (fun u hu => ?_)
    refine ok_eq (fun hc3 => ?_) (fun hc3 => ?_)
    · refine ok_add (by omega) (fun x hx => ?_)
      refine ok_eq (fun hc2 => ok_s ?_) (fun hc2 => by omega)
      try dsimp only
      exact ⟨by omega, Or.inl ⟨by omega, by omega, by omega⟩, rfl⟩
    · refine ok_add (by omega) (fun x hx => ?_)
      refine ok_eq (fun hc2 => ok_s ?_) (fun hc2 => by omega)
      try dsimp only
      exact ⟨by omega, Or.inr ⟨by omega, by omega⟩, rfl⟩
/-- the source's bit -/
theorem w_bitR {F N : Nat} {n en la lf lk c : Int32} {R : Nat → Int32} (h : 0 ≤ n.toInt ∧ 0 ≤ lf.toInt ∧ lf.toInt ≤ 7 ∧ en.toInt ≤ c.toInt ∧ c.toInt ≤ N ∧ c.toInt ≤ 262144) : Ok (f_Source_bit F n en la lf lk c N R) (fun u =>
    (lf.toInt = 0 ∧ en.toInt ≤ n.toInt ∧ u.1.toInt = 0 ∧ u.2.1 = n ∧ u.2.2.1 = la ∧ u.2.2.2.1 = lf ∧ u.2.2.2.2.toInt = 1) ∨
    (¬ (lf.toInt = 0 ∧ en.toInt ≤ n.toInt) ∧ ¬ lk.toInt = 0 ∧ u.1.toInt = 0 ∧ u.2.2.2.2 = lk) ∨
    (lf.toInt = 0 ∧ n.toInt < en.toInt ∧ lk.toInt = 0 ∧ u.2.1.toInt = n.toInt + 1 ∧ u.2.2.1.toInt = (R n.toInt.toNat).toInt % 256 ∧ ((la.toInt = 255 ∧ u.2.2.2.1.toInt = 6) ∨ (¬ la.toInt = 255 ∧ u.2.2.2.1.toInt = 7)) ∧ u.2.2.2.2 = lk ∧ u.1 = ((u.2.2.1 >>> (u.2.2.2.1 &&& 31)) &&& 1)) ∨
    (1 ≤ lf.toInt ∧ lk.toInt = 0 ∧ u.2.1 = n ∧ u.2.2.1 = la ∧ u.2.2.2.1.toInt = lf.toInt - 1 ∧ u.2.2.2.2 = lk ∧ u.1 = ((la >>> (u.2.2.2.1 &&& 31)) &&& 1))) := by
  have L := lits
  simp only [f_Source_bit, g_Source_bit_11, f_Source_takeByte, g_Source_takeByte_35]
  refine ok_eq (fun h0 => ?_) (fun h0 => ?_)
  · refine ok_b ?_
    refine ok_lt (fun h1 => ?_) (fun h1 => ?_)
    · refine ok_eq (fun h2 => ?_) (fun h2 => ?_)
      · refine ok_bm (w_Store_get (by omega)) (fun u hu => ?_)
        refine ok_add (by omega) (fun x hx => ok_s ?_)
        dsimp only
        refine ok_eq (fun h3 => ?_) (fun h3 => ok_s ?_)
        · refine ok_sub (by omega) (fun y hy => ok_l (fun z hz => ok_l (fun t ht => ok_s ?_)))
          dsimp only
          try dsimp only
          exact Or.inr (Or.inr (Or.inl ⟨by omega, by omega, by omega, by omega, hu, by omega, rfl, by rw [ht, hz]⟩))
        · try dsimp only
          exact Or.inr (Or.inl ⟨by omega, by omega, by omega, rfl⟩)
      · refine ok_bm (w_Store_get (by omega)) (fun u hu => ?_)
        refine ok_add (by omega) (fun x hx => ok_s ?_)
        dsimp only
        refine ok_eq (fun h3 => ?_) (fun h3 => ok_s ?_)
        · refine ok_sub (by omega) (fun y hy => ok_l (fun z hz => ok_l (fun t ht => ok_s ?_)))
          dsimp only
          try dsimp only
          exact Or.inr (Or.inr (Or.inl ⟨by omega, by omega, by omega, by omega, hu, by omega, rfl, by rw [ht, hz]⟩))
        · try dsimp only
          exact Or.inr (Or.inl ⟨by omega, by omega, by omega, rfl⟩)
    · refine ok_s ?_
      dsimp only
      refine ok_eq (fun h3 => by omega) (fun h3 => ok_s ?_)
      try dsimp only
      exact Or.inl ⟨by omega, by omega, by omega, rfl, rfl, rfl, by omega⟩
  · refine ok_eq (fun h3 => ?_) (fun h3 => ok_s ?_)
    · refine ok_sub (by omega) (fun y hy => ok_l (fun z hz => ok_l (fun t ht => ok_s ?_)))
      dsimp only
      try dsimp only
      exact Or.inr (Or.inr (Or.inr ⟨by omega, by omega, rfl, rfl, by omega, rfl, by rw [ht, hz]⟩))
    · try dsimp only
      exact Or.inr (Or.inl ⟨by omega, by omega, by omega, rfl⟩)
/-- the reference's reading of a bit -/
theorem w_codeR {F : Nat} {sz wr s e q wg o : Int32} {B : Nat → Int32} (hw : wr.toInt = 0) (h : 0 ≤ s.toInt ∧ s.toInt ≤ e.toInt ∧ e.toInt ≤ sz.toInt ∧ sz.toInt ≤ 262144 ∧ 0 ≤ q.toInt ∧ q.toInt ≤ 7 ∧ (1 ≤ q.toInt → s.toInt < e.toInt)) (hg : wg.toInt = 0) :
    Ok (f_Mo_code F sz wr s e q wg 262144 B o) (fun v => v.2.2.2.2 = B ∧
      ((q.toInt = 0 ∧ e.toInt = sz.toInt ∧ v.1.toInt = 0 ∧ v.2.2.2.1.toInt = 1) ∨
       (q.toInt = 0 ∧ e.toInt < sz.toInt ∧ v.2.2.2.1 = wg ∧ v.2.1.toInt = e.toInt + 1 ∧ ((v.2.2.1.toInt = 6 ∧ s.toInt < e.toInt ∧ (B (e.toInt.toNat - 1)).toInt % 256 = 255) ∨ (v.2.2.1.toInt = 7 ∧ ¬ (s.toInt < e.toInt ∧ (B (e.toInt.toNat - 1)).toInt % 256 = 255))) ∧ v.1 = ((B e.toInt.toNat >>> (v.2.2.1 &&& 31)) &&& 1)) ∨
       (1 ≤ q.toInt ∧ v.2.2.2.1 = wg ∧ v.2.1 = e ∧ v.2.2.1.toInt = q.toInt - 1 ∧ v.1 = ((B (e.toInt.toNat - 1) >>> (v.2.2.1 &&& 31)) &&& 1)))) := by
  have L := lits
  simp only [f_Mo_code, g_Mo_code_30, g_Mo_code_50, g_Mo_code_97, g_Mo_code_126, clamp_eq]
  refine ok_eq (fun hq => ?_) (fun hq => ?_)
  · refine ok_eq (fun c1 => ?_) (fun c1 => by omega)
    refine ok_eq (fun c2 => ?_) (fun c2 => ?_)
    · refine ok_eq (fun c3 => by omega) (fun c3 => ok_s ?_)
      try dsimp only
      exact ⟨rfl, Or.inl ⟨by omega, by omega, by omega, by omega⟩⟩
    · refine ok_eq (fun c3 => ?_) (fun c3 => by omega)
      refine ok_eq (fun c4 => ?_) (fun c4 => by omega)
      refine ok_bm (w_nextR hw (by omega)) (fun u hu => ?_)
      obtain ⟨u1, u2, u3⟩ := hu
      refine ok_sub (by omega) (fun x hx => ?_)
      refine ok_eq (fun c4 => ?_) (fun c4 => by omega)
      refine ok_eq (fun c5 => ?_) (fun c5 => by omega)
      refine ok_sub (by omega) (fun y hy => ?_)
      refine ok_in (by omega) ?_
      refine ok_rd (fun z hz => ok_l (fun a ha => ok_l (fun b hb => ok_s ?_)))
      dsimp only
      try dsimp only
      refine ⟨u3, Or.inr (Or.inl ⟨by omega, by omega, rfl, by omega, by omega, ?_⟩)⟩
      rw [hb, ha, hz, u3, show y.toInt.toNat = e.toInt.toNat from by omega]
  · refine ok_eq (fun c3 => ?_) (fun c3 => by omega)
    refine ok_eq (fun c4 => by omega) (fun c4 => ?_)
    refine ok_sub (by omega) (fun x hx => ?_)
    refine ok_eq (fun c4 => ?_) (fun c4 => by omega)
    refine ok_eq (fun c5 => ?_) (fun c5 => by omega)
    refine ok_sub (by omega) (fun y hy => ?_)
    refine ok_in (by omega) ?_
    refine ok_rd (fun z hz => ok_l (fun a ha => ok_l (fun b hb => ok_s ?_)))
    dsimp only
    try dsimp only
    refine ⟨rfl, Or.inr (Or.inr ⟨by omega, rfl, rfl, by omega, ?_⟩)⟩
    rw [hb, ha, hz, show y.toInt.toNat = e.toInt.toNat - 1 from by omega]
/-- once wrong, the reference gives 0s and changes nothing -/
theorem w_codeX {F NB : Nat} {sz wr s e q wg o : Int32} {B : Nat → Int32} (hg : wg.toInt = 1) : Ok (f_Mo_code F sz wr s e q wg NB B o) (fun v => v.1.toInt = 0 ∧ v.2.1 = e ∧ v.2.2.1 = q ∧ v.2.2.2.1.toInt = 1 ∧ v.2.2.2.2 = B) := by
  have L := lits
  simp only [f_Mo_code, g_Mo_code_30]
  repeat' (first
    | (refine ok_eq (fun hc => ?_) (fun hc => ?_) <;> try (exfalso; omega))
    | refine ok_s ?_)
  all_goals (dsimp only; exact ⟨by omega, rfl, rfl, by omega, rfl⟩)
theorem s_bitR0 {F : Nat} {st n en la lf lk c : Int32} {N : Nat} {R : Nat → Int32} {sz wr s e q wg o : Int32} {B : Nat → Int32} (hw : wr.toInt = 0) (h : RelR0 st n en la lf lk c N R sz s e q wg B) :
    Ok (f_Source_bit F n en la lf lk c N R) (fun u => Ok (f_Mo_code F sz wr s e q wg 262144 B o) (fun v => u.1 = v.1 ∧ (v.1.toInt = 0 ∨ v.1.toInt = 1) ∧ v.2.2.2.2 = B ∧ RelR0 st u.2.1 en u.2.2.1 u.2.2.2.1 u.2.2.2.2 c N R sz s v.2.1 v.2.2.1 v.2.2.2.1 B ∧ (¬ wg.toInt = 0 → ¬ v.2.2.2.1.toInt = 0))) := by
  have L := lits
  obtain ⟨h1, h2, h3, h4, h5, h6, h7, h8, h9, h10, h11⟩ := h
  have b01 : ∀ y k : Int32, ((y >>> (k &&& 31)) &&& 1).toInt = 0 ∨ ((y >>> (k &&& 31)) &&& 1).toInt = 1 := fun y k => by rw [ti_and1]; omega
  rcases h11 with ⟨a1, a2, a3, a4, a5, a6, a7, a8, a9, a10⟩ | ⟨a1, a2, a3, a4⟩
  · refine ok_m (w_bitR (by omega)) (fun u hu => ?_)
    refine ok_m (w_codeR hw (by omega) a1) (fun v hv => ?_)
    obtain ⟨v0, hv⟩ := hv
    rcases hu with ⟨u1, u2, u3, u4, u5, u6, u7⟩ | ⟨u1, u2, u3⟩ | ⟨u1, u2, u3, u4, u5, u6, u7, u8⟩ | ⟨u1, u2, u3, u4, u5, u6, u7⟩
    · rcases hv with ⟨q1, q2, q3, q4⟩ | q1 | q1
      · try dsimp only
        refine ⟨ti_ofI (by omega), by omega, v0, ⟨h1, h2, h3, h4, h5, h6, h7, h8, h9, h10, Or.inr ⟨by omega, by omega, by rw [u6]; omega, by rw [u4]; omega⟩⟩, by omega⟩
      · omega
      · omega
    · omega
    · rcases hv with q1 | ⟨q1, q2, q3, q4, q5, q6⟩ | q1
      · omega
      · have e1 : R n.toInt.toNat = B e.toInt.toNat := by rw [h10 _ (by omega), show n.toInt.toNat = e.toInt.toNat from by omega]
        rw [e1] at u5
        have hr : u.2.2.2.1.toInt = v.2.2.1.toInt := by omega
        have er : u.2.2.2.1 = v.2.2.1 := ti_ofI hr
        have hb : u.1 = v.1 := by
          rw [u8, q6]
          refine ti_ofI ?_
          rw [er]
          exact bit_same u5 (by omega)
        try dsimp only
        refine ⟨hb, by rw [q6]; exact b01 _ _, v0, ⟨h1, h2, h3, h4, h5, h6, h7, h8, h9, h10, Or.inl ⟨by rw [q3]; exact a1, by rw [u7]; exact a2, by omega, hr, by omega, by omega, by omega, by omega, by omega, Or.inl ⟨by omega, ?_⟩⟩⟩, fun z => absurd a1 z⟩
        rw [u5, show v.2.1.toInt.toNat - 1 = e.toInt.toNat from by omega]
      · omega
    · rcases hv with q1 | q1 | ⟨q1, q2, q3, q4, q5⟩
      · omega
      · omega
      · have hr : u.2.2.2.1.toInt = v.2.2.1.toInt := by omega
        have er : u.2.2.2.1 = v.2.2.1 := ti_ofI hr
        have la2 : s.toInt < e.toInt ∧ la.toInt = (B (e.toInt.toNat - 1)).toInt % 256 := by omega
        have hb : u.1 = v.1 := by
          rw [u7, q5]
          refine ti_ofI ?_
          rw [er]
          exact bit_same la2.2 (by omega)
        try dsimp only
        refine ⟨hb, by rw [q5]; exact b01 _ _, v0, ⟨h1, h2, h3, h4, h5, h6, h7, h8, h9, h10, Or.inl ⟨by rw [q2]; exact a1, by rw [u6]; exact a2, by rw [u3, q3]; exact a3, hr, by rw [q3]; exact a5, by rw [q3]; exact a6, by omega, by omega, by rw [q3]; omega, by rw [u4, q3]; exact a10⟩⟩, fun z => absurd a1 z⟩
  · refine ok_m (w_bitR (by omega)) (fun u hu => ?_)
    refine ok_m (w_codeX a1) (fun v hv => ?_)
    obtain ⟨v1, v2, v3, v4, v5⟩ := hv
    rcases hu with ⟨u1, u2, u3, u4, u5, u6, u7⟩ | u1 | u1 | u1
    · try dsimp only
      refine ⟨ti_ofI (by omega), by omega, v5, ⟨h1, h2, h3, h4, h5, h6, h7, h8, h9, h10, Or.inr ⟨v4, u7, by rw [u6]; exact a3, by rw [u4]; exact a4⟩⟩, by omega⟩
    · omega
    · omega
    · omega
/-- a bit was written, or read, before -/
def RelW (k : Nat) (g r c : Int32) (N : Nat) (R : Nat → Int32) (s e q : Int32) (B : Nat → Int32) : Prop := RelW0 k g r c N R s e q B ∧ s.toInt < e.toInt
theorem RelW.less {k k' : Nat} {g r c : Int32} {N : Nat} {R : Nat → Int32} {s e q : Int32} {B : Nat → Int32} (h : RelW k g r c N R s e q B) (hk : k' ≤ k) : RelW k' g r c N R s e q B := ⟨h.1.less hk, h.2⟩
theorem ok_and {α : Type} {o : Option α} {P Q : α → Prop} (h1 : Ok o P) (h2 : Ok o Q) : Ok o (fun u => P u ∧ Q u) := by
  obtain ⟨u, e, p⟩ := h1
  obtain ⟨u', e', q⟩ := h2
  rw [e] at e'
  injection e' with e''
  subst e''
  try dsimp only
  exact ⟨u, e, p, q⟩
theorem s_bitW1 {F k : Nat} {g r c : Int32} {N : Nat} {R : Nat → Int32} {sz wr s e q wg o : Int32} {B : Nat → Int32} (hw : wr.toInt = 1) (hg : wg.toInt = 0) (ho : o.toInt = 0 ∨ o.toInt = 1) (h : RelW0 (k + 1) g r c N R s e q B) :
    Ok (f_Sink_bit F g r c N R o) (fun u => Ok (f_Mo_code F sz wr s e q wg 262144 B o) (fun v => u.2.2.1 = o ∧ v.1 = o ∧ v.2.2.2.1 = wg ∧ RelW k u.2.2.2.1 u.2.2.2.2.1 u.2.2.2.2.2.1 u.2.2.2.2.2.2.1 u.2.2.2.2.2.2.2 s v.2.1 v.2.2.1 v.2.2.2.2 ∧ 16 * u.1 + N ≤ u.2.2.2.2.2.2.1 ∧ u.2.1 + 2 * N ≤ 2 * u.2.2.2.2.2.2.1)) := by
  have L := lits
  refine ok_m (s_bitW0 (sz := sz) hw hg ho h) (fun u hu => ?_)
  obtain ⟨h1, h2, h3, h4, h5, h6, h7, h8, h9, h10⟩ := h
  have hb0 : q.toInt = 0 → s.toInt < e.toInt → -128 ≤ (B (e.toInt.toNat - 1)).toInt ∧ (B (e.toInt.toNat - 1)).toInt ≤ 127 := by
    intro hq hse
    rcases h10 with q1 | ⟨gn, qn, q1⟩
    · rw [← h8 _ (by omega)]; exact fit_iff.mp (h3 _ (by omega))
    · omega
  refine ok_m (ok_and hu (w_codeW (o := o) hw hg (by rcases h10 with q1 | ⟨gn, qn, q1⟩ <;> omega) hb0)) (fun v hv => ?_)
  obtain ⟨⟨a1, a2, a3, a4, a5, a6⟩, b1, b2, b3⟩ := hv
  try dsimp only
  refine ⟨a1, a2, a3, ⟨a4, ?_⟩, a5, a6⟩
  rcases b3 with w | w
  · rcases h10 with q1 | ⟨gn, qn, q1⟩ <;> omega
  · rw [w.2.1]
    rcases h10 with q1 | ⟨gn, qn, q1⟩ <;> omega
theorem s_bitW {F k : Nat} {g r c : Int32} {N : Nat} {R : Nat → Int32} {sz wr s e q wg o : Int32} {B : Nat → Int32} (hw : wr.toInt = 1) (hg : wg.toInt = 0) (ho : o.toInt = 0 ∨ o.toInt = 1) (h : RelW (k + 1) g r c N R s e q B) :
    Ok (f_Sink_bit F g r c N R o) (fun u => Ok (f_Mo_code F sz wr s e q wg 262144 B o) (fun v => u.2.2.1 = o ∧ v.1 = o ∧ v.2.2.2.1 = wg ∧ RelW k u.2.2.2.1 u.2.2.2.2.1 u.2.2.2.2.2.1 u.2.2.2.2.2.2.1 u.2.2.2.2.2.2.2 s v.2.1 v.2.2.1 v.2.2.2.2 ∧ 16 * u.1 + N ≤ u.2.2.2.2.2.2.1 ∧ u.2.1 + 2 * N ≤ 2 * u.2.2.2.2.2.2.1)) := s_bitW1 hw hg ho h.1
def RelR (st n en la lf lk c : Int32) (N : Nat) (R : Nat → Int32) (sz s e q wg : Int32) (B : Nat → Int32) : Prop := RelR0 st n en la lf lk c N R sz s e q wg B ∧ (wg.toInt = 0 → s.toInt < e.toInt)
theorem s_bitR1 {F : Nat} {st n en la lf lk c : Int32} {N : Nat} {R : Nat → Int32} {sz wr s e q wg o : Int32} {B : Nat → Int32} (hw : wr.toInt = 0) (h : RelR0 st n en la lf lk c N R sz s e q wg B) :
    Ok (f_Source_bit F n en la lf lk c N R) (fun u => Ok (f_Mo_code F sz wr s e q wg 262144 B o) (fun v => u.1 = v.1 ∧ (v.1.toInt = 0 ∨ v.1.toInt = 1) ∧ v.2.2.2.2 = B ∧ RelR st u.2.1 en u.2.2.1 u.2.2.2.1 u.2.2.2.2 c N R sz s v.2.1 v.2.2.1 v.2.2.2.1 B ∧ (¬ wg.toInt = 0 → ¬ v.2.2.2.1.toInt = 0) ∧ (¬ v.2.2.2.1.toInt = 0 → v.1.toInt = 0))) := by
  have L := lits
  refine ok_m (s_bitR0 (o := o) hw h) (fun u hu => ?_)
  obtain ⟨h1, h2, h3, h4, h5, h6, h7, h8, h9, h10, h11⟩ := h
  by_cases hg : wg.toInt = 0
  · refine ok_m (ok_and hu (w_codeR (o := o) hw (by omega) hg)) (fun v hv => ?_)
    obtain ⟨⟨a1, a2, a3, a4, a5⟩, b1, b2⟩ := hv
    try dsimp only
    refine ⟨a1, a2, a3, ⟨a4, ?_⟩, a5, ?_⟩
    · rcases b2 with ⟨q1, q2, q3, q4⟩ | ⟨q1, q2, q3, q4, q5, q6⟩ | ⟨q1, q2, q3, q4, q5⟩
      · intro _; omega
      · intro z; omega
      · intro z; rw [q3]; omega
    · rcases b2 with ⟨q1, q2, q3, q4⟩ | ⟨q1, q2, q3, q4, q5, q6⟩ | ⟨q1, q2, q3, q4, q5⟩
      · intro _; exact q3
      · intro z; rw [q3] at z; omega
      · intro z; rw [q2] at z; omega
  · refine ok_m (ok_and hu (w_codeX (NB := 262144) (sz := sz) (wr := wr) (s := s) (e := e) (q := q) (wg := wg) (o := o) (B := B) (by omega))) (fun v hv => ?_)
    obtain ⟨⟨a1, a2, a3, a4, a5⟩, b1, b2, b3, b4, b5⟩ := hv
    try dsimp only
    exact ⟨a1, a2, a3, ⟨a4, fun z => by omega⟩, a5, fun _ => b1⟩
theorem s_bitR {F : Nat} {st n en la lf lk c : Int32} {N : Nat} {R : Nat → Int32} {sz wr s e q wg o : Int32} {B : Nat → Int32} (hw : wr.toInt = 0) (h : RelR st n en la lf lk c N R sz s e q wg B) :
    Ok (f_Source_bit F n en la lf lk c N R) (fun u => Ok (f_Mo_code F sz wr s e q wg 262144 B o) (fun v => u.1 = v.1 ∧ (v.1.toInt = 0 ∨ v.1.toInt = 1) ∧ v.2.2.2.2 = B ∧ RelR st u.2.1 en u.2.2.1 u.2.2.2.1 u.2.2.2.2 c N R sz s v.2.1 v.2.2.1 v.2.2.2.1 B ∧ (¬ wg.toInt = 0 → ¬ v.2.2.2.1.toInt = 0))) :=
  ok_m (s_bitR1 (o := o) hw h.1) (fun _ hu => ok_m hu (fun _ hv => ⟨hv.1, hv.2.1, hv.2.2.1, hv.2.2.2.1, hv.2.2.2.2.1⟩))
