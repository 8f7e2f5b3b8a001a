/-! A new precinct; a band more, on both sides. -/
theorem bv_nat {x : Int32} (h : 0 ≤ x.toInt) : (x.toBitVec.toNat : Int) = x.toInt := by
  have h2 : x.toInt = (x.toBitVec.toNat : Int).bmod (2 ^ 32) := by rw [← Int32.toInt_toBitVec, BitVec.toInt_eq_toNat_bmod]
  have := x.toBitVec.isLt
  rw [h2] at h ⊢
  rw [Int.bmod_def] at h ⊢
  omega
theorem m_bits : ∀ i, i < 32 → 3 ≤ i → Nat.testBit 4294967290 i = true := by decide +kernel
theorem m_small : ∀ n, n < 8 → ((nI n &&& (-6)) = 0 ↔ (n = 0 ∨ n = 1 ∨ n = 4 ∨ n = 5)) := by decide +kernel
theorem style_ok {x : Int32} (h : 0 ≤ x.toInt) : (x &&& (-6)) = 0 ↔ (x.toInt = 0 ∨ x.toInt = 1 ∨ x.toInt = 4 ∨ x.toInt = 5) := by
  obtain ⟨n, hn, hx⟩ := i_nat h
  have small : n < 8 → ((x &&& (-6)) = 0 ↔ (x.toInt = 0 ∨ x.toInt = 1 ∨ x.toInt = 4 ∨ x.toInt = 5)) := by
    intro h8
    have := m_small n h8
    rw [← hx] at this
    rw [this]
    omega
  by_cases h8 : n < 8
  · exact small h8
  · constructor
    · intro e
      have e1 : (x &&& (-6)).toBitVec.toNat = 0 := by rw [e]; rfl
      rw [Int32.toBitVec_and, BitVec.toNat_and] at e1
      have e2 : ((-6 : Int32)).toBitVec.toNat = 4294967290 := by decide
      rw [e2] at e1
      have hb := bv_nat h
      have hlt : x.toBitVec.toNat < 2 ^ 3 := by
        refine Nat.lt_pow_two_of_testBit _ (fun i hi => ?_)
        by_cases q : i < 32
        · have h1 : Nat.testBit (x.toBitVec.toNat &&& 4294967290) i = false := by rw [e1]; exact Nat.zero_testBit i
          rw [Nat.testBit_and, m_bits i q hi, Bool.and_true] at h1
          exact h1
        · refine Nat.testBit_lt_two_pow (Nat.lt_of_lt_of_le x.toBitVec.isLt (Nat.pow_le_pow_right (by omega) (by omega)))
      exact absurd (by omega) h8
    · intro e
      exact absurd (by omega) h8
theorem m_fresh {F : Nat} (hF : 1000000 ≤ F) {P p0 : Int32} {cF WF brF fiF miF oF LeF toF : Nat → Int32} (hp : p0.toInt = 0 ∨ p0.toInt = 1024) (hP : 0 ≤ P.toInt ∧ P.toInt ≤ 8200) :
    Ok (f_Mo_fresh F P 2048 cF 2048 WF 2048 brF 2048 fiF 2048 miF 8200 oF 8200 LeF 2048 toF p0) (fun u => 0 ≤ u.1.toInt ∧ Kept p0.toInt (p0.toInt + 1024) oF LeF P.toInt.toNat u.2.2.2.2.2.2.1 u.2.2.2.2.2.2.2.1 u.1.toInt.toNat ∧ (∀ j : Nat, u.2.2.2.2.2.2.2.2 j = if p0.toInt ≤ j ∧ (j : Int) < p0.toInt + 1024 then 0 else toF j) ∧ (∀ j : Nat, ¬ (p0.toInt ≤ j ∧ (j : Int) < p0.toInt + 1024) → u.2.1 j = cF j ∧ u.2.2.1 j = WF j ∧ u.2.2.2.1 j = brF j ∧ u.2.2.2.2.1 j = fiF j ∧ u.2.2.2.2.2.1 j = miF j) ∧ (∀ j : Nat, p0.toInt ≤ j → (j : Int) < p0.toInt + 1024 → u.2.1 j = 0 ∧ u.2.2.1 j = 3 ∧ u.2.2.2.1 j = 0 ∧ u.2.2.2.2.1 j = -1 ∧ u.2.2.2.2.2.1 j = if p0.toInt = 0 then 0 else -1)) := by
  have L := lits
  have l1024 : (1024 : Int32).toInt = 1024 := by decide
  have key : ∀ (n : Nat) (c1 w1 b1 f1 m1 : Nat → Int32) (v2 : Int32), p0.toInt ≤ v2.toInt → v2.toInt ≤ p0.toInt + 1024 → p0.toInt + 1024 < v2.toInt + n → (∀ j : Nat, ¬ (p0.toInt ≤ j ∧ (j : Int) < p0.toInt + 1024) → c1 j = cF j ∧ w1 j = WF j ∧ b1 j = brF j ∧ f1 j = fiF j ∧ m1 j = miF j) → (∀ j : Nat, p0.toInt ≤ j → (j : Int) < v2.toInt → c1 j = 0 ∧ w1 j = 3 ∧ b1 j = 0 ∧ f1 j = -1 ∧ m1 j = if p0.toInt = 0 then 0 else -1) →
      Ok (f_Mo_fresh_2 F 2048 2048 2048 2048 2048 8200 8200 2048 n P c1 w1 b1 f1 m1 oF LeF toF p0 v2) (fun u => 0 ≤ u.1.toInt ∧ Kept p0.toInt (p0.toInt + 1024) oF LeF P.toInt.toNat u.2.2.2.2.2.2.1 u.2.2.2.2.2.2.2.1 u.1.toInt.toNat ∧ (∀ j : Nat, u.2.2.2.2.2.2.2.2 j = if p0.toInt ≤ j ∧ (j : Int) < p0.toInt + 1024 then 0 else toF j) ∧ (∀ j : Nat, ¬ (p0.toInt ≤ j ∧ (j : Int) < p0.toInt + 1024) → u.2.1 j = cF j ∧ u.2.2.1 j = WF j ∧ u.2.2.2.1 j = brF j ∧ u.2.2.2.2.1 j = fiF j ∧ u.2.2.2.2.2.1 j = miF j) ∧ (∀ j : Nat, p0.toInt ≤ j → (j : Int) < p0.toInt + 1024 → u.2.1 j = 0 ∧ u.2.2.1 j = 3 ∧ u.2.2.2.1 j = 0 ∧ u.2.2.2.2.1 j = -1 ∧ u.2.2.2.2.2.1 j = if p0.toInt = 0 then 0 else -1)) := by
    intro n
    induction n with
    | zero => intro c1 w1 b1 f1 m1 v2 h1 h2 h3; omega
    | succ n ih =>
      intro c1 w1 b1 f1 m1 v2 h1 h2 h3 h4 h5
      simp only [f_Mo_fresh_2, g_Mo_fresh_2, g_Mo_fresh_53, clamp_eq]
      refine ok_add (by omega) (fun x6 e6 => ?_)
      refine ok_le (fun c => ?_) (fun c => ?_)
      · refine ok_add (by omega) (fun x7 e7 => ?_)
        refine ok_bm (w_Mo_forget hF ⟨hP.1, hP.2, hP.2, by omega⟩ ⟨by omega, by omega, by omega, by omega⟩) (fun u8 e8 => ok_s ?_)
        rw [show x7.toInt = p0.toInt + 1024 by omega] at e8
        try dsimp only
        exact ⟨e8.1, e8.2.1, e8.2.2, h4, fun j h6 h7 => h5 j h6 (by omega)⟩
      · have fin : ∀ s0 : Int32, (s0 = if p0.toInt = 0 then 0 else -1) → Ok (asm (vp_in v2 2048) (letb (v2 + 1) fun x5 => f_Mo_fresh_2 F 2048 2048 2048 2048 2048 8200 8200 2048 n P (upd c1 v2.toInt.toNat 0) (upd w1 v2.toInt.toNat 3) (upd b1 v2.toInt.toNat 0) (upd f1 v2.toInt.toNat (-1)) (upd m1 v2.toInt.toNat s0) oF LeF toF p0 x5)) (fun u => 0 ≤ u.1.toInt ∧ Kept p0.toInt (p0.toInt + 1024) oF LeF P.toInt.toNat u.2.2.2.2.2.2.1 u.2.2.2.2.2.2.2.1 u.1.toInt.toNat ∧ (∀ j : Nat, u.2.2.2.2.2.2.2.2 j = if p0.toInt ≤ j ∧ (j : Int) < p0.toInt + 1024 then 0 else toF j) ∧ (∀ j : Nat, ¬ (p0.toInt ≤ j ∧ (j : Int) < p0.toInt + 1024) → u.2.1 j = cF j ∧ u.2.2.1 j = WF j ∧ u.2.2.2.1 j = brF j ∧ u.2.2.2.2.1 j = fiF j ∧ u.2.2.2.2.2.1 j = miF j) ∧ (∀ j : Nat, p0.toInt ≤ j → (j : Int) < p0.toInt + 1024 → u.2.1 j = 0 ∧ u.2.2.1 j = 3 ∧ u.2.2.2.1 j = 0 ∧ u.2.2.2.2.1 j = -1 ∧ u.2.2.2.2.2.1 j = if p0.toInt = 0 then 0 else -1)) := by
          intro s0 hs0
          refine ok_in (by omega) ?_
          refine ok_add (by omega) (fun x5 e5 => ih _ _ _ _ _ x5 (by omega) (by omega) (by omega) (fun j hj => ?_) (fun j h6 h7 => ?_))
          · rw [upd_no (by omega), upd_no (by omega), upd_no (by omega), upd_no (by omega), upd_no (by omega)]; exact h4 j hj
          · by_cases q : j = v2.toInt.toNat
            · rw [q, upd_is, upd_is, upd_is, upd_is, upd_is]; exact ⟨rfl, rfl, rfl, rfl, hs0⟩
            · rw [upd_no q, upd_no q, upd_no q, upd_no q, upd_no q]; exact h5 j h6 (by omega)
        refine ok_in (by omega) (ok_in (by omega) (ok_in (by omega) (ok_in (by omega) ?_)))
        exact ok_eq (fun d => fin 0 (by rw [if_pos (by omega)])) (fun d => fin (-1) (by rw [if_neg (by omega)]))
  simp only [f_Mo_fresh]
  exact key F cF WF brF fiF miF p0 (by omega) (by omega) (by omega) (fun _ _ => ⟨rfl, rfl, rfl, rfl, rfl⟩) (fun j h6 h7 => by omega)
theorem c_begin {F : Nat} {ov cn nd0' st wlc wly rlc rly p0 : Int32} :
    Ok (f_Law_begin F ov cn nd0' st wlc wly rlc rly p0) (fun u => (¬ (p0.toInt = 0 ∨ p0.toInt = 1 ∨ p0.toInt = 4 ∨ p0.toInt = 5) ∧ u = (1, 6, 1, ov, cn, nd0', st, wlc, wly, rlc, rly)) ∨ ((p0.toInt = 0 ∨ p0.toInt = 1 ∨ p0.toInt = 4 ∨ p0.toInt = 5) ∧ u = (0, 0, 0, 0, 0, 0, p0, 0, 0, 0, 0))) := by
  have L := lits
  simp only [f_Law_begin]
  refine ok_bm (Q := fun u4 => (¬ (p0.toInt = 0 ∨ p0.toInt = 1 ∨ p0.toInt = 4 ∨ p0.toInt = 5) ∧ u4 = (1, 6, 1, ov, cn, nd0', st, wlc, wly, rlc, rly)) ∨ ((p0.toInt = 0 ∨ p0.toInt = 1 ∨ p0.toInt = 4 ∨ p0.toInt = 5) ∧ u4 = (0, 0, 0, 0, 0, 0, p0, 0, 0, 0, 0))) ?_ (fun u4 e4 => ok_c ?_)
  · simp only [f_PH_begin, g_PH_begin_11, f_Bands_restart, f_Side_restart]
    refine ok_lt (fun c => ok_s (Or.inl ⟨by omega, rfl⟩)) (fun c => ?_)
    have hst := style_ok (x := p0) (by omega)
    refine ok_v ?_
    by_cases q : (p0 &&& (-6)) = 0
    · rw [if_pos q]
      exact ok_b (ok_s (ok_b (ok_s (ok_b (ok_s (ok_s (Or.inr ⟨hst.mp q, rfl⟩)))))))
    · rw [if_neg q]
      exact ok_s (Or.inl ⟨fun z => q (hst.mpr z), rfl⟩)
  · rcases e4 with ⟨z1, z2⟩ | ⟨z1, z2⟩
    · subst z2
      exact ok_neq (fun c => by simp at c) (fun _ => ok_neq (fun _ => ok_s (Or.inl ⟨z1, rfl⟩)) (fun c => absurd rfl c))
    · subst z2
      exact ok_neq (fun _ => ok_s (Or.inr ⟨z1, rfl⟩)) (fun c => absurd rfl c)
theorem m_begin {F : Nat} (hF : 1000000 ≤ F) {th sty bds P ov p0 : Int32} {beF lyF LF KF cF WF brF fiF miF oF LeF toF : Nat → Int32} (hP : 0 ≤ P.toInt ∧ P.toInt ≤ 8200) (hown : ∀ p : Nat, p < P.toInt.toNat → 0 ≤ (oF p).toInt ∧ (oF p).toInt < 2048) :
    Ok (f_Mo_begin F th sty bds P ov 4 beF 2 lyF 24576 LF 24576 KF 2048 cF 2048 WF 2048 brF 2048 fiF 2048 miF 8200 oF 8200 LeF 2048 toF p0) (fun v => (¬ (p0.toInt = 0 ∨ p0.toInt = 1 ∨ p0.toInt = 4 ∨ p0.toInt = 5) ∧ v = (1, sty, bds, P, ov, beF, lyF, LF, KF, cF, WF, brF, fiF, miF, oF, LeF, toF)) ∨ ((p0.toInt = 0 ∨ p0.toInt = 1 ∨ p0.toInt = 4 ∨ p0.toInt = 5) ∧ ∃ (P' : Int32) (be' ly' L' K' c' W' br' fi' mi' o' Le' to' : Nat → Int32), v = (0, p0, 0, P', 0, be', ly', L', K', c', W', br', fi', mi', o', Le', to') ∧ be' 0 = 0 ∧ ly' 0 = 0 ∧ ly' 1 = 0 ∧ (∀ x, x < 24576 → L' x = 0 ∧ K' x = 0) ∧ P'.toInt = 0 ∧ (∀ j, j < 2048 → c' j = 0 ∧ W' j = 3 ∧ br' j = 0 ∧ fi' j = -1 ∧ mi' j = (if j < 1024 then 0 else -1) ∧ to' j = 0))) := by
  have L := lits
  have l1024 : (1024 : Int32).toInt = 1024 := by decide
  have l24576 : (24576 : Int32).toInt = 24576 := by decide
  have thr : ∀ {X : Prop}, Ok (g_Mo_begin_25 F 4 2 24576 24576 2048 2048 2048 2048 2048 8200 8200 2048 th sty bds P ov beF lyF LF KF cF WF brF fiF miF oF LeF toF p0 1) (fun v => v = (1, sty, bds, P, ov, beF, lyF, LF, KF, cF, WF, brF, fiF, miF, oF, LeF, toF)) := by
    intro X
    simp only [g_Mo_begin_25]
    refine ok_bm w_Mo_throwing (fun u6 e6 => ?_)
    refine ok_eq (fun d => by omega) (fun _ => ok_s ?_)
    rw [show u6.2 = 1 from ti_ofI (by omega)]
  have good : Ok (g_Mo_begin_25 F 4 2 24576 24576 2048 2048 2048 2048 2048 8200 8200 2048 th sty bds P ov beF lyF LF KF cF WF brF fiF miF oF LeF toF p0 0) (fun v => ∃ (P' : Int32) (be' ly' L' K' c' W' br' fi' mi' o' Le' to' : Nat → Int32), v = (0, p0, 0, P', 0, be', ly', L', K', c', W', br', fi', mi', o', Le', to') ∧ be' 0 = 0 ∧ ly' 0 = 0 ∧ ly' 1 = 0 ∧ (∀ x, x < 24576 → L' x = 0 ∧ K' x = 0) ∧ P'.toInt = 0 ∧ (∀ j, j < 2048 → c' j = 0 ∧ W' j = 3 ∧ br' j = 0 ∧ fi' j = -1 ∧ mi' j = (if j < 1024 then 0 else -1) ∧ to' j = 0)) := by
    simp only [g_Mo_begin_25]
    refine ok_bm w_Mo_throwing (fun u6 e6 => ?_)
    refine ok_eq (fun _ => ?_) (fun d => by omega)
    refine ok_in (by omega) ?_
    refine ok_bm (m_fresh hF (Or.inl L.2.1) hP) (fun u7 e7 => ?_)
    obtain ⟨a1, a2, a3, a4, a5⟩ := e7
    rw [L.2.1] at a2 a3 a4 a5
    have hP7 : u7.1.toInt ≤ 8200 := by have := a2.1; omega
    refine ok_bm (m_fresh hF (Or.inr l1024) ⟨a1, hP7⟩) (fun u8 e8 => ?_)
    obtain ⟨b1, b2, b3, b4, b5⟩ := e8
    rw [l1024] at b2 b3 b4 b5
    refine ok_in (by omega) (ok_in (by omega) ?_)
    have hcF : ∀ j, j < 2048 → u8.2.1 j = 0 ∧ u8.2.2.1 j = 3 ∧ u8.2.2.2.1 j = 0 ∧ u8.2.2.2.2.1 j = -1 ∧ u8.2.2.2.2.2.1 j = (if j < 1024 then 0 else -1) ∧ u8.2.2.2.2.2.2.2.2 j = 0 := by
      intro j hj
      have z1 := b3 j
      have z2 := a3 j
      by_cases q : j < 1024
      · have y1 := b4 j (by omega)
        have y2 := a5 j (by omega) (by omega)
        rw [if_neg (by omega)] at z1
        rw [if_pos (by omega)] at z2
        rw [if_pos rfl] at y2
        rw [if_pos q]
        try dsimp only
        exact ⟨y1.1.trans y2.1, y1.2.1.trans y2.2.1, y1.2.2.1.trans y2.2.2.1, y1.2.2.2.1.trans y2.2.2.2.1, y1.2.2.2.2.trans y2.2.2.2.2, z1.trans z2⟩
      · have y1 := b5 j (by omega) (by omega)
        rw [if_neg (by decide)] at y1
        rw [if_pos (by omega)] at z1
        rw [if_neg q]
        try dsimp only
        exact ⟨y1.1, y1.2.1, y1.2.2.1, y1.2.2.2.1, y1.2.2.2.2, z1⟩
    have hP8 : u8.1.toInt = 0 := by
      rcases Nat.eq_zero_or_pos u8.1.toInt.toNat with z | z
      · omega
      · exfalso
        obtain ⟨k1, c1, c2, c3, c4, _⟩ := b2.2.1 0 z
        obtain ⟨k2, d1, d2, d3, d4, _⟩ := a2.2.1 k1 c1
        rw [d2] at c4
        have hb := hown k2 d1
        omega
    have key : ∀ (n : Nat) (be ly L1 K1 : Nat → Int32) (v2 : Int32), 0 ≤ v2.toInt → v2.toInt ≤ 24576 → 24576 < v2.toInt + n → (∀ x : Nat, (x : Int) < v2.toInt → L1 x = 0 ∧ K1 x = 0) → Ok (f_Mo_begin_84 F 24576 24576 n be ly L1 K1 u6.2 p0 0 u8.1 0 u8.2.1 u8.2.2.1 u8.2.2.2.1 u8.2.2.2.2.1 u8.2.2.2.2.2.1 u8.2.2.2.2.2.2.1 u8.2.2.2.2.2.2.2.1 u8.2.2.2.2.2.2.2.2 v2) (fun v => ∃ L' K' : Nat → Int32, v = (u6.2, p0, 0, u8.1, 0, be, ly, L', K', u8.2.1, u8.2.2.1, u8.2.2.2.1, u8.2.2.2.2.1, u8.2.2.2.2.2.1, u8.2.2.2.2.2.2.1, u8.2.2.2.2.2.2.2.1, u8.2.2.2.2.2.2.2.2) ∧ ∀ x, x < 24576 → L' x = 0 ∧ K' x = 0) := by
      intro n
      induction n with
      | zero => intro be ly L1 K1 v2 h1 h2 h3; omega
      | succ n ih =>
        intro be ly L1 K1 v2 h1 h2 h3 h4
        simp only [f_Mo_begin_84, g_Mo_begin_84, clamp_eq]
        refine ok_le (fun c => ok_s ⟨L1, K1, rfl, fun x hx => h4 x (by omega)⟩) (fun c => ?_)
        refine ok_in (by omega) (ok_in (by omega) ?_)
        refine ok_add (by omega) (fun x5 e5 => ih be ly _ _ x5 (by omega) (by omega) (by omega) (fun x hx => ?_))
        by_cases q : x = v2.toInt.toNat
        · rw [q, upd_is, upd_is, nar0]; exact ⟨rfl, rfl⟩
        · rw [upd_no q, upd_no q]; exact h4 x (by omega)
    refine ok_m (key F _ _ LF KF 0 (by omega) (by omega) (by omega) (fun x hx => by omega)) (fun v hv => ?_)
    obtain ⟨L', K', e1, e2⟩ := hv
    rw [show u6.2 = 0 from ti_ofI (by omega)] at e1
    try dsimp only
    refine ⟨u8.1, _, _, L', K', _, _, _, _, _, _, _, _, e1, upd_is _ _ _, ?_, ?_, e2, hP8, hcF⟩
    · rw [upd_no (by decide)]; exact upd_is _ _ _
    · exact upd_is _ _ _
  simp only [f_Mo_begin, g_Mo_begin_24]
  have l4 : (4 : Int32).toInt = 4 := by decide
  have l5 : (5 : Int32).toInt = 5 := by decide
  refine ok_eq (fun c => ok_m good (fun v hv => Or.inr ⟨by omega, hv⟩)) (fun c0 => ?_)
  refine ok_eq (fun c => ok_m good (fun v hv => Or.inr ⟨by omega, hv⟩)) (fun c1 => ?_)
  refine ok_eq (fun c => ok_m good (fun v hv => Or.inr ⟨by omega, hv⟩)) (fun c2 => ?_)
  refine ok_eq (fun c => ok_m good (fun v hv => Or.inr ⟨by omega, hv⟩)) (fun c3 => ?_)
  exact ok_m (thr (X := True)) (fun v hv => Or.inl ⟨by omega, hv⟩)
