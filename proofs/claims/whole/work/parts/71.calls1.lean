/-! The small calls. -/
theorem out_is (f : Nat → Int64) (x : Int64) : vp_updL f (0 : Int32).toNatClampNeg x (0 : Int32).toNatClampNeg = x := if_pos rfl
theorem c_put {F : Nat} {sc p0 : Int32} {sN oN : Nat} {sR : Nat → Int32} {oF : Nat → Int64} (h : 0 ≤ sc.toInt ∧ sc.toInt ≤ 262144 ∧ sc.toInt ≤ sN ∧ 16 ≤ sN ∧ sN ≤ 600000) (hf : ∀ i, i < sN → fits .byte (.int (sR i)) = true) (ho : oN = 1) :
    Ok (f_Law_put F sc sN sR oN oF p0) (fun u => (¬ (0 ≤ p0.toInt ∧ p0.toInt ≤ 255) ∧ u = (1, 6, 1, sc, sN, sR, oF)) ∨ ((0 ≤ p0.toInt ∧ p0.toInt ≤ 255) ∧ sc.toInt = 262144 ∧ u = (1, 6, 2, sc, sN, sR, oF)) ∨
      ((0 ≤ p0.toInt ∧ p0.toInt ≤ 255) ∧ sc.toInt < 262144 ∧ u.2.2.1 = 0 ∧ u.2.2.2.2.2.2 (0 : Int32).toNatClampNeg = u.2.2.2.1.toInt64 ∧ u.2.2.2.1.toInt = sc.toInt + 1 ∧ 16 * u.1 + sN ≤ u.2.2.2.2.1 ∧ u.2.1 + 2 * sN ≤ 2 * u.2.2.2.2.1 ∧ sc.toInt + 1 ≤ u.2.2.2.2.1 ∧ u.2.2.2.2.1 ≤ 600000 ∧ (∀ i, i < u.2.2.2.2.1 → fits .byte (.int (u.2.2.2.2.2.1 i)) = true) ∧ u.2.2.2.2.2.1 sc.toInt.toNat = p0.toInt8.toInt32 ∧ ∀ i : Nat, (i : Int) < sc.toInt → u.2.2.2.2.2.1 i = sR i)) := by
  have L := lits
  have l255 : (255 : Int32).toInt = 255 := by decide
  have l26 : (262144 : Int32).toInt = 262144 := by decide
  simp only [f_Law_put]
  refine ok_bm (Q := fun u6 => (¬ (0 ≤ p0.toInt ∧ p0.toInt ≤ 255) ∧ u6 = (1, 6, 1, 0, sc, sN, sR)) ∨ ((0 ≤ p0.toInt ∧ p0.toInt ≤ 255) ∧ sc.toInt = 262144 ∧ u6 = (1, 6, 4, 0, sc, sN, sR)) ∨ ((0 ≤ p0.toInt ∧ p0.toInt ≤ 255) ∧ sc.toInt < 262144 ∧ u6.2.2.1 = 0 ∧ u6.2.2.2.1 = u6.2.2.2.2.1 ∧ u6.2.2.2.2.1.toInt = sc.toInt + 1 ∧ 16 * u6.1 + sN ≤ u6.2.2.2.2.2.1 ∧ u6.2.1 + 2 * sN ≤ 2 * u6.2.2.2.2.2.1 ∧ sc.toInt + 1 ≤ u6.2.2.2.2.2.1 ∧ u6.2.2.2.2.2.1 ≤ 600000 ∧ (∀ i, i < u6.2.2.2.2.2.1 → fits .byte (.int (u6.2.2.2.2.2.2 i)) = true) ∧ u6.2.2.2.2.2.2 sc.toInt.toNat = p0.toInt8.toInt32 ∧ ∀ i : Nat, (i : Int) < sc.toInt → u6.2.2.2.2.2.2 i = sR i)) ?_ (fun u6 e6 => ok_c ?_)
  · simp only [f_PH_put, g_PH_put_11]
    refine ok_lt (fun c => ok_s (Or.inl ⟨by omega, rfl⟩)) (fun _ => ?_)
    refine ok_le (fun _ => ?_) (fun c => ok_s (Or.inl ⟨by omega, rfl⟩))
    refine ok_lt (fun _ => ?_) (fun c => ok_s (Or.inr (Or.inl ⟨by omega, by omega, rfl⟩)))
    refine ok_bm (w_Store_add (by omega) hf) (fun z hz => ok_c (ok_s (Or.inr (Or.inr ?_))))
    obtain ⟨y1, y2, y3, y4, y5, y6, y7, y8⟩ := hz
    try dsimp only
    exact ⟨by omega, by omega, rfl, rfl, y3, by (try dsimp only); omega, by (try dsimp only); omega, y4, y5, y6, y7, y8⟩
  · rcases e6 with ⟨z1, z2⟩ | ⟨z1, z2, z3⟩ | ⟨z1, z2, z3, z4, z5, z6⟩
    · subst z2
      exact ok_neq (fun c => by simp at c) (fun _ => ok_neq (fun _ => ok_s (Or.inl ⟨z1, rfl⟩)) (fun c => absurd rfl c))
    · subst z3
      exact ok_neq (fun c => by simp at c) (fun _ => ok_neq (fun c => by simp at c) (fun _ => ok_neq (fun _ => ok_s (Or.inr (Or.inl ⟨z1, z2, rfl⟩))) (fun c => absurd rfl c)))
    · refine ok_neq (fun _ => ?_) (fun c => absurd z3 c)
      refine ok_v (ok_in (by omega) (ok_s (Or.inr (Or.inr ?_))))
      dsimp only
      rw [out_is, z4, Nat.zero_add, Nat.zero_add]
      try dsimp only
      exact ⟨z1, z2, rfl, rfl, z5, z6⟩
theorem m_put {F : Nat} {th size p0 : Int32} {B : Nat → Int32} (h : 0 ≤ size.toInt ∧ size.toInt ≤ 262144) :
    Ok (f_Mo_put F th size 262144 B p0) (fun v => (¬ (0 ≤ p0.toInt ∧ p0.toInt ≤ 255) ∧ v = (0, 1, size, B)) ∨ ((0 ≤ p0.toInt ∧ p0.toInt ≤ 255) ∧ size.toInt = 262144 ∧ v = (0, 2, size, B)) ∨ ((0 ≤ p0.toInt ∧ p0.toInt ≤ 255) ∧ size.toInt < 262144 ∧ v.1.toInt = size.toInt + 1 ∧ v.2.1 = 0 ∧ v.2.2.1 = v.1 ∧ v.2.2.2 = upd B size.toInt.toNat (p0.toInt8.toInt32))) := by
  have L := lits
  have l255 : (255 : Int32).toInt = 255 := by decide
  have l26 : (262144 : Int32).toInt = 262144 := by decide
  simp only [f_Mo_put, g_Mo_put_23, clamp_eq]
  refine ok_bm w_Mo_out (fun u8 e8 => ?_)
  refine ok_eq (fun c => ?_) (fun c => ?_)
  · refine ok_bm w_Mo_throwing (fun u5 e5 => ?_)
    refine ok_eq (fun c => by omega) (fun _ => ok_s ?_)
    by_cases q : u8.toInt = 0
    · try dsimp only
      exact Or.inr (Or.inl ⟨by omega, by omega, by rw [show u5.2 = 2 from ti_ofI (by omega)]⟩)
    · try dsimp only
      exact Or.inl ⟨by omega, by rw [show u5.2 = 1 from ti_ofI (by omega)]⟩
  · refine ok_bm w_Mo_throwing (fun u5 e5 => ?_)
    refine ok_eq (fun c => ?_) (fun _ => ok_s (Or.inl ⟨by omega, by rw [show u5.2 = 1 from ti_ofI (by omega)]⟩))
    refine ok_v ?_
    refine ok_in (by omega) ?_
    refine ok_add (by omega) (fun x7 e7 => ok_s (Or.inr (Or.inr ?_)))
    dsimp only
    rw [nar_b]
    try dsimp only
    exact ⟨by omega, by omega, by omega, ti_ofI (by omega), rfl, rfl⟩
theorem c_at {F : Nat} {sc p0 : Int32} {sN oN : Nat} {sR : Nat → Int32} {oF : Nat → Int64} (h : 0 ≤ sc.toInt ∧ sc.toInt ≤ 262144 ∧ sc.toInt ≤ sN) (ho : oN = 1) :
    Ok (f_Law_at F sc sN sR oN oF p0) (fun u => ((p0.toInt < -1 ∨ sc.toInt ≤ p0.toInt) ∧ u = (1, 6, 1, oF)) ∨ (∃ x : Int32, (-1 ≤ p0.toInt ∧ p0.toInt < sc.toInt) ∧ u.1 = 0 ∧ u.2.1 = 0 ∧ u.2.2.1 = 0 ∧ u.2.2.2 (0 : Int32).toNatClampNeg = x.toInt64 ∧ ((p0.toInt = -1 ∧ x = sc) ∨ (0 ≤ p0.toInt ∧ x.toInt = (sR p0.toInt.toNat).toInt % 256)))) := by
  have L := lits
  simp only [f_Law_at]
  refine ok_bm (Q := fun u6 => ((p0.toInt < -1 ∨ sc.toInt ≤ p0.toInt) ∧ u6 = (1, 6, 3, 0)) ∨ (∃ x : Int32, (-1 ≤ p0.toInt ∧ p0.toInt < sc.toInt) ∧ u6 = (0, 0, 0, x) ∧ ((p0.toInt = -1 ∧ x = sc) ∨ (0 ≤ p0.toInt ∧ x.toInt = (sR p0.toInt.toNat).toInt % 256)))) ?_ (fun u6 e6 => ok_c ?_)
  · simp only [f_PH_at, g_PH_at_28]
    refine ok_eq (fun c => ok_s (Or.inr ⟨sc, by omega, rfl, Or.inl ⟨by omega, rfl⟩⟩)) (fun c => ?_)
    refine ok_lt (fun c2 => ok_s (Or.inl ⟨by omega, rfl⟩)) (fun c2 => ?_)
    refine ok_lt (fun c3 => ?_) (fun c3 => ok_s (Or.inl ⟨by omega, rfl⟩))
    exact ok_bm (w_Store_get (by omega)) (fun x hx => ok_s (Or.inr ⟨x, by omega, rfl, Or.inr ⟨by omega, hx⟩⟩))
  · rcases e6 with ⟨z1, z2⟩ | ⟨x, z1, z2, z3⟩
    · subst z2
      exact ok_neq (fun c => by simp at c) (fun _ => ok_neq (fun _ => ok_s (Or.inl ⟨z1, rfl⟩)) (fun c => absurd rfl c))
    · subst z2
      refine ok_neq (fun _ => ?_) (fun c => absurd rfl c)
      refine ok_v (ok_in (by omega) (ok_s (Or.inr ⟨x, z1, rfl, rfl, rfl, ?_, z3⟩)))
      exact out_is oF x.toInt64
theorem m_at {F : Nat} {th size p0 : Int32} {B : Nat → Int32} (h : 0 ≤ size.toInt ∧ size.toInt ≤ 262144) :
    Ok (f_Mo_at F th size 262144 B p0) (fun v => ((p0.toInt < -1 ∨ size.toInt ≤ p0.toInt) ∧ v = (0, 1)) ∨ ((-1 ≤ p0.toInt ∧ p0.toInt < size.toInt) ∧ v.2 = 0 ∧ ((p0.toInt = -1 ∧ v.1 = size) ∨ (0 ≤ p0.toInt ∧ v.1.toInt = (B p0.toInt.toNat).toInt % 256)))) := by
  have L := lits
  simp only [f_Mo_at, g_Mo_at_43, clamp_eq]
  refine ok_sub (by omega) (fun x6 e6 => ?_)
  refine ok_bm w_Mo_out (fun u7 e7 => ?_)
  refine ok_bm w_Mo_throwing (fun u8 e8 => ?_)
  refine ok_eq (fun c => ?_) (fun c => ok_s (Or.inl ⟨by omega, by rw [show u8.2 = 1 from ti_ofI (by omega)]⟩))
  have e0 : u8.2 = 0 := ti_ofI (by omega)
  refine ok_le (fun c2 => ?_) (fun c2 => ok_s (Or.inr ⟨by omega, e0, Or.inl ⟨by omega, rfl⟩⟩))
  refine ok_in (by omega) (ok_v ?_)
  exact ok_and255 (fun x10 e10 => ok_s (Or.inr ⟨by omega, e0, Or.inr ⟨by omega, e10⟩⟩))
theorem c_layers {F : Nat} {ov lw lr p0 : Int32} {oN : Nat} {oF : Nat → Int64} (ho : oN = 1) :
    Ok (f_Law_layers F ov lw lr oN oF p0) (fun u => ((p0.toInt < 0 ∨ 2 < p0.toInt) ∧ u = (1, 6, 1, oF)) ∨ (∃ x : Int32, (0 ≤ p0.toInt ∧ p0.toInt ≤ 2) ∧ u.1 = 0 ∧ u.2.1 = 0 ∧ u.2.2.1 = 0 ∧ u.2.2.2 (0 : Int32).toNatClampNeg = x.toInt64 ∧ ((p0.toInt = 0 ∧ x = lw) ∨ (p0.toInt = 1 ∧ x = lr) ∨ (p0.toInt = 2 ∧ ((ov.toInt = 0 ∧ x = 0) ∨ (¬ ov.toInt = 0 ∧ x = 1)))))) := by
  have L := lits
  simp only [f_Law_layers]
  refine ok_bm (Q := fun u6 => ((p0.toInt < 0 ∨ 2 < p0.toInt) ∧ u6 = (1, 6, 1, 0)) ∨ (∃ x : Int32, (0 ≤ p0.toInt ∧ p0.toInt ≤ 2) ∧ u6 = (0, 0, 0, x) ∧ ((p0.toInt = 0 ∧ x = lw) ∨ (p0.toInt = 1 ∧ x = lr) ∨ (p0.toInt = 2 ∧ ((ov.toInt = 0 ∧ x = 0) ∨ (¬ ov.toInt = 0 ∧ x = 1)))))) ?_ (fun u6 e6 => ok_c ?_)
  · simp only [f_PH_layers, g_PH_layers_56]
    refine ok_eq (fun c => ok_s (Or.inr ⟨lw, by omega, rfl, Or.inl ⟨by omega, rfl⟩⟩)) (fun c => ?_)
    refine ok_eq (fun c2 => ok_s (Or.inr ⟨lr, by omega, rfl, Or.inr (Or.inl ⟨by omega, rfl⟩)⟩)) (fun c2 => ?_)
    refine ok_eq (fun c3 => ?_) (fun c3 => ok_s (Or.inl ⟨by omega, rfl⟩))
    exact ok_eq (fun c4 => ok_s (Or.inr ⟨0, by omega, rfl, Or.inr (Or.inr ⟨by omega, Or.inl ⟨by omega, rfl⟩⟩)⟩)) (fun c4 => ok_s (Or.inr ⟨1, by omega, rfl, Or.inr (Or.inr ⟨by omega, Or.inr ⟨by omega, rfl⟩⟩)⟩))
  · rcases e6 with ⟨z1, z2⟩ | ⟨x, z1, z2, z3⟩
    · subst z2
      exact ok_neq (fun c => by simp at c) (fun _ => ok_neq (fun _ => ok_s (Or.inl ⟨z1, rfl⟩)) (fun c => absurd rfl c))
    · subst z2
      refine ok_neq (fun _ => ?_) (fun c => absurd rfl c)
      refine ok_v (ok_in (by omega) (ok_s (Or.inr ⟨x, z1, rfl, rfl, rfl, ?_, z3⟩)))
      exact out_is oF x.toInt64
theorem m_layers {F : Nat} {th ov p0 : Int32} {lyF : Nat → Int32} :
    Ok (f_Mo_layers F th ov 2 lyF p0) (fun v => ((p0.toInt < 0 ∨ 2 < p0.toInt) ∧ v = (0, 1)) ∨ ((0 ≤ p0.toInt ∧ p0.toInt ≤ 2) ∧ v.2 = 0 ∧ ((p0.toInt = 0 ∧ v.1 = lyF 0) ∨ (p0.toInt = 1 ∧ v.1 = lyF 1) ∨ (p0.toInt = 2 ∧ ((ov.toInt = 0 ∧ v.1 = 0) ∨ (¬ ov.toInt = 0 ∧ v.1 = 1)))))) := by
  have L := lits
  simp only [f_Mo_layers, g_Mo_layers_43, clamp_eq]
  refine ok_bm w_Mo_out (fun u7 e7 => ?_)
  refine ok_bm w_Mo_throwing (fun u8 e8 => ?_)
  refine ok_eq (fun c => ?_) (fun c => ok_s (Or.inl ⟨by omega, by rw [show u8.2 = 1 from ti_ofI (by omega)]⟩))
  have e0 : u8.2 = 0 := ti_ofI (by omega)
  refine ok_le (fun c2 => ?_) (fun c2 => ?_)
  · exact ok_eq (fun c3 => ok_s (Or.inr ⟨by omega, e0, Or.inr (Or.inr ⟨by omega, Or.inl ⟨by omega, rfl⟩⟩)⟩)) (fun c3 => ok_s (Or.inr ⟨by omega, e0, Or.inr (Or.inr ⟨by omega, Or.inr ⟨by omega, rfl⟩⟩)⟩))
  · refine ok_in (by omega) (ok_v (ok_s (Or.inr ⟨by omega, e0, ?_⟩)))
    rcases (show p0.toInt = 0 ∨ p0.toInt = 1 by omega) with q | q
    · try dsimp only
      exact Or.inl ⟨q, by (try dsimp only); rw [q]; rfl⟩
    · try dsimp only
      exact Or.inr (Or.inl ⟨q, by (try dsimp only); rw [q]; rfl⟩)
