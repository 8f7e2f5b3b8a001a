/-! The bytes of a piece that is to be written. -/
theorem s_piece {F : Nat} (hF : 1000000 ≤ F) {m : Nat} {w h : Nat → Nat} {cn th sty bds P p0 p1 p2 : Int32} {fN pN tN lN oN : Nat} {bF fF pF tF lF wiF hiF beF toF cF brF oF LeF : Nat → Int32} {out : Nat → Int64} (hG : Geo m w h) (hm : cn.toInt = m ∧ bds.toInt = m) (hb : ∀ j, j ≤ m → (bF j).toInt = bbase w h j ∧ (beF j).toInt = bbase w h j) (hwi : ∀ i, i < m → (wiF i).toInt = w i ∧ (hiF i).toInt = h i) (hs : bbase w h m ≤ fN ∧ bbase w h m ≤ pN ∧ bbase w h m ≤ tN ∧ lN ≤ 8192) (ho : oN = 1)
    (hI : ∀ b, b < bbase w h m → toF b = tF b ∧ 0 ≤ (tF b).toInt ∧ (tF b).toInt ≤ (pF b).toInt ∧ 0 ≤ (cF b).toInt ∧ 0 ≤ (brF b).toInt ∧ (cF b).toInt + (brF b).toInt ≤ 200 ∧ (pF b).toInt = pcs sty (cF b).toInt.toNat (brF b).toInt.toNat ∧ (0 < (pF b).toInt → 0 ≤ (fF b).toInt ∧ (fF b).toInt + (pF b).toInt ≤ lN)) (hP : 0 ≤ P.toInt ∧ ((∃ b, b < bbase w h m ∧ (tF b).toInt < (pF b).toInt) → P.toInt < 8200)) :
    Ok (f_Law_piece F cn 4 bF fN fF pN pF tN tF lN lF oN out p0 p1 p2) (fun u => Ok (f_Mo_piece F th sty bds P 3 wiF 3 hiF 4 beF 2048 toF 2048 cF 2048 brF 8200 oF 8200 LeF p0 p1 p2) (fun v => v.2.1 = u.2.2.1 ∧ (u.2.2.1 = 0 → u.2.2.2.2.2 (0 : Int32).toNatClampNeg = v.1.toInt64) ∧ u.1 ≤ 1 ∧ u.2.1 ≤ 6 ∧ ((¬ u.2.2.1 = 0 ∧ u.2.2.2.1 = tF ∧ u.2.2.2.2.1 = lF ∧ v.2.2.1 = P ∧ v.2.2.2.1 = toF ∧ v.2.2.2.2.1 = oF ∧ v.2.2.2.2.2 = LeF) ∨ (u.2.2.1 = 0 ∧ ∃ (b : Nat) (x b32 : Int32), b < bbase w h m ∧ (tF b).toInt < (pF b).toInt ∧ 0 ≤ p2.toInt ∧ p2.toInt ≤ 65535 ∧ x.toInt = (tF b).toInt + 1 ∧ b32.toInt = b ∧ u.2.2.2.1 = upd tF b x ∧ u.2.2.2.2.1 = upd lF ((fF b).toInt.toNat + (tF b).toInt.toNat) p2 ∧ v.2.2.1.toInt = P.toInt + 1 ∧ v.2.2.2.1 b = x ∧ (∀ y, ¬ y = b → v.2.2.2.1 y = toF y) ∧ v.2.2.2.2.1 = upd oF P.toInt.toNat b32 ∧ v.2.2.2.2.2 = upd LeF P.toInt.toNat p2)))) := by
  have L := lits
  have l65535 : (65535 : Int32).toInt = 65535 := by decide
  have g3 := hG.1
  have cls : Ok (f_Law_piece F cn 4 bF fN fF pN pF tN tF lN lF oN out p0 p1 p2) (fun u => u.1 ≤ 1 ∧ u.2.1 ≤ 6 ∧ ((¬ (Blk m w h p0 p1 ∧ 0 ≤ p2.toInt ∧ p2.toInt ≤ 65535) ∧ u.2.2.1 = 1 ∧ u.2.2.2.1 = tF ∧ u.2.2.2.2.1 = lF) ∨ (∃ i k : Nat, i < m ∧ k < w i * h i ∧ p0.toInt = i ∧ p1.toInt = k ∧ (0 ≤ p2.toInt ∧ p2.toInt ≤ 65535) ∧ (((tF (bbase w h i + k)).toInt = (pF (bbase w h i + k)).toInt ∧ u.2.2.1 = 2 ∧ u.2.2.2.1 = tF ∧ u.2.2.2.2.1 = lF) ∨ (∃ x : Int32, (tF (bbase w h i + k)).toInt < (pF (bbase w h i + k)).toInt ∧ x.toInt = (tF (bbase w h i + k)).toInt + 1 ∧ u.2.2.1 = 0 ∧ u.2.2.2.2.2 (0 : Int32).toNatClampNeg = x.toInt64 ∧ u.2.2.2.1 = upd tF (bbase w h i + k) x ∧ u.2.2.2.2.1 = upd lF ((fF (bbase w h i + k)).toInt.toNat + (tF (bbase w h i + k)).toInt.toNat) p2))))) := by
    simp only [f_Law_piece]
    refine ok_bm (Q := fun u6 => (¬ (Blk m w h p0 p1 ∧ 0 ≤ p2.toInt ∧ p2.toInt ≤ 65535) ∧ u6 = (1, 6, 1, 0, tF, lF)) ∨ (∃ i k : Nat, i < m ∧ k < w i * h i ∧ p0.toInt = i ∧ p1.toInt = k ∧ (0 ≤ p2.toInt ∧ p2.toInt ≤ 65535) ∧ (((tF (bbase w h i + k)).toInt = (pF (bbase w h i + k)).toInt ∧ u6 = (1, 6, 2, 0, tF, lF)) ∨ (∃ x : Int32, (tF (bbase w h i + k)).toInt < (pF (bbase w h i + k)).toInt ∧ x.toInt = (tF (bbase w h i + k)).toInt + 1 ∧ u6 = (0, 0, 0, x, upd tF (bbase w h i + k) x, upd lF ((fF (bbase w h i + k)).toInt.toNat + (tF (bbase w h i + k)).toInt.toNat) p2))))) ?_ (fun u6 e6 => ok_c ?_)
    · simp only [f_PH_piece, g_PH_piece_18]
      refine ok_bm (w_find hG hm.1 (fun j hj => (hb j hj).1)) (fun u12 e12 => ok_c ?_)
      rcases e12 with ⟨i, k, hi, hk, h3, h4, h5, h6, h7, h8⟩ | ⟨h1, h2⟩
      · have gw := hG.wh hi
        have eb : u12.2.2.2.toInt.toNat = bbase w h i + k := by omega
        have hb1 := hI (bbase w h i + k) (by omega)
        rw [h5, h6]
        refine ok_neq (fun _ => ?_) (fun c => absurd h7 c)
        refine ok_lt (fun c => ok_s (Or.inl ⟨by omega, rfl⟩)) (fun c => ?_)
        refine ok_le (fun c1 => ?_) (fun c1 => ok_s (Or.inl ⟨by omega, rfl⟩))
        simp only [clamp_eq, eb]
        refine ok_in (by omega) (ok_v ?_)
        refine ok_in (by omega) (ok_v ?_)
        refine ok_lt (fun c2 => ?_) (fun c2 => ok_s (Or.inr ⟨i, k, hi, hk, h3, h4, by omega, Or.inl ⟨by omega, rfl⟩⟩))
        refine ok_in (by omega) (ok_v ?_)
        refine ok_in (by omega) (ok_v ?_)
        refine ok_add (by omega) (fun x19 e19 => ?_)
        refine ok_in (by omega) (ok_in (by omega) (ok_v ?_))
        refine ok_add (by omega) (fun x21 e21 => ?_)
        refine ok_in (by omega) (ok_in (by omega) (ok_v (ok_s (Or.inr ⟨i, k, hi, hk, h3, h4, by omega, Or.inr ⟨x21, by omega, by omega, ?_⟩⟩))))
        rw [upd_is, show x19.toInt.toNat = (fF (bbase w h i + k)).toInt.toNat + (tF (bbase w h i + k)).toInt.toNat by omega]
      · subst h2
        exact ok_neq (fun c => by simp at c) (fun _ => ok_s (Or.inl ⟨fun z => h1 z.1, rfl⟩))
    · rcases e6 with ⟨z1, z2⟩ | ⟨i, k, a1, a2, a3, a4, a5, ⟨a6, a7⟩ | ⟨x, a6, a7, a8⟩⟩
      · subst z2
        exact ok_neq (fun c => by simp at c) (fun _ => ok_neq (fun _ => ok_s ⟨Nat.le_refl _, Nat.le_refl _, Or.inl ⟨z1, rfl, rfl, rfl⟩⟩) (fun c => absurd rfl c))
      · subst a7
        exact ok_neq (fun c => by simp at c) (fun _ => ok_neq (fun c => by simp at c) (fun _ => ok_neq (fun _ => ok_s ⟨Nat.le_refl _, Nat.le_refl _, Or.inr ⟨i, k, a1, a2, a3, a4, a5, Or.inl ⟨a6, rfl, rfl, rfl⟩⟩⟩) (fun c => absurd rfl c)))
      · subst a8
        refine ok_neq (fun _ => ?_) (fun c => absurd rfl c)
        exact ok_v (ok_in (by omega) (ok_s ⟨Nat.zero_le _, Nat.zero_le _, Or.inr ⟨i, k, a1, a2, a3, a4, a5, Or.inr ⟨x, a6, a7, rfl, out_is out _, rfl, rfl⟩⟩⟩))
  have ref : Ok (f_Mo_piece F th sty bds P 3 wiF 3 hiF 4 beF 2048 toF 2048 cF 2048 brF 8200 oF 8200 LeF p0 p1 p2) (fun v => (¬ (Blk m w h p0 p1 ∧ 0 ≤ p2.toInt ∧ p2.toInt ≤ 65535) ∧ v = (0, 1, P, toF, oF, LeF)) ∨ (∃ i k : Nat, i < m ∧ k < w i * h i ∧ p0.toInt = i ∧ p1.toInt = k ∧ (0 ≤ p2.toInt ∧ p2.toInt ≤ 65535) ∧ (((tF (bbase w h i + k)).toInt = (pF (bbase w h i + k)).toInt ∧ v = (0, 2, P, toF, oF, LeF)) ∨ ((tF (bbase w h i + k)).toInt < (pF (bbase w h i + k)).toInt ∧ v.2.1 = 0 ∧ v.1 = v.2.2.2.1 (bbase w h i + k) ∧ v.1.toInt = (tF (bbase w h i + k)).toInt + 1 ∧ (∀ y, ¬ y = bbase w h i + k → v.2.2.2.1 y = toF y) ∧ v.2.2.1.toInt = P.toInt + 1 ∧ ∃ b32 : Int32, b32.toInt = ((bbase w h i + k : Nat) : Int) ∧ v.2.2.2.2.1 = upd oF P.toInt.toNat b32 ∧ v.2.2.2.2.2 = upd LeF P.toInt.toNat p2)))) := by
    simp only [f_Mo_piece, g_Mo_piece_19]
    refine ok_bm (w_isBlock hG hm.2 hwi) (fun u19 e19 => ?_)
    have bad : Ok (g_Mo_piece_24 F sty 4 beF 2048 2048 cF 2048 brF 8200 8200 toF oF LeF th P p0 p1 p2 1) (fun v => v = (0, 1, P, toF, oF, LeF)) := by
      simp only [g_Mo_piece_24, g_Mo_piece_43, g_Mo_piece_80, g_Mo_piece_81]
      refine ok_eq (fun c => by omega) (fun _ => ?_)
      refine ok_eq (fun c => by omega) (fun _ => ?_)
      refine ok_bm w_Mo_throwing (fun u11 e11 => ?_)
      refine ok_eq (fun d => by omega) (fun _ => ok_s ?_)
      rw [show u11.2 = 1 from ti_ofI (by omega)]
    refine ok_eq (fun c => ?_) (fun c => ?_)
    · refine ok_m bad (fun v hv => Or.inl ⟨fun z => ?_, hv⟩)
      rcases e19 with ⟨_, q⟩ | ⟨q, _⟩
      · omega
      · exact q z.1
    refine ok_bm w_Mo_out (fun u20 e20 => ?_)
    refine ok_eq (fun c1 => ?_) (fun c1 => ok_m bad (fun v hv => Or.inl ⟨fun z => by omega, hv⟩))
    obtain ⟨i, k, hi, hk, h3, h4⟩ : Blk m w h p0 p1 := by
      rcases e19 with ⟨q, _⟩ | ⟨_, q⟩
      · exact q
      · omega
    have gw := hG.wh hi
    have hbi := (hb i (by omega)).2
    have hb1 := hI (bbase w h i + k) (by omega)
    simp only [g_Mo_piece_24, g_Mo_piece_43, g_Mo_piece_80, g_Mo_piece_81, clamp_eq]
    refine ok_T ?_
    rw [show p0.toInt.toNat = i by omega]
    refine ok_in (by omega) (ok_v ?_)
    refine ok_add (by omega) (fun x18 e18 => ?_)
    have ex : x18.toInt.toNat = bbase w h i + k := by omega
    have ex' : x18.toInt = ((bbase w h i + k : Nat) : Int) := by omega
    refine ok_T ?_
    rw [ex]
    refine ok_in (by omega) (ok_v ?_)
    refine ok_in (by omega) (ok_v ?_)
    refine ok_bm (w_Mo_pcs hF (by omega) (by rw [ex]; omega)) (fun u16 e16 => ?_)
    rw [ex] at e16
    rw [hb1.1]
    refine ok_eq (fun c2 => ?_) (fun c2 => ?_)
    · refine ok_bm w_Mo_throwing (fun u11 e11 => ?_)
      refine ok_eq (fun d => by omega) (fun _ => ok_s (Or.inr ⟨i, k, hi, hk, h3, h4, by omega, Or.inl ⟨by omega, ?_⟩⟩))
      rw [show u11.2 = 2 from ti_ofI (by omega)]
    · refine ok_bm w_Mo_throwing (fun u11 e11 => ?_)
      refine ok_eq (fun _ => ?_) (fun d => by omega)
      have hlt : (tF (bbase w h i + k)).toInt < (pF (bbase w h i + k)).toInt := by omega
      have hPl := hP.2 ⟨bbase w h i + k, by omega, hlt⟩
      have hpcl := pcs_le sty (brF (bbase w h i + k)).toInt.toNat (cF (bbase w h i + k)).toInt.toNat
      refine ok_bm (w_Mo_add (by omega) (by omega) (by rw [ex, hb1.1]; omega)) (fun u12 e12 => ?_)
      rw [ex] at e12
      obtain ⟨q1, q2, q3, q4, q5⟩ := e12
      rw [hb1.1] at q4
      refine ok_in (by omega) (ok_v (ok_s (Or.inr ⟨i, k, hi, hk, h3, h4, by omega, Or.inr ⟨hlt, ti_ofI (by (try dsimp only); omega), rfl, q4, q5, q1, x18, ex', q2, q3⟩⟩)))
  refine ok_m cls (fun u hu => ok_m ref (fun v hv => ?_))
  obtain ⟨n1, n2, hu⟩ := hu
  rcases hu with ⟨a1, a2, a3, a4⟩ | ⟨i, k, a1, a2, a3, a4, a5, ⟨a6, a7, a8, a9⟩ | ⟨x, a6, a7, a8, a9, a10, a11⟩⟩
  · rcases hv with ⟨_, b2⟩ | ⟨i, k, b1, b2, b3, b4, b5, _⟩
    · subst b2
      try dsimp only
      exact ⟨a2.symm, fun z => absurd (a2.symm.trans z) (by decide), n1, n2, Or.inl ⟨by rw [a2]; decide, a3, a4, rfl, rfl, rfl, rfl⟩⟩
    · exact absurd ⟨⟨i, k, b1, b2, b3, b4⟩, b5⟩ a1
  · rcases hv with ⟨b1, _⟩ | ⟨i', k', b1, b2, b3, b4, b5, b6⟩
    · exact absurd ⟨⟨i, k, a1, a2, a3, a4⟩, a5⟩ b1
    · have e1 : i' = i := by omega
      have e2 : k' = k := by omega
      subst e1 e2
      rcases b6 with ⟨_, c2⟩ | ⟨c1, _⟩
      · subst c2
        try dsimp only
        exact ⟨a7.symm, fun z => absurd (a7.symm.trans z) (by decide), n1, n2, Or.inl ⟨by rw [a7]; decide, a8, a9, rfl, rfl, rfl, rfl⟩⟩
      · omega
  · rcases hv with ⟨b1, _⟩ | ⟨i', k', b1, b2, b3, b4, b5, b6⟩
    · exact absurd ⟨⟨i, k, a1, a2, a3, a4⟩, a5⟩ b1
    · have e1 : i' = i := by omega
      have e2 : k' = k := by omega
      subst e1 e2
      rcases b6 with ⟨c1, _⟩ | ⟨c1, c2, c3, c4, c5, c6, b32, c7, c8, c9⟩
      · omega
      · have ex : v.1 = x := ti_ofI (by omega)
        have hbn : bbase w h i' + k' < bbase w h m := by have := hG.wh a1; omega
        try dsimp only
        exact ⟨by rw [c2, a8], fun _ => by rw [a9, ex], n1, n2, Or.inr ⟨a8, bbase w h i' + k', x, b32, hbn, a6, a5.1, a5.2, a7, c7, a10, a11, c6, by rw [← c3, ex], c5, c8, c9⟩⟩
