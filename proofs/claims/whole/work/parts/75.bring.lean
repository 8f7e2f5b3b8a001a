/-! Passes that a block brings. -/
set_option maxHeartbeats 1000000 in
theorem s_bring {F : Nat} (hF : 1000000 ≤ F) {m : Nat} {w h : Nat → Nat} {cn st th bds lc P p0 p1 p2 : Int32} {aN nN fN pN tN lN oN : Nat} {bF aF nF fF pF tF lF wiF hiF beF cF brF oF LeF toF : Nat → Int32} {out : Nat → Int64} (hG : Geo m w h) (hm : cn.toInt = m ∧ bds.toInt = m) (hb : ∀ j, j ≤ m → (bF j).toInt = bbase w h j ∧ (beF j).toInt = bbase w h j) (hwi : ∀ i, i < m → (wiF i).toInt = w i ∧ (hiF i).toInt = h i) (hs : bbase w h m ≤ aN ∧ bbase w h m ≤ nN ∧ bbase w h m ≤ fN ∧ bbase w h m ≤ pN ∧ bbase w h m ≤ tN ∧ 16 ≤ lN ∧ lN ≤ 8192 ∧ lc.toInt ≤ lN) (ho : oN = 1) (hLI : LI (bbase w h m) lc.toInt fF pF)
    (hI : ∀ b, b < bbase w h m → cF b = aF b ∧ brF b = nF b ∧ 0 ≤ (aF b).toInt ∧ (aF b).toInt ≤ 200 ∧ 0 ≤ (nF b).toInt ∧ (aF b).toInt + (nF b).toInt ≤ 200 ∧ (pF b).toInt = pcs st (aF b).toInt.toNat (nF b).toInt.toNat) (hP : 0 ≤ P.toInt ∧ P.toInt ≤ 8200) :
    Ok (f_Law_bring F cn st 4 bF lc aN aF nN nF fN fF pN pF tN tF lN lF oN out p0 p1 p2) (fun u => Ok (f_Mo_bring F th st bds P 3 wiF 3 hiF 4 beF 2048 cF 2048 brF 8200 oF 8200 LeF 2048 toF p0 p1 p2) (fun v => v.2.1 = u.2.2.1 ∧ (u.2.2.1 = 0 → u.2.2.2.2.2.2.2.2.2.2 (0 : Int32).toNatClampNeg = v.1.toInt64) ∧ 16 * u.1 + lN ≤ u.2.2.2.2.2.2.2.2.1 + 16 ∧ u.2.1 + 2 * lN ≤ 2 * u.2.2.2.2.2.2.2.2.1 + 6 ∧
      ((¬ u.2.2.1 = 0 ∧ u.2.2.2.1 = lc ∧ u.2.2.2.2.1 = nF ∧ u.2.2.2.2.2.1 = fF ∧ u.2.2.2.2.2.2.1 = pF ∧ u.2.2.2.2.2.2.2.1 = tF ∧ u.2.2.2.2.2.2.2.2.1 = lN ∧ u.2.2.2.2.2.2.2.2.2.1 = lF ∧ v.2.2.1 = P ∧ v.2.2.2.1 = brF ∧ v.2.2.2.2.1 = oF ∧ v.2.2.2.2.2.1 = LeF ∧ v.2.2.2.2.2.2 = toF) ∨
       (u.2.2.1 = 0 ∧ ∃ (b : Nat) (pv : Int32), b < bbase w h m ∧ 0 ≤ p2.toInt ∧ p2.toInt ≤ 164 ∧ (aF b).toInt + p2.toInt ≤ 200 ∧ pv.toInt = pcs st (aF b).toInt.toNat p2.toInt.toNat ∧ u.2.2.2.2.1 = upd nF b p2 ∧ u.2.2.2.2.2.2.1 = upd pF b pv ∧ u.2.2.2.2.2.2.2.1 = upd tF b 0 ∧ LI (bbase w h m) u.2.2.2.1.toInt u.2.2.2.2.2.1 u.2.2.2.2.2.2.1 ∧ (∀ o, o < bbase w h m → ¬ o = b → ∀ i, i < (pF o).toInt.toNat → u.2.2.2.2.2.2.2.2.2.1 ((u.2.2.2.2.2.1 o).toInt.toNat + i) = lF ((fF o).toInt.toNat + i)) ∧ u.2.2.2.1.toInt ≤ u.2.2.2.2.2.2.2.2.1 ∧ u.2.2.2.2.2.2.2.2.1 ≤ 8192 ∧ lN ≤ u.2.2.2.2.2.2.2.2.1 ∧ v.2.2.2.1 = upd brF b p2 ∧ 0 ≤ v.2.2.1.toInt ∧ Kept b ((b : Int) + 1) oF LeF P.toInt.toNat v.2.2.2.2.1 v.2.2.2.2.2.1 v.2.2.1.toInt.toNat ∧ ∀ j : Nat, v.2.2.2.2.2.2 j = if j = b then 0 else toF j)))) := by
  have L := lits
  have l164 : (164 : Int32).toInt = 164 := by decide
  have l200 : (200 : Int32).toInt = 200 := by decide
  have l4096 : (4096 : Int32).toInt = 4096 := by decide
  have g3 := hG.1
  have hnb := hG.2.2
  have hlc := hLI.2.2.2
  have cls : Ok (f_Law_bring F cn st 4 bF lc aN aF nN nF fN fF pN pF tN tF lN lF oN out p0 p1 p2) (fun u => (u.1 ≤ 1 ∧ u.2.1 ≤ 6 ∧ u.2.2 = (1, lc, nF, fF, pF, tF, lN, lF, out) ∧ ((¬ (Blk m w h p0 p1 ∧ 0 ≤ p2.toInt ∧ p2.toInt ≤ 164)) ∨ (∃ i k : Nat, i < m ∧ k < w i * h i ∧ p0.toInt = i ∧ p1.toInt = k ∧ (0 ≤ p2.toInt ∧ p2.toInt ≤ 164) ∧ (200 < (aF (bbase w h i + k)).toInt + p2.toInt ∨ ((aF (bbase w h i + k)).toInt + p2.toInt ≤ 200 ∧ 4096 < lc.toInt - (pF (bbase w h i + k)).toInt + pcs st (aF (bbase w h i + k)).toInt.toNat p2.toInt.toNat))))) ∨
      (∃ (i k : Nat) (pv : Int32), i < m ∧ k < w i * h i ∧ p0.toInt = i ∧ p1.toInt = k ∧ (0 ≤ p2.toInt ∧ p2.toInt ≤ 164) ∧ (aF (bbase w h i + k)).toInt + p2.toInt ≤ 200 ∧ lc.toInt - (pF (bbase w h i + k)).toInt + pcs st (aF (bbase w h i + k)).toInt.toNat p2.toInt.toNat ≤ 4096 ∧ pv.toInt = pcs st (aF (bbase w h i + k)).toInt.toNat p2.toInt.toNat ∧ u.2.2.1 = 0 ∧ u.2.2.2.2.2.2.2.2.2.2 (0 : Int32).toNatClampNeg = pv.toInt64 ∧ u.2.2.2.2.1 = upd nF (bbase w h i + k) p2 ∧ u.2.2.2.2.2.2.1 = upd pF (bbase w h i + k) pv ∧ u.2.2.2.2.2.2.2.1 = upd tF (bbase w h i + k) 0 ∧ LI (bbase w h m) u.2.2.2.1.toInt u.2.2.2.2.2.1 u.2.2.2.2.2.2.1 ∧ (∀ o, o < bbase w h m → ¬ o = bbase w h i + k → ∀ j, j < (pF o).toInt.toNat → u.2.2.2.2.2.2.2.2.2.1 ((u.2.2.2.2.2.1 o).toInt.toNat + j) = lF ((fF o).toInt.toNat + j)) ∧ 16 * u.1 + lN ≤ u.2.2.2.2.2.2.2.2.1 ∧ u.2.1 + 2 * lN ≤ 2 * u.2.2.2.2.2.2.2.2.1 ∧ u.2.2.2.1.toInt ≤ u.2.2.2.2.2.2.2.2.1 ∧ u.2.2.2.2.2.2.2.2.1 ≤ 8192)) := by
    simp only [f_Law_bring]
    refine ok_bm (Q := fun u6 => (u6 = (1, 6, 1, 0, lc, nF, fF, pF, tF, lN, lF) ∧ ((¬ (Blk m w h p0 p1 ∧ 0 ≤ p2.toInt ∧ p2.toInt ≤ 164)) ∨ (∃ i k : Nat, i < m ∧ k < w i * h i ∧ p0.toInt = i ∧ p1.toInt = k ∧ (0 ≤ p2.toInt ∧ p2.toInt ≤ 164) ∧ (200 < (aF (bbase w h i + k)).toInt + p2.toInt ∨ ((aF (bbase w h i + k)).toInt + p2.toInt ≤ 200 ∧ 4096 < lc.toInt - (pF (bbase w h i + k)).toInt + pcs st (aF (bbase w h i + k)).toInt.toNat p2.toInt.toNat))))) ∨
      (∃ (i k : Nat) (pv : Int32), i < m ∧ k < w i * h i ∧ p0.toInt = i ∧ p1.toInt = k ∧ (0 ≤ p2.toInt ∧ p2.toInt ≤ 164) ∧ (aF (bbase w h i + k)).toInt + p2.toInt ≤ 200 ∧ lc.toInt - (pF (bbase w h i + k)).toInt + pcs st (aF (bbase w h i + k)).toInt.toNat p2.toInt.toNat ≤ 4096 ∧ pv.toInt = pcs st (aF (bbase w h i + k)).toInt.toNat p2.toInt.toNat ∧ u6.2.2.1 = 0 ∧ u6.2.2.2.1 = pv ∧ u6.2.2.2.2.2.1 = upd nF (bbase w h i + k) p2 ∧ u6.2.2.2.2.2.2.2.1 = upd pF (bbase w h i + k) pv ∧ u6.2.2.2.2.2.2.2.2.1 = upd tF (bbase w h i + k) 0 ∧ LI (bbase w h m) u6.2.2.2.2.1.toInt u6.2.2.2.2.2.2.1 u6.2.2.2.2.2.2.2.1 ∧ (∀ o, o < bbase w h m → ¬ o = bbase w h i + k → ∀ j, j < (pF o).toInt.toNat → u6.2.2.2.2.2.2.2.2.2.2 ((u6.2.2.2.2.2.2.1 o).toInt.toNat + j) = lF ((fF o).toInt.toNat + j)) ∧ 16 * u6.1 + lN ≤ u6.2.2.2.2.2.2.2.2.2.1 ∧ u6.2.1 + 2 * lN ≤ 2 * u6.2.2.2.2.2.2.2.2.2.1 ∧ u6.2.2.2.2.1.toInt ≤ u6.2.2.2.2.2.2.2.2.2.1 ∧ u6.2.2.2.2.2.2.2.2.2.1 ≤ 8192)) ?_ (fun u6 e6 => ok_c ?_)
    · simp only [f_PH_bring, g_PH_bring_37]
      refine ok_bm (w_find hG hm.1 (fun j hj => (hb j hj).1)) (fun u11 e11 => ok_c ?_)
      rcases e11 with ⟨i, k, hi, hk, h3, h4, h5, h6, h7, h8⟩ | ⟨h1, h2⟩
      · have gw := hG.wh hi
        have eb : u11.2.2.2.toInt.toNat = bbase w h i + k := by omega
        have hb1 := hI (bbase w h i + k) (by omega)
        rw [h5, h6]
        refine ok_neq (fun _ => ?_) (fun c => absurd h7 c)
        refine ok_lt (fun c => ok_s (Or.inl ⟨rfl, Or.inl (by omega)⟩)) (fun c => ?_)
        refine ok_lt (fun c1 => ok_s (Or.inl ⟨rfl, Or.inl (by omega)⟩)) (fun c1 => ?_)
        simp only [clamp_eq, eb]
        refine ok_in (by omega) (ok_v ?_)
        refine ok_add (by omega) (fun x15 e15 => ?_)
        refine ok_le (fun c2 => ?_) (fun c2 => ok_s (Or.inl ⟨rfl, Or.inr ⟨i, k, hi, hk, h3, h4, by omega, Or.inl (by omega)⟩⟩))
        refine ok_bm (w_lay (a := (aF (bbase w h i + k)).toInt.toNat) (n := p2.toInt.toNat) hF ⟨hm.1, by omega⟩ (hb m (Nat.le_refl _)).1 ⟨h8, by omega, by omega, by omega, by omega, by omega, by omega, by omega⟩ (by omega) (by omega) (by omega) hLI ⟨by omega, by omega, by omega⟩) (fun u16 e16 => ok_c ?_)
        rcases e16 with ⟨y1, y2⟩ | ⟨y1, y2, y3, y4, y5, ⟨pv, y6, y6'⟩, y7, y8, y9, y10, y11, y12, y13⟩
        · subst y2
          exact ok_eq (fun _ => ok_s (Or.inl ⟨rfl, Or.inr ⟨i, k, hi, hk, h3, h4, by omega, Or.inr ⟨by omega, y1⟩⟩⟩)) (fun c => absurd rfl c)
        · refine ok_eq (fun c => by omega) (fun _ => ?_)
          refine ok_in (by omega) (ok_v (ok_s (Or.inr ⟨i, k, pv, hi, hk, h3, h4, by omega, by omega, y1, y6, rfl, ?_, y4, y6', y5, y8, y9, ?_, ?_, y12, y13⟩)))
          · dsimp only
            rw [y6', upd_is]
          · (try dsimp only)
            omega
          · (try dsimp only)
            omega
      · subst h2
        exact ok_neq (fun c => by simp at c) (fun _ => ok_s (Or.inl ⟨rfl, Or.inl (fun z => h1 z.1)⟩))
    · rcases e6 with ⟨z1, z2⟩ | ⟨i, k, pv, a1, a2, a3, a4, a5, a6, a7, a8, a9, a10, a11, a12, a13, a14, a15, a16, a17, a18, a19⟩
      · subst z1
        exact ok_neq (fun c => by simp at c) (fun _ => ok_neq (fun _ => ok_s (Or.inl ⟨Nat.le_refl _, Nat.le_refl _, rfl, z2⟩)) (fun c => absurd rfl c))
      · refine ok_neq (fun _ => ?_) (fun c => absurd a9 c)
        refine ok_v (ok_in (by omega) (ok_s (Or.inr ⟨i, k, pv, a1, a2, a3, a4, a5, a6, a7, a8, rfl, ?_, a11, a12, a13, a14, a15, ?_, ?_, a18, a19⟩)))
        · rw [a10]; exact out_is out _
        · (try dsimp only)
          omega
        · (try dsimp only)
          omega
  have ref : Ok (f_Mo_bring F th st bds P 3 wiF 3 hiF 4 beF 2048 cF 2048 brF 8200 oF 8200 LeF 2048 toF p0 p1 p2) (fun v => (v = (0, 1, P, brF, oF, LeF, toF) ∧ ((¬ (Blk m w h p0 p1 ∧ 0 ≤ p2.toInt ∧ p2.toInt ≤ 164)) ∨ (∃ i k : Nat, i < m ∧ k < w i * h i ∧ p0.toInt = i ∧ p1.toInt = k ∧ (0 ≤ p2.toInt ∧ p2.toInt ≤ 164) ∧ (200 < (aF (bbase w h i + k)).toInt + p2.toInt ∨ ((aF (bbase w h i + k)).toInt + p2.toInt ≤ 200 ∧ 4096 < lc.toInt - (pF (bbase w h i + k)).toInt + pcs st (aF (bbase w h i + k)).toInt.toNat p2.toInt.toNat))))) ∨
      (∃ (i k : Nat), i < m ∧ k < w i * h i ∧ p0.toInt = i ∧ p1.toInt = k ∧ (0 ≤ p2.toInt ∧ p2.toInt ≤ 164) ∧ (aF (bbase w h i + k)).toInt + p2.toInt ≤ 200 ∧ lc.toInt - (pF (bbase w h i + k)).toInt + pcs st (aF (bbase w h i + k)).toInt.toNat p2.toInt.toNat ≤ 4096 ∧ v.1.toInt = pcs st (aF (bbase w h i + k)).toInt.toNat p2.toInt.toNat ∧ v.2.1 = 0 ∧ v.2.2.2.1 = upd brF (bbase w h i + k) p2 ∧ 0 ≤ v.2.2.1.toInt ∧ Kept ((bbase w h i + k : Nat) : Int) (((bbase w h i + k : Nat) : Int) + 1) oF LeF P.toInt.toNat v.2.2.2.2.1 v.2.2.2.2.2.1 v.2.2.1.toInt.toNat ∧ ∀ j : Nat, v.2.2.2.2.2.2 j = if j = bbase w h i + k then 0 else toF j)) := by
    simp only [f_Mo_bring, g_Mo_bring_20]
    refine ok_bm (w_isBlock hG hm.2 hwi) (fun u29 e29 => ?_)
    have ebd : bds.toInt.toNat = m := by omega
    have thr : ∀ v5 : Int32, Ok (g_Mo_bring_152 F st 2048 cF 2048 8200 8200 2048 brF oF LeF toF th P p2 v5 1) (fun v => v = (0, 1, P, brF, oF, LeF, toF)) := by
      intro v5
      simp only [g_Mo_bring_152]
      refine ok_bm w_Mo_throwing (fun u16 e16 => ?_)
      refine ok_eq (fun d => by omega) (fun _ => ok_s ?_)
      rw [show u16.2 = 1 from ti_ofI (by omega)]
    have bad71 : ∀ v5 : Int32, Ok (g_Mo_bring_71 F st bds 4 beF 2048 cF 2048 8200 8200 2048 brF oF LeF toF th P p2 v5 1) (fun v => v = (0, 1, P, brF, oF, LeF, toF)) := by
      intro v5
      obtain ⟨F', hF'⟩ : ∃ y, F = y + 1 := ⟨F - 1, by omega⟩
      simp only [g_Mo_bring_71]
      have step : ∀ FF, FF = F' + 1 → Ok (f_Mo_bring_79 F st bds 4 beF 2048 cF 2048 8200 8200 2048 FF brF oF LeF toF th P p2 1 v5 0 0) (fun v => v = (0, 1, P, brF, oF, LeF, toF)) := by
        intro FF hFF
        subst hFF
        simp only [f_Mo_bring_79, g_Mo_bring_79, g_Mo_bring_133, g_Mo_bring_147]
        refine ok_in (by omega) (ok_v ?_)
        refine ok_le (fun _ => ok_eq (fun c => by omega) (fun _ => thr v5)) (fun _ => ok_eq (fun c => by omega) (fun _ => ok_eq (fun c => by omega) (fun _ => thr v5)))
      exact step F hF'
    have bad : Ok (g_Mo_bring_25 F st bds 4 beF 2048 cF 2048 8200 8200 2048 brF oF LeF toF th P p0 p1 p2 1) (fun v => v = (0, 1, P, brF, oF, LeF, toF)) := by
      simp only [g_Mo_bring_25, g_Mo_bring_44, g_Mo_bring_66]
      refine ok_eq (fun c => by omega) (fun _ => ?_)
      exact ok_eq (fun c => by omega) (fun _ => bad71 0)
    refine ok_eq (fun c => ?_) (fun c => ?_)
    · refine ok_m bad (fun v hv => Or.inl ⟨hv, Or.inl (fun z => ?_)⟩)
      rcases e29 with ⟨_, q⟩ | ⟨q, _⟩
      · omega
      · exact q z.1
    refine ok_bm w_Mo_out (fun u30 e30 => ?_)
    refine ok_eq (fun c1 => ?_) (fun c1 => ok_m bad (fun v hv => Or.inl ⟨hv, Or.inl (fun z => by omega)⟩))
    obtain ⟨i, k, hi, hk, h3, h4⟩ : Blk m w h p0 p1 := by
      rcases e29 with ⟨q, _⟩ | ⟨_, q⟩
      · exact q
      · omega
    have gw := hG.wh hi
    have hbi := (hb i (by omega)).2
    have hb1 := hI (bbase w h i + k) (by omega)
    have hc1 : (cF (bbase w h i + k)).toInt = (aF (bbase w h i + k)).toInt := by rw [hb1.1]
    simp only [g_Mo_bring_25, g_Mo_bring_44, g_Mo_bring_66, clamp_eq]
    refine ok_T ?_
    rw [show p0.toInt.toNat = i by omega]
    refine ok_in (by omega) (ok_v ?_)
    refine ok_add (by omega) (fun x28 e28 => ?_)
    have ex : x28.toInt.toNat = bbase w h i + k := by omega
    refine ok_T ?_
    rw [ex]
    refine ok_in (by omega) (ok_v ?_)
    refine ok_add (by omega) (fun x26 e26 => ?_)
    refine ok_le (fun c2 => ?_) (fun c2 => ok_m (bad71 x28) (fun v hv => Or.inl ⟨hv, Or.inr ⟨i, k, hi, hk, h3, h4, by omega, Or.inl (by omega)⟩⟩))
    simp only [g_Mo_bring_71]
    have hpl := pcs_le st p2.toInt.toNat (aF (bbase w h i + k)).toInt.toNat
    obtain ⟨pv, hpv⟩ : ∃ pv : Int32, pv.toInt = pcs st (aF (bbase w h i + k)).toInt.toNat p2.toInt.toNat := ⟨nI (pcs st (aF (bbase w h i + k)).toInt.toNat p2.toInt.toNat), nI_toInt (by omega)⟩
    have hpos : ∀ x, x < bbase w h m → 0 ≤ ((upd pF (bbase w h i + k) pv) x).toInt := by
      intro x hx
      by_cases q : x = bbase w h i + k
      · rw [q, upd_is]; omega
      · rw [upd_no q]; exact (hLI.1 x hx).1
    have htot := sumI_upd (f := pF) (x := bbase w h i + k) (v := pv) (n := bbase w h m) (by omega)
    rw [hLI.2.2.1] at htot
    have fin : ∀ v6 : Int32, v6.toInt = lc.toInt - (pF (bbase w h i + k)).toInt + pcs st (aF (bbase w h i + k)).toInt.toNat p2.toInt.toNat → Ok (g_Mo_bring_133 F st 2048 cF 2048 8200 8200 2048 brF oF LeF toF th P p2 0 x28 v6) (fun v => (v = (0, 1, P, brF, oF, LeF, toF) ∧ ((¬ (Blk m w h p0 p1 ∧ 0 ≤ p2.toInt ∧ p2.toInt ≤ 164)) ∨ (∃ i k : Nat, i < m ∧ k < w i * h i ∧ p0.toInt = i ∧ p1.toInt = k ∧ (0 ≤ p2.toInt ∧ p2.toInt ≤ 164) ∧ (200 < (aF (bbase w h i + k)).toInt + p2.toInt ∨ ((aF (bbase w h i + k)).toInt + p2.toInt ≤ 200 ∧ 4096 < lc.toInt - (pF (bbase w h i + k)).toInt + pcs st (aF (bbase w h i + k)).toInt.toNat p2.toInt.toNat))))) ∨
      (∃ (i k : Nat), i < m ∧ k < w i * h i ∧ p0.toInt = i ∧ p1.toInt = k ∧ (0 ≤ p2.toInt ∧ p2.toInt ≤ 164) ∧ (aF (bbase w h i + k)).toInt + p2.toInt ≤ 200 ∧ lc.toInt - (pF (bbase w h i + k)).toInt + pcs st (aF (bbase w h i + k)).toInt.toNat p2.toInt.toNat ≤ 4096 ∧ v.1.toInt = pcs st (aF (bbase w h i + k)).toInt.toNat p2.toInt.toNat ∧ v.2.1 = 0 ∧ v.2.2.2.1 = upd brF (bbase w h i + k) p2 ∧ 0 ≤ v.2.2.1.toInt ∧ Kept ((bbase w h i + k : Nat) : Int) (((bbase w h i + k : Nat) : Int) + 1) oF LeF P.toInt.toNat v.2.2.2.2.1 v.2.2.2.2.2.1 v.2.2.1.toInt.toNat ∧ ∀ j : Nat, v.2.2.2.2.2.2 j = if j = bbase w h i + k then 0 else toF j)) := by
      intro v6 hv6
      simp only [g_Mo_bring_133, g_Mo_bring_147]
      refine ok_T ?_
      refine ok_le (fun c3 => ?_) (fun c3 => ok_m (thr x28) (fun v hv => Or.inl ⟨hv, Or.inr ⟨i, k, hi, hk, h3, h4, by omega, Or.inr ⟨by omega, by omega⟩⟩⟩))
      simp only [g_Mo_bring_152, clamp_eq, ex]
      refine ok_bm w_Mo_throwing (fun u16 e16 => ?_)
      refine ok_eq (fun _ => ?_) (fun d => by omega)
      refine ok_in (by omega) ?_
      refine ok_add (by omega) (fun x17 e17 => ?_)
      refine ok_bm (w_Mo_forget hF ⟨hP.1, hP.2, hP.2, by omega⟩ ⟨by omega, by omega, by omega, by omega⟩) (fun u18 e18 => ?_)
      obtain ⟨q1, q2, q3⟩ := e18
      refine ok_bm (w_Mo_pcs hF (by omega) (by rw [ex]; omega)) (fun u19 e19 => ok_s (Or.inr ⟨i, k, hi, hk, h3, h4, by omega, by omega, by omega, ?_, ti_ofI (by (try dsimp only); omega), rfl, q1, ?_, fun j => ?_⟩))
      · rw [ex, hb1.1] at e19
        exact e19
      · rw [show x17.toInt = x28.toInt + 1 by omega, show x28.toInt = ((bbase w h i + k : Nat) : Int) by omega] at q2
        exact q2
      · (try dsimp only)
        rw [q3 j]
        by_cases qj : j = bbase w h i + k
        · rw [if_pos (by omega), if_pos qj]
        · rw [if_neg (by omega), if_neg qj]
    have key : ∀ (n : Nat) (v6 v7 : Int32), 0 ≤ v7.toInt → v7.toInt ≤ bbase w h m → bbase w h m < v7.toInt + n → v6.toInt = sumI (upd pF (bbase w h i + k) pv) v7.toInt.toNat → Ok (f_Mo_bring_79 F st bds 4 beF 2048 cF 2048 8200 8200 2048 n brF oF LeF toF th P p2 0 x28 v6 v7) (fun v => (v = (0, 1, P, brF, oF, LeF, toF) ∧ ((¬ (Blk m w h p0 p1 ∧ 0 ≤ p2.toInt ∧ p2.toInt ≤ 164)) ∨ (∃ i k : Nat, i < m ∧ k < w i * h i ∧ p0.toInt = i ∧ p1.toInt = k ∧ (0 ≤ p2.toInt ∧ p2.toInt ≤ 164) ∧ (200 < (aF (bbase w h i + k)).toInt + p2.toInt ∨ ((aF (bbase w h i + k)).toInt + p2.toInt ≤ 200 ∧ 4096 < lc.toInt - (pF (bbase w h i + k)).toInt + pcs st (aF (bbase w h i + k)).toInt.toNat p2.toInt.toNat))))) ∨
      (∃ (i k : Nat), i < m ∧ k < w i * h i ∧ p0.toInt = i ∧ p1.toInt = k ∧ (0 ≤ p2.toInt ∧ p2.toInt ≤ 164) ∧ (aF (bbase w h i + k)).toInt + p2.toInt ≤ 200 ∧ lc.toInt - (pF (bbase w h i + k)).toInt + pcs st (aF (bbase w h i + k)).toInt.toNat p2.toInt.toNat ≤ 4096 ∧ v.1.toInt = pcs st (aF (bbase w h i + k)).toInt.toNat p2.toInt.toNat ∧ v.2.1 = 0 ∧ v.2.2.2.1 = upd brF (bbase w h i + k) p2 ∧ 0 ≤ v.2.2.1.toInt ∧ Kept ((bbase w h i + k : Nat) : Int) (((bbase w h i + k : Nat) : Int) + 1) oF LeF P.toInt.toNat v.2.2.2.2.1 v.2.2.2.2.2.1 v.2.2.1.toInt.toNat ∧ ∀ j : Nat, v.2.2.2.2.2.2 j = if j = bbase w h i + k then 0 else toF j)) := by
      intro n
      induction n with
      | zero => intro v6 v7 g1 g2 g3; omega
      | succ n ih =>
        intro v6 v7 g1 g2 g3 g4
        have hle := sumI_part (f := upd pF (bbase w h i + k) pv) (b := v7.toInt.toNat) (n := bbase w h m) hpos (by omega)
        have hle0 := sumI_part (f := upd pF (bbase w h i + k) pv) (b := 0) (n := v7.toInt.toNat) (fun x hx => hpos x (by omega)) (Nat.zero_le _)
        rw [show sumI (upd pF (bbase w h i + k) pv) 0 = 0 from rfl] at hle0
        simp only [f_Mo_bring_79, g_Mo_bring_79, clamp_eq, ebd]
        have hbm := (hb m (Nat.le_refl _)).2
        refine ok_in (by omega) (ok_v ?_)
        refine ok_le (fun c3 => ?_) (fun c3 => ?_)
        · refine fin v6 ?_
          rw [show v7.toInt.toNat = bbase w h m by omega] at g4
          omega
        · have hbv := hI v7.toInt.toNat (by omega)
          have hcv : (cF v7.toInt.toNat).toInt = (aF v7.toInt.toNat).toInt := by rw [hbv.1]
          refine ok_T ?_
          have step : ∀ s0 : Int32, 0 ≤ s0.toInt → (aF v7.toInt.toNat).toInt + s0.toInt ≤ 200 → ((upd pF (bbase w h i + k) pv) v7.toInt.toNat).toInt = pcs st (aF v7.toInt.toNat).toInt.toNat s0.toInt.toNat → Ok (g_Mo_bring_121 F (f_Mo_bring_79 F st bds 4 beF 2048 cF 2048 8200 8200 2048 n) st 2048 cF brF oF LeF toF th P p2 0 x28 v7 s0 v7 v6) (fun v => (v = (0, 1, P, brF, oF, LeF, toF) ∧ ((¬ (Blk m w h p0 p1 ∧ 0 ≤ p2.toInt ∧ p2.toInt ≤ 164)) ∨ (∃ i k : Nat, i < m ∧ k < w i * h i ∧ p0.toInt = i ∧ p1.toInt = k ∧ (0 ≤ p2.toInt ∧ p2.toInt ≤ 164) ∧ (200 < (aF (bbase w h i + k)).toInt + p2.toInt ∨ ((aF (bbase w h i + k)).toInt + p2.toInt ≤ 200 ∧ 4096 < lc.toInt - (pF (bbase w h i + k)).toInt + pcs st (aF (bbase w h i + k)).toInt.toNat p2.toInt.toNat))))) ∨
      (∃ (i k : Nat), i < m ∧ k < w i * h i ∧ p0.toInt = i ∧ p1.toInt = k ∧ (0 ≤ p2.toInt ∧ p2.toInt ≤ 164) ∧ (aF (bbase w h i + k)).toInt + p2.toInt ≤ 200 ∧ lc.toInt - (pF (bbase w h i + k)).toInt + pcs st (aF (bbase w h i + k)).toInt.toNat p2.toInt.toNat ≤ 4096 ∧ v.1.toInt = pcs st (aF (bbase w h i + k)).toInt.toNat p2.toInt.toNat ∧ v.2.1 = 0 ∧ v.2.2.2.1 = upd brF (bbase w h i + k) p2 ∧ 0 ≤ v.2.2.1.toInt ∧ Kept ((bbase w h i + k : Nat) : Int) (((bbase w h i + k : Nat) : Int) + 1) oF LeF P.toInt.toNat v.2.2.2.2.1 v.2.2.2.2.2.1 v.2.2.1.toInt.toNat ∧ ∀ j : Nat, v.2.2.2.2.2.2 j = if j = bbase w h i + k then 0 else toF j)) := by
            intro s0 k1 k2 k3
            simp only [g_Mo_bring_121]
            refine ok_bm (w_Mo_pcs hF (by omega) (by omega)) (fun u20 e20 => ?_)
            rw [hbv.1, ← k3] at e20
            have hp1 := hpos v7.toInt.toNat (by omega)
            have hp2 := pcs_le st s0.toInt.toNat (aF v7.toInt.toNat).toInt.toNat
            refine ok_add (by omega) (fun x21 e21 => ?_)
            refine ok_add (by omega) (fun x22 e22 => ?_)
            refine ih x21 x22 (by omega) (by omega) (by omega) ?_
            rw [show x22.toInt.toNat = v7.toInt.toNat + 1 by omega, sumI_s]
            omega
          refine ok_eq (fun c4 => ?_) (fun c4 => ?_)
          · refine step p2 (by omega) ?_ ?_
            · rw [show v7.toInt.toNat = bbase w h i + k by omega]; omega
            · rw [show v7.toInt.toNat = bbase w h i + k by omega, upd_is]; exact hpv
          · refine ok_in (by omega) (ok_v ?_)
            have e1 : brF v7.toInt.toNat = nF v7.toInt.toNat := hbv.2.1
            rw [e1]
            refine step _ (by omega) (by omega) ?_
            rw [upd_no (by omega)]
            exact hbv.2.2.2.2.2.2
    exact key F 0 0 (by omega) (by omega) (by omega) (by rw [L.2.1]; rfl)
  refine ok_m cls (fun u hu => ok_m ref (fun v hv => ?_))
  rcases hu with ⟨n1, n2, a1, a2⟩ | ⟨i, k, pv, a1, a2, a3, a4, a5, a6, a7, a8, a9, a10, a11, a12, a13, a14, a15, a16, a17, a18, a19⟩
  · rcases hv with ⟨b1, _⟩ | ⟨i, k, b1, b2, b3, b4, b5, b6, b7, _⟩
    · subst b1
      have e3 : u.2.2.1 = 1 := by rw [a1]
      try dsimp only
      refine ⟨e3.symm, fun z => absurd (e3.symm.trans z) (by decide), by rw [a1]; (try dsimp only); omega, by rw [a1]; (try dsimp only); omega, Or.inl ⟨by rw [e3]; decide, ?_⟩⟩
      rw [a1]
      try dsimp only
      exact ⟨rfl, rfl, rfl, rfl, rfl, rfl, rfl, rfl, rfl, rfl, rfl, rfl⟩
    · exfalso
      rcases a2 with z | ⟨i', k', c1, c2, c3, c4, c5, c6⟩
      · exact z ⟨⟨i, k, b1, b2, b3, b4⟩, b5⟩
      · have e1 : i' = i := by omega
        have e2 : k' = k := by omega
        subst e1 e2
        omega
  · rcases hv with ⟨_, b2⟩ | ⟨i', k', b1, b2, b3, b4, b5, b6, b7, b8, b9, b10, b11, b12, b13⟩
    · exfalso
      rcases b2 with z | ⟨i', k', c1, c2, c3, c4, c5, c6⟩
      · exact z ⟨⟨i, k, a1, a2, a3, a4⟩, a5⟩
      · have e1 : i' = i := by omega
        have e2 : k' = k := by omega
        subst e1 e2
        omega
    · have e1 : i' = i := by omega
      have e2 : k' = k := by omega
      subst e1 e2
      have hbn : bbase w h i' + k' < bbase w h m := by have := hG.wh a1; omega
      try dsimp only
      exact ⟨by rw [b9, a9], fun _ => by rw [a10, show v.1 = pv from ti_ofI (by omega)], by omega, by omega, Or.inr ⟨a9, bbase w h i' + k', pv, hbn, a5.1, a5.2, a6, a8, a11, a12, a13, a14, a15, a18, a19, by omega, b10, b11, b12, b13⟩⟩
