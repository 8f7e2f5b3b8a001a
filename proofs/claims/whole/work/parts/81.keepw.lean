/-! The writing side, call by call. -/
theorem leaf_lt {m : Nat} {w h : Nat → Nat} (hG : Geo m w h) {i k : Nat} (hi : i < m) (hk : k < w i * h i) : k < allOf (w i) (h i) := by
  have hx := kxy hk
  have := hG.in hi (Nat.zero_le _) (x := k % w i) (y := k / w i) (by rw [hf_0]; exact hx.1) (by rw [hf_0]; exact hx.2.1)
  rw [nd0, hx.2.2.1] at this
  exact this
theorem jw_first {m : Nat} {w h : Nat → Nat} {lw : Nat} {st lc : Int32} {lN : Nat} {wF aF nF fF pF tF lF inu il ik onu ol ok cF WF brF fiF miF toF : Nat → Int32} {P : Int32} {oF LeF LF KF : Nat → Int32} {i k : Nat} {x p2 p3 : Int32} (hG : Geo m w h) (hJ : JW m w h lw st lc lN wF aF nF fF pF tF lF inu il ik onu ol ok cF WF brF fiF miF toF P oF LeF LF KF) (h0 : lw = 0) (hi : i < m) (hk : k < w i * h i) (hp : -1 ≤ p2.toInt ∧ p2.toInt ≤ 254 ∧ 0 ≤ p3.toInt ∧ p3.toInt ≤ 73) (hx : x.toInt = (if p2.toInt = -1 then 1000 else p2.toInt)) :
    JW m w h lw st lc lN wF aF nF fF pF tF lF (upd inu (nbase w h i + k) x) il ik (upd onu (nbase w h i + k) p3) ol ok cF WF brF (upd fiF (bbase w h i + k) p2) (upd miF (bbase w h i + k) p3) toF P oF LeF LF KF := by
  obtain ⟨hLI, hb, hn, ht, hl, hd, hz⟩ := hJ
  have gw := hG.wh hi
  try dsimp only
  refine ⟨hLI, fun b hb' => ?_, fun i' k' hi' hk' => ?_, ⟨ht.1, ht.2.1, ?_⟩, hl, fun b h1 h2 => ?_, hz⟩
  · obtain ⟨c1, c2, c3, c4, c5, c6, c7, c8, c9, c10, c11, c12, c13, c14, c15, c16, c17, c18⟩ := hb b hb'
    by_cases q : b = bbase w h i + k
    · rw [q, upd_is, upd_is, ← q]
      try dsimp only
      exact ⟨c1, c2, c3, c4, c5, c6, c7, c8, c9, c10, c11, c12, c13, hp.1, hp.2.1, hp.2.2.1, hp.2.2.2, by omega⟩
    · rw [upd_no q, upd_no q]
      try dsimp only
      exact ⟨c1, c2, c3, c4, c5, c6, c7, c8, c9, c10, c11, c12, c13, c14, c15, c16, c17, c18⟩
  · by_cases q : i' = i ∧ k' = k
    · obtain ⟨q1, q2⟩ := q
      subst q1; subst q2
      rw [upd_is, upd_is, upd_is, upd_is]
      try dsimp only
      exact ⟨hx, rfl⟩
    · have n1 : ¬ nbase w h i' + k' = nbase w h i + k := fun e => q (node_inj (leaf_lt hG hi' hk') (leaf_lt hG hi hk) e)
      have n2 : ¬ bbase w h i' + k' = bbase w h i + k := fun e => q (block_inj hk' hk e)
      rw [upd_no n1, upd_no n2, upd_no n1, upd_no n2]
      exact hn i' k' hi' hk'
  · rcases ht.2.2 with q | q
    · try dsimp only
      exact Or.inl q
    · omega
  · rw [upd_no (by omega), upd_no (by omega)]
    exact hd b h1 h2
theorem jw_bring {m : Nat} {w h : Nat → Nat} {lw : Nat} {st lc : Int32} {lN : Nat} {wF aF nF fF pF tF lF inu il ik onu ol ok cF WF brF fiF miF toF : Nat → Int32} {P : Int32} {oF LeF LF KF : Nat → Int32} {b : Nat} {p2 pv lc' P' : Int32} {lN' : Nat} {fF' lF' oF' LeF' toF' : Nat → Int32} (hG : Geo m w h) (hJ : JW m w h lw st lc lN wF aF nF fF pF tF lF inu il ik onu ol ok cF WF brF fiF miF toF P oF LeF LF KF) (hV : VL P oF toF) (hbn : b < bbase w h m) (hp : 0 ≤ p2.toInt ∧ p2.toInt ≤ 164 ∧ (aF b).toInt + p2.toInt ≤ 200) (hpv : pv.toInt = pcs st (aF b).toInt.toNat p2.toInt.toNat) (hLI' : LI (bbase w h m) lc'.toInt fF' (upd pF b pv)) (hlN' : lc'.toInt ≤ lN') (hkeep : ∀ o, o < bbase w h m → ¬ o = b → ∀ i, i < (pF o).toInt.toNat → lF' ((fF' o).toInt.toNat + i) = lF ((fF o).toInt.toNat + i)) (hK : Kept2 b ((b : Int) + 1) oF LeF P.toInt.toNat oF' LeF' P'.toInt.toNat) (hto : ∀ j : Nat, toF' j = if j = b then 0 else toF j) :
    JW m w h lw st lc' lN' wF aF (upd nF b p2) fF' (upd pF b pv) (upd tF b 0) lF' inu il ik onu ol ok cF WF (upd brF b p2) fiF miF toF' P' oF' LeF' LF KF := by
  have L := lits
  obtain ⟨hLI, hb, hn, ht, hl, hd, hz⟩ := hJ
  try dsimp only
  refine ⟨⟨hLI', hlN'⟩, fun c hc => ?_, hn, ht, fun p c hp' hc e => ?_, fun c h1 h2 => ?_, hz⟩
  · obtain ⟨c1, c2, c3, c4, c5, c6, c7, c8, c9, c10, c11, c12, c13, c14, c15, c16, c17, c18⟩ := hb c hc
    rw [hto c]
    by_cases q : c = b
    · subst q
      rw [upd_is, upd_is, upd_is, upd_is, if_pos rfl]
      try dsimp only
      exact ⟨c1, rfl, c3, hp.1, hp.2.1, hp.2.2, hpv, rfl, by omega, by omega, c11, c12, c13, c14, c15, c16, c17, c18⟩
    · rw [upd_no q, upd_no q, upd_no q, upd_no q, if_neg q]
      try dsimp only
      exact ⟨c1, c2, c3, c4, c5, c6, c7, c8, c9, c10, c11, c12, c13, c14, c15, c16, c17, c18⟩
  · obtain ⟨k, g1, g2, g3, g4, g5⟩ := hK.1 p (by omega)
    have e2 : (oF k).toInt = (c : Nat) := by rw [← g2]; exact e
    have q : ¬ c = b := by omega
    have o1 := hl k c (by omega) hc e2
    have o2 := cnt_lt (o := oF) g1 e2
    have o3 := hV.2.2 c (by have := hG.2.2; omega)
    obtain ⟨c1, c2, c3, c4, c5, c6, c7, c8, c9, c10, c11, c12, c13, c14, c15, c16, c17, c18⟩ := hb c hc
    rw [c8] at o3
    rw [g3, g5 _ (by omega), hkeep c hc q _ (by omega)]
    exact o1
  · rw [hto c, if_neg (by omega), upd_no (by omega)]
    exact hd c h1 h2
theorem jw_piece {m : Nat} {w h : Nat → Nat} {lw : Nat} {st lc : Int32} {lN : Nat} {wF aF nF fF pF tF lF inu il ik onu ol ok cF WF brF fiF miF toF : Nat → Int32} {P : Int32} {oF LeF LF KF : Nat → Int32} {b : Nat} {p2 x b32 P' : Int32} {toF' : Nat → Int32} (hG : Geo m w h) (hJ : JW m w h lw st lc lN wF aF nF fF pF tF lF inu il ik onu ol ok cF WF brF fiF miF toF P oF LeF LF KF) (hV : VL P oF toF) (hbn : b < bbase w h m) (hlt : (tF b).toInt < (pF b).toInt) (hp : 0 ≤ p2.toInt ∧ p2.toInt ≤ 65535) (hx : x.toInt = (tF b).toInt + 1) (hb32 : b32.toInt = b) (hP : P'.toInt = P.toInt + 1) (ht1 : toF' b = x) (ht2 : ∀ y, ¬ y = b → toF' y = toF y) :
    JW m w h lw st lc lN wF aF nF fF pF (upd tF b x) (upd lF ((fF b).toInt.toNat + (tF b).toInt.toNat) p2) inu il ik onu ol ok cF WF brF fiF miF toF' P' (upd oF P.toInt.toNat b32) (upd LeF P.toInt.toNat p2) LF KF ∧ VL P' (upd oF P.toInt.toNat b32) toF' ∧ LK 1024 2048 oF LeF P.toInt.toNat (upd oF P.toInt.toNat b32) (upd LeF P.toInt.toNat p2) P'.toInt.toNat := by
  have hN := hG.2.2
  obtain ⟨hLI, hb, hn, ht, hl, hd, hz⟩ := hJ
  obtain ⟨v1, v2, v3⟩ := hV
  have cc : ∀ (c : Int) (p : Nat), p ≤ P.toInt.toNat → cnt (upd oF P.toInt.toNat b32) c p = cnt oF c p := fun c p hp' => cnt_congr (fun j hj => upd_no (by omega))
  try dsimp only
  refine ⟨⟨hLI, fun c hc => ?_, hn, ht, fun p c hp' hc e => ?_, fun c h1 h2 => ?_, hz⟩, ⟨by omega, fun p hp' => ?_, fun c hc => ?_⟩, fun p hp' h1 h2 => ?_⟩
  · obtain ⟨c1, c2, c3, c4, c5, c6, c7, c8, c9, c10, c11, c12, c13, c14, c15, c16, c17, c18⟩ := hb c hc
    by_cases q : c = b
    · subst q
      rw [upd_is, ht1]
      try dsimp only
      exact ⟨c1, c2, c3, c4, c5, c6, c7, rfl, by omega, by omega, c11, c12, c13, c14, c15, c16, c17, c18⟩
    · rw [upd_no q, ht2 c q]
      try dsimp only
      exact ⟨c1, c2, c3, c4, c5, c6, c7, c8, c9, c10, c11, c12, c13, c14, c15, c16, c17, c18⟩
  · obtain ⟨b1, b2, b3, b4, b5, b6, b7, b8, b9, b10, _⟩ := hb b hbn
    have l1 := hLI.1.1 b hbn
    have l2 := v3 b (by omega)
    rw [b8] at l2
    by_cases q : p = P.toInt.toNat
    · rw [q, upd_is, cc _ _ (Nat.le_refl _)]
      rw [q, upd_is] at e
      have q2 : c = b := by omega
      subst q2
      rw [show cnt oF (c : Nat) P.toInt.toNat = (tF c).toInt.toNat by omega, upd_is]
      try dsimp only
      exact ⟨rfl, hp.1, hp.2⟩
    · rw [upd_no q, cc _ _ (by omega)]
      rw [upd_no q] at e
      have o1 := hl p c (by omega) hc e
      have o2 := cnt_lt (o := oF) (show p < P.toInt.toNat by omega) e
      obtain ⟨c1, c2, c3, c4, c5, c6, c7, c8, c9, c10, _⟩ := hb c hc
      have o3 := v3 c (by omega)
      rw [c8] at o3
      have l3 := hLI.1.1 c hc
      rw [upd_no]
      · exact o1
      · by_cases q2 : c = b
        · subst q2; omega
        · have l4 := hLI.1.2.1 c b hc hbn q2
          omega
  · have q : ¬ c = b := by omega
    rw [ht2 c q]
    exact hd c h1 h2
  · by_cases q : p = P.toInt.toNat
    · rw [q, upd_is]; omega
    · rw [upd_no q]; exact v2 p (by omega)
  · rw [show P'.toInt.toNat = P.toInt.toNat + 1 by omega, cnt_s, upd_is, cc _ _ (Nat.le_refl _)]
    have l2 := v3 c hc
    by_cases q : c = b
    · subst q
      obtain ⟨b1, b2, b3, b4, b5, b6, b7, b8, b9, b10, _⟩ := hb c hbn
      rw [b8] at l2
      rw [ht1, if_pos hb32]; omega
    · rw [ht2 c q, if_neg (by omega)]; omega
  · by_cases q : p = P.toInt.toNat
    · rw [q, upd_is] at h1; omega
    · try dsimp only
      exact ⟨p, by omega, upd_no q, upd_no q, fun c _ _ => cc _ _ (by omega)⟩
theorem jw_write {m : Nat} {w h : Nat → Nat} {lw : Nat} {st lc : Int32} {lN : Nat} {wF aF nF fF pF tF lF inu il ik onu ol ok cF WF brF fiF miF toF : Nat → Int32} {P : Int32} {oF LeF LF KF : Nat → Int32} {sc : Int32} {sN : Nat} {lyF : Nat → Int32} {nc ns : Nat} {cd sc' lc' ly' g' r' : Int32} {sN' lN' : Nat} {sR' wF' aF' nF' fF' pF' tF' lF' ip' inu' il' ik' op' onu' ol' ok' : Nat → Int32} {out' : Nat → Int64} {bb th' size' P' wr' bg' en' rm' wg' ct' : Int32} {B' fiF' miF' LF' KF' brF' cF' toF' WF' oF' LeF' lyF' : Nat → Int32} (hG : Geo m w h) (hJ : JW m w h lw st lc lN wF aF nF fF pF tF lF inu il ik onu ol ok cF WF brF fiF miF toF P oF LeF LF KF)
    (hO : OKW m w h lw sc sN lN aF nF tF pF inu onu fiF miF LF KF WF cF brF toF P oF LeF lyF (nc, ns, cd, sc', sN', sR', lc', ly', wF', aF', nF', fF', pF', tF', lN', lF', ip', inu', il', ik', op', onu', ol', ok', g', r', out') (bb, th', size', P', wr', bg', en', rm', wg', ct', B', fiF', miF', LF', KF', brF', cF', toF', WF', oF', LeF', lyF')) :
    JW m w h (lw + 1) st lc' lN' wF' aF' nF' fF' pF' tF' lF' inu' il' ik' onu' ol' ok' cF' WF' brF' fiF' miF' toF' P' oF' LeF' LF' KF' := by
  have L := lits
  have hN := hG.2.2
  obtain ⟨hLI, hb, hn, ht, hl, hd, hz⟩ := hJ
  unfold OKW at hO
  dsimp only at hO
  obtain ⟨⟨h255, hr⟩, k1, k2, k3, k4, k5, k6, ⟨k7, k8, k9⟩, k10, ⟨k11, k12, k13⟩, k14, k15, k16, k17, ⟨k18, k19⟩, k20, k21, ⟨k22, k23⟩, k24, k25, k26⟩ := hO
  subst k18; subst k19
  have l0 : lc'.toInt = 0 := by rw [k8]; exact L.2.1
  try dsimp only
  refine ⟨⟨⟨fun b hb' => ?_, fun b b' h1 h2 h3 h4 h5 => ?_, ?_, by omega, by omega⟩, by omega⟩, fun b hb' => ?_, fun i k hi hk => ?_, ⟨⟨k14.1, k14.2.1, k14.2.2.1⟩, ⟨k15.1, k15.2.1, k15.2.2.1⟩, Or.inr ⟨by omega, k11, k12, k14.2.2.2, k15.2.2.2⟩⟩, fun p b hp hb' e => ?_, fun b h1 h2 => ?_, fun e => by omega⟩
  · obtain ⟨d1, d2, d3, d4, d5, d6, d7, d8⟩ := k10 b hb'
    rw [d7, d6, L.2.1]
    omega
  · obtain ⟨d1, d2, d3, d4, d5, d6, d7, d8⟩ := k10 b h1
    rw [d7, L.2.1] at h4
    omega
  · rw [l0]
    exact sumI_0 (fun b hb' => by obtain ⟨d1, d2, d3, d4, d5, d6, d7, d8⟩ := k10 b hb'; rw [d7]; exact L.2.1)
  · obtain ⟨d1, d2, d3, d4, d5, d6, d7, d8⟩ := k10 b hb'
    obtain ⟨c1, c2, c3, c4, c5, c6, c7, c8, c9, c10, c11, c12, c13, c14, c15, c16, c17, c18⟩ := hb b hb'
    obtain ⟨e1, e2⟩ := k20 b (by omega)
    obtain ⟨r1, r2, r3⟩ := hr b hb'
    rw [c1, c2] at e1
    have e3 : toF' b = 0 := by rw [k24 b, if_pos (by omega)]
    rw [e2, d5, e3, d8, d7, L.2.1]
    try dsimp only
    exact ⟨ti_ofI (by omega), rfl, by omega, by omega, by omega, by omega, rfl, rfl, by omega, by omega, d1, d2, d3, c14, c15, c16, c17, by omega⟩
  · obtain ⟨d1, d2⟩ := k13 i k hi hk
    rw [d1, d2]
    exact hn i k hi hk
  · obtain ⟨k, g1, g2, g3, g4, g5⟩ := k23.2.1 p (by omega)
    rw [g2] at e
    omega
  · obtain ⟨e1, e2⟩ := k20 b (by omega)
    have e3 : toF' b = 0 := by rw [k24 b, if_pos (by omega)]
    have e4 := hd b h1 h2
    rw [e2, e3, k17 b h1]
    omega
