/-! A band more, a new precinct; the reading side. -/
theorem sumI_ext {f : Nat → Int32} {n : Nat} : ∀ {d : Nat}, (∀ x, n ≤ x → x < n + d → (f x).toInt = 0) → sumI f (n + d) = sumI f n := by
  intro d
  induction d with
  | zero => intro _; rfl
  | succ d ih =>
    intro hx
    rw [show n + (d + 1) = n + d + 1 by omega, sumI_s, ih (fun x h1 h2 => hx x h1 (by omega)), hx (n + d) (by omega) (by omega)]
    omega
theorem li_ext {nb nb' : Nat} {lc : Int} {fF pF fF' pF' : Nat → Int32} (hLI : LI nb lc fF pF) (hn : nb ≤ nb') (h1 : ∀ b, b < nb → fF' b = fF b ∧ pF' b = pF b) (h2 : ∀ b, nb ≤ b → b < nb' → fF' b = 0 ∧ pF' b = 0) : LI nb' lc fF' pF' := by
  have L := lits
  obtain ⟨l1, l2, l3, l4, l5⟩ := hLI
  have hlt : ∀ b, b < nb' → 0 < (pF' b).toInt → b < nb := by
    intro b hb hp
    by_cases q : b < nb
    · exact q
    · have := (h2 b (by omega) hb).2
      rw [this, L.2.1] at hp
      omega
  try dsimp only
  refine ⟨fun b hb => ?_, fun b b' hb hb' hne p1 p2 => ?_, ?_, l4, l5⟩
  · by_cases q : b < nb
    · rw [(h1 b q).1, (h1 b q).2]; exact l1 b q
    · rw [(h2 b (by omega) hb).1, (h2 b (by omega) hb).2, L.2.1]; omega
  · have q1 := hlt b hb p1
    have q2 := hlt b' hb' p2
    rw [(h1 b q1).1, (h1 b q1).2, (h1 b' q2).1, (h1 b' q2).2]
    rw [(h1 b q1).2] at p1
    rw [(h1 b' q2).2] at p2
    exact l2 b b' q1 q2 hne p1 p2
  · rw [show nb' = nb + (nb' - nb) by omega, sumI_ext (fun x g1 g2 => by rw [(h2 x g1 (by omega)).2]; exact L.2.1), sumI_congr (fun x hx => (h1 x hx).2)]
    exact l3
theorem jw_band {m : Nat} {w h : Nat → Nat} {lw : Nat} {st lc : Int32} {lN : Nat} {wF aF nF fF pF tF lF inu il ik onu ol ok cF WF brF fiF miF toF : Nat → Int32} {P : Int32} {oF LeF LF KF : Nat → Int32} {W H : Nat} {z1 z2 wN aN nN fN pN tN iN iL iK oN oL oK wN' aN' nN' fN' pN' tN' iN' iL' iK' oN' oL' oK' : Nat} {wF' aF' nF' fF' pF' tF' inu' il' ik' onu' ol' ok' : Nat → Int32} (hG : Geo m w h) (hG' : Geo (m + 1) (ext w m W) (ext h m H)) (hJ : JW m w h lw st lc lN wF aF nF fF pF tF lF inu il ik onu ol ok cF WF brF fiF miF toF P oF LeF LF KF) (hV : VL P oF toF) (h0 : lw = 0) (hQ : QWE (bbase (ext w m W) (ext h m H) (m + 1)) (nbase (ext w m W) (ext h m H) (m + 1)) (bbase w h m) (nbase w h m) wN aN nN fN pN tN wF aF nF fF pF tF iN iL iK oN oL oK inu il ik onu ol ok (z1, z2, wN', wF', aN', aF', nN', nF', fN', fF', pN', pF', tN', tF', iN', inu', iL', il', iK', ik', oN', onu', oL', ol', oK', ok')) :
    JW (m + 1) (ext w m W) (ext h m H) lw st lc lN wF' aF' nF' fF' pF' tF' lF inu' il' ik' onu' ol' ok' cF WF brF fiF miF toF P oF LeF LF KF := by
  have L := lits
  have l1000 : (1000 : Int32).toInt = 1000 := by decide
  obtain ⟨hLI, hb, hn, ht, hl, hd, hz⟩ := hJ
  unfold QWE at hQ
  dsimp only at hQ
  obtain ⟨-, -, -, -, q1, q2, q3, q4⟩ := hQ
  have hN := hG'.2.2
  have bm := bbase_mono (ext w m W) (ext h m H) (show m ≤ m + 1 by omega)
  have bx := bbase_ext (w := w) (h := h) (m := m) (W := W) (H := H)
  have nx := nbase_ext (w := w) (h := h) (m := m) (W := W) (H := H)
  rw [bx m (Nat.le_refl _)] at bm
  have z : ∀ x, x < nbase (ext w m W) (ext h m H) (m + 1) → il' x = 0 ∧ ik' x = 0 ∧ ol' x = 0 ∧ ok' x = 0 := by
    intro x hx
    by_cases q : x < nbase w h m
    · obtain ⟨-, a1, a2, -, a3, a4⟩ := q3 x q
      rcases ht.2.2 with c | c
      · obtain ⟨c1, c2, c3, c4⟩ := c.2 x q
        try dsimp only
        exact ⟨by rw [a1, c1], by rw [a2, c2], by rw [a3, c3], by rw [a4, c4]⟩
      · omega
    · obtain ⟨-, a1, a2, -, a3, a4⟩ := q4 x (by omega) hx
      try dsimp only
      exact ⟨a1, a2, a3, a4⟩
  have hz := hz
  try dsimp only
  refine ⟨⟨li_ext hLI.1 bm (fun b hb' => ⟨(q1 b hb').2.2.2.1, (q1 b hb').2.2.2.2.1⟩) (fun b g1 g2 => ⟨(q2 b g1 g2).2.2.2.1, (q2 b g1 g2).2.2.2.2.1⟩), hLI.2⟩, fun b hb' => ?_, fun i k hi hk => ?_, ⟨⟨fun x hx => ?_, fun x hx => ?_, fun x hx => ?_⟩, ⟨fun x hx => ?_, fun x hx => ?_, fun x hx => ?_⟩, Or.inl ⟨h0, z⟩⟩, fun p b hp hb' e => ?_, fun b g1 g2 => hd b (by omega) g2, hz⟩
  · by_cases q : b < bbase w h m
    · obtain ⟨a1, a2, a3, a4, a5, a6⟩ := q1 b q
      rw [a1, a2, a3, a5, a6]; exact hb b q
    · obtain ⟨a1, a2, a3, a4, a5, a6⟩ := q2 b (by omega) hb'
      obtain ⟨d1, d2, d3, d4, d5, d6⟩ := hd b (by omega) (by omega)
      rw [a1, a2, a3, a5, a6, L.2.1]
      try dsimp only
      exact ⟨ti_ofI (by omega), ti_ofI (by omega), by omega, by omega, by omega, by omega, rfl, ti_ofI (by omega), by omega, by omega, ti_ofI (by omega), by omega, by omega, by omega, by omega, by omega, by omega, by omega⟩
  · by_cases q : i < m
    · rw [ext_no (by omega), ext_no (by omega)] at hk
      have gl := leaf_lt hG q hk
      have gm := nbase_mono w h (show i + 1 ≤ m by omega)
      rw [nbase_s] at gm
      rw [nx i (by omega), bx i (by omega)]
      obtain ⟨a1, -, -, a2, -, -⟩ := q3 (nbase w h i + k) (by omega)
      rw [a1, a2]; exact hn i k q hk
    · have qi : i = m := by omega
      subst qi
      have gl := leaf_lt hG' hi hk
      have gn := nbase_s (ext w i W) (ext h i H) i
      have gb := bbase_s (ext w i W) (ext h i H) i
      rw [nx i (Nat.le_refl _)] at gn ⊢
      rw [bx i (Nat.le_refl _)] at gb ⊢
      obtain ⟨a1, -, -, a2, -, -⟩ := q4 (nbase w h i + k) (by omega) (by omega)
      obtain ⟨d1, d2, d3, d4, d5, d6⟩ := hd (bbase w h i + k) (by omega) (by omega)
      rw [a1, a2, d4, if_pos rfl, d5]
      try dsimp only
      exact ⟨l1000, L.2.1⟩
  · have r := rho_lt hG' 0 hx
    rw [(z x hx).1, (hz h0 _ (by omega)).1]
  · have r := rho_lt hG' 0 hx
    rw [(z x hx).2.1, (hz h0 _ (by omega)).2]
  · rw [(z x hx).1, (z x hx).2.1, L.2.1]; omega
  · have r := rho_lt hG' 6144 hx
    rw [(z x hx).2.2.1, (hz h0 _ (by omega)).1]
  · have r := rho_lt hG' 6144 hx
    rw [(z x hx).2.2.2, (hz h0 _ (by omega)).2]
  · rw [(z x hx).2.2.1, (z x hx).2.2.2, L.2.1]; omega
  · by_cases q : b < bbase w h m
    · rw [(q1 b q).2.2.2.1]; exact hl p b hp q e
    · have d := (hd b (by omega) (by omega)).2.2.2.2.2
      have v := hV.2.2 b (by omega)
      exact absurd e (cnt_no (show cnt oF (b : Nat) P.toInt.toNat = 0 by omega) (by omega))
theorem jr_band {m : Nat} {w h : Nat → Nat} {lr : Nat} {ov lc : Int32} {lN : Nat} {wF aF nF fF pF tF lF inu il ik onu ol ok cF WF brF fiF miF toF : Nat → Int32} {P : Int32} {oF LeF LF KF : Nat → Int32} {W H : Nat} {z1 z2 wN aN nN fN pN tN iN iL iK oN oL oK wN' aN' nN' fN' pN' tN' iN' iL' iK' oN' oL' oK' : Nat} {wF' aF' nF' fF' pF' tF' inu' il' ik' onu' ol' ok' : Nat → Int32} (hG : Geo m w h) (hG' : Geo (m + 1) (ext w m W) (ext h m H)) (hJ : JR m w h lr ov lc lN wF aF nF fF pF lF inu il ik ol ok cF WF brF fiF miF toF P oF LeF LF KF) (hV : VL P oF toF) (h0 : lr = 0) (ho : ov.toInt = 0) (hQ : QWE (bbase (ext w m W) (ext h m H) (m + 1)) (nbase (ext w m W) (ext h m H) (m + 1)) (bbase w h m) (nbase w h m) wN aN nN fN pN tN wF aF nF fF pF tF iN iL iK oN oL oK inu il ik onu ol ok (z1, z2, wN', wF', aN', aF', nN', nF', fN', fF', pN', pF', tN', tF', iN', inu', iL', il', iK', ik', oN', onu', oL', ol', oK', ok')) :
    JR (m + 1) (ext w m W) (ext h m H) lr ov lc lN wF' aF' nF' fF' pF' lF inu' il' ik' ol' ok' cF WF brF fiF miF toF P oF LeF LF KF := by
  have L := lits
  obtain ⟨⟨hI, hc0, h4, hl0, ht, ho1⟩, hd, hz⟩ := hJ
  unfold QWE at hQ
  dsimp only at hQ
  obtain ⟨-, -, -, -, q1, q2, q3, q4⟩ := hQ
  have hN := hG'.2.2
  have bm := bbase_mono (ext w m W) (ext h m H) (show m ≤ m + 1 by omega)
  have bx := bbase_ext (w := w) (h := h) (m := m) (W := W) (H := H)
  have nx := nbase_ext (w := w) (h := h) (m := m) (W := W) (H := H)
  rw [bx m (Nat.le_refl _)] at bm
  obtain ⟨⟨t1, t2, t3, t4, t5, t6, t7⟩, hLI, hlN⟩ := ht ho
  have hz0 := hz h0 ho
  have z : ∀ x, x < nbase (ext w m W) (ext h m H) (m + 1) → il' x = 0 ∧ ik' x = 0 ∧ ol' x = 0 ∧ ok' x = 0 := by
    intro x hx
    by_cases q : x < nbase w h m
    · obtain ⟨-, a1, a2, -, a3, a4⟩ := q3 x q
      have r1 := rho_lt hG 12288 q
      have r2 := rho_lt hG 18432 q
      rw [a1, a2, a3, a4, t1 x q, t2 x q, t4 x q, t5 x q]
      try dsimp only
      exact ⟨(hz0 _ (by omega) (by omega)).1, (hz0 _ (by omega) (by omega)).2, (hz0 _ (by omega) (by omega)).1, (hz0 _ (by omega) (by omega)).2⟩
    · obtain ⟨-, a1, a2, -, a3, a4⟩ := q4 x (by omega) hx
      try dsimp only
      exact ⟨a1, a2, a3, a4⟩
  try dsimp only
  refine ⟨⟨⟨fun b hb => ?_, fun b g1 g2 => by omega, fun b hb => ?_⟩, fun b hb => ?_, fun i k hi hk => ?_, fun p b hp hb e => ?_, fun _ => ⟨⟨fun x hx => ?_, fun x hx => ?_, fun x hx => ?_, fun x hx => ?_, fun x hx => ?_, fun x hx => ?_, t7⟩, li_ext hLI bm (fun b hb' => ⟨(q1 b hb').2.2.2.1, (q1 b hb').2.2.2.2.1⟩) (fun b g1 g2 => ⟨(q2 b g1 g2).2.2.2.1, (q2 b g1 g2).2.2.2.2.1⟩), hlN⟩, fun e => by omega⟩, fun b g1 g2 => hd b (by omega) g2, hz⟩
  · by_cases q : b < bbase w h m
    · rw [(q1 b q).1]; exact hI.1 b q
    · obtain ⟨a1, a2, a3, a4, a5, a6⟩ := q2 b (by omega) hb
      obtain ⟨d1, d2, d3, d4, d5, d6⟩ := hd b (by omega) (by omega)
      rw [a1]
      try dsimp only
      exact ⟨ti_ofI (by omega), by omega, by omega⟩
  · by_cases q : b < bbase w h m
    · obtain ⟨a1, a2, a3, a4, a5, a6⟩ := q1 b q
      rw [a2, a3, a5]; exact hI.2.2 b q
    · obtain ⟨a1, a2, a3, a4, a5, a6⟩ := q2 b (by omega) hb
      obtain ⟨d1, d2, d3, d4, d5, d6⟩ := hd b (by omega) (by omega)
      rw [a2, a3, a5, L.2.1]
      try dsimp only
      exact ⟨by omega, ti_ofI (by omega), by omega, by omega, by omega⟩
  · by_cases q : b < bbase w h m
    · exact hc0 b q
    · obtain ⟨d1, d2, d3, d4, d5, d6⟩ := hd b (by omega) (by omega)
      omega
  · by_cases q : i < m
    · rw [ext_no (by omega), ext_no (by omega)] at hk
      have gl := leaf_lt hG q hk
      have gm := nbase_mono w h (show i + 1 ≤ m by omega)
      rw [nbase_s] at gm
      have gw := hG.wh q
      obtain ⟨a1, -, -, -, a2, -⟩ := q3 (nbase w h i + k) (by omega)
      have := h4 i k q hk
      unfold IR4 at this ⊢
      rw [nx i (by omega), bx i (by omega), a1, a2, (q1 (bbase w h i + k) (by omega)).2.1]; exact this
    · have qi : i = m := by omega
      subst qi
      have gb := bbase_s (ext w i W) (ext h i H) i
      unfold IR4
      rw [bx i (Nat.le_refl _)] at gb ⊢
      obtain ⟨d1, d2, d3, d4, d5, d6⟩ := hd (bbase w h i + k) (by omega) (by omega)
      rw [d4, d5, (q2 (bbase w h i + k) (by omega) (by omega)).2.1, L.2.1]
      try dsimp only
      exact ⟨by omega, fun _ => rfl, fun c => absurd rfl c⟩
  · by_cases q : b < bbase w h m
    · rw [(q1 b q).2.2.2.1]; exact hl0 p b hp q e
    · have d := (hd b (by omega) (by omega)).2.2.2.2.2
      have v := hV.2.2 (1024 + b) (by omega)
      exact absurd e (cnt_no (show cnt oF ((1024 + b : Nat) : Int) P.toInt.toNat = 0 by omega) (by omega))
  · have r := rho_lt hG' 12288 hx
    rw [(z x hx).1, (hz0 _ (by omega) (by omega)).1]
  · have r := rho_lt hG' 12288 hx
    rw [(z x hx).2.1, (hz0 _ (by omega) (by omega)).2]
  · rw [(z x hx).1, (z x hx).2.1, L.2.1]; omega
  · have r := rho_lt hG' 18432 hx
    rw [(z x hx).2.2.1, (hz0 _ (by omega) (by omega)).1]
  · have r := rho_lt hG' 18432 hx
    rw [(z x hx).2.2.2, (hz0 _ (by omega) (by omega)).2]
  · rw [(z x hx).2.2.1, (z x hx).2.2.2, L.2.1]; omega
theorem j_begin {w h : Nat → Nat} {st lc ov rlc P : Int32} {lN rlN : Nat} {wF aF nF fF pF tF lF inu il ik onu ol ok RwF RaF RnF RfF RpF RlF Ri Ril Rik Rol Rok cF WF brF fiF miF toF oF LeF LF KF : Nat → Int32} (hl : lc.toInt = 0 ∧ rlc.toInt = 0) (hz : ∀ x, x < 24576 → LF x = 0 ∧ KF x = 0) (hP : P.toInt = 0) (hc : ∀ j, j < 2048 → cF j = 0 ∧ WF j = 3 ∧ brF j = 0 ∧ fiF j = -1 ∧ miF j = (if j < 1024 then 0 else -1) ∧ toF j = 0) :
    JW 0 w h 0 st lc lN wF aF nF fF pF tF lF inu il ik onu ol ok cF WF brF fiF miF toF P oF LeF LF KF ∧ JR 0 w h 0 ov rlc rlN RwF RaF RnF RfF RpF RlF Ri Ril Rik Rol Rok cF WF brF fiF miF toF P oF LeF LF KF ∧ VL P oF toF := by
  have L := lits
  have b0 : bbase w h 0 = 0 := rfl
  have n0 : nbase w h 0 = 0 := rfl
  try dsimp only
  refine ⟨⟨⟨⟨fun b hb => by omega, fun b b' hb => by omega, ?_, by omega, by omega⟩, by omega⟩, fun b hb => by omega, fun i k hi => by omega, ⟨⟨fun x hx => by omega, fun x hx => by omega, fun x hx => by omega⟩, ⟨fun x hx => by omega, fun x hx => by omega, fun x hx => by omega⟩, Or.inl ⟨rfl, fun x hx => by omega⟩⟩, fun p b hp hb => by omega, fun b g1 g2 => ?_, fun _ x hx => hz x (by omega)⟩, ⟨⟨⟨fun b hb => by omega, fun b g1 g2 => by omega, fun b hb => by omega⟩, fun b hb => by omega, fun i k hi => by omega, fun p b hp hb => by omega, fun _ => ⟨⟨fun x hx => by omega, fun x hx => by omega, fun x hx => by omega, fun x hx => by omega, fun x hx => by omega, fun x hx => by omega, fun x g1 g2 => ?_⟩, ⟨fun b hb => by omega, fun b b' hb => by omega, ?_, by omega, by omega⟩, by omega⟩, fun _ b hb => by omega⟩, fun b g1 g2 => ?_, fun _ _ x g1 g2 => hz x g2⟩, ⟨by omega, fun p hp => by omega, fun b hb => ?_⟩⟩
  · rw [b0, hl.1]; rfl
  · obtain ⟨c1, c2, c3, c4, c5, c6⟩ := hc b (by omega)
    rw [c1, c2, c3, c4, c5, c6, if_pos g2, L.1, L.2.1]
    try dsimp only
    exact ⟨rfl, rfl, L.2.2.2.2.1, rfl, rfl, rfl⟩
  · rw [(hz x g2).2]; exact Or.inl L.2.1
  · rw [b0, hl.2]; rfl
  · obtain ⟨c1, c2, c3, c4, c5, c6⟩ := hc (1024 + b) (by omega)
    rw [c1, c2, c3, c4, c5, c6, if_neg (by omega), L.1, L.2.1]
    try dsimp only
    exact ⟨rfl, rfl, L.2.2.2.2.1, rfl, rfl, rfl⟩
  · rw [(hc b hb).2.2.2.2.2, show P.toInt.toNat = 0 by omega]; exact L.2.1
theorem sumC_mono {o : Nat → Int32} {P P' : Nat} (h : P ≤ P') : ∀ M, sumC o P M ≤ sumC o P' M := by
  intro M
  induction M with
  | zero => exact Nat.le_refl _
  | succ M ih => rw [sumC_s, sumC_s]; have := cnt_le o (M : Nat) h; omega
theorem sumC_one {o : Nat → Int32} {P M b : Nat} (hb : M ≤ b) : ∀ M', b < M' → sumC o P M + cnt o (b : Nat) P ≤ sumC o P M' := by
  have g : ∀ d, sumC o P M ≤ sumC o P (M + d) := by
    intro d
    induction d with
    | zero => exact Nat.le_refl _
    | succ d ih => rw [show M + (d + 1) = M + d + 1 by omega, sumC_s]; omega
  intro M'
  induction M' with
  | zero => intro h; omega
  | succ M' ih =>
    intro h
    rw [sumC_s]
    by_cases q : b = M'
    · have := g (M' - M)
      rw [show M + (M' - M) = M' by omega] at this
      rw [q]; omega
    · have := ih (by omega)
      omega
theorem sumC_at {o : Nat → Int32} {P n : Nat} {g : Nat → Int32} (hg : ∀ b, b < n → (g b).toInt = cnt o ((1024 + b : Nat) : Int) P) : ∀ k, k ≤ n → (sumC o P (1024 + k) : Int) = sumC o P 1024 + sumI g k := by
  intro k
  induction k with
  | zero => intro _; show (sumC o P 1024 : Int) = _ + 0; omega
  | succ k ih => intro hk; rw [show 1024 + (k + 1) = 1024 + k + 1 by omega, sumC_s, sumI_s]; have := ih (by omega); have := hg k (by omega); omega
theorem jr_good {m : Nat} {w h : Nat → Nat} {lr : Nat} {ov lc : Int32} {lN : Nat} {wF aF nF fF pF tF lF inu il ik onu ol ok cF WF brF fiF miF toF : Nat → Int32} {P : Int32} {oF LeF LF KF : Nat → Int32} {ov2 : Int32} {iN iL iK oN oL oK : Nat} {size : Int32} {B lyF : Nat → Int32} {nc ns : Nat} {cd ov' lc' ly' a1 a2 a3 a4 a5 a6 : Int32} {lN' iN' iL' iK' oN' oL' oK' : Nat} {wF' aF' nF' fF' pF' tF' lF' ip' inu' il' ik' op' onu' ol' ok' : Nat → Int32} {out' : Nat → Int64} {bb th' size' P' ov2' wr' bg' en' rm' wg' ct' : Int32} {B' fiF' miF' LF' KF' brF' cF' toF' WF' oF' LeF' lyF' : Nat → Int32} (hG : Geo m w h) (hJ : JR m w h lr ov lc lN wF aF nF fF pF lF inu il ik ol ok cF WF brF fiF miF toF P oF LeF LF KF) (hV : VL P oF toF) (ho : ov.toInt = 0)
    (hO : GOODR m w h (bbase w h m) lr lN ov ov2 iN iL iK oN oL oK size P B cF brF oF LeF toF fiF miF WF LF KF lyF (nc, ns, cd, ov', lc', ly', wF', aF', nF', fF', pF', tF', lN', lF', ip', iN', inu', iL', il', iK', ik', op', oN', onu', oL', ol', oK', ok', a1, a2, a3, a4, a5, a6, out') (bb, th', size', P', ov2', wr', bg', en', rm', wg', ct', B', fiF', miF', LF', KF', brF', cF', toF', WF', oF', LeF', lyF')) :
    JR m w h (lr + 1) ov' lc' lN' wF' aF' nF' fF' pF' lF' inu' il' ik' ol' ok' cF' WF' brF' fiF' miF' toF' P' oF' LeF' LF' KF' ∧ VL P' oF' toF' ∧ (∀ j, j < 1024 → cF' j = cF j ∧ WF' j = WF j ∧ brF' j = brF j ∧ fiF' j = fiF j ∧ miF' j = miF j ∧ toF' j = toF j) ∧ LK 0 1024 oF LeF P.toInt.toNat oF' LeF' P'.toInt.toNat ∧ (∀ x, x < 12288 → LF' x = LF x ∧ KF' x = KF x) ∧ (16 ≤ lN' ∧ lN' ≤ 8192) := by
  have L := lits
  have hN := hG.2.2
  obtain ⟨⟨hI, hc0, h4, hl0, ht, ho1⟩, hd, hz⟩ := hJ
  obtain ⟨v1, v2, v3⟩ := hV
  unfold GOODR at hO
  dsimp only at hO
  obtain ⟨P0, o1, Le1, br1, c1, to1, g1, g2, g2b, g3, g4, g5, g6, g7, g8, ⟨g9, g10, g11, g12, g13⟩, -, ⟨g14, g15, g16⟩, g17, g18, g19, g20, ⟨⟨l1, l2, l3, l4, l5, l6⟩, l7, l8⟩, ⟨f1, f2, f3, f4, f5⟩⟩ := hO
  subst g16
  have low : ∀ p, p < P0 → ¬ (1024 ≤ (oF' p).toInt ∧ (oF' p).toInt < 2048) ∧ 0 ≤ (oF' p).toInt ∧ (oF' p).toInt < 2048 := by
    intro p hp
    obtain ⟨k, k1, k2, k3, k4, k5⟩ := g3.2.1 p hp
    rw [(f3 p hp).1, k2]
    try dsimp only
    exact ⟨k4, v2 k (by omega)⟩
  try dsimp only
  refine ⟨⟨⟨g17, g18, g19, fun p b hp hb e => ?_, fun _ => ⟨?_, l1, l2⟩, fun e => by rw [g9] at e; omega⟩, fun b h1 h2 => ?_, fun e => by omega⟩, ⟨by omega, fun p hp => ?_, fun b hb => ?_⟩, fun j hj => ?_, fun p hp h1 h2 => ?_, f5, l3, l4⟩
  · by_cases q : p < P0
    · have := low p q
      omega
    · exact l7 p b (by omega) hp hb e
  · obtain ⟨t1, t2, t3, t4, t5, t6, t7⟩ := g20
    try dsimp only
    exact ⟨t1, t2, fun x hx => by have := t3 x hx; omega, t4, t5, t6, t7⟩
  · obtain ⟨c1', c2, c3, c4, c5⟩ := f1 (1024 + b) (Or.inr (by omega))
    obtain ⟨d1, d2, d3, d4, d5, d6⟩ := hd b h1 h2
    obtain ⟨e1, e2⟩ := g2b (1024 + b) (by omega) (by omega)
    rw [c1', c2, c3, c4, c5, e2, g4 (1024 + b), if_pos (by omega), L.2.1]
    omega
  · by_cases q : p < P0
    · exact (low p q).2
    · have := f4 p (by omega) hp
      omega
  · by_cases q : 1024 ≤ b
    · by_cases q2 : b - 1024 < bbase w h m
      · have := l8 (b - 1024) q2
        rw [show 1024 + (b - 1024) = b by omega] at this
        exact this
      · obtain ⟨c1', c2, c3, c4, c5⟩ := f1 b (Or.inr (by omega))
        rw [c4, g4 b, if_pos (by omega), L.2.1]
        have s1 := sumC_all (o := oF') (P := P'.toInt.toNat) (M := 2048) (fun p hp => by
          by_cases q : p < P0
          · exact (low p q).2
          · have := f4 p (by omega) (by omega)
            omega)
        have s2 := sumC_all (o := oF') (P := P0) (M := 1024) (fun p hp => by have := low p hp; omega)
        have s3 := sumC_mono (o := oF') (show P0 ≤ P'.toInt.toNat by omega) 1024
        have s4 := sumC_at (o := oF') (P := P'.toInt.toNat) (g := pF') (n := bbase w h m) (fun c hc => by have u1 := (g17.2.2 c hc).2.2.1; have u2 := l8 c hc; omega) _ (Nat.le_refl _)
        have s5 := sumC_one (o := oF') (P := P'.toInt.toNat) (M := 1024 + bbase w h m) (b := b) (by omega) 2048 hb
        have s6 := l1.2.2.1
        omega
    · obtain ⟨c1', c2, c3, c4, c5⟩ := f1 b (Or.inl (by omega))
      rw [c4, g4 b, if_neg (by omega), v3 b hb, ← g3.2.2 (b : Nat) (by omega)]
      have s1 : cnt oF' (b : Nat) P'.toInt.toNat = cnt oF' (b : Nat) P0 := by
        rw [show P'.toInt.toNat = P0 + (P'.toInt.toNat - P0) by omega]
        exact cnt_skip (fun j h1 h2 e => by have := f4 j h1 (by omega); omega)
      rw [s1, cnt_congr (fun j hj => (f3 j hj).1)]
  · obtain ⟨c1', c2, c3, c4, c5⟩ := f1 j (Or.inl hj)
    rw [c1', c2, c3, c4, c5, (g2 j (Or.inl hj)).1, (g2 j (Or.inl hj)).2, g4 j, if_neg (by omega)]
    try dsimp only
    exact ⟨rfl, rfl, rfl, rfl, rfl, rfl⟩
  · have q : p < P0 := by
      by_cases q : p < P0
      · exact q
      · have := f4 p (by omega) (by omega)
        omega
    obtain ⟨k, k1, k2, k3, k4, k5⟩ := g3.2.1 p q
    try dsimp only
    refine ⟨k, k1, by rw [(f3 p q).1, k2], by rw [(f3 p q).2, k3], fun b h3 h4 => ?_⟩
    rw [← k5 b (by omega)]
    exact cnt_congr (fun j hj => (f3 j (by omega)).1)
theorem jr_bad {m : Nat} {w h : Nat → Nat} {lr : Nat} {ov lc : Int32} {lN : Nat} {wF aF nF fF pF tF lF inu il ik onu ol ok cF WF brF fiF miF toF : Nat → Int32} {P : Int32} {oF LeF LF KF : Nat → Int32} {nn : Nat} {ly : Int32} {iN iL iK oN oL oK : Nat} {size : Int32} {B lyF : Nat → Int32} {nc ns : Nat} {cd ov' lc' ly' a1 a2 a3 a4 a5 a6 : Int32} {lN' iN' iL' iK' oN' oL' oK' : Nat} {wF' aF' nF' fF' pF' tF' lF' ip' inu' il' ik' op' onu' ol' ok' : Nat → Int32} {out' : Nat → Int64} {bb th' size' P' ov2' wr' bg' en' rm' wg' ct' : Int32} {B' fiF' miF' LF' KF' brF' cF' toF' WF' oF' LeF' lyF' : Nat → Int32} (hG : Geo m w h) (hJ : JR m w h lr ov lc lN wF aF nF fF pF lF inu il ik ol ok cF WF brF fiF miF toF P oF LeF LF KF) (hV : VL P oF toF)
    (hO : BADR (bbase w h m) nn lN ly iN iL iK oN oL oK size P B cF brF oF LeF toF fiF miF WF LF KF lyF (nc, ns, cd, ov', lc', ly', wF', aF', nF', fF', pF', tF', lN', lF', ip', iN', inu', iL', il', iK', ik', op', oN', onu', oL', ol', oK', ok', a1, a2, a3, a4, a5, a6, out') (bb, th', size', P', ov2', wr', bg', en', rm', wg', ct', B', fiF', miF', LF', KF', brF', cF', toF', WF', oF', LeF', lyF')) :
    JR m w h lr ov' lc' lN' wF' aF' nF' fF' pF' lF' inu' il' ik' ol' ok' cF' WF' brF' fiF' miF' toF' P' oF' LeF' LF' KF' ∧ VL P' oF' toF' ∧ (∀ j, j < 1024 → cF' j = cF j ∧ WF' j = WF j ∧ brF' j = brF j ∧ fiF' j = fiF j ∧ miF' j = miF j ∧ toF' j = toF j) ∧ LK 0 1024 oF LeF P.toInt.toNat oF' LeF' P'.toInt.toNat ∧ (∀ x, x < 12288 → LF' x = LF x ∧ KF' x = KF x) := by
  have L := lits
  have hN := hG.2.2
  unfold BADR at hO
  dsimp only at hO
  obtain ⟨g1, g2, g3, g4, g5, g6, g7, g8, g9, g10, g11, g12, g13, g14, g15, g16, g17, g18⟩ := hO
  have o1 : ov'.toInt = 1 := by rw [g3]; exact L.2.2.1
  try dsimp only
  refine ⟨⟨⟨⟨fun b hb => ?_, fun b h1 h2 => by omega, fun b hb => ?_⟩, fun b hb => ?_, fun i k hi hk => ?_, fun p b hp hb e => ?_, fun e => by omega, fun _ b hb => ?_⟩, fun b h1 h2 => ?_, fun _ e => by omega⟩, vl_kept hV g17 g16 (fun j hj => ?_), fun j hj => ?_, lk_kept g17 (Or.inr (Int.le_refl _)), g18⟩
  · obtain ⟨c1, c2, c3, c4, c5, c6⟩ := g12 b hb
    obtain ⟨d1, d2, d3, d4, d5⟩ := g14 (1024 + b) (by omega) (by omega)
    rw [c1, d2, L.2.2.2.2.1]
    try dsimp only
    exact ⟨rfl, by omega, by omega⟩
  · obtain ⟨c1, c2, c3, c4, c5, c6⟩ := g12 b hb
    obtain ⟨d1, d2, d3, d4, d5⟩ := g14 (1024 + b) (by omega) (by omega)
    rw [c2, c3, c5, d1, d3, g15 (1024 + b) (by omega), if_pos (by omega), L.2.1]
    try dsimp only
    exact ⟨rfl, rfl, rfl, by omega, by omega⟩
  · obtain ⟨d1, d2, d3, d4, d5⟩ := g14 (1024 + b) (by omega) (by omega)
    rw [d1, L.2.1]; omega
  · have gw := hG.wh hi
    obtain ⟨c1, c2, c3, c4, c5, c6⟩ := g12 (bbase w h i + k) (by omega)
    obtain ⟨d1, d2, d3, d4, d5⟩ := g14 (1024 + (bbase w h i + k)) (by omega) (by omega)
    unfold IR4
    rw [c2, d4, d5, L.1, L.2.1]
    try dsimp only
    exact ⟨by omega, fun _ => rfl, fun c => absurd rfl c⟩
  · obtain ⟨k, k1, k2, k3, k4, k5⟩ := g17.1 p (by omega)
    rw [k2] at e
    omega
  · obtain ⟨c1, c2, c3, c4, c5, c6⟩ := g12 b hb
    rw [c5]; exact L.2.1
  · obtain ⟨d1, d2, d3, d4, d5⟩ := g14 (1024 + b) (by omega) (by omega)
    rw [d1, d2, d3, d4, d5, g15 (1024 + b) (by omega), if_pos (by omega), L.1, L.2.1]
    try dsimp only
    exact ⟨rfl, rfl, L.2.2.2.2.1, rfl, rfl, rfl⟩
  · rw [g15 j hj]
    by_cases q : 1024 ≤ j
    · rw [if_pos q, if_pos (by omega)]
    · rw [if_neg q, if_neg (by omega)]
  · obtain ⟨c1, c2, c3, c4, c5⟩ := g13 j hj
    rw [c1, c2, c3, c4, c5, g15 j (by omega), if_neg (by omega)]
    try dsimp only
    exact ⟨rfl, rfl, rfl, rfl, rfl, rfl⟩
