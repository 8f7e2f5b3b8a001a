/-! What the calls keep between them. -/
def ZL (lw : Nat) (LF KF : Nat → Int32) : Prop := lw = 0 → ∀ x, x < 12288 → LF x = 0 ∧ KF x = 0
def ZH (lr : Nat) (ov : Int32) (LF KF : Nat → Int32) : Prop := lr = 0 → ov.toInt = 0 → ∀ x, 12288 ≤ x → x < 24576 → LF x = 0 ∧ KF x = 0
def JO (lw lr : Nat) (ov ov2 wly rly : Int32) (lyF : Nat → Int32) : Prop := (ov.toInt = 0 ∨ ov.toInt = 1) ∧ ov2 = ov ∧ (lyF 0 = wly ∧ lyF 1 = rly) ∧ (wly.toInt = lw ∧ lw ≤ 255) ∧ (rly.toInt = lr ∧ lr ≤ 255)
def JW (m : Nat) (w h : Nat → Nat) (lw : Nat) (st lc : Int32) (lN : Nat) (wF aF nF fF pF tF lF inu il ik onu ol ok cF WF brF fiF miF toF : Nat → Int32) (P : Int32) (oF LeF LF KF : Nat → Int32) : Prop :=
  (LI (bbase w h m) lc.toInt fF pF ∧ lc.toInt ≤ lN) ∧ VWb (bbase w h m) lw st wF aF nF pF tF cF WF brF fiF miF toF ∧ VWn m w h inu onu fiF miF ∧ VWt m w h lw inu il ik onu ol ok LF KF ∧ VWl (bbase w h m) fF lF P oF LeF ∧ VWd (bbase w h m) cF WF brF fiF miF toF ∧ ZL lw LF KF
def JR (m : Nat) (w h : Nat → Nat) (lr : Nat) (ov lc : Int32) (lN : Nat) (wF aF nF fF pF lF inu il ik ol ok cF WF brF fiF miF toF : Nat → Int32) (P : Int32) (oF LeF LF KF : Nat → Int32) : Prop :=
  VR m w h (bbase w h m) lr ov lc lN wF aF nF fF pF lF inu il ik ol ok cF WF brF fiF miF toF P oF LeF LF KF ∧ VRd (bbase w h m) cF WF brF fiF miF toF ∧ ZH lr ov LF KF
/-- the pieces of the owners from lo on stay, in their order -/
def LK (lo hi : Int) (o l : Nat → Int32) (p : Nat) (o' l' : Nat → Int32) (p' : Nat) : Prop :=
  ∀ k', k' < p' → lo ≤ (o' k').toInt → (o' k').toInt < hi → ∃ k, k < p ∧ o' k' = o k ∧ l' k' = l k ∧ ∀ b : Int, lo ≤ b → b < hi → cnt o' b k' = cnt o b k
theorem lk_id {lo hi : Int} {o l : Nat → Int32} {p : Nat} : LK lo hi o l p o l p := fun k hk _ _ => ⟨k, hk, rfl, rfl, fun _ _ _ => rfl⟩
theorem lk_kept {lo hi a b : Int} {o l o' l' : Nat → Int32} {p p' : Nat} (h : Kept2 a b o l p o' l' p') (hd : b ≤ lo ∨ hi ≤ a) : LK lo hi o l p o' l' p' := by
  intro k' hk h1 h2
  obtain ⟨k, g1, g2, g3, g4, g5⟩ := h.1 k' hk
  try dsimp only
  exact ⟨k, g1, g2, g3, fun c h3 h4 => g5 c (by omega)⟩
theorem kept_2 {a b : Int} {o l o' l' : Nat → Int32} {p p' : Nat} (h : Kept a b o l p o' l' p') : Kept2 a b o l p o' l' p' := ⟨h.2.1, h.2.2⟩
theorem cnt_lt {o : Nat → Int32} {b : Int} {k p : Nat} (h : k < p) (e : (o k).toInt = b) : cnt o b k < cnt o b p := by
  have h1 := cnt_le o b (show k + 1 ≤ p by omega)
  rw [cnt_s, if_pos e] at h1
  omega
theorem cnt_no {o : Nat → Int32} {b : Int} {p : Nat} (h : cnt o b p = 0) {k : Nat} (hk : k < p) : ¬ (o k).toInt = b := fun e => by have := cnt_lt hk e; omega
theorem vl_kept {lo hi : Int} {P P' : Int32} {o l to o' l' to' : Nat → Int32} (h : VL P o to) (hK : Kept2 lo hi o l P.toInt.toNat o' l' P'.toInt.toNat) (hP : 0 ≤ P'.toInt) (ht : ∀ j : Nat, j < 2048 → to' j = if lo ≤ j ∧ (j : Int) < hi then 0 else to j) : VL P' o' to' := by
  have L := lits
  obtain ⟨h1, h2, h3⟩ := h
  try dsimp only
  refine ⟨hP, fun p hp => ?_, fun b hb => ?_⟩
  · obtain ⟨k, g1, g2, g3, g4, g5⟩ := hK.1 p (by omega)
    rw [g2]; exact h2 k (by omega)
  · rw [ht b hb]
    by_cases q : lo ≤ b ∧ (b : Int) < hi
    · rw [if_pos q, cnt_zero (fun j hj => ?_)]
      · exact L.2.1
      · obtain ⟨k, g1, g2, g3, g4, g5⟩ := hK.1 j hj
        rw [g2]; exact fun e => g4 (by omega)
    · rw [if_neg q, hK.2 _ q]; exact h3 b hb
theorem jr_keep {m : Nat} {w h : Nat → Nat} {lr : Nat} {ov lc : Int32} {lN : Nat} {wF aF nF fF pF lF inu il ik ol ok cF WF brF fiF miF toF cF' WF' brF' fiF' miF' toF' : Nat → Int32} {P P' : Int32} {oF LeF LF KF oF' LeF' LF' KF' : Nat → Int32} (hG : Geo m w h) (hJ : JR m w h lr ov lc lN wF aF nF fF pF lF inu il ik ol ok cF WF brF fiF miF toF P oF LeF LF KF) (hc : ∀ j, 1024 ≤ j → j < 2048 → cF' j = cF j ∧ WF' j = WF j ∧ brF' j = brF j ∧ fiF' j = fiF j ∧ miF' j = miF j ∧ toF' j = toF j) (hK : LK 1024 2048 oF LeF P.toInt.toNat oF' LeF' P'.toInt.toNat) (hT : ∀ x, 12288 ≤ x → x < 24576 → LF' x = LF x ∧ KF' x = KF x) : JR m w h lr ov lc lN wF aF nF fF pF lF inu il ik ol ok cF' WF' brF' fiF' miF' toF' P' oF' LeF' LF' KF' := by
  obtain ⟨⟨hI, hc0, h4, hl0, ht, ho⟩, hd, hz⟩ := hJ
  have hn := hG.2.2
  try dsimp only
  refine ⟨⟨⟨fun b hb => ?_, fun b h0 hb => by omega, fun b hb => ?_⟩, fun b hb => ?_, fun i k hi hk => ?_, fun p b hp hb e => ?_, fun e => ?_, ho⟩, fun b h0 hb => ?_, fun e1 e2 x h1 h2 => ?_⟩
  · obtain ⟨c1, c2, c3, c4, c5, c6⟩ := hc (1024 + b) (by omega) (by omega)
    rw [c2]; exact hI.1 b hb
  · obtain ⟨c1, c2, c3, c4, c5, c6⟩ := hc (1024 + b) (by omega) (by omega)
    rw [c1, c3, c6]; exact hI.2.2 b hb
  · obtain ⟨c1, c2, c3, c4, c5, c6⟩ := hc (1024 + b) (by omega) (by omega)
    rw [c1]; exact hc0 b hb
  · have gw := hG.wh hi
    obtain ⟨c1, c2, c3, c4, c5, c6⟩ := hc (1024 + (bbase w h i + k)) (by omega) (by omega)
    have := h4 i k hi hk
    unfold IR4 at this ⊢
    rw [c4, c5]; exact this
  · obtain ⟨k, g1, g2, g3, g4⟩ := hK p (by omega) (by omega) (by omega)
    rw [g3, g4 _ (by omega) (by omega)]
    rw [g2] at e
    exact hl0 k b (by omega) hb e
  · obtain ⟨⟨t1, t2, t3, t4, t5, t6, t7⟩, hli⟩ := ht e
    try dsimp only
    refine ⟨⟨fun x hx => ?_, fun x hx => ?_, t3, fun x hx => ?_, fun x hx => ?_, t6, fun x h1 h2 => ?_⟩, hli⟩
    · have r := rho_lt hG 12288 hx
      rw [(hT _ (by omega) (by omega)).1]; exact t1 x hx
    · have r := rho_lt hG 12288 hx
      rw [(hT _ (by omega) (by omega)).2]; exact t2 x hx
    · have r := rho_lt hG 18432 hx
      rw [(hT _ (by omega) (by omega)).1]; exact t4 x hx
    · have r := rho_lt hG 18432 hx
      rw [(hT _ (by omega) (by omega)).2]; exact t5 x hx
    · rw [(hT x h1 h2).2]; exact t7 x h1 h2
  · obtain ⟨c1, c2, c3, c4, c5, c6⟩ := hc (1024 + b) (by omega) (by omega)
    rw [c1, c2, c3, c4, c5, c6]; exact hd b h0 hb
  · rw [(hT x h1 h2).1, (hT x h1 h2).2]; exact hz e1 e2 x h1 h2
theorem jw_keep {m : Nat} {w h : Nat → Nat} {lw : Nat} {st lc : Int32} {lN : Nat} {wF aF nF fF pF tF lF inu il ik onu ol ok cF WF brF fiF miF toF cF' WF' brF' fiF' miF' toF' : Nat → Int32} {P P' : Int32} {oF LeF LF KF oF' LeF' LF' KF' : Nat → Int32} (hG : Geo m w h) (hJ : JW m w h lw st lc lN wF aF nF fF pF tF lF inu il ik onu ol ok cF WF brF fiF miF toF P oF LeF LF KF) (hc : ∀ j, j < 1024 → cF' j = cF j ∧ WF' j = WF j ∧ brF' j = brF j ∧ fiF' j = fiF j ∧ miF' j = miF j ∧ toF' j = toF j) (hK : LK 0 1024 oF LeF P.toInt.toNat oF' LeF' P'.toInt.toNat) (hT : ∀ x, x < 12288 → LF' x = LF x ∧ KF' x = KF x) : JW m w h lw st lc lN wF aF nF fF pF tF lF inu il ik onu ol ok cF' WF' brF' fiF' miF' toF' P' oF' LeF' LF' KF' := by
  obtain ⟨hLI, hb, hn, ht, hl, hd, hz⟩ := hJ
  have hN := hG.2.2
  try dsimp only
  refine ⟨hLI, fun b hb' => ?_, fun i k hi hk => ?_, ?_, fun p b hp hb' e => ?_, fun b h0 hb' => ?_, fun e1 x h1 => ?_⟩
  · obtain ⟨c1, c2, c3, c4, c5, c6⟩ := hc b (by omega)
    rw [c1, c2, c3, c4, c5, c6]; exact hb b hb'
  · have gw := hG.wh hi
    obtain ⟨c1, c2, c3, c4, c5, c6⟩ := hc (bbase w h i + k) (by omega)
    rw [c4, c5]; exact hn i k hi hk
  · obtain ⟨⟨t1, t2, t3⟩, ⟨t4, t5, t6⟩, t7⟩ := ht
    try dsimp only
    refine ⟨⟨fun x hx => ?_, fun x hx => ?_, t3⟩, ⟨fun x hx => ?_, fun x hx => ?_, t6⟩, t7⟩
    · have r := rho_lt hG 0 hx
      rw [(hT _ (by omega)).1]; exact t1 x hx
    · have r := rho_lt hG 0 hx
      rw [(hT _ (by omega)).2]; exact t2 x hx
    · have r := rho_lt hG 6144 hx
      rw [(hT _ (by omega)).1]; exact t4 x hx
    · have r := rho_lt hG 6144 hx
      rw [(hT _ (by omega)).2]; exact t5 x hx
  · obtain ⟨k, g1, g2, g3, g4⟩ := hK p (by omega) (by omega) (by omega)
    rw [g3, g4 _ (by omega) (by omega)]
    rw [g2] at e
    exact hl k b (by omega) hb' e
  · obtain ⟨c1, c2, c3, c4, c5, c6⟩ := hc b (by omega)
    rw [c1, c2, c3, c4, c5, c6]; exact hd b h0 hb'
  · rw [(hT x h1).1, (hT x h1).2]; exact hz e1 x h1
theorem p_le {m : Nat} {w h : Nat → Nat} {lw lr : Nat} {st lc ov rlc : Int32} {lN rlN : Nat} {wF aF nF fF pF tF lF inu il ik onu ol ok RwF RaF RnF RfF RpF RlF Ri Ril Rik Rol Rok cF WF brF fiF miF toF : Nat → Int32} {P : Int32} {oF LeF LF KF : Nat → Int32} (hG : Geo m w h) (hW : JW m w h lw st lc lN wF aF nF fF pF tF lF inu il ik onu ol ok cF WF brF fiF miF toF P oF LeF LF KF) (hR : JR m w h lr ov rlc rlN RwF RaF RnF RfF RpF RlF Ri Ril Rik Rol Rok cF WF brF fiF miF toF P oF LeF LF KF) (hov : ov.toInt = 0 ∨ ov.toInt = 1) (hV : VL P oF toF) : P.toInt ≤ 8192 := by
  have hn := hG.2.2
  obtain ⟨⟨hI, hc0, h4, hl0, ht, ho⟩, hd, hz⟩ := hR
  obtain ⟨⟨hLI, _⟩, hb, _, _, _, hd2, _⟩ := hW
  obtain ⟨v1, v2, v3⟩ := hV
  have e1 := sumC_all (o := oF) (P := P.toInt.toNat) (M := 2048) (fun p hp => v2 p (by omega))
  have hY : ∃ Y : Int, sumI RpF (bbase w h m) = Y ∧ Y ≤ 4096 := by
    rcases hov with q | q
    · have := (ht q).2.1
      try dsimp only
      exact ⟨_, this.2.2.1, this.2.2.2.2⟩
    · try dsimp only
      exact ⟨0, sumI_0 (fun x hx => ho q x hx), by omega⟩
  obtain ⟨Y, hY1, hY2⟩ := hY
  have e2 := sumC_split (o := oF) (P := P.toInt.toNat) (f := pF) (g := RpF) hn (fun b hb' => by have h1 := v3 b (by omega); have h2 := hb b hb'; rw [h2.2.2.2.2.2.2.2.1] at h1; omega) (fun b h1 h2 => by have h3 := v3 b (by omega); have h4 := hd2 b h1 h2; omega) (fun b hb' => by have h1 := v3 (1024 + b) (by omega); have h2 := hI.2.2 b hb'; omega) (fun b h1 h2 => by have h3 := v3 (1024 + b) (by omega); have h4 := hd b h1 h2; omega) hLI.2.2.1 hY1
  have := hLI.2.2.2.2
  omega
