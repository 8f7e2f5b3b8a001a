/-! A block, written. -/
theorem ok_bs {α β γ : Type} {o : Option β} {k : β → Option α} {r : Option γ} {Z : α → γ → Prop} (h : Ok o (fun x => Ok r (fun t => Ok (k x) (fun u => Z u t)))) : Ok (bd o k) (fun u => Ok r (fun t => Z u t)) := ok_b (ok_m h (fun _ hx => ok_swap hx))
theorem TR.frame {n : Nat} {ρ : Nat → Nat} {a b b' : Nat → Int32} (h : TR n ρ a b) (hf : ∀ x, x < n → b' (ρ x) = b (ρ x)) : TR n ρ a b' := fun x hx => by rw [hf x hx]; exact h x hx
theorem s_tellWg {F : Nat} (hF : 1000000 ≤ F) {m : Nat} {w h : Nat → Nat} {i k MX C T : Nat} {pN nN lN kN aN : Nat} {nF pF lF kF aF : Nat → Int32} {g r c : Int32} {N : Nat} {R : Nat → Int32} {sz wr s e q : Int32} {B : Nat → Int32} {wF hF' bF mF fF LF0 KF0 : Nat → Int32} {leaf bound tree band block : Int32}
    (hw : wr.toInt = 1) (hG : Geo m w h) (hA : GA m w h aF) (hi : i < m) (hk : k < w i * h i) (hn : pN = 7 ∧ nbase w h m ≤ nN ∧ nbase w h m ≤ lN ∧ nbase w h m ≤ kN ∧ nbase w h m ≤ aN) (hMX : MX ≤ 1000) (hS : SET m w h nF) (hwh : (wF i).toInt = w i ∧ (hF' i).toInt = h i ∧ (bF i).toInt = bbase w h i) (htree : (tree.toInt = 0 ∧ T = 0) ∨ (tree.toInt = 1 ∧ T = 6144))
    (hva : ∀ j, j < w i * h i → (nF (nbase w h i + j)).toInt = if tree.toInt = 1 then (mF (bbase w h i + j)).toInt else if (fF (bbase w h i + j)).toInt = -1 then 1000 else (fF (bbase w h i + j)).toInt) (hle : (nF (nbase w h i + k)).toInt ≤ 1000) (hp : ∀ i k, i < m → k < w i * h i → 0 ≤ (nF (nbase w h i + k)).toInt)
    (hband : band.toInt = i) (hblock : block.toInt = k) (hb : 0 ≤ bound.toInt ∧ bound.toInt ≤ MX) (hleaf : leaf.toInt = ((nbase w h i + k : Nat) : Int)) (hC : nbase w h m * (MX + 1) ≤ C) (hTl : TR (nbase w h m) (rho w h T) lF LF0) (hTk : TR (nbase w h m) (rho w h T) kF KF0) (hs : TSafe (nbase w h m) MX lF kF) (hni : NumInv (nbase w h m) nF lF kF) (hrel : RelW (C - pot lF kF (nbase w h m)) g r c N R s e q B) :
    Ok (f_Trees_tellW F pN pF nN nF lN lF kN kF aN aF g r c N R leaf bound) (fun u => Ok (f_Mo_tell F sz wr s e q 0 262144 B 3 wF 3 hF' 4 bF 2048 mF 2048 fF 24576 LF0 24576 KF0 tree band block bound) (fun v => QW (nbase w h m) MX C (rho w h T) nF lF kF LF0 KF0 (pth w h i k) (topOf (w i) (h i)) s bound 0 N u v)) := by
  have L := lits
  have g2 := hG.wh hi
  have g3 := hG.1
  have hx := kxy hk
  have hmax := hG.max
  have eb : band.toInt.toNat = i := by omega
  refine s_tellW (C := C) (w := w i) (h := h i) (bk := k) hF hw L.2.1 ⟨hn.1, hn.2.1, hn.2.2.1, hn.2.2.2.1, hn.2.2.2.2, by omega, rfl, rfl, hMX, rfl, rfl⟩ (by omega) (by rw [eb]; exact hwh.1) (by rw [eb]; exact hwh.2.1) ⟨by omega, by omega, by omega, by omega⟩ (by omega) ⟨hblock, hk⟩ hb (pth_path hG hA hi hk) (by rw [pth_0 hk]; exact hleaf) (rho_inj hG T) (fun x hx => by have := rho_lt hG T hx; omega) ?_ (fun l hl => hS.mono hi hk hl) (fun l hl => hS.pos hp hi hk hl) (hS.least hF hG hi hk ⟨rfl, rfl, rfl, rfl, rfl⟩ hband hwh.1 hwh.2.1 hwh.2.2 (by omega) hva hle) hC hTl hTk hs hni hrel
  intro l hl
  rw [pth_rho hG hi hk hl]
  omega
set_option maxHeartbeats 4000000 in
theorem s_blockW {F : Nat} (hF : 1000000 ≤ F) {m : Nat} {w h : Nat → Nat} {nb layer b i k : Nat} {rec23 : (Nat → Int32) → (Nat → Int32) → (Nat → Int32) → (Nat → Int32) → (Nat → Int32) → Nat → (Nat → Int32) → (Nat → Int32) → (Nat → Int32) → (Nat → Int32) → (Nat → Int32) → (Nat → Int32) → (Nat → Int32) → (Nat → Int32) → Int32 → (Nat → Int32) → Int32 → Int32 → Int32 → Nat → (Nat → Int32) → Int32 → Option (Nat × Nat × Int32 × Int32 × (Nat → Int32) × (Nat → Int32) × (Nat → Int32) × (Nat → Int32) × (Nat → Int32) × (Nat → Int32) × Nat × (Nat → Int32) × (Nat → Int32) × (Nat → Int32) × (Nat → Int32) × (Nat → Int32) × (Nat → Int32) × (Nat → Int32) × (Nat → Int32) × Int32 × Int32 × Int32 × Nat × (Nat → Int32))}
    {ly cn st : Int32} {bN leN abN wN aN nN fN pN tN iP iN iL iK oP oN oL oK lN : Nat} {bF leF abF onu wF aF fF pF tF lF ip inu il ik op ol ok nF : Nat → Int32} {lc g r c : Int32} {N : Nat} {R : Nat → Int32} {v2 : Int32}
    {sz P wr s e q ct : Int32} {B beF wiF hiF fiF miF LF KF brF cF toF WF oF LeF aF0 L0 K0 WF0 : Nat → Int32} {p0 p1 p2 : Int32}
    {Z : Nat × Nat × Int32 × Int32 × (Nat → Int32) × (Nat → Int32) × (Nat → Int32) × (Nat → Int32) × (Nat → Int32) × (Nat → Int32) × Nat × (Nat → Int32) × (Nat → Int32) × (Nat → Int32) × (Nat → Int32) × (Nat → Int32) × (Nat → Int32) × (Nat → Int32) × (Nat → Int32) × Int32 × Int32 × Int32 × Nat × (Nat → Int32) → Int32 × Int32 × Int32 × Int32 × Int32 × (Nat → Int32) × (Nat → Int32) × (Nat → Int32) × (Nat → Int32) × (Nat → Int32) × (Nat → Int32) × (Nat → Int32) × (Nat → Int32) × (Nat → Int32) × (Nat → Int32) → Prop}
    (hC : CW m w h nb layer st abF leF nF fF pF lF inu onu lc lN wiF hiF beF cF brF toF fiF miF oF LeF aF0)
    (hsz : nb ≤ leN ∧ nbase w h m ≤ abN ∧ nb ≤ wN ∧ nb ≤ aN ∧ nb ≤ nN ∧ nb ≤ fN ∧ nb ≤ pN ∧ nb ≤ tN ∧ iP = 7 ∧ nbase w h m ≤ iN ∧ nbase w h m ≤ iL ∧ nbase w h m ≤ iK ∧ oP = 7 ∧ nbase w h m ≤ oN ∧ nbase w h m ≤ oL ∧ nbase w h m ≤ oK)
    (hcn : cn.toInt = m ∧ m < bN) (hbF : (bF m).toInt = nb) (hly : ly.toInt = layer) (hw : wr.toInt = 1) (hb : v2.toInt = b ∧ b = bbase w h i + k) (hi : i < m) (hk : k < w i * h i) (hp0 : p0.toInt = i) (hp1 : p1.toInt = k) (hp2 : p2.toInt = layer)
    (hI : IW m w h nb b layer pF nF inu onu lc aF0 L0 K0 WF0 wF aF il ik ol ok g r c N R s e q ct B LF KF WF)
    (hcont : (∀ (wF' aF' ip' il' ik' op' ol' ok' : Nat → Int32) (g' r' c' : Int32) (N' : Nat) (R' : Nat → Int32) (nc ns : Nat) (e' q' ct' : Int32) (B' LF' KF' WF' : Nat → Int32) (x29 : Int32), x29.toInt = (b : Int) + 1 → IW m w h nb (b + 1) layer pF nF inu onu lc aF0 L0 K0 WF0 wF' aF' il' ik' ol' ok' g' r' c' N' R' s e' q' ct' B' LF' KF' WF' → 16 * nc + N ≤ N' → ns + 2 * N ≤ 2 * N' → Ok (rec23 wF' aF' fF pF tF lN lF ip' inu il' ik' op' ol' ok' lc nF g' r' c' N' R' x29) (fun z => Z (z.1 + nc, z.2.1 + ns, z.2.2) (P, e', q', 0, ct', B', fiF, miF, LF', KF', brF, toF, WF', oF, LeF)))) :
    Ok (g_Side_headW_23 F rec23 ly cn st bN bF leN leF abN abF wN aN nN fN pN tN iP iN iL iK oP oN onu oL oK wF aF fF pF tF lN lF ip inu il ik op ol ok lc nF g r c N R v2) (fun u => Ok (f_Mo_codeBlock F st sz P wr s e q 0 ct 262144 B 4 beF 3 wiF 3 hiF 2048 fiF 2048 miF 24576 LF 24576 KF 2048 brF 2048 cF 2048 toF 2048 WF 8200 oF 8200 LeF p0 p1 p2) (fun t => Z u t)) := by
  have L := lits
  have hC0 := hC
  obtain ⟨⟨hG, hA, hL, hnb, hlay⟩, hS1, hS2, ⟨hLI, hl1, hl2, hl3⟩, hwh, hnum, hblk, hlen⟩ := hC
  obtain ⟨j1, j2, j3, j4, ⟨j5, j6, j7, j8⟩, ⟨j9, j10, j11, j12⟩, j13, j14, j15⟩ := hI
  have gg := hG.wh hi
  have g3 := hG.1
  have eb : v2.toInt.toNat = b := by omega
  have hbn : b < nb := by omega
  have hB := hblk b hbn
  obtain ⟨b1, b2, b3, b4, b5, b6, b7, b8, b9, b10, b11, b12, b13, b14, b15⟩ := hB
  have hnm := hnum i k hi hk
  rw [← hb.2] at hnm
  have hleaf := hL i k hi hk
  rw [← hb.2] at hleaf
  have ha0 := j3 b (by omega) hbn
  have hlc := hLI.2.2.2
  have hp1' := (hLI.1 b hbn).1
  have hsum := sumI_part (f := pF) (b := b + 1) (n := nb) (fun x hx => (hLI.1 x hx).1) (by omega)
  rw [sumI_s, hLI.2.2.1] at hsum
  have hsumb := sumI_part (f := pF) (b := 0) (n := b) (fun x hx => (hLI.1 x (by omega)).1) (by omega)
  rw [show sumI pF 0 = 0 from rfl] at hsumb
  have hin := hwh i hi
  have hlt : nbase w h i + k < nbase w h m := by
    have := (pth_path hG hA hi hk).2.2 0 (Nat.zero_le _)
    rw [pth_0 hk] at this
    exact this
  have ep0 : p0.toInt.toNat = i := by omega
  have hpos1 : ∀ i k, i < m → k < w i * h i → 0 ≤ (inu (nbase w h i + k)).toInt := by
    intro i' k' hi' hk'
    have h1 := (hnum i' k' hi' hk').1
    have h2 := hblk (bbase w h i' + k') (by have := hG.wh hi'; omega)
    rw [h1]
    split <;> omega
  have hpos2 : ∀ i k, i < m → k < w i * h i → 0 ≤ (onu (nbase w h i + k)).toInt := by
    intro i' k' hi' hk'
    have h1 := (hnum i' k' hi' hk').2
    have h2 := hblk (bbase w h i' + k') (by have := hG.wh hi'; omega)
    omega
  have noN : (nF b).toInt = 0 → (pF b).toInt = 0 := by
    intro z
    rw [b7, show (nF b).toInt.toNat = 0 by omega]
    rfl
  have mkIW : ∀ (wF' aF' il' ik' ol' ok' : Nat → Int32) (g' r' c' : Int32) (N' : Nat) (R' : Nat → Int32) (e' q' ct' : Int32) (B' LF' KF' WF' : Nat → Int32), (wF' b = WF' b ∧ 3 ≤ (wF' b).toInt ∧ (wF' b).toInt ≤ 16) → (∀ x, ¬ x = b → wF' x = wF x) → (∀ x, ¬ x = b → WF' x = WF x) → (aF' b).toInt = (aF0 b).toInt + (nF b).toInt → (∀ x, ¬ x = b → aF' x = aF x) → (TR (nbase w h m) (rho w h 0) il' LF' ∧ TR (nbase w h m) (rho w h 0) ik' KF' ∧ TSafe (nbase w h m) (layer + 1) il' ik' ∧ NumInv (nbase w h m) inu il' ik') → (TR (nbase w h m) (rho w h 6144) ol' LF' ∧ TR (nbase w h m) (rho w h 6144) ok' KF' ∧ TSafe (nbase w h m) 74 ol' ok' ∧ NumInv (nbase w h m) onu ol' ok') → (∀ i, 12288 ≤ i → LF' i = L0 i ∧ KF' i = K0 i) → ct'.toInt = sumI pF (b + 1) → RelW (nbase w h m * 256 - pot il' ik' (nbase w h m) + (nbase w h m * 75 - pot ol' ok' (nbase w h m)) + 35 * (nb - (b + 1)) + (24 * (lc.toInt - sumI pF (b + 1)).toNat + 16)) g' r' c' N' R' s e' q' B' → IW m w h nb (b + 1) layer pF nF inu onu lc aF0 L0 K0 WF0 wF' aF' il' ik' ol' ok' g' r' c' N' R' s e' q' ct' B' LF' KF' WF' := by
    intro wF' aF' il' ik' ol' ok' g' r' c' N' R' e' q' ct' B' LF' KF' WF' f1 f2 f3 f4 f5 f6 f7 f8 f9 f10
    try dsimp only
    refine ⟨fun x hx => ?_, fun x hx => ?_, fun x hx hx2 => ?_, fun x hx => ?_, f6, f7, f8, f9, f10⟩
    · by_cases qx : x = b
      · subst qx; exact f1
      · rw [f2 x qx, f3 x qx]; exact j1 x hx
    · rw [f3 x (by omega)]; exact j2 x hx
    · rw [f5 x (by omega)]; exact j3 x (by omega) hx2
    · by_cases qx : x = b
      · subst qx; exact f4
      · rw [f5 x qx]; exact j4 x (by omega)
  have hmi : nbase w h m * (layer + 1 + 1) ≤ nbase w h m * 256 := Nat.mul_le_mul_left _ (by omega)
  have hmo : nbase w h m * (74 + 1) = nbase w h m * 75 := rfl
  simp only [g_Side_headW_23]
  refine ok_bm (w_blocks hcn hbF) (fun u30 e30 => ?_)
  refine ok_le (fun hc => by omega) (fun _ => ?_)
  refine ok_swap ?_
  simp only [f_Mo_codeBlock, g_Mo_codeBlock_14, clamp_eq]
  refine ok_eq (fun hc => by omega) (fun _ => ?_)
  refine ok_in (by omega) (ok_v ?_)
  rw [ep0]
  refine ok_add (by omega) (fun x30 e30' => ?_)
  refine ok_add (by omega) (fun x31 e31 => ?_)
  have ex31 : x31.toInt.toNat = b := by omega
  have hx31 : x31.toInt = b := by omega
  refine ok_eq (fun hc => by omega) (fun _ => ?_)
  rw [ex31]
  refine ok_in (by omega) (ok_v ?_)
  by_cases hcase : 0 < (aF0 b).toInt
  · -- the block is in
    have hfl := b13.mp hcase
    refine ok_le (fun hc => by omega) (fun _ => ?_)
    refine ok_in (by omega) (ok_v ?_)
    refine ok_eq (fun hc => by omega) (fun _ => ?_)
    simp only [g_Mo_codeBlock_78, clamp_eq]
    refine ok_eq (fun hc => by omega) (fun _ => ?_)
    rw [ex31]
    refine ok_in (by omega) (ok_v ?_)
    rw [b2]
    by_cases hn : 0 < (nF b).toInt
    · refine ok_le (fun hc => by omega) (fun _ => ?_)
      refine ok_swap (ok_bs ?_)
      simp only [f_Side_tellWhetherInW, g_Side_tellWhetherInW_24, g_Side_tellWhetherInW_36, g_Mo_codeBlock_101, clamp_eq, eb]
      refine ok_in (by omega) (ok_v ?_)
      rw [ha0]
      refine ok_le (fun hc => by omega) (fun _ => ?_)
      refine ok_in (by omega) (ok_v ?_)
      refine ok_le (fun hc => by omega) (fun _ => ?_)
      refine ok_b2 (s_bitW (k := nbase w h m * 256 - pot il ik (nbase w h m) + (nbase w h m * 75 - pot ol ok (nbase w h m)) + 35 * (nb - (b + 1)) + 34 + (24 * (lc.toInt - sumI pF b).toNat + 16)) hw L.2.1 (by omega) (j15.less (by omega))) (fun u13 u25 hq => ?_)
      obtain ⟨q1, q2, q3, q4, q5, q6⟩ := hq
      rw [q1, q2, q3]
      refine ok_c (ok_eq (fun _ => ?_) (fun hc => by omega))
      refine ok_a (bool_nar (by omega)) (ok_s ?_)
      refine ok_eq (fun _ => ?_) (fun hc => by omega)
      simp only [g_Mo_codeBlock_113, g_Mo_codeBlock_130]
      refine ok_eq (fun hc => by omega) (fun _ => ?_)
      refine ok_T ?_
      refine ok_eq (fun hc => by omega) (fun _ => ?_)
      refine ok_swap (ok_c (ok_eq (fun hc => by omega) (fun _ => ?_)))
      refine ok_bm (Q := fun u35 => u35 = (0, 0, 1, inu, op, ol, ok, u13.2.2.2.1, u13.2.2.2.2.1, u13.2.2.2.2.2.1, u13.2.2.2.2.2.2.1, u13.2.2.2.2.2.2.2)) ?_ (fun u35 e35 => ?_)
      · simp only [f_Side_tellMissingW, clamp_eq, eb]
        refine ok_in (by omega) (ok_v ?_)
        rw [ha0]
        exact ok_le (fun hc => by omega) (fun _ => ok_s rfl)
      subst e35
      dsimp only
      refine ok_c (ok_eq (fun hc => by omega) (fun _ => ?_))
      refine s_restW (L0 := L0) (K0 := K0) (WF0 := WF0) (ly := ly) (leN := leN) (abN := abN) (iP := iP) (iN := iN) (iL := iL) (iK := iK) (oP := oP) (oN := oN) (oL := oL) (oK := oK) (p0 := p0) (p1 := p1) (p2 := p2) (i := i) (k := k) (b := b) (K := nbase w h m * 256 - pot il ik (nbase w h m) + (nbase w h m * 75 - pot ol ok (nbase w h m)) + 35 * (nb - (b + 1)) + (24 * (lc.toInt - sumI pF (b + 1)).toNat + 16)) hF hC0 hsz hcn hbF hly hw hb hi hk hp0 hp1 hp2 hx31 hn j1 ha0 j14 (q4.less (by rw [sumI_s]; omega)) ?_
      intro wF' aF' g' r' c' N' R' nc ns e' q' ct' B' WF' x29 f1 f2 f3 f4 f5 f6 f7 f8 f9 f10
      refine ok_m (hcont wF' aF' ip il ik op ol ok g' r' c' N' R' (nc + u13.1) (ns + u13.2.1) e' q' ct' B' LF KF WF' x29 f1 (mkIW _ _ _ _ _ _ _ _ _ _ _ _ _ _ _ _ _ _ f2 f3 f4 f5 f6 ⟨j5, j6, j7, j8⟩ ⟨j9, j10, j11, j12⟩ j13 f7 f8) (by omega) (by omega)) (fun z hz => ?_)
      have ee : (z.1 + nc + 0 + (0 + u13.1), z.2.1 + ns + 0 + (0 + u13.2.1), z.2.2) = (z.1 + (nc + u13.1), z.2.1 + (ns + u13.2.1), z.2.2) := by rw [Nat.add_zero, Nat.add_zero, Nat.zero_add, Nat.zero_add, Nat.add_assoc, Nat.add_assoc]
      try dsimp only
      rw [ee]
      exact hz
    · refine ok_le (fun _ => ?_) (fun hc => by omega)
      refine ok_swap (ok_bs ?_)
      simp only [f_Side_tellWhetherInW, g_Side_tellWhetherInW_24, g_Side_tellWhetherInW_36, g_Mo_codeBlock_101, clamp_eq, eb]
      refine ok_in (by omega) (ok_v ?_)
      rw [ha0]
      refine ok_le (fun hc => by omega) (fun _ => ?_)
      refine ok_in (by omega) (ok_v ?_)
      refine ok_le (fun _ => ?_) (fun hc => by omega)
      refine ok_b2 (s_bitW (k := nbase w h m * 256 - pot il ik (nbase w h m) + (nbase w h m * 75 - pot ol ok (nbase w h m)) + 35 * (nb - (b + 1)) + 34 + (24 * (lc.toInt - sumI pF b).toNat + 16)) hw L.2.1 (by omega) (j15.less (by omega))) (fun u13 u25 hq => ?_)
      obtain ⟨q1, q2, q3, q4, q5, q6⟩ := hq
      rw [q1, q2, q3]
      refine ok_c (ok_eq (fun hc => by omega) (fun _ => ?_))
      refine ok_a (bool_nar (by omega)) (ok_s ?_)
      refine ok_eq (fun hc => by omega) (fun _ => ?_)
      simp only [g_Mo_codeBlock_113, g_Mo_codeBlock_130, g_Mo_codeBlock_142, g_Side_headW_79, g_Side_headW_84]
      refine ok_T (ok_s ?_)
      refine ok_c (ok_T ?_)
      refine ok_eq (fun hc => by omega) (fun _ => ?_)
      refine ok_add (by omega) (fun x29 e29 => ?_)
      refine ok_m (hcont wF aF ip il ik op ol ok _ _ _ _ _ u13.1 u13.2.1 u25.2.1 u25.2.2.1 ct _ LF KF WF x29 (by omega) (mkIW _ _ _ _ _ _ _ _ _ _ _ _ _ _ _ _ _ _ (j1 b hbn) (fun _ _ => rfl) (fun _ _ => rfl) (by rw [ha0]; omega) (fun _ _ => rfl) ⟨j5, j6, j7, j8⟩ ⟨j9, j10, j11, j12⟩ j13 (by rw [sumI_s, noN (by omega)]; omega) (q4.less (by rw [sumI_s]; omega))) (by omega) (by omega)) (fun z hz => ?_)
      have ee : (z.1 + (0 + u13.1), z.2.1 + (0 + u13.2.1), z.2.2) = (z.1 + u13.1, z.2.1 + u13.2.1, z.2.2) := by rw [Nat.zero_add, Nat.zero_add]
      try dsimp only
      rw [ee]
      exact hz
  · -- the block is not in yet
    have ha00 : (aF0 b).toInt = 0 := by omega
    have toB : ∀ {X : Option _}, (Ok (g_Mo_codeBlock_58 F st sz wr s 262144 4 beF 3 wiF 3 hiF 2048 2048 24576 24576 2048 2048 cF 2048 2048 8200 8200 P e q 0 ct B fiF miF LF KF brF toF WF oF LeF p0 p1 p2 x31) (fun v => Ok X (fun u => Z u v))) → Ok (if p2 ≤ fiF b then g_Mo_codeBlock_58 F st sz wr s 262144 4 beF 3 wiF 3 hiF 2048 2048 24576 24576 2048 2048 cF 2048 2048 8200 8200 P e q 0 ct B fiF miF LF KF brF toF WF oF LeF p0 p1 p2 x31 else asm (vp_in x31 2048) (letb (fiF b) fun x34 => if x34 = -1 then g_Mo_codeBlock_58 F st sz wr s 262144 4 beF 3 wiF 3 hiF 2048 2048 24576 24576 2048 2048 cF 2048 2048 8200 8200 P e q 0 ct B fiF miF LF KF brF toF WF oF LeF p0 p1 p2 x31 else g_Mo_codeBlock_78 F st sz wr s 262144 4 beF 3 wiF 3 hiF 2048 2048 24576 24576 2048 2048 cF 2048 2048 8200 8200 P e q 0 ct B fiF miF LF KF brF toF WF oF LeF p0 p1 p2 x31 1)) (fun v => Ok X (fun u => Z u v)) := by
      intro X hX
      refine ok_le (fun _ => hX) (fun hc => ?_)
      refine ok_in (by omega) (ok_v ?_)
      refine ok_eq (fun _ => hX) (fun hc2 => ?_)
      exact absurd (b13.mpr ⟨by omega, by omega⟩) hcase
    refine toB ?_
    simp only [g_Mo_codeBlock_58, g_Mo_codeBlock_78, clamp_eq]
    refine ok_T ?_
    refine ok_add (by omega) (fun x26 e26 => ok_swap (ok_bs ?_))
    simp only [f_Side_tellWhetherInW, clamp_eq, eb]
    refine ok_in (by omega) (ok_v ?_)
    rw [ha0]
    refine ok_le (fun _ => ?_) (fun hc => by omega)
    refine ok_in (by omega) (ok_v ?_)
    refine ok_add (by omega) (fun x19 e19 => ?_)
    have ex : x26 = x19 := ti_ofI (by omega)
    rw [ex]
    have hpm := pot_max j7
    have hpm2 := pot_max j11
    refine ok_b2 (s_tellWg (MX := layer + 1) (T := 0) (C := nbase w h m * 256 + (nbase w h m * 75 - pot ol ok (nbase w h m) + 35 * (nb - b) + (24 * (lc.toInt - sumI pF b).toNat + 16))) hF hw hG hA hi hk ⟨by omega, by omega, by omega, by omega, by omega⟩ (by omega) hS1 hin (Or.inl ⟨L.2.1, rfl⟩) (fun j hj => by rw [if_neg (by omega)]; exact (hnum i j hi hj).1) (by rw [hnm.1]; split <;> omega) hpos1 hp0 hp1 ⟨by omega, by omega⟩ hleaf (Nat.le_trans hmi (Nat.le_add_right _ _)) j5 j6 j7 j8 (j15.less (by omega))) (fun u20 u27 hq => ?_)
    unfold QW at hq
    obtain ⟨q1, q2, q3, q4, q5, q6, q7, q8, q9, q10, q11, q12, q13, q14⟩ := hq
    rw [pth_0 hk] at q10 q11
    have fr1 : ∀ x, 6144 ≤ x → u27.2.2.2.2.2.1 x = LF x ∧ u27.2.2.2.2.2.2 x = KF x := by
      intro x hx
      refine q9 x (fun l hl z => ?_)
      have := rho_lt hG 0 ((pth_path hG hA hi hk).2.2 l hl)
      omega
    have t9 : TR (nbase w h m) (rho w h 6144) ol u27.2.2.2.2.2.1 := j9.frame (fun x hx => (fr1 _ (rho_lt hG 6144 hx).1).1)
    have t10 : TR (nbase w h m) (rho w h 6144) ok u27.2.2.2.2.2.2 := j10.frame (fun x hx => (fr1 _ (rho_lt hG 6144 hx).1).2)
    have hpm3 := pot_max q6
    rw [q1, q3]
    refine ok_c ?_
    refine ok_a (bool_nar q2) (ok_s ?_)
    by_cases hv : u27.1.toInt = 0
    · -- it does not come in
      have hnum1 := q11 hv
      rw [hnm.1] at hnum1
      have hn : (nF b).toInt = 0 := b14 (by split at hnum1 <;> omega)
      simp only [g_Mo_codeBlock_130, g_Mo_codeBlock_142, g_Side_headW_79, g_Side_headW_84]
      refine ok_eq (fun _ => ok_s ?_) (fun hc => by omega)
      refine ok_c (ok_eq (fun _ => ?_) (fun hc => by omega))
      refine ok_eq (fun hc => by omega) (fun _ => ?_)
      refine ok_add (by omega) (fun x29 e29 => ?_)
      refine ok_m (hcont wF aF _ _ _ op ol ok _ _ _ _ _ u20.1 u20.2.1 u27.2.1 u27.2.2.1 ct _ _ _ WF x29 (by omega) (mkIW _ _ _ _ _ _ _ _ _ _ _ _ _ _ _ _ _ _ (j1 b hbn) (fun _ _ => rfl) (fun _ _ => rfl) (by rw [ha0]; omega) (fun _ _ => rfl) ⟨q4, q5, q6, q7⟩ ⟨t9, t10, j11, j12⟩ (fun x hx => ⟨((fr1 x (by omega)).1).trans (j13 x hx).1, ((fr1 x (by omega)).2).trans (j13 x hx).2⟩) (by rw [sumI_s, noN hn]; omega) (q12.less (by rw [sumI_s]; omega))) (by omega) (by omega)) (fun z hz => ?_)
      have ee : (z.1 + (0 + u20.1), z.2.1 + (0 + u20.2.1), z.2.2) = (z.1 + u20.1, z.2.1 + u20.2.1, z.2.2) := by rw [Nat.zero_add, Nat.zero_add]
      try dsimp only
      rw [ee]
      exact hz
    · -- it comes in now
      have hnum1 := q10 (by omega)
      rw [hnm.1] at hnum1
      have hfi : (fiF b).toInt = layer := by
        split at hnum1
        · omega
        · rename_i z
          by_cases z2 : (fiF b).toInt < layer
          · exact absurd (b13.mpr ⟨z, z2⟩) hcase
          · omega
      have hn := b15 hfi
      simp only [g_Mo_codeBlock_130]
      refine ok_eq (fun hc => by omega) (fun _ => ?_)
      refine ok_T (ok_T ?_)
      refine ok_swap (ok_c (ok_eq (fun hc => by omega) (fun _ => ?_)))
      refine ok_bs ?_
      simp only [f_Side_tellMissingW, clamp_eq, eb]
      refine ok_in (by omega) (ok_v ?_)
      rw [ha0]
      refine ok_le (fun _ => ?_) (fun hc => by omega)
      refine ok_in (by omega) (ok_v ?_)
      refine ok_in (by omega) ?_
      refine ok_in (by omega) (ok_v ?_)
      have elf : (leF b).toInt.toNat = nbase w h i + k := by omega
      have einu : inu (nbase w h i + k) = ly := ti_ofI (by rw [hnm.1]; split <;> omega)
      rw [elf, ← einu, upd_self]
      have hpo : pot ol ok (nbase w h m) ≤ nbase w h m * 75 := by omega
      refine ok_b2 (s_tellWg (MX := 74) (T := 6144) (C := nbase w h m * 75 + (nbase w h m * 256 - pot u20.2.2.2.2.1 u20.2.2.2.2.2.1 (nbase w h m) + 35 * (nb - b) + (24 * (lc.toInt - sumI pF b).toNat + 16))) hF hw hG hA hi hk ⟨by omega, by omega, by omega, by omega, by omega⟩ (by omega) hS2 hin (Or.inr ⟨L.2.2.1, rfl⟩) (fun j hj => by rw [if_pos (by omega)]; exact (hnum i j hi hj).2) (by rw [hnm.2]; omega) hpos2 hp0 hp1 ⟨by omega, by omega⟩ hleaf (Nat.le_add_right _ _) t9 t10 j11 j12 (q12.less (by omega))) (fun u11 u24 hq2 => ?_)
      unfold QW at hq2
      obtain ⟨y1, y2, y3, y4, y5, y6, y7, y8, y9, y10, y11, y12, y13, y14⟩ := hq2
      rw [pth_0 hk] at y10 y11
      have hv2 : u24.1.toInt = 1 := by
        rcases y2 with z | z
        · have := y11 z; rw [hnm.2] at this; omega
        · exact z
      have fr2 : ∀ x, (x < 6144 ∨ 12288 ≤ x) → u24.2.2.2.2.2.1 x = u27.2.2.2.2.2.1 x ∧ u24.2.2.2.2.2.2 x = u27.2.2.2.2.2.2 x := by
        intro x hx
        refine y9 x (fun l hl z => ?_)
        have := rho_lt hG 6144 ((pth_path hG hA hi hk).2.2 l hl)
        omega
      have t5 : TR (nbase w h m) (rho w h 0) u20.2.2.2.2.1 u24.2.2.2.2.2.1 := q4.frame (fun x hx => (fr2 _ (Or.inl (by have := rho_lt hG 0 hx; omega))).1)
      have t6 : TR (nbase w h m) (rho w h 0) u20.2.2.2.2.2.1 u24.2.2.2.2.2.2 := q5.frame (fun x hx => (fr2 _ (Or.inl (by have := rho_lt hG 0 hx; omega))).2)
      have hpm4 := pot_max y6
      rw [y1, y3]
      refine ok_c ?_
      refine ok_a (bool_nar y2) (ok_s ?_)
      refine ok_eq (fun _ => ?_) (fun hc => by omega)
      refine ok_eq (fun hc => by omega) (fun _ => ?_)
      simp only [g_Mo_codeBlock_177]
      refine ok_a ⟨bool_nar (by omega), bool_fit (by omega)⟩ ?_
      refine ok_eq (fun hc => by omega) (fun _ => ?_)
      refine ok_swap (ok_c (ok_eq (fun hc => by omega) (fun _ => ?_)))
      refine s_restW (L0 := L0) (K0 := K0) (WF0 := WF0) (ly := ly) (leN := leN) (abN := abN) (iP := iP) (iN := iN) (iL := iL) (iK := iK) (oP := oP) (oN := oN) (oL := oL) (oK := oK) (p0 := p0) (p1 := p1) (p2 := p2) (i := i) (k := k) (b := b) (K := nbase w h m * 256 - pot u20.2.2.2.2.1 u20.2.2.2.2.2.1 (nbase w h m) + (nbase w h m * 75 - pot u11.2.2.2.2.1 u11.2.2.2.2.2.1 (nbase w h m)) + 35 * (nb - (b + 1)) + (24 * (lc.toInt - sumI pF (b + 1)).toNat + 16)) hF hC0 hsz hcn hbF hly hw hb hi hk hp0 hp1 hp2 hx31 hn j1 ha0 j14 (y12.less (by rw [sumI_s]; omega)) ?_
      intro wF' aF' g' r' c' N' R' nc ns e' q' ct' B' WF' x29 f1 f2 f3 f4 f5 f6 f7 f8 f9 f10
      refine ok_m (hcont wF' aF' _ _ _ _ _ _ g' r' c' N' R' (nc + u11.1 + u20.1) (ns + u11.2.1 + u20.2.1) e' q' ct' B' u24.2.2.2.2.2.1 u24.2.2.2.2.2.2 WF' x29 f1 (mkIW _ _ _ _ _ _ _ _ _ _ _ _ _ _ _ _ _ _ f2 f3 f4 f5 f6 ⟨t5, t6, q6, q7⟩ ⟨y4, y5, y6, y7⟩ (fun x hx => ⟨((fr2 x (Or.inr hx)).1).trans (((fr1 x (by omega)).1).trans (j13 x hx).1), ((fr2 x (Or.inr hx)).2).trans (((fr1 x (by omega)).2).trans (j13 x hx).2)⟩) f7 f8) (by omega) (by omega)) (fun z hz => ?_)
      have ee : (z.1 + nc + (0 + u11.1) + (0 + u20.1), z.2.1 + ns + (0 + u11.2.1) + (0 + u20.2.1), z.2.2) = (z.1 + (nc + u11.1 + u20.1), z.2.1 + (ns + u11.2.1 + u20.2.1), z.2.2) := by rw [Nat.zero_add, Nat.zero_add, Nat.zero_add, Nat.zero_add, Nat.add_assoc, Nat.add_assoc, Nat.add_assoc, Nat.add_assoc, Nat.add_assoc, Nat.add_assoc]
      try dsimp only
      rw [ee]
      exact hz
