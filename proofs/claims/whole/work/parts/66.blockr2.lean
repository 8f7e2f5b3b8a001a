/-! A block, read. -/
theorem w_209X {F : Nat} {st sz wr s P e q ct v4 : Int32} {cF brF toF WF oF LeF B miF fiF LF KF : Nat → Int32} {b' : Nat} (hv : v4.toInt = b' ∧ b' < 2048) :
    Ok (g_Mo_codeBlock_209 F st sz wr s 262144 2048 2048 cF 2048 2048 8200 8200 brF toF WF oF LeF P e q 1 ct B miF fiF LF KF v4) (fun t => ∃ e' q', t = (P, e', q', 1, ct, B, fiF, miF, LF, KF, brF, toF, WF, oF, LeF)) := by
  have L := lits
  simp only [g_Mo_codeBlock_209, g_Mo_codeBlock_246, g_Mo_codeBlock_251, clamp_eq]
  refine ok_in (by omega) (ok_v ?_)
  refine ok_bm (w_Mo_pasX L.2.2.1) (fun u20 hq => ?_)
  obtain ⟨q1, q2, q3, q4, q5⟩ := hq
  refine ok_eq (fun hc => by omega) (fun _ => ?_)
  refine ok_a ⟨bool_nar (by omega), bool_fit (by omega)⟩ ?_
  refine ok_eq (fun hc => by omega) (fun _ => ok_s ?_)
  rw [q5]
  try dsimp only
  exact ⟨_, _, rfl⟩
theorem w_numberOf {F i k : Nat} {wr v1 v2 : Int32} {LF : Nat → Int32} (hw : wr.toInt = 0) (h1 : v1.toInt = i ∧ i < 3) (h2 : v2.toInt = k ∧ k < 2048) : Ok (f_Mo_numberOf F wr 24576 LF 1 v1 v2) (fun u => u = LF (18432 + 2048 * i + k)) := by
  have L := lits
  simp only [f_Mo_numberOf, g_Mo_numberOf_16, clamp_eq]
  refine ok_eq (fun _ => ?_) (fun hc => by omega)
  refine ok_add (by omega) (fun x7 e7 => ?_)
  refine ok_x6144 (by omega) (fun x8 e8 => ?_)
  refine ok_2048x (by omega) (fun x9 e9 => ?_)
  refine ok_add (by omega) (fun x10 e10 => ?_)
  refine ok_add (by omega) (fun x11 e11 => ?_)
  refine ok_in (by omega) (ok_v (ok_s ?_))
  rw [show x11.toInt.toNat = 18432 + 2048 * i + k by omega]
set_option maxHeartbeats 4000000 in
theorem s_blockR {F : Nat} (hF : 1000000 ≤ F) {m : Nat} {w h : Nat → Nat} {nb layer b i k P0 : Nat} {rec23 : (Nat → Int32) → (Nat → Int32) → (Nat → Int32) → (Nat → Int32) → (Nat → Int32) → Nat → (Nat → Int32) → (Nat → Int32) → (Nat → Int32) → (Nat → Int32) → (Nat → Int32) → (Nat → Int32) → (Nat → Int32) → (Nat → Int32) → Int32 → (Nat → Int32) → Int32 → Int32 → Int32 → Int32 → Int32 → Option (Nat × Nat × Int32 × Int32 × (Nat → Int32) × (Nat → Int32) × (Nat → Int32) × (Nat → Int32) × (Nat → Int32) × (Nat → Int32) × Nat × (Nat → Int32) × (Nat → Int32) × (Nat → Int32) × (Nat → Int32) × (Nat → Int32) × (Nat → Int32) × (Nat → Int32) × (Nat → Int32) × Int32 × Int32 × Int32 × Int32)}
    {ly cn st : Int32} {bN leN abN wN aN nN fN pN tN iP iN iL iK oP oN oL oK lN : Nat} {bF leF abF onu wF aF fF pF tF lF ip inu il ik op ol ok nF : Nat → Int32} {lc st0 n0 en la lf lk c : Int32} {N : Nat} {R : Nat → Int32} {v2 : Int32}
    {sz P wr s e q ct : Int32} {B beF wiF hiF fiF miF LF KF brF cF toF WF oF LeF o0 l0 fi0 mi0 br0 to0 W0 L0 K0 : Nat → Int32}
    {Z : Nat × Nat × Int32 × Int32 × (Nat → Int32) × (Nat → Int32) × (Nat → Int32) × (Nat → Int32) × (Nat → Int32) × (Nat → Int32) × Nat × (Nat → Int32) × (Nat → Int32) × (Nat → Int32) × (Nat → Int32) × (Nat → Int32) × (Nat → Int32) × (Nat → Int32) × (Nat → Int32) × Int32 × Int32 × Int32 × Int32 → Int32 × Int32 × Int32 × Int32 × Int32 × (Nat → Int32) × (Nat → Int32) × (Nat → Int32) × (Nat → Int32) × (Nat → Int32) × (Nat → Int32) × (Nat → Int32) × (Nat → Int32) × (Nat → Int32) × (Nat → Int32) → Prop}
    (hC : CR m w h nb layer abF leF wiF hiF beF cF)
    (hsz : nb ≤ leN ∧ nbase w h m ≤ abN ∧ nb ≤ wN ∧ nb ≤ aN ∧ nb ≤ nN ∧ nb ≤ fN ∧ nb ≤ pN ∧ nb ≤ tN ∧ iP = 7 ∧ nbase w h m ≤ iN ∧ nbase w h m ≤ iL ∧ nbase w h m ≤ iK ∧ oP = 7 ∧ nbase w h m ≤ oN ∧ nbase w h m ≤ oL ∧ nbase w h m ≤ oK)
    (hcn : cn.toInt = m ∧ m < bN) (hbF : (bF m).toInt = nb) (hly : ly.toInt = layer) (hw : wr.toInt = 0) (hb : v2.toInt = b ∧ b = bbase w h i + k) (hi : i < m) (hk : k < w i * h i) (hP0 : P0 ≤ 4096) {p0 p1 p2 : Int32} (hp0 : p0.toInt = i) (hp1 : p1.toInt = k) (hp2 : p2.toInt = layer)
    (hI1 : IRr nb b cF wF aF pF nF brF toF WF) (hI4 : ∀ i k, i < m → k < w i * h i → IR4 w h i k aF inu ol fiF miF) (hIt : IRt m w h layer il ik ol ok LF KF) (hIl : IRl nb P0 fF pF lF lc lN P ct toF oF LeF) (hfr : FR nb P0 o0 l0 fi0 mi0 br0 to0 W0 L0 K0 P.toInt fiF miF LF KF brF toF WF oF LeF) (hrel : RelR st0 n0 en la lf lk c N R sz s e q 0 B)
    (hrec : ∀ (wF' aF' fF' pF' tF' : Nat → Int32) (lN' : Nat) (lF' ip' inu' il' ik' op' ol' ok' : Nat → Int32) (lc' : Int32) (nF' : Nat → Int32) (n0' la' lf' lk' x29 : Int32), x29.toInt = (b : Int) + 1 → XR m w h nb layer (b + 1) wF' aF' fF' pF' nF' lc' lN' il' ik' ol' ok' → SB n0' en lf' lk' c N → Ok (rec23 wF' aF' fF' pF' tF' lN' lF' ip' inu' il' ik' op' ol' ok' lc' nF' n0' la' lf' lk' x29) (fun z => PXr lN' en c N z))
    (hbad : ∀ u t, PXr lN en c N u → FB nb P0 o0 l0 fi0 mi0 br0 to0 W0 L0 K0 B t → Z u t)
    (hcont : ∀ (wF' aF' fF' pF' tF' : Nat → Int32) (lN' : Nat) (lF' ip' inu' il' ik' op' ol' ok' : Nat → Int32) (lc' : Int32) (nF' : Nat → Int32) (n0' la' lf' lk' x29 : Int32) (nc ns : Nat) (P' e' q' ct' : Int32) (fiF' miF' LF' KF' brF' toF' WF' oF' LeF' : Nat → Int32), x29.toInt = (b : Int) + 1 → IRr nb (b + 1) cF wF' aF' pF' nF' brF' toF' WF' → (∀ i k, i < m → k < w i * h i → IR4 w h i k aF' inu' ol' fiF' miF') → IRt m w h layer il' ik' ol' ok' LF' KF' → IRl nb P0 fF' pF' lF' lc' lN' P' ct' toF' oF' LeF' → FR nb P0 o0 l0 fi0 mi0 br0 to0 W0 L0 K0 P'.toInt fiF' miF' LF' KF' brF' toF' WF' oF' LeF' → RelR st0 n0' en la' lf' lk' c N R sz s e' q' 0 B → 16 * nc + lN ≤ lN' → ns + 2 * lN ≤ 2 * lN' → Ok (rec23 wF' aF' fF' pF' tF' lN' lF' ip' inu' il' ik' op' ol' ok' lc' nF' n0' la' lf' lk' x29) (fun z => Z (z.1 + nc, z.2.1 + ns, z.2.2) (P', e', q', 0, ct', B, fiF', miF', LF', KF', brF', toF', WF', oF', LeF'))) :
    Ok (g_Side_headR_23 F rec23 ly cn st bN bF leN leF abN abF wN aN nN fN pN tN iP iN iL iK oP oN onu oL oK en c N R wF aF fF pF tF lN lF ip inu il ik op ol ok lc nF n0 la lf lk v2) (fun u => Ok (f_Mo_codeBlock F st sz P wr s e q 0 ct 262144 B 4 beF 3 wiF 3 hiF 2048 fiF 2048 miF 24576 LF 24576 KF 2048 brF 2048 cF 2048 toF 2048 WF 8200 oF 8200 LeF p0 p1 p2) (fun t => Z u t)) := by
  have L := lits
  have l1024 : (1024 : Int32).toInt = 1024 := by decide
  have hC0 := hC
  have hI10 := hI1
  have hIl0 := hIl
  have hfr0 := hfr
  have hIt0 := hIt
  obtain ⟨⟨hG, hA, hL, hnb, hlay⟩, hwh, hcF⟩ := hC
  have gw := hG.wh hi
  have g3 := hG.1
  have hmax := hG.max
  have eb : v2.toInt.toNat = b := by omega
  have hbn : b < nb := by omega
  obtain ⟨a1, a2, a3⟩ := hI1
  have hB := a2 b (by omega) hbn
  have hc := hcF b hbn
  have hab : (aF b).toInt = (cF (1024 + b)).toInt := by rw [hB.1]
  obtain ⟨⟨l1, l2, l3, l4, l5, l6⟩, l7, l8⟩ := hIl
  obtain ⟨t1, t2, t3, t4, t5, t6, t7⟩ := hIt
  obtain ⟨r1, r2, r3, r4, r5⟩ := hfr
  have h4b := hI4 i k hi hk
  unfold IR4 at h4b
  rw [← hb.2] at h4b
  have hin := hwh i hi
  have ep0 : p0.toInt.toNat = i := by omega
  have hleaf := hL i k hi hk
  rw [← hb.2] at hleaf
  have hlt : nbase w h i + k < nbase w h m := by
    have := (pth_path hG hA hi hk).2.2 0 (Nat.zero_le _)
    rw [pth_0 hk] at this
    exact this
  have hX : XR m w h nb layer b wF aF fF pF nF lc lN il ik ol ok := by
    try dsimp only
    refine ⟨fun x h1 h2 => ?_, l1, l2, l3, l4, t3, t6⟩
    have z1 := a2 x h1 h2
    have z2 := hcF x h2
    have z3 := a1 x h2
    rw [z1.1]
    try dsimp only
    exact ⟨z1.2.1, z1.2.2.1, z2.1, z2.2, z3.2.1, z3.2.2⟩
  have hX1 : ∀ il' ik' ol' ok', TSR (nbase w h m) (layer + 1) il' ik' → TSR (nbase w h m) 74 ol' ok' → XR m w h nb layer b wF aF fF pF nF lc lN il' ik' ol' ok' := fun il' ik' ol' ok' z1 z2 => ⟨hX.1, l1, l2, l3, l4, z1, z2⟩
  have hX2 : ∀ il' ik' ol' ok', TSR (nbase w h m) (layer + 1) il' ik' → TSR (nbase w h m) 74 ol' ok' → XR m w h nb layer (b + 1) wF aF fF pF nF lc lN il' ik' ol' ok' := fun il' ik' ol' ok' z1 z2 => ⟨fun x h1 h2 => hX.1 x (by omega) h2, l1, l2, l3, l4, z1, z2⟩
  have hI1s : IRr nb (b + 1) cF wF aF pF nF brF toF WF := by
    try dsimp only
    refine ⟨a1, fun x h1 h2 => a2 x (by omega) h2, fun x hx => ?_⟩
    by_cases qx : x = b
    · subst qx
      try dsimp only
      exact ⟨by omega, ti_ofI (by omega), by omega, by omega, by omega⟩
    · exact a3 x (by omega)
  have mkFB : ∀ (e' q' ct' wg : Int32) (fiF' miF' LF' KF' : Nat → Int32), wg.toInt = 1 → (∀ x, ¬ x = 1024 + b → fiF' x = fiF x ∧ miF' x = miF x) → (∀ x, x < 12288 → LF' x = LF x ∧ KF' x = KF x) → FB nb P0 o0 l0 fi0 mi0 br0 to0 W0 L0 K0 B (P, e', q', wg, ct', B, fiF', miF', LF', KF', brF, toF, WF, oF, LeF) := by
    intro e' q' ct' wg fiF' miF' LF' KF' h0 h1 h2
    try dsimp only
    refine ⟨h0, rfl, fun x hx => ?_, r2, r3, r4, fun x hx => ?_⟩
    · dsimp only
      rw [(h1 x (by omega)).1, (h1 x (by omega)).2]
      exact r1 x hx
    · dsimp only
      rw [(h2 x hx).1, (h2 x hx).2]
      exact r5 x hx
  have mkPX : ∀ (wF1 aF1 fF1 pF1 tF1 lF1 nF1 ip1 il1 ik1 inu1 op1 ol1 ok1 : Nat → Int32) (lc1 n1 la1 lf1 lk1 : Int32), SG n1 en c N → Ok (g_Side_headR_83 F rec23 wF1 fF1 pF1 tF1 lN lF1 nF1 ip1 il1 ik1 lc1 aF1 inu1 op1 ol1 ok1 n1 la1 lf1 lk1 v2) (fun u => PXr lN en c N u) := by
    intro wF1 aF1 fF1 pF1 tF1 lF1 nF1 ip1 il1 ik1 inu1 op1 ol1 ok1 lc1 n1 la1 lf1 lk1 hsg
    simp only [g_Side_headR_83, g_Side_headR_84]
    refine ok_T (ok_s ?_)
    try dsimp only
    exact ⟨by dsimp only; omega, by dsimp only; omega, by dsimp only; omega, l4, Or.inl L.2.1, hsg⟩
  simp only [g_Side_headR_23]
  refine ok_bm (w_blocks hcn hbF) (fun u15 e15 => ?_)
  refine ok_le (fun hc => by omega) (fun _ => ?_)
  refine ok_swap ?_
  simp only [f_Mo_codeBlock, g_Mo_codeBlock_14, clamp_eq]
  refine ok_eq (fun _ => ?_) (fun hc => by omega)
  refine ok_in (by omega) (ok_v ?_)
  rw [ep0]
  refine ok_add (by omega) (fun x30 e30 => ?_)
  refine ok_add (by omega) (fun x31 e31 => ?_)
  have ex31 : x31.toInt.toNat = 1024 + b := by omega
  have hx31 : x31.toInt = ((1024 + b : Nat) : Int) := by omega
  refine ok_eq (fun _ => ?_) (fun hc => by omega)
  rw [ex31]
  refine ok_in (by omega) (ok_v ?_)
  by_cases hfi : (fiF (1024 + b)).toInt = -1
  case neg =>
    -- the block is in
    have hin0 := h4b.1.mpr hfi
    refine ok_eq (fun hc => by omega) (fun _ => ?_)
    simp only [g_Mo_codeBlock_78, clamp_eq]
    refine ok_eq (fun hc => by omega) (fun _ => ?_)
    rw [ex31]
    refine ok_in (by omega) (ok_v ?_)
    refine ok_le (fun _ => ?_) (fun hc => by omega)
    refine ok_swap (ok_bs ?_)
    simp only [f_Side_tellWhetherInR, g_Side_tellWhetherInR_24, g_Side_tellWhetherInR_36, g_Mo_codeBlock_101, clamp_eq, eb]
    refine ok_in (by omega) (ok_v ?_)
    refine ok_le (fun hc => by omega) (fun _ => ?_)
    refine ok_in (by omega) (ok_v ?_)
    refine ok_le (fun _ => ?_) (fun hc => by omega)
    refine ok_b2 (s_bitR2 hw L.2.1 hrel) (fun u7 u25 hq => ?_)
    obtain ⟨q1, q2, q3, q4, q5, q6⟩ := hq
    rw [q1, q3]
    by_cases hgood : u25.2.2.2.1.toInt = 0
    case neg =>
      have hv0 := q5 hgood
      have hsb := q4.sb hgood
      refine ok_eq (fun hc => by omega) (fun _ => ok_a (bool_nar (by omega)) (ok_s ?_))
      refine ok_eq (fun hc => by omega) (fun _ => ?_)
      simp only [g_Mo_codeBlock_113, g_Mo_codeBlock_130, g_Mo_codeBlock_142, g_Side_headR_79, g_Side_headR_84]
      refine ok_T (ok_s ?_)
      refine ok_T ?_
      refine ok_eq (fun hc => by omega) (fun _ => ?_)
      refine ok_add (by omega) (fun x29 e29 => ?_)
      exact ok_m (hrec _ _ _ _ _ _ _ _ _ _ _ _ _ _ _ _ _ _ _ _ x29 (by omega) (hX2 _ _ _ _ t3 t6) hsb.1) (fun u hu => hbad u _ hu (mkFB _ _ _ _ _ _ _ _ hsb.2 (fun _ _ => ⟨rfl, rfl⟩) (fun _ _ => ⟨rfl, rfl⟩)))
    case pos =>
      have hwg : u25.2.2.2.1 = 0 := ti_ofI (by omega)
      rw [hwg] at q4 ⊢
      refine ok_eq (fun d1 => ok_a (bool_nar (by omega)) (ok_s ?_)) (fun d1 => ok_a (bool_nar (by omega)) (ok_s ?_))
      · refine ok_eq (fun _ => ?_) (fun hc => by omega)
        simp only [g_Mo_codeBlock_113, g_Mo_codeBlock_130]
        refine ok_eq (fun hc => by omega) (fun _ => ?_)
        refine ok_T ?_
        refine ok_eq (fun hc => by omega) (fun _ => ?_)
        refine ok_swap (ok_eq (fun hc => by omega) (fun _ => ?_))
        refine ok_bm (Q := fun u17 => u17 = (1, inu, op, ol, ok, u7.2.1, u7.2.2.1, u7.2.2.2.1, u7.2.2.2.2)) ?_ (fun u17 e17 => ?_)
        · simp only [f_Side_tellMissingR, clamp_eq, eb]
          refine ok_in (by omega) (ok_v ?_)
          exact ok_le (fun hc => by omega) (fun _ => ok_s rfl)
        subst e17
        dsimp only
        refine ok_eq (fun hc => by omega) (fun _ => ?_)
        exact s_restR (leN := leN) (abN := abN) (iP := iP) (iN := iN) (iL := iL) (iK := iK) (oP := oP) (oN := oN) (oL := oL) (oK := oK) (i := i) (k := k) (b := b) (onu := onu) (ly := ly) (beF := beF) (wiF := wiF) (hiF := hiF) (leF := leF) (abF := abF) (layer := layer) hF hC0 hsz hcn hbF hly hw hb hi hk hP0 hx31 hI10 (fun i' k' h1 h2 _ => hI4 i' k' h1 h2) ⟨hfi, h4b.2.2 hfi⟩ hIt0 hIl0 hfr0 q4 hrec hbad (fun wF' aF' fF' pF' tF' lN' lF' lc' nF' n0' la' lf' lk' x29 nc ns P' e' q' ct' brF' toF' WF' oF' LeF' f1 f2 f3 f4 f5 f6 f7 f8 => hcont wF' aF' fF' pF' tF' lN' lF' ip inu il ik op ol ok lc' nF' n0' la' lf' lk' x29 nc ns P' e' q' ct' fiF miF LF KF brF' toF' WF' oF' LeF' f1 f2 f3 hIt0 f4 f5 f6 f7 f8)
      · refine ok_eq (fun hc => by omega) (fun _ => ?_)
        simp only [g_Mo_codeBlock_113, g_Mo_codeBlock_130, g_Mo_codeBlock_142, g_Side_headR_79, g_Side_headR_84]
        refine ok_T (ok_s ?_)
        refine ok_T ?_
        refine ok_eq (fun hc => by omega) (fun _ => ?_)
        refine ok_add (by omega) (fun x29 e29 => ?_)
        exact hcont wF aF fF pF tF lN lF ip inu il ik op ol ok lc nF _ _ _ _ x29 0 0 P _ _ ct fiF miF LF KF brF toF WF oF LeF (by omega) hI1s hI4 hIt0 hIl0 hfr0 q4 (by omega) (by omega)
  case pos =>
    -- the block is not in yet
    have ha0 : (aF b).toInt = 0 := by
      by_cases z : 0 < (aF b).toInt
      · exact absurd hfi (h4b.1.mp z)
      · omega
    refine ok_eq (fun _ => ?_) (fun hc => by omega)
    simp only [g_Mo_codeBlock_78, clamp_eq]
    refine ok_T ?_
    refine ok_add (by omega) (fun x26 e26 => ok_swap (ok_bs ?_))
    simp only [f_Side_tellWhetherInR, clamp_eq, eb]
    refine ok_in (by omega) (ok_v ?_)
    refine ok_le (fun _ => ?_) (fun hc => by omega)
    refine ok_in (by omega) (ok_v ?_)
    refine ok_add (by omega) (fun x10 e10 => ?_)
    have ex : x26 = x10 := ti_ofI (by omega)
    rw [ex]
    refine ok_b2 (s_tellRg (MX := layer + 1) (T := 12288) hF hw L.2.1 hG hA hi hk ⟨by omega, by omega, by omega, by omega, by omega⟩ (by omega) ⟨hin.1, hin.2.1⟩ (Or.inl ⟨L.2.1, rfl⟩) hp0 hp1 ⟨by omega, by omega⟩ hleaf t7 t1 t2 t3 hrel) (fun u11 u27 hq => ?_)
    obtain ⟨q1, q2, q3, q4, q5, q6, q7, q8⟩ := hq
    rw [q3]
    refine ok_a (bool_nar q1) (ok_s ?_)
    by_cases hgood : u27.2.2.2.1.toInt = 0
    case neg =>
      have hsb := q7.sb hgood
      simp only [g_Mo_codeBlock_130, g_Mo_codeBlock_142]
      have fin : ∀ {X : Option _}, Ok X (fun u => PXr lN en c N u) → Ok X (fun u => Z u (P, u27.2.1, u27.2.2.1, u27.2.2.2.1, ct, B, fiF, miF, u27.2.2.2.2.2.1, u27.2.2.2.2.2.2, brF, toF, WF, oF, LeF)) := fun hx => ok_m hx (fun u hu => hbad u _ hu (mkFB _ _ _ _ _ _ _ _ hsb.2 (fun _ _ => ⟨rfl, rfl⟩) (fun x hx => q5 x (Or.inl hx))))
      have cls : Ok (if u11.1 = 0 then g_Side_headR_79 F rec23 wF fF pF tF lN lF op ol ok lc aF nF u11.2.1 inu u11.2.2.1 u11.2.2.2.1 u11.2.2.2.2.1 u11.2.2.2.2.2.1 u11.2.2.2.2.2.2.1 u11.2.2.2.2.2.2.2 v2 else bd (f_Side_tellMissingR F ly aN aF leN leF abN abF iN inu oP op oN onu oL ol oK ok u11.2.2.2.2.1 en u11.2.2.2.2.2.1 u11.2.2.2.2.2.2.1 u11.2.2.2.2.2.2.2 c N R v2) fun u17 =>
if u17.1 = 0 then (
g_Side_headR_83 F rec23 wF fF pF tF lN lF nF u11.2.1 u11.2.2.1 u11.2.2.2.1 lc aF u17.2.1 u17.2.2.1 u17.2.2.2.1 u17.2.2.2.2.1 u17.2.2.2.2.2.1 u17.2.2.2.2.2.2.1 u17.2.2.2.2.2.2.2.1 u17.2.2.2.2.2.2.2.2 v2) else (
asm (vp_in v2 nN) (letb (nF b) fun x18 =>
bd (f_Bits_passesR F u17.2.2.2.2.2.1 en u17.2.2.2.2.2.2.1 u17.2.2.2.2.2.2.2.1 u17.2.2.2.2.2.2.2.2 c N R x18) fun u19 =>
bd (f_Side_accept F lc cn st bN bF aN aF nN nF fN fF pN pF tN tF lN lF v2 u19.1) fun u20 =>
addc u20.1 u20.2.1 (
if u20.2.2.1 = 0 then (
g_Side_headR_83 F rec23 wF u20.2.2.2.2.2.1 u20.2.2.2.2.2.2.1 u20.2.2.2.2.2.2.2.1 u20.2.2.2.2.2.2.2.2.1 u20.2.2.2.2.2.2.2.2.2 u20.2.2.2.2.1 u11.2.1 u11.2.2.1 u11.2.2.2.1 u20.2.2.2.1 aF u17.2.1 u17.2.2.1 u17.2.2.2.1 u17.2.2.2.2.1 u19.2.1 u19.2.2.1 u19.2.2.2.1 u19.2.2.2.2 v2) else (
bd (f_Side_tellLengthsR F st wN wF aN aF nN u20.2.2.2.2.1 fN u20.2.2.2.2.2.1 pN u20.2.2.2.2.2.2.1 u20.2.2.2.2.2.2.2.2.1 u20.2.2.2.2.2.2.2.2.2 u19.2.1 en u19.2.2.1 u19.2.2.2.1 u19.2.2.2.2 c N R v2) fun u24 =>
if u24.1 = 0 then (
g_Side_headR_83 F rec23 u24.2.1 u20.2.2.2.2.2.1 u20.2.2.2.2.2.2.1 u20.2.2.2.2.2.2.2.1 u20.2.2.2.2.2.2.2.2.1 u24.2.2.2.1 u20.2.2.2.2.1 u11.2.1 u11.2.2.1 u11.2.2.2.1 u20.2.2.2.1 u24.2.2.1 u17.2.1 u17.2.2.1 u17.2.2.2.1 u17.2.2.2.2.1 u24.2.2.2.2.1 u24.2.2.2.2.2.1 u24.2.2.2.2.2.2.1 u24.2.2.2.2.2.2.2 v2) else (
g_Side_headR_79 F rec23 u24.2.1 u20.2.2.2.2.2.1 u20.2.2.2.2.2.2.1 u20.2.2.2.2.2.2.2.1 u20.2.2.2.2.2.2.2.2.1 u24.2.2.2.1 u17.2.2.1 u17.2.2.2.1 u17.2.2.2.2.1 u20.2.2.2.1 u24.2.2.1 u20.2.2.2.2.1 u11.2.1 u17.2.1 u11.2.2.1 u11.2.2.2.1 u24.2.2.2.2.1 u24.2.2.2.2.2.1 u24.2.2.2.2.2.2.1 u24.2.2.2.2.2.2.2 v2)))))) (fun u => PXr lN en c N u) := by
        refine ok_eq (fun _ => ?_) (fun _ => ?_)
        · simp only [g_Side_headR_79, g_Side_headR_84]
          refine ok_eq (fun hc => by omega) (fun _ => ?_)
          refine ok_add (by omega) (fun x29 e29 => ?_)
          exact hrec _ _ _ _ _ _ _ _ _ _ _ _ _ _ _ _ _ _ _ _ x29 (by omega) (hX2 _ _ _ _ q4 t6) hsb.1
        · exact x_miss (leN := leN) (abN := abN) (iP := iP) (iN := iN) (iL := iL) (iK := iK) (oP := oP) (oN := oN) (oL := oL) (oK := oK) (i := i) (k := k) (b := b) (onu := onu) hF hG hA hL hnb hlay hsz hcn hbF hly hb hi hk (hX1 _ _ _ _ q4 t6) hsb.1 hrec
      refine ok_eq (fun _ => ok_s (fin cls)) (fun _ => ?_)
      exact ok_eq (fun hc => absurd hc hgood) (fun _ => ok_s (fin cls))
    case pos =>
      have hwg : u27.2.2.2.1 = 0 := ti_ofI (by omega)
      obtain ⟨z1, z2, z3, z4⟩ := q8 hgood
      rw [hwg] at q7 ⊢
      rw [z1]
      have fr1 : ∀ x, (x < 12288 ∨ 18432 ≤ x) → u27.2.2.2.2.2.1 x = LF x ∧ u27.2.2.2.2.2.2 x = KF x := fun x hx => q5 x (by omega)
      have t4' : TR (nbase w h m) (rho w h 18432) ol u27.2.2.2.2.2.1 := t4.frame (fun x hx => (fr1 _ (Or.inr (rho_lt hG 18432 hx).1)).1)
      have t5' : TR (nbase w h m) (rho w h 18432) ok u27.2.2.2.2.2.2 := t5.frame (fun x hx => (fr1 _ (Or.inr (rho_lt hG 18432 hx).1)).2)
      by_cases hv : u27.1.toInt = 0
      case pos =>
        simp only [g_Mo_codeBlock_130, g_Mo_codeBlock_142, g_Side_headR_79, g_Side_headR_84]
        refine ok_eq (fun _ => ok_s ?_) (fun hc => by omega)
        refine ok_eq (fun _ => ?_) (fun hc => by omega)
        refine ok_eq (fun hc => by omega) (fun _ => ?_)
        refine ok_add (by omega) (fun x29 e29 => ?_)
        refine hcont wF aF fF pF tF lN lF _ inu _ _ op ol ok lc nF _ _ _ _ x29 0 0 P _ _ ct fiF miF _ _ brF toF WF oF LeF (by omega) hI1s hI4 ⟨z2, z3, q4, t4', t5', t6, q6⟩ hIl0 ⟨r1, r2, r3, r4, fun x hx => ?_⟩ q7 (by omega) (by omega)
        rw [(fr1 x (Or.inl hx)).1, (fr1 x (Or.inl hx)).2]
        exact r5 x hx
      case neg =>
        simp only [g_Mo_codeBlock_130]
        refine ok_eq (fun hc => absurd hc hv) (fun _ => ?_)
        refine ok_T (ok_T ?_)
        refine ok_swap (ok_eq (fun hc => absurd hc hv) (fun _ => ?_))
        refine ok_bs ?_
        simp only [f_Side_tellMissingR, clamp_eq, eb]
        refine ok_in (by omega) (ok_v ?_)
        refine ok_le (fun _ => ?_) (fun hc => by omega)
        refine ok_in (by omega) (ok_v ?_)
        refine ok_in (by omega) ?_
        refine ok_in (by omega) (ok_v ?_)
        have elf : (leF b).toInt.toNat = nbase w h i + k := by omega
        rw [elf]
        refine ok_b2 (s_tellRg (MX := 74) (T := 18432) hF hw L.2.1 hG hA hi hk ⟨by omega, by omega, by omega, by omega, by omega⟩ (by omega) ⟨hin.1, hin.2.1⟩ (Or.inr ⟨L.2.2.1, rfl⟩) hp0 hp1 ⟨by omega, by omega⟩ hleaf q6 t4' t5' t6 q7) (fun u8 u24 hq2 => ?_)
        obtain ⟨y1, y2, y3, y4, y5, y6, y7, y8⟩ := hq2
        rw [y3]
        refine ok_a (bool_nar y1) (ok_s ?_)
        have fr2 : ∀ x, x < 18432 → u24.2.2.2.2.2.1 x = u27.2.2.2.2.2.1 x ∧ u24.2.2.2.2.2.2 x = u27.2.2.2.2.2.2 x := fun x hx => y5 x (Or.inl hx)
        have fr3 : ∀ x, x < 12288 → u24.2.2.2.2.2.1 x = LF x ∧ u24.2.2.2.2.2.2 x = KF x := fun x hx => ⟨((fr2 x (by omega)).1).trans (fr1 x (Or.inl hx)).1, ((fr2 x (by omega)).2).trans (fr1 x (Or.inl hx)).2⟩
        have wrong172 : Ok (g_Mo_codeBlock_172 F st sz wr s 262144 2048 2048 24576 2048 2048 cF 2048 2048 8200 8200 brF toF WF oF LeF P u24.2.1 u24.2.2.1 u24.2.2.2.1 ct B miF fiF u24.2.2.2.2.2.1 u24.2.2.2.2.2.2 p0 p1 p2 x31) (fun t => FB nb P0 o0 l0 fi0 mi0 br0 to0 W0 L0 K0 B t) := by
          simp only [g_Mo_codeBlock_172, g_Mo_codeBlock_177, clamp_eq, ex31]
          refine ok_a ⟨bool_nar (by omega), bool_fit (by omega)⟩ ?_
          refine ok_eq (fun _ => ?_) (fun hc => by omega)
          refine ok_in (by omega) ?_
          refine ok_bm (w_numberOf (i := i) (k := k) hw ⟨hp0, by omega⟩ ⟨hp1, by omega⟩) (fun u23 e23 => ?_)
          refine ok_in (by omega) ?_
          refine ok_m (w_209X (b' := 1024 + b) ⟨hx31, by omega⟩) (fun t ht => ?_)
          obtain ⟨e', q', rfl⟩ := ht
          exact mkFB _ _ _ _ _ _ _ _ L.2.2.1 (fun x hx => ⟨upd_no hx, upd_no hx⟩) fr3
        by_cases hgood2 : u24.2.2.2.1.toInt = 0
        case neg =>
          have hsb := y7.sb hgood2
          refine ok_eq (fun hc => absurd hc hgood2) (fun _ => ?_)
          refine ok_m wrong172 (fun t ht => ?_)
          refine ok_eq (fun _ => ?_) (fun _ => ?_)
          · exact ok_m (mkPX _ _ _ _ _ _ _ _ _ _ _ _ _ _ _ _ _ _ _ y7.sg) (fun u hu => hbad u _ hu ht)
          · exact ok_m (x_rest (leN := leN) (abN := abN) (iP := iP) (iN := iN) (iL := iL) (iK := iK) (oP := oP) (oN := oN) (oL := oL) (oK := oK) (i := i) (k := k) (b := b) (onu := onu) (leF := leF) (abF := abF) hF hG hA hL hnb hlay hsz hcn hbF hly hb hi hk (hX1 _ _ _ _ q4 y4) hsb.1 hrec) (fun u hu => hbad u _ hu ht)
        case pos =>
          have hwg2 : u24.2.2.2.1 = 0 := ti_ofI (by omega)
          obtain ⟨z1', z2', z3', z4'⟩ := y8 hgood2
          refine ok_eq (fun _ => ?_) (fun hc => absurd hgood2 hc)
          by_cases hv2 : u24.1.toInt = 0
          case pos =>
            refine ok_eq (fun _ => ?_) (fun hc => absurd hv2 hc)
            refine ok_m wrong172 (fun t ht => ?_)
            rw [z1']
            refine ok_eq (fun _ => ?_) (fun hc => absurd hv2 hc)
            exact ok_m (mkPX _ _ _ _ _ _ _ _ _ _ _ _ _ _ _ _ _ _ _ y7.sg) (fun u hu => hbad u _ hu ht)
          case neg =>
            rw [hwg2] at y7 ⊢
            refine ok_eq (fun hc => absurd hc hv2) (fun _ => ?_)
            simp only [g_Mo_codeBlock_177, clamp_eq, ex31]
            refine ok_a ⟨bool_nar (by omega), bool_fit (by omega)⟩ ?_
            refine ok_eq (fun _ => ?_) (fun hc => by omega)
            refine ok_in (by omega) ?_
            refine ok_bm (w_numberOf (i := i) (k := k) hw ⟨hp0, by omega⟩ ⟨hp1, by omega⟩) (fun u23 e23 => ?_)
            refine ok_in (by omega) (ok_swap ?_)
            rw [z1']
            refine ok_eq (fun hc => absurd hc hv2) (fun _ => ?_)
            have hka : k < allOf (w i) (h i) := by
              have hx := kxy hk
              have := hG.in hi (Nat.zero_le _) (show k % w i < hf (w i) 0 by rw [hf_0]; exact hx.1) (show k / w i < hf (h i) 0 by rw [hf_0]; exact hx.2.1)
              rw [nd0, hx.2.2.1] at this
              exact this
            have eol : u8.2.2.1 (nbase w h i + k) = u23 := by
              rw [z2' _ hlt, rho_at hG hi hka, e23]
            have tz1 : TR (nbase w h m) (rho w h 12288) u11.2.2.1 u24.2.2.2.2.2.1 := z2.frame (fun x hx => (fr2 _ (by have := rho_lt hG 12288 hx; omega)).1)
            have tz2 : TR (nbase w h m) (rho w h 12288) u11.2.2.2.1 u24.2.2.2.2.2.2 := z3.frame (fun x hx => (fr2 _ (by have := rho_lt hG 12288 hx; omega)).2)
            have nIt : IRt m w h layer u11.2.2.1 u11.2.2.2.1 u8.2.2.1 u8.2.2.2.1 u24.2.2.2.2.2.1 u24.2.2.2.2.2.2 := ⟨tz1, tz2, q4, z2', z3', y4, y6⟩
            have nfr : FR nb P0 o0 l0 fi0 mi0 br0 to0 W0 L0 K0 P.toInt (upd fiF (1024 + b) p2) (upd miF (1024 + b) u23) u24.2.2.2.2.2.1 u24.2.2.2.2.2.2 brF toF WF oF LeF := by
              try dsimp only
              refine ⟨fun x hx => ?_, r2, r3, r4, fun x hx => ?_⟩
              · rw [upd_no (by omega), upd_no (by omega)]; exact r1 x hx
              · rw [(fr3 x hx).1, (fr3 x hx).2]; exact r5 x hx
            refine s_restR (leN := leN) (abN := abN) (iP := iP) (iN := iN) (iL := iL) (iK := iK) (oP := oP) (oN := oN) (oL := oL) (oK := oK) (i := i) (k := k) (b := b) (onu := onu) (ly := ly) (beF := beF) (wiF := wiF) (hiF := hiF) (leF := leF) (abF := abF) (layer := layer) hF hC0 hsz hcn hbF hly hw hb hi hk hP0 hx31 hI10 (fun i' k' h1 h2 h3 => ?_) ⟨by rw [upd_is]; omega, by rw [upd_is, upd_is]; exact ti_ofI (by omega), by rw [upd_is]; exact eol⟩ nIt hIl0 nfr y7 hrec hbad (fun wF' aF' fF' pF' tF' lN' lF' lc' nF' n0' la' lf' lk' x29 nc ns P' e' q' ct' brF' toF' WF' oF' LeF' f1 f2 f3 f4 f5 f6 f7 f8 => hcont wF' aF' fF' pF' tF' lN' lF' _ _ _ _ _ _ _ lc' nF' n0' la' lf' lk' x29 nc ns P' e' q' ct' _ _ _ _ brF' toF' WF' oF' LeF' f1 f2 f3 nIt f4 f5 f6 f7 f8)
            have h9 := hI4 i' k' h1 h2
            unfold IR4 at h9 ⊢
            have hne : ¬ bbase w h i' + k' = b := fun z => h3 (block_inj h2 hk (by omega))
            have hne2 : ¬ nbase w h i' + k' = nbase w h i + k := by
              intro z
              have hx := kxy h2
              have := hG.in h1 (Nat.zero_le _) (show k' % w i' < hf (w i') 0 by rw [hf_0]; exact hx.1) (show k' / w i' < hf (h i') 0 by rw [hf_0]; exact hx.2.1)
              rw [nd0, hx.2.2.1] at this
              exact h3 (node_inj this hka z)
            rw [upd_no (by omega), upd_no (by omega), upd_no hne2, z4' i' k' h1 h2 h3]
            exact h9
