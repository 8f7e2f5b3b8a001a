/-! A head that is read, when bits lack: it goes on alone, and comes to an end. -/
def XR (m : Nat) (w h : Nat → Nat) (nb layer b0 : Nat) (wF aF fF pF nF : Nat → Int32) (lc : Int32) (lN : Nat) (il ik ol ok : Nat → Int32) : Prop :=
  (∀ b, b0 ≤ b → b < nb → (nF b).toInt = 0 ∧ (pF b).toInt = 0 ∧ 0 ≤ (aF b).toInt ∧ (aF b).toInt ≤ 200 ∧ 3 ≤ (wF b).toInt ∧ (wF b).toInt ≤ 32) ∧ LI nb lc.toInt fF pF ∧ lc.toInt ≤ lN ∧ 16 ≤ lN ∧ lN ≤ 8192 ∧ TSR (nbase w h m) (layer + 1) il ik ∧ TSR (nbase w h m) 74 ol ok
def PXr (lN : Nat) (en c : Int32) (N : Nat) (u : Nat × Nat × Int32 × Int32 × (Nat → Int32) × (Nat → Int32) × (Nat → Int32) × (Nat → Int32) × (Nat → Int32) × (Nat → Int32) × Nat × (Nat → Int32) × (Nat → Int32) × (Nat → Int32) × (Nat → Int32) × (Nat → Int32) × (Nat → Int32) × (Nat → Int32) × (Nat → Int32) × Int32 × Int32 × Int32 × Int32) : Prop :=
  16 * u.1 + lN ≤ u.2.2.2.2.2.2.2.2.2.2.1 ∧ u.2.1 + 2 * lN ≤ 2 * u.2.2.2.2.2.2.2.2.2.2.1 ∧ 16 ≤ u.2.2.2.2.2.2.2.2.2.2.1 ∧ u.2.2.2.2.2.2.2.2.2.2.1 ≤ 8192 ∧ (u.2.2.1.toInt = 0 ∨ u.2.2.2.2.2.2.2.2.2.2.2.2.2.2.2.2.2.2.2.2.2.2.toInt = 1) ∧ SG u.2.2.2.2.2.2.2.2.2.2.2.2.2.2.2.2.2.2.2.1 en c N
theorem PXr.add {lN lN' nc ns : Nat} {en c : Int32} {N : Nat} {z : Nat × Nat × Int32 × Int32 × (Nat → Int32) × (Nat → Int32) × (Nat → Int32) × (Nat → Int32) × (Nat → Int32) × (Nat → Int32) × Nat × (Nat → Int32) × (Nat → Int32) × (Nat → Int32) × (Nat → Int32) × (Nat → Int32) × (Nat → Int32) × (Nat → Int32) × (Nat → Int32) × Int32 × Int32 × Int32 × Int32} (h : PXr lN' en c N z) (h1 : 16 * nc + lN ≤ lN') (h2 : ns + 2 * lN ≤ 2 * lN') : PXr lN en c N (z.1 + nc, z.2.1 + ns, z.2.2) := by
  obtain ⟨a1, a2, a3, a4, a5, a6⟩ := h
  try dsimp only
  exact ⟨by dsimp only; omega, by dsimp only; omega, a3, a4, a5, a6⟩
set_option maxHeartbeats 2000000 in
theorem x_acc {F : Nat} (hF : 1000000 ≤ F) {m : Nat} {w h : Nat → Nat} {nb layer b i k : Nat} {rec23 : (Nat → Int32) → (Nat → Int32) → (Nat → Int32) → (Nat → Int32) → (Nat → Int32) → Nat → (Nat → Int32) → (Nat → Int32) → (Nat → Int32) → (Nat → Int32) → (Nat → Int32) → (Nat → Int32) → (Nat → Int32) → (Nat → Int32) → Int32 → (Nat → Int32) → Int32 → Int32 → Int32 → Int32 → Int32 → Option (Nat × Nat × Int32 × Int32 × (Nat → Int32) × (Nat → Int32) × (Nat → Int32) × (Nat → Int32) × (Nat → Int32) × (Nat → Int32) × Nat × (Nat → Int32) × (Nat → Int32) × (Nat → Int32) × (Nat → Int32) × (Nat → Int32) × (Nat → Int32) × (Nat → Int32) × (Nat → Int32) × Int32 × Int32 × Int32 × Int32)}
    {ly cn st : Int32} {bN leN abN wN aN nN fN pN tN iP iN iL iK oP oN oL oK lN : Nat} {bF leF abF onu wF aF fF pF tF lF ip inu il ik op ol ok nF : Nat → Int32} {lc n0 en la lf lk c : Int32} {N : Nat} {R : Nat → Int32} {v2 : Int32}
    (hG : Geo m w h) (hA : GA m w h abF) (hL : GL m w h leF) (hnb : nb = bbase w h m) (hlay : layer ≤ 254)
    (hsz : nb ≤ leN ∧ nbase w h m ≤ abN ∧ nb ≤ wN ∧ nb ≤ aN ∧ nb ≤ nN ∧ nb ≤ fN ∧ nb ≤ pN ∧ nb ≤ tN ∧ iP = 7 ∧ nbase w h m ≤ iN ∧ nbase w h m ≤ iL ∧ nbase w h m ≤ iK ∧ oP = 7 ∧ nbase w h m ≤ oN ∧ nbase w h m ≤ oL ∧ nbase w h m ≤ oK)
    (hcn : cn.toInt = m ∧ m < bN) (hbF : (bF m).toInt = nb) (hly : ly.toInt = layer) (hb : v2.toInt = b ∧ b = bbase w h i + k) (hi : i < m) (hk : k < w i * h i) {pz : Int32} (hpz : 0 ≤ pz.toInt ∧ pz.toInt ≤ 164) (hX : XR m w h nb layer b wF aF fF pF nF lc lN il ik ol ok) (hsb : SB n0 en lf lk c N)
    (hrec : ∀ (wF' aF' fF' pF' tF' : Nat → Int32) (lN' : Nat) (lF' ip' inu' il' ik' op' ol' ok' : Nat → Int32) (lc' : Int32) (nF' : Nat → Int32) (n0' la' lf' lk' x29 : Int32), x29.toInt = (b : Int) + 1 → XR m w h nb layer (b + 1) wF' aF' fF' pF' nF' lc' lN' il' ik' ol' ok' → SB n0' en lf' lk' c N → Ok (rec23 wF' aF' fF' pF' tF' lN' lF' ip' inu' il' ik' op' ol' ok' lc' nF' n0' la' lf' lk' x29) (fun z => PXr lN' en c N z)) :
    Ok (bd (f_Side_accept F lc cn st bN bF aN aF nN nF fN fF pN pF tN tF lN lF v2 pz) fun u20 =>
addc u20.1 u20.2.1 (
if u20.2.2.1 = 0 then (
g_Side_headR_83 F rec23 wF u20.2.2.2.2.2.1 u20.2.2.2.2.2.2.1 u20.2.2.2.2.2.2.2.1 u20.2.2.2.2.2.2.2.2.1 u20.2.2.2.2.2.2.2.2.2 u20.2.2.2.2.1 ip il ik u20.2.2.2.1 aF inu op ol ok n0 la lf lk v2) else (
bd (f_Side_tellLengthsR F st wN wF aN aF nN u20.2.2.2.2.1 fN u20.2.2.2.2.2.1 pN u20.2.2.2.2.2.2.1 u20.2.2.2.2.2.2.2.2.1 u20.2.2.2.2.2.2.2.2.2 n0 en la lf lk c N R v2) fun u24 =>
if u24.1 = 0 then (
g_Side_headR_83 F rec23 u24.2.1 u20.2.2.2.2.2.1 u20.2.2.2.2.2.2.1 u20.2.2.2.2.2.2.2.1 u20.2.2.2.2.2.2.2.2.1 u24.2.2.2.1 u20.2.2.2.2.1 ip il ik u20.2.2.2.1 u24.2.2.1 inu op ol ok u24.2.2.2.2.1 u24.2.2.2.2.2.1 u24.2.2.2.2.2.2.1 u24.2.2.2.2.2.2.2 v2) else (
g_Side_headR_79 F rec23 u24.2.1 u20.2.2.2.2.2.1 u20.2.2.2.2.2.2.1 u20.2.2.2.2.2.2.2.1 u20.2.2.2.2.2.2.2.2.1 u24.2.2.2.1 op ol ok u20.2.2.2.1 u24.2.2.1 u20.2.2.2.2.1 ip inu il ik u24.2.2.2.2.1 u24.2.2.2.2.2.1 u24.2.2.2.2.2.2.1 u24.2.2.2.2.2.2.2 v2)))) (fun u => PXr lN en c N u) := by
  have L := lits
  have eb : v2.toInt.toNat = b := by omega
  have gw := hG.wh hi
  obtain ⟨x1, x2, x3, x4, x5, x6, x7⟩ := hX
  have hB := x1 b (by omega) (by omega)
  have hlc0 := x2.2.2.2
  have bad : ∀ (lc1 : Int32) (nF1 fF1 pF1 tF1 : Nat → Int32) (lN1 : Nat) (lF1 : Nat → Int32), lN ≤ lN1 → lN1 ≤ 8192 → ∀ (aF1 wF1 : Nat → Int32) (n1 la1 lf1 lk1 : Int32), SG n1 en c N → Ok (g_Side_headR_83 F rec23 wF1 fF1 pF1 tF1 lN1 lF1 nF1 ip il ik lc1 aF1 inu op ol ok n1 la1 lf1 lk1 v2) (fun u => PXr lN1 en c N u) := by
    intro lc1 nF1 fF1 pF1 tF1 lN1 lF1 h1 h2 aF1 wF1 n1 la1 lf1 lk1 hsg
    simp only [g_Side_headR_83, g_Side_headR_84]
    refine ok_T (ok_s ?_)
    try dsimp only
    exact ⟨by dsimp only; omega, by dsimp only; omega, by dsimp only; omega, h2, Or.inl L.2.1, hsg⟩
  simp only [f_Side_accept, g_Side_accept_32, g_Side_accept_36, g_Side_accept_37, clamp_eq, eb]
  refine ok_bm (Q := fun u20 => (u20 = (0, 0, 0, lc, nF, fF, pF, tF, lN, lF)) ∨ (u20.2.2.1.toInt = 1 ∧ u20.2.2.2.2.1 = upd nF b pz ∧ (∃ pv : Int32, pv.toInt = pcs st (aF b).toInt.toNat pz.toInt.toNat ∧ u20.2.2.2.2.2.2.1 = upd pF b pv) ∧ 0 ≤ (u20.2.2.2.2.2.1 b).toInt ∧ (u20.2.2.2.2.2.1 b).toInt + pcs st (aF b).toInt.toNat pz.toInt.toNat ≤ u20.2.2.2.1.toInt ∧ (aF b).toInt + pz.toInt ≤ 200 ∧ LI nb u20.2.2.2.1.toInt u20.2.2.2.2.2.1 u20.2.2.2.2.2.2.1 ∧ 16 * u20.1 + lN ≤ u20.2.2.2.2.2.2.2.2.1 ∧ u20.2.1 + 2 * lN ≤ 2 * u20.2.2.2.2.2.2.2.2.1 ∧ u20.2.2.2.1.toInt ≤ u20.2.2.2.2.2.2.2.2.1 ∧ u20.2.2.2.2.2.2.2.2.1 ≤ 8192)) ?_ (fun u20 e20 => ?_)
  · refine ok_in (by omega) (ok_v ?_)
    refine ok_lt (fun hc => by omega) (fun _ => ?_)
    refine ok_in (by omega) (ok_v ?_)
    refine ok_add (by omega) (fun x10 e10 => ?_)
    refine ok_lt (fun _ => ok_a (bool_nar (by omega)) (ok_s (Or.inl rfl))) (fun c1 => ?_)
    refine ok_bm (w_lay (a := (aF b).toInt.toNat) (n := pz.toInt.toNat) hF hcn hbF ⟨hb.1, by omega, by omega, by omega, by omega, by omega, by omega, by omega⟩ (by omega) (by omega) (by omega) x2 ⟨x3, x4, x5⟩) (fun u11 e11 => ?_)
    rcases e11 with ⟨y1, y2⟩ | ⟨y1, y2, y3, y4, y5, y6, y7, y8, y9, y10, y11, y12, y13⟩
    · subst y2
      dsimp only
      refine ok_c (ok_eq (fun _ => ?_) (fun hc => absurd rfl hc))
      exact ok_a (bool_nar (by omega)) (ok_s (Or.inl rfl))
    · refine ok_c (ok_eq (fun hc => by omega) (fun _ => ok_a (bool_nar (by omega)) (ok_s (Or.inr ?_))))
      dsimp only
      try dsimp only
      exact ⟨L.2.2.1, y4, y6, by omega, by omega, by omega, y8, by omega, by omega, y12, y13⟩
  · rcases e20 with y2 | ⟨y2, y4, ⟨pv, y6, y6'⟩, y7, y7', y7'', y8, y10, y11, y12, y13⟩
    · subst y2
      dsimp only
      refine ok_c (ok_eq (fun _ => ?_) (fun hc => absurd rfl hc))
      refine ok_m (bad lc nF fF pF tF lN lF (Nat.le_refl _) x5 aF wF n0 la lf lk hsb.sg) (fun u hu => ?_)
      exact hu.add (by omega) (by omega)
    · refine ok_c (ok_eq (fun hc => by omega) (fun _ => ?_))
      rw [y4, y6']
      refine ok_bm (w_lenRx (a := (aF b).toInt.toNat) (n := pz.toInt.toNat) (fr := (u20.2.2.2.2.2.1 b).toInt.toNat) (pc := pcs st (aF b).toInt.toNat pz.toInt.toNat) (wd := (wF b).toInt.toNat) hF hsb ⟨hb.1, by omega, by omega, by omega, by omega, by omega⟩ (by omega) (by rw [upd_is]; omega) (by omega) (by rw [upd_is]; exact y6) ⟨by omega, rfl, by omega, by omega⟩ ⟨by omega, by omega⟩) (fun u24 e24 => ?_)
      unfold QX at e24
      obtain ⟨z1, z2, z3, z4, z5, z6, z7, z8, z9⟩ := e24
      refine ok_eq (fun _ => ?_) (fun _ => ?_)
      · refine ok_m (bad _ _ _ _ _ _ _ (by omega) y13 _ _ _ _ _ _ (by rw [z6]; exact hsb.sg)) (fun u hu => ?_)
        exact hu.add (by omega) (by omega)
      · simp only [g_Side_headR_79, g_Side_headR_84]
        refine ok_eq (fun hc => by omega) (fun _ => ?_)
        refine ok_add (by omega) (fun x29 e29 => ?_)
        refine ok_m (hrec _ _ _ _ _ _ _ _ _ _ _ _ _ _ _ _ _ _ _ _ x29 (by omega) ⟨fun o h1 h2 => ?_, ?_, y12, by omega, y13, x6, x7⟩ (by rw [z6, z8, z9]; exact hsb)) (fun u hu => hu.add (by omega) (by omega))
        · have q1 := x1 o (by omega) h2
          rw [upd_no (by omega), upd_no (by omega), z1 o (by omega), z2 o (by omega)]
          exact q1
        · rw [← y6']; exact y8
set_option maxHeartbeats 2000000 in
theorem x_rest {F : Nat} (hF : 1000000 ≤ F) {m : Nat} {w h : Nat → Nat} {nb layer b i k : Nat} {rec23 : (Nat → Int32) → (Nat → Int32) → (Nat → Int32) → (Nat → Int32) → (Nat → Int32) → Nat → (Nat → Int32) → (Nat → Int32) → (Nat → Int32) → (Nat → Int32) → (Nat → Int32) → (Nat → Int32) → (Nat → Int32) → (Nat → Int32) → Int32 → (Nat → Int32) → Int32 → Int32 → Int32 → Int32 → Int32 → Option (Nat × Nat × Int32 × Int32 × (Nat → Int32) × (Nat → Int32) × (Nat → Int32) × (Nat → Int32) × (Nat → Int32) × (Nat → Int32) × Nat × (Nat → Int32) × (Nat → Int32) × (Nat → Int32) × (Nat → Int32) × (Nat → Int32) × (Nat → Int32) × (Nat → Int32) × (Nat → Int32) × Int32 × Int32 × Int32 × Int32)}
    {ly cn st : Int32} {bN leN abN wN aN nN fN pN tN iP iN iL iK oP oN oL oK lN : Nat} {bF leF abF onu wF aF fF pF tF lF ip inu il ik op ol ok nF : Nat → Int32} {lc n0 en la lf lk c : Int32} {N : Nat} {R : Nat → Int32} {v2 : Int32}
    (hG : Geo m w h) (hA : GA m w h abF) (hL : GL m w h leF) (hnb : nb = bbase w h m) (hlay : layer ≤ 254)
    (hsz : nb ≤ leN ∧ nbase w h m ≤ abN ∧ nb ≤ wN ∧ nb ≤ aN ∧ nb ≤ nN ∧ nb ≤ fN ∧ nb ≤ pN ∧ nb ≤ tN ∧ iP = 7 ∧ nbase w h m ≤ iN ∧ nbase w h m ≤ iL ∧ nbase w h m ≤ iK ∧ oP = 7 ∧ nbase w h m ≤ oN ∧ nbase w h m ≤ oL ∧ nbase w h m ≤ oK)
    (hcn : cn.toInt = m ∧ m < bN) (hbF : (bF m).toInt = nb) (hly : ly.toInt = layer) (hb : v2.toInt = b ∧ b = bbase w h i + k) (hi : i < m) (hk : k < w i * h i) (hX : XR m w h nb layer b wF aF fF pF nF lc lN il ik ol ok) (hsb : SB n0 en lf lk c N)
    (hrec : ∀ (wF' aF' fF' pF' tF' : Nat → Int32) (lN' : Nat) (lF' ip' inu' il' ik' op' ol' ok' : Nat → Int32) (lc' : Int32) (nF' : Nat → Int32) (n0' la' lf' lk' x29 : Int32), x29.toInt = (b : Int) + 1 → XR m w h nb layer (b + 1) wF' aF' fF' pF' nF' lc' lN' il' ik' ol' ok' → SB n0' en lf' lk' c N → Ok (rec23 wF' aF' fF' pF' tF' lN' lF' ip' inu' il' ik' op' ol' ok' lc' nF' n0' la' lf' lk' x29) (fun z => PXr lN' en c N z)) :
    Ok (asm (vp_in v2 nN) (letb (nF b) fun x18 =>
bd (f_Bits_passesR F n0 en la lf lk c N R x18) fun u19 =>
bd (f_Side_accept F lc cn st bN bF aN aF nN nF fN fF pN pF tN tF lN lF v2 u19.1) fun u20 =>
addc u20.1 u20.2.1 (
if u20.2.2.1 = 0 then (
g_Side_headR_83 F rec23 wF u20.2.2.2.2.2.1 u20.2.2.2.2.2.2.1 u20.2.2.2.2.2.2.2.1 u20.2.2.2.2.2.2.2.2.1 u20.2.2.2.2.2.2.2.2.2 u20.2.2.2.2.1 ip il ik u20.2.2.2.1 aF inu op ol ok u19.2.1 u19.2.2.1 u19.2.2.2.1 u19.2.2.2.2 v2) else (
bd (f_Side_tellLengthsR F st wN wF aN aF nN u20.2.2.2.2.1 fN u20.2.2.2.2.2.1 pN u20.2.2.2.2.2.2.1 u20.2.2.2.2.2.2.2.2.1 u20.2.2.2.2.2.2.2.2.2 u19.2.1 en u19.2.2.1 u19.2.2.2.1 u19.2.2.2.2 c N R v2) fun u24 =>
if u24.1 = 0 then (
g_Side_headR_83 F rec23 u24.2.1 u20.2.2.2.2.2.1 u20.2.2.2.2.2.2.1 u20.2.2.2.2.2.2.2.1 u20.2.2.2.2.2.2.2.2.1 u24.2.2.2.1 u20.2.2.2.2.1 ip il ik u20.2.2.2.1 u24.2.2.1 inu op ol ok u24.2.2.2.2.1 u24.2.2.2.2.2.1 u24.2.2.2.2.2.2.1 u24.2.2.2.2.2.2.2 v2) else (
g_Side_headR_79 F rec23 u24.2.1 u20.2.2.2.2.2.1 u20.2.2.2.2.2.2.1 u20.2.2.2.2.2.2.2.1 u20.2.2.2.2.2.2.2.2.1 u24.2.2.2.1 op ol ok u20.2.2.2.1 u24.2.2.1 u20.2.2.2.2.1 ip inu il ik u24.2.2.2.2.1 u24.2.2.2.2.2.1 u24.2.2.2.2.2.2.1 u24.2.2.2.2.2.2.2 v2))))) (fun u => PXr lN en c N u) := by
  have L := lits
  have gw := hG.wh hi
  refine ok_in (by omega) (ok_v ?_)
  refine ok_bm (w_pasRx hsb) (fun u19 e19 => ?_)
  obtain ⟨q1, q2, q3, q4, q5⟩ := e19
  rw [q2, q3, q4, q5]
  exact x_acc (leN := leN) (abN := abN) (iP := iP) (iN := iN) (iL := iL) (iK := iK) (oP := oP) (oN := oN) (oL := oL) (oK := oK) (i := i) (k := k) (b := b) (onu := onu) hF hG hA hL hnb hlay hsz hcn hbF hly hb hi hk (by omega) hX hsb hrec
set_option maxHeartbeats 2000000 in
theorem x_miss {F : Nat} (hF : 1000000 ≤ F) {m : Nat} {w h : Nat → Nat} {nb layer b i k : Nat} {rec23 : (Nat → Int32) → (Nat → Int32) → (Nat → Int32) → (Nat → Int32) → (Nat → Int32) → Nat → (Nat → Int32) → (Nat → Int32) → (Nat → Int32) → (Nat → Int32) → (Nat → Int32) → (Nat → Int32) → (Nat → Int32) → (Nat → Int32) → Int32 → (Nat → Int32) → Int32 → Int32 → Int32 → Int32 → Int32 → Option (Nat × Nat × Int32 × Int32 × (Nat → Int32) × (Nat → Int32) × (Nat → Int32) × (Nat → Int32) × (Nat → Int32) × (Nat → Int32) × Nat × (Nat → Int32) × (Nat → Int32) × (Nat → Int32) × (Nat → Int32) × (Nat → Int32) × (Nat → Int32) × (Nat → Int32) × (Nat → Int32) × Int32 × Int32 × Int32 × Int32)}
    {ly cn st : Int32} {bN leN abN wN aN nN fN pN tN iP iN iL iK oP oN oL oK lN : Nat} {bF leF abF onu wF aF fF pF tF lF ip inu il ik op ol ok nF : Nat → Int32} {lc n0 en la lf lk c : Int32} {N : Nat} {R : Nat → Int32} {v2 : Int32}
    (hG : Geo m w h) (hA : GA m w h abF) (hL : GL m w h leF) (hnb : nb = bbase w h m) (hlay : layer ≤ 254)
    (hsz : nb ≤ leN ∧ nbase w h m ≤ abN ∧ nb ≤ wN ∧ nb ≤ aN ∧ nb ≤ nN ∧ nb ≤ fN ∧ nb ≤ pN ∧ nb ≤ tN ∧ iP = 7 ∧ nbase w h m ≤ iN ∧ nbase w h m ≤ iL ∧ nbase w h m ≤ iK ∧ oP = 7 ∧ nbase w h m ≤ oN ∧ nbase w h m ≤ oL ∧ nbase w h m ≤ oK)
    (hcn : cn.toInt = m ∧ m < bN) (hbF : (bF m).toInt = nb) (hly : ly.toInt = layer) (hb : v2.toInt = b ∧ b = bbase w h i + k) (hi : i < m) (hk : k < w i * h i) (hX : XR m w h nb layer b wF aF fF pF nF lc lN il ik ol ok) (hsb : SB n0 en lf lk c N)
    (hrec : ∀ (wF' aF' fF' pF' tF' : Nat → Int32) (lN' : Nat) (lF' ip' inu' il' ik' op' ol' ok' : Nat → Int32) (lc' : Int32) (nF' : Nat → Int32) (n0' la' lf' lk' x29 : Int32), x29.toInt = (b : Int) + 1 → XR m w h nb layer (b + 1) wF' aF' fF' pF' nF' lc' lN' il' ik' ol' ok' → SB n0' en lf' lk' c N → Ok (rec23 wF' aF' fF' pF' tF' lN' lF' ip' inu' il' ik' op' ol' ok' lc' nF' n0' la' lf' lk' x29) (fun z => PXr lN' en c N z)) :
    Ok (bd (f_Side_tellMissingR F ly aN aF leN leF abN abF iN inu oP op oN onu oL ol oK ok n0 en la lf lk c N R v2) fun u17 =>
if u17.1 = 0 then (
g_Side_headR_83 F rec23 wF fF pF tF lN lF nF ip il ik lc aF u17.2.1 u17.2.2.1 u17.2.2.2.1 u17.2.2.2.2.1 u17.2.2.2.2.2.1 u17.2.2.2.2.2.2.1 u17.2.2.2.2.2.2.2.1 u17.2.2.2.2.2.2.2.2 v2) else (
asm (vp_in v2 nN) (letb (nF b) fun x18 =>
bd (f_Bits_passesR F u17.2.2.2.2.2.1 en u17.2.2.2.2.2.2.1 u17.2.2.2.2.2.2.2.1 u17.2.2.2.2.2.2.2.2 c N R x18) fun u19 =>
bd (f_Side_accept F lc cn st bN bF aN aF nN nF fN fF pN pF tN tF lN lF v2 u19.1) fun u20 =>
addc u20.1 u20.2.1 (
if u20.2.2.1 = 0 then (
g_Side_headR_83 F rec23 wF u20.2.2.2.2.2.1 u20.2.2.2.2.2.2.1 u20.2.2.2.2.2.2.2.1 u20.2.2.2.2.2.2.2.2.1 u20.2.2.2.2.2.2.2.2.2 u20.2.2.2.2.1 ip il ik u20.2.2.2.1 aF u17.2.1 u17.2.2.1 u17.2.2.2.1 u17.2.2.2.2.1 u19.2.1 u19.2.2.1 u19.2.2.2.1 u19.2.2.2.2 v2) else (
bd (f_Side_tellLengthsR F st wN wF aN aF nN u20.2.2.2.2.1 fN u20.2.2.2.2.2.1 pN u20.2.2.2.2.2.2.1 u20.2.2.2.2.2.2.2.2.1 u20.2.2.2.2.2.2.2.2.2 u19.2.1 en u19.2.2.1 u19.2.2.2.1 u19.2.2.2.2 c N R v2) fun u24 =>
if u24.1 = 0 then (
g_Side_headR_83 F rec23 u24.2.1 u20.2.2.2.2.2.1 u20.2.2.2.2.2.2.1 u20.2.2.2.2.2.2.2.1 u20.2.2.2.2.2.2.2.2.1 u24.2.2.2.1 u20.2.2.2.2.1 ip il ik u20.2.2.2.1 u24.2.2.1 u17.2.1 u17.2.2.1 u17.2.2.2.1 u17.2.2.2.2.1 u24.2.2.2.2.1 u24.2.2.2.2.2.1 u24.2.2.2.2.2.2.1 u24.2.2.2.2.2.2.2 v2) else (
g_Side_headR_79 F rec23 u24.2.1 u20.2.2.2.2.2.1 u20.2.2.2.2.2.2.1 u20.2.2.2.2.2.2.2.1 u20.2.2.2.2.2.2.2.2.1 u24.2.2.2.1 u17.2.2.1 u17.2.2.2.1 u17.2.2.2.2.1 u20.2.2.2.1 u24.2.2.1 u20.2.2.2.2.1 ip u17.2.1 il ik u24.2.2.2.2.1 u24.2.2.2.2.2.1 u24.2.2.2.2.2.2.1 u24.2.2.2.2.2.2.2 v2)))))) (fun u => PXr lN en c N u) := by
  have L := lits
  have gw := hG.wh hi
  have eb : v2.toInt.toNat = b := by omega
  have hmax := hG.max
  have t6 := topOf_le (w i) (h i)
  have hleaf := hL i k hi hk
  rw [← hb.2] at hleaf
  have hlt : nbase w h i + k < nbase w h m := by
    have := (pth_path hG hA hi hk).2.2 0 (Nat.zero_le _)
    rw [pth_0 hk] at this
    exact this
  obtain ⟨x1, x2, x3, x4, x5, x6, x7⟩ := hX
  refine ok_bm (Q := fun u17 => TSR (nbase w h m) 74 u17.2.2.2.1 u17.2.2.2.2.1 ∧ u17.2.2.2.2.2.1 = n0 ∧ u17.2.2.2.2.2.2.1 = la ∧ u17.2.2.2.2.2.2.2.1 = lf ∧ u17.2.2.2.2.2.2.2.2 = lk) ?_ (fun u17 e17 => ?_)
  · simp only [f_Side_tellMissingR, clamp_eq, eb]
    refine ok_in (by omega) (ok_v ?_)
    refine ok_le (fun _ => ?_) (fun _ => ok_s ⟨x7, rfl, rfl, rfl, rfl⟩)
    refine ok_in (by omega) (ok_v ?_)
    refine ok_in (by omega) ?_
    refine ok_in (by omega) (ok_v ?_)
    refine ok_bm (w_tellRx (xs := pth w h i k) (top := topOf (w i) (h i)) (MX := 74) (nn := nbase w h m) hF hsb ⟨by omega, by omega, by omega, by omega, by omega, by omega, by omega, t6⟩ ⟨by omega, by omega⟩ (pth_path hG hA hi hk) (by rw [pth_0 hk]; exact hleaf) x7) (fun u8 e8 => ?_)
    obtain ⟨q1, q2, q3, q4, q5, q6⟩ := e8
    exact ok_a (bool_nar q1) (ok_s ⟨q2, q3, q4, q5, q6⟩)
  · obtain ⟨q1, q2, q3, q4, q5⟩ := e17
    rw [q2, q3, q4, q5]
    refine ok_eq (fun _ => ?_) (fun _ => ?_)
    · simp only [g_Side_headR_83, g_Side_headR_84]
      refine ok_T (ok_s ?_)
      try dsimp only
      exact ⟨by dsimp only; omega, by dsimp only; omega, x4, x5, Or.inl L.2.1, hsb.sg⟩
    · exact x_rest (leN := leN) (abN := abN) (iP := iP) (iN := iN) (iL := iL) (iK := iK) (oP := oP) (oN := oN) (oL := oL) (oK := oK) (i := i) (k := k) (b := b) (onu := onu) hF hG hA hL hnb hlay hsz hcn hbF hly hb hi hk ⟨x1, x2, x3, x4, x5, x6, q1⟩ hsb hrec
set_option maxHeartbeats 2000000 in
theorem x_block {F : Nat} (hF : 1000000 ≤ F) {m : Nat} {w h : Nat → Nat} {nb layer b i k : Nat} {rec23 : (Nat → Int32) → (Nat → Int32) → (Nat → Int32) → (Nat → Int32) → (Nat → Int32) → Nat → (Nat → Int32) → (Nat → Int32) → (Nat → Int32) → (Nat → Int32) → (Nat → Int32) → (Nat → Int32) → (Nat → Int32) → (Nat → Int32) → Int32 → (Nat → Int32) → Int32 → Int32 → Int32 → Int32 → Int32 → Option (Nat × Nat × Int32 × Int32 × (Nat → Int32) × (Nat → Int32) × (Nat → Int32) × (Nat → Int32) × (Nat → Int32) × (Nat → Int32) × Nat × (Nat → Int32) × (Nat → Int32) × (Nat → Int32) × (Nat → Int32) × (Nat → Int32) × (Nat → Int32) × (Nat → Int32) × (Nat → Int32) × Int32 × Int32 × Int32 × Int32)}
    {ly cn st : Int32} {bN leN abN wN aN nN fN pN tN iP iN iL iK oP oN oL oK lN : Nat} {bF leF abF onu wF aF fF pF tF lF ip inu il ik op ol ok nF : Nat → Int32} {lc n0 en la lf lk c : Int32} {N : Nat} {R : Nat → Int32} {v2 : Int32}
    (hG : Geo m w h) (hA : GA m w h abF) (hL : GL m w h leF) (hnb : nb = bbase w h m) (hlay : layer ≤ 254)
    (hsz : nb ≤ leN ∧ nbase w h m ≤ abN ∧ nb ≤ wN ∧ nb ≤ aN ∧ nb ≤ nN ∧ nb ≤ fN ∧ nb ≤ pN ∧ nb ≤ tN ∧ iP = 7 ∧ nbase w h m ≤ iN ∧ nbase w h m ≤ iL ∧ nbase w h m ≤ iK ∧ oP = 7 ∧ nbase w h m ≤ oN ∧ nbase w h m ≤ oL ∧ nbase w h m ≤ oK)
    (hcn : cn.toInt = m ∧ m < bN) (hbF : (bF m).toInt = nb) (hly : ly.toInt = layer) (hb : v2.toInt = b ∧ b = bbase w h i + k) (hi : i < m) (hk : k < w i * h i) (hX : XR m w h nb layer b wF aF fF pF nF lc lN il ik ol ok) (hsb : SB n0 en lf lk c N)
    (hrec : ∀ (wF' aF' fF' pF' tF' : Nat → Int32) (lN' : Nat) (lF' ip' inu' il' ik' op' ol' ok' : Nat → Int32) (lc' : Int32) (nF' : Nat → Int32) (n0' la' lf' lk' x29 : Int32), x29.toInt = (b : Int) + 1 → XR m w h nb layer (b + 1) wF' aF' fF' pF' nF' lc' lN' il' ik' ol' ok' → SB n0' en lf' lk' c N → Ok (rec23 wF' aF' fF' pF' tF' lN' lF' ip' inu' il' ik' op' ol' ok' lc' nF' n0' la' lf' lk' x29) (fun z => PXr lN' en c N z)) :
    Ok (g_Side_headR_23 F rec23 ly cn st bN bF leN leF abN abF wN aN nN fN pN tN iP iN iL iK oP oN onu oL oK en c N R wF aF fF pF tF lN lF ip inu il ik op ol ok lc nF n0 la lf lk v2) (fun u => PXr lN en c N u) := by
  have L := lits
  have gw := hG.wh hi
  have eb : v2.toInt.toNat = b := by omega
  have hmax := hG.max
  have t6 := topOf_le (w i) (h i)
  have hleaf := hL i k hi hk
  rw [← hb.2] at hleaf
  obtain ⟨x1, x2, x3, x4, x5, x6, x7⟩ := hX
  have hB := x1 b (by omega) (by omega)
  simp only [g_Side_headR_23]
  refine ok_bm (w_blocks hcn hbF) (fun u15 e15 => ?_)
  refine ok_le (fun hc => by omega) (fun _ => ?_)
  refine ok_bm (Q := fun u16 => TSR (nbase w h m) (layer + 1) u16.2.2.1 u16.2.2.2.1 ∧ u16.2.2.2.2.1 = n0 ∧ u16.2.2.2.2.2.1 = la ∧ u16.2.2.2.2.2.2.1 = lf ∧ u16.2.2.2.2.2.2.2 = lk) ?_ (fun u16 e16 => ?_)
  · simp only [f_Side_tellWhetherInR, g_Side_tellWhetherInR_24, g_Side_tellWhetherInR_36, clamp_eq, eb]
    refine ok_in (by omega) (ok_v ?_)
    refine ok_le (fun _ => ?_) (fun _ => ?_)
    · refine ok_in (by omega) (ok_v ?_)
      refine ok_add (by omega) (fun x10 e10 => ?_)
      refine ok_bm (w_tellRx (xs := pth w h i k) (top := topOf (w i) (h i)) (MX := layer + 1) (nn := nbase w h m) hF hsb ⟨by omega, by omega, by omega, by omega, by omega, by omega, by omega, t6⟩ ⟨by omega, by omega⟩ (pth_path hG hA hi hk) (by rw [pth_0 hk]; exact hleaf) x6) (fun u8 e8 => ?_)
      obtain ⟨q1, q2, q3, q4, q5, q6⟩ := e8
      exact ok_a (bool_nar q1) (ok_s ⟨q2, q3, q4, q5, q6⟩)
    · refine ok_in (by omega) (ok_v ?_)
      refine ok_le (fun _ => ?_) (fun _ => ?_)
      all_goals
        refine ok_bm (w_bitRx hsb) (fun u7 e7 => ?_)
        obtain ⟨q1, q2, q3, q4, q5⟩ := e7
        exact ok_eq (fun _ => ok_a (bool_nar (by omega)) (ok_s ⟨x6, q2, q3, q4, q5⟩)) (fun _ => ok_a (bool_nar (by omega)) (ok_s ⟨x6, q2, q3, q4, q5⟩))
  · obtain ⟨q1, q2, q3, q4, q5⟩ := e16
    rw [q2, q3, q4, q5]
    refine ok_eq (fun _ => ?_) (fun _ => ?_)
    · simp only [g_Side_headR_79, g_Side_headR_84]
      refine ok_eq (fun hc => by omega) (fun _ => ?_)
      refine ok_add (by omega) (fun x29 e29 => ?_)
      exact hrec _ _ _ _ _ _ _ _ _ _ _ _ _ _ _ _ _ _ _ _ x29 (by omega) ⟨fun o h1 h2 => x1 o (by omega) h2, x2, x3, x4, x5, q1, x7⟩ hsb
    · simp only [clamp_eq, eb]
      exact x_miss (leN := leN) (abN := abN) (iP := iP) (iN := iN) (iL := iL) (iK := iK) (oP := oP) (oN := oN) (oL := oL) (oK := oK) (i := i) (k := k) (b := b) (onu := onu) hF hG hA hL hnb hlay hsz hcn hbF hly hb hi hk ⟨x1, x2, x3, x4, x5, q1, x7⟩ hsb hrec
theorem x_loop {F : Nat} (hF : 1000000 ≤ F) {m : Nat} {w h : Nat → Nat} {nb layer : Nat}
    {ly cn st : Int32} {bN leN abN wN aN nN fN pN tN iP iN iL iK oP oN oL oK : Nat} {bF leF abF onu : Nat → Int32} {en c : Int32} {N : Nat} {R : Nat → Int32}
    (hG : Geo m w h) (hA : GA m w h abF) (hL : GL m w h leF) (hnb : nb = bbase w h m) (hlay : layer ≤ 254)
    (hsz : nb ≤ leN ∧ nbase w h m ≤ abN ∧ nb ≤ wN ∧ nb ≤ aN ∧ nb ≤ nN ∧ nb ≤ fN ∧ nb ≤ pN ∧ nb ≤ tN ∧ iP = 7 ∧ nbase w h m ≤ iN ∧ nbase w h m ≤ iL ∧ nbase w h m ≤ iK ∧ oP = 7 ∧ nbase w h m ≤ oN ∧ nbase w h m ≤ oL ∧ nbase w h m ≤ oK)
    (hcn : cn.toInt = m ∧ m < bN) (hbF : (bF m).toInt = nb) (hly : ly.toInt = layer) :
    ∀ (t b fu : Nat) (wF aF fF pF tF : Nat → Int32) (lN : Nat) (lF ip inu il ik op ol ok : Nat → Int32) (lc : Int32) (nF : Nat → Int32) (n0 la lf lk v2 : Int32), t = nb - b → b ≤ nb → t < fu → v2.toInt = b → XR m w h nb layer b wF aF fF pF nF lc lN il ik ol ok → SB n0 en lf lk c N →
      Ok (f_Side_headR_23 F ly cn st bN bF leN leF abN abF wN aN nN fN pN tN iP iN iL iK oP oN onu oL oK en c N R fu wF aF fF pF tF lN lF ip inu il ik op ol ok lc nF n0 la lf lk v2) (fun u => PXr lN en c N u) := by
  have L := lits
  intro t
  induction t with
  | zero =>
    intro b fu wF aF fF pF tF lN lF ip inu il ik op ol ok lc nF n0 la lf lk v2 h1 h2 h3 h4 hX hsb
    obtain ⟨fu, rfl⟩ : ∃ y, fu = y + 1 := ⟨fu - 1, by omega⟩
    simp only [f_Side_headR_23, g_Side_headR_23]
    refine ok_bm (w_blocks hcn hbF) (fun u15 e15 => ?_)
    refine ok_le (fun _ => ok_s ?_) (fun hc => by omega)
    obtain ⟨x1, x2, x3, x4, x5, x6, x7⟩ := hX
    have hsg := hsb.sg
    unfold SB at hsb
    try dsimp only
    exact ⟨by dsimp only; omega, by dsimp only; omega, x4, x5, Or.inr hsb.1, hsg⟩
  | succ t ih =>
    intro b fu wF aF fF pF tF lN lF ip inu il ik op ol ok lc nF n0 la lf lk v2 h1 h2 h3 h4 hX hsb
    obtain ⟨fu, rfl⟩ : ∃ y, fu = y + 1 := ⟨fu - 1, by omega⟩
    rw [f_Side_headR_23]
    obtain ⟨i, k, hi, hk, e⟩ := block_of (m := m) (w := w) (h := h) (x := b) (by omega)
    exact x_block (i := i) (k := k) (b := b) hF hG hA hL hnb hlay hsz hcn hbF hly ⟨h4, e⟩ hi hk hX hsb (fun wF' aF' fF' pF' tF' lN' lF' ip' inu' il' ik' op' ol' ok' lc' nF' n0' la' lf' lk' x29 g1 g2 g3 => ih (b + 1) fu wF' aF' fF' pF' tF' lN' lF' ip' inu' il' ik' op' ol' ok' lc' nF' n0' la' lf' lk' x29 (by omega) (by omega) (by omega) (by omega) g2 g3)
