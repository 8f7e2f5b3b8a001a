/-! One block's part of a head, read. -/
theorem cnt_run {o : Nat → Int32} {b : Int} {P : Nat} : ∀ {k : Nat}, (∀ j, P ≤ j → j < P + k → (o j).toInt = b) → cnt o b (P + k) = cnt o b P + k := by
  intro k
  induction k with
  | zero => intro _; rfl
  | succ k ih =>
    intro h
    rw [show P + (k + 1) = P + k + 1 by omega, cnt_s, ih (fun j h1 h2 => h j h1 (by omega)), if_pos (h (P + k) (by omega) (by omega))]
    omega
theorem cnt_skip {o : Nat → Int32} {b : Int} {P : Nat} : ∀ {k : Nat}, (∀ j, P ≤ j → j < P + k → ¬ (o j).toInt = b) → cnt o b (P + k) = cnt o b P := by
  intro k
  induction k with
  | zero => intro _; rfl
  | succ k ih =>
    intro h
    rw [show P + (k + 1) = P + k + 1 by omega, cnt_s, ih (fun j h1 h2 => h j h1 (by omega)), if_neg (h (P + k) (by omega) (by omega))]
    omega
def FR (nb P0 : Nat) (o0 l0 fi0 mi0 br0 to0 W0 L0 K0 : Nat → Int32) (P : Int) (fiF miF LF KF brF toF WF oF LeF : Nat → Int32) : Prop :=
  (∀ x, (x < 1024 ∨ 1024 + nb ≤ x) → fiF x = fi0 x ∧ miF x = mi0 x ∧ brF x = br0 x ∧ toF x = to0 x ∧ WF x = W0 x) ∧ (P0 ≤ P ∧ P ≤ 8200) ∧ (∀ k, k < P0 → oF k = o0 k ∧ LeF k = l0 k) ∧ (∀ k : Nat, P0 ≤ k → (k : Int) < P → 1024 ≤ (oF k).toInt ∧ (oF k).toInt < 2048) ∧ (∀ x, x < 12288 → LF x = L0 x ∧ KF x = K0 x)
def FB (nb P0 : Nat) (o0 l0 fi0 mi0 br0 to0 W0 L0 K0 B : Nat → Int32) (t : Int32 × Int32 × Int32 × Int32 × Int32 × (Nat → Int32) × (Nat → Int32) × (Nat → Int32) × (Nat → Int32) × (Nat → Int32) × (Nat → Int32) × (Nat → Int32) × (Nat → Int32) × (Nat → Int32) × (Nat → Int32)) : Prop :=
  t.2.2.2.1.toInt = 1 ∧ t.2.2.2.2.2.1 = B ∧ FR nb P0 o0 l0 fi0 mi0 br0 to0 W0 L0 K0 t.1.toInt t.2.2.2.2.2.2.1 t.2.2.2.2.2.2.2.1 t.2.2.2.2.2.2.2.2.1 t.2.2.2.2.2.2.2.2.2.1 t.2.2.2.2.2.2.2.2.2.2.1 t.2.2.2.2.2.2.2.2.2.2.2.1 t.2.2.2.2.2.2.2.2.2.2.2.2.1 t.2.2.2.2.2.2.2.2.2.2.2.2.2.1 t.2.2.2.2.2.2.2.2.2.2.2.2.2.2
def CR (m : Nat) (w h : Nat → Nat) (nb layer : Nat) (abF leF wiF hiF beF cF : Nat → Int32) : Prop :=
  (Geo m w h ∧ GA m w h abF ∧ GL m w h leF ∧ nb = bbase w h m ∧ layer ≤ 254) ∧ (∀ i, i < m → (wiF i).toInt = w i ∧ (hiF i).toInt = h i ∧ (beF i).toInt = bbase w h i) ∧ (∀ b, b < nb → 0 ≤ (cF (1024 + b)).toInt ∧ (cF (1024 + b)).toInt ≤ 200)
def IR4 (w h : Nat → Nat) (i k : Nat) (aF inu ol fiF miF : Nat → Int32) : Prop :=
  (0 < (aF (bbase w h i + k)).toInt ↔ ¬ (fiF (1024 + (bbase w h i + k))).toInt = -1) ∧ ((fiF (1024 + (bbase w h i + k))).toInt = -1 → (miF (1024 + (bbase w h i + k))).toInt = -1) ∧ (¬ (fiF (1024 + (bbase w h i + k))).toInt = -1 → inu (nbase w h i + k) = fiF (1024 + (bbase w h i + k)) ∧ ol (nbase w h i + k) = miF (1024 + (bbase w h i + k)))
def IRr (nb b0 : Nat) (cF wF aF pF nF brF toF WF : Nat → Int32) : Prop :=
  (∀ b, b < nb → wF b = WF (1024 + b) ∧ 3 ≤ (wF b).toInt ∧ (wF b).toInt ≤ 32) ∧ (∀ b, b0 ≤ b → b < nb → aF b = cF (1024 + b) ∧ (nF b).toInt = 0 ∧ (pF b).toInt = 0 ∧ (brF (1024 + b)).toInt = 0 ∧ (toF (1024 + b)).toInt = 0) ∧ (∀ b, b < b0 → (aF b).toInt = (cF (1024 + b)).toInt + (brF (1024 + b)).toInt ∧ nF b = brF (1024 + b) ∧ (pF b).toInt = (toF (1024 + b)).toInt ∧ 0 ≤ (brF (1024 + b)).toInt ∧ (aF b).toInt ≤ 200)
def IRt (m : Nat) (w h : Nat → Nat) (layer : Nat) (il ik ol ok LF KF : Nat → Int32) : Prop :=
  TR (nbase w h m) (rho w h 12288) il LF ∧ TR (nbase w h m) (rho w h 12288) ik KF ∧ TSR (nbase w h m) (layer + 1) il ik ∧ TR (nbase w h m) (rho w h 18432) ol LF ∧ TR (nbase w h m) (rho w h 18432) ok KF ∧ TSR (nbase w h m) 74 ol ok ∧ (∀ x : Nat, 12288 ≤ x → x < 24576 → (KF x).toInt = 0 ∨ (KF x).toInt = 1)
def IRl (nb P0 : Nat) (fF pF lF : Nat → Int32) (lc : Int32) (lN : Nat) (P ct : Int32) (toF oF LeF : Nat → Int32) : Prop :=
  (LI nb lc.toInt fF pF ∧ lc.toInt ≤ lN ∧ 16 ≤ lN ∧ lN ≤ 8192 ∧ ct.toInt = lc.toInt ∧ P.toInt = P0 + lc.toInt) ∧ (∀ p b, P0 ≤ p → (p : Int) < P.toInt → b < nb → (oF p).toInt = ((1024 + b : Nat) : Int) → LeF p = lF ((fF b).toInt.toNat + cnt oF ((1024 + b : Nat) : Int) p)) ∧ (∀ b, b < nb → (toF (1024 + b)).toInt = cnt oF ((1024 + b : Nat) : Int) P.toInt.toNat)
set_option maxHeartbeats 4000000 in
theorem s_restR {F : Nat} (hF : 1000000 ≤ F) {m : Nat} {w h : Nat → Nat} {nb layer b i k P0 : Nat} {rec23 : (Nat → Int32) → (Nat → Int32) → (Nat → Int32) → (Nat → Int32) → (Nat → Int32) → Nat → (Nat → Int32) → (Nat → Int32) → (Nat → Int32) → (Nat → Int32) → (Nat → Int32) → (Nat → Int32) → (Nat → Int32) → (Nat → Int32) → Int32 → (Nat → Int32) → Int32 → Int32 → Int32 → Int32 → Int32 → Option (Nat × Nat × Int32 × Int32 × (Nat → Int32) × (Nat → Int32) × (Nat → Int32) × (Nat → Int32) × (Nat → Int32) × (Nat → Int32) × Nat × (Nat → Int32) × (Nat → Int32) × (Nat → Int32) × (Nat → Int32) × (Nat → Int32) × (Nat → Int32) × (Nat → Int32) × (Nat → Int32) × Int32 × Int32 × Int32 × Int32)}
    {ly cn st : Int32} {bN leN abN wN aN nN fN pN tN iP iN iL iK oP oN oL oK lN : Nat} {bF leF abF onu wF aF fF pF tF lF ip inu il ik op ol ok nF : Nat → Int32} {lc st0 n0 en la lf lk c : Int32} {N : Nat} {R : Nat → Int32} {v2 : Int32}
    {sz P wr s e q ct : Int32} {B beF wiF hiF fiF miF LF KF brF cF toF WF oF LeF o0 l0 fi0 mi0 br0 to0 W0 L0 K0 : Nat → Int32}
    {Z : Nat × Nat × Int32 × Int32 × (Nat → Int32) × (Nat → Int32) × (Nat → Int32) × (Nat → Int32) × (Nat → Int32) × (Nat → Int32) × Nat × (Nat → Int32) × (Nat → Int32) × (Nat → Int32) × (Nat → Int32) × (Nat → Int32) × (Nat → Int32) × (Nat → Int32) × (Nat → Int32) × Int32 × Int32 × Int32 × Int32 → Int32 × Int32 × Int32 × Int32 × Int32 × (Nat → Int32) × (Nat → Int32) × (Nat → Int32) × (Nat → Int32) × (Nat → Int32) × (Nat → Int32) × (Nat → Int32) × (Nat → Int32) × (Nat → Int32) × (Nat → Int32) → Prop}
    (hC : CR m w h nb layer abF leF wiF hiF beF cF)
    (hsz : nb ≤ leN ∧ nbase w h m ≤ abN ∧ nb ≤ wN ∧ nb ≤ aN ∧ nb ≤ nN ∧ nb ≤ fN ∧ nb ≤ pN ∧ nb ≤ tN ∧ iP = 7 ∧ nbase w h m ≤ iN ∧ nbase w h m ≤ iL ∧ nbase w h m ≤ iK ∧ oP = 7 ∧ nbase w h m ≤ oN ∧ nbase w h m ≤ oL ∧ nbase w h m ≤ oK)
    (hcn : cn.toInt = m ∧ m < bN) (hbF : (bF m).toInt = nb) (hly : ly.toInt = layer) (hw : wr.toInt = 0) (hb : v2.toInt = b ∧ b = bbase w h i + k) (hi : i < m) (hk : k < w i * h i) (hP0 : P0 ≤ 4096) {v4 : Int32} (hv4 : v4.toInt = ((1024 + b : Nat) : Int))
    (hI1 : IRr nb b cF wF aF pF nF brF toF WF) (hI4 : ∀ i' k', i' < m → k' < w i' * h i' → ¬ (i' = i ∧ k' = k) → IR4 w h i' k' aF inu ol fiF miF) (hI4' : ¬ (fiF (1024 + b)).toInt = -1 ∧ inu (nbase w h i + k) = fiF (1024 + b) ∧ ol (nbase w h i + k) = miF (1024 + b)) (hIt : IRt m w h layer il ik ol ok LF KF) (hIl : IRl nb P0 fF pF lF lc lN P ct toF oF LeF) (hfr : FR nb P0 o0 l0 fi0 mi0 br0 to0 W0 L0 K0 P.toInt fiF miF LF KF brF toF WF oF LeF) (hrel : RelR st0 n0 en la lf lk c N R sz s e q 0 B)
    (hrec : ∀ (wF' aF' fF' pF' tF' : Nat → Int32) (lN' : Nat) (lF' ip' inu' il' ik' op' ol' ok' : Nat → Int32) (lc' : Int32) (nF' : Nat → Int32) (n0' la' lf' lk' x29 : Int32), x29.toInt = (b : Int) + 1 → XR m w h nb layer (b + 1) wF' aF' fF' pF' nF' lc' lN' il' ik' ol' ok' → SB n0' en lf' lk' c N → Ok (rec23 wF' aF' fF' pF' tF' lN' lF' ip' inu' il' ik' op' ol' ok' lc' nF' n0' la' lf' lk' x29) (fun z => PXr lN' en c N z))
    (hbad : ∀ u t, PXr lN en c N u → FB nb P0 o0 l0 fi0 mi0 br0 to0 W0 L0 K0 B t → Z u t)
    (hcont : ∀ (wF' aF' fF' pF' tF' : Nat → Int32) (lN' : Nat) (lF' : Nat → Int32) (lc' : Int32) (nF' : Nat → Int32) (n0' la' lf' lk' x29 : Int32) (nc ns : Nat) (P' e' q' ct' : Int32) (brF' toF' WF' oF' LeF' : Nat → Int32), x29.toInt = (b : Int) + 1 → IRr nb (b + 1) cF wF' aF' pF' nF' brF' toF' WF' → (∀ i k, i < m → k < w i * h i → IR4 w h i k aF' inu ol fiF miF) → IRl nb P0 fF' pF' lF' lc' lN' P' ct' toF' oF' LeF' → FR nb P0 o0 l0 fi0 mi0 br0 to0 W0 L0 K0 P'.toInt fiF miF LF KF brF' toF' WF' oF' LeF' → RelR st0 n0' en la' lf' lk' c N R sz s e' q' 0 B → 16 * nc + lN ≤ lN' → ns + 2 * lN ≤ 2 * lN' → Ok (rec23 wF' aF' fF' pF' tF' lN' lF' ip inu il ik op ol ok lc' nF' n0' la' lf' lk' x29) (fun z => Z (z.1 + nc, z.2.1 + ns, z.2.2) (P', e', q', 0, ct', B, fiF, miF, LF, KF, brF', toF', WF', oF', LeF'))) :
    Ok (asm (vp_in v2 nN) (letb (nF b) fun x18 =>
bd (f_Bits_passesR F n0 en la lf lk c N R x18) fun u19 =>
bd (f_Side_accept F lc cn st bN bF aN aF nN nF fN fF pN pF tN tF lN lF v2 u19.1) fun u20 =>
addc u20.1 u20.2.1 (
if u20.2.2.1 = 0 then (
g_Side_headR_83 F rec23 wF u20.2.2.2.2.2.1 u20.2.2.2.2.2.2.1 u20.2.2.2.2.2.2.2.1 u20.2.2.2.2.2.2.2.2.1 u20.2.2.2.2.2.2.2.2.2 u20.2.2.2.2.1 ip il ik u20.2.2.2.1 aF inu op ol ok u19.2.1 u19.2.2.1 u19.2.2.2.1 u19.2.2.2.2 v2) else (
bd (f_Side_tellLengthsR F st wN wF aN aF nN u20.2.2.2.2.1 fN u20.2.2.2.2.2.1 pN u20.2.2.2.2.2.2.1 u20.2.2.2.2.2.2.2.2.1 u20.2.2.2.2.2.2.2.2.2 u19.2.1 en u19.2.2.1 u19.2.2.2.1 u19.2.2.2.2 c N R v2) fun u24 =>
if u24.1 = 0 then (
g_Side_headR_83 F rec23 u24.2.1 u20.2.2.2.2.2.1 u20.2.2.2.2.2.2.1 u20.2.2.2.2.2.2.2.1 u20.2.2.2.2.2.2.2.2.1 u24.2.2.2.1 u20.2.2.2.2.1 ip il ik u20.2.2.2.1 u24.2.2.1 inu op ol ok u24.2.2.2.2.1 u24.2.2.2.2.2.1 u24.2.2.2.2.2.2.1 u24.2.2.2.2.2.2.2 v2) else (
g_Side_headR_79 F rec23 u24.2.1 u20.2.2.2.2.2.1 u20.2.2.2.2.2.2.1 u20.2.2.2.2.2.2.2.1 u20.2.2.2.2.2.2.2.2.1 u24.2.2.2.1 op ol ok u20.2.2.2.1 u24.2.2.1 u20.2.2.2.2.1 ip inu il ik u24.2.2.2.2.1 u24.2.2.2.2.2.1 u24.2.2.2.2.2.2.1 u24.2.2.2.2.2.2.2 v2))))) (fun u => Ok (g_Mo_codeBlock_209 F st sz wr s 262144 2048 2048 cF 2048 2048 8200 8200 brF toF WF oF LeF P e q 0 ct B miF fiF LF KF v4) (fun t => Z u t)) := by
  have L := lits
  obtain ⟨⟨hG, hA, hL, hnb, hlay⟩, hwh, hcF⟩ := hC
  have gw := hG.wh hi
  have eb : v2.toInt.toNat = b := by omega
  have eb4 : v4.toInt.toNat = 1024 + b := by omega
  have hbn : b < nb := by omega
  obtain ⟨a1, a2, a3⟩ := hI1
  have hB := a2 b (by omega) hbn
  have hc := hcF b hbn
  have hab : (aF b).toInt = (cF (1024 + b)).toInt := by rw [hB.1]
  have hwb := a1 b hbn
  obtain ⟨⟨l1, l2, l3, l4, l5, l6⟩, l7, l8⟩ := hIl
  have hlc := l1.2.2.2
  obtain ⟨t1, t2, t3, t4, t5, t6, t7⟩ := hIt
  obtain ⟨r1, r2, r3, r4, r5⟩ := hfr
  have hX : XR m w h nb layer b wF aF fF pF nF lc lN il ik ol ok := by
    try dsimp only
    refine ⟨fun x h1 h2 => ?_, l1, l2, l3, l4, t3, t6⟩
    have z1 := a2 x h1 h2
    have z2 := hcF x h2
    have z3 := a1 x h2
    rw [z1.1]
    try dsimp only
    exact ⟨z1.2.1, z1.2.2.1, z2.1, z2.2, z3.2.1, z3.2.2⟩
  have mkFB : ∀ (e' q' ct' : Int32), FB nb P0 o0 l0 fi0 mi0 br0 to0 W0 L0 K0 B (P, e', q', 1, ct', B, fiF, miF, LF, KF, brF, toF, WF, oF, LeF) := fun e' q' ct' => ⟨L.2.2.1, rfl, r1, r2, r3, r4, r5⟩
  have mkPX : ∀ (lc1 : Int32) (wF1 aF1 nF1 fF1 pF1 tF1 : Nat → Int32) (lN1 : Nat) (lF1 : Nat → Int32) (n1 la1 lf1 lk1 : Int32), lN ≤ lN1 → lN1 ≤ 8192 → SG n1 en c N → Ok (g_Side_headR_83 F rec23 wF1 fF1 pF1 tF1 lN1 lF1 nF1 ip il ik lc1 aF1 inu op ol ok n1 la1 lf1 lk1 v2) (fun u => PXr lN1 en c N u) := by
    intro lc1 wF1 aF1 nF1 fF1 pF1 tF1 lN1 lF1 n1 la1 lf1 lk1 h1 h2 hsg
    simp only [g_Side_headR_83, g_Side_headR_84]
    refine ok_T (ok_s ?_)
    try dsimp only
    exact ⟨by dsimp only; omega, by dsimp only; omega, by dsimp only; omega, h2, Or.inl L.2.1, hsg⟩
  refine ok_in (by omega) (ok_v (ok_swap ?_))
  simp only [g_Mo_codeBlock_209, g_Mo_codeBlock_246, g_Mo_codeBlock_251, clamp_eq, eb4]
  refine ok_in (by omega) (ok_v (ok_swap ?_))
  refine ok_b2 (s_pasR hF hw hrel) (fun u19 u20 hq => ?_)
  obtain ⟨q1, q2, q2', q3, q4, q5⟩ := hq
  rw [q3]
  by_cases hgood : u20.2.2.2.1.toInt = 0
  case neg =>
    have hsb := q4.sb hgood
    refine ok_swap ?_
    refine ok_eq (fun hc => absurd hc hgood) (fun _ => ?_)
    refine ok_a ⟨bool_nar (by omega), bool_fit (by omega)⟩ ?_
    refine ok_eq (fun hc => by omega) (fun _ => ok_s ?_)
    exact ok_m (x_acc (leN := leN) (abN := abN) (iP := iP) (iN := iN) (iL := iL) (iK := iK) (oP := oP) (oN := oN) (oL := oL) (oK := oK) (i := i) (k := k) (b := b) (onu := onu) hF hG hA hL hnb hlay hsz hcn hbF hly hb hi hk (by rw [q1]; omega) hX hsb.1 hrec) (fun u hu => hbad u _ hu (mkFB _ _ _))
  case pos =>
    have hwg : u20.2.2.2.1 = 0 := ti_ofI (by omega)
    rw [hwg] at q4 ⊢
    rw [q1]
    refine ok_swap ?_
    refine ok_eq (fun _ => ?_) (fun hc => absurd rfl hc)
    refine ok_in (by omega) (ok_v ?_)
    refine ok_add (by omega) (fun x22 e22 => ?_)
    have hacc0 : ∀ {Q : _ → Prop}, (200 < x22.toInt → Q (0, 0, 0, lc, nF, fF, pF, tF, lN, lF)) → (x22.toInt ≤ 200 → Ok (f_Side_lay F lc cn st bN bF aN aF nN nF fN fF pN pF tN tF lN lF v2 u20.1) (fun u11 => (u11.2.2.1.toInt = 0 ∨ u11.2.2.1.toInt = 1) ∧ Q u11)) → Ok (f_Side_accept F lc cn st bN bF aN aF nN nF fN fF pN pF tN tF lN lF v2 u20.1) (fun u => Q u) := by
      intro Q h1 h2
      simp only [f_Side_accept, g_Side_accept_32, g_Side_accept_36, g_Side_accept_37, clamp_eq, eb]
      refine ok_in (by omega) (ok_v ?_)
      refine ok_lt (fun hc => by omega) (fun _ => ?_)
      refine ok_in (by omega) (ok_v ?_)
      rw [hB.1]
      refine ok_add (by omega) (fun x10 e10 => ?_)
      refine ok_lt (fun c1 => ok_a (bool_nar (by omega)) (ok_s (h1 (by omega)))) (fun c1 => ?_)
      refine ok_bm (h2 (by omega)) (fun u11 e11 => ?_)
      have e3 : ∀ v : Int32, v.toInt = u11.2.2.1.toInt → (0 + u11.1, 0 + u11.2.1, v, u11.2.2.2) = u11 := by
        intro v hv
        rw [Nat.zero_add, Nat.zero_add, show v = u11.2.2.1 from ti_ofI hv]
      refine ok_c (ok_eq (fun c2 => ok_a (bool_nar (by omega)) (ok_s ?_)) (fun c2 => ok_a (bool_nar (by omega)) (ok_s ?_)))
      · have := e3 0 (by omega)
        rw [← this] at e11
        exact e11.2
      · have := e3 1 (by omega)
        rw [← this] at e11
        exact e11.2
    refine ok_le (fun c200 => ?_) (fun c200 => ?_)
    case _ =>
      refine ok_a ⟨bool_nar (by omega), bool_fit (by omega)⟩ ?_
      refine ok_T ?_
      refine ok_in (by omega) ?_
      refine ok_swap (ok_bm (hacc0 (Q := fun u20' => (4096 < lc.toInt + pcs st (aF b).toInt.toNat u20.1.toInt.toNat ∧ u20' = (0, 0, 0, lc, nF, fF, pF, tF, lN, lF)) ∨
      (u20'.2.2.1.toInt = 1 ∧ u20'.2.2.2.1.toInt = lc.toInt + pcs st (aF b).toInt.toNat u20.1.toInt.toNat ∧ u20'.2.2.2.2.1 = upd nF b u20.1 ∧ (∃ pv : Int32, pv.toInt = pcs st (aF b).toInt.toNat u20.1.toInt.toNat ∧ u20'.2.2.2.2.2.2.1 = upd pF b pv) ∧ (u20'.2.2.2.2.2.1 b).toInt = lc.toInt ∧ LI nb u20'.2.2.2.1.toInt u20'.2.2.2.2.2.1 u20'.2.2.2.2.2.2.1 ∧
       (∀ o, o < nb → ¬ o = b → ∀ i, i < (pF o).toInt.toNat → u20'.2.2.2.2.2.2.2.2.2 ((u20'.2.2.2.2.2.1 o).toInt.toNat + i) = lF ((fF o).toInt.toNat + i)) ∧ 16 * u20'.1 + lN ≤ u20'.2.2.2.2.2.2.2.2.1 ∧ u20'.2.1 + 2 * lN ≤ 2 * u20'.2.2.2.2.2.2.2.2.1 ∧ u20'.2.2.2.1.toInt ≤ u20'.2.2.2.2.2.2.2.2.1 ∧ u20'.2.2.2.2.2.2.2.2.1 ≤ 8192)) (fun h => by omega) (fun _ => ?_)) (fun u44 e44 => ?_))
      · refine ok_m (w_lay (a := (aF b).toInt.toNat) (n := u20.1.toInt.toNat) hF hcn hbF ⟨hb.1, by omega, by omega, by omega, by omega, by omega, by omega, by omega⟩ (by rw [hB.1]; omega) (by omega) (by rw [hB.1]; omega) l1 ⟨l2, l3, l4⟩) (fun u11 e11 => ?_)
        rcases e11 with ⟨y1, y2⟩ | ⟨y1, y2, y3, y4, y5, y6, y7, y8, y9, y10, y11, y12, y13⟩
        · try dsimp only
          exact ⟨Or.inl (by rw [y2]; exact L.2.1), Or.inl ⟨by omega, y2⟩⟩
        · try dsimp only
          exact ⟨Or.inr y2, Or.inr ⟨y2, by omega, y4, y6, by omega, y8, y9, y10, y11, y12, y13⟩⟩
      · rcases e44 with ⟨y1, y2⟩ | ⟨y2, y3, y4, ⟨pv, y6, y6'⟩, y7, y8, y9, y10, y11, y12, y13⟩
        · -- too many pieces
          subst y2
          dsimp only
          refine ok_swap (ok_bm (w_over (a := (aF b).toInt.toNat) (n := u20.1.toInt.toNat) (wd := (wF b).toInt.toNat) (P := P.toInt.toNat) (b' := 1024 + b) hF hw L.2.1 ⟨hv4, by omega⟩ (by rw [← hB.1]; omega) (by rw [upd_is]; omega) hB.2.2.2.2 (by omega) ⟨by omega, by omega⟩ ⟨by rw [← hwb.1]; omega, by omega, by omega⟩ ⟨by omega, by omega, by omega⟩ q4) (fun u18 hz => ok_s ?_))
          unfold QO at hz
          obtain ⟨z1, z2, z3, z4, z5, z6, z7, z8⟩ := hz
          refine ok_c (ok_eq (fun _ => ?_) (fun hc => absurd rfl hc))
          refine ok_m (mkPX lc wF aF nF fF pF tF lN lF _ _ _ _ (Nat.le_refl _) l4 (by have := q4.sg; exact this)) (fun u hu => hbad _ _ (hu.add (by omega) (by omega)) ?_)
          try dsimp only
          refine ⟨z1, z2, fun x hx => ?_, ⟨by dsimp only; omega, by dsimp only; omega⟩, fun k hk => ?_, fun k h1 h2 => ?_, r5⟩
          · have := r1 x hx
            dsimp only
            rw [upd_no (by omega), z7 x (by omega), z8 x (by omega)]
            exact this
          · dsimp only
            rw [(z5 k (by omega)).1, (z5 k (by omega)).2]
            exact r3 k hk
          · dsimp only at h2 ⊢
            by_cases qk : k < P.toInt.toNat
            · rw [(z5 k qk).1]; exact r4 k h1 (by omega)
            · have := z6 k (by omega) (by omega); omega
        · -- the pieces are laid
          refine ok_c ?_
          refine ok_eq (fun hc => by omega) (fun _ => ?_)
          rw [y4, y6']
          refine ok_b2 (s_lenR (b := b) (b' := 1024 + b) (a := (aF b).toInt.toNat) (n := u20.1.toInt.toNat) (fr := lc.toInt.toNat) (pc := pcs st (aF b).toInt.toNat u20.1.toInt.toNat) (wd := (wF b).toInt.toNat) (P := P.toInt.toNat) hF hw L.2.1 ⟨hb.1, by omega, by omega, by omega, by omega, by omega⟩ ⟨hv4, by omega⟩ ⟨by rw [hB.1]; omega, by rw [← hB.1]; omega⟩ ⟨by rw [upd_is]; omega, by rw [upd_is]; omega⟩ (by omega) ⟨by rw [upd_is]; exact y6, hB.2.2.2.2⟩ ⟨by rw [hB.1]; omega, rfl, by omega, by omega⟩ ⟨by omega, by have := y8.2.2.2; omega⟩ ⟨by omega, by rw [← hwb.1]; omega, by omega, by omega⟩ ⟨by omega, by have := y8.2.2.2; omega⟩ q4) (fun u24 u18 hz => ?_)
          unfold QLR at hz
          obtain ⟨⟨z1, z2, z3, z4, z5, z6, z7, z8, z9, z10, z11, z12⟩, hz⟩ := hz
          have hlc' := y8.2.2.2
          have hfr' : FR nb P0 o0 l0 fi0 mi0 br0 to0 W0 L0 K0 u18.1.toInt fiF miF LF KF (upd brF (1024 + b) u20.1) u18.2.2.2.2.2.2.1 u18.2.2.2.2.2.2.2.1 u18.2.2.2.2.2.2.2.2.1 u18.2.2.2.2.2.2.2.2.2 := by
            try dsimp only
            refine ⟨fun x hx => ?_, ⟨by omega, by omega⟩, fun k hk => ?_, fun k h1 h2 => ?_, r5⟩
            · have := r1 x hx
              rw [upd_no (by omega), z11 x (by omega), z12 x (by omega)]
              exact this
            · rw [(z9 k (by omega)).1, (z9 k (by omega)).2]
              exact r3 k hk
            · by_cases qk : k < P.toInt.toNat
              · rw [(z9 k qk).1]; exact r4 k h1 (by omega)
              · have := z10 k (by omega) (by omega); omega
          rw [z1]
          rcases hz with ⟨d1, d2, d3, d4, d5, d6, d7, d8, d9, d10, d11⟩ | ⟨d1, d2, d3⟩
          · -- all is well
            have hwg2 : u18.2.2.2.1 = 0 := ti_ofI (by omega)
            rw [hwg2] at d11 ⊢
            refine ok_eq (fun hc => by omega) (fun _ => ?_)
            simp only [g_Side_headR_79, g_Side_headR_84]
            refine ok_eq (fun hc => by omega) (fun _ => ?_)
            refine ok_add (by omega) (fun x29 e29 => ?_)
            refine ok_m (hcont _ _ _ _ _ _ _ _ _ _ _ _ _ x29 u44.1 u44.2.1 u18.1 _ _ u18.2.2.2.2.1 (upd brF (1024 + b) u20.1) u18.2.2.2.2.2.2.1 u18.2.2.2.2.2.2.2.1 u18.2.2.2.2.2.2.2.2.1 u18.2.2.2.2.2.2.2.2.2 (by omega) ⟨fun x hx => ?_, fun x h1 h2 => ?_, fun x hx => ?_⟩ (fun i' k' hi' hk' => ?_) ⟨⟨by rw [← y6']; exact y8, y12, by omega, y13, by omega, by omega⟩, fun p x h1 h2 h3 h4 => ?_, fun x hx => ?_⟩ hfr' d11 (by omega) (by omega)) (fun z hz => ok_s hz)
            · by_cases qx : x = b
              · subst qx; exact ⟨d4, d5, d6⟩
              · rw [z2 x qx, z12 (1024 + x) (by omega)]; exact a1 x hx
            · have := a2 x (by omega) h2
              rw [z3 x (by omega), upd_no (by omega), upd_no (by omega), upd_no (by omega), z11 (1024 + x) (by omega)]
              exact this
            · by_cases qx : x = b
              · subst qx
                rw [upd_is, upd_is, upd_is]
                have := hB.1
                try dsimp only
                exact ⟨by omega, rfl, by omega, by omega, by omega⟩
              · have := a3 x (by omega)
                rw [z3 x qx, upd_no (by omega), upd_no qx, upd_no qx, z11 (1024 + x) (by omega)]
                exact this
            · by_cases qx : i' = i ∧ k' = k
              · obtain ⟨rfl, rfl⟩ := qx
                unfold IR4
                rw [← hb.2]
                try dsimp only
                exact ⟨⟨fun _ => hI4'.1, fun _ => by rw [d3]; omega⟩, fun z => absurd z hI4'.1, fun _ => hI4'.2⟩
              · have h9 := hI4 i' k' hi' hk' qx
                unfold IR4 at h9 ⊢
                rw [z3 (bbase w h i' + k') (fun z => qx (block_inj hk' hk (by omega)))]
                exact h9
            · have hcn' : ∀ y : Nat, y ≤ P.toInt.toNat → ∀ bb : Int, cnt u18.2.2.2.2.2.2.2.2.1 bb y = cnt oF bb y := fun y hy bb => cnt_congr (fun j hj => (z9 j (by omega)).1)
              by_cases qp : p < P.toInt.toNat
              · rw [(z9 p qp).1] at h4
                have qx : ¬ x = b := by
                  intro z
                  subst z
                  have e1 := l8 x h3
                  have e2 := cnt_s oF ((1024 + x : Nat) : Int) p
                  rw [if_pos h4] at e2
                  have e3 := cnt_le oF ((1024 + x : Nat) : Int) (show p + 1 ≤ P.toInt.toNat by omega)
                  have := hB.2.2.2.2
                  omega
                have e1 := l8 x h3
                have e2 := cnt_s oF ((1024 + x : Nat) : Int) p
                rw [if_pos h4] at e2
                have e3 := cnt_le oF ((1024 + x : Nat) : Int) (show p + 1 ≤ P.toInt.toNat by omega)
                have e4 : (pF x).toInt = (toF (1024 + x)).toInt := by
                  by_cases qq : x < b
                  · exact (a3 x qq).2.2.1
                  · have := a2 x (by omega) h3; omega
                rw [(z9 p qp).2, l7 p x h1 (by omega) h3 h4, hcn' p (by omega)]
                have e5 := y9 x h3 qx (cnt oF ((1024 + x : Nat) : Int) p) (by omega)
                have e6 := y8.1 x h3
                rw [y6', upd_no qx] at e6
                have e7 := y8.2.1 x b h3 hbn qx (by rw [y6', upd_no qx]; omega)
                rw [y6', upd_no qx, upd_is] at e7
                rw [z6 _ ?_, e5]
                have e8 := e6.2.2.2 (by omega)
                by_cases q0 : 0 < pv.toInt
                · have := e7 q0; omega
                · omega
              · have e0 := z10 p (by omega) h2
                have qx : x = b := by omega
                subst qx
                have e1 : cnt u18.2.2.2.2.2.2.2.2.1 ((1024 + x : Nat) : Int) (P.toInt.toNat + (p - P.toInt.toNat)) = cnt u18.2.2.2.2.2.2.2.2.1 ((1024 + x : Nat) : Int) P.toInt.toNat + (p - P.toInt.toNat) := cnt_run (fun j h5 h6 => z10 j h5 (by omega))
                rw [hcn' _ (Nat.le_refl _)] at e1
                have e0' := l8 x h3
                have e2 := d10 (p - P.toInt.toNat) (by omega)
                rw [show P.toInt.toNat + (p - P.toInt.toNat) = p by omega] at e1 e2
                have hb5 := hB.2.2.2.2
                rw [e2, e1]
                have e6 : cnt oF ((1024 + x : Nat) : Int) P.toInt.toNat = 0 := by omega
                rw [e6, Nat.zero_add, y7]
            · have hcn' : ∀ bb : Int, cnt u18.2.2.2.2.2.2.2.2.1 bb P.toInt.toNat = cnt oF bb P.toInt.toNat := fun bb => cnt_congr (fun j hj => (z9 j (by omega)).1)
              by_cases qx : x = b
              · subst qx
                have e1 : cnt u18.2.2.2.2.2.2.2.2.1 ((1024 + x : Nat) : Int) (P.toInt.toNat + (u18.1.toInt.toNat - P.toInt.toNat)) = cnt u18.2.2.2.2.2.2.2.2.1 ((1024 + x : Nat) : Int) P.toInt.toNat + (u18.1.toInt.toNat - P.toInt.toNat) := cnt_run (fun j h5 h6 => z10 j h5 (by omega))
                have e3 := l8 x hx
                rw [hcn'] at e1
                rw [show P.toInt.toNat + (u18.1.toInt.toNat - P.toInt.toNat) = u18.1.toInt.toNat by omega] at e1
                rw [d9, e1]
                have := hB.2.2.2.2
                omega
              · have e1 : cnt u18.2.2.2.2.2.2.2.2.1 ((1024 + x : Nat) : Int) (P.toInt.toNat + (u18.1.toInt.toNat - P.toInt.toNat)) = cnt u18.2.2.2.2.2.2.2.2.1 ((1024 + x : Nat) : Int) P.toInt.toNat := cnt_skip (fun j h5 h6 => by rw [z10 j h5 (by omega)]; omega)
                rw [show P.toInt.toNat + (u18.1.toInt.toNat - P.toInt.toNat) = u18.1.toInt.toNat by omega, hcn'] at e1
                rw [z11 (1024 + x) (by omega), e1]
                exact l8 x hx
          · -- it is wrong
            have hFB : FB nb P0 o0 l0 fi0 mi0 br0 to0 W0 L0 K0 B (u18.1, u18.2.1, u18.2.2.1, u18.2.2.2.1, u18.2.2.2.2.1, B, fiF, miF, LF, KF, upd brF (1024 + b) u20.1, u18.2.2.2.2.2.2.1, u18.2.2.2.2.2.2.2.1, u18.2.2.2.2.2.2.2.2.1, u18.2.2.2.2.2.2.2.2.2) := ⟨d1, rfl, hfr'⟩
            refine ok_swap (ok_s ?_)
            refine ok_eq (fun c0 => ?_) (fun c0 => ?_)
            · exact ok_m (mkPX _ _ _ _ _ _ _ _ _ _ _ _ _ (by omega) y13 d3) (fun u hu => hbad _ _ (hu.add (by omega) (by omega)) hFB)
            · simp only [g_Side_headR_79, g_Side_headR_84]
              refine ok_eq (fun hc => by omega) (fun _ => ?_)
              refine ok_add (by omega) (fun x29 e29 => ?_)
              have hsb2 : SB u24.2.2.2.2.1 en u24.2.2.2.2.2.2.1 u24.2.2.2.2.2.2.2 c N := by
                rcases d2 with z | z
                · exact absurd z c0
                · exact z
              refine ok_m (hrec _ _ _ _ _ _ _ _ _ _ _ _ _ _ _ _ _ _ _ _ x29 (by omega) ⟨fun x h1 h2 => ?_, by rw [← y6']; exact y8, y12, by omega, y13, t3, t6⟩ hsb2) (fun u hu => hbad _ _ (hu.add (by omega) (by omega)) hFB)
              have := hX.1 x (by omega) h2
              rw [upd_no (by omega), upd_no (by omega), z2 x (by omega), z3 x (by omega)]
              exact this
    case _ =>
      refine ok_a ⟨bool_nar (by omega), bool_fit (by omega)⟩ ?_
      refine ok_eq (fun hc => by omega) (fun _ => ok_s ?_)
      refine ok_bm (hacc0 (Q := fun u20' => u20' = (0, 0, 0, lc, nF, fF, pF, tF, lN, lF)) (fun _ => rfl) (fun h => by omega)) (fun u44 e44 => ?_)
      subst e44
      dsimp only
      refine ok_c (ok_eq (fun _ => ?_) (fun hc => absurd rfl hc))
      exact ok_m (mkPX lc wF aF nF fF pF tF lN lF _ _ _ _ (Nat.le_refl _) l4 q4.sg) (fun u hu => hbad _ _ (hu.add (by omega) (by omega)) (mkFB _ _ _))
