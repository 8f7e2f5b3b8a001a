/-! One block's part of a head, written. -/
def CW (m : Nat) (w h : Nat → Nat) (nb layer : Nat) (st : Int32) (abF leF nF fF pF lF inu onu : Nat → Int32) (lc : Int32) (lN : Nat) (wiF hiF beF cF brF toF fiF miF oF LeF aF0 : Nat → Int32) : Prop :=
  (Geo m w h ∧ GA m w h abF ∧ GL m w h leF ∧ nb = bbase w h m ∧ layer ≤ 254) ∧ SET m w h inu ∧ SET m w h onu ∧ (LI nb lc.toInt fF pF ∧ lc.toInt ≤ lN ∧ 16 ≤ lN ∧ lN ≤ 8192) ∧
  (∀ i, i < m → (wiF i).toInt = w i ∧ (hiF i).toInt = h i ∧ (beF i).toInt = bbase w h i) ∧
  (∀ i k, i < m → k < w i * h i → (inu (nbase w h i + k)).toInt = (if (fiF (bbase w h i + k)).toInt = -1 then 1000 else (fiF (bbase w h i + k)).toInt) ∧ (onu (nbase w h i + k)).toInt = (miF (bbase w h i + k)).toInt) ∧
  (∀ b, b < nb → cF b = aF0 b ∧ brF b = nF b ∧ 0 ≤ (aF0 b).toInt ∧ 0 ≤ (nF b).toInt ∧ (nF b).toInt ≤ 164 ∧ (aF0 b).toInt + (nF b).toInt ≤ 200 ∧ (pF b).toInt = pcs st (aF0 b).toInt.toNat (nF b).toInt.toNat ∧ (toF b).toInt = (pF b).toInt ∧ -1 ≤ (fiF b).toInt ∧ (fiF b).toInt ≤ 254 ∧ 0 ≤ (miF b).toInt ∧ (miF b).toInt ≤ 73 ∧ (0 < (aF0 b).toInt ↔ ¬ (fiF b).toInt = -1 ∧ (fiF b).toInt < layer) ∧ ((fiF b).toInt = -1 ∨ (layer : Int) < (fiF b).toInt → (nF b).toInt = 0) ∧ ((fiF b).toInt = layer → 0 < (nF b).toInt)) ∧
  (∀ b, b < nb → ∀ k, k < (pF b).toInt.toNat → 0 ≤ (lF ((fF b).toInt.toNat + k)).toInt ∧ (lF ((fF b).toInt.toNat + k)).toInt ≤ 65535 ∧ PieceAt oF LeF b k (lF ((fF b).toInt.toNat + k)))
def IW (m : Nat) (w h : Nat → Nat) (nb b0 layer : Nat) (pF nF inu onu : Nat → Int32) (lc : Int32) (aF0 L0 K0 WF0 : Nat → Int32) (wF aF il ik ol ok : Nat → Int32) (g r c : Int32) (N : Nat) (R : Nat → Int32) (s e q ct : Int32) (B LF KF WF : Nat → Int32) : Prop :=
  (∀ b, b < nb → wF b = WF b ∧ 3 ≤ (wF b).toInt ∧ (wF b).toInt ≤ 16) ∧ (∀ x, nb ≤ x → WF x = WF0 x) ∧ (∀ b, b0 ≤ b → b < nb → aF b = aF0 b) ∧ (∀ b, b < b0 → (aF b).toInt = (aF0 b).toInt + (nF b).toInt) ∧
  (TR (nbase w h m) (rho w h 0) il LF ∧ TR (nbase w h m) (rho w h 0) ik KF ∧ TSafe (nbase w h m) (layer + 1) il ik ∧ NumInv (nbase w h m) inu il ik) ∧
  (TR (nbase w h m) (rho w h 6144) ol LF ∧ TR (nbase w h m) (rho w h 6144) ok KF ∧ TSafe (nbase w h m) 74 ol ok ∧ NumInv (nbase w h m) onu ol ok) ∧
  (∀ i, 12288 ≤ i → LF i = L0 i ∧ KF i = K0 i) ∧ ct.toInt = sumI pF b0 ∧
  RelW (nbase w h m * 256 - pot il ik (nbase w h m) + (nbase w h m * 75 - pot ol ok (nbase w h m)) + 35 * (nb - b0) + (24 * (lc.toInt - sumI pF b0).toNat + 16)) g r c N R s e q B
theorem TSafe.mono {n a b : Nat} {lo kn : Nat → Int32} (h : TSafe n a lo kn) (hab : a ≤ b) : TSafe n b lo kn := by
  intro x hx
  have := h x hx
  omega
theorem sumI_part {f : Nat → Int32} {b n : Nat} (hf : ∀ x, x < n → 0 ≤ (f x).toInt) (hb : b ≤ n) : sumI f b ≤ sumI f n := by
  induction hb with
  | refl => omega
  | step hm ih =>
    rw [sumI_s]
    have := ih (fun x hx => hf x (by omega))
    have := hf _ (Nat.lt_succ_self _)
    omega
set_option maxHeartbeats 2000000 in
theorem s_restW {F : Nat} (hF : 1000000 ≤ F) {m : Nat} {w h : Nat → Nat} {nb layer b i k : Nat} {rec23 : (Nat → Int32) → (Nat → Int32) → (Nat → Int32) → (Nat → Int32) → (Nat → Int32) → Nat → (Nat → Int32) → (Nat → Int32) → (Nat → Int32) → (Nat → Int32) → (Nat → Int32) → (Nat → Int32) → (Nat → Int32) → (Nat → Int32) → Int32 → (Nat → Int32) → Int32 → Int32 → Int32 → Nat → (Nat → Int32) → Int32 → Option (Nat × Nat × Int32 × Int32 × (Nat → Int32) × (Nat → Int32) × (Nat → Int32) × (Nat → Int32) × (Nat → Int32) × (Nat → Int32) × Nat × (Nat → Int32) × (Nat → Int32) × (Nat → Int32) × (Nat → Int32) × (Nat → Int32) × (Nat → Int32) × (Nat → Int32) × (Nat → Int32) × Int32 × Int32 × Int32 × Nat × (Nat → Int32))}
    {ly cn st : Int32} {bN leN abN wN aN nN fN pN tN iP iN iL iK oP oN oL oK lN : Nat} {bF leF abF onu wF aF fF pF tF lF ip inu il ik op ol ok nF : Nat → Int32} {lc g r c : Int32} {N : Nat} {R : Nat → Int32} {v2 : Int32}
    {sz P wr s e q ct : Int32} {B beF wiF hiF fiF miF LF KF brF cF toF WF oF LeF aF0 L0 K0 WF0 : Nat → Int32} {p0 p1 p2 : Int32}
    {Z : Nat × Nat × Int32 × Int32 × (Nat → Int32) × (Nat → Int32) × (Nat → Int32) × (Nat → Int32) × (Nat → Int32) × (Nat → Int32) × Nat × (Nat → Int32) × (Nat → Int32) × (Nat → Int32) × (Nat → Int32) × (Nat → Int32) × (Nat → Int32) × (Nat → Int32) × (Nat → Int32) × Int32 × Int32 × Int32 × Nat × (Nat → Int32) → Int32 × Int32 × Int32 × Int32 × Int32 × (Nat → Int32) × (Nat → Int32) × (Nat → Int32) × (Nat → Int32) × (Nat → Int32) × (Nat → Int32) × (Nat → Int32) × (Nat → Int32) × (Nat → Int32) × (Nat → Int32) → Prop} {v4 : Int32}
    (hC : CW m w h nb layer st abF leF nF fF pF lF inu onu lc lN wiF hiF beF cF brF toF fiF miF oF LeF aF0)
    (hsz : nb ≤ leN ∧ nbase w h m ≤ abN ∧ nb ≤ wN ∧ nb ≤ aN ∧ nb ≤ nN ∧ nb ≤ fN ∧ nb ≤ pN ∧ nb ≤ tN ∧ iP = 7 ∧ nbase w h m ≤ iN ∧ nbase w h m ≤ iL ∧ nbase w h m ≤ iK ∧ oP = 7 ∧ nbase w h m ≤ oN ∧ nbase w h m ≤ oL ∧ nbase w h m ≤ oK)
    (hcn : cn.toInt = m ∧ m < bN) (hbF : (bF m).toInt = nb) (hly : ly.toInt = layer) (hw : wr.toInt = 1) (hb : v2.toInt = b ∧ b = bbase w h i + k) (hi : i < m) (hk : k < w i * h i) (hp0 : p0.toInt = i) (hp1 : p1.toInt = k) (hp2 : p2.toInt = layer)
    (hv4 : v4.toInt = b) (hn0 : 0 < (nF b).toInt) (hw3 : ∀ b, b < nb → wF b = WF b ∧ 3 ≤ (wF b).toInt ∧ (wF b).toInt ≤ 16) (ha0 : aF b = aF0 b) (hct : ct.toInt = sumI pF b) {K : Nat} (hrel : RelW (K + 33 + 24 * (pF b).toInt.toNat) g r c N R s e q B)
    (hcont : ∀ (wF' aF' : Nat → Int32) (g' r' c' : Int32) (N' : Nat) (R' : Nat → Int32) (nc ns : Nat) (e' q' ct' : Int32) (B' WF' : Nat → Int32) (x29 : Int32), x29.toInt = (b : Int) + 1 → (wF' b = WF' b ∧ 3 ≤ (wF' b).toInt ∧ (wF' b).toInt ≤ 16) → (∀ x, ¬ x = b → wF' x = wF x) → (∀ x, ¬ x = b → WF' x = WF x) → (aF' b).toInt = (aF0 b).toInt + (nF b).toInt → (∀ x, ¬ x = b → aF' x = aF x) → ct'.toInt = sumI pF (b + 1) → RelW K g' r' c' N' R' s e' q' B' → 16 * nc + N ≤ N' → ns + 2 * N ≤ 2 * N' → Ok (rec23 wF' aF' fF pF tF lN lF ip inu il ik op ol ok lc nF g' r' c' N' R' x29) (fun z => Z (z.1 + nc, z.2.1 + ns, z.2.2) (P, e', q', 0, ct', B', fiF, miF, LF, KF, brF, toF, WF', oF, LeF))) :
    Ok (asm (vp_in v2 nN) (letb (nF b) fun x39 =>
bd (f_Bits_passesW F g r c N R x39) fun u40 =>
addc u40.1 u40.2.1 (
bd (f_Side_accept F lc cn st bN bF aN aF nN nF fN fF pN pF tN tF lN lF v2 u40.2.2.1) fun u44 =>
addc u44.1 u44.2.1 (
if u44.2.2.1 = 0 then (
g_Side_headW_83 F rec23 wF u44.2.2.2.2.2.1 u44.2.2.2.2.2.2.1 u44.2.2.2.2.2.2.2.1 u44.2.2.2.2.2.2.2.2.1 u44.2.2.2.2.2.2.2.2.2 u44.2.2.2.2.1 ip il ik u44.2.2.2.1 aF inu op ol ok u40.2.2.2.1 u40.2.2.2.2.1 u40.2.2.2.2.2.1 u40.2.2.2.2.2.2.1 u40.2.2.2.2.2.2.2 v2) else (
bd (f_Side_tellLengthsW F st wN wF aN aF nN u44.2.2.2.2.1 fN u44.2.2.2.2.2.1 pN u44.2.2.2.2.2.2.1 u44.2.2.2.2.2.2.2.2.1 u44.2.2.2.2.2.2.2.2.2 u40.2.2.2.1 u40.2.2.2.2.1 u40.2.2.2.2.2.1 u40.2.2.2.2.2.2.1 u40.2.2.2.2.2.2.2 v2) fun u48 =>
addc u48.1 u48.2.1 (
if u48.2.2.1 = 0 then (
g_Side_headW_83 F rec23 u48.2.2.2.1 u44.2.2.2.2.2.1 u44.2.2.2.2.2.2.1 u44.2.2.2.2.2.2.2.1 u44.2.2.2.2.2.2.2.2.1 u48.2.2.2.2.2.1 u44.2.2.2.2.1 ip il ik u44.2.2.2.1 u48.2.2.2.2.1 inu op ol ok u48.2.2.2.2.2.2.1 u48.2.2.2.2.2.2.2.1 u48.2.2.2.2.2.2.2.2.1 u48.2.2.2.2.2.2.2.2.2.1 u48.2.2.2.2.2.2.2.2.2.2 v2) else (
g_Side_headW_79 F rec23 u48.2.2.2.1 u44.2.2.2.2.2.1 u44.2.2.2.2.2.2.1 u44.2.2.2.2.2.2.2.1 u44.2.2.2.2.2.2.2.2.1 u48.2.2.2.2.2.1 op ol ok u44.2.2.2.1 u48.2.2.2.2.1 u44.2.2.2.2.1 ip inu il ik u48.2.2.2.2.2.2.1 u48.2.2.2.2.2.2.2.1 u48.2.2.2.2.2.2.2.2.1 u48.2.2.2.2.2.2.2.2.2.1 u48.2.2.2.2.2.2.2.2.2.2 v2))))))) (fun u => Ok (g_Mo_codeBlock_209 F st sz wr s 262144 2048 2048 cF 2048 2048 8200 8200 brF toF WF oF LeF P e q 0 ct B miF fiF LF KF v4) (fun t => Z u t)) := by
  have L := lits
  obtain ⟨⟨hG, hA, hL, hnb, hlay⟩, hS1, hS2, ⟨hI, hl1, hl2, hl3⟩, hwh, hnum, hblk, hlen⟩ := hC
  have g := hG.wh hi
  have eb : v2.toInt.toNat = b := by omega
  have eb4 : v4.toInt.toNat = b := by omega
  have hbn : b < nb := by omega
  have hB := hblk b hbn
  obtain ⟨b1, b2, b3, b4, b5, b6, b7, b8, b9, b10, b11, b12, b13, b14, b15⟩ := hB
  have hwb := hw3 b hbn
  have hI1 := hI.1 b hbn
  have hlc := hI.2.2.2
  have hsum := sumI_part (f := pF) (b := b + 1) (n := nb) (fun x hx => (hI.1 x hx).1) (by omega)
  have hsumb := sumI_part (f := pF) (b := 0) (n := b) (fun x hx => (hI.1 x (by omega)).1) (by omega)
  rw [show sumI pF 0 = 0 from rfl] at hsumb
  rw [sumI_s] at hsum
  rw [hI.2.2.1] at hsum
  have hpc0 : 0 < pcs st (aF0 b).toInt.toNat (nF b).toInt.toNat := by
    have := pcs_pl st (nF b).toInt.toNat (aF0 b).toInt.toNat (by omega)
    omega
  have hfr := hI1.2.2.2 (by omega)
  simp only [g_Mo_codeBlock_209, g_Mo_codeBlock_246, g_Mo_codeBlock_251, clamp_eq, eb, eb4]
  refine ok_in (by omega) (ok_v (ok_swap ?_))
  refine ok_in (by omega) (ok_v (ok_swap ?_))
  rw [b2]
  refine ok_b2 (s_pasW hF (k := K + 17 + 24 * (pF b).toInt.toNat) hw L.2.1 (by omega) (hrel.less (by omega))) (fun u40 u20 hq => ?_)
  obtain ⟨q1, q2, q3, q4, q5, q6⟩ := hq
  rw [q1, q2, q3]
  refine ok_c ?_
  refine ok_bm (Q := fun u44 => u44 = (0, 0, 1, lc, nF, fF, pF, tF, lN, lF)) ?_ (fun u44 e44 => ?_)
  · simp only [f_Side_accept, g_Side_accept_32, g_Side_accept_37, clamp_eq, eb]
    refine ok_in (by omega) (ok_v ?_)
    refine ok_lt (fun _ => ?_) (fun hc => by omega)
    exact ok_a (bool_nar (by omega)) (ok_s rfl)
  subst e44
  dsimp only
  refine ok_c ?_
  refine ok_eq (fun hc => by omega) (fun _ => ok_swap ?_)
  refine ok_eq (fun _ => ?_) (fun hc => by omega)
  refine ok_in (by omega) (ok_v ?_)
  refine ok_add (by rw [b1]; omega) (fun x22 e22 => ?_)
  rw [b1] at e22
  refine ok_le (fun _ => ?_) (fun hc => by omega)
  refine ok_a ⟨bool_nar (by omega), bool_fit (by omega)⟩ ?_
  refine ok_T ?_
  refine ok_in (by omega) ?_
  rw [← b2, upd_self]
  have hlr : ∀ k, (fF b).toInt.toNat ≤ k → k < (fF b).toInt.toNat + (pF b).toInt.toNat → 0 ≤ (lF k).toInt ∧ (lF k).toInt ≤ 65535 := by
    intro k h1 h2
    have := hlen b hbn (k - (fF b).toInt.toNat) (by omega)
    rw [show (fF b).toInt.toNat + (k - (fF b).toInt.toNat) = k by omega] at this
    try dsimp only
    exact ⟨this.1, this.2.1⟩
  refine ok_swap (ok_b2 (s_lenW (K := K) (b := b) (b' := b) (a := (aF0 b).toInt.toNat) (n := (nF b).toInt.toNat) (fr := (fF b).toInt.toNat) (pc := (pF b).toInt.toNat) (wd := (wF b).toInt.toNat) hF hw L.2.1 ⟨hb.1, by omega, by omega, by omega, by omega, by omega⟩ ⟨hv4, by omega⟩ ⟨by rw [ha0]; omega, by rw [b1]; omega⟩ ⟨by omega, by rw [b2]; omega⟩ (by omega) ⟨by omega, by omega⟩ ⟨by omega, by omega, by omega, by omega⟩ ⟨by omega, by rw [← hwb.1]; omega, by omega, by omega⟩ hlr (fun k hk => (hlen b hbn k hk).2.2) ⟨by omega, by omega⟩ q4) (fun u48 u18 hz => ?_))
  unfold QL at hz
  obtain ⟨z1, z2, z3, z4, z5, z6, z7, z8, z9, z10, z11, z12, z13, z14, z15, z16⟩ := hz
  refine ok_c ?_
  refine ok_eq (fun hc => by omega) (fun _ => ?_)
  simp only [g_Side_headW_79, g_Side_headW_84]
  refine ok_eq (fun hc => by omega) (fun _ => ?_)
  refine ok_add (by omega) (fun x29 e29 => ?_)
  rw [z7]
  refine ok_m (hcont u48.2.2.2.1 u48.2.2.2.2.1 _ _ _ _ _ (u48.1 + u40.1) (u48.2.1 + u40.2.1) _ _ u18.2.2.2.2.1 _ u18.2.2.2.2.2.2.2.1 x29 (by omega) z2 z3 z4 (by omega) z6 (by rw [z10, sumI_s]; omega) z14 (by omega) (by omega)) (fun z hz => ok_s ?_)
  rw [z8, z9, z11, z12, z13]
  have ee : (z.1 + u48.1 + 0 + u40.1, z.2.1 + u48.2.1 + 0 + u40.2.1, z.2.2) = (z.1 + (u48.1 + u40.1), z.2.1 + (u48.2.1 + u40.2.1), z.2.2) := by rw [Nat.add_zero, Nat.add_zero, Nat.add_assoc, Nat.add_assoc]
  rw [← ee] at hz
  exact hz
