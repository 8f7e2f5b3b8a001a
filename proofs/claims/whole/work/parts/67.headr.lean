/-! The head, read. -/
def EndR (e1 : Int32) (B : Nat → Int32) (sz e2 wg2 : Int32) : Prop := ((B (e1.toInt.toNat - 1)).toInt % 256 = 255 ∧ e1.toInt = sz.toInt ∧ wg2.toInt = 1) ∨ ((B (e1.toInt.toNat - 1)).toInt % 256 = 255 ∧ e1.toInt < sz.toInt ∧ wg2.toInt = 0 ∧ e2.toInt = e1.toInt + 1) ∨ (¬ (B (e1.toInt.toNat - 1)).toInt % 256 = 255 ∧ wg2.toInt = 0 ∧ e2 = e1)
theorem w_135R {F : Nat} {st0 n0 en la lf lk c : Int32} {N : Nat} {R : Nat → Int32} {sz wr s e q ct P : Int32} {B fiF miF LF KF brF toF WF oF LeF : Nat → Int32} (hw : wr.toInt = 0) (h : RelR st0 n0 en la lf lk c N R sz s e q 0 B) :
    Ok (g_Mo_codeHead_135 F sz wr s 262144 fiF miF LF KF brF toF WF oF LeF P e q 0 ct B) (fun v => ∃ e2 q2 wg2, v = (P, e2, q2, wg2, ct, B, fiF, miF, LF, KF, brF, toF, WF, oF, LeF) ∧ EndR e B sz e2 wg2) := by
  have L := lits
  obtain ⟨⟨h1, h2, h3, h4, h5, h6, h7, h8, h9, h10, h11⟩, h12⟩ := h
  have hs := h12 L.2.1
  rw [L.2.1] at h11
  have hg : n0.toInt = e.toInt ∧ e.toInt ≤ sz.toInt := by omega
  simp only [g_Mo_codeHead_135, g_Mo_codeHead_152, g_Mo_codeHead_179, g_Mo_codeHead_183]
  refine ok_T ?_
  refine ok_bm (w_lastByte (by omega)) (fun u15 e15 => ?_)
  refine ok_eq (fun c1 => ?_) (fun c1 => ok_s ⟨e, q, 0, rfl, Or.inr (Or.inr ⟨by omega, L.2.1, rfl⟩)⟩)
  refine ok_eq (fun _ => ?_) (fun hc => by omega)
  refine ok_eq (fun c2 => ok_s ⟨e, q, 1, rfl, Or.inl ⟨by omega, c2, L.2.2.1⟩⟩) (fun c2 => ?_)
  refine ok_bm (w_nextR hw ⟨h3, by omega, by omega⟩) (fun u14 e14 => ok_s ?_)
  rw [e14.2.2]
  try dsimp only
  exact ⟨u14.1, u14.2.1, 0, rfl, Or.inr (Or.inl ⟨by omega, by omega, L.2.1, e14.1⟩)⟩
theorem s_closeR {F : Nat} {st0 n0 en la lf lk c : Int32} {N : Nat} {R : Nat → Int32} {sz s e q e2 wg2 : Int32} {B : Nat → Int32} (h : RelR st0 n0 en la lf lk c N R sz s e q 0 B) (hE : EndR e B sz e2 wg2) :
    Ok (f_Source_close F st0 n0 en la lf lk c N R) (fun u => (wg2.toInt = 0 ∧ u.1.toInt = e2.toInt - s.toInt ∧ 0 ≤ u.1.toInt) ∨ (wg2.toInt = 1 ∧ u.1.toInt = -1)) := by
  have L := lits
  have l255 : (255 : Int32).toInt = 255 := by decide
  obtain ⟨⟨h1, h2, h3, h4, h5, h6, h7, h8, h9, h10, h11⟩, h12⟩ := h
  have hs := h12 L.2.1
  rw [L.2.1] at h11
  have hg : n0.toInt = e.toInt ∧ e.toInt ≤ sz.toInt ∧ lk.toInt = 0 ∧ la.toInt = (B (e.toInt.toNat - 1)).toInt % 256 := by omega
  simp only [f_Source_close, g_Source_close_14, g_Source_close_34, f_Source_takeByte, g_Source_takeByte_35]
  unfold EndR at hE
  have cl : ∀ (n1 la1 lf1 lk1 : Int32) (P : Int32 × Int32 × Int32 × Int32 × Int32 → Prop), -2147483648 ≤ n1.toInt - st0.toInt → n1.toInt - st0.toInt ≤ 2147483647 → (lk1.toInt = 0 → ∀ x3 : Int32, x3.toInt = n1.toInt - st0.toInt → P (x3, n1, la1, lf1, lk1)) → (¬ lk1.toInt = 0 → P (-1, n1, la1, lf1, lk1)) → Ok (if lk1 = 0 then letb (n1 - st0) fun x3 => some (x3, n1, la1, lf1, lk1) else some (-1, n1, la1, lf1, lk1)) P := by
    intro n1 la1 lf1 lk1 P h0 h0' h1 h2
    exact ok_eq (fun c => ok_sub ⟨h0, h0'⟩ (fun x3 e3 => ok_s (h1 c x3 e3))) (fun c => ok_s (h2 c))
  refine ok_eq (fun c1 => ?_) (fun c1 => ?_)
  · refine ok_b ?_
    refine ok_lt (fun c2 => ?_) (fun c2 => ok_s ?_)
    · refine ok_eq (fun c3 => ?_) (fun c3 => absurd c1 c3)
      refine ok_bm (w_Store_get (by omega)) (fun u3 e3 => ?_)
      refine ok_add (by omega) (fun x4 e4 => ok_s ?_)
      refine cl _ _ _ _ _ (by (try dsimp only); omega) (by (try dsimp only); omega) (fun _ x3 e3 => ?_) (fun hc => by dsimp only at hc; omega)
      dsimp only at e3 ⊢
      omega
    · refine cl _ _ _ _ _ (by (try dsimp only); omega) (by (try dsimp only); omega) (fun hc => by dsimp only at hc; omega) (fun hc => ?_)
      dsimp only
      omega
  · refine cl _ _ _ _ _ (by omega) (by omega) (fun _ x3 e3 => ?_) (fun hc => by omega)
    dsimp only
    rcases hE with z | z | ⟨z1, z2, z3⟩
    · omega
    · omega
    · rw [z3]; omega
theorem w_closeX {F : Nat} {st0 n0 en la lf lk c : Int32} {N : Nat} {R : Nat → Int32} (h : SG n0 en c N) :
    Ok (f_Source_close F st0 n0 en la lf lk c N R) (fun u => lk.toInt = 1 → u.1.toInt = -1) := by
  have L := lits
  have l255 : (255 : Int32).toInt = 255 := by decide
  unfold SG at h
  simp only [f_Source_close, g_Source_close_14, g_Source_close_34, f_Source_takeByte, g_Source_takeByte_35]
  have cl : ∀ (n1 la1 lf1 lk1 : Int32), (lk.toInt = 1 → lk1.toInt = 1) → Ok (if lk1 = 0 then letb (n1 - st0) fun x3 => some (x3, n1, la1, lf1, lk1) else some (-1, n1, la1, lf1, lk1)) (fun u => lk.toInt = 1 → u.1.toInt = -1) := by
    intro n1 la1 lf1 lk1 h1
    exact ok_eq (fun c => ok_l (fun x3 e3 => ok_s (fun z => by have := h1 z; omega))) (fun c => ok_s (fun _ => L.1))
  refine ok_eq (fun c1 => ?_) (fun c1 => cl _ _ _ _ (fun z => z))
  refine ok_b ?_
  refine ok_lt (fun c2 => ?_) (fun c2 => ok_s (cl _ _ _ _ (fun _ => L.2.2.1)))
  refine ok_eq (fun c3 => ?_) (fun c3 => absurd c1 c3)
  refine ok_bm (w_Store_get (by omega)) (fun u3 e3 => ?_)
  exact ok_l (fun x4 e4 => ok_s (cl _ _ _ _ (fun z => z)))
def QHR (m : Nat) (w h : Nat → Nat) (layer : Nat) (nb P0 : Nat) (o0 l0 fi0 mi0 br0 to0 W0 L0 K0 : Nat → Int32) (cF : Nat → Int32) (st0 en c : Int32) (N : Nat) (R : Nat → Int32) (sz s : Int32) (B : Nat → Int32) (lN : Nat) (u : Nat × Nat × Int32 × Int32 × (Nat → Int32) × (Nat → Int32) × (Nat → Int32) × (Nat → Int32) × (Nat → Int32) × (Nat → Int32) × Nat × (Nat → Int32) × (Nat → Int32) × (Nat → Int32) × (Nat → Int32) × (Nat → Int32) × (Nat → Int32) × (Nat → Int32) × (Nat → Int32) × Int32 × Int32 × Int32 × Int32) (v : Int32 × Int32 × Int32 × Int32 × Int32 × (Nat → Int32) × (Nat → Int32) × (Nat → Int32) × (Nat → Int32) × (Nat → Int32) × (Nat → Int32) × (Nat → Int32) × (Nat → Int32) × (Nat → Int32) × (Nat → Int32)) : Prop :=
  (u.2.2.1.toInt = 1 ∧ (16 * u.1 + lN ≤ u.2.2.2.2.2.2.2.2.2.2.1 ∧ u.2.1 + 2 * lN ≤ 2 * u.2.2.2.2.2.2.2.2.2.2.1) ∧ v.2.2.2.2.2.1 = B ∧ IRr nb nb cF u.2.2.2.2.1 u.2.2.2.2.2.1 u.2.2.2.2.2.2.2.2.1 u.2.2.2.2.2.2.1 v.2.2.2.2.2.2.2.2.2.2.1 v.2.2.2.2.2.2.2.2.2.2.2.1 v.2.2.2.2.2.2.2.2.2.2.2.2.1 ∧ (∀ i k, i < m → k < w i * h i → IR4 w h i k u.2.2.2.2.2.1 u.2.2.2.2.2.2.2.2.2.2.2.2.2.1 u.2.2.2.2.2.2.2.2.2.2.2.2.2.2.2.2.2.1 v.2.2.2.2.2.2.1 v.2.2.2.2.2.2.2.1) ∧ IRt m w h layer u.2.2.2.2.2.2.2.2.2.2.2.2.2.2.1 u.2.2.2.2.2.2.2.2.2.2.2.2.2.2.2.1 u.2.2.2.2.2.2.2.2.2.2.2.2.2.2.2.2.2.1 u.2.2.2.2.2.2.2.2.2.2.2.2.2.2.2.2.2.2.1 v.2.2.2.2.2.2.2.2.1 v.2.2.2.2.2.2.2.2.2.1 ∧ IRl nb P0 u.2.2.2.2.2.2.2.1 u.2.2.2.2.2.2.2.2.1 u.2.2.2.2.2.2.2.2.2.2.2.1 u.2.2.2.1 u.2.2.2.2.2.2.2.2.2.2.1 v.1 v.2.2.2.2.1 v.2.2.2.2.2.2.2.2.2.2.2.1 v.2.2.2.2.2.2.2.2.2.2.2.2.2.1 v.2.2.2.2.2.2.2.2.2.2.2.2.2.2 ∧ FR nb P0 o0 l0 fi0 mi0 br0 to0 W0 L0 K0 v.1.toInt v.2.2.2.2.2.2.1 v.2.2.2.2.2.2.2.1 v.2.2.2.2.2.2.2.2.1 v.2.2.2.2.2.2.2.2.2.1 v.2.2.2.2.2.2.2.2.2.2.1 v.2.2.2.2.2.2.2.2.2.2.2.1 v.2.2.2.2.2.2.2.2.2.2.2.2.1 v.2.2.2.2.2.2.2.2.2.2.2.2.2.1 v.2.2.2.2.2.2.2.2.2.2.2.2.2.2 ∧ ∃ e1 q1 : Int32, RelR st0 u.2.2.2.2.2.2.2.2.2.2.2.2.2.2.2.2.2.2.2.1 en u.2.2.2.2.2.2.2.2.2.2.2.2.2.2.2.2.2.2.2.2.1 u.2.2.2.2.2.2.2.2.2.2.2.2.2.2.2.2.2.2.2.2.2.1 u.2.2.2.2.2.2.2.2.2.2.2.2.2.2.2.2.2.2.2.2.2.2 c N R sz s e1 q1 0 B ∧ EndR e1 B sz v.2.1 v.2.2.2.1) ∨
  (PXr lN en c N u ∧ FB nb P0 o0 l0 fi0 mi0 br0 to0 W0 L0 K0 B v)
theorem w_endR {F : Nat} (hF : 1000000 ≤ F) {m : Nat} {w h : Nat → Nat} {st bd0 sz wr s v1 : Int32} {beF wiF hiF cF : Nat → Int32} {P e q wg ct : Int32} {B fiF miF LF KF brF toF WF oF LeF : Nat → Int32} (hg : wg.toInt = 1) (hm : bd0.toInt = m ∧ m ≤ 3) (hwh : ∀ i, i < m → (wiF i).toInt = w i ∧ (hiF i).toInt = h i ∧ w i < 65 ∧ h i < 65) :
    ∀ (d i fu' fu'' : Nat) (v3 v4 : Int32), d = m - i → i < m → 0 < fu' → d < fu'' → v3.toInt = i → Ok (f_Mo_codeHead_90 F (f_Mo_codeHead_79 F st bd0 sz wr s 262144 4 beF 3 wiF 3 hiF 2048 2048 24576 24576 2048 2048 cF 2048 2048 8200 8200 fu'') st sz wr s 262144 4 beF 3 wiF 3 hiF 2048 2048 24576 24576 2048 2048 cF 2048 2048 8200 8200 fu' fiF miF LF KF brF toF WF oF LeF P e q wg ct B v1 v3 v4) (fun v => v = (P, e, q, wg, ct, B, fiF, miF, LF, KF, brF, toF, WF, oF, LeF)) := by
  have L := lits
  intro d
  induction d with
  | zero => intro i fu' fu'' v3 v4 h1 h2; omega
  | succ d ih =>
    intro i fu' fu'' v3 v4 h1 h2 h3 h4 h5
    obtain ⟨fu', rfl⟩ : ∃ y, fu' = y + 1 := ⟨fu' - 1, by omega⟩
    obtain ⟨fu'', rfl⟩ : ∃ y, fu'' = y + 1 := ⟨fu'' - 1, by omega⟩
    have hin := hwh i h2
    have ei : v3.toInt.toNat = i := by omega
    have hmul : (wiF i).toInt * (hiF i).toInt = ((w i * h i : Nat) : Int) := by rw [hin.1, hin.2.1, Int.natCast_mul]
    have hle : w i * h i ≤ 65 * 65 := Nat.mul_le_mul (by omega) (by omega)
    rw [f_Mo_codeHead_90]
    simp only [g_Mo_codeHead_90, g_Mo_codeHead_129, clamp_eq, ei]
    have nxt : Ok (letb (v3 + 1) fun x16 => f_Mo_codeHead_79 F st bd0 sz wr s 262144 4 beF 3 wiF 3 hiF 2048 2048 24576 24576 2048 2048 cF 2048 2048 8200 8200 (fu'' + 1) fiF miF LF KF brF toF WF oF LeF P e q wg ct B v1 x16) (fun v => v = (P, e, q, wg, ct, B, fiF, miF, LF, KF, brF, toF, WF, oF, LeF)) := by
      refine ok_add (by omega) (fun x16 e16 => ?_)
      rw [f_Mo_codeHead_79]
      simp only [g_Mo_codeHead_79]
      refine ok_le (fun c2 => ?_) (fun c2 => ih (i + 1) F fu'' x16 0 (by omega) (by omega) (by omega) (by omega) (by omega))
      simp only [g_Mo_codeHead_135, g_Mo_codeHead_152]
      exact ok_eq (fun hc => by omega) (fun _ => ok_s rfl)
    refine ok_in (by omega) (ok_v ?_)
    refine ok_in (by omega) (ok_v ?_)
    refine ok_mul (by omega) (fun x19 e19 => ?_)
    refine ok_le (fun _ => nxt) (fun _ => ?_)
    exact ok_eq (fun hc => by omega) (fun _ => nxt)
set_option maxHeartbeats 4000000 in
theorem s_loopR {F : Nat} (hF : 1000000 ≤ F) {m : Nat} {w h : Nat → Nat} {nb layer P0 : Nat}
    {ly cn st bd0 : Int32} {bN leN abN wN aN nN fN pN tN iP iN iL iK oP oN oL oK : Nat} {bF leF abF onu : Nat → Int32} {st0 en c : Int32} {N : Nat} {R : Nat → Int32}
    {sz wr s : Int32} {B beF wiF hiF cF o0 l0 fi0 mi0 br0 to0 W0 L0 K0 : Nat → Int32} {v1 : Int32}
    (hC : CR m w h nb layer abF leF wiF hiF beF cF)
    (hsz : nb ≤ leN ∧ nbase w h m ≤ abN ∧ nb ≤ wN ∧ nb ≤ aN ∧ nb ≤ nN ∧ nb ≤ fN ∧ nb ≤ pN ∧ nb ≤ tN ∧ iP = 7 ∧ nbase w h m ≤ iN ∧ nbase w h m ≤ iL ∧ nbase w h m ≤ iK ∧ oP = 7 ∧ nbase w h m ≤ oN ∧ nbase w h m ≤ oL ∧ nbase w h m ≤ oK)
    (hcn : cn.toInt = m ∧ m < bN) (hbF : (bF m).toInt = nb) (hly : ly.toInt = layer) (hw : wr.toInt = 0) (hP0 : P0 ≤ 4096) (hbd : bd0.toInt = m) (hv1 : v1.toInt = layer) :
    ∀ (t i k b fu fu' fu'' : Nat) (wF aF fF pF tF : Nat → Int32) (lN : Nat) (lF ip inu il ik op ol ok : Nat → Int32) (lc : Int32) (nF : Nat → Int32) (n0 la lf lk : Int32) (P e q ct : Int32) (fiF miF LF KF brF toF WF oF LeF : Nat → Int32) (v2 v3 v4 : Int32), t = (nb - b) + (m - i) → i < m → k ≤ w i * h i → b = bbase w h i + k → nb - b < fu → w i * h i - k < fu' → m - i < fu'' → v2.toInt = b → v3.toInt = i → v4.toInt = k → IRr nb b cF wF aF pF nF brF toF WF → (∀ i k, i < m → k < w i * h i → IR4 w h i k aF inu ol fiF miF) → IRt m w h layer il ik ol ok LF KF → IRl nb P0 fF pF lF lc lN P ct toF oF LeF → FR nb P0 o0 l0 fi0 mi0 br0 to0 W0 L0 K0 P.toInt fiF miF LF KF brF toF WF oF LeF → RelR st0 n0 en la lf lk c N R sz s e q 0 B →
      Ok (f_Side_headR_23 F ly cn st bN bF leN leF abN abF wN aN nN fN pN tN iP iN iL iK oP oN onu oL oK en c N R fu wF aF fF pF tF lN lF ip inu il ik op ol ok lc nF n0 la lf lk v2) (fun u => Ok (f_Mo_codeHead_90 F (f_Mo_codeHead_79 F st bd0 sz wr s 262144 4 beF 3 wiF 3 hiF 2048 2048 24576 24576 2048 2048 cF 2048 2048 8200 8200 fu'') st sz wr s 262144 4 beF 3 wiF 3 hiF 2048 2048 24576 24576 2048 2048 cF 2048 2048 8200 8200 fu' fiF miF LF KF brF toF WF oF LeF P e q 0 ct B v1 v3 v4) (fun v => QHR m w h layer nb P0 o0 l0 fi0 mi0 br0 to0 W0 L0 K0 cF st0 en c N R sz s B lN u v)) := by
  have L := lits
  have hC0 := hC
  obtain ⟨⟨hG, hA, hL, hnb, hlay⟩, hwh, hcF⟩ := hC
  have g3 := hG.1
  have hnb2 := hG.2.2
  intro t
  induction t with
  | zero => intro i k b fu fu' fu'' wF aF fF pF tF lN lF ip inu il ik op ol ok lc nF n0 la lf lk P e q ct fiF miF LF KF brF toF WF oF LeF v2 v3 v4 h1 h2; omega
  | succ t ih =>
    intro i k b fu fu' fu'' wF aF fF pF tF lN lF ip inu il ik op ol ok lc nF n0 la lf lk P e q ct fiF miF LF KF brF toF WF oF LeF v2 v3 v4 h1 h2 h3 h4 h5 h6 h7 h8 h9 h10 hI1 hI4 hIt hIl hfr hrel
    obtain ⟨fu', rfl⟩ : ∃ y, fu' = y + 1 := ⟨fu' - 1, by omega⟩
    have gw := hG.wh h2
    have hin := hwh i h2
    have ei : v3.toInt.toNat = i := by omega
    have hmul : (wiF i).toInt * (hiF i).toInt = ((w i * h i : Nat) : Int) := by rw [hin.1, hin.2.1, Int.natCast_mul]
    refine ok_swap ?_
    rw [f_Mo_codeHead_90]
    simp only [g_Mo_codeHead_90, g_Mo_codeHead_129, clamp_eq, ei]
    refine ok_in (by omega) (ok_v ?_)
    refine ok_in (by omega) (ok_v ?_)
    refine ok_mul (by omega) (fun x19 e19 => ?_)
    refine ok_le (fun c1 => ?_) (fun c1 => ?_)
    · have hk : k = w i * h i := by omega
      refine ok_add (by omega) (fun x16 e16 => ?_)
      obtain ⟨fu'', rfl⟩ : ∃ y, fu'' = y + 1 := ⟨fu'' - 1, by omega⟩
      rw [f_Mo_codeHead_79]
      simp only [g_Mo_codeHead_79]
      refine ok_le (fun c2 => ?_) (fun c2 => ?_)
      · have hb : b = nb := by
          have : i + 1 = m := by omega
          rw [hnb, ← this, bbase_s]; omega
        refine ok_m (w_135R hw hrel) (fun v hv => ?_)
        obtain ⟨e2, q2, wg2, rfl, hE⟩ := hv
        obtain ⟨fu, rfl⟩ : ∃ y, fu = y + 1 := ⟨fu - 1, by omega⟩
        simp only [f_Side_headR_23, g_Side_headR_23]
        refine ok_bm (w_blocks hcn hbF) (fun u30 e30 => ?_)
        refine ok_le (fun _ => ok_s ?_) (fun hc => by omega)
        unfold QHR
        dsimp only
        rw [hb] at hI1
        try dsimp only
        exact Or.inl ⟨L.2.2.1, ⟨by omega, by omega⟩, rfl, hI1, hI4, hIt, hIl, hfr, e, q, hrel, hE⟩
      · have hbs := bbase_s w h i
        exact ok_swap (ih (i + 1) 0 b fu F fu'' wF aF fF pF tF lN lF ip inu il ik op ol ok lc nF n0 la lf lk P e q ct fiF miF LF KF brF toF WF oF LeF v2 x16 0 (by omega) (by omega) (Nat.zero_le _) (by omega) h5 (by have := hG.wh (show i + 1 < m by omega); omega) (by omega) h8 (by omega) (by omega) hI1 hI4 hIt hIl hfr hrel)
    · refine ok_T ?_
      obtain ⟨fu, rfl⟩ : ∃ y, fu = y + 1 := ⟨fu - 1, by omega⟩
      rw [f_Side_headR_23]
      refine ok_swap (ok_m (s_blockR (Z := fun u t => Ok (letb (v4 + 1) fun x21 => f_Mo_codeHead_90 F (f_Mo_codeHead_79 F st bd0 sz wr s 262144 4 beF 3 wiF 3 hiF 2048 2048 24576 24576 2048 2048 cF 2048 2048 8200 8200 fu'') st sz wr s 262144 4 beF 3 wiF 3 hiF 2048 2048 24576 24576 2048 2048 cF 2048 2048 8200 8200 fu' t.2.2.2.2.2.2.1 t.2.2.2.2.2.2.2.1 t.2.2.2.2.2.2.2.2.1 t.2.2.2.2.2.2.2.2.2.1 t.2.2.2.2.2.2.2.2.2.2.1 t.2.2.2.2.2.2.2.2.2.2.2.1 t.2.2.2.2.2.2.2.2.2.2.2.2.1 t.2.2.2.2.2.2.2.2.2.2.2.2.2.1 t.2.2.2.2.2.2.2.2.2.2.2.2.2.2 t.1 t.2.1 t.2.2.1 t.2.2.2.1 t.2.2.2.2.1 t.2.2.2.2.2.1 v1 v3 x21) (fun v => QHR m w h layer nb P0 o0 l0 fi0 mi0 br0 to0 W0 L0 K0 cF st0 en c N R sz s B lN u v)) hF hC0 hsz hcn hbF hly hw ⟨h8, h4⟩ h2 (by omega) hP0 h9 h10 hv1 hI1 hI4 hIt hIl hfr hrel ?_ ?_ ?_) (fun u hu => ok_b hu))
      · intro wF' aF' fF' pF' tF' lN' lF' ip' inu' il' ik' op' ol' ok' lc' nF' n0' la' lf' lk' x29 f1 f2 f3
        exact x_loop hF hG hA hL hnb hlay hsz hcn hbF hly (nb - (b + 1)) (b + 1) fu wF' aF' fF' pF' tF' lN' lF' ip' inu' il' ik' op' ol' ok' lc' nF' n0' la' lf' lk' x29 rfl (by omega) (by omega) (by omega) f2 f3
      · intro u t hu ht
        refine ok_add (by omega) (fun x21 e21 => ?_)
        have hwg := ht.1
        have hBB := ht.2.1
        refine ok_m (w_endR hF hwg ⟨hbd, g3⟩ (fun i' hi' => ⟨(hwh i' hi').1, (hwh i' hi').2.1, (hG.wh hi').1, (hG.wh hi').2.1⟩) (m - i) i fu' fu'' v3 x21 rfl h2 (by omega) h7 h9) (fun v hv => ?_)
        subst hv
        try dsimp only
        exact Or.inr ⟨hu, ht⟩
      · intro wF' aF' fF' pF' tF' lN' lF' ip' inu' il' ik' op' ol' ok' lc' nF' n0' la' lf' lk' x29 nc ns P' e' q' ct' fiF' miF' LF' KF' brF' toF' WF' oF' LeF' f1 f2 f3 f4 f5 f6 f7 f8 f9
        refine ok_m (ih i (k + 1) (b + 1) fu fu' fu'' wF' aF' fF' pF' tF' lN' lF' ip' inu' il' ik' op' ol' ok' lc' nF' n0' la' lf' lk' P' e' q' ct' fiF' miF' LF' KF' brF' toF' WF' oF' LeF' x29 v3 (v4 + 1) (by omega) h2 (by omega) (by omega) (by omega) (by omega) h7 (by omega) h9 (by rw [ti_add (by omega)]; omega) f2 f3 f4 f5 f6 f7) (fun z hz => ?_)
        refine ok_v (ok_m hz (fun v hv => ?_))
        unfold QHR at hv ⊢
        rcases hv with ⟨z1, z2, z3⟩ | ⟨z1, z2⟩
        · try dsimp only
          exact Or.inl ⟨z1, ⟨by (try dsimp only); omega, by (try dsimp only); omega⟩, z3⟩
        · try dsimp only
          exact Or.inr ⟨z1.add f8 f9, z2⟩
set_option maxHeartbeats 4000000 in
theorem s_headR {F : Nat} (hF : 1000000 ≤ F) {m : Nat} {w h : Nat → Nat} {nb layer P0 : Nat}
    {ly cn st bd0 : Int32} {bN leN abN wN aN nN fN pN tN iP iN iL iK oP oN oL oK lN : Nat} {bF leF abF onu wF aF fF pF tF lF ip inu il ik op ol ok nF : Nat → Int32} {lc st0 n0 en la lf lk c : Int32} {N : Nat} {R : Nat → Int32}
    {sz P wr s e q ct : Int32} {B beF wiF hiF cF fiF miF LF KF brF toF WF oF LeF lyF o0 l0 fi0 mi0 br0 to0 W0 L0 K0 : Nat → Int32}
    (hC : CR m w h nb layer abF leF wiF hiF beF cF)
    (hsz : nb ≤ leN ∧ nbase w h m ≤ abN ∧ nb ≤ wN ∧ nb ≤ aN ∧ nb ≤ nN ∧ nb ≤ fN ∧ nb ≤ pN ∧ nb ≤ tN ∧ iP = 7 ∧ nbase w h m ≤ iN ∧ nbase w h m ≤ iL ∧ nbase w h m ≤ iK ∧ oP = 7 ∧ nbase w h m ≤ oN ∧ nbase w h m ≤ oL ∧ nbase w h m ≤ oK)
    (hcn : cn.toInt = m ∧ m < bN) (hbF : (bF m).toInt = nb) (hly : ly.toInt = layer) (hw : wr.toInt = 0) (hP0 : P0 ≤ 4096) (hbd : bd0.toInt = m) (hlyF : (lyF 1).toInt = layer) (hbe : (beF m).toInt = nb)
    (hI1 : IRr nb 0 cF wF aF pF nF brF toF WF) (hI4 : ∀ i k, i < m → k < w i * h i → IR4 w h i k aF inu ol fiF miF) (hIt : IRt m w h layer il ik ol ok LF KF) (hIl : IRl nb P0 fF pF lF lc lN P ct toF oF LeF) (hfr : FR nb P0 o0 l0 fi0 mi0 br0 to0 W0 L0 K0 P.toInt fiF miF LF KF brF toF WF oF LeF) (hrel : RelR0 st0 n0 en la lf lk c N R sz s e q 0 B) :
    Ok (f_Side_headR F lc ly cn st bN bF leN leF abN abF wN wF aN aF nN nF fN fF pN pF tN tF lN lF iP ip iN inu iL il iK ik oP op oN onu oL ol oK ok n0 en la lf lk c N R) (fun u => Ok (f_Mo_codeHead F st bd0 sz P wr s e q 0 ct 262144 B 4 beF 3 wiF 3 hiF 2048 fiF 2048 miF 24576 LF 24576 KF 2048 brF 2048 cF 2048 toF 2048 WF 8200 oF 8200 LeF 2 lyF) (fun v => QHR m w h layer nb P0 o0 l0 fi0 mi0 br0 to0 W0 L0 K0 cF st0 en c N R sz s B lN u v)) := by
  have L := lits
  have hC0 := hC
  obtain ⟨⟨hG, hA, hL, hnb, hlay⟩, hwh, hcF⟩ := hC
  have g3 := hG.1
  have hnb2 := hG.2.2
  have hIl0 := hIl
  have hfr0 := hfr
  obtain ⟨⟨l1, l2, l3, l4, l5, l6⟩, l7, l8⟩ := hIl
  obtain ⟨r1, r2, r3, r4, r5⟩ := hfr
  obtain ⟨a1, a2, a3⟩ := hI1
  have hInb : IRr nb nb cF wF aF pF nF brF toF WF := by
    try dsimp only
    refine ⟨a1, fun x h1 h2 => by omega, fun x hx => ?_⟩
    have z := a2 x (by omega) hx
    have z2 := hcF x hx
    try dsimp only
    exact ⟨by rw [z.1]; omega, ti_ofI (by omega), by omega, by omega, by rw [z.1]; omega⟩
  simp only [f_Side_headR, f_Mo_codeHead, g_Mo_codeHead_16, clamp_eq]
  refine ok_bm (w_bringsAny hF hcn hbF ⟨by omega, by omega⟩) (fun u56 e56 => ok_swap ?_)
  refine ok_eq (fun _ => ?_) (fun hc => by omega)
  refine ok_in (by omega) (ok_l (fun x26 e26 => ?_))
  have ev1 : x26.toInt = layer := by rw [e26, L.2.2.1]; exact hlyF
  have main : ∀ s0 s1 : Int32, Ok (g_Side_headR_13 F ly cn st bN bF leN leF abN abF wN aN nN fN pN tN iP iN iL iK oP oN onu oL oK en c N R wF aF fF pF tF lN lF ip inu il ik op ol ok n0 la lf lk lc nF s1) (fun u => Ok (g_Mo_codeHead_70 F st bd0 sz wr s 262144 4 beF 3 wiF 3 hiF 2048 2048 24576 24576 2048 2048 cF 2048 2048 8200 8200 P e q 0 ct B fiF miF LF KF brF toF WF oF LeF x26 s0) (fun v => QHR m w h layer nb P0 o0 l0 fi0 mi0 br0 to0 W0 L0 K0 cF st0 en c N R sz s B lN u v)) := by
    intro s0 s1
    simp only [g_Side_headR_13, g_Mo_codeHead_70]
    refine ok_b2 (s_bitR1 hw hrel) (fun u25 u22 hq => ?_)
    obtain ⟨q1, q2, q3, q4, q5, q6⟩ := hq
    rw [q1, q3]
    by_cases hgood : u22.2.2.2.1.toInt = 0
    case neg =>
      have hv0 := q6 hgood
      have hsb := q4.sb hgood
      refine ok_eq (fun _ => ok_s ?_) (fun hc => by omega)
      refine ok_eq (fun hc => by omega) (fun _ => ?_)
      simp only [g_Mo_codeHead_135, g_Mo_codeHead_152]
      refine ok_eq (fun hc => absurd hc hgood) (fun _ => ok_s ?_)
      unfold QHR
      have hlk : u25.2.2.2.2.toInt = 1 := by have := hsb.1; unfold SB at this; exact this.1
      try dsimp only
      exact Or.inr ⟨⟨by (try dsimp only); omega, by (try dsimp only); omega, l3, l4, Or.inr hlk, hsb.1.sg⟩, hsb.2, rfl, hfr0⟩
    case pos =>
      have hwg : u22.2.2.2.1 = 0 := ti_ofI (by omega)
      rw [hwg] at q4 ⊢
      refine ok_eq (fun d1 => ok_s ?_) (fun d1 => ok_swap ?_)
      · refine ok_eq (fun hc => by omega) (fun _ => ?_)
        refine ok_m (w_135R hw q4) (fun v hv => ?_)
        obtain ⟨e2, q2', wg2, rfl, hE⟩ := hv
        unfold QHR
        try dsimp only
        exact Or.inl ⟨L.2.2.1, ⟨by (try dsimp only); omega, by (try dsimp only); omega⟩, rfl, hInb, hI4, hIt, hIl0, hfr0, _, _, q4, hE⟩
      · refine ok_eq (fun _ => ?_) (fun hc => by omega)
        obtain ⟨F', hF'⟩ : ∃ y, F = y + 1 := ⟨F - 1, by omega⟩
        have step : ∀ FF, FF = F' + 1 → Ok (f_Mo_codeHead_79 F st bd0 sz wr s 262144 4 beF 3 wiF 3 hiF 2048 2048 24576 24576 2048 2048 cF 2048 2048 8200 8200 FF fiF miF LF KF brF toF WF oF LeF P u22.2.1 u22.2.2.1 0 ct B x26 0) (fun v => Ok (f_Side_headR_23 F ly cn st bN bF leN leF abN abF wN aN nN fN pN tN iP iN iL iK oP oN onu oL oK en c N R F wF aF fF pF tF lN lF ip inu il ik op ol ok lc nF u25.2.1 u25.2.2.1 u25.2.2.2.1 u25.2.2.2.2 0) (fun u => QHR m w h layer nb P0 o0 l0 fi0 mi0 br0 to0 W0 L0 K0 cF st0 en c N R sz s B lN u v)) := by
          intro FF hFF
          subst hFF
          rw [f_Mo_codeHead_79]
          simp only [g_Mo_codeHead_79]
          refine ok_le (fun c2 => ?_) (fun c2 => ?_)
          · have hm0 : m = 0 := by omega
            have hnb0 : nb = 0 := by rw [hnb, hm0]; rfl
            refine ok_m (w_135R hw q4) (fun v hv => ?_)
            obtain ⟨e2, q2', wg2, rfl, hE⟩ := hv
            have step2 : ∀ FF, FF = F' + 1 → Ok (f_Side_headR_23 F ly cn st bN bF leN leF abN abF wN aN nN fN pN tN iP iN iL iK oP oN onu oL oK en c N R FF wF aF fF pF tF lN lF ip inu il ik op ol ok lc nF u25.2.1 u25.2.2.1 u25.2.2.2.1 u25.2.2.2.2 0) (fun u => u = (0, 0, 1, lc, wF, aF, nF, fF, pF, tF, lN, lF, ip, inu, il, ik, op, ol, ok, u25.2.1, u25.2.2.1, u25.2.2.2.1, u25.2.2.2.2)) := by
              intro FF hFF
              subst hFF
              simp only [f_Side_headR_23, g_Side_headR_23]
              refine ok_bm (w_blocks hcn hbF) (fun u30 e30 => ?_)
              exact ok_le (fun _ => ok_s rfl) (fun hc => by omega)
            refine ok_m (step2 F hF') (fun u hu => ?_)
            subst hu
            unfold QHR
            try dsimp only
            exact Or.inl ⟨L.2.2.1, ⟨by (try dsimp only); omega, by (try dsimp only); omega⟩, rfl, hInb, hI4, hIt, hIl0, hfr0, _, _, q4, hE⟩
          · have hm0 : 0 < m := by omega
            exact ok_swap (s_loopR hF hC0 hsz hcn hbF hly hw hP0 hbd ev1 (nb + m) 0 0 0 F F F' wF aF fF pF tF lN lF ip inu il ik op ol ok lc nF _ _ _ _ P _ _ ct fiF miF LF KF brF toF WF oF LeF 0 0 0 (by omega) hm0 (Nat.zero_le _) rfl (by omega) (by have := hG.wh hm0; omega) (by omega) (by omega) (by omega) (by omega) ⟨a1, a2, a3⟩ hI4 hIt hIl0 hfr0 q4)
        exact step F hF'
  have both : ∀ s0 : Int32, Ok (g_Mo_codeHead_70 F st bd0 sz wr s 262144 4 beF 3 wiF 3 hiF 2048 2048 24576 24576 2048 2048 cF 2048 2048 8200 8200 P e q 0 ct B fiF miF LF KF brF toF WF oF LeF x26 s0) (fun v => Ok (if u56 = 0 then g_Side_headR_13 F ly cn st bN bF leN leF abN abF wN aN nN fN pN tN iP iN iL iK oP oN onu oL oK en c N R wF aF fF pF tF lN lF ip inu il ik op ol ok n0 la lf lk lc nF 0 else g_Side_headR_13 F ly cn st bN bF leN leF abN abF wN aN nN fN pN tN iP iN iL iK oP oN onu oL oK en c N R wF aF fF pF tF lN lF ip inu il ik op ol ok n0 la lf lk lc nF 1) (fun u => QHR m w h layer nb P0 o0 l0 fi0 mi0 br0 to0 W0 L0 K0 cF st0 en c N R sz s B lN u v)) := fun s0 => ok_swap (ok_eq (fun _ => main s0 0) (fun _ => main s0 1))
  exact w_any22 (lyF := lyF) hF ⟨hbd, by omega⟩ ⟨hbe, by omega⟩ (fun _ => both 1) (fun _ => both 0)
