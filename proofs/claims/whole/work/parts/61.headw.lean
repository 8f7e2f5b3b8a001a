/-! The head, written. -/
def EndW (e1 : Int32) (B1 : Nat → Int32) (e2 : Int32) (B2 : Nat → Int32) : Prop := ((B1 (e1.toInt.toNat - 1)).toInt % 256 = 255 ∧ e2.toInt = e1.toInt + 1 ∧ B2 = upd B1 e1.toInt.toNat (by8 0)) ∨ (¬ (B1 (e1.toInt.toNat - 1)).toInt % 256 = 255 ∧ e2 = e1 ∧ B2 = B1)
theorem w_135W {F K : Nat} {g r c : Int32} {N : Nat} {R : Nat → Int32} {sz wr s e q ct P : Int32} {B fiF miF LF KF brF toF WF oF LeF : Nat → Int32} (hw : wr.toInt = 1) (h : RelW (K + 16) g r c N R s e q B) :
    Ok (g_Mo_codeHead_135 F sz wr s 262144 fiF miF LF KF brF toF WF oF LeF P e q 0 ct B) (fun v => ∃ e2 q2 B2, v = (P, e2, q2, 0, ct, B2, fiF, miF, LF, KF, brF, toF, WF, oF, LeF) ∧ EndW e B e2 B2) := by
  have L := lits
  obtain ⟨⟨h1, h2, h3, h4, h5, h6, h7, h8, h9, h10⟩, h11⟩ := h
  have hc : c.toInt ≤ 262142 := by rcases h10 with q1 | ⟨gn, qn, q1⟩ <;> omega
  have he : e.toInt ≤ 262143 ∧ 1 ≤ e.toInt := by rcases h10 with q1 | ⟨gn, qn, q1⟩ <;> omega
  simp only [g_Mo_codeHead_135, g_Mo_codeHead_152, g_Mo_codeHead_179, g_Mo_codeHead_183]
  refine ok_T ?_
  refine ok_bm (w_lastByte (by omega)) (fun u15 e15 => ?_)
  refine ok_eq (fun c1 => ?_) (fun c1 => ok_s ⟨e, q, B, rfl, Or.inr ⟨by omega, rfl, rfl⟩⟩)
  refine ok_eq (fun c2 => by omega) (fun _ => ?_)
  have hbb : s.toInt < e.toInt → -128 ≤ (B (e.toInt.toNat - 1)).toInt ∧ (B (e.toInt.toNat - 1)).toInt ≤ 127 := by
    intro _
    rcases h10 with q1 | ⟨gn, qn, q1, q2, q3, q4, q5, q6, q7, q8⟩
    · rw [← h8 _ (by omega)]; exact fit_iff.mp (h3 _ (by omega))
    · rw [show e.toInt.toNat - 1 = c.toInt.toNat by omega, q8]
      exact fit_iff.mp (byte_fit _)
  refine ok_bm (w_nextW hw ⟨h4, by omega, by omega⟩ hbb) (fun u14 e14 => ok_s ?_)
  try dsimp only
  exact ⟨u14.1, u14.2.1, u14.2.2, rfl, Or.inl ⟨by omega, e14.1, e14.2.2⟩⟩
theorem s_closeW {F K : Nat} {g r c : Int32} {N : Nat} {R : Nat → Int32} {s e q e2 : Int32} {B B2 : Nat → Int32} (h : RelW (K + 16) g r c N R s e q B) (hE : EndW e B e2 B2) :
    Ok (f_Sink_close F g r c N R) (fun u => 16 * u.1 + N ≤ u.2.2.2.1 ∧ u.2.1 + 2 * N ≤ 2 * u.2.2.2.1 ∧ u.2.2.1 = e2 ∧ u.2.2.2.1 ≤ 600000 ∧ e2.toInt ≤ u.2.2.2.1 ∧ 0 ≤ e2.toInt ∧ e2.toInt ≤ 262144 ∧ (∀ i, i < u.2.2.2.1 → fits .byte (.int (u.2.2.2.2 i)) = true) ∧ ∀ i : Nat, (i : Int) < e2.toInt → u.2.2.2.2 i = B2 i) := by
  have L := lits
  obtain ⟨⟨h1, h2, h3, h4, h5, h6, h7, h8, h9, h10⟩, h11⟩ := h
  have hc : c.toInt ≤ 262142 := by rcases h10 with q1 | ⟨gn, qn, q1⟩ <;> omega
  simp only [f_Sink_close, g_Sink_close_25]
  rcases h10 with ⟨q1, q2, q3, q4⟩ | ⟨gn, qn, q1, q2, q3, q4, q5, q6, q7, q8⟩
  · rcases q4 with ⟨r1, r2⟩ | ⟨r1, r2, r3⟩
    · refine ok_le (fun _ => ok_s ?_) (fun hx => by omega)
      have hb := fit_iff.mp (h3 (c.toInt.toNat - 1) (by omega))
      rw [h8 _ (by omega)] at hb
      unfold EndW at hE
      rw [q2] at hE h11
      have ec : e = c := ti_ofI q2
      rcases hE with ⟨z1, z2, z3⟩ | ⟨z1, z2, z3⟩
      · exact absurd ⟨h11, by omega⟩ r2
      · subst z2 z3
        try dsimp only
        exact ⟨by omega, by omega, ec.symm, h2, by omega, by omega, by omega, h3, fun i hi => h8 i (by omega)⟩
    · refine ok_le (fun hx => by omega) (fun _ => ?_)
      refine ok_l (fun x6 e6 => ?_)
      have g0 : g = 0 := ti_ofI (by omega)
      have x0 : x6 = 0 := by
        refine ti_ofI ?_
        rw [e6, ti_shl (by omega) (by rw [q3, Int.zero_mul]; omega), q3, Int.zero_mul, L.2.1]
      refine ok_bm (w_Store_add (by omega) h3) (fun u7 e7 => ok_c (ok_s ?_))
      obtain ⟨y1, y2, y3, y4, y5, y6, y7, y8⟩ := e7
      unfold EndW at hE
      rw [q2] at hE
      rcases hE with ⟨z1, z2, z3⟩ | ⟨z1, z2, z3⟩
      · subst z3
        try dsimp only
        refine ⟨by omega, by omega, ti_ofI (by omega), by omega, by omega, by omega, by omega, y6, fun i hi => ?_⟩
        by_cases qi : i = c.toInt.toNat
        · rw [qi, upd_is, y7, x0]; decide
        · rw [upd_no qi, y8 i (by omega), h8 i (by omega)]
      · omega
  · have hcase : ¬ (B (e.toInt.toNat - 1)).toInt % 256 = 255 := by
      rw [show e.toInt.toNat - 1 = c.toInt.toNat by omega, q8]
      have hne : ¬ gn * 2 ^ qn = 255 := by
        obtain ⟨t, rfl⟩ : ∃ t, qn = t + 1 := ⟨qn - 1, by omega⟩
        rw [Nat.pow_succ, ← Nat.mul_assoc]
        omega
      have hb := fit_iff.mp (byte_fit (nI (gn * 2 ^ qn)))
      intro z
      have := (by_is255 _ q7).mp (by show (by8 (gn * 2 ^ qn)).toInt = -1; unfold by8 at z ⊢; omega)
      exact hne this
    refine ok_le (fun hx => by omega) (fun _ => ?_)
    refine ok_l (fun x6 e6 => ?_)
    have x6i : x6 = nI (gn * 2 ^ qn) := by
      refine nI_to ?_
      have e2n : r.toInt.toNat = qn := by omega
      rw [e6, ti_shl (by omega) (by rw [e2n, ← q1, ← Int.natCast_mul]; omega), e2n, ← q1, ← Int.natCast_mul]
    refine ok_bm (w_Store_add (by omega) h3) (fun u7 e7 => ok_c (ok_s ?_))
    obtain ⟨y1, y2, y3, y4, y5, y6, y7, y8⟩ := e7
    rcases hE with ⟨z1, z2, z3⟩ | ⟨z1, z2, z3⟩
    · exact absurd z1 hcase
    · subst z2 z3
      try dsimp only
      refine ⟨by omega, by omega, ti_ofI (by omega), by omega, by omega, by omega, by omega, y6, fun i hi => ?_⟩
      by_cases qi : i = c.toInt.toNat
      · rw [qi, y7, x6i, q8]; rfl
      · rw [y8 i (by omega), h8 i (by omega)]
theorem w_bringsAny {F : Nat} (hF : 1000000 ≤ F) {cn : Int32} {bN nN nb m : Nat} {bF nF : Nat → Int32} (hm : cn.toInt = m ∧ m < bN) (hnb : (bF m).toInt = nb) (hn : nb ≤ nN ∧ nb ≤ 1024) :
    Ok (f_Side_bringsAny F cn bN bF nN nF) (fun u => (u.toInt = 1 ∧ ∃ b, b < nb ∧ 0 < (nF b).toInt) ∨ (u.toInt = 0 ∧ ∀ b, b < nb → (nF b).toInt ≤ 0)) := by
  have L := lits
  have key : ∀ (n : Nat) (v : Int32), 0 ≤ v.toInt → v.toInt ≤ nb → nb < v.toInt + n → (∀ b : Nat, (b : Int) < v.toInt → (nF b).toInt ≤ 0) → Ok (f_Side_bringsAny_2 F cn bN bF nN nF n v) (fun u => (u.toInt = 1 ∧ ∃ b, b < nb ∧ 0 < (nF b).toInt) ∨ (u.toInt = 0 ∧ ∀ b, b < nb → (nF b).toInt ≤ 0)) := by
    intro n
    induction n with
    | zero => intro v h1 h2 h3; omega
    | succ n ih =>
      intro v h1 h2 h3 h4
      simp only [f_Side_bringsAny_2, g_Side_bringsAny_2, clamp_eq]
      refine ok_bm (w_blocks hm hnb) (fun u4 e4 => ?_)
      refine ok_le (fun _ => ok_s (Or.inr ⟨L.2.1, fun b hb => h4 b (by omega)⟩)) (fun _ => ?_)
      refine ok_in (by omega) (ok_v ?_)
      refine ok_le (fun c1 => ?_) (fun c1 => ok_s (Or.inl ⟨L.2.2.1, v.toInt.toNat, by omega, by omega⟩))
      refine ok_add (by omega) (fun x hx => ih x (by omega) (by omega) (by omega) (fun b hb => ?_))
      by_cases qb : b = v.toInt.toNat
      · rw [qb]; omega
      · exact h4 b (by omega)
  simp only [f_Side_bringsAny]
  exact key F 0 (by omega) (by omega) (by omega) (fun b hb => by omega)
theorem w_any22 {F : Nat} (hF : 1000000 ≤ F) {st sz v1 wr s bd0 P e q ct : Int32} {B beF wiF hiF cF lyF fiF miF LF KF brF toF WF oF LeF : Nat → Int32} {nb m : Nat} {Q : Int32 × Int32 × Int32 × Int32 × Int32 × (Nat → Int32) × (Nat → Int32) × (Nat → Int32) × (Nat → Int32) × (Nat → Int32) × (Nat → Int32) × (Nat → Int32) × (Nat → Int32) × (Nat → Int32) × (Nat → Int32) → Prop} (hb : bd0.toInt = m ∧ m < 4) (hnb : (beF m).toInt = nb ∧ nb ≤ 1024)
    (h1 : (∃ b, b < nb ∧ 0 < (brF b).toInt) → Ok (g_Mo_codeHead_70 F st bd0 sz wr s 262144 4 beF 3 wiF 3 hiF 2048 2048 24576 24576 2048 2048 cF 2048 2048 8200 8200 P e q 0 ct B fiF miF LF KF brF toF WF oF LeF v1 1) Q) (h0 : (∀ b, b < nb → (brF b).toInt ≤ 0) → Ok (g_Mo_codeHead_70 F st bd0 sz wr s 262144 4 beF 3 wiF 3 hiF 2048 2048 24576 24576 2048 2048 cF 2048 2048 8200 8200 P e q 0 ct B fiF miF LF KF brF toF WF oF LeF v1 0) Q) : Ok (f_Mo_codeHead_22 F st bd0 sz wr s 262144 4 beF 3 wiF 3 hiF 2048 2048 24576 24576 2048 2048 cF 2048 2048 8200 8200 F P e q 0 ct B fiF miF LF KF brF toF WF oF LeF v1 0 0) Q := by
  have L := lits
  have eb : bd0.toInt.toNat = m := by omega
  have key : ∀ (n : Nat) (v2 v3 : Int32), 0 ≤ v3.toInt → v3.toInt ≤ nb → nb < v3.toInt + n → (v2 = 0 ∧ ∀ b : Nat, (b : Int) < v3.toInt → (brF b).toInt ≤ 0) ∨ (v2 = 1 ∧ ∃ b, b < nb ∧ 0 < (brF b).toInt) → Ok (f_Mo_codeHead_22 F st bd0 sz wr s 262144 4 beF 3 wiF 3 hiF 2048 2048 24576 24576 2048 2048 cF 2048 2048 8200 8200 n P e q 0 ct B fiF miF LF KF brF toF WF oF LeF v1 v2 v3) Q := by
    intro n
    induction n with
    | zero => intro v2 v3 g1 g2 g3; omega
    | succ n ih =>
      intro v2 v3 g1 g2 g3 g4
      simp only [f_Mo_codeHead_22, g_Mo_codeHead_22, g_Mo_codeHead_48, g_Mo_codeHead_53, clamp_eq, eb]
      refine ok_in (by omega) (ok_v ?_)
      refine ok_le (fun c1 => ?_) (fun c1 => ?_)
      · refine ok_eq (fun c2 => ?_) (fun c2 => ?_)
        · refine h0 (fun b hb => ?_)
          rcases g4 with ⟨_, z⟩ | ⟨z, _⟩
          · exact z b (by omega)
          · rw [z] at c2; omega
        · refine h1 ?_
          rcases g4 with ⟨z, _⟩ | ⟨_, z⟩
          · rw [z] at c2; omega
          · exact z
      · refine ok_eq (fun c2 => ?_) (fun c2 => ?_)
        · refine ok_in (by omega) (ok_v ?_)
          refine ok_le (fun c3 => ?_) (fun c3 => ?_)
          · refine ok_add (by omega) (fun x hx => ih 0 x (by omega) (by omega) (by omega) (Or.inl ⟨rfl, fun b hb => ?_⟩))
            rcases g4 with ⟨_, z⟩ | ⟨z, _⟩
            · by_cases qb : b = v3.toInt.toNat
              · rw [qb]; omega
              · exact z b (by omega)
            · rw [z] at c2; omega
          · exact ok_add (by omega) (fun x hx => ih 1 x (by omega) (by omega) (by omega) (Or.inr ⟨rfl, v3.toInt.toNat, by omega, by omega⟩))
        · refine ok_add (by omega) (fun x hx => ih 1 x (by omega) (by omega) (by omega) (Or.inr ⟨rfl, ?_⟩))
          rcases g4 with ⟨z, _⟩ | ⟨_, z⟩
          · rw [z] at c2; omega
          · exact z
  exact key F 0 0 (by omega) (by omega) (by omega) (Or.inl ⟨rfl, fun b hb => by omega⟩)
def QHW (m : Nat) (w h : Nat → Nat) (nb layer : Nat) (fF pF tF nF lF inu onu : Nat → Int32) (lc : Int32) (lN : Nat) (aF0 L0 K0 WF0 : Nat → Int32) (N : Nat) (s P : Int32) (fiF miF brF toF oF LeF : Nat → Int32) (u : Nat × Nat × Int32 × Int32 × (Nat → Int32) × (Nat → Int32) × (Nat → Int32) × (Nat → Int32) × (Nat → Int32) × (Nat → Int32) × Nat × (Nat → Int32) × (Nat → Int32) × (Nat → Int32) × (Nat → Int32) × (Nat → Int32) × (Nat → Int32) × (Nat → Int32) × (Nat → Int32) × Int32 × Int32 × Int32 × Nat × (Nat → Int32)) (v : Int32 × Int32 × Int32 × Int32 × Int32 × (Nat → Int32) × (Nat → Int32) × (Nat → Int32) × (Nat → Int32) × (Nat → Int32) × (Nat → Int32) × (Nat → Int32) × (Nat → Int32) × (Nat → Int32) × (Nat → Int32)) : Prop :=
  (u.2.2.1.toInt = 1 ∧ u.2.2.2.1 = lc ∧ u.2.2.2.2.2.2.1 = nF ∧ u.2.2.2.2.2.2.2.1 = fF ∧ u.2.2.2.2.2.2.2.2.1 = pF ∧ u.2.2.2.2.2.2.2.2.2.1 = tF ∧ u.2.2.2.2.2.2.2.2.2.2.1 = lN ∧ u.2.2.2.2.2.2.2.2.2.2.2.1 = lF ∧ u.2.2.2.2.2.2.2.2.2.2.2.2.2.1 = inu) ∧ (16 * u.1 + N ≤ u.2.2.2.2.2.2.2.2.2.2.2.2.2.2.2.2.2.2.2.2.2.2.1 ∧ u.2.1 + 2 * N ≤ 2 * u.2.2.2.2.2.2.2.2.2.2.2.2.2.2.2.2.2.2.2.2.2.2.1) ∧ (v.1 = P ∧ v.2.2.2.1 = 0 ∧ v.2.2.2.2.2.2.1 = fiF ∧ v.2.2.2.2.2.2.2.1 = miF ∧ v.2.2.2.2.2.2.2.2.2.2.1 = brF ∧ v.2.2.2.2.2.2.2.2.2.2.2.1 = toF ∧ v.2.2.2.2.2.2.2.2.2.2.2.2.2.1 = oF ∧ v.2.2.2.2.2.2.2.2.2.2.2.2.2.2 = LeF) ∧
  ∃ (e1 q1 : Int32) (B1 : Nat → Int32), IW m w h nb nb layer pF nF inu onu lc aF0 L0 K0 WF0 u.2.2.2.2.1 u.2.2.2.2.2.1 u.2.2.2.2.2.2.2.2.2.2.2.2.2.2.1 u.2.2.2.2.2.2.2.2.2.2.2.2.2.2.2.1 u.2.2.2.2.2.2.2.2.2.2.2.2.2.2.2.2.2.1 u.2.2.2.2.2.2.2.2.2.2.2.2.2.2.2.2.2.2.1 u.2.2.2.2.2.2.2.2.2.2.2.2.2.2.2.2.2.2.2.1 u.2.2.2.2.2.2.2.2.2.2.2.2.2.2.2.2.2.2.2.2.1 u.2.2.2.2.2.2.2.2.2.2.2.2.2.2.2.2.2.2.2.2.2.1 u.2.2.2.2.2.2.2.2.2.2.2.2.2.2.2.2.2.2.2.2.2.2.1 u.2.2.2.2.2.2.2.2.2.2.2.2.2.2.2.2.2.2.2.2.2.2.2 s e1 q1 v.2.2.2.2.1 B1 v.2.2.2.2.2.2.2.2.1 v.2.2.2.2.2.2.2.2.2.1 v.2.2.2.2.2.2.2.2.2.2.2.2.1 ∧ EndW e1 B1 v.2.1 v.2.2.2.2.2.1
set_option maxHeartbeats 4000000 in
theorem s_loopW {F : Nat} (hF : 1000000 ≤ F) {m : Nat} {w h : Nat → Nat} {nb layer : Nat}
    {ly cn st bd0 : Int32} {bN leN abN wN aN nN fN pN tN iP iN iL iK oP oN oL oK lN : Nat} {bF leF abF onu fF pF tF lF inu nF : Nat → Int32} {lc : Int32}
    {sz P wr s : Int32} {beF wiF hiF fiF miF brF cF toF oF LeF aF0 L0 K0 WF0 : Nat → Int32} {v1 : Int32}
    (hC : CW m w h nb layer st abF leF nF fF pF lF inu onu lc lN wiF hiF beF cF brF toF fiF miF oF LeF aF0)
    (hsz : nb ≤ leN ∧ nbase w h m ≤ abN ∧ nb ≤ wN ∧ nb ≤ aN ∧ nb ≤ nN ∧ nb ≤ fN ∧ nb ≤ pN ∧ nb ≤ tN ∧ iP = 7 ∧ nbase w h m ≤ iN ∧ nbase w h m ≤ iL ∧ nbase w h m ≤ iK ∧ oP = 7 ∧ nbase w h m ≤ oN ∧ nbase w h m ≤ oL ∧ nbase w h m ≤ oK)
    (hcn : cn.toInt = m ∧ m < bN) (hbF : (bF m).toInt = nb) (hly : ly.toInt = layer) (hw : wr.toInt = 1) (hbd : bd0.toInt = m) (hv1 : v1.toInt = layer) :
    ∀ (t i k b fu fu' fu'' : Nat) (wF aF ip il ik op ol ok : Nat → Int32) (g r c : Int32) (N : Nat) (R : Nat → Int32) (e q ct : Int32) (B LF KF WF : Nat → Int32) (v2 v3 v4 : Int32), t = (nb - b) + (m - i) → i < m → k ≤ w i * h i → b = bbase w h i + k → nb - b < fu → w i * h i - k < fu' → m - i < fu'' → v2.toInt = b → v3.toInt = i → v4.toInt = k → IW m w h nb b layer pF nF inu onu lc aF0 L0 K0 WF0 wF aF il ik ol ok g r c N R s e q ct B LF KF WF →
      Ok (f_Side_headW_23 F ly cn st bN bF leN leF abN abF wN aN nN fN pN tN iP iN iL iK oP oN onu oL oK fu wF aF fF pF tF lN lF ip inu il ik op ol ok lc nF g r c N R v2) (fun u => Ok (f_Mo_codeHead_90 F (f_Mo_codeHead_79 F st bd0 sz wr s 262144 4 beF 3 wiF 3 hiF 2048 2048 24576 24576 2048 2048 cF 2048 2048 8200 8200 fu'') st sz wr s 262144 4 beF 3 wiF 3 hiF 2048 2048 24576 24576 2048 2048 cF 2048 2048 8200 8200 fu' fiF miF LF KF brF toF WF oF LeF P e q 0 ct B v1 v3 v4) (fun v => QHW m w h nb layer fF pF tF nF lF inu onu lc lN aF0 L0 K0 WF0 N s P fiF miF brF toF oF LeF u v)) := by
  have L := lits
  have hC0 := hC
  obtain ⟨⟨hG, hA, hL, hnb, hlay⟩, hS1, hS2, ⟨hLI, hl1, hl2, hl3⟩, hwh, hnum, hblk, hlen⟩ := hC
  have g3 := hG.1
  have hnb2 := hG.2.2
  intro t
  induction t with
  | zero => intro i k b fu fu' fu'' wF aF ip il ik op ol ok g r c N R e q ct B LF KF WF v2 v3 v4 h1 h2; omega
  | succ t ih =>
    intro i k b fu fu' fu'' wF aF ip il ik op ol ok g r c N R e q ct B LF KF WF v2 v3 v4 h1 h2 h3 h4 h5 h6 h7 h8 h9 h10 hI
    obtain ⟨fu', rfl⟩ : ∃ y, fu' = y + 1 := ⟨fu' - 1, by omega⟩
    have gw := hG.wh h2
    have hin := hwh i h2
    have ei : v3.toInt.toNat = i := by omega
    have hmul : (wiF i).toInt * (hiF i).toInt = ((w i * h i : Nat) : Int) := by rw [hin.1, hin.2.1, Int.natCast_mul]
    refine ok_swap ?_
    rw [f_Mo_codeHead_90]
    simp only [g_Mo_codeHead_90, g_Mo_codeHead_129, clamp_eq, ei]
    refine ok_in (by omega) (ok_v ?_)
    refine ok_in (by omega) (ok_v ?_)
    refine ok_mul (by omega) (fun x19 e19 => ?_)
    refine ok_le (fun c1 => ?_) (fun c1 => ?_)
    · have hk : k = w i * h i := by omega
      refine ok_add (by omega) (fun x16 e16 => ?_)
      obtain ⟨fu'', rfl⟩ : ∃ y, fu'' = y + 1 := ⟨fu'' - 1, by omega⟩
      rw [f_Mo_codeHead_79]
      simp only [g_Mo_codeHead_79]
      refine ok_le (fun c2 => ?_) (fun c2 => ?_)
      · have hb : b = nb := by
          have : i + 1 = m := by omega
          rw [hnb, ← this, bbase_s]; omega
        have hI0 := hI
        obtain ⟨j1, j2, j3, j4, j5, j6, j13, j14, j15⟩ := hI
        refine ok_m (w_135W (K := 0) hw (j15.less (by omega))) (fun v hv => ?_)
        obtain ⟨e2, q2, B2, rfl, hE⟩ := hv
        obtain ⟨fu, rfl⟩ : ∃ y, fu = y + 1 := ⟨fu - 1, by omega⟩
        simp only [f_Side_headW_23, g_Side_headW_23]
        refine ok_bm (w_blocks hcn hbF) (fun u30 e30 => ?_)
        refine ok_le (fun _ => ok_s ?_) (fun hc => by omega)
        unfold QHW
        dsimp only
        rw [hb] at hI0
        try dsimp only
        exact ⟨⟨L.2.2.1, rfl, rfl, rfl, rfl, rfl, rfl, rfl, rfl⟩, ⟨by omega, by omega⟩, ⟨rfl, rfl, rfl, rfl, rfl, rfl, rfl, rfl⟩, e, q, B, hI0, hE⟩
      · have hbs := bbase_s w h i
        refine ok_swap (ih (i + 1) 0 b fu F fu'' wF aF ip il ik op ol ok g r c N R e q ct B LF KF WF v2 x16 0 (by omega) (by omega) (Nat.zero_le _) (by omega) h5 (by have := hG.wh (show i + 1 < m by omega); omega) (by omega) h8 (by omega) (by omega) hI)
    · refine ok_T ?_
      obtain ⟨fu, rfl⟩ : ∃ y, fu = y + 1 := ⟨fu - 1, by omega⟩
      rw [f_Side_headW_23]
      refine ok_swap (ok_m (s_blockW (Z := fun u t => Ok (letb (v4 + 1) fun x21 => f_Mo_codeHead_90 F (f_Mo_codeHead_79 F st bd0 sz wr s 262144 4 beF 3 wiF 3 hiF 2048 2048 24576 24576 2048 2048 cF 2048 2048 8200 8200 fu'') st sz wr s 262144 4 beF 3 wiF 3 hiF 2048 2048 24576 24576 2048 2048 cF 2048 2048 8200 8200 fu' t.2.2.2.2.2.2.1 t.2.2.2.2.2.2.2.1 t.2.2.2.2.2.2.2.2.1 t.2.2.2.2.2.2.2.2.2.1 t.2.2.2.2.2.2.2.2.2.2.1 t.2.2.2.2.2.2.2.2.2.2.2.1 t.2.2.2.2.2.2.2.2.2.2.2.2.1 t.2.2.2.2.2.2.2.2.2.2.2.2.2.1 t.2.2.2.2.2.2.2.2.2.2.2.2.2.2 t.1 t.2.1 t.2.2.1 t.2.2.2.1 t.2.2.2.2.1 t.2.2.2.2.2.1 v1 v3 x21) (fun v => QHW m w h nb layer fF pF tF nF lF inu onu lc lN aF0 L0 K0 WF0 N s P fiF miF brF toF oF LeF u v)) hF hC0 hsz hcn hbF hly hw ⟨h8, h4⟩ h2 (by omega) h9 h10 hv1 hI ?_) (fun u hu => ok_b hu))
      intro wF' aF' ip' il' ik' op' ol' ok' g' r' c' N' R' nc ns e' q' ct' B' LF' KF' WF' x29 f1 f2 f3 f4
      refine ok_m (ih i (k + 1) (b + 1) fu fu' fu'' wF' aF' ip' il' ik' op' ol' ok' g' r' c' N' R' e' q' ct' B' LF' KF' WF' x29 v3 (v4 + 1) (by omega) h2 (by omega) (by omega) (by omega) (by omega) h7 (by omega) h9 (by rw [ti_add (by omega)]; omega) f2) (fun z hz => ?_)
      refine ok_v (ok_m hz (fun v hv => ?_))
      unfold QHW at hv ⊢
      obtain ⟨z1, z2, z3, z4⟩ := hv
      try dsimp only
      exact ⟨z1, ⟨by omega, by omega⟩, z3, z4⟩
set_option maxHeartbeats 2000000 in
theorem s_headW {F : Nat} (hF : 1000000 ≤ F) {m : Nat} {w h : Nat → Nat} {nb layer : Nat}
    {ly cn st bd0 : Int32} {bN leN abN wN aN nN fN pN tN iP iN iL iK oP oN oL oK lN : Nat} {bF leF abF onu wF aF fF pF tF lF ip inu il ik op ol ok nF : Nat → Int32} {lc g r c : Int32} {N : Nat} {R : Nat → Int32}
    {sz P wr s e q ct : Int32} {B beF wiF hiF fiF miF LF KF brF cF toF WF oF LeF L0 K0 WF0 lyF : Nat → Int32}
    (hC : CW m w h nb layer st abF leF nF fF pF lF inu onu lc lN wiF hiF beF cF brF toF fiF miF oF LeF aF)
    (hsz : nb ≤ leN ∧ nbase w h m ≤ abN ∧ nb ≤ wN ∧ nb ≤ aN ∧ nb ≤ nN ∧ nb ≤ fN ∧ nb ≤ pN ∧ nb ≤ tN ∧ iP = 7 ∧ nbase w h m ≤ iN ∧ nbase w h m ≤ iL ∧ nbase w h m ≤ iK ∧ oP = 7 ∧ nbase w h m ≤ oN ∧ nbase w h m ≤ oL ∧ nbase w h m ≤ oK)
    (hcn : cn.toInt = m ∧ m < bN) (hbF : (bF m).toInt = nb) (hly : ly.toInt = layer) (hw : wr.toInt = 1) (hbd : bd0.toInt = m) (hlyF : (lyF 0).toInt = layer) (hbe : (beF m).toInt = nb) (hct : ct.toInt = 0)
    (hw3 : ∀ b, b < nb → wF b = WF b ∧ 3 ≤ (wF b).toInt ∧ (wF b).toInt ≤ 16) (hW0 : ∀ x, nb ≤ x → WF x = WF0 x)
    (hT1 : TR (nbase w h m) (rho w h 0) il LF ∧ TR (nbase w h m) (rho w h 0) ik KF ∧ TSafe (nbase w h m) (layer + 1) il ik ∧ NumInv (nbase w h m) inu il ik)
    (hT2 : TR (nbase w h m) (rho w h 6144) ol LF ∧ TR (nbase w h m) (rho w h 6144) ok KF ∧ TSafe (nbase w h m) 74 ol ok ∧ NumInv (nbase w h m) onu ol ok)
    (hLK : ∀ i, 12288 ≤ i → LF i = L0 i ∧ KF i = K0 i) (hrel : RelW0 700000 g r c N R s e q B) :
    Ok (f_Side_headW F lc ly cn st bN bF leN leF abN abF wN wF aN aF nN nF fN fF pN pF tN tF lN lF iP ip iN inu iL il iK ik oP op oN onu oL ol oK ok g r c N R) (fun u => Ok (f_Mo_codeHead F st bd0 sz P wr s e q 0 ct 262144 B 4 beF 3 wiF 3 hiF 2048 fiF 2048 miF 24576 LF 24576 KF 2048 brF 2048 cF 2048 toF 2048 WF 8200 oF 8200 LeF 2 lyF) (fun v => QHW m w h nb layer fF pF tF nF lF inu onu lc lN aF L0 K0 WF0 N s P fiF miF brF toF oF LeF u v)) := by
  have L := lits
  have hC0 := hC
  obtain ⟨⟨hG, hA, hL, hnb, hlay⟩, hS1, hS2, ⟨hLI, hl1, hl2, hl3⟩, hwh, hnum, hblk, hlen⟩ := hC
  have g3 := hG.1
  have hnb2 := hG.2.2
  have hmax := hG.max
  have hlc := hLI.2.2.2
  have hsm : sumI pF 0 = 0 := rfl
  simp only [f_Side_headW, f_Mo_codeHead, g_Mo_codeHead_16, clamp_eq]
  refine ok_bm (w_bringsAny hF hcn hbF ⟨by omega, by omega⟩) (fun u56 e56 => ok_swap ?_)
  refine ok_eq (fun hc => by omega) (fun _ => ?_)
  refine ok_in (by omega) (ok_l (fun x26 e26 => ?_))
  have ev1 : x26.toInt = layer := by rw [e26, L.2.1]; exact hlyF
  refine w_any22 (lyF := lyF) hF ⟨hbd, by omega⟩ ⟨hbe, by omega⟩ (fun hex => ?_) (fun hno => ?_)
  · -- something comes
    obtain ⟨b0, hb0, hb1⟩ := hex
    rw [(hblk b0 hb0).2.1] at hb1
    have h56 : u56.toInt = 1 := by
      rcases e56 with z | z
      · exact z.1
      · have := z.2 b0 hb0; omega
    refine ok_swap (ok_eq (fun hc => by omega) (fun _ => ?_))
    simp only [g_Side_headW_13, g_Mo_codeHead_70]
    refine ok_b2 (s_bitW1 (k := 699999) hw L.2.1 (by omega) hrel) (fun u52 u22 hq => ?_)
    obtain ⟨q1, q2, q3, q4, q5, q6⟩ := hq
    rw [q1, q2, q3]
    refine ok_c (ok_eq (fun hc => by omega) (fun _ => ok_swap ?_))
    refine ok_eq (fun _ => ?_) (fun hc => by omega)
    obtain ⟨F', hF'⟩ : ∃ y, F = y + 1 := ⟨F - 1, by omega⟩
    have hm0 : 0 < m := by
      rcases Nat.eq_zero_or_pos m with z | z
      · rw [z] at hnb; have : nb = 0 := hnb; omega
      · exact z
    have step : ∀ FF, FF = F' + 1 → Ok (f_Mo_codeHead_79 F st bd0 sz wr s 262144 4 beF 3 wiF 3 hiF 2048 2048 24576 24576 2048 2048 cF 2048 2048 8200 8200 FF fiF miF LF KF brF toF WF oF LeF P u22.2.1 u22.2.2.1 0 ct u22.2.2.2.2 x26 0) (fun v => Ok (f_Side_headW_23 F ly cn st bN bF leN leF abN abF wN aN nN fN pN tN iP iN iL iK oP oN onu oL oK F wF aF fF pF tF lN lF ip inu il ik op ol ok lc nF u52.2.2.2.1 u52.2.2.2.2.1 u52.2.2.2.2.2.1 u52.2.2.2.2.2.2.1 u52.2.2.2.2.2.2.2 0) (fun u => QHW m w h nb layer fF pF tF nF lF inu onu lc lN aF L0 K0 WF0 u52.2.2.2.2.2.2.1 s P fiF miF brF toF oF LeF u v)) := by
      intro FF hFF
      subst hFF
      rw [f_Mo_codeHead_79]
      simp only [g_Mo_codeHead_79]
      refine ok_le (fun hc => by omega) (fun _ => ?_)
      refine ok_swap (s_loopW hF hC0 hsz hcn hbF hly hw hbd ev1 (nb + m) 0 0 0 F F F' wF aF ip il ik op ol ok _ _ _ _ _ _ _ ct _ LF KF WF 0 0 0 (by omega) hm0 (Nat.zero_le _) rfl (by omega) (by have := hG.wh hm0; omega) (by omega) (by omega) (by omega) (by omega) ⟨hw3, hW0, fun _ _ _ => rfl, fun b hb => by omega, hT1, hT2, hLK, by omega, ?_⟩)
      exact q4.less (by rw [hsm]; omega)
    have st2 := step F hF'
    refine ok_m st2 (fun v hv => ok_m hv (fun u hu => ?_))
    unfold QHW at hu ⊢
    obtain ⟨z1, z2, z3, z4⟩ := hu
    try dsimp only
    exact ⟨z1, ⟨by omega, by omega⟩, z3, z4⟩
  · -- nothing comes
    have hn0 : ∀ b, b < nb → (nF b).toInt = 0 := by
      intro b hb
      have h1 := hno b hb
      have h2 := hblk b hb
      rw [h2.2.1] at h1
      omega
    have h56 : u56.toInt = 0 := by
      rcases e56 with ⟨_, b, hb, hb2⟩ | z
      · have := hn0 b hb; omega
      · exact z.1
    have hp0 : ∀ b, b < nb → (pF b).toInt = 0 := by
      intro b hb
      rw [(hblk b hb).2.2.2.2.2.2.1, hn0 b hb]
      rfl
    refine ok_swap (ok_eq (fun _ => ?_) (fun hc => by omega))
    simp only [g_Side_headW_13, g_Mo_codeHead_70]
    refine ok_b2 (s_bitW1 (k := 699999) hw L.2.1 (by omega) hrel) (fun u52 u22 hq => ?_)
    obtain ⟨q1, q2, q3, q4, q5, q6⟩ := hq
    rw [q1, q2, q3]
    refine ok_c (ok_eq (fun _ => ok_s ?_) (fun hc => by omega))
    refine ok_eq (fun hc => by omega) (fun _ => ?_)
    have hs0 : sumI pF nb = 0 := sumI_0 hp0
    have hrel2 : RelW (nbase w h m * 256 - pot il ik (nbase w h m) + (nbase w h m * 75 - pot ol ok (nbase w h m)) + 35 * (nb - nb) + (24 * (lc.toInt - sumI pF nb).toNat + 16)) u52.2.2.2.1 u52.2.2.2.2.1 u52.2.2.2.2.2.1 u52.2.2.2.2.2.2.1 u52.2.2.2.2.2.2.2 s u22.2.1 u22.2.2.1 u22.2.2.2.2 := q4.less (by omega)
    refine ok_m (w_135W (K := 0) hw (hrel2.less (by omega))) (fun v hv => ?_)
    obtain ⟨e2, q2', B2, rfl, hE⟩ := hv
    unfold QHW
    dsimp only
    try dsimp only
    exact ⟨⟨L.2.2.1, rfl, rfl, rfl, rfl, rfl, rfl, rfl, rfl⟩, ⟨by omega, by omega⟩, ⟨rfl, rfl, rfl, rfl, rfl, rfl, rfl, rfl⟩, _, _, _, ⟨hw3, hW0, fun _ _ _ => rfl, fun b hb => by rw [hn0 b hb]; omega, hT1, hT2, hLK, by omega, hrel2⟩, hE⟩
