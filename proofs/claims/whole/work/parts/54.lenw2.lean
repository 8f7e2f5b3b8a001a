theorem ok_m2 {α β : Type} {o : Option α} {r : Option β} {P Q : α → β → Prop} (h : Ok o (fun u => Ok r (fun v => P u v))) (hq : ∀ u v, P u v → Q u v) : Ok o (fun u => Ok r (fun v => Q u v)) := ok_m h (fun u hu => ok_m hu (fun v hv => hq u v hv))
set_option maxHeartbeats 1000000 in
theorem s_pcsW {F : Nat} (hF : 1000000 ≤ F) {st p0 : Int32} {wN aN fN pN lN : Nat} {wF aF fF pF lF : Nat → Int32} {sz P wr s wg : Int32} {tF WF oF LF : Nat → Int32} {p0' v4 v3 : Int32} {b b' a n fr pc wd K : Nat}
    (hw : wr.toInt = 1) (hg : wg.toInt = 0) (hb : p0.toInt = b ∧ b < wN ∧ b < aN ∧ b < fN ∧ b < pN) (hb' : p0'.toInt = b' ∧ b' < 2048) (hf : (fF b).toInt = fr) (hp : (pF b).toInt = pc) (h2 : a + n ≤ 200 ∧ fr + pc ≤ lN ∧ lN ≤ 100000 ∧ pc ≤ 1000) (hv4 : v4.toInt = a + n) (hv3 : v3.toInt = a + n)
    (hwd : (wF b).toInt = wd ∧ (WF b').toInt = wd ∧ wd ≤ 16) (hl : ∀ k, fr ≤ k → k < fr + pc → 0 ≤ (lF k).toInt ∧ (lF k).toInt ≤ 65535) (hL : ∀ k, k < pc → PieceAt oF LF b' k (lF (fr + k))) :
    ∀ (j fu fu' : Nat) (g r c : Int32) (N : Nat) (R : Nat → Int32) (e q ct : Int32) (B aF1 : Nat → Int32) (v5 w4 w5 : Int32) (a' n' i : Nat), j < fu → j < fu' → pcs st a' n' = j → a' + n' = a + n → i + j = pc → (aF1 b).toInt = a' → (∀ x, ¬ x = b → aF1 x = aF x) → v5.toInt = (fr : Int) + i → w4.toInt = i → w5.toInt = a' → wm st lF j a' n' (fr + i) ≤ wd → 0 ≤ ct.toInt → ct.toInt + j ≤ 4096 → RelW (K + 24 * j) g r c N R s e q B →
      Ok (f_Side_tellLengthsW_89 F st wN aN fN fF pN pF lN fu wF g r c N R aF1 lF p0 v4 v5) (fun u => Ok (f_Mo_codePieces_109 F st sz wr s 262144 2048 2048 8200 8200 fu' P e q wg ct B tF WF oF LF p0' v3 w4 w5) (fun v => u.2.2.1.toInt = 1 ∧ u.2.2.2.1 = wF ∧ (u.2.2.2.2.1 b).toInt = (a : Int) + n ∧ (∀ x, ¬ x = b → u.2.2.2.2.1 x = aF x) ∧ u.2.2.2.2.2.1 = lF ∧ v.1 = P ∧ v.2.2.2.1 = wg ∧ v.2.2.2.2.1.toInt = ct.toInt + j ∧ v.2.2.2.2.2.2.1 = tF ∧ v.2.2.2.2.2.2.2.1 = WF ∧ v.2.2.2.2.2.2.2.2.1 = oF ∧ v.2.2.2.2.2.2.2.2.2 = LF ∧ RelW K u.2.2.2.2.2.2.1 u.2.2.2.2.2.2.2.1 u.2.2.2.2.2.2.2.2.1 u.2.2.2.2.2.2.2.2.2.1 u.2.2.2.2.2.2.2.2.2.2 s v.2.1 v.2.2.1 v.2.2.2.2.2.1 ∧ 16 * u.1 + N ≤ u.2.2.2.2.2.2.2.2.2.1 ∧ u.2.1 + 2 * N ≤ 2 * u.2.2.2.2.2.2.2.2.2.1)) := by
  have L := lits
  have l4096 : (4096 : Int32).toInt = 4096 := by decide
  have eb : p0.toInt.toNat = b := by omega
  have eb' : p0'.toInt.toNat = b' := by omega
  intro j
  induction j with
  | zero =>
    intro fu fu' g r c N R e q ct B aF1 v5 w4 w5 a' n' i g1 g1' g2 g3 g4 g5 g6 g7 g8 g9 g10 g11 g12 hrel
    obtain ⟨fu, rfl⟩ : ∃ y, fu = y + 1 := ⟨fu - 1, by omega⟩
    obtain ⟨fu', rfl⟩ : ∃ y, fu' = y + 1 := ⟨fu' - 1, by omega⟩
    have hn0 := pcs_0 g2
    simp only [f_Side_tellLengthsW_89, g_Side_tellLengthsW_89, f_Mo_codePieces_109, g_Mo_codePieces_109, g_Mo_codePieces_249, clamp_eq, eb]
    refine ok_in (by omega) (ok_v ?_)
    refine ok_in (by omega) (ok_v ?_)
    refine ok_add (by omega) (fun x36 e36 => ?_)
    refine ok_le (fun c1 => ok_s ?_) (fun c1 => by omega)
    refine ok_le (fun c2 => ok_s ?_) (fun c2 => by omega)
    try dsimp only
    exact ⟨L.2.2.1, rfl, by omega, g6, rfl, rfl, rfl, by omega, rfl, rfl, rfl, rfl, hrel.less (by omega), by omega, by omega⟩
  | succ j ih =>
    intro fu fu' g r c N R e q ct B aF1 v5 w4 w5 a' n' i g1 g1' g2 g3 g4 g5 g6 g7 g8 g9 g10 g11 g12 hrel
    obtain ⟨fu, rfl⟩ : ∃ y, fu = y + 1 := ⟨fu - 1, by omega⟩
    obtain ⟨fu', rfl⟩ : ∃ y, fu' = y + 1 := ⟨fu' - 1, by omega⟩
    obtain ⟨h1, h3, h4, h5⟩ := pcs_sp g2
    have hli := hl (fr + i) (by omega) (by omega)
    have n1 := nb_pos h3
    have n8 : nb (pl st a' n') ≤ 8 := nb_le (by omega)
    have hwm := wm_s st lF j a' n' (fr + i)
    have ei : v5.toInt.toNat = fr + i := by omega
    simp only [f_Side_tellLengthsW_89, g_Side_tellLengthsW_89, f_Mo_codePieces_109, g_Mo_codePieces_109, g_Mo_codePieces_249, g_Mo_codePieces_151, g_Mo_codePieces_205, g_Mo_codePieces_210, g_Mo_codePieces_236, clamp_eq, eb, eb', ei]
    refine ok_in (by omega) (ok_v ?_)
    refine ok_in (by omega) (ok_v ?_)
    refine ok_add (by omega) (fun x36 e36 => ?_)
    refine ok_le (fun c1 => by omega) (fun c1 => ?_)
    refine ok_in (by omega) (ok_v ?_)
    refine ok_bm (w_passesOfPiece hF (by omega)) (fun u38 e38 => ?_)
    rw [show (aF1 b).toInt.toNat = a' by omega, show (v4.toInt - (aF1 b).toInt).toNat = n' by omega] at e38
    refine ok_in (by omega) (ok_v ?_)
    refine ok_v ?_
    refine ok_in (by omega) (ok_v ?_)
    refine ok_bm (w_logOf hF (by omega)) (fun u42 e42 => ?_)
    rw [show u38.toInt.toNat = pl st a' n' by omega] at e42
    refine ok_add (by omega) (fun x43 e43 => ok_swap ?_)
    refine ok_le (fun c2 => by omega) (fun c2 => ?_)
    refine ok_eq (fun c3 => ?_) (fun c3 => by omega)
    refine ok_bm (w_Mo_fp hF (by omega)) (fun u34 e34 => ?_)
    rw [show w5.toInt.toNat = a' by omega, show (v3.toInt - w5.toInt).toNat = n' by omega] at e34
    refine ok_eq (fun c4 => by omega) (fun c4 => ?_)
    refine ok_bm (PieceAt.of hF (by rw [hb'.1]; exact hL i (by omega)) g8) (fun u35 e35 => ?_)
    subst e35
    refine ok_v ?_
    refine ok_in (by omega) (ok_v ?_)
    refine ok_bm (w_Mo_log hF (by omega)) (fun u29 e29 => ?_)
    rw [show u34.toInt.toNat = pl st a' n' by omega] at e29
    refine ok_add (by omega) (fun x30 e30 => ok_swap ?_)
    have ex : x30 = x43 := ti_ofI (by omega)
    rw [ex]
    have hv : 0 ≤ (lF (fr + i)).toInt64.toInt ∧ (lF (fr + i)).toInt64.toInt < (2 ^ (wd + (nb (pl st a' n') - 1)) : Nat) := by
      rw [Int32.toInt_toInt64]
      have := nb_fit (n := (lF (fr + i)).toInt.toNat) (k := wd + (nb (pl st a' n') - 1)) (by omega)
      omega
    refine ok_b2 (s_numW hF (k := K + 24 * j) (m := wd + (nb (pl st a' n') - 1)) hw hg (by omega) (by omega) hv (hrel.less (by omega))) (fun u44 u31 hq => ?_)
    obtain ⟨q1, q2, q3, q4, q5, q6⟩ := hq
    rw [q1, q2, q3]
    have hcmp := cmp_gt (lF (fr + i)).toInt64
    rw [Int32.toInt_toInt64] at hcmp
    refine ok_c (ok_l (fun x48 e48 => ?_))
    rw [← e48] at hcmp
    refine ok_le (fun c5 => ?_) (fun c5 => by omega)
    refine ok_l (fun x49 e49 => ?_)
    have e49' : x49 = lF (fr + i) := ti_ofI (by rw [e49, ti64_to32 (by rw [Int32.toInt_toInt64]; omega), Int32.toInt_toInt64])
    rw [e49', upd_self]
    refine ok_in (by omega) ?_
    refine ok_in (by omega) (ok_v ?_)
    refine ok_add (by omega) (fun x51 e51 => ?_)
    refine ok_in (by omega) ?_
    refine ok_add (by omega) (fun x52 e52 => ok_swap ?_)
    refine ok_add (by omega) (fun x32 e32 => ?_)
    refine ok_eq (fun c6 => ?_) (fun c6 => by omega)
    refine ok_v ?_
    rw [← e48]
    refine ok_lt (fun c7 => by omega) (fun c7 => ?_)
    refine ok_le (fun c8 => ?_) (fun c8 => by omega)
    refine ok_a ⟨bool_nar (by omega), bool_fit (by omega)⟩ ?_
    refine ok_T ?_
    refine ok_eq (fun c9 => by omega) (fun c9 => ?_)
    refine ok_add (by omega) (fun x24 e24 => ?_)
    refine ok_add (by omega) (fun x25 e25 => ok_swap ?_)
    have hwg : wg = 0 := ti_ofI (by omega)
    have hih := ih fu fu' _ _ _ _ _ _ _ x32 _ (upd aF1 b x51) x52 x25 x24 (a' + pl st a' n') (n' - pl st a' n') (i + 1) (by omega) (by omega) h5 (by omega) (by omega) (by rw [upd_is]; omega) (fun x hx => by rw [upd_no hx]; exact g6 x hx) (by omega) (by omega) (by omega) (by rw [show fr + (i + 1) = fr + i + 1 by omega]; omega) (by omega) (by omega) q4
    rw [hwg] at hih ⊢
    refine ok_m2 hih (fun u v hz => ?_)
    obtain ⟨z1, z2, z3, z4, z5, z6, z7, z8, z9, z10, z11, z12, z13, z14, z15⟩ := hz
    try dsimp only
    exact ⟨z1, z2, z3, z4, z5, z6, z7, by omega, z9, z10, z11, z12, z13, by omega, by omega⟩
/-- what telling the bytes of the pieces of a block comes to -/
def QL (K b b' an : Nat) (wF aF lF : Nat → Int32) (P wg : Int32) (ct : Int) (tF WF oF LF : Nat → Int32) (s : Int32) (N : Nat) (u : Nat × Nat × Int32 × (Nat → Int32) × (Nat → Int32) × (Nat → Int32) × Int32 × Int32 × Int32 × Nat × (Nat → Int32)) (v : Int32 × Int32 × Int32 × Int32 × Int32 × (Nat → Int32) × (Nat → Int32) × (Nat → Int32) × (Nat → Int32) × (Nat → Int32)) : Prop :=
  u.2.2.1.toInt = 1 ∧ (u.2.2.2.1 b = v.2.2.2.2.2.2.2.1 b' ∧ 3 ≤ (u.2.2.2.1 b).toInt ∧ (u.2.2.2.1 b).toInt ≤ 16) ∧ (∀ x, ¬ x = b → u.2.2.2.1 x = wF x) ∧ (∀ x, ¬ x = b' → v.2.2.2.2.2.2.2.1 x = WF x) ∧ (u.2.2.2.2.1 b).toInt = an ∧ (∀ x, ¬ x = b → u.2.2.2.2.1 x = aF x) ∧ u.2.2.2.2.2.1 = lF ∧ v.1 = P ∧ v.2.2.2.1 = wg ∧ v.2.2.2.2.1.toInt = ct ∧ v.2.2.2.2.2.2.1 = tF ∧ v.2.2.2.2.2.2.2.2.1 = oF ∧ v.2.2.2.2.2.2.2.2.2 = LF ∧ RelW K u.2.2.2.2.2.2.1 u.2.2.2.2.2.2.2.1 u.2.2.2.2.2.2.2.2.1 u.2.2.2.2.2.2.2.2.2.1 u.2.2.2.2.2.2.2.2.2.2 s v.2.1 v.2.2.1 v.2.2.2.2.2.1 ∧ 16 * u.1 + N ≤ u.2.2.2.2.2.2.2.2.2.1 ∧ u.2.1 + 2 * N ≤ 2 * u.2.2.2.2.2.2.2.2.2.1
set_option maxHeartbeats 1000000 in
theorem s_lenW {F : Nat} (hF : 1000000 ≤ F) {st p0 : Int32} {wN aN nN fN pN lN : Nat} {wF aF nF fF pF lF : Nat → Int32} {g r c : Int32} {N : Nat} {R : Nat → Int32} {sz P wr s e q wg ct : Int32} {B cF bF tF WF oF LF : Nat → Int32} {p0' : Int32} {b b' a n fr pc wd K : Nat}
    (hw : wr.toInt = 1) (hg : wg.toInt = 0) (hb : p0.toInt = b ∧ b < wN ∧ b < aN ∧ b < nN ∧ b < fN ∧ b < pN) (hb' : p0'.toInt = b' ∧ b' < 2048) (ha : (aF b).toInt = a ∧ (cF b').toInt = a) (hn : (nF b).toInt = n ∧ (bF b').toInt = n) (hf : (fF b).toInt = fr) (hp : (pF b).toInt = pc ∧ (tF b').toInt = pc) (h2 : a + n ≤ 200 ∧ pcs st a n = pc ∧ fr + pc ≤ lN ∧ lN ≤ 100000)
    (hwd : (wF b).toInt = wd ∧ (WF b').toInt = wd ∧ 3 ≤ wd ∧ wd ≤ 16) (hl : ∀ k, fr ≤ k → k < fr + pc → 0 ≤ (lF k).toInt ∧ (lF k).toInt ≤ 65535) (hL : ∀ k, k < pc → PieceAt oF LF b' k (lF (fr + k))) (hct : 0 ≤ ct.toInt ∧ ct.toInt + pc ≤ 4096) (hrel : RelW (K + 17 + 24 * pc) g r c N R s e q B) :
    Ok (f_Side_tellLengthsW F st wN wF aN aF nN nF fN fF pN pF lN lF g r c N R p0) (fun u => Ok (f_Mo_codePieces F st sz P wr s e q wg ct 262144 B 2048 cF 2048 tF 2048 bF 2048 WF 8200 oF 8200 LF p0') (fun v => QL K b b' (a + n) wF aF lF P wg (ct.toInt + pc) tF WF oF LF s N u v)) := by
  have L := lits
  have hpc := pcs_le st n a
  have l32 : (32 : Int32).toInt = 32 := by decide
  have eb : p0.toInt.toNat = b := by omega
  have eb' : p0'.toInt.toNat = b' := by omega
  have hwm := wm_le h2.2.1 hl
  have hwg : wg = 0 := ti_ofI (by omega)
  subst hwg
  have key : ∀ (t fu fu' : Nat) (wF1 WF1 : Nat → Int32) (g r c : Int32) (N : Nat) (R : Nat → Int32) (e q : Int32) (B : Nat → Int32) (v3 v2 : Int32) (wd : Nat), v3.toInt = wm st lF pc a n fr → (v2.toInt + wd = v3.toInt ∧ 0 ≤ v2.toInt) ∨ (v2.toInt = 0 ∧ v3.toInt ≤ wd) → (t : Int) = v2.toInt → t < fu → t < fu' → (wF1 b).toInt = wd → (WF1 b').toInt = wd → 3 ≤ wd → wd ≤ 16 → (∀ x, ¬ x = b → wF1 x = wF x) → (∀ x, ¬ x = b' → WF1 x = WF x) → RelW (K + t + 1 + 24 * pc) g r c N R s e q B →
      Ok (f_Side_tellLengthsW_6 F st wN aN nN nF fN fF pN pF lN fu wF1 g r c N R aF lF p0 v3) (fun u => Ok (f_Mo_codePieces_17 F st sz wr s 262144 2048 cF 2048 2048 bF 2048 8200 8200 fu' P e q 0 ct B tF WF1 oF LF p0' v2) (fun v => QL K b b' (a + n) wF aF lF P 0 (ct.toInt + pc) tF WF oF LF s N u v)) := by
    intro t
    induction t with
    | zero =>
      intro fu fu' wF1 WF1 g r c N R e q B v3 v2 wd g1 g2 g3 g4 g4' g5 g6 g7 g8 g9 g10 hrel
      obtain ⟨fu, rfl⟩ : ∃ y, fu = y + 1 := ⟨fu - 1, by omega⟩
      obtain ⟨fu', rfl⟩ : ∃ y, fu' = y + 1 := ⟨fu' - 1, by omega⟩
      simp only [f_Side_tellLengthsW_6, g_Side_tellLengthsW_6, g_Side_tellLengthsW_33, g_Side_tellLengthsW_53, f_Mo_codePieces_17, g_Mo_codePieces_17, g_Mo_codePieces_34, g_Mo_codePieces_84, clamp_eq, eb, eb']
      refine ok_in (by omega) (ok_v ?_)
      refine ok_lt (fun c1 => by omega) (fun c1 => ?_)
      refine ok_in (by omega) (ok_v ?_)
      refine ok_le (fun c2 => ok_swap ?_) (fun c2 => by omega)
      refine ok_T ?_
      refine ok_le (fun c3 => ok_swap ?_) (fun c3 => by omega)
      refine ok_b2 (s_bitW (k := K + 24 * pc) hw L.2.1 (by omega) (hrel.less (by omega))) (fun u58 u41 hq => ?_)
      obtain ⟨q1, q2, q3, q4, q5, q6⟩ := hq
      rw [q1, q2, q3]
      refine ok_c (ok_eq (fun hc => by omega) (fun _ => ?_))
      refine ok_swap (ok_eq (fun hc => by omega) (fun _ => ?_))
      refine ok_in (by omega) (ok_v ?_)
      refine ok_in (by omega) (ok_v ?_)
      refine ok_add (by omega) (fun x39 e39 => ?_)
      refine ok_in (by omega) (ok_l (fun x40 e40 => ?_))
      have e40' : x40.toInt = a := by rw [e40]; omega
      refine ok_swap ?_
      refine ok_in (by omega) (ok_v ?_)
      refine ok_le (fun c4 => ?_) (fun c4 => by omega)
      refine ok_in (by omega) (ok_v ?_)
      refine ok_in (by omega) (ok_v ?_)
      refine ok_add (by omega) (fun x56 e56 => ?_)
      refine ok_in (by omega) (ok_l (fun x57 e57 => ?_))
      have e57' : x57.toInt = fr := by rw [e57]; omega
      refine ok_m2 (s_pcsW (aF := aF) (a := a) (n := n) (fr := fr) (pc := pc) (wd := wd) (K := K) hF hw L.2.1 ⟨hb.1, hb.2.1, hb.2.2.1, hb.2.2.2.2.1, hb.2.2.2.2.2⟩ hb' hf hp.1 ⟨h2.1, h2.2.2.1, h2.2.2.2, by omega⟩ (by omega) (by omega) ⟨g5, g6, g8⟩ hl hL pc F F _ _ _ _ _ _ _ ct _ aF x57 0 x40 a n 0 (by omega) (by omega) h2.2.1 rfl (by omega) ha.1 (fun _ _ => rfl) (by omega) (by omega) e40' (by rw [Nat.add_zero]; omega) (by omega) (by omega) (q4.less (by omega))) (fun u v hz => ?_)
      obtain ⟨z1, z2, z3, z4, z5, z6, z7, z8, z9, z10, z11, z12, z13, z14, z15⟩ := hz
      unfold QL
      dsimp only
      rw [z2, z10]
      try dsimp only
      exact ⟨z1, ⟨ti_ofI (by omega), by omega, by omega⟩, g9, g10, by omega, z4, z5, z6, z7, by omega, z9, z11, z12, z13, by omega, by omega⟩
    | succ t ih =>
      intro fu fu' wF1 WF1 g r c N R e q B v3 v2 wd g1 g2 g3 g4 g4' g5 g6 g7 g8 g9 g10 hrel
      obtain ⟨fu, rfl⟩ : ∃ y, fu = y + 1 := ⟨fu - 1, by omega⟩
      obtain ⟨fu', rfl⟩ : ∃ y, fu' = y + 1 := ⟨fu' - 1, by omega⟩
      simp only [f_Side_tellLengthsW_6, g_Side_tellLengthsW_6, g_Side_tellLengthsW_33, g_Side_tellLengthsW_53, f_Mo_codePieces_17, g_Mo_codePieces_17, g_Mo_codePieces_34, g_Mo_codePieces_73, g_Mo_codePieces_78, clamp_eq, eb, eb']
      refine ok_in (by omega) (ok_v ?_)
      refine ok_lt (fun c1 => by omega) (fun c1 => ?_)
      refine ok_in (by omega) (ok_v ?_)
      refine ok_le (fun c2 => by omega) (fun c2 => ok_swap ?_)
      refine ok_T ?_
      refine ok_le (fun c3 => by omega) (fun c3 => ok_swap ?_)
      refine ok_b2 (s_bitW (k := K + t + 1 + 24 * pc) hw L.2.1 (by omega) (hrel.less (by omega))) (fun u58 u41 hq => ?_)
      obtain ⟨q1, q2, q3, q4, q5, q6⟩ := hq
      rw [q1, q2, q3]
      refine ok_c (ok_eq (fun _ => ?_) (fun hc => by omega))
      refine ok_swap (ok_eq (fun _ => ?_) (fun hc => by omega))
      refine ok_add (by omega) (fun x42 e42 => ?_)
      refine ok_in (by omega) (ok_v ?_)
      refine ok_add (by omega) (fun x44 e44 => ?_)
      refine ok_in (by omega) ?_
      refine ok_eq (fun _ => ?_) (fun hc => by omega)
      refine ok_in (by omega) (ok_v ?_)
      rw [upd_is]
      refine ok_le (fun c4 => ?_) (fun c4 => by omega)
      refine ok_a ⟨bool_nar (by omega), bool_fit (by omega)⟩ (ok_swap ?_)
      refine ok_in (by omega) (ok_v ?_)
      refine ok_add (by omega) (fun x63 e63 => ?_)
      refine ok_in (by omega) ?_
      refine ok_m2 (ih fu fu' (upd wF1 b x63) (upd WF1 b' x44) _ _ _ _ _ _ _ _ v3 x42 (wd + 1) g1 (by omega) (by omega) (by omega) (by omega) (by rw [upd_is]; omega) (by rw [upd_is]; omega) (by omega) (by omega) (fun x hx => by rw [upd_no hx]; exact g9 x hx) (fun x hx => by rw [upd_no hx]; exact g10 x hx) q4) (fun u v hz => ?_)
      unfold QL at hz ⊢
      obtain ⟨z1, z2, z3, z4, z5, z6, z7, z8, z9, z10, z11, z12, z13, z14, z15, z16⟩ := hz
      try dsimp only
      exact ⟨z1, z2, z3, z4, z5, z6, z7, z8, z9, z10, z11, z12, z13, z14, by omega, by omega⟩
  simp only [f_Side_tellLengthsW, f_Mo_codePieces, g_Mo_codePieces_16]
  refine ok_bm (w_widthFor hF ⟨hb.1, hb.2.2.1, hb.2.2.2.1, hb.2.2.2.2.1, hb.2.2.2.2.2⟩ ha.1 hn.1 hf hp.1 ⟨h2.1, h2.2.1, h2.2.2.1, h2.2.2.2⟩ hl) (fun u66 e66 => ok_swap ?_)
  refine ok_eq (fun hc => by omega) (fun _ => ?_)
  refine ok_bm (w_growth (a := a) (n := n) (fr := fr) (pc := pc) (lF := lF) (wd := wd) hF hb' ha.2 hn.2 hp.2 ⟨hwd.2.1, by omega⟩ ⟨h2.1, h2.2.1⟩ hl hL) (fun u46 e46 => ok_swap ?_)
  exact key u46.toInt.toNat F F wF WF g r c N R e q B u66 u46 wd e66 (by omega) (by omega) (by omega) (by omega) hwd.1 hwd.2.1 hwd.2.2.1 hwd.2.2.2 (fun _ _ => rfl) (fun _ _ => rfl) (hrel.less (by omega))
