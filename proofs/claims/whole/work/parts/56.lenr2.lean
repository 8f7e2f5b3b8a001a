/-- what reading the bytes of the pieces of a block comes to -/
def QLR (b b' an pc fr P : Nat) (ct : Int) (wF aF lF tF WF oF LF : Nat → Int32) (st0 en c : Int32) (N : Nat) (R : Nat → Int32) (sz s : Int32) (B : Nat → Int32) (u : Int32 × (Nat → Int32) × (Nat → Int32) × (Nat → Int32) × Int32 × Int32 × Int32 × Int32) (v : Int32 × Int32 × Int32 × Int32 × Int32 × (Nat → Int32) × (Nat → Int32) × (Nat → Int32) × (Nat → Int32) × (Nat → Int32)) : Prop :=
  (v.2.2.2.2.2.1 = B ∧ (∀ x, ¬ x = b → u.2.1 x = wF x) ∧ (∀ x, ¬ x = b → u.2.2.1 x = aF x) ∧ 0 ≤ (u.2.2.1 b).toInt ∧ (u.2.2.1 b).toInt ≤ 200 ∧ (∀ x, x < fr → u.2.2.2.1 x = lF x) ∧ P ≤ v.1.toInt ∧ v.1.toInt ≤ P + pc ∧ (∀ k, k < P → v.2.2.2.2.2.2.2.2.1 k = oF k ∧ v.2.2.2.2.2.2.2.2.2 k = LF k) ∧ (∀ k : Nat, P ≤ k → (k : Int) < v.1.toInt → (v.2.2.2.2.2.2.2.2.1 k).toInt = b') ∧ (∀ x, ¬ x = b' → v.2.2.2.2.2.2.1 x = tF x) ∧ (∀ x, ¬ x = b' → v.2.2.2.2.2.2.2.1 x = WF x)) ∧
  ((v.2.2.2.1.toInt = 0 ∧ u.1.toInt = 1 ∧ (u.2.2.1 b).toInt = an ∧ u.2.1 b = v.2.2.2.2.2.2.2.1 b' ∧ 3 ≤ (u.2.1 b).toInt ∧ (u.2.1 b).toInt ≤ 32 ∧ v.1.toInt = P + pc ∧ v.2.2.2.2.1.toInt = ct ∧ (v.2.2.2.2.2.2.1 b').toInt = pc ∧ (∀ k, k < pc → v.2.2.2.2.2.2.2.2.2 (P + k) = u.2.2.2.1 (fr + k)) ∧ RelR st0 u.2.2.2.2.1 en u.2.2.2.2.2.1 u.2.2.2.2.2.2.1 u.2.2.2.2.2.2.2 c N R sz s v.2.1 v.2.2.1 v.2.2.2.1 B) ∨
   (v.2.2.2.1.toInt = 1 ∧ (u.1.toInt = 0 ∨ SB u.2.2.2.2.1 en u.2.2.2.2.2.2.1 u.2.2.2.2.2.2.2 c N) ∧ SG u.2.2.2.2.1 en c N))
set_option maxHeartbeats 2000000 in
theorem s_pcsR {F : Nat} (hF : 1000000 ≤ F) {st p0 : Int32} {wN aN fN pN lN : Nat} {wF0 wF aF fF pF lF : Nat → Int32} {st0 en c : Int32} {N : Nat} {R : Nat → Int32} {sz wr s : Int32} {B tF WF0 WF oF LF : Nat → Int32} {p0' v4 v3 : Int32} {b b' a n fr pc wd P : Nat} {ct0 : Int}
    (hw : wr.toInt = 0) (hb : p0.toInt = b ∧ b < wN ∧ b < aN ∧ b < fN ∧ b < pN) (hb' : p0'.toInt = b' ∧ b' < 2048) (hf : (fF b).toInt = fr) (hp : (pF b).toInt = pc) (h2 : a + n ≤ 200 ∧ fr + pc ≤ lN ∧ lN ≤ 100000 ∧ pc ≤ 1000) (hv4 : v4.toInt = a + n) (hv3 : v3.toInt = a + n) (hP : P + pc ≤ 8200) (hct : 0 ≤ ct0 ∧ ct0 + pc ≤ 4096)
    (hwd : (wF b).toInt = wd ∧ (WF b').toInt = wd ∧ 3 ≤ wd ∧ wd ≤ 32) (hwf : ∀ x, ¬ x = b → wF x = wF0 x) (hWf : ∀ x, ¬ x = b' → WF x = WF0 x) :
    ∀ (j fu fu' : Nat) (n0 la lf lk e q wg ct P1 : Int32) (aF1 lF1 tF1 oF1 LF1 : Nat → Int32) (v5 w4 w5 : Int32) (a' n' i : Nat), j < fu → j < fu' → pcs st a' n' = j → a' + n' = a + n → i + j = pc → wg.toInt = 0 → (aF1 b).toInt = a' → (∀ x, ¬ x = b → aF1 x = aF x) → (∀ x, x < fr → lF1 x = lF x) → v5.toInt = (fr : Int) + i → w4.toInt = i → w5.toInt = a' → ct.toInt = ct0 + i → P1.toInt = (P : Int) + i → (tF1 b').toInt = i → (∀ x, ¬ x = b' → tF1 x = tF x) → (∀ k, k < P → oF1 k = oF k ∧ LF1 k = LF k) → (∀ k : Nat, P ≤ k → k < P + i → (oF1 k).toInt = b') → (∀ k, k < i → LF1 (P + k) = lF1 (fr + k)) → RelR st0 n0 en la lf lk c N R sz s e q wg B →
      Ok (f_Side_tellLengthsR_89 F st wN aN fN fF pN pF lN en c N R fu wF n0 la lf lk aF1 lF1 p0 v4 v5) (fun u => Ok (f_Mo_codePieces_109 F st sz wr s 262144 2048 2048 8200 8200 fu' P1 e q wg ct B tF1 WF oF1 LF1 p0' v3 w4 w5) (fun v => QLR b b' (a + n) pc fr P (ct0 + pc) wF0 aF lF tF WF0 oF LF st0 en c N R sz s B u v)) := by
  have L := lits
  have l4096 : (4096 : Int32).toInt = 4096 := by decide
  have eb : p0.toInt.toNat = b := by omega
  have eb' : p0'.toInt.toNat = b' := by omega
  intro j
  induction j with
  | zero =>
    intro fu fu' n0 la lf lk e q wg ct P1 aF1 lF1 tF1 oF1 LF1 v5 w4 w5 a' n' i g1 g1' g2 g3 g4 hg g5 g6 g7 g8 g9 g10 g11 g12 g13 g14 g15 g16 g17 hrel
    obtain ⟨fu, rfl⟩ : ∃ y, fu = y + 1 := ⟨fu - 1, by omega⟩
    obtain ⟨fu', rfl⟩ : ∃ y, fu' = y + 1 := ⟨fu' - 1, by omega⟩
    have hn0 := pcs_0 g2
    have hi : i = pc := by omega
    subst hi
    simp only [f_Side_tellLengthsR_89, g_Side_tellLengthsR_89, f_Mo_codePieces_109, g_Mo_codePieces_109, g_Mo_codePieces_249, clamp_eq, eb]
    refine ok_in (by omega) (ok_v ?_)
    refine ok_in (by omega) (ok_v ?_)
    refine ok_add (by omega) (fun x36 e36 => ?_)
    refine ok_le (fun c1 => ok_s ?_) (fun c1 => by omega)
    refine ok_le (fun c2 => ok_s ?_) (fun c2 => by omega)
    unfold QLR
    try dsimp only
    exact ⟨⟨rfl, hwf, g6, by omega, by omega, g7, by omega, by omega, g15, fun k h1 h2 => g16 k h1 (by omega), g14, hWf⟩, Or.inl ⟨hg, L.2.2.1, by omega, ti_ofI (by omega), by omega, by omega, by omega, by omega, by omega, g17, hrel⟩⟩
  | succ j ih =>
    intro fu fu' n0 la lf lk e q wg ct P1 aF1 lF1 tF1 oF1 LF1 v5 w4 w5 a' n' i g1 g1' g2 g3 g4 hg g5 g6 g7 g8 g9 g10 g11 g12 g13 g14 g15 g16 g17 hrel
    obtain ⟨fu, rfl⟩ : ∃ y, fu = y + 1 := ⟨fu - 1, by omega⟩
    obtain ⟨fu', rfl⟩ : ∃ y, fu' = y + 1 := ⟨fu' - 1, by omega⟩
    obtain ⟨h1, h3, h4, h5⟩ := pcs_sp g2
    have n1 := nb_pos h3
    have n8 : nb (pl st a' n') ≤ 8 := nb_le (by omega)
    have ei : v5.toInt.toNat = fr + i := by omega
    simp only [f_Side_tellLengthsR_89, g_Side_tellLengthsR_89, f_Mo_codePieces_109, g_Mo_codePieces_109, g_Mo_codePieces_249, g_Mo_codePieces_151, g_Mo_codePieces_205, g_Mo_codePieces_210, g_Mo_codePieces_236, clamp_eq, eb, eb', ei]
    refine ok_in (by omega) (ok_v ?_)
    refine ok_in (by omega) (ok_v ?_)
    refine ok_add (by omega) (fun x36 e36 => ?_)
    refine ok_le (fun c1 => by omega) (fun c1 => ?_)
    refine ok_in (by omega) (ok_v ?_)
    refine ok_bm (w_passesOfPiece hF (by omega)) (fun u38 e38 => ?_)
    rw [show (aF1 b).toInt.toNat = a' by omega, show (v4.toInt - (aF1 b).toInt).toNat = n' by omega] at e38
    refine ok_in (by omega) (ok_v ?_)
    refine ok_v ?_
    refine ok_in (by omega) (ok_v ?_)
    refine ok_bm (w_logOf hF (by omega)) (fun u42 e42 => ?_)
    rw [show u38.toInt.toNat = pl st a' n' by omega] at e42
    refine ok_add (by omega) (fun x43 e43 => ok_swap ?_)
    refine ok_le (fun c2 => by omega) (fun c2 => ?_)
    refine ok_eq (fun c3 => ?_) (fun c3 => by omega)
    refine ok_bm (w_Mo_fp hF (by omega)) (fun u34 e34 => ?_)
    rw [show w5.toInt.toNat = a' by omega, show (v3.toInt - w5.toInt).toNat = n' by omega] at e34
    refine ok_eq (fun c4 => ?_) (fun c4 => by omega)
    refine ok_in (by omega) (ok_v ?_)
    refine ok_bm (w_Mo_log hF (by omega)) (fun u29 e29 => ?_)
    rw [show u34.toInt.toNat = pl st a' n' by omega] at e29
    refine ok_add (by omega) (fun x30 e30 => ok_swap ?_)
    have ex : x30 = x43 := ti_ofI (by omega)
    rw [ex]
    refine ok_b2 (s_numR hF (m := wd + (nb (pl st a' n') - 1)) hw (by omega) (by omega) hrel) (fun u44 u31 hq => ?_)
    obtain ⟨q1, q2, q3, q4, q5, q6⟩ := hq
    have hcmp := cmp_gt u31.1
    rw [q1, q4]
    refine ok_l (fun x48 e48 => ?_)
    rw [← e48] at hcmp
    by_cases hbad : u31.2.2.2.1.toInt = 0
    · -- the bits are there
      refine ok_le (fun c5 => ?_) (fun c5 => ?_)
      · refine ok_l (fun x49 e49 => ?_)
        refine ok_in (by omega) ?_
        refine ok_in (by omega) (ok_v ?_)
        refine ok_add (by omega) (fun x51 e51 => ?_)
        refine ok_in (by omega) ?_
        refine ok_add (by omega) (fun x52 e52 => ok_swap ?_)
        refine ok_add (by omega) (fun x32 e32 => ?_)
        refine ok_eq (fun c6 => ?_) (fun c6 => by omega)
        refine ok_v ?_
        rw [← e48]
        refine ok_lt (fun c7 => by omega) (fun c7 => ?_)
        refine ok_le (fun c8 => ?_) (fun c8 => by omega)
        refine ok_a ⟨bool_nar (by omega), bool_fit (by omega)⟩ ?_
        refine ok_T ?_
        refine ok_eq (fun c9 => ?_) (fun c9 => by omega)
        refine ok_v ?_
        rw [← e49]
        refine ok_bm (w_Mo_add (by omega) (by omega) (by rw [eb']; omega)) (fun u27 e27 => ?_)
        rw [eb'] at e27
        obtain ⟨a1, a2, a3, a4, a5⟩ := e27
        have eP : P1.toInt.toNat = P + i := by omega
        rw [eP] at a2 a3
        refine ok_add (by omega) (fun x24 e24 => ?_)
        refine ok_add (by omega) (fun x25 e25 => ok_swap ?_)
        rw [a2, a3]
        have hwg : u31.2.2.2.1 = 0 := ti_ofI (by omega)
        rw [hwg] at q5
        refine ih fu fu' _ _ _ _ _ _ 0 x32 u27.1 (upd aF1 b x51) (upd lF1 (fr + i) x49) u27.2.2.2 (upd oF1 (P + i) p0') (upd LF1 (P + i) x49) x52 x25 x24 (a' + pl st a' n') (n' - pl st a' n') (i + 1) (by omega) (by omega) h5 (by omega) (by omega) L.2.1 (by rw [upd_is]; omega) (fun x hx => by rw [upd_no hx]; exact g6 x hx) (fun x hx => by rw [upd_no (by omega)]; exact g7 x hx) (by omega) (by omega) (by omega) (by omega) (by omega) (by omega) (fun x hx => by rw [a5 x hx]; exact g14 x hx) (fun k hk => by rw [upd_no (by omega), upd_no (by omega)]; exact g15 k hk) ?_ ?_ q5
        · intro k hk hk2
          by_cases qk : k = P + i
          · rw [qk, upd_is]; exact hb'.1
          · rw [upd_no qk]; exact g16 k hk (by omega)
        · intro k hk
          by_cases qk : k = i
          · rw [qk, upd_is, upd_is]
          · rw [upd_no (by omega), upd_no (by omega)]; exact g17 k (by omega)
      · refine ok_s ?_
        refine ok_add (by omega) (fun x32 e32 => ?_)
        refine ok_eq (fun c6 => ?_) (fun c6 => by omega)
        refine ok_v ?_
        rw [← e48]
        refine ok_lt (fun c7 => ?_) (fun c7 => by omega)
        refine ok_a ⟨bool_nar (by omega), bool_fit (by omega)⟩ ?_
        refine ok_eq (fun c8 => by omega) (fun c8 => ok_s ?_)
        unfold QLR
        try dsimp only
        exact ⟨⟨rfl, hwf, g6, by omega, by omega, g7, by omega, by omega, g15, fun k h1 h2 => g16 k h1 (by omega), g14, hWf⟩, Or.inr ⟨L.2.2.1, Or.inl L.2.1, q5.sg⟩⟩
    · -- bits lack
      have hsb := q5.sb hbad
      refine ok_swap ?_
      refine ok_add (by omega) (fun x32 e32 => ?_)
      refine ok_eq (fun c6 => by omega) (fun c6 => ?_)
      refine ok_a ⟨bool_nar (by omega), bool_fit (by omega)⟩ ?_
      refine ok_eq (fun c8 => by omega) (fun c8 => ok_s ?_)
      refine ok_le (fun c5 => ?_) (fun c5 => ?_)
      · refine ok_v ?_
        refine ok_in (by omega) ?_
        refine ok_in (by omega) (ok_v ?_)
        refine ok_add (by omega) (fun x51 e51 => ?_)
        refine ok_in (by omega) ?_
        refine ok_add (by omega) (fun x52 e52 => ?_)
        refine ok_m (w_pcsRx (wF0 := wF0) (aF := aF) (lF := lF) (a := a) (n := n) (fr := fr) (pc := pc) (wd := wd) hF hsb.1 hb hf hp h2 hv4 ⟨hwd.1, hwd.2.2.2⟩ hwf j fu _ _ x52 (a' + pl st a' n') (n' - pl st a' n') (i + 1) (by omega) h5 (by omega) (by omega) (by rw [upd_is]; omega) (fun x hx => by rw [upd_no hx]; exact g6 x hx) (fun x hx => by rw [upd_no (by omega)]; exact g7 x hx) (by omega)) (fun u hu => ?_)
        unfold QX at hu
        obtain ⟨x1, x2, x3, x4, x5, x6, x7, x8, x9⟩ := hu
        unfold QLR
        dsimp only
        rw [x6, x8, x9]
        try dsimp only
        exact ⟨⟨rfl, x1, x2, x3, x4, x5, by omega, by omega, g15, fun k h1 h2 => g16 k h1 (by omega), g14, hWf⟩, Or.inr ⟨L.2.2.1, Or.inr hsb.1, q5.sg⟩⟩
      · refine ok_s ?_
        unfold QLR
        try dsimp only
        exact ⟨⟨rfl, hwf, g6, by omega, by omega, g7, by omega, by omega, g15, fun k h1 h2 => g16 k h1 (by omega), g14, hWf⟩, Or.inr ⟨L.2.2.1, Or.inl L.2.1, q5.sg⟩⟩
