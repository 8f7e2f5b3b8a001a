/-! The pieces' bytes, read. -/
def SG (n en c : Int32) (N : Nat) : Prop := 0 ≤ n.toInt ∧ en.toInt ≤ c.toInt ∧ c.toInt ≤ N ∧ c.toInt ≤ 262144
theorem SB.sg {n en lf lk c : Int32} {N : Nat} (h : SB n en lf lk c N) : SG n en c N := by
  unfold SB at h; unfold SG; omega
theorem RelR.sg {st n en la lf lk c : Int32} {N : Nat} {R : Nat → Int32} {sz s e q wg : Int32} {B : Nat → Int32} (h : RelR st n en la lf lk c N R sz s e q wg B) : SG n en c N := by
  obtain ⟨h1, h2, h3, h4, h5, h6, h7, h8, h9, h10, h11⟩ := h.1
  unfold SG
  omega
theorem w_bitsX {F : Nat} (hF : 1000000 ≤ F) {p : Int32} : Ok (f_PH_bitsOf F p) (fun u => 0 ≤ u.toInt ∧ u.toInt ≤ 31) := by
  have L := lits
  have l31 : (31 : Int32).toInt = 31 := by decide
  have key : ∀ (n : Nat) (v : Int32), 0 ≤ v.toInt → v.toInt ≤ 31 → 31 < v.toInt + n → Ok (f_PH_bitsOf_2 F n p v) (fun u => 0 ≤ u.toInt ∧ u.toInt ≤ 31) := by
    intro n
    induction n with
    | zero => intro v h1 h2 h3; omega
    | succ n ih =>
      intro v h1 h2 h3
      simp only [f_PH_bitsOf_2, g_PH_bitsOf_2, g_PH_bitsOf_20]
      refine ok_le (fun _ => ok_s ⟨h1, h2⟩) (fun _ => ?_)
      refine ok_l (fun x _ => ?_)
      refine ok_le (fun _ => ok_s ⟨h1, h2⟩) (fun _ => ?_)
      exact ok_add (by omega) (fun y hy => ih y (by omega) (by omega) (by omega))
  simp only [f_PH_bitsOf]
  exact key F 0 (by omega) (by omega) (by omega)
theorem w_widthX {F : Nat} (hF : 1000000 ≤ F) {st p0 : Int32} {aN nN fN pN lN b a n fr pc : Nat} {aF nF fF pF lF : Nat → Int32} (hb : p0.toInt = b ∧ b < aN ∧ b < nN ∧ b < fN ∧ b < pN) (ha : (aF b).toInt = a) (hn : (nF b).toInt = n) (hf : (fF b).toInt = fr) (hp : (pF b).toInt = pc) (h2 : a + n ≤ 200 ∧ pcs st a n = pc ∧ fr + pc ≤ lN ∧ lN ≤ 100000) :
    Ok (f_Side_widthFor F st aN aF nN nF fN fF pN pF lN lF p0) (fun u => 0 ≤ u.toInt ∧ u.toInt ≤ 1000) := by
  have L := lits
  have eb : p0.toInt.toNat = b := by omega
  have hpc := pcs_le st n a
  have key : ∀ (j fu : Nat) (v2 v3 v4 : Int32) (a' n' i : Nat), j < fu → pcs st a' n' = j → a' + n' = a + n → i + j = fr + pc → fr ≤ i → v3.toInt = a' → v4.toInt = i → 0 ≤ v2.toInt → v2.toInt ≤ 1000 → Ok (f_Side_widthFor_17 F st aN aF nN nF fN fF pN pF lN lF fu p0 v2 v3 v4) (fun u => 0 ≤ u.toInt ∧ u.toInt ≤ 1000) := by
    intro j
    induction j with
    | zero =>
      intro fu v2 v3 v4 a' n' i g1 g2 g3 g4 g5 g6 g7 g8 g9
      obtain ⟨fu, rfl⟩ : ∃ y, fu = y + 1 := ⟨fu - 1, by omega⟩
      simp only [f_Side_widthFor_17, g_Side_widthFor_17, clamp_eq, eb]
      refine ok_in (by omega) (ok_v ?_)
      refine ok_in (by omega) (ok_v ?_)
      refine ok_add (by omega) (fun x19 e19 => ?_)
      exact ok_le (fun c => ok_s ⟨g8, g9⟩) (fun c => by omega)
    | succ j ih =>
      intro fu v2 v3 v4 a' n' i g1 g2 g3 g4 g5 g6 g7 g8 g9
      obtain ⟨fu, rfl⟩ : ∃ y, fu = y + 1 := ⟨fu - 1, by omega⟩
      obtain ⟨h1, h3, h4, h5⟩ := pcs_sp g2
      have ei : v4.toInt.toNat = i := by omega
      simp only [f_Side_widthFor_17, g_Side_widthFor_17, clamp_eq, eb, ei]
      refine ok_in (by omega) (ok_v ?_)
      refine ok_in (by omega) (ok_v ?_)
      refine ok_add (by omega) (fun x19 e19 => ?_)
      refine ok_le (fun c => by omega) (fun c => ?_)
      refine ok_in (by omega) (ok_v ?_)
      refine ok_in (by omega) (ok_v ?_)
      refine ok_add (by omega) (fun x22 e22 => ?_)
      refine ok_bm (w_passesOfPiece hF (by omega)) (fun u23 e23 => ?_)
      rw [show v3.toInt.toNat = a' by omega, show (x22.toInt - v3.toInt).toNat = n' by omega] at e23
      refine ok_in (by omega) (ok_v ?_)
      refine ok_bm (w_bitsX hF) (fun u25 e25 => ?_)
      refine ok_bm (w_logOf hF (by omega)) (fun u26 e26 => ?_)
      rw [show u23.toInt.toNat = pl st a' n' by omega] at e26
      have n8 : nb (pl st a' n') ≤ 8 := nb_le (by omega)
      have n1 := nb_pos h3
      refine ok_sub (by omega) (fun x27 e27 => ?_)
      refine ok_max (fun x28 e28 => ?_)
      refine ok_add (by omega) (fun x29 e29 => ?_)
      refine ok_add (by omega) (fun x30 e30 => ?_)
      exact ih fu x28 x29 x30 (a' + pl st a' n') (n' - pl st a' n') (i + 1) (by omega) h5 (by omega) (by omega) (by omega) (by omega) (by omega) (by omega) (by omega)
  simp only [f_Side_widthFor, clamp_eq, eb]
  refine ok_in (by omega) (ok_l (fun x31 e31 => ?_))
  refine ok_in (by omega) (ok_l (fun x32 e32 => ?_))
  exact key pc F 0 x31 x32 a n fr (by omega) h2.2.1 rfl rfl (by omega) (by rw [e31]; omega) (by rw [e32]; omega) (by omega) (by omega)
/-- the pieces alone, when bits lack -/
def QX (b fr : Nat) (wF aF lF : Nat → Int32) (n0 la lf lk : Int32) (u : Int32 × (Nat → Int32) × (Nat → Int32) × (Nat → Int32) × Int32 × Int32 × Int32 × Int32) : Prop :=
  (∀ x, ¬ x = b → u.2.1 x = wF x) ∧ (∀ x, ¬ x = b → u.2.2.1 x = aF x) ∧ 0 ≤ (u.2.2.1 b).toInt ∧ (u.2.2.1 b).toInt ≤ 200 ∧ (∀ x, x < fr → u.2.2.2.1 x = lF x) ∧ u.2.2.2.2.1 = n0 ∧ u.2.2.2.2.2.1 = la ∧ u.2.2.2.2.2.2.1 = lf ∧ u.2.2.2.2.2.2.2 = lk
theorem w_pcsRx {F : Nat} (hF : 1000000 ≤ F) {st p0 : Int32} {wN aN fN pN lN : Nat} {wF0 wF aF fF pF lF : Nat → Int32} {n0 en la lf lk c : Int32} {N : Nat} {R : Nat → Int32} {v4 : Int32} {b a n fr pc wd : Nat}
    (hsb : SB n0 en lf lk c N) (hb : p0.toInt = b ∧ b < wN ∧ b < aN ∧ b < fN ∧ b < pN) (hf : (fF b).toInt = fr) (hp : (pF b).toInt = pc) (h2 : a + n ≤ 200 ∧ fr + pc ≤ lN ∧ lN ≤ 100000 ∧ pc ≤ 1000) (hv4 : v4.toInt = a + n) (hwd : (wF b).toInt = wd ∧ wd ≤ 32) (hwf : ∀ x, ¬ x = b → wF x = wF0 x) :
    ∀ (j fu : Nat) (aF1 lF1 : Nat → Int32) (v5 : Int32) (a' n' i : Nat), j < fu → pcs st a' n' = j → a' + n' = a + n → i + j = pc → (aF1 b).toInt = a' → (∀ x, ¬ x = b → aF1 x = aF x) → (∀ x, x < fr → lF1 x = lF x) → v5.toInt = (fr : Int) + i →
      Ok (f_Side_tellLengthsR_89 F st wN aN fN fF pN pF lN en c N R fu wF n0 la lf lk aF1 lF1 p0 v4 v5) (fun u => QX b fr wF0 aF lF n0 la lf lk u) := by
  have L := lits
  have eb : p0.toInt.toNat = b := by omega
  intro j
  induction j with
  | zero =>
    intro fu aF1 lF1 v5 a' n' i g1 g2 g3 g4 g5 g6 g7 g8
    obtain ⟨fu, rfl⟩ : ∃ y, fu = y + 1 := ⟨fu - 1, by omega⟩
    simp only [f_Side_tellLengthsR_89, g_Side_tellLengthsR_89, clamp_eq, eb]
    refine ok_in (by omega) (ok_v ?_)
    refine ok_in (by omega) (ok_v ?_)
    refine ok_add (by omega) (fun x36 e36 => ?_)
    refine ok_le (fun c1 => ok_s ?_) (fun c1 => by omega)
    unfold QX
    try dsimp only
    exact ⟨hwf, g6, by omega, by omega, g7, rfl, rfl, rfl, rfl⟩
  | succ j ih =>
    intro fu aF1 lF1 v5 a' n' i g1 g2 g3 g4 g5 g6 g7 g8
    obtain ⟨fu, rfl⟩ : ∃ y, fu = y + 1 := ⟨fu - 1, by omega⟩
    obtain ⟨h1, h3, h4, h5⟩ := pcs_sp g2
    have n1 := nb_pos h3
    have n8 : nb (pl st a' n') ≤ 8 := nb_le (by omega)
    have ei : v5.toInt.toNat = fr + i := by omega
    simp only [f_Side_tellLengthsR_89, g_Side_tellLengthsR_89, clamp_eq, eb, ei]
    refine ok_in (by omega) (ok_v ?_)
    refine ok_in (by omega) (ok_v ?_)
    refine ok_add (by omega) (fun x36 e36 => ?_)
    refine ok_le (fun c1 => by omega) (fun c1 => ?_)
    refine ok_in (by omega) (ok_v ?_)
    refine ok_bm (w_passesOfPiece hF (by omega)) (fun u38 e38 => ?_)
    rw [show (aF1 b).toInt.toNat = a' by omega, show (v4.toInt - (aF1 b).toInt).toNat = n' by omega] at e38
    refine ok_in (by omega) (ok_v ?_)
    refine ok_v ?_
    refine ok_in (by omega) (ok_v ?_)
    refine ok_bm (w_logOf hF (by omega)) (fun u42 e42 => ?_)
    rw [show u38.toInt.toNat = pl st a' n' by omega] at e42
    refine ok_add (by omega) (fun x43 e43 => ?_)
    refine ok_bm (w_numRx hF hsb (by omega)) (fun u38 hq => ?_)
    obtain ⟨q1, q2, q3, q4, q5⟩ := hq
    rw [q2, q3, q4, q5]
    have hcmp := cmp_gt u38.1
    refine ok_l (fun x48 e48 => ?_)
    rw [← e48] at hcmp
    refine ok_le (fun c5 => ?_) (fun c5 => by omega)
    refine ok_v ?_
    refine ok_in (by omega) ?_
    refine ok_in (by omega) (ok_v ?_)
    refine ok_add (by omega) (fun x51 e51 => ?_)
    refine ok_in (by omega) ?_
    refine ok_add (by omega) (fun x52 e52 => ?_)
    exact ih fu _ _ x52 (a' + pl st a' n') (n' - pl st a' n') (i + 1) (by omega) h5 (by omega) (by omega) (by rw [upd_is]; omega) (fun x hx => by rw [upd_no hx]; exact g6 x hx) (fun x hx => by rw [upd_no (by omega)]; exact g7 x hx) (by omega)
theorem w_lenRx {F : Nat} (hF : 1000000 ≤ F) {st p0 : Int32} {wN aN nN fN pN lN : Nat} {wF aF nF fF pF lF : Nat → Int32} {n0 en la lf lk c : Int32} {N : Nat} {R : Nat → Int32} {b a n fr pc wd : Nat}
    (hsb : SB n0 en lf lk c N) (hb : p0.toInt = b ∧ b < wN ∧ b < aN ∧ b < nN ∧ b < fN ∧ b < pN) (ha : (aF b).toInt = a) (hn : (nF b).toInt = n) (hf : (fF b).toInt = fr) (hp : (pF b).toInt = pc) (h2 : a + n ≤ 200 ∧ pcs st a n = pc ∧ fr + pc ≤ lN ∧ lN ≤ 100000) (hwd : (wF b).toInt = wd ∧ wd ≤ 32) :
    Ok (f_Side_tellLengthsR F st wN wF aN aF nN nF fN fF pN pF lN lF n0 en la lf lk c N R p0) (fun u => QX b fr wF aF lF n0 la lf lk u) := by
  have L := lits
  have l32 : (32 : Int32).toInt = 32 := by decide
  have eb : p0.toInt.toNat = b := by omega
  have hpc := pcs_le st n a
  obtain ⟨F', hF'⟩ : ∃ y, F = y + 1 := ⟨F - 1, by omega⟩
  simp only [f_Side_tellLengthsR]
  refine ok_bm (w_widthX hF ⟨hb.1, hb.2.2.1, hb.2.2.2.1, hb.2.2.2.2.1, hb.2.2.2.2.2⟩ ha hn hf hp h2) (fun u66 e66 => ?_)
  have step : Ok (f_Side_tellLengthsR_6 F st wN aN nN nF fN fF pN pF lN en c N R (F' + 1) wF n0 la lf lk aF lF p0 u66) (fun u => QX b fr wF aF lF n0 la lf lk u) := by
    have tail : Ok (g_Side_tellLengthsR_53 F st wN aN nN nF fN fF pN pF lN en c N R wF n0 la lf lk aF lF p0) (fun u => QX b fr wF aF lF n0 la lf lk u) := by
      simp only [g_Side_tellLengthsR_53, clamp_eq, eb]
      refine ok_in (by omega) (ok_v ?_)
      refine ok_le (fun c4 => ?_) (fun c4 => by omega)
      refine ok_in (by omega) (ok_v ?_)
      refine ok_in (by omega) (ok_v ?_)
      refine ok_add (by omega) (fun x56 e56 => ?_)
      refine ok_in (by omega) (ok_l (fun x57 e57 => ?_))
      have e57' : x57.toInt = fr := by rw [e57]; omega
      exact w_pcsRx (wF0 := wF) (aF := aF) (lF := lF) (a := a) (n := n) (fr := fr) (pc := pc) (wd := wd) hF hsb ⟨hb.1, hb.2.1, hb.2.2.1, hb.2.2.2.2.1, hb.2.2.2.2.2⟩ hf hp ⟨h2.1, h2.2.2.1, h2.2.2.2, by omega⟩ (by omega) hwd (fun _ _ => rfl) pc F aF lF x57 a n 0 (by omega) h2.2.1 rfl (by omega) ha (fun _ _ => rfl) (fun _ _ => rfl) (by omega)
    have nobit : ∀ rec6 s0, Ok (g_Side_tellLengthsR_33 F rec6 st wN aN nN nF fN fF pN pF lN en c N R wF n0 la lf lk aF lF p0 u66 s0) (fun u => QX b fr wF aF lF n0 la lf lk u) := by
      intro rec6 s0
      simp only [g_Side_tellLengthsR_33]
      refine ok_bm (w_bitRx hsb) (fun u49 hq => ?_)
      obtain ⟨q1, q2, q3, q4, q5⟩ := hq
      rw [q2, q3, q4, q5]
      exact ok_eq (fun hc => by omega) (fun _ => tail)
    simp only [f_Side_tellLengthsR_6, g_Side_tellLengthsR_6, clamp_eq, eb]
    refine ok_in (by omega) (ok_v ?_)
    refine ok_lt (fun c1 => by omega) (fun c1 => ?_)
    refine ok_in (by omega) (ok_v ?_)
    exact ok_le (fun c2 => nobit _ _) (fun c2 => nobit _ _)
  rw [← hF'] at step
  exact step
