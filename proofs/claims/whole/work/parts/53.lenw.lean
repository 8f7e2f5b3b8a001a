/-! The pieces' bytes, written. -/
theorem nb_le {n k : Nat} (h : n < 2 ^ k) : nb n ≤ k := by
  rcases Nat.lt_or_ge k (nb n) with q | q
  · exact absurd (nb_lt.mp q) (by omega)
  · exact q
theorem nb_fit {n k : Nat} (h : nb n ≤ k) : n < 2 ^ k := by
  rcases Nat.lt_or_ge n (2 ^ k) with q | q
  · exact q
  · exact absurd (nb_lt.mpr q) (by omega)
theorem nb_pos {n : Nat} (h : 0 < n) : 1 ≤ nb n := nb_lt.mpr (by rw [Nat.pow_zero]; omega)
theorem cmp_gt (x : Int64) : 0 < (lg_cmp x 65535).toInt ↔ 65535 < x.toInt := by
  have h := lg_cmp_gt x 65535
  rw [Int32.lt_iff_toInt_lt, Int64.lt_iff_toInt_lt] at h
  exact h
def wm (st : Int32) (f : Nat → Int32) : Nat → Nat → Nat → Nat → Int
  | 0, _, _, _ => 0
  | j + 1, a, n, i => if (nb (f i).toInt.toNat : Int) - (nb (pl st a n) - 1) ≤ wm st f j (a + pl st a n) (n - pl st a n) (i + 1) then wm st f j (a + pl st a n) (n - pl st a n) (i + 1) else (nb (f i).toInt.toNat : Int) - (nb (pl st a n) - 1)
theorem wm_s (st : Int32) (f : Nat → Int32) (j a n i : Nat) : (wm st f (j + 1) a n i = wm st f j (a + pl st a n) (n - pl st a n) (i + 1) ∧ (nb (f i).toInt.toNat : Int) - (nb (pl st a n) - 1) ≤ wm st f (j + 1) a n i) ∨ (wm st f (j + 1) a n i = (nb (f i).toInt.toNat : Int) - (nb (pl st a n) - 1) ∧ wm st f j (a + pl st a n) (n - pl st a n) (i + 1) < wm st f (j + 1) a n i) := by
  by_cases q : (nb (f i).toInt.toNat : Int) - (nb (pl st a n) - 1) ≤ wm st f j (a + pl st a n) (n - pl st a n) (i + 1)
  · have : wm st f (j + 1) a n i = wm st f j (a + pl st a n) (n - pl st a n) (i + 1) := if_pos q
    try dsimp only
    exact Or.inl ⟨this, by omega⟩
  · have : wm st f (j + 1) a n i = (nb (f i).toInt.toNat : Int) - (nb (pl st a n) - 1) := if_neg q
    try dsimp only
    exact Or.inr ⟨this, by omega⟩
theorem pcs_0 {st : Int32} {a n : Nat} (h : pcs st a n = 0) : n = 0 := by
  rcases Nat.eq_zero_or_pos n with e | e
  · exact e
  · have := pcs_pl st n a e; omega
theorem pcs_sp {st : Int32} {a n j : Nat} (h : pcs st a n = j + 1) : 0 < n ∧ 0 < pl st a n ∧ pl st a n ≤ n ∧ pcs st (a + pl st a n) (n - pl st a n) = j := by
  have hn : 0 < n := by
    rcases Nat.eq_zero_or_pos n with e | e
    · subst e; exact absurd h (by show ¬ 0 = j + 1; omega)
    · exact e
  have := pcs_pl st n a hn
  try dsimp only
  exact ⟨hn, pl_pos st n a hn, pl_le st n a, by omega⟩
theorem wm_le {st : Int32} {f : Nat → Int32} : ∀ {j a n i : Nat}, pcs st a n = j → (∀ k, i ≤ k → k < i + j → 0 ≤ (f k).toInt ∧ (f k).toInt ≤ 65535) → 0 ≤ wm st f j a n i ∧ wm st f j a n i ≤ 16 := by
  intro j
  induction j with
  | zero => intro a n i _ _; show 0 ≤ (0 : Int) ∧ (0 : Int) ≤ 16; omega
  | succ j ih =>
    intro a n i hp hb
    obtain ⟨h1, h2, h3, h4⟩ := pcs_sp hp
    have h5 := ih (i := i + 1) h4 (fun k hk hk2 => hb k (by omega) (by omega))
    have h6 := nb_pos h2
    have h7 := hb i (by omega) (by omega)
    have h8 : nb (f i).toInt.toNat ≤ 16 := nb_le (by omega)
    have h9 := wm_s st f j a n i
    omega
theorem w_widthFor {F : Nat} (hF : 1000000 ≤ F) {st p0 : Int32} {aN nN fN pN lN b a n fr pc : Nat} {aF nF fF pF lF : Nat → Int32} (hb : p0.toInt = b ∧ b < aN ∧ b < nN ∧ b < fN ∧ b < pN) (ha : (aF b).toInt = a) (hn : (nF b).toInt = n) (hf : (fF b).toInt = fr) (hp : (pF b).toInt = pc) (h2 : a + n ≤ 200 ∧ pcs st a n = pc ∧ fr + pc ≤ lN ∧ lN ≤ 100000) (hl : ∀ k, fr ≤ k → k < fr + pc → 0 ≤ (lF k).toInt ∧ (lF k).toInt ≤ 65535) :
    Ok (f_Side_widthFor F st aN aF nN nF fN fF pN pF lN lF p0) (fun u => u.toInt = wm st lF pc a n fr) := by
  have L := lits
  have eb : p0.toInt.toNat = b := by omega
  have key : ∀ (j fu : Nat) (v2 v3 v4 : Int32) (a' n' i : Nat), j < fu → pcs st a' n' = j → a' + n' = a + n → i + j = fr + pc → fr ≤ i → v3.toInt = a' → v4.toInt = i → 0 ≤ v2.toInt → v2.toInt ≤ 1000 → Ok (f_Side_widthFor_17 F st aN aF nN nF fN fF pN pF lN lF fu p0 v2 v3 v4) (fun u => (u.toInt = wm st lF j a' n' i ∧ v2.toInt ≤ u.toInt) ∨ (u.toInt = v2.toInt ∧ wm st lF j a' n' i ≤ u.toInt)) := by
    intro j
    induction j with
    | zero =>
      intro fu v2 v3 v4 a' n' i g1 g2 g3 g4 g5 g6 g7 g8 g9
      obtain ⟨fu, rfl⟩ : ∃ y, fu = y + 1 := ⟨fu - 1, by omega⟩
      simp only [f_Side_widthFor_17, g_Side_widthFor_17, clamp_eq, eb]
      refine ok_in (by omega) (ok_v ?_)
      refine ok_in (by omega) (ok_v ?_)
      refine ok_add (by omega) (fun x19 e19 => ?_)
      refine ok_le (fun c => ok_s ?_) (fun c => by omega)
      try dsimp only
      exact Or.inr ⟨rfl, by show (0 : Int) ≤ _; omega⟩
    | succ j ih =>
      intro fu v2 v3 v4 a' n' i g1 g2 g3 g4 g5 g6 g7 g8 g9
      obtain ⟨fu, rfl⟩ : ∃ y, fu = y + 1 := ⟨fu - 1, by omega⟩
      obtain ⟨h1, h3, h4, h5⟩ := pcs_sp g2
      have hli := hl i (by omega) (by omega)
      have n16 : nb (lF i).toInt.toNat ≤ 16 := nb_le (by omega)
      have ei : v4.toInt.toNat = i := by omega
      simp only [f_Side_widthFor_17, g_Side_widthFor_17, clamp_eq, eb, ei]
      refine ok_in (by omega) (ok_v ?_)
      refine ok_in (by omega) (ok_v ?_)
      refine ok_add (by omega) (fun x19 e19 => ?_)
      refine ok_le (fun c => by omega) (fun c => ?_)
      refine ok_in (by omega) (ok_v ?_)
      refine ok_in (by omega) (ok_v ?_)
      refine ok_add (by omega) (fun x22 e22 => ?_)
      refine ok_bm (w_passesOfPiece hF (by omega)) (fun u23 e23 => ?_)
      rw [show v3.toInt.toNat = a' by omega, show (x22.toInt - v3.toInt).toNat = n' by omega] at e23
      refine ok_in (by omega) (ok_v ?_)
      refine ok_bm (w_bitsOf hF (by omega)) (fun u25 e25 => ?_)
      refine ok_bm (w_logOf hF (by omega)) (fun u26 e26 => ?_)
      rw [show u23.toInt.toNat = pl st a' n' by omega] at e26
      have n8 : nb (pl st a' n') ≤ 8 := nb_le (by omega)
      have n1 := nb_pos h3
      refine ok_sub (by omega) (fun x27 e27 => ?_)
      refine ok_max (fun x28 e28 => ?_)
      refine ok_add (by omega) (fun x29 e29 => ?_)
      refine ok_add (by omega) (fun x30 e30 => ?_)
      refine ok_m (ih fu x28 x29 x30 (a' + pl st a' n') (n' - pl st a' n') (i + 1) (by omega) h5 (by omega) (by omega) (by omega) (by omega) (by omega) (by omega) (by omega)) (fun u hu => ?_)
      have := wm_s st lF j a' n' i
      omega
  simp only [f_Side_widthFor, clamp_eq, eb]
  refine ok_in (by omega) (ok_l (fun x31 e31 => ?_))
  refine ok_in (by omega) (ok_l (fun x32 e32 => ?_))
  refine ok_m (key pc F 0 x31 x32 a n fr (by omega) h2.2.1 rfl rfl (by omega) (by rw [e31]; omega) (by rw [e32]; omega) (by omega) (by omega)) (fun u hu => ?_)
  have := wm_le h2.2.1 hl
  omega
/-- a piece of the reference -/
def PieceAt (o l : Nat → Int32) (b : Int) (i : Nat) (v : Int32) : Prop := ∃ p, p < 8200 ∧ (o p).toInt = b ∧ cnt o b p = i ∧ l p = v
theorem PieceAt.of {F : Nat} (hF : 1000000 ≤ F) {o l : Nat → Int32} {b i : Int32} {k : Nat} {v : Int32} (h : PieceAt o l b.toInt k v) (hi : i.toInt = k) : Ok (f_Mo_lengthOf F 8200 o 8200 l b i) (fun u => u = v) := by
  obtain ⟨p, h1, h2, h3, h4⟩ := h
  exact ok_m (w_Mo_lengthOf hF ⟨h1, h1, by omega⟩ h2 (by rw [hi, h3])) (fun u hu => by rw [hu, h4])
theorem w_growth {F : Nat} (hF : 1000000 ≤ F) {st p0 : Int32} {b a n fr pc : Nat} {cF tF bF wF oF LF lF : Nat → Int32} {wd : Nat} (hb : p0.toInt = b ∧ b < 2048) (ha : (cF b).toInt = a) (hn : (bF b).toInt = n) (ht : (tF b).toInt = pc) (hw : (wF b).toInt = wd ∧ wd ≤ 32) (h2 : a + n ≤ 200 ∧ pcs st a n = pc) (hl : ∀ k, fr ≤ k → k < fr + pc → 0 ≤ (lF k).toInt ∧ (lF k).toInt ≤ 65535) (hL : ∀ k, k < pc → PieceAt oF LF b k (lF (fr + k))) :
    Ok (f_Mo_growth F st 2048 cF 2048 tF 2048 bF 2048 wF 8200 oF 8200 LF p0) (fun u => 0 ≤ u.toInt ∧ ((u.toInt + wd = wm st lF pc a n fr) ∨ (u.toInt = 0 ∧ wm st lF pc a n fr ≤ wd))) := by
  have L := lits
  have l17 : (17 : Int32).toInt = 17 := by decide
  have hpc := pcs_le st n a
  have eb : p0.toInt.toNat = b := by omega
  have inner : ∀ (rec12 : Int32 → Int32 → Int32 → Int32 → Option Int32) (P : Int32 → Prop) (v3 v4 v5 : Int32) (k pz : Nat), v4.toInt = k → k < pc → v5.toInt = pz → 0 < pz → pz ≤ 200 → 0 ≤ v3.toInt → v3.toInt ≤ 1000 →
      ∀ (fu : Nat) (v2 : Int32), 0 ≤ v2.toInt → v2.toInt ≤ 40 → 40 < v2.toInt + fu → (∀ (u x20 x21 : Int32), ((u.toInt + wd = (nb (lF (fr + k)).toInt.toNat : Int) - (nb pz - 1) ∧ v2.toInt ≤ u.toInt) ∨ (u.toInt = v2.toInt ∧ (nb (lF (fr + k)).toInt.toNat : Int) - (nb pz - 1) ≤ u.toInt + wd)) → x20.toInt = v3.toInt + pz → x21.toInt = (k : Int) + 1 → Ok (rec12 p0 u x20 x21) P) → Ok (f_Mo_growth_43 F rec12 2048 wF 8200 oF 8200 LF fu p0 v2 v3 v4 v5) P := by
    intro rec12 P v3 v4 v5 k pz g1 g2 g3 g4 g5 g6 g7 fu
    have hlk := hl (fr + k) (by omega) (by omega)
    have n16 : nb (lF (fr + k)).toInt.toNat ≤ 16 := nb_le (by omega)
    have n8 : nb pz ≤ 8 := nb_le (by omega)
    have n1 := nb_pos g4
    have e5 : v5.toInt.toNat = pz := by omega
    induction fu with
    | zero => intro v2 q1 q2 q3; omega
    | succ fu ih =>
      intro v2 q1 q2 q3 hrec
      simp only [f_Mo_growth_43, g_Mo_growth_43, g_Mo_growth_93, clamp_eq, eb]
      refine ok_in (by omega) (ok_v ?_)
      refine ok_add (by omega) (fun x23 e23 => ?_)
      refine ok_bm (w_Mo_log hF (by omega)) (fun u24 e24 => ?_)
      rw [e5] at e24
      refine ok_add (by omega) (fun x25 e25 => ?_)
      refine ok_le (fun c => ?_) (fun c => ?_)
      · refine ok_add (by omega) (fun x20 e20 => ?_)
        refine ok_add (by omega) (fun x21 e21 => ?_)
        exact hrec v2 x20 x21 (Or.inr ⟨rfl, by omega⟩) (by omega) (by omega)
      · refine ok_bm (PieceAt.of hF (by rw [hb.1]; exact hL k g2) g1) (fun u26 e26 => ?_)
        subst e26
        refine ok_in (by omega) (ok_v ?_)
        refine ok_add (by omega) (fun x28 e28 => ?_)
        refine ok_bm (w_Mo_log hF (by omega)) (fun u29 e29 => ?_)
        rw [e5] at e29
        refine ok_add (by omega) (fun x30 e30 => ?_)
        refine ok_l (fun x31 e31 => ?_)
        have hs := shr_pos (x := lF (fr + k)) (k := x30) (by omega) (by omega)
        rw [← e31] at hs
        refine ok_le (fun c1 => ?_) (fun c1 => ?_)
        · refine ok_add (by omega) (fun x20 e20 => ?_)
          refine ok_add (by omega) (fun x21 e21 => ?_)
          exact hrec v2 x20 x21 (Or.inr ⟨rfl, by omega⟩) (by omega) (by omega)
        · refine ok_add (by omega) (fun x32 e32 => ?_)
          have hs2 := hs.mp (by omega)
          refine ih x32 (by omega) (by omega) (by omega) (fun u x20 x21 hu => hrec u x20 x21 (by omega))
  have key : ∀ (j fu : Nat) (v2 v3 v4 : Int32) (a' n' k : Nat), j < fu → pcs st a' n' = j → a' + n' = a + n → k + j = pc → v3.toInt = a' → v4.toInt = k → 0 ≤ v2.toInt → v2.toInt ≤ 16 → Ok (f_Mo_growth_12 F st 2048 cF 2048 tF 2048 bF 2048 wF 8200 oF 8200 LF fu p0 v2 v3 v4) (fun u => 0 ≤ u.toInt ∧ ((u.toInt + wd = wm st lF j a' n' (fr + k) ∧ v2.toInt ≤ u.toInt) ∨ (u.toInt = v2.toInt ∧ wm st lF j a' n' (fr + k) ≤ u.toInt + wd))) := by
    intro j
    induction j with
    | zero =>
      intro fu v2 v3 v4 a' n' k g1 g2 g3 g4 g5 g6 g7 g8
      obtain ⟨fu, rfl⟩ : ∃ y, fu = y + 1 := ⟨fu - 1, by omega⟩
      simp only [f_Mo_growth_12, g_Mo_growth_12, clamp_eq, eb]
      refine ok_in (by omega) (ok_v ?_)
      refine ok_le (fun c => ok_s ?_) (fun c => by omega)
      try dsimp only
      exact ⟨g7, Or.inr ⟨rfl, by show (0 : Int) ≤ _; omega⟩⟩
    | succ j ih =>
      intro fu v2 v3 v4 a' n' k g1 g2 g3 g4 g5 g6 g7 g8
      obtain ⟨fu, rfl⟩ : ∃ y, fu = y + 1 := ⟨fu - 1, by omega⟩
      obtain ⟨h1, h3, h4, h5⟩ := pcs_sp g2
      have hlk := hl (fr + k) (by omega) (by omega)
      have n16 : nb (lF (fr + k)).toInt.toNat ≤ 16 := nb_le (by omega)
      have n1 := nb_pos h3
      simp only [f_Mo_growth_12, g_Mo_growth_12, clamp_eq, eb]
      refine ok_in (by omega) (ok_v ?_)
      refine ok_le (fun c => by omega) (fun c => ?_)
      refine ok_in (by omega) (ok_v ?_)
      refine ok_in (by omega) (ok_v ?_)
      refine ok_add (by omega) (fun x36 e36 => ?_)
      refine ok_bm (w_Mo_fp hF (by omega)) (fun u37 e37 => ?_)
      rw [show v3.toInt.toNat = a' by omega, show (x36.toInt - v3.toInt).toNat = n' by omega] at e37
      refine inner _ _ v3 v4 u37 k (pl st a' n') g6 (by omega) e37 h3 (by omega) (by omega) (by omega) F v2 g7 (by omega) (by omega) (fun u x20 x21 hu e20 e21 => ?_)
      refine ok_m (ih fu u x20 x21 (a' + pl st a' n') (n' - pl st a' n') (k + 1) (by omega) h5 (by omega) (by omega) (by omega) (by omega) (by omega) (by omega)) (fun z hz => ?_)
      have := wm_s st lF j a' n' (fr + k)
      rw [show fr + (k + 1) = fr + k + 1 by omega] at hz
      omega
  simp only [f_Mo_growth, clamp_eq, eb]
  refine ok_in (by omega) (ok_l (fun x38 e38 => ?_))
  refine ok_m (key pc F 0 x38 0 a n 0 (by omega) h2.2 rfl (by omega) (by rw [e38]; omega) (by omega) (by omega) (by omega)) (fun u hu => ?_)
  rw [Nat.add_zero] at hu
  omega
