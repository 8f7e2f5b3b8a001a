/-! Making places for the pieces. -/
def sumI (f : Nat → Int32) : Nat → Int
  | 0 => 0
  | n + 1 => sumI f n + (f n).toInt
theorem sumI_s (f : Nat → Int32) (n : Nat) : sumI f (n + 1) = sumI f n + (f n).toInt := rfl
theorem sumI_congr {f g : Nat → Int32} : ∀ {n : Nat}, (∀ x, x < n → f x = g x) → sumI f n = sumI g n := by
  intro n
  induction n with
  | zero => intro _; rfl
  | succ n ih => intro h; rw [sumI_s, sumI_s, ih (fun x hx => h x (by omega)), h n (by omega)]
theorem sumI_upd {f : Nat → Int32} {x : Nat} {v : Int32} : ∀ {n : Nat}, x < n → sumI (upd f x v) n = sumI f n - (f x).toInt + v.toInt := by
  intro n
  induction n with
  | zero => intro h; omega
  | succ n ih =>
    intro h
    rw [sumI_s, sumI_s]
    by_cases e : x = n
    · subst e
      rw [upd_is, sumI_congr (f := upd f x v) (g := f) (fun y hy => upd_no (by omega))]
      omega
    · rw [upd_no (by omega), ih (by omega)]
      omega
theorem sumI_le {f g : Nat → Int32} : ∀ {n : Nat}, (∀ x, x < n → (f x).toInt ≤ (g x).toInt) → sumI f n ≤ sumI g n := by
  intro n
  induction n with
  | zero => intro _; exact Int.le_refl _
  | succ n ih =>
    intro h
    rw [sumI_s, sumI_s]
    have := ih (fun x hx => h x (by omega))
    have := h n (by omega)
    omega
theorem sumI_0 {f : Nat → Int32} : ∀ {n : Nat}, (∀ x, x < n → (f x).toInt = 0) → sumI f n = 0 := by
  intro n
  induction n with
  | zero => intro _; rfl
  | succ n ih =>
    intro h
    rw [sumI_s, ih (fun x hx => h x (by omega)), h n (by omega)]
    rfl
theorem sumI_ge {f : Nat → Int32} {x : Nat} : ∀ {n : Nat}, (∀ x, x < n → 0 ≤ (f x).toInt) → 0 ≤ sumI f n ∧ (x < n → (f x).toInt ≤ sumI f n) := by
  intro n
  induction n with
  | zero => intro _; exact ⟨Int.le_refl _, fun h => absurd h (Nat.not_lt_zero _)⟩
  | succ n ih =>
    intro h
    rw [sumI_s]
    have h1 := ih (fun x hx => h x (by omega))
    have h2 := h n (by omega)
    try dsimp only
    refine ⟨by omega, fun hx => ?_⟩
    by_cases e : x = n
    · subst e; omega
    · have := h1.2 (by omega); omega
def LI (nb : Nat) (lc : Int) (fF pF : Nat → Int32) : Prop :=
  (∀ b, b < nb → 0 ≤ (pF b).toInt ∧ -4096 ≤ (fF b).toInt ∧ (fF b).toInt ≤ 4096 ∧ (0 < (pF b).toInt → 0 ≤ (fF b).toInt ∧ (fF b).toInt + (pF b).toInt ≤ lc)) ∧ (∀ b b', b < nb → b' < nb → ¬ b = b' → 0 < (pF b).toInt → 0 < (pF b').toInt → (fF b).toInt + (pF b).toInt ≤ (fF b').toInt ∨ (fF b').toInt + (pF b').toInt ≤ (fF b).toInt) ∧ sumI pF nb = lc ∧ 0 ≤ lc ∧ lc ≤ 4096
theorem w_blocks {F : Nat} {count : Int32} {bN nb m : Nat} {bF : Nat → Int32} (h : count.toInt = m ∧ m < bN) (hb : (bF m).toInt = nb) : Ok (f_Bands_blocks F count bN bF) (fun u => u.toInt = nb) := by
  simp only [f_Bands_blocks, clamp_eq]
  refine ok_in (by omega) (ok_v (ok_s ?_))
  rw [show count.toInt.toNat = m by omega]
  exact hb
theorem w_lift {F : Nat} (hF : 1000000 ≤ F) {lc count p0 : Int32} {bN fN pN lN nb m b : Nat} {bF fF pF lF : Nat → Int32} (hm : count.toInt = m ∧ m < bN) (hnb : (bF m).toInt = nb) (hb : p0.toInt = b ∧ b < nb ∧ nb ≤ fN ∧ nb ≤ pN ∧ nb ≤ 1024) (hI : LI nb lc.toInt fF pF) (hl : lc.toInt ≤ lN ∧ lN ≤ 8192) :
    Ok (f_Side_lift F lc count bN bF fN fF pN pF lN lF p0) (fun u => u.1.toInt = lc.toInt - (pF b).toInt ∧ (∀ o, o < nb → (u.2.1 o).toInt = if 0 < (pF b).toInt ∧ (fF b).toInt < (fF o).toInt then (fF o).toInt - (pF b).toInt else (fF o).toInt) ∧ (∀ j : Nat, ((pF b).toInt = 0 ∨ (j : Int) < (fF b).toInt) → u.2.2 j = lF j) ∧ (∀ j : Nat, 0 < (pF b).toInt → (fF b).toInt ≤ j → (j : Int) < lc.toInt - (pF b).toInt → u.2.2 j = lF (j + (pF b).toInt.toNat))) := by
  have L := lits
  have eb : p0.toInt.toNat = b := by omega
  obtain ⟨i1, i2, i3, i4⟩ := hI
  have ib := i1 b hb.2.1
  simp only [f_Side_lift, clamp_eq, eb]
  refine ok_in (by omega) (ok_l (fun x17 e17 => ?_))
  have h17 : x17.toInt = (pF b).toInt := by rw [e17]
  refine ok_eq (fun c1 => ok_s ?_) (fun c1 => ?_)
  · try dsimp only
    refine ⟨by omega, fun o ho => ?_, fun _ _ => rfl, fun j h1 => by omega⟩
    rw [if_neg (by omega)]
  · refine ok_in (by omega) (ok_l (fun x18 e18 => ?_))
    have h18 : x18.toInt = (fF b).toInt := by rw [e18]
    refine ok_add (by omega) (fun x19 e19 => ?_)
    refine ok_sub (by omega) (fun x20 e20 => ?_)
    refine ok_sub (by omega) (fun x21 e21 => ?_)
    refine ok_a ⟨by rw [Int32.lt_iff_toInt_lt]; omega, by rw [Int32.lt_iff_toInt_lt]; omega, by rw [Int32.lt_iff_toInt_lt]; omega, by omega, by omega, fun _ _ => rfl⟩ ?_
    refine ok_sub (by omega) (fun x22 e22 => ?_)
    have key : ∀ (n : Nat) (fF1 : Nat → Int32) (v4 : Int32) (lF1 : Nat → Int32), 0 ≤ v4.toInt → v4.toInt ≤ nb → nb < v4.toInt + n → (∀ o : Nat, o < nb → v4.toInt ≤ o → fF1 o = fF o) → (∀ o : Nat, (o : Int) < v4.toInt → (fF1 o).toInt = if (fF b).toInt < (fF o).toInt then (fF o).toInt - (pF b).toInt else (fF o).toInt) → Ok (f_Side_lift_55 F count bN bF fN n x22 fF1 lF1 x17 x18 v4) (fun u => u.1 = x22 ∧ (∀ o, o < nb → (u.2.1 o).toInt = if (fF b).toInt < (fF o).toInt then (fF o).toInt - (pF b).toInt else (fF o).toInt) ∧ u.2.2 = lF1) := by
      intro n
      induction n with
      | zero => intro fF1 v4 lF1 g1 g2 g3; omega
      | succ n ih =>
        intro fF1 v4 lF1 g1 g2 g3 g4 g5
        simp only [f_Side_lift_55, g_Side_lift_55, g_Side_lift_89, clamp_eq]
        refine ok_bm (w_blocks hm hnb) (fun u13 e13 => ?_)
        refine ok_le (fun c2 => ok_s ⟨rfl, fun o ho => g5 o (by omega), rfl⟩) (fun c2 => ?_)
        refine ok_in (by omega) (ok_l (fun x14 e14 => ?_))
        have eo := g4 v4.toInt.toNat (by omega) (by omega)
        have h14 : x14.toInt = (fF v4.toInt.toNat).toInt := by rw [e14, eo]
        have io := i1 v4.toInt.toNat (by omega)
        refine ok_le (fun c3 => ?_) (fun c3 => ?_)
        · refine ok_add (by omega) (fun x12 e12 => ?_)
          refine ih fF1 x12 lF1 (by omega) (by omega) (by omega) (fun o ho h => g4 o ho (by omega)) (fun o ho => ?_)
          by_cases q : o = v4.toInt.toNat
          · subst q; rw [if_neg (by omega), eo]
          · exact g5 o (by omega)
        · refine ok_in (by omega) (ok_l (fun x15 e15 => ?_))
          have h15 : x15.toInt = (fF v4.toInt.toNat).toInt := by rw [e15, eo]
          refine ok_sub (by omega) (fun x16 e16 => ?_)
          refine ok_in (by omega) ?_
          refine ok_add (by omega) (fun x12 e12 => ?_)
          refine ih _ x12 lF1 (by omega) (by omega) (by omega) (fun o ho h => by rw [upd_no (by omega)]; exact g4 o ho (by omega)) (fun o ho => ?_)
          by_cases q : o = v4.toInt.toNat
          · subst q; rw [upd_is, if_pos (by omega)]; omega
          · rw [upd_no q]; exact g5 o (by omega)
    refine ok_m (key F fF 0 _ (by omega) (by omega) (by omega) (fun _ _ _ => rfl) (fun o ho => by omega)) (fun u hu => ?_)
    obtain ⟨u1, u2, u3⟩ := hu
    try dsimp only
    refine ⟨by rw [u1]; omega, fun o ho => ?_, fun j hj => ?_, fun j h1 h2 h3 => ?_⟩
    · rw [u2 o ho]
      by_cases q : (fF b).toInt < (fF o).toInt
      · rw [if_pos q, if_pos ⟨by omega, q⟩]
      · rw [if_neg q, if_neg (fun z => q z.2)]
    · rw [u3, pk_cpy_out (by omega)]
    · rw [u3, pk_cpy_in (by omega) (by omega)]
      congr 1
      omega
set_option maxHeartbeats 1000000 in
theorem w_lay {F : Nat} (hF : 1000000 ≤ F) {lc count st p0 p1 : Int32} {bN aN nN fN pN tN lN nb m b a n : Nat} {bF aF nF fF pF tF lF : Nat → Int32} (hm : count.toInt = m ∧ m < bN) (hnb : (bF m).toInt = nb) (hb : p0.toInt = b ∧ b < nb ∧ nb ≤ aN ∧ nb ≤ nN ∧ nb ≤ fN ∧ nb ≤ pN ∧ nb ≤ tN ∧ nb ≤ 1024) (ha : (aF b).toInt = a) (hn : p1.toInt = n) (hs : a + n ≤ 200) (hI : LI nb lc.toInt fF pF) (hl : lc.toInt ≤ lN ∧ 16 ≤ lN ∧ lN ≤ 8192) :
    Ok (f_Side_lay F lc count st bN bF aN aF nN nF fN fF pN pF tN tF lN lF p0 p1) (fun u => (4096 < lc.toInt - (pF b).toInt + pcs st a n ∧ u = (0, 0, 0, lc, nF, fF, pF, tF, lN, lF)) ∨
      (lc.toInt - (pF b).toInt + pcs st a n ≤ 4096 ∧ u.2.2.1.toInt = 1 ∧ u.2.2.2.1.toInt = lc.toInt - (pF b).toInt + pcs st a n ∧ u.2.2.2.2.1 = upd nF b p1 ∧ u.2.2.2.2.2.2.2.1 = upd tF b 0 ∧ (∃ pv : Int32, pv.toInt = pcs st a n ∧ u.2.2.2.2.2.2.1 = upd pF b pv) ∧ (u.2.2.2.2.2.1 b).toInt = lc.toInt - (pF b).toInt ∧ LI nb u.2.2.2.1.toInt u.2.2.2.2.2.1 u.2.2.2.2.2.2.1 ∧
       (∀ o, o < nb → ¬ o = b → ∀ i, i < (pF o).toInt.toNat → u.2.2.2.2.2.2.2.2.2 ((u.2.2.2.2.2.1 o).toInt.toNat + i) = lF ((fF o).toInt.toNat + i)) ∧ 16 * u.1 + lN ≤ u.2.2.2.2.2.2.2.2.1 ∧ u.2.1 + 2 * lN ≤ 2 * u.2.2.2.2.2.2.2.2.1 ∧ u.2.2.2.1.toInt ≤ u.2.2.2.2.2.2.2.2.1 ∧ u.2.2.2.2.2.2.2.2.1 ≤ 8192)) := by
  have L := lits
  have l4096 : (4096 : Int32).toInt = 4096 := by decide
  have eb : p0.toInt.toNat = b := by omega
  have hpc := pcs_le st n a
  have hI0 := hI
  obtain ⟨i1, i2, i3, i4⟩ := hI
  have ib := i1 b hb.2.1
  simp only [f_Side_lay, clamp_eq, eb]
  refine ok_in (by omega) (ok_v ?_)
  refine ok_in (by omega) (ok_v ?_)
  refine ok_add (by omega) (fun x17 e17 => ?_)
  refine ok_bm (w_piecesOf hF (by omega)) (fun u18 e18 => ?_)
  rw [ha, show ((a : Int)).toNat = a by omega, show (x17.toInt - (a : Int)).toNat = n by omega] at e18
  refine ok_in (by omega) (ok_v ?_)
  refine ok_sub (by omega) (fun x20 e20 => ?_)
  refine ok_add (by omega) (fun x21 e21 => ?_)
  refine ok_le (fun c1 => ?_) (fun c1 => ok_s (Or.inl ⟨by omega, rfl⟩))
  refine ok_bm (w_lift hF hm hnb ⟨hb.1, hb.2.1, hb.2.2.2.2.1, hb.2.2.2.2.2.1, hb.2.2.2.2.2.2.2⟩ hI0 ⟨hl.1, hl.2.2⟩) (fun u22 e22 => ?_)
  obtain ⟨y1, y2, y3, y4⟩ := e22
  refine ok_add (by omega) (fun x23 e23 => ?_)
  refine ok_bm (w_withRoom 4096 (by omega)) (fun u24 e24 => ?_)
  obtain ⟨r1, r2, r3, r4, r5⟩ := e24
  refine ok_c ?_
  refine ok_in (by omega) (ok_in (by omega) (ok_in (by omega) (ok_in (by omega) ?_)))
  refine ok_add (by omega) (fun x28 e28 => ok_s (Or.inr ?_))
  dsimp only
  have fo : ∀ o, o < nb → ¬ o = b → (upd u22.2.1 b u22.1 o).toInt = if 0 < (pF b).toInt ∧ (fF b).toInt < (fF o).toInt then (fF o).toInt - (pF b).toInt else (fF o).toInt := fun o ho hob => by rw [upd_no hob]; exact y2 o ho
  try dsimp only
  refine ⟨by omega, L.2.2.1, by omega, rfl, rfl, ⟨u18, e18, rfl⟩, by rw [upd_is]; omega, ⟨?_, ?_, ?_, by omega, by omega⟩, ?_, by omega, by omega, by omega, by omega⟩
  · intro o ho
    by_cases q : o = b
    · subst q; rw [upd_is, upd_is]; omega
    · have f1 := fo o ho q
      have f2 := i1 o ho
      rw [upd_no q (f := pF)]
      by_cases q2 : 0 < (pF b).toInt ∧ (fF b).toInt < (fF o).toInt
      · rw [if_pos q2] at f1
        try dsimp only
        refine ⟨by omega, by omega, by omega, fun h0 => ?_⟩
        have := i2 b o hb.2.1 ho (fun z => q z.symm) q2.1 h0
        omega
      · rw [if_neg q2] at f1
        try dsimp only
        refine ⟨by omega, by omega, by omega, fun h0 => ?_⟩
        by_cases q3 : 0 < (pF b).toInt
        · have := i2 b o hb.2.1 ho (fun z => q z.symm) q3 h0
          omega
        · omega
  · intro o o' ho ho' hne h0 h0'
    by_cases q : o = b
    · subst q
      have hq' : ¬ o' = o := fun z => hne z.symm
      rw [upd_is] at h0 ⊢
      rw [upd_no hq'] at h0'
      rw [upd_is, upd_no hq' (f := pF)]
      have f1 := fo o' ho' hq'
      have f2 := i1 o' ho'
      by_cases q2 : 0 < (pF o).toInt ∧ (fF o).toInt < (fF o').toInt
      · rw [if_pos q2] at f1
        have := i2 o o' ho ho' hne q2.1 h0'
        omega
      · rw [if_neg q2] at f1
        by_cases q3 : 0 < (pF o).toInt
        · have := i2 o o' ho ho' hne q3 h0'
          omega
        · omega
    · by_cases q' : o' = b
      · subst q'
        rw [upd_is] at h0' ⊢
        rw [upd_no q] at h0
        rw [upd_is, upd_no q (f := pF)]
        have f1 := fo o ho q
        have f2 := i1 o ho
        by_cases q2 : 0 < (pF o').toInt ∧ (fF o').toInt < (fF o).toInt
        · rw [if_pos q2] at f1
          have := i2 o' o ho' ho (fun z => hne z.symm) q2.1 h0
          omega
        · rw [if_neg q2] at f1
          by_cases q3 : 0 < (pF o').toInt
          · have := i2 o' o ho' ho (fun z => hne z.symm) q3 h0
            omega
          · omega
      · rw [upd_no q] at h0
        rw [upd_no q'] at h0'
        rw [upd_no q (f := pF), upd_no q' (f := pF)]
        have f1 := fo o ho q
        have f1' := fo o' ho' q'
        have f3 := i2 o o' ho ho' hne h0 h0'
        by_cases q3 : 0 < (pF b).toInt
        · have f4 := i2 b o hb.2.1 ho (fun z => q z.symm) q3 h0
          have f5 := i2 b o' hb.2.1 ho' (fun z => q' z.symm) q3 h0'
          by_cases q2 : (fF b).toInt < (fF o).toInt
          · rw [if_pos ⟨q3, q2⟩] at f1
            by_cases q2' : (fF b).toInt < (fF o').toInt
            · rw [if_pos ⟨q3, q2'⟩] at f1'; omega
            · rw [if_neg (fun z => q2' z.2)] at f1'; omega
          · rw [if_neg (fun z => q2 z.2)] at f1
            by_cases q2' : (fF b).toInt < (fF o').toInt
            · rw [if_pos ⟨q3, q2'⟩] at f1'; omega
            · rw [if_neg (fun z => q2' z.2)] at f1'; omega
        · rw [if_neg (fun z => q3 z.1)] at f1 f1'; omega
  · rw [sumI_upd hb.2.1, i3]; omega
  · intro o ho hob i hi
    have f1 := fo o ho hob
    have f2 := i1 o ho
    have f3 := f2.2.2.2 (by omega)
    by_cases q3 : 0 < (pF b).toInt
    · have f4 := i2 b o hb.2.1 ho (fun z => hob z.symm) q3 (by omega)
      by_cases q2 : (fF b).toInt < (fF o).toInt
      · rw [if_pos ⟨q3, q2⟩] at f1
        rw [r5 _ (by omega), y4 _ q3 (by omega) (by omega)]
        congr 1
        omega
      · rw [if_neg (fun z => q2 z.2)] at f1
        rw [r5 _ (by omega), y3 _ (Or.inr (by omega)), f1]
    · rw [if_neg (fun z => q3 z.1)] at f1
      rw [r5 _ (by omega), y3 _ (Or.inl (by omega)), f1]
