/-! The reference's small methods. -/
theorem w_Mo_out {F : Nat} {v a b : Int32} : Ok (f_Mo_out F v a b) (fun u => (u.toInt = 1 ∧ (v.toInt < a.toInt ∨ b.toInt < v.toInt)) ∨ (u.toInt = 0 ∧ a.toInt ≤ v.toInt ∧ v.toInt ≤ b.toInt)) := by
  have L := lits
  simp only [f_Mo_out, g_Mo_out_10, g_Mo_out_15]
  refine ok_lt (fun hc => ok_a (by rfl) (ok_s (by omega))) (fun hc => ?_)
  exact ok_le (fun hc => ok_a (by rfl) (ok_s (by omega))) (fun hc => ok_a (by rfl) (ok_s (by omega)))
theorem w_Mo_throwing {F : Nat} {t a b c : Int32} : Ok (f_Mo_throwing F t a b c) (fun u => (¬ a.toInt = 0 ∧ u.1.toInt = 1 ∧ u.2.toInt = 1) ∨ (a.toInt = 0 ∧ ¬ b.toInt = 0 ∧ u.1.toInt = 1 ∧ u.2.toInt = 2) ∨ (a.toInt = 0 ∧ b.toInt = 0 ∧ ¬ c.toInt = 0 ∧ u.1.toInt = 1 ∧ u.2.toInt = 3) ∨ (a.toInt = 0 ∧ b.toInt = 0 ∧ c.toInt = 0 ∧ u.1.toInt = 0 ∧ u.2.toInt = 0)) := by
  have L := lits
  simp only [f_Mo_throwing, g_Mo_throwing_26, g_Mo_throwing_41]
  repeat' (first
    | refine ok_a (by rfl) ?_
    | (refine ok_le (fun hc => ?_) (fun hc => ?_) <;> try (exfalso; omega))
    | (refine ok_eq (fun hc => ?_) (fun hc => ?_) <;> try (exfalso; omega))
    | refine ok_s ?_)
  all_goals (dsimp only; omega)
theorem w_Mo_eb {F : Nat} {st p : Int32} (hp : 0 ≤ p.toInt) : Ok (f_Mo_endsBehind F st p) (fun u => (u.toInt = 1 ∧ ends st p.toInt.toNat = true) ∨ (u.toInt = 0 ∧ ends st p.toInt.toNat = false)) := by
  have L := lits
  simp only [f_Mo_endsBehind, g_Mo_endsBehind_32, g_Mo_endsBehind_45, g_Mo_endsBehind_49, g_Mo_endsBehind_50]
  obtain ⟨q, hq⟩ : ∃ q : Nat, (q : Int) = p.toInt := ⟨p.toInt.toNat, by omega⟩
  rw [show p.toInt.toNat = q from by omega]
  unfold ends
  refine ok_l (fun x6 h6 => ?_)
  refine ok_eq (fun c6 => ?_) (fun c6 => ?_)
  · have e6 : (st &&& 4) = 0 := by rw [← h6]; exact ti_ofI c6
    rw [e6]
    refine ok_l (fun x7 h7 => ?_)
    refine ok_eq (fun c7 => ?_) (fun c7 => ?_)
    · have e7 : (st &&& 1) = 0 := by rw [← h7]; exact ti_ofI c7
      rw [e7]
      exact ok_a (by rfl) (ok_s (Or.inr ⟨by omega, by simp⟩))
    · have e7 : ((st &&& 1) == 0) = false := by rw [← h7]; exact beq_false_of_ne (fun e => c7 (by rw [e]))
      rw [e7]
      refine ok_le (fun c8 => ?_) (fun c8 => ?_)
      · refine ok_le (fun c9 => ?_) (fun c9 => ?_)
        · refine ok_a (by rfl) (ok_s (Or.inr ⟨by omega, ?_⟩))
          simp; omega
        · omega
      · refine ok_rem3 (by omega) (fun x hx => ?_)
        refine ok_eq (fun c9 => ?_) (fun c9 => ?_)
        · refine ok_a (by rfl) (ok_s (Or.inl ⟨by omega, ?_⟩))
          simp; omega
        · refine ok_le (fun c10 => ?_) (fun c10 => ?_)
          · refine ok_a (by rfl) (ok_s (Or.inr ⟨by omega, ?_⟩))
            simp; omega
          · refine ok_rem3 (by omega) (fun y hy => ?_)
            refine ok_eq (fun c11 => ?_) (fun c11 => ?_)
            · refine ok_a (by rfl) (ok_s (Or.inl ⟨by omega, ?_⟩))
              simp; omega
            · refine ok_a (by rfl) (ok_s (Or.inr ⟨by omega, ?_⟩))
              simp; omega
  · have e6 : ((st &&& 4) == 0) = false := by rw [← h6]; exact beq_false_of_ne (fun e => c6 (by rw [e]))
    rw [e6]
    exact ok_s (Or.inl ⟨by omega, by simp⟩)
theorem w_Mo_fp {F : Nat} (hF : 1000000 ≤ F) {st p e : Int32} (h : 0 ≤ p.toInt ∧ p.toInt < e.toInt ∧ e.toInt ≤ 1000) : Ok (f_Mo_firstPiece F st p e) (fun u => u.toInt = pl st p.toInt.toNat (e.toInt - p.toInt).toNat) := by
  have L := lits
  have key : ∀ (n : Nat) (k : Int32) (a m : Nat), (a : Int) = k.toInt → (m : Int) + 1 = e.toInt - k.toInt → p.toInt ≤ k.toInt → m < n → Ok (f_Mo_firstPiece_2 F st n p e k) (fun u => u.toInt = k.toInt - p.toInt + pl st a (m + 1)) := by
    intro n
    induction n with
    | zero => intro k a m h1 h2 h3 h4; omega
    | succ n ih =>
      intro k a m h1 h2 h3 h4
      simp only [f_Mo_firstPiece_2, g_Mo_firstPiece_2, g_Mo_firstPiece_23]
      rw [pl_s]
      refine ok_sub (by omega) (fun x hx => ?_)
      refine ok_le (fun hc => ?_) (fun hc => ?_)
      · rw [if_pos (Or.inl (by omega))]
        refine ok_add (by omega) (fun y hy => ?_)
        exact ok_sub (by omega) (fun z hz => ok_s (by omega))
      · refine ok_bm (w_Mo_eb (by omega)) (fun u hu => ?_)
        rw [show k.toInt.toNat = a from by omega] at hu
        refine ok_eq (fun hc3 => ?_) (fun hc3 => ?_)
        · have e0 : ends st a = false := by rcases hu with q | q; · omega
                                            · exact q.2
          refine ok_add (by omega) (fun z hz => ?_)
          rw [if_neg (by rw [e0]; intro q; rcases q with q | q; · omega
                         · cases q)]
          obtain ⟨m', rfl⟩ : ∃ m', m = m' + 1 := ⟨m - 1, by omega⟩
          refine ok_m (ih z (a + 1) m' (by omega) (by omega) (by omega) (by omega)) (fun u hu => ?_)
          rw [hu]; omega
        · have e0 : ends st a = true := by rcases hu with q | q; · exact q.2
                                           · omega
          rw [if_pos (Or.inr e0)]
          refine ok_add (by omega) (fun y hy => ?_)
          exact ok_sub (by omega) (fun z hz => ok_s (by omega))
  obtain ⟨m, hm⟩ : ∃ m : Nat, (e.toInt - p.toInt).toNat = m + 1 := ⟨(e.toInt - p.toInt).toNat - 1, by omega⟩
  rw [hm]
  refine ok_m (key F p p.toInt.toNat m (by omega) (by omega) (by omega) (by omega)) (fun u hu => ?_)
  rw [hu]; omega
theorem w_Mo_pcs {F : Nat} (hF : 1000000 ≤ F) {st b n : Int32} {N : Nat} {came : Nat → Int32} (hb : 0 ≤ b.toInt ∧ b.toInt < N) (h : 0 ≤ (came b.toInt.toNat).toInt ∧ 0 ≤ n.toInt ∧ (came b.toInt.toNat).toInt + n.toInt ≤ 1000) : Ok (f_Mo_piecesOf F st N came b n) (fun u => u.toInt = pcs st (came b.toInt.toNat).toInt.toNat n.toInt.toNat) := by
  have L := lits
  generalize hc0 : came b.toInt.toNat = c0 at h
  have key : ∀ (k : Nat) (v w : Int32) (a m j : Nat), (a : Int) = v.toInt → (m : Int) = c0.toInt + n.toInt - v.toInt → w.toInt = j → j + m ≤ 1000 → m < k → Ok (f_Mo_piecesOf_10 F st N came k b n v w) (fun u => u.toInt = j + pcs st a m) := by
    intro k
    induction k with
    | zero => intro v w a m j h1 h2 h3 h4 h5; omega
    | succ k ih =>
      intro v w a m j h1 h2 h3 h4 h5
      simp only [f_Mo_piecesOf_10, g_Mo_piecesOf_10, clamp_eq]
      refine ok_in (by omega) ?_
      refine ok_rd (fun x hx => ?_)
      rw [hc0] at hx; subst hx
      refine ok_add (by omega) (fun y hy => ?_)
      refine ok_le (fun hc => ok_s ?_) (fun hc => ?_)
      · have : m = 0 := by omega
        subst this
        show w.toInt = j + ((0 : Nat) : Int)
        omega
      · refine ok_in (by omega) ?_
        refine ok_rd (fun x hx => ?_)
        rw [hc0] at hx; subst hx
        refine ok_add (by omega) (fun z hz => ?_)
        refine ok_bm (w_Mo_fp hF (by omega)) (fun u hu => ?_)
        rw [show v.toInt.toNat = a from by omega, show (z.toInt - v.toInt).toNat = m from by omega] at hu
        have p1 := pl_le st m a
        have p2 := pl_pos st m a (by omega)
        refine ok_add (by omega) (fun s hs => ?_)
        refine ok_add (by omega) (fun t ht => ?_)
        refine ok_m (ih s t (a + pl st a m) (m - pl st a m) (j + 1) (by omega) (by omega) (by omega) (by omega) (by omega)) (fun u hu => ?_)
        rw [hu, pcs_pl st m a (by omega)]
        omega
  simp only [f_Mo_piecesOf, clamp_eq]
  refine ok_in (by omega) ?_
  refine ok_rd (fun x hx => ?_)
  rw [hc0] at hx; rw [hx]
  refine ok_m (key F _ 0 _ _ 0 (by omega : ((c0.toInt.toNat : Nat) : Int) = _) (by omega : ((n.toInt.toNat : Nat) : Int) = _) (by omega) (by omega) (by omega)) (fun u hu => ?_)
  rw [hu]; omega
/-- the owners' counting -/
def cnt (o : Nat → Int32) (b : Int) : Nat → Nat
  | 0 => 0
  | k + 1 => cnt o b k + (if (o k).toInt = b then 1 else 0)
theorem cnt_s (o : Nat → Int32) (b : Int) (k : Nat) : cnt o b (k + 1) = cnt o b k + (if (o k).toInt = b then 1 else 0) := rfl
theorem cnt_le (o : Nat → Int32) (b : Int) : ∀ {k m : Nat}, k ≤ m → cnt o b k ≤ cnt o b m := by
  intro k m h
  induction h with
  | refl => exact Nat.le_refl _
  | step _ ih => rw [cnt_s]; omega
theorem cnt_k (o : Nat → Int32) (b : Int) (k : Nat) : cnt o b k ≤ k := by
  induction k with
  | zero => exact Nat.le_refl 0
  | succ k ih => rw [cnt_s]; split <;> omega
theorem cnt_congr {o o' : Nat → Int32} {b : Int} : ∀ {k : Nat}, (∀ j, j < k → o j = o' j) → cnt o b k = cnt o' b k := by
  intro k
  induction k with
  | zero => intro _; rfl
  | succ k ih => intro h; rw [cnt_s, cnt_s, ih (fun j hj => h j (by omega)), h k (by omega)]
theorem cnt_zero {o : Nat → Int32} {b : Int} : ∀ {k : Nat}, (∀ j, j < k → ¬ (o j).toInt = b) → cnt o b k = 0 := by
  intro k
  induction k with
  | zero => intro _; rfl
  | succ k ih => intro h; rw [cnt_s, ih (fun j hj => h j (by omega)), if_neg (h k (by omega))]
/-- the place of the i-th piece of b -/
theorem cnt_at {o : Nat → Int32} {b : Int} : ∀ {k i : Nat}, i < cnt o b k → ∃ p, p < k ∧ (o p).toInt = b ∧ cnt o b p = i := by
  intro k
  induction k with
  | zero => intro i h; exact absurd h (Nat.not_lt_zero i)
  | succ k ih =>
    intro i h
    rw [cnt_s] at h
    by_cases hi : i < cnt o b k
    · obtain ⟨p, h1, h2, h3⟩ := ih hi
      exact ⟨p, by omega, h2, h3⟩
    · by_cases hk : (o k).toInt = b
      · rw [if_pos hk] at h
        exact ⟨k, by omega, hk, by omega⟩
      · rw [if_neg hk] at h; omega
theorem w_Mo_lengthOf {F : Nat} (hF : 1000000 ≤ F) {N M : Nat} {o l : Nat → Int32} {b i : Int32} {p : Nat} (hp : p < N ∧ p < M ∧ p < 100000) (ho : (o p).toInt = b.toInt) (hi : i.toInt = cnt o b.toInt p) : Ok (f_Mo_lengthOf F N o M l b i) (fun u => u = l p) := by
  have L := lits
  have key : ∀ (n : Nat) (v w : Int32) (k : Nat), (k : Int) = w.toInt → k ≤ p → v.toInt = i.toInt - cnt o b.toInt k → p < k + n → Ok (f_Mo_lengthOf_5 F N o M l n b v w) (fun u => u = l p) := by
    intro n
    induction n with
    | zero => intro v w k h1 h2 h3 h4; omega
    | succ n ih =>
      intro v w k h1 h2 h3 h4
      have c1 := cnt_k o b.toInt k
      have c2 := cnt_k o b.toInt p
      have cs := cnt_s o b.toInt k
      have e : w.toInt.toNat = k := by omega
      have next : k < p → cnt o b.toInt (k + 1) ≤ cnt o b.toInt p := fun q => cnt_le o b.toInt q
      simp only [f_Mo_lengthOf_5, g_Mo_lengthOf_5, g_Mo_lengthOf_20, g_Mo_lengthOf_38, clamp_eq, e]
      refine ok_in (by omega) ?_
      refine ok_l (fun x hx => ?_)
      refine ok_eq (fun hc => ?_) (fun hc => ?_)
      · rw [hx] at hc
        rw [if_pos hc] at cs
        refine ok_le (fun hc2 => ?_) (fun hc2 => ?_)
        · have hkp : k = p := by
            rcases Nat.lt_or_ge k p with q | q
            · have := next q; omega
            · omega
          refine ok_in (by omega) ?_
          exact ok_l (fun y hy => ok_s (by rw [hy, hkp]))
        · refine ok_in (by omega) ?_
          refine ok_l (fun y hy => ?_)
          have hkp : k < p := by
            rcases Nat.lt_or_ge k p with q | q
            · exact q
            · have : k = p := by omega
              subst this; omega
          refine ok_eq (fun hc3 => ?_) (fun hc3 => ?_)
          · refine ok_sub (by omega) (fun z hz => ?_)
            refine ok_add (by omega) (fun t ht => ?_)
            exact ih z t (k + 1) (by omega) (by omega) (by omega) (by omega)
          · rw [hy, hc] at hc3; exact absurd rfl hc3
      · have hc' : ¬ (o k).toInt = b.toInt := by rw [← hx]; exact hc
        rw [if_neg hc'] at cs
        have hkp : k < p := by
          rcases Nat.lt_or_ge k p with q | q
          · exact q
          · have : k = p := by omega
            subst this; exact absurd ho hc'
        refine ok_in (by omega) ?_
        refine ok_l (fun y hy => ?_)
        refine ok_eq (fun hc3 => ?_) (fun hc3 => ?_)
        · rw [hy] at hc3; exact absurd hc3 hc'
        · refine ok_add (by omega) (fun t ht => ?_)
          exact ih v t (k + 1) (by omega) (by omega) (by omega) (by omega)
  simp only [f_Mo_lengthOf]
  exact key F i 0 0 (by omega) (by omega) (by show _ = i.toInt - ((0 : Nat) : Int); omega) (by omega)

theorem w_Mo_add {F N M T : Nat} {p b v : Int32} {o l t : Nat → Int32} (h : 0 ≤ p.toInt ∧ p.toInt < N ∧ p.toInt < M ∧ N ≤ 100000) (hb : 0 ≤ b.toInt ∧ b.toInt < T) (ht : 0 ≤ (t b.toInt.toNat).toInt ∧ (t b.toInt.toNat).toInt ≤ 100000) : Ok (f_Mo_add F p N o M l T t b v) (fun u => u.1.toInt = p.toInt + 1 ∧ u.2.1 = upd o p.toInt.toNat b ∧ u.2.2.1 = upd l p.toInt.toNat v ∧ (u.2.2.2 b.toInt.toNat).toInt = (t b.toInt.toNat).toInt + 1 ∧ ∀ j, ¬ j = b.toInt.toNat → u.2.2.2 j = t j) := by
  have L := lits
  simp only [f_Mo_add, clamp_eq]
  refine ok_in (by omega) (ok_in (by omega) ?_)
  refine ok_add (by omega) (fun x hx => ?_)
  refine ok_in (by omega) ?_
  refine ok_rd (fun y hy => ?_)
  rw [← hy] at ht ⊢
  refine ok_add (by omega) (fun z hz => ?_)
  refine ok_in (by omega) (ok_s ?_)
  dsimp only
  exact ⟨by omega, rfl, rfl, by rw [upd_is]; omega, fun j hj => upd_no hj⟩
/-- ceilings of halves -/
def hf (n l : Nat) : Nat := (n + 2 ^ l - 1) / 2 ^ l
theorem w_Mo_half {F : Nat} {n l : Int32} (hn : 0 ≤ n.toInt ∧ n.toInt ≤ 64) (hl : 0 ≤ l.toInt ∧ l.toInt ≤ 20) : Ok (f_Mo_half F n l) (fun u => u.toInt = hf n.toInt.toNat l.toInt.toNat) := by
  have L := lits
  obtain ⟨k, hk⟩ : ∃ k : Nat, (k : Int) = l.toInt := ⟨l.toInt.toNat, by omega⟩
  have h1 : l.toInt.toNat = k := by omega
  have h2 : 2 ^ k ≤ 2 ^ 20 := Nat.pow_le_pow_right (by decide) (by omega)
  have h3 := Nat.two_pow_pos k
  have h4 : (2 : Nat) ^ 20 = 1048576 := by decide
  simp only [f_Mo_half]
  refine ok_l (fun x hx => ?_)
  have hx2 : x.toInt = ((2 ^ k : Nat) : Int) := by
    rw [hx, ti_shl (by omega) (by rw [h1, L.2.2.1]; omega), h1, L.2.2.1]; omega
  refine ok_add (by omega) (fun y hy => ?_)
  refine ok_sub (by omega) (fun z hz => ?_)
  refine ok_l (fun w hw => ok_s ?_)
  rw [hw, ti_shr (by omega), h1, hz, hy, hx2, L.2.2.1]
  unfold hf
  generalize 2 ^ k = q at *
  rw [Int.natCast_ediv]
  congr 1
  omega
/-- filling a row with 0s -/
theorem w_Mo_fill {F : Nat} {T : Nat} {p e : Int32} {o l : Nat → Int32} (he : e.toInt ≤ T ∧ T ≤ 100000) : ∀ (n : Nat) (t : Nat → Int32) (k : Int32), 0 ≤ k.toInt → k.toInt ≤ e.toInt → e.toInt < k.toInt + n → Ok (f_Mo_forget_96 F T n p o l t e k) (fun u => u.1 = p ∧ u.2.1 = o ∧ u.2.2.1 = l ∧ ∀ j : Nat, u.2.2.2 j = if k.toInt ≤ j ∧ (j : Int) < e.toInt then 0 else t j) := by
  have L := lits
  intro n
  induction n with
  | zero => intro t k h1 h2 h3; omega
  | succ n ih =>
    intro t k h1 h2 h3
    simp only [f_Mo_forget_96, g_Mo_forget_96, clamp_eq]
    refine ok_le (fun hc => ok_s ⟨rfl, rfl, rfl, fun j => ?_⟩) (fun hc => ?_)
    · rw [if_neg (by omega)]
    · refine ok_in (by omega) ?_
      refine ok_add (by omega) (fun x hx => ?_)
      refine ok_m (ih _ x (by omega) (by omega) (by omega)) (fun u hu => ⟨hu.1, hu.2.1, hu.2.2.1, fun j => ?_⟩)
      rw [hu.2.2.2 j]
      by_cases hj : j = k.toInt.toNat
      · rw [hj, upd_is]
        rw [if_neg (by omega), if_pos (by omega)]
      · rw [upd_no hj]
        by_cases hj2 : k.toInt ≤ j ∧ (j : Int) < e.toInt
        · rw [if_pos hj2, if_pos (by omega)]
        · rw [if_neg hj2, if_neg (by omega)]
/-- what forget keeps -/
def Kept (lo hi : Int) (o l : Nat → Int32) (p : Nat) (o' l' : Nat → Int32) (p' : Nat) : Prop :=
  p' ≤ p ∧ (∀ k', k' < p' → ∃ k, k < p ∧ o' k' = o k ∧ l' k' = l k ∧ ¬ (lo ≤ (o k).toInt ∧ (o k).toInt < hi) ∧ ∀ b : Int, ¬ (lo ≤ b ∧ b < hi) → cnt o' b k' = cnt o b k) ∧ ∀ b : Int, ¬ (lo ≤ b ∧ b < hi) → cnt o' b p' = cnt o b p
theorem w_Mo_forget {F : Nat} (hF : 1000000 ≤ F) {N M T : Nat} {p s e : Int32} {o l t : Nat → Int32} (h : 0 ≤ p.toInt ∧ p.toInt ≤ N ∧ p.toInt ≤ M ∧ N ≤ 100000) (hs : 0 ≤ s.toInt ∧ s.toInt ≤ e.toInt ∧ e.toInt ≤ T ∧ T ≤ 100000) : Ok (f_Mo_forget F p N o M l T t s e) (fun u => 0 ≤ u.1.toInt ∧ Kept s.toInt e.toInt o l p.toInt.toNat u.2.1 u.2.2.1 u.1.toInt.toNat ∧ ∀ j : Nat, u.2.2.2 j = if s.toInt ≤ j ∧ (j : Int) < e.toInt then 0 else t j) := by
  have L := lits
  have key : ∀ (n : Nat) (o' l' : Nat → Int32) (v w : Int32) (a k : Nat), (a : Int) = v.toInt → (k : Int) = w.toInt → a ≤ k → w.toInt ≤ p.toInt → p.toInt < w.toInt + n → (∀ j, k ≤ j → o' j = o j) → (∀ j, k ≤ j → l' j = l j) → Kept s.toInt e.toInt o l k o' l' a →
      Ok (f_Mo_forget_5 F N M T n p o' l' t s e v w) (fun u => 0 ≤ u.1.toInt ∧ Kept s.toInt e.toInt o l p.toInt.toNat u.2.1 u.2.2.1 u.1.toInt.toNat ∧ ∀ j : Nat, u.2.2.2 j = if s.toInt ≤ j ∧ (j : Int) < e.toInt then 0 else t j) := by
    intro n
    induction n with
    | zero => intro o' l' v w a k h1 h2 h3 h4 h5; omega
    | succ n ih =>
      intro o' l' v w a k h1 h2 h3 h4 h5 ho hl hK
      have ek : w.toInt.toNat = k := by omega
      have ea : v.toInt.toNat = a := by omega
      simp only [f_Mo_forget_5, g_Mo_forget_5, g_Mo_forget_40, g_Mo_forget_41, g_Mo_forget_81, clamp_eq, ek, ea]
      refine ok_le (fun hc => ?_) (fun hc => ?_)
      · refine ok_m (w_Mo_fill (by omega) F t s (by omega) (by omega) (by omega)) (fun u hu => ?_)
        rw [hu.1, hu.2.1, hu.2.2.1]
        refine ⟨by omega, ?_, hu.2.2.2⟩
        rw [show v.toInt.toNat = a from ea, show p.toInt.toNat = k from by omega]
        exact hK
      · have goK : s.toInt ≤ (o k).toInt ∧ (o k).toInt < e.toInt → ∀ z : Int32, z.toInt = w.toInt + 1 → Ok (f_Mo_forget_5 F N M T n p (upd o' a (o k)) (upd l' a (l k)) t s e v z) (fun u => 0 ≤ u.1.toInt ∧ Kept s.toInt e.toInt o l p.toInt.toNat u.2.1 u.2.2.1 u.1.toInt.toNat ∧ ∀ j : Nat, u.2.2.2 j = if s.toInt ≤ j ∧ (j : Int) < e.toInt then 0 else t j) := by
          intro hg z hz
          refine ih _ _ v z a (k + 1) h1 (by omega) (by omega) (by omega) (by omega) (fun j hj => ?_) (fun j hj => ?_) ?_
          · rw [upd_no (by omega)]; exact ho j (by omega)
          · rw [upd_no (by omega)]; exact hl j (by omega)
          · obtain ⟨k1, k2, k3⟩ := hK
            have cc : ∀ b : Int, ∀ q, q ≤ a → cnt (upd o' a (o k)) b q = cnt o' b q := fun b q hq => cnt_congr (fun j hj => upd_no (by omega))
            refine ⟨by omega, fun k' hk' => ?_, fun b hb => ?_⟩
            · obtain ⟨k0, q1, q2, q3, q4, q5⟩ := k2 k' hk'
              refine ⟨k0, by omega, by rw [upd_no (by omega)]; exact q2, by rw [upd_no (by omega)]; exact q3, q4, fun b hb => ?_⟩
              rw [cc b k' (by omega)]; exact q5 b hb
            · rw [cc b a (Nat.le_refl a), k3 b hb, cnt_s, if_neg (by intro q; rw [q] at hg; exact hb hg)]
              rfl
        have goS : ¬ (s.toInt ≤ (o k).toInt ∧ (o k).toInt < e.toInt) → ∀ y z : Int32, y.toInt = v.toInt + 1 → z.toInt = w.toInt + 1 → Ok (f_Mo_forget_5 F N M T n p (upd o' a (o k)) (upd l' a (l k)) t s e y z) (fun u => 0 ≤ u.1.toInt ∧ Kept s.toInt e.toInt o l p.toInt.toNat u.2.1 u.2.2.1 u.1.toInt.toNat ∧ ∀ j : Nat, u.2.2.2 j = if s.toInt ≤ j ∧ (j : Int) < e.toInt then 0 else t j) := by
          intro hg y z hy hz
          refine ih _ _ y z (a + 1) (k + 1) (by omega) (by omega) (by omega) (by omega) (by omega) (fun j hj => ?_) (fun j hj => ?_) ?_
          · rw [upd_no (by omega)]; exact ho j (by omega)
          · rw [upd_no (by omega)]; exact hl j (by omega)
          · obtain ⟨k1, k2, k3⟩ := hK
            have cc : ∀ b : Int, ∀ q, q ≤ a → cnt (upd o' a (o k)) b q = cnt o' b q := fun b q hq => cnt_congr (fun j hj => upd_no (by omega))
            refine ⟨by omega, fun k' hk' => ?_, fun b hb => ?_⟩
            · rcases Nat.lt_or_ge k' a with q | q
              · obtain ⟨k0, q1, q2, q3, q4, q5⟩ := k2 k' q
                refine ⟨k0, by omega, by rw [upd_no (by omega)]; exact q2, by rw [upd_no (by omega)]; exact q3, q4, fun b hb => ?_⟩
                rw [cc b k' (by omega)]; exact q5 b hb
              · have : k' = a := by omega
                subst this
                refine ⟨k, by omega, upd_is _ _ _, upd_is _ _ _, hg, fun b hb => ?_⟩
                rw [cc b k' (Nat.le_refl _)]; exact k3 b hb
            · rw [cnt_s, cnt_s, cc b a (Nat.le_refl a), k3 b hb, upd_is]
        refine ok_in (by omega) ?_
        refine ok_l (fun x hx => ?_)
        rw [ho k (Nat.le_refl k)] at hx
        refine ok_lt (fun c1 => ?_) (fun c1 => ?_)
        · refine ok_in (by omega) (ok_l (fun x1 hx1 => ok_in (by omega) (ok_in (by omega) (ok_l (fun y1 hy1 => ok_in (by omega) ?_)))))
          rw [ho k (Nat.le_refl k)] at hx1; rw [hl k (Nat.le_refl k)] at hy1; subst hx1; subst hy1
          refine ok_T ?_
          refine ok_add (by omega) (fun y hy => ?_)
          refine ok_add (by omega) (fun z hz => ?_)
          exact goS (by rw [← hx]; omega) y z (by omega) (by omega)
        · refine ok_in (by omega) (ok_l (fun x0 hx0 => ?_))
          rw [ho k (Nat.le_refl k)] at hx0
          refine ok_le (fun c2 => ?_) (fun c2 => ?_)
          · refine ok_in (by omega) (ok_l (fun x1 hx1 => ok_in (by omega) (ok_in (by omega) (ok_l (fun y1 hy1 => ok_in (by omega) ?_)))))
            rw [ho k (Nat.le_refl k)] at hx1; rw [hl k (Nat.le_refl k)] at hy1; subst hx1; subst hy1
            refine ok_T ?_
            refine ok_add (by omega) (fun y hy => ?_)
            refine ok_add (by omega) (fun z hz => ?_)
            exact goS (by rw [← hx0]; omega) y z (by omega) (by omega)
          · refine ok_in (by omega) (ok_l (fun x1 hx1 => ok_in (by omega) (ok_in (by omega) (ok_l (fun y1 hy1 => ok_in (by omega) ?_)))))
            rw [ho k (Nat.le_refl k)] at hx1; rw [hl k (Nat.le_refl k)] at hy1; subst hx1; subst hy1
            refine ok_eq (fun c3 => by omega) (fun c3 => ?_)
            refine ok_add (by omega) (fun z hz => ?_)
            exact goK (by rw [hx] at c1; rw [hx0] at c2; omega) z (by omega)
  simp only [f_Mo_forget]
  exact key F o l 0 0 0 0 (by omega) (by omega) (Nat.le_refl 0) (by omega) (by omega) (fun _ _ => rfl) (fun _ _ => rfl) ⟨Nat.le_refl 0, fun k' h => absurd h (Nat.not_lt_zero k'), fun _ _ => rfl⟩
