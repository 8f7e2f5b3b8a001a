/-! The small methods, of the class and of the reference. -/
theorem w_copyI {F N : Nat} {f : Nat → Int32} {p : Int32} (h : (N : Int) < p.toInt ∧ p.toInt ≤ 100000000) : Ok (f_Arr_copyOfI F N f p) (fun u => u.1 = 1 ∧ u.2.1 = p.toInt.toNat ∧ u.2.2.1 = p.toInt.toNat ∧ ∀ i, i < N → u.2.2.2 i = f i) := by
  have L := lits
  have L0 : (0 : Int32).toInt.toNat = 0 := by decide
  simp only [f_Arr_copyOfI, clamp_eq]
  refine ok_len (by omega) (fun x hx => ?_)
  refine ok_eq (fun hc => ?_) (fun hc => ?_)
  · exfalso; omega
  refine ok_a ⟨by rw [Int32.lt_iff_toInt_lt]; omega, by show p.toInt.toNat * 4 ≤ 536870912; omega⟩ ?_
  refine ok_c ?_
  refine ok_len (by omega) (fun y hy => ?_)
  refine ok_min (fun z hz => ?_)
  refine ok_a ⟨by decide, by decide, by rw [Int32.lt_iff_toInt_lt]; omega, by omega, by omega, fun _ _ => rfl⟩ ?_
  refine ok_s ?_
  dsimp only
  refine ⟨rfl, by omega, rfl, fun i hi => ?_⟩
  unfold va_cpy
  rw [L0, if_pos ⟨by omega, by omega⟩]
  congr 1
  omega
theorem w_copyB {F N : Nat} {f : Nat → Int32} {p : Int32} (h : (N : Int) < p.toInt ∧ p.toInt ≤ 100000000) (hf : ∀ i, i < N → fits .byte (.int (f i)) = true) : Ok (f_Arr_copyOfB F N f p) (fun u => u.1 = 1 ∧ u.2.1 = p.toInt.toNat ∧ u.2.2.1 = p.toInt.toNat ∧ (∀ i, i < N → u.2.2.2 i = f i) ∧ ∀ i, N ≤ i → u.2.2.2 i = 0) := by
  have L := lits
  have L0 : (0 : Int32).toInt.toNat = 0 := by decide
  simp only [f_Arr_copyOfB, clamp_eq]
  refine ok_len (by omega) (fun x hx => ?_)
  refine ok_eq (fun hc => ?_) (fun hc => ?_)
  · exfalso; omega
  refine ok_a ⟨by rw [Int32.lt_iff_toInt_lt]; omega, by show p.toInt.toNat * 1 ≤ 536870912; omega⟩ ?_
  refine ok_c ?_
  refine ok_len (by omega) (fun y hy => ?_)
  refine ok_min (fun z hz => ?_)
  refine ok_a ⟨by decide, by decide, by rw [Int32.lt_iff_toInt_lt]; omega, by omega, by omega, fun i hi => by rw [L0, Nat.zero_add]; exact hf i (by omega)⟩ ?_
  refine ok_s ?_
  dsimp only
  refine ⟨rfl, by omega, rfl, fun i hi => ?_, fun i hi => ?_⟩
  · unfold va_cpy
    rw [L0, if_pos ⟨by omega, by omega⟩]
    congr 1
    omega
  · unfold va_cpy
    rw [if_neg (by omega)]
theorem w_withRoom {F N : Nat} {f : Nat → Int32} {p : Int32} (M : Nat) (h : 16 ≤ N ∧ N ≤ 2 * M ∧ p.toInt ≤ M ∧ M ≤ 1000000) : Ok (f_PH_withRoom F N f p) (fun u => 16 * u.1 + N ≤ u.2.2.1 ∧ u.2.1 + 2 * N ≤ 2 * u.2.2.1 ∧ p.toInt ≤ u.2.2.1 ∧ u.2.2.1 ≤ 2 * M ∧ ∀ i, i < N → u.2.2.2 i = f i) := by
  have L := lits
  simp only [f_PH_withRoom]
  refine ok_len (by omega) (fun x hx => ?_)
  refine ok_lt (fun hc => ?_) (fun hc => ?_)
  · refine ok_len (by omega) (fun y hy => ?_)
    refine ok_2x (by omega) (fun z hz => ?_)
    refine ok_max (fun v hv => ?_)
    refine ok_bm (w_copyI (by omega)) (fun u hu => ?_)
    refine ok_c (ok_s ?_)
    obtain ⟨h1, h2, h3, h4⟩ := hu
    refine ⟨?_, ?_, ?_, ?_, h4⟩ <;> dsimp only <;> omega
  · exact ok_s ⟨by dsimp only; omega, by dsimp only; omega, by dsimp only; omega, by dsimp only; omega, fun _ _ => rfl⟩
/-- how many bits a number has -/
def nb (n : Nat) : Nat := if n = 0 then 0 else n.log2 + 1
theorem nb_lt {n k : Nat} : k < nb n ↔ 2 ^ k ≤ n := by
  unfold nb
  by_cases h : n = 0
  · subst h
    have := Nat.two_pow_pos k
    simp only [if_true]
    omega
  · rw [if_neg h, Nat.lt_succ_iff, Nat.le_log2 h]
theorem nb_31 {n : Nat} (h : n < 2147483648) : nb n ≤ 31 := by
  rcases Nat.lt_or_ge 31 (nb n) with q | q
  · exact absurd (nb_lt.mp q) (by omega)
  · exact q
theorem shr_pos {x k : Int32} (hx : 0 ≤ x.toInt) (hk : 0 ≤ k.toInt ∧ k.toInt < 32) : 0 < (x >>> (k &&& 31)).toInt ↔ k.toInt < nb x.toInt.toNat := by
  rw [ti_shr hk]
  have h1 : k.toInt < nb x.toInt.toNat ↔ k.toInt.toNat < nb x.toInt.toNat := by omega
  rw [h1, nb_lt]
  have h2 := Nat.two_pow_pos k.toInt.toNat
  generalize 2 ^ k.toInt.toNat = q at h2 ⊢
  constructor
  · intro h
    rcases Nat.lt_or_ge x.toInt.toNat q with z | z
    · rw [Int.ediv_eq_zero_of_lt hx (by omega)] at h; omega
    · exact z
  · intro h
    exact Int.lt_of_lt_of_le (by decide : (0:Int) < 1) ((Int.le_ediv_iff_mul_le (by omega)).mpr (by omega))

theorem shr_gt1 {x k : Int32} (hx : 0 ≤ x.toInt) (hk : 0 ≤ k.toInt ∧ k.toInt < 31) : 1 < (x >>> (k &&& 31)).toInt ↔ k.toInt + 1 < nb x.toInt.toNat := by
  rw [ti_shr (by omega)]
  have h1 : k.toInt + 1 < nb x.toInt.toNat ↔ k.toInt.toNat + 1 < nb x.toInt.toNat := by omega
  rw [h1, nb_lt, Nat.pow_succ]
  have h2 := Nat.two_pow_pos k.toInt.toNat
  generalize 2 ^ k.toInt.toNat = q at h2 ⊢
  have h3 : (2 : Int) ≤ x.toInt / (q : Int) ↔ 2 * (q : Int) ≤ x.toInt := Int.le_ediv_iff_mul_le (by omega)
  omega
theorem w_bitsOf {F : Nat} (hF : 1000000 ≤ F) {p : Int32} (hp : 0 ≤ p.toInt) : Ok (f_PH_bitsOf F p) (fun u => u.toInt = nb p.toInt.toNat) := by
  have L := lits
  have h31 := nb_31 (n := p.toInt.toNat) (by have := ti_hi p; omega)
  have key : ∀ (n : Nat) (v : Int32), 0 ≤ v.toInt → v.toInt ≤ nb p.toInt.toNat → nb p.toInt.toNat < v.toInt + n → Ok (f_PH_bitsOf_2 F n p v) (fun u => u.toInt = nb p.toInt.toNat) := by
    intro n
    induction n with
    | zero => intro v h1 h2 h3; omega
    | succ n ih =>
      intro v h1 h2 h3
      simp only [f_PH_bitsOf_2, g_PH_bitsOf_2, g_PH_bitsOf_20]
      refine ok_le (fun hc => ok_s (by omega)) (fun hc => ?_)
      refine ok_l (fun x hx => ?_)
      have hs := shr_pos hp (k := v) (by omega)
      rw [← hx] at hs
      refine ok_le (fun hc2 => ok_s (by omega)) (fun hc2 => ?_)
      refine ok_add (by omega) (fun y hy => ?_)
      exact ih y (by omega) (by omega) (by omega)
  exact key F 0 (by omega) (by omega) (by omega)
theorem w_logOf {F : Nat} (hF : 1000000 ≤ F) {p : Int32} (hp : 0 ≤ p.toInt) : Ok (f_PH_logOf F p) (fun u => u.toInt = nb p.toInt.toNat - 1) := by
  have L := lits
  have h31 := nb_31 (n := p.toInt.toNat) (by have := ti_hi p; omega)
  simp only [f_PH_logOf]
  refine ok_bm (w_bitsOf hF hp) (fun u hu => ?_)
  refine ok_sub (by omega) (fun x hx => ok_s (by omega))
theorem w_Mo_log {F : Nat} (hF : 1000000 ≤ F) {p : Int32} (hp : 0 < p.toInt) : Ok (f_Mo_logarithm F p) (fun u => u.toInt = nb p.toInt.toNat - 1) := by
  have L := lits
  have h31 := nb_31 (n := p.toInt.toNat) (by have := ti_hi p; omega)
  have h0 : 0 < nb p.toInt.toNat := nb_lt.mpr (by show 1 ≤ _; omega)
  have key : ∀ (n : Nat) (v : Int32), 0 ≤ v.toInt → v.toInt + 1 ≤ nb p.toInt.toNat → nb p.toInt.toNat < v.toInt + n + 1 → Ok (f_Mo_logarithm_2 F n p v) (fun u => u.toInt = nb p.toInt.toNat - 1) := by
    intro n
    induction n with
    | zero => intro v h1 h2 h3; omega
    | succ n ih =>
      intro v h1 h2 h3
      simp only [f_Mo_logarithm_2, g_Mo_logarithm_2]
      refine ok_l (fun x hx => ?_)
      have hs : 1 < x.toInt ↔ v.toInt + 1 < nb p.toInt.toNat := by
        by_cases q : v.toInt < 31
        · rw [hx]; exact shr_gt1 (by omega) (by omega)
        · omega
      refine ok_le (fun hc2 => ok_s (by omega)) (fun hc2 => ?_)
      refine ok_add (by omega) (fun y hy => ?_)
      exact ih y (by omega) (by omega) (by omega)
  exact key F 0 (by omega) (by omega) (by omega)
/-- whether a piece ends behind pass k -/
def ends (st : Int32) (k : Nat) : Bool := !(st &&& 4 == 0) || (!(st &&& 1 == 0) && ((decide (9 ≤ k) && k % 3 == 0) || (decide (10 ≤ k) && k % 3 == 2)))
/-- how many pieces n passes from a on stand in; how many passes the first has -/
def pcs (st : Int32) : Nat → Nat → Nat
  | _, 0 => 0
  | a, n + 1 => (if n = 0 ∨ ends st a = true then 1 else 0) + pcs st (a + 1) n
def pl (st : Int32) : Nat → Nat → Nat
  | _, 0 => 0
  | a, n + 1 => if n = 0 ∨ ends st a = true then 1 else 1 + pl st (a + 1) n
theorem pcs_s (st : Int32) (a n : Nat) : pcs st a (n + 1) = (if n = 0 ∨ ends st a = true then 1 else 0) + pcs st (a + 1) n := rfl
theorem pl_s (st : Int32) (a n : Nat) : pl st a (n + 1) = if n = 0 ∨ ends st a = true then 1 else 1 + pl st (a + 1) n := rfl
theorem pl_le (st : Int32) : ∀ n a, pl st a n ≤ n := by
  intro n
  induction n with
  | zero => intro a; exact Nat.le_refl 0
  | succ n ih =>
    intro a
    unfold pl
    have := ih (a + 1)
    split <;> omega
theorem pl_pos (st : Int32) (n a : Nat) : 0 < n → 0 < pl st a n := by
  cases n with
  | zero => intro h; omega
  | succ n =>
    intro _
    unfold pl
    split <;> omega
theorem pcs_le (st : Int32) : ∀ n a, pcs st a n ≤ n := by
  intro n
  induction n with
  | zero => intro a; exact Nat.le_refl 0
  | succ n ih =>
    intro a
    unfold pcs
    have := ih (a + 1)
    split <;> omega
theorem pcs_pl (st : Int32) : ∀ n a, 0 < n → pcs st a n = 1 + pcs st (a + pl st a n) (n - pl st a n) := by
  intro n
  induction n with
  | zero => intro a h; omega
  | succ n ih =>
    intro a _
    by_cases h : n = 0 ∨ ends st a = true
    · rw [pl_s, pcs_s, if_pos h, if_pos h]
      rfl
    · have hn : 0 < n := by omega
      rw [pl_s, pcs_s, if_neg h, if_neg h, Nat.zero_add, ih (a + 1) hn]
      congr 2 <;> omega
theorem w_seb {F : Nat} {st p : Int32} (hp : 0 ≤ p.toInt) : Ok (f_Bands_segmentEndsBehind F st p) (fun u => (u.toInt = 1 ∧ ends st p.toInt.toNat = true) ∨ (u.toInt = 0 ∧ ends st p.toInt.toNat = false)) := by
  have L := lits
  simp only [f_Bands_segmentEndsBehind, g_Bands_segmentEndsBehind_34, g_Bands_segmentEndsBehind_47, g_Bands_segmentEndsBehind_51, g_Bands_segmentEndsBehind_52]
  obtain ⟨q, hq⟩ : ∃ q : Nat, (q : Int) = p.toInt := ⟨p.toInt.toNat, by omega⟩
  rw [show p.toInt.toNat = q from by omega]
  unfold ends
  refine ok_l (fun x6 h6 => ?_)
  refine ok_eq (fun c6 => ?_) (fun c6 => ?_)
  · have e6 : (st &&& 4) = 0 := by rw [← h6]; exact ti_ofI c6
    rw [e6]
    refine ok_l (fun x7 h7 => ?_)
    refine ok_eq (fun c7 => ?_) (fun c7 => ?_)
    · have e7 : (st &&& 1) = 0 := by rw [← h7]; exact ti_ofI c7
      rw [e7]
      exact ok_s (Or.inr ⟨by omega, by simp⟩)
    · have e7 : ((st &&& 1) == 0) = false := by rw [← h7]; exact beq_false_of_ne (fun e => c7 (by rw [e]))
      rw [e7]
      refine ok_lt (fun c8 => ?_) (fun c8 => ?_)
      · refine ok_lt (fun c9 => ?_) (fun c9 => ?_)
        · refine ok_a (by rfl) (ok_s (Or.inr ⟨by omega, ?_⟩))
          simp; omega
        · omega
      · refine ok_rem3 (by omega) (fun x hx => ?_)
        refine ok_eq (fun c9 => ?_) (fun c9 => ?_)
        · refine ok_a (by rfl) (ok_s (Or.inl ⟨by omega, ?_⟩))
          simp; omega
        · refine ok_lt (fun c10 => ?_) (fun c10 => ?_)
          · refine ok_a (by rfl) (ok_s (Or.inr ⟨by omega, ?_⟩))
            simp; omega
          · refine ok_rem3 (by omega) (fun y hy => ?_)
            refine ok_eq (fun c11 => ?_) (fun c11 => ?_)
            · refine ok_a (by rfl) (ok_s (Or.inl ⟨by omega, ?_⟩))
              simp; omega
            · refine ok_a (by rfl) (ok_s (Or.inr ⟨by omega, ?_⟩))
              simp; omega
  · have e6 : ((st &&& 4) == 0) = false := by rw [← h6]; exact beq_false_of_ne (fun e => c6 (by rw [e]))
    rw [e6]
    exact ok_s (Or.inl ⟨by omega, by simp⟩)

theorem w_piecesOf {F : Nat} (hF : 1000000 ≤ F) {st p e : Int32} (h : 0 ≤ p.toInt ∧ p.toInt ≤ e.toInt ∧ e.toInt ≤ 1000) : Ok (f_Bands_piecesOf F st p e) (fun u => u.toInt = pcs st p.toInt.toNat (e.toInt - p.toInt).toNat) := by
  have L := lits
  have key : ∀ (n : Nat) (c k : Int32) (j a m : Nat), (a : Int) = k.toInt → (m : Int) = e.toInt - k.toInt → c.toInt = j → j + m ≤ 1000 → 0 ≤ k.toInt → m < n → Ok (f_Bands_piecesOf_5 F st n e c k) (fun u => u.toInt = j + pcs st a m) := by
    intro n
    induction n with
    | zero => intro c k j a m h1 h2 h3 h4 h5 h6; omega
    | succ n ih =>
      intro c k j a m h1 h2 h3 h4 h5 h6
      simp only [f_Bands_piecesOf_5, g_Bands_piecesOf_5, g_Bands_piecesOf_28, g_Bands_piecesOf_31]
      cases m with
      | zero =>
        refine ok_le (fun hc => ok_s ?_) (fun hc => by omega)
        show c.toInt = j + ((0 : Nat) : Int)
        omega
      | succ m =>
        refine ok_le (fun hc => by omega) (fun hc => ?_)
        refine ok_sub (by omega) (fun x hx => ?_)
        rw [pcs_s]
        have hpl := pcs_le st m (a + 1)
        refine ok_eq (fun hc2 => ?_) (fun hc2 => ?_)
        · refine ok_add (by omega) (fun y hy => ?_)
          refine ok_add (by omega) (fun z hz => ?_)
          rw [if_pos (Or.inl (by omega))]
          refine ok_m (ih y z (j + 1) (a + 1) m (by omega) (by omega) (by omega) (by omega) (by omega) (by omega)) (fun u hu => ?_)
          rw [hu]; omega
        · refine ok_bm (w_seb h5) (fun u hu => ?_)
          rw [show k.toInt.toNat = a from by omega] at hu
          refine ok_eq (fun hc3 => ?_) (fun hc3 => ?_)
          · have e0 : ends st a = false := by rcases hu with q | q; · omega
                                              · exact q.2
            refine ok_add (by omega) (fun z hz => ?_)
            rw [if_neg (by rw [e0]; intro q; rcases q with q | q; · omega
                           · cases q)]
            refine ok_m (ih c z j (a + 1) m (by omega) (by omega) (by omega) (by omega) (by omega) (by omega)) (fun u hu => ?_)
            rw [hu]; omega
          · have e0 : ends st a = true := by rcases hu with q | q; · exact q.2
                                             · omega
            refine ok_add (by omega) (fun y hy => ?_)
            refine ok_add (by omega) (fun z hz => ?_)
            rw [if_pos (Or.inr e0)]
            refine ok_m (ih y z (j + 1) (a + 1) m (by omega) (by omega) (by omega) (by omega) (by omega) (by omega)) (fun u hu => ?_)
            rw [hu]; omega
  refine ok_m (key F 0 p 0 p.toInt.toNat (e.toInt - p.toInt).toNat (by omega) (by omega) (by omega) (by omega) (by omega) (by omega)) (fun u hu => ?_)
  rw [hu]; omega
theorem w_passesOfPiece {F : Nat} (hF : 1000000 ≤ F) {st p e : Int32} (h : 0 ≤ p.toInt ∧ p.toInt ≤ e.toInt ∧ e.toInt ≤ 1000) : Ok (f_Bands_passesOfPiece F st p e) (fun u => u.toInt = pl st p.toInt.toNat (e.toInt - p.toInt).toNat) := by
  have L := lits
  have key : ∀ (n : Nat) (k : Int32) (a m : Nat), (a : Int) = k.toInt → (m : Int) = e.toInt - k.toInt → p.toInt ≤ k.toInt → m < n → Ok (f_Bands_passesOfPiece_2 F st n p e k) (fun u => u.toInt = k.toInt - p.toInt + pl st a m) := by
    intro n
    induction n with
    | zero => intro k a m h1 h2 h3 h4; omega
    | succ n ih =>
      intro k a m h1 h2 h3 h4
      simp only [f_Bands_passesOfPiece_2, g_Bands_passesOfPiece_2]
      cases m with
      | zero =>
        refine ok_le (fun hc => ?_) (fun hc => by omega)
        refine ok_sub (by omega) (fun x hx => ok_s ?_)
        show x.toInt = k.toInt - p.toInt + ((0 : Nat) : Int)
        omega
      | succ m =>
        refine ok_le (fun hc => by omega) (fun hc => ?_)
        refine ok_bm (w_seb (by omega)) (fun u hu => ?_)
        rw [show k.toInt.toNat = a from by omega] at hu
        rw [pl_s]
        refine ok_eq (fun hc3 => ?_) (fun hc3 => ?_)
        · have e0 : ends st a = false := by rcases hu with q | q; · omega
                                            · exact q.2
          refine ok_add (by omega) (fun z hz => ?_)
          refine ok_m (ih z (a + 1) m (by omega) (by omega) (by omega) (by omega)) (fun u hu => ?_)
          rw [hu]
          by_cases hm : m = 0
          · subst hm
            rw [if_pos (Or.inl rfl)]
            show z.toInt - p.toInt + ((0 : Nat) : Int) = _
            omega
          · rw [if_neg (by rw [e0]; intro q; rcases q with q | q; · omega
                           · cases q)]
            omega
        · have e0 : ends st a = true := by rcases hu with q | q; · exact q.2
                                           · omega
          rw [if_pos (Or.inr e0)]
          refine ok_sub (by omega) (fun y hy => ?_)
          refine ok_add (by omega) (fun z hz => ok_s ?_)
          omega
  refine ok_m (key F p p.toInt.toNat (e.toInt - p.toInt).toNat (by omega) (by omega) (by omega) (by omega)) (fun u hu => ?_)
  rw [hu]; omega
