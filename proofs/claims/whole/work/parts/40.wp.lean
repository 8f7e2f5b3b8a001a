/-! Running a mirror: what must hold that it comes to an end, and with what. Numbers are spoken of by toInt, so that omega may speak of them. -/
def Ok {α : Type} (o : Option α) (P : α → Prop) : Prop := ∃ u, o = some u ∧ P u
section WP
variable {α β γ : Type}
theorem ok_s {u : α} {P : α → Prop} (h : P u) : Ok (some u) P := ⟨u, rfl, h⟩
theorem ok_a {Q : Prop} {k : Option α} {P : α → Prop} (h : Q) (hk : Ok k P) : Ok (asm Q k) P := by rw [asm_t h]; exact hk
theorem ok_l {a : γ} {k : γ → Option α} {P : α → Prop} (hk : ∀ x, x = a → Ok (k x) P) : Ok (letb a k) P := hk a rfl
theorem ok_b {o : Option β} {k : β → Option α} {P : α → Prop} (h : Ok o (fun u => Ok (k u) P)) : Ok (bd o k) P := by
  obtain ⟨u, rfl, v, hv, hp⟩ := h
  try dsimp only
  exact ⟨v, hv, hp⟩
theorem ok_c {a b : Nat} {o : Option (Nat × Nat × α)} {P : Nat × Nat × α → Prop} (h : Ok o (fun z => P (z.1 + a, z.2.1 + b, z.2.2))) : Ok (addc a b o) P := by
  obtain ⟨u, rfl, hp⟩ := h
  try dsimp only
  exact ⟨_, rfl, hp⟩
theorem ok_m {o : Option α} {P Q : α → Prop} (h : Ok o P) (hq : ∀ u, P u → Q u) : Ok o Q := by
  obtain ⟨u, e, hp⟩ := h
  try dsimp only
  exact ⟨u, e, hq u hp⟩
theorem ok_bm {o : Option β} {k : β → Option α} {P : α → Prop} {Q : β → Prop} (h : Ok o Q) (hk : ∀ u, Q u → Ok (k u) P) : Ok (bd o k) P := ok_b (ok_m h hk)
theorem ok_swap {o : Option α} {r : Option β} {P : α → β → Prop} (h : Ok r (fun v => Ok o (fun u => P u v))) : Ok o (fun u => Ok r (fun v => P u v)) := by
  obtain ⟨v, e, u, e2, hp⟩ := h
  try dsimp only
  exact ⟨u, e2, v, e, hp⟩
theorem ok_get {o : Option α} {P : α → Prop} (h : Ok o P) : ∃ u, o = some u ∧ P u := h
theorem ok_b2 {δ ε : Type} {o : Option α} {r : Option β} {k : α → Option δ} {k' : β → Option ε} {Q : α → β → Prop} {P : δ → ε → Prop} (h : Ok o (fun u => Ok r (fun v => Q u v))) (hk : ∀ u v, Q u v → Ok (k u) (fun a => Ok (k' v) (fun b => P a b))) : Ok (bd o k) (fun a => Ok (bd r k') (fun b => P a b)) := by
  obtain ⟨u, rfl, v, rfl, hq⟩ := h
  exact hk u v hq
theorem ti_add {a b : Int32} (h : -2147483648 ≤ a.toInt + b.toInt ∧ a.toInt + b.toInt ≤ 2147483647) : (a + b).toInt = a.toInt + b.toInt := by
  rw [Int32.toInt_add]; exact Int.bmod_eq_of_le (by omega) (by omega)
theorem ti_sub {a b : Int32} (h : -2147483648 ≤ a.toInt - b.toInt ∧ a.toInt - b.toInt ≤ 2147483647) : (a - b).toInt = a.toInt - b.toInt := by
  rw [Int32.toInt_sub]; exact Int.bmod_eq_of_le (by omega) (by omega)
theorem ti_mul {a b : Int32} (h : -2147483648 ≤ a.toInt * b.toInt ∧ a.toInt * b.toInt ≤ 2147483647) : (a * b).toInt = a.toInt * b.toInt := by
  rw [Int32.toInt_mul]; exact Int.bmod_eq_of_le (by omega) (by omega)
theorem ti_div {a b : Int32} (h : 0 ≤ a.toInt ∧ 0 < b.toInt) : (a / b).toInt = a.toInt / b.toInt := by
  rw [Int32.toInt_div_of_ne_right _ _ (by intro e; rw [e] at h; exact absurd h.2 (by decide)), Int.tdiv_eq_ediv_of_nonneg h.1]
theorem ti_lo (a : Int32) : -2147483648 ≤ a.toInt := Int32.le_toInt a
theorem ti_hi (a : Int32) : a.toInt ≤ 2147483647 := by have := Int32.toInt_lt a; omega
theorem ti_rem {a b : Int32} (h : 0 ≤ a.toInt ∧ 0 < b.toInt) : (a - a / b * b).toInt = a.toInt % b.toInt := by
  have h1 := ti_div h
  have h2 : a.toInt / b.toInt * b.toInt ≤ a.toInt := Int.ediv_mul_le _ (by omega)
  have h3 : 0 ≤ a.toInt / b.toInt := Int.ediv_nonneg h.1 (by omega)
  have h4 : 0 ≤ a.toInt / b.toInt * b.toInt := Int.mul_nonneg h3 (by omega)
  have h5 := ti_hi a
  have h6 : (a / b * b).toInt = a.toInt / b.toInt * b.toInt := by rw [ti_mul (by rw [h1]; omega), h1]
  rw [ti_sub (by rw [h6]; omega), h6, Int.emod_def, Int.mul_comm]
theorem ok_add {a b : Int32} {k : Int32 → Option α} {P : α → Prop} (h : -2147483648 ≤ a.toInt + b.toInt ∧ a.toInt + b.toInt ≤ 2147483647) (hk : ∀ x : Int32, x.toInt = a.toInt + b.toInt → Ok (k x) P) : Ok (letb (a + b) k) P := hk _ (ti_add h)
theorem ok_sub {a b : Int32} {k : Int32 → Option α} {P : α → Prop} (h : -2147483648 ≤ a.toInt - b.toInt ∧ a.toInt - b.toInt ≤ 2147483647) (hk : ∀ x : Int32, x.toInt = a.toInt - b.toInt → Ok (k x) P) : Ok (letb (a - b) k) P := hk _ (ti_sub h)
theorem ok_mul {a b : Int32} {k : Int32 → Option α} {P : α → Prop} (h : -2147483648 ≤ a.toInt * b.toInt ∧ a.toInt * b.toInt ≤ 2147483647) (hk : ∀ x : Int32, x.toInt = a.toInt * b.toInt → Ok (k x) P) : Ok (letb (a * b) k) P := hk _ (ti_mul h)
theorem ok_div {a b : Int32} {k : Int32 → Option α} {P : α → Prop} (h : 0 ≤ a.toInt ∧ 0 < b.toInt) (hk : ∀ x : Int32, x.toInt = a.toInt / b.toInt → Ok (k x) P) : Ok (letb (a / b) k) P := hk _ (ti_div h)
theorem ok_rem {a b : Int32} {k : Int32 → Option α} {P : α → Prop} (h : 0 ≤ a.toInt ∧ 0 < b.toInt) (hk : ∀ x : Int32, x.toInt = a.toInt % b.toInt → Ok (k x) P) : Ok (letb (a - a / b * b) k) P := hk _ (ti_rem h)
theorem ok_len {N : Nat} {k : Int32 → Option α} {P : α → Prop} (h : N ≤ 2147483647) (hk : ∀ x : Int32, x.toInt = (N : Int) → Ok (k x) P) : Ok (letb (Int32.ofNat N) k) P := hk _ (Int32.toInt_ofNat_of_lt (by omega))
theorem ok_rd {f : Nat → Int32} {i : Int32} {k : Int32 → Option α} {P : α → Prop} (hk : ∀ x : Int32, x = f i.toInt.toNat → Ok (k x) P) : Ok (letb (f i.toInt.toNat) k) P := hk _ rfl
theorem ok_in {i : Int32} {N : Nat} {k : Option α} {P : α → Prop} (h : 0 ≤ i.toInt ∧ i.toInt < (N : Int)) (hk : Ok k P) : Ok (asm (vp_in i N) k) P := ok_a (vp_in_iff.mpr h) hk
theorem ok_lt {a b : Int32} {s t : Option α} {P : α → Prop} (h1 : a.toInt < b.toInt → Ok s P) (h2 : b.toInt ≤ a.toInt → Ok t P) : Ok (if a < b then s else t) P := by
  by_cases h : a < b
  · rw [if_pos h]; exact h1 (Int32.lt_iff_toInt_lt.mp h)
  · rw [if_neg h]; exact h2 (by rw [Int32.lt_iff_toInt_lt] at h; omega)
theorem ok_le {a b : Int32} {s t : Option α} {P : α → Prop} (h1 : a.toInt ≤ b.toInt → Ok s P) (h2 : b.toInt < a.toInt → Ok t P) : Ok (if a ≤ b then s else t) P := by
  by_cases h : a ≤ b
  · rw [if_pos h]; exact h1 (Int32.le_iff_toInt_le.mp h)
  · rw [if_neg h]; exact h2 (by rw [Int32.le_iff_toInt_le] at h; omega)
theorem ok_eq {a b : Int32} {s t : Option α} {P : α → Prop} (h1 : a.toInt = b.toInt → Ok s P) (h2 : ¬ a.toInt = b.toInt → Ok t P) : Ok (if a = b then s else t) P := by
  by_cases h : a = b
  · rw [if_pos h]; exact h1 (by rw [h])
  · rw [if_neg h]; exact h2 (fun e => h (Int32.toInt_inj.mp e))
theorem ok_neq {a b : Nat} {s t : Option α} {P : α → Prop} (h1 : a = b → Ok s P) (h2 : ¬ a = b → Ok t P) : Ok (if a = b then s else t) P := by
  by_cases h : a = b
  · rw [if_pos h]; exact h1 h
  · rw [if_neg h]; exact h2 h
/-- Math.min and Math.max, as the mirrors have them -/
theorem ok_min {a b : Int32} {k : Int32 → Option α} {P : α → Prop} (hk : ∀ x : Int32, (x.toInt = a.toInt ∧ a.toInt ≤ b.toInt) ∨ (x.toInt = b.toInt ∧ b.toInt < a.toInt) → Ok (k x) P) : Ok (letb (if b < a then b else a) k) P := by
  refine ok_l (fun x hx => hk x ?_)
  by_cases h : b < a
  · rw [if_pos h] at hx; exact Or.inr ⟨by rw [hx], Int32.lt_iff_toInt_lt.mp h⟩
  · rw [if_neg h] at hx; exact Or.inl ⟨by rw [hx], by rw [Int32.lt_iff_toInt_lt] at h; omega⟩
theorem ok_max {a b : Int32} {k : Int32 → Option α} {P : α → Prop} (hk : ∀ x : Int32, (x.toInt = a.toInt ∧ b.toInt ≤ a.toInt) ∨ (x.toInt = b.toInt ∧ a.toInt < b.toInt) → Ok (k x) P) : Ok (letb (if a < b then b else a) k) P := by
  refine ok_l (fun x hx => hk x ?_)
  by_cases h : a < b
  · rw [if_pos h] at hx; exact Or.inr ⟨by rw [hx], Int32.lt_iff_toInt_lt.mp h⟩
  · rw [if_neg h] at hx; exact Or.inl ⟨by rw [hx], by rw [Int32.lt_iff_toInt_lt] at h; omega⟩
end WP
theorem clamp_eq (x : Int32) : x.toNatClampNeg = x.toInt.toNat := rfl
theorem upd_at (f : Nat → Int32) (i j : Nat) (v : Int32) : upd f i v j = if j = i then v else f j := rfl
theorem upd_is (f : Nat → Int32) (i : Nat) (v : Int32) : upd f i v i = v := if_pos rfl
theorem upd_no {f : Nat → Int32} {i j : Nat} {v : Int32} (h : ¬ j = i) : upd f i v j = f j := if_neg h
theorem lits : (-1 : Int32).toInt = -1 ∧ (0 : Int32).toInt = 0 ∧ (1 : Int32).toInt = 1 ∧ (2 : Int32).toInt = 2 ∧ (3 : Int32).toInt = 3 ∧ (4 : Int32).toInt = 4 ∧ (5 : Int32).toInt = 5 ∧ (6 : Int32).toInt = 6 ∧ (7 : Int32).toInt = 7 ∧ (8 : Int32).toInt = 8 ∧ (9 : Int32).toInt = 9 ∧ (10 : Int32).toInt = 10 ∧ (15 : Int32).toInt = 15 ∧ (17 : Int32).toInt = 17 ∧ (31 : Int32).toInt = 31 ∧ (32 : Int32).toInt = 32 ∧ (37 : Int32).toInt = 37 ∧ (64 : Int32).toInt = 64 ∧ (73 : Int32).toInt = 73 ∧ (74 : Int32).toInt = 74 ∧ (164 : Int32).toInt = 164 ∧ (200 : Int32).toInt = 200 ∧ (254 : Int32).toInt = 254 ∧ (255 : Int32).toInt = 255 ∧ (1000 : Int32).toInt = 1000 ∧ (1001 : Int32).toInt = 1001 ∧ (1024 : Int32).toInt = 1024 ∧ (2048 : Int32).toInt = 2048 ∧ (4096 : Int32).toInt = 4096 ∧ (6144 : Int32).toInt = 6144 ∧ (24576 : Int32).toInt = 24576 ∧ (65535 : Int32).toInt = 65535 ∧ (131072 : Int32).toInt = 131072 ∧ (262144 : Int32).toInt = 262144 := by decide +kernel
theorem ti_ofI {a b : Int32} (h : a.toInt = b.toInt) : a = b := Int32.toInt_inj.mp h
/-- shifts and masks -/
theorem sh_n : ∀ n, n < 32 → ((nI n &&& 31).toBitVec.smod 32).toNat = n := by decide +kernel
theorem i_nat {k : Int32} (h : 0 ≤ k.toInt) : ∃ n : Nat, (n : Int) = k.toInt ∧ k = nI n := by
  try dsimp only
  refine ⟨k.toInt.toNat, by omega, ti_ofI ?_⟩
  have := ti_hi k
  rw [nI_toInt (by omega)]
  omega
theorem ti_shr {x k : Int32} (h : 0 ≤ k.toInt ∧ k.toInt < 32) : (x >>> (k &&& 31)).toInt = x.toInt / (2 ^ k.toInt.toNat : Nat) := by
  obtain ⟨n, hn, rfl⟩ := i_nat h.1
  have h2 : n < 32 := by omega
  have h3 : (nI n).toInt.toNat = n := by omega
  rw [h3, ← Int32.toInt_toBitVec, Int32.toBitVec_shiftRight, BitVec.sshiftRight', sh_n n h2, BitVec.toInt_sshiftRight, Int.shiftRight_eq_div_pow, Int32.toInt_toBitVec]
theorem ti_shl {x k : Int32} (h : 0 ≤ k.toInt ∧ k.toInt < 32) (hx : -2147483648 ≤ x.toInt * (2 ^ k.toInt.toNat : Nat) ∧ x.toInt * (2 ^ k.toInt.toNat : Nat) ≤ 2147483647) : (x <<< (k &&& 31)).toInt = x.toInt * (2 ^ k.toInt.toNat : Nat) := by
  obtain ⟨n, hn, rfl⟩ := i_nat h.1
  have h2 : n < 32 := by omega
  have h3 : (nI n).toInt.toNat = n := by omega
  rw [h3] at hx ⊢
  rw [← Int32.toInt_toBitVec, Int32.toBitVec_shiftLeft, BitVec.shiftLeft_eq', sh_n n h2, BitVec.toInt_shiftLeft]
  rw [Nat.shiftLeft_eq]
  have h4 : (((x.toBitVec.toNat * 2 ^ n : Nat) : Int)).bmod (2 ^ 32) = (x.toInt * (2 ^ n : Nat)).bmod (2 ^ 32) := by
    rw [Int.natCast_mul, ← Int.bmod_mul_bmod, ← Int32.toInt_toBitVec, BitVec.toInt_eq_toNat_bmod, Int.bmod_mul_bmod]
  rw [h4]
  exact Int.bmod_eq_of_le (by omega) (by omega)
theorem ti_and1 (x : Int32) : (x &&& 1).toInt = x.toInt % 2 := by
  have h : (x &&& 1).toBitVec.toNat = x.toBitVec.toNat % 2 := by
    rw [Int32.toBitVec_and, BitVec.toNat_and]; exact Nat.and_two_pow_sub_one_eq_mod _ 1
  have h2 : (x &&& 1).toInt = ((x &&& 1).toBitVec.toNat : Int) := by
    rw [← Int32.toInt_toBitVec, BitVec.toInt_eq_toNat_of_lt (by rw [h]; omega)]
  rw [h2, h, ← Int32.toInt_toBitVec, BitVec.toInt_eq_toNat_bmod]
  have := x.toBitVec.isLt
  rw [Int.bmod_def]
  omega
theorem ti_and255 (x : Int32) : (x &&& 255).toInt = x.toInt % 256 := by
  have h : (x &&& 255).toBitVec.toNat = x.toBitVec.toNat % 256 := by
    rw [Int32.toBitVec_and, BitVec.toNat_and]; exact Nat.and_two_pow_sub_one_eq_mod _ 8
  have h2 : (x &&& 255).toInt = ((x &&& 255).toBitVec.toNat : Int) := by
    rw [← Int32.toInt_toBitVec, BitVec.toInt_eq_toNat_of_lt (by rw [h]; omega)]
  rw [h2, h, ← Int32.toInt_toBitVec, BitVec.toInt_eq_toNat_bmod]
  have := x.toBitVec.isLt
  rw [Int.bmod_def]
  omega
theorem ti_and15 (x : Int32) : (x &&& 15).toInt = x.toInt % 16 := by
  have h : (x &&& 15).toBitVec.toNat = x.toBitVec.toNat % 16 := by
    rw [Int32.toBitVec_and, BitVec.toNat_and]; exact Nat.and_two_pow_sub_one_eq_mod _ 4
  have h2 : (x &&& 15).toInt = ((x &&& 15).toBitVec.toNat : Int) := by
    rw [← Int32.toInt_toBitVec, BitVec.toInt_eq_toNat_of_lt (by rw [h]; omega)]
  rw [h2, h, ← Int32.toInt_toBitVec, BitVec.toInt_eq_toNat_bmod]
  have := x.toBitVec.isLt
  rw [Int.bmod_def]
  omega
theorem ok_2x {α : Type} {a : Int32} {k : Int32 → Option α} {P : α → Prop} (h : -2147483648 ≤ 2 * a.toInt ∧ 2 * a.toInt ≤ 2147483647) (hk : ∀ x : Int32, x.toInt = 2 * a.toInt → Ok (k x) P) : Ok (letb (2 * a) k) P := hk _ (by rw [ti_mul] <;> rw [show (2 : Int32).toInt = 2 from by decide] <;> omega)
theorem ok_x2 {α : Type} {a : Int32} {k : Int32 → Option α} {P : α → Prop} (h : -2147483648 ≤ 2 * a.toInt ∧ 2 * a.toInt ≤ 2147483647) (hk : ∀ x : Int32, x.toInt = 2 * a.toInt → Ok (k x) P) : Ok (letb (a * 2) k) P := hk _ (by rw [ti_mul] <;> rw [show (2 : Int32).toInt = 2 from by decide] <;> omega)
theorem ok_x6144 {α : Type} {a : Int32} {k : Int32 → Option α} {P : α → Prop} (h : -100000 ≤ a.toInt ∧ a.toInt ≤ 100000) (hk : ∀ x : Int32, x.toInt = 6144 * a.toInt → Ok (k x) P) : Ok (letb (a * 6144) k) P := hk _ (by rw [ti_mul] <;> rw [show (6144 : Int32).toInt = 6144 from by decide] <;> omega)
theorem ok_2048x {α : Type} {a : Int32} {k : Int32 → Option α} {P : α → Prop} (h : -100000 ≤ a.toInt ∧ a.toInt ≤ 100000) (hk : ∀ x : Int32, x.toInt = 2048 * a.toInt → Ok (k x) P) : Ok (letb (2048 * a) k) P := hk _ (by rw [ti_mul] <;> rw [show (2048 : Int32).toInt = 2048 from by decide] <;> omega)
theorem ok_and1 {α : Type} {a : Int32} {k : Int32 → Option α} {P : α → Prop} (hk : ∀ x : Int32, x.toInt = a.toInt % 2 → Ok (k x) P) : Ok (letb (a &&& 1) k) P := hk _ (ti_and1 a)
theorem ok_and15 {α : Type} {a : Int32} {k : Int32 → Option α} {P : α → Prop} (hk : ∀ x : Int32, x.toInt = a.toInt % 16 → Ok (k x) P) : Ok (letb (a &&& 15) k) P := hk _ (ti_and15 a)
theorem ok_and255 {α : Type} {a : Int32} {k : Int32 → Option α} {P : α → Prop} (hk : ∀ x : Int32, x.toInt = a.toInt % 256 → Ok (k x) P) : Ok (letb (a &&& 255) k) P := hk _ (ti_and255 a)
theorem bool_nar {x : Int32} (h : x.toInt = 0 ∨ x.toInt = 1) : narrow .boolean (.int x) = .int x := by
  rcases h with h | h
  · rw [show x = 0 from ti_ofI (by rw [h]; decide)]; rfl
  · rw [show x = 1 from ti_ofI (by rw [h]; decide)]; rfl
theorem bool_fit {x : Int32} (h : x.toInt = 0 ∨ x.toInt = 1) : fits .boolean (.int x) = true := by
  rcases h with h | h
  · rw [show x = 0 from ti_ofI (by rw [h]; decide)]; rfl
  · rw [show x = 1 from ti_ofI (by rw [h]; decide)]; rfl
theorem nar1 : vp_nar .boolean 1 = 1 := by decide
theorem nar0 : vp_nar .boolean 0 = 0 := by decide
theorem byte_fit (x : Int32) : fits .byte (.int (x.toInt8.toInt32)) = true := by
  have h1 : (x.toInt8.toInt32).toInt = x.toInt8.toInt := Int8.toInt_toInt32 _
  have h2 := Int8.toInt_lt x.toInt8
  have h3 := Int8.le_toInt x.toInt8
  show (decide (-128 ≤ x.toInt8.toInt32) && decide (x.toInt8.toInt32 ≤ 127)) = true
  rw [Bool.and_eq_true, decide_eq_true_eq, decide_eq_true_eq, Int32.le_iff_toInt_le, Int32.le_iff_toInt_le, h1]
  have h4 : (-128 : Int32).toInt = -128 := by decide
  have h5 : (127 : Int32).toInt = 127 := by decide
  omega
theorem ok_rem3 {α : Type} {a : Int32} {k : Int32 → Option α} {P : α → Prop} (h : 0 ≤ a.toInt) (hk : ∀ x : Int32, x.toInt = a.toInt % 3 → Ok (k x) P) : Ok (letb (a - a / 3 * 3) k) P := ok_rem ⟨h, by decide⟩ (fun x hx => hk x (by rw [hx, show (3 : Int32).toInt = 3 from by decide]))
theorem ok_div2 {α : Type} {a : Int32} {k : Int32 → Option α} {P : α → Prop} (h : 0 ≤ a.toInt) (hk : ∀ x : Int32, x.toInt = a.toInt / 2 → Ok (k x) P) : Ok (letb (a / 2) k) P := ok_div ⟨h, by decide⟩ (fun x hx => hk x (by rw [hx, show (2 : Int32).toInt = 2 from by decide]))
theorem ok_T {α : Type} {s t : Option α} {P : α → Prop} {d : Decidable True} (h : Ok s P) : Ok (@ite _ True d s t) P := by rw [if_pos trivial]; exact h
theorem ok_F {α : Type} {s t : Option α} {P : α → Prop} {d : Decidable False} (h : Ok t P) : Ok (@ite _ False d s t) P := by rw [if_neg id]; exact h
theorem ok_v {α γ : Type} {a : γ} {k : γ → Option α} {P : α → Prop} (h : Ok (k a) P) : Ok (letb a k) P := h
