/-! Reading a head. -/
def Kept2 (lo hi : Int) (o l : Nat → Int32) (p : Nat) (o' l' : Nat → Int32) (p' : Nat) : Prop :=
  (∀ k', k' < p' → ∃ k, k < p ∧ o' k' = o k ∧ l' k' = l k ∧ ¬ (lo ≤ (o k).toInt ∧ (o k).toInt < hi) ∧ ∀ b : Int, ¬ (lo ≤ b ∧ b < hi) → cnt o' b k' = cnt o b k) ∧ ∀ b : Int, ¬ (lo ≤ b ∧ b < hi) → cnt o' b p' = cnt o b p
theorem kept_comp {lo hi : Int} {o l o1 l1 oy ly o2 l2 : Nat → Int32} {p p1 py p2 : Nat} (h1 : Kept lo hi o l p o1 l1 p1) (h2 : ∀ k, k < p1 → oy k = o1 k ∧ ly k = l1 k) (h3 : p1 ≤ py) (h4 : ∀ k, p1 ≤ k → k < py → lo ≤ (oy k).toInt ∧ (oy k).toInt < hi) (h5 : Kept lo hi oy ly py o2 l2 p2) : Kept2 lo hi o l p o2 l2 p2 := by
  try dsimp only
  refine ⟨fun k' hk' => ?_, fun b hb => ?_⟩
  · obtain ⟨k, a1, a2, a3, a4, a5⟩ := h5.2.1 k' hk'
    have hk : k < p1 := by
      rcases Nat.lt_or_ge k p1 with q | q
      · exact q
      · exact absurd (h4 k q a1) a4
    obtain ⟨k0, b1, b2, b3, b4, b5⟩ := h1.2.1 k hk
    try dsimp only
    refine ⟨k0, b1, by rw [a2, (h2 k hk).1, b2], by rw [a3, (h2 k hk).2, b3], b4, fun b hb => ?_⟩
    rw [a5 b hb, ← b5 b hb]
    exact cnt_congr (fun j hj => (h2 j (by omega)).1)
  · rw [h5.2.2 b hb, ← h1.2.2 b hb, show py = p1 + (py - p1) by omega, cnt_skip (fun j h6 h7 e => by have := h4 j h6 (by omega); rw [e] at this; exact hb this)]
    exact cnt_congr (fun j hj => (h2 j hj).1)
def GOODR (m : Nat) (w h : Nat → Nat) (nb lr lN : Nat) (ov ov2 : Int32) (iN iL iK oN oL oK : Nat) (size P : Int32) (B cF brF oF LeF toF fiF miF WF LF KF lyF : Nat → Int32) (u : Nat × Nat × Int32 × Int32 × Int32 × Int32 × (Nat → Int32) × (Nat → Int32) × (Nat → Int32) × (Nat → Int32) × (Nat → Int32) × (Nat → Int32) × Nat × (Nat → Int32) × (Nat → Int32) × Nat × (Nat → Int32) × Nat × (Nat → Int32) × Nat × (Nat → Int32) × (Nat → Int32) × Nat × (Nat → Int32) × Nat × (Nat → Int32) × Nat × (Nat → Int32) × Int32 × Int32 × Int32 × Int32 × Int32 × Int32 × (Nat → Int64)) (v : Int32 × Int32 × Int32 × Int32 × Int32 × Int32 × Int32 × Int32 × Int32 × Int32 × Int32 × (Nat → Int32) × (Nat → Int32) × (Nat → Int32) × (Nat → Int32) × (Nat → Int32) × (Nat → Int32) × (Nat → Int32) × (Nat → Int32) × (Nat → Int32) × (Nat → Int32) × (Nat → Int32) × (Nat → Int32)) : Prop :=
  (∃ (P0 : Nat) (o1 Le1 br1 c1 to1 : Nat → Int32), P0 ≤ 4096 ∧ (∀ j, (j < 1024 ∨ 2048 ≤ j) → c1 j = cF j ∧ br1 j = brF j) ∧ (∀ j, 1024 ≤ j → j < 2048 → (c1 j).toInt = (cF j).toInt + (brF j).toInt ∧ br1 j = 0) ∧ Kept 1024 2048 oF LeF P.toInt.toNat o1 Le1 P0 ∧ (∀ j : Nat, to1 j = if 1024 ≤ j ∧ j < 2048 then 0 else toF j) ∧ v.2.1 = 0 ∧ u.2.2.1 = 0 ∧ u.2.2.2.2.2.2.2.2.2.2.2.2.2.2.2.2.2.2.2.2.2.2.2.2.2.2.2.2.2.2.2.2.2.2 (0 : Int32).toNatClampNeg = v.1.toInt64 ∧ (16 * u.1 + lN ≤ u.2.2.2.2.2.2.2.2.2.2.2.2.1 ∧ u.2.1 + 2 * lN ≤ 2 * u.2.2.2.2.2.2.2.2.2.2.2.2.1) ∧ (u.2.2.2.1 = ov ∧ v.2.2.2.2.1 = ov2 ∧ u.2.2.2.2.2.1.toInt = lr + 1 ∧ v.2.2.2.2.2.2.2.2.2.2.2.2.2.2.2.2.2.2.2.2.2.2 1 = u.2.2.2.2.2.1 ∧ v.2.2.2.2.2.2.2.2.2.2.2.2.2.2.2.2.2.2.2.2.2.2 0 = lyF 0) ∧ (u.2.2.2.2.2.2.2.2.2.2.2.2.2.2.2.1 = iN ∧ u.2.2.2.2.2.2.2.2.2.2.2.2.2.2.2.2.2.1 = iL ∧ u.2.2.2.2.2.2.2.2.2.2.2.2.2.2.2.2.2.2.2.1 = iK ∧ u.2.2.2.2.2.2.2.2.2.2.2.2.2.2.2.2.2.2.2.2.2.2.1 = oN ∧ u.2.2.2.2.2.2.2.2.2.2.2.2.2.2.2.2.2.2.2.2.2.2.2.2.1 = oL ∧ u.2.2.2.2.2.2.2.2.2.2.2.2.2.2.2.2.2.2.2.2.2.2.2.2.2.2.1 = oK) ∧ (v.2.2.1 = size ∧ v.2.2.2.2.2.2.2.2.2.2.2.1 = B ∧ v.2.2.2.2.2.2.2.2.2.2.2.2.2.2.2.2.2.1 = c1) ∧ IRr nb nb c1 u.2.2.2.2.2.2.1 u.2.2.2.2.2.2.2.1 u.2.2.2.2.2.2.2.2.2.2.1 u.2.2.2.2.2.2.2.2.1 v.2.2.2.2.2.2.2.2.2.2.2.2.2.2.2.2.1 v.2.2.2.2.2.2.2.2.2.2.2.2.2.2.2.2.2.2.1 v.2.2.2.2.2.2.2.2.2.2.2.2.2.2.2.2.2.2.2.1 ∧ (∀ b, b < nb → 0 ≤ (c1 (1024 + b)).toInt) ∧ (∀ i k, i < m → k < w i * h i → IR4 w h i k u.2.2.2.2.2.2.2.1 u.2.2.2.2.2.2.2.2.2.2.2.2.2.2.2.2.1 u.2.2.2.2.2.2.2.2.2.2.2.2.2.2.2.2.2.2.2.2.2.2.2.2.2.1 v.2.2.2.2.2.2.2.2.2.2.2.2.1 v.2.2.2.2.2.2.2.2.2.2.2.2.2.1) ∧ IRt m w h lr u.2.2.2.2.2.2.2.2.2.2.2.2.2.2.2.2.2.2.1 u.2.2.2.2.2.2.2.2.2.2.2.2.2.2.2.2.2.2.2.2.1 u.2.2.2.2.2.2.2.2.2.2.2.2.2.2.2.2.2.2.2.2.2.2.2.2.2.1 u.2.2.2.2.2.2.2.2.2.2.2.2.2.2.2.2.2.2.2.2.2.2.2.2.2.2.2.1 v.2.2.2.2.2.2.2.2.2.2.2.2.2.2.1 v.2.2.2.2.2.2.2.2.2.2.2.2.2.2.2.1 ∧ IRl nb P0 u.2.2.2.2.2.2.2.2.2.1 u.2.2.2.2.2.2.2.2.2.2.1 u.2.2.2.2.2.2.2.2.2.2.2.2.2.1 u.2.2.2.2.1 u.2.2.2.2.2.2.2.2.2.2.2.2.1 v.2.2.2.1 v.2.2.2.2.2.2.2.2.2.2.1 v.2.2.2.2.2.2.2.2.2.2.2.2.2.2.2.2.2.2.1 v.2.2.2.2.2.2.2.2.2.2.2.2.2.2.2.2.2.2.2.2.1 v.2.2.2.2.2.2.2.2.2.2.2.2.2.2.2.2.2.2.2.2.2.1 ∧ FR nb P0 o1 Le1 fiF miF br1 to1 WF LF KF v.2.2.2.1.toInt v.2.2.2.2.2.2.2.2.2.2.2.2.1 v.2.2.2.2.2.2.2.2.2.2.2.2.2.1 v.2.2.2.2.2.2.2.2.2.2.2.2.2.2.1 v.2.2.2.2.2.2.2.2.2.2.2.2.2.2.2.1 v.2.2.2.2.2.2.2.2.2.2.2.2.2.2.2.2.1 v.2.2.2.2.2.2.2.2.2.2.2.2.2.2.2.2.2.2.1 v.2.2.2.2.2.2.2.2.2.2.2.2.2.2.2.2.2.2.2.1 v.2.2.2.2.2.2.2.2.2.2.2.2.2.2.2.2.2.2.2.2.1 v.2.2.2.2.2.2.2.2.2.2.2.2.2.2.2.2.2.2.2.2.2.1)
def BADR (nb nn lN : Nat) (ly : Int32) (iN iL iK oN oL oK : Nat) (size P : Int32) (B cF brF oF LeF toF fiF miF WF LF KF lyF : Nat → Int32) (u : Nat × Nat × Int32 × Int32 × Int32 × Int32 × (Nat → Int32) × (Nat → Int32) × (Nat → Int32) × (Nat → Int32) × (Nat → Int32) × (Nat → Int32) × Nat × (Nat → Int32) × (Nat → Int32) × Nat × (Nat → Int32) × Nat × (Nat → Int32) × Nat × (Nat → Int32) × (Nat → Int32) × Nat × (Nat → Int32) × Nat × (Nat → Int32) × Nat × (Nat → Int32) × Int32 × Int32 × Int32 × Int32 × Int32 × Int32 × (Nat → Int64)) (v : Int32 × Int32 × Int32 × Int32 × Int32 × Int32 × Int32 × Int32 × Int32 × Int32 × Int32 × (Nat → Int32) × (Nat → Int32) × (Nat → Int32) × (Nat → Int32) × (Nat → Int32) × (Nat → Int32) × (Nat → Int32) × (Nat → Int32) × (Nat → Int32) × (Nat → Int32) × (Nat → Int32) × (Nat → Int32)) : Prop :=
  u.2.2.1 = 3 ∧ v.2.1 = 3 ∧ u.2.2.2.1 = 1 ∧ v.2.2.2.2.1 = 1 ∧ u.2.2.2.2.2.1 = ly ∧ v.2.2.2.2.2.2.2.2.2.2.2.2.2.2.2.2.2.2.2.2.2.2 = lyF ∧ v.2.2.1 = size ∧ v.2.2.2.2.2.2.2.2.2.2.2.1 = B ∧ (16 ≤ u.2.2.2.2.2.2.2.2.2.2.2.2.1 ∧ u.2.2.2.2.2.2.2.2.2.2.2.2.1 ≤ 8192) ∧ (16 * u.1 + (lN + (iN + iL + iK + (oN + oL + oK))) ≤ u.2.2.2.2.2.2.2.2.2.2.2.2.1 + (u.2.2.2.2.2.2.2.2.2.2.2.2.2.2.2.1 + u.2.2.2.2.2.2.2.2.2.2.2.2.2.2.2.2.2.1 + u.2.2.2.2.2.2.2.2.2.2.2.2.2.2.2.2.2.2.2.1 + (u.2.2.2.2.2.2.2.2.2.2.2.2.2.2.2.2.2.2.2.2.2.2.1 + u.2.2.2.2.2.2.2.2.2.2.2.2.2.2.2.2.2.2.2.2.2.2.2.2.1 + u.2.2.2.2.2.2.2.2.2.2.2.2.2.2.2.2.2.2.2.2.2.2.2.2.2.2.1)) + 16 ∧ u.2.1 + 2 * (lN + (iN + iL + iK + (oN + oL + oK))) ≤ 2 * (u.2.2.2.2.2.2.2.2.2.2.2.2.1 + (u.2.2.2.2.2.2.2.2.2.2.2.2.2.2.2.1 + u.2.2.2.2.2.2.2.2.2.2.2.2.2.2.2.2.2.1 + u.2.2.2.2.2.2.2.2.2.2.2.2.2.2.2.2.2.2.2.1 + (u.2.2.2.2.2.2.2.2.2.2.2.2.2.2.2.2.2.2.2.2.2.2.1 + u.2.2.2.2.2.2.2.2.2.2.2.2.2.2.2.2.2.2.2.2.2.2.2.2.1 + u.2.2.2.2.2.2.2.2.2.2.2.2.2.2.2.2.2.2.2.2.2.2.2.2.2.2.1))) + 6) ∧ (nn ≤ u.2.2.2.2.2.2.2.2.2.2.2.2.2.2.2.1 ∧ 16 ≤ u.2.2.2.2.2.2.2.2.2.2.2.2.2.2.2.1 ∧ u.2.2.2.2.2.2.2.2.2.2.2.2.2.2.2.1 ≤ 4096 ∧ nn ≤ u.2.2.2.2.2.2.2.2.2.2.2.2.2.2.2.2.2.1 ∧ 16 ≤ u.2.2.2.2.2.2.2.2.2.2.2.2.2.2.2.2.2.1 ∧ u.2.2.2.2.2.2.2.2.2.2.2.2.2.2.2.2.2.1 ≤ 4096 ∧ nn ≤ u.2.2.2.2.2.2.2.2.2.2.2.2.2.2.2.2.2.2.2.1 ∧ 16 ≤ u.2.2.2.2.2.2.2.2.2.2.2.2.2.2.2.2.2.2.2.1 ∧ u.2.2.2.2.2.2.2.2.2.2.2.2.2.2.2.2.2.2.2.1 ≤ 4096 ∧ nn ≤ u.2.2.2.2.2.2.2.2.2.2.2.2.2.2.2.2.2.2.2.2.2.2.1 ∧ 16 ≤ u.2.2.2.2.2.2.2.2.2.2.2.2.2.2.2.2.2.2.2.2.2.2.1 ∧ u.2.2.2.2.2.2.2.2.2.2.2.2.2.2.2.2.2.2.2.2.2.2.1 ≤ 4096 ∧ nn ≤ u.2.2.2.2.2.2.2.2.2.2.2.2.2.2.2.2.2.2.2.2.2.2.2.2.1 ∧ 16 ≤ u.2.2.2.2.2.2.2.2.2.2.2.2.2.2.2.2.2.2.2.2.2.2.2.2.1 ∧ u.2.2.2.2.2.2.2.2.2.2.2.2.2.2.2.2.2.2.2.2.2.2.2.2.1 ≤ 4096 ∧ nn ≤ u.2.2.2.2.2.2.2.2.2.2.2.2.2.2.2.2.2.2.2.2.2.2.2.2.2.2.1 ∧ 16 ≤ u.2.2.2.2.2.2.2.2.2.2.2.2.2.2.2.2.2.2.2.2.2.2.2.2.2.2.1 ∧ u.2.2.2.2.2.2.2.2.2.2.2.2.2.2.2.2.2.2.2.2.2.2.2.2.2.2.1 ≤ 4096) ∧ (∀ b, b < nb → u.2.2.2.2.2.2.1 b = 3 ∧ u.2.2.2.2.2.2.2.1 b = 0 ∧ u.2.2.2.2.2.2.2.2.1 b = 0 ∧ u.2.2.2.2.2.2.2.2.2.1 b = 0 ∧ u.2.2.2.2.2.2.2.2.2.2.1 b = 0 ∧ u.2.2.2.2.2.2.2.2.2.2.2.1 b = 0) ∧ (∀ j, j < 1024 → v.2.2.2.2.2.2.2.2.2.2.2.2.2.2.2.2.2.1 j = cF j ∧ v.2.2.2.2.2.2.2.2.2.2.2.2.2.2.2.2.1 j = brF j ∧ v.2.2.2.2.2.2.2.2.2.2.2.2.1 j = fiF j ∧ v.2.2.2.2.2.2.2.2.2.2.2.2.2.1 j = miF j ∧ v.2.2.2.2.2.2.2.2.2.2.2.2.2.2.2.2.2.2.2.1 j = WF j) ∧ (∀ j, 1024 ≤ j → j < 2048 → v.2.2.2.2.2.2.2.2.2.2.2.2.2.2.2.2.2.1 j = 0 ∧ v.2.2.2.2.2.2.2.2.2.2.2.2.2.2.2.2.2.2.2.1 j = 3 ∧ v.2.2.2.2.2.2.2.2.2.2.2.2.2.2.2.2.1 j = 0 ∧ v.2.2.2.2.2.2.2.2.2.2.2.2.1 j = -1 ∧ v.2.2.2.2.2.2.2.2.2.2.2.2.2.1 j = -1) ∧ (∀ j : Nat, j < 2048 → v.2.2.2.2.2.2.2.2.2.2.2.2.2.2.2.2.2.2.1 j = if 1024 ≤ j then 0 else toF j) ∧ 0 ≤ v.2.2.2.1.toInt ∧ Kept2 1024 2048 oF LeF P.toInt.toNat v.2.2.2.2.2.2.2.2.2.2.2.2.2.2.2.2.2.2.2.2.1 v.2.2.2.2.2.2.2.2.2.2.2.2.2.2.2.2.2.2.2.2.2.1 v.2.2.2.1.toInt.toNat ∧ (∀ x, x < 12288 → v.2.2.2.2.2.2.2.2.2.2.2.2.2.2.1 x = LF x ∧ v.2.2.2.2.2.2.2.2.2.2.2.2.2.2.2.1 x = KF x)
theorem w_read84 {F : Nat} (hF : 1000000 ≤ F) {st bds th size P ov wr bg en rm wg ct p0 p1 : Int32} {B beF wiF hiF fiF miF LF KF brF cF toF WF oF LeF lyF : Nat → Int32} {Q : Int32 × Int32 × Int32 × Int32 × Int32 × Int32 × Int32 × Int32 × Int32 × Int32 × Int32 × (Nat → Int32) × (Nat → Int32) × (Nat → Int32) × (Nat → Int32) × (Nat → Int32) × (Nat → Int32) × (Nat → Int32) × (Nat → Int32) × (Nat → Int32) × (Nat → Int32) × (Nat → Int32) × (Nat → Int32) → Prop} (hc : ∀ j, 1024 ≤ j → j < 2048 → 0 ≤ (cF j).toInt ∧ (cF j).toInt ≤ 1000 ∧ 0 ≤ (brF j).toInt ∧ (brF j).toInt ≤ 1000)
    (hQ : ∀ (n : Nat) (br1 c1 : Nat → Int32) (v4 : Int32), v4.toInt = 2048 → (∀ j, 1024 ≤ j → j < 2048 → (c1 j).toInt = (cF j).toInt + (brF j).toInt ∧ br1 j = 0) → (∀ j, (j < 1024 ∨ 2048 ≤ j) → c1 j = cF j ∧ br1 j = brF j) → Ok (g_Mo_read_84 F (f_Mo_read_84 F st bds 262144 4 beF 3 wiF 3 hiF 2048 2048 24576 24576 2048 2048 2048 2048 8200 8200 2 n) st bds 262144 4 beF 3 wiF 3 hiF 2048 2048 24576 24576 2048 2048 2048 2048 8200 8200 2 B fiF miF LF KF br1 c1 toF WF oF LeF lyF th size P ov wr bg en rm wg ct p0 p1 v4) Q) :
    Ok (f_Mo_read_84 F st bds 262144 4 beF 3 wiF 3 hiF 2048 2048 24576 24576 2048 2048 2048 2048 8200 8200 2 F B fiF miF LF KF brF cF toF WF oF LeF lyF th size P ov wr bg en rm wg ct p0 p1 1024) Q := by
  have L := lits
  have l1024 : (1024 : Int32).toInt = 1024 := by decide
  have l2048 : (2048 : Int32).toInt = 2048 := by decide
  have key : ∀ (n : Nat) (br1 c1 : Nat → Int32) (v4 : Int32), 1024 ≤ v4.toInt → v4.toInt ≤ 2048 → 2048 < v4.toInt + n → (∀ j : Nat, 1024 ≤ j → (j : Int) < v4.toInt → (c1 j).toInt = (cF j).toInt + (brF j).toInt ∧ br1 j = 0) → (∀ j : Nat, (j < 1024 ∨ v4.toInt ≤ j) → c1 j = cF j ∧ br1 j = brF j) → Ok (f_Mo_read_84 F st bds 262144 4 beF 3 wiF 3 hiF 2048 2048 24576 24576 2048 2048 2048 2048 8200 8200 2 n B fiF miF LF KF br1 c1 toF WF oF LeF lyF th size P ov wr bg en rm wg ct p0 p1 v4) Q := by
    intro n
    induction n with
    | zero => intro br1 c1 v4 h1 h2 h3; omega
    | succ n ih =>
      intro br1 c1 v4 h1 h2 h3 h4 h5
      rw [f_Mo_read_84]
      by_cases q : v4.toInt = 2048
      · exact hQ n br1 c1 v4 q (fun j hj hj2 => h4 j hj (by omega)) (fun j hj => h5 j (by omega))
      · simp only [g_Mo_read_84, clamp_eq]
        refine ok_le (fun c => by omega) (fun _ => ?_)
        have hcv := hc v4.toInt.toNat (by omega) (by omega)
        have h5v := h5 v4.toInt.toNat (by omega)
        rw [h5v.1, h5v.2]
        refine ok_in (by omega) (ok_v ?_)
        refine ok_in (by omega) (ok_v ?_)
        refine ok_add (by omega) (fun x24 e24 => ?_)
        refine ok_in (by omega) (ok_in (by omega) ?_)
        refine ok_add (by omega) (fun x25 e25 => ih _ _ x25 (by omega) (by omega) (by omega) (fun j hj hj2 => ?_) (fun j hj => ?_))
        · by_cases qj : j = v4.toInt.toNat
          · rw [qj, upd_is, upd_is]; exact ⟨by omega, rfl⟩
          · rw [upd_no qj, upd_no qj]; exact h4 j hj (by omega)
        · rw [upd_no (by omega), upd_no (by omega)]; exact h5 j (by omega)
  exact key F brF cF 1024 (by omega) (by omega) (by omega) (fun j hj hj2 => by omega) (fun _ _ => ⟨rfl, rfl⟩)
set_option maxHeartbeats 4000000 in
theorem s_read {F : Nat} (hF : 1000000 ≤ F) {m : Nat} {w h : Nat → Nat} {lr : Nat} {ov sc cn nodes st lc ly a1 a2 a3 a4 a5 a6 th bds size P ov2 wr bg en rm wg ct p0 p1 : Int32} {nb nn sN leN abN wN aN nN fN pN tN lN iP iN iL iK oP oN oL oK outN : Nat} {sR bF leF abF wF aF nF fF pF tF lF ip inu il ik op onu ol ok B beF wiF hiF fiF miF LF KF brF cF toF WF oF LeF lyF wpF : Nat → Int32} {X : Int} {out : Nat → Int64}
    (hnb : nb = bbase w h m ∧ nn = nbase w h m) (hG : Geo m w h) (hA : GA m w h abF) (hL : GL m w h leF) (hm : cn.toInt = m ∧ bds.toInt = m ∧ nodes.toInt = nbase w h m) (hb : ∀ j, j ≤ m → (bF j).toInt = bbase w h j ∧ (beF j).toInt = bbase w h j) (hwi : ∀ i, i < m → (wiF i).toInt = w i ∧ (hiF i).toInt = h i) (hs : bbase w h m ≤ leN ∧ nbase w h m ≤ abN) (hZ : VZ (bbase w h m) (nbase w h m) wN aN nN fN pN tN lN iP iN iL iK oP oN oL oK) (ho : outN = 1) (hS : VS sc sN sR size B) (hly : lyF 1 = ly ∧ ly.toInt = lr ∧ lr ≤ 255) (hov : ov2 = ov)
    (hR : VR m w h nb lr ov lc lN wF aF nF fF pF lF inu il ik ol ok cF WF brF fiF miF toF P oF LeF LF KF) (hd : VRd nb cF WF brF fiF miF toF) (hVL : VL P oF toF) (hP : P.toInt ≤ 8200) (hW : (∀ b, b < nb → (toF b).toInt ≤ (wpF b).toInt) ∧ (∀ b, nb ≤ b → b < 1024 → (toF b).toInt = 0) ∧ sumI wpF nb = X ∧ X ≤ 4096) :
    Ok (f_Law_read F ov sc sN sR cn nodes st 4 bF leN leF abN abF lc ly wN wF aN aF nN nF fN fF pN pF tN tF lN lF iP ip iN inu iL il iK ik oP op oN onu oL ol oK ok a1 a2 a3 a4 a5 a6 outN out p0 p1) (fun u => Ok (f_Mo_read F th st bds size P ov2 wr bg en rm wg ct 262144 B 4 beF 3 wiF 3 hiF 2048 fiF 2048 miF 24576 LF 24576 KF 2048 brF 2048 cF 2048 toF 2048 WF 8200 oF 8200 LeF 2 lyF p0 p1) (fun v => (¬ (0 ≤ p0.toInt ∧ 0 ≤ p1.toInt ∧ p0.toInt + p1.toInt ≤ sc.toInt) ∧ u = (1, 6, 1, ov, lc, ly, wF, aF, nF, fF, pF, tF, lN, lF, ip, iN, inu, iL, il, iK, ik, op, oN, onu, oL, ol, oK, ok, a1, a2, a3, a4, a5, a6, out) ∧ v = (0, 1, size, P, ov2, wr, bg, en, rm, wg, ct, B, fiF, miF, LF, KF, brF, cF, toF, WF, oF, LeF, lyF)) ∨ ((0 ≤ p0.toInt ∧ 0 ≤ p1.toInt ∧ p0.toInt + p1.toInt ≤ sc.toInt) ∧ (¬ ov.toInt = 0 ∨ lr = 255) ∧ u = (1, 6, 2, ov, lc, ly, wF, aF, nF, fF, pF, tF, lN, lF, ip, iN, inu, iL, il, iK, ik, op, oN, onu, oL, ol, oK, ok, a1, a2, a3, a4, a5, a6, out) ∧ v = (0, 2, size, P, ov2, wr, bg, en, rm, wg, ct, B, fiF, miF, LF, KF, brF, cF, toF, WF, oF, LeF, lyF)) ∨ ((0 ≤ p0.toInt ∧ 0 ≤ p1.toInt ∧ p0.toInt + p1.toInt ≤ sc.toInt) ∧ ov.toInt = 0 ∧ lr < 255 ∧ (GOODR m w h nb lr lN ov ov2 iN iL iK oN oL oK size P B cF brF oF LeF toF fiF miF WF LF KF lyF u v ∨ BADR nb nn lN ly iN iL iK oN oL oK size P B cF brF oF LeF toF fiF miF WF LF KF lyF u v)))) := by
  have L := lits
  have l255 : (255 : Int32).toInt = 255 := by decide
  have l1024 : (1024 : Int32).toInt = 1024 := by decide
  have l2048 : (2048 : Int32).toInt = 2048 := by decide
  have g3 := hG.1
  have hmax := hG.max
  have hnb2 := hG.2.2
  have hp0 := ti_hi p0
  have hp1 := ti_hi p1
  obtain ⟨z1, z2, z3, z4, z5, z6⟩ := hZ
  obtain ⟨s1, s2, s3, s4, s5, s6, s7, s8⟩ := hS
  subst s1
  subst hov
  have thr : ∀ s0 sx k : Int32, ((¬ sx.toInt = 0 ∧ k = 1) ∨ (sx.toInt = 0 ∧ ¬ s0.toInt = 0 ∧ k = 2)) → Ok (g_Mo_read_70 F st bds 262144 4 beF 3 wiF 3 hiF 2048 2048 24576 24576 2048 2048 2048 2048 8200 8200 2 th sc P ov2 wr bg en rm wg ct B fiF miF LF KF brF cF toF WF oF LeF lyF p0 p1 s0 sx) (fun v => v = (0, k, sc, P, ov2, wr, bg, en, rm, wg, ct, B, fiF, miF, LF, KF, brF, cF, toF, WF, oF, LeF, lyF)) := by
    intro s0 sx k hk
    simp only [g_Mo_read_70]
    refine ok_bm w_Mo_throwing (fun u26 e26 => ?_)
    refine ok_eq (fun c => by omega) (fun _ => ok_s ?_)
    rcases hk with ⟨q1, q2⟩ | ⟨q1, q2, q3⟩
    · rw [q2, show u26.2 = 1 from ti_ofI (by omega)]
    · rw [q3, show u26.2 = 2 from ti_ofI (by omega)]
  have ref : ∀ Q : Int32 × Int32 × Int32 × Int32 × Int32 × Int32 × Int32 × Int32 × Int32 × Int32 × Int32 × (Nat → Int32) × (Nat → Int32) × (Nat → Int32) × (Nat → Int32) × (Nat → Int32) × (Nat → Int32) × (Nat → Int32) × (Nat → Int32) × (Nat → Int32) × (Nat → Int32) × (Nat → Int32) × (Nat → Int32) → Prop, (¬ (0 ≤ p0.toInt ∧ 0 ≤ p1.toInt ∧ p0.toInt + p1.toInt ≤ sc.toInt) → Q (0, 1, sc, P, ov2, wr, bg, en, rm, wg, ct, B, fiF, miF, LF, KF, brF, cF, toF, WF, oF, LeF, lyF)) → ((0 ≤ p0.toInt ∧ 0 ≤ p1.toInt ∧ p0.toInt + p1.toInt ≤ sc.toInt) → (¬ ov2.toInt = 0 ∨ lr = 255) → Q (0, 2, sc, P, ov2, wr, bg, en, rm, wg, ct, B, fiF, miF, LF, KF, brF, cF, toF, WF, oF, LeF, lyF)) → ((0 ≤ p0.toInt ∧ 0 ≤ p1.toInt ∧ p0.toInt + p1.toInt ≤ sc.toInt) → ov2.toInt = 0 → lr < 255 → Ok (g_Mo_read_70 F st bds 262144 4 beF 3 wiF 3 hiF 2048 2048 24576 24576 2048 2048 2048 2048 8200 8200 2 th sc P ov2 wr bg en rm wg ct B fiF miF LF KF brF cF toF WF oF LeF lyF p0 p1 0 0) Q) → Ok (f_Mo_read F th st bds sc P ov2 wr bg en rm wg ct 262144 B 4 beF 3 wiF 3 hiF 2048 fiF 2048 miF 24576 LF 24576 KF 2048 brF 2048 cF 2048 toF 2048 WF 8200 oF 8200 LeF 2 lyF p0 p1) Q := by
    intro Q h1 h2 h3
    simp only [f_Mo_read, g_Mo_read_30, g_Mo_read_31, g_Mo_read_42, g_Mo_read_65, g_Mo_read_69]
    have bad : ¬ (0 ≤ p0.toInt ∧ 0 ≤ p1.toInt ∧ p0.toInt + p1.toInt ≤ sc.toInt) → Ok (if (0 : Int32) = 0 then (if (0 : Int32) = 0 then g_Mo_read_70 F st bds 262144 4 beF 3 wiF 3 hiF 2048 2048 24576 24576 2048 2048 2048 2048 8200 8200 2 th sc P ov2 wr bg en rm wg ct B fiF miF LF KF brF cF toF WF oF LeF lyF p0 p1 0 1 else none) else none) Q := by
      intro hn
      rw [if_pos rfl, if_pos rfl]
      exact ok_m (thr 0 1 1 (Or.inl ⟨by omega, rfl⟩)) (fun v hv => by rw [hv]; exact h1 hn)
    have bad2 : ¬ (0 ≤ p0.toInt ∧ 0 ≤ p1.toInt ∧ p0.toInt + p1.toInt ≤ sc.toInt) → Ok (g_Mo_read_70 F st bds 262144 4 beF 3 wiF 3 hiF 2048 2048 24576 24576 2048 2048 2048 2048 8200 8200 2 th sc P ov2 wr bg en rm wg ct B fiF miF LF KF brF cF toF WF oF LeF lyF p0 p1 0 1) Q := fun hn => ok_m (thr 0 1 1 (Or.inl ⟨by omega, rfl⟩)) (fun v hv => by rw [hv]; exact h1 hn)
    refine ok_lt (fun c => ok_T (ok_T (bad2 (by omega)))) (fun c0 => ?_)
    refine ok_lt (fun c => ok_T (ok_T (bad2 (by omega)))) (fun c1 => ?_)
    refine ok_lt (fun c => ok_T (ok_T (bad2 (by omega)))) (fun c2 => ?_)
    refine ok_sub (by omega) (fun x28 e28 => ?_)
    refine ok_lt (fun c => ok_T (ok_T (bad2 (by omega)))) (fun c3 => ?_)
    refine ok_eq (fun c => by omega) (fun _ => ?_)
    refine ok_eq (fun c => by omega) (fun _ => ?_)
    have hTH : (0 ≤ p0.toInt ∧ 0 ≤ p1.toInt ∧ p0.toInt + p1.toInt ≤ sc.toInt) := by omega
    refine ok_eq (fun c4 => ?_) (fun c4 => ok_m (thr 1 0 2 (Or.inr ⟨L.2.1, by omega, rfl⟩)) (fun v hv => by rw [hv]; exact h2 hTH (Or.inl (by omega))))
    refine ok_in (by omega) (ok_l (fun x27 e27 => ?_))
    have e27' : x27 = ly := by rw [e27]; exact hly.1
    subst e27'
    refine ok_eq (fun c5 => ok_m (thr 1 0 2 (Or.inr ⟨L.2.1, by omega, rfl⟩)) (fun v hv => by rw [hv]; exact h2 hTH (Or.inr (by omega)))) (fun c5 => h3 hTH (by omega) (by omega))
  simp only [f_Law_read]
  refine ok_bs (ok_m2 (P := fun u12 v => (¬ (0 ≤ p0.toInt ∧ 0 ≤ p1.toInt ∧ p0.toInt + p1.toInt ≤ sc.toInt) ∧ u12 = (1, 6, 1, 0, ov2, lc, ly, wF, aF, nF, fF, pF, tF, lN, lF, ip, iN, inu, iL, il, iK, ik, op, oN, onu, oL, ol, oK, ok, a1, a2, a3, a4, a5, a6) ∧ v = (0, 1, sc, P, ov2, wr, bg, en, rm, wg, ct, B, fiF, miF, LF, KF, brF, cF, toF, WF, oF, LeF, lyF)) ∨ ((0 ≤ p0.toInt ∧ 0 ≤ p1.toInt ∧ p0.toInt + p1.toInt ≤ sc.toInt) ∧ (¬ ov2.toInt = 0 ∨ lr = 255) ∧ u12 = (1, 6, 2, 0, ov2, lc, ly, wF, aF, nF, fF, pF, tF, lN, lF, ip, iN, inu, iL, il, iK, ik, op, oN, onu, oL, ol, oK, ok, a1, a2, a3, a4, a5, a6) ∧ v = (0, 2, sc, P, ov2, wr, bg, en, rm, wg, ct, B, fiF, miF, LF, KF, brF, cF, toF, WF, oF, LeF, lyF)) ∨ ((0 ≤ p0.toInt ∧ 0 ≤ p1.toInt ∧ p0.toInt + p1.toInt ≤ sc.toInt) ∧ ov2.toInt = 0 ∧ lr < 255 ∧ ((u12.2.2.1 = 0 ∧ ∀ o : Nat → Int64, o (0 : Int32).toNatClampNeg = u12.2.2.2.1.toInt64 → GOODR m w h nb lr lN ov2 ov2 iN iL iK oN oL oK sc P B cF brF oF LeF toF fiF miF WF LF KF lyF (u12.1, u12.2.1, 0, u12.2.2.2.2.1, u12.2.2.2.2.2.1, u12.2.2.2.2.2.2.1, u12.2.2.2.2.2.2.2.1, u12.2.2.2.2.2.2.2.2.1, u12.2.2.2.2.2.2.2.2.2.1, u12.2.2.2.2.2.2.2.2.2.2.1, u12.2.2.2.2.2.2.2.2.2.2.2.1, u12.2.2.2.2.2.2.2.2.2.2.2.2.1, u12.2.2.2.2.2.2.2.2.2.2.2.2.2.1, u12.2.2.2.2.2.2.2.2.2.2.2.2.2.2.1, u12.2.2.2.2.2.2.2.2.2.2.2.2.2.2.2.1, u12.2.2.2.2.2.2.2.2.2.2.2.2.2.2.2.2.1, u12.2.2.2.2.2.2.2.2.2.2.2.2.2.2.2.2.2.1, u12.2.2.2.2.2.2.2.2.2.2.2.2.2.2.2.2.2.2.1, u12.2.2.2.2.2.2.2.2.2.2.2.2.2.2.2.2.2.2.2.1, u12.2.2.2.2.2.2.2.2.2.2.2.2.2.2.2.2.2.2.2.2.1, u12.2.2.2.2.2.2.2.2.2.2.2.2.2.2.2.2.2.2.2.2.2.1, u12.2.2.2.2.2.2.2.2.2.2.2.2.2.2.2.2.2.2.2.2.2.2.1, u12.2.2.2.2.2.2.2.2.2.2.2.2.2.2.2.2.2.2.2.2.2.2.2.1, u12.2.2.2.2.2.2.2.2.2.2.2.2.2.2.2.2.2.2.2.2.2.2.2.2.1, u12.2.2.2.2.2.2.2.2.2.2.2.2.2.2.2.2.2.2.2.2.2.2.2.2.2.1, u12.2.2.2.2.2.2.2.2.2.2.2.2.2.2.2.2.2.2.2.2.2.2.2.2.2.2.1, u12.2.2.2.2.2.2.2.2.2.2.2.2.2.2.2.2.2.2.2.2.2.2.2.2.2.2.2.1, u12.2.2.2.2.2.2.2.2.2.2.2.2.2.2.2.2.2.2.2.2.2.2.2.2.2.2.2.2.1, u12.2.2.2.2.2.2.2.2.2.2.2.2.2.2.2.2.2.2.2.2.2.2.2.2.2.2.2.2.2.1, u12.2.2.2.2.2.2.2.2.2.2.2.2.2.2.2.2.2.2.2.2.2.2.2.2.2.2.2.2.2.2.1, u12.2.2.2.2.2.2.2.2.2.2.2.2.2.2.2.2.2.2.2.2.2.2.2.2.2.2.2.2.2.2.2.1, u12.2.2.2.2.2.2.2.2.2.2.2.2.2.2.2.2.2.2.2.2.2.2.2.2.2.2.2.2.2.2.2.2.1, u12.2.2.2.2.2.2.2.2.2.2.2.2.2.2.2.2.2.2.2.2.2.2.2.2.2.2.2.2.2.2.2.2.2.1, u12.2.2.2.2.2.2.2.2.2.2.2.2.2.2.2.2.2.2.2.2.2.2.2.2.2.2.2.2.2.2.2.2.2.2, o) v) ∨ (u12.2.2.1 = 4 ∧ BADR nb nn lN ly iN iL iK oN oL oK sc P B cF brF oF LeF toF fiF miF WF LF KF lyF (u12.1, u12.2.1, 3, u12.2.2.2.2.1, u12.2.2.2.2.2.1, u12.2.2.2.2.2.2.1, u12.2.2.2.2.2.2.2.1, u12.2.2.2.2.2.2.2.2.1, u12.2.2.2.2.2.2.2.2.2.1, u12.2.2.2.2.2.2.2.2.2.2.1, u12.2.2.2.2.2.2.2.2.2.2.2.1, u12.2.2.2.2.2.2.2.2.2.2.2.2.1, u12.2.2.2.2.2.2.2.2.2.2.2.2.2.1, u12.2.2.2.2.2.2.2.2.2.2.2.2.2.2.1, u12.2.2.2.2.2.2.2.2.2.2.2.2.2.2.2.1, u12.2.2.2.2.2.2.2.2.2.2.2.2.2.2.2.2.1, u12.2.2.2.2.2.2.2.2.2.2.2.2.2.2.2.2.2.1, u12.2.2.2.2.2.2.2.2.2.2.2.2.2.2.2.2.2.2.1, u12.2.2.2.2.2.2.2.2.2.2.2.2.2.2.2.2.2.2.2.1, u12.2.2.2.2.2.2.2.2.2.2.2.2.2.2.2.2.2.2.2.2.1, u12.2.2.2.2.2.2.2.2.2.2.2.2.2.2.2.2.2.2.2.2.2.1, u12.2.2.2.2.2.2.2.2.2.2.2.2.2.2.2.2.2.2.2.2.2.2.1, u12.2.2.2.2.2.2.2.2.2.2.2.2.2.2.2.2.2.2.2.2.2.2.2.1, u12.2.2.2.2.2.2.2.2.2.2.2.2.2.2.2.2.2.2.2.2.2.2.2.2.1, u12.2.2.2.2.2.2.2.2.2.2.2.2.2.2.2.2.2.2.2.2.2.2.2.2.2.1, u12.2.2.2.2.2.2.2.2.2.2.2.2.2.2.2.2.2.2.2.2.2.2.2.2.2.2.1, u12.2.2.2.2.2.2.2.2.2.2.2.2.2.2.2.2.2.2.2.2.2.2.2.2.2.2.2.1, u12.2.2.2.2.2.2.2.2.2.2.2.2.2.2.2.2.2.2.2.2.2.2.2.2.2.2.2.2.1, u12.2.2.2.2.2.2.2.2.2.2.2.2.2.2.2.2.2.2.2.2.2.2.2.2.2.2.2.2.2.1, u12.2.2.2.2.2.2.2.2.2.2.2.2.2.2.2.2.2.2.2.2.2.2.2.2.2.2.2.2.2.2.1, u12.2.2.2.2.2.2.2.2.2.2.2.2.2.2.2.2.2.2.2.2.2.2.2.2.2.2.2.2.2.2.2.1, u12.2.2.2.2.2.2.2.2.2.2.2.2.2.2.2.2.2.2.2.2.2.2.2.2.2.2.2.2.2.2.2.2.1, u12.2.2.2.2.2.2.2.2.2.2.2.2.2.2.2.2.2.2.2.2.2.2.2.2.2.2.2.2.2.2.2.2.2.1, u12.2.2.2.2.2.2.2.2.2.2.2.2.2.2.2.2.2.2.2.2.2.2.2.2.2.2.2.2.2.2.2.2.2.2, out) v)))) ?_ (fun u12 v hP' => ?_))
  · simp only [f_PH_read, g_PH_read_21, g_PH_read_51]
    refine ok_lt (fun c => ok_s (ref _ (fun _ => Or.inl ⟨by omega, rfl, rfl⟩) (fun z => by omega) (fun z => by omega))) (fun c0 => ?_)
    refine ok_lt (fun c => ok_s (ref _ (fun _ => Or.inl ⟨by omega, rfl, rfl⟩) (fun z => by omega) (fun z => by omega))) (fun c1 => ?_)
    refine ok_sub (by omega) (fun x28 e28 => ?_)
    refine ok_le (fun c2 => ?_) (fun c => ok_s (ref _ (fun _ => Or.inl ⟨by omega, rfl, rfl⟩) (fun z => by omega) (fun z => by omega)))
    refine ok_eq (fun c3 => ?_) (fun c => ok_s (ref _ (fun z => absurd (by omega) z) (fun _ _ => Or.inr (Or.inl ⟨by omega, by omega, rfl, rfl⟩)) (fun z => by omega)))
    refine ok_lt (fun c4 => ?_) (fun c => ok_s (ref _ (fun z => absurd (by omega) z) (fun _ _ => Or.inr (Or.inl ⟨by omega, by omega, rfl, rfl⟩)) (fun _ _ z => by omega)))
    obtain ⟨r1, r2, r3, r4, r5, r6⟩ := hR
    obtain ⟨r7, r8, r9⟩ := r5 (by omega)
    refine ok_bm (w_emptyPacket hF ⟨hm.1, by omega⟩ (hb m (Nat.le_refl _)).1 ⟨z1.2.2.1, z1.2.2.2.1, z1.2.2.2.2.1, z1.2.2.2.2.2, by omega⟩) (fun u29 e29 => ?_)
    simp only [f_Source_open]
    refine ok_b (ok_add (by omega) (fun x2 e2 => ok_s ?_))
    dsimp only
    refine ok_swap (ref _ (fun z => absurd (by omega) z) (fun _ z => by omega) (fun _ _ _ => ?_))
    simp only [g_Mo_read_70]
    refine ok_bm w_Mo_throwing (fun u26 e26 => ?_)
    refine ok_eq (fun _ => ?_) (fun c => by omega)
    refine w_read84 hF (fun j hj hj2 => ?_) (fun n br1 c1 v4 k1 k2 k3 => ?_)
    · by_cases q : j < 1024 + nb
      · have y1 := r1.2.2 (j - 1024) (by omega)
        have y2 := r2 (j - 1024) (by omega)
        rw [show 1024 + (j - 1024) = j by omega] at y1 y2
        omega
      · have y1 := hd (j - 1024) (by omega) (by omega)
        rw [show 1024 + (j - 1024) = j by omega] at y1
        omega
    simp only [g_Mo_read_84]
    refine ok_le (fun _ => ?_) (fun c => by omega)
    refine ok_bm (w_Mo_forget hF ⟨hVL.1, hP, hP, by omega⟩ ⟨by omega, by omega, by omega, by omega⟩) (fun u15 e15 => ?_)
    rw [l1024, l2048] at e15
    obtain ⟨f1, f2, f3⟩ := e15
    refine ok_add (by omega) (fun x16 e16 => ok_swap ?_)
    have e16' : x16 = x2 := ti_ofI (by omega)
    subst e16'
    have noR : ∀ p, p < u15.1.toInt.toNat → ¬ (1024 ≤ (u15.2.1 p).toInt ∧ (u15.2.1 p).toInt < 2048) ∧ 0 ≤ (u15.2.1 p).toInt ∧ (u15.2.1 p).toInt < 2048 := by
      intro p hp
      obtain ⟨k, y1, y2, y3, y4, _⟩ := f2.2.1 p hp
      have := hVL.2.1 k (by omega)
      rw [y2]
      try dsimp only
      exact ⟨y4, this⟩
    have cz : ∀ b, b < 1024 → cnt u15.2.1 ((1024 + b : Nat) : Int) u15.1.toInt.toNat = 0 := fun b hb' => cnt_zero (fun j hj e => (noR j hj).1 (by omega))
    have hP4 : u15.1.toInt.toNat ≤ 4096 := by
      have y1 := sumC_all (o := u15.2.1) (M := 2048) (P := u15.1.toInt.toNat) (fun p hp => (noR p hp).2)
      have y2 := sumC_split (o := u15.2.1) (P := u15.1.toInt.toNat) (n := nb) (X := X) (Y := 0) (f := wpF) (g := fun _ => 0) (by omega) (fun b hb' => by rw [f2.2.2 ((b : Nat) : Int) (by omega), ← hVL.2.2 b (by omega)]; exact hW.1 b hb') (fun b h6 h7 => by have := hVL.2.2 b (by omega); rw [hW.2.1 b h6 h7] at this; rw [f2.2.2 ((b : Nat) : Int) (by omega)]; omega) (fun b hb' => by rw [cz b (by omega)]; exact Int.le_refl _) (fun b h6 h7 => cz b (by omega)) hW.2.2.1 (sumI_0 (fun _ _ => L.2.1))
      omega
    have t1024 : ∀ b, b < 1024 → (u15.2.2.2 (1024 + b)).toInt = 0 := fun b hb' => by rw [f3 (1024 + b), if_pos (by omega)]; exact L.2.1
    have hI1 : IRr nb 0 c1 wF aF u29.2.2.2.1 u29.2.1 br1 u15.2.2.2 WF := by
      try dsimp only
      refine ⟨r1.1, fun b _ hb' => ?_, fun b hb' => by omega⟩
      have y1 := r1.2.2 b hb'
      have y2 := k2 (1024 + b) (by omega) (by omega)
      have y3 := e29.2 b (by omega)
      try dsimp only
      exact ⟨ti_ofI (by omega), by rw [y3.1]; exact L.2.1, by rw [y3.2.2.1]; exact L.2.1, by rw [y2.2]; exact L.2.1, t1024 b (by omega)⟩
    have hLI0 : LI nb (0 : Int32).toInt u29.2.2.1 u29.2.2.2.1 := by
      have y3 := e29.2
      try dsimp only
      refine ⟨fun b hb' => ?_, fun b b' hb1 hb2 _ h0 => ?_, ?_, by omega, by omega⟩
      · rw [(y3 b (by omega)).2.2.1, (y3 b (by omega)).2.1]; omega
      · rw [(y3 b (by omega)).2.2.1] at h0; omega
      · rw [L.2.1]; exact sumI_0 (fun x hx => by rw [(y3 x (by omega)).2.2.1]; exact L.2.1)
    have hrel : RelR0 p0 p0 x16 0 0 0 sc sN sR x16 p0 p0 0 0 B := by
      try dsimp only
      refine ⟨rfl, rfl, by omega, by omega, by omega, s3, s4, s6, s7, s8, Or.inl ⟨L.2.1, L.2.1, rfl, rfl, Int.le_refl _, by omega, by omega, by omega, by omega, Or.inr ⟨rfl, L.2.1⟩⟩⟩
    rw [e29.1]
    refine ok_b2 (s_headR (P0 := u15.1.toInt.toNat) (o0 := u15.2.1) (l0 := u15.2.2.1) (fi0 := fiF) (mi0 := miF) (br0 := br1) (to0 := u15.2.2.2) (W0 := WF) (L0 := LF) (K0 := KF) (nb := nb) (layer := lr) hF ⟨⟨hG, hA, hL, hnb.1, by omega⟩, fun i hi => ⟨(hwi i hi).1, (hwi i hi).2, (hb i (by omega)).2⟩, fun b hb' => ?_⟩ ⟨by omega, hs.2, by omega, by omega, by omega, by omega, by omega, by omega, z4.1, z5.1, z5.2.1, z5.2.2.1, z4.2, z5.2.2.2.1, z5.2.2.2.2.1, z5.2.2.2.2.2⟩ ⟨hm.1, by omega⟩ (by rw [hnb.1]; exact (hb m (Nat.le_refl _)).1) hly.2.1 L.2.1 hP4 hm.2.1 (by rw [hly.1]; exact hly.2.1) (by rw [hnb.1]; exact (hb m (Nat.le_refl _)).2) hI1 r3 r7 ⟨⟨hLI0, by omega, z3.1, z3.2, rfl, by omega⟩, fun p b h6 h7 => by omega, fun b hb' => ?_⟩ ⟨fun _ _ => ⟨rfl, rfl, rfl, rfl, rfl⟩, ⟨by omega, by have := f2.1; omega⟩, fun _ _ => ⟨rfl, rfl⟩, fun k h6 h7 => by omega, fun _ _ => ⟨rfl, rfl⟩⟩ hrel) (fun z y hq => ?_)
    · have y1 := r1.2.2 b hb'
      have y2 := k2 (1024 + b) (by omega) (by omega)
      have y3 := r2 b hb'
      omega
    · rw [t1024 b (by omega), cz b (by omega)]; rfl
    have hbase : ∀ G : Prop, G → u15.1.toInt.toNat ≤ 4096 ∧ (∀ j, (j < 1024 ∨ 2048 ≤ j) → c1 j = cF j ∧ br1 j = brF j) ∧ (∀ j, 1024 ≤ j → j < 2048 → (c1 j).toInt = (cF j).toInt + (brF j).toInt ∧ br1 j = 0) ∧ Kept 1024 2048 oF LeF P.toInt.toNat u15.2.1 u15.2.2.1 u15.1.toInt.toNat ∧ (∀ j : Nat, u15.2.2.2 j = if 1024 ≤ j ∧ j < 2048 then 0 else toF j) ∧ G := by
      intro G hg
      try dsimp only
      refine ⟨hP4, k3, k2, f2, fun j => ?_, hg⟩
      rw [f3 j]
      by_cases q : 1024 ≤ j ∧ j < 2048
      · rw [if_pos (by omega), if_pos q]
      · rw [if_neg (by omega), if_neg q]
    have badEnd : ∀ (lN' nc ns : Nat) (lcx q1 q2 q3 q4 q5 q6 : Int32) (w' a' n' f' p' t' l' ip' inu' il' ik' op' ol' ok' : Nat → Int32), 16 * nc + lN ≤ lN' → ns + 2 * lN ≤ 2 * lN' → lN' ≤ 8192 → FB nb u15.1.toInt.toNat u15.2.1 u15.2.2.1 fiF miF br1 u15.2.2.2 WF LF KF B y → Ok (g_PH_read_108 F cn nodes 4 bF wN aN nN fN pN tN ov2 lcx ly w' a' n' f' p' t' lN' l' ip' iN inu' iL il' iK ik' op' oN onu oL ol' oK ok' q1 q2 q3 q4 q5 q6) (fun u' => Ok (bd (f_Mo_fresh F y.1 2048 c1 2048 y.2.2.2.2.2.2.2.2.2.2.2.2.1 2048 y.2.2.2.2.2.2.2.2.2.2.1 2048 y.2.2.2.2.2.2.1 2048 y.2.2.2.2.2.2.2.1 8200 y.2.2.2.2.2.2.2.2.2.2.2.2.2.1 8200 y.2.2.2.2.2.2.2.2.2.2.2.2.2.2 2048 y.2.2.2.2.2.2.2.2.2.2.2.1 1024) fun u21 => some (0, 3, sc, u21.1, 1, 0, p0, y.2.1, y.2.2.1, y.2.2.2.1, y.2.2.2.2.1, y.2.2.2.2.2.1, u21.2.2.2.2.1, u21.2.2.2.2.2.1, y.2.2.2.2.2.2.2.2.1, y.2.2.2.2.2.2.2.2.2.1, u21.2.2.2.1, u21.2.1, u21.2.2.2.2.2.2.2.2, u21.2.2.1, u21.2.2.2.2.2.2.1, u21.2.2.2.2.2.2.2.1, lyF)) (fun v => u'.2.2.1 = 4 ∧ BADR nb nn lN ly iN iL iK oN oL oK sc P B cF brF oF LeF toF fiF miF WF LF KF lyF (u'.1 + nc, u'.2.1 + ns, 3, u'.2.2.2.2.1, u'.2.2.2.2.2.1, u'.2.2.2.2.2.2.1, u'.2.2.2.2.2.2.2.1, u'.2.2.2.2.2.2.2.2.1, u'.2.2.2.2.2.2.2.2.2.1, u'.2.2.2.2.2.2.2.2.2.2.1, u'.2.2.2.2.2.2.2.2.2.2.2.1, u'.2.2.2.2.2.2.2.2.2.2.2.2.1, u'.2.2.2.2.2.2.2.2.2.2.2.2.2.1, u'.2.2.2.2.2.2.2.2.2.2.2.2.2.2.1, u'.2.2.2.2.2.2.2.2.2.2.2.2.2.2.2.1, u'.2.2.2.2.2.2.2.2.2.2.2.2.2.2.2.2.1, u'.2.2.2.2.2.2.2.2.2.2.2.2.2.2.2.2.2.1, u'.2.2.2.2.2.2.2.2.2.2.2.2.2.2.2.2.2.2.1, u'.2.2.2.2.2.2.2.2.2.2.2.2.2.2.2.2.2.2.2.1, u'.2.2.2.2.2.2.2.2.2.2.2.2.2.2.2.2.2.2.2.2.1, u'.2.2.2.2.2.2.2.2.2.2.2.2.2.2.2.2.2.2.2.2.2.1, u'.2.2.2.2.2.2.2.2.2.2.2.2.2.2.2.2.2.2.2.2.2.2.1, u'.2.2.2.2.2.2.2.2.2.2.2.2.2.2.2.2.2.2.2.2.2.2.2.1, u'.2.2.2.2.2.2.2.2.2.2.2.2.2.2.2.2.2.2.2.2.2.2.2.2.1, u'.2.2.2.2.2.2.2.2.2.2.2.2.2.2.2.2.2.2.2.2.2.2.2.2.2.1, u'.2.2.2.2.2.2.2.2.2.2.2.2.2.2.2.2.2.2.2.2.2.2.2.2.2.2.1, u'.2.2.2.2.2.2.2.2.2.2.2.2.2.2.2.2.2.2.2.2.2.2.2.2.2.2.2.1, u'.2.2.2.2.2.2.2.2.2.2.2.2.2.2.2.2.2.2.2.2.2.2.2.2.2.2.2.2.1, u'.2.2.2.2.2.2.2.2.2.2.2.2.2.2.2.2.2.2.2.2.2.2.2.2.2.2.2.2.2.1, u'.2.2.2.2.2.2.2.2.2.2.2.2.2.2.2.2.2.2.2.2.2.2.2.2.2.2.2.2.2.2.1, u'.2.2.2.2.2.2.2.2.2.2.2.2.2.2.2.2.2.2.2.2.2.2.2.2.2.2.2.2.2.2.2.1, u'.2.2.2.2.2.2.2.2.2.2.2.2.2.2.2.2.2.2.2.2.2.2.2.2.2.2.2.2.2.2.2.2.1, u'.2.2.2.2.2.2.2.2.2.2.2.2.2.2.2.2.2.2.2.2.2.2.2.2.2.2.2.2.2.2.2.2.2.1, u'.2.2.2.2.2.2.2.2.2.2.2.2.2.2.2.2.2.2.2.2.2.2.2.2.2.2.2.2.2.2.2.2.2.2, out) v)) := by
      intro lN' nc ns lcx q1 q2 q3 q4 q5 q6 w' a' n' f' p' t' l' ip' inu' il' ik' op' ol' ok' b1 b2 b3 hFB
      obtain ⟨d1, d2, d3, d4, d5, d6, d7⟩ := hFB
      simp only [g_PH_read_108]
      refine ok_bm (w_Sforget (m := m) (nb := nb) (nn := nn) (b0 := 0) (f0 := 0) hF ⟨hm.1, by omega⟩ (by rw [hnb.1]; exact (hb m (Nat.le_refl _)).1) ⟨by rw [hnb.2]; exact hm.2.2, by omega⟩ ⟨L.2.1, Nat.zero_le _, L.2.1, Nat.zero_le _⟩ ⟨by omega, by omega, by omega, by omega, by omega, by omega, by omega⟩ ⟨Nat.zero_le _, Nat.zero_le _, Nat.zero_le _, Nat.zero_le _, Nat.zero_le _, Nat.zero_le _⟩ z6) (fun u19 e19 => ok_c (ok_s ?_))
      unfold QSF at e19
      obtain ⟨i1, i2, i3, i4, i5, i6, i7⟩ := e19
      refine ok_bm (m_fresh hF (Or.inr l1024) ⟨by omega, d4.2⟩) (fun x ex => ok_s ⟨rfl, ?_⟩)
      rw [l1024, show (1024 : Int) + 1024 = 2048 from rfl] at ex
      obtain ⟨j1, j2, j3, j4, j5⟩ := ex
      have d45 : u15.1.toInt.toNat ≤ y.1.toInt.toNat := by omega
      unfold BADR
      dsimp only
      try dsimp only
      refine ⟨rfl, rfl, rfl, rfl, rfl, rfl, rfl, d2, ⟨by omega, b3⟩, ⟨by omega, by omega⟩, i3, fun b hb' => i5 b (Nat.zero_le _) hb', fun j hj => ?_, fun j h6 h7 => ?_, fun j hj => ?_, j1, kept_comp f2 d5 d45 (fun k h6 h7 => d6 k h6 (by omega)) j2, d7⟩
      · have y1 := j4 j (by omega)
        have y2 := d3 j (Or.inl hj)
        have y3 := k3 j (Or.inl hj)
        try dsimp only
        exact ⟨y1.1.trans y3.1, (y1.2.2.1.trans y2.2.2.1).trans y3.2, y1.2.2.2.1.trans y2.1, y1.2.2.2.2.trans y2.2.1, y1.2.1.trans y2.2.2.2.2⟩
      · have y1 := j5 j (by omega) (by omega)
        rw [if_neg (by decide)] at y1
        try dsimp only
        exact ⟨y1.1, y1.2.1, y1.2.2.1, y1.2.2.2.1, y1.2.2.2.2⟩
      · rw [j3 j]
        by_cases q : 1024 ≤ j
        · rw [if_pos (by omega), if_pos q]
        · rw [if_neg (by omega), if_neg q, (d3 j (Or.inl (by omega))).2.2.2.1, f3 j, if_neg (by omega)]
    have wrongEnd : ∀ (lcx q1 q2 q3 q4 q5 q6 : Int32) (lN' : Nat) (w' a' n' f' p' t' l' ip' inu' il' ik' op' ol' ok' : Nat → Int32) (RG : Option (Int32 × Int32 × Int32 × Int32 × Int32 × Int32 × Int32 × Int32 × Int32 × Int32 × Int32 × (Nat → Int32) × (Nat → Int32) × (Nat → Int32) × (Nat → Int32) × (Nat → Int32) × (Nat → Int32) × (Nat → Int32) × (Nat → Int32) × (Nat → Int32) × (Nat → Int32) × (Nat → Int32) × (Nat → Int32))), y.2.2.2.1.toInt = 1 → 16 * z.1 + lN ≤ lN' → z.2.1 + 2 * lN ≤ 2 * lN' → lN' ≤ 8192 → FB nb u15.1.toInt.toNat u15.2.1 u15.2.2.1 fiF miF br1 u15.2.2.2 WF LF KF B y → Ok (g_PH_read_108 F cn nodes 4 bF wN aN nN fN pN tN ov2 lcx ly w' a' n' f' p' t' lN' l' ip' iN inu' iL il' iK ik' op' oN onu oL ol' oK ok' q1 q2 q3 q4 q5 q6) (fun u' => Ok (if y.2.2.2.1 = 0 then RG else bd (f_Mo_fresh F y.1 2048 c1 2048 y.2.2.2.2.2.2.2.2.2.2.2.2.1 2048 y.2.2.2.2.2.2.2.2.2.2.1 2048 y.2.2.2.2.2.2.1 2048 y.2.2.2.2.2.2.2.1 8200 y.2.2.2.2.2.2.2.2.2.2.2.2.2.1 8200 y.2.2.2.2.2.2.2.2.2.2.2.2.2.2 2048 y.2.2.2.2.2.2.2.2.2.2.2.1 1024) fun u21 => some (0, 3, sc, u21.1, 1, 0, p0, y.2.1, y.2.2.1, y.2.2.2.1, y.2.2.2.2.1, y.2.2.2.2.2.1, u21.2.2.2.2.1, u21.2.2.2.2.2.1, y.2.2.2.2.2.2.2.2.1, y.2.2.2.2.2.2.2.2.2.1, u21.2.2.2.1, u21.2.1, u21.2.2.2.2.2.2.2.2, u21.2.2.1, u21.2.2.2.2.2.2.1, u21.2.2.2.2.2.2.2.1, lyF)) (fun v => u'.2.2.1 = 4 ∧ BADR nb nn lN ly iN iL iK oN oL oK sc P B cF brF oF LeF toF fiF miF WF LF KF lyF (u'.1 + z.1, u'.2.1 + z.2.1, 3, u'.2.2.2.2.1, u'.2.2.2.2.2.1, u'.2.2.2.2.2.2.1, u'.2.2.2.2.2.2.2.1, u'.2.2.2.2.2.2.2.2.1, u'.2.2.2.2.2.2.2.2.2.1, u'.2.2.2.2.2.2.2.2.2.2.1, u'.2.2.2.2.2.2.2.2.2.2.2.1, u'.2.2.2.2.2.2.2.2.2.2.2.2.1, u'.2.2.2.2.2.2.2.2.2.2.2.2.2.1, u'.2.2.2.2.2.2.2.2.2.2.2.2.2.2.1, u'.2.2.2.2.2.2.2.2.2.2.2.2.2.2.2.1, u'.2.2.2.2.2.2.2.2.2.2.2.2.2.2.2.2.1, u'.2.2.2.2.2.2.2.2.2.2.2.2.2.2.2.2.2.1, u'.2.2.2.2.2.2.2.2.2.2.2.2.2.2.2.2.2.2.1, u'.2.2.2.2.2.2.2.2.2.2.2.2.2.2.2.2.2.2.2.1, u'.2.2.2.2.2.2.2.2.2.2.2.2.2.2.2.2.2.2.2.2.1, u'.2.2.2.2.2.2.2.2.2.2.2.2.2.2.2.2.2.2.2.2.2.1, u'.2.2.2.2.2.2.2.2.2.2.2.2.2.2.2.2.2.2.2.2.2.2.1, u'.2.2.2.2.2.2.2.2.2.2.2.2.2.2.2.2.2.2.2.2.2.2.2.1, u'.2.2.2.2.2.2.2.2.2.2.2.2.2.2.2.2.2.2.2.2.2.2.2.2.1, u'.2.2.2.2.2.2.2.2.2.2.2.2.2.2.2.2.2.2.2.2.2.2.2.2.2.1, u'.2.2.2.2.2.2.2.2.2.2.2.2.2.2.2.2.2.2.2.2.2.2.2.2.2.2.1, u'.2.2.2.2.2.2.2.2.2.2.2.2.2.2.2.2.2.2.2.2.2.2.2.2.2.2.2.1, u'.2.2.2.2.2.2.2.2.2.2.2.2.2.2.2.2.2.2.2.2.2.2.2.2.2.2.2.2.1, u'.2.2.2.2.2.2.2.2.2.2.2.2.2.2.2.2.2.2.2.2.2.2.2.2.2.2.2.2.2.1, u'.2.2.2.2.2.2.2.2.2.2.2.2.2.2.2.2.2.2.2.2.2.2.2.2.2.2.2.2.2.2.1, u'.2.2.2.2.2.2.2.2.2.2.2.2.2.2.2.2.2.2.2.2.2.2.2.2.2.2.2.2.2.2.2.1, u'.2.2.2.2.2.2.2.2.2.2.2.2.2.2.2.2.2.2.2.2.2.2.2.2.2.2.2.2.2.2.2.2.1, u'.2.2.2.2.2.2.2.2.2.2.2.2.2.2.2.2.2.2.2.2.2.2.2.2.2.2.2.2.2.2.2.2.2.1, u'.2.2.2.2.2.2.2.2.2.2.2.2.2.2.2.2.2.2.2.2.2.2.2.2.2.2.2.2.2.2.2.2.2.2, out) v)) := by
      intro lcx q1 q2 q3 q4 q5 q6 lN' w' a' n' f' p' t' l' ip' inu' il' ik' op' ol' ok' RG hy b1 b2 b3 hFB
      exact ok_swap (ok_eq (fun c => by omega) (fun _ => ok_swap (badEnd lN' z.1 z.2.1 lcx q1 q2 q3 q4 q5 q6 w' a' n' f' p' t' l' ip' inu' il' ik' op' ol' ok' b1 b2 b3 hFB)))
    have hTH : (0 ≤ p0.toInt ∧ 0 ≤ p1.toInt ∧ p0.toInt + p1.toInt ≤ sc.toInt) := by omega
    unfold QHR at hq
    rcases hq with ⟨h1, ⟨h2, h3⟩, h4, h5, h6, h7, h8, h9, e1, q1, hrel1, hE⟩ | ⟨⟨b1, b2, b3, b4, b5, b6⟩, hFB⟩
    · refine ok_c (ok_bm (s_closeR hrel1 hE) (fun u35 e35 => ?_))
      refine ok_eq (fun c => by omega) (fun _ => ?_)
      have hl8 := h8.1
      rcases e35 with ⟨w1, w2, w3⟩ | ⟨w1, w2⟩
      · refine ok_eq (fun c => by omega) (fun _ => ?_)
        refine ok_add (by omega) (fun x36 e36 => ok_s ?_)
        refine ok_eq (fun _ => ?_) (fun c => by omega)
        refine ok_in (by omega) (ok_l (fun x18 e18 => ?_))
        have e18' : x18 = ly := by rw [e18]; exact hly.1
        refine ok_add (by rw [e18']; omega) (fun x19 e19 => ?_)
        refine ok_in (by omega) (ok_l (fun x20 e20 => ok_s (Or.inr (Or.inr ⟨hTH, by omega, by omega, Or.inl ⟨rfl, fun o ho' => ?_⟩⟩))))
        have ex : x20 = u35.1 := by
          refine ti_ofI ?_
          have hr1 := hrel1.1
          obtain ⟨m1, m2, m3, m4, m5, m6, m7, m8, m9, m10, m11⟩ := hr1
          rw [L.2.1] at m11
          rw [e20, ti_sub (by have := ti_hi u35.1; have := ti_lo u35.1; omega)]
          omega
        unfold GOODR
        dsimp only at ho' ⊢
        try dsimp only
        refine ⟨u15.1.toInt.toNat, u15.2.1, u15.2.2.1, br1, c1, u15.2.2.2, hbase _ ⟨ti_ofI (by omega), rfl, by rw [ho', ex], ⟨by omega, by omega⟩, ⟨rfl, rfl, by omega, ?_, ?_⟩, ⟨rfl, rfl, rfl, rfl, rfl, rfl⟩, ⟨rfl, h4, rfl⟩, h5, fun b hb' => ?_, h6, h7, h8, h9⟩⟩
        · have : x19 = x36 := ti_ofI (by rw [e19, e36, e18'])
          rw [this]; exact upd_is _ _ _
        · exact upd_no (by decide)
        · have y1 := r1.2.2 b hb'
          have y2 := k2 (1024 + b) (by omega) (by omega)
          have y3 := r2 b hb'
          omega
      · refine ok_eq (fun _ => ?_) (fun c => by omega)
        exact ok_m2 (wrongEnd _ _ _ _ _ _ _ _ _ _ _ _ _ _ _ _ _ _ _ _ _ _ _ w1 h2 h3 (by omega) ⟨w1, h4, h9⟩) (fun u' v hv => Or.inr (Or.inr ⟨hTH, by omega, by omega, Or.inr hv⟩))
    · refine ok_c (ok_bm (w_closeX b6) (fun u35 e35 => ?_))
      refine ok_eq (fun _ => ?_) (fun c => ?_)
      · exact ok_m2 (wrongEnd _ _ _ _ _ _ _ _ _ _ _ _ _ _ _ _ _ _ _ _ _ _ _ hFB.1 b1 b2 b4 hFB) (fun u' v hv => Or.inr (Or.inr ⟨hTH, by omega, by omega, Or.inr hv⟩))
      · refine ok_eq (fun _ => ?_) (fun c2 => ?_)
        · exact ok_m2 (wrongEnd _ _ _ _ _ _ _ _ _ _ _ _ _ _ _ _ _ _ _ _ _ _ _ hFB.1 b1 b2 b4 hFB) (fun u' v hv => Or.inr (Or.inr ⟨hTH, by omega, by omega, Or.inr hv⟩))
        · exfalso
          rcases b5 with q | q
          · exact c (by omega)
          · exact c2 (by rw [e35 q]; exact L.1.symm)
  · rcases hP' with ⟨q1, q2, q3⟩ | ⟨q1, q2, q3, q4⟩ | ⟨q1, q2, q3, ⟨q4, q5⟩ | ⟨q4, q5⟩⟩
    · subst q2
      exact ok_c (ok_neq (fun c => by simp at c) (fun _ => ok_neq (fun _ => ok_s (Or.inl ⟨q1, rfl, q3⟩)) (fun c => absurd rfl c)))
    · subst q3
      exact ok_c (ok_neq (fun c => by simp at c) (fun _ => ok_neq (fun c => by simp at c) (fun _ => ok_neq (fun _ => ok_s (Or.inr (Or.inl ⟨q1, q2, rfl, q4⟩))) (fun c => absurd rfl c))))
    · refine ok_c (ok_neq (fun _ => ?_) (fun c => absurd q4 c))
      refine ok_v (ok_in (by omega) (ok_s (Or.inr (Or.inr ⟨q1, q2, q3, Or.inl ?_⟩))))
      rw [Nat.zero_add, Nat.zero_add]
      exact q5 _ (out_is out _)
    · refine ok_c (ok_neq (fun c => by omega) (fun _ => ok_neq (fun c => by omega) (fun _ => ok_neq (fun c => by omega) (fun _ => ok_neq (fun _ => ok_s (Or.inr (Or.inr ⟨q1, q2, q3, Or.inr ?_⟩))) (fun c => absurd q4 c)))))
      rw [Nat.zero_add, Nat.zero_add]
      exact q5
