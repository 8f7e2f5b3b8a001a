/-! Several bands. -/
def nbase (w h : Nat → Nat) : Nat → Nat
  | 0 => 0
  | i + 1 => nbase w h i + allOf (w i) (h i)
def bbase (w h : Nat → Nat) : Nat → Nat
  | 0 => 0
  | i + 1 => bbase w h i + w i * h i
def Geo (m : Nat) (w h : Nat → Nat) : Prop := m ≤ 3 ∧ (∀ i, i < m → w i < 65 ∧ h i < 65) ∧ bbase w h m ≤ 1024
def GA (m : Nat) (w h : Nat → Nat) (aF : Nat → Int32) : Prop := ∀ i l x y, i < m → l ≤ topOf (w i) (h i) → x < hf (w i) l → y < hf (h i) l → (aF (nbase w h i + nd (w i) (h i) l x y)).toInt = if l = topOf (w i) (h i) then -1 else ((nbase w h i + nd (w i) (h i) (l + 1) (x / 2) (y / 2) : Nat) : Int)
def GL (m : Nat) (w h : Nat → Nat) (lf : Nat → Int32) : Prop := ∀ i k, i < m → k < w i * h i → (lf (bbase w h i + k)).toInt = ((nbase w h i + k : Nat) : Int)
theorem nbase_s (w h : Nat → Nat) (i : Nat) : nbase w h (i + 1) = nbase w h i + allOf (w i) (h i) := rfl
theorem bbase_s (w h : Nat → Nat) (i : Nat) : bbase w h (i + 1) = bbase w h i + w i * h i := rfl
theorem nbase_mono (w h : Nat → Nat) {i j : Nat} (hij : i ≤ j) : nbase w h i ≤ nbase w h j := by
  induction hij with
  | refl => omega
  | step _ ih => rw [nbase_s]; omega
theorem bbase_mono (w h : Nat → Nat) {i j : Nat} (hij : i ≤ j) : bbase w h i ≤ bbase w h j := by
  induction hij with
  | refl => omega
  | step _ ih => rw [bbase_s]; omega
theorem Geo.wh {m : Nat} {w h : Nat → Nat} (hG : Geo m w h) {i : Nat} (hi : i < m) : w i < 65 ∧ h i < 65 ∧ bbase w h i + w i * h i ≤ bbase w h m ∧ bbase w h m ≤ 1024 := by
  have h1 := hG.2.1 i hi
  have h2 := bbase_mono w h (show i + 1 ≤ m by omega)
  have h3 := bbase_s w h i
  have h4 := hG.2.2
  try dsimp only
  exact ⟨h1.1, h1.2, by omega, by omega⟩
theorem Geo.nodes {m : Nat} {w h : Nat → Nat} (hG : Geo m w h) : ∀ j, j ≤ m → 2 * nbase w h j ≤ 3 * bbase w h j + 63 * j := by
  intro j
  induction j with
  | zero => intro _; exact Nat.zero_le _
  | succ j ih =>
    intro hj
    have h1 := hG.wh (show j < m by omega)
    have h2 := all_lin (w j) h1.1 (h j) h1.2.1 (by omega)
    have h3 := ih (by omega)
    rw [nbase_s, bbase_s]
    omega
theorem Geo.max {m : Nat} {w h : Nat → Nat} (hG : Geo m w h) : nbase w h m ≤ 1630 := by
  have h1 := hG.nodes m (by omega)
  have h2 := hG.1
  have h3 := hG.2.2
  omega
theorem all_pos {w h : Nat} (hw : 0 < w * h) : allOf w h = offs w h (topOf w h + 1) := by unfold allOf; rw [if_neg (by omega)]
theorem wh_pos {w h l x y : Nat} (hw : w < 65) (hh : h < 65) (hl : l < 9) (hx : x < hf w l) (hy : y < hf h l) : 0 < w * h := by
  have h1 := hf_le w hw l hl
  have h2 := hf_le h hh l hl
  exact Nat.mul_pos (by omega) (by omega)
theorem Geo.in {m : Nat} {w h : Nat → Nat} (hG : Geo m w h) {i l x y : Nat} (hi : i < m) (hl : l ≤ topOf (w i) (h i)) (hx : x < hf (w i) l) (hy : y < hf (h i) l) : nd (w i) (h i) l x y < allOf (w i) (h i) := by
  have h1 := hG.wh hi
  have h2 := topOf_le (w i) (h i)
  have h3 := wh_pos h1.1 h1.2.1 (by omega) hx hy
  rw [all_pos h3]
  have h4 := nd_lt hx hy
  have h5 := offs_mono (w i) (h i) (show l + 1 ≤ topOf (w i) (h i) + 1 by omega)
  omega
theorem node_of {m : Nat} {w h : Nat → Nat} : ∀ {x : Nat}, x < nbase w h m → ∃ i j, i < m ∧ j < allOf (w i) (h i) ∧ x = nbase w h i + j := by
  induction m with
  | zero => intro x hx; exact absurd hx (Nat.not_lt_zero _)
  | succ m ih =>
    intro x hx
    rw [nbase_s] at hx
    by_cases q : x < nbase w h m
    · obtain ⟨i, j, h1, h2, h3⟩ := ih q
      try dsimp only
      exact ⟨i, j, by omega, h2, h3⟩
    · try dsimp only
      exact ⟨m, x - nbase w h m, by omega, by omega, by omega⟩
theorem block_of {m : Nat} {w h : Nat → Nat} : ∀ {x : Nat}, x < bbase w h m → ∃ i j, i < m ∧ j < w i * h i ∧ x = bbase w h i + j := by
  induction m with
  | zero => intro x hx; exact absurd hx (Nat.not_lt_zero _)
  | succ m ih =>
    intro x hx
    rw [bbase_s] at hx
    by_cases q : x < bbase w h m
    · obtain ⟨i, j, h1, h2, h3⟩ := ih q
      try dsimp only
      exact ⟨i, j, by omega, h2, h3⟩
    · try dsimp only
      exact ⟨m, x - bbase w h m, by omega, by omega, by omega⟩
theorem node_inj {w h : Nat → Nat} {i j i' j' : Nat} (hj : j < allOf (w i) (h i)) (hj' : j' < allOf (w i') (h i')) (e : nbase w h i + j = nbase w h i' + j') : i = i' ∧ j = j' := by
  by_cases q : i = i'
  · subst q; exact ⟨rfl, by omega⟩
  · by_cases q2 : i < i'
    · have := nbase_mono w h (show i + 1 ≤ i' by omega)
      rw [nbase_s] at this
      omega
    · have := nbase_mono w h (show i' + 1 ≤ i by omega)
      rw [nbase_s] at this
      omega
theorem block_inj {w h : Nat → Nat} {i j i' j' : Nat} (hj : j < w i * h i) (hj' : j' < w i' * h i') (e : bbase w h i + j = bbase w h i' + j') : i = i' ∧ j = j' := by
  by_cases q : i = i'
  · subst q; exact ⟨rfl, by omega⟩
  · by_cases q2 : i < i'
    · have := bbase_mono w h (show i + 1 ≤ i' by omega)
      rw [bbase_s] at this
      omega
    · have := bbase_mono w h (show i' + 1 ≤ i by omega)
      rw [bbase_s] at this
      omega
theorem node_at {m : Nat} {w h : Nat → Nat} {x : Nat} (hx : x < nbase w h m) : ∃ i l px py, i < m ∧ l ≤ topOf (w i) (h i) ∧ px < hf (w i) l ∧ py < hf (h i) l ∧ x = nbase w h i + nd (w i) (h i) l px py := by
  obtain ⟨i, j, h1, h2, h3⟩ := node_of hx
  have h4 : 0 < w i * h i := by
    unfold allOf at h2
    by_cases q : w i * h i = 0
    · rw [if_pos q] at h2; omega
    · omega
  rw [all_pos h4] at h2
  obtain ⟨l, px, py, h5, h6, h7, h8⟩ := nd_of h2
  try dsimp only
  exact ⟨i, l, px, py, h1, by omega, h6, h7, by rw [h3, h8]⟩
theorem hf_half {w l x : Nat} (hw : w < 65) (hl : l < 8) (hx : x < hf w l) : x / 2 < hf w (l + 1) := by rw [hf_s w hw l hl]; omega
theorem hf_twice {w l x : Nat} (hw : w < 65) (hl : l < 8) (hx : x < hf w (l + 1)) : 2 * x < hf w l := by rw [hf_s w hw l hl] at hx; omega
theorem ga_in {m : Nat} {w h : Nat → Nat} {aF : Nat → Int32} (hG : Geo m w h) (hA : GA m w h aF) : ∀ x, x < nbase w h m → (aF x).toInt = -1 ∨ ((x : Int) < (aF x).toInt ∧ (aF x).toInt < nbase w h m) := by
  intro x hx
  obtain ⟨i, l, px, py, h1, h2, h3, h4, h5⟩ := node_at hx
  have h6 := hA i l px py h1 h2 h3 h4
  have g := hG.wh h1
  have t6 := topOf_le (w i) (h i)
  rw [← h5] at h6
  by_cases q : l = topOf (w i) (h i)
  · rw [if_pos q] at h6; exact Or.inl h6
  · rw [if_neg q] at h6
    try dsimp only
    refine Or.inr ?_
    have h7 := hG.in h1 (show l + 1 ≤ topOf (w i) (h i) by omega) (hf_half g.1 (by omega) h3) (hf_half g.2.1 (by omega) h4)
    have h8 := nbase_mono w h (show i + 1 ≤ m by omega)
    have h9 := nd_lt h3 h4
    have h10 : offs (w i) (h i) (l + 1) ≤ nd (w i) (h i) (l + 1) (px / 2) (py / 2) := by unfold nd; omega
    rw [nbase_s] at h8
    omega
/-- the numbers above the blocks are the least of those below -/
def SET (m : Nat) (w h : Nat → Nat) (u : Nat → Int32) : Prop := ∀ i l x y, i < m → l ≤ topOf (w i) (h i) → x < hf (w i) l → y < hf (h i) l → ∀ k : Int, (k ≤ (u (nbase w h i + nd (w i) (h i) l x y)).toInt ↔ k ≤ 1000 ∧ ∀ x0 y0, x0 < w i → y0 < h i → x0 / 2 ^ l = x → y0 / 2 ^ l = y → k ≤ (u (nbase w h i + (y0 * w i + x0))).toInt)
theorem nd0 (w h x y : Nat) : nd w h 0 x y = y * w + x := by unfold nd; rw [hf_0]; show 0 + y * w + x = _; omega
theorem div_s (x l : Nat) : x / 2 ^ (l + 1) = x / 2 ^ l / 2 := by rw [Nat.div_div_eq_div_mul, Nat.pow_succ]
theorem xy_lt {w h x y : Nat} (hx : x < w) (hy : y < h) : y * w + x < w * h := by
  have := Nat.mul_le_mul_right w (show y + 1 ≤ h by omega)
  rw [Nat.add_mul, Nat.one_mul, Nat.mul_comm h w] at this
  omega
theorem settled {m : Nat} {w h : Nat → Nat} {aF nF n1 u : Nat → Int32} (hG : Geo m w h) (hA : GA m w h aF) (hb : ∀ i k, i < m → k < w i * h i → (nF (nbase w h i + k)).toInt ≤ 1000)
    (h1 : ∀ y x : Nat, x < nbase w h m → (aF x).toInt = y → (n1 y).toInt = 1000) (h2 : ∀ y : Nat, (∀ x, x < nbase w h m → ¬ (aF x).toInt = y) → n1 y = nF y) (h3 : ∀ (y : Nat) (k : Int), (k ≤ (u y).toInt ↔ k ≤ (n1 y).toInt ∧ ∀ x, x < nbase w h m → (aF x).toInt = y → k ≤ (u x).toInt)) :
    (∀ i k, i < m → k < w i * h i → u (nbase w h i + k) = nF (nbase w h i + k)) ∧ SET m w h u := by
  have none : ∀ i k, i < m → k < w i * h i → ∀ x, x < nbase w h m → ¬ (aF x).toInt = ((nbase w h i + k : Nat) : Int) := by
    intro i k hi hk x hx e
    obtain ⟨i', l, px, py, a1, a2, a3, a4, a5⟩ := node_at hx
    have a6 := hA i' l px py a1 a2 a3 a4
    rw [← a5, e] at a6
    by_cases q : l = topOf (w i') (h i')
    · rw [if_pos q] at a6; omega
    · rw [if_neg q] at a6
      have g := hG.wh a1
      have t6 := topOf_le (w i') (h i')
      have a7 := hG.in a1 (show l + 1 ≤ topOf (w i') (h i') by omega) (hf_half g.1 (by omega) a3) (hf_half g.2.1 (by omega) a4)
      have o1 := offs_mono (w i) (h i) (show 1 ≤ topOf (w i) (h i) + 1 by omega)
      have o2 : offs (w i) (h i) 1 = w i * h i := by rw [offs_s, hf_0, hf_0]; show 0 + _ = _; omega
      have a8 := node_inj (w := w) (h := h) (i := i) (j := k) (i' := i') (by rw [all_pos (by omega)]; omega) a7 (by omega)
      obtain ⟨e1, e2⟩ := a8
      subst e1
      have o3 := offs_mono (w i) (h i) (show 1 ≤ l + 1 by omega)
      have : offs (w i) (h i) (l + 1) ≤ k := by rw [e2]; unfold nd; omega
      omega
  have leaf : ∀ i k, i < m → k < w i * h i → u (nbase w h i + k) = nF (nbase w h i + k) := by
    intro i k hi hk
    have a1 := h3 (nbase w h i + k)
    have a2 := h2 (nbase w h i + k) (none i k hi hk)
    rw [a2] at a1
    refine ti_ofI ?_
    have a3 := (a1 (u (nbase w h i + k)).toInt).mp (Int.le_refl _)
    have a4 := (a1 (nF (nbase w h i + k)).toInt).mpr ⟨Int.le_refl _, fun x hx e => absurd e (none i k hi hk x hx)⟩
    omega
  try dsimp only
  refine ⟨leaf, ?_⟩
  intro i l
  induction l with
  | zero =>
    intro x y hi hl hx hy k
    rw [hf_0] at hx hy
    rw [nd0]
    have hk := xy_lt hx hy
    have a1 := hb i _ hi hk
    rw [← leaf i _ hi hk] at a1
    constructor
    · intro hk2
      try dsimp only
      refine ⟨by omega, fun x0 y0 hx0 hy0 e1 e2 => ?_⟩
      rw [Nat.pow_zero, Nat.div_one] at e1 e2
      subst e1 e2
      exact hk2
    · intro a
      exact a.2 x y hx hy (by rw [Nat.pow_zero, Nat.div_one]) (by rw [Nat.pow_zero, Nat.div_one])
  | succ l ih =>
    intro x y hi hl hx hy k
    have g := hG.wh hi
    have t6 := topOf_le (w i) (h i)
    have c1 := hf_twice g.1 (by omega) hx
    have c2 := hf_twice g.2.1 (by omega) hy
    have up : ∀ x' y', x' < hf (w i) l → y' < hf (h i) l → x' / 2 = x → y' / 2 = y → nbase w h i + nd (w i) (h i) l x' y' < nbase w h m ∧ (aF (nbase w h i + nd (w i) (h i) l x' y')).toInt = ((nbase w h i + nd (w i) (h i) (l + 1) x y : Nat) : Int) := by
      intro x' y' hx' hy' e1 e2
      have b1 := hA i l x' y' hi (by omega) hx' hy'
      rw [if_neg (by omega), e1, e2] at b1
      have b2 := hG.in hi (show l ≤ topOf (w i) (h i) by omega) hx' hy'
      have b3 := nbase_mono w h (show i + 1 ≤ m by omega)
      rw [nbase_s] at b3
      try dsimp only
      exact ⟨by omega, b1⟩
    have u0 := up (2 * x) (2 * y) c1 c2 (by omega) (by omega)
    rw [h3 (nbase w h i + nd (w i) (h i) (l + 1) x y) k, h1 _ _ u0.1 u0.2]
    constructor
    · intro a
      try dsimp only
      refine ⟨a.1, fun x0 y0 hx0 hy0 e1 e2 => ?_⟩
      rw [div_s] at e1 e2
      have b1 := up (x0 / 2 ^ l) (y0 / 2 ^ l) (hf_in hx0) (hf_in hy0) e1 e2
      have b2 := a.2 _ b1.1 b1.2
      exact ((ih (x0 / 2 ^ l) (y0 / 2 ^ l) hi (by omega) (hf_in hx0) (hf_in hy0) k).mp b2).2 x0 y0 hx0 hy0 rfl rfl
    · intro a
      try dsimp only
      refine ⟨a.1, fun c hc e => ?_⟩
      obtain ⟨i', l', px, py, a1, a2, a3, a4, a5⟩ := node_at hc
      have a6 := hA i' l' px py a1 a2 a3 a4
      rw [← a5, e] at a6
      by_cases q : l' = topOf (w i') (h i')
      · rw [if_pos q] at a6; omega
      · rw [if_neg q] at a6
        have g' := hG.wh a1
        have t6' := topOf_le (w i') (h i')
        have a7 := hG.in a1 (show l' + 1 ≤ topOf (w i') (h i') by omega) (hf_half g'.1 (by omega) a3) (hf_half g'.2.1 (by omega) a4)
        have a8 := hG.in hi hl hx hy
        have a9 := node_inj a8 a7 (by omega)
        obtain ⟨e1, e2⟩ := a9
        subst e1
        have e3 := nd_inj hx hy (hf_half g'.1 (by omega) a3) (hf_half g'.2.1 (by omega) a4) e2
        obtain ⟨e4, e5, e6⟩ := e3
        have e7 : l = l' := by omega
        subst e7
        rw [a5]
        refine (ih px py hi (by omega) a3 a4 k).mpr ⟨a.1, fun x0 y0 hx0 hy0 f1 f2 => a.2 x0 y0 hx0 hy0 ?_ ?_⟩
        · rw [div_s, f1, e5]
        · rw [div_s, f2, e6]
/-- a block's way up -/
def pth (w h : Nat → Nat) (i k l : Nat) : Nat := nbase w h i + nd (w i) (h i) l (k % w i / 2 ^ l) (k / w i / 2 ^ l)
theorem kxy {w h k : Nat} (hk : k < w * h) : k % w < w ∧ k / w < h ∧ k / w * w + k % w = k ∧ 0 < w ∧ 0 < h := by
  have hw : 0 < w := by
    rcases Nat.eq_zero_or_pos w with e | e
    · rw [e, Nat.zero_mul] at hk; omega
    · exact e
  have hh : 0 < h := by
    rcases Nat.eq_zero_or_pos h with e | e
    · rw [e, Nat.mul_zero] at hk; omega
    · exact e
  try dsimp only
  exact ⟨Nat.mod_lt _ hw, by rw [Nat.div_lt_iff_lt_mul hw, Nat.mul_comm]; exact hk, by have := Nat.div_add_mod k w; rw [Nat.mul_comm] at this; exact this, hw, hh⟩
theorem pth_0 {w h : Nat → Nat} {i k : Nat} (hk : k < w i * h i) : pth w h i k 0 = nbase w h i + k := by
  unfold pth
  rw [nd0, Nat.pow_zero, Nat.div_one, Nat.div_one, (kxy hk).2.2.1]
theorem pth_path {m : Nat} {w h : Nat → Nat} {aF : Nat → Int32} (hG : Geo m w h) (hA : GA m w h aF) {i k : Nat} (hi : i < m) (hk : k < w i * h i) : Path aF (pth w h i k) (topOf (w i) (h i)) (nbase w h m) := by
  have hx := kxy hk
  try dsimp only
  refine ⟨fun l hl => ?_, ?_, fun l hl => ?_⟩
  · have a := hA i l _ _ hi (by omega) (hf_in (l := l) hx.1) (hf_in (l := l) hx.2.1)
    rw [if_neg (by omega)] at a
    unfold pth
    rw [a, div_s, div_s]
  · have a := hA i (topOf (w i) (h i)) _ _ hi (by omega) (hf_in (l := topOf (w i) (h i)) hx.1) (hf_in (l := topOf (w i) (h i)) hx.2.1)
    rw [if_pos rfl] at a
    exact a
  · have a := hG.in hi hl (hf_in (l := l) hx.1) (hf_in (l := l) hx.2.1)
    have b3 := nbase_mono w h (show i + 1 ≤ m by omega)
    rw [nbase_s] at b3
    unfold pth
    omega
def rho (w h : Nat → Nat) (T x : Nat) : Nat := if x < nbase w h 1 then T + x else if x < nbase w h 2 then T + 2048 + (x - nbase w h 1) else T + 4096 + (x - nbase w h 2)
theorem rho_at {m : Nat} {w h : Nat → Nat} (hG : Geo m w h) {T i j : Nat} (hi : i < m) (hj : j < allOf (w i) (h i)) : rho w h T (nbase w h i + j) = T + 2048 * i + j := by
  have h3 := hG.1
  have n1 : nbase w h 1 = nbase w h 0 + allOf (w 0) (h 0) := rfl
  have n0 : nbase w h 0 = 0 := rfl
  have n2 : nbase w h 2 = nbase w h 1 + allOf (w 1) (h 1) := rfl
  unfold rho
  rcases (show i = 0 ∨ i = 1 ∨ i = 2 by omega) with e | e | e
  · subst e; rw [if_pos (by omega)]; omega
  · subst e; rw [if_neg (by omega), if_pos (by omega)]; omega
  · subst e; rw [if_neg (by omega), if_neg (by omega)]; omega
theorem Geo.all {m : Nat} {w h : Nat → Nat} (hG : Geo m w h) {i : Nat} (hi : i < m) : allOf (w i) (h i) ≤ 2048 := by
  have g := hG.wh hi
  exact all_2048 (w i) g.1 (h i) g.2.1 (by omega)
theorem rho_inj {m : Nat} {w h : Nat → Nat} (hG : Geo m w h) (T : Nat) : Inj (nbase w h m) (rho w h T) := by
  intro x y hx hy e
  obtain ⟨i, j, h1, h2, rfl⟩ := node_of hx
  obtain ⟨i', j', h1', h2', rfl⟩ := node_of hy
  rw [rho_at hG h1 h2, rho_at hG h1' h2'] at e
  have a1 := hG.all h1
  have a2 := hG.all h1'
  have e1 : i = i' := by omega
  subst e1
  omega
theorem rho_lt {m : Nat} {w h : Nat → Nat} (hG : Geo m w h) (T : Nat) {x : Nat} (hx : x < nbase w h m) : T ≤ rho w h T x ∧ rho w h T x < T + 6144 := by
  obtain ⟨i, j, h1, h2, rfl⟩ := node_of hx
  rw [rho_at hG h1 h2]
  have a1 := hG.all h1
  have a2 := hG.1
  omega
theorem pth_rho {m : Nat} {w h : Nat → Nat} (hG : Geo m w h) {T i k l : Nat} (hi : i < m) (hk : k < w i * h i) (hl : l ≤ topOf (w i) (h i)) : rho w h T (pth w h i k l) = T + 2048 * i + nd (w i) (h i) l (k % w i / 2 ^ l) (k / w i / 2 ^ l) := by
  have hx := kxy hk
  unfold pth
  rw [rho_at hG hi (hG.in hi hl (hf_in hx.1) (hf_in hx.2.1))]
theorem SET.mono {m : Nat} {w h : Nat → Nat} {u : Nat → Int32} (hS : SET m w h u) {i k l : Nat} (hi : i < m) (hk : k < w i * h i) (hl : l < topOf (w i) (h i)) : (u (pth w h i k (l + 1))).toInt ≤ (u (pth w h i k l)).toInt := by
  have hx := kxy hk
  have a := (hS i (l + 1) _ _ hi (by omega) (hf_in (l := l + 1) hx.1) (hf_in (l := l + 1) hx.2.1) _).mp (Int.le_refl _)
  refine (hS i l _ _ hi (by omega) (hf_in (l := l) hx.1) (hf_in (l := l) hx.2.1) _).mpr ⟨a.1, fun x0 y0 hx0 hy0 e1 e2 => a.2 x0 y0 hx0 hy0 ?_ ?_⟩
  · rw [div_s, e1, div_s]
  · rw [div_s, e2, div_s]
theorem SET.pos {m : Nat} {w h : Nat → Nat} {u : Nat → Int32} (hS : SET m w h u) (hp : ∀ i k, i < m → k < w i * h i → 0 ≤ (u (nbase w h i + k)).toInt) {i k l : Nat} (hi : i < m) (hk : k < w i * h i) (hl : l ≤ topOf (w i) (h i)) : 0 ≤ (u (pth w h i k l)).toInt := by
  have hx := kxy hk
  exact (hS i l _ _ hi hl (hf_in (l := l) hx.1) (hf_in (l := l) hx.2.1) 0).mpr ⟨by omega, fun x0 y0 hx0 hy0 _ _ => hp i _ hi (xy_lt hx0 hy0)⟩
theorem SET.least {F : Nat} (hF : 1000000 ≤ F) {m : Nat} {w h : Nat → Nat} {u : Nat → Int32} (hG : Geo m w h) (hS : SET m w h u) {wN hN bN mN fN : Nat} {wF hF' bF mF fF : Nat → Int32} {tree band : Int32} {i k : Nat} (hi : i < m) (hk : k < w i * h i)
    (hn : wN = 3 ∧ hN = 3 ∧ bN = 4 ∧ mN = 2048 ∧ fN = 2048) (hband : band.toInt = i) (hwF : (wF i).toInt = w i) (hhF : (hF' i).toInt = h i) (hbg : (bF i).toInt = bbase w h i) (htree : tree.toInt = 0 ∨ tree.toInt = 1)
    (hva : ∀ j, j < w i * h i → (u (nbase w h i + j)).toInt = if tree.toInt = 1 then (mF (bbase w h i + j)).toInt else if (fF (bbase w h i + j)).toInt = -1 then 1000 else (fF (bbase w h i + j)).toInt) (hle : (u (nbase w h i + k)).toInt ≤ 1000) :
    ∀ l, l ≤ topOf (w i) (h i) → ∀ li xi yi : Int32, li.toInt = l → xi.toInt = (k % w i / 2 ^ l : Nat) → yi.toInt = (k / w i / 2 ^ l : Nat) → Ok (f_Mo_least F hN hF' wN wF bN bF mN mF fN fF tree band li xi yi) (fun v => v = u (pth w h i k l)) := by
  intro l hl li xi yi e1 e2 e3
  have g := hG.wh hi
  have g3 := hG.1
  have hx := kxy hk
  have t6 := topOf_le (w i) (h i)
  have eb : band.toInt.toNat = i := by omega
  have x1 : k % w i / 2 ^ l ≤ k % w i := Nat.div_le_self _ _
  have x2 : k / w i / 2 ^ l ≤ k / w i := Nat.div_le_self _ _
  refine ok_m (w_least (w := w i) (h := h i) (l := l) (bg := bbase w h i) (va := fun j => (u (nbase w h i + (j - bbase w h i))).toInt) hF hn (by omega) (by rw [eb]; exact hwF) (by rw [eb]; exact hhF) (by rw [eb]; exact hbg) ⟨by omega, by omega, by omega⟩ htree ⟨e1, by omega⟩ ⟨e2, by omega⟩ ⟨e3, by omega⟩ ?_) (fun v hv => ?_)
  · intro x y hx0 hy0
    have := hva (y * w i + x) (xy_lt hx0 hy0)
    rw [show bbase w h i + y * w i + x = bbase w h i + (y * w i + x) by omega]
    rw [show bbase w h i + (y * w i + x) - bbase w h i = y * w i + x by omega]
    exact this
  · have a := hS i l _ _ hi hl (hf_in (l := l) hx.1) (hf_in (l := l) hx.2.1)
    have b : ∀ q : Int, q ≤ v.toInt ↔ q ≤ (u (pth w h i k l)).toInt := by
      intro q
      unfold pth
      rw [hv q, a q]
      constructor
      · intro c
        have c1 := c.2 (k % w i) (k / w i) hx.1 hx.2.1 rfl rfl
        rw [show bbase w h i + k / w i * w i + k % w i - bbase w h i = k by omega] at c1
        try dsimp only
        refine ⟨by omega, fun x0 y0 hx0 hy0 f1 f2 => ?_⟩
        have c2 := c.2 x0 y0 hx0 hy0 f1 f2
        rw [show bbase w h i + y0 * w i + x0 - bbase w h i = y0 * w i + x0 by omega] at c2
        exact c2
      · intro c
        try dsimp only
        refine ⟨by omega, fun x0 y0 hx0 hy0 f1 f2 => ?_⟩
        rw [show bbase w h i + y0 * w i + x0 - bbase w h i = y0 * w i + x0 by omega]
        exact c.2 x0 y0 hx0 hy0 f1 f2
    have b1 := (b v.toInt).mp (Int.le_refl _)
    have b2 := (b (u (pth w h i k l)).toInt).mpr (Int.le_refl _)
    exact ti_ofI (by omega)
