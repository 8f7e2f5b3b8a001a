/-! The trees' places. -/
def offs (w h : Nat) : Nat → Nat
  | 0 => 0
  | l + 1 => offs w h l + hf w l * hf h l
def isTop (w h l : Nat) : Bool := decide (hf w l ≤ 1) && decide (hf h l ≤ 1)
def topOf (w h : Nat) : Nat := if isTop w h 0 then 0 else if isTop w h 1 then 1 else if isTop w h 2 then 2 else if isTop w h 3 then 3 else if isTop w h 4 then 4 else if isTop w h 5 then 5 else 6
def allOf (w h : Nat) : Nat := if w * h = 0 then 0 else offs w h (topOf w h + 1)
theorem offs_s (w h l : Nat) : offs w h (l + 1) = offs w h l + hf w l * hf h l := rfl
theorem hf_0 (n : Nat) : hf n 0 = n := by unfold hf; simp
theorem hf_s : ∀ n, n < 65 → ∀ l, l < 8 → hf n (l + 1) = (hf n l + 1) / 2 := by decide +kernel
theorem hf_le : ∀ n, n < 65 → ∀ l, l < 9 → hf n l ≤ n := by decide +kernel
theorem hf_pos : ∀ n, n < 65 → ∀ l, l < 9 → 0 < n → 0 < hf n l := by decide +kernel
theorem hf_mono : ∀ n, n < 65 → ∀ l, l < 8 → hf n (l + 1) ≤ hf n l := by decide +kernel
theorem hf_in {x w l : Nat} (h : x < w) : x / 2 ^ l < hf w l := by
  unfold hf
  have p := Nat.two_pow_pos l
  generalize 2 ^ l = q at p ⊢
  rw [Nat.div_lt_iff_lt_mul p]
  have h1 := Nat.div_add_mod (w + q - 1) q
  have h2 := Nat.mod_lt (w + q - 1) p
  rw [Nat.mul_comm]
  omega
theorem topOf_le (w h : Nat) : topOf w h ≤ 6 := by
  unfold topOf
  repeat' split
  all_goals omega
theorem top_is : ∀ w, w < 65 → ∀ h, h < 65 → hf w (topOf w h) ≤ 1 ∧ hf h (topOf w h) ≤ 1 := by decide +kernel
theorem top_no : ∀ w, w < 65 → ∀ h, h < 65 → ∀ l, l < 7 → l < topOf w h → 1 < hf w l ∨ 1 < hf h l := by decide +kernel
theorem all_2048 : ∀ w, w < 65 → ∀ h, h < 65 → w * h ≤ 1024 → allOf w h ≤ 2048 := by decide +kernel
theorem all_lin : ∀ w, w < 65 → ∀ h, h < 65 → w * h ≤ 1024 → 2 * allOf w h ≤ 3 * (w * h) + 63 := by decide +kernel
theorem offs_le : ∀ w, w < 65 → ∀ h, h < 65 → ∀ l, l < 8 → offs w h l ≤ 20000 := by decide +kernel
theorem offs_mono (w h : Nat) {l m : Nat} (hl : l ≤ m) : offs w h l ≤ offs w h m := by
  induction hl with
  | refl => exact Nat.le_refl _
  | step _ ih => rw [offs_s]; omega
/-- the place of a node in its band -/
def nd (w h l x y : Nat) : Nat := offs w h l + y * hf w l + x
theorem nd_lt {w h l x y : Nat} (hx : x < hf w l) (hy : y < hf h l) : nd w h l x y < offs w h (l + 1) := by
  unfold nd
  rw [offs_s]
  have h1 : (y + 1) * hf w l ≤ hf h l * hf w l := Nat.mul_le_mul_right _ hy
  rw [Nat.add_mul, Nat.one_mul, Nat.mul_comm (hf h l)] at h1
  omega
/-- where it lies says what it is -/
theorem nd_inj {w h l m x y x' y' : Nat} (hx : x < hf w l) (hy : y < hf h l) (hx' : x' < hf w m) (hy' : y' < hf h m) (e : nd w h l x y = nd w h m x' y') : l = m ∧ x = x' ∧ y = y' := by
  have h1 := nd_lt hx hy
  have h2 := nd_lt hx' hy'
  have hlm : l = m := by
    rcases Nat.lt_trichotomy l m with q | q | q
    · have := offs_mono w h (show l + 1 ≤ m from q)
      unfold nd at e h1 h2
      omega
    · exact q
    · have := offs_mono w h (show m + 1 ≤ l from q)
      unfold nd at e h1 h2
      omega
  subst hlm
  have hp : 0 < hf w l := by omega
  unfold nd at e
  have e2 : y * hf w l + x = y' * hf w l + x' := by omega
  have d1 : (y * hf w l + x) / hf w l = y := by rw [Nat.mul_comm, Nat.mul_add_div hp, Nat.div_eq_of_lt hx]; rfl
  have d2 : (y' * hf w l + x') / hf w l = y' := by rw [Nat.mul_comm, Nat.mul_add_div hp, Nat.div_eq_of_lt hx']; rfl
  have ey : y = y' := by rw [← d1, ← d2, e2]
  subst ey
  try dsimp only
  exact ⟨rfl, by omega, rfl⟩
/-- every place is a node's -/
theorem nd_of {w h : Nat} : ∀ {m v : Nat}, v < offs w h m → ∃ l x y, l < m ∧ x < hf w l ∧ y < hf h l ∧ v = nd w h l x y := by
  intro m
  induction m with
  | zero => intro v hv; exact absurd hv (Nat.not_lt_zero v)
  | succ m ih =>
    intro v hv
    rcases Nat.lt_or_ge v (offs w h m) with q | q
    · obtain ⟨l, x, y, h1, h2⟩ := ih q
      try dsimp only
      exact ⟨l, x, y, by omega, h2⟩
    · rw [offs_s] at hv
      have hp : 0 < hf w m := by
        rcases Nat.eq_zero_or_pos (hf w m) with z | z
        · rw [z, Nat.zero_mul] at hv; omega
        · exact z
      try dsimp only
      refine ⟨m, (v - offs w h m) % hf w m, (v - offs w h m) / hf w m, by omega, Nat.mod_lt _ hp, ?_, ?_⟩
      · rw [Nat.div_lt_iff_lt_mul hp, Nat.mul_comm]; omega
      · unfold nd
        have := Nat.div_add_mod (v - offs w h m) (hf w m)
        rw [Nat.mul_comm] at this
        omega
theorem w_tell_pre {F : Nat} (hF : 1000000 ≤ F) {sz wr s e q wg : Int32} {NB : Nat} {B : Nat → Int32} {wN hN bN mN fN LN KN : Nat} {wF hF' bF mF fF LF KF : Nat → Int32} {tree band block bound : Int32} {w h : Nat} {P : Int32 × Int32 × Int32 × Int32 × (Nat → Int32) × (Nat → Int32) × (Nat → Int32) → Prop}
    (hb : 0 ≤ band.toInt ∧ band.toInt < 3 ∧ wN = 3 ∧ hN = 3) (hw : (wF band.toInt.toNat).toInt = w) (hh : (hF' band.toInt.toNat).toInt = h) (hwh : w < 65 ∧ h < 65) (ht : 0 ≤ tree.toInt ∧ tree.toInt ≤ 1) (hwr : wr.toInt = 0 ∨ wr.toInt = 1)
    (k : ∀ base t : Int32, base.toInt = (2 - 2 * wr.toInt + tree.toInt) * 6144 + 2048 * band.toInt + offs w h (topOf w h + 1) → t.toInt = topOf w h → Ok (f_Mo_tell_125 F sz wr s NB wN wF hN hF' bN bF mN mF fN fF LN KN F e q wg B LF KF tree band block bound base 0 0 t) P) :
    Ok (f_Mo_tell F sz wr s e q wg NB B wN wF hN hF' bN bF mN mF fN fF LN LF KN KF tree band block bound) P := by
  have L := lits
  have ht6 := topOf_le w h
  have k45 : ∀ (n : Nat) (t a i : Int32) (j : Nat), t.toInt = topOf w h → (j : Int) = i.toInt → j ≤ topOf w h + 1 → topOf w h + 1 < j + n → a.toInt = offs w h j → Ok (f_Mo_tell_45 F sz wr s NB wN wF hN hF' bN bF mN mF fN fF LN KN n e q wg B LF KF tree band block bound t a i) P := by
    intro n
    induction n with
    | zero => intro t a i j h1 h2 h3 h4 h5; omega
    | succ n ih =>
      intro t a i j h1 h2 h3 h4 h5
      have o1 := offs_le w hwh.1 h hwh.2 j (by omega)
      simp only [f_Mo_tell_45, g_Mo_tell_45, g_Mo_tell_98, clamp_eq]
      refine ok_lt (fun hc => ?_) (fun hc => ?_)
      · have ej : j = topOf w h + 1 := by omega
        rw [ej] at h5 o1
        rcases hwr with z | z
        · refine ok_eq (fun _ => ?_) (fun hc2 => by omega)
          refine ok_add (by omega) (fun x hx => ok_x6144 (by omega) (fun y hy => ok_2048x (by omega) (fun v hv => ok_add (by omega) (fun u hu => ok_add (by omega) (fun r hr => ?_)))))
          exact k r t (by omega) h1
        · refine ok_eq (fun hc2 => by omega) (fun hc2 => ?_)
          refine ok_add (by omega) (fun x hx => ok_x6144 (by omega) (fun y hy => ok_2048x (by omega) (fun v hv => ok_add (by omega) (fun u hu => ok_add (by omega) (fun r hr => ?_)))))
          exact k r t (by omega) h1
      · refine ok_in (by omega) (ok_rd (fun x hx => ?_))
        refine ok_bm (w_Mo_half (by rw [hx, hw]; omega) (by omega)) (fun u hu => ?_)
        refine ok_in (by omega) (ok_rd (fun y hy => ?_))
        refine ok_bm (w_Mo_half (by rw [hy, hh]; omega) (by omega)) (fun v hv => ?_)
        rw [hx, hw, show i.toInt.toNat = j from by omega, show (w : Int).toNat = w from by omega] at hu
        rw [hy, hh, show i.toInt.toNat = j from by omega, show (h : Int).toNat = h from by omega] at hv
        have o2 := offs_le w hwh.1 h hwh.2 (j + 1) (by omega)
        have o3 := offs_s w h j
        have e1 : u.toInt * v.toInt = ((hf w j * hf h j : Nat) : Int) := by rw [hu, hv, Int.natCast_mul]
        refine ok_mul (by rw [e1]; omega) (fun z hz => ?_)
        rw [e1] at hz
        refine ok_add (by omega) (fun p hp => ok_add (by omega) (fun r hr => ?_))
        exact ih t p r (j + 1) h1 (by omega) (by omega) (by omega) (by omega)
  have k3 : ∀ (n : Nat) (t : Int32) (j : Nat), (j : Int) = t.toInt → j ≤ topOf w h → topOf w h < j + n → Ok (f_Mo_tell_3 F sz wr s NB wN wF hN hF' bN bF mN mF fN fF LN KN n e q wg B LF KF tree band block bound t) P := by
    intro n
    induction n with
    | zero => intro t j h1 h2 h3; omega
    | succ n ih =>
      intro t j h1 h2 h3
      have tn := top_no w hwh.1 h hwh.2 j (by omega)
      have ti := top_is w hwh.1 h hwh.2
      simp only [f_Mo_tell_3, g_Mo_tell_3, g_Mo_tell_33, clamp_eq]
      refine ok_in (by omega) (ok_rd (fun x hx => ?_))
      refine ok_bm (w_Mo_half (by rw [hx, hw]; omega) (by omega)) (fun u hu => ?_)
      rw [hx, hw, show t.toInt.toNat = j from by omega, show (w : Int).toNat = w from by omega] at hu
      refine ok_lt (fun hc => ?_) (fun hc => ?_)
      · have : ¬ j = topOf w h := fun e => by rw [← e] at ti; omega
        exact ok_add (by omega) (fun y hy => ih y (j + 1) (by omega) (by omega) (by omega))
      · refine ok_in (by omega) (ok_rd (fun y hy => ?_))
        refine ok_bm (w_Mo_half (by rw [hy, hh]; omega) (by omega)) (fun v hv => ?_)
        rw [hy, hh, show t.toInt.toNat = j from by omega, show (h : Int).toNat = h from by omega] at hv
        refine ok_le (fun hc2 => ?_) (fun hc2 => ?_)
        · have : j = topOf w h := by
            rcases Nat.lt_or_ge j (topOf w h) with z | z
            · have := tn z; omega
            · omega
          exact k45 F t 0 0 0 (by omega) (by omega) (by omega) (by omega) (by show _ = ((0 : Nat) : Int); omega)
        · have : ¬ j = topOf w h := fun e => by rw [← e] at ti; omega
          exact ok_add (by omega) (fun y hy => ih y (j + 1) (by omega) (by omega) (by omega))
  simp only [f_Mo_tell]
  exact k3 F 0 0 (by omega) (by omega) (by omega)
