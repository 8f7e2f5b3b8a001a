/-! The nodes' numbers, and the reference's least. -/
theorem w_settle {F : Nat} (hF : 1000000 ≤ F) {nodes : Int32} {aN nN nn : Nat} {aF nF : Nat → Int32} (hn : nodes.toInt = nn ∧ nn ≤ aN ∧ nn ≤ nN ∧ nn ≤ 100000) (ha : ∀ x, x < nn → (aF x).toInt = -1 ∨ ((x : Int) < (aF x).toInt ∧ (aF x).toInt < nn)) :
    Ok (f_Trees_settle F nodes aN aF nN nF) (fun u => ∃ n1 : Nat → Int32, (∀ y x : Nat, x < nn → (aF x).toInt = y → (n1 y).toInt = 1000) ∧ (∀ y : Nat, (∀ x, x < nn → ¬ (aF x).toInt = y) → n1 y = nF y) ∧ ∀ (y : Nat) (k : Int), (k ≤ (u y).toInt ↔ k ≤ (n1 y).toInt ∧ ∀ x, x < nn → (aF x).toInt = y → k ≤ (u x).toInt)) := by
  have L := lits
  have key2 : ∀ (n1 : Nat → Int32) (n : Nat) (cu : Nat → Int32) (v : Int32), 0 ≤ v.toInt → v.toInt ≤ nn → nn < v.toInt + n → (∀ (y : Nat) (k : Int), (k ≤ (cu y).toInt ↔ k ≤ (n1 y).toInt ∧ ∀ x : Nat, (x : Int) < v.toInt → (aF x).toInt = y → k ≤ (cu x).toInt)) → Ok (f_Trees_settle_51 F nodes aN aF nN n cu v) (fun u => ∀ (y : Nat) (k : Int), (k ≤ (u y).toInt ↔ k ≤ (n1 y).toInt ∧ ∀ x, x < nn → (aF x).toInt = y → k ≤ (u x).toInt)) := by
    intro n1 n
    induction n with
    | zero => intro cu v h1 h2 h3; omega
    | succ n ih =>
      intro cu v h1 h2 h3 hi
      simp only [f_Trees_settle_51, g_Trees_settle_51, g_Trees_settle_98, clamp_eq]
      refine ok_le (fun c => ok_s ?_) (fun c => ?_)
      · intro y k
        rw [hi y k]
        try dsimp only
        exact ⟨fun a => ⟨a.1, fun x hx => a.2 x (by omega)⟩, fun a => ⟨a.1, fun x hx => a.2 x (by omega)⟩⟩
      · refine ok_in (by omega) (ok_rd (fun x10 e10 => ?_))
        have hav := ha v.toInt.toNat (by omega)
        refine ok_eq (fun c1 => ?_) (fun c1 => ?_)
        · refine ok_add (by omega) (fun x9 e9 => ih cu x9 (by omega) (by omega) (by omega) ?_)
          intro y k
          rw [hi y k]
          try dsimp only
          refine ⟨fun a => ⟨a.1, fun x hx e => ?_⟩, fun a => ⟨a.1, fun x hx => a.2 x (by omega)⟩⟩
          by_cases q : x = v.toInt.toNat
          · subst q; rw [← e10] at e; omega
          · exact a.2 x (by omega) e
        · rw [← e10] at hav
          refine ok_in (by omega) (ok_rd (fun x11 e11 => ?_))
          refine ok_in (by omega) (ok_rd (fun x12 e12 => ?_))
          refine ok_min (fun x13 e13 => ?_)
          refine ok_in (by omega) ?_
          refine ok_add (by omega) (fun x9 e9 => ih _ x9 (by omega) (by omega) (by omega) ?_)
          have eq12 : x12.toInt = (cu v.toInt.toNat).toInt := by rw [e12]
          have eq11 : x11.toInt = (cu x10.toInt.toNat).toInt := by rw [e11]
          intro y k
          by_cases qy : y = x10.toInt.toNat
          · subst qy
            rw [upd_is]
            have hh := hi x10.toInt.toNat k
            rw [← eq11] at hh
            constructor
            · intro hk
              have h5 := hh.mp (by omega)
              try dsimp only
              refine ⟨h5.1, fun x hx e => ?_⟩
              by_cases qx : x = x10.toInt.toNat
              · subst qx; rw [upd_is]; exact hk
              · rw [upd_no qx]
                by_cases q : x = v.toInt.toNat
                · subst q; omega
                · exact h5.2 x (by omega) e
            · intro a
              have h6 := a.2 v.toInt.toNat (by omega) (by rw [← e10]; omega)
              rw [upd_no (by omega)] at h6
              have h7 := hh.mpr ⟨a.1, fun x hx e => by
                have h8 := a.2 x (by omega) e
                rw [upd_no (by omega)] at h8
                exact h8⟩
              omega
          · rw [upd_no qy, hi y k]
            constructor
            · intro a
              try dsimp only
              refine ⟨a.1, fun x hx e => ?_⟩
              by_cases q : x = v.toInt.toNat
              · subst q; rw [← e10] at e; omega
              · rw [upd_no (by omega)]
                exact a.2 x (by omega) e
            · intro a
              try dsimp only
              refine ⟨a.1, fun x hx e => ?_⟩
              have h8 := a.2 x (by omega) e
              rw [upd_no (by omega)] at h8
              exact h8
  have key1 : ∀ (n : Nat) (cu : Nat → Int32) (v : Int32), 0 ≤ v.toInt → v.toInt ≤ nn → nn < v.toInt + n → (∀ y x : Nat, (x : Int) < v.toInt → (aF x).toInt = y → (cu y).toInt = 1000) → (∀ y : Nat, (∀ x : Nat, (x : Int) < v.toInt → ¬ (aF x).toInt = y) → cu y = nF y) → Ok (f_Trees_settle_2 F nodes aN aF nN n cu v) (fun u => ∃ n1 : Nat → Int32, (∀ y x : Nat, x < nn → (aF x).toInt = y → (n1 y).toInt = 1000) ∧ (∀ y : Nat, (∀ x, x < nn → ¬ (aF x).toInt = y) → n1 y = nF y) ∧ ∀ (y : Nat) (k : Int), (k ≤ (u y).toInt ↔ k ≤ (n1 y).toInt ∧ ∀ x, x < nn → (aF x).toInt = y → k ≤ (u x).toInt)) := by
    intro n
    induction n with
    | zero => intro cu v h1 h2 h3; omega
    | succ n ih =>
      intro cu v h1 h2 h3 hA hB
      simp only [f_Trees_settle_2, g_Trees_settle_2, g_Trees_settle_43, clamp_eq]
      refine ok_le (fun c => ?_) (fun c => ?_)
      · refine ok_m (key2 cu F cu 0 (by omega) (by omega) (by omega) (fun y k => ⟨fun a => ⟨a, fun x hx => by omega⟩, fun a => a.1⟩)) (fun u hu => ⟨cu, fun y x hx => hA y x (by omega), fun y hy => hB y (fun x hx => hy x (by omega)), hu⟩)
      · refine ok_in (by omega) (ok_rd (fun x15 e15 => ?_))
        have hav := ha v.toInt.toNat (by omega)
        rw [← e15] at hav
        refine ok_eq (fun c1 => ?_) (fun c1 => ?_)
        · refine ok_add (by omega) (fun x14 e14 => ih cu x14 (by omega) (by omega) (by omega) ?_ ?_)
          · intro y x hx e
            by_cases q : x = v.toInt.toNat
            · subst q; rw [← e15] at e; omega
            · exact hA y x (by omega) e
          · intro y hy
            exact hB y (fun x hx => hy x (by omega))
        · refine ok_in (by omega) (ok_rd (fun x16 e16 => ?_))
          have eqs : x16 = x15 := by rw [e16, e15]
          subst eqs
          refine ok_in (by omega) ?_
          refine ok_add (by omega) (fun x14 e14 => ih _ x14 (by omega) (by omega) (by omega) ?_ ?_)
          · intro y x hx e
            by_cases qy : y = x16.toInt.toNat
            · subst qy; rw [upd_is]; decide
            · rw [upd_no qy]
              by_cases q : x = v.toInt.toNat
              · subst q; rw [← e15] at e; omega
              · exact hA y x (by omega) e
          · intro y hy
            have h5 := hy v.toInt.toNat (by omega)
            rw [← e15] at h5
            rw [upd_no (by omega)]
            exact hB y (fun x hx => hy x (by omega))
  exact key1 F nF 0 (by omega) (by omega) (by omega) (fun y x hx => by omega) (fun y _ => rfl)
/-- the numbers below a node -/
theorem pw2 (l : Nat) : 0 < 2 ^ l := Nat.pow_pos (by omega)
theorem rc {x l i : Nat} : i / 2 ^ l = x ↔ x * 2 ^ l ≤ i ∧ i < (x + 1) * 2 ^ l := by
  have := pw2 l
  constructor
  · intro e
    subst e
    try dsimp only
    exact ⟨Nat.div_mul_le_self _ _, by rw [Nat.add_mul, Nat.one_mul]; exact Nat.lt_div_mul_add (by omega)⟩
  · intro ⟨a, b⟩
    have h1 : x ≤ i / 2 ^ l := (Nat.le_div_iff_mul_le this).mpr a
    have h2 : i / 2 ^ l < x + 1 := (Nat.div_lt_iff_lt_mul this).mpr b
    omega
set_option maxHeartbeats 1000000 in
theorem w_least {F : Nat} (hF : 1000000 ≤ F) {wN hN bN mN fN : Nat} {wF hF' bF mF fF : Nat → Int32} {tree band li xi yi : Int32} {w h l x y bg : Nat} {va : Nat → Int}
    (hn : wN = 3 ∧ hN = 3 ∧ bN = 4 ∧ mN = 2048 ∧ fN = 2048) (hband : 0 ≤ band.toInt ∧ band.toInt < 3) (hwF : (wF band.toInt.toNat).toInt = w) (hhF : (hF' band.toInt.toNat).toInt = h) (hbg : (bF band.toInt.toNat).toInt = bg) (hwh : w < 65 ∧ h < 65 ∧ w * h + bg ≤ 1024) (htree : tree.toInt = 0 ∨ tree.toInt = 1) (hl : li.toInt = l ∧ l ≤ 6) (hx : xi.toInt = x ∧ x < 65) (hy : yi.toInt = y ∧ y < 65)
    (hva : ∀ i j : Nat, i < w → j < h → va (bg + j * w + i) = if tree.toInt = 1 then (mF (bg + j * w + i)).toInt else if (fF (bg + j * w + i)).toInt = -1 then 1000 else (fF (bg + j * w + i)).toInt) :
    Ok (f_Mo_least F hN hF' wN wF bN bF mN mF fN fF tree band li xi yi) (fun u => ∀ k : Int, k ≤ u.toInt ↔ k ≤ 1001 ∧ ∀ i j : Nat, i < w → j < h → i / 2 ^ l = x → j / 2 ^ l = y → k ≤ va (bg + j * w + i)) := by
  have L := lits
  have l1000 : (1000 : Int32).toInt = 1000 := by decide
  have l1001 : (1001 : Int32).toInt = 1001 := by decide
  obtain ⟨P, hP⟩ : ∃ P : Nat, P = 2 ^ l := ⟨_, rfl⟩
  have hP0 : 0 < P := by rw [hP]; exact pw2 l
  have hP1 : P ≤ 64 := by rw [hP]; exact Nat.pow_le_pow_right (by omega) hl.2
  have hPl : (2 ^ li.toInt.toNat : Nat) = P := by rw [hP, hl.1]; rfl
  have shl : ∀ (v : Int32) (n : Nat), v.toInt = n → n < 66 → (v <<< (li &&& 31)).toInt = (n * P : Nat) := by
    intro v n hv hn
    have : n * P ≤ 66 * 64 := Nat.mul_le_mul (by omega) hP1
    rw [ti_shl (by omega) (by rw [hPl, hv, ← Int.natCast_mul]; omega), hPl, hv, Int.natCast_mul]
  have rcP : ∀ i x : Nat, i / 2 ^ l = x ↔ x * P ≤ i ∧ i < (x + 1) * P := by intro i x; rw [hP]; exact rc
  have hX : (x + 1) * P = x * P + P := by rw [Nat.add_mul, Nat.one_mul]
  have hY : (y + 1) * P = y * P + P := by rw [Nat.add_mul, Nat.one_mul]
  have bx : x * P ≤ 65 * 64 := Nat.mul_le_mul (by omega) hP1
  have by' : y * P ≤ 65 * 64 := Nat.mul_le_mul (by omega) hP1
  have keyI : ∀ (rec11 : Int32 → Int32 → Int32 → Int32 → Int32 → Int32 → Int32 → Option Int32) (P0 : Int32 → Prop) (b0 : Int32) (v7 : Int32) (j : Nat), v7.toInt = j → j < h → (∀ (v6 x19 : Int32), x19.toInt = (j : Int) + 1 → (∀ k : Int, k ≤ v6.toInt ↔ k ≤ b0.toInt ∧ ∀ i : Nat, i < w → i / 2 ^ l = x → k ≤ va (bg + j * w + i)) → Ok (rec11 tree band li xi yi v6 x19) P0) →
      ∀ (n : Nat) (v6 v8 : Int32) (i0 : Nat), v8.toInt = i0 → x * P ≤ i0 → i0 ≤ x * P + P → x * P + P < i0 + n → (∀ k : Int, k ≤ v6.toInt ↔ k ≤ b0.toInt ∧ ∀ i : Nat, i < w → i < i0 → i / 2 ^ l = x → k ≤ va (bg + j * w + i)) → Ok (f_Mo_least_39 F rec11 wN wF bN bF mN mF fN fF n tree band li xi yi v6 v7 v8) P0 := by
    intro rec11 P0 b0 v7 j hv7 hj hrec n
    induction n with
    | zero => intro v6 v8 i0 h1 h2 h3 h4; omega
    | succ n ih =>
      intro v6 v8 i0 h1 h2 h3 h4 hv6
      simp only [f_Mo_least_39, g_Mo_least_39, g_Mo_least_145, g_Mo_least_121, g_Mo_least_137, clamp_eq]
      refine ok_add (by omega) (fun x21 e21 => ?_)
      refine ok_l (fun x22 e22 => ?_)
      have e22' : x22.toInt = ((x + 1) * P : Nat) := by rw [e22]; exact shl x21 (x + 1) (by omega) (by omega)
      refine ok_le (fun c => ?_) (fun c => ?_)
      · refine ok_add (by omega) (fun x19 e19 => hrec v6 x19 (by omega) (fun k => ?_))
        rw [hv6 k]
        try dsimp only
        exact ⟨fun a => ⟨a.1, fun i hi e => a.2 i hi (by have := (rcP i x).mp e; omega) e⟩, fun a => ⟨a.1, fun i hi _ e => a.2 i hi e⟩⟩
      · refine ok_in (by omega) (ok_rd (fun x23 e23 => ?_))
        rw [← e23] at hwF
        refine ok_le (fun c1 => ?_) (fun c1 => ?_)
        · refine ok_add (by omega) (fun x19 e19 => hrec v6 x19 (by omega) (fun k => ?_))
          rw [hv6 k]
          try dsimp only
          exact ⟨fun a => ⟨a.1, fun i hi e => a.2 i hi (by omega) e⟩, fun a => ⟨a.1, fun i hi _ e => a.2 i hi e⟩⟩
        · refine ok_in (by omega) (ok_rd (fun x24 e24 => ?_))
          rw [← e24] at hbg
          refine ok_in (by omega) (ok_rd (fun x25 e25 => ?_))
          have eq25 : x25 = x23 := by rw [e25, e23]
          have eM : v7.toInt * x25.toInt = (j * w : Nat) := by rw [hv7, eq25, hwF, Int.natCast_mul]
          have hjw : j * w + w ≤ w * h := by
            have := Nat.mul_le_mul_right w (show j + 1 ≤ h by omega)
            rw [Nat.mul_comm w h]; rw [Nat.add_mul, Nat.one_mul] at this; exact this
          refine ok_mul (by omega) (fun x26 e26 => ?_)
          refine ok_add (by omega) (fun x27 e27 => ?_)
          refine ok_add (by omega) (fun x28 e28 => ?_)
          have eN : x28.toInt.toNat = bg + j * w + i0 := by omega
          have hv := hva i0 j (by omega) hj
          have fin : ∀ s0 : Int32, s0.toInt = va (bg + j * w + i0) → Ok (if v6 ≤ s0 then letb (v8 + 1) fun x20 => f_Mo_least_39 F rec11 wN wF bN bF mN mF fN fF n tree band li xi yi v6 v7 x20 else letb (v8 + 1) fun x20 => f_Mo_least_39 F rec11 wN wF bN bF mN mF fN fF n tree band li xi yi s0 v7 x20) P0 := by
            intro s0 hs0
            refine ok_le (fun c2 => ?_) (fun c2 => ?_)
            · refine ok_add (by omega) (fun x20 e20 => ih v6 x20 (i0 + 1) (by omega) (by omega) (by omega) (by omega) (fun k => ?_))
              rw [hv6 k]
              try dsimp only
              refine ⟨fun a => ⟨a.1, fun i hi h5 e => ?_⟩, fun a => ⟨a.1, fun i hi h5 e => a.2 i hi (by omega) e⟩⟩
              by_cases q : i = i0
              · subst q
                have := (hv6 k).mpr a
                omega
              · exact a.2 i hi (by omega) e
            · refine ok_add (by omega) (fun x20 e20 => ih s0 x20 (i0 + 1) (by omega) (by omega) (by omega) (by omega) (fun k => ?_))
              constructor
              · intro hk
                have a := (hv6 k).mp (by omega)
                try dsimp only
                refine ⟨a.1, fun i hi h5 e => ?_⟩
                by_cases q : i = i0
                · subst q; omega
                · exact a.2 i hi (by omega) e
              · intro a
                have := a.2 i0 (by omega) (by omega) ((rcP i0 x).mpr ⟨by omega, by omega⟩)
                omega
          refine ok_eq (fun c2 => ?_) (fun c2 => ?_)
          · rw [if_pos (by omega)] at hv
            refine ok_in (by omega) (ok_rd (fun x31 e31 => ?_))
            exact fin x31 (by rw [hv, e31, eN])
          · rw [if_neg (by omega)] at hv
            refine ok_in (by omega) (ok_rd (fun x29 e29 => ?_))
            rw [eN] at e29
            rw [← e29] at hv
            refine ok_eq (fun c3 => ?_) (fun c3 => ?_)
            · rw [if_pos (by omega)] at hv
              exact fin 1000 (by omega)
            · rw [if_neg (by omega)] at hv
              refine ok_in (by omega) (ok_rd (fun x30 e30 => ?_))
              rw [eN, ← e29] at e30
              exact fin x30 (by rw [e30]; omega)
  have keyJ : ∀ (n : Nat) (v6 v7 : Int32) (j0 : Nat), v7.toInt = j0 → y * P ≤ j0 → j0 ≤ y * P + P → y * P + P < j0 + n → (∀ k : Int, k ≤ v6.toInt ↔ k ≤ 1001 ∧ ∀ i j : Nat, i < w → j < h → j < j0 → i / 2 ^ l = x → j / 2 ^ l = y → k ≤ va (bg + j * w + i)) → Ok (f_Mo_least_11 F hN hF' wN wF bN bF mN mF fN fF n tree band li xi yi v6 v7) (fun u => ∀ k : Int, k ≤ u.toInt ↔ k ≤ 1001 ∧ ∀ i j : Nat, i < w → j < h → i / 2 ^ l = x → j / 2 ^ l = y → k ≤ va (bg + j * w + i)) := by
    intro n
    induction n with
    | zero => intro v6 v7 j0 h1 h2 h3 h4; omega
    | succ n ih =>
      intro v6 v7 j0 h1 h2 h3 h4 hv6
      simp only [f_Mo_least_11, g_Mo_least_11, g_Mo_least_151, clamp_eq]
      refine ok_add (by omega) (fun x32 e32 => ?_)
      refine ok_l (fun x33 e33 => ?_)
      have e33' : x33.toInt = ((y + 1) * P : Nat) := by rw [e33]; exact shl x32 (y + 1) (by omega) (by omega)
      refine ok_le (fun c => ok_s ?_) (fun c => ?_)
      · intro k
        rw [hv6 k]
        try dsimp only
        exact ⟨fun a => ⟨a.1, fun i j hi hj e e' => a.2 i j hi hj (by have := (rcP j y).mp e'; omega) e e'⟩, fun a => ⟨a.1, fun i j hi hj _ e e' => a.2 i j hi hj e e'⟩⟩
      · refine ok_in (by omega) (ok_rd (fun x34 e34 => ?_))
        rw [← e34] at hhF
        refine ok_le (fun c1 => ok_s ?_) (fun c1 => ?_)
        · intro k
          rw [hv6 k]
          try dsimp only
          exact ⟨fun a => ⟨a.1, fun i j hi hj e e' => a.2 i j hi hj (by omega) e e'⟩, fun a => ⟨a.1, fun i j hi hj _ e e' => a.2 i j hi hj e e'⟩⟩
        · refine ok_l (fun x35 e35 => ?_)
          have e35' : x35.toInt = (x * P : Nat) := by rw [e35]; exact shl xi x hx.1 (by omega)
          refine keyI _ _ v6 v7 j0 h1 (by omega) ?_ F v6 x35 (x * P) e35' (by omega) (by omega) (by omega) ?_
          · intro v6' x19 e19 hv
            refine ih v6' x19 (j0 + 1) (by omega) (by omega) (by omega) (by omega) (fun k => ?_)
            rw [hv k, hv6 k]
            constructor
            · intro a
              try dsimp only
              refine ⟨a.1.1, fun i j hi hj h5 e e' => ?_⟩
              by_cases q : j = j0
              · subst q; exact a.2 i hi e
              · exact a.1.2 i j hi hj (by omega) e e'
            · intro a
              try dsimp only
              refine ⟨⟨a.1, fun i j hi hj h5 e e' => a.2 i j hi hj (by omega) e e'⟩, fun i hi e => a.2 i j0 hi (by omega) (by omega) e ((rcP j0 y).mpr ⟨by omega, by omega⟩)⟩
          · intro k
            try dsimp only
            exact ⟨fun a => ⟨a, fun i hi h5 e => by have := (rcP i x).mp e; omega⟩, fun a => a.1⟩
  simp only [f_Mo_least, clamp_eq]
  refine ok_l (fun x36 e36 => ?_)
  have e36' : x36.toInt = (y * P : Nat) := by rw [e36]; exact shl yi y hy.1 (by omega)
  refine keyJ F 1001 x36 (y * P) e36' (by omega) (by omega) (by omega) (fun k => ?_)
  rw [l1001]
  try dsimp only
  exact ⟨fun a => ⟨a, fun i j hi hj h5 e e' => by have := (rcP j y).mp e'; omega⟩, fun a => a.1⟩
