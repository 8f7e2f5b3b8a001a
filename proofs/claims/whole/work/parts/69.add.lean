/-! A band more. -/
theorem yx_inj {W x y x' y' : Nat} (hx : x < W) (hx' : x' < W) (e : y * W + x = y' * W + x') : y = y' ∧ x = x' := by
  have h1 : (y * W + x) / W = y := by rw [Nat.add_comm, Nat.add_mul_div_right _ _ (by omega), Nat.div_eq_of_lt hx, Nat.zero_add]
  have h2 : (y' * W + x') / W = y' := by rw [Nat.add_comm, Nat.add_mul_div_right _ _ (by omega), Nat.div_eq_of_lt hx', Nat.zero_add]
  have h3 : y = y' := by rw [← h1, ← h2, e]
  subst h3
  try dsimp only
  exact ⟨rfl, by omega⟩
theorem w_addLevel {F : Nat} (hF : 1000000 ≤ F) {nodes p0 p1 : Int32} {aN n0 W H : Nat} {aF : Nat → Int32} (hn : nodes.toInt = n0) (hp : p0.toInt = W ∧ 0 < W ∧ W < 65 ∧ p1.toInt = H ∧ 0 < H ∧ H < 65) (hs : n0 + W * H ≤ 2048 ∧ n0 ≤ aN ∧ 16 ≤ aN ∧ aN ≤ 4096) :
    Ok (f_Bands_addLevel F nodes aN aF p0 p1) (fun u => 16 * u.1 + aN ≤ u.2.2.2.1 ∧ u.2.1 + 2 * aN ≤ 2 * u.2.2.2.1 ∧ u.2.2.1.toInt = ((n0 + W * H : Nat) : Int) ∧ n0 + W * H ≤ u.2.2.2.1 ∧ u.2.2.2.1 ≤ 4096 ∧ (∀ z, z < n0 → u.2.2.2.2 z = aF z) ∧ ∀ x y, x < W → y < H → (u.2.2.2.2 (n0 + y * W + x)).toInt = if W = 1 ∧ H = 1 then -1 else ((n0 + W * H + y / 2 * ((W + 1) / 2) + x / 2 : Nat) : Int)) := by
  have L := lits
  have hmul : p0.toInt * p1.toInt = ((W * H : Nat) : Int) := by rw [hp.1, hp.2.2.2.1, Int.natCast_mul]
  have key : ∀ (N : Nat) (aF0 : Nat → Int32) (v3 v4 : Int32), n0 + W * H ≤ N → N ≤ 4096 → v3.toInt = ((n0 + W * H : Nat) : Int) → ((v4.toInt = 1 ∧ W = 1 ∧ H = 1) ∨ (v4.toInt = 0 ∧ ¬ (W = 1 ∧ H = 1))) →
      ∀ (n : Nat) (aF1 : Nat → Int32) (v5 : Int32) (y : Nat), v5.toInt = y → y ≤ H → H < y + n → (∀ z, z < n0 → aF1 z = aF0 z) → (∀ x' y', x' < W → y' < y → (aF1 (n0 + y' * W + x')).toInt = if W = 1 ∧ H = 1 then -1 else ((n0 + W * H + y' / 2 * ((W + 1) / 2) + x' / 2 : Nat) : Int)) →
      Ok (f_Bands_addLevel_41 F n nodes N aF1 p0 p1 v3 v4 v5) (fun u => u.1 = 0 ∧ u.2.1 = 0 ∧ u.2.2.1 = v3 ∧ u.2.2.2.1 = N ∧ (∀ z, z < n0 → u.2.2.2.2 z = aF0 z) ∧ ∀ x y, x < W → y < H → (u.2.2.2.2 (n0 + y * W + x)).toInt = if W = 1 ∧ H = 1 then -1 else ((n0 + W * H + y / 2 * ((W + 1) / 2) + x / 2 : Nat) : Int)) := by
    intro N aF0 v3 v4 hN hN2 hv3 hv4 n
    induction n with
    | zero => intro aF1 v5 y h1 h2 h3; omega
    | succ n ih =>
      intro aF1 v5 y h1 h2 h3 h4 h5
      simp only [f_Bands_addLevel_41, g_Bands_addLevel_41]
      refine ok_le (fun _ => ok_s ⟨rfl, rfl, rfl, rfl, h4, fun x' y' hx hy => h5 x' y' hx (by omega)⟩) (fun c1 => ?_)
      have hyH : y < H := by omega
      have hyW : y * W + W ≤ W * H := by
        have := Nat.mul_le_mul_right W (show y + 1 ≤ H by omega)
        rw [Nat.add_mul, Nat.one_mul, Nat.mul_comm H W] at this
        exact this
      have hy2 : y / 2 * ((W + 1) / 2) ≤ 64 * 64 := Nat.mul_le_mul (by omega) (by omega)
      have keyX : ∀ (k : Nat) (aF2 : Nat → Int32) (v6 : Int32) (x : Nat), v6.toInt = x → x ≤ W → W < x + k → (∀ z, z < n0 → aF2 z = aF0 z) → (∀ x' y', x' < W → y' < y → (aF2 (n0 + y' * W + x')).toInt = if W = 1 ∧ H = 1 then -1 else ((n0 + W * H + y' / 2 * ((W + 1) / 2) + x' / 2 : Nat) : Int)) → (∀ x', x' < x → (aF2 (n0 + y * W + x')).toInt = if W = 1 ∧ H = 1 then -1 else ((n0 + W * H + y / 2 * ((W + 1) / 2) + x' / 2 : Nat) : Int)) →
          Ok (f_Bands_addLevel_50 F (f_Bands_addLevel_41 F n) k nodes N aF2 p0 p1 v3 v4 v5 v6) (fun u => u.1 = 0 ∧ u.2.1 = 0 ∧ u.2.2.1 = v3 ∧ u.2.2.2.1 = N ∧ (∀ z, z < n0 → u.2.2.2.2 z = aF0 z) ∧ ∀ x y, x < W → y < H → (u.2.2.2.2 (n0 + y * W + x)).toInt = if W = 1 ∧ H = 1 then -1 else ((n0 + W * H + y / 2 * ((W + 1) / 2) + x / 2 : Nat) : Int)) := by
        intro k
        induction k with
        | zero => intro aF2 v6 x g1 g2 g3; omega
        | succ k ihk =>
          intro aF2 v6 x g1 g2 g3 g4 g5 g6
          simp only [f_Bands_addLevel_50, g_Bands_addLevel_50, g_Bands_addLevel_98, clamp_eq]
          refine ok_le (fun c2 => ?_) (fun c2 => ?_)
          · refine ok_add (by omega) (fun x20 e20 => ih aF2 x20 (y + 1) (by omega) (by omega) (by omega) g4 (fun x' y' hx hy => ?_))
            by_cases qy : y' = y
            · subst qy; exact g6 x' (by omega)
            · exact g5 x' y' hx (by omega)
          · have hmv : v5.toInt * p0.toInt = ((y * W : Nat) : Int) := by rw [h1, hp.1, Int.natCast_mul]
            refine ok_mul (by omega) (fun x21 e21 => ?_)
            refine ok_add (by omega) (fun x22 e22 => ?_)
            refine ok_add (by omega) (fun x23 e23 => ?_)
            have e23' : x23.toInt.toNat = n0 + y * W + x := by omega
            have fin : ∀ s0 : Int32, s0.toInt = (if W = 1 ∧ H = 1 then -1 else ((n0 + W * H + y / 2 * ((W + 1) / 2) + x / 2 : Nat) : Int)) → Ok (asm (vp_in x23 N) (letb (v6 + 1) fun x19 => f_Bands_addLevel_50 F (f_Bands_addLevel_41 F n) k nodes N (upd aF2 x23.toInt.toNat s0) p0 p1 v3 v4 v5 x19)) (fun u => u.1 = 0 ∧ u.2.1 = 0 ∧ u.2.2.1 = v3 ∧ u.2.2.2.1 = N ∧ (∀ z, z < n0 → u.2.2.2.2 z = aF0 z) ∧ ∀ x y, x < W → y < H → (u.2.2.2.2 (n0 + y * W + x)).toInt = if W = 1 ∧ H = 1 then -1 else ((n0 + W * H + y / 2 * ((W + 1) / 2) + x / 2 : Nat) : Int)) := by
              intro s0 hs0
              rw [e23']
              refine ok_in (by omega) ?_
              refine ok_add (by omega) (fun x19 e19 => ihk _ x19 (x + 1) (by omega) (by omega) (by omega) (fun z hz => ?_) (fun x' y' hx hy => ?_) (fun x' hx => ?_))
              · rw [upd_no (by omega)]; exact g4 z hz
              · rw [upd_no (fun z => by have := yx_inj (W := W) (x := x') (y := y') (x' := x) (y' := y) hx (by omega) (by omega); omega)]
                exact g5 x' y' hx hy
              · by_cases qx : x' = x
                · subst qx; rw [upd_is]; exact hs0
                · rw [upd_no (by omega)]; exact g6 x' (by omega)
            refine ok_eq (fun c3 => ?_) (fun c3 => ?_)
            · refine ok_div2 (by omega) (fun x24 e24 => ?_)
              refine ok_add (by omega) (fun x25 e25 => ?_)
              refine ok_div2 (by omega) (fun x26 e26 => ?_)
              have hmz : x24.toInt * x26.toInt = ((y / 2 * ((W + 1) / 2) : Nat) : Int) := by
                rw [show x24.toInt = ((y / 2 : Nat) : Int) by omega, show x26.toInt = (((W + 1) / 2 : Nat) : Int) by omega, Int.natCast_mul]
              refine ok_mul (by omega) (fun x27 e27 => ?_)
              refine ok_add (by omega) (fun x28 e28 => ?_)
              refine ok_div2 (by omega) (fun x29 e29 => ?_)
              refine ok_add (by omega) (fun x30 e30 => ?_)
              refine fin x30 ?_
              rw [if_neg (by omega)]
              omega
            · refine fin (-1) ?_
              rw [if_pos (by omega)]
              exact L.1
      exact keyX F aF1 0 0 (by omega) (by omega) (by omega) h4 h5 (fun x' hx => by omega)
  have main : ∀ s0 : Int32, ((s0.toInt = 1 ∧ W = 1 ∧ H = 1) ∨ (s0.toInt = 0 ∧ ¬ (W = 1 ∧ H = 1))) → ∀ x36 : Int32, x36.toInt = ((n0 + W * H : Nat) : Int) → Ok (g_Bands_addLevel_24 F nodes aN aF p0 p1 x36 s0) (fun u => 16 * u.1 + aN ≤ u.2.2.2.1 ∧ u.2.1 + 2 * aN ≤ 2 * u.2.2.2.1 ∧ u.2.2.1.toInt = ((n0 + W * H : Nat) : Int) ∧ n0 + W * H ≤ u.2.2.2.1 ∧ u.2.2.2.1 ≤ 4096 ∧ (∀ z, z < n0 → u.2.2.2.2 z = aF z) ∧ ∀ x y, x < W → y < H → (u.2.2.2.2 (n0 + y * W + x)).toInt = if W = 1 ∧ H = 1 then -1 else ((n0 + W * H + y / 2 * ((W + 1) / 2) + x / 2 : Nat) : Int)) := by
    intro s0 hs0 x36 e36
    simp only [g_Bands_addLevel_24]
    refine ok_bm (w_withRoom 2048 (by omega)) (fun u31 e31 => ok_c ?_)
    obtain ⟨r1, r2, r3, r4, r5⟩ := e31
    refine ok_m (key u31.2.2.1 u31.2.2.2 x36 s0 (by omega) (by omega) e36 hs0 F u31.2.2.2 0 0 (by omega) (by omega) (by omega) (fun _ _ => rfl) (fun x' y' _ hy => by omega)) (fun u hu => ?_)
    obtain ⟨z1, z2, z3, z4, z5, z6⟩ := hu
    dsimp only
    rw [z3, z4]
    try dsimp only
    exact ⟨by omega, by omega, e36, by omega, by omega, fun z hz => by rw [z5 z hz, r5 z (by omega)], z6⟩
  simp only [f_Bands_addLevel, g_Bands_addLevel_23]
  refine ok_mul (by omega) (fun x35 e35 => ?_)
  refine ok_add (by omega) (fun x36 e36 => ?_)
  refine ok_eq (fun c1 => ?_) (fun c1 => main 0 (Or.inr ⟨L.2.1, by omega⟩) x36 (by omega))
  exact ok_eq (fun c2 => main 1 (Or.inl ⟨L.2.2.1, by omega, by omega⟩) x36 (by omega)) (fun c2 => main 0 (Or.inr ⟨L.2.1, by omega⟩) x36 (by omega))
def ext (w : Nat → Nat) (m W : Nat) : Nat → Nat := fun i => if i = m then W else w i
theorem ext_is (w : Nat → Nat) (m W : Nat) : ext w m W m = W := if_pos rfl
theorem ext_no {w : Nat → Nat} {m W i : Nat} (h : ¬ i = m) : ext w m W i = w i := if_neg h
theorem nbase_ext {w h : Nat → Nat} {m W H : Nat} : ∀ j, j ≤ m → nbase (ext w m W) (ext h m H) j = nbase w h j := by
  intro j
  induction j with
  | zero => intro _; rfl
  | succ j ih => intro hj; rw [nbase_s, nbase_s, ih (by omega), ext_no (by omega), ext_no (by omega)]
theorem bbase_ext {w h : Nat → Nat} {m W H : Nat} : ∀ j, j ≤ m → bbase (ext w m W) (ext h m H) j = bbase w h j := by
  intro j
  induction j with
  | zero => intro _; rfl
  | succ j ih => intro hj; rw [bbase_s, bbase_s, ih (by omega), ext_no (by omega), ext_no (by omega)]
theorem w_add {F : Nat} (hF : 1000000 ≤ F) {cn nodes p0 p1 : Int32} {leN abN m W H : Nat} {w h : Nat → Nat} {bF leF abF : Nat → Int32} (hG : Geo m w h) (hA : GA m w h abF) (hL : GL m w h leF) (hm : cn.toInt = m ∧ m < 3) (hbase : ∀ j, j ≤ m → (bF j).toInt = bbase w h j) (hnodes : nodes.toInt = nbase w h m) (hs : bbase w h m ≤ leN ∧ 16 ≤ leN ∧ leN ≤ 2048 ∧ nbase w h m ≤ abN ∧ 16 ≤ abN ∧ abN ≤ 4096) (hp : p0.toInt = W ∧ W < 65 ∧ p1.toInt = H ∧ H < 65 ∧ bbase w h m + W * H ≤ 1024) :
    Ok (f_Bands_add F cn nodes 4 bF leN leF abN abF p0 p1) (fun u => Geo (m + 1) (ext w m W) (ext h m H) ∧ GA (m + 1) (ext w m W) (ext h m H) u.2.2.2.2.2.2.2.2 ∧ GL (m + 1) (ext w m W) (ext h m H) u.2.2.2.2.2.2.1 ∧ u.2.2.1.toInt = (m : Int) + 1 ∧ u.2.2.2.1.toInt = nbase (ext w m W) (ext h m H) (m + 1) ∧ (∀ j, j ≤ m + 1 → (u.2.2.2.2.1 j).toInt = bbase (ext w m W) (ext h m H) j) ∧ (bbase (ext w m W) (ext h m H) (m + 1) ≤ u.2.2.2.2.2.1 ∧ 16 ≤ u.2.2.2.2.2.1 ∧ u.2.2.2.2.2.1 ≤ 2048 ∧ nbase (ext w m W) (ext h m H) (m + 1) ≤ u.2.2.2.2.2.2.2.1 ∧ 16 ≤ u.2.2.2.2.2.2.2.1 ∧ u.2.2.2.2.2.2.2.1 ≤ 4096) ∧ 16 * u.1 + (leN + abN) ≤ u.2.2.2.2.2.1 + u.2.2.2.2.2.2.2.1 ∧ u.2.1 + 2 * (leN + abN) ≤ 2 * (u.2.2.2.2.2.1 + u.2.2.2.2.2.2.2.1)) := by
  have L := lits
  have hmul : p0.toInt * p1.toInt = ((W * H : Nat) : Int) := by rw [hp.1, hp.2.2.1, Int.natCast_mul]
  have hG2 : Geo (m + 1) (ext w m W) (ext h m H) := by
    try dsimp only
    refine ⟨by omega, fun i hi => ?_, ?_⟩
    · by_cases q : i = m
      · rw [q, ext_is, ext_is]; omega
      · rw [ext_no q, ext_no q]; exact hG.2.1 i (by omega)
    · rw [bbase_s, bbase_ext m (by omega), ext_is, ext_is]; omega
  have hmax := hG2.max
  have hnb1 : nbase (ext w m W) (ext h m H) (m + 1) = nbase w h m + allOf W H := by rw [nbase_s, nbase_ext m (by omega), ext_is, ext_is]
  have hbb1 : bbase (ext w m W) (ext h m H) (m + 1) = bbase w h m + W * H := by rw [bbase_s, bbase_ext m (by omega), ext_is, ext_is]
  have t6 := topOf_le W H
  -- the levels
  have fin125 : ∀ (N : Nat) (aF1 : Nat → Int32) (nd1 : Int32) (lN1 : Nat) (lF1 : Nat → Int32) (v3 : Int32), v3.toInt = bbase w h m → nd1.toInt = nbase w h m + allOf W H → GL (m + 1) (ext w m W) (ext h m H) lF1 → bbase w h m + W * H ≤ lN1 → 16 ≤ lN1 → lN1 ≤ 2048 → nbase w h m + allOf W H ≤ N → 16 ≤ N → N ≤ 4096 → GA (m + 1) (ext w m W) (ext h m H) aF1 → Ok (g_Bands_add_125 F 4 N aF1 cn nd1 bF lN1 lF1 p0 p1 v3) (fun u => u.1 = 0 ∧ u.2.1 = 0 ∧ u.2.2.2.2.2.1 = lN1 ∧ u.2.2.2.2.2.2.2.1 = N ∧ Geo (m + 1) (ext w m W) (ext h m H) ∧ GA (m + 1) (ext w m W) (ext h m H) u.2.2.2.2.2.2.2.2 ∧ GL (m + 1) (ext w m W) (ext h m H) u.2.2.2.2.2.2.1 ∧ u.2.2.1.toInt = (m : Int) + 1 ∧ u.2.2.2.1.toInt = nbase (ext w m W) (ext h m H) (m + 1) ∧ (∀ j, j ≤ m + 1 → (u.2.2.2.2.1 j).toInt = bbase (ext w m W) (ext h m H) j)) := by
    intro N aF1 nd1 lN1 lF1 v3 h1 h2 h3 h4 h5 h6 h7 h8 h9 h10
    simp only [g_Bands_add_125, clamp_eq]
    refine ok_add (by omega) (fun x24 e24 => ?_)
    refine ok_mul (by omega) (fun x25 e25 => ?_)
    refine ok_add (by omega) (fun x26 e26 => ?_)
    refine ok_in (by omega) (ok_s ?_)
    try dsimp only
    refine ⟨rfl, rfl, rfl, rfl, hG2, h10, h3, by omega, by omega, fun j hj => ?_⟩
    rw [show x24.toInt.toNat = m + 1 by omega]
    by_cases q : j = m + 1
    · rw [q, upd_is, hbb1]; omega
    · rw [upd_no q, bbase_ext j (by omega)]; exact hbase j (by omega)
  have GAkeep : ∀ aF1 : Nat → Int32, (∀ z, z < nbase w h m → aF1 z = abF z) → (∀ l x y, l ≤ topOf W H → x < hf W l → y < hf H l → (aF1 (nbase w h m + nd W H l x y)).toInt = if l = topOf W H then -1 else ((nbase w h m + nd W H (l + 1) (x / 2) (y / 2) : Nat) : Int)) → GA (m + 1) (ext w m W) (ext h m H) aF1 := by
    intro aF1 h1 h2 i l x y hi hl hx hy
    by_cases q : i = m
    · subst q
      simp only [ext_is] at hl hx hy ⊢
      rw [nbase_ext i (by omega)]
      exact h2 l x y hl hx hy
    · simp only [ext_no q] at hl hx hy ⊢
      rw [nbase_ext i (by omega)]
      have hlt := hG.in (show i < m by omega) hl hx hy
      have hmn := nbase_mono w h (show i + 1 ≤ m by omega)
      rw [nbase_s] at hmn
      rw [h1 _ (by omega)]
      exact hA i l x y (by omega) hl hx hy
  have levels : ∀ (d l n N : Nat) (aF1 : Nat → Int32) (nd1 : Int32) (lN1 : Nat) (lF1 : Nat → Int32) (v3 v4 v5 v6 : Int32), 0 < W → 0 < H → d = topOf W H - l → l ≤ topOf W H → d < n → v6.toInt = l → v4.toInt = hf W l → v5.toInt = hf H l → v3.toInt = bbase w h m → nd1.toInt = ((nbase w h m + offs W H l : Nat) : Int) → GL (m + 1) (ext w m W) (ext h m H) lF1 → bbase w h m + W * H ≤ lN1 → 16 ≤ lN1 → lN1 ≤ 2048 → nbase w h m + offs W H l ≤ N → 16 ≤ N → N ≤ 4096 → (∀ z, z < nbase w h m → aF1 z = abF z) → (∀ l' x y, l' < l → x < hf W l' → y < hf H l' → (aF1 (nbase w h m + nd W H l' x y)).toInt = ((nbase w h m + nd W H (l' + 1) (x / 2) (y / 2) : Nat) : Int)) →
      Ok (f_Bands_add_63 F 4 n N aF1 cn nd1 bF lN1 lF1 p0 p1 v3 v4 v5 v6) (fun u => 16 * u.1 + N ≤ u.2.2.2.2.2.2.2.1 ∧ u.2.1 + 2 * N ≤ 2 * u.2.2.2.2.2.2.2.1 ∧ nbase w h m + allOf W H ≤ u.2.2.2.2.2.2.2.1 ∧ u.2.2.2.2.2.2.2.1 ≤ 4096 ∧ u.2.2.2.2.2.1 = lN1 ∧ Geo (m + 1) (ext w m W) (ext h m H) ∧ GA (m + 1) (ext w m W) (ext h m H) u.2.2.2.2.2.2.2.2 ∧ GL (m + 1) (ext w m W) (ext h m H) u.2.2.2.2.2.2.1 ∧ u.2.2.1.toInt = (m : Int) + 1 ∧ u.2.2.2.1.toInt = nbase (ext w m W) (ext h m H) (m + 1) ∧ (∀ j, j ≤ m + 1 → (u.2.2.2.2.1 j).toInt = bbase (ext w m W) (ext h m H) j)) := by
    intro d
    induction d with
    | zero =>
      intro l n N aF1 nd1 lN1 lF1 v3 v4 v5 v6 hW hH h1 h2 h3 h4 h5 h6 h7 h8 h9 h10 h11 h12 h13 h14 h15 h16 h17
      have hlt : l = topOf W H := by omega
      obtain ⟨n, rfl⟩ : ∃ y, n = y + 1 := ⟨n - 1, by omega⟩
      have hpw := hf_pos W hp.2.1 l (by omega) hW
      have hph := hf_pos H hp.2.2.2.1 l (by omega) hH
      have hlw := hf_le W hp.2.1 l (by omega)
      have hlh := hf_le H hp.2.2.2.1 l (by omega)
      have hom := offs_mono W H (show l + 1 ≤ topOf W H + 1 by omega)
      have hap := all_pos (w := W) (h := H) (Nat.mul_pos hW hH)
      have hos := offs_s W H l
      simp only [f_Bands_add_63, g_Bands_add_63]
      refine ok_le (fun hc => by omega) (fun _ => ?_)
      refine ok_le (fun hc => by omega) (fun _ => ?_)
      refine ok_le (fun hc => by omega) (fun _ => ?_)
      refine ok_bm (w_addLevel (n0 := nbase w h m + offs W H l) (W := hf W l) (H := hf H l) hF h8 ⟨h5, hpw, by omega, h6, hph, by omega⟩ ⟨by omega, h13, h14, h15⟩) (fun u32 e32 => ok_c ?_)
      obtain ⟨y1, y2, y3, y4, y5, y6, y7⟩ := e32
      have hw1 := top_is W hp.2.1 H hp.2.2.2.1
      rw [← hlt] at hw1
      refine ok_eq (fun _ => ?_) (fun hc => by omega)
      refine ok_eq (fun _ => ?_) (fun hc => by omega)
      have hall : allOf W H = offs W H l + hf W l * hf H l := by rw [all_pos (Nat.mul_pos hW hH), offs_s, hlt]
      refine ok_m (fin125 _ _ _ lN1 lF1 v3 h7 (by omega) h9 h10 h11 h12 (by omega) (by omega) (by omega) (GAkeep _ (fun z hz => by rw [y6 z (by omega)]; exact h16 z hz) ?_)) (fun u hu => ?_)
      · intro l' x y hl' hx hy
        by_cases q : l' = l
        · subst q
          rw [if_pos hlt]
          have := y7 x y hx hy
          rw [if_pos (by omega)] at this
          have e1 : nbase w h m + nd W H l' x y = nbase w h m + offs W H l' + y * hf W l' + x := by unfold nd; omega
          rw [e1]
          exact this
        · rw [if_neg (by omega)]
          have ho := nd_lt hx hy
          have ho2 := offs_mono W H (show l' + 1 ≤ l by omega)
          rw [y6 _ (by omega)]
          exact h17 l' x y (by omega) hx hy
      · obtain ⟨z1, z2, z3, z4, z5⟩ := hu
        dsimp only
        rw [z3, z4]
        try dsimp only
        exact ⟨by omega, by omega, by omega, by omega, rfl, z5⟩
    | succ d ih =>
      intro l n N aF1 nd1 lN1 lF1 v3 v4 v5 v6 hW hH h1 h2 h3 h4 h5 h6 h7 h8 h9 h10 h11 h12 h13 h14 h15 h16 h17
      have hlt : l < topOf W H := by omega
      obtain ⟨n, rfl⟩ : ∃ y, n = y + 1 := ⟨n - 1, by omega⟩
      have hpw := hf_pos W hp.2.1 l (by omega) hW
      have hph := hf_pos H hp.2.2.2.1 l (by omega) hH
      have hlw := hf_le W hp.2.1 l (by omega)
      have hlh := hf_le H hp.2.2.2.1 l (by omega)
      have hom := offs_mono W H (show l + 1 ≤ topOf W H + 1 by omega)
      have hap := all_pos (w := W) (h := H) (Nat.mul_pos hW hH)
      have hos := offs_s W H l
      simp only [f_Bands_add_63, g_Bands_add_63]
      refine ok_le (fun hc => by omega) (fun _ => ?_)
      refine ok_le (fun hc => by omega) (fun _ => ?_)
      refine ok_le (fun hc => by omega) (fun _ => ?_)
      refine ok_bm (w_addLevel (n0 := nbase w h m + offs W H l) (W := hf W l) (H := hf H l) hF h8 ⟨h5, hpw, by omega, h6, hph, by omega⟩ ⟨by omega, h13, h14, h15⟩) (fun u32 e32 => ok_c ?_)
      obtain ⟨y1, y2, y3, y4, y5, y6, y7⟩ := e32
      have hno := top_no W hp.2.1 H hp.2.2.2.1 l (by omega) hlt
      have hs1 := hf_s W hp.2.1 l (by omega)
      have hs2 := hf_s H hp.2.2.2.1 l (by omega)
      have cont : Ok (g_Bands_add_103 F (f_Bands_add_63 F 4 n) bF lN1 lF1 cn u32.2.2.1 u32.2.2.2.1 u32.2.2.2.2 p0 p1 v3 v4 v5 v6) (fun u => 16 * u.1 + u32.2.2.2.1 ≤ u.2.2.2.2.2.2.2.1 ∧ u.2.1 + 2 * u32.2.2.2.1 ≤ 2 * u.2.2.2.2.2.2.2.1 ∧ nbase w h m + allOf W H ≤ u.2.2.2.2.2.2.2.1 ∧ u.2.2.2.2.2.2.2.1 ≤ 4096 ∧ u.2.2.2.2.2.1 = lN1 ∧ Geo (m + 1) (ext w m W) (ext h m H) ∧ GA (m + 1) (ext w m W) (ext h m H) u.2.2.2.2.2.2.2.2 ∧ GL (m + 1) (ext w m W) (ext h m H) u.2.2.2.2.2.2.1 ∧ u.2.2.1.toInt = (m : Int) + 1 ∧ u.2.2.2.1.toInt = nbase (ext w m W) (ext h m H) (m + 1) ∧ (∀ j, j ≤ m + 1 → (u.2.2.2.2.1 j).toInt = bbase (ext w m W) (ext h m H) j)) := by
        simp only [g_Bands_add_103]
        refine ok_add (by omega) (fun x27 e27 => ?_)
        refine ok_div2 (by omega) (fun x28 e28 => ?_)
        refine ok_add (by omega) (fun x29 e29 => ?_)
        refine ok_div2 (by omega) (fun x30 e30 => ?_)
        refine ok_add (by omega) (fun x31 e31 => ?_)
        refine ih (l + 1) n _ _ _ lN1 lF1 v3 x28 x30 x31 hW hH (by omega) (by omega) (by omega) (by omega) (by omega) (by omega) h7 (by rw [offs_s]; omega) h9 h10 h11 h12 (by rw [offs_s]; omega) (by omega) (by omega) (fun z hz => by rw [y6 z (by omega)]; exact h16 z hz) (fun l' x y hl' hx hy => ?_)
        by_cases q : l' = l
        · subst q
          have := y7 x y hx hy
          rw [if_neg (by omega)] at this
          have e1 : nbase w h m + nd W H l' x y = nbase w h m + offs W H l' + y * hf W l' + x := by unfold nd; omega
          rw [e1, this]
          have e2 : nd W H (l' + 1) (x / 2) (y / 2) = offs W H l' + hf W l' * hf H l' + y / 2 * ((hf W l' + 1) / 2) + x / 2 := by unfold nd; rw [offs_s, hs1]
          rw [e2]
          omega
        · have ho := nd_lt hx hy
          have ho2 := offs_mono W H (show l' + 1 ≤ l by omega)
          rw [y6 _ (by omega)]
          exact h17 l' x y (by omega) hx hy
      have fin2 : ∀ u : Nat × Nat × Int32 × Int32 × (Nat → Int32) × Nat × (Nat → Int32) × Nat × (Nat → Int32), (16 * u.1 + u32.2.2.2.1 ≤ u.2.2.2.2.2.2.2.1 ∧ u.2.1 + 2 * u32.2.2.2.1 ≤ 2 * u.2.2.2.2.2.2.2.1 ∧ nbase w h m + allOf W H ≤ u.2.2.2.2.2.2.2.1 ∧ u.2.2.2.2.2.2.2.1 ≤ 4096 ∧ u.2.2.2.2.2.1 = lN1 ∧ Geo (m + 1) (ext w m W) (ext h m H) ∧ GA (m + 1) (ext w m W) (ext h m H) u.2.2.2.2.2.2.2.2 ∧ GL (m + 1) (ext w m W) (ext h m H) u.2.2.2.2.2.2.1 ∧ u.2.2.1.toInt = (m : Int) + 1 ∧ u.2.2.2.1.toInt = nbase (ext w m W) (ext h m H) (m + 1) ∧ (∀ j, j ≤ m + 1 → (u.2.2.2.2.1 j).toInt = bbase (ext w m W) (ext h m H) j)) → (16 * (u.1 + u32.1) + N ≤ u.2.2.2.2.2.2.2.1 ∧ u.2.1 + u32.2.1 + 2 * N ≤ 2 * u.2.2.2.2.2.2.2.1 ∧ nbase w h m + allOf W H ≤ u.2.2.2.2.2.2.2.1 ∧ u.2.2.2.2.2.2.2.1 ≤ 4096 ∧ u.2.2.2.2.2.1 = lN1 ∧ Geo (m + 1) (ext w m W) (ext h m H) ∧ GA (m + 1) (ext w m W) (ext h m H) u.2.2.2.2.2.2.2.2 ∧ GL (m + 1) (ext w m W) (ext h m H) u.2.2.2.2.2.2.1 ∧ u.2.2.1.toInt = (m : Int) + 1 ∧ u.2.2.2.1.toInt = nbase (ext w m W) (ext h m H) (m + 1) ∧ (∀ j, j ≤ m + 1 → (u.2.2.2.2.1 j).toInt = bbase (ext w m W) (ext h m H) j)) := fun u hu => ⟨by omega, by omega, hu.2.2⟩
      refine ok_eq (fun _ => ?_) (fun _ => ok_m cont fin2)
      exact ok_eq (fun hc => by omega) (fun _ => ok_m cont fin2)
  have leaves : ∀ (n : Nat) (lF1 : Nat → Int32) (lN1 : Nat) (v3 v4 : Int32) (k : Nat), bbase w h m + W * H ≤ lN1 → 16 ≤ lN1 → lN1 ≤ 2048 → v3.toInt = bbase w h m → v4.toInt = k → k ≤ W * H → W * H < k + n → (∀ z, z < bbase w h m → lF1 z = leF z) → (∀ z, z < k → (lF1 (bbase w h m + z)).toInt = ((nbase w h m + z : Nat) : Int)) → Ok (f_Bands_add_24 F 4 n abN abF cn nodes bF lN1 lF1 p0 p1 v3 v4) (fun u => 16 * u.1 + abN ≤ u.2.2.2.2.2.2.2.1 ∧ u.2.1 + 2 * abN ≤ 2 * u.2.2.2.2.2.2.2.1 ∧ nbase w h m + allOf W H ≤ u.2.2.2.2.2.2.2.1 ∧ u.2.2.2.2.2.2.2.1 ≤ 4096 ∧ u.2.2.2.2.2.1 = lN1 ∧ Geo (m + 1) (ext w m W) (ext h m H) ∧ GA (m + 1) (ext w m W) (ext h m H) u.2.2.2.2.2.2.2.2 ∧ GL (m + 1) (ext w m W) (ext h m H) u.2.2.2.2.2.2.1 ∧ u.2.2.1.toInt = (m : Int) + 1 ∧ u.2.2.2.1.toInt = nbase (ext w m W) (ext h m H) (m + 1) ∧ (∀ j, j ≤ m + 1 → (u.2.2.2.2.1 j).toInt = bbase (ext w m W) (ext h m H) j)) := by
    intro n
    induction n with
    | zero => intro lF1 lN1 v3 v4 k h1 h2 h3 h4 h5 h6 h7; omega
    | succ n ih =>
      intro lF1 lN1 v3 v4 k h1 h2 h3 h4 h5 h6 h7 h8 h9
      simp only [f_Bands_add_24, g_Bands_add_24, clamp_eq]
      refine ok_mul (by omega) (fun x36 e36 => ?_)
      refine ok_le (fun c1 => ?_) (fun c1 => ?_)
      · have hk : k = W * H := by omega
        have hGL2 : GL (m + 1) (ext w m W) (ext h m H) lF1 := by
          intro i z hi hz
          by_cases q : i = m
          · subst q
            rw [ext_is, ext_is] at hz
            rw [nbase_ext i (by omega), bbase_ext i (by omega)]
            exact h9 z (by omega)
          · rw [ext_no q, ext_no q] at hz
            rw [nbase_ext i (by omega), bbase_ext i (by omega)]
            have := hG.wh (show i < m by omega)
            rw [h8 _ (by omega)]
            exact hL i z (by omega) hz
        by_cases hz : W * H = 0
        · obtain ⟨F', hF'⟩ : ∃ y, F = y + 1 := ⟨F - 1, by omega⟩
          have hall : allOf W H = 0 := by unfold allOf; rw [if_pos hz]
          have hend : ∀ v : Int32, Ok (g_Bands_add_125 F 4 abN abF cn nodes bF lN1 lF1 p0 p1 v3) (fun u => 16 * u.1 + abN ≤ u.2.2.2.2.2.2.2.1 ∧ u.2.1 + 2 * abN ≤ 2 * u.2.2.2.2.2.2.2.1 ∧ nbase w h m + allOf W H ≤ u.2.2.2.2.2.2.2.1 ∧ u.2.2.2.2.2.2.2.1 ≤ 4096 ∧ u.2.2.2.2.2.1 = lN1 ∧ Geo (m + 1) (ext w m W) (ext h m H) ∧ GA (m + 1) (ext w m W) (ext h m H) u.2.2.2.2.2.2.2.2 ∧ GL (m + 1) (ext w m W) (ext h m H) u.2.2.2.2.2.2.1 ∧ u.2.2.1.toInt = (m : Int) + 1 ∧ u.2.2.2.1.toInt = nbase (ext w m W) (ext h m H) (m + 1) ∧ (∀ j, j ≤ m + 1 → (u.2.2.2.2.1 j).toInt = bbase (ext w m W) (ext h m H) j)) := by
            intro _
            refine ok_m (fin125 abN abF nodes lN1 lF1 v3 h4 (by omega) hGL2 h1 h2 h3 (by omega) (by omega) (by omega) (GAkeep abF (fun _ _ => rfl) (fun l x y hl hx hy => ?_))) (fun u hu => ?_)
            · have := wh_pos hp.2.1 hp.2.2.2.1 (by omega) hx hy
              omega
            · obtain ⟨z1, z2, z3, z4, z5⟩ := hu
              rw [z3, z4]
              try dsimp only
              exact ⟨by omega, by omega, by omega, by omega, rfl, z5⟩
          have step : ∀ FF, FF = F' + 1 → Ok (f_Bands_add_63 F 4 FF abN abF cn nodes bF lN1 lF1 p0 p1 v3 p0 p1 0) (fun u => 16 * u.1 + abN ≤ u.2.2.2.2.2.2.2.1 ∧ u.2.1 + 2 * abN ≤ 2 * u.2.2.2.2.2.2.2.1 ∧ nbase w h m + allOf W H ≤ u.2.2.2.2.2.2.2.1 ∧ u.2.2.2.2.2.2.2.1 ≤ 4096 ∧ u.2.2.2.2.2.1 = lN1 ∧ Geo (m + 1) (ext w m W) (ext h m H) ∧ GA (m + 1) (ext w m W) (ext h m H) u.2.2.2.2.2.2.2.2 ∧ GL (m + 1) (ext w m W) (ext h m H) u.2.2.2.2.2.2.1 ∧ u.2.2.1.toInt = (m : Int) + 1 ∧ u.2.2.2.1.toInt = nbase (ext w m W) (ext h m H) (m + 1) ∧ (∀ j, j ≤ m + 1 → (u.2.2.2.2.1 j).toInt = bbase (ext w m W) (ext h m H) j)) := by
            intro FF hFF
            subst hFF
            simp only [f_Bands_add_63, g_Bands_add_63]
            refine ok_le (fun hc => by omega) (fun _ => ?_)
            refine ok_le (fun _ => hend v3) (fun c2 => ?_)
            refine ok_le (fun _ => hend v3) (fun c3 => ?_)
            have : 0 < W * H := Nat.mul_pos (by omega) (by omega)
            omega
          exact step F hF'
        · have hW : 0 < W := by
            rcases Nat.eq_zero_or_pos W with e | e
            · rw [e, Nat.zero_mul] at hz; omega
            · exact e
          have hH : 0 < H := by
            rcases Nat.eq_zero_or_pos H with e | e
            · rw [e, Nat.mul_zero] at hz; omega
            · exact e
          have o0 : offs W H 0 = 0 := rfl
          exact levels (topOf W H) 0 F abN abF nodes lN1 lF1 v3 p0 p1 0 hW hH (by omega) (by omega) (by omega) (by omega) (by rw [hf_0]; exact hp.1) (by rw [hf_0]; exact hp.2.2.1) h4 (by omega) hGL2 h1 h2 h3 (by omega) (by omega) (by omega) (fun _ _ => rfl) (fun l' x y hl' => by omega)
      · refine ok_add (by omega) (fun x37 e37 => ?_)
        refine ok_add (by omega) (fun x38 e38 => ?_)
        refine ok_in (by omega) ?_
        refine ok_add (by omega) (fun x39 e39 => ?_)
        rw [show x37.toInt.toNat = bbase w h m + k by omega]
        refine ih _ lN1 v3 x39 (k + 1) h1 h2 h3 h4 (by omega) (by omega) (by omega) (fun z hz => ?_) (fun z hz => ?_)
        · rw [upd_no (by omega)]; exact h8 z hz
        · by_cases q : z = k
          · subst q; rw [upd_is]; omega
          · rw [upd_no (by omega)]; exact h9 z (by omega)
  simp only [f_Bands_add]
  refine ok_bm (w_blocks (m := m) (nb := bbase w h m) ⟨hm.1, by omega⟩ (hbase m (by omega))) (fun u40 e40 => ?_)
  refine ok_mul (by omega) (fun x41 e41 => ?_)
  refine ok_add (by omega) (fun x42 e42 => ?_)
  refine ok_bm (w_withRoom 1024 (by omega)) (fun u43 e43 => ok_c ?_)
  obtain ⟨r1, r2, r3, r4, r5⟩ := e43
  refine ok_m (leaves F u43.2.2.2 u43.2.2.1 u40 0 0 (by omega) (by omega) (by omega) e40 (by omega) (by omega) (by omega) (fun z hz => r5 z (by omega)) (fun z hz => by omega)) (fun u hu => ?_)
  obtain ⟨z1, z2, z3, z4, z5, z6, z7, z8, z9, z10, z11⟩ := hu
  dsimp only
  rw [z5]
  try dsimp only
  exact ⟨z6, z7, z8, z9, z10, z11, ⟨by omega, by omega, by omega, by omega, by omega, z4⟩, by omega, by omega⟩
