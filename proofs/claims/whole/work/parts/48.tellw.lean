/-! A tree's telling, written. -/
def QW (nn MX C : Nat) (ρ : Nat → Nat) (nF l0 k0 L0 K0 : Nat → Int32) (xs : Nat → Nat) (top : Nat) (s bound wg : Int32) (N : Nat) (u : Nat × Nat × Int32 × (Nat → Int32) × (Nat → Int32) × (Nat → Int32) × Int32 × Int32 × Int32 × Nat × (Nat → Int32)) (v : Int32 × Int32 × Int32 × Int32 × (Nat → Int32) × (Nat → Int32) × (Nat → Int32)) : Prop :=
  u.2.2.1 = v.1 ∧ (v.1.toInt = 0 ∨ v.1.toInt = 1) ∧ v.2.2.2.1 = wg ∧ TR nn ρ u.2.2.2.2.1 v.2.2.2.2.2.1 ∧ TR nn ρ u.2.2.2.2.2.1 v.2.2.2.2.2.2 ∧ TSafe nn MX u.2.2.2.2.1 u.2.2.2.2.2.1 ∧ NumInv nn nF u.2.2.2.2.1 u.2.2.2.2.2.1 ∧ (∀ y, (∀ l, l ≤ top → ¬ y = xs l) → u.2.2.2.2.1 y = l0 y ∧ u.2.2.2.2.2.1 y = k0 y) ∧ (∀ i, (∀ l, l ≤ top → ¬ i = ρ (xs l)) → v.2.2.2.2.2.1 i = L0 i ∧ v.2.2.2.2.2.2 i = K0 i) ∧ (v.1.toInt = 1 → (nF (xs 0)).toInt < MX) ∧ (v.1.toInt = 0 → bound.toInt ≤ (nF (xs 0)).toInt) ∧
  RelW (C - pot u.2.2.2.2.1 u.2.2.2.2.2.1 nn) u.2.2.2.2.2.2.1 u.2.2.2.2.2.2.2.1 u.2.2.2.2.2.2.2.2.1 u.2.2.2.2.2.2.2.2.2.1 u.2.2.2.2.2.2.2.2.2.2 s v.2.1 v.2.2.1 v.2.2.2.2.1 ∧ 16 * u.1 + N ≤ u.2.2.2.2.2.2.2.2.2.1 ∧ u.2.1 + 2 * N ≤ 2 * u.2.2.2.2.2.2.2.2.2.1
theorem div_nat {a : Int} {b n : Nat} (h : a = (b : Int)) : a / (n : Int) = ((b / n : Nat) : Int) := by rw [h, Int.natCast_ediv]
set_option maxHeartbeats 1000000 in
theorem s_tellW {F : Nat} (hF : 1000000 ≤ F) {pN nN lN kN aN nn MX C : Nat} {nF pF lF kF aF : Nat → Int32} {g r c : Int32} {N : Nat} {R : Nat → Int32} {sz wr s e q wg : Int32} {B : Nat → Int32} {wN hN bN mN fN LN KN : Nat} {wF hF' bF mF fF LF0 KF0 : Nat → Int32} {leaf bound tree band block : Int32} {w h bk : Nat} {ρ xs : Nat → Nat}
    (hw : wr.toInt = 1) (hg : wg.toInt = 0) (hn : pN = 7 ∧ nn ≤ nN ∧ nn ≤ lN ∧ nn ≤ kN ∧ nn ≤ aN ∧ nn ≤ 100000 ∧ LN = 24576 ∧ KN = 24576 ∧ MX ≤ 1000 ∧ wN = 3 ∧ hN = 3) (hband : 0 ≤ band.toInt ∧ band.toInt < 3) (hwF : (wF band.toInt.toNat).toInt = w) (hhF : (hF' band.toInt.toNat).toInt = h) (hwh : 0 < w ∧ w < 65 ∧ 0 < h ∧ h < 65) (htree : 0 ≤ tree.toInt ∧ tree.toInt ≤ 1)
    (hbk : block.toInt = bk ∧ bk < w * h) (hb : 0 ≤ bound.toInt ∧ bound.toInt ≤ MX) (hpath : Path aF xs (topOf w h) nn) (hleaf : leaf.toInt = xs 0) (hinj : Inj nn ρ) (hρ2 : ∀ x, x < nn → ρ x < 24576)
    (hρ : ∀ l, l ≤ topOf w h → (ρ (xs l) : Int) = (2 - 2 * wr.toInt + tree.toInt) * 6144 + 2048 * band.toInt + nd w h l (bk % w / 2 ^ l) (bk / w / 2 ^ l))
    (hmono : ∀ l, l < topOf w h → (nF (xs (l + 1))).toInt ≤ (nF (xs l)).toInt) (hpos : ∀ l, l ≤ topOf w h → 0 ≤ (nF (xs l)).toInt)
    (hleast : ∀ l, l ≤ topOf w h → ∀ li xi yi : Int32, li.toInt = l → xi.toInt = (bk % w / 2 ^ l : Nat) → yi.toInt = (bk / w / 2 ^ l : Nat) → Ok (f_Mo_least F hN hF' wN wF bN bF mN mF fN fF tree band li xi yi) (fun u => u = nF (xs l)))
    (hC : nn * (MX + 1) ≤ C) (hTl : TR nn ρ lF LF0) (hTk : TR nn ρ kF KF0) (hs : TSafe nn MX lF kF) (hni : NumInv nn nF lF kF) (hrel : RelW (C - pot lF kF nn) g r c N R s e q B) :
    Ok (f_Trees_tellW F pN pF nN nF lN lF kN kF aN aF g r c N R leaf bound) (fun u => Ok (f_Mo_tell F sz wr s e q wg 262144 B wN wF hN hF' bN bF mN mF fN fF LN LF0 KN KF0 tree band block bound) (fun v => QW nn MX C ρ nF lF kF LF0 KF0 xs (topOf w h) s bound wg N u v)) := by
  have L := lits
  have ht6 := topOf_le w h
  have hx0 : bk % w < w := Nat.mod_lt _ hwh.1
  have hy0 : bk / w < h := by rw [Nat.div_lt_iff_lt_mul hwh.1, Nat.mul_comm]; exact hbk.2
  have key : ∀ (j n n' : Nat) (pF lF1 kF1 : Nat → Int32) (g r c : Int32) (N : Nat) (R : Nat → Int32) (e q wg' : Int32) (B LF KF : Nat → Int32) (v5 v6 v9 li base : Int32), j ≤ topOf w h + 1 → j < n → j < n' → (∀ l, l ≤ topOf w h → (pF l).toInt = xs l) → v6.toInt = (j : Int) - 1 → li.toInt = (j : Int) - 1 → base.toInt = (2 - 2 * wr.toInt + tree.toInt) * 6144 + 2048 * band.toInt + offs w h j → (v9.toInt = 0 ∨ v9.toInt = 1) → (j ≤ topOf w h → v9 = kF1 (xs j)) → 0 ≤ v5.toInt → v5.toInt ≤ MX → (∀ l, l + 1 = j → v5.toInt ≤ (nF (xs l)).toInt) → wg' = wg → TR nn ρ lF1 LF → TR nn ρ kF1 KF → TSafe nn MX lF1 kF1 → NumInv nn nF lF1 kF1 → (∀ y, (∀ l, l ≤ topOf w h → ¬ y = xs l) → lF1 y = lF y ∧ kF1 y = kF y) → (∀ i, (∀ l, l ≤ topOf w h → ¬ i = ρ (xs l)) → LF i = LF0 i ∧ KF i = KF0 i) → (j ≤ topOf w h → bound.toInt ≤ (lF1 (xs j)).toInt ∨ (kF1 (xs j)).toInt = 1) → RelW (C - pot lF1 kF1 nn) g r c N R s e q B →
      Ok (f_Trees_tellW_55 F pN nN nF lN kN n pF lF1 kF1 g r c N R leaf bound v5 v6) (fun u => Ok (f_Mo_tell_125 F sz wr s 262144 wN wF hN hF' bN bF mN mF fN fF LN KN n' e q wg' B LF KF tree band block bound base v5 v9 li) (fun v => QW nn MX C ρ nF lF kF LF0 KF0 xs (topOf w h) s bound wg N u v)) := by
    intro j
    induction j with
    | zero =>
      intro n n' pF lF1 kF1 g r c N R e q wg' B LF KF v5 v6 v9 li base h1 h2 h3 hp h4 h5 h6 h7 h8 h9 h10 h11 hgw hl hk hs1 hni1 hfr hfR hend hrel1
      obtain ⟨n, rfl⟩ : ∃ y, n = y + 1 := ⟨n - 1, by omega⟩
      obtain ⟨n', rfl⟩ : ∃ y, n' = y + 1 := ⟨n' - 1, by omega⟩
      have hx := hpath.2.2 0 (by omega)
      have e1 : leaf.toInt.toNat = xs 0 := by omega
      have e9 : v9.toInt = (kF1 (xs 0)).toInt := congrArg Int32.toInt (h8 (by omega))
      have hsx := hs1 (xs 0) hx
      have hnx := hni1 (xs 0) hx
      have hex := hend (by omega)
      simp only [f_Trees_tellW_55, g_Trees_tellW_55, g_Trees_tellW_196, f_Mo_tell_125, g_Mo_tell_125, clamp_eq, e1]
      refine ok_swap (ok_lt (fun _ => ?_) (fun c0 => by omega))
      refine ok_a (bool_nar h7) (ok_s ?_)
      refine ok_lt (fun _ => ?_) (fun c0 => by omega)
      refine ok_in (by omega) (ok_v ?_)
      refine ok_eq (fun c1 => ok_a (by rfl) (ok_s ?_)) (fun c1 => ok_a (by rfl) (ok_s ?_))
      · unfold QW
        try dsimp only
        refine ⟨ti_ofI (by omega), h7, hgw, hl, hk, hs1, hni1, hfr, hfR, fun _ => by omega, fun z => by omega, hrel1, by omega, by omega⟩
      · unfold QW
        try dsimp only
        refine ⟨ti_ofI (by omega), h7, hgw, hl, hk, hs1, hni1, hfr, hfR, fun z => by omega, fun _ => by omega, hrel1, by omega, by omega⟩
    | succ l ih =>
      intro n n' pF lF1 kF1 g r c N R e q wg' B LF KF v5 v6 v9 li base h1 h2 h3 hp h4 h5 h6 h7 h8 h9 h10 h11 hgw hl hk hs1 hni1 hfr hfR hend hrel1
      obtain ⟨n, rfl⟩ : ∃ y, n = y + 1 := ⟨n - 1, by omega⟩
      obtain ⟨n', rfl⟩ : ∃ y, n' = y + 1 := ⟨n' - 1, by omega⟩
      have hx := hpath.2.2 l (by omega)
      have hpl := hp l (by omega)
      have hρl := hρ l (by omega)
      have hρ2l := hρ2 (xs l) hx
      have e6 : v6.toInt.toNat = l := by omega
      have eN : (pF l).toInt.toNat = xs l := by omega
      have hsx := hs1 (xs l) hx
      have hnx := hni1 (xs l) hx
      have h11' := h11 l rfl
      have hxl := hf_in (l := l) hx0
      have hyl := hf_in (l := l) hy0
      obtain ⟨X, eX⟩ : ∃ X : Nat, X = bk % w / 2 ^ l := ⟨_, rfl⟩
      obtain ⟨Y, eY⟩ : ∃ Y : Nat, Y = bk / w / 2 ^ l := ⟨_, rfl⟩
      rw [← eX] at hxl hρl
      rw [← eY] at hyl hρl
      have hlt := nd_lt hxl hyl
      have ndE : (nd w h l X Y : Int) = offs w h l + (Y * hf w l : Nat) + X := by unfold nd; rw [Int.natCast_add, Int.natCast_add]
      have o1 := offs_le w (by omega) h (by omega) (l + 1) (by omega)
      have o2 := offs_s w h l
      have ewN : (w : Int).toNat = w := by omega
      have ehN : (h : Int).toNat = h := by omega
      have elN : li.toInt.toNat = l := by omega
      simp only [f_Trees_tellW_55, g_Trees_tellW_55, f_Mo_tell_125, g_Mo_tell_125, clamp_eq, e6]
      -- the reference comes to its node
      refine ok_swap (ok_lt (fun c0 => by omega) (fun _ => ?_))
      refine ok_in (by omega) (ok_rd (fun x55 f55 => ?_))
      rw [← f55] at hwF
      refine ok_a (fun z => by rw [z, L.2.1] at hwF; omega) ?_
      refine ok_rem (by omega) (fun x56 f56 => ?_)
      have g56 : x56.toInt = ((bk % w : Nat) : Int) := by rw [f56, hwF, hbk.1, ← Int.natCast_emod]
      refine ok_l (fun x57 f57 => ?_)
      have g57 : x57.toInt = (X : Int) := by rw [f57, ti_shr (by omega), elN, eX]; exact div_nat g56
      refine ok_in (by omega) (ok_rd (fun x58 f58 => ?_))
      rw [← f55] at f58; subst f58
      refine ok_a (fun z => by rw [z, L.2.1] at hwF; omega) ?_
      refine ok_div (by omega) (fun x59 f59 => ?_)
      have g59 : x59.toInt = ((bk / w : Nat) : Int) := by rw [f59, hwF]; exact div_nat hbk.1
      refine ok_l (fun x60 f60 => ?_)
      have g60 : x60.toInt = (Y : Int) := by rw [f60, ti_shr (by omega), elN, eY]; exact div_nat g59
      refine ok_in (by omega) (ok_rd (fun x61 f61 => ?_))
      rw [← f55] at f61; subst f61
      refine ok_bm (w_Mo_half (by omega) (by omega)) (fun u62 f62 => ?_)
      rw [hwF, ewN, elN] at f62
      refine ok_in (by omega) (ok_rd (fun x63 f63 => ?_))
      rw [← f63] at hhF
      refine ok_bm (w_Mo_half (by omega) (by omega)) (fun u64 f64 => ?_)
      rw [hhF, ehN, elN] at f64
      have m1 : u62.toInt * u64.toInt = ((hf w l * hf h l : Nat) : Int) := by rw [f62, f64, Int.natCast_mul]
      refine ok_mul (by rw [m1]; omega) (fun x65 f65 => ?_)
      rw [m1] at f65
      refine ok_sub (by omega) (fun x66 f66 => ?_)
      have m2 : x60.toInt * u62.toInt = ((Y * hf w l : Nat) : Int) := by rw [g60, f62, Int.natCast_mul]
      refine ok_mul (by rw [m2]; omega) (fun x67 f67 => ?_)
      rw [m2] at f67
      refine ok_add (by omega) (fun x68 f68 => ok_add (by omega) (fun x69 f69 => ?_))
      have g69 : x69.toInt = ρ (xs l) := by rw [hρl]; omega
      have e69 : x69.toInt.toNat = ρ (xs l) := by omega
      rw [e69]
      refine ok_in (by omega) ?_
      rw [← hl (xs l) hx]
      refine ok_v ?_
      refine ok_swap ?_
      -- the class comes to its node
      refine ok_lt (fun c0 => by omega) (fun _ => ?_)
      refine ok_in (by omega) (ok_v (ok_in (by omega) ?_))
      rw [eN]
      refine ok_v (ok_max (fun x36 f36 => ok_in (by omega) (ok_in (by omega) ?_)))
      rw [upd_is]
      refine ok_v ?_
      have hpp := pot_lo (kn := kF1) (v := x36) (lo := lF1) hx
      have hs2 : TSafe nn MX (upd lF1 (xs l) x36) kF1 := hs1.lo ⟨by omega, by omega, fun z => by omega⟩
      have hni2 : NumInv nn nF (upd lF1 (xs l) x36) kF1 := by
        intro y hy
        by_cases ey : y = xs l
        · rw [ey, upd_is]
          try dsimp only
          exact ⟨fun z => by omega, fun z => by omega⟩
        · rw [upd_no ey]; exact hni1 y hy
      have cont : ∀ (L1 KF1 : Nat → Int32), (∀ i, (∀ l, l ≤ topOf w h → ¬ i = ρ (xs l)) → L1 i = LF0 i ∧ KF1 i = KF0 i) → ∀ (lF2 kF2 : Nat → Int32) (g r c : Int32) (N : Nat) (R : Nat → Int32) (e q : Int32) (wg2 : Int32) (B LF KF : Nat → Int32) (v6' li' : Int32), wg2 = wg → v6'.toInt = v6.toInt - 1 → li'.toInt = v6.toInt - 1 → TR nn ρ lF2 LF → TR nn ρ kF2 KF → TSafe nn MX lF2 kF2 → NumInv nn nF lF2 kF2 → (∀ y, ¬ y = xs l → lF2 y = (upd lF1 (xs l) x36) y ∧ kF2 y = kF1 y) → (∀ i, ¬ i = ρ (xs l) → LF i = L1 i ∧ KF i = KF1 i) → (bound.toInt ≤ (lF2 (xs l)).toInt ∨ (kF2 (xs l)).toInt = 1) → RelW (C - pot lF2 kF2 nn) g r c N R s e q B → Ok (f_Trees_tellW_55 F pN nN nF lN kN n pF lF2 kF2 g r c N R leaf bound (lF2 (xs l)) v6') (fun u => Ok (f_Mo_tell_125 F sz wr s 262144 wN wF hN hF' bN bF mN mF fN fF LN KN n' e q wg2 B LF KF tree band block bound x66 (LF (ρ (xs l))) (KF (ρ (xs l))) li') (fun v => QW nn MX C ρ nF lF kF LF0 KF0 xs (topOf w h) s bound wg N u v)) := by
        intro L1 KF1 hL1 lF2 kF2 g r c N R e q wg2 B LF KF v6' li' a1 a2 a3 a4 a5 a6 a7 a8 a8R a9 a10
        have b1 := a6 (xs l) hx
        have b2 := a7 (xs l) hx
        rw [← a4 (xs l) hx, ← a5 (xs l) hx]
        refine ih n n' pF lF2 kF2 g r c N R e q wg2 B LF KF (lF2 (xs l)) v6' (kF2 (xs l)) li' x66 (by omega) (by omega) (by omega) hp (by omega) (by omega) (by omega) (by omega) (fun _ => rfl) (by omega) (by omega) (fun l' hl' => ?_) a1 a4 a5 a6 a7 (fun y hy => ?_) (fun i hi => ⟨(a8R i (hi l (by omega))).1.trans (hL1 i hi).1, (a8R i (hi l (by omega))).2.trans (hL1 i hi).2⟩) (fun _ => a9) a10
        · have := hmono l' (by omega)
          rw [hl'] at this
          omega
        · have q1 := a8 y (hy l (by omega))
          rw [upd_no (hy l (by omega))] at q1
          try dsimp only
          exact ⟨q1.1.trans (hfr y hy).1, q1.2.trans (hfr y hy).2⟩
      have node := fun (L1 KF1 : Nat → Int32) hL1 => s_nodeW (L0 := L1) (K0 := KF1) (F := F) (nN := nN) (lN := lN) (kN := kN) (nn := nn) (MX := MX) (C := C) (nF := nF) (pF := pF) (l0 := upd lF1 (xs l) x36) (k0 := kF1) (sz := sz) (wr := wr) (s := s) (wg := wg) (wN := wN) (hN := hN) (bN := bN) (mN := mN) (fN := fN) (LN := LN) (KN := KN) (wF := wF) (hF' := hF') (bF := bF) (mF := mF) (fF := fF) (leaf := leaf) (bound := bound) (tree := tree) (band := band) (block := block) (base := x66) (li := li) (xi := x57) (yi := x60) (node := pF l) (node' := x69) (v6 := v6) (ρ := ρ) (x := xs l) (Q := QW nn MX C ρ nF lF kF LF0 KF0 xs (topOf w h) s bound wg)
        hw hg ⟨by omega, by omega, by omega, by omega, by omega, by omega, hx, hρ2l⟩ (by omega) g69 hb.2 ⟨by omega, by omega, by omega⟩ hinj hC (hleast l (by omega) li x57 x60 (by omega) (by rw [← eX]; exact g57) (by rw [← eY]; exact g60)) (fun N N' a b u v q1 q2 q3 => by
          obtain ⟨z1, z2, z3, z4, z5, z6, z7, z8, z8R, z9, z10, z11, z12, z13⟩ := q3
          unfold QW
          try dsimp only
          exact ⟨z1, z2, z3, z4, z5, z6, z7, z8, z8R, z9, z10, z11, by omega, by omega⟩) (cont L1 KF1 hL1)
      refine ok_swap (ok_le (fun c1 => ok_swap ?_) (fun c1 => ?_))
      · have e36 : x36 = lF1 (xs l) := ti_ofI (by omega)
        rw [e36, upd_self] at node hs2 hni2 ⊢
        exact node LF KF hfR (bound.toInt - (lF1 (xs l)).toInt).toNat F F lF1 kF1 g r c N R e q wg' B LF KF (lF1 (xs l)) hgw hl hk hs2 hni2 (fun _ _ => ⟨rfl, rfl⟩) (fun _ _ => ⟨rfl, rfl⟩) (Or.inr ⟨rfl, by omega⟩) (by omega) (by omega) hrel1
      · have e36 : x36 = v5 := ti_ofI (by omega)
        rw [e36] at node hs2 hni2 hpp ⊢
        refine ok_in (by omega) (ok_swap ?_)
        exact node (upd LF (ρ (xs l)) v5) KF (fun i hi => ⟨by rw [upd_no (hi l (by omega))]; exact (hfR i hi).1, (hfR i hi).2⟩) (bound.toInt - v5.toInt).toNat F F (upd lF1 (xs l) v5) kF1 g r c N R e q wg' B (upd LF (ρ (xs l)) v5) KF v5 hgw (hl.upd hinj hx v5) hk hs2 hni2 (fun _ _ => ⟨rfl, rfl⟩) (fun _ _ => ⟨rfl, rfl⟩) (Or.inr ⟨by rw [upd_is], by omega⟩) (by omega) (by omega) (hrel1.less (by omega))
  simp only [f_Trees_tellW]
  refine w_pathW (nn := nn) ⟨hn.1, by omega, by omega, ht6⟩ hpath (fun pF' t hp ht => ?_) 0 F pF 0 leaf (by omega) (by omega) (fun l hl => absurd hl (Nat.not_lt_zero l)) (fun _ => hleaf) (fun z => by omega) (by omega)
  refine ok_swap (w_tell_pre hF ⟨hband.1, hband.2, by omega, by omega⟩ hwF hhF ⟨by omega, by omega⟩ htree (Or.inr hw) (fun base t' hbase ht' => ok_swap ?_))
  exact key (topOf w h + 1) F F pF' lF kF g r c N R e q wg B LF0 KF0 0 t 0 t' base (Nat.le_refl _) (by omega) (by omega) hp (by omega) (by omega) hbase (by omega) (fun z => by omega) (by omega) (by omega) (fun l hl => by have := hpos l (by omega); omega) rfl hTl hTk hs hni (fun _ _ => ⟨rfl, rfl⟩) (fun _ _ => ⟨rfl, rfl⟩) (fun z => by omega) hrel
