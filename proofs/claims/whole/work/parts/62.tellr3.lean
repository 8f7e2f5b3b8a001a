/-! A tree's telling, read, and that what is known stays 0 or 1. -/
def QRb (nn MX : Nat) (ρ : Nat → Nat) (l0 k0 L0 K0 : Nat → Int32) (xs : Nat → Nat) (top : Nat) (st en c : Int32) (N : Nat) (R : Nat → Int32) (sz s : Int32) (B : Nat → Int32) (T : Int) (u : Int32 × (Nat → Int32) × (Nat → Int32) × (Nat → Int32) × Int32 × Int32 × Int32 × Int32) (v : Int32 × Int32 × Int32 × Int32 × (Nat → Int32) × (Nat → Int32) × (Nat → Int32)) : Prop :=
  (u.1.toInt = 0 ∨ u.1.toInt = 1) ∧ (v.1.toInt = 0 ∨ v.1.toInt = 1) ∧ v.2.2.2.2.1 = B ∧ TSR nn MX u.2.2.1 u.2.2.2.1 ∧ (∀ i : Nat, ¬ (T ≤ i ∧ (i : Int) < T + 2048) → v.2.2.2.2.2.1 i = L0 i ∧ v.2.2.2.2.2.2 i = K0 i) ∧ (∀ i : Nat, T ≤ i → (i : Int) < T + 2048 → (v.2.2.2.2.2.2 i).toInt = 0 ∨ (v.2.2.2.2.2.2 i).toInt = 1) ∧ RelR st u.2.2.2.2.1 en u.2.2.2.2.2.1 u.2.2.2.2.2.2.1 u.2.2.2.2.2.2.2 c N R sz s v.2.1 v.2.2.1 v.2.2.2.1 B ∧
  (v.2.2.2.1.toInt = 0 → u.1 = v.1 ∧ TR nn ρ u.2.2.1 v.2.2.2.2.2.1 ∧ TR nn ρ u.2.2.2.1 v.2.2.2.2.2.2 ∧ ∀ y, (∀ l, l ≤ top → ¬ y = xs l) → u.2.2.1 y = l0 y ∧ u.2.2.2.1 y = k0 y)
set_option maxHeartbeats 1000000 in
theorem s_tellRb {F : Nat} (hF : 1000000 ≤ F) {pN nN lN kN aN nn MX : Nat} {nF pF lF kF aF : Nat → Int32} {st n0 en la lf lk c : Int32} {N : Nat} {R : Nat → Int32} {sz wr s e q wg : Int32} {B : Nat → Int32} {wN hN bN mN fN LN KN : Nat} {wF hF' bF mF fF LF0 KF0 : Nat → Int32} {leaf bound tree band block : Int32} {w h bk : Nat} {ρ xs : Nat → Nat}
    (hw : wr.toInt = 0) (hg : wg.toInt = 0) (hn : pN = 7 ∧ nn ≤ nN ∧ nn ≤ lN ∧ nn ≤ kN ∧ nn ≤ aN ∧ nn ≤ 100000 ∧ LN = 24576 ∧ KN = 24576 ∧ MX ≤ 1000 ∧ wN = 3 ∧ hN = 3) (hband : 0 ≤ band.toInt ∧ band.toInt < 3) (hwF : (wF band.toInt.toNat).toInt = w) (hhF : (hF' band.toInt.toNat).toInt = h) (hwh : 0 < w ∧ w < 65 ∧ 0 < h ∧ h < 65 ∧ w * h ≤ 1024) (htree : 0 ≤ tree.toInt ∧ tree.toInt ≤ 1)
    (hbk : block.toInt = bk ∧ bk < w * h) (hb : 0 ≤ bound.toInt ∧ bound.toInt ≤ MX) (hpath : Path aF xs (topOf w h) nn) (hleaf : leaf.toInt = xs 0) (hinj : Inj nn ρ) (hρ2 : ∀ x, x < nn → ρ x < 24576)
    (hρ : ∀ l, l ≤ topOf w h → (ρ (xs l) : Int) = (2 - 2 * wr.toInt + tree.toInt) * 6144 + 2048 * band.toInt + nd w h l (bk % w / 2 ^ l) (bk / w / 2 ^ l))
    (hkb : ∀ i : Nat, (2 - 2 * wr.toInt + tree.toInt) * 6144 + 2048 * band.toInt ≤ i → (i : Int) < (2 - 2 * wr.toInt + tree.toInt) * 6144 + 2048 * band.toInt + 2048 → (KF0 i).toInt = 0 ∨ (KF0 i).toInt = 1)
    (hTl : TR nn ρ lF LF0) (hTk : TR nn ρ kF KF0) (hs : TSR nn MX lF kF) (hrel : RelR st n0 en la lf lk c N R sz s e q wg B) :
    Ok (f_Trees_tellR F pN pF nN nF lN lF kN kF aN aF n0 en la lf lk c N R leaf bound) (fun u => Ok (f_Mo_tell F sz wr s e q wg 262144 B wN wF hN hF' bN bF mN mF fN fF LN LF0 KN KF0 tree band block bound) (fun v => QRb nn MX ρ lF kF LF0 KF0 xs (topOf w h) st en c N R sz s B ((2 - 2 * wr.toInt + tree.toInt) * 6144 + 2048 * band.toInt) u v)) := by
  have L := lits
  have ht6 := topOf_le w h
  have hx0 : bk % w < w := Nat.mod_lt _ hwh.1
  have hy0 : bk / w < h := by rw [Nat.div_lt_iff_lt_mul hwh.1, Nat.mul_comm]; exact hbk.2
  have hall := all_2048 w (by omega) h (by omega) hwh.2.2.2.2
  have hall2 : allOf w h = offs w h (topOf w h + 1) := by unfold allOf; rw [if_neg (by omega)]
  obtain ⟨T, hT⟩ : ∃ T : Int, T = (2 - 2 * wr.toInt + tree.toInt) * 6144 + 2048 * band.toInt := ⟨_, rfl⟩
  rw [← hT] at hkb ⊢
  have hTb : 0 ≤ T ∧ T + 2048 ≤ 24576 := by omega
  have key : ∀ (j n n' : Nat) (pF lF1 kF1 : Nat → Int32) (n0 la lf lk e q wg : Int32) (LF KF : Nat → Int32) (v5 v6 v8 v9 li base : Int32), j ≤ topOf w h + 1 → j < n → j < n' → (∀ l, l ≤ topOf w h → (pF l).toInt = xs l) → v6.toInt = (j : Int) - 1 → li.toInt = (j : Int) - 1 → base.toInt = T + offs w h j → (v9.toInt = 0 ∨ v9.toInt = 1) → (wg.toInt = 0 → j ≤ topOf w h → v9 = kF1 (xs j)) → 0 ≤ v5.toInt → v5.toInt ≤ MX → (wg.toInt = 0 → v8 = v5) → (wg.toInt = 0 → TR nn ρ lF1 LF) → TR nn ρ kF1 KF → TSR nn MX lF1 kF1 → (∀ y, (∀ l, l ≤ topOf w h → ¬ y = xs l) → lF1 y = lF y ∧ kF1 y = kF y) → (∀ i : Nat, ¬ (T ≤ i ∧ (i : Int) < T + 2048) → LF i = LF0 i ∧ KF i = KF0 i) → (∀ i : Nat, T ≤ i → (i : Int) < T + 2048 → (KF i).toInt = 0 ∨ (KF i).toInt = 1) → RelR st n0 en la lf lk c N R sz s e q wg B →
      Ok (f_Trees_tellR_55 F pN nN nF lN kN en c N R n pF lF1 kF1 n0 la lf lk leaf bound v5 v6) (fun u => Ok (f_Mo_tell_125 F sz wr s 262144 wN wF hN hF' bN bF mN mF fN fF LN KN n' e q wg B LF KF tree band block bound base v8 v9 li) (fun v => QRb nn MX ρ lF kF LF0 KF0 xs (topOf w h) st en c N R sz s B T u v)) := by
    intro j
    induction j with
    | zero =>
      intro n n' pF lF1 kF1 n0 la lf lk e q wg LF KF v5 v6 v8 v9 li base h1 h2 h3 hp h4 h5 h6 h7 h8 h9 h10 h11 hl hk hs1 hfr hfR hkb1 hrel1
      obtain ⟨n, rfl⟩ : ∃ y, n = y + 1 := ⟨n - 1, by omega⟩
      obtain ⟨n', rfl⟩ : ∃ y, n' = y + 1 := ⟨n' - 1, by omega⟩
      have hx := hpath.2.2 0 (by omega)
      have e1 : leaf.toInt.toNat = xs 0 := by omega
      have e9 : wg.toInt = 0 → v9.toInt = (kF1 (xs 0)).toInt := fun z => congrArg Int32.toInt (h8 z (by omega))
      have hsx := hs1 (xs 0) hx
      simp only [f_Trees_tellR_55, g_Trees_tellR_55, g_Trees_tellR_196, f_Mo_tell_125, g_Mo_tell_125, clamp_eq, e1]
      refine ok_swap (ok_lt (fun _ => ?_) (fun c0 => by omega))
      refine ok_a (bool_nar h7) (ok_s ?_)
      refine ok_lt (fun _ => ?_) (fun c0 => by omega)
      refine ok_in (by omega) (ok_v ?_)
      refine ok_eq (fun c1 => ok_a (by rfl) (ok_s ?_)) (fun c1 => ok_a (by rfl) (ok_s ?_))
      · unfold QRb
        try dsimp only
        exact ⟨by omega, h7, rfl, hs1, hfR, hkb1, hrel1, fun z => ⟨ti_ofI (by have := e9 z; omega), hl z, hk, hfr⟩⟩
      · unfold QRb
        try dsimp only
        exact ⟨by omega, h7, rfl, hs1, hfR, hkb1, hrel1, fun z => ⟨ti_ofI (by have := e9 z; omega), hl z, hk, hfr⟩⟩
    | succ l ih =>
      intro n n' pF lF1 kF1 n0 la lf lk e q wg LF KF v5 v6 v8 v9 li base h1 h2 h3 hp h4 h5 h6 h7 h8 h9 h10 h11 hl hk hs1 hfr hfR hkb1 hrel1
      by_cases hgb : wg.toInt = 0
      · have e85 := h11 hgb
        subst e85
        have hl := hl hgb
        obtain ⟨n, rfl⟩ : ∃ y, n = y + 1 := ⟨n - 1, by omega⟩
        obtain ⟨n', rfl⟩ : ∃ y, n' = y + 1 := ⟨n' - 1, by omega⟩
        have hx := hpath.2.2 l (by omega)
        have hpl := hp l (by omega)
        have hρl := hρ l (by omega)
        have hρ2l := hρ2 (xs l) hx
        have e6 : v6.toInt.toNat = l := by omega
        have eN : (pF l).toInt.toNat = xs l := by omega
        have hsx := hs1 (xs l) hx
        have hxl := hf_in (l := l) hx0
        have hyl := hf_in (l := l) hy0
        obtain ⟨X, eX⟩ : ∃ X : Nat, X = bk % w / 2 ^ l := ⟨_, rfl⟩
        obtain ⟨Y, eY⟩ : ∃ Y : Nat, Y = bk / w / 2 ^ l := ⟨_, rfl⟩
        rw [← eX] at hxl hρl
        rw [← eY] at hyl hρl
        rw [← hT] at hρl
        have hlt := nd_lt hxl hyl
        have ndE : (nd w h l X Y : Int) = offs w h l + (Y * hf w l : Nat) + X := by unfold nd; rw [Int.natCast_add, Int.natCast_add]
        have o1 := offs_mono w h (show l + 1 ≤ topOf w h + 1 by omega)
        have o2 := offs_s w h l
        have ewN : (w : Int).toNat = w := by omega
        have ehN : (h : Int).toNat = h := by omega
        have elN : li.toInt.toNat = l := by omega
        have hwF2 := hwF
        have hhF2 := hhF
        simp only [f_Trees_tellR_55, g_Trees_tellR_55, f_Mo_tell_125, g_Mo_tell_125, clamp_eq, e6]
        refine ok_swap (ok_lt (fun c0 => by omega) (fun _ => ?_))
        refine ok_in (by omega) (ok_rd (fun x55 f55 => ?_))
        rw [← f55] at hwF2
        refine ok_a (fun z => by rw [z, L.2.1] at hwF2; omega) ?_
        refine ok_rem (by omega) (fun x56 f56 => ?_)
        have g56 : x56.toInt = ((bk % w : Nat) : Int) := by rw [f56, hwF2, hbk.1, ← Int.natCast_emod]
        refine ok_l (fun x57 f57 => ?_)
        have g57 : x57.toInt = (X : Int) := by rw [f57, ti_shr (by omega), elN, eX]; exact div_nat g56
        refine ok_in (by omega) (ok_rd (fun x58 f58 => ?_))
        rw [← f55] at f58; subst f58
        refine ok_a (fun z => by rw [z, L.2.1] at hwF2; omega) ?_
        refine ok_div (by omega) (fun x59 f59 => ?_)
        have g59 : x59.toInt = ((bk / w : Nat) : Int) := by rw [f59, hwF2]; exact div_nat hbk.1
        refine ok_l (fun x60 f60 => ?_)
        have g60 : x60.toInt = (Y : Int) := by rw [f60, ti_shr (by omega), elN, eY]; exact div_nat g59
        refine ok_in (by omega) (ok_rd (fun x61 f61 => ?_))
        rw [← f55] at f61; subst f61
        refine ok_bm (w_Mo_half (by omega) (by omega)) (fun u62 f62 => ?_)
        rw [hwF2, ewN, elN] at f62
        refine ok_in (by omega) (ok_rd (fun x63 f63 => ?_))
        rw [← f63] at hhF2
        refine ok_bm (w_Mo_half (by omega) (by omega)) (fun u64 f64 => ?_)
        rw [hhF2, ehN, elN] at f64
        have m1 : u62.toInt * u64.toInt = ((hf w l * hf h l : Nat) : Int) := by rw [f62, f64, Int.natCast_mul]
        refine ok_mul (by rw [m1]; omega) (fun x65 f65 => ?_)
        rw [m1] at f65
        refine ok_sub (by omega) (fun x66 f66 => ?_)
        have m2 : x60.toInt * u62.toInt = ((Y * hf w l : Nat) : Int) := by rw [g60, f62, Int.natCast_mul]
        refine ok_mul (by rw [m2]; omega) (fun x67 f67 => ?_)
        rw [m2] at f67
        refine ok_add (by omega) (fun x68 f68 => ok_add (by omega) (fun x69 f69 => ?_))
        have g69 : x69.toInt = ρ (xs l) := by rw [hρl]; omega
        have e69 : x69.toInt.toNat = ρ (xs l) := by omega
        have hin : T ≤ (ρ (xs l) : Nat) ∧ ((ρ (xs l) : Nat) : Int) < T + 2048 := by omega
        rw [e69]
        refine ok_in (by omega) ?_
        rw [← hl (xs l) hx]
        refine ok_v ?_
        refine ok_swap ?_
        refine ok_lt (fun c0 => by omega) (fun _ => ?_)
        refine ok_in (by omega) (ok_v (ok_in (by omega) ?_))
        rw [eN]
        refine ok_v (ok_max (fun x36 f36 => ok_in (by omega) (ok_in (by omega) ?_)))
        rw [upd_is]
        refine ok_v ?_
        have hs2 : TSR nn MX (upd lF1 (xs l) x36) kF1 := hs1.lo (by omega)
        have cont : ∀ (L1 : Nat → Int32), (∀ i : Nat, ¬ (T ≤ i ∧ (i : Int) < T + 2048) → L1 i = LF0 i) → ∀ (lF2 kF2 : Nat → Int32) (n0 la lf lk e q wg : Int32) (LF2 KF2 : Nat → Int32) (v6' li' : Int32), v6'.toInt = v6.toInt - 1 → li'.toInt = v6.toInt - 1 → TR nn ρ kF2 KF2 → (wg.toInt = 0 → TR nn ρ lF2 LF2) → TSR nn MX lF2 kF2 → (∀ y, ¬ y = xs l → lF2 y = (upd lF1 (xs l) x36) y ∧ kF2 y = kF1 y) → (∀ i, ¬ i = ρ (xs l) → LF2 i = L1 i ∧ KF2 i = KF i) → RelR st n0 en la lf lk c N R sz s e q wg B → Ok (f_Trees_tellR_55 F pN nN nF lN kN en c N R n pF lF2 kF2 n0 la lf lk leaf bound (lF2 (xs l)) v6') (fun u => Ok (f_Mo_tell_125 F sz wr s 262144 wN wF hN hF' bN bF mN mF fN fF LN KN n' e q wg B LF2 KF2 tree band block bound x66 (LF2 (ρ (xs l))) (KF2 (ρ (xs l))) li') (fun v => QRb nn MX ρ lF kF LF0 KF0 xs (topOf w h) st en c N R sz s B T u v)) := by
          intro L1 hL1 lF2 kF2 n0 la lf lk e q wg LF2 KF2 v6' li' a2 a3 a4 a5 a6 a8 a8R a10
          have b1 := a6 (xs l) hx
          rw [← a4 (xs l) hx]
          refine ih n n' pF lF2 kF2 n0 la lf lk e q wg LF2 KF2 (lF2 (xs l)) v6' (LF2 (ρ (xs l))) (kF2 (xs l)) li' x66 (by omega) (by omega) (by omega) hp (by omega) (by omega) (by omega) (by omega) (fun _ _ => rfl) (by omega) (by omega) (fun z => (a5 z (xs l) hx).symm) a5 a4 a6 (fun y hy => ?_) (fun i hi => ?_) (fun i hi1 hi2 => ?_) a10
          · have q1 := a8 y (hy l (by omega))
            rw [upd_no (hy l (by omega))] at q1
            try dsimp only
            exact ⟨q1.1.trans (hfr y hy).1, q1.2.trans (hfr y hy).2⟩
          · have hne : ¬ i = ρ (xs l) := fun z => hi (by rw [z]; exact hin)
            try dsimp only
            exact ⟨(a8R i hne).1.trans (hL1 i hi), (a8R i hne).2.trans (hfR i hi).2⟩
          · by_cases z : i = ρ (xs l)
            · rw [z, ← a4 (xs l) hx]; omega
            · rw [(a8R i z).2]; exact hkb1 i hi1 hi2
        have node := fun (L1 : Nat → Int32) hL1 => s_nodeR (L0 := L1) (K0 := KF) (F := F) (nN := nN) (lN := lN) (kN := kN) (nn := nn) (MX := MX) (nF := nF) (pF := pF) (l0 := upd lF1 (xs l) x36) (k0 := kF1) (st := st) (en := en) (c := c) (N := N) (R := R) (sz := sz) (wr := wr) (s := s) (B := B) (wN := wN) (hN := hN) (bN := bN) (mN := mN) (fN := fN) (LN := LN) (KN := KN) (wF := wF) (hF' := hF') (bF := bF) (mF := mF) (fF := fF) (leaf := leaf) (bound := bound) (tree := tree) (band := band) (block := block) (base := x66) (li := li) (xi := x57) (yi := x60) (node := pF l) (node' := x69) (v6 := v6) (ρ := ρ) (x := xs l) (Q := QRb nn MX ρ lF kF LF0 KF0 xs (topOf w h) st en c N R sz s B T)
          hw ⟨by omega, by omega, by omega, by omega, by omega, by omega, hx, hρ2l⟩ (by omega) g69 hb.2 ⟨by omega, by omega, by omega⟩ hinj (cont L1 hL1)
        refine ok_swap (ok_le (fun c1 => ok_swap ?_) (fun c1 => ?_))
        · have e36 : x36 = lF1 (xs l) := ti_ofI (by omega)
          rw [e36, upd_self] at node hs2 ⊢
          exact node LF (fun i hi => (hfR i hi).1) (bound.toInt - (lF1 (xs l)).toInt).toNat F F lF1 kF1 n0 la lf lk e q wg LF KF (lF1 (xs l)) hgb hl hk hs2 (fun _ _ => ⟨rfl, rfl⟩) (fun _ _ => ⟨rfl, rfl⟩) (Or.inr ⟨rfl, by omega⟩) (by omega) (by omega) hrel1
        · have e36 : x36 = v8 := ti_ofI (by omega)
          rw [e36] at node hs2 ⊢
          refine ok_in (by omega) (ok_swap ?_)
          exact node (upd LF (ρ (xs l)) v8) (fun i hi => by rw [upd_no (fun z => hi (by rw [z]; exact hin))]; exact (hfR i hi).1) (bound.toInt - v8.toInt).toNat F F (upd lF1 (xs l) v8) kF1 n0 la lf lk e q wg (upd LF (ρ (xs l)) v8) KF v8 hgb (hl.upd hinj hx v8) hk hs2 (fun _ _ => ⟨rfl, rfl⟩) (fun _ _ => ⟨rfl, rfl⟩) (Or.inr ⟨by rw [upd_is], by omega⟩) (by omega) (by omega) hrel1
      · -- bits lack: each side for itself
        have hsb := hrel1.sb hgb
        refine ok_m (w_tellRk (nn := nn) (MX := MX) (top := topOf w h) (xs := xs) (aN := aN) hF hsb.1 ⟨hn.1, by omega, by omega, by omega, by omega, by omega, by omega, ht6⟩ hb hpath hleaf (l + 1) n pF lF1 kF1 v5 v6 (by omega) (by omega) hp h4 h9 h10 hs1) (fun u hu => ?_)
        refine ok_m (w_Mo_tellX hF hsb.2 ⟨by omega, by omega, by omega, by omega⟩ hband hwF hhF hwh hbk hTb LF (l + 1) n' e q B LF KF v8 v9 li base (by omega) (by omega) h5 h6 h7 hkb1 (fun _ _ => rfl)) (fun v hv => ?_)
        obtain ⟨u1, u2, u3, u4, u5, u6⟩ := hu
        obtain ⟨v1, v2, v3, v4, v5, v6, v7⟩ := hv
        unfold QRb
        try dsimp only
        refine ⟨u1, v1, v5, u2, fun i hi => ⟨by rw [v7 i hi]; exact (hfR i hi).1, by rw [v6]; exact (hfR i hi).2⟩, by rw [v6]; exact hkb1, ?_, fun z => absurd (by rw [← v4]; exact z) hgb⟩
        rw [u3, u4, u5, u6, v2, v3, v4]
        exact hrel1
  simp only [f_Trees_tellR]
  refine w_pathR (nn := nn) ⟨hn.1, by omega, by omega, ht6⟩ hpath (fun pF' t hp ht => ?_) 0 F pF 0 leaf (by omega) (by omega) (fun l hl => absurd hl (Nat.not_lt_zero l)) (fun _ => hleaf) (fun z => by omega) (by omega)
  refine ok_swap (w_tell_pre hF ⟨hband.1, hband.2, by omega, by omega⟩ hwF hhF ⟨by omega, by omega⟩ htree (Or.inl hw) (fun base t' hbase ht' => ok_swap ?_))
  rw [← hT] at hbase
  exact key (topOf w h + 1) F F pF' lF kF n0 la lf lk e q wg LF0 KF0 0 t 0 0 t' base (Nat.le_refl _) (by omega) (by omega) hp (by omega) (by omega) hbase (by omega) (fun _ z => by omega) (by omega) (by omega) (fun _ => rfl) (fun _ => hTl) hTk hs (fun _ _ => ⟨rfl, rfl⟩) (fun _ _ => ⟨rfl, rfl⟩) hkb hrel
theorem s_tellRg {F : Nat} (hF : 1000000 ≤ F) {m : Nat} {w h : Nat → Nat} {i k MX T : Nat} {pN nN lN kN aN : Nat} {nF pF lF kF aF : Nat → Int32} {st n0 en la lf lk c : Int32} {N : Nat} {R : Nat → Int32} {sz wr s e q wg : Int32} {B : Nat → Int32} {wF hF' bF mF fF LF0 KF0 : Nat → Int32} {leaf bound tree band block : Int32}
    (hw : wr.toInt = 0) (hg : wg.toInt = 0) (hG : Geo m w h) (hA : GA m w h aF) (hi : i < m) (hk : k < w i * h i) (hn : pN = 7 ∧ nbase w h m ≤ nN ∧ nbase w h m ≤ lN ∧ nbase w h m ≤ kN ∧ nbase w h m ≤ aN) (hMX : MX ≤ 1000) (hwh : (wF i).toInt = w i ∧ (hF' i).toInt = h i) (htree : (tree.toInt = 0 ∧ T = 12288) ∨ (tree.toInt = 1 ∧ T = 18432))
    (hband : band.toInt = i) (hblock : block.toInt = k) (hb : 0 ≤ bound.toInt ∧ bound.toInt ≤ MX) (hleaf : leaf.toInt = ((nbase w h i + k : Nat) : Int)) (hkb : ∀ x : Nat, 12288 ≤ x → x < 24576 → (KF0 x).toInt = 0 ∨ (KF0 x).toInt = 1) (hTl : TR (nbase w h m) (rho w h T) lF LF0) (hTk : TR (nbase w h m) (rho w h T) kF KF0) (hs : TSR (nbase w h m) MX lF kF) (hrel : RelR st n0 en la lf lk c N R sz s e q wg B) :
    Ok (f_Trees_tellR F pN pF nN nF lN lF kN kF aN aF n0 en la lf lk c N R leaf bound) (fun u => Ok (f_Mo_tell F sz wr s e q wg 262144 B 3 wF 3 hF' 4 bF 2048 mF 2048 fF 24576 LF0 24576 KF0 tree band block bound) (fun v => (u.1.toInt = 0 ∨ u.1.toInt = 1) ∧ (v.1.toInt = 0 ∨ v.1.toInt = 1) ∧ v.2.2.2.2.1 = B ∧ TSR (nbase w h m) MX u.2.2.1 u.2.2.2.1 ∧ (∀ x : Nat, (x < T ∨ T + 6144 ≤ x) → v.2.2.2.2.2.1 x = LF0 x ∧ v.2.2.2.2.2.2 x = KF0 x) ∧ (∀ x : Nat, 12288 ≤ x → x < 24576 → (v.2.2.2.2.2.2 x).toInt = 0 ∨ (v.2.2.2.2.2.2 x).toInt = 1) ∧ RelR st u.2.2.2.2.1 en u.2.2.2.2.2.1 u.2.2.2.2.2.2.1 u.2.2.2.2.2.2.2 c N R sz s v.2.1 v.2.2.1 v.2.2.2.1 B ∧
      (v.2.2.2.1.toInt = 0 → u.1 = v.1 ∧ TR (nbase w h m) (rho w h T) u.2.2.1 v.2.2.2.2.2.1 ∧ TR (nbase w h m) (rho w h T) u.2.2.2.1 v.2.2.2.2.2.2 ∧ ∀ i' k', i' < m → k' < w i' * h i' → ¬ (i' = i ∧ k' = k) → u.2.2.1 (nbase w h i' + k') = lF (nbase w h i' + k')))) := by
  have L := lits
  have g2 := hG.wh hi
  have g3 := hG.1
  have hx := kxy hk
  have hmax := hG.max
  have eb : band.toInt.toNat = i := by omega
  have hT2 : (2 - 2 * wr.toInt + tree.toInt) * 6144 + 2048 * band.toInt = ((T + 2048 * i : Nat) : Int) := by omega
  refine ok_m2 (s_tellRb (w := w i) (h := h i) (bk := k) hF hw hg ⟨hn.1, hn.2.1, hn.2.2.1, hn.2.2.2.1, hn.2.2.2.2, by omega, rfl, rfl, hMX, rfl, rfl⟩ (by omega) (by rw [eb]; exact hwh.1) (by rw [eb]; exact hwh.2) ⟨by omega, by omega, by omega, by omega, by omega⟩ (by omega) ⟨hblock, hk⟩ hb (pth_path hG hA hi hk) (by rw [pth_0 hk]; exact hleaf) (rho_inj hG T) (fun x hx => by have := rho_lt hG T hx; omega) ?_ ?_ hTl hTk hs hrel) (fun u v hq => ?_)
  · intro l hl
    rw [pth_rho hG hi hk hl, hT2]
    omega
  · intro x h1 h2
    rw [hT2] at h1 h2
    exact hkb x (by omega) (by omega)
  · unfold QRb at hq
    rw [hT2] at hq
    obtain ⟨q1, q2, q3, q4, q5, q6, q7, q8⟩ := hq
    try dsimp only
    refine ⟨q1, q2, q3, q4, fun x hx => q5 x (by omega), fun x h1 h2 => ?_, q7, fun z => ?_⟩
    · by_cases qx : ((T + 2048 * i : Nat) : Int) ≤ x ∧ (x : Int) < ((T + 2048 * i : Nat) : Int) + 2048
      · exact q6 x qx.1 qx.2
      · rw [(q5 x qx).2]; exact hkb x h1 h2
    · obtain ⟨z1, z2, z3, z4⟩ := q8 z
      try dsimp only
      refine ⟨z1, z2, z3, fun i' k' hi' hk' hne => (z4 _ (fun l hl e => hne ?_)).1⟩
      have a1 := hG.in hi hl (hf_in (l := l) hx.1) (hf_in (l := l) hx.2.1)
      have gw := hG.wh hi'
      have hx' := kxy hk'
      have a2 : k' < allOf (w i') (h i') := by
        have := hG.in hi' (Nat.zero_le _) (show k' % w i' < hf (w i') 0 by rw [hf_0]; exact hx'.1) (show k' / w i' < hf (h i') 0 by rw [hf_0]; exact hx'.2.1)
        rw [nd0, hx'.2.2.1] at this
        exact this
      obtain ⟨e1, e2⟩ := node_inj a2 a1 e
      subst e1
      have e3 : nd (w i') (h i') 0 (k' % w i') (k' / w i') = nd (w i') (h i') l (k % w i' / 2 ^ l) (k / w i' / 2 ^ l) := by rw [nd0, hx'.2.2.1]; exact e2
      obtain ⟨f1, f2, f3⟩ := nd_inj (show k' % w i' < hf (w i') 0 by rw [hf_0]; exact hx'.1) (show k' / w i' < hf (h i') 0 by rw [hf_0]; exact hx'.2.1) (hf_in (l := l) hx.1) (hf_in (l := l) hx.2.1) e3
      subst f1
      rw [Nat.pow_zero, Nat.div_one] at f2 f3
      try dsimp only
      refine ⟨rfl, ?_⟩
      rw [← hx'.2.2.1, f2, f3, hx.2.2.1]
