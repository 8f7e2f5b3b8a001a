/-! Asking for what was read, and telling when a block comes in. -/
theorem c_got {F m : Nat} {w h : Nat → Nat} {cn p0 p1 p2 : Int32} {leN wN aN nN pN iN oL oN : Nat} {bF leF wF aF nF pF inu ol : Nat → Int32} {oF : Nat → Int64} (hG : Geo m w h) (hL : GL m w h leF) (hm : cn.toInt = m) (hb : ∀ j, j ≤ m → (bF j).toInt = bbase w h j) (hs : bbase w h m ≤ leN ∧ bbase w h m ≤ wN ∧ bbase w h m ≤ aN ∧ bbase w h m ≤ nN ∧ bbase w h m ≤ pN ∧ nbase w h m ≤ iN ∧ nbase w h m ≤ oL) (ho : oN = 1) :
    Ok (f_Law_got F cn 4 bF leN leF wN wF aN aF nN nF pN pF iN inu oL ol oN oF p0 p1 p2) (fun u => (¬ (Blk m w h p0 p1 ∧ 0 ≤ p2.toInt ∧ p2.toInt ≤ 5) ∧ u.1 ≤ 1 ∧ u.2.1 ≤ 6 ∧ u.2.2.1 = 1 ∧ u.2.2.2 = oF) ∨ (∃ (i k : Nat) (x : Int32), i < m ∧ k < w i * h i ∧ p0.toInt = i ∧ p1.toInt = k ∧ (0 ≤ p2.toInt ∧ p2.toInt ≤ 5) ∧ u.1 = 0 ∧ u.2.1 = 0 ∧ u.2.2.1 = 0 ∧ u.2.2.2 (0 : Int32).toNatClampNeg = x.toInt64 ∧ ((p2.toInt = 0 ∧ x = nF (bbase w h i + k)) ∨ (p2.toInt = 1 ∧ x = pF (bbase w h i + k)) ∨ (p2.toInt = 2 ∧ x = aF (bbase w h i + k)) ∨ (p2.toInt = 3 ∧ (((aF (bbase w h i + k)).toInt ≤ 0 ∧ x = -1) ∨ (0 < (aF (bbase w h i + k)).toInt ∧ x = ol (nbase w h i + k)))) ∨ (p2.toInt = 4 ∧ (((aF (bbase w h i + k)).toInt ≤ 0 ∧ x = -1) ∨ (0 < (aF (bbase w h i + k)).toInt ∧ x = inu (nbase w h i + k)))) ∨ (p2.toInt = 5 ∧ x = wF (bbase w h i + k))))) := by
  have L := lits
  simp only [f_Law_got]
  refine ok_bm (Q := fun u6 => (¬ (Blk m w h p0 p1 ∧ 0 ≤ p2.toInt ∧ p2.toInt ≤ 5) ∧ u6.1 ≤ 1 ∧ u6.2.1 ≤ 6 ∧ u6.2.2.1 = 1) ∨ (∃ (i k : Nat) (x : Int32), i < m ∧ k < w i * h i ∧ p0.toInt = i ∧ p1.toInt = k ∧ (0 ≤ p2.toInt ∧ p2.toInt ≤ 5) ∧ u6 = (0, 0, 0, x) ∧ ((p2.toInt = 0 ∧ x = nF (bbase w h i + k)) ∨ (p2.toInt = 1 ∧ x = pF (bbase w h i + k)) ∨ (p2.toInt = 2 ∧ x = aF (bbase w h i + k)) ∨ (p2.toInt = 3 ∧ (((aF (bbase w h i + k)).toInt ≤ 0 ∧ x = -1) ∨ (0 < (aF (bbase w h i + k)).toInt ∧ x = ol (nbase w h i + k)))) ∨ (p2.toInt = 4 ∧ (((aF (bbase w h i + k)).toInt ≤ 0 ∧ x = -1) ∨ (0 < (aF (bbase w h i + k)).toInt ∧ x = inu (nbase w h i + k)))) ∨ (p2.toInt = 5 ∧ x = wF (bbase w h i + k))))) ?_ (fun u6 e6 => ok_c ?_)
  · simp only [f_PH_got]
    refine ok_bm (w_find hG hm hb) (fun u21 e21 => ok_c ?_)
    rcases e21 with ⟨i, k, hi, hk, h3, h4, h5, h6, h7, h8⟩ | ⟨h1, h2⟩
    · have gw := hG.wh hi
      have eb : u21.2.2.2.toInt.toNat = bbase w h i + k := by omega
      have hlf := hL i k hi hk
      have hlt : nbase w h i + k < nbase w h m := by
        have hx := kxy hk
        have h9 := hG.in hi (Nat.zero_le _) (show k % w i < hf (w i) 0 by rw [hf_0]; exact hx.1) (show k / w i < hf (h i) 0 by rw [hf_0]; exact hx.2.1)
        rw [nd0, hx.2.2.1] at h9
        have := nbase_mono w h (show i + 1 ≤ m by omega)
        rw [nbase_s] at this
        omega
      rw [h5, h6]
      refine ok_neq (fun _ => ?_) (fun c => absurd h7 c)
      simp only [clamp_eq, eb]
      refine ok_in (by omega) (ok_v ?_)
      have main : ∀ s0 : Int32, ((s0.toInt = 0 ∧ (aF (bbase w h i + k)).toInt ≤ 0) ∨ (s0.toInt = 1 ∧ 0 < (aF (bbase w h i + k)).toInt)) → Ok (g_PH_got_26 F leN leF wN wF aN aF nN nF pN pF iN inu oL ol p2 u21.2.2.2 s0) (fun z => (¬ (Blk m w h p0 p1 ∧ 0 ≤ p2.toInt ∧ p2.toInt ≤ 5) ∧ z = (1, 6, 1, 0)) ∨ (∃ (x : Int32), (0 ≤ p2.toInt ∧ p2.toInt ≤ 5) ∧ z = (0, 0, 0, x) ∧ ((p2.toInt = 0 ∧ x = nF (bbase w h i + k)) ∨ (p2.toInt = 1 ∧ x = pF (bbase w h i + k)) ∨ (p2.toInt = 2 ∧ x = aF (bbase w h i + k)) ∨ (p2.toInt = 3 ∧ (((aF (bbase w h i + k)).toInt ≤ 0 ∧ x = -1) ∨ (0 < (aF (bbase w h i + k)).toInt ∧ x = ol (nbase w h i + k)))) ∨ (p2.toInt = 4 ∧ (((aF (bbase w h i + k)).toInt ≤ 0 ∧ x = -1) ∨ (0 < (aF (bbase w h i + k)).toInt ∧ x = inu (nbase w h i + k)))) ∨ (p2.toInt = 5 ∧ x = wF (bbase w h i + k))))) := by
        intro s0 hs0
        simp only [g_PH_got_26, g_PH_got_131, g_PH_got_162, clamp_eq, eb]
        have elf : (leF (bbase w h i + k)).toInt.toNat = nbase w h i + k := by omega
        refine ok_eq (fun c => ok_in (by omega) (ok_v (ok_s (Or.inr ⟨_, by omega, rfl, Or.inl ⟨by omega, rfl⟩⟩)))) (fun c0 => ?_)
        refine ok_eq (fun c => ok_in (by omega) (ok_v (ok_s (Or.inr ⟨_, by omega, rfl, Or.inr (Or.inl ⟨by omega, rfl⟩)⟩)))) (fun c1 => ?_)
        refine ok_eq (fun c => ok_in (by omega) (ok_v (ok_s (Or.inr ⟨_, by omega, rfl, Or.inr (Or.inr (Or.inl ⟨by omega, rfl⟩))⟩)))) (fun c2 => ?_)
        refine ok_eq (fun c => ?_) (fun c3 => ?_)
        · refine ok_eq (fun d => ok_s (Or.inr ⟨_, by omega, rfl, Or.inr (Or.inr (Or.inr (Or.inl ⟨by omega, Or.inl ⟨by omega, rfl⟩⟩)))⟩)) (fun d => ?_)
          refine ok_in (by omega) (ok_v ?_)
          rw [elf]
          exact ok_in (by omega) (ok_v (ok_s (Or.inr ⟨_, by omega, rfl, Or.inr (Or.inr (Or.inr (Or.inl ⟨by omega, Or.inr ⟨by omega, rfl⟩⟩)))⟩)))
        refine ok_eq (fun c => ?_) (fun c4 => ?_)
        · refine ok_eq (fun d => ok_s (Or.inr ⟨_, by omega, rfl, Or.inr (Or.inr (Or.inr (Or.inr (Or.inl ⟨by omega, Or.inl ⟨by omega, rfl⟩⟩))))⟩)) (fun d => ?_)
          refine ok_in (by omega) (ok_v ?_)
          rw [elf]
          exact ok_in (by omega) (ok_v (ok_s (Or.inr ⟨_, by omega, rfl, Or.inr (Or.inr (Or.inr (Or.inr (Or.inl ⟨by omega, Or.inr ⟨by omega, rfl⟩⟩))))⟩)))
        exact ok_eq (fun c => ok_in (by omega) (ok_v (ok_s (Or.inr ⟨_, by omega, rfl, Or.inr (Or.inr (Or.inr (Or.inr (Or.inr ⟨by omega, rfl⟩))))⟩)))) (fun c5 => ok_s (Or.inl ⟨fun z => by omega, rfl⟩))
      have both : ∀ z : Nat × Nat × Nat × Int32, ((¬ (Blk m w h p0 p1 ∧ 0 ≤ p2.toInt ∧ p2.toInt ≤ 5) ∧ z = (1, 6, 1, 0)) ∨ (∃ (x : Int32), (0 ≤ p2.toInt ∧ p2.toInt ≤ 5) ∧ z = (0, 0, 0, x) ∧ ((p2.toInt = 0 ∧ x = nF (bbase w h i + k)) ∨ (p2.toInt = 1 ∧ x = pF (bbase w h i + k)) ∨ (p2.toInt = 2 ∧ x = aF (bbase w h i + k)) ∨ (p2.toInt = 3 ∧ (((aF (bbase w h i + k)).toInt ≤ 0 ∧ x = -1) ∨ (0 < (aF (bbase w h i + k)).toInt ∧ x = ol (nbase w h i + k)))) ∨ (p2.toInt = 4 ∧ (((aF (bbase w h i + k)).toInt ≤ 0 ∧ x = -1) ∨ (0 < (aF (bbase w h i + k)).toInt ∧ x = inu (nbase w h i + k)))) ∨ (p2.toInt = 5 ∧ x = wF (bbase w h i + k))))) → (¬ (Blk m w h p0 p1 ∧ 0 ≤ p2.toInt ∧ p2.toInt ≤ 5) ∧ z.1 + 0 ≤ 1 ∧ z.2.1 + 0 ≤ 6 ∧ z.2.2.1 = 1) ∨ (∃ (i k : Nat) (x : Int32), i < m ∧ k < w i * h i ∧ p0.toInt = i ∧ p1.toInt = k ∧ (0 ≤ p2.toInt ∧ p2.toInt ≤ 5) ∧ (z.1 + 0, z.2.1 + 0, z.2.2) = (0, 0, 0, x) ∧ ((p2.toInt = 0 ∧ x = nF (bbase w h i + k)) ∨ (p2.toInt = 1 ∧ x = pF (bbase w h i + k)) ∨ (p2.toInt = 2 ∧ x = aF (bbase w h i + k)) ∨ (p2.toInt = 3 ∧ (((aF (bbase w h i + k)).toInt ≤ 0 ∧ x = -1) ∨ (0 < (aF (bbase w h i + k)).toInt ∧ x = ol (nbase w h i + k)))) ∨ (p2.toInt = 4 ∧ (((aF (bbase w h i + k)).toInt ≤ 0 ∧ x = -1) ∨ (0 < (aF (bbase w h i + k)).toInt ∧ x = inu (nbase w h i + k)))) ∨ (p2.toInt = 5 ∧ x = wF (bbase w h i + k)))) := by
        intro z hz
        rcases hz with ⟨z1, z2⟩ | ⟨x, z1, z2, z3⟩
        · subst z2; exact Or.inl ⟨z1, Nat.le_refl _, Nat.le_refl _, rfl⟩
        · subst z2; exact Or.inr ⟨i, k, x, hi, hk, h3, h4, z1, rfl, z3⟩
      exact ok_le (fun c => ok_m (main 0 (Or.inl ⟨L.2.1, by omega⟩)) both) (fun c => ok_m (main 1 (Or.inr ⟨L.2.2.1, by omega⟩)) both)
    · subst h2
      exact ok_neq (fun c => by simp at c) (fun _ => ok_s (Or.inl ⟨fun z => h1 z.1, Nat.le_refl _, Nat.le_refl _, rfl⟩))
  · rcases e6 with ⟨z1, z2, z3, z4⟩ | ⟨i, k, x, a1, a2, a3, a4, a5, a6, a7⟩
    · refine ok_neq (fun c => by omega) (fun _ => ok_neq (fun _ => ok_s (Or.inl ⟨z1, ?_, ?_, rfl, rfl⟩)) (fun c => absurd z4 c))
      · dsimp only; omega
      · dsimp only; omega
    · subst a6
      refine ok_neq (fun _ => ?_) (fun c => absurd rfl c)
      refine ok_v (ok_in (by omega) (ok_s (Or.inr ⟨i, k, x, a1, a2, a3, a4, a5, rfl, rfl, rfl, ?_, a7⟩)))
      exact out_is oF x.toInt64
theorem m_got {F m : Nat} {w h : Nat → Nat} {th bds p0 p1 p2 : Int32} {wiF hiF beF brF toF cF miF fiF WF : Nat → Int32} (hG : Geo m w h) (hm : bds.toInt = m) (hb : ∀ i, i < m → (wiF i).toInt = w i ∧ (hiF i).toInt = h i) (hbe : ∀ j, j ≤ m → (beF j).toInt = bbase w h j) :
    Ok (f_Mo_got F th bds 3 wiF 3 hiF 4 beF 2048 brF 2048 toF 2048 cF 2048 miF 2048 fiF 2048 WF p0 p1 p2) (fun v => (¬ (Blk m w h p0 p1 ∧ 0 ≤ p2.toInt ∧ p2.toInt ≤ 5) ∧ v.2 = 1) ∨ (∃ i k : Nat, i < m ∧ k < w i * h i ∧ p0.toInt = i ∧ p1.toInt = k ∧ (0 ≤ p2.toInt ∧ p2.toInt ≤ 5) ∧ v.2 = 0 ∧ ((p2.toInt = 0 ∧ v.1 = brF (1024 + (bbase w h i + k))) ∨ (p2.toInt = 1 ∧ v.1 = toF (1024 + (bbase w h i + k))) ∨ (p2.toInt = 2 ∧ v.1 = cF (1024 + (bbase w h i + k)) + brF (1024 + (bbase w h i + k))) ∨ (p2.toInt = 3 ∧ v.1 = miF (1024 + (bbase w h i + k))) ∨ (p2.toInt = 4 ∧ v.1 = fiF (1024 + (bbase w h i + k))) ∨ (p2.toInt = 5 ∧ v.1 = WF (1024 + (bbase w h i + k)))))) := by
  have L := lits
  have l5 : (5 : Int32).toInt = 5 := by decide
  have l1024 : (1024 : Int32).toInt = 1024 := by decide
  simp only [f_Mo_got, g_Mo_got_19]
  refine ok_bm (w_isBlock hG hm hb) (fun u27 e27 => ?_)
  have bad : ∀ s0 : Int32, s0.toInt = 1 → ¬ (Blk m w h p0 p1 ∧ 0 ≤ p2.toInt ∧ p2.toInt ≤ 5) → Ok (g_Mo_got_24 F 4 beF 2048 brF 2048 toF 2048 cF 2048 miF 2048 fiF 2048 WF th p0 p1 p2 s0) (fun v => (¬ (Blk m w h p0 p1 ∧ 0 ≤ p2.toInt ∧ p2.toInt ≤ 5) ∧ v.2 = 1) ∨ (∃ i k : Nat, i < m ∧ k < w i * h i ∧ p0.toInt = i ∧ p1.toInt = k ∧ (0 ≤ p2.toInt ∧ p2.toInt ≤ 5) ∧ v.2 = 0 ∧ ((p2.toInt = 0 ∧ v.1 = brF (1024 + (bbase w h i + k))) ∨ (p2.toInt = 1 ∧ v.1 = toF (1024 + (bbase w h i + k))) ∨ (p2.toInt = 2 ∧ v.1 = cF (1024 + (bbase w h i + k)) + brF (1024 + (bbase w h i + k))) ∨ (p2.toInt = 3 ∧ v.1 = miF (1024 + (bbase w h i + k))) ∨ (p2.toInt = 4 ∧ v.1 = fiF (1024 + (bbase w h i + k))) ∨ (p2.toInt = 5 ∧ v.1 = WF (1024 + (bbase w h i + k)))))) := by
    intro s0 hs0 hn
    simp only [g_Mo_got_24]
    refine ok_bm w_Mo_throwing (fun u15 e15 => ?_)
    exact ok_eq (fun c => by omega) (fun _ => ok_s (Or.inl ⟨hn, ti_ofI (by (try dsimp only); omega)⟩))
  refine ok_eq (fun c => bad 1 L.2.2.1 (fun z => ?_)) (fun c => ?_)
  · rcases e27 with ⟨_, q⟩ | ⟨q, _⟩
    · omega
    · exact q z.1
  refine ok_bm w_Mo_out (fun u28 e28 => ?_)
  refine ok_eq (fun c2 => ?_) (fun c2 => bad 1 L.2.2.1 (fun z => by omega))
  obtain ⟨i, k, hi, hk, h3, h4⟩ : Blk m w h p0 p1 := by
    rcases e27 with ⟨q, _⟩ | ⟨_, q⟩
    · exact q
    · omega
  have gw := hG.wh hi
  have g3 := hG.1
  have hbi := hbe i (by omega)
  simp only [g_Mo_got_24, clamp_eq]
  refine ok_bm w_Mo_throwing (fun u15 e15 => ?_)
  refine ok_eq (fun _ => ?_) (fun c => by omega)
  have e0 : u15.2 = 0 := ti_ofI (by omega)
  rw [show p0.toInt.toNat = i by omega]
  refine ok_in (by omega) (ok_v ?_)
  refine ok_add (by omega) (fun x17 e17 => ?_)
  refine ok_add (by omega) (fun x18 e18 => ?_)
  rw [show x18.toInt.toNat = 1024 + (bbase w h i + k) by omega]
  refine ok_eq (fun c => ok_in (by omega) (ok_v (ok_s (Or.inr ⟨i, k, hi, hk, h3, h4, by omega, e0, Or.inl ⟨by omega, rfl⟩⟩)))) (fun c0 => ?_)
  refine ok_eq (fun c => ok_in (by omega) (ok_v (ok_s (Or.inr ⟨i, k, hi, hk, h3, h4, by omega, e0, Or.inr (Or.inl ⟨by omega, rfl⟩)⟩)))) (fun c1 => ?_)
  refine ok_eq (fun c => ok_in (by omega) (ok_v (ok_in (by omega) (ok_v (ok_v (ok_s (Or.inr ⟨i, k, hi, hk, h3, h4, by omega, e0, Or.inr (Or.inr (Or.inl ⟨by omega, rfl⟩))⟩))))))) (fun c2' => ?_)
  refine ok_eq (fun c => ok_in (by omega) (ok_v (ok_s (Or.inr ⟨i, k, hi, hk, h3, h4, by omega, e0, Or.inr (Or.inr (Or.inr (Or.inl ⟨by omega, rfl⟩)))⟩)))) (fun c3 => ?_)
  refine ok_eq (fun c => ok_in (by omega) (ok_v (ok_s (Or.inr ⟨i, k, hi, hk, h3, h4, by omega, e0, Or.inr (Or.inr (Or.inr (Or.inr (Or.inl ⟨by omega, rfl⟩))))⟩)))) (fun c4 => ?_)
  exact ok_in (by omega) (ok_v (ok_s (Or.inr ⟨i, k, hi, hk, h3, h4, by omega, e0, Or.inr (Or.inr (Or.inr (Or.inr (Or.inr ⟨by omega, rfl⟩))))⟩)))
theorem s_got {F m : Nat} {w h : Nat → Nat} {cn th bds p0 p1 p2 : Int32} {leN wN aN nN pN iN oL oN : Nat} {bF leF wF aF nF pF inu ol wiF hiF beF brF toF cF miF fiF WF : Nat → Int32} {oF : Nat → Int64} (hG : Geo m w h) (hL : GL m w h leF) (hm : cn.toInt = m ∧ bds.toInt = m) (hb : ∀ j, j ≤ m → (bF j).toInt = bbase w h j ∧ (beF j).toInt = bbase w h j) (hwi : ∀ i, i < m → (wiF i).toInt = w i ∧ (hiF i).toInt = h i) (hs : bbase w h m ≤ leN ∧ bbase w h m ≤ wN ∧ bbase w h m ≤ aN ∧ bbase w h m ≤ nN ∧ bbase w h m ≤ pN ∧ nbase w h m ≤ iN ∧ nbase w h m ≤ oL) (ho : oN = 1)
    (hI : IRr (bbase w h m) (bbase w h m) cF wF aF pF nF brF toF WF) (hc0 : ∀ b, b < bbase w h m → 0 ≤ (cF (1024 + b)).toInt) (h4 : ∀ i k, i < m → k < w i * h i → IR4 w h i k aF inu ol fiF miF) :
    Ok (f_Law_got F cn 4 bF leN leF wN wF aN aF nN nF pN pF iN inu oL ol oN oF p0 p1 p2) (fun u => Ok (f_Mo_got F th bds 3 wiF 3 hiF 4 beF 2048 brF 2048 toF 2048 cF 2048 miF 2048 fiF 2048 WF p0 p1 p2) (fun v => v.2 = u.2.2.1 ∧ (u.2.2.1 = 0 → u.2.2.2 (0 : Int32).toNatClampNeg = v.1.toInt64) ∧ u.1 ≤ 1 ∧ u.2.1 ≤ 6)) := by
  have L := lits
  refine ok_m (c_got hG hL hm.1 (fun j hj => (hb j hj).1) hs ho) (fun u hu => ?_)
  refine ok_m (m_got hG hm.2 hwi (fun j hj => (hb j hj).2)) (fun v hv => ?_)
  rcases hu with ⟨a1, a2, a3, a4, a5⟩ | ⟨i, k, x, a1, a2, a3, a4, a5, a6, a7, a8, a9, a10⟩
  · rcases hv with ⟨_, b2⟩ | ⟨i, k, b1, b2, b3, b4, b5, _⟩
    · try dsimp only
      exact ⟨by rw [b2, a4], fun z => absurd (a4.symm.trans z) (by decide), a2, a3⟩
    · exact absurd ⟨⟨i, k, b1, b2, b3, b4⟩, b5⟩ a1
  · rcases hv with ⟨b1, _⟩ | ⟨i', k', b1, b2, b3, b4, b5, b6, b7⟩
    · exact absurd ⟨⟨i, k, a1, a2, a3, a4⟩, a5⟩ b1
    · have e1 : i' = i := by omega
      have e2 : k' = k := by omega
      subst e1 e2
      have hbn : bbase w h i' + k' < bbase w h m := by have := hG.wh a1; omega
      have r := hI.2.2 (bbase w h i' + k') hbn
      have rw' := hI.1 (bbase w h i' + k') hbn
      have r4 := h4 i' k' a1 a2
      unfold IR4 at r4
      have hcb := hc0 _ hbn
      try dsimp only
      refine ⟨by rw [b6, a8], fun _ => ?_, by omega, by omega⟩
      rw [a9]
      congr 1
      rcases a10 with ⟨z, q⟩ | ⟨z, q⟩ | ⟨z, q⟩ | ⟨z, q⟩ | ⟨z, q⟩ | ⟨z, q⟩
      · rcases b7 with ⟨y, t⟩ | ⟨y, t⟩ | ⟨y, t⟩ | ⟨y, t⟩ | ⟨y, t⟩ | ⟨y, t⟩ <;> first | omega | (rw [q, t]; exact r.2.1)
      · rcases b7 with ⟨y, t⟩ | ⟨y, t⟩ | ⟨y, t⟩ | ⟨y, t⟩ | ⟨y, t⟩ | ⟨y, t⟩ <;> first | omega | (rw [q, t]; exact ti_ofI r.2.2.1)
      · rcases b7 with ⟨y, t⟩ | ⟨y, t⟩ | ⟨y, t⟩ | ⟨y, t⟩ | ⟨y, t⟩ | ⟨y, t⟩ <;> first | omega | (rw [q, t]; exact ti_ofI (by rw [ti_add (by omega)]; exact r.1))
      · rcases b7 with ⟨y, t⟩ | ⟨y, t⟩ | ⟨y, t⟩ | ⟨y, t⟩ | ⟨y, t⟩ | ⟨y, t⟩
        · omega
        · omega
        · omega
        · rcases q with ⟨q1, q2⟩ | ⟨q1, q2⟩
          · rw [q2, t]
            refine ti_ofI ?_
            rw [r4.2.1 (by
              by_cases zz : (fiF (1024 + (bbase w h i' + k'))).toInt = -1
              · exact zz
              · have := r4.1.mpr zz; omega)]
            exact L.1
          · rw [q2, t]; exact (r4.2.2 (r4.1.mp q1)).2
        · omega
        · omega
      · rcases b7 with ⟨y, t⟩ | ⟨y, t⟩ | ⟨y, t⟩ | ⟨y, t⟩ | ⟨y, t⟩ | ⟨y, t⟩
        · omega
        · omega
        · omega
        · omega
        · rcases q with ⟨q1, q2⟩ | ⟨q1, q2⟩
          · rw [q2, t]
            refine ti_ofI ?_
            by_cases zz : (fiF (1024 + (bbase w h i' + k'))).toInt = -1
            · rw [zz]; exact L.1
            · have := r4.1.mpr zz; omega
          · rw [q2, t]; exact (r4.2.2 (r4.1.mp q1)).1
        · omega
      · rcases b7 with ⟨y, t⟩ | ⟨y, t⟩ | ⟨y, t⟩ | ⟨y, t⟩ | ⟨y, t⟩ | ⟨y, t⟩ <;> first | omega | (rw [q, t]; exact rw'.1)
