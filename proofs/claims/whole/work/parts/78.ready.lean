/-! Whether the next head can be written. -/
def Rdy (lw fi n t p : Int) : Prop := ((fi = -1 ∨ lw < fi) → n ≤ 0) ∧ (fi = lw → ¬ n = 0) ∧ t = p
theorem w_ready {F : Nat} (hF : 1000000 ≤ F) {m : Nat} {w h : Nat → Nat} {ly cn : Int32} {lw leN iN nN tN pN : Nat} {bF leF inu nF tF pF fiF : Nat → Int32} (hG : Geo m w h) (hL : GL m w h leF) (hm : cn.toInt = m) (hb : ∀ j, j ≤ m → (bF j).toInt = bbase w h j) (hly : ly.toInt = lw) (hs : bbase w h m ≤ leN ∧ nbase w h m ≤ iN ∧ bbase w h m ≤ nN ∧ bbase w h m ≤ tN ∧ bbase w h m ≤ pN)
    (hnum : ∀ i k, i < m → k < w i * h i → (inu (nbase w h i + k)).toInt = (if (fiF (bbase w h i + k)).toInt = -1 then 1000 else (fiF (bbase w h i + k)).toInt)) (hI : ∀ b, b < bbase w h m → -1 ≤ (fiF b).toInt ∧ (fiF b).toInt ≤ 254 ∧ 0 ≤ (nF b).toInt ∧ (tF b).toInt ≤ (pF b).toInt) :
    Ok (f_Side_isReady F ly cn 4 bF leN leF iN inu nN nF tN tF pN pF) (fun u => (u.toInt = 1 ∧ lw < 255 ∧ ∀ b, b < bbase w h m → Rdy lw (fiF b).toInt (nF b).toInt (tF b).toInt (pF b).toInt) ∨ (u.toInt = 0 ∧ ¬ (lw < 255 ∧ ∀ b, b < bbase w h m → Rdy lw (fiF b).toInt (nF b).toInt (tF b).toInt (pF b).toInt))) := by
  have L := lits
  have l255 : (255 : Int32).toInt = 255 := by decide
  have g3 := hG.1
  have hnb := hG.2.2
  simp only [f_Side_isReady]
  refine ok_lt (fun c0 => ?_) (fun c0 => ok_s (Or.inr ⟨L.2.1, fun z => by omega⟩))
  have key : ∀ (n : Nat) (v : Int32), 0 ≤ v.toInt → v.toInt ≤ bbase w h m → bbase w h m < v.toInt + n → (∀ b : Nat, (b : Int) < v.toInt → Rdy lw (fiF b).toInt (nF b).toInt (tF b).toInt (pF b).toInt) → Ok (f_Side_isReady_14 F ly cn 4 bF leN leF iN inu nN nF tN tF pN pF n v) (fun u => (u.toInt = 1 ∧ lw < 255 ∧ ∀ b, b < bbase w h m → Rdy lw (fiF b).toInt (nF b).toInt (tF b).toInt (pF b).toInt) ∨ (u.toInt = 0 ∧ ¬ (lw < 255 ∧ ∀ b, b < bbase w h m → Rdy lw (fiF b).toInt (nF b).toInt (tF b).toInt (pF b).toInt))) := by
    intro n
    induction n with
    | zero => intro v h1 h2 h3; omega
    | succ n ih =>
      intro v h1 h2 h3 h4
      simp only [f_Side_isReady_14, g_Side_isReady_14, g_Side_isReady_60, g_Side_isReady_77, g_Side_isReady_92, clamp_eq]
      refine ok_bm (w_blocks (m := m) (nb := bbase w h m) ⟨hm, by omega⟩ (hb m (Nat.le_refl _))) (fun u13 e13 => ?_)
      refine ok_le (fun c => ok_s (Or.inl ⟨L.2.2.1, by omega, fun b hb => h4 b (by omega)⟩)) (fun c => ?_)
      obtain ⟨b, eb⟩ : ∃ b : Nat, v.toInt.toNat = b := ⟨_, rfl⟩
      have hbn : b < bbase w h m := by omega
      obtain ⟨i, k, hi, hk, e⟩ := block_of hbn
      have hlf := hL i k hi hk
      have hnm := hnum i k hi hk
      rw [← e] at hlf hnm
      have hlt : nbase w h i + k < nbase w h m := by
        have hx := kxy hk
        have h9 := hG.in hi (Nat.zero_le _) (show k % w i < hf (w i) 0 by rw [hf_0]; exact hx.1) (show k / w i < hf (h i) 0 by rw [hf_0]; exact hx.2.1)
        rw [nd0, hx.2.2.1] at h9
        have := nbase_mono w h (show i + 1 ≤ m by omega)
        rw [nbase_s] at this
        omega
      have hb1 := hI b hbn
      rw [eb]
      have no : ¬ Rdy lw (fiF b).toInt (nF b).toInt (tF b).toInt (pF b).toInt → ((0 : Int32).toInt = 1 ∧ lw < 255 ∧ ∀ b, b < bbase w h m → Rdy lw (fiF b).toInt (nF b).toInt (tF b).toInt (pF b).toInt) ∨ ((0 : Int32).toInt = 0 ∧ ¬ (lw < 255 ∧ ∀ b, b < bbase w h m → Rdy lw (fiF b).toInt (nF b).toInt (tF b).toInt (pF b).toInt)) := fun q => Or.inr ⟨L.2.1, fun z => q (z.2 b hbn)⟩
      have tail : ((((fiF b).toInt = -1 ∨ (lw : Int) < (fiF b).toInt) → (nF b).toInt ≤ 0) ∧ ((fiF b).toInt = lw → ¬ (nF b).toInt = 0)) → Ok (asm (vp_in v tN) (letb (tF b) fun x9 => asm (vp_in v pN) (letb (pF b) fun x10 => if x10 ≤ x9 then letb (v + 1) fun x11 => f_Side_isReady_14 F ly cn 4 bF leN leF iN inu nN nF tN tF pN pF n x11 else some 0))) (fun u => (u.toInt = 1 ∧ lw < 255 ∧ ∀ b, b < bbase w h m → Rdy lw (fiF b).toInt (nF b).toInt (tF b).toInt (pF b).toInt) ∨ (u.toInt = 0 ∧ ¬ (lw < 255 ∧ ∀ b, b < bbase w h m → Rdy lw (fiF b).toInt (nF b).toInt (tF b).toInt (pF b).toInt))) := by
        intro hq
        refine ok_in (by omega) (ok_v ?_)
        refine ok_in (by omega) (ok_v ?_)
        refine ok_le (fun c1 => ?_) (fun c1 => ok_s (no (fun z => by have := z.2.2; omega)))
        refine ok_add (by omega) (fun x11 e11 => ih x11 (by omega) (by omega) (by omega) (fun b' hb' => ?_))
        by_cases q : b' = b
        · subst q; exact ⟨hq.1, hq.2, by omega⟩
        · exact h4 b' (by omega)
      refine ok_in (by omega) (ok_v ?_)
      rw [show (leF b).toInt.toNat = nbase w h i + k by omega]
      refine ok_in (by omega) (ok_v ?_)
      have mid : (((fiF b).toInt = -1 ∨ (lw : Int) < (fiF b).toInt) → (nF b).toInt ≤ 0) → Ok (if ly = inu (nbase w h i + k) then asm (vp_in v nN) (letb (nF b) fun x12 => if x12 = 0 then some 0 else asm (vp_in v tN) (letb (tF b) fun x9 => asm (vp_in v pN) (letb (pF b) fun x10 => if x10 ≤ x9 then letb (v + 1) fun x11 => f_Side_isReady_14 F ly cn 4 bF leN leF iN inu nN nF tN tF pN pF n x11 else some 0))) else asm (vp_in v tN) (letb (tF b) fun x9 => asm (vp_in v pN) (letb (pF b) fun x10 => if x10 ≤ x9 then letb (v + 1) fun x11 => f_Side_isReady_14 F ly cn 4 bF leN leF iN inu nN nF tN tF pN pF n x11 else some 0))) (fun u => (u.toInt = 1 ∧ lw < 255 ∧ ∀ b, b < bbase w h m → Rdy lw (fiF b).toInt (nF b).toInt (tF b).toInt (pF b).toInt) ∨ (u.toInt = 0 ∧ ¬ (lw < 255 ∧ ∀ b, b < bbase w h m → Rdy lw (fiF b).toInt (nF b).toInt (tF b).toInt (pF b).toInt))) := by
        intro hq
        refine ok_eq (fun c1 => ?_) (fun c1 => tail ⟨hq, fun z => ?_⟩)
        · refine ok_in (by omega) (ok_v ?_)
          have hfi : (fiF b).toInt = lw := by
            rw [hnm] at c1
            split at c1 <;> omega
          exact ok_eq (fun c2 => ok_s (no (fun z => z.2.1 hfi (by omega)))) (fun c2 => tail ⟨hq, fun _ => by omega⟩)
        · exfalso
          refine c1 ?_
          rw [hnm]
          split <;> omega
      refine ok_le (fun c1 => mid (fun z => ?_)) (fun c1 => ?_)
      · rw [hnm] at c1
        split at c1 <;> omega
      · refine ok_in (by omega) (ok_v ?_)
        refine ok_lt (fun c2 => ok_s (no (fun z => ?_))) (fun c2 => mid (fun _ => by omega))
        have := z.1 (by rw [hnm] at c1; split at c1 <;> omega)
        omega
  exact key F 0 (by omega) (by omega) (by omega) (fun b hb => by omega)
theorem w_whole {F : Nat} (hF : 1000000 ≤ F) {nb m lw : Nat} {sty bds : Int32} {lyF beF fiF brF toF cF pF : Nat → Int32} (hm : bds.toInt = m ∧ m < 4) (hbe : (beF m).toInt = nb ∧ nb ≤ 1024) (hly : (lyF 0).toInt = lw) (hI : ∀ b, b < nb → -1 ≤ (fiF b).toInt ∧ 0 ≤ (brF b).toInt ∧ 0 ≤ (cF b).toInt ∧ (cF b).toInt + (brF b).toInt ≤ 200 ∧ (pF b).toInt = pcs sty (cF b).toInt.toNat (brF b).toInt.toNat) :
    Ok (f_Mo_isWhole F sty bds 2 lyF 4 beF 2048 fiF 2048 brF 2048 toF 2048 cF) (fun u => (u.toInt = 1 ∧ lw < 255 ∧ ∀ b, b < nb → Rdy lw (fiF b).toInt (brF b).toInt (toF b).toInt (pF b).toInt) ∨ (u.toInt = 0 ∧ ¬ (lw < 255 ∧ ∀ b, b < nb → Rdy lw (fiF b).toInt (brF b).toInt (toF b).toInt (pF b).toInt))) := by
  have L := lits
  have l255 : (255 : Int32).toInt = 255 := by decide
  have ebd : bds.toInt.toNat = m := by omega
  have e0 : (0 : Int32).toInt.toNat = 0 := by decide
  have key : ∀ (n : Nat) (v1 v2 : Int32), 0 ≤ v2.toInt → v2.toInt ≤ nb → nb < v2.toInt + n → ((v1.toInt = 1 ∧ lw < 255 ∧ ∀ b : Nat, (b : Int) < v2.toInt → Rdy lw (fiF b).toInt (brF b).toInt (toF b).toInt (pF b).toInt) ∨ (v1.toInt = 0 ∧ ¬ (lw < 255 ∧ ∀ b : Nat, (b : Int) < v2.toInt → Rdy lw (fiF b).toInt (brF b).toInt (toF b).toInt (pF b).toInt))) → Ok (f_Mo_isWhole_20 F sty bds 2 lyF 4 beF 2048 fiF 2048 brF 2048 toF 2048 cF n v1 v2) (fun u => (u.toInt = 1 ∧ lw < 255 ∧ ∀ b, b < nb → Rdy lw (fiF b).toInt (brF b).toInt (toF b).toInt (pF b).toInt) ∨ (u.toInt = 0 ∧ ¬ (lw < 255 ∧ ∀ b, b < nb → Rdy lw (fiF b).toInt (brF b).toInt (toF b).toInt (pF b).toInt))) := by
    intro n
    induction n with
    | zero => intro v1 v2 h1 h2 h3; omega
    | succ n ih =>
      intro v1 v2 h1 h2 h3 h4
      simp only [f_Mo_isWhole_20, g_Mo_isWhole_20, g_Mo_isWhole_58, g_Mo_isWhole_63, g_Mo_isWhole_77, g_Mo_isWhole_101, g_Mo_isWhole_121, g_Mo_isWhole_123, clamp_eq, ebd, e0]
      refine ok_in (by omega) (ok_v ?_)
      refine ok_le (fun c => ok_a (bool_nar (by omega)) (ok_s ?_)) (fun c => ?_)
      · rcases h4 with ⟨z1, z2, z3⟩ | ⟨z1, z2⟩
        · try dsimp only
          exact Or.inl ⟨z1, z2, fun b hb => z3 b (by omega)⟩
        · try dsimp only
          exact Or.inr ⟨z1, fun q => z2 ⟨q.1, fun b hb => q.2 b (by omega)⟩⟩
      obtain ⟨b, eb⟩ : ∃ b : Nat, v2.toInt.toNat = b := ⟨_, rfl⟩
      have hb1 := hI b (by omega)
      rw [eb]
      have goN : ¬ Rdy lw (fiF b).toInt (brF b).toInt (toF b).toInt (pF b).toInt → Ok (letb (v2 + 1) fun x14 => f_Mo_isWhole_20 F sty bds 2 lyF 4 beF 2048 fiF 2048 brF 2048 toF 2048 cF n 0 x14) (fun u => (u.toInt = 1 ∧ lw < 255 ∧ ∀ b, b < nb → Rdy lw (fiF b).toInt (brF b).toInt (toF b).toInt (pF b).toInt) ∨ (u.toInt = 0 ∧ ¬ (lw < 255 ∧ ∀ b, b < nb → Rdy lw (fiF b).toInt (brF b).toInt (toF b).toInt (pF b).toInt))) := by
        intro q
        exact ok_add (by omega) (fun x14 e14 => ih 0 x14 (by omega) (by omega) (by omega) (Or.inr ⟨L.2.1, fun z => q (z.2 b (by omega))⟩))
      have goY : Rdy lw (fiF b).toInt (brF b).toInt (toF b).toInt (pF b).toInt → Ok (letb (v2 + 1) fun x14 => f_Mo_isWhole_20 F sty bds 2 lyF 4 beF 2048 fiF 2048 brF 2048 toF 2048 cF n v1 x14) (fun u => (u.toInt = 1 ∧ lw < 255 ∧ ∀ b, b < nb → Rdy lw (fiF b).toInt (brF b).toInt (toF b).toInt (pF b).toInt) ∨ (u.toInt = 0 ∧ ¬ (lw < 255 ∧ ∀ b, b < nb → Rdy lw (fiF b).toInt (brF b).toInt (toF b).toInt (pF b).toInt))) := by
        intro q
        refine ok_add (by omega) (fun x14 e14 => ih v1 x14 (by omega) (by omega) (by omega) ?_)
        rcases h4 with ⟨z1, z2, z3⟩ | ⟨z1, z2⟩
        · try dsimp only
          refine Or.inl ⟨z1, z2, fun b' hb' => ?_⟩
          by_cases qb : b' = b
          · subst qb; exact q
          · exact z3 b' (by omega)
        · try dsimp only
          exact Or.inr ⟨z1, fun y => z2 ⟨y.1, fun b' hb' => y.2 b' (by omega)⟩⟩
      have t101 : ((((fiF b).toInt = -1 ∨ (lw : Int) < (fiF b).toInt) → (brF b).toInt ≤ 0) ∧ ((fiF b).toInt = lw → ¬ (brF b).toInt = 0)) → Ok (asm (vp_in v2 2048) (letb (toF b) fun x15 => asm (vp_in v2 2048) (letb (brF b) fun x16 => bd (f_Mo_piecesOf F sty 2048 cF v2 x16) fun u17 => if x15 = u17 then letb (v2 + 1) fun x14 => f_Mo_isWhole_20 F sty bds 2 lyF 4 beF 2048 fiF 2048 brF 2048 toF 2048 cF n v1 x14 else letb (v2 + 1) fun x14 => f_Mo_isWhole_20 F sty bds 2 lyF 4 beF 2048 fiF 2048 brF 2048 toF 2048 cF n 0 x14))) (fun u => (u.toInt = 1 ∧ lw < 255 ∧ ∀ b, b < nb → Rdy lw (fiF b).toInt (brF b).toInt (toF b).toInt (pF b).toInt) ∨ (u.toInt = 0 ∧ ¬ (lw < 255 ∧ ∀ b, b < nb → Rdy lw (fiF b).toInt (brF b).toInt (toF b).toInt (pF b).toInt))) := by
        intro hq
        refine ok_in (by omega) (ok_v ?_)
        refine ok_in (by omega) (ok_v ?_)
        refine ok_bm (w_Mo_pcs hF (by omega) (by rw [eb]; omega)) (fun u17 e17 => ?_)
        rw [eb] at e17
        exact ok_eq (fun c1 => goY ⟨hq.1, hq.2, by omega⟩) (fun c1 => goN (fun z => by have := z.2.2; omega))
      have t77 : (((fiF b).toInt = -1 ∨ (lw : Int) < (fiF b).toInt) → (brF b).toInt ≤ 0) → Ok (asm (vp_in 0 2) (letb (lyF 0) fun x18 => asm (vp_in v2 2048) (letb (fiF b) fun x19 => if x18 = x19 then asm (vp_in v2 2048) (letb (brF b) fun x20 => if x20 = 0 then letb (v2 + 1) fun x14 => f_Mo_isWhole_20 F sty bds 2 lyF 4 beF 2048 fiF 2048 brF 2048 toF 2048 cF n 0 x14 else asm (vp_in v2 2048) (letb (toF b) fun x15 => asm (vp_in v2 2048) (letb (brF b) fun x16 => bd (f_Mo_piecesOf F sty 2048 cF v2 x16) fun u17 => if x15 = u17 then letb (v2 + 1) fun x14 => f_Mo_isWhole_20 F sty bds 2 lyF 4 beF 2048 fiF 2048 brF 2048 toF 2048 cF n v1 x14 else letb (v2 + 1) fun x14 => f_Mo_isWhole_20 F sty bds 2 lyF 4 beF 2048 fiF 2048 brF 2048 toF 2048 cF n 0 x14))) else asm (vp_in v2 2048) (letb (toF b) fun x15 => asm (vp_in v2 2048) (letb (brF b) fun x16 => bd (f_Mo_piecesOf F sty 2048 cF v2 x16) fun u17 => if x15 = u17 then letb (v2 + 1) fun x14 => f_Mo_isWhole_20 F sty bds 2 lyF 4 beF 2048 fiF 2048 brF 2048 toF 2048 cF n v1 x14 else letb (v2 + 1) fun x14 => f_Mo_isWhole_20 F sty bds 2 lyF 4 beF 2048 fiF 2048 brF 2048 toF 2048 cF n 0 x14))))) (fun u => (u.toInt = 1 ∧ lw < 255 ∧ ∀ b, b < nb → Rdy lw (fiF b).toInt (brF b).toInt (toF b).toInt (pF b).toInt) ∨ (u.toInt = 0 ∧ ¬ (lw < 255 ∧ ∀ b, b < nb → Rdy lw (fiF b).toInt (brF b).toInt (toF b).toInt (pF b).toInt))) := by
        intro hq
        refine ok_in (by omega) (ok_v ?_)
        refine ok_in (by omega) (ok_v ?_)
        refine ok_eq (fun c1 => ?_) (fun c1 => t101 ⟨hq, fun z => absurd (by omega) c1⟩)
        refine ok_in (by omega) (ok_v ?_)
        exact ok_eq (fun c2 => goN (fun z => z.2.1 (by omega) (by omega))) (fun c2 => t101 ⟨hq, fun _ => by omega⟩)
      have t63 : ((fiF b).toInt = -1 ∨ (lw : Int) < (fiF b).toInt) → Ok (asm (vp_in v2 2048) (letb (brF b) fun x21 => if 0 < x21 then letb (v2 + 1) fun x14 => f_Mo_isWhole_20 F sty bds 2 lyF 4 beF 2048 fiF 2048 brF 2048 toF 2048 cF n 0 x14 else asm (vp_in 0 2) (letb (lyF 0) fun x18 => asm (vp_in v2 2048) (letb (fiF b) fun x19 => if x18 = x19 then asm (vp_in v2 2048) (letb (brF b) fun x20 => if x20 = 0 then letb (v2 + 1) fun x14 => f_Mo_isWhole_20 F sty bds 2 lyF 4 beF 2048 fiF 2048 brF 2048 toF 2048 cF n 0 x14 else asm (vp_in v2 2048) (letb (toF b) fun x15 => asm (vp_in v2 2048) (letb (brF b) fun x16 => bd (f_Mo_piecesOf F sty 2048 cF v2 x16) fun u17 => if x15 = u17 then letb (v2 + 1) fun x14 => f_Mo_isWhole_20 F sty bds 2 lyF 4 beF 2048 fiF 2048 brF 2048 toF 2048 cF n v1 x14 else letb (v2 + 1) fun x14 => f_Mo_isWhole_20 F sty bds 2 lyF 4 beF 2048 fiF 2048 brF 2048 toF 2048 cF n 0 x14))) else asm (vp_in v2 2048) (letb (toF b) fun x15 => asm (vp_in v2 2048) (letb (brF b) fun x16 => bd (f_Mo_piecesOf F sty 2048 cF v2 x16) fun u17 => if x15 = u17 then letb (v2 + 1) fun x14 => f_Mo_isWhole_20 F sty bds 2 lyF 4 beF 2048 fiF 2048 brF 2048 toF 2048 cF n v1 x14 else letb (v2 + 1) fun x14 => f_Mo_isWhole_20 F sty bds 2 lyF 4 beF 2048 fiF 2048 brF 2048 toF 2048 cF n 0 x14)))))) (fun u => (u.toInt = 1 ∧ lw < 255 ∧ ∀ b, b < nb → Rdy lw (fiF b).toInt (brF b).toInt (toF b).toInt (pF b).toInt) ∨ (u.toInt = 0 ∧ ¬ (lw < 255 ∧ ∀ b, b < nb → Rdy lw (fiF b).toInt (brF b).toInt (toF b).toInt (pF b).toInt))) := by
        intro hq
        refine ok_in (by omega) (ok_v ?_)
        exact ok_lt (fun c1 => goN (fun z => by have := z.1 hq; omega)) (fun c1 => t77 (fun _ => by omega))
      refine ok_in (by omega) (ok_v ?_)
      refine ok_eq (fun c1 => ok_eq (fun d => by omega) (fun _ => t63 (by omega))) (fun c1 => ?_)
      refine ok_in (by omega) (ok_v ?_)
      refine ok_in (by omega) (ok_v ?_)
      exact ok_le (fun c2 => ok_T (t77 (fun z => by omega))) (fun c2 => ok_eq (fun d => by omega) (fun _ => t63 (by omega)))
  simp only [f_Mo_isWhole, g_Mo_isWhole_17, clamp_eq, e0]
  refine ok_in (by omega) (ok_v ?_)
  exact ok_le (fun c => key F 0 0 (by omega) (by omega) (by omega) (Or.inr ⟨L.2.1, fun z => by omega⟩)) (fun c => key F 1 0 (by omega) (by omega) (by omega) (Or.inl ⟨L.2.2.1, by omega, fun b hb => by omega⟩))
