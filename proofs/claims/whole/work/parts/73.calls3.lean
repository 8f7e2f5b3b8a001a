/-! The bytes of a piece; when a block comes in. -/
theorem s_bytes {F : Nat} (hF : 1000000 ≤ F) {m : Nat} {w h : Nat → Nat} {cn th bds p0 p1 p2 P : Int32} {fN pN lN oN : Nat} {bF fF pF lF wiF hiF beF toF oF LeF : Nat → Int32} {out : Nat → Int64} (hG : Geo m w h) (hm : cn.toInt = m ∧ bds.toInt = m) (hb : ∀ j, j ≤ m → (bF j).toInt = bbase w h j ∧ (beF j).toInt = bbase w h j) (hwi : ∀ i, i < m → (wiF i).toInt = w i ∧ (hiF i).toInt = h i) (hs : bbase w h m ≤ fN ∧ bbase w h m ≤ pN ∧ lN ≤ 8192) (ho : oN = 1)
    (hI : ∀ b, b < bbase w h m → (pF b).toInt = (toF (1024 + b)).toInt ∧ (0 < (pF b).toInt → 0 ≤ (fF b).toInt ∧ (fF b).toInt + (pF b).toInt ≤ lN)) (hP : 0 ≤ P.toInt ∧ P.toInt ≤ 8200) (ht : ∀ b, b < 2048 → (toF b).toInt = cnt oF (b : Nat) P.toInt.toNat) (hl : ∀ p b : Nat, (p : Int) < P.toInt → b < bbase w h m → (oF p).toInt = ((1024 + b : Nat) : Int) → LeF p = lF ((fF b).toInt.toNat + cnt oF ((1024 + b : Nat) : Int) p)) :
    Ok (f_Law_bytes F cn 4 bF fN fF pN pF lN lF oN out p0 p1 p2) (fun u => Ok (f_Mo_bytes F th bds 3 wiF 3 hiF 4 beF 2048 toF 8200 oF 8200 LeF p0 p1 p2) (fun v => v.2 = u.2.2.1 ∧ (u.2.2.1 = 0 → u.2.2.2 (0 : Int32).toNatClampNeg = v.1.toInt64) ∧ u.1 ≤ 1 ∧ u.2.1 ≤ 6)) := by
  have L := lits
  have l1024 : (1024 : Int32).toInt = 1024 := by decide
  have g3 := hG.1
  have cls : Ok (f_Law_bytes F cn 4 bF fN fF pN pF lN lF oN out p0 p1 p2) (fun u => (¬ Blk m w h p0 p1 ∧ u.1 ≤ 1 ∧ u.2.1 ≤ 6 ∧ u.2.2.1 = 1) ∨ (∃ i k : Nat, i < m ∧ k < w i * h i ∧ p0.toInt = i ∧ p1.toInt = k ∧ u.1 ≤ 1 ∧ u.2.1 ≤ 6 ∧ ((¬ (0 ≤ p2.toInt ∧ p2.toInt < (pF (bbase w h i + k)).toInt) ∧ u.2.2.1 = 2) ∨ ((0 ≤ p2.toInt ∧ p2.toInt < (pF (bbase w h i + k)).toInt) ∧ u.2.2.1 = 0 ∧ u.2.2.2 (0 : Int32).toNatClampNeg = (lF ((fF (bbase w h i + k)).toInt.toNat + p2.toInt.toNat)).toInt64)))) := by
    simp only [f_Law_bytes]
    refine ok_bm (Q := fun u6 => (¬ Blk m w h p0 p1 ∧ u6 = (1, 6, 1, 0)) ∨ (∃ i k : Nat, i < m ∧ k < w i * h i ∧ p0.toInt = i ∧ p1.toInt = k ∧ ((¬ (0 ≤ p2.toInt ∧ p2.toInt < (pF (bbase w h i + k)).toInt) ∧ u6 = (1, 6, 3, 0)) ∨ ((0 ≤ p2.toInt ∧ p2.toInt < (pF (bbase w h i + k)).toInt) ∧ u6 = (0, 0, 0, lF ((fF (bbase w h i + k)).toInt.toNat + p2.toInt.toNat)))))) ?_ (fun u6 e6 => ok_c ?_)
    · simp only [f_PH_bytes, g_PH_bytes_26]
      refine ok_bm (w_find hG hm.1 (fun j hj => (hb j hj).1)) (fun u21 e21 => ok_c ?_)
      rcases e21 with ⟨i, k, hi, hk, h3, h4, h5, h6, h7, h8⟩ | ⟨h1, h2⟩
      · have gw := hG.wh hi
        have eb : u21.2.2.2.toInt.toNat = bbase w h i + k := by omega
        have hb1 := hI (bbase w h i + k) (by omega)
        rw [h5, h6]
        refine ok_neq (fun _ => ?_) (fun c => absurd h7 c)
        refine ok_lt (fun c => ok_s (Or.inr ⟨i, k, hi, hk, h3, h4, Or.inl ⟨by omega, rfl⟩⟩)) (fun c => ?_)
        simp only [clamp_eq, eb]
        refine ok_in (by omega) (ok_v ?_)
        refine ok_lt (fun c2 => ?_) (fun c2 => ok_s (Or.inr ⟨i, k, hi, hk, h3, h4, Or.inl ⟨by omega, rfl⟩⟩))
        refine ok_in (by omega) (ok_v ?_)
        refine ok_add (by omega) (fun x13 e13 => ?_)
        refine ok_in (by omega) (ok_v (ok_s (Or.inr ⟨i, k, hi, hk, h3, h4, Or.inr ⟨by omega, ?_⟩⟩)))
        rw [show x13.toInt.toNat = (fF (bbase w h i + k)).toInt.toNat + p2.toInt.toNat by omega]
      · subst h2
        exact ok_neq (fun c => by simp at c) (fun _ => ok_s (Or.inl ⟨h1, rfl⟩))
    · rcases e6 with ⟨z1, z2⟩ | ⟨i, k, a1, a2, a3, a4, ⟨a5, a6⟩ | ⟨a5, a6⟩⟩
      · subst z2
        exact ok_neq (fun c => by simp at c) (fun _ => ok_neq (fun _ => ok_s (Or.inl ⟨z1, Nat.le_refl _, Nat.le_refl _, rfl⟩)) (fun c => absurd rfl c))
      · subst a6
        exact ok_neq (fun c => by simp at c) (fun _ => ok_neq (fun c => by simp at c) (fun _ => ok_neq (fun _ => ok_s (Or.inr ⟨i, k, a1, a2, a3, a4, Nat.le_refl _, Nat.le_refl _, Or.inl ⟨a5, rfl⟩⟩)) (fun c => absurd rfl c)))
      · subst a6
        refine ok_neq (fun _ => ?_) (fun c => absurd rfl c)
        exact ok_v (ok_in (by omega) (ok_s (Or.inr ⟨i, k, a1, a2, a3, a4, Nat.zero_le _, Nat.zero_le _, Or.inr ⟨a5, rfl, out_is out _⟩⟩)))
  refine ok_m cls (fun u hu => ?_)
  simp only [f_Mo_bytes, g_Mo_bytes_29, g_Mo_bytes_42, g_Mo_bytes_68, g_Mo_bytes_69]
  refine ok_bm (w_isBlock hG hm.2 hwi) (fun u15 e15 => ?_)
  refine ok_eq (fun c => ?_) (fun c => ?_)
  · refine ok_eq (fun _ => ?_) (fun d => absurd c d)
    refine ok_eq (fun _ => ?_) (fun d => absurd c d)
    refine ok_bm w_Mo_throwing (fun u10 e10 => ?_)
    refine ok_eq (fun d => by omega) (fun _ => ok_s ?_)
    have nb : ¬ Blk m w h p0 p1 := by
      rcases e15 with ⟨_, q⟩ | ⟨q, _⟩
      · omega
      · exact q
    rcases hu with ⟨a1, a2, a3, a4⟩ | ⟨i, k, a1, a2, a3, a4, _⟩
    · try dsimp only
      exact ⟨by rw [a4]; exact ti_ofI (by (try dsimp only); omega), fun z => absurd (a4.symm.trans z) (by decide), a2, a3⟩
    · exact absurd ⟨i, k, a1, a2, a3, a4⟩ nb
  · have yb : Blk m w h p0 p1 := by
      rcases e15 with ⟨q, _⟩ | ⟨_, q⟩
      · exact q
      · omega
    rcases hu with ⟨a1, _⟩ | ⟨i, k, a1, a2, a3, a4, a5, a6, a7⟩
    · exact absurd yb a1
    · have gw := hG.wh a1
      have hbi := (hb i (by omega)).2
      have hb1 := hI (bbase w h i + k) (by omega)
      simp only [clamp_eq]
      rw [show p0.toInt.toNat = i by omega]
      refine ok_in (by omega) (ok_v ?_)
      refine ok_add (by omega) (fun x17 e17 => ?_)
      refine ok_add (by omega) (fun x18 e18 => ?_)
      have e18' : x18.toInt.toNat = 1024 + (bbase w h i + k) := by omega
      have e18'' : x18.toInt = ((1024 + (bbase w h i + k) : Nat) : Int) := by omega
      refine ok_eq (fun d => absurd d c) (fun _ => ?_)
      refine ok_eq (fun d => absurd d c) (fun _ => ?_)
      rw [e18']
      refine ok_in (by omega) (ok_v ?_)
      have htb := ht (1024 + (bbase w h i + k)) (by omega)
      have hck := cnt_k oF ((1024 + (bbase w h i + k) : Nat) : Int) P.toInt.toNat
      refine ok_sub (by omega) (fun x13 e13 => ?_)
      refine ok_bm w_Mo_out (fun u14 e14 => ?_)
      refine ok_eq (fun d => ?_) (fun d => ?_)
      · refine ok_bm w_Mo_throwing (fun u10 e10 => ?_)
        refine ok_eq (fun _ => ?_) (fun d => by omega)
        obtain ⟨p, q1, q2, q3⟩ := cnt_at (o := oF) (b := ((1024 + (bbase w h i + k) : Nat) : Int)) (k := P.toInt.toNat) (i := p2.toInt.toNat) (by omega)
        refine ok_bm (w_Mo_lengthOf hF (p := p) (by omega) (by rw [q2, e18'']) (by rw [e18'', q3]; omega)) (fun u11 e11 => ok_s ?_)
        rcases a7 with ⟨z1, z2⟩ | ⟨z1, z2, z3⟩
        · omega
        · try dsimp only
          refine ⟨by rw [z2]; exact ti_ofI (by (try dsimp only); omega), fun _ => ?_, a5, a6⟩
          exact z3.trans (by rw [e11, hl p (bbase w h i + k) (by omega) (by omega) q2, q3])
      · refine ok_bm w_Mo_throwing (fun u10 e10 => ?_)
        refine ok_eq (fun d2 => by omega) (fun _ => ok_s ?_)
        rcases a7 with ⟨z1, z2⟩ | ⟨z1, z2, z3⟩
        · try dsimp only
          exact ⟨by rw [z2]; exact ti_ofI (by (try dsimp only); omega), fun z => absurd (z2.symm.trans z) (by decide), a5, a6⟩
        · omega
theorem s_first {F m : Nat} {w h : Nat → Nat} {cn ly th bds p0 p1 p2 p3 : Int32} {leN iN oN : Nat} {bF leF inu onu wiF hiF beF lyF fiF miF : Nat → Int32} (hG : Geo m w h) (hL : GL m w h leF) (hm : cn.toInt = m ∧ bds.toInt = m) (hb : ∀ j, j ≤ m → (bF j).toInt = bbase w h j ∧ (beF j).toInt = bbase w h j) (hwi : ∀ i, i < m → (wiF i).toInt = w i ∧ (hiF i).toInt = h i) (hs : bbase w h m ≤ leN ∧ nbase w h m ≤ iN ∧ nbase w h m ≤ oN) (hly : lyF 0 = ly ∧ 0 ≤ ly.toInt) :
    Ok (f_Law_first F cn 4 bF leN leF ly iN inu oN onu p0 p1 p2 p3) (fun u => Ok (f_Mo_first F th bds 3 wiF 3 hiF 2 lyF 4 beF 2048 fiF 2048 miF p0 p1 p2 p3) (fun v => v.1 = u.2.2.1 ∧ u.1 ≤ 1 ∧ u.2.1 ≤ 6 ∧ ((¬ u.2.2.1 = 0 ∧ u.2.2.2.1 = inu ∧ u.2.2.2.2 = onu ∧ v.2.1 = fiF ∧ v.2.2 = miF) ∨ (u.2.2.1 = 0 ∧ ly.toInt = 0 ∧ ∃ (i k : Nat) (x : Int32), i < m ∧ k < w i * h i ∧ (-1 ≤ p2.toInt ∧ p2.toInt ≤ 254 ∧ 0 ≤ p3.toInt ∧ p3.toInt ≤ 73) ∧ x.toInt = (if p2.toInt = -1 then 1000 else p2.toInt) ∧ u.2.2.2.1 = upd inu (nbase w h i + k) x ∧ u.2.2.2.2 = upd onu (nbase w h i + k) p3 ∧ v.2.1 = upd fiF (bbase w h i + k) p2 ∧ v.2.2 = upd miF (bbase w h i + k) p3)))) := by
  have L := lits
  have l254 : (254 : Int32).toInt = 254 := by decide
  have l255 : (255 : Int32).toInt = 255 := by decide
  have l73 : (73 : Int32).toInt = 73 := by decide
  have l1000 : (1000 : Int32).toInt = 1000 := by decide
  have g3 := hG.1
  have cls : Ok (f_Law_first F cn 4 bF leN leF ly iN inu oN onu p0 p1 p2 p3) (fun u => (¬ (Blk m w h p0 p1 ∧ -1 ≤ p2.toInt ∧ p2.toInt ≤ 254 ∧ 0 ≤ p3.toInt ∧ p3.toInt ≤ 73) ∧ u.1 ≤ 1 ∧ u.2.1 ≤ 6 ∧ u.2.2.1 = 1 ∧ u.2.2.2.1 = inu ∧ u.2.2.2.2 = onu) ∨ ((Blk m w h p0 p1 ∧ -1 ≤ p2.toInt ∧ p2.toInt ≤ 254 ∧ 0 ≤ p3.toInt ∧ p3.toInt ≤ 73) ∧ 0 < ly.toInt ∧ u.1 ≤ 1 ∧ u.2.1 ≤ 6 ∧ u.2.2.1 = 2 ∧ u.2.2.2.1 = inu ∧ u.2.2.2.2 = onu) ∨ (∃ (i k : Nat) (x : Int32), i < m ∧ k < w i * h i ∧ p0.toInt = i ∧ p1.toInt = k ∧ (-1 ≤ p2.toInt ∧ p2.toInt ≤ 254 ∧ 0 ≤ p3.toInt ∧ p3.toInt ≤ 73) ∧ ly.toInt ≤ 0 ∧ u.1 ≤ 1 ∧ u.2.1 ≤ 6 ∧ u.2.2.1 = 0 ∧ x.toInt = (if p2.toInt = -1 then 1000 else p2.toInt) ∧ u.2.2.2.1 = upd inu (nbase w h i + k) x ∧ u.2.2.2.2 = upd onu (nbase w h i + k) p3)) := by
    simp only [f_Law_first]
    refine ok_bm (Q := fun u6 => (¬ (Blk m w h p0 p1 ∧ -1 ≤ p2.toInt ∧ p2.toInt ≤ 254 ∧ 0 ≤ p3.toInt ∧ p3.toInt ≤ 73) ∧ u6 = (1, 6, 1, inu, onu)) ∨ ((Blk m w h p0 p1 ∧ -1 ≤ p2.toInt ∧ p2.toInt ≤ 254 ∧ 0 ≤ p3.toInt ∧ p3.toInt ≤ 73) ∧ 0 < ly.toInt ∧ u6 = (1, 6, 2, inu, onu)) ∨ (∃ (i k : Nat) (x : Int32), i < m ∧ k < w i * h i ∧ p0.toInt = i ∧ p1.toInt = k ∧ (-1 ≤ p2.toInt ∧ p2.toInt ≤ 254 ∧ 0 ≤ p3.toInt ∧ p3.toInt ≤ 73) ∧ ly.toInt ≤ 0 ∧ x.toInt = (if p2.toInt = -1 then 1000 else p2.toInt) ∧ u6 = (0, 0, 0, upd inu (nbase w h i + k) x, upd onu (nbase w h i + k) p3))) ?_ (fun u6 e6 => ok_c ?_)
    · simp only [f_PH_first, g_PH_first_20, g_PH_first_42, g_PH_first_104]
      refine ok_bm (w_find hG hm.1 (fun j hj => (hb j hj).1)) (fun u21 e21 => ok_c ?_)
      rcases e21 with ⟨i, k, hi, hk, h3, h4, h5, h6, h7, h8⟩ | ⟨h1, h2⟩
      · have gw := hG.wh hi
        have eb : u21.2.2.2.toInt.toNat = bbase w h i + k := by omega
        have hlf := hL i k hi hk
        have elf : (leF (bbase w h i + k)).toInt.toNat = nbase w h i + k := by omega
        have hlt : nbase w h i + k < nbase w h m := by
          have hx := kxy hk
          have h9 := hG.in hi (Nat.zero_le _) (show k % w i < hf (w i) 0 by rw [hf_0]; exact hx.1) (show k / w i < hf (h i) 0 by rw [hf_0]; exact hx.2.1)
          rw [nd0, hx.2.2.1] at h9
          have := nbase_mono w h (show i + 1 ≤ m by omega)
          rw [nbase_s] at this
          omega
        rw [h5, h6]
        refine ok_neq (fun _ => ?_) (fun c => absurd h7 c)
        refine ok_lt (fun c => ok_s (Or.inl ⟨by omega, rfl⟩)) (fun c => ?_)
        refine ok_lt (fun c1 => ?_) (fun c1 => ok_s (Or.inl ⟨by omega, rfl⟩))
        refine ok_lt (fun c2 => ok_s (Or.inl ⟨by omega, rfl⟩)) (fun c2 => ?_)
        refine ok_le (fun c3 => ?_) (fun c3 => ok_s (Or.inl ⟨by omega, rfl⟩))
        refine ok_le (fun c4 => ?_) (fun c4 => ok_s (Or.inr (Or.inl ⟨⟨⟨i, k, hi, hk, h3, h4⟩, by omega⟩, by omega, rfl⟩)))
        simp only [clamp_eq, eb]
        refine ok_in (by omega) (ok_v ?_)
        simp only [elf]
        refine ok_eq (fun c5 => ?_) (fun c5 => ?_)
        · refine ok_in (by omega) (ok_in (by omega) (ok_v (ok_in (by omega) (ok_s (Or.inr (Or.inr ⟨i, k, 1000, hi, hk, h3, h4, by omega, by omega, ?_, by rw [elf]⟩))))))
          rw [if_pos (by omega)]; exact l1000
        · refine ok_in (by omega) (ok_in (by omega) (ok_v (ok_in (by omega) (ok_s (Or.inr (Or.inr ⟨i, k, p2, hi, hk, h3, h4, by omega, by omega, ?_, by rw [elf]⟩))))))
          rw [if_neg (by omega)]
      · subst h2
        exact ok_neq (fun c => by simp at c) (fun _ => ok_s (Or.inl ⟨fun z => h1 z.1, rfl⟩))
    · rcases e6 with ⟨z1, z2⟩ | ⟨z1, z2, z3⟩ | ⟨i, k, x, a1, a2, a3, a4, a5, a6, a7, a8⟩
      · subst z2
        exact ok_neq (fun c => by simp at c) (fun _ => ok_neq (fun _ => ok_s (Or.inl ⟨z1, Nat.le_refl _, Nat.le_refl _, rfl, rfl, rfl⟩)) (fun c => absurd rfl c))
      · subst z3
        exact ok_neq (fun c => by simp at c) (fun _ => ok_neq (fun c => by simp at c) (fun _ => ok_neq (fun _ => ok_s (Or.inr (Or.inl ⟨z1, z2, Nat.le_refl _, Nat.le_refl _, rfl, rfl, rfl⟩))) (fun c => absurd rfl c)))
      · subst a8
        exact ok_neq (fun _ => ok_s (Or.inr (Or.inr ⟨i, k, x, a1, a2, a3, a4, a5, a6, Nat.zero_le _, Nat.zero_le _, rfl, a7, rfl, rfl⟩))) (fun c => absurd rfl c)
  have ref : Ok (f_Mo_first F th bds 3 wiF 3 hiF 2 lyF 4 beF 2048 fiF 2048 miF p0 p1 p2 p3) (fun v => (¬ (Blk m w h p0 p1 ∧ -1 ≤ p2.toInt ∧ p2.toInt ≤ 254 ∧ 0 ≤ p3.toInt ∧ p3.toInt ≤ 73) ∧ v = (1, fiF, miF)) ∨ ((Blk m w h p0 p1 ∧ -1 ≤ p2.toInt ∧ p2.toInt ≤ 254 ∧ 0 ≤ p3.toInt ∧ p3.toInt ≤ 73) ∧ 0 < ly.toInt ∧ v = (2, fiF, miF)) ∨ (∃ (i k : Nat), i < m ∧ k < w i * h i ∧ p0.toInt = i ∧ p1.toInt = k ∧ (-1 ≤ p2.toInt ∧ p2.toInt ≤ 254 ∧ 0 ≤ p3.toInt ∧ p3.toInt ≤ 73) ∧ ly.toInt ≤ 0 ∧ v = (0, upd fiF (bbase w h i + k) p2, upd miF (bbase w h i + k) p3))) := by
    simp only [f_Mo_first, g_Mo_first_31]
    refine ok_bm (w_isBlock hG hm.2 hwi) (fun u16 e16 => ?_)
    have bad : ¬ (Blk m w h p0 p1 ∧ -1 ≤ p2.toInt ∧ p2.toInt ≤ 254 ∧ 0 ≤ p3.toInt ∧ p3.toInt ≤ 73) → Ok (g_Mo_first_36 F 2 lyF 4 beF 2048 2048 fiF miF th p0 p1 p2 p3 1) (fun v => v = (1, fiF, miF)) := by
      intro _
      simp only [g_Mo_first_36, g_Mo_first_59, g_Mo_first_60]
      refine ok_eq (fun c => by omega) (fun _ => ?_)
      refine ok_bm w_Mo_throwing (fun u10 e10 => ?_)
      refine ok_eq (fun d => by omega) (fun _ => ok_s ?_)
      rw [show u10.2 = 1 from ti_ofI (by omega)]
    refine ok_eq (fun c => ?_) (fun c => ?_)
    · have nb : ¬ (Blk m w h p0 p1 ∧ -1 ≤ p2.toInt ∧ p2.toInt ≤ 254 ∧ 0 ≤ p3.toInt ∧ p3.toInt ≤ 73) := by
        rcases e16 with ⟨_, q⟩ | ⟨q, _⟩
        · omega
        · exact fun z => q z.1
      exact ok_m (bad nb) (fun v hv => Or.inl ⟨nb, hv⟩)
    obtain ⟨i, k, hi, hk, h3, h4⟩ : Blk m w h p0 p1 := by
      rcases e16 with ⟨q, _⟩ | ⟨_, q⟩
      · exact q
      · omega
    refine ok_bm w_Mo_out (fun u17 e17 => ?_)
    refine ok_eq (fun c1 => ?_) (fun c1 => ok_m (bad (fun z => by omega)) (fun v hv => Or.inl ⟨fun z => by omega, hv⟩))
    refine ok_bm w_Mo_out (fun u18 e18 => ?_)
    refine ok_eq (fun c2 => ?_) (fun c2 => ok_m (bad (fun z => by omega)) (fun v hv => Or.inl ⟨fun z => by omega, hv⟩))
    have gw := hG.wh hi
    have hbi := (hb i (by omega)).2
    simp only [g_Mo_first_36, g_Mo_first_59, g_Mo_first_60, clamp_eq]
    refine ok_T ?_
    refine ok_in (by omega) (ok_l (fun x15 e15 => ?_))
    have e15' : x15 = ly := by rw [e15, L.2.1]; exact hly.1
    subst e15'
    refine ok_le (fun c3 => ?_) (fun c3 => ?_)
    · refine ok_bm w_Mo_throwing (fun u10 e10 => ?_)
      refine ok_eq (fun _ => ?_) (fun d => by omega)
      rw [show p0.toInt.toNat = i by omega]
      refine ok_in (by omega) (ok_v ?_)
      refine ok_add (by omega) (fun x12 e12 => ?_)
      refine ok_in (by omega) (ok_in (by omega) (ok_v ?_))
      refine ok_add (by omega) (fun x14 e14 => ?_)
      refine ok_in (by omega) (ok_s (Or.inr (Or.inr ⟨i, k, hi, hk, h3, h4, by omega, by omega, ?_⟩)))
      rw [show u10.2 = 0 from ti_ofI (by omega), show x12.toInt.toNat = bbase w h i + k by omega, show x14.toInt.toNat = bbase w h i + k by omega]
    · refine ok_bm w_Mo_throwing (fun u10 e10 => ?_)
      refine ok_eq (fun d => by omega) (fun _ => ok_s (Or.inr (Or.inl ⟨⟨⟨i, k, hi, hk, h3, h4⟩, by omega⟩, by omega, ?_⟩)))
      rw [show u10.2 = 2 from ti_ofI (by omega)]
  refine ok_m cls (fun u hu => ok_m ref (fun v hv => ?_))
  rcases hu with ⟨a1, a2, a3, a4, a5, a6⟩ | ⟨a1, a2, a3, a4, a5, a6, a7⟩ | ⟨i, k, x, a1, a2, a3, a4, a5, a6, a7, a8, a9, a10, a11, a12⟩
  · rcases hv with ⟨_, b2⟩ | ⟨b1, _⟩ | ⟨i, k, b1, b2, b3, b4, b5, _⟩
    · subst b2
      try dsimp only
      exact ⟨a4.symm, a2, a3, Or.inl ⟨by rw [a4]; decide, a5, a6, rfl, rfl⟩⟩
    · exact absurd b1 a1
    · exact absurd ⟨⟨i, k, b1, b2, b3, b4⟩, b5⟩ a1
  · rcases hv with ⟨b1, _⟩ | ⟨_, _, b2⟩ | ⟨i, k, b1, b2, b3, b4, b5, b6, _⟩
    · exact absurd a1 b1
    · subst b2
      try dsimp only
      exact ⟨a5.symm, a3, a4, Or.inl ⟨by rw [a5]; decide, a6, a7, rfl, rfl⟩⟩
    · omega
  · rcases hv with ⟨b1, _⟩ | ⟨_, b1, _⟩ | ⟨i', k', b1, b2, b3, b4, b5, b6, b7⟩
    · exact absurd ⟨⟨i, k, a1, a2, a3, a4⟩, a5⟩ b1
    · omega
    · have e1 : i' = i := by omega
      have e2 : k' = k := by omega
      subst e1 e2 b7
      try dsimp only
      exact ⟨a9.symm, a7, a8, Or.inr ⟨a9, by omega, i', k', x, a1, a2, a5, a10, a11, a12, rfl, rfl⟩⟩
