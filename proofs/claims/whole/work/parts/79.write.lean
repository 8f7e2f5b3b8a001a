/-! Writing a head. -/
def OKW (m : Nat) (w h : Nat → Nat) (lw : Nat) (sc : Int32) (sN lN : Nat) (aF nF tF pF inu onu fiF miF LF KF WF cF brF toF : Nat → Int32) (P : Int32) (oF LeF lyF : Nat → Int32) (u : Nat × Nat × Int32 × Int32 × Nat × (Nat → Int32) × Int32 × Int32 × (Nat → Int32) × (Nat → Int32) × (Nat → Int32) × (Nat → Int32) × (Nat → Int32) × (Nat → Int32) × Nat × (Nat → Int32) × (Nat → Int32) × (Nat → Int32) × (Nat → Int32) × (Nat → Int32) × (Nat → Int32) × (Nat → Int32) × (Nat → Int32) × (Nat → Int32) × Int32 × Int32 × (Nat → Int64)) (v : Int32 × Int32 × Int32 × Int32 × Int32 × Int32 × Int32 × Int32 × Int32 × Int32 × (Nat → Int32) × (Nat → Int32) × (Nat → Int32) × (Nat → Int32) × (Nat → Int32) × (Nat → Int32) × (Nat → Int32) × (Nat → Int32) × (Nat → Int32) × (Nat → Int32) × (Nat → Int32) × (Nat → Int32)) : Prop :=
  ((lw < 255 ∧ ∀ b, b < bbase w h m → Rdy lw (fiF b).toInt (nF b).toInt (tF b).toInt (pF b).toInt) ∧ sc.toInt ≤ 131072 ∧ u.2.2.1 = 0 ∧ v.2.1 = 0 ∧ u.2.2.2.2.2.2.2.2.2.2.2.2.2.2.2.2.2.2.2.2.2.2.2.2.2.2 (0 : Int32).toNatClampNeg = v.1.toInt64 ∧ VS u.2.2.2.1 u.2.2.2.2.1 u.2.2.2.2.2.1 v.2.2.1 v.2.2.2.2.2.2.2.2.2.2.1 ∧ (16 * u.1 + sN ≤ u.2.2.2.2.1 ∧ u.2.1 + 2 * sN ≤ 2 * u.2.2.2.2.1) ∧ (u.2.2.2.2.2.2.2.1.toInt = lw + 1 ∧ u.2.2.2.2.2.2.1 = 0 ∧ u.2.2.2.2.2.2.2.2.2.2.2.2.2.2.1 = lN) ∧ (∀ b, b < bbase w h m → u.2.2.2.2.2.2.2.2.1 b = v.2.2.2.2.2.2.2.2.2.2.2.2.2.2.2.2.2.2.1 b ∧ 3 ≤ (u.2.2.2.2.2.2.2.2.1 b).toInt ∧ (u.2.2.2.2.2.2.2.2.1 b).toInt ≤ 16 ∧ (u.2.2.2.2.2.2.2.2.2.1 b).toInt = (aF b).toInt + (nF b).toInt ∧ u.2.2.2.2.2.2.2.2.2.2.1 b = 0 ∧ u.2.2.2.2.2.2.2.2.2.2.2.1 b = 0 ∧ u.2.2.2.2.2.2.2.2.2.2.2.2.1 b = 0 ∧ u.2.2.2.2.2.2.2.2.2.2.2.2.2.1 b = 0) ∧
      (SET m w h u.2.2.2.2.2.2.2.2.2.2.2.2.2.2.2.2.2.1 ∧ SET m w h u.2.2.2.2.2.2.2.2.2.2.2.2.2.2.2.2.2.2.2.2.2.1 ∧ ∀ i k, i < m → k < w i * h i → u.2.2.2.2.2.2.2.2.2.2.2.2.2.2.2.2.2.1 (nbase w h i + k) = inu (nbase w h i + k) ∧ u.2.2.2.2.2.2.2.2.2.2.2.2.2.2.2.2.2.2.2.2.2.1 (nbase w h i + k) = onu (nbase w h i + k)) ∧ (TR (nbase w h m) (rho w h 0) u.2.2.2.2.2.2.2.2.2.2.2.2.2.2.2.2.2.2.1 v.2.2.2.2.2.2.2.2.2.2.2.2.2.1 ∧ TR (nbase w h m) (rho w h 0) u.2.2.2.2.2.2.2.2.2.2.2.2.2.2.2.2.2.2.2.1 v.2.2.2.2.2.2.2.2.2.2.2.2.2.2.1 ∧ TSafe (nbase w h m) (lw + 1) u.2.2.2.2.2.2.2.2.2.2.2.2.2.2.2.2.2.2.1 u.2.2.2.2.2.2.2.2.2.2.2.2.2.2.2.2.2.2.2.1 ∧ NumInv (nbase w h m) u.2.2.2.2.2.2.2.2.2.2.2.2.2.2.2.2.2.1 u.2.2.2.2.2.2.2.2.2.2.2.2.2.2.2.2.2.2.1 u.2.2.2.2.2.2.2.2.2.2.2.2.2.2.2.2.2.2.2.1) ∧ (TR (nbase w h m) (rho w h 6144) u.2.2.2.2.2.2.2.2.2.2.2.2.2.2.2.2.2.2.2.2.2.2.1 v.2.2.2.2.2.2.2.2.2.2.2.2.2.1 ∧ TR (nbase w h m) (rho w h 6144) u.2.2.2.2.2.2.2.2.2.2.2.2.2.2.2.2.2.2.2.2.2.2.2.1 v.2.2.2.2.2.2.2.2.2.2.2.2.2.2.1 ∧ TSafe (nbase w h m) 74 u.2.2.2.2.2.2.2.2.2.2.2.2.2.2.2.2.2.2.2.2.2.2.1 u.2.2.2.2.2.2.2.2.2.2.2.2.2.2.2.2.2.2.2.2.2.2.2.1 ∧ NumInv (nbase w h m) u.2.2.2.2.2.2.2.2.2.2.2.2.2.2.2.2.2.2.2.2.2.1 u.2.2.2.2.2.2.2.2.2.2.2.2.2.2.2.2.2.2.2.2.2.2.1 u.2.2.2.2.2.2.2.2.2.2.2.2.2.2.2.2.2.2.2.2.2.2.2.1) ∧ (∀ x, 12288 ≤ x → v.2.2.2.2.2.2.2.2.2.2.2.2.2.1 x = LF x ∧ v.2.2.2.2.2.2.2.2.2.2.2.2.2.2.1 x = KF x) ∧ (∀ x, bbase w h m ≤ x → v.2.2.2.2.2.2.2.2.2.2.2.2.2.2.2.2.2.2.1 x = WF x) ∧ (v.2.2.2.2.2.2.2.2.2.2.2.1 = fiF ∧ v.2.2.2.2.2.2.2.2.2.2.2.2.1 = miF) ∧ (∀ j, j < 1024 → (v.2.2.2.2.2.2.2.2.2.2.2.2.2.2.2.2.1 j).toInt = (cF j).toInt + (brF j).toInt ∧ v.2.2.2.2.2.2.2.2.2.2.2.2.2.2.2.1 j = 0) ∧ (∀ j, 1024 ≤ j → v.2.2.2.2.2.2.2.2.2.2.2.2.2.2.2.2.1 j = cF j ∧ v.2.2.2.2.2.2.2.2.2.2.2.2.2.2.2.1 j = brF j) ∧ (0 ≤ v.2.2.2.1.toInt ∧ Kept 0 1024 oF LeF P.toInt.toNat v.2.2.2.2.2.2.2.2.2.2.2.2.2.2.2.2.2.2.2.1 v.2.2.2.2.2.2.2.2.2.2.2.2.2.2.2.2.2.2.2.2.1 v.2.2.2.1.toInt.toNat) ∧ (∀ j : Nat, v.2.2.2.2.2.2.2.2.2.2.2.2.2.2.2.2.2.1 j = if j < 1024 then 0 else toF j) ∧ (v.2.2.2.2.2.2.2.2.2.2.2.2.2.2.2.2.2.2.2.2.2 0 = u.2.2.2.2.2.2.2.1 ∧ v.2.2.2.2.2.2.2.2.2.2.2.2.2.2.2.2.2.2.2.2.2 1 = lyF 1))
theorem w_write102 {F : Nat} (hF : 1000000 ≤ F) {th size P wr bg en rm wg ct : Int32} {B fiF miF LF KF cF brF toF WF oF LeF lyF : Nat → Int32} (hP : 0 ≤ P.toInt ∧ P.toInt ≤ 8200) (hc : ∀ j, j < 1024 → 0 ≤ (cF j).toInt ∧ (cF j).toInt ≤ 1000 ∧ 0 ≤ (brF j).toInt ∧ (brF j).toInt ≤ 1000) :
    Ok (f_Mo_write_102 F 2048 2048 2048 8200 8200 F th size P wr bg en rm wg ct B fiF miF LF KF brF cF toF WF oF LeF lyF 0) (fun v => ∃ (x P' : Int32) (br' c' to' o' Le' : Nat → Int32), v = (x, th, size, P', wr, bg, en, rm, wg, ct, B, fiF, miF, LF, KF, br', c', to', WF, o', Le', lyF) ∧ x = size - bg ∧ (∀ j, j < 1024 → (c' j).toInt = (cF j).toInt + (brF j).toInt ∧ br' j = 0) ∧ (∀ j, 1024 ≤ j → c' j = cF j ∧ br' j = brF j) ∧ 0 ≤ P'.toInt ∧ Kept 0 1024 oF LeF P.toInt.toNat o' Le' P'.toInt.toNat ∧ (∀ j : Nat, to' j = if j < 1024 then 0 else toF j)) := by
  have L := lits
  have l1024 : (1024 : Int32).toInt = 1024 := by decide
  have key : ∀ (n : Nat) (br1 c1 : Nat → Int32) (v2 : Int32), 0 ≤ v2.toInt → v2.toInt ≤ 1024 → 1024 < v2.toInt + n → (∀ j : Nat, (j : Int) < v2.toInt → (c1 j).toInt = (cF j).toInt + (brF j).toInt ∧ br1 j = 0) → (∀ j : Nat, v2.toInt ≤ j → c1 j = cF j ∧ br1 j = brF j) → Ok (f_Mo_write_102 F 2048 2048 2048 8200 8200 n th size P wr bg en rm wg ct B fiF miF LF KF br1 c1 toF WF oF LeF lyF v2) (fun v => ∃ (x P' : Int32) (br' c' to' o' Le' : Nat → Int32), v = (x, th, size, P', wr, bg, en, rm, wg, ct, B, fiF, miF, LF, KF, br', c', to', WF, o', Le', lyF) ∧ x = size - bg ∧ (∀ j, j < 1024 → (c' j).toInt = (cF j).toInt + (brF j).toInt ∧ br' j = 0) ∧ (∀ j, 1024 ≤ j → c' j = cF j ∧ br' j = brF j) ∧ 0 ≤ P'.toInt ∧ Kept 0 1024 oF LeF P.toInt.toNat o' Le' P'.toInt.toNat ∧ (∀ j : Nat, to' j = if j < 1024 then 0 else toF j)) := by
    intro n
    induction n with
    | zero => intro br1 c1 v2 h1 h2 h3; omega
    | succ n ih =>
      intro br1 c1 v2 h1 h2 h3 h4 h5
      simp only [f_Mo_write_102, g_Mo_write_102, clamp_eq]
      refine ok_le (fun c => ?_) (fun c => ?_)
      · refine ok_bm (w_Mo_forget hF ⟨hP.1, hP.2, hP.2, by omega⟩ ⟨by omega, by omega, by omega, by omega⟩) (fun u12 e12 => ok_v (ok_s ?_))
        rw [L.2.1, l1024] at e12
        try dsimp only
        refine ⟨_, _, _, _, _, _, _, rfl, rfl, fun j hj => h4 j (by omega), fun j hj => h5 j (by omega), e12.1, e12.2.1, fun j => ?_⟩
        rw [e12.2.2 j]
        by_cases q : j < 1024
        · rw [if_pos (by omega), if_pos q]
        · rw [if_neg (by omega), if_neg q]
      · have hcv := hc v2.toInt.toNat (by omega)
        have h5v := h5 v2.toInt.toNat (by omega)
        rw [h5v.1, h5v.2]
        refine ok_in (by omega) (ok_v ?_)
        refine ok_in (by omega) (ok_v ?_)
        refine ok_add (by omega) (fun x16 e16 => ?_)
        refine ok_in (by omega) (ok_in (by omega) ?_)
        refine ok_add (by omega) (fun x17 e17 => ih _ _ x17 (by omega) (by omega) (by omega) (fun j hj => ?_) (fun j hj => ?_))
        · by_cases q : j = v2.toInt.toNat
          · rw [q, upd_is, upd_is]; exact ⟨by omega, rfl⟩
          · rw [upd_no q, upd_no q]; exact h4 j (by omega)
        · rw [upd_no (by omega), upd_no (by omega)]; exact h5 j (by omega)
  exact key F brF cF 0 (by omega) (by omega) (by omega) (fun j hj => by omega) (fun _ _ => ⟨rfl, rfl⟩)
set_option maxHeartbeats 4000000 in
theorem s_write {F : Nat} (hF : 1000000 ≤ F) {m : Nat} {w h : Nat → Nat} {lw : Nat} {sc cn nodes st lc ly g r th bds size P wr bg en rm wg ct : Int32} {sN leN abN wN aN nN fN pN tN lN iP iN iL iK oP oN oL oK outN : Nat} {sR bF leF abF wF aF nF fF pF tF lF ip inu il ik op onu ol ok B beF wiF hiF fiF miF LF KF brF cF toF WF oF LeF lyF : Nat → Int32} {out : Nat → Int64}
    (hG : Geo m w h) (hA : GA m w h abF) (hL : GL m w h leF) (hm : cn.toInt = m ∧ bds.toInt = m ∧ nodes.toInt = nbase w h m) (hb : ∀ j, j ≤ m → (bF j).toInt = bbase w h j ∧ (beF j).toInt = bbase w h j) (hwi : ∀ i, i < m → (wiF i).toInt = w i ∧ (hiF i).toInt = h i) (hs : bbase w h m ≤ leN ∧ nbase w h m ≤ abN) (hZ : VZ (bbase w h m) (nbase w h m) wN aN nN fN pN tN lN iP iN iL iK oP oN oL oK) (ho : outN = 1) (hS : VS sc sN sR size B) (hly : lyF 0 = ly ∧ ly.toInt = lw)
    (hLI : LI (bbase w h m) lc.toInt fF pF ∧ lc.toInt ≤ lN) (hI : VWb (bbase w h m) lw st wF aF nF pF tF cF WF brF fiF miF toF) (hn : VWn m w h inu onu fiF miF) (ht : VWt m w h lw inu il ik onu ol ok LF KF) (hl : VWl (bbase w h m) fF lF P oF LeF) (hd : VWd (bbase w h m) cF WF brF fiF miF toF) (hVL : VL P oF toF) (hP : P.toInt ≤ 8200) :
    Ok (f_Law_write F sc sN sR cn nodes st 4 bF leN leF abN abF lc ly wN wF aN aF nN nF fN fF pN pF tN tF lN lF iP ip iN inu iL il iK ik oP op oN onu oL ol oK ok g r outN out) (fun u => Ok (f_Mo_write F th st bds size P wr bg en rm wg ct 262144 B 4 beF 3 wiF 3 hiF 2048 fiF 2048 miF 24576 LF 24576 KF 2048 brF 2048 cF 2048 toF 2048 WF 8200 oF 8200 LeF 2 lyF) (fun v => (¬ (lw < 255 ∧ ∀ b, b < bbase w h m → Rdy lw (fiF b).toInt (nF b).toInt (tF b).toInt (pF b).toInt) ∧ u = (1, 6, 1, sc, sN, sR, lc, ly, wF, aF, nF, fF, pF, tF, lN, lF, ip, inu, il, ik, op, onu, ol, ok, g, r, out) ∧ v = (0, 1, size, P, wr, bg, en, rm, wg, ct, B, fiF, miF, LF, KF, brF, cF, toF, WF, oF, LeF, lyF)) ∨ ((lw < 255 ∧ ∀ b, b < bbase w h m → Rdy lw (fiF b).toInt (nF b).toInt (tF b).toInt (pF b).toInt) ∧ 131072 < sc.toInt ∧ u = (1, 6, 2, sc, sN, sR, lc, ly, wF, aF, nF, fF, pF, tF, lN, lF, ip, inu, il, ik, op, onu, ol, ok, g, r, out) ∧ v = (0, 2, size, P, wr, bg, en, rm, wg, ct, B, fiF, miF, LF, KF, brF, cF, toF, WF, oF, LeF, lyF)) ∨ OKW m w h lw sc sN lN aF nF tF pF inu onu fiF miF LF KF WF cF brF toF P oF LeF lyF u v)) := by
  have L := lits
  have l13 : (131072 : Int32).toInt = 131072 := by decide
  have g3 := hG.1
  have hmax := hG.max
  have hnb := hG.2.2
  obtain ⟨z1, z2, z3, z4, z5, z6⟩ := hZ
  have hS0 := hS
  obtain ⟨s1, s2, s3, s4, s5, s6, s7, s8⟩ := hS
  subst s1
  have hwhole : Ok (f_Mo_isWhole F st bds 2 lyF 4 beF 2048 fiF 2048 brF 2048 toF 2048 cF) (fun u => (u.toInt = 1 ∧ (lw < 255 ∧ ∀ b, b < bbase w h m → Rdy lw (fiF b).toInt (nF b).toInt (tF b).toInt (pF b).toInt)) ∨ (u.toInt = 0 ∧ ¬ (lw < 255 ∧ ∀ b, b < bbase w h m → Rdy lw (fiF b).toInt (nF b).toInt (tF b).toInt (pF b).toInt))) := by
    refine ok_m (w_whole (pF := pF) (lw := lw) hF ⟨hm.2.1, by omega⟩ ⟨(hb m (Nat.le_refl _)).2, by omega⟩ (by rw [hly.1]; exact hly.2) (fun b hb' => ?_)) (fun u hu => ?_)
    · have := hI b hb'
      rw [this.1, this.2.1]
      try dsimp only
      exact ⟨this.2.2.2.2.2.2.2.2.2.2.2.2.2.1, by omega, by omega, by omega, this.2.2.2.2.2.2.1⟩
    · have e : (∀ b, b < bbase w h m → Rdy lw (fiF b).toInt (brF b).toInt (toF b).toInt (pF b).toInt) ↔ (∀ b, b < bbase w h m → Rdy lw (fiF b).toInt (nF b).toInt (tF b).toInt (pF b).toInt) := by
        constructor
        · intro q b hb'; have := q b hb'; rw [(hI b hb').2.1, (hI b hb').2.2.2.2.2.2.2.1] at this; exact this
        · intro q b hb'; rw [(hI b hb').2.1, (hI b hb').2.2.2.2.2.2.2.1]; exact q b hb'
      rw [e] at hu
      exact hu
  have hready := w_ready (lw := lw) (nN := nN) (tN := tN) (pN := pN) (nF := nF) (tF := tF) (pF := pF) hF hG hL hm.1 (fun j hj => (hb j hj).1) hly.2 ⟨hs.1, z5.1, z1.2.2.1, z1.2.2.2.2.2, z1.2.2.2.2.1⟩ (fun i k hi hk => (hn i k hi hk).1) (fun b hb' => by have := hI b hb'; exact ⟨this.2.2.2.2.2.2.2.2.2.2.2.2.2.1, this.2.2.2.2.2.2.2.2.2.2.2.2.2.2.1, this.2.2.2.1, this.2.2.2.2.2.2.2.2.2.1⟩)
  simp only [f_Law_write, f_Mo_write, g_Mo_write_15, g_Mo_write_32, g_Mo_write_33]
  by_cases hrd : (lw < 255 ∧ ∀ b, b < bbase w h m → Rdy lw (fiF b).toInt (nF b).toInt (tF b).toInt (pF b).toInt)
  case neg =>
    refine ok_bm (Q := fun u7 => u7 = (1, 6, 2, 0, sc, sN, sR, lc, ly, wF, aF, nF, fF, pF, tF, lN, lF, ip, inu, il, ik, op, onu, ol, ok, g, r)) ?_ (fun u7 e7 => ?_)
    · simp only [f_PH_write]
      refine ok_bm hready (fun u30 e30 => ?_)
      rcases e30 with q | q
      · exact absurd q.2 hrd
      · exact ok_eq (fun _ => ok_s rfl) (fun c => by omega)
    · subst e7
      refine ok_c (ok_neq (fun c => by simp at c) (fun _ => ok_neq (fun _ => ok_s ?_) (fun c => absurd rfl c)))
      refine ok_bm hwhole (fun u22 e22 => ?_)
      rcases e22 with q | q
      · exact absurd q.2 hrd
      · refine ok_eq (fun _ => ?_) (fun c => by omega)
        refine ok_eq (fun _ => ?_) (fun c => by omega)
        refine ok_bm w_Mo_throwing (fun u18 e18 => ?_)
        refine ok_eq (fun c => by omega) (fun _ => ok_s (Or.inl ⟨hrd, rfl, ?_⟩))
        rw [show u18.2 = 1 from ti_ofI (by omega)]
  case pos =>
    by_cases hfull : 131072 < sc.toInt
    case pos =>
      refine ok_bm (Q := fun u7 => u7 = (1, 6, 4, 0, sc, sN, sR, lc, ly, wF, aF, nF, fF, pF, tF, lN, lF, ip, inu, il, ik, op, onu, ol, ok, g, r)) ?_ (fun u7 e7 => ?_)
      · simp only [f_PH_write]
        refine ok_bm hready (fun u30 e30 => ?_)
        rcases e30 with q | q
        · refine ok_eq (fun c => by omega) (fun _ => ?_)
          exact ok_le (fun c => by omega) (fun _ => ok_s rfl)
        · exact absurd hrd q.2
      · subst e7
        refine ok_c (ok_neq (fun c => by simp at c) (fun _ => ok_neq (fun c => by simp at c) (fun _ => ok_neq (fun _ => ok_s ?_) (fun c => absurd rfl c))))
        refine ok_bm hwhole (fun u22 e22 => ?_)
        rcases e22 with q | q
        · refine ok_eq (fun c => by omega) (fun _ => ?_)
          refine ok_eq (fun c => by omega) (fun _ => ?_)
          refine ok_le (fun c => by omega) (fun _ => ?_)
          refine ok_bm w_Mo_throwing (fun u18 e18 => ?_)
          refine ok_eq (fun c => by omega) (fun _ => ok_s (Or.inr (Or.inl ⟨hrd, hfull, rfl, ?_⟩)))
          rw [show u18.2 = 2 from ti_ofI (by omega)]
        · exact absurd hrd q.2
    case neg =>
      -- the head is written
      have hlw : lw ≤ 254 := by omega
      have hleaf : ∀ i k, i < m → k < w i * h i → 0 ≤ (inu (nbase w h i + k)).toInt ∧ (inu (nbase w h i + k)).toInt ≤ 1000 ∧ 0 ≤ (onu (nbase w h i + k)).toInt ∧ (onu (nbase w h i + k)).toInt ≤ 1000 := by
        intro i k hi hk
        have h1 := hn i k hi hk
        have h2 := hI (bbase w h i + k) (by have := hG.wh hi; omega)
        have h3 := h2.2.2.2.2.2.2.2.2.2.2.2.2.2
        rw [h1.1, h1.2]
        try dsimp only
        refine ⟨?_, ?_, h3.2.2.1, by omega⟩
        · split <;> omega
        · split <;> omega
      obtain ⟨⟨t1, t2, t3⟩, ⟨t4, t5, t6⟩, t7⟩ := ht
      have main : ∀ inu' onu' : Nat → Int32, SET m w h inu' → SET m w h onu' → (∀ i k, i < m → k < w i * h i → inu' (nbase w h i + k) = inu (nbase w h i + k) ∧ onu' (nbase w h i + k) = onu (nbase w h i + k)) → NumInv (nbase w h m) inu' il ik → NumInv (nbase w h m) onu' ol ok → Ok (g_PH_write_80 F cn st 4 bF leN leF abN abF wN aN nN fN pN tN iP iN iL iK oP oN oL oK sc sN sR wF aF fF lN lF ip il ik op onu' ol ok g r lc ly inu' nF tF pF sc) (fun u7 => Ok (bd (f_Mo_throwing F th 0 0 0) fun u18 => if u18.1 = 0 then bd (f_Mo_codeHead F st bds sc P 1 sc sc 0 0 0 262144 B 4 beF 3 wiF 3 hiF 2048 fiF 2048 miF 24576 LF 24576 KF 2048 brF 2048 cF 2048 toF 2048 WF 8200 oF 8200 LeF 2 lyF) fun u19 => asm (vp_in 0 2) (letb (lyF (0 : Int32).toNatClampNeg) fun x20 => letb (x20 + 1) fun x21 => asm (vp_in 0 2) (f_Mo_write_102 F 2048 2048 2048 8200 8200 F u18.2 u19.2.1 u19.1 1 sc u19.2.1 u19.2.2.1 u19.2.2.2.1 u19.2.2.2.2.1 u19.2.2.2.2.2.1 u19.2.2.2.2.2.2.1 u19.2.2.2.2.2.2.2.1 u19.2.2.2.2.2.2.2.2.1 u19.2.2.2.2.2.2.2.2.2.1 u19.2.2.2.2.2.2.2.2.2.2.1 cF u19.2.2.2.2.2.2.2.2.2.2.2.1 u19.2.2.2.2.2.2.2.2.2.2.2.2.1 u19.2.2.2.2.2.2.2.2.2.2.2.2.2.1 u19.2.2.2.2.2.2.2.2.2.2.2.2.2.2 (upd lyF (0 : Int32).toNatClampNeg x21) 0)) else some (0, u18.2, sc, P, wr, bg, en, rm, wg, ct, B, fiF, miF, LF, KF, brF, cF, toF, WF, oF, LeF, lyF)) (fun v => ∀ o : Nat → Int64, o (0 : Int32).toNatClampNeg = u7.2.2.2.1.toInt64 → u7.2.2.1 = 0 ∧ OKW m w h lw sc sN lN aF nF tF pF inu onu fiF miF LF KF WF cF brF toF P oF LeF lyF (u7.1, u7.2.1, 0, u7.2.2.2.2.1, u7.2.2.2.2.2.1, u7.2.2.2.2.2.2.1, u7.2.2.2.2.2.2.2.1, u7.2.2.2.2.2.2.2.2.1, u7.2.2.2.2.2.2.2.2.2.1, u7.2.2.2.2.2.2.2.2.2.2.1, u7.2.2.2.2.2.2.2.2.2.2.2.1, u7.2.2.2.2.2.2.2.2.2.2.2.2.1, u7.2.2.2.2.2.2.2.2.2.2.2.2.2.1, u7.2.2.2.2.2.2.2.2.2.2.2.2.2.2.1, u7.2.2.2.2.2.2.2.2.2.2.2.2.2.2.2.1, u7.2.2.2.2.2.2.2.2.2.2.2.2.2.2.2.2.1, u7.2.2.2.2.2.2.2.2.2.2.2.2.2.2.2.2.2.1, u7.2.2.2.2.2.2.2.2.2.2.2.2.2.2.2.2.2.2.1, u7.2.2.2.2.2.2.2.2.2.2.2.2.2.2.2.2.2.2.2.1, u7.2.2.2.2.2.2.2.2.2.2.2.2.2.2.2.2.2.2.2.2.1, u7.2.2.2.2.2.2.2.2.2.2.2.2.2.2.2.2.2.2.2.2.2.1, u7.2.2.2.2.2.2.2.2.2.2.2.2.2.2.2.2.2.2.2.2.2.2.1, u7.2.2.2.2.2.2.2.2.2.2.2.2.2.2.2.2.2.2.2.2.2.2.2.1, u7.2.2.2.2.2.2.2.2.2.2.2.2.2.2.2.2.2.2.2.2.2.2.2.2.1, u7.2.2.2.2.2.2.2.2.2.2.2.2.2.2.2.2.2.2.2.2.2.2.2.2.2.1, u7.2.2.2.2.2.2.2.2.2.2.2.2.2.2.2.2.2.2.2.2.2.2.2.2.2.2, o) v)) := by
        intro inu' onu' hS1 hS2 hlv hN1 hN2
        have hCW : CW m w h (bbase w h m) lw st abF leF nF fF pF lF inu' onu' lc lN wiF hiF beF cF brF toF fiF miF oF LeF aF := by
          try dsimp only
          refine ⟨⟨hG, hA, hL, rfl, hlw⟩, hS1, hS2, ⟨hLI.1, hLI.2, z3.1, z3.2⟩, fun i hi => ⟨(hwi i hi).1, (hwi i hi).2, (hb i (by omega)).2⟩, fun i k hi hk => ?_, fun b hb' => ?_, fun b hb' k hk => ?_⟩
          · rw [(hlv i k hi hk).1, (hlv i k hi hk).2]; exact hn i k hi hk
          · have q := hI b hb'
            have q2 := hrd.2 b hb'
            unfold Rdy at q2
            try dsimp only
            refine ⟨q.1, q.2.1, q.2.2.1, q.2.2.2.1, q.2.2.2.2.1, q.2.2.2.2.2.1, q.2.2.2.2.2.2.1, ?_, q.2.2.2.2.2.2.2.2.2.2.2.2.2.1, q.2.2.2.2.2.2.2.2.2.2.2.2.2.2.1, q.2.2.2.2.2.2.2.2.2.2.2.2.2.2.2.1, q.2.2.2.2.2.2.2.2.2.2.2.2.2.2.2.2.1, q.2.2.2.2.2.2.2.2.2.2.2.2.2.2.2.2.2, fun z => ?_, fun z => ?_⟩
            · rw [q.2.2.2.2.2.2.2.1]; exact q2.2.2
            · have := q2.1 z; have := q.2.2.2.1; omega
            · have := q2.2.1 z; have := q.2.2.2.1; omega
          · have q := hI b hb'
            have q2 := (hrd.2 b hb').2.2
            have q3 := hVL.2.2 b (by omega)
            rw [q.2.2.2.2.2.2.2.1] at q3
            obtain ⟨p, p1, p2, p3⟩ := cnt_at (o := oF) (b := ((b : Nat) : Int)) (k := P.toInt.toNat) (i := k) (by omega)
            have q4 := hl p b (by omega) hb' p2
            rw [p3] at q4
            rw [← q4.1]
            try dsimp only
            exact ⟨q4.2.1, q4.2.2, p, by omega, p2, p3, rfl⟩
        simp only [g_PH_write_80, f_Sink_open]
        refine ok_b (ok_s ?_)
        dsimp only
        refine ok_swap (ok_bm w_Mo_throwing (fun u18 e18 => ?_))
        refine ok_eq (fun _ => ?_) (fun c => by omega)
        have hrel : RelW0 700000 0 8 sc sN sR sc sc 0 B := by
          try dsimp only
          refine ⟨s5, s6, s7, s2, Int.le_refl _, s3, s4, s8, ?_, Or.inl ⟨L.2.1, rfl, L.2.1, Or.inl ⟨by decide, fun z => by omega⟩⟩⟩
          have l8 : (8 : Int32).toInt = 8 := by decide
          omega
        refine ok_swap (ok_b2 (s_headW (L0 := LF) (K0 := KF) (WF0 := WF) hF hCW ⟨hs.1, hs.2, z1.1, z1.2.1, z1.2.2.1, z1.2.2.2.1, z1.2.2.2.2.1, z1.2.2.2.2.2, z4.1, z5.1, z5.2.1, z5.2.2.1, z4.2, z5.2.2.2.1, z5.2.2.2.2.1, z5.2.2.2.2.2⟩ ⟨hm.1, by omega⟩ (hb m (Nat.le_refl _)).1 hly.2 L.2.2.1 hm.2.1 (by rw [hly.1]; exact hly.2) (hb m (Nat.le_refl _)).2 L.2.1 (fun b hb' => by have q := hI b hb'; exact ⟨q.2.2.2.2.2.2.2.2.2.2.1, q.2.2.2.2.2.2.2.2.2.2.2.1, q.2.2.2.2.2.2.2.2.2.2.2.2.1⟩) (fun _ _ => rfl) ⟨t1, t2, t3.mono (by omega), hN1⟩ ⟨t4, t5, t6, hN2⟩ (fun _ _ => ⟨rfl, rfl⟩) hrel) (fun z y hq => ?_))
        unfold QHW at hq
        obtain ⟨⟨a1, a2, a3, a4, a5, a6, a7, a8, a9⟩, ⟨a10, a11⟩, ⟨b1, b2, b3, b4, b5, b6, b7, b8⟩, e1, q1, B1, hIW, hE⟩ := hq
        obtain ⟨i1, i2, i3, i4, ⟨i5, i6, i7, i8⟩, ⟨i9, i10, i11, i12⟩, i13, i14, i15⟩ := hIW
        refine ok_c ?_
        refine ok_bm (s_closeW (K := 0) (i15.less (by omega)) hE) (fun u23 e23 => ok_c ?_)
        obtain ⟨c1, c2, c3, c4, c5, c6, c7, c8, c9⟩ := e23
        refine ok_bm (w_emptyPacket hF ⟨hm.1, by omega⟩ (hb m (Nat.le_refl _)).1 ⟨z1.2.2.1, z1.2.2.2.1, z1.2.2.2.2.1, z1.2.2.2.2.2, by omega⟩) (fun u27 e27 => ?_)
        refine ok_add (by omega) (fun x28 e28 => ?_)
        refine ok_l (fun x29 e29 => ok_s ?_)
        refine ok_in (by omega) (ok_l (fun x20 e20 => ?_))
        have e20' : x20 = ly := by rw [e20]; exact hly.1
        refine ok_add (by rw [e20']; omega) (fun x21 e21 => ?_)
        refine ok_in (by omega) ?_
        rw [b1, b5, b6, b7, b8]
        refine ok_m (w_write102 hF ⟨hVL.1, hP⟩ (fun j hj => ?_)) (fun v hv => ?_)
        · by_cases q : j < bbase w h m
          · have := hI j q; rw [this.1, this.2.1]; omega
          · have := hd j (by omega) hj; omega
        obtain ⟨x, P', br', c', to', o', Le', ev, d1, d2, d3, d4, d5, d6⟩ := hv
        subst ev
        intro o hu
        try dsimp only
        refine ⟨rfl, ?_⟩
        unfold OKW
        dsimp only at hu ⊢
        try dsimp only
        refine ⟨hrd, by omega, rfl, ti_ofI (by omega), ?_, ⟨c3, by rw [c3]; exact c6, by rw [c3]; exact c7, by rw [c3]; exact c5, by omega, c4, c8, by rw [c3]; exact c9⟩, ⟨by omega, by omega⟩, ⟨by omega, e27.1, a7⟩, fun b hb' => ?_, ⟨by rw [a9]; exact hS1, hS2, fun i k hi hk => by rw [a9]; exact hlv i k hi hk⟩, ⟨i5, i6, i7, by rw [a9]; exact i8⟩, ⟨i9, i10, i11, i12⟩, i13, i2, ⟨b3, b4⟩, fun j hj => ⟨(d2 j hj).1, (d2 j hj).2⟩, fun j hj => d3 j hj, ⟨d4, d5⟩, d6, ?_, ?_⟩
        · rw [hu, e29, d1, c3]
        · have q := e27.2 b hb'
          try dsimp only
          exact ⟨(i1 b hb').1, (i1 b hb').2.1, (i1 b hb').2.2, i4 b hb', q.1, q.2.1, q.2.2.1, q.2.2.2⟩
        · have : x21 = x28 := ti_ofI (by rw [e21, e28, e20'])
          rw [this]; exact upd_is _ _ _
        · exact upd_no (by decide)
      refine ok_bs ?_
      simp only [f_PH_write]
      refine ok_bm hready (fun u30 e30 => ?_)
      rcases e30 with q | q
      rotate_left
      · exact absurd hrd q.2
      refine ok_eq (fun c => by omega) (fun _ => ?_)
      refine ok_le (fun _ => ?_) (fun c => by omega)
      have wrap : ∀ {X : Option (Nat × Nat × Nat × Int32 × Int32 × Nat × (Nat → Int32) × Int32 × Int32 × (Nat → Int32) × (Nat → Int32) × (Nat → Int32) × (Nat → Int32) × (Nat → Int32) × (Nat → Int32) × Nat × (Nat → Int32) × (Nat → Int32) × (Nat → Int32) × (Nat → Int32) × (Nat → Int32) × (Nat → Int32) × (Nat → Int32) × (Nat → Int32) × (Nat → Int32) × Int32 × Int32)}, Ok X (fun u7 => Ok (bd (f_Mo_throwing F th 0 0 0) fun u18 => if u18.1 = 0 then bd (f_Mo_codeHead F st bds sc P 1 sc sc 0 0 0 262144 B 4 beF 3 wiF 3 hiF 2048 fiF 2048 miF 24576 LF 24576 KF 2048 brF 2048 cF 2048 toF 2048 WF 8200 oF 8200 LeF 2 lyF) fun u19 => asm (vp_in 0 2) (letb (lyF (0 : Int32).toNatClampNeg) fun x20 => letb (x20 + 1) fun x21 => asm (vp_in 0 2) (f_Mo_write_102 F 2048 2048 2048 8200 8200 F u18.2 u19.2.1 u19.1 1 sc u19.2.1 u19.2.2.1 u19.2.2.2.1 u19.2.2.2.2.1 u19.2.2.2.2.2.1 u19.2.2.2.2.2.2.1 u19.2.2.2.2.2.2.2.1 u19.2.2.2.2.2.2.2.2.1 u19.2.2.2.2.2.2.2.2.2.1 u19.2.2.2.2.2.2.2.2.2.2.1 cF u19.2.2.2.2.2.2.2.2.2.2.2.1 u19.2.2.2.2.2.2.2.2.2.2.2.2.1 u19.2.2.2.2.2.2.2.2.2.2.2.2.2.1 u19.2.2.2.2.2.2.2.2.2.2.2.2.2.2 (upd lyF (0 : Int32).toNatClampNeg x21) 0)) else some (0, u18.2, sc, P, wr, bg, en, rm, wg, ct, B, fiF, miF, LF, KF, brF, cF, toF, WF, oF, LeF, lyF)) (fun v => ∀ o : Nat → Int64, o (0 : Int32).toNatClampNeg = u7.2.2.2.1.toInt64 → u7.2.2.1 = 0 ∧ OKW m w h lw sc sN lN aF nF tF pF inu onu fiF miF LF KF WF cF brF toF P oF LeF lyF (u7.1, u7.2.1, 0, u7.2.2.2.2.1, u7.2.2.2.2.2.1, u7.2.2.2.2.2.2.1, u7.2.2.2.2.2.2.2.1, u7.2.2.2.2.2.2.2.2.1, u7.2.2.2.2.2.2.2.2.2.1, u7.2.2.2.2.2.2.2.2.2.2.1, u7.2.2.2.2.2.2.2.2.2.2.2.1, u7.2.2.2.2.2.2.2.2.2.2.2.2.1, u7.2.2.2.2.2.2.2.2.2.2.2.2.2.1, u7.2.2.2.2.2.2.2.2.2.2.2.2.2.2.1, u7.2.2.2.2.2.2.2.2.2.2.2.2.2.2.2.1, u7.2.2.2.2.2.2.2.2.2.2.2.2.2.2.2.2.1, u7.2.2.2.2.2.2.2.2.2.2.2.2.2.2.2.2.2.1, u7.2.2.2.2.2.2.2.2.2.2.2.2.2.2.2.2.2.2.1, u7.2.2.2.2.2.2.2.2.2.2.2.2.2.2.2.2.2.2.2.1, u7.2.2.2.2.2.2.2.2.2.2.2.2.2.2.2.2.2.2.2.2.1, u7.2.2.2.2.2.2.2.2.2.2.2.2.2.2.2.2.2.2.2.2.2.1, u7.2.2.2.2.2.2.2.2.2.2.2.2.2.2.2.2.2.2.2.2.2.2.1, u7.2.2.2.2.2.2.2.2.2.2.2.2.2.2.2.2.2.2.2.2.2.2.2.1, u7.2.2.2.2.2.2.2.2.2.2.2.2.2.2.2.2.2.2.2.2.2.2.2.2.1, u7.2.2.2.2.2.2.2.2.2.2.2.2.2.2.2.2.2.2.2.2.2.2.2.2.2.1, u7.2.2.2.2.2.2.2.2.2.2.2.2.2.2.2.2.2.2.2.2.2.2.2.2.2.2, o) v)) → Ok X (fun u7 => Ok (bd (f_Mo_isWhole F st bds 2 lyF 4 beF 2048 fiF 2048 brF 2048 toF 2048 cF) fun u22 => if u22 = 0 then (if u22 = 0 then bd (f_Mo_throwing F th 1 0 0) fun u18 => if u18.1 = 0 then bd (f_Mo_codeHead F st bds sc P 1 sc sc 0 0 0 262144 B 4 beF 3 wiF 3 hiF 2048 fiF 2048 miF 24576 LF 24576 KF 2048 brF 2048 cF 2048 toF 2048 WF 8200 oF 8200 LeF 2 lyF) fun u19 => asm (vp_in 0 2) (letb (lyF (0 : Int32).toNatClampNeg) fun x20 => letb (x20 + 1) fun x21 => asm (vp_in 0 2) (f_Mo_write_102 F 2048 2048 2048 8200 8200 F u18.2 u19.2.1 u19.1 1 sc u19.2.1 u19.2.2.1 u19.2.2.2.1 u19.2.2.2.2.1 u19.2.2.2.2.2.1 u19.2.2.2.2.2.2.1 u19.2.2.2.2.2.2.2.1 u19.2.2.2.2.2.2.2.2.1 u19.2.2.2.2.2.2.2.2.2.1 u19.2.2.2.2.2.2.2.2.2.2.1 cF u19.2.2.2.2.2.2.2.2.2.2.2.1 u19.2.2.2.2.2.2.2.2.2.2.2.2.1 u19.2.2.2.2.2.2.2.2.2.2.2.2.2.1 u19.2.2.2.2.2.2.2.2.2.2.2.2.2.2 (upd lyF (0 : Int32).toNatClampNeg x21) 0)) else some (0, u18.2, sc, P, wr, bg, en, rm, wg, ct, B, fiF, miF, LF, KF, brF, cF, toF, WF, oF, LeF, lyF) else if sc ≤ 131072 then bd (f_Mo_throwing F th 1 0 0) fun u18 => if u18.1 = 0 then bd (f_Mo_codeHead F st bds sc P 1 sc sc 0 0 0 262144 B 4 beF 3 wiF 3 hiF 2048 fiF 2048 miF 24576 LF 24576 KF 2048 brF 2048 cF 2048 toF 2048 WF 8200 oF 8200 LeF 2 lyF) fun u19 => asm (vp_in 0 2) (letb (lyF (0 : Int32).toNatClampNeg) fun x20 => letb (x20 + 1) fun x21 => asm (vp_in 0 2) (f_Mo_write_102 F 2048 2048 2048 8200 8200 F u18.2 u19.2.1 u19.1 1 sc u19.2.1 u19.2.2.1 u19.2.2.2.1 u19.2.2.2.2.1 u19.2.2.2.2.2.1 u19.2.2.2.2.2.2.1 u19.2.2.2.2.2.2.2.1 u19.2.2.2.2.2.2.2.2.1 u19.2.2.2.2.2.2.2.2.2.1 u19.2.2.2.2.2.2.2.2.2.2.1 cF u19.2.2.2.2.2.2.2.2.2.2.2.1 u19.2.2.2.2.2.2.2.2.2.2.2.2.1 u19.2.2.2.2.2.2.2.2.2.2.2.2.2.1 u19.2.2.2.2.2.2.2.2.2.2.2.2.2.2 (upd lyF (0 : Int32).toNatClampNeg x21) 0)) else some (0, u18.2, sc, P, wr, bg, en, rm, wg, ct, B, fiF, miF, LF, KF, brF, cF, toF, WF, oF, LeF, lyF) else bd (f_Mo_throwing F th 1 1 0) fun u18 => if u18.1 = 0 then bd (f_Mo_codeHead F st bds sc P 1 sc sc 0 0 0 262144 B 4 beF 3 wiF 3 hiF 2048 fiF 2048 miF 24576 LF 24576 KF 2048 brF 2048 cF 2048 toF 2048 WF 8200 oF 8200 LeF 2 lyF) fun u19 => asm (vp_in 0 2) (letb (lyF (0 : Int32).toNatClampNeg) fun x20 => letb (x20 + 1) fun x21 => asm (vp_in 0 2) (f_Mo_write_102 F 2048 2048 2048 8200 8200 F u18.2 u19.2.1 u19.1 1 sc u19.2.1 u19.2.2.1 u19.2.2.2.1 u19.2.2.2.2.1 u19.2.2.2.2.2.1 u19.2.2.2.2.2.2.1 u19.2.2.2.2.2.2.2.1 u19.2.2.2.2.2.2.2.2.1 u19.2.2.2.2.2.2.2.2.2.1 u19.2.2.2.2.2.2.2.2.2.2.1 cF u19.2.2.2.2.2.2.2.2.2.2.2.1 u19.2.2.2.2.2.2.2.2.2.2.2.2.1 u19.2.2.2.2.2.2.2.2.2.2.2.2.2.1 u19.2.2.2.2.2.2.2.2.2.2.2.2.2.2 (upd lyF (0 : Int32).toNatClampNeg x21) 0)) else some (0, u18.2, sc, P, wr, bg, en, rm, wg, ct, B, fiF, miF, LF, KF, brF, cF, toF, WF, oF, LeF, lyF)) else (if u22 = 0 then bd (f_Mo_throwing F th 0 0 0) fun u18 => if u18.1 = 0 then bd (f_Mo_codeHead F st bds sc P 1 sc sc 0 0 0 262144 B 4 beF 3 wiF 3 hiF 2048 fiF 2048 miF 24576 LF 24576 KF 2048 brF 2048 cF 2048 toF 2048 WF 8200 oF 8200 LeF 2 lyF) fun u19 => asm (vp_in 0 2) (letb (lyF (0 : Int32).toNatClampNeg) fun x20 => letb (x20 + 1) fun x21 => asm (vp_in 0 2) (f_Mo_write_102 F 2048 2048 2048 8200 8200 F u18.2 u19.2.1 u19.1 1 sc u19.2.1 u19.2.2.1 u19.2.2.2.1 u19.2.2.2.2.1 u19.2.2.2.2.2.1 u19.2.2.2.2.2.2.1 u19.2.2.2.2.2.2.2.1 u19.2.2.2.2.2.2.2.2.1 u19.2.2.2.2.2.2.2.2.2.1 u19.2.2.2.2.2.2.2.2.2.2.1 cF u19.2.2.2.2.2.2.2.2.2.2.2.1 u19.2.2.2.2.2.2.2.2.2.2.2.2.1 u19.2.2.2.2.2.2.2.2.2.2.2.2.2.1 u19.2.2.2.2.2.2.2.2.2.2.2.2.2.2 (upd lyF (0 : Int32).toNatClampNeg x21) 0)) else some (0, u18.2, sc, P, wr, bg, en, rm, wg, ct, B, fiF, miF, LF, KF, brF, cF, toF, WF, oF, LeF, lyF) else if sc ≤ 131072 then bd (f_Mo_throwing F th 0 0 0) fun u18 => if u18.1 = 0 then bd (f_Mo_codeHead F st bds sc P 1 sc sc 0 0 0 262144 B 4 beF 3 wiF 3 hiF 2048 fiF 2048 miF 24576 LF 24576 KF 2048 brF 2048 cF 2048 toF 2048 WF 8200 oF 8200 LeF 2 lyF) fun u19 => asm (vp_in 0 2) (letb (lyF (0 : Int32).toNatClampNeg) fun x20 => letb (x20 + 1) fun x21 => asm (vp_in 0 2) (f_Mo_write_102 F 2048 2048 2048 8200 8200 F u18.2 u19.2.1 u19.1 1 sc u19.2.1 u19.2.2.1 u19.2.2.2.1 u19.2.2.2.2.1 u19.2.2.2.2.2.1 u19.2.2.2.2.2.2.1 u19.2.2.2.2.2.2.2.1 u19.2.2.2.2.2.2.2.2.1 u19.2.2.2.2.2.2.2.2.2.1 u19.2.2.2.2.2.2.2.2.2.2.1 cF u19.2.2.2.2.2.2.2.2.2.2.2.1 u19.2.2.2.2.2.2.2.2.2.2.2.2.1 u19.2.2.2.2.2.2.2.2.2.2.2.2.2.1 u19.2.2.2.2.2.2.2.2.2.2.2.2.2.2 (upd lyF (0 : Int32).toNatClampNeg x21) 0)) else some (0, u18.2, sc, P, wr, bg, en, rm, wg, ct, B, fiF, miF, LF, KF, brF, cF, toF, WF, oF, LeF, lyF) else bd (f_Mo_throwing F th 0 1 0) fun u18 => if u18.1 = 0 then bd (f_Mo_codeHead F st bds sc P 1 sc sc 0 0 0 262144 B 4 beF 3 wiF 3 hiF 2048 fiF 2048 miF 24576 LF 24576 KF 2048 brF 2048 cF 2048 toF 2048 WF 8200 oF 8200 LeF 2 lyF) fun u19 => asm (vp_in 0 2) (letb (lyF (0 : Int32).toNatClampNeg) fun x20 => letb (x20 + 1) fun x21 => asm (vp_in 0 2) (f_Mo_write_102 F 2048 2048 2048 8200 8200 F u18.2 u19.2.1 u19.1 1 sc u19.2.1 u19.2.2.1 u19.2.2.2.1 u19.2.2.2.2.1 u19.2.2.2.2.2.1 u19.2.2.2.2.2.2.1 u19.2.2.2.2.2.2.2.1 u19.2.2.2.2.2.2.2.2.1 u19.2.2.2.2.2.2.2.2.2.1 u19.2.2.2.2.2.2.2.2.2.2.1 cF u19.2.2.2.2.2.2.2.2.2.2.2.1 u19.2.2.2.2.2.2.2.2.2.2.2.2.1 u19.2.2.2.2.2.2.2.2.2.2.2.2.2.1 u19.2.2.2.2.2.2.2.2.2.2.2.2.2.2 (upd lyF (0 : Int32).toNatClampNeg x21) 0)) else some (0, u18.2, sc, P, wr, bg, en, rm, wg, ct, B, fiF, miF, LF, KF, brF, cF, toF, WF, oF, LeF, lyF))) (fun v => Ok (addc u7.1 u7.2.1 (if u7.2.2.1 = 0 then letb (u7.2.2.2.1.toInt64) fun x12 => asm (vp_in 0 outN) (some (0, 0, 0, u7.2.2.2.2.1, u7.2.2.2.2.2.1, u7.2.2.2.2.2.2.1, u7.2.2.2.2.2.2.2.1, u7.2.2.2.2.2.2.2.2.1, u7.2.2.2.2.2.2.2.2.2.1, u7.2.2.2.2.2.2.2.2.2.2.1, u7.2.2.2.2.2.2.2.2.2.2.2.1, u7.2.2.2.2.2.2.2.2.2.2.2.2.1, u7.2.2.2.2.2.2.2.2.2.2.2.2.2.1, u7.2.2.2.2.2.2.2.2.2.2.2.2.2.2.1, u7.2.2.2.2.2.2.2.2.2.2.2.2.2.2.2.1, u7.2.2.2.2.2.2.2.2.2.2.2.2.2.2.2.2.1, u7.2.2.2.2.2.2.2.2.2.2.2.2.2.2.2.2.2.1, u7.2.2.2.2.2.2.2.2.2.2.2.2.2.2.2.2.2.2.1, u7.2.2.2.2.2.2.2.2.2.2.2.2.2.2.2.2.2.2.2.1, u7.2.2.2.2.2.2.2.2.2.2.2.2.2.2.2.2.2.2.2.2.1, u7.2.2.2.2.2.2.2.2.2.2.2.2.2.2.2.2.2.2.2.2.2.1, u7.2.2.2.2.2.2.2.2.2.2.2.2.2.2.2.2.2.2.2.2.2.2.1, u7.2.2.2.2.2.2.2.2.2.2.2.2.2.2.2.2.2.2.2.2.2.2.2.1, u7.2.2.2.2.2.2.2.2.2.2.2.2.2.2.2.2.2.2.2.2.2.2.2.2.1, u7.2.2.2.2.2.2.2.2.2.2.2.2.2.2.2.2.2.2.2.2.2.2.2.2.2.1, u7.2.2.2.2.2.2.2.2.2.2.2.2.2.2.2.2.2.2.2.2.2.2.2.2.2.2, (vp_updL out (0 : Int32).toNatClampNeg x12))) else if u7.2.2.1 = 2 then some (0, 0, 1, u7.2.2.2.2.1, u7.2.2.2.2.2.1, u7.2.2.2.2.2.2.1, u7.2.2.2.2.2.2.2.1, u7.2.2.2.2.2.2.2.2.1, u7.2.2.2.2.2.2.2.2.2.1, u7.2.2.2.2.2.2.2.2.2.2.1, u7.2.2.2.2.2.2.2.2.2.2.2.1, u7.2.2.2.2.2.2.2.2.2.2.2.2.1, u7.2.2.2.2.2.2.2.2.2.2.2.2.2.1, u7.2.2.2.2.2.2.2.2.2.2.2.2.2.2.1, u7.2.2.2.2.2.2.2.2.2.2.2.2.2.2.2.1, u7.2.2.2.2.2.2.2.2.2.2.2.2.2.2.2.2.1, u7.2.2.2.2.2.2.2.2.2.2.2.2.2.2.2.2.2.1, u7.2.2.2.2.2.2.2.2.2.2.2.2.2.2.2.2.2.2.1, u7.2.2.2.2.2.2.2.2.2.2.2.2.2.2.2.2.2.2.2.1, u7.2.2.2.2.2.2.2.2.2.2.2.2.2.2.2.2.2.2.2.2.1, u7.2.2.2.2.2.2.2.2.2.2.2.2.2.2.2.2.2.2.2.2.2.1, u7.2.2.2.2.2.2.2.2.2.2.2.2.2.2.2.2.2.2.2.2.2.2.1, u7.2.2.2.2.2.2.2.2.2.2.2.2.2.2.2.2.2.2.2.2.2.2.2.1, u7.2.2.2.2.2.2.2.2.2.2.2.2.2.2.2.2.2.2.2.2.2.2.2.2.1, u7.2.2.2.2.2.2.2.2.2.2.2.2.2.2.2.2.2.2.2.2.2.2.2.2.2.1, u7.2.2.2.2.2.2.2.2.2.2.2.2.2.2.2.2.2.2.2.2.2.2.2.2.2.2, out) else if u7.2.2.1 = 4 then some (0, 0, 2, u7.2.2.2.2.1, u7.2.2.2.2.2.1, u7.2.2.2.2.2.2.1, u7.2.2.2.2.2.2.2.1, u7.2.2.2.2.2.2.2.2.1, u7.2.2.2.2.2.2.2.2.2.1, u7.2.2.2.2.2.2.2.2.2.2.1, u7.2.2.2.2.2.2.2.2.2.2.2.1, u7.2.2.2.2.2.2.2.2.2.2.2.2.1, u7.2.2.2.2.2.2.2.2.2.2.2.2.2.1, u7.2.2.2.2.2.2.2.2.2.2.2.2.2.2.1, u7.2.2.2.2.2.2.2.2.2.2.2.2.2.2.2.1, u7.2.2.2.2.2.2.2.2.2.2.2.2.2.2.2.2.1, u7.2.2.2.2.2.2.2.2.2.2.2.2.2.2.2.2.2.1, u7.2.2.2.2.2.2.2.2.2.2.2.2.2.2.2.2.2.2.1, u7.2.2.2.2.2.2.2.2.2.2.2.2.2.2.2.2.2.2.2.1, u7.2.2.2.2.2.2.2.2.2.2.2.2.2.2.2.2.2.2.2.2.1, u7.2.2.2.2.2.2.2.2.2.2.2.2.2.2.2.2.2.2.2.2.2.1, u7.2.2.2.2.2.2.2.2.2.2.2.2.2.2.2.2.2.2.2.2.2.2.1, u7.2.2.2.2.2.2.2.2.2.2.2.2.2.2.2.2.2.2.2.2.2.2.2.1, u7.2.2.2.2.2.2.2.2.2.2.2.2.2.2.2.2.2.2.2.2.2.2.2.2.1, u7.2.2.2.2.2.2.2.2.2.2.2.2.2.2.2.2.2.2.2.2.2.2.2.2.2.1, u7.2.2.2.2.2.2.2.2.2.2.2.2.2.2.2.2.2.2.2.2.2.2.2.2.2.2, out) else none)) (fun u => (¬ (lw < 255 ∧ ∀ b, b < bbase w h m → Rdy lw (fiF b).toInt (nF b).toInt (tF b).toInt (pF b).toInt) ∧ u = (1, 6, 1, sc, sN, sR, lc, ly, wF, aF, nF, fF, pF, tF, lN, lF, ip, inu, il, ik, op, onu, ol, ok, g, r, out) ∧ v = (0, 1, sc, P, wr, bg, en, rm, wg, ct, B, fiF, miF, LF, KF, brF, cF, toF, WF, oF, LeF, lyF)) ∨ ((lw < 255 ∧ ∀ b, b < bbase w h m → Rdy lw (fiF b).toInt (nF b).toInt (tF b).toInt (pF b).toInt) ∧ 131072 < sc.toInt ∧ u = (1, 6, 2, sc, sN, sR, lc, ly, wF, aF, nF, fF, pF, tF, lN, lF, ip, inu, il, ik, op, onu, ol, ok, g, r, out) ∧ v = (0, 2, sc, P, wr, bg, en, rm, wg, ct, B, fiF, miF, LF, KF, brF, cF, toF, WF, oF, LeF, lyF)) ∨ OKW m w h lw sc sN lN aF nF tF pF inu onu fiF miF LF KF WF cF brF toF P oF LeF lyF u v))) := by
        intro X hX
        refine ok_m hX (fun u7 hu7 => ?_)
        refine ok_bm hwhole (fun u22 e22 => ?_)
        rcases e22 with q | q
        rotate_left
        · exact absurd hrd q.2
        refine ok_eq (fun c => by omega) (fun _ => ?_)
        refine ok_eq (fun c => by omega) (fun _ => ?_)
        refine ok_le (fun _ => ?_) (fun c => by omega)
        refine ok_m hu7 (fun v hv => ?_)
        have e0 : u7.2.2.1 = 0 := (hv (fun _ => u7.2.2.2.1.toInt64) rfl).1
        refine ok_c (ok_neq (fun _ => ?_) (fun c => absurd e0 c))
        refine ok_v (ok_in (by omega) (ok_s (Or.inr (Or.inr ?_))))
        rw [Nat.zero_add, Nat.zero_add]
        exact (hv _ (out_is out _)).2
      refine ok_eq (fun c0 => ?_) (fun c0 => ?_)
      · have hl0 : lw = 0 := by omega
        refine ok_bm (w_settle hF ⟨hm.2.2, hs.2, z5.1, by omega⟩ (ga_in hG hA)) (fun u31 e31 => ?_)
        refine ok_bm (w_settle hF ⟨hm.2.2, hs.2, z5.2.2.2.1, by omega⟩ (ga_in hG hA)) (fun u32 e32 => ?_)
        obtain ⟨n1, y1, y2, y3⟩ := e31
        obtain ⟨n2, y4, y5, y6⟩ := e32
        have st1 := settled hG hA (fun i k hi hk => (hleaf i k hi hk).2.1) y1 y2 y3
        have st2 := settled hG hA (fun i k hi hk => (hleaf i k hi hk).2.2.2) y4 y5 y6
        rcases t7 with ⟨_, q0⟩ | ⟨q0, _⟩
        rotate_left
        · omega
        have pos1 : ∀ x, x < nbase w h m → 0 ≤ (u31 x).toInt := by
          intro x hx
          obtain ⟨i, l, px, py, b1, b2, b3, b4, b5⟩ := node_at hx
          rw [b5]
          exact (st1.2 i l px py b1 b2 b3 b4 0).mpr ⟨by omega, fun x0 y0 hx0 hy0 _ _ => by rw [st1.1 i _ b1 (xy_lt hx0 hy0)]; exact (hleaf i _ b1 (xy_lt hx0 hy0)).1⟩
        have pos2 : ∀ x, x < nbase w h m → 0 ≤ (u32 x).toInt := by
          intro x hx
          obtain ⟨i, l, px, py, b1, b2, b3, b4, b5⟩ := node_at hx
          rw [b5]
          exact (st2.2 i l px py b1 b2 b3 b4 0).mpr ⟨by omega, fun x0 y0 hx0 hy0 _ _ => by rw [st2.1 i _ b1 (xy_lt hx0 hy0)]; exact (hleaf i _ b1 (xy_lt hx0 hy0)).2.2.1⟩
        exact wrap (main u31 u32 st1.2 st2.2 (fun i k hi hk => ⟨st1.1 i k hi hk, st2.1 i k hi hk⟩) (fun x hx => by have := q0 x hx; rw [this.1, this.2.1, L.2.1]; exact ⟨fun z => by omega, fun _ => pos1 x hx⟩) (fun x hx => by have := q0 x hx; rw [this.2.2.1, this.2.2.2, L.2.1]; exact ⟨fun z => by omega, fun _ => pos2 x hx⟩))
      · rcases t7 with ⟨q0, _⟩ | ⟨q0, q1, q2, q3, q4⟩
        · omega
        · exact wrap (main inu onu q1 q2 (fun _ _ _ _ => ⟨rfl, rfl⟩) q3 q4)
