/-! Forgetting, and room for more. -/
theorem w_bringNone {F N1 N2 N3 N4 b nb : Nat} {f1 f2 f3 f4 : Nat → Int32} {p : Int32} (h : p.toInt = b ∧ b < nb ∧ nb ≤ N1 ∧ nb ≤ N2 ∧ nb ≤ N3 ∧ nb ≤ N4) : Ok (f_Side_bringNone F N1 f1 N2 f2 N3 f3 N4 f4 p) (fun u => u = (upd f1 b 0, upd f2 b 0, upd f3 b 0, upd f4 b 0)) := by
  simp only [f_Side_bringNone, clamp_eq, show p.toInt.toNat = b by omega]
  exact ok_in (by omega) (ok_in (by omega) (ok_in (by omega) (ok_in (by omega) (ok_s rfl))))
theorem w_emptyPacket {F : Nat} (hF : 1000000 ≤ F) {lc cn : Int32} {bN m nb N1 N2 N3 N4 : Nat} {bF f1 f2 f3 f4 : Nat → Int32} (hm : cn.toInt = m ∧ m < bN) (hnb : (bF m).toInt = nb) (h : nb ≤ N1 ∧ nb ≤ N2 ∧ nb ≤ N3 ∧ nb ≤ N4 ∧ nb ≤ 1024) :
    Ok (f_Side_emptyPacket F lc cn bN bF N1 f1 N2 f2 N3 f3 N4 f4) (fun u => u.1 = 0 ∧ ∀ b, b < nb → u.2.1 b = 0 ∧ u.2.2.1 b = 0 ∧ u.2.2.2.1 b = 0 ∧ u.2.2.2.2 b = 0) := by
  have L := lits
  have key : ∀ (n : Nat) (g1 g2 g3 g4 : Nat → Int32) (v : Int32), 0 ≤ v.toInt → v.toInt ≤ nb → nb < v.toInt + n → (∀ b : Nat, (b : Int) < v.toInt → g1 b = 0 ∧ g2 b = 0 ∧ g3 b = 0 ∧ g4 b = 0) → Ok (f_Side_emptyPacket_2 F cn bN bF N1 N2 N3 N4 n lc g1 g2 g3 g4 v) (fun u => u.1 = 0 ∧ ∀ b, b < nb → u.2.1 b = 0 ∧ u.2.2.1 b = 0 ∧ u.2.2.2.1 b = 0 ∧ u.2.2.2.2 b = 0) := by
    intro n
    induction n with
    | zero => intro g1 g2 g3 g4 v h1 h2 h3; omega
    | succ n ih =>
      intro g1 g2 g3 g4 v h1 h2 h3 h4
      simp only [f_Side_emptyPacket_2, g_Side_emptyPacket_2]
      refine ok_bm (w_blocks hm hnb) (fun u4 e4 => ?_)
      refine ok_le (fun _ => ok_s ⟨rfl, fun b hb => h4 b (by omega)⟩) (fun _ => ?_)
      refine ok_bm (w_bringNone (b := v.toInt.toNat) (nb := nb) ⟨by omega, by omega, by omega, by omega, by omega, by omega⟩) (fun u5 e5 => ?_)
      subst e5
      dsimp only
      refine ok_add (by omega) (fun x hx => ih _ _ _ _ x (by omega) (by omega) (by omega) (fun b hb => ?_))
      by_cases q : b = v.toInt.toNat
      · rw [q, upd_is, upd_is, upd_is, upd_is]; exact ⟨rfl, rfl, rfl, rfl⟩
      · rw [upd_no q, upd_no q, upd_no q, upd_no q]; exact h4 b (by omega)
  simp only [f_Side_emptyPacket]
  exact key F f1 f2 f3 f4 0 (by omega) (by omega) (by omega) (fun b hb => by omega)
def QT (nn f0 N1 N2 N3 : Nat) (given : Int32) (f1 f2 f3 : Nat → Int32) (u : Nat × Nat × Nat × (Nat → Int32) × Nat × (Nat → Int32) × Nat × (Nat → Int32)) : Prop :=
  16 * u.1 + (N1 + N2 + N3) ≤ u.2.2.1 + u.2.2.2.2.1 + u.2.2.2.2.2.2.1 ∧ u.2.1 + 2 * (N1 + N2 + N3) ≤ 2 * (u.2.2.1 + u.2.2.2.2.1 + u.2.2.2.2.2.2.1) ∧ (nn ≤ u.2.2.1 ∧ nn ≤ u.2.2.2.2.1 ∧ nn ≤ u.2.2.2.2.2.2.1) ∧ (16 ≤ u.2.2.1 ∧ 16 ≤ u.2.2.2.2.1 ∧ 16 ≤ u.2.2.2.2.2.2.1) ∧ (u.2.2.1 ≤ 4096 ∧ u.2.2.2.2.1 ≤ 4096 ∧ u.2.2.2.2.2.2.1 ≤ 4096) ∧ (∀ x, x < f0 → u.2.2.2.1 x = f1 x ∧ u.2.2.2.2.2.1 x = f2 x ∧ u.2.2.2.2.2.2.2 x = f3 x) ∧ (∀ x, f0 ≤ x → x < nn → u.2.2.2.1 x = given ∧ u.2.2.2.2.2.1 x = 0 ∧ u.2.2.2.2.2.2.2 x = 0)
theorem w_Tforget {F : Nat} (hF : 1000000 ≤ F) {nodes p0 p1 : Int32} {nn f0 N1 N2 N3 : Nat} {f1 f2 f3 : Nat → Int32} (hn : nodes.toInt = nn ∧ nn ≤ 2048) (h0 : p0.toInt = f0 ∧ f0 ≤ nn ∧ f0 ≤ N1 ∧ f0 ≤ N2 ∧ f0 ≤ N3) (h : 16 ≤ N1 ∧ N1 ≤ 4096 ∧ 16 ≤ N2 ∧ N2 ≤ 4096 ∧ 16 ≤ N3 ∧ N3 ≤ 4096) :
    Ok (f_Trees_forget F nodes N1 f1 N2 f2 N3 f3 p0 p1) (fun u => QT nn f0 N1 N2 N3 p1 f1 f2 f3 u) := by
  have L := lits
  simp only [f_Trees_forget]
  refine ok_bm (w_withRoom 2048 (by omega)) (fun u15 e15 => ok_c ?_)
  refine ok_bm (w_withRoom 2048 (by omega)) (fun u19 e19 => ok_c ?_)
  refine ok_bm (w_withRoom 2048 (by omega)) (fun u23 e23 => ok_c ?_)
  obtain ⟨a1, a2, a3, a4, a5⟩ := e15
  obtain ⟨b1, b2, b3, b4, b5⟩ := e19
  obtain ⟨c1, c2, c3, c4, c5⟩ := e23
  have key : ∀ (n : Nat) (g1 g2 g3 : Nat → Int32) (v : Int32), f0 ≤ v.toInt → v.toInt ≤ nn → nn < v.toInt + n → (∀ x, x < f0 → g1 x = f1 x ∧ g2 x = f2 x ∧ g3 x = f3 x) → (∀ x : Nat, f0 ≤ x → (x : Int) < v.toInt → g1 x = p1 ∧ g2 x = 0 ∧ g3 x = 0) → Ok (f_Trees_forget_56 F nodes n u15.2.2.1 g1 u19.2.2.1 g2 u23.2.2.1 g3 p1 v) (fun u => u.1 = 0 ∧ u.2.1 = 0 ∧ u.2.2.1 = u15.2.2.1 ∧ u.2.2.2.2.1 = u19.2.2.1 ∧ u.2.2.2.2.2.2.1 = u23.2.2.1 ∧ (∀ x, x < f0 → u.2.2.2.1 x = f1 x ∧ u.2.2.2.2.2.1 x = f2 x ∧ u.2.2.2.2.2.2.2 x = f3 x) ∧ (∀ x, f0 ≤ x → x < nn → u.2.2.2.1 x = p1 ∧ u.2.2.2.2.2.1 x = 0 ∧ u.2.2.2.2.2.2.2 x = 0)) := by
    intro n
    induction n with
    | zero => intro g1 g2 g3 v h1 h2 h3; omega
    | succ n ih =>
      intro g1 g2 g3 v h1 h2 h3 h4 h5
      simp only [f_Trees_forget_56, g_Trees_forget_56, clamp_eq]
      refine ok_le (fun _ => ok_s ⟨rfl, rfl, rfl, rfl, rfl, h4, fun x hx hx2 => h5 x hx (by omega)⟩) (fun _ => ?_)
      refine ok_in (by omega) (ok_in (by omega) (ok_in (by omega) ?_))
      refine ok_add (by omega) (fun x14 e14 => ih _ _ _ x14 (by omega) (by omega) (by omega) (fun x hx => ?_) (fun x hx hx2 => ?_))
      · rw [upd_no (by omega), upd_no (by omega), upd_no (by omega)]; exact h4 x hx
      · by_cases q : x = v.toInt.toNat
        · rw [q, upd_is, upd_is, upd_is]; exact ⟨rfl, rfl, rfl⟩
        · rw [upd_no q, upd_no q, upd_no q]; exact h5 x hx (by omega)
  refine ok_m (key F _ _ _ p0 (by omega) (by omega) (by omega) (fun x hx => ⟨a5 x (by omega), b5 x (by omega), c5 x (by omega)⟩) (fun x hx hx2 => by omega)) (fun u hu => ?_)
  obtain ⟨z1, z2, z3, z4, z5, z6, z7⟩ := hu
  unfold QT
  dsimp only
  rw [z3, z4, z5]
  try dsimp only
  exact ⟨by omega, by omega, ⟨by omega, by omega, by omega⟩, ⟨by omega, by omega, by omega⟩, ⟨by omega, by omega, by omega⟩, z6, z7⟩
def QSF (nb nn b0 f0 : Nat) (wF aF nF fF pF tF : Nat → Int32) (iN iL iK oN oL oK : Nat) (inu il ik onu ol ok : Nat → Int32) (u : Nat × Nat × (Nat → Int32) × (Nat → Int32) × (Nat → Int32) × (Nat → Int32) × (Nat → Int32) × (Nat → Int32) × Nat × (Nat → Int32) × Nat × (Nat → Int32) × Nat × (Nat → Int32) × Nat × (Nat → Int32) × Nat × (Nat → Int32) × Nat × (Nat → Int32)) : Prop :=
  16 * u.1 + (iN + iL + iK + (oN + oL + oK)) ≤ u.2.2.2.2.2.2.2.2.1 + u.2.2.2.2.2.2.2.2.2.2.1 + u.2.2.2.2.2.2.2.2.2.2.2.2.1 + (u.2.2.2.2.2.2.2.2.2.2.2.2.2.2.1 + u.2.2.2.2.2.2.2.2.2.2.2.2.2.2.2.2.1 + u.2.2.2.2.2.2.2.2.2.2.2.2.2.2.2.2.2.2.1) ∧ u.2.1 + 2 * (iN + iL + iK + (oN + oL + oK)) ≤ 2 * (u.2.2.2.2.2.2.2.2.1 + u.2.2.2.2.2.2.2.2.2.2.1 + u.2.2.2.2.2.2.2.2.2.2.2.2.1 + (u.2.2.2.2.2.2.2.2.2.2.2.2.2.2.1 + u.2.2.2.2.2.2.2.2.2.2.2.2.2.2.2.2.1 + u.2.2.2.2.2.2.2.2.2.2.2.2.2.2.2.2.2.2.1)) ∧ (nn ≤ u.2.2.2.2.2.2.2.2.1 ∧ 16 ≤ u.2.2.2.2.2.2.2.2.1 ∧ u.2.2.2.2.2.2.2.2.1 ≤ 4096 ∧ nn ≤ u.2.2.2.2.2.2.2.2.2.2.1 ∧ 16 ≤ u.2.2.2.2.2.2.2.2.2.2.1 ∧ u.2.2.2.2.2.2.2.2.2.2.1 ≤ 4096 ∧ nn ≤ u.2.2.2.2.2.2.2.2.2.2.2.2.1 ∧ 16 ≤ u.2.2.2.2.2.2.2.2.2.2.2.2.1 ∧ u.2.2.2.2.2.2.2.2.2.2.2.2.1 ≤ 4096 ∧ nn ≤ u.2.2.2.2.2.2.2.2.2.2.2.2.2.2.1 ∧ 16 ≤ u.2.2.2.2.2.2.2.2.2.2.2.2.2.2.1 ∧ u.2.2.2.2.2.2.2.2.2.2.2.2.2.2.1 ≤ 4096 ∧ nn ≤ u.2.2.2.2.2.2.2.2.2.2.2.2.2.2.2.2.1 ∧ 16 ≤ u.2.2.2.2.2.2.2.2.2.2.2.2.2.2.2.2.1 ∧ u.2.2.2.2.2.2.2.2.2.2.2.2.2.2.2.2.1 ≤ 4096 ∧ nn ≤ u.2.2.2.2.2.2.2.2.2.2.2.2.2.2.2.2.2.2.1 ∧ 16 ≤ u.2.2.2.2.2.2.2.2.2.2.2.2.2.2.2.2.2.2.1 ∧ u.2.2.2.2.2.2.2.2.2.2.2.2.2.2.2.2.2.2.1 ≤ 4096) ∧
  (∀ b, b < b0 → u.2.2.1 b = wF b ∧ u.2.2.2.1 b = aF b ∧ u.2.2.2.2.1 b = nF b ∧ u.2.2.2.2.2.1 b = fF b ∧ u.2.2.2.2.2.2.1 b = pF b ∧ u.2.2.2.2.2.2.2.1 b = tF b) ∧ (∀ b, b0 ≤ b → b < nb → u.2.2.1 b = 3 ∧ u.2.2.2.1 b = 0 ∧ u.2.2.2.2.1 b = 0 ∧ u.2.2.2.2.2.1 b = 0 ∧ u.2.2.2.2.2.2.1 b = 0 ∧ u.2.2.2.2.2.2.2.1 b = 0) ∧
  (∀ x, x < f0 → u.2.2.2.2.2.2.2.2.2.1 x = inu x ∧ u.2.2.2.2.2.2.2.2.2.2.2.1 x = il x ∧ u.2.2.2.2.2.2.2.2.2.2.2.2.2.1 x = ik x ∧ u.2.2.2.2.2.2.2.2.2.2.2.2.2.2.2.1 x = onu x ∧ u.2.2.2.2.2.2.2.2.2.2.2.2.2.2.2.2.2.1 x = ol x ∧ u.2.2.2.2.2.2.2.2.2.2.2.2.2.2.2.2.2.2.2 x = ok x) ∧ (∀ x, f0 ≤ x → x < nn → u.2.2.2.2.2.2.2.2.2.1 x = 1000 ∧ u.2.2.2.2.2.2.2.2.2.2.2.1 x = 0 ∧ u.2.2.2.2.2.2.2.2.2.2.2.2.2.1 x = 0 ∧ u.2.2.2.2.2.2.2.2.2.2.2.2.2.2.2.1 x = 0 ∧ u.2.2.2.2.2.2.2.2.2.2.2.2.2.2.2.2.2.1 x = 0 ∧ u.2.2.2.2.2.2.2.2.2.2.2.2.2.2.2.2.2.2.2 x = 0)
theorem w_Sforget {F : Nat} (hF : 1000000 ≤ F) {cn nodes p0 p1 : Int32} {bN m nb nn b0 f0 wN aN nN fN pN tN iN iL iK oN oL oK : Nat} {bF wF aF nF fF pF tF inu il ik onu ol ok : Nat → Int32} (hm : cn.toInt = m ∧ m < bN) (hnb : (bF m).toInt = nb) (hn : nodes.toInt = nn ∧ nn ≤ 2048) (hp : p0.toInt = b0 ∧ b0 ≤ nb ∧ p1.toInt = f0 ∧ f0 ≤ nn)
    (hz : nb ≤ wN ∧ nb ≤ aN ∧ nb ≤ nN ∧ nb ≤ fN ∧ nb ≤ pN ∧ nb ≤ tN ∧ nb ≤ 1024) (ht : f0 ≤ iN ∧ f0 ≤ iL ∧ f0 ≤ iK ∧ f0 ≤ oN ∧ f0 ≤ oL ∧ f0 ≤ oK) (ht2 : 16 ≤ iN ∧ iN ≤ 4096 ∧ 16 ≤ iL ∧ iL ≤ 4096 ∧ 16 ≤ iK ∧ iK ≤ 4096 ∧ 16 ≤ oN ∧ oN ≤ 4096 ∧ 16 ≤ oL ∧ oL ≤ 4096 ∧ 16 ≤ oK ∧ oK ≤ 4096) :
    Ok (f_Side_forget F cn nodes bN bF wN wF aN aF nN nF fN fF pN pF tN tF iN inu iL il iK ik oN onu oL ol oK ok p0 p1) (fun u => QSF nb nn b0 f0 wF aF nF fF pF tF iN iL iK oN oL oK inu il ik onu ol ok u) := by
  have L := lits
  simp only [f_Side_forget]
  refine ok_bm (w_Tforget (nn := nn) (f0 := f0) hF hn ⟨hp.2.2.1, hp.2.2.2, by omega, by omega, by omega⟩ (by omega)) (fun u19 e19 => ok_c ?_)
  refine ok_bm (w_Tforget (nn := nn) (f0 := f0) hF hn ⟨hp.2.2.1, hp.2.2.2, by omega, by omega, by omega⟩ (by omega)) (fun u25 e25 => ok_c ?_)
  unfold QT at e19 e25
  obtain ⟨a1, a2, a3, a4, a5, a6, a7⟩ := e19
  obtain ⟨c1, c2, c3, c4, c5, c6, c7⟩ := e25
  have key : ∀ (n : Nat) (g1 g2 g3 g4 g5 g6 : Nat → Int32) (v : Int32), b0 ≤ v.toInt → v.toInt ≤ nb → nb < v.toInt + n → (∀ b, b < b0 → g1 b = wF b ∧ g2 b = aF b ∧ g3 b = nF b ∧ g4 b = fF b ∧ g5 b = pF b ∧ g6 b = tF b) → (∀ b : Nat, b0 ≤ b → (b : Int) < v.toInt → g1 b = 3 ∧ g2 b = 0 ∧ g3 b = 0 ∧ g4 b = 0 ∧ g5 b = 0 ∧ g6 b = 0) →
      Ok (f_Side_forget_22 F cn bN bF wN aN nN fN pN tN n g1 g2 g3 g4 g5 g6 u19.2.2.1 u19.2.2.2.1 u19.2.2.2.2.1 u19.2.2.2.2.2.1 u19.2.2.2.2.2.2.1 u19.2.2.2.2.2.2.2 u25.2.2.1 u25.2.2.2.1 u25.2.2.2.2.1 u25.2.2.2.2.2.1 u25.2.2.2.2.2.2.1 u25.2.2.2.2.2.2.2 v) (fun u => ∃ g1 g2 g3 g4 g5 g6, u = (0, 0, g1, g2, g3, g4, g5, g6, u19.2.2.1, u19.2.2.2.1, u19.2.2.2.2.1, u19.2.2.2.2.2.1, u19.2.2.2.2.2.2.1, u19.2.2.2.2.2.2.2, u25.2.2.1, u25.2.2.2.1, u25.2.2.2.2.1, u25.2.2.2.2.2.1, u25.2.2.2.2.2.2.1, u25.2.2.2.2.2.2.2) ∧ (∀ b, b < b0 → g1 b = wF b ∧ g2 b = aF b ∧ g3 b = nF b ∧ g4 b = fF b ∧ g5 b = pF b ∧ g6 b = tF b) ∧ (∀ b, b0 ≤ b → b < nb → g1 b = 3 ∧ g2 b = 0 ∧ g3 b = 0 ∧ g4 b = 0 ∧ g5 b = 0 ∧ g6 b = 0)) := by
    intro n
    induction n with
    | zero => intro g1 g2 g3 g4 g5 g6 v h1 h2 h3; omega
    | succ n ih =>
      intro g1 g2 g3 g4 g5 g6 v h1 h2 h3 h4 h5
      simp only [f_Side_forget_22, g_Side_forget_22, clamp_eq]
      refine ok_bm (w_blocks hm hnb) (fun u4 e4 => ?_)
      refine ok_le (fun _ => ok_s ⟨g1, g2, g3, g4, g5, g6, rfl, h4, fun b hb hb2 => h5 b hb (by omega)⟩) (fun _ => ?_)
      refine ok_in (by omega) (ok_in (by omega) ?_)
      refine ok_bm (w_bringNone (b := v.toInt.toNat) (nb := nb) ⟨by omega, by omega, by omega, by omega, by omega, by omega⟩) (fun u5 e5 => ?_)
      subst e5
      dsimp only
      refine ok_add (by omega) (fun x hx => ih _ _ _ _ _ _ x (by omega) (by omega) (by omega) (fun b hb => ?_) (fun b hb hb2 => ?_))
      · rw [upd_no (by omega), upd_no (by omega), upd_no (by omega), upd_no (by omega), upd_no (by omega), upd_no (by omega)]; exact h4 b hb
      · by_cases q : b = v.toInt.toNat
        · rw [q, upd_is, upd_is, upd_is, upd_is, upd_is, upd_is]; exact ⟨rfl, rfl, rfl, rfl, rfl, rfl⟩
        · rw [upd_no q, upd_no q, upd_no q, upd_no q, upd_no q, upd_no q]; exact h5 b hb (by omega)
  refine ok_m (key F wF aF nF fF pF tF p0 (by omega) (by omega) (by omega) (fun _ _ => ⟨rfl, rfl, rfl, rfl, rfl, rfl⟩) (fun b hb hb2 => by omega)) (fun u hu => ?_)
  obtain ⟨g1, g2, g3, g4, g5, g6, rfl, z1, z2⟩ := hu
  unfold QSF
  dsimp only
  try dsimp only
  refine ⟨by omega, by omega, by omega, z1, z2, fun x hx => ⟨(a6 x hx).1, (a6 x hx).2.1, (a6 x hx).2.2, (c6 x hx).1, (c6 x hx).2.1, (c6 x hx).2.2⟩, fun x hx hx2 => ⟨(a7 x hx hx2).1, (a7 x hx hx2).2.1, (a7 x hx hx2).2.2, (c7 x hx hx2).1, (c7 x hx hx2).2.1, (c7 x hx hx2).2.2⟩⟩
def QWE (nb nn b0 f0 : Nat) (wN aN nN fN pN tN : Nat) (wF aF nF fF pF tF : Nat → Int32) (iN iL iK oN oL oK : Nat) (inu il ik onu ol ok : Nat → Int32) (u : Nat × Nat × Nat × (Nat → Int32) × Nat × (Nat → Int32) × Nat × (Nat → Int32) × Nat × (Nat → Int32) × Nat × (Nat → Int32) × Nat × (Nat → Int32) × Nat × (Nat → Int32) × Nat × (Nat → Int32) × Nat × (Nat → Int32) × Nat × (Nat → Int32) × Nat × (Nat → Int32) × Nat × (Nat → Int32)) : Prop :=
  16 * u.1 + (wN + aN + nN + fN + pN + tN + (iN + iL + iK + (oN + oL + oK))) ≤ u.2.2.1 + u.2.2.2.2.1 + u.2.2.2.2.2.2.1 + u.2.2.2.2.2.2.2.2.1 + u.2.2.2.2.2.2.2.2.2.2.1 + u.2.2.2.2.2.2.2.2.2.2.2.2.1 + (u.2.2.2.2.2.2.2.2.2.2.2.2.2.2.1 + u.2.2.2.2.2.2.2.2.2.2.2.2.2.2.2.2.1 + u.2.2.2.2.2.2.2.2.2.2.2.2.2.2.2.2.2.2.1 + (u.2.2.2.2.2.2.2.2.2.2.2.2.2.2.2.2.2.2.2.2.1 + u.2.2.2.2.2.2.2.2.2.2.2.2.2.2.2.2.2.2.2.2.2.2.1 + u.2.2.2.2.2.2.2.2.2.2.2.2.2.2.2.2.2.2.2.2.2.2.2.2.1)) ∧ u.2.1 + 2 * (wN + aN + nN + fN + pN + tN + (iN + iL + iK + (oN + oL + oK))) ≤ 2 * (u.2.2.1 + u.2.2.2.2.1 + u.2.2.2.2.2.2.1 + u.2.2.2.2.2.2.2.2.1 + u.2.2.2.2.2.2.2.2.2.2.1 + u.2.2.2.2.2.2.2.2.2.2.2.2.1 + (u.2.2.2.2.2.2.2.2.2.2.2.2.2.2.1 + u.2.2.2.2.2.2.2.2.2.2.2.2.2.2.2.2.1 + u.2.2.2.2.2.2.2.2.2.2.2.2.2.2.2.2.2.2.1 + (u.2.2.2.2.2.2.2.2.2.2.2.2.2.2.2.2.2.2.2.2.1 + u.2.2.2.2.2.2.2.2.2.2.2.2.2.2.2.2.2.2.2.2.2.2.1 + u.2.2.2.2.2.2.2.2.2.2.2.2.2.2.2.2.2.2.2.2.2.2.2.2.1))) ∧ (nb ≤ u.2.2.1 ∧ 16 ≤ u.2.2.1 ∧ u.2.2.1 ≤ 2048 ∧ nb ≤ u.2.2.2.2.1 ∧ 16 ≤ u.2.2.2.2.1 ∧ u.2.2.2.2.1 ≤ 2048 ∧ nb ≤ u.2.2.2.2.2.2.1 ∧ 16 ≤ u.2.2.2.2.2.2.1 ∧ u.2.2.2.2.2.2.1 ≤ 2048 ∧ nb ≤ u.2.2.2.2.2.2.2.2.1 ∧ 16 ≤ u.2.2.2.2.2.2.2.2.1 ∧ u.2.2.2.2.2.2.2.2.1 ≤ 2048 ∧ nb ≤ u.2.2.2.2.2.2.2.2.2.2.1 ∧ 16 ≤ u.2.2.2.2.2.2.2.2.2.2.1 ∧ u.2.2.2.2.2.2.2.2.2.2.1 ≤ 2048 ∧ nb ≤ u.2.2.2.2.2.2.2.2.2.2.2.2.1 ∧ 16 ≤ u.2.2.2.2.2.2.2.2.2.2.2.2.1 ∧ u.2.2.2.2.2.2.2.2.2.2.2.2.1 ≤ 2048) ∧ (nn ≤ u.2.2.2.2.2.2.2.2.2.2.2.2.2.2.1 ∧ 16 ≤ u.2.2.2.2.2.2.2.2.2.2.2.2.2.2.1 ∧ u.2.2.2.2.2.2.2.2.2.2.2.2.2.2.1 ≤ 4096 ∧ nn ≤ u.2.2.2.2.2.2.2.2.2.2.2.2.2.2.2.2.1 ∧ 16 ≤ u.2.2.2.2.2.2.2.2.2.2.2.2.2.2.2.2.1 ∧ u.2.2.2.2.2.2.2.2.2.2.2.2.2.2.2.2.1 ≤ 4096 ∧ nn ≤ u.2.2.2.2.2.2.2.2.2.2.2.2.2.2.2.2.2.2.1 ∧ 16 ≤ u.2.2.2.2.2.2.2.2.2.2.2.2.2.2.2.2.2.2.1 ∧ u.2.2.2.2.2.2.2.2.2.2.2.2.2.2.2.2.2.2.1 ≤ 4096 ∧ nn ≤ u.2.2.2.2.2.2.2.2.2.2.2.2.2.2.2.2.2.2.2.2.1 ∧ 16 ≤ u.2.2.2.2.2.2.2.2.2.2.2.2.2.2.2.2.2.2.2.2.1 ∧ u.2.2.2.2.2.2.2.2.2.2.2.2.2.2.2.2.2.2.2.2.1 ≤ 4096 ∧ nn ≤ u.2.2.2.2.2.2.2.2.2.2.2.2.2.2.2.2.2.2.2.2.2.2.1 ∧ 16 ≤ u.2.2.2.2.2.2.2.2.2.2.2.2.2.2.2.2.2.2.2.2.2.2.1 ∧ u.2.2.2.2.2.2.2.2.2.2.2.2.2.2.2.2.2.2.2.2.2.2.1 ≤ 4096 ∧ nn ≤ u.2.2.2.2.2.2.2.2.2.2.2.2.2.2.2.2.2.2.2.2.2.2.2.2.1 ∧ 16 ≤ u.2.2.2.2.2.2.2.2.2.2.2.2.2.2.2.2.2.2.2.2.2.2.2.2.1 ∧ u.2.2.2.2.2.2.2.2.2.2.2.2.2.2.2.2.2.2.2.2.2.2.2.2.1 ≤ 4096) ∧
  (∀ b, b < b0 → u.2.2.2.1 b = wF b ∧ u.2.2.2.2.2.1 b = aF b ∧ u.2.2.2.2.2.2.2.1 b = nF b ∧ u.2.2.2.2.2.2.2.2.2.1 b = fF b ∧ u.2.2.2.2.2.2.2.2.2.2.2.1 b = pF b ∧ u.2.2.2.2.2.2.2.2.2.2.2.2.2.1 b = tF b) ∧ (∀ b, b0 ≤ b → b < nb → u.2.2.2.1 b = 3 ∧ u.2.2.2.2.2.1 b = 0 ∧ u.2.2.2.2.2.2.2.1 b = 0 ∧ u.2.2.2.2.2.2.2.2.2.1 b = 0 ∧ u.2.2.2.2.2.2.2.2.2.2.2.1 b = 0 ∧ u.2.2.2.2.2.2.2.2.2.2.2.2.2.1 b = 0) ∧
  (∀ x, x < f0 → u.2.2.2.2.2.2.2.2.2.2.2.2.2.2.2.1 x = inu x ∧ u.2.2.2.2.2.2.2.2.2.2.2.2.2.2.2.2.2.1 x = il x ∧ u.2.2.2.2.2.2.2.2.2.2.2.2.2.2.2.2.2.2.2.1 x = ik x ∧ u.2.2.2.2.2.2.2.2.2.2.2.2.2.2.2.2.2.2.2.2.2.1 x = onu x ∧ u.2.2.2.2.2.2.2.2.2.2.2.2.2.2.2.2.2.2.2.2.2.2.2.1 x = ol x ∧ u.2.2.2.2.2.2.2.2.2.2.2.2.2.2.2.2.2.2.2.2.2.2.2.2.2 x = ok x) ∧ (∀ x, f0 ≤ x → x < nn → u.2.2.2.2.2.2.2.2.2.2.2.2.2.2.2.1 x = 1000 ∧ u.2.2.2.2.2.2.2.2.2.2.2.2.2.2.2.2.2.1 x = 0 ∧ u.2.2.2.2.2.2.2.2.2.2.2.2.2.2.2.2.2.2.2.1 x = 0 ∧ u.2.2.2.2.2.2.2.2.2.2.2.2.2.2.2.2.2.2.2.2.2.1 x = 0 ∧ u.2.2.2.2.2.2.2.2.2.2.2.2.2.2.2.2.2.2.2.2.2.2.2.1 x = 0 ∧ u.2.2.2.2.2.2.2.2.2.2.2.2.2.2.2.2.2.2.2.2.2.2.2.2.2 x = 0)
theorem w_welcome {F : Nat} (hF : 1000000 ≤ F) {cn nodes p0 p1 : Int32} {bN m nb nn b0 f0 wN aN nN fN pN tN iN iL iK oN oL oK : Nat} {bF wF aF nF fF pF tF inu il ik onu ol ok : Nat → Int32} (hm : cn.toInt = m ∧ m < bN) (hnb : (bF m).toInt = nb) (hn : nodes.toInt = nn ∧ nn ≤ 2048) (hp : p0.toInt = b0 ∧ b0 ≤ nb ∧ p1.toInt = f0 ∧ f0 ≤ nn)
    (hz : b0 ≤ wN ∧ b0 ≤ aN ∧ b0 ≤ nN ∧ b0 ≤ fN ∧ b0 ≤ pN ∧ b0 ≤ tN ∧ nb ≤ 1024) (hz2 : 16 ≤ wN ∧ wN ≤ 2048 ∧ 16 ≤ aN ∧ aN ≤ 2048 ∧ 16 ≤ nN ∧ nN ≤ 2048 ∧ 16 ≤ fN ∧ fN ≤ 2048 ∧ 16 ≤ pN ∧ pN ≤ 2048 ∧ 16 ≤ tN ∧ tN ≤ 2048) (ht : f0 ≤ iN ∧ f0 ≤ iL ∧ f0 ≤ iK ∧ f0 ≤ oN ∧ f0 ≤ oL ∧ f0 ≤ oK) (ht2 : 16 ≤ iN ∧ iN ≤ 4096 ∧ 16 ≤ iL ∧ iL ≤ 4096 ∧ 16 ≤ iK ∧ iK ≤ 4096 ∧ 16 ≤ oN ∧ oN ≤ 4096 ∧ 16 ≤ oL ∧ oL ≤ 4096 ∧ 16 ≤ oK ∧ oK ≤ 4096) :
    Ok (f_Side_welcome F cn nodes bN bF wN wF aN aF nN nF fN fF pN pF tN tF iN inu iL il iK ik oN onu oL ol oK ok p0 p1) (fun u => QWE nb nn b0 f0 wN aN nN fN pN tN wF aF nF fF pF tF iN iL iK oN oL oK inu il ik onu ol ok u) := by
  have L := lits
  simp only [f_Side_welcome]
  refine ok_bm (w_blocks hm hnb) (fun u35 e35 => ?_)
  refine ok_bm (w_withRoom 1024 (by omega)) (fun u36 e36 => ok_c ?_)
  refine ok_bm (w_withRoom 1024 (by omega)) (fun u40 e40 => ok_c ?_)
  refine ok_bm (w_withRoom 1024 (by omega)) (fun u44 e44 => ok_c ?_)
  refine ok_bm (w_withRoom 1024 (by omega)) (fun u48 e48 => ok_c ?_)
  refine ok_bm (w_withRoom 1024 (by omega)) (fun u52 e52 => ok_c ?_)
  refine ok_bm (w_withRoom 1024 (by omega)) (fun u56 e56 => ok_c ?_)
  obtain ⟨a1, a2, a3, a4, a5⟩ := e36
  obtain ⟨b1, b2, b3, b4, b5⟩ := e40
  obtain ⟨c1, c2, c3, c4, c5⟩ := e44
  obtain ⟨d1, d2, d3, d4, d5⟩ := e48
  obtain ⟨g1, g2, g3, g4, g5⟩ := e52
  obtain ⟨h1, h2, h3, h4, h5⟩ := e56
  refine ok_bm (w_Sforget (nb := nb) (nn := nn) (b0 := b0) (f0 := f0) hF hm hnb hn hp ⟨by omega, by omega, by omega, by omega, by omega, by omega, by omega⟩ ht ht2) (fun u60 e60 => ok_c (ok_s ?_))
  unfold QSF at e60
  obtain ⟨z1, z2, z3, z4, z5, z6, z7⟩ := e60
  unfold QWE
  dsimp only
  try dsimp only
  refine ⟨by omega, by omega, by omega, z3, fun b hb => ?_, z5, z6, z7⟩
  have z := z4 b hb
  rw [a5 b (by omega), b5 b (by omega), c5 b (by omega), d5 b (by omega), g5 b (by omega), h5 b (by omega)] at z
  exact z
