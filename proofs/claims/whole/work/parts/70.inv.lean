/-! What holds between the calls. -/
def VG (m : Nat) (w h : Nat → Nat) (cn nodes st : Int32) (bF leF abF : Nat → Int32) (leN abN : Nat) (bds sty : Int32) (wiF hiF beF : Nat → Int32) : Prop :=
  (Geo m w h ∧ GA m w h abF ∧ GL m w h leF) ∧ (cn.toInt = m ∧ bds.toInt = m ∧ nodes.toInt = nbase w h m ∧ sty = st) ∧ (∀ j, j ≤ m → (bF j).toInt = bbase w h j ∧ (beF j).toInt = bbase w h j) ∧ (∀ i, i < m → (wiF i).toInt = w i ∧ (hiF i).toInt = h i) ∧ (bbase w h m ≤ leN ∧ 16 ≤ leN ∧ leN ≤ 2048 ∧ nbase w h m ≤ abN ∧ 16 ≤ abN ∧ abN ≤ 4096)
def VS (sc : Int32) (sN : Nat) (sR : Nat → Int32) (size : Int32) (B : Nat → Int32) : Prop :=
  sc = size ∧ 0 ≤ sc.toInt ∧ sc.toInt ≤ 262144 ∧ sc.toInt ≤ sN ∧ 16 ≤ sN ∧ sN ≤ 600000 ∧ (∀ i, i < sN → fits .byte (.int (sR i)) = true) ∧ (∀ i : Nat, (i : Int) < sc.toInt → sR i = B i)
def VZ (nb nn wN aN nN fN pN tN lN iP iN iL iK oP oN oL oK : Nat) : Prop :=
  (nb ≤ wN ∧ nb ≤ aN ∧ nb ≤ nN ∧ nb ≤ fN ∧ nb ≤ pN ∧ nb ≤ tN) ∧ (16 ≤ wN ∧ wN ≤ 2048 ∧ 16 ≤ aN ∧ aN ≤ 2048 ∧ 16 ≤ nN ∧ nN ≤ 2048 ∧ 16 ≤ fN ∧ fN ≤ 2048 ∧ 16 ≤ pN ∧ pN ≤ 2048 ∧ 16 ≤ tN ∧ tN ≤ 2048) ∧ (16 ≤ lN ∧ lN ≤ 8192) ∧ (iP = 7 ∧ oP = 7) ∧ (nn ≤ iN ∧ nn ≤ iL ∧ nn ≤ iK ∧ nn ≤ oN ∧ nn ≤ oL ∧ nn ≤ oK) ∧ (16 ≤ iN ∧ iN ≤ 4096 ∧ 16 ≤ iL ∧ iL ≤ 4096 ∧ 16 ≤ iK ∧ iK ≤ 4096 ∧ 16 ≤ oN ∧ oN ≤ 4096 ∧ 16 ≤ oL ∧ oL ≤ 4096 ∧ 16 ≤ oK ∧ oK ≤ 4096)
def VWb (nb lw : Nat) (st : Int32) (wF aF nF pF tF cF WF brF fiF miF toF : Nat → Int32) : Prop :=
  ∀ b, b < nb → cF b = aF b ∧ brF b = nF b ∧ 0 ≤ (aF b).toInt ∧ 0 ≤ (nF b).toInt ∧ (nF b).toInt ≤ 164 ∧ (aF b).toInt + (nF b).toInt ≤ 200 ∧ (pF b).toInt = pcs st (aF b).toInt.toNat (nF b).toInt.toNat ∧ toF b = tF b ∧ 0 ≤ (tF b).toInt ∧ (tF b).toInt ≤ (pF b).toInt ∧ wF b = WF b ∧ 3 ≤ (wF b).toInt ∧ (wF b).toInt ≤ 16 ∧ -1 ≤ (fiF b).toInt ∧ (fiF b).toInt ≤ 254 ∧ 0 ≤ (miF b).toInt ∧ (miF b).toInt ≤ 73 ∧ (0 < (aF b).toInt ↔ ¬ (fiF b).toInt = -1 ∧ (fiF b).toInt < lw)
def VWn (m : Nat) (w h : Nat → Nat) (inu onu fiF miF : Nat → Int32) : Prop :=
  ∀ i k, i < m → k < w i * h i → (inu (nbase w h i + k)).toInt = (if (fiF (bbase w h i + k)).toInt = -1 then 1000 else (fiF (bbase w h i + k)).toInt) ∧ (onu (nbase w h i + k)).toInt = (miF (bbase w h i + k)).toInt
def VWt (m : Nat) (w h : Nat → Nat) (lw : Nat) (inu il ik onu ol ok LF KF : Nat → Int32) : Prop :=
  (TR (nbase w h m) (rho w h 0) il LF ∧ TR (nbase w h m) (rho w h 0) ik KF ∧ TSafe (nbase w h m) lw il ik) ∧ (TR (nbase w h m) (rho w h 6144) ol LF ∧ TR (nbase w h m) (rho w h 6144) ok KF ∧ TSafe (nbase w h m) 74 ol ok) ∧ ((lw = 0 ∧ ∀ x, x < nbase w h m → il x = 0 ∧ ik x = 0 ∧ ol x = 0 ∧ ok x = 0) ∨ (0 < lw ∧ SET m w h inu ∧ SET m w h onu ∧ NumInv (nbase w h m) inu il ik ∧ NumInv (nbase w h m) onu ol ok))
def VWl (nb : Nat) (fF lF : Nat → Int32) (P : Int32) (oF LeF : Nat → Int32) : Prop :=
  ∀ p b : Nat, (p : Int) < P.toInt → b < nb → (oF p).toInt = (b : Nat) → LeF p = lF ((fF b).toInt.toNat + cnt oF (b : Nat) p) ∧ 0 ≤ (LeF p).toInt ∧ (LeF p).toInt ≤ 65535
def VWd (nb : Nat) (cF WF brF fiF miF toF : Nat → Int32) : Prop :=
  ∀ b, nb ≤ b → b < 1024 → (cF b).toInt = 0 ∧ (brF b).toInt = 0 ∧ (WF b).toInt = 3 ∧ (fiF b).toInt = -1 ∧ (miF b).toInt = 0 ∧ (toF b).toInt = 0
def VRd (nb : Nat) (cF WF brF fiF miF toF : Nat → Int32) : Prop :=
  ∀ b, nb ≤ b → b < 1024 → (cF (1024 + b)).toInt = 0 ∧ (brF (1024 + b)).toInt = 0 ∧ (WF (1024 + b)).toInt = 3 ∧ (fiF (1024 + b)).toInt = -1 ∧ (miF (1024 + b)).toInt = -1 ∧ (toF (1024 + b)).toInt = 0
def VL (P : Int32) (oF toF : Nat → Int32) : Prop :=
  0 ≤ P.toInt ∧ (∀ p : Nat, (p : Int) < P.toInt → 0 ≤ (oF p).toInt ∧ (oF p).toInt < 2048) ∧ (∀ b : Nat, b < 2048 → (toF b).toInt = cnt oF (b : Nat) P.toInt.toNat)
def VR (m : Nat) (w h : Nat → Nat) (nb lr : Nat) (ov lc : Int32) (lN : Nat) (wF aF nF fF pF lF inu il ik ol ok cF WF brF fiF miF toF : Nat → Int32) (P : Int32) (oF LeF LF KF : Nat → Int32) : Prop :=
  IRr nb nb cF wF aF pF nF brF toF WF ∧ (∀ b, b < nb → 0 ≤ (cF (1024 + b)).toInt) ∧ (∀ i k, i < m → k < w i * h i → IR4 w h i k aF inu ol fiF miF) ∧ (∀ p b : Nat, (p : Int) < P.toInt → b < nb → (oF p).toInt = ((1024 + b : Nat) : Int) → LeF p = lF ((fF b).toInt.toNat + cnt oF ((1024 + b : Nat) : Int) p)) ∧ (ov.toInt = 0 → IRt m w h lr il ik ol ok LF KF ∧ LI nb lc.toInt fF pF ∧ lc.toInt ≤ lN) ∧ (ov.toInt = 1 → ∀ b, b < nb → (pF b).toInt = 0)
/-- how many pieces there may be -/
def sumC (o : Nat → Int32) (P : Nat) : Nat → Nat
  | 0 => 0
  | M + 1 => sumC o P M + cnt o (M : Nat) P
theorem sumC_s (o : Nat → Int32) (P M : Nat) : sumC o P (M + 1) = sumC o P M + cnt o (M : Nat) P := rfl
theorem sumC_p {o : Nat → Int32} {P : Nat} : ∀ {M : Nat}, sumC o (P + 1) M = sumC o P M + (if 0 ≤ (o P).toInt ∧ (o P).toInt < M then 1 else 0) := by
  intro M
  induction M with
  | zero => rw [if_neg (by omega)]; rfl
  | succ M ih =>
    rw [sumC_s, sumC_s, ih, cnt_s]
    by_cases q : (o P).toInt = (M : Nat)
    · rw [if_pos q, if_neg (by omega), if_pos (by omega)]; omega
    · rw [if_neg q]
      by_cases q2 : 0 ≤ (o P).toInt ∧ (o P).toInt < M
      · rw [if_pos q2, if_pos (by omega)]; omega
      · rw [if_neg q2, if_neg (by omega)]; omega
theorem sumC_all {o : Nat → Int32} {M : Nat} : ∀ {P : Nat}, (∀ p, p < P → 0 ≤ (o p).toInt ∧ (o p).toInt < M) → sumC o P M = P := by
  intro P
  induction P with
  | zero =>
    intro _
    have : ∀ M, sumC o 0 M = 0 := by
      intro M
      induction M with
      | zero => rfl
      | succ M ih => rw [sumC_s, ih]; rfl
    exact this M
  | succ P ih =>
    intro h
    rw [sumC_p, ih (fun p hp => h p (by omega)), if_pos (h P (by omega))]
theorem sumC_split {o : Nat → Int32} {P n : Nat} {X Y : Int} {f g : Nat → Int32} (hn : n ≤ 1024) (h1 : ∀ b, b < n → (cnt o (b : Nat) P : Int) ≤ (f b).toInt) (h2 : ∀ b, n ≤ b → b < 1024 → cnt o (b : Nat) P = 0) (h3 : ∀ b, b < n → (cnt o ((1024 + b : Nat) : Int) P : Int) ≤ (g b).toInt) (h4 : ∀ b, n ≤ b → b < 1024 → cnt o ((1024 + b : Nat) : Int) P = 0) (hX : sumI f n = X) (hY : sumI g n = Y) : (sumC o P 2048 : Int) ≤ X + Y := by
  have a1 : ∀ k, k ≤ n → (sumC o P k : Int) ≤ sumI f k := by
    intro k
    induction k with
    | zero => intro _; exact Int.le_refl _
    | succ k ih => intro hk; rw [sumC_s, sumI_s]; have := ih (by omega); have := h1 k (by omega); omega
  have a2 : ∀ d, n + d ≤ 1024 → sumC o P (n + d) = sumC o P n := by
    intro d
    induction d with
    | zero => intro _; rfl
    | succ d ih => intro hd; rw [show n + (d + 1) = n + d + 1 by omega, sumC_s, ih (by omega), h2 (n + d) (by omega) (by omega)]; rfl
  have a3 : ∀ k, k ≤ n → (sumC o P (1024 + k) : Int) ≤ sumC o P 1024 + sumI g k := by
    intro k
    induction k with
    | zero => intro _; show (sumC o P 1024 : Int) ≤ _ + 0; omega
    | succ k ih => intro hk; rw [show 1024 + (k + 1) = 1024 + k + 1 by omega, sumC_s, sumI_s]; have := ih (by omega); have := h3 k (by omega); omega
  have a4 : ∀ d, n + d ≤ 1024 → sumC o P (1024 + (n + d)) = sumC o P (1024 + n) := by
    intro d
    induction d with
    | zero => intro _; rfl
    | succ d ih => intro hd; rw [show 1024 + (n + (d + 1)) = 1024 + (n + d) + 1 by omega, sumC_s, ih (by omega), h4 (n + d) (by omega) (by omega)]; rfl
  have b1 := a1 n (Nat.le_refl _)
  have b2 := a2 (1024 - n) (by omega)
  have b3 := a3 n (Nat.le_refl _)
  have b4 := a4 (1024 - n) (by omega)
  rw [show n + (1024 - n) = 1024 by omega] at b2 b4
  rw [show 1024 + 1024 = 2048 by rfl] at b4
  omega
def Blk (m : Nat) (w h : Nat → Nat) (p0 p1 : Int32) : Prop := ∃ i k : Nat, i < m ∧ k < w i * h i ∧ p0.toInt = i ∧ p1.toInt = k
theorem w_find {F m : Nat} {w h : Nat → Nat} {cn p0 p1 : Int32} {bF : Nat → Int32} (hG : Geo m w h) (hm : cn.toInt = m) (hb : ∀ j, j ≤ m → (bF j).toInt = bbase w h j) :
    Ok (f_PH_blockOrThrow F cn 4 bF p0 p1) (fun u => (∃ i k : Nat, i < m ∧ k < w i * h i ∧ p0.toInt = i ∧ p1.toInt = k ∧ u.1 = 0 ∧ u.2.1 = 0 ∧ u.2.2.1 = 0 ∧ u.2.2.2.toInt = ((bbase w h i + k : Nat) : Int)) ∨ (¬ Blk m w h p0 p1 ∧ u = (1, 6, 1, 0))) := by
  have L := lits
  have g3 := hG.1
  simp only [f_PH_blockOrThrow]
  refine ok_bm (Q := fun u2 => (∃ i k : Nat, i < m ∧ k < w i * h i ∧ p0.toInt = i ∧ p1.toInt = k ∧ u2.toInt = ((bbase w h i + k : Nat) : Int)) ∨ (¬ Blk m w h p0 p1 ∧ u2.toInt = -1)) ?_ (fun u2 e2 => ?_)
  · simp only [f_Bands_find, g_Bands_find_35, clamp_eq]
    refine ok_lt (fun c1 => ok_s (Or.inr ⟨fun ⟨i, k, h1, h2, h3, h4⟩ => by omega, L.1⟩)) (fun c1 => ?_)
    refine ok_le (fun c2 => ok_s (Or.inr ⟨fun ⟨i, k, h1, h2, h3, h4⟩ => by omega, L.1⟩)) (fun c2 => ?_)
    refine ok_lt (fun c3 => ok_s (Or.inr ⟨fun ⟨i, k, h1, h2, h3, h4⟩ => by omega, L.1⟩)) (fun c3 => ?_)
    obtain ⟨i, hi⟩ : ∃ i : Nat, p0.toInt = i := ⟨p0.toInt.toNat, by omega⟩
    obtain ⟨k, hk⟩ : ∃ k : Nat, p1.toInt = k := ⟨p1.toInt.toNat, by omega⟩
    have gw := hG.wh (show i < m by omega)
    have b1 := hb i (by omega)
    have b2 := hb (i + 1) (by omega)
    rw [bbase_s] at b2
    refine ok_add (by omega) (fun x7 e7 => ?_)
    rw [show x7.toInt.toNat = i + 1 by omega, show p0.toInt.toNat = i by omega]
    refine ok_in (by omega) (ok_v ?_)
    refine ok_in (by omega) (ok_v ?_)
    refine ok_sub (by omega) (fun x10 e10 => ?_)
    refine ok_lt (fun c4 => ?_) (fun c4 => ok_s (Or.inr ⟨fun ⟨i', k', h1, h2, h3, h4⟩ => ?_, L.1⟩))
    · refine ok_in (by omega) (ok_v ?_)
      refine ok_add (by omega) (fun x12 e12 => ok_s (Or.inl ⟨i, k, by omega, by omega, hi, hk, by omega⟩))
    · have : i' = i := by omega
      subst this
      omega
  · refine ok_eq (fun c1 => ok_s ?_) (fun c1 => ok_s ?_)
    · rcases e2 with ⟨i, k, h1, h2, h3, h4, h5⟩ | ⟨h1, h2⟩
      · omega
      · try dsimp only
        exact Or.inr ⟨h1, rfl⟩
    · rcases e2 with ⟨i, k, h1, h2, h3, h4, h5⟩ | ⟨h1, h2⟩
      · try dsimp only
        exact Or.inl ⟨i, k, h1, h2, h3, h4, rfl, rfl, rfl, h5⟩
      · omega
theorem w_isBlock {F m : Nat} {w h : Nat → Nat} {bds p0 p1 : Int32} {wiF hiF : Nat → Int32} (hG : Geo m w h) (hm : bds.toInt = m) (hb : ∀ i, i < m → (wiF i).toInt = w i ∧ (hiF i).toInt = h i) :
    Ok (f_Mo_isBlock F bds 3 wiF 3 hiF p0 p1) (fun u => (Blk m w h p0 p1 ∧ u.toInt = 1) ∨ (¬ Blk m w h p0 p1 ∧ u.toInt = 0)) := by
  have L := lits
  have g3 := hG.1
  simp only [f_Mo_isBlock, g_Mo_isBlock_41, g_Mo_isBlock_42, clamp_eq]
  refine ok_sub (by omega) (fun x8 e8 => ?_)
  refine ok_bm w_Mo_out (fun u9 e9 => ?_)
  refine ok_eq (fun c1 => ?_) (fun c1 => ok_a (bool_nar (by omega)) (ok_s (Or.inr ⟨fun ⟨i, k, h1, h2, h3, h4⟩ => by omega, L.2.1⟩)))
  obtain ⟨i, hi⟩ : ∃ i : Nat, p0.toInt = i := ⟨p0.toInt.toNat, by omega⟩
  have gw := hG.wh (show i < m by omega)
  have hin := hb i (by omega)
  rw [show p0.toInt.toNat = i by omega]
  have hmul : (wiF i).toInt * (hiF i).toInt = ((w i * h i : Nat) : Int) := by rw [hin.1, hin.2, Int.natCast_mul]
  refine ok_in (by omega) (ok_v ?_)
  refine ok_in (by omega) (ok_v ?_)
  refine ok_mul (by omega) (fun x12 e12 => ?_)
  refine ok_sub (by omega) (fun x13 e13 => ?_)
  refine ok_bm w_Mo_out (fun u14 e14 => ?_)
  refine ok_eq (fun c2 => ok_a (bool_nar (by omega)) (ok_s (Or.inl ⟨⟨i, p1.toInt.toNat, by omega, by omega, hi, by omega⟩, L.2.2.1⟩))) (fun c2 => ok_a (bool_nar (by omega)) (ok_s (Or.inr ⟨fun ⟨i', k', h1, h2, h3, h4⟩ => ?_, L.2.1⟩)))
  have : i' = i := by omega
  subst this
  omega
