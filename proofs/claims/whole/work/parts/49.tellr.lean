/-! A tree's telling, read: in step as long as nothing lacks; once bits lack, each side for itself. -/
/-- the source lacks bits -/
def SB (n en lf lk c : Int32) (N : Nat) : Prop := lk.toInt = 1 ∧ lf.toInt = 0 ∧ en.toInt ≤ n.toInt ∧ 0 ≤ n.toInt ∧ en.toInt ≤ c.toInt ∧ c.toInt ≤ N ∧ c.toInt ≤ 262144
theorem RelR.sb {st n en la lf lk c : Int32} {N : Nat} {R : Nat → Int32} {sz s e q wg : Int32} {B : Nat → Int32} (h : RelR st n en la lf lk c N R sz s e q wg B) (hg : ¬ wg.toInt = 0) : SB n en lf lk c N ∧ wg.toInt = 1 := by
  obtain ⟨h1, h2, h3, h4, h5, h6, h7, h8, h9, h10, h11⟩ := h.1
  unfold SB
  omega
theorem w_bitRx {F N : Nat} {n en la lf lk c : Int32} {R : Nat → Int32} (h : SB n en lf lk c N) : Ok (f_Source_bit F n en la lf lk c N R) (fun u => u.1.toInt = 0 ∧ u.2.1 = n ∧ u.2.2.1 = la ∧ u.2.2.2.1 = lf ∧ u.2.2.2.2 = lk) := by
  unfold SB at h
  refine ok_m (w_bitR (by omega)) (fun u hu => ?_)
  rcases hu with ⟨u1, u2, u3, u4, u5, u6, u7⟩ | u1 | u1 | u1
  · try dsimp only
    exact ⟨u3, u4, u5, u6, ti_ofI (by omega)⟩
  · omega
  · omega
  · omega
theorem w_numRx {F : Nat} (hF : 1000000 ≤ F) {N : Nat} {n0 en la lf lk c bits : Int32} {R : Nat → Int32} {v : Int64} (h : SB n0 en lf lk c N) (hb : 0 ≤ bits.toInt ∧ bits.toInt ≤ 1000) : Ok (f_Bits_numberR F n0 en la lf lk c N R v bits) (fun u => u.1.toInt = 0 ∧ u.2.1 = n0 ∧ u.2.2.1 = la ∧ u.2.2.2.1 = lf ∧ u.2.2.2.2 = lk) := by
  have L := lits
  have l0 : (0 : Int64).toInt = 0 := by decide
  have key : ∀ (n : Nat) (n1 la1 lf1 lk1 : Int32) (a : Int64) (i : Int32), n1 = n0 → la1 = la → lf1 = lf → lk1 = lk → a.toInt = 0 → -1 ≤ i.toInt ∧ i.toInt ≤ 1000 → i.toInt + 1 < n → Ok (f_Bits_numberR_8 F en c N R n n1 la1 lf1 lk1 v a i) (fun u => u.1.toInt = 0 ∧ u.2.1 = n0 ∧ u.2.2.1 = la ∧ u.2.2.2.1 = lf ∧ u.2.2.2.2 = lk) := by
    intro n
    induction n with
    | zero => intro n1 la1 lf1 lk1 a i e1 e2 e3 e4 h1 h2 h3; omega
    | succ n ih =>
      intro n1 la1 lf1 lk1 a i e1 e2 e3 e4 h1 h2 h3
      subst e1; subst e2; subst e3; subst e4
      simp only [f_Bits_numberR_8, g_Bits_numberR_8]
      refine ok_lt (fun hc => ok_s ⟨h1, rfl, rfl, rfl, rfl⟩) (fun hc => ?_)
      refine ok_l (fun x13 e13 => ok_l (fun x14 _ => ok_l (fun x15 _ => ok_l (fun x16 _ => ?_))))
      refine ok_bm (w_bitRx h) (fun u hu => ?_)
      refine ok_l (fun x21 e21 => ok_l (fun x22 e22 => ok_add (by omega) (fun x23 e23 => ?_)))
      exact ih _ _ _ _ x22 x23 hu.2.1 hu.2.2.1 hu.2.2.2.1 hu.2.2.2.2 (by rw [e22, e21, ti64_acc (by omega) (Or.inl e13)]; omega) (by omega) (by omega)
  simp only [f_Bits_numberR]
  refine ok_sub (by omega) (fun x hx => ?_)
  exact key F n0 la lf lk 0 x rfl rfl rfl rfl l0 (by omega) (by omega)
theorem w_pasRx {F : Nat} {N : Nat} {n0 en la lf lk c p : Int32} {R : Nat → Int32} (h : SB n0 en lf lk c N) : Ok (f_Bits_passesR F n0 en la lf lk c N R p) (fun u => u.1.toInt = 1 ∧ u.2.1 = n0 ∧ u.2.2.1 = la ∧ u.2.2.2.1 = lf ∧ u.2.2.2.2 = lk) := by
  have L := lits
  simp only [f_Bits_passesR, g_Bits_passesR_11]
  refine ok_le (fun _ => ?_) (fun _ => ?_)
  all_goals
    refine ok_bm (w_bitRx h) (fun u hu => ?_)
    refine ok_eq (fun hc => ok_s ?_) (fun hc => by omega)
    try dsimp only
    exact ⟨by omega, hu.2⟩
theorem w_Mo_numX {F : Nat} (hF : 1000000 ≤ F) {NB : Nat} {sz wr s e q wg bits : Int32} {B : Nat → Int32} {v : Int64} (hg : wg.toInt = 1) (hb : 0 ≤ bits.toInt ∧ bits.toInt ≤ 1000) : Ok (f_Mo_codeNumber F sz wr s e q wg NB B v bits) (fun u => u.1.toInt = 0 ∧ u.2.1 = e ∧ u.2.2.1 = q ∧ u.2.2.2.1.toInt = 1 ∧ u.2.2.2.2 = B) := by
  have L := lits
  have l0 : (0 : Int64).toInt = 0 := by decide
  have key : ∀ (n : Nat) (e1 q1 wg1 : Int32) (B1 : Nat → Int32) (a : Int64) (i : Int32), e1 = e → q1 = q → wg1.toInt = 1 → B1 = B → a.toInt = 0 → -1 ≤ i.toInt ∧ i.toInt ≤ 1000 → i.toInt + 1 < n → Ok (f_Mo_codeNumber_8 F sz wr s NB n e1 q1 wg1 B1 v a i) (fun u => u.1.toInt = 0 ∧ u.2.1 = e ∧ u.2.2.1 = q ∧ u.2.2.2.1.toInt = 1 ∧ u.2.2.2.2 = B) := by
    intro n
    induction n with
    | zero => intro n1 la1 lf1 lk1 a i e1 e2 e3 e4 h1 h2 h3; omega
    | succ n ih =>
      intro e1 q1 wg1 B1 a i z1 z2 z3 z4 h1 h2 h3
      subst z1; subst z2; subst z4
      simp only [f_Mo_codeNumber_8, g_Mo_codeNumber_8]
      refine ok_lt (fun hc => ok_s ⟨h1, rfl, rfl, z3, rfl⟩) (fun hc => ?_)
      refine ok_l (fun x13 e13 => ok_l (fun x14 _ => ok_l (fun x15 _ => ok_l (fun x16 _ => ?_))))
      refine ok_bm (w_codeX z3) (fun u hu => ?_)
      refine ok_l (fun x21 e21 => ok_l (fun x22 e22 => ok_add (by omega) (fun x23 e23 => ?_)))
      exact ih _ _ _ _ x22 x23 hu.2.1 hu.2.2.1 hu.2.2.2.1 hu.2.2.2.2 (by rw [e22, e21, ti64_acc (by omega) (Or.inr e13)]; omega) (by omega) (by omega)
  simp only [f_Mo_codeNumber]
  refine ok_sub (by omega) (fun x hx => ?_)
  exact key F e q wg B 0 x rfl rfl hg rfl l0 (by omega) (by omega)
theorem w_Mo_pasX {F : Nat} {NB : Nat} {sz wr s e q wg p : Int32} {B : Nat → Int32} (hg : wg.toInt = 1) : Ok (f_Mo_codePasses F sz wr s e q wg NB B p) (fun u => u.1.toInt = 1 ∧ u.2.1 = e ∧ u.2.2.1 = q ∧ u.2.2.2.1.toInt = 1 ∧ u.2.2.2.2 = B) := by
  have L := lits
  simp only [f_Mo_codePasses, g_Mo_codePasses_11]
  refine ok_le (fun _ => ?_) (fun _ => ?_)
  all_goals
    refine ok_bm (w_codeX hg) (fun u hu => ?_)
    refine ok_eq (fun hc => ok_s ?_) (fun hc => by omega)
    try dsimp only
    exact ⟨by omega, hu.2⟩
def TSR (n MX : Nat) (lo kn : Nat → Int32) : Prop := ∀ x, x < n → 0 ≤ (lo x).toInt ∧ (lo x).toInt ≤ MX ∧ ((kn x).toInt = 0 ∨ (kn x).toInt = 1)
theorem TSR.lo {n MX : Nat} {lo kn : Nat → Int32} (h : TSR n MX lo kn) {x : Nat} {v : Int32} (hv : 0 ≤ v.toInt ∧ v.toInt ≤ MX) : TSR n MX (upd lo x v) kn := by
  intro y hy
  by_cases e : y = x
  · have := h y hy
    rw [e] at this
    rw [e, upd_is]; omega
  · rw [upd_no e]; exact h y hy
theorem TSR.kn {n MX : Nat} {lo kn : Nat → Int32} (h : TSR n MX lo kn) {x : Nat} {v : Int32} (hv : v.toInt = 0 ∨ v.toInt = 1) : TSR n MX lo (upd kn x v) := by
  intro y hy
  by_cases e : y = x
  · have := h y hy
    rw [e] at this
    rw [e, upd_is]; omega
  · rw [upd_no e]; exact h y hy
/-- a node, on the class's side alone, when bits lack -/
theorem w_nodeRx {F : Nat} {nN lN kN nn MX : Nat} {nF pF l0 k0 : Nat → Int32} {n0 en la lf lk c : Int32} {N : Nat} {R : Nat → Int32} {leaf bound node v6 : Int32} {x : Nat}
    {rec55 : (Nat → Int32) → (Nat → Int32) → (Nat → Int32) → Int32 → Int32 → Int32 → Int32 → Int32 → Int32 → Int32 → Int32 → Option (Int32 × (Nat → Int32) × (Nat → Int32) × (Nat → Int32) × Int32 × Int32 × Int32 × Int32)}
    {P : Int32 × (Nat → Int32) × (Nat → Int32) × (Nat → Int32) × Int32 × Int32 × Int32 × Int32 → Prop}
    (hsb : SB n0 en lf lk c N) (hn : nn ≤ nN ∧ nn ≤ lN ∧ nn ≤ kN ∧ MX ≤ 1000 ∧ x < nn) (hx : node.toInt = x) (hb : bound.toInt ≤ MX) (hv6 : -1000 ≤ v6.toInt ∧ v6.toInt ≤ 1000)
    (cont : ∀ (lF kF : Nat → Int32) (v6' : Int32), v6'.toInt = v6.toInt - 1 → TSR nn MX lF kF → kF = k0 → (∀ y, ¬ y = x → lF y = l0 y) → Ok (rec55 pF lF kF n0 la lf lk leaf bound (lF x) v6') P) :
    ∀ (m n : Nat) (lF kF : Nat → Int32) (k : Int32), TSR nn MX lF kF → kF = k0 → (∀ y, ¬ y = x → lF y = l0 y) → (lF x).toInt = k.toInt → bound.toInt - k.toInt ≤ m → m < n → Ok (f_Trees_tellR_97 F rec55 nN nF lN kN en c N R n pF lF kF n0 la lf lk leaf bound v6 node k) P := by
  have L := lits
  have e1 : node.toInt.toNat = x := by omega
  intro m n
  induction n generalizing m with
  | zero => intro lF kF k hs hk0 hfr hlk h1 h2; omega
  | succ n ih =>
    intro lF kF k hs hk0 hfr hlk h1 h2
    have hsx := hs x hn.2.2.2.2
    simp only [f_Trees_tellR_97, g_Trees_tellR_97, g_Trees_tellR_137, g_Trees_tellR_166, clamp_eq, e1]
    have go : Ok (asm (vp_in node lN) (letb (lF x) fun x18 => letb (v6 + (-1)) fun x19 => rec55 pF lF kF n0 la lf lk leaf bound x18 x19)) P := by
      refine ok_in (by omega) (ok_v (ok_add (by omega) (fun y hy => ?_)))
      exact cont lF kF y (by omega) hs hk0 hfr
    refine ok_le (fun _ => go) (fun c1 => ?_)
    refine ok_in (by omega) (ok_v (ok_eq (fun c2 => ?_) (fun _ => go)))
    have step : Ok (bd (f_Source_bit F n0 en la lf lk c N R) fun u20 => asm (vp_in node kN) (letb (k + 1) fun x21 => asm (vp_in node kN) (letb ((upd kF x u20.1) x) fun x22 => letb (x21 - x22) fun x23 => asm (vp_in node lN) (letb (k + 1) fun x24 => f_Trees_tellR_97 F rec55 nN nF lN kN en c N R n pF (upd lF x x23) (upd kF x u20.1) u20.2.1 u20.2.2.1 u20.2.2.2.1 u20.2.2.2.2 leaf bound v6 node x24)))) P := by
      refine ok_bm (w_bitRx hsb) (fun u hu => ?_)
      have eu : u.1 = kF x := ti_ofI (by omega)
      rw [hu.2.1, hu.2.2.1, hu.2.2.2.1, hu.2.2.2.2, eu, upd_self]
      refine ok_in (by omega) (ok_add (by omega) (fun y hy => ok_in (by omega) (ok_v (ok_sub (by omega) (fun z hz => ok_in (by omega) (ok_add (by omega) (fun t ht => ?_)))))))
      exact ih (m - 1) (upd lF x z) kF t (hs.lo ⟨by omega, by omega⟩) hk0 (fun y hy => by rw [upd_no hy]; exact hfr y hy) (by rw [upd_is]; omega) (by omega) (by omega)
    refine ok_in (by omega) (ok_v ?_)
    exact ok_eq (fun _ => step) (fun _ => step)
theorem w_tellRk {F : Nat} (hF : 1000000 ≤ F) {pN nN lN kN aN nn MX top : Nat} {nF aF : Nat → Int32} {n0 en la lf lk c : Int32} {N : Nat} {R : Nat → Int32} {leaf bound : Int32} {xs : Nat → Nat}
    (hsb : SB n0 en lf lk c N) (hn : pN = 7 ∧ nn ≤ nN ∧ nn ≤ lN ∧ nn ≤ kN ∧ nn ≤ aN ∧ nn ≤ 100000 ∧ MX ≤ 1000 ∧ top ≤ 6) (hb : 0 ≤ bound.toInt ∧ bound.toInt ≤ MX) (hpath : Path aF xs top nn) (hleaf : leaf.toInt = xs 0) :
    ∀ (j n : Nat) (pF lF1 kF1 : Nat → Int32) (v5 v6 : Int32), j ≤ top + 1 → j < n → (∀ l, l ≤ top → (pF l).toInt = xs l) → v6.toInt = (j : Int) - 1 → 0 ≤ v5.toInt → v5.toInt ≤ MX → TSR nn MX lF1 kF1 →
      Ok (f_Trees_tellR_55 F pN nN nF lN kN en c N R n pF lF1 kF1 n0 la lf lk leaf bound v5 v6) (fun u => (u.1.toInt = 0 ∨ u.1.toInt = 1) ∧ TSR nn MX u.2.2.1 u.2.2.2.1 ∧ u.2.2.2.2.1 = n0 ∧ u.2.2.2.2.2.1 = la ∧ u.2.2.2.2.2.2.1 = lf ∧ u.2.2.2.2.2.2.2 = lk) := by
  have L := lits
  intro j
  induction j with
  | zero =>
    intro n pF lF1 kF1 v5 v6 h1 h2 hp h4 h5 h6 hs1
    obtain ⟨n, rfl⟩ : ∃ y, n = y + 1 := ⟨n - 1, by omega⟩
    have hx := hpath.2.2 0 (by omega)
    have e1 : leaf.toInt.toNat = xs 0 := by omega
    have hsx := hs1 (xs 0) hx
    simp only [f_Trees_tellR_55, g_Trees_tellR_55, g_Trees_tellR_196, clamp_eq, e1]
    refine ok_lt (fun _ => ?_) (fun c0 => by omega)
    refine ok_in (by omega) (ok_v ?_)
    refine ok_eq (fun c1 => ok_a (by rfl) (ok_s ?_)) (fun c1 => ok_a (by rfl) (ok_s ?_))
    · try dsimp only
      exact ⟨by omega, hs1, rfl, rfl, rfl, rfl⟩
    · try dsimp only
      exact ⟨by omega, hs1, rfl, rfl, rfl, rfl⟩
  | succ l ih =>
    intro n pF lF1 kF1 v5 v6 h1 h2 hp h4 h5 h6 hs1
    obtain ⟨n, rfl⟩ : ∃ y, n = y + 1 := ⟨n - 1, by omega⟩
    have hx := hpath.2.2 l (by omega)
    have hpl := hp l (by omega)
    have e6 : v6.toInt.toNat = l := by omega
    have eN : (pF l).toInt.toNat = xs l := by omega
    have hsx := hs1 (xs l) hx
    simp only [f_Trees_tellR_55, g_Trees_tellR_55, clamp_eq, e6]
    refine ok_lt (fun c0 => by omega) (fun _ => ?_)
    refine ok_in (by omega) (ok_v (ok_in (by omega) ?_))
    rw [eN]
    refine ok_v (ok_max (fun x36 f36 => ok_in (by omega) (ok_in (by omega) ?_)))
    rw [upd_is]
    refine ok_v ?_
    refine w_nodeRx (l0 := upd lF1 (xs l) x36) (k0 := kF1) hsb ⟨by omega, by omega, by omega, by omega, hx⟩ (by omega) hb.2 (by omega) (fun lF2 kF2 v6' a1 a2 a3 a4 => ?_) (bound.toInt - x36.toInt).toNat F (upd lF1 (xs l) x36) kF1 x36 (hs1.lo (by omega)) rfl (fun _ _ => rfl) (by rw [upd_is]) (by omega) (by omega)
    have b1 := a2 (xs l) hx
    exact ih n pF lF2 kF2 (lF2 (xs l)) v6' (by omega) (by omega) hp (by omega) (by omega) (by omega) a2
theorem w_tellRx {F : Nat} (hF : 1000000 ≤ F) {pN nN lN kN aN nn MX top : Nat} {nF pF lF kF aF : Nat → Int32} {n0 en la lf lk c : Int32} {N : Nat} {R : Nat → Int32} {leaf bound : Int32} {xs : Nat → Nat}
    (hsb : SB n0 en lf lk c N) (hn : pN = 7 ∧ nn ≤ nN ∧ nn ≤ lN ∧ nn ≤ kN ∧ nn ≤ aN ∧ nn ≤ 100000 ∧ MX ≤ 1000 ∧ top ≤ 6) (hb : 0 ≤ bound.toInt ∧ bound.toInt ≤ MX) (hpath : Path aF xs top nn) (hleaf : leaf.toInt = xs 0) (hs : TSR nn MX lF kF) :
    Ok (f_Trees_tellR F pN pF nN nF lN lF kN kF aN aF n0 en la lf lk c N R leaf bound) (fun u => (u.1.toInt = 0 ∨ u.1.toInt = 1) ∧ TSR nn MX u.2.2.1 u.2.2.2.1 ∧ u.2.2.2.2.1 = n0 ∧ u.2.2.2.2.2.1 = la ∧ u.2.2.2.2.2.2.1 = lf ∧ u.2.2.2.2.2.2.2 = lk) := by
  have L := lits
  simp only [f_Trees_tellR]
  refine w_pathR (nn := nn) ⟨hn.1, by omega, by omega, by omega⟩ hpath (fun pF' t hp ht => ?_) 0 F pF 0 leaf (by omega) (by omega) (fun l hl => absurd hl (Nat.not_lt_zero l)) (fun _ => hleaf) (fun z => by omega) (by omega)
  exact w_tellRk hF hsb hn hb hpath hleaf (top + 1) F pF' lF kF 0 t (Nat.le_refl _) (by omega) hp (by omega) (by omega) (by omega) hs
/-- the reference's telling once wrong: nothing but its rows' lows may change -/
theorem w_Mo_tellX {F : Nat} (hF : 1000000 ≤ F) {sz wr s wg : Int32} {NB : Nat} {wN hN bN mN fN LN KN : Nat} {wF hF' bF mF fF : Nat → Int32} {tree band block bound : Int32} {w h bk : Nat}
    (hg : wg.toInt = 1) (hn : LN = 24576 ∧ KN = 24576 ∧ wN = 3 ∧ hN = 3) (hband : 0 ≤ band.toInt ∧ band.toInt < 3) (hwF : (wF band.toInt.toNat).toInt = w) (hhF : (hF' band.toInt.toNat).toInt = h) (hwh : 0 < w ∧ w < 65 ∧ 0 < h ∧ h < 65 ∧ w * h ≤ 1024) (hbk : block.toInt = bk ∧ bk < w * h) {T : Int} (hT : 0 ≤ T ∧ T + 2048 ≤ 24576) (L00 : Nat → Int32) :
    ∀ (j n : Nat) (e q : Int32) (B LF KF : Nat → Int32) (v8 v9 li base : Int32), j ≤ topOf w h + 1 → j < n → li.toInt = (j : Int) - 1 → base.toInt = T + offs w h j → (v9.toInt = 0 ∨ v9.toInt = 1) → (∀ i : Nat, T ≤ i → (i : Int) < T + 2048 → (KF i).toInt = 0 ∨ (KF i).toInt = 1) → (∀ i : Nat, ¬ (T ≤ i ∧ (i : Int) < T + 2048) → LF i = L00 i) →
      Ok (f_Mo_tell_125 F sz wr s NB wN wF hN hF' bN bF mN mF fN fF LN KN n e q wg B LF KF tree band block bound base v8 v9 li) (fun v => (v.1.toInt = 0 ∨ v.1.toInt = 1) ∧ v.2.1 = e ∧ v.2.2.1 = q ∧ v.2.2.2.1 = wg ∧ v.2.2.2.2.1 = B ∧ v.2.2.2.2.2.2 = KF ∧ ∀ i : Nat, ¬ (T ≤ i ∧ (i : Int) < T + 2048) → v.2.2.2.2.2.1 i = L00 i) := by
  have L := lits
  have ht6 := topOf_le w h
  have hx0 : bk % w < w := Nat.mod_lt _ hwh.1
  have hy0 : bk / w < h := by rw [Nat.div_lt_iff_lt_mul hwh.1, Nat.mul_comm]; exact hbk.2
  have hall := all_2048 w (by omega) h (by omega) hwh.2.2.2.2
  have hall2 : allOf w h = offs w h (topOf w h + 1) := by unfold allOf; rw [if_neg (by omega)]
  intro j
  induction j with
  | zero =>
    intro n e q B LF KF v8 v9 li base h1 h2 h3 h4 h5 h6 h7
    obtain ⟨n, rfl⟩ : ∃ y, n = y + 1 := ⟨n - 1, by omega⟩
    simp only [f_Mo_tell_125, g_Mo_tell_125, clamp_eq]
    refine ok_lt (fun _ => ?_) (fun c0 => by omega)
    exact ok_a (bool_nar h5) (ok_s ⟨h5, rfl, rfl, rfl, rfl, rfl, h7⟩)
  | succ l ih =>
    intro n e q B LF KF v8 v9 li base h1 h2 h3 h4 h5 h6 h7
    obtain ⟨n, rfl⟩ : ∃ y, n = y + 1 := ⟨n - 1, by omega⟩
    obtain ⟨F', hF'1⟩ : ∃ y, F = y + 1 := ⟨F - 1, by omega⟩
    have hxl := hf_in (l := l) hx0
    have hyl := hf_in (l := l) hy0
    obtain ⟨X, eX⟩ : ∃ X : Nat, X = bk % w / 2 ^ l := ⟨_, rfl⟩
    obtain ⟨Y, eY⟩ : ∃ Y : Nat, Y = bk / w / 2 ^ l := ⟨_, rfl⟩
    rw [← eX] at hxl
    rw [← eY] at hyl
    have hlt := nd_lt hxl hyl
    have ndE : (nd w h l X Y : Int) = offs w h l + (Y * hf w l : Nat) + X := by unfold nd; rw [Int.natCast_add, Int.natCast_add]
    have o1 := offs_mono w h (show l + 1 ≤ topOf w h + 1 by omega)
    have o2 := offs_s w h l
    have ewN : (w : Int).toNat = w := by omega
    have ehN : (h : Int).toNat = h := by omega
    have elN : li.toInt.toNat = l := by omega
    simp only [f_Mo_tell_125, g_Mo_tell_125, clamp_eq]
    refine ok_lt (fun c0 => by omega) (fun _ => ?_)
    refine ok_in (by omega) (ok_rd (fun x55 f55 => ?_))
    rw [← f55] at hwF
    refine ok_a (fun z => by rw [z, L.2.1] at hwF; omega) ?_
    refine ok_rem (by omega) (fun x56 f56 => ?_)
    have g56 : x56.toInt = ((bk % w : Nat) : Int) := by rw [f56, hwF, hbk.1, ← Int.natCast_emod]
    refine ok_l (fun x57 f57 => ?_)
    have g57 : x57.toInt = (X : Int) := by rw [f57, ti_shr (by omega), elN, eX]; exact div_nat g56
    refine ok_in (by omega) (ok_rd (fun x58 f58 => ?_))
    rw [← f55] at f58; subst f58
    refine ok_a (fun z => by rw [z, L.2.1] at hwF; omega) ?_
    refine ok_div (by omega) (fun x59 f59 => ?_)
    have g59 : x59.toInt = ((bk / w : Nat) : Int) := by rw [f59, hwF]; exact div_nat hbk.1
    refine ok_l (fun x60 f60 => ?_)
    have g60 : x60.toInt = (Y : Int) := by rw [f60, ti_shr (by omega), elN, eY]; exact div_nat g59
    refine ok_in (by omega) (ok_rd (fun x61 f61 => ?_))
    rw [← f55] at f61; subst f61
    refine ok_bm (w_Mo_half (by omega) (by omega)) (fun u62 f62 => ?_)
    rw [hwF, ewN, elN] at f62
    refine ok_in (by omega) (ok_rd (fun x63 f63 => ?_))
    have hhF2 := hhF
    rw [← f63] at hhF2
    refine ok_bm (w_Mo_half (by omega) (by omega)) (fun u64 f64 => ?_)
    rw [hhF2, ehN, elN] at f64
    have m1 : u62.toInt * u64.toInt = ((hf w l * hf h l : Nat) : Int) := by rw [f62, f64, Int.natCast_mul]
    refine ok_mul (by rw [m1]; omega) (fun x65 f65 => ?_)
    rw [m1] at f65
    refine ok_sub (by omega) (fun x66 f66 => ?_)
    have m2 : x60.toInt * u62.toInt = ((Y * hf w l : Nat) : Int) := by rw [g60, f62, Int.natCast_mul]
    refine ok_mul (by rw [m2]; omega) (fun x67 f67 => ?_)
    rw [m2] at f67
    refine ok_add (by omega) (fun x68 f68 => ok_add (by omega) (fun x69 f69 => ?_))
    refine ok_in (by omega) (ok_v ?_)
    have hk69 := h6 x69.toInt.toNat (by omega) (by omega)
    have hwF' := hwF
    rw [f55] at hwF'
    have fin : ∀ LF' : Nat → Int32, (∀ i : Nat, ¬ (T ≤ i ∧ (i : Int) < T + 2048) → LF' i = L00 i) → Ok (f_Mo_tell_222 F (f_Mo_tell_125 F sz wr s NB wN wF hN hF' bN bF mN mF fN fF LN KN n) sz wr s NB wN wF hN hF' bN bF mN mF fN fF LN KN F e q wg B LF' KF tree band block bound x66 li x57 x60 x69) (fun v => (v.1.toInt = 0 ∨ v.1.toInt = 1) ∧ v.2.1 = e ∧ v.2.2.1 = q ∧ v.2.2.2.1 = wg ∧ v.2.2.2.2.1 = B ∧ v.2.2.2.2.2.2 = KF ∧ ∀ i : Nat, ¬ (T ≤ i ∧ (i : Int) < T + 2048) → v.2.2.2.2.2.1 i = L00 i) := by
      intro LF' h7'
      have un : ∀ rec125, f_Mo_tell_222 F rec125 sz wr s NB wN wF hN hF' bN bF mN mF fN fF LN KN F e q wg B LF' KF tree band block bound x66 li x57 x60 x69 = g_Mo_tell_222 F rec125 (f_Mo_tell_222 F rec125 sz wr s NB wN wF hN hF' bN bF mN mF fN fF LN KN F') sz wr s NB wN wF hN hF' bN bF mN mF fN fF LN KN e q wg B LF' KF tree band block bound x66 li x57 x60 x69 := by
        intro rec125
        conv => lhs; rw [show f_Mo_tell_222 F rec125 sz wr s NB wN wF hN hF' bN bF mN mF fN fF LN KN F = f_Mo_tell_222 F rec125 sz wr s NB wN wF hN hF' bN bF mN mF fN fF LN KN (F' + 1) from by rw [← hF'1]]
        rfl
      rw [un]
      simp only [g_Mo_tell_222, g_Mo_tell_318, clamp_eq]
      refine ok_eq (fun c0 => by omega) (fun _ => ?_)
      refine ok_in (by omega) (ok_v (ok_in (by omega) (ok_v (ok_add (by omega) (fun z hz => ?_)))))
      exact ih n e q B LF' KF _ _ z x66 (by omega) (by omega) (by omega) (by omega) hk69 h6 h7'
    refine ok_le (fun _ => fin LF h7) (fun _ => ?_)
    exact ok_in (by omega) (fin _ (fun i hi => by rw [upd_no (by omega)]; exact h7 i hi))

/-- a node's bits, read: class and reference in step -/
theorem s_nodeR {F : Nat} {nN lN kN nn MX : Nat} {nF pF l0 k0 L0 K0 : Nat → Int32} {st en c : Int32} {N : Nat} {R : Nat → Int32} {sz wr s : Int32} {B : Nat → Int32} {wN hN bN mN fN LN KN : Nat} {wF hF' bF mF fF : Nat → Int32} {leaf bound tree band block base li xi yi node node' v6 : Int32} {ρ : Nat → Nat} {x : Nat}
    {rec55 : (Nat → Int32) → (Nat → Int32) → (Nat → Int32) → Int32 → Int32 → Int32 → Int32 → Int32 → Int32 → Int32 → Int32 → Option (Int32 × (Nat → Int32) × (Nat → Int32) × (Nat → Int32) × Int32 × Int32 × Int32 × Int32)}
    {rec125 : Int32 → Int32 → Int32 → (Nat → Int32) → (Nat → Int32) → (Nat → Int32) → Int32 → Int32 → Int32 → Int32 → Int32 → Int32 → Int32 → Int32 → Option (Int32 × Int32 × Int32 × Int32 × (Nat → Int32) × (Nat → Int32) × (Nat → Int32))}
    {Q : Int32 × (Nat → Int32) × (Nat → Int32) × (Nat → Int32) × Int32 × Int32 × Int32 × Int32 → Int32 × Int32 × Int32 × Int32 × (Nat → Int32) × (Nat → Int32) × (Nat → Int32) → Prop}
    (hw : wr.toInt = 0) (hn : nn ≤ nN ∧ nn ≤ lN ∧ nn ≤ kN ∧ LN = 24576 ∧ KN = 24576 ∧ MX ≤ 1000 ∧ x < nn ∧ ρ x < 24576) (hx : node.toInt = x) (hx' : node'.toInt = ρ x) (hb : bound.toInt ≤ MX) (hv6 : -1000 ≤ v6.toInt ∧ v6.toInt ≤ 1000 ∧ li.toInt = v6.toInt) (hinj : Inj nn ρ)
    (cont : ∀ (lF kF : Nat → Int32) (n0 la lf lk e q wg : Int32) (LF KF : Nat → Int32) (v6' li' : Int32), v6'.toInt = v6.toInt - 1 → li'.toInt = v6.toInt - 1 → TR nn ρ kF KF → (wg.toInt = 0 → TR nn ρ lF LF) → TSR nn MX lF kF → (∀ y, ¬ y = x → lF y = l0 y ∧ kF y = k0 y) → (∀ i, ¬ i = ρ x → LF i = L0 i ∧ KF i = K0 i) → RelR st n0 en la lf lk c N R sz s e q wg B → Ok (rec55 pF lF kF n0 la lf lk leaf bound (lF x) v6') (fun u => Ok (rec125 e q wg B LF KF tree band block bound base (LF (ρ x)) (KF (ρ x)) li') (fun v => Q u v))) :
    ∀ (m n n' : Nat) (lF kF : Nat → Int32) (n0 la lf lk e q wg : Int32) (LF KF : Nat → Int32) (k : Int32), wg.toInt = 0 → TR nn ρ lF LF → TR nn ρ kF KF → TSR nn MX lF kF → (∀ y, ¬ y = x → lF y = l0 y ∧ kF y = k0 y) → (∀ i, ¬ i = ρ x → LF i = L0 i ∧ KF i = K0 i) → ((kF x).toInt = 1 ∨ ((lF x).toInt = k.toInt ∧ bound.toInt - k.toInt ≤ m)) → m + 1 < n → m + 1 < n' → RelR st n0 en la lf lk c N R sz s e q wg B →
      Ok (f_Trees_tellR_97 F rec55 nN nF lN kN en c N R n pF lF kF n0 la lf lk leaf bound v6 node k) (fun u => Ok (f_Mo_tell_222 F rec125 sz wr s 262144 wN wF hN hF' bN bF mN mF fN fF LN KN n' e q wg B LF KF tree band block bound base li xi yi node') (fun v => Q u v)) := by
  have L := lits
  have e1 : node.toInt.toNat = x := by omega
  have e2 : node'.toInt.toNat = ρ x := by omega
  have ex : ∀ (n n' : Nat) (lF kF : Nat → Int32) (n0 la lf lk e q wg : Int32) (LF KF : Nat → Int32) (k : Int32), (wg.toInt = 0 → TR nn ρ lF LF) → TR nn ρ kF KF → TSR nn MX lF kF → (∀ y, ¬ y = x → lF y = l0 y ∧ kF y = k0 y) → (∀ i, ¬ i = ρ x → LF i = L0 i ∧ KF i = K0 i) → ((kF x).toInt = 1 ∨ ((lF x).toInt = k.toInt ∧ bound.toInt ≤ k.toInt)) → RelR st n0 en la lf lk c N R sz s e q wg B →
      Ok (f_Trees_tellR_97 F rec55 nN nF lN kN en c N R (n + 1) pF lF kF n0 la lf lk leaf bound v6 node k) (fun u => Ok (f_Mo_tell_222 F rec125 sz wr s 262144 wN wF hN hF' bN bF mN mF fN fF LN KN (n' + 1) e q wg B LF KF tree band block bound base li xi yi node') (fun v => Q u v)) := by
    intro n n' lF kF n0 la lf lk e q wg LF KF k hl hk hs hfr hfR hd hrel
    have qk := hk x hn.2.2.2.2.2.2.1
    have ql := fun z => hl z x hn.2.2.2.2.2.2.1
    simp only [f_Trees_tellR_97, g_Trees_tellR_97, g_Trees_tellR_166, f_Mo_tell_222, g_Mo_tell_222, g_Mo_tell_318, clamp_eq, e1, e2]
    have go : Ok (asm (vp_in node lN) (letb (lF x) fun x21 => letb (v6 + (-1)) fun x22 => rec55 pF lF kF n0 la lf lk leaf bound x21 x22)) (fun u => Ok (asm (vp_in node' LN) (letb (LF (ρ x)) fun x45 => asm (vp_in node' KN) (letb (KF (ρ x)) fun x46 => letb (li + (-1)) fun x47 => rec125 e q wg B LF KF tree band block bound base x45 x46 x47))) (fun v => Q u v)) := by
      refine ok_in (by omega) (ok_v (ok_add (by omega) (fun y hy => ?_)))
      refine ok_swap (ok_in (by omega) (ok_v (ok_in (by omega) (ok_v (ok_add (by omega) (fun z hz => ok_swap ?_))))))
      exact cont lF kF n0 la lf lk e q wg LF KF y z (by omega) (by omega) hk hl hs hfr hfR hrel
    have goC : ∀ {P : Int32 × (Nat → Int32) × (Nat → Int32) × (Nat → Int32) × Int32 × Int32 × Int32 × Int32 → Prop}, Ok (asm (vp_in node lN) (letb (lF x) fun x21 => letb (v6 + (-1)) fun x22 => rec55 pF lF kF n0 la lf lk leaf bound x21 x22)) P → Ok (if bound ≤ k then (asm (vp_in node lN) (letb (lF x) fun x18 => letb (v6 + (-1)) fun x19 => rec55 pF lF kF n0 la lf lk leaf bound x18 x19)) else (asm (vp_in node kN) (letb (kF x) fun x25 => if x25 = 0 then (asm (vp_in node nN) (letb (nF x) fun x26 => if x26 = k then (g_Trees_tellR_137 F rec55 (f_Trees_tellR_97 F rec55 nN nF lN kN en c N R n) lN kN en c N R pF lF kF n0 la lf lk leaf bound v6 node k 1 node) else (g_Trees_tellR_137 F rec55 (f_Trees_tellR_97 F rec55 nN nF lN kN en c N R n) lN kN en c N R pF lF kF n0 la lf lk leaf bound v6 node k 0 node))) else (asm (vp_in node lN) (letb (lF x) fun x18 => letb (v6 + (-1)) fun x19 => rec55 pF lF kF n0 la lf lk leaf bound x18 x19))))) P := by
      intro P hgo
      refine ok_le (fun _ => hgo) (fun c2 => ?_)
      refine ok_in (by omega) (ok_v ?_)
      exact ok_eq (fun c3 => by omega) (fun c3 => hgo)
    refine ok_swap (ok_eq (fun c0 => ?_) (fun c0 => ok_swap (goC go)))
    have ql := ql (by omega)
    refine ok_in (by omega) (ok_v ?_)
    refine ok_le (fun c1 => ok_swap (goC go)) (fun c1 => ?_)
    refine ok_in (by omega) (ok_v ?_)
    refine ok_eq (fun c3 => ?_) (fun c3 => ok_swap (goC go))
    rw [← qk] at c3
    rw [← ql] at c1
    omega
  intro m
  induction m with
  | zero =>
    intro n n' lF kF n0 la lf lk e q wg LF KF k hg hl hk hs hfr hfR hd h3 h4 hrel
    obtain ⟨n, rfl⟩ : ∃ y, n = y + 1 := ⟨n - 1, by omega⟩
    obtain ⟨n', rfl⟩ : ∃ y, n' = y + 1 := ⟨n' - 1, by omega⟩
    exact ex n n' lF kF n0 la lf lk e q wg LF KF k (fun _ => hl) hk hs hfr hfR (by omega) hrel
  | succ m ih =>
    intro n n' lF kF n0 la lf lk e q wg LF KF k hg hl hk hs hfr hfR hd h3 h4 hrel
    obtain ⟨n, rfl⟩ : ∃ y, n = y + 1 := ⟨n - 1, by omega⟩
    obtain ⟨n', rfl⟩ : ∃ y, n' = y + 1 := ⟨n' - 1, by omega⟩
    by_cases hq : (kF x).toInt = 1 ∨ ((lF x).toInt = k.toInt ∧ bound.toInt ≤ k.toInt)
    · exact ex n n' lF kF n0 la lf lk e q wg LF KF k (fun _ => hl) hk hs hfr hfR hq hrel
    have hsx := hs x hn.2.2.2.2.2.2.1
    have hlk : (lF x).toInt = k.toInt ∧ bound.toInt - k.toInt ≤ (m + 1 : Nat) := by omega
    have hk0 : (kF x).toInt = 0 := by omega
    have hkb : k.toInt < bound.toInt := by omega
    have ql := hl x hn.2.2.2.2.2.2.1
    have qk := hk x hn.2.2.2.2.2.2.1
    have elk : lF x = k := ti_ofI hlk.1
    obtain ⟨n2, hn2⟩ : ∃ y, n = y + 1 := ⟨n - 1, by omega⟩
    obtain ⟨n2', hn2'⟩ : ∃ y, n' = y + 1 := ⟨n' - 1, by omega⟩
    have step : Ok (bd (f_Source_bit F n0 en la lf lk c N R) fun u20 => asm (vp_in node kN) (letb (k + 1) fun x21 => asm (vp_in node kN) (letb ((upd kF x u20.1) x) fun x22 => letb (x21 - x22) fun x23 => asm (vp_in node lN) (letb (k + 1) fun x24 => f_Trees_tellR_97 F rec55 nN nF lN kN en c N R n pF (upd lF x x23) (upd kF x u20.1) u20.2.1 u20.2.2.1 u20.2.2.2.1 u20.2.2.2.2 leaf bound v6 node x24))))
        (fun u => Ok (bd (f_Mo_code F sz wr s e q wg 262144 B 0) fun u48 => if u48.1 = 1 then (asm (vp_in node' KN) (f_Mo_tell_222 F rec125 sz wr s 262144 wN wF hN hF' bN bF mN mF fN fF LN KN n' u48.2.1 u48.2.2.1 u48.2.2.2.1 u48.2.2.2.2 LF (upd KF (ρ x) (vp_nar .boolean 1)) tree band block bound base li xi yi node')) else (asm (vp_in node' LN) (letb (LF (ρ x)) fun x49 => letb (x49 + 1) fun x50 => asm (vp_in node' LN) (f_Mo_tell_222 F rec125 sz wr s 262144 wN wF hN hF' bN bF mN mF fN fF LN KN n' u48.2.1 u48.2.2.1 u48.2.2.2.1 u48.2.2.2.2 (upd LF (ρ x) x50) KF tree band block bound base li xi yi node')))) (fun v => Q u v)) := by
      refine ok_b2 (s_bitR hw hrel) (fun u v hq2 => ?_)
      obtain ⟨q1, q2, q3, q4, q5⟩ := hq2
      rw [q1, q3]
      refine ok_in (by omega) (ok_add (by omega) (fun y21 f21 => ok_in (by omega) ?_))
      rw [upd_is]
      refine ok_v (ok_sub (by omega) (fun y23 f23 => ok_in (by omega) (ok_add (by omega) (fun y24 f24 => ?_))))
      refine ok_swap (ok_eq (fun c1 => ?_) (fun c1 => ?_))
      · refine ok_in (by omega) (ok_swap ?_)
        have e23 : y23 = lF x := ti_ofI (by omega)
        have ev : v.1 = 1 := ti_ofI c1
        rw [e23, upd_self, nar1, ev, hn2, hn2']
        exact ex n2 n2' lF (upd kF x 1) _ _ _ _ _ _ _ LF (upd KF (ρ x) 1) y24 (fun _ => hl) (hk.upd hinj hn.2.2.2.2.2.2.1 1) (hs.kn (by omega)) (fun y hy => ⟨(hfr y hy).1, by rw [upd_no hy]; exact (hfr y hy).2⟩) (fun i hi => ⟨(hfR i hi).1, by rw [upd_no hi]; exact (hfR i hi).2⟩) (Or.inl (by rw [upd_is]; omega)) q4
      · have ev : v.1 = kF x := ti_ofI (by omega)
        refine ok_in (by omega) (ok_v (ok_add (by rw [← ql]; omega) (fun y50 f50 => ok_in (by omega) (ok_swap ?_))))
        rw [← ql] at f50
        have e50 : y50 = y23 := ti_ofI (by omega)
        rw [ev, upd_self, e50]
        have hs2 : TSR nn MX (upd lF x y23) kF := hs.lo (by omega)
        have hl2 := hl.upd hinj hn.2.2.2.2.2.2.1 y23
        have fr2 : ∀ y, ¬ y = x → (upd lF x y23) y = l0 y ∧ kF y = k0 y := fun y hy => ⟨by rw [upd_no hy]; exact (hfr y hy).1, (hfr y hy).2⟩
        have fR2 : ∀ i, ¬ i = ρ x → (upd LF (ρ x) y23) i = L0 i ∧ KF i = K0 i := fun i hi => ⟨by rw [upd_no hi]; exact (hfR i hi).1, (hfR i hi).2⟩
        by_cases hgb : v.2.2.2.1.toInt = 0
        · exact ih n n' (upd lF x y23) kF _ _ _ _ _ _ _ (upd LF (ρ x) y23) KF y24 hgb hl2 hk hs2 fr2 fR2 (Or.inr ⟨by rw [upd_is]; omega, by omega⟩) (by omega) (by omega) q4
        · have hsb := q4.sb hgb
          rw [hn2']
          simp only [f_Mo_tell_222, g_Mo_tell_222, g_Mo_tell_318, clamp_eq, e2]
          refine ok_swap (ok_eq (fun z => by omega) (fun _ => ?_))
          refine ok_in (by omega) (ok_v (ok_in (by omega) (ok_v (ok_add (by omega) (fun z hz => ok_swap ?_)))))
          refine w_nodeRx (l0 := upd lF x y23) (k0 := kF) hsb.1 ⟨by omega, by omega, by omega, by omega, hn.2.2.2.2.2.2.1⟩ hx hb (by omega) (fun lF2 kF2 v6' a1 a2 a3 a4 => ?_) (m + 1) n (upd lF x y23) kF y24 hs2 rfl (fun _ _ => rfl) (by rw [upd_is]; omega) (by omega) (by omega)
          subst a3
          exact cont lF2 kF2 _ _ _ _ _ _ _ (upd LF (ρ x) y23) KF v6' z a1 (by omega) hk (fun z => absurd z hgb) a2 (fun y hy => ⟨(a4 y hy).trans (fr2 y hy).1, (fr2 y hy).2⟩) fR2 q4
    simp only [f_Trees_tellR_97, g_Trees_tellR_97, g_Trees_tellR_137, g_Trees_tellR_166, f_Mo_tell_222, g_Mo_tell_222, g_Mo_tell_285, g_Mo_tell_286, g_Mo_tell_318, clamp_eq, e1, e2]
    refine ok_le (fun c1 => by omega) (fun c1 => ?_)
    refine ok_in (by omega) (ok_v (ok_eq (fun _ => ?_) (fun c0 => by omega)))
    refine ok_in (by omega) (ok_v ?_)
    refine ok_swap (ok_eq (fun _ => ?_) (fun c0 => by omega))
    refine ok_in (by omega) (ok_v (ok_le (fun c2 => by rw [← ql] at c2; omega) (fun c2 => ?_)))
    refine ok_in (by omega) (ok_v (ok_eq (fun _ => ?_) (fun c0 => by rw [← qk] at c0; omega)))
    refine ok_eq (fun _ => ok_swap ?_) (fun c0 => by omega)
    exact ok_eq (fun _ => step) (fun _ => step)
