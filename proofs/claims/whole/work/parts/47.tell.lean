/-! A tree's telling, on both sides at once. -/
def TR (n : Nat) (ρ : Nat → Nat) (a b : Nat → Int32) : Prop := ∀ x, x < n → a x = b (ρ x)
def Inj (n : Nat) (ρ : Nat → Nat) : Prop := ∀ x y, x < n → y < n → ρ x = ρ y → x = y
theorem TR.upd {n : Nat} {ρ : Nat → Nat} {a b : Nat → Int32} (h : TR n ρ a b) (hi : Inj n ρ) {x : Nat} (hx : x < n) (v : Int32) : TR n ρ (upd a x v) (upd b (ρ x) v) := by
  intro y hy
  by_cases e : y = x
  · rw [e, upd_is, upd_is]
  · rw [upd_no e, upd_no (fun q => e (hi y x hy hx q))]; exact h y hy
def TSafe (n MX : Nat) (lo kn : Nat → Int32) : Prop := ∀ x, x < n → 0 ≤ (lo x).toInt ∧ (lo x).toInt ≤ MX ∧ ((kn x).toInt = 0 ∨ ((kn x).toInt = 1 ∧ (lo x).toInt < MX))
def NumInv (n : Nat) (nu lo kn : Nat → Int32) : Prop := ∀ x, x < n → ((kn x).toInt = 1 → (lo x).toInt = (nu x).toInt) ∧ ((kn x).toInt = 0 → (lo x).toInt ≤ (nu x).toInt)
def Path (ab : Nat → Int32) (xs : Nat → Nat) (top n : Nat) : Prop := (∀ l, l < top → (ab (xs l)).toInt = xs (l + 1)) ∧ (ab (xs top)).toInt = -1 ∧ ∀ l, l ≤ top → xs l < n
/-- how much was told so far -/
def pot (lo kn : Nat → Int32) : Nat → Nat
  | 0 => 0
  | n + 1 => pot lo kn n + (lo n).toInt.toNat + (kn n).toInt.toNat
theorem pot_s (lo kn : Nat → Int32) (n : Nat) : pot lo kn (n + 1) = pot lo kn n + (lo n).toInt.toNat + (kn n).toInt.toNat := rfl
theorem pot_congr {lo kn lo' kn' : Nat → Int32} : ∀ {n : Nat}, (∀ x, x < n → lo x = lo' x) → (∀ x, x < n → kn x = kn' x) → pot lo kn n = pot lo' kn' n := by
  intro n
  induction n with
  | zero => intro _ _; rfl
  | succ n ih => intro h1 h2; rw [pot_s, pot_s, ih (fun x hx => h1 x (by omega)) (fun x hx => h2 x (by omega)), h1 n (by omega), h2 n (by omega)]
theorem pot_lo {lo kn : Nat → Int32} {x : Nat} {v : Int32} : ∀ {n : Nat}, x < n → pot (upd lo x v) kn n + (lo x).toInt.toNat = pot lo kn n + v.toInt.toNat := by
  intro n
  induction n with
  | zero => intro h; omega
  | succ n ih =>
    intro h
    rw [pot_s, pot_s]
    by_cases e : x = n
    · subst e
      rw [upd_is, pot_congr (lo := upd lo x v) (lo' := lo) (kn' := kn) (fun y hy => upd_no (by omega)) (fun _ _ => rfl)]
      omega
    · rw [upd_no (by omega)]
      have := ih (by omega)
      omega
theorem pot_kn {lo kn : Nat → Int32} {x : Nat} {v : Int32} : ∀ {n : Nat}, x < n → pot lo (upd kn x v) n + (kn x).toInt.toNat = pot lo kn n + v.toInt.toNat := by
  intro n
  induction n with
  | zero => intro h; omega
  | succ n ih =>
    intro h
    rw [pot_s, pot_s]
    by_cases e : x = n
    · subst e
      rw [upd_is, pot_congr (kn := upd kn x v) (kn' := kn) (lo' := lo) (fun _ _ => rfl) (fun y hy => upd_no (by omega))]
      omega
    · rw [upd_no (by omega)]
      have := ih (by omega)
      omega
theorem pot_max {lo kn : Nat → Int32} {MX : Nat} : ∀ {n : Nat}, TSafe n MX lo kn → pot lo kn n ≤ n * (MX + 1) := by
  intro n
  induction n with
  | zero => intro _; exact Nat.zero_le _
  | succ n ih =>
    intro h
    have h1 := ih (fun x hx => h x (by omega))
    have h2 := h n (by omega)
    rw [pot_s, Nat.add_mul, Nat.one_mul]
    omega
/-- a node that isn't done leaves something to tell -/
theorem pot_room {lo kn : Nat → Int32} {MX n x : Nat} (h : TSafe n MX lo kn) (hm : MX ≤ 100000) (hx : x < n) (hk : (kn x).toInt = 0) (hl : (lo x).toInt < MX) : pot lo kn n + 1 ≤ n * (MX + 1) := by
  have h0 := h x hx
  have h4 : (lo x + 1).toInt = (lo x).toInt + 1 := by
    rw [ti_add] <;> rw [show (1 : Int32).toInt = 1 from by decide]
    omega
  have h1 : TSafe n MX (upd lo x (lo x + 1)) kn := by
    intro y hy
    by_cases e : y = x
    · rw [e, upd_is, h4]; omega
    · rw [upd_no e]; exact h y hy
  have h2 := pot_max h1
  have h3 := pot_lo (kn := kn) (v := lo x + 1) (lo := lo) hx
  omega
theorem TSafe.lo {n MX : Nat} {lo kn : Nat → Int32} (h : TSafe n MX lo kn) {x : Nat} {v : Int32} (hv : 0 ≤ v.toInt ∧ v.toInt ≤ MX ∧ ((kn x).toInt = 1 → v.toInt < MX)) : TSafe n MX (upd lo x v) kn := by
  intro y hy
  by_cases e : y = x
  · have := h y hy
    rw [e] at this
    rw [e, upd_is]; omega
  · rw [upd_no e]; exact h y hy
theorem TSafe.kn {n MX : Nat} {lo kn : Nat → Int32} (h : TSafe n MX lo kn) {x : Nat} {v : Int32} (hv : v.toInt = 0 ∨ (v.toInt = 1 ∧ (lo x).toInt < MX)) : TSafe n MX lo (upd kn x v) := by
  intro y hy
  by_cases e : y = x
  · have := h y hy
    rw [e] at this
    rw [e, upd_is]; omega
  · rw [upd_no e]; exact h y hy
theorem upd_self (f : Nat → Int32) (i : Nat) : upd f i (f i) = f := by
  funext j
  by_cases h : j = i
  · rw [h, upd_is]
  · rw [upd_no h]
/-- the class builds its path first -/
theorem w_pathW {F : Nat} {pN nN lN kN aN nn : Nat} {nF lF kF aF : Nat → Int32} {g r c : Int32} {N : Nat} {R : Nat → Int32} {leaf bound : Int32} {top : Nat} {xs : Nat → Nat} {P : Nat × Nat × Int32 × (Nat → Int32) × (Nat → Int32) × (Nat → Int32) × Int32 × Int32 × Int32 × Nat × (Nat → Int32) → Prop}
    (hp : pN = 7 ∧ nn ≤ aN ∧ nn ≤ 100000 ∧ top ≤ 6) (hpath : Path aF xs top nn)
    (k : ∀ (pF : Nat → Int32) (t : Int32), (∀ l, l ≤ top → (pF l).toInt = xs l) → t.toInt = top → Ok (f_Trees_tellW_55 F pN nN nF lN kN F pF lF kF g r c N R leaf bound 0 t) P) :
    ∀ (j n : Nat) (pF : Nat → Int32) (v x : Int32), j ≤ top + 1 → (j : Int) = v.toInt → (∀ l, l < j → (pF l).toInt = xs l) → (j ≤ top → x.toInt = xs j) → (j = top + 1 → x.toInt = -1) → top + 1 < j + n → Ok (f_Trees_tellW_6 F pN nN nF lN kN aN aF n pF lF kF g r c N R leaf bound v x) P := by
  have L := lits
  intro j n
  induction n generalizing j with
  | zero => intro pF v x h1 h2 h3 h4 h5 h6; omega
  | succ n ih =>
    intro pF v x h1 h2 h3 h4 h5 h6
    simp only [f_Trees_tellW_6, g_Trees_tellW_6, g_Trees_tellW_46, clamp_eq]
    by_cases hj : j = top + 1
    · have := h5 hj
      refine ok_eq (fun hc => ?_) (fun hc => by omega)
      exact ok_sub (by omega) (fun t ht => k pF t (fun l hl => h3 l (by omega)) (by omega))
    · have hx := h4 (by omega)
      have hb := hpath.2.2 j (by omega)
      refine ok_eq (fun hc => by omega) (fun hc => ?_)
      refine ok_le (fun hc => by omega) (fun hc => ?_)
      refine ok_in (by omega) (ok_add (by omega) (fun y hy => ok_in (by omega) (ok_rd (fun z hz => ?_))))
      rw [show x.toInt.toNat = xs j from by omega] at hz
      refine ih (j + 1) _ y z (by omega) (by omega) (fun l hl => ?_) (fun hl => ?_) (fun hl => ?_) (by omega)
      · by_cases e : l = v.toInt.toNat
        · rw [e, upd_is, hx, show v.toInt.toNat = j from by omega]
        · rw [upd_no e]; exact h3 l (by omega)
      · rw [hz]; exact hpath.1 j (by omega)
      · rw [hz, show j = top from by omega]; exact hpath.2.1
theorem w_pathR {F : Nat} {pN nN lN kN aN nn : Nat} {nF lF kF aF : Nat → Int32} {n0 en la lf lk c : Int32} {N : Nat} {R : Nat → Int32} {leaf bound : Int32} {top : Nat} {xs : Nat → Nat} {P : Int32 × (Nat → Int32) × (Nat → Int32) × (Nat → Int32) × Int32 × Int32 × Int32 × Int32 → Prop}
    (hp : pN = 7 ∧ nn ≤ aN ∧ nn ≤ 100000 ∧ top ≤ 6) (hpath : Path aF xs top nn)
    (k : ∀ (pF : Nat → Int32) (t : Int32), (∀ l, l ≤ top → (pF l).toInt = xs l) → t.toInt = top → Ok (f_Trees_tellR_55 F pN nN nF lN kN en c N R F pF lF kF n0 la lf lk leaf bound 0 t) P) :
    ∀ (j n : Nat) (pF : Nat → Int32) (v x : Int32), j ≤ top + 1 → (j : Int) = v.toInt → (∀ l, l < j → (pF l).toInt = xs l) → (j ≤ top → x.toInt = xs j) → (j = top + 1 → x.toInt = -1) → top + 1 < j + n → Ok (f_Trees_tellR_6 F pN nN nF lN kN aN aF en c N R n pF lF kF n0 la lf lk leaf bound v x) P := by
  have L := lits
  intro j n
  induction n generalizing j with
  | zero => intro pF v x h1 h2 h3 h4 h5 h6; omega
  | succ n ih =>
    intro pF v x h1 h2 h3 h4 h5 h6
    simp only [f_Trees_tellR_6, g_Trees_tellR_6, g_Trees_tellR_46, clamp_eq]
    by_cases hj : j = top + 1
    · have := h5 hj
      refine ok_eq (fun hc => ?_) (fun hc => by omega)
      exact ok_sub (by omega) (fun t ht => k pF t (fun l hl => h3 l (by omega)) (by omega))
    · have hx := h4 (by omega)
      have hb := hpath.2.2 j (by omega)
      refine ok_eq (fun hc => by omega) (fun hc => ?_)
      refine ok_le (fun hc => by omega) (fun hc => ?_)
      refine ok_in (by omega) (ok_add (by omega) (fun y hy => ok_in (by omega) (ok_rd (fun z hz => ?_))))
      rw [show x.toInt.toNat = xs j from by omega] at hz
      refine ih (j + 1) _ y z (by omega) (by omega) (fun l hl => ?_) (fun hl => ?_) (fun hl => ?_) (by omega)
      · by_cases e : l = v.toInt.toNat
        · rw [e, upd_is, hx, show v.toInt.toNat = j from by omega]
        · rw [upd_no e]; exact h3 l (by omega)
      · rw [hz]; exact hpath.1 j (by omega)
      · rw [hz, show j = top from by omega]; exact hpath.2.1
/-- a node's bits, written: class and reference in step, then whatever comes behind them -/
theorem s_nodeW {F : Nat} {nN lN kN nn MX C : Nat} {nF pF l0 k0 L0 K0 : Nat → Int32} {sz wr s wg : Int32} {wN hN bN mN fN LN KN : Nat} {wF hF' bF mF fF : Nat → Int32} {leaf bound tree band block base li xi yi node node' v6 : Int32} {ρ : Nat → Nat} {x : Nat}
    {rec55 : (Nat → Int32) → (Nat → Int32) → (Nat → Int32) → Int32 → Int32 → Int32 → Nat → (Nat → Int32) → Int32 → Int32 → Int32 → Int32 → Option (Nat × Nat × Int32 × (Nat → Int32) × (Nat → Int32) × (Nat → Int32) × Int32 × Int32 × Int32 × Nat × (Nat → Int32))}
    {rec125 : Int32 → Int32 → Int32 → (Nat → Int32) → (Nat → Int32) → (Nat → Int32) → Int32 → Int32 → Int32 → Int32 → Int32 → Int32 → Int32 → Int32 → Option (Int32 × Int32 × Int32 × Int32 × (Nat → Int32) × (Nat → Int32) × (Nat → Int32))}
    {Q : Nat → Nat × Nat × Int32 × (Nat → Int32) × (Nat → Int32) × (Nat → Int32) × Int32 × Int32 × Int32 × Nat × (Nat → Int32) → Int32 × Int32 × Int32 × Int32 × (Nat → Int32) × (Nat → Int32) × (Nat → Int32) → Prop}
    (hw : wr.toInt = 1) (hg : wg.toInt = 0) (hn : nn ≤ nN ∧ nn ≤ lN ∧ nn ≤ kN ∧ LN = 24576 ∧ KN = 24576 ∧ MX ≤ 1000 ∧ x < nn ∧ ρ x < 24576) (hx : node.toInt = x) (hx' : node'.toInt = ρ x) (hb : bound.toInt ≤ MX) (hv6 : -1000 ≤ v6.toInt ∧ v6.toInt ≤ 1000 ∧ li.toInt = v6.toInt) (hinj : Inj nn ρ) (hC : nn * (MX + 1) ≤ C)
    (hleast : Ok (f_Mo_least F hN hF' wN wF bN bF mN mF fN fF tree band li xi yi) (fun u => u = nF x))
    (hQ : ∀ (N N' a b : Nat) u v, 16 * a + N ≤ N' → b + 2 * N ≤ 2 * N' → Q N' u v → Q N (u.1 + a, u.2.1 + b, u.2.2) v)
    (cont : ∀ (lF kF : Nat → Int32) (g r c : Int32) (N : Nat) (R : Nat → Int32) (e q : Int32) (wg' : Int32) (B LF KF : Nat → Int32) (v6' li' : Int32), wg' = wg → v6'.toInt = v6.toInt - 1 → li'.toInt = v6.toInt - 1 → TR nn ρ lF LF → TR nn ρ kF KF → TSafe nn MX lF kF → NumInv nn nF lF kF → (∀ y, ¬ y = x → lF y = l0 y ∧ kF y = k0 y) → (∀ i, ¬ i = ρ x → LF i = L0 i ∧ KF i = K0 i) → (bound.toInt ≤ (lF x).toInt ∨ (kF x).toInt = 1) → RelW (C - pot lF kF nn) g r c N R s e q B → Ok (rec55 pF lF kF g r c N R leaf bound (lF x) v6') (fun u => Ok (rec125 e q wg' B LF KF tree band block bound base (LF (ρ x)) (KF (ρ x)) li') (fun v => Q N u v))) :
    ∀ (m n n' : Nat) (lF kF : Nat → Int32) (g r c : Int32) (N : Nat) (R : Nat → Int32) (e q wg' : Int32) (B LF KF : Nat → Int32) (k : Int32), wg' = wg → TR nn ρ lF LF → TR nn ρ kF KF → TSafe nn MX lF kF → NumInv nn nF lF kF → (∀ y, ¬ y = x → lF y = l0 y ∧ kF y = k0 y) → (∀ i, ¬ i = ρ x → LF i = L0 i ∧ KF i = K0 i) → ((kF x).toInt = 1 ∨ ((lF x).toInt = k.toInt ∧ bound.toInt - k.toInt ≤ m)) → m + 1 < n → m + 1 < n' → RelW (C - pot lF kF nn) g r c N R s e q B →
      Ok (f_Trees_tellW_97 F rec55 nN nF lN kN n pF lF kF g r c N R leaf bound v6 node k) (fun u => Ok (f_Mo_tell_222 F rec125 sz wr s 262144 wN wF hN hF' bN bF mN mF fN fF LN KN n' e q wg' B LF KF tree band block bound base li xi yi node') (fun v => Q N u v)) := by
  have L := lits
  have e1 : node.toInt.toNat = x := by omega
  have e2 : node'.toInt.toNat = ρ x := by omega
  have ex : ∀ (n n' : Nat) (lF kF : Nat → Int32) (g r c : Int32) (N : Nat) (R : Nat → Int32) (e q wg' : Int32) (B LF KF : Nat → Int32) (k : Int32), wg' = wg → TR nn ρ lF LF → TR nn ρ kF KF → TSafe nn MX lF kF → NumInv nn nF lF kF → (∀ y, ¬ y = x → lF y = l0 y ∧ kF y = k0 y) → (∀ i, ¬ i = ρ x → LF i = L0 i ∧ KF i = K0 i) → ((kF x).toInt = 1 ∨ ((lF x).toInt = k.toInt ∧ bound.toInt ≤ k.toInt)) → RelW (C - pot lF kF nn) g r c N R s e q B →
      Ok (f_Trees_tellW_97 F rec55 nN nF lN kN (n + 1) pF lF kF g r c N R leaf bound v6 node k) (fun u => Ok (f_Mo_tell_222 F rec125 sz wr s 262144 wN wF hN hF' bN bF mN mF fN fF LN KN (n' + 1) e q wg' B LF KF tree band block bound base li xi yi node') (fun v => Q N u v)) := by
    intro n n' lF kF g r c N R e q wg' B LF KF k hgw hl hk hs hni hfr hfR hd hrel
    have ql := hl x hn.2.2.2.2.2.2.1
    have qk := hk x hn.2.2.2.2.2.2.1
    rw [← hgw] at hg
    simp only [f_Trees_tellW_97, g_Trees_tellW_97, g_Trees_tellW_166, f_Mo_tell_222, g_Mo_tell_222, g_Mo_tell_318, clamp_eq, e1, e2, ← ql, ← qk]
    have go : Ok (asm (vp_in node lN) (letb (lF x) fun x21 => letb (v6 + (-1)) fun x22 => rec55 pF lF kF g r c N R leaf bound x21 x22)) (fun u => Ok (asm (vp_in node' LN) (letb (lF x) fun x45 => asm (vp_in node' KN) (letb (kF x) fun x46 => letb (li + (-1)) fun x47 => rec125 e q wg' B LF KF tree band block bound base x45 x46 x47))) (fun v => Q N u v)) := by
      refine ok_in (by omega) (ok_v (ok_add (by omega) (fun y hy => ?_)))
      refine ok_swap (ok_in (by omega) (ok_v (ok_in (by omega) (ok_v (ok_add (by omega) (fun z hz => ok_swap ?_))))))
      have := cont lF kF g r c N R e q wg' B LF KF y z hgw (by omega) (by omega) hl hk hs hni hfr hfR (by omega) hrel
      rw [← ql, ← qk] at this
      exact this
    refine ok_swap (ok_eq (fun _ => ?_) (fun c0 => by omega))
    refine ok_in (by omega) (ok_v ?_)
    refine ok_le (fun c1 => ok_swap ?_) (fun c1 => ?_)
    · refine ok_le (fun c2 => go) (fun c2 => ?_)
      refine ok_in (by omega) (ok_v ?_)
      exact ok_eq (fun c3 => by omega) (fun c3 => go)
    · refine ok_in (by omega) (ok_v ?_)
      refine ok_eq (fun c3 => by omega) (fun c3 => ok_swap ?_)
      refine ok_le (fun c2 => go) (fun c2 => ?_)
      refine ok_in (by omega) (ok_v ?_)
      exact ok_eq (fun c3 => by omega) (fun c3 => go)
  intro m
  induction m with
  | zero =>
    intro n n' lF kF g r c N R e q wg' B LF KF k hgw hl hk hs hni hfr hfR hd h3 h4 hrel
    obtain ⟨n, rfl⟩ : ∃ y, n = y + 1 := ⟨n - 1, by omega⟩
    obtain ⟨n', rfl⟩ : ∃ y, n' = y + 1 := ⟨n' - 1, by omega⟩
    exact ex n n' lF kF g r c N R e q wg' B LF KF k hgw hl hk hs hni hfr hfR (by omega) hrel
  | succ m ih =>
    intro n n' lF kF g r c N R e q wg' B LF KF k hgw hl hk hs hni hfr hfR hd h3 h4 hrel
    obtain ⟨n, rfl⟩ : ∃ y, n = y + 1 := ⟨n - 1, by omega⟩
    obtain ⟨n', rfl⟩ : ∃ y, n' = y + 1 := ⟨n' - 1, by omega⟩
    by_cases hq : (kF x).toInt = 1 ∨ ((lF x).toInt = k.toInt ∧ bound.toInt ≤ k.toInt)
    · exact ex n n' lF kF g r c N R e q wg' B LF KF k hgw hl hk hs hni hfr hfR hq hrel
    have hsx := hs x hn.2.2.2.2.2.2.1
    have hnx := hni x hn.2.2.2.2.2.2.1
    have hlk : (lF x).toInt = k.toInt ∧ bound.toInt - k.toInt ≤ (m + 1 : Nat) := by omega
    have hk0 : (kF x).toInt = 0 := by omega
    have hkb : k.toInt < bound.toInt := by omega
    have ql := hl x hn.2.2.2.2.2.2.1
    have qk := hk x hn.2.2.2.2.2.2.1
    have hroom := pot_room hs (by omega) hn.2.2.2.2.2.2.1 hk0 (by omega)
    have hrel2 : RelW (C - pot lF kF nn - 1 + 1) g r c N R s e q B := hrel.less (by omega)
    have elk : lF x = k := ti_ofI hlk.1
    have hg' : wg'.toInt = 0 := by rw [hgw]; exact hg
    simp only [f_Trees_tellW_97, g_Trees_tellW_97, g_Trees_tellW_137, g_Trees_tellW_166, f_Mo_tell_222, g_Mo_tell_222, g_Mo_tell_285, g_Mo_tell_286, g_Mo_tell_318, clamp_eq, e1, e2, ← ql, ← qk]
    refine ok_le (fun c1 => by omega) (fun c1 => ?_)
    refine ok_in (by omega) (ok_v (ok_eq (fun _ => ?_) (fun c0 => by omega)))
    refine ok_in (by omega) (ok_v ?_)
    refine ok_swap (ok_eq (fun _ => ?_) (fun c0 => by omega))
    refine ok_in (by omega) (ok_v (ok_le (fun c2 => by omega) (fun c2 => ?_)))
    refine ok_in (by omega) (ok_v (ok_eq (fun _ => ?_) (fun c0 => by omega)))
    refine ok_eq (fun c0 => by omega) (fun c0 => ?_)
    refine ok_bm hleast (fun u hu => ?_)
    subst hu
    refine ok_in (by omega) (ok_v ?_)
    refine ok_eq (fun cn => ?_) (fun cn => ?_)
    · -- the number is reached: a 1
      refine ok_swap (ok_eq (fun cm => ?_) (fun cm => by rw [elk] at cn; omega))
      refine ok_b2 (s_bitW hw hg' (by omega) hrel2) (fun u v hq2 => ?_)
      obtain ⟨q1, q2, q3, q4, q5, q6⟩ := hq2
      rw [q1, q2]
      refine ok_c ?_
      refine ok_in (by omega) (ok_add (by omega) (fun y27 f27 => ok_in (by omega) ?_))
      rw [upd_is]
      refine ok_v (ok_sub (by omega) (fun y29 f29 => ok_in (by omega) (ok_add (by omega) (fun y30 f30 => ?_))))
      refine ok_swap (ok_eq (fun _ => ?_) (fun c9 => absurd rfl c9))
      refine ok_in (by omega) (ok_swap ?_)
      have e29 : y29 = lF x := ti_ofI (by omega)
      rw [e29, upd_self, nar1]
      have hp := pot_kn (lo := lF) (v := (1 : Int32)) (kn := kF) hn.2.2.2.2.2.2.1
      obtain ⟨n2, hn2⟩ : ∃ y, n = y + 1 := ⟨n - 1, by omega⟩
      obtain ⟨n2', hn2'⟩ : ∃ y, n' = y + 1 := ⟨n' - 1, by omega⟩
      rw [hn2, hn2']
      refine ok_m (ex n2 n2' lF (upd kF x 1) _ _ _ _ _ _ _ _ _ LF (upd KF (ρ x) 1) y30 (by rw [q3]; exact hgw) hl (hk.upd hinj hn.2.2.2.2.2.2.1 1) (hs.kn (Or.inr ⟨by omega, by omega⟩)) ?_ (fun y hy => ⟨(hfr y hy).1, by rw [upd_no hy]; exact (hfr y hy).2⟩) (fun i hi => ⟨(hfR i hi).1, by rw [upd_no hi]; exact (hfR i hi).2⟩) (Or.inl (by rw [upd_is]; omega)) (q4.less (by omega))) (fun a ha => ok_m ha (fun b hb => hQ _ _ _ _ _ _ q5 q6 hb))
      intro y hy
      by_cases ey : y = x
      · rw [ey, upd_is]
        try dsimp only
        exact ⟨fun _ => by rw [elk]; omega, fun z => by omega⟩
      · rw [upd_no ey]; exact hni y hy
    · -- it isn't: a 0
      refine ok_swap (ok_eq (fun cm => by rw [elk] at cn; omega) (fun cm => ?_))
      refine ok_b2 (s_bitW hw hg' (by omega) hrel2) (fun u v hq2 => ?_)
      obtain ⟨q1, q2, q3, q4, q5, q6⟩ := hq2
      rw [q1, q2]
      refine ok_c ?_
      refine ok_in (by omega) (ok_add (by omega) (fun y27 f27 => ok_in (by omega) ?_))
      rw [upd_is]
      refine ok_v (ok_sub (by omega) (fun y29 f29 => ok_in (by omega) (ok_add (by omega) (fun y30 f30 => ?_))))
      refine ok_swap (ok_eq (fun c9 => by omega) (fun c9 => ?_))
      refine ok_in (by omega) (ok_v (ok_add (by omega) (fun y50 f50 => ok_in (by omega) (ok_swap ?_))))
      have e0 : (0 : Int32) = kF x := ti_ofI (by omega)
      have e50 : y50 = y29 := ti_ofI (by omega)
      have eku : upd kF x 0 = kF := by rw [e0, upd_self]
      rw [eku, e50]
      have hp := pot_lo (kn := kF) (v := y29) (lo := lF) hn.2.2.2.2.2.2.1
      refine ok_m (ih n n' (upd lF x y29) kF _ _ _ _ _ _ _ _ _ (upd LF (ρ x) y29) KF y30 (by rw [q3]; exact hgw) (hl.upd hinj hn.2.2.2.2.2.2.1 y29) hk (hs.lo ⟨by omega, by omega, fun z => by omega⟩) ?_ (fun y hy => ⟨by rw [upd_no hy]; exact (hfr y hy).1, (hfr y hy).2⟩) (fun i hi => ⟨by rw [upd_no hi]; exact (hfR i hi).1, (hfR i hi).2⟩) (Or.inr ⟨by rw [upd_is]; omega, by omega⟩) (by omega) (by omega) (q4.less (by omega))) (fun a ha => ok_m ha (fun b hb => hQ _ _ _ _ _ _ q5 q6 hb))
      intro y hy
      by_cases ey : y = x
      · rw [ey, upd_is]
        try dsimp only
        exact ⟨fun z => by omega, fun _ => by have := hnx.2 hk0; rw [elk] at cn; omega⟩
      · rw [upd_no ey]; exact hni y hy
