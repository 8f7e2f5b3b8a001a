/-! The beginning. -/
theorem p_init {F : Nat} : f_PH_init F = some (44, 558, 0, 16, (fun _ => 0), 0, 0, 0, 4, (fun _ => 0), 16, (fun _ => 0), 16, (fun _ => 0), 0, 0, 16, (fun _ => 0), 16, (fun _ => 0), 16, (fun _ => 0), 16, (fun _ => 0), 16, (fun _ => 0), 16, (fun _ => 0), 16, (fun _ => 0), 7, (fun _ => 0), 16, (fun _ => 0), 16, (fun _ => 0), 16, (fun _ => 0), 7, (fun _ => 0), 16, (fun _ => 0), 16, (fun _ => 0), 16, (fun _ => 0), 0, 0, 16, (fun _ => 0), 16, (fun _ => 0), 16, (fun _ => 0), 16, (fun _ => 0), 16, (fun _ => 0), 16, (fun _ => 0), 16, (fun _ => 0), 7, (fun _ => 0), 16, (fun _ => 0), 16, (fun _ => 0), 16, (fun _ => 0), 7, (fun _ => 0), 16, (fun _ => 0), 16, (fun _ => 0), 16, (fun _ => 0), 0, 0, 0, 0, 0, 0, 0, 0) := rfl
theorem ok_ca {α : Type} {a b k n k' n' : Nat} {o : Option (Nat × Nat × α)} {R : α → Prop} (hk : k + a = k') (hn : n + b = n') (h : Ok o (fun u => u.1 = k ∧ u.2.1 = n ∧ R u.2.2)) : Ok (addc a b o) (fun u => u.1 = k' ∧ u.2.1 = n' ∧ R u.2.2) := by
  refine ok_c (ok_m h (fun u hu => ⟨?_, ?_, hu.2.2⟩))
  · show u.1 + a = k'
    rw [hu.1]; exact hk
  · show u.2.1 + b = n'
    rw [hu.2.1]; exact hn
def MIR (r : Int32 × Nat × (Nat → Int32) × Nat × (Nat → Int32) × Nat × (Nat → Int32) × Nat × (Nat → Int32) × Nat × (Nat → Int32) × Nat × (Nat → Int32) × Nat × (Nat → Int32) × Nat × (Nat → Int32) × Nat × (Nat → Int32) × Nat × (Nat → Int32) × Nat × (Nat → Int32) × Nat × (Nat → Int32) × Nat × (Nat → Int32) × Nat × (Nat → Int32) × Nat × (Nat → Int32)) : Prop :=
  ∃ (P1 : Int32) (c1 W1 br1 fi1 mi1 to1 o1 Le1 : Nat → Int32), r = (P1, 3, (fun _ => 0), 3, (fun _ => 0), 4, (fun _ => 0), 262144, (fun _ => 0), 2048, c1, 2048, W1, 2048, br1, 2048, fi1, 2048, mi1, 2048, to1, 8200, o1, 8200, Le1, 2, (fun _ => 0), 24576, (fun _ => 0), 24576, (fun _ => 0)) ∧ P1.toInt = 0 ∧ (∀ j, j < 2048 → c1 j = 0 ∧ W1 j = 3 ∧ br1 j = 0 ∧ fi1 j = -1 ∧ mi1 j = (if j < 1024 then 0 else -1) ∧ to1 j = 0)
theorem m_init {F : Nat} (hF : 1000000 ≤ F) : Ok (f_Mo_init F) (fun u => u.1 = 15 ∧ u.2.1 = 339996 ∧ MIR u.2.2) := by
  have L := lits
  have l1024 : (1024 : Int32).toInt = 1024 := by decide
  unfold f_Mo_init
  refine ok_ca (k := 14) (n := 339993) (by omega) (by omega) ?_
  refine ok_ca (k := 13) (n := 339990) (by omega) (by omega) ?_
  refine ok_ca (k := 12) (n := 339986) (by omega) (by omega) ?_
  refine ok_ca (k := 11) (n := 77842) (by omega) (by omega) ?_
  refine ok_ca (k := 10) (n := 75794) (by omega) (by omega) ?_
  refine ok_ca (k := 9) (n := 73746) (by omega) (by omega) ?_
  refine ok_ca (k := 8) (n := 71698) (by omega) (by omega) ?_
  refine ok_ca (k := 7) (n := 69650) (by omega) (by omega) ?_
  refine ok_ca (k := 6) (n := 67602) (by omega) (by omega) ?_
  refine ok_ca (k := 5) (n := 65554) (by omega) (by omega) ?_
  refine ok_ca (k := 4) (n := 57354) (by omega) (by omega) ?_
  refine ok_ca (k := 3) (n := 49154) (by omega) (by omega) ?_
  refine ok_ca (k := 2) (n := 49152) (by omega) (by omega) ?_
  refine ok_ca (k := 1) (n := 24576) (by omega) (by omega) ?_
  refine ok_ca (k := 0) (n := 0) (by omega) (by omega) ?_
  refine ok_bm (m_fresh hF (Or.inl L.2.1) ⟨by omega, by omega⟩) (fun u7 e7 => ?_)
  obtain ⟨a1, a2, a3, a4, a5⟩ := e7
  rw [L.2.1] at a2 a3 a4 a5
  have hP7 : u7.1.toInt ≤ 8200 := by have := a2.1; omega
  refine ok_bm (m_fresh hF (Or.inr l1024) ⟨a1, hP7⟩) (fun u8 e8 => ?_)
  obtain ⟨b1, b2, b3, b4, b5⟩ := e8
  rw [l1024] at b2 b3 b4 b5
  have hcF : ∀ j, j < 2048 → u8.2.1 j = 0 ∧ u8.2.2.1 j = 3 ∧ u8.2.2.2.1 j = 0 ∧ u8.2.2.2.2.1 j = -1 ∧ u8.2.2.2.2.2.1 j = (if j < 1024 then 0 else -1) ∧ u8.2.2.2.2.2.2.2.2 j = 0 := by
    intro j hj
    have z1 := b3 j
    have z2 := a3 j
    by_cases q : j < 1024
    · have y1 := b4 j (by omega)
      have y2 := a5 j (by omega) (by omega)
      rw [if_neg (by omega)] at z1
      rw [if_pos (by omega)] at z2
      rw [if_pos rfl] at y2
      rw [if_pos q]
      try dsimp only
      exact ⟨y1.1.trans y2.1, y1.2.1.trans y2.2.1, y1.2.2.1.trans y2.2.2.1, y1.2.2.2.1.trans y2.2.2.2.1, y1.2.2.2.2.trans y2.2.2.2.2, z1.trans z2⟩
    · have y1 := b5 j (by omega) (by omega)
      rw [if_neg (by decide)] at y1
      rw [if_pos (by omega)] at z1
      rw [if_neg q]
      try dsimp only
      exact ⟨y1.1, y1.2.1, y1.2.2.1, y1.2.2.2.1, y1.2.2.2.2, z1⟩
  have hP8 : u8.1.toInt = 0 := by
    have k1 := a2.1
    have k2 := b2.1
    omega
  exact ok_s ⟨rfl, rfl, ⟨_, _, _, _, _, _, _, _, _, rfl, hP8, hcF⟩⟩
set_option maxHeartbeats 4000000 in
theorem law_ok {F L : Nat} {xs : Nat → Int32} (hF : 1000000 ≤ F) (hL : L ≤ 2560) : Ok (f_Law_law F L xs) (fun z => z.1 ≤ 45000 ∧ z.2.1 ≤ 1740000) := by
  have Li := lits
  have z0 : (0 : Int32).toInt = ((0 : Nat) : Int) := Li.2.1
  unfold f_Law_law
  refine ok_c ?_
  rw [p_init, bd_some]
  refine ok_c (ok_c (ok_bm (m_init hF) (fun v hv => ?_)))
  obtain ⟨nc, ns, v⟩ := v
  obtain ⟨hnc, hns, P1, c1, W1, br1, fi1, mi1, to1, o1, Le1, hv, h1, h2⟩ := hv
  dsimp only at hv hnc hns
  subst hv
  refine ok_c (ok_c ?_)
  dsimp only
  refine ok_m (st_all hF hL 512 F _ _ _ _ _ _ _ _ _ _ _ _ _ _ _ _ _ _ _ _ _ _ _ _ _ _ _ _ _ _ _ _ _ _ _ _ _ _ _ _ _ _ _ _ _ _ _ _ _ _ _ _ _ _ _ _ _ _ _ _ _ _ _ _ _ _ _ _ _ _ _ _ _ _ _ _ _ _ _ _ _ _ _ _ _ _ _ _ _ _ _ _ _ _ _ _ _ _ _ _ _ _ _ _ _ _ _ _ _ _ _ _ _ _ _ _ _ _ _ _ _ _ _ _ _ _ _ _ _ 0 (by omega) (by omega) (by omega) ?_) (fun z hz => ?_)
  · obtain ⟨b1, b2, b3⟩ := j_begin (w := fun _ => 0) (h := fun _ => 0) (st := 0) (lc := 0) (ov := 0) (rlc := 0) (lN := 16) (rlN := 16) (wF := (fun _ => 0)) (aF := (fun _ => 0)) (nF := (fun _ => 0)) (fF := (fun _ => 0)) (pF := (fun _ => 0)) (tF := (fun _ => 0)) (lF := (fun _ => 0)) (inu := (fun _ => 0)) (il := (fun _ => 0)) (ik := (fun _ => 0)) (onu := (fun _ => 0)) (ol := (fun _ => 0)) (ok := (fun _ => 0)) (RwF := (fun _ => 0)) (RaF := (fun _ => 0)) (RnF := (fun _ => 0)) (RfF := (fun _ => 0)) (RpF := (fun _ => 0)) (RlF := (fun _ => 0)) (Ri := (fun _ => 0)) (Ril := (fun _ => 0)) (Rik := (fun _ => 0)) (Rol := (fun _ => 0)) (Rok := (fun _ => 0)) (LF := (fun _ => 0)) (KF := (fun _ => 0)) (oF := o1) (LeF := Le1) ⟨Li.2.1, Li.2.1⟩ (fun _ _ => ⟨rfl, rfl⟩) h1 h2
    try dsimp only
    refine ⟨0, fun _ => 0, fun _ => 0, 0, 0, ⟨rfl, rfl, rfl, rfl, rfl, rfl, rfl, rfl, rfl, rfl, rfl, rfl, rfl, rfl, rfl, rfl, rfl⟩, ⟨⟨⟨by omega, fun i hi => by omega, Nat.zero_le _⟩, fun i l x y hi => by omega, fun i k hi => by omega⟩, ⟨z0, z0, z0, rfl⟩, fun j hj => ?_, fun i hi => by omega, ⟨Nat.zero_le _, by omega, by omega, Nat.zero_le _, by omega, by omega⟩⟩, ⟨rfl, by omega, by omega, ?_, by omega, by omega, fun i hi => rfl, fun i hi => by omega⟩, ⟨Or.inl Li.2.1, rfl, ⟨rfl, rfl⟩, ⟨z0, by omega⟩, ⟨z0, by omega⟩⟩, ⟨⟨Nat.zero_le _, Nat.zero_le _, Nat.zero_le _, Nat.zero_le _, Nat.zero_le _, Nat.zero_le _⟩, ⟨by omega, by omega, by omega, by omega, by omega, by omega, by omega, by omega, by omega, by omega, by omega, by omega⟩, ⟨by omega, by omega⟩, ⟨rfl, rfl⟩, ⟨Nat.zero_le _, Nat.zero_le _, Nat.zero_le _, Nat.zero_le _, Nat.zero_le _, Nat.zero_le _⟩, ⟨by omega, by omega, by omega, by omega, by omega, by omega, by omega, by omega, by omega, by omega, by omega, by omega⟩⟩, ⟨⟨Nat.zero_le _, Nat.zero_le _, Nat.zero_le _, Nat.zero_le _, Nat.zero_le _, Nat.zero_le _⟩, ⟨by omega, by omega, by omega, by omega, by omega, by omega, by omega, by omega, by omega, by omega, by omega, by omega⟩, ⟨by omega, by omega⟩, ⟨rfl, rfl⟩, ⟨Nat.zero_le _, Nat.zero_le _, Nat.zero_le _, Nat.zero_le _, Nat.zero_le _, Nat.zero_le _⟩, ⟨by omega, by omega, by omega, by omega, by omega, by omega, by omega, by omega, by omega, by omega, by omega, by omega⟩⟩, b1, b2, b3⟩
    · have j0 : j = 0 := by omega
      subst j0
      try dsimp only
      exact ⟨z0, z0⟩
    · show (0 : Int32).toInt ≤ ((16 : Nat) : Int)
      omega
  · obtain ⟨y1, y2⟩ := hz
    unfold PHI at y1 y2
    (try dsimp only at y1 y2)
    (try dsimp only)
    omega
