/-! Too many pieces: the reference finds it out as it goes. -/
theorem ok_virt {α β : Type} {o : Option α} {r : Option β} {P : α → β → Prop} (h : Ok o (fun u => Ok r (fun v => P u v))) : Ok r (fun v => ∃ u, P u v) := by
  obtain ⟨u, _, v, e, p⟩ := h
  try dsimp only
  exact ⟨v, e, u, p⟩
def QO (b' P : Nat) (tF WF oF LF B : Nat → Int32) (v : Int32 × Int32 × Int32 × Int32 × Int32 × (Nat → Int32) × (Nat → Int32) × (Nat → Int32) × (Nat → Int32) × (Nat → Int32)) : Prop :=
  v.2.2.2.1.toInt = 1 ∧ v.2.2.2.2.2.1 = B ∧ P ≤ v.1.toInt ∧ v.1.toInt ≤ 8200 ∧ (∀ k, k < P → v.2.2.2.2.2.2.2.2.1 k = oF k ∧ v.2.2.2.2.2.2.2.2.2 k = LF k) ∧ (∀ k : Nat, P ≤ k → (k : Int) < v.1.toInt → (v.2.2.2.2.2.2.2.2.1 k).toInt = b') ∧ (∀ x, ¬ x = b' → v.2.2.2.2.2.2.1 x = tF x) ∧ (∀ x, ¬ x = b' → v.2.2.2.2.2.2.2.1 x = WF x)
set_option maxHeartbeats 1000000 in
theorem w_over109 {F : Nat} (hF : 1000000 ≤ F) {st : Int32} {st0 en c : Int32} {N : Nat} {R : Nat → Int32} {sz wr s : Int32} {B tF WF0 WF oF LF : Nat → Int32} {p0' v3 : Int32} {b' a n wd P : Nat} {ct0 : Int}
    (hw : wr.toInt = 0) (hb' : p0'.toInt = b' ∧ b' < 2048) (h2 : a + n ≤ 200) (hv3 : v3.toInt = a + n) (hP : P + (4096 - ct0) ≤ 8200) (hct : 0 ≤ ct0 ∧ ct0 ≤ 4096) (hwd : (WF b').toInt = wd ∧ wd ≤ 32) (hWf : ∀ x, ¬ x = b' → WF x = WF0 x) :
    ∀ (j fu' : Nat) (n0 la lf lk e q wg ct P1 : Int32) (tF1 oF1 LF1 : Nat → Int32) (w4 w5 : Int32) (a' n' i : Nat), j < fu' → pcs st a' n' = j → a' + n' = a + n → wg.toInt = 0 → w4.toInt = i → i ≤ 200 - j → j ≤ 200 → w5.toInt = a' → ct.toInt = ct0 + i → ct.toInt ≤ 4096 → 4096 < ct.toInt + j → P1.toInt = (P : Int) + i → (tF1 b').toInt = i → (∀ x, ¬ x = b' → tF1 x = tF x) → (∀ k, k < P → oF1 k = oF k ∧ LF1 k = LF k) → (∀ k : Nat, P ≤ k → k < P + i → (oF1 k).toInt = b') → RelR st0 n0 en la lf lk c N R sz s e q wg B →
      Ok (f_Mo_codePieces_109 F st sz wr s 262144 2048 2048 8200 8200 fu' P1 e q wg ct B tF1 WF oF1 LF1 p0' v3 w4 w5) (fun v => QO b' P tF WF0 oF LF B v) := by
  have L := lits
  have l4096 : (4096 : Int32).toInt = 4096 := by decide
  have eb' : p0'.toInt.toNat = b' := by omega
  intro j
  induction j with
  | zero => intro fu' n0 la lf lk e q wg ct P1 tF1 oF1 LF1 w4 w5 a' n' i g1 g2 g3 hg g4 g5 g5' g6 g7 g8 g9; omega
  | succ j ih =>
    intro fu' n0 la lf lk e q wg ct P1 tF1 oF1 LF1 w4 w5 a' n' i g1 g2 g3 hg g4 g5 g5' g6 g7 g8 g9 g10 g11 g12 g13 g14 hrel
    obtain ⟨fu', rfl⟩ : ∃ y, fu' = y + 1 := ⟨fu' - 1, by omega⟩
    obtain ⟨h1, h3, h4, h5⟩ := pcs_sp g2
    have n1 := nb_pos h3
    have n8 : nb (pl st a' n') ≤ 8 := nb_le (by omega)
    simp only [f_Mo_codePieces_109, g_Mo_codePieces_109, g_Mo_codePieces_249, g_Mo_codePieces_151, g_Mo_codePieces_205, g_Mo_codePieces_210, g_Mo_codePieces_236, clamp_eq, eb']
    refine ok_le (fun c2 => by omega) (fun c2 => ?_)
    refine ok_eq (fun c3 => ?_) (fun c3 => by omega)
    refine ok_bm (w_Mo_fp hF (by omega)) (fun u34 e34 => ?_)
    rw [show w5.toInt.toNat = a' by omega, show (v3.toInt - w5.toInt).toNat = n' by omega] at e34
    refine ok_eq (fun c4 => ?_) (fun c4 => by omega)
    refine ok_in (by omega) (ok_v ?_)
    refine ok_bm (w_Mo_log hF (by omega)) (fun u29 e29 => ?_)
    rw [show u34.toInt.toNat = pl st a' n' by omega] at e29
    refine ok_add (by omega) (fun x30 e30 => ?_)
    refine ok_bm (ok_virt (s_numR (v := 0) hF (m := wd + (nb (pl st a' n') - 1)) hw (by omega) (by omega) hrel)) (fun u31 hq => ?_)
    obtain ⟨u44, q1, q2, q3, q4, q5, q6⟩ := hq
    rw [q4]
    have fin : ∀ (x32 : Int32) (w2 w3 : Int32), QO b' P tF WF0 oF LF B (P1, w2, w3, 1, x32, B, tF1, WF, oF1, LF1) := by
      intro x32 w2 w3
      unfold QO
      try dsimp only
      exact ⟨L.2.2.1, rfl, by omega, by omega, g13, fun k h1 h2 => g14 k h1 (by omega), g12, hWf⟩
    refine ok_add (by omega) (fun x32 e32 => ?_)
    refine ok_eq (fun c6 => ?_) (fun c6 => ?_)
    · refine ok_l (fun x48 e48 => ?_)
      refine ok_lt (fun c7 => ?_) (fun c7 => ?_)
      · refine ok_a ⟨bool_nar (by omega), bool_fit (by omega)⟩ ?_
        exact ok_eq (fun c8 => by omega) (fun c8 => ok_s (fin _ _ _))
      · refine ok_le (fun c8 => ?_) (fun c8 => ?_)
        · refine ok_a ⟨bool_nar (by omega), bool_fit (by omega)⟩ ?_
          refine ok_T ?_
          refine ok_eq (fun c9 => ?_) (fun c9 => by omega)
          refine ok_v ?_
          refine ok_bm (w_Mo_add (by omega) (by omega) (by rw [eb']; omega)) (fun u27 e27 => ?_)
          rw [eb'] at e27
          obtain ⟨a1, a2, a3, a4, a5⟩ := e27
          have eP : P1.toInt.toNat = P + i := by omega
          rw [eP] at a2 a3
          refine ok_add (by omega) (fun x24 e24 => ?_)
          refine ok_add (by omega) (fun x25 e25 => ?_)
          rw [a2, a3]
          have hwg : u31.2.2.2.1 = 0 := ti_ofI (by omega)
          rw [hwg] at q5
          refine ih fu' _ _ _ _ _ _ 0 x32 u27.1 u27.2.2.2 (upd oF1 (P + i) p0') (upd LF1 (P + i) _) x25 x24 (a' + pl st a' n') (n' - pl st a' n') (i + 1) (by omega) h5 (by omega) L.2.1 (by omega) (by omega) (by omega) (by omega) (by omega) (by omega) (by omega) (by omega) (by omega) (fun x hx => by rw [a5 x hx]; exact g12 x hx) (fun k hk => by rw [upd_no (by omega), upd_no (by omega)]; exact g13 k hk) ?_ q5
          intro k hk hk2
          by_cases qk : k = P + i
          · rw [qk, upd_is]; exact hb'.1
          · rw [upd_no qk]; exact g14 k hk (by omega)
        · refine ok_a ⟨bool_nar (by omega), bool_fit (by omega)⟩ ?_
          exact ok_eq (fun c8 => by omega) (fun c8 => ok_s (fin _ _ _))
    · refine ok_a ⟨bool_nar (by omega), bool_fit (by omega)⟩ ?_
      exact ok_eq (fun c8 => by omega) (fun c8 => ok_s (fin _ _ _))
set_option maxHeartbeats 1000000 in
theorem w_over {F : Nat} (hF : 1000000 ≤ F) {st : Int32} {st0 n0 en la lf lk c : Int32} {N : Nat} {R : Nat → Int32} {sz P1 wr s e q wg ct : Int32} {B cF bF tF WF oF LF : Nat → Int32} {p0' : Int32} {b' a n wd P : Nat}
    (hw : wr.toInt = 0) (hg : wg.toInt = 0) (hb' : p0'.toInt = b' ∧ b' < 2048) (ha : (cF b').toInt = a) (hn : (bF b').toInt = n) (ht : (tF b').toInt = 0) (h2 : a + n ≤ 200) (hP : P1.toInt = P ∧ P + (4096 - ct.toInt) ≤ 8200) (hwd : (WF b').toInt = wd ∧ 3 ≤ wd ∧ wd ≤ 32) (hct : 0 ≤ ct.toInt ∧ ct.toInt ≤ 4096 ∧ 4096 < ct.toInt + pcs st a n) (hrel : RelR st0 n0 en la lf lk c N R sz s e q wg B) :
    Ok (f_Mo_codePieces F st sz P1 wr s e q wg ct 262144 B 2048 cF 2048 tF 2048 bF 2048 WF 8200 oF 8200 LF p0') (fun v => QO b' P tF WF oF LF B v) := by
  have L := lits
  have hpc := pcs_le st n a
  have l32 : (32 : Int32).toInt = 32 := by decide
  have eb' : p0'.toInt.toNat = b' := by omega
  have endX : ∀ (wg e q : Int32) (WF1 : Nat → Int32), wg.toInt = 1 → (∀ x, ¬ x = b' → WF1 x = WF x) → Ok (g_Mo_codePieces_84 F st sz wr s 262144 2048 cF 2048 2048 bF 2048 8200 8200 P1 e q wg ct B tF WF1 oF LF p0') (fun v => QO b' P tF WF oF LF B v) := by
    intro wg e q WF1 hg1 hW1
    obtain ⟨F', hF'⟩ : ∃ y, F = y + 1 := ⟨F - 1, by omega⟩
    simp only [g_Mo_codePieces_84, clamp_eq, eb']
    refine ok_in (by omega) (ok_v ?_)
    refine ok_in (by omega) (ok_v ?_)
    refine ok_add (by omega) (fun x39 e39 => ?_)
    refine ok_in (by omega) (ok_v ?_)
    have fin : QO b' P tF WF oF LF B (P1, e, q, wg, ct, B, tF, WF1, oF, LF) := by
      unfold QO
      try dsimp only
      exact ⟨hg1, rfl, by omega, by omega, fun _ _ => ⟨rfl, rfl⟩, fun k h1 h2 => by omega, fun _ _ => rfl, hW1⟩
    have step : Ok (f_Mo_codePieces_109 F st sz wr s 262144 2048 2048 8200 8200 (F' + 1) P1 e q wg ct B tF WF1 oF LF p0' x39 0 (cF b')) (fun v => QO b' P tF WF oF LF B v) := by
      simp only [f_Mo_codePieces_109, g_Mo_codePieces_109, g_Mo_codePieces_249]
      exact ok_le (fun _ => ok_s fin) (fun _ => ok_eq (fun hc => by omega) (fun _ => ok_s fin))
    rw [← hF'] at step
    exact step
  have key : ∀ (t fu' : Nat) (WF1 : Nat → Int32) (n0 la lf lk e q wg v2 : Int32) (wd : Nat), wd + t = 32 → t + 1 < fu' → v2.toInt ≤ 0 → (t : Int) - 32 ≤ v2.toInt → wg.toInt = 0 → (WF1 b').toInt = wd → 3 ≤ wd → (∀ x, ¬ x = b' → WF1 x = WF x) → RelR st0 n0 en la lf lk c N R sz s e q wg B →
      Ok (f_Mo_codePieces_17 F st sz wr s 262144 2048 cF 2048 2048 bF 2048 8200 8200 fu' P1 e q wg ct B tF WF1 oF LF p0' v2) (fun v => QO b' P tF WF oF LF B v) := by
    intro t
    induction t with
    | zero =>
      intro fu' WF1 n0 la lf lk e q wg v2 wd g1 g4' g2 g2' hg g6 g7 g10 hrel
      obtain ⟨fu', rfl⟩ : ∃ y, fu' = y + 2 := ⟨fu' - 2, by omega⟩
      rw [f_Mo_codePieces_17]
      simp only [g_Mo_codePieces_17, g_Mo_codePieces_34, g_Mo_codePieces_73, g_Mo_codePieces_78, clamp_eq, eb']
      refine ok_eq (fun _ => ?_) (fun hc => by omega)
      refine ok_le (fun _ => ?_) (fun hc => by omega)
      refine ok_bm (ok_virt (s_bitR2 hw hg hrel)) (fun u41 hq => ?_)
      obtain ⟨u49, q1, q2, q3, q4, q5, q6⟩ := hq
      rw [q3]
      by_cases hbad : u41.2.2.2.1.toInt = 0
      case neg =>
        have hv0 := q5 hbad
        have hsb := q4.sb hbad
        exact ok_eq (fun hc => by omega) (fun _ => endX _ _ _ WF1 hsb.2 g10)
      case pos =>
        refine ok_eq (fun d1 => ?_) (fun d1 => ?_)
        rotate_left
        · simp only [g_Mo_codePieces_84, clamp_eq, eb']
          refine ok_in (by omega) (ok_v ?_)
          refine ok_in (by omega) (ok_v ?_)
          refine ok_add (by omega) (fun x39 e39 => ?_)
          refine ok_in (by omega) (ok_l (fun x40 e40 => ?_))
          have e40' : x40.toInt = a := by rw [e40]; omega
          exact w_over109 (a := a) (n := n) (wd := wd) (ct0 := ct.toInt) hF hw hb' h2 (by omega) hP.2 ⟨hct.1, hct.2.1⟩ ⟨g6, by omega⟩ g10 (pcs st a n) F _ _ _ _ _ _ _ ct P1 tF oF LF 0 x40 a n 0 (by omega) rfl rfl hbad (by omega) (by omega) (by omega) e40' (by omega) (by omega) (by omega) (by omega) (by omega) (fun _ _ => rfl) (fun _ _ => ⟨rfl, rfl⟩) (fun k hk hk2 => by omega) q4
        · refine ok_add (by omega) (fun x42 e42 => ?_)
          refine ok_in (by omega) (ok_v ?_)
          refine ok_add (by omega) (fun x44 e44 => ?_)
          refine ok_in (by omega) ?_
          refine ok_eq (fun _ => ?_) (fun hc => by omega)
          refine ok_in (by omega) (ok_v ?_)
          rw [upd_is]
          refine ok_le (fun c4 => by omega) (fun c4 => ?_)
          refine ok_a ⟨bool_nar (by omega), bool_fit (by omega)⟩ ?_
          simp only [f_Mo_codePieces_17, g_Mo_codePieces_17]
          refine ok_eq (fun hc => by omega) (fun _ => ?_)
          exact endX 1 _ _ (upd WF1 b' x44) L.2.2.1 (fun x hx => by rw [upd_no hx]; exact g10 x hx)
    | succ t ih =>
      intro fu' WF1 n0 la lf lk e q wg v2 wd g1 g4' g2 g2' hg g6 g7 g10 hrel
      obtain ⟨fu', rfl⟩ : ∃ y, fu' = y + 2 := ⟨fu' - 2, by omega⟩
      rw [f_Mo_codePieces_17]
      simp only [g_Mo_codePieces_17, g_Mo_codePieces_34, g_Mo_codePieces_73, g_Mo_codePieces_78, clamp_eq, eb']
      refine ok_eq (fun _ => ?_) (fun hc => by omega)
      refine ok_le (fun _ => ?_) (fun hc => by omega)
      refine ok_bm (ok_virt (s_bitR2 hw hg hrel)) (fun u41 hq => ?_)
      obtain ⟨u49, q1, q2, q3, q4, q5, q6⟩ := hq
      rw [q3]
      by_cases hbad : u41.2.2.2.1.toInt = 0
      case neg =>
        have hv0 := q5 hbad
        have hsb := q4.sb hbad
        exact ok_eq (fun hc => by omega) (fun _ => endX _ _ _ WF1 hsb.2 g10)
      case pos =>
        refine ok_eq (fun d1 => ?_) (fun d1 => ?_)
        rotate_left
        · simp only [g_Mo_codePieces_84, clamp_eq, eb']
          refine ok_in (by omega) (ok_v ?_)
          refine ok_in (by omega) (ok_v ?_)
          refine ok_add (by omega) (fun x39 e39 => ?_)
          refine ok_in (by omega) (ok_l (fun x40 e40 => ?_))
          have e40' : x40.toInt = a := by rw [e40]; omega
          exact w_over109 (a := a) (n := n) (wd := wd) (ct0 := ct.toInt) hF hw hb' h2 (by omega) hP.2 ⟨hct.1, hct.2.1⟩ ⟨g6, by omega⟩ g10 (pcs st a n) F _ _ _ _ _ _ _ ct P1 tF oF LF 0 x40 a n 0 (by omega) rfl rfl hbad (by omega) (by omega) (by omega) e40' (by omega) (by omega) (by omega) (by omega) (by omega) (fun _ _ => rfl) (fun _ _ => ⟨rfl, rfl⟩) (fun k hk hk2 => by omega) q4
        · refine ok_add (by omega) (fun x42 e42 => ?_)
          refine ok_in (by omega) (ok_v ?_)
          refine ok_add (by omega) (fun x44 e44 => ?_)
          refine ok_in (by omega) ?_
          refine ok_eq (fun _ => ?_) (fun hc => by omega)
          refine ok_in (by omega) (ok_v ?_)
          rw [upd_is]
          refine ok_le (fun c4 => ?_) (fun c4 => by omega)
          refine ok_a ⟨bool_nar (by omega), bool_fit (by omega)⟩ ?_
          have hwg : u41.2.2.2.1 = 0 := ti_ofI (by omega)
          rw [hwg] at q4
          exact ih (fu' + 1) (upd WF1 b' x44) _ _ _ _ _ _ 0 x42 (wd + 1) (by omega) (by omega) (by omega) (by omega) L.2.1 (by rw [upd_is]; omega) (by omega) (fun x hx => by rw [upd_no hx]; exact g10 x hx) q4
  simp only [f_Mo_codePieces, g_Mo_codePieces_16]
  refine ok_eq (fun _ => ?_) (fun hc => by omega)
  exact key (32 - wd) F WF n0 la lf lk e q wg 0 wd (by omega) (by omega) (by omega) (by omega) hg hwd.1 hwd.2.1 (fun _ _ => rfl) hrel
