theorem s_bitR2 {F : Nat} {st n en la lf lk c : Int32} {N : Nat} {R : Nat → Int32} {sz wr s e q wg o : Int32} {B : Nat → Int32} (hw : wr.toInt = 0) (hg : wg.toInt = 0) (h : RelR st n en la lf lk c N R sz s e q wg B) :
    Ok (f_Source_bit F n en la lf lk c N R) (fun u => Ok (f_Mo_code F sz wr s e q wg 262144 B o) (fun v => u.1 = v.1 ∧ (v.1.toInt = 0 ∨ v.1.toInt = 1) ∧ v.2.2.2.2 = B ∧ RelR st u.2.1 en u.2.2.1 u.2.2.2.1 u.2.2.2.2 c N R sz s v.2.1 v.2.2.1 v.2.2.2.1 B ∧ (¬ v.2.2.2.1.toInt = 0 → v.1.toInt = 0) ∧ (v.2.2.2.1.toInt = 0 → s.toInt < v.2.1.toInt))) :=
  ok_m (s_bitR1 (o := o) hw h.1) (fun _ hu => ok_m hu (fun _ hv => ⟨hv.1, hv.2.1, hv.2.2.1, hv.2.2.2.1, hv.2.2.2.2.2, hv.2.2.2.1.2⟩))
set_option maxHeartbeats 2000000 in
theorem s_lenR {F : Nat} (hF : 1000000 ≤ F) {st p0 : Int32} {wN aN nN fN pN lN : Nat} {wF aF nF fF pF lF : Nat → Int32} {st0 n0 en la lf lk c : Int32} {N : Nat} {R : Nat → Int32} {sz P1 wr s e q wg ct : Int32} {B cF bF tF WF oF LF : Nat → Int32} {p0' : Int32} {b b' a n fr pc wd P : Nat}
    (hw : wr.toInt = 0) (hg : wg.toInt = 0) (hb : p0.toInt = b ∧ b < wN ∧ b < aN ∧ b < nN ∧ b < fN ∧ b < pN) (hb' : p0'.toInt = b' ∧ b' < 2048) (ha : (aF b).toInt = a ∧ (cF b').toInt = a) (hn : (nF b).toInt = n ∧ (bF b').toInt = n) (hf : (fF b).toInt = fr) (hp : (pF b).toInt = pc ∧ (tF b').toInt = 0) (h2 : a + n ≤ 200 ∧ pcs st a n = pc ∧ fr + pc ≤ lN ∧ lN ≤ 100000) (hP : P1.toInt = P ∧ P + pc ≤ 8200)
    (hwd : (wF b).toInt = wd ∧ (WF b').toInt = wd ∧ 3 ≤ wd ∧ wd ≤ 32) (hct : 0 ≤ ct.toInt ∧ ct.toInt + pc ≤ 4096) (hrel : RelR st0 n0 en la lf lk c N R sz s e q wg B) :
    Ok (f_Side_tellLengthsR F st wN wF aN aF nN nF fN fF pN pF lN lF n0 en la lf lk c N R p0) (fun u => Ok (f_Mo_codePieces F st sz P1 wr s e q wg ct 262144 B 2048 cF 2048 tF 2048 bF 2048 WF 8200 oF 8200 LF p0') (fun v => QLR b b' (a + n) pc fr P (ct.toInt + pc) wF aF lF tF WF oF LF st0 en c N R sz s B u v)) := by
  have L := lits
  have hpc := pcs_le st n a
  have l32 : (32 : Int32).toInt = 32 := by decide
  have eb : p0.toInt.toNat = b := by omega
  have eb' : p0'.toInt.toNat = b' := by omega
  have endX : ∀ (wg e q : Int32) (WF1 : Nat → Int32), wg.toInt = 1 → Ok (g_Mo_codePieces_84 F st sz wr s 262144 2048 cF 2048 2048 bF 2048 8200 8200 P1 e q wg ct B tF WF1 oF LF p0') (fun v => v = (P1, e, q, wg, ct, B, tF, WF1, oF, LF)) := by
    intro wg e q WF1 hg1
    obtain ⟨F', hF'⟩ : ∃ y, F = y + 1 := ⟨F - 1, by omega⟩
    simp only [g_Mo_codePieces_84, clamp_eq, eb']
    refine ok_in (by omega) (ok_v ?_)
    refine ok_in (by omega) (ok_v ?_)
    refine ok_add (by omega) (fun x39 e39 => ?_)
    refine ok_in (by omega) (ok_v ?_)
    have step : Ok (f_Mo_codePieces_109 F st sz wr s 262144 2048 2048 8200 8200 (F' + 1) P1 e q wg ct B tF WF1 oF LF p0' x39 0 (cF b')) (fun v => v = (P1, e, q, wg, ct, B, tF, WF1, oF, LF)) := by
      simp only [f_Mo_codePieces_109, g_Mo_codePieces_109, g_Mo_codePieces_249]
      exact ok_le (fun _ => ok_s rfl) (fun _ => ok_eq (fun hc => by omega) (fun _ => ok_s rfl))
    rw [← hF'] at step
    exact step
  have key : ∀ (t fu fu' : Nat) (wF1 WF1 : Nat → Int32) (n0 la lf lk e q wg v3 v2 : Int32) (wd : Nat), wd + t = 32 → t + 1 < fu → t + 1 < fu' → v2.toInt ≤ 0 → (t : Int) - 32 ≤ v2.toInt → wg.toInt = 0 → (wF1 b).toInt = wd → (WF1 b').toInt = wd → 3 ≤ wd → (∀ x, ¬ x = b → wF1 x = wF x) → (∀ x, ¬ x = b' → WF1 x = WF x) → RelR st0 n0 en la lf lk c N R sz s e q wg B →
      Ok (f_Side_tellLengthsR_6 F st wN aN nN nF fN fF pN pF lN en c N R fu wF1 n0 la lf lk aF lF p0 v3) (fun u => Ok (f_Mo_codePieces_17 F st sz wr s 262144 2048 cF 2048 2048 bF 2048 8200 8200 fu' P1 e q wg ct B tF WF1 oF LF p0' v2) (fun v => QLR b b' (a + n) pc fr P (ct.toInt + pc) wF aF lF tF WF oF LF st0 en c N R sz s B u v)) := by
    intro t
    induction t with
    | zero =>
      intro fu fu' wF1 WF1 n0 la lf lk e q wg v3 v2 wd g1 g4 g4' g2 g2' hg g5 g6 g7 g9 g10 hrel
      obtain ⟨fu, rfl⟩ : ∃ y, fu = y + 1 := ⟨fu - 1, by omega⟩
      obtain ⟨fu', rfl⟩ : ∃ y, fu' = y + 2 := ⟨fu' - 2, by omega⟩
      have tailG : ∀ (n0 la lf lk e q wg : Int32), wg.toInt = 0 → RelR st0 n0 en la lf lk c N R sz s e q wg B → Ok (g_Side_tellLengthsR_53 F st wN aN nN nF fN fF pN pF lN en c N R wF1 n0 la lf lk aF lF p0) (fun u => Ok (g_Mo_codePieces_84 F st sz wr s 262144 2048 cF 2048 2048 bF 2048 8200 8200 P1 e q wg ct B tF WF1 oF LF p0') (fun v => QLR b b' (a + n) pc fr P (ct.toInt + pc) wF aF lF tF WF oF LF st0 en c N R sz s B u v)) := by
        intro n0 la lf lk e q wg hg hrel
        simp only [g_Side_tellLengthsR_53, g_Mo_codePieces_84, clamp_eq, eb, eb']
        refine ok_in (by omega) (ok_v ?_)
        refine ok_le (fun c4 => ?_) (fun c4 => by omega)
        refine ok_in (by omega) (ok_v ?_)
        refine ok_in (by omega) (ok_v ?_)
        refine ok_add (by omega) (fun x56 e56 => ?_)
        refine ok_in (by omega) (ok_l (fun x57 e57 => ?_))
        have e57' : x57.toInt = fr := by rw [e57]; omega
        refine ok_swap ?_
        refine ok_in (by omega) (ok_v ?_)
        refine ok_in (by omega) (ok_v ?_)
        refine ok_add (by omega) (fun x39 e39 => ?_)
        refine ok_in (by omega) (ok_l (fun x40 e40 => ?_))
        have e40' : x40.toInt = a := by rw [e40]; omega
        refine ok_swap ?_
        exact s_pcsR (wF0 := wF) (aF := aF) (lF := lF) (tF := tF) (WF0 := WF) (oF := oF) (LF := LF) (a := a) (n := n) (fr := fr) (pc := pc) (wd := wd) (P := P) (ct0 := ct.toInt) hF hw ⟨hb.1, hb.2.1, hb.2.2.1, hb.2.2.2.2.1, hb.2.2.2.2.2⟩ hb' hf hp.1 ⟨h2.1, h2.2.2.1, h2.2.2.2, by omega⟩ (by omega) (by omega) hP.2 hct ⟨g5, g6, g7, by omega⟩ g9 g10 pc F F _ _ _ _ _ _ wg ct P1 aF lF tF oF LF x57 0 x40 a n 0 (by omega) (by omega) h2.2.1 rfl (by omega) hg ha.1 (fun _ _ => rfl) (fun _ _ => rfl) (by omega) (by omega) e40' (by omega) (by omega) (by omega) (fun _ _ => rfl) (fun _ _ => ⟨rfl, rfl⟩) (fun k hk hk2 => by omega) (fun k hk => by omega) hrel
      have tailX : ∀ (n0 la lf lk e q wg : Int32), SB n0 en lf lk c N → wg.toInt = 1 → Ok (g_Side_tellLengthsR_53 F st wN aN nN nF fN fF pN pF lN en c N R wF1 n0 la lf lk aF lF p0) (fun u => Ok (g_Mo_codePieces_84 F st sz wr s 262144 2048 cF 2048 2048 bF 2048 8200 8200 P1 e q wg ct B tF WF1 oF LF p0') (fun v => QLR b b' (a + n) pc fr P (ct.toInt + pc) wF aF lF tF WF oF LF st0 en c N R sz s B u v)) := by
        intro n0 la lf lk e q wg hsb hg1
        refine ok_swap (ok_m (endX wg e q WF1 hg1) (fun v hv => ?_))
        subst hv
        simp only [g_Side_tellLengthsR_53, clamp_eq, eb]
        refine ok_in (by omega) (ok_v ?_)
        refine ok_le (fun c4 => ?_) (fun c4 => by omega)
        refine ok_in (by omega) (ok_v ?_)
        refine ok_in (by omega) (ok_v ?_)
        refine ok_add (by omega) (fun x56 e56 => ?_)
        refine ok_in (by omega) (ok_l (fun x57 e57 => ?_))
        have e57' : x57.toInt = fr := by rw [e57]; omega
        refine ok_m (w_pcsRx (wF0 := wF) (aF := aF) (lF := lF) (a := a) (n := n) (fr := fr) (pc := pc) (wd := wd) hF hsb ⟨hb.1, hb.2.1, hb.2.2.1, hb.2.2.2.2.1, hb.2.2.2.2.2⟩ hf hp.1 ⟨h2.1, h2.2.2.1, h2.2.2.2, by omega⟩ (by omega) ⟨g5, by omega⟩ g9 pc F aF lF x57 a n 0 (by omega) h2.2.1 rfl (by omega) ha.1 (fun _ _ => rfl) (fun _ _ => rfl) (by omega)) (fun u hu => ?_)
        unfold QX at hu
        obtain ⟨x1, x2, x3, x4, x5, x6, x7, x8, x9⟩ := hu
        unfold QLR
        dsimp only
        rw [x6, x8, x9]
        try dsimp only
        exact ⟨⟨rfl, x1, x2, x3, x4, x5, by omega, by omega, fun _ _ => ⟨rfl, rfl⟩, fun k h1 h2 => by omega, fun _ _ => rfl, g10⟩, Or.inr ⟨hg1, Or.inr hsb, hsb.sg⟩⟩
      have bits : ∀ s0 : Int32, Ok (g_Side_tellLengthsR_33 F (f_Side_tellLengthsR_6 F st wN aN nN nF fN fF pN pF lN en c N R fu) st wN aN nN nF fN fF pN pF lN en c N R wF1 n0 la lf lk aF lF p0 v3 s0) (fun u => Ok (f_Mo_codePieces_17 F st sz wr s 262144 2048 cF 2048 2048 bF 2048 8200 8200 (fu' + 2) P1 e q wg ct B tF WF1 oF LF p0' v2) (fun v => QLR b b' (a + n) pc fr P (ct.toInt + pc) wF aF lF tF WF oF LF st0 en c N R sz s B u v)) := by
        intro s0
        rw [f_Mo_codePieces_17]
        simp only [g_Side_tellLengthsR_33, g_Mo_codePieces_17, g_Mo_codePieces_34, g_Mo_codePieces_73, g_Mo_codePieces_78, clamp_eq, eb, eb']
        refine ok_swap ?_
        refine ok_eq (fun _ => ?_) (fun hc => by omega)
        refine ok_le (fun _ => ok_swap ?_) (fun hc => by omega)
        refine ok_b2 (s_bitR2 hw hg hrel) (fun u49 u41 hq => ?_)
        obtain ⟨q1, q2, q3, q4, q5, q6⟩ := hq
        rw [q1, q3]
        by_cases hbad : u41.2.2.2.1.toInt = 0
        · refine ok_eq (fun d1 => ok_swap (ok_eq (fun _ => ?_) (fun hc => by omega))) (fun d1 => ok_swap (ok_eq (fun hc => by omega) (fun _ => ?_)))
          · refine ok_add (by omega) (fun x42 e42 => ?_)
            refine ok_in (by omega) (ok_v ?_)
            refine ok_add (by omega) (fun x44 e44 => ?_)
            refine ok_in (by omega) ?_
            refine ok_eq (fun _ => ?_) (fun hc => by omega)
            refine ok_in (by omega) (ok_v ?_)
            rw [upd_is]
            refine ok_le (fun c4 => by omega) (fun c4 => ?_)
            refine ok_a ⟨bool_nar (by omega), bool_fit (by omega)⟩ ?_
            simp only [f_Mo_codePieces_17, g_Mo_codePieces_17]
            refine ok_eq (fun hc => by omega) (fun _ => ?_)
            refine ok_m (endX 1 _ _ (upd WF1 b' x44) L.2.2.1) (fun v hv => ?_)
            subst hv
            refine ok_in (by omega) (ok_v ?_)
            refine ok_add (by omega) (fun x63 e63 => ?_)
            refine ok_in (by omega) ?_
            obtain ⟨fu, rfl⟩ : ∃ y, fu = y + 1 := ⟨fu - 1, by omega⟩
            simp only [f_Side_tellLengthsR_6, g_Side_tellLengthsR_6, g_Side_tellLengthsR_53, clamp_eq, eb]
            rw [upd_is]
            refine ok_in (by omega) (ok_v ?_)
            refine ok_lt (fun c1 => ?_) (fun c1 => by omega)
            refine ok_in (by omega) (ok_v ?_)
            refine ok_le (fun c1 => by omega) (fun c1 => ok_s ?_)
            unfold QLR
            try dsimp only
            exact ⟨⟨rfl, fun x hx => by rw [upd_no hx]; exact g9 x hx, fun _ _ => rfl, by omega, by omega, fun _ _ => rfl, by omega, by omega, fun _ _ => ⟨rfl, rfl⟩, fun k h1 h2 => by omega, fun _ _ => rfl, fun x hx => by rw [upd_no hx]; exact g10 x hx⟩, Or.inr ⟨L.2.2.1, Or.inl L.2.1, q4.sg⟩⟩
          · exact ok_swap (tailG _ _ _ _ _ _ _ hbad q4)
        · have hv0 := q5 hbad
          have hsb := q4.sb hbad
          refine ok_eq (fun hc => by omega) (fun _ => ok_swap (ok_eq (fun hc => by omega) (fun _ => ok_swap ?_)))
          exact tailX _ _ _ _ _ _ _ hsb.1 hsb.2
      simp only [f_Side_tellLengthsR_6, g_Side_tellLengthsR_6, clamp_eq, eb]
      refine ok_in (by omega) (ok_v ?_)
      refine ok_lt (fun c1 => by omega) (fun c1 => ?_)
      refine ok_in (by omega) (ok_v ?_)
      exact ok_le (fun c2 => bits _) (fun c2 => bits _)
    | succ t ih =>
      intro fu fu' wF1 WF1 n0 la lf lk e q wg v3 v2 wd g1 g4 g4' g2 g2' hg g5 g6 g7 g9 g10 hrel
      obtain ⟨fu, rfl⟩ : ∃ y, fu = y + 1 := ⟨fu - 1, by omega⟩
      obtain ⟨fu', rfl⟩ : ∃ y, fu' = y + 2 := ⟨fu' - 2, by omega⟩
      have tailG : ∀ (n0 la lf lk e q wg : Int32), wg.toInt = 0 → RelR st0 n0 en la lf lk c N R sz s e q wg B → Ok (g_Side_tellLengthsR_53 F st wN aN nN nF fN fF pN pF lN en c N R wF1 n0 la lf lk aF lF p0) (fun u => Ok (g_Mo_codePieces_84 F st sz wr s 262144 2048 cF 2048 2048 bF 2048 8200 8200 P1 e q wg ct B tF WF1 oF LF p0') (fun v => QLR b b' (a + n) pc fr P (ct.toInt + pc) wF aF lF tF WF oF LF st0 en c N R sz s B u v)) := by
        intro n0 la lf lk e q wg hg hrel
        simp only [g_Side_tellLengthsR_53, g_Mo_codePieces_84, clamp_eq, eb, eb']
        refine ok_in (by omega) (ok_v ?_)
        refine ok_le (fun c4 => ?_) (fun c4 => by omega)
        refine ok_in (by omega) (ok_v ?_)
        refine ok_in (by omega) (ok_v ?_)
        refine ok_add (by omega) (fun x56 e56 => ?_)
        refine ok_in (by omega) (ok_l (fun x57 e57 => ?_))
        have e57' : x57.toInt = fr := by rw [e57]; omega
        refine ok_swap ?_
        refine ok_in (by omega) (ok_v ?_)
        refine ok_in (by omega) (ok_v ?_)
        refine ok_add (by omega) (fun x39 e39 => ?_)
        refine ok_in (by omega) (ok_l (fun x40 e40 => ?_))
        have e40' : x40.toInt = a := by rw [e40]; omega
        refine ok_swap ?_
        exact s_pcsR (wF0 := wF) (aF := aF) (lF := lF) (tF := tF) (WF0 := WF) (oF := oF) (LF := LF) (a := a) (n := n) (fr := fr) (pc := pc) (wd := wd) (P := P) (ct0 := ct.toInt) hF hw ⟨hb.1, hb.2.1, hb.2.2.1, hb.2.2.2.2.1, hb.2.2.2.2.2⟩ hb' hf hp.1 ⟨h2.1, h2.2.2.1, h2.2.2.2, by omega⟩ (by omega) (by omega) hP.2 hct ⟨g5, g6, g7, by omega⟩ g9 g10 pc F F _ _ _ _ _ _ wg ct P1 aF lF tF oF LF x57 0 x40 a n 0 (by omega) (by omega) h2.2.1 rfl (by omega) hg ha.1 (fun _ _ => rfl) (fun _ _ => rfl) (by omega) (by omega) e40' (by omega) (by omega) (by omega) (fun _ _ => rfl) (fun _ _ => ⟨rfl, rfl⟩) (fun k hk hk2 => by omega) (fun k hk => by omega) hrel
      have tailX : ∀ (n0 la lf lk e q wg : Int32), SB n0 en lf lk c N → wg.toInt = 1 → Ok (g_Side_tellLengthsR_53 F st wN aN nN nF fN fF pN pF lN en c N R wF1 n0 la lf lk aF lF p0) (fun u => Ok (g_Mo_codePieces_84 F st sz wr s 262144 2048 cF 2048 2048 bF 2048 8200 8200 P1 e q wg ct B tF WF1 oF LF p0') (fun v => QLR b b' (a + n) pc fr P (ct.toInt + pc) wF aF lF tF WF oF LF st0 en c N R sz s B u v)) := by
        intro n0 la lf lk e q wg hsb hg1
        refine ok_swap (ok_m (endX wg e q WF1 hg1) (fun v hv => ?_))
        subst hv
        simp only [g_Side_tellLengthsR_53, clamp_eq, eb]
        refine ok_in (by omega) (ok_v ?_)
        refine ok_le (fun c4 => ?_) (fun c4 => by omega)
        refine ok_in (by omega) (ok_v ?_)
        refine ok_in (by omega) (ok_v ?_)
        refine ok_add (by omega) (fun x56 e56 => ?_)
        refine ok_in (by omega) (ok_l (fun x57 e57 => ?_))
        have e57' : x57.toInt = fr := by rw [e57]; omega
        refine ok_m (w_pcsRx (wF0 := wF) (aF := aF) (lF := lF) (a := a) (n := n) (fr := fr) (pc := pc) (wd := wd) hF hsb ⟨hb.1, hb.2.1, hb.2.2.1, hb.2.2.2.2.1, hb.2.2.2.2.2⟩ hf hp.1 ⟨h2.1, h2.2.2.1, h2.2.2.2, by omega⟩ (by omega) ⟨g5, by omega⟩ g9 pc F aF lF x57 a n 0 (by omega) h2.2.1 rfl (by omega) ha.1 (fun _ _ => rfl) (fun _ _ => rfl) (by omega)) (fun u hu => ?_)
        unfold QX at hu
        obtain ⟨x1, x2, x3, x4, x5, x6, x7, x8, x9⟩ := hu
        unfold QLR
        dsimp only
        rw [x6, x8, x9]
        try dsimp only
        exact ⟨⟨rfl, x1, x2, x3, x4, x5, by omega, by omega, fun _ _ => ⟨rfl, rfl⟩, fun k h1 h2 => by omega, fun _ _ => rfl, g10⟩, Or.inr ⟨hg1, Or.inr hsb, hsb.sg⟩⟩
      have bits : ∀ s0 : Int32, Ok (g_Side_tellLengthsR_33 F (f_Side_tellLengthsR_6 F st wN aN nN nF fN fF pN pF lN en c N R fu) st wN aN nN nF fN fF pN pF lN en c N R wF1 n0 la lf lk aF lF p0 v3 s0) (fun u => Ok (f_Mo_codePieces_17 F st sz wr s 262144 2048 cF 2048 2048 bF 2048 8200 8200 (fu' + 2) P1 e q wg ct B tF WF1 oF LF p0' v2) (fun v => QLR b b' (a + n) pc fr P (ct.toInt + pc) wF aF lF tF WF oF LF st0 en c N R sz s B u v)) := by
        intro s0
        rw [f_Mo_codePieces_17]
        simp only [g_Side_tellLengthsR_33, g_Mo_codePieces_17, g_Mo_codePieces_34, g_Mo_codePieces_73, g_Mo_codePieces_78, clamp_eq, eb, eb']
        refine ok_swap ?_
        refine ok_eq (fun _ => ?_) (fun hc => by omega)
        refine ok_le (fun _ => ok_swap ?_) (fun hc => by omega)
        refine ok_b2 (s_bitR2 hw hg hrel) (fun u49 u41 hq => ?_)
        obtain ⟨q1, q2, q3, q4, q5, q6⟩ := hq
        rw [q1, q3]
        by_cases hbad : u41.2.2.2.1.toInt = 0
        · refine ok_eq (fun d1 => ok_swap (ok_eq (fun _ => ?_) (fun hc => by omega))) (fun d1 => ok_swap (ok_eq (fun hc => by omega) (fun _ => ?_)))
          · refine ok_add (by omega) (fun x42 e42 => ?_)
            refine ok_in (by omega) (ok_v ?_)
            refine ok_add (by omega) (fun x44 e44 => ?_)
            refine ok_in (by omega) ?_
            refine ok_eq (fun _ => ?_) (fun hc => by omega)
            refine ok_in (by omega) (ok_v ?_)
            rw [upd_is]
            refine ok_le (fun c4 => ?_) (fun c4 => by omega)
            refine ok_a ⟨bool_nar (by omega), bool_fit (by omega)⟩ (ok_swap ?_)
            refine ok_in (by omega) (ok_v ?_)
            refine ok_add (by omega) (fun x63 e63 => ?_)
            refine ok_in (by omega) ?_
            have hwg : u41.2.2.2.1 = 0 := ti_ofI (by omega)
            rw [hwg] at q4
            exact ih fu (fu' + 1) (upd wF1 b x63) (upd WF1 b' x44) _ _ _ _ _ _ 0 v3 x42 (wd + 1) (by omega) (by omega) (by omega) (by omega) (by omega) L.2.1 (by rw [upd_is]; omega) (by rw [upd_is]; omega) (by omega) (fun x hx => by rw [upd_no hx]; exact g9 x hx) (fun x hx => by rw [upd_no hx]; exact g10 x hx) q4
          · exact ok_swap (tailG _ _ _ _ _ _ _ hbad q4)
        · have hv0 := q5 hbad
          have hsb := q4.sb hbad
          refine ok_eq (fun hc => by omega) (fun _ => ok_swap (ok_eq (fun hc => by omega) (fun _ => ok_swap ?_)))
          exact tailX _ _ _ _ _ _ _ hsb.1 hsb.2
      simp only [f_Side_tellLengthsR_6, g_Side_tellLengthsR_6, clamp_eq, eb]
      refine ok_in (by omega) (ok_v ?_)
      refine ok_lt (fun c1 => by omega) (fun c1 => ?_)
      refine ok_in (by omega) (ok_v ?_)
      exact ok_le (fun c2 => bits _) (fun c2 => bits _)
  simp only [f_Side_tellLengthsR, f_Mo_codePieces, g_Mo_codePieces_16]
  refine ok_bm (w_widthX hF ⟨hb.1, hb.2.2.1, hb.2.2.2.1, hb.2.2.2.2.1, hb.2.2.2.2.2⟩ ha.1 hn.1 hf hp.1 ⟨h2.1, h2.2.1, h2.2.2.1, h2.2.2.2⟩) (fun u66 e66 => ok_swap ?_)
  refine ok_eq (fun _ => ok_swap ?_) (fun hc => by omega)
  exact key (32 - wd) F F wF WF n0 la lf lk e q wg u66 0 wd (by omega) (by omega) (by omega) (by omega) (by omega) hg hwd.1 hwd.2.1 hwd.2.2.1 (fun _ _ => rfl) (fun _ _ => rfl) hrel
