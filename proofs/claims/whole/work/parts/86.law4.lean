/-! A band more, a packet written, a packet read. -/
set_option maxHeartbeats 4000000 in
theorem st_band {F L r : Nat} {xs : Nat → Int32} {rec23 : Int32 → Int32 → Nat → (Nat → Int32) → Int32 → Int32 → Int32 → Nat → (Nat → Int32) → Nat → (Nat → Int32) → Nat → (Nat → Int32) → Int32 → Int32 → Nat → (Nat → Int32) → Nat → (Nat → Int32) → Nat → (Nat → Int32) → Nat → (Nat → Int32) → Nat → (Nat → Int32) → Nat → (Nat → Int32) → Nat → (Nat → Int32) → Nat → (Nat → Int32) → Nat → (Nat → Int32) → Nat → (Nat → Int32) → Nat → (Nat → Int32) → Nat → (Nat → Int32) → Nat → (Nat → Int32) → Nat → (Nat → Int32) → Nat → (Nat → Int32) → Int32 → Int32 → Nat → (Nat → Int32) → Nat → (Nat → Int32) → Nat → (Nat → Int32) → Nat → (Nat → Int32) → Nat → (Nat → Int32) → Nat → (Nat → Int32) → Nat → (Nat → Int32) → Nat → (Nat → Int32) → Nat → (Nat → Int32) → Nat → (Nat → Int32) → Nat → (Nat → Int32) → Nat → (Nat → Int32) → Nat → (Nat → Int32) → Nat → (Nat → Int32) → Nat → (Nat → Int32) → Int32 → Int32 → Int32 → Int32 → Int32 → Int32 → Int32 → Int32 → Int32 → Int32 → Int32 → Int32 → Int32 → Int32 → Int32 → Int32 → Int32 → Int32 → Int32 → Int32 → Nat → (Nat → Int32) → Nat → (Nat → Int32) → Nat → (Nat → Int32) → Nat → (Nat → Int32) → Nat → (Nat → Int32) → Nat → (Nat → Int32) → Nat → (Nat → Int32) → Nat → (Nat → Int32) → Nat → (Nat → Int32) → Nat → (Nat → Int32) → Nat → (Nat → Int32) → Nat → (Nat → Int32) → Nat → (Nat → Int32) → Nat → (Nat → Int32) → Nat → (Nat → Int32) → Nat → (Nat → Int64) → Int32 → Option (Nat × Nat × Unit)} {v4 : Int32} {ov sc : Int32} {sN : Nat} {sR : Nat → Int32} {cn nodes st : Int32} {bN : Nat} {bF : Nat → Int32} {leN : Nat} {leF : Nat → Int32} {abN : Nat} {abF : Nat → Int32} {wlc wly : Int32} {WwN : Nat} {WwF : Nat → Int32} {WaN : Nat} {WaF : Nat → Int32} {WnN : Nat} {WnF : Nat → Int32} {WfN : Nat} {WfF : Nat → Int32} {WpN : Nat} {WpF : Nat → Int32} {WtN : Nat} {WtF : Nat → Int32} {WlN : Nat} {WlF : Nat → Int32} {WiP : Nat} {Wip : Nat → Int32} {WiN : Nat} {Wi : Nat → Int32} {WiL : Nat} {Wil : Nat → Int32} {WiK : Nat} {Wik : Nat → Int32} {WoP : Nat} {Wop : Nat → Int32} {WoN : Nat} {Wo : Nat → Int32} {WoL : Nat} {Wol : Nat → Int32} {WoK : Nat} {Wok : Nat → Int32} {rlc rly : Int32} {RwN : Nat} {RwF : Nat → Int32} {RaN : Nat} {RaF : Nat → Int32} {RnN : Nat} {RnF : Nat → Int32} {RfN : Nat} {RfF : Nat → Int32} {RpN : Nat} {RpF : Nat → Int32} {RtN : Nat} {RtF : Nat → Int32} {RlN : Nat} {RlF : Nat → Int32} {RiP : Nat} {Rip : Nat → Int32} {RiN : Nat} {Ri : Nat → Int32} {RiL : Nat} {Ril : Nat → Int32} {RiK : Nat} {Rik : Nat → Int32} {RoP : Nat} {Rop : Nat → Int32} {RoN : Nat} {Ro : Nat → Int32} {RoL : Nat} {Rol : Nat → Int32} {RoK : Nat} {Rok : Nat → Int32} {sg sr a1 a2 a3 a4 a5 a6 th sty bds size P ov2 wr bg en rm wg ct : Int32} {wiN : Nat} {wiF : Nat → Int32} {hiN : Nat} {hiF : Nat → Int32} {beN : Nat} {beF : Nat → Int32} {BN : Nat} {B : Nat → Int32} {cN : Nat} {cF : Nat → Int32} {WN : Nat} {WF : Nat → Int32} {brN : Nat} {brF : Nat → Int32} {fiN : Nat} {fiF : Nat → Int32} {miN : Nat} {miF : Nat → Int32} {toN : Nat} {toF : Nat → Int32} {oN : Nat} {oF : Nat → Int32} {LeN : Nat} {LeF : Nat → Int32} {lyN : Nat} {lyF : Nat → Int32} {LoN : Nat} {LF : Nat → Int32} {KN : Nat} {KF : Nat → Int32} {outN : Nat} {out : Nat → Int64} (hF : 1000000 ≤ F) (hrec : RecOk rec23 v4 r) (hv : 0 ≤ v4.toInt ∧ v4.toInt + 5 ≤ L ∧ L ≤ 2147483640) (hI : INV ov sc sN sR cn nodes st bN bF leN leF abN abF wlc wly WwN WwF WaN WaF WnN WnF WfN WfF WpN WpF WtN WtF WlN WlF WiP WiN Wi WiL Wil WiK Wik WoP WoN Wo WoL Wol WoK Wok rlc rly RwN RwF RaN RaF RnN RnF RfN RfF RpN RpF RtN RlN RlF RiP RiN Ri RiL Ril RiK Rik RoP RoN RoL Rol RoK Rok sty bds size P ov2 wiN wiF hiN hiF beN beF BN B cN cF WN WF brN brF fiN fiF miN miF toN toF oN oF LeN LeF lyN lyF LoN LF KN KF outN) : Ok (g_Law_law_140 F rec23 L xs ov sc sN sR cn nodes st bN bF leN leF abN abF wlc wly WwN WwF WaN WaF WnN WnF WfN WfF WpN WpF WtN WtF WlN WlF WiP Wip WiN Wi WiL Wil WiK Wik WoP Wop WoN Wo WoL Wol WoK Wok rlc rly RwN RwF RaN RaF RnN RnF RfN RfF RpN RpF RtN RtF RlN RlF RiP Rip RiN Ri RiL Ril RiK Rik RoP Rop RoN Ro RoL Rol RoK Rok sg sr a1 a2 a3 a4 a5 a6 th sty bds size P ov2 wr bg en rm wg ct wiN wiF hiN hiF beN beF BN B cN cF WN WF brN brF fiN fiF miN miF toN toF oN oF LeN LeF lyN lyF LoN LF KN KF outN out v4) (BND (r + 1) (PHI sN leN abN WwN WaN WnN WfN WpN WtN WlN WiN WiL WiK WoN WoL WoK RwN RaN RnN RfN RpN RtN RlN RiN RiL RiK RoN RoL RoK)) := by
  have L := lits
  have hI0 := hI
  obtain ⟨m, w, h, lw, lr, ⟨e0, e1, e2, e3, e4, e5, e6, e7, e8, e9, e10, e11, e12, e13, e14, e15, e16⟩, hVG, hVS, hJO, hZW, hZR, hJW, hJR, hVL⟩ := hI
  subst e0; subst e1; subst e2; subst e3; subst e4; subst e5; subst e6; subst e7; subst e8; subst e9; subst e10; subst e11; subst e12; subst e13; subst e14; subst e15; subst e16
  obtain ⟨⟨hG, hA, hL⟩, ⟨m1, m2, m3, m4⟩, hb, hwi, hs⟩ := hVG
  have m4 := m4.symm
  subst m4
  obtain ⟨j1, j2, ⟨j3, j4⟩, ⟨j5, j6⟩, ⟨j7, j8⟩⟩ := hJO
  have hP := p_le hG hJW hJR j1 hVL
  have hv4 : 0 ≤ v4.toInt ∧ v4.toInt ≤ 2147483640 := by omega
  have w1 : (v4 + 1).toInt = v4.toInt + 1 := by rw [ti_add (by omega)]; omega
  have w2 : (v4 + 2).toInt = v4.toInt + 2 := by rw [ti_add (by omega)]; omega
  have w3 : (v4 + 3).toInt = v4.toInt + 3 := by rw [ti_add (by omega)]; omega
  have w4 : (v4 + 4).toInt = v4.toInt + 4 := by rw [ti_add (by omega)]; omega
  unfold g_Law_law_140
  refine ok_v (ok_in (by omega) (ok_v ?_))
  refine ok_v (ok_in (by omega) (ok_v ?_))
  obtain ⟨z1, z2, z3, z4, z5, z6⟩ := hZW
  obtain ⟨y1, y2, y3, y4, y5, y6⟩ := hZR
  refine ok_bm (c_band hF hG hA hL m1 (fun j hj => (hb j hj).1) m3 hs rfl z1 z2 z5 z6 y1 y2 y5 y6) (fun u hu => ok_c ?_)
  refine ok_v (ok_in (by omega) (ok_v ?_))
  refine ok_v (ok_in (by omega) (ok_v ?_))
  refine ok_bm (m_band (wly := wly) (rly := rly) hG m2 (fun j hj => (hb j hj).2) ⟨j3, j4⟩ (by omega)) (fun v hv2 => ?_)
  refine ok_bm (Q := fun t => t = v.2.1) (ok_s rfl) (fun t et => ?_)
  subst et
  rw [j2] at hv2
  rcases hu with ⟨q1, rfl⟩ | ⟨q1, q2, rfl⟩ | ⟨W, H, x, za, zw, zr, q1, q2, q3, q4, q5, q6, nc, ns, out', rfl, q7, q8, q9⟩
  · rcases hv2 with ⟨g1, rfl⟩ | ⟨g1, g2, rfl⟩ | ⟨W', H', x', g1, g2, g3, g4, g5, g6, g7, g8, g9⟩
    · exact ok_p rfl (ok_d (fun c => absurd c n10) (fun c => bnd_go (st_go hrec hv4 hI0) cost_t))
    · exact absurd g1 q1
    · exact absurd ⟨W', H', g1⟩ q1
  · rcases hv2 with ⟨g1, rfl⟩ | ⟨g1, g2, rfl⟩ | ⟨W', H', x', g1, g2, g3, g4, g5, g6, g7, g8, g9⟩
    · exact absurd q1 g1
    · exact ok_p rfl (ok_d (fun c => absurd c n20) (fun c => bnd_go (st_go hrec hv4 hI0) cost_t))
    · exact absurd q2 g2
  · rcases hv2 with ⟨g1, rfl⟩ | ⟨g1, g2, rfl⟩ | ⟨W', H', x', g1, g2, g3, g4, g5, g6, g7, g8, g9⟩
    · exact absurd ⟨W, H, q1⟩ g1
    · exact absurd g2 q2
    · have eW : W' = W := by omega
      have eH : H' = H := by omega
      subst eW; subst eH
      obtain ⟨v1, v2, v3, v4', v5, v6⟩ := v
      dsimp only at g3 g4 g5 g7 g8 g9
      subst g4; subst g7; subst g8; subst g9
      have ex : v1 = x := ti_ofI (by omega)
      refine ok_p rfl ?_
      refine ok_d (fun c => ok_in (by omega) (ok_v (ok_v (ok_v (ok_p ((lg_cmp_eq _ _).mpr (by (try dsimp only); rw [ex]; exact q7)) ?_))))) (fun c => absurd rfl c)
      obtain ⟨zac, zas, zcn, zno, zbF, zleN, zleF, zabN, zabF⟩ := za
      obtain ⟨ec, es, ewN, ewF, eaN, eaF, enN, enF, efN, efF, epN, epF, etN, etF, eiuN, eiuF, eilN, eilF, eikN, eikF, eouN, eouF, eolN, eolF, eokN, eokF⟩ := zw
      obtain ⟨dc, ds, dwN, dwF, daN, daF, dnN, dnF, dfN, dfF, dpN, dpF, dtN, dtF, diuN, diuF, dilN, dilF, dikN, dikF, douN, douF, dolN, dolF, dokN, dokF⟩ := zr
      obtain ⟨a1, a2, a3, a4, a5, a6, a7, a8, a9⟩ := q4
      dsimp only at a1 a2 a3 a4 a5 a6 a7 a8 a9 q8 q9
      have lw0 : lw = 0 := by omega
      have lr0 : lr = 0 := by omega
      have ov0 : ov.toInt = 0 := by omega
      have hW' := jw_band hG a1 hJW hVL lw0 q5
      have hR' := jr_band hG a1 hJR hVL lr0 ov0 q6
      obtain ⟨c1, c2, c3, c4, -⟩ := q5
      obtain ⟨d1, d2, d3, d4, -⟩ := q6
      dsimp only at c1 c2 c3 c4 d1 d2 d3 d4
      refine bnd_go (st_go hrec hv4 ?_) (by unfold PHI; dsimp only; omega)
      have kbb : bbase (ext w m W') (ext h m H') (m + 1) = bbase w h m + W' * H' := by rw [bbase_s, bbase_ext m (by omega), ext_is, ext_is]
      try dsimp only
      refine ⟨m + 1, ext w m W', ext h m H', lw, lr, ⟨rfl, rfl, rfl, rfl, rfl, rfl, rfl, rfl, rfl, rfl, rfl, rfl, rfl, rfl, rfl, rfl, rfl⟩, ⟨⟨a1, a2, a3⟩, ⟨by omega, by omega, a5, rfl⟩, fun j hj => ⟨a6 j hj, ?_⟩, fun i hi => ?_, a7⟩, hVS, ⟨j1, j2, ⟨j3, j4⟩, ⟨j5, j6⟩, ⟨j7, j8⟩⟩, ⟨by omega, by omega, z3, z4, by omega, by omega⟩, ⟨by omega, by omega, y3, y4, by omega, by omega⟩, hW', hR', hVL⟩
      · by_cases c : j = m + 1
        · rw [c, upd_is, kbb]; exact g6
        · rw [upd_no c, bbase_ext j (by omega)]; exact (hb j (by omega)).2
      · by_cases c : i = m
        · rw [c, upd_is, upd_is, ext_is, ext_is]; exact ⟨g1.1, g1.2.2.1⟩
        · rw [upd_no c, upd_no c, ext_no c, ext_no c]; exact hwi i (by omega)
set_option maxHeartbeats 4000000 in
theorem st_write {F L r : Nat} {xs : Nat → Int32} {rec23 : Int32 → Int32 → Nat → (Nat → Int32) → Int32 → Int32 → Int32 → Nat → (Nat → Int32) → Nat → (Nat → Int32) → Nat → (Nat → Int32) → Int32 → Int32 → Nat → (Nat → Int32) → Nat → (Nat → Int32) → Nat → (Nat → Int32) → Nat → (Nat → Int32) → Nat → (Nat → Int32) → Nat → (Nat → Int32) → Nat → (Nat → Int32) → Nat → (Nat → Int32) → Nat → (Nat → Int32) → Nat → (Nat → Int32) → Nat → (Nat → Int32) → Nat → (Nat → Int32) → Nat → (Nat → Int32) → Nat → (Nat → Int32) → Nat → (Nat → Int32) → Int32 → Int32 → Nat → (Nat → Int32) → Nat → (Nat → Int32) → Nat → (Nat → Int32) → Nat → (Nat → Int32) → Nat → (Nat → Int32) → Nat → (Nat → Int32) → Nat → (Nat → Int32) → Nat → (Nat → Int32) → Nat → (Nat → Int32) → Nat → (Nat → Int32) → Nat → (Nat → Int32) → Nat → (Nat → Int32) → Nat → (Nat → Int32) → Nat → (Nat → Int32) → Nat → (Nat → Int32) → Int32 → Int32 → Int32 → Int32 → Int32 → Int32 → Int32 → Int32 → Int32 → Int32 → Int32 → Int32 → Int32 → Int32 → Int32 → Int32 → Int32 → Int32 → Int32 → Int32 → Nat → (Nat → Int32) → Nat → (Nat → Int32) → Nat → (Nat → Int32) → Nat → (Nat → Int32) → Nat → (Nat → Int32) → Nat → (Nat → Int32) → Nat → (Nat → Int32) → Nat → (Nat → Int32) → Nat → (Nat → Int32) → Nat → (Nat → Int32) → Nat → (Nat → Int32) → Nat → (Nat → Int32) → Nat → (Nat → Int32) → Nat → (Nat → Int32) → Nat → (Nat → Int32) → Nat → (Nat → Int64) → Int32 → Option (Nat × Nat × Unit)} {v4 : Int32} {ov sc : Int32} {sN : Nat} {sR : Nat → Int32} {cn nodes st : Int32} {bN : Nat} {bF : Nat → Int32} {leN : Nat} {leF : Nat → Int32} {abN : Nat} {abF : Nat → Int32} {wlc wly : Int32} {WwN : Nat} {WwF : Nat → Int32} {WaN : Nat} {WaF : Nat → Int32} {WnN : Nat} {WnF : Nat → Int32} {WfN : Nat} {WfF : Nat → Int32} {WpN : Nat} {WpF : Nat → Int32} {WtN : Nat} {WtF : Nat → Int32} {WlN : Nat} {WlF : Nat → Int32} {WiP : Nat} {Wip : Nat → Int32} {WiN : Nat} {Wi : Nat → Int32} {WiL : Nat} {Wil : Nat → Int32} {WiK : Nat} {Wik : Nat → Int32} {WoP : Nat} {Wop : Nat → Int32} {WoN : Nat} {Wo : Nat → Int32} {WoL : Nat} {Wol : Nat → Int32} {WoK : Nat} {Wok : Nat → Int32} {rlc rly : Int32} {RwN : Nat} {RwF : Nat → Int32} {RaN : Nat} {RaF : Nat → Int32} {RnN : Nat} {RnF : Nat → Int32} {RfN : Nat} {RfF : Nat → Int32} {RpN : Nat} {RpF : Nat → Int32} {RtN : Nat} {RtF : Nat → Int32} {RlN : Nat} {RlF : Nat → Int32} {RiP : Nat} {Rip : Nat → Int32} {RiN : Nat} {Ri : Nat → Int32} {RiL : Nat} {Ril : Nat → Int32} {RiK : Nat} {Rik : Nat → Int32} {RoP : Nat} {Rop : Nat → Int32} {RoN : Nat} {Ro : Nat → Int32} {RoL : Nat} {Rol : Nat → Int32} {RoK : Nat} {Rok : Nat → Int32} {sg sr a1 a2 a3 a4 a5 a6 th sty bds size P ov2 wr bg en rm wg ct : Int32} {wiN : Nat} {wiF : Nat → Int32} {hiN : Nat} {hiF : Nat → Int32} {beN : Nat} {beF : Nat → Int32} {BN : Nat} {B : Nat → Int32} {cN : Nat} {cF : Nat → Int32} {WN : Nat} {WF : Nat → Int32} {brN : Nat} {brF : Nat → Int32} {fiN : Nat} {fiF : Nat → Int32} {miN : Nat} {miF : Nat → Int32} {toN : Nat} {toF : Nat → Int32} {oN : Nat} {oF : Nat → Int32} {LeN : Nat} {LeF : Nat → Int32} {lyN : Nat} {lyF : Nat → Int32} {LoN : Nat} {LF : Nat → Int32} {KN : Nat} {KF : Nat → Int32} {outN : Nat} {out : Nat → Int64} (hF : 1000000 ≤ F) (hrec : RecOk rec23 v4 r) (hv : 0 ≤ v4.toInt ∧ v4.toInt + 5 ≤ L ∧ L ≤ 2147483640) (hI : INV ov sc sN sR cn nodes st bN bF leN leF abN abF wlc wly WwN WwF WaN WaF WnN WnF WfN WfF WpN WpF WtN WtF WlN WlF WiP WiN Wi WiL Wil WiK Wik WoP WoN Wo WoL Wol WoK Wok rlc rly RwN RwF RaN RaF RnN RnF RfN RfF RpN RpF RtN RlN RlF RiP RiN Ri RiL Ril RiK Rik RoP RoN RoL Rol RoK Rok sty bds size P ov2 wiN wiF hiN hiF beN beF BN B cN cF WN WF brN brF fiN fiF miN miF toN toF oN oF LeN LeF lyN lyF LoN LF KN KF outN) : Ok (g_Law_law_440 F rec23 ov sc sN sR cn nodes st bN bF leN leF abN abF wlc wly WwN WwF WaN WaF WnN WnF WfN WfF WpN WpF WtN WtF WlN WlF WiP Wip WiN Wi WiL Wil WiK Wik WoP Wop WoN Wo WoL Wol WoK Wok rlc rly RwN RwF RaN RaF RnN RnF RfN RfF RpN RpF RtN RtF RlN RlF RiP Rip RiN Ri RiL Ril RiK Rik RoP Rop RoN Ro RoL Rol RoK Rok sg sr a1 a2 a3 a4 a5 a6 th sty bds size P ov2 wr bg en rm wg ct wiN wiF hiN hiF beN beF BN B cN cF WN WF brN brF fiN fiF miN miF toN toF oN oF LeN LeF lyN lyF LoN LF KN KF outN out v4) (BND (r + 1) (PHI sN leN abN WwN WaN WnN WfN WpN WtN WlN WiN WiL WiK WoN WoL WoK RwN RaN RnN RfN RpN RtN RlN RiN RiL RiK RoN RoL RoK)) := by
  have L := lits
  have hI0 := hI
  obtain ⟨m, w, h, lw, lr, ⟨e0, e1, e2, e3, e4, e5, e6, e7, e8, e9, e10, e11, e12, e13, e14, e15, e16⟩, hVG, hVS, hJO, hZW, hZR, hJW, hJR, hVL⟩ := hI
  subst e0; subst e1; subst e2; subst e3; subst e4; subst e5; subst e6; subst e7; subst e8; subst e9; subst e10; subst e11; subst e12; subst e13; subst e14; subst e15; subst e16
  obtain ⟨⟨hG, hA, hL⟩, ⟨m1, m2, m3, m4⟩, hb, hwi, hs⟩ := hVG
  have m4 := m4.symm
  subst m4
  obtain ⟨j1, j2, ⟨j3, j4⟩, ⟨j5, j6⟩, ⟨j7, j8⟩⟩ := hJO
  have hP := p_le hG hJW hJR j1 hVL
  have hv4 : 0 ≤ v4.toInt ∧ v4.toInt ≤ 2147483640 := by omega
  have w1 : (v4 + 1).toInt = v4.toInt + 1 := by rw [ti_add (by omega)]; omega
  have w2 : (v4 + 2).toInt = v4.toInt + 2 := by rw [ti_add (by omega)]; omega
  have w3 : (v4 + 3).toInt = v4.toInt + 3 := by rw [ti_add (by omega)]; omega
  have w4 : (v4 + 4).toInt = v4.toInt + 4 := by rw [ti_add (by omega)]; omega
  unfold g_Law_law_440
  have hN := hG.2.2
  refine ok_bm (s_write (th := th) (wr := wr) (bg := bg) (en := en) (rm := rm) (wg := wg) (ct := ct) (lyF := lyF) (P := P) (B := B) (size := size) (fiF := fiF) (miF := miF) (LF := LF) (KF := KF) (brF := brF) (cF := cF) (toF := toF) (WF := WF) (oF := oF) (LeF := LeF) (beF := beF) (wiF := wiF) (hiF := hiF) (bds := bds) hF hG hA hL ⟨m1, m2, m3⟩ hb hwi ⟨hs.1, hs.2.2.2.1⟩ hZW rfl hVS ⟨j3, j5⟩ hJW.1 hJW.2.1 hJW.2.2.1 hJW.2.2.2.1 hJW.2.2.2.2.1 hJW.2.2.2.2.2.1 hVL (by omega)) (fun u hu => ok_c ?_)
  refine ok_bm hu (fun v hv2 => ?_)
  refine ok_bm (Q := fun t => t = v.2.1) (ok_s rfl) (fun t et => ?_)
  subst et
  rcases hv2 with ⟨q1, rfl, rfl⟩ | ⟨q1, q2, rfl, rfl⟩ | hO
  · exact ok_p rfl (ok_d (fun c => absurd c n10) (fun c => bnd_go (st_go hrec hv4 hI0) cost_t))
  · exact ok_p rfl (ok_d (fun c => absurd c n20) (fun c => bnd_go (st_go hrec hv4 hI0) cost_t))
  · obtain ⟨nc, ns, cd, sc', sN', sR', lc', ly', wF', aF', nF', fF', pF', tF', lN', lF', ip', inu', il', ik', op', onu', ol', ok', g', r', out'⟩ := u
    obtain ⟨bb, th', size', P', wr', bg', en', rm', wg', ct', B', fiF', miF', LF', KF', brF', cF', toF', WF', oF', LeF', lyF'⟩ := v
    have hW' := jw_write hG hJW hO
    obtain ⟨⟨k0, -⟩, -, k1, k2, k3, k4, k5, ⟨k6, k7, k8⟩, -, -, -, -, k9, k10, ⟨k11, k12⟩, k13, k14, ⟨k15, k16⟩, k17, ⟨k18, k19⟩⟩ := hO
    dsimp only at k1 k2 k3 k4 k5 k6 k7 k8 k9 k10 k11 k12 k13 k14 k15 k16 k17 k18 k19
    subst k1; subst k2
    refine ok_p rfl ?_
    refine ok_d (fun c => ok_in (by omega) (ok_v (ok_v (ok_v (ok_p ((lg_cmp_eq _ _).mpr k3) ?_))))) (fun c => absurd rfl c)
    refine bnd_go (st_go hrec hv4 ?_) (by unfold PHI; dsimp only; omega)
    subst k8
    subst k11; subst k12
    try dsimp only
    refine ⟨m, w, h, lw + 1, lr, ⟨rfl, rfl, rfl, rfl, rfl, rfl, rfl, rfl, rfl, rfl, rfl, rfl, rfl, rfl, rfl, rfl, rfl⟩, ⟨⟨hG, hA, hL⟩, ⟨m1, m2, m3, rfl⟩, hb, hwi, hs⟩, k4, ⟨j1, j2, ⟨k18, k19.trans j4⟩, ⟨by omega, by omega⟩, ⟨j7, j8⟩⟩, hZW, hZR, hW', jr_keep hG hJR (fun j h1 h2 => ⟨(k14 j h1).1, k10 j (by omega), (k14 j h1).2, rfl, rfl, by rw [k17 j, if_neg (by omega)]⟩) (lk_kept (kept_2 k16) (Or.inl (by omega))) (fun x h1 _ => k9 x h1), vl_kept hVL (kept_2 k16) k15 (fun j hj => ?_)⟩
    rw [k17 j]
    by_cases c : j < 1024
    · rw [if_pos c, if_pos (by omega)]
    · rw [if_neg c, if_neg (by omega)]
set_option maxHeartbeats 4000000 in
theorem st_read {F L r : Nat} {xs : Nat → Int32} {rec23 : Int32 → Int32 → Nat → (Nat → Int32) → Int32 → Int32 → Int32 → Nat → (Nat → Int32) → Nat → (Nat → Int32) → Nat → (Nat → Int32) → Int32 → Int32 → Nat → (Nat → Int32) → Nat → (Nat → Int32) → Nat → (Nat → Int32) → Nat → (Nat → Int32) → Nat → (Nat → Int32) → Nat → (Nat → Int32) → Nat → (Nat → Int32) → Nat → (Nat → Int32) → Nat → (Nat → Int32) → Nat → (Nat → Int32) → Nat → (Nat → Int32) → Nat → (Nat → Int32) → Nat → (Nat → Int32) → Nat → (Nat → Int32) → Nat → (Nat → Int32) → Int32 → Int32 → Nat → (Nat → Int32) → Nat → (Nat → Int32) → Nat → (Nat → Int32) → Nat → (Nat → Int32) → Nat → (Nat → Int32) → Nat → (Nat → Int32) → Nat → (Nat → Int32) → Nat → (Nat → Int32) → Nat → (Nat → Int32) → Nat → (Nat → Int32) → Nat → (Nat → Int32) → Nat → (Nat → Int32) → Nat → (Nat → Int32) → Nat → (Nat → Int32) → Nat → (Nat → Int32) → Int32 → Int32 → Int32 → Int32 → Int32 → Int32 → Int32 → Int32 → Int32 → Int32 → Int32 → Int32 → Int32 → Int32 → Int32 → Int32 → Int32 → Int32 → Int32 → Int32 → Nat → (Nat → Int32) → Nat → (Nat → Int32) → Nat → (Nat → Int32) → Nat → (Nat → Int32) → Nat → (Nat → Int32) → Nat → (Nat → Int32) → Nat → (Nat → Int32) → Nat → (Nat → Int32) → Nat → (Nat → Int32) → Nat → (Nat → Int32) → Nat → (Nat → Int32) → Nat → (Nat → Int32) → Nat → (Nat → Int32) → Nat → (Nat → Int32) → Nat → (Nat → Int32) → Nat → (Nat → Int64) → Int32 → Option (Nat × Nat × Unit)} {v4 : Int32} {ov sc : Int32} {sN : Nat} {sR : Nat → Int32} {cn nodes st : Int32} {bN : Nat} {bF : Nat → Int32} {leN : Nat} {leF : Nat → Int32} {abN : Nat} {abF : Nat → Int32} {wlc wly : Int32} {WwN : Nat} {WwF : Nat → Int32} {WaN : Nat} {WaF : Nat → Int32} {WnN : Nat} {WnF : Nat → Int32} {WfN : Nat} {WfF : Nat → Int32} {WpN : Nat} {WpF : Nat → Int32} {WtN : Nat} {WtF : Nat → Int32} {WlN : Nat} {WlF : Nat → Int32} {WiP : Nat} {Wip : Nat → Int32} {WiN : Nat} {Wi : Nat → Int32} {WiL : Nat} {Wil : Nat → Int32} {WiK : Nat} {Wik : Nat → Int32} {WoP : Nat} {Wop : Nat → Int32} {WoN : Nat} {Wo : Nat → Int32} {WoL : Nat} {Wol : Nat → Int32} {WoK : Nat} {Wok : Nat → Int32} {rlc rly : Int32} {RwN : Nat} {RwF : Nat → Int32} {RaN : Nat} {RaF : Nat → Int32} {RnN : Nat} {RnF : Nat → Int32} {RfN : Nat} {RfF : Nat → Int32} {RpN : Nat} {RpF : Nat → Int32} {RtN : Nat} {RtF : Nat → Int32} {RlN : Nat} {RlF : Nat → Int32} {RiP : Nat} {Rip : Nat → Int32} {RiN : Nat} {Ri : Nat → Int32} {RiL : Nat} {Ril : Nat → Int32} {RiK : Nat} {Rik : Nat → Int32} {RoP : Nat} {Rop : Nat → Int32} {RoN : Nat} {Ro : Nat → Int32} {RoL : Nat} {Rol : Nat → Int32} {RoK : Nat} {Rok : Nat → Int32} {sg sr a1 a2 a3 a4 a5 a6 th sty bds size P ov2 wr bg en rm wg ct : Int32} {wiN : Nat} {wiF : Nat → Int32} {hiN : Nat} {hiF : Nat → Int32} {beN : Nat} {beF : Nat → Int32} {BN : Nat} {B : Nat → Int32} {cN : Nat} {cF : Nat → Int32} {WN : Nat} {WF : Nat → Int32} {brN : Nat} {brF : Nat → Int32} {fiN : Nat} {fiF : Nat → Int32} {miN : Nat} {miF : Nat → Int32} {toN : Nat} {toF : Nat → Int32} {oN : Nat} {oF : Nat → Int32} {LeN : Nat} {LeF : Nat → Int32} {lyN : Nat} {lyF : Nat → Int32} {LoN : Nat} {LF : Nat → Int32} {KN : Nat} {KF : Nat → Int32} {outN : Nat} {out : Nat → Int64} (hF : 1000000 ≤ F) (hrec : RecOk rec23 v4 r) (hv : 0 ≤ v4.toInt ∧ v4.toInt + 5 ≤ L ∧ L ≤ 2147483640) (hI : INV ov sc sN sR cn nodes st bN bF leN leF abN abF wlc wly WwN WwF WaN WaF WnN WnF WfN WfF WpN WpF WtN WtF WlN WlF WiP WiN Wi WiL Wil WiK Wik WoP WoN Wo WoL Wol WoK Wok rlc rly RwN RwF RaN RaF RnN RnF RfN RfF RpN RpF RtN RlN RlF RiP RiN Ri RiL Ril RiK Rik RoP RoN RoL Rol RoK Rok sty bds size P ov2 wiN wiF hiN hiF beN beF BN B cN cF WN WF brN brF fiN fiF miN miF toN toF oN oF LeN LeF lyN lyF LoN LF KN KF outN) : Ok (g_Law_law_607 F rec23 L xs ov sc sN sR cn nodes st bN bF leN leF abN abF wlc wly WwN WwF WaN WaF WnN WnF WfN WfF WpN WpF WtN WtF WlN WlF WiP Wip WiN Wi WiL Wil WiK Wik WoP Wop WoN Wo WoL Wol WoK Wok rlc rly RwN RwF RaN RaF RnN RnF RfN RfF RpN RpF RtN RtF RlN RlF RiP Rip RiN Ri RiL Ril RiK Rik RoP Rop RoN Ro RoL Rol RoK Rok sg sr a1 a2 a3 a4 a5 a6 th sty bds size P ov2 wr bg en rm wg ct wiN wiF hiN hiF beN beF BN B cN cF WN WF brN brF fiN fiF miN miF toN toF oN oF LeN LeF lyN lyF LoN LF KN KF outN out v4) (BND (r + 1) (PHI sN leN abN WwN WaN WnN WfN WpN WtN WlN WiN WiL WiK WoN WoL WoK RwN RaN RnN RfN RpN RtN RlN RiN RiL RiK RoN RoL RoK)) := by
  have L := lits
  have hI0 := hI
  obtain ⟨m, w, h, lw, lr, ⟨e0, e1, e2, e3, e4, e5, e6, e7, e8, e9, e10, e11, e12, e13, e14, e15, e16⟩, hVG, hVS, hJO, hZW, hZR, hJW, hJR, hVL⟩ := hI
  subst e0; subst e1; subst e2; subst e3; subst e4; subst e5; subst e6; subst e7; subst e8; subst e9; subst e10; subst e11; subst e12; subst e13; subst e14; subst e15; subst e16
  obtain ⟨⟨hG, hA, hL⟩, ⟨m1, m2, m3, m4⟩, hb, hwi, hs⟩ := hVG
  have m4 := m4.symm
  subst m4
  obtain ⟨j1, j2, ⟨j3, j4⟩, ⟨j5, j6⟩, ⟨j7, j8⟩⟩ := hJO
  have hP := p_le hG hJW hJR j1 hVL
  have hv4 : 0 ≤ v4.toInt ∧ v4.toInt ≤ 2147483640 := by omega
  have w1 : (v4 + 1).toInt = v4.toInt + 1 := by rw [ti_add (by omega)]; omega
  have w2 : (v4 + 2).toInt = v4.toInt + 2 := by rw [ti_add (by omega)]; omega
  have w3 : (v4 + 3).toInt = v4.toInt + 3 := by rw [ti_add (by omega)]; omega
  have w4 : (v4 + 4).toInt = v4.toInt + 4 := by rw [ti_add (by omega)]; omega
  unfold g_Law_law_607
  have hN := hG.2.2
  have hW1 : ∀ b, b < bbase w h m → (toF b).toInt ≤ (WpF b).toInt := by
    intro b hb'
    obtain ⟨c1, c2, c3, c4, c5, c6, c7, c8, c9, c10, -⟩ := hJW.2.1 b hb'
    rw [c8]; exact c10
  refine ok_v (ok_in (by omega) (ok_v ?_))
  refine ok_v (ok_in (by omega) (ok_v ?_))
  refine ok_bm (s_read (nb := bbase w h m) (nn := nbase w h m) (wpF := WpF) (th := th) (wr := wr) (bg := bg) (en := en) (rm := rm) (wg := wg) (ct := ct) (lyF := lyF) (P := P) (B := B) (size := size) (fiF := fiF) (miF := miF) (LF := LF) (KF := KF) (brF := brF) (cF := cF) (toF := toF) (WF := WF) (oF := oF) (LeF := LeF) (beF := beF) (wiF := wiF) (hiF := hiF) (bds := bds) (ov2 := ov2) hF ⟨rfl, rfl⟩ hG hA hL ⟨m1, m2, m3⟩ hb hwi ⟨hs.1, hs.2.2.2.1⟩ hZR rfl hVS ⟨j4, j7, j8⟩ j2 hJR.1 hJR.2.1 hVL (by omega) ⟨hW1, fun b h1 h2 => (hJW.2.2.2.2.2.1 b h1 h2).2.2.2.2.2, hJW.1.1.2.2.1, hJW.1.1.2.2.2.2⟩) (fun u hu => ok_c ?_)
  refine ok_v (ok_in (by omega) (ok_v ?_))
  refine ok_v (ok_in (by omega) (ok_v ?_))
  refine ok_bm hu (fun v hv2 => ?_)
  refine ok_bm (Q := fun t => t = v.2.1) (ok_s rfl) (fun t et => ?_)
  subst et
  obtain ⟨y1, y2, y3, y4, y5, y6⟩ := hZR
  rcases hv2 with ⟨q1, rfl, rfl⟩ | ⟨q1, q2, rfl, rfl⟩ | ⟨q1, q2, q3, hO | hO⟩
  · exact ok_p rfl (ok_d (fun c => absurd c n10) (fun c => bnd_go (st_go hrec hv4 hI0) cost_t))
  · exact ok_p rfl (ok_d (fun c => absurd c n20) (fun c => bnd_go (st_go hrec hv4 hI0) cost_t))
  · skip
    obtain ⟨nc, ns, cd, ov', lc', ly', wF', aF', nF', fF', pF', tF', lN', lF', ip', iN', inu', iL', il', iK', ik', op', oN', onu', oL', ol', oK', ok', b1, b2, b3, b4, b5, b6, out'⟩ := u
    obtain ⟨bb, th', size', P', ov2', wr', bg', en', rm', wg', ct', B', fiF', miF', LF', KF', brF', cF', toF', WF', oF', LeF', lyF'⟩ := v
    obtain ⟨r1, r2, r3, r4, r5, r6⟩ := jr_good (tF := RtF) (onu := Ro) hG hJR hVL q2 hO
    obtain ⟨P0, o1, Le1, br1, c1, to1, -, -, -, -, -, k1, k2, k3, k4, ⟨k5, k6, k7, k8, k9⟩, ⟨i1, i2, i3, i4, i5, i6⟩, ⟨k10, k11, -⟩, -⟩ := hO
    dsimp only at k1 k2 k3 k4 k5 k6 k7 k8 k9 i1 i2 i3 i4 i5 i6 k10 k11
    subst k1; subst k2
    refine ok_p rfl ?_
    refine ok_d (fun c => ok_in (by omega) (ok_v (ok_v (ok_v (ok_p ((lg_cmp_eq _ _).mpr k3) ?_))))) (fun c => absurd rfl c)
    refine bnd_go (st_go hrec hv4 ?_) (by unfold PHI; dsimp only; omega)
    subst k10; subst k11
    try dsimp only
    refine ⟨m, w, h, lw, lr + 1, ⟨rfl, rfl, rfl, rfl, rfl, rfl, rfl, rfl, rfl, rfl, rfl, rfl, rfl, rfl, rfl, rfl, rfl⟩, ⟨⟨hG, hA, hL⟩, ⟨m1, m2, m3, rfl⟩, hb, hwi, hs⟩, hVS, ⟨by rw [k5]; exact j1, by rw [k5, k6]; exact j2, ⟨k9.trans j3, k8⟩, ⟨j5, j6⟩, ⟨by omega, by omega⟩⟩, hZW, ⟨y1, y2, r6, y4, by omega, by omega⟩, jw_keep hG hJW r3 r4 r5, r1, r2⟩
  · skip
    obtain ⟨nc, ns, cd, ov', lc', ly', wF', aF', nF', fF', pF', tF', lN', lF', ip', iN', inu', iL', il', iK', ik', op', oN', onu', oL', ol', oK', ok', b1, b2, b3, b4, b5, b6, out'⟩ := u
    obtain ⟨bb, th', size', P', ov2', wr', bg', en', rm', wg', ct', B', fiF', miF', LF', KF', brF', cF', toF', WF', oF', LeF', lyF'⟩ := v
    obtain ⟨r1, r2, r3, r4, r5⟩ := jr_bad (tF := RtF) (onu := Ro) hG hJR hVL hO
    obtain ⟨k1, k2, k5, k6, k7, k8, k10, k11, r6, k4, k9, -⟩ := hO
    dsimp only at k1 k2 k5 k6 k7 k8 k10 k11 r6 k4 k9
    subst k1; subst k2
    refine ok_p rfl ?_
    refine ok_d (fun c => absurd c n30) (fun c => ?_)
    refine bnd_go (st_go hrec hv4 ?_) (by unfold PHI; dsimp only; omega)
    subst k10; subst k11; subst k5; subst k6; subst k7; subst k8
    try dsimp only
    refine ⟨m, w, h, lw, lr, ⟨rfl, rfl, rfl, rfl, rfl, rfl, rfl, rfl, rfl, rfl, rfl, rfl, rfl, rfl, rfl, rfl, rfl⟩, ⟨⟨hG, hA, hL⟩, ⟨m1, m2, m3, rfl⟩, hb, hwi, hs⟩, hVS, ⟨Or.inr (by decide), rfl, ⟨j3, j4⟩, ⟨j5, j6⟩, ⟨j7, j8⟩⟩, hZW, ⟨y1, y2, r6, y4, by omega, by omega⟩, jw_keep hG hJW r3 r4 r5, r1, r2⟩
