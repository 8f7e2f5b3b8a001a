/-! The calls that change the writing side. -/
set_option maxHeartbeats 4000000 in
theorem st_put {F L r : Nat} {xs : Nat → Int32} {rec23 : Int32 → Int32 → Nat → (Nat → Int32) → Int32 → Int32 → Int32 → Nat → (Nat → Int32) → Nat → (Nat → Int32) → Nat → (Nat → Int32) → Int32 → Int32 → Nat → (Nat → Int32) → Nat → (Nat → Int32) → Nat → (Nat → Int32) → Nat → (Nat → Int32) → Nat → (Nat → Int32) → Nat → (Nat → Int32) → Nat → (Nat → Int32) → Nat → (Nat → Int32) → Nat → (Nat → Int32) → Nat → (Nat → Int32) → Nat → (Nat → Int32) → Nat → (Nat → Int32) → Nat → (Nat → Int32) → Nat → (Nat → Int32) → Nat → (Nat → Int32) → Int32 → Int32 → Nat → (Nat → Int32) → Nat → (Nat → Int32) → Nat → (Nat → Int32) → Nat → (Nat → Int32) → Nat → (Nat → Int32) → Nat → (Nat → Int32) → Nat → (Nat → Int32) → Nat → (Nat → Int32) → Nat → (Nat → Int32) → Nat → (Nat → Int32) → Nat → (Nat → Int32) → Nat → (Nat → Int32) → Nat → (Nat → Int32) → Nat → (Nat → Int32) → Nat → (Nat → Int32) → Int32 → Int32 → Int32 → Int32 → Int32 → Int32 → Int32 → Int32 → Int32 → Int32 → Int32 → Int32 → Int32 → Int32 → Int32 → Int32 → Int32 → Int32 → Int32 → Int32 → Nat → (Nat → Int32) → Nat → (Nat → Int32) → Nat → (Nat → Int32) → Nat → (Nat → Int32) → Nat → (Nat → Int32) → Nat → (Nat → Int32) → Nat → (Nat → Int32) → Nat → (Nat → Int32) → Nat → (Nat → Int32) → Nat → (Nat → Int32) → Nat → (Nat → Int32) → Nat → (Nat → Int32) → Nat → (Nat → Int32) → Nat → (Nat → Int32) → Nat → (Nat → Int32) → Nat → (Nat → Int64) → Int32 → Option (Nat × Nat × Unit)} {v4 : Int32} {ov sc : Int32} {sN : Nat} {sR : Nat → Int32} {cn nodes st : Int32} {bN : Nat} {bF : Nat → Int32} {leN : Nat} {leF : Nat → Int32} {abN : Nat} {abF : Nat → Int32} {wlc wly : Int32} {WwN : Nat} {WwF : Nat → Int32} {WaN : Nat} {WaF : Nat → Int32} {WnN : Nat} {WnF : Nat → Int32} {WfN : Nat} {WfF : Nat → Int32} {WpN : Nat} {WpF : Nat → Int32} {WtN : Nat} {WtF : Nat → Int32} {WlN : Nat} {WlF : Nat → Int32} {WiP : Nat} {Wip : Nat → Int32} {WiN : Nat} {Wi : Nat → Int32} {WiL : Nat} {Wil : Nat → Int32} {WiK : Nat} {Wik : Nat → Int32} {WoP : Nat} {Wop : Nat → Int32} {WoN : Nat} {Wo : Nat → Int32} {WoL : Nat} {Wol : Nat → Int32} {WoK : Nat} {Wok : Nat → Int32} {rlc rly : Int32} {RwN : Nat} {RwF : Nat → Int32} {RaN : Nat} {RaF : Nat → Int32} {RnN : Nat} {RnF : Nat → Int32} {RfN : Nat} {RfF : Nat → Int32} {RpN : Nat} {RpF : Nat → Int32} {RtN : Nat} {RtF : Nat → Int32} {RlN : Nat} {RlF : Nat → Int32} {RiP : Nat} {Rip : Nat → Int32} {RiN : Nat} {Ri : Nat → Int32} {RiL : Nat} {Ril : Nat → Int32} {RiK : Nat} {Rik : Nat → Int32} {RoP : Nat} {Rop : Nat → Int32} {RoN : Nat} {Ro : Nat → Int32} {RoL : Nat} {Rol : Nat → Int32} {RoK : Nat} {Rok : Nat → Int32} {sg sr a1 a2 a3 a4 a5 a6 th sty bds size P ov2 wr bg en rm wg ct : Int32} {wiN : Nat} {wiF : Nat → Int32} {hiN : Nat} {hiF : Nat → Int32} {beN : Nat} {beF : Nat → Int32} {BN : Nat} {B : Nat → Int32} {cN : Nat} {cF : Nat → Int32} {WN : Nat} {WF : Nat → Int32} {brN : Nat} {brF : Nat → Int32} {fiN : Nat} {fiF : Nat → Int32} {miN : Nat} {miF : Nat → Int32} {toN : Nat} {toF : Nat → Int32} {oN : Nat} {oF : Nat → Int32} {LeN : Nat} {LeF : Nat → Int32} {lyN : Nat} {lyF : Nat → Int32} {LoN : Nat} {LF : Nat → Int32} {KN : Nat} {KF : Nat → Int32} {outN : Nat} {out : Nat → Int64} (hF : 1000000 ≤ F) (hrec : RecOk rec23 v4 r) (hv : 0 ≤ v4.toInt ∧ v4.toInt + 5 ≤ L ∧ L ≤ 2147483640) (hI : INV ov sc sN sR cn nodes st bN bF leN leF abN abF wlc wly WwN WwF WaN WaF WnN WnF WfN WfF WpN WpF WtN WtF WlN WlF WiP WiN Wi WiL Wil WiK Wik WoP WoN Wo WoL Wol WoK Wok rlc rly RwN RwF RaN RaF RnN RnF RfN RfF RpN RpF RtN RlN RlF RiP RiN Ri RiL Ril RiK Rik RoP RoN RoL Rol RoK Rok sty bds size P ov2 wiN wiF hiN hiF beN beF BN B cN cF WN WF brN brF fiN fiF miN miF toN toF oN oF LeN LeF lyN lyF LoN LF KN KF outN) : Ok (g_Law_law_484 F rec23 L xs ov sc sN sR cn nodes st bN bF leN leF abN abF wlc wly WwN WwF WaN WaF WnN WnF WfN WfF WpN WpF WtN WtF WlN WlF WiP Wip WiN Wi WiL Wil WiK Wik WoP Wop WoN Wo WoL Wol WoK Wok rlc rly RwN RwF RaN RaF RnN RnF RfN RfF RpN RpF RtN RtF RlN RlF RiP Rip RiN Ri RiL Ril RiK Rik RoP Rop RoN Ro RoL Rol RoK Rok sg sr a1 a2 a3 a4 a5 a6 th sty bds size P ov2 wr bg en rm wg ct wiN wiF hiN hiF beN beF BN B cN cF WN WF brN brF fiN fiF miN miF toN toF oN oF LeN LeF lyN lyF LoN LF KN KF outN out v4) (BND (r + 1) (PHI sN leN abN WwN WaN WnN WfN WpN WtN WlN WiN WiL WiK WoN WoL WoK RwN RaN RnN RfN RpN RtN RlN RiN RiL RiK RoN RoL RoK)) := by
  have L := lits
  have hI0 := hI
  obtain ⟨m, w, h, lw, lr, ⟨e0, e1, e2, e3, e4, e5, e6, e7, e8, e9, e10, e11, e12, e13, e14, e15, e16⟩, hVG, hVS, hJO, hZW, hZR, hJW, hJR, hVL⟩ := hI
  subst e0; subst e1; subst e2; subst e3; subst e4; subst e5; subst e6; subst e7; subst e8; subst e9; subst e10; subst e11; subst e12; subst e13; subst e14; subst e15; subst e16
  obtain ⟨⟨hG, hA, hL⟩, ⟨m1, m2, m3, m4⟩, hb, hwi, hs⟩ := hVG
  have m4 := m4.symm
  subst m4
  obtain ⟨j1, j2, ⟨j3, j4⟩, ⟨j5, j6⟩, ⟨j7, j8⟩⟩ := hJO
  have hP := p_le hG hJW hJR j1 hVL
  have hv4 : 0 ≤ v4.toInt ∧ v4.toInt ≤ 2147483640 := by omega
  have w1 : (v4 + 1).toInt = v4.toInt + 1 := by rw [ti_add (by omega)]; omega
  have w2 : (v4 + 2).toInt = v4.toInt + 2 := by rw [ti_add (by omega)]; omega
  have w3 : (v4 + 3).toInt = v4.toInt + 3 := by rw [ti_add (by omega)]; omega
  have w4 : (v4 + 4).toInt = v4.toInt + 4 := by rw [ti_add (by omega)]; omega
  unfold g_Law_law_484
  refine ok_v (ok_in (by omega) (ok_v ?_))
  obtain ⟨s1, s2, s3, s4, s5, s6, s7, s8⟩ := hVS
  subst s1
  refine ok_bm (c_put ⟨s2, s3, s4, s5, s6⟩ s7 rfl) (fun u hu => ok_c ?_)
  refine ok_v (ok_in (by omega) (ok_v ?_))
  refine ok_bm (m_put ⟨s2, s3⟩) (fun v hv2 => ?_)
  refine ok_bm (Q := fun t => t = v.2.1) (ok_s rfl) (fun t et => ?_)
  subst et
  rcases hu with ⟨q1, rfl⟩ | ⟨q1, q2, rfl⟩ | ⟨q1, q2, q3, q4, q5, q6, q7, q8, q9, q10, q11, q12⟩
  · rcases hv2 with ⟨g1, rfl⟩ | ⟨g1, g2, rfl⟩ | ⟨g1, g2, g3, g4, g5, g6⟩
    · exact ok_p rfl (ok_d (fun c => absurd c n10) (fun c => bnd_go (st_go hrec hv4 hI0) cost_t))
    · exact absurd g1 q1
    · exact absurd g1 q1
  · rcases hv2 with ⟨g1, rfl⟩ | ⟨g1, g2, rfl⟩ | ⟨g1, g2, g3, g4, g5, g6⟩
    · exact absurd q1 g1
    · exact ok_p rfl (ok_d (fun c => absurd c n20) (fun c => bnd_go (st_go hrec hv4 hI0) cost_t))
    · omega
  · rcases hv2 with ⟨g1, rfl⟩ | ⟨g1, g2, rfl⟩ | ⟨g1, g2, g3, g4, g5, g6⟩
    · exact absurd q1 g1
    · omega
    · have ex : v.1 = u.2.2.2.1 := ti_ofI (by omega)
      refine ok_p (by rw [g4, q3]) ?_
      refine ok_d (fun c => ok_in (by omega) (ok_v (ok_v (ok_v (ok_p ((lg_cmp_eq _ _).mpr (by rw [q4, ex])) ?_))))) (fun c => absurd q3 c)
      refine bnd_go (st_go hrec hv4 ?_) (by unfold PHI; omega)
      rw [g5, g6, ex]
      try dsimp only
      refine ⟨m, w, h, lw, lr, ⟨rfl, rfl, rfl, rfl, rfl, rfl, rfl, rfl, rfl, rfl, rfl, rfl, rfl, rfl, rfl, rfl, rfl⟩, ⟨⟨hG, hA, hL⟩, ⟨m1, m2, m3, rfl⟩, hb, hwi, hs⟩, ⟨rfl, by omega, by omega, by omega, by omega, q9, q10, fun i hi => ?_⟩, ⟨j1, j2, ⟨j3, j4⟩, ⟨j5, j6⟩, ⟨j7, j8⟩⟩, hZW, hZR, hJW, hJR, hVL⟩
      by_cases c : i = sc.toInt.toNat
      · rw [c, upd_is]; exact q11
      · rw [upd_no c, q12 i (by omega)]; exact s8 i (by omega)
set_option maxHeartbeats 4000000 in
theorem st_first {F L r : Nat} {xs : Nat → Int32} {rec23 : Int32 → Int32 → Nat → (Nat → Int32) → Int32 → Int32 → Int32 → Nat → (Nat → Int32) → Nat → (Nat → Int32) → Nat → (Nat → Int32) → Int32 → Int32 → Nat → (Nat → Int32) → Nat → (Nat → Int32) → Nat → (Nat → Int32) → Nat → (Nat → Int32) → Nat → (Nat → Int32) → Nat → (Nat → Int32) → Nat → (Nat → Int32) → Nat → (Nat → Int32) → Nat → (Nat → Int32) → Nat → (Nat → Int32) → Nat → (Nat → Int32) → Nat → (Nat → Int32) → Nat → (Nat → Int32) → Nat → (Nat → Int32) → Nat → (Nat → Int32) → Int32 → Int32 → Nat → (Nat → Int32) → Nat → (Nat → Int32) → Nat → (Nat → Int32) → Nat → (Nat → Int32) → Nat → (Nat → Int32) → Nat → (Nat → Int32) → Nat → (Nat → Int32) → Nat → (Nat → Int32) → Nat → (Nat → Int32) → Nat → (Nat → Int32) → Nat → (Nat → Int32) → Nat → (Nat → Int32) → Nat → (Nat → Int32) → Nat → (Nat → Int32) → Nat → (Nat → Int32) → Int32 → Int32 → Int32 → Int32 → Int32 → Int32 → Int32 → Int32 → Int32 → Int32 → Int32 → Int32 → Int32 → Int32 → Int32 → Int32 → Int32 → Int32 → Int32 → Int32 → Nat → (Nat → Int32) → Nat → (Nat → Int32) → Nat → (Nat → Int32) → Nat → (Nat → Int32) → Nat → (Nat → Int32) → Nat → (Nat → Int32) → Nat → (Nat → Int32) → Nat → (Nat → Int32) → Nat → (Nat → Int32) → Nat → (Nat → Int32) → Nat → (Nat → Int32) → Nat → (Nat → Int32) → Nat → (Nat → Int32) → Nat → (Nat → Int32) → Nat → (Nat → Int32) → Nat → (Nat → Int64) → Int32 → Option (Nat × Nat × Unit)} {v4 : Int32} {ov sc : Int32} {sN : Nat} {sR : Nat → Int32} {cn nodes st : Int32} {bN : Nat} {bF : Nat → Int32} {leN : Nat} {leF : Nat → Int32} {abN : Nat} {abF : Nat → Int32} {wlc wly : Int32} {WwN : Nat} {WwF : Nat → Int32} {WaN : Nat} {WaF : Nat → Int32} {WnN : Nat} {WnF : Nat → Int32} {WfN : Nat} {WfF : Nat → Int32} {WpN : Nat} {WpF : Nat → Int32} {WtN : Nat} {WtF : Nat → Int32} {WlN : Nat} {WlF : Nat → Int32} {WiP : Nat} {Wip : Nat → Int32} {WiN : Nat} {Wi : Nat → Int32} {WiL : Nat} {Wil : Nat → Int32} {WiK : Nat} {Wik : Nat → Int32} {WoP : Nat} {Wop : Nat → Int32} {WoN : Nat} {Wo : Nat → Int32} {WoL : Nat} {Wol : Nat → Int32} {WoK : Nat} {Wok : Nat → Int32} {rlc rly : Int32} {RwN : Nat} {RwF : Nat → Int32} {RaN : Nat} {RaF : Nat → Int32} {RnN : Nat} {RnF : Nat → Int32} {RfN : Nat} {RfF : Nat → Int32} {RpN : Nat} {RpF : Nat → Int32} {RtN : Nat} {RtF : Nat → Int32} {RlN : Nat} {RlF : Nat → Int32} {RiP : Nat} {Rip : Nat → Int32} {RiN : Nat} {Ri : Nat → Int32} {RiL : Nat} {Ril : Nat → Int32} {RiK : Nat} {Rik : Nat → Int32} {RoP : Nat} {Rop : Nat → Int32} {RoN : Nat} {Ro : Nat → Int32} {RoL : Nat} {Rol : Nat → Int32} {RoK : Nat} {Rok : Nat → Int32} {sg sr a1 a2 a3 a4 a5 a6 th sty bds size P ov2 wr bg en rm wg ct : Int32} {wiN : Nat} {wiF : Nat → Int32} {hiN : Nat} {hiF : Nat → Int32} {beN : Nat} {beF : Nat → Int32} {BN : Nat} {B : Nat → Int32} {cN : Nat} {cF : Nat → Int32} {WN : Nat} {WF : Nat → Int32} {brN : Nat} {brF : Nat → Int32} {fiN : Nat} {fiF : Nat → Int32} {miN : Nat} {miF : Nat → Int32} {toN : Nat} {toF : Nat → Int32} {oN : Nat} {oF : Nat → Int32} {LeN : Nat} {LeF : Nat → Int32} {lyN : Nat} {lyF : Nat → Int32} {LoN : Nat} {LF : Nat → Int32} {KN : Nat} {KF : Nat → Int32} {outN : Nat} {out : Nat → Int64} (hF : 1000000 ≤ F) (hrec : RecOk rec23 v4 r) (hv : 0 ≤ v4.toInt ∧ v4.toInt + 5 ≤ L ∧ L ≤ 2147483640) (hI : INV ov sc sN sR cn nodes st bN bF leN leF abN abF wlc wly WwN WwF WaN WaF WnN WnF WfN WfF WpN WpF WtN WtF WlN WlF WiP WiN Wi WiL Wil WiK Wik WoP WoN Wo WoL Wol WoK Wok rlc rly RwN RwF RaN RaF RnN RnF RfN RfF RpN RpF RtN RlN RlF RiP RiN Ri RiL Ril RiK Rik RoP RoN RoL Rol RoK Rok sty bds size P ov2 wiN wiF hiN hiF beN beF BN B cN cF WN WF brN brF fiN fiF miN miF toN toF oN oF LeN LeF lyN lyF LoN LF KN KF outN) : Ok (g_Law_law_208 F rec23 L xs ov sc sN sR cn nodes st bN bF leN leF abN abF wlc wly WwN WwF WaN WaF WnN WnF WfN WfF WpN WpF WtN WtF WlN WlF WiP Wip WiN Wi WiL Wil WiK Wik WoP Wop WoN Wo WoL Wol WoK Wok rlc rly RwN RwF RaN RaF RnN RnF RfN RfF RpN RpF RtN RtF RlN RlF RiP Rip RiN Ri RiL Ril RiK Rik RoP Rop RoN Ro RoL Rol RoK Rok sg sr a1 a2 a3 a4 a5 a6 th sty bds size P ov2 wr bg en rm wg ct wiN wiF hiN hiF beN beF BN B cN cF WN WF brN brF fiN fiF miN miF toN toF oN oF LeN LeF lyN lyF LoN LF KN KF outN out v4) (BND (r + 1) (PHI sN leN abN WwN WaN WnN WfN WpN WtN WlN WiN WiL WiK WoN WoL WoK RwN RaN RnN RfN RpN RtN RlN RiN RiL RiK RoN RoL RoK)) := by
  have L := lits
  have hI0 := hI
  obtain ⟨m, w, h, lw, lr, ⟨e0, e1, e2, e3, e4, e5, e6, e7, e8, e9, e10, e11, e12, e13, e14, e15, e16⟩, hVG, hVS, hJO, hZW, hZR, hJW, hJR, hVL⟩ := hI
  subst e0; subst e1; subst e2; subst e3; subst e4; subst e5; subst e6; subst e7; subst e8; subst e9; subst e10; subst e11; subst e12; subst e13; subst e14; subst e15; subst e16
  obtain ⟨⟨hG, hA, hL⟩, ⟨m1, m2, m3, m4⟩, hb, hwi, hs⟩ := hVG
  have m4 := m4.symm
  subst m4
  obtain ⟨j1, j2, ⟨j3, j4⟩, ⟨j5, j6⟩, ⟨j7, j8⟩⟩ := hJO
  have hP := p_le hG hJW hJR j1 hVL
  have hv4 : 0 ≤ v4.toInt ∧ v4.toInt ≤ 2147483640 := by omega
  have w1 : (v4 + 1).toInt = v4.toInt + 1 := by rw [ti_add (by omega)]; omega
  have w2 : (v4 + 2).toInt = v4.toInt + 2 := by rw [ti_add (by omega)]; omega
  have w3 : (v4 + 3).toInt = v4.toInt + 3 := by rw [ti_add (by omega)]; omega
  have w4 : (v4 + 4).toInt = v4.toInt + 4 := by rw [ti_add (by omega)]; omega
  unfold g_Law_law_208
  refine ok_v (ok_in (by omega) (ok_v ?_))
  refine ok_v (ok_in (by omega) (ok_v ?_))
  refine ok_v (ok_in (by omega) (ok_v ?_))
  refine ok_v (ok_in (by omega) (ok_v ?_))
  refine ok_bm (s_first (th := th) (fiF := fiF) (miF := miF) hG hL ⟨m1, m2⟩ hb hwi (by obtain ⟨-, -, -, -, z5, -⟩ := hZW; omega) ⟨j3, by omega⟩) (fun u hu => ok_c ?_)
  refine ok_v (ok_in (by omega) (ok_v ?_))
  refine ok_v (ok_in (by omega) (ok_v ?_))
  refine ok_v (ok_in (by omega) (ok_v ?_))
  refine ok_v (ok_in (by omega) (ok_v ?_))
  refine ok_bm hu (fun v hv2 => ?_)
  refine ok_bm (Q := fun t => t = v.1) (ok_s rfl) (fun t et => ?_)
  subst et
  obtain ⟨k1, k2, k3, k4⟩ := hv2
  refine ok_p k1 ?_
  refine bnd_go (st_go hrec hv4 ?_) (by constructor <;> omega)
  rcases k4 with ⟨-, c1, c2, c3, c4⟩ | ⟨-, l0, i, k, x, hi, hk, hp, hx, c1, c2, c3, c4⟩
  · rw [c1, c2, c3, c4]; exact hI0
  · rw [c1, c2, c3, c4]
    have gw := hG.wh hi
    try dsimp only
    refine ⟨m, w, h, lw, lr, ⟨rfl, rfl, rfl, rfl, rfl, rfl, rfl, rfl, rfl, rfl, rfl, rfl, rfl, rfl, rfl, rfl, rfl⟩, ⟨⟨hG, hA, hL⟩, ⟨m1, m2, m3, rfl⟩, hb, hwi, hs⟩, hVS, ⟨j1, j2, ⟨j3, j4⟩, ⟨j5, j6⟩, ⟨j7, j8⟩⟩, hZW, hZR, jw_first hG hJW (by omega) hi hk hp hx, jr_keep hG hJR (fun j h1 h2 => ⟨rfl, rfl, rfl, upd_no (by omega), upd_no (by omega), rfl⟩) lk_id (fun x _ _ => ⟨rfl, rfl⟩), hVL⟩
set_option maxHeartbeats 4000000 in
theorem st_piece {F L r : Nat} {xs : Nat → Int32} {rec23 : Int32 → Int32 → Nat → (Nat → Int32) → Int32 → Int32 → Int32 → Nat → (Nat → Int32) → Nat → (Nat → Int32) → Nat → (Nat → Int32) → Int32 → Int32 → Nat → (Nat → Int32) → Nat → (Nat → Int32) → Nat → (Nat → Int32) → Nat → (Nat → Int32) → Nat → (Nat → Int32) → Nat → (Nat → Int32) → Nat → (Nat → Int32) → Nat → (Nat → Int32) → Nat → (Nat → Int32) → Nat → (Nat → Int32) → Nat → (Nat → Int32) → Nat → (Nat → Int32) → Nat → (Nat → Int32) → Nat → (Nat → Int32) → Nat → (Nat → Int32) → Int32 → Int32 → Nat → (Nat → Int32) → Nat → (Nat → Int32) → Nat → (Nat → Int32) → Nat → (Nat → Int32) → Nat → (Nat → Int32) → Nat → (Nat → Int32) → Nat → (Nat → Int32) → Nat → (Nat → Int32) → Nat → (Nat → Int32) → Nat → (Nat → Int32) → Nat → (Nat → Int32) → Nat → (Nat → Int32) → Nat → (Nat → Int32) → Nat → (Nat → Int32) → Nat → (Nat → Int32) → Int32 → Int32 → Int32 → Int32 → Int32 → Int32 → Int32 → Int32 → Int32 → Int32 → Int32 → Int32 → Int32 → Int32 → Int32 → Int32 → Int32 → Int32 → Int32 → Int32 → Nat → (Nat → Int32) → Nat → (Nat → Int32) → Nat → (Nat → Int32) → Nat → (Nat → Int32) → Nat → (Nat → Int32) → Nat → (Nat → Int32) → Nat → (Nat → Int32) → Nat → (Nat → Int32) → Nat → (Nat → Int32) → Nat → (Nat → Int32) → Nat → (Nat → Int32) → Nat → (Nat → Int32) → Nat → (Nat → Int32) → Nat → (Nat → Int32) → Nat → (Nat → Int32) → Nat → (Nat → Int64) → Int32 → Option (Nat × Nat × Unit)} {v4 : Int32} {ov sc : Int32} {sN : Nat} {sR : Nat → Int32} {cn nodes st : Int32} {bN : Nat} {bF : Nat → Int32} {leN : Nat} {leF : Nat → Int32} {abN : Nat} {abF : Nat → Int32} {wlc wly : Int32} {WwN : Nat} {WwF : Nat → Int32} {WaN : Nat} {WaF : Nat → Int32} {WnN : Nat} {WnF : Nat → Int32} {WfN : Nat} {WfF : Nat → Int32} {WpN : Nat} {WpF : Nat → Int32} {WtN : Nat} {WtF : Nat → Int32} {WlN : Nat} {WlF : Nat → Int32} {WiP : Nat} {Wip : Nat → Int32} {WiN : Nat} {Wi : Nat → Int32} {WiL : Nat} {Wil : Nat → Int32} {WiK : Nat} {Wik : Nat → Int32} {WoP : Nat} {Wop : Nat → Int32} {WoN : Nat} {Wo : Nat → Int32} {WoL : Nat} {Wol : Nat → Int32} {WoK : Nat} {Wok : Nat → Int32} {rlc rly : Int32} {RwN : Nat} {RwF : Nat → Int32} {RaN : Nat} {RaF : Nat → Int32} {RnN : Nat} {RnF : Nat → Int32} {RfN : Nat} {RfF : Nat → Int32} {RpN : Nat} {RpF : Nat → Int32} {RtN : Nat} {RtF : Nat → Int32} {RlN : Nat} {RlF : Nat → Int32} {RiP : Nat} {Rip : Nat → Int32} {RiN : Nat} {Ri : Nat → Int32} {RiL : Nat} {Ril : Nat → Int32} {RiK : Nat} {Rik : Nat → Int32} {RoP : Nat} {Rop : Nat → Int32} {RoN : Nat} {Ro : Nat → Int32} {RoL : Nat} {Rol : Nat → Int32} {RoK : Nat} {Rok : Nat → Int32} {sg sr a1 a2 a3 a4 a5 a6 th sty bds size P ov2 wr bg en rm wg ct : Int32} {wiN : Nat} {wiF : Nat → Int32} {hiN : Nat} {hiF : Nat → Int32} {beN : Nat} {beF : Nat → Int32} {BN : Nat} {B : Nat → Int32} {cN : Nat} {cF : Nat → Int32} {WN : Nat} {WF : Nat → Int32} {brN : Nat} {brF : Nat → Int32} {fiN : Nat} {fiF : Nat → Int32} {miN : Nat} {miF : Nat → Int32} {toN : Nat} {toF : Nat → Int32} {oN : Nat} {oF : Nat → Int32} {LeN : Nat} {LeF : Nat → Int32} {lyN : Nat} {lyF : Nat → Int32} {LoN : Nat} {LF : Nat → Int32} {KN : Nat} {KF : Nat → Int32} {outN : Nat} {out : Nat → Int64} (hF : 1000000 ≤ F) (hrec : RecOk rec23 v4 r) (hv : 0 ≤ v4.toInt ∧ v4.toInt + 5 ≤ L ∧ L ≤ 2147483640) (hI : INV ov sc sN sR cn nodes st bN bF leN leF abN abF wlc wly WwN WwF WaN WaF WnN WnF WfN WfF WpN WpF WtN WtF WlN WlF WiP WiN Wi WiL Wil WiK Wik WoP WoN Wo WoL Wol WoK Wok rlc rly RwN RwF RaN RaF RnN RnF RfN RfF RpN RpF RtN RlN RlF RiP RiN Ri RiL Ril RiK Rik RoP RoN RoL Rol RoK Rok sty bds size P ov2 wiN wiF hiN hiF beN beF BN B cN cF WN WF brN brF fiN fiF miN miF toN toF oN oF LeN LeF lyN lyF LoN LF KN KF outN) : Ok (g_Law_law_360 F rec23 L xs ov sc sN sR cn nodes st bN bF leN leF abN abF wlc wly WwN WwF WaN WaF WnN WnF WfN WfF WpN WpF WtN WtF WlN WlF WiP Wip WiN Wi WiL Wil WiK Wik WoP Wop WoN Wo WoL Wol WoK Wok rlc rly RwN RwF RaN RaF RnN RnF RfN RfF RpN RpF RtN RtF RlN RlF RiP Rip RiN Ri RiL Ril RiK Rik RoP Rop RoN Ro RoL Rol RoK Rok sg sr a1 a2 a3 a4 a5 a6 th sty bds size P ov2 wr bg en rm wg ct wiN wiF hiN hiF beN beF BN B cN cF WN WF brN brF fiN fiF miN miF toN toF oN oF LeN LeF lyN lyF LoN LF KN KF outN out v4) (BND (r + 1) (PHI sN leN abN WwN WaN WnN WfN WpN WtN WlN WiN WiL WiK WoN WoL WoK RwN RaN RnN RfN RpN RtN RlN RiN RiL RiK RoN RoL RoK)) := by
  have L := lits
  have hI0 := hI
  obtain ⟨m, w, h, lw, lr, ⟨e0, e1, e2, e3, e4, e5, e6, e7, e8, e9, e10, e11, e12, e13, e14, e15, e16⟩, hVG, hVS, hJO, hZW, hZR, hJW, hJR, hVL⟩ := hI
  subst e0; subst e1; subst e2; subst e3; subst e4; subst e5; subst e6; subst e7; subst e8; subst e9; subst e10; subst e11; subst e12; subst e13; subst e14; subst e15; subst e16
  obtain ⟨⟨hG, hA, hL⟩, ⟨m1, m2, m3, m4⟩, hb, hwi, hs⟩ := hVG
  have m4 := m4.symm
  subst m4
  obtain ⟨j1, j2, ⟨j3, j4⟩, ⟨j5, j6⟩, ⟨j7, j8⟩⟩ := hJO
  have hP := p_le hG hJW hJR j1 hVL
  have hv4 : 0 ≤ v4.toInt ∧ v4.toInt ≤ 2147483640 := by omega
  have w1 : (v4 + 1).toInt = v4.toInt + 1 := by rw [ti_add (by omega)]; omega
  have w2 : (v4 + 2).toInt = v4.toInt + 2 := by rw [ti_add (by omega)]; omega
  have w3 : (v4 + 3).toInt = v4.toInt + 3 := by rw [ti_add (by omega)]; omega
  have w4 : (v4 + 4).toInt = v4.toInt + 4 := by rw [ti_add (by omega)]; omega
  unfold g_Law_law_360
  have hB : ∀ b, b < bbase w h m → toF b = WtF b ∧ 0 ≤ (WtF b).toInt ∧ (WtF b).toInt ≤ (WpF b).toInt ∧ 0 ≤ (cF b).toInt ∧ 0 ≤ (brF b).toInt ∧ (cF b).toInt + (brF b).toInt ≤ 200 ∧ (WpF b).toInt = pcs st (cF b).toInt.toNat (brF b).toInt.toNat ∧ (0 < (WpF b).toInt → 0 ≤ (WfF b).toInt ∧ (WfF b).toInt + (WpF b).toInt ≤ WlN) := by
    intro b hb'
    obtain ⟨c1, c2, c3, c4, c5, c6, c7, c8, c9, c10, c11, c12, c13, c14, c15, c16, c17, c18⟩ := hJW.2.1 b hb'
    have q := hJW.1.1.1 b hb'
    have q2 := hJW.1.2
    rw [c1, c2]
    try dsimp only
    exact ⟨c8, c9, c10, c3, c4, c6, c7, fun hp => by omega⟩
  refine ok_v (ok_in (by omega) (ok_v ?_))
  refine ok_v (ok_in (by omega) (ok_v ?_))
  refine ok_v (ok_in (by omega) (ok_v ?_))
  refine ok_bm (s_piece (th := th) (P := P) (oF := oF) (LeF := LeF) hF hG ⟨m1, m2⟩ hb hwi (by obtain ⟨z1, -, z3, -, -, -⟩ := hZW; omega) rfl hB ⟨hVL.1, fun _ => by omega⟩) (fun u hu => ok_c ?_)
  refine ok_v (ok_in (by omega) (ok_v ?_))
  refine ok_v (ok_in (by omega) (ok_v ?_))
  refine ok_v (ok_in (by omega) (ok_v ?_))
  refine ok_bm hu (fun v hv2 => ?_)
  refine ok_bm (Q := fun t => t = v.2.1) (ok_s rfl) (fun t et => ?_)
  subst et
  obtain ⟨k1, k2, k3, k4, k5⟩ := hv2
  refine ok_p k1 ?_
  rcases k5 with ⟨k5, c1, c2, c3, c4, c5, c6⟩ | ⟨k5, b, x, b32, hbn, hlt, p1, p2, hx, hb32, c1, c2, c3, c4, c5, c6, c7⟩
  · refine ok_d (fun c => absurd c k5) (fun c => ?_)
    refine bnd_go (st_go hrec hv4 ?_) (by constructor <;> omega)
    rw [c1, c2, c3, c4, c5, c6]; exact hI0
  · refine ok_d (fun c => ok_in (by omega) (ok_v (ok_v (ok_v (ok_p ((lg_cmp_eq _ _).mpr (k2 c)) ?_))))) (fun c => absurd k5 c)
    refine bnd_go (st_go hrec hv4 ?_) (by constructor <;> omega)
    rw [c1, c2, c6, c7]
    obtain ⟨g1, g2, g3⟩ := jw_piece hG hJW hVL hbn hlt ⟨p1, p2⟩ hx hb32 c3 c4 c5
    have hN := hG.2.2
    try dsimp only
    refine ⟨m, w, h, lw, lr, ⟨rfl, rfl, rfl, rfl, rfl, rfl, rfl, rfl, rfl, rfl, rfl, rfl, rfl, rfl, rfl, rfl, rfl⟩, ⟨⟨hG, hA, hL⟩, ⟨m1, m2, m3, rfl⟩, hb, hwi, hs⟩, hVS, ⟨j1, j2, ⟨j3, j4⟩, ⟨j5, j6⟩, ⟨j7, j8⟩⟩, hZW, hZR, g1, jr_keep hG hJR (fun j h1 h2 => ⟨rfl, rfl, rfl, rfl, rfl, c5 j (by omega)⟩) g3 (fun x _ _ => ⟨rfl, rfl⟩), g2⟩
set_option maxHeartbeats 4000000 in
theorem st_bring {F L r : Nat} {xs : Nat → Int32} {rec23 : Int32 → Int32 → Nat → (Nat → Int32) → Int32 → Int32 → Int32 → Nat → (Nat → Int32) → Nat → (Nat → Int32) → Nat → (Nat → Int32) → Int32 → Int32 → Nat → (Nat → Int32) → Nat → (Nat → Int32) → Nat → (Nat → Int32) → Nat → (Nat → Int32) → Nat → (Nat → Int32) → Nat → (Nat → Int32) → Nat → (Nat → Int32) → Nat → (Nat → Int32) → Nat → (Nat → Int32) → Nat → (Nat → Int32) → Nat → (Nat → Int32) → Nat → (Nat → Int32) → Nat → (Nat → Int32) → Nat → (Nat → Int32) → Nat → (Nat → Int32) → Int32 → Int32 → Nat → (Nat → Int32) → Nat → (Nat → Int32) → Nat → (Nat → Int32) → Nat → (Nat → Int32) → Nat → (Nat → Int32) → Nat → (Nat → Int32) → Nat → (Nat → Int32) → Nat → (Nat → Int32) → Nat → (Nat → Int32) → Nat → (Nat → Int32) → Nat → (Nat → Int32) → Nat → (Nat → Int32) → Nat → (Nat → Int32) → Nat → (Nat → Int32) → Nat → (Nat → Int32) → Int32 → Int32 → Int32 → Int32 → Int32 → Int32 → Int32 → Int32 → Int32 → Int32 → Int32 → Int32 → Int32 → Int32 → Int32 → Int32 → Int32 → Int32 → Int32 → Int32 → Nat → (Nat → Int32) → Nat → (Nat → Int32) → Nat → (Nat → Int32) → Nat → (Nat → Int32) → Nat → (Nat → Int32) → Nat → (Nat → Int32) → Nat → (Nat → Int32) → Nat → (Nat → Int32) → Nat → (Nat → Int32) → Nat → (Nat → Int32) → Nat → (Nat → Int32) → Nat → (Nat → Int32) → Nat → (Nat → Int32) → Nat → (Nat → Int32) → Nat → (Nat → Int32) → Nat → (Nat → Int64) → Int32 → Option (Nat × Nat × Unit)} {v4 : Int32} {ov sc : Int32} {sN : Nat} {sR : Nat → Int32} {cn nodes st : Int32} {bN : Nat} {bF : Nat → Int32} {leN : Nat} {leF : Nat → Int32} {abN : Nat} {abF : Nat → Int32} {wlc wly : Int32} {WwN : Nat} {WwF : Nat → Int32} {WaN : Nat} {WaF : Nat → Int32} {WnN : Nat} {WnF : Nat → Int32} {WfN : Nat} {WfF : Nat → Int32} {WpN : Nat} {WpF : Nat → Int32} {WtN : Nat} {WtF : Nat → Int32} {WlN : Nat} {WlF : Nat → Int32} {WiP : Nat} {Wip : Nat → Int32} {WiN : Nat} {Wi : Nat → Int32} {WiL : Nat} {Wil : Nat → Int32} {WiK : Nat} {Wik : Nat → Int32} {WoP : Nat} {Wop : Nat → Int32} {WoN : Nat} {Wo : Nat → Int32} {WoL : Nat} {Wol : Nat → Int32} {WoK : Nat} {Wok : Nat → Int32} {rlc rly : Int32} {RwN : Nat} {RwF : Nat → Int32} {RaN : Nat} {RaF : Nat → Int32} {RnN : Nat} {RnF : Nat → Int32} {RfN : Nat} {RfF : Nat → Int32} {RpN : Nat} {RpF : Nat → Int32} {RtN : Nat} {RtF : Nat → Int32} {RlN : Nat} {RlF : Nat → Int32} {RiP : Nat} {Rip : Nat → Int32} {RiN : Nat} {Ri : Nat → Int32} {RiL : Nat} {Ril : Nat → Int32} {RiK : Nat} {Rik : Nat → Int32} {RoP : Nat} {Rop : Nat → Int32} {RoN : Nat} {Ro : Nat → Int32} {RoL : Nat} {Rol : Nat → Int32} {RoK : Nat} {Rok : Nat → Int32} {sg sr a1 a2 a3 a4 a5 a6 th sty bds size P ov2 wr bg en rm wg ct : Int32} {wiN : Nat} {wiF : Nat → Int32} {hiN : Nat} {hiF : Nat → Int32} {beN : Nat} {beF : Nat → Int32} {BN : Nat} {B : Nat → Int32} {cN : Nat} {cF : Nat → Int32} {WN : Nat} {WF : Nat → Int32} {brN : Nat} {brF : Nat → Int32} {fiN : Nat} {fiF : Nat → Int32} {miN : Nat} {miF : Nat → Int32} {toN : Nat} {toF : Nat → Int32} {oN : Nat} {oF : Nat → Int32} {LeN : Nat} {LeF : Nat → Int32} {lyN : Nat} {lyF : Nat → Int32} {LoN : Nat} {LF : Nat → Int32} {KN : Nat} {KF : Nat → Int32} {outN : Nat} {out : Nat → Int64} (hF : 1000000 ≤ F) (hrec : RecOk rec23 v4 r) (hv : 0 ≤ v4.toInt ∧ v4.toInt + 5 ≤ L ∧ L ≤ 2147483640) (hI : INV ov sc sN sR cn nodes st bN bF leN leF abN abF wlc wly WwN WwF WaN WaF WnN WnF WfN WfF WpN WpF WtN WtF WlN WlF WiP WiN Wi WiL Wil WiK Wik WoP WoN Wo WoL Wol WoK Wok rlc rly RwN RwF RaN RaF RnN RnF RfN RfF RpN RpF RtN RlN RlF RiP RiN Ri RiL Ril RiK Rik RoP RoN RoL Rol RoK Rok sty bds size P ov2 wiN wiF hiN hiF beN beF BN B cN cF WN WF brN brF fiN fiF miN miF toN toF oN oF LeN LeF lyN lyF LoN LF KN KF outN) : Ok (g_Law_law_280 F rec23 L xs ov sc sN sR cn nodes st bN bF leN leF abN abF wlc wly WwN WwF WaN WaF WnN WnF WfN WfF WpN WpF WtN WtF WlN WlF WiP Wip WiN Wi WiL Wil WiK Wik WoP Wop WoN Wo WoL Wol WoK Wok rlc rly RwN RwF RaN RaF RnN RnF RfN RfF RpN RpF RtN RtF RlN RlF RiP Rip RiN Ri RiL Ril RiK Rik RoP Rop RoN Ro RoL Rol RoK Rok sg sr a1 a2 a3 a4 a5 a6 th sty bds size P ov2 wr bg en rm wg ct wiN wiF hiN hiF beN beF BN B cN cF WN WF brN brF fiN fiF miN miF toN toF oN oF LeN LeF lyN lyF LoN LF KN KF outN out v4) (BND (r + 1) (PHI sN leN abN WwN WaN WnN WfN WpN WtN WlN WiN WiL WiK WoN WoL WoK RwN RaN RnN RfN RpN RtN RlN RiN RiL RiK RoN RoL RoK)) := by
  have L := lits
  have hI0 := hI
  obtain ⟨m, w, h, lw, lr, ⟨e0, e1, e2, e3, e4, e5, e6, e7, e8, e9, e10, e11, e12, e13, e14, e15, e16⟩, hVG, hVS, hJO, hZW, hZR, hJW, hJR, hVL⟩ := hI
  subst e0; subst e1; subst e2; subst e3; subst e4; subst e5; subst e6; subst e7; subst e8; subst e9; subst e10; subst e11; subst e12; subst e13; subst e14; subst e15; subst e16
  obtain ⟨⟨hG, hA, hL⟩, ⟨m1, m2, m3, m4⟩, hb, hwi, hs⟩ := hVG
  have m4 := m4.symm
  subst m4
  obtain ⟨j1, j2, ⟨j3, j4⟩, ⟨j5, j6⟩, ⟨j7, j8⟩⟩ := hJO
  have hP := p_le hG hJW hJR j1 hVL
  have hv4 : 0 ≤ v4.toInt ∧ v4.toInt ≤ 2147483640 := by omega
  have w1 : (v4 + 1).toInt = v4.toInt + 1 := by rw [ti_add (by omega)]; omega
  have w2 : (v4 + 2).toInt = v4.toInt + 2 := by rw [ti_add (by omega)]; omega
  have w3 : (v4 + 3).toInt = v4.toInt + 3 := by rw [ti_add (by omega)]; omega
  have w4 : (v4 + 4).toInt = v4.toInt + 4 := by rw [ti_add (by omega)]; omega
  unfold g_Law_law_280
  have hB : ∀ b, b < bbase w h m → cF b = WaF b ∧ brF b = WnF b ∧ 0 ≤ (WaF b).toInt ∧ (WaF b).toInt ≤ 200 ∧ 0 ≤ (WnF b).toInt ∧ (WaF b).toInt + (WnF b).toInt ≤ 200 ∧ (WpF b).toInt = pcs st (WaF b).toInt.toNat (WnF b).toInt.toNat := by
    intro b hb'
    obtain ⟨c1, c2, c3, c4, c5, c6, c7, c8, c9, c10, c11, c12, c13, c14, c15, c16, c17, c18⟩ := hJW.2.1 b hb'
    try dsimp only
    exact ⟨c1, c2, c3, by omega, c4, c6, c7⟩
  have hlc := hJW.1.2
  refine ok_v (ok_in (by omega) (ok_v ?_))
  refine ok_v (ok_in (by omega) (ok_v ?_))
  refine ok_v (ok_in (by omega) (ok_v ?_))
  refine ok_bm (s_bring (th := th) (P := P) (oF := oF) (LeF := LeF) (toF := toF) hF hG ⟨m1, m2⟩ hb hwi (by obtain ⟨z1, -, z3, -, -, -⟩ := hZW; omega) rfl hJW.1.1 hB ⟨hVL.1, by omega⟩) (fun u hu => ok_c ?_)
  refine ok_v (ok_in (by omega) (ok_v ?_))
  refine ok_v (ok_in (by omega) (ok_v ?_))
  refine ok_v (ok_in (by omega) (ok_v ?_))
  refine ok_bm hu (fun v hv2 => ?_)
  refine ok_bm (Q := fun t => t = v.2.1) (ok_s rfl) (fun t et => ?_)
  subst et
  obtain ⟨k1, k2, k3, k4, k5⟩ := hv2
  refine ok_p k1 ?_
  rcases k5 with ⟨k5, c1, c2, c3, c4, c5, c6, c7, d1, d2, d3, d4, d5⟩ | ⟨k5, b, pv, hbn, p1, p2, p3, hpv, c1, c2, c3, c4, c5, c6, c7, c8, d1, d2, d3, d4⟩
  · refine ok_d (fun c => absurd c k5) (fun c => ?_)
    refine bnd_go (st_go hrec hv4 ?_) (by unfold PHI; omega)
    rw [c1, c2, c3, c4, c5, c6, c7, d1, d2, d3, d4, d5]; exact hI0
  · refine ok_d (fun c => ok_in (by omega) (ok_v (ok_v (ok_v (ok_p ((lg_cmp_eq _ _).mpr (k2 c)) ?_))))) (fun c => absurd k5 c)
    refine bnd_go (st_go hrec hv4 ?_) (by unfold PHI; omega)
    rw [c2] at c4
    rw [c1, c2, c3, d1]
    have hN := hG.2.2
    have hK := kept_2 d3
    try dsimp only
    refine ⟨m, w, h, lw, lr, ⟨rfl, rfl, rfl, rfl, rfl, rfl, rfl, rfl, rfl, rfl, rfl, rfl, rfl, rfl, rfl, rfl, rfl⟩, ⟨⟨hG, hA, hL⟩, ⟨m1, m2, m3, rfl⟩, hb, hwi, hs⟩, hVS, ⟨j1, j2, ⟨j3, j4⟩, ⟨j5, j6⟩, ⟨j7, j8⟩⟩, ?_, hZR, jw_bring hG hJW hVL hbn ⟨p1, p2, p3⟩ hpv c4 c6 c5 hK d4, jr_keep hG hJR (fun j h1 h2 => ⟨rfl, rfl, upd_no (by omega), rfl, rfl, by rw [d4 j, if_neg (by omega)]⟩) (lk_kept hK (Or.inl (by omega))) (fun x _ _ => ⟨rfl, rfl⟩), vl_kept hVL hK d2 (fun j hj => ?_)⟩
    · obtain ⟨z1, z2, z3, z4, z5, z6⟩ := hZW
      try dsimp only
      exact ⟨z1, z2, by omega, z4, z5, z6⟩
    · rw [d4 j]
      by_cases c : j = b
      · rw [if_pos c, if_pos (by omega)]
      · rw [if_neg c, if_neg (by omega)]
set_option maxHeartbeats 4000000 in
theorem st_begin {F L r : Nat} {xs : Nat → Int32} {rec23 : Int32 → Int32 → Nat → (Nat → Int32) → Int32 → Int32 → Int32 → Nat → (Nat → Int32) → Nat → (Nat → Int32) → Nat → (Nat → Int32) → Int32 → Int32 → Nat → (Nat → Int32) → Nat → (Nat → Int32) → Nat → (Nat → Int32) → Nat → (Nat → Int32) → Nat → (Nat → Int32) → Nat → (Nat → Int32) → Nat → (Nat → Int32) → Nat → (Nat → Int32) → Nat → (Nat → Int32) → Nat → (Nat → Int32) → Nat → (Nat → Int32) → Nat → (Nat → Int32) → Nat → (Nat → Int32) → Nat → (Nat → Int32) → Nat → (Nat → Int32) → Int32 → Int32 → Nat → (Nat → Int32) → Nat → (Nat → Int32) → Nat → (Nat → Int32) → Nat → (Nat → Int32) → Nat → (Nat → Int32) → Nat → (Nat → Int32) → Nat → (Nat → Int32) → Nat → (Nat → Int32) → Nat → (Nat → Int32) → Nat → (Nat → Int32) → Nat → (Nat → Int32) → Nat → (Nat → Int32) → Nat → (Nat → Int32) → Nat → (Nat → Int32) → Nat → (Nat → Int32) → Int32 → Int32 → Int32 → Int32 → Int32 → Int32 → Int32 → Int32 → Int32 → Int32 → Int32 → Int32 → Int32 → Int32 → Int32 → Int32 → Int32 → Int32 → Int32 → Int32 → Nat → (Nat → Int32) → Nat → (Nat → Int32) → Nat → (Nat → Int32) → Nat → (Nat → Int32) → Nat → (Nat → Int32) → Nat → (Nat → Int32) → Nat → (Nat → Int32) → Nat → (Nat → Int32) → Nat → (Nat → Int32) → Nat → (Nat → Int32) → Nat → (Nat → Int32) → Nat → (Nat → Int32) → Nat → (Nat → Int32) → Nat → (Nat → Int32) → Nat → (Nat → Int32) → Nat → (Nat → Int64) → Int32 → Option (Nat × Nat × Unit)} {v4 : Int32} {ov sc : Int32} {sN : Nat} {sR : Nat → Int32} {cn nodes st : Int32} {bN : Nat} {bF : Nat → Int32} {leN : Nat} {leF : Nat → Int32} {abN : Nat} {abF : Nat → Int32} {wlc wly : Int32} {WwN : Nat} {WwF : Nat → Int32} {WaN : Nat} {WaF : Nat → Int32} {WnN : Nat} {WnF : Nat → Int32} {WfN : Nat} {WfF : Nat → Int32} {WpN : Nat} {WpF : Nat → Int32} {WtN : Nat} {WtF : Nat → Int32} {WlN : Nat} {WlF : Nat → Int32} {WiP : Nat} {Wip : Nat → Int32} {WiN : Nat} {Wi : Nat → Int32} {WiL : Nat} {Wil : Nat → Int32} {WiK : Nat} {Wik : Nat → Int32} {WoP : Nat} {Wop : Nat → Int32} {WoN : Nat} {Wo : Nat → Int32} {WoL : Nat} {Wol : Nat → Int32} {WoK : Nat} {Wok : Nat → Int32} {rlc rly : Int32} {RwN : Nat} {RwF : Nat → Int32} {RaN : Nat} {RaF : Nat → Int32} {RnN : Nat} {RnF : Nat → Int32} {RfN : Nat} {RfF : Nat → Int32} {RpN : Nat} {RpF : Nat → Int32} {RtN : Nat} {RtF : Nat → Int32} {RlN : Nat} {RlF : Nat → Int32} {RiP : Nat} {Rip : Nat → Int32} {RiN : Nat} {Ri : Nat → Int32} {RiL : Nat} {Ril : Nat → Int32} {RiK : Nat} {Rik : Nat → Int32} {RoP : Nat} {Rop : Nat → Int32} {RoN : Nat} {Ro : Nat → Int32} {RoL : Nat} {Rol : Nat → Int32} {RoK : Nat} {Rok : Nat → Int32} {sg sr a1 a2 a3 a4 a5 a6 th sty bds size P ov2 wr bg en rm wg ct : Int32} {wiN : Nat} {wiF : Nat → Int32} {hiN : Nat} {hiF : Nat → Int32} {beN : Nat} {beF : Nat → Int32} {BN : Nat} {B : Nat → Int32} {cN : Nat} {cF : Nat → Int32} {WN : Nat} {WF : Nat → Int32} {brN : Nat} {brF : Nat → Int32} {fiN : Nat} {fiF : Nat → Int32} {miN : Nat} {miF : Nat → Int32} {toN : Nat} {toF : Nat → Int32} {oN : Nat} {oF : Nat → Int32} {LeN : Nat} {LeF : Nat → Int32} {lyN : Nat} {lyF : Nat → Int32} {LoN : Nat} {LF : Nat → Int32} {KN : Nat} {KF : Nat → Int32} {outN : Nat} {out : Nat → Int64} (hF : 1000000 ≤ F) (hrec : RecOk rec23 v4 r) (hv : 0 ≤ v4.toInt ∧ v4.toInt + 5 ≤ L ∧ L ≤ 2147483640) (hI : INV ov sc sN sR cn nodes st bN bF leN leF abN abF wlc wly WwN WwF WaN WaF WnN WnF WfN WfF WpN WpF WtN WtF WlN WlF WiP WiN Wi WiL Wil WiK Wik WoP WoN Wo WoL Wol WoK Wok rlc rly RwN RwF RaN RaF RnN RnF RfN RfF RpN RpF RtN RlN RlF RiP RiN Ri RiL Ril RiK Rik RoP RoN RoL Rol RoK Rok sty bds size P ov2 wiN wiF hiN hiF beN beF BN B cN cF WN WF brN brF fiN fiF miN miF toN toF oN oF LeN LeF lyN lyF LoN LF KN KF outN) : Ok (g_Law_law_104 F rec23 L xs ov sc sN sR cn nodes st bN bF leN leF abN abF wlc wly WwN WwF WaN WaF WnN WnF WfN WfF WpN WpF WtN WtF WlN WlF WiP Wip WiN Wi WiL Wil WiK Wik WoP Wop WoN Wo WoL Wol WoK Wok rlc rly RwN RwF RaN RaF RnN RnF RfN RfF RpN RpF RtN RtF RlN RlF RiP Rip RiN Ri RiL Ril RiK Rik RoP Rop RoN Ro RoL Rol RoK Rok sg sr a1 a2 a3 a4 a5 a6 th sty bds size P ov2 wr bg en rm wg ct wiN wiF hiN hiF beN beF BN B cN cF WN WF brN brF fiN fiF miN miF toN toF oN oF LeN LeF lyN lyF LoN LF KN KF outN out v4) (BND (r + 1) (PHI sN leN abN WwN WaN WnN WfN WpN WtN WlN WiN WiL WiK WoN WoL WoK RwN RaN RnN RfN RpN RtN RlN RiN RiL RiK RoN RoL RoK)) := by
  have L := lits
  have hI0 := hI
  obtain ⟨m, w, h, lw, lr, ⟨e0, e1, e2, e3, e4, e5, e6, e7, e8, e9, e10, e11, e12, e13, e14, e15, e16⟩, hVG, hVS, hJO, hZW, hZR, hJW, hJR, hVL⟩ := hI
  subst e0; subst e1; subst e2; subst e3; subst e4; subst e5; subst e6; subst e7; subst e8; subst e9; subst e10; subst e11; subst e12; subst e13; subst e14; subst e15; subst e16
  obtain ⟨⟨hG, hA, hL⟩, ⟨m1, m2, m3, m4⟩, hb, hwi, hs⟩ := hVG
  have m4 := m4.symm
  subst m4
  obtain ⟨j1, j2, ⟨j3, j4⟩, ⟨j5, j6⟩, ⟨j7, j8⟩⟩ := hJO
  have hP := p_le hG hJW hJR j1 hVL
  have hv4 : 0 ≤ v4.toInt ∧ v4.toInt ≤ 2147483640 := by omega
  have w1 : (v4 + 1).toInt = v4.toInt + 1 := by rw [ti_add (by omega)]; omega
  have w2 : (v4 + 2).toInt = v4.toInt + 2 := by rw [ti_add (by omega)]; omega
  have w3 : (v4 + 3).toInt = v4.toInt + 3 := by rw [ti_add (by omega)]; omega
  have w4 : (v4 + 4).toInt = v4.toInt + 4 := by rw [ti_add (by omega)]; omega
  unfold g_Law_law_104
  refine ok_v (ok_in (by omega) (ok_v ?_))
  refine ok_bm c_begin (fun u hu => ok_c ?_)
  refine ok_v (ok_in (by omega) (ok_v ?_))
  refine ok_bm (m_begin hF ⟨hVL.1, by omega⟩ (fun p hp => hVL.2.1 p (by omega))) (fun v hv2 => ?_)
  refine ok_bm (Q := fun t => t = v.1) (ok_s rfl) (fun t et => ?_)
  subst et
  rcases hu with ⟨q1, rfl⟩ | ⟨q1, rfl⟩
  · rcases hv2 with ⟨g1, rfl⟩ | ⟨g1, g2⟩
    · exact ok_p rfl (bnd_go (st_go hrec hv4 hI0) cost_t)
    · exact absurd g1 q1
  · rcases hv2 with ⟨g1, g2⟩ | ⟨g1, P', be', ly', L', K', c', W', br', fi', mi', o', Le', to', rfl, g2, g3, g4, g5, g6, g7⟩
    · exact absurd q1 g1
    · refine ok_p rfl ?_
      refine bnd_go (st_go hrec hv4 ?_) (by (try dsimp only); omega)
      obtain ⟨b1, b2, b3⟩ := j_begin (w := w) (h := h) (st := xs (v4 + 1).toNatClampNeg) (lc := 0) (ov := 0) (rlc := 0) (lN := WlN) (rlN := RlN) (wF := WwF) (aF := WaF) (nF := WnF) (fF := WfF) (pF := WpF) (tF := WtF) (lF := WlF) (inu := Wi) (il := Wil) (ik := Wik) (onu := Wo) (ol := Wol) (ok := Wok) (RwF := RwF) (RaF := RaF) (RnF := RnF) (RfF := RfF) (RpF := RpF) (RlF := RlF) (Ri := Ri) (Ril := Ril) (Rik := Rik) (Rol := Rol) (Rok := Rok) (oF := o') (LeF := Le') ⟨L.2.1, L.2.1⟩ g5 g6 g7
      have z0 : (0 : Int32).toInt = ((0 : Nat) : Int) := L.2.1
      have hb0 := hb 0 (Nat.zero_le _)
      try dsimp only
      refine ⟨0, w, h, 0, 0, ⟨rfl, rfl, rfl, rfl, rfl, rfl, rfl, rfl, rfl, rfl, rfl, rfl, rfl, rfl, rfl, rfl, rfl⟩, ⟨⟨⟨by omega, fun i hi => by omega, Nat.zero_le _⟩, fun i l x y hi => by omega, fun i k hi => by omega⟩, ⟨z0, z0, z0, rfl⟩, fun j hj => ?_, fun i hi => by omega, ⟨Nat.zero_le _, hs.2.1, hs.2.2.1, Nat.zero_le _, hs.2.2.2.2.1, hs.2.2.2.2.2⟩⟩, hVS, ⟨Or.inl L.2.1, rfl, ⟨g3, g4⟩, ⟨z0, by omega⟩, ⟨z0, by omega⟩⟩, ?_, ?_, b1, b2, b3⟩
      · have j0 : j = 0 := by omega
        subst j0
        try dsimp only
        exact ⟨hb0.1, by rw [g2]; exact z0⟩
      · obtain ⟨z1, z2, z3, z4, z5, z6⟩ := hZW
        try dsimp only
        exact ⟨⟨Nat.zero_le _, Nat.zero_le _, Nat.zero_le _, Nat.zero_le _, Nat.zero_le _, Nat.zero_le _⟩, z2, z3, z4, ⟨Nat.zero_le _, Nat.zero_le _, Nat.zero_le _, Nat.zero_le _, Nat.zero_le _, Nat.zero_le _⟩, z6⟩
      · obtain ⟨z1, z2, z3, z4, z5, z6⟩ := hZR
        try dsimp only
        exact ⟨⟨Nat.zero_le _, Nat.zero_le _, Nat.zero_le _, Nat.zero_le _, Nat.zero_le _, Nat.zero_le _⟩, z2, z3, z4, ⟨Nat.zero_le _, Nat.zero_le _, Nat.zero_le _, Nat.zero_le _, Nat.zero_le _, Nat.zero_le _⟩, z6⟩
