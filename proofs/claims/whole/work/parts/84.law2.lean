/-! The calls that change little. -/
set_option maxHeartbeats 4000000 in
theorem st_clear {F L r : Nat} {xs : Nat → Int32} {rec23 : Int32 → Int32 → Nat → (Nat → Int32) → Int32 → Int32 → Int32 → Nat → (Nat → Int32) → Nat → (Nat → Int32) → Nat → (Nat → Int32) → Int32 → Int32 → Nat → (Nat → Int32) → Nat → (Nat → Int32) → Nat → (Nat → Int32) → Nat → (Nat → Int32) → Nat → (Nat → Int32) → Nat → (Nat → Int32) → Nat → (Nat → Int32) → Nat → (Nat → Int32) → Nat → (Nat → Int32) → Nat → (Nat → Int32) → Nat → (Nat → Int32) → Nat → (Nat → Int32) → Nat → (Nat → Int32) → Nat → (Nat → Int32) → Nat → (Nat → Int32) → Int32 → Int32 → Nat → (Nat → Int32) → Nat → (Nat → Int32) → Nat → (Nat → Int32) → Nat → (Nat → Int32) → Nat → (Nat → Int32) → Nat → (Nat → Int32) → Nat → (Nat → Int32) → Nat → (Nat → Int32) → Nat → (Nat → Int32) → Nat → (Nat → Int32) → Nat → (Nat → Int32) → Nat → (Nat → Int32) → Nat → (Nat → Int32) → Nat → (Nat → Int32) → Nat → (Nat → Int32) → Int32 → Int32 → Int32 → Int32 → Int32 → Int32 → Int32 → Int32 → Int32 → Int32 → Int32 → Int32 → Int32 → Int32 → Int32 → Int32 → Int32 → Int32 → Int32 → Int32 → Nat → (Nat → Int32) → Nat → (Nat → Int32) → Nat → (Nat → Int32) → Nat → (Nat → Int32) → Nat → (Nat → Int32) → Nat → (Nat → Int32) → Nat → (Nat → Int32) → Nat → (Nat → Int32) → Nat → (Nat → Int32) → Nat → (Nat → Int32) → Nat → (Nat → Int32) → Nat → (Nat → Int32) → Nat → (Nat → Int32) → Nat → (Nat → Int32) → Nat → (Nat → Int32) → Nat → (Nat → Int64) → Int32 → Option (Nat × Nat × Unit)} {v4 : Int32} {ov sc : Int32} {sN : Nat} {sR : Nat → Int32} {cn nodes st : Int32} {bN : Nat} {bF : Nat → Int32} {leN : Nat} {leF : Nat → Int32} {abN : Nat} {abF : Nat → Int32} {wlc wly : Int32} {WwN : Nat} {WwF : Nat → Int32} {WaN : Nat} {WaF : Nat → Int32} {WnN : Nat} {WnF : Nat → Int32} {WfN : Nat} {WfF : Nat → Int32} {WpN : Nat} {WpF : Nat → Int32} {WtN : Nat} {WtF : Nat → Int32} {WlN : Nat} {WlF : Nat → Int32} {WiP : Nat} {Wip : Nat → Int32} {WiN : Nat} {Wi : Nat → Int32} {WiL : Nat} {Wil : Nat → Int32} {WiK : Nat} {Wik : Nat → Int32} {WoP : Nat} {Wop : Nat → Int32} {WoN : Nat} {Wo : Nat → Int32} {WoL : Nat} {Wol : Nat → Int32} {WoK : Nat} {Wok : Nat → Int32} {rlc rly : Int32} {RwN : Nat} {RwF : Nat → Int32} {RaN : Nat} {RaF : Nat → Int32} {RnN : Nat} {RnF : Nat → Int32} {RfN : Nat} {RfF : Nat → Int32} {RpN : Nat} {RpF : Nat → Int32} {RtN : Nat} {RtF : Nat → Int32} {RlN : Nat} {RlF : Nat → Int32} {RiP : Nat} {Rip : Nat → Int32} {RiN : Nat} {Ri : Nat → Int32} {RiL : Nat} {Ril : Nat → Int32} {RiK : Nat} {Rik : Nat → Int32} {RoP : Nat} {Rop : Nat → Int32} {RoN : Nat} {Ro : Nat → Int32} {RoL : Nat} {Rol : Nat → Int32} {RoK : Nat} {Rok : Nat → Int32} {sg sr a1 a2 a3 a4 a5 a6 th sty bds size P ov2 wr bg en rm wg ct : Int32} {wiN : Nat} {wiF : Nat → Int32} {hiN : Nat} {hiF : Nat → Int32} {beN : Nat} {beF : Nat → Int32} {BN : Nat} {B : Nat → Int32} {cN : Nat} {cF : Nat → Int32} {WN : Nat} {WF : Nat → Int32} {brN : Nat} {brF : Nat → Int32} {fiN : Nat} {fiF : Nat → Int32} {miN : Nat} {miF : Nat → Int32} {toN : Nat} {toF : Nat → Int32} {oN : Nat} {oF : Nat → Int32} {LeN : Nat} {LeF : Nat → Int32} {lyN : Nat} {lyF : Nat → Int32} {LoN : Nat} {LF : Nat → Int32} {KN : Nat} {KF : Nat → Int32} {outN : Nat} {out : Nat → Int64} (hF : 1000000 ≤ F) (hrec : RecOk rec23 v4 r) (hv : 0 ≤ v4.toInt ∧ v4.toInt + 5 ≤ L ∧ L ≤ 2147483640) (hI : INV ov sc sN sR cn nodes st bN bF leN leF abN abF wlc wly WwN WwF WaN WaF WnN WnF WfN WfF WpN WpF WtN WtF WlN WlF WiP WiN Wi WiL Wil WiK Wik WoP WoN Wo WoL Wol WoK Wok rlc rly RwN RwF RaN RaF RnN RnF RfN RfF RpN RpF RtN RlN RlF RiP RiN Ri RiL Ril RiK Rik RoP RoN RoL Rol RoK Rok sty bds size P ov2 wiN wiF hiN hiF beN beF BN B cN cF WN WF brN brF fiN fiF miN miF toN toF oN oF LeN LeF lyN lyF LoN LF KN KF outN) : Ok (g_Law_law_596 F rec23 ov sc sN sR cn nodes st bN bF leN leF abN abF wlc wly WwN WwF WaN WaF WnN WnF WfN WfF WpN WpF WtN WtF WlN WlF WiP Wip WiN Wi WiL Wil WiK Wik WoP Wop WoN Wo WoL Wol WoK Wok rlc rly RwN RwF RaN RaF RnN RnF RfN RfF RpN RpF RtN RtF RlN RlF RiP Rip RiN Ri RiL Ril RiK Rik RoP Rop RoN Ro RoL Rol RoK Rok sg sr a1 a2 a3 a4 a5 a6 th sty bds size P ov2 wr bg en rm wg ct wiN wiF hiN hiF beN beF BN B cN cF WN WF brN brF fiN fiF miN miF toN toF oN oF LeN LeF lyN lyF LoN LF KN KF outN out v4) (BND (r + 1) (PHI sN leN abN WwN WaN WnN WfN WpN WtN WlN WiN WiL WiK WoN WoL WoK RwN RaN RnN RfN RpN RtN RlN RiN RiL RiK RoN RoL RoK)) := by
  have L := lits
  have hI0 := hI
  obtain ⟨m, w, h, lw, lr, ⟨e0, e1, e2, e3, e4, e5, e6, e7, e8, e9, e10, e11, e12, e13, e14, e15, e16⟩, hVG, hVS, hJO, hZW, hZR, hJW, hJR, hVL⟩ := hI
  subst e0; subst e1; subst e2; subst e3; subst e4; subst e5; subst e6; subst e7; subst e8; subst e9; subst e10; subst e11; subst e12; subst e13; subst e14; subst e15; subst e16
  obtain ⟨⟨hG, hA, hL⟩, ⟨m1, m2, m3, m4⟩, hb, hwi, hs⟩ := hVG
  have m4 := m4.symm
  subst m4
  obtain ⟨j1, j2, ⟨j3, j4⟩, ⟨j5, j6⟩, ⟨j7, j8⟩⟩ := hJO
  have hP := p_le hG hJW hJR j1 hVL
  have hv4 : 0 ≤ v4.toInt ∧ v4.toInt ≤ 2147483640 := by omega
  have w1 : (v4 + 1).toInt = v4.toInt + 1 := by rw [ti_add (by omega)]; omega
  have w2 : (v4 + 2).toInt = v4.toInt + 2 := by rw [ti_add (by omega)]; omega
  have w3 : (v4 + 3).toInt = v4.toInt + 3 := by rw [ti_add (by omega)]; omega
  have w4 : (v4 + 4).toInt = v4.toInt + 4 := by rw [ti_add (by omega)]; omega
  unfold g_Law_law_596
  refine ok_bm (Q := fun u => u = 0) (ok_s rfl) (fun u hu => ?_)
  refine ok_bm (Q := fun v => v = (0, 0)) (ok_s rfl) (fun v hv' => ?_)
  subst hu; subst hv'
  refine bnd_up (st_go hrec hv4 ?_)
  obtain ⟨s1, s2, s3, s4, s5, s6, s7, s8⟩ := hVS
  try dsimp only
  refine ⟨m, w, h, lw, lr, ⟨rfl, rfl, rfl, rfl, rfl, rfl, rfl, rfl, rfl, rfl, rfl, rfl, rfl, rfl, rfl, rfl, rfl⟩, ⟨⟨hG, hA, hL⟩, ⟨m1, m2, m3, rfl⟩, hb, hwi, hs⟩, ⟨rfl, by omega, by omega, by omega, s5, s6, s7, fun i hi => by omega⟩, ⟨j1, j2, ⟨j3, j4⟩, ⟨j5, j6⟩, ⟨j7, j8⟩⟩, hZW, hZR, hJW, hJR, hVL⟩
set_option maxHeartbeats 4000000 in
theorem st_got {F L r : Nat} {xs : Nat → Int32} {rec23 : Int32 → Int32 → Nat → (Nat → Int32) → Int32 → Int32 → Int32 → Nat → (Nat → Int32) → Nat → (Nat → Int32) → Nat → (Nat → Int32) → Int32 → Int32 → Nat → (Nat → Int32) → Nat → (Nat → Int32) → Nat → (Nat → Int32) → Nat → (Nat → Int32) → Nat → (Nat → Int32) → Nat → (Nat → Int32) → Nat → (Nat → Int32) → Nat → (Nat → Int32) → Nat → (Nat → Int32) → Nat → (Nat → Int32) → Nat → (Nat → Int32) → Nat → (Nat → Int32) → Nat → (Nat → Int32) → Nat → (Nat → Int32) → Nat → (Nat → Int32) → Int32 → Int32 → Nat → (Nat → Int32) → Nat → (Nat → Int32) → Nat → (Nat → Int32) → Nat → (Nat → Int32) → Nat → (Nat → Int32) → Nat → (Nat → Int32) → Nat → (Nat → Int32) → Nat → (Nat → Int32) → Nat → (Nat → Int32) → Nat → (Nat → Int32) → Nat → (Nat → Int32) → Nat → (Nat → Int32) → Nat → (Nat → Int32) → Nat → (Nat → Int32) → Nat → (Nat → Int32) → Int32 → Int32 → Int32 → Int32 → Int32 → Int32 → Int32 → Int32 → Int32 → Int32 → Int32 → Int32 → Int32 → Int32 → Int32 → Int32 → Int32 → Int32 → Int32 → Int32 → Nat → (Nat → Int32) → Nat → (Nat → Int32) → Nat → (Nat → Int32) → Nat → (Nat → Int32) → Nat → (Nat → Int32) → Nat → (Nat → Int32) → Nat → (Nat → Int32) → Nat → (Nat → Int32) → Nat → (Nat → Int32) → Nat → (Nat → Int32) → Nat → (Nat → Int32) → Nat → (Nat → Int32) → Nat → (Nat → Int32) → Nat → (Nat → Int32) → Nat → (Nat → Int32) → Nat → (Nat → Int64) → Int32 → Option (Nat × Nat × Unit)} {v4 : Int32} {ov sc : Int32} {sN : Nat} {sR : Nat → Int32} {cn nodes st : Int32} {bN : Nat} {bF : Nat → Int32} {leN : Nat} {leF : Nat → Int32} {abN : Nat} {abF : Nat → Int32} {wlc wly : Int32} {WwN : Nat} {WwF : Nat → Int32} {WaN : Nat} {WaF : Nat → Int32} {WnN : Nat} {WnF : Nat → Int32} {WfN : Nat} {WfF : Nat → Int32} {WpN : Nat} {WpF : Nat → Int32} {WtN : Nat} {WtF : Nat → Int32} {WlN : Nat} {WlF : Nat → Int32} {WiP : Nat} {Wip : Nat → Int32} {WiN : Nat} {Wi : Nat → Int32} {WiL : Nat} {Wil : Nat → Int32} {WiK : Nat} {Wik : Nat → Int32} {WoP : Nat} {Wop : Nat → Int32} {WoN : Nat} {Wo : Nat → Int32} {WoL : Nat} {Wol : Nat → Int32} {WoK : Nat} {Wok : Nat → Int32} {rlc rly : Int32} {RwN : Nat} {RwF : Nat → Int32} {RaN : Nat} {RaF : Nat → Int32} {RnN : Nat} {RnF : Nat → Int32} {RfN : Nat} {RfF : Nat → Int32} {RpN : Nat} {RpF : Nat → Int32} {RtN : Nat} {RtF : Nat → Int32} {RlN : Nat} {RlF : Nat → Int32} {RiP : Nat} {Rip : Nat → Int32} {RiN : Nat} {Ri : Nat → Int32} {RiL : Nat} {Ril : Nat → Int32} {RiK : Nat} {Rik : Nat → Int32} {RoP : Nat} {Rop : Nat → Int32} {RoN : Nat} {Ro : Nat → Int32} {RoL : Nat} {Rol : Nat → Int32} {RoK : Nat} {Rok : Nat → Int32} {sg sr a1 a2 a3 a4 a5 a6 th sty bds size P ov2 wr bg en rm wg ct : Int32} {wiN : Nat} {wiF : Nat → Int32} {hiN : Nat} {hiF : Nat → Int32} {beN : Nat} {beF : Nat → Int32} {BN : Nat} {B : Nat → Int32} {cN : Nat} {cF : Nat → Int32} {WN : Nat} {WF : Nat → Int32} {brN : Nat} {brF : Nat → Int32} {fiN : Nat} {fiF : Nat → Int32} {miN : Nat} {miF : Nat → Int32} {toN : Nat} {toF : Nat → Int32} {oN : Nat} {oF : Nat → Int32} {LeN : Nat} {LeF : Nat → Int32} {lyN : Nat} {lyF : Nat → Int32} {LoN : Nat} {LF : Nat → Int32} {KN : Nat} {KF : Nat → Int32} {outN : Nat} {out : Nat → Int64} (hF : 1000000 ≤ F) (hrec : RecOk rec23 v4 r) (hv : 0 ≤ v4.toInt ∧ v4.toInt + 5 ≤ L ∧ L ≤ 2147483640) (hI : INV ov sc sN sR cn nodes st bN bF leN leF abN abF wlc wly WwN WwF WaN WaF WnN WnF WfN WfF WpN WpF WtN WtF WlN WlF WiP WiN Wi WiL Wil WiK Wik WoP WoN Wo WoL Wol WoK Wok rlc rly RwN RwF RaN RaF RnN RnF RfN RfF RpN RpF RtN RlN RlF RiP RiN Ri RiL Ril RiK Rik RoP RoN RoL Rol RoK Rok sty bds size P ov2 wiN wiF hiN hiF beN beF BN B cN cF WN WF brN brF fiN fiF miN miF toN toF oN oF LeN LeF lyN lyF LoN LF KN KF outN) : Ok (g_Law_law_675 F rec23 L xs ov sc sN sR cn nodes st bN bF leN leF abN abF wlc wly WwN WwF WaN WaF WnN WnF WfN WfF WpN WpF WtN WtF WlN WlF WiP Wip WiN Wi WiL Wil WiK Wik WoP Wop WoN Wo WoL Wol WoK Wok rlc rly RwN RwF RaN RaF RnN RnF RfN RfF RpN RpF RtN RtF RlN RlF RiP Rip RiN Ri RiL Ril RiK Rik RoP Rop RoN Ro RoL Rol RoK Rok sg sr a1 a2 a3 a4 a5 a6 th sty bds size P ov2 wr bg en rm wg ct wiN wiF hiN hiF beN beF BN B cN cF WN WF brN brF fiN fiF miN miF toN toF oN oF LeN LeF lyN lyF LoN LF KN KF outN out v4) (BND (r + 1) (PHI sN leN abN WwN WaN WnN WfN WpN WtN WlN WiN WiL WiK WoN WoL WoK RwN RaN RnN RfN RpN RtN RlN RiN RiL RiK RoN RoL RoK)) := by
  have L := lits
  have hI0 := hI
  obtain ⟨m, w, h, lw, lr, ⟨e0, e1, e2, e3, e4, e5, e6, e7, e8, e9, e10, e11, e12, e13, e14, e15, e16⟩, hVG, hVS, hJO, hZW, hZR, hJW, hJR, hVL⟩ := hI
  subst e0; subst e1; subst e2; subst e3; subst e4; subst e5; subst e6; subst e7; subst e8; subst e9; subst e10; subst e11; subst e12; subst e13; subst e14; subst e15; subst e16
  obtain ⟨⟨hG, hA, hL⟩, ⟨m1, m2, m3, m4⟩, hb, hwi, hs⟩ := hVG
  have m4 := m4.symm
  subst m4
  obtain ⟨j1, j2, ⟨j3, j4⟩, ⟨j5, j6⟩, ⟨j7, j8⟩⟩ := hJO
  have hP := p_le hG hJW hJR j1 hVL
  have hv4 : 0 ≤ v4.toInt ∧ v4.toInt ≤ 2147483640 := by omega
  have w1 : (v4 + 1).toInt = v4.toInt + 1 := by rw [ti_add (by omega)]; omega
  have w2 : (v4 + 2).toInt = v4.toInt + 2 := by rw [ti_add (by omega)]; omega
  have w3 : (v4 + 3).toInt = v4.toInt + 3 := by rw [ti_add (by omega)]; omega
  have w4 : (v4 + 4).toInt = v4.toInt + 4 := by rw [ti_add (by omega)]; omega
  unfold g_Law_law_675
  refine ok_v (ok_in (by omega) (ok_v ?_))
  refine ok_v (ok_in (by omega) (ok_v ?_))
  refine ok_v (ok_in (by omega) (ok_v ?_))
  refine ok_bm (s_got (th := th) hG hL ⟨m1, m2⟩ hb hwi (by obtain ⟨z1, -, -, -, z5, -⟩ := hZR; omega) rfl hJR.1.1 hJR.1.2.1 hJR.1.2.2.1) (fun u hu => ok_c ?_)
  refine ok_v (ok_in (by omega) (ok_v ?_))
  refine ok_v (ok_in (by omega) (ok_v ?_))
  refine ok_v (ok_in (by omega) (ok_v ?_))
  refine ok_bm hu (fun v hv2 => ?_)
  refine ok_bm (Q := fun t => t = v.2) (ok_s rfl) (fun t et => ?_)
  subst et
  obtain ⟨k1, k2, k3, k4⟩ := hv2
  refine ok_p k1 ?_
  refine ok_d (fun c => ok_in (by omega) (ok_v (ok_v (ok_v (ok_p ((lg_cmp_eq _ _).mpr (k2 c)) ?_))))) (fun c => ?_)
  · exact bnd_go (st_go hrec hv4 hI0) (by constructor <;> omega)
  · exact bnd_go (st_go hrec hv4 hI0) (by constructor <;> omega)
set_option maxHeartbeats 4000000 in
theorem st_bytes {F L r : Nat} {xs : Nat → Int32} {rec23 : Int32 → Int32 → Nat → (Nat → Int32) → Int32 → Int32 → Int32 → Nat → (Nat → Int32) → Nat → (Nat → Int32) → Nat → (Nat → Int32) → Int32 → Int32 → Nat → (Nat → Int32) → Nat → (Nat → Int32) → Nat → (Nat → Int32) → Nat → (Nat → Int32) → Nat → (Nat → Int32) → Nat → (Nat → Int32) → Nat → (Nat → Int32) → Nat → (Nat → Int32) → Nat → (Nat → Int32) → Nat → (Nat → Int32) → Nat → (Nat → Int32) → Nat → (Nat → Int32) → Nat → (Nat → Int32) → Nat → (Nat → Int32) → Nat → (Nat → Int32) → Int32 → Int32 → Nat → (Nat → Int32) → Nat → (Nat → Int32) → Nat → (Nat → Int32) → Nat → (Nat → Int32) → Nat → (Nat → Int32) → Nat → (Nat → Int32) → Nat → (Nat → Int32) → Nat → (Nat → Int32) → Nat → (Nat → Int32) → Nat → (Nat → Int32) → Nat → (Nat → Int32) → Nat → (Nat → Int32) → Nat → (Nat → Int32) → Nat → (Nat → Int32) → Nat → (Nat → Int32) → Int32 → Int32 → Int32 → Int32 → Int32 → Int32 → Int32 → Int32 → Int32 → Int32 → Int32 → Int32 → Int32 → Int32 → Int32 → Int32 → Int32 → Int32 → Int32 → Int32 → Nat → (Nat → Int32) → Nat → (Nat → Int32) → Nat → (Nat → Int32) → Nat → (Nat → Int32) → Nat → (Nat → Int32) → Nat → (Nat → Int32) → Nat → (Nat → Int32) → Nat → (Nat → Int32) → Nat → (Nat → Int32) → Nat → (Nat → Int32) → Nat → (Nat → Int32) → Nat → (Nat → Int32) → Nat → (Nat → Int32) → Nat → (Nat → Int32) → Nat → (Nat → Int32) → Nat → (Nat → Int64) → Int32 → Option (Nat × Nat × Unit)} {v4 : Int32} {ov sc : Int32} {sN : Nat} {sR : Nat → Int32} {cn nodes st : Int32} {bN : Nat} {bF : Nat → Int32} {leN : Nat} {leF : Nat → Int32} {abN : Nat} {abF : Nat → Int32} {wlc wly : Int32} {WwN : Nat} {WwF : Nat → Int32} {WaN : Nat} {WaF : Nat → Int32} {WnN : Nat} {WnF : Nat → Int32} {WfN : Nat} {WfF : Nat → Int32} {WpN : Nat} {WpF : Nat → Int32} {WtN : Nat} {WtF : Nat → Int32} {WlN : Nat} {WlF : Nat → Int32} {WiP : Nat} {Wip : Nat → Int32} {WiN : Nat} {Wi : Nat → Int32} {WiL : Nat} {Wil : Nat → Int32} {WiK : Nat} {Wik : Nat → Int32} {WoP : Nat} {Wop : Nat → Int32} {WoN : Nat} {Wo : Nat → Int32} {WoL : Nat} {Wol : Nat → Int32} {WoK : Nat} {Wok : Nat → Int32} {rlc rly : Int32} {RwN : Nat} {RwF : Nat → Int32} {RaN : Nat} {RaF : Nat → Int32} {RnN : Nat} {RnF : Nat → Int32} {RfN : Nat} {RfF : Nat → Int32} {RpN : Nat} {RpF : Nat → Int32} {RtN : Nat} {RtF : Nat → Int32} {RlN : Nat} {RlF : Nat → Int32} {RiP : Nat} {Rip : Nat → Int32} {RiN : Nat} {Ri : Nat → Int32} {RiL : Nat} {Ril : Nat → Int32} {RiK : Nat} {Rik : Nat → Int32} {RoP : Nat} {Rop : Nat → Int32} {RoN : Nat} {Ro : Nat → Int32} {RoL : Nat} {Rol : Nat → Int32} {RoK : Nat} {Rok : Nat → Int32} {sg sr a1 a2 a3 a4 a5 a6 th sty bds size P ov2 wr bg en rm wg ct : Int32} {wiN : Nat} {wiF : Nat → Int32} {hiN : Nat} {hiF : Nat → Int32} {beN : Nat} {beF : Nat → Int32} {BN : Nat} {B : Nat → Int32} {cN : Nat} {cF : Nat → Int32} {WN : Nat} {WF : Nat → Int32} {brN : Nat} {brF : Nat → Int32} {fiN : Nat} {fiF : Nat → Int32} {miN : Nat} {miF : Nat → Int32} {toN : Nat} {toF : Nat → Int32} {oN : Nat} {oF : Nat → Int32} {LeN : Nat} {LeF : Nat → Int32} {lyN : Nat} {lyF : Nat → Int32} {LoN : Nat} {LF : Nat → Int32} {KN : Nat} {KF : Nat → Int32} {outN : Nat} {out : Nat → Int64} (hF : 1000000 ≤ F) (hrec : RecOk rec23 v4 r) (hv : 0 ≤ v4.toInt ∧ v4.toInt + 5 ≤ L ∧ L ≤ 2147483640) (hI : INV ov sc sN sR cn nodes st bN bF leN leF abN abF wlc wly WwN WwF WaN WaF WnN WnF WfN WfF WpN WpF WtN WtF WlN WlF WiP WiN Wi WiL Wil WiK Wik WoP WoN Wo WoL Wol WoK Wok rlc rly RwN RwF RaN RaF RnN RnF RfN RfF RpN RpF RtN RlN RlF RiP RiN Ri RiL Ril RiK Rik RoP RoN RoL Rol RoK Rok sty bds size P ov2 wiN wiF hiN hiF beN beF BN B cN cF WN WF brN brF fiN fiF miN miF toN toF oN oF LeN LeF lyN lyF LoN LF KN KF outN) : Ok (g_Law_law_755 F rec23 L xs ov sc sN sR cn nodes st bN bF leN leF abN abF wlc wly WwN WwF WaN WaF WnN WnF WfN WfF WpN WpF WtN WtF WlN WlF WiP Wip WiN Wi WiL Wil WiK Wik WoP Wop WoN Wo WoL Wol WoK Wok rlc rly RwN RwF RaN RaF RnN RnF RfN RfF RpN RpF RtN RtF RlN RlF RiP Rip RiN Ri RiL Ril RiK Rik RoP Rop RoN Ro RoL Rol RoK Rok sg sr a1 a2 a3 a4 a5 a6 th sty bds size P ov2 wr bg en rm wg ct wiN wiF hiN hiF beN beF BN B cN cF WN WF brN brF fiN fiF miN miF toN toF oN oF LeN LeF lyN lyF LoN LF KN KF outN out v4) (BND (r + 1) (PHI sN leN abN WwN WaN WnN WfN WpN WtN WlN WiN WiL WiK WoN WoL WoK RwN RaN RnN RfN RpN RtN RlN RiN RiL RiK RoN RoL RoK)) := by
  have L := lits
  have hI0 := hI
  obtain ⟨m, w, h, lw, lr, ⟨e0, e1, e2, e3, e4, e5, e6, e7, e8, e9, e10, e11, e12, e13, e14, e15, e16⟩, hVG, hVS, hJO, hZW, hZR, hJW, hJR, hVL⟩ := hI
  subst e0; subst e1; subst e2; subst e3; subst e4; subst e5; subst e6; subst e7; subst e8; subst e9; subst e10; subst e11; subst e12; subst e13; subst e14; subst e15; subst e16
  obtain ⟨⟨hG, hA, hL⟩, ⟨m1, m2, m3, m4⟩, hb, hwi, hs⟩ := hVG
  have m4 := m4.symm
  subst m4
  obtain ⟨j1, j2, ⟨j3, j4⟩, ⟨j5, j6⟩, ⟨j7, j8⟩⟩ := hJO
  have hP := p_le hG hJW hJR j1 hVL
  have hv4 : 0 ≤ v4.toInt ∧ v4.toInt ≤ 2147483640 := by omega
  have w1 : (v4 + 1).toInt = v4.toInt + 1 := by rw [ti_add (by omega)]; omega
  have w2 : (v4 + 2).toInt = v4.toInt + 2 := by rw [ti_add (by omega)]; omega
  have w3 : (v4 + 3).toInt = v4.toInt + 3 := by rw [ti_add (by omega)]; omega
  have w4 : (v4 + 4).toInt = v4.toInt + 4 := by rw [ti_add (by omega)]; omega
  unfold g_Law_law_755
  have hB : ∀ b, b < bbase w h m → (RpF b).toInt = (toF (1024 + b)).toInt ∧ (0 < (RpF b).toInt → 0 ≤ (RfF b).toInt ∧ (RfF b).toInt + (RpF b).toInt ≤ RlN) := by
    intro b hb'
    try dsimp only
    refine ⟨(hJR.1.1.2.2 b hb').2.2.1, fun hp => ?_⟩
    rcases j1 with q | q
    · have q1 := (hJR.1.2.2.2.2.1 q).2
      have q2 := q1.1.1 b hb'
      omega
    · have q1 := hJR.1.2.2.2.2.2 q b hb'
      omega
  refine ok_v (ok_in (by omega) (ok_v ?_))
  refine ok_v (ok_in (by omega) (ok_v ?_))
  refine ok_v (ok_in (by omega) (ok_v ?_))
  refine ok_bm (s_bytes (th := th) hF hG ⟨m1, m2⟩ hb hwi (by obtain ⟨z1, -, z3, -, -, -⟩ := hZR; omega) rfl hB ⟨hVL.1, by omega⟩ hVL.2.2 hJR.1.2.2.2.1) (fun u hu => ok_c ?_)
  refine ok_v (ok_in (by omega) (ok_v ?_))
  refine ok_v (ok_in (by omega) (ok_v ?_))
  refine ok_v (ok_in (by omega) (ok_v ?_))
  refine ok_bm hu (fun v hv2 => ?_)
  refine ok_bm (Q := fun t => t = v.2) (ok_s rfl) (fun t et => ?_)
  subst et
  obtain ⟨k1, k2, k3, k4⟩ := hv2
  refine ok_p k1 ?_
  refine ok_d (fun c => ok_in (by omega) (ok_v (ok_v (ok_v (ok_p ((lg_cmp_eq _ _).mpr (k2 c)) ?_))))) (fun c => ?_)
  · exact bnd_go (st_go hrec hv4 hI0) (by constructor <;> omega)
  · exact bnd_go (st_go hrec hv4 hI0) (by constructor <;> omega)
set_option maxHeartbeats 4000000 in
theorem st_at {F L r : Nat} {xs : Nat → Int32} {rec23 : Int32 → Int32 → Nat → (Nat → Int32) → Int32 → Int32 → Int32 → Nat → (Nat → Int32) → Nat → (Nat → Int32) → Nat → (Nat → Int32) → Int32 → Int32 → Nat → (Nat → Int32) → Nat → (Nat → Int32) → Nat → (Nat → Int32) → Nat → (Nat → Int32) → Nat → (Nat → Int32) → Nat → (Nat → Int32) → Nat → (Nat → Int32) → Nat → (Nat → Int32) → Nat → (Nat → Int32) → Nat → (Nat → Int32) → Nat → (Nat → Int32) → Nat → (Nat → Int32) → Nat → (Nat → Int32) → Nat → (Nat → Int32) → Nat → (Nat → Int32) → Int32 → Int32 → Nat → (Nat → Int32) → Nat → (Nat → Int32) → Nat → (Nat → Int32) → Nat → (Nat → Int32) → Nat → (Nat → Int32) → Nat → (Nat → Int32) → Nat → (Nat → Int32) → Nat → (Nat → Int32) → Nat → (Nat → Int32) → Nat → (Nat → Int32) → Nat → (Nat → Int32) → Nat → (Nat → Int32) → Nat → (Nat → Int32) → Nat → (Nat → Int32) → Nat → (Nat → Int32) → Int32 → Int32 → Int32 → Int32 → Int32 → Int32 → Int32 → Int32 → Int32 → Int32 → Int32 → Int32 → Int32 → Int32 → Int32 → Int32 → Int32 → Int32 → Int32 → Int32 → Nat → (Nat → Int32) → Nat → (Nat → Int32) → Nat → (Nat → Int32) → Nat → (Nat → Int32) → Nat → (Nat → Int32) → Nat → (Nat → Int32) → Nat → (Nat → Int32) → Nat → (Nat → Int32) → Nat → (Nat → Int32) → Nat → (Nat → Int32) → Nat → (Nat → Int32) → Nat → (Nat → Int32) → Nat → (Nat → Int32) → Nat → (Nat → Int32) → Nat → (Nat → Int32) → Nat → (Nat → Int64) → Int32 → Option (Nat × Nat × Unit)} {v4 : Int32} {ov sc : Int32} {sN : Nat} {sR : Nat → Int32} {cn nodes st : Int32} {bN : Nat} {bF : Nat → Int32} {leN : Nat} {leF : Nat → Int32} {abN : Nat} {abF : Nat → Int32} {wlc wly : Int32} {WwN : Nat} {WwF : Nat → Int32} {WaN : Nat} {WaF : Nat → Int32} {WnN : Nat} {WnF : Nat → Int32} {WfN : Nat} {WfF : Nat → Int32} {WpN : Nat} {WpF : Nat → Int32} {WtN : Nat} {WtF : Nat → Int32} {WlN : Nat} {WlF : Nat → Int32} {WiP : Nat} {Wip : Nat → Int32} {WiN : Nat} {Wi : Nat → Int32} {WiL : Nat} {Wil : Nat → Int32} {WiK : Nat} {Wik : Nat → Int32} {WoP : Nat} {Wop : Nat → Int32} {WoN : Nat} {Wo : Nat → Int32} {WoL : Nat} {Wol : Nat → Int32} {WoK : Nat} {Wok : Nat → Int32} {rlc rly : Int32} {RwN : Nat} {RwF : Nat → Int32} {RaN : Nat} {RaF : Nat → Int32} {RnN : Nat} {RnF : Nat → Int32} {RfN : Nat} {RfF : Nat → Int32} {RpN : Nat} {RpF : Nat → Int32} {RtN : Nat} {RtF : Nat → Int32} {RlN : Nat} {RlF : Nat → Int32} {RiP : Nat} {Rip : Nat → Int32} {RiN : Nat} {Ri : Nat → Int32} {RiL : Nat} {Ril : Nat → Int32} {RiK : Nat} {Rik : Nat → Int32} {RoP : Nat} {Rop : Nat → Int32} {RoN : Nat} {Ro : Nat → Int32} {RoL : Nat} {Rol : Nat → Int32} {RoK : Nat} {Rok : Nat → Int32} {sg sr a1 a2 a3 a4 a5 a6 th sty bds size P ov2 wr bg en rm wg ct : Int32} {wiN : Nat} {wiF : Nat → Int32} {hiN : Nat} {hiF : Nat → Int32} {beN : Nat} {beF : Nat → Int32} {BN : Nat} {B : Nat → Int32} {cN : Nat} {cF : Nat → Int32} {WN : Nat} {WF : Nat → Int32} {brN : Nat} {brF : Nat → Int32} {fiN : Nat} {fiF : Nat → Int32} {miN : Nat} {miF : Nat → Int32} {toN : Nat} {toF : Nat → Int32} {oN : Nat} {oF : Nat → Int32} {LeN : Nat} {LeF : Nat → Int32} {lyN : Nat} {lyF : Nat → Int32} {LoN : Nat} {LF : Nat → Int32} {KN : Nat} {KF : Nat → Int32} {outN : Nat} {out : Nat → Int64} (hF : 1000000 ≤ F) (hrec : RecOk rec23 v4 r) (hv : 0 ≤ v4.toInt ∧ v4.toInt + 5 ≤ L ∧ L ≤ 2147483640) (hI : INV ov sc sN sR cn nodes st bN bF leN leF abN abF wlc wly WwN WwF WaN WaF WnN WnF WfN WfF WpN WpF WtN WtF WlN WlF WiP WiN Wi WiL Wil WiK Wik WoP WoN Wo WoL Wol WoK Wok rlc rly RwN RwF RaN RaF RnN RnF RfN RfF RpN RpF RtN RlN RlF RiP RiN Ri RiL Ril RiK Rik RoP RoN RoL Rol RoK Rok sty bds size P ov2 wiN wiF hiN hiF beN beF BN B cN cF WN WF brN brF fiN fiF miN miF toN toF oN oF LeN LeF lyN lyF LoN LF KN KF outN) : Ok (g_Law_law_540 F rec23 L xs ov sc sN sR cn nodes st bN bF leN leF abN abF wlc wly WwN WwF WaN WaF WnN WnF WfN WfF WpN WpF WtN WtF WlN WlF WiP Wip WiN Wi WiL Wil WiK Wik WoP Wop WoN Wo WoL Wol WoK Wok rlc rly RwN RwF RaN RaF RnN RnF RfN RfF RpN RpF RtN RtF RlN RlF RiP Rip RiN Ri RiL Ril RiK Rik RoP Rop RoN Ro RoL Rol RoK Rok sg sr a1 a2 a3 a4 a5 a6 th sty bds size P ov2 wr bg en rm wg ct wiN wiF hiN hiF beN beF BN B cN cF WN WF brN brF fiN fiF miN miF toN toF oN oF LeN LeF lyN lyF LoN LF KN KF outN out v4) (BND (r + 1) (PHI sN leN abN WwN WaN WnN WfN WpN WtN WlN WiN WiL WiK WoN WoL WoK RwN RaN RnN RfN RpN RtN RlN RiN RiL RiK RoN RoL RoK)) := by
  have L := lits
  have hI0 := hI
  obtain ⟨m, w, h, lw, lr, ⟨e0, e1, e2, e3, e4, e5, e6, e7, e8, e9, e10, e11, e12, e13, e14, e15, e16⟩, hVG, hVS, hJO, hZW, hZR, hJW, hJR, hVL⟩ := hI
  subst e0; subst e1; subst e2; subst e3; subst e4; subst e5; subst e6; subst e7; subst e8; subst e9; subst e10; subst e11; subst e12; subst e13; subst e14; subst e15; subst e16
  obtain ⟨⟨hG, hA, hL⟩, ⟨m1, m2, m3, m4⟩, hb, hwi, hs⟩ := hVG
  have m4 := m4.symm
  subst m4
  obtain ⟨j1, j2, ⟨j3, j4⟩, ⟨j5, j6⟩, ⟨j7, j8⟩⟩ := hJO
  have hP := p_le hG hJW hJR j1 hVL
  have hv4 : 0 ≤ v4.toInt ∧ v4.toInt ≤ 2147483640 := by omega
  have w1 : (v4 + 1).toInt = v4.toInt + 1 := by rw [ti_add (by omega)]; omega
  have w2 : (v4 + 2).toInt = v4.toInt + 2 := by rw [ti_add (by omega)]; omega
  have w3 : (v4 + 3).toInt = v4.toInt + 3 := by rw [ti_add (by omega)]; omega
  have w4 : (v4 + 4).toInt = v4.toInt + 4 := by rw [ti_add (by omega)]; omega
  unfold g_Law_law_540
  refine ok_v (ok_in (by omega) (ok_v ?_))
  obtain ⟨s1, s2, s3, s4, s5, s6, s7, s8⟩ := hVS
  subst s1
  refine ok_bm (c_at ⟨s2, s3, s4⟩ rfl) (fun u hu => ok_c ?_)
  refine ok_v (ok_in (by omega) (ok_v ?_))
  refine ok_bm (m_at ⟨s2, s3⟩) (fun v hv2 => ?_)
  refine ok_bm (Q := fun t => t = v.2) (ok_s rfl) (fun t et => ?_)
  subst et
  rcases hu with ⟨q1, rfl⟩ | ⟨x, q1, q2, q3, q4, q5, q6⟩
  · rcases hv2 with ⟨g1, rfl⟩ | ⟨g1, g2, g3⟩
    · refine ok_p rfl ?_
      refine ok_d (fun c => absurd c n10) (fun c => ?_)
      exact bnd_go (st_go hrec hv4 hI0) cost_t
    · omega
  · rcases hv2 with ⟨g1, rfl⟩ | ⟨g1, g2, g3⟩
    · omega
    · have ex : v.1 = x := by
        rcases q6 with ⟨a1, a2⟩ | ⟨a1, a2⟩
        · rcases g3 with ⟨b1, b2⟩ | ⟨b1, b2⟩
          · rw [a2, b2]
          · omega
        · rcases g3 with ⟨b1, b2⟩ | ⟨b1, b2⟩
          · omega
          · refine ti_ofI ?_
            rw [a2, b2, s8 _ (by omega)]
      refine ok_p (by rw [g2, q4]) ?_
      refine ok_d (fun c => ok_in (by omega) (ok_v (ok_v (ok_v (ok_p ((lg_cmp_eq _ _).mpr (by rw [q5, ex])) ?_))))) (fun c => absurd q4 c)
      exact bnd_go (st_go hrec hv4 hI0) (by constructor <;> omega)
set_option maxHeartbeats 4000000 in
theorem st_layers {F L r : Nat} {xs : Nat → Int32} {rec23 : Int32 → Int32 → Nat → (Nat → Int32) → Int32 → Int32 → Int32 → Nat → (Nat → Int32) → Nat → (Nat → Int32) → Nat → (Nat → Int32) → Int32 → Int32 → Nat → (Nat → Int32) → Nat → (Nat → Int32) → Nat → (Nat → Int32) → Nat → (Nat → Int32) → Nat → (Nat → Int32) → Nat → (Nat → Int32) → Nat → (Nat → Int32) → Nat → (Nat → Int32) → Nat → (Nat → Int32) → Nat → (Nat → Int32) → Nat → (Nat → Int32) → Nat → (Nat → Int32) → Nat → (Nat → Int32) → Nat → (Nat → Int32) → Nat → (Nat → Int32) → Int32 → Int32 → Nat → (Nat → Int32) → Nat → (Nat → Int32) → Nat → (Nat → Int32) → Nat → (Nat → Int32) → Nat → (Nat → Int32) → Nat → (Nat → Int32) → Nat → (Nat → Int32) → Nat → (Nat → Int32) → Nat → (Nat → Int32) → Nat → (Nat → Int32) → Nat → (Nat → Int32) → Nat → (Nat → Int32) → Nat → (Nat → Int32) → Nat → (Nat → Int32) → Nat → (Nat → Int32) → Int32 → Int32 → Int32 → Int32 → Int32 → Int32 → Int32 → Int32 → Int32 → Int32 → Int32 → Int32 → Int32 → Int32 → Int32 → Int32 → Int32 → Int32 → Int32 → Int32 → Nat → (Nat → Int32) → Nat → (Nat → Int32) → Nat → (Nat → Int32) → Nat → (Nat → Int32) → Nat → (Nat → Int32) → Nat → (Nat → Int32) → Nat → (Nat → Int32) → Nat → (Nat → Int32) → Nat → (Nat → Int32) → Nat → (Nat → Int32) → Nat → (Nat → Int32) → Nat → (Nat → Int32) → Nat → (Nat → Int32) → Nat → (Nat → Int32) → Nat → (Nat → Int32) → Nat → (Nat → Int64) → Int32 → Option (Nat × Nat × Unit)} {v4 : Int32} {ov sc : Int32} {sN : Nat} {sR : Nat → Int32} {cn nodes st : Int32} {bN : Nat} {bF : Nat → Int32} {leN : Nat} {leF : Nat → Int32} {abN : Nat} {abF : Nat → Int32} {wlc wly : Int32} {WwN : Nat} {WwF : Nat → Int32} {WaN : Nat} {WaF : Nat → Int32} {WnN : Nat} {WnF : Nat → Int32} {WfN : Nat} {WfF : Nat → Int32} {WpN : Nat} {WpF : Nat → Int32} {WtN : Nat} {WtF : Nat → Int32} {WlN : Nat} {WlF : Nat → Int32} {WiP : Nat} {Wip : Nat → Int32} {WiN : Nat} {Wi : Nat → Int32} {WiL : Nat} {Wil : Nat → Int32} {WiK : Nat} {Wik : Nat → Int32} {WoP : Nat} {Wop : Nat → Int32} {WoN : Nat} {Wo : Nat → Int32} {WoL : Nat} {Wol : Nat → Int32} {WoK : Nat} {Wok : Nat → Int32} {rlc rly : Int32} {RwN : Nat} {RwF : Nat → Int32} {RaN : Nat} {RaF : Nat → Int32} {RnN : Nat} {RnF : Nat → Int32} {RfN : Nat} {RfF : Nat → Int32} {RpN : Nat} {RpF : Nat → Int32} {RtN : Nat} {RtF : Nat → Int32} {RlN : Nat} {RlF : Nat → Int32} {RiP : Nat} {Rip : Nat → Int32} {RiN : Nat} {Ri : Nat → Int32} {RiL : Nat} {Ril : Nat → Int32} {RiK : Nat} {Rik : Nat → Int32} {RoP : Nat} {Rop : Nat → Int32} {RoN : Nat} {Ro : Nat → Int32} {RoL : Nat} {Rol : Nat → Int32} {RoK : Nat} {Rok : Nat → Int32} {sg sr a1 a2 a3 a4 a5 a6 th sty bds size P ov2 wr bg en rm wg ct : Int32} {wiN : Nat} {wiF : Nat → Int32} {hiN : Nat} {hiF : Nat → Int32} {beN : Nat} {beF : Nat → Int32} {BN : Nat} {B : Nat → Int32} {cN : Nat} {cF : Nat → Int32} {WN : Nat} {WF : Nat → Int32} {brN : Nat} {brF : Nat → Int32} {fiN : Nat} {fiF : Nat → Int32} {miN : Nat} {miF : Nat → Int32} {toN : Nat} {toF : Nat → Int32} {oN : Nat} {oF : Nat → Int32} {LeN : Nat} {LeF : Nat → Int32} {lyN : Nat} {lyF : Nat → Int32} {LoN : Nat} {LF : Nat → Int32} {KN : Nat} {KF : Nat → Int32} {outN : Nat} {out : Nat → Int64} (hF : 1000000 ≤ F) (hrec : RecOk rec23 v4 r) (hv : 0 ≤ v4.toInt ∧ v4.toInt + 5 ≤ L ∧ L ≤ 2147483640) (hI : INV ov sc sN sR cn nodes st bN bF leN leF abN abF wlc wly WwN WwF WaN WaF WnN WnF WfN WfF WpN WpF WtN WtF WlN WlF WiP WiN Wi WiL Wil WiK Wik WoP WoN Wo WoL Wol WoK Wok rlc rly RwN RwF RaN RaF RnN RnF RfN RfF RpN RpF RtN RlN RlF RiP RiN Ri RiL Ril RiK Rik RoP RoN RoL Rol RoK Rok sty bds size P ov2 wiN wiF hiN hiF beN beF BN B cN cF WN WF brN brF fiN fiF miN miF toN toF oN oF LeN LeF lyN lyF LoN LF KN KF outN) : Ok (g_Law_law_835 F rec23 L xs ov sc sN sR cn nodes st bN bF leN leF abN abF wlc wly WwN WwF WaN WaF WnN WnF WfN WfF WpN WpF WtN WtF WlN WlF WiP Wip WiN Wi WiL Wil WiK Wik WoP Wop WoN Wo WoL Wol WoK Wok rlc rly RwN RwF RaN RaF RnN RnF RfN RfF RpN RpF RtN RtF RlN RlF RiP Rip RiN Ri RiL Ril RiK Rik RoP Rop RoN Ro RoL Rol RoK Rok sg sr a1 a2 a3 a4 a5 a6 th sty bds size P ov2 wr bg en rm wg ct wiN wiF hiN hiF beN beF BN B cN cF WN WF brN brF fiN fiF miN miF toN toF oN oF LeN LeF lyN lyF LoN LF KN KF outN out v4) (BND (r + 1) (PHI sN leN abN WwN WaN WnN WfN WpN WtN WlN WiN WiL WiK WoN WoL WoK RwN RaN RnN RfN RpN RtN RlN RiN RiL RiK RoN RoL RoK)) := by
  have L := lits
  have hI0 := hI
  obtain ⟨m, w, h, lw, lr, ⟨e0, e1, e2, e3, e4, e5, e6, e7, e8, e9, e10, e11, e12, e13, e14, e15, e16⟩, hVG, hVS, hJO, hZW, hZR, hJW, hJR, hVL⟩ := hI
  subst e0; subst e1; subst e2; subst e3; subst e4; subst e5; subst e6; subst e7; subst e8; subst e9; subst e10; subst e11; subst e12; subst e13; subst e14; subst e15; subst e16
  obtain ⟨⟨hG, hA, hL⟩, ⟨m1, m2, m3, m4⟩, hb, hwi, hs⟩ := hVG
  have m4 := m4.symm
  subst m4
  obtain ⟨j1, j2, ⟨j3, j4⟩, ⟨j5, j6⟩, ⟨j7, j8⟩⟩ := hJO
  have hP := p_le hG hJW hJR j1 hVL
  have hv4 : 0 ≤ v4.toInt ∧ v4.toInt ≤ 2147483640 := by omega
  have w1 : (v4 + 1).toInt = v4.toInt + 1 := by rw [ti_add (by omega)]; omega
  have w2 : (v4 + 2).toInt = v4.toInt + 2 := by rw [ti_add (by omega)]; omega
  have w3 : (v4 + 3).toInt = v4.toInt + 3 := by rw [ti_add (by omega)]; omega
  have w4 : (v4 + 4).toInt = v4.toInt + 4 := by rw [ti_add (by omega)]; omega
  unfold g_Law_law_835
  refine ok_v (ok_in (by omega) (ok_v ?_))
  refine ok_bm (c_layers rfl) (fun u hu => ok_c ?_)
  refine ok_v (ok_in (by omega) (ok_v ?_))
  refine ok_bm m_layers (fun v hv2 => ?_)
  refine ok_bm (Q := fun t => t = v.2) (ok_s rfl) (fun t et => ?_)
  subst et
  rw [j2] at hv2
  rcases hu with ⟨q1, rfl⟩ | ⟨x, q1, q2, q3, q4, q5, q6⟩
  · rcases hv2 with ⟨g1, rfl⟩ | ⟨g1, g2, g3⟩
    · refine ok_p rfl ?_
      refine ok_d (fun c => absurd c n10) (fun c => ?_)
      exact bnd_go (st_go hrec hv4 hI0) cost_t
    · omega
  · rcases hv2 with ⟨g1, rfl⟩ | ⟨g1, g2, g3⟩
    · omega
    · have ex : v.1 = x := by
        rcases q6 with ⟨a1, a2⟩ | ⟨a1, a2⟩ | ⟨a1, a2⟩
        · rcases g3 with ⟨b1, b2⟩ | ⟨b1, b2⟩ | ⟨b1, b2⟩
          · rw [a2, b2, j3]
          · omega
          · omega
        · rcases g3 with ⟨b1, b2⟩ | ⟨b1, b2⟩ | ⟨b1, b2⟩
          · omega
          · rw [a2, b2, j4]
          · omega
        · rcases g3 with ⟨b1, b2⟩ | ⟨b1, b2⟩ | ⟨b1, b2⟩
          · omega
          · omega
          · rcases a2 with ⟨a2, a3⟩ | ⟨a2, a3⟩
            · rcases b2 with ⟨b2, b3⟩ | ⟨b2, b3⟩
              · rw [a3, b3]
              · omega
            · rcases b2 with ⟨b2, b3⟩ | ⟨b2, b3⟩
              · omega
              · rw [a3, b3]
      refine ok_p (by rw [g2, q4]) ?_
      refine ok_d (fun c => ok_in (by omega) (ok_v (ok_v (ok_v (ok_p ((lg_cmp_eq _ _).mpr (by rw [q5, ex])) ?_))))) (fun c => absurd q4 c)
      exact bnd_go (st_go hrec hv4 hI0) (by constructor <;> omega)
