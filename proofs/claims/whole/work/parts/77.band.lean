/-! A band more. -/
set_option maxHeartbeats 2000000 in
theorem c_band {F : Nat} (hF : 1000000 ≤ F) {m : Nat} {w h : Nat → Nat} {ov cn nodes wly rly p0 p1 : Int32} {leN abN WwN WaN WnN WfN WpN WtN WiN WiL WiK WoN WoL WoK RwN RaN RnN RfN RpN RtN RiN RiL RiK RoN RoL RoK oN : Nat} {bF leF abF WwF WaF WnF WfF WpF WtF Wi Wil Wik Wo Wol Wok RwF RaF RnF RfF RpF RtF Ri Ril Rik Ro Rol Rok : Nat → Int32} {out : Nat → Int64} (hG : Geo m w h) (hA : GA m w h abF) (hL : GL m w h leF) (hm : cn.toInt = m) (hb : ∀ j, j ≤ m → (bF j).toInt = bbase w h j) (hn : nodes.toInt = nbase w h m) (hs : bbase w h m ≤ leN ∧ 16 ≤ leN ∧ leN ≤ 2048 ∧ nbase w h m ≤ abN ∧ 16 ≤ abN ∧ abN ≤ 4096) (ho : oN = 1)
    (hW : bbase w h m ≤ WwN ∧ bbase w h m ≤ WaN ∧ bbase w h m ≤ WnN ∧ bbase w h m ≤ WfN ∧ bbase w h m ≤ WpN ∧ bbase w h m ≤ WtN) (hW2 : 16 ≤ WwN ∧ WwN ≤ 2048 ∧ 16 ≤ WaN ∧ WaN ≤ 2048 ∧ 16 ≤ WnN ∧ WnN ≤ 2048 ∧ 16 ≤ WfN ∧ WfN ≤ 2048 ∧ 16 ≤ WpN ∧ WpN ≤ 2048 ∧ 16 ≤ WtN ∧ WtN ≤ 2048) (hW3 : nbase w h m ≤ WiN ∧ nbase w h m ≤ WiL ∧ nbase w h m ≤ WiK ∧ nbase w h m ≤ WoN ∧ nbase w h m ≤ WoL ∧ nbase w h m ≤ WoK) (hW4 : 16 ≤ WiN ∧ WiN ≤ 4096 ∧ 16 ≤ WiL ∧ WiL ≤ 4096 ∧ 16 ≤ WiK ∧ WiK ≤ 4096 ∧ 16 ≤ WoN ∧ WoN ≤ 4096 ∧ 16 ≤ WoL ∧ WoL ≤ 4096 ∧ 16 ≤ WoK ∧ WoK ≤ 4096)
    (hR : bbase w h m ≤ RwN ∧ bbase w h m ≤ RaN ∧ bbase w h m ≤ RnN ∧ bbase w h m ≤ RfN ∧ bbase w h m ≤ RpN ∧ bbase w h m ≤ RtN) (hR2 : 16 ≤ RwN ∧ RwN ≤ 2048 ∧ 16 ≤ RaN ∧ RaN ≤ 2048 ∧ 16 ≤ RnN ∧ RnN ≤ 2048 ∧ 16 ≤ RfN ∧ RfN ≤ 2048 ∧ 16 ≤ RpN ∧ RpN ≤ 2048 ∧ 16 ≤ RtN ∧ RtN ≤ 2048) (hR3 : nbase w h m ≤ RiN ∧ nbase w h m ≤ RiL ∧ nbase w h m ≤ RiK ∧ nbase w h m ≤ RoN ∧ nbase w h m ≤ RoL ∧ nbase w h m ≤ RoK) (hR4 : 16 ≤ RiN ∧ RiN ≤ 4096 ∧ 16 ≤ RiL ∧ RiL ≤ 4096 ∧ 16 ≤ RiK ∧ RiK ≤ 4096 ∧ 16 ≤ RoN ∧ RoN ≤ 4096 ∧ 16 ≤ RoL ∧ RoL ≤ 4096 ∧ 16 ≤ RoK ∧ RoK ≤ 4096) :
    Ok (f_Law_band F ov cn nodes 4 bF leN leF abN abF wly WwN WwF WaN WaF WnN WnF WfN WfF WpN WpF WtN WtF WiN Wi WiL Wil WiK Wik WoN Wo WoL Wol WoK Wok rly RwN RwF RaN RaF RnN RnF RfN RfF RpN RpF RtN RtF RiN Ri RiL Ril RiK Rik RoN Ro RoL Rol RoK Rok oN out p0 p1) (fun u => (¬ (∃ W H : Nat, p0.toInt = W ∧ W < 65 ∧ p1.toInt = H ∧ H < 65 ∧ bbase w h m + W * H ≤ 1024) ∧ u = (1, 6, 1, cn, nodes, bF, leN, leF, abN, abF, WwN, WwF, WaN, WaF, WnN, WnF, WfN, WfF, WpN, WpF, WtN, WtF, WiN, Wi, WiL, Wil, WiK, Wik, WoN, Wo, WoL, Wol, WoK, Wok, RwN, RwF, RaN, RaF, RnN, RnF, RfN, RfF, RpN, RpF, RtN, RtF, RiN, Ri, RiL, Ril, RiK, Rik, RoN, Ro, RoL, Rol, RoK, Rok, out)) ∨ ((∃ W H : Nat, p0.toInt = W ∧ W < 65 ∧ p1.toInt = H ∧ H < 65 ∧ bbase w h m + W * H ≤ 1024) ∧ (m = 3 ∨ 0 < wly.toInt ∨ 0 < rly.toInt ∨ ¬ ov.toInt = 0) ∧ u = (1, 6, 2, cn, nodes, bF, leN, leF, abN, abF, WwN, WwF, WaN, WaF, WnN, WnF, WfN, WfF, WpN, WpF, WtN, WtF, WiN, Wi, WiL, Wil, WiK, Wik, WoN, Wo, WoL, Wol, WoK, Wok, RwN, RwF, RaN, RaF, RnN, RnF, RfN, RfF, RpN, RpF, RtN, RtF, RiN, Ri, RiL, Ril, RiK, Rik, RoN, Ro, RoL, Rol, RoK, Rok, out)) ∨ (∃ (W H : Nat) (x : Int32) (za : Nat × Nat × Int32 × Int32 × (Nat → Int32) × Nat × (Nat → Int32) × Nat × (Nat → Int32)) (zw zr : Nat × Nat × Nat × (Nat → Int32) × Nat × (Nat → Int32) × Nat × (Nat → Int32) × Nat × (Nat → Int32) × Nat × (Nat → Int32) × Nat × (Nat → Int32) × Nat × (Nat → Int32) × Nat × (Nat → Int32) × Nat × (Nat → Int32) × Nat × (Nat → Int32) × Nat × (Nat → Int32) × Nat × (Nat → Int32)), (p0.toInt = W ∧ W < 65 ∧ p1.toInt = H ∧ H < 65 ∧ bbase w h m + W * H ≤ 1024) ∧ ¬ (m = 3 ∨ 0 < wly.toInt ∨ 0 < rly.toInt ∨ ¬ ov.toInt = 0) ∧ x.toInt = m ∧ (Geo (m + 1) (ext w m W) (ext h m H) ∧ GA (m + 1) (ext w m W) (ext h m H) za.2.2.2.2.2.2.2.2 ∧ GL (m + 1) (ext w m W) (ext h m H) za.2.2.2.2.2.2.1 ∧ za.2.2.1.toInt = (m : Int) + 1 ∧ za.2.2.2.1.toInt = nbase (ext w m W) (ext h m H) (m + 1) ∧ (∀ j, j ≤ m + 1 → (za.2.2.2.2.1 j).toInt = bbase (ext w m W) (ext h m H) j) ∧ (bbase (ext w m W) (ext h m H) (m + 1) ≤ za.2.2.2.2.2.1 ∧ 16 ≤ za.2.2.2.2.2.1 ∧ za.2.2.2.2.2.1 ≤ 2048 ∧ nbase (ext w m W) (ext h m H) (m + 1) ≤ za.2.2.2.2.2.2.2.1 ∧ 16 ≤ za.2.2.2.2.2.2.2.1 ∧ za.2.2.2.2.2.2.2.1 ≤ 4096) ∧ 16 * za.1 + (leN + abN) ≤ za.2.2.2.2.2.1 + za.2.2.2.2.2.2.2.1 ∧ za.2.1 + 2 * (leN + abN) ≤ 2 * (za.2.2.2.2.2.1 + za.2.2.2.2.2.2.2.1)) ∧ QWE (bbase (ext w m W) (ext h m H) (m + 1)) (nbase (ext w m W) (ext h m H) (m + 1)) (bbase w h m) (nbase w h m) WwN WaN WnN WfN WpN WtN WwF WaF WnF WfF WpF WtF WiN WiL WiK WoN WoL WoK Wi Wil Wik Wo Wol Wok zw ∧ QWE (bbase (ext w m W) (ext h m H) (m + 1)) (nbase (ext w m W) (ext h m H) (m + 1)) (bbase w h m) (nbase w h m) RwN RaN RnN RfN RpN RtN RwF RaF RnF RfF RpF RtF RiN RiL RiK RoN RoL RoK Ri Ril Rik Ro Rol Rok zr ∧ ∃ (nc ns : Nat) (out' : Nat → Int64), u = (nc, ns, 0, za.2.2.1, za.2.2.2.1, za.2.2.2.2.1, za.2.2.2.2.2.1, za.2.2.2.2.2.2.1, za.2.2.2.2.2.2.2.1, za.2.2.2.2.2.2.2.2, zw.2.2.1, zw.2.2.2.1, zw.2.2.2.2.1, zw.2.2.2.2.2.1, zw.2.2.2.2.2.2.1, zw.2.2.2.2.2.2.2.1, zw.2.2.2.2.2.2.2.2.1, zw.2.2.2.2.2.2.2.2.2.1, zw.2.2.2.2.2.2.2.2.2.2.1, zw.2.2.2.2.2.2.2.2.2.2.2.1, zw.2.2.2.2.2.2.2.2.2.2.2.2.1, zw.2.2.2.2.2.2.2.2.2.2.2.2.2.1, zw.2.2.2.2.2.2.2.2.2.2.2.2.2.2.1, zw.2.2.2.2.2.2.2.2.2.2.2.2.2.2.2.1, zw.2.2.2.2.2.2.2.2.2.2.2.2.2.2.2.2.1, zw.2.2.2.2.2.2.2.2.2.2.2.2.2.2.2.2.2.1, zw.2.2.2.2.2.2.2.2.2.2.2.2.2.2.2.2.2.2.1, zw.2.2.2.2.2.2.2.2.2.2.2.2.2.2.2.2.2.2.2.1, zw.2.2.2.2.2.2.2.2.2.2.2.2.2.2.2.2.2.2.2.2.1, zw.2.2.2.2.2.2.2.2.2.2.2.2.2.2.2.2.2.2.2.2.2.1, zw.2.2.2.2.2.2.2.2.2.2.2.2.2.2.2.2.2.2.2.2.2.2.1, zw.2.2.2.2.2.2.2.2.2.2.2.2.2.2.2.2.2.2.2.2.2.2.2.1, zw.2.2.2.2.2.2.2.2.2.2.2.2.2.2.2.2.2.2.2.2.2.2.2.2.1, zw.2.2.2.2.2.2.2.2.2.2.2.2.2.2.2.2.2.2.2.2.2.2.2.2.2, zr.2.2.1, zr.2.2.2.1, zr.2.2.2.2.1, zr.2.2.2.2.2.1, zr.2.2.2.2.2.2.1, zr.2.2.2.2.2.2.2.1, zr.2.2.2.2.2.2.2.2.1, zr.2.2.2.2.2.2.2.2.2.1, zr.2.2.2.2.2.2.2.2.2.2.1, zr.2.2.2.2.2.2.2.2.2.2.2.1, zr.2.2.2.2.2.2.2.2.2.2.2.2.1, zr.2.2.2.2.2.2.2.2.2.2.2.2.2.1, zr.2.2.2.2.2.2.2.2.2.2.2.2.2.2.1, zr.2.2.2.2.2.2.2.2.2.2.2.2.2.2.2.1, zr.2.2.2.2.2.2.2.2.2.2.2.2.2.2.2.2.1, zr.2.2.2.2.2.2.2.2.2.2.2.2.2.2.2.2.2.1, zr.2.2.2.2.2.2.2.2.2.2.2.2.2.2.2.2.2.2.1, zr.2.2.2.2.2.2.2.2.2.2.2.2.2.2.2.2.2.2.2.1, zr.2.2.2.2.2.2.2.2.2.2.2.2.2.2.2.2.2.2.2.2.1, zr.2.2.2.2.2.2.2.2.2.2.2.2.2.2.2.2.2.2.2.2.2.1, zr.2.2.2.2.2.2.2.2.2.2.2.2.2.2.2.2.2.2.2.2.2.2.1, zr.2.2.2.2.2.2.2.2.2.2.2.2.2.2.2.2.2.2.2.2.2.2.2.1, zr.2.2.2.2.2.2.2.2.2.2.2.2.2.2.2.2.2.2.2.2.2.2.2.2.1, zr.2.2.2.2.2.2.2.2.2.2.2.2.2.2.2.2.2.2.2.2.2.2.2.2.2, out') ∧ out' (0 : Int32).toNatClampNeg = x.toInt64 ∧ nc = zr.1 + zw.1 + za.1 ∧ ns = zr.2.1 + zw.2.1 + za.2.1)) := by
  have L := lits
  have l64 : (64 : Int32).toInt = 64 := by decide
  have l1024 : (1024 : Int32).toInt = 1024 := by decide
  have g3 := hG.1
  simp only [f_Law_band]
  refine ok_bm (Q := fun u6 => (¬ (∃ W H : Nat, p0.toInt = W ∧ W < 65 ∧ p1.toInt = H ∧ H < 65 ∧ bbase w h m + W * H ≤ 1024) ∧ u6 = (1, 6, 1, 0, cn, nodes, bF, leN, leF, abN, abF, WwN, WwF, WaN, WaF, WnN, WnF, WfN, WfF, WpN, WpF, WtN, WtF, WiN, Wi, WiL, Wil, WiK, Wik, WoN, Wo, WoL, Wol, WoK, Wok, RwN, RwF, RaN, RaF, RnN, RnF, RfN, RfF, RpN, RpF, RtN, RtF, RiN, Ri, RiL, Ril, RiK, Rik, RoN, Ro, RoL, Rol, RoK, Rok)) ∨ ((∃ W H : Nat, p0.toInt = W ∧ W < 65 ∧ p1.toInt = H ∧ H < 65 ∧ bbase w h m + W * H ≤ 1024) ∧ (m = 3 ∨ 0 < wly.toInt ∨ 0 < rly.toInt ∨ ¬ ov.toInt = 0) ∧ u6 = (1, 6, 2, 0, cn, nodes, bF, leN, leF, abN, abF, WwN, WwF, WaN, WaF, WnN, WnF, WfN, WfF, WpN, WpF, WtN, WtF, WiN, Wi, WiL, Wil, WiK, Wik, WoN, Wo, WoL, Wol, WoK, Wok, RwN, RwF, RaN, RaF, RnN, RnF, RfN, RfF, RpN, RpF, RtN, RtF, RiN, Ri, RiL, Ril, RiK, Rik, RoN, Ro, RoL, Rol, RoK, Rok)) ∨ (∃ (W H : Nat) (x : Int32) (za : Nat × Nat × Int32 × Int32 × (Nat → Int32) × Nat × (Nat → Int32) × Nat × (Nat → Int32)) (zw zr : Nat × Nat × Nat × (Nat → Int32) × Nat × (Nat → Int32) × Nat × (Nat → Int32) × Nat × (Nat → Int32) × Nat × (Nat → Int32) × Nat × (Nat → Int32) × Nat × (Nat → Int32) × Nat × (Nat → Int32) × Nat × (Nat → Int32) × Nat × (Nat → Int32) × Nat × (Nat → Int32) × Nat × (Nat → Int32)), (p0.toInt = W ∧ W < 65 ∧ p1.toInt = H ∧ H < 65 ∧ bbase w h m + W * H ≤ 1024) ∧ ¬ (m = 3 ∨ 0 < wly.toInt ∨ 0 < rly.toInt ∨ ¬ ov.toInt = 0) ∧ x.toInt = m ∧ (Geo (m + 1) (ext w m W) (ext h m H) ∧ GA (m + 1) (ext w m W) (ext h m H) za.2.2.2.2.2.2.2.2 ∧ GL (m + 1) (ext w m W) (ext h m H) za.2.2.2.2.2.2.1 ∧ za.2.2.1.toInt = (m : Int) + 1 ∧ za.2.2.2.1.toInt = nbase (ext w m W) (ext h m H) (m + 1) ∧ (∀ j, j ≤ m + 1 → (za.2.2.2.2.1 j).toInt = bbase (ext w m W) (ext h m H) j) ∧ (bbase (ext w m W) (ext h m H) (m + 1) ≤ za.2.2.2.2.2.1 ∧ 16 ≤ za.2.2.2.2.2.1 ∧ za.2.2.2.2.2.1 ≤ 2048 ∧ nbase (ext w m W) (ext h m H) (m + 1) ≤ za.2.2.2.2.2.2.2.1 ∧ 16 ≤ za.2.2.2.2.2.2.2.1 ∧ za.2.2.2.2.2.2.2.1 ≤ 4096) ∧ 16 * za.1 + (leN + abN) ≤ za.2.2.2.2.2.1 + za.2.2.2.2.2.2.2.1 ∧ za.2.1 + 2 * (leN + abN) ≤ 2 * (za.2.2.2.2.2.1 + za.2.2.2.2.2.2.2.1)) ∧ QWE (bbase (ext w m W) (ext h m H) (m + 1)) (nbase (ext w m W) (ext h m H) (m + 1)) (bbase w h m) (nbase w h m) WwN WaN WnN WfN WpN WtN WwF WaF WnF WfF WpF WtF WiN WiL WiK WoN WoL WoK Wi Wil Wik Wo Wol Wok zw ∧ QWE (bbase (ext w m W) (ext h m H) (m + 1)) (nbase (ext w m W) (ext h m H) (m + 1)) (bbase w h m) (nbase w h m) RwN RaN RnN RfN RpN RtN RwF RaF RnF RfF RpF RtF RiN RiL RiK RoN RoL RoK Ri Ril Rik Ro Rol Rok zr ∧ ∃ (nc ns : Nat), u6 = (nc, ns, 0, x, za.2.2.1, za.2.2.2.1, za.2.2.2.2.1, za.2.2.2.2.2.1, za.2.2.2.2.2.2.1, za.2.2.2.2.2.2.2.1, za.2.2.2.2.2.2.2.2, zw.2.2.1, zw.2.2.2.1, zw.2.2.2.2.1, zw.2.2.2.2.2.1, zw.2.2.2.2.2.2.1, zw.2.2.2.2.2.2.2.1, zw.2.2.2.2.2.2.2.2.1, zw.2.2.2.2.2.2.2.2.2.1, zw.2.2.2.2.2.2.2.2.2.2.1, zw.2.2.2.2.2.2.2.2.2.2.2.1, zw.2.2.2.2.2.2.2.2.2.2.2.2.1, zw.2.2.2.2.2.2.2.2.2.2.2.2.2.1, zw.2.2.2.2.2.2.2.2.2.2.2.2.2.2.1, zw.2.2.2.2.2.2.2.2.2.2.2.2.2.2.2.1, zw.2.2.2.2.2.2.2.2.2.2.2.2.2.2.2.2.1, zw.2.2.2.2.2.2.2.2.2.2.2.2.2.2.2.2.2.1, zw.2.2.2.2.2.2.2.2.2.2.2.2.2.2.2.2.2.2.1, zw.2.2.2.2.2.2.2.2.2.2.2.2.2.2.2.2.2.2.2.1, zw.2.2.2.2.2.2.2.2.2.2.2.2.2.2.2.2.2.2.2.2.1, zw.2.2.2.2.2.2.2.2.2.2.2.2.2.2.2.2.2.2.2.2.2.1, zw.2.2.2.2.2.2.2.2.2.2.2.2.2.2.2.2.2.2.2.2.2.2.1, zw.2.2.2.2.2.2.2.2.2.2.2.2.2.2.2.2.2.2.2.2.2.2.2.1, zw.2.2.2.2.2.2.2.2.2.2.2.2.2.2.2.2.2.2.2.2.2.2.2.2.1, zw.2.2.2.2.2.2.2.2.2.2.2.2.2.2.2.2.2.2.2.2.2.2.2.2.2, zr.2.2.1, zr.2.2.2.1, zr.2.2.2.2.1, zr.2.2.2.2.2.1, zr.2.2.2.2.2.2.1, zr.2.2.2.2.2.2.2.1, zr.2.2.2.2.2.2.2.2.1, zr.2.2.2.2.2.2.2.2.2.1, zr.2.2.2.2.2.2.2.2.2.2.1, zr.2.2.2.2.2.2.2.2.2.2.2.1, zr.2.2.2.2.2.2.2.2.2.2.2.2.1, zr.2.2.2.2.2.2.2.2.2.2.2.2.2.1, zr.2.2.2.2.2.2.2.2.2.2.2.2.2.2.1, zr.2.2.2.2.2.2.2.2.2.2.2.2.2.2.2.1, zr.2.2.2.2.2.2.2.2.2.2.2.2.2.2.2.2.1, zr.2.2.2.2.2.2.2.2.2.2.2.2.2.2.2.2.2.1, zr.2.2.2.2.2.2.2.2.2.2.2.2.2.2.2.2.2.2.1, zr.2.2.2.2.2.2.2.2.2.2.2.2.2.2.2.2.2.2.2.1, zr.2.2.2.2.2.2.2.2.2.2.2.2.2.2.2.2.2.2.2.2.1, zr.2.2.2.2.2.2.2.2.2.2.2.2.2.2.2.2.2.2.2.2.2.1, zr.2.2.2.2.2.2.2.2.2.2.2.2.2.2.2.2.2.2.2.2.2.2.1, zr.2.2.2.2.2.2.2.2.2.2.2.2.2.2.2.2.2.2.2.2.2.2.2.1, zr.2.2.2.2.2.2.2.2.2.2.2.2.2.2.2.2.2.2.2.2.2.2.2.2.1, zr.2.2.2.2.2.2.2.2.2.2.2.2.2.2.2.2.2.2.2.2.2.2.2.2.2) ∧ nc = zr.1 + zw.1 + za.1 ∧ ns = zr.2.1 + zw.2.1 + za.2.1)) ?_ (fun u6 e6 => ok_c ?_)
  · simp only [f_PH_band, g_PH_band_20, g_PH_band_95]
    refine ok_lt (fun c => ok_s (Or.inl ⟨fun ⟨W, H, h1, h2, h3, h4, h5⟩ => by omega, rfl⟩)) (fun c0 => ?_)
    refine ok_lt (fun c => ok_s (Or.inl ⟨fun ⟨W, H, h1, h2, h3, h4, h5⟩ => by omega, rfl⟩)) (fun c1 => ?_)
    refine ok_lt (fun c => ok_s (Or.inl ⟨fun ⟨W, H, h1, h2, h3, h4, h5⟩ => by omega, rfl⟩)) (fun c2 => ?_)
    refine ok_le (fun c3 => ?_) (fun c => ok_s (Or.inl ⟨fun ⟨W, H, h1, h2, h3, h4, h5⟩ => by omega, rfl⟩))
    refine ok_bm (w_blocks (m := m) (nb := bbase w h m) ⟨hm, by omega⟩ (hb m (Nat.le_refl _))) (fun u41 e41 => ?_)
    obtain ⟨W, eW⟩ : ∃ W : Nat, p0.toInt = W := ⟨p0.toInt.toNat, by omega⟩
    obtain ⟨H, eH⟩ : ∃ H : Nat, p1.toInt = H := ⟨p1.toInt.toNat, by omega⟩
    have hmul : p0.toInt * p1.toInt = ((W * H : Nat) : Int) := by rw [eW, eH, Int.natCast_mul]
    have hWH : W * H ≤ 64 * 64 := Nat.mul_le_mul (by omega) (by omega)
    have hbm := hG.2.2
    refine ok_mul (by omega) (fun x42 e42 => ?_)
    refine ok_add (by omega) (fun x43 e43 => ?_)
    refine ok_le (fun c4 => ?_) (fun c => ok_s (Or.inl ⟨fun ⟨W', H', h1, h2, h3, h4, h5⟩ => ?_, rfl⟩))
    rotate_left
    · have e1 : W' = W := by omega
      have e2 : H' = H := by omega
      subst e1 e2
      omega
    have hok : ∃ W H : Nat, p0.toInt = W ∧ W < 65 ∧ p1.toInt = H ∧ H < 65 ∧ bbase w h m + W * H ≤ 1024 := ⟨W, H, eW, by omega, eH, by omega, by omega⟩
    refine ok_le (fun c => ok_s (Or.inr (Or.inl ⟨hok, Or.inl (by omega), rfl⟩))) (fun c5 => ?_)
    refine ok_lt (fun c => ok_s (Or.inr (Or.inl ⟨hok, Or.inr (Or.inl (by omega)), rfl⟩))) (fun c6 => ?_)
    refine ok_lt (fun c => ok_s (Or.inr (Or.inl ⟨hok, Or.inr (Or.inr (Or.inl (by omega))), rfl⟩))) (fun c7 => ?_)
    refine ok_eq (fun c8 => ?_) (fun c => ok_s (Or.inr (Or.inl ⟨hok, Or.inr (Or.inr (Or.inr (by omega))), rfl⟩)))
    refine ok_bm (w_blocks (m := m) (nb := bbase w h m) ⟨hm, by omega⟩ (hb m (Nat.le_refl _))) (fun u44 e44 => ?_)
    refine ok_bm (w_add (W := W) (H := H) hF hG hA hL ⟨hm, by omega⟩ hb hn hs ⟨eW, by omega, eH, by omega, by omega⟩) (fun za e45 => ok_c ?_)
    have e45' := e45
    obtain ⟨k1, k2, k3, k4, k5, k6, k7, k8, k9⟩ := e45
    have kmax := k1.max
    have kb := k1.2.2
    have kbb : bbase (ext w m W) (ext h m H) (m + 1) = bbase w h m + W * H := by rw [bbase_s, bbase_ext m (by omega), ext_is, ext_is]
    have knn : nbase (ext w m W) (ext h m H) (m + 1) = nbase w h m + allOf W H := by rw [nbase_s, nbase_ext m (by omega), ext_is, ext_is]
    refine ok_bm (w_welcome (m := m + 1) (nb := bbase (ext w m W) (ext h m H) (m + 1)) (nn := nbase (ext w m W) (ext h m H) (m + 1)) (b0 := bbase w h m) (f0 := nbase w h m) hF ⟨by omega, by omega⟩ (k6 (m + 1) (Nat.le_refl _)) ⟨k5, by omega⟩ ⟨e44, by omega, hn, by omega⟩ ⟨hW.1, hW.2.1, hW.2.2.1, hW.2.2.2.1, hW.2.2.2.2.1, hW.2.2.2.2.2, by omega⟩ hW2 hW3 hW4) (fun zw e50 => ok_c ?_)
    refine ok_bm (w_welcome (m := m + 1) (nb := bbase (ext w m W) (ext h m H) (m + 1)) (nn := nbase (ext w m W) (ext h m H) (m + 1)) (b0 := bbase w h m) (f0 := nbase w h m) hF ⟨by omega, by omega⟩ (k6 (m + 1) (Nat.le_refl _)) ⟨k5, by omega⟩ ⟨e44, by omega, hn, by omega⟩ ⟨hR.1, hR.2.1, hR.2.2.1, hR.2.2.2.1, hR.2.2.2.2.1, hR.2.2.2.2.2, by omega⟩ hR2 hR3 hR4) (fun zr e65 => ok_c ?_)
    refine ok_sub (by omega) (fun x80 e80 => ok_s (Or.inr (Or.inr ⟨W, H, x80, za, zw, zr, ⟨eW, by omega, eH, by omega, by omega⟩, by omega, by omega, e45', e50, e65, _, _, rfl, ?_, ?_⟩)))
    · (try dsimp only)
      omega
    · (try dsimp only)
      omega
  · rcases e6 with ⟨z1, z2⟩ | ⟨z1, z2, z3⟩ | ⟨W, H, x, za, zw, zr, a1, a2, a3, a4, a5, a6, nc, ns, a7, a8, a9⟩
    · subst z2
      exact ok_neq (fun c => by simp at c) (fun _ => ok_neq (fun _ => ok_s (Or.inl ⟨z1, rfl⟩)) (fun c => absurd rfl c))
    · subst z3
      exact ok_neq (fun c => by simp at c) (fun _ => ok_neq (fun c => by simp at c) (fun _ => ok_neq (fun _ => ok_s (Or.inr (Or.inl ⟨z1, z2, rfl⟩))) (fun c => absurd rfl c)))
    · subst a7
      refine ok_neq (fun _ => ?_) (fun c => absurd rfl c)
      refine ok_v (ok_in (by omega) (ok_s (Or.inr (Or.inr ⟨W, H, x, za, zw, zr, a1, a2, a3, a4, a5, a6, 0 + nc, 0 + ns, _, rfl, out_is out _, by omega, by omega⟩))))
theorem m_band {F m : Nat} {w h : Nat → Nat} {th bds ov wly rly p0 p1 : Int32} {beF lyF wiF hiF : Nat → Int32} (hG : Geo m w h) (hm : bds.toInt = m) (hb : ∀ j, j ≤ m → (beF j).toInt = bbase w h j) (hly : lyF 0 = wly ∧ lyF 1 = rly) (hl : 0 ≤ wly.toInt ∧ wly.toInt ≤ 255 ∧ 0 ≤ rly.toInt ∧ rly.toInt ≤ 255) :
    Ok (f_Mo_band F th bds ov 4 beF 2 lyF 3 wiF 3 hiF p0 p1) (fun v => (¬ (∃ W H : Nat, p0.toInt = W ∧ W < 65 ∧ p1.toInt = H ∧ H < 65 ∧ bbase w h m + W * H ≤ 1024) ∧ v = (0, 1, bds, beF, wiF, hiF)) ∨ ((∃ W H : Nat, p0.toInt = W ∧ W < 65 ∧ p1.toInt = H ∧ H < 65 ∧ bbase w h m + W * H ≤ 1024) ∧ (m = 3 ∨ 0 < wly.toInt ∨ 0 < rly.toInt ∨ ¬ ov.toInt = 0) ∧ v = (0, 2, bds, beF, wiF, hiF)) ∨ (∃ (W H : Nat) (x : Int32), (p0.toInt = W ∧ W < 65 ∧ p1.toInt = H ∧ H < 65 ∧ bbase w h m + W * H ≤ 1024) ∧ ¬ (m = 3 ∨ 0 < wly.toInt ∨ 0 < rly.toInt ∨ ¬ ov.toInt = 0) ∧ v.1.toInt = m ∧ v.2.1 = 0 ∧ v.2.2.1.toInt = (m : Int) + 1 ∧ x.toInt = ((bbase w h m + W * H : Nat) : Int) ∧ v.2.2.2.1 = upd beF (m + 1) x ∧ v.2.2.2.2.1 = upd wiF m p0 ∧ v.2.2.2.2.2 = upd hiF m p1)) := by
  have L := lits
  have l64 : (64 : Int32).toInt = 64 := by decide
  have l1024 : (1024 : Int32).toInt = 1024 := by decide
  have g3 := hG.1
  have hbm := hG.2.2
  have ebd : bds.toInt.toNat = m := by omega
  have thr : ∀ s1 s0 k : Int32, ((¬ s1.toInt = 0 ∧ k = 1) ∨ (s1.toInt = 0 ∧ ¬ s0.toInt = 0 ∧ k = 2)) → Ok (g_Mo_band_87 F 4 3 3 th bds beF wiF hiF p0 p1 s0 s1) (fun v => v = (0, k, bds, beF, wiF, hiF)) := by
    intro s1 s0 k hk
    simp only [g_Mo_band_87]
    refine ok_bm w_Mo_throwing (fun u16 e16 => ?_)
    refine ok_eq (fun d => by omega) (fun _ => ok_s ?_)
    rcases hk with ⟨z1, z2⟩ | ⟨z1, z2, z3⟩
    · rw [z2, show u16.2 = 1 from ti_ofI (by omega)]
    · rw [z3, show u16.2 = 2 from ti_ofI (by omega)]
  have bad : Ok (g_Mo_band_44 F ov 4 2 lyF 3 3 th bds beF wiF hiF p0 p1 1) (fun v => v = (0, 1, bds, beF, wiF, hiF)) := by
    simp only [g_Mo_band_44, g_Mo_band_86]
    exact ok_eq (fun c => by omega) (fun _ => thr 1 0 1 (Or.inl ⟨by omega, rfl⟩))
  simp only [f_Mo_band, g_Mo_band_39]
  refine ok_bm w_Mo_out (fun u26 e26 => ?_)
  refine ok_eq (fun c0 => ?_) (fun c0 => ok_m bad (fun v hv => Or.inl ⟨fun ⟨W, H, h1, h2, h3, h4, h5⟩ => by omega, hv⟩))
  refine ok_bm w_Mo_out (fun u27 e27 => ?_)
  refine ok_eq (fun c1 => ?_) (fun c1 => ok_m bad (fun v hv => Or.inl ⟨fun ⟨W, H, h1, h2, h3, h4, h5⟩ => by omega, hv⟩))
  obtain ⟨W, eW⟩ : ∃ W : Nat, p0.toInt = W := ⟨p0.toInt.toNat, by omega⟩
  obtain ⟨H, eH⟩ : ∃ H : Nat, p1.toInt = H := ⟨p1.toInt.toNat, by omega⟩
  have hmul : p0.toInt * p1.toInt = ((W * H : Nat) : Int) := by rw [eW, eH, Int.natCast_mul]
  have hWH : W * H ≤ 64 * 64 := Nat.mul_le_mul (by omega) (by omega)
  have hbb := hb m (Nat.le_refl _)
  simp only [clamp_eq, ebd]
  refine ok_mul (by omega) (fun x28 e28 => ?_)
  refine ok_in (by omega) (ok_v ?_)
  refine ok_sub (by omega) (fun x30 e30 => ?_)
  refine ok_le (fun c2 => ?_) (fun c2 => ok_m bad (fun v hv => Or.inl ⟨fun ⟨W', H', h1, h2, h3, h4, h5⟩ => ?_, hv⟩))
  rotate_left
  · have e1 : W' = W := by omega
    have e2 : H' = H := by omega
    subst e1 e2
    omega
  have hok : ∃ W H : Nat, p0.toInt = W ∧ W < 65 ∧ p1.toInt = H ∧ H < 65 ∧ bbase w h m + W * H ≤ 1024 := ⟨W, H, eW, by omega, eH, by omega, by omega⟩
  simp only [g_Mo_band_44, g_Mo_band_82, g_Mo_band_86]
  refine ok_T ?_
  refine ok_eq (fun c3 => ok_m (thr 0 1 2 (Or.inr ⟨L.2.1, by omega, rfl⟩)) (fun v hv => Or.inr (Or.inl ⟨hok, Or.inl (by omega), hv⟩))) (fun c3 => ?_)
  refine ok_in (by omega) (ok_l (fun x23 e23 => ?_))
  have e23' : x23 = wly := by rw [e23]; exact hly.1
  refine ok_in (by omega) (ok_l (fun x24 e24 => ?_))
  have e24' : x24 = rly := by rw [e24]; exact hly.2
  subst e23' e24'
  refine ok_add (by omega) (fun x25 e25 => ?_)
  refine ok_lt (fun c4 => ok_m (thr 0 1 2 (Or.inr ⟨L.2.1, by omega, rfl⟩)) (fun v hv => Or.inr (Or.inl ⟨hok, by omega, hv⟩))) (fun c4 => ?_)
  refine ok_eq (fun c5 => ?_) (fun c5 => ok_m (thr 0 1 2 (Or.inr ⟨L.2.1, by omega, rfl⟩)) (fun v hv => Or.inr (Or.inl ⟨hok, Or.inr (Or.inr (Or.inr (by omega))), hv⟩)))
  simp only [g_Mo_band_87, clamp_eq, ebd]
  refine ok_bm w_Mo_throwing (fun u16 e16 => ?_)
  refine ok_eq (fun _ => ?_) (fun d => by omega)
  refine ok_in (by omega) (ok_in (by omega) ?_)
  refine ok_add (by omega) (fun x17 e17 => ?_)
  refine ok_in (by omega) (ok_v ?_)
  refine ok_mul (by omega) (fun x19 e19 => ?_)
  refine ok_add (by omega) (fun x20 e20 => ?_)
  refine ok_in (by omega) ?_
  refine ok_add (by omega) (fun x21 e21 => ?_)
  refine ok_sub (by omega) (fun x22 e22 => ok_s (Or.inr (Or.inr ⟨W, H, x20, ⟨eW, by omega, eH, by omega, by omega⟩, by omega, by (try dsimp only); omega, ti_ofI (by (try dsimp only); omega), by (try dsimp only); omega, by omega, ?_, rfl, rfl⟩)))
  rw [show x17.toInt.toNat = m + 1 by omega]
