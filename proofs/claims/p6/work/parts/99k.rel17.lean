-- the relation: promise
set_option maxHeartbeats 4000000 in
theorem rel_promise {nn : Nat} {FA : Nat → Int32} {FB : Nat → Int32} {FR : Nat → Int32} {mn : Nat} {MAw : Nat → Int32} {MB : Nat → Int32} {MR : Nat → Int32} {np : Nat} {EP : Nat → Nat} {ST : Nat → Nat} {CL : Nat → Nat} {CB : Nat → Nat} {SI : Nat → Int32} {LK : Nat → Int32} {PH : Nat → Int32} {EN : Nat → Int32} {LE : Nat → Int32} {GR : Nat → Int32} {tm : Int32} {mp : Nat} {ME : Nat → Nat} {MY : Nat → Nat} {MX : Nat → Nat} {MS : Nat → Int32} {MLk : Nat → Int32} {MU : Nat → Int32} {MT : Nat → Int32} {MQ : Nat → Int32} {ML : Nat → Int32} {MH : Nat → Int32} {nq : Nat} {HA : Int32} {HO : Nat → Nat} {LP : Nat → Nat} {LF : Nat → Nat} {PY : Nat → Int32} {PD : Nat → Int32} {HE : Nat → Int32} {KE : Nat → Int32} {TO : Nat → Int32} {LS : Nat → Int32} {LC : Nat → Int32} {LH : Nat → Int32} {mq : Nat} {PA3 : Nat → Nat} {PA7 : Nat → Nat} {PB1 : Nat → Nat} {PB2 : Nat → Nat} {PA1 : Nat → Int32} {PA2 : Nat → Int32} {PA4 : Nat → Int32} {PA5 : Nat → Int32} {PA6 : Nat → Int32} {PB3 : Nat → Int32} {PB4 : Nat → Int32} {PB5 : Nat → Int32} {kl : Nat} {KP : Nat → Nat} {KF : Nat → Nat} {mhw : Int32} {mwn : Nat} {WA1 : Nat → Nat} {WA2 : Nat → Nat} {ti : Nat} {gp : Int32} {lk : Int32} {mtm : Int32} {mgp : Int32} {mlk : Int32} {kl' : Nat} {nq' : Nat} {HA' : Int32} {KP' : Nat → Nat} {KF' : Nat → Nat} {PY' : Nat → Int32} {PD' : Nat → Int32} {HO' : Nat → Nat} {HE' : Nat → Int32} {KE' : Nat → Int32} {TO' : Nat → Int32} {LP' : Nat → Nat} {LF' : Nat → Nat} {LS' : Nat → Int32} {LC' : Nat → Int32} {LH' : Nat → Int32} {SI' : Nat → Int32} {LK' : Nat → Int32} {LE' : Nat → Int32} {GR' : Nat → Int32} {mhw' : Int32} {mwn' : Nat} {mq' : Nat} {WA1' : Nat → Nat} {WA2' : Nat → Nat} {PA1' : Nat → Int32} {PA2' : Nat → Int32} {PA3' : Nat → Nat} {PA4' : Nat → Int32} {PA5' : Nat → Int32} {PA6' : Nat → Int32} {PA7' : Nat → Nat} {PB1' : Nat → Nat} {PB2' : Nat → Nat} {PB3' : Nat → Int32} {PB4' : Nat → Int32} {PB5' : Nat → Int32} {MS' : Nat → Int32} {MLk' : Nat → Int32} {ML' : Nat → Int32} {MH' : Nat → Int32} {i : Int32} {j : Int32} {v : Int32} {r : Int32} {rM : Int32} (h_nn : nn ≤ 7) (h_np : np ≤ 12) (h_nq : nq ≤ 40) (h_kl : kl ≤ 6) (h_HO : ∀ zz, HO zz ≤ 6) (h_LP : ∀ zz, LP zz ≤ 11) (h_LF : ∀ zz, LF zz ≤ 1) (h_EP : ∀ zz, EP zz ≤ 6) (h_CL : ∀ zz, CL zz ≤ 1) (h_KF : ∀ zz, KF zz ≤ 1) (hti : ti ≤ 2560) (hP : relP nn FA FB FR mn MAw MB MR) (hQ : relQ np EP ST CL CB SI LK PH EN LE GR tm mp ME MY MX MS MLk MU MT MQ ML MH) (hL : relL np EP LK nq HA HO LP LF PY PD HE KE TO LS LC LH mq PA3 PA7 PB1 PB2 PA1 PA2 PA4 PA5 PA6 PB3 PB4 PB5) (hW : relW kl KP KF mhw mwn WA1 WA2) (hT : relT ti tm gp lk mtm mgp mlk) (hC0 : (badWay nn i j v ∧ kl' = kl ∧ KP' = KP ∧ KF' = KF ∧ nq' = nq ∧ HA' = HA ∧ PY' = PY ∧ PD' = PD ∧ HO' = HO ∧ HE' = HE ∧ KE' = KE ∧ TO' = TO ∧ LP' = LP ∧ LF' = LF ∧ LS' = LS ∧ LC' = LC ∧ LH' = LH ∧ SI' = SI ∧ LK' = LK ∧ LE' = LE ∧ GR' = GR ∧ r = -2) ∨ (∃ a : Nat, ∃ b : Nat, ¬ badWay nn i j v ∧ i = nI a ∧ j = nI b ∧ a < nn ∧ b < nn ∧ ¬ a = b ∧ (¬ FA a = 0 ∨ ∃ c1 P1, WAll EP PH SI FB FR np a b v 0 (fun _ => 0) np 0 c1 P1) ∧ kl' = kl ∧ KP' = KP ∧ KF' = KF ∧ nq' = nq ∧ HA' = HA ∧ PY' = PY ∧ PD' = PD ∧ HO' = HO ∧ HE' = HE ∧ KE' = KE ∧ TO' = TO ∧ LP' = LP ∧ LF' = LF ∧ LS' = LS ∧ LC' = LC ∧ LH' = LH ∧ SI' = SI ∧ LK' = LK ∧ LE' = LE ∧ GR' = GR ∧ r = -3) ∨ (∃ a : Nat, ∃ b : Nat, ∃ bl1 : Nat, ∃ c1 : Int32, ∃ P1 : Nat → Nat, ∃ F1 : Nat → Nat, ¬ badWay nn i j v ∧ i = nI a ∧ j = nI b ∧ a < nn ∧ b < nn ∧ ¬ a = b ∧ FA a = 0 ∧ ¬ bl1 = 0 ∧ WOK EP PH SI FB FR np a b v bl1 c1 P1 F1 ∧ nq = 40 ∧ kl' = kl ∧ KP' = KP ∧ KF' = KF ∧ nq' = nq ∧ HA' = HA ∧ PY' = PY ∧ PD' = PD ∧ HO' = HO ∧ HE' = HE ∧ KE' = KE ∧ TO' = TO ∧ LP' = LP ∧ LF' = LF ∧ LS' = LS ∧ LC' = LC ∧ LH' = LH ∧ SI' = SI ∧ LK' = LK ∧ LE' = LE ∧ GR' = GR ∧ r = -4) ∨ (∃ rr : Int32, ∃ a : Nat, ∃ b : Nat, ∃ bl1 : Nat, ∃ c1 : Int32, ∃ P1 : Nat → Nat, ∃ F1 : Nat → Nat, ¬ badWay nn i j v ∧ i = nI a ∧ j = nI b ∧ a < nn ∧ b < nn ∧ ¬ a = b ∧ FA a = 0 ∧ ¬ bl1 = 0 ∧ bl1 ≤ 6 ∧ (∀ zz, P1 zz ≤ 11) ∧ (∀ zz, F1 zz ≤ 1) ∧ WOK EP PH SI FB FR np a b v bl1 c1 P1 F1 ∧ WAll EP PH SI FB FR np a b v 0 (fun _ => 0) np bl1 c1 P1 ∧ nq < 40 ∧ rr = nI nq ∧ kl' = bl1 ∧ KP' = cpN bl1 P1 KP ∧ KF' = cpN bl1 F1 KF ∧ nq' = nq + 1 ∧ HA' = HA + nI bl1 ∧ PY' = upd PY nq i ∧ PD' = upd PD nq v ∧ HO' = upN HO nq bl1 ∧ HE' = upd HE nq (nI bl1) ∧ KE' = upd KE nq 0 ∧ TO' = upd TO nq 0 ∧ (SI', LK', LE', GR') = lkI EP FB FR (lkB bl1 KP' KF') v (SI, LK, LE, GR) bl1 ∧ lkL EP FB FR nq bl1 KP' KF' v tm gp 0 LP' LF' LS' LC' LH' ∧ lkO nq LP LF LS LC LH LP' LF' LS' LC' LH' ∧ r = rr)) (hM0 : (badWay mn i j v ∧ mhw' = mhw ∧ mwn' = mwn ∧ WA1' = WA1 ∧ WA2' = WA2 ∧ mq' = mq ∧ PA1' = PA1 ∧ PA2' = PA2 ∧ PA3' = PA3 ∧ PA4' = PA4 ∧ PA5' = PA5 ∧ PA6' = PA6 ∧ PA7' = PA7 ∧ PB1' = PB1 ∧ PB2' = PB2 ∧ PB3' = PB3 ∧ PB4' = PB4 ∧ PB5' = PB5 ∧ MS' = MS ∧ MLk' = MLk ∧ ML' = ML ∧ MH' = MH ∧ rM = -2) ∨ (∃ a : Nat, ∃ b : Nat, ¬ badWay mn i j v ∧ i = nI a ∧ j = nI b ∧ a < mn ∧ b < mn ∧ ¬ a = b ∧ (¬ MAw a = 0 ∨ WAll ME MU MS MB MR mp a b v 0 (fun _ => 0) mp 0 0 (fun _ => 0)) ∧ mhw' = mhw ∧ mwn' = mwn ∧ WA1' = WA1 ∧ WA2' = WA2 ∧ mq' = mq ∧ PA1' = PA1 ∧ PA2' = PA2 ∧ PA3' = PA3 ∧ PA4' = PA4 ∧ PA5' = PA5 ∧ PA6' = PA6 ∧ PA7' = PA7 ∧ PB1' = PB1 ∧ PB2' = PB2 ∧ PB3' = PB3 ∧ PB4' = PB4 ∧ PB5' = PB5 ∧ MS' = MS ∧ MLk' = MLk ∧ ML' = ML ∧ MH' = MH ∧ rM = -3) ∨ (∃ a : Nat, ∃ b : Nat, ∃ bl1 : Nat, ∃ c1 : Int32, ∃ P1 : Nat → Nat, ∃ F1 : Nat → Nat, ¬ badWay mn i j v ∧ i = nI a ∧ j = nI b ∧ a < mn ∧ b < mn ∧ ¬ a = b ∧ MAw a = 0 ∧ ¬ bl1 = 0 ∧ WOK ME MU MS MB MR mp a b v bl1 c1 P1 F1 ∧ mq = 40 ∧ mhw' = mhw ∧ mwn' = mwn ∧ WA1' = WA1 ∧ WA2' = WA2 ∧ mq' = mq ∧ PA1' = PA1 ∧ PA2' = PA2 ∧ PA3' = PA3 ∧ PA4' = PA4 ∧ PA5' = PA5 ∧ PA6' = PA6 ∧ PA7' = PA7 ∧ PB1' = PB1 ∧ PB2' = PB2 ∧ PB3' = PB3 ∧ PB4' = PB4 ∧ PB5' = PB5 ∧ MS' = MS ∧ MLk' = MLk ∧ ML' = ML ∧ MH' = MH ∧ rM = -4) ∨ (∃ rr : Int32, ∃ a : Nat, ∃ b : Nat, ∃ bl1 : Nat, ∃ c1 : Int32, ∃ P1 : Nat → Nat, ∃ F1 : Nat → Nat, ∃ C1 : Nat → Int32, ¬ badWay mn i j v ∧ i = nI a ∧ j = nI b ∧ a < mn ∧ b < mn ∧ ¬ a = b ∧ MAw a = 0 ∧ ¬ bl1 = 0 ∧ bl1 ≤ 6 ∧ (∀ zz, F1 zz ≤ 1) ∧ WOK ME MU MS MB MR mp a b v bl1 c1 P1 F1 ∧ WAll ME MU MS MB MR mp a b v 0 (fun _ => 0) mp bl1 c1 P1 ∧ (∀ zz, zz < bl1 → C1 zz = cwf ME MB MR (lkB bl1 P1 F1) v (bl1 - 1 - zz)) ∧ mq < 40 ∧ rr = nI mq ∧ mwn' = bl1 ∧ WA1' = cpN bl1 P1 WA1 ∧ WA2' = cpN bl1 F1 WA2 ∧ mhw' = 1 ∧ mq' = mq + 1 ∧ PA2' = upd PA2 mq i ∧ PA1' = upd PA1 mq v ∧ PA3' = upN PA3 mq bl1 ∧ PA4' = upd PA4 mq 0 ∧ PA5' = upd PA5 mq 0 ∧ PA6' = upd PA6 mq 0 ∧ PA7' = upN PA7 mq 0 ∧ (MS', MLk', ML', MH') = mlI P1 F1 C1 (MS, MLk, ML, MH) bl1 ∧ mlL mq bl1 P1 F1 C1 mtm mgp bl1 PB1' PB2' PB3' PB4' PB5' ∧ mlO mq PB1 PB2 PB3 PB4 PB5 PB1' PB2' PB3' PB4' PB5' ∧ rM = rr)) : r = rM ∧ relQ np EP ST CL CB SI' LK' PH EN LE' GR' tm mp ME MY MX MS' MLk' MU MT MQ ML' MH' ∧ relL np EP LK' nq' HA' HO' LP' LF' PY' PD' HE' KE' TO' LS' LC' LH' mq' PA3' PA7' PB1' PB2' PA1' PA2' PA4' PA5' PA6' PB3' PB4' PB5' ∧ relW kl' KP' KF' mhw' mwn' WA1' WA2' := by
  have hP0 := hP
  have hQ0 := hQ
  have hL0 := hL
  have hW0 := hW
  have hT0 := hT
  obtain ⟨rfl, rfl, rfl, rfl, p1, p2⟩ := hP
  obtain ⟨⟨rfl, rfl, rfl, rfl, rfl, rfl, rfl, rfl, rfl⟩, q1, q2, q3, q4, q5⟩ := hQ
  obtain ⟨⟨rfl, rfl, rfl, rfl, rfl, rfl⟩, l1, l2, l3, l4, l5, l6, l7⟩ := hL
  obtain ⟨rfl, rfl, rfl, w1⟩ := hW
  obtain ⟨rfl, rfl, rfl, t1, t2, t3, t4⟩ := hT
  rcases hC0 with ⟨c_h0, e_kl, e_KP, e_KF, e_nq, e_HA, e_PY, e_PD, e_HO, e_HE, e_KE, e_TO, e_LP, e_LF, e_LS, e_LC, e_LH, e_SI, e_LK, e_LE, e_GR, rfl⟩ | ⟨c_a, c_b, c_h0, c_ea, c_eb, c_ha, c_hb, c_hab, c_h1, e_kl, e_KP, e_KF, e_nq, e_HA, e_PY, e_PD, e_HO, e_HE, e_KE, e_TO, e_LP, e_LF, e_LS, e_LC, e_LH, e_SI, e_LK, e_LE, e_GR, rfl⟩ | ⟨c_a, c_b, c_bl1, c_c1, c_P1, c_F1, c_h0, c_ea, c_eb, c_ha, c_hb, c_hab, c_h1, c_e0, c_fo, c_h2, e_kl, e_KP, e_KF, e_nq, e_HA, e_PY, e_PD, e_HO, e_HE, e_KE, e_TO, e_LP, e_LF, e_LS, e_LC, e_LH, e_SI, e_LK, e_LE, e_GR, rfl⟩ | ⟨c_rr, c_a, c_b, c_bl1, c_c1, c_P1, c_F1, c_h0, c_ea, c_eb, c_ha, c_hb, c_hab, c_h1, c_e0, c_hb6, c_hP, c_hF, c_fo, c_fa, c_h2, rfl, rfl, rfl, rfl, rfl, rfl, rfl, rfl, rfl, rfl, rfl, rfl, c_lk, c_ll, c_lo, rfl⟩
  · subst kl' KP' KF' nq' HA' PY' PD' HO' HE' KE' TO' LP' LF' LS' LC' LH' SI' LK' LE' GR'
    rcases hM0 with ⟨m_h0, e_mhw, e_mwn, e_WA1, e_WA2, e_mq, e_PA1, e_PA2, e_PA3, e_PA4, e_PA5, e_PA6, e_PA7, e_PB1, e_PB2, e_PB3, e_PB4, e_PB5, e_MS, e_MLk, e_ML, e_MH, rfl⟩ | ⟨m_a, m_b, m_h0, m_ea, m_eb, m_ha, m_hb, m_hab, m_h1, e_mhw, e_mwn, e_WA1, e_WA2, e_mq, e_PA1, e_PA2, e_PA3, e_PA4, e_PA5, e_PA6, e_PA7, e_PB1, e_PB2, e_PB3, e_PB4, e_PB5, e_MS, e_MLk, e_ML, e_MH, rfl⟩ | ⟨m_a, m_b, m_bl1, m_c1, m_P1, m_F1, m_h0, m_ea, m_eb, m_ha, m_hb, m_hab, m_h1, m_e0, m_fo, m_h2, e_mhw, e_mwn, e_WA1, e_WA2, e_mq, e_PA1, e_PA2, e_PA3, e_PA4, e_PA5, e_PA6, e_PA7, e_PB1, e_PB2, e_PB3, e_PB4, e_PB5, e_MS, e_MLk, e_ML, e_MH, rfl⟩ | ⟨m_rr, m_a, m_b, m_bl1, m_c1, m_P1, m_F1, m_C1, m_h0, m_ea, m_eb, m_ha, m_hb, m_hab, m_h1, m_e0, m_hb6, m_hF, m_fo, m_fa, m_f3, m_h2, rfl, rfl, rfl, rfl, rfl, rfl, rfl, rfl, rfl, rfl, rfl, rfl, rfl, m_lk, m_ll, m_lo, rfl⟩
    · subst mhw' mwn' WA1' WA2' mq' PA1' PA2' PA3' PA4' PA5' PA6' PA7' PB1' PB2' PB3' PB4' PB5' MS' MLk' ML' MH'
      exact ⟨rfl, hQ0, hL0, hW0⟩
    · subst mhw' mwn' WA1' WA2' mq' PA1' PA2' PA3' PA4' PA5' PA6' PA7' PB1' PB2' PB3' PB4' PB5' MS' MLk' ML' MH'
      exact absurd c_h0 m_h0
    · subst mhw' mwn' WA1' WA2' mq' PA1' PA2' PA3' PA4' PA5' PA6' PA7' PB1' PB2' PB3' PB4' PB5' MS' MLk' ML' MH'
      exact absurd c_h0 m_h0
    · exact absurd c_h0 m_h0
  · subst kl' KP' KF' nq' HA' PY' PD' HO' HE' KE' TO' LP' LF' LS' LC' LH' SI' LK' LE' GR'
    rcases hM0 with ⟨m_h0, e_mhw, e_mwn, e_WA1, e_WA2, e_mq, e_PA1, e_PA2, e_PA3, e_PA4, e_PA5, e_PA6, e_PA7, e_PB1, e_PB2, e_PB3, e_PB4, e_PB5, e_MS, e_MLk, e_ML, e_MH, rfl⟩ | ⟨m_a, m_b, m_h0, m_ea, m_eb, m_ha, m_hb, m_hab, m_h1, e_mhw, e_mwn, e_WA1, e_WA2, e_mq, e_PA1, e_PA2, e_PA3, e_PA4, e_PA5, e_PA6, e_PA7, e_PB1, e_PB2, e_PB3, e_PB4, e_PB5, e_MS, e_MLk, e_ML, e_MH, rfl⟩ | ⟨m_a, m_b, m_bl1, m_c1, m_P1, m_F1, m_h0, m_ea, m_eb, m_ha, m_hb, m_hab, m_h1, m_e0, m_fo, m_h2, e_mhw, e_mwn, e_WA1, e_WA2, e_mq, e_PA1, e_PA2, e_PA3, e_PA4, e_PA5, e_PA6, e_PA7, e_PB1, e_PB2, e_PB3, e_PB4, e_PB5, e_MS, e_MLk, e_ML, e_MH, rfl⟩ | ⟨m_rr, m_a, m_b, m_bl1, m_c1, m_P1, m_F1, m_C1, m_h0, m_ea, m_eb, m_ha, m_hb, m_hab, m_h1, m_e0, m_hb6, m_hF, m_fo, m_fa, m_f3, m_h2, rfl, rfl, rfl, rfl, rfl, rfl, rfl, rfl, rfl, rfl, rfl, rfl, rfl, m_lk, m_ll, m_lo, rfl⟩
    · subst mhw' mwn' WA1' WA2' mq' PA1' PA2' PA3' PA4' PA5' PA6' PA7' PB1' PB2' PB3' PB4' PB5' MS' MLk' ML' MH'
      exact absurd m_h0 c_h0
    · subst mhw' mwn' WA1' WA2' mq' PA1' PA2' PA3' PA4' PA5' PA6' PA7' PB1' PB2' PB3' PB4' PB5' MS' MLk' ML' MH'
      exact ⟨rfl, hQ0, hL0, hW0⟩
    · subst mhw' mwn' WA1' WA2' mq' PA1' PA2' PA3' PA4' PA5' PA6' PA7' PB1' PB2' PB3' PB4' PB5' MS' MLk' ML' MH'
      obtain rfl := n7_eq c_ha m_ha (by omega) c_ea m_ea
      obtain rfl := n7_eq c_hb m_hb (by omega) c_eb m_eb
      rcases c_h1 with h | ⟨c9, P9, h⟩
      · exact absurd m_h1 h
      · exact (way_none m_e0 m_fo h).elim
    · obtain rfl := n7_eq c_ha m_ha (by omega) c_ea m_ea
      obtain rfl := n7_eq c_hb m_hb (by omega) c_eb m_eb
      rcases c_h1 with h | ⟨c9, P9, h⟩
      · exact absurd m_h1 h
      · exact (way_none m_e0 m_fo h).elim
  · subst kl' KP' KF' nq' HA' PY' PD' HO' HE' KE' TO' LP' LF' LS' LC' LH' SI' LK' LE' GR'
    rcases hM0 with ⟨m_h0, e_mhw, e_mwn, e_WA1, e_WA2, e_mq, e_PA1, e_PA2, e_PA3, e_PA4, e_PA5, e_PA6, e_PA7, e_PB1, e_PB2, e_PB3, e_PB4, e_PB5, e_MS, e_MLk, e_ML, e_MH, rfl⟩ | ⟨m_a, m_b, m_h0, m_ea, m_eb, m_ha, m_hb, m_hab, m_h1, e_mhw, e_mwn, e_WA1, e_WA2, e_mq, e_PA1, e_PA2, e_PA3, e_PA4, e_PA5, e_PA6, e_PA7, e_PB1, e_PB2, e_PB3, e_PB4, e_PB5, e_MS, e_MLk, e_ML, e_MH, rfl⟩ | ⟨m_a, m_b, m_bl1, m_c1, m_P1, m_F1, m_h0, m_ea, m_eb, m_ha, m_hb, m_hab, m_h1, m_e0, m_fo, m_h2, e_mhw, e_mwn, e_WA1, e_WA2, e_mq, e_PA1, e_PA2, e_PA3, e_PA4, e_PA5, e_PA6, e_PA7, e_PB1, e_PB2, e_PB3, e_PB4, e_PB5, e_MS, e_MLk, e_ML, e_MH, rfl⟩ | ⟨m_rr, m_a, m_b, m_bl1, m_c1, m_P1, m_F1, m_C1, m_h0, m_ea, m_eb, m_ha, m_hb, m_hab, m_h1, m_e0, m_hb6, m_hF, m_fo, m_fa, m_f3, m_h2, rfl, rfl, rfl, rfl, rfl, rfl, rfl, rfl, rfl, rfl, rfl, rfl, rfl, m_lk, m_ll, m_lo, rfl⟩
    · subst mhw' mwn' WA1' WA2' mq' PA1' PA2' PA3' PA4' PA5' PA6' PA7' PB1' PB2' PB3' PB4' PB5' MS' MLk' ML' MH'
      exact absurd m_h0 c_h0
    · subst mhw' mwn' WA1' WA2' mq' PA1' PA2' PA3' PA4' PA5' PA6' PA7' PB1' PB2' PB3' PB4' PB5' MS' MLk' ML' MH'
      obtain rfl := n7_eq c_ha m_ha (by omega) c_ea m_ea
      obtain rfl := n7_eq c_hb m_hb (by omega) c_eb m_eb
      rcases m_h1 with h | h
      · exact absurd c_h1 h
      · exact (way_none c_e0 c_fo h).elim
    · subst mhw' mwn' WA1' WA2' mq' PA1' PA2' PA3' PA4' PA5' PA6' PA7' PB1' PB2' PB3' PB4' PB5' MS' MLk' ML' MH'
      exact ⟨rfl, hQ0, hL0, hW0⟩
    · omega
  · rcases hM0 with ⟨m_h0, e_mhw, e_mwn, e_WA1, e_WA2, e_mq, e_PA1, e_PA2, e_PA3, e_PA4, e_PA5, e_PA6, e_PA7, e_PB1, e_PB2, e_PB3, e_PB4, e_PB5, e_MS, e_MLk, e_ML, e_MH, rfl⟩ | ⟨m_a, m_b, m_h0, m_ea, m_eb, m_ha, m_hb, m_hab, m_h1, e_mhw, e_mwn, e_WA1, e_WA2, e_mq, e_PA1, e_PA2, e_PA3, e_PA4, e_PA5, e_PA6, e_PA7, e_PB1, e_PB2, e_PB3, e_PB4, e_PB5, e_MS, e_MLk, e_ML, e_MH, rfl⟩ | ⟨m_a, m_b, m_bl1, m_c1, m_P1, m_F1, m_h0, m_ea, m_eb, m_ha, m_hb, m_hab, m_h1, m_e0, m_fo, m_h2, e_mhw, e_mwn, e_WA1, e_WA2, e_mq, e_PA1, e_PA2, e_PA3, e_PA4, e_PA5, e_PA6, e_PA7, e_PB1, e_PB2, e_PB3, e_PB4, e_PB5, e_MS, e_MLk, e_ML, e_MH, rfl⟩ | ⟨m_rr, m_a, m_b, m_bl1, m_c1, m_P1, m_F1, m_C1, m_h0, m_ea, m_eb, m_ha, m_hb, m_hab, m_h1, m_e0, m_hb6, m_hF, m_fo, m_fa, m_f3, m_h2, rfl, rfl, rfl, rfl, rfl, rfl, rfl, rfl, rfl, rfl, rfl, rfl, rfl, m_lk, m_ll, m_lo, rfl⟩
    · subst mhw' mwn' WA1' WA2' mq' PA1' PA2' PA3' PA4' PA5' PA6' PA7' PB1' PB2' PB3' PB4' PB5' MS' MLk' ML' MH'
      exact absurd m_h0 c_h0
    · subst mhw' mwn' WA1' WA2' mq' PA1' PA2' PA3' PA4' PA5' PA6' PA7' PB1' PB2' PB3' PB4' PB5' MS' MLk' ML' MH'
      obtain rfl := n7_eq c_ha m_ha (by omega) c_ea m_ea
      obtain rfl := n7_eq c_hb m_hb (by omega) c_eb m_eb
      rcases m_h1 with h | h
      · exact absurd c_h1 h
      · exact (way_none c_e0 c_fo h).elim
    · subst mhw' mwn' WA1' WA2' mq' PA1' PA2' PA3' PA4' PA5' PA6' PA7' PB1' PB2' PB3' PB4' PB5' MS' MLk' ML' MH'
      omega
    · obtain rfl := n7_eq c_ha m_ha (by omega) c_ea m_ea
      obtain rfl := n7_eq c_hb m_hb (by omega) c_eb m_eb
      obtain ⟨e, g⟩ := way_same q2 c_hF m_hF c_fo c_fa m_fo m_fa
      obtain rfl := e
      obtain ⟨g1, g2⟩ := g c_e0
      have hx : ∀ z, z < kl' → cpN kl' c_P1 KP z = c_P1 z ∧ cpN kl' c_F1 KF z = c_F1 z := fun z hz => ⟨by unfold cpN; rw [if_pos hz], by unfold cpN; rw [if_pos hz]⟩
      have hk : ∀ z, z < kl' → cpN kl' c_P1 KP z = m_P1 z ∧ cpN kl' c_F1 KF z = m_F1 z := fun z hz => ⟨(hx z hz).1.trans (g2 z hz).1, (hx z hz).2.trans (g2 z hz).2⟩
      have hw0 := (c_fo c_e0).1
      have hw : isW EP PH SI FB FR np c_a c_b v kl' (lkB kl' (cpN kl' c_P1 KP) (cpN kl' c_F1 KF)) := isW_congr (fun z hz => by
        show 2 * c_P1 (kl' - 1 - z) + c_F1 (kl' - 1 - z) = 2 * cpN kl' c_P1 KP (kl' - 1 - z) + cpN kl' c_F1 KF (kl' - 1 - z)
        rw [(hx _ (by omega)).1, (hx _ (by omega)).2]) hw0
      obtain ⟨hf, hC, hit⟩ := pr_same hw hk m_f3
      obtain ⟨i1, i2⟩ := hit (SI, LK, LE, GR)
      have hF2 : ∀ z, cpN kl' c_F1 KF z ≤ 1 := cpN_le c_hF h_KF
      have ec := c_lk.trans i1
      have hev := ec.trans (i2.symm.trans m_lk.symm)
      have e1 : SI' = MS' := congrArg (fun w : LK4 => w.1) hev
      have e2 : LK' = MLk' := congrArg (fun w : LK4 => w.2.1) hev
      have e3 : LE' = ML' := congrArg (fun w : LK4 => w.2.2.1) hev
      have e4 : GR' = MH' := congrArg (fun w : LK4 => w.2.2.2) hev
      have hpairs := isF_pairs hf
      have hS : ∀ k, 0 ≤ (SI k).toInt ∧ (SI k).toInt ≤ 200000 := SB_S q3
      have hv := bw_v c_h0
      have hCz : ∀ z, z < kl' → 1 ≤ (cwf EP FB FR (lkB kl' (cpN kl' c_P1 KP) (cpN kl' c_F1 KF)) v (kl' - 1 - z)).toInt ∧ (cwf EP FB FR (lkB kl' (cpN kl' c_P1 KP) (cpN kl' c_F1 KF)) v (kl' - 1 - z)).toInt ≤ (SI (2 * cpN kl' c_P1 KP z + cpN kl' c_F1 KF z)).toInt := fun z hz => by
        have a1 := cwf_pos hS p1 p2 hv (kl' - 1 - z) (fun w hw2 => (hw.2.1 w (by omega)).2.2.2)
        have a2 := (hw.2.1 (kl' - 1 - z) (by omega)).2.2.2
        have a3 : lkB kl' (cpN kl' c_P1 KP) (cpN kl' c_F1 KF) (kl' - 1 - z) = 2 * cpN kl' c_P1 KP z + cpN kl' c_F1 KF z := by
          show 2 * cpN kl' c_P1 KP (kl' - 1 - (kl' - 1 - z)) + cpN kl' c_F1 KF (kl' - 1 - (kl' - 1 - z)) = _
          rw [show kl' - 1 - (kl' - 1 - z) = z by omega]
        rw [a3, Int32.lt_iff_toInt_lt] at a2
        exact ⟨a1, by omega⟩
      have hL9 := fun z (hz : z < kl') => c_ll z (Nat.zero_le _) hz
      have hO9 := fun l (hl : l < nq * 6) => c_lo l (Or.inl hl)
      have hI : CI np (nq + 1) (upN HO nq kl') LP' LF' LS' (itS (fun z => 2 * cpN kl' c_P1 KP z + cpN kl' c_F1 KF z) (fun z => cwf EP FB FR (lkB kl' (cpN kl' c_P1 KP) (cpN kl' c_F1 KF)) v (kl' - 1 - z)) (SI, LK, LE, GR) kl').1 (itS (fun z => 2 * cpN kl' c_P1 KP z + cpN kl' c_F1 KF z) (fun z => cwf EP FB FR (lkB kl' (cpN kl' c_P1 KP) (cpN kl' c_F1 KF)) v (kl' - 1 - z)) (SI, LK, LE, GR) kl').2.1 LH' (upd HE nq (nI kl')) (HA + nI kl') := CI_new h_HO ⟨q3, l6, l5⟩ (fun l hl => ⟨(hO9 l hl).1, (hO9 l hl).2.1, (hO9 l hl).2.2.1, (hO9 l hl).2.2.2.2⟩) (fun z hz => ⟨by rw [(hL9 z hz).1, (hL9 z hz).2.1], (hL9 z hz).2.2.1, (hL9 z hz).2.2.2.2⟩) hpairs (fun z hz => ⟨by have := (hCz z hz).1; omega, (hCz z hz).2⟩)
      have f1 : SI' = (itS (fun z => 2 * cpN kl' c_P1 KP z + cpN kl' c_F1 KF z) (fun z => cwf EP FB FR (lkB kl' (cpN kl' c_P1 KP) (cpN kl' c_F1 KF)) v (kl' - 1 - z)) (SI, LK, LE, GR) kl').1 := congrArg (fun w : LK4 => w.1) ec
      have f2 : LK' = (itS (fun z => 2 * cpN kl' c_P1 KP z + cpN kl' c_F1 KF z) (fun z => cwf EP FB FR (lkB kl' (cpN kl' c_P1 KP) (cpN kl' c_F1 KF)) v (kl' - 1 - z)) (SI, LK, LE, GR) kl').2.1 := congrArg (fun w : LK4 => w.2.1) ec
      rw [← f1, ← f2] at hI
      have hM9 := fun z (hz : z < kl') => m_ll z hz
      have hN9 := fun l (hl : l < 8 * nq) => m_lo l (Or.inl hl)
      have r1 : LkS (nq + 1) EP (upN HO nq kl') LP' LF' LS' LC' PB1' PB2' PB3' PB4' := LkS_new l1 h_HO (by omega) c_hb6 h_EP hf hF2 (fun z hz => ⟨(hL9 z hz).1, (hL9 z hz).2.1⟩) (fun l hl => ⟨(hO9 l hl).1, (hO9 l hl).2.1, (hO9 l hl).2.2.1, (hO9 l hl).2.2.2.1⟩) (fun z hz => ⟨by rw [(hM9 z hz).1, (hL9 z hz).1, (hk z hz).1], by rw [(hM9 z hz).2.1, (hL9 z hz).2.1, (hk z hz).2], by rw [(hM9 z hz).2.2.1, (hL9 z hz).2.2.1, hC z hz], by rw [(hM9 z hz).2.2.2.1, (hL9 z hz).2.2.2.1]⟩) (fun l hl => ⟨(hN9 l hl).1, (hN9 l hl).2.1, (hN9 l hl).2.2.1, (hN9 l hl).2.2.2.1⟩)
      have r2 : LkD (nq + 1) EP (upN HO nq kl') LP' LF' (upd TO nq 0) LH' PB5' (upN PA7 nq 0) := LkD_new l2 h_HO c_hb6 (fun l hl => ⟨(hO9 l hl).1, (hO9 l hl).2.1, (hO9 l hl).2.2.2.2⟩) (fun z hz => (hL9 z hz).2.2.2.2) (fun z hz => (hM9 z hz).2.2.2.2) (fun l hl => (hN9 l hl).2.2.2.2)
      have r3 : LPB np (nq + 1) (upN HO nq kl') LP' LF' LS' := LPB_new l3 h_HO (fun l hl => ⟨(hO9 l hl).1, (hO9 l hl).2.1, (hO9 l hl).2.2.1⟩) (fun z hz => by
        have a1 : 2 * cpN kl' c_P1 KP z + cpN kl' c_F1 KF z < 2 * np := (hf.2.1 z hz).1
        have a2 := hF2 z
        rw [(hL9 z hz).1, (hL9 z hz).2.1, (hL9 z hz).2.2.1]
        exact ⟨by omega, a2, (hCz z hz).1⟩)
      have r4 : ∀ q, q < nq + 1 → upd KE nq 0 q + upd PA5 nq 0 q + upd HE nq (nI kl') q = nI (upN HO nq kl' q) := fun q hq => by
        by_cases e : q = nq
        · rw [e, pk_us, pk_us, pk_us, upN_s, Int32.add_zero, Int32.zero_add]
        · rw [pk_un e, pk_un e, pk_un e, upN_n e]
          exact l4 q (by omega)
      exact ⟨rfl, ⟨⟨rfl, rfl, rfl, rfl, e1, e2, rfl, e3, e4⟩, q1, q2, hI.1, q4, q5⟩, ⟨⟨rfl, rfl, rfl, rfl, rfl, rfl⟩, r1, r2, r3, r4, hI.2.2, hI.2.1, upd_nar l7 _ (nar01 (Or.inl rfl))⟩, rfl, cpN_congr (fun z hz => (g2 z hz).1) rfl, cpN_congr (fun z hz => (g2 z hz).2) rfl, fun h => absurd h (by decide), fun h => absurd h c_e0⟩
