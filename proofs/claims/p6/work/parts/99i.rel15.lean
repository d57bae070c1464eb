-- the relation: tick, side, locked, learnt, off, about, close
set_option maxHeartbeats 4000000 in
theorem rel_tick {nn : Nat} {FA : Nat → Int32} {FB : Nat → Int32} {FR : Nat → Int32} {mn : Nat} {MAw : Nat → Int32} {MB : Nat → Int32} {MR : Nat → Int32} {np : Nat} {EP : Nat → Nat} {ST : Nat → Nat} {CL : Nat → Nat} {CB : Nat → Nat} {SI : Nat → Int32} {LK : Nat → Int32} {PH : Nat → Int32} {EN : Nat → Int32} {LE : Nat → Int32} {GR : Nat → Int32} {tm : Int32} {mp : Nat} {ME : Nat → Nat} {MY : Nat → Nat} {MX : Nat → Nat} {MS : Nat → Int32} {MLk : Nat → Int32} {MU : Nat → Int32} {MT : Nat → Int32} {MQ : Nat → Int32} {ML : Nat → Int32} {MH : Nat → Int32} {nq : Nat} {HA : Int32} {HO : Nat → Nat} {LP : Nat → Nat} {LF : Nat → Nat} {PY : Nat → Int32} {PD : Nat → Int32} {HE : Nat → Int32} {KE : Nat → Int32} {TO : Nat → Int32} {LS : Nat → Int32} {LC : Nat → Int32} {LH : Nat → Int32} {mq : Nat} {PA3 : Nat → Nat} {PA7 : Nat → Nat} {PB1 : Nat → Nat} {PB2 : Nat → Nat} {PA1 : Nat → Int32} {PA2 : Nat → Int32} {PA4 : Nat → Int32} {PA5 : Nat → Int32} {PA6 : Nat → Int32} {PB3 : Nat → Int32} {PB4 : Nat → Int32} {PB5 : Nat → Int32} {kl : Nat} {KP : Nat → Nat} {KF : Nat → Nat} {mhw : Int32} {mwn : Nat} {WA1 : Nat → Nat} {WA2 : Nat → Nat} {ti : Nat} {gp : Int32} {lk : Int32} {mtm : Int32} {mgp : Int32} {mlk : Int32} {tm' : Int32} {HA' : Int32} {HE' : Nat → Int32} {KE' : Nat → Int32} {LH' : Nat → Int32} {SI' : Nat → Int32} {LK' : Nat → Int32} {ST' : Nat → Nat} {LE' : Nat → Int32} {GR' : Nat → Int32} {PH' : Nat → Int32} {mtm' : Int32} {PB5' : Nat → Int32} {PA4' : Nat → Int32} {MLk' : Nat → Int32} {MS' : Nat → Int32} {PA7' : Nat → Nat} {MY' : Nat → Nat} {ML' : Nat → Int32} {MH' : Nat → Int32} {PA5' : Nat → Int32} {MU' : Nat → Int32} {MT' : Nat → Int32} {n : Int32} {r : Int32} {rM : Int32} (h_nn : nn ≤ 7) (h_np : np ≤ 12) (h_nq : nq ≤ 40) (h_kl : kl ≤ 6) (h_HO : ∀ zz, HO zz ≤ 6) (h_LP : ∀ zz, LP zz ≤ 11) (h_LF : ∀ zz, LF zz ≤ 1) (h_EP : ∀ zz, EP zz ≤ 6) (h_CL : ∀ zz, CL zz ≤ 1) (h_KF : ∀ zz, KF zz ≤ 1) (hti : ti ≤ 2560) (hP : relP nn FA FB FR mn MAw MB MR) (hQ : relQ np EP ST CL CB SI LK PH EN LE GR tm mp ME MY MX MS MLk MU MT MQ ML MH) (hL : relL np EP LK nq HA HO LP LF PY PD HE KE TO LS LC LH mq PA3 PA7 PB1 PB2 PA1 PA2 PA4 PA5 PA6 PB3 PB4 PB5) (hW : relW kl KP KF mhw mwn WA1 WA2) (hT : relT ti tm gp lk mtm mgp mlk) (hC0 : (isw n 1 60 = 0 ∧ PH' = PH ∧ tm' = tm ∧ SI' = SI ∧ LK' = LK ∧ LE' = LE ∧ GR' = GR ∧ ST' = ST ∧ LH' = LH ∧ HE' = HE ∧ KE' = KE ∧ HA' = HA ∧ r = -2) ∨ (∃ rr : Int32, ∃ N : Nat, ¬ isw n 1 60 = 0 ∧ n = nI N ∧ N ≤ 60 ∧ tm' = tm + nI N ∧ tkI np nq EP HO TO LP LF LS LC FA EN CL CB tm ((SI, LK, LE, GR, ST, LH, HE, KE, HA), PH) N ((SI', LK', LE', GR', ST', LH', HE', KE', HA'), PH') rr ∧ r = rr)) (hM0 : (isw n 1 60 = 0 ∧ MU' = MU ∧ MT' = MT ∧ PA5' = PA5 ∧ mtm' = mtm ∧ MS' = MS ∧ MLk' = MLk ∧ ML' = ML ∧ MH' = MH ∧ MY' = MY ∧ PB5' = PB5 ∧ PA4' = PA4 ∧ PA7' = PA7 ∧ rM = -2) ∨ (∃ rr : Int32, ∃ N : Nat, ¬ isw n 1 60 = 0 ∧ n = nI N ∧ N ≤ 60 ∧ mtm' = mtm + nI N ∧ mtI mp mq ME PA3 PB1 PB2 PB3 PB4 MAw MX MQ mtm ((MS, MLk, ML, MH, MY, PB5, PA4, PA7), PA5, MU, MT) N ((MS', MLk', ML', MH', MY', PB5', PA4', PA7'), PA5', MU', MT') rr ∧ rM = rr)) : r = rM ∧ relQ np EP ST' CL CB SI' LK' PH' EN LE' GR' tm' mp ME MY' MX MS' MLk' MU' MT' MQ ML' MH' ∧ relL np EP LK' nq HA' HO LP LF PY PD HE' KE' TO LS LC LH' mq PA3 PA7' PB1 PB2 PA1 PA2 PA4' PA5' PA6 PB3 PB4 PB5' ∧ relT (ti + 5) tm' gp lk mtm' mgp mlk := by
  have hP0 := hP
  have hQ0 := hQ
  have hL0 := hL
  have hW0 := hW
  have hT0 := hT
  obtain ⟨rfl, rfl, rfl, rfl, p1, p2⟩ := hP
  obtain ⟨⟨rfl, rfl, rfl, rfl, rfl, rfl, rfl, rfl, rfl⟩, q1, q2, q3, q4, q5⟩ := hQ
  obtain ⟨⟨rfl, rfl, rfl, rfl, rfl, rfl⟩, l1, l2, l3, l4, l5, l6, l7⟩ := hL
  obtain ⟨rfl, rfl, rfl, w1⟩ := hW
  obtain ⟨rfl, rfl, rfl, t1, t2, t3, t4⟩ := hT
  rcases hC0 with ⟨c_h0, e_PH, e_tm, e_SI, e_LK, e_LE, e_GR, e_ST, e_LH, e_HE, e_KE, e_HA, rfl⟩ | ⟨c_rr, c_N, c_h1, c_en, c_hN, rfl, c_tk, rfl⟩
  · subst PH' tm' SI' LK' LE' GR' ST' LH' HE' KE' HA'
    rcases hM0 with ⟨m_h0, e_MU, e_MT, e_PA5, e_mtm, e_MS, e_MLk, e_ML, e_MH, e_MY, e_PB5, e_PA4, e_PA7, rfl⟩ | ⟨m_rr, m_N, m_h1, m_en, m_hN, rfl, m_tk, rfl⟩
    · subst MU' MT' PA5' mtm' MS' MLk' ML' MH' MY' PB5' PA4' PA7'
      exact ⟨rfl, hQ0, hL0, relT_up hT0⟩
    · exact absurd c_h0 m_h1
  · rcases hM0 with ⟨m_h0, e_MU, e_MT, e_PA5, e_mtm, e_MS, e_MLk, e_ML, e_MH, e_MY, e_PB5, e_PA4, e_PA7, rfl⟩ | ⟨m_rr, m_N, m_h1, m_en, m_hN, rfl, m_tk, rfl⟩
    · subst MU' MT' PA5' mtm' MS' MLk' ML' MH' MY' PB5' PA4' PA7'
      exact absurd m_h0 c_h1
    · obtain rfl := (nI_eq (by omega) (by omega)).mp (c_en.symm.trans m_en)
      have hN1 : 1 ≤ c_N := by
        have h := (isw_b c_h1).1
        rw [c_en, nI_toInt (by omega)] at h
        have h : (1 : Int) ≤ c_N := h
        omega
      have hR : TRel np nq EP HO LP LF CL TO LS EN MQ ((SI, LK, LE, GR, ST, LH, HE, KE, HA), PH) ((SI, LK, LE, GR, ST, PB5, KE, PA7), PA5, PH, MT) := ⟨⟨rfl, rfl, rfl, rfl, rfl, rfl, l2⟩, rfl, l4, ⟨q3, l6, l5⟩, q1⟩
      obtain ⟨⟨⟨k1, k2, k3, k4, k5, k6, kD⟩, k7, k8, hI, hCl⟩, hr⟩ := ticks_same h_HO h_LF h_EP h_CL q2 l1 l3 hR c_N c_tk m_tk
      have hST := tkI_ST (s0 := ((SI, LK, LE, GR, ST, LH, HE, KE, HA), PH)) q4 c_N c_tk
      have hEN := tkI_EN hN1 c_tk
      exact ⟨hr.symm, ⟨⟨rfl, rfl, k5, rfl, k1, k2, k7, k3, k4⟩, hCl, q2, hI.1, hST, hEN⟩, ⟨⟨rfl, rfl, rfl, rfl, k6, rfl⟩, l1, kD, l3, k8, hI.2.2, hI.2.1, l7⟩, relT_tick hT0 hti c_hN⟩

set_option maxHeartbeats 4000000 in
theorem rel_side {nn : Nat} {FA : Nat → Int32} {FB : Nat → Int32} {FR : Nat → Int32} {mn : Nat} {MAw : Nat → Int32} {MB : Nat → Int32} {MR : Nat → Int32} {np : Nat} {EP : Nat → Nat} {ST : Nat → Nat} {CL : Nat → Nat} {CB : Nat → Nat} {SI : Nat → Int32} {LK : Nat → Int32} {PH : Nat → Int32} {EN : Nat → Int32} {LE : Nat → Int32} {GR : Nat → Int32} {tm : Int32} {mp : Nat} {ME : Nat → Nat} {MY : Nat → Nat} {MX : Nat → Nat} {MS : Nat → Int32} {MLk : Nat → Int32} {MU : Nat → Int32} {MT : Nat → Int32} {MQ : Nat → Int32} {ML : Nat → Int32} {MH : Nat → Int32} {nq : Nat} {HA : Int32} {HO : Nat → Nat} {LP : Nat → Nat} {LF : Nat → Nat} {PY : Nat → Int32} {PD : Nat → Int32} {HE : Nat → Int32} {KE : Nat → Int32} {TO : Nat → Int32} {LS : Nat → Int32} {LC : Nat → Int32} {LH : Nat → Int32} {mq : Nat} {PA3 : Nat → Nat} {PA7 : Nat → Nat} {PB1 : Nat → Nat} {PB2 : Nat → Nat} {PA1 : Nat → Int32} {PA2 : Nat → Int32} {PA4 : Nat → Int32} {PA5 : Nat → Int32} {PA6 : Nat → Int32} {PB3 : Nat → Int32} {PB4 : Nat → Int32} {PB5 : Nat → Int32} {kl : Nat} {KP : Nat → Nat} {KF : Nat → Nat} {mhw : Int32} {mwn : Nat} {WA1 : Nat → Nat} {WA2 : Nat → Nat} {ti : Nat} {gp : Int32} {lk : Int32} {mtm : Int32} {mgp : Int32} {mlk : Int32} {i : Int32} {z : Int32} {r : Int32} {rM : Int32} (h_nn : nn ≤ 7) (h_np : np ≤ 12) (h_nq : nq ≤ 40) (h_kl : kl ≤ 6) (h_HO : ∀ zz, HO zz ≤ 6) (h_LP : ∀ zz, LP zz ≤ 11) (h_LF : ∀ zz, LF zz ≤ 1) (h_EP : ∀ zz, EP zz ≤ 6) (h_CL : ∀ zz, CL zz ≤ 1) (h_KF : ∀ zz, KF zz ≤ 1) (hti : ti ≤ 2560) (hP : relP nn FA FB FR mn MAw MB MR) (hQ : relQ np EP ST CL CB SI LK PH EN LE GR tm mp ME MY MX MS MLk MU MT MQ ML MH) (hL : relL np EP LK nq HA HO LP LF PY PD HE KE TO LS LC LH mq PA3 PA7 PB1 PB2 PA1 PA2 PA4 PA5 PA6 PB3 PB4 PB5) (hW : relW kl KP KF mhw mwn WA1 WA2) (hT : relT ti tm gp lk mtm mgp mlk) (hC0 : r = gSd np SI i z) (hM0 : rM = gSd mp MS i z) : r = rM := by
  have hP0 := hP
  have hQ0 := hQ
  have hL0 := hL
  have hW0 := hW
  have hT0 := hT
  obtain ⟨rfl, rfl, rfl, rfl, p1, p2⟩ := hP
  obtain ⟨⟨rfl, rfl, rfl, rfl, rfl, rfl, rfl, rfl, rfl⟩, q1, q2, q3, q4, q5⟩ := hQ
  obtain ⟨⟨rfl, rfl, rfl, rfl, rfl, rfl⟩, l1, l2, l3, l4, l5, l6, l7⟩ := hL
  obtain ⟨rfl, rfl, rfl, w1⟩ := hW
  obtain ⟨rfl, rfl, rfl, t1, t2, t3, t4⟩ := hT
  exact hC0.trans hM0.symm

set_option maxHeartbeats 4000000 in
theorem rel_locked {nn : Nat} {FA : Nat → Int32} {FB : Nat → Int32} {FR : Nat → Int32} {mn : Nat} {MAw : Nat → Int32} {MB : Nat → Int32} {MR : Nat → Int32} {np : Nat} {EP : Nat → Nat} {ST : Nat → Nat} {CL : Nat → Nat} {CB : Nat → Nat} {SI : Nat → Int32} {LK : Nat → Int32} {PH : Nat → Int32} {EN : Nat → Int32} {LE : Nat → Int32} {GR : Nat → Int32} {tm : Int32} {mp : Nat} {ME : Nat → Nat} {MY : Nat → Nat} {MX : Nat → Nat} {MS : Nat → Int32} {MLk : Nat → Int32} {MU : Nat → Int32} {MT : Nat → Int32} {MQ : Nat → Int32} {ML : Nat → Int32} {MH : Nat → Int32} {nq : Nat} {HA : Int32} {HO : Nat → Nat} {LP : Nat → Nat} {LF : Nat → Nat} {PY : Nat → Int32} {PD : Nat → Int32} {HE : Nat → Int32} {KE : Nat → Int32} {TO : Nat → Int32} {LS : Nat → Int32} {LC : Nat → Int32} {LH : Nat → Int32} {mq : Nat} {PA3 : Nat → Nat} {PA7 : Nat → Nat} {PB1 : Nat → Nat} {PB2 : Nat → Nat} {PA1 : Nat → Int32} {PA2 : Nat → Int32} {PA4 : Nat → Int32} {PA5 : Nat → Int32} {PA6 : Nat → Int32} {PB3 : Nat → Int32} {PB4 : Nat → Int32} {PB5 : Nat → Int32} {kl : Nat} {KP : Nat → Nat} {KF : Nat → Nat} {mhw : Int32} {mwn : Nat} {WA1 : Nat → Nat} {WA2 : Nat → Nat} {ti : Nat} {gp : Int32} {lk : Int32} {mtm : Int32} {mgp : Int32} {mlk : Int32} {i : Int32} {z : Int32} {r : Int32} {rM : Int32} (h_nn : nn ≤ 7) (h_np : np ≤ 12) (h_nq : nq ≤ 40) (h_kl : kl ≤ 6) (h_HO : ∀ zz, HO zz ≤ 6) (h_LP : ∀ zz, LP zz ≤ 11) (h_LF : ∀ zz, LF zz ≤ 1) (h_EP : ∀ zz, EP zz ≤ 6) (h_CL : ∀ zz, CL zz ≤ 1) (h_KF : ∀ zz, KF zz ≤ 1) (hti : ti ≤ 2560) (hP : relP nn FA FB FR mn MAw MB MR) (hQ : relQ np EP ST CL CB SI LK PH EN LE GR tm mp ME MY MX MS MLk MU MT MQ ML MH) (hL : relL np EP LK nq HA HO LP LF PY PD HE KE TO LS LC LH mq PA3 PA7 PB1 PB2 PA1 PA2 PA4 PA5 PA6 PB3 PB4 PB5) (hW : relW kl KP KF mhw mwn WA1 WA2) (hT : relT ti tm gp lk mtm mgp mlk) (hC0 : r = gSd np LK i z) (hM0 : rM = gSd mp MLk i z) : r = rM := by
  have hP0 := hP
  have hQ0 := hQ
  have hL0 := hL
  have hW0 := hW
  have hT0 := hT
  obtain ⟨rfl, rfl, rfl, rfl, p1, p2⟩ := hP
  obtain ⟨⟨rfl, rfl, rfl, rfl, rfl, rfl, rfl, rfl, rfl⟩, q1, q2, q3, q4, q5⟩ := hQ
  obtain ⟨⟨rfl, rfl, rfl, rfl, rfl, rfl⟩, l1, l2, l3, l4, l5, l6, l7⟩ := hL
  obtain ⟨rfl, rfl, rfl, w1⟩ := hW
  obtain ⟨rfl, rfl, rfl, t1, t2, t3, t4⟩ := hT
  exact hC0.trans hM0.symm

set_option maxHeartbeats 4000000 in
theorem rel_learnt {nn : Nat} {FA : Nat → Int32} {FB : Nat → Int32} {FR : Nat → Int32} {mn : Nat} {MAw : Nat → Int32} {MB : Nat → Int32} {MR : Nat → Int32} {np : Nat} {EP : Nat → Nat} {ST : Nat → Nat} {CL : Nat → Nat} {CB : Nat → Nat} {SI : Nat → Int32} {LK : Nat → Int32} {PH : Nat → Int32} {EN : Nat → Int32} {LE : Nat → Int32} {GR : Nat → Int32} {tm : Int32} {mp : Nat} {ME : Nat → Nat} {MY : Nat → Nat} {MX : Nat → Nat} {MS : Nat → Int32} {MLk : Nat → Int32} {MU : Nat → Int32} {MT : Nat → Int32} {MQ : Nat → Int32} {ML : Nat → Int32} {MH : Nat → Int32} {nq : Nat} {HA : Int32} {HO : Nat → Nat} {LP : Nat → Nat} {LF : Nat → Nat} {PY : Nat → Int32} {PD : Nat → Int32} {HE : Nat → Int32} {KE : Nat → Int32} {TO : Nat → Int32} {LS : Nat → Int32} {LC : Nat → Int32} {LH : Nat → Int32} {mq : Nat} {PA3 : Nat → Nat} {PA7 : Nat → Nat} {PB1 : Nat → Nat} {PB2 : Nat → Nat} {PA1 : Nat → Int32} {PA2 : Nat → Int32} {PA4 : Nat → Int32} {PA5 : Nat → Int32} {PA6 : Nat → Int32} {PB3 : Nat → Int32} {PB4 : Nat → Int32} {PB5 : Nat → Int32} {kl : Nat} {KP : Nat → Nat} {KF : Nat → Nat} {mhw : Int32} {mwn : Nat} {WA1 : Nat → Nat} {WA2 : Nat → Nat} {ti : Nat} {gp : Int32} {lk : Int32} {mtm : Int32} {mgp : Int32} {mlk : Int32} {i : Int32} {z : Int32} {r : Int32} {rM : Int32} (h_nn : nn ≤ 7) (h_np : np ≤ 12) (h_nq : nq ≤ 40) (h_kl : kl ≤ 6) (h_HO : ∀ zz, HO zz ≤ 6) (h_LP : ∀ zz, LP zz ≤ 11) (h_LF : ∀ zz, LF zz ≤ 1) (h_EP : ∀ zz, EP zz ≤ 6) (h_CL : ∀ zz, CL zz ≤ 1) (h_KF : ∀ zz, KF zz ≤ 1) (hti : ti ≤ 2560) (hP : relP nn FA FB FR mn MAw MB MR) (hQ : relQ np EP ST CL CB SI LK PH EN LE GR tm mp ME MY MX MS MLk MU MT MQ ML MH) (hL : relL np EP LK nq HA HO LP LF PY PD HE KE TO LS LC LH mq PA3 PA7 PB1 PB2 PA1 PA2 PA4 PA5 PA6 PB3 PB4 PB5) (hW : relW kl KP KF mhw mwn WA1 WA2) (hT : relT ti tm gp lk mtm mgp mlk) (hC0 : r = gLe np LE GR i z) (hM0 : rM = gLe mp ML MH i z) : r = rM := by
  have hP0 := hP
  have hQ0 := hQ
  have hL0 := hL
  have hW0 := hW
  have hT0 := hT
  obtain ⟨rfl, rfl, rfl, rfl, p1, p2⟩ := hP
  obtain ⟨⟨rfl, rfl, rfl, rfl, rfl, rfl, rfl, rfl, rfl⟩, q1, q2, q3, q4, q5⟩ := hQ
  obtain ⟨⟨rfl, rfl, rfl, rfl, rfl, rfl⟩, l1, l2, l3, l4, l5, l6, l7⟩ := hL
  obtain ⟨rfl, rfl, rfl, w1⟩ := hW
  obtain ⟨rfl, rfl, rfl, t1, t2, t3, t4⟩ := hT
  exact hC0.trans hM0.symm

set_option maxHeartbeats 4000000 in
theorem rel_off {nn : Nat} {FA : Nat → Int32} {FB : Nat → Int32} {FR : Nat → Int32} {mn : Nat} {MAw : Nat → Int32} {MB : Nat → Int32} {MR : Nat → Int32} {np : Nat} {EP : Nat → Nat} {ST : Nat → Nat} {CL : Nat → Nat} {CB : Nat → Nat} {SI : Nat → Int32} {LK : Nat → Int32} {PH : Nat → Int32} {EN : Nat → Int32} {LE : Nat → Int32} {GR : Nat → Int32} {tm : Int32} {mp : Nat} {ME : Nat → Nat} {MY : Nat → Nat} {MX : Nat → Nat} {MS : Nat → Int32} {MLk : Nat → Int32} {MU : Nat → Int32} {MT : Nat → Int32} {MQ : Nat → Int32} {ML : Nat → Int32} {MH : Nat → Int32} {nq : Nat} {HA : Int32} {HO : Nat → Nat} {LP : Nat → Nat} {LF : Nat → Nat} {PY : Nat → Int32} {PD : Nat → Int32} {HE : Nat → Int32} {KE : Nat → Int32} {TO : Nat → Int32} {LS : Nat → Int32} {LC : Nat → Int32} {LH : Nat → Int32} {mq : Nat} {PA3 : Nat → Nat} {PA7 : Nat → Nat} {PB1 : Nat → Nat} {PB2 : Nat → Nat} {PA1 : Nat → Int32} {PA2 : Nat → Int32} {PA4 : Nat → Int32} {PA5 : Nat → Int32} {PA6 : Nat → Int32} {PB3 : Nat → Int32} {PB4 : Nat → Int32} {PB5 : Nat → Int32} {kl : Nat} {KP : Nat → Nat} {KF : Nat → Nat} {mhw : Int32} {mwn : Nat} {WA1 : Nat → Nat} {WA2 : Nat → Nat} {ti : Nat} {gp : Int32} {lk : Int32} {mtm : Int32} {mgp : Int32} {mlk : Int32} {r : Int32} {rM : Int32} (h_nn : nn ≤ 7) (h_np : np ≤ 12) (h_nq : nq ≤ 40) (h_kl : kl ≤ 6) (h_HO : ∀ zz, HO zz ≤ 6) (h_LP : ∀ zz, LP zz ≤ 11) (h_LF : ∀ zz, LF zz ≤ 1) (h_EP : ∀ zz, EP zz ≤ 6) (h_CL : ∀ zz, CL zz ≤ 1) (h_KF : ∀ zz, KF zz ≤ 1) (hti : ti ≤ 2560) (hP : relP nn FA FB FR mn MAw MB MR) (hQ : relQ np EP ST CL CB SI LK PH EN LE GR tm mp ME MY MX MS MLk MU MT MQ ML MH) (hL : relL np EP LK nq HA HO LP LF PY PD HE KE TO LS LC LH mq PA3 PA7 PB1 PB2 PA1 PA2 PA4 PA5 PA6 PB3 PB4 PB5) (hW : relW kl KP KF mhw mwn WA1 WA2) (hT : relT ti tm gp lk mtm mgp mlk) (hC0 : r = sumO SI PH np) (hM0 : rM = sumO MS MU mp) : r = rM := by
  have hP0 := hP
  have hQ0 := hQ
  have hL0 := hL
  have hW0 := hW
  have hT0 := hT
  obtain ⟨rfl, rfl, rfl, rfl, p1, p2⟩ := hP
  obtain ⟨⟨rfl, rfl, rfl, rfl, rfl, rfl, rfl, rfl, rfl⟩, q1, q2, q3, q4, q5⟩ := hQ
  obtain ⟨⟨rfl, rfl, rfl, rfl, rfl, rfl⟩, l1, l2, l3, l4, l5, l6, l7⟩ := hL
  obtain ⟨rfl, rfl, rfl, w1⟩ := hW
  obtain ⟨rfl, rfl, rfl, t1, t2, t3, t4⟩ := hT
  exact hC0.trans hM0.symm

set_option maxHeartbeats 4000000 in
theorem rel_about {nn : Nat} {FA : Nat → Int32} {FB : Nat → Int32} {FR : Nat → Int32} {mn : Nat} {MAw : Nat → Int32} {MB : Nat → Int32} {MR : Nat → Int32} {np : Nat} {EP : Nat → Nat} {ST : Nat → Nat} {CL : Nat → Nat} {CB : Nat → Nat} {SI : Nat → Int32} {LK : Nat → Int32} {PH : Nat → Int32} {EN : Nat → Int32} {LE : Nat → Int32} {GR : Nat → Int32} {tm : Int32} {mp : Nat} {ME : Nat → Nat} {MY : Nat → Nat} {MX : Nat → Nat} {MS : Nat → Int32} {MLk : Nat → Int32} {MU : Nat → Int32} {MT : Nat → Int32} {MQ : Nat → Int32} {ML : Nat → Int32} {MH : Nat → Int32} {nq : Nat} {HA : Int32} {HO : Nat → Nat} {LP : Nat → Nat} {LF : Nat → Nat} {PY : Nat → Int32} {PD : Nat → Int32} {HE : Nat → Int32} {KE : Nat → Int32} {TO : Nat → Int32} {LS : Nat → Int32} {LC : Nat → Int32} {LH : Nat → Int32} {mq : Nat} {PA3 : Nat → Nat} {PA7 : Nat → Nat} {PB1 : Nat → Nat} {PB2 : Nat → Nat} {PA1 : Nat → Int32} {PA2 : Nat → Int32} {PA4 : Nat → Int32} {PA5 : Nat → Int32} {PA6 : Nat → Int32} {PB3 : Nat → Int32} {PB4 : Nat → Int32} {PB5 : Nat → Int32} {kl : Nat} {KP : Nat → Nat} {KF : Nat → Nat} {mhw : Int32} {mwn : Nat} {WA1 : Nat → Nat} {WA2 : Nat → Nat} {ti : Nat} {gp : Int32} {lk : Int32} {mtm : Int32} {mgp : Int32} {mlk : Int32} {i : Int32} {z : Int32} {r : Int32} {rM : Int32} (h_nn : nn ≤ 7) (h_np : np ≤ 12) (h_nq : nq ≤ 40) (h_kl : kl ≤ 6) (h_HO : ∀ zz, HO zz ≤ 6) (h_LP : ∀ zz, LP zz ≤ 11) (h_LF : ∀ zz, LF zz ≤ 1) (h_EP : ∀ zz, EP zz ≤ 6) (h_CL : ∀ zz, CL zz ≤ 1) (h_KF : ∀ zz, KF zz ≤ 1) (hti : ti ≤ 2560) (hP : relP nn FA FB FR mn MAw MB MR) (hQ : relQ np EP ST CL CB SI LK PH EN LE GR tm mp ME MY MX MS MLk MU MT MQ ML MH) (hL : relL np EP LK nq HA HO LP LF PY PD HE KE TO LS LC LH mq PA3 PA7 PB1 PB2 PA1 PA2 PA4 PA5 PA6 PB3 PB4 PB5) (hW : relW kl KP KF mhw mwn WA1 WA2) (hT : relT ti tm gp lk mtm mgp mlk) (hC0 : r = gAB np EP PH ST EN i z) (hM0 : rM = gABm mp ME MU MY MT i z) : r = rM := by
  have hP0 := hP
  have hQ0 := hQ
  have hL0 := hL
  have hW0 := hW
  have hT0 := hT
  obtain ⟨rfl, rfl, rfl, rfl, p1, p2⟩ := hP
  obtain ⟨⟨rfl, rfl, rfl, rfl, rfl, rfl, rfl, rfl, rfl⟩, q1, q2, q3, q4, q5⟩ := hQ
  obtain ⟨⟨rfl, rfl, rfl, rfl, rfl, rfl⟩, l1, l2, l3, l4, l5, l6, l7⟩ := hL
  obtain ⟨rfl, rfl, rfl, w1⟩ := hW
  obtain ⟨rfl, rfl, rfl, t1, t2, t3, t4⟩ := hT
  exact (hC0.trans (AB_same h_np q1)).trans hM0.symm

set_option maxHeartbeats 4000000 in
theorem rel_close {nn : Nat} {FA : Nat → Int32} {FB : Nat → Int32} {FR : Nat → Int32} {mn : Nat} {MAw : Nat → Int32} {MB : Nat → Int32} {MR : Nat → Int32} {np : Nat} {EP : Nat → Nat} {ST : Nat → Nat} {CL : Nat → Nat} {CB : Nat → Nat} {SI : Nat → Int32} {LK : Nat → Int32} {PH : Nat → Int32} {EN : Nat → Int32} {LE : Nat → Int32} {GR : Nat → Int32} {tm : Int32} {mp : Nat} {ME : Nat → Nat} {MY : Nat → Nat} {MX : Nat → Nat} {MS : Nat → Int32} {MLk : Nat → Int32} {MU : Nat → Int32} {MT : Nat → Int32} {MQ : Nat → Int32} {ML : Nat → Int32} {MH : Nat → Int32} {nq : Nat} {HA : Int32} {HO : Nat → Nat} {LP : Nat → Nat} {LF : Nat → Nat} {PY : Nat → Int32} {PD : Nat → Int32} {HE : Nat → Int32} {KE : Nat → Int32} {TO : Nat → Int32} {LS : Nat → Int32} {LC : Nat → Int32} {LH : Nat → Int32} {mq : Nat} {PA3 : Nat → Nat} {PA7 : Nat → Nat} {PB1 : Nat → Nat} {PB2 : Nat → Nat} {PA1 : Nat → Int32} {PA2 : Nat → Int32} {PA4 : Nat → Int32} {PA5 : Nat → Int32} {PA6 : Nat → Int32} {PB3 : Nat → Int32} {PB4 : Nat → Int32} {PB5 : Nat → Int32} {kl : Nat} {KP : Nat → Nat} {KF : Nat → Nat} {mhw : Int32} {mwn : Nat} {WA1 : Nat → Nat} {WA2 : Nat → Nat} {ti : Nat} {gp : Int32} {lk : Int32} {mtm : Int32} {mgp : Int32} {mlk : Int32} {SI' : Nat → Int32} {PH' : Nat → Int32} {EN' : Nat → Int32} {CL' : Nat → Nat} {CB' : Nat → Nat} {LE' : Nat → Int32} {GR' : Nat → Int32} {MS' : Nat → Int32} {MU' : Nat → Int32} {MT' : Nat → Int32} {MQ' : Nat → Int32} {MX' : Nat → Nat} {ML' : Nat → Int32} {MH' : Nat → Int32} {i : Int32} {j : Int32} {z : Int32} {r : Int32} {rM : Int32} (h_nn : nn ≤ 7) (h_np : np ≤ 12) (h_nq : nq ≤ 40) (h_kl : kl ≤ 6) (h_HO : ∀ zz, HO zz ≤ 6) (h_LP : ∀ zz, LP zz ≤ 11) (h_LF : ∀ zz, LF zz ≤ 1) (h_EP : ∀ zz, EP zz ≤ 6) (h_CL : ∀ zz, CL zz ≤ 1) (h_KF : ∀ zz, KF zz ≤ 1) (hti : ti ≤ 2560) (hP : relP nn FA FB FR mn MAw MB MR) (hQ : relQ np EP ST CL CB SI LK PH EN LE GR tm mp ME MY MX MS MLk MU MT MQ ML MH) (hL : relL np EP LK nq HA HO LP LF PY PD HE KE TO LS LC LH mq PA3 PA7 PB1 PB2 PA1 PA2 PA4 PA5 PA6 PB3 PB4 PB5) (hW : relW kl KP KF mhw mwn WA1 WA2) (hT : relT ti tm gp lk mtm mgp mlk) (h_ST : ∀ zz, ST zz ≤ 64) (hC0 : (badClose np nn EP ST i j z ∧ SI' = SI ∧ PH' = PH ∧ LE' = LE ∧ GR' = GR ∧ EN' = EN ∧ CL' = CL ∧ CB' = CB ∧ r = -2) ∨ (∃ p : Nat, ∃ a : Nat, ∃ k : Nat, ∃ t : Nat, ¬ badClose np nn EP ST i j z ∧ i = nI p ∧ p < np ∧ j = nI a ∧ a < nn ∧ z = nI k ∧ k < ST p ∧ t ≤ 1 ∧ EP (2 * p + t) = a ∧ (¬ (PH p = 0 ∧ LK (2 * p) = 0 ∧ LK (2 * p + 1) = 0) ∨ ¬ FA a = 0) ∧ SI' = SI ∧ PH' = PH ∧ LE' = LE ∧ GR' = GR ∧ EN' = EN ∧ CL' = CL ∧ CB' = CB ∧ r = -3) ∨ (∃ p : Nat, ∃ a : Nat, ∃ k : Nat, ∃ t : Nat, ¬ badClose np nn EP ST i j z ∧ i = nI p ∧ p < np ∧ j = nI a ∧ a < nn ∧ z = nI k ∧ k < ST p ∧ t ≤ 1 ∧ EP (2 * p + t) = a ∧ PH p = 0 ∧ LK (2 * p) = 0 ∧ LK (2 * p + 1) = 0 ∧ FA a = 0 ∧ EN' = upd EN p (tm + lk) ∧ CL' = upN CL p t ∧ CB' = upN CB p k ∧ cgB EP ST (upN CL p t) (upN CB p k) FA p = false ∧ SI' = SI ∧ PH' = upd PH p 1 ∧ LE' = LE ∧ GR' = GR ∧ r = 1) ∨ (∃ p : Nat, ∃ a : Nat, ∃ k : Nat, ∃ t : Nat, ¬ badClose np nn EP ST i j z ∧ i = nI p ∧ p < np ∧ j = nI a ∧ a < nn ∧ z = nI k ∧ k < ST p ∧ t ≤ 1 ∧ EP (2 * p + t) = a ∧ PH p = 0 ∧ LK (2 * p) = 0 ∧ LK (2 * p + 1) = 0 ∧ FA a = 0 ∧ EN' = upd EN p (tm + lk) ∧ CL' = upN CL p t ∧ CB' = upN CB p k ∧ cgB EP ST (upN CL p t) (upN CB p k) FA p = true ∧ SI' = upd (upd SI (2 * p) 0) (2 * p + 1) 0 ∧ PH' = upd (upd PH p 1) p 2 ∧ LE' = upd LE p 0 ∧ GR' = upd GR p (0 + 0) ∧ r = 2)) (hM0 : (badClose mp mn ME MY i j z ∧ MS' = MS ∧ MU' = MU ∧ ML' = ML ∧ MH' = MH ∧ MT' = MT ∧ MQ' = MQ ∧ MX' = MX ∧ rM = -2) ∨ (∃ p : Nat, ∃ a : Nat, ∃ k : Nat, ¬ badClose mp mn ME MY i j z ∧ i = nI p ∧ p < mp ∧ j = nI a ∧ a < mn ∧ z = nI k ∧ k < MY p ∧ (¬ (MU p = 0 ∧ ¬ hasL PA3 PB1 PB5 p mq 0) ∨ ¬ MAw a = 0) ∧ MS' = MS ∧ MU' = MU ∧ ML' = ML ∧ MH' = MH ∧ MT' = MT ∧ MQ' = MQ ∧ MX' = MX ∧ rM = -3) ∨ (∃ p : Nat, ∃ a : Nat, ∃ k : Nat, ¬ badClose mp mn ME MY i j z ∧ i = nI p ∧ p < mp ∧ j = nI a ∧ a < mn ∧ z = nI k ∧ k < MY p ∧ MU p = 0 ∧ ¬ hasL PA3 PB1 PB5 p mq 0 ∧ MAw a = 0 ∧ MQ' = upd MQ p (nI a) ∧ MX' = upN MX p k ∧ mcg ME (upN MX p k) MY (upd MQ p (nI a)) MAw p = false ∧ MS' = MS ∧ MU' = upd MU p 1 ∧ ML' = ML ∧ MH' = MH ∧ MT' = upd MT p (mtm + mlk) ∧ rM = 1) ∨ (∃ p : Nat, ∃ a : Nat, ∃ k : Nat, ¬ badClose mp mn ME MY i j z ∧ i = nI p ∧ p < mp ∧ j = nI a ∧ a < mn ∧ z = nI k ∧ k < MY p ∧ MU p = 0 ∧ ¬ hasL PA3 PB1 PB5 p mq 0 ∧ MAw a = 0 ∧ MQ' = upd MQ p (nI a) ∧ MX' = upN MX p k ∧ mcg ME (upN MX p k) MY (upd MQ p (nI a)) MAw p = true ∧ MS' = upd (upd MS (2 * p) 0) (2 * p + 1) 0 ∧ MU' = upd (upd MU p 1) p 2 ∧ ML' = upd ML p 0 ∧ MH' = upd MH p (gsum (upd (upd MS (2 * p) 0) (2 * p + 1) 0) p) ∧ MT' = upd (upd MT p (mtm + mlk)) p (-1) ∧ rM = 2)) : r = rM ∧ relQ np EP ST CL' CB' SI' LK PH' EN' LE' GR' tm mp ME MY MX' MS' MLk MU' MT' MQ' ML' MH' ∧ relL np EP LK nq HA HO LP LF PY PD HE KE TO LS LC LH mq PA3 PA7 PB1 PB2 PA1 PA2 PA4 PA5 PA6 PB3 PB4 PB5 := by
  have hP0 := hP
  have hQ0 := hQ
  have hL0 := hL
  have hW0 := hW
  have hT0 := hT
  obtain ⟨rfl, rfl, rfl, rfl, p1, p2⟩ := hP
  obtain ⟨⟨rfl, rfl, rfl, rfl, rfl, rfl, rfl, rfl, rfl⟩, q1, q2, q3, q4, q5⟩ := hQ
  obtain ⟨⟨rfl, rfl, rfl, rfl, rfl, rfl⟩, l1, l2, l3, l4, l5, l6, l7⟩ := hL
  obtain ⟨rfl, rfl, rfl, w1⟩ := hW
  obtain ⟨rfl, rfl, rfl, t1, t2, t3, t4⟩ := hT
  rcases hC0 with ⟨c_h0, e_SI, e_PH, e_LE, e_GR, e_EN, e_CL, e_CB, rfl⟩ | ⟨c_p, c_a, c_k, c_t, c_h0, c_ei, c_hp, c_ej, c_haa, c_ez, c_hk, c_htt, c_het, c_h1, e_SI, e_PH, e_LE, e_GR, e_EN, e_CL, e_CB, rfl⟩ | ⟨c_p, c_a, c_k, c_t, c_h0, c_ei, c_hp, c_ej, c_haa, c_ez, c_hk, c_htt, c_het, c_h1, c_h2, c_h3, c_h4, rfl, rfl, rfl, c_hc, e_SI, rfl, e_LE, e_GR, rfl⟩ | ⟨c_p, c_a, c_k, c_t, c_h0, c_ei, c_hp, c_ej, c_haa, c_ez, c_hk, c_htt, c_het, c_h1, c_h2, c_h3, c_h4, rfl, rfl, rfl, c_hc, rfl, rfl, rfl, rfl, rfl⟩
  · subst SI' PH' LE' GR' EN' CL' CB'
    rcases hM0 with ⟨m_h0, e_MS, e_MU, e_ML, e_MH, e_MT, e_MQ, e_MX, rfl⟩ | ⟨m_p, m_a, m_k, m_h0, m_ei, m_hp, m_ej, m_haa, m_ez, m_hk, m_h1, e_MS, e_MU, e_ML, e_MH, e_MT, e_MQ, e_MX, rfl⟩ | ⟨m_p, m_a, m_k, m_h0, m_ei, m_hp, m_ej, m_haa, m_ez, m_hk, m_h1, m_h2, m_h4, rfl, rfl, m_hc, e_MS, rfl, e_ML, e_MH, rfl, rfl⟩ | ⟨m_p, m_a, m_k, m_h0, m_ei, m_hp, m_ej, m_haa, m_ez, m_hk, m_h1, m_h2, m_h4, rfl, rfl, m_hc, rfl, rfl, rfl, rfl, rfl, rfl⟩
    · subst MS' MU' ML' MH' MT' MQ' MX'
      exact ⟨rfl, hQ0, hL0⟩
    · subst MS' MU' ML' MH' MT' MQ' MX'
      exact absurd c_h0 m_h0
    · subst MS' ML' MH'
      exact absurd c_h0 m_h0
    · exact absurd c_h0 m_h0
  · subst SI' PH' LE' GR' EN' CL' CB'
    rcases hM0 with ⟨m_h0, e_MS, e_MU, e_ML, e_MH, e_MT, e_MQ, e_MX, rfl⟩ | ⟨m_p, m_a, m_k, m_h0, m_ei, m_hp, m_ej, m_haa, m_ez, m_hk, m_h1, e_MS, e_MU, e_ML, e_MH, e_MT, e_MQ, e_MX, rfl⟩ | ⟨m_p, m_a, m_k, m_h0, m_ei, m_hp, m_ej, m_haa, m_ez, m_hk, m_h1, m_h2, m_h4, rfl, rfl, m_hc, e_MS, rfl, e_ML, e_MH, rfl, rfl⟩ | ⟨m_p, m_a, m_k, m_h0, m_ei, m_hp, m_ej, m_haa, m_ez, m_hk, m_h1, m_h2, m_h4, rfl, rfl, m_hc, rfl, rfl, rfl, rfl, rfl, rfl⟩
    · subst MS' MU' ML' MH' MT' MQ' MX'
      exact absurd m_h0 c_h0
    · subst MS' MU' ML' MH' MT' MQ' MX'
      exact ⟨rfl, hQ0, hL0⟩
    · subst MS' ML' MH'
      obtain rfl := n7_eq c_hp m_hp (by omega) c_ei m_ei
      obtain rfl := n7_eq c_haa m_haa (by omega) c_ej m_ej
      have hf : frC PH LK c_p ↔ frM PH HO PB1 PB5 nq c_p := fr_same l3 l6 l1 l2 c_hp
      rcases c_h1 with h | h
      · exact absurd (hf.mpr ⟨m_h1, m_h2⟩) h
      · exact absurd m_h4 h
    · obtain rfl := n7_eq c_hp m_hp (by omega) c_ei m_ei
      obtain rfl := n7_eq c_haa m_haa (by omega) c_ej m_ej
      have hf : frC PH LK c_p ↔ frM PH HO PB1 PB5 nq c_p := fr_same l3 l6 l1 l2 c_hp
      rcases c_h1 with h | h
      · exact absurd (hf.mpr ⟨m_h1, m_h2⟩) h
      · exact absurd m_h4 h
  · subst SI' LE' GR'
    rcases hM0 with ⟨m_h0, e_MS, e_MU, e_ML, e_MH, e_MT, e_MQ, e_MX, rfl⟩ | ⟨m_p, m_a, m_k, m_h0, m_ei, m_hp, m_ej, m_haa, m_ez, m_hk, m_h1, e_MS, e_MU, e_ML, e_MH, e_MT, e_MQ, e_MX, rfl⟩ | ⟨m_p, m_a, m_k, m_h0, m_ei, m_hp, m_ej, m_haa, m_ez, m_hk, m_h1, m_h2, m_h4, rfl, rfl, m_hc, e_MS, rfl, e_ML, e_MH, rfl, rfl⟩ | ⟨m_p, m_a, m_k, m_h0, m_ei, m_hp, m_ej, m_haa, m_ez, m_hk, m_h1, m_h2, m_h4, rfl, rfl, m_hc, rfl, rfl, rfl, rfl, rfl, rfl⟩
    · subst MS' MU' ML' MH' MT' MQ' MX'
      exact absurd m_h0 c_h0
    · subst MS' MU' ML' MH' MT' MQ' MX'
      obtain rfl := n7_eq c_hp m_hp (by omega) c_ei m_ei
      obtain rfl := n7_eq c_haa m_haa (by omega) c_ej m_ej
      have hf : frC PH LK c_p ↔ frM PH HO PB1 PB5 nq c_p := fr_same l3 l6 l1 l2 c_hp
      rcases m_h1 with h | h
      · exact absurd (hf.mp ⟨c_h1, c_h2, c_h3⟩) h
      · exact absurd c_h4 h
    · subst MS' ML' MH'
      obtain rfl := n7_eq c_hp m_hp (by omega) c_ei m_ei
      obtain rfl := n7_eq c_haa m_haa (by omega) c_ej m_ej
      have hz0 := h_ST c_p
      obtain rfl := n7_eq (N := 64) (by omega) (by omega) (by omega) c_ez m_ez
      subst c_het
      exact ⟨rfl, ⟨⟨rfl, rfl, rfl, rfl, rfl, rfl, rfl, rfl, rfl⟩, ClR_begin q1, q2, q3, q4, en_close q5 (tm_lt hT0 hti)⟩, hL0⟩
    · obtain rfl := n7_eq c_hp m_hp (by omega) c_ei m_ei
      obtain rfl := n7_eq c_haa m_haa (by omega) c_ej m_ej
      have hz0 := h_ST c_p
      obtain rfl := n7_eq (N := 64) (by omega) (by omega) (by omega) c_ez m_ez
      have hz := h_ST c_p
      have hg : cgB EP ST (upN CL c_p c_t) (upN CB c_p c_k) FA c_p = mcg EP (upN CB c_p c_k) ST (upd MQ c_p (nI c_a)) FA c_p := cg_same (q2 c_p c_hp) h_EP (by rw [upN_s]; exact c_htt) (by rw [pk_us, upN_s, c_het])
      rw [c_hc, m_hc] at hg
      exact absurd hg (by decide)
  · rcases hM0 with ⟨m_h0, e_MS, e_MU, e_ML, e_MH, e_MT, e_MQ, e_MX, rfl⟩ | ⟨m_p, m_a, m_k, m_h0, m_ei, m_hp, m_ej, m_haa, m_ez, m_hk, m_h1, e_MS, e_MU, e_ML, e_MH, e_MT, e_MQ, e_MX, rfl⟩ | ⟨m_p, m_a, m_k, m_h0, m_ei, m_hp, m_ej, m_haa, m_ez, m_hk, m_h1, m_h2, m_h4, rfl, rfl, m_hc, e_MS, rfl, e_ML, e_MH, rfl, rfl⟩ | ⟨m_p, m_a, m_k, m_h0, m_ei, m_hp, m_ej, m_haa, m_ez, m_hk, m_h1, m_h2, m_h4, rfl, rfl, m_hc, rfl, rfl, rfl, rfl, rfl, rfl⟩
    · subst MS' MU' ML' MH' MT' MQ' MX'
      exact absurd m_h0 c_h0
    · subst MS' MU' ML' MH' MT' MQ' MX'
      obtain rfl := n7_eq c_hp m_hp (by omega) c_ei m_ei
      obtain rfl := n7_eq c_haa m_haa (by omega) c_ej m_ej
      have hf : frC PH LK c_p ↔ frM PH HO PB1 PB5 nq c_p := fr_same l3 l6 l1 l2 c_hp
      rcases m_h1 with h | h
      · exact absurd (hf.mp ⟨c_h1, c_h2, c_h3⟩) h
      · exact absurd c_h4 h
    · subst MS' ML' MH'
      obtain rfl := n7_eq c_hp m_hp (by omega) c_ei m_ei
      obtain rfl := n7_eq c_haa m_haa (by omega) c_ej m_ej
      have hz0 := h_ST c_p
      obtain rfl := n7_eq (N := 64) (by omega) (by omega) (by omega) c_ez m_ez
      have hz := h_ST c_p
      have hg : cgB EP ST (upN CL c_p c_t) (upN CB c_p c_k) FA c_p = mcg EP (upN CB c_p c_k) ST (upd MQ c_p (nI c_a)) FA c_p := cg_same (q2 c_p c_hp) h_EP (by rw [upN_s]; exact c_htt) (by rw [pk_us, upN_s, c_het])
      rw [c_hc, m_hc] at hg
      exact absurd hg (by decide)
    · obtain rfl := n7_eq c_hp m_hp (by omega) c_ei m_ei
      obtain rfl := n7_eq c_haa m_haa (by omega) c_ej m_ej
      have hz0 := h_ST c_p
      obtain rfl := n7_eq (N := 64) (by omega) (by omega) (by omega) c_ez m_ez
      subst c_het
      refine ⟨rfl, ⟨⟨rfl, rfl, rfl, rfl, rfl, rfl, rfl, rfl, by rw [gsum_pair]⟩, ClR_done (k := 0) q1, q2, SB_le q3 (fun k => ?_), q4, fun q hq h1 => ?_⟩, hL0⟩
      · by_cases e : k = 2 * c_p + 1
        · exact Or.inr (by rw [e, pk_us])
        · by_cases e2 : k = 2 * c_p
          · exact Or.inr (by rw [pk_un e, e2, pk_us])
          · exact Or.inl (by rw [pk_un e, pk_un e2])
      · by_cases e : q = c_p
        · rw [e, pk_us] at h1
          exact absurd h1 (by decide)
        · rw [pk_un e, pk_un e] at h1
          rw [pk_un e]
          exact q5 q hq h1
