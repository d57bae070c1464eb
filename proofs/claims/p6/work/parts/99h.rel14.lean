-- the relation: promiseAt, tell, away_1, away_0
set_option maxHeartbeats 4000000 in
theorem rel_promiseAt {nn : Nat} {FA : Nat → Int32} {FB : Nat → Int32} {FR : Nat → Int32} {mn : Nat} {MAw : Nat → Int32} {MB : Nat → Int32} {MR : Nat → Int32} {np : Nat} {EP : Nat → Nat} {ST : Nat → Nat} {CL : Nat → Nat} {CB : Nat → Nat} {SI : Nat → Int32} {LK : Nat → Int32} {PH : Nat → Int32} {EN : Nat → Int32} {LE : Nat → Int32} {GR : Nat → Int32} {tm : Int32} {mp : Nat} {ME : Nat → Nat} {MY : Nat → Nat} {MX : Nat → Nat} {MS : Nat → Int32} {MLk : Nat → Int32} {MU : Nat → Int32} {MT : Nat → Int32} {MQ : Nat → Int32} {ML : Nat → Int32} {MH : Nat → Int32} {nq : Nat} {HA : Int32} {HO : Nat → Nat} {LP : Nat → Nat} {LF : Nat → Nat} {PY : Nat → Int32} {PD : Nat → Int32} {HE : Nat → Int32} {KE : Nat → Int32} {TO : Nat → Int32} {LS : Nat → Int32} {LC : Nat → Int32} {LH : Nat → Int32} {mq : Nat} {PA3 : Nat → Nat} {PA7 : Nat → Nat} {PB1 : Nat → Nat} {PB2 : Nat → Nat} {PA1 : Nat → Int32} {PA2 : Nat → Int32} {PA4 : Nat → Int32} {PA5 : Nat → Int32} {PA6 : Nat → Int32} {PB3 : Nat → Int32} {PB4 : Nat → Int32} {PB5 : Nat → Int32} {kl : Nat} {KP : Nat → Nat} {KF : Nat → Nat} {mhw : Int32} {mwn : Nat} {WA1 : Nat → Nat} {WA2 : Nat → Nat} {ti : Nat} {gp : Int32} {lk : Int32} {mtm : Int32} {mgp : Int32} {mlk : Int32} {i : Int32} {z : Int32} {r : Int32} {rM : Int32} (h_nn : nn ≤ 7) (h_np : np ≤ 12) (h_nq : nq ≤ 40) (h_kl : kl ≤ 6) (h_HO : ∀ zz, HO zz ≤ 6) (h_LP : ∀ zz, LP zz ≤ 11) (h_LF : ∀ zz, LF zz ≤ 1) (h_EP : ∀ zz, EP zz ≤ 6) (h_CL : ∀ zz, CL zz ≤ 1) (h_KF : ∀ zz, KF zz ≤ 1) (hti : ti ≤ 2560) (hP : relP nn FA FB FR mn MAw MB MR) (hQ : relQ np EP ST CL CB SI LK PH EN LE GR tm mp ME MY MX MS MLk MU MT MQ ML MH) (hL : relL np EP LK nq HA HO LP LF PY PD HE KE TO LS LC LH mq PA3 PA7 PB1 PB2 PA1 PA2 PA4 PA5 PA6 PB3 PB4 PB5) (hW : relW kl KP KF mhw mwn WA1 WA2) (hT : relT ti tm gp lk mtm mgp mlk) (hC0 : r = gPA nq HE HO KE PD LS TO PY i z) (hM0 : rM = gPAm mq PA3 PA4 PA5 PA1 PB3 PA6 PA2 i z) : r = rM := by
  have hP0 := hP
  have hQ0 := hQ
  have hL0 := hL
  have hW0 := hW
  have hT0 := hT
  obtain ⟨rfl, rfl, rfl, rfl, p1, p2⟩ := hP
  obtain ⟨⟨rfl, rfl, rfl, rfl, rfl, rfl, rfl, rfl, rfl⟩, q1, q2, q3, q4, q5⟩ := hQ
  obtain ⟨⟨rfl, rfl, rfl, rfl, rfl, rfl⟩, l1, l2, l3, l4, l5, l6, l7⟩ := hL
  obtain ⟨rfl, rfl, rfl, w1⟩ := hW
  obtain ⟨rfl, rfl, rfl, t1, t2, t3, t4⟩ := hT
  exact (hC0.trans (PA_same h_nq l5 h_HO l4 (fun q hq => ((l1 q hq).2.2 0 (by have := (l1 q hq).1; omega)).2.2.1))).trans hM0.symm

set_option maxHeartbeats 4000000 in
theorem rel_tell {nn : Nat} {FA : Nat → Int32} {FB : Nat → Int32} {FR : Nat → Int32} {mn : Nat} {MAw : Nat → Int32} {MB : Nat → Int32} {MR : Nat → Int32} {np : Nat} {EP : Nat → Nat} {ST : Nat → Nat} {CL : Nat → Nat} {CB : Nat → Nat} {SI : Nat → Int32} {LK : Nat → Int32} {PH : Nat → Int32} {EN : Nat → Int32} {LE : Nat → Int32} {GR : Nat → Int32} {tm : Int32} {mp : Nat} {ME : Nat → Nat} {MY : Nat → Nat} {MX : Nat → Nat} {MS : Nat → Int32} {MLk : Nat → Int32} {MU : Nat → Int32} {MT : Nat → Int32} {MQ : Nat → Int32} {ML : Nat → Int32} {MH : Nat → Int32} {nq : Nat} {HA : Int32} {HO : Nat → Nat} {LP : Nat → Nat} {LF : Nat → Nat} {PY : Nat → Int32} {PD : Nat → Int32} {HE : Nat → Int32} {KE : Nat → Int32} {TO : Nat → Int32} {LS : Nat → Int32} {LC : Nat → Int32} {LH : Nat → Int32} {mq : Nat} {PA3 : Nat → Nat} {PA7 : Nat → Nat} {PB1 : Nat → Nat} {PB2 : Nat → Nat} {PA1 : Nat → Int32} {PA2 : Nat → Int32} {PA4 : Nat → Int32} {PA5 : Nat → Int32} {PA6 : Nat → Int32} {PB3 : Nat → Int32} {PB4 : Nat → Int32} {PB5 : Nat → Int32} {kl : Nat} {KP : Nat → Nat} {KF : Nat → Nat} {mhw : Int32} {mwn : Nat} {WA1 : Nat → Nat} {WA2 : Nat → Nat} {ti : Nat} {gp : Int32} {lk : Int32} {mtm : Int32} {mgp : Int32} {mlk : Int32} {HA' : Int32} {HE' : Nat → Int32} {KE' : Nat → Int32} {LH' : Nat → Int32} {SI' : Nat → Int32} {LK' : Nat → Int32} {ST' : Nat → Nat} {LE' : Nat → Int32} {GR' : Nat → Int32} {TO' : Nat → Int32} {PB5' : Nat → Int32} {PA4' : Nat → Int32} {MLk' : Nat → Int32} {MS' : Nat → Int32} {PA7' : Nat → Nat} {MY' : Nat → Nat} {ML' : Nat → Int32} {MH' : Nat → Int32} {PA6' : Nat → Int32} {i : Int32} {r : Int32} {rM : Int32} (h_nn : nn ≤ 7) (h_np : np ≤ 12) (h_nq : nq ≤ 40) (h_kl : kl ≤ 6) (h_HO : ∀ zz, HO zz ≤ 6) (h_LP : ∀ zz, LP zz ≤ 11) (h_LF : ∀ zz, LF zz ≤ 1) (h_EP : ∀ zz, EP zz ≤ 6) (h_CL : ∀ zz, CL zz ≤ 1) (h_KF : ∀ zz, KF zz ≤ 1) (hti : ti ≤ 2560) (hP : relP nn FA FB FR mn MAw MB MR) (hQ : relQ np EP ST CL CB SI LK PH EN LE GR tm mp ME MY MX MS MLk MU MT MQ ML MH) (hL : relL np EP LK nq HA HO LP LF PY PD HE KE TO LS LC LH mq PA3 PA7 PB1 PB2 PA1 PA2 PA4 PA5 PA6 PB3 PB4 PB5) (hW : relW kl KP KF mhw mwn WA1 WA2) (hT : relT ti tm gp lk mtm mgp mlk) (hC0 : (isw i 0 (nI nq - 1) = 0 ∧ TO' = TO ∧ SI' = SI ∧ LK' = LK ∧ LE' = LE ∧ GR' = GR ∧ ST' = ST ∧ LH' = LH ∧ HE' = HE ∧ KE' = KE ∧ HA' = HA ∧ r = -2) ∨ (∃ a : Nat, i = nI a ∧ a < nq ∧ (¬ TO a = 0 ∨ HE a = 0) ∧ TO' = TO ∧ SI' = SI ∧ LK' = LK ∧ LE' = LE ∧ GR' = GR ∧ ST' = ST ∧ LH' = LH ∧ HE' = HE ∧ KE' = KE ∧ HA' = HA ∧ r = -3) ∨ (∃ rr : Int32, ∃ a : Nat, i = nI a ∧ a < nq ∧ TO a = 0 ∧ ¬ HE a = 0 ∧ TO' = upd TO a 1 ∧ KA nq EP HO (upd TO a 1) LP LF LS LC FA tm (SI, LK, LE, GR, ST, LH, HE, KE, HA) (SI', LK', LE', GR', ST', LH', HE', KE', HA') rr ∧ r = rr)) (hM0 : (isw i 0 (nI mq - 1) = 0 ∧ PA6' = PA6 ∧ MS' = MS ∧ MLk' = MLk ∧ ML' = ML ∧ MH' = MH ∧ MY' = MY ∧ PB5' = PB5 ∧ PA4' = PA4 ∧ PA7' = PA7 ∧ rM = -2) ∨ (∃ a : Nat, i = nI a ∧ a < mq ∧ (¬ PA6 a = 0 ∨ ¬ PA4 a + PA5 a < nI (PA3 a)) ∧ PA6' = PA6 ∧ MS' = MS ∧ MLk' = MLk ∧ ML' = ML ∧ MH' = MH ∧ MY' = MY ∧ PB5' = PB5 ∧ PA4' = PA4 ∧ PA7' = PA7 ∧ rM = -3) ∨ (∃ rr : Int32, ∃ a : Nat, i = nI a ∧ a < mq ∧ PA6 a = 0 ∧ PA4 a + PA5 a < nI (PA3 a) ∧ PA6' = upd PA6 a 1 ∧ MA mq ME PA3 PB1 PB2 PB3 PB4 MAw mtm (MS, MLk, ML, MH, MY, PB5, PA4, upN PA7 a (bset (PA7 a) (ME (2 * PB1 (8 * a + PA3 a - 1) + 1 - PB2 (8 * a + PA3 a - 1))))) (MS', MLk', ML', MH', MY', PB5', PA4', PA7') rr ∧ rM = rr)) : r = rM ∧ relQ np EP ST' CL CB SI' LK' PH EN LE' GR' tm mp ME MY' MX MS' MLk' MU MT MQ ML' MH' ∧ relL np EP LK' nq HA' HO LP LF PY PD HE' KE' TO' LS LC LH' mq PA3 PA7' PB1 PB2 PA1 PA2 PA4' PA5 PA6' PB3 PB4 PB5' := by
  have hP0 := hP
  have hQ0 := hQ
  have hL0 := hL
  have hW0 := hW
  have hT0 := hT
  obtain ⟨rfl, rfl, rfl, rfl, p1, p2⟩ := hP
  obtain ⟨⟨rfl, rfl, rfl, rfl, rfl, rfl, rfl, rfl, rfl⟩, q1, q2, q3, q4, q5⟩ := hQ
  obtain ⟨⟨rfl, rfl, rfl, rfl, rfl, rfl⟩, l1, l2, l3, l4, l5, l6, l7⟩ := hL
  obtain ⟨rfl, rfl, rfl, w1⟩ := hW
  obtain ⟨rfl, rfl, rfl, t1, t2, t3, t4⟩ := hT
  rcases hC0 with ⟨c_h0, e_TO, e_SI, e_LK, e_LE, e_GR, e_ST, e_LH, e_HE, e_KE, e_HA, rfl⟩ | ⟨c_a, c_ea, c_ha, c_h1, e_TO, e_SI, e_LK, e_LE, e_GR, e_ST, e_LH, e_HE, e_KE, e_HA, rfl⟩ | ⟨c_rr, c_a, c_ea, c_ha, c_h1, c_h2, rfl, c_ka, rfl⟩
  · subst TO' SI' LK' LE' GR' ST' LH' HE' KE' HA'
    rcases hM0 with ⟨m_h0, e_PA6, e_MS, e_MLk, e_ML, e_MH, e_MY, e_PB5, e_PA4, e_PA7, rfl⟩ | ⟨m_a, m_ea, m_ha, m_h1, e_PA6, e_MS, e_MLk, e_ML, e_MH, e_MY, e_PB5, e_PA4, e_PA7, rfl⟩ | ⟨m_rr, m_a, m_ea, m_ha, m_h1, m_h2, rfl, m_ma, rfl⟩
    · subst PA6' MS' MLk' ML' MH' MY' PB5' PA4' PA7'
      exact ⟨rfl, hQ0, hL0⟩
    · subst PA6' MS' MLk' ML' MH' MY' PB5' PA4' PA7'
      exact (isw_no m_ha (by omega) m_ea c_h0).elim
    · exact (isw_no m_ha (by omega) m_ea c_h0).elim
  · subst TO' SI' LK' LE' GR' ST' LH' HE' KE' HA'
    rcases hM0 with ⟨m_h0, e_PA6, e_MS, e_MLk, e_ML, e_MH, e_MY, e_PB5, e_PA4, e_PA7, rfl⟩ | ⟨m_a, m_ea, m_ha, m_h1, e_PA6, e_MS, e_MLk, e_ML, e_MH, e_MY, e_PB5, e_PA4, e_PA7, rfl⟩ | ⟨m_rr, m_a, m_ea, m_ha, m_h1, m_h2, rfl, m_ma, rfl⟩
    · subst PA6' MS' MLk' ML' MH' MY' PB5' PA4' PA7'
      exact (isw_no c_ha (by omega) c_ea m_h0).elim
    · subst PA6' MS' MLk' ML' MH' MY' PB5' PA4' PA7'
      exact ⟨rfl, hQ0, hL0⟩
    · obtain rfl := n7_eq c_ha m_ha (by omega) c_ea m_ea
      rcases c_h1 with h | h
      · exact absurd m_h1 h
      · exact absurd h ((open_same l5 h_HO c_ha (l4 c_a c_ha)).mp m_h2)
  · rcases hM0 with ⟨m_h0, e_PA6, e_MS, e_MLk, e_ML, e_MH, e_MY, e_PB5, e_PA4, e_PA7, rfl⟩ | ⟨m_a, m_ea, m_ha, m_h1, e_PA6, e_MS, e_MLk, e_ML, e_MH, e_MY, e_PB5, e_PA4, e_PA7, rfl⟩ | ⟨m_rr, m_a, m_ea, m_ha, m_h1, m_h2, rfl, m_ma, rfl⟩
    · subst PA6' MS' MLk' ML' MH' MY' PB5' PA4' PA7'
      exact (isw_no c_ha (by omega) c_ea m_h0).elim
    · subst PA6' MS' MLk' ML' MH' MY' PB5' PA4' PA7'
      obtain rfl := n7_eq c_ha m_ha (by omega) c_ea m_ea
      rcases m_h1 with h | h
      · exact absurd c_h1 h
      · exact absurd ((open_same l5 h_HO c_ha (l4 c_a c_ha)).mpr c_h2) h
    · obtain rfl := n7_eq c_ha m_ha (by omega) c_ea m_ea
      have hD : LkD nq EP HO LP LF (upd TO c_a 1) LH PB5 (upN PA7 c_a (bset (PA7 c_a) (EP (2 * PB1 (8 * c_a + HO c_a - 1) + 1 - PB2 (8 * c_a + HO c_a - 1))))) := by
        obtain ⟨s1, s2, s3⟩ := l1 c_a c_ha
        obtain ⟨e1, e2, -, -, e5, -⟩ := s3 (HO c_a - 1) (by omega)
        have g := LkD_tell l1 l2 c_ha
        rw [show 8 * c_a + HO c_a - 1 = 8 * c_a + (HO c_a - 1) by omega, e1, e2, side_1 e5]
        exact g
      have hK : KRel nq EP HO LP LF (upd TO c_a 1) (SI, LK, LE, GR, ST, LH, HE, KE, HA) (SI, LK, LE, GR, ST, PB5, KE, upN PA7 c_a (bset (PA7 c_a) (EP (2 * PB1 (8 * c_a + HO c_a - 1) + 1 - PB2 (8 * c_a + HO c_a - 1))))) := ⟨rfl, rfl, rfl, rfl, rfl, rfl, hD⟩
      obtain ⟨⟨k1, k2, k3, k4, k5, k6, kD⟩, hr⟩ := keep_same h_HO l1 hK c_ka m_ma
      have hI : CI np nq HO LP LF LS SI' LK' LH' HE' HA' := CI_KA h_HO l3 (s := (SI, LK, LE, GR, ST, LH, HE, KE, HA)) ⟨q3, l6, l5⟩ c_ka
      have hST := KA_ST c_ka q4
      obtain ⟨L, hL1, -⟩ := c_ka
      have hs := ck_KH hL1
      exact ⟨hr, ⟨⟨rfl, rfl, k5, rfl, k1, k2, rfl, k3, k4⟩, q1, q2, hI.1, hST, q5⟩, ⟨⟨rfl, rfl, rfl, rfl, k6, rfl⟩, l1, kD, l3, fun q hq => i32_3 (hs q) rfl (l4 q hq), hI.2.2, hI.2.1, upd_nar l7 _ (nar01 (Or.inr rfl))⟩⟩

set_option maxHeartbeats 4000000 in
theorem rel_away_1 {nn : Nat} {FA : Nat → Int32} {FB : Nat → Int32} {FR : Nat → Int32} {mn : Nat} {MAw : Nat → Int32} {MB : Nat → Int32} {MR : Nat → Int32} {np : Nat} {EP : Nat → Nat} {ST : Nat → Nat} {CL : Nat → Nat} {CB : Nat → Nat} {SI : Nat → Int32} {LK : Nat → Int32} {PH : Nat → Int32} {EN : Nat → Int32} {LE : Nat → Int32} {GR : Nat → Int32} {tm : Int32} {mp : Nat} {ME : Nat → Nat} {MY : Nat → Nat} {MX : Nat → Nat} {MS : Nat → Int32} {MLk : Nat → Int32} {MU : Nat → Int32} {MT : Nat → Int32} {MQ : Nat → Int32} {ML : Nat → Int32} {MH : Nat → Int32} {nq : Nat} {HA : Int32} {HO : Nat → Nat} {LP : Nat → Nat} {LF : Nat → Nat} {PY : Nat → Int32} {PD : Nat → Int32} {HE : Nat → Int32} {KE : Nat → Int32} {TO : Nat → Int32} {LS : Nat → Int32} {LC : Nat → Int32} {LH : Nat → Int32} {mq : Nat} {PA3 : Nat → Nat} {PA7 : Nat → Nat} {PB1 : Nat → Nat} {PB2 : Nat → Nat} {PA1 : Nat → Int32} {PA2 : Nat → Int32} {PA4 : Nat → Int32} {PA5 : Nat → Int32} {PA6 : Nat → Int32} {PB3 : Nat → Int32} {PB4 : Nat → Int32} {PB5 : Nat → Int32} {kl : Nat} {KP : Nat → Nat} {KF : Nat → Nat} {mhw : Int32} {mwn : Nat} {WA1 : Nat → Nat} {WA2 : Nat → Nat} {ti : Nat} {gp : Int32} {lk : Int32} {mtm : Int32} {mgp : Int32} {mlk : Int32} {HA' : Int32} {HE' : Nat → Int32} {KE' : Nat → Int32} {LH' : Nat → Int32} {SI' : Nat → Int32} {LK' : Nat → Int32} {ST' : Nat → Nat} {LE' : Nat → Int32} {GR' : Nat → Int32} {PH' : Nat → Int32} {FA' : Nat → Int32} {MAw' : Nat → Int32} {PB5' : Nat → Int32} {PA4' : Nat → Int32} {MLk' : Nat → Int32} {MS' : Nat → Int32} {PA7' : Nat → Nat} {MY' : Nat → Nat} {ML' : Nat → Int32} {MH' : Nat → Int32} {MU' : Nat → Int32} {MT' : Nat → Int32} {i : Int32} {r : Int32} {rM : Int32} (h_nn : nn ≤ 7) (h_np : np ≤ 12) (h_nq : nq ≤ 40) (h_kl : kl ≤ 6) (h_HO : ∀ zz, HO zz ≤ 6) (h_LP : ∀ zz, LP zz ≤ 11) (h_LF : ∀ zz, LF zz ≤ 1) (h_EP : ∀ zz, EP zz ≤ 6) (h_CL : ∀ zz, CL zz ≤ 1) (h_KF : ∀ zz, KF zz ≤ 1) (hti : ti ≤ 2560) (hP : relP nn FA FB FR mn MAw MB MR) (hQ : relQ np EP ST CL CB SI LK PH EN LE GR tm mp ME MY MX MS MLk MU MT MQ ML MH) (hL : relL np EP LK nq HA HO LP LF PY PD HE KE TO LS LC LH mq PA3 PA7 PB1 PB2 PA1 PA2 PA4 PA5 PA6 PB3 PB4 PB5) (hW : relW kl KP KF mhw mwn WA1 WA2) (hT : relT ti tm gp lk mtm mgp mlk) (hC0 : (isw i 0 (nI nn - 1) = 0 ∧ FA' = FA ∧ PH' = PH ∧ SI' = SI ∧ LK' = LK ∧ LE' = LE ∧ GR' = GR ∧ ST' = ST ∧ LH' = LH ∧ HE' = HE ∧ KE' = KE ∧ HA' = HA ∧ r = -2) ∨ (∃ a : Nat, i = nI a ∧ a < nn ∧ FA a = 1 ∧ FA' = FA ∧ PH' = PH ∧ SI' = SI ∧ LK' = LK ∧ LE' = LE ∧ GR' = GR ∧ ST' = ST ∧ LH' = LH ∧ HE' = HE ∧ KE' = KE ∧ HA' = HA ∧ r = -3) ∨ (∃ a : Nat, i = nI a ∧ a < nn ∧ ¬ FA a = 1 ∧ FA' = upd FA a 1 ∧ PH' = PH ∧ SI' = SI ∧ LK' = LK ∧ LE' = LE ∧ GR' = GR ∧ ST' = ST ∧ LH' = LH ∧ HE' = HE ∧ KE' = KE ∧ HA' = HA ∧ r = 0)) (hM0 : (isw i 0 (nI mn - 1) = 0 ∧ MAw' = MAw ∧ MU' = MU ∧ MT' = MT ∧ MS' = MS ∧ MLk' = MLk ∧ ML' = ML ∧ MH' = MH ∧ MY' = MY ∧ PB5' = PB5 ∧ PA4' = PA4 ∧ PA7' = PA7 ∧ rM = -2) ∨ (∃ a : Nat, i = nI a ∧ a < mn ∧ MAw a = 1 ∧ MAw' = MAw ∧ MU' = MU ∧ MT' = MT ∧ MS' = MS ∧ MLk' = MLk ∧ ML' = ML ∧ MH' = MH ∧ MY' = MY ∧ PB5' = PB5 ∧ PA4' = PA4 ∧ PA7' = PA7 ∧ rM = -3) ∨ (∃ a : Nat, i = nI a ∧ a < mn ∧ ¬ MAw a = 1 ∧ MAw' = upd MAw a 1 ∧ MU' = MU ∧ MT' = MT ∧ MS' = MS ∧ MLk' = MLk ∧ ML' = ML ∧ MH' = MH ∧ MY' = MY ∧ PB5' = PB5 ∧ PA4' = PA4 ∧ PA7' = PA7 ∧ rM = 0)) : r = rM ∧ relP nn FA' FB FR mn MAw' MB MR ∧ relQ np EP ST' CL CB SI' LK' PH' EN LE' GR' tm mp ME MY' MX MS' MLk' MU' MT' MQ ML' MH' ∧ relL np EP LK' nq HA' HO LP LF PY PD HE' KE' TO LS LC LH' mq PA3 PA7' PB1 PB2 PA1 PA2 PA4' PA5 PA6 PB3 PB4 PB5' := by
  have hP0 := hP
  have hQ0 := hQ
  have hL0 := hL
  have hW0 := hW
  have hT0 := hT
  obtain ⟨rfl, rfl, rfl, rfl, p1, p2⟩ := hP
  obtain ⟨⟨rfl, rfl, rfl, rfl, rfl, rfl, rfl, rfl, rfl⟩, q1, q2, q3, q4, q5⟩ := hQ
  obtain ⟨⟨rfl, rfl, rfl, rfl, rfl, rfl⟩, l1, l2, l3, l4, l5, l6, l7⟩ := hL
  obtain ⟨rfl, rfl, rfl, w1⟩ := hW
  obtain ⟨rfl, rfl, rfl, t1, t2, t3, t4⟩ := hT
  rcases hC0 with ⟨c_h0, e_FA, e_PH, e_SI, e_LK, e_LE, e_GR, e_ST, e_LH, e_HE, e_KE, e_HA, rfl⟩ | ⟨c_a, c_ea, c_ha, c_h1, e_FA, e_PH, e_SI, e_LK, e_LE, e_GR, e_ST, e_LH, e_HE, e_KE, e_HA, rfl⟩ | ⟨c_a, c_ea, c_ha, c_h1, rfl, e_PH, e_SI, e_LK, e_LE, e_GR, e_ST, e_LH, e_HE, e_KE, e_HA, rfl⟩
  · subst FA' PH' SI' LK' LE' GR' ST' LH' HE' KE' HA'
    rcases hM0 with ⟨m_h0, e_MAw, e_MU, e_MT, e_MS, e_MLk, e_ML, e_MH, e_MY, e_PB5, e_PA4, e_PA7, rfl⟩ | ⟨m_a, m_ea, m_ha, m_h1, e_MAw, e_MU, e_MT, e_MS, e_MLk, e_ML, e_MH, e_MY, e_PB5, e_PA4, e_PA7, rfl⟩ | ⟨m_a, m_ea, m_ha, m_h1, rfl, e_MU, e_MT, e_MS, e_MLk, e_ML, e_MH, e_MY, e_PB5, e_PA4, e_PA7, rfl⟩
    · subst MAw' MU' MT' MS' MLk' ML' MH' MY' PB5' PA4' PA7'
      exact ⟨rfl, hP0, hQ0, hL0⟩
    · subst MAw' MU' MT' MS' MLk' ML' MH' MY' PB5' PA4' PA7'
      exact (isw_no m_ha (by omega) m_ea c_h0).elim
    · subst MU' MT' MS' MLk' ML' MH' MY' PB5' PA4' PA7'
      exact (isw_no m_ha (by omega) m_ea c_h0).elim
  · subst FA' PH' SI' LK' LE' GR' ST' LH' HE' KE' HA'
    rcases hM0 with ⟨m_h0, e_MAw, e_MU, e_MT, e_MS, e_MLk, e_ML, e_MH, e_MY, e_PB5, e_PA4, e_PA7, rfl⟩ | ⟨m_a, m_ea, m_ha, m_h1, e_MAw, e_MU, e_MT, e_MS, e_MLk, e_ML, e_MH, e_MY, e_PB5, e_PA4, e_PA7, rfl⟩ | ⟨m_a, m_ea, m_ha, m_h1, rfl, e_MU, e_MT, e_MS, e_MLk, e_ML, e_MH, e_MY, e_PB5, e_PA4, e_PA7, rfl⟩
    · subst MAw' MU' MT' MS' MLk' ML' MH' MY' PB5' PA4' PA7'
      exact (isw_no c_ha (by omega) c_ea m_h0).elim
    · subst MAw' MU' MT' MS' MLk' ML' MH' MY' PB5' PA4' PA7'
      exact ⟨rfl, hP0, hQ0, hL0⟩
    · subst MU' MT' MS' MLk' ML' MH' MY' PB5' PA4' PA7'
      obtain rfl := n7_eq c_ha m_ha (by omega) c_ea m_ea
      exact absurd c_h1 m_h1
  · subst PH' SI' LK' LE' GR' ST' LH' HE' KE' HA'
    rcases hM0 with ⟨m_h0, e_MAw, e_MU, e_MT, e_MS, e_MLk, e_ML, e_MH, e_MY, e_PB5, e_PA4, e_PA7, rfl⟩ | ⟨m_a, m_ea, m_ha, m_h1, e_MAw, e_MU, e_MT, e_MS, e_MLk, e_ML, e_MH, e_MY, e_PB5, e_PA4, e_PA7, rfl⟩ | ⟨m_a, m_ea, m_ha, m_h1, rfl, e_MU, e_MT, e_MS, e_MLk, e_ML, e_MH, e_MY, e_PB5, e_PA4, e_PA7, rfl⟩
    · subst MAw' MU' MT' MS' MLk' ML' MH' MY' PB5' PA4' PA7'
      exact (isw_no c_ha (by omega) c_ea m_h0).elim
    · subst MAw' MU' MT' MS' MLk' ML' MH' MY' PB5' PA4' PA7'
      obtain rfl := n7_eq c_ha m_ha (by omega) c_ea m_ea
      exact absurd m_h1 c_h1
    · subst MU' MT' MS' MLk' ML' MH' MY' PB5' PA4' PA7'
      obtain rfl := n7_eq c_ha m_ha (by omega) c_ea m_ea
      exact ⟨rfl, ⟨rfl, rfl, rfl, rfl, p1, p2⟩, hQ0, hL0⟩

set_option maxHeartbeats 4000000 in
theorem rel_away_0 {nn : Nat} {FA : Nat → Int32} {FB : Nat → Int32} {FR : Nat → Int32} {mn : Nat} {MAw : Nat → Int32} {MB : Nat → Int32} {MR : Nat → Int32} {np : Nat} {EP : Nat → Nat} {ST : Nat → Nat} {CL : Nat → Nat} {CB : Nat → Nat} {SI : Nat → Int32} {LK : Nat → Int32} {PH : Nat → Int32} {EN : Nat → Int32} {LE : Nat → Int32} {GR : Nat → Int32} {tm : Int32} {mp : Nat} {ME : Nat → Nat} {MY : Nat → Nat} {MX : Nat → Nat} {MS : Nat → Int32} {MLk : Nat → Int32} {MU : Nat → Int32} {MT : Nat → Int32} {MQ : Nat → Int32} {ML : Nat → Int32} {MH : Nat → Int32} {nq : Nat} {HA : Int32} {HO : Nat → Nat} {LP : Nat → Nat} {LF : Nat → Nat} {PY : Nat → Int32} {PD : Nat → Int32} {HE : Nat → Int32} {KE : Nat → Int32} {TO : Nat → Int32} {LS : Nat → Int32} {LC : Nat → Int32} {LH : Nat → Int32} {mq : Nat} {PA3 : Nat → Nat} {PA7 : Nat → Nat} {PB1 : Nat → Nat} {PB2 : Nat → Nat} {PA1 : Nat → Int32} {PA2 : Nat → Int32} {PA4 : Nat → Int32} {PA5 : Nat → Int32} {PA6 : Nat → Int32} {PB3 : Nat → Int32} {PB4 : Nat → Int32} {PB5 : Nat → Int32} {kl : Nat} {KP : Nat → Nat} {KF : Nat → Nat} {mhw : Int32} {mwn : Nat} {WA1 : Nat → Nat} {WA2 : Nat → Nat} {ti : Nat} {gp : Int32} {lk : Int32} {mtm : Int32} {mgp : Int32} {mlk : Int32} {HA' : Int32} {HE' : Nat → Int32} {KE' : Nat → Int32} {LH' : Nat → Int32} {SI' : Nat → Int32} {LK' : Nat → Int32} {ST' : Nat → Nat} {LE' : Nat → Int32} {GR' : Nat → Int32} {PH' : Nat → Int32} {FA' : Nat → Int32} {MAw' : Nat → Int32} {PB5' : Nat → Int32} {PA4' : Nat → Int32} {MLk' : Nat → Int32} {MS' : Nat → Int32} {PA7' : Nat → Nat} {MY' : Nat → Nat} {ML' : Nat → Int32} {MH' : Nat → Int32} {MU' : Nat → Int32} {MT' : Nat → Int32} {i : Int32} {r : Int32} {rM : Int32} (h_nn : nn ≤ 7) (h_np : np ≤ 12) (h_nq : nq ≤ 40) (h_kl : kl ≤ 6) (h_HO : ∀ zz, HO zz ≤ 6) (h_LP : ∀ zz, LP zz ≤ 11) (h_LF : ∀ zz, LF zz ≤ 1) (h_EP : ∀ zz, EP zz ≤ 6) (h_CL : ∀ zz, CL zz ≤ 1) (h_KF : ∀ zz, KF zz ≤ 1) (hti : ti ≤ 2560) (hP : relP nn FA FB FR mn MAw MB MR) (hQ : relQ np EP ST CL CB SI LK PH EN LE GR tm mp ME MY MX MS MLk MU MT MQ ML MH) (hL : relL np EP LK nq HA HO LP LF PY PD HE KE TO LS LC LH mq PA3 PA7 PB1 PB2 PA1 PA2 PA4 PA5 PA6 PB3 PB4 PB5) (hW : relW kl KP KF mhw mwn WA1 WA2) (hT : relT ti tm gp lk mtm mgp mlk) (hC0 : (isw i 0 (nI nn - 1) = 0 ∧ FA' = FA ∧ PH' = PH ∧ SI' = SI ∧ LK' = LK ∧ LE' = LE ∧ GR' = GR ∧ ST' = ST ∧ LH' = LH ∧ HE' = HE ∧ KE' = KE ∧ HA' = HA ∧ r = -2) ∨ (∃ a : Nat, i = nI a ∧ a < nn ∧ FA a = 0 ∧ FA' = FA ∧ PH' = PH ∧ SI' = SI ∧ LK' = LK ∧ LE' = LE ∧ GR' = GR ∧ ST' = ST ∧ LH' = LH ∧ HE' = HE ∧ KE' = KE ∧ HA' = HA ∧ r = -3) ∨ (∃ rr : Int32, ∃ a : Nat, ∃ S1 : Nat → Int32, ∃ L1 : Nat → Int32, ∃ G1 : Nat → Int32, i = nI a ∧ a < nn ∧ ¬ FA a = 0 ∧ FA' = upd FA a 0 ∧ KA nq EP HO TO LP LF LS LC (upd FA a 0) tm (SI, LK, LE, GR, ST, LH, HE, KE, HA) (S1, LK', L1, G1, ST', LH', HE', KE', HA') rr ∧ SI' = clG (clB EP ST' CL CB (upd FA a 0) EN PH tm) np S1 ∧ PH' = clF (clB EP ST' CL CB (upd FA a 0) EN PH tm) np 2 PH ∧ LE' = clF (clB EP ST' CL CB (upd FA a 0) EN PH tm) np 0 L1 ∧ GR' = clF (clB EP ST' CL CB (upd FA a 0) EN PH tm) np 0 G1 ∧ r = rr)) (hM0 : (isw i 0 (nI mn - 1) = 0 ∧ MAw' = MAw ∧ MU' = MU ∧ MT' = MT ∧ MS' = MS ∧ MLk' = MLk ∧ ML' = ML ∧ MH' = MH ∧ MY' = MY ∧ PB5' = PB5 ∧ PA4' = PA4 ∧ PA7' = PA7 ∧ rM = -2) ∨ (∃ a : Nat, i = nI a ∧ a < mn ∧ MAw a = 0 ∧ MAw' = MAw ∧ MU' = MU ∧ MT' = MT ∧ MS' = MS ∧ MLk' = MLk ∧ ML' = ML ∧ MH' = MH ∧ MY' = MY ∧ PB5' = PB5 ∧ PA4' = PA4 ∧ PA7' = PA7 ∧ rM = -3) ∨ (∃ rr : Int32, ∃ a : Nat, ∃ S1 : Nat → Int32, ∃ L1 : Nat → Int32, ∃ G1 : Nat → Int32, i = nI a ∧ a < mn ∧ ¬ MAw a = 0 ∧ MAw' = upd MAw a 0 ∧ MA mq ME PA3 PB1 PB2 PB3 PB4 (upd MAw a 0) mtm (MS, MLk, ML, MH, MY, PB5, PA4, PA7) (S1, MLk', L1, G1, MY', PB5', PA4', PA7') rr ∧ MS' = clG (mcl ME MX MY' MQ (upd MAw a 0) MT MU mtm false) mp S1 ∧ MU' = clF (mcl ME MX MY' MQ (upd MAw a 0) MT MU mtm false) mp 2 MU ∧ ML' = clF (mcl ME MX MY' MQ (upd MAw a 0) MT MU mtm false) mp 0 L1 ∧ MH' = clF (mcl ME MX MY' MQ (upd MAw a 0) MT MU mtm false) mp 0 G1 ∧ MT' = clF (mcl ME MX MY' MQ (upd MAw a 0) MT MU mtm false) mp (-1) MT ∧ rM = rr)) : r = rM ∧ relP nn FA' FB FR mn MAw' MB MR ∧ relQ np EP ST' CL CB SI' LK' PH' EN LE' GR' tm mp ME MY' MX MS' MLk' MU' MT' MQ ML' MH' ∧ relL np EP LK' nq HA' HO LP LF PY PD HE' KE' TO LS LC LH' mq PA3 PA7' PB1 PB2 PA1 PA2 PA4' PA5 PA6 PB3 PB4 PB5' := by
  have hP0 := hP
  have hQ0 := hQ
  have hL0 := hL
  have hW0 := hW
  have hT0 := hT
  obtain ⟨rfl, rfl, rfl, rfl, p1, p2⟩ := hP
  obtain ⟨⟨rfl, rfl, rfl, rfl, rfl, rfl, rfl, rfl, rfl⟩, q1, q2, q3, q4, q5⟩ := hQ
  obtain ⟨⟨rfl, rfl, rfl, rfl, rfl, rfl⟩, l1, l2, l3, l4, l5, l6, l7⟩ := hL
  obtain ⟨rfl, rfl, rfl, w1⟩ := hW
  obtain ⟨rfl, rfl, rfl, t1, t2, t3, t4⟩ := hT
  rcases hC0 with ⟨c_h0, e_FA, e_PH, e_SI, e_LK, e_LE, e_GR, e_ST, e_LH, e_HE, e_KE, e_HA, rfl⟩ | ⟨c_a, c_ea, c_ha, c_h1, e_FA, e_PH, e_SI, e_LK, e_LE, e_GR, e_ST, e_LH, e_HE, e_KE, e_HA, rfl⟩ | ⟨c_rr, c_a, c_S1, c_L1, c_G1, c_ea, c_ha, c_h1, rfl, c_ka, rfl, rfl, rfl, rfl, rfl⟩
  · subst FA' PH' SI' LK' LE' GR' ST' LH' HE' KE' HA'
    rcases hM0 with ⟨m_h0, e_MAw, e_MU, e_MT, e_MS, e_MLk, e_ML, e_MH, e_MY, e_PB5, e_PA4, e_PA7, rfl⟩ | ⟨m_a, m_ea, m_ha, m_h1, e_MAw, e_MU, e_MT, e_MS, e_MLk, e_ML, e_MH, e_MY, e_PB5, e_PA4, e_PA7, rfl⟩ | ⟨m_rr, m_a, m_S1, m_L1, m_G1, m_ea, m_ha, m_h1, rfl, m_ma, rfl, rfl, rfl, rfl, rfl, rfl⟩
    · subst MAw' MU' MT' MS' MLk' ML' MH' MY' PB5' PA4' PA7'
      exact ⟨rfl, hP0, hQ0, hL0⟩
    · subst MAw' MU' MT' MS' MLk' ML' MH' MY' PB5' PA4' PA7'
      exact (isw_no m_ha (by omega) m_ea c_h0).elim
    · exact (isw_no m_ha (by omega) m_ea c_h0).elim
  · subst FA' PH' SI' LK' LE' GR' ST' LH' HE' KE' HA'
    rcases hM0 with ⟨m_h0, e_MAw, e_MU, e_MT, e_MS, e_MLk, e_ML, e_MH, e_MY, e_PB5, e_PA4, e_PA7, rfl⟩ | ⟨m_a, m_ea, m_ha, m_h1, e_MAw, e_MU, e_MT, e_MS, e_MLk, e_ML, e_MH, e_MY, e_PB5, e_PA4, e_PA7, rfl⟩ | ⟨m_rr, m_a, m_S1, m_L1, m_G1, m_ea, m_ha, m_h1, rfl, m_ma, rfl, rfl, rfl, rfl, rfl, rfl⟩
    · subst MAw' MU' MT' MS' MLk' ML' MH' MY' PB5' PA4' PA7'
      exact (isw_no c_ha (by omega) c_ea m_h0).elim
    · subst MAw' MU' MT' MS' MLk' ML' MH' MY' PB5' PA4' PA7'
      exact ⟨rfl, hP0, hQ0, hL0⟩
    · obtain rfl := n7_eq c_ha m_ha (by omega) c_ea m_ea
      exact absurd c_h1 m_h1
  · rcases hM0 with ⟨m_h0, e_MAw, e_MU, e_MT, e_MS, e_MLk, e_ML, e_MH, e_MY, e_PB5, e_PA4, e_PA7, rfl⟩ | ⟨m_a, m_ea, m_ha, m_h1, e_MAw, e_MU, e_MT, e_MS, e_MLk, e_ML, e_MH, e_MY, e_PB5, e_PA4, e_PA7, rfl⟩ | ⟨m_rr, m_a, m_S1, m_L1, m_G1, m_ea, m_ha, m_h1, rfl, m_ma, rfl, rfl, rfl, rfl, rfl, rfl⟩
    · subst MAw' MU' MT' MS' MLk' ML' MH' MY' PB5' PA4' PA7'
      exact (isw_no c_ha (by omega) c_ea m_h0).elim
    · subst MAw' MU' MT' MS' MLk' ML' MH' MY' PB5' PA4' PA7'
      obtain rfl := n7_eq c_ha m_ha (by omega) c_ea m_ea
      exact absurd m_h1 c_h1
    · obtain rfl := n7_eq c_ha m_ha (by omega) c_ea m_ea
      have hK : KRel nq EP HO LP LF TO (SI, LK, LE, GR, ST, LH, HE, KE, HA) (SI, LK, LE, GR, ST, PB5, KE, PA7) := ⟨rfl, rfl, rfl, rfl, rfl, rfl, l2⟩
      obtain ⟨⟨k1, k2, k3, k4, k5, k6, kD⟩, hr⟩ := keep_same h_HO l1 hK c_ka m_ma
      have hI : CI np nq HO LP LF LS c_S1 LK' LH' HE' HA' := CI_KA h_HO l3 (s := (SI, LK, LE, GR, ST, LH, HE, KE, HA)) ⟨q3, l6, l5⟩ c_ka
      have hST := KA_ST c_ka q4
      obtain ⟨L, hL1, -⟩ := c_ka
      have hs := ck_KH hL1
      have k1 : c_S1 = m_S1 := k1
      have k2 : LK' = MLk' := k2
      have k3 : c_L1 = m_L1 := k3
      have k4 : c_G1 = m_G1 := k4
      have k5 : ST' = MY' := k5
      have k6 : KE' = PA4' := k6
      subst k1 k2 k3 k4 k5 k6
      have hB : ∀ p, p < np → clB EP ST' CL CB (upd FA c_a 0) EN PH tm p = mcl EP CB ST' MQ (upd FA c_a 0) MT PH tm false p := fun p hp => cl_same2 q1 hp (q2 p hp) h_EP (h_CL p) (q5 p hp)
      have hI2 := CI_le hI (SI' := clG (clB EP ST' CL CB (upd FA c_a 0) EN PH tm) np c_S1) clG_or
      exact ⟨hr, ⟨rfl, rfl, rfl, rfl, p1, p2⟩, ⟨⟨rfl, rfl, rfl, rfl, clG_congr hB rfl, rfl, clF_congr hB rfl, clF_congr hB rfl, clF_congr hB rfl⟩, ClR_cl q1 hB, q2, hI2.1, hST, clF_EN q5⟩, ⟨⟨rfl, rfl, rfl, rfl, rfl, rfl⟩, l1, kD, l3, fun q hq => i32_3 (hs q) rfl (l4 q hq), hI2.2.2, hI2.2.1, l7⟩⟩
