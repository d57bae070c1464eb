-- the relation: people, pair, fee, gap, look, best, wayAt
set_option maxHeartbeats 4000000 in
theorem rel_people {nn : Nat} {FA : Nat → Int32} {FB : Nat → Int32} {FR : Nat → Int32} {mn : Nat} {MAw : Nat → Int32} {MB : Nat → Int32} {MR : Nat → Int32} {np : Nat} {EP : Nat → Nat} {ST : Nat → Nat} {CL : Nat → Nat} {CB : Nat → Nat} {SI : Nat → Int32} {LK : Nat → Int32} {PH : Nat → Int32} {EN : Nat → Int32} {LE : Nat → Int32} {GR : Nat → Int32} {tm : Int32} {mp : Nat} {ME : Nat → Nat} {MY : Nat → Nat} {MX : Nat → Nat} {MS : Nat → Int32} {MLk : Nat → Int32} {MU : Nat → Int32} {MT : Nat → Int32} {MQ : Nat → Int32} {ML : Nat → Int32} {MH : Nat → Int32} {nq : Nat} {HA : Int32} {HO : Nat → Nat} {LP : Nat → Nat} {LF : Nat → Nat} {PY : Nat → Int32} {PD : Nat → Int32} {HE : Nat → Int32} {KE : Nat → Int32} {TO : Nat → Int32} {LS : Nat → Int32} {LC : Nat → Int32} {LH : Nat → Int32} {mq : Nat} {PA3 : Nat → Nat} {PA7 : Nat → Nat} {PB1 : Nat → Nat} {PB2 : Nat → Nat} {PA1 : Nat → Int32} {PA2 : Nat → Int32} {PA4 : Nat → Int32} {PA5 : Nat → Int32} {PA6 : Nat → Int32} {PB3 : Nat → Int32} {PB4 : Nat → Int32} {PB5 : Nat → Int32} {kl : Nat} {KP : Nat → Nat} {KF : Nat → Nat} {mhw : Int32} {mwn : Nat} {WA1 : Nat → Nat} {WA2 : Nat → Nat} {ti : Nat} {gp : Int32} {lk : Int32} {mtm : Int32} {mgp : Int32} {mlk : Int32} {tm' : Int32} {nn' : Nat} {np' : Nat} {nq' : Nat} {HA' : Int32} {kl' : Nat} {FB' : Nat → Int32} {FR' : Nat → Int32} {FA' : Nat → Int32} {mn' : Nat} {mtm' : Int32} {mp' : Nat} {mq' : Nat} {mhw' : Int32} {mwn' : Nat} {MAw' : Nat → Int32} {MB' : Nat → Int32} {MR' : Nat → Int32} {u : Int32} {r : Int32} {rM : Int32} (h_nn : nn ≤ 7) (h_np : np ≤ 12) (h_nq : nq ≤ 40) (h_kl : kl ≤ 6) (h_HO : ∀ zz, HO zz ≤ 6) (h_LP : ∀ zz, LP zz ≤ 11) (h_LF : ∀ zz, LF zz ≤ 1) (h_EP : ∀ zz, EP zz ≤ 6) (h_CL : ∀ zz, CL zz ≤ 1) (h_KF : ∀ zz, KF zz ≤ 1) (hti : ti ≤ 2560) (hP : relP nn FA FB FR mn MAw MB MR) (hQ : relQ np EP ST CL CB SI LK PH EN LE GR tm mp ME MY MX MS MLk MU MT MQ ML MH) (hL : relL np EP LK nq HA HO LP LF PY PD HE KE TO LS LC LH mq PA3 PA7 PB1 PB2 PA1 PA2 PA4 PA5 PA6 PB3 PB4 PB5) (hW : relW kl KP KF mhw mwn WA1 WA2) (hT : relT ti tm gp lk mtm mgp mlk) (o_n : nn' ≤ 7) (o_m : mn' ≤ 7) (hC0 : (isw u 2 7 = 0 ∧ nn' = nn ∧ FB' = FB ∧ FR' = FR ∧ FA' = FA ∧ np' = np ∧ nq' = nq ∧ HA' = HA ∧ kl' = kl ∧ tm' = tm ∧ r = -2) ∨ (¬ isw u 2 7 = 0 ∧ u = nI nn' ∧ FB' = zf 7 FB ∧ FR' = zf 7 FR ∧ FA' = zf 7 FA ∧ np' = 0 ∧ nq' = 0 ∧ HA' = 0 ∧ kl' = 0 ∧ tm' = 0 ∧ r = 1)) (hM0 : (isw u 2 7 = 0 ∧ mn' = mn ∧ MB' = MB ∧ MR' = MR ∧ MAw' = MAw ∧ mp' = mp ∧ mq' = mq ∧ mhw' = mhw ∧ mwn' = mwn ∧ mtm' = mtm ∧ rM = -2) ∨ (¬ isw u 2 7 = 0 ∧ u = nI mn' ∧ MB' = zf 7 MB ∧ MR' = zf 7 MR ∧ MAw' = zf 7 MAw ∧ mp' = 0 ∧ mq' = 0 ∧ mhw' = 0 ∧ mwn' = 0 ∧ mtm' = 0 ∧ rM = 1)) : r = rM ∧ relP nn' FA' FB' FR' mn' MAw' MB' MR' ∧ relQ np' EP ST CL CB SI LK PH EN LE GR tm' mp' ME MY MX MS MLk MU MT MQ ML MH ∧ relL np' EP LK nq' HA' HO LP LF PY PD HE KE TO LS LC LH mq' PA3 PA7 PB1 PB2 PA1 PA2 PA4 PA5 PA6 PB3 PB4 PB5 ∧ relW kl' KP KF mhw' mwn' WA1 WA2 ∧ relT (ti + 5) tm' gp lk mtm' mgp mlk := by
  have hP0 := hP
  have hQ0 := hQ
  have hL0 := hL
  have hW0 := hW
  have hT0 := hT
  obtain ⟨rfl, rfl, rfl, rfl, p1, p2⟩ := hP
  obtain ⟨⟨rfl, rfl, rfl, rfl, rfl, rfl, rfl, rfl, rfl⟩, q1, q2, q3, q4, q5⟩ := hQ
  obtain ⟨⟨rfl, rfl, rfl, rfl, rfl, rfl⟩, l1, l2, l3, l4, l5, l6, l7⟩ := hL
  obtain ⟨rfl, rfl, rfl, w1⟩ := hW
  obtain ⟨rfl, rfl, rfl, t1, t2, t3, t4⟩ := hT
  rcases hC0 with ⟨c_h0, e_nn, e_FB, e_FR, e_FA, e_np, e_nq, e_HA, e_kl, e_tm, rfl⟩ | ⟨c_h1, c_e1, rfl, rfl, rfl, rfl, rfl, rfl, rfl, rfl, rfl⟩
  · subst nn' FB' FR' FA' np' nq' HA' kl' tm'
    rcases hM0 with ⟨m_h0, e_mn, e_MB, e_MR, e_MAw, e_mp, e_mq, e_mhw, e_mwn, e_mtm, rfl⟩ | ⟨m_h1, m_e1, rfl, rfl, rfl, rfl, rfl, rfl, rfl, rfl, rfl⟩
    · subst mn' MB' MR' MAw' mp' mq' mhw' mwn' mtm'
      exact ⟨rfl, hP0, hQ0, hL0, hW0, relT_up hT0⟩
    · exact absurd c_h0 m_h1
  · rcases hM0 with ⟨m_h0, e_mn, e_MB, e_MR, e_MAw, e_mp, e_mq, e_mhw, e_mwn, e_mtm, rfl⟩ | ⟨m_h1, m_e1, rfl, rfl, rfl, rfl, rfl, rfl, rfl, rfl, rfl⟩
    · subst mn' MB' MR' MAw' mp' mq' mhw' mwn' mtm'
      exact absurd m_h0 c_h1
    · obtain rfl := (nI_eq (by omega) (by omega)).mp (c_e1.symm.trans m_e1)
      have z : (0 : Int32).toInt = 0 := Int32.toInt_zero
      exact ⟨rfl, ⟨rfl, rfl, rfl, rfl, zf_b p1, zf_b p2⟩, ⟨⟨rfl, rfl, rfl, rfl, rfl, rfl, rfl, rfl, rfl⟩, fun p hp => absurd hp (Nat.not_lt_zero _), fun p hp => absurd hp (Nat.not_lt_zero _), q3, fun p hp => absurd hp (Nat.not_lt_zero _), fun p hp => absurd hp (Nat.not_lt_zero _)⟩, ⟨⟨rfl, rfl, rfl, rfl, rfl, rfl⟩, fun p hp => absurd hp (Nat.not_lt_zero _), fun p hp => absurd hp (Nat.not_lt_zero _), fun p hp => absurd hp (Nat.not_lt_zero _), fun p hp => absurd hp (Nat.not_lt_zero _), ⟨fun p hp => absurd hp (Nat.not_lt_zero _), nI_0.symm⟩, fun k hk => absurd hk (Nat.not_lt_zero _), l7⟩, ⟨rfl, rfl, rfl, fun _ => rfl, fun _ => rfl⟩, ⟨rfl, rfl, rfl, by omega, by omega, t3, t4⟩⟩

set_option maxHeartbeats 4000000 in
theorem rel_pair {nn : Nat} {FA : Nat → Int32} {FB : Nat → Int32} {FR : Nat → Int32} {mn : Nat} {MAw : Nat → Int32} {MB : Nat → Int32} {MR : Nat → Int32} {np : Nat} {EP : Nat → Nat} {ST : Nat → Nat} {CL : Nat → Nat} {CB : Nat → Nat} {SI : Nat → Int32} {LK : Nat → Int32} {PH : Nat → Int32} {EN : Nat → Int32} {LE : Nat → Int32} {GR : Nat → Int32} {tm : Int32} {mp : Nat} {ME : Nat → Nat} {MY : Nat → Nat} {MX : Nat → Nat} {MS : Nat → Int32} {MLk : Nat → Int32} {MU : Nat → Int32} {MT : Nat → Int32} {MQ : Nat → Int32} {ML : Nat → Int32} {MH : Nat → Int32} {nq : Nat} {HA : Int32} {HO : Nat → Nat} {LP : Nat → Nat} {LF : Nat → Nat} {PY : Nat → Int32} {PD : Nat → Int32} {HE : Nat → Int32} {KE : Nat → Int32} {TO : Nat → Int32} {LS : Nat → Int32} {LC : Nat → Int32} {LH : Nat → Int32} {mq : Nat} {PA3 : Nat → Nat} {PA7 : Nat → Nat} {PB1 : Nat → Nat} {PB2 : Nat → Nat} {PA1 : Nat → Int32} {PA2 : Nat → Int32} {PA4 : Nat → Int32} {PA5 : Nat → Int32} {PA6 : Nat → Int32} {PB3 : Nat → Int32} {PB4 : Nat → Int32} {PB5 : Nat → Int32} {kl : Nat} {KP : Nat → Nat} {KF : Nat → Nat} {mhw : Int32} {mwn : Nat} {WA1 : Nat → Nat} {WA2 : Nat → Nat} {ti : Nat} {gp : Int32} {lk : Int32} {mtm : Int32} {mgp : Int32} {mlk : Int32} {np' : Nat} {EP' : Nat → Nat} {SI' : Nat → Int32} {LK' : Nat → Int32} {ST' : Nat → Nat} {PH' : Nat → Int32} {LE' : Nat → Int32} {GR' : Nat → Int32} {mp' : Nat} {ME' : Nat → Nat} {MS' : Nat → Int32} {MLk' : Nat → Int32} {MU' : Nat → Int32} {MT' : Nat → Int32} {MY' : Nat → Nat} {ML' : Nat → Int32} {MH' : Nat → Int32} {i : Int32} {j : Int32} {u : Int32} {v : Int32} {r : Int32} {rM : Int32} (h_nn : nn ≤ 7) (h_np : np ≤ 12) (h_nq : nq ≤ 40) (h_kl : kl ≤ 6) (h_HO : ∀ zz, HO zz ≤ 6) (h_LP : ∀ zz, LP zz ≤ 11) (h_LF : ∀ zz, LF zz ≤ 1) (h_EP : ∀ zz, EP zz ≤ 6) (h_CL : ∀ zz, CL zz ≤ 1) (h_KF : ∀ zz, KF zz ≤ 1) (hti : ti ≤ 2560) (hP : relP nn FA FB FR mn MAw MB MR) (hQ : relQ np EP ST CL CB SI LK PH EN LE GR tm mp ME MY MX MS MLk MU MT MQ ML MH) (hL : relL np EP LK nq HA HO LP LF PY PD HE KE TO LS LC LH mq PA3 PA7 PB1 PB2 PA1 PA2 PA4 PA5 PA6 PB3 PB4 PB5) (hW : relW kl KP KF mhw mwn WA1 WA2) (hT : relT ti tm gp lk mtm mgp mlk) (hC0 : (badPair nn i j u v ∧ np' = np ∧ EP' = EP ∧ SI' = SI ∧ LK' = LK ∧ ST' = ST ∧ PH' = PH ∧ LE' = LE ∧ GR' = GR ∧ r = -2) ∨ (¬ badPair nn i j u v ∧ np = 12 ∧ np' = np ∧ EP' = EP ∧ SI' = SI ∧ LK' = LK ∧ ST' = ST ∧ PH' = PH ∧ LE' = LE ∧ GR' = GR ∧ r = -4) ∨ (∃ a : Nat, ∃ b : Nat, ¬ badPair nn i j u v ∧ i = nI a ∧ j = nI b ∧ a < nn ∧ b < nn ∧ ¬ a = b ∧ np < 12 ∧ np' = np + 1 ∧ EP' = upN (upN EP (2 * np) a) (2 * np + 1) b ∧ SI' = upd (upd SI (2 * np) u) (2 * np + 1) v ∧ LK' = upd (upd LK (2 * np) 0) (2 * np + 1) 0 ∧ ST' = upN (upN ST np 0) np (inc64 (upN ST np 0 np)) ∧ PH' = upd PH np 0 ∧ LE' = upd LE np 0 ∧ GR' = upd GR np (u + v) ∧ r = nI np)) (hM0 : (badPair mn i j u v ∧ mp' = mp ∧ ME' = ME ∧ MS' = MS ∧ MLk' = MLk ∧ MY' = MY ∧ MU' = MU ∧ MT' = MT ∧ ML' = ML ∧ MH' = MH ∧ rM = -2) ∨ (¬ badPair mn i j u v ∧ mp = 12 ∧ mp' = mp ∧ ME' = ME ∧ MS' = MS ∧ MLk' = MLk ∧ MY' = MY ∧ MU' = MU ∧ MT' = MT ∧ ML' = ML ∧ MH' = MH ∧ rM = -4) ∨ (∃ a : Nat, ∃ b : Nat, ¬ badPair mn i j u v ∧ i = nI a ∧ j = nI b ∧ a < mn ∧ b < mn ∧ ¬ a = b ∧ mp < 12 ∧ mp' = mp + 1 ∧ ME' = upN (upN ME (2 * mp) a) (2 * mp + 1) b ∧ MS' = upd (upd MS (2 * mp) u) (2 * mp + 1) v ∧ MLk' = upd (upd MLk (2 * mp) 0) (2 * mp + 1) 0 ∧ MY' = upN (upN MY mp 0) mp (inc64 (upN MY mp 0 mp)) ∧ MU' = upd MU mp 0 ∧ MT' = upd MT mp (-1) ∧ ML' = upd ML mp 0 ∧ MH' = upd MH mp (gsum (upd (upd MS (2 * mp) u) (2 * mp + 1) v) mp) ∧ rM = nI mp)) : r = rM ∧ relQ np' EP' ST' CL CB SI' LK' PH' EN LE' GR' tm mp' ME' MY' MX MS' MLk' MU' MT' MQ ML' MH' ∧ relL np' EP' LK' nq HA HO LP LF PY PD HE KE TO LS LC LH mq PA3 PA7 PB1 PB2 PA1 PA2 PA4 PA5 PA6 PB3 PB4 PB5 := by
  have hP0 := hP
  have hQ0 := hQ
  have hL0 := hL
  have hW0 := hW
  have hT0 := hT
  obtain ⟨rfl, rfl, rfl, rfl, p1, p2⟩ := hP
  obtain ⟨⟨rfl, rfl, rfl, rfl, rfl, rfl, rfl, rfl, rfl⟩, q1, q2, q3, q4, q5⟩ := hQ
  obtain ⟨⟨rfl, rfl, rfl, rfl, rfl, rfl⟩, l1, l2, l3, l4, l5, l6, l7⟩ := hL
  obtain ⟨rfl, rfl, rfl, w1⟩ := hW
  obtain ⟨rfl, rfl, rfl, t1, t2, t3, t4⟩ := hT
  rcases hC0 with ⟨c_h0, e_np, e_EP, e_SI, e_LK, e_ST, e_PH, e_LE, e_GR, rfl⟩ | ⟨c_h0, c_h1, e_np, e_EP, e_SI, e_LK, e_ST, e_PH, e_LE, e_GR, rfl⟩ | ⟨c_a, c_b, c_h0, c_ea, c_eb, c_ha, c_hb, c_hab, c_h1, rfl, rfl, rfl, rfl, rfl, rfl, rfl, rfl, rfl⟩
  · subst np' EP' SI' LK' ST' PH' LE' GR'
    rcases hM0 with ⟨m_h0, e_mp, e_ME, e_MS, e_MLk, e_MY, e_MU, e_MT, e_ML, e_MH, rfl⟩ | ⟨m_h0, m_h1, e_mp, e_ME, e_MS, e_MLk, e_MY, e_MU, e_MT, e_ML, e_MH, rfl⟩ | ⟨m_a, m_b, m_h0, m_ea, m_eb, m_ha, m_hb, m_hab, m_h1, rfl, rfl, rfl, rfl, rfl, rfl, rfl, rfl, rfl, rfl⟩
    · subst mp' ME' MS' MLk' MY' MU' MT' ML' MH'
      exact ⟨rfl, hQ0, hL0⟩
    · subst mp' ME' MS' MLk' MY' MU' MT' ML' MH'
      exact absurd c_h0 m_h0
    · exact absurd c_h0 m_h0
  · subst np' EP' SI' LK' ST' PH' LE' GR'
    rcases hM0 with ⟨m_h0, e_mp, e_ME, e_MS, e_MLk, e_MY, e_MU, e_MT, e_ML, e_MH, rfl⟩ | ⟨m_h0, m_h1, e_mp, e_ME, e_MS, e_MLk, e_MY, e_MU, e_MT, e_ML, e_MH, rfl⟩ | ⟨m_a, m_b, m_h0, m_ea, m_eb, m_ha, m_hb, m_hab, m_h1, rfl, rfl, rfl, rfl, rfl, rfl, rfl, rfl, rfl, rfl⟩
    · subst mp' ME' MS' MLk' MY' MU' MT' ML' MH'
      exact absurd m_h0 c_h0
    · subst mp' ME' MS' MLk' MY' MU' MT' ML' MH'
      exact ⟨rfl, hQ0, hL0⟩
    · omega
  · rcases hM0 with ⟨m_h0, e_mp, e_ME, e_MS, e_MLk, e_MY, e_MU, e_MT, e_ML, e_MH, rfl⟩ | ⟨m_h0, m_h1, e_mp, e_ME, e_MS, e_MLk, e_MY, e_MU, e_MT, e_ML, e_MH, rfl⟩ | ⟨m_a, m_b, m_h0, m_ea, m_eb, m_ha, m_hb, m_hab, m_h1, rfl, rfl, rfl, rfl, rfl, rfl, rfl, rfl, rfl, rfl⟩
    · subst mp' ME' MS' MLk' MY' MU' MT' ML' MH'
      exact absurd m_h0 c_h0
    · subst mp' ME' MS' MLk' MY' MU' MT' ML' MH'
      omega
    · obtain rfl := n7_eq c_ha m_ha (by omega) c_ea m_ea
      obtain rfl := n7_eq c_hb m_hb (by omega) c_eb m_eb
      obtain ⟨u0, v0⟩ := bp_in c_h0
      have he : ∀ k, k < 2 * np → upN (upN EP (2 * np) c_a) (2 * np + 1) c_b k = EP k := fun k hk => by rw [upN_n (by omega), upN_n (by omega)]
      exact ⟨rfl, ⟨⟨rfl, rfl, rfl, rfl, rfl, rfl, rfl, rfl, by rw [gsum_pair]⟩, ClR_pair q1 h_CL, ne_pair q2 c_hab, SB_pair q3 u0 v0, st_pair q4, en_pair q5⟩, ⟨⟨rfl, rfl, rfl, rfl, rfl, rfl⟩, LkS_EP l3 he l1, LkD_EP l3 he l2, LPB_up l3, l4, l5, LKI_pair l3 l6, l7⟩⟩

set_option maxHeartbeats 4000000 in
theorem rel_fee {nn : Nat} {FA : Nat → Int32} {FB : Nat → Int32} {FR : Nat → Int32} {mn : Nat} {MAw : Nat → Int32} {MB : Nat → Int32} {MR : Nat → Int32} {np : Nat} {EP : Nat → Nat} {ST : Nat → Nat} {CL : Nat → Nat} {CB : Nat → Nat} {SI : Nat → Int32} {LK : Nat → Int32} {PH : Nat → Int32} {EN : Nat → Int32} {LE : Nat → Int32} {GR : Nat → Int32} {tm : Int32} {mp : Nat} {ME : Nat → Nat} {MY : Nat → Nat} {MX : Nat → Nat} {MS : Nat → Int32} {MLk : Nat → Int32} {MU : Nat → Int32} {MT : Nat → Int32} {MQ : Nat → Int32} {ML : Nat → Int32} {MH : Nat → Int32} {nq : Nat} {HA : Int32} {HO : Nat → Nat} {LP : Nat → Nat} {LF : Nat → Nat} {PY : Nat → Int32} {PD : Nat → Int32} {HE : Nat → Int32} {KE : Nat → Int32} {TO : Nat → Int32} {LS : Nat → Int32} {LC : Nat → Int32} {LH : Nat → Int32} {mq : Nat} {PA3 : Nat → Nat} {PA7 : Nat → Nat} {PB1 : Nat → Nat} {PB2 : Nat → Nat} {PA1 : Nat → Int32} {PA2 : Nat → Int32} {PA4 : Nat → Int32} {PA5 : Nat → Int32} {PA6 : Nat → Int32} {PB3 : Nat → Int32} {PB4 : Nat → Int32} {PB5 : Nat → Int32} {kl : Nat} {KP : Nat → Nat} {KF : Nat → Nat} {mhw : Int32} {mwn : Nat} {WA1 : Nat → Nat} {WA2 : Nat → Nat} {ti : Nat} {gp : Int32} {lk : Int32} {mtm : Int32} {mgp : Int32} {mlk : Int32} {FB' : Nat → Int32} {FR' : Nat → Int32} {MB' : Nat → Int32} {MR' : Nat → Int32} {i : Int32} {u : Int32} {v : Int32} {r : Int32} {rM : Int32} (h_nn : nn ≤ 7) (h_np : np ≤ 12) (h_nq : nq ≤ 40) (h_kl : kl ≤ 6) (h_HO : ∀ zz, HO zz ≤ 6) (h_LP : ∀ zz, LP zz ≤ 11) (h_LF : ∀ zz, LF zz ≤ 1) (h_EP : ∀ zz, EP zz ≤ 6) (h_CL : ∀ zz, CL zz ≤ 1) (h_KF : ∀ zz, KF zz ≤ 1) (hti : ti ≤ 2560) (hP : relP nn FA FB FR mn MAw MB MR) (hQ : relQ np EP ST CL CB SI LK PH EN LE GR tm mp ME MY MX MS MLk MU MT MQ ML MH) (hL : relL np EP LK nq HA HO LP LF PY PD HE KE TO LS LC LH mq PA3 PA7 PB1 PB2 PA1 PA2 PA4 PA5 PA6 PB3 PB4 PB5) (hW : relW kl KP KF mhw mwn WA1 WA2) (hT : relT ti tm gp lk mtm mgp mlk) (hC0 : (badFee nn i u v ∧ FB' = FB ∧ FR' = FR ∧ r = -2) ∨ (∃ a : Nat, ¬ badFee nn i u v ∧ i = nI a ∧ a < nn ∧ FB' = upd FB a u ∧ FR' = upd FR a v ∧ r = 1)) (hM0 : (badFee mn i u v ∧ MB' = MB ∧ MR' = MR ∧ rM = -2) ∨ (∃ a : Nat, ¬ badFee mn i u v ∧ i = nI a ∧ a < mn ∧ MB' = upd MB a u ∧ MR' = upd MR a v ∧ rM = 1)) : r = rM ∧ relP nn FA FB' FR' mn MAw MB' MR' := by
  have hP0 := hP
  have hQ0 := hQ
  have hL0 := hL
  have hW0 := hW
  have hT0 := hT
  obtain ⟨rfl, rfl, rfl, rfl, p1, p2⟩ := hP
  obtain ⟨⟨rfl, rfl, rfl, rfl, rfl, rfl, rfl, rfl, rfl⟩, q1, q2, q3, q4, q5⟩ := hQ
  obtain ⟨⟨rfl, rfl, rfl, rfl, rfl, rfl⟩, l1, l2, l3, l4, l5, l6, l7⟩ := hL
  obtain ⟨rfl, rfl, rfl, w1⟩ := hW
  obtain ⟨rfl, rfl, rfl, t1, t2, t3, t4⟩ := hT
  rcases hC0 with ⟨c_h0, e_FB, e_FR, rfl⟩ | ⟨c_a, c_h0, c_ea, c_ha, rfl, rfl, rfl⟩
  · subst FB' FR'
    rcases hM0 with ⟨m_h0, e_MB, e_MR, rfl⟩ | ⟨m_a, m_h0, m_ea, m_ha, rfl, rfl, rfl⟩
    · subst MB' MR'
      exact ⟨rfl, hP0⟩
    · exact absurd c_h0 m_h0
  · rcases hM0 with ⟨m_h0, e_MB, e_MR, rfl⟩ | ⟨m_a, m_h0, m_ea, m_ha, rfl, rfl, rfl⟩
    · subst MB' MR'
      exact absurd m_h0 c_h0
    · obtain rfl := n7_eq c_ha m_ha (by omega) c_ea m_ea
      exact ⟨rfl, rfl, rfl, rfl, rfl, up_b p1 (bf_in c_h0).1, up_b p2 (bf_in c_h0).2⟩

set_option maxHeartbeats 4000000 in
theorem rel_gap {nn : Nat} {FA : Nat → Int32} {FB : Nat → Int32} {FR : Nat → Int32} {mn : Nat} {MAw : Nat → Int32} {MB : Nat → Int32} {MR : Nat → Int32} {np : Nat} {EP : Nat → Nat} {ST : Nat → Nat} {CL : Nat → Nat} {CB : Nat → Nat} {SI : Nat → Int32} {LK : Nat → Int32} {PH : Nat → Int32} {EN : Nat → Int32} {LE : Nat → Int32} {GR : Nat → Int32} {tm : Int32} {mp : Nat} {ME : Nat → Nat} {MY : Nat → Nat} {MX : Nat → Nat} {MS : Nat → Int32} {MLk : Nat → Int32} {MU : Nat → Int32} {MT : Nat → Int32} {MQ : Nat → Int32} {ML : Nat → Int32} {MH : Nat → Int32} {nq : Nat} {HA : Int32} {HO : Nat → Nat} {LP : Nat → Nat} {LF : Nat → Nat} {PY : Nat → Int32} {PD : Nat → Int32} {HE : Nat → Int32} {KE : Nat → Int32} {TO : Nat → Int32} {LS : Nat → Int32} {LC : Nat → Int32} {LH : Nat → Int32} {mq : Nat} {PA3 : Nat → Nat} {PA7 : Nat → Nat} {PB1 : Nat → Nat} {PB2 : Nat → Nat} {PA1 : Nat → Int32} {PA2 : Nat → Int32} {PA4 : Nat → Int32} {PA5 : Nat → Int32} {PA6 : Nat → Int32} {PB3 : Nat → Int32} {PB4 : Nat → Int32} {PB5 : Nat → Int32} {kl : Nat} {KP : Nat → Nat} {KF : Nat → Nat} {mhw : Int32} {mwn : Nat} {WA1 : Nat → Nat} {WA2 : Nat → Nat} {ti : Nat} {gp : Int32} {lk : Int32} {mtm : Int32} {mgp : Int32} {mlk : Int32} {gp' : Int32} {mgp' : Int32} {v : Int32} {r : Int32} {rM : Int32} (h_nn : nn ≤ 7) (h_np : np ≤ 12) (h_nq : nq ≤ 40) (h_kl : kl ≤ 6) (h_HO : ∀ zz, HO zz ≤ 6) (h_LP : ∀ zz, LP zz ≤ 11) (h_LF : ∀ zz, LF zz ≤ 1) (h_EP : ∀ zz, EP zz ≤ 6) (h_CL : ∀ zz, CL zz ≤ 1) (h_KF : ∀ zz, KF zz ≤ 1) (hti : ti ≤ 2560) (hP : relP nn FA FB FR mn MAw MB MR) (hQ : relQ np EP ST CL CB SI LK PH EN LE GR tm mp ME MY MX MS MLk MU MT MQ ML MH) (hL : relL np EP LK nq HA HO LP LF PY PD HE KE TO LS LC LH mq PA3 PA7 PB1 PB2 PA1 PA2 PA4 PA5 PA6 PB3 PB4 PB5) (hW : relW kl KP KF mhw mwn WA1 WA2) (hT : relT ti tm gp lk mtm mgp mlk) (hC0 : r = gp_set gp v) (hC1 : gp' = gsv gp v) (hM0 : rM = gp_set mgp v) (hM1 : mgp' = gsv mgp v) : r = rM ∧ relT (ti + 5) tm gp' lk mtm mgp' mlk := by
  have hP0 := hP
  have hQ0 := hQ
  have hL0 := hL
  have hW0 := hW
  have hT0 := hT
  obtain ⟨rfl, rfl, rfl, rfl, p1, p2⟩ := hP
  obtain ⟨⟨rfl, rfl, rfl, rfl, rfl, rfl, rfl, rfl, rfl⟩, q1, q2, q3, q4, q5⟩ := hQ
  obtain ⟨⟨rfl, rfl, rfl, rfl, rfl, rfl⟩, l1, l2, l3, l4, l5, l6, l7⟩ := hL
  obtain ⟨rfl, rfl, rfl, w1⟩ := hW
  obtain ⟨rfl, rfl, rfl, t1, t2, t3, t4⟩ := hT
  subst hC1
  subst hM1
  exact ⟨hC0.trans hM0.symm, rfl, rfl, rfl, t1, by omega, t3, t4⟩

set_option maxHeartbeats 4000000 in
theorem rel_look {nn : Nat} {FA : Nat → Int32} {FB : Nat → Int32} {FR : Nat → Int32} {mn : Nat} {MAw : Nat → Int32} {MB : Nat → Int32} {MR : Nat → Int32} {np : Nat} {EP : Nat → Nat} {ST : Nat → Nat} {CL : Nat → Nat} {CB : Nat → Nat} {SI : Nat → Int32} {LK : Nat → Int32} {PH : Nat → Int32} {EN : Nat → Int32} {LE : Nat → Int32} {GR : Nat → Int32} {tm : Int32} {mp : Nat} {ME : Nat → Nat} {MY : Nat → Nat} {MX : Nat → Nat} {MS : Nat → Int32} {MLk : Nat → Int32} {MU : Nat → Int32} {MT : Nat → Int32} {MQ : Nat → Int32} {ML : Nat → Int32} {MH : Nat → Int32} {nq : Nat} {HA : Int32} {HO : Nat → Nat} {LP : Nat → Nat} {LF : Nat → Nat} {PY : Nat → Int32} {PD : Nat → Int32} {HE : Nat → Int32} {KE : Nat → Int32} {TO : Nat → Int32} {LS : Nat → Int32} {LC : Nat → Int32} {LH : Nat → Int32} {mq : Nat} {PA3 : Nat → Nat} {PA7 : Nat → Nat} {PB1 : Nat → Nat} {PB2 : Nat → Nat} {PA1 : Nat → Int32} {PA2 : Nat → Int32} {PA4 : Nat → Int32} {PA5 : Nat → Int32} {PA6 : Nat → Int32} {PB3 : Nat → Int32} {PB4 : Nat → Int32} {PB5 : Nat → Int32} {kl : Nat} {KP : Nat → Nat} {KF : Nat → Nat} {mhw : Int32} {mwn : Nat} {WA1 : Nat → Nat} {WA2 : Nat → Nat} {ti : Nat} {gp : Int32} {lk : Int32} {mtm : Int32} {mgp : Int32} {mlk : Int32} {lk' : Int32} {mlk' : Int32} {v : Int32} {r : Int32} {rM : Int32} (h_nn : nn ≤ 7) (h_np : np ≤ 12) (h_nq : nq ≤ 40) (h_kl : kl ≤ 6) (h_HO : ∀ zz, HO zz ≤ 6) (h_LP : ∀ zz, LP zz ≤ 11) (h_LF : ∀ zz, LF zz ≤ 1) (h_EP : ∀ zz, EP zz ≤ 6) (h_CL : ∀ zz, CL zz ≤ 1) (h_KF : ∀ zz, KF zz ≤ 1) (hti : ti ≤ 2560) (hP : relP nn FA FB FR mn MAw MB MR) (hQ : relQ np EP ST CL CB SI LK PH EN LE GR tm mp ME MY MX MS MLk MU MT MQ ML MH) (hL : relL np EP LK nq HA HO LP LF PY PD HE KE TO LS LC LH mq PA3 PA7 PB1 PB2 PA1 PA2 PA4 PA5 PA6 PB3 PB4 PB5) (hW : relW kl KP KF mhw mwn WA1 WA2) (hT : relT ti tm gp lk mtm mgp mlk) (hC0 : r = gp_set lk v) (hC1 : lk' = gsv lk v) (hM0 : rM = gp_set mlk v) (hM1 : mlk' = gsv mlk v) : r = rM ∧ relT (ti + 5) tm gp lk' mtm mgp mlk' := by
  have hP0 := hP
  have hQ0 := hQ
  have hL0 := hL
  have hW0 := hW
  have hT0 := hT
  obtain ⟨rfl, rfl, rfl, rfl, p1, p2⟩ := hP
  obtain ⟨⟨rfl, rfl, rfl, rfl, rfl, rfl, rfl, rfl, rfl⟩, q1, q2, q3, q4, q5⟩ := hQ
  obtain ⟨⟨rfl, rfl, rfl, rfl, rfl, rfl⟩, l1, l2, l3, l4, l5, l6, l7⟩ := hL
  obtain ⟨rfl, rfl, rfl, w1⟩ := hW
  obtain ⟨rfl, rfl, rfl, t1, t2, t3, t4⟩ := hT
  have h := relT_look hT0 hC1 hM1
  exact ⟨hC0.trans hM0.symm, h⟩

set_option maxHeartbeats 4000000 in
theorem rel_best {nn : Nat} {FA : Nat → Int32} {FB : Nat → Int32} {FR : Nat → Int32} {mn : Nat} {MAw : Nat → Int32} {MB : Nat → Int32} {MR : Nat → Int32} {np : Nat} {EP : Nat → Nat} {ST : Nat → Nat} {CL : Nat → Nat} {CB : Nat → Nat} {SI : Nat → Int32} {LK : Nat → Int32} {PH : Nat → Int32} {EN : Nat → Int32} {LE : Nat → Int32} {GR : Nat → Int32} {tm : Int32} {mp : Nat} {ME : Nat → Nat} {MY : Nat → Nat} {MX : Nat → Nat} {MS : Nat → Int32} {MLk : Nat → Int32} {MU : Nat → Int32} {MT : Nat → Int32} {MQ : Nat → Int32} {ML : Nat → Int32} {MH : Nat → Int32} {nq : Nat} {HA : Int32} {HO : Nat → Nat} {LP : Nat → Nat} {LF : Nat → Nat} {PY : Nat → Int32} {PD : Nat → Int32} {HE : Nat → Int32} {KE : Nat → Int32} {TO : Nat → Int32} {LS : Nat → Int32} {LC : Nat → Int32} {LH : Nat → Int32} {mq : Nat} {PA3 : Nat → Nat} {PA7 : Nat → Nat} {PB1 : Nat → Nat} {PB2 : Nat → Nat} {PA1 : Nat → Int32} {PA2 : Nat → Int32} {PA4 : Nat → Int32} {PA5 : Nat → Int32} {PA6 : Nat → Int32} {PB3 : Nat → Int32} {PB4 : Nat → Int32} {PB5 : Nat → Int32} {kl : Nat} {KP : Nat → Nat} {KF : Nat → Nat} {mhw : Int32} {mwn : Nat} {WA1 : Nat → Nat} {WA2 : Nat → Nat} {ti : Nat} {gp : Int32} {lk : Int32} {mtm : Int32} {mgp : Int32} {mlk : Int32} {kl' : Nat} {KP' : Nat → Nat} {KF' : Nat → Nat} {mhw' : Int32} {mwn' : Nat} {WA1' : Nat → Nat} {WA2' : Nat → Nat} {i : Int32} {j : Int32} {v : Int32} {r : Int32} {rM : Int32} (h_nn : nn ≤ 7) (h_np : np ≤ 12) (h_nq : nq ≤ 40) (h_kl : kl ≤ 6) (h_HO : ∀ zz, HO zz ≤ 6) (h_LP : ∀ zz, LP zz ≤ 11) (h_LF : ∀ zz, LF zz ≤ 1) (h_EP : ∀ zz, EP zz ≤ 6) (h_CL : ∀ zz, CL zz ≤ 1) (h_KF : ∀ zz, KF zz ≤ 1) (hti : ti ≤ 2560) (hP : relP nn FA FB FR mn MAw MB MR) (hQ : relQ np EP ST CL CB SI LK PH EN LE GR tm mp ME MY MX MS MLk MU MT MQ ML MH) (hL : relL np EP LK nq HA HO LP LF PY PD HE KE TO LS LC LH mq PA3 PA7 PB1 PB2 PA1 PA2 PA4 PA5 PA6 PB3 PB4 PB5) (hW : relW kl KP KF mhw mwn WA1 WA2) (hT : relT ti tm gp lk mtm mgp mlk) (hC0 : (badWay nn i j v ∧ kl' = kl ∧ KP' = KP ∧ KF' = KF ∧ r = -2) ∨ (∃ a : Nat, ∃ b : Nat, ∃ c1 : Int32, ∃ P1 : Nat → Nat, ¬ badWay nn i j v ∧ i = nI a ∧ j = nI b ∧ a < nn ∧ b < nn ∧ ¬ a = b ∧ WAll EP PH SI FB FR np a b v 0 (fun _ => 0) np 0 c1 P1 ∧ kl' = kl ∧ KP' = KP ∧ KF' = KF ∧ r = -1) ∨ (∃ rr : Int32, ∃ a : Nat, ∃ b : Nat, ∃ bl1 : Nat, ∃ P1 : Nat → Nat, ∃ F1 : Nat → Nat, ¬ badWay nn i j v ∧ i = nI a ∧ j = nI b ∧ a < nn ∧ b < nn ∧ ¬ a = b ∧ ¬ bl1 = 0 ∧ (∀ zz, F1 zz ≤ 1) ∧ WOK EP PH SI FB FR np a b v bl1 rr P1 F1 ∧ WAll EP PH SI FB FR np a b v 0 (fun _ => 0) np bl1 rr P1 ∧ kl' = bl1 ∧ KP' = cpN bl1 P1 KP ∧ KF' = cpN bl1 F1 KF ∧ r = rr)) (hM0 : (badWay mn i j v ∧ mhw' = mhw ∧ mwn' = mwn ∧ WA1' = WA1 ∧ WA2' = WA2 ∧ rM = -2) ∨ (∃ a : Nat, ∃ b : Nat, ¬ badWay mn i j v ∧ i = nI a ∧ j = nI b ∧ a < mn ∧ b < mn ∧ ¬ a = b ∧ WAll ME MU MS MB MR mp a b v 0 (fun _ => 0) mp 0 0 (fun _ => 0) ∧ mhw' = mhw ∧ mwn' = mwn ∧ WA1' = WA1 ∧ WA2' = WA2 ∧ rM = -1) ∨ (∃ rr : Int32, ∃ a : Nat, ∃ b : Nat, ∃ bl1 : Nat, ∃ P1 : Nat → Nat, ∃ F1 : Nat → Nat, ¬ badWay mn i j v ∧ i = nI a ∧ j = nI b ∧ a < mn ∧ b < mn ∧ ¬ a = b ∧ ¬ rr = -1 ∧ ¬ bl1 = 0 ∧ (∀ zz, F1 zz ≤ 1) ∧ WOK ME MU MS MB MR mp a b v bl1 rr P1 F1 ∧ WAll ME MU MS MB MR mp a b v 0 (fun _ => 0) mp bl1 rr P1 ∧ mwn' = bl1 ∧ WA1' = cpN bl1 P1 WA1 ∧ WA2' = cpN bl1 F1 WA2 ∧ mhw' = 1 ∧ rM = rr)) : r = rM ∧ relW kl' KP' KF' mhw' mwn' WA1' WA2' := by
  have hP0 := hP
  have hQ0 := hQ
  have hL0 := hL
  have hW0 := hW
  have hT0 := hT
  obtain ⟨rfl, rfl, rfl, rfl, p1, p2⟩ := hP
  obtain ⟨⟨rfl, rfl, rfl, rfl, rfl, rfl, rfl, rfl, rfl⟩, q1, q2, q3, q4, q5⟩ := hQ
  obtain ⟨⟨rfl, rfl, rfl, rfl, rfl, rfl⟩, l1, l2, l3, l4, l5, l6, l7⟩ := hL
  obtain ⟨rfl, rfl, rfl, w1⟩ := hW
  obtain ⟨rfl, rfl, rfl, t1, t2, t3, t4⟩ := hT
  rcases hC0 with ⟨c_h0, e_kl, e_KP, e_KF, rfl⟩ | ⟨c_a, c_b, c_c1, c_P1, c_h0, c_ea, c_eb, c_ha, c_hb, c_hab, c_fa, e_kl, e_KP, e_KF, rfl⟩ | ⟨c_rr, c_a, c_b, c_bl1, c_P1, c_F1, c_h0, c_ea, c_eb, c_ha, c_hb, c_hab, c_e0, c_hF, c_fo, c_fa, rfl, rfl, rfl, rfl⟩
  · subst kl' KP' KF'
    rcases hM0 with ⟨m_h0, e_mhw, e_mwn, e_WA1, e_WA2, rfl⟩ | ⟨m_a, m_b, m_h0, m_ea, m_eb, m_ha, m_hb, m_hab, m_fa, e_mhw, e_mwn, e_WA1, e_WA2, rfl⟩ | ⟨m_rr, m_a, m_b, m_bl1, m_P1, m_F1, m_h0, m_ea, m_eb, m_ha, m_hb, m_hab, m_en, m_e0, m_hF, m_fo, m_fa, rfl, rfl, rfl, rfl, rfl⟩
    · subst mhw' mwn' WA1' WA2'
      exact ⟨rfl, hW0⟩
    · subst mhw' mwn' WA1' WA2'
      exact absurd c_h0 m_h0
    · exact absurd c_h0 m_h0
  · subst kl' KP' KF'
    rcases hM0 with ⟨m_h0, e_mhw, e_mwn, e_WA1, e_WA2, rfl⟩ | ⟨m_a, m_b, m_h0, m_ea, m_eb, m_ha, m_hb, m_hab, m_fa, e_mhw, e_mwn, e_WA1, e_WA2, rfl⟩ | ⟨m_rr, m_a, m_b, m_bl1, m_P1, m_F1, m_h0, m_ea, m_eb, m_ha, m_hb, m_hab, m_en, m_e0, m_hF, m_fo, m_fa, rfl, rfl, rfl, rfl, rfl⟩
    · subst mhw' mwn' WA1' WA2'
      exact absurd m_h0 c_h0
    · subst mhw' mwn' WA1' WA2'
      exact ⟨rfl, hW0⟩
    · obtain rfl := n7_eq c_ha m_ha (by omega) c_ea m_ea
      obtain rfl := n7_eq c_hb m_hb (by omega) c_eb m_eb
      exact (way_none m_e0 m_fo c_fa).elim
  · rcases hM0 with ⟨m_h0, e_mhw, e_mwn, e_WA1, e_WA2, rfl⟩ | ⟨m_a, m_b, m_h0, m_ea, m_eb, m_ha, m_hb, m_hab, m_fa, e_mhw, e_mwn, e_WA1, e_WA2, rfl⟩ | ⟨m_rr, m_a, m_b, m_bl1, m_P1, m_F1, m_h0, m_ea, m_eb, m_ha, m_hb, m_hab, m_en, m_e0, m_hF, m_fo, m_fa, rfl, rfl, rfl, rfl, rfl⟩
    · subst mhw' mwn' WA1' WA2'
      exact absurd m_h0 c_h0
    · subst mhw' mwn' WA1' WA2'
      obtain rfl := n7_eq c_ha m_ha (by omega) c_ea m_ea
      obtain rfl := n7_eq c_hb m_hb (by omega) c_eb m_eb
      exact (way_none c_e0 c_fo m_fa).elim
    · obtain rfl := n7_eq c_ha m_ha (by omega) c_ea m_ea
      obtain rfl := n7_eq c_hb m_hb (by omega) c_eb m_eb
      obtain ⟨e, g⟩ := way_same q2 c_hF m_hF c_fo c_fa m_fo m_fa
      obtain rfl := e
      obtain ⟨g1, g2⟩ := g c_e0
      exact ⟨g1, rfl, cpN_congr (fun z hz => (g2 z hz).1) rfl, cpN_congr (fun z hz => (g2 z hz).2) rfl, fun h => absurd h (by decide), fun h => absurd h c_e0⟩

set_option maxHeartbeats 4000000 in
theorem rel_wayAt {nn : Nat} {FA : Nat → Int32} {FB : Nat → Int32} {FR : Nat → Int32} {mn : Nat} {MAw : Nat → Int32} {MB : Nat → Int32} {MR : Nat → Int32} {np : Nat} {EP : Nat → Nat} {ST : Nat → Nat} {CL : Nat → Nat} {CB : Nat → Nat} {SI : Nat → Int32} {LK : Nat → Int32} {PH : Nat → Int32} {EN : Nat → Int32} {LE : Nat → Int32} {GR : Nat → Int32} {tm : Int32} {mp : Nat} {ME : Nat → Nat} {MY : Nat → Nat} {MX : Nat → Nat} {MS : Nat → Int32} {MLk : Nat → Int32} {MU : Nat → Int32} {MT : Nat → Int32} {MQ : Nat → Int32} {ML : Nat → Int32} {MH : Nat → Int32} {nq : Nat} {HA : Int32} {HO : Nat → Nat} {LP : Nat → Nat} {LF : Nat → Nat} {PY : Nat → Int32} {PD : Nat → Int32} {HE : Nat → Int32} {KE : Nat → Int32} {TO : Nat → Int32} {LS : Nat → Int32} {LC : Nat → Int32} {LH : Nat → Int32} {mq : Nat} {PA3 : Nat → Nat} {PA7 : Nat → Nat} {PB1 : Nat → Nat} {PB2 : Nat → Nat} {PA1 : Nat → Int32} {PA2 : Nat → Int32} {PA4 : Nat → Int32} {PA5 : Nat → Int32} {PA6 : Nat → Int32} {PB3 : Nat → Int32} {PB4 : Nat → Int32} {PB5 : Nat → Int32} {kl : Nat} {KP : Nat → Nat} {KF : Nat → Nat} {mhw : Int32} {mwn : Nat} {WA1 : Nat → Nat} {WA2 : Nat → Nat} {ti : Nat} {gp : Int32} {lk : Int32} {mtm : Int32} {mgp : Int32} {mlk : Int32} {i : Int32} {r : Int32} {rM : Int32} (h_nn : nn ≤ 7) (h_np : np ≤ 12) (h_nq : nq ≤ 40) (h_kl : kl ≤ 6) (h_HO : ∀ zz, HO zz ≤ 6) (h_LP : ∀ zz, LP zz ≤ 11) (h_LF : ∀ zz, LF zz ≤ 1) (h_EP : ∀ zz, EP zz ≤ 6) (h_CL : ∀ zz, CL zz ≤ 1) (h_KF : ∀ zz, KF zz ≤ 1) (hti : ti ≤ 2560) (hP : relP nn FA FB FR mn MAw MB MR) (hQ : relQ np EP ST CL CB SI LK PH EN LE GR tm mp ME MY MX MS MLk MU MT MQ ML MH) (hL : relL np EP LK nq HA HO LP LF PY PD HE KE TO LS LC LH mq PA3 PA7 PB1 PB2 PA1 PA2 PA4 PA5 PA6 PB3 PB4 PB5) (hW : relW kl KP KF mhw mwn WA1 WA2) (hT : relT ti tm gp lk mtm mgp mlk) (hC0 : r = gWay kl KP i) (hM0 : rM = if mhw = 0 then -1 else gWay mwn WA1 i) : r = rM := by
  have hP0 := hP
  have hQ0 := hQ
  have hL0 := hL
  have hW0 := hW
  have hT0 := hT
  obtain ⟨rfl, rfl, rfl, rfl, p1, p2⟩ := hP
  obtain ⟨⟨rfl, rfl, rfl, rfl, rfl, rfl, rfl, rfl, rfl⟩, q1, q2, q3, q4, q5⟩ := hQ
  obtain ⟨⟨rfl, rfl, rfl, rfl, rfl, rfl⟩, l1, l2, l3, l4, l5, l6, l7⟩ := hL
  obtain ⟨rfl, rfl, rfl, w1⟩ := hW
  obtain ⟨rfl, rfl, rfl, t1, t2, t3, t4⟩ := hT
  exact (hC0.trans (way_at h_kl w1)).trans hM0.symm
