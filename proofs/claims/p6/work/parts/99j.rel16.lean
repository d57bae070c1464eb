-- the relation: ring, even, tries, count
set_option maxHeartbeats 4000000 in
theorem rel_ring {nn : Nat} {FA : Nat → Int32} {FB : Nat → Int32} {FR : Nat → Int32} {mn : Nat} {MAw : Nat → Int32} {MB : Nat → Int32} {MR : Nat → Int32} {np : Nat} {EP : Nat → Nat} {ST : Nat → Nat} {CL : Nat → Nat} {CB : Nat → Nat} {SI : Nat → Int32} {LK : Nat → Int32} {PH : Nat → Int32} {EN : Nat → Int32} {LE : Nat → Int32} {GR : Nat → Int32} {tm : Int32} {mp : Nat} {ME : Nat → Nat} {MY : Nat → Nat} {MX : Nat → Nat} {MS : Nat → Int32} {MLk : Nat → Int32} {MU : Nat → Int32} {MT : Nat → Int32} {MQ : Nat → Int32} {ML : Nat → Int32} {MH : Nat → Int32} {nq : Nat} {HA : Int32} {HO : Nat → Nat} {LP : Nat → Nat} {LF : Nat → Nat} {PY : Nat → Int32} {PD : Nat → Int32} {HE : Nat → Int32} {KE : Nat → Int32} {TO : Nat → Int32} {LS : Nat → Int32} {LC : Nat → Int32} {LH : Nat → Int32} {mq : Nat} {PA3 : Nat → Nat} {PA7 : Nat → Nat} {PB1 : Nat → Nat} {PB2 : Nat → Nat} {PA1 : Nat → Int32} {PA2 : Nat → Int32} {PA4 : Nat → Int32} {PA5 : Nat → Int32} {PA6 : Nat → Int32} {PB3 : Nat → Int32} {PB4 : Nat → Int32} {PB5 : Nat → Int32} {kl : Nat} {KP : Nat → Nat} {KF : Nat → Nat} {mhw : Int32} {mwn : Nat} {WA1 : Nat → Nat} {WA2 : Nat → Nat} {ti : Nat} {gp : Int32} {lk : Int32} {mtm : Int32} {mgp : Int32} {mlk : Int32} {z : Int32} {i : Int32} {r : Int32} {rM : Int32} (h_nn : nn ≤ 7) (h_np : np ≤ 12) (h_nq : nq ≤ 40) (h_kl : kl ≤ 6) (h_HO : ∀ zz, HO zz ≤ 6) (h_LP : ∀ zz, LP zz ≤ 11) (h_LF : ∀ zz, LF zz ≤ 1) (h_EP : ∀ zz, EP zz ≤ 6) (h_CL : ∀ zz, CL zz ≤ 1) (h_KF : ∀ zz, KF zz ≤ 1) (hti : ti ≤ 2560) (hP : relP nn FA FB FR mn MAw MB MR) (hQ : relQ np EP ST CL CB SI LK PH EN LE GR tm mp ME MY MX MS MLk MU MT MQ ML MH) (hL : relL np EP LK nq HA HO LP LF PY PD HE KE TO LS LC LH mq PA3 PA7 PB1 PB2 PA1 PA2 PA4 PA5 PA6 PB3 PB4 PB5) (hW : relW kl KP KF mhw mwn WA1 WA2) (hT : relT ti tm gp lk mtm mgp mlk) (hC0 : (isw z 0 4 = 0 ∧ r = -2) ∨ (∃ rr : Int32, ∃ rl1 : Nat, ∃ bo1 : Int32, ∃ bm1 : Int32, ∃ P1 : Nat → Nat, ∃ F1 : Nat → Nat, ¬ isw z 0 4 = 0 ∧ (∀ zz, P1 zz ≤ 11) ∧ (∀ zz, F1 zz ≤ 1) ∧ RBok EP (frC PH LK) np SI (sumO SI PH np) rl1 bo1 bm1 P1 F1 ∧ RAll EP (frC PH LK) np SI (sumO SI PH np) (rCandC SI) 0 (fun _ => 0) (2 * np) rl1 bo1 bm1 P1 ∧ rr = gRi rl1 bo1 bm1 P1 F1 z i ∧ r = rr)) (hM0 : (isw z 0 4 = 0 ∧ rM = -2) ∨ (∃ rr : Int32, ∃ rl1 : Nat, ∃ bo1 : Int32, ∃ bm1 : Int32, ∃ P1 : Nat → Nat, ∃ F1 : Nat → Nat, ¬ isw z 0 4 = 0 ∧ (∀ zz, P1 zz ≤ 11) ∧ (∀ zz, F1 zz ≤ 1) ∧ RBok ME (frM MU PA3 PB1 PB5 mq) mp MS (sumO MS MU mp) rl1 bo1 bm1 P1 F1 ∧ RAll ME (frM MU PA3 PB1 PB5 mq) mp MS (sumO MS MU mp) (rCandM MS) 0 (fun _ => 0) (2 * mp) rl1 bo1 bm1 P1 ∧ rr = gRi rl1 bo1 bm1 P1 F1 z i ∧ rM = rr)) : r = rM := by
  have hP0 := hP
  have hQ0 := hQ
  have hL0 := hL
  have hW0 := hW
  have hT0 := hT
  obtain ⟨rfl, rfl, rfl, rfl, p1, p2⟩ := hP
  obtain ⟨⟨rfl, rfl, rfl, rfl, rfl, rfl, rfl, rfl, rfl⟩, q1, q2, q3, q4, q5⟩ := hQ
  obtain ⟨⟨rfl, rfl, rfl, rfl, rfl, rfl⟩, l1, l2, l3, l4, l5, l6, l7⟩ := hL
  obtain ⟨rfl, rfl, rfl, w1⟩ := hW
  obtain ⟨rfl, rfl, rfl, t1, t2, t3, t4⟩ := hT
  rcases hC0 with ⟨c_h0, rfl⟩ | ⟨c_rr, c_rl1, c_bo1, c_bm1, c_P1, c_F1, c_h0, c_hP, c_hF, c_fo, c_fa, rfl, rfl⟩
  · rcases hM0 with ⟨m_h0, rfl⟩ | ⟨m_rr, m_rl1, m_bo1, m_bm1, m_P1, m_F1, m_h0, m_hP1, m_hF1, m_fo, m_fa, rfl, rfl⟩
    · rfl
    · exact absurd c_h0 m_h0
  · rcases hM0 with ⟨m_h0, rfl⟩ | ⟨m_rr, m_rl1, m_bo1, m_bm1, m_P1, m_F1, m_h0, m_hP1, m_hF1, m_fo, m_fa, rfl, rfl⟩
    · exact absurd m_h0 c_h0
    · have hS : ∀ k, 0 ≤ (SI k).toInt ∧ (SI k).toInt ≤ 200000 := SB_S q3
      have hfr : ∀ p, p < np → (frM PH HO PB1 PB5 nq p ↔ frC PH LK p) := fun p hp => (fr_same l3 l6 l1 l2 hp).symm
      have hb := sumO_b (PH := PH) hS np h_np
      have hs := ring_same h_EP q2 hS hb.1 (by omega) c_hF m_hF1 c_fo c_fa (RBok_fr hfr m_fo) (RAll_fr hfr m_fa)
      refine gRi_same ?_ hs
      by_cases e : c_rl1 = 0
      · omega
      · exact isR_7 h_EP (c_fo e).1

set_option maxHeartbeats 4000000 in
theorem rel_even {nn : Nat} {FA : Nat → Int32} {FB : Nat → Int32} {FR : Nat → Int32} {mn : Nat} {MAw : Nat → Int32} {MB : Nat → Int32} {MR : Nat → Int32} {np : Nat} {EP : Nat → Nat} {ST : Nat → Nat} {CL : Nat → Nat} {CB : Nat → Nat} {SI : Nat → Int32} {LK : Nat → Int32} {PH : Nat → Int32} {EN : Nat → Int32} {LE : Nat → Int32} {GR : Nat → Int32} {tm : Int32} {mp : Nat} {ME : Nat → Nat} {MY : Nat → Nat} {MX : Nat → Nat} {MS : Nat → Int32} {MLk : Nat → Int32} {MU : Nat → Int32} {MT : Nat → Int32} {MQ : Nat → Int32} {ML : Nat → Int32} {MH : Nat → Int32} {nq : Nat} {HA : Int32} {HO : Nat → Nat} {LP : Nat → Nat} {LF : Nat → Nat} {PY : Nat → Int32} {PD : Nat → Int32} {HE : Nat → Int32} {KE : Nat → Int32} {TO : Nat → Int32} {LS : Nat → Int32} {LC : Nat → Int32} {LH : Nat → Int32} {mq : Nat} {PA3 : Nat → Nat} {PA7 : Nat → Nat} {PB1 : Nat → Nat} {PB2 : Nat → Nat} {PA1 : Nat → Int32} {PA2 : Nat → Int32} {PA4 : Nat → Int32} {PA5 : Nat → Int32} {PA6 : Nat → Int32} {PB3 : Nat → Int32} {PB4 : Nat → Int32} {PB5 : Nat → Int32} {kl : Nat} {KP : Nat → Nat} {KF : Nat → Nat} {mhw : Int32} {mwn : Nat} {WA1 : Nat → Nat} {WA2 : Nat → Nat} {ti : Nat} {gp : Int32} {lk : Int32} {mtm : Int32} {mgp : Int32} {mlk : Int32} {SI' : Nat → Int32} {ST' : Nat → Nat} {LE' : Nat → Int32} {GR' : Nat → Int32} {MS' : Nat → Int32} {MY' : Nat → Nat} {ML' : Nat → Int32} {MH' : Nat → Int32} {r : Int32} {rM : Int32} (h_nn : nn ≤ 7) (h_np : np ≤ 12) (h_nq : nq ≤ 40) (h_kl : kl ≤ 6) (h_HO : ∀ zz, HO zz ≤ 6) (h_LP : ∀ zz, LP zz ≤ 11) (h_LF : ∀ zz, LF zz ≤ 1) (h_EP : ∀ zz, EP zz ≤ 6) (h_CL : ∀ zz, CL zz ≤ 1) (h_KF : ∀ zz, KF zz ≤ 1) (hti : ti ≤ 2560) (hP : relP nn FA FB FR mn MAw MB MR) (hQ : relQ np EP ST CL CB SI LK PH EN LE GR tm mp ME MY MX MS MLk MU MT MQ ML MH) (hL : relL np EP LK nq HA HO LP LF PY PD HE KE TO LS LC LH mq PA3 PA7 PB1 PB2 PA1 PA2 PA4 PA5 PA6 PB3 PB4 PB5) (hW : relW kl KP KF mhw mwn WA1 WA2) (hT : relT ti tm gp lk mtm mgp mlk) (hC0 : (∃ rl1 : Nat, ∃ bo1 : Int32, ∃ bm1 : Int32, ∃ P1 : Nat → Nat, ∃ F1 : Nat → Nat, rl1 = 0 ∧ (∀ zz, P1 zz ≤ 11) ∧ (∀ zz, F1 zz ≤ 1) ∧ RBok EP (frC PH LK) np SI (sumO SI PH np) rl1 bo1 bm1 P1 F1 ∧ RAll EP (frC PH LK) np SI (sumO SI PH np) (rCandC SI) 0 (fun _ => 0) (2 * np) rl1 bo1 bm1 P1 ∧ SI' = SI ∧ ST' = ST ∧ LE' = LE ∧ GR' = GR ∧ r = -3) ∨ (∃ rr : Int32, ∃ rl1 : Nat, ∃ bo1 : Int32, ∃ bm1 : Int32, ∃ P1 : Nat → Nat, ∃ F1 : Nat → Nat, ¬ rl1 = 0 ∧ (∀ zz, P1 zz ≤ 11) ∧ (∀ zz, F1 zz ≤ 1) ∧ RBok EP (frC PH LK) np SI (sumO SI PH np) rl1 bo1 bm1 P1 F1 ∧ RAll EP (frC PH LK) np SI (sumO SI PH np) (rCandC SI) 0 (fun _ => 0) (2 * np) rl1 bo1 bm1 P1 ∧ rr = bm1 ∧ (SI', ST', LE', GR') = evI P1 F1 bm1 (SI, ST, LE, GR) rl1 ∧ r = rr)) (hM0 : (∃ rl1 : Nat, ∃ bo1 : Int32, ∃ bm1 : Int32, ∃ P1 : Nat → Nat, ∃ F1 : Nat → Nat, rl1 = 0 ∧ (∀ zz, P1 zz ≤ 11) ∧ (∀ zz, F1 zz ≤ 1) ∧ RBok ME (frM MU PA3 PB1 PB5 mq) mp MS (sumO MS MU mp) rl1 bo1 bm1 P1 F1 ∧ RAll ME (frM MU PA3 PB1 PB5 mq) mp MS (sumO MS MU mp) (rCandM MS) 0 (fun _ => 0) (2 * mp) rl1 bo1 bm1 P1 ∧ MS' = MS ∧ MY' = MY ∧ ML' = ML ∧ MH' = MH ∧ rM = -3) ∨ (∃ rr : Int32, ∃ rl1 : Nat, ∃ bo1 : Int32, ∃ bm1 : Int32, ∃ P1 : Nat → Nat, ∃ F1 : Nat → Nat, ¬ rl1 = 0 ∧ (∀ zz, P1 zz ≤ 11) ∧ (∀ zz, F1 zz ≤ 1) ∧ RBok ME (frM MU PA3 PB1 PB5 mq) mp MS (sumO MS MU mp) rl1 bo1 bm1 P1 F1 ∧ RAll ME (frM MU PA3 PB1 PB5 mq) mp MS (sumO MS MU mp) (rCandM MS) 0 (fun _ => 0) (2 * mp) rl1 bo1 bm1 P1 ∧ rr = bm1 ∧ (MS', MY', ML', MH') = evI P1 F1 bm1 (MS, MY, ML, MH) rl1 ∧ rM = rr)) : r = rM ∧ relQ np EP ST' CL CB SI' LK PH EN LE' GR' tm mp ME MY' MX MS' MLk MU MT MQ ML' MH' := by
  have hP0 := hP
  have hQ0 := hQ
  have hL0 := hL
  have hW0 := hW
  have hT0 := hT
  obtain ⟨rfl, rfl, rfl, rfl, p1, p2⟩ := hP
  obtain ⟨⟨rfl, rfl, rfl, rfl, rfl, rfl, rfl, rfl, rfl⟩, q1, q2, q3, q4, q5⟩ := hQ
  obtain ⟨⟨rfl, rfl, rfl, rfl, rfl, rfl⟩, l1, l2, l3, l4, l5, l6, l7⟩ := hL
  obtain ⟨rfl, rfl, rfl, w1⟩ := hW
  obtain ⟨rfl, rfl, rfl, t1, t2, t3, t4⟩ := hT
  rcases hC0 with ⟨c_rl1, c_bo1, c_bm1, c_P1, c_F1, c_e0, c_hP, c_hF, c_fo, c_fa, e_SI, e_ST, e_LE, e_GR, rfl⟩ | ⟨c_rr, c_rl1, c_bo1, c_bm1, c_P1, c_F1, c_e0, c_hP, c_hF, c_fo, c_fa, rfl, c_ev, rfl⟩
  · subst SI' ST' LE' GR'
    rcases hM0 with ⟨m_rl1, m_bo1, m_bm1, m_P1, m_F1, m_e0, m_hP1, m_hF1, m_fo, m_fa, e_MS, e_MY, e_ML, e_MH, rfl⟩ | ⟨m_rr, m_rl1, m_bo1, m_bm1, m_P1, m_F1, m_e0, m_hP1, m_hF1, m_fo, m_fa, rfl, m_ev, rfl⟩
    · subst MS' MY' ML' MH'
      exact ⟨rfl, hQ0⟩
    · have hS : ∀ k, 0 ≤ (SI k).toInt ∧ (SI k).toInt ≤ 200000 := SB_S q3
      have hfr : ∀ p, p < np → (frM PH HO PB1 PB5 nq p ↔ frC PH LK p) := fun p hp => (fr_same l3 l6 l1 l2 hp).symm
      have hb := sumO_b (PH := PH) hS np h_np
      have hs := ring_same h_EP q2 hS hb.1 (by omega) c_hF m_hF1 c_fo c_fa (RBok_fr hfr m_fo) (RAll_fr hfr m_fa)
      exact absurd (hs.1.symm.trans c_e0) m_e0
  · rcases hM0 with ⟨m_rl1, m_bo1, m_bm1, m_P1, m_F1, m_e0, m_hP1, m_hF1, m_fo, m_fa, e_MS, e_MY, e_ML, e_MH, rfl⟩ | ⟨m_rr, m_rl1, m_bo1, m_bm1, m_P1, m_F1, m_e0, m_hP1, m_hF1, m_fo, m_fa, rfl, m_ev, rfl⟩
    · subst MS' MY' ML' MH'
      have hS : ∀ k, 0 ≤ (SI k).toInt ∧ (SI k).toInt ≤ 200000 := SB_S q3
      have hfr : ∀ p, p < np → (frM PH HO PB1 PB5 nq p ↔ frC PH LK p) := fun p hp => (fr_same l3 l6 l1 l2 hp).symm
      have hb := sumO_b (PH := PH) hS np h_np
      have hs := ring_same h_EP q2 hS hb.1 (by omega) c_hF m_hF1 c_fo c_fa (RBok_fr hfr m_fo) (RAll_fr hfr m_fa)
      exact absurd (hs.1.trans m_e0) c_e0
    · have hS : ∀ k, 0 ≤ (SI k).toInt ∧ (SI k).toInt ≤ 200000 := SB_S q3
      have hfr : ∀ p, p < np → (frM PH HO PB1 PB5 nq p ↔ frC PH LK p) := fun p hp => (fr_same l3 l6 l1 l2 hp).symm
      have hb := sumO_b (PH := PH) hS np h_np
      have hs := ring_same h_EP q2 hS hb.1 (by omega) c_hF m_hF1 c_fo c_fa (RBok_fr hfr m_fo) (RAll_fr hfr m_fa)
      obtain ⟨e, g⟩ := hs
      obtain rfl := e
      obtain ⟨g1, g2, g3⟩ := g c_e0
      obtain rfl := g2
      have hev := c_ev.trans ((evI_congr c_rl1 g3).trans m_ev.symm)
      obtain ⟨hr, hfit, -⟩ := c_fo c_e0
      have e1 : SI' = MS' := congrArg (fun w : EV4 => w.1) hev
      have e2 : ST' = MY' := congrArg (fun w : EV4 => w.2.1) hev
      have e3 : LE' = ML' := congrArg (fun w : EV4 => w.2.2.1) hev
      have e4 : GR' = MH' := congrArg (fun w : EV4 => w.2.2.2) hev
      have s1 : SI' = (evI c_P1 c_F1 r (SI, ST, LE, GR) c_rl1).1 := congrArg (fun w : EV4 => w.1) c_ev
      have s2 : ST' = (evI c_P1 c_F1 r (SI, ST, LE, GR) c_rl1).2.1 := congrArg (fun w : EV4 => w.2.1) c_ev
      have hm := Int32.le_iff_toInt_le.mp hfit.1
      have hm : 1 ≤ r.toInt := hm
      have hsb : SB SI' LK := by
        rw [s1]
        refine evI_SB q3 (by omega) c_rl1 (fun i j hij hj q => ?_) (fun z _ => c_hF z) (fun z hz => Int32.le_iff_toInt_le.mp (hfit.2.1 z hz))
        refine isR_pairs hr i j hij hj ?_
        rw [pfx_half c_hF, pfx_half c_hF]
        exact q
      exact ⟨rfl, ⟨rfl, rfl, e2, rfl, e1, rfl, rfl, e3, e4⟩, q1, q2, hsb, by rw [s2]; exact evI_ST q4 c_rl1, q5⟩

set_option maxHeartbeats 4000000 in
theorem rel_tries {nn : Nat} {FA : Nat → Int32} {FB : Nat → Int32} {FR : Nat → Int32} {mn : Nat} {MAw : Nat → Int32} {MB : Nat → Int32} {MR : Nat → Int32} {np : Nat} {EP : Nat → Nat} {ST : Nat → Nat} {CL : Nat → Nat} {CB : Nat → Nat} {SI : Nat → Int32} {LK : Nat → Int32} {PH : Nat → Int32} {EN : Nat → Int32} {LE : Nat → Int32} {GR : Nat → Int32} {tm : Int32} {mp : Nat} {ME : Nat → Nat} {MY : Nat → Nat} {MX : Nat → Nat} {MS : Nat → Int32} {MLk : Nat → Int32} {MU : Nat → Int32} {MT : Nat → Int32} {MQ : Nat → Int32} {ML : Nat → Int32} {MH : Nat → Int32} {nq : Nat} {HA : Int32} {HO : Nat → Nat} {LP : Nat → Nat} {LF : Nat → Nat} {PY : Nat → Int32} {PD : Nat → Int32} {HE : Nat → Int32} {KE : Nat → Int32} {TO : Nat → Int32} {LS : Nat → Int32} {LC : Nat → Int32} {LH : Nat → Int32} {mq : Nat} {PA3 : Nat → Nat} {PA7 : Nat → Nat} {PB1 : Nat → Nat} {PB2 : Nat → Nat} {PA1 : Nat → Int32} {PA2 : Nat → Int32} {PA4 : Nat → Int32} {PA5 : Nat → Int32} {PA6 : Nat → Int32} {PB3 : Nat → Int32} {PB4 : Nat → Int32} {PB5 : Nat → Int32} {kl : Nat} {KP : Nat → Nat} {KF : Nat → Nat} {mhw : Int32} {mwn : Nat} {WA1 : Nat → Nat} {WA2 : Nat → Nat} {ti : Nat} {gp : Int32} {lk : Int32} {mtm : Int32} {mgp : Int32} {mlk : Int32} {LE' : Nat → Int32} {GR' : Nat → Int32} {ML' : Nat → Int32} {MH' : Nat → Int32} {v : Int32} {r : Int32} {rM : Int32} (h_nn : nn ≤ 7) (h_np : np ≤ 12) (h_nq : nq ≤ 40) (h_kl : kl ≤ 6) (h_HO : ∀ zz, HO zz ≤ 6) (h_LP : ∀ zz, LP zz ≤ 11) (h_LF : ∀ zz, LF zz ≤ 1) (h_EP : ∀ zz, EP zz ≤ 6) (h_CL : ∀ zz, CL zz ≤ 1) (h_KF : ∀ zz, KF zz ≤ 1) (hti : ti ≤ 2560) (hP : relP nn FA FB FR mn MAw MB MR) (hQ : relQ np EP ST CL CB SI LK PH EN LE GR tm mp ME MY MX MS MLk MU MT MQ ML MH) (hL : relL np EP LK nq HA HO LP LF PY PD HE KE TO LS LC LH mq PA3 PA7 PB1 PB2 PA1 PA2 PA4 PA5 PA6 PB3 PB4 PB5) (hW : relW kl KP KF mhw mwn WA1 WA2) (hT : relT ti tm gp lk mtm mgp mlk) (hC0 : (isw v 1 200000 = 0 ∧ LE' = LE ∧ GR' = GR ∧ r = -2) ∨ (¬ isw v 1 200000 = 0 ∧ (kl = 0 ∨ ∃ zz, zz < kl ∧ ¬ PH (KP zz) = 0) ∧ LE' = LE ∧ GR' = GR ∧ r = -3) ∨ (∃ rr : Int32, ¬ isw v 1 200000 = 0 ∧ ¬ kl = 0 ∧ (∀ zz, zz < kl → PH (KP zz) = 0) ∧ trD SI kl KP KF v LE GR LE' GR' rr ∧ r = rr)) (hM0 : (isw v 1 200000 = 0 ∧ ML' = ML ∧ MH' = MH ∧ rM = -2) ∨ (¬ isw v 1 200000 = 0 ∧ (mhw = 0 ∨ ∃ zz, zz < mwn ∧ ¬ MU (WA1 zz) = 0) ∧ ML' = ML ∧ MH' = MH ∧ rM = -3) ∨ (∃ rr : Int32, ¬ isw v 1 200000 = 0 ∧ ¬ mhw = 0 ∧ (∀ zz, zz < mwn → MU (WA1 zz) = 0) ∧ trD MS mwn WA1 WA2 v ML MH ML' MH' rr ∧ rM = rr)) : r = rM ∧ relQ np EP ST CL CB SI LK PH EN LE' GR' tm mp ME MY MX MS MLk MU MT MQ ML' MH' := by
  have hP0 := hP
  have hQ0 := hQ
  have hL0 := hL
  have hW0 := hW
  have hT0 := hT
  obtain ⟨rfl, rfl, rfl, rfl, p1, p2⟩ := hP
  obtain ⟨⟨rfl, rfl, rfl, rfl, rfl, rfl, rfl, rfl, rfl⟩, q1, q2, q3, q4, q5⟩ := hQ
  obtain ⟨⟨rfl, rfl, rfl, rfl, rfl, rfl⟩, l1, l2, l3, l4, l5, l6, l7⟩ := hL
  obtain ⟨rfl, rfl, rfl, w1⟩ := hW
  obtain ⟨rfl, rfl, rfl, t1, t2, t3, t4⟩ := hT
  rcases hC0 with ⟨c_h0, e_LE, e_GR, rfl⟩ | ⟨c_h0, c_h1, e_LE, e_GR, rfl⟩ | ⟨c_rr, c_h0, c_h1, c_h2, c_tr, rfl⟩
  · subst LE' GR'
    rcases hM0 with ⟨m_h0, e_ML, e_MH, rfl⟩ | ⟨m_h0, m_h1, e_ML, e_MH, rfl⟩ | ⟨m_rr, m_h0, m_h1, m_h2, m_tr, rfl⟩
    · subst ML' MH'
      exact ⟨rfl, hQ0⟩
    · subst ML' MH'
      exact absurd c_h0 m_h0
    · exact absurd c_h0 m_h0
  · subst LE' GR'
    rcases hM0 with ⟨m_h0, e_ML, e_MH, rfl⟩ | ⟨m_h0, m_h1, e_ML, e_MH, rfl⟩ | ⟨m_rr, m_h0, m_h1, m_h2, m_tr, rfl⟩
    · subst ML' MH'
      exact absurd m_h0 c_h0
    · subst ML' MH'
      exact ⟨rfl, hQ0⟩
    · rcases c_h1 with h | ⟨zz, hz, h⟩
      · exact absurd (w1.mpr h) m_h1
      · exact absurd (m_h2 zz hz) h
  · rcases hM0 with ⟨m_h0, e_ML, e_MH, rfl⟩ | ⟨m_h0, m_h1, e_ML, e_MH, rfl⟩ | ⟨m_rr, m_h0, m_h1, m_h2, m_tr, rfl⟩
    · subst ML' MH'
      exact absurd m_h0 c_h0
    · subst ML' MH'
      rcases m_h1 with h | ⟨zz, hz, h⟩
      · exact absurd (w1.mp h) c_h1
      · exact absurd (c_h2 zz hz) h
    · obtain ⟨e1, e2, e3⟩ := trD_fun c_tr m_tr
      exact ⟨e3, ⟨rfl, rfl, rfl, rfl, rfl, rfl, rfl, e1, e2⟩, q1, q2, q3, q4, q5⟩

set_option maxHeartbeats 4000000 in
theorem rel_count {nn : Nat} {FA : Nat → Int32} {FB : Nat → Int32} {FR : Nat → Int32} {mn : Nat} {MAw : Nat → Int32} {MB : Nat → Int32} {MR : Nat → Int32} {np : Nat} {EP : Nat → Nat} {ST : Nat → Nat} {CL : Nat → Nat} {CB : Nat → Nat} {SI : Nat → Int32} {LK : Nat → Int32} {PH : Nat → Int32} {EN : Nat → Int32} {LE : Nat → Int32} {GR : Nat → Int32} {tm : Int32} {mp : Nat} {ME : Nat → Nat} {MY : Nat → Nat} {MX : Nat → Nat} {MS : Nat → Int32} {MLk : Nat → Int32} {MU : Nat → Int32} {MT : Nat → Int32} {MQ : Nat → Int32} {ML : Nat → Int32} {MH : Nat → Int32} {nq : Nat} {HA : Int32} {HO : Nat → Nat} {LP : Nat → Nat} {LF : Nat → Nat} {PY : Nat → Int32} {PD : Nat → Int32} {HE : Nat → Int32} {KE : Nat → Int32} {TO : Nat → Int32} {LS : Nat → Int32} {LC : Nat → Int32} {LH : Nat → Int32} {mq : Nat} {PA3 : Nat → Nat} {PA7 : Nat → Nat} {PB1 : Nat → Nat} {PB2 : Nat → Nat} {PA1 : Nat → Int32} {PA2 : Nat → Int32} {PA4 : Nat → Int32} {PA5 : Nat → Int32} {PA6 : Nat → Int32} {PB3 : Nat → Int32} {PB4 : Nat → Int32} {PB5 : Nat → Int32} {kl : Nat} {KP : Nat → Nat} {KF : Nat → Nat} {mhw : Int32} {mwn : Nat} {WA1 : Nat → Nat} {WA2 : Nat → Nat} {ti : Nat} {gp : Int32} {lk : Int32} {mtm : Int32} {mgp : Int32} {mlk : Int32} {z : Int32} {r : Int32} {rM : Int32} (h_nn : nn ≤ 7) (h_np : np ≤ 12) (h_nq : nq ≤ 40) (h_kl : kl ≤ 6) (h_HO : ∀ zz, HO zz ≤ 6) (h_LP : ∀ zz, LP zz ≤ 11) (h_LF : ∀ zz, LF zz ≤ 1) (h_EP : ∀ zz, EP zz ≤ 6) (h_CL : ∀ zz, CL zz ≤ 1) (h_KF : ∀ zz, KF zz ≤ 1) (hti : ti ≤ 2560) (hP : relP nn FA FB FR mn MAw MB MR) (hQ : relQ np EP ST CL CB SI LK PH EN LE GR tm mp ME MY MX MS MLk MU MT MQ ML MH) (hL : relL np EP LK nq HA HO LP LF PY PD HE KE TO LS LC LH mq PA3 PA7 PB1 PB2 PA1 PA2 PA4 PA5 PA6 PB3 PB4 PB5) (hW : relW kl KP KF mhw mwn WA1 WA2) (hT : relT ti tm gp lk mtm mgp mlk) (hC0 : r = gCt nn np nq HA tm gp lk (cntA FA nn) z) (hM0 : rM = gCt mn mp mq (cntM PA3 PA4 PA5 mq) mtm mgp mlk (cntA MAw mn) z) : r = rM := by
  have hP0 := hP
  have hQ0 := hQ
  have hL0 := hL
  have hW0 := hW
  have hT0 := hT
  obtain ⟨rfl, rfl, rfl, rfl, p1, p2⟩ := hP
  obtain ⟨⟨rfl, rfl, rfl, rfl, rfl, rfl, rfl, rfl, rfl⟩, q1, q2, q3, q4, q5⟩ := hQ
  obtain ⟨⟨rfl, rfl, rfl, rfl, rfl, rfl⟩, l1, l2, l3, l4, l5, l6, l7⟩ := hL
  obtain ⟨rfl, rfl, rfl, w1⟩ := hW
  obtain ⟨rfl, rfl, rfl, t1, t2, t3, t4⟩ := hT
  rw [cnt_HA h_HO l5 l4] at hM0
  exact hC0.trans hM0.symm
