/-! ===== what one call owes: the calls that judge or show ===== -/
def PI : (Nat → Int32) → (Nat → Int64) → (Nat → Int32) → (Nat → Int32) → (Nat → Int32) → Int32 → Int32 → (Nat → Int32) → (Nat → Int32) → (Nat → Int32) → (Nat → Int32) → (Nat → Int32) → (Nat → Int32) → (Nat → Int32) → (Nat → Int32) → (Nat → Int32) → (Nat → Int32) → (Nat → Int32) → Int32 → (Nat → Int32) → (Nat → Int32) → (Nat → Int64) → Int32 → (Nat → Int64) → (Nat → Int32) → (Nat → Int64) → (Nat → Int32) → (Nat → Int32) → (Nat → Int32) → (Nat → Int32) → (Nat → Int32) → (Nat → Int32) → (Nat → Int32) → (Nat → Int32) → (Nat → Int32) → (Nat → Int32) → (Nat → Int32) → (Nat → Int32) → (Nat → Int32) → (Nat → Int32) → (Nat → Int32) → (Nat → Int32) → (Nat → Int32) → (Nat → Int32) → (Nat → Int64) → (Nat → Int32) → Int32 → Int32 → Int32 → Int32 → Int32 → Prop := fun ki co pr pa tw nv sv pn pl po pf pt ru le li bn ip aw ns ch ma br tl ou mki msz mle mel mme mal mic mil mio mab mae msa mlc mli mna mva mma mch mre mlv mwr msh mth mnv mns mfa mmo => LInv ki co pr pa tw nv sv pn pl po pf pt ru le li bn ns ch ma br tl mki msz mle mel mme mic mil mio mab mae msa mlc mli mna mva mch mwr msh mnv mns mfa
theorem SS.sok {ki : Nat → Int32} {co : Nat → Int64} {pr pa mle mel mme pn po ru le li bn : Nat → Int32} {n m : Nat} (hV : VV ki co pr pa mle mel mme n) (hS : SS ki co pn po ru le li bn n m) : SOK ki co pr pa pn po ru le li bn n m := ⟨hV.vok, hS⟩
theorem SS.msok {ki : Nat → Int32} {co : Nat → Int64} {pr pa mle mel mme pn po ru le li bn mva : Nat → Int32} {n m : Nat} (hV : VV ki co pr pa mle mel mme n) (hS : SS ki co pn po ru le li bn n m) (hva : ∀ j, j < 960 → mva j = 0 ∨ mva j = 1) : MSOK ki co mle mel mme pn po ru le li bn mva n m :=
  ⟨hV.mvok, hS.1, hS.2.1, hS.2.2.1, hS.2.2.2.1, hS.2.2.2.2.1, hS.2.2.2.2.2.1, hS.2.2.2.2.2.2, hva⟩
theorem if_lg (b : Bool) (f : Nat → Int64) (h : f 0 = if b = true then 1 else 0) : lg_cmp (f (0 : Int32).toNatClampNeg) (if b = true then 1 else 0) = 0 := by
  rw [show (0 : Int32).toNatClampNeg = 0 from rfl, h]; exact lgc_self _
set_option maxHeartbeats 4000000 in
theorem s_L12 (ki : Nat → Int32) (co : Nat → Int64) (pr : Nat → Int32) (pa : Nat → Int32) (tw : Nat → Int32) (nv : Int32) (sv : Int32) (pn : Nat → Int32) (pl : Nat → Int32) (po : Nat → Int32) (pf : Nat → Int32) (pt : Nat → Int32) (ru : Nat → Int32) (le : Nat → Int32) (li : Nat → Int32) (bn : Nat → Int32) (ip : Nat → Int32) (aw : Nat → Int32) (ns : Int32) (ch : Nat → Int32) (ma : Nat → Int32) (br : Nat → Int64) (tl : Int32) (ou : Nat → Int64) (mki : Nat → Int32) (msz : Nat → Int64) (mle : Nat → Int32) (mel : Nat → Int32) (mme : Nat → Int32) (mal : Nat → Int32) (mic : Nat → Int32) (mil : Nat → Int32) (mio : Nat → Int32) (mab : Nat → Int32) (mae : Nat → Int32) (msa : Nat → Int32) (mlc : Nat → Int32) (mli : Nat → Int32) (mna : Nat → Int32) (mva : Nat → Int32) (mma : Nat → Int32) (mch : Nat → Int32) (mre : Nat → Int32) (mlv : Nat → Int32) (mwr : Nat → Int64) (msh : Nat → Int32) (mth : Int32) (mnv : Int32) (mns : Int32) (mfa : Int32) (mmo : Int32) (k1 k2 k3 k4 : Int32) (hI : LInv ki co pr pa tw nv sv pn pl po pf pt ru le li bn ns ch ma br tl mki msz mle mel mme mic mil mio mab mae msa mlc mli mna mva mch mwr msh mnv mns mfa) : V_L12F ki co pr pa tw nv sv pn pl po pf pt ru le li bn ip aw ns ch ma br tl ou mki msz mle mel mme mal mic mil mio mab mae msa mlc mli mna mva mma mch mre mlv mwr msh mth mnv mns mfa mmo k1 k2 k3 k4 PI := by
  obtain ⟨⟨rfl, rfl, rfl, rfl, rfl, rfl, rfl, rfl, rfl, rfl, rfl, rfl, rfl⟩, n, m, k, rfl, rfl, rfl, hk, hT, hV, hS, hva, hJ⟩ := hI
  unfold V_L12F
  have hn40 := hV.1
  have hm24 := hS.2.1
  have cn : (nI n).toNatClampNeg = n := nI_clamp (by omega)
  refine ⟨⟨n, m, k, rfl, rfl, SS.sok hV hS, hk, rfl, hT⟩, fun x1 f2 u3 f4 f5 f6 f7 f8 u9 f10 hc => ⟨⟨n, m, rfl, rfl, SS.msok hV hS hva⟩, fun t11 f12 f13 f14 f15 f16 f17 f18 f19 u20 u21 u22 hm => ?_⟩⟩
  rw [cn] at hc hm
  obtain ⟨hm1, hm2, hm3⟩ := hm
  have fin : ∀ tw' k', k' ≤ n → u3 = nI k' → f2 = tw' → TwOK ki co pr pa tw' k' → (∀ j, j < 960 → f13 j = 0 ∨ f13 j = 1) → JR f6 f7 f8 u9 f15 f18 f19 u21 → PI ki co pr pa f2 (nI n) u3 pn pl po pf pt ru le li bn f4 f5 (nI m) f6 f7 f8 u9 f10 ki co mle mel mme f12 pn pl po pf pt ru le li bn f13 f14 f15 f16 f17 f18 f19 u20 (nI n) (nI m) u21 u22 := fun tw' k' h1 h2 h3 h4 h5 h6 => by
    subst h2 h3
    exact ⟨⟨rfl, rfl, rfl, rfl, rfl, rfl, rfl, rfl, rfl, rfl, rfl, rfl, rfl⟩, n, m, k', rfl, rfl, rfl, h1, h4, hV, hS, h5, h6⟩
  have noz : ∀ (z : Int32), x1 = z → ¬ z = 0 → u20 = z → PI ki co pr pa f2 (nI n) u3 pn pl po pf pt ru le li bn f4 f5 (nI m) f6 f7 f8 u9 f10 ki co mle mel mme f12 pn pl po pf pt ru le li bn f13 f14 f15 f16 f17 f18 f19 u20 (nI n) (nI m) u21 u22 → ((u20 = x1 → ((¬ x1 = 0 → PI ki co pr pa f2 (nI n) u3 pn pl po pf pt ru le li bn f4 f5 (nI m) f6 f7 f8 u9 f10 ki co mle mel mme f12 pn pl po pf pt ru le li bn f13 f14 f15 f16 f17 f18 f19 u20 (nI n) (nI m) u21 u22) ∧ (x1 = 0 → (((bI t11) = 0 → (((lg_cmp (f10 (0 : Int32).toNatClampNeg) 0) = 0 → PI ki co pr pa f2 (nI n) u3 pn pl po pf pt ru le li bn f4 f5 (nI m) f6 f7 f8 u9 f10 ki co mle mel mme f12 pn pl po pf pt ru le li bn f13 f14 f15 f16 f17 f18 f19 u20 (nI n) (nI m) u21 u22) ∧ (¬ (lg_cmp (f10 (0 : Int32).toNatClampNeg) 0) = 0 → False))) ∧ (¬ (bI t11) = 0 → (((lg_cmp (f10 (0 : Int32).toNatClampNeg) 1) = 0 → PI ki co pr pa f2 (nI n) u3 pn pl po pf pt ru le li bn f4 f5 (nI m) f6 f7 f8 u9 f10 ki co mle mel mme f12 pn pl po pf pt ru le li bn f13 f14 f15 f16 f17 f18 f19 u20 (nI n) (nI m) u21 u22) ∧ (¬ (lg_cmp (f10 (0 : Int32).toNatClampNeg) 1) = 0 → False))))))) ∧ (¬ u20 = x1 → False)) := fun z h1 h2 h3 hP => by
    refine ⟨fun _ => ⟨fun _ => hP, fun q => absurd (h1 ▸ q) h2⟩, fun q => q (h3.trans h1.symm)⟩
  rcases hc with ⟨rfl, hno, e1, e2, e3, e4, e5, e6, e7, e8⟩ | ⟨rfl, hyes, hci, hz, e1, e2⟩ | ⟨rfl, hyes, hci, htw, hz, hdo⟩ | ⟨rfl, hyes, hci, htw, htl, hdo, rr, hrr, hou⟩
  · obtain ⟨q1, q2, q3, q4, q5, q6⟩ := hm1 hno
    refine noz 1 rfl (by decide) q1 (fin tw k hk e2 e1 hT (by rw [q6]; exact hva) ?_)
    rw [e5, e6, e7, e8, q2, q3, q4, q5]; exact hJ
  · obtain ⟨q1, q2, q3⟩ := hm2 hyes (by rw [nI_clamp (by omega)] at hci ⊢; exact hci)
    exact noz 2 rfl (by decide) q1 (fin tw k hk e2 e1 hT (by rw [q3]; exact hva) (JR.zero hz q2))
  · obtain ⟨q1, q2, lv, hCt, q3⟩ := hm3 hyes (by rw [nI_clamp (by omega)] at hci ⊢; exact hci)
    obtain ⟨t1, t2⟩ := htw n rfl hn40
    obtain ⟨va, mk, eG⟩ := gC_gM (mva := f13) (mma := f14) (pl := pl) (pf := pf) (pt := pt) hV hS t1 q2
    have hd := hdo _ _ lv ⟨va, mk, eG⟩ hCt ⟨1, Dist.root⟩
    rcases q3 with ⟨p1, p2, p3⟩ | ⟨p1, p2⟩
    · exact noz 3 rfl (by decide) p2 (fin f2 n (Nat.le_refl _) t2 rfl t1 q1 (JR.zero hz p3))
    · exact absurd (hd.1.mpr p2.1) (by decide)
  · obtain ⟨q1, q2, lv, hCt, q3⟩ := hm3 hyes (by rw [nI_clamp (by omega)] at hci ⊢; exact hci)
    obtain ⟨t1, t2⟩ := htw n rfl hn40
    obtain ⟨va, mk, eG⟩ := gC_gM (mva := f13) (mma := f14) (pl := pl) (pf := pf) (pt := pt) hV hS t1 q2
    have hd := hdo _ _ lv ⟨va, mk, eG⟩ hCt ⟨1, Dist.root⟩
    rcases q3 with ⟨p1, p2, p3⟩ | ⟨p1, p2⟩
    · exact absurd p1 (hd.1.mp rfl)
    · obtain ⟨r1, r2⟩ := JR.done hCt htl hd p2
      have hP := fin f2 n (Nat.le_refl _) t2 rfl t1 q1 r1
      have er : t11 = rr := by rw [Bool.eq_iff_iff, r2, hrr]
      subst er
      have hl := if_lg t11 f10 hou
      refine ⟨fun _ => ⟨fun q => absurd rfl q, fun _ => ⟨fun hb => ?_, fun hb => ?_⟩⟩, fun q => q p1⟩
      · rw [bI0.mp hb] at hl; exact ⟨fun _ => hP, fun q => q hl⟩
      · rw [bI_ne.mp hb] at hl; exact ⟨fun _ => hP, fun q => q hl⟩
set_option maxHeartbeats 4000000 in
theorem s_L13 (ki : Nat → Int32) (co : Nat → Int64) (pr : Nat → Int32) (pa : Nat → Int32) (tw : Nat → Int32) (nv : Int32) (sv : Int32) (pn : Nat → Int32) (pl : Nat → Int32) (po : Nat → Int32) (pf : Nat → Int32) (pt : Nat → Int32) (ru : Nat → Int32) (le : Nat → Int32) (li : Nat → Int32) (bn : Nat → Int32) (ip : Nat → Int32) (aw : Nat → Int32) (ns : Int32) (ch : Nat → Int32) (ma : Nat → Int32) (br : Nat → Int64) (tl : Int32) (ou : Nat → Int64) (mki : Nat → Int32) (msz : Nat → Int64) (mle : Nat → Int32) (mel : Nat → Int32) (mme : Nat → Int32) (mal : Nat → Int32) (mic : Nat → Int32) (mil : Nat → Int32) (mio : Nat → Int32) (mab : Nat → Int32) (mae : Nat → Int32) (msa : Nat → Int32) (mlc : Nat → Int32) (mli : Nat → Int32) (mna : Nat → Int32) (mva : Nat → Int32) (mma : Nat → Int32) (mch : Nat → Int32) (mre : Nat → Int32) (mlv : Nat → Int32) (mwr : Nat → Int64) (msh : Nat → Int32) (mth : Int32) (mnv : Int32) (mns : Int32) (mfa : Int32) (mmo : Int32) (k1 k2 k3 k4 : Int32) (hI : LInv ki co pr pa tw nv sv pn pl po pf pt ru le li bn ns ch ma br tl mki msz mle mel mme mic mil mio mab mae msa mlc mli mna mva mch mwr msh mnv mns mfa) : V_L13 ki co pr pa tw nv sv pn pl po pf pt ru le li bn ip aw ns ch ma br tl ou mki msz mle mel mme mal mic mil mio mab mae msa mlc mli mna mva mma mch mre mlv mwr msh mth mnv mns mfa mmo k1 k2 k3 k4 PI := by
  obtain ⟨⟨rfl, rfl, rfl, rfl, rfl, rfl, rfl, rfl, rfl, rfl, rfl, rfl, rfl⟩, n, m, k, rfl, rfl, rfl, hk, hT, hV, hS, hva, hJ⟩ := hI
  unfold V_L13
  have hn40 := hV.1
  have hm24 := hS.2.1
  have l1 : nI n ≤ 40 := nI_leR (n := 40) (by decide) (by omega) |>.mpr (by omega)
  have l2 : nI m ≤ 24 := nI_leR (n := 24) (by decide) (by omega) |>.mpr (by omega)
  refine ⟨⟨l1, l2⟩, fun h => ⟨⟨l1, l2⟩, fun _ => ⟨⟨rfl, rfl, rfl, rfl, rfl, rfl, rfl, rfl, rfl, rfl, rfl, rfl, rfl⟩, n, m, k, rfl, rfl, rfl, hk, hT, hV, hS, hva, hJ⟩, fun q => absurd h q⟩, fun h => ⟨⟨l1, l2⟩, fun q => absurd q h, fun _ => ?_⟩⟩
  have h' : sHas (nI m) k1 = true ∧ sHas (nI n) k2 = true := by
    have := Classical.byContradiction h
    rwa [Bool.and_eq_true] at this
  obtain ⟨s0, hs, rfl⟩ := sHas_nI (by omega) h'.1
  obtain ⟨v0, hv, rfl⟩ := sHas_nI (by omega) h'.2
  have c4 : (40 * nI s0 + nI v0 : Int32).toNatClampNeg = 40 * s0 + v0 := by rw [jx40, nI_clamp (by omega)]
  have c5 : (nI v0 * 24 + nI s0 : Int32).toNatClampNeg = v0 * 24 + s0 := by rw [px24, nI_clamp (by omega)]
  obtain ⟨j1, j2, _⟩ := hJ.2.2 s0 v0 (by omega) (by omega)
  rw [c4, c5, updL0]
  refine ⟨fun q => ⟨fun _ => ⟨⟨rfl, rfl, rfl, rfl, rfl, rfl, rfl, rfl, rfl, rfl, rfl, rfl, rfl⟩, n, m, k, rfl, rfl, rfl, hk, hT, hV, hS, hva, hJ⟩, fun z => z ?_⟩, fun q => ⟨fun _ => ⟨⟨rfl, rfl, rfl, rfl, rfl, rfl, rfl, rfl, rfl, rfl, rfl, rfl, rfl⟩, n, m, k, rfl, rfl, rfl, hk, hT, hV, hS, hva, hJ⟩, fun z => z ?_⟩⟩
  · rw [if_pos (j1.mpr q)]; exact lgc_self _
  · have hne : ¬ ch (v0 * 24 + s0) = 0 := fun w => q (j1.mp w)
    rw [if_neg hne, j2 hne]; exact lgc_self _
set_option maxHeartbeats 4000000 in
theorem s_L14 (ki : Nat → Int32) (co : Nat → Int64) (pr : Nat → Int32) (pa : Nat → Int32) (tw : Nat → Int32) (nv : Int32) (sv : Int32) (pn : Nat → Int32) (pl : Nat → Int32) (po : Nat → Int32) (pf : Nat → Int32) (pt : Nat → Int32) (ru : Nat → Int32) (le : Nat → Int32) (li : Nat → Int32) (bn : Nat → Int32) (ip : Nat → Int32) (aw : Nat → Int32) (ns : Int32) (ch : Nat → Int32) (ma : Nat → Int32) (br : Nat → Int64) (tl : Int32) (ou : Nat → Int64) (mki : Nat → Int32) (msz : Nat → Int64) (mle : Nat → Int32) (mel : Nat → Int32) (mme : Nat → Int32) (mal : Nat → Int32) (mic : Nat → Int32) (mil : Nat → Int32) (mio : Nat → Int32) (mab : Nat → Int32) (mae : Nat → Int32) (msa : Nat → Int32) (mlc : Nat → Int32) (mli : Nat → Int32) (mna : Nat → Int32) (mva : Nat → Int32) (mma : Nat → Int32) (mch : Nat → Int32) (mre : Nat → Int32) (mlv : Nat → Int32) (mwr : Nat → Int64) (msh : Nat → Int32) (mth : Int32) (mnv : Int32) (mns : Int32) (mfa : Int32) (mmo : Int32) (k1 k2 k3 k4 : Int32) (hI : LInv ki co pr pa tw nv sv pn pl po pf pt ru le li bn ns ch ma br tl mki msz mle mel mme mic mil mio mab mae msa mlc mli mna mva mch mwr msh mnv mns mfa) : V_L14 ki co pr pa tw nv sv pn pl po pf pt ru le li bn ip aw ns ch ma br tl ou mki msz mle mel mme mal mic mil mio mab mae msa mlc mli mna mva mma mch mre mlv mwr msh mth mnv mns mfa mmo k1 k2 k3 k4 PI := by
  obtain ⟨⟨rfl, rfl, rfl, rfl, rfl, rfl, rfl, rfl, rfl, rfl, rfl, rfl, rfl⟩, n, m, k, rfl, rfl, rfl, hk, hT, hV, hS, hva, hJ⟩ := hI
  unfold V_L14
  have e : cntL br 960 = mfa := by rw [cntL_sum 960 hJ.bc.1, hJ.sum 960 (Nat.le_refl _), ← hJ.2.1]
  exact ⟨fun _ => ⟨⟨rfl, rfl, rfl, rfl, rfl, rfl, rfl, rfl, rfl, rfl, rfl, rfl, rfl⟩, n, m, k, rfl, rfl, rfl, hk, hT, hV, hS, hva, hJ⟩, fun q => q e⟩
set_option maxHeartbeats 4000000 in
theorem s_L15 (ki : Nat → Int32) (co : Nat → Int64) (pr : Nat → Int32) (pa : Nat → Int32) (tw : Nat → Int32) (nv : Int32) (sv : Int32) (pn : Nat → Int32) (pl : Nat → Int32) (po : Nat → Int32) (pf : Nat → Int32) (pt : Nat → Int32) (ru : Nat → Int32) (le : Nat → Int32) (li : Nat → Int32) (bn : Nat → Int32) (ip : Nat → Int32) (aw : Nat → Int32) (ns : Int32) (ch : Nat → Int32) (ma : Nat → Int32) (br : Nat → Int64) (tl : Int32) (ou : Nat → Int64) (mki : Nat → Int32) (msz : Nat → Int64) (mle : Nat → Int32) (mel : Nat → Int32) (mme : Nat → Int32) (mal : Nat → Int32) (mic : Nat → Int32) (mil : Nat → Int32) (mio : Nat → Int32) (mab : Nat → Int32) (mae : Nat → Int32) (msa : Nat → Int32) (mlc : Nat → Int32) (mli : Nat → Int32) (mna : Nat → Int32) (mva : Nat → Int32) (mma : Nat → Int32) (mch : Nat → Int32) (mre : Nat → Int32) (mlv : Nat → Int32) (mwr : Nat → Int64) (msh : Nat → Int32) (mth : Int32) (mnv : Int32) (mns : Int32) (mfa : Int32) (mmo : Int32) (k1 k2 k3 k4 : Int32) (hI : LInv ki co pr pa tw nv sv pn pl po pf pt ru le li bn ns ch ma br tl mki msz mle mel mme mic mil mio mab mae msa mlc mli mna mva mch mwr msh mnv mns mfa) : V_L15F ki co pr pa tw nv sv pn pl po pf pt ru le li bn ip aw ns ch ma br tl ou mki msz mle mel mme mal mic mil mio mab mae msa mlc mli mna mva mma mch mre mlv mwr msh mth mnv mns mfa mmo k1 k2 k3 k4 PI := by
  obtain ⟨⟨rfl, rfl, rfl, rfl, rfl, rfl, rfl, rfl, rfl, rfl, rfl, rfl, rfl⟩, n, m, k, rfl, rfl, rfl, hk, hT, hV, hS, hva, hJ⟩ := hI
  unfold V_L15F
  have e := hJ.sum 960 (Nat.le_refl _)
  have em := hJ.2.1
  refine ⟨hJ.bc.1, fun x1 f2 hc => ⟨em, fun x3 u4 hm => ?_⟩⟩
  rw [e, ← em] at hc
  rcases hc with ⟨rfl, hno⟩ | ⟨rfl, hyes, i, p, kk, e1, e2, e3⟩
  · exact ⟨fun _ => ⟨fun _ => ⟨⟨rfl, rfl, rfl, rfl, rfl, rfl, rfl, rfl, rfl, rfl, rfl, rfl, rfl⟩, n, m, k, rfl, rfl, rfl, hk, hT, hV, hS, hva, hJ⟩, fun q => absurd q (by decide)⟩, fun q => q (hm.1 hno)⟩
  · obtain ⟨q1, i', p', k', f1, f2', f3⟩ := hm.2 hyes
    refine ⟨fun _ => ⟨fun q => absurd rfl q, fun _ => ⟨fun _ => ⟨⟨rfl, rfl, rfl, rfl, rfl, rfl, rfl, rfl, rfl, rfl, rfl, rfl, rfl⟩, n, m, k, rfl, rfl, rfl, hk, hT, hV, hS, hva, hJ⟩, fun q => q ?_⟩⟩, fun q => q q1⟩
    have hi : i = i' := by
      have bd : ∀ {B : Nat → Nat → Prop} {i p k : Nat}, FaAt B i p k → i < 2 ^ 31 := fun {B i p k} h => by
        have h1 := sumN_bd (F := FS B) (c := 36) (fun p => cN_le _ _) p
        have h2 := cN_le (B p) k
        have h3 := h.1
        have h4 := h.2.1
        have h5 := h.2.2.2
        omega
      exact (nI_eq (bd e2) (bd f2')).mp (e1.symm.trans f1)
    subst hi
    have e2' : FaAt (BF mwr) i p kk := by
      obtain ⟨g1, g2, g3, g4⟩ := e2
      rw [hJ.sum p (by omega), hJ.bc.2 p g1] at g4
      exact ⟨g1, g2, by rw [← hJ.bc.2 p g1]; exact g3, g4⟩
    obtain ⟨rfl, rfl⟩ := e2'.unique f2'
    rw [show (0 : Int32).toNatClampNeg = 0 from rfl, e3, f3]; exact lgc_self _
set_option maxHeartbeats 4000000 in
theorem s_L16 (ki : Nat → Int32) (co : Nat → Int64) (pr : Nat → Int32) (pa : Nat → Int32) (tw : Nat → Int32) (nv : Int32) (sv : Int32) (pn : Nat → Int32) (pl : Nat → Int32) (po : Nat → Int32) (pf : Nat → Int32) (pt : Nat → Int32) (ru : Nat → Int32) (le : Nat → Int32) (li : Nat → Int32) (bn : Nat → Int32) (ip : Nat → Int32) (aw : Nat → Int32) (ns : Int32) (ch : Nat → Int32) (ma : Nat → Int32) (br : Nat → Int64) (tl : Int32) (ou : Nat → Int64) (mki : Nat → Int32) (msz : Nat → Int64) (mle : Nat → Int32) (mel : Nat → Int32) (mme : Nat → Int32) (mal : Nat → Int32) (mic : Nat → Int32) (mil : Nat → Int32) (mio : Nat → Int32) (mab : Nat → Int32) (mae : Nat → Int32) (msa : Nat → Int32) (mlc : Nat → Int32) (mli : Nat → Int32) (mna : Nat → Int32) (mva : Nat → Int32) (mma : Nat → Int32) (mch : Nat → Int32) (mre : Nat → Int32) (mlv : Nat → Int32) (mwr : Nat → Int64) (msh : Nat → Int32) (mth : Int32) (mnv : Int32) (mns : Int32) (mfa : Int32) (mmo : Int32) (k1 k2 k3 k4 : Int32) (hI : LInv ki co pr pa tw nv sv pn pl po pf pt ru le li bn ns ch ma br tl mki msz mle mel mme mic mil mio mab mae msa mlc mli mna mva mch mwr msh mnv mns mfa) : V_L16F ki co pr pa tw nv sv pn pl po pf pt ru le li bn ip aw ns ch ma br tl ou mki msz mle mel mme mal mic mil mio mab mae msa mlc mli mna mva mma mch mre mlv mwr msh mth mnv mns mfa mmo k1 k2 k3 k4 PI := by
  obtain ⟨⟨rfl, rfl, rfl, rfl, rfl, rfl, rfl, rfl, rfl, rfl, rfl, rfl, rfl⟩, n, m, k, rfl, rfl, rfl, hk, hT, hV, hS, hva, hJ⟩ := hI
  unfold V_L16F
  have hn40 := hV.1
  have cn : (nI n).toNatClampNeg = n := nI_clamp (by omega)
  refine ⟨⟨n, k, hn40, hk, rfl, rfl, hV.2.1, hV.2.2.2.1.pa, hT⟩, fun x1 f2 u3 f4 hc => ⟨⟨n, rfl, hV.mvok⟩, fun t5 u6 f7 hm => ?_⟩⟩
  obtain ⟨hm1, hm2⟩ := hm
  rcases hc with ⟨rfl, hno, rfl, rfl⟩ | ⟨rfl, hyes, htw, rr, hrr, hou⟩
  · exact ⟨fun _ => ⟨fun _ => ⟨⟨rfl, rfl, rfl, rfl, rfl, rfl, rfl, rfl, rfl, rfl, rfl, rfl, rfl⟩, n, m, k, rfl, rfl, rfl, hk, hT, hV, hS, hva, hJ⟩, fun q => absurd q (by decide)⟩, fun q => q (hm1 hno).1⟩
  · obtain ⟨t1, t2⟩ := htw n rfl hn40
    obtain ⟨q1, q2, q3⟩ := hm2 hyes
    rw [cn] at q2
    have htm := tw_mal hn40 hV.2.2.2.1 t1 q2
    obtain ⟨s0, hs, rfl⟩ := sHas_nI (by omega) hyes.1
    obtain ⟨v0, hv, rfl⟩ := sHas_nI (by omega) hyes.2
    rw [nI_clamp (by omega), nI_clamp (by omega)] at hrr q3
    have er : t5 = rr := by rw [Bool.eq_iff_iff, q3, hrr, htm s0 hs, htm v0 hv]
    subst er
    have hl := if_lg t5 f4 hou
    have hP : LInv ki co pr pa f2 (nI n) u3 pn pl po pf pt ru le li bn (nI m) ch ma br tl ki co mle mel mme pn pl po pf pt ru le li bn mva mch mwr msh (nI n) (nI m) mfa := ⟨⟨rfl, rfl, rfl, rfl, rfl, rfl, rfl, rfl, rfl, rfl, rfl, rfl, rfl⟩, n, m, n, rfl, rfl, t2, Nat.le_refl _, t1, hV, hS, hva, hJ⟩
    refine ⟨fun _ => ⟨fun q => absurd rfl q, fun _ => ⟨fun hb => ?_, fun hb => ?_⟩⟩, fun q => q q1⟩
    · rw [bI0.mp hb] at hl; exact ⟨fun _ => hP, fun q => q hl⟩
    · rw [bI_ne.mp hb] at hl; exact ⟨fun _ => hP, fun q => q hl⟩
