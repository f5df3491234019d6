/-! ===== what holds between two calls ===== -/
/-- the values of class and model -/
def VV (ki : Nat → Int32) (co : Nat → Int64) (pr pa mle mel mme : Nat → Int32) (n : Nat) : Prop :=
  n ≤ 40 ∧ (∀ j, j < 480 → vp_in (pa j) 40) ∧ (∀ j, j < 320 → vp_in (mel j) 40) ∧ RvOK ki co pr pa ki co mle mel mme ∧
  ∀ v, v < 40 → (∃ k, k < 6 ∧ ki v = nI k) ∧ (n ≤ v → pr v = 0) ∧ (ki v = 3 → ∃ t, t < 2 ^ 31 ∧ told 8 t = true ∧ co v = (nI t).toInt64)
/-- patterns and schemas -/
def SS (ki : Nat → Int32) (co : Nat → Int64) (pn po ru le li bn : Nat → Int32) (n m : Nat) : Prop :=
  POK pn po ∧ m ≤ 24 ∧ LeOK le ∧ LdOK ru le li bn m ∧ (∀ s k, s < 24 → (k < 17 ∨ k = 24 ∨ k = 25) → okk ki co n k (ru (s * 29 + k))) ∧ (∀ s i, s < 24 → i < 12 → bn ((s * 3 + 2) * 12 + i) = -1 ∨ ∃ q, q < 4096 ∧ bn ((s * 3 + 2) * 12 + i) = nI q) ∧ ∀ s k i, s < 24 → k < 4 → i < (le (s * 4 + k)).toNatClampNeg → ∃ q, q < m ∧ li ((s * 4 + k) * 3 + i) = nI q
/-- the latest judging -/
def JR (ch ma : Nat → Int32) (br : Nat → Int64) (tl : Int32) (mch : Nat → Int32) (mwr : Nat → Int64) (msh : Nat → Int32) (mfa : Int32) : Prop :=
  tl = 0 ∧ mfa = nI (sumN (FS (BF mwr)) 960) ∧ ∀ x w, x < 24 → w < 40 → (ch (w * 24 + x) = 0 ↔ mch (40 * x + w) = 0) ∧ (¬ ch (w * 24 + x) = 0 → ma (w * 24 + x) = msh (40 * x + w)) ∧ br (w * 24 + x) = mwr (40 * x + w) ∧ ∀ k, 36 ≤ k → k < 64 → bL (br (w * 24 + x)) k = false
def LInv (ki : Nat → Int32) (co : Nat → Int64) (pr pa tw : Nat → Int32) (nv sv : Int32) (pn pl po pf pt ru le li bn : Nat → Int32) (ns : Int32) (ch ma : Nat → Int32) (br : Nat → Int64) (tl : Int32) (mki : Nat → Int32) (msz : Nat → Int64) (mle mel mme mic mil mio mab mae msa mlc mli mna mva mch : Nat → Int32) (mwr : Nat → Int64) (msh : Nat → Int32) (mnv mns mfa : Int32) : Prop :=
  (ki = mki ∧ co = msz ∧ pn = mic ∧ pl = mil ∧ po = mio ∧ pf = mab ∧ pt = mae ∧ ru = msa ∧ le = mlc ∧ li = mli ∧ bn = mna ∧ nv = mnv ∧ ns = mns) ∧
  ∃ n m k : Nat, nv = nI n ∧ ns = nI m ∧ sv = nI k ∧ k ≤ n ∧ TwOK ki co pr pa tw k ∧ VV ki co pr pa mle mel mme n ∧ SS ki co pn po ru le li bn n m ∧ (∀ j, j < 960 → mva j = 0 ∨ mva j = 1) ∧ JR ch ma br tl mch mwr msh mfa
theorem VV.vok {ki : Nat → Int32} {co : Nat → Int64} {pr pa mle mel mme : Nat → Int32} {n : Nat} (h : VV ki co pr pa mle mel mme n) : VOK ki co pr pa n := by
  obtain ⟨h1, h2, h3, hR, h5⟩ := h
  refine ⟨h1, h2, fun v hv => ?_⟩
  obtain ⟨a1, a2, a3⟩ := h5 v hv
  obtain ⟨_, _, b3, b4, b5⟩ := hR v hv
  refine ⟨a1, b3, b4, fun k4 => ?_, a3⟩
  rcases b5 with ⟨_, ⟨L, hL, _, hb, _⟩, _⟩ | ⟨q, _⟩
  · exact ⟨L, hL, hb⟩
  · exact absurd k4 q
theorem VV.mvok {ki : Nat → Int32} {co : Nat → Int64} {pr pa mle mel mme : Nat → Int32} {n : Nat} (h : VV ki co pr pa mle mel mme n) : MVOK ki co mle mel mme n := by
  obtain ⟨h1, h2, h3, hR, h5⟩ := h
  refine ⟨h1, h3, fun v hv => ?_⟩
  obtain ⟨a1, a2, a3⟩ := h5 v hv
  obtain ⟨_, _, b3, b4, b5⟩ := hR v hv
  rcases b5 with ⟨k4, ⟨L, hL, eL, hb, hm⟩, hme⟩ | ⟨k4, eL, hme⟩
  · refine ⟨a1, ⟨L, hL, eL⟩, fun i hi => ?_, fun i hi => Or.inl (hme i hi), a3⟩
    rw [eL, nI_clamp (by omega)] at hi
    rw [hm i hi]
    exact b4 i (by omega) (by rw [hb i (by omega)]; exact decide_eq_true hi)
  · refine ⟨a1, ⟨0, by decide, eL⟩, fun i hi => ?_, fun i hi => ?_, a3⟩
    · rw [eL] at hi; exact absurd hi (Nat.not_lt_zero _)
    · rw [hme i hi]
      by_cases q : bt (pr v) i = true
      · rw [if_pos q]; exact Or.inr (b4 i hi q)
      · rw [if_neg q]; exact Or.inl rfl
theorem cpb_mpb {ki : Nat → Int32} {co : Nat → Int64} {pr pa mle mel mme : Nat → Int32} (hR : RvOK ki co pr pa ki co mle mel mme) : cpb ki pr = mpb ki mle mme := by
  funext v i
  apply propext
  unfold cpb mpb
  constructor
  · rintro ⟨q1, q2, q3, q4⟩
    obtain ⟨_, _, b3, b4, b5⟩ := hR v q3
    refine ⟨q2, q3, ?_⟩
    rcases b5 with ⟨k4, ⟨L, hL, eL, hb, hm⟩, hme⟩ | ⟨k4, eL, hme⟩
    · rw [hb i q2] at q1
      exact Or.inl ⟨k4, by rw [eL, nI_clamp (by omega)]; exact of_decide_eq_true q1⟩
    · refine Or.inr ⟨q4.resolve_left k4, ?_⟩
      rw [hme i q2, if_pos q1]
      obtain ⟨p, hp, e⟩ := b4 i q2 q1
      rw [e]; exact nI_pos (by omega)
  · rintro ⟨q2, q3, q⟩
    obtain ⟨_, _, b3, b4, b5⟩ := hR v q3
    rcases b5 with ⟨k4, ⟨L, hL, eL, hb, hm⟩, hme⟩ | ⟨k4, eL, hme⟩
    · rcases q with q | q
      · rw [eL, nI_clamp (by omega)] at q
        exact ⟨by rw [hb i q2]; exact decide_eq_true q.2, q2, q3, Or.inl k4⟩
      · rw [k4] at q; exact absurd q.1 (by decide)
    · rcases q with q | q
      · exact absurd q.1 k4
      · refine ⟨Classical.byContradiction (fun z => ?_), q2, q3, Or.inr q.1⟩
        rw [hme i q2, if_neg z] at q; exact q.2 neg1_lt
theorem cpt_mpt {ki : Nat → Int32} {co : Nat → Int64} {pr pa mle mel mme : Nat → Int32} (hR : RvOK ki co pr pa ki co mle mel mme) : cpt ki pr pa = mpt ki mle mel mme := by
  funext v i
  have e := congrFun (congrFun (cpb_mpb hR) v) i
  by_cases h : cpb ki pr v i
  · rw [cpt_at h]
    have hm : mpb ki mle mme v i := e ▸ h
    obtain ⟨q1, q2, q3, q4⟩ := h
    obtain ⟨_, _, b3, b4, b5⟩ := hR v q3
    rcases b5 with ⟨k4, ⟨L, hL, eL, hb, hp⟩, hme⟩ | ⟨k4, eL, hme⟩
    · have cL : (mle v).toNatClampNeg = L := by rw [eL, nI_clamp (by omega)]
      have hi := (mpb_r q3 k4 (by omega) i).mp hm
      rw [mpt_r q3 k4 (by omega) hi, hp i (by omega)]
    · have k5 := q4.resolve_left k4
      have hi := (mpb_m q3 k5 q2).mp hm
      rw [mpt_m q3 k5 q2 hi, hme i q2, if_pos q1]
  · have hm : ¬ mpb ki mle mme v i := fun q => h (e ▸ q)
    rw [show cpt ki pr pa v i = 0 from if_neg h]
    unfold mpt
    rw [if_neg (fun q => hm ⟨q.1, q.2.1, Or.inl q.2.2⟩), if_neg (fun q => hm ⟨q.1, q.2.1, Or.inr q.2.2⟩)]
theorem plS_tw {ki : Nat → Int32} {co : Nat → Int64} {pb : Nat → Nat → Prop} {pt : Nat → Nat → Nat} {tw tw2 pn pl po pf pe : Nat → Int32} {k v : Nat} {x : Int32} (hv : tw v = tw2 v) (h1 : k = 1 → tw x.toNatClampNeg = tw2 x.toNatClampNeg) (h2 : k = 2 → ∀ i, pb x.toNatClampNeg i → tw (pt x.toNatClampNeg i) = tw2 (pt x.toNatClampNeg i)) (h3 : ∀ i, pb v i → tw (pt v i) = tw2 (pt v i)) (h : plS ki co pb pt tw pn pl po pf pe k v x) : plS ki co pb pt tw2 pn pl po pf pe k v x := by
  obtain ⟨c0, c1, c2, c3, c4, c5, c6, c7, c8, c9, c10, c11, c12, c13, c14⟩ := h
  refine ⟨c0, fun e => ?_, fun e => ?_, c3, c4, c5, c6, c7, c8, c9, c10, c11, c12, fun e k4 => ?_, c14⟩
  · rw [← hv, ← h1 e]; exact c1 e
  · obtain ⟨i, q1, q2, q3⟩ := c2 e
    exact ⟨i, q1, q2, by rw [← h2 e i q2, ← hv]; exact q3⟩
  · rcases c13 e k4 with q | q
    · exact Or.inl q
    · exact Or.inr (fun i j q1 q2 q3 q4 => by rw [← h3 i q3, ← h3 j q4]; exact q i j q1 q2 q3 q4)
/-- one spec for both sides -/
theorem gC_gM {ki : Nat → Int32} {co : Nat → Int64} {pr pa tw mle mel mme mal pn pl po pf pt ru le li bn mva mma : Nat → Int32} {n m : Nat} (hV : VV ki co pr pa mle mel mme n) (hS : SS ki co pn po ru le li bn n m) (ht : TwOK ki co pr pa tw n) (ha : AlOK ki co mle mel mme mal n) :
    ∃ va mk, gM ki co mle mel mme mal pn pl po pf pt ru le li bn mva mma n = gC ki co pr pa tw pn pl po pf pt ru le li bn n va mk := by
  have hn := hV.1
  have hR := hV.2.2.2.1
  have htm := tw_mal hn hR ht ha
  refine ⟨fun s v => ¬ mva (40 * s + v) = 0, fun s v i => ¬ mva (40 * s + v) = 0 ∧ bt (mma (40 * s + v)) i = true, ?_⟩
  unfold gM gC
  rw [← cpb_mpb hR, ← cpt_mpt hR]
  have lt : ∀ v i, v < 40 → cpb ki pr v i → cpt ki pr pa v i < v := fun v i hv q => by
    rw [cpt_at q]
    obtain ⟨p, hp, e⟩ := (hR v hv).2.2.2.1 i q.2.1 q.1
    rw [e, nI_clamp (by omega)]; exact hp
  have key : (fun s v k => s < 24 → v < n → k < 17 → ¬ ru (s * 29 + k) < 0 → plS ki co (cpb ki pr) (cpt ki pr pa) mal pn pl po pf pt k v (ru (s * 29 + k))) = (fun s v k => s < 24 → v < n → k < 17 → ¬ ru (s * 29 + k) < 0 → plS ki co (cpb ki pr) (cpt ki pr pa) tw pn pl po pf pt k v (ru (s * 29 + k))) := by
    funext s v k
    apply propext
    have x12 : s < 24 → k < 17 → ¬ ru (s * 29 + k) < 0 → (k = 1 ∨ k = 2) → (ru (s * 29 + k)).toNatClampNeg < n := fun h1 h2 h3 h4 => by
      rcases hS.2.2.2.2.1 s k h1 (Or.inl h2) with q | ⟨q, e, q1, q2, q3, q4, _⟩
      · rw [q] at h3; exact absurd neg1_lt h3
      · rw [e, nI_clamp (by omega)]
        rcases h4 with h4 | h4
        · exact q3 h4
        · exact (q4 h4).1
    constructor
    · intro h h1 h2 h3 h4
      exact plS_tw (htm v h2).symm (fun e => (htm _ (x12 h1 h3 h4 (Or.inl e))).symm) (fun e i q => (htm _ (by have := x12 h1 h3 h4 (Or.inr e); have := lt _ i (by omega) q; omega)).symm) (fun i q => (htm _ (by have := lt v i (by omega) q; omega)).symm) (h h1 h2 h3 h4)
    · intro h h1 h2 h3 h4
      exact plS_tw (htm v h2) (fun e => htm _ (x12 h1 h3 h4 (Or.inl e))) (fun e i q => htm _ (by have := x12 h1 h3 h4 (Or.inr e); have := lt _ i (by omega) q; omega)) (fun i q => htm _ (by have := lt v i (by omega) q; omega)) (h h1 h2 h3 h4)
  rw [key]
theorem JR.bc {ch ma : Nat → Int32} {br : Nat → Int64} {tl : Int32} {mch : Nat → Int32} {mwr : Nat → Int64} {msh : Nat → Int32} {mfa : Int32} (h : JR ch ma br tl mch mwr msh mfa) : Hi0 br ∧ (∀ p, p < 960 → BC br p = BF mwr p) := by
  have key : ∀ p, p < 960 → br p = mwr (40 * (p % 24) + p / 24) ∧ ∀ k, 36 ≤ k → k < 64 → bL (br p) k = false := fun p hp => by
    obtain ⟨_, _, a3, a4⟩ := h.2.2 (p % 24) (p / 24) (by omega) (by omega)
    rw [show p / 24 * 24 + p % 24 = p by omega] at a3 a4
    exact ⟨a3, a4⟩
  refine ⟨fun p hp => (key p hp).2, fun p hp => ?_⟩
  funext k
  unfold BC BF
  rw [(key p hp).1]
theorem JR.sum {ch ma : Nat → Int32} {br : Nat → Int64} {tl : Int32} {mch : Nat → Int32} {mwr : Nat → Int64} {msh : Nat → Int32} {mfa : Int32} (h : JR ch ma br tl mch mwr msh mfa) : ∀ b, b ≤ 960 → sumN (FS (BC br)) b = sumN (FS (BF mwr)) b := fun b hb => sumN_eq b (fun p hp => by unfold FS; rw [h.bc.2 p (by omega)])
theorem JR.zero {ch ma : Nat → Int32} {br : Nat → Int64} {tl : Int32} {mch : Nat → Int32} {mwr : Nat → Int64} {msh : Nat → Int32} {mfa : Int32} (h : Zst ch ma br tl) (h' : Zm mch mwr mfa) : JR ch ma br tl mch mwr msh mfa := by
  refine ⟨h.1, ?_, fun x w hx hw => ?_⟩
  · rw [h'.2, sumN_off (a := 0) 960 (by decide) (fun p _ hp => ?_)]
    · rfl
    · unfold FS
      rw [cN_off (L := 0) 36 (by decide) (fun i _ _ q => ?_)]
      · rfl
      · unfold BF at q
        rw [(h'.1 _ (by omega)).2, bL_0] at q; exact absurd q (by decide)
  · obtain ⟨a1, a2, a3⟩ := h.2 (w * 24 + x) (by omega)
    obtain ⟨b1, b2⟩ := h'.1 (40 * x + w) (by omega)
    exact ⟨⟨fun _ => b1, fun _ => a1⟩, fun q => absurd a1 q, by rw [a3, b2], fun k _ _ => by rw [a3]; exact bL_0 k⟩
theorem RD_of {G : Sp} {ch ma : Nat → Int32} {br : Nat → Int64} {s v : Nat} (hG : ∀ x w, x < 24 → w < 40 → JZero ch ma br x w ∨ (RD G s v x w ∧ JGood G ch ma br x w)) (h0 : ¬ ch (v * 24 + s) = 0) (hb : ∀ x w, RD G s v x w → x < 24 ∧ w < 40) : ∀ n x w, Dist G s v n x w → ¬ ch (w * 24 + x) = 0 := by
  intro n
  induction n with
  | zero => intro x w h; exact absurd h id
  | succ n ih =>
    intro x w h
    match n, h with
    | 0, h => obtain ⟨rfl, rfl⟩ := h; exact h0
    | n + 1, h =>
      obtain ⟨y, u, hd, ha⟩ := h
      have hy := ih y u hd
      obtain ⟨b1, b2⟩ := hb y u ⟨n + 1, hd⟩
      rcases hG y u b1 b2 with q | q
      · exact absurd q.1 hy
      · exact q.2.2.2.2 x w ha
/-- the judging of the class and that of the model leave the same -/
theorem JR.done {G : Sp} {lv : Nat → Nat} {s v : Nat} {ch ma : Nat → Int32} {br : Nat → Int64} {tl : Int32} {mch : Nat → Int32} {mwr : Nat → Int64} {msh : Nat → Int32} {mfa : Int32} {rr : Bool} (hC : Ctx G (RD G s v) lv) (ht : tl = 0) (h : Jdone G (RD G s v) s v true ch ma br) (h' : MJd G s v rr mch msh mwr mfa) : JR ch ma br tl mch mwr msh mfa ∧ (rr = true ↔ br (v * 24 + s) = 0) := by
  obtain ⟨j1, j2⟩ := h
  obtain ⟨hG, h0⟩ := j2 rfl
  obtain ⟨m1, m2, m3, m4⟩ := h'
  have hR := RD_of hG h0 hC.2.2.1
  have hz : ∀ x w, x < 24 → w < 40 → (ch (w * 24 + x) = 0 ↔ ¬ RD G s v x w) := fun x w hx hw => by
    refine ⟨fun q ⟨n, hd⟩ => hR n x w hd q, fun q => ?_⟩
    rcases hG x w hx hw with z | z
    · exact z.1
    · exact absurd z.1 q
  have hbr : ∀ x w, x < 24 → w < 40 → br (w * 24 + x) = mwr (40 * x + w) ∧ ∀ k, 36 ≤ k → k < 64 → bL (br (w * 24 + x)) k = false := fun x w hx hw => by
    have e : br (w * 24 + x) = mwr (40 * x + w) := bL_ext (fun i hi => by
      rw [Bool.eq_iff_iff, (m3 x w hx hw).2.2 i hi]
      rcases hG x w hx hw with z | z
      · have hn := (hz x w hx hw).mp z.1
        rw [z.2.2, bL_0]
        exact ⟨fun q => absurd q (by decide), fun q => absurd q.2.1 hn⟩
      · rw [z.2.2.1 i hi]
        exact ⟨fun q => ⟨q.1, z.1, q.2⟩, fun q => ⟨q.1, q.2.2⟩⟩)
    refine ⟨e, fun k h1 h2 => Bool.eq_false_iff.mpr (fun q => ?_)⟩
    rw [e] at q
    have := ((m3 x w hx hw).2.2 k h2).mp q; omega
  refine ⟨⟨ht, ?_, fun x w hx hw => ⟨?_, fun q => ?_, (hbr x w hx hw).1, (hbr x w hx hw).2⟩⟩, ?_⟩
  · rw [m4]
    refine congrArg nI (sumN_eq 960 (fun p hp => cN_iff 36 (fun i hi => ?_)))
    unfold BF
    rw [(m3 (p % 24) (p / 24) (by omega) (by omega)).2.2 i (by omega)]
    exact ⟨fun q => ⟨hi, q⟩, fun q => q.2⟩
  · rw [hz x w hx hw, (m3 x w hx hw).1]
  · rcases hG x w hx hw with z | z
    · exact absurd z.1 q
    · exact b_ext (fun i hi => by rw [Bool.eq_iff_iff, z.2.2.2.1 i hi, (m3 x w hx hw).2.1 z.1 i hi])
  · obtain ⟨r1, r2⟩ := hC.2.2.1 s v ⟨1, Dist.root⟩
    rw [m2, (hC.1 s v ⟨1, Dist.root⟩).1, bL_z]
    rcases hG s v r1 r2 with z | z
    · exact absurd z.1 h0
    · constructor
      · intro q i hi hb
        obtain ⟨b1, b2⟩ := (z.2.2.1 i hi).mp hb
        exact q i b1 b2
      · intro q b hb hbad
        exact q b (by omega) ((z.2.2.1 b (by omega)).mpr ⟨hb, hbad⟩)
