/-! ===== the model's judge in full ===== -/
def Cir (ru le li bn : Nat → Int32) (n x : Nat) : Prop := ∃ i, i < n ∧ (i = x ∨ Relation.TransGen (LdR n (fun s => sLIP ru le li bn s ||| sLEW ru le li bn s)) x i) ∧ Relation.TransGen (LdR n (sLIP ru le li bn)) i i
def RD (G : Sp) (s v x w : Nat) : Prop := ∃ n, Dist G s v n x w
def sumN (F : Nat → Nat) : Nat → Nat
  | 0 => 0
  | n + 1 => sumN F n + F n
theorem sumN_off {F : Nat → Nat} {a : Nat} : ∀ b, a ≤ b → (∀ p, a ≤ p → p < b → F p = 0) → sumN F b = sumN F a := by
  intro b
  induction b with
  | zero => intro h _; obtain rfl : a = 0 := by omega
            rfl
  | succ b ih =>
    intro h hz
    by_cases e : a = b + 1
    · rw [e]
    · show sumN F b + F b = _
      rw [hz b (by omega) (by omega), ih (by omega) (fun p h1 h2 => hz p h1 (by omega))]; rfl
theorem sumN_eq {F F' : Nat → Nat} : ∀ b, (∀ p, p < b → F p = F' p) → sumN F b = sumN F' b := by
  intro b
  induction b with
  | zero => intro _; rfl
  | succ b ih => intro h; show sumN F b + F b = sumN F' b + F' b; rw [ih (fun p hp => h p (by omega)), h b (by omega)]
/-- the faults of a pair, by its place in the order of faults -/
noncomputable def FB (G : Sp) (s v p : Nat) : Nat := cN (fun k => RD G s v (p % 24) (p / 24) ∧ Bad G (p % 24) (p / 24) k) 36
theorem FB_no {G : Sp} {s v p : Nat} (h : ¬ RD G s v (p % 24) (p / 24)) : FB G s v p = 0 := by
  unfold FB; rw [cN_off 36 (Nat.zero_le _) (fun i _ _ q => h q.1)]; rfl
theorem FB_yes {G : Sp} {s v x w : Nat} (hx : x < 24) (h : RD G s v x w) : FB G s v (24 * w + x) = cN (Bad G x w) 36 := by
  have e1 : (24 * w + x) % 24 = x := by omega
  have e2 : (24 * w + x) / 24 = w := by omega
  unfold FB; rw [e1, e2]
  exact cN_iff 36 (fun i _ => ⟨fun q => q.2, fun q => ⟨h, q⟩⟩)
def Zm (mch : Nat → Int32) (mwr : Nat → Int64) (mfa : Int32) : Prop := (∀ q, q < 960 → mch q = 0 ∧ mwr q = 0) ∧ mfa = 0
/-- what the model's judging leaves -/
def MJd (G : Sp) (s v : Nat) (rr : Bool) (mch msh : Nat → Int32) (mwr : Nat → Int64) (mfa : Int32) : Prop :=
  ¬ Path G 31 s v ∧ (rr = true ↔ gVa G s v) ∧
  (∀ x w, x < 24 → w < 40 → (mch (40 * x + w) = 0 ↔ ¬ RD G s v x w) ∧ (RD G s v x w → ∀ i, i < 32 → (bt (msh (40 * x + w)) i = true ↔ gMk G x w i)) ∧ ∀ k, k < 64 → (bL (mwr (40 * x + w)) k = true ↔ k < 36 ∧ RD G s v x w ∧ Bad G x w k)) ∧ mfa = nI (sumN (FB G s v) 960)
/-- the faults noted so far -/
def NF (G : Sp) (s v b : Nat) (f : Nat → Int64) (u : Int32) : Prop :=
  u = nI (sumN (FB G s v) b) ∧ ∀ x w, x < 24 → w < 40 → ∀ k, k < 64 → (bL (f (40 * x + w)) k = true ↔ 24 * w + x < b ∧ k < 36 ∧ RD G s v x w ∧ Bad G x w k)
theorem NF.skip {G : Sp} {s v b b' : Nat} {f : Nat → Int64} {u : Int32} (h : NF G s v b f u) (hb : b ≤ b') (hn : ∀ p, b ≤ p → p < b' → ¬ RD G s v (p % 24) (p / 24)) : NF G s v b' f u := by
  refine ⟨by rw [h.1, sumN_off b' hb (fun p h1 h2 => FB_no (hn p h1 h2))], fun x w hx hw k hk => ?_⟩
  rw [h.2 x w hx hw k hk]
  refine ⟨fun q => ⟨by omega, q.2⟩, fun q => ⟨?_, q.2⟩⟩
  rcases Nat.lt_or_ge (24 * w + x) b with z | z
  · exact z
  · refine absurd q.2.2.1 ?_
    have := hn (24 * w + x) z q.1
    rw [show (24 * w + x) % 24 = x by omega, show (24 * w + x) / 24 = w by omega] at this
    exact this
theorem NF.step {G : Sp} {s v x w : Nat} {f f' : Nat → Int64} {u u' : Int32} (h : NF G s v (24 * w + x) f u) (hx : x < 24) (hw : w < 40) (hr : RD G s v x w) (h1 : ∀ q, q ≠ 40 * x + w → f' q = f q) (h2 : ∀ k, k < 64 → (bL (f' (40 * x + w)) k = true ↔ bL (f (40 * x + w)) k = true ∨ (k < 36 ∧ Bad G x w k))) (h3 : u' = u + nI (cN (Bad G x w) 36)) : NF G s v (24 * w + x + 1) f' u' := by
  refine ⟨?_, fun y z hy hz k hk => ?_⟩
  · rw [h3, h.1, nI_add]
    show _ = nI (sumN (FB G s v) (24 * w + x) + FB G s v (24 * w + x))
    rw [FB_yes hx hr]
  · by_cases e : y = x ∧ z = w
    · obtain ⟨rfl, rfl⟩ := e
      rw [h2 k hk, h.2 y z hy hz k hk]
      exact ⟨fun q => q.elim (fun q => ⟨by omega, q.2⟩) (fun q => ⟨by omega, q.1, hr, q.2⟩), fun q => Or.inr ⟨q.2.1, q.2.2.2⟩⟩
    · rw [h1 _ (by omega), h.2 y z hy hz k hk]
      exact ⟨fun q => ⟨by omega, q.2⟩, fun q => ⟨by omega, q.2⟩⟩
theorem bIn0 {b : Bool} : bI (!b) = 0 ↔ b = true := by cases b <;> decide
theorem sHas_nI {n : Nat} {x : Int32} (hn : n < 2 ^ 31) (h : sHas (nI n) x = true) : ∃ k, k < n ∧ x = nI k := by
  obtain ⟨k, h1, h2, _⟩ := vp_nat (vp_sHas (N := n) (by rw [nI_toInt hn]; exact Int.le_refl _) h) hn
  exact ⟨k, h1, h2⟩
theorem MVOK.me {mki : Nat → Int32} {msz : Nat → Int64} {mle mel mme : Nat → Int32} {n : Nat} (h : MVOK mki msz mle mel mme n) : MeOK mle mel mme ∧ (∀ v : Nat, v < 40 → (mle v).toNatClampNeg ≤ 8 ∧ ¬ mle v < 0) ∧ (∀ j : Nat, j < 480 → ¬ mme j < 0 → vp_in (mme j) 40) := by
  refine ⟨fun v hv => ?_, fun v hv => ?_, fun j hj h0 => ?_⟩
  · obtain ⟨_, _, h3, h4, _⟩ := h.2.2 v hv
    refine ⟨fun i hi => ?_, fun i hi h0 => ?_⟩
    · obtain ⟨p, hp, e⟩ := h3 i hi; rw [e, nI_clamp (by omega)]; exact hp
    · obtain ⟨p, hp, e⟩ := okx_nn (h4 i hi) h0; rw [e, nI_clamp (by omega)]; exact hp
  · obtain ⟨_, ⟨L, hL, e⟩, _⟩ := h.2.2 v hv
    rw [e, nI_clamp (by omega)]; exact ⟨hL, nI_pos (by omega)⟩
  · obtain ⟨_, _, _, h4, _⟩ := h.2.2 (j / 12) (by omega)
    have := h4 (j % 12) (by omega)
    rw [show 12 * (j / 12) + j % 12 = j by omega] at this
    obtain ⟨p, hp, e⟩ := okx_nn this h0
    rw [e]; exact vp_in_nI (by omega) (by decide)
theorem Ctx_of {mki : Nat → Int32} {msz : Nat → Int64} {mle mel mme mal mic mil mio mab mae msa mlc mli mna mva mma mre mlv : Nat → Int32} {n0 m0 : Nat} (hS : MSOK mki msz mle mel mme mic mio msa mlc mli mna mva n0 m0) (hO : OrdOK msa mlc mli mna mre mlv m0) {s0 v0 : Nat} (hs : s0 < 24) (hv : v0 < 40) (hr : ¬ mre s0 = 0) (hF : ∀ s w, ¬ mre s = 0 → s < 24 → w ≤ v0 → Fixed (gM mki msz mle mel mme mal mic mil mio mab mae msa mlc mli mna mva mma n0) s w) : Ctx (gM mki msz mle mel mme mal mic mil mio mab mae msa mlc mli mna mva mma n0) (RD (gM mki msz mle mel mme mal mic mil mio mab mae msa mlc mli mna mva mma n0) s0 v0) (lvl mlv) := by
  refine ⟨fun s v ⟨n, hd⟩ => ?_, fun s v x w ⟨n, hd⟩ ha => ?_, fun s v ⟨n, hd⟩ => ?_, fun v i h => h.1⟩
  · obtain ⟨a1, a2, a3, _⟩ := Dist.fact hS hO hs hv hr hd
    have := hF s v a1 a2 a3
    exact ⟨this.1, this.2.1⟩
  · obtain ⟨a1, a2, a3, _⟩ := Dist.fact hS hO hs hv hr hd
    obtain ⟨b1, b2, b3⟩ := Ask_later hS hO a2 (by omega) a1 ha
    refine ⟨⟨n + 1, Dist.step hd ha⟩, ?_⟩
    have hm24 := hS.2.2.1
    obtain ⟨c, hc, ec⟩ := hO.2.2.2 x (by omega)
    obtain ⟨d, hd, ed⟩ := hO.2.2.2 s a2
    have lx := lvl_nI ec (by omega)
    have ls := lvl_nI ed (by omega)
    unfold mu
    rw [lx] at b3 ⊢
    rw [ls] at b3 ⊢
    rcases b3 with b3 | ⟨b3, b4⟩
    · omega
    · subst b3; omega
  · obtain ⟨a1, a2, a3, _⟩ := Dist.fact hS hO hs hv hr hd
    exact ⟨a2, by omega⟩
theorem Tail_lt {n x t : Nat} {f : Nat → Int32} (hf : ∀ s u, s < n → bt (f s) u = true → u < n) (h : Relation.TransGen (LdR n f) x t) : t < n := by
  cases h with
  | single q => exact hf _ _ q.1 q.2
  | tail _ q => exact hf _ _ q.1 q.2
theorem order_ok {msa mlc mli mna f5 f6 : Nat → Int32} {m0 s0 : Nat} (hm : m0 ≤ 24) (hL : LdOK msa mlc mli mna m0) (hs : s0 < m0)
    (h1 : ∀ t, t < 24 → (¬ f5 t = 0 ↔ t = s0 ∨ Relation.TransGen (LdR m0 (fun s => sLIP msa mlc mli mna s ||| sLEW msa mlc mli mna s)) s0 t))
    (h2 : (∀ t u, t < 24 → u < 24 → ¬ f5 t = 0 → t < m0 → bt (sLIP msa mlc mli mna t) u = true → lvl f6 t < lvl f6 u) ∧ ∀ t, t < 24 → ∃ c, c ≤ 24 ∧ f6 t = nI c) : OrdOK msa mlc mli mna f5 f6 m0 ∧ ¬ Cir msa mlc mli mna m0 s0 := by
  have ht : ∀ t, t < 24 → ¬ f5 t = 0 → t < m0 := fun t ht hz => by
    rcases (h1 t ht).mp hz with q | q
    · rw [q]; exact hs
    · exact Tail_lt (fun s u hsn hb => LAN_lt hm hL (by omega) hb) q
  have cl : ∀ t u, t < 24 → ¬ f5 t = 0 → bt (sLIP msa mlc mli mna t ||| sLEW msa mlc mli mna t) u = true → u < m0 ∧ ¬ f5 u = 0 := fun t u h24 hz hb => by
    have hu := LAN_lt hm hL h24 hb
    refine ⟨hu, (h1 u (by omega)).mpr (Or.inr ?_)⟩
    rcases (h1 t h24).mp hz with q | q
    · rw [← q]; exact .single ⟨ht t h24 hz, hb⟩
    · exact .tail q ⟨ht t h24 hz, hb⟩
  have lo : ∀ t u, t < 24 → ¬ f5 t = 0 → bt (sLIP msa mlc mli mna t) u = true → lvl f6 t < lvl f6 u := fun t u h24 hz hb =>
    h2.1 t u h24 (by have := (cl t u h24 hz (LIP_LAN hb)).1; omega) hz (ht t h24 hz) hb
  refine ⟨⟨ht, cl, lo, h2.2⟩, ?_⟩
  rintro ⟨i, hi, hr, hc⟩
  have hri : ¬ f5 i = 0 := (h1 i (by omega)).mpr hr
  have key : ∀ j, Relation.TransGen (LdR m0 (sLIP msa mlc mli mna)) i j → j < m0 ∧ ¬ f5 j = 0 ∧ lvl f6 i < lvl f6 j := fun j hj => by
    induction hj with
    | single q => exact ⟨(cl i _ (by omega) hri (LIP_LAN q.2)).1, (cl i _ (by omega) hri (LIP_LAN q.2)).2, lo i _ (by omega) hri q.2⟩
    | tail _ q ih =>
      obtain ⟨a1, a2, a3⟩ := ih
      have b := cl _ _ (by omega) a2 (LIP_LAN q.2)
      exact ⟨b.1, b.2, Nat.lt_trans a3 (lo _ _ (by omega) a2 q.2)⟩
  exact absurd (key i hc).2.2 (Nat.lt_irrefl _)
def V_Mo_judgeF (mki : Nat → Int32) (msz : Nat → Int64) (mle : Nat → Int32) (mel : Nat → Int32) (mme : Nat → Int32) (mal : Nat → Int32) (mic : Nat → Int32) (mil : Nat → Int32) (mio : Nat → Int32) (mab : Nat → Int32) (mae : Nat → Int32) (msa : Nat → Int32) (mlc : Nat → Int32) (mli : Nat → Int32) (mna : Nat → Int32) (mva : Nat → Int32) (mma : Nat → Int32) (mch : Nat → Int32) (mre : Nat → Int32) (mlv : Nat → Int32) (mwr : Nat → Int64) (msh : Nat → Int32) (mth : Int32) (mnv : Int32) (mns : Int32) (mfa : Int32) (mmo : Int32) (x : Int32) (y : Int32) (post : Int32 → (Nat → Int32) → (Nat → Int64) → (Nat → Int32) → (Nat → Int32) → (Nat → Int32) → (Nat → Int32) → (Nat → Int32) → (Nat → Int32) → (Nat → Int32) → (Nat → Int32) → (Nat → Int32) → (Nat → Int32) → (Nat → Int32) → (Nat → Int32) → (Nat → Int32) → (Nat → Int32) → (Nat → Int32) → (Nat → Int32) → (Nat → Int32) → (Nat → Int32) → (Nat → Int64) → (Nat → Int32) → Int32 → Int32 → Int32 → Int32 → Int32 → Prop) : Prop :=
  (∃ J1 : Int32 → Prop, ((¬ (bI (!(sHas mns x))) = 0 → J1 1) ∧ ((bI (!(sHas mns x))) = 0 → (((bI (!(sHas mnv y))) = 0 → J1 0) ∧ (¬ (bI (!(sHas mnv y))) = 0 → J1 1)))) ∧ (∀ (x3 : Int32), J1 x3 → ((x3 = 0 → ((∃ n : Nat, n ≤ 24 ∧ mns = nI n ∧ vp_in x n ∧ LdOK msa mlc mli mna n ∧ LeOK mlc) ∧ (∀ (t4 : Bool) (f5 : Nat → Int32) (f6 : Nat → Int32) (u7 : Int32), (∀ n : Nat, mns = nI n → n ≤ 24 → (∀ t, t < 24 → (¬ f5 t = 0 ↔ t = x.toNatClampNeg ∨ Relation.TransGen (LdR n (fun s => sLIP msa mlc mli mna s ||| sLEW msa mlc mli mna s)) x.toNatClampNeg t)) ∧ (t4 = true → (∀ t u, t < 24 → u < 24 → ¬ f5 t = 0 → t < n → bt (sLIP msa mlc mli mna t) u = true → lvl f6 t < lvl f6 u) ∧ ∀ t, t < 24 → ∃ c, c ≤ 24 ∧ f6 t = nI c) ∧ (t4 = false → ∃ i, i < n ∧ (i = x.toNatClampNeg ∨ Relation.TransGen (LdR n (fun s => sLIP msa mlc mli mna s ||| sLEW msa mlc mli mna s)) x.toNatClampNeg i) ∧ Relation.TransGen (LdR n (sLIP msa mlc mli mna)) i i)) → ((¬ (bI t4) = 0 → ((∃ n : Nat, n ≤ 40 ∧ mnv = nI n ∧ MeOK mle mel mme ∧ (∀ v : Nat, v < 40 → (mle v).toNatClampNeg ≤ 8 ∧ ¬ mle v < 0) ∧ (∀ j : Nat, j < 320 → vp_in (mel j) 40) ∧ (∀ j : Nat, j < 480 → ¬ mme j < 0 → vp_in (mme j) 40)) ∧ (∀ (f8 : Nat → Int32), (∀ n : Nat, mnv = nI n → n ≤ 40 → AlOK mki msz mle mel mme f8 n) → ((∃ n0 m0 s0 v0 : Nat, mnv = nI n0 ∧ mns = nI m0 ∧ MSOK mki msz mle mel mme mic mio msa mlc mli mna mva n0 m0 ∧ (v0 < n0 ∧ y = nI v0) ∧ OrdOK msa mlc mli mna f5 f6 m0) ∧ (∀ (f9 : Nat → Int32) (f10 : Nat → Int32), (((∀ j, j < 960 → f9 j = 0 ∨ f9 j = 1) ∧ ∀ n : Nat, mnv = nI n → n ≤ 40 → ∀ s w, ¬ f5 s = 0 → s < 24 → w ≤ y.toNatClampNeg → Fixed (gM mki msz mle mel mme f8 mic mil mio mab mae msa mlc mli mna f9 f10 n) s w ∧ (f9 (40 * s + w) = 0 → f10 (40 * s + w) = 0))) → (vp_in ((40 * x) + y) 960 ∧ ((∃ n0 m0 s0 v0 : Nat, mnv = nI n0 ∧ mns = nI m0 ∧ MSOK mki msz mle mel mme mic mio msa mlc mli mna f9 n0 m0 ∧ (v0 < n0 ∧ y = nI v0) ∧ OrdOK msa mlc mli mna f5 f6 m0 ∧ s0 < 24 ∧ ¬ f5 s0 = 0 ∧ ∀ q, q < 960 → (upd (fillN 0 960 mch) ((40 * x) + y : Int32).toNatClampNeg 1) q = if q = 40 * s0 + v0 then 1 else 0) ∧ (∀ (x11 : Int32) (f12 : Nat → Int32), ((∃ L : Nat, x11 = nI L ∧ L < 2 ^ 30 ∧ ∀ s0 : Nat, s0 < 24 → ¬ (upd (fillN 0 960 mch) ((40 * x) + y : Int32).toNatClampNeg 1) (40 * s0 + y.toNatClampNeg) = 0 → AFd (gM mki msz mle mel mme f8 mic mil mio mab mae msa mlc mli mna f9 f10 mnv.toNatClampNeg) s0 y.toNatClampNeg f12 L)) → ((x11 ≤ 30 → (∃ (I30 : Int32 → (Nat → Int64) → Int32 → Prop) (mI30 : Int32 → (Nat → Int64) → Int32 → Nat), I30 0 (fillL 0 960 mwr) 0 ∧ (∀ (x27 : Int32) (f28 : Nat → Int64) (u29 : Int32), I30 x27 f28 u29 → ((y < x27 → (∃ (I34 : Int32 → (Nat → Int32) → Prop) (mI34 : Int32 → (Nat → Int32) → Nat), I34 0 msh ∧ (∀ (x32 : Int32) (f33 : Nat → Int32), I34 x32 f33 → ((960 ≤ x32 → ((vp_in (40 * x + y) 960 ∧ (f9 (40 * x + y : Int32).toNatClampNeg = 0 ∨ f9 (40 * x + y : Int32).toNatClampNeg = 1)) ∧ post (bI (decide (¬ f9 (40 * x + y : Int32).toNatClampNeg = 0))) mki msz mle mel mme f8 mic mil mio mab mae msa mlc mli mna f9 f10 f12 f5 f6 f28 f33 x3 mnv mns u29 u7)) ∧ (¬ 960 ≤ x32 → (vp_in x32 960 ∧ (vp_in x32 960 ∧ (I34 (x32 + 1) (upd f33 x32.toNatClampNeg (f10 x32.toNatClampNeg)) ∧ mI34 (x32 + 1) (upd f33 x32.toNatClampNeg (f10 x32.toNatClampNeg)) < mI34 x32 f33)))))))) ∧ (¬ y < x27 → (∃ (I41 : Int32 → (Nat → Int64) → Int32 → Prop) (mI41 : Int32 → (Nat → Int64) → Int32 → Nat), I41 0 f28 u29 ∧ (∀ (x38 : Int32) (f39 : Nat → Int64) (u40 : Int32), I41 x38 f39 u40 → ((mns ≤ x38 → (I30 (x27 + 1) f39 u40 ∧ mI30 (x27 + 1) f39 u40 < mI30 x27 f28 u29)) ∧ (¬ mns ≤ x38 → (vp_in ((40 * x38) + x27) 960 ∧ (((f12 ((40 * x38) + x27 : Int32).toNatClampNeg) ≤ 0 → (I41 (x38 + 1) f39 u40 ∧ mI41 (x38 + 1) f39 u40 < mI41 x38 f39 u40)) ∧ (¬ (f12 ((40 * x38) + x27 : Int32).toNatClampNeg) ≤ 0 → ((∃ n0 m0 s0 v0 : Nat, mnv = nI n0 ∧ mns = nI m0 ∧ MSOK mki msz mle mel mme mic mio msa mlc mli mna f9 n0 m0 ∧ s0 < m0 ∧ v0 < n0 ∧ x38 = nI s0 ∧ x27 = nI v0) ∧ (∀ (f42 : Nat → Int64) (u43 : Int32), ((∀ G : Sp, G = gM mki msz mle mel mme f8 mic mil mio mab mae msa mlc mli mna f9 f10 mnv.toNatClampNeg → (∀ q, q ≠ 40 * x38.toNatClampNeg + x27.toNatClampNeg → f42 q = f39 q) ∧ (∀ k, k < 64 → (bL (f42 (40 * x38.toNatClampNeg + x27.toNatClampNeg)) k = true ↔ bL (f39 (40 * x38.toNatClampNeg + x27.toNatClampNeg)) k = true ∨ (k < 36 ∧ Bad G x38.toNatClampNeg x27.toNatClampNeg k))) ∧ u43 = u40 + nI (cN (Bad G x38.toNatClampNeg x27.toNatClampNeg) 36))) → (I41 (x38 + 1) f42 u43 ∧ mI41 (x38 + 1) f42 u43 < mI41 x38 f39 u40))))))))))))))) ∧ (¬ x11 ≤ 30 → post 0 mki msz mle mel mme f8 mic mil mio mab mae msa mlc mli mna f9 f10 (fillN 0 960 f12) f5 f6 (fillL 0 960 (fillL 0 960 mwr)) msh 3 mnv mns 0 u7)))))))))) ∧ ((bI t4) = 0 → post 0 mki msz mle mel mme mal mic mil mio mab mae msa mlc mli mna mva mma (fillN 0 960 mch) f5 f6 (fillL 0 960 mwr) msh 2 mnv mns 0 u7))))) ∧ (¬ x3 = 0 → post 0 mki msz mle mel mme mal mic mil mio mab mae msa mlc mli mna mva mma mch mre mlv mwr msh x3 mnv mns mfa mmo))))
set_option maxHeartbeats 4000000 in
set_option maxRecDepth 100000 in
theorem g_Mo_judgeF {p : Program} {l : Launch} {e : Env} {R : Room} {s : State} {m : MethodId} {args : Array Value} {below : List Frame} {meth : Method} {c : Code} {H : Heap} {locs : List Loc} {cells slots : Nat} {Q : State → Prop} {ls : Array Slot} {A : Nat → Prop} (S : CallFix p m c b_Mo_judge 5 s args W0 R_Mo) (hRf : 8 ≤ R.frames) (hRl : 191 ≤ R.locals) (hRc : cells ≤ R.cells ∧ slots ≤ R.slots) (D : va_G) (b : Nat → Nat) (cI cJ cZ : ClassId) (mki : Nat → Int32) (msz : Nat → Int64) (mle : Nat → Int32) (mel : Nat → Int32) (mme : Nat → Int32) (mal : Nat → Int32) (mic : Nat → Int32) (mil : Nat → Int32) (mio : Nat → Int32) (mab : Nat → Int32) (mae : Nat → Int32) (msa : Nat → Int32) (mlc : Nat → Int32) (mli : Nat → Int32) (mna : Nat → Int32) (mva : Nat → Int32) (mma : Nat → Int32) (mch : Nat → Int32) (mre : Nat → Int32) (mlv : Nat → Int32) (mwr : Nat → Int64) (msh : Nat → Int32) (mth : Int32) (mnv : Int32) (mns : Int32) (mfa : Int32) (mmo : Int32) (x : Int32) (y : Int32) (hK : va_K D vwCl (tyA cI cJ cZ) s) (hP : va_P D vwCl (wM b cI cJ cZ mki msz mle mel mme mal mic mil mio mab mae msa mlc mli mna mva mma mch mre mlv mwr msh mth mnv mns mfa mmo) H) (hD : va_D A (wM b cI cJ cZ mki msz mle mel mme mal mic mil mio mab mae msa mlc mli mna mva mma mch mre mlv mwr msh mth mnv mns mfa mmo)) (hA : ∀ q, s.heap.size ≤ q → A q) (hS : va_S A s.heap H locs) (hl : lv_has ls 5 [(0, .ref (b 0)), (1, .int x), (2, .int y)]) {post : Int32 → (Nat → Int32) → (Nat → Int64) → (Nat → Int32) → (Nat → Int32) → (Nat → Int32) → (Nat → Int32) → (Nat → Int32) → (Nat → Int32) → (Nat → Int32) → (Nat → Int32) → (Nat → Int32) → (Nat → Int32) → (Nat → Int32) → (Nat → Int32) → (Nat → Int32) → (Nat → Int32) → (Nat → Int32) → (Nat → Int32) → (Nat → Int32) → (Nat → Int32) → (Nat → Int64) → (Nat → Int32) → Int32 → Int32 → Int32 → Int32 → Int32 → Prop} (vc : V_Mo_judgeF mki msz mle mel mme mal mic mil mio mab mae msa mlc mli mna mva mma mch mre mlv mwr msh mth mnv mns mfa mmo x y post)
    (hret : ∀ (v : Int32) (mki : Nat → Int32) (msz : Nat → Int64) (mle : Nat → Int32) (mel : Nat → Int32) (mme : Nat → Int32) (mal : Nat → Int32) (mic : Nat → Int32) (mil : Nat → Int32) (mio : Nat → Int32) (mab : Nat → Int32) (mae : Nat → Int32) (msa : Nat → Int32) (mlc : Nat → Int32) (mli : Nat → Int32) (mna : Nat → Int32) (mva : Nat → Int32) (mma : Nat → Int32) (mch : Nat → Int32) (mre : Nat → Int32) (mlv : Nat → Int32) (mwr : Nat → Int64) (msh : Nat → Int32) (mth : Int32) (mnv : Int32) (mns : Int32) (mfa : Int32) (mmo : Int32) (ls : Array Slot) (pc : Nat) (H : Heap) (locs : List Loc), decode b_Mo_judge pc = .ok (.ireturn, 1) → post v mki msz mle mel mme mal mic mil mio mab mae msa mlc mli mna mva mma mch mre mlv mwr msh mth mnv mns mfa mmo → va_P D vwCl (wM b cI cJ cZ mki msz mle mel mme mal mic mil mio mab mae msa mlc mli mna mva mma mch mre mlv mwr msh mth mnv mns mfa mmo) H → va_D A (wM b cI cJ cZ mki msz mle mel mme mal mic mil mio mab mae msa mlc mli mna mva mma mch mre mlv mwr msh mth mnv mns mfa mmo) → va_S A s.heap H locs → W p l e R s m args below meth c H locs cells slots Q (F0 m pc ls [.int v])) : W p l e R s m args below meth c H locs cells slots Q (F0 m 0 ls []) := by
  have hx := S.1
  have hb := S.2.1
  have hown := S.2.2.2.1
  have hts := S.2.2.2.2
  unfold V_Mo_judgeF at vc
  refine lv_aload_n hx hb d_Mo_judge_0 rfl (lv_at hl 0 rfl) ?_
  refine lv_aload_n hx hb d_Mo_judge_1 rfl (lv_at hl 0 rfl) ?_
  refine lv_iload_n hx hb d_Mo_judge_2 rfl (lv_at hl 1 rfl) ?_
  refine pc_V (As := [.int x]) (rest := [.ref (b 0)]) S (c_Mo_noSchema l D b cI cJ cZ mki msz mle mel mme mal mic mil mio mab mae msa mlc mli mna mva mma mch mre mlv mwr msh mth mnv mns mfa mmo x) wB_blind k_Mo_noSchema i_Mo_noSchema e_Mo_noSchema o_Mo ml_Mo_131 hd_Mo_noSchema (Nat.le_trans (by decide) hRf) (Nat.le_trans (by decide) hRl) hRc (va_recv hK hP (q0 := 0) (ci := 6) rfl rfl) (wB_at hP hK) hl.1 rfl (Nat.le_of_ble_eq_true rfl) d_Mo_judge_3 ?_
  obtain ⟨J1, vc, vc2⟩ := vc
  have jJ1 : ∀ (x3 : Int32) (ls : Array Slot) (H : Heap) (locs : List Loc), J1 x3 → lv_has ls 5 [(0, .ref (b 0)), (1, .int x), (2, .int y)] → va_P D vwCl (wM b cI cJ cZ mki msz mle mel mme mal mic mil mio mab mae msa mlc mli mna mva mma mch mre mlv mwr msh mth mnv mns mfa mmo) H → va_D A (wM b cI cJ cZ mki msz mle mel mme mal mic mil mio mab mae msa mlc mli mna mva mma mch mre mlv mwr msh mth mnv mns mfa mmo) → va_S A s.heap H locs → W p l e R s m args below meth c H locs cells slots Q (F0 m 22 ls [.int x3, .ref (b 0)]) := by
    intro x3 ls H locs vc hl hP hD hS
    have vc := vc2 x3 vc
    refine va_put (D := D) (ci := 6) (v := .int x3) (ty := .int) (C := R_Mo) (T := F_Mo) (N := 27) hx hb hts in_Mo t_Mo t_Mo_ok n_Mo hown hK hP hD hS 0 rfl rfl 0 (by decide) (hts _ fl_Mo_78) (fun _ h => h) rfl (by decide +kernel) rfl rfl (Nat.le_of_ble_eq_true rfl) d_Mo_judge_22 (fun H locs hP hD hS => ?_)
    have hP : va_P D vwCl (wM b cI cJ cZ mki msz mle mel mme mal mic mil mio mab mae msa mlc mli mna mva mma mch mre mlv mwr msh x3 mnv mns mfa mmo) H := hP
    have hD : va_D A (wM b cI cJ cZ mki msz mle mel mme mal mic mil mio mab mae msa mlc mli mna mva mma mch mre mlv mwr msh x3 mnv mns mfa mmo) := hD
    refine lv_aload_n hx hb d_Mo_judge_25 rfl (lv_at hl 0 rfl) ?_
    refine va_get (D := D) (ci := 6) (v := .int x3) (C := R_Mo) (T := F_Mo) (N := 27) hx hb hts in_Mo hown hK hP 0 rfl rfl 0 (by decide) (hts _ fl_Mo_78) (fun _ h => h) rfl d_Mo_judge_26 ?_
    refine lv_if_eq (tgt := 34) hx hb d_Mo_judge_29 (by decide) (fun h => ?_) (fun h => ?_)
    · have vc := vc.1 h
      refine lv_aload_n hx hb d_Mo_judge_34 rfl (lv_at hl 0 rfl) ?_
      refine wc_V (As := []) (rest := []) (wr := ([] : va_W)) S (c_Mo_forget l D b cI cJ cZ mki msz mle mel mme mal mic mil mio mab mae msa mlc mli mna mva mma mch mre mlv mwr msh x3 mnv mns mfa mmo) k_Mo_forget i_Mo_forget e_Mo_forget o_Mo ml_Mo_254 hd_Mo_forget (Nat.le_trans (by decide) hRf) (Nat.le_trans (by decide) hRl) hRc (va_recv hK hP (q0 := 0) (ci := 6) rfl rfl) hK hP hD hS hA [0, 1, 2, 3, 4, 5, 6, 7, 8, 9, 10, 11, 12, 13, 14, 15, 16, 17, 18, 19, 20, 21, 22] [] rfl rfl rfl (by decide) (by decide) (by decide) hl.1 rfl (Nat.le_of_ble_eq_true rfl) d_Mo_judge_35 (fun _ H locs _ hP hD hS => ?_)
      have hP : va_P D vwCl (wM b cI cJ cZ mki msz mle mel mme mal mic mil mio mab mae msa mlc mli mna mva mma (fillN 0 960 mch) mre mlv (fillL 0 960 mwr) msh x3 mnv mns 0 mmo) H := hP
      have hD : va_D A (wM b cI cJ cZ mki msz mle mel mme mal mic mil mio mab mae msa mlc mli mna mva mma (fillN 0 960 mch) mre mlv (fillL 0 960 mwr) msh x3 mnv mns 0 mmo) := hD
      refine lv_aload_n hx hb d_Mo_judge_38 rfl (lv_at hl 0 rfl) ?_
      refine lv_iload_n hx hb d_Mo_judge_39 rfl (lv_at hl 1 rfl) ?_
      obtain ⟨hpre, vc⟩ := vc
      refine wc_V (As := [.int x]) (rest := []) (wr := ([] : va_W)) S (c_Mo_order l D b cI cJ cZ mki msz mle mel mme mal mic mil mio mab mae msa mlc mli mna mva mma (fillN 0 960 mch) mre mlv (fillL 0 960 mwr) msh x3 mnv mns 0 mmo x hpre) k_Mo_order i_Mo_order e_Mo_order o_Mo ml_Mo_257 hd_Mo_order (Nat.le_trans (by decide) hRf) (Nat.le_trans (by decide) hRl) hRc (va_recv hK hP (q0 := 0) (ci := 6) rfl rfl) hK hP hD hS hA [0, 1, 2, 3, 4, 5, 6, 7, 8, 9, 10, 11, 12, 13, 14, 15, 16, 17, 18, 19, 20, 21, 22] [] rfl rfl rfl (by decide) (by decide) (by decide) hl.1 rfl (Nat.le_of_ble_eq_true rfl) d_Mo_judge_40 (fun u H locs hu hP hD hS => ?_)
      obtain ⟨t4, f5, f6, u7⟩ := u
      have vc := vc t4 f5 f6 u7 hu
      clear hu
      have hP : va_P D vwCl (wM b cI cJ cZ mki msz mle mel mme mal mic mil mio mab mae msa mlc mli mna mva mma (fillN 0 960 mch) f5 f6 (fillL 0 960 mwr) msh x3 mnv mns 0 u7) H := hP
      have hD : va_D A (wM b cI cJ cZ mki msz mle mel mme mal mic mil mio mab mae msa mlc mli mna mva mma (fillN 0 960 mch) f5 f6 (fillL 0 960 mwr) msh x3 mnv mns 0 u7) := hD
      refine lv_if_ne (tgt := 53) hx hb d_Mo_judge_43 (by decide) (fun h => ?_) (fun h => ?_)
      · have vc := vc.1 h
        refine lv_aload_n hx hb d_Mo_judge_53 rfl (lv_at hl 0 rfl) ?_
        obtain ⟨hpre, vc⟩ := vc
        refine wc_V (As := []) (rest := []) (wr := ([] : va_W)) S (c_Mo_compareAll l D b cI cJ cZ mki msz mle mel mme mal mic mil mio mab mae msa mlc mli mna mva mma (fillN 0 960 mch) f5 f6 (fillL 0 960 mwr) msh x3 mnv mns 0 u7 hpre) k_Mo_compareAll i_Mo_compareAll e_Mo_compareAll o_Mo ml_Mo_114 hd_Mo_compareAll (Nat.le_trans (by decide) hRf) (Nat.le_trans (by decide) hRl) hRc (va_recv hK hP (q0 := 0) (ci := 6) rfl rfl) hK hP hD hS hA [0, 1, 2, 3, 4, 5, 6, 7, 8, 9, 10, 11, 12, 13, 14, 15, 16, 17, 18, 19, 20, 21, 22] [] rfl rfl rfl (by decide) (by decide) (by decide) hl.1 rfl (Nat.le_of_ble_eq_true rfl) d_Mo_judge_54 (fun f8 H locs hu hP hD hS => ?_)
        have vc := vc f8 hu
        clear hu
        have hP : va_P D vwCl (wM b cI cJ cZ mki msz mle mel mme f8 mic mil mio mab mae msa mlc mli mna mva mma (fillN 0 960 mch) f5 f6 (fillL 0 960 mwr) msh x3 mnv mns 0 u7) H := hP
        have hD : va_D A (wM b cI cJ cZ mki msz mle mel mme f8 mic mil mio mab mae msa mlc mli mna mva mma (fillN 0 960 mch) f5 f6 (fillL 0 960 mwr) msh x3 mnv mns 0 u7) := hD
        refine lv_aload_n hx hb d_Mo_judge_57 rfl (lv_at hl 0 rfl) ?_
        refine lv_iload_n hx hb d_Mo_judge_58 rfl (lv_at hl 2 rfl) ?_
        obtain ⟨hpre, vc⟩ := vc
        refine wc_V (As := [.int y]) (rest := []) (wr := ([] : va_W)) S (c_Mo_decideAll l D b cI cJ cZ mki msz mle mel mme f8 mic mil mio mab mae msa mlc mli mna mva mma (fillN 0 960 mch) f5 f6 (fillL 0 960 mwr) msh x3 mnv mns 0 u7 y hpre) k_Mo_decideAll i_Mo_decideAll e_Mo_decideAll o_Mo ml_Mo_260 hd_Mo_decideAll (Nat.le_trans (by decide) hRf) (Nat.le_trans (by decide) hRl) hRc (va_recv hK hP (q0 := 0) (ci := 6) rfl rfl) hK hP hD hS hA [0, 1, 2, 3, 4, 5, 6, 7, 8, 9, 10, 11, 12, 13, 14, 15, 16, 17, 18, 19, 20, 21, 22] [] rfl rfl rfl (by decide) (by decide) (by decide) hl.1 rfl (Nat.le_of_ble_eq_true rfl) d_Mo_judge_59 (fun u H locs hu hP hD hS => ?_)
        obtain ⟨f9, f10⟩ := u
        have vc := vc f9 f10 hu
        clear hu
        have hP : va_P D vwCl (wM b cI cJ cZ mki msz mle mel mme f8 mic mil mio mab mae msa mlc mli mna f9 f10 (fillN 0 960 mch) f5 f6 (fillL 0 960 mwr) msh x3 mnv mns 0 u7) H := hP
        have hD : va_D A (wM b cI cJ cZ mki msz mle mel mme f8 mic mil mio mab mae msa mlc mli mna f9 f10 (fillN 0 960 mch) f5 f6 (fillL 0 960 mwr) msh x3 mnv mns 0 u7) := hD
        refine lv_aload_n hx hb d_Mo_judge_62 rfl (lv_at hl 0 rfl) ?_
        refine va_get (D := D) (ci := 6) (v := .ref (b 18)) (C := R_Mo) (T := F_Mo) (N := 27) hx hb hts in_Mo hown hK hP 0 rfl rfl 20 (by decide) (hts _ fl_Mo_63) (fun _ h => h) rfl d_Mo_judge_63 ?_
        refine lv_bipush (v := 40) hx hb d_Mo_judge_66 (by decide) ?_
        refine lv_iload_n hx hb d_Mo_judge_68 rfl (lv_at hl 1 rfl) ?_
        refine lv_imul hx hb d_Mo_judge_69 ?_
        refine lv_iload_n hx hb d_Mo_judge_70 rfl (lv_at hl 2 rfl) ?_
        refine lv_iadd hx hb d_Mo_judge_71 ?_
        refine lv_iconst (v := 1) hx hb d_Mo_judge_72 (by decide) ?_
        obtain ⟨vcb, vc⟩ := vc
        refine va_iast hx hb hK hP hD hS 18 0 rfl rfl vcb d_Mo_judge_73 (fun H locs hP hD hS => ?_)
        have hP : va_P D vwCl (wM b cI cJ cZ mki msz mle mel mme f8 mic mil mio mab mae msa mlc mli mna f9 f10 (upd (fillN 0 960 mch) ((40 * x) + y : Int32).toNatClampNeg 1) f5 f6 (fillL 0 960 mwr) msh x3 mnv mns 0 u7) H := hP
        have hD : va_D A (wM b cI cJ cZ mki msz mle mel mme f8 mic mil mio mab mae msa mlc mli mna f9 f10 (upd (fillN 0 960 mch) ((40 * x) + y : Int32).toNatClampNeg 1) f5 f6 (fillL 0 960 mwr) msh x3 mnv mns 0 u7) := hD
        refine lv_aload_n hx hb d_Mo_judge_74 rfl (lv_at hl 0 rfl) ?_
        refine lv_iload_n hx hb d_Mo_judge_75 rfl (lv_at hl 2 rfl) ?_
        obtain ⟨hpre, vc⟩ := vc
        refine wc_V (As := [.int y]) (rest := []) (wr := ([] : va_W)) S (c_Mo_askFrom l D b cI cJ cZ mki msz mle mel mme f8 mic mil mio mab mae msa mlc mli mna f9 f10 (upd (fillN 0 960 mch) ((40 * x) + y : Int32).toNatClampNeg 1) f5 f6 (fillL 0 960 mwr) msh x3 mnv mns 0 u7 y hpre) k_Mo_askFrom i_Mo_askFrom e_Mo_askFrom o_Mo ml_Mo_263 hd_Mo_askFrom (Nat.le_trans (by decide) hRf) (Nat.le_trans (by decide) hRl) hRc (va_recv hK hP (q0 := 0) (ci := 6) rfl rfl) hK hP hD hS hA [0, 1, 2, 3, 4, 5, 6, 7, 8, 9, 10, 11, 12, 13, 14, 15, 16, 17, 18, 19, 20, 21, 22] [] rfl rfl rfl (by decide) (by decide) (by decide) hl.1 rfl (Nat.le_of_ble_eq_true rfl) d_Mo_judge_76 (fun u H locs hu hP hD hS => ?_)
        obtain ⟨x11, f12⟩ := u
        have vc := vc x11 f12 hu
        clear hu
        have hP : va_P D vwCl (wM b cI cJ cZ mki msz mle mel mme f8 mic mil mio mab mae msa mlc mli mna f9 f10 f12 f5 f6 (fillL 0 960 mwr) msh x3 mnv mns 0 u7) H := hP
        have hD : va_D A (wM b cI cJ cZ mki msz mle mel mme f8 mic mil mio mab mae msa mlc mli mna f9 f10 f12 f5 f6 (fillL 0 960 mwr) msh x3 mnv mns 0 u7) := hD
        refine lv_bipush (v := 30) hx hb d_Mo_judge_79 (by decide) ?_
        refine lv_icmp_le (tgt := 95) hx hb d_Mo_judge_81 (by decide) (fun h => ?_) (fun h => ?_)
        · have vc := vc.1 h
          refine lv_iconst (v := 0) hx hb d_Mo_judge_95 (by decide) ?_
          refine lv_istore_n hx hb d_Mo_judge_96 rfl hl (by decide) (lv' := [(3, .int 0), (0, .ref (b 0)), (1, .int x), (2, .int y)]) rfl (fun ls hl => ?_)
          obtain ⟨I30, mI30, vc0, vcs⟩ := vc
          have lI30 : ∀ n : Nat, ∀ (x27 : Int32) (f28 : Nat → Int64) (u29 : Int32) (ls : Array Slot) (H : Heap) (locs : List Loc), I30 x27 f28 u29 → mI30 x27 f28 u29 < n → lv_has ls 5 [(0, .ref (b 0)), (1, .int x), (2, .int y), (3, .int x27)] → va_P D vwCl (wM b cI cJ cZ mki msz mle mel mme f8 mic mil mio mab mae msa mlc mli mna f9 f10 f12 f5 f6 f28 msh x3 mnv mns u29 u7) H → va_D A (wM b cI cJ cZ mki msz mle mel mme f8 mic mil mio mab mae msa mlc mli mna f9 f10 f12 f5 f6 f28 msh x3 mnv mns u29 u7) → va_S A s.heap H locs → W p l e R s m args below meth c H locs cells slots Q (F0 m 97 ls []) := by
            intro n
            induction n with
            | zero => intro x27 f28 u29 ls H locs _ h; exact absurd h (Nat.not_lt_zero _)
            | succ n ihI30 =>
              intro x27 f28 u29 ls H locs vc hmI30 hl hP hD hS
              have vc := vcs x27 f28 u29 vc
              refine lv_iload_n hx hb d_Mo_judge_97 rfl (lv_at hl 3 rfl) ?_
              refine lv_iload_n hx hb d_Mo_judge_98 rfl (lv_at hl 2 rfl) ?_
              refine lv_icmp_gt (tgt := 148) hx hb d_Mo_judge_99 (by decide) (fun h => ?_) (fun h => ?_)
              · have vc := vc.1 h
                refine lv_iconst (v := 0) hx hb d_Mo_judge_148 (by decide) ?_
                refine lv_istore_n hx hb d_Mo_judge_149 rfl hl (by decide) (lv' := [(3, .int 0), (0, .ref (b 0)), (1, .int x), (2, .int y)]) rfl (fun ls hl => ?_)
                obtain ⟨I34, mI34, vc0, vcs⟩ := vc
                have lI34 : ∀ n : Nat, ∀ (x32 : Int32) (f33 : Nat → Int32) (ls : Array Slot) (H : Heap) (locs : List Loc), I34 x32 f33 → mI34 x32 f33 < n → lv_has ls 5 [(0, .ref (b 0)), (1, .int x), (2, .int y), (3, .int x32)] → va_P D vwCl (wM b cI cJ cZ mki msz mle mel mme f8 mic mil mio mab mae msa mlc mli mna f9 f10 f12 f5 f6 f28 f33 x3 mnv mns u29 u7) H → va_D A (wM b cI cJ cZ mki msz mle mel mme f8 mic mil mio mab mae msa mlc mli mna f9 f10 f12 f5 f6 f28 f33 x3 mnv mns u29 u7) → va_S A s.heap H locs → W p l e R s m args below meth c H locs cells slots Q (F0 m 150 ls []) := by
                  intro n
                  induction n with
                  | zero => intro x32 f33 ls H locs _ h; exact absurd h (Nat.not_lt_zero _)
                  | succ n ihI34 =>
                    intro x32 f33 ls H locs vc hmI34 hl hP hD hS
                    have vc := vcs x32 f33 vc
                    refine lv_iload_n hx hb d_Mo_judge_150 rfl (lv_at hl 3 rfl) ?_
                    refine lv_sipush (v := 960) hx hb d_Mo_judge_151 (by decide) ?_
                    refine lv_icmp_ge (tgt := 175) hx hb d_Mo_judge_154 (by decide) (fun h => ?_) (fun h => ?_)
                    · have vc := vc.1 h
                      refine lv_aload_n hx hb d_Mo_judge_175 rfl (lv_at hl 0 rfl) ?_
                      refine lv_iload_n hx hb d_Mo_judge_176 rfl (lv_at hl 1 rfl) ?_
                      refine lv_iload_n hx hb d_Mo_judge_177 rfl (lv_at hl 2 rfl) ?_
                      obtain ⟨hpre, vc⟩ := vc
                      refine pc_V (As := [.int x, .int y]) (rest := []) S (c_Mo_isValid l D b cI cJ cZ mki msz mle mel mme f8 mic mil mio mab mae msa mlc mli mna f9 f10 f12 f5 f6 f28 f33 x3 mnv mns u29 u7 x y hpre) wB_blind k_Mo_isValid i_Mo_isValid e_Mo_isValid o_Mo ml_Mo_193 hd_Mo_isValid (Nat.le_trans (by decide) hRf) (Nat.le_trans (by decide) hRl) hRc (va_recv hK hP (q0 := 0) (ci := 6) rfl rfl) (wB_at hP hK) hl.1 rfl (Nat.le_of_ble_eq_true rfl) d_Mo_judge_178 ?_
                      exact hret _ _ _ _ _ _ _ _ _ _ _ _ _ _ _ _ _ _ _ _ _ _ _ _ _ _ _ _ ls _ H locs d_Mo_judge_181 vc hP hD hS
                    · have vc := vc.2 h
                      refine lv_aload_n hx hb d_Mo_judge_157 rfl (lv_at hl 0 rfl) ?_
                      refine va_get (D := D) (ci := 6) (v := .ref (b 22)) (C := R_Mo) (T := F_Mo) (N := 27) hx hb hts in_Mo hown hK hP 0 rfl rfl 25 (by decide) (hts _ fl_Mo_75) (fun _ h => h) rfl d_Mo_judge_158 ?_
                      refine lv_iload_n hx hb d_Mo_judge_161 rfl (lv_at hl 3 rfl) ?_
                      refine lv_aload_n hx hb d_Mo_judge_162 rfl (lv_at hl 0 rfl) ?_
                      refine va_get (D := D) (ci := 6) (v := .ref (b 17)) (C := R_Mo) (T := F_Mo) (N := 27) hx hb hts in_Mo hown hK hP 0 rfl rfl 19 (by decide) (hts _ fl_Mo_60) (fun _ h => h) rfl d_Mo_judge_163 ?_
                      refine lv_iload_n hx hb d_Mo_judge_166 rfl (lv_at hl 3 rfl) ?_
                      obtain ⟨vcb, vc⟩ := vc
                      refine va_iald hx hb hK hP 17 0 rfl rfl vcb d_Mo_judge_167 ?_
                      obtain ⟨vcb, vc⟩ := vc
                      refine va_iast hx hb hK hP hD hS 22 0 rfl rfl vcb d_Mo_judge_168 (fun H locs hP hD hS => ?_)
                      have hP : va_P D vwCl (wM b cI cJ cZ mki msz mle mel mme f8 mic mil mio mab mae msa mlc mli mna f9 f10 f12 f5 f6 f28 (upd f33 x32.toNatClampNeg (f10 x32.toNatClampNeg)) x3 mnv mns u29 u7) H := hP
                      have hD : va_D A (wM b cI cJ cZ mki msz mle mel mme f8 mic mil mio mab mae msa mlc mli mna f9 f10 f12 f5 f6 f28 (upd f33 x32.toNatClampNeg (f10 x32.toNatClampNeg)) x3 mnv mns u29 u7) := hD
                      refine lv_iinc (k := 3) (v := x32 + 1) hx hb d_Mo_judge_169 hl rfl rfl (by decide) (lv' := [(3, .int (x32 + 1)), (0, .ref (b 0)), (1, .int x), (2, .int y)]) rfl (fun ls hl => ?_)
                      refine lv_goto (tgt := 150) hx hb d_Mo_judge_172 (by decide) ?_
                      exact ihI34 (x32 + 1) (upd f33 x32.toNatClampNeg (f10 x32.toNatClampNeg)) ls H locs vc.1 (Nat.lt_of_lt_of_le vc.2 (Nat.le_of_lt_succ hmI34)) (lv_sub hl [1, 2, 3, 0] rfl) hP hD hS
                exact lI34 _ 0 msh ls H locs vc0 (Nat.lt_succ_self _) (lv_sub hl [1, 2, 3, 0] rfl) hP hD hS
              · have vc := vc.2 h
                refine lv_iconst (v := 0) hx hb d_Mo_judge_102 (by decide) ?_
                refine lv_istore hx hb d_Mo_judge_103 hl (by decide) (lv' := [(4, .int 0), (0, .ref (b 0)), (1, .int x), (2, .int y), (3, .int x27)]) rfl (fun ls hl => ?_)
                obtain ⟨I41, mI41, vc0, vcs⟩ := vc
                have lI41 : ∀ n : Nat, ∀ (x38 : Int32) (f39 : Nat → Int64) (u40 : Int32) (ls : Array Slot) (H : Heap) (locs : List Loc), I41 x38 f39 u40 → mI41 x38 f39 u40 < n → lv_has ls 5 [(0, .ref (b 0)), (1, .int x), (2, .int y), (3, .int x27), (4, .int x38)] → va_P D vwCl (wM b cI cJ cZ mki msz mle mel mme f8 mic mil mio mab mae msa mlc mli mna f9 f10 f12 f5 f6 f39 msh x3 mnv mns u40 u7) H → va_D A (wM b cI cJ cZ mki msz mle mel mme f8 mic mil mio mab mae msa mlc mli mna f9 f10 f12 f5 f6 f39 msh x3 mnv mns u40 u7) → va_S A s.heap H locs → W p l e R s m args below meth c H locs cells slots Q (F0 m 105 ls []) := by
                  intro n
                  induction n with
                  | zero => intro x38 f39 u40 ls H locs _ h; exact absurd h (Nat.not_lt_zero _)
                  | succ n ihI41 =>
                    intro x38 f39 u40 ls H locs vc hmI41 hl hP hD hS
                    have vc := vcs x38 f39 u40 vc
                    refine lv_iload hx hb d_Mo_judge_105 (lv_at hl 4 rfl) ?_
                    refine lv_aload_n hx hb d_Mo_judge_107 rfl (lv_at hl 0 rfl) ?_
                    refine va_get (D := D) (ci := 6) (v := .int mns) (C := R_Mo) (T := F_Mo) (N := 27) hx hb hts in_Mo hown hK hP 0 rfl rfl 13 (by decide) (hts _ fl_Mo_128) (fun _ h => h) rfl d_Mo_judge_108 ?_
                    refine lv_icmp_ge (tgt := 142) hx hb d_Mo_judge_111 (by decide) (fun h => ?_) (fun h => ?_)
                    · have vc := vc.1 h
                      refine lv_iinc (k := 3) (v := x27 + 1) hx hb d_Mo_judge_142 hl rfl rfl (by decide) (lv' := [(3, .int (x27 + 1)), (0, .ref (b 0)), (1, .int x), (2, .int y), (4, .int x38)]) rfl (fun ls hl => ?_)
                      refine lv_goto (tgt := 97) hx hb d_Mo_judge_145 (by decide) ?_
                      exact ihI30 (x27 + 1) f39 u40 ls H locs vc.1 (Nat.lt_of_lt_of_le vc.2 (Nat.le_of_lt_succ hmI30)) (lv_sub hl [1, 2, 3, 0] rfl) hP hD hS
                    · have vc := vc.2 h
                      refine lv_aload_n hx hb d_Mo_judge_114 rfl (lv_at hl 0 rfl) ?_
                      refine va_get (D := D) (ci := 6) (v := .ref (b 18)) (C := R_Mo) (T := F_Mo) (N := 27) hx hb hts in_Mo hown hK hP 0 rfl rfl 20 (by decide) (hts _ fl_Mo_63) (fun _ h => h) rfl d_Mo_judge_115 ?_
                      refine lv_bipush (v := 40) hx hb d_Mo_judge_118 (by decide) ?_
                      refine lv_iload hx hb d_Mo_judge_120 (lv_at hl 4 rfl) ?_
                      refine lv_imul hx hb d_Mo_judge_122 ?_
                      refine lv_iload_n hx hb d_Mo_judge_123 rfl (lv_at hl 3 rfl) ?_
                      refine lv_iadd hx hb d_Mo_judge_124 ?_
                      obtain ⟨vcb, vc⟩ := vc
                      refine va_iald hx hb hK hP 18 0 rfl rfl vcb d_Mo_judge_125 ?_
                      refine lv_if_le (tgt := 136) hx hb d_Mo_judge_126 (by decide) (fun h => ?_) (fun h => ?_)
                      · have vc := vc.1 h
                        refine lv_iinc (k := 4) (v := x38 + 1) hx hb d_Mo_judge_136 hl rfl rfl (by decide) (lv' := [(4, .int (x38 + 1)), (0, .ref (b 0)), (1, .int x), (2, .int y), (3, .int x27)]) rfl (fun ls hl => ?_)
                        refine lv_goto (tgt := 105) hx hb d_Mo_judge_139 (by decide) ?_
                        exact ihI41 (x38 + 1) f39 u40 ls H locs vc.1 (Nat.lt_of_lt_of_le vc.2 (Nat.le_of_lt_succ hmI41)) (lv_sub hl [1, 2, 3, 4, 0] rfl) hP hD hS
                      · have vc := vc.2 h
                        refine lv_aload_n hx hb d_Mo_judge_129 rfl (lv_at hl 0 rfl) ?_
                        refine lv_iload hx hb d_Mo_judge_130 (lv_at hl 4 rfl) ?_
                        refine lv_iload_n hx hb d_Mo_judge_132 rfl (lv_at hl 3 rfl) ?_
                        obtain ⟨hpre, vc⟩ := vc
                        refine wc_V (As := [.int x38, .int x27]) (rest := []) (wr := ([] : va_W)) S (c_Mo_noteFaults l D b cI cJ cZ mki msz mle mel mme f8 mic mil mio mab mae msa mlc mli mna f9 f10 f12 f5 f6 f39 msh x3 mnv mns u40 u7 x38 x27 hpre) k_Mo_noteFaults i_Mo_noteFaults e_Mo_noteFaults o_Mo ml_Mo_266 hd_Mo_noteFaults (Nat.le_trans (by decide) hRf) (Nat.le_trans (by decide) hRl) hRc (va_recv hK hP (q0 := 0) (ci := 6) rfl rfl) hK hP hD hS hA [0, 1, 2, 3, 4, 5, 6, 7, 8, 9, 10, 11, 12, 13, 14, 15, 16, 17, 18, 19, 20, 21, 22] [] rfl rfl rfl (by decide) (by decide) (by decide) hl.1 rfl (Nat.le_of_ble_eq_true rfl) d_Mo_judge_133 (fun u H locs hu hP hD hS => ?_)
                        obtain ⟨f42, u43⟩ := u
                        have vc := vc f42 u43 hu
                        clear hu
                        have hP : va_P D vwCl (wM b cI cJ cZ mki msz mle mel mme f8 mic mil mio mab mae msa mlc mli mna f9 f10 f12 f5 f6 f42 msh x3 mnv mns u43 u7) H := hP
                        have hD : va_D A (wM b cI cJ cZ mki msz mle mel mme f8 mic mil mio mab mae msa mlc mli mna f9 f10 f12 f5 f6 f42 msh x3 mnv mns u43 u7) := hD
                        refine lv_iinc (k := 4) (v := x38 + 1) hx hb d_Mo_judge_136 hl rfl rfl (by decide) (lv' := [(4, .int (x38 + 1)), (0, .ref (b 0)), (1, .int x), (2, .int y), (3, .int x27)]) rfl (fun ls hl => ?_)
                        refine lv_goto (tgt := 105) hx hb d_Mo_judge_139 (by decide) ?_
                        exact ihI41 (x38 + 1) f42 u43 ls H locs vc.1 (Nat.lt_of_lt_of_le vc.2 (Nat.le_of_lt_succ hmI41)) (lv_sub hl [1, 2, 3, 4, 0] rfl) hP hD hS
                exact lI41 _ 0 f28 u29 ls H locs vc0 (Nat.lt_succ_self _) (lv_sub hl [1, 2, 3, 4, 0] rfl) hP hD hS
          exact lI30 _ 0 (fillL 0 960 mwr) 0 ls H locs vc0 (Nat.lt_succ_self _) (lv_sub hl [1, 2, 3, 0] rfl) hP hD hS
        · have vc := vc.2 h
          refine lv_aload_n hx hb d_Mo_judge_84 rfl (lv_at hl 0 rfl) ?_
          refine wc_V (As := []) (rest := []) (wr := ([] : va_W)) S (c_Mo_forget l D b cI cJ cZ mki msz mle mel mme f8 mic mil mio mab mae msa mlc mli mna f9 f10 f12 f5 f6 (fillL 0 960 mwr) msh x3 mnv mns 0 u7) k_Mo_forget i_Mo_forget e_Mo_forget o_Mo ml_Mo_254 hd_Mo_forget (Nat.le_trans (by decide) hRf) (Nat.le_trans (by decide) hRl) hRc (va_recv hK hP (q0 := 0) (ci := 6) rfl rfl) hK hP hD hS hA [0, 1, 2, 3, 4, 5, 6, 7, 8, 9, 10, 11, 12, 13, 14, 15, 16, 17, 18, 19, 20, 21, 22] [] rfl rfl rfl (by decide) (by decide) (by decide) hl.1 rfl (Nat.le_of_ble_eq_true rfl) d_Mo_judge_85 (fun _ H locs _ hP hD hS => ?_)
          have hP : va_P D vwCl (wM b cI cJ cZ mki msz mle mel mme f8 mic mil mio mab mae msa mlc mli mna f9 f10 (fillN 0 960 f12) f5 f6 (fillL 0 960 (fillL 0 960 mwr)) msh x3 mnv mns 0 u7) H := hP
          have hD : va_D A (wM b cI cJ cZ mki msz mle mel mme f8 mic mil mio mab mae msa mlc mli mna f9 f10 (fillN 0 960 f12) f5 f6 (fillL 0 960 (fillL 0 960 mwr)) msh x3 mnv mns 0 u7) := hD
          refine lv_aload_n hx hb d_Mo_judge_88 rfl (lv_at hl 0 rfl) ?_
          refine lv_iconst (v := 3) hx hb d_Mo_judge_89 (by decide) ?_
          refine va_put (D := D) (ci := 6) (v := .int 3) (ty := .int) (C := R_Mo) (T := F_Mo) (N := 27) hx hb hts in_Mo t_Mo t_Mo_ok n_Mo hown hK hP hD hS 0 rfl rfl 0 (by decide) (hts _ fl_Mo_78) (fun _ h => h) rfl (by decide +kernel) rfl rfl (Nat.le_of_ble_eq_true rfl) d_Mo_judge_90 (fun H locs hP hD hS => ?_)
          have hP : va_P D vwCl (wM b cI cJ cZ mki msz mle mel mme f8 mic mil mio mab mae msa mlc mli mna f9 f10 (fillN 0 960 f12) f5 f6 (fillL 0 960 (fillL 0 960 mwr)) msh 3 mnv mns 0 u7) H := hP
          have hD : va_D A (wM b cI cJ cZ mki msz mle mel mme f8 mic mil mio mab mae msa mlc mli mna f9 f10 (fillN 0 960 f12) f5 f6 (fillL 0 960 (fillL 0 960 mwr)) msh 3 mnv mns 0 u7) := hD
          refine lv_iconst (v := 0) hx hb d_Mo_judge_93 (by decide) ?_
          exact hret _ _ _ _ _ _ _ _ _ _ _ _ _ _ _ _ _ _ _ _ _ _ _ _ _ _ _ _ ls _ H locs d_Mo_judge_94 vc hP hD hS
      · have vc := vc.2 h
        refine lv_aload_n hx hb d_Mo_judge_46 rfl (lv_at hl 0 rfl) ?_
        refine lv_iconst (v := 2) hx hb d_Mo_judge_47 (by decide) ?_
        refine va_put (D := D) (ci := 6) (v := .int 2) (ty := .int) (C := R_Mo) (T := F_Mo) (N := 27) hx hb hts in_Mo t_Mo t_Mo_ok n_Mo hown hK hP hD hS 0 rfl rfl 0 (by decide) (hts _ fl_Mo_78) (fun _ h => h) rfl (by decide +kernel) rfl rfl (Nat.le_of_ble_eq_true rfl) d_Mo_judge_48 (fun H locs hP hD hS => ?_)
        have hP : va_P D vwCl (wM b cI cJ cZ mki msz mle mel mme mal mic mil mio mab mae msa mlc mli mna mva mma (fillN 0 960 mch) f5 f6 (fillL 0 960 mwr) msh 2 mnv mns 0 u7) H := hP
        have hD : va_D A (wM b cI cJ cZ mki msz mle mel mme mal mic mil mio mab mae msa mlc mli mna mva mma (fillN 0 960 mch) f5 f6 (fillL 0 960 mwr) msh 2 mnv mns 0 u7) := hD
        refine lv_iconst (v := 0) hx hb d_Mo_judge_51 (by decide) ?_
        exact hret _ _ _ _ _ _ _ _ _ _ _ _ _ _ _ _ _ _ _ _ _ _ _ _ _ _ _ _ ls _ H locs d_Mo_judge_52 vc hP hD hS
    · have vc := vc.2 h
      refine lv_iconst (v := 0) hx hb d_Mo_judge_32 (by decide) ?_
      exact hret _ _ _ _ _ _ _ _ _ _ _ _ _ _ _ _ _ _ _ _ _ _ _ _ _ _ _ _ ls _ H locs d_Mo_judge_33 vc hP hD hS
  clear vc2
  refine lv_if_ne (tgt := 17) hx hb d_Mo_judge_6 (by decide) (fun h => ?_) (fun h => ?_)
  · have vc := vc.1 h
    refine lv_iconst (v := 1) hx hb d_Mo_judge_17 (by decide) ?_
    refine lv_goto (tgt := 22) hx hb d_Mo_judge_18 (by decide) ?_
    exact jJ1 1 ls H locs vc (lv_sub hl [0, 1, 2] rfl) hP hD hS
  · have vc := vc.2 h
    refine lv_aload_n hx hb d_Mo_judge_9 rfl (lv_at hl 0 rfl) ?_
    refine lv_iload_n hx hb d_Mo_judge_10 rfl (lv_at hl 2 rfl) ?_
    refine pc_V (As := [.int y]) (rest := [.ref (b 0)]) S (c_Mo_noValue l D b cI cJ cZ mki msz mle mel mme mal mic mil mio mab mae msa mlc mli mna mva mma mch mre mlv mwr msh mth mnv mns mfa mmo y) wB_blind k_Mo_noValue i_Mo_noValue e_Mo_noValue o_Mo ml_Mo_101 hd_Mo_noValue (Nat.le_trans (by decide) hRf) (Nat.le_trans (by decide) hRl) hRc (va_recv hK hP (q0 := 0) (ci := 6) rfl rfl) (wB_at hP hK) hl.1 rfl (Nat.le_of_ble_eq_true rfl) d_Mo_judge_11 ?_
    refine lv_if_eq (tgt := 21) hx hb d_Mo_judge_14 (by decide) (fun h => ?_) (fun h => ?_)
    · have vc := vc.1 h
      refine lv_iconst (v := 0) hx hb d_Mo_judge_21 (by decide) ?_
      exact jJ1 0 ls H locs vc (lv_sub hl [0, 1, 2] rfl) hP hD hS
    · have vc := vc.2 h
      refine lv_iconst (v := 1) hx hb d_Mo_judge_17 (by decide) ?_
      refine lv_goto (tgt := 22) hx hb d_Mo_judge_18 (by decide) ?_
      exact jJ1 1 ls H locs vc (lv_sub hl [0, 1, 2] rfl) hP hD hS
set_option maxHeartbeats 4000000 in
theorem v_Mo_judgeF (mki : Nat → Int32) (msz : Nat → Int64) (mle : Nat → Int32) (mel : Nat → Int32) (mme : Nat → Int32) (mal : Nat → Int32) (mic : Nat → Int32) (mil : Nat → Int32) (mio : Nat → Int32) (mab : Nat → Int32) (mae : Nat → Int32) (msa : Nat → Int32) (mlc : Nat → Int32) (mli : Nat → Int32) (mna : Nat → Int32) (mva : Nat → Int32) (mma : Nat → Int32) (mch : Nat → Int32) (mre : Nat → Int32) (mlv : Nat → Int32) (mwr : Nat → Int64) (msh : Nat → Int32) (mth : Int32) (mnv : Int32) (mns : Int32) (mfa : Int32) (mmo : Int32) (x : Int32) (y : Int32) (hpre : (∃ n0 m0 : Nat, mnv = nI n0 ∧ mns = nI m0 ∧ MSOK mki msz mle mel mme mic mio msa mlc mli mna mva n0 m0)) : V_Mo_judgeF mki msz mle mel mme mal mic mil mio mab mae msa mlc mli mna mva mma mch mre mlv mwr msh mth mnv mns mfa mmo x y (fun v mki' msz' mle' mel' mme' mal' mic' mil' mio' mab' mae' msa' mlc' mli' mna' mva' mma' mch' mre' mlv' mwr' msh' mth' mnv' mns' mfa' mmo' => ∃ rr : Bool, v = bI rr ∧ (((¬ (sHas mns x = true ∧ sHas mnv y = true) → mth' = 1 ∧ mch' = mch ∧ mwr' = mwr ∧ msh' = msh ∧ mfa' = mfa ∧ mva' = mva) ∧ (sHas mns x = true ∧ sHas mnv y = true → Cir msa mlc mli mna mns.toNatClampNeg x.toNatClampNeg → mth' = 2 ∧ Zm mch' mwr' mfa' ∧ mva' = mva) ∧ (sHas mns x = true ∧ sHas mnv y = true → ¬ Cir msa mlc mli mna mns.toNatClampNeg x.toNatClampNeg → (∀ j, j < 960 → mva' j = 0 ∨ mva' j = 1) ∧ AlOK mki msz mle mel mme mal' mnv.toNatClampNeg ∧ ∃ lv, Ctx (gM mki msz mle mel mme mal' mic mil mio mab mae msa mlc mli mna mva' mma' mnv.toNatClampNeg) (RD (gM mki msz mle mel mme mal' mic mil mio mab mae msa mlc mli mna mva' mma' mnv.toNatClampNeg) x.toNatClampNeg y.toNatClampNeg) lv ∧ ((Path (gM mki msz mle mel mme mal' mic mil mio mab mae msa mlc mli mna mva' mma' mnv.toNatClampNeg) 31 x.toNatClampNeg y.toNatClampNeg ∧ mth' = 3 ∧ Zm mch' mwr' mfa') ∨ (mth' = 0 ∧ MJd (gM mki msz mle mel mme mal' mic mil mio mab mae msa mlc mli mna mva' mma' mnv.toNatClampNeg) x.toNatClampNeg y.toNatClampNeg rr mch' msh' mwr' mfa'))))) ∧ mki' = mki ∧ msz' = msz ∧ mle' = mle ∧ mel' = mel ∧ mme' = mme ∧ mic' = mic ∧ mil' = mil ∧ mio' = mio ∧ mab' = mab ∧ mae' = mae ∧ msa' = msa ∧ mlc' = mlc ∧ mli' = mli ∧ mna' = mna ∧ mnv' = mnv ∧ mns' = mns) := by
  have main : ∀ post : Int32 → (Nat → Int32) → (Nat → Int64) → (Nat → Int32) → (Nat → Int32) → (Nat → Int32) → (Nat → Int32) → (Nat → Int32) → (Nat → Int32) → (Nat → Int32) → (Nat → Int32) → (Nat → Int32) → (Nat → Int32) → (Nat → Int32) → (Nat → Int32) → (Nat → Int32) → (Nat → Int32) → (Nat → Int32) → (Nat → Int32) → (Nat → Int32) → (Nat → Int32) → (Nat → Int64) → (Nat → Int32) → Int32 → Int32 → Int32 → Int32 → Int32 → Prop, (∀ v mki' msz' mle' mel' mme' mal' mic' mil' mio' mab' mae' msa' mlc' mli' mna' mva' mma' mch' mre' mlv' mwr' msh' mth' mnv' mns' mfa' mmo', (fun v mki' msz' mle' mel' mme' mal' mic' mil' mio' mab' mae' msa' mlc' mli' mna' mva' mma' mch' mre' mlv' mwr' msh' mth' mnv' mns' mfa' mmo' => ∃ rr : Bool, v = bI rr ∧ (((¬ (sHas mns x = true ∧ sHas mnv y = true) → mth' = 1 ∧ mch' = mch ∧ mwr' = mwr ∧ msh' = msh ∧ mfa' = mfa ∧ mva' = mva) ∧ (sHas mns x = true ∧ sHas mnv y = true → Cir msa mlc mli mna mns.toNatClampNeg x.toNatClampNeg → mth' = 2 ∧ Zm mch' mwr' mfa' ∧ mva' = mva) ∧ (sHas mns x = true ∧ sHas mnv y = true → ¬ Cir msa mlc mli mna mns.toNatClampNeg x.toNatClampNeg → (∀ j, j < 960 → mva' j = 0 ∨ mva' j = 1) ∧ AlOK mki msz mle mel mme mal' mnv.toNatClampNeg ∧ ∃ lv, Ctx (gM mki msz mle mel mme mal' mic mil mio mab mae msa mlc mli mna mva' mma' mnv.toNatClampNeg) (RD (gM mki msz mle mel mme mal' mic mil mio mab mae msa mlc mli mna mva' mma' mnv.toNatClampNeg) x.toNatClampNeg y.toNatClampNeg) lv ∧ ((Path (gM mki msz mle mel mme mal' mic mil mio mab mae msa mlc mli mna mva' mma' mnv.toNatClampNeg) 31 x.toNatClampNeg y.toNatClampNeg ∧ mth' = 3 ∧ Zm mch' mwr' mfa') ∨ (mth' = 0 ∧ MJd (gM mki msz mle mel mme mal' mic mil mio mab mae msa mlc mli mna mva' mma' mnv.toNatClampNeg) x.toNatClampNeg y.toNatClampNeg rr mch' msh' mwr' mfa'))))) ∧ mki' = mki ∧ msz' = msz ∧ mle' = mle ∧ mel' = mel ∧ mme' = mme ∧ mic' = mic ∧ mil' = mil ∧ mio' = mio ∧ mab' = mab ∧ mae' = mae ∧ msa' = msa ∧ mlc' = mlc ∧ mli' = mli ∧ mna' = mna ∧ mnv' = mnv ∧ mns' = mns) v mki' msz' mle' mel' mme' mal' mic' mil' mio' mab' mae' msa' mlc' mli' mna' mva' mma' mch' mre' mlv' mwr' msh' mth' mnv' mns' mfa' mmo' → post v mki' msz' mle' mel' mme' mal' mic' mil' mio' mab' mae' msa' mlc' mli' mna' mva' mma' mch' mre' mlv' mwr' msh' mth' mnv' mns' mfa' mmo') → V_Mo_judgeF mki msz mle mel mme mal mic mil mio mab mae msa mlc mli mna mva mma mch mre mlv mwr msh mth mnv mns mfa mmo x y post := by
    intro post hpost
    unfold V_Mo_judgeF
    obtain ⟨n0, m0, hnv, hns, hS⟩ := hpre
    have hm24 := hS.2.2.1
    have hn40 := hS.1.1
    refine ⟨fun z => (z = 0 ∧ sHas mns x = true ∧ sHas mnv y = true) ∨ (z = 1 ∧ ¬ (sHas mns x = true ∧ sHas mnv y = true)), ⟨fun h => Or.inr ⟨rfl, fun q => h (bIn0.mpr q.1)⟩, fun h => ⟨fun h2 => Or.inl ⟨rfl, bIn0.mp h, bIn0.mp h2⟩, fun h2 => Or.inr ⟨rfl, fun q => h2 (bIn0.mpr q.2)⟩⟩⟩, ?_⟩
    rintro x3 (⟨rfl, hx, hy⟩ | ⟨rfl, hn⟩)
    rotate_left
    · exact ⟨fun h => absurd h (by decide), fun _ => (hpost _ _ _ _ _ _ _ _ _ _ _ _ _ _ _ _ _ _ _ _ _ _ _ _ _ _ _ _ ⟨false, rfl, ⟨fun _ => ⟨rfl, rfl, rfl, rfl, rfl, rfl⟩, fun h => absurd h hn, fun h => absurd h hn⟩, rfl, rfl, rfl, rfl, rfl, rfl, rfl, rfl, rfl, rfl, rfl, rfl, rfl, rfl, rfl, rfl⟩)⟩
    refine ⟨fun _ => ?_, fun h => absurd rfl h⟩
    obtain ⟨s0, hs, rfl⟩ := sHas_nI (by omega) (show sHas (nI m0) x = true by rw [← hns]; exact hx)
    obtain ⟨v0, hv, rfl⟩ := sHas_nI (by omega) (show sHas (nI n0) y = true by rw [← hnv]; exact hy)
    have cs : (nI s0).toNatClampNeg = s0 := nI_clamp (by omega)
    have cv : (nI v0).toNatClampNeg = v0 := nI_clamp (by omega)
    have cn : mnv.toNatClampNeg = n0 := by rw [hnv]; exact nI_clamp (by omega)
    have cm : mns.toNatClampNeg = m0 := by rw [hns]; exact nI_clamp (by omega)
    simp only [cs, cv, cn, cm] at hpost ⊢
    refine ⟨⟨m0, hm24, hns, vp_in_nI hs (by omega), hS.2.2.2.2.1, hS.2.2.2.1⟩, fun t4 f5 f6 u7 ho => ?_⟩
    obtain ⟨ho1, ho2, ho3⟩ := ho m0 hns hm24
    refine ⟨fun ht => ?_, fun ht => ?_⟩
    rotate_left
    · exact (hpost _ _ _ _ _ _ _ _ _ _ _ _ _ _ _ _ _ _ _ _ _ _ _ _ _ _ _ _ ⟨false, rfl, ⟨fun h => absurd ⟨hx, hy⟩ h, fun _ _ => ⟨rfl, ⟨fun q hq => ⟨if_pos hq, if_pos hq⟩, rfl⟩, rfl⟩, fun _ hc => absurd (ho3 (bI0.mp ht)) hc⟩, rfl, rfl, rfl, rfl, rfl, rfl, rfl, rfl, rfl, rfl, rfl, rfl, rfl, rfl, rfl, rfl⟩)
    obtain ⟨hO, hnc⟩ := order_ok hm24 hS.2.2.2.2.1 hs ho1 (ho2 (bI_ne.mp ht))
    have hr0 : ¬ f5 s0 = 0 := (ho1 s0 (by omega)).mpr (Or.inl rfl)
    obtain ⟨me1, me2, me3⟩ := hS.1.me
    refine ⟨⟨n0, hn40, hnv, me1, me2, hS.1.2.1, me3⟩, fun f8 h8 => ?_⟩
    have hal := h8 n0 hnv hn40
    refine ⟨⟨n0, m0, s0, v0, hnv, hns, hS, ⟨hv, rfl⟩, hO⟩, fun f9 f10 h9 => ?_⟩
    obtain ⟨hva, h9⟩ := h9
    have hfx := h9 n0 hnv hn40
    have hS2 : MSOK mki msz mle mel mme mic mio msa mlc mli mna f9 n0 m0 := ⟨hS.1, hS.2.1, hS.2.2.1, hS.2.2.2.1, hS.2.2.2.2.1, hS.2.2.2.2.2.1, hS.2.2.2.2.2.2.1, hS.2.2.2.2.2.2.2.1, hva⟩
    have v9 : vp_in (40 * nI s0 + nI v0) 960 := by rw [jx40]; exact vp_in_nI (by omega) (by decide)
    have c4 : (40 * nI s0 + nI v0 : Int32).toNatClampNeg = 40 * s0 + v0 := by rw [jx40, nI_clamp (by omega)]
    simp only [c4]
    refine ⟨v9, ⟨n0, m0, s0, v0, hnv, hns, hS2, ⟨hv, rfl⟩, hO, by omega, hr0, fun q hq => ?_⟩, fun x11 f12 h12 => ?_⟩
    · by_cases e : q = 40 * s0 + v0
      · rw [if_pos e, e, upd_at]
      · rw [if_neg e, upd_ne e]; exact if_pos hq
    obtain ⟨L, rfl, hL30, h12⟩ := h12
    have hAF := h12 s0 (by omega) (by rw [upd_at]; decide)
    have hCt := Ctx_of hS2 hO (s0 := s0) (v0 := v0) (mal := f8) (mil := mil) (mab := mab) (mae := mae) (mma := f10) (by omega) (by omega) hr0 (fun s w h1 h2 h3 => (hfx s w h1 h2 h3).1)
    have hFa : ∀ n x w, Dist (gM mki msz mle mel mme f8 mic mil mio mab mae msa mlc mli mna f9 f10 n0) s0 v0 n x w → ¬ f5 x = 0 ∧ x < 24 ∧ w ≤ v0 ∧ n + mu (lvl f6) x w ≤ 1 + mu (lvl f6) s0 v0 := fun n x w hd => Dist.fact hS2 hO (by omega) (by omega) hr0 hd
    generalize hG : gM mki msz mle mel mme f8 mic mil mio mab mae msa mlc mli mna f9 f10 n0 = G at hAF hCt hFa hfx ⊢
    have hRx : ∀ x w, RD G s0 v0 x w → x < m0 ∧ w ≤ v0 ∧ ¬ f5 x = 0 := fun x w ⟨n, hd⟩ => by
      obtain ⟨a1, a2, a3, _⟩ := hFa n x w hd
      exact ⟨hO.1 x a2 a1, a3, a1⟩
    have hle : nI L ≤ 30 ↔ L ≤ 30 := nI_leR (n := 30) (by decide) (by omega)
    rw [hle]
    refine ⟨fun h30 => ?_, fun h30 => ?_⟩
    rotate_left
    · refine (hpost _ _ _ _ _ _ _ _ _ _ _ _ _ _ _ _ _ _ _ _ _ _ _ _ _ _ _ _ ⟨false, rfl, ⟨fun h => absurd ⟨hx, hy⟩ h, fun _ hc => absurd hc hnc, fun _ _ => ⟨hva, hal, lvl f6, ?_⟩⟩, rfl, rfl, rfl, rfl, rfl, rfl, rfl, rfl, rfl, rfl, rfl, rfl, rfl, rfl, rfl, rfl⟩)
      rw [hG]
      refine ⟨hCt, Or.inl ⟨?_, rfl, fun q hq => ⟨if_pos hq, if_pos hq⟩, rfl⟩⟩
      obtain ⟨x, w, hd⟩ := hAF.2.2
      have := Dist.le hd 1 trivial
      exact Path.down _ 31 (by omega) _ _ this
    have hnp : ¬ Path G 31 s0 v0 := fun hp => by
      obtain ⟨x, w, hd⟩ := Dist.of_path 30 1 s0 v0 Dist.root hp
      have := hAF.2.1 _ _ _ hd; omega
    have hchz : ∀ x w, x < 24 → w < 40 → (f12 (40 * x + w) = 0 ↔ ¬ RD G s0 v0 x w) ∧ (f12 (40 * x + w) ≤ 0 ↔ ¬ RD G s0 v0 x w) := fun x w h1 h2 => by
      obtain ⟨e, e1, e2, e3, e4⟩ := hAF.1 x w h1 h2
      have k : e = 0 ↔ ¬ RD G s0 v0 x w := by
        refine ⟨fun q ⟨n, hd⟩ => ?_, fun q => ?_⟩
        · have := e4 n hd; have := hd.pos; omega
        · rcases Nat.eq_zero_or_pos e with z | z
          · exact z
          · exact absurd ⟨e, e3 z⟩ q
      refine ⟨by rw [e1, nI_eq0 (by omega)]; exact k, ?_⟩
      rw [e1, show (0 : Int32) = nI 0 from rfl, nI_leI (by omega) (by decide), ← k]; omega
    refine ⟨fun xw f u => ∃ w, w ≤ v0 + 1 ∧ xw = nI w ∧ NF G s0 v0 (24 * w) f u, fun xw _ _ => v0 + 1 - xw.toInt.toNat, ⟨0, Nat.zero_le _, rfl, rfl, fun x w h1 h2 k hk => ?_⟩, ?_⟩
    · rw [show fillL 0 960 mwr (40 * x + w) = 0 from if_pos (by omega), bL_0]
      exact ⟨fun q => absurd q (by decide), fun q => absurd q.1 (by omega)⟩
    rintro xw f28 u29 ⟨w, hw, rfl, hI⟩
    have hlt : nI v0 < nI w ↔ v0 < w := nI_ltI (by omega) (by omega)
    rw [hlt]
    refine ⟨fun h => ?_, fun h => ?_⟩
    · obtain rfl : w = v0 + 1 := by omega
      have hN := hI.skip (b' := 960) (by omega) (fun p h1 h2 q => by have := (hRx _ _ q).2.1; omega)
      refine ⟨fun xi f => ∃ k, k ≤ 960 ∧ xi = nI k ∧ ∀ q, q < k → f q = f10 q, fun xi _ => 960 - xi.toInt.toNat, ⟨0, Nat.zero_le _, rfl, fun q hq => absurd hq (Nat.not_lt_zero _)⟩, ?_⟩
      rintro xi f33 ⟨k, hk, rfl, hcp⟩
      refine ⟨fun h2 => ?_, fun h2 => ?_⟩
      · obtain rfl := (fill_end (N := 960) h2 (by omega) hk).symm
        refine ⟨⟨v9, hva _ (by omega)⟩, ?_⟩
        refine (hpost _ _ _ _ _ _ _ _ _ _ _ _ _ _ _ _ _ _ _ _ _ _ _ _ _ _ _ _ ⟨decide (¬ f9 (40 * s0 + v0) = 0), rfl, ⟨fun h => absurd ⟨hx, hy⟩ h, fun _ hc => absurd hc hnc, fun _ _ => ⟨hva, hal, lvl f6, ?_⟩⟩, rfl, rfl, rfl, rfl, rfl, rfl, rfl, rfl, rfl, rfl, rfl, rfl, rfl, rfl, rfl, rfl⟩)
        rw [hG]
        refine ⟨hCt, Or.inr ⟨rfl, hnp, ?_, fun x w h1 h2 => ⟨(hchz x w h1 h2).1, fun hR i hi => ?_, fun k hk => ?_⟩, hN.1⟩⟩
        · rw [← hG]; exact decide_eq_true_iff
        · rw [hcp _ (by omega)]
          obtain ⟨r1, r2, r3⟩ := hRx x w hR
          have hz := (hfx x w r3 h1 r2).2
          rw [← hG]
          refine ⟨fun q => ⟨fun z => ?_, q⟩, fun q => q.2⟩
          rw [hz z, b_0] at q; exact absurd q (by decide)
        · rw [hN.2 x w h1 h2 k hk]
          exact ⟨fun q => q.2, fun q => ⟨by omega, q⟩⟩
      · have hk2 := fill_step (N := 960) h2 (by omega) hk
        have mu2 := fill_mu (N := 960) hk2 (by omega)
        have ck : (nI k).toNatClampNeg = k := nI_clamp (by omega)
        have vk : vp_in (nI k) 960 := vp_in_nI hk2 (by decide)
        rw [ck]
        refine ⟨vk, vk, ⟨k + 1, hk2, nI_1 k, fun q hq => ?_⟩, mu2⟩
        by_cases e : q = k
        · rw [e, upd_at]
        · rw [upd_ne e]; exact hcp q (by omega)
    have mu1 := fill_mu (N := v0 + 1) (k := w) (by omega) (by omega)
    refine ⟨fun xt f u => ∃ t, t ≤ m0 ∧ xt = nI t ∧ NF G s0 v0 (24 * w + t) f u, fun xt _ _ => m0 - xt.toInt.toNat, ⟨0, Nat.zero_le _, rfl, hI⟩, ?_⟩
    rintro xt f39 u40 ⟨t, ht2, rfl, hI2⟩
    have hns3 : mns ≤ nI t ↔ nI m0 ≤ nI t := by rw [hns]
    rw [hns3]
    refine ⟨fun h2 => ?_, fun h2 => ?_⟩
    · obtain rfl := (fill_end (N := m0) h2 (by omega) ht2).symm
      exact ⟨⟨w + 1, by omega, nI_1 w, hI2.skip (by omega) (fun p h3 h4 q => by have := (hRx _ _ q).1; omega)⟩, mu1⟩
    have ht3 := fill_step (N := m0) h2 (by omega) ht2
    have mu2 := fill_mu (N := m0) ht3 (by omega)
    have v8 : vp_in (40 * nI t + nI w) 960 := by rw [jx40]; exact vp_in_nI (by omega) (by decide)
    have c5 : (40 * nI t + nI w : Int32).toNatClampNeg = 40 * t + w := by rw [jx40, nI_clamp (by omega)]
    have ct : (nI t).toNatClampNeg = t := nI_clamp (by omega)
    have cw : (nI w).toNatClampNeg = w := nI_clamp (by omega)
    rw [c5]
    refine ⟨v8, fun h3 => ⟨⟨t + 1, ht3, nI_1 t, ?_⟩, mu2⟩, fun h3 => ⟨⟨n0, m0, t, w, hnv, hns, hS2, ht3, by omega, rfl, rfl⟩, fun f42 u43 hpd => ⟨⟨t + 1, ht3, nI_1 t, ?_⟩, mu2⟩⟩⟩
    · have hno := (hchz t w (by omega) (by omega)).2.mp h3
      rw [← Nat.add_assoc]
      refine hI2.skip (by omega) (fun p h4 h5 => ?_)
      rw [show p % 24 = t by omega, show p / 24 = w by omega]; exact hno
    · have hyes : RD G s0 v0 t w := Classical.byContradiction (fun q => h3 ((hchz t w (by omega) (by omega)).2.mpr q))
      rw [ct, cw] at hpd
      obtain ⟨d1, d2, d3⟩ := hpd G rfl
      exact hI2.step (by omega) (by omega) hyes d1 d2 d3
  exact main _ (fun _ _ _ _ _ _ _ _ _ _ _ _ _ _ _ _ _ _ _ _ _ _ _ _ _ _ _ _ h => h)
theorem c_Mo_judgeF (l : Launch) (D : va_G) (b : Nat → Nat) (cI cJ cZ : ClassId) (mki : Nat → Int32) (msz : Nat → Int64) (mle : Nat → Int32) (mel : Nat → Int32) (mme : Nat → Int32) (mal : Nat → Int32) (mic : Nat → Int32) (mil : Nat → Int32) (mio : Nat → Int32) (mab : Nat → Int32) (mae : Nat → Int32) (msa : Nat → Int32) (mlc : Nat → Int32) (mli : Nat → Int32) (mna : Nat → Int32) (mva : Nat → Int32) (mma : Nat → Int32) (mch : Nat → Int32) (mre : Nat → Int32) (mlv : Nat → Int32) (mwr : Nat → Int64) (msh : Nat → Int32) (mth : Int32) (mnv : Int32) (mns : Int32) (mfa : Int32) (mmo : Int32) (x : Int32) (y : Int32) (hpre : (∃ n0 m0 : Nat, mnv = nI n0 ∧ mns = nI m0 ∧ MSOK mki msz mle mel mme mic mio msa mlc mli mna mva n0 m0)) : Wm (S := Bool × (Nat → Int32) × (Nat → Int32) × (Nat → Int32) × (Nat → Int32) × (Nat → Int32) × (Nat → Int32) × (Nat → Int64) × (Nat → Int32) × Int32 × Int32 × Int32) l y_Mo_judge b_Mo_judge 5 (some .boolean) 8 191 [.ref (b 0), .int x, .int y] D (tyA cI cJ cZ) (wM b cI cJ cZ mki msz mle mel mme mal mic mil mio mab mae msa mlc mli mna mva mma mch mre mlv mwr msh mth mnv mns mfa mmo) (fun uu => ((¬ (sHas mns x = true ∧ sHas mnv y = true) → uu.2.2.2.2.2.2.2.2.2.1 = 1 ∧ uu.2.2.2.2.1 = mch ∧ uu.2.2.2.2.2.2.2.1 = mwr ∧ uu.2.2.2.2.2.2.2.2.1 = msh ∧ uu.2.2.2.2.2.2.2.2.2.2.1 = mfa ∧ uu.2.2.1 = mva) ∧ (sHas mns x = true ∧ sHas mnv y = true → Cir msa mlc mli mna mns.toNatClampNeg x.toNatClampNeg → uu.2.2.2.2.2.2.2.2.2.1 = 2 ∧ Zm uu.2.2.2.2.1 uu.2.2.2.2.2.2.2.1 uu.2.2.2.2.2.2.2.2.2.2.1 ∧ uu.2.2.1 = mva) ∧ (sHas mns x = true ∧ sHas mnv y = true → ¬ Cir msa mlc mli mna mns.toNatClampNeg x.toNatClampNeg → (∀ j, j < 960 → uu.2.2.1 j = 0 ∨ uu.2.2.1 j = 1) ∧ AlOK mki msz mle mel mme uu.2.1 mnv.toNatClampNeg ∧ ∃ lv, Ctx (gM mki msz mle mel mme uu.2.1 mic mil mio mab mae msa mlc mli mna uu.2.2.1 uu.2.2.2.1 mnv.toNatClampNeg) (RD (gM mki msz mle mel mme uu.2.1 mic mil mio mab mae msa mlc mli mna uu.2.2.1 uu.2.2.2.1 mnv.toNatClampNeg) x.toNatClampNeg y.toNatClampNeg) lv ∧ ((Path (gM mki msz mle mel mme uu.2.1 mic mil mio mab mae msa mlc mli mna uu.2.2.1 uu.2.2.2.1 mnv.toNatClampNeg) 31 x.toNatClampNeg y.toNatClampNeg ∧ uu.2.2.2.2.2.2.2.2.2.1 = 3 ∧ Zm uu.2.2.2.2.1 uu.2.2.2.2.2.2.2.1 uu.2.2.2.2.2.2.2.2.2.2.1) ∨ (uu.2.2.2.2.2.2.2.2.2.1 = 0 ∧ MJd (gM mki msz mle mel mme uu.2.1 mic mil mio mab mae msa mlc mli mna uu.2.2.1 uu.2.2.2.1 mnv.toNatClampNeg) x.toNatClampNeg y.toNatClampNeg uu.1 uu.2.2.2.2.1 uu.2.2.2.2.2.2.2.2.1 uu.2.2.2.2.2.2.2.1 uu.2.2.2.2.2.2.2.2.2.2.1))))) (fun uu => some (.int (bI uu.1))) (fun uu => (wM b cI cJ cZ mki msz mle mel mme uu.2.1 mic mil mio mab mae msa mlc mli mna uu.2.2.1 uu.2.2.2.1 uu.2.2.2.2.1 uu.2.2.2.2.2.1 uu.2.2.2.2.2.2.1 uu.2.2.2.2.2.2.2.1 uu.2.2.2.2.2.2.2.2.1 uu.2.2.2.2.2.2.2.2.2.1 mnv mns uu.2.2.2.2.2.2.2.2.2.2.1 uu.2.2.2.2.2.2.2.2.2.2.2)) :=
  wm_i (by decide) (fun _ _ => bI_nar _) (Nat.le_of_ble_eq_true rfl) (fun p e s m below meth c ls Q A S hK hP hD hA hS hl hret => g_Mo_judgeF S (Nat.le_refl _) (Nat.le_refl _) ⟨Nat.le_refl _, Nat.le_refl _⟩ D b cI cJ cZ mki msz mle mel mme mal mic mil mio mab mae msa mlc mli mna mva mma mch mre mlv mwr msh mth mnv mns mfa mmo x y hK hP hD hA hS hl (v_Mo_judgeF mki msz mle mel mme mal mic mil mio mab mae msa mlc mli mna mva mma mch mre mlv mwr msh mth mnv mns mfa mmo x y hpre) (fun v mki' msz' mle' mel' mme' mal' mic' mil' mio' mab' mae' msa' mlc' mli' mna' mva' mma' mch' mre' mlv' mwr' msh' mth' mnv' mns' mfa' mmo' ls1 pc H1 locs1 hd hv hP1 hD1 hS1 => by obtain ⟨rr, rfl, hp, rfl, rfl, rfl, rfl, rfl, rfl, rfl, rfl, rfl, rfl, rfl, rfl, rfl, rfl, rfl, rfl⟩ := hv; exact hret (rr, mal', mva', mma', mch', mre', mlv', mwr', msh', mth', mfa', mmo') _ ls1 pc H1 locs1 hd hp rfl hP1 hD1 hS1))
theorem hd_Mo_judgeF : y_Mo_judge.cls ≠ "java/lang/invoke/MethodHandle" ∧ y_Mo_judge.cls ≠ "java/lang/invoke/VarHandle" ∧ (parseMethodDescriptor y_Mo_judge.desc).map (fun d => d.parameters.length) = some 2 := ⟨by decide, by decide, by decide +kernel⟩
