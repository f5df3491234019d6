/-! ===== the chains of a judging ===== -/
theorem gPt_lt {mki : Nat → Int32} {msz : Nat → Int64} {mle mel mme mal mic mil mio mab mae msa mlc mli mna mva mma mre mlv : Nat → Int32} {n0 m0 : Nat} (hS : MSOK mki msz mle mel mme mic mio msa mlc mli mna mva n0 m0) {v i : Nat} (hv : v < 40) (hb : gPb (gM mki msz mle mel mme mal mic mil mio mab mae msa mlc mli mna mva mma n0) v i) : gPt (gM mki msz mle mel mme mal mic mil mio mab mae msa mlc mli mna mva mma n0) v i < v := by
  obtain ⟨_, ⟨L, hL, eL⟩, hpart, hmem, _⟩ := hS.1.2.2 v hv
  have cL : (mle v).toNatClampNeg ≤ 8 := by rw [eL, nI_clamp (by omega)]; exact hL
  have hb' : mpb mki mle mme v i := hb
  rcases mpb_k hb' with h4 | h5
  · have hi := (mpb_r hv h4 cL i).mp hb'
    show mpt mki mle mel mme v i < v
    rw [mpt_r hv h4 cL hi]
    obtain ⟨p, hp, e⟩ := hpart i hi
    rw [e, nI_clamp (by omega)]; exact hp
  · have hm := (mpb_m hv h5 hb'.1).mp hb'
    show mpt mki mle mel mme v i < v
    rw [mpt_m hv h5 hb'.1 hm]
    obtain ⟨p, hp, e⟩ := okx_nn (hmem i hb'.1) hm
    rw [e, nI_clamp (by omega)]; exact hp
theorem Ask_later {mki : Nat → Int32} {msz : Nat → Int64} {mle mel mme mal mic mil mio mab mae msa mlc mli mna mva mma mre mlv : Nat → Int32} {n0 m0 : Nat} (hS : MSOK mki msz mle mel mme mic mio msa mlc mli mna mva n0 m0) (hO : OrdOK msa mlc mli mna mre mlv m0) {s v x w : Nat} (hs : s < 24) (hv : v < 40) (hr : ¬ mre s = 0) (h : Ask (gM mki msz mle mel mme mal mic mil mio mab mae msa mlc mli mna mva mma n0) s v x w) : ¬ mre x = 0 ∧ x < m0 ∧ (w < v ∨ (w = v ∧ lvl mlv s < lvl mlv x)) := by
  have hm24 := hS.2.2.1
  rcases Ask_kind h with ⟨rfl, hx⟩ | ⟨hx, i, hi, hpb, rfl⟩
  · obtain ⟨a1, a2⟩ := IPc_bit hm24 hS.2.2.2.2.1 hS.2.2.2.2.2.2.2.1 hs hx
    exact ⟨(hO.2.1 s x hs hr (LIP_LAN a2)).2, a1, Or.inr ⟨rfl, hO.2.2.1 s x hs hr a2⟩⟩
  · obtain ⟨a1, a2⟩ := ELc_bit hm24 hS.2.2.2.2.1 hS.2.2.2.2.2.2.2.1 hs hx
    exact ⟨(hO.2.1 s x hs hr a2).2, a1, Or.inl (gPt_lt (mre := mre) (mlv := mlv) hS hv hpb)⟩
/-- a chain of n pairs from the first one to a pair -/
def Dist (G : Sp) (s0 v0 : Nat) : Nat → Nat → Nat → Prop
  | 0, _, _ => False
  | 1, x, w => x = s0 ∧ w = v0
  | n + 2, x, w => ∃ s v, Dist G s0 v0 (n + 1) s v ∧ Ask G s v x w
theorem Dist.root {G : Sp} {s0 v0 : Nat} : Dist G s0 v0 1 s0 v0 := ⟨rfl, rfl⟩
theorem Dist.pos {G : Sp} {s0 v0 n x w : Nat} (h : Dist G s0 v0 n x w) : 1 ≤ n := by
  match n with
  | 0 => exact absurd h id
  | n + 1 => omega
theorem Dist.step {G : Sp} {s0 v0 n s v x w : Nat} (h : Dist G s0 v0 n s v) (ha : Ask G s v x w) : Dist G s0 v0 (n + 1) x w := by
  obtain ⟨k, rfl⟩ : ∃ k, n = k + 1 := ⟨n - 1, by have := h.pos; omega⟩
  exact ⟨s, v, h, ha⟩
theorem Dist.fact {mki : Nat → Int32} {msz : Nat → Int64} {mle mel mme mal mic mil mio mab mae msa mlc mli mna mva mma mre mlv : Nat → Int32} {n0 m0 : Nat} (hS : MSOK mki msz mle mel mme mic mio msa mlc mli mna mva n0 m0) (hO : OrdOK msa mlc mli mna mre mlv m0) {s0 v0 : Nat} (hs : s0 < 24) (hv : v0 < 40) (hr : ¬ mre s0 = 0) : ∀ {n x w : Nat}, Dist (gM mki msz mle mel mme mal mic mil mio mab mae msa mlc mli mna mva mma n0) s0 v0 n x w →
    ¬ mre x = 0 ∧ x < 24 ∧ w ≤ v0 ∧ n + mu (lvl mlv) x w ≤ 1 + mu (lvl mlv) s0 v0 := by
  intro n
  induction n with
  | zero => intro x w h; exact absurd h id
  | succ n ih =>
    intro x w h
    match n with
    | 0 => obtain ⟨rfl, rfl⟩ := h; exact ⟨hr, hs, Nat.le_refl _, Nat.le_refl _⟩
    | n + 1 =>
      obtain ⟨s, v, hd, ha⟩ := h
      obtain ⟨a1, a2, a3, a4⟩ := ih hd
      obtain ⟨b1, b2, b3⟩ := Ask_later hS hO a2 (by omega) a1 ha
      have hm24 := hS.2.2.1
      obtain ⟨c, hc, ec⟩ := hO.2.2.2 x (by omega)
      obtain ⟨d, hd, ed⟩ := hO.2.2.2 s a2
      have lx := lvl_nI ec (by omega)
      have ls := lvl_nI ed (by omega)
      unfold mu at a4 ⊢
      rw [lx] at b3 ⊢
      rw [ls] at b3 a4
      refine ⟨b1, by omega, by omega, ?_⟩
      rcases b3 with b3 | ⟨b3, b4⟩
      · omega
      · subst b3; omega
theorem Dist.le {G : Sp} {s0 v0 : Nat} : ∀ {n x w : Nat}, Dist G s0 v0 n x w → ∀ j, Path G j x w → Path G (n + j - 1) s0 v0 := by
  intro n
  induction n with
  | zero => intro x w h; exact absurd h id
  | succ n ih =>
    intro x w h j hj
    match n with
    | 0 => obtain ⟨rfl, rfl⟩ := h; rw [show 0 + 1 + j - 1 = j by omega]; exact hj
    | n + 1 =>
      obtain ⟨s, v, hd, ha⟩ := h
      match j with
      | 0 => have := ih hd 1 trivial; rw [show n + 1 + 1 + 0 - 1 = n + 1 + 1 - 1 by omega]; exact this
      | j + 1 => have := ih hd (j + 2) ⟨x, w, ha, hj⟩; rw [show n + 1 + 1 + (j + 1) - 1 = n + 1 + (j + 2) - 1 by omega]; exact this
theorem Dist.of_path {G : Sp} {s0 v0 : Nat} : ∀ j n x w, Dist G s0 v0 n x w → Path G (j + 1) x w → ∃ x' w', Dist G s0 v0 (n + j) x' w' := by
  intro j
  induction j with
  | zero => intro n x w h _; exact ⟨x, w, h⟩
  | succ j ih =>
    intro n x w h hp
    obtain ⟨y, u, ha, hp'⟩ := hp
    obtain ⟨x', w', q⟩ := ih (n + 1) y u (Dist.step h ha) hp'
    exact ⟨x', w', by rw [show n + (j + 1) = n + 1 + j by omega]; exact q⟩
/-- the longest chains to the pairs, and the longest of all -/
def AFd (G : Sp) (s0 v0 : Nat) (f : Nat → Int32) (L : Nat) : Prop :=
  (∀ x w, x < 24 → w < 40 → ∃ e, f (40 * x + w) = nI e ∧ e < 2 ^ 30 ∧ (0 < e → Dist G s0 v0 e x w) ∧ ∀ n, Dist G s0 v0 n x w → n ≤ e) ∧ (∀ n x w, Dist G s0 v0 n x w → n ≤ L) ∧ ∃ x w, Dist G s0 v0 L x w
def AFI (G : Sp) (s0 v0 : Nat) (P : Nat → Nat → Prop) (f : Nat → Int32) (z : Int32) : Prop :=
  (∀ x w, x < 24 → w < 40 → ∃ e, f (40 * x + w) = nI e ∧ e < 2 ^ 30 ∧ (0 < e → Dist G s0 v0 e x w) ∧ (x = s0 → w = v0 → 1 ≤ e) ∧ ∀ n s v, P s v → Dist G s0 v0 n s v → Ask G s v x w → n + 1 ≤ e) ∧
  ∃ L, z = nI L ∧ L < 2 ^ 30 ∧ (∀ n x w, P x w → Dist G s0 v0 n x w → n ≤ L) ∧ (0 < L → ∃ x w, Dist G s0 v0 L x w)
theorem AFI.skip {G : Sp} {s0 v0 : Nat} {P P' : Nat → Nat → Prop} {f : Nat → Int32} {z : Int32} (h : AFI G s0 v0 P f z) (hP : ∀ n x w, Dist G s0 v0 n x w → P' x w → P x w) : AFI G s0 v0 P' f z := by
  obtain ⟨h1, L, h2, h3, h4, h5⟩ := h
  refine ⟨fun x w hx hw => ?_, L, h2, h3, fun n x w hp hd => h4 n x w (hP n x w hd hp) hd, h5⟩
  obtain ⟨e, e1, e2, e3, e4, e5⟩ := h1 x w hx hw
  exact ⟨e, e1, e2, e3, e4, fun n s v hp hd ha => e5 n s v (hP n s v hd hp) hd ha⟩
theorem AFI.here {G : Sp} {s0 v0 s v : Nat} {P : Nat → Nat → Prop} {f : Nat → Int32} {z : Int32} (h : AFI G s0 v0 P f z) (hs : s < 24) (hv : v < 40) (hb : ∀ n x w, Dist G s0 v0 n x w → Ask G x w s v → P x w) :
    ∃ e, f (40 * s + v) = nI e ∧ e < 2 ^ 30 ∧ (0 < e → Dist G s0 v0 e s v) ∧ ∀ n, Dist G s0 v0 n s v → n ≤ e := by
  obtain ⟨e, e1, e2, e3, e4, e5⟩ := h.1 s v hs hv
  refine ⟨e, e1, e2, e3, fun n hn => ?_⟩
  match n with
  | 0 => exact absurd hn id
  | 1 => exact e4 hn.1 hn.2
  | n + 2 =>
    obtain ⟨y, u, hd, ha⟩ := hn
    exact e5 _ _ _ (hb _ _ _ hd ha) hd ha
theorem AFI.step {G : Sp} {s0 v0 s v e : Nat} {P P' : Nat → Nat → Prop} {f f' : Nat → Int32} {z z' : Int32} (h : AFI G s0 v0 P f z) (hs : s < 24) (hv : v < 40) (hB : ∀ n x w, Dist G s0 v0 n x w → n < 2 ^ 30)
    (he : f (40 * s + v) = nI e) (he0 : 0 < e) (hed : Dist G s0 v0 e s v) (hem : ∀ n, Dist G s0 v0 n s v → n ≤ e) (hak : AkI (Ask G s v) e f f') (hz : (nI e ≤ z ∧ z' = z) ∨ (¬ nI e ≤ z ∧ z' = nI e)) (hP : ∀ x w, P' x w → P x w ∨ (x = s ∧ w = v)) : AFI G s0 v0 P' f' z' := by
  obtain ⟨h1, L, h2, h3, h4, h5⟩ := h
  have he30 := hB _ _ _ hed
  refine ⟨fun x w hx hw => ?_, ?_⟩
  · obtain ⟨c, c1, c2, c3, c4, c5⟩ := h1 x w hx hw
    have up : ∃ c', f' (40 * x + w) = nI c' ∧ c' < 2 ^ 30 ∧ c ≤ c' ∧ (0 < c' → Dist G s0 v0 c' x w) := by
      rcases hak.1 x w hx hw with q | ⟨q1, q2, d, q3, q4⟩
      · exact ⟨c, by rw [q]; exact c1, c2, Nat.le_refl _, c3⟩
      · have hd := Dist.step hed q1
        have := hB _ _ _ hd
        rw [c1, nI_eq (by omega) (by omega)] at q4
        exact ⟨e + 1, q2, this, by omega, fun _ => hd⟩
    obtain ⟨c', u1, u2, u3, u4⟩ := up
    refine ⟨c', u1, u2, u4, fun a b => Nat.le_trans (c4 a b) u3, fun n y u hp hd ha => ?_⟩
    rcases hP y u hp with q | ⟨rfl, rfl⟩
    · exact Nat.le_trans (c5 n y u q hd ha) u3
    · obtain ⟨d, d1, d2, d3⟩ := hak.2 x w ha hx hw
      rw [u1, nI_eq (by omega) d2] at d3
      have := hem n hd
      omega
  · have hle : nI e ≤ z ↔ e ≤ L := by rw [h2]; exact nI_leI (by omega) (by omega)
    rw [hle] at hz
    rcases hz with ⟨q, rfl⟩ | ⟨q, rfl⟩
    · refine ⟨L, h2, h3, fun n x w hp hd => ?_, h5⟩
      rcases hP x w hp with p | ⟨rfl, rfl⟩
      · exact h4 n x w p hd
      · exact Nat.le_trans (hem n hd) q
    · refine ⟨e, rfl, he30, fun n x w hp hd => ?_, fun _ => ⟨s, v, hed⟩⟩
      rcases hP x w hp with p | ⟨rfl, rfl⟩
      · have := h4 n x w p hd; omega
      · exact hem n hd
theorem AFI.fin {G : Sp} {s0 v0 : Nat} {P : Nat → Nat → Prop} {f : Nat → Int32} {z : Int32} (h : AFI G s0 v0 P f z) (hP : ∀ n x w, Dist G s0 v0 n x w → P x w) : ∃ L, z = nI L ∧ L < 2 ^ 30 ∧ AFd G s0 v0 f L := by
  obtain ⟨L, h2, h3, h4, h5⟩ := h.2
  refine ⟨L, h2, h3, fun x w hx hw => h.here hx hw (fun n y u hd _ => hP n y u hd), fun n x w hd => h4 n x w (hP n x w hd) hd, h5 ?_⟩
  exact h4 1 s0 v0 (hP _ _ _ Dist.root) Dist.root
def V_Mo_askFrom (mki : Nat → Int32) (msz : Nat → Int64) (mle : Nat → Int32) (mel : Nat → Int32) (mme : Nat → Int32) (mal : Nat → Int32) (mic : Nat → Int32) (mil : Nat → Int32) (mio : Nat → Int32) (mab : Nat → Int32) (mae : Nat → Int32) (msa : Nat → Int32) (mlc : Nat → Int32) (mli : Nat → Int32) (mna : Nat → Int32) (mva : Nat → Int32) (mma : Nat → Int32) (mch : Nat → Int32) (mre : Nat → Int32) (mlv : Nat → Int32) (mwr : Nat → Int64) (msh : Nat → Int32) (mth : Int32) (mnv : Int32) (mns : Int32) (mfa : Int32) (mmo : Int32) (x : Int32) (post : Int32 → (Nat → Int32) → (Nat → Int64) → (Nat → Int32) → (Nat → Int32) → (Nat → Int32) → (Nat → Int32) → (Nat → Int32) → (Nat → Int32) → (Nat → Int32) → (Nat → Int32) → (Nat → Int32) → (Nat → Int32) → (Nat → Int32) → (Nat → Int32) → (Nat → Int32) → (Nat → Int32) → (Nat → Int32) → (Nat → Int32) → (Nat → Int32) → (Nat → Int32) → (Nat → Int64) → (Nat → Int32) → Int32 → Int32 → Int32 → Int32 → Int32 → Prop) : Prop :=
  (∃ (I32 : Int32 → Int32 → (Nat → Int32) → Prop) (mI32 : Int32 → Int32 → (Nat → Int32) → Nat), I32 0 x mch ∧ (∀ (x29 : Int32) (x30 : Int32) (f31 : Nat → Int32), I32 x29 x30 f31 → ((x30 < 0 → post x29 mki msz mle mel mme mal mic mil mio mab mae msa mlc mli mna mva mma f31 mre mlv mwr msh mth mnv mns mfa mmo) ∧ (¬ x30 < 0 → (∃ (I48 : Int32 → Int32 → (Nat → Int32) → Prop) (mI48 : Int32 → Int32 → (Nat → Int32) → Nat), I48 x29 0 f31 ∧ (∀ (x45 : Int32) (x46 : Int32) (f47 : Nat → Int32), I48 x45 x46 f47 → ((27 ≤ x46 → (I32 x45 (x30 + (-1)) f47 ∧ mI32 x45 (x30 + (-1)) f47 < mI32 x29 x30 f31)) ∧ (¬ 27 ≤ x46 → (∃ (I56 : Int32 → Int32 → (Nat → Int32) → Prop) (mI56 : Int32 → Int32 → (Nat → Int32) → Nat), I56 x45 0 f47 ∧ (∀ (x53 : Int32) (x54 : Int32) (f55 : Nat → Int32), I56 x53 x54 f55 → ((mns ≤ x54 → (I48 x53 (x46 + 1) f55 ∧ mI48 x53 (x46 + 1) f55 < mI48 x45 x46 f47)) ∧ (¬ mns ≤ x54 → (vp_in x54 24 ∧ (((mre x54.toNatClampNeg) = 0 → (I56 x53 (x54 + 1) f55 ∧ mI56 x53 (x54 + 1) f55 < mI56 x53 x54 f55)) ∧ (¬ (mre x54.toNatClampNeg) = 0 → (vp_in x54 24 ∧ ((¬ (mlv x54.toNatClampNeg) = x46 → (I56 x53 (x54 + 1) f55 ∧ mI56 x53 (x54 + 1) f55 < mI56 x53 x54 f55)) ∧ ((mlv x54.toNatClampNeg) = x46 → (vp_in ((40 * x54) + x30) 960 ∧ (((f55 ((40 * x54) + x30 : Int32).toNatClampNeg) ≤ 0 → (I56 x53 (x54 + 1) f55 ∧ mI56 x53 (x54 + 1) f55 < mI56 x53 x54 f55)) ∧ (¬ (f55 ((40 * x54) + x30 : Int32).toNatClampNeg) ≤ 0 → (vp_in ((40 * x54) + x30) 960 ∧ (∃ J57 : Int32 → Prop, (((f55 ((40 * x54) + x30 : Int32).toNatClampNeg) ≤ x53 → J57 x53) ∧ (¬ (f55 ((40 * x54) + x30 : Int32).toNatClampNeg) ≤ x53 → (vp_in ((40 * x54) + x30) 960 ∧ J57 (f55 ((40 * x54) + x30 : Int32).toNatClampNeg)))) ∧ (∀ (x58 : Int32), J57 x58 → ((∃ n0 m0 s0 v0 : Nat, mnv = nI n0 ∧ mns = nI m0 ∧ MSOK mki msz mle mel mme mic mio msa mlc mli mna mva n0 m0 ∧ (s0 < m0 ∧ v0 < n0 ∧ x54 = nI s0 ∧ x30 = nI v0) ∧ ∀ q, q < 960 → ∃ e, e < 2 ^ 30 ∧ f55 q = nI e) ∧ (∀ (f59 : Nat → Int32), ((∀ G : Sp, G = gM mki msz mle mel mme mal mic mil mio mab mae msa mlc mli mna mva mma mnv.toNatClampNeg → ∀ c : Nat, f55 (40 * x54.toNatClampNeg + x30.toNatClampNeg) = nI c → c < 2 ^ 30 → (∀ q, q < 960 → ∃ e, e < 2 ^ 30 ∧ f55 q = nI e) → AkI (Ask G x54.toNatClampNeg x30.toNatClampNeg) c f55 f59)) → (I56 x58 (x54 + 1) f59 ∧ mI56 x58 (x54 + 1) f59 < mI56 x53 x54 f55)))))))))))))))))))))))))))
set_option maxHeartbeats 4000000 in
set_option maxRecDepth 100000 in
theorem g_Mo_askFrom {p : Program} {l : Launch} {e : Env} {R : Room} {s : State} {m : MethodId} {args : Array Value} {below : List Frame} {meth : Method} {c : Code} {H : Heap} {locs : List Loc} {cells slots : Nat} {Q : State → Prop} {ls : Array Slot} {A : Nat → Prop} (S : CallFix p m c b_Mo_askFrom 6 s args W0 R_Mo) (hRf : 5 ≤ R.frames) (hRl : 121 ≤ R.locals) (hRc : cells ≤ R.cells ∧ slots ≤ R.slots) (D : va_G) (b : Nat → Nat) (cI cJ cZ : ClassId) (mki : Nat → Int32) (msz : Nat → Int64) (mle : Nat → Int32) (mel : Nat → Int32) (mme : Nat → Int32) (mal : Nat → Int32) (mic : Nat → Int32) (mil : Nat → Int32) (mio : Nat → Int32) (mab : Nat → Int32) (mae : Nat → Int32) (msa : Nat → Int32) (mlc : Nat → Int32) (mli : Nat → Int32) (mna : Nat → Int32) (mva : Nat → Int32) (mma : Nat → Int32) (mch : Nat → Int32) (mre : Nat → Int32) (mlv : Nat → Int32) (mwr : Nat → Int64) (msh : Nat → Int32) (mth : Int32) (mnv : Int32) (mns : Int32) (mfa : Int32) (mmo : Int32) (x : Int32) (hK : va_K D vwCl (tyA cI cJ cZ) s) (hP : va_P D vwCl (wM b cI cJ cZ mki msz mle mel mme mal mic mil mio mab mae msa mlc mli mna mva mma mch mre mlv mwr msh mth mnv mns mfa mmo) H) (hD : va_D A (wM b cI cJ cZ mki msz mle mel mme mal mic mil mio mab mae msa mlc mli mna mva mma mch mre mlv mwr msh mth mnv mns mfa mmo)) (hA : ∀ q, s.heap.size ≤ q → A q) (hS : va_S A s.heap H locs) (hl : lv_has ls 6 [(0, .ref (b 0)), (1, .int x)]) {post : Int32 → (Nat → Int32) → (Nat → Int64) → (Nat → Int32) → (Nat → Int32) → (Nat → Int32) → (Nat → Int32) → (Nat → Int32) → (Nat → Int32) → (Nat → Int32) → (Nat → Int32) → (Nat → Int32) → (Nat → Int32) → (Nat → Int32) → (Nat → Int32) → (Nat → Int32) → (Nat → Int32) → (Nat → Int32) → (Nat → Int32) → (Nat → Int32) → (Nat → Int32) → (Nat → Int64) → (Nat → Int32) → Int32 → Int32 → Int32 → Int32 → Int32 → Prop} (vc : V_Mo_askFrom mki msz mle mel mme mal mic mil mio mab mae msa mlc mli mna mva mma mch mre mlv mwr msh mth mnv mns mfa mmo x post)
    (hret : ∀ (v : Int32) (mki : Nat → Int32) (msz : Nat → Int64) (mle : Nat → Int32) (mel : Nat → Int32) (mme : Nat → Int32) (mal : Nat → Int32) (mic : Nat → Int32) (mil : Nat → Int32) (mio : Nat → Int32) (mab : Nat → Int32) (mae : Nat → Int32) (msa : Nat → Int32) (mlc : Nat → Int32) (mli : Nat → Int32) (mna : Nat → Int32) (mva : Nat → Int32) (mma : Nat → Int32) (mch : Nat → Int32) (mre : Nat → Int32) (mlv : Nat → Int32) (mwr : Nat → Int64) (msh : Nat → Int32) (mth : Int32) (mnv : Int32) (mns : Int32) (mfa : Int32) (mmo : Int32) (ls : Array Slot) (pc : Nat) (H : Heap) (locs : List Loc), decode b_Mo_askFrom pc = .ok (.ireturn, 1) → post v mki msz mle mel mme mal mic mil mio mab mae msa mlc mli mna mva mma mch mre mlv mwr msh mth mnv mns mfa mmo → va_P D vwCl (wM b cI cJ cZ mki msz mle mel mme mal mic mil mio mab mae msa mlc mli mna mva mma mch mre mlv mwr msh mth mnv mns mfa mmo) H → va_D A (wM b cI cJ cZ mki msz mle mel mme mal mic mil mio mab mae msa mlc mli mna mva mma mch mre mlv mwr msh mth mnv mns mfa mmo) → va_S A s.heap H locs → W p l e R s m args below meth c H locs cells slots Q (F0 m pc ls [.int v])) : W p l e R s m args below meth c H locs cells slots Q (F0 m 0 ls []) := by
  have hx := S.1
  have hb := S.2.1
  have hown := S.2.2.2.1
  have hts := S.2.2.2.2
  unfold V_Mo_askFrom at vc
  refine lv_iconst (v := 0) hx hb d_Mo_askFrom_0 (by decide) ?_
  refine lv_istore_n hx hb d_Mo_askFrom_1 rfl hl (by decide) (lv' := [(2, .int 0), (0, .ref (b 0)), (1, .int x)]) rfl (fun ls hl => ?_)
  refine lv_iload_n hx hb d_Mo_askFrom_2 rfl (lv_at hl 2 rfl) ?_
  refine lv_istore_n hx hb d_Mo_askFrom_3 rfl hl (by decide) (lv' := [(3, .int x), (2, .int 0), (0, .ref (b 0)), (1, .int x)]) rfl (fun ls hl => ?_)
  obtain ⟨I32, mI32, vc0, vcs⟩ := vc
  have lI32 : ∀ n : Nat, ∀ (x29 : Int32) (x30 : Int32) (f31 : Nat → Int32) (ls : Array Slot) (H : Heap) (locs : List Loc), I32 x29 x30 f31 → mI32 x29 x30 f31 < n → lv_has ls 6 [(0, .ref (b 0)), (1, .int x), (2, .int x29), (3, .int x30)] → va_P D vwCl (wM b cI cJ cZ mki msz mle mel mme mal mic mil mio mab mae msa mlc mli mna mva mma f31 mre mlv mwr msh mth mnv mns mfa mmo) H → va_D A (wM b cI cJ cZ mki msz mle mel mme mal mic mil mio mab mae msa mlc mli mna mva mma f31 mre mlv mwr msh mth mnv mns mfa mmo) → va_S A s.heap H locs → W p l e R s m args below meth c H locs cells slots Q (F0 m 4 ls []) := by
    intro n
    induction n with
    | zero => intro x29 x30 f31 ls H locs _ h; exact absurd h (Nat.not_lt_zero _)
    | succ n ihI32 =>
      intro x29 x30 f31 ls H locs vc hmI32 hl hP hD hS
      have vc := vcs x29 x30 f31 vc
      refine lv_iload_n hx hb d_Mo_askFrom_4 rfl (lv_at hl 3 rfl) ?_
      refine lv_if_lt (tgt := 125) hx hb d_Mo_askFrom_5 (by decide) (fun h => ?_) (fun h => ?_)
      · have vc := vc.1 h
        refine lv_iload_n hx hb d_Mo_askFrom_125 rfl (lv_at hl 2 rfl) ?_
        exact hret _ _ _ _ _ _ _ _ _ _ _ _ _ _ _ _ _ _ _ _ _ _ _ _ _ _ _ _ ls _ H locs d_Mo_askFrom_126 vc hP hD hS
      · have vc := vc.2 h
        refine lv_iconst (v := 0) hx hb d_Mo_askFrom_8 (by decide) ?_
        refine lv_istore hx hb d_Mo_askFrom_9 hl (by decide) (lv' := [(4, .int 0), (0, .ref (b 0)), (1, .int x), (2, .int x29), (3, .int x30)]) rfl (fun ls hl => ?_)
        obtain ⟨I48, mI48, vc0, vcs⟩ := vc
        have lI48 : ∀ n : Nat, ∀ (x45 : Int32) (x46 : Int32) (f47 : Nat → Int32) (ls : Array Slot) (H : Heap) (locs : List Loc), I48 x45 x46 f47 → mI48 x45 x46 f47 < n → lv_has ls 6 [(0, .ref (b 0)), (1, .int x), (2, .int x45), (3, .int x30), (4, .int x46)] → va_P D vwCl (wM b cI cJ cZ mki msz mle mel mme mal mic mil mio mab mae msa mlc mli mna mva mma f47 mre mlv mwr msh mth mnv mns mfa mmo) H → va_D A (wM b cI cJ cZ mki msz mle mel mme mal mic mil mio mab mae msa mlc mli mna mva mma f47 mre mlv mwr msh mth mnv mns mfa mmo) → va_S A s.heap H locs → W p l e R s m args below meth c H locs cells slots Q (F0 m 11 ls []) := by
          intro n
          induction n with
          | zero => intro x45 x46 f47 ls H locs _ h; exact absurd h (Nat.not_lt_zero _)
          | succ n ihI48 =>
            intro x45 x46 f47 ls H locs vc hmI48 hl hP hD hS
            have vc := vcs x45 x46 f47 vc
            refine lv_iload hx hb d_Mo_askFrom_11 (lv_at hl 4 rfl) ?_
            refine lv_bipush (v := 27) hx hb d_Mo_askFrom_13 (by decide) ?_
            refine lv_icmp_ge (tgt := 119) hx hb d_Mo_askFrom_15 (by decide) (fun h => ?_) (fun h => ?_)
            · have vc := vc.1 h
              refine lv_iinc (k := 3) (v := x30 + (-1)) hx hb d_Mo_askFrom_119 hl rfl rfl (by decide) (lv' := [(3, .int (x30 + (-1))), (0, .ref (b 0)), (1, .int x), (2, .int x45), (4, .int x46)]) rfl (fun ls hl => ?_)
              refine lv_goto (tgt := 4) hx hb d_Mo_askFrom_122 (by decide) ?_
              exact ihI32 x45 (x30 + (-1)) f47 ls H locs vc.1 (Nat.lt_of_lt_of_le vc.2 (Nat.le_of_lt_succ hmI32)) (lv_sub hl [1, 2, 3, 0] rfl) hP hD hS
            · have vc := vc.2 h
              refine lv_iconst (v := 0) hx hb d_Mo_askFrom_18 (by decide) ?_
              refine lv_istore hx hb d_Mo_askFrom_19 hl (by decide) (lv' := [(5, .int 0), (0, .ref (b 0)), (1, .int x), (2, .int x45), (3, .int x30), (4, .int x46)]) rfl (fun ls hl => ?_)
              obtain ⟨I56, mI56, vc0, vcs⟩ := vc
              have lI56 : ∀ n : Nat, ∀ (x53 : Int32) (x54 : Int32) (f55 : Nat → Int32) (ls : Array Slot) (H : Heap) (locs : List Loc), I56 x53 x54 f55 → mI56 x53 x54 f55 < n → lv_has ls 6 [(0, .ref (b 0)), (1, .int x), (2, .int x53), (3, .int x30), (4, .int x46), (5, .int x54)] → va_P D vwCl (wM b cI cJ cZ mki msz mle mel mme mal mic mil mio mab mae msa mlc mli mna mva mma f55 mre mlv mwr msh mth mnv mns mfa mmo) H → va_D A (wM b cI cJ cZ mki msz mle mel mme mal mic mil mio mab mae msa mlc mli mna mva mma f55 mre mlv mwr msh mth mnv mns mfa mmo) → va_S A s.heap H locs → W p l e R s m args below meth c H locs cells slots Q (F0 m 21 ls []) := by
                intro n
                induction n with
                | zero => intro x53 x54 f55 ls H locs _ h; exact absurd h (Nat.not_lt_zero _)
                | succ n ihI56 =>
                  intro x53 x54 f55 ls H locs vc hmI56 hl hP hD hS
                  have vc := vcs x53 x54 f55 vc
                  refine lv_iload hx hb d_Mo_askFrom_21 (lv_at hl 5 rfl) ?_
                  refine lv_aload_n hx hb d_Mo_askFrom_23 rfl (lv_at hl 0 rfl) ?_
                  refine va_get (D := D) (ci := 6) (v := .int mns) (C := R_Mo) (T := F_Mo) (N := 27) hx hb hts in_Mo hown hK hP 0 rfl rfl 13 (by decide) (hts _ fl_Mo_128) (fun _ h => h) rfl d_Mo_askFrom_24 ?_
                  refine lv_icmp_ge (tgt := 113) hx hb d_Mo_askFrom_27 (by decide) (fun h => ?_) (fun h => ?_)
                  · have vc := vc.1 h
                    refine lv_iinc (k := 4) (v := x46 + 1) hx hb d_Mo_askFrom_113 hl rfl rfl (by decide) (lv' := [(4, .int (x46 + 1)), (0, .ref (b 0)), (1, .int x), (2, .int x53), (3, .int x30), (5, .int x54)]) rfl (fun ls hl => ?_)
                    refine lv_goto (tgt := 11) hx hb d_Mo_askFrom_116 (by decide) ?_
                    exact ihI48 x53 (x46 + 1) f55 ls H locs vc.1 (Nat.lt_of_lt_of_le vc.2 (Nat.le_of_lt_succ hmI48)) (lv_sub hl [1, 2, 3, 4, 0] rfl) hP hD hS
                  · have vc := vc.2 h
                    refine lv_aload_n hx hb d_Mo_askFrom_30 rfl (lv_at hl 0 rfl) ?_
                    refine va_get (D := D) (ci := 6) (v := .ref (b 19)) (C := R_Mo) (T := F_Mo) (N := 27) hx hb hts in_Mo hown hK hP 0 rfl rfl 21 (by decide) (hts _ fl_Mo_66) (fun _ h => h) rfl d_Mo_askFrom_31 ?_
                    refine lv_iload hx hb d_Mo_askFrom_34 (lv_at hl 5 rfl) ?_
                    obtain ⟨vcb, vc⟩ := vc
                    refine va_zald hx hb hK hP 19 2 rfl rfl vcb d_Mo_askFrom_36 ?_
                    refine lv_if_eq (tgt := 107) hx hb d_Mo_askFrom_37 (by decide) (fun h => ?_) (fun h => ?_)
                    · have vc := vc.1 h
                      refine lv_iinc (k := 5) (v := x54 + 1) hx hb d_Mo_askFrom_107 hl rfl rfl (by decide) (lv' := [(5, .int (x54 + 1)), (0, .ref (b 0)), (1, .int x), (2, .int x53), (3, .int x30), (4, .int x46)]) rfl (fun ls hl => ?_)
                      refine lv_goto (tgt := 21) hx hb d_Mo_askFrom_110 (by decide) ?_
                      exact ihI56 x53 (x54 + 1) f55 ls H locs vc.1 (Nat.lt_of_lt_of_le vc.2 (Nat.le_of_lt_succ hmI56)) (lv_sub hl [1, 2, 3, 4, 5, 0] rfl) hP hD hS
                    · have vc := vc.2 h
                      refine lv_aload_n hx hb d_Mo_askFrom_40 rfl (lv_at hl 0 rfl) ?_
                      refine va_get (D := D) (ci := 6) (v := .ref (b 20)) (C := R_Mo) (T := F_Mo) (N := 27) hx hb hts in_Mo hown hK hP 0 rfl rfl 22 (by decide) (hts _ fl_Mo_69) (fun _ h => h) rfl d_Mo_askFrom_41 ?_
                      refine lv_iload hx hb d_Mo_askFrom_44 (lv_at hl 5 rfl) ?_
                      obtain ⟨vcb, vc⟩ := vc
                      refine va_iald hx hb hK hP 20 0 rfl rfl vcb d_Mo_askFrom_46 ?_
                      refine lv_iload hx hb d_Mo_askFrom_47 (lv_at hl 4 rfl) ?_
                      refine lv_icmp_ne (tgt := 107) hx hb d_Mo_askFrom_49 (by decide) (fun h => ?_) (fun h => ?_)
                      · have vc := vc.1 h
                        refine lv_iinc (k := 5) (v := x54 + 1) hx hb d_Mo_askFrom_107 hl rfl rfl (by decide) (lv' := [(5, .int (x54 + 1)), (0, .ref (b 0)), (1, .int x), (2, .int x53), (3, .int x30), (4, .int x46)]) rfl (fun ls hl => ?_)
                        refine lv_goto (tgt := 21) hx hb d_Mo_askFrom_110 (by decide) ?_
                        exact ihI56 x53 (x54 + 1) f55 ls H locs vc.1 (Nat.lt_of_lt_of_le vc.2 (Nat.le_of_lt_succ hmI56)) (lv_sub hl [1, 2, 3, 4, 5, 0] rfl) hP hD hS
                      · have vc := vc.2 h
                        refine lv_aload_n hx hb d_Mo_askFrom_52 rfl (lv_at hl 0 rfl) ?_
                        refine va_get (D := D) (ci := 6) (v := .ref (b 18)) (C := R_Mo) (T := F_Mo) (N := 27) hx hb hts in_Mo hown hK hP 0 rfl rfl 20 (by decide) (hts _ fl_Mo_63) (fun _ h => h) rfl d_Mo_askFrom_53 ?_
                        refine lv_bipush (v := 40) hx hb d_Mo_askFrom_56 (by decide) ?_
                        refine lv_iload hx hb d_Mo_askFrom_58 (lv_at hl 5 rfl) ?_
                        refine lv_imul hx hb d_Mo_askFrom_60 ?_
                        refine lv_iload_n hx hb d_Mo_askFrom_61 rfl (lv_at hl 3 rfl) ?_
                        refine lv_iadd hx hb d_Mo_askFrom_62 ?_
                        obtain ⟨vcb, vc⟩ := vc
                        refine va_iald hx hb hK hP 18 0 rfl rfl vcb d_Mo_askFrom_63 ?_
                        refine lv_if_le (tgt := 107) hx hb d_Mo_askFrom_64 (by decide) (fun h => ?_) (fun h => ?_)
                        · have vc := vc.1 h
                          refine lv_iinc (k := 5) (v := x54 + 1) hx hb d_Mo_askFrom_107 hl rfl rfl (by decide) (lv' := [(5, .int (x54 + 1)), (0, .ref (b 0)), (1, .int x), (2, .int x53), (3, .int x30), (4, .int x46)]) rfl (fun ls hl => ?_)
                          refine lv_goto (tgt := 21) hx hb d_Mo_askFrom_110 (by decide) ?_
                          exact ihI56 x53 (x54 + 1) f55 ls H locs vc.1 (Nat.lt_of_lt_of_le vc.2 (Nat.le_of_lt_succ hmI56)) (lv_sub hl [1, 2, 3, 4, 5, 0] rfl) hP hD hS
                        · have vc := vc.2 h
                          refine lv_aload_n hx hb d_Mo_askFrom_67 rfl (lv_at hl 0 rfl) ?_
                          refine va_get (D := D) (ci := 6) (v := .ref (b 18)) (C := R_Mo) (T := F_Mo) (N := 27) hx hb hts in_Mo hown hK hP 0 rfl rfl 20 (by decide) (hts _ fl_Mo_63) (fun _ h => h) rfl d_Mo_askFrom_68 ?_
                          refine lv_bipush (v := 40) hx hb d_Mo_askFrom_71 (by decide) ?_
                          refine lv_iload hx hb d_Mo_askFrom_73 (lv_at hl 5 rfl) ?_
                          refine lv_imul hx hb d_Mo_askFrom_75 ?_
                          refine lv_iload_n hx hb d_Mo_askFrom_76 rfl (lv_at hl 3 rfl) ?_
                          refine lv_iadd hx hb d_Mo_askFrom_77 ?_
                          obtain ⟨vcb, vc⟩ := vc
                          refine va_iald hx hb hK hP 18 0 rfl rfl vcb d_Mo_askFrom_78 ?_
                          refine lv_iload_n hx hb d_Mo_askFrom_79 rfl (lv_at hl 2 rfl) ?_
                          obtain ⟨J57, vc, vc2⟩ := vc
                          have jJ57 : ∀ (x58 : Int32) (ls : Array Slot) (H : Heap) (locs : List Loc), J57 x58 → lv_has ls 6 [(0, .ref (b 0)), (1, .int x), (2, .int x53), (3, .int x30), (4, .int x46), (5, .int x54)] → va_P D vwCl (wM b cI cJ cZ mki msz mle mel mme mal mic mil mio mab mae msa mlc mli mna mva mma f55 mre mlv mwr msh mth mnv mns mfa mmo) H → va_D A (wM b cI cJ cZ mki msz mle mel mme mal mic mil mio mab mae msa mlc mli mna mva mma f55 mre mlv mwr msh mth mnv mns mfa mmo) → va_S A s.heap H locs → W p l e R s m args below meth c H locs cells slots Q (F0 m 99 ls [.int x58]) := by
                            intro x58 ls H locs vc hl hP hD hS
                            have vc := vc2 x58 vc
                            refine lv_istore_n hx hb d_Mo_askFrom_99 rfl hl (by decide) (lv' := [(2, .int x58), (0, .ref (b 0)), (1, .int x), (3, .int x30), (4, .int x46), (5, .int x54)]) rfl (fun ls hl => ?_)
                            refine lv_aload_n hx hb d_Mo_askFrom_100 rfl (lv_at hl 1 rfl) ?_
                            refine lv_iload hx hb d_Mo_askFrom_101 (lv_at hl 5 rfl) ?_
                            refine lv_iload_n hx hb d_Mo_askFrom_103 rfl (lv_at hl 3 rfl) ?_
                            obtain ⟨hpre, vc⟩ := vc
                            refine wc_V (As := [.int x54, .int x30]) (rest := []) (wr := ([] : va_W)) S (c_Mo_askAll l D b cI cJ cZ mki msz mle mel mme mal mic mil mio mab mae msa mlc mli mna mva mma f55 mre mlv mwr msh mth mnv mns mfa mmo x54 x30 hpre) k_Mo_askAll i_Mo_askAll e_Mo_askAll o_Mo ml_Mo_251 hd_Mo_askAll (Nat.le_trans (by decide) hRf) (Nat.le_trans (by decide) hRl) hRc (va_recv hK hP (q0 := 0) (ci := 6) rfl rfl) hK hP hD hS hA [0, 1, 2, 3, 4, 5, 6, 7, 8, 9, 10, 11, 12, 13, 14, 15, 16, 17, 18, 19, 20, 21, 22] [] rfl rfl rfl (by decide) (by decide) (by decide) hl.1 rfl (Nat.le_of_ble_eq_true rfl) d_Mo_askFrom_104 (fun f59 H locs hu hP hD hS => ?_)
                            have vc := vc f59 hu
                            clear hu
                            have hP : va_P D vwCl (wM b cI cJ cZ mki msz mle mel mme mal mic mil mio mab mae msa mlc mli mna mva mma f59 mre mlv mwr msh mth mnv mns mfa mmo) H := hP
                            have hD : va_D A (wM b cI cJ cZ mki msz mle mel mme mal mic mil mio mab mae msa mlc mli mna mva mma f59 mre mlv mwr msh mth mnv mns mfa mmo) := hD
                            refine lv_iinc (k := 5) (v := x54 + 1) hx hb d_Mo_askFrom_107 hl rfl rfl (by decide) (lv' := [(5, .int (x54 + 1)), (2, .int x58), (0, .ref (b 0)), (1, .int x), (3, .int x30), (4, .int x46)]) rfl (fun ls hl => ?_)
                            refine lv_goto (tgt := 21) hx hb d_Mo_askFrom_110 (by decide) ?_
                            exact ihI56 x58 (x54 + 1) f59 ls H locs vc.1 (Nat.lt_of_lt_of_le vc.2 (Nat.le_of_lt_succ hmI56)) (lv_sub hl [2, 3, 1, 4, 5, 0] rfl) hP hD hS
                          clear vc2
                          refine lv_icmp_le (tgt := 98) hx hb d_Mo_askFrom_80 (by decide) (fun h => ?_) (fun h => ?_)
                          · have vc := vc.1 h
                            refine lv_iload_n hx hb d_Mo_askFrom_98 rfl (lv_at hl 2 rfl) ?_
                            exact jJ57 x53 ls H locs vc (lv_sub hl [0, 1, 2, 3, 4, 5] rfl) hP hD hS
                          · have vc := vc.2 h
                            refine lv_aload_n hx hb d_Mo_askFrom_83 rfl (lv_at hl 0 rfl) ?_
                            refine va_get (D := D) (ci := 6) (v := .ref (b 18)) (C := R_Mo) (T := F_Mo) (N := 27) hx hb hts in_Mo hown hK hP 0 rfl rfl 20 (by decide) (hts _ fl_Mo_63) (fun _ h => h) rfl d_Mo_askFrom_84 ?_
                            refine lv_bipush (v := 40) hx hb d_Mo_askFrom_87 (by decide) ?_
                            refine lv_iload hx hb d_Mo_askFrom_89 (lv_at hl 5 rfl) ?_
                            refine lv_imul hx hb d_Mo_askFrom_91 ?_
                            refine lv_iload_n hx hb d_Mo_askFrom_92 rfl (lv_at hl 3 rfl) ?_
                            refine lv_iadd hx hb d_Mo_askFrom_93 ?_
                            obtain ⟨vcb, vc⟩ := vc
                            refine va_iald hx hb hK hP 18 0 rfl rfl vcb d_Mo_askFrom_94 ?_
                            refine lv_goto (tgt := 99) hx hb d_Mo_askFrom_95 (by decide) ?_
                            exact jJ57 (f55 ((40 * x54) + x30 : Int32).toNatClampNeg) ls H locs vc (lv_sub hl [0, 1, 2, 3, 4, 5] rfl) hP hD hS
              exact lI56 _ x45 0 f47 ls H locs vc0 (Nat.lt_succ_self _) (lv_sub hl [1, 2, 3, 4, 5, 0] rfl) hP hD hS
        exact lI48 _ x29 0 f31 ls H locs vc0 (Nat.lt_succ_self _) (lv_sub hl [1, 2, 3, 4, 0] rfl) hP hD hS
  exact lI32 _ 0 x mch ls H locs vc0 (Nat.lt_succ_self _) (lv_sub hl [2, 3, 1, 0] rfl) hP hD hS
set_option maxHeartbeats 4000000 in
theorem v_Mo_askFrom (mki : Nat → Int32) (msz : Nat → Int64) (mle : Nat → Int32) (mel : Nat → Int32) (mme : Nat → Int32) (mal : Nat → Int32) (mic : Nat → Int32) (mil : Nat → Int32) (mio : Nat → Int32) (mab : Nat → Int32) (mae : Nat → Int32) (msa : Nat → Int32) (mlc : Nat → Int32) (mli : Nat → Int32) (mna : Nat → Int32) (mva : Nat → Int32) (mma : Nat → Int32) (mch : Nat → Int32) (mre : Nat → Int32) (mlv : Nat → Int32) (mwr : Nat → Int64) (msh : Nat → Int32) (mth : Int32) (mnv : Int32) (mns : Int32) (mfa : Int32) (mmo : Int32) (x : Int32) (hpre : (∃ n0 m0 s0 v0 : Nat, mnv = nI n0 ∧ mns = nI m0 ∧ MSOK mki msz mle mel mme mic mio msa mlc mli mna mva n0 m0 ∧ (v0 < n0 ∧ x = nI v0) ∧ OrdOK msa mlc mli mna mre mlv m0 ∧ s0 < 24 ∧ ¬ mre s0 = 0 ∧ ∀ q, q < 960 → mch q = if q = 40 * s0 + v0 then 1 else 0)) : V_Mo_askFrom mki msz mle mel mme mal mic mil mio mab mae msa mlc mli mna mva mma mch mre mlv mwr msh mth mnv mns mfa mmo x (fun v mki' msz' mle' mel' mme' mal' mic' mil' mio' mab' mae' msa' mlc' mli' mna' mva' mma' mch' mre' mlv' mwr' msh' mth' mnv' mns' mfa' mmo' => ((∃ L : Nat, v = nI L ∧ L < 2 ^ 30 ∧ ∀ s0 : Nat, s0 < 24 → ¬ mch (40 * s0 + x.toNatClampNeg) = 0 → AFd (gM mki msz mle mel mme mal mic mil mio mab mae msa mlc mli mna mva mma mnv.toNatClampNeg) s0 x.toNatClampNeg mch' L)) ∧ mki' = mki ∧ msz' = msz ∧ mle' = mle ∧ mel' = mel ∧ mme' = mme ∧ mal' = mal ∧ mic' = mic ∧ mil' = mil ∧ mio' = mio ∧ mab' = mab ∧ mae' = mae ∧ msa' = msa ∧ mlc' = mlc ∧ mli' = mli ∧ mna' = mna ∧ mva' = mva ∧ mma' = mma ∧ mre' = mre ∧ mlv' = mlv ∧ mwr' = mwr ∧ msh' = msh ∧ mth' = mth ∧ mnv' = mnv ∧ mns' = mns ∧ mfa' = mfa ∧ mmo' = mmo) := by
  have main : ∀ post : Int32 → (Nat → Int32) → (Nat → Int64) → (Nat → Int32) → (Nat → Int32) → (Nat → Int32) → (Nat → Int32) → (Nat → Int32) → (Nat → Int32) → (Nat → Int32) → (Nat → Int32) → (Nat → Int32) → (Nat → Int32) → (Nat → Int32) → (Nat → Int32) → (Nat → Int32) → (Nat → Int32) → (Nat → Int32) → (Nat → Int32) → (Nat → Int32) → (Nat → Int32) → (Nat → Int64) → (Nat → Int32) → Int32 → Int32 → Int32 → Int32 → Int32 → Prop, (∀ v mki' msz' mle' mel' mme' mal' mic' mil' mio' mab' mae' msa' mlc' mli' mna' mva' mma' mch' mre' mlv' mwr' msh' mth' mnv' mns' mfa' mmo', (fun v mki' msz' mle' mel' mme' mal' mic' mil' mio' mab' mae' msa' mlc' mli' mna' mva' mma' mch' mre' mlv' mwr' msh' mth' mnv' mns' mfa' mmo' => ((∃ L : Nat, v = nI L ∧ L < 2 ^ 30 ∧ ∀ s0 : Nat, s0 < 24 → ¬ mch (40 * s0 + x.toNatClampNeg) = 0 → AFd (gM mki msz mle mel mme mal mic mil mio mab mae msa mlc mli mna mva mma mnv.toNatClampNeg) s0 x.toNatClampNeg mch' L)) ∧ mki' = mki ∧ msz' = msz ∧ mle' = mle ∧ mel' = mel ∧ mme' = mme ∧ mal' = mal ∧ mic' = mic ∧ mil' = mil ∧ mio' = mio ∧ mab' = mab ∧ mae' = mae ∧ msa' = msa ∧ mlc' = mlc ∧ mli' = mli ∧ mna' = mna ∧ mva' = mva ∧ mma' = mma ∧ mre' = mre ∧ mlv' = mlv ∧ mwr' = mwr ∧ msh' = msh ∧ mth' = mth ∧ mnv' = mnv ∧ mns' = mns ∧ mfa' = mfa ∧ mmo' = mmo) v mki' msz' mle' mel' mme' mal' mic' mil' mio' mab' mae' msa' mlc' mli' mna' mva' mma' mch' mre' mlv' mwr' msh' mth' mnv' mns' mfa' mmo' → post v mki' msz' mle' mel' mme' mal' mic' mil' mio' mab' mae' msa' mlc' mli' mna' mva' mma' mch' mre' mlv' mwr' msh' mth' mnv' mns' mfa' mmo') → V_Mo_askFrom mki msz mle mel mme mal mic mil mio mab mae msa mlc mli mna mva mma mch mre mlv mwr msh mth mnv mns mfa mmo x post := by
    intro post hpost
    unfold V_Mo_askFrom
    obtain ⟨n0, m0, s0, v0, hnv, hns, hS, ⟨hv, rfl⟩, hOrd, hs0, hr0, hch⟩ := hpre
    have hm24 := hS.2.2.1
    have hn40 := hS.1.1
    have cv : (nI v0).toNatClampNeg = v0 := nI_clamp (by omega)
    have cn : mnv.toNatClampNeg = n0 := by rw [hnv]; exact nI_clamp (by omega)
    simp only [cv, cn] at hpost ⊢
    generalize hG : gM mki msz mle mel mme mal mic mil mio mab mae msa mlc mli mna mva mma n0 = G at hpost ⊢
    have hF : ∀ n x w, Dist G s0 v0 n x w → ¬ mre x = 0 ∧ x < 24 ∧ w ≤ v0 ∧ n + mu (lvl mlv) x w ≤ 1 + mu (lvl mlv) s0 v0 := fun n x w hd => by
      rw [← hG] at hd; exact Dist.fact hS hOrd hs0 (by omega) hr0 hd
    have hB : ∀ n x w, Dist G s0 v0 n x w → n < 2 ^ 30 := fun n x w hd => by
      have := (hF n x w hd).2.2.2
      unfold mu at this; omega
    have hA : ∀ s v x w, s < 24 → v < 40 → ¬ mre s = 0 → Ask G s v x w → ¬ mre x = 0 ∧ x < m0 ∧ (w < v ∨ (w = v ∧ lvl mlv s < lvl mlv x)) := fun s v x w h1 h2 h3 h4 => by
      rw [← hG] at h4; exact Ask_later hS hOrd h1 h2 h3 h4
    have lv24 : ∀ t, t < 24 → lvl mlv t ≤ 24 ∧ mlv t = nI (lvl mlv t) := fun t ht => by
      obtain ⟨c, hc, e⟩ := hOrd.2.2.2 t ht
      rw [lvl_nI e (by omega)]; exact ⟨hc, e⟩
    refine ⟨fun xl xv f => ∃ v, v ≤ v0 + 1 ∧ xv = nI v - 1 ∧ AFI G s0 v0 (fun _ w => v ≤ w) f xl, fun _ xv _ => (xv + 1).toInt.toNat, ⟨v0 + 1, Nat.le_refl _, (m1_nI (v0 + 1) (by omega)).symm, ?_⟩, ?_⟩
    · refine ⟨fun x w hx hw => ?_, 0, rfl, by decide, fun n x w hp hd => ?_, fun q => absurd q (Nat.lt_irrefl _)⟩
      · refine ⟨if 40 * x + w = 40 * s0 + v0 then 1 else 0, ?_, ?_, ?_, ?_, ?_⟩
        · rw [hch _ (by omega)]; split <;> rfl
        · split <;> decide
        · intro q
          have e : 40 * x + w = 40 * s0 + v0 := Classical.byContradiction (fun z => by rw [if_neg z] at q; exact absurd q (Nat.lt_irrefl _))
          rw [if_pos e]
          obtain ⟨rfl, rfl⟩ : x = s0 ∧ w = v0 := by omega
          exact Dist.root
        · rintro rfl rfl; rw [if_pos rfl]; exact Nat.le_refl _
        · intro n s v hp hd _
          have := (hF n s v hd).2.2.1; omega
      · have := (hF n x w hd).2.2.1; omega
    rintro xl xv f ⟨v, hv1, rfl, hI⟩
    rw [m1_lt (by omega)]
    refine ⟨fun h => ?_, fun h => ?_⟩
    · obtain ⟨L, e1, e2, e3⟩ := hI.fin (fun n x w _ => by omega)
      refine (hpost _ _ _ _ _ _ _ _ _ _ _ _ _ _ _ _ _ _ _ _ _ _ _ _ _ _ _ _ ⟨⟨L, e1, e2, fun s1 hs1 hz => ?_⟩, rfl, rfl, rfl, rfl, rfl, rfl, rfl, rfl, rfl, rfl, rfl, rfl, rfl, rfl, rfl, rfl, rfl, rfl, rfl, rfl, rfl, rfl, rfl, rfl, rfl, rfl⟩)
      rw [hch _ (by omega)] at hz
      have e : 40 * s1 + v0 = 40 * s0 + v0 := Classical.byContradiction (fun z => hz (if_neg z))
      obtain rfl : s1 = s0 := by omega
      exact e3
    rw [m1_nI v (by omega)]
    have hx1 : nI (v - 1) + (-1) = nI (v - 1) - 1 := by rw [← Int32.sub_eq_add_neg]
    have mu1 : (nI (v - 1) - 1 + 1).toInt.toNat < (nI (v - 1) + 1).toInt.toNat := by
      rw [Int32.sub_add_cancel, nI_1, nI_toInt (by omega), nI_toInt (by omega)]; omega
    rw [hx1]
    refine ⟨fun xl xq f => ∃ q, q ≤ 27 ∧ xq = nI q ∧ AFI G s0 v0 (fun x w => v ≤ w ∨ (w = v - 1 ∧ lvl mlv x < q)) f xl, fun _ xq _ => 27 - xq.toInt.toNat, ⟨0, Nat.zero_le _, rfl, hI.skip (fun _ _ _ _ z => z.elim id (fun z => absurd z.2 (Nat.not_lt_zero _)))⟩, ?_⟩
    rintro xl2 xq f2 ⟨q, hq, rfl, hI2⟩
    refine ⟨fun h2 => ?_, fun h2 => ?_⟩
    · obtain rfl := (fill_end (N := 27) h2 (by omega) hq).symm
      refine ⟨⟨v - 1, by omega, rfl, hI2.skip (fun n x w hd z => ?_)⟩, mu1⟩
      have := (lv24 x (hF n x w hd).2.1).1
      rcases Nat.lt_or_ge w v with y | y
      · exact Or.inr ⟨by omega, by omega⟩
      · exact Or.inl y
    have hq2 := fill_step (N := 27) h2 (by omega) hq
    have mu2 := fill_mu (N := 27) hq2 (by omega)
    refine ⟨fun xl xs f => ∃ s, s ≤ m0 ∧ xs = nI s ∧ AFI G s0 v0 (fun x w => v ≤ w ∨ (w = v - 1 ∧ (lvl mlv x < q ∨ (lvl mlv x = q ∧ x < s)))) f xl, fun _ xs _ => m0 - xs.toInt.toNat, ⟨0, Nat.zero_le _, rfl, hI2.skip (fun _ _ _ _ z => z.imp_right (fun z => ⟨z.1, z.2.elim id (fun z => absurd z.2 (Nat.not_lt_zero _))⟩))⟩, ?_⟩
    rintro xl3 xs f3 ⟨s, hs, rfl, hI3⟩
    have hns3 : mns ≤ nI s ↔ nI m0 ≤ nI s := by rw [hns]
    rw [hns3]
    refine ⟨fun h3 => ?_, fun h3 => ?_⟩
    · obtain rfl := (fill_end (N := m0) h3 (by omega) hs).symm
      refine ⟨⟨q + 1, hq2, nI_1 q, hI3.skip (fun n x w hd z => z.imp_right (fun z => ⟨z.1, ?_⟩))⟩, mu2⟩
      rcases Nat.lt_or_ge (lvl mlv x) q with y | y
      · exact Or.inl y
      · exact Or.inr ⟨by omega, hOrd.1 x (hF n x w hd).2.1 (hF n x w hd).1⟩
    have hs2 := fill_step (N := m0) h3 (by omega) hs
    have mu3 := fill_mu (N := m0) hs2 (by omega)
    have cs : (nI s).toNatClampNeg = s := nI_clamp (by omega)
    have vs : vp_in (nI s) 24 := vp_in_nI (by omega) (by decide)
    rw [cs]
    have hlv : mlv s = nI q ↔ lvl mlv s = q := by
      rw [(lv24 s (by omega)).2, nI_eq (by have := (lv24 s (by omega)).1; omega) (by omega)]
    rw [hlv]
    have keep : (∀ n, Dist G s0 v0 n s (v - 1) → ¬ lvl mlv s = q) → AFI G s0 v0 (fun x w => v ≤ w ∨ (w = v - 1 ∧ (lvl mlv x < q ∨ (lvl mlv x = q ∧ x < s + 1)))) f3 xl3 := fun hno => hI3.skip (fun n x w hd z => z.imp_right (fun z => ⟨z.1, z.2.imp_right (fun z2 => ⟨z2.1, by
      by_cases e : x = s
      · subst e; obtain ⟨rfl, _⟩ := z; exact absurd z2.1 (hno n hd)
      · omega⟩)⟩))
    · refine ⟨vs, fun h4 => ⟨⟨s + 1, hs2, nI_1 s, keep (fun n hd => absurd h4 (hF n _ _ hd).1)⟩, mu3⟩, fun h4 => ⟨vs, fun h5 => ⟨⟨s + 1, hs2, nI_1 s, keep (fun _ _ => h5)⟩, mu3⟩, fun h5 => ?_⟩⟩
      have v9 : vp_in (40 * nI s + nI (v - 1)) 960 := by rw [jx40]; exact vp_in_nI (by omega) (by decide)
      have c4 : (40 * nI s + nI (v - 1) : Int32).toNatClampNeg = 40 * s + (v - 1) := by rw [jx40, nI_clamp (by omega)]
      have cvv : (nI (v - 1)).toNatClampNeg = v - 1 := nI_clamp (by omega)
      rw [c4]
      obtain ⟨e, e1, e2, e3, e4⟩ := hI3.here (s := s) (v := v - 1) (by omega) (by omega) (fun n x w hd ha => by
        obtain ⟨a1, a2, a3, _⟩ := hF n x w hd
        obtain ⟨_, _, b⟩ := hA x w _ _ a2 (by omega) a1 ha
        rcases b with b | ⟨b1, b2⟩
        · exact Or.inl (by omega)
        · exact Or.inr ⟨b1.symm, Or.inl (by omega)⟩)
      have hz : f3 (40 * s + (v - 1)) ≤ 0 ↔ e = 0 := by rw [e1, show (0 : Int32) = nI 0 from rfl, nI_leI (by omega) (by decide)]; omega
      rw [hz]
      refine ⟨v9, fun h6 => ⟨⟨s + 1, hs2, nI_1 s, keep (fun n hd => ?_)⟩, mu3⟩, fun h6 => ⟨v9, fun z => (nI e ≤ xl3 ∧ z = xl3) ∨ (¬ nI e ≤ xl3 ∧ z = nI e), ⟨fun h7 => Or.inl ⟨by rw [← e1]; exact h7, rfl⟩, fun h7 => ⟨v9, Or.inr ⟨by rw [← e1]; exact h7, e1⟩⟩⟩, fun z hz => ⟨⟨n0, m0, s, v - 1, hnv, hns, hS, ⟨hs2, by omega, rfl, rfl⟩, fun p hp => ?_⟩, fun f4 hpd => ⟨⟨s + 1, hs2, nI_1 s, ?_⟩, mu3⟩⟩⟩⟩
      · have := e4 n hd; have := hd.pos; omega
      · obtain ⟨c, c1, c2, _⟩ := hI3.1 (p / 40) (p % 40) (by omega) (by omega)
        rw [show 40 * (p / 40) + p % 40 = p by omega] at c1
        exact ⟨c, c2, c1⟩
      · have hall : ∀ p, p < 960 → ∃ e, e < 2 ^ 30 ∧ f3 p = nI e := fun p hp => by
          obtain ⟨c, c1, c2, _⟩ := hI3.1 (p / 40) (p % 40) (by omega) (by omega)
          rw [show 40 * (p / 40) + p % 40 = p by omega] at c1
          exact ⟨c, c2, c1⟩
        rw [cvv] at hpd
        have hak := hpd G rfl e e1 e2 hall
        refine hI3.step (by omega) (by omega) hB e1 (by omega) (e3 (by omega)) e4 hak hz (fun x w zz => ?_)
        rcases zz with zz | ⟨z1, z2 | ⟨z2, z3⟩⟩
        · exact Or.inl (Or.inl zz)
        · exact Or.inl (Or.inr ⟨z1, Or.inl z2⟩)
        · by_cases ee : x = s
          · exact Or.inr ⟨ee, z1⟩
          · exact Or.inl (Or.inr ⟨z1, Or.inr ⟨z2, by omega⟩⟩)
  exact main _ (fun _ _ _ _ _ _ _ _ _ _ _ _ _ _ _ _ _ _ _ _ _ _ _ _ _ _ _ _ h => h)
theorem c_Mo_askFrom (l : Launch) (D : va_G) (b : Nat → Nat) (cI cJ cZ : ClassId) (mki : Nat → Int32) (msz : Nat → Int64) (mle : Nat → Int32) (mel : Nat → Int32) (mme : Nat → Int32) (mal : Nat → Int32) (mic : Nat → Int32) (mil : Nat → Int32) (mio : Nat → Int32) (mab : Nat → Int32) (mae : Nat → Int32) (msa : Nat → Int32) (mlc : Nat → Int32) (mli : Nat → Int32) (mna : Nat → Int32) (mva : Nat → Int32) (mma : Nat → Int32) (mch : Nat → Int32) (mre : Nat → Int32) (mlv : Nat → Int32) (mwr : Nat → Int64) (msh : Nat → Int32) (mth : Int32) (mnv : Int32) (mns : Int32) (mfa : Int32) (mmo : Int32) (x : Int32) (hpre : (∃ n0 m0 s0 v0 : Nat, mnv = nI n0 ∧ mns = nI m0 ∧ MSOK mki msz mle mel mme mic mio msa mlc mli mna mva n0 m0 ∧ (v0 < n0 ∧ x = nI v0) ∧ OrdOK msa mlc mli mna mre mlv m0 ∧ s0 < 24 ∧ ¬ mre s0 = 0 ∧ ∀ q, q < 960 → mch q = if q = 40 * s0 + v0 then 1 else 0)) : Wm (S := Int32 × (Nat → Int32)) l y_Mo_askFrom b_Mo_askFrom 6 (some .int) 5 121 [.ref (b 0), .int x] D (tyA cI cJ cZ) (wM b cI cJ cZ mki msz mle mel mme mal mic mil mio mab mae msa mlc mli mna mva mma mch mre mlv mwr msh mth mnv mns mfa mmo) (fun uu => (∃ L : Nat, uu.1 = nI L ∧ L < 2 ^ 30 ∧ ∀ s0 : Nat, s0 < 24 → ¬ mch (40 * s0 + x.toNatClampNeg) = 0 → AFd (gM mki msz mle mel mme mal mic mil mio mab mae msa mlc mli mna mva mma mnv.toNatClampNeg) s0 x.toNatClampNeg uu.2 L)) (fun uu => some (.int (uu.1))) (fun uu => (wM b cI cJ cZ mki msz mle mel mme mal mic mil mio mab mae msa mlc mli mna mva mma uu.2 mre mlv mwr msh mth mnv mns mfa mmo)) :=
  wm_i (by decide) (fun _ _ => rfl) (Nat.le_of_ble_eq_true rfl) (fun p e s m below meth c ls Q A S hK hP hD hA hS hl hret => g_Mo_askFrom S (Nat.le_refl _) (Nat.le_refl _) ⟨Nat.le_refl _, Nat.le_refl _⟩ D b cI cJ cZ mki msz mle mel mme mal mic mil mio mab mae msa mlc mli mna mva mma mch mre mlv mwr msh mth mnv mns mfa mmo x hK hP hD hA hS hl (v_Mo_askFrom mki msz mle mel mme mal mic mil mio mab mae msa mlc mli mna mva mma mch mre mlv mwr msh mth mnv mns mfa mmo x hpre) (fun v mki' msz' mle' mel' mme' mal' mic' mil' mio' mab' mae' msa' mlc' mli' mna' mva' mma' mch' mre' mlv' mwr' msh' mth' mnv' mns' mfa' mmo' ls1 pc H1 locs1 hd hv hP1 hD1 hS1 => by obtain ⟨hp, rfl, rfl, rfl, rfl, rfl, rfl, rfl, rfl, rfl, rfl, rfl, rfl, rfl, rfl, rfl, rfl, rfl, rfl, rfl, rfl, rfl, rfl, rfl, rfl, rfl, rfl⟩ := hv; exact hret (v, mch') _ ls1 pc H1 locs1 hd hp rfl hP1 hD1 hS1))
theorem hd_Mo_askFrom : y_Mo_askFrom.cls ≠ "java/lang/invoke/MethodHandle" ∧ y_Mo_askFrom.cls ≠ "java/lang/invoke/VarHandle" ∧ (parseMethodDescriptor y_Mo_askFrom.desc).map (fun d => d.parameters.length) = some 1 := ⟨by decide, by decide, by decide +kernel⟩
