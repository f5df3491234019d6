/-! ===== judging in the model: the ground ===== -/
def MVOK (mki : Nat → Int32) (msz : Nat → Int64) (mle mel mme : Nat → Int32) (n : Nat) : Prop :=
  n ≤ 40 ∧ (∀ j, j < 320 → vp_in (mel j) 40) ∧ ∀ v, v < 40 → (∃ k, k < 6 ∧ mki v = nI k) ∧ (∃ L, L ≤ 8 ∧ mle v = nI L) ∧ (∀ i, i < (mle v).toNatClampNeg → ∃ p, p < v ∧ mel (8 * v + i) = nI p) ∧ (∀ i, i < 12 → okx (mme (12 * v + i)) v) ∧ (mki v = 3 → ∃ t, t < 2 ^ 31 ∧ told 8 t = true ∧ msz v = (nI t).toInt64)
def MSOK (mki : Nat → Int32) (msz : Nat → Int64) (mle mel mme mic mio msa mlc mli mna mva : Nat → Int32) (n m : Nat) : Prop :=
  MVOK mki msz mle mel mme n ∧ POK mic mio ∧ m ≤ 24 ∧ LeOK mlc ∧ LdOK msa mlc mli mna m ∧ (∀ s k, s < 24 → (k < 17 ∨ k = 24 ∨ k = 25) → okk mki msz n k (msa (s * 29 + k))) ∧ (∀ s i, s < 24 → i < 12 → mna ((s * 3 + 2) * 12 + i) = -1 ∨ ∃ q, q < 4096 ∧ mna ((s * 3 + 2) * 12 + i) = nI q) ∧ (∀ s k i, s < 24 → k < 4 → i < (mlc (s * 4 + k)).toNatClampNeg → ∃ q, q < m ∧ mli ((s * 4 + k) * 3 + i) = nI q) ∧ ∀ j, j < 960 → mva j = 0 ∨ mva j = 1
def mpb (mki mle mme : Nat → Int32) (v i : Nat) : Prop := i < 12 ∧ v < 40 ∧ ((mki v = 4 ∧ i < (mle v).toNatClampNeg) ∨ (mki v = 5 ∧ ¬ mme (12 * v + i) < 0))
def mpt (mki mle mel mme : Nat → Int32) (v i : Nat) : Nat := if i < 12 ∧ v < 40 ∧ mki v = 4 ∧ i < (mle v).toNatClampNeg then (mel (8 * v + i)).toNatClampNeg else if i < 12 ∧ v < 40 ∧ mki v = 5 ∧ ¬ mme (12 * v + i) < 0 then (mme (12 * v + i)).toNatClampNeg else 0
theorem mpb_r {mki mle mme : Nat → Int32} {v : Nat} (hv : v < 40) (h : mki v = 4) (hL : (mle v).toNatClampNeg ≤ 8) (i : Nat) : mpb mki mle mme v i ↔ i < (mle v).toNatClampNeg := by
  unfold mpb
  constructor
  · rintro ⟨_, _, q | q⟩
    · exact q.2
    · rw [h] at q; exact absurd q.1 (by decide)
  · intro q; exact ⟨by omega, hv, Or.inl ⟨h, q⟩⟩
theorem mpt_r {mki mle mel mme : Nat → Int32} {v : Nat} (hv : v < 40) (h : mki v = 4) (hL : (mle v).toNatClampNeg ≤ 8) {i : Nat} (hi : i < (mle v).toNatClampNeg) : mpt mki mle mel mme v i = (mel (8 * v + i)).toNatClampNeg := if_pos ⟨by omega, hv, h, hi⟩
theorem mpb_m {mki mle mme : Nat → Int32} {v : Nat} (hv : v < 40) (h : mki v = 5) {i : Nat} (hi : i < 12) : mpb mki mle mme v i ↔ ¬ mme (12 * v + i) < 0 := by
  unfold mpb
  constructor
  · rintro ⟨_, _, q | q⟩
    · rw [h] at q; exact absurd q.1 (by decide)
    · exact q.2
  · intro q; exact ⟨hi, hv, Or.inr ⟨h, q⟩⟩
theorem mpt_m {mki mle mel mme : Nat → Int32} {v : Nat} (hv : v < 40) (h : mki v = 5) {i : Nat} (hi : i < 12) (hm : ¬ mme (12 * v + i) < 0) : mpt mki mle mel mme v i = (mme (12 * v + i)).toNatClampNeg := by
  unfold mpt
  rw [if_neg (fun q => by rw [h] at q; exact absurd q.2.2.1 (by decide)), if_pos ⟨hi, hv, h, hm⟩]
theorem mpb_k {mki mle mme : Nat → Int32} {v i : Nat} (h : mpb mki mle mme v i) : mki v = 4 ∨ mki v = 5 := by
  rcases h.2.2 with q | q
  · exact Or.inl q.1
  · exact Or.inr q.1
def gM (mki : Nat → Int32) (msz : Nat → Int64) (mle mel mme mal mic mil mio mab mae msa mlc mli mna mva mma : Nat → Int32) (n : Nat) : Sp :=
  (mki, mpb mki mle mme, mpt mki mle mel mme, msa, mlc, mli, mna, fun s v k => s < 24 → v < n → k < 17 → ¬ msa (s * 29 + k) < 0 → plS mki msz (mpb mki mle mme) (mpt mki mle mel mme) mal mic mil mio mab mae k v (msa (s * 29 + k)), fun s v => ¬ mva (40 * s + v) = 0, fun s v i => ¬ mva (40 * s + v) = 0 ∧ bt (mma (40 * s + v)) i = true)
theorem gM_eq {mki : Nat → Int32} {msz : Nat → Int64} {mle mel mme mal mic mil mio mab mae msa mlc mli mna mva mma : Nat → Int32} {n : Nat} {G : Sp} (h : G = gM mki msz mle mel mme mal mic mil mio mab mae msa mlc mli mna mva mma n) :
    gK G = mki ∧ gPb G = mpb mki mle mme ∧ gPt G = mpt mki mle mel mme ∧ gRu G = msa ∧ gLe G = mlc ∧ gLi G = mli ∧ gBn G = mna ∧ gPL G = (fun s v k => s < 24 → v < n → k < 17 → ¬ msa (s * 29 + k) < 0 → plS mki msz (mpb mki mle mme) (mpt mki mle mel mme) mal mic mil mio mab mae k v (msa (s * 29 + k))) ∧ gVa G = (fun s v => ¬ mva (40 * s + v) = 0) ∧ gMk G = fun s v i => ¬ mva (40 * s + v) = 0 ∧ bt (mma (40 * s + v)) i = true := by
  subst h; exact ⟨rfl, rfl, rfl, rfl, rfl, rfl, rfl, rfl, rfl, rfl⟩
theorem lN_le0 {z : Nat} (h : z < 2 ^ 63) : lN z ≤ 0 ↔ z = 0 := by
  rw [show (0 : Int64) = lN 0 from rfl, pk_lLE h (by decide)]; omega
theorem lN_mu {z : Nat} (h : z < 2 ^ 31) (h1 : ¬ z = 0) : (lN (z / 5)).toInt.toNat < (lN z).toInt.toNat := by
  rw [pk_lT (by omega), pk_lT (by omega)]; omega
theorem jx40 {s v : Nat} : 40 * nI s + nI v = nI (40 * s + v) := by rw [nI_mulL, nI_add]
theorem jx12v {v i : Nat} : 12 * nI v + nI i = nI (12 * v + i) := by rw [nI_mulL, nI_add]
theorem jx8v {v i : Nat} : 8 * nI v + nI i = nI (8 * v + i) := by rw [nI_mulL, nI_add]
theorem ite5 {mki mme : Nat → Int32} {v i : Nat} : (if mki v = 5 then mme (12 * v + i) else -1) < 0 ↔ ¬ (mki v = 5 ∧ ¬ mme (12 * v + i) < 0) := by
  by_cases h : mki v = 5
  · rw [if_pos h]; exact ⟨fun q w => w.2 q, fun q => Classical.byContradiction (fun w => q ⟨h, w⟩)⟩
  · rw [if_neg h]; exact ⟨fun _ w => h w.1, fun _ => neg1_lt⟩
def V_Mo_isValid (mki : Nat → Int32) (msz : Nat → Int64) (mle : Nat → Int32) (mel : Nat → Int32) (mme : Nat → Int32) (mal : Nat → Int32) (mic : Nat → Int32) (mil : Nat → Int32) (mio : Nat → Int32) (mab : Nat → Int32) (mae : Nat → Int32) (msa : Nat → Int32) (mlc : Nat → Int32) (mli : Nat → Int32) (mna : Nat → Int32) (mva : Nat → Int32) (mma : Nat → Int32) (mch : Nat → Int32) (mre : Nat → Int32) (mlv : Nat → Int32) (mwr : Nat → Int64) (msh : Nat → Int32) (mth : Int32) (mnv : Int32) (mns : Int32) (mfa : Int32) (mmo : Int32) (x : Int32) (y : Int32) (post : Int32 → Prop) : Prop :=
  (vp_in ((40 * x) + y) 960 ∧ post (mva ((40 * x) + y : Int32).toNatClampNeg))
set_option maxHeartbeats 4000000 in
set_option maxRecDepth 100000 in
theorem g_Mo_isValid {p : Program} {l : Launch} {e : Env} {R : Room} {s : State} {m : MethodId} {args : Array Value} {below : List Frame} {meth : Method} {c : Code} {H : Heap} {locs : List Loc} {cells slots : Nat} {Q : State → Prop} {ls : Array Slot} (S : CallFix p m c b_Mo_isValid 3 s args W0 R_Mo) (hRf : 0 ≤ R.frames) (hRl : 0 ≤ R.locals) (hRc : cells ≤ R.cells ∧ slots ≤ R.slots) (D : va_G) (b : Nat → Nat) (cI cJ cZ : ClassId) (mki : Nat → Int32) (msz : Nat → Int64) (mle : Nat → Int32) (mel : Nat → Int32) (mme : Nat → Int32) (mal : Nat → Int32) (mic : Nat → Int32) (mil : Nat → Int32) (mio : Nat → Int32) (mab : Nat → Int32) (mae : Nat → Int32) (msa : Nat → Int32) (mlc : Nat → Int32) (mli : Nat → Int32) (mna : Nat → Int32) (mva : Nat → Int32) (mma : Nat → Int32) (mch : Nat → Int32) (mre : Nat → Int32) (mlv : Nat → Int32) (mwr : Nat → Int64) (msh : Nat → Int32) (mth : Int32) (mnv : Int32) (mns : Int32) (mfa : Int32) (mmo : Int32) (x : Int32) (y : Int32) (hK : va_K D vwCl (tyA cI cJ cZ) s) (hP : va_P D vwCl (wM b cI cJ cZ mki msz mle mel mme mal mic mil mio mab mae msa mlc mli mna mva mma mch mre mlv mwr msh mth mnv mns mfa mmo) H) (hl : lv_has ls 3 [(0, .ref (b 0)), (1, .int x), (2, .int y)]) {post : Int32 → Prop} (vc : V_Mo_isValid mki msz mle mel mme mal mic mil mio mab mae msa mlc mli mna mva mma mch mre mlv mwr msh mth mnv mns mfa mmo x y post)
    (hret : ∀ (v : Int32) (ls : Array Slot) (pc : Nat), decode b_Mo_isValid pc = .ok (.ireturn, 1) → post v → W p l e R s m args below meth c H locs cells slots Q (F0 m pc ls [.int v])) : W p l e R s m args below meth c H locs cells slots Q (F0 m 0 ls []) := by
  have hx := S.1
  have hb := S.2.1
  have hown := S.2.2.2.1
  have hts := S.2.2.2.2
  unfold V_Mo_isValid at vc
  refine lv_aload_n hx hb d_Mo_isValid_0 rfl (lv_at hl 0 rfl) ?_
  refine va_get (D := D) (ci := 6) (v := .ref (b 16)) (C := R_Mo) (T := F_Mo) (N := 27) hx hb hts in_Mo hown hK hP 0 rfl rfl 18 (by decide) (hts _ fl_Mo_57) (fun _ h => h) rfl d_Mo_isValid_1 ?_
  refine lv_bipush (v := 40) hx hb d_Mo_isValid_4 (by decide) ?_
  refine lv_iload_n hx hb d_Mo_isValid_6 rfl (lv_at hl 1 rfl) ?_
  refine lv_imul hx hb d_Mo_isValid_7 ?_
  refine lv_iload_n hx hb d_Mo_isValid_8 rfl (lv_at hl 2 rfl) ?_
  refine lv_iadd hx hb d_Mo_isValid_9 ?_
  obtain ⟨vcb, vc⟩ := vc
  refine va_zald hx hb hK hP 16 2 rfl rfl vcb d_Mo_isValid_10 ?_
  exact hret _ ls _ d_Mo_isValid_11 vc
theorem h_Mo_isValid (l : Launch) (D : va_G) (b : Nat → Nat) (cI cJ cZ : ClassId) (mki : Nat → Int32) (msz : Nat → Int64) (mle : Nat → Int32) (mel : Nat → Int32) (mme : Nat → Int32) (mal : Nat → Int32) (mic : Nat → Int32) (mil : Nat → Int32) (mio : Nat → Int32) (mab : Nat → Int32) (mae : Nat → Int32) (msa : Nat → Int32) (mlc : Nat → Int32) (mli : Nat → Int32) (mna : Nat → Int32) (mva : Nat → Int32) (mma : Nat → Int32) (mch : Nat → Int32) (mre : Nat → Int32) (mlv : Nat → Int32) (mwr : Nat → Int64) (msh : Nat → Int32) (mth : Int32) (mnv : Int32) (mns : Int32) (mfa : Int32) (mmo : Int32) (x : Int32) (y : Int32) (r : Int32) (hr : narrow .boolean (.int r) = .int r) (vc : V_Mo_isValid mki msz mle mel mme mal mic mil mio mab mae msa mlc mli mna mva mma mch mre mlv mwr msh mth mnv mns mfa mmo x y (fun v => v = r)) : Pm l y_Mo_isValid b_Mo_isValid 3 (some .boolean) 0 0 [.ref (b 0), .int x, .int y] (wB D (tyA cI cJ cZ) (wM b cI cJ cZ mki msz mle mel mme mal mic mil mio mab mae msa mlc mli mna mva mma mch mre mlv mwr msh mth mnv mns mfa mmo)) (.int r) :=
  pm_i (by decide) hr (Nat.le_of_ble_eq_true rfl) (fun p e s m below meth c ls Q S hB hl hret => g_Mo_isValid S (Nat.le_refl _) (Nat.le_refl _) ⟨Nat.le_refl _, Nat.le_refl _⟩ D b cI cJ cZ mki msz mle mel mme mal mic mil mio mab mae msa mlc mli mna mva mma mch mre mlv mwr msh mth mnv mns mfa mmo x y hB.2 hB.1 hl vc hret)
theorem c_Mo_isValid (l : Launch) (D : va_G) (b : Nat → Nat) (cI cJ cZ : ClassId) (mki : Nat → Int32) (msz : Nat → Int64) (mle : Nat → Int32) (mel : Nat → Int32) (mme : Nat → Int32) (mal : Nat → Int32) (mic : Nat → Int32) (mil : Nat → Int32) (mio : Nat → Int32) (mab : Nat → Int32) (mae : Nat → Int32) (msa : Nat → Int32) (mlc : Nat → Int32) (mli : Nat → Int32) (mna : Nat → Int32) (mva : Nat → Int32) (mma : Nat → Int32) (mch : Nat → Int32) (mre : Nat → Int32) (mlv : Nat → Int32) (mwr : Nat → Int64) (msh : Nat → Int32) (mth : Int32) (mnv : Int32) (mns : Int32) (mfa : Int32) (mmo : Int32) (x : Int32) (y : Int32) (hpre : (vp_in (40 * x + y) 960 ∧ (mva (40 * x + y : Int32).toNatClampNeg = 0 ∨ mva (40 * x + y : Int32).toNatClampNeg = 1))) : Pm l y_Mo_isValid b_Mo_isValid 3 (some .boolean) 0 0 [.ref (b 0), .int x, .int y] (wB D (tyA cI cJ cZ) (wM b cI cJ cZ mki msz mle mel mme mal mic mil mio mab mae msa mlc mli mna mva mma mch mre mlv mwr msh mth mnv mns mfa mmo)) (.int (bI (decide (¬ mva (40 * x + y : Int32).toNatClampNeg = 0)))) := h_Mo_isValid l D b cI cJ cZ mki msz mle mel mme mal mic mil mio mab mae msa mlc mli mna mva mma mch mre mlv mwr msh mth mnv mns mfa mmo x y _ (bI_nar _) (by
  unfold V_Mo_isValid
  refine ⟨hpre.1, ?_⟩
  rcases hpre.2 with h | h <;> rw [h] <;> decide)
theorem hd_Mo_isValid : y_Mo_isValid.cls ≠ "java/lang/invoke/MethodHandle" ∧ y_Mo_isValid.cls ≠ "java/lang/invoke/VarHandle" ∧ (parseMethodDescriptor y_Mo_isValid.desc).map (fun d => d.parameters.length) = some 2 := ⟨by decide, by decide, by decide +kernel⟩
def V_Mo_memberBits (mki : Nat → Int32) (msz : Nat → Int64) (mle : Nat → Int32) (mel : Nat → Int32) (mme : Nat → Int32) (mal : Nat → Int32) (mic : Nat → Int32) (mil : Nat → Int32) (mio : Nat → Int32) (mab : Nat → Int32) (mae : Nat → Int32) (msa : Nat → Int32) (mlc : Nat → Int32) (mli : Nat → Int32) (mna : Nat → Int32) (mva : Nat → Int32) (mma : Nat → Int32) (mch : Nat → Int32) (mre : Nat → Int32) (mlv : Nat → Int32) (mwr : Nat → Int64) (msh : Nat → Int32) (mth : Int32) (mnv : Int32) (mns : Int32) (mfa : Int32) (mmo : Int32) (x : Int32) (post : Int32 → (Nat → Int32) → (Nat → Int64) → (Nat → Int32) → (Nat → Int32) → (Nat → Int32) → (Nat → Int32) → (Nat → Int32) → (Nat → Int32) → (Nat → Int32) → (Nat → Int32) → (Nat → Int32) → (Nat → Int32) → (Nat → Int32) → (Nat → Int32) → (Nat → Int32) → (Nat → Int32) → (Nat → Int32) → (Nat → Int32) → (Nat → Int32) → (Nat → Int32) → (Nat → Int64) → (Nat → Int32) → Int32 → Int32 → Int32 → Int32 → Int32 → Prop) : Prop :=
  (∃ (I4 : Int32 → Int32 → Prop) (mI4 : Int32 → Int32 → Nat), I4 0 0 ∧ (∀ (x2 : Int32) (x3 : Int32), I4 x2 x3 → ((12 ≤ x3 → post x2 mki msz mle mel mme mal mic mil mio mab mae msa mlc mli mna mva mma mch mre mlv mwr msh mth mnv mns mfa mmo) ∧ (¬ 12 ≤ x3 → ((vp_in x 40 ∧ vp_in (12 * x + x3) 480) ∧ (((if mki x.toNatClampNeg = 5 then mme (12 * x + x3 : Int32).toNatClampNeg else -1) < 0 → (I4 x2 (x3 + 1) ∧ mI4 x2 (x3 + 1) < mI4 x2 x3)) ∧ (¬ (if mki x.toNatClampNeg = 5 then mme (12 * x + x3 : Int32).toNatClampNeg else -1) < 0 → (I4 (x2 ||| (1 <<< (x3 &&& 31))) (x3 + 1) ∧ mI4 (x2 ||| (1 <<< (x3 &&& 31))) (x3 + 1) < mI4 x2 x3))))))))
set_option maxHeartbeats 4000000 in
set_option maxRecDepth 100000 in
theorem g_Mo_memberBits {p : Program} {l : Launch} {e : Env} {R : Room} {s : State} {m : MethodId} {args : Array Value} {below : List Frame} {meth : Method} {c : Code} {H : Heap} {locs : List Loc} {cells slots : Nat} {Q : State → Prop} {ls : Array Slot} {A : Nat → Prop} (S : CallFix p m c b_Mo_memberBits 4 s args W0 R_Mo) (hRf : 1 ≤ R.frames) (hRl : 22 ≤ R.locals) (hRc : cells ≤ R.cells ∧ slots ≤ R.slots) (D : va_G) (b : Nat → Nat) (cI cJ cZ : ClassId) (mki : Nat → Int32) (msz : Nat → Int64) (mle : Nat → Int32) (mel : Nat → Int32) (mme : Nat → Int32) (mal : Nat → Int32) (mic : Nat → Int32) (mil : Nat → Int32) (mio : Nat → Int32) (mab : Nat → Int32) (mae : Nat → Int32) (msa : Nat → Int32) (mlc : Nat → Int32) (mli : Nat → Int32) (mna : Nat → Int32) (mva : Nat → Int32) (mma : Nat → Int32) (mch : Nat → Int32) (mre : Nat → Int32) (mlv : Nat → Int32) (mwr : Nat → Int64) (msh : Nat → Int32) (mth : Int32) (mnv : Int32) (mns : Int32) (mfa : Int32) (mmo : Int32) (x : Int32) (hK : va_K D vwCl (tyA cI cJ cZ) s) (hP : va_P D vwCl (wM b cI cJ cZ mki msz mle mel mme mal mic mil mio mab mae msa mlc mli mna mva mma mch mre mlv mwr msh mth mnv mns mfa mmo) H) (hD : va_D A (wM b cI cJ cZ mki msz mle mel mme mal mic mil mio mab mae msa mlc mli mna mva mma mch mre mlv mwr msh mth mnv mns mfa mmo)) (hA : ∀ q, s.heap.size ≤ q → A q) (hS : va_S A s.heap H locs) (hl : lv_has ls 4 [(0, .ref (b 0)), (1, .int x)]) {post : Int32 → (Nat → Int32) → (Nat → Int64) → (Nat → Int32) → (Nat → Int32) → (Nat → Int32) → (Nat → Int32) → (Nat → Int32) → (Nat → Int32) → (Nat → Int32) → (Nat → Int32) → (Nat → Int32) → (Nat → Int32) → (Nat → Int32) → (Nat → Int32) → (Nat → Int32) → (Nat → Int32) → (Nat → Int32) → (Nat → Int32) → (Nat → Int32) → (Nat → Int32) → (Nat → Int64) → (Nat → Int32) → Int32 → Int32 → Int32 → Int32 → Int32 → Prop} (vc : V_Mo_memberBits mki msz mle mel mme mal mic mil mio mab mae msa mlc mli mna mva mma mch mre mlv mwr msh mth mnv mns mfa mmo x post)
    (hret : ∀ (v : Int32) (mki : Nat → Int32) (msz : Nat → Int64) (mle : Nat → Int32) (mel : Nat → Int32) (mme : Nat → Int32) (mal : Nat → Int32) (mic : Nat → Int32) (mil : Nat → Int32) (mio : Nat → Int32) (mab : Nat → Int32) (mae : Nat → Int32) (msa : Nat → Int32) (mlc : Nat → Int32) (mli : Nat → Int32) (mna : Nat → Int32) (mva : Nat → Int32) (mma : Nat → Int32) (mch : Nat → Int32) (mre : Nat → Int32) (mlv : Nat → Int32) (mwr : Nat → Int64) (msh : Nat → Int32) (mth : Int32) (mnv : Int32) (mns : Int32) (mfa : Int32) (mmo : Int32) (ls : Array Slot) (pc : Nat) (H : Heap) (locs : List Loc), decode b_Mo_memberBits pc = .ok (.ireturn, 1) → post v mki msz mle mel mme mal mic mil mio mab mae msa mlc mli mna mva mma mch mre mlv mwr msh mth mnv mns mfa mmo → va_P D vwCl (wM b cI cJ cZ mki msz mle mel mme mal mic mil mio mab mae msa mlc mli mna mva mma mch mre mlv mwr msh mth mnv mns mfa mmo) H → va_D A (wM b cI cJ cZ mki msz mle mel mme mal mic mil mio mab mae msa mlc mli mna mva mma mch mre mlv mwr msh mth mnv mns mfa mmo) → va_S A s.heap H locs → W p l e R s m args below meth c H locs cells slots Q (F0 m pc ls [.int v])) : W p l e R s m args below meth c H locs cells slots Q (F0 m 0 ls []) := by
  have hx := S.1
  have hb := S.2.1
  have hown := S.2.2.2.1
  have hts := S.2.2.2.2
  unfold V_Mo_memberBits at vc
  refine lv_iconst (v := 0) hx hb d_Mo_memberBits_0 (by decide) ?_
  refine lv_istore_n hx hb d_Mo_memberBits_1 rfl hl (by decide) (lv' := [(2, .int 0), (0, .ref (b 0)), (1, .int x)]) rfl (fun ls hl => ?_)
  refine lv_iconst (v := 0) hx hb d_Mo_memberBits_2 (by decide) ?_
  refine lv_istore_n hx hb d_Mo_memberBits_3 rfl hl (by decide) (lv' := [(3, .int 0), (2, .int 0), (0, .ref (b 0)), (1, .int x)]) rfl (fun ls hl => ?_)
  obtain ⟨I4, mI4, vc0, vcs⟩ := vc
  have lI4 : ∀ n : Nat, ∀ (x2 : Int32) (x3 : Int32) (ls : Array Slot) (H : Heap) (locs : List Loc), I4 x2 x3 → mI4 x2 x3 < n → lv_has ls 4 [(0, .ref (b 0)), (1, .int x), (2, .int x2), (3, .int x3)] → va_P D vwCl (wM b cI cJ cZ mki msz mle mel mme mal mic mil mio mab mae msa mlc mli mna mva mma mch mre mlv mwr msh mth mnv mns mfa mmo) H → va_D A (wM b cI cJ cZ mki msz mle mel mme mal mic mil mio mab mae msa mlc mli mna mva mma mch mre mlv mwr msh mth mnv mns mfa mmo) → va_S A s.heap H locs → W p l e R s m args below meth c H locs cells slots Q (F0 m 4 ls []) := by
    intro n
    induction n with
    | zero => intro x2 x3 ls H locs _ h; exact absurd h (Nat.not_lt_zero _)
    | succ n ihI4 =>
      intro x2 x3 ls H locs vc hmI4 hl hP hD hS
      have vc := vcs x2 x3 vc
      refine lv_iload_n hx hb d_Mo_memberBits_4 rfl (lv_at hl 3 rfl) ?_
      refine lv_bipush (v := 12) hx hb d_Mo_memberBits_5 (by decide) ?_
      refine lv_icmp_ge (tgt := 35) hx hb d_Mo_memberBits_7 (by decide) (fun h => ?_) (fun h => ?_)
      · have vc := vc.1 h
        refine lv_iload_n hx hb d_Mo_memberBits_35 rfl (lv_at hl 2 rfl) ?_
        exact hret _ _ _ _ _ _ _ _ _ _ _ _ _ _ _ _ _ _ _ _ _ _ _ _ _ _ _ _ ls _ H locs d_Mo_memberBits_36 vc hP hD hS
      · have vc := vc.2 h
        refine lv_aload_n hx hb d_Mo_memberBits_10 rfl (lv_at hl 0 rfl) ?_
        refine lv_iload_n hx hb d_Mo_memberBits_11 rfl (lv_at hl 1 rfl) ?_
        refine lv_iload_n hx hb d_Mo_memberBits_12 rfl (lv_at hl 3 rfl) ?_
        obtain ⟨hpre, vc⟩ := vc
        refine pc_V (As := [.int x, .int x3]) (rest := []) S (c_Mo_memberOf l D b cI cJ cZ mki msz mle mel mme mal mic mil mio mab mae msa mlc mli mna mva mma mch mre mlv mwr msh mth mnv mns mfa mmo x x3 hpre) wB_blind k_Mo_memberOf i_Mo_memberOf e_Mo_memberOf o_Mo ml_Mo_167 hd_Mo_memberOf (Nat.le_trans (by decide) hRf) (Nat.le_trans (by decide) hRl) hRc (va_recv hK hP (q0 := 0) (ci := 6) rfl rfl) (wB_at hP hK) hl.1 rfl (Nat.le_of_ble_eq_true rfl) d_Mo_memberBits_13 ?_
        refine lv_if_lt (tgt := 27) hx hb d_Mo_memberBits_16 (by decide) (fun h => ?_) (fun h => ?_)
        · have vc := vc.1 h
          refine lv_iload_n hx hb d_Mo_memberBits_27 rfl (lv_at hl 2 rfl) ?_
          refine lv_istore_n hx hb d_Mo_memberBits_28 rfl hl (by decide) (lv' := [(2, .int x2), (0, .ref (b 0)), (1, .int x), (3, .int x3)]) rfl (fun ls hl => ?_)
          refine lv_iinc (k := 3) (v := x3 + 1) hx hb d_Mo_memberBits_29 hl rfl rfl (by decide) (lv' := [(3, .int (x3 + 1)), (2, .int x2), (0, .ref (b 0)), (1, .int x)]) rfl (fun ls hl => ?_)
          refine lv_goto (tgt := 4) hx hb d_Mo_memberBits_32 (by decide) ?_
          exact ihI4 x2 (x3 + 1) ls H locs vc.1 (Nat.lt_of_lt_of_le vc.2 (Nat.le_of_lt_succ hmI4)) (lv_sub hl [2, 3, 1, 0] rfl) hP hD hS
        · have vc := vc.2 h
          refine lv_iload_n hx hb d_Mo_memberBits_19 rfl (lv_at hl 2 rfl) ?_
          refine lv_iconst (v := 1) hx hb d_Mo_memberBits_20 (by decide) ?_
          refine lv_iload_n hx hb d_Mo_memberBits_21 rfl (lv_at hl 3 rfl) ?_
          refine lv_ishl hx hb d_Mo_memberBits_22 ?_
          refine lv_ior hx hb d_Mo_memberBits_23 ?_
          refine lv_goto (tgt := 28) hx hb d_Mo_memberBits_24 (by decide) ?_
          refine lv_istore_n hx hb d_Mo_memberBits_28 rfl hl (by decide) (lv' := [(2, .int (x2 ||| (1 <<< (x3 &&& 31)))), (0, .ref (b 0)), (1, .int x), (3, .int x3)]) rfl (fun ls hl => ?_)
          refine lv_iinc (k := 3) (v := x3 + 1) hx hb d_Mo_memberBits_29 hl rfl rfl (by decide) (lv' := [(3, .int (x3 + 1)), (2, .int (x2 ||| (1 <<< (x3 &&& 31)))), (0, .ref (b 0)), (1, .int x)]) rfl (fun ls hl => ?_)
          refine lv_goto (tgt := 4) hx hb d_Mo_memberBits_32 (by decide) ?_
          exact ihI4 (x2 ||| (1 <<< (x3 &&& 31))) (x3 + 1) ls H locs vc.1 (Nat.lt_of_lt_of_le vc.2 (Nat.le_of_lt_succ hmI4)) (lv_sub hl [2, 3, 1, 0] rfl) hP hD hS
  exact lI4 _ 0 0 ls H locs vc0 (Nat.lt_succ_self _) (lv_sub hl [2, 3, 1, 0] rfl) hP hD hS
set_option maxHeartbeats 4000000 in
theorem v_Mo_memberBits (mki : Nat → Int32) (msz : Nat → Int64) (mle : Nat → Int32) (mel : Nat → Int32) (mme : Nat → Int32) (mal : Nat → Int32) (mic : Nat → Int32) (mil : Nat → Int32) (mio : Nat → Int32) (mab : Nat → Int32) (mae : Nat → Int32) (msa : Nat → Int32) (mlc : Nat → Int32) (mli : Nat → Int32) (mna : Nat → Int32) (mva : Nat → Int32) (mma : Nat → Int32) (mch : Nat → Int32) (mre : Nat → Int32) (mlv : Nat → Int32) (mwr : Nat → Int64) (msh : Nat → Int32) (mth : Int32) (mnv : Int32) (mns : Int32) (mfa : Int32) (mmo : Int32) (x : Int32) (hpre : vp_in x 40) : V_Mo_memberBits mki msz mle mel mme mal mic mil mio mab mae msa mlc mli mna mva mma mch mre mlv mwr msh mth mnv mns mfa mmo x (fun v mki' msz' mle' mel' mme' mal' mic' mil' mio' mab' mae' msa' mlc' mli' mna' mva' mma' mch' mre' mlv' mwr' msh' mth' mnv' mns' mfa' mmo' => ((∀ i, i < 32 → (bt v i = true ↔ i < 12 ∧ mki x.toNatClampNeg = 5 ∧ ¬ mme (12 * x.toNatClampNeg + i) < 0))) ∧ mki' = mki ∧ msz' = msz ∧ mle' = mle ∧ mel' = mel ∧ mme' = mme ∧ mal' = mal ∧ mic' = mic ∧ mil' = mil ∧ mio' = mio ∧ mab' = mab ∧ mae' = mae ∧ msa' = msa ∧ mlc' = mlc ∧ mli' = mli ∧ mna' = mna ∧ mva' = mva ∧ mma' = mma ∧ mch' = mch ∧ mre' = mre ∧ mlv' = mlv ∧ mwr' = mwr ∧ msh' = msh ∧ mth' = mth ∧ mnv' = mnv ∧ mns' = mns ∧ mfa' = mfa ∧ mmo' = mmo) := by
  have main : ∀ post : Int32 → (Nat → Int32) → (Nat → Int64) → (Nat → Int32) → (Nat → Int32) → (Nat → Int32) → (Nat → Int32) → (Nat → Int32) → (Nat → Int32) → (Nat → Int32) → (Nat → Int32) → (Nat → Int32) → (Nat → Int32) → (Nat → Int32) → (Nat → Int32) → (Nat → Int32) → (Nat → Int32) → (Nat → Int32) → (Nat → Int32) → (Nat → Int32) → (Nat → Int32) → (Nat → Int64) → (Nat → Int32) → Int32 → Int32 → Int32 → Int32 → Int32 → Prop, (∀ v mki' msz' mle' mel' mme' mal' mic' mil' mio' mab' mae' msa' mlc' mli' mna' mva' mma' mch' mre' mlv' mwr' msh' mth' mnv' mns' mfa' mmo', (fun v mki' msz' mle' mel' mme' mal' mic' mil' mio' mab' mae' msa' mlc' mli' mna' mva' mma' mch' mre' mlv' mwr' msh' mth' mnv' mns' mfa' mmo' => ((∀ i, i < 32 → (bt v i = true ↔ i < 12 ∧ mki x.toNatClampNeg = 5 ∧ ¬ mme (12 * x.toNatClampNeg + i) < 0))) ∧ mki' = mki ∧ msz' = msz ∧ mle' = mle ∧ mel' = mel ∧ mme' = mme ∧ mal' = mal ∧ mic' = mic ∧ mil' = mil ∧ mio' = mio ∧ mab' = mab ∧ mae' = mae ∧ msa' = msa ∧ mlc' = mlc ∧ mli' = mli ∧ mna' = mna ∧ mva' = mva ∧ mma' = mma ∧ mch' = mch ∧ mre' = mre ∧ mlv' = mlv ∧ mwr' = mwr ∧ msh' = msh ∧ mth' = mth ∧ mnv' = mnv ∧ mns' = mns ∧ mfa' = mfa ∧ mmo' = mmo) v mki' msz' mle' mel' mme' mal' mic' mil' mio' mab' mae' msa' mlc' mli' mna' mva' mma' mch' mre' mlv' mwr' msh' mth' mnv' mns' mfa' mmo' → post v mki' msz' mle' mel' mme' mal' mic' mil' mio' mab' mae' msa' mlc' mli' mna' mva' mma' mch' mre' mlv' mwr' msh' mth' mnv' mns' mfa' mmo') → V_Mo_memberBits mki msz mle mel mme mal mic mil mio mab mae msa mlc mli mna mva mma mch mre mlv mwr msh mth mnv mns mfa mmo x post := by
    intro post hpost
    unfold V_Mo_memberBits
    obtain ⟨v, hv, rfl, hcv⟩ := vp_nat hpre (by decide)
    simp only [hcv] at hpost ⊢
    refine ⟨fun z i => ∃ k, k ≤ 12 ∧ i = nI k ∧ ∀ j, j < 32 → (bt z j = true ↔ j < k ∧ mki v = 5 ∧ ¬ mme (12 * v + j) < 0), fun _ i => 12 - i.toInt.toNat, ⟨0, Nat.zero_le _, rfl, fun j _ => by rw [b_0]; simp⟩, ?_⟩
    rintro z i ⟨k, hk, rfl, hb⟩
    refine ⟨fun h => ?_, fun h => ?_⟩
    · obtain rfl := fill_end (N := 12) h (by decide) hk
      exact (hpost _ _ _ _ _ _ _ _ _ _ _ _ _ _ _ _ _ _ _ _ _ _ _ _ _ _ _ _ ⟨hb, rfl, rfl, rfl, rfl, rfl, rfl, rfl, rfl, rfl, rfl, rfl, rfl, rfl, rfl, rfl, rfl, rfl, rfl, rfl, rfl, rfl, rfl, rfl, rfl, rfl, rfl, rfl⟩)
    · have hk2 := fill_step (N := 12) h (by decide) hk
      have c12 : (nI (12 * v + k)).toNatClampNeg = 12 * v + k := nI_clamp (by omega)
      rw [jx12v, c12, ite5]
      refine ⟨⟨hpre, vp_in_nI (by omega) (by decide)⟩, fun h2 => ⟨⟨k + 1, hk2, nI_1 k, fun j hj => ?_⟩, fill_mu hk2 (by decide)⟩, fun h2 => ⟨⟨k + 1, hk2, nI_1 k, fun j hj => ?_⟩, fill_mu hk2 (by decide)⟩⟩
      · rw [hb j hj]
        refine ⟨fun q => ⟨by omega, q.2⟩, fun q => ⟨?_, q.2⟩⟩
        by_cases e : j = k
        · subst e; exact absurd q.2 h2
        · omega
      · rw [b_or, b_shl1 (by omega), Bool.or_eq_true, decide_eq_true_eq, hb j hj]
        constructor
        · rintro (q | q)
          · exact ⟨by omega, q.2⟩
          · subst q; exact ⟨by omega, Classical.not_not.mp h2⟩
        · rintro ⟨q1, q2⟩
          by_cases e : j = k
          · exact Or.inr e
          · exact Or.inl ⟨by omega, q2⟩
  exact main _ (fun _ _ _ _ _ _ _ _ _ _ _ _ _ _ _ _ _ _ _ _ _ _ _ _ _ _ _ _ h => h)
theorem c_Mo_memberBits (l : Launch) (D : va_G) (b : Nat → Nat) (cI cJ cZ : ClassId) (mki : Nat → Int32) (msz : Nat → Int64) (mle : Nat → Int32) (mel : Nat → Int32) (mme : Nat → Int32) (mal : Nat → Int32) (mic : Nat → Int32) (mil : Nat → Int32) (mio : Nat → Int32) (mab : Nat → Int32) (mae : Nat → Int32) (msa : Nat → Int32) (mlc : Nat → Int32) (mli : Nat → Int32) (mna : Nat → Int32) (mva : Nat → Int32) (mma : Nat → Int32) (mch : Nat → Int32) (mre : Nat → Int32) (mlv : Nat → Int32) (mwr : Nat → Int64) (msh : Nat → Int32) (mth : Int32) (mnv : Int32) (mns : Int32) (mfa : Int32) (mmo : Int32) (x : Int32) (hpre : vp_in x 40) : Wm (S := Int32) l y_Mo_memberBits b_Mo_memberBits 4 (some .int) 1 22 [.ref (b 0), .int x] D (tyA cI cJ cZ) (wM b cI cJ cZ mki msz mle mel mme mal mic mil mio mab mae msa mlc mli mna mva mma mch mre mlv mwr msh mth mnv mns mfa mmo) (fun uu => (∀ i, i < 32 → (bt uu i = true ↔ i < 12 ∧ mki x.toNatClampNeg = 5 ∧ ¬ mme (12 * x.toNatClampNeg + i) < 0))) (fun uu => some (.int (uu))) (fun uu => (wM b cI cJ cZ mki msz mle mel mme mal mic mil mio mab mae msa mlc mli mna mva mma mch mre mlv mwr msh mth mnv mns mfa mmo)) :=
  wm_i (by decide) (fun _ _ => rfl) (Nat.le_of_ble_eq_true rfl) (fun p e s m below meth c ls Q A S hK hP hD hA hS hl hret => g_Mo_memberBits S (Nat.le_refl _) (Nat.le_refl _) ⟨Nat.le_refl _, Nat.le_refl _⟩ D b cI cJ cZ mki msz mle mel mme mal mic mil mio mab mae msa mlc mli mna mva mma mch mre mlv mwr msh mth mnv mns mfa mmo x hK hP hD hA hS hl (v_Mo_memberBits mki msz mle mel mme mal mic mil mio mab mae msa mlc mli mna mva mma mch mre mlv mwr msh mth mnv mns mfa mmo x hpre) (fun v mki' msz' mle' mel' mme' mal' mic' mil' mio' mab' mae' msa' mlc' mli' mna' mva' mma' mch' mre' mlv' mwr' msh' mth' mnv' mns' mfa' mmo' ls1 pc H1 locs1 hd hv hP1 hD1 hS1 => by obtain ⟨hp, rfl, rfl, rfl, rfl, rfl, rfl, rfl, rfl, rfl, rfl, rfl, rfl, rfl, rfl, rfl, rfl, rfl, rfl, rfl, rfl, rfl, rfl, rfl, rfl, rfl, rfl, rfl⟩ := hv; exact hret v _ ls1 pc H1 locs1 hd hp rfl hP1 hD1 hS1))
theorem hd_Mo_memberBits : y_Mo_memberBits.cls ≠ "java/lang/invoke/MethodHandle" ∧ y_Mo_memberBits.cls ≠ "java/lang/invoke/VarHandle" ∧ (parseMethodDescriptor y_Mo_memberBits.desc).map (fun d => d.parameters.length) = some 1 := ⟨by decide, by decide, by decide +kernel⟩
def V_Mo_countOf (mki : Nat → Int32) (msz : Nat → Int64) (mle : Nat → Int32) (mel : Nat → Int32) (mme : Nat → Int32) (mal : Nat → Int32) (mic : Nat → Int32) (mil : Nat → Int32) (mio : Nat → Int32) (mab : Nat → Int32) (mae : Nat → Int32) (msa : Nat → Int32) (mlc : Nat → Int32) (mli : Nat → Int32) (mna : Nat → Int32) (mva : Nat → Int32) (mma : Nat → Int32) (mch : Nat → Int32) (mre : Nat → Int32) (mlv : Nat → Int32) (mwr : Nat → Int64) (msh : Nat → Int32) (mth : Int32) (mnv : Int32) (mns : Int32) (mfa : Int32) (mmo : Int32) (x : Int32) (post : Int32 → (Nat → Int32) → (Nat → Int64) → (Nat → Int32) → (Nat → Int32) → (Nat → Int32) → (Nat → Int32) → (Nat → Int32) → (Nat → Int32) → (Nat → Int32) → (Nat → Int32) → (Nat → Int32) → (Nat → Int32) → (Nat → Int32) → (Nat → Int32) → (Nat → Int32) → (Nat → Int32) → (Nat → Int32) → (Nat → Int32) → (Nat → Int32) → (Nat → Int32) → (Nat → Int64) → (Nat → Int32) → Int32 → Int32 → Int32 → Int32 → Int32 → Prop) : Prop :=
  (∃ (I4 : Int32 → Int32 → Prop) (mI4 : Int32 → Int32 → Nat), I4 0 0 ∧ (∀ (x2 : Int32) (x3 : Int32), I4 x2 x3 → ((12 ≤ x3 → post x2 mki msz mle mel mme mal mic mil mio mab mae msa mlc mli mna mva mma mch mre mlv mwr msh mth mnv mns mfa mmo) ∧ (¬ 12 ≤ x3 → (I4 (x2 + ((x >>> (x3 &&& 31)) &&& 1)) (x3 + 1) ∧ mI4 (x2 + ((x >>> (x3 &&& 31)) &&& 1)) (x3 + 1) < mI4 x2 x3)))))
set_option maxHeartbeats 4000000 in
set_option maxRecDepth 100000 in
theorem g_Mo_countOf {p : Program} {l : Launch} {e : Env} {R : Room} {s : State} {m : MethodId} {args : Array Value} {below : List Frame} {meth : Method} {c : Code} {H : Heap} {locs : List Loc} {cells slots : Nat} {Q : State → Prop} {ls : Array Slot} {A : Nat → Prop} (S : CallFix p m c b_Mo_countOf 4 s args W0 R_Mo) (hRf : 0 ≤ R.frames) (hRl : 0 ≤ R.locals) (hRc : cells ≤ R.cells ∧ slots ≤ R.slots) (D : va_G) (b : Nat → Nat) (cI cJ cZ : ClassId) (mki : Nat → Int32) (msz : Nat → Int64) (mle : Nat → Int32) (mel : Nat → Int32) (mme : Nat → Int32) (mal : Nat → Int32) (mic : Nat → Int32) (mil : Nat → Int32) (mio : Nat → Int32) (mab : Nat → Int32) (mae : Nat → Int32) (msa : Nat → Int32) (mlc : Nat → Int32) (mli : Nat → Int32) (mna : Nat → Int32) (mva : Nat → Int32) (mma : Nat → Int32) (mch : Nat → Int32) (mre : Nat → Int32) (mlv : Nat → Int32) (mwr : Nat → Int64) (msh : Nat → Int32) (mth : Int32) (mnv : Int32) (mns : Int32) (mfa : Int32) (mmo : Int32) (x : Int32) (hK : va_K D vwCl (tyA cI cJ cZ) s) (hP : va_P D vwCl (wM b cI cJ cZ mki msz mle mel mme mal mic mil mio mab mae msa mlc mli mna mva mma mch mre mlv mwr msh mth mnv mns mfa mmo) H) (hD : va_D A (wM b cI cJ cZ mki msz mle mel mme mal mic mil mio mab mae msa mlc mli mna mva mma mch mre mlv mwr msh mth mnv mns mfa mmo)) (hA : ∀ q, s.heap.size ≤ q → A q) (hS : va_S A s.heap H locs) (hl : lv_has ls 4 [(0, .ref (b 0)), (1, .int x)]) {post : Int32 → (Nat → Int32) → (Nat → Int64) → (Nat → Int32) → (Nat → Int32) → (Nat → Int32) → (Nat → Int32) → (Nat → Int32) → (Nat → Int32) → (Nat → Int32) → (Nat → Int32) → (Nat → Int32) → (Nat → Int32) → (Nat → Int32) → (Nat → Int32) → (Nat → Int32) → (Nat → Int32) → (Nat → Int32) → (Nat → Int32) → (Nat → Int32) → (Nat → Int32) → (Nat → Int64) → (Nat → Int32) → Int32 → Int32 → Int32 → Int32 → Int32 → Prop} (vc : V_Mo_countOf mki msz mle mel mme mal mic mil mio mab mae msa mlc mli mna mva mma mch mre mlv mwr msh mth mnv mns mfa mmo x post)
    (hret : ∀ (v : Int32) (mki : Nat → Int32) (msz : Nat → Int64) (mle : Nat → Int32) (mel : Nat → Int32) (mme : Nat → Int32) (mal : Nat → Int32) (mic : Nat → Int32) (mil : Nat → Int32) (mio : Nat → Int32) (mab : Nat → Int32) (mae : Nat → Int32) (msa : Nat → Int32) (mlc : Nat → Int32) (mli : Nat → Int32) (mna : Nat → Int32) (mva : Nat → Int32) (mma : Nat → Int32) (mch : Nat → Int32) (mre : Nat → Int32) (mlv : Nat → Int32) (mwr : Nat → Int64) (msh : Nat → Int32) (mth : Int32) (mnv : Int32) (mns : Int32) (mfa : Int32) (mmo : Int32) (ls : Array Slot) (pc : Nat) (H : Heap) (locs : List Loc), decode b_Mo_countOf pc = .ok (.ireturn, 1) → post v mki msz mle mel mme mal mic mil mio mab mae msa mlc mli mna mva mma mch mre mlv mwr msh mth mnv mns mfa mmo → va_P D vwCl (wM b cI cJ cZ mki msz mle mel mme mal mic mil mio mab mae msa mlc mli mna mva mma mch mre mlv mwr msh mth mnv mns mfa mmo) H → va_D A (wM b cI cJ cZ mki msz mle mel mme mal mic mil mio mab mae msa mlc mli mna mva mma mch mre mlv mwr msh mth mnv mns mfa mmo) → va_S A s.heap H locs → W p l e R s m args below meth c H locs cells slots Q (F0 m pc ls [.int v])) : W p l e R s m args below meth c H locs cells slots Q (F0 m 0 ls []) := by
  have hx := S.1
  have hb := S.2.1
  have hown := S.2.2.2.1
  have hts := S.2.2.2.2
  unfold V_Mo_countOf at vc
  refine lv_iconst (v := 0) hx hb d_Mo_countOf_0 (by decide) ?_
  refine lv_istore_n hx hb d_Mo_countOf_1 rfl hl (by decide) (lv' := [(2, .int 0), (0, .ref (b 0)), (1, .int x)]) rfl (fun ls hl => ?_)
  refine lv_iconst (v := 0) hx hb d_Mo_countOf_2 (by decide) ?_
  refine lv_istore_n hx hb d_Mo_countOf_3 rfl hl (by decide) (lv' := [(3, .int 0), (2, .int 0), (0, .ref (b 0)), (1, .int x)]) rfl (fun ls hl => ?_)
  obtain ⟨I4, mI4, vc0, vcs⟩ := vc
  have lI4 : ∀ n : Nat, ∀ (x2 : Int32) (x3 : Int32) (ls : Array Slot) (H : Heap) (locs : List Loc), I4 x2 x3 → mI4 x2 x3 < n → lv_has ls 4 [(0, .ref (b 0)), (1, .int x), (2, .int x2), (3, .int x3)] → va_P D vwCl (wM b cI cJ cZ mki msz mle mel mme mal mic mil mio mab mae msa mlc mli mna mva mma mch mre mlv mwr msh mth mnv mns mfa mmo) H → va_D A (wM b cI cJ cZ mki msz mle mel mme mal mic mil mio mab mae msa mlc mli mna mva mma mch mre mlv mwr msh mth mnv mns mfa mmo) → va_S A s.heap H locs → W p l e R s m args below meth c H locs cells slots Q (F0 m 4 ls []) := by
    intro n
    induction n with
    | zero => intro x2 x3 ls H locs _ h; exact absurd h (Nat.not_lt_zero _)
    | succ n ihI4 =>
      intro x2 x3 ls H locs vc hmI4 hl hP hD hS
      have vc := vcs x2 x3 vc
      refine lv_iload_n hx hb d_Mo_countOf_4 rfl (lv_at hl 3 rfl) ?_
      refine lv_bipush (v := 12) hx hb d_Mo_countOf_5 (by decide) ?_
      refine lv_icmp_ge (tgt := 24) hx hb d_Mo_countOf_7 (by decide) (fun h => ?_) (fun h => ?_)
      · have vc := vc.1 h
        refine lv_iload_n hx hb d_Mo_countOf_24 rfl (lv_at hl 2 rfl) ?_
        exact hret _ _ _ _ _ _ _ _ _ _ _ _ _ _ _ _ _ _ _ _ _ _ _ _ _ _ _ _ ls _ H locs d_Mo_countOf_25 vc hP hD hS
      · have vc := vc.2 h
        refine lv_iload_n hx hb d_Mo_countOf_10 rfl (lv_at hl 2 rfl) ?_
        refine lv_iload_n hx hb d_Mo_countOf_11 rfl (lv_at hl 1 rfl) ?_
        refine lv_iload_n hx hb d_Mo_countOf_12 rfl (lv_at hl 3 rfl) ?_
        refine lv_ishr hx hb d_Mo_countOf_13 ?_
        refine lv_iconst (v := 1) hx hb d_Mo_countOf_14 (by decide) ?_
        refine lv_iand hx hb d_Mo_countOf_15 ?_
        refine lv_iadd hx hb d_Mo_countOf_16 ?_
        refine lv_istore_n hx hb d_Mo_countOf_17 rfl hl (by decide) (lv' := [(2, .int (x2 + ((x >>> (x3 &&& 31)) &&& 1))), (0, .ref (b 0)), (1, .int x), (3, .int x3)]) rfl (fun ls hl => ?_)
        refine lv_iinc (k := 3) (v := x3 + 1) hx hb d_Mo_countOf_18 hl rfl rfl (by decide) (lv' := [(3, .int (x3 + 1)), (2, .int (x2 + ((x >>> (x3 &&& 31)) &&& 1))), (0, .ref (b 0)), (1, .int x)]) rfl (fun ls hl => ?_)
        refine lv_goto (tgt := 4) hx hb d_Mo_countOf_21 (by decide) ?_
        exact ihI4 (x2 + ((x >>> (x3 &&& 31)) &&& 1)) (x3 + 1) ls H locs vc.1 (Nat.lt_of_lt_of_le vc.2 (Nat.le_of_lt_succ hmI4)) (lv_sub hl [2, 3, 1, 0] rfl) hP hD hS
  exact lI4 _ 0 0 ls H locs vc0 (Nat.lt_succ_self _) (lv_sub hl [2, 3, 1, 0] rfl) hP hD hS
set_option maxHeartbeats 4000000 in
theorem v_Mo_countOf (mki : Nat → Int32) (msz : Nat → Int64) (mle : Nat → Int32) (mel : Nat → Int32) (mme : Nat → Int32) (mal : Nat → Int32) (mic : Nat → Int32) (mil : Nat → Int32) (mio : Nat → Int32) (mab : Nat → Int32) (mae : Nat → Int32) (msa : Nat → Int32) (mlc : Nat → Int32) (mli : Nat → Int32) (mna : Nat → Int32) (mva : Nat → Int32) (mma : Nat → Int32) (mch : Nat → Int32) (mre : Nat → Int32) (mlv : Nat → Int32) (mwr : Nat → Int64) (msh : Nat → Int32) (mth : Int32) (mnv : Int32) (mns : Int32) (mfa : Int32) (mmo : Int32) (x : Int32) : V_Mo_countOf mki msz mle mel mme mal mic mil mio mab mae msa mlc mli mna mva mma mch mre mlv mwr msh mth mnv mns mfa mmo x (fun v mki' msz' mle' mel' mme' mal' mic' mil' mio' mab' mae' msa' mlc' mli' mna' mva' mma' mch' mre' mlv' mwr' msh' mth' mnv' mns' mfa' mmo' => (v = nI (cN (fun k => bt x k = true) 12)) ∧ mki' = mki ∧ msz' = msz ∧ mle' = mle ∧ mel' = mel ∧ mme' = mme ∧ mal' = mal ∧ mic' = mic ∧ mil' = mil ∧ mio' = mio ∧ mab' = mab ∧ mae' = mae ∧ msa' = msa ∧ mlc' = mlc ∧ mli' = mli ∧ mna' = mna ∧ mva' = mva ∧ mma' = mma ∧ mch' = mch ∧ mre' = mre ∧ mlv' = mlv ∧ mwr' = mwr ∧ msh' = msh ∧ mth' = mth ∧ mnv' = mnv ∧ mns' = mns ∧ mfa' = mfa ∧ mmo' = mmo) := by
  have main : ∀ post : Int32 → (Nat → Int32) → (Nat → Int64) → (Nat → Int32) → (Nat → Int32) → (Nat → Int32) → (Nat → Int32) → (Nat → Int32) → (Nat → Int32) → (Nat → Int32) → (Nat → Int32) → (Nat → Int32) → (Nat → Int32) → (Nat → Int32) → (Nat → Int32) → (Nat → Int32) → (Nat → Int32) → (Nat → Int32) → (Nat → Int32) → (Nat → Int32) → (Nat → Int32) → (Nat → Int64) → (Nat → Int32) → Int32 → Int32 → Int32 → Int32 → Int32 → Prop, (∀ v mki' msz' mle' mel' mme' mal' mic' mil' mio' mab' mae' msa' mlc' mli' mna' mva' mma' mch' mre' mlv' mwr' msh' mth' mnv' mns' mfa' mmo', (fun v mki' msz' mle' mel' mme' mal' mic' mil' mio' mab' mae' msa' mlc' mli' mna' mva' mma' mch' mre' mlv' mwr' msh' mth' mnv' mns' mfa' mmo' => (v = nI (cN (fun k => bt x k = true) 12)) ∧ mki' = mki ∧ msz' = msz ∧ mle' = mle ∧ mel' = mel ∧ mme' = mme ∧ mal' = mal ∧ mic' = mic ∧ mil' = mil ∧ mio' = mio ∧ mab' = mab ∧ mae' = mae ∧ msa' = msa ∧ mlc' = mlc ∧ mli' = mli ∧ mna' = mna ∧ mva' = mva ∧ mma' = mma ∧ mch' = mch ∧ mre' = mre ∧ mlv' = mlv ∧ mwr' = mwr ∧ msh' = msh ∧ mth' = mth ∧ mnv' = mnv ∧ mns' = mns ∧ mfa' = mfa ∧ mmo' = mmo) v mki' msz' mle' mel' mme' mal' mic' mil' mio' mab' mae' msa' mlc' mli' mna' mva' mma' mch' mre' mlv' mwr' msh' mth' mnv' mns' mfa' mmo' → post v mki' msz' mle' mel' mme' mal' mic' mil' mio' mab' mae' msa' mlc' mli' mna' mva' mma' mch' mre' mlv' mwr' msh' mth' mnv' mns' mfa' mmo') → V_Mo_countOf mki msz mle mel mme mal mic mil mio mab mae msa mlc mli mna mva mma mch mre mlv mwr msh mth mnv mns mfa mmo x post := by
    intro post hpost
    unfold V_Mo_countOf
    refine ⟨fun z i => ∃ k, k ≤ 12 ∧ i = nI k ∧ z = nI (cN (fun k => bt x k = true) k), fun _ i => 12 - i.toInt.toNat, ⟨0, Nat.zero_le _, rfl, rfl⟩, ?_⟩
    rintro z i ⟨k, hk, rfl, rfl⟩
    refine ⟨fun h => ?_, fun h => ?_⟩
    · obtain rfl := fill_end (N := 12) h (by decide) hk
      exact (hpost _ _ _ _ _ _ _ _ _ _ _ _ _ _ _ _ _ _ _ _ _ _ _ _ _ _ _ _ ⟨rfl, rfl, rfl, rfl, rfl, rfl, rfl, rfl, rfl, rfl, rfl, rfl, rfl, rfl, rfl, rfl, rfl, rfl, rfl, rfl, rfl, rfl, rfl, rfl, rfl, rfl, rfl, rfl⟩)
    · have hk2 := fill_step (N := 12) h (by decide) hk
      rw [b_and1 _ (by omega)]
      refine ⟨⟨k + 1, hk2, nI_1 k, ?_⟩, fill_mu hk2 (by decide)⟩
      cases e : bt x k
      · rw [cN_s.2 (by rw [e]; decide)]
        show nI _ + nI 0 = _
        rw [nI_add]; rfl
      · rw [cN_s.1 e]; exact nI_1 _
  exact main _ (fun _ _ _ _ _ _ _ _ _ _ _ _ _ _ _ _ _ _ _ _ _ _ _ _ _ _ _ _ h => h)
theorem c_Mo_countOf (l : Launch) (D : va_G) (b : Nat → Nat) (cI cJ cZ : ClassId) (mki : Nat → Int32) (msz : Nat → Int64) (mle : Nat → Int32) (mel : Nat → Int32) (mme : Nat → Int32) (mal : Nat → Int32) (mic : Nat → Int32) (mil : Nat → Int32) (mio : Nat → Int32) (mab : Nat → Int32) (mae : Nat → Int32) (msa : Nat → Int32) (mlc : Nat → Int32) (mli : Nat → Int32) (mna : Nat → Int32) (mva : Nat → Int32) (mma : Nat → Int32) (mch : Nat → Int32) (mre : Nat → Int32) (mlv : Nat → Int32) (mwr : Nat → Int64) (msh : Nat → Int32) (mth : Int32) (mnv : Int32) (mns : Int32) (mfa : Int32) (mmo : Int32) (x : Int32) : Wm (S := Int32) l y_Mo_countOf b_Mo_countOf 4 (some .int) 0 0 [.ref (b 0), .int x] D (tyA cI cJ cZ) (wM b cI cJ cZ mki msz mle mel mme mal mic mil mio mab mae msa mlc mli mna mva mma mch mre mlv mwr msh mth mnv mns mfa mmo) (fun uu => uu = nI (cN (fun k => bt x k = true) 12)) (fun uu => some (.int (uu))) (fun uu => (wM b cI cJ cZ mki msz mle mel mme mal mic mil mio mab mae msa mlc mli mna mva mma mch mre mlv mwr msh mth mnv mns mfa mmo)) :=
  wm_i (by decide) (fun _ _ => rfl) (Nat.le_of_ble_eq_true rfl) (fun p e s m below meth c ls Q A S hK hP hD hA hS hl hret => g_Mo_countOf S (Nat.le_refl _) (Nat.le_refl _) ⟨Nat.le_refl _, Nat.le_refl _⟩ D b cI cJ cZ mki msz mle mel mme mal mic mil mio mab mae msa mlc mli mna mva mma mch mre mlv mwr msh mth mnv mns mfa mmo x hK hP hD hA hS hl (v_Mo_countOf mki msz mle mel mme mal mic mil mio mab mae msa mlc mli mna mva mma mch mre mlv mwr msh mth mnv mns mfa mmo x) (fun v mki' msz' mle' mel' mme' mal' mic' mil' mio' mab' mae' msa' mlc' mli' mna' mva' mma' mch' mre' mlv' mwr' msh' mth' mnv' mns' mfa' mmo' ls1 pc H1 locs1 hd hv hP1 hD1 hS1 => by obtain ⟨hp, rfl, rfl, rfl, rfl, rfl, rfl, rfl, rfl, rfl, rfl, rfl, rfl, rfl, rfl, rfl, rfl, rfl, rfl, rfl, rfl, rfl, rfl, rfl, rfl, rfl, rfl, rfl⟩ := hv; exact hret v _ ls1 pc H1 locs1 hd hp rfl hP1 hD1 hS1))
theorem hd_Mo_countOf : y_Mo_countOf.cls ≠ "java/lang/invoke/MethodHandle" ∧ y_Mo_countOf.cls ≠ "java/lang/invoke/VarHandle" ∧ (parseMethodDescriptor y_Mo_countOf.desc).map (fun d => d.parameters.length) = some 1 := ⟨by decide, by decide, by decide +kernel⟩
def V_Mo_textLength (mki : Nat → Int32) (msz : Nat → Int64) (mle : Nat → Int32) (mel : Nat → Int32) (mme : Nat → Int32) (mal : Nat → Int32) (mic : Nat → Int32) (mil : Nat → Int32) (mio : Nat → Int32) (mab : Nat → Int32) (mae : Nat → Int32) (msa : Nat → Int32) (mlc : Nat → Int32) (mli : Nat → Int32) (mna : Nat → Int32) (mva : Nat → Int32) (mma : Nat → Int32) (mch : Nat → Int32) (mre : Nat → Int32) (mlv : Nat → Int32) (mwr : Nat → Int64) (msh : Nat → Int32) (mth : Int32) (mnv : Int32) (mns : Int32) (mfa : Int32) (mmo : Int32) (x : Int32) (post : Int32 → (Nat → Int32) → (Nat → Int64) → (Nat → Int32) → (Nat → Int32) → (Nat → Int32) → (Nat → Int32) → (Nat → Int32) → (Nat → Int32) → (Nat → Int32) → (Nat → Int32) → (Nat → Int32) → (Nat → Int32) → (Nat → Int32) → (Nat → Int32) → (Nat → Int32) → (Nat → Int32) → (Nat → Int32) → (Nat → Int32) → (Nat → Int32) → (Nat → Int32) → (Nat → Int64) → (Nat → Int32) → Int32 → Int32 → Int32 → Int32 → Int32 → Prop) : Prop :=
  (vp_in x 40 ∧ (∃ (I4 : Int32 → Int64 → Prop) (mI4 : Int32 → Int64 → Nat), I4 0 (msz x.toNatClampNeg) ∧ (∀ (x2 : Int32) (y3 : Int64), I4 x2 y3 → (((lg_cmp y3 0) ≤ 0 → post x2 mki msz mle mel mme mal mic mil mio mab mae msa mlc mli mna mva mma mch mre mlv mwr msh mth mnv mns mfa mmo) ∧ (¬ (lg_cmp y3 0) ≤ 0 → (I4 (x2 + 1) (y3 / 5) ∧ mI4 (x2 + 1) (y3 / 5) < mI4 x2 y3))))))
set_option maxHeartbeats 4000000 in
set_option maxRecDepth 100000 in
theorem g_Mo_textLength {p : Program} {l : Launch} {e : Env} {R : Room} {s : State} {m : MethodId} {args : Array Value} {below : List Frame} {meth : Method} {c : Code} {H : Heap} {locs : List Loc} {cells slots : Nat} {Q : State → Prop} {ls : Array Slot} {A : Nat → Prop} (S : CallFix p m c b_Mo_textLength 5 s args W0 R_Mo) (hRf : 0 ≤ R.frames) (hRl : 0 ≤ R.locals) (hRc : cells ≤ R.cells ∧ slots ≤ R.slots) (D : va_G) (b : Nat → Nat) (cI cJ cZ : ClassId) (mki : Nat → Int32) (msz : Nat → Int64) (mle : Nat → Int32) (mel : Nat → Int32) (mme : Nat → Int32) (mal : Nat → Int32) (mic : Nat → Int32) (mil : Nat → Int32) (mio : Nat → Int32) (mab : Nat → Int32) (mae : Nat → Int32) (msa : Nat → Int32) (mlc : Nat → Int32) (mli : Nat → Int32) (mna : Nat → Int32) (mva : Nat → Int32) (mma : Nat → Int32) (mch : Nat → Int32) (mre : Nat → Int32) (mlv : Nat → Int32) (mwr : Nat → Int64) (msh : Nat → Int32) (mth : Int32) (mnv : Int32) (mns : Int32) (mfa : Int32) (mmo : Int32) (x : Int32) (hK : va_K D vwCl (tyA cI cJ cZ) s) (hP : va_P D vwCl (wM b cI cJ cZ mki msz mle mel mme mal mic mil mio mab mae msa mlc mli mna mva mma mch mre mlv mwr msh mth mnv mns mfa mmo) H) (hD : va_D A (wM b cI cJ cZ mki msz mle mel mme mal mic mil mio mab mae msa mlc mli mna mva mma mch mre mlv mwr msh mth mnv mns mfa mmo)) (hA : ∀ q, s.heap.size ≤ q → A q) (hS : va_S A s.heap H locs) (hl : lv_has ls 5 [(0, .ref (b 0)), (1, .int x)]) {post : Int32 → (Nat → Int32) → (Nat → Int64) → (Nat → Int32) → (Nat → Int32) → (Nat → Int32) → (Nat → Int32) → (Nat → Int32) → (Nat → Int32) → (Nat → Int32) → (Nat → Int32) → (Nat → Int32) → (Nat → Int32) → (Nat → Int32) → (Nat → Int32) → (Nat → Int32) → (Nat → Int32) → (Nat → Int32) → (Nat → Int32) → (Nat → Int32) → (Nat → Int32) → (Nat → Int64) → (Nat → Int32) → Int32 → Int32 → Int32 → Int32 → Int32 → Prop} (vc : V_Mo_textLength mki msz mle mel mme mal mic mil mio mab mae msa mlc mli mna mva mma mch mre mlv mwr msh mth mnv mns mfa mmo x post)
    (hret : ∀ (v : Int32) (mki : Nat → Int32) (msz : Nat → Int64) (mle : Nat → Int32) (mel : Nat → Int32) (mme : Nat → Int32) (mal : Nat → Int32) (mic : Nat → Int32) (mil : Nat → Int32) (mio : Nat → Int32) (mab : Nat → Int32) (mae : Nat → Int32) (msa : Nat → Int32) (mlc : Nat → Int32) (mli : Nat → Int32) (mna : Nat → Int32) (mva : Nat → Int32) (mma : Nat → Int32) (mch : Nat → Int32) (mre : Nat → Int32) (mlv : Nat → Int32) (mwr : Nat → Int64) (msh : Nat → Int32) (mth : Int32) (mnv : Int32) (mns : Int32) (mfa : Int32) (mmo : Int32) (ls : Array Slot) (pc : Nat) (H : Heap) (locs : List Loc), decode b_Mo_textLength pc = .ok (.ireturn, 1) → post v mki msz mle mel mme mal mic mil mio mab mae msa mlc mli mna mva mma mch mre mlv mwr msh mth mnv mns mfa mmo → va_P D vwCl (wM b cI cJ cZ mki msz mle mel mme mal mic mil mio mab mae msa mlc mli mna mva mma mch mre mlv mwr msh mth mnv mns mfa mmo) H → va_D A (wM b cI cJ cZ mki msz mle mel mme mal mic mil mio mab mae msa mlc mli mna mva mma mch mre mlv mwr msh mth mnv mns mfa mmo) → va_S A s.heap H locs → W p l e R s m args below meth c H locs cells slots Q (F0 m pc ls [.int v])) : W p l e R s m args below meth c H locs cells slots Q (F0 m 0 ls []) := by
  have hx := S.1
  have hb := S.2.1
  have hown := S.2.2.2.1
  have hts := S.2.2.2.2
  unfold V_Mo_textLength at vc
  refine lv_iconst (v := 0) hx hb d_Mo_textLength_0 (by decide) ?_
  refine lv_istore_n hx hb d_Mo_textLength_1 rfl hl (by decide) (lv' := [(2, .int 0), (0, .ref (b 0)), (1, .int x)]) rfl (fun ls hl => ?_)
  refine lv_aload_n hx hb d_Mo_textLength_2 rfl (lv_at hl 1 rfl) ?_
  refine va_get (D := D) (ci := 6) (v := .ref (b 2)) (C := R_Mo) (T := F_Mo) (N := 27) hx hb hts in_Mo hown hK hP 0 rfl rfl 3 (by decide) (hts _ fl_Mo_13) (fun _ h => h) rfl d_Mo_textLength_3 ?_
  refine lv_iload_n hx hb d_Mo_textLength_6 rfl (lv_at hl 2 rfl) ?_
  obtain ⟨vcb, vc⟩ := vc
  refine va_lald hx hb hK hP 2 1 rfl rfl vcb d_Mo_textLength_7 ?_
  refine lv_lstore_n hx hb d_Mo_textLength_8 rfl hl (by decide) (lv' := [(3, .long (msz x.toNatClampNeg)), (2, .int 0), (0, .ref (b 0)), (1, .int x)]) rfl (fun ls hl => ?_)
  obtain ⟨I4, mI4, vc0, vcs⟩ := vc
  have lI4 : ∀ n : Nat, ∀ (x2 : Int32) (y3 : Int64) (ls : Array Slot) (H : Heap) (locs : List Loc), I4 x2 y3 → mI4 x2 y3 < n → lv_has ls 5 [(0, .ref (b 0)), (1, .int x), (2, .int x2), (3, .long y3)] → va_P D vwCl (wM b cI cJ cZ mki msz mle mel mme mal mic mil mio mab mae msa mlc mli mna mva mma mch mre mlv mwr msh mth mnv mns mfa mmo) H → va_D A (wM b cI cJ cZ mki msz mle mel mme mal mic mil mio mab mae msa mlc mli mna mva mma mch mre mlv mwr msh mth mnv mns mfa mmo) → va_S A s.heap H locs → W p l e R s m args below meth c H locs cells slots Q (F0 m 9 ls []) := by
    intro n
    induction n with
    | zero => intro x2 y3 ls H locs _ h; exact absurd h (Nat.not_lt_zero _)
    | succ n ihI4 =>
      intro x2 y3 ls H locs vc hmI4 hl hP hD hS
      have vc := vcs x2 y3 vc
      refine lv_lload_n hx hb d_Mo_textLength_9 rfl (lv_at hl 3 rfl) ?_
      refine lv_lconst (v := 0) hx hb d_Mo_textLength_10 (by decide) ?_
      refine W.lcmp hx hb d_Mo_textLength_11 ?_
      refine lv_if_le (tgt := 27) hx hb d_Mo_textLength_12 (by decide) (fun h => ?_) (fun h => ?_)
      · have vc := vc.1 h
        refine lv_iload_n hx hb d_Mo_textLength_27 rfl (lv_at hl 2 rfl) ?_
        exact hret _ _ _ _ _ _ _ _ _ _ _ _ _ _ _ _ _ _ _ _ _ _ _ _ _ _ _ _ ls _ H locs d_Mo_textLength_28 vc hP hD hS
      · have vc := vc.2 h
        refine lv_iinc (k := 2) (v := x2 + 1) hx hb d_Mo_textLength_15 hl rfl rfl (by decide) (lv' := [(2, .int (x2 + 1)), (0, .ref (b 0)), (1, .int x), (3, .long y3)]) rfl (fun ls hl => ?_)
        refine lv_lload_n hx hb d_Mo_textLength_18 rfl (lv_at hl 3 rfl) ?_
        refine lv_ldc2 hx hb hown (hts _ cg_Mo_170) d_Mo_textLength_19 ?_
        refine lv_ldiv hx hb d_Mo_textLength_22 (by decide) ?_
        refine lv_lstore_n hx hb d_Mo_textLength_23 rfl hl (by decide) (lv' := [(3, .long (y3 / 5)), (2, .int (x2 + 1)), (0, .ref (b 0)), (1, .int x)]) rfl (fun ls hl => ?_)
        refine lv_goto (tgt := 9) hx hb d_Mo_textLength_24 (by decide) ?_
        exact ihI4 (x2 + 1) (y3 / 5) ls H locs vc.1 (Nat.lt_of_lt_of_le vc.2 (Nat.le_of_lt_succ hmI4)) (lv_sub hl [2, 3, 1, 0] rfl) hP hD hS
  exact lI4 _ 0 (msz x.toNatClampNeg) ls H locs vc0 (Nat.lt_succ_self _) (lv_sub hl [2, 3, 1, 0] rfl) hP hD hS
set_option maxHeartbeats 4000000 in
theorem v_Mo_textLength (mki : Nat → Int32) (msz : Nat → Int64) (mle : Nat → Int32) (mel : Nat → Int32) (mme : Nat → Int32) (mal : Nat → Int32) (mic : Nat → Int32) (mil : Nat → Int32) (mio : Nat → Int32) (mab : Nat → Int32) (mae : Nat → Int32) (msa : Nat → Int32) (mlc : Nat → Int32) (mli : Nat → Int32) (mna : Nat → Int32) (mva : Nat → Int32) (mma : Nat → Int32) (mch : Nat → Int32) (mre : Nat → Int32) (mlv : Nat → Int32) (mwr : Nat → Int64) (msh : Nat → Int32) (mth : Int32) (mnv : Int32) (mns : Int32) (mfa : Int32) (mmo : Int32) (x : Int32) (hpre : (vp_in x 40 ∧ ∃ t, t < 2 ^ 31 ∧ told 8 t = true ∧ msz x.toNatClampNeg = (nI t).toInt64)) : V_Mo_textLength mki msz mle mel mme mal mic mil mio mab mae msa mlc mli mna mva mma mch mre mlv mwr msh mth mnv mns mfa mmo x (fun v mki' msz' mle' mel' mme' mal' mic' mil' mio' mab' mae' msa' mlc' mli' mna' mva' mma' mch' mre' mlv' mwr' msh' mth' mnv' mns' mfa' mmo' => ((∀ t, t < 2 ^ 31 → told 8 t = true → msz x.toNatClampNeg = (nI t).toInt64 → v = nI (sTextLen 8 t))) ∧ mki' = mki ∧ msz' = msz ∧ mle' = mle ∧ mel' = mel ∧ mme' = mme ∧ mal' = mal ∧ mic' = mic ∧ mil' = mil ∧ mio' = mio ∧ mab' = mab ∧ mae' = mae ∧ msa' = msa ∧ mlc' = mlc ∧ mli' = mli ∧ mna' = mna ∧ mva' = mva ∧ mma' = mma ∧ mch' = mch ∧ mre' = mre ∧ mlv' = mlv ∧ mwr' = mwr ∧ msh' = msh ∧ mth' = mth ∧ mnv' = mnv ∧ mns' = mns ∧ mfa' = mfa ∧ mmo' = mmo) := by
  have main : ∀ post : Int32 → (Nat → Int32) → (Nat → Int64) → (Nat → Int32) → (Nat → Int32) → (Nat → Int32) → (Nat → Int32) → (Nat → Int32) → (Nat → Int32) → (Nat → Int32) → (Nat → Int32) → (Nat → Int32) → (Nat → Int32) → (Nat → Int32) → (Nat → Int32) → (Nat → Int32) → (Nat → Int32) → (Nat → Int32) → (Nat → Int32) → (Nat → Int32) → (Nat → Int32) → (Nat → Int64) → (Nat → Int32) → Int32 → Int32 → Int32 → Int32 → Int32 → Prop, (∀ v mki' msz' mle' mel' mme' mal' mic' mil' mio' mab' mae' msa' mlc' mli' mna' mva' mma' mch' mre' mlv' mwr' msh' mth' mnv' mns' mfa' mmo', (fun v mki' msz' mle' mel' mme' mal' mic' mil' mio' mab' mae' msa' mlc' mli' mna' mva' mma' mch' mre' mlv' mwr' msh' mth' mnv' mns' mfa' mmo' => ((∀ t, t < 2 ^ 31 → told 8 t = true → msz x.toNatClampNeg = (nI t).toInt64 → v = nI (sTextLen 8 t))) ∧ mki' = mki ∧ msz' = msz ∧ mle' = mle ∧ mel' = mel ∧ mme' = mme ∧ mal' = mal ∧ mic' = mic ∧ mil' = mil ∧ mio' = mio ∧ mab' = mab ∧ mae' = mae ∧ msa' = msa ∧ mlc' = mlc ∧ mli' = mli ∧ mna' = mna ∧ mva' = mva ∧ mma' = mma ∧ mch' = mch ∧ mre' = mre ∧ mlv' = mlv ∧ mwr' = mwr ∧ msh' = msh ∧ mth' = mth ∧ mnv' = mnv ∧ mns' = mns ∧ mfa' = mfa ∧ mmo' = mmo) v mki' msz' mle' mel' mme' mal' mic' mil' mio' mab' mae' msa' mlc' mli' mna' mva' mma' mch' mre' mlv' mwr' msh' mth' mnv' mns' mfa' mmo' → post v mki' msz' mle' mel' mme' mal' mic' mil' mio' mab' mae' msa' mlc' mli' mna' mva' mma' mch' mre' mlv' mwr' msh' mth' mnv' mns' mfa' mmo') → V_Mo_textLength mki msz mle mel mme mal mic mil mio mab mae msa mlc mli mna mva mma mch mre mlv mwr msh mth mnv mns mfa mmo x post := by
    intro post hpost
    unfold V_Mo_textLength
    obtain ⟨hx, t, ht, hto, et⟩ := hpre
    obtain ⟨d1, d2⟩ := told_len 8 t hto
    have hL := sTextLen_le 8 t
    rw [et]
    refine ⟨hx, fun z y => ∃ j, j ≤ sTextLen 8 t ∧ z = nI j ∧ y = lN (t / 5 ^ j), fun _ y => y.toInt.toNat, ⟨0, Nat.zero_le _, rfl, by rw [nI_l ht]; simp⟩, ?_⟩
    rintro z y ⟨j, hj, rfl, rfl⟩
    have hd := dig_lt t j ht
    have hd63 : t / 5 ^ j < 2 ^ 63 := Nat.lt_trans hd (by decide)
    have h0 : lN (t / 5 ^ j) ≤ 0 ↔ t / 5 ^ j = 0 := lN_le0 hd63
    rw [lg_le0, h0]
    refine ⟨fun h => (hpost _ _ _ _ _ _ _ _ _ _ _ _ _ _ _ _ _ _ _ _ _ _ _ _ _ _ _ _ ⟨fun t' ht' hto' e => ?_, rfl, rfl, rfl, rfl, rfl, rfl, rfl, rfl, rfl, rfl, rfl, rfl, rfl, rfl, rfl, rfl, rfl, rfl, rfl, rfl, rfl, rfl, rfl, rfl, rfl, rfl, rfl⟩), fun h => ?_⟩
    · rw [et, nI_l ht, nI_l ht', pk_lEQ (by omega) (by omega)] at e
      subst e
      rcases Nat.lt_or_ge j (sTextLen 8 t) with q | q
      · exact absurd (by rw [h]) (d1 j q)
      · rw [Nat.le_antisymm hj q]
    · have hj2 : j < sTextLen 8 t := by
        rcases Nat.lt_or_ge j (sTextLen 8 t) with q | q
        · exact q
        · rw [Nat.le_antisymm q hj] at d2; exact absurd d2 h
      have e5 : lN (t / 5 ^ j) / 5 = lN (t / 5 ^ (j + 1)) := by
        rw [show (5 : Int64) = lN 5 from rfl, pk_lDiv hd63 (by decide) (by decide), div_pow5]
      refine ⟨⟨j + 1, hj2, nI_1 j, e5⟩, ?_⟩
      show (lN (t / 5 ^ j) / 5).toInt.toNat < (lN (t / 5 ^ j)).toInt.toNat
      rw [e5, ← div_pow5]
      exact lN_mu hd h
  exact main _ (fun _ _ _ _ _ _ _ _ _ _ _ _ _ _ _ _ _ _ _ _ _ _ _ _ _ _ _ _ h => h)
theorem c_Mo_textLength (l : Launch) (D : va_G) (b : Nat → Nat) (cI cJ cZ : ClassId) (mki : Nat → Int32) (msz : Nat → Int64) (mle : Nat → Int32) (mel : Nat → Int32) (mme : Nat → Int32) (mal : Nat → Int32) (mic : Nat → Int32) (mil : Nat → Int32) (mio : Nat → Int32) (mab : Nat → Int32) (mae : Nat → Int32) (msa : Nat → Int32) (mlc : Nat → Int32) (mli : Nat → Int32) (mna : Nat → Int32) (mva : Nat → Int32) (mma : Nat → Int32) (mch : Nat → Int32) (mre : Nat → Int32) (mlv : Nat → Int32) (mwr : Nat → Int64) (msh : Nat → Int32) (mth : Int32) (mnv : Int32) (mns : Int32) (mfa : Int32) (mmo : Int32) (x : Int32) (hpre : (vp_in x 40 ∧ ∃ t, t < 2 ^ 31 ∧ told 8 t = true ∧ msz x.toNatClampNeg = (nI t).toInt64)) : Wm (S := Int32) l y_Mo_textLength b_Mo_textLength 5 (some .int) 0 0 [.ref (b 0), .int x] D (tyA cI cJ cZ) (wM b cI cJ cZ mki msz mle mel mme mal mic mil mio mab mae msa mlc mli mna mva mma mch mre mlv mwr msh mth mnv mns mfa mmo) (fun uu => (∀ t, t < 2 ^ 31 → told 8 t = true → msz x.toNatClampNeg = (nI t).toInt64 → uu = nI (sTextLen 8 t))) (fun uu => some (.int (uu))) (fun uu => (wM b cI cJ cZ mki msz mle mel mme mal mic mil mio mab mae msa mlc mli mna mva mma mch mre mlv mwr msh mth mnv mns mfa mmo)) :=
  wm_i (by decide) (fun _ _ => rfl) (Nat.le_of_ble_eq_true rfl) (fun p e s m below meth c ls Q A S hK hP hD hA hS hl hret => g_Mo_textLength S (Nat.le_refl _) (Nat.le_refl _) ⟨Nat.le_refl _, Nat.le_refl _⟩ D b cI cJ cZ mki msz mle mel mme mal mic mil mio mab mae msa mlc mli mna mva mma mch mre mlv mwr msh mth mnv mns mfa mmo x hK hP hD hA hS hl (v_Mo_textLength mki msz mle mel mme mal mic mil mio mab mae msa mlc mli mna mva mma mch mre mlv mwr msh mth mnv mns mfa mmo x hpre) (fun v mki' msz' mle' mel' mme' mal' mic' mil' mio' mab' mae' msa' mlc' mli' mna' mva' mma' mch' mre' mlv' mwr' msh' mth' mnv' mns' mfa' mmo' ls1 pc H1 locs1 hd hv hP1 hD1 hS1 => by obtain ⟨hp, rfl, rfl, rfl, rfl, rfl, rfl, rfl, rfl, rfl, rfl, rfl, rfl, rfl, rfl, rfl, rfl, rfl, rfl, rfl, rfl, rfl, rfl, rfl, rfl, rfl, rfl, rfl⟩ := hv; exact hret v _ ls1 pc H1 locs1 hd hp rfl hP1 hD1 hS1))
theorem hd_Mo_textLength : y_Mo_textLength.cls ≠ "java/lang/invoke/MethodHandle" ∧ y_Mo_textLength.cls ≠ "java/lang/invoke/VarHandle" ∧ (parseMethodDescriptor y_Mo_textLength.desc).map (fun d => d.parameters.length) = some 1 := ⟨by decide, by decide, by decide +kernel⟩
def V_Mo_unique (mki : Nat → Int32) (msz : Nat → Int64) (mle : Nat → Int32) (mel : Nat → Int32) (mme : Nat → Int32) (mal : Nat → Int32) (mic : Nat → Int32) (mil : Nat → Int32) (mio : Nat → Int32) (mab : Nat → Int32) (mae : Nat → Int32) (msa : Nat → Int32) (mlc : Nat → Int32) (mli : Nat → Int32) (mna : Nat → Int32) (mva : Nat → Int32) (mma : Nat → Int32) (mch : Nat → Int32) (mre : Nat → Int32) (mlv : Nat → Int32) (mwr : Nat → Int64) (msh : Nat → Int32) (mth : Int32) (mnv : Int32) (mns : Int32) (mfa : Int32) (mmo : Int32) (x : Int32) (post : Int32 → (Nat → Int32) → (Nat → Int64) → (Nat → Int32) → (Nat → Int32) → (Nat → Int32) → (Nat → Int32) → (Nat → Int32) → (Nat → Int32) → (Nat → Int32) → (Nat → Int32) → (Nat → Int32) → (Nat → Int32) → (Nat → Int32) → (Nat → Int32) → (Nat → Int32) → (Nat → Int32) → (Nat → Int32) → (Nat → Int32) → (Nat → Int32) → (Nat → Int32) → (Nat → Int64) → (Nat → Int32) → Int32 → Int32 → Int32 → Int32 → Int32 → Prop) : Prop :=
  (∃ (I11 : Int32 → Int32 → Prop) (mI11 : Int32 → Int32 → Nat), I11 0 1 ∧ (∀ (x9 : Int32) (x10 : Int32), I11 x9 x10 → (vp_in x 40 ∧ (((mle x.toNatClampNeg) ≤ x9 → post x10 mki msz mle mel mme mal mic mil mio mab mae msa mlc mli mna mva mma mch mre mlv mwr msh mth mnv mns mfa mmo) ∧ (¬ (mle x.toNatClampNeg) ≤ x9 → (∃ (I15 : Int32 → Int32 → Prop) (mI15 : Int32 → Int32 → Nat), I15 x10 0 ∧ (∀ (x13 : Int32) (x14 : Int32), I15 x13 x14 → ((x9 ≤ x14 → (I11 (x9 + 1) x13 ∧ mI11 (x9 + 1) x13 < mI11 x9 x10)) ∧ (¬ x9 ≤ x14 → ((x13 = 0 → (I15 0 (x14 + 1) ∧ mI15 0 (x14 + 1) < mI15 x13 x14)) ∧ (¬ x13 = 0 → (vp_in ((8 * x) + x9) 320 ∧ (vp_in (mel ((8 * x) + x9 : Int32).toNatClampNeg) 40 ∧ (vp_in ((8 * x) + x14) 320 ∧ (vp_in (mel ((8 * x) + x14 : Int32).toNatClampNeg) 40 ∧ (((mal (mel ((8 * x) + x9 : Int32).toNatClampNeg : Int32).toNatClampNeg) = (mal (mel ((8 * x) + x14 : Int32).toNatClampNeg : Int32).toNatClampNeg) → (I15 0 (x14 + 1) ∧ mI15 0 (x14 + 1) < mI15 x13 x14)) ∧ (¬ (mal (mel ((8 * x) + x9 : Int32).toNatClampNeg : Int32).toNatClampNeg) = (mal (mel ((8 * x) + x14 : Int32).toNatClampNeg : Int32).toNatClampNeg) → (I15 1 (x14 + 1) ∧ mI15 1 (x14 + 1) < mI15 x13 x14))))))))))))))))))
set_option maxHeartbeats 4000000 in
set_option maxRecDepth 100000 in
theorem g_Mo_unique {p : Program} {l : Launch} {e : Env} {R : Room} {s : State} {m : MethodId} {args : Array Value} {below : List Frame} {meth : Method} {c : Code} {H : Heap} {locs : List Loc} {cells slots : Nat} {Q : State → Prop} {ls : Array Slot} {A : Nat → Prop} (S : CallFix p m c b_Mo_unique 5 s args W0 R_Mo) (hRf : 0 ≤ R.frames) (hRl : 0 ≤ R.locals) (hRc : cells ≤ R.cells ∧ slots ≤ R.slots) (D : va_G) (b : Nat → Nat) (cI cJ cZ : ClassId) (mki : Nat → Int32) (msz : Nat → Int64) (mle : Nat → Int32) (mel : Nat → Int32) (mme : Nat → Int32) (mal : Nat → Int32) (mic : Nat → Int32) (mil : Nat → Int32) (mio : Nat → Int32) (mab : Nat → Int32) (mae : Nat → Int32) (msa : Nat → Int32) (mlc : Nat → Int32) (mli : Nat → Int32) (mna : Nat → Int32) (mva : Nat → Int32) (mma : Nat → Int32) (mch : Nat → Int32) (mre : Nat → Int32) (mlv : Nat → Int32) (mwr : Nat → Int64) (msh : Nat → Int32) (mth : Int32) (mnv : Int32) (mns : Int32) (mfa : Int32) (mmo : Int32) (x : Int32) (hK : va_K D vwCl (tyA cI cJ cZ) s) (hP : va_P D vwCl (wM b cI cJ cZ mki msz mle mel mme mal mic mil mio mab mae msa mlc mli mna mva mma mch mre mlv mwr msh mth mnv mns mfa mmo) H) (hD : va_D A (wM b cI cJ cZ mki msz mle mel mme mal mic mil mio mab mae msa mlc mli mna mva mma mch mre mlv mwr msh mth mnv mns mfa mmo)) (hA : ∀ q, s.heap.size ≤ q → A q) (hS : va_S A s.heap H locs) (hl : lv_has ls 5 [(0, .ref (b 0)), (1, .int x)]) {post : Int32 → (Nat → Int32) → (Nat → Int64) → (Nat → Int32) → (Nat → Int32) → (Nat → Int32) → (Nat → Int32) → (Nat → Int32) → (Nat → Int32) → (Nat → Int32) → (Nat → Int32) → (Nat → Int32) → (Nat → Int32) → (Nat → Int32) → (Nat → Int32) → (Nat → Int32) → (Nat → Int32) → (Nat → Int32) → (Nat → Int32) → (Nat → Int32) → (Nat → Int32) → (Nat → Int64) → (Nat → Int32) → Int32 → Int32 → Int32 → Int32 → Int32 → Prop} (vc : V_Mo_unique mki msz mle mel mme mal mic mil mio mab mae msa mlc mli mna mva mma mch mre mlv mwr msh mth mnv mns mfa mmo x post)
    (hret : ∀ (v : Int32) (mki : Nat → Int32) (msz : Nat → Int64) (mle : Nat → Int32) (mel : Nat → Int32) (mme : Nat → Int32) (mal : Nat → Int32) (mic : Nat → Int32) (mil : Nat → Int32) (mio : Nat → Int32) (mab : Nat → Int32) (mae : Nat → Int32) (msa : Nat → Int32) (mlc : Nat → Int32) (mli : Nat → Int32) (mna : Nat → Int32) (mva : Nat → Int32) (mma : Nat → Int32) (mch : Nat → Int32) (mre : Nat → Int32) (mlv : Nat → Int32) (mwr : Nat → Int64) (msh : Nat → Int32) (mth : Int32) (mnv : Int32) (mns : Int32) (mfa : Int32) (mmo : Int32) (ls : Array Slot) (pc : Nat) (H : Heap) (locs : List Loc), decode b_Mo_unique pc = .ok (.ireturn, 1) → post v mki msz mle mel mme mal mic mil mio mab mae msa mlc mli mna mva mma mch mre mlv mwr msh mth mnv mns mfa mmo → va_P D vwCl (wM b cI cJ cZ mki msz mle mel mme mal mic mil mio mab mae msa mlc mli mna mva mma mch mre mlv mwr msh mth mnv mns mfa mmo) H → va_D A (wM b cI cJ cZ mki msz mle mel mme mal mic mil mio mab mae msa mlc mli mna mva mma mch mre mlv mwr msh mth mnv mns mfa mmo) → va_S A s.heap H locs → W p l e R s m args below meth c H locs cells slots Q (F0 m pc ls [.int v])) : W p l e R s m args below meth c H locs cells slots Q (F0 m 0 ls []) := by
  have hx := S.1
  have hb := S.2.1
  have hown := S.2.2.2.1
  have hts := S.2.2.2.2
  unfold V_Mo_unique at vc
  refine lv_iconst (v := 1) hx hb d_Mo_unique_0 (by decide) ?_
  refine lv_istore_n hx hb d_Mo_unique_1 rfl hl (by decide) (lv' := [(2, .int 1), (0, .ref (b 0)), (1, .int x)]) rfl (fun ls hl => ?_)
  refine lv_iconst (v := 0) hx hb d_Mo_unique_2 (by decide) ?_
  refine lv_istore_n hx hb d_Mo_unique_3 rfl hl (by decide) (lv' := [(3, .int 0), (2, .int 1), (0, .ref (b 0)), (1, .int x)]) rfl (fun ls hl => ?_)
  obtain ⟨I11, mI11, vc0, vcs⟩ := vc
  have lI11 : ∀ n : Nat, ∀ (x9 : Int32) (x10 : Int32) (ls : Array Slot) (H : Heap) (locs : List Loc), I11 x9 x10 → mI11 x9 x10 < n → lv_has ls 5 [(0, .ref (b 0)), (1, .int x), (2, .int x10), (3, .int x9)] → va_P D vwCl (wM b cI cJ cZ mki msz mle mel mme mal mic mil mio mab mae msa mlc mli mna mva mma mch mre mlv mwr msh mth mnv mns mfa mmo) H → va_D A (wM b cI cJ cZ mki msz mle mel mme mal mic mil mio mab mae msa mlc mli mna mva mma mch mre mlv mwr msh mth mnv mns mfa mmo) → va_S A s.heap H locs → W p l e R s m args below meth c H locs cells slots Q (F0 m 4 ls []) := by
    intro n
    induction n with
    | zero => intro x9 x10 ls H locs _ h; exact absurd h (Nat.not_lt_zero _)
    | succ n ihI11 =>
      intro x9 x10 ls H locs vc hmI11 hl hP hD hS
      have vc := vcs x9 x10 vc
      refine lv_iload_n hx hb d_Mo_unique_4 rfl (lv_at hl 3 rfl) ?_
      refine lv_aload_n hx hb d_Mo_unique_5 rfl (lv_at hl 0 rfl) ?_
      refine va_get (D := D) (ci := 6) (v := .ref (b 3)) (C := R_Mo) (T := F_Mo) (N := 27) hx hb hts in_Mo hown hK hP 0 rfl rfl 4 (by decide) (hts _ fl_Mo_17) (fun _ h => h) rfl d_Mo_unique_6 ?_
      refine lv_iload_n hx hb d_Mo_unique_9 rfl (lv_at hl 1 rfl) ?_
      obtain ⟨vcb, vc⟩ := vc
      refine va_iald hx hb hK hP 3 0 rfl rfl vcb d_Mo_unique_10 ?_
      refine lv_icmp_ge (tgt := 81) hx hb d_Mo_unique_11 (by decide) (fun h => ?_) (fun h => ?_)
      · have vc := vc.1 h
        refine lv_iload_n hx hb d_Mo_unique_81 rfl (lv_at hl 2 rfl) ?_
        exact hret _ _ _ _ _ _ _ _ _ _ _ _ _ _ _ _ _ _ _ _ _ _ _ _ _ _ _ _ ls _ H locs d_Mo_unique_82 vc hP hD hS
      · have vc := vc.2 h
        refine lv_iconst (v := 0) hx hb d_Mo_unique_14 (by decide) ?_
        refine lv_istore hx hb d_Mo_unique_15 hl (by decide) (lv' := [(4, .int 0), (0, .ref (b 0)), (1, .int x), (2, .int x10), (3, .int x9)]) rfl (fun ls hl => ?_)
        obtain ⟨I15, mI15, vc0, vcs⟩ := vc
        have lI15 : ∀ n : Nat, ∀ (x13 : Int32) (x14 : Int32) (ls : Array Slot) (H : Heap) (locs : List Loc), I15 x13 x14 → mI15 x13 x14 < n → lv_has ls 5 [(0, .ref (b 0)), (1, .int x), (2, .int x13), (3, .int x9), (4, .int x14)] → va_P D vwCl (wM b cI cJ cZ mki msz mle mel mme mal mic mil mio mab mae msa mlc mli mna mva mma mch mre mlv mwr msh mth mnv mns mfa mmo) H → va_D A (wM b cI cJ cZ mki msz mle mel mme mal mic mil mio mab mae msa mlc mli mna mva mma mch mre mlv mwr msh mth mnv mns mfa mmo) → va_S A s.heap H locs → W p l e R s m args below meth c H locs cells slots Q (F0 m 17 ls []) := by
          intro n
          induction n with
          | zero => intro x13 x14 ls H locs _ h; exact absurd h (Nat.not_lt_zero _)
          | succ n ihI15 =>
            intro x13 x14 ls H locs vc hmI15 hl hP hD hS
            have vc := vcs x13 x14 vc
            refine lv_iload hx hb d_Mo_unique_17 (lv_at hl 4 rfl) ?_
            refine lv_iload_n hx hb d_Mo_unique_19 rfl (lv_at hl 3 rfl) ?_
            refine lv_icmp_ge (tgt := 75) hx hb d_Mo_unique_20 (by decide) (fun h => ?_) (fun h => ?_)
            · have vc := vc.1 h
              refine lv_iinc (k := 3) (v := x9 + 1) hx hb d_Mo_unique_75 hl rfl rfl (by decide) (lv' := [(3, .int (x9 + 1)), (0, .ref (b 0)), (1, .int x), (2, .int x13), (4, .int x14)]) rfl (fun ls hl => ?_)
              refine lv_goto (tgt := 4) hx hb d_Mo_unique_78 (by decide) ?_
              exact ihI11 (x9 + 1) x13 ls H locs vc.1 (Nat.lt_of_lt_of_le vc.2 (Nat.le_of_lt_succ hmI11)) (lv_sub hl [1, 2, 3, 0] rfl) hP hD hS
            · have vc := vc.2 h
              refine lv_iload_n hx hb d_Mo_unique_23 rfl (lv_at hl 2 rfl) ?_
              refine lv_if_eq (tgt := 67) hx hb d_Mo_unique_24 (by decide) (fun h => ?_) (fun h => ?_)
              · have vc := vc.1 h
                refine lv_iconst (v := 0) hx hb d_Mo_unique_67 (by decide) ?_
                refine lv_istore_n hx hb d_Mo_unique_68 rfl hl (by decide) (lv' := [(2, .int 0), (0, .ref (b 0)), (1, .int x), (3, .int x9), (4, .int x14)]) rfl (fun ls hl => ?_)
                refine lv_iinc (k := 4) (v := x14 + 1) hx hb d_Mo_unique_69 hl rfl rfl (by decide) (lv' := [(4, .int (x14 + 1)), (2, .int 0), (0, .ref (b 0)), (1, .int x), (3, .int x9)]) rfl (fun ls hl => ?_)
                refine lv_goto (tgt := 17) hx hb d_Mo_unique_72 (by decide) ?_
                exact ihI15 0 (x14 + 1) ls H locs vc.1 (Nat.lt_of_lt_of_le vc.2 (Nat.le_of_lt_succ hmI15)) (lv_sub hl [2, 3, 1, 4, 0] rfl) hP hD hS
              · have vc := vc.2 h
                refine lv_aload_n hx hb d_Mo_unique_27 rfl (lv_at hl 0 rfl) ?_
                refine va_get (D := D) (ci := 6) (v := .ref (b 6)) (C := R_Mo) (T := F_Mo) (N := 27) hx hb hts in_Mo hown hK hP 0 rfl rfl 7 (by decide) (hts _ fl_Mo_26) (fun _ h => h) rfl d_Mo_unique_28 ?_
                refine lv_aload_n hx hb d_Mo_unique_31 rfl (lv_at hl 0 rfl) ?_
                refine va_get (D := D) (ci := 6) (v := .ref (b 4)) (C := R_Mo) (T := F_Mo) (N := 27) hx hb hts in_Mo hown hK hP 0 rfl rfl 5 (by decide) (hts _ fl_Mo_20) (fun _ h => h) rfl d_Mo_unique_32 ?_
                refine lv_bipush (v := 8) hx hb d_Mo_unique_35 (by decide) ?_
                refine lv_iload_n hx hb d_Mo_unique_37 rfl (lv_at hl 1 rfl) ?_
                refine lv_imul hx hb d_Mo_unique_38 ?_
                refine lv_iload_n hx hb d_Mo_unique_39 rfl (lv_at hl 3 rfl) ?_
                refine lv_iadd hx hb d_Mo_unique_40 ?_
                obtain ⟨vcb, vc⟩ := vc
                refine va_iald hx hb hK hP 4 0 rfl rfl vcb d_Mo_unique_41 ?_
                obtain ⟨vcb, vc⟩ := vc
                refine va_iald hx hb hK hP 6 0 rfl rfl vcb d_Mo_unique_42 ?_
                refine lv_aload_n hx hb d_Mo_unique_43 rfl (lv_at hl 0 rfl) ?_
                refine va_get (D := D) (ci := 6) (v := .ref (b 6)) (C := R_Mo) (T := F_Mo) (N := 27) hx hb hts in_Mo hown hK hP 0 rfl rfl 7 (by decide) (hts _ fl_Mo_26) (fun _ h => h) rfl d_Mo_unique_44 ?_
                refine lv_aload_n hx hb d_Mo_unique_47 rfl (lv_at hl 0 rfl) ?_
                refine va_get (D := D) (ci := 6) (v := .ref (b 4)) (C := R_Mo) (T := F_Mo) (N := 27) hx hb hts in_Mo hown hK hP 0 rfl rfl 5 (by decide) (hts _ fl_Mo_20) (fun _ h => h) rfl d_Mo_unique_48 ?_
                refine lv_bipush (v := 8) hx hb d_Mo_unique_51 (by decide) ?_
                refine lv_iload_n hx hb d_Mo_unique_53 rfl (lv_at hl 1 rfl) ?_
                refine lv_imul hx hb d_Mo_unique_54 ?_
                refine lv_iload hx hb d_Mo_unique_55 (lv_at hl 4 rfl) ?_
                refine lv_iadd hx hb d_Mo_unique_57 ?_
                obtain ⟨vcb, vc⟩ := vc
                refine va_iald hx hb hK hP 4 0 rfl rfl vcb d_Mo_unique_58 ?_
                obtain ⟨vcb, vc⟩ := vc
                refine va_iald hx hb hK hP 6 0 rfl rfl vcb d_Mo_unique_59 ?_
                refine lv_icmp_eq (tgt := 67) hx hb d_Mo_unique_60 (by decide) (fun h => ?_) (fun h => ?_)
                · have vc := vc.1 h
                  refine lv_iconst (v := 0) hx hb d_Mo_unique_67 (by decide) ?_
                  refine lv_istore_n hx hb d_Mo_unique_68 rfl hl (by decide) (lv' := [(2, .int 0), (0, .ref (b 0)), (1, .int x), (3, .int x9), (4, .int x14)]) rfl (fun ls hl => ?_)
                  refine lv_iinc (k := 4) (v := x14 + 1) hx hb d_Mo_unique_69 hl rfl rfl (by decide) (lv' := [(4, .int (x14 + 1)), (2, .int 0), (0, .ref (b 0)), (1, .int x), (3, .int x9)]) rfl (fun ls hl => ?_)
                  refine lv_goto (tgt := 17) hx hb d_Mo_unique_72 (by decide) ?_
                  exact ihI15 0 (x14 + 1) ls H locs vc.1 (Nat.lt_of_lt_of_le vc.2 (Nat.le_of_lt_succ hmI15)) (lv_sub hl [2, 3, 1, 4, 0] rfl) hP hD hS
                · have vc := vc.2 h
                  refine lv_iconst (v := 1) hx hb d_Mo_unique_63 (by decide) ?_
                  refine lv_goto (tgt := 68) hx hb d_Mo_unique_64 (by decide) ?_
                  refine lv_istore_n hx hb d_Mo_unique_68 rfl hl (by decide) (lv' := [(2, .int 1), (0, .ref (b 0)), (1, .int x), (3, .int x9), (4, .int x14)]) rfl (fun ls hl => ?_)
                  refine lv_iinc (k := 4) (v := x14 + 1) hx hb d_Mo_unique_69 hl rfl rfl (by decide) (lv' := [(4, .int (x14 + 1)), (2, .int 1), (0, .ref (b 0)), (1, .int x), (3, .int x9)]) rfl (fun ls hl => ?_)
                  refine lv_goto (tgt := 17) hx hb d_Mo_unique_72 (by decide) ?_
                  exact ihI15 1 (x14 + 1) ls H locs vc.1 (Nat.lt_of_lt_of_le vc.2 (Nat.le_of_lt_succ hmI15)) (lv_sub hl [2, 3, 1, 4, 0] rfl) hP hD hS
        exact lI15 _ x10 0 ls H locs vc0 (Nat.lt_succ_self _) (lv_sub hl [1, 2, 3, 4, 0] rfl) hP hD hS
  exact lI11 _ 0 1 ls H locs vc0 (Nat.lt_succ_self _) (lv_sub hl [2, 3, 1, 0] rfl) hP hD hS
set_option maxHeartbeats 4000000 in
theorem v_Mo_unique (mki : Nat → Int32) (msz : Nat → Int64) (mle : Nat → Int32) (mel : Nat → Int32) (mme : Nat → Int32) (mal : Nat → Int32) (mic : Nat → Int32) (mil : Nat → Int32) (mio : Nat → Int32) (mab : Nat → Int32) (mae : Nat → Int32) (msa : Nat → Int32) (mlc : Nat → Int32) (mli : Nat → Int32) (mna : Nat → Int32) (mva : Nat → Int32) (mma : Nat → Int32) (mch : Nat → Int32) (mre : Nat → Int32) (mlv : Nat → Int32) (mwr : Nat → Int64) (msh : Nat → Int32) (mth : Int32) (mnv : Int32) (mns : Int32) (mfa : Int32) (mmo : Int32) (x : Int32) (hpre : (vp_in x 40 ∧ (∃ L, L ≤ 8 ∧ mle x.toNatClampNeg = nI L) ∧ ∀ j, j < 320 → vp_in (mel j) 40)) : V_Mo_unique mki msz mle mel mme mal mic mil mio mab mae msa mlc mli mna mva mma mch mre mlv mwr msh mth mnv mns mfa mmo x (fun v mki' msz' mle' mel' mme' mal' mic' mil' mio' mab' mae' msa' mlc' mli' mna' mva' mma' mch' mre' mlv' mwr' msh' mth' mnv' mns' mfa' mmo' => ∃ rr : Bool, v = bI rr ∧ ((rr = true ↔ ∀ i j, i < (mle x.toNatClampNeg).toNatClampNeg → j < i → mal (mel (8 * x.toNatClampNeg + i)).toNatClampNeg ≠ mal (mel (8 * x.toNatClampNeg + j)).toNatClampNeg)) ∧ mki' = mki ∧ msz' = msz ∧ mle' = mle ∧ mel' = mel ∧ mme' = mme ∧ mal' = mal ∧ mic' = mic ∧ mil' = mil ∧ mio' = mio ∧ mab' = mab ∧ mae' = mae ∧ msa' = msa ∧ mlc' = mlc ∧ mli' = mli ∧ mna' = mna ∧ mva' = mva ∧ mma' = mma ∧ mch' = mch ∧ mre' = mre ∧ mlv' = mlv ∧ mwr' = mwr ∧ msh' = msh ∧ mth' = mth ∧ mnv' = mnv ∧ mns' = mns ∧ mfa' = mfa ∧ mmo' = mmo) := by
  have main : ∀ post : Int32 → (Nat → Int32) → (Nat → Int64) → (Nat → Int32) → (Nat → Int32) → (Nat → Int32) → (Nat → Int32) → (Nat → Int32) → (Nat → Int32) → (Nat → Int32) → (Nat → Int32) → (Nat → Int32) → (Nat → Int32) → (Nat → Int32) → (Nat → Int32) → (Nat → Int32) → (Nat → Int32) → (Nat → Int32) → (Nat → Int32) → (Nat → Int32) → (Nat → Int32) → (Nat → Int64) → (Nat → Int32) → Int32 → Int32 → Int32 → Int32 → Int32 → Prop, (∀ v mki' msz' mle' mel' mme' mal' mic' mil' mio' mab' mae' msa' mlc' mli' mna' mva' mma' mch' mre' mlv' mwr' msh' mth' mnv' mns' mfa' mmo', (fun v mki' msz' mle' mel' mme' mal' mic' mil' mio' mab' mae' msa' mlc' mli' mna' mva' mma' mch' mre' mlv' mwr' msh' mth' mnv' mns' mfa' mmo' => ∃ rr : Bool, v = bI rr ∧ ((rr = true ↔ ∀ i j, i < (mle x.toNatClampNeg).toNatClampNeg → j < i → mal (mel (8 * x.toNatClampNeg + i)).toNatClampNeg ≠ mal (mel (8 * x.toNatClampNeg + j)).toNatClampNeg)) ∧ mki' = mki ∧ msz' = msz ∧ mle' = mle ∧ mel' = mel ∧ mme' = mme ∧ mal' = mal ∧ mic' = mic ∧ mil' = mil ∧ mio' = mio ∧ mab' = mab ∧ mae' = mae ∧ msa' = msa ∧ mlc' = mlc ∧ mli' = mli ∧ mna' = mna ∧ mva' = mva ∧ mma' = mma ∧ mch' = mch ∧ mre' = mre ∧ mlv' = mlv ∧ mwr' = mwr ∧ msh' = msh ∧ mth' = mth ∧ mnv' = mnv ∧ mns' = mns ∧ mfa' = mfa ∧ mmo' = mmo) v mki' msz' mle' mel' mme' mal' mic' mil' mio' mab' mae' msa' mlc' mli' mna' mva' mma' mch' mre' mlv' mwr' msh' mth' mnv' mns' mfa' mmo' → post v mki' msz' mle' mel' mme' mal' mic' mil' mio' mab' mae' msa' mlc' mli' mna' mva' mma' mch' mre' mlv' mwr' msh' mth' mnv' mns' mfa' mmo') → V_Mo_unique mki msz mle mel mme mal mic mil mio mab mae msa mlc mli mna mva mma mch mre mlv mwr msh mth mnv mns mfa mmo x post := by
    intro post hpost
    unfold V_Mo_unique
    obtain ⟨hx, ⟨L, hL, eL⟩, hel⟩ := hpre
    obtain ⟨v, hv, rfl, hcv⟩ := vp_nat hx (by decide)
    rw [hcv] at eL
    have cL : (nI L).toNatClampNeg = L := nI_clamp (by omega)
    simp only [hcv, eL, cL] at hpost ⊢
    refine ⟨fun xi z => ∃ i b, i ≤ L ∧ xi = nI i ∧ z = bI b ∧ (b = true ↔ ∀ i' j, i' < i → j < i' → mal (mel (8 * v + i')).toNatClampNeg ≠ mal (mel (8 * v + j)).toNatClampNeg), fun xi _ => L - xi.toInt.toNat, ⟨0, true, Nat.zero_le _, rfl, rfl, ⟨fun _ i' j q => absurd q (Nat.not_lt_zero _), fun _ => rfl⟩⟩, ?_⟩
    rintro xi z ⟨i, b, hi, rfl, rfl, hb⟩
    refine ⟨hx, fun h => ?_, fun h => ?_⟩
    · obtain rfl := (fill_end (N := L) h (by omega) hi).symm
      exact (hpost _ _ _ _ _ _ _ _ _ _ _ _ _ _ _ _ _ _ _ _ _ _ _ _ _ _ _ _ ⟨b, rfl, hb, rfl, rfl, rfl, rfl, rfl, rfl, rfl, rfl, rfl, rfl, rfl, rfl, rfl, rfl, rfl, rfl, rfl, rfl, rfl, rfl, rfl, rfl, rfl, rfl, rfl, rfl, rfl⟩)
    · have hi2 := fill_step (N := L) h (by omega) hi
      refine ⟨fun z xj => ∃ j c, j ≤ i ∧ xj = nI j ∧ z = bI c ∧ (c = true ↔ b = true ∧ ∀ j', j' < j → mal (mel (8 * v + i)).toNatClampNeg ≠ mal (mel (8 * v + j')).toNatClampNeg), fun _ xj => i - xj.toInt.toNat, ⟨0, b, Nat.zero_le _, rfl, rfl, ⟨fun q => ⟨q, fun j' w => absurd w (Nat.not_lt_zero _)⟩, fun q => q.1⟩⟩, ?_⟩
      rintro z xj ⟨j, c, hj, rfl, rfl, hc⟩
      refine ⟨fun h2 => ?_, fun h2 => ?_⟩
      · obtain rfl := (fill_end (N := i) h2 (by omega) hj).symm
        refine ⟨⟨i + 1, c, hi2, nI_1 i, rfl, ?_⟩, fill_mu hi2 (by omega)⟩
        rw [hc, hb]
        constructor
        · rintro ⟨q1, q2⟩ i' j' w1 w2
          by_cases e : i' = i
          · subst e; exact q2 j' w2
          · exact q1 i' j' (by omega) w2
        · intro q; exact ⟨fun i' j' w1 w2 => q i' j' (by omega) w2, fun j' w => q i j' (by omega) w⟩
      · have hj2 := fill_step (N := i) h2 (by omega) hj
        have mu := fill_mu (N := i) hj2 (by omega)
        have ci : (nI (8 * v + i)).toNatClampNeg = 8 * v + i := nI_clamp (by omega)
        have cj : (nI (8 * v + j)).toNatClampNeg = 8 * v + j := nI_clamp (by omega)
        rw [jx8v, jx8v, ci, cj]
        refine ⟨fun h3 => ⟨⟨j + 1, false, hj2, nI_1 j, rfl, ⟨fun q => absurd q (by decide), fun q => ?_⟩⟩, mu⟩, fun h3 => ⟨vp_in_nI (by omega) (by decide), hel _ (by omega), vp_in_nI (by omega) (by decide), hel _ (by omega), fun h4 => ⟨⟨j + 1, false, hj2, nI_1 j, rfl, ⟨fun q => absurd q (by decide), fun q => absurd h4 (q.2 j (by omega))⟩⟩, mu⟩, fun h4 => ⟨⟨j + 1, true, hj2, nI_1 j, rfl, ⟨fun _ => ?_, fun _ => rfl⟩⟩, mu⟩⟩⟩
        · have := hc.mpr ⟨q.1, fun j' w => q.2 j' (by omega)⟩
          rw [bI0.mp h3] at this; exact absurd this (by decide)
        · obtain ⟨q1, q2⟩ := hc.mp (bI_ne.mp h3)
          refine ⟨q1, fun j' w => ?_⟩
          by_cases e : j' = j
          · subst e; exact h4
          · exact q2 j' (by omega)
  exact main _ (fun _ _ _ _ _ _ _ _ _ _ _ _ _ _ _ _ _ _ _ _ _ _ _ _ _ _ _ _ h => h)
theorem c_Mo_unique (l : Launch) (D : va_G) (b : Nat → Nat) (cI cJ cZ : ClassId) (mki : Nat → Int32) (msz : Nat → Int64) (mle : Nat → Int32) (mel : Nat → Int32) (mme : Nat → Int32) (mal : Nat → Int32) (mic : Nat → Int32) (mil : Nat → Int32) (mio : Nat → Int32) (mab : Nat → Int32) (mae : Nat → Int32) (msa : Nat → Int32) (mlc : Nat → Int32) (mli : Nat → Int32) (mna : Nat → Int32) (mva : Nat → Int32) (mma : Nat → Int32) (mch : Nat → Int32) (mre : Nat → Int32) (mlv : Nat → Int32) (mwr : Nat → Int64) (msh : Nat → Int32) (mth : Int32) (mnv : Int32) (mns : Int32) (mfa : Int32) (mmo : Int32) (x : Int32) (hpre : (vp_in x 40 ∧ (∃ L, L ≤ 8 ∧ mle x.toNatClampNeg = nI L) ∧ ∀ j, j < 320 → vp_in (mel j) 40)) : Wm (S := Bool) l y_Mo_unique b_Mo_unique 5 (some .boolean) 0 0 [.ref (b 0), .int x] D (tyA cI cJ cZ) (wM b cI cJ cZ mki msz mle mel mme mal mic mil mio mab mae msa mlc mli mna mva mma mch mre mlv mwr msh mth mnv mns mfa mmo) (fun uu => (uu = true ↔ ∀ i j, i < (mle x.toNatClampNeg).toNatClampNeg → j < i → mal (mel (8 * x.toNatClampNeg + i)).toNatClampNeg ≠ mal (mel (8 * x.toNatClampNeg + j)).toNatClampNeg)) (fun uu => some (.int (bI uu))) (fun uu => (wM b cI cJ cZ mki msz mle mel mme mal mic mil mio mab mae msa mlc mli mna mva mma mch mre mlv mwr msh mth mnv mns mfa mmo)) :=
  wm_i (by decide) (fun _ _ => bI_nar _) (Nat.le_of_ble_eq_true rfl) (fun p e s m below meth c ls Q A S hK hP hD hA hS hl hret => g_Mo_unique S (Nat.le_refl _) (Nat.le_refl _) ⟨Nat.le_refl _, Nat.le_refl _⟩ D b cI cJ cZ mki msz mle mel mme mal mic mil mio mab mae msa mlc mli mna mva mma mch mre mlv mwr msh mth mnv mns mfa mmo x hK hP hD hA hS hl (v_Mo_unique mki msz mle mel mme mal mic mil mio mab mae msa mlc mli mna mva mma mch mre mlv mwr msh mth mnv mns mfa mmo x hpre) (fun v mki' msz' mle' mel' mme' mal' mic' mil' mio' mab' mae' msa' mlc' mli' mna' mva' mma' mch' mre' mlv' mwr' msh' mth' mnv' mns' mfa' mmo' ls1 pc H1 locs1 hd hv hP1 hD1 hS1 => by obtain ⟨rr, rfl, hp, rfl, rfl, rfl, rfl, rfl, rfl, rfl, rfl, rfl, rfl, rfl, rfl, rfl, rfl, rfl, rfl, rfl, rfl, rfl, rfl, rfl, rfl, rfl, rfl, rfl, rfl, rfl⟩ := hv; exact hret rr _ ls1 pc H1 locs1 hd hp rfl hP1 hD1 hS1))
theorem hd_Mo_unique : y_Mo_unique.cls ≠ "java/lang/invoke/MethodHandle" ∧ y_Mo_unique.cls ≠ "java/lang/invoke/VarHandle" ∧ (parseMethodDescriptor y_Mo_unique.desc).map (fun d => d.parameters.length) = some 1 := ⟨by decide, by decide, by decide +kernel⟩
def V_Mo_among (mki : Nat → Int32) (msz : Nat → Int64) (mle : Nat → Int32) (mel : Nat → Int32) (mme : Nat → Int32) (mal : Nat → Int32) (mic : Nat → Int32) (mil : Nat → Int32) (mio : Nat → Int32) (mab : Nat → Int32) (mae : Nat → Int32) (msa : Nat → Int32) (mlc : Nat → Int32) (mli : Nat → Int32) (mna : Nat → Int32) (mva : Nat → Int32) (mma : Nat → Int32) (mch : Nat → Int32) (mre : Nat → Int32) (mlv : Nat → Int32) (mwr : Nat → Int64) (msh : Nat → Int32) (mth : Int32) (mnv : Int32) (mns : Int32) (mfa : Int32) (mmo : Int32) (x : Int32) (y : Int32) (post : Int32 → (Nat → Int32) → (Nat → Int64) → (Nat → Int32) → (Nat → Int32) → (Nat → Int32) → (Nat → Int32) → (Nat → Int32) → (Nat → Int32) → (Nat → Int32) → (Nat → Int32) → (Nat → Int32) → (Nat → Int32) → (Nat → Int32) → (Nat → Int32) → (Nat → Int32) → (Nat → Int32) → (Nat → Int32) → (Nat → Int32) → (Nat → Int32) → (Nat → Int32) → (Nat → Int64) → (Nat → Int32) → Int32 → Int32 → Int32 → Int32 → Int32 → Prop) : Prop :=
  (∃ (I4 : Int32 → Int32 → Prop) (mI4 : Int32 → Int32 → Nat), I4 0 0 ∧ (∀ (x2 : Int32) (x3 : Int32), I4 x2 x3 → (vp_in y 40 ∧ (((mle y.toNatClampNeg) ≤ x3 → post x2 mki msz mle mel mme mal mic mil mio mab mae msa mlc mli mna mva mma mch mre mlv mwr msh mth mnv mns mfa mmo) ∧ (¬ (mle y.toNatClampNeg) ≤ x3 → ((¬ x2 = 0 → (I4 1 (x3 + 1) ∧ mI4 1 (x3 + 1) < mI4 x2 x3)) ∧ (x2 = 0 → (vp_in ((8 * y) + x3) 320 ∧ (vp_in (mel ((8 * y) + x3 : Int32).toNatClampNeg) 40 ∧ (vp_in x 40 ∧ ((¬ (mal (mel ((8 * y) + x3 : Int32).toNatClampNeg : Int32).toNatClampNeg) = (mal x.toNatClampNeg) → (I4 0 (x3 + 1) ∧ mI4 0 (x3 + 1) < mI4 x2 x3)) ∧ ((mal (mel ((8 * y) + x3 : Int32).toNatClampNeg : Int32).toNatClampNeg) = (mal x.toNatClampNeg) → (I4 1 (x3 + 1) ∧ mI4 1 (x3 + 1) < mI4 x2 x3)))))))))))))
set_option maxHeartbeats 4000000 in
set_option maxRecDepth 100000 in
theorem g_Mo_among {p : Program} {l : Launch} {e : Env} {R : Room} {s : State} {m : MethodId} {args : Array Value} {below : List Frame} {meth : Method} {c : Code} {H : Heap} {locs : List Loc} {cells slots : Nat} {Q : State → Prop} {ls : Array Slot} {A : Nat → Prop} (S : CallFix p m c b_Mo_among 5 s args W0 R_Mo) (hRf : 0 ≤ R.frames) (hRl : 0 ≤ R.locals) (hRc : cells ≤ R.cells ∧ slots ≤ R.slots) (D : va_G) (b : Nat → Nat) (cI cJ cZ : ClassId) (mki : Nat → Int32) (msz : Nat → Int64) (mle : Nat → Int32) (mel : Nat → Int32) (mme : Nat → Int32) (mal : Nat → Int32) (mic : Nat → Int32) (mil : Nat → Int32) (mio : Nat → Int32) (mab : Nat → Int32) (mae : Nat → Int32) (msa : Nat → Int32) (mlc : Nat → Int32) (mli : Nat → Int32) (mna : Nat → Int32) (mva : Nat → Int32) (mma : Nat → Int32) (mch : Nat → Int32) (mre : Nat → Int32) (mlv : Nat → Int32) (mwr : Nat → Int64) (msh : Nat → Int32) (mth : Int32) (mnv : Int32) (mns : Int32) (mfa : Int32) (mmo : Int32) (x : Int32) (y : Int32) (hK : va_K D vwCl (tyA cI cJ cZ) s) (hP : va_P D vwCl (wM b cI cJ cZ mki msz mle mel mme mal mic mil mio mab mae msa mlc mli mna mva mma mch mre mlv mwr msh mth mnv mns mfa mmo) H) (hD : va_D A (wM b cI cJ cZ mki msz mle mel mme mal mic mil mio mab mae msa mlc mli mna mva mma mch mre mlv mwr msh mth mnv mns mfa mmo)) (hA : ∀ q, s.heap.size ≤ q → A q) (hS : va_S A s.heap H locs) (hl : lv_has ls 5 [(0, .ref (b 0)), (1, .int x), (2, .int y)]) {post : Int32 → (Nat → Int32) → (Nat → Int64) → (Nat → Int32) → (Nat → Int32) → (Nat → Int32) → (Nat → Int32) → (Nat → Int32) → (Nat → Int32) → (Nat → Int32) → (Nat → Int32) → (Nat → Int32) → (Nat → Int32) → (Nat → Int32) → (Nat → Int32) → (Nat → Int32) → (Nat → Int32) → (Nat → Int32) → (Nat → Int32) → (Nat → Int32) → (Nat → Int32) → (Nat → Int64) → (Nat → Int32) → Int32 → Int32 → Int32 → Int32 → Int32 → Prop} (vc : V_Mo_among mki msz mle mel mme mal mic mil mio mab mae msa mlc mli mna mva mma mch mre mlv mwr msh mth mnv mns mfa mmo x y post)
    (hret : ∀ (v : Int32) (mki : Nat → Int32) (msz : Nat → Int64) (mle : Nat → Int32) (mel : Nat → Int32) (mme : Nat → Int32) (mal : Nat → Int32) (mic : Nat → Int32) (mil : Nat → Int32) (mio : Nat → Int32) (mab : Nat → Int32) (mae : Nat → Int32) (msa : Nat → Int32) (mlc : Nat → Int32) (mli : Nat → Int32) (mna : Nat → Int32) (mva : Nat → Int32) (mma : Nat → Int32) (mch : Nat → Int32) (mre : Nat → Int32) (mlv : Nat → Int32) (mwr : Nat → Int64) (msh : Nat → Int32) (mth : Int32) (mnv : Int32) (mns : Int32) (mfa : Int32) (mmo : Int32) (ls : Array Slot) (pc : Nat) (H : Heap) (locs : List Loc), decode b_Mo_among pc = .ok (.ireturn, 1) → post v mki msz mle mel mme mal mic mil mio mab mae msa mlc mli mna mva mma mch mre mlv mwr msh mth mnv mns mfa mmo → va_P D vwCl (wM b cI cJ cZ mki msz mle mel mme mal mic mil mio mab mae msa mlc mli mna mva mma mch mre mlv mwr msh mth mnv mns mfa mmo) H → va_D A (wM b cI cJ cZ mki msz mle mel mme mal mic mil mio mab mae msa mlc mli mna mva mma mch mre mlv mwr msh mth mnv mns mfa mmo) → va_S A s.heap H locs → W p l e R s m args below meth c H locs cells slots Q (F0 m pc ls [.int v])) : W p l e R s m args below meth c H locs cells slots Q (F0 m 0 ls []) := by
  have hx := S.1
  have hb := S.2.1
  have hown := S.2.2.2.1
  have hts := S.2.2.2.2
  unfold V_Mo_among at vc
  refine lv_iconst (v := 0) hx hb d_Mo_among_0 (by decide) ?_
  refine lv_istore_n hx hb d_Mo_among_1 rfl hl (by decide) (lv' := [(3, .int 0), (0, .ref (b 0)), (1, .int x), (2, .int y)]) rfl (fun ls hl => ?_)
  refine lv_iconst (v := 0) hx hb d_Mo_among_2 (by decide) ?_
  refine lv_istore hx hb d_Mo_among_3 hl (by decide) (lv' := [(4, .int 0), (3, .int 0), (0, .ref (b 0)), (1, .int x), (2, .int y)]) rfl (fun ls hl => ?_)
  obtain ⟨I4, mI4, vc0, vcs⟩ := vc
  have lI4 : ∀ n : Nat, ∀ (x2 : Int32) (x3 : Int32) (ls : Array Slot) (H : Heap) (locs : List Loc), I4 x2 x3 → mI4 x2 x3 < n → lv_has ls 5 [(0, .ref (b 0)), (1, .int x), (2, .int y), (3, .int x2), (4, .int x3)] → va_P D vwCl (wM b cI cJ cZ mki msz mle mel mme mal mic mil mio mab mae msa mlc mli mna mva mma mch mre mlv mwr msh mth mnv mns mfa mmo) H → va_D A (wM b cI cJ cZ mki msz mle mel mme mal mic mil mio mab mae msa mlc mli mna mva mma mch mre mlv mwr msh mth mnv mns mfa mmo) → va_S A s.heap H locs → W p l e R s m args below meth c H locs cells slots Q (F0 m 5 ls []) := by
    intro n
    induction n with
    | zero => intro x2 x3 ls H locs _ h; exact absurd h (Nat.not_lt_zero _)
    | succ n ihI4 =>
      intro x2 x3 ls H locs vc hmI4 hl hP hD hS
      have vc := vcs x2 x3 vc
      refine lv_iload hx hb d_Mo_among_5 (lv_at hl 4 rfl) ?_
      refine lv_aload_n hx hb d_Mo_among_7 rfl (lv_at hl 0 rfl) ?_
      refine va_get (D := D) (ci := 6) (v := .ref (b 3)) (C := R_Mo) (T := F_Mo) (N := 27) hx hb hts in_Mo hown hK hP 0 rfl rfl 4 (by decide) (hts _ fl_Mo_17) (fun _ h => h) rfl d_Mo_among_8 ?_
      refine lv_iload_n hx hb d_Mo_among_11 rfl (lv_at hl 2 rfl) ?_
      obtain ⟨vcb, vc⟩ := vc
      refine va_iald hx hb hK hP 3 0 rfl rfl vcb d_Mo_among_12 ?_
      refine lv_icmp_ge (tgt := 58) hx hb d_Mo_among_13 (by decide) (fun h => ?_) (fun h => ?_)
      · have vc := vc.1 h
        refine lv_iload_n hx hb d_Mo_among_58 rfl (lv_at hl 3 rfl) ?_
        exact hret _ _ _ _ _ _ _ _ _ _ _ _ _ _ _ _ _ _ _ _ _ _ _ _ _ _ _ _ ls _ H locs d_Mo_among_59 vc hP hD hS
      · have vc := vc.2 h
        refine lv_iload_n hx hb d_Mo_among_16 rfl (lv_at hl 3 rfl) ?_
        refine lv_if_ne (tgt := 46) hx hb d_Mo_among_17 (by decide) (fun h => ?_) (fun h => ?_)
        · have vc := vc.1 h
          refine lv_iconst (v := 1) hx hb d_Mo_among_46 (by decide) ?_
          refine lv_goto (tgt := 51) hx hb d_Mo_among_47 (by decide) ?_
          refine lv_istore_n hx hb d_Mo_among_51 rfl hl (by decide) (lv' := [(3, .int 1), (0, .ref (b 0)), (1, .int x), (2, .int y), (4, .int x3)]) rfl (fun ls hl => ?_)
          refine lv_iinc (k := 4) (v := x3 + 1) hx hb d_Mo_among_52 hl rfl rfl (by decide) (lv' := [(4, .int (x3 + 1)), (3, .int 1), (0, .ref (b 0)), (1, .int x), (2, .int y)]) rfl (fun ls hl => ?_)
          refine lv_goto (tgt := 5) hx hb d_Mo_among_55 (by decide) ?_
          exact ihI4 1 (x3 + 1) ls H locs vc.1 (Nat.lt_of_lt_of_le vc.2 (Nat.le_of_lt_succ hmI4)) (lv_sub hl [2, 3, 4, 1, 0] rfl) hP hD hS
        · have vc := vc.2 h
          refine lv_aload_n hx hb d_Mo_among_20 rfl (lv_at hl 0 rfl) ?_
          refine va_get (D := D) (ci := 6) (v := .ref (b 6)) (C := R_Mo) (T := F_Mo) (N := 27) hx hb hts in_Mo hown hK hP 0 rfl rfl 7 (by decide) (hts _ fl_Mo_26) (fun _ h => h) rfl d_Mo_among_21 ?_
          refine lv_aload_n hx hb d_Mo_among_24 rfl (lv_at hl 0 rfl) ?_
          refine va_get (D := D) (ci := 6) (v := .ref (b 4)) (C := R_Mo) (T := F_Mo) (N := 27) hx hb hts in_Mo hown hK hP 0 rfl rfl 5 (by decide) (hts _ fl_Mo_20) (fun _ h => h) rfl d_Mo_among_25 ?_
          refine lv_bipush (v := 8) hx hb d_Mo_among_28 (by decide) ?_
          refine lv_iload_n hx hb d_Mo_among_30 rfl (lv_at hl 2 rfl) ?_
          refine lv_imul hx hb d_Mo_among_31 ?_
          refine lv_iload hx hb d_Mo_among_32 (lv_at hl 4 rfl) ?_
          refine lv_iadd hx hb d_Mo_among_34 ?_
          obtain ⟨vcb, vc⟩ := vc
          refine va_iald hx hb hK hP 4 0 rfl rfl vcb d_Mo_among_35 ?_
          obtain ⟨vcb, vc⟩ := vc
          refine va_iald hx hb hK hP 6 0 rfl rfl vcb d_Mo_among_36 ?_
          refine lv_aload_n hx hb d_Mo_among_37 rfl (lv_at hl 0 rfl) ?_
          refine va_get (D := D) (ci := 6) (v := .ref (b 6)) (C := R_Mo) (T := F_Mo) (N := 27) hx hb hts in_Mo hown hK hP 0 rfl rfl 7 (by decide) (hts _ fl_Mo_26) (fun _ h => h) rfl d_Mo_among_38 ?_
          refine lv_iload_n hx hb d_Mo_among_41 rfl (lv_at hl 1 rfl) ?_
          obtain ⟨vcb, vc⟩ := vc
          refine va_iald hx hb hK hP 6 0 rfl rfl vcb d_Mo_among_42 ?_
          refine lv_icmp_ne (tgt := 50) hx hb d_Mo_among_43 (by decide) (fun h => ?_) (fun h => ?_)
          · have vc := vc.1 h
            refine lv_iconst (v := 0) hx hb d_Mo_among_50 (by decide) ?_
            refine lv_istore_n hx hb d_Mo_among_51 rfl hl (by decide) (lv' := [(3, .int 0), (0, .ref (b 0)), (1, .int x), (2, .int y), (4, .int x3)]) rfl (fun ls hl => ?_)
            refine lv_iinc (k := 4) (v := x3 + 1) hx hb d_Mo_among_52 hl rfl rfl (by decide) (lv' := [(4, .int (x3 + 1)), (3, .int 0), (0, .ref (b 0)), (1, .int x), (2, .int y)]) rfl (fun ls hl => ?_)
            refine lv_goto (tgt := 5) hx hb d_Mo_among_55 (by decide) ?_
            exact ihI4 0 (x3 + 1) ls H locs vc.1 (Nat.lt_of_lt_of_le vc.2 (Nat.le_of_lt_succ hmI4)) (lv_sub hl [2, 3, 4, 1, 0] rfl) hP hD hS
          · have vc := vc.2 h
            refine lv_iconst (v := 1) hx hb d_Mo_among_46 (by decide) ?_
            refine lv_goto (tgt := 51) hx hb d_Mo_among_47 (by decide) ?_
            refine lv_istore_n hx hb d_Mo_among_51 rfl hl (by decide) (lv' := [(3, .int 1), (0, .ref (b 0)), (1, .int x), (2, .int y), (4, .int x3)]) rfl (fun ls hl => ?_)
            refine lv_iinc (k := 4) (v := x3 + 1) hx hb d_Mo_among_52 hl rfl rfl (by decide) (lv' := [(4, .int (x3 + 1)), (3, .int 1), (0, .ref (b 0)), (1, .int x), (2, .int y)]) rfl (fun ls hl => ?_)
            refine lv_goto (tgt := 5) hx hb d_Mo_among_55 (by decide) ?_
            exact ihI4 1 (x3 + 1) ls H locs vc.1 (Nat.lt_of_lt_of_le vc.2 (Nat.le_of_lt_succ hmI4)) (lv_sub hl [2, 3, 4, 1, 0] rfl) hP hD hS
  exact lI4 _ 0 0 ls H locs vc0 (Nat.lt_succ_self _) (lv_sub hl [2, 3, 4, 1, 0] rfl) hP hD hS
set_option maxHeartbeats 4000000 in
theorem v_Mo_among (mki : Nat → Int32) (msz : Nat → Int64) (mle : Nat → Int32) (mel : Nat → Int32) (mme : Nat → Int32) (mal : Nat → Int32) (mic : Nat → Int32) (mil : Nat → Int32) (mio : Nat → Int32) (mab : Nat → Int32) (mae : Nat → Int32) (msa : Nat → Int32) (mlc : Nat → Int32) (mli : Nat → Int32) (mna : Nat → Int32) (mva : Nat → Int32) (mma : Nat → Int32) (mch : Nat → Int32) (mre : Nat → Int32) (mlv : Nat → Int32) (mwr : Nat → Int64) (msh : Nat → Int32) (mth : Int32) (mnv : Int32) (mns : Int32) (mfa : Int32) (mmo : Int32) (x : Int32) (y : Int32) (hpre : (vp_in x 40 ∧ vp_in y 40 ∧ (∃ L, L ≤ 8 ∧ mle y.toNatClampNeg = nI L) ∧ ∀ j, j < 320 → vp_in (mel j) 40)) : V_Mo_among mki msz mle mel mme mal mic mil mio mab mae msa mlc mli mna mva mma mch mre mlv mwr msh mth mnv mns mfa mmo x y (fun v mki' msz' mle' mel' mme' mal' mic' mil' mio' mab' mae' msa' mlc' mli' mna' mva' mma' mch' mre' mlv' mwr' msh' mth' mnv' mns' mfa' mmo' => ∃ rr : Bool, v = bI rr ∧ ((rr = true ↔ ∃ i, i < (mle y.toNatClampNeg).toNatClampNeg ∧ mal (mel (8 * y.toNatClampNeg + i)).toNatClampNeg = mal x.toNatClampNeg)) ∧ mki' = mki ∧ msz' = msz ∧ mle' = mle ∧ mel' = mel ∧ mme' = mme ∧ mal' = mal ∧ mic' = mic ∧ mil' = mil ∧ mio' = mio ∧ mab' = mab ∧ mae' = mae ∧ msa' = msa ∧ mlc' = mlc ∧ mli' = mli ∧ mna' = mna ∧ mva' = mva ∧ mma' = mma ∧ mch' = mch ∧ mre' = mre ∧ mlv' = mlv ∧ mwr' = mwr ∧ msh' = msh ∧ mth' = mth ∧ mnv' = mnv ∧ mns' = mns ∧ mfa' = mfa ∧ mmo' = mmo) := by
  have main : ∀ post : Int32 → (Nat → Int32) → (Nat → Int64) → (Nat → Int32) → (Nat → Int32) → (Nat → Int32) → (Nat → Int32) → (Nat → Int32) → (Nat → Int32) → (Nat → Int32) → (Nat → Int32) → (Nat → Int32) → (Nat → Int32) → (Nat → Int32) → (Nat → Int32) → (Nat → Int32) → (Nat → Int32) → (Nat → Int32) → (Nat → Int32) → (Nat → Int32) → (Nat → Int32) → (Nat → Int64) → (Nat → Int32) → Int32 → Int32 → Int32 → Int32 → Int32 → Prop, (∀ v mki' msz' mle' mel' mme' mal' mic' mil' mio' mab' mae' msa' mlc' mli' mna' mva' mma' mch' mre' mlv' mwr' msh' mth' mnv' mns' mfa' mmo', (fun v mki' msz' mle' mel' mme' mal' mic' mil' mio' mab' mae' msa' mlc' mli' mna' mva' mma' mch' mre' mlv' mwr' msh' mth' mnv' mns' mfa' mmo' => ∃ rr : Bool, v = bI rr ∧ ((rr = true ↔ ∃ i, i < (mle y.toNatClampNeg).toNatClampNeg ∧ mal (mel (8 * y.toNatClampNeg + i)).toNatClampNeg = mal x.toNatClampNeg)) ∧ mki' = mki ∧ msz' = msz ∧ mle' = mle ∧ mel' = mel ∧ mme' = mme ∧ mal' = mal ∧ mic' = mic ∧ mil' = mil ∧ mio' = mio ∧ mab' = mab ∧ mae' = mae ∧ msa' = msa ∧ mlc' = mlc ∧ mli' = mli ∧ mna' = mna ∧ mva' = mva ∧ mma' = mma ∧ mch' = mch ∧ mre' = mre ∧ mlv' = mlv ∧ mwr' = mwr ∧ msh' = msh ∧ mth' = mth ∧ mnv' = mnv ∧ mns' = mns ∧ mfa' = mfa ∧ mmo' = mmo) v mki' msz' mle' mel' mme' mal' mic' mil' mio' mab' mae' msa' mlc' mli' mna' mva' mma' mch' mre' mlv' mwr' msh' mth' mnv' mns' mfa' mmo' → post v mki' msz' mle' mel' mme' mal' mic' mil' mio' mab' mae' msa' mlc' mli' mna' mva' mma' mch' mre' mlv' mwr' msh' mth' mnv' mns' mfa' mmo') → V_Mo_among mki msz mle mel mme mal mic mil mio mab mae msa mlc mli mna mva mma mch mre mlv mwr msh mth mnv mns mfa mmo x y post := by
    intro post hpost
    unfold V_Mo_among
    obtain ⟨hx, hy, ⟨L, hL, eL⟩, hel⟩ := hpre
    obtain ⟨v, hv, rfl, hcv⟩ := vp_nat hy (by decide)
    rw [hcv] at eL
    have cL : (nI L).toNatClampNeg = L := nI_clamp (by omega)
    simp only [hcv, eL, cL] at hpost ⊢
    refine ⟨fun z xi => ∃ i b, i ≤ L ∧ xi = nI i ∧ z = bI b ∧ (b = true ↔ ∃ i', i' < i ∧ mal (mel (8 * v + i')).toNatClampNeg = mal x.toNatClampNeg), fun _ xi => L - xi.toInt.toNat, ⟨0, false, Nat.zero_le _, rfl, rfl, ⟨fun q => absurd q (by decide), fun ⟨i', q, _⟩ => absurd q (Nat.not_lt_zero _)⟩⟩, ?_⟩
    rintro z xi ⟨i, b, hi, rfl, rfl, hb⟩
    refine ⟨hy, fun h => ?_, fun h => ?_⟩
    · obtain rfl := (fill_end (N := L) h (by omega) hi).symm
      exact (hpost _ _ _ _ _ _ _ _ _ _ _ _ _ _ _ _ _ _ _ _ _ _ _ _ _ _ _ _ ⟨b, rfl, hb, rfl, rfl, rfl, rfl, rfl, rfl, rfl, rfl, rfl, rfl, rfl, rfl, rfl, rfl, rfl, rfl, rfl, rfl, rfl, rfl, rfl, rfl, rfl, rfl, rfl, rfl, rfl⟩)
    · have hi2 := fill_step (N := L) h (by omega) hi
      have mu := fill_mu (N := L) hi2 (by omega)
      have ci : (nI (8 * v + i)).toNatClampNeg = 8 * v + i := nI_clamp (by omega)
      rw [jx8v, ci]
      refine ⟨fun h2 => ⟨⟨i + 1, true, hi2, nI_1 i, rfl, ⟨fun _ => ?_, fun _ => rfl⟩⟩, mu⟩, fun h2 => ⟨vp_in_nI (by omega) (by decide), hel _ (by omega), hx, fun h3 => ⟨⟨i + 1, false, hi2, nI_1 i, rfl, ⟨fun q => absurd q (by decide), fun q => ?_⟩⟩, mu⟩, fun h3 => ⟨⟨i + 1, true, hi2, nI_1 i, rfl, ⟨fun _ => ⟨i, by omega, h3⟩, fun _ => rfl⟩⟩, mu⟩⟩⟩
      · obtain ⟨i', q1, q2⟩ := hb.mp (bI_ne.mp h2)
        exact ⟨i', by omega, q2⟩
      · obtain ⟨i', q1, q2⟩ := q
        by_cases e : i' = i
        · subst e; exact absurd q2 h3
        · have := hb.mpr ⟨i', by omega, q2⟩
          rw [bI0.mp h2] at this; exact absurd this (by decide)
  exact main _ (fun _ _ _ _ _ _ _ _ _ _ _ _ _ _ _ _ _ _ _ _ _ _ _ _ _ _ _ _ h => h)
theorem c_Mo_among (l : Launch) (D : va_G) (b : Nat → Nat) (cI cJ cZ : ClassId) (mki : Nat → Int32) (msz : Nat → Int64) (mle : Nat → Int32) (mel : Nat → Int32) (mme : Nat → Int32) (mal : Nat → Int32) (mic : Nat → Int32) (mil : Nat → Int32) (mio : Nat → Int32) (mab : Nat → Int32) (mae : Nat → Int32) (msa : Nat → Int32) (mlc : Nat → Int32) (mli : Nat → Int32) (mna : Nat → Int32) (mva : Nat → Int32) (mma : Nat → Int32) (mch : Nat → Int32) (mre : Nat → Int32) (mlv : Nat → Int32) (mwr : Nat → Int64) (msh : Nat → Int32) (mth : Int32) (mnv : Int32) (mns : Int32) (mfa : Int32) (mmo : Int32) (x : Int32) (y : Int32) (hpre : (vp_in x 40 ∧ vp_in y 40 ∧ (∃ L, L ≤ 8 ∧ mle y.toNatClampNeg = nI L) ∧ ∀ j, j < 320 → vp_in (mel j) 40)) : Wm (S := Bool) l y_Mo_among b_Mo_among 5 (some .boolean) 0 0 [.ref (b 0), .int x, .int y] D (tyA cI cJ cZ) (wM b cI cJ cZ mki msz mle mel mme mal mic mil mio mab mae msa mlc mli mna mva mma mch mre mlv mwr msh mth mnv mns mfa mmo) (fun uu => (uu = true ↔ ∃ i, i < (mle y.toNatClampNeg).toNatClampNeg ∧ mal (mel (8 * y.toNatClampNeg + i)).toNatClampNeg = mal x.toNatClampNeg)) (fun uu => some (.int (bI uu))) (fun uu => (wM b cI cJ cZ mki msz mle mel mme mal mic mil mio mab mae msa mlc mli mna mva mma mch mre mlv mwr msh mth mnv mns mfa mmo)) :=
  wm_i (by decide) (fun _ _ => bI_nar _) (Nat.le_of_ble_eq_true rfl) (fun p e s m below meth c ls Q A S hK hP hD hA hS hl hret => g_Mo_among S (Nat.le_refl _) (Nat.le_refl _) ⟨Nat.le_refl _, Nat.le_refl _⟩ D b cI cJ cZ mki msz mle mel mme mal mic mil mio mab mae msa mlc mli mna mva mma mch mre mlv mwr msh mth mnv mns mfa mmo x y hK hP hD hA hS hl (v_Mo_among mki msz mle mel mme mal mic mil mio mab mae msa mlc mli mna mva mma mch mre mlv mwr msh mth mnv mns mfa mmo x y hpre) (fun v mki' msz' mle' mel' mme' mal' mic' mil' mio' mab' mae' msa' mlc' mli' mna' mva' mma' mch' mre' mlv' mwr' msh' mth' mnv' mns' mfa' mmo' ls1 pc H1 locs1 hd hv hP1 hD1 hS1 => by obtain ⟨rr, rfl, hp, rfl, rfl, rfl, rfl, rfl, rfl, rfl, rfl, rfl, rfl, rfl, rfl, rfl, rfl, rfl, rfl, rfl, rfl, rfl, rfl, rfl, rfl, rfl, rfl, rfl, rfl, rfl⟩ := hv; exact hret rr _ ls1 pc H1 locs1 hd hp rfl hP1 hD1 hS1))
theorem hd_Mo_among : y_Mo_among.cls ≠ "java/lang/invoke/MethodHandle" ∧ y_Mo_among.cls ≠ "java/lang/invoke/VarHandle" ∧ (parseMethodDescriptor y_Mo_among.desc).map (fun d => d.parameters.length) = some 2 := ⟨by decide, by decide, by decide +kernel⟩
