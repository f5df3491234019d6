theorem lgc_self (x : Int64) : lg_cmp x x = 0 := by simp [lg_cmp]
theorem updL0 (f : Nat → Int64) (v : Int64) : vp_updL f 0 v (0 : Int32).toNatClampNeg = v := by simp [vp_updL]
theorem updL00 (f : Nat → Int64) (v : Int64) : vp_updL f 0 v 0 = v := by simp [vp_updL]
theorem cnt0 : cntL (fun _ => 0) 960 = 0 := cntL_0 960 (fun _ _ => rfl)
theorem nb1 (n : Nat) : (∃ b : Nat, b ≤ n ∧ (0 : Int32) = nI b) ↔ True := ⟨fun _ => trivial, fun _ => ⟨0, Nat.zero_le _, rfl⟩⟩
theorem nb2 : (∃ b : Nat, b < 4096 ∧ (0 : Int32) = nI b) ↔ True := ⟨fun _ => trivial, fun _ => ⟨0, by decide, rfl⟩⟩
theorem inm (x : Int32) : sIn x 0 (-1) = false := by
  have : ¬ (0 ≤ x ∧ x ≤ -1) := fun ⟨h1, h2⟩ => absurd (Int32.le_trans h1 h2) (by decide)
  simp [sIn, this]
theorem has0 (x : Int32) : sHas 0 x = false := by simp [sHas]
theorem kind0 (ki : Nat → Int32) (x k : Int32) : sKind ki 0 x k = false := by simp [sKind, has0]
set_option maxHeartbeats 4000000 in
theorem step_fresh (k0 k1 k2 k3 k4 : Int32) (post : (Nat → Int32) → (Nat → Int64) → (Nat → Int32) → (Nat → Int32) → (Nat → Int32) → Int32 → Int32 → (Nat → Int32) → (Nat → Int32) → (Nat → Int32) → (Nat → Int32) → (Nat → Int32) → (Nat → Int32) → (Nat → Int32) → (Nat → Int32) → (Nat → Int32) → (Nat → Int32) → (Nat → Int32) → Int32 → (Nat → Int32) → (Nat → Int32) → (Nat → Int64) → Int32 → (Nat → Int64) → (Nat → Int32) → (Nat → Int64) → (Nat → Int32) → (Nat → Int32) → (Nat → Int32) → (Nat → Int32) → (Nat → Int32) → (Nat → Int32) → (Nat → Int32) → (Nat → Int32) → (Nat → Int32) → (Nat → Int32) → (Nat → Int32) → (Nat → Int32) → (Nat → Int32) → (Nat → Int32) → (Nat → Int32) → (Nat → Int32) → (Nat → Int32) → (Nat → Int32) → (Nat → Int64) → (Nat → Int32) → Int32 → Int32 → Int32 → Int32 → Int32 → Prop) (hp : ∀ (ki : Nat → Int32) (co : Nat → Int64) (pr : Nat → Int32) (pa : Nat → Int32) (tw : Nat → Int32) (nv : Int32) (sv : Int32) (pn : Nat → Int32) (pl : Nat → Int32) (po : Nat → Int32) (pf : Nat → Int32) (pt : Nat → Int32) (ru : Nat → Int32) (le : Nat → Int32) (li : Nat → Int32) (bn : Nat → Int32) (ip : Nat → Int32) (aw : Nat → Int32) (ns : Int32) (ch : Nat → Int32) (ma : Nat → Int32) (br : Nat → Int64) (tl : Int32) (ou : Nat → Int64) (mki : Nat → Int32) (msz : Nat → Int64) (mle : Nat → Int32) (mel : Nat → Int32) (mme : Nat → Int32) (mal : Nat → Int32) (mic : Nat → Int32) (mil : Nat → Int32) (mio : Nat → Int32) (mab : Nat → Int32) (mae : Nat → Int32) (msa : Nat → Int32) (mlc : Nat → Int32) (mli : Nat → Int32) (mna : Nat → Int32) (mva : Nat → Int32) (mma : Nat → Int32) (mch : Nat → Int32) (mre : Nat → Int32) (mlv : Nat → Int32) (mwr : Nat → Int64) (msh : Nat → Int32) (mth : Int32) (mnv : Int32) (mns : Int32) (mfa : Int32) (mmo : Int32), post ki co pr pa tw nv sv pn pl po pf pt ru le li bn ip aw ns ch ma br tl ou mki msz mle mel mme mal mic mil mio mab mae msa mlc mli mna mva mma mch mre mlv mwr msh mth mnv mns mfa mmo) : LStep (fun _ => 0) (fun _ => 0) (fun _ => 0) (fun _ => 0) (fun _ => 0) 0 0 (fun _ => 0) (fun _ => 0) (fun _ => 0) (fun _ => 0) (fun _ => 0) (fillN (-1) 696 (fun _ => 0)) (fun _ => 0) (fun _ => 0) (fillN (-1) 864 (fun _ => 0)) (fun _ => 0) (fun _ => 0) 0 (fun _ => 0) (fun _ => 0) (fun _ => 0) 0 (fun _ => 0) (fun _ => 0) (fun _ => 0) (fun _ => 0) (fun _ => 0) (fillN (-1) 480 (fun _ => 0)) (fun _ => 0) (fun _ => 0) (fun _ => 0) (fun _ => 0) (fun _ => 0) (fun _ => 0) (fillN (-1) 696 (fun _ => 0)) (fun _ => 0) (fun _ => 0) (fillN (-1) 864 (fun _ => 0)) (fun _ => 0) (fun _ => 0) (fun _ => 0) (fun _ => 0) (fun _ => 0) (fun _ => 0) (fun _ => 0) 0 0 0 0 0 k0 k1 k2 k3 k4 post := by
  refine ⟨fun _ => ?_, fun _ => ?_, fun _ => ?_, fun _ => ?_, fun _ => ?_, fun _ => ?_, fun _ => ?_, fun _ => ?_, fun _ => ?_, fun _ => ?_, fun _ => ?_, fun _ => ?_, fun _ => ?_, fun _ => ?_, fun _ => ?_, fun _ => ?_, fun _ => ?_, fun _ => hp _ _ _ _ _ _ _ _ _ _ _ _ _ _ _ _ _ _ _ _ _ _ _ _ _ _ _ _ _ _ _ _ _ _ _ _ _ _ _ _ _ _ _ _ _ _ _ _ _ _ _⟩
  · unfold V_L0
    first | (simp [hp, lgc_self, updL0, updL00, has0, kind0, cnt0, in8, nb1, nb2, inm]; done) | (simp [hp, lgc_self, updL0, updL00, has0, kind0, cnt0, in8, nb1, nb2, inm]; intros; simp_all; done)
  · unfold V_L1
    first | (simp [hp, lgc_self, updL0, updL00, has0, kind0, cnt0, in8, nb1, nb2, inm]; done) | (simp [hp, lgc_self, updL0, updL00, has0, kind0, cnt0, in8, nb1, nb2, inm]; intros; simp_all; done)
  · unfold V_L2
    first | (simp [hp, lgc_self, updL0, updL00, has0, kind0, cnt0, in8, nb1, nb2, inm]; done) | (simp [hp, lgc_self, updL0, updL00, has0, kind0, cnt0, in8, nb1, nb2, inm]; intros; simp_all; done)
  · unfold V_L3
    first | (simp [hp, lgc_self, updL0, updL00, has0, kind0, cnt0, in8, nb1, nb2, inm]; done) | (simp [hp, lgc_self, updL0, updL00, has0, kind0, cnt0, in8, nb1, nb2, inm]; intros; simp_all; done)
  · unfold V_L4
    first | (simp [hp, lgc_self, updL0, updL00, has0, kind0, cnt0, in8, nb1, nb2, inm]; done) | (simp [hp, lgc_self, updL0, updL00, has0, kind0, cnt0, in8, nb1, nb2, inm]; intros; simp_all; done)
  · unfold V_L5
    first | (simp [hp, lgc_self, updL0, updL00, has0, kind0, cnt0, in8, nb1, nb2, inm]; done) | (simp [hp, lgc_self, updL0, updL00, has0, kind0, cnt0, in8, nb1, nb2, inm]; intros; simp_all; done)
  · unfold V_L6
    first | (simp [hp, lgc_self, updL0, updL00, has0, kind0, cnt0, in8, nb1, nb2, inm]; done) | (simp [hp, lgc_self, updL0, updL00, has0, kind0, cnt0, in8, nb1, nb2, inm]; intros; simp_all; done)
  · unfold V_L7
    first | (simp [hp, lgc_self, updL0, updL00, has0, kind0, cnt0, in8, nb1, nb2, inm]; done) | (simp [hp, lgc_self, updL0, updL00, has0, kind0, cnt0, in8, nb1, nb2, inm]; intros; simp_all; done)
  · unfold V_L8
    first | (simp [hp, lgc_self, updL0, updL00, has0, kind0, cnt0, in8, nb1, nb2, inm]; done) | (simp [hp, lgc_self, updL0, updL00, has0, kind0, cnt0, in8, nb1, nb2, inm]; intros; simp_all; done)
  · unfold V_L9
    first | (simp [hp, lgc_self, updL0, updL00, has0, kind0, cnt0, in8, nb1, nb2, inm]; done) | (simp [hp, lgc_self, updL0, updL00, has0, kind0, cnt0, in8, nb1, nb2, inm]; intros; simp_all; done)
  · unfold V_L10
    first | (simp [hp, lgc_self, updL0, updL00, has0, kind0, cnt0, in8, nb1, nb2, inm]; done) | (simp [hp, lgc_self, updL0, updL00, has0, kind0, cnt0, in8, nb1, nb2, inm]; intros; simp_all; done)
  · unfold V_L11
    first | (simp [hp, lgc_self, updL0, updL00, has0, kind0, cnt0, in8, nb1, nb2, inm]; done) | (simp [hp, lgc_self, updL0, updL00, has0, kind0, cnt0, in8, nb1, nb2, inm]; intros; simp_all; done)
  · unfold V_L12
    first | (simp [hp, lgc_self, updL0, updL00, has0, kind0, cnt0, in8, nb1, nb2, inm]; done) | (simp [hp, lgc_self, updL0, updL00, has0, kind0, cnt0, in8, nb1, nb2, inm]; intros; simp_all; done)
  · unfold V_L13
    first | (simp [hp, lgc_self, updL0, updL00, has0, kind0, cnt0, in8, nb1, nb2, inm]; done) | (simp [hp, lgc_self, updL0, updL00, has0, kind0, cnt0, in8, nb1, nb2, inm]; intros; simp_all; done)
  · unfold V_L14
    first | (simp [hp, lgc_self, updL0, updL00, has0, kind0, cnt0, in8, nb1, nb2, inm]; done) | (simp [hp, lgc_self, updL0, updL00, has0, kind0, cnt0, in8, nb1, nb2, inm]; intros; simp_all; done)
  · unfold V_L15
    first | (simp [hp, lgc_self, updL0, updL00, has0, kind0, cnt0, in8, nb1, nb2, inm]; done) | (simp [hp, lgc_self, updL0, updL00, has0, kind0, cnt0, in8, nb1, nb2, inm]; intros; simp_all; done)
  · unfold V_L16
    first | (simp [hp, lgc_self, updL0, updL00, has0, kind0, cnt0, in8, nb1, nb2, inm]; done) | (simp [hp, lgc_self, updL0, updL00, has0, kind0, cnt0, in8, nb1, nb2, inm]; intros; simp_all; done)

