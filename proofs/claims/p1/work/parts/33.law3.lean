def V_L7 (ki : Nat → Int32) (co : Nat → Int64) (pr : Nat → Int32) (pa : Nat → Int32) (tw : Nat → Int32) (nv : Int32) (sv : Int32) (pn : Nat → Int32) (pl : Nat → Int32) (po : Nat → Int32) (pf : Nat → Int32) (pt : Nat → Int32) (ru : Nat → Int32) (le : Nat → Int32) (li : Nat → Int32) (bn : Nat → Int32) (ip : Nat → Int32) (aw : Nat → Int32) (ns : Int32) (ch : Nat → Int32) (ma : Nat → Int32) (br : Nat → Int64) (tl : Int32) (ou : Nat → Int64) (mki : Nat → Int32) (msz : Nat → Int64) (mle : Nat → Int32) (mel : Nat → Int32) (mme : Nat → Int32) (mal : Nat → Int32) (mic : Nat → Int32) (mil : Nat → Int32) (mio : Nat → Int32) (mab : Nat → Int32) (mae : Nat → Int32) (msa : Nat → Int32) (mlc : Nat → Int32) (mli : Nat → Int32) (mna : Nat → Int32) (mva : Nat → Int32) (mma : Nat → Int32) (mch : Nat → Int32) (mre : Nat → Int32) (mlv : Nat → Int32) (mwr : Nat → Int64) (msh : Nat → Int32) (mth : Int32) (mnv : Int32) (mns : Int32) (mfa : Int32) (mmo : Int32) (k1 k2 k3 k4 : Int32) (post : (Nat → Int32) → (Nat → Int64) → (Nat → Int32) → (Nat → Int32) → (Nat → Int32) → Int32 → Int32 → (Nat → Int32) → (Nat → Int32) → (Nat → Int32) → (Nat → Int32) → (Nat → Int32) → (Nat → Int32) → (Nat → Int32) → (Nat → Int32) → (Nat → Int32) → (Nat → Int32) → (Nat → Int32) → Int32 → (Nat → Int32) → (Nat → Int32) → (Nat → Int64) → Int32 → (Nat → Int64) → (Nat → Int32) → (Nat → Int64) → (Nat → Int32) → (Nat → Int32) → (Nat → Int32) → (Nat → Int32) → (Nat → Int32) → (Nat → Int32) → (Nat → Int32) → (Nat → Int32) → (Nat → Int32) → (Nat → Int32) → (Nat → Int32) → (Nat → Int32) → (Nat → Int32) → (Nat → Int32) → (Nat → Int32) → (Nat → Int32) → (Nat → Int32) → (Nat → Int32) → (Nat → Int64) → (Nat → Int32) → Int32 → Int32 → Int32 → Int32 → Int32 → Prop) : Prop :=
  ((k2 = 0 → ((k3 = 0 → ((¬ sHas 8 k1 = true → ((k2 = 0 → ((k3 = 0 → ((¬ sIn k1 0 7 = true → post ki co pr pa tw nv sv pn pl po pf pt ru le li bn ip aw ns ch ma br tl ou mki msz mle mel mme mal mic mil mio mab mae msa mlc mli mna mva mma mch mre mlv mwr msh 1 mnv mns mfa mmo) ∧ (¬ (¬ sIn k1 0 7 = true) → False))) ∧ (¬ k3 = 0 → ((¬ sIn k1 0 7 = true → post ki co pr pa tw nv sv pn pl po pf pt ru le li bn ip aw ns ch ma br tl ou mki msz mle mel mme mal mic mil mio mab mae msa mlc mli mna mva mma mch mre mlv mwr msh 1 mnv mns mfa mmo) ∧ (¬ (¬ sIn k1 0 7 = true) → False))))) ∧ (¬ k2 = 0 → ((k3 = 0 → ((¬ sIn k1 0 7 = true → post ki co pr pa tw nv sv pn pl po pf pt ru le li bn ip aw ns ch ma br tl ou mki msz mle mel mme mal mic mil mio mab mae msa mlc mli mna mva mma mch mre mlv mwr msh 1 mnv mns mfa mmo) ∧ (¬ (¬ sIn k1 0 7 = true) → False))) ∧ (¬ k3 = 0 → ((¬ sIn k1 0 7 = true → post ki co pr pa tw nv sv pn pl po pf pt ru le li bn ip aw ns ch ma br tl ou mki msz mle mel mme mal mic mil mio mab mae msa mlc mli mna mva mma mch mre mlv mwr msh 1 mnv mns mfa mmo) ∧ (¬ (¬ sIn k1 0 7 = true) → False))))))) ∧ (¬ (¬ sHas 8 k1 = true) → ((k2 = 0 → ((k3 = 0 → ((¬ sIn k1 0 7 = true → False) ∧ (¬ (¬ sIn k1 0 7 = true) → post ki co pr pa tw nv sv pn pl po (upd pf k1.toNatClampNeg (vp_nar .boolean 0)) (upd pt k1.toNatClampNeg (vp_nar .boolean 0)) ru le li bn ip aw ns ch ma br tl ou mki msz mle mel mme mal mic mil mio (upd mab k1.toNatClampNeg (vp_nar .boolean 0)) (upd mae k1.toNatClampNeg (vp_nar .boolean 0)) msa mlc mli mna mva mma mch mre mlv mwr msh 0 mnv mns mfa mmo))) ∧ (¬ k3 = 0 → ((¬ sIn k1 0 7 = true → False) ∧ (¬ (¬ sIn k1 0 7 = true) → post ki co pr pa tw nv sv pn pl po (upd pf k1.toNatClampNeg (vp_nar .boolean 0)) (upd pt k1.toNatClampNeg (vp_nar .boolean 0)) ru le li bn ip aw ns ch ma br tl ou mki msz mle mel mme mal mic mil mio (upd mab k1.toNatClampNeg (vp_nar .boolean 0)) (upd mae k1.toNatClampNeg (vp_nar .boolean 1)) msa mlc mli mna mva mma mch mre mlv mwr msh 0 mnv mns mfa mmo))))) ∧ (¬ k2 = 0 → ((k3 = 0 → ((¬ sIn k1 0 7 = true → False) ∧ (¬ (¬ sIn k1 0 7 = true) → post ki co pr pa tw nv sv pn pl po (upd pf k1.toNatClampNeg (vp_nar .boolean 0)) (upd pt k1.toNatClampNeg (vp_nar .boolean 0)) ru le li bn ip aw ns ch ma br tl ou mki msz mle mel mme mal mic mil mio (upd mab k1.toNatClampNeg (vp_nar .boolean 1)) (upd mae k1.toNatClampNeg (vp_nar .boolean 0)) msa mlc mli mna mva mma mch mre mlv mwr msh 0 mnv mns mfa mmo))) ∧ (¬ k3 = 0 → ((¬ sIn k1 0 7 = true → False) ∧ (¬ (¬ sIn k1 0 7 = true) → post ki co pr pa tw nv sv pn pl po (upd pf k1.toNatClampNeg (vp_nar .boolean 0)) (upd pt k1.toNatClampNeg (vp_nar .boolean 0)) ru le li bn ip aw ns ch ma br tl ou mki msz mle mel mme mal mic mil mio (upd mab k1.toNatClampNeg (vp_nar .boolean 1)) (upd mae k1.toNatClampNeg (vp_nar .boolean 1)) msa mlc mli mna mva mma mch mre mlv mwr msh 0 mnv mns mfa mmo))))))))) ∧ (¬ k3 = 0 → ((¬ sHas 8 k1 = true → ((k2 = 0 → ((k3 = 0 → ((¬ sIn k1 0 7 = true → post ki co pr pa tw nv sv pn pl po pf pt ru le li bn ip aw ns ch ma br tl ou mki msz mle mel mme mal mic mil mio mab mae msa mlc mli mna mva mma mch mre mlv mwr msh 1 mnv mns mfa mmo) ∧ (¬ (¬ sIn k1 0 7 = true) → False))) ∧ (¬ k3 = 0 → ((¬ sIn k1 0 7 = true → post ki co pr pa tw nv sv pn pl po pf pt ru le li bn ip aw ns ch ma br tl ou mki msz mle mel mme mal mic mil mio mab mae msa mlc mli mna mva mma mch mre mlv mwr msh 1 mnv mns mfa mmo) ∧ (¬ (¬ sIn k1 0 7 = true) → False))))) ∧ (¬ k2 = 0 → ((k3 = 0 → ((¬ sIn k1 0 7 = true → post ki co pr pa tw nv sv pn pl po pf pt ru le li bn ip aw ns ch ma br tl ou mki msz mle mel mme mal mic mil mio mab mae msa mlc mli mna mva mma mch mre mlv mwr msh 1 mnv mns mfa mmo) ∧ (¬ (¬ sIn k1 0 7 = true) → False))) ∧ (¬ k3 = 0 → ((¬ sIn k1 0 7 = true → post ki co pr pa tw nv sv pn pl po pf pt ru le li bn ip aw ns ch ma br tl ou mki msz mle mel mme mal mic mil mio mab mae msa mlc mli mna mva mma mch mre mlv mwr msh 1 mnv mns mfa mmo) ∧ (¬ (¬ sIn k1 0 7 = true) → False))))))) ∧ (¬ (¬ sHas 8 k1 = true) → ((k2 = 0 → ((k3 = 0 → ((¬ sIn k1 0 7 = true → False) ∧ (¬ (¬ sIn k1 0 7 = true) → post ki co pr pa tw nv sv pn pl po (upd pf k1.toNatClampNeg (vp_nar .boolean 0)) (upd pt k1.toNatClampNeg (vp_nar .boolean 1)) ru le li bn ip aw ns ch ma br tl ou mki msz mle mel mme mal mic mil mio (upd mab k1.toNatClampNeg (vp_nar .boolean 0)) (upd mae k1.toNatClampNeg (vp_nar .boolean 0)) msa mlc mli mna mva mma mch mre mlv mwr msh 0 mnv mns mfa mmo))) ∧ (¬ k3 = 0 → ((¬ sIn k1 0 7 = true → False) ∧ (¬ (¬ sIn k1 0 7 = true) → post ki co pr pa tw nv sv pn pl po (upd pf k1.toNatClampNeg (vp_nar .boolean 0)) (upd pt k1.toNatClampNeg (vp_nar .boolean 1)) ru le li bn ip aw ns ch ma br tl ou mki msz mle mel mme mal mic mil mio (upd mab k1.toNatClampNeg (vp_nar .boolean 0)) (upd mae k1.toNatClampNeg (vp_nar .boolean 1)) msa mlc mli mna mva mma mch mre mlv mwr msh 0 mnv mns mfa mmo))))) ∧ (¬ k2 = 0 → ((k3 = 0 → ((¬ sIn k1 0 7 = true → False) ∧ (¬ (¬ sIn k1 0 7 = true) → post ki co pr pa tw nv sv pn pl po (upd pf k1.toNatClampNeg (vp_nar .boolean 0)) (upd pt k1.toNatClampNeg (vp_nar .boolean 1)) ru le li bn ip aw ns ch ma br tl ou mki msz mle mel mme mal mic mil mio (upd mab k1.toNatClampNeg (vp_nar .boolean 1)) (upd mae k1.toNatClampNeg (vp_nar .boolean 0)) msa mlc mli mna mva mma mch mre mlv mwr msh 0 mnv mns mfa mmo))) ∧ (¬ k3 = 0 → ((¬ sIn k1 0 7 = true → False) ∧ (¬ (¬ sIn k1 0 7 = true) → post ki co pr pa tw nv sv pn pl po (upd pf k1.toNatClampNeg (vp_nar .boolean 0)) (upd pt k1.toNatClampNeg (vp_nar .boolean 1)) ru le li bn ip aw ns ch ma br tl ou mki msz mle mel mme mal mic mil mio (upd mab k1.toNatClampNeg (vp_nar .boolean 1)) (upd mae k1.toNatClampNeg (vp_nar .boolean 1)) msa mlc mli mna mva mma mch mre mlv mwr msh 0 mnv mns mfa mmo))))))))))) ∧ (¬ k2 = 0 → ((k3 = 0 → ((¬ sHas 8 k1 = true → ((k2 = 0 → ((k3 = 0 → ((¬ sIn k1 0 7 = true → post ki co pr pa tw nv sv pn pl po pf pt ru le li bn ip aw ns ch ma br tl ou mki msz mle mel mme mal mic mil mio mab mae msa mlc mli mna mva mma mch mre mlv mwr msh 1 mnv mns mfa mmo) ∧ (¬ (¬ sIn k1 0 7 = true) → False))) ∧ (¬ k3 = 0 → ((¬ sIn k1 0 7 = true → post ki co pr pa tw nv sv pn pl po pf pt ru le li bn ip aw ns ch ma br tl ou mki msz mle mel mme mal mic mil mio mab mae msa mlc mli mna mva mma mch mre mlv mwr msh 1 mnv mns mfa mmo) ∧ (¬ (¬ sIn k1 0 7 = true) → False))))) ∧ (¬ k2 = 0 → ((k3 = 0 → ((¬ sIn k1 0 7 = true → post ki co pr pa tw nv sv pn pl po pf pt ru le li bn ip aw ns ch ma br tl ou mki msz mle mel mme mal mic mil mio mab mae msa mlc mli mna mva mma mch mre mlv mwr msh 1 mnv mns mfa mmo) ∧ (¬ (¬ sIn k1 0 7 = true) → False))) ∧ (¬ k3 = 0 → ((¬ sIn k1 0 7 = true → post ki co pr pa tw nv sv pn pl po pf pt ru le li bn ip aw ns ch ma br tl ou mki msz mle mel mme mal mic mil mio mab mae msa mlc mli mna mva mma mch mre mlv mwr msh 1 mnv mns mfa mmo) ∧ (¬ (¬ sIn k1 0 7 = true) → False))))))) ∧ (¬ (¬ sHas 8 k1 = true) → ((k2 = 0 → ((k3 = 0 → ((¬ sIn k1 0 7 = true → False) ∧ (¬ (¬ sIn k1 0 7 = true) → post ki co pr pa tw nv sv pn pl po (upd pf k1.toNatClampNeg (vp_nar .boolean 1)) (upd pt k1.toNatClampNeg (vp_nar .boolean 0)) ru le li bn ip aw ns ch ma br tl ou mki msz mle mel mme mal mic mil mio (upd mab k1.toNatClampNeg (vp_nar .boolean 0)) (upd mae k1.toNatClampNeg (vp_nar .boolean 0)) msa mlc mli mna mva mma mch mre mlv mwr msh 0 mnv mns mfa mmo))) ∧ (¬ k3 = 0 → ((¬ sIn k1 0 7 = true → False) ∧ (¬ (¬ sIn k1 0 7 = true) → post ki co pr pa tw nv sv pn pl po (upd pf k1.toNatClampNeg (vp_nar .boolean 1)) (upd pt k1.toNatClampNeg (vp_nar .boolean 0)) ru le li bn ip aw ns ch ma br tl ou mki msz mle mel mme mal mic mil mio (upd mab k1.toNatClampNeg (vp_nar .boolean 0)) (upd mae k1.toNatClampNeg (vp_nar .boolean 1)) msa mlc mli mna mva mma mch mre mlv mwr msh 0 mnv mns mfa mmo))))) ∧ (¬ k2 = 0 → ((k3 = 0 → ((¬ sIn k1 0 7 = true → False) ∧ (¬ (¬ sIn k1 0 7 = true) → post ki co pr pa tw nv sv pn pl po (upd pf k1.toNatClampNeg (vp_nar .boolean 1)) (upd pt k1.toNatClampNeg (vp_nar .boolean 0)) ru le li bn ip aw ns ch ma br tl ou mki msz mle mel mme mal mic mil mio (upd mab k1.toNatClampNeg (vp_nar .boolean 1)) (upd mae k1.toNatClampNeg (vp_nar .boolean 0)) msa mlc mli mna mva mma mch mre mlv mwr msh 0 mnv mns mfa mmo))) ∧ (¬ k3 = 0 → ((¬ sIn k1 0 7 = true → False) ∧ (¬ (¬ sIn k1 0 7 = true) → post ki co pr pa tw nv sv pn pl po (upd pf k1.toNatClampNeg (vp_nar .boolean 1)) (upd pt k1.toNatClampNeg (vp_nar .boolean 0)) ru le li bn ip aw ns ch ma br tl ou mki msz mle mel mme mal mic mil mio (upd mab k1.toNatClampNeg (vp_nar .boolean 1)) (upd mae k1.toNatClampNeg (vp_nar .boolean 1)) msa mlc mli mna mva mma mch mre mlv mwr msh 0 mnv mns mfa mmo))))))))) ∧ (¬ k3 = 0 → ((¬ sHas 8 k1 = true → ((k2 = 0 → ((k3 = 0 → ((¬ sIn k1 0 7 = true → post ki co pr pa tw nv sv pn pl po pf pt ru le li bn ip aw ns ch ma br tl ou mki msz mle mel mme mal mic mil mio mab mae msa mlc mli mna mva mma mch mre mlv mwr msh 1 mnv mns mfa mmo) ∧ (¬ (¬ sIn k1 0 7 = true) → False))) ∧ (¬ k3 = 0 → ((¬ sIn k1 0 7 = true → post ki co pr pa tw nv sv pn pl po pf pt ru le li bn ip aw ns ch ma br tl ou mki msz mle mel mme mal mic mil mio mab mae msa mlc mli mna mva mma mch mre mlv mwr msh 1 mnv mns mfa mmo) ∧ (¬ (¬ sIn k1 0 7 = true) → False))))) ∧ (¬ k2 = 0 → ((k3 = 0 → ((¬ sIn k1 0 7 = true → post ki co pr pa tw nv sv pn pl po pf pt ru le li bn ip aw ns ch ma br tl ou mki msz mle mel mme mal mic mil mio mab mae msa mlc mli mna mva mma mch mre mlv mwr msh 1 mnv mns mfa mmo) ∧ (¬ (¬ sIn k1 0 7 = true) → False))) ∧ (¬ k3 = 0 → ((¬ sIn k1 0 7 = true → post ki co pr pa tw nv sv pn pl po pf pt ru le li bn ip aw ns ch ma br tl ou mki msz mle mel mme mal mic mil mio mab mae msa mlc mli mna mva mma mch mre mlv mwr msh 1 mnv mns mfa mmo) ∧ (¬ (¬ sIn k1 0 7 = true) → False))))))) ∧ (¬ (¬ sHas 8 k1 = true) → ((k2 = 0 → ((k3 = 0 → ((¬ sIn k1 0 7 = true → False) ∧ (¬ (¬ sIn k1 0 7 = true) → post ki co pr pa tw nv sv pn pl po (upd pf k1.toNatClampNeg (vp_nar .boolean 1)) (upd pt k1.toNatClampNeg (vp_nar .boolean 1)) ru le li bn ip aw ns ch ma br tl ou mki msz mle mel mme mal mic mil mio (upd mab k1.toNatClampNeg (vp_nar .boolean 0)) (upd mae k1.toNatClampNeg (vp_nar .boolean 0)) msa mlc mli mna mva mma mch mre mlv mwr msh 0 mnv mns mfa mmo))) ∧ (¬ k3 = 0 → ((¬ sIn k1 0 7 = true → False) ∧ (¬ (¬ sIn k1 0 7 = true) → post ki co pr pa tw nv sv pn pl po (upd pf k1.toNatClampNeg (vp_nar .boolean 1)) (upd pt k1.toNatClampNeg (vp_nar .boolean 1)) ru le li bn ip aw ns ch ma br tl ou mki msz mle mel mme mal mic mil mio (upd mab k1.toNatClampNeg (vp_nar .boolean 0)) (upd mae k1.toNatClampNeg (vp_nar .boolean 1)) msa mlc mli mna mva mma mch mre mlv mwr msh 0 mnv mns mfa mmo))))) ∧ (¬ k2 = 0 → ((k3 = 0 → ((¬ sIn k1 0 7 = true → False) ∧ (¬ (¬ sIn k1 0 7 = true) → post ki co pr pa tw nv sv pn pl po (upd pf k1.toNatClampNeg (vp_nar .boolean 1)) (upd pt k1.toNatClampNeg (vp_nar .boolean 1)) ru le li bn ip aw ns ch ma br tl ou mki msz mle mel mme mal mic mil mio (upd mab k1.toNatClampNeg (vp_nar .boolean 1)) (upd mae k1.toNatClampNeg (vp_nar .boolean 0)) msa mlc mli mna mva mma mch mre mlv mwr msh 0 mnv mns mfa mmo))) ∧ (¬ k3 = 0 → ((¬ sIn k1 0 7 = true → False) ∧ (¬ (¬ sIn k1 0 7 = true) → post ki co pr pa tw nv sv pn pl po (upd pf k1.toNatClampNeg (vp_nar .boolean 1)) (upd pt k1.toNatClampNeg (vp_nar .boolean 1)) ru le li bn ip aw ns ch ma br tl ou mki msz mle mel mme mal mic mil mio (upd mab k1.toNatClampNeg (vp_nar .boolean 1)) (upd mae k1.toNatClampNeg (vp_nar .boolean 1)) msa mlc mli mna mva mma mch mre mlv mwr msh 0 mnv mns mfa mmo))))))))))))
set_option maxHeartbeats 4000000 in
set_option maxRecDepth 100000 in
theorem g_L7 {p : Program} {l : Launch} {e : Env} {R : Room} {s : State} {m : MethodId} {args : Array Value} {below : List Frame} {meth : Method} {c : Code} {H : Heap} {locs : List Loc} {cells slots : Nat} {Q : State → Prop} {ls : Array Slot} {A : Nat → Prop} (hls : l.stackTraces = false) (S : CallFix p m c code 7 s args W0 "SchemaJudgeLaw") (hN : eN s) (hRf : 8 ≤ R.frames) (hRl : 137 ≤ R.locals) (hRc : cells + 1 ≤ R.cells ∧ slots + 6 ≤ R.slots) (D : va_G) (a b : Nat → Nat) (cI cJ cZ : ClassId) (ki : Nat → Int32) (co : Nat → Int64) (pr : Nat → Int32) (pa : Nat → Int32) (tw : Nat → Int32) (nv : Int32) (sv : Int32) (pn : Nat → Int32) (pl : Nat → Int32) (po : Nat → Int32) (pf : Nat → Int32) (pt : Nat → Int32) (ru : Nat → Int32) (le : Nat → Int32) (li : Nat → Int32) (bn : Nat → Int32) (ip : Nat → Int32) (aw : Nat → Int32) (ns : Int32) (ch : Nat → Int32) (ma : Nat → Int32) (br : Nat → Int64) (tl : Int32) (ou : Nat → Int64) (mki : Nat → Int32) (msz : Nat → Int64) (mle : Nat → Int32) (mel : Nat → Int32) (mme : Nat → Int32) (mal : Nat → Int32) (mic : Nat → Int32) (mil : Nat → Int32) (mio : Nat → Int32) (mab : Nat → Int32) (mae : Nat → Int32) (msa : Nat → Int32) (mlc : Nat → Int32) (mli : Nat → Int32) (mna : Nat → Int32) (mva : Nat → Int32) (mma : Nat → Int32) (mch : Nat → Int32) (mre : Nat → Int32) (mlv : Nat → Int32) (mwr : Nat → Int64) (msh : Nat → Int32) (mth : Int32) (mnv : Int32) (mns : Int32) (mfa : Int32) (mmo : Int32) (k1 k2 k3 k4 : Int32) (sc L : Nat) (xs : Nat → Int32) (i : Int32) (hXs : va_X sc L xs s s.heap) (hbl : sc < s.heap.size) (hbA : ¬ A sc) (hi1 : vp_in (i + 1) L) (e1 : xs (i + 1 : Int32).toNatClampNeg = k1) (hi2 : vp_in (i + 2) L) (e2 : xs (i + 2 : Int32).toNatClampNeg = k2) (hi3 : vp_in (i + 3) L) (e3 : xs (i + 3 : Int32).toNatClampNeg = k3) (hi4 : vp_in (i + 4) L) (e4 : xs (i + 4 : Int32).toNatClampNeg = k4) (hK : va_K D vwCl (tyA cI cJ cZ) s) (hP : va_P D vwCl ((wX a ++ wV a cI cJ ki co pr pa tw nv sv ++ wP a cI cZ pn pl po pf pt ++ wS a cI ru le li bn ip aw ns ++ wL a ++ wJ a cI cJ ch ma br tl ++ wO a cJ ou) ++ (wM b cI cJ cZ mki msz mle mel mme mal mic mil mio mab mae msa mlc mli mna mva mma mch mre mlv mwr msh mth mnv mns mfa mmo)) H) (hD : va_D A ((wX a ++ wV a cI cJ ki co pr pa tw nv sv ++ wP a cI cZ pn pl po pf pt ++ wS a cI ru le li bn ip aw ns ++ wL a ++ wJ a cI cJ ch ma br tl ++ wO a cJ ou) ++ (wM b cI cJ cZ mki msz mle mel mme mal mic mil mio mab mae msa mlc mli mna mva mma mch mre mlv mwr msh mth mnv mns mfa mmo))) (hA : ∀ q, s.heap.size ≤ q → A q) (hS : va_S A s.heap H locs) (hX : eX A s s.heap) (hl : lv_has ls 7 [(4, .int i), (3, .ref (a 25)), (2, .ref (b 0)), (1, .ref (a 24)), (0, .ref sc)]) {post : (Nat → Int32) → (Nat → Int64) → (Nat → Int32) → (Nat → Int32) → (Nat → Int32) → Int32 → Int32 → (Nat → Int32) → (Nat → Int32) → (Nat → Int32) → (Nat → Int32) → (Nat → Int32) → (Nat → Int32) → (Nat → Int32) → (Nat → Int32) → (Nat → Int32) → (Nat → Int32) → (Nat → Int32) → Int32 → (Nat → Int32) → (Nat → Int32) → (Nat → Int64) → Int32 → (Nat → Int64) → (Nat → Int32) → (Nat → Int64) → (Nat → Int32) → (Nat → Int32) → (Nat → Int32) → (Nat → Int32) → (Nat → Int32) → (Nat → Int32) → (Nat → Int32) → (Nat → Int32) → (Nat → Int32) → (Nat → Int32) → (Nat → Int32) → (Nat → Int32) → (Nat → Int32) → (Nat → Int32) → (Nat → Int32) → (Nat → Int32) → (Nat → Int32) → (Nat → Int32) → (Nat → Int64) → (Nat → Int32) → Int32 → Int32 → Int32 → Int32 → Int32 → Prop} (vc : V_L7 ki co pr pa tw nv sv pn pl po pf pt ru le li bn ip aw ns ch ma br tl ou mki msz mle mel mme mal mic mil mio mab mae msa mlc mli mna mva mma mch mre mlv mwr msh mth mnv mns mfa mmo k1 k2 k3 k4 post)
    (hnext : ∀ (ki : Nat → Int32) (co : Nat → Int64) (pr : Nat → Int32) (pa : Nat → Int32) (tw : Nat → Int32) (nv : Int32) (sv : Int32) (pn : Nat → Int32) (pl : Nat → Int32) (po : Nat → Int32) (pf : Nat → Int32) (pt : Nat → Int32) (ru : Nat → Int32) (le : Nat → Int32) (li : Nat → Int32) (bn : Nat → Int32) (ip : Nat → Int32) (aw : Nat → Int32) (ns : Int32) (ch : Nat → Int32) (ma : Nat → Int32) (br : Nat → Int64) (tl : Int32) (ou : Nat → Int64) (mki : Nat → Int32) (msz : Nat → Int64) (mle : Nat → Int32) (mel : Nat → Int32) (mme : Nat → Int32) (mal : Nat → Int32) (mic : Nat → Int32) (mil : Nat → Int32) (mio : Nat → Int32) (mab : Nat → Int32) (mae : Nat → Int32) (msa : Nat → Int32) (mlc : Nat → Int32) (mli : Nat → Int32) (mna : Nat → Int32) (mva : Nat → Int32) (mma : Nat → Int32) (mch : Nat → Int32) (mre : Nat → Int32) (mlv : Nat → Int32) (mwr : Nat → Int64) (msh : Nat → Int32) (mth : Int32) (mnv : Int32) (mns : Int32) (mfa : Int32) (mmo : Int32) (ls : Array Slot) (H : Heap) (locs : List Loc), post ki co pr pa tw nv sv pn pl po pf pt ru le li bn ip aw ns ch ma br tl ou mki msz mle mel mme mal mic mil mio mab mae msa mlc mli mna mva mma mch mre mlv mwr msh mth mnv mns mfa mmo → lv_has ls 7 [(0, .ref sc), (1, .ref (a 24)), (2, .ref (b 0)), (3, .ref (a 25)), (4, .int i)] → va_P D vwCl ((wX a ++ wV a cI cJ ki co pr pa tw nv sv ++ wP a cI cZ pn pl po pf pt ++ wS a cI ru le li bn ip aw ns ++ wL a ++ wJ a cI cJ ch ma br tl ++ wO a cJ ou) ++ (wM b cI cJ cZ mki msz mle mel mme mal mic mil mio mab mae msa mlc mli mna mva mma mch mre mlv mwr msh mth mnv mns mfa mmo)) H → va_D A ((wX a ++ wV a cI cJ ki co pr pa tw nv sv ++ wP a cI cZ pn pl po pf pt ++ wS a cI ru le li bn ip aw ns ++ wL a ++ wJ a cI cJ ch ma br tl ++ wO a cJ ou) ++ (wM b cI cJ cZ mki msz mle mel mme mal mic mil mio mab mae msa mlc mli mna mva mma mch mre mlv mwr msh mth mnv mns mfa mmo)) → va_S A s.heap H locs → W p l e R s m args below meth c H locs (cells + 1) (slots + 6) Q (F0 m 1215 ls [])) : W p l e R s m args below meth c H locs cells slots Q (F0 m 580 ls []) := by
  have hx := S.1
  have hb := S.2.1
  have hown := S.2.2.2.1
  have hts := S.2.2.2.2
  have h01 : vp_in (0 : Int32) 1 := vp_in_nI (n := 0) (by decide) (by decide)
  unfold V_L7 at vc
  refine lv_aload_n hx hb d_La_law_580 rfl (lv_at hl 3 rfl) ?_
  refine lv_aload_n hx hb d_La_law_581 rfl (lv_at hl 4 rfl) ?_
  refine lv_iload hx hb d_La_law_582 (lv_at hl 0 rfl) ?_
  refine lv_iconst (v := 1) hx hb d_La_law_584 (by decide) ?_
  refine lv_iadd hx hb d_La_law_585 ?_
  refine va_sld hx hb hXs hbl hbA hS hi1 d_La_law_586 ?_
  rw [e1]
  refine lv_aload_n hx hb d_La_law_587 rfl (lv_at hl 4 rfl) ?_
  refine lv_iload hx hb d_La_law_588 (lv_at hl 0 rfl) ?_
  refine lv_iconst (v := 2) hx hb d_La_law_590 (by decide) ?_
  refine lv_iadd hx hb d_La_law_591 ?_
  refine va_sld hx hb hXs hbl hbA hS hi2 d_La_law_592 ?_
  rw [e2]
  refine lv_if_eq (tgt := 600) hx hb d_La_law_593 (by decide) (fun h => ?_) (fun h => ?_)
  · have vc := vc.1 h
    refine lv_iconst (v := 0) hx hb d_La_law_600 (by decide) ?_
    refine lv_aload_n hx hb d_La_law_601 rfl (lv_at hl 4 rfl) ?_
    refine lv_iload hx hb d_La_law_602 (lv_at hl 0 rfl) ?_
    refine lv_iconst (v := 3) hx hb d_La_law_604 (by decide) ?_
    refine lv_iadd hx hb d_La_law_605 ?_
    refine va_sld hx hb hXs hbl hbA hS hi3 d_La_law_606 ?_
    rw [e3]
    refine lv_if_eq (tgt := 614) hx hb d_La_law_607 (by decide) (fun h => ?_) (fun h => ?_)
    · have vc := vc.1 h
      refine lv_iconst (v := 0) hx hb d_La_law_614 (by decide) ?_
      by_cases hv1 : ¬ sHas 8 k1 = true
      · have vc := vc.1 hv1
        refine hc_1 (As := [.ref (a 24), .int k1, .int 0, .int 0]) (rest := []) S (c_La_bind_1 l hls D a cI cJ cZ ki co pr pa tw nv sv pn pl po pf pt ru le li bn ip aw ns ch ma br tl ou k1 0 0 hv1) kw_La_bind s_La_bind o_La ml_La_109 hd_La_bind (Nat.le_trans (by decide) hRf) (Nat.le_trans (by decide) hRl) hRc hK hP hD hS hA hX hN hl.1 rfl (Nat.le_of_ble_eq_true rfl) d_La_law_615 (fun _ H locs _ hP hD hS => ?_)
        refine lv_istore hx hb d_La_law_618 hl (by decide) (lv' := [(5, .int 1), (4, .int i), (3, .ref (a 25)), (2, .ref (b 0)), (1, .ref (a 24)), (0, .ref sc)]) rfl (fun ls hl => ?_)
        refine lv_aload_n hx hb d_La_law_620 rfl (lv_at hl 3 rfl) ?_
        refine lv_aload_n hx hb d_La_law_621 rfl (lv_at hl 5 rfl) ?_
        refine lv_iload hx hb d_La_law_622 (lv_at hl 1 rfl) ?_
        refine lv_iconst (v := 1) hx hb d_La_law_624 (by decide) ?_
        refine lv_iadd hx hb d_La_law_625 ?_
        refine va_sld hx hb hXs hbl hbA hS hi1 d_La_law_626 ?_
        rw [e1]
        refine lv_aload_n hx hb d_La_law_627 rfl (lv_at hl 5 rfl) ?_
        refine lv_iload hx hb d_La_law_628 (lv_at hl 1 rfl) ?_
        refine lv_iconst (v := 2) hx hb d_La_law_630 (by decide) ?_
        refine lv_iadd hx hb d_La_law_631 ?_
        refine va_sld hx hb hXs hbl hbA hS hi2 d_La_law_632 ?_
        rw [e2]
        refine lv_if_eq (tgt := 640) hx hb d_La_law_633 (by decide) (fun h => ?_) (fun h => ?_)
        · have vc := vc.1 h
          refine lv_iconst (v := 0) hx hb d_La_law_640 (by decide) ?_
          refine lv_aload_n hx hb d_La_law_641 rfl (lv_at hl 5 rfl) ?_
          refine lv_iload hx hb d_La_law_642 (lv_at hl 1 rfl) ?_
          refine lv_iconst (v := 3) hx hb d_La_law_644 (by decide) ?_
          refine lv_iadd hx hb d_La_law_645 ?_
          refine va_sld hx hb hXs hbl hbA hS hi3 d_La_law_646 ?_
          rw [e3]
          refine lv_if_eq (tgt := 654) hx hb d_La_law_647 (by decide) (fun h => ?_) (fun h => ?_)
          · have vc := vc.1 h
            refine lv_iconst (v := 0) hx hb d_La_law_654 (by decide) ?_
            by_cases hv1 : ¬ sIn k1 0 7 = true
            · have vc := vc.1 hv1
              refine wc_2 (As := [.int k1, .int 0, .int 0]) (rest := []) S (c_Mo_bind_1 l D b cI cJ cZ mki msz mle mel mme mal mic mil mio mab mae msa mlc mli mna mva mma mch mre mlv mwr msh mth mnv mns mfa mmo k1 0 0 hv1) k_Mo_bind i_Mo_bind e_Mo_bind o_Mo ml_La_112 hd_Mo_bind (Nat.le_trans (by decide) hRf) (Nat.le_trans (by decide) hRl) hRc (va_recv hK hP.r (q0 := 0) (ci := 6) rfl rfl) hK hP hD hS hA hl.1 rfl (Nat.le_of_ble_eq_true rfl) d_La_law_655 (fun _ H locs _ hP hD hS => ?_)
              refine lv_aload_n hx hb d_La_law_658 rfl (lv_at hl 3 rfl) ?_
              refine pc_V (As := []) (rest := []) S (c_Mo_thrown l D b cI cJ cZ mki msz mle mel mme mal mic mil mio mab mae msa mlc mli mna mva mma mch mre mlv mwr msh 1 mnv mns mfa mmo) wB_blind k_Mo_thrown i_Mo_thrown e_Mo_thrown o_Mo ml_La_84 hd_Mo_thrown (Nat.le_trans (by decide) hRf) (Nat.le_trans (by decide) hRl) hRc (va_recv hK hP.r (q0 := 0) (ci := 6) rfl rfl) (wB_at hP.r hK) hl.1 rfl (Nat.le_of_ble_eq_true rfl) d_La_law_659 ?_
              refine lv_iload hx hb d_La_law_662 (lv_at hl 0 rfl) ?_
              refine lv_icmp_eq (tgt := 669) hx hb d_La_law_664 (by decide) (fun h => ?_) (fun h => ?_)
              · skip
                refine lv_goto (tgt := 1215) hx hb d_La_law_669 (by decide) ?_
                exact hnext ki co pr pa tw nv sv pn pl po pf pt ru le li bn ip aw ns ch ma br tl ou mki msz mle mel mme mal mic mil mio mab mae msa mlc mli mna mva mma mch mre mlv mwr msh 1 mnv mns mfa mmo ls H locs vc (lv_sub hl [5, 4, 3, 2, 1] rfl) hP hD hS
              · exact absurd h (by decide)
            · have vc := vc.2 hv1
              refine wc_2 (As := [.int k1, .int 0, .int 0]) (rest := []) S (c_Mo_bind_2 l D b cI cJ cZ mki msz mle mel mme mal mic mil mio mab mae msa mlc mli mna mva mma mch mre mlv mwr msh mth mnv mns mfa mmo k1 0 0 hv1) k_Mo_bind i_Mo_bind e_Mo_bind o_Mo ml_La_112 hd_Mo_bind (Nat.le_trans (by decide) hRf) (Nat.le_trans (by decide) hRl) hRc (va_recv hK hP.r (q0 := 0) (ci := 6) rfl rfl) hK hP hD hS hA hl.1 rfl (Nat.le_of_ble_eq_true rfl) d_La_law_655 (fun _ H locs _ hP hD hS => ?_)
              refine lv_aload_n hx hb d_La_law_658 rfl (lv_at hl 3 rfl) ?_
              refine pc_V (As := []) (rest := []) S (c_Mo_thrown l D b cI cJ cZ mki msz mle mel mme mal mic mil mio (upd mab k1.toNatClampNeg (vp_nar .boolean 0)) (upd mae k1.toNatClampNeg (vp_nar .boolean 0)) msa mlc mli mna mva mma mch mre mlv mwr msh 0 mnv mns mfa mmo) wB_blind k_Mo_thrown i_Mo_thrown e_Mo_thrown o_Mo ml_La_84 hd_Mo_thrown (Nat.le_trans (by decide) hRf) (Nat.le_trans (by decide) hRl) hRc (va_recv hK hP.r (q0 := 0) (ci := 6) rfl rfl) (wB_at hP.r hK) hl.1 rfl (Nat.le_of_ble_eq_true rfl) d_La_law_659 ?_
              refine lv_iload hx hb d_La_law_662 (lv_at hl 0 rfl) ?_
              refine lv_icmp_eq (tgt := 669) hx hb d_La_law_664 (by decide) (fun h => ?_) (fun h => ?_)
              · exact absurd h (by decide)
              · skip
                refine lv_iconst (v := 0) hx hb d_La_law_667 (by decide) ?_
                exact vc.elim
          · have vc := vc.2 h
            refine lv_iconst (v := 1) hx hb d_La_law_650 (by decide) ?_
            refine lv_goto (tgt := 655) hx hb d_La_law_651 (by decide) ?_
            by_cases hv1 : ¬ sIn k1 0 7 = true
            · have vc := vc.1 hv1
              refine wc_2 (As := [.int k1, .int 0, .int 1]) (rest := []) S (c_Mo_bind_1 l D b cI cJ cZ mki msz mle mel mme mal mic mil mio mab mae msa mlc mli mna mva mma mch mre mlv mwr msh mth mnv mns mfa mmo k1 0 1 hv1) k_Mo_bind i_Mo_bind e_Mo_bind o_Mo ml_La_112 hd_Mo_bind (Nat.le_trans (by decide) hRf) (Nat.le_trans (by decide) hRl) hRc (va_recv hK hP.r (q0 := 0) (ci := 6) rfl rfl) hK hP hD hS hA hl.1 rfl (Nat.le_of_ble_eq_true rfl) d_La_law_655 (fun _ H locs _ hP hD hS => ?_)
              refine lv_aload_n hx hb d_La_law_658 rfl (lv_at hl 3 rfl) ?_
              refine pc_V (As := []) (rest := []) S (c_Mo_thrown l D b cI cJ cZ mki msz mle mel mme mal mic mil mio mab mae msa mlc mli mna mva mma mch mre mlv mwr msh 1 mnv mns mfa mmo) wB_blind k_Mo_thrown i_Mo_thrown e_Mo_thrown o_Mo ml_La_84 hd_Mo_thrown (Nat.le_trans (by decide) hRf) (Nat.le_trans (by decide) hRl) hRc (va_recv hK hP.r (q0 := 0) (ci := 6) rfl rfl) (wB_at hP.r hK) hl.1 rfl (Nat.le_of_ble_eq_true rfl) d_La_law_659 ?_
              refine lv_iload hx hb d_La_law_662 (lv_at hl 0 rfl) ?_
              refine lv_icmp_eq (tgt := 669) hx hb d_La_law_664 (by decide) (fun h => ?_) (fun h => ?_)
              · skip
                refine lv_goto (tgt := 1215) hx hb d_La_law_669 (by decide) ?_
                exact hnext ki co pr pa tw nv sv pn pl po pf pt ru le li bn ip aw ns ch ma br tl ou mki msz mle mel mme mal mic mil mio mab mae msa mlc mli mna mva mma mch mre mlv mwr msh 1 mnv mns mfa mmo ls H locs vc (lv_sub hl [5, 4, 3, 2, 1] rfl) hP hD hS
              · exact absurd h (by decide)
            · have vc := vc.2 hv1
              refine wc_2 (As := [.int k1, .int 0, .int 1]) (rest := []) S (c_Mo_bind_2 l D b cI cJ cZ mki msz mle mel mme mal mic mil mio mab mae msa mlc mli mna mva mma mch mre mlv mwr msh mth mnv mns mfa mmo k1 0 1 hv1) k_Mo_bind i_Mo_bind e_Mo_bind o_Mo ml_La_112 hd_Mo_bind (Nat.le_trans (by decide) hRf) (Nat.le_trans (by decide) hRl) hRc (va_recv hK hP.r (q0 := 0) (ci := 6) rfl rfl) hK hP hD hS hA hl.1 rfl (Nat.le_of_ble_eq_true rfl) d_La_law_655 (fun _ H locs _ hP hD hS => ?_)
              refine lv_aload_n hx hb d_La_law_658 rfl (lv_at hl 3 rfl) ?_
              refine pc_V (As := []) (rest := []) S (c_Mo_thrown l D b cI cJ cZ mki msz mle mel mme mal mic mil mio (upd mab k1.toNatClampNeg (vp_nar .boolean 0)) (upd mae k1.toNatClampNeg (vp_nar .boolean 1)) msa mlc mli mna mva mma mch mre mlv mwr msh 0 mnv mns mfa mmo) wB_blind k_Mo_thrown i_Mo_thrown e_Mo_thrown o_Mo ml_La_84 hd_Mo_thrown (Nat.le_trans (by decide) hRf) (Nat.le_trans (by decide) hRl) hRc (va_recv hK hP.r (q0 := 0) (ci := 6) rfl rfl) (wB_at hP.r hK) hl.1 rfl (Nat.le_of_ble_eq_true rfl) d_La_law_659 ?_
              refine lv_iload hx hb d_La_law_662 (lv_at hl 0 rfl) ?_
              refine lv_icmp_eq (tgt := 669) hx hb d_La_law_664 (by decide) (fun h => ?_) (fun h => ?_)
              · exact absurd h (by decide)
              · skip
                refine lv_iconst (v := 0) hx hb d_La_law_667 (by decide) ?_
                exact vc.elim
        · have vc := vc.2 h
          refine lv_iconst (v := 1) hx hb d_La_law_636 (by decide) ?_
          refine lv_goto (tgt := 641) hx hb d_La_law_637 (by decide) ?_
          refine lv_aload_n hx hb d_La_law_641 rfl (lv_at hl 5 rfl) ?_
          refine lv_iload hx hb d_La_law_642 (lv_at hl 1 rfl) ?_
          refine lv_iconst (v := 3) hx hb d_La_law_644 (by decide) ?_
          refine lv_iadd hx hb d_La_law_645 ?_
          refine va_sld hx hb hXs hbl hbA hS hi3 d_La_law_646 ?_
          rw [e3]
          refine lv_if_eq (tgt := 654) hx hb d_La_law_647 (by decide) (fun h => ?_) (fun h => ?_)
          · have vc := vc.1 h
            refine lv_iconst (v := 0) hx hb d_La_law_654 (by decide) ?_
            by_cases hv1 : ¬ sIn k1 0 7 = true
            · have vc := vc.1 hv1
              refine wc_2 (As := [.int k1, .int 1, .int 0]) (rest := []) S (c_Mo_bind_1 l D b cI cJ cZ mki msz mle mel mme mal mic mil mio mab mae msa mlc mli mna mva mma mch mre mlv mwr msh mth mnv mns mfa mmo k1 1 0 hv1) k_Mo_bind i_Mo_bind e_Mo_bind o_Mo ml_La_112 hd_Mo_bind (Nat.le_trans (by decide) hRf) (Nat.le_trans (by decide) hRl) hRc (va_recv hK hP.r (q0 := 0) (ci := 6) rfl rfl) hK hP hD hS hA hl.1 rfl (Nat.le_of_ble_eq_true rfl) d_La_law_655 (fun _ H locs _ hP hD hS => ?_)
              refine lv_aload_n hx hb d_La_law_658 rfl (lv_at hl 3 rfl) ?_
              refine pc_V (As := []) (rest := []) S (c_Mo_thrown l D b cI cJ cZ mki msz mle mel mme mal mic mil mio mab mae msa mlc mli mna mva mma mch mre mlv mwr msh 1 mnv mns mfa mmo) wB_blind k_Mo_thrown i_Mo_thrown e_Mo_thrown o_Mo ml_La_84 hd_Mo_thrown (Nat.le_trans (by decide) hRf) (Nat.le_trans (by decide) hRl) hRc (va_recv hK hP.r (q0 := 0) (ci := 6) rfl rfl) (wB_at hP.r hK) hl.1 rfl (Nat.le_of_ble_eq_true rfl) d_La_law_659 ?_
              refine lv_iload hx hb d_La_law_662 (lv_at hl 0 rfl) ?_
              refine lv_icmp_eq (tgt := 669) hx hb d_La_law_664 (by decide) (fun h => ?_) (fun h => ?_)
              · skip
                refine lv_goto (tgt := 1215) hx hb d_La_law_669 (by decide) ?_
                exact hnext ki co pr pa tw nv sv pn pl po pf pt ru le li bn ip aw ns ch ma br tl ou mki msz mle mel mme mal mic mil mio mab mae msa mlc mli mna mva mma mch mre mlv mwr msh 1 mnv mns mfa mmo ls H locs vc (lv_sub hl [5, 4, 3, 2, 1] rfl) hP hD hS
              · exact absurd h (by decide)
            · have vc := vc.2 hv1
              refine wc_2 (As := [.int k1, .int 1, .int 0]) (rest := []) S (c_Mo_bind_2 l D b cI cJ cZ mki msz mle mel mme mal mic mil mio mab mae msa mlc mli mna mva mma mch mre mlv mwr msh mth mnv mns mfa mmo k1 1 0 hv1) k_Mo_bind i_Mo_bind e_Mo_bind o_Mo ml_La_112 hd_Mo_bind (Nat.le_trans (by decide) hRf) (Nat.le_trans (by decide) hRl) hRc (va_recv hK hP.r (q0 := 0) (ci := 6) rfl rfl) hK hP hD hS hA hl.1 rfl (Nat.le_of_ble_eq_true rfl) d_La_law_655 (fun _ H locs _ hP hD hS => ?_)
              refine lv_aload_n hx hb d_La_law_658 rfl (lv_at hl 3 rfl) ?_
              refine pc_V (As := []) (rest := []) S (c_Mo_thrown l D b cI cJ cZ mki msz mle mel mme mal mic mil mio (upd mab k1.toNatClampNeg (vp_nar .boolean 1)) (upd mae k1.toNatClampNeg (vp_nar .boolean 0)) msa mlc mli mna mva mma mch mre mlv mwr msh 0 mnv mns mfa mmo) wB_blind k_Mo_thrown i_Mo_thrown e_Mo_thrown o_Mo ml_La_84 hd_Mo_thrown (Nat.le_trans (by decide) hRf) (Nat.le_trans (by decide) hRl) hRc (va_recv hK hP.r (q0 := 0) (ci := 6) rfl rfl) (wB_at hP.r hK) hl.1 rfl (Nat.le_of_ble_eq_true rfl) d_La_law_659 ?_
              refine lv_iload hx hb d_La_law_662 (lv_at hl 0 rfl) ?_
              refine lv_icmp_eq (tgt := 669) hx hb d_La_law_664 (by decide) (fun h => ?_) (fun h => ?_)
              · exact absurd h (by decide)
              · skip
                refine lv_iconst (v := 0) hx hb d_La_law_667 (by decide) ?_
                exact vc.elim
          · have vc := vc.2 h
            refine lv_iconst (v := 1) hx hb d_La_law_650 (by decide) ?_
            refine lv_goto (tgt := 655) hx hb d_La_law_651 (by decide) ?_
            by_cases hv1 : ¬ sIn k1 0 7 = true
            · have vc := vc.1 hv1
              refine wc_2 (As := [.int k1, .int 1, .int 1]) (rest := []) S (c_Mo_bind_1 l D b cI cJ cZ mki msz mle mel mme mal mic mil mio mab mae msa mlc mli mna mva mma mch mre mlv mwr msh mth mnv mns mfa mmo k1 1 1 hv1) k_Mo_bind i_Mo_bind e_Mo_bind o_Mo ml_La_112 hd_Mo_bind (Nat.le_trans (by decide) hRf) (Nat.le_trans (by decide) hRl) hRc (va_recv hK hP.r (q0 := 0) (ci := 6) rfl rfl) hK hP hD hS hA hl.1 rfl (Nat.le_of_ble_eq_true rfl) d_La_law_655 (fun _ H locs _ hP hD hS => ?_)
              refine lv_aload_n hx hb d_La_law_658 rfl (lv_at hl 3 rfl) ?_
              refine pc_V (As := []) (rest := []) S (c_Mo_thrown l D b cI cJ cZ mki msz mle mel mme mal mic mil mio mab mae msa mlc mli mna mva mma mch mre mlv mwr msh 1 mnv mns mfa mmo) wB_blind k_Mo_thrown i_Mo_thrown e_Mo_thrown o_Mo ml_La_84 hd_Mo_thrown (Nat.le_trans (by decide) hRf) (Nat.le_trans (by decide) hRl) hRc (va_recv hK hP.r (q0 := 0) (ci := 6) rfl rfl) (wB_at hP.r hK) hl.1 rfl (Nat.le_of_ble_eq_true rfl) d_La_law_659 ?_
              refine lv_iload hx hb d_La_law_662 (lv_at hl 0 rfl) ?_
              refine lv_icmp_eq (tgt := 669) hx hb d_La_law_664 (by decide) (fun h => ?_) (fun h => ?_)
              · skip
                refine lv_goto (tgt := 1215) hx hb d_La_law_669 (by decide) ?_
                exact hnext ki co pr pa tw nv sv pn pl po pf pt ru le li bn ip aw ns ch ma br tl ou mki msz mle mel mme mal mic mil mio mab mae msa mlc mli mna mva mma mch mre mlv mwr msh 1 mnv mns mfa mmo ls H locs vc (lv_sub hl [5, 4, 3, 2, 1] rfl) hP hD hS
              · exact absurd h (by decide)
            · have vc := vc.2 hv1
              refine wc_2 (As := [.int k1, .int 1, .int 1]) (rest := []) S (c_Mo_bind_2 l D b cI cJ cZ mki msz mle mel mme mal mic mil mio mab mae msa mlc mli mna mva mma mch mre mlv mwr msh mth mnv mns mfa mmo k1 1 1 hv1) k_Mo_bind i_Mo_bind e_Mo_bind o_Mo ml_La_112 hd_Mo_bind (Nat.le_trans (by decide) hRf) (Nat.le_trans (by decide) hRl) hRc (va_recv hK hP.r (q0 := 0) (ci := 6) rfl rfl) hK hP hD hS hA hl.1 rfl (Nat.le_of_ble_eq_true rfl) d_La_law_655 (fun _ H locs _ hP hD hS => ?_)
              refine lv_aload_n hx hb d_La_law_658 rfl (lv_at hl 3 rfl) ?_
              refine pc_V (As := []) (rest := []) S (c_Mo_thrown l D b cI cJ cZ mki msz mle mel mme mal mic mil mio (upd mab k1.toNatClampNeg (vp_nar .boolean 1)) (upd mae k1.toNatClampNeg (vp_nar .boolean 1)) msa mlc mli mna mva mma mch mre mlv mwr msh 0 mnv mns mfa mmo) wB_blind k_Mo_thrown i_Mo_thrown e_Mo_thrown o_Mo ml_La_84 hd_Mo_thrown (Nat.le_trans (by decide) hRf) (Nat.le_trans (by decide) hRl) hRc (va_recv hK hP.r (q0 := 0) (ci := 6) rfl rfl) (wB_at hP.r hK) hl.1 rfl (Nat.le_of_ble_eq_true rfl) d_La_law_659 ?_
              refine lv_iload hx hb d_La_law_662 (lv_at hl 0 rfl) ?_
              refine lv_icmp_eq (tgt := 669) hx hb d_La_law_664 (by decide) (fun h => ?_) (fun h => ?_)
              · exact absurd h (by decide)
              · skip
                refine lv_iconst (v := 0) hx hb d_La_law_667 (by decide) ?_
                exact vc.elim
      · have vc := vc.2 hv1
        refine hc_1 (As := [.ref (a 24), .int k1, .int 0, .int 0]) (rest := []) S (c_La_bind_2 l hls D a cI cJ cZ ki co pr pa tw nv sv pn pl po pf pt ru le li bn ip aw ns ch ma br tl ou k1 0 0 hv1) kw_La_bind s_La_bind o_La ml_La_109 hd_La_bind (Nat.le_trans (by decide) hRf) (Nat.le_trans (by decide) hRl) hRc hK hP hD hS hA hX hN hl.1 rfl (Nat.le_of_ble_eq_true rfl) d_La_law_615 (fun _ H locs _ hP hD hS => ?_)
        refine lv_istore hx hb d_La_law_618 hl (by decide) (lv' := [(5, .int 0), (4, .int i), (3, .ref (a 25)), (2, .ref (b 0)), (1, .ref (a 24)), (0, .ref sc)]) rfl (fun ls hl => ?_)
        refine lv_aload_n hx hb d_La_law_620 rfl (lv_at hl 3 rfl) ?_
        refine lv_aload_n hx hb d_La_law_621 rfl (lv_at hl 5 rfl) ?_
        refine lv_iload hx hb d_La_law_622 (lv_at hl 1 rfl) ?_
        refine lv_iconst (v := 1) hx hb d_La_law_624 (by decide) ?_
        refine lv_iadd hx hb d_La_law_625 ?_
        refine va_sld hx hb hXs hbl hbA hS hi1 d_La_law_626 ?_
        rw [e1]
        refine lv_aload_n hx hb d_La_law_627 rfl (lv_at hl 5 rfl) ?_
        refine lv_iload hx hb d_La_law_628 (lv_at hl 1 rfl) ?_
        refine lv_iconst (v := 2) hx hb d_La_law_630 (by decide) ?_
        refine lv_iadd hx hb d_La_law_631 ?_
        refine va_sld hx hb hXs hbl hbA hS hi2 d_La_law_632 ?_
        rw [e2]
        refine lv_if_eq (tgt := 640) hx hb d_La_law_633 (by decide) (fun h => ?_) (fun h => ?_)
        · have vc := vc.1 h
          refine lv_iconst (v := 0) hx hb d_La_law_640 (by decide) ?_
          refine lv_aload_n hx hb d_La_law_641 rfl (lv_at hl 5 rfl) ?_
          refine lv_iload hx hb d_La_law_642 (lv_at hl 1 rfl) ?_
          refine lv_iconst (v := 3) hx hb d_La_law_644 (by decide) ?_
          refine lv_iadd hx hb d_La_law_645 ?_
          refine va_sld hx hb hXs hbl hbA hS hi3 d_La_law_646 ?_
          rw [e3]
          refine lv_if_eq (tgt := 654) hx hb d_La_law_647 (by decide) (fun h => ?_) (fun h => ?_)
          · have vc := vc.1 h
            refine lv_iconst (v := 0) hx hb d_La_law_654 (by decide) ?_
            by_cases hv1 : ¬ sIn k1 0 7 = true
            · have vc := vc.1 hv1
              refine wc_2 (As := [.int k1, .int 0, .int 0]) (rest := []) S (c_Mo_bind_1 l D b cI cJ cZ mki msz mle mel mme mal mic mil mio mab mae msa mlc mli mna mva mma mch mre mlv mwr msh mth mnv mns mfa mmo k1 0 0 hv1) k_Mo_bind i_Mo_bind e_Mo_bind o_Mo ml_La_112 hd_Mo_bind (Nat.le_trans (by decide) hRf) (Nat.le_trans (by decide) hRl) hRc (va_recv hK hP.r (q0 := 0) (ci := 6) rfl rfl) hK hP hD hS hA hl.1 rfl (Nat.le_of_ble_eq_true rfl) d_La_law_655 (fun _ H locs _ hP hD hS => ?_)
              refine lv_aload_n hx hb d_La_law_658 rfl (lv_at hl 3 rfl) ?_
              refine pc_V (As := []) (rest := []) S (c_Mo_thrown l D b cI cJ cZ mki msz mle mel mme mal mic mil mio mab mae msa mlc mli mna mva mma mch mre mlv mwr msh 1 mnv mns mfa mmo) wB_blind k_Mo_thrown i_Mo_thrown e_Mo_thrown o_Mo ml_La_84 hd_Mo_thrown (Nat.le_trans (by decide) hRf) (Nat.le_trans (by decide) hRl) hRc (va_recv hK hP.r (q0 := 0) (ci := 6) rfl rfl) (wB_at hP.r hK) hl.1 rfl (Nat.le_of_ble_eq_true rfl) d_La_law_659 ?_
              refine lv_iload hx hb d_La_law_662 (lv_at hl 0 rfl) ?_
              refine lv_icmp_eq (tgt := 669) hx hb d_La_law_664 (by decide) (fun h => ?_) (fun h => ?_)
              · exact absurd h (by decide)
              · skip
                refine lv_iconst (v := 0) hx hb d_La_law_667 (by decide) ?_
                exact vc.elim
            · have vc := vc.2 hv1
              refine wc_2 (As := [.int k1, .int 0, .int 0]) (rest := []) S (c_Mo_bind_2 l D b cI cJ cZ mki msz mle mel mme mal mic mil mio mab mae msa mlc mli mna mva mma mch mre mlv mwr msh mth mnv mns mfa mmo k1 0 0 hv1) k_Mo_bind i_Mo_bind e_Mo_bind o_Mo ml_La_112 hd_Mo_bind (Nat.le_trans (by decide) hRf) (Nat.le_trans (by decide) hRl) hRc (va_recv hK hP.r (q0 := 0) (ci := 6) rfl rfl) hK hP hD hS hA hl.1 rfl (Nat.le_of_ble_eq_true rfl) d_La_law_655 (fun _ H locs _ hP hD hS => ?_)
              refine lv_aload_n hx hb d_La_law_658 rfl (lv_at hl 3 rfl) ?_
              refine pc_V (As := []) (rest := []) S (c_Mo_thrown l D b cI cJ cZ mki msz mle mel mme mal mic mil mio (upd mab k1.toNatClampNeg (vp_nar .boolean 0)) (upd mae k1.toNatClampNeg (vp_nar .boolean 0)) msa mlc mli mna mva mma mch mre mlv mwr msh 0 mnv mns mfa mmo) wB_blind k_Mo_thrown i_Mo_thrown e_Mo_thrown o_Mo ml_La_84 hd_Mo_thrown (Nat.le_trans (by decide) hRf) (Nat.le_trans (by decide) hRl) hRc (va_recv hK hP.r (q0 := 0) (ci := 6) rfl rfl) (wB_at hP.r hK) hl.1 rfl (Nat.le_of_ble_eq_true rfl) d_La_law_659 ?_
              refine lv_iload hx hb d_La_law_662 (lv_at hl 0 rfl) ?_
              refine lv_icmp_eq (tgt := 669) hx hb d_La_law_664 (by decide) (fun h => ?_) (fun h => ?_)
              · skip
                refine lv_goto (tgt := 1215) hx hb d_La_law_669 (by decide) ?_
                exact hnext ki co pr pa tw nv sv pn pl po (upd pf k1.toNatClampNeg (vp_nar .boolean 0)) (upd pt k1.toNatClampNeg (vp_nar .boolean 0)) ru le li bn ip aw ns ch ma br tl ou mki msz mle mel mme mal mic mil mio (upd mab k1.toNatClampNeg (vp_nar .boolean 0)) (upd mae k1.toNatClampNeg (vp_nar .boolean 0)) msa mlc mli mna mva mma mch mre mlv mwr msh 0 mnv mns mfa mmo ls H locs vc (lv_sub hl [5, 4, 3, 2, 1] rfl) hP hD hS
              · exact absurd h (by decide)
          · have vc := vc.2 h
            refine lv_iconst (v := 1) hx hb d_La_law_650 (by decide) ?_
            refine lv_goto (tgt := 655) hx hb d_La_law_651 (by decide) ?_
            by_cases hv1 : ¬ sIn k1 0 7 = true
            · have vc := vc.1 hv1
              refine wc_2 (As := [.int k1, .int 0, .int 1]) (rest := []) S (c_Mo_bind_1 l D b cI cJ cZ mki msz mle mel mme mal mic mil mio mab mae msa mlc mli mna mva mma mch mre mlv mwr msh mth mnv mns mfa mmo k1 0 1 hv1) k_Mo_bind i_Mo_bind e_Mo_bind o_Mo ml_La_112 hd_Mo_bind (Nat.le_trans (by decide) hRf) (Nat.le_trans (by decide) hRl) hRc (va_recv hK hP.r (q0 := 0) (ci := 6) rfl rfl) hK hP hD hS hA hl.1 rfl (Nat.le_of_ble_eq_true rfl) d_La_law_655 (fun _ H locs _ hP hD hS => ?_)
              refine lv_aload_n hx hb d_La_law_658 rfl (lv_at hl 3 rfl) ?_
              refine pc_V (As := []) (rest := []) S (c_Mo_thrown l D b cI cJ cZ mki msz mle mel mme mal mic mil mio mab mae msa mlc mli mna mva mma mch mre mlv mwr msh 1 mnv mns mfa mmo) wB_blind k_Mo_thrown i_Mo_thrown e_Mo_thrown o_Mo ml_La_84 hd_Mo_thrown (Nat.le_trans (by decide) hRf) (Nat.le_trans (by decide) hRl) hRc (va_recv hK hP.r (q0 := 0) (ci := 6) rfl rfl) (wB_at hP.r hK) hl.1 rfl (Nat.le_of_ble_eq_true rfl) d_La_law_659 ?_
              refine lv_iload hx hb d_La_law_662 (lv_at hl 0 rfl) ?_
              refine lv_icmp_eq (tgt := 669) hx hb d_La_law_664 (by decide) (fun h => ?_) (fun h => ?_)
              · exact absurd h (by decide)
              · skip
                refine lv_iconst (v := 0) hx hb d_La_law_667 (by decide) ?_
                exact vc.elim
            · have vc := vc.2 hv1
              refine wc_2 (As := [.int k1, .int 0, .int 1]) (rest := []) S (c_Mo_bind_2 l D b cI cJ cZ mki msz mle mel mme mal mic mil mio mab mae msa mlc mli mna mva mma mch mre mlv mwr msh mth mnv mns mfa mmo k1 0 1 hv1) k_Mo_bind i_Mo_bind e_Mo_bind o_Mo ml_La_112 hd_Mo_bind (Nat.le_trans (by decide) hRf) (Nat.le_trans (by decide) hRl) hRc (va_recv hK hP.r (q0 := 0) (ci := 6) rfl rfl) hK hP hD hS hA hl.1 rfl (Nat.le_of_ble_eq_true rfl) d_La_law_655 (fun _ H locs _ hP hD hS => ?_)
              refine lv_aload_n hx hb d_La_law_658 rfl (lv_at hl 3 rfl) ?_
              refine pc_V (As := []) (rest := []) S (c_Mo_thrown l D b cI cJ cZ mki msz mle mel mme mal mic mil mio (upd mab k1.toNatClampNeg (vp_nar .boolean 0)) (upd mae k1.toNatClampNeg (vp_nar .boolean 1)) msa mlc mli mna mva mma mch mre mlv mwr msh 0 mnv mns mfa mmo) wB_blind k_Mo_thrown i_Mo_thrown e_Mo_thrown o_Mo ml_La_84 hd_Mo_thrown (Nat.le_trans (by decide) hRf) (Nat.le_trans (by decide) hRl) hRc (va_recv hK hP.r (q0 := 0) (ci := 6) rfl rfl) (wB_at hP.r hK) hl.1 rfl (Nat.le_of_ble_eq_true rfl) d_La_law_659 ?_
              refine lv_iload hx hb d_La_law_662 (lv_at hl 0 rfl) ?_
              refine lv_icmp_eq (tgt := 669) hx hb d_La_law_664 (by decide) (fun h => ?_) (fun h => ?_)
              · skip
                refine lv_goto (tgt := 1215) hx hb d_La_law_669 (by decide) ?_
                exact hnext ki co pr pa tw nv sv pn pl po (upd pf k1.toNatClampNeg (vp_nar .boolean 0)) (upd pt k1.toNatClampNeg (vp_nar .boolean 0)) ru le li bn ip aw ns ch ma br tl ou mki msz mle mel mme mal mic mil mio (upd mab k1.toNatClampNeg (vp_nar .boolean 0)) (upd mae k1.toNatClampNeg (vp_nar .boolean 1)) msa mlc mli mna mva mma mch mre mlv mwr msh 0 mnv mns mfa mmo ls H locs vc (lv_sub hl [5, 4, 3, 2, 1] rfl) hP hD hS
              · exact absurd h (by decide)
        · have vc := vc.2 h
          refine lv_iconst (v := 1) hx hb d_La_law_636 (by decide) ?_
          refine lv_goto (tgt := 641) hx hb d_La_law_637 (by decide) ?_
          refine lv_aload_n hx hb d_La_law_641 rfl (lv_at hl 5 rfl) ?_
          refine lv_iload hx hb d_La_law_642 (lv_at hl 1 rfl) ?_
          refine lv_iconst (v := 3) hx hb d_La_law_644 (by decide) ?_
          refine lv_iadd hx hb d_La_law_645 ?_
          refine va_sld hx hb hXs hbl hbA hS hi3 d_La_law_646 ?_
          rw [e3]
          refine lv_if_eq (tgt := 654) hx hb d_La_law_647 (by decide) (fun h => ?_) (fun h => ?_)
          · have vc := vc.1 h
            refine lv_iconst (v := 0) hx hb d_La_law_654 (by decide) ?_
            by_cases hv1 : ¬ sIn k1 0 7 = true
            · have vc := vc.1 hv1
              refine wc_2 (As := [.int k1, .int 1, .int 0]) (rest := []) S (c_Mo_bind_1 l D b cI cJ cZ mki msz mle mel mme mal mic mil mio mab mae msa mlc mli mna mva mma mch mre mlv mwr msh mth mnv mns mfa mmo k1 1 0 hv1) k_Mo_bind i_Mo_bind e_Mo_bind o_Mo ml_La_112 hd_Mo_bind (Nat.le_trans (by decide) hRf) (Nat.le_trans (by decide) hRl) hRc (va_recv hK hP.r (q0 := 0) (ci := 6) rfl rfl) hK hP hD hS hA hl.1 rfl (Nat.le_of_ble_eq_true rfl) d_La_law_655 (fun _ H locs _ hP hD hS => ?_)
              refine lv_aload_n hx hb d_La_law_658 rfl (lv_at hl 3 rfl) ?_
              refine pc_V (As := []) (rest := []) S (c_Mo_thrown l D b cI cJ cZ mki msz mle mel mme mal mic mil mio mab mae msa mlc mli mna mva mma mch mre mlv mwr msh 1 mnv mns mfa mmo) wB_blind k_Mo_thrown i_Mo_thrown e_Mo_thrown o_Mo ml_La_84 hd_Mo_thrown (Nat.le_trans (by decide) hRf) (Nat.le_trans (by decide) hRl) hRc (va_recv hK hP.r (q0 := 0) (ci := 6) rfl rfl) (wB_at hP.r hK) hl.1 rfl (Nat.le_of_ble_eq_true rfl) d_La_law_659 ?_
              refine lv_iload hx hb d_La_law_662 (lv_at hl 0 rfl) ?_
              refine lv_icmp_eq (tgt := 669) hx hb d_La_law_664 (by decide) (fun h => ?_) (fun h => ?_)
              · exact absurd h (by decide)
              · skip
                refine lv_iconst (v := 0) hx hb d_La_law_667 (by decide) ?_
                exact vc.elim
            · have vc := vc.2 hv1
              refine wc_2 (As := [.int k1, .int 1, .int 0]) (rest := []) S (c_Mo_bind_2 l D b cI cJ cZ mki msz mle mel mme mal mic mil mio mab mae msa mlc mli mna mva mma mch mre mlv mwr msh mth mnv mns mfa mmo k1 1 0 hv1) k_Mo_bind i_Mo_bind e_Mo_bind o_Mo ml_La_112 hd_Mo_bind (Nat.le_trans (by decide) hRf) (Nat.le_trans (by decide) hRl) hRc (va_recv hK hP.r (q0 := 0) (ci := 6) rfl rfl) hK hP hD hS hA hl.1 rfl (Nat.le_of_ble_eq_true rfl) d_La_law_655 (fun _ H locs _ hP hD hS => ?_)
              refine lv_aload_n hx hb d_La_law_658 rfl (lv_at hl 3 rfl) ?_
              refine pc_V (As := []) (rest := []) S (c_Mo_thrown l D b cI cJ cZ mki msz mle mel mme mal mic mil mio (upd mab k1.toNatClampNeg (vp_nar .boolean 1)) (upd mae k1.toNatClampNeg (vp_nar .boolean 0)) msa mlc mli mna mva mma mch mre mlv mwr msh 0 mnv mns mfa mmo) wB_blind k_Mo_thrown i_Mo_thrown e_Mo_thrown o_Mo ml_La_84 hd_Mo_thrown (Nat.le_trans (by decide) hRf) (Nat.le_trans (by decide) hRl) hRc (va_recv hK hP.r (q0 := 0) (ci := 6) rfl rfl) (wB_at hP.r hK) hl.1 rfl (Nat.le_of_ble_eq_true rfl) d_La_law_659 ?_
              refine lv_iload hx hb d_La_law_662 (lv_at hl 0 rfl) ?_
              refine lv_icmp_eq (tgt := 669) hx hb d_La_law_664 (by decide) (fun h => ?_) (fun h => ?_)
              · skip
                refine lv_goto (tgt := 1215) hx hb d_La_law_669 (by decide) ?_
                exact hnext ki co pr pa tw nv sv pn pl po (upd pf k1.toNatClampNeg (vp_nar .boolean 0)) (upd pt k1.toNatClampNeg (vp_nar .boolean 0)) ru le li bn ip aw ns ch ma br tl ou mki msz mle mel mme mal mic mil mio (upd mab k1.toNatClampNeg (vp_nar .boolean 1)) (upd mae k1.toNatClampNeg (vp_nar .boolean 0)) msa mlc mli mna mva mma mch mre mlv mwr msh 0 mnv mns mfa mmo ls H locs vc (lv_sub hl [5, 4, 3, 2, 1] rfl) hP hD hS
              · exact absurd h (by decide)
          · have vc := vc.2 h
            refine lv_iconst (v := 1) hx hb d_La_law_650 (by decide) ?_
            refine lv_goto (tgt := 655) hx hb d_La_law_651 (by decide) ?_
            by_cases hv1 : ¬ sIn k1 0 7 = true
            · have vc := vc.1 hv1
              refine wc_2 (As := [.int k1, .int 1, .int 1]) (rest := []) S (c_Mo_bind_1 l D b cI cJ cZ mki msz mle mel mme mal mic mil mio mab mae msa mlc mli mna mva mma mch mre mlv mwr msh mth mnv mns mfa mmo k1 1 1 hv1) k_Mo_bind i_Mo_bind e_Mo_bind o_Mo ml_La_112 hd_Mo_bind (Nat.le_trans (by decide) hRf) (Nat.le_trans (by decide) hRl) hRc (va_recv hK hP.r (q0 := 0) (ci := 6) rfl rfl) hK hP hD hS hA hl.1 rfl (Nat.le_of_ble_eq_true rfl) d_La_law_655 (fun _ H locs _ hP hD hS => ?_)
              refine lv_aload_n hx hb d_La_law_658 rfl (lv_at hl 3 rfl) ?_
              refine pc_V (As := []) (rest := []) S (c_Mo_thrown l D b cI cJ cZ mki msz mle mel mme mal mic mil mio mab mae msa mlc mli mna mva mma mch mre mlv mwr msh 1 mnv mns mfa mmo) wB_blind k_Mo_thrown i_Mo_thrown e_Mo_thrown o_Mo ml_La_84 hd_Mo_thrown (Nat.le_trans (by decide) hRf) (Nat.le_trans (by decide) hRl) hRc (va_recv hK hP.r (q0 := 0) (ci := 6) rfl rfl) (wB_at hP.r hK) hl.1 rfl (Nat.le_of_ble_eq_true rfl) d_La_law_659 ?_
              refine lv_iload hx hb d_La_law_662 (lv_at hl 0 rfl) ?_
              refine lv_icmp_eq (tgt := 669) hx hb d_La_law_664 (by decide) (fun h => ?_) (fun h => ?_)
              · exact absurd h (by decide)
              · skip
                refine lv_iconst (v := 0) hx hb d_La_law_667 (by decide) ?_
                exact vc.elim
            · have vc := vc.2 hv1
              refine wc_2 (As := [.int k1, .int 1, .int 1]) (rest := []) S (c_Mo_bind_2 l D b cI cJ cZ mki msz mle mel mme mal mic mil mio mab mae msa mlc mli mna mva mma mch mre mlv mwr msh mth mnv mns mfa mmo k1 1 1 hv1) k_Mo_bind i_Mo_bind e_Mo_bind o_Mo ml_La_112 hd_Mo_bind (Nat.le_trans (by decide) hRf) (Nat.le_trans (by decide) hRl) hRc (va_recv hK hP.r (q0 := 0) (ci := 6) rfl rfl) hK hP hD hS hA hl.1 rfl (Nat.le_of_ble_eq_true rfl) d_La_law_655 (fun _ H locs _ hP hD hS => ?_)
              refine lv_aload_n hx hb d_La_law_658 rfl (lv_at hl 3 rfl) ?_
              refine pc_V (As := []) (rest := []) S (c_Mo_thrown l D b cI cJ cZ mki msz mle mel mme mal mic mil mio (upd mab k1.toNatClampNeg (vp_nar .boolean 1)) (upd mae k1.toNatClampNeg (vp_nar .boolean 1)) msa mlc mli mna mva mma mch mre mlv mwr msh 0 mnv mns mfa mmo) wB_blind k_Mo_thrown i_Mo_thrown e_Mo_thrown o_Mo ml_La_84 hd_Mo_thrown (Nat.le_trans (by decide) hRf) (Nat.le_trans (by decide) hRl) hRc (va_recv hK hP.r (q0 := 0) (ci := 6) rfl rfl) (wB_at hP.r hK) hl.1 rfl (Nat.le_of_ble_eq_true rfl) d_La_law_659 ?_
              refine lv_iload hx hb d_La_law_662 (lv_at hl 0 rfl) ?_
              refine lv_icmp_eq (tgt := 669) hx hb d_La_law_664 (by decide) (fun h => ?_) (fun h => ?_)
              · skip
                refine lv_goto (tgt := 1215) hx hb d_La_law_669 (by decide) ?_
                exact hnext ki co pr pa tw nv sv pn pl po (upd pf k1.toNatClampNeg (vp_nar .boolean 0)) (upd pt k1.toNatClampNeg (vp_nar .boolean 0)) ru le li bn ip aw ns ch ma br tl ou mki msz mle mel mme mal mic mil mio (upd mab k1.toNatClampNeg (vp_nar .boolean 1)) (upd mae k1.toNatClampNeg (vp_nar .boolean 1)) msa mlc mli mna mva mma mch mre mlv mwr msh 0 mnv mns mfa mmo ls H locs vc (lv_sub hl [5, 4, 3, 2, 1] rfl) hP hD hS
              · exact absurd h (by decide)
    · have vc := vc.2 h
      refine lv_iconst (v := 1) hx hb d_La_law_610 (by decide) ?_
      refine lv_goto (tgt := 615) hx hb d_La_law_611 (by decide) ?_
      by_cases hv1 : ¬ sHas 8 k1 = true
      · have vc := vc.1 hv1
        refine hc_1 (As := [.ref (a 24), .int k1, .int 0, .int 1]) (rest := []) S (c_La_bind_1 l hls D a cI cJ cZ ki co pr pa tw nv sv pn pl po pf pt ru le li bn ip aw ns ch ma br tl ou k1 0 1 hv1) kw_La_bind s_La_bind o_La ml_La_109 hd_La_bind (Nat.le_trans (by decide) hRf) (Nat.le_trans (by decide) hRl) hRc hK hP hD hS hA hX hN hl.1 rfl (Nat.le_of_ble_eq_true rfl) d_La_law_615 (fun _ H locs _ hP hD hS => ?_)
        refine lv_istore hx hb d_La_law_618 hl (by decide) (lv' := [(5, .int 1), (4, .int i), (3, .ref (a 25)), (2, .ref (b 0)), (1, .ref (a 24)), (0, .ref sc)]) rfl (fun ls hl => ?_)
        refine lv_aload_n hx hb d_La_law_620 rfl (lv_at hl 3 rfl) ?_
        refine lv_aload_n hx hb d_La_law_621 rfl (lv_at hl 5 rfl) ?_
        refine lv_iload hx hb d_La_law_622 (lv_at hl 1 rfl) ?_
        refine lv_iconst (v := 1) hx hb d_La_law_624 (by decide) ?_
        refine lv_iadd hx hb d_La_law_625 ?_
        refine va_sld hx hb hXs hbl hbA hS hi1 d_La_law_626 ?_
        rw [e1]
        refine lv_aload_n hx hb d_La_law_627 rfl (lv_at hl 5 rfl) ?_
        refine lv_iload hx hb d_La_law_628 (lv_at hl 1 rfl) ?_
        refine lv_iconst (v := 2) hx hb d_La_law_630 (by decide) ?_
        refine lv_iadd hx hb d_La_law_631 ?_
        refine va_sld hx hb hXs hbl hbA hS hi2 d_La_law_632 ?_
        rw [e2]
        refine lv_if_eq (tgt := 640) hx hb d_La_law_633 (by decide) (fun h => ?_) (fun h => ?_)
        · have vc := vc.1 h
          refine lv_iconst (v := 0) hx hb d_La_law_640 (by decide) ?_
          refine lv_aload_n hx hb d_La_law_641 rfl (lv_at hl 5 rfl) ?_
          refine lv_iload hx hb d_La_law_642 (lv_at hl 1 rfl) ?_
          refine lv_iconst (v := 3) hx hb d_La_law_644 (by decide) ?_
          refine lv_iadd hx hb d_La_law_645 ?_
          refine va_sld hx hb hXs hbl hbA hS hi3 d_La_law_646 ?_
          rw [e3]
          refine lv_if_eq (tgt := 654) hx hb d_La_law_647 (by decide) (fun h => ?_) (fun h => ?_)
          · have vc := vc.1 h
            refine lv_iconst (v := 0) hx hb d_La_law_654 (by decide) ?_
            by_cases hv1 : ¬ sIn k1 0 7 = true
            · have vc := vc.1 hv1
              refine wc_2 (As := [.int k1, .int 0, .int 0]) (rest := []) S (c_Mo_bind_1 l D b cI cJ cZ mki msz mle mel mme mal mic mil mio mab mae msa mlc mli mna mva mma mch mre mlv mwr msh mth mnv mns mfa mmo k1 0 0 hv1) k_Mo_bind i_Mo_bind e_Mo_bind o_Mo ml_La_112 hd_Mo_bind (Nat.le_trans (by decide) hRf) (Nat.le_trans (by decide) hRl) hRc (va_recv hK hP.r (q0 := 0) (ci := 6) rfl rfl) hK hP hD hS hA hl.1 rfl (Nat.le_of_ble_eq_true rfl) d_La_law_655 (fun _ H locs _ hP hD hS => ?_)
              refine lv_aload_n hx hb d_La_law_658 rfl (lv_at hl 3 rfl) ?_
              refine pc_V (As := []) (rest := []) S (c_Mo_thrown l D b cI cJ cZ mki msz mle mel mme mal mic mil mio mab mae msa mlc mli mna mva mma mch mre mlv mwr msh 1 mnv mns mfa mmo) wB_blind k_Mo_thrown i_Mo_thrown e_Mo_thrown o_Mo ml_La_84 hd_Mo_thrown (Nat.le_trans (by decide) hRf) (Nat.le_trans (by decide) hRl) hRc (va_recv hK hP.r (q0 := 0) (ci := 6) rfl rfl) (wB_at hP.r hK) hl.1 rfl (Nat.le_of_ble_eq_true rfl) d_La_law_659 ?_
              refine lv_iload hx hb d_La_law_662 (lv_at hl 0 rfl) ?_
              refine lv_icmp_eq (tgt := 669) hx hb d_La_law_664 (by decide) (fun h => ?_) (fun h => ?_)
              · skip
                refine lv_goto (tgt := 1215) hx hb d_La_law_669 (by decide) ?_
                exact hnext ki co pr pa tw nv sv pn pl po pf pt ru le li bn ip aw ns ch ma br tl ou mki msz mle mel mme mal mic mil mio mab mae msa mlc mli mna mva mma mch mre mlv mwr msh 1 mnv mns mfa mmo ls H locs vc (lv_sub hl [5, 4, 3, 2, 1] rfl) hP hD hS
              · exact absurd h (by decide)
            · have vc := vc.2 hv1
              refine wc_2 (As := [.int k1, .int 0, .int 0]) (rest := []) S (c_Mo_bind_2 l D b cI cJ cZ mki msz mle mel mme mal mic mil mio mab mae msa mlc mli mna mva mma mch mre mlv mwr msh mth mnv mns mfa mmo k1 0 0 hv1) k_Mo_bind i_Mo_bind e_Mo_bind o_Mo ml_La_112 hd_Mo_bind (Nat.le_trans (by decide) hRf) (Nat.le_trans (by decide) hRl) hRc (va_recv hK hP.r (q0 := 0) (ci := 6) rfl rfl) hK hP hD hS hA hl.1 rfl (Nat.le_of_ble_eq_true rfl) d_La_law_655 (fun _ H locs _ hP hD hS => ?_)
              refine lv_aload_n hx hb d_La_law_658 rfl (lv_at hl 3 rfl) ?_
              refine pc_V (As := []) (rest := []) S (c_Mo_thrown l D b cI cJ cZ mki msz mle mel mme mal mic mil mio (upd mab k1.toNatClampNeg (vp_nar .boolean 0)) (upd mae k1.toNatClampNeg (vp_nar .boolean 0)) msa mlc mli mna mva mma mch mre mlv mwr msh 0 mnv mns mfa mmo) wB_blind k_Mo_thrown i_Mo_thrown e_Mo_thrown o_Mo ml_La_84 hd_Mo_thrown (Nat.le_trans (by decide) hRf) (Nat.le_trans (by decide) hRl) hRc (va_recv hK hP.r (q0 := 0) (ci := 6) rfl rfl) (wB_at hP.r hK) hl.1 rfl (Nat.le_of_ble_eq_true rfl) d_La_law_659 ?_
              refine lv_iload hx hb d_La_law_662 (lv_at hl 0 rfl) ?_
              refine lv_icmp_eq (tgt := 669) hx hb d_La_law_664 (by decide) (fun h => ?_) (fun h => ?_)
              · exact absurd h (by decide)
              · skip
                refine lv_iconst (v := 0) hx hb d_La_law_667 (by decide) ?_
                exact vc.elim
          · have vc := vc.2 h
            refine lv_iconst (v := 1) hx hb d_La_law_650 (by decide) ?_
            refine lv_goto (tgt := 655) hx hb d_La_law_651 (by decide) ?_
            by_cases hv1 : ¬ sIn k1 0 7 = true
            · have vc := vc.1 hv1
              refine wc_2 (As := [.int k1, .int 0, .int 1]) (rest := []) S (c_Mo_bind_1 l D b cI cJ cZ mki msz mle mel mme mal mic mil mio mab mae msa mlc mli mna mva mma mch mre mlv mwr msh mth mnv mns mfa mmo k1 0 1 hv1) k_Mo_bind i_Mo_bind e_Mo_bind o_Mo ml_La_112 hd_Mo_bind (Nat.le_trans (by decide) hRf) (Nat.le_trans (by decide) hRl) hRc (va_recv hK hP.r (q0 := 0) (ci := 6) rfl rfl) hK hP hD hS hA hl.1 rfl (Nat.le_of_ble_eq_true rfl) d_La_law_655 (fun _ H locs _ hP hD hS => ?_)
              refine lv_aload_n hx hb d_La_law_658 rfl (lv_at hl 3 rfl) ?_
              refine pc_V (As := []) (rest := []) S (c_Mo_thrown l D b cI cJ cZ mki msz mle mel mme mal mic mil mio mab mae msa mlc mli mna mva mma mch mre mlv mwr msh 1 mnv mns mfa mmo) wB_blind k_Mo_thrown i_Mo_thrown e_Mo_thrown o_Mo ml_La_84 hd_Mo_thrown (Nat.le_trans (by decide) hRf) (Nat.le_trans (by decide) hRl) hRc (va_recv hK hP.r (q0 := 0) (ci := 6) rfl rfl) (wB_at hP.r hK) hl.1 rfl (Nat.le_of_ble_eq_true rfl) d_La_law_659 ?_
              refine lv_iload hx hb d_La_law_662 (lv_at hl 0 rfl) ?_
              refine lv_icmp_eq (tgt := 669) hx hb d_La_law_664 (by decide) (fun h => ?_) (fun h => ?_)
              · skip
                refine lv_goto (tgt := 1215) hx hb d_La_law_669 (by decide) ?_
                exact hnext ki co pr pa tw nv sv pn pl po pf pt ru le li bn ip aw ns ch ma br tl ou mki msz mle mel mme mal mic mil mio mab mae msa mlc mli mna mva mma mch mre mlv mwr msh 1 mnv mns mfa mmo ls H locs vc (lv_sub hl [5, 4, 3, 2, 1] rfl) hP hD hS
              · exact absurd h (by decide)
            · have vc := vc.2 hv1
              refine wc_2 (As := [.int k1, .int 0, .int 1]) (rest := []) S (c_Mo_bind_2 l D b cI cJ cZ mki msz mle mel mme mal mic mil mio mab mae msa mlc mli mna mva mma mch mre mlv mwr msh mth mnv mns mfa mmo k1 0 1 hv1) k_Mo_bind i_Mo_bind e_Mo_bind o_Mo ml_La_112 hd_Mo_bind (Nat.le_trans (by decide) hRf) (Nat.le_trans (by decide) hRl) hRc (va_recv hK hP.r (q0 := 0) (ci := 6) rfl rfl) hK hP hD hS hA hl.1 rfl (Nat.le_of_ble_eq_true rfl) d_La_law_655 (fun _ H locs _ hP hD hS => ?_)
              refine lv_aload_n hx hb d_La_law_658 rfl (lv_at hl 3 rfl) ?_
              refine pc_V (As := []) (rest := []) S (c_Mo_thrown l D b cI cJ cZ mki msz mle mel mme mal mic mil mio (upd mab k1.toNatClampNeg (vp_nar .boolean 0)) (upd mae k1.toNatClampNeg (vp_nar .boolean 1)) msa mlc mli mna mva mma mch mre mlv mwr msh 0 mnv mns mfa mmo) wB_blind k_Mo_thrown i_Mo_thrown e_Mo_thrown o_Mo ml_La_84 hd_Mo_thrown (Nat.le_trans (by decide) hRf) (Nat.le_trans (by decide) hRl) hRc (va_recv hK hP.r (q0 := 0) (ci := 6) rfl rfl) (wB_at hP.r hK) hl.1 rfl (Nat.le_of_ble_eq_true rfl) d_La_law_659 ?_
              refine lv_iload hx hb d_La_law_662 (lv_at hl 0 rfl) ?_
              refine lv_icmp_eq (tgt := 669) hx hb d_La_law_664 (by decide) (fun h => ?_) (fun h => ?_)
              · exact absurd h (by decide)
              · skip
                refine lv_iconst (v := 0) hx hb d_La_law_667 (by decide) ?_
                exact vc.elim
        · have vc := vc.2 h
          refine lv_iconst (v := 1) hx hb d_La_law_636 (by decide) ?_
          refine lv_goto (tgt := 641) hx hb d_La_law_637 (by decide) ?_
          refine lv_aload_n hx hb d_La_law_641 rfl (lv_at hl 5 rfl) ?_
          refine lv_iload hx hb d_La_law_642 (lv_at hl 1 rfl) ?_
          refine lv_iconst (v := 3) hx hb d_La_law_644 (by decide) ?_
          refine lv_iadd hx hb d_La_law_645 ?_
          refine va_sld hx hb hXs hbl hbA hS hi3 d_La_law_646 ?_
          rw [e3]
          refine lv_if_eq (tgt := 654) hx hb d_La_law_647 (by decide) (fun h => ?_) (fun h => ?_)
          · have vc := vc.1 h
            refine lv_iconst (v := 0) hx hb d_La_law_654 (by decide) ?_
            by_cases hv1 : ¬ sIn k1 0 7 = true
            · have vc := vc.1 hv1
              refine wc_2 (As := [.int k1, .int 1, .int 0]) (rest := []) S (c_Mo_bind_1 l D b cI cJ cZ mki msz mle mel mme mal mic mil mio mab mae msa mlc mli mna mva mma mch mre mlv mwr msh mth mnv mns mfa mmo k1 1 0 hv1) k_Mo_bind i_Mo_bind e_Mo_bind o_Mo ml_La_112 hd_Mo_bind (Nat.le_trans (by decide) hRf) (Nat.le_trans (by decide) hRl) hRc (va_recv hK hP.r (q0 := 0) (ci := 6) rfl rfl) hK hP hD hS hA hl.1 rfl (Nat.le_of_ble_eq_true rfl) d_La_law_655 (fun _ H locs _ hP hD hS => ?_)
              refine lv_aload_n hx hb d_La_law_658 rfl (lv_at hl 3 rfl) ?_
              refine pc_V (As := []) (rest := []) S (c_Mo_thrown l D b cI cJ cZ mki msz mle mel mme mal mic mil mio mab mae msa mlc mli mna mva mma mch mre mlv mwr msh 1 mnv mns mfa mmo) wB_blind k_Mo_thrown i_Mo_thrown e_Mo_thrown o_Mo ml_La_84 hd_Mo_thrown (Nat.le_trans (by decide) hRf) (Nat.le_trans (by decide) hRl) hRc (va_recv hK hP.r (q0 := 0) (ci := 6) rfl rfl) (wB_at hP.r hK) hl.1 rfl (Nat.le_of_ble_eq_true rfl) d_La_law_659 ?_
              refine lv_iload hx hb d_La_law_662 (lv_at hl 0 rfl) ?_
              refine lv_icmp_eq (tgt := 669) hx hb d_La_law_664 (by decide) (fun h => ?_) (fun h => ?_)
              · skip
                refine lv_goto (tgt := 1215) hx hb d_La_law_669 (by decide) ?_
                exact hnext ki co pr pa tw nv sv pn pl po pf pt ru le li bn ip aw ns ch ma br tl ou mki msz mle mel mme mal mic mil mio mab mae msa mlc mli mna mva mma mch mre mlv mwr msh 1 mnv mns mfa mmo ls H locs vc (lv_sub hl [5, 4, 3, 2, 1] rfl) hP hD hS
              · exact absurd h (by decide)
            · have vc := vc.2 hv1
              refine wc_2 (As := [.int k1, .int 1, .int 0]) (rest := []) S (c_Mo_bind_2 l D b cI cJ cZ mki msz mle mel mme mal mic mil mio mab mae msa mlc mli mna mva mma mch mre mlv mwr msh mth mnv mns mfa mmo k1 1 0 hv1) k_Mo_bind i_Mo_bind e_Mo_bind o_Mo ml_La_112 hd_Mo_bind (Nat.le_trans (by decide) hRf) (Nat.le_trans (by decide) hRl) hRc (va_recv hK hP.r (q0 := 0) (ci := 6) rfl rfl) hK hP hD hS hA hl.1 rfl (Nat.le_of_ble_eq_true rfl) d_La_law_655 (fun _ H locs _ hP hD hS => ?_)
              refine lv_aload_n hx hb d_La_law_658 rfl (lv_at hl 3 rfl) ?_
              refine pc_V (As := []) (rest := []) S (c_Mo_thrown l D b cI cJ cZ mki msz mle mel mme mal mic mil mio (upd mab k1.toNatClampNeg (vp_nar .boolean 1)) (upd mae k1.toNatClampNeg (vp_nar .boolean 0)) msa mlc mli mna mva mma mch mre mlv mwr msh 0 mnv mns mfa mmo) wB_blind k_Mo_thrown i_Mo_thrown e_Mo_thrown o_Mo ml_La_84 hd_Mo_thrown (Nat.le_trans (by decide) hRf) (Nat.le_trans (by decide) hRl) hRc (va_recv hK hP.r (q0 := 0) (ci := 6) rfl rfl) (wB_at hP.r hK) hl.1 rfl (Nat.le_of_ble_eq_true rfl) d_La_law_659 ?_
              refine lv_iload hx hb d_La_law_662 (lv_at hl 0 rfl) ?_
              refine lv_icmp_eq (tgt := 669) hx hb d_La_law_664 (by decide) (fun h => ?_) (fun h => ?_)
              · exact absurd h (by decide)
              · skip
                refine lv_iconst (v := 0) hx hb d_La_law_667 (by decide) ?_
                exact vc.elim
          · have vc := vc.2 h
            refine lv_iconst (v := 1) hx hb d_La_law_650 (by decide) ?_
            refine lv_goto (tgt := 655) hx hb d_La_law_651 (by decide) ?_
            by_cases hv1 : ¬ sIn k1 0 7 = true
            · have vc := vc.1 hv1
              refine wc_2 (As := [.int k1, .int 1, .int 1]) (rest := []) S (c_Mo_bind_1 l D b cI cJ cZ mki msz mle mel mme mal mic mil mio mab mae msa mlc mli mna mva mma mch mre mlv mwr msh mth mnv mns mfa mmo k1 1 1 hv1) k_Mo_bind i_Mo_bind e_Mo_bind o_Mo ml_La_112 hd_Mo_bind (Nat.le_trans (by decide) hRf) (Nat.le_trans (by decide) hRl) hRc (va_recv hK hP.r (q0 := 0) (ci := 6) rfl rfl) hK hP hD hS hA hl.1 rfl (Nat.le_of_ble_eq_true rfl) d_La_law_655 (fun _ H locs _ hP hD hS => ?_)
              refine lv_aload_n hx hb d_La_law_658 rfl (lv_at hl 3 rfl) ?_
              refine pc_V (As := []) (rest := []) S (c_Mo_thrown l D b cI cJ cZ mki msz mle mel mme mal mic mil mio mab mae msa mlc mli mna mva mma mch mre mlv mwr msh 1 mnv mns mfa mmo) wB_blind k_Mo_thrown i_Mo_thrown e_Mo_thrown o_Mo ml_La_84 hd_Mo_thrown (Nat.le_trans (by decide) hRf) (Nat.le_trans (by decide) hRl) hRc (va_recv hK hP.r (q0 := 0) (ci := 6) rfl rfl) (wB_at hP.r hK) hl.1 rfl (Nat.le_of_ble_eq_true rfl) d_La_law_659 ?_
              refine lv_iload hx hb d_La_law_662 (lv_at hl 0 rfl) ?_
              refine lv_icmp_eq (tgt := 669) hx hb d_La_law_664 (by decide) (fun h => ?_) (fun h => ?_)
              · skip
                refine lv_goto (tgt := 1215) hx hb d_La_law_669 (by decide) ?_
                exact hnext ki co pr pa tw nv sv pn pl po pf pt ru le li bn ip aw ns ch ma br tl ou mki msz mle mel mme mal mic mil mio mab mae msa mlc mli mna mva mma mch mre mlv mwr msh 1 mnv mns mfa mmo ls H locs vc (lv_sub hl [5, 4, 3, 2, 1] rfl) hP hD hS
              · exact absurd h (by decide)
            · have vc := vc.2 hv1
              refine wc_2 (As := [.int k1, .int 1, .int 1]) (rest := []) S (c_Mo_bind_2 l D b cI cJ cZ mki msz mle mel mme mal mic mil mio mab mae msa mlc mli mna mva mma mch mre mlv mwr msh mth mnv mns mfa mmo k1 1 1 hv1) k_Mo_bind i_Mo_bind e_Mo_bind o_Mo ml_La_112 hd_Mo_bind (Nat.le_trans (by decide) hRf) (Nat.le_trans (by decide) hRl) hRc (va_recv hK hP.r (q0 := 0) (ci := 6) rfl rfl) hK hP hD hS hA hl.1 rfl (Nat.le_of_ble_eq_true rfl) d_La_law_655 (fun _ H locs _ hP hD hS => ?_)
              refine lv_aload_n hx hb d_La_law_658 rfl (lv_at hl 3 rfl) ?_
              refine pc_V (As := []) (rest := []) S (c_Mo_thrown l D b cI cJ cZ mki msz mle mel mme mal mic mil mio (upd mab k1.toNatClampNeg (vp_nar .boolean 1)) (upd mae k1.toNatClampNeg (vp_nar .boolean 1)) msa mlc mli mna mva mma mch mre mlv mwr msh 0 mnv mns mfa mmo) wB_blind k_Mo_thrown i_Mo_thrown e_Mo_thrown o_Mo ml_La_84 hd_Mo_thrown (Nat.le_trans (by decide) hRf) (Nat.le_trans (by decide) hRl) hRc (va_recv hK hP.r (q0 := 0) (ci := 6) rfl rfl) (wB_at hP.r hK) hl.1 rfl (Nat.le_of_ble_eq_true rfl) d_La_law_659 ?_
              refine lv_iload hx hb d_La_law_662 (lv_at hl 0 rfl) ?_
              refine lv_icmp_eq (tgt := 669) hx hb d_La_law_664 (by decide) (fun h => ?_) (fun h => ?_)
              · exact absurd h (by decide)
              · skip
                refine lv_iconst (v := 0) hx hb d_La_law_667 (by decide) ?_
                exact vc.elim
      · have vc := vc.2 hv1
        refine hc_1 (As := [.ref (a 24), .int k1, .int 0, .int 1]) (rest := []) S (c_La_bind_2 l hls D a cI cJ cZ ki co pr pa tw nv sv pn pl po pf pt ru le li bn ip aw ns ch ma br tl ou k1 0 1 hv1) kw_La_bind s_La_bind o_La ml_La_109 hd_La_bind (Nat.le_trans (by decide) hRf) (Nat.le_trans (by decide) hRl) hRc hK hP hD hS hA hX hN hl.1 rfl (Nat.le_of_ble_eq_true rfl) d_La_law_615 (fun _ H locs _ hP hD hS => ?_)
        refine lv_istore hx hb d_La_law_618 hl (by decide) (lv' := [(5, .int 0), (4, .int i), (3, .ref (a 25)), (2, .ref (b 0)), (1, .ref (a 24)), (0, .ref sc)]) rfl (fun ls hl => ?_)
        refine lv_aload_n hx hb d_La_law_620 rfl (lv_at hl 3 rfl) ?_
        refine lv_aload_n hx hb d_La_law_621 rfl (lv_at hl 5 rfl) ?_
        refine lv_iload hx hb d_La_law_622 (lv_at hl 1 rfl) ?_
        refine lv_iconst (v := 1) hx hb d_La_law_624 (by decide) ?_
        refine lv_iadd hx hb d_La_law_625 ?_
        refine va_sld hx hb hXs hbl hbA hS hi1 d_La_law_626 ?_
        rw [e1]
        refine lv_aload_n hx hb d_La_law_627 rfl (lv_at hl 5 rfl) ?_
        refine lv_iload hx hb d_La_law_628 (lv_at hl 1 rfl) ?_
        refine lv_iconst (v := 2) hx hb d_La_law_630 (by decide) ?_
        refine lv_iadd hx hb d_La_law_631 ?_
        refine va_sld hx hb hXs hbl hbA hS hi2 d_La_law_632 ?_
        rw [e2]
        refine lv_if_eq (tgt := 640) hx hb d_La_law_633 (by decide) (fun h => ?_) (fun h => ?_)
        · have vc := vc.1 h
          refine lv_iconst (v := 0) hx hb d_La_law_640 (by decide) ?_
          refine lv_aload_n hx hb d_La_law_641 rfl (lv_at hl 5 rfl) ?_
          refine lv_iload hx hb d_La_law_642 (lv_at hl 1 rfl) ?_
          refine lv_iconst (v := 3) hx hb d_La_law_644 (by decide) ?_
          refine lv_iadd hx hb d_La_law_645 ?_
          refine va_sld hx hb hXs hbl hbA hS hi3 d_La_law_646 ?_
          rw [e3]
          refine lv_if_eq (tgt := 654) hx hb d_La_law_647 (by decide) (fun h => ?_) (fun h => ?_)
          · have vc := vc.1 h
            refine lv_iconst (v := 0) hx hb d_La_law_654 (by decide) ?_
            by_cases hv1 : ¬ sIn k1 0 7 = true
            · have vc := vc.1 hv1
              refine wc_2 (As := [.int k1, .int 0, .int 0]) (rest := []) S (c_Mo_bind_1 l D b cI cJ cZ mki msz mle mel mme mal mic mil mio mab mae msa mlc mli mna mva mma mch mre mlv mwr msh mth mnv mns mfa mmo k1 0 0 hv1) k_Mo_bind i_Mo_bind e_Mo_bind o_Mo ml_La_112 hd_Mo_bind (Nat.le_trans (by decide) hRf) (Nat.le_trans (by decide) hRl) hRc (va_recv hK hP.r (q0 := 0) (ci := 6) rfl rfl) hK hP hD hS hA hl.1 rfl (Nat.le_of_ble_eq_true rfl) d_La_law_655 (fun _ H locs _ hP hD hS => ?_)
              refine lv_aload_n hx hb d_La_law_658 rfl (lv_at hl 3 rfl) ?_
              refine pc_V (As := []) (rest := []) S (c_Mo_thrown l D b cI cJ cZ mki msz mle mel mme mal mic mil mio mab mae msa mlc mli mna mva mma mch mre mlv mwr msh 1 mnv mns mfa mmo) wB_blind k_Mo_thrown i_Mo_thrown e_Mo_thrown o_Mo ml_La_84 hd_Mo_thrown (Nat.le_trans (by decide) hRf) (Nat.le_trans (by decide) hRl) hRc (va_recv hK hP.r (q0 := 0) (ci := 6) rfl rfl) (wB_at hP.r hK) hl.1 rfl (Nat.le_of_ble_eq_true rfl) d_La_law_659 ?_
              refine lv_iload hx hb d_La_law_662 (lv_at hl 0 rfl) ?_
              refine lv_icmp_eq (tgt := 669) hx hb d_La_law_664 (by decide) (fun h => ?_) (fun h => ?_)
              · exact absurd h (by decide)
              · skip
                refine lv_iconst (v := 0) hx hb d_La_law_667 (by decide) ?_
                exact vc.elim
            · have vc := vc.2 hv1
              refine wc_2 (As := [.int k1, .int 0, .int 0]) (rest := []) S (c_Mo_bind_2 l D b cI cJ cZ mki msz mle mel mme mal mic mil mio mab mae msa mlc mli mna mva mma mch mre mlv mwr msh mth mnv mns mfa mmo k1 0 0 hv1) k_Mo_bind i_Mo_bind e_Mo_bind o_Mo ml_La_112 hd_Mo_bind (Nat.le_trans (by decide) hRf) (Nat.le_trans (by decide) hRl) hRc (va_recv hK hP.r (q0 := 0) (ci := 6) rfl rfl) hK hP hD hS hA hl.1 rfl (Nat.le_of_ble_eq_true rfl) d_La_law_655 (fun _ H locs _ hP hD hS => ?_)
              refine lv_aload_n hx hb d_La_law_658 rfl (lv_at hl 3 rfl) ?_
              refine pc_V (As := []) (rest := []) S (c_Mo_thrown l D b cI cJ cZ mki msz mle mel mme mal mic mil mio (upd mab k1.toNatClampNeg (vp_nar .boolean 0)) (upd mae k1.toNatClampNeg (vp_nar .boolean 0)) msa mlc mli mna mva mma mch mre mlv mwr msh 0 mnv mns mfa mmo) wB_blind k_Mo_thrown i_Mo_thrown e_Mo_thrown o_Mo ml_La_84 hd_Mo_thrown (Nat.le_trans (by decide) hRf) (Nat.le_trans (by decide) hRl) hRc (va_recv hK hP.r (q0 := 0) (ci := 6) rfl rfl) (wB_at hP.r hK) hl.1 rfl (Nat.le_of_ble_eq_true rfl) d_La_law_659 ?_
              refine lv_iload hx hb d_La_law_662 (lv_at hl 0 rfl) ?_
              refine lv_icmp_eq (tgt := 669) hx hb d_La_law_664 (by decide) (fun h => ?_) (fun h => ?_)
              · skip
                refine lv_goto (tgt := 1215) hx hb d_La_law_669 (by decide) ?_
                exact hnext ki co pr pa tw nv sv pn pl po (upd pf k1.toNatClampNeg (vp_nar .boolean 0)) (upd pt k1.toNatClampNeg (vp_nar .boolean 1)) ru le li bn ip aw ns ch ma br tl ou mki msz mle mel mme mal mic mil mio (upd mab k1.toNatClampNeg (vp_nar .boolean 0)) (upd mae k1.toNatClampNeg (vp_nar .boolean 0)) msa mlc mli mna mva mma mch mre mlv mwr msh 0 mnv mns mfa mmo ls H locs vc (lv_sub hl [5, 4, 3, 2, 1] rfl) hP hD hS
              · exact absurd h (by decide)
          · have vc := vc.2 h
            refine lv_iconst (v := 1) hx hb d_La_law_650 (by decide) ?_
            refine lv_goto (tgt := 655) hx hb d_La_law_651 (by decide) ?_
            by_cases hv1 : ¬ sIn k1 0 7 = true
            · have vc := vc.1 hv1
              refine wc_2 (As := [.int k1, .int 0, .int 1]) (rest := []) S (c_Mo_bind_1 l D b cI cJ cZ mki msz mle mel mme mal mic mil mio mab mae msa mlc mli mna mva mma mch mre mlv mwr msh mth mnv mns mfa mmo k1 0 1 hv1) k_Mo_bind i_Mo_bind e_Mo_bind o_Mo ml_La_112 hd_Mo_bind (Nat.le_trans (by decide) hRf) (Nat.le_trans (by decide) hRl) hRc (va_recv hK hP.r (q0 := 0) (ci := 6) rfl rfl) hK hP hD hS hA hl.1 rfl (Nat.le_of_ble_eq_true rfl) d_La_law_655 (fun _ H locs _ hP hD hS => ?_)
              refine lv_aload_n hx hb d_La_law_658 rfl (lv_at hl 3 rfl) ?_
              refine pc_V (As := []) (rest := []) S (c_Mo_thrown l D b cI cJ cZ mki msz mle mel mme mal mic mil mio mab mae msa mlc mli mna mva mma mch mre mlv mwr msh 1 mnv mns mfa mmo) wB_blind k_Mo_thrown i_Mo_thrown e_Mo_thrown o_Mo ml_La_84 hd_Mo_thrown (Nat.le_trans (by decide) hRf) (Nat.le_trans (by decide) hRl) hRc (va_recv hK hP.r (q0 := 0) (ci := 6) rfl rfl) (wB_at hP.r hK) hl.1 rfl (Nat.le_of_ble_eq_true rfl) d_La_law_659 ?_
              refine lv_iload hx hb d_La_law_662 (lv_at hl 0 rfl) ?_
              refine lv_icmp_eq (tgt := 669) hx hb d_La_law_664 (by decide) (fun h => ?_) (fun h => ?_)
              · exact absurd h (by decide)
              · skip
                refine lv_iconst (v := 0) hx hb d_La_law_667 (by decide) ?_
                exact vc.elim
            · have vc := vc.2 hv1
              refine wc_2 (As := [.int k1, .int 0, .int 1]) (rest := []) S (c_Mo_bind_2 l D b cI cJ cZ mki msz mle mel mme mal mic mil mio mab mae msa mlc mli mna mva mma mch mre mlv mwr msh mth mnv mns mfa mmo k1 0 1 hv1) k_Mo_bind i_Mo_bind e_Mo_bind o_Mo ml_La_112 hd_Mo_bind (Nat.le_trans (by decide) hRf) (Nat.le_trans (by decide) hRl) hRc (va_recv hK hP.r (q0 := 0) (ci := 6) rfl rfl) hK hP hD hS hA hl.1 rfl (Nat.le_of_ble_eq_true rfl) d_La_law_655 (fun _ H locs _ hP hD hS => ?_)
              refine lv_aload_n hx hb d_La_law_658 rfl (lv_at hl 3 rfl) ?_
              refine pc_V (As := []) (rest := []) S (c_Mo_thrown l D b cI cJ cZ mki msz mle mel mme mal mic mil mio (upd mab k1.toNatClampNeg (vp_nar .boolean 0)) (upd mae k1.toNatClampNeg (vp_nar .boolean 1)) msa mlc mli mna mva mma mch mre mlv mwr msh 0 mnv mns mfa mmo) wB_blind k_Mo_thrown i_Mo_thrown e_Mo_thrown o_Mo ml_La_84 hd_Mo_thrown (Nat.le_trans (by decide) hRf) (Nat.le_trans (by decide) hRl) hRc (va_recv hK hP.r (q0 := 0) (ci := 6) rfl rfl) (wB_at hP.r hK) hl.1 rfl (Nat.le_of_ble_eq_true rfl) d_La_law_659 ?_
              refine lv_iload hx hb d_La_law_662 (lv_at hl 0 rfl) ?_
              refine lv_icmp_eq (tgt := 669) hx hb d_La_law_664 (by decide) (fun h => ?_) (fun h => ?_)
              · skip
                refine lv_goto (tgt := 1215) hx hb d_La_law_669 (by decide) ?_
                exact hnext ki co pr pa tw nv sv pn pl po (upd pf k1.toNatClampNeg (vp_nar .boolean 0)) (upd pt k1.toNatClampNeg (vp_nar .boolean 1)) ru le li bn ip aw ns ch ma br tl ou mki msz mle mel mme mal mic mil mio (upd mab k1.toNatClampNeg (vp_nar .boolean 0)) (upd mae k1.toNatClampNeg (vp_nar .boolean 1)) msa mlc mli mna mva mma mch mre mlv mwr msh 0 mnv mns mfa mmo ls H locs vc (lv_sub hl [5, 4, 3, 2, 1] rfl) hP hD hS
              · exact absurd h (by decide)
        · have vc := vc.2 h
          refine lv_iconst (v := 1) hx hb d_La_law_636 (by decide) ?_
          refine lv_goto (tgt := 641) hx hb d_La_law_637 (by decide) ?_
          refine lv_aload_n hx hb d_La_law_641 rfl (lv_at hl 5 rfl) ?_
          refine lv_iload hx hb d_La_law_642 (lv_at hl 1 rfl) ?_
          refine lv_iconst (v := 3) hx hb d_La_law_644 (by decide) ?_
          refine lv_iadd hx hb d_La_law_645 ?_
          refine va_sld hx hb hXs hbl hbA hS hi3 d_La_law_646 ?_
          rw [e3]
          refine lv_if_eq (tgt := 654) hx hb d_La_law_647 (by decide) (fun h => ?_) (fun h => ?_)
          · have vc := vc.1 h
            refine lv_iconst (v := 0) hx hb d_La_law_654 (by decide) ?_
            by_cases hv1 : ¬ sIn k1 0 7 = true
            · have vc := vc.1 hv1
              refine wc_2 (As := [.int k1, .int 1, .int 0]) (rest := []) S (c_Mo_bind_1 l D b cI cJ cZ mki msz mle mel mme mal mic mil mio mab mae msa mlc mli mna mva mma mch mre mlv mwr msh mth mnv mns mfa mmo k1 1 0 hv1) k_Mo_bind i_Mo_bind e_Mo_bind o_Mo ml_La_112 hd_Mo_bind (Nat.le_trans (by decide) hRf) (Nat.le_trans (by decide) hRl) hRc (va_recv hK hP.r (q0 := 0) (ci := 6) rfl rfl) hK hP hD hS hA hl.1 rfl (Nat.le_of_ble_eq_true rfl) d_La_law_655 (fun _ H locs _ hP hD hS => ?_)
              refine lv_aload_n hx hb d_La_law_658 rfl (lv_at hl 3 rfl) ?_
              refine pc_V (As := []) (rest := []) S (c_Mo_thrown l D b cI cJ cZ mki msz mle mel mme mal mic mil mio mab mae msa mlc mli mna mva mma mch mre mlv mwr msh 1 mnv mns mfa mmo) wB_blind k_Mo_thrown i_Mo_thrown e_Mo_thrown o_Mo ml_La_84 hd_Mo_thrown (Nat.le_trans (by decide) hRf) (Nat.le_trans (by decide) hRl) hRc (va_recv hK hP.r (q0 := 0) (ci := 6) rfl rfl) (wB_at hP.r hK) hl.1 rfl (Nat.le_of_ble_eq_true rfl) d_La_law_659 ?_
              refine lv_iload hx hb d_La_law_662 (lv_at hl 0 rfl) ?_
              refine lv_icmp_eq (tgt := 669) hx hb d_La_law_664 (by decide) (fun h => ?_) (fun h => ?_)
              · exact absurd h (by decide)
              · skip
                refine lv_iconst (v := 0) hx hb d_La_law_667 (by decide) ?_
                exact vc.elim
            · have vc := vc.2 hv1
              refine wc_2 (As := [.int k1, .int 1, .int 0]) (rest := []) S (c_Mo_bind_2 l D b cI cJ cZ mki msz mle mel mme mal mic mil mio mab mae msa mlc mli mna mva mma mch mre mlv mwr msh mth mnv mns mfa mmo k1 1 0 hv1) k_Mo_bind i_Mo_bind e_Mo_bind o_Mo ml_La_112 hd_Mo_bind (Nat.le_trans (by decide) hRf) (Nat.le_trans (by decide) hRl) hRc (va_recv hK hP.r (q0 := 0) (ci := 6) rfl rfl) hK hP hD hS hA hl.1 rfl (Nat.le_of_ble_eq_true rfl) d_La_law_655 (fun _ H locs _ hP hD hS => ?_)
              refine lv_aload_n hx hb d_La_law_658 rfl (lv_at hl 3 rfl) ?_
              refine pc_V (As := []) (rest := []) S (c_Mo_thrown l D b cI cJ cZ mki msz mle mel mme mal mic mil mio (upd mab k1.toNatClampNeg (vp_nar .boolean 1)) (upd mae k1.toNatClampNeg (vp_nar .boolean 0)) msa mlc mli mna mva mma mch mre mlv mwr msh 0 mnv mns mfa mmo) wB_blind k_Mo_thrown i_Mo_thrown e_Mo_thrown o_Mo ml_La_84 hd_Mo_thrown (Nat.le_trans (by decide) hRf) (Nat.le_trans (by decide) hRl) hRc (va_recv hK hP.r (q0 := 0) (ci := 6) rfl rfl) (wB_at hP.r hK) hl.1 rfl (Nat.le_of_ble_eq_true rfl) d_La_law_659 ?_
              refine lv_iload hx hb d_La_law_662 (lv_at hl 0 rfl) ?_
              refine lv_icmp_eq (tgt := 669) hx hb d_La_law_664 (by decide) (fun h => ?_) (fun h => ?_)
              · skip
                refine lv_goto (tgt := 1215) hx hb d_La_law_669 (by decide) ?_
                exact hnext ki co pr pa tw nv sv pn pl po (upd pf k1.toNatClampNeg (vp_nar .boolean 0)) (upd pt k1.toNatClampNeg (vp_nar .boolean 1)) ru le li bn ip aw ns ch ma br tl ou mki msz mle mel mme mal mic mil mio (upd mab k1.toNatClampNeg (vp_nar .boolean 1)) (upd mae k1.toNatClampNeg (vp_nar .boolean 0)) msa mlc mli mna mva mma mch mre mlv mwr msh 0 mnv mns mfa mmo ls H locs vc (lv_sub hl [5, 4, 3, 2, 1] rfl) hP hD hS
              · exact absurd h (by decide)
          · have vc := vc.2 h
            refine lv_iconst (v := 1) hx hb d_La_law_650 (by decide) ?_
            refine lv_goto (tgt := 655) hx hb d_La_law_651 (by decide) ?_
            by_cases hv1 : ¬ sIn k1 0 7 = true
            · have vc := vc.1 hv1
              refine wc_2 (As := [.int k1, .int 1, .int 1]) (rest := []) S (c_Mo_bind_1 l D b cI cJ cZ mki msz mle mel mme mal mic mil mio mab mae msa mlc mli mna mva mma mch mre mlv mwr msh mth mnv mns mfa mmo k1 1 1 hv1) k_Mo_bind i_Mo_bind e_Mo_bind o_Mo ml_La_112 hd_Mo_bind (Nat.le_trans (by decide) hRf) (Nat.le_trans (by decide) hRl) hRc (va_recv hK hP.r (q0 := 0) (ci := 6) rfl rfl) hK hP hD hS hA hl.1 rfl (Nat.le_of_ble_eq_true rfl) d_La_law_655 (fun _ H locs _ hP hD hS => ?_)
              refine lv_aload_n hx hb d_La_law_658 rfl (lv_at hl 3 rfl) ?_
              refine pc_V (As := []) (rest := []) S (c_Mo_thrown l D b cI cJ cZ mki msz mle mel mme mal mic mil mio mab mae msa mlc mli mna mva mma mch mre mlv mwr msh 1 mnv mns mfa mmo) wB_blind k_Mo_thrown i_Mo_thrown e_Mo_thrown o_Mo ml_La_84 hd_Mo_thrown (Nat.le_trans (by decide) hRf) (Nat.le_trans (by decide) hRl) hRc (va_recv hK hP.r (q0 := 0) (ci := 6) rfl rfl) (wB_at hP.r hK) hl.1 rfl (Nat.le_of_ble_eq_true rfl) d_La_law_659 ?_
              refine lv_iload hx hb d_La_law_662 (lv_at hl 0 rfl) ?_
              refine lv_icmp_eq (tgt := 669) hx hb d_La_law_664 (by decide) (fun h => ?_) (fun h => ?_)
              · exact absurd h (by decide)
              · skip
                refine lv_iconst (v := 0) hx hb d_La_law_667 (by decide) ?_
                exact vc.elim
            · have vc := vc.2 hv1
              refine wc_2 (As := [.int k1, .int 1, .int 1]) (rest := []) S (c_Mo_bind_2 l D b cI cJ cZ mki msz mle mel mme mal mic mil mio mab mae msa mlc mli mna mva mma mch mre mlv mwr msh mth mnv mns mfa mmo k1 1 1 hv1) k_Mo_bind i_Mo_bind e_Mo_bind o_Mo ml_La_112 hd_Mo_bind (Nat.le_trans (by decide) hRf) (Nat.le_trans (by decide) hRl) hRc (va_recv hK hP.r (q0 := 0) (ci := 6) rfl rfl) hK hP hD hS hA hl.1 rfl (Nat.le_of_ble_eq_true rfl) d_La_law_655 (fun _ H locs _ hP hD hS => ?_)
              refine lv_aload_n hx hb d_La_law_658 rfl (lv_at hl 3 rfl) ?_
              refine pc_V (As := []) (rest := []) S (c_Mo_thrown l D b cI cJ cZ mki msz mle mel mme mal mic mil mio (upd mab k1.toNatClampNeg (vp_nar .boolean 1)) (upd mae k1.toNatClampNeg (vp_nar .boolean 1)) msa mlc mli mna mva mma mch mre mlv mwr msh 0 mnv mns mfa mmo) wB_blind k_Mo_thrown i_Mo_thrown e_Mo_thrown o_Mo ml_La_84 hd_Mo_thrown (Nat.le_trans (by decide) hRf) (Nat.le_trans (by decide) hRl) hRc (va_recv hK hP.r (q0 := 0) (ci := 6) rfl rfl) (wB_at hP.r hK) hl.1 rfl (Nat.le_of_ble_eq_true rfl) d_La_law_659 ?_
              refine lv_iload hx hb d_La_law_662 (lv_at hl 0 rfl) ?_
              refine lv_icmp_eq (tgt := 669) hx hb d_La_law_664 (by decide) (fun h => ?_) (fun h => ?_)
              · skip
                refine lv_goto (tgt := 1215) hx hb d_La_law_669 (by decide) ?_
                exact hnext ki co pr pa tw nv sv pn pl po (upd pf k1.toNatClampNeg (vp_nar .boolean 0)) (upd pt k1.toNatClampNeg (vp_nar .boolean 1)) ru le li bn ip aw ns ch ma br tl ou mki msz mle mel mme mal mic mil mio (upd mab k1.toNatClampNeg (vp_nar .boolean 1)) (upd mae k1.toNatClampNeg (vp_nar .boolean 1)) msa mlc mli mna mva mma mch mre mlv mwr msh 0 mnv mns mfa mmo ls H locs vc (lv_sub hl [5, 4, 3, 2, 1] rfl) hP hD hS
              · exact absurd h (by decide)
  · have vc := vc.2 h
    refine lv_iconst (v := 1) hx hb d_La_law_596 (by decide) ?_
    refine lv_goto (tgt := 601) hx hb d_La_law_597 (by decide) ?_
    refine lv_aload_n hx hb d_La_law_601 rfl (lv_at hl 4 rfl) ?_
    refine lv_iload hx hb d_La_law_602 (lv_at hl 0 rfl) ?_
    refine lv_iconst (v := 3) hx hb d_La_law_604 (by decide) ?_
    refine lv_iadd hx hb d_La_law_605 ?_
    refine va_sld hx hb hXs hbl hbA hS hi3 d_La_law_606 ?_
    rw [e3]
    refine lv_if_eq (tgt := 614) hx hb d_La_law_607 (by decide) (fun h => ?_) (fun h => ?_)
    · have vc := vc.1 h
      refine lv_iconst (v := 0) hx hb d_La_law_614 (by decide) ?_
      by_cases hv1 : ¬ sHas 8 k1 = true
      · have vc := vc.1 hv1
        refine hc_1 (As := [.ref (a 24), .int k1, .int 1, .int 0]) (rest := []) S (c_La_bind_1 l hls D a cI cJ cZ ki co pr pa tw nv sv pn pl po pf pt ru le li bn ip aw ns ch ma br tl ou k1 1 0 hv1) kw_La_bind s_La_bind o_La ml_La_109 hd_La_bind (Nat.le_trans (by decide) hRf) (Nat.le_trans (by decide) hRl) hRc hK hP hD hS hA hX hN hl.1 rfl (Nat.le_of_ble_eq_true rfl) d_La_law_615 (fun _ H locs _ hP hD hS => ?_)
        refine lv_istore hx hb d_La_law_618 hl (by decide) (lv' := [(5, .int 1), (4, .int i), (3, .ref (a 25)), (2, .ref (b 0)), (1, .ref (a 24)), (0, .ref sc)]) rfl (fun ls hl => ?_)
        refine lv_aload_n hx hb d_La_law_620 rfl (lv_at hl 3 rfl) ?_
        refine lv_aload_n hx hb d_La_law_621 rfl (lv_at hl 5 rfl) ?_
        refine lv_iload hx hb d_La_law_622 (lv_at hl 1 rfl) ?_
        refine lv_iconst (v := 1) hx hb d_La_law_624 (by decide) ?_
        refine lv_iadd hx hb d_La_law_625 ?_
        refine va_sld hx hb hXs hbl hbA hS hi1 d_La_law_626 ?_
        rw [e1]
        refine lv_aload_n hx hb d_La_law_627 rfl (lv_at hl 5 rfl) ?_
        refine lv_iload hx hb d_La_law_628 (lv_at hl 1 rfl) ?_
        refine lv_iconst (v := 2) hx hb d_La_law_630 (by decide) ?_
        refine lv_iadd hx hb d_La_law_631 ?_
        refine va_sld hx hb hXs hbl hbA hS hi2 d_La_law_632 ?_
        rw [e2]
        refine lv_if_eq (tgt := 640) hx hb d_La_law_633 (by decide) (fun h => ?_) (fun h => ?_)
        · have vc := vc.1 h
          refine lv_iconst (v := 0) hx hb d_La_law_640 (by decide) ?_
          refine lv_aload_n hx hb d_La_law_641 rfl (lv_at hl 5 rfl) ?_
          refine lv_iload hx hb d_La_law_642 (lv_at hl 1 rfl) ?_
          refine lv_iconst (v := 3) hx hb d_La_law_644 (by decide) ?_
          refine lv_iadd hx hb d_La_law_645 ?_
          refine va_sld hx hb hXs hbl hbA hS hi3 d_La_law_646 ?_
          rw [e3]
          refine lv_if_eq (tgt := 654) hx hb d_La_law_647 (by decide) (fun h => ?_) (fun h => ?_)
          · have vc := vc.1 h
            refine lv_iconst (v := 0) hx hb d_La_law_654 (by decide) ?_
            by_cases hv1 : ¬ sIn k1 0 7 = true
            · have vc := vc.1 hv1
              refine wc_2 (As := [.int k1, .int 0, .int 0]) (rest := []) S (c_Mo_bind_1 l D b cI cJ cZ mki msz mle mel mme mal mic mil mio mab mae msa mlc mli mna mva mma mch mre mlv mwr msh mth mnv mns mfa mmo k1 0 0 hv1) k_Mo_bind i_Mo_bind e_Mo_bind o_Mo ml_La_112 hd_Mo_bind (Nat.le_trans (by decide) hRf) (Nat.le_trans (by decide) hRl) hRc (va_recv hK hP.r (q0 := 0) (ci := 6) rfl rfl) hK hP hD hS hA hl.1 rfl (Nat.le_of_ble_eq_true rfl) d_La_law_655 (fun _ H locs _ hP hD hS => ?_)
              refine lv_aload_n hx hb d_La_law_658 rfl (lv_at hl 3 rfl) ?_
              refine pc_V (As := []) (rest := []) S (c_Mo_thrown l D b cI cJ cZ mki msz mle mel mme mal mic mil mio mab mae msa mlc mli mna mva mma mch mre mlv mwr msh 1 mnv mns mfa mmo) wB_blind k_Mo_thrown i_Mo_thrown e_Mo_thrown o_Mo ml_La_84 hd_Mo_thrown (Nat.le_trans (by decide) hRf) (Nat.le_trans (by decide) hRl) hRc (va_recv hK hP.r (q0 := 0) (ci := 6) rfl rfl) (wB_at hP.r hK) hl.1 rfl (Nat.le_of_ble_eq_true rfl) d_La_law_659 ?_
              refine lv_iload hx hb d_La_law_662 (lv_at hl 0 rfl) ?_
              refine lv_icmp_eq (tgt := 669) hx hb d_La_law_664 (by decide) (fun h => ?_) (fun h => ?_)
              · skip
                refine lv_goto (tgt := 1215) hx hb d_La_law_669 (by decide) ?_
                exact hnext ki co pr pa tw nv sv pn pl po pf pt ru le li bn ip aw ns ch ma br tl ou mki msz mle mel mme mal mic mil mio mab mae msa mlc mli mna mva mma mch mre mlv mwr msh 1 mnv mns mfa mmo ls H locs vc (lv_sub hl [5, 4, 3, 2, 1] rfl) hP hD hS
              · exact absurd h (by decide)
            · have vc := vc.2 hv1
              refine wc_2 (As := [.int k1, .int 0, .int 0]) (rest := []) S (c_Mo_bind_2 l D b cI cJ cZ mki msz mle mel mme mal mic mil mio mab mae msa mlc mli mna mva mma mch mre mlv mwr msh mth mnv mns mfa mmo k1 0 0 hv1) k_Mo_bind i_Mo_bind e_Mo_bind o_Mo ml_La_112 hd_Mo_bind (Nat.le_trans (by decide) hRf) (Nat.le_trans (by decide) hRl) hRc (va_recv hK hP.r (q0 := 0) (ci := 6) rfl rfl) hK hP hD hS hA hl.1 rfl (Nat.le_of_ble_eq_true rfl) d_La_law_655 (fun _ H locs _ hP hD hS => ?_)
              refine lv_aload_n hx hb d_La_law_658 rfl (lv_at hl 3 rfl) ?_
              refine pc_V (As := []) (rest := []) S (c_Mo_thrown l D b cI cJ cZ mki msz mle mel mme mal mic mil mio (upd mab k1.toNatClampNeg (vp_nar .boolean 0)) (upd mae k1.toNatClampNeg (vp_nar .boolean 0)) msa mlc mli mna mva mma mch mre mlv mwr msh 0 mnv mns mfa mmo) wB_blind k_Mo_thrown i_Mo_thrown e_Mo_thrown o_Mo ml_La_84 hd_Mo_thrown (Nat.le_trans (by decide) hRf) (Nat.le_trans (by decide) hRl) hRc (va_recv hK hP.r (q0 := 0) (ci := 6) rfl rfl) (wB_at hP.r hK) hl.1 rfl (Nat.le_of_ble_eq_true rfl) d_La_law_659 ?_
              refine lv_iload hx hb d_La_law_662 (lv_at hl 0 rfl) ?_
              refine lv_icmp_eq (tgt := 669) hx hb d_La_law_664 (by decide) (fun h => ?_) (fun h => ?_)
              · exact absurd h (by decide)
              · skip
                refine lv_iconst (v := 0) hx hb d_La_law_667 (by decide) ?_
                exact vc.elim
          · have vc := vc.2 h
            refine lv_iconst (v := 1) hx hb d_La_law_650 (by decide) ?_
            refine lv_goto (tgt := 655) hx hb d_La_law_651 (by decide) ?_
            by_cases hv1 : ¬ sIn k1 0 7 = true
            · have vc := vc.1 hv1
              refine wc_2 (As := [.int k1, .int 0, .int 1]) (rest := []) S (c_Mo_bind_1 l D b cI cJ cZ mki msz mle mel mme mal mic mil mio mab mae msa mlc mli mna mva mma mch mre mlv mwr msh mth mnv mns mfa mmo k1 0 1 hv1) k_Mo_bind i_Mo_bind e_Mo_bind o_Mo ml_La_112 hd_Mo_bind (Nat.le_trans (by decide) hRf) (Nat.le_trans (by decide) hRl) hRc (va_recv hK hP.r (q0 := 0) (ci := 6) rfl rfl) hK hP hD hS hA hl.1 rfl (Nat.le_of_ble_eq_true rfl) d_La_law_655 (fun _ H locs _ hP hD hS => ?_)
              refine lv_aload_n hx hb d_La_law_658 rfl (lv_at hl 3 rfl) ?_
              refine pc_V (As := []) (rest := []) S (c_Mo_thrown l D b cI cJ cZ mki msz mle mel mme mal mic mil mio mab mae msa mlc mli mna mva mma mch mre mlv mwr msh 1 mnv mns mfa mmo) wB_blind k_Mo_thrown i_Mo_thrown e_Mo_thrown o_Mo ml_La_84 hd_Mo_thrown (Nat.le_trans (by decide) hRf) (Nat.le_trans (by decide) hRl) hRc (va_recv hK hP.r (q0 := 0) (ci := 6) rfl rfl) (wB_at hP.r hK) hl.1 rfl (Nat.le_of_ble_eq_true rfl) d_La_law_659 ?_
              refine lv_iload hx hb d_La_law_662 (lv_at hl 0 rfl) ?_
              refine lv_icmp_eq (tgt := 669) hx hb d_La_law_664 (by decide) (fun h => ?_) (fun h => ?_)
              · skip
                refine lv_goto (tgt := 1215) hx hb d_La_law_669 (by decide) ?_
                exact hnext ki co pr pa tw nv sv pn pl po pf pt ru le li bn ip aw ns ch ma br tl ou mki msz mle mel mme mal mic mil mio mab mae msa mlc mli mna mva mma mch mre mlv mwr msh 1 mnv mns mfa mmo ls H locs vc (lv_sub hl [5, 4, 3, 2, 1] rfl) hP hD hS
              · exact absurd h (by decide)
            · have vc := vc.2 hv1
              refine wc_2 (As := [.int k1, .int 0, .int 1]) (rest := []) S (c_Mo_bind_2 l D b cI cJ cZ mki msz mle mel mme mal mic mil mio mab mae msa mlc mli mna mva mma mch mre mlv mwr msh mth mnv mns mfa mmo k1 0 1 hv1) k_Mo_bind i_Mo_bind e_Mo_bind o_Mo ml_La_112 hd_Mo_bind (Nat.le_trans (by decide) hRf) (Nat.le_trans (by decide) hRl) hRc (va_recv hK hP.r (q0 := 0) (ci := 6) rfl rfl) hK hP hD hS hA hl.1 rfl (Nat.le_of_ble_eq_true rfl) d_La_law_655 (fun _ H locs _ hP hD hS => ?_)
              refine lv_aload_n hx hb d_La_law_658 rfl (lv_at hl 3 rfl) ?_
              refine pc_V (As := []) (rest := []) S (c_Mo_thrown l D b cI cJ cZ mki msz mle mel mme mal mic mil mio (upd mab k1.toNatClampNeg (vp_nar .boolean 0)) (upd mae k1.toNatClampNeg (vp_nar .boolean 1)) msa mlc mli mna mva mma mch mre mlv mwr msh 0 mnv mns mfa mmo) wB_blind k_Mo_thrown i_Mo_thrown e_Mo_thrown o_Mo ml_La_84 hd_Mo_thrown (Nat.le_trans (by decide) hRf) (Nat.le_trans (by decide) hRl) hRc (va_recv hK hP.r (q0 := 0) (ci := 6) rfl rfl) (wB_at hP.r hK) hl.1 rfl (Nat.le_of_ble_eq_true rfl) d_La_law_659 ?_
              refine lv_iload hx hb d_La_law_662 (lv_at hl 0 rfl) ?_
              refine lv_icmp_eq (tgt := 669) hx hb d_La_law_664 (by decide) (fun h => ?_) (fun h => ?_)
              · exact absurd h (by decide)
              · skip
                refine lv_iconst (v := 0) hx hb d_La_law_667 (by decide) ?_
                exact vc.elim
        · have vc := vc.2 h
          refine lv_iconst (v := 1) hx hb d_La_law_636 (by decide) ?_
          refine lv_goto (tgt := 641) hx hb d_La_law_637 (by decide) ?_
          refine lv_aload_n hx hb d_La_law_641 rfl (lv_at hl 5 rfl) ?_
          refine lv_iload hx hb d_La_law_642 (lv_at hl 1 rfl) ?_
          refine lv_iconst (v := 3) hx hb d_La_law_644 (by decide) ?_
          refine lv_iadd hx hb d_La_law_645 ?_
          refine va_sld hx hb hXs hbl hbA hS hi3 d_La_law_646 ?_
          rw [e3]
          refine lv_if_eq (tgt := 654) hx hb d_La_law_647 (by decide) (fun h => ?_) (fun h => ?_)
          · have vc := vc.1 h
            refine lv_iconst (v := 0) hx hb d_La_law_654 (by decide) ?_
            by_cases hv1 : ¬ sIn k1 0 7 = true
            · have vc := vc.1 hv1
              refine wc_2 (As := [.int k1, .int 1, .int 0]) (rest := []) S (c_Mo_bind_1 l D b cI cJ cZ mki msz mle mel mme mal mic mil mio mab mae msa mlc mli mna mva mma mch mre mlv mwr msh mth mnv mns mfa mmo k1 1 0 hv1) k_Mo_bind i_Mo_bind e_Mo_bind o_Mo ml_La_112 hd_Mo_bind (Nat.le_trans (by decide) hRf) (Nat.le_trans (by decide) hRl) hRc (va_recv hK hP.r (q0 := 0) (ci := 6) rfl rfl) hK hP hD hS hA hl.1 rfl (Nat.le_of_ble_eq_true rfl) d_La_law_655 (fun _ H locs _ hP hD hS => ?_)
              refine lv_aload_n hx hb d_La_law_658 rfl (lv_at hl 3 rfl) ?_
              refine pc_V (As := []) (rest := []) S (c_Mo_thrown l D b cI cJ cZ mki msz mle mel mme mal mic mil mio mab mae msa mlc mli mna mva mma mch mre mlv mwr msh 1 mnv mns mfa mmo) wB_blind k_Mo_thrown i_Mo_thrown e_Mo_thrown o_Mo ml_La_84 hd_Mo_thrown (Nat.le_trans (by decide) hRf) (Nat.le_trans (by decide) hRl) hRc (va_recv hK hP.r (q0 := 0) (ci := 6) rfl rfl) (wB_at hP.r hK) hl.1 rfl (Nat.le_of_ble_eq_true rfl) d_La_law_659 ?_
              refine lv_iload hx hb d_La_law_662 (lv_at hl 0 rfl) ?_
              refine lv_icmp_eq (tgt := 669) hx hb d_La_law_664 (by decide) (fun h => ?_) (fun h => ?_)
              · skip
                refine lv_goto (tgt := 1215) hx hb d_La_law_669 (by decide) ?_
                exact hnext ki co pr pa tw nv sv pn pl po pf pt ru le li bn ip aw ns ch ma br tl ou mki msz mle mel mme mal mic mil mio mab mae msa mlc mli mna mva mma mch mre mlv mwr msh 1 mnv mns mfa mmo ls H locs vc (lv_sub hl [5, 4, 3, 2, 1] rfl) hP hD hS
              · exact absurd h (by decide)
            · have vc := vc.2 hv1
              refine wc_2 (As := [.int k1, .int 1, .int 0]) (rest := []) S (c_Mo_bind_2 l D b cI cJ cZ mki msz mle mel mme mal mic mil mio mab mae msa mlc mli mna mva mma mch mre mlv mwr msh mth mnv mns mfa mmo k1 1 0 hv1) k_Mo_bind i_Mo_bind e_Mo_bind o_Mo ml_La_112 hd_Mo_bind (Nat.le_trans (by decide) hRf) (Nat.le_trans (by decide) hRl) hRc (va_recv hK hP.r (q0 := 0) (ci := 6) rfl rfl) hK hP hD hS hA hl.1 rfl (Nat.le_of_ble_eq_true rfl) d_La_law_655 (fun _ H locs _ hP hD hS => ?_)
              refine lv_aload_n hx hb d_La_law_658 rfl (lv_at hl 3 rfl) ?_
              refine pc_V (As := []) (rest := []) S (c_Mo_thrown l D b cI cJ cZ mki msz mle mel mme mal mic mil mio (upd mab k1.toNatClampNeg (vp_nar .boolean 1)) (upd mae k1.toNatClampNeg (vp_nar .boolean 0)) msa mlc mli mna mva mma mch mre mlv mwr msh 0 mnv mns mfa mmo) wB_blind k_Mo_thrown i_Mo_thrown e_Mo_thrown o_Mo ml_La_84 hd_Mo_thrown (Nat.le_trans (by decide) hRf) (Nat.le_trans (by decide) hRl) hRc (va_recv hK hP.r (q0 := 0) (ci := 6) rfl rfl) (wB_at hP.r hK) hl.1 rfl (Nat.le_of_ble_eq_true rfl) d_La_law_659 ?_
              refine lv_iload hx hb d_La_law_662 (lv_at hl 0 rfl) ?_
              refine lv_icmp_eq (tgt := 669) hx hb d_La_law_664 (by decide) (fun h => ?_) (fun h => ?_)
              · exact absurd h (by decide)
              · skip
                refine lv_iconst (v := 0) hx hb d_La_law_667 (by decide) ?_
                exact vc.elim
          · have vc := vc.2 h
            refine lv_iconst (v := 1) hx hb d_La_law_650 (by decide) ?_
            refine lv_goto (tgt := 655) hx hb d_La_law_651 (by decide) ?_
            by_cases hv1 : ¬ sIn k1 0 7 = true
            · have vc := vc.1 hv1
              refine wc_2 (As := [.int k1, .int 1, .int 1]) (rest := []) S (c_Mo_bind_1 l D b cI cJ cZ mki msz mle mel mme mal mic mil mio mab mae msa mlc mli mna mva mma mch mre mlv mwr msh mth mnv mns mfa mmo k1 1 1 hv1) k_Mo_bind i_Mo_bind e_Mo_bind o_Mo ml_La_112 hd_Mo_bind (Nat.le_trans (by decide) hRf) (Nat.le_trans (by decide) hRl) hRc (va_recv hK hP.r (q0 := 0) (ci := 6) rfl rfl) hK hP hD hS hA hl.1 rfl (Nat.le_of_ble_eq_true rfl) d_La_law_655 (fun _ H locs _ hP hD hS => ?_)
              refine lv_aload_n hx hb d_La_law_658 rfl (lv_at hl 3 rfl) ?_
              refine pc_V (As := []) (rest := []) S (c_Mo_thrown l D b cI cJ cZ mki msz mle mel mme mal mic mil mio mab mae msa mlc mli mna mva mma mch mre mlv mwr msh 1 mnv mns mfa mmo) wB_blind k_Mo_thrown i_Mo_thrown e_Mo_thrown o_Mo ml_La_84 hd_Mo_thrown (Nat.le_trans (by decide) hRf) (Nat.le_trans (by decide) hRl) hRc (va_recv hK hP.r (q0 := 0) (ci := 6) rfl rfl) (wB_at hP.r hK) hl.1 rfl (Nat.le_of_ble_eq_true rfl) d_La_law_659 ?_
              refine lv_iload hx hb d_La_law_662 (lv_at hl 0 rfl) ?_
              refine lv_icmp_eq (tgt := 669) hx hb d_La_law_664 (by decide) (fun h => ?_) (fun h => ?_)
              · skip
                refine lv_goto (tgt := 1215) hx hb d_La_law_669 (by decide) ?_
                exact hnext ki co pr pa tw nv sv pn pl po pf pt ru le li bn ip aw ns ch ma br tl ou mki msz mle mel mme mal mic mil mio mab mae msa mlc mli mna mva mma mch mre mlv mwr msh 1 mnv mns mfa mmo ls H locs vc (lv_sub hl [5, 4, 3, 2, 1] rfl) hP hD hS
              · exact absurd h (by decide)
            · have vc := vc.2 hv1
              refine wc_2 (As := [.int k1, .int 1, .int 1]) (rest := []) S (c_Mo_bind_2 l D b cI cJ cZ mki msz mle mel mme mal mic mil mio mab mae msa mlc mli mna mva mma mch mre mlv mwr msh mth mnv mns mfa mmo k1 1 1 hv1) k_Mo_bind i_Mo_bind e_Mo_bind o_Mo ml_La_112 hd_Mo_bind (Nat.le_trans (by decide) hRf) (Nat.le_trans (by decide) hRl) hRc (va_recv hK hP.r (q0 := 0) (ci := 6) rfl rfl) hK hP hD hS hA hl.1 rfl (Nat.le_of_ble_eq_true rfl) d_La_law_655 (fun _ H locs _ hP hD hS => ?_)
              refine lv_aload_n hx hb d_La_law_658 rfl (lv_at hl 3 rfl) ?_
              refine pc_V (As := []) (rest := []) S (c_Mo_thrown l D b cI cJ cZ mki msz mle mel mme mal mic mil mio (upd mab k1.toNatClampNeg (vp_nar .boolean 1)) (upd mae k1.toNatClampNeg (vp_nar .boolean 1)) msa mlc mli mna mva mma mch mre mlv mwr msh 0 mnv mns mfa mmo) wB_blind k_Mo_thrown i_Mo_thrown e_Mo_thrown o_Mo ml_La_84 hd_Mo_thrown (Nat.le_trans (by decide) hRf) (Nat.le_trans (by decide) hRl) hRc (va_recv hK hP.r (q0 := 0) (ci := 6) rfl rfl) (wB_at hP.r hK) hl.1 rfl (Nat.le_of_ble_eq_true rfl) d_La_law_659 ?_
              refine lv_iload hx hb d_La_law_662 (lv_at hl 0 rfl) ?_
              refine lv_icmp_eq (tgt := 669) hx hb d_La_law_664 (by decide) (fun h => ?_) (fun h => ?_)
              · exact absurd h (by decide)
              · skip
                refine lv_iconst (v := 0) hx hb d_La_law_667 (by decide) ?_
                exact vc.elim
      · have vc := vc.2 hv1
        refine hc_1 (As := [.ref (a 24), .int k1, .int 1, .int 0]) (rest := []) S (c_La_bind_2 l hls D a cI cJ cZ ki co pr pa tw nv sv pn pl po pf pt ru le li bn ip aw ns ch ma br tl ou k1 1 0 hv1) kw_La_bind s_La_bind o_La ml_La_109 hd_La_bind (Nat.le_trans (by decide) hRf) (Nat.le_trans (by decide) hRl) hRc hK hP hD hS hA hX hN hl.1 rfl (Nat.le_of_ble_eq_true rfl) d_La_law_615 (fun _ H locs _ hP hD hS => ?_)
        refine lv_istore hx hb d_La_law_618 hl (by decide) (lv' := [(5, .int 0), (4, .int i), (3, .ref (a 25)), (2, .ref (b 0)), (1, .ref (a 24)), (0, .ref sc)]) rfl (fun ls hl => ?_)
        refine lv_aload_n hx hb d_La_law_620 rfl (lv_at hl 3 rfl) ?_
        refine lv_aload_n hx hb d_La_law_621 rfl (lv_at hl 5 rfl) ?_
        refine lv_iload hx hb d_La_law_622 (lv_at hl 1 rfl) ?_
        refine lv_iconst (v := 1) hx hb d_La_law_624 (by decide) ?_
        refine lv_iadd hx hb d_La_law_625 ?_
        refine va_sld hx hb hXs hbl hbA hS hi1 d_La_law_626 ?_
        rw [e1]
        refine lv_aload_n hx hb d_La_law_627 rfl (lv_at hl 5 rfl) ?_
        refine lv_iload hx hb d_La_law_628 (lv_at hl 1 rfl) ?_
        refine lv_iconst (v := 2) hx hb d_La_law_630 (by decide) ?_
        refine lv_iadd hx hb d_La_law_631 ?_
        refine va_sld hx hb hXs hbl hbA hS hi2 d_La_law_632 ?_
        rw [e2]
        refine lv_if_eq (tgt := 640) hx hb d_La_law_633 (by decide) (fun h => ?_) (fun h => ?_)
        · have vc := vc.1 h
          refine lv_iconst (v := 0) hx hb d_La_law_640 (by decide) ?_
          refine lv_aload_n hx hb d_La_law_641 rfl (lv_at hl 5 rfl) ?_
          refine lv_iload hx hb d_La_law_642 (lv_at hl 1 rfl) ?_
          refine lv_iconst (v := 3) hx hb d_La_law_644 (by decide) ?_
          refine lv_iadd hx hb d_La_law_645 ?_
          refine va_sld hx hb hXs hbl hbA hS hi3 d_La_law_646 ?_
          rw [e3]
          refine lv_if_eq (tgt := 654) hx hb d_La_law_647 (by decide) (fun h => ?_) (fun h => ?_)
          · have vc := vc.1 h
            refine lv_iconst (v := 0) hx hb d_La_law_654 (by decide) ?_
            by_cases hv1 : ¬ sIn k1 0 7 = true
            · have vc := vc.1 hv1
              refine wc_2 (As := [.int k1, .int 0, .int 0]) (rest := []) S (c_Mo_bind_1 l D b cI cJ cZ mki msz mle mel mme mal mic mil mio mab mae msa mlc mli mna mva mma mch mre mlv mwr msh mth mnv mns mfa mmo k1 0 0 hv1) k_Mo_bind i_Mo_bind e_Mo_bind o_Mo ml_La_112 hd_Mo_bind (Nat.le_trans (by decide) hRf) (Nat.le_trans (by decide) hRl) hRc (va_recv hK hP.r (q0 := 0) (ci := 6) rfl rfl) hK hP hD hS hA hl.1 rfl (Nat.le_of_ble_eq_true rfl) d_La_law_655 (fun _ H locs _ hP hD hS => ?_)
              refine lv_aload_n hx hb d_La_law_658 rfl (lv_at hl 3 rfl) ?_
              refine pc_V (As := []) (rest := []) S (c_Mo_thrown l D b cI cJ cZ mki msz mle mel mme mal mic mil mio mab mae msa mlc mli mna mva mma mch mre mlv mwr msh 1 mnv mns mfa mmo) wB_blind k_Mo_thrown i_Mo_thrown e_Mo_thrown o_Mo ml_La_84 hd_Mo_thrown (Nat.le_trans (by decide) hRf) (Nat.le_trans (by decide) hRl) hRc (va_recv hK hP.r (q0 := 0) (ci := 6) rfl rfl) (wB_at hP.r hK) hl.1 rfl (Nat.le_of_ble_eq_true rfl) d_La_law_659 ?_
              refine lv_iload hx hb d_La_law_662 (lv_at hl 0 rfl) ?_
              refine lv_icmp_eq (tgt := 669) hx hb d_La_law_664 (by decide) (fun h => ?_) (fun h => ?_)
              · exact absurd h (by decide)
              · skip
                refine lv_iconst (v := 0) hx hb d_La_law_667 (by decide) ?_
                exact vc.elim
            · have vc := vc.2 hv1
              refine wc_2 (As := [.int k1, .int 0, .int 0]) (rest := []) S (c_Mo_bind_2 l D b cI cJ cZ mki msz mle mel mme mal mic mil mio mab mae msa mlc mli mna mva mma mch mre mlv mwr msh mth mnv mns mfa mmo k1 0 0 hv1) k_Mo_bind i_Mo_bind e_Mo_bind o_Mo ml_La_112 hd_Mo_bind (Nat.le_trans (by decide) hRf) (Nat.le_trans (by decide) hRl) hRc (va_recv hK hP.r (q0 := 0) (ci := 6) rfl rfl) hK hP hD hS hA hl.1 rfl (Nat.le_of_ble_eq_true rfl) d_La_law_655 (fun _ H locs _ hP hD hS => ?_)
              refine lv_aload_n hx hb d_La_law_658 rfl (lv_at hl 3 rfl) ?_
              refine pc_V (As := []) (rest := []) S (c_Mo_thrown l D b cI cJ cZ mki msz mle mel mme mal mic mil mio (upd mab k1.toNatClampNeg (vp_nar .boolean 0)) (upd mae k1.toNatClampNeg (vp_nar .boolean 0)) msa mlc mli mna mva mma mch mre mlv mwr msh 0 mnv mns mfa mmo) wB_blind k_Mo_thrown i_Mo_thrown e_Mo_thrown o_Mo ml_La_84 hd_Mo_thrown (Nat.le_trans (by decide) hRf) (Nat.le_trans (by decide) hRl) hRc (va_recv hK hP.r (q0 := 0) (ci := 6) rfl rfl) (wB_at hP.r hK) hl.1 rfl (Nat.le_of_ble_eq_true rfl) d_La_law_659 ?_
              refine lv_iload hx hb d_La_law_662 (lv_at hl 0 rfl) ?_
              refine lv_icmp_eq (tgt := 669) hx hb d_La_law_664 (by decide) (fun h => ?_) (fun h => ?_)
              · skip
                refine lv_goto (tgt := 1215) hx hb d_La_law_669 (by decide) ?_
                exact hnext ki co pr pa tw nv sv pn pl po (upd pf k1.toNatClampNeg (vp_nar .boolean 1)) (upd pt k1.toNatClampNeg (vp_nar .boolean 0)) ru le li bn ip aw ns ch ma br tl ou mki msz mle mel mme mal mic mil mio (upd mab k1.toNatClampNeg (vp_nar .boolean 0)) (upd mae k1.toNatClampNeg (vp_nar .boolean 0)) msa mlc mli mna mva mma mch mre mlv mwr msh 0 mnv mns mfa mmo ls H locs vc (lv_sub hl [5, 4, 3, 2, 1] rfl) hP hD hS
              · exact absurd h (by decide)
          · have vc := vc.2 h
            refine lv_iconst (v := 1) hx hb d_La_law_650 (by decide) ?_
            refine lv_goto (tgt := 655) hx hb d_La_law_651 (by decide) ?_
            by_cases hv1 : ¬ sIn k1 0 7 = true
            · have vc := vc.1 hv1
              refine wc_2 (As := [.int k1, .int 0, .int 1]) (rest := []) S (c_Mo_bind_1 l D b cI cJ cZ mki msz mle mel mme mal mic mil mio mab mae msa mlc mli mna mva mma mch mre mlv mwr msh mth mnv mns mfa mmo k1 0 1 hv1) k_Mo_bind i_Mo_bind e_Mo_bind o_Mo ml_La_112 hd_Mo_bind (Nat.le_trans (by decide) hRf) (Nat.le_trans (by decide) hRl) hRc (va_recv hK hP.r (q0 := 0) (ci := 6) rfl rfl) hK hP hD hS hA hl.1 rfl (Nat.le_of_ble_eq_true rfl) d_La_law_655 (fun _ H locs _ hP hD hS => ?_)
              refine lv_aload_n hx hb d_La_law_658 rfl (lv_at hl 3 rfl) ?_
              refine pc_V (As := []) (rest := []) S (c_Mo_thrown l D b cI cJ cZ mki msz mle mel mme mal mic mil mio mab mae msa mlc mli mna mva mma mch mre mlv mwr msh 1 mnv mns mfa mmo) wB_blind k_Mo_thrown i_Mo_thrown e_Mo_thrown o_Mo ml_La_84 hd_Mo_thrown (Nat.le_trans (by decide) hRf) (Nat.le_trans (by decide) hRl) hRc (va_recv hK hP.r (q0 := 0) (ci := 6) rfl rfl) (wB_at hP.r hK) hl.1 rfl (Nat.le_of_ble_eq_true rfl) d_La_law_659 ?_
              refine lv_iload hx hb d_La_law_662 (lv_at hl 0 rfl) ?_
              refine lv_icmp_eq (tgt := 669) hx hb d_La_law_664 (by decide) (fun h => ?_) (fun h => ?_)
              · exact absurd h (by decide)
              · skip
                refine lv_iconst (v := 0) hx hb d_La_law_667 (by decide) ?_
                exact vc.elim
            · have vc := vc.2 hv1
              refine wc_2 (As := [.int k1, .int 0, .int 1]) (rest := []) S (c_Mo_bind_2 l D b cI cJ cZ mki msz mle mel mme mal mic mil mio mab mae msa mlc mli mna mva mma mch mre mlv mwr msh mth mnv mns mfa mmo k1 0 1 hv1) k_Mo_bind i_Mo_bind e_Mo_bind o_Mo ml_La_112 hd_Mo_bind (Nat.le_trans (by decide) hRf) (Nat.le_trans (by decide) hRl) hRc (va_recv hK hP.r (q0 := 0) (ci := 6) rfl rfl) hK hP hD hS hA hl.1 rfl (Nat.le_of_ble_eq_true rfl) d_La_law_655 (fun _ H locs _ hP hD hS => ?_)
              refine lv_aload_n hx hb d_La_law_658 rfl (lv_at hl 3 rfl) ?_
              refine pc_V (As := []) (rest := []) S (c_Mo_thrown l D b cI cJ cZ mki msz mle mel mme mal mic mil mio (upd mab k1.toNatClampNeg (vp_nar .boolean 0)) (upd mae k1.toNatClampNeg (vp_nar .boolean 1)) msa mlc mli mna mva mma mch mre mlv mwr msh 0 mnv mns mfa mmo) wB_blind k_Mo_thrown i_Mo_thrown e_Mo_thrown o_Mo ml_La_84 hd_Mo_thrown (Nat.le_trans (by decide) hRf) (Nat.le_trans (by decide) hRl) hRc (va_recv hK hP.r (q0 := 0) (ci := 6) rfl rfl) (wB_at hP.r hK) hl.1 rfl (Nat.le_of_ble_eq_true rfl) d_La_law_659 ?_
              refine lv_iload hx hb d_La_law_662 (lv_at hl 0 rfl) ?_
              refine lv_icmp_eq (tgt := 669) hx hb d_La_law_664 (by decide) (fun h => ?_) (fun h => ?_)
              · skip
                refine lv_goto (tgt := 1215) hx hb d_La_law_669 (by decide) ?_
                exact hnext ki co pr pa tw nv sv pn pl po (upd pf k1.toNatClampNeg (vp_nar .boolean 1)) (upd pt k1.toNatClampNeg (vp_nar .boolean 0)) ru le li bn ip aw ns ch ma br tl ou mki msz mle mel mme mal mic mil mio (upd mab k1.toNatClampNeg (vp_nar .boolean 0)) (upd mae k1.toNatClampNeg (vp_nar .boolean 1)) msa mlc mli mna mva mma mch mre mlv mwr msh 0 mnv mns mfa mmo ls H locs vc (lv_sub hl [5, 4, 3, 2, 1] rfl) hP hD hS
              · exact absurd h (by decide)
        · have vc := vc.2 h
          refine lv_iconst (v := 1) hx hb d_La_law_636 (by decide) ?_
          refine lv_goto (tgt := 641) hx hb d_La_law_637 (by decide) ?_
          refine lv_aload_n hx hb d_La_law_641 rfl (lv_at hl 5 rfl) ?_
          refine lv_iload hx hb d_La_law_642 (lv_at hl 1 rfl) ?_
          refine lv_iconst (v := 3) hx hb d_La_law_644 (by decide) ?_
          refine lv_iadd hx hb d_La_law_645 ?_
          refine va_sld hx hb hXs hbl hbA hS hi3 d_La_law_646 ?_
          rw [e3]
          refine lv_if_eq (tgt := 654) hx hb d_La_law_647 (by decide) (fun h => ?_) (fun h => ?_)
          · have vc := vc.1 h
            refine lv_iconst (v := 0) hx hb d_La_law_654 (by decide) ?_
            by_cases hv1 : ¬ sIn k1 0 7 = true
            · have vc := vc.1 hv1
              refine wc_2 (As := [.int k1, .int 1, .int 0]) (rest := []) S (c_Mo_bind_1 l D b cI cJ cZ mki msz mle mel mme mal mic mil mio mab mae msa mlc mli mna mva mma mch mre mlv mwr msh mth mnv mns mfa mmo k1 1 0 hv1) k_Mo_bind i_Mo_bind e_Mo_bind o_Mo ml_La_112 hd_Mo_bind (Nat.le_trans (by decide) hRf) (Nat.le_trans (by decide) hRl) hRc (va_recv hK hP.r (q0 := 0) (ci := 6) rfl rfl) hK hP hD hS hA hl.1 rfl (Nat.le_of_ble_eq_true rfl) d_La_law_655 (fun _ H locs _ hP hD hS => ?_)
              refine lv_aload_n hx hb d_La_law_658 rfl (lv_at hl 3 rfl) ?_
              refine pc_V (As := []) (rest := []) S (c_Mo_thrown l D b cI cJ cZ mki msz mle mel mme mal mic mil mio mab mae msa mlc mli mna mva mma mch mre mlv mwr msh 1 mnv mns mfa mmo) wB_blind k_Mo_thrown i_Mo_thrown e_Mo_thrown o_Mo ml_La_84 hd_Mo_thrown (Nat.le_trans (by decide) hRf) (Nat.le_trans (by decide) hRl) hRc (va_recv hK hP.r (q0 := 0) (ci := 6) rfl rfl) (wB_at hP.r hK) hl.1 rfl (Nat.le_of_ble_eq_true rfl) d_La_law_659 ?_
              refine lv_iload hx hb d_La_law_662 (lv_at hl 0 rfl) ?_
              refine lv_icmp_eq (tgt := 669) hx hb d_La_law_664 (by decide) (fun h => ?_) (fun h => ?_)
              · exact absurd h (by decide)
              · skip
                refine lv_iconst (v := 0) hx hb d_La_law_667 (by decide) ?_
                exact vc.elim
            · have vc := vc.2 hv1
              refine wc_2 (As := [.int k1, .int 1, .int 0]) (rest := []) S (c_Mo_bind_2 l D b cI cJ cZ mki msz mle mel mme mal mic mil mio mab mae msa mlc mli mna mva mma mch mre mlv mwr msh mth mnv mns mfa mmo k1 1 0 hv1) k_Mo_bind i_Mo_bind e_Mo_bind o_Mo ml_La_112 hd_Mo_bind (Nat.le_trans (by decide) hRf) (Nat.le_trans (by decide) hRl) hRc (va_recv hK hP.r (q0 := 0) (ci := 6) rfl rfl) hK hP hD hS hA hl.1 rfl (Nat.le_of_ble_eq_true rfl) d_La_law_655 (fun _ H locs _ hP hD hS => ?_)
              refine lv_aload_n hx hb d_La_law_658 rfl (lv_at hl 3 rfl) ?_
              refine pc_V (As := []) (rest := []) S (c_Mo_thrown l D b cI cJ cZ mki msz mle mel mme mal mic mil mio (upd mab k1.toNatClampNeg (vp_nar .boolean 1)) (upd mae k1.toNatClampNeg (vp_nar .boolean 0)) msa mlc mli mna mva mma mch mre mlv mwr msh 0 mnv mns mfa mmo) wB_blind k_Mo_thrown i_Mo_thrown e_Mo_thrown o_Mo ml_La_84 hd_Mo_thrown (Nat.le_trans (by decide) hRf) (Nat.le_trans (by decide) hRl) hRc (va_recv hK hP.r (q0 := 0) (ci := 6) rfl rfl) (wB_at hP.r hK) hl.1 rfl (Nat.le_of_ble_eq_true rfl) d_La_law_659 ?_
              refine lv_iload hx hb d_La_law_662 (lv_at hl 0 rfl) ?_
              refine lv_icmp_eq (tgt := 669) hx hb d_La_law_664 (by decide) (fun h => ?_) (fun h => ?_)
              · skip
                refine lv_goto (tgt := 1215) hx hb d_La_law_669 (by decide) ?_
                exact hnext ki co pr pa tw nv sv pn pl po (upd pf k1.toNatClampNeg (vp_nar .boolean 1)) (upd pt k1.toNatClampNeg (vp_nar .boolean 0)) ru le li bn ip aw ns ch ma br tl ou mki msz mle mel mme mal mic mil mio (upd mab k1.toNatClampNeg (vp_nar .boolean 1)) (upd mae k1.toNatClampNeg (vp_nar .boolean 0)) msa mlc mli mna mva mma mch mre mlv mwr msh 0 mnv mns mfa mmo ls H locs vc (lv_sub hl [5, 4, 3, 2, 1] rfl) hP hD hS
              · exact absurd h (by decide)
          · have vc := vc.2 h
            refine lv_iconst (v := 1) hx hb d_La_law_650 (by decide) ?_
            refine lv_goto (tgt := 655) hx hb d_La_law_651 (by decide) ?_
            by_cases hv1 : ¬ sIn k1 0 7 = true
            · have vc := vc.1 hv1
              refine wc_2 (As := [.int k1, .int 1, .int 1]) (rest := []) S (c_Mo_bind_1 l D b cI cJ cZ mki msz mle mel mme mal mic mil mio mab mae msa mlc mli mna mva mma mch mre mlv mwr msh mth mnv mns mfa mmo k1 1 1 hv1) k_Mo_bind i_Mo_bind e_Mo_bind o_Mo ml_La_112 hd_Mo_bind (Nat.le_trans (by decide) hRf) (Nat.le_trans (by decide) hRl) hRc (va_recv hK hP.r (q0 := 0) (ci := 6) rfl rfl) hK hP hD hS hA hl.1 rfl (Nat.le_of_ble_eq_true rfl) d_La_law_655 (fun _ H locs _ hP hD hS => ?_)
              refine lv_aload_n hx hb d_La_law_658 rfl (lv_at hl 3 rfl) ?_
              refine pc_V (As := []) (rest := []) S (c_Mo_thrown l D b cI cJ cZ mki msz mle mel mme mal mic mil mio mab mae msa mlc mli mna mva mma mch mre mlv mwr msh 1 mnv mns mfa mmo) wB_blind k_Mo_thrown i_Mo_thrown e_Mo_thrown o_Mo ml_La_84 hd_Mo_thrown (Nat.le_trans (by decide) hRf) (Nat.le_trans (by decide) hRl) hRc (va_recv hK hP.r (q0 := 0) (ci := 6) rfl rfl) (wB_at hP.r hK) hl.1 rfl (Nat.le_of_ble_eq_true rfl) d_La_law_659 ?_
              refine lv_iload hx hb d_La_law_662 (lv_at hl 0 rfl) ?_
              refine lv_icmp_eq (tgt := 669) hx hb d_La_law_664 (by decide) (fun h => ?_) (fun h => ?_)
              · exact absurd h (by decide)
              · skip
                refine lv_iconst (v := 0) hx hb d_La_law_667 (by decide) ?_
                exact vc.elim
            · have vc := vc.2 hv1
              refine wc_2 (As := [.int k1, .int 1, .int 1]) (rest := []) S (c_Mo_bind_2 l D b cI cJ cZ mki msz mle mel mme mal mic mil mio mab mae msa mlc mli mna mva mma mch mre mlv mwr msh mth mnv mns mfa mmo k1 1 1 hv1) k_Mo_bind i_Mo_bind e_Mo_bind o_Mo ml_La_112 hd_Mo_bind (Nat.le_trans (by decide) hRf) (Nat.le_trans (by decide) hRl) hRc (va_recv hK hP.r (q0 := 0) (ci := 6) rfl rfl) hK hP hD hS hA hl.1 rfl (Nat.le_of_ble_eq_true rfl) d_La_law_655 (fun _ H locs _ hP hD hS => ?_)
              refine lv_aload_n hx hb d_La_law_658 rfl (lv_at hl 3 rfl) ?_
              refine pc_V (As := []) (rest := []) S (c_Mo_thrown l D b cI cJ cZ mki msz mle mel mme mal mic mil mio (upd mab k1.toNatClampNeg (vp_nar .boolean 1)) (upd mae k1.toNatClampNeg (vp_nar .boolean 1)) msa mlc mli mna mva mma mch mre mlv mwr msh 0 mnv mns mfa mmo) wB_blind k_Mo_thrown i_Mo_thrown e_Mo_thrown o_Mo ml_La_84 hd_Mo_thrown (Nat.le_trans (by decide) hRf) (Nat.le_trans (by decide) hRl) hRc (va_recv hK hP.r (q0 := 0) (ci := 6) rfl rfl) (wB_at hP.r hK) hl.1 rfl (Nat.le_of_ble_eq_true rfl) d_La_law_659 ?_
              refine lv_iload hx hb d_La_law_662 (lv_at hl 0 rfl) ?_
              refine lv_icmp_eq (tgt := 669) hx hb d_La_law_664 (by decide) (fun h => ?_) (fun h => ?_)
              · skip
                refine lv_goto (tgt := 1215) hx hb d_La_law_669 (by decide) ?_
                exact hnext ki co pr pa tw nv sv pn pl po (upd pf k1.toNatClampNeg (vp_nar .boolean 1)) (upd pt k1.toNatClampNeg (vp_nar .boolean 0)) ru le li bn ip aw ns ch ma br tl ou mki msz mle mel mme mal mic mil mio (upd mab k1.toNatClampNeg (vp_nar .boolean 1)) (upd mae k1.toNatClampNeg (vp_nar .boolean 1)) msa mlc mli mna mva mma mch mre mlv mwr msh 0 mnv mns mfa mmo ls H locs vc (lv_sub hl [5, 4, 3, 2, 1] rfl) hP hD hS
              · exact absurd h (by decide)
    · have vc := vc.2 h
      refine lv_iconst (v := 1) hx hb d_La_law_610 (by decide) ?_
      refine lv_goto (tgt := 615) hx hb d_La_law_611 (by decide) ?_
      by_cases hv1 : ¬ sHas 8 k1 = true
      · have vc := vc.1 hv1
        refine hc_1 (As := [.ref (a 24), .int k1, .int 1, .int 1]) (rest := []) S (c_La_bind_1 l hls D a cI cJ cZ ki co pr pa tw nv sv pn pl po pf pt ru le li bn ip aw ns ch ma br tl ou k1 1 1 hv1) kw_La_bind s_La_bind o_La ml_La_109 hd_La_bind (Nat.le_trans (by decide) hRf) (Nat.le_trans (by decide) hRl) hRc hK hP hD hS hA hX hN hl.1 rfl (Nat.le_of_ble_eq_true rfl) d_La_law_615 (fun _ H locs _ hP hD hS => ?_)
        refine lv_istore hx hb d_La_law_618 hl (by decide) (lv' := [(5, .int 1), (4, .int i), (3, .ref (a 25)), (2, .ref (b 0)), (1, .ref (a 24)), (0, .ref sc)]) rfl (fun ls hl => ?_)
        refine lv_aload_n hx hb d_La_law_620 rfl (lv_at hl 3 rfl) ?_
        refine lv_aload_n hx hb d_La_law_621 rfl (lv_at hl 5 rfl) ?_
        refine lv_iload hx hb d_La_law_622 (lv_at hl 1 rfl) ?_
        refine lv_iconst (v := 1) hx hb d_La_law_624 (by decide) ?_
        refine lv_iadd hx hb d_La_law_625 ?_
        refine va_sld hx hb hXs hbl hbA hS hi1 d_La_law_626 ?_
        rw [e1]
        refine lv_aload_n hx hb d_La_law_627 rfl (lv_at hl 5 rfl) ?_
        refine lv_iload hx hb d_La_law_628 (lv_at hl 1 rfl) ?_
        refine lv_iconst (v := 2) hx hb d_La_law_630 (by decide) ?_
        refine lv_iadd hx hb d_La_law_631 ?_
        refine va_sld hx hb hXs hbl hbA hS hi2 d_La_law_632 ?_
        rw [e2]
        refine lv_if_eq (tgt := 640) hx hb d_La_law_633 (by decide) (fun h => ?_) (fun h => ?_)
        · have vc := vc.1 h
          refine lv_iconst (v := 0) hx hb d_La_law_640 (by decide) ?_
          refine lv_aload_n hx hb d_La_law_641 rfl (lv_at hl 5 rfl) ?_
          refine lv_iload hx hb d_La_law_642 (lv_at hl 1 rfl) ?_
          refine lv_iconst (v := 3) hx hb d_La_law_644 (by decide) ?_
          refine lv_iadd hx hb d_La_law_645 ?_
          refine va_sld hx hb hXs hbl hbA hS hi3 d_La_law_646 ?_
          rw [e3]
          refine lv_if_eq (tgt := 654) hx hb d_La_law_647 (by decide) (fun h => ?_) (fun h => ?_)
          · have vc := vc.1 h
            refine lv_iconst (v := 0) hx hb d_La_law_654 (by decide) ?_
            by_cases hv1 : ¬ sIn k1 0 7 = true
            · have vc := vc.1 hv1
              refine wc_2 (As := [.int k1, .int 0, .int 0]) (rest := []) S (c_Mo_bind_1 l D b cI cJ cZ mki msz mle mel mme mal mic mil mio mab mae msa mlc mli mna mva mma mch mre mlv mwr msh mth mnv mns mfa mmo k1 0 0 hv1) k_Mo_bind i_Mo_bind e_Mo_bind o_Mo ml_La_112 hd_Mo_bind (Nat.le_trans (by decide) hRf) (Nat.le_trans (by decide) hRl) hRc (va_recv hK hP.r (q0 := 0) (ci := 6) rfl rfl) hK hP hD hS hA hl.1 rfl (Nat.le_of_ble_eq_true rfl) d_La_law_655 (fun _ H locs _ hP hD hS => ?_)
              refine lv_aload_n hx hb d_La_law_658 rfl (lv_at hl 3 rfl) ?_
              refine pc_V (As := []) (rest := []) S (c_Mo_thrown l D b cI cJ cZ mki msz mle mel mme mal mic mil mio mab mae msa mlc mli mna mva mma mch mre mlv mwr msh 1 mnv mns mfa mmo) wB_blind k_Mo_thrown i_Mo_thrown e_Mo_thrown o_Mo ml_La_84 hd_Mo_thrown (Nat.le_trans (by decide) hRf) (Nat.le_trans (by decide) hRl) hRc (va_recv hK hP.r (q0 := 0) (ci := 6) rfl rfl) (wB_at hP.r hK) hl.1 rfl (Nat.le_of_ble_eq_true rfl) d_La_law_659 ?_
              refine lv_iload hx hb d_La_law_662 (lv_at hl 0 rfl) ?_
              refine lv_icmp_eq (tgt := 669) hx hb d_La_law_664 (by decide) (fun h => ?_) (fun h => ?_)
              · skip
                refine lv_goto (tgt := 1215) hx hb d_La_law_669 (by decide) ?_
                exact hnext ki co pr pa tw nv sv pn pl po pf pt ru le li bn ip aw ns ch ma br tl ou mki msz mle mel mme mal mic mil mio mab mae msa mlc mli mna mva mma mch mre mlv mwr msh 1 mnv mns mfa mmo ls H locs vc (lv_sub hl [5, 4, 3, 2, 1] rfl) hP hD hS
              · exact absurd h (by decide)
            · have vc := vc.2 hv1
              refine wc_2 (As := [.int k1, .int 0, .int 0]) (rest := []) S (c_Mo_bind_2 l D b cI cJ cZ mki msz mle mel mme mal mic mil mio mab mae msa mlc mli mna mva mma mch mre mlv mwr msh mth mnv mns mfa mmo k1 0 0 hv1) k_Mo_bind i_Mo_bind e_Mo_bind o_Mo ml_La_112 hd_Mo_bind (Nat.le_trans (by decide) hRf) (Nat.le_trans (by decide) hRl) hRc (va_recv hK hP.r (q0 := 0) (ci := 6) rfl rfl) hK hP hD hS hA hl.1 rfl (Nat.le_of_ble_eq_true rfl) d_La_law_655 (fun _ H locs _ hP hD hS => ?_)
              refine lv_aload_n hx hb d_La_law_658 rfl (lv_at hl 3 rfl) ?_
              refine pc_V (As := []) (rest := []) S (c_Mo_thrown l D b cI cJ cZ mki msz mle mel mme mal mic mil mio (upd mab k1.toNatClampNeg (vp_nar .boolean 0)) (upd mae k1.toNatClampNeg (vp_nar .boolean 0)) msa mlc mli mna mva mma mch mre mlv mwr msh 0 mnv mns mfa mmo) wB_blind k_Mo_thrown i_Mo_thrown e_Mo_thrown o_Mo ml_La_84 hd_Mo_thrown (Nat.le_trans (by decide) hRf) (Nat.le_trans (by decide) hRl) hRc (va_recv hK hP.r (q0 := 0) (ci := 6) rfl rfl) (wB_at hP.r hK) hl.1 rfl (Nat.le_of_ble_eq_true rfl) d_La_law_659 ?_
              refine lv_iload hx hb d_La_law_662 (lv_at hl 0 rfl) ?_
              refine lv_icmp_eq (tgt := 669) hx hb d_La_law_664 (by decide) (fun h => ?_) (fun h => ?_)
              · exact absurd h (by decide)
              · skip
                refine lv_iconst (v := 0) hx hb d_La_law_667 (by decide) ?_
                exact vc.elim
          · have vc := vc.2 h
            refine lv_iconst (v := 1) hx hb d_La_law_650 (by decide) ?_
            refine lv_goto (tgt := 655) hx hb d_La_law_651 (by decide) ?_
            by_cases hv1 : ¬ sIn k1 0 7 = true
            · have vc := vc.1 hv1
              refine wc_2 (As := [.int k1, .int 0, .int 1]) (rest := []) S (c_Mo_bind_1 l D b cI cJ cZ mki msz mle mel mme mal mic mil mio mab mae msa mlc mli mna mva mma mch mre mlv mwr msh mth mnv mns mfa mmo k1 0 1 hv1) k_Mo_bind i_Mo_bind e_Mo_bind o_Mo ml_La_112 hd_Mo_bind (Nat.le_trans (by decide) hRf) (Nat.le_trans (by decide) hRl) hRc (va_recv hK hP.r (q0 := 0) (ci := 6) rfl rfl) hK hP hD hS hA hl.1 rfl (Nat.le_of_ble_eq_true rfl) d_La_law_655 (fun _ H locs _ hP hD hS => ?_)
              refine lv_aload_n hx hb d_La_law_658 rfl (lv_at hl 3 rfl) ?_
              refine pc_V (As := []) (rest := []) S (c_Mo_thrown l D b cI cJ cZ mki msz mle mel mme mal mic mil mio mab mae msa mlc mli mna mva mma mch mre mlv mwr msh 1 mnv mns mfa mmo) wB_blind k_Mo_thrown i_Mo_thrown e_Mo_thrown o_Mo ml_La_84 hd_Mo_thrown (Nat.le_trans (by decide) hRf) (Nat.le_trans (by decide) hRl) hRc (va_recv hK hP.r (q0 := 0) (ci := 6) rfl rfl) (wB_at hP.r hK) hl.1 rfl (Nat.le_of_ble_eq_true rfl) d_La_law_659 ?_
              refine lv_iload hx hb d_La_law_662 (lv_at hl 0 rfl) ?_
              refine lv_icmp_eq (tgt := 669) hx hb d_La_law_664 (by decide) (fun h => ?_) (fun h => ?_)
              · skip
                refine lv_goto (tgt := 1215) hx hb d_La_law_669 (by decide) ?_
                exact hnext ki co pr pa tw nv sv pn pl po pf pt ru le li bn ip aw ns ch ma br tl ou mki msz mle mel mme mal mic mil mio mab mae msa mlc mli mna mva mma mch mre mlv mwr msh 1 mnv mns mfa mmo ls H locs vc (lv_sub hl [5, 4, 3, 2, 1] rfl) hP hD hS
              · exact absurd h (by decide)
            · have vc := vc.2 hv1
              refine wc_2 (As := [.int k1, .int 0, .int 1]) (rest := []) S (c_Mo_bind_2 l D b cI cJ cZ mki msz mle mel mme mal mic mil mio mab mae msa mlc mli mna mva mma mch mre mlv mwr msh mth mnv mns mfa mmo k1 0 1 hv1) k_Mo_bind i_Mo_bind e_Mo_bind o_Mo ml_La_112 hd_Mo_bind (Nat.le_trans (by decide) hRf) (Nat.le_trans (by decide) hRl) hRc (va_recv hK hP.r (q0 := 0) (ci := 6) rfl rfl) hK hP hD hS hA hl.1 rfl (Nat.le_of_ble_eq_true rfl) d_La_law_655 (fun _ H locs _ hP hD hS => ?_)
              refine lv_aload_n hx hb d_La_law_658 rfl (lv_at hl 3 rfl) ?_
              refine pc_V (As := []) (rest := []) S (c_Mo_thrown l D b cI cJ cZ mki msz mle mel mme mal mic mil mio (upd mab k1.toNatClampNeg (vp_nar .boolean 0)) (upd mae k1.toNatClampNeg (vp_nar .boolean 1)) msa mlc mli mna mva mma mch mre mlv mwr msh 0 mnv mns mfa mmo) wB_blind k_Mo_thrown i_Mo_thrown e_Mo_thrown o_Mo ml_La_84 hd_Mo_thrown (Nat.le_trans (by decide) hRf) (Nat.le_trans (by decide) hRl) hRc (va_recv hK hP.r (q0 := 0) (ci := 6) rfl rfl) (wB_at hP.r hK) hl.1 rfl (Nat.le_of_ble_eq_true rfl) d_La_law_659 ?_
              refine lv_iload hx hb d_La_law_662 (lv_at hl 0 rfl) ?_
              refine lv_icmp_eq (tgt := 669) hx hb d_La_law_664 (by decide) (fun h => ?_) (fun h => ?_)
              · exact absurd h (by decide)
              · skip
                refine lv_iconst (v := 0) hx hb d_La_law_667 (by decide) ?_
                exact vc.elim
        · have vc := vc.2 h
          refine lv_iconst (v := 1) hx hb d_La_law_636 (by decide) ?_
          refine lv_goto (tgt := 641) hx hb d_La_law_637 (by decide) ?_
          refine lv_aload_n hx hb d_La_law_641 rfl (lv_at hl 5 rfl) ?_
          refine lv_iload hx hb d_La_law_642 (lv_at hl 1 rfl) ?_
          refine lv_iconst (v := 3) hx hb d_La_law_644 (by decide) ?_
          refine lv_iadd hx hb d_La_law_645 ?_
          refine va_sld hx hb hXs hbl hbA hS hi3 d_La_law_646 ?_
          rw [e3]
          refine lv_if_eq (tgt := 654) hx hb d_La_law_647 (by decide) (fun h => ?_) (fun h => ?_)
          · have vc := vc.1 h
            refine lv_iconst (v := 0) hx hb d_La_law_654 (by decide) ?_
            by_cases hv1 : ¬ sIn k1 0 7 = true
            · have vc := vc.1 hv1
              refine wc_2 (As := [.int k1, .int 1, .int 0]) (rest := []) S (c_Mo_bind_1 l D b cI cJ cZ mki msz mle mel mme mal mic mil mio mab mae msa mlc mli mna mva mma mch mre mlv mwr msh mth mnv mns mfa mmo k1 1 0 hv1) k_Mo_bind i_Mo_bind e_Mo_bind o_Mo ml_La_112 hd_Mo_bind (Nat.le_trans (by decide) hRf) (Nat.le_trans (by decide) hRl) hRc (va_recv hK hP.r (q0 := 0) (ci := 6) rfl rfl) hK hP hD hS hA hl.1 rfl (Nat.le_of_ble_eq_true rfl) d_La_law_655 (fun _ H locs _ hP hD hS => ?_)
              refine lv_aload_n hx hb d_La_law_658 rfl (lv_at hl 3 rfl) ?_
              refine pc_V (As := []) (rest := []) S (c_Mo_thrown l D b cI cJ cZ mki msz mle mel mme mal mic mil mio mab mae msa mlc mli mna mva mma mch mre mlv mwr msh 1 mnv mns mfa mmo) wB_blind k_Mo_thrown i_Mo_thrown e_Mo_thrown o_Mo ml_La_84 hd_Mo_thrown (Nat.le_trans (by decide) hRf) (Nat.le_trans (by decide) hRl) hRc (va_recv hK hP.r (q0 := 0) (ci := 6) rfl rfl) (wB_at hP.r hK) hl.1 rfl (Nat.le_of_ble_eq_true rfl) d_La_law_659 ?_
              refine lv_iload hx hb d_La_law_662 (lv_at hl 0 rfl) ?_
              refine lv_icmp_eq (tgt := 669) hx hb d_La_law_664 (by decide) (fun h => ?_) (fun h => ?_)
              · skip
                refine lv_goto (tgt := 1215) hx hb d_La_law_669 (by decide) ?_
                exact hnext ki co pr pa tw nv sv pn pl po pf pt ru le li bn ip aw ns ch ma br tl ou mki msz mle mel mme mal mic mil mio mab mae msa mlc mli mna mva mma mch mre mlv mwr msh 1 mnv mns mfa mmo ls H locs vc (lv_sub hl [5, 4, 3, 2, 1] rfl) hP hD hS
              · exact absurd h (by decide)
            · have vc := vc.2 hv1
              refine wc_2 (As := [.int k1, .int 1, .int 0]) (rest := []) S (c_Mo_bind_2 l D b cI cJ cZ mki msz mle mel mme mal mic mil mio mab mae msa mlc mli mna mva mma mch mre mlv mwr msh mth mnv mns mfa mmo k1 1 0 hv1) k_Mo_bind i_Mo_bind e_Mo_bind o_Mo ml_La_112 hd_Mo_bind (Nat.le_trans (by decide) hRf) (Nat.le_trans (by decide) hRl) hRc (va_recv hK hP.r (q0 := 0) (ci := 6) rfl rfl) hK hP hD hS hA hl.1 rfl (Nat.le_of_ble_eq_true rfl) d_La_law_655 (fun _ H locs _ hP hD hS => ?_)
              refine lv_aload_n hx hb d_La_law_658 rfl (lv_at hl 3 rfl) ?_
              refine pc_V (As := []) (rest := []) S (c_Mo_thrown l D b cI cJ cZ mki msz mle mel mme mal mic mil mio (upd mab k1.toNatClampNeg (vp_nar .boolean 1)) (upd mae k1.toNatClampNeg (vp_nar .boolean 0)) msa mlc mli mna mva mma mch mre mlv mwr msh 0 mnv mns mfa mmo) wB_blind k_Mo_thrown i_Mo_thrown e_Mo_thrown o_Mo ml_La_84 hd_Mo_thrown (Nat.le_trans (by decide) hRf) (Nat.le_trans (by decide) hRl) hRc (va_recv hK hP.r (q0 := 0) (ci := 6) rfl rfl) (wB_at hP.r hK) hl.1 rfl (Nat.le_of_ble_eq_true rfl) d_La_law_659 ?_
              refine lv_iload hx hb d_La_law_662 (lv_at hl 0 rfl) ?_
              refine lv_icmp_eq (tgt := 669) hx hb d_La_law_664 (by decide) (fun h => ?_) (fun h => ?_)
              · exact absurd h (by decide)
              · skip
                refine lv_iconst (v := 0) hx hb d_La_law_667 (by decide) ?_
                exact vc.elim
          · have vc := vc.2 h
            refine lv_iconst (v := 1) hx hb d_La_law_650 (by decide) ?_
            refine lv_goto (tgt := 655) hx hb d_La_law_651 (by decide) ?_
            by_cases hv1 : ¬ sIn k1 0 7 = true
            · have vc := vc.1 hv1
              refine wc_2 (As := [.int k1, .int 1, .int 1]) (rest := []) S (c_Mo_bind_1 l D b cI cJ cZ mki msz mle mel mme mal mic mil mio mab mae msa mlc mli mna mva mma mch mre mlv mwr msh mth mnv mns mfa mmo k1 1 1 hv1) k_Mo_bind i_Mo_bind e_Mo_bind o_Mo ml_La_112 hd_Mo_bind (Nat.le_trans (by decide) hRf) (Nat.le_trans (by decide) hRl) hRc (va_recv hK hP.r (q0 := 0) (ci := 6) rfl rfl) hK hP hD hS hA hl.1 rfl (Nat.le_of_ble_eq_true rfl) d_La_law_655 (fun _ H locs _ hP hD hS => ?_)
              refine lv_aload_n hx hb d_La_law_658 rfl (lv_at hl 3 rfl) ?_
              refine pc_V (As := []) (rest := []) S (c_Mo_thrown l D b cI cJ cZ mki msz mle mel mme mal mic mil mio mab mae msa mlc mli mna mva mma mch mre mlv mwr msh 1 mnv mns mfa mmo) wB_blind k_Mo_thrown i_Mo_thrown e_Mo_thrown o_Mo ml_La_84 hd_Mo_thrown (Nat.le_trans (by decide) hRf) (Nat.le_trans (by decide) hRl) hRc (va_recv hK hP.r (q0 := 0) (ci := 6) rfl rfl) (wB_at hP.r hK) hl.1 rfl (Nat.le_of_ble_eq_true rfl) d_La_law_659 ?_
              refine lv_iload hx hb d_La_law_662 (lv_at hl 0 rfl) ?_
              refine lv_icmp_eq (tgt := 669) hx hb d_La_law_664 (by decide) (fun h => ?_) (fun h => ?_)
              · skip
                refine lv_goto (tgt := 1215) hx hb d_La_law_669 (by decide) ?_
                exact hnext ki co pr pa tw nv sv pn pl po pf pt ru le li bn ip aw ns ch ma br tl ou mki msz mle mel mme mal mic mil mio mab mae msa mlc mli mna mva mma mch mre mlv mwr msh 1 mnv mns mfa mmo ls H locs vc (lv_sub hl [5, 4, 3, 2, 1] rfl) hP hD hS
              · exact absurd h (by decide)
            · have vc := vc.2 hv1
              refine wc_2 (As := [.int k1, .int 1, .int 1]) (rest := []) S (c_Mo_bind_2 l D b cI cJ cZ mki msz mle mel mme mal mic mil mio mab mae msa mlc mli mna mva mma mch mre mlv mwr msh mth mnv mns mfa mmo k1 1 1 hv1) k_Mo_bind i_Mo_bind e_Mo_bind o_Mo ml_La_112 hd_Mo_bind (Nat.le_trans (by decide) hRf) (Nat.le_trans (by decide) hRl) hRc (va_recv hK hP.r (q0 := 0) (ci := 6) rfl rfl) hK hP hD hS hA hl.1 rfl (Nat.le_of_ble_eq_true rfl) d_La_law_655 (fun _ H locs _ hP hD hS => ?_)
              refine lv_aload_n hx hb d_La_law_658 rfl (lv_at hl 3 rfl) ?_
              refine pc_V (As := []) (rest := []) S (c_Mo_thrown l D b cI cJ cZ mki msz mle mel mme mal mic mil mio (upd mab k1.toNatClampNeg (vp_nar .boolean 1)) (upd mae k1.toNatClampNeg (vp_nar .boolean 1)) msa mlc mli mna mva mma mch mre mlv mwr msh 0 mnv mns mfa mmo) wB_blind k_Mo_thrown i_Mo_thrown e_Mo_thrown o_Mo ml_La_84 hd_Mo_thrown (Nat.le_trans (by decide) hRf) (Nat.le_trans (by decide) hRl) hRc (va_recv hK hP.r (q0 := 0) (ci := 6) rfl rfl) (wB_at hP.r hK) hl.1 rfl (Nat.le_of_ble_eq_true rfl) d_La_law_659 ?_
              refine lv_iload hx hb d_La_law_662 (lv_at hl 0 rfl) ?_
              refine lv_icmp_eq (tgt := 669) hx hb d_La_law_664 (by decide) (fun h => ?_) (fun h => ?_)
              · exact absurd h (by decide)
              · skip
                refine lv_iconst (v := 0) hx hb d_La_law_667 (by decide) ?_
                exact vc.elim
      · have vc := vc.2 hv1
        refine hc_1 (As := [.ref (a 24), .int k1, .int 1, .int 1]) (rest := []) S (c_La_bind_2 l hls D a cI cJ cZ ki co pr pa tw nv sv pn pl po pf pt ru le li bn ip aw ns ch ma br tl ou k1 1 1 hv1) kw_La_bind s_La_bind o_La ml_La_109 hd_La_bind (Nat.le_trans (by decide) hRf) (Nat.le_trans (by decide) hRl) hRc hK hP hD hS hA hX hN hl.1 rfl (Nat.le_of_ble_eq_true rfl) d_La_law_615 (fun _ H locs _ hP hD hS => ?_)
        refine lv_istore hx hb d_La_law_618 hl (by decide) (lv' := [(5, .int 0), (4, .int i), (3, .ref (a 25)), (2, .ref (b 0)), (1, .ref (a 24)), (0, .ref sc)]) rfl (fun ls hl => ?_)
        refine lv_aload_n hx hb d_La_law_620 rfl (lv_at hl 3 rfl) ?_
        refine lv_aload_n hx hb d_La_law_621 rfl (lv_at hl 5 rfl) ?_
        refine lv_iload hx hb d_La_law_622 (lv_at hl 1 rfl) ?_
        refine lv_iconst (v := 1) hx hb d_La_law_624 (by decide) ?_
        refine lv_iadd hx hb d_La_law_625 ?_
        refine va_sld hx hb hXs hbl hbA hS hi1 d_La_law_626 ?_
        rw [e1]
        refine lv_aload_n hx hb d_La_law_627 rfl (lv_at hl 5 rfl) ?_
        refine lv_iload hx hb d_La_law_628 (lv_at hl 1 rfl) ?_
        refine lv_iconst (v := 2) hx hb d_La_law_630 (by decide) ?_
        refine lv_iadd hx hb d_La_law_631 ?_
        refine va_sld hx hb hXs hbl hbA hS hi2 d_La_law_632 ?_
        rw [e2]
        refine lv_if_eq (tgt := 640) hx hb d_La_law_633 (by decide) (fun h => ?_) (fun h => ?_)
        · have vc := vc.1 h
          refine lv_iconst (v := 0) hx hb d_La_law_640 (by decide) ?_
          refine lv_aload_n hx hb d_La_law_641 rfl (lv_at hl 5 rfl) ?_
          refine lv_iload hx hb d_La_law_642 (lv_at hl 1 rfl) ?_
          refine lv_iconst (v := 3) hx hb d_La_law_644 (by decide) ?_
          refine lv_iadd hx hb d_La_law_645 ?_
          refine va_sld hx hb hXs hbl hbA hS hi3 d_La_law_646 ?_
          rw [e3]
          refine lv_if_eq (tgt := 654) hx hb d_La_law_647 (by decide) (fun h => ?_) (fun h => ?_)
          · have vc := vc.1 h
            refine lv_iconst (v := 0) hx hb d_La_law_654 (by decide) ?_
            by_cases hv1 : ¬ sIn k1 0 7 = true
            · have vc := vc.1 hv1
              refine wc_2 (As := [.int k1, .int 0, .int 0]) (rest := []) S (c_Mo_bind_1 l D b cI cJ cZ mki msz mle mel mme mal mic mil mio mab mae msa mlc mli mna mva mma mch mre mlv mwr msh mth mnv mns mfa mmo k1 0 0 hv1) k_Mo_bind i_Mo_bind e_Mo_bind o_Mo ml_La_112 hd_Mo_bind (Nat.le_trans (by decide) hRf) (Nat.le_trans (by decide) hRl) hRc (va_recv hK hP.r (q0 := 0) (ci := 6) rfl rfl) hK hP hD hS hA hl.1 rfl (Nat.le_of_ble_eq_true rfl) d_La_law_655 (fun _ H locs _ hP hD hS => ?_)
              refine lv_aload_n hx hb d_La_law_658 rfl (lv_at hl 3 rfl) ?_
              refine pc_V (As := []) (rest := []) S (c_Mo_thrown l D b cI cJ cZ mki msz mle mel mme mal mic mil mio mab mae msa mlc mli mna mva mma mch mre mlv mwr msh 1 mnv mns mfa mmo) wB_blind k_Mo_thrown i_Mo_thrown e_Mo_thrown o_Mo ml_La_84 hd_Mo_thrown (Nat.le_trans (by decide) hRf) (Nat.le_trans (by decide) hRl) hRc (va_recv hK hP.r (q0 := 0) (ci := 6) rfl rfl) (wB_at hP.r hK) hl.1 rfl (Nat.le_of_ble_eq_true rfl) d_La_law_659 ?_
              refine lv_iload hx hb d_La_law_662 (lv_at hl 0 rfl) ?_
              refine lv_icmp_eq (tgt := 669) hx hb d_La_law_664 (by decide) (fun h => ?_) (fun h => ?_)
              · exact absurd h (by decide)
              · skip
                refine lv_iconst (v := 0) hx hb d_La_law_667 (by decide) ?_
                exact vc.elim
            · have vc := vc.2 hv1
              refine wc_2 (As := [.int k1, .int 0, .int 0]) (rest := []) S (c_Mo_bind_2 l D b cI cJ cZ mki msz mle mel mme mal mic mil mio mab mae msa mlc mli mna mva mma mch mre mlv mwr msh mth mnv mns mfa mmo k1 0 0 hv1) k_Mo_bind i_Mo_bind e_Mo_bind o_Mo ml_La_112 hd_Mo_bind (Nat.le_trans (by decide) hRf) (Nat.le_trans (by decide) hRl) hRc (va_recv hK hP.r (q0 := 0) (ci := 6) rfl rfl) hK hP hD hS hA hl.1 rfl (Nat.le_of_ble_eq_true rfl) d_La_law_655 (fun _ H locs _ hP hD hS => ?_)
              refine lv_aload_n hx hb d_La_law_658 rfl (lv_at hl 3 rfl) ?_
              refine pc_V (As := []) (rest := []) S (c_Mo_thrown l D b cI cJ cZ mki msz mle mel mme mal mic mil mio (upd mab k1.toNatClampNeg (vp_nar .boolean 0)) (upd mae k1.toNatClampNeg (vp_nar .boolean 0)) msa mlc mli mna mva mma mch mre mlv mwr msh 0 mnv mns mfa mmo) wB_blind k_Mo_thrown i_Mo_thrown e_Mo_thrown o_Mo ml_La_84 hd_Mo_thrown (Nat.le_trans (by decide) hRf) (Nat.le_trans (by decide) hRl) hRc (va_recv hK hP.r (q0 := 0) (ci := 6) rfl rfl) (wB_at hP.r hK) hl.1 rfl (Nat.le_of_ble_eq_true rfl) d_La_law_659 ?_
              refine lv_iload hx hb d_La_law_662 (lv_at hl 0 rfl) ?_
              refine lv_icmp_eq (tgt := 669) hx hb d_La_law_664 (by decide) (fun h => ?_) (fun h => ?_)
              · skip
                refine lv_goto (tgt := 1215) hx hb d_La_law_669 (by decide) ?_
                exact hnext ki co pr pa tw nv sv pn pl po (upd pf k1.toNatClampNeg (vp_nar .boolean 1)) (upd pt k1.toNatClampNeg (vp_nar .boolean 1)) ru le li bn ip aw ns ch ma br tl ou mki msz mle mel mme mal mic mil mio (upd mab k1.toNatClampNeg (vp_nar .boolean 0)) (upd mae k1.toNatClampNeg (vp_nar .boolean 0)) msa mlc mli mna mva mma mch mre mlv mwr msh 0 mnv mns mfa mmo ls H locs vc (lv_sub hl [5, 4, 3, 2, 1] rfl) hP hD hS
              · exact absurd h (by decide)
          · have vc := vc.2 h
            refine lv_iconst (v := 1) hx hb d_La_law_650 (by decide) ?_
            refine lv_goto (tgt := 655) hx hb d_La_law_651 (by decide) ?_
            by_cases hv1 : ¬ sIn k1 0 7 = true
            · have vc := vc.1 hv1
              refine wc_2 (As := [.int k1, .int 0, .int 1]) (rest := []) S (c_Mo_bind_1 l D b cI cJ cZ mki msz mle mel mme mal mic mil mio mab mae msa mlc mli mna mva mma mch mre mlv mwr msh mth mnv mns mfa mmo k1 0 1 hv1) k_Mo_bind i_Mo_bind e_Mo_bind o_Mo ml_La_112 hd_Mo_bind (Nat.le_trans (by decide) hRf) (Nat.le_trans (by decide) hRl) hRc (va_recv hK hP.r (q0 := 0) (ci := 6) rfl rfl) hK hP hD hS hA hl.1 rfl (Nat.le_of_ble_eq_true rfl) d_La_law_655 (fun _ H locs _ hP hD hS => ?_)
              refine lv_aload_n hx hb d_La_law_658 rfl (lv_at hl 3 rfl) ?_
              refine pc_V (As := []) (rest := []) S (c_Mo_thrown l D b cI cJ cZ mki msz mle mel mme mal mic mil mio mab mae msa mlc mli mna mva mma mch mre mlv mwr msh 1 mnv mns mfa mmo) wB_blind k_Mo_thrown i_Mo_thrown e_Mo_thrown o_Mo ml_La_84 hd_Mo_thrown (Nat.le_trans (by decide) hRf) (Nat.le_trans (by decide) hRl) hRc (va_recv hK hP.r (q0 := 0) (ci := 6) rfl rfl) (wB_at hP.r hK) hl.1 rfl (Nat.le_of_ble_eq_true rfl) d_La_law_659 ?_
              refine lv_iload hx hb d_La_law_662 (lv_at hl 0 rfl) ?_
              refine lv_icmp_eq (tgt := 669) hx hb d_La_law_664 (by decide) (fun h => ?_) (fun h => ?_)
              · exact absurd h (by decide)
              · skip
                refine lv_iconst (v := 0) hx hb d_La_law_667 (by decide) ?_
                exact vc.elim
            · have vc := vc.2 hv1
              refine wc_2 (As := [.int k1, .int 0, .int 1]) (rest := []) S (c_Mo_bind_2 l D b cI cJ cZ mki msz mle mel mme mal mic mil mio mab mae msa mlc mli mna mva mma mch mre mlv mwr msh mth mnv mns mfa mmo k1 0 1 hv1) k_Mo_bind i_Mo_bind e_Mo_bind o_Mo ml_La_112 hd_Mo_bind (Nat.le_trans (by decide) hRf) (Nat.le_trans (by decide) hRl) hRc (va_recv hK hP.r (q0 := 0) (ci := 6) rfl rfl) hK hP hD hS hA hl.1 rfl (Nat.le_of_ble_eq_true rfl) d_La_law_655 (fun _ H locs _ hP hD hS => ?_)
              refine lv_aload_n hx hb d_La_law_658 rfl (lv_at hl 3 rfl) ?_
              refine pc_V (As := []) (rest := []) S (c_Mo_thrown l D b cI cJ cZ mki msz mle mel mme mal mic mil mio (upd mab k1.toNatClampNeg (vp_nar .boolean 0)) (upd mae k1.toNatClampNeg (vp_nar .boolean 1)) msa mlc mli mna mva mma mch mre mlv mwr msh 0 mnv mns mfa mmo) wB_blind k_Mo_thrown i_Mo_thrown e_Mo_thrown o_Mo ml_La_84 hd_Mo_thrown (Nat.le_trans (by decide) hRf) (Nat.le_trans (by decide) hRl) hRc (va_recv hK hP.r (q0 := 0) (ci := 6) rfl rfl) (wB_at hP.r hK) hl.1 rfl (Nat.le_of_ble_eq_true rfl) d_La_law_659 ?_
              refine lv_iload hx hb d_La_law_662 (lv_at hl 0 rfl) ?_
              refine lv_icmp_eq (tgt := 669) hx hb d_La_law_664 (by decide) (fun h => ?_) (fun h => ?_)
              · skip
                refine lv_goto (tgt := 1215) hx hb d_La_law_669 (by decide) ?_
                exact hnext ki co pr pa tw nv sv pn pl po (upd pf k1.toNatClampNeg (vp_nar .boolean 1)) (upd pt k1.toNatClampNeg (vp_nar .boolean 1)) ru le li bn ip aw ns ch ma br tl ou mki msz mle mel mme mal mic mil mio (upd mab k1.toNatClampNeg (vp_nar .boolean 0)) (upd mae k1.toNatClampNeg (vp_nar .boolean 1)) msa mlc mli mna mva mma mch mre mlv mwr msh 0 mnv mns mfa mmo ls H locs vc (lv_sub hl [5, 4, 3, 2, 1] rfl) hP hD hS
              · exact absurd h (by decide)
        · have vc := vc.2 h
          refine lv_iconst (v := 1) hx hb d_La_law_636 (by decide) ?_
          refine lv_goto (tgt := 641) hx hb d_La_law_637 (by decide) ?_
          refine lv_aload_n hx hb d_La_law_641 rfl (lv_at hl 5 rfl) ?_
          refine lv_iload hx hb d_La_law_642 (lv_at hl 1 rfl) ?_
          refine lv_iconst (v := 3) hx hb d_La_law_644 (by decide) ?_
          refine lv_iadd hx hb d_La_law_645 ?_
          refine va_sld hx hb hXs hbl hbA hS hi3 d_La_law_646 ?_
          rw [e3]
          refine lv_if_eq (tgt := 654) hx hb d_La_law_647 (by decide) (fun h => ?_) (fun h => ?_)
          · have vc := vc.1 h
            refine lv_iconst (v := 0) hx hb d_La_law_654 (by decide) ?_
            by_cases hv1 : ¬ sIn k1 0 7 = true
            · have vc := vc.1 hv1
              refine wc_2 (As := [.int k1, .int 1, .int 0]) (rest := []) S (c_Mo_bind_1 l D b cI cJ cZ mki msz mle mel mme mal mic mil mio mab mae msa mlc mli mna mva mma mch mre mlv mwr msh mth mnv mns mfa mmo k1 1 0 hv1) k_Mo_bind i_Mo_bind e_Mo_bind o_Mo ml_La_112 hd_Mo_bind (Nat.le_trans (by decide) hRf) (Nat.le_trans (by decide) hRl) hRc (va_recv hK hP.r (q0 := 0) (ci := 6) rfl rfl) hK hP hD hS hA hl.1 rfl (Nat.le_of_ble_eq_true rfl) d_La_law_655 (fun _ H locs _ hP hD hS => ?_)
              refine lv_aload_n hx hb d_La_law_658 rfl (lv_at hl 3 rfl) ?_
              refine pc_V (As := []) (rest := []) S (c_Mo_thrown l D b cI cJ cZ mki msz mle mel mme mal mic mil mio mab mae msa mlc mli mna mva mma mch mre mlv mwr msh 1 mnv mns mfa mmo) wB_blind k_Mo_thrown i_Mo_thrown e_Mo_thrown o_Mo ml_La_84 hd_Mo_thrown (Nat.le_trans (by decide) hRf) (Nat.le_trans (by decide) hRl) hRc (va_recv hK hP.r (q0 := 0) (ci := 6) rfl rfl) (wB_at hP.r hK) hl.1 rfl (Nat.le_of_ble_eq_true rfl) d_La_law_659 ?_
              refine lv_iload hx hb d_La_law_662 (lv_at hl 0 rfl) ?_
              refine lv_icmp_eq (tgt := 669) hx hb d_La_law_664 (by decide) (fun h => ?_) (fun h => ?_)
              · exact absurd h (by decide)
              · skip
                refine lv_iconst (v := 0) hx hb d_La_law_667 (by decide) ?_
                exact vc.elim
            · have vc := vc.2 hv1
              refine wc_2 (As := [.int k1, .int 1, .int 0]) (rest := []) S (c_Mo_bind_2 l D b cI cJ cZ mki msz mle mel mme mal mic mil mio mab mae msa mlc mli mna mva mma mch mre mlv mwr msh mth mnv mns mfa mmo k1 1 0 hv1) k_Mo_bind i_Mo_bind e_Mo_bind o_Mo ml_La_112 hd_Mo_bind (Nat.le_trans (by decide) hRf) (Nat.le_trans (by decide) hRl) hRc (va_recv hK hP.r (q0 := 0) (ci := 6) rfl rfl) hK hP hD hS hA hl.1 rfl (Nat.le_of_ble_eq_true rfl) d_La_law_655 (fun _ H locs _ hP hD hS => ?_)
              refine lv_aload_n hx hb d_La_law_658 rfl (lv_at hl 3 rfl) ?_
              refine pc_V (As := []) (rest := []) S (c_Mo_thrown l D b cI cJ cZ mki msz mle mel mme mal mic mil mio (upd mab k1.toNatClampNeg (vp_nar .boolean 1)) (upd mae k1.toNatClampNeg (vp_nar .boolean 0)) msa mlc mli mna mva mma mch mre mlv mwr msh 0 mnv mns mfa mmo) wB_blind k_Mo_thrown i_Mo_thrown e_Mo_thrown o_Mo ml_La_84 hd_Mo_thrown (Nat.le_trans (by decide) hRf) (Nat.le_trans (by decide) hRl) hRc (va_recv hK hP.r (q0 := 0) (ci := 6) rfl rfl) (wB_at hP.r hK) hl.1 rfl (Nat.le_of_ble_eq_true rfl) d_La_law_659 ?_
              refine lv_iload hx hb d_La_law_662 (lv_at hl 0 rfl) ?_
              refine lv_icmp_eq (tgt := 669) hx hb d_La_law_664 (by decide) (fun h => ?_) (fun h => ?_)
              · skip
                refine lv_goto (tgt := 1215) hx hb d_La_law_669 (by decide) ?_
                exact hnext ki co pr pa tw nv sv pn pl po (upd pf k1.toNatClampNeg (vp_nar .boolean 1)) (upd pt k1.toNatClampNeg (vp_nar .boolean 1)) ru le li bn ip aw ns ch ma br tl ou mki msz mle mel mme mal mic mil mio (upd mab k1.toNatClampNeg (vp_nar .boolean 1)) (upd mae k1.toNatClampNeg (vp_nar .boolean 0)) msa mlc mli mna mva mma mch mre mlv mwr msh 0 mnv mns mfa mmo ls H locs vc (lv_sub hl [5, 4, 3, 2, 1] rfl) hP hD hS
              · exact absurd h (by decide)
          · have vc := vc.2 h
            refine lv_iconst (v := 1) hx hb d_La_law_650 (by decide) ?_
            refine lv_goto (tgt := 655) hx hb d_La_law_651 (by decide) ?_
            by_cases hv1 : ¬ sIn k1 0 7 = true
            · have vc := vc.1 hv1
              refine wc_2 (As := [.int k1, .int 1, .int 1]) (rest := []) S (c_Mo_bind_1 l D b cI cJ cZ mki msz mle mel mme mal mic mil mio mab mae msa mlc mli mna mva mma mch mre mlv mwr msh mth mnv mns mfa mmo k1 1 1 hv1) k_Mo_bind i_Mo_bind e_Mo_bind o_Mo ml_La_112 hd_Mo_bind (Nat.le_trans (by decide) hRf) (Nat.le_trans (by decide) hRl) hRc (va_recv hK hP.r (q0 := 0) (ci := 6) rfl rfl) hK hP hD hS hA hl.1 rfl (Nat.le_of_ble_eq_true rfl) d_La_law_655 (fun _ H locs _ hP hD hS => ?_)
              refine lv_aload_n hx hb d_La_law_658 rfl (lv_at hl 3 rfl) ?_
              refine pc_V (As := []) (rest := []) S (c_Mo_thrown l D b cI cJ cZ mki msz mle mel mme mal mic mil mio mab mae msa mlc mli mna mva mma mch mre mlv mwr msh 1 mnv mns mfa mmo) wB_blind k_Mo_thrown i_Mo_thrown e_Mo_thrown o_Mo ml_La_84 hd_Mo_thrown (Nat.le_trans (by decide) hRf) (Nat.le_trans (by decide) hRl) hRc (va_recv hK hP.r (q0 := 0) (ci := 6) rfl rfl) (wB_at hP.r hK) hl.1 rfl (Nat.le_of_ble_eq_true rfl) d_La_law_659 ?_
              refine lv_iload hx hb d_La_law_662 (lv_at hl 0 rfl) ?_
              refine lv_icmp_eq (tgt := 669) hx hb d_La_law_664 (by decide) (fun h => ?_) (fun h => ?_)
              · exact absurd h (by decide)
              · skip
                refine lv_iconst (v := 0) hx hb d_La_law_667 (by decide) ?_
                exact vc.elim
            · have vc := vc.2 hv1
              refine wc_2 (As := [.int k1, .int 1, .int 1]) (rest := []) S (c_Mo_bind_2 l D b cI cJ cZ mki msz mle mel mme mal mic mil mio mab mae msa mlc mli mna mva mma mch mre mlv mwr msh mth mnv mns mfa mmo k1 1 1 hv1) k_Mo_bind i_Mo_bind e_Mo_bind o_Mo ml_La_112 hd_Mo_bind (Nat.le_trans (by decide) hRf) (Nat.le_trans (by decide) hRl) hRc (va_recv hK hP.r (q0 := 0) (ci := 6) rfl rfl) hK hP hD hS hA hl.1 rfl (Nat.le_of_ble_eq_true rfl) d_La_law_655 (fun _ H locs _ hP hD hS => ?_)
              refine lv_aload_n hx hb d_La_law_658 rfl (lv_at hl 3 rfl) ?_
              refine pc_V (As := []) (rest := []) S (c_Mo_thrown l D b cI cJ cZ mki msz mle mel mme mal mic mil mio (upd mab k1.toNatClampNeg (vp_nar .boolean 1)) (upd mae k1.toNatClampNeg (vp_nar .boolean 1)) msa mlc mli mna mva mma mch mre mlv mwr msh 0 mnv mns mfa mmo) wB_blind k_Mo_thrown i_Mo_thrown e_Mo_thrown o_Mo ml_La_84 hd_Mo_thrown (Nat.le_trans (by decide) hRf) (Nat.le_trans (by decide) hRl) hRc (va_recv hK hP.r (q0 := 0) (ci := 6) rfl rfl) (wB_at hP.r hK) hl.1 rfl (Nat.le_of_ble_eq_true rfl) d_La_law_659 ?_
              refine lv_iload hx hb d_La_law_662 (lv_at hl 0 rfl) ?_
              refine lv_icmp_eq (tgt := 669) hx hb d_La_law_664 (by decide) (fun h => ?_) (fun h => ?_)
              · skip
                refine lv_goto (tgt := 1215) hx hb d_La_law_669 (by decide) ?_
                exact hnext ki co pr pa tw nv sv pn pl po (upd pf k1.toNatClampNeg (vp_nar .boolean 1)) (upd pt k1.toNatClampNeg (vp_nar .boolean 1)) ru le li bn ip aw ns ch ma br tl ou mki msz mle mel mme mal mic mil mio (upd mab k1.toNatClampNeg (vp_nar .boolean 1)) (upd mae k1.toNatClampNeg (vp_nar .boolean 1)) msa mlc mli mna mva mma mch mre mlv mwr msh 0 mnv mns mfa mmo ls H locs vc (lv_sub hl [5, 4, 3, 2, 1] rfl) hP hD hS
              · exact absurd h (by decide)
