/-! ===== a pair is judged ===== -/
def Wst (G : Sp) (R : Nat → Nat → Prop) (lv : Nat → Nat) (s v d : Nat) (A : Nat → Nat → Prop) (B M : Nat → Prop) (ch ma : Nat → Int32) (br : Nat → Int64) (tl : Int32) (f g : Nat → Int32) (h : Nat → Int64) (u : Int32) : Prop :=
  tl = 0 → R s v → Jinv G R lv (mu lv s v) ch ma br → JZero ch ma br s v → (u = 1 ∧ Path G (32 - d) s v) ∨ (u = 0 ∧ St G R lv s v d A B M f g h ∧ Fr lv s v ch ma br f g h)
theorem Wst.start {G : Sp} {R : Nat → Nat → Prop} {lv : Nat → Nat} {s v d : Nat} {ch ma : Nat → Int32} {br : Nat → Int64} {tl : Int32} (hs : s < 24) (hd : d ≤ 30) : Wst G R lv s v d (fun _ _ => False) (fun _ => False) (fun _ => False) ch ma br tl (upd ch (v * 24 + s) 1) ma br tl := by
  intro ht hR hj hz
  have hn : ¬ upd ch (v * 24 + s) 1 (v * 24 + s) = 0 := by rw [upd_at]; decide
  refine Or.inr ⟨ht, ⟨Jinv.own hs hj (fun q hq => ⟨upd_ne hq, rfl, rfl⟩) hn, ⟨1, by rw [upd_at]; rfl, Nat.le_refl _, by omega, fun j hj1 => ⟨fun q => Or.inl (by omega), fun q => q.elim (fun q => by omega) (fun ⟨_, _, q, _⟩ => q.elim)⟩⟩, fun _ _ q => q.elim, fun k hk => ?_, fun i hi => ?_⟩, Fr.own hs (fun q hq => ⟨upd_ne hq, rfl, rfl⟩)⟩
  · rw [hz.2.2, bL_0]; simp
  · rw [hz.2.1, b_0]; simp
theorem Wst.next {G : Sp} {R : Nat → Nat → Prop} {lv : Nat → Nat} {s v d : Nat} {A A' : Nat → Nat → Prop} {B M B' M' : Nat → Prop} {Z : Prop} {ch ma f g f' g' : Nat → Int32} {br h h' : Nat → Int64} {tl u u' : Int32} (hw : Wst G R lv s v d A B M ch ma br tl f g h u) (hm : u = 1 → u' = 1) (he : St G R lv s v d A B M f g h → Ef G R lv s v d A' B' M' Z f g h u f' g' h' u') : Wst G R lv s v d (fun x w => A x w ∨ A' x w) (fun b => B b ∨ B' b) (fun i => M i ∨ M' i) ch ma br tl f' g' h' u' := by
  intro ht hR hj hz
  rcases hw ht hR hj hz with ⟨q1, q2⟩ | ⟨q1, q2, q3⟩
  · exact Or.inl ⟨hm q1, q2⟩
  · rcases (he q2).2 q1 hR A B M q2 with p | ⟨p1, p2, p3, _⟩
    · exact Or.inl p
    · exact Or.inr ⟨p1, p2, q3.trans p3⟩
theorem Wst.congr {G : Sp} {R : Nat → Nat → Prop} {lv : Nat → Nat} {s v d : Nat} {A A' : Nat → Nat → Prop} {B M B' M' : Nat → Prop} {ch ma f g : Nat → Int32} {br h : Nat → Int64} {tl u : Int32} (hw : Wst G R lv s v d A B M ch ma br tl f g h u) (hA : ∀ x w, A x w ↔ A' x w) (hB : ∀ b, B b ↔ B' b) (hM : ∀ i, M i ↔ M' i) : Wst G R lv s v d A' B' M' ch ma br tl f g h u := by
  intro ht hR hj hz
  rcases hw ht hR hj hz with q | ⟨q1, q2, q3⟩
  · exact Or.inl q
  · exact Or.inr ⟨q1, q2.congr hA hB hM, q3⟩
theorem Wst.done {G : Sp} {R : Nat → Nat → Prop} {lv : Nat → Nat} {s v d : Nat} {B : Nat → Prop} {ch ma f g : Nat → Int32} {br h : Nat → Int64} {tl u : Int32} (hC : Ctx G R lv) (hd : 1 ≤ d) (hB : ∀ b, B b ↔ b < 36 ∧ Bad G s v b) (hu : tl = 1 → u = 1) (hw : Wst G R lv s v d (Ask G s v) B (Mrk1 G s v) ch ma br tl f g h u) : Wd G R lv s v d ch ma br tl f (if h (v * 24 + s) = 0 then g else upd g (v * 24 + s) 0) h u := by
  refine ⟨hu, fun ht hR hj hz _ => ?_⟩
  rcases hw ht hR hj hz with q | ⟨q1, q2, q3⟩
  · exact Or.inl q
  · obtain ⟨r1, r2⟩ := St.done hC hR hd hB q2
    obtain ⟨hs, _⟩ := hC.2.2.1 s v hR
    refine Or.inr ⟨q1, r1, r2, ?_⟩
    by_cases e : h (v * 24 + s) = 0
    · rw [if_pos e]; exact q3
    · rw [if_neg e]; exact q3.trans (Fr.own hs (fun q hq => ⟨rfl, upd_ne hq, rfl⟩))
def WG (K : Sp → Prop) (s v d : Nat) (A : Sp → Nat → Nat → Prop) (B M : Sp → Nat → Prop) (ch ma : Nat → Int32) (br : Nat → Int64) (tl : Int32) (f g : Nat → Int32) (h : Nat → Int64) (u : Int32) : Prop :=
  (u = 0 ∨ u = 1) ∧ (tl = 1 → u = 1) ∧ ∀ (G : Sp) (R : Nat → Nat → Prop) (lv : Nat → Nat), K G → Ctx G R lv → Wst G R lv s v d (A G) (B G) (M G) ch ma br tl f g h u
theorem WG.next {K : Sp → Prop} {s v d : Nat} {A A' A2 : Sp → Nat → Nat → Prop} {B M B' M' B2 M2 : Sp → Nat → Prop} {Z : Sp → Prop} {ch ma f g f' g' : Nat → Int32} {br h h' : Nat → Int64} {tl u u' : Int32} (hw : WG K s v d A B M ch ma br tl f g h u) (h0 : u' = 0 ∨ u' = 1) (hm : u = 1 → u' = 1) (he : ∀ (G : Sp) (R : Nat → Nat → Prop) (lv : Nat → Nat), K G → Ctx G R lv → St G R lv s v d (A G) (B G) (M G) f g h → Ef G R lv s v d (A' G) (B' G) (M' G) (Z G) f g h u f' g' h' u') (hc : ∀ G, K G → (∀ x w, (A G x w ∨ A' G x w) ↔ A2 G x w) ∧ (∀ b, (B G b ∨ B' G b) ↔ B2 G b) ∧ (∀ i, (M G i ∨ M' G i) ↔ M2 G i)) : WG K s v d A2 B2 M2 ch ma br tl f' g' h' u' :=
  ⟨h0, fun q => hm (hw.2.1 q), fun G R lv hK hC => ((hw.2.2 G R lv hK hC).next hm (he G R lv hK hC)).congr (hc G hK).1 (hc G hK).2.1 (hc G hK).2.2⟩
theorem WG.same {K : Sp → Prop} {s v d : Nat} {A A2 : Sp → Nat → Nat → Prop} {B M B2 M2 : Sp → Nat → Prop} {ch ma f g : Nat → Int32} {br h : Nat → Int64} {tl u : Int32} (hw : WG K s v d A B M ch ma br tl f g h u) (hc : ∀ G, K G → (∀ x w, A G x w ↔ A2 G x w) ∧ (∀ b, B G b ↔ B2 G b) ∧ (∀ i, M G i ↔ M2 G i)) : WG K s v d A2 B2 M2 ch ma br tl f g h u :=
  ⟨hw.1, hw.2.1, fun G R lv hK hC => (hw.2.2 G R lv hK hC).congr (hc G hK).1 (hc G hK).2.1 (hc G hK).2.2⟩
theorem Bad_36 {G : Sp} {s v b : Nat} (h : Bad G s v b) : b < 36 := by
  have hS : ∀ k, k < 36 → BadS G s v k b → b < 36 := fun k hk q => by rw [q.1]; exact hk
  have hL : ∀ k, k < 3 → BadL G s v k b → b < 36 := fun k hk q => by rw [q.1]; omega
  rcases h with h | h | ⟨_, h⟩ | ⟨_, h⟩
  · have := h.1; omega
  · rcases h with h | h | h | h | h | h | h
    · rw [h.1]; decide
    · exact hS 19 (by decide) h.2
    · exact hS 20 (by decide) h.2
    · exact hS 21 (by decide) h
    · exact hL 0 (by decide) h
    · exact hL 1 (by decide) h
    · exact hL 2 (by decide) h
  · rcases h with ⟨i, _, _, h⟩ | h | h
    · rcases h with h | h <;> (rw [h.1]; decide)
    · rcases h.2 with h | h <;> (rw [h.1]; decide)
    · rw [h.1]; decide
  · rcases h with ⟨i, _, _, h⟩ | h
    · rcases h with h | h | h | h <;> (rw [h.1]; decide)
    · rw [h.1]; decide
def V_Ju_weigh (z : Nat) (ch : Nat → Int32) (ma : Nat → Int32) (br : Nat → Int64) (tl : Int32) (ki : Nat → Int32) (co : Nat → Int64) (pr : Nat → Int32) (pa : Nat → Int32) (tw : Nat → Int32) (nv : Int32) (sv : Int32) (ru : Nat → Int32) (le : Nat → Int32) (li : Nat → Int32) (bn : Nat → Int32) (ip : Nat → Int32) (aw : Nat → Int32) (ns : Int32) (pn : Nat → Int32) (pl : Nat → Int32) (po : Nat → Int32) (pf : Nat → Int32) (pt : Nat → Int32) (xs : Int32) (xv : Int32) (xd : Int32) (post : (Nat → Int32) → (Nat → Int32) → (Nat → Int64) → Int32 → (Nat → Int32) → (Nat → Int64) → (Nat → Int32) → (Nat → Int32) → (Nat → Int32) → Int32 → Int32 → (Nat → Int32) → (Nat → Int32) → (Nat → Int32) → (Nat → Int32) → (Nat → Int32) → (Nat → Int32) → Int32 → (Nat → Int32) → (Nat → Int32) → (Nat → Int32) → (Nat → Int32) → (Nat → Int32) → Prop) : Prop :=
  (vp_in (xv * 24 + xs) 960 ∧ (∃ (I5 : Int32 → (Nat → Int64) → Prop) (mI5 : Int32 → (Nat → Int64) → Nat), I5 0 br ∧ (∀ (x3 : Int32) (f4 : Nat → Int64), I5 x3 f4 → ((16 < x3 → ((∃ n0 m0 s0 v0 d0 : Nat, JP ki co pr pa pn po ru le li bn nv ns tl z xs xv xd n0 m0 s0 v0 d0) ∧ (∀ (f6 : Nat → Int32) (f7 : Nat → Int32) (f8 : Nat → Int64) (u9 : Int32), (((u9 = 0 ∨ u9 = 1) ∧ (tl = 1 → u9 = 1) ∧ ∀ (G : Sp) (R : Nat → Nat → Prop) (lv : Nat → Nat), (∃ va mk, G = gC ki co pr pa tw pn pl po pf pt ru le li bn nv.toNatClampNeg va mk) → Ctx G R lv → Ef G R lv xs.toNatClampNeg xv.toNatClampNeg xd.toNatClampNeg (AskIn G xs.toNatClampNeg xv.toNatClampNeg) (BadIn G xs.toNatClampNeg xv.toNatClampNeg) (MrkIn G xs.toNatClampNeg xv.toNatClampNeg) True (upd ch (xv * 24 + xs : Int32).toNatClampNeg 1) ma f4 tl f6 f7 f8 u9)) → (vp_in xv 40 ∧ (∃ J10 : (Nat → Int32) → (Nat → Int32) → (Nat → Int64) → Int32 → Prop, ((¬ (ki xv.toNatClampNeg) = 4 → J10 f6 f7 f8 u9) ∧ ((ki xv.toNatClampNeg) = 4 → ((∃ n0 m0 s0 v0 d0 : Nat, JP ki co pr pa pn po ru le li bn nv ns u9 z xs xv xd n0 m0 s0 v0 d0 ∧ ki v0 = 4) ∧ (∀ (f11 : Nat → Int32) (f12 : Nat → Int32) (f13 : Nat → Int64) (u14 : Int32), (((u14 = 0 ∨ u14 = 1) ∧ (u9 = 1 → u14 = 1) ∧ ∀ (G : Sp) (R : Nat → Nat → Prop) (lv : Nat → Nat), (∃ va mk, G = gC ki co pr pa tw pn pl po pf pt ru le li bn nv.toNatClampNeg va mk) → Ctx G R lv → Ef G R lv xs.toNatClampNeg xv.toNatClampNeg xd.toNatClampNeg (AskEl G xs.toNatClampNeg xv.toNatClampNeg) (BadEl G xs.toNatClampNeg xv.toNatClampNeg) (MrkEl G xs.toNatClampNeg xv.toNatClampNeg) True f6 f7 f8 u9 f11 f12 f13 u14)) → ((∃ n0 m0 s0 v0 d0 : Nat, JP ki co pr pa pn po ru le li bn nv ns u14 z xs xv xd n0 m0 s0 v0 d0 ∧ ki v0 = 4) ∧ (∀ (f15 : Nat → Int32) (f16 : Nat → Int32) (f17 : Nat → Int64) (u18 : Int32), (((u18 = 0 ∨ u18 = 1) ∧ (u14 = 1 → u18 = 1) ∧ ∀ (G : Sp) (R : Nat → Nat → Prop) (lv : Nat → Nat), (∃ va mk, G = gC ki co pr pa tw pn pl po pf pt ru le li bn nv.toNatClampNeg va mk) → Ctx G R lv → Ef G R lv xs.toNatClampNeg xv.toNatClampNeg xd.toNatClampNeg (AskCo G xs.toNatClampNeg xv.toNatClampNeg) (BadCo G xs.toNatClampNeg xv.toNatClampNeg) (MrkCo G xs.toNatClampNeg xv.toNatClampNeg) True f11 f12 f13 u14 f15 f16 f17 u18)) → ((∃ n0 m0 s0 v0 d0 : Nat, JP ki co pr pa pn po ru le li bn nv ns u18 z xs xv xd n0 m0 s0 v0 d0 ∧ ∃ k0 : Nat, (k0 = 27 ∨ k0 = 28) ∧ 28 = nI k0 ∧ (ki v0 = 4 ∨ ki v0 = 5)) ∧ (∀ (f19 : Nat → Int32) (f20 : Nat → Int32) (f21 : Nat → Int64) (u22 : Int32), (((u22 = 0 ∨ u22 = 1) ∧ (u18 = 1 → u22 = 1) ∧ ∀ (G : Sp) (R : Nat → Nat → Prop) (lv : Nat → Nat), (∃ va mk, G = gC ki co pr pa tw pn pl po pf pt ru le li bn nv.toNatClampNeg va mk) → Ctx G R lv → (∀ i, i < 32 → (bt (f16 (xv.toNatClampNeg * 24 + xs.toNatClampNeg)) i = true ↔ Mrk0 G xs.toNatClampNeg xv.toNatClampNeg i)) → (∀ x w, AskUn G xs.toNatClampNeg xv.toNatClampNeg (28 : Int32).toNatClampNeg x w → Ask G xs.toNatClampNeg xv.toNatClampNeg x w) → Ef G R lv xs.toNatClampNeg xv.toNatClampNeg xd.toNatClampNeg (AskUn G xs.toNatClampNeg xv.toNatClampNeg (28 : Int32).toNatClampNeg) (BadUn G xs.toNatClampNeg xv.toNatClampNeg (28 : Int32).toNatClampNeg) (MrkUn G xs.toNatClampNeg xv.toNatClampNeg (28 : Int32).toNatClampNeg) True f15 f16 f17 u18 f19 f20 f21 u22)) → J10 f19 f20 f21 u22)))))))) ∧ (∀ (f23 : Nat → Int32) (f24 : Nat → Int32) (f25 : Nat → Int64) (u26 : Int32), J10 f23 f24 f25 u26 → (vp_in xv 40 ∧ (∃ J27 : (Nat → Int32) → (Nat → Int32) → (Nat → Int64) → Int32 → Prop, ((¬ (ki xv.toNatClampNeg) = 5 → J27 f23 f24 f25 u26) ∧ ((ki xv.toNatClampNeg) = 5 → ((∃ n0 m0 s0 v0 d0 : Nat, JP ki co pr pa pn po ru le li bn nv ns u26 z xs xv xd n0 m0 s0 v0 d0 ∧ ki v0 = 5) ∧ (∀ (f28 : Nat → Int32) (f29 : Nat → Int32) (f30 : Nat → Int64) (u31 : Int32), (((u31 = 0 ∨ u31 = 1) ∧ (u26 = 1 → u31 = 1) ∧ ∀ (G : Sp) (R : Nat → Nat → Prop) (lv : Nat → Nat), (∃ va mk, G = gC ki co pr pa tw pn pl po pf pt ru le li bn nv.toNatClampNeg va mk) → Ctx G R lv → Ef G R lv xs.toNatClampNeg xv.toNatClampNeg xd.toNatClampNeg (AskMe G xs.toNatClampNeg xv.toNatClampNeg) (BadMe G xs.toNatClampNeg xv.toNatClampNeg) (MrkMe G xs.toNatClampNeg xv.toNatClampNeg) True f23 f24 f25 u26 f28 f29 f30 u31)) → ((∃ n0 m0 s0 v0 d0 : Nat, JP ki co pr pa pn po ru le li bn nv ns u31 z xs xv xd n0 m0 s0 v0 d0 ∧ ∃ k0 : Nat, (k0 = 27 ∨ k0 = 28) ∧ 27 = nI k0 ∧ (ki v0 = 4 ∨ ki v0 = 5)) ∧ (∀ (f32 : Nat → Int32) (f33 : Nat → Int32) (f34 : Nat → Int64) (u35 : Int32), (((u35 = 0 ∨ u35 = 1) ∧ (u31 = 1 → u35 = 1) ∧ ∀ (G : Sp) (R : Nat → Nat → Prop) (lv : Nat → Nat), (∃ va mk, G = gC ki co pr pa tw pn pl po pf pt ru le li bn nv.toNatClampNeg va mk) → Ctx G R lv → (∀ i, i < 32 → (bt (f29 (xv.toNatClampNeg * 24 + xs.toNatClampNeg)) i = true ↔ Mrk0 G xs.toNatClampNeg xv.toNatClampNeg i)) → (∀ x w, AskUn G xs.toNatClampNeg xv.toNatClampNeg (27 : Int32).toNatClampNeg x w → Ask G xs.toNatClampNeg xv.toNatClampNeg x w) → Ef G R lv xs.toNatClampNeg xv.toNatClampNeg xd.toNatClampNeg (AskUn G xs.toNatClampNeg xv.toNatClampNeg (27 : Int32).toNatClampNeg) (BadUn G xs.toNatClampNeg xv.toNatClampNeg (27 : Int32).toNatClampNeg) (MrkUn G xs.toNatClampNeg xv.toNatClampNeg (27 : Int32).toNatClampNeg) True f28 f29 f30 u31 f32 f33 f34 u35)) → J27 f32 f33 f34 u35)))))) ∧ (∀ (f36 : Nat → Int32) (f37 : Nat → Int32) (f38 : Nat → Int64) (u39 : Int32), J27 f36 f37 f38 u39 → (vp_in (xv * 24 + xs) 960 ∧ (((lg_cmp (f38 (xv * 24 + xs : Int32).toNatClampNeg) 0) = 0 → post f36 f37 f38 u39 ki co pr pa tw nv sv ru le li bn ip aw ns pn pl po pf pt) ∧ (¬ (lg_cmp (f38 (xv * 24 + xs : Int32).toNatClampNeg) 0) = 0 → (vp_in (xv * 24 + xs) 960 ∧ post f36 (upd f37 (xv * 24 + xs : Int32).toNatClampNeg 0) f38 u39 ki co pr pa tw nv sv ru le li bn ip aw ns pn pl po pf pt))))))))))))) ∧ (¬ 16 < x3 → (vp_in (xs * 29 + x3) 696 ∧ (((ru (xs * 29 + x3 : Int32).toNatClampNeg) = (-1) → (I5 (x3 + 1) f4 ∧ mI5 (x3 + 1) f4 < mI5 x3 f4)) ∧ (¬ (ru (xs * 29 + x3 : Int32).toNatClampNeg) = (-1) → ((∃ n0 k0 q0 v0 : Nat, k0 < 17 ∧ v0 < n0 ∧ x3 = nI k0 ∧ ru (xs * 29 + x3 : Int32).toNatClampNeg = nI q0 ∧ xv = nI v0 ∧ (¬ (ru (xs * 29 + x3 : Int32).toNatClampNeg) < 0 ∧ okk ki co n0 k0 (ru (xs * 29 + x3 : Int32).toNatClampNeg) ∧ q0 < 2 ^ 31) ∧ VOK ki co pr pa n0 ∧ POK pn po) ∧ (∀ (t40 : Bool), ((t40 = true ↔ plS ki co (cpb ki pr) (cpt ki pr pa) tw pn pl po pf pt x3.toNatClampNeg xv.toNatClampNeg (ru (xs * 29 + x3 : Int32).toNatClampNeg))) → ((¬ (bI t40) = 0 → (I5 (x3 + 1) f4 ∧ mI5 (x3 + 1) f4 < mI5 x3 f4)) ∧ ((bI t40) = 0 → (vp_in (xv * 24 + xs) 960 ∧ (I5 (x3 + 1) (vp_updL f4 (xv * 24 + xs : Int32).toNatClampNeg ((f4 (xv * 24 + xs : Int32).toNatClampNeg) ||| (1 <<< (x3.toInt64 &&& 63)))) ∧ mI5 (x3 + 1) (vp_updL f4 (xv * 24 + xs : Int32).toNatClampNeg ((f4 (xv * 24 + xs : Int32).toNatClampNeg) ||| (1 <<< (x3.toInt64 &&& 63)))) < mI5 x3 f4))))))))))))))
set_option maxHeartbeats 4000000 in
set_option maxRecDepth 100000 in
theorem g_Ju_weigh {p : Program} {l : Launch} {e : Env} {R : Room} {s : State} {m : MethodId} {args : Array Value} {below : List Frame} {meth : Method} {c : Code} {H : Heap} {locs : List Loc} {cells slots : Nat} {Q : State → Prop} {ls : Array Slot} {A : Nat → Prop} {z : Nat} (S : CallFix p m c b_Ju_weigh 7 s args W0 R_Ju) (hRf : 5 * z + 14 ≤ R.frames) (hRl : 200 * z + 260 ≤ R.locals) (hRc : cells ≤ R.cells ∧ slots ≤ R.slots) (D : va_G) (a : Nat → Nat) (cI cJ cZ : ClassId) (HW : WQ l D a cI cJ cZ z) (ch : Nat → Int32) (ma : Nat → Int32) (br : Nat → Int64) (tl : Int32) (ki : Nat → Int32) (co : Nat → Int64) (pr : Nat → Int32) (pa : Nat → Int32) (tw : Nat → Int32) (nv : Int32) (sv : Int32) (ru : Nat → Int32) (le : Nat → Int32) (li : Nat → Int32) (bn : Nat → Int32) (ip : Nat → Int32) (aw : Nat → Int32) (ns : Int32) (pn : Nat → Int32) (pl : Nat → Int32) (po : Nat → Int32) (pf : Nat → Int32) (pt : Nat → Int32) (xs : Int32) (xv : Int32) (xd : Int32) (hK : va_K D vwCl (tyA cI cJ cZ) s) (hP : va_P D vwCl (wJ a cI cJ ch ma br tl ++ wV a cI cJ ki co pr pa tw nv sv ++ wS a cI ru le li bn ip aw ns ++ wL a ++ wP a cI cZ pn pl po pf pt) H) (hD : va_D A (wJ a cI cJ ch ma br tl ++ wV a cI cJ ki co pr pa tw nv sv ++ wS a cI ru le li bn ip aw ns ++ wL a ++ wP a cI cZ pn pl po pf pt)) (hA : ∀ q, s.heap.size ≤ q → A q) (hS : va_S A s.heap H locs) (hX : eX A s s.heap) (hl : lv_has ls 7 [(0, .ref (a 20)), (1, .int xs), (2, .int xv), (3, .int xd)]) {post : (Nat → Int32) → (Nat → Int32) → (Nat → Int64) → Int32 → (Nat → Int32) → (Nat → Int64) → (Nat → Int32) → (Nat → Int32) → (Nat → Int32) → Int32 → Int32 → (Nat → Int32) → (Nat → Int32) → (Nat → Int32) → (Nat → Int32) → (Nat → Int32) → (Nat → Int32) → Int32 → (Nat → Int32) → (Nat → Int32) → (Nat → Int32) → (Nat → Int32) → (Nat → Int32) → Prop} (vc : V_Ju_weigh z ch ma br tl ki co pr pa tw nv sv ru le li bn ip aw ns pn pl po pf pt xs xv xd post)
    (hret : ∀ (ch : Nat → Int32) (ma : Nat → Int32) (br : Nat → Int64) (tl : Int32) (ki : Nat → Int32) (co : Nat → Int64) (pr : Nat → Int32) (pa : Nat → Int32) (tw : Nat → Int32) (nv : Int32) (sv : Int32) (ru : Nat → Int32) (le : Nat → Int32) (li : Nat → Int32) (bn : Nat → Int32) (ip : Nat → Int32) (aw : Nat → Int32) (ns : Int32) (pn : Nat → Int32) (pl : Nat → Int32) (po : Nat → Int32) (pf : Nat → Int32) (pt : Nat → Int32) (ls : Array Slot) (pc : Nat) (H : Heap) (locs : List Loc), decode b_Ju_weigh pc = .ok (.return_, 1) → post ch ma br tl ki co pr pa tw nv sv ru le li bn ip aw ns pn pl po pf pt → va_P D vwCl (wJ a cI cJ ch ma br tl ++ wV a cI cJ ki co pr pa tw nv sv ++ wS a cI ru le li bn ip aw ns ++ wL a ++ wP a cI cZ pn pl po pf pt) H → va_D A (wJ a cI cJ ch ma br tl ++ wV a cI cJ ki co pr pa tw nv sv ++ wS a cI ru le li bn ip aw ns ++ wL a ++ wP a cI cZ pn pl po pf pt) → va_S A s.heap H locs → W p l e R s m args below meth c H locs cells slots Q (F0 m pc ls [])) : W p l e R s m args below meth c H locs cells slots Q (F0 m 0 ls []) := by
  have hx := S.1
  have hb := S.2.1
  have hown := S.2.2.2.1
  have hts := S.2.2.2.2
  unfold V_Ju_weigh at vc
  refine lv_iload_n hx hb d_Ju_weigh_0 rfl (lv_at hl 1 rfl) ?_
  refine lv_iload_n hx hb d_Ju_weigh_1 rfl (lv_at hl 2 rfl) ?_
  refine pc_S (As := [.int xs, .int xv]) (rest := []) S (c_Ju_pairOf l xs xv) wT_blind k_Ju_pairOf s_Ju_pairOf o_Ju ml_Ju_59 hd_Ju_pairOf (Nat.le_trans (by omega) hRf) (Nat.le_trans (by omega) hRl) hRc (fun _ _ _ => trivial) hl.1 rfl (Nat.le_of_ble_eq_true rfl) d_Ju_weigh_2 ?_
  refine lv_istore hx hb d_Ju_weigh_5 hl (by decide) (lv' := [(4, .int (xv * 24 + xs)), (0, .ref (a 20)), (1, .int xs), (2, .int xv), (3, .int xd)]) rfl (fun ls hl => ?_)
  refine lv_aload_n hx hb d_Ju_weigh_7 rfl (lv_at hl 1 rfl) ?_
  refine va_get (D := D) (ci := 0) (v := .ref (a 21)) (C := R_Ju) (T := F_Ju) (N := 7) hx hb hts in_Ju hown hK hP 0 rfl rfl 3 (by decide) (hts _ fl_Ju_25) (fun _ h => h) rfl d_Ju_weigh_8 ?_
  refine lv_iload hx hb d_Ju_weigh_11 (lv_at hl 0 rfl) ?_
  refine lv_iconst (v := 1) hx hb d_Ju_weigh_13 (by decide) ?_
  obtain ⟨vcb, vc⟩ := vc
  refine va_iast hx hb hK hP hD hS 1 0 rfl rfl vcb d_Ju_weigh_14 (fun H locs hP hD hS => ?_)
  have hP : va_P D vwCl (wJ a cI cJ (upd ch (xv * 24 + xs : Int32).toNatClampNeg 1) ma br tl ++ wV a cI cJ ki co pr pa tw nv sv ++ wS a cI ru le li bn ip aw ns ++ wL a ++ wP a cI cZ pn pl po pf pt) H := hP
  have hD : va_D A (wJ a cI cJ (upd ch (xv * 24 + xs : Int32).toNatClampNeg 1) ma br tl ++ wV a cI cJ ki co pr pa tw nv sv ++ wS a cI ru le li bn ip aw ns ++ wL a ++ wP a cI cZ pn pl po pf pt) := hD
  refine lv_iconst (v := 0) hx hb d_Ju_weigh_15 (by decide) ?_
  refine lv_istore hx hb d_Ju_weigh_16 hl (by decide) (lv' := [(5, .int 0), (4, .int (xv * 24 + xs)), (0, .ref (a 20)), (1, .int xs), (2, .int xv), (3, .int xd)]) rfl (fun ls hl => ?_)
  obtain ⟨I5, mI5, vc0, vcs⟩ := vc
  have lI5 : ∀ n : Nat, ∀ (x3 : Int32) (f4 : Nat → Int64) (ls : Array Slot) (H : Heap) (locs : List Loc), I5 x3 f4 → mI5 x3 f4 < n → lv_has ls 7 [(0, .ref (a 20)), (1, .int xs), (2, .int xv), (3, .int xd), (4, .int (xv * 24 + xs)), (5, .int x3)] → va_P D vwCl (wJ a cI cJ (upd ch (xv * 24 + xs : Int32).toNatClampNeg 1) ma f4 tl ++ wV a cI cJ ki co pr pa tw nv sv ++ wS a cI ru le li bn ip aw ns ++ wL a ++ wP a cI cZ pn pl po pf pt) H → va_D A (wJ a cI cJ (upd ch (xv * 24 + xs : Int32).toNatClampNeg 1) ma f4 tl ++ wV a cI cJ ki co pr pa tw nv sv ++ wS a cI ru le li bn ip aw ns ++ wL a ++ wP a cI cZ pn pl po pf pt) → va_S A s.heap H locs → W p l e R s m args below meth c H locs cells slots Q (F0 m 18 ls []) := by
    intro n
    induction n with
    | zero => intro x3 f4 ls H locs _ h; exact absurd h (Nat.not_lt_zero _)
    | succ n ihI5 =>
      intro x3 f4 ls H locs vc hmI5 hl hP hD hS
      have vc := vcs x3 f4 vc
      refine lv_iload hx hb d_Ju_weigh_18 (lv_at hl 5 rfl) ?_
      refine lv_bipush (v := 16) hx hb d_Ju_weigh_20 (by decide) ?_
      refine lv_icmp_gt (tgt := 72) hx hb d_Ju_weigh_22 (by decide) (fun h => ?_) (fun h => ?_)
      · have vc := vc.1 h
        refine lv_aload_n hx hb d_Ju_weigh_72 rfl (lv_at hl 0 rfl) ?_
        refine lv_iload_n hx hb d_Ju_weigh_73 rfl (lv_at hl 1 rfl) ?_
        refine lv_iload_n hx hb d_Ju_weigh_74 rfl (lv_at hl 2 rfl) ?_
        refine lv_iload_n hx hb d_Ju_weigh_75 rfl (lv_at hl 3 rfl) ?_
        obtain ⟨hpre, vc⟩ := vc
        refine ec_V (As := [.int xs, .int xv, .int xd]) (rest := []) (wr := ([] : va_W)) S (c_Ju_weighInPlace l D a cI cJ cZ z HW (upd ch (xv * 24 + xs : Int32).toNatClampNeg 1) ma f4 tl ki co pr pa tw nv sv ru le li bn ip aw ns pn pl po pf pt xs xv xd hpre) k_Ju_weighInPlace i_Ju_weighInPlace e_Ju_weighInPlace o_Ju ml_Ju_90 hd_Ju_weighInPlace (Nat.le_trans (by omega) hRf) (Nat.le_trans (by omega) hRl) hRc (va_recv hK hP (q0 := 0) (ci := 0) rfl rfl) hK hP hD hS hA hX [0, 1, 2, 3, 4, 5, 6, 7, 8, 9, 10, 11, 12, 13, 14, 15, 16, 17, 18, 19, 20, 21, 22, 23] [] rfl rfl rfl (by decide) (by decide) (by decide) hl.1 rfl (Nat.le_of_ble_eq_true rfl) d_Ju_weigh_76 (fun u H locs hu hP hD hS => ?_)
        obtain ⟨f6, f7, f8, u9⟩ := u
        have vc := vc f6 f7 f8 u9 hu
        clear hu
        have hP : va_P D vwCl (wJ a cI cJ f6 f7 f8 u9 ++ wV a cI cJ ki co pr pa tw nv sv ++ wS a cI ru le li bn ip aw ns ++ wL a ++ wP a cI cZ pn pl po pf pt) H := hP
        have hD : va_D A (wJ a cI cJ f6 f7 f8 u9 ++ wV a cI cJ ki co pr pa tw nv sv ++ wS a cI ru le li bn ip aw ns ++ wL a ++ wP a cI cZ pn pl po pf pt) := hD
        refine lv_aload_n hx hb d_Ju_weigh_79 rfl (lv_at hl 0 rfl) ?_
        refine va_get (D := D) (ci := 0) (v := .ref (a 0)) (C := R_Ju) (T := F_Ju) (N := 7) hx hb hts in_Ju hown hK hP 0 rfl rfl 0 (by decide) (hts _ fl_Ju_11) (fun _ h => h) rfl d_Ju_weigh_80 ?_
        refine lv_iload_n hx hb d_Ju_weigh_83 rfl (lv_at hl 2 rfl) ?_
        obtain ⟨hpre, vc⟩ := vc
        refine pc_V (As := [.int xv]) (rest := []) S (c_Va_kindOf l D a cI cJ cZ ki co pr pa tw nv sv xv hpre) wB_blind k_Va_kindOf i_Va_kindOf e_Va_kindOf o_Va ml_Ju_93 hd_Va_kindOf (Nat.le_trans (by omega) hRf) (Nat.le_trans (by omega) hRl) hRc (va_recv hK hP (q0 := 4) (ci := 4) rfl rfl) (wB_at (hP.sub (ws' := (wV a cI cJ ki co pr pa tw nv sv)) [4, 5, 6, 7, 8, 9] rfl) hK) hl.1 rfl (Nat.le_of_ble_eq_true rfl) d_Ju_weigh_84 ?_
        refine lv_iconst (v := 4) hx hb d_Ju_weigh_87 (by decide) ?_
        obtain ⟨J10, vc, vc2⟩ := vc
        have jJ10 : ∀ (f23 : Nat → Int32) (f24 : Nat → Int32) (f25 : Nat → Int64) (u26 : Int32) (ls : Array Slot) (H : Heap) (locs : List Loc), J10 f23 f24 f25 u26 → lv_has ls 7 [(0, .ref (a 20)), (1, .int xs), (2, .int xv), (3, .int xd), (4, .int (xv * 24 + xs)), (5, .int x3)] → va_P D vwCl (wJ a cI cJ f23 f24 f25 u26 ++ wV a cI cJ ki co pr pa tw nv sv ++ wS a cI ru le li bn ip aw ns ++ wL a ++ wP a cI cZ pn pl po pf pt) H → va_D A (wJ a cI cJ f23 f24 f25 u26 ++ wV a cI cJ ki co pr pa tw nv sv ++ wS a cI ru le li bn ip aw ns ++ wL a ++ wP a cI cZ pn pl po pf pt) → va_S A s.heap H locs → W p l e R s m args below meth c H locs cells slots Q (F0 m 114 ls []) := by
          intro f23 f24 f25 u26 ls H locs vc hl hP hD hS
          have vc := vc2 f23 f24 f25 u26 vc
          refine lv_aload_n hx hb d_Ju_weigh_114 rfl (lv_at hl 0 rfl) ?_
          refine va_get (D := D) (ci := 0) (v := .ref (a 0)) (C := R_Ju) (T := F_Ju) (N := 7) hx hb hts in_Ju hown hK hP 0 rfl rfl 0 (by decide) (hts _ fl_Ju_11) (fun _ h => h) rfl d_Ju_weigh_115 ?_
          refine lv_iload_n hx hb d_Ju_weigh_118 rfl (lv_at hl 2 rfl) ?_
          obtain ⟨hpre, vc⟩ := vc
          refine pc_V (As := [.int xv]) (rest := []) S (c_Va_kindOf l D a cI cJ cZ ki co pr pa tw nv sv xv hpre) wB_blind k_Va_kindOf i_Va_kindOf e_Va_kindOf o_Va ml_Ju_93 hd_Va_kindOf (Nat.le_trans (by omega) hRf) (Nat.le_trans (by omega) hRl) hRc (va_recv hK hP (q0 := 4) (ci := 4) rfl rfl) (wB_at (hP.sub (ws' := (wV a cI cJ ki co pr pa tw nv sv)) [4, 5, 6, 7, 8, 9] rfl) hK) hl.1 rfl (Nat.le_of_ble_eq_true rfl) d_Ju_weigh_119 ?_
          refine lv_iconst (v := 5) hx hb d_Ju_weigh_122 (by decide) ?_
          obtain ⟨J27, vc, vc2⟩ := vc
          have jJ27 : ∀ (f36 : Nat → Int32) (f37 : Nat → Int32) (f38 : Nat → Int64) (u39 : Int32) (ls : Array Slot) (H : Heap) (locs : List Loc), J27 f36 f37 f38 u39 → lv_has ls 7 [(0, .ref (a 20)), (1, .int xs), (2, .int xv), (3, .int xd), (4, .int (xv * 24 + xs)), (5, .int x3)] → va_P D vwCl (wJ a cI cJ f36 f37 f38 u39 ++ wV a cI cJ ki co pr pa tw nv sv ++ wS a cI ru le li bn ip aw ns ++ wL a ++ wP a cI cZ pn pl po pf pt) H → va_D A (wJ a cI cJ f36 f37 f38 u39 ++ wV a cI cJ ki co pr pa tw nv sv ++ wS a cI ru le li bn ip aw ns ++ wL a ++ wP a cI cZ pn pl po pf pt) → va_S A s.heap H locs → W p l e R s m args below meth c H locs cells slots Q (F0 m 142 ls []) := by
            intro f36 f37 f38 u39 ls H locs vc hl hP hD hS
            have vc := vc2 f36 f37 f38 u39 vc
            refine lv_aload_n hx hb d_Ju_weigh_142 rfl (lv_at hl 0 rfl) ?_
            refine va_get (D := D) (ci := 0) (v := .ref (a 23)) (C := R_Ju) (T := F_Ju) (N := 7) hx hb hts in_Ju hown hK hP 0 rfl rfl 5 (by decide) (hts _ fl_Ju_32) (fun _ h => h) rfl d_Ju_weigh_143 ?_
            refine lv_iload hx hb d_Ju_weigh_146 (lv_at hl 4 rfl) ?_
            obtain ⟨vcb, vc⟩ := vc
            refine va_lald hx hb hK hP 3 1 rfl rfl vcb d_Ju_weigh_148 ?_
            refine lv_lconst (v := 0) hx hb d_Ju_weigh_149 (by decide) ?_
            refine W.lcmp hx hb d_Ju_weigh_150 ?_
            refine lv_if_eq (tgt := 162) hx hb d_Ju_weigh_151 (by decide) (fun h => ?_) (fun h => ?_)
            · have vc := vc.1 h
              exact hret _ _ _ _ _ _ _ _ _ _ _ _ _ _ _ _ _ _ _ _ _ _ _ ls _ H locs d_Ju_weigh_162 vc hP hD hS
            · have vc := vc.2 h
              refine lv_aload_n hx hb d_Ju_weigh_154 rfl (lv_at hl 0 rfl) ?_
              refine va_get (D := D) (ci := 0) (v := .ref (a 22)) (C := R_Ju) (T := F_Ju) (N := 7) hx hb hts in_Ju hown hK hP 0 rfl rfl 4 (by decide) (hts _ fl_Ju_29) (fun _ h => h) rfl d_Ju_weigh_155 ?_
              refine lv_iload hx hb d_Ju_weigh_158 (lv_at hl 4 rfl) ?_
              refine lv_iconst (v := 0) hx hb d_Ju_weigh_160 (by decide) ?_
              obtain ⟨vcb, vc⟩ := vc
              refine va_iast hx hb hK hP hD hS 2 0 rfl rfl vcb d_Ju_weigh_161 (fun H locs hP hD hS => ?_)
              have hP : va_P D vwCl (wJ a cI cJ f36 (upd f37 (xv * 24 + xs : Int32).toNatClampNeg 0) f38 u39 ++ wV a cI cJ ki co pr pa tw nv sv ++ wS a cI ru le li bn ip aw ns ++ wL a ++ wP a cI cZ pn pl po pf pt) H := hP
              have hD : va_D A (wJ a cI cJ f36 (upd f37 (xv * 24 + xs : Int32).toNatClampNeg 0) f38 u39 ++ wV a cI cJ ki co pr pa tw nv sv ++ wS a cI ru le li bn ip aw ns ++ wL a ++ wP a cI cZ pn pl po pf pt) := hD
              exact hret _ _ _ _ _ _ _ _ _ _ _ _ _ _ _ _ _ _ _ _ _ _ _ ls _ H locs d_Ju_weigh_162 vc hP hD hS
          clear vc2
          refine lv_icmp_ne (tgt := 142) hx hb d_Ju_weigh_123 (by decide) (fun h => ?_) (fun h => ?_)
          · have vc := vc.1 h
            exact jJ27 f23 f24 f25 u26 ls H locs vc (lv_sub hl [0, 1, 2, 3, 4, 5] rfl) hP hD hS
          · have vc := vc.2 h
            refine lv_aload_n hx hb d_Ju_weigh_126 rfl (lv_at hl 0 rfl) ?_
            refine lv_iload_n hx hb d_Ju_weigh_127 rfl (lv_at hl 1 rfl) ?_
            refine lv_iload_n hx hb d_Ju_weigh_128 rfl (lv_at hl 2 rfl) ?_
            refine lv_iload_n hx hb d_Ju_weigh_129 rfl (lv_at hl 3 rfl) ?_
            obtain ⟨hpre, vc⟩ := vc
            refine ec_V (As := [.int xs, .int xv, .int xd]) (rest := []) (wr := ([] : va_W)) S (c_Ju_weighMembers l D a cI cJ cZ z HW f23 f24 f25 u26 ki co pr pa tw nv sv ru le li bn ip aw ns pn pl po pf pt xs xv xd hpre) k_Ju_weighMembers i_Ju_weighMembers e_Ju_weighMembers o_Ju ml_Ju_109 hd_Ju_weighMembers (Nat.le_trans (by omega) hRf) (Nat.le_trans (by omega) hRl) hRc (va_recv hK hP (q0 := 0) (ci := 0) rfl rfl) hK hP hD hS hA hX [0, 1, 2, 3, 4, 5, 6, 7, 8, 9, 10, 11, 12, 13, 14, 15, 16, 17, 18, 19, 20, 21, 22, 23] [] rfl rfl rfl (by decide) (by decide) (by decide) hl.1 rfl (Nat.le_of_ble_eq_true rfl) d_Ju_weigh_130 (fun u H locs hu hP hD hS => ?_)
            obtain ⟨f28, f29, f30, u31⟩ := u
            have vc := vc f28 f29 f30 u31 hu
            clear hu
            have hP : va_P D vwCl (wJ a cI cJ f28 f29 f30 u31 ++ wV a cI cJ ki co pr pa tw nv sv ++ wS a cI ru le li bn ip aw ns ++ wL a ++ wP a cI cZ pn pl po pf pt) H := hP
            have hD : va_D A (wJ a cI cJ f28 f29 f30 u31 ++ wV a cI cJ ki co pr pa tw nv sv ++ wS a cI ru le li bn ip aw ns ++ wL a ++ wP a cI cZ pn pl po pf pt) := hD
            refine lv_aload_n hx hb d_Ju_weigh_133 rfl (lv_at hl 0 rfl) ?_
            refine lv_iload_n hx hb d_Ju_weigh_134 rfl (lv_at hl 1 rfl) ?_
            refine lv_iload_n hx hb d_Ju_weigh_135 rfl (lv_at hl 2 rfl) ?_
            refine lv_bipush (v := 27) hx hb d_Ju_weigh_136 (by decide) ?_
            refine lv_iload_n hx hb d_Ju_weigh_138 rfl (lv_at hl 3 rfl) ?_
            obtain ⟨hpre, vc⟩ := vc
            refine ec_V (As := [.int xs, .int xv, .int 27, .int xd]) (rest := []) (wr := ([] : va_W)) S (c_Ju_weighUnmarked l D a cI cJ cZ z HW f28 f29 f30 u31 ki co pr pa tw nv sv ru le li bn ip aw ns pn pl po pf pt xs xv 27 xd hpre) k_Ju_weighUnmarked i_Ju_weighUnmarked e_Ju_weighUnmarked o_Ju ml_Ju_105 hd_Ju_weighUnmarked (Nat.le_trans (by omega) hRf) (Nat.le_trans (by omega) hRl) hRc (va_recv hK hP (q0 := 0) (ci := 0) rfl rfl) hK hP hD hS hA hX [0, 1, 2, 3, 4, 5, 6, 7, 8, 9, 10, 11, 12, 13, 14, 15, 16, 17, 18, 19, 20, 21, 22, 23] [] rfl rfl rfl (by decide) (by decide) (by decide) hl.1 rfl (Nat.le_of_ble_eq_true rfl) d_Ju_weigh_139 (fun u H locs hu hP hD hS => ?_)
            obtain ⟨f32, f33, f34, u35⟩ := u
            have vc := vc f32 f33 f34 u35 hu
            clear hu
            have hP : va_P D vwCl (wJ a cI cJ f32 f33 f34 u35 ++ wV a cI cJ ki co pr pa tw nv sv ++ wS a cI ru le li bn ip aw ns ++ wL a ++ wP a cI cZ pn pl po pf pt) H := hP
            have hD : va_D A (wJ a cI cJ f32 f33 f34 u35 ++ wV a cI cJ ki co pr pa tw nv sv ++ wS a cI ru le li bn ip aw ns ++ wL a ++ wP a cI cZ pn pl po pf pt) := hD
            exact jJ27 f32 f33 f34 u35 ls H locs vc (lv_sub hl [0, 1, 2, 3, 4, 5] rfl) hP hD hS
        clear vc2
        refine lv_icmp_ne (tgt := 114) hx hb d_Ju_weigh_88 (by decide) (fun h => ?_) (fun h => ?_)
        · have vc := vc.1 h
          exact jJ10 f6 f7 f8 u9 ls H locs vc (lv_sub hl [0, 1, 2, 3, 4, 5] rfl) hP hD hS
        · have vc := vc.2 h
          refine lv_aload_n hx hb d_Ju_weigh_91 rfl (lv_at hl 0 rfl) ?_
          refine lv_iload_n hx hb d_Ju_weigh_92 rfl (lv_at hl 1 rfl) ?_
          refine lv_iload_n hx hb d_Ju_weigh_93 rfl (lv_at hl 2 rfl) ?_
          refine lv_iload_n hx hb d_Ju_weigh_94 rfl (lv_at hl 3 rfl) ?_
          obtain ⟨hpre, vc⟩ := vc
          refine ec_V (As := [.int xs, .int xv, .int xd]) (rest := []) (wr := ([] : va_W)) S (c_Ju_weighElements l D a cI cJ cZ z HW f6 f7 f8 u9 ki co pr pa tw nv sv ru le li bn ip aw ns pn pl po pf pt xs xv xd hpre) k_Ju_weighElements i_Ju_weighElements e_Ju_weighElements o_Ju ml_Ju_99 hd_Ju_weighElements (Nat.le_trans (by omega) hRf) (Nat.le_trans (by omega) hRl) hRc (va_recv hK hP (q0 := 0) (ci := 0) rfl rfl) hK hP hD hS hA hX [0, 1, 2, 3, 4, 5, 6, 7, 8, 9, 10, 11, 12, 13, 14, 15, 16, 17, 18, 19, 20, 21, 22, 23] [] rfl rfl rfl (by decide) (by decide) (by decide) hl.1 rfl (Nat.le_of_ble_eq_true rfl) d_Ju_weigh_95 (fun u H locs hu hP hD hS => ?_)
          obtain ⟨f11, f12, f13, u14⟩ := u
          have vc := vc f11 f12 f13 u14 hu
          clear hu
          have hP : va_P D vwCl (wJ a cI cJ f11 f12 f13 u14 ++ wV a cI cJ ki co pr pa tw nv sv ++ wS a cI ru le li bn ip aw ns ++ wL a ++ wP a cI cZ pn pl po pf pt) H := hP
          have hD : va_D A (wJ a cI cJ f11 f12 f13 u14 ++ wV a cI cJ ki co pr pa tw nv sv ++ wS a cI ru le li bn ip aw ns ++ wL a ++ wP a cI cZ pn pl po pf pt) := hD
          refine lv_aload_n hx hb d_Ju_weigh_98 rfl (lv_at hl 0 rfl) ?_
          refine lv_iload_n hx hb d_Ju_weigh_99 rfl (lv_at hl 1 rfl) ?_
          refine lv_iload_n hx hb d_Ju_weigh_100 rfl (lv_at hl 2 rfl) ?_
          refine lv_iload_n hx hb d_Ju_weigh_101 rfl (lv_at hl 3 rfl) ?_
          obtain ⟨hpre, vc⟩ := vc
          refine ec_V (As := [.int xs, .int xv, .int xd]) (rest := []) (wr := ([] : va_W)) S (c_Ju_weighContains l D a cI cJ cZ z HW f11 f12 f13 u14 ki co pr pa tw nv sv ru le li bn ip aw ns pn pl po pf pt xs xv xd hpre) k_Ju_weighContains i_Ju_weighContains e_Ju_weighContains o_Ju ml_Ju_102 hd_Ju_weighContains (Nat.le_trans (by omega) hRf) (Nat.le_trans (by omega) hRl) hRc (va_recv hK hP (q0 := 0) (ci := 0) rfl rfl) hK hP hD hS hA hX [0, 1, 2, 3, 4, 5, 6, 7, 8, 9, 10, 11, 12, 13, 14, 15, 16, 17, 18, 19, 20, 21, 22, 23] [] rfl rfl rfl (by decide) (by decide) (by decide) hl.1 rfl (Nat.le_of_ble_eq_true rfl) d_Ju_weigh_102 (fun u H locs hu hP hD hS => ?_)
          obtain ⟨f15, f16, f17, u18⟩ := u
          have vc := vc f15 f16 f17 u18 hu
          clear hu
          have hP : va_P D vwCl (wJ a cI cJ f15 f16 f17 u18 ++ wV a cI cJ ki co pr pa tw nv sv ++ wS a cI ru le li bn ip aw ns ++ wL a ++ wP a cI cZ pn pl po pf pt) H := hP
          have hD : va_D A (wJ a cI cJ f15 f16 f17 u18 ++ wV a cI cJ ki co pr pa tw nv sv ++ wS a cI ru le li bn ip aw ns ++ wL a ++ wP a cI cZ pn pl po pf pt) := hD
          refine lv_aload_n hx hb d_Ju_weigh_105 rfl (lv_at hl 0 rfl) ?_
          refine lv_iload_n hx hb d_Ju_weigh_106 rfl (lv_at hl 1 rfl) ?_
          refine lv_iload_n hx hb d_Ju_weigh_107 rfl (lv_at hl 2 rfl) ?_
          refine lv_bipush (v := 28) hx hb d_Ju_weigh_108 (by decide) ?_
          refine lv_iload_n hx hb d_Ju_weigh_110 rfl (lv_at hl 3 rfl) ?_
          obtain ⟨hpre, vc⟩ := vc
          refine ec_V (As := [.int xs, .int xv, .int 28, .int xd]) (rest := []) (wr := ([] : va_W)) S (c_Ju_weighUnmarked l D a cI cJ cZ z HW f15 f16 f17 u18 ki co pr pa tw nv sv ru le li bn ip aw ns pn pl po pf pt xs xv 28 xd hpre) k_Ju_weighUnmarked i_Ju_weighUnmarked e_Ju_weighUnmarked o_Ju ml_Ju_105 hd_Ju_weighUnmarked (Nat.le_trans (by omega) hRf) (Nat.le_trans (by omega) hRl) hRc (va_recv hK hP (q0 := 0) (ci := 0) rfl rfl) hK hP hD hS hA hX [0, 1, 2, 3, 4, 5, 6, 7, 8, 9, 10, 11, 12, 13, 14, 15, 16, 17, 18, 19, 20, 21, 22, 23] [] rfl rfl rfl (by decide) (by decide) (by decide) hl.1 rfl (Nat.le_of_ble_eq_true rfl) d_Ju_weigh_111 (fun u H locs hu hP hD hS => ?_)
          obtain ⟨f19, f20, f21, u22⟩ := u
          have vc := vc f19 f20 f21 u22 hu
          clear hu
          have hP : va_P D vwCl (wJ a cI cJ f19 f20 f21 u22 ++ wV a cI cJ ki co pr pa tw nv sv ++ wS a cI ru le li bn ip aw ns ++ wL a ++ wP a cI cZ pn pl po pf pt) H := hP
          have hD : va_D A (wJ a cI cJ f19 f20 f21 u22 ++ wV a cI cJ ki co pr pa tw nv sv ++ wS a cI ru le li bn ip aw ns ++ wL a ++ wP a cI cZ pn pl po pf pt) := hD
          exact jJ10 f19 f20 f21 u22 ls H locs vc (lv_sub hl [0, 1, 2, 3, 4, 5] rfl) hP hD hS
      · have vc := vc.2 h
        refine lv_aload_n hx hb d_Ju_weigh_25 rfl (lv_at hl 0 rfl) ?_
        refine va_get (D := D) (ci := 0) (v := .ref (a 12)) (C := R_Ju) (T := F_Ju) (N := 7) hx hb hts in_Ju hown hK hP 0 rfl rfl 1 (by decide) (hts _ fl_Ju_17) (fun _ h => h) rfl d_Ju_weigh_26 ?_
        refine lv_iload_n hx hb d_Ju_weigh_29 rfl (lv_at hl 1 rfl) ?_
        refine lv_iload hx hb d_Ju_weigh_30 (lv_at hl 5 rfl) ?_
        obtain ⟨hpre, vc⟩ := vc
        refine pc_V (As := [.int xs, .int x3]) (rest := []) S (c_Sc_ruleOf l D a cI cJ cZ ru le li bn ip aw ns xs x3 hpre) wB_blind k_Sc_ruleOf i_Sc_ruleOf e_Sc_ruleOf o_Sc ml_Ju_78 hd_Sc_ruleOf (Nat.le_trans (by omega) hRf) (Nat.le_trans (by omega) hRl) hRc (va_recv hK hP (q0 := 10) (ci := 3) rfl rfl) (wB_at (hP.sub (ws' := (wS a cI ru le li bn ip aw ns)) [10, 11, 12, 13, 14, 15, 16] rfl) hK) hl.1 rfl (Nat.le_of_ble_eq_true rfl) d_Ju_weigh_32 ?_
        refine lv_istore hx hb d_Ju_weigh_35 hl (by decide) (lv' := [(6, .int (ru (xs * 29 + x3 : Int32).toNatClampNeg)), (0, .ref (a 20)), (1, .int xs), (2, .int xv), (3, .int xd), (4, .int (xv * 24 + xs)), (5, .int x3)]) rfl (fun ls hl => ?_)
        refine lv_iload hx hb d_Ju_weigh_37 (lv_at hl 0 rfl) ?_
        refine lv_iconst (v := (-1)) hx hb d_Ju_weigh_39 (by decide) ?_
        refine lv_icmp_eq (tgt := 66) hx hb d_Ju_weigh_40 (by decide) (fun h => ?_) (fun h => ?_)
        · have vc := vc.1 h
          refine lv_iinc (k := 6) (v := x3 + 1) hx hb d_Ju_weigh_66 hl rfl rfl (by decide) (lv' := [(5, .int (x3 + 1)), (6, .int (ru (xs * 29 + x3 : Int32).toNatClampNeg)), (0, .ref (a 20)), (1, .int xs), (2, .int xv), (3, .int xd), (4, .int (xv * 24 + xs))]) rfl (fun ls hl => ?_)
          refine lv_goto (tgt := 18) hx hb d_Ju_weigh_69 (by decide) ?_
          exact ihI5 (x3 + 1) f4 ls H locs vc.1 (Nat.lt_of_lt_of_le vc.2 (Nat.le_of_lt_succ hmI5)) (lv_sub hl [2, 3, 4, 5, 6, 0] rfl) hP hD hS
        · have vc := vc.2 h
          refine lv_aload_n hx hb d_Ju_weigh_43 rfl (lv_at hl 1 rfl) ?_
          refine va_get (D := D) (ci := 0) (v := .ref (a 19)) (C := R_Ju) (T := F_Ju) (N := 7) hx hb hts in_Ju hown hK hP 0 rfl rfl 2 (by decide) (hts _ fl_Ju_21) (fun _ h => h) rfl d_Ju_weigh_44 ?_
          refine lv_iload hx hb d_Ju_weigh_47 (lv_at hl 6 rfl) ?_
          refine lv_iload hx hb d_Ju_weigh_49 (lv_at hl 0 rfl) ?_
          refine lv_iload_n hx hb d_Ju_weigh_51 rfl (lv_at hl 3 rfl) ?_
          obtain ⟨hpre, vc⟩ := vc
          refine ec_V (As := [.int x3, .int (ru (xs * 29 + x3 : Int32).toNatClampNeg), .int xv]) (rest := []) (wr := (wJ a cI cJ (upd ch (xv * 24 + xs : Int32).toNatClampNeg 1) ma f4 tl ++ wS a cI ru le li bn ip aw ns)) S (c_Pl_holds l D a cI cJ cZ ki co pr pa tw nv sv pn pl po pf pt x3 (ru (xs * 29 + x3 : Int32).toNatClampNeg) xv hpre) k_Pl_holds i_Pl_holds e_Pl_holds o_Pl ml_Ju_81 hd_Pl_holds (Nat.le_trans (by omega) hRf) (Nat.le_trans (by omega) hRl) hRc (va_recv hK hP (q0 := 17) (ci := 2) rfl rfl) hK hP hD hS hA hX [17, 4, 5, 6, 7, 8, 9, 18, 19, 20, 21, 22, 23] [0, 1, 2, 3, 10, 11, 12, 13, 14, 15, 16] rfl rfl rfl (by decide) (by decide) (by decide) hl.1 rfl (Nat.le_of_ble_eq_true rfl) d_Ju_weigh_52 (fun t40 H locs hu hP hD hS => ?_)
          have vc := vc t40 hu
          clear hu
          have hP : va_P D vwCl (wJ a cI cJ (upd ch (xv * 24 + xs : Int32).toNatClampNeg 1) ma f4 tl ++ wV a cI cJ ki co pr pa tw nv sv ++ wS a cI ru le li bn ip aw ns ++ wL a ++ wP a cI cZ pn pl po pf pt) H := hP.sub [0, 1, 2, 3, 12, 13, 14, 15, 16, 17, 4, 5, 6, 7, 8, 9, 10, 11, 18, 19, 20, 21, 22, 23] rfl
          have hD : va_D A (wJ a cI cJ (upd ch (xv * 24 + xs : Int32).toNatClampNeg 1) ma f4 tl ++ wV a cI cJ ki co pr pa tw nv sv ++ wS a cI ru le li bn ip aw ns ++ wL a ++ wP a cI cZ pn pl po pf pt) := hD.sub [0, 1, 2, 3, 12, 13, 14, 15, 16, 17, 4, 5, 6, 7, 8, 9, 10, 11, 18, 19, 20, 21, 22, 23] (by decide) rfl
          refine lv_if_ne (tgt := 66) hx hb d_Ju_weigh_55 (by decide) (fun h => ?_) (fun h => ?_)
          · have vc := vc.1 h
            refine lv_iinc (k := 6) (v := x3 + 1) hx hb d_Ju_weigh_66 hl rfl rfl (by decide) (lv' := [(5, .int (x3 + 1)), (6, .int (ru (xs * 29 + x3 : Int32).toNatClampNeg)), (0, .ref (a 20)), (1, .int xs), (2, .int xv), (3, .int xd), (4, .int (xv * 24 + xs))]) rfl (fun ls hl => ?_)
            refine lv_goto (tgt := 18) hx hb d_Ju_weigh_69 (by decide) ?_
            exact ihI5 (x3 + 1) f4 ls H locs vc.1 (Nat.lt_of_lt_of_le vc.2 (Nat.le_of_lt_succ hmI5)) (lv_sub hl [2, 3, 4, 5, 6, 0] rfl) hP hD hS
          · have vc := vc.2 h
            refine lv_aload_n hx hb d_Ju_weigh_58 rfl (lv_at hl 1 rfl) ?_
            refine lv_iload_n hx hb d_Ju_weigh_59 rfl (lv_at hl 2 rfl) ?_
            refine lv_iload_n hx hb d_Ju_weigh_60 rfl (lv_at hl 3 rfl) ?_
            refine lv_iload hx hb d_Ju_weigh_61 (lv_at hl 6 rfl) ?_
            obtain ⟨hpre, vc⟩ := vc
            refine wc_V (As := [.int xs, .int xv, .int x3]) (rest := []) (wr := (wV a cI cJ ki co pr pa tw nv sv ++ wS a cI ru le li bn ip aw ns ++ wL a ++ wP a cI cZ pn pl po pf pt)) S (c_Ju_fail l D a cI cJ cZ (upd ch (xv * 24 + xs : Int32).toNatClampNeg 1) ma f4 tl xs xv x3 hpre) k_Ju_fail i_Ju_fail e_Ju_fail o_Ju ml_Ju_87 hd_Ju_fail (Nat.le_trans (by omega) hRf) (Nat.le_trans (by omega) hRl) hRc (va_recv hK hP (q0 := 0) (ci := 0) rfl rfl) hK hP hD hS hA [0, 1, 2, 3] [4, 5, 6, 7, 8, 9, 10, 11, 12, 13, 14, 15, 16, 17, 18, 19, 20, 21, 22, 23] rfl rfl rfl (by decide) (by decide) (by decide) hl.1 rfl (Nat.le_of_ble_eq_true rfl) d_Ju_weigh_63 (fun _ H locs _ hP hD hS => ?_)
            have hP : va_P D vwCl (wJ a cI cJ (upd ch (xv * 24 + xs : Int32).toNatClampNeg 1) ma (vp_updL f4 (xv * 24 + xs : Int32).toNatClampNeg ((f4 (xv * 24 + xs : Int32).toNatClampNeg) ||| (1 <<< (x3.toInt64 &&& 63)))) tl ++ wV a cI cJ ki co pr pa tw nv sv ++ wS a cI ru le li bn ip aw ns ++ wL a ++ wP a cI cZ pn pl po pf pt) H := hP.sub [20, 21, 22, 23, 0, 1, 2, 3, 4, 5, 6, 7, 8, 9, 10, 11, 12, 13, 14, 15, 16, 17, 18, 19] rfl
            have hD : va_D A (wJ a cI cJ (upd ch (xv * 24 + xs : Int32).toNatClampNeg 1) ma (vp_updL f4 (xv * 24 + xs : Int32).toNatClampNeg ((f4 (xv * 24 + xs : Int32).toNatClampNeg) ||| (1 <<< (x3.toInt64 &&& 63)))) tl ++ wV a cI cJ ki co pr pa tw nv sv ++ wS a cI ru le li bn ip aw ns ++ wL a ++ wP a cI cZ pn pl po pf pt) := hD.sub [20, 21, 22, 23, 0, 1, 2, 3, 4, 5, 6, 7, 8, 9, 10, 11, 12, 13, 14, 15, 16, 17, 18, 19] (by decide) rfl
            refine lv_iinc (k := 6) (v := x3 + 1) hx hb d_Ju_weigh_66 hl rfl rfl (by decide) (lv' := [(5, .int (x3 + 1)), (6, .int (ru (xs * 29 + x3 : Int32).toNatClampNeg)), (0, .ref (a 20)), (1, .int xs), (2, .int xv), (3, .int xd), (4, .int (xv * 24 + xs))]) rfl (fun ls hl => ?_)
            refine lv_goto (tgt := 18) hx hb d_Ju_weigh_69 (by decide) ?_
            exact ihI5 (x3 + 1) (vp_updL f4 (xv * 24 + xs : Int32).toNatClampNeg ((f4 (xv * 24 + xs : Int32).toNatClampNeg) ||| (1 <<< (x3.toInt64 &&& 63)))) ls H locs vc.1 (Nat.lt_of_lt_of_le vc.2 (Nat.le_of_lt_succ hmI5)) (lv_sub hl [2, 3, 4, 5, 6, 0] rfl) hP hD hS
  exact lI5 _ 0 br ls H locs vc0 (Nat.lt_succ_self _) (lv_sub hl [2, 3, 4, 5, 1, 0] rfl) hP hD hS
set_option maxHeartbeats 4000000 in
theorem v_Ju_weigh (z : Nat) (ch : Nat → Int32) (ma : Nat → Int32) (br : Nat → Int64) (tl : Int32) (ki : Nat → Int32) (co : Nat → Int64) (pr : Nat → Int32) (pa : Nat → Int32) (tw : Nat → Int32) (nv : Int32) (sv : Int32) (ru : Nat → Int32) (le : Nat → Int32) (li : Nat → Int32) (bn : Nat → Int32) (ip : Nat → Int32) (aw : Nat → Int32) (ns : Int32) (pn : Nat → Int32) (pl : Nat → Int32) (po : Nat → Int32) (pf : Nat → Int32) (pt : Nat → Int32) (xs : Int32) (xv : Int32) (xd : Int32) (hpre : (∃ n0 m0 s0 v0 d0 : Nat, JP ki co pr pa pn po ru le li bn nv ns tl z xs xv xd n0 m0 s0 v0 d0)) : V_Ju_weigh z ch ma br tl ki co pr pa tw nv sv ru le li bn ip aw ns pn pl po pf pt xs xv xd (fun ch' ma' br' tl' ki' co' pr' pa' tw' nv' sv' ru' le' li' bn' ip' aw' ns' pn' pl' po' pf' pt' => (((tl' = 0 ∨ tl' = 1) ∧ (tl = 1 → tl' = 1) ∧ ∀ (G : Sp) (R : Nat → Nat → Prop) (lv : Nat → Nat), (∃ va mk, G = gC ki co pr pa tw pn pl po pf pt ru le li bn nv.toNatClampNeg va mk) → Ctx G R lv → Wd G R lv xs.toNatClampNeg xv.toNatClampNeg xd.toNatClampNeg ch ma br tl ch' ma' br' tl')) ∧ ki' = ki ∧ co' = co ∧ pr' = pr ∧ pa' = pa ∧ tw' = tw ∧ nv' = nv ∧ sv' = sv ∧ ru' = ru ∧ le' = le ∧ li' = li ∧ bn' = bn ∧ ip' = ip ∧ aw' = aw ∧ ns' = ns ∧ pn' = pn ∧ pl' = pl ∧ po' = po ∧ pf' = pf ∧ pt' = pt) := by
  have main : ∀ post : (Nat → Int32) → (Nat → Int32) → (Nat → Int64) → Int32 → (Nat → Int32) → (Nat → Int64) → (Nat → Int32) → (Nat → Int32) → (Nat → Int32) → Int32 → Int32 → (Nat → Int32) → (Nat → Int32) → (Nat → Int32) → (Nat → Int32) → (Nat → Int32) → (Nat → Int32) → Int32 → (Nat → Int32) → (Nat → Int32) → (Nat → Int32) → (Nat → Int32) → (Nat → Int32) → Prop, (∀ ch' ma' br' tl' ki' co' pr' pa' tw' nv' sv' ru' le' li' bn' ip' aw' ns' pn' pl' po' pf' pt', (fun ch' ma' br' tl' ki' co' pr' pa' tw' nv' sv' ru' le' li' bn' ip' aw' ns' pn' pl' po' pf' pt' => (((tl' = 0 ∨ tl' = 1) ∧ (tl = 1 → tl' = 1) ∧ ∀ (G : Sp) (R : Nat → Nat → Prop) (lv : Nat → Nat), (∃ va mk, G = gC ki co pr pa tw pn pl po pf pt ru le li bn nv.toNatClampNeg va mk) → Ctx G R lv → Wd G R lv xs.toNatClampNeg xv.toNatClampNeg xd.toNatClampNeg ch ma br tl ch' ma' br' tl')) ∧ ki' = ki ∧ co' = co ∧ pr' = pr ∧ pa' = pa ∧ tw' = tw ∧ nv' = nv ∧ sv' = sv ∧ ru' = ru ∧ le' = le ∧ li' = li ∧ bn' = bn ∧ ip' = ip ∧ aw' = aw ∧ ns' = ns ∧ pn' = pn ∧ pl' = pl ∧ po' = po ∧ pf' = pf ∧ pt' = pt) ch' ma' br' tl' ki' co' pr' pa' tw' nv' sv' ru' le' li' bn' ip' aw' ns' pn' pl' po' pf' pt' → post ch' ma' br' tl' ki' co' pr' pa' tw' nv' sv' ru' le' li' bn' ip' aw' ns' pn' pl' po' pf' pt') → V_Ju_weigh z ch ma br tl ki co pr pa tw nv sv ru le li bn ip aw ns pn pl po pf pt xs xv xd post := by
    intro post hpost
    unfold V_Ju_weigh
    obtain ⟨n0, m0, s0, v0, d0, hJ⟩ := hpre
    have hJ0 := hJ
    obtain ⟨hs24, hv40, hm, hn⟩ := JP_s hJ
    obtain ⟨hnv, hns, hS, htl, rfl, rfl, rfl, hsm, hvn, hd1, hd30, hfuel⟩ := hJ
    have hPv : vp_in (nI (v0 * 24 + s0)) 960 := vp_in_nI (by omega) (by decide)
    have cs : (nI s0).toNatClampNeg = s0 := nI_clamp (by omega)
    have cv : (nI v0).toNatClampNeg = v0 := nI_clamp (by omega)
    have cd : (nI d0).toNatClampNeg = d0 := nI_clamp (by omega)
    have cP : (nI (v0 * 24 + s0)).toNatClampNeg = v0 * 24 + s0 := nI_clamp (by omega)
    have cn : nv.toNatClampNeg = n0 := by rw [hnv]; exact nI_clamp (by omega)
    simp only [px24, cP, cs, cv, cd, cn, lg_eq0] at hpost ⊢
    have hkv := (hS.1.2.2 v0 hv40).1
    refine ⟨hPv, fun xk hh => ∃ j, j ≤ 17 ∧ xk = nI j ∧ WG (fun G => ∃ va mk, G = gC ki co pr pa tw pn pl po pf pt ru le li bn n0 va mk) s0 v0 d0 (fun _ _ _ => False) (fun G b => b < j ∧ BadPl G s0 v0 b) (fun _ _ => False) ch ma br tl (upd ch (v0 * 24 + s0) 1) ma hh tl, fun xk _ => 17 - xk.toInt.toNat, ⟨0, by decide, rfl, htl, id, fun G R lv _ hC => (Wst.start hs24 hd30).congr (fun _ _ => Iff.rfl) (fun b => ⟨False.elim, fun q => absurd q.1 (Nat.not_lt_zero _)⟩) (fun _ => Iff.rfl)⟩, ?_⟩
    rintro xk hh ⟨j, hj, rfl, hI⟩
    have hlt : (16 : Int32) < nI j ↔ 16 < j := nI_ltL (n := 16) (by decide) (by omega)
    rw [hlt]
    refine ⟨fun h => ?_, fun h => ?_⟩
    rotate_left
    · have hj2 : j < 17 := by omega
      have mu := fill_mu (N := 17) hj2 (by decide)
      have c29 : (nI (s0 * 29 + j)).toNatClampNeg = s0 * 29 + j := nI_clamp (by omega)
      have cj : (nI j).toNatClampNeg = j := nI_clamp (by omega)
      rw [ix29, c29, cj]
      have hok := hS.2.2.2.2.2.1 s0 j hs24 (Or.inl hj2)
      have hruG : ∀ G, (∃ va mk, G = gC ki co pr pa tw pn pl po pf pt ru le li bn n0 va mk) → (ruH G s0 j ↔ ¬ ru (s0 * 29 + j) < 0) := fun G hG => by unfold ruH; rw [(gC_eq hG).2.2.2.1]
      refine ⟨vp_in_nI (by omega) (by decide), fun h2 => ⟨⟨j + 1, hj2, nI_1 j, hI.same (fun G hG => ⟨fun _ _ => Iff.rfl, fun b => ⟨fun q => ⟨by omega, q.2⟩, fun q => ⟨?_, q.2⟩⟩, fun _ => Iff.rfl⟩)⟩, mu⟩, fun h2 => ?_⟩
      · by_cases e : b = j
        · subst e
          have := (hruG G hG).mp q.2.2.1
          rw [h2] at this; exact absurd neg1_lt this
        · omega
      · obtain ⟨q0, eq0, hq0, _⟩ := hok.resolve_left h2
        have hnn : ¬ ru (s0 * 29 + j) < 0 := by rw [eq0]; exact nI_pos (by omega)
        have hPL : ∀ G, (∃ va mk, G = gC ki co pr pa tw pn pl po pf pt ru le li bn n0 va mk) → (gPL G s0 v0 j ↔ plS ki co (cpb ki pr) (cpt ki pr pa) tw pn pl po pf pt j v0 (ru (s0 * 29 + j))) := fun G hG => by
          rw [(gC_eq hG).2.2.2.2.2.2.2]; exact ⟨fun q => q hs24 hvn hj2 hnn, fun q _ _ _ _ => q⟩
        refine ⟨⟨n0, j, q0, v0, hj2, hvn, rfl, eq0, rfl, ⟨hnn, hok, by omega⟩, hS.1, hS.2.1⟩, fun t ht => ⟨fun h3 => ⟨⟨j + 1, hj2, nI_1 j, hI.same (fun G hG => ⟨fun _ _ => Iff.rfl, fun b => ⟨fun q => ⟨by omega, q.2⟩, fun q => ⟨?_, q.2⟩⟩, fun _ => Iff.rfl⟩)⟩, mu⟩, fun h3 => ⟨hPv, ⟨j + 1, hj2, nI_1 j, hI.next htl id (fun G R lv _ _ _ => Ef.fail (k := j) hs24 (by omega)) (fun G hG => ⟨fun _ _ => ⟨fun q => q.elim id id, Or.inl⟩, fun b => ?_, fun _ => ⟨fun q => q.elim id id, Or.inl⟩⟩)⟩, mu⟩⟩⟩
        · by_cases e : b = j
          · subst e; exact absurd ((hPL G hG).mpr (ht.mp (bI_ne.mp h3))) q.2.2.2
          · omega
        · constructor
          · rintro (q | q)
            · exact ⟨by omega, q.2⟩
            · subst q
              refine ⟨by omega, hj2, (hruG G hG).mpr hnn, fun z => ?_⟩
              have := ht.mpr ((hPL G hG).mp z)
              rw [bI0.mp h3] at this; exact absurd this (by decide)
          · rintro ⟨q1, q2⟩
            by_cases e : b = j
            · exact Or.inr e
            · exact Or.inl ⟨by omega, q2⟩
    obtain rfl : j = 17 := by omega
    refine ⟨⟨n0, m0, s0, v0, d0, hJ0⟩, fun f1 g1 h1 u1 hp1 => ⟨vp_in_nI hv40 (by decide), ?_⟩⟩
    have hI1 := hI.next (A2 := fun G => AskIn G s0 v0) (B2 := fun G b => BadPl G s0 v0 b ∨ BadIn G s0 v0 b) (M2 := fun G => MrkIn G s0 v0) hp1.1 hp1.2.1 (fun G R lv hG hC _ => hp1.2.2 G R lv hG hC) (fun G hG => ⟨fun x w => ⟨fun q => q.elim False.elim id, Or.inr⟩, fun b => ⟨fun q => q.elim (fun q => Or.inl q.2) Or.inr, fun q => q.elim (fun q => Or.inl ⟨q.1, q⟩) Or.inr⟩, fun i => ⟨fun q => q.elim False.elim id, Or.inr⟩⟩)
    refine ⟨fun f g hh u => WG (fun G => ∃ va mk, G = gC ki co pr pa tw pn pl po pf pt ru le li bn n0 va mk) s0 v0 d0 (fun G x w => AskIn G s0 v0 x w ∨ (gK G v0 = 4 ∧ (AskEl G s0 v0 x w ∨ AskCo G s0 v0 x w ∨ AskUn G s0 v0 28 x w))) (fun G b => (BadPl G s0 v0 b ∨ BadIn G s0 v0 b) ∨ (gK G v0 = 4 ∧ (BadEl G s0 v0 b ∨ BadCo G s0 v0 b ∨ BadUn G s0 v0 28 b))) (fun G i => MrkIn G s0 v0 i ∨ (gK G v0 = 4 ∧ ((MrkEl G s0 v0 i ∨ MrkCo G s0 v0 i) ∨ MrkUn G s0 v0 28 i))) ch ma br tl f g hh u, ⟨fun h2 => hI1.same (fun G hG => ?_), fun h2 => ?_⟩, ?_⟩
    · have hk : ¬ gK G v0 = 4 := by rw [(gC_eq hG).1]; exact h2
      exact ⟨fun x w => ⟨Or.inl, fun q => q.elim id (fun q => absurd q.1 hk)⟩, fun b => ⟨Or.inl, fun q => q.elim id (fun q => absurd q.1 hk)⟩, fun i => ⟨Or.inl, fun q => q.elim id (fun q => absurd q.1 hk)⟩⟩
    · have hk : ∀ G, (∃ va mk, G = gC ki co pr pa tw pn pl po pf pt ru le li bn n0 va mk) → gK G v0 = 4 := fun G hG => by rw [(gC_eq hG).1]; exact h2
      refine ⟨⟨n0, m0, s0, v0, d0, hJ0.re hI1.1, h2⟩, fun f2 g2 h3 u2 hp2 => ?_⟩
      have hI2 := hI1.next (A2 := fun G x w => AskIn G s0 v0 x w ∨ AskEl G s0 v0 x w) (B2 := fun G b => (BadPl G s0 v0 b ∨ BadIn G s0 v0 b) ∨ BadEl G s0 v0 b) (M2 := fun G i => MrkIn G s0 v0 i ∨ MrkEl G s0 v0 i) hp2.1 hp2.2.1 (fun G R lv hG hC _ => hp2.2.2 G R lv hG hC) (fun G hG => ⟨fun _ _ => Iff.rfl, fun _ => Iff.rfl, fun _ => Iff.rfl⟩)
      refine ⟨⟨n0, m0, s0, v0, d0, hJ0.re hI2.1, h2⟩, fun f3 g3 h4 u3 hp3 => ?_⟩
      have hI3 := hI2.next (A2 := fun G x w => (AskIn G s0 v0 x w ∨ AskEl G s0 v0 x w) ∨ AskCo G s0 v0 x w) (B2 := fun G b => ((BadPl G s0 v0 b ∨ BadIn G s0 v0 b) ∨ BadEl G s0 v0 b) ∨ BadCo G s0 v0 b) (M2 := fun G i => Mrk0 G s0 v0 i) hp3.1 hp3.2.1 (fun G R lv hG hC _ => hp3.2.2 G R lv hG hC) (fun G hG => ⟨fun _ _ => Iff.rfl, fun _ => Iff.rfl, fun i => ?_⟩)
      · rw [show ((28 : Int32).toNatClampNeg) = 28 from rfl]
        refine ⟨⟨n0, m0, s0, v0, d0, hJ0.re hI3.1, 28, Or.inr rfl, rfl, Or.inl h2⟩, fun f4 g4 h5 u4 hp4 => ?_⟩
        refine hI3.next hp4.1 hp4.2.1 (fun G R lv hG hC hst => hp4.2.2 G R lv hG hC hst.2.2.2.2 (fun x w q => Or.inr (Or.inl ⟨hk G hG, Or.inr (Or.inr q)⟩))) (fun G hG => ⟨fun x w => ?_, fun b => ?_, fun i => ?_⟩)
        · rw [or_assoc, or_assoc]; exact or_congr_right ⟨fun q => ⟨hk G hG, q⟩, fun q => q.2⟩
        · rw [or_assoc, or_assoc]; exact or_congr_right ⟨fun q => ⟨hk G hG, q⟩, fun q => q.2⟩
        · unfold Mrk0
          constructor
          · rintro ((q | ⟨q1, q2⟩ | ⟨q1, q2⟩) | q)
            · exact Or.inl q
            · exact Or.inr ⟨q1, Or.inl q2⟩
            · exact absurd ((hk G hG).symm.trans q1) (by decide)
            · exact Or.inr ⟨hk G hG, Or.inr q⟩
          · rintro (q | ⟨q1, q2 | q2⟩)
            · exact Or.inl (Or.inl q)
            · exact Or.inl (Or.inr (Or.inl ⟨q1, q2⟩))
            · exact Or.inr q2
      · unfold Mrk0
        constructor
        · rintro ((q | q) | q)
          · exact Or.inl q
          · exact Or.inr (Or.inl ⟨hk G hG, Or.inl q⟩)
          · exact Or.inr (Or.inl ⟨hk G hG, Or.inr q⟩)
        · rintro (q | ⟨q1, q2 | q2⟩ | ⟨q1, q2⟩)
          · exact Or.inl (Or.inl q)
          · exact Or.inl (Or.inr q2)
          · exact Or.inr q2
          · exact absurd ((hk G hG).symm.trans q1) (by decide)
    intro f5 g5 h5 u5 hI5
    refine ⟨vp_in_nI hv40 (by decide), fun f g hh u => WG (fun G => ∃ va mk, G = gC ki co pr pa tw pn pl po pf pt ru le li bn n0 va mk) s0 v0 d0 (fun G x w => (AskIn G s0 v0 x w ∨ (gK G v0 = 4 ∧ (AskEl G s0 v0 x w ∨ AskCo G s0 v0 x w ∨ AskUn G s0 v0 28 x w))) ∨ (gK G v0 = 5 ∧ (AskMe G s0 v0 x w ∨ AskUn G s0 v0 27 x w))) (fun G b => ((BadPl G s0 v0 b ∨ BadIn G s0 v0 b) ∨ (gK G v0 = 4 ∧ (BadEl G s0 v0 b ∨ BadCo G s0 v0 b ∨ BadUn G s0 v0 28 b))) ∨ (gK G v0 = 5 ∧ (BadMe G s0 v0 b ∨ BadUn G s0 v0 27 b))) (fun G i => (MrkIn G s0 v0 i ∨ (gK G v0 = 4 ∧ ((MrkEl G s0 v0 i ∨ MrkCo G s0 v0 i) ∨ MrkUn G s0 v0 28 i))) ∨ (gK G v0 = 5 ∧ (MrkMe G s0 v0 i ∨ MrkUn G s0 v0 27 i))) ch ma br tl f g hh u, ⟨fun h2 => hI5.same (fun G hG => ?_), fun h2 => ?_⟩, ?_⟩
    · have hk : ¬ gK G v0 = 5 := by rw [(gC_eq hG).1]; exact h2
      exact ⟨fun x w => ⟨Or.inl, fun q => q.elim id (fun q => absurd q.1 hk)⟩, fun b => ⟨Or.inl, fun q => q.elim id (fun q => absurd q.1 hk)⟩, fun i => ⟨Or.inl, fun q => q.elim id (fun q => absurd q.1 hk)⟩⟩
    · have hk : ∀ G, (∃ va mk, G = gC ki co pr pa tw pn pl po pf pt ru le li bn n0 va mk) → gK G v0 = 5 := fun G hG => by rw [(gC_eq hG).1]; exact h2
      have hk4 : ∀ G, (∃ va mk, G = gC ki co pr pa tw pn pl po pf pt ru le li bn n0 va mk) → ¬ gK G v0 = 4 := fun G hG q => absurd ((hk G hG).symm.trans q) (by decide)
      refine ⟨⟨n0, m0, s0, v0, d0, hJ0.re hI5.1, h2⟩, fun f2 g2 h3 u2 hp2 => ?_⟩
      have hI2 := hI5.next (A2 := fun G x w => (AskIn G s0 v0 x w ∨ (gK G v0 = 4 ∧ (AskEl G s0 v0 x w ∨ AskCo G s0 v0 x w ∨ AskUn G s0 v0 28 x w))) ∨ AskMe G s0 v0 x w) (B2 := fun G b => ((BadPl G s0 v0 b ∨ BadIn G s0 v0 b) ∨ (gK G v0 = 4 ∧ (BadEl G s0 v0 b ∨ BadCo G s0 v0 b ∨ BadUn G s0 v0 28 b))) ∨ BadMe G s0 v0 b) (M2 := fun G i => Mrk0 G s0 v0 i) hp2.1 hp2.2.1 (fun G R lv hG hC _ => hp2.2.2 G R lv hG hC) (fun G hG => ⟨fun _ _ => Iff.rfl, fun _ => Iff.rfl, fun i => ?_⟩)
      · rw [show ((27 : Int32).toNatClampNeg) = 27 from rfl]
        refine ⟨⟨n0, m0, s0, v0, d0, hJ0.re hI2.1, 27, Or.inl rfl, rfl, Or.inr h2⟩, fun f4 g4 h5 u4 hp4 => ?_⟩
        refine hI2.next hp4.1 hp4.2.1 (fun G R lv hG hC hst => hp4.2.2 G R lv hG hC hst.2.2.2.2 (fun x w q => Or.inr (Or.inr ⟨hk G hG, Or.inr q⟩))) (fun G hG => ⟨fun x w => ?_, fun b => ?_, fun i => ?_⟩)
        · rw [or_assoc]; exact or_congr_right ⟨fun q => ⟨hk G hG, q⟩, fun q => q.2⟩
        · rw [or_assoc]; exact or_congr_right ⟨fun q => ⟨hk G hG, q⟩, fun q => q.2⟩
        · unfold Mrk0
          constructor
          · rintro ((q | ⟨q1, q2⟩ | ⟨q1, q2⟩) | q)
            · exact Or.inl (Or.inl q)
            · exact absurd q1 (hk4 G hG)
            · exact Or.inr ⟨q1, Or.inl q2⟩
            · exact Or.inr ⟨hk G hG, Or.inr q⟩
          · rintro ((q | ⟨q1, _⟩) | ⟨q1, q2 | q2⟩)
            · exact Or.inl (Or.inl q)
            · exact absurd q1 (hk4 G hG)
            · exact Or.inl (Or.inr (Or.inr ⟨q1, q2⟩))
            · exact Or.inr q2
      · unfold Mrk0
        constructor
        · rintro ((q | ⟨q1, _⟩) | q)
          · exact Or.inl q
          · exact absurd q1 (hk4 G hG)
          · exact Or.inr (Or.inr ⟨hk G hG, q⟩)
        · rintro (q | ⟨q1, _⟩ | ⟨_, q2⟩)
          · exact Or.inl (Or.inl q)
          · exact absurd q1 (hk4 G hG)
          · exact Or.inr q2
    intro f6 g6 h6 u6 hI6
    have fin : ∀ (G : Sp) (R : Nat → Nat → Prop) (lv : Nat → Nat), (∃ va mk, G = gC ki co pr pa tw pn pl po pf pt ru le li bn n0 va mk) → Ctx G R lv → Wd G R lv s0 v0 d0 ch ma br tl f6 (if h6 (v0 * 24 + s0) = 0 then g6 else upd g6 (v0 * 24 + s0) 0) h6 u6 := fun G R lv hG hC => by
      refine Wst.done (B := fun b => b < 36 ∧ Bad G s0 v0 b) hC hd1 (fun _ => Iff.rfl) hI6.2.1 ((hI6.2.2 G R lv hG hC).congr (fun x w => ?_) (fun b => ?_) (fun i => ?_))
      · exact or_assoc
      · have : (((BadPl G s0 v0 b ∨ BadIn G s0 v0 b) ∨ (gK G v0 = 4 ∧ (BadEl G s0 v0 b ∨ BadCo G s0 v0 b ∨ BadUn G s0 v0 28 b))) ∨ (gK G v0 = 5 ∧ (BadMe G s0 v0 b ∨ BadUn G s0 v0 27 b))) ↔ Bad G s0 v0 b := by unfold Bad; rw [or_assoc, or_assoc]
        exact Iff.trans this ⟨fun q => ⟨Bad_36 q, q⟩, fun q => q.2⟩
      · unfold Mrk1 Mrk0
        constructor
        · rintro ((q | ⟨q1, q2 | q2⟩) | ⟨q1, q2 | q2⟩)
          · exact Or.inl (Or.inl q)
          · exact Or.inl (Or.inr (Or.inl ⟨q1, q2⟩))
          · exact Or.inr (Or.inl ⟨q1, q2⟩)
          · exact Or.inl (Or.inr (Or.inr ⟨q1, q2⟩))
          · exact Or.inr (Or.inr ⟨q1, q2⟩)
        · rintro ((q | ⟨q1, q2⟩ | ⟨q1, q2⟩) | ⟨q1, q2⟩ | ⟨q1, q2⟩)
          · exact Or.inl (Or.inl q)
          · exact Or.inl (Or.inr ⟨q1, Or.inl q2⟩)
          · exact Or.inr ⟨q1, Or.inl q2⟩
          · exact Or.inl (Or.inr ⟨q1, Or.inr q2⟩)
          · exact Or.inr ⟨q1, Or.inr q2⟩
    refine ⟨hPv, fun h7 => (hpost _ _ _ _ _ _ _ _ _ _ _ _ _ _ _ _ _ _ _ _ _ _ _ ⟨⟨hI6.1, hI6.2.1, fun G R lv hG hC => ?_⟩, rfl, rfl, rfl, rfl, rfl, rfl, rfl, rfl, rfl, rfl, rfl, rfl, rfl, rfl, rfl, rfl, rfl, rfl, rfl⟩), fun h7 => ⟨hPv, (hpost _ _ _ _ _ _ _ _ _ _ _ _ _ _ _ _ _ _ _ _ _ _ _ ⟨⟨hI6.1, hI6.2.1, fun G R lv hG hC => ?_⟩, rfl, rfl, rfl, rfl, rfl, rfl, rfl, rfl, rfl, rfl, rfl, rfl, rfl, rfl, rfl, rfl, rfl, rfl, rfl⟩)⟩⟩
    · have := fin G R lv hG hC; rw [if_pos h7] at this; exact this
    · have := fin G R lv hG hC; rw [if_neg h7] at this; exact this
  exact main _ (fun _ _ _ _ _ _ _ _ _ _ _ _ _ _ _ _ _ _ _ _ _ _ _ h => h)
theorem c_Ju_weigh (l : Launch) (D : va_G) (a : Nat → Nat) (cI cJ cZ : ClassId) (z : Nat) (HW : WQ l D a cI cJ cZ z) (ch : Nat → Int32) (ma : Nat → Int32) (br : Nat → Int64) (tl : Int32) (ki : Nat → Int32) (co : Nat → Int64) (pr : Nat → Int32) (pa : Nat → Int32) (tw : Nat → Int32) (nv : Int32) (sv : Int32) (ru : Nat → Int32) (le : Nat → Int32) (li : Nat → Int32) (bn : Nat → Int32) (ip : Nat → Int32) (aw : Nat → Int32) (ns : Int32) (pn : Nat → Int32) (pl : Nat → Int32) (po : Nat → Int32) (pf : Nat → Int32) (pt : Nat → Int32) (xs : Int32) (xv : Int32) (xd : Int32) (hpre : (∃ n0 m0 s0 v0 d0 : Nat, JP ki co pr pa pn po ru le li bn nv ns tl z xs xv xd n0 m0 s0 v0 d0)) : Em (S := (Nat → Int32) × (Nat → Int32) × (Nat → Int64) × Int32) l y_Ju_weigh b_Ju_weigh 7 none (5 * z + 14) (200 * z + 260) [.ref (a 20), .int xs, .int xv, .int xd] D (tyA cI cJ cZ) (wJ a cI cJ ch ma br tl ++ wV a cI cJ ki co pr pa tw nv sv ++ wS a cI ru le li bn ip aw ns ++ wL a ++ wP a cI cZ pn pl po pf pt) (fun uu => ((uu.2.2.2 = 0 ∨ uu.2.2.2 = 1) ∧ (tl = 1 → uu.2.2.2 = 1) ∧ ∀ (G : Sp) (R : Nat → Nat → Prop) (lv : Nat → Nat), (∃ va mk, G = gC ki co pr pa tw pn pl po pf pt ru le li bn nv.toNatClampNeg va mk) → Ctx G R lv → Wd G R lv xs.toNatClampNeg xv.toNatClampNeg xd.toNatClampNeg ch ma br tl uu.1 uu.2.1 uu.2.2.1 uu.2.2.2)) (fun uu => none) (fun uu => (wJ a cI cJ uu.1 uu.2.1 uu.2.2.1 uu.2.2.2 ++ wV a cI cJ ki co pr pa tw nv sv ++ wS a cI ru le li bn ip aw ns ++ wL a ++ wP a cI cZ pn pl po pf pt)) :=
  em_v (by decide) (Nat.le_of_ble_eq_true rfl) (fun p e s m below meth c ls Q A S hK hP hD hA hS hX hl hret => g_Ju_weigh S (Nat.le_refl _) (Nat.le_refl _) ⟨Nat.le_refl _, Nat.le_refl _⟩ D a cI cJ cZ HW ch ma br tl ki co pr pa tw nv sv ru le li bn ip aw ns pn pl po pf pt xs xv xd hK hP hD hA hS hX hl (v_Ju_weigh z ch ma br tl ki co pr pa tw nv sv ru le li bn ip aw ns pn pl po pf pt xs xv xd hpre) (fun ch' ma' br' tl' ki' co' pr' pa' tw' nv' sv' ru' le' li' bn' ip' aw' ns' pn' pl' po' pf' pt' ls1 pc H1 locs1 hd hv hP1 hD1 hS1 => by obtain ⟨hp, rfl, rfl, rfl, rfl, rfl, rfl, rfl, rfl, rfl, rfl, rfl, rfl, rfl, rfl, rfl, rfl, rfl, rfl, rfl⟩ := hv; exact hret (ch', ma', br', tl') ls1 pc H1 locs1 hd hp hP1 hD1 hS1))
