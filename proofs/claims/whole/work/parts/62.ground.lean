/-! ===== judging in the class: the ground ===== -/
/-- schemas, values and patterns are as they must be -/
def SOK (ki : Nat → Int32) (co : Nat → Int64) (pr pa pn po ru le li bn : Nat → Int32) (n m : Nat) : Prop :=
  VOK ki co pr pa n ∧ POK pn po ∧ m ≤ 24 ∧ LeOK le ∧ LdOK ru le li bn m ∧ (∀ s k, s < 24 → (k < 17 ∨ k = 24 ∨ k = 25) → okk ki co n k (ru (s * 29 + k))) ∧ (∀ s i, s < 24 → i < 12 → bn ((s * 3 + 2) * 12 + i) = -1 ∨ ∃ q, q < 4096 ∧ bn ((s * 3 + 2) * 12 + i) = nI q) ∧ ∀ s k i, s < 24 → k < 4 → i < (le (s * 4 + k)).toNatClampNeg → ∃ q, q < m ∧ li ((s * 4 + k) * 3 + i) = nI q
def gC (ki : Nat → Int32) (co : Nat → Int64) (pr pa tw pn pl po pf pt ru le li bn : Nat → Int32) (n : Nat) (va : Nat → Nat → Prop) (mk : Nat → Nat → Nat → Prop) : Sp :=
  (ki, cpb ki pr, cpt ki pr pa, ru, le, li, bn, fun s v k => s < 24 → v < n → k < 17 → ¬ ru (s * 29 + k) < 0 → plS ki co (cpb ki pr) (cpt ki pr pa) tw pn pl po pf pt k v (ru (s * 29 + k)), va, mk)
/-- what every piece of the judging of s and v at depth d asks -/
def JP (ki : Nat → Int32) (co : Nat → Int64) (pr pa pn po ru le li bn : Nat → Int32) (nv ns tl : Int32) (z : Nat) (s v d : Int32) (n m s0 v0 d0 : Nat) : Prop :=
  nv = nI n ∧ ns = nI m ∧ SOK ki co pr pa pn po ru le li bn n m ∧ (tl = 0 ∨ tl = 1) ∧ s = nI s0 ∧ v = nI v0 ∧ d = nI d0 ∧ s0 < m ∧ v0 < n ∧ 1 ≤ d0 ∧ d0 ≤ 30 ∧ 30 ≤ d0 + z
theorem gC_eq {ki : Nat → Int32} {co : Nat → Int64} {pr pa tw pn pl po pf pt ru le li bn : Nat → Int32} {n : Nat} {G : Sp} (h : ∃ va mk, G = gC ki co pr pa tw pn pl po pf pt ru le li bn n va mk) :
    gK G = ki ∧ gPb G = cpb ki pr ∧ gPt G = cpt ki pr pa ∧ gRu G = ru ∧ gLe G = le ∧ gLi G = li ∧ gBn G = bn ∧ gPL G = (fun s v k => s < 24 → v < n → k < 17 → ¬ ru (s * 29 + k) < 0 → plS ki co (cpb ki pr) (cpt ki pr pa) tw pn pl po pf pt k v (ru (s * 29 + k))) := by
  obtain ⟨va, mk, rfl⟩ := h
  exact ⟨rfl, rfl, rfl, rfl, rfl, rfl, rfl, rfl⟩
theorem JP_s {ki : Nat → Int32} {co : Nat → Int64} {pr pa pn po ru le li bn : Nat → Int32} {nv ns tl s v d : Int32} {z n m s0 v0 d0 : Nat} (h : JP ki co pr pa pn po ru le li bn nv ns tl z s v d n m s0 v0 d0) : s0 < 24 ∧ v0 < 40 ∧ m ≤ 24 ∧ n ≤ 40 := by
  obtain ⟨_, _, hS, _, _, _, _, h1, h2, _⟩ := h
  have h3 := hS.2.2.1
  have h4 := hS.1.1
  omega
theorem JP.re {ki : Nat → Int32} {co : Nat → Int64} {pr pa pn po ru le li bn : Nat → Int32} {nv ns tl tl' s v d : Int32} {z n m s0 v0 d0 : Nat} (h : JP ki co pr pa pn po ru le li bn nv ns tl z s v d n m s0 v0 d0) (ht : tl' = 0 ∨ tl' = 1) : JP ki co pr pa pn po ru le li bn nv ns tl' z s v d n m s0 v0 d0 :=
  ⟨h.1, h.2.1, h.2.2.1, ht, h.2.2.2.2⟩
theorem px24 {s v : Nat} : nI v * 24 + nI s = nI (v * 24 + s) := by rw [nI_mulR, nI_add]
theorem imax {a b : Nat} (ha : a < 2 ^ 30) (hb : b < 2 ^ 30) : (if nI a < nI b + 1 then nI b + 1 else nI a) = nI (max a (b + 1)) := by
  rw [nI_1]
  by_cases h : a < b + 1
  · rw [if_pos ((nI_ltI (by omega) (by omega)).mpr h)]; congr 1; omega
  · rw [if_neg (fun q => h ((nI_ltI (by omega) (by omega)).mp q))]; congr 1; omega
/-- an asked pair -/
theorem Ef.ask {G : Sp} {R : Nat → Nat → Prop} {lv : Nat → Nat} {s v x w dp : Nat} {ch ma ch1 ma1 : Nat → Int32} {br br1 : Nat → Int64} {tl tl1 tl2 : Int32} {rr : Bool} (hC : Ctx G R lv) (hA : Ask G s v x w) (hd1 : 1 ≤ dp) (hd : dp < 30)
    (h1 : (¬ ch (w * 24 + x) = 0 ∧ ch1 = ch ∧ ma1 = ma ∧ br1 = br ∧ tl1 = tl) ∨ (ch (w * 24 + x) = 0 ∧ Wd G R lv x w (dp + 1) ch ma br tl ch1 ma1 br1 tl1))
    (h2 : tl2 = if nI dp + ch1 (w * 24 + x) ≤ 30 then tl1 else 1) (hr : rr = true ↔ br1 (w * 24 + x) = 0) :
    Ef G R lv s v dp (fun x' w' => x' = x ∧ w' = w) (fun _ => False) (fun _ => False) ((rr = true ↔ gVa G x w) ∧ ∀ i, i < 32 → (bt (ma1 (w * 24 + x)) i = true ↔ gMk G x w i)) ch ma br tl (upd ch1 (v * 24 + s) (if ch1 (v * 24 + s) < ch1 (w * 24 + x) + 1 then ch1 (w * 24 + x) + 1 else ch1 (v * 24 + s))) ma1 br1 tl2 := by
  refine ⟨fun ht => ?_, fun ht hR A B M hs => ?_⟩
  · have : tl1 = 1 := by
      rcases h1 with ⟨_, _, _, _, e⟩ | ⟨_, hw⟩
      · rw [e]; exact ht
      · exact hw.1 ht
    rw [h2, this]; split <;> rfl
  · obtain ⟨hRx, hmu⟩ := hC.2.1 s v x w hR hA
    obtain ⟨hs24, hv40⟩ := hC.2.2.1 s v hR
    obtain ⟨hx24, hw40⟩ := hC.2.2.1 x w hRx
    have hne : w * 24 + x ≠ v * 24 + s := pr_ne hs24 hx24 (fun q => by rw [q.1, q.2] at hmu; omega)
    have claim : (tl1 = 1 ∧ Path G (32 - dp) s v) ∨ (tl1 = 0 ∧ JGood G ch1 ma1 br1 x w ∧ St G R lv s v dp A B M ch1 ma1 br1 ∧ Fr lv s v ch ma br ch1 ma1 br1) := by
      rcases h1 with ⟨q, rfl, rfl, rfl, rfl⟩ | ⟨q, hw⟩
      · refine Or.inr ⟨ht, ?_, hs, Fr.refl⟩
        rcases hs.1 x w hx24 hw40 hmu with z | z
        · exact absurd z.1 q
        · exact z.2
      · have hz : JZero ch ma br x w := by
          rcases hs.1 x w hx24 hw40 hmu with z | z
          · exact z
          · obtain ⟨⟨c, e1, e2, e3, _⟩, _⟩ := z.2
            rw [e1] at q; exact absurd q (nI_nz e2 (by omega))
        rcases hw.2 ht hRx (fun y u hy hu hl => hs.1 y u hy hu (by omega)) hz (by omega) with ⟨e1, e2⟩ | ⟨e1, e2, e3, e4⟩
        · refine Or.inl ⟨e1, ?_⟩
          rw [show 32 - dp = (32 - (dp + 1)) + 1 by omega, Path.s (by omega)]
          exact ⟨x, w, hA, e2⟩
        · obtain ⟨k1, k2⟩ := St.sub hC hR hs hRx hmu e2 e3 e4
          exact Or.inr ⟨e1, e2, k1, k2 hz⟩
    rcases claim with ⟨e1, e2⟩ | ⟨e1, e2, e3, e4⟩
    · refine Or.inl ⟨?_, e2⟩
      rw [h2, e1]; split <;> rfl
    · obtain ⟨cx, g1, g2, g3, g4⟩ := e2.1
      obtain ⟨c, k1, k2, k3, k4⟩ := e3.2.1
      have hsum : nI dp + ch1 (w * 24 + x) ≤ 30 ↔ dp + cx ≤ 30 := by
        rw [g1, nI_add]; exact nI_leR (n := 30) (by decide) (by omega)
      by_cases hle : dp + cx ≤ 30
      · refine Or.inr ⟨by rw [h2, if_pos (hsum.mpr hle)]; exact e1, ?_, e4.trans (Fr.own hs24 (fun q hq => ⟨upd_ne hq, rfl, rfl⟩)), ?_, fun i hi => e2.2.2.1 i hi⟩
        · rw [g1, k1, imax (by omega) (by omega)]
          exact (St.grow hs24 e3 hA hne k1 (by omega) g1 g2 g3 hle g4).congr (fun _ _ => Iff.rfl) (fun _ => ⟨Or.inl, fun q => q.elim id False.elim⟩) (fun _ => ⟨Or.inl, fun q => q.elim id False.elim⟩)
        · rw [hr, bL_z, (hC.1 x w hRx).1]
          constructor
          · intro q b hb hbad
            exact q b (by omega) ((e2.2.1 b (by omega)).mpr ⟨hb, hbad⟩)
          · intro q i hi hb
            obtain ⟨b1, b2⟩ := (e2.2.1 i hi).mp hb
            exact q i b1 b2
      · refine Or.inl ⟨by rw [h2, if_neg (fun q => hle (hsum.mp q))], ?_⟩
        have hp : Path G (cx + 1) s v := (Path.s (by omega)).mpr ⟨x, w, hA, (g4 cx g2).mp (Nat.le_refl _)⟩
        exact Path.down (cx + 1) (32 - dp) (by omega) s v hp
/-- no more than 30 pairs: the thirtieth asks for none -/
theorem Ef.stop {G : Sp} {R : Nat → Nat → Prop} {lv : Nat → Nat} {s v x w dp : Nat} {ch ma : Nat → Int32} {br : Nat → Int64} {tl : Int32} {Z : Prop} {A1 : Nat → Nat → Prop} {B1 M1 : Nat → Prop} (hA : Ask G s v x w) (h : tl = 1 ∨ 30 ≤ dp) : Ef G R lv s v dp A1 B1 M1 Z ch ma br tl ch ma br 1 := by
  refine ⟨fun _ => rfl, fun ht _ _ _ _ _ => Or.inl ⟨rfl, ?_⟩⟩
  have hd : 30 ≤ dp := h.resolve_left (fun q => by rw [ht] at q; exact absurd q (by decide))
  exact Path.down 2 (32 - dp) (by omega) s v ⟨x, w, hA, trivial⟩
theorem Ef.weak {G : Sp} {R : Nat → Nat → Prop} {lv : Nat → Nat} {s v dp : Nat} {A : Nat → Nat → Prop} {B M : Nat → Prop} {Z Z' : Prop} {ch ma ch' ma' : Nat → Int32} {br br' : Nat → Int64} {tl tl' : Int32} (h : Ef G R lv s v dp A B M Z ch ma br tl ch' ma' br' tl') (hZ : Z → Z') : Ef G R lv s v dp A B M Z' ch ma br tl ch' ma' br' tl' := h.congr (fun _ _ => Iff.rfl) (fun _ => Iff.rfl) (fun _ => Iff.rfl) hZ
def WQ (l : Launch) (D : va_G) (a : Nat → Nat) (cI cJ cZ : ClassId) (z : Nat) : Prop := ∀ (ch : Nat → Int32) (ma : Nat → Int32) (br : Nat → Int64) (tl : Int32) (ki : Nat → Int32) (co : Nat → Int64) (pr : Nat → Int32) (pa : Nat → Int32) (tw : Nat → Int32) (nv : Int32) (sv : Int32) (ru : Nat → Int32) (le : Nat → Int32) (li : Nat → Int32) (bn : Nat → Int32) (ip : Nat → Int32) (aw : Nat → Int32) (ns : Int32) (pn : Nat → Int32) (pl : Nat → Int32) (po : Nat → Int32) (pf : Nat → Int32) (pt : Nat → Int32) (xs xv xd : Int32), (∃ n0 m0 s0 v0 d0 : Nat, JP ki co pr pa pn po ru le li bn nv ns tl (z - 1) xs xv xd n0 m0 s0 v0 d0 ∧ 31 ≤ d0 + z) → Em (S := (Nat → Int32) × (Nat → Int32) × (Nat → Int64) × Int32) l y_Ju_weigh b_Ju_weigh 7 none (5 * z + 9) (200 * z + 60) [.ref (a 20), .int xs, .int xv, .int xd] D (tyA cI cJ cZ) (wJ a cI cJ ch ma br tl ++ wV a cI cJ ki co pr pa tw nv sv ++ wS a cI ru le li bn ip aw ns ++ wL a ++ wP a cI cZ pn pl po pf pt) (fun uu => ((uu.2.2.2 = 0 ∨ uu.2.2.2 = 1) ∧ (tl = 1 → uu.2.2.2 = 1) ∧ ∀ (G : Sp) (R : Nat → Nat → Prop) (lv : Nat → Nat), (∃ va mk, G = gC ki co pr pa tw pn pl po pf pt ru le li bn nv.toNatClampNeg va mk) → Ctx G R lv → Wd G R lv xs.toNatClampNeg xv.toNatClampNeg xd.toNatClampNeg ch ma br tl uu.1 uu.2.1 uu.2.2.1 uu.2.2.2)) (fun _ => none) (fun uu => wJ a cI cJ uu.1 uu.2.1 uu.2.2.1 uu.2.2.2 ++ wV a cI cJ ki co pr pa tw nv sv ++ wS a cI ru le li bn ip aw ns ++ wL a ++ wP a cI cZ pn pl po pf pt)
