/-! ===== throws ===== -/
def rtN : List String := ["java/lang/RuntimeException", "java/lang/Exception"]
/-- words of the tables that are carried by themselves -/
def NG : List Cond := [.castable "java/lang/IllegalArgumentException" "java/lang/IllegalArgumentException", .declares ⟨"java/lang/RuntimeException", "<init>", "()V"⟩, .declares ⟨"java/lang/RuntimeException", "<init>", "(Ljava/lang/String;)V"⟩, .declares ⟨"java/lang/Exception", "<init>", "()V"⟩, .declares ⟨"java/lang/Exception", "<init>", "(Ljava/lang/String;)V"⟩, .declares ⟨"java/lang/Throwable", "<init>", "()V"⟩, .declares ⟨"java/lang/Throwable", "<init>", "(Ljava/lang/String;)V"⟩, .castable "java/lang/IllegalStateException" "java/lang/IllegalStateException", .castable "java/lang/UnsupportedOperationException" "java/lang/UnsupportedOperationException", .castable "java/lang/IndexOutOfBoundsException" "java/lang/IndexOutOfBoundsException"]
theorem NG_in : ∀ w ∈ NG, w ∈ lw_tbl := by
  intro w h
  have hp : NG = ([191, 192, 193, 194, 195, 196, 197, 268, 672, 711] : List Nat).filterMap (fun i => tables_1[i]?) := by decide +kernel
  rw [hp] at h
  obtain ⟨i, -, hi⟩ := List.mem_filterMap.mp h
  exact List.mem_append_right _ (List.mem_of_getElem? hi)
def STRS : List (Nat × String) := [(48, "the kind is not 0, 4 or 5"), (204, "there are 40 values"), (63, "m is not -99999 .. 99999, or e not -3 .. 3"), (75, "t tells no text"), (81, "r is no row, or v not 0 .. r - 1"), (89, "the row has 8 elements"), (99, "r has no members, the name is not 0 .. 11, or v not 0 .. r - 1"), (104, "there is no such pattern, or letters or often is out of range"), (109, "the pattern has 6 items"), (115, "there is no such pattern"), (125, "there are 24 schemas"), (134, "there is no such schema or keyword"), (139, "x is neither -1 nor what the keyword takes"), (148, "the keyword has 3 schemas"), (153, "there is no such schema, keyword or name"), (160, "there is no such schema or value"), (168, "a schema leads to itself in place"), (175, "a chain of more than 30 judged pairs"), (189, "there is no such fault"), (195, "there is no such value")]
def nwOk : Cond → Bool
  | .declares _ => true
  | .castable _ _ => true
  | _ => false
theorem NG_ok : ∀ w ∈ NG, nwOk w = true := by decide +kernel
theorem nw_moved {w : Cond} (hw : nwOk w = true) {u U : State} (hvm : u.vm.Alike U.vm) (h : va_Nw w u) : va_Nw w U := by
  have tr : ∀ {c : Cond}, c.onTables = true → c.before #[] (u.setVm U.vm) = true → c.before #[] U = true := by
    intro c hc h
    have e := Cond.onTables_vm (A := #[]) (A' := #[]) (U := u) (U' := U) U.vm c hc
    have hU : U.setVm U.vm = U := rfl
    rw [hU] at e
    rw [← e]
    exact h
  unfold nwOk at hw
  split at hw
  · exact tr rfl (by rw [Cond.declares_setVm hvm]; exact h)
  · exact tr rfl (by rw [Cond.castable_setVm hvm]; exact h)
  · cases hw
/-- the static row THOUSANDTHS -/
def thou : Nat → Int32 := fun j => match j with
  | 0 => 1
  | 1 => 10
  | 2 => 100
  | 3 => 1000
  | 4 => 10000
  | 5 => 100000
  | _ => 1000000
/-- the static row SPEAKS_OF -/
def spk : Nat → Int32 := fun j => if j < 3 then -1 else if j < 8 then 2 else if j < 11 then 3 else if j < 14 then 4 else 5
/-- what a throw asks of the state, beside the words of W0: Throwable's two statics (no cells of A), the words NG, the messages -/
def eX (A : Nat → Prop) (U : State) (H : Heap) : Prop := vx_Zq Bundle.tN "UNASSIGNED_STACK" Bundle.steD A U H ∧ vx_Zq Bundle.tN "SUPPRESSED_SENTINEL" Bundle.listD A U H ∧ (∀ w ∈ NG, va_Nw w U) ∧ (∀ q ∈ STRS, ∃ sa, vk_R "SchemaJudge" q.1 q.2 sa U) ∧ (∃ tt, va_Z "SchemaJudge" "THOUSANDTHS" "[I" (.ref tt) A U H ∧ va_T .int tt 7 (fun j => .int (thou j)) A U H) ∧ ∃ tt, va_Z "SchemaJudge$Plain" "SPEAKS_OF" "[I" (.ref tt) A U H ∧ va_T .int tt 17 (fun j => .int (spk j)) A U H
theorem eX.warm {A : Nat → Prop} {s U : State} {H : Heap} (hW : s.WarmedH U.vm) (h : eX A s H) : eX A U H :=
  ⟨vx_Zq.moved hW.alike h.1, vx_Zq.moved hW.alike h.2.1, fun w hw => nw_moved (NG_ok w hw) hW.alike (h.2.2.1 w hw), fun q hq => by obtain ⟨sa, hs⟩ := h.2.2.2.1 q hq; exact ⟨sa, vk_R.warm hW hs⟩, by obtain ⟨tt, h1, h2⟩ := h.2.2.2.2.1; exact ⟨tt, h1.moved hW.alike, h2.moved hW.alike⟩, by obtain ⟨tt, h1, h2⟩ := h.2.2.2.2.2; exact ⟨tt, h1.moved hW.alike, h2.moved hW.alike⟩⟩
theorem eX.kept {A : Nat → Prop} {U : State} {H H1 : Heap} (h : eX A U H) (hq : ∀ a : Nat, a < H.size → ¬ A a → H1[a]? = H[a]?) : eX A U H1 := ⟨h.1.kept hq, h.2.1.kept hq, h.2.2.1, h.2.2.2.1, by obtain ⟨tt, h1, h2⟩ := h.2.2.2.2.1; exact ⟨tt, h1.kept hq, h2.kept hq⟩, by obtain ⟨tt, h1, h2⟩ := h.2.2.2.2.2; exact ⟨tt, h1.kept hq, h2.kept hq⟩⟩
theorem eX.narrow {A B : Nat → Prop} {U : State} {H : Heap} (h : eX A U H) (hAB : ∀ q, B q → A q) : eX B U H := ⟨h.1.narrow hAB, h.2.1.narrow hAB, h.2.2.1, h.2.2.2.1, by obtain ⟨tt, h1, h2⟩ := h.2.2.2.2.1; exact ⟨tt, h1.narrow hAB, h2.narrow hAB⟩, by obtain ⟨tt, h1, h2⟩ := h.2.2.2.2.2; exact ⟨tt, h1.narrow hAB, h2.narrow hAB⟩⟩
theorem eX.calling {A : Nat → Prop} {U : State} {H : Heap} {g : JFrame} {mk : MethodId} {a : Array Value} (h : eX A U H) : eX A (U.calling g mk a) H :=
  ⟨vx_Zq.moved (u := U) (U := U.calling g mk a) (Vm.Alike.refl U.vm) h.1, vx_Zq.moved (u := U) (U := U.calling g mk a) (Vm.Alike.refl U.vm) h.2.1, fun w hw => nw_moved (u := U) (U := U.calling g mk a) (NG_ok w hw) (Vm.Alike.refl U.vm) (h.2.2.1 w hw), fun q hq => by obtain ⟨sa, hs⟩ := h.2.2.2.1 q hq; exact ⟨sa, vk_R.same (u := U) (U := U.calling g mk a) rfl hs⟩, by obtain ⟨tt, h1, h2⟩ := h.2.2.2.2.1; exact ⟨tt, va_Z.moved (u := U) (U := U.calling g mk a) (Vm.Alike.refl U.vm) h1, va_T.moved (u := U) (U := U.calling g mk a) (Vm.Alike.refl U.vm) h2⟩, by obtain ⟨tt, h1, h2⟩ := h.2.2.2.2.2; exact ⟨tt, va_Z.moved (u := U) (U := U.calling g mk a) (Vm.Alike.refl U.vm) h1, va_T.moved (u := U) (U := U.calling g mk a) (Vm.Alike.refl U.vm) h2⟩⟩
/-- an exception class that SchemaJudge makes by its entries ik, ic -/
def ExcOK (E : String) (ik ic : Nat) : Prop := Bundle.fit E = true ∧ Cond.classLink "SchemaJudge" ik E ∈ W0 ∧ Cond.initialized E ∈ W0 ∧ (∀ w ∈ (vx_atS "SchemaJudge" ic E rtN).filter goodWord, w ∈ W0) ∧ (∀ w ∈ (vx_atS "SchemaJudge" ic E rtN).filter (fun w => !goodWord w), w ∈ NG) ∧ ∀ w ∈ Cond.classLink "SchemaJudge" ik E :: Cond.initialized E :: vx_atS "SchemaJudge" ic E rtN, vx_ot w = true
theorem inW0 {ws : List Cond} (h : ∀ w ∈ ws, w ∈ lw_tbl) (hg : ∀ w ∈ ws, goodWord w = true) : ∀ w ∈ ws, w ∈ W0 := fun w hw => W0_of (h w hw) (hg w hw)
def IAE : String := "java/lang/IllegalArgumentException"
theorem at_IAE : ∀ w ∈ (vx_atS "SchemaJudge" 50 "java/lang/IllegalArgumentException" rtN).filter goodWord, w ∈ tables_1 := by decide +kernel
theorem x_IAE : ExcOK "java/lang/IllegalArgumentException" 46 50 := ⟨by decide +kernel, W0_at 189 (by decide +kernel) (by decide +kernel), W0_at 12 (by decide +kernel) (by decide +kernel), inW0 (fun w h => List.mem_append_right _ (at_IAE w h)) (fun w h => (List.mem_filter.mp h).2), by decide +kernel, by decide +kernel⟩
def ISE : String := "java/lang/IllegalStateException"
theorem at_ISE : ∀ w ∈ (vx_atS "SchemaJudge" 91 "java/lang/IllegalStateException" rtN).filter goodWord, w ∈ tables_1 := by decide +kernel
theorem x_ISE : ExcOK "java/lang/IllegalStateException" 87 91 := ⟨by decide +kernel, W0_at 266 (by decide +kernel) (by decide +kernel), W0_at 13 (by decide +kernel) (by decide +kernel), inW0 (fun w h => List.mem_append_right _ (at_ISE w h)) (fun w h => (List.mem_filter.mp h).2), by decide +kernel, by decide +kernel⟩
def UOE : String := "java/lang/UnsupportedOperationException"
theorem at_UOE : ∀ w ∈ (vx_atS "SchemaJudge" 177 "java/lang/UnsupportedOperationException" rtN).filter goodWord, w ∈ tables_1 := by decide +kernel
theorem x_UOE : ExcOK "java/lang/UnsupportedOperationException" 173 177 := ⟨by decide +kernel, W0_at 670 (by decide +kernel) (by decide +kernel), W0_at 17 (by decide +kernel) (by decide +kernel), inW0 (fun w h => List.mem_append_right _ (at_UOE w h)) (fun w h => (List.mem_filter.mp h).2), by decide +kernel, by decide +kernel⟩
def IOB : String := "java/lang/IndexOutOfBoundsException"
theorem at_IOB : ∀ w ∈ (vx_atS "SchemaJudge" 191 "java/lang/IndexOutOfBoundsException" rtN).filter goodWord, w ∈ tables_1 := by decide +kernel
theorem x_IOB : ExcOK "java/lang/IndexOutOfBoundsException" 187 191 := ⟨by decide +kernel, W0_at 709 (by decide +kernel) (by decide +kernel), W0_at 19 (by decide +kernel) (by decide +kernel), inW0 (fun w h => List.mem_append_right _ (at_IOB w h)) (fun w h => (List.mem_filter.mp h).2), by decide +kernel, by decide +kernel⟩
