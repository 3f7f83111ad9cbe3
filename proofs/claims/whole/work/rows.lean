section
-- ===== PART A: goes FIRST, ahead of the names: the tables' words, and 'selects' of the private methods out of them =====
/-- a private method of a class that the tables say can be made, by its rows of tables_1 -/
def lw_okq (q : MethodName × Nat) : Prop := (q.1.cls ≠ "java/lang/invoke/MethodHandle" ∧ q.1.cls ≠ "java/lang/invoke/VarHandle") ∧ Cond.instantiable q.1.cls q.2 ∈ tables_1 ∧ Cond.privateMethod q.1 ∈ tables_1 ∧ Cond.instanceMethod q.1 ∈ tables_1
theorem lw_p0 : lw_okq (⟨"MemberChooser$Types", "hasFace", "(II)Z"⟩, 6) := ⟨⟨by decide +kernel, by decide +kernel⟩, List.mem_of_getElem? (i := 25) (by decide +kernel), List.mem_of_getElem? (i := 193) (by decide +kernel), List.mem_of_getElem? (i := 194) (by decide +kernel)⟩
theorem lw_p1 : lw_okq (⟨"MemberChooser$Types", "raiseAllBelow", "(II)V"⟩, 6) := ⟨⟨by decide +kernel, by decide +kernel⟩, List.mem_of_getElem? (i := 25) (by decide +kernel), List.mem_of_getElem? (i := 200) (by decide +kernel), List.mem_of_getElem? (i := 201) (by decide +kernel)⟩
theorem lw_p2 : lw_okq (⟨"MemberChooser$Chooser", "gatherMeant", "(II)V"⟩, 8) := ⟨⟨by decide +kernel, by decide +kernel⟩, List.mem_of_getElem? (i := 91) (by decide +kernel), List.mem_of_getElem? (i := 221) (by decide +kernel), List.mem_of_getElem? (i := 222) (by decide +kernel)⟩
theorem lw_p3 : lw_okq (⟨"MemberChooser$Chooser", "appendMembers", "(II)V"⟩, 8) := ⟨⟨by decide +kernel, by decide +kernel⟩, List.mem_of_getElem? (i := 91) (by decide +kernel), List.mem_of_getElem? (i := 232) (by decide +kernel), List.mem_of_getElem? (i := 233) (by decide +kernel)⟩
theorem lw_p4 : lw_okq (⟨"MemberChooser$Chooser", "isHidden", "(I)Z"⟩, 8) := ⟨⟨by decide +kernel, by decide +kernel⟩, List.mem_of_getElem? (i := 91) (by decide +kernel), List.mem_of_getElem? (i := 240) (by decide +kernel), List.mem_of_getElem? (i := 241) (by decide +kernel)⟩
theorem lw_p5 : lw_okq (⟨"java/lang/Throwable", "fillInStackTrace", "(I)Ljava/lang/Throwable;"⟩, 6) := ⟨⟨by decide +kernel, by decide +kernel⟩, List.mem_of_getElem? (i := 330) (by decide +kernel), List.mem_of_getElem? (i := 328) (by decide +kernel), List.mem_of_getElem? (i := 329) (by decide +kernel)⟩
theorem lw_p6 : lw_okq (⟨"MemberChooser", "areParameters", "(IJ)Z"⟩, 6) := ⟨⟨by decide +kernel, by decide +kernel⟩, List.mem_of_getElem? (i := 17) (by decide +kernel), List.mem_of_getElem? (i := 403) (by decide +kernel), List.mem_of_getElem? (i := 404) (by decide +kernel)⟩
theorem lw_p7 : lw_okq (⟨"MemberChooser$KeptCalls", "move", "(II)V"⟩, 6) := ⟨⟨by decide +kernel, by decide +kernel⟩, List.mem_of_getElem? (i := 123) (by decide +kernel), List.mem_of_getElem? (i := 427) (by decide +kernel), List.mem_of_getElem? (i := 428) (by decide +kernel)⟩
theorem lw_p8 : lw_okq (⟨"MemberChooser", "areValues", "(IJ)Z"⟩, 6) := ⟨⟨by decide +kernel, by decide +kernel⟩, List.mem_of_getElem? (i := 17) (by decide +kernel), List.mem_of_getElem? (i := 444) (by decide +kernel), List.mem_of_getElem? (i := 445) (by decide +kernel)⟩
theorem lw_p9 : lw_okq (⟨"MemberChooser", "isValue", "(I)Z"⟩, 6) := ⟨⟨by decide +kernel, by decide +kernel⟩, List.mem_of_getElem? (i := 17) (by decide +kernel), List.mem_of_getElem? (i := 448) (by decide +kernel), List.mem_of_getElem? (i := 449) (by decide +kernel)⟩
theorem lw_p10 : lw_okq (⟨"MemberChooser$Chooser", "gatherFitting", "(IJ)V"⟩, 8) := ⟨⟨by decide +kernel, by decide +kernel⟩, List.mem_of_getElem? (i := 91) (by decide +kernel), List.mem_of_getElem? (i := 462) (by decide +kernel), List.mem_of_getElem? (i := 463) (by decide +kernel)⟩
theorem lw_p11 : lw_okq (⟨"MemberChooser$Chooser", "fits", "(IIJ)Z"⟩, 8) := ⟨⟨by decide +kernel, by decide +kernel⟩, List.mem_of_getElem? (i := 91) (by decide +kernel), List.mem_of_getElem? (i := 466) (by decide +kernel), List.mem_of_getElem? (i := 467) (by decide +kernel)⟩
theorem lw_p12 : lw_okq (⟨"MemberChooser$Chooser", "takesSoMany", "(II)Z"⟩, 8) := ⟨⟨by decide +kernel, by decide +kernel⟩, List.mem_of_getElem? (i := 91) (by decide +kernel), List.mem_of_getElem? (i := 470) (by decide +kernel), List.mem_of_getElem? (i := 471) (by decide +kernel)⟩
theorem lw_p13 : lw_okq (⟨"MemberChooser$Chooser", "goesTo", "(II)Z"⟩, 8) := ⟨⟨by decide +kernel, by decide +kernel⟩, List.mem_of_getElem? (i := 91) (by decide +kernel), List.mem_of_getElem? (i := 482) (by decide +kernel), List.mem_of_getElem? (i := 483) (by decide +kernel)⟩
theorem lw_p14 : lw_okq (⟨"MemberChooser$Chooser", "mostSpecific", "()I"⟩, 8) := ⟨⟨by decide +kernel, by decide +kernel⟩, List.mem_of_getElem? (i := 91) (by decide +kernel), List.mem_of_getElem? (i := 491) (by decide +kernel), List.mem_of_getElem? (i := 492) (by decide +kernel)⟩
theorem lw_p15 : lw_okq (⟨"MemberChooser$Chooser", "isMoreSpecificThanAll", "(I)Z"⟩, 8) := ⟨⟨by decide +kernel, by decide +kernel⟩, List.mem_of_getElem? (i := 91) (by decide +kernel), List.mem_of_getElem? (i := 495) (by decide +kernel), List.mem_of_getElem? (i := 496) (by decide +kernel)⟩
def lw_privs_1 : List (MethodName × Nat) := [(⟨"MemberChooser$Types", "hasFace", "(II)Z"⟩, 6), (⟨"MemberChooser$Types", "raiseAllBelow", "(II)V"⟩, 6), (⟨"MemberChooser$Chooser", "gatherMeant", "(II)V"⟩, 8), (⟨"MemberChooser$Chooser", "appendMembers", "(II)V"⟩, 8), (⟨"MemberChooser$Chooser", "isHidden", "(I)Z"⟩, 8), (⟨"java/lang/Throwable", "fillInStackTrace", "(I)Ljava/lang/Throwable;"⟩, 6), (⟨"MemberChooser", "areParameters", "(IJ)Z"⟩, 6), (⟨"MemberChooser$KeptCalls", "move", "(II)V"⟩, 6), (⟨"MemberChooser", "areValues", "(IJ)Z"⟩, 6), (⟨"MemberChooser", "isValue", "(I)Z"⟩, 6), (⟨"MemberChooser$Chooser", "gatherFitting", "(IJ)V"⟩, 8), (⟨"MemberChooser$Chooser", "fits", "(IIJ)Z"⟩, 8), (⟨"MemberChooser$Chooser", "takesSoMany", "(II)Z"⟩, 8), (⟨"MemberChooser$Chooser", "goesTo", "(II)Z"⟩, 8), (⟨"MemberChooser$Chooser", "mostSpecific", "()I"⟩, 8), (⟨"MemberChooser$Chooser", "isMoreSpecificThanAll", "(I)Z"⟩, 8)]
theorem lw_r1 : ∀ q ∈ lw_privs_1, lw_okq q := List.forall_mem_cons.mpr ⟨lw_p0, List.forall_mem_cons.mpr ⟨lw_p1, List.forall_mem_cons.mpr ⟨lw_p2, List.forall_mem_cons.mpr ⟨lw_p3, List.forall_mem_cons.mpr ⟨lw_p4, List.forall_mem_cons.mpr ⟨lw_p5, List.forall_mem_cons.mpr ⟨lw_p6, List.forall_mem_cons.mpr ⟨lw_p7, List.forall_mem_cons.mpr ⟨lw_p8, List.forall_mem_cons.mpr ⟨lw_p9, List.forall_mem_cons.mpr ⟨lw_p10, List.forall_mem_cons.mpr ⟨lw_p11, List.forall_mem_cons.mpr ⟨lw_p12, List.forall_mem_cons.mpr ⟨lw_p13, List.forall_mem_cons.mpr ⟨lw_p14, List.forall_mem_cons.mpr ⟨lw_p15, fun _ h => absurd h List.not_mem_nil⟩⟩⟩⟩⟩⟩⟩⟩⟩⟩⟩⟩⟩⟩⟩⟩
theorem lw_p16 : lw_okq (⟨"MemberChooser$Chooser", "isMoreSpecific", "(II)Z"⟩, 8) := ⟨⟨by decide +kernel, by decide +kernel⟩, List.mem_of_getElem? (i := 91) (by decide +kernel), List.mem_of_getElem? (i := 499) (by decide +kernel), List.mem_of_getElem? (i := 500) (by decide +kernel)⟩
theorem lw_p17 : lw_okq (⟨"MemberChooser$KeptCalls", "letGoFirst", "()V"⟩, 6) := ⟨⟨by decide +kernel, by decide +kernel⟩, List.mem_of_getElem? (i := 123) (by decide +kernel), List.mem_of_getElem? (i := 510) (by decide +kernel), List.mem_of_getElem? (i := 511) (by decide +kernel)⟩
theorem lw_p18 : lw_okq (⟨"MemberChooserModel", "isOwn", "(I)Z"⟩, 28) := ⟨⟨by decide +kernel, by decide +kernel⟩, List.mem_of_getElem? (i := 546) (by decide +kernel), List.mem_of_getElem? (i := 645) (by decide +kernel), List.mem_of_getElem? (i := 646) (by decide +kernel)⟩
theorem lw_p19 : lw_okq (⟨"MemberChooserModel", "add", "(ZI)I"⟩, 28) := ⟨⟨by decide +kernel, by decide +kernel⟩, List.mem_of_getElem? (i := 546) (by decide +kernel), List.mem_of_getElem? (i := 649) (by decide +kernel), List.mem_of_getElem? (i := 650) (by decide +kernel)⟩
theorem lw_p20 : lw_okq (⟨"MemberChooserModel", "isType", "(I)Z"⟩, 28) := ⟨⟨by decide +kernel, by decide +kernel⟩, List.mem_of_getElem? (i := 546) (by decide +kernel), List.mem_of_getElem? (i := 661) (by decide +kernel), List.mem_of_getElem? (i := 662) (by decide +kernel)⟩
theorem lw_p21 : lw_okq (⟨"MemberChooserModel", "isUnder", "(II)Z"⟩, 28) := ⟨⟨by decide +kernel, by decide +kernel⟩, List.mem_of_getElem? (i := 546) (by decide +kernel), List.mem_of_getElem? (i := 665) (by decide +kernel), List.mem_of_getElem? (i := 666) (by decide +kernel)⟩
theorem lw_p22 : lw_okq (⟨"MemberChooserModel", "mark", "(I)V"⟩, 28) := ⟨⟨by decide +kernel, by decide +kernel⟩, List.mem_of_getElem? (i := 546) (by decide +kernel), List.mem_of_getElem? (i := 669) (by decide +kernel), List.mem_of_getElem? (i := 670) (by decide +kernel)⟩
theorem lw_p23 : lw_okq (⟨"MemberChooserModel", "letGo", "(I)V"⟩, 28) := ⟨⟨by decide +kernel, by decide +kernel⟩, List.mem_of_getElem? (i := 546) (by decide +kernel), List.mem_of_getElem? (i := 685) (by decide +kernel), List.mem_of_getElem? (i := 686) (by decide +kernel)⟩
theorem lw_p24 : lw_okq (⟨"MemberChooserModel", "move", "(II)V"⟩, 28) := ⟨⟨by decide +kernel, by decide +kernel⟩, List.mem_of_getElem? (i := 546) (by decide +kernel), List.mem_of_getElem? (i := 689) (by decide +kernel), List.mem_of_getElem? (i := 690) (by decide +kernel)⟩
theorem lw_p25 : lw_okq (⟨"MemberChooserModel", "means", "(II)V"⟩, 28) := ⟨⟨by decide +kernel, by decide +kernel⟩, List.mem_of_getElem? (i := 546) (by decide +kernel), List.mem_of_getElem? (i := 697) (by decide +kernel), List.mem_of_getElem? (i := 698) (by decide +kernel)⟩
theorem lw_p26 : lw_okq (⟨"MemberChooserModel", "lineUp", "(I)V"⟩, 28) := ⟨⟨by decide +kernel, by decide +kernel⟩, List.mem_of_getElem? (i := 546) (by decide +kernel), List.mem_of_getElem? (i := 701) (by decide +kernel), List.mem_of_getElem? (i := 702) (by decide +kernel)⟩
theorem lw_p27 : lw_okq (⟨"MemberChooserModel", "standFaces", "(I)V"⟩, 28) := ⟨⟨by decide +kernel, by decide +kernel⟩, List.mem_of_getElem? (i := 546) (by decide +kernel), List.mem_of_getElem? (i := 705) (by decide +kernel), List.mem_of_getElem? (i := 706) (by decide +kernel)⟩
theorem lw_p28 : lw_okq (⟨"MemberChooserModel", "stand", "(I)Z"⟩, 28) := ⟨⟨by decide +kernel, by decide +kernel⟩, List.mem_of_getElem? (i := 546) (by decide +kernel), List.mem_of_getElem? (i := 709) (by decide +kernel), List.mem_of_getElem? (i := 710) (by decide +kernel)⟩
theorem lw_p29 : lw_okq (⟨"MemberChooserModel", "areSame", "(II)Z"⟩, 28) := ⟨⟨by decide +kernel, by decide +kernel⟩, List.mem_of_getElem? (i := 546) (by decide +kernel), List.mem_of_getElem? (i := 713) (by decide +kernel), List.mem_of_getElem? (i := 714) (by decide +kernel)⟩
theorem lw_p30 : lw_okq (⟨"MemberChooserModel", "workOut", "(III)I"⟩, 28) := ⟨⟨by decide +kernel, by decide +kernel⟩, List.mem_of_getElem? (i := 546) (by decide +kernel), List.mem_of_getElem? (i := 721) (by decide +kernel), List.mem_of_getElem? (i := 722) (by decide +kernel)⟩
theorem lw_p31 : lw_okq (⟨"MemberChooserModel", "fits", "(III)Z"⟩, 28) := ⟨⟨by decide +kernel, by decide +kernel⟩, List.mem_of_getElem? (i := 546) (by decide +kernel), List.mem_of_getElem? (i := 725) (by decide +kernel), List.mem_of_getElem? (i := 726) (by decide +kernel)⟩
def lw_privs_2 : List (MethodName × Nat) := [(⟨"MemberChooser$Chooser", "isMoreSpecific", "(II)Z"⟩, 8), (⟨"MemberChooser$KeptCalls", "letGoFirst", "()V"⟩, 6), (⟨"MemberChooserModel", "isOwn", "(I)Z"⟩, 28), (⟨"MemberChooserModel", "add", "(ZI)I"⟩, 28), (⟨"MemberChooserModel", "isType", "(I)Z"⟩, 28), (⟨"MemberChooserModel", "isUnder", "(II)Z"⟩, 28), (⟨"MemberChooserModel", "mark", "(I)V"⟩, 28), (⟨"MemberChooserModel", "letGo", "(I)V"⟩, 28), (⟨"MemberChooserModel", "move", "(II)V"⟩, 28), (⟨"MemberChooserModel", "means", "(II)V"⟩, 28), (⟨"MemberChooserModel", "lineUp", "(I)V"⟩, 28), (⟨"MemberChooserModel", "standFaces", "(I)V"⟩, 28), (⟨"MemberChooserModel", "stand", "(I)Z"⟩, 28), (⟨"MemberChooserModel", "areSame", "(II)Z"⟩, 28), (⟨"MemberChooserModel", "workOut", "(III)I"⟩, 28), (⟨"MemberChooserModel", "fits", "(III)Z"⟩, 28)]
theorem lw_r2 : ∀ q ∈ lw_privs_2, lw_okq q := List.forall_mem_cons.mpr ⟨lw_p16, List.forall_mem_cons.mpr ⟨lw_p17, List.forall_mem_cons.mpr ⟨lw_p18, List.forall_mem_cons.mpr ⟨lw_p19, List.forall_mem_cons.mpr ⟨lw_p20, List.forall_mem_cons.mpr ⟨lw_p21, List.forall_mem_cons.mpr ⟨lw_p22, List.forall_mem_cons.mpr ⟨lw_p23, List.forall_mem_cons.mpr ⟨lw_p24, List.forall_mem_cons.mpr ⟨lw_p25, List.forall_mem_cons.mpr ⟨lw_p26, List.forall_mem_cons.mpr ⟨lw_p27, List.forall_mem_cons.mpr ⟨lw_p28, List.forall_mem_cons.mpr ⟨lw_p29, List.forall_mem_cons.mpr ⟨lw_p30, List.forall_mem_cons.mpr ⟨lw_p31, fun _ h => absurd h List.not_mem_nil⟩⟩⟩⟩⟩⟩⟩⟩⟩⟩⟩⟩⟩⟩⟩⟩
theorem lw_p32 : lw_okq (⟨"MemberChooserModel", "parameterAt", "(II)I"⟩, 28) := ⟨⟨by decide +kernel, by decide +kernel⟩, List.mem_of_getElem? (i := 546) (by decide +kernel), List.mem_of_getElem? (i := 729) (by decide +kernel), List.mem_of_getElem? (i := 730) (by decide +kernel)⟩
theorem lw_p33 : lw_okq (⟨"MemberChooserModel", "goes", "(IIZ)Z"⟩, 28) := ⟨⟨by decide +kernel, by decide +kernel⟩, List.mem_of_getElem? (i := 546) (by decide +kernel), List.mem_of_getElem? (i := 733) (by decide +kernel), List.mem_of_getElem? (i := 734) (by decide +kernel)⟩
theorem lw_p34 : lw_okq (⟨"MemberChooserModel", "isCloser", "(II)Z"⟩, 28) := ⟨⟨by decide +kernel, by decide +kernel⟩, List.mem_of_getElem? (i := 546) (by decide +kernel), List.mem_of_getElem? (i := 737) (by decide +kernel), List.mem_of_getElem? (i := 738) (by decide +kernel)⟩
theorem lw_p35 : lw_okq (⟨"MemberChooserModel", "keep", "(IIIJI)V"⟩, 28) := ⟨⟨by decide +kernel, by decide +kernel⟩, List.mem_of_getElem? (i := 546) (by decide +kernel), List.mem_of_getElem? (i := 741) (by decide +kernel), List.mem_of_getElem? (i := 742) (by decide +kernel)⟩
def lw_privs_3 : List (MethodName × Nat) := [(⟨"MemberChooserModel", "parameterAt", "(II)I"⟩, 28), (⟨"MemberChooserModel", "goes", "(IIZ)Z"⟩, 28), (⟨"MemberChooserModel", "isCloser", "(II)Z"⟩, 28), (⟨"MemberChooserModel", "keep", "(IIIJI)V"⟩, 28)]
theorem lw_r3 : ∀ q ∈ lw_privs_3, lw_okq q := List.forall_mem_cons.mpr ⟨lw_p32, List.forall_mem_cons.mpr ⟨lw_p33, List.forall_mem_cons.mpr ⟨lw_p34, List.forall_mem_cons.mpr ⟨lw_p35, fun _ h => absurd h List.not_mem_nil⟩⟩⟩⟩
def lw_privs : List (MethodName × Nat) := lw_privs_1 ++ (lw_privs_2 ++ (lw_privs_3))
def lw_tbl : List Cond := k2_sels lw_privs ++ tables_1
theorem lw_privs_ok : ∀ q ∈ lw_privs, lw_okq q := by
  show ∀ q ∈ lw_privs_1 ++ (lw_privs_2 ++ (lw_privs_3)), lw_okq q
  exact List.forall_mem_append.mpr ⟨lw_r1, List.forall_mem_append.mpr ⟨lw_r2, lw_r3⟩⟩
end
section
/-! OWN LAYER: a method's contract as an equation of the function that a program read off its bytecode ('fx_..'); none stands for what is out of range or has no end. -/
abbrev zoob (i : Int32) (n : Nat) : Prop := i < 0 ∨ n ≤ i.toNatClampNeg
def zlet {α β : Type} (x : α) (f : α → Option β) : Option β := f x
def zbind {α β γ : Type} (o : Option (α × β)) (f : α → β → Option γ) : Option γ := match o with
  | none => none
  | some (a, b) => f a b
def zbind1 {α γ : Type} (o : Option α) (f : α → Option γ) : Option γ := match o with
  | none => none
  | some a => f a
theorem zz_let {α β : Type} {x : α} {f : α → Option β} {y : β} (h : zlet x f = some y) : ∃ z, z = x ∧ f z = some y := ⟨x, rfl, h⟩
theorem zz_bind {α β γ : Type} {o : Option (α × β)} {f : α → β → Option γ} {y : γ} (h : zbind o f = some y) : ∃ a b, o = some (a, b) ∧ f a b = some y := by
  cases o with
  | none => cases h
  | some q => exact ⟨q.1, q.2, rfl, h⟩
theorem zz_bind1 {α γ : Type} {o : Option α} {f : α → Option γ} {y : γ} (h : zbind1 o f = some y) : ∃ a, o = some a ∧ f a = some y := by
  cases o with
  | none => cases h
  | some q => exact ⟨q, rfl, h⟩
theorem zz_t {α : Type} {c : Prop} [Decidable c] {a b y : α} (hc : c) (h : (if c then a else b) = y) : a = y := by rw [if_pos hc] at h; exact h
theorem zz_f {α : Type} {c : Prop} [Decidable c] {a b y : α} (hc : ¬ c) (h : (if c then a else b) = y) : b = y := by rw [if_neg hc] at h; exact h
theorem zz_oob {α : Type} {c : Prop} [Decidable c] {b : Option α} {y : α} (h : (if c then none else b) = some y) : ¬ c ∧ b = some y := by
  by_cases hc : c
  · rw [if_pos hc] at h; cases h
  · rw [if_neg hc] at h; exact ⟨hc, h⟩
theorem zz_grd {α : Type} {c : Prop} [Decidable c] {b : Option α} {y : α} (h : (if c then b else none) = some y) : c ∧ b = some y := by
  by_cases hc : c
  · rw [if_pos hc] at h; exact ⟨hc, h⟩
  · rw [if_neg hc] at h; cases h
theorem zz_bool {v : Int32} (h : v = 0 ∨ v = 1) : narrow .boolean (.int v) = .int v := by
  rcases h with rfl | rfl <;> rfl
def zloop {σ ρ : Type} (step : σ → Option (σ ⊕ ρ)) : Nat → σ → Option ρ
  | 0, _ => none
  | k + 1, s => match step s with
    | none => none
    | some (.inl s') => zloop step k s'
    | some (.inr r) => some r
theorem zloop_succ {σ ρ : Type} (step : σ → Option (σ ⊕ ρ)) (k : Nat) (s : σ) : zloop step (k + 1) s = (match step s with
    | none => none
    | some (.inl s') => zloop step k s'
    | some (.inr r) => some r) := rfl
theorem zz_loop {σ ρ : Type} {step : σ → Option (σ ⊕ ρ)} (G : σ → Prop) (E : ρ → Prop) (hs : ∀ (s : σ) (o : σ ⊕ ρ), step s = some o → (∀ s', o = .inl s' → G s') → (∀ r, o = .inr r → E r) → G s) : ∀ (k : Nat) (s : σ) (r : ρ), zloop step k s = some r → E r → G s := by
  intro k
  induction k with
  | zero => intro s r h; cases h
  | succ k ih =>
    intro s r h hE
    rw [zloop_succ] at h
    cases ho : step s with
    | none => rw [ho] at h; cases h
    | some o =>
      rw [ho] at h
      refine hs s o ho (fun s' e => ?_) (fun r' e => ?_)
      · subst e; exact ih s' r h hE
      · subst e; cases h; exact hE
/-! the pure side: an answer, and what holds of it -/
def zok {α : Type} (o : Option α) (Q : α → Prop) : Prop := ∃ a, o = some a ∧ Q a
theorem zok_some {α : Type} {a : α} {Q : α → Prop} (h : Q a) : zok (some a) Q := ⟨a, rfl, h⟩
theorem zok_if {α : Type} {c : Prop} [Decidable c] {a b : Option α} {Q : α → Prop} (ht : c → zok a Q) (hf : ¬ c → zok b Q) : zok (if c then a else b) Q := by
  by_cases hc : c
  · rw [if_pos hc]; exact ht hc
  · rw [if_neg hc]; exact hf hc
theorem zok_oob {α : Type} {c : Prop} [Decidable c] {b : Option α} {Q : α → Prop} (hc : ¬ c) (hf : zok b Q) : zok (if c then none else b) Q := by
  rw [if_neg hc]; exact hf
theorem zok_grd {α : Type} {c : Prop} [Decidable c] {b : Option α} {Q : α → Prop} (hc : c) (hf : zok b Q) : zok (if c then b else none) Q := by
  rw [if_pos hc]; exact hf
theorem zok_let {α β : Type} {x : α} {f : α → Option β} {Q : β → Prop} (h : zok (f x) Q) : zok (zlet x f) Q := h
theorem zok_bind {α β γ : Type} {o : Option (α × β)} {f : α → β → Option γ} {Q : γ → Prop} (P : α → β → Prop) (ho : zok o (fun q => P q.1 q.2)) (hf : ∀ a b, P a b → zok (f a b) Q) : zok (zbind o f) Q := by
  obtain ⟨⟨a, b⟩, rfl, h⟩ := ho
  exact hf a b h
theorem zok_bind1 {α γ : Type} {o : Option α} {f : α → Option γ} {Q : γ → Prop} (P : α → Prop) (ho : zok o P) (hf : ∀ a, P a → zok (f a) Q) : zok (zbind1 o f) Q := by
  obtain ⟨a, rfl, h⟩ := ho
  exact hf a h
theorem zok_mono {α : Type} {o : Option α} {P Q : α → Prop} (h : zok o P) (hq : ∀ a, P a → Q a) : zok o Q := by
  obtain ⟨a, e, h⟩ := h
  exact ⟨a, e, hq a h⟩
theorem zok_eq {α : Type} {o : Option α} {a : α} {Q : α → Prop} (e : o = some a) (h : Q a) : zok o Q := ⟨a, e, h⟩
theorem zok_get {α : Type} {o : Option α} {a : α} (h : zok o (fun x => x = a)) : o = some a := by
  obtain ⟨b, e, rfl⟩ := h
  exact e
/-- a loop: an invariant, a measure that falls -/
theorem zok_loop {σ ρ : Type} {step : σ → Option (σ ⊕ ρ)} {Q : ρ → Prop} (Inv : σ → Prop) (μ : σ → Nat) (hs : ∀ s, Inv s → zok (step s) (fun o => (∀ s', o = .inl s' → Inv s' ∧ μ s' < μ s) ∧ ∀ r, o = .inr r → Q r)) : ∀ (k : Nat) (s : σ), Inv s → μ s < k → zok (zloop step k s) Q := by
  intro k
  induction k with
  | zero => intro s _ h; exact absurd h (Nat.not_lt_zero _)
  | succ k ih =>
    intro s hI hk
    obtain ⟨o, ho, h1, h2⟩ := hs s hI
    rw [zloop_succ, ho]
    cases o with
    | inl s' =>
      obtain ⟨a, b⟩ := h1 s' rfl
      exact ih s' a (by omega)
    | inr r => exact ⟨r, rfl, h2 r rfl⟩
theorem zok_inl {σ ρ : Type} {s : σ} {P : σ → Prop} {Q : ρ → Prop} (h : P s) : zok (some (.inl s : σ ⊕ ρ)) (fun o => (∀ s', o = .inl s' → P s') ∧ ∀ r, o = .inr r → Q r) := by
  refine ⟨_, rfl, ?_, ?_⟩
  · intro s' e; cases e; exact h
  · intro r e; cases e
theorem zok_inr {σ ρ : Type} {r : ρ} {P : σ → Prop} {Q : ρ → Prop} (h : Q r) : zok (some (.inr r : σ ⊕ ρ)) (fun o => (∀ s', o = .inl s' → P s') ∧ ∀ r, o = .inr r → Q r) := by
  refine ⟨_, rfl, ?_, ?_⟩
  · intro s' e; cases e
  · intro r' e; cases e; exact h
def zbL0 { γ : Type} (o : Option (Nat × Unit)) (f : Nat → Option γ) : Option γ := match o with
  | none => none
  | some (x, _) => f x
theorem zz_bL0 { γ : Type} {o : Option (Nat × Unit)} {f : Nat → Option γ} {y : γ} (h : zbL0 o f = some y) : ∃ x, o = some (x, ()) ∧ f x = some y := by
  cases o with
  | none => cases h
  | some q =>
    obtain ⟨x, u⟩ := q
    exact ⟨x, rfl, h⟩
theorem zok_bL0 { γ : Type} {o : Option (Nat × Unit)} {f : Nat → Option γ} {Q : γ → Prop} (P : Nat → Prop) (ho : zok o (fun q => P q.1)) (hf : ∀ x, P x → zok (f x) Q) : zok (zbL0 o f) Q := by
  obtain ⟨⟨x, u⟩, rfl, h⟩ := ho
  exact hf _ h
def zbL1 {α0 γ : Type} (o : Option (Nat × α0)) (f : Nat → α0 → Option γ) : Option γ := match o with
  | none => none
  | some (x, a0) => f x a0
theorem zz_bL1 {α0 γ : Type} {o : Option (Nat × α0)} {f : Nat → α0 → Option γ} {y : γ} (h : zbL1 o f = some y) : ∃ x a0, o = some (x, a0) ∧ f x a0 = some y := by
  cases o with
  | none => cases h
  | some q =>
    obtain ⟨x, a0⟩ := q
    exact ⟨x, a0, rfl, h⟩
theorem zok_bL1 {α0 γ : Type} {o : Option (Nat × α0)} {f : Nat → α0 → Option γ} {Q : γ → Prop} (P : Nat → α0 → Prop) (ho : zok o (fun q => P q.1 q.2)) (hf : ∀ x a0, P x a0 → zok (f x a0) Q) : zok (zbL1 o f) Q := by
  obtain ⟨⟨x, a0⟩, rfl, h⟩ := ho
  exact hf _ _ h
def zbL2 {α0 α1 γ : Type} (o : Option (Nat × α0 × α1)) (f : Nat → α0 → α1 → Option γ) : Option γ := match o with
  | none => none
  | some (x, a0, a1) => f x a0 a1
theorem zz_bL2 {α0 α1 γ : Type} {o : Option (Nat × α0 × α1)} {f : Nat → α0 → α1 → Option γ} {y : γ} (h : zbL2 o f = some y) : ∃ x a0 a1, o = some (x, a0, a1) ∧ f x a0 a1 = some y := by
  cases o with
  | none => cases h
  | some q =>
    obtain ⟨x, a0, a1⟩ := q
    exact ⟨x, a0, a1, rfl, h⟩
theorem zok_bL2 {α0 α1 γ : Type} {o : Option (Nat × α0 × α1)} {f : Nat → α0 → α1 → Option γ} {Q : γ → Prop} (P : Nat → α0 → α1 → Prop) (ho : zok o (fun q => P q.1 q.2.1 q.2.2)) (hf : ∀ x a0 a1, P x a0 a1 → zok (f x a0 a1) Q) : zok (zbL2 o f) Q := by
  obtain ⟨⟨x, a0, a1⟩, rfl, h⟩ := ho
  exact hf _ _ _ h
def zbL3 {α0 α1 α2 γ : Type} (o : Option (Nat × α0 × α1 × α2)) (f : Nat → α0 → α1 → α2 → Option γ) : Option γ := match o with
  | none => none
  | some (x, a0, a1, a2) => f x a0 a1 a2
theorem zz_bL3 {α0 α1 α2 γ : Type} {o : Option (Nat × α0 × α1 × α2)} {f : Nat → α0 → α1 → α2 → Option γ} {y : γ} (h : zbL3 o f = some y) : ∃ x a0 a1 a2, o = some (x, a0, a1, a2) ∧ f x a0 a1 a2 = some y := by
  cases o with
  | none => cases h
  | some q =>
    obtain ⟨x, a0, a1, a2⟩ := q
    exact ⟨x, a0, a1, a2, rfl, h⟩
theorem zok_bL3 {α0 α1 α2 γ : Type} {o : Option (Nat × α0 × α1 × α2)} {f : Nat → α0 → α1 → α2 → Option γ} {Q : γ → Prop} (P : Nat → α0 → α1 → α2 → Prop) (ho : zok o (fun q => P q.1 q.2.1 q.2.2.1 q.2.2.2)) (hf : ∀ x a0 a1 a2, P x a0 a1 a2 → zok (f x a0 a1 a2) Q) : zok (zbL3 o f) Q := by
  obtain ⟨⟨x, a0, a1, a2⟩, rfl, h⟩ := ho
  exact hf _ _ _ _ h
def zbL4 {α0 α1 α2 α3 γ : Type} (o : Option (Nat × α0 × α1 × α2 × α3)) (f : Nat → α0 → α1 → α2 → α3 → Option γ) : Option γ := match o with
  | none => none
  | some (x, a0, a1, a2, a3) => f x a0 a1 a2 a3
theorem zz_bL4 {α0 α1 α2 α3 γ : Type} {o : Option (Nat × α0 × α1 × α2 × α3)} {f : Nat → α0 → α1 → α2 → α3 → Option γ} {y : γ} (h : zbL4 o f = some y) : ∃ x a0 a1 a2 a3, o = some (x, a0, a1, a2, a3) ∧ f x a0 a1 a2 a3 = some y := by
  cases o with
  | none => cases h
  | some q =>
    obtain ⟨x, a0, a1, a2, a3⟩ := q
    exact ⟨x, a0, a1, a2, a3, rfl, h⟩
theorem zok_bL4 {α0 α1 α2 α3 γ : Type} {o : Option (Nat × α0 × α1 × α2 × α3)} {f : Nat → α0 → α1 → α2 → α3 → Option γ} {Q : γ → Prop} (P : Nat → α0 → α1 → α2 → α3 → Prop) (ho : zok o (fun q => P q.1 q.2.1 q.2.2.1 q.2.2.2.1 q.2.2.2.2)) (hf : ∀ x a0 a1 a2 a3, P x a0 a1 a2 a3 → zok (f x a0 a1 a2 a3) Q) : zok (zbL4 o f) Q := by
  obtain ⟨⟨x, a0, a1, a2, a3⟩, rfl, h⟩ := ho
  exact hf _ _ _ _ _ h
def zbL5 {α0 α1 α2 α3 α4 γ : Type} (o : Option (Nat × α0 × α1 × α2 × α3 × α4)) (f : Nat → α0 → α1 → α2 → α3 → α4 → Option γ) : Option γ := match o with
  | none => none
  | some (x, a0, a1, a2, a3, a4) => f x a0 a1 a2 a3 a4
theorem zz_bL5 {α0 α1 α2 α3 α4 γ : Type} {o : Option (Nat × α0 × α1 × α2 × α3 × α4)} {f : Nat → α0 → α1 → α2 → α3 → α4 → Option γ} {y : γ} (h : zbL5 o f = some y) : ∃ x a0 a1 a2 a3 a4, o = some (x, a0, a1, a2, a3, a4) ∧ f x a0 a1 a2 a3 a4 = some y := by
  cases o with
  | none => cases h
  | some q =>
    obtain ⟨x, a0, a1, a2, a3, a4⟩ := q
    exact ⟨x, a0, a1, a2, a3, a4, rfl, h⟩
theorem zok_bL5 {α0 α1 α2 α3 α4 γ : Type} {o : Option (Nat × α0 × α1 × α2 × α3 × α4)} {f : Nat → α0 → α1 → α2 → α3 → α4 → Option γ} {Q : γ → Prop} (P : Nat → α0 → α1 → α2 → α3 → α4 → Prop) (ho : zok o (fun q => P q.1 q.2.1 q.2.2.1 q.2.2.2.1 q.2.2.2.2.1 q.2.2.2.2.2)) (hf : ∀ x a0 a1 a2 a3 a4, P x a0 a1 a2 a3 a4 → zok (f x a0 a1 a2 a3 a4) Q) : zok (zbL5 o f) Q := by
  obtain ⟨⟨x, a0, a1, a2, a3, a4⟩, rfl, h⟩ := ho
  exact hf _ _ _ _ _ _ h
def zbL6 {α0 α1 α2 α3 α4 α5 γ : Type} (o : Option (Nat × α0 × α1 × α2 × α3 × α4 × α5)) (f : Nat → α0 → α1 → α2 → α3 → α4 → α5 → Option γ) : Option γ := match o with
  | none => none
  | some (x, a0, a1, a2, a3, a4, a5) => f x a0 a1 a2 a3 a4 a5
theorem zz_bL6 {α0 α1 α2 α3 α4 α5 γ : Type} {o : Option (Nat × α0 × α1 × α2 × α3 × α4 × α5)} {f : Nat → α0 → α1 → α2 → α3 → α4 → α5 → Option γ} {y : γ} (h : zbL6 o f = some y) : ∃ x a0 a1 a2 a3 a4 a5, o = some (x, a0, a1, a2, a3, a4, a5) ∧ f x a0 a1 a2 a3 a4 a5 = some y := by
  cases o with
  | none => cases h
  | some q =>
    obtain ⟨x, a0, a1, a2, a3, a4, a5⟩ := q
    exact ⟨x, a0, a1, a2, a3, a4, a5, rfl, h⟩
theorem zok_bL6 {α0 α1 α2 α3 α4 α5 γ : Type} {o : Option (Nat × α0 × α1 × α2 × α3 × α4 × α5)} {f : Nat → α0 → α1 → α2 → α3 → α4 → α5 → Option γ} {Q : γ → Prop} (P : Nat → α0 → α1 → α2 → α3 → α4 → α5 → Prop) (ho : zok o (fun q => P q.1 q.2.1 q.2.2.1 q.2.2.2.1 q.2.2.2.2.1 q.2.2.2.2.2.1 q.2.2.2.2.2.2)) (hf : ∀ x a0 a1 a2 a3 a4 a5, P x a0 a1 a2 a3 a4 a5 → zok (f x a0 a1 a2 a3 a4 a5) Q) : zok (zbL6 o f) Q := by
  obtain ⟨⟨x, a0, a1, a2, a3, a4, a5⟩, rfl, h⟩ := ho
  exact hf _ _ _ _ _ _ _ h
def zbL7 {α0 α1 α2 α3 α4 α5 α6 γ : Type} (o : Option (Nat × α0 × α1 × α2 × α3 × α4 × α5 × α6)) (f : Nat → α0 → α1 → α2 → α3 → α4 → α5 → α6 → Option γ) : Option γ := match o with
  | none => none
  | some (x, a0, a1, a2, a3, a4, a5, a6) => f x a0 a1 a2 a3 a4 a5 a6
theorem zz_bL7 {α0 α1 α2 α3 α4 α5 α6 γ : Type} {o : Option (Nat × α0 × α1 × α2 × α3 × α4 × α5 × α6)} {f : Nat → α0 → α1 → α2 → α3 → α4 → α5 → α6 → Option γ} {y : γ} (h : zbL7 o f = some y) : ∃ x a0 a1 a2 a3 a4 a5 a6, o = some (x, a0, a1, a2, a3, a4, a5, a6) ∧ f x a0 a1 a2 a3 a4 a5 a6 = some y := by
  cases o with
  | none => cases h
  | some q =>
    obtain ⟨x, a0, a1, a2, a3, a4, a5, a6⟩ := q
    exact ⟨x, a0, a1, a2, a3, a4, a5, a6, rfl, h⟩
theorem zok_bL7 {α0 α1 α2 α3 α4 α5 α6 γ : Type} {o : Option (Nat × α0 × α1 × α2 × α3 × α4 × α5 × α6)} {f : Nat → α0 → α1 → α2 → α3 → α4 → α5 → α6 → Option γ} {Q : γ → Prop} (P : Nat → α0 → α1 → α2 → α3 → α4 → α5 → α6 → Prop) (ho : zok o (fun q => P q.1 q.2.1 q.2.2.1 q.2.2.2.1 q.2.2.2.2.1 q.2.2.2.2.2.1 q.2.2.2.2.2.2.1 q.2.2.2.2.2.2.2)) (hf : ∀ x a0 a1 a2 a3 a4 a5 a6, P x a0 a1 a2 a3 a4 a5 a6 → zok (f x a0 a1 a2 a3 a4 a5 a6) Q) : zok (zbL7 o f) Q := by
  obtain ⟨⟨x, a0, a1, a2, a3, a4, a5, a6⟩, rfl, h⟩ := ho
  exact hf _ _ _ _ _ _ _ _ h
theorem zz_tne {x k : Int32} {a : Int} (hk : k.toInt = a) (h : ¬ x = k) : x.toInt ≠ a := fun q => h (Int32.toInt_inj.mp (q.trans hk.symm))
/-! the tables' words that every call keeps -/
def zTb : List Cond := lw_tbl.filter goodWord
theorem zz_in {w : Cond} (i : Nat) (h : tables_1[i]? = some w) (g : goodWord w = true) : w ∈ zTb := List.mem_filter.mpr ⟨List.mem_append_right _ (List.mem_of_getElem? h), g⟩
theorem zz_inp {w : Cond} (i : Nat) (h : (k2_sels lw_privs)[i]? = some w) (g : goodWord w = true) : w ∈ zTb := List.mem_filter.mpr ⟨List.mem_append_left _ (List.mem_of_getElem? h), g⟩
theorem zz_good {w : Cond} (h : w ∈ zTb) : w ∈ zTb ∧ ((w.onTables && w.keeps) = true ∨ ∃ ty, w = .arrayClass ty) := ⟨h, good_of_word (List.mem_filter.mp h).2⟩
theorem zz_gC {w : Cond} (h : w ∈ zTb) : GoodIn zTb (w :: zTb) := fun x hx => (List.mem_cons.mp hx).elim (fun e => by rw [e]; exact zz_good h) zz_good
theorem zz_gV {own C : String} {idx : Nat} {y : MethodName} {w : Cond} (h1 : Cond.methodLink own idx y ∈ zTb) (h2 : Cond.instanceMethod y ∈ zTb) (h3 : Cond.selects C y y ∈ zTb) (h4 : Cond.initialized C ∈ zTb) (h5 : w ∈ zTb) : GoodIn zTb (wsV own idx C y (w :: zTb)) := by
  intro x hx
  rcases List.mem_append.mp (show x ∈ ([.methodLink own idx y, .instanceMethod y, .selects C y y, .initialized C] : List Cond) ++ (w :: zTb) from hx) with h | h
  · simp only [List.mem_cons, List.not_mem_nil, or_false] at h
    rcases h with rfl | rfl | rfl | rfl
    · exact zz_good h1
    · exact zz_good h2
    · exact zz_good h3
    · exact zz_good h4
  · exact zz_gC h5 x h
theorem zz_gS {own : String} {idx : Nat} {y : MethodName} {w : Cond} (h1 : Cond.methodLink own idx y ∈ zTb) (h2 : Cond.static y ∈ zTb) (h4 : Cond.initialized y.cls ∈ zTb) (h5 : w ∈ zTb) : GoodIn zTb (va_wsS own idx y (w :: zTb)) := by
  intro x hx
  rcases List.mem_append.mp (show x ∈ ([.methodLink own idx y, .static y, .initialized y.cls] : List Cond) ++ (w :: zTb) from hx) with h | h
  · simp only [List.mem_cons, List.not_mem_nil, or_false] at h
    rcases h with rfl | rfl | rfl
    · exact zz_good h1
    · exact zz_good h2
    · exact zz_good h4
  · exact zz_gC h5 x h
end
section
abbrev R_X : String := "MemberChooser"
abbrev R_T : String := "MemberChooser$Types"
abbrev R_M : String := "MemberChooser$Members"
abbrev R_H : String := "MemberChooser$Chooser"
abbrev R_K : String := "MemberChooser$KeptCalls"
abbrev R_Q : String := "MemberChooserModel"
abbrev R_L : String := "MemberChooserLaw"
abbrev R_I : String := "java/lang/Integer"
def F_X : u_T := fun k => match k with
  | 0 => ("MemberChooser", "types", "LMemberChooser$Types;", true)
  | 1 => ("MemberChooser", "members", "LMemberChooser$Members;", true)
  | 2 => ("MemberChooser", "chooser", "LMemberChooser$Chooser;", true)
  | 3 => ("MemberChooser", "kept", "LMemberChooser$KeptCalls;", true)
  | 4 => ("MemberChooser", "workedOut", "I", false)
  | _ => ("MemberChooser", "foundKept", "I", false)
def ty_X : Nat → FieldType := fun k => match k with
  | 0 => .object "MemberChooser$Types"
  | 1 => .object "MemberChooser$Members"
  | 2 => .object "MemberChooser$Chooser"
  | 3 => .object "MemberChooser$KeptCalls"
  | 4 => .int
  | _ => .int
theorem n_X : ∀ a, a < 6 → ∀ b, b < 6 → a ≠ b → (F_X a).2.1 ≠ (F_X b).2.1 := by decide +kernel
theorem ty_X_ok : ∀ k, k < 6 → parseFieldDescriptor (F_X k).2.2.1 = some (ty_X k) := by decide +kernel
theorem il_X : ∀ w ∈ u_ws R_X F_X 6, w ∈ lw_tbl := by decide +kernel
theorem ig_X : (u_ws R_X F_X 6).all goodWord = true := by decide +kernel
theorem i_X : ∀ w ∈ u_ws R_X F_X 6, w ∈ zTb := fun w h => List.mem_filter.mpr ⟨il_X w h, List.all_eq_true.mp ig_X w h⟩
def F_T : u_T := fun k => match k with
  | 0 => ("MemberChooser$Types", "faceMarks", "[Z", true)
  | 1 => ("MemberChooser$Types", "classAbove", "[I", true)
  | 2 => ("MemberChooser$Types", "faceCounts", "[I", true)
  | 3 => ("MemberChooser$Types", "facesAbove", "[[I", true)
  | 4 => ("MemberChooser$Types", "upward", "[I", true)
  | _ => ("MemberChooser$Types", "told", "I", false)
def ty_T : Nat → FieldType := fun k => match k with
  | 0 => .array .boolean
  | 1 => .array .int
  | 2 => .array .int
  | 3 => .array (.array .int)
  | 4 => .array .int
  | _ => .int
theorem n_T : ∀ a, a < 6 → ∀ b, b < 6 → a ≠ b → (F_T a).2.1 ≠ (F_T b).2.1 := by decide +kernel
theorem ty_T_ok : ∀ k, k < 6 → parseFieldDescriptor (F_T k).2.2.1 = some (ty_T k) := by decide +kernel
theorem il_T : ∀ w ∈ u_ws R_T F_T 6, w ∈ lw_tbl := by decide +kernel
theorem ig_T : (u_ws R_T F_T 6).all goodWord = true := by decide +kernel
theorem i_T : ∀ w ∈ u_ws R_T F_T 6, w ∈ zTb := fun w h => List.mem_filter.mpr ⟨il_T w h, List.all_eq_true.mp ig_T w h⟩
def F_M : u_T := fun k => match k with
  | 0 => ("MemberChooser$Members", "owners", "[I", true)
  | 1 => ("MemberChooser$Members", "names", "[I", true)
  | 2 => ("MemberChooser$Members", "sizes", "[I", true)
  | 3 => ("MemberChooser$Members", "parameters", "[J", true)
  | 4 => ("MemberChooser$Members", "variables", "[Z", true)
  | _ => ("MemberChooser$Members", "told", "I", false)
def ty_M : Nat → FieldType := fun k => match k with
  | 0 => .array .int
  | 1 => .array .int
  | 2 => .array .int
  | 3 => .array .long
  | 4 => .array .boolean
  | _ => .int
theorem n_M : ∀ a, a < 6 → ∀ b, b < 6 → a ≠ b → (F_M a).2.1 ≠ (F_M b).2.1 := by decide +kernel
theorem ty_M_ok : ∀ k, k < 6 → parseFieldDescriptor (F_M k).2.2.1 = some (ty_M k) := by decide +kernel
theorem il_M : ∀ w ∈ u_ws R_M F_M 6, w ∈ lw_tbl := by decide +kernel
theorem ig_M : (u_ws R_M F_M 6).all goodWord = true := by decide +kernel
theorem i_M : ∀ w ∈ u_ws R_M F_M 6, w ∈ zTb := fun w h => List.mem_filter.mpr ⟨il_M w h, List.all_eq_true.mp ig_M w h⟩
def F_H : u_T := fun k => match k with
  | 0 => ("MemberChooser$Chooser", "types", "LMemberChooser$Types;", true)
  | 1 => ("MemberChooser$Chooser", "members", "LMemberChooser$Members;", true)
  | 2 => ("MemberChooser$Chooser", "line", "[I", true)
  | 3 => ("MemberChooser$Chooser", "meant", "[I", true)
  | 4 => ("MemberChooser$Chooser", "fitting", "[I", true)
  | 5 => ("MemberChooser$Chooser", "meantCount", "I", false)
  | 6 => ("MemberChooser$Chooser", "fittingCount", "I", false)
  | _ => ("MemberChooser$Chooser", "phase", "I", false)
def ty_H : Nat → FieldType := fun k => match k with
  | 0 => .object "MemberChooser$Types"
  | 1 => .object "MemberChooser$Members"
  | 2 => .array .int
  | 3 => .array .int
  | 4 => .array .int
  | 5 => .int
  | 6 => .int
  | _ => .int
theorem n_H : ∀ a, a < 8 → ∀ b, b < 8 → a ≠ b → (F_H a).2.1 ≠ (F_H b).2.1 := by decide +kernel
theorem ty_H_ok : ∀ k, k < 8 → parseFieldDescriptor (F_H k).2.2.1 = some (ty_H k) := by decide +kernel
theorem il_H : ∀ w ∈ u_ws R_H F_H 8, w ∈ lw_tbl := by decide +kernel
theorem ig_H : (u_ws R_H F_H 8).all goodWord = true := by decide +kernel
theorem i_H : ∀ w ∈ u_ws R_H F_H 8, w ∈ zTb := fun w h => List.mem_filter.mpr ⟨il_H w h, List.all_eq_true.mp ig_H w h⟩
def F_K : u_T := fun k => match k with
  | 0 => ("MemberChooser$KeptCalls", "types", "[I", true)
  | 1 => ("MemberChooser$KeptCalls", "names", "[I", true)
  | 2 => ("MemberChooser$KeptCalls", "sizes", "[I", true)
  | 3 => ("MemberChooser$KeptCalls", "classes", "[J", true)
  | 4 => ("MemberChooser$KeptCalls", "outcomes", "[I", true)
  | _ => ("MemberChooser$KeptCalls", "held", "I", false)
def ty_K : Nat → FieldType := fun k => match k with
  | 0 => .array .int
  | 1 => .array .int
  | 2 => .array .int
  | 3 => .array .long
  | 4 => .array .int
  | _ => .int
theorem n_K : ∀ a, a < 6 → ∀ b, b < 6 → a ≠ b → (F_K a).2.1 ≠ (F_K b).2.1 := by decide +kernel
theorem ty_K_ok : ∀ k, k < 6 → parseFieldDescriptor (F_K k).2.2.1 = some (ty_K k) := by decide +kernel
theorem il_K : ∀ w ∈ u_ws R_K F_K 6, w ∈ lw_tbl := by decide +kernel
theorem ig_K : (u_ws R_K F_K 6).all goodWord = true := by decide +kernel
theorem i_K : ∀ w ∈ u_ws R_K F_K 6, w ∈ zTb := fun w h => List.mem_filter.mpr ⟨il_K w h, List.all_eq_true.mp ig_K w h⟩
def F_Q : u_T := fun k => match k with
  | 0 => ("MemberChooserModel", "thrown", "I", false)
  | 1 => ("MemberChooserModel", "types", "I", false)
  | 2 => ("MemberChooserModel", "isFace", "[Z", true)
  | 3 => ("MemberChooserModel", "above", "[I", true)
  | 4 => ("MemberChooserModel", "faceMany", "[I", true)
  | 5 => ("MemberChooserModel", "faces", "[I", true)
  | 6 => ("MemberChooserModel", "members", "I", false)
  | 7 => ("MemberChooserModel", "owner", "[I", true)
  | 8 => ("MemberChooserModel", "nameOf", "[I", true)
  | 9 => ("MemberChooserModel", "many", "[I", true)
  | 10 => ("MemberChooserModel", "parameter", "[I", true)
  | 11 => ("MemberChooserModel", "isVariable", "[Z", true)
  | 12 => ("MemberChooserModel", "kept", "I", false)
  | 13 => ("MemberChooserModel", "keptType", "[I", true)
  | 14 => ("MemberChooserModel", "keptName", "[I", true)
  | 15 => ("MemberChooserModel", "keptMany", "[I", true)
  | 16 => ("MemberChooserModel", "keptClasses", "[J", true)
  | 17 => ("MemberChooserModel", "keptAnswer", "[I", true)
  | 18 => ("MemberChooserModel", "worked", "I", false)
  | 19 => ("MemberChooserModel", "had", "I", false)
  | 20 => ("MemberChooserModel", "phase", "I", false)
  | 21 => ("MemberChooserModel", "line", "[I", true)
  | 22 => ("MemberChooserModel", "lineMany", "I", false)
  | 23 => ("MemberChooserModel", "meant", "[I", true)
  | 24 => ("MemberChooserModel", "meantMany", "I", false)
  | 25 => ("MemberChooserModel", "value", "[I", true)
  | 26 => ("MemberChooserModel", "isOver", "[Z", true)
  | _ => ("MemberChooserModel", "pile", "[I", true)
def ty_Q : Nat → FieldType := fun k => match k with
  | 0 => .int
  | 1 => .int
  | 2 => .array .boolean
  | 3 => .array .int
  | 4 => .array .int
  | 5 => .array .int
  | 6 => .int
  | 7 => .array .int
  | 8 => .array .int
  | 9 => .array .int
  | 10 => .array .int
  | 11 => .array .boolean
  | 12 => .int
  | 13 => .array .int
  | 14 => .array .int
  | 15 => .array .int
  | 16 => .array .long
  | 17 => .array .int
  | 18 => .int
  | 19 => .int
  | 20 => .int
  | 21 => .array .int
  | 22 => .int
  | 23 => .array .int
  | 24 => .int
  | 25 => .array .int
  | 26 => .array .boolean
  | _ => .array .int
theorem n_Q : ∀ a, a < 28 → ∀ b, b < 28 → a ≠ b → (F_Q a).2.1 ≠ (F_Q b).2.1 := by decide +kernel
theorem ty_Q_ok : ∀ k, k < 28 → parseFieldDescriptor (F_Q k).2.2.1 = some (ty_Q k) := by decide +kernel
theorem il_Q : ∀ w ∈ u_ws R_Q F_Q 28, w ∈ lw_tbl := by decide +kernel
theorem ig_Q : (u_ws R_Q F_Q 28).all goodWord = true := by decide +kernel
theorem i_Q : ∀ w ∈ u_ws R_Q F_Q 28, w ∈ zTb := fun w h => List.mem_filter.mpr ⟨il_Q w h, List.all_eq_true.mp ig_Q w h⟩
abbrev vwCl : List vw_C := [(R_X, F_X, 6), (R_T, F_T, 6), (R_M, F_M, 6), (R_H, F_H, 8), (R_K, F_K, 6), (R_Q, F_Q, 28)]
def zNf : List (String × Nat × String × String × String) := [("MemberChooser", 150, "MemberChooser$Types", "told", "I"), ("MemberChooser", 153, "MemberChooser$Members", "told", "I"), ("MemberChooser", 154, "MemberChooser$KeptCalls", "held", "I"), ("MemberChooser", 157, "MemberChooser$Chooser", "phase", "I"), ("MemberChooser$Chooser", 62, "MemberChooser$Members", "told", "I"), ("MemberChooser$Chooser", 95, "MemberChooser$Members", "variables", "[Z"), ("MemberChooser$Chooser", 99, "MemberChooser$Members", "sizes", "[I")]
def zNm : List (String × Nat × MethodName) := [("MemberChooser$Members", 43, ⟨"MemberChooser", "byteAt", "(JI)I"⟩), ("MemberChooser$Chooser", 84, ⟨"MemberChooser", "byteAt", "(JI)I"⟩)]
end
section
theorem wq_1 : Cond.initialized "MemberChooser" ∈ zTb := zz_in 1 (by decide +kernel) rfl
theorem wq_2 : Cond.initialized "MemberChooser$Types" ∈ zTb := zz_in 2 (by decide +kernel) rfl
theorem wq_3 : Cond.initialized "MemberChooser$Members" ∈ zTb := zz_in 3 (by decide +kernel) rfl
theorem wq_4 : Cond.initialized "MemberChooser$Chooser" ∈ zTb := zz_in 4 (by decide +kernel) rfl
theorem wq_5 : Cond.initialized "MemberChooser$KeptCalls" ∈ zTb := zz_in 5 (by decide +kernel) rfl
theorem wq_6 : Cond.initialized "MemberChooserModel" ∈ zTb := zz_in 6 (by decide +kernel) rfl
theorem wq_12 : Cond.initialized "java/lang/Math" ∈ zTb := zz_in 12 (by decide +kernel) rfl
theorem wq_15 : Cond.initialized "java/lang/Integer" ∈ zTb := zz_in 15 (by decide +kernel) rfl
theorem wq_33 : Cond.static ⟨"MemberChooser$Types", "isPrimitive", "(I)Z"⟩ ∈ zTb := zz_in 33 (by decide +kernel) rfl
theorem wq_34 : Cond.code ⟨"MemberChooser$Types", "isPrimitive", "(I)Z"⟩ prog_5_method_2_code 1 (Option.some .boolean) ∈ zTb := zz_in 34 (by decide +kernel) rfl
theorem wq_35 : Cond.methodLink "MemberChooser$Types" 38 ⟨"MemberChooser$Types", "bit", "(I)I"⟩ ∈ zTb := zz_in 35 (by decide +kernel) rfl
theorem wq_36 : Cond.static ⟨"MemberChooser$Types", "bit", "(I)I"⟩ ∈ zTb := zz_in 36 (by decide +kernel) rfl
theorem wq_37 : Cond.code ⟨"MemberChooser$Types", "bit", "(I)I"⟩ prog_5_method_17_code 1 (Option.some .int) ∈ zTb := zz_in 37 (by decide +kernel) rfl
theorem wq_38 : Cond.fieldLink "MemberChooser$Types" 11 "MemberChooser$Types" "faceMarks" "[Z" ∈ zTb := zz_in 38 (by decide +kernel) rfl
theorem wq_39 : Cond.fieldLink "MemberChooser$Types" 15 "MemberChooser$Types" "classAbove" "[I" ∈ zTb := zz_in 39 (by decide +kernel) rfl
theorem wq_40 : Cond.fieldLink "MemberChooser$Types" 19 "MemberChooser$Types" "faceCounts" "[I" ∈ zTb := zz_in 40 (by decide +kernel) rfl
theorem wq_41 : Cond.fieldLink "MemberChooser$Types" 24 "MemberChooser$Types" "facesAbove" "[[I" ∈ zTb := zz_in 41 (by decide +kernel) rfl
theorem wq_42 : Cond.fieldLink "MemberChooser$Types" 27 "MemberChooser$Types" "upward" "[I" ∈ zTb := zz_in 42 (by decide +kernel) rfl
theorem wq_43 : Cond.fieldLink "MemberChooser$Types" 30 "MemberChooser$Types" "told" "I" ∈ zTb := zz_in 43 (by decide +kernel) rfl
theorem wq_66 : Cond.fieldLink "MemberChooser$Members" 11 "MemberChooser$Members" "owners" "[I" ∈ zTb := zz_in 66 (by decide +kernel) rfl
theorem wq_67 : Cond.fieldLink "MemberChooser$Members" 15 "MemberChooser$Members" "names" "[I" ∈ zTb := zz_in 67 (by decide +kernel) rfl
theorem wq_68 : Cond.fieldLink "MemberChooser$Members" 18 "MemberChooser$Members" "sizes" "[I" ∈ zTb := zz_in 68 (by decide +kernel) rfl
theorem wq_70 : Cond.fieldLink "MemberChooser$Members" 21 "MemberChooser$Members" "parameters" "[J" ∈ zTb := zz_in 70 (by decide +kernel) rfl
theorem wq_71 : Cond.fieldLink "MemberChooser$Members" 25 "MemberChooser$Members" "variables" "[Z" ∈ zTb := zz_in 71 (by decide +kernel) rfl
theorem wq_73 : Cond.fieldLink "MemberChooser$Members" 29 "MemberChooser$Members" "told" "I" ∈ zTb := zz_in 73 (by decide +kernel) rfl
theorem wq_96 : Cond.fieldLink "MemberChooser$Chooser" 9 "MemberChooser$Chooser" "types" "LMemberChooser$Types;" ∈ zTb := zz_in 96 (by decide +kernel) rfl
theorem wq_97 : Cond.fieldLink "MemberChooser$Chooser" 15 "MemberChooser$Chooser" "members" "LMemberChooser$Members;" ∈ zTb := zz_in 97 (by decide +kernel) rfl
theorem wq_98 : Cond.fieldLink "MemberChooser$Chooser" 21 "MemberChooser$Chooser" "line" "[I" ∈ zTb := zz_in 98 (by decide +kernel) rfl
theorem wq_99 : Cond.fieldLink "MemberChooser$Chooser" 27 "MemberChooser$Chooser" "meant" "[I" ∈ zTb := zz_in 99 (by decide +kernel) rfl
theorem wq_100 : Cond.fieldLink "MemberChooser$Chooser" 30 "MemberChooser$Chooser" "fitting" "[I" ∈ zTb := zz_in 100 (by decide +kernel) rfl
theorem wq_101 : Cond.fieldLink "MemberChooser$Chooser" 33 "MemberChooser$Chooser" "meantCount" "I" ∈ zTb := zz_in 101 (by decide +kernel) rfl
theorem wq_102 : Cond.fieldLink "MemberChooser$Chooser" 37 "MemberChooser$Chooser" "fittingCount" "I" ∈ zTb := zz_in 102 (by decide +kernel) rfl
theorem wq_103 : Cond.fieldLink "MemberChooser$Chooser" 40 "MemberChooser$Chooser" "phase" "I" ∈ zTb := zz_in 103 (by decide +kernel) rfl
theorem wq_128 : Cond.fieldLink "MemberChooser$KeptCalls" 11 "MemberChooser$KeptCalls" "types" "[I" ∈ zTb := zz_in 128 (by decide +kernel) rfl
theorem wq_129 : Cond.fieldLink "MemberChooser$KeptCalls" 15 "MemberChooser$KeptCalls" "names" "[I" ∈ zTb := zz_in 129 (by decide +kernel) rfl
theorem wq_130 : Cond.fieldLink "MemberChooser$KeptCalls" 18 "MemberChooser$KeptCalls" "sizes" "[I" ∈ zTb := zz_in 130 (by decide +kernel) rfl
theorem wq_131 : Cond.fieldLink "MemberChooser$KeptCalls" 21 "MemberChooser$KeptCalls" "classes" "[J" ∈ zTb := zz_in 131 (by decide +kernel) rfl
theorem wq_132 : Cond.fieldLink "MemberChooser$KeptCalls" 25 "MemberChooser$KeptCalls" "outcomes" "[I" ∈ zTb := zz_in 132 (by decide +kernel) rfl
theorem wq_134 : Cond.fieldLink "MemberChooser$KeptCalls" 28 "MemberChooser$KeptCalls" "held" "I" ∈ zTb := zz_in 134 (by decide +kernel) rfl
theorem wq_149 : Cond.fieldLink "MemberChooser" 10 "MemberChooser" "types" "LMemberChooser$Types;" ∈ zTb := zz_in 149 (by decide +kernel) rfl
theorem wq_150 : Cond.fieldLink "MemberChooser" 19 "MemberChooser" "members" "LMemberChooser$Members;" ∈ zTb := zz_in 150 (by decide +kernel) rfl
theorem wq_151 : Cond.fieldLink "MemberChooser" 28 "MemberChooser" "chooser" "LMemberChooser$Chooser;" ∈ zTb := zz_in 151 (by decide +kernel) rfl
theorem wq_152 : Cond.fieldLink "MemberChooser" 35 "MemberChooser" "kept" "LMemberChooser$KeptCalls;" ∈ zTb := zz_in 152 (by decide +kernel) rfl
theorem wq_153 : Cond.fieldLink "MemberChooser" 39 "MemberChooser" "workedOut" "I" ∈ zTb := zz_in 153 (by decide +kernel) rfl
theorem wq_154 : Cond.fieldLink "MemberChooser" 43 "MemberChooser" "foundKept" "I" ∈ zTb := zz_in 154 (by decide +kernel) rfl
theorem wq_172 : Cond.methodLink "MemberChooser" 70 ⟨"MemberChooser$Types", "addFaceAbove", "(II)Z"⟩ ∈ zTb := zz_in 172 (by decide +kernel) rfl
theorem wq_173 : Cond.instanceMethod ⟨"MemberChooser$Types", "addFaceAbove", "(II)Z"⟩ ∈ zTb := zz_in 173 (by decide +kernel) rfl
theorem wq_174 : Cond.selects "MemberChooser$Types" ⟨"MemberChooser$Types", "addFaceAbove", "(II)Z"⟩ ⟨"MemberChooser$Types", "addFaceAbove", "(II)Z"⟩ ∈ zTb := zz_in 174 (by decide +kernel) rfl
theorem wq_175 : Cond.code ⟨"MemberChooser$Types", "addFaceAbove", "(II)Z"⟩ prog_5_method_10_code 4 (Option.some .boolean) ∈ zTb := zz_in 175 (by decide +kernel) rfl
theorem wq_176 : Cond.methodLink "MemberChooser$Types" 45 ⟨"MemberChooser$Types", "isTold", "(I)Z"⟩ ∈ zTb := zz_in 176 (by decide +kernel) rfl
theorem wq_177 : Cond.instanceMethod ⟨"MemberChooser$Types", "isTold", "(I)Z"⟩ ∈ zTb := zz_in 177 (by decide +kernel) rfl
theorem wq_178 : Cond.selects "MemberChooser$Types" ⟨"MemberChooser$Types", "isTold", "(I)Z"⟩ ⟨"MemberChooser$Types", "isTold", "(I)Z"⟩ ∈ zTb := zz_in 178 (by decide +kernel) rfl
theorem wq_179 : Cond.code ⟨"MemberChooser$Types", "isTold", "(I)Z"⟩ prog_5_method_4_code 2 (Option.some .boolean) ∈ zTb := zz_in 179 (by decide +kernel) rfl
theorem wq_180 : Cond.methodLink "MemberChooser$Types" 42 ⟨"MemberChooser$Types", "exists", "(I)Z"⟩ ∈ zTb := zz_in 180 (by decide +kernel) rfl
theorem wq_181 : Cond.instanceMethod ⟨"MemberChooser$Types", "exists", "(I)Z"⟩ ∈ zTb := zz_in 181 (by decide +kernel) rfl
theorem wq_182 : Cond.selects "MemberChooser$Types" ⟨"MemberChooser$Types", "exists", "(I)Z"⟩ ⟨"MemberChooser$Types", "exists", "(I)Z"⟩ ∈ zTb := zz_in 182 (by decide +kernel) rfl
theorem wq_183 : Cond.code ⟨"MemberChooser$Types", "exists", "(I)Z"⟩ prog_5_method_3_code 2 (Option.some .boolean) ∈ zTb := zz_in 183 (by decide +kernel) rfl
theorem wq_184 : Cond.methodLink "MemberChooser$Types" 48 ⟨"MemberChooser$Types", "isToldFace", "(I)Z"⟩ ∈ zTb := zz_in 184 (by decide +kernel) rfl
theorem wq_185 : Cond.instanceMethod ⟨"MemberChooser$Types", "isToldFace", "(I)Z"⟩ ∈ zTb := zz_in 185 (by decide +kernel) rfl
theorem wq_186 : Cond.selects "MemberChooser$Types" ⟨"MemberChooser$Types", "isToldFace", "(I)Z"⟩ ⟨"MemberChooser$Types", "isToldFace", "(I)Z"⟩ ∈ zTb := zz_in 186 (by decide +kernel) rfl
theorem wq_187 : Cond.code ⟨"MemberChooser$Types", "isToldFace", "(I)Z"⟩ prog_5_method_6_code 2 (Option.some .boolean) ∈ zTb := zz_in 187 (by decide +kernel) rfl
theorem wq_188 : Cond.methodLink "MemberChooser$Types" 51 ⟨"MemberChooser$Types", "isSubtype", "(II)Z"⟩ ∈ zTb := zz_in 188 (by decide +kernel) rfl
theorem wq_189 : Cond.instanceMethod ⟨"MemberChooser$Types", "isSubtype", "(II)Z"⟩ ∈ zTb := zz_in 189 (by decide +kernel) rfl
theorem wq_190 : Cond.selects "MemberChooser$Types" ⟨"MemberChooser$Types", "isSubtype", "(II)Z"⟩ ⟨"MemberChooser$Types", "isSubtype", "(II)Z"⟩ ∈ zTb := zz_in 190 (by decide +kernel) rfl
theorem wq_191 : Cond.code ⟨"MemberChooser$Types", "isSubtype", "(II)Z"⟩ prog_5_method_9_code 3 (Option.some .boolean) ∈ zTb := zz_in 191 (by decide +kernel) rfl
theorem wq_192 : Cond.methodLink "MemberChooser$Types" 55 ⟨"MemberChooser$Types", "hasFace", "(II)Z"⟩ ∈ zTb := zz_in 192 (by decide +kernel) rfl
theorem wq_194 : Cond.instanceMethod ⟨"MemberChooser$Types", "hasFace", "(II)Z"⟩ ∈ zTb := zz_in 194 (by decide +kernel) rfl
theorem wq_195 : Cond.code ⟨"MemberChooser$Types", "hasFace", "(II)Z"⟩ prog_5_method_14_code 3 (Option.some .boolean) ∈ zTb := zz_in 195 (by decide +kernel) rfl
theorem wq_196 : Cond.methodLink "MemberChooser$Types" 71 ⟨"MemberChooser$Types", "holds", "([III)Z"⟩ ∈ zTb := zz_in 196 (by decide +kernel) rfl
theorem wq_197 : Cond.static ⟨"MemberChooser$Types", "holds", "([III)Z"⟩ ∈ zTb := zz_in 197 (by decide +kernel) rfl
theorem wq_198 : Cond.code ⟨"MemberChooser$Types", "holds", "([III)Z"⟩ prog_5_method_16_code 4 (Option.some .boolean) ∈ zTb := zz_in 198 (by decide +kernel) rfl
theorem wq_199 : Cond.methodLink "MemberChooser$Types" 58 ⟨"MemberChooser$Types", "raiseAllBelow", "(II)V"⟩ ∈ zTb := zz_in 199 (by decide +kernel) rfl
theorem wq_201 : Cond.instanceMethod ⟨"MemberChooser$Types", "raiseAllBelow", "(II)V"⟩ ∈ zTb := zz_in 201 (by decide +kernel) rfl
theorem wq_202 : Cond.code ⟨"MemberChooser$Types", "raiseAllBelow", "(II)V"⟩ prog_5_method_15_code 4 (Option.none : Option Jvm.ClassFile.FieldType) ∈ zTb := zz_in 202 (by decide +kernel) rfl
theorem wq_203 : Cond.methodLink "MemberChooser" 74 ⟨"MemberChooser$KeptCalls", "letGoAll", "()V"⟩ ∈ zTb := zz_in 203 (by decide +kernel) rfl
theorem wq_204 : Cond.instanceMethod ⟨"MemberChooser$KeptCalls", "letGoAll", "()V"⟩ ∈ zTb := zz_in 204 (by decide +kernel) rfl
theorem wq_205 : Cond.selects "MemberChooser$KeptCalls" ⟨"MemberChooser$KeptCalls", "letGoAll", "()V"⟩ ⟨"MemberChooser$KeptCalls", "letGoAll", "()V"⟩ ∈ zTb := zz_in 205 (by decide +kernel) rfl
theorem wq_206 : Cond.code ⟨"MemberChooser$KeptCalls", "letGoAll", "()V"⟩ prog_3_method_4_code 1 (Option.none : Option Jvm.ClassFile.FieldType) ∈ zTb := zz_in 206 (by decide +kernel) rfl
theorem wq_211 : Cond.methodLink "MemberChooser" 108 ⟨"MemberChooser$Types", "isSubtype", "(II)Z"⟩ ∈ zTb := zz_in 211 (by decide +kernel) rfl
theorem wq_216 : Cond.methodLink "MemberChooser" 111 ⟨"MemberChooser$Chooser", "meantAt", "(III)I"⟩ ∈ zTb := zz_in 216 (by decide +kernel) rfl
theorem wq_217 : Cond.instanceMethod ⟨"MemberChooser$Chooser", "meantAt", "(III)I"⟩ ∈ zTb := zz_in 217 (by decide +kernel) rfl
theorem wq_218 : Cond.selects "MemberChooser$Chooser" ⟨"MemberChooser$Chooser", "meantAt", "(III)I"⟩ ⟨"MemberChooser$Chooser", "meantAt", "(III)I"⟩ ∈ zTb := zz_in 218 (by decide +kernel) rfl
theorem wq_219 : Cond.code ⟨"MemberChooser$Chooser", "meantAt", "(III)I"⟩ prog_2_method_2_code 4 (Option.some .int) ∈ zTb := zz_in 219 (by decide +kernel) rfl
theorem wq_220 : Cond.methodLink "MemberChooser$Chooser" 43 ⟨"MemberChooser$Chooser", "gatherMeant", "(II)V"⟩ ∈ zTb := zz_in 220 (by decide +kernel) rfl
theorem wq_222 : Cond.instanceMethod ⟨"MemberChooser$Chooser", "gatherMeant", "(II)V"⟩ ∈ zTb := zz_in 222 (by decide +kernel) rfl
theorem wq_223 : Cond.code ⟨"MemberChooser$Chooser", "gatherMeant", "(II)V"⟩ prog_2_method_4_code 5 (Option.none : Option Jvm.ClassFile.FieldType) ∈ zTb := zz_in 223 (by decide +kernel) rfl
theorem wq_224 : Cond.methodLink "MemberChooser$Chooser" 55 ⟨"MemberChooser$Types", "writeLine", "(I[I)I"⟩ ∈ zTb := zz_in 224 (by decide +kernel) rfl
theorem wq_225 : Cond.instanceMethod ⟨"MemberChooser$Types", "writeLine", "(I[I)I"⟩ ∈ zTb := zz_in 225 (by decide +kernel) rfl
theorem wq_226 : Cond.selects "MemberChooser$Types" ⟨"MemberChooser$Types", "writeLine", "(I[I)I"⟩ ⟨"MemberChooser$Types", "writeLine", "(I[I)I"⟩ ∈ zTb := zz_in 226 (by decide +kernel) rfl
theorem wq_227 : Cond.code ⟨"MemberChooser$Types", "writeLine", "(I[I)I"⟩ prog_5_method_12_code 7 (Option.some .int) ∈ zTb := zz_in 227 (by decide +kernel) rfl
theorem wq_228 : Cond.methodLink "MemberChooser$Types" 67 ⟨"MemberChooser$Types", "appendFaces", "(LMemberChooser$Types;I[III)I"⟩ ∈ zTb := zz_in 228 (by decide +kernel) rfl
theorem wq_229 : Cond.static ⟨"MemberChooser$Types", "appendFaces", "(LMemberChooser$Types;I[III)I"⟩ ∈ zTb := zz_in 229 (by decide +kernel) rfl
theorem wq_230 : Cond.code ⟨"MemberChooser$Types", "appendFaces", "(LMemberChooser$Types;I[III)I"⟩ prog_5_method_13_code 8 (Option.some .int) ∈ zTb := zz_in 230 (by decide +kernel) rfl
theorem wq_231 : Cond.methodLink "MemberChooser$Chooser" 59 ⟨"MemberChooser$Chooser", "appendMembers", "(II)V"⟩ ∈ zTb := zz_in 231 (by decide +kernel) rfl
theorem wq_233 : Cond.instanceMethod ⟨"MemberChooser$Chooser", "appendMembers", "(II)V"⟩ ∈ zTb := zz_in 233 (by decide +kernel) rfl
theorem wq_234 : Cond.code ⟨"MemberChooser$Chooser", "appendMembers", "(II)V"⟩ prog_2_method_5_code 4 (Option.none : Option Jvm.ClassFile.FieldType) ∈ zTb := zz_in 234 (by decide +kernel) rfl
theorem wq_235 : Cond.methodLink "MemberChooser$Chooser" 65 ⟨"MemberChooser$Members", "isOf", "(III)Z"⟩ ∈ zTb := zz_in 235 (by decide +kernel) rfl
theorem wq_236 : Cond.instanceMethod ⟨"MemberChooser$Members", "isOf", "(III)Z"⟩ ∈ zTb := zz_in 236 (by decide +kernel) rfl
theorem wq_237 : Cond.selects "MemberChooser$Members" ⟨"MemberChooser$Members", "isOf", "(III)Z"⟩ ⟨"MemberChooser$Members", "isOf", "(III)Z"⟩ ∈ zTb := zz_in 237 (by decide +kernel) rfl
theorem wq_238 : Cond.code ⟨"MemberChooser$Members", "isOf", "(III)Z"⟩ prog_4_method_5_code 4 (Option.some .boolean) ∈ zTb := zz_in 238 (by decide +kernel) rfl
theorem wq_239 : Cond.methodLink "MemberChooser$Chooser" 69 ⟨"MemberChooser$Chooser", "isHidden", "(I)Z"⟩ ∈ zTb := zz_in 239 (by decide +kernel) rfl
theorem wq_241 : Cond.instanceMethod ⟨"MemberChooser$Chooser", "isHidden", "(I)Z"⟩ ∈ zTb := zz_in 241 (by decide +kernel) rfl
theorem wq_242 : Cond.code ⟨"MemberChooser$Chooser", "isHidden", "(I)Z"⟩ prog_2_method_6_code 3 (Option.some .boolean) ∈ zTb := zz_in 242 (by decide +kernel) rfl
theorem wq_243 : Cond.methodLink "MemberChooser$Chooser" 73 ⟨"MemberChooser$Members", "haveSameParameters", "(II)Z"⟩ ∈ zTb := zz_in 243 (by decide +kernel) rfl
theorem wq_244 : Cond.instanceMethod ⟨"MemberChooser$Members", "haveSameParameters", "(II)Z"⟩ ∈ zTb := zz_in 244 (by decide +kernel) rfl
theorem wq_245 : Cond.selects "MemberChooser$Members" ⟨"MemberChooser$Members", "haveSameParameters", "(II)Z"⟩ ⟨"MemberChooser$Members", "haveSameParameters", "(II)Z"⟩ ∈ zTb := zz_in 245 (by decide +kernel) rfl
theorem wq_246 : Cond.code ⟨"MemberChooser$Members", "haveSameParameters", "(II)Z"⟩ prog_4_method_6_code 3 (Option.some .boolean) ∈ zTb := zz_in 246 (by decide +kernel) rfl
theorem wq_251 : Cond.methodLink "MemberChooser" 145 ⟨"MemberChooser$Members", "tell", "(II)I"⟩ ∈ zTb := zz_in 251 (by decide +kernel) rfl
theorem wq_252 : Cond.instanceMethod ⟨"MemberChooser$Members", "tell", "(II)I"⟩ ∈ zTb := zz_in 252 (by decide +kernel) rfl
theorem wq_253 : Cond.selects "MemberChooser$Members" ⟨"MemberChooser$Members", "tell", "(II)I"⟩ ⟨"MemberChooser$Members", "tell", "(II)I"⟩ ∈ zTb := zz_in 253 (by decide +kernel) rfl
theorem wq_254 : Cond.code ⟨"MemberChooser$Members", "tell", "(II)I"⟩ prog_4_method_8_code 3 (Option.some .int) ∈ zTb := zz_in 254 (by decide +kernel) rfl
theorem wq_256 : Cond.static ⟨"MemberChooser", "byteAt", "(JI)I"⟩ ∈ zTb := zz_in 256 (by decide +kernel) rfl
theorem wq_257 : Cond.code ⟨"MemberChooser", "byteAt", "(JI)I"⟩ prog_1_method_16_code 3 (Option.some .int) ∈ zTb := zz_in 257 (by decide +kernel) rfl
theorem wq_258 : Cond.constantLong "MemberChooser" 173 255 ∈ zTb := zz_in 258 (by decide +kernel) rfl
theorem wq_263 : Cond.methodLink "MemberChooser" 149 ⟨"MemberChooser$Types", "tell", "(II)I"⟩ ∈ zTb := zz_in 263 (by decide +kernel) rfl
theorem wq_264 : Cond.instanceMethod ⟨"MemberChooser$Types", "tell", "(II)I"⟩ ∈ zTb := zz_in 264 (by decide +kernel) rfl
theorem wq_265 : Cond.selects "MemberChooser$Types" ⟨"MemberChooser$Types", "tell", "(II)I"⟩ ⟨"MemberChooser$Types", "tell", "(II)I"⟩ ∈ zTb := zz_in 265 (by decide +kernel) rfl
theorem wq_266 : Cond.code ⟨"MemberChooser$Types", "tell", "(II)I"⟩ prog_5_method_11_code 3 (Option.some .int) ∈ zTb := zz_in 266 (by decide +kernel) rfl
theorem wq_267 : Cond.methodLink "MemberChooser$Types" 62 ⟨"java/lang/Integer", "bitCount", "(I)I"⟩ ∈ zTb := zz_in 267 (by decide +kernel) rfl
theorem wq_268 : Cond.static ⟨"java/lang/Integer", "bitCount", "(I)I"⟩ ∈ zTb := zz_in 268 (by decide +kernel) rfl
theorem wq_269 : Cond.code ⟨"java/lang/Integer", "bitCount", "(I)I"⟩ prog_12_method_49_code 1 (Option.some .int) ∈ zTb := zz_in 269 (by decide +kernel) rfl
theorem wq_270 : Cond.constant "java/lang/Integer" 265 1431655765 ∈ zTb := zz_in 270 (by decide +kernel) rfl
theorem wq_271 : Cond.constant "java/lang/Integer" 266 858993459 ∈ zTb := zz_in 271 (by decide +kernel) rfl
theorem wq_272 : Cond.constant "java/lang/Integer" 267 252645135 ∈ zTb := zz_in 272 (by decide +kernel) rfl
theorem wq_406 : Cond.methodLink "MemberChooser" 160 ⟨"MemberChooser", "byteAt", "(JI)I"⟩ ∈ zTb := zz_in 406 (by decide +kernel) rfl
theorem wq_407 : Cond.methodLink "MemberChooser" 164 ⟨"MemberChooser$Types", "exists", "(I)Z"⟩ ∈ zTb := zz_in 407 (by decide +kernel) rfl
theorem wq_420 : Cond.methodLink "MemberChooser$Members" 33 ⟨"MemberChooser$Members", "isOf", "(III)Z"⟩ ∈ zTb := zz_in 420 (by decide +kernel) rfl
theorem wq_426 : Cond.methodLink "MemberChooser$KeptCalls" 35 ⟨"MemberChooser$KeptCalls", "move", "(II)V"⟩ ∈ zTb := zz_in 426 (by decide +kernel) rfl
theorem wq_428 : Cond.instanceMethod ⟨"MemberChooser$KeptCalls", "move", "(II)V"⟩ ∈ zTb := zz_in 428 (by decide +kernel) rfl
theorem wq_429 : Cond.code ⟨"MemberChooser$KeptCalls", "move", "(II)V"⟩ prog_3_method_7_code 3 (Option.none : Option Jvm.ClassFile.FieldType) ∈ zTb := zz_in 429 (by decide +kernel) rfl
theorem wq_447 : Cond.methodLink "MemberChooser" 167 ⟨"MemberChooser", "isValue", "(I)Z"⟩ ∈ zTb := zz_in 447 (by decide +kernel) rfl
theorem wq_449 : Cond.instanceMethod ⟨"MemberChooser", "isValue", "(I)Z"⟩ ∈ zTb := zz_in 449 (by decide +kernel) rfl
theorem wq_450 : Cond.code ⟨"MemberChooser", "isValue", "(I)Z"⟩ prog_1_method_14_code 2 (Option.some .boolean) ∈ zTb := zz_in 450 (by decide +kernel) rfl
theorem wq_451 : Cond.methodLink "MemberChooser" 170 ⟨"MemberChooser$Types", "isPrimitive", "(I)Z"⟩ ∈ zTb := zz_in 451 (by decide +kernel) rfl
theorem wq_461 : Cond.methodLink "MemberChooser$Chooser" 47 ⟨"MemberChooser$Chooser", "gatherFitting", "(IJ)V"⟩ ∈ zTb := zz_in 461 (by decide +kernel) rfl
theorem wq_463 : Cond.instanceMethod ⟨"MemberChooser$Chooser", "gatherFitting", "(IJ)V"⟩ ∈ zTb := zz_in 463 (by decide +kernel) rfl
theorem wq_464 : Cond.code ⟨"MemberChooser$Chooser", "gatherFitting", "(IJ)V"⟩ prog_2_method_7_code 5 (Option.none : Option Jvm.ClassFile.FieldType) ∈ zTb := zz_in 464 (by decide +kernel) rfl
theorem wq_465 : Cond.methodLink "MemberChooser$Chooser" 77 ⟨"MemberChooser$Chooser", "fits", "(IIJ)Z"⟩ ∈ zTb := zz_in 465 (by decide +kernel) rfl
theorem wq_467 : Cond.instanceMethod ⟨"MemberChooser$Chooser", "fits", "(IIJ)Z"⟩ ∈ zTb := zz_in 467 (by decide +kernel) rfl
theorem wq_468 : Cond.code ⟨"MemberChooser$Chooser", "fits", "(IIJ)Z"⟩ prog_2_method_8_code 6 (Option.some .boolean) ∈ zTb := zz_in 468 (by decide +kernel) rfl
theorem wq_469 : Cond.methodLink "MemberChooser$Chooser" 81 ⟨"MemberChooser$Chooser", "takesSoMany", "(II)Z"⟩ ∈ zTb := zz_in 469 (by decide +kernel) rfl
theorem wq_471 : Cond.instanceMethod ⟨"MemberChooser$Chooser", "takesSoMany", "(II)Z"⟩ ∈ zTb := zz_in 471 (by decide +kernel) rfl
theorem wq_472 : Cond.code ⟨"MemberChooser$Chooser", "takesSoMany", "(II)Z"⟩ prog_2_method_9_code 3 (Option.some .boolean) ∈ zTb := zz_in 472 (by decide +kernel) rfl
theorem wq_474 : Cond.methodLink "MemberChooser$Chooser" 88 ⟨"MemberChooser$Members", "parameterFor", "(II)I"⟩ ∈ zTb := zz_in 474 (by decide +kernel) rfl
theorem wq_475 : Cond.instanceMethod ⟨"MemberChooser$Members", "parameterFor", "(II)I"⟩ ∈ zTb := zz_in 475 (by decide +kernel) rfl
theorem wq_476 : Cond.selects "MemberChooser$Members" ⟨"MemberChooser$Members", "parameterFor", "(II)I"⟩ ⟨"MemberChooser$Members", "parameterFor", "(II)I"⟩ ∈ zTb := zz_in 476 (by decide +kernel) rfl
theorem wq_477 : Cond.code ⟨"MemberChooser$Members", "parameterFor", "(II)I"⟩ prog_4_method_7_code 3 (Option.some .int) ∈ zTb := zz_in 477 (by decide +kernel) rfl
theorem wq_478 : Cond.methodLink "MemberChooser$Members" 37 ⟨"java/lang/Math", "min", "(II)I"⟩ ∈ zTb := zz_in 478 (by decide +kernel) rfl
theorem wq_479 : Cond.static ⟨"java/lang/Math", "min", "(II)I"⟩ ∈ zTb := zz_in 479 (by decide +kernel) rfl
theorem wq_480 : Cond.code ⟨"java/lang/Math", "min", "(II)I"⟩ prog_13_method_69_code 2 (Option.some .int) ∈ zTb := zz_in 480 (by decide +kernel) rfl
theorem wq_481 : Cond.methodLink "MemberChooser$Chooser" 92 ⟨"MemberChooser$Chooser", "goesTo", "(II)Z"⟩ ∈ zTb := zz_in 481 (by decide +kernel) rfl
theorem wq_483 : Cond.instanceMethod ⟨"MemberChooser$Chooser", "goesTo", "(II)Z"⟩ ∈ zTb := zz_in 483 (by decide +kernel) rfl
theorem wq_484 : Cond.code ⟨"MemberChooser$Chooser", "goesTo", "(II)Z"⟩ prog_2_method_10_code 3 (Option.some .boolean) ∈ zTb := zz_in 484 (by decide +kernel) rfl
theorem wq_485 : Cond.methodLink "MemberChooser$Chooser" 102 ⟨"MemberChooser$Types", "isPrimitive", "(I)Z"⟩ ∈ zTb := zz_in 485 (by decide +kernel) rfl
theorem wq_486 : Cond.methodLink "MemberChooser$Chooser" 105 ⟨"MemberChooser$Chooser", "unboxesTo", "(II)Z"⟩ ∈ zTb := zz_in 486 (by decide +kernel) rfl
theorem wq_487 : Cond.static ⟨"MemberChooser$Chooser", "unboxesTo", "(II)Z"⟩ ∈ zTb := zz_in 487 (by decide +kernel) rfl
theorem wq_488 : Cond.code ⟨"MemberChooser$Chooser", "unboxesTo", "(II)Z"⟩ prog_2_method_11_code 2 (Option.some .boolean) ∈ zTb := zz_in 488 (by decide +kernel) rfl
theorem wq_489 : Cond.methodLink "MemberChooser$Chooser" 108 ⟨"MemberChooser$Types", "isSubtype", "(II)Z"⟩ ∈ zTb := zz_in 489 (by decide +kernel) rfl
theorem wq_490 : Cond.methodLink "MemberChooser$Chooser" 51 ⟨"MemberChooser$Chooser", "mostSpecific", "()I"⟩ ∈ zTb := zz_in 490 (by decide +kernel) rfl
theorem wq_492 : Cond.instanceMethod ⟨"MemberChooser$Chooser", "mostSpecific", "()I"⟩ ∈ zTb := zz_in 492 (by decide +kernel) rfl
theorem wq_493 : Cond.code ⟨"MemberChooser$Chooser", "mostSpecific", "()I"⟩ prog_2_method_12_code 3 (Option.some .int) ∈ zTb := zz_in 493 (by decide +kernel) rfl
theorem wq_494 : Cond.methodLink "MemberChooser$Chooser" 111 ⟨"MemberChooser$Chooser", "isMoreSpecificThanAll", "(I)Z"⟩ ∈ zTb := zz_in 494 (by decide +kernel) rfl
theorem wq_496 : Cond.instanceMethod ⟨"MemberChooser$Chooser", "isMoreSpecificThanAll", "(I)Z"⟩ ∈ zTb := zz_in 496 (by decide +kernel) rfl
theorem wq_497 : Cond.code ⟨"MemberChooser$Chooser", "isMoreSpecificThanAll", "(I)Z"⟩ prog_2_method_13_code 3 (Option.some .boolean) ∈ zTb := zz_in 497 (by decide +kernel) rfl
theorem wq_498 : Cond.methodLink "MemberChooser$Chooser" 114 ⟨"MemberChooser$Chooser", "isMoreSpecific", "(II)Z"⟩ ∈ zTb := zz_in 498 (by decide +kernel) rfl
theorem wq_500 : Cond.instanceMethod ⟨"MemberChooser$Chooser", "isMoreSpecific", "(II)Z"⟩ ∈ zTb := zz_in 500 (by decide +kernel) rfl
theorem wq_501 : Cond.code ⟨"MemberChooser$Chooser", "isMoreSpecific", "(II)Z"⟩ prog_2_method_14_code 5 (Option.some .boolean) ∈ zTb := zz_in 501 (by decide +kernel) rfl
theorem wq_502 : Cond.methodLink "MemberChooser$Chooser" 117 ⟨"java/lang/Math", "max", "(II)I"⟩ ∈ zTb := zz_in 502 (by decide +kernel) rfl
theorem wq_503 : Cond.static ⟨"java/lang/Math", "max", "(II)I"⟩ ∈ zTb := zz_in 503 (by decide +kernel) rfl
theorem wq_504 : Cond.code ⟨"java/lang/Math", "max", "(II)I"⟩ prog_13_method_65_code 2 (Option.some .int) ∈ zTb := zz_in 504 (by decide +kernel) rfl
theorem wq_509 : Cond.methodLink "MemberChooser$KeptCalls" 32 ⟨"MemberChooser$KeptCalls", "letGoFirst", "()V"⟩ ∈ zTb := zz_in 509 (by decide +kernel) rfl
theorem wq_511 : Cond.instanceMethod ⟨"MemberChooser$KeptCalls", "letGoFirst", "()V"⟩ ∈ zTb := zz_in 511 (by decide +kernel) rfl
theorem wq_512 : Cond.code ⟨"MemberChooser$KeptCalls", "letGoFirst", "()V"⟩ prog_3_method_6_code 2 (Option.none : Option Jvm.ClassFile.FieldType) ∈ zTb := zz_in 512 (by decide +kernel) rfl
theorem wq_551 : Cond.fieldLink "MemberChooserModel" 73 "MemberChooserModel" "thrown" "I" ∈ zTb := zz_in 551 (by decide +kernel) rfl
theorem wq_552 : Cond.fieldLink "MemberChooserModel" 9 "MemberChooserModel" "types" "I" ∈ zTb := zz_in 552 (by decide +kernel) rfl
theorem wq_553 : Cond.fieldLink "MemberChooserModel" 13 "MemberChooserModel" "isFace" "[Z" ∈ zTb := zz_in 553 (by decide +kernel) rfl
theorem wq_554 : Cond.fieldLink "MemberChooserModel" 17 "MemberChooserModel" "above" "[I" ∈ zTb := zz_in 554 (by decide +kernel) rfl
theorem wq_555 : Cond.fieldLink "MemberChooserModel" 21 "MemberChooserModel" "faceMany" "[I" ∈ zTb := zz_in 555 (by decide +kernel) rfl
theorem wq_556 : Cond.fieldLink "MemberChooserModel" 24 "MemberChooserModel" "faces" "[I" ∈ zTb := zz_in 556 (by decide +kernel) rfl
theorem wq_557 : Cond.fieldLink "MemberChooserModel" 104 "MemberChooserModel" "members" "I" ∈ zTb := zz_in 557 (by decide +kernel) rfl
theorem wq_558 : Cond.fieldLink "MemberChooserModel" 27 "MemberChooserModel" "owner" "[I" ∈ zTb := zz_in 558 (by decide +kernel) rfl
theorem wq_559 : Cond.fieldLink "MemberChooserModel" 30 "MemberChooserModel" "nameOf" "[I" ∈ zTb := zz_in 559 (by decide +kernel) rfl
theorem wq_560 : Cond.fieldLink "MemberChooserModel" 33 "MemberChooserModel" "many" "[I" ∈ zTb := zz_in 560 (by decide +kernel) rfl
theorem wq_561 : Cond.fieldLink "MemberChooserModel" 36 "MemberChooserModel" "parameter" "[I" ∈ zTb := zz_in 561 (by decide +kernel) rfl
theorem wq_562 : Cond.fieldLink "MemberChooserModel" 39 "MemberChooserModel" "isVariable" "[Z" ∈ zTb := zz_in 562 (by decide +kernel) rfl
theorem wq_563 : Cond.fieldLink "MemberChooserModel" 95 "MemberChooserModel" "kept" "I" ∈ zTb := zz_in 563 (by decide +kernel) rfl
theorem wq_564 : Cond.fieldLink "MemberChooserModel" 42 "MemberChooserModel" "keptType" "[I" ∈ zTb := zz_in 564 (by decide +kernel) rfl
theorem wq_565 : Cond.fieldLink "MemberChooserModel" 45 "MemberChooserModel" "keptName" "[I" ∈ zTb := zz_in 565 (by decide +kernel) rfl
theorem wq_566 : Cond.fieldLink "MemberChooserModel" 48 "MemberChooserModel" "keptMany" "[I" ∈ zTb := zz_in 566 (by decide +kernel) rfl
theorem wq_567 : Cond.fieldLink "MemberChooserModel" 51 "MemberChooserModel" "keptClasses" "[J" ∈ zTb := zz_in 567 (by decide +kernel) rfl
theorem wq_568 : Cond.fieldLink "MemberChooserModel" 55 "MemberChooserModel" "keptAnswer" "[I" ∈ zTb := zz_in 568 (by decide +kernel) rfl
theorem wq_569 : Cond.fieldLink "MemberChooserModel" 160 "MemberChooserModel" "worked" "I" ∈ zTb := zz_in 569 (by decide +kernel) rfl
theorem wq_570 : Cond.fieldLink "MemberChooserModel" 153 "MemberChooserModel" "had" "I" ∈ zTb := zz_in 570 (by decide +kernel) rfl
theorem wq_571 : Cond.fieldLink "MemberChooserModel" 143 "MemberChooserModel" "phase" "I" ∈ zTb := zz_in 571 (by decide +kernel) rfl
theorem wq_572 : Cond.fieldLink "MemberChooserModel" 58 "MemberChooserModel" "line" "[I" ∈ zTb := zz_in 572 (by decide +kernel) rfl
theorem wq_573 : Cond.fieldLink "MemberChooserModel" 114 "MemberChooserModel" "lineMany" "I" ∈ zTb := zz_in 573 (by decide +kernel) rfl
theorem wq_574 : Cond.fieldLink "MemberChooserModel" 61 "MemberChooserModel" "meant" "[I" ∈ zTb := zz_in 574 (by decide +kernel) rfl
theorem wq_575 : Cond.fieldLink "MemberChooserModel" 126 "MemberChooserModel" "meantMany" "I" ∈ zTb := zz_in 575 (by decide +kernel) rfl
theorem wq_576 : Cond.fieldLink "MemberChooserModel" 64 "MemberChooserModel" "value" "[I" ∈ zTb := zz_in 576 (by decide +kernel) rfl
theorem wq_577 : Cond.fieldLink "MemberChooserModel" 67 "MemberChooserModel" "isOver" "[Z" ∈ zTb := zz_in 577 (by decide +kernel) rfl
theorem wq_578 : Cond.fieldLink "MemberChooserModel" 70 "MemberChooserModel" "pile" "[I" ∈ zTb := zz_in 578 (by decide +kernel) rfl
theorem wq_644 : Cond.methodLink "MemberChooserModel" 76 ⟨"MemberChooserModel", "isOwn", "(I)Z"⟩ ∈ zTb := zz_in 644 (by decide +kernel) rfl
theorem wq_646 : Cond.instanceMethod ⟨"MemberChooserModel", "isOwn", "(I)Z"⟩ ∈ zTb := zz_in 646 (by decide +kernel) rfl
theorem wq_647 : Cond.code ⟨"MemberChooserModel", "isOwn", "(I)Z"⟩ prog_7_method_3_code 2 (Option.some .boolean) ∈ zTb := zz_in 647 (by decide +kernel) rfl
theorem wq_648 : Cond.methodLink "MemberChooserModel" 80 ⟨"MemberChooserModel", "add", "(ZI)I"⟩ ∈ zTb := zz_in 648 (by decide +kernel) rfl
theorem wq_650 : Cond.instanceMethod ⟨"MemberChooserModel", "add", "(ZI)I"⟩ ∈ zTb := zz_in 650 (by decide +kernel) rfl
theorem wq_651 : Cond.code ⟨"MemberChooserModel", "add", "(ZI)I"⟩ prog_7_method_5_code 3 (Option.some .int) ∈ zTb := zz_in 651 (by decide +kernel) rfl
theorem wq_660 : Cond.methodLink "MemberChooserModel" 88 ⟨"MemberChooserModel", "isType", "(I)Z"⟩ ∈ zTb := zz_in 660 (by decide +kernel) rfl
theorem wq_662 : Cond.instanceMethod ⟨"MemberChooserModel", "isType", "(I)Z"⟩ ∈ zTb := zz_in 662 (by decide +kernel) rfl
theorem wq_663 : Cond.code ⟨"MemberChooserModel", "isType", "(I)Z"⟩ prog_7_method_4_code 2 (Option.some .boolean) ∈ zTb := zz_in 663 (by decide +kernel) rfl
theorem wq_664 : Cond.methodLink "MemberChooserModel" 91 ⟨"MemberChooserModel", "isUnder", "(II)Z"⟩ ∈ zTb := zz_in 664 (by decide +kernel) rfl
theorem wq_666 : Cond.instanceMethod ⟨"MemberChooserModel", "isUnder", "(II)Z"⟩ ∈ zTb := zz_in 666 (by decide +kernel) rfl
theorem wq_667 : Cond.code ⟨"MemberChooserModel", "isUnder", "(II)Z"⟩ prog_7_method_9_code 3 (Option.some .boolean) ∈ zTb := zz_in 667 (by decide +kernel) rfl
theorem wq_668 : Cond.methodLink "MemberChooserModel" 84 ⟨"MemberChooserModel", "mark", "(I)V"⟩ ∈ zTb := zz_in 668 (by decide +kernel) rfl
theorem wq_670 : Cond.instanceMethod ⟨"MemberChooserModel", "mark", "(I)V"⟩ ∈ zTb := zz_in 670 (by decide +kernel) rfl
theorem wq_671 : Cond.code ⟨"MemberChooserModel", "mark", "(I)V"⟩ prog_7_method_8_code 5 (Option.none : Option Jvm.ClassFile.FieldType) ∈ zTb := zz_in 671 (by decide +kernel) rfl
theorem wq_680 : Cond.methodLink "MemberChooserModel" 100 ⟨"MemberChooserModel", "byteOf", "(JI)I"⟩ ∈ zTb := zz_in 680 (by decide +kernel) rfl
theorem wq_681 : Cond.static ⟨"MemberChooserModel", "byteOf", "(JI)I"⟩ ∈ zTb := zz_in 681 (by decide +kernel) rfl
theorem wq_682 : Cond.code ⟨"MemberChooserModel", "byteOf", "(JI)I"⟩ prog_7_method_12_code 3 (Option.some .int) ∈ zTb := zz_in 682 (by decide +kernel) rfl
theorem wq_683 : Cond.constantLong "MemberChooserModel" 98 255 ∈ zTb := zz_in 683 (by decide +kernel) rfl
theorem wq_684 : Cond.methodLink "MemberChooserModel" 107 ⟨"MemberChooserModel", "letGo", "(I)V"⟩ ∈ zTb := zz_in 684 (by decide +kernel) rfl
theorem wq_686 : Cond.instanceMethod ⟨"MemberChooserModel", "letGo", "(I)V"⟩ ∈ zTb := zz_in 686 (by decide +kernel) rfl
theorem wq_687 : Cond.code ⟨"MemberChooserModel", "letGo", "(I)V"⟩ prog_7_method_15_code 4 (Option.none : Option Jvm.ClassFile.FieldType) ∈ zTb := zz_in 687 (by decide +kernel) rfl
theorem wq_688 : Cond.methodLink "MemberChooserModel" 110 ⟨"MemberChooserModel", "move", "(II)V"⟩ ∈ zTb := zz_in 688 (by decide +kernel) rfl
theorem wq_690 : Cond.instanceMethod ⟨"MemberChooserModel", "move", "(II)V"⟩ ∈ zTb := zz_in 690 (by decide +kernel) rfl
theorem wq_691 : Cond.code ⟨"MemberChooserModel", "move", "(II)V"⟩ prog_7_method_16_code 3 (Option.none : Option Jvm.ClassFile.FieldType) ∈ zTb := zz_in 691 (by decide +kernel) rfl
theorem wq_696 : Cond.methodLink "MemberChooserModel" 132 ⟨"MemberChooserModel", "means", "(II)V"⟩ ∈ zTb := zz_in 696 (by decide +kernel) rfl
theorem wq_698 : Cond.instanceMethod ⟨"MemberChooserModel", "means", "(II)V"⟩ ∈ zTb := zz_in 698 (by decide +kernel) rfl
theorem wq_699 : Cond.code ⟨"MemberChooserModel", "means", "(II)V"⟩ prog_7_method_20_code 7 (Option.none : Option Jvm.ClassFile.FieldType) ∈ zTb := zz_in 699 (by decide +kernel) rfl
theorem wq_700 : Cond.methodLink "MemberChooserModel" 123 ⟨"MemberChooserModel", "lineUp", "(I)V"⟩ ∈ zTb := zz_in 700 (by decide +kernel) rfl
theorem wq_702 : Cond.instanceMethod ⟨"MemberChooserModel", "lineUp", "(I)V"⟩ ∈ zTb := zz_in 702 (by decide +kernel) rfl
theorem wq_703 : Cond.code ⟨"MemberChooserModel", "lineUp", "(I)V"⟩ prog_7_method_19_code 4 (Option.none : Option Jvm.ClassFile.FieldType) ∈ zTb := zz_in 703 (by decide +kernel) rfl
theorem wq_704 : Cond.methodLink "MemberChooserModel" 120 ⟨"MemberChooserModel", "standFaces", "(I)V"⟩ ∈ zTb := zz_in 704 (by decide +kernel) rfl
theorem wq_706 : Cond.instanceMethod ⟨"MemberChooserModel", "standFaces", "(I)V"⟩ ∈ zTb := zz_in 706 (by decide +kernel) rfl
theorem wq_707 : Cond.code ⟨"MemberChooserModel", "standFaces", "(I)V"⟩ prog_7_method_18_code 5 (Option.none : Option Jvm.ClassFile.FieldType) ∈ zTb := zz_in 707 (by decide +kernel) rfl
theorem wq_708 : Cond.methodLink "MemberChooserModel" 117 ⟨"MemberChooserModel", "stand", "(I)Z"⟩ ∈ zTb := zz_in 708 (by decide +kernel) rfl
theorem wq_710 : Cond.instanceMethod ⟨"MemberChooserModel", "stand", "(I)Z"⟩ ∈ zTb := zz_in 710 (by decide +kernel) rfl
theorem wq_711 : Cond.code ⟨"MemberChooserModel", "stand", "(I)Z"⟩ prog_7_method_17_code 3 (Option.some .boolean) ∈ zTb := zz_in 711 (by decide +kernel) rfl
theorem wq_712 : Cond.methodLink "MemberChooserModel" 129 ⟨"MemberChooserModel", "areSame", "(II)Z"⟩ ∈ zTb := zz_in 712 (by decide +kernel) rfl
theorem wq_714 : Cond.instanceMethod ⟨"MemberChooserModel", "areSame", "(II)Z"⟩ ∈ zTb := zz_in 714 (by decide +kernel) rfl
theorem wq_715 : Cond.code ⟨"MemberChooserModel", "areSame", "(II)Z"⟩ prog_7_method_13_code 5 (Option.some .boolean) ∈ zTb := zz_in 715 (by decide +kernel) rfl
theorem wq_720 : Cond.methodLink "MemberChooserModel" 156 ⟨"MemberChooserModel", "workOut", "(III)I"⟩ ∈ zTb := zz_in 720 (by decide +kernel) rfl
theorem wq_722 : Cond.instanceMethod ⟨"MemberChooserModel", "workOut", "(III)I"⟩ ∈ zTb := zz_in 722 (by decide +kernel) rfl
theorem wq_723 : Cond.code ⟨"MemberChooserModel", "workOut", "(III)I"⟩ prog_7_method_26_code 10 (Option.some .int) ∈ zTb := zz_in 723 (by decide +kernel) rfl
theorem wq_724 : Cond.methodLink "MemberChooserModel" 146 ⟨"MemberChooserModel", "fits", "(III)Z"⟩ ∈ zTb := zz_in 724 (by decide +kernel) rfl
theorem wq_726 : Cond.instanceMethod ⟨"MemberChooserModel", "fits", "(III)Z"⟩ ∈ zTb := zz_in 726 (by decide +kernel) rfl
theorem wq_727 : Cond.code ⟨"MemberChooserModel", "fits", "(III)Z"⟩ prog_7_method_23_code 7 (Option.some .boolean) ∈ zTb := zz_in 727 (by decide +kernel) rfl
theorem wq_728 : Cond.methodLink "MemberChooserModel" 135 ⟨"MemberChooserModel", "parameterAt", "(II)I"⟩ ∈ zTb := zz_in 728 (by decide +kernel) rfl
theorem wq_730 : Cond.instanceMethod ⟨"MemberChooserModel", "parameterAt", "(II)I"⟩ ∈ zTb := zz_in 730 (by decide +kernel) rfl
theorem wq_731 : Cond.code ⟨"MemberChooserModel", "parameterAt", "(II)I"⟩ prog_7_method_24_code 3 (Option.some .int) ∈ zTb := zz_in 731 (by decide +kernel) rfl
theorem wq_732 : Cond.methodLink "MemberChooserModel" 139 ⟨"MemberChooserModel", "goes", "(IIZ)Z"⟩ ∈ zTb := zz_in 732 (by decide +kernel) rfl
theorem wq_734 : Cond.instanceMethod ⟨"MemberChooserModel", "goes", "(IIZ)Z"⟩ ∈ zTb := zz_in 734 (by decide +kernel) rfl
theorem wq_735 : Cond.code ⟨"MemberChooserModel", "goes", "(IIZ)Z"⟩ prog_7_method_22_code 4 (Option.some .boolean) ∈ zTb := zz_in 735 (by decide +kernel) rfl
theorem wq_736 : Cond.methodLink "MemberChooserModel" 150 ⟨"MemberChooserModel", "isCloser", "(II)Z"⟩ ∈ zTb := zz_in 736 (by decide +kernel) rfl
theorem wq_738 : Cond.instanceMethod ⟨"MemberChooserModel", "isCloser", "(II)Z"⟩ ∈ zTb := zz_in 738 (by decide +kernel) rfl
theorem wq_739 : Cond.code ⟨"MemberChooserModel", "isCloser", "(II)Z"⟩ prog_7_method_25_code 6 (Option.some .boolean) ∈ zTb := zz_in 739 (by decide +kernel) rfl
theorem wq_740 : Cond.methodLink "MemberChooserModel" 163 ⟨"MemberChooserModel", "keep", "(IIIJI)V"⟩ ∈ zTb := zz_in 740 (by decide +kernel) rfl
theorem wq_742 : Cond.instanceMethod ⟨"MemberChooserModel", "keep", "(IIIJI)V"⟩ ∈ zTb := zz_in 742 (by decide +kernel) rfl
theorem wq_743 : Cond.code ⟨"MemberChooserModel", "keep", "(IIIJI)V"⟩ prog_7_method_28_code 8 (Option.none : Option Jvm.ClassFile.FieldType) ∈ zTb := zz_in 743 (by decide +kernel) rfl
theorem wp_0 : Cond.selects "MemberChooser$Types" ⟨"MemberChooser$Types", "hasFace", "(II)Z"⟩ ⟨"MemberChooser$Types", "hasFace", "(II)Z"⟩ ∈ zTb := zz_inp 0 (by decide +kernel) rfl
theorem wp_1 : Cond.selects "MemberChooser$Types" ⟨"MemberChooser$Types", "raiseAllBelow", "(II)V"⟩ ⟨"MemberChooser$Types", "raiseAllBelow", "(II)V"⟩ ∈ zTb := zz_inp 1 (by decide +kernel) rfl
theorem wp_2 : Cond.selects "MemberChooser$Chooser" ⟨"MemberChooser$Chooser", "gatherMeant", "(II)V"⟩ ⟨"MemberChooser$Chooser", "gatherMeant", "(II)V"⟩ ∈ zTb := zz_inp 2 (by decide +kernel) rfl
theorem wp_3 : Cond.selects "MemberChooser$Chooser" ⟨"MemberChooser$Chooser", "appendMembers", "(II)V"⟩ ⟨"MemberChooser$Chooser", "appendMembers", "(II)V"⟩ ∈ zTb := zz_inp 3 (by decide +kernel) rfl
theorem wp_4 : Cond.selects "MemberChooser$Chooser" ⟨"MemberChooser$Chooser", "isHidden", "(I)Z"⟩ ⟨"MemberChooser$Chooser", "isHidden", "(I)Z"⟩ ∈ zTb := zz_inp 4 (by decide +kernel) rfl
theorem wp_7 : Cond.selects "MemberChooser$KeptCalls" ⟨"MemberChooser$KeptCalls", "move", "(II)V"⟩ ⟨"MemberChooser$KeptCalls", "move", "(II)V"⟩ ∈ zTb := zz_inp 7 (by decide +kernel) rfl
theorem wp_9 : Cond.selects "MemberChooser" ⟨"MemberChooser", "isValue", "(I)Z"⟩ ⟨"MemberChooser", "isValue", "(I)Z"⟩ ∈ zTb := zz_inp 9 (by decide +kernel) rfl
theorem wp_10 : Cond.selects "MemberChooser$Chooser" ⟨"MemberChooser$Chooser", "gatherFitting", "(IJ)V"⟩ ⟨"MemberChooser$Chooser", "gatherFitting", "(IJ)V"⟩ ∈ zTb := zz_inp 10 (by decide +kernel) rfl
theorem wp_11 : Cond.selects "MemberChooser$Chooser" ⟨"MemberChooser$Chooser", "fits", "(IIJ)Z"⟩ ⟨"MemberChooser$Chooser", "fits", "(IIJ)Z"⟩ ∈ zTb := zz_inp 11 (by decide +kernel) rfl
theorem wp_12 : Cond.selects "MemberChooser$Chooser" ⟨"MemberChooser$Chooser", "takesSoMany", "(II)Z"⟩ ⟨"MemberChooser$Chooser", "takesSoMany", "(II)Z"⟩ ∈ zTb := zz_inp 12 (by decide +kernel) rfl
theorem wp_13 : Cond.selects "MemberChooser$Chooser" ⟨"MemberChooser$Chooser", "goesTo", "(II)Z"⟩ ⟨"MemberChooser$Chooser", "goesTo", "(II)Z"⟩ ∈ zTb := zz_inp 13 (by decide +kernel) rfl
theorem wp_14 : Cond.selects "MemberChooser$Chooser" ⟨"MemberChooser$Chooser", "mostSpecific", "()I"⟩ ⟨"MemberChooser$Chooser", "mostSpecific", "()I"⟩ ∈ zTb := zz_inp 14 (by decide +kernel) rfl
theorem wp_15 : Cond.selects "MemberChooser$Chooser" ⟨"MemberChooser$Chooser", "isMoreSpecificThanAll", "(I)Z"⟩ ⟨"MemberChooser$Chooser", "isMoreSpecificThanAll", "(I)Z"⟩ ∈ zTb := zz_inp 15 (by decide +kernel) rfl
theorem wp_16 : Cond.selects "MemberChooser$Chooser" ⟨"MemberChooser$Chooser", "isMoreSpecific", "(II)Z"⟩ ⟨"MemberChooser$Chooser", "isMoreSpecific", "(II)Z"⟩ ∈ zTb := zz_inp 16 (by decide +kernel) rfl
theorem wp_17 : Cond.selects "MemberChooser$KeptCalls" ⟨"MemberChooser$KeptCalls", "letGoFirst", "()V"⟩ ⟨"MemberChooser$KeptCalls", "letGoFirst", "()V"⟩ ∈ zTb := zz_inp 17 (by decide +kernel) rfl
theorem wp_18 : Cond.selects "MemberChooserModel" ⟨"MemberChooserModel", "isOwn", "(I)Z"⟩ ⟨"MemberChooserModel", "isOwn", "(I)Z"⟩ ∈ zTb := zz_inp 18 (by decide +kernel) rfl
theorem wp_19 : Cond.selects "MemberChooserModel" ⟨"MemberChooserModel", "add", "(ZI)I"⟩ ⟨"MemberChooserModel", "add", "(ZI)I"⟩ ∈ zTb := zz_inp 19 (by decide +kernel) rfl
theorem wp_20 : Cond.selects "MemberChooserModel" ⟨"MemberChooserModel", "isType", "(I)Z"⟩ ⟨"MemberChooserModel", "isType", "(I)Z"⟩ ∈ zTb := zz_inp 20 (by decide +kernel) rfl
theorem wp_21 : Cond.selects "MemberChooserModel" ⟨"MemberChooserModel", "isUnder", "(II)Z"⟩ ⟨"MemberChooserModel", "isUnder", "(II)Z"⟩ ∈ zTb := zz_inp 21 (by decide +kernel) rfl
theorem wp_22 : Cond.selects "MemberChooserModel" ⟨"MemberChooserModel", "mark", "(I)V"⟩ ⟨"MemberChooserModel", "mark", "(I)V"⟩ ∈ zTb := zz_inp 22 (by decide +kernel) rfl
theorem wp_23 : Cond.selects "MemberChooserModel" ⟨"MemberChooserModel", "letGo", "(I)V"⟩ ⟨"MemberChooserModel", "letGo", "(I)V"⟩ ∈ zTb := zz_inp 23 (by decide +kernel) rfl
theorem wp_24 : Cond.selects "MemberChooserModel" ⟨"MemberChooserModel", "move", "(II)V"⟩ ⟨"MemberChooserModel", "move", "(II)V"⟩ ∈ zTb := zz_inp 24 (by decide +kernel) rfl
theorem wp_25 : Cond.selects "MemberChooserModel" ⟨"MemberChooserModel", "means", "(II)V"⟩ ⟨"MemberChooserModel", "means", "(II)V"⟩ ∈ zTb := zz_inp 25 (by decide +kernel) rfl
theorem wp_26 : Cond.selects "MemberChooserModel" ⟨"MemberChooserModel", "lineUp", "(I)V"⟩ ⟨"MemberChooserModel", "lineUp", "(I)V"⟩ ∈ zTb := zz_inp 26 (by decide +kernel) rfl
theorem wp_27 : Cond.selects "MemberChooserModel" ⟨"MemberChooserModel", "standFaces", "(I)V"⟩ ⟨"MemberChooserModel", "standFaces", "(I)V"⟩ ∈ zTb := zz_inp 27 (by decide +kernel) rfl
theorem wp_28 : Cond.selects "MemberChooserModel" ⟨"MemberChooserModel", "stand", "(I)Z"⟩ ⟨"MemberChooserModel", "stand", "(I)Z"⟩ ∈ zTb := zz_inp 28 (by decide +kernel) rfl
theorem wp_29 : Cond.selects "MemberChooserModel" ⟨"MemberChooserModel", "areSame", "(II)Z"⟩ ⟨"MemberChooserModel", "areSame", "(II)Z"⟩ ∈ zTb := zz_inp 29 (by decide +kernel) rfl
theorem wp_30 : Cond.selects "MemberChooserModel" ⟨"MemberChooserModel", "workOut", "(III)I"⟩ ⟨"MemberChooserModel", "workOut", "(III)I"⟩ ∈ zTb := zz_inp 30 (by decide +kernel) rfl
theorem wp_31 : Cond.selects "MemberChooserModel" ⟨"MemberChooserModel", "fits", "(III)Z"⟩ ⟨"MemberChooserModel", "fits", "(III)Z"⟩ ∈ zTb := zz_inp 31 (by decide +kernel) rfl
theorem wp_32 : Cond.selects "MemberChooserModel" ⟨"MemberChooserModel", "parameterAt", "(II)I"⟩ ⟨"MemberChooserModel", "parameterAt", "(II)I"⟩ ∈ zTb := zz_inp 32 (by decide +kernel) rfl
theorem wp_33 : Cond.selects "MemberChooserModel" ⟨"MemberChooserModel", "goes", "(IIZ)Z"⟩ ⟨"MemberChooserModel", "goes", "(IIZ)Z"⟩ ∈ zTb := zz_inp 33 (by decide +kernel) rfl
theorem wp_34 : Cond.selects "MemberChooserModel" ⟨"MemberChooserModel", "isCloser", "(II)Z"⟩ ⟨"MemberChooserModel", "isCloser", "(II)Z"⟩ ∈ zTb := zz_inp 34 (by decide +kernel) rfl
theorem wp_35 : Cond.selects "MemberChooserModel" ⟨"MemberChooserModel", "keep", "(IIIJI)V"⟩ ⟨"MemberChooserModel", "keep", "(IIIJI)V"⟩ ∈ zTb := zz_inp 35 (by decide +kernel) rfl
end
section
/-! OWN LAYER, the machine's side: one environment z (class numbers, field slots, the array classes), the nest words, contracts with a given answer and a given world behind -/
abbrev zE : Type := va_G × ClassId × ClassId × ClassId × ClassId
abbrev zI (z : zE) : ClassId := z.2.1
abbrev zZ (z : zE) : ClassId := z.2.2.1
abbrev zL (z : zE) : ClassId := z.2.2.2.1
abbrev zG (z : zE) : ClassId := z.2.2.2.2
def zty (z : zE) : List (ClassId × FieldType) := [(zI z, .int), (zZ z, .boolean), (zL z, .long), (zG z, .array .int)]
def zN (U : State) : Prop := (∀ (k : Nat) (q : String × Nat × String × String × String), zNf[k]? = some q → va_Nw (.fieldLinkNest q.1 q.2.1 q.2.2.1 q.2.2.2.1 q.2.2.2.2 "MemberChooser") U) ∧ ∀ (k : Nat) (q : String × Nat × MethodName), zNm[k]? = some q → va_Nw (.methodLinkNest q.1 q.2.1 q.2.2 "MemberChooser") U
theorem zN.warm {s U : State} (h : zN s) (hW : s.WarmedH U.vm) : zN U := ⟨fun k q hq => va_Nw.warmF hW (h.1 k q hq), fun k q hq => va_Nw.warmM hW (h.2 k q hq)⟩
theorem zN.same {s U : State} (h : zN s) (hv : s.vm = U.vm) : zN U := ⟨fun k q hq => va_Nw.same rfl hv (h.1 k q hq), fun k q hq => va_Nw.same rfl hv (h.2 k q hq)⟩
theorem zz_nf {s : State} {args : Array Value} (h : zN s) (k : Nat) {a : String} {i : Nat} {b n d : String} (hk : zNf[k]? = some (a, i, b, n, d)) : (Cond.fieldLinkNest a i b n d "MemberChooser").before args s = true := va_Nw.use rfl (h.1 k _ hk)
/-- what every walk stands on -/
def zM (z : zE) (p : Program) (s : State) (m : MethodId) (args : Array Value) (c : Code) (cc : ByteArray) (nL : Nat) (own : String) : Prop :=
  p.tables.exec = Jvm.exec ∧ c.code = cc ∧ c.maxLocals = nL ∧ s.vm.findClass own = some m.cls ∧ (∀ w ∈ zTb, w.before args s = true) ∧ va_K z.1 vwCl (zty z) s ∧ zN s
def zPc (z : zE) (av : List Value) (w : va_W) (sz : Nat) : Array Value → State → Prop := va_Pc av (fun U => U.heap.size = sz ∧ va_P z.1 vwCl w U.heap ∧ (va_K z.1 vwCl (zty z) U ∧ zN U) ∧ va_D (fun _ => True) w)
/-- the end: the answer, the world behind it -/
def zQc (z : zE) (A : Nat → Prop) (v : Option Value) (w' : va_W) : Array Value → State → Outcome → State → Prop := fun _ st oc t => (oc = .returned v ∧ va_P z.1 vwCl w' t.heap ∧ va_D A w') ∧ va_F A st t
abbrev zQ (z : zE) (below : List Frame) (args : Array Value) (s : State) (A : Nat → Prop) (v : Option Value) (w' : va_W) : State → Prop := MQ below (zQc z A v w') args s 0 0 A
def zC (z : zE) (l : Launch) (y : MethodName) (ws : List Cond) (rm : Room) (av : List Value) (w : va_W) (v : Option Value) (w' : va_W) : Prop :=
  ∀ sz : Nat, Met l y ws rm (zPc z av w sz) (zQc z (va_A w sz) v w') 0 0 (va_A w sz)
theorem zz_blind {z : zE} {av : List Value} {w : va_W} {sz : Nat} : FrameBlind (zPc z av w sz) := fun a U g mk q => by
  obtain ⟨q0, q1, qP, ⟨qK, qN⟩, qD⟩ := q
  exact ⟨q0, q1, qP, ⟨va_K.moved (u := U) (U := U.calling g mk a) (Vm.Alike.refl U.vm) qK, zN.same qN rfl⟩, qD⟩
theorem zz_of {z : zE} {l : Launch} {y : MethodName} {cc : ByteArray} {maxL : Nat} {ret : Option FieldType} {rm : Room} {av : List Value} {w w' : va_W} {v : Option Value} (hy : plainName y.cls = true) (hnl : (lg_sl av).length ≤ maxL)
    (body : ∀ (p : Program) (e : Env) (s : State) (m : MethodId) (args : Array Value) (below : List Frame) (meth : Method) (c : Code) (A0 : Nat → Prop) (ls : Array Slot), zM z p s m args c cc maxL y.cls → meth.sig.returnType = ret → meth.locks = false → (∀ q : Nat, s.heap.size ≤ q → A0 q) →
      va_P z.1 vwCl w s.heap → va_D A0 w → lv_has ls maxL (lv_args 0 av) → W p l e rm s m args below meth c s.heap [] 0 0 (zQ z below args s A0 v w') (F0 m 0 ls [])) : zC z l y (Cond.code y cc maxL ret :: zTb) rm av w v w' := by
  intro sz
  refine Met.ofW (cc := cc) (maxL := maxL) (ret := ret) hy rfl ?_
  intro p e s m args below meth c s₁ B hml hv
  obtain ⟨rfl, hsz, hP, ⟨hK, hN⟩, hD0⟩ := hv
  have hts := atoms_spec (ws := Cond.code y cc maxL ret :: zTb) B.pre
  have hown : s.vm.findClass y.cls = some m.cls := findClass_of_methodNamed B.named
  subst hsz
  have hl := lv_entry av (n := maxL) hnl
  rw [lg_entry_eq]
  exact body p e s m _ below meth c _ _ ⟨B.exec, B.bytes, hml, hown, fun w h => hts w (List.mem_cons_of_mem _ h), hK, hN⟩ B.returns B.notSynchronized (fun q h => Or.inr h) hP (hD0.self (sz := s.heap.size)) hl
section ZZW
variable {z : zE} {p : Program} {l : Launch} {e : Env} {R : Room} {s : State} {m : MethodId} {args : Array Value} {below : List Frame} {meth : Method} {c : Code} {H : Heap} {locs : List Loc} {Q : State → Prop} {cc : ByteArray} {A0 : Nat → Prop} {pc : Nat} {ls : Array Slot} {w w' : va_W}
theorem zz_vret {σ : Type} {S S' : σ} (wf : σ → va_W) (hx : p.tables.exec = Jvm.exec) (hb : c.code = cc) (hr : meth.sig.returnType = none) (hlocks : meth.locks = false) (hP : va_P z.1 vwCl (wf S) H) (hD : va_D A0 (wf S)) (hS : va_S A0 s.heap H locs) (h : some S = some S') (hdg : decode cc pc = .ok (.return_, 1)) :
    W p l e R s m args below meth c H locs 0 0 (zQ z below args s A0 none (wf S')) (F0 m pc ls []) := by
  cases h
  exact W.vret hx hb hr (fun t ht hW => ⟨⟨rfl, by rw [ht]; exact hP, hD⟩, hS.F ht⟩) hS.2.2 hdg hlocks
theorem zz_iret {σ : Type} {S S' : σ} {v r0 : Int32} (wf : σ → va_W) (hx : p.tables.exec = Jvm.exec) (hb : c.code = cc) (hr : meth.sig.returnType = some .int) (hlocks : meth.locks = false) (hP : va_P z.1 vwCl (wf S) H) (hD : va_D A0 (wf S)) (hS : va_S A0 s.heap H locs) (h : some (v, S) = some (r0, S')) (hdg : decode cc pc = .ok (.ireturn, 1)) :
    W p l e R s m args below meth c H locs 0 0 (zQ z below args s A0 (some (.int r0)) (wf S')) (F0 m pc ls [.int v]) := by
  cases h
  exact W.iret hx hb hr (fun t ht hW => ⟨⟨rfl, by rw [ht]; exact hP, hD⟩, hS.F ht⟩) hS.2.2 hdg hlocks
theorem zz_zret {σ : Type} {S S' : σ} {v r0 : Int32} (wf : σ → va_W) (hx : p.tables.exec = Jvm.exec) (hb : c.code = cc) (hr : meth.sig.returnType = some .boolean) (hlocks : meth.locks = false) (hP : va_P z.1 vwCl (wf S) H) (hD : va_D A0 (wf S)) (hS : va_S A0 s.heap H locs) (hn : narrow .boolean (.int v) = .int v) (h : some (v, S) = some (r0, S')) (hdg : decode cc pc = .ok (.ireturn, 1)) :
    W p l e R s m args below meth c H locs 0 0 (zQ z below args s A0 (some (.int r0)) (wf S')) (F0 m pc ls [.int v]) := by
  cases h
  exact W.zret hx hb hr hn (fun t ht hW => ⟨⟨rfl, by rw [ht]; exact hP, hD⟩, hS.F ht⟩) hS.2.2 hdg hlocks
theorem zz_lretG {v r0 : Int64} (hx : p.tables.exec = Jvm.exec) (hb : c.code = cc) (hr : meth.sig.returnType = some .long) (hlocks : meth.locks = false) (hP : va_P z.1 vwCl w H) (hD : va_D A0 w) (hS : va_S A0 s.heap H locs) (h : some v = some r0) (hdg : decode cc pc = .ok (.lreturn, 1)) :
    W p l e R s m args below meth c H locs 0 0 (zQ z below args s A0 (some (.long r0)) w) (F0 m pc ls [.long v]) := by
  cases h
  exact W.lret hx hb hr (fun t ht hW => ⟨⟨rfl, by rw [ht]; exact hP, hD⟩, hS.F ht⟩) hS.2.2 hdg hlocks
theorem zz_iretG {v r0 : Int32} (hx : p.tables.exec = Jvm.exec) (hb : c.code = cc) (hr : meth.sig.returnType = some .int) (hlocks : meth.locks = false) (hP : va_P z.1 vwCl w H) (hD : va_D A0 w) (hS : va_S A0 s.heap H locs) (h : some v = some r0) (hdg : decode cc pc = .ok (.ireturn, 1)) :
    W p l e R s m args below meth c H locs 0 0 (zQ z below args s A0 (some (.int r0)) w) (F0 m pc ls [.int v]) := by
  cases h
  exact W.iret hx hb hr (fun t ht hW => ⟨⟨rfl, by rw [ht]; exact hP, hD⟩, hS.F ht⟩) hS.2.2 hdg hlocks
theorem zz_zretG {v r0 : Int32} (hx : p.tables.exec = Jvm.exec) (hb : c.code = cc) (hr : meth.sig.returnType = some .boolean) (hlocks : meth.locks = false) (hP : va_P z.1 vwCl w H) (hD : va_D A0 w) (hS : va_S A0 s.heap H locs) (hn : narrow .boolean (.int v) = .int v) (h : some v = some r0) (hdg : decode cc pc = .ok (.ireturn, 1)) :
    W p l e R s m args below meth c H locs 0 0 (zQ z below args s A0 (some (.int r0)) w) (F0 m pc ls [.int v]) := by
  cases h
  exact W.zret hx hb hr hn (fun t ht hW => ⟨⟨rfl, by rw [ht]; exact hP, hD⟩, hS.F ht⟩) hS.2.2 hdg hlocks
/-- behind a call -/
theorem zz_go {H0 : Heap} {v : Option Value} {rest st0 : List Value} {a : Array Value} {cells slots : Nat} (hr : va_Run p l e R s m args below meth c H locs cells slots 0 0 (F0 m pc ls st0) rest (zQc z (va_A w H.size) v w' a) (va_A w H.size)) (hD : va_D A0 w) (hS : va_S A0 H0 H locs) (hA : ∀ q : Nat, H0.size ≤ q → A0 q)
    (kk : ∀ (H1 : Heap) (locs1 : List Loc), va_P z.1 vwCl w' H1 → va_D A0 w' → va_S A0 H0 H1 locs1 → W p l e R s m args below meth c H1 locs1 cells slots Q (F0 m (pc + 3) ls (v.toList ++ rest))) : W p l e R s m args below meth c H locs cells slots Q (F0 m pc ls st0) := by
  have hF : ∀ q : Nat, va_A w H.size q → A0 q := fun q h => by
    rcases h with ⟨k, x, h⟩ | h
    · exact hD.2 k (q, x) h
    · exact hA q (Nat.le_trans hS.1 h)
  intro T hT X
  obtain ⟨v', st₀, t, T', L, h0, X', hL, e1, e2, ⟨⟨hv, hp, hd⟩, hz, hk⟩, st⟩ := hr T hT X
  cases hv
  rw [h0] at hz hk
  obtain ⟨t2, a1, b1⟩ := kk T'.heap (locs ++ L) (by rw [e1]; exact hp) (hd.weaken (fun _ q _ h => hF q.1 h))
    ⟨Nat.le_trans hS.1 (by rw [e1]; exact hz), fun q h1 h2 => by rw [e1, hk q (Nat.lt_of_lt_of_le h1 hS.1) (fun z => h2 (hF q z))]; exact hS.2.1 q h1 h2, fun q hq => by
      rcases List.mem_append.mp hq with h | h
      · exact hS.2.2 q h
      · exact hF _ (hL q h)⟩ T' rfl X'
  exact ⟨t2, st t2 a1, b1⟩
theorem zz_goI {H0 : Heap} {r0 : Int32} {rest st0 : List Value} {a : Array Value} {cells slots : Nat} (hr : va_Run p l e R s m args below meth c H locs cells slots 0 0 (F0 m pc ls st0) rest (zQc z (va_A w H.size) (some (.int r0)) w' a) (va_A w H.size)) (hD : va_D A0 w) (hS : va_S A0 H0 H locs) (hA : ∀ q : Nat, H0.size ≤ q → A0 q)
    (kk : ∀ (H1 : Heap) (locs1 : List Loc), va_P z.1 vwCl w' H1 → va_D A0 w' → va_S A0 H0 H1 locs1 → W p l e R s m args below meth c H1 locs1 cells slots Q (F0 m (pc + 3) ls (.int r0 :: rest))) : W p l e R s m args below meth c H locs cells slots Q (F0 m pc ls st0) := zz_go hr hD hS hA kk
theorem zz_goL {H0 : Heap} {r0 : Int64} {rest st0 : List Value} {a : Array Value} {cells slots : Nat} (hr : va_Run p l e R s m args below meth c H locs cells slots 0 0 (F0 m pc ls st0) rest (zQc z (va_A w H.size) (some (.long r0)) w' a) (va_A w H.size)) (hD : va_D A0 w) (hS : va_S A0 H0 H locs) (hA : ∀ q : Nat, H0.size ≤ q → A0 q)
    (kk : ∀ (H1 : Heap) (locs1 : List Loc), va_P z.1 vwCl w' H1 → va_D A0 w' → va_S A0 H0 H1 locs1 → W p l e R s m args below meth c H1 locs1 cells slots Q (F0 m (pc + 3) ls (.long r0 :: rest))) : W p l e R s m args below meth c H locs cells slots Q (F0 m pc ls st0) := zz_go hr hD hS hA kk
theorem zz_goV {H0 : Heap} {rest st0 : List Value} {a : Array Value} {cells slots : Nat} (hr : va_Run p l e R s m args below meth c H locs cells slots 0 0 (F0 m pc ls st0) rest (zQc z (va_A w H.size) none w' a) (va_A w H.size)) (hD : va_D A0 w) (hS : va_S A0 H0 H locs) (hA : ∀ q : Nat, H0.size ≤ q → A0 q)
    (kk : ∀ (H1 : Heap) (locs1 : List Loc), va_P z.1 vwCl w' H1 → va_D A0 w' → va_S A0 H0 H1 locs1 → W p l e R s m args below meth c H1 locs1 cells slots Q (F0 m (pc + 3) ls rest)) : W p l e R s m args below meth c H locs cells slots Q (F0 m pc ls st0) := zz_go hr hD hS hA kk
theorem zz_pre {w : va_W} {sz : Nat} {av : List Value} (hK : va_K z.1 vwCl (zty z) s) (hN : zN s) (hP : va_P z.1 vwCl w H) (hD : va_D A0 w) (hsz : sz = H.size) : ∀ U : State, U.heap = H → s.WarmedH U.vm → zPc z av w sz av.toArray U :=
  fun U hU hW => ⟨rfl, by rw [hU, hsz], by rw [hU]; exact hP, ⟨va_K.moved hW.alike hK, hN.warm hW⟩, hD.weaken (fun _ _ _ _ => trivial)⟩
variable {y : MethodName} {bytes : ByteArray} {maxL nL n index cells slots : Nat} {ret : Option FieldType} {ws : List Cond} {rm : Room} {Ts : List Cond} {own C host : String} {b : Addr} {As rest st0 : List Value} {v : Option Value}
theorem zz_runV (hM : zC z l y ws rm (.ref b :: As) w v w') (S : CallFix p m c cc nL s args Ts own) (cw : CallW R s args own C index y bytes maxL ret ws rm 0 0 n) (hK : va_K z.1 vwCl (zty z) s) (hN : zN s) (hP : va_P z.1 vwCl w H) (hD : va_D A0 w) (hrecv : ∃ cell : Cell, H[b]? = some cell ∧ cell.vm.isStatics = false ∧ s.vm.findClass C = some cell.cls)
    (hn : As.length = n) (hsize : ls.size = nL) (hstack : st0 = As.reverse ++ .ref b :: rest) (hW : (rest.map fun v => v.category).sum ≤ 8) (hdg : decode cc pc = .ok (.invokevirtual index, 3)) (hf : cells + 0 ≤ R.cells ∧ slots + 0 ≤ R.slots) :
    va_Run p l e R s m args below meth c H locs cells slots 0 0 (F0 m pc ls st0) rest (zQc z (va_A w H.size) v w' (Value.ref b :: As).toArray) (va_A w H.size) :=
  va_runV S (hM H.size) cw ⟨zz_blind, hrecv, zz_pre hK hN hP hD rfl⟩ rfl hn hsize hstack (lv_room hW) hdg hf
theorem zz_runS (hM : zC z l y ws rm As w v w') (S : CallFix p m c cc nL s args Ts own) (cw : CallB R s args own index y bytes maxL ret ws rm 0 0 n ∧ (Cond.static y).before args s = true) (hK : va_K z.1 vwCl (zty z) s) (hN : zN s) (hP : va_P z.1 vwCl w H) (hD : va_D A0 w)
    (hn : As.length = n) (hsize : ls.size = nL) (hstack : st0 = As.reverse ++ rest) (hW : (rest.map fun v => v.category).sum ≤ 8) (hdg : decode cc pc = .ok (.invokestatic index, 3)) (hf : cells + 0 ≤ R.cells ∧ slots + 0 ≤ R.slots) :
    va_Run p l e R s m args below meth c H locs cells slots 0 0 (F0 m pc ls st0) rest (zQc z (va_A w H.size) v w' As.toArray) (va_A w H.size) :=
  va_runS S (hM H.size) cw ⟨zz_blind, zz_pre hK hN hP hD rfl⟩ rfl hn hsize hstack (lv_room hW) hdg hf
theorem zz_runVN (hM : zC z l y ws rm (.ref b :: As) w v w') (S : CallFix p m c cc nL s args Ts own) (cw : va_CN R s args own index y host bytes maxL ret ws rm 0 0 n ∧ (Cond.instanceMethod y).before args s = true ∧ (Cond.selects C y y).before args s = true) (hK : va_K z.1 vwCl (zty z) s) (hN : zN s) (hP : va_P z.1 vwCl w H) (hD : va_D A0 w) (hrecv : ∃ cell : Cell, H[b]? = some cell ∧ cell.vm.isStatics = false ∧ s.vm.findClass C = some cell.cls)
    (hn : As.length = n) (hsize : ls.size = nL) (hstack : st0 = As.reverse ++ .ref b :: rest) (hW : (rest.map fun v => v.category).sum ≤ 8) (hdg : decode cc pc = .ok (.invokevirtual index, 3)) (hf : cells + 0 ≤ R.cells ∧ slots + 0 ≤ R.slots) :
    va_Run p l e R s m args below meth c H locs cells slots 0 0 (F0 m pc ls st0) rest (zQc z (va_A w H.size) v w' (Value.ref b :: As).toArray) (va_A w H.size) :=
  va_runVN S (hM H.size) cw ⟨zz_blind, hrecv, zz_pre hK hN hP hD rfl⟩ rfl hn hsize hstack (lv_room hW) hdg hf
theorem zz_runSN (hM : zC z l y ws rm As w v w') (S : CallFix p m c cc nL s args Ts own) (cw : va_CN R s args own index y host bytes maxL ret ws rm 0 0 n ∧ (Cond.static y).before args s = true ∧ True) (hK : va_K z.1 vwCl (zty z) s) (hN : zN s) (hP : va_P z.1 vwCl w H) (hD : va_D A0 w)
    (hn : As.length = n) (hsize : ls.size = nL) (hstack : st0 = As.reverse ++ rest) (hW : (rest.map fun v => v.category).sum ≤ 8) (hdg : decode cc pc = .ok (.invokestatic index, 3)) (hf : cells + 0 ≤ R.cells ∧ slots + 0 ≤ R.slots) :
    va_Run p l e R s m args below meth c H locs cells slots 0 0 (F0 m pc ls st0) rest (zQc z (va_A w H.size) v w' As.toArray) (va_A w H.size) :=
  va_runSN S (hM H.size) cw ⟨zz_blind, zz_pre hK hN hP hD rfl⟩ rfl hn hsize hstack (lv_room hW) hdg hf
end ZZW
theorem zz_lt {i : Int32} {n : Nat} (h : ¬ zoob i n) : i.toNatClampNeg < n := Nat.not_le.mp fun q => h (Or.inr q)
end
section
abbrev ZCT : Type := (Int32) × (Nat → Int32) × (Nat → Int32) × (Nat → Int32) × (Nat → Nat → Int32) × (Nat → Int32)
abbrev ZCM : Type := (Int32) × (Nat → Int32) × (Nat → Int32) × (Nat → Int32) × (Nat → Int64) × (Nat → Int32)
abbrev ZCH : Type := (Int32) × (Int32) × (Int32) × (Nat → Int32) × (Nat → Int32) × (Nat → Int32)
abbrev ZCK : Type := (Int32) × (Nat → Int32) × (Nat → Int32) × (Nat → Int32) × (Nat → Int64) × (Nat → Int32)
abbrev ZCX : Type := (Int32) × (Int32)
abbrev ZC : Type := ZCT × ZCM × ZCH × ZCK × ZCX
abbrev tTo (S : ZC) : Int32 := S.1.1
abbrev tTo' (S : ZC) (x : Int32) : ZC := ((x, S.1.2.1, S.1.2.2.1, S.1.2.2.2.1, S.1.2.2.2.2.1, S.1.2.2.2.2.2), S.2.1, S.2.2.1, S.2.2.2.1, S.2.2.2.2)
abbrev tFm (S : ZC) : Nat → Int32 := S.1.2.1
abbrev tFm' (S : ZC) (x : Nat → Int32) : ZC := ((S.1.1, x, S.1.2.2.1, S.1.2.2.2.1, S.1.2.2.2.2.1, S.1.2.2.2.2.2), S.2.1, S.2.2.1, S.2.2.2.1, S.2.2.2.2)
abbrev tCa (S : ZC) : Nat → Int32 := S.1.2.2.1
abbrev tCa' (S : ZC) (x : Nat → Int32) : ZC := ((S.1.1, S.1.2.1, x, S.1.2.2.2.1, S.1.2.2.2.2.1, S.1.2.2.2.2.2), S.2.1, S.2.2.1, S.2.2.2.1, S.2.2.2.2)
abbrev tFc (S : ZC) : Nat → Int32 := S.1.2.2.2.1
abbrev tFc' (S : ZC) (x : Nat → Int32) : ZC := ((S.1.1, S.1.2.1, S.1.2.2.1, x, S.1.2.2.2.2.1, S.1.2.2.2.2.2), S.2.1, S.2.2.1, S.2.2.2.1, S.2.2.2.2)
abbrev tGr (S : ZC) : Nat → Nat → Int32 := S.1.2.2.2.2.1
abbrev tGr' (S : ZC) (x : Nat → Nat → Int32) : ZC := ((S.1.1, S.1.2.1, S.1.2.2.1, S.1.2.2.2.1, x, S.1.2.2.2.2.2), S.2.1, S.2.2.1, S.2.2.2.1, S.2.2.2.2)
abbrev tUp (S : ZC) : Nat → Int32 := S.1.2.2.2.2.2
abbrev tUp' (S : ZC) (x : Nat → Int32) : ZC := ((S.1.1, S.1.2.1, S.1.2.2.1, S.1.2.2.2.1, S.1.2.2.2.2.1, x), S.2.1, S.2.2.1, S.2.2.2.1, S.2.2.2.2)
abbrev mTo (S : ZC) : Int32 := S.2.1.1
abbrev mTo' (S : ZC) (x : Int32) : ZC := (S.1, (x, S.2.1.2.1, S.2.1.2.2.1, S.2.1.2.2.2.1, S.2.1.2.2.2.2.1, S.2.1.2.2.2.2.2), S.2.2.1, S.2.2.2.1, S.2.2.2.2)
abbrev mOw (S : ZC) : Nat → Int32 := S.2.1.2.1
abbrev mOw' (S : ZC) (x : Nat → Int32) : ZC := (S.1, (S.2.1.1, x, S.2.1.2.2.1, S.2.1.2.2.2.1, S.2.1.2.2.2.2.1, S.2.1.2.2.2.2.2), S.2.2.1, S.2.2.2.1, S.2.2.2.2)
abbrev mNa (S : ZC) : Nat → Int32 := S.2.1.2.2.1
abbrev mNa' (S : ZC) (x : Nat → Int32) : ZC := (S.1, (S.2.1.1, S.2.1.2.1, x, S.2.1.2.2.2.1, S.2.1.2.2.2.2.1, S.2.1.2.2.2.2.2), S.2.2.1, S.2.2.2.1, S.2.2.2.2)
abbrev mSz (S : ZC) : Nat → Int32 := S.2.1.2.2.2.1
abbrev mSz' (S : ZC) (x : Nat → Int32) : ZC := (S.1, (S.2.1.1, S.2.1.2.1, S.2.1.2.2.1, x, S.2.1.2.2.2.2.1, S.2.1.2.2.2.2.2), S.2.2.1, S.2.2.2.1, S.2.2.2.2)
abbrev mPa (S : ZC) : Nat → Int64 := S.2.1.2.2.2.2.1
abbrev mPa' (S : ZC) (x : Nat → Int64) : ZC := (S.1, (S.2.1.1, S.2.1.2.1, S.2.1.2.2.1, S.2.1.2.2.2.1, x, S.2.1.2.2.2.2.2), S.2.2.1, S.2.2.2.1, S.2.2.2.2)
abbrev mVa (S : ZC) : Nat → Int32 := S.2.1.2.2.2.2.2
abbrev mVa' (S : ZC) (x : Nat → Int32) : ZC := (S.1, (S.2.1.1, S.2.1.2.1, S.2.1.2.2.1, S.2.1.2.2.2.1, S.2.1.2.2.2.2.1, x), S.2.2.1, S.2.2.2.1, S.2.2.2.2)
abbrev hMc (S : ZC) : Int32 := S.2.2.1.1
abbrev hMc' (S : ZC) (x : Int32) : ZC := (S.1, S.2.1, (x, S.2.2.1.2.1, S.2.2.1.2.2.1, S.2.2.1.2.2.2.1, S.2.2.1.2.2.2.2.1, S.2.2.1.2.2.2.2.2), S.2.2.2.1, S.2.2.2.2)
abbrev hFc (S : ZC) : Int32 := S.2.2.1.2.1
abbrev hFc' (S : ZC) (x : Int32) : ZC := (S.1, S.2.1, (S.2.2.1.1, x, S.2.2.1.2.2.1, S.2.2.1.2.2.2.1, S.2.2.1.2.2.2.2.1, S.2.2.1.2.2.2.2.2), S.2.2.2.1, S.2.2.2.2)
abbrev hPh (S : ZC) : Int32 := S.2.2.1.2.2.1
abbrev hPh' (S : ZC) (x : Int32) : ZC := (S.1, S.2.1, (S.2.2.1.1, S.2.2.1.2.1, x, S.2.2.1.2.2.2.1, S.2.2.1.2.2.2.2.1, S.2.2.1.2.2.2.2.2), S.2.2.2.1, S.2.2.2.2)
abbrev hLi (S : ZC) : Nat → Int32 := S.2.2.1.2.2.2.1
abbrev hLi' (S : ZC) (x : Nat → Int32) : ZC := (S.1, S.2.1, (S.2.2.1.1, S.2.2.1.2.1, S.2.2.1.2.2.1, x, S.2.2.1.2.2.2.2.1, S.2.2.1.2.2.2.2.2), S.2.2.2.1, S.2.2.2.2)
abbrev hMe (S : ZC) : Nat → Int32 := S.2.2.1.2.2.2.2.1
abbrev hMe' (S : ZC) (x : Nat → Int32) : ZC := (S.1, S.2.1, (S.2.2.1.1, S.2.2.1.2.1, S.2.2.1.2.2.1, S.2.2.1.2.2.2.1, x, S.2.2.1.2.2.2.2.2), S.2.2.2.1, S.2.2.2.2)
abbrev hFi (S : ZC) : Nat → Int32 := S.2.2.1.2.2.2.2.2
abbrev hFi' (S : ZC) (x : Nat → Int32) : ZC := (S.1, S.2.1, (S.2.2.1.1, S.2.2.1.2.1, S.2.2.1.2.2.1, S.2.2.1.2.2.2.1, S.2.2.1.2.2.2.2.1, x), S.2.2.2.1, S.2.2.2.2)
abbrev kHe (S : ZC) : Int32 := S.2.2.2.1.1
abbrev kHe' (S : ZC) (x : Int32) : ZC := (S.1, S.2.1, S.2.2.1, (x, S.2.2.2.1.2.1, S.2.2.2.1.2.2.1, S.2.2.2.1.2.2.2.1, S.2.2.2.1.2.2.2.2.1, S.2.2.2.1.2.2.2.2.2), S.2.2.2.2)
abbrev kTy (S : ZC) : Nat → Int32 := S.2.2.2.1.2.1
abbrev kTy' (S : ZC) (x : Nat → Int32) : ZC := (S.1, S.2.1, S.2.2.1, (S.2.2.2.1.1, x, S.2.2.2.1.2.2.1, S.2.2.2.1.2.2.2.1, S.2.2.2.1.2.2.2.2.1, S.2.2.2.1.2.2.2.2.2), S.2.2.2.2)
abbrev kNa (S : ZC) : Nat → Int32 := S.2.2.2.1.2.2.1
abbrev kNa' (S : ZC) (x : Nat → Int32) : ZC := (S.1, S.2.1, S.2.2.1, (S.2.2.2.1.1, S.2.2.2.1.2.1, x, S.2.2.2.1.2.2.2.1, S.2.2.2.1.2.2.2.2.1, S.2.2.2.1.2.2.2.2.2), S.2.2.2.2)
abbrev kSz (S : ZC) : Nat → Int32 := S.2.2.2.1.2.2.2.1
abbrev kSz' (S : ZC) (x : Nat → Int32) : ZC := (S.1, S.2.1, S.2.2.1, (S.2.2.2.1.1, S.2.2.2.1.2.1, S.2.2.2.1.2.2.1, x, S.2.2.2.1.2.2.2.2.1, S.2.2.2.1.2.2.2.2.2), S.2.2.2.2)
abbrev kCl (S : ZC) : Nat → Int64 := S.2.2.2.1.2.2.2.2.1
abbrev kCl' (S : ZC) (x : Nat → Int64) : ZC := (S.1, S.2.1, S.2.2.1, (S.2.2.2.1.1, S.2.2.2.1.2.1, S.2.2.2.1.2.2.1, S.2.2.2.1.2.2.2.1, x, S.2.2.2.1.2.2.2.2.2), S.2.2.2.2)
abbrev kOu (S : ZC) : Nat → Int32 := S.2.2.2.1.2.2.2.2.2
abbrev kOu' (S : ZC) (x : Nat → Int32) : ZC := (S.1, S.2.1, S.2.2.1, (S.2.2.2.1.1, S.2.2.2.1.2.1, S.2.2.2.1.2.2.1, S.2.2.2.1.2.2.2.1, S.2.2.2.1.2.2.2.2.1, x), S.2.2.2.2)
abbrev xWk (S : ZC) : Int32 := S.2.2.2.2.1
abbrev xWk' (S : ZC) (x : Int32) : ZC := (S.1, S.2.1, S.2.2.1, S.2.2.2.1, (x, S.2.2.2.2.2))
abbrev xFk (S : ZC) : Int32 := S.2.2.2.2.2
abbrev xFk' (S : ZC) (x : Int32) : ZC := (S.1, S.2.1, S.2.2.1, S.2.2.2.1, (S.2.2.2.2.1, x))
def cw (z : zE) (A : Nat → Nat) (S : ZC) : va_W := [((A 0), .inr (0, [.ref (A 1), .ref (A 2), .ref (A 3), .ref (A 4), .int (xWk S), .int (xFk S)])),
  ((A 1), .inr (1, [.ref (A 5), .ref (A 6), .ref (A 7), .ref (A 8), .ref (A 9), .int (tTo S)])),
  ((A 2), .inr (2, [.ref (A 10), .ref (A 11), .ref (A 12), .ref (A 13), .ref (A 14), .int (mTo S)])),
  ((A 3), .inr (3, [.ref (A 1), .ref (A 2), .ref (A 15), .ref (A 16), .ref (A 17), .int (hMc S), .int (hFc S), .int (hPh S)])),
  ((A 4), .inr (4, [.ref (A 18), .ref (A 19), .ref (A 20), .ref (A 21), .ref (A 22), .int (kHe S)])),
  ((A 5), .inl (zZ z, 32, .inl (tFm S))),
  ((A 6), .inl (zI z, 32, .inl (tCa S))),
  ((A 7), .inl (zI z, 32, .inl (tFc S))),
  ((A 8), .inl (zG z, 32, .inr (.inr (.inr (.inr (fun i => some (A (23 + i)))))))),
  ((A 9), .inl (zI z, 32, .inl (tUp S))),
  ((A 10), .inl (zI z, 80, .inl (mOw S))),
  ((A 11), .inl (zI z, 80, .inl (mNa S))),
  ((A 12), .inl (zI z, 80, .inl (mSz S))),
  ((A 13), .inl (zL z, 80, .inr (.inl (mPa S)))),
  ((A 14), .inl (zZ z, 80, .inl (mVa S))),
  ((A 15), .inl (zI z, 24, .inl (hLi S))),
  ((A 16), .inl (zI z, 80, .inl (hMe S))),
  ((A 17), .inl (zI z, 80, .inl (hFi S))),
  ((A 18), .inl (zI z, 100, .inl (kTy S))),
  ((A 19), .inl (zI z, 100, .inl (kNa S))),
  ((A 20), .inl (zI z, 100, .inl (kSz S))),
  ((A 21), .inl (zL z, 100, .inr (.inl (kCl S)))),
  ((A 22), .inl (zI z, 100, .inl (kOu S)))] ++ (List.range 32).map (fun i => (A (23 + i), .inl (zI z, 24, .inl (tGr S i))))
abbrev ZQI : Type := (Int32) × (Int32) × (Int32) × (Int32) × (Int32) × (Int32) × (Int32) × (Int32) × (Int32)
abbrev ZQT : Type := (Nat → Int32) × (Nat → Int32) × (Nat → Int32) × (Nat → Int32)
abbrev ZQP : Type := (Nat → Int32) × (Nat → Int32) × (Nat → Int32) × (Nat → Int32) × (Nat → Int32)
abbrev ZQK : Type := (Nat → Int32) × (Nat → Int32) × (Nat → Int32) × (Nat → Int64) × (Nat → Int32)
abbrev ZQL : Type := (Nat → Int32) × (Nat → Int32) × (Nat → Int32) × (Nat → Int32) × (Nat → Int32)
abbrev ZQ : Type := ZQI × ZQT × ZQP × ZQK × ZQL
abbrev qTh (S : ZQ) : Int32 := S.1.1
abbrev qTh' (S : ZQ) (x : Int32) : ZQ := ((x, S.1.2.1, S.1.2.2.1, S.1.2.2.2.1, S.1.2.2.2.2.1, S.1.2.2.2.2.2.1, S.1.2.2.2.2.2.2.1, S.1.2.2.2.2.2.2.2.1, S.1.2.2.2.2.2.2.2.2), S.2.1, S.2.2.1, S.2.2.2.1, S.2.2.2.2)
abbrev qTy (S : ZQ) : Int32 := S.1.2.1
abbrev qTy' (S : ZQ) (x : Int32) : ZQ := ((S.1.1, x, S.1.2.2.1, S.1.2.2.2.1, S.1.2.2.2.2.1, S.1.2.2.2.2.2.1, S.1.2.2.2.2.2.2.1, S.1.2.2.2.2.2.2.2.1, S.1.2.2.2.2.2.2.2.2), S.2.1, S.2.2.1, S.2.2.2.1, S.2.2.2.2)
abbrev qMe (S : ZQ) : Int32 := S.1.2.2.1
abbrev qMe' (S : ZQ) (x : Int32) : ZQ := ((S.1.1, S.1.2.1, x, S.1.2.2.2.1, S.1.2.2.2.2.1, S.1.2.2.2.2.2.1, S.1.2.2.2.2.2.2.1, S.1.2.2.2.2.2.2.2.1, S.1.2.2.2.2.2.2.2.2), S.2.1, S.2.2.1, S.2.2.2.1, S.2.2.2.2)
abbrev qKe (S : ZQ) : Int32 := S.1.2.2.2.1
abbrev qKe' (S : ZQ) (x : Int32) : ZQ := ((S.1.1, S.1.2.1, S.1.2.2.1, x, S.1.2.2.2.2.1, S.1.2.2.2.2.2.1, S.1.2.2.2.2.2.2.1, S.1.2.2.2.2.2.2.2.1, S.1.2.2.2.2.2.2.2.2), S.2.1, S.2.2.1, S.2.2.2.1, S.2.2.2.2)
abbrev qWo (S : ZQ) : Int32 := S.1.2.2.2.2.1
abbrev qWo' (S : ZQ) (x : Int32) : ZQ := ((S.1.1, S.1.2.1, S.1.2.2.1, S.1.2.2.2.1, x, S.1.2.2.2.2.2.1, S.1.2.2.2.2.2.2.1, S.1.2.2.2.2.2.2.2.1, S.1.2.2.2.2.2.2.2.2), S.2.1, S.2.2.1, S.2.2.2.1, S.2.2.2.2)
abbrev qHa (S : ZQ) : Int32 := S.1.2.2.2.2.2.1
abbrev qHa' (S : ZQ) (x : Int32) : ZQ := ((S.1.1, S.1.2.1, S.1.2.2.1, S.1.2.2.2.1, S.1.2.2.2.2.1, x, S.1.2.2.2.2.2.2.1, S.1.2.2.2.2.2.2.2.1, S.1.2.2.2.2.2.2.2.2), S.2.1, S.2.2.1, S.2.2.2.1, S.2.2.2.2)
abbrev qPh (S : ZQ) : Int32 := S.1.2.2.2.2.2.2.1
abbrev qPh' (S : ZQ) (x : Int32) : ZQ := ((S.1.1, S.1.2.1, S.1.2.2.1, S.1.2.2.2.1, S.1.2.2.2.2.1, S.1.2.2.2.2.2.1, x, S.1.2.2.2.2.2.2.2.1, S.1.2.2.2.2.2.2.2.2), S.2.1, S.2.2.1, S.2.2.2.1, S.2.2.2.2)
abbrev qLm (S : ZQ) : Int32 := S.1.2.2.2.2.2.2.2.1
abbrev qLm' (S : ZQ) (x : Int32) : ZQ := ((S.1.1, S.1.2.1, S.1.2.2.1, S.1.2.2.2.1, S.1.2.2.2.2.1, S.1.2.2.2.2.2.1, S.1.2.2.2.2.2.2.1, x, S.1.2.2.2.2.2.2.2.2), S.2.1, S.2.2.1, S.2.2.2.1, S.2.2.2.2)
abbrev qMm (S : ZQ) : Int32 := S.1.2.2.2.2.2.2.2.2
abbrev qMm' (S : ZQ) (x : Int32) : ZQ := ((S.1.1, S.1.2.1, S.1.2.2.1, S.1.2.2.2.1, S.1.2.2.2.2.1, S.1.2.2.2.2.2.1, S.1.2.2.2.2.2.2.1, S.1.2.2.2.2.2.2.2.1, x), S.2.1, S.2.2.1, S.2.2.2.1, S.2.2.2.2)
abbrev qIf (S : ZQ) : Nat → Int32 := S.2.1.1
abbrev qIf' (S : ZQ) (x : Nat → Int32) : ZQ := (S.1, (x, S.2.1.2.1, S.2.1.2.2.1, S.2.1.2.2.2), S.2.2.1, S.2.2.2.1, S.2.2.2.2)
abbrev qAb (S : ZQ) : Nat → Int32 := S.2.1.2.1
abbrev qAb' (S : ZQ) (x : Nat → Int32) : ZQ := (S.1, (S.2.1.1, x, S.2.1.2.2.1, S.2.1.2.2.2), S.2.2.1, S.2.2.2.1, S.2.2.2.2)
abbrev qFm (S : ZQ) : Nat → Int32 := S.2.1.2.2.1
abbrev qFm' (S : ZQ) (x : Nat → Int32) : ZQ := (S.1, (S.2.1.1, S.2.1.2.1, x, S.2.1.2.2.2), S.2.2.1, S.2.2.2.1, S.2.2.2.2)
abbrev qFa (S : ZQ) : Nat → Int32 := S.2.1.2.2.2
abbrev qFa' (S : ZQ) (x : Nat → Int32) : ZQ := (S.1, (S.2.1.1, S.2.1.2.1, S.2.1.2.2.1, x), S.2.2.1, S.2.2.2.1, S.2.2.2.2)
abbrev qOw (S : ZQ) : Nat → Int32 := S.2.2.1.1
abbrev qOw' (S : ZQ) (x : Nat → Int32) : ZQ := (S.1, S.2.1, (x, S.2.2.1.2.1, S.2.2.1.2.2.1, S.2.2.1.2.2.2.1, S.2.2.1.2.2.2.2), S.2.2.2.1, S.2.2.2.2)
abbrev qNa (S : ZQ) : Nat → Int32 := S.2.2.1.2.1
abbrev qNa' (S : ZQ) (x : Nat → Int32) : ZQ := (S.1, S.2.1, (S.2.2.1.1, x, S.2.2.1.2.2.1, S.2.2.1.2.2.2.1, S.2.2.1.2.2.2.2), S.2.2.2.1, S.2.2.2.2)
abbrev qMa (S : ZQ) : Nat → Int32 := S.2.2.1.2.2.1
abbrev qMa' (S : ZQ) (x : Nat → Int32) : ZQ := (S.1, S.2.1, (S.2.2.1.1, S.2.2.1.2.1, x, S.2.2.1.2.2.2.1, S.2.2.1.2.2.2.2), S.2.2.2.1, S.2.2.2.2)
abbrev qPa (S : ZQ) : Nat → Int32 := S.2.2.1.2.2.2.1
abbrev qPa' (S : ZQ) (x : Nat → Int32) : ZQ := (S.1, S.2.1, (S.2.2.1.1, S.2.2.1.2.1, S.2.2.1.2.2.1, x, S.2.2.1.2.2.2.2), S.2.2.2.1, S.2.2.2.2)
abbrev qVa (S : ZQ) : Nat → Int32 := S.2.2.1.2.2.2.2
abbrev qVa' (S : ZQ) (x : Nat → Int32) : ZQ := (S.1, S.2.1, (S.2.2.1.1, S.2.2.1.2.1, S.2.2.1.2.2.1, S.2.2.1.2.2.2.1, x), S.2.2.2.1, S.2.2.2.2)
abbrev qKt (S : ZQ) : Nat → Int32 := S.2.2.2.1.1
abbrev qKt' (S : ZQ) (x : Nat → Int32) : ZQ := (S.1, S.2.1, S.2.2.1, (x, S.2.2.2.1.2.1, S.2.2.2.1.2.2.1, S.2.2.2.1.2.2.2.1, S.2.2.2.1.2.2.2.2), S.2.2.2.2)
abbrev qKn (S : ZQ) : Nat → Int32 := S.2.2.2.1.2.1
abbrev qKn' (S : ZQ) (x : Nat → Int32) : ZQ := (S.1, S.2.1, S.2.2.1, (S.2.2.2.1.1, x, S.2.2.2.1.2.2.1, S.2.2.2.1.2.2.2.1, S.2.2.2.1.2.2.2.2), S.2.2.2.2)
abbrev qKm (S : ZQ) : Nat → Int32 := S.2.2.2.1.2.2.1
abbrev qKm' (S : ZQ) (x : Nat → Int32) : ZQ := (S.1, S.2.1, S.2.2.1, (S.2.2.2.1.1, S.2.2.2.1.2.1, x, S.2.2.2.1.2.2.2.1, S.2.2.2.1.2.2.2.2), S.2.2.2.2)
abbrev qKc (S : ZQ) : Nat → Int64 := S.2.2.2.1.2.2.2.1
abbrev qKc' (S : ZQ) (x : Nat → Int64) : ZQ := (S.1, S.2.1, S.2.2.1, (S.2.2.2.1.1, S.2.2.2.1.2.1, S.2.2.2.1.2.2.1, x, S.2.2.2.1.2.2.2.2), S.2.2.2.2)
abbrev qKa (S : ZQ) : Nat → Int32 := S.2.2.2.1.2.2.2.2
abbrev qKa' (S : ZQ) (x : Nat → Int32) : ZQ := (S.1, S.2.1, S.2.2.1, (S.2.2.2.1.1, S.2.2.2.1.2.1, S.2.2.2.1.2.2.1, S.2.2.2.1.2.2.2.1, x), S.2.2.2.2)
abbrev qLi (S : ZQ) : Nat → Int32 := S.2.2.2.2.1
abbrev qLi' (S : ZQ) (x : Nat → Int32) : ZQ := (S.1, S.2.1, S.2.2.1, S.2.2.2.1, (x, S.2.2.2.2.2.1, S.2.2.2.2.2.2.1, S.2.2.2.2.2.2.2.1, S.2.2.2.2.2.2.2.2))
abbrev qMt (S : ZQ) : Nat → Int32 := S.2.2.2.2.2.1
abbrev qMt' (S : ZQ) (x : Nat → Int32) : ZQ := (S.1, S.2.1, S.2.2.1, S.2.2.2.1, (S.2.2.2.2.1, x, S.2.2.2.2.2.2.1, S.2.2.2.2.2.2.2.1, S.2.2.2.2.2.2.2.2))
abbrev qVl (S : ZQ) : Nat → Int32 := S.2.2.2.2.2.2.1
abbrev qVl' (S : ZQ) (x : Nat → Int32) : ZQ := (S.1, S.2.1, S.2.2.1, S.2.2.2.1, (S.2.2.2.2.1, S.2.2.2.2.2.1, x, S.2.2.2.2.2.2.2.1, S.2.2.2.2.2.2.2.2))
abbrev qIo (S : ZQ) : Nat → Int32 := S.2.2.2.2.2.2.2.1
abbrev qIo' (S : ZQ) (x : Nat → Int32) : ZQ := (S.1, S.2.1, S.2.2.1, S.2.2.2.1, (S.2.2.2.2.1, S.2.2.2.2.2.1, S.2.2.2.2.2.2.1, x, S.2.2.2.2.2.2.2.2))
abbrev qPi (S : ZQ) : Nat → Int32 := S.2.2.2.2.2.2.2.2
abbrev qPi' (S : ZQ) (x : Nat → Int32) : ZQ := (S.1, S.2.1, S.2.2.1, S.2.2.2.1, (S.2.2.2.2.1, S.2.2.2.2.2.1, S.2.2.2.2.2.2.1, S.2.2.2.2.2.2.2.1, x))
def qw (z : zE) (B : Nat → Nat) (S : ZQ) : va_W := [((B 0), .inr (5, [.int (qTh S), .int (qTy S), .ref (B 1), .ref (B 2), .ref (B 3), .ref (B 4), .int (qMe S), .ref (B 5), .ref (B 6), .ref (B 7), .ref (B 8), .ref (B 9), .int (qKe S), .ref (B 10), .ref (B 11), .ref (B 12), .ref (B 13), .ref (B 14), .int (qWo S), .int (qHa S), .int (qPh S), .ref (B 15), .int (qLm S), .ref (B 16), .int (qMm S), .ref (B 17), .ref (B 18), .ref (B 19)])),
  ((B 1), .inl (zZ z, 32, .inl (qIf S))),
  ((B 2), .inl (zI z, 32, .inl (qAb S))),
  ((B 3), .inl (zI z, 32, .inl (qFm S))),
  ((B 4), .inl (zI z, 1024, .inl (qFa S))),
  ((B 5), .inl (zI z, 80, .inl (qOw S))),
  ((B 6), .inl (zI z, 80, .inl (qNa S))),
  ((B 7), .inl (zI z, 80, .inl (qMa S))),
  ((B 8), .inl (zI z, 320, .inl (qPa S))),
  ((B 9), .inl (zZ z, 80, .inl (qVa S))),
  ((B 10), .inl (zI z, 100, .inl (qKt S))),
  ((B 11), .inl (zI z, 100, .inl (qKn S))),
  ((B 12), .inl (zI z, 100, .inl (qKm S))),
  ((B 13), .inl (zL z, 100, .inr (.inl (qKc S)))),
  ((B 14), .inl (zI z, 100, .inl (qKa S))),
  ((B 15), .inl (zI z, 32, .inl (qLi S))),
  ((B 16), .inl (zI z, 80, .inl (qMt S))),
  ((B 17), .inl (zI z, 6, .inl (qVl S))),
  ((B 18), .inl (zZ z, 32, .inl (qIo S))),
  ((B 19), .inl (zI z, 1024, .inl (qPi S)))]
theorem cw_row {z : zE} {A : Nat → Nat} {S : ZC} {Rr : va_W} {j : Nat} (hj : j < 32) : (cw z A S ++ Rr)[23 + j]? = some (A (23 + j), .inl (zI z, 24, .inl (tGr S j))) := by
  show ((_ :: _ :: _ :: _ :: _ :: _ :: _ :: _ :: _ :: _ :: _ :: _ :: _ :: _ :: _ :: _ :: _ :: _ :: _ :: _ :: _ :: _ :: _ :: ((List.range 32).map (fun i => (A (23 + i), (.inl (zI z, 24, .inl (tGr S i)) : va_E))) ++ Rr)) : va_W)[23 + j]? = _
  rw [show 23 + j = j + 23 by omega]
  show (((List.range 32).map (fun i => (A (23 + i), (.inl (zI z, 24, .inl (tGr S i)) : va_E))) ++ Rr) : va_W)[j]? = _
  rw [List.getElem?_append_left (by simp [hj]), List.getElem?_map, List.getElem?_range hj]
  rw [show j + 23 = 23 + j by omega]
  rfl
theorem cw_srow {z : zE} {A : Nat → Nat} {S : ZC} {Rr : va_W} {j : Nat} (hj : j < 32) {f : Nat → Int32} : (cw z A S ++ Rr).set (23 + j) (A (23 + j), .inl (zI z, 24, .inl f)) = cw z A (tGr' S (va_up (tGr S) j f)) ++ Rr := by
  rw [show 23 + j = j + 23 by omega]
  show (_ :: _ :: _ :: _ :: _ :: _ :: _ :: _ :: _ :: _ :: _ :: _ :: _ :: _ :: _ :: _ :: _ :: _ :: _ :: _ :: _ :: _ :: _ :: (((List.range 32).map (fun i => (A (23 + i), (.inl (zI z, 24, .inl (tGr S i)) : va_E))) ++ Rr).set j (A (j + 23), .inl (zI z, 24, .inl f))) : va_W) = (_ :: _ :: _ :: _ :: _ :: _ :: _ :: _ :: _ :: _ :: _ :: _ :: _ :: _ :: _ :: _ :: _ :: _ :: _ :: _ :: _ :: _ :: _ :: (((List.range 32).map (fun i => (A (23 + i), (.inl (zI z, 24, .inl (va_up (tGr S) j f i)) : va_E))) ++ Rr)) : va_W)
  congr 1
  sorry
section ZZA
variable {z : zE} {p : Program} {l : Launch} {e : Env} {R : Room} {s : State} {m : MethodId} {args : Array Value} {below : List Frame} {meth : Method} {c : Code} {H : Heap} {locs : List Loc} {Q : State → Prop} {cc : ByteArray} {A0 : Nat → Prop} {pc cells slots : Nat} {ls : Array Slot} {w : va_W} {rest : List Value}
theorem zz_aald (hexec : p.tables.exec = Jvm.exec) (hb : c.code = cc) {D : va_G} {cl : List vw_C} {tys : List (ClassId × FieldType)} (hK : va_K D cl tys s) (hP : va_P D cl w H) (q0 t0 : Nat) {a : Nat} {cA : ClassId} {ty : FieldType} {n : Nat} {f : Nat → Nat} (ha : w[q0]? = some (a, .inl (cA, n, .inr (.inr (.inr (.inr (fun i => some (f i)))))))) (ht : tys[t0]? = some (cA, .array ty)) {i : Int32} (hin : vp_in i n) (hdg : decode cc pc = .ok (.aaload, 1))
    (kk : W p l e R s m args below meth c H locs cells slots Q (F0 m (pc + 1) ls (.ref (f i.toNatClampNeg) :: rest))) : W p l e R s m args below meth c H locs cells slots Q (F0 m pc ls (.int i :: .ref a :: rest)) := by
  have hlt : i.toNatClampNeg < n := Nat.not_le.mp fun q => hin (Or.inr q)
  exact W.aald (v := .ref (f i.toNatClampNeg)) (ty := .array ty) hexec hb (hP q0 _ ha) ((hK.2 t0 _ ht).1 n (fun j => va_rf (some (f j)))) rfl (fun q => by cases q) (by show ¬ (i < 0 ∨ (arrV _ _ _).slots.size ≤ _); rw [arrV_size]; exact hin) (by show (arrV _ _ _).slots[_]? = _; rw [arrV_read _ _ hlt]; rfl) rfl rfl hdg kk
end ZZA
end
section
abbrev b_T_bit : ByteArray := prog_5_method_17_code
abbrev y_T_bit : MethodName := ⟨"MemberChooser$Types", "bit", "(I)I"⟩
abbrev w_T_bit : List Cond := Cond.code y_T_bit b_T_bit 1 (some .int) :: zTb
theorem d_T_bit_0 : decode b_T_bit 0 = .ok (.iconst 1, 1) := by decide +kernel
theorem d_T_bit_1 : decode b_T_bit 1 = .ok (.iload_n 0, 1) := by decide +kernel
theorem d_T_bit_2 : decode b_T_bit 2 = .ok (.ishl, 1) := by decide +kernel
theorem d_T_bit_3 : decode b_T_bit 3 = .ok (.ireturn, 1) := by decide +kernel
abbrev rm_T_bit : Room := { frames := 0, cells := 0, slots := 0, locals := 0 }
def fx_T_bit (n : Nat) (a0 : Int32) : Option (Int32) :=
  some ((1 : Int32) <<< (a0 &&& 31))

set_option maxRecDepth 100000 in
set_option maxHeartbeats 4000000 in
theorem k_T_bit (l : Launch) (z : zE) (w : va_W) (n : Nat) (a0 : Int32) (r0 : Int32) (h : fx_T_bit n a0 = some r0) : zC z l y_T_bit w_T_bit rm_T_bit [.int a0] w (some (.int r0)) w := by
  refine zz_of (by decide) (Nat.le_of_ble_eq_true rfl) ?_
  intro p e s m args below meth c A0 ls hM hr hlocks hA hP hD hl
  have hM : zM z p s m args c b_T_bit 1 R_T := hM
  obtain ⟨hx, hb, hml, hown, hts, hK, hN⟩ := id hM
  have hS : va_S A0 s.heap s.heap [] := va_S.rf
  have hl : lv_has ls 1 [(0, .int a0)] := hl
  unfold fx_T_bit at h
  refine lv_iconst (v := 1) hx hb d_T_bit_0 (by decide) ?_
  refine lv_iload_n hx hb d_T_bit_1 rfl (lv_at hl 0 rfl) ?_
  refine lv_ishl hx hb d_T_bit_2 ?_
  exact zz_iretG hx hb hr hlocks hP hD hS h d_T_bit_3

abbrev b_T_isPrimitive : ByteArray := prog_5_method_2_code
abbrev y_T_isPrimitive : MethodName := ⟨"MemberChooser$Types", "isPrimitive", "(I)Z"⟩
abbrev w_T_isPrimitive : List Cond := Cond.code y_T_isPrimitive b_T_isPrimitive 1 (some .boolean) :: zTb
theorem d_T_isPrimitive_0 : decode b_T_isPrimitive 0 = .ok (.iload_n 0, 1) := by decide +kernel
theorem d_T_isPrimitive_1 : decode b_T_isPrimitive 1 = .ok (.ifCond .lt 12, 3) := by decide +kernel
theorem d_T_isPrimitive_4 : decode b_T_isPrimitive 4 = .ok (.iload_n 0, 1) := by decide +kernel
theorem d_T_isPrimitive_5 : decode b_T_isPrimitive 5 = .ok (.iconst 2, 1) := by decide +kernel
theorem d_T_isPrimitive_6 : decode b_T_isPrimitive 6 = .ok (.if_icmp .gt 7, 3) := by decide +kernel
theorem d_T_isPrimitive_9 : decode b_T_isPrimitive 9 = .ok (.iconst 1, 1) := by decide +kernel
theorem d_T_isPrimitive_10 : decode b_T_isPrimitive 10 = .ok (.goto 4, 3) := by decide +kernel
theorem d_T_isPrimitive_13 : decode b_T_isPrimitive 13 = .ok (.iconst 0, 1) := by decide +kernel
theorem d_T_isPrimitive_14 : decode b_T_isPrimitive 14 = .ok (.ireturn, 1) := by decide +kernel
abbrev rm_T_isPrimitive : Room := { frames := 0, cells := 0, slots := 0, locals := 0 }
def fx_T_isPrimitive (n : Nat) (a0 : Int32) : Option (Int32) :=
  (if a0 < 0 then
  some (0 : Int32)
  else
  (if (2 : Int32) < a0 then
    some (0 : Int32)
    else
    some (1 : Int32)))

set_option maxRecDepth 100000 in
set_option maxHeartbeats 4000000 in
theorem k_T_isPrimitive (l : Launch) (z : zE) (w : va_W) (n : Nat) (a0 : Int32) (r0 : Int32) (h : fx_T_isPrimitive n a0 = some r0) : zC z l y_T_isPrimitive w_T_isPrimitive rm_T_isPrimitive [.int a0] w (some (.int r0)) w := by
  refine zz_of (by decide) (Nat.le_of_ble_eq_true rfl) ?_
  intro p e s m args below meth c A0 ls hM hr hlocks hA hP hD hl
  have hM : zM z p s m args c b_T_isPrimitive 1 R_T := hM
  obtain ⟨hx, hb, hml, hown, hts, hK, hN⟩ := id hM
  have hS : va_S A0 s.heap s.heap [] := va_S.rf
  have hl : lv_has ls 1 [(0, .int a0)] := hl
  unfold fx_T_isPrimitive at h
  refine lv_iload_n hx hb d_T_isPrimitive_0 rfl (lv_at hl 0 rfl) ?_
  refine lv_if_lt (tgt := 13) hx hb d_T_isPrimitive_1 (by decide) (fun c_1 => ?_) (fun c_1 => ?_)
  · have h := zz_t c_1 h
    refine lv_iconst (v := 0) hx hb d_T_isPrimitive_13 (by decide) ?_
    exact zz_zretG hx hb hr hlocks hP hD hS rfl h d_T_isPrimitive_14
  · have h := zz_f c_1 h
    refine lv_iload_n hx hb d_T_isPrimitive_4 rfl (lv_at hl 0 rfl) ?_
    refine lv_iconst (v := 2) hx hb d_T_isPrimitive_5 (by decide) ?_
    refine lv_icmp_gt (tgt := 13) hx hb d_T_isPrimitive_6 (by decide) (fun c_2 => ?_) (fun c_2 => ?_)
    · have h := zz_t c_2 h
      refine lv_iconst (v := 0) hx hb d_T_isPrimitive_13 (by decide) ?_
      exact zz_zretG hx hb hr hlocks hP hD hS rfl h d_T_isPrimitive_14
    · have h := zz_f c_2 h
      refine lv_iconst (v := 1) hx hb d_T_isPrimitive_9 (by decide) ?_
      refine lv_goto (tgt := 14) hx hb d_T_isPrimitive_10 (by decide) ?_
      exact zz_zretG hx hb hr hlocks hP hD hS rfl h d_T_isPrimitive_14

abbrev b_T_holds : ByteArray := prog_5_method_16_code
abbrev y_T_holds : MethodName := ⟨"MemberChooser$Types", "holds", "([III)Z"⟩
abbrev w_T_holds : List Cond := Cond.code y_T_holds b_T_holds 4 (some .boolean) :: zTb
theorem d_T_holds_0 : decode b_T_holds 0 = .ok (.iconst 0, 1) := by decide +kernel
theorem d_T_holds_1 : decode b_T_holds 1 = .ok (.istore_n 3, 1) := by decide +kernel
theorem d_T_holds_2 : decode b_T_holds 2 = .ok (.iload_n 3, 1) := by decide +kernel
theorem d_T_holds_3 : decode b_T_holds 3 = .ok (.iload_n 1, 1) := by decide +kernel
theorem d_T_holds_4 : decode b_T_holds 4 = .ok (.if_icmp .ge 24, 3) := by decide +kernel
theorem d_T_holds_7 : decode b_T_holds 7 = .ok (.iload_n 3, 1) := by decide +kernel
theorem d_T_holds_8 : decode b_T_holds 8 = .ok (.aload_n 0, 1) := by decide +kernel
theorem d_T_holds_9 : decode b_T_holds 9 = .ok (.arraylength, 1) := by decide +kernel
theorem d_T_holds_10 : decode b_T_holds 10 = .ok (.if_icmp .ge 18, 3) := by decide +kernel
theorem d_T_holds_13 : decode b_T_holds 13 = .ok (.aload_n 0, 1) := by decide +kernel
theorem d_T_holds_14 : decode b_T_holds 14 = .ok (.iload_n 3, 1) := by decide +kernel
theorem d_T_holds_15 : decode b_T_holds 15 = .ok (.iaload, 1) := by decide +kernel
theorem d_T_holds_16 : decode b_T_holds 16 = .ok (.iload_n 2, 1) := by decide +kernel
theorem d_T_holds_17 : decode b_T_holds 17 = .ok (.if_icmp .ne 5, 3) := by decide +kernel
theorem d_T_holds_20 : decode b_T_holds 20 = .ok (.iconst 1, 1) := by decide +kernel
theorem d_T_holds_21 : decode b_T_holds 21 = .ok (.ireturn, 1) := by decide +kernel
theorem d_T_holds_22 : decode b_T_holds 22 = .ok (.iinc 3 1, 3) := by decide +kernel
theorem d_T_holds_25 : decode b_T_holds 25 = .ok (.goto (-23), 3) := by decide +kernel
theorem d_T_holds_28 : decode b_T_holds 28 = .ok (.iconst 0, 1) := by decide +kernel
theorem d_T_holds_29 : decode b_T_holds 29 = .ok (.ireturn, 1) := by decide +kernel
abbrev rm_T_holds : Room := { frames := 0, cells := 0, slots := 0, locals := 0 }
def st_T_holds_L2 (n : Nat) (N0 : Nat) (f0 : Nat → Int32) (v1 : Int32) (v2 : Int32) (v3 : Int32) : Option ((Int32) ⊕ (Nat × Int32)) :=
  (if v1 ≤ v3 then
  some (.inr (28, v3))
  else
  (if (Int32.ofNat N0) ≤ v3 then
    some (.inr (28, v3))
    else
    (if zoob v3 N0 then none else
      (if (f0 v3.toNatClampNeg) = v2 then
      some (.inr (20, v3))
      else
      some (.inl ((v3 + (1 : Int32))))))))

def fx_T_holds_L2 (n : Nat) (N0 : Nat) (f0 : Nat → Int32) (v1 : Int32) (v2 : Int32) (v3 : Int32) : Option (Nat × Int32) := zloop (fun (st : Int32) => st_T_holds_L2 n N0 f0 v1 v2 st) n (v3)

def fx_T_holds (n : Nat) (N0 : Nat) (f0 : Nat → Int32) (a1 : Int32) (a2 : Int32) : Option (Int32) :=
  zbL1 (fx_T_holds_L2 n N0 f0 a1 a2 (0 : Int32)) (fun x_5 v3_5 =>
  if x_5 = 20 then
  some (1 : Int32)
  else if x_5 = 28 then
  some (0 : Int32)
  else none)

set_option maxRecDepth 100000 in
set_option maxHeartbeats 4000000 in
theorem lp_T_holds_L2 {z : zE} {w : va_W} {p : Program} {l : Launch} {e : Env} {s : State} {m : MethodId} {args : Array Value} {below : List Frame} {meth : Method} {c : Code} {Q : State → Prop} {H0 : Heap} {A0 : Nat → Prop} {a0 N0 kq : Nat} {f0 : Nat → Int32} (hq : w[kq]? = some (a0, .inl (zI z, N0, .inl f0))) (hM : zM z p s m args c b_T_holds 4 R_T) (hA : ∀ q : Nat, H0.size ≤ q → A0 q) (n : Nat) (v1 : Int32) (v2 : Int32) :
    ∀ (v3 : Int32) (r : Nat × Int32), fx_T_holds_L2 n N0 f0 v1 v2 v3 = some r → (∀ (H : Heap) (locs : List Loc) (ls : Array Slot), va_P z.1 vwCl w H → va_D A0 w → va_S A0 H0 H locs → lv_has ls 4 [(0, .ref a0), (1, .int v1), (2, .int v2), (3, .int r.2)] → W p l e rm_T_holds s m args below meth c H locs 0 0 Q (F0 m r.1 ls [])) →
    ∀ (H : Heap) (locs : List Loc) (ls : Array Slot), va_P z.1 vwCl w H → va_D A0 w → va_S A0 H0 H locs → lv_has ls 4 [(0, .ref a0), (1, .int v1), (2, .int v2), (3, .int v3)] → W p l e rm_T_holds s m args below meth c H locs 0 0 Q (F0 m 2 ls []) := by
  obtain ⟨hx, hb, hml, hown, hts, hK, hN⟩ := id hM
  intro v3 r h hE
  refine zz_loop (G := fun (st : Int32) => ∀ (H : Heap) (locs : List Loc) (ls : Array Slot), va_P z.1 vwCl w H → va_D A0 w → va_S A0 H0 H locs → lv_has ls 4 [(0, .ref a0), (1, .int v1), (2, .int v2), (3, .int st)] → W p l e rm_T_holds s m args below meth c H locs 0 0 Q (F0 m 2 ls [])) (E := fun (r : Nat × Int32) => ∀ (H : Heap) (locs : List Loc) (ls : Array Slot), va_P z.1 vwCl w H → va_D A0 w → va_S A0 H0 H locs → lv_has ls 4 [(0, .ref a0), (1, .int v1), (2, .int v2), (3, .int r.2)] → W p l e rm_T_holds s m args below meth c H locs 0 0 Q (F0 m r.1 ls [])) ?_ n (v3) r h hE
  clear h hE r v3
  intro v3 o h hG hE H locs ls hP hD hS hl
  have h : st_T_holds_L2 n N0 f0 v1 v2 v3 = some o := h
  have hl : lv_has ls 4 [(0, .ref a0), (1, .int v1), (2, .int v2), (3, .int v3)] := hl
  unfold st_T_holds_L2 at h
  refine lv_iload_n hx hb d_T_holds_2 rfl (lv_at hl 3 rfl) ?_
  refine lv_iload_n hx hb d_T_holds_3 rfl (lv_at hl 1 rfl) ?_
  refine lv_icmp_ge (tgt := 28) hx hb d_T_holds_4 (by decide) (fun c_1 => ?_) (fun c_1 => ?_)
  · have h := zz_t c_1 h
    exact hE _ (Option.some.inj h).symm _ _ _ hP hD hS hl
  · have h := zz_f c_1 h
    refine lv_iload_n hx hb d_T_holds_7 rfl (lv_at hl 3 rfl) ?_
    refine lv_aload_n hx hb d_T_holds_8 rfl (lv_at hl 0 rfl) ?_
    refine va_alen hx hb hK hP kq 0 hq rfl (v := (Int32.ofNat N0)) rfl d_T_holds_9 ?_
    refine lv_icmp_ge (tgt := 28) hx hb d_T_holds_10 (by decide) (fun c_2 => ?_) (fun c_2 => ?_)
    · have h := zz_t c_2 h
      exact hE _ (Option.some.inj h).symm _ _ _ hP hD hS hl
    · have h := zz_f c_2 h
      refine lv_aload_n hx hb d_T_holds_13 rfl (lv_at hl 0 rfl) ?_
      refine lv_iload_n hx hb d_T_holds_14 rfl (lv_at hl 3 rfl) ?_
      obtain ⟨c_3, h⟩ := zz_oob h
      refine va_iald hx hb hK hP kq 0 hq rfl c_3 d_T_holds_15 ?_
      refine lv_iload_n hx hb d_T_holds_16 rfl (lv_at hl 2 rfl) ?_
      refine lv_icmp_ne (tgt := 22) hx hb d_T_holds_17 (by decide) (fun c_4 => ?_) (fun c_4 => ?_)
      · have h := zz_f c_4 h
        refine lv_iinc (v := (v3 + (1 : Int32))) (lv' := [(3, .int (v3 + (1 : Int32))), (0, .ref a0), (1, .int v1), (2, .int v2)]) hx hb d_T_holds_22 hl (k := 3) rfl rfl (by decide) rfl (fun ls hl => ?_)
        refine lv_goto (tgt := 2) hx hb d_T_holds_25 (by decide) ?_
        exact hG _ (Option.some.inj h).symm _ _ _ hP hD hS (lv_sub hl [1, 2, 3, 0] rfl)
      · have h := zz_t c_4 h
        exact hE _ (Option.some.inj h).symm _ _ _ hP hD hS hl

set_option maxRecDepth 100000 in
set_option maxHeartbeats 4000000 in
theorem k_T_holds (l : Launch) (z : zE) (w : va_W) {a0 N0 kq : Nat} {f0 : Nat → Int32} (hq : w[kq]? = some (a0, .inl (zI z, N0, .inl f0))) (n : Nat) (a1 : Int32) (a2 : Int32) (r0 : Int32) (h : fx_T_holds n N0 f0 a1 a2 = some r0) : zC z l y_T_holds w_T_holds rm_T_holds [.ref a0, .int a1, .int a2] w (some (.int r0)) w := by
  refine zz_of (by decide) (Nat.le_of_ble_eq_true rfl) ?_
  intro p e s m args below meth c A0 ls hM hr hlocks hA hP hD hl
  have hM : zM z p s m args c b_T_holds 4 R_T := hM
  obtain ⟨hx, hb, hml, hown, hts, hK, hN⟩ := id hM
  have hS : va_S A0 s.heap s.heap [] := va_S.rf
  have hl : lv_has ls 4 [(0, .ref a0), (1, .int a1), (2, .int a2)] := hl
  unfold fx_T_holds at h
  refine lv_iconst (v := 0) hx hb d_T_holds_0 (by decide) ?_
  refine lv_istore_n (lv' := [(3, .int (0 : Int32)), (0, .ref a0), (1, .int a1), (2, .int a2)]) hx hb d_T_holds_1 rfl hl (by decide) rfl (fun ls hl => ?_)
  obtain ⟨x_5, v3_5, e_5, h⟩ := zz_bL1 h
  refine lp_T_holds_L2 hq hM hA n a1 a2 _ _ e_5 ?_ _ _ _ hP hD hS (lv_sub hl [1, 2, 3, 0] rfl)
  intro H locs ls hP hD hS hl
  have hl : lv_has ls 4 [(0, .ref a0), (1, .int a1), (2, .int a2), (3, .int v3_5)] := hl
  by_cases c_5 : x_5 = 20
  · have h := zz_t c_5 h
    subst c_5
    refine lv_iconst (v := 1) hx hb d_T_holds_20 (by decide) ?_
    exact zz_zretG hx hb hr hlocks hP hD hS rfl h d_T_holds_21
  have h := zz_f c_5 h
  obtain ⟨c_5, h⟩ := zz_grd h
  subst c_5
  refine lv_iconst (v := 0) hx hb d_T_holds_28 (by decide) ?_
  exact zz_zretG hx hb hr hlocks hP hD hS rfl h d_T_holds_29

abbrev b_T_exists : ByteArray := prog_5_method_3_code
abbrev y_T_exists : MethodName := ⟨"MemberChooser$Types", "exists", "(I)Z"⟩
abbrev w_T_exists : List Cond := Cond.code y_T_exists b_T_exists 2 (some .boolean) :: zTb
theorem d_T_exists_0 : decode b_T_exists 0 = .ok (.iload_n 1, 1) := by decide +kernel
theorem d_T_exists_1 : decode b_T_exists 1 = .ok (.ifCond .lt 18, 3) := by decide +kernel
theorem d_T_exists_4 : decode b_T_exists 4 = .ok (.iload_n 1, 1) := by decide +kernel
theorem d_T_exists_5 : decode b_T_exists 5 = .ok (.bipush 8, 2) := by decide +kernel
theorem d_T_exists_7 : decode b_T_exists 7 = .ok (.aload_n 0, 1) := by decide +kernel
theorem d_T_exists_8 : decode b_T_exists 8 = .ok (.getfield 30, 3) := by decide +kernel
theorem d_T_exists_11 : decode b_T_exists 11 = .ok (.iadd, 1) := by decide +kernel
theorem d_T_exists_12 : decode b_T_exists 12 = .ok (.if_icmp .ge 7, 3) := by decide +kernel
theorem d_T_exists_15 : decode b_T_exists 15 = .ok (.iconst 1, 1) := by decide +kernel
theorem d_T_exists_16 : decode b_T_exists 16 = .ok (.goto 4, 3) := by decide +kernel
theorem d_T_exists_19 : decode b_T_exists 19 = .ok (.iconst 0, 1) := by decide +kernel
theorem d_T_exists_20 : decode b_T_exists 20 = .ok (.ireturn, 1) := by decide +kernel
abbrev rm_T_exists : Room := { frames := 0, cells := 0, slots := 0, locals := 0 }
def fx_T_exists (n : Nat) (S : ZC) (a1 : Int32) : Option (Int32 × ZC) :=
  (if a1 < 0 then
  some ((0 : Int32), S)
  else
  (if ((8 : Int32) + (tTo S)) ≤ a1 then
    some ((0 : Int32), S)
    else
    some ((1 : Int32), S)))

set_option maxRecDepth 100000 in
set_option maxHeartbeats 4000000 in
theorem k_T_exists (l : Launch) (z : zE) (A : Nat → Nat) (Rr : va_W) (n : Nat) (S : ZC) (a1 : Int32) (r0 : Int32) (S' : ZC) (h : fx_T_exists n S a1 = some (r0, S')) : zC z l y_T_exists w_T_exists rm_T_exists [.ref (A 1), .int a1] (cw z A S ++ Rr) (some (.int r0)) (cw z A S' ++ Rr) := by
  refine zz_of (by decide) (Nat.le_of_ble_eq_true rfl) ?_
  intro p e s m args below meth c A0 ls hM hr hlocks hA hP hD hl
  have hM : zM z p s m args c b_T_exists 2 R_T := hM
  obtain ⟨hx, hb, hml, hown, hts, hK, hN⟩ := id hM
  have hS : va_S A0 s.heap s.heap [] := va_S.rf
  have hl : lv_has ls 2 [(0, .ref (A 1)), (1, .int a1)] := hl
  unfold fx_T_exists at h
  refine lv_iload_n hx hb d_T_exists_0 rfl (lv_at hl 1 rfl) ?_
  refine lv_if_lt (tgt := 19) hx hb d_T_exists_1 (by decide) (fun c_1 => ?_) (fun c_1 => ?_)
  · have h := zz_t c_1 h
    refine lv_iconst (v := 0) hx hb d_T_exists_19 (by decide) ?_
    exact zz_zret (fun S => cw z A S ++ Rr) hx hb hr hlocks hP hD hS rfl h d_T_exists_20
  · have h := zz_f c_1 h
    refine lv_iload_n hx hb d_T_exists_4 rfl (lv_at hl 1 rfl) ?_
    refine lv_bipush (v := 8) hx hb d_T_exists_5 (by decide) ?_
    refine lv_aload_n hx hb d_T_exists_7 rfl (lv_at hl 0 rfl) ?_
    refine va_get (D := z.1) (ci := 1) (v := .int (tTo S)) (C := R_T) (T := F_T) (N := 6) hx hb hts i_T hown hK hP 1 rfl rfl 5 (by decide) (hts _ wq_43) (fun _ h9 => h9) rfl d_T_exists_8 ?_
    refine lv_iadd hx hb d_T_exists_11 ?_
    refine lv_icmp_ge (tgt := 19) hx hb d_T_exists_12 (by decide) (fun c_2 => ?_) (fun c_2 => ?_)
    · have h := zz_t c_2 h
      refine lv_iconst (v := 0) hx hb d_T_exists_19 (by decide) ?_
      exact zz_zret (fun S => cw z A S ++ Rr) hx hb hr hlocks hP hD hS rfl h d_T_exists_20
    · have h := zz_f c_2 h
      refine lv_iconst (v := 1) hx hb d_T_exists_15 (by decide) ?_
      refine lv_goto (tgt := 20) hx hb d_T_exists_16 (by decide) ?_
      exact zz_zret (fun S => cw z A S ++ Rr) hx hb hr hlocks hP hD hS rfl h d_T_exists_20

abbrev b_T_isTold : ByteArray := prog_5_method_4_code
abbrev y_T_isTold : MethodName := ⟨"MemberChooser$Types", "isTold", "(I)Z"⟩
abbrev w_T_isTold : List Cond := Cond.code y_T_isTold b_T_isTold 2 (some .boolean) :: zTb
theorem d_T_isTold_0 : decode b_T_isTold 0 = .ok (.iload_n 1, 1) := by decide +kernel
theorem d_T_isTold_1 : decode b_T_isTold 1 = .ok (.bipush 8, 2) := by decide +kernel
theorem d_T_isTold_3 : decode b_T_isTold 3 = .ok (.if_icmp .lt 15, 3) := by decide +kernel
theorem d_T_isTold_6 : decode b_T_isTold 6 = .ok (.aload_n 0, 1) := by decide +kernel
theorem d_T_isTold_7 : decode b_T_isTold 7 = .ok (.iload_n 1, 1) := by decide +kernel
theorem d_T_isTold_8 : decode b_T_isTold 8 = .ok (.invokevirtual 42, 3) := by decide +kernel
theorem d_T_isTold_11 : decode b_T_isTold 11 = .ok (.ifCond .eq 7, 3) := by decide +kernel
theorem d_T_isTold_14 : decode b_T_isTold 14 = .ok (.iconst 1, 1) := by decide +kernel
theorem d_T_isTold_15 : decode b_T_isTold 15 = .ok (.goto 4, 3) := by decide +kernel
theorem d_T_isTold_18 : decode b_T_isTold 18 = .ok (.iconst 0, 1) := by decide +kernel
theorem d_T_isTold_19 : decode b_T_isTold 19 = .ok (.ireturn, 1) := by decide +kernel
abbrev rm_T_isTold : Room := { frames := 1, cells := 0, slots := 0, locals := 21 }
def fx_T_isTold (n : Nat) (S : ZC) (a1 : Int32) : Option (Int32 × ZC) :=
  (if a1 < (8 : Int32) then
  some ((0 : Int32), S)
  else
  zbind (fx_T_exists n S a1) (fun r_2 S_2 =>
    (if r_2 = 0 then
    some ((0 : Int32), S_2)
    else
    some ((1 : Int32), S_2))))

set_option maxRecDepth 100000 in
set_option maxHeartbeats 4000000 in
theorem k_T_isTold (l : Launch) (z : zE) (A : Nat → Nat) (Rr : va_W) (n : Nat) (S : ZC) (a1 : Int32) (r0 : Int32) (S' : ZC) (h : fx_T_isTold n S a1 = some (r0, S')) : zC z l y_T_isTold w_T_isTold rm_T_isTold [.ref (A 1), .int a1] (cw z A S ++ Rr) (some (.int r0)) (cw z A S' ++ Rr) := by
  refine zz_of (by decide) (Nat.le_of_ble_eq_true rfl) ?_
  intro p e s m args below meth c A0 ls hM hr hlocks hA hP hD hl
  have hM : zM z p s m args c b_T_isTold 2 R_T := hM
  obtain ⟨hx, hb, hml, hown, hts, hK, hN⟩ := id hM
  have hS : va_S A0 s.heap s.heap [] := va_S.rf
  have hl : lv_has ls 2 [(0, .ref (A 1)), (1, .int a1)] := hl
  unfold fx_T_isTold at h
  refine lv_iload_n hx hb d_T_isTold_0 rfl (lv_at hl 1 rfl) ?_
  refine lv_bipush (v := 8) hx hb d_T_isTold_1 (by decide) ?_
  refine lv_icmp_lt (tgt := 18) hx hb d_T_isTold_3 (by decide) (fun c_1 => ?_) (fun c_1 => ?_)
  · have h := zz_t c_1 h
    refine lv_iconst (v := 0) hx hb d_T_isTold_18 (by decide) ?_
    exact zz_zret (fun S => cw z A S ++ Rr) hx hb hr hlocks hP hD hS rfl h d_T_isTold_19
  · have h := zz_f c_1 h
    refine lv_aload_n hx hb d_T_isTold_6 rfl (lv_at hl 0 rfl) ?_
    refine lv_iload_n hx hb d_T_isTold_7 rfl (lv_at hl 1 rfl) ?_
    obtain ⟨r_2, S_2, e_2, h⟩ := zz_bind h
    refine zz_goI (zz_runV (As := [.int a1]) (rest := []) (k_T_exists l z A Rr n _ _ _ _ e_2) ⟨hx, hb, hml, hown, hts⟩ (cwV 1 hts (zz_gV wq_180 wq_181 wq_182 wq_2 wq_183) rfl rfl rfl (by decide +kernel) ⟨Nat.le_of_ble_eq_true rfl, Nat.le_of_ble_eq_true rfl⟩) hK hN hP hD (va_recv hK hP (ci := 1) (q0 := 1) rfl rfl) rfl hl.1 rfl (Nat.le_of_ble_eq_true rfl) d_T_isTold_8 ⟨Nat.le_of_ble_eq_true rfl, Nat.le_of_ble_eq_true rfl⟩) hD hS hA (fun H locs hP hD hS => ?_)
    refine lv_if_eq (tgt := 18) hx hb d_T_isTold_11 (by decide) (fun c_3 => ?_) (fun c_3 => ?_)
    · have h := zz_t c_3 h
      refine lv_iconst (v := 0) hx hb d_T_isTold_18 (by decide) ?_
      exact zz_zret (fun S => cw z A S ++ Rr) hx hb hr hlocks hP hD hS rfl h d_T_isTold_19
    · have h := zz_f c_3 h
      refine lv_iconst (v := 1) hx hb d_T_isTold_14 (by decide) ?_
      refine lv_goto (tgt := 19) hx hb d_T_isTold_15 (by decide) ?_
      exact zz_zret (fun S => cw z A S ++ Rr) hx hb hr hlocks hP hD hS rfl h d_T_isTold_19

abbrev b_T_isSubtype : ByteArray := prog_5_method_9_code
abbrev y_T_isSubtype : MethodName := ⟨"MemberChooser$Types", "isSubtype", "(II)Z"⟩
abbrev w_T_isSubtype : List Cond := Cond.code y_T_isSubtype b_T_isSubtype 3 (some .boolean) :: zTb
theorem d_T_isSubtype_0 : decode b_T_isSubtype 0 = .ok (.aload_n 0, 1) := by decide +kernel
theorem d_T_isSubtype_1 : decode b_T_isSubtype 1 = .ok (.iload_n 1, 1) := by decide +kernel
theorem d_T_isSubtype_2 : decode b_T_isSubtype 2 = .ok (.invokevirtual 42, 3) := by decide +kernel
theorem d_T_isSubtype_5 : decode b_T_isSubtype 5 = .ok (.ifCond .eq 29, 3) := by decide +kernel
theorem d_T_isSubtype_8 : decode b_T_isSubtype 8 = .ok (.aload_n 0, 1) := by decide +kernel
theorem d_T_isSubtype_9 : decode b_T_isSubtype 9 = .ok (.iload_n 2, 1) := by decide +kernel
theorem d_T_isSubtype_10 : decode b_T_isSubtype 10 = .ok (.invokevirtual 42, 3) := by decide +kernel
theorem d_T_isSubtype_13 : decode b_T_isSubtype 13 = .ok (.ifCond .eq 21, 3) := by decide +kernel
theorem d_T_isSubtype_16 : decode b_T_isSubtype 16 = .ok (.aload_n 0, 1) := by decide +kernel
theorem d_T_isSubtype_17 : decode b_T_isSubtype 17 = .ok (.getfield 27, 3) := by decide +kernel
theorem d_T_isSubtype_20 : decode b_T_isSubtype 20 = .ok (.iload_n 1, 1) := by decide +kernel
theorem d_T_isSubtype_21 : decode b_T_isSubtype 21 = .ok (.iaload, 1) := by decide +kernel
theorem d_T_isSubtype_22 : decode b_T_isSubtype 22 = .ok (.iload_n 2, 1) := by decide +kernel
theorem d_T_isSubtype_23 : decode b_T_isSubtype 23 = .ok (.invokestatic 38, 3) := by decide +kernel
theorem d_T_isSubtype_26 : decode b_T_isSubtype 26 = .ok (.iand, 1) := by decide +kernel
theorem d_T_isSubtype_27 : decode b_T_isSubtype 27 = .ok (.ifCond .eq 7, 3) := by decide +kernel
theorem d_T_isSubtype_30 : decode b_T_isSubtype 30 = .ok (.iconst 1, 1) := by decide +kernel
theorem d_T_isSubtype_31 : decode b_T_isSubtype 31 = .ok (.goto 4, 3) := by decide +kernel
theorem d_T_isSubtype_34 : decode b_T_isSubtype 34 = .ok (.iconst 0, 1) := by decide +kernel
theorem d_T_isSubtype_35 : decode b_T_isSubtype 35 = .ok (.ireturn, 1) := by decide +kernel
abbrev rm_T_isSubtype : Room := { frames := 1, cells := 0, slots := 0, locals := 21 }
def fx_T_isSubtype (n : Nat) (S : ZC) (a1 : Int32) (a2 : Int32) : Option (Int32 × ZC) :=
  zbind (fx_T_exists n S a1) (fun r_1 S_1 =>
  (if r_1 = 0 then
  some ((0 : Int32), S_1)
  else
  zbind (fx_T_exists n S_1 a2) (fun r_3 S_3 =>
    (if r_3 = 0 then
    some ((0 : Int32), S_3)
    else
    (if zoob a1 32 then none else
      zbind1 (fx_T_bit n a2) (fun r_6 =>
      (if (((tUp S_3) a1.toNatClampNeg) &&& r_6) = 0 then
      some ((0 : Int32), S_3)
      else
      some ((1 : Int32), S_3))))))))

set_option maxRecDepth 100000 in
set_option maxHeartbeats 4000000 in
theorem k_T_isSubtype (l : Launch) (z : zE) (A : Nat → Nat) (Rr : va_W) (n : Nat) (S : ZC) (a1 : Int32) (a2 : Int32) (r0 : Int32) (S' : ZC) (h : fx_T_isSubtype n S a1 a2 = some (r0, S')) : zC z l y_T_isSubtype w_T_isSubtype rm_T_isSubtype [.ref (A 1), .int a1, .int a2] (cw z A S ++ Rr) (some (.int r0)) (cw z A S' ++ Rr) := by
  refine zz_of (by decide) (Nat.le_of_ble_eq_true rfl) ?_
  intro p e s m args below meth c A0 ls hM hr hlocks hA hP hD hl
  have hM : zM z p s m args c b_T_isSubtype 3 R_T := hM
  obtain ⟨hx, hb, hml, hown, hts, hK, hN⟩ := id hM
  have hS : va_S A0 s.heap s.heap [] := va_S.rf
  have hl : lv_has ls 3 [(0, .ref (A 1)), (1, .int a1), (2, .int a2)] := hl
  unfold fx_T_isSubtype at h
  refine lv_aload_n hx hb d_T_isSubtype_0 rfl (lv_at hl 0 rfl) ?_
  refine lv_iload_n hx hb d_T_isSubtype_1 rfl (lv_at hl 1 rfl) ?_
  obtain ⟨r_1, S_1, e_1, h⟩ := zz_bind h
  refine zz_goI (zz_runV (As := [.int a1]) (rest := []) (k_T_exists l z A Rr n _ _ _ _ e_1) ⟨hx, hb, hml, hown, hts⟩ (cwV 1 hts (zz_gV wq_180 wq_181 wq_182 wq_2 wq_183) rfl rfl rfl (by decide +kernel) ⟨Nat.le_of_ble_eq_true rfl, Nat.le_of_ble_eq_true rfl⟩) hK hN hP hD (va_recv hK hP (ci := 1) (q0 := 1) rfl rfl) rfl hl.1 rfl (Nat.le_of_ble_eq_true rfl) d_T_isSubtype_2 ⟨Nat.le_of_ble_eq_true rfl, Nat.le_of_ble_eq_true rfl⟩) hD hS hA (fun H locs hP hD hS => ?_)
  refine lv_if_eq (tgt := 34) hx hb d_T_isSubtype_5 (by decide) (fun c_2 => ?_) (fun c_2 => ?_)
  · have h := zz_t c_2 h
    refine lv_iconst (v := 0) hx hb d_T_isSubtype_34 (by decide) ?_
    exact zz_zret (fun S => cw z A S ++ Rr) hx hb hr hlocks hP hD hS rfl h d_T_isSubtype_35
  · have h := zz_f c_2 h
    refine lv_aload_n hx hb d_T_isSubtype_8 rfl (lv_at hl 0 rfl) ?_
    refine lv_iload_n hx hb d_T_isSubtype_9 rfl (lv_at hl 2 rfl) ?_
    obtain ⟨r_3, S_3, e_3, h⟩ := zz_bind h
    refine zz_goI (zz_runV (As := [.int a2]) (rest := []) (k_T_exists l z A Rr n _ _ _ _ e_3) ⟨hx, hb, hml, hown, hts⟩ (cwV 1 hts (zz_gV wq_180 wq_181 wq_182 wq_2 wq_183) rfl rfl rfl (by decide +kernel) ⟨Nat.le_of_ble_eq_true rfl, Nat.le_of_ble_eq_true rfl⟩) hK hN hP hD (va_recv hK hP (ci := 1) (q0 := 1) rfl rfl) rfl hl.1 rfl (Nat.le_of_ble_eq_true rfl) d_T_isSubtype_10 ⟨Nat.le_of_ble_eq_true rfl, Nat.le_of_ble_eq_true rfl⟩) hD hS hA (fun H locs hP hD hS => ?_)
    refine lv_if_eq (tgt := 34) hx hb d_T_isSubtype_13 (by decide) (fun c_4 => ?_) (fun c_4 => ?_)
    · have h := zz_t c_4 h
      refine lv_iconst (v := 0) hx hb d_T_isSubtype_34 (by decide) ?_
      exact zz_zret (fun S => cw z A S ++ Rr) hx hb hr hlocks hP hD hS rfl h d_T_isSubtype_35
    · have h := zz_f c_4 h
      refine lv_aload_n hx hb d_T_isSubtype_16 rfl (lv_at hl 0 rfl) ?_
      refine va_get (D := z.1) (ci := 1) (v := .ref (A 9)) (C := R_T) (T := F_T) (N := 6) hx hb hts i_T hown hK hP 1 rfl rfl 4 (by decide) (hts _ wq_42) (fun _ h9 => h9) rfl d_T_isSubtype_17 ?_
      refine lv_iload_n hx hb d_T_isSubtype_20 rfl (lv_at hl 1 rfl) ?_
      obtain ⟨c_5, h⟩ := zz_oob h
      refine va_iald hx hb hK hP 9 0 rfl rfl c_5 d_T_isSubtype_21 ?_
      refine lv_iload_n hx hb d_T_isSubtype_22 rfl (lv_at hl 2 rfl) ?_
      obtain ⟨r_6, e_6, h⟩ := zz_bind1 h
      refine zz_goI (zz_runS (As := [.int a2]) (rest := [.int ((tUp S_3) a1.toNatClampNeg)]) (k_T_bit l z _ n _ _ e_6) ⟨hx, hb, hml, hown, hts⟩ (va_cwS 1 hts (zz_gS wq_35 wq_36 wq_2 wq_37) rfl rfl rfl (by decide +kernel) ⟨Nat.le_of_ble_eq_true rfl, Nat.le_of_ble_eq_true rfl⟩) hK hN hP hD rfl hl.1 rfl (Nat.le_of_ble_eq_true rfl) d_T_isSubtype_23 ⟨Nat.le_of_ble_eq_true rfl, Nat.le_of_ble_eq_true rfl⟩) hD hS hA (fun H locs hP hD hS => ?_)
      refine lv_iand hx hb d_T_isSubtype_26 ?_
      refine lv_if_eq (tgt := 34) hx hb d_T_isSubtype_27 (by decide) (fun c_7 => ?_) (fun c_7 => ?_)
      · have h := zz_t c_7 h
        refine lv_iconst (v := 0) hx hb d_T_isSubtype_34 (by decide) ?_
        exact zz_zret (fun S => cw z A S ++ Rr) hx hb hr hlocks hP hD hS rfl h d_T_isSubtype_35
      · have h := zz_f c_7 h
        refine lv_iconst (v := 1) hx hb d_T_isSubtype_30 (by decide) ?_
        refine lv_goto (tgt := 35) hx hb d_T_isSubtype_31 (by decide) ?_
        exact zz_zret (fun S => cw z A S ++ Rr) hx hb hr hlocks hP hD hS rfl h d_T_isSubtype_35
end
