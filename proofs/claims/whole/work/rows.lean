section
-- ===== PART A: goes FIRST, ahead of the names: the tables' words, and 'selects' of the private methods out of them =====
/-- a private method of a class that the tables say can be made, by its rows of tables_1 -/
def lw_okq (q : MethodName × Nat) : Prop := (q.1.cls ≠ "java/lang/invoke/MethodHandle" ∧ q.1.cls ≠ "java/lang/invoke/VarHandle") ∧ Cond.instantiable q.1.cls q.2 ∈ tables_1 ∧ Cond.privateMethod q.1 ∈ tables_1 ∧ Cond.instanceMethod q.1 ∈ tables_1
theorem lw_p0 : lw_okq (⟨"MemberChooser$Types", "hasFace", "(II)Z"⟩, 6) := ⟨⟨by decide +kernel, by decide +kernel⟩, List.mem_of_getElem? (i := 25) (by decide +kernel), List.mem_of_getElem? (i := 193) (by decide +kernel), List.mem_of_getElem? (i := 194) (by decide +kernel)⟩
theorem lw_p1 : lw_okq (⟨"MemberChooser$Types", "raiseAllBelow", "(II)V"⟩, 6) := ⟨⟨by decide +kernel, by decide +kernel⟩, List.mem_of_getElem? (i := 25) (by decide +kernel), List.mem_of_getElem? (i := 200) (by decide +kernel), List.mem_of_getElem? (i := 201) (by decide +kernel)⟩
theorem lw_p2 : lw_okq (⟨"MemberChooser$Chooser", "gatherMeant", "(II)V"⟩, 8) := ⟨⟨by decide +kernel, by decide +kernel⟩, List.mem_of_getElem? (i := 91) (by decide +kernel), List.mem_of_getElem? (i := 221) (by decide +kernel), List.mem_of_getElem? (i := 222) (by decide +kernel)⟩
theorem lw_p3 : lw_okq (⟨"MemberChooser$Chooser", "appendMembers", "(II)V"⟩, 8) := ⟨⟨by decide +kernel, by decide +kernel⟩, List.mem_of_getElem? (i := 91) (by decide +kernel), List.mem_of_getElem? (i := 232) (by decide +kernel), List.mem_of_getElem? (i := 233) (by decide +kernel)⟩
theorem lw_p4 : lw_okq (⟨"MemberChooser$Chooser", "isHidden", "(I)Z"⟩, 8) := ⟨⟨by decide +kernel, by decide +kernel⟩, List.mem_of_getElem? (i := 91) (by decide +kernel), List.mem_of_getElem? (i := 240) (by decide +kernel), List.mem_of_getElem? (i := 241) (by decide +kernel)⟩
theorem lw_p5 : lw_okq (⟨"java/lang/Throwable", "fillInStackTrace", "(I)Ljava/lang/Throwable;"⟩, 6) := ⟨⟨by decide +kernel, by decide +kernel⟩, List.mem_of_getElem? (i := 330) (by decide +kernel), List.mem_of_getElem? (i := 328) (by decide +kernel), List.mem_of_getElem? (i := 329) (by decide +kernel)⟩
theorem lw_p6 : lw_okq (⟨"MemberChooser", "areParameters", "(IJ)Z"⟩, 6) := ⟨⟨by decide +kernel, by decide +kernel⟩, List.mem_of_getElem? (i := 17) (by decide +kernel), List.mem_of_getElem? (i := 403) (by decide +kernel), List.mem_of_getElem? (i := 404) (by decide +kernel)⟩
theorem lw_p7 : lw_okq (⟨"MemberChooser$KeptCalls", "move", "(II)V"⟩, 6) := ⟨⟨by decide +kernel, by decide +kernel⟩, List.mem_of_getElem? (i := 123) (by decide +kernel), List.mem_of_getElem? (i := 427) (by decide +kernel), List.mem_of_getElem? (i := 428) (by decide +kernel)⟩
theorem lw_p8 : lw_okq (⟨"MemberChooser", "areValues", "(IJ)Z"⟩, 6) := ⟨⟨by decide +kernel, by decide +kernel⟩, List.mem_of_getElem? (i := 17) (by decide +kernel), List.mem_of_getElem? (i := 444) (by decide +kernel), List.mem_of_getElem? (i := 445) (by decide +kernel)⟩
theorem lw_p9 : lw_okq (⟨"MemberChooser", "isValue", "(I)Z"⟩, 6) := ⟨⟨by decide +kernel, by decide +kernel⟩, List.mem_of_getElem? (i := 17) (by decide +kernel), List.mem_of_getElem? (i := 448) (by decide +kernel), List.mem_of_getElem? (i := 449) (by decide +kernel)⟩
theorem lw_p10 : lw_okq (⟨"MemberChooser$Chooser", "gatherFitting", "(IJ)V"⟩, 8) := ⟨⟨by decide +kernel, by decide +kernel⟩, List.mem_of_getElem? (i := 91) (by decide +kernel), List.mem_of_getElem? (i := 462) (by decide +kernel), List.mem_of_getElem? (i := 463) (by decide +kernel)⟩
theorem lw_p11 : lw_okq (⟨"MemberChooser$Chooser", "fits", "(IIJ)Z"⟩, 8) := ⟨⟨by decide +kernel, by decide +kernel⟩, List.mem_of_getElem? (i := 91) (by decide +kernel), List.mem_of_getElem? (i := 466) (by decide +kernel), List.mem_of_getElem? (i := 467) (by decide +kernel)⟩
theorem lw_p12 : lw_okq (⟨"MemberChooser$Chooser", "takesSoMany", "(II)Z"⟩, 8) := ⟨⟨by decide +kernel, by decide +kernel⟩, List.mem_of_getElem? (i := 91) (by decide +kernel), List.mem_of_getElem? (i := 470) (by decide +kernel), List.mem_of_getElem? (i := 471) (by decide +kernel)⟩
theorem lw_p13 : lw_okq (⟨"MemberChooser$Chooser", "goesTo", "(II)Z"⟩, 8) := ⟨⟨by decide +kernel, by decide +kernel⟩, List.mem_of_getElem? (i := 91) (by decide +kernel), List.mem_of_getElem? (i := 482) (by decide +kernel), List.mem_of_getElem? (i := 483) (by decide +kernel)⟩
theorem lw_p14 : lw_okq (⟨"MemberChooser$Chooser", "mostSpecific", "()I"⟩, 8) := ⟨⟨by decide +kernel, by decide +kernel⟩, List.mem_of_getElem? (i := 91) (by decide +kernel), List.mem_of_getElem? (i := 491) (by decide +kernel), List.mem_of_getElem? (i := 492) (by decide +kernel)⟩
theorem lw_p15 : lw_okq (⟨"MemberChooser$Chooser", "isMoreSpecificThanAll", "(I)Z"⟩, 8) := ⟨⟨by decide +kernel, by decide +kernel⟩, List.mem_of_getElem? (i := 91) (by decide +kernel), List.mem_of_getElem? (i := 495) (by decide +kernel), List.mem_of_getElem? (i := 496) (by decide +kernel)⟩
def lw_privs_1 : List (MethodName × Nat) := [(⟨"MemberChooser$Types", "hasFace", "(II)Z"⟩, 6), (⟨"MemberChooser$Types", "raiseAllBelow", "(II)V"⟩, 6), (⟨"MemberChooser$Chooser", "gatherMeant", "(II)V"⟩, 8), (⟨"MemberChooser$Chooser", "appendMembers", "(II)V"⟩, 8), (⟨"MemberChooser$Chooser", "isHidden", "(I)Z"⟩, 8), (⟨"java/lang/Throwable", "fillInStackTrace", "(I)Ljava/lang/Throwable;"⟩, 6), (⟨"MemberChooser", "areParameters", "(IJ)Z"⟩, 6), (⟨"MemberChooser$KeptCalls", "move", "(II)V"⟩, 6), (⟨"MemberChooser", "areValues", "(IJ)Z"⟩, 6), (⟨"MemberChooser", "isValue", "(I)Z"⟩, 6), (⟨"MemberChooser$Chooser", "gatherFitting", "(IJ)V"⟩, 8), (⟨"MemberChooser$Chooser", "fits", "(IIJ)Z"⟩, 8), (⟨"MemberChooser$Chooser", "takesSoMany", "(II)Z"⟩, 8), (⟨"MemberChooser$Chooser", "goesTo", "(II)Z"⟩, 8), (⟨"MemberChooser$Chooser", "mostSpecific", "()I"⟩, 8), (⟨"MemberChooser$Chooser", "isMoreSpecificThanAll", "(I)Z"⟩, 8)]
theorem lw_r1 : ∀ q ∈ lw_privs_1, lw_okq q := List.forall_mem_cons.mpr ⟨lw_p0, List.forall_mem_cons.mpr ⟨lw_p1, List.forall_mem_cons.mpr ⟨lw_p2, List.forall_mem_cons.mpr ⟨lw_p3, List.forall_mem_cons.mpr ⟨lw_p4, List.forall_mem_cons.mpr ⟨lw_p5, List.forall_mem_cons.mpr ⟨lw_p6, List.forall_mem_cons.mpr ⟨lw_p7, List.forall_mem_cons.mpr ⟨lw_p8, List.forall_mem_cons.mpr ⟨lw_p9, List.forall_mem_cons.mpr ⟨lw_p10, List.forall_mem_cons.mpr ⟨lw_p11, List.forall_mem_cons.mpr ⟨lw_p12, List.forall_mem_cons.mpr ⟨lw_p13, List.forall_mem_cons.mpr ⟨lw_p14, List.forall_mem_cons.mpr ⟨lw_p15, fun _ h => absurd h List.not_mem_nil⟩⟩⟩⟩⟩⟩⟩⟩⟩⟩⟩⟩⟩⟩⟩⟩
theorem lw_p16 : lw_okq (⟨"MemberChooser$Chooser", "isMoreSpecific", "(II)Z"⟩, 8) := ⟨⟨by decide +kernel, by decide +kernel⟩, List.mem_of_getElem? (i := 91) (by decide +kernel), List.mem_of_getElem? (i := 499) (by decide +kernel), List.mem_of_getElem? (i := 500) (by decide +kernel)⟩
theorem lw_p17 : lw_okq (⟨"MemberChooser$KeptCalls", "letGoFirst", "()V"⟩, 6) := ⟨⟨by decide +kernel, by decide +kernel⟩, List.mem_of_getElem? (i := 123) (by decide +kernel), List.mem_of_getElem? (i := 510) (by decide +kernel), List.mem_of_getElem? (i := 511) (by decide +kernel)⟩
theorem lw_p18 : lw_okq (⟨"MemberChooserModel", "isOwn", "(I)Z"⟩, 28) := ⟨⟨by decide +kernel, by decide +kernel⟩, List.mem_of_getElem? (i := 546) (by decide +kernel), List.mem_of_getElem? (i := 645) (by decide +kernel), List.mem_of_getElem? (i := 646) (by decide +kernel)⟩
theorem lw_p19 : lw_okq (⟨"MemberChooserModel", "add", "(ZI)I"⟩, 28) := ⟨⟨by decide +kernel, by decide +kernel⟩, List.mem_of_getElem? (i := 546) (by decide +kernel), List.mem_of_getElem? (i := 649) (by decide +kernel), List.mem_of_getElem? (i := 650) (by decide +kernel)⟩
theorem lw_p20 : lw_okq (⟨"MemberChooserModel", "isType", "(I)Z"⟩, 28) := ⟨⟨by decide +kernel, by decide +kernel⟩, List.mem_of_getElem? (i := 546) (by decide +kernel), List.mem_of_getElem? (i := 661) (by decide +kernel), List.mem_of_getElem? (i := 662) (by decide +kernel)⟩
theorem lw_p21 : lw_okq (⟨"MemberChooserModel", "isUnder", "(II)Z"⟩, 28) := ⟨⟨by decide +kernel, by decide +kernel⟩, List.mem_of_getElem? (i := 546) (by decide +kernel), List.mem_of_getElem? (i := 665) (by decide +kernel), List.mem_of_getElem? (i := 666) (by decide +kernel)⟩
theorem lw_p22 : lw_okq (⟨"MemberChooserModel", "mark", "(I)V"⟩, 28) := ⟨⟨by decide +kernel, by decide +kernel⟩, List.mem_of_getElem? (i := 546) (by decide +kernel), List.mem_of_getElem? (i := 669) (by decide +kernel), List.mem_of_getElem? (i := 670) (by decide +kernel)⟩
theorem lw_p23 : lw_okq (⟨"MemberChooserModel", "letGo", "(I)V"⟩, 28) := ⟨⟨by decide +kernel, by decide +kernel⟩, List.mem_of_getElem? (i := 546) (by decide +kernel), List.mem_of_getElem? (i := 685) (by decide +kernel), List.mem_of_getElem? (i := 686) (by decide +kernel)⟩
theorem lw_p24 : lw_okq (⟨"MemberChooserModel", "move", "(II)V"⟩, 28) := ⟨⟨by decide +kernel, by decide +kernel⟩, List.mem_of_getElem? (i := 546) (by decide +kernel), List.mem_of_getElem? (i := 689) (by decide +kernel), List.mem_of_getElem? (i := 690) (by decide +kernel)⟩
theorem lw_p25 : lw_okq (⟨"MemberChooserModel", "means", "(II)V"⟩, 28) := ⟨⟨by decide +kernel, by decide +kernel⟩, List.mem_of_getElem? (i := 546) (by decide +kernel), List.mem_of_getElem? (i := 697) (by decide +kernel), List.mem_of_getElem? (i := 698) (by decide +kernel)⟩
theorem lw_p26 : lw_okq (⟨"MemberChooserModel", "lineUp", "(I)V"⟩, 28) := ⟨⟨by decide +kernel, by decide +kernel⟩, List.mem_of_getElem? (i := 546) (by decide +kernel), List.mem_of_getElem? (i := 701) (by decide +kernel), List.mem_of_getElem? (i := 702) (by decide +kernel)⟩
theorem lw_p27 : lw_okq (⟨"MemberChooserModel", "standFaces", "(I)V"⟩, 28) := ⟨⟨by decide +kernel, by decide +kernel⟩, List.mem_of_getElem? (i := 546) (by decide +kernel), List.mem_of_getElem? (i := 705) (by decide +kernel), List.mem_of_getElem? (i := 706) (by decide +kernel)⟩
theorem lw_p28 : lw_okq (⟨"MemberChooserModel", "stand", "(I)Z"⟩, 28) := ⟨⟨by decide +kernel, by decide +kernel⟩, List.mem_of_getElem? (i := 546) (by decide +kernel), List.mem_of_getElem? (i := 709) (by decide +kernel), List.mem_of_getElem? (i := 710) (by decide +kernel)⟩
theorem lw_p29 : lw_okq (⟨"MemberChooserModel", "areSame", "(II)Z"⟩, 28) := ⟨⟨by decide +kernel, by decide +kernel⟩, List.mem_of_getElem? (i := 546) (by decide +kernel), List.mem_of_getElem? (i := 713) (by decide +kernel), List.mem_of_getElem? (i := 714) (by decide +kernel)⟩
theorem lw_p30 : lw_okq (⟨"MemberChooserModel", "workOut", "(III)I"⟩, 28) := ⟨⟨by decide +kernel, by decide +kernel⟩, List.mem_of_getElem? (i := 546) (by decide +kernel), List.mem_of_getElem? (i := 721) (by decide +kernel), List.mem_of_getElem? (i := 722) (by decide +kernel)⟩
theorem lw_p31 : lw_okq (⟨"MemberChooserModel", "fits", "(III)Z"⟩, 28) := ⟨⟨by decide +kernel, by decide +kernel⟩, List.mem_of_getElem? (i := 546) (by decide +kernel), List.mem_of_getElem? (i := 725) (by decide +kernel), List.mem_of_getElem? (i := 726) (by decide +kernel)⟩
def lw_privs_2 : List (MethodName × Nat) := [(⟨"MemberChooser$Chooser", "isMoreSpecific", "(II)Z"⟩, 8), (⟨"MemberChooser$KeptCalls", "letGoFirst", "()V"⟩, 6), (⟨"MemberChooserModel", "isOwn", "(I)Z"⟩, 28), (⟨"MemberChooserModel", "add", "(ZI)I"⟩, 28), (⟨"MemberChooserModel", "isType", "(I)Z"⟩, 28), (⟨"MemberChooserModel", "isUnder", "(II)Z"⟩, 28), (⟨"MemberChooserModel", "mark", "(I)V"⟩, 28), (⟨"MemberChooserModel", "letGo", "(I)V"⟩, 28), (⟨"MemberChooserModel", "move", "(II)V"⟩, 28), (⟨"MemberChooserModel", "means", "(II)V"⟩, 28), (⟨"MemberChooserModel", "lineUp", "(I)V"⟩, 28), (⟨"MemberChooserModel", "standFaces", "(I)V"⟩, 28), (⟨"MemberChooserModel", "stand", "(I)Z"⟩, 28), (⟨"MemberChooserModel", "areSame", "(II)Z"⟩, 28), (⟨"MemberChooserModel", "workOut", "(III)I"⟩, 28), (⟨"MemberChooserModel", "fits", "(III)Z"⟩, 28)]
theorem lw_r2 : ∀ q ∈ lw_privs_2, lw_okq q := List.forall_mem_cons.mpr ⟨lw_p16, List.forall_mem_cons.mpr ⟨lw_p17, List.forall_mem_cons.mpr ⟨lw_p18, List.forall_mem_cons.mpr ⟨lw_p19, List.forall_mem_cons.mpr ⟨lw_p20, List.forall_mem_cons.mpr ⟨lw_p21, List.forall_mem_cons.mpr ⟨lw_p22, List.forall_mem_cons.mpr ⟨lw_p23, List.forall_mem_cons.mpr ⟨lw_p24, List.forall_mem_cons.mpr ⟨lw_p25, List.forall_mem_cons.mpr ⟨lw_p26, List.forall_mem_cons.mpr ⟨lw_p27, List.forall_mem_cons.mpr ⟨lw_p28, List.forall_mem_cons.mpr ⟨lw_p29, List.forall_mem_cons.mpr ⟨lw_p30, List.forall_mem_cons.mpr ⟨lw_p31, fun _ h => absurd h List.not_mem_nil⟩⟩⟩⟩⟩⟩⟩⟩⟩⟩⟩⟩⟩⟩⟩⟩
theorem lw_p32 : lw_okq (⟨"MemberChooserModel", "parameterAt", "(II)I"⟩, 28) := ⟨⟨by decide +kernel, by decide +kernel⟩, List.mem_of_getElem? (i := 546) (by decide +kernel), List.mem_of_getElem? (i := 729) (by decide +kernel), List.mem_of_getElem? (i := 730) (by decide +kernel)⟩
theorem lw_p33 : lw_okq (⟨"MemberChooserModel", "goes", "(IIZ)Z"⟩, 28) := ⟨⟨by decide +kernel, by decide +kernel⟩, List.mem_of_getElem? (i := 546) (by decide +kernel), List.mem_of_getElem? (i := 733) (by decide +kernel), List.mem_of_getElem? (i := 734) (by decide +kernel)⟩
theorem lw_p34 : lw_okq (⟨"MemberChooserModel", "isCloser", "(II)Z"⟩, 28) := ⟨⟨by decide +kernel, by decide +kernel⟩, List.mem_of_getElem? (i := 546) (by decide +kernel), List.mem_of_getElem? (i := 737) (by decide +kernel), List.mem_of_getElem? (i := 738) (by decide +kernel)⟩
theorem lw_p35 : lw_okq (⟨"MemberChooserModel", "keep", "(IIIJI)V"⟩, 28) := ⟨⟨by decide +kernel, by decide +kernel⟩, List.mem_of_getElem? (i := 546) (by decide +kernel), List.mem_of_getElem? (i := 741) (by decide +kernel), List.mem_of_getElem? (i := 742) (by decide +kernel)⟩
def lw_privs_3 : List (MethodName × Nat) := [(⟨"MemberChooserModel", "parameterAt", "(II)I"⟩, 28), (⟨"MemberChooserModel", "goes", "(IIZ)Z"⟩, 28), (⟨"MemberChooserModel", "isCloser", "(II)Z"⟩, 28), (⟨"MemberChooserModel", "keep", "(IIIJI)V"⟩, 28)]
theorem lw_r3 : ∀ q ∈ lw_privs_3, lw_okq q := List.forall_mem_cons.mpr ⟨lw_p32, List.forall_mem_cons.mpr ⟨lw_p33, List.forall_mem_cons.mpr ⟨lw_p34, List.forall_mem_cons.mpr ⟨lw_p35, fun _ h => absurd h List.not_mem_nil⟩⟩⟩⟩
def lw_privs : List (MethodName × Nat) := lw_privs_1 ++ (lw_privs_2 ++ (lw_privs_3))
def lw_tbl : List Cond := k2_sels lw_privs ++ tables_1
theorem lw_privs_ok : ∀ q ∈ lw_privs, lw_okq q := by
  show ∀ q ∈ lw_privs_1 ++ (lw_privs_2 ++ (lw_privs_3)), lw_okq q
  exact List.forall_mem_append.mpr ⟨lw_r1, List.forall_mem_append.mpr ⟨lw_r2, lw_r3⟩⟩
end
section
/-! OWN LAYER: a method's contract as an equation of the function that a program read off its bytecode ('fx_..'); none stands for what is out of range or has no end. -/
abbrev zoob (i : Int32) (n : Nat) : Prop := i < 0 ∨ n ≤ i.toNatClampNeg
def zlet {α β : Type} (x : α) (f : α → Option β) : Option β := f x
def zbind {α β γ : Type} (o : Option (α × β)) (f : α → β → Option γ) : Option γ := match o with
  | none => none
  | some (a, b) => f a b
def zbind1 {α γ : Type} (o : Option α) (f : α → Option γ) : Option γ := match o with
  | none => none
  | some a => f a
theorem zz_let {α β : Type} {x : α} {f : α → Option β} {y : β} (h : zlet x f = some y) : ∃ z, z = x ∧ f z = some y := ⟨x, rfl, h⟩
theorem zz_bind {α β γ : Type} {o : Option (α × β)} {f : α → β → Option γ} {y : γ} (h : zbind o f = some y) : ∃ a b, o = some (a, b) ∧ f a b = some y := by
  cases o with
  | none => cases h
  | some q => exact ⟨q.1, q.2, rfl, h⟩
theorem zz_bind1 {α γ : Type} {o : Option α} {f : α → Option γ} {y : γ} (h : zbind1 o f = some y) : ∃ a, o = some a ∧ f a = some y := by
  cases o with
  | none => cases h
  | some q => exact ⟨q, rfl, h⟩
theorem zz_t {α : Type} {c : Prop} [Decidable c] {a b y : α} (hc : c) (h : (if c then a else b) = y) : a = y := by rw [if_pos hc] at h; exact h
theorem zz_f {α : Type} {c : Prop} [Decidable c] {a b y : α} (hc : ¬ c) (h : (if c then a else b) = y) : b = y := by rw [if_neg hc] at h; exact h
theorem zz_oob {α : Type} {c : Prop} [Decidable c] {b : Option α} {y : α} (h : (if c then none else b) = some y) : ¬ c ∧ b = some y := by
  by_cases hc : c
  · rw [if_pos hc] at h; cases h
  · rw [if_neg hc] at h; exact ⟨hc, h⟩
theorem zz_grd {α : Type} {c : Prop} [Decidable c] {b : Option α} {y : α} (h : (if c then b else none) = some y) : c ∧ b = some y := by
  by_cases hc : c
  · rw [if_pos hc] at h; exact ⟨hc, h⟩
  · rw [if_neg hc] at h; cases h
theorem zz_bool {v : Int32} (h : v = 0 ∨ v = 1) : narrow .boolean (.int v) = .int v := by
  rcases h with rfl | rfl <;> rfl
def zloop {σ ρ : Type} (step : σ → Option (σ ⊕ ρ)) : Nat → σ → Option ρ
  | 0, _ => none
  | k + 1, s => match step s with
    | none => none
    | some (.inl s') => zloop step k s'
    | some (.inr r) => some r
theorem zloop_succ {σ ρ : Type} (step : σ → Option (σ ⊕ ρ)) (k : Nat) (s : σ) : zloop step (k + 1) s = (match step s with
    | none => none
    | some (.inl s') => zloop step k s'
    | some (.inr r) => some r) := rfl
theorem zz_loop {σ ρ : Type} {step : σ → Option (σ ⊕ ρ)} (G : σ → Prop) (E : ρ → Prop) (hs : ∀ (s : σ) (o : σ ⊕ ρ), step s = some o → (∀ s', o = .inl s' → G s') → (∀ r, o = .inr r → E r) → G s) : ∀ (k : Nat) (s : σ) (r : ρ), zloop step k s = some r → E r → G s := by
  intro k
  induction k with
  | zero => intro s r h; cases h
  | succ k ih =>
    intro s r h hE
    rw [zloop_succ] at h
    cases ho : step s with
    | none => rw [ho] at h; cases h
    | some o =>
      rw [ho] at h
      refine hs s o ho (fun s' e => ?_) (fun r' e => ?_)
      · subst e; exact ih s' r h hE
      · subst e; cases h; exact hE
/-! the pure side: an answer, and what holds of it -/
def zok {α : Type} (o : Option α) (Q : α → Prop) : Prop := ∃ a, o = some a ∧ Q a
theorem zok_some {α : Type} {a : α} {Q : α → Prop} (h : Q a) : zok (some a) Q := ⟨a, rfl, h⟩
theorem zok_if {α : Type} {c : Prop} [Decidable c] {a b : Option α} {Q : α → Prop} (ht : c → zok a Q) (hf : ¬ c → zok b Q) : zok (if c then a else b) Q := by
  by_cases hc : c
  · rw [if_pos hc]; exact ht hc
  · rw [if_neg hc]; exact hf hc
theorem zok_oob {α : Type} {c : Prop} [Decidable c] {b : Option α} {Q : α → Prop} (hc : ¬ c) (hf : zok b Q) : zok (if c then none else b) Q := by
  rw [if_neg hc]; exact hf
theorem zok_grd {α : Type} {c : Prop} [Decidable c] {b : Option α} {Q : α → Prop} (hc : c) (hf : zok b Q) : zok (if c then b else none) Q := by
  rw [if_pos hc]; exact hf
theorem zok_let {α β : Type} {x : α} {f : α → Option β} {Q : β → Prop} (h : zok (f x) Q) : zok (zlet x f) Q := h
theorem zok_bind {α β γ : Type} {o : Option (α × β)} {f : α → β → Option γ} {Q : γ → Prop} (P : α → β → Prop) (ho : zok o (fun q => P q.1 q.2)) (hf : ∀ a b, P a b → zok (f a b) Q) : zok (zbind o f) Q := by
  obtain ⟨⟨a, b⟩, rfl, h⟩ := ho
  exact hf a b h
theorem zok_bind1 {α γ : Type} {o : Option α} {f : α → Option γ} {Q : γ → Prop} (P : α → Prop) (ho : zok o P) (hf : ∀ a, P a → zok (f a) Q) : zok (zbind1 o f) Q := by
  obtain ⟨a, rfl, h⟩ := ho
  exact hf a h
theorem zok_mono {α : Type} {o : Option α} {P Q : α → Prop} (h : zok o P) (hq : ∀ a, P a → Q a) : zok o Q := by
  obtain ⟨a, e, h⟩ := h
  exact ⟨a, e, hq a h⟩
theorem zok_eq {α : Type} {o : Option α} {a : α} {Q : α → Prop} (e : o = some a) (h : Q a) : zok o Q := ⟨a, e, h⟩
theorem zok_get {α : Type} {o : Option α} {a : α} (h : zok o (fun x => x = a)) : o = some a := by
  obtain ⟨b, e, rfl⟩ := h
  exact e
/-- a loop: an invariant, a measure that falls -/
theorem zok_loop {σ ρ : Type} {step : σ → Option (σ ⊕ ρ)} {Q : ρ → Prop} (Inv : σ → Prop) (μ : σ → Nat) (hs : ∀ s, Inv s → zok (step s) (fun o => (∀ s', o = .inl s' → Inv s' ∧ μ s' < μ s) ∧ ∀ r, o = .inr r → Q r)) : ∀ (k : Nat) (s : σ), Inv s → μ s < k → zok (zloop step k s) Q := by
  intro k
  induction k with
  | zero => intro s _ h; exact absurd h (Nat.not_lt_zero _)
  | succ k ih =>
    intro s hI hk
    obtain ⟨o, ho, h1, h2⟩ := hs s hI
    rw [zloop_succ, ho]
    cases o with
    | inl s' =>
      obtain ⟨a, b⟩ := h1 s' rfl
      exact ih s' a (by omega)
    | inr r => exact ⟨r, rfl, h2 r rfl⟩
theorem zok_inl {σ ρ : Type} {s : σ} {P : σ → Prop} {Q : ρ → Prop} (h : P s) : zok (some (.inl s : σ ⊕ ρ)) (fun o => (∀ s', o = .inl s' → P s') ∧ ∀ r, o = .inr r → Q r) := by
  refine ⟨_, rfl, ?_, ?_⟩
  · intro s' e; cases e; exact h
  · intro r e; cases e
theorem zok_inr {σ ρ : Type} {r : ρ} {P : σ → Prop} {Q : ρ → Prop} (h : Q r) : zok (some (.inr r : σ ⊕ ρ)) (fun o => (∀ s', o = .inl s' → P s') ∧ ∀ r, o = .inr r → Q r) := by
  refine ⟨_, rfl, ?_, ?_⟩
  · intro s' e; cases e
  · intro r' e; cases e; exact h
def zbL0 { γ : Type} (o : Option (Nat × Unit)) (f : Nat → Option γ) : Option γ := match o with
  | none => none
  | some (x, _) => f x
theorem zz_bL0 { γ : Type} {o : Option (Nat × Unit)} {f : Nat → Option γ} {y : γ} (h : zbL0 o f = some y) : ∃ x, o = some (x, ()) ∧ f x = some y := by
  cases o with
  | none => cases h
  | some q =>
    obtain ⟨x, u⟩ := q
    exact ⟨x, rfl, h⟩
theorem zok_bL0 { γ : Type} {o : Option (Nat × Unit)} {f : Nat → Option γ} {Q : γ → Prop} (P : Nat → Prop) (ho : zok o (fun q => P q.1)) (hf : ∀ x, P x → zok (f x) Q) : zok (zbL0 o f) Q := by
  obtain ⟨⟨x, u⟩, rfl, h⟩ := ho
  exact hf _ h
def zbL1 {α0 γ : Type} (o : Option (Nat × α0)) (f : Nat → α0 → Option γ) : Option γ := match o with
  | none => none
  | some (x, a0) => f x a0
theorem zz_bL1 {α0 γ : Type} {o : Option (Nat × α0)} {f : Nat → α0 → Option γ} {y : γ} (h : zbL1 o f = some y) : ∃ x a0, o = some (x, a0) ∧ f x a0 = some y := by
  cases o with
  | none => cases h
  | some q =>
    obtain ⟨x, a0⟩ := q
    exact ⟨x, a0, rfl, h⟩
theorem zok_bL1 {α0 γ : Type} {o : Option (Nat × α0)} {f : Nat → α0 → Option γ} {Q : γ → Prop} (P : Nat → α0 → Prop) (ho : zok o (fun q => P q.1 q.2)) (hf : ∀ x a0, P x a0 → zok (f x a0) Q) : zok (zbL1 o f) Q := by
  obtain ⟨⟨x, a0⟩, rfl, h⟩ := ho
  exact hf _ _ h
def zbL2 {α0 α1 γ : Type} (o : Option (Nat × α0 × α1)) (f : Nat → α0 → α1 → Option γ) : Option γ := match o with
  | none => none
  | some (x, a0, a1) => f x a0 a1
theorem zz_bL2 {α0 α1 γ : Type} {o : Option (Nat × α0 × α1)} {f : Nat → α0 → α1 → Option γ} {y : γ} (h : zbL2 o f = some y) : ∃ x a0 a1, o = some (x, a0, a1) ∧ f x a0 a1 = some y := by
  cases o with
  | none => cases h
  | some q =>
    obtain ⟨x, a0, a1⟩ := q
    exact ⟨x, a0, a1, rfl, h⟩
theorem zok_bL2 {α0 α1 γ : Type} {o : Option (Nat × α0 × α1)} {f : Nat → α0 → α1 → Option γ} {Q : γ → Prop} (P : Nat → α0 → α1 → Prop) (ho : zok o (fun q => P q.1 q.2.1 q.2.2)) (hf : ∀ x a0 a1, P x a0 a1 → zok (f x a0 a1) Q) : zok (zbL2 o f) Q := by
  obtain ⟨⟨x, a0, a1⟩, rfl, h⟩ := ho
  exact hf _ _ _ h
def zbL3 {α0 α1 α2 γ : Type} (o : Option (Nat × α0 × α1 × α2)) (f : Nat → α0 → α1 → α2 → Option γ) : Option γ := match o with
  | none => none
  | some (x, a0, a1, a2) => f x a0 a1 a2
theorem zz_bL3 {α0 α1 α2 γ : Type} {o : Option (Nat × α0 × α1 × α2)} {f : Nat → α0 → α1 → α2 → Option γ} {y : γ} (h : zbL3 o f = some y) : ∃ x a0 a1 a2, o = some (x, a0, a1, a2) ∧ f x a0 a1 a2 = some y := by
  cases o with
  | none => cases h
  | some q =>
    obtain ⟨x, a0, a1, a2⟩ := q
    exact ⟨x, a0, a1, a2, rfl, h⟩
theorem zok_bL3 {α0 α1 α2 γ : Type} {o : Option (Nat × α0 × α1 × α2)} {f : Nat → α0 → α1 → α2 → Option γ} {Q : γ → Prop} (P : Nat → α0 → α1 → α2 → Prop) (ho : zok o (fun q => P q.1 q.2.1 q.2.2.1 q.2.2.2)) (hf : ∀ x a0 a1 a2, P x a0 a1 a2 → zok (f x a0 a1 a2) Q) : zok (zbL3 o f) Q := by
  obtain ⟨⟨x, a0, a1, a2⟩, rfl, h⟩ := ho
  exact hf _ _ _ _ h
def zbL4 {α0 α1 α2 α3 γ : Type} (o : Option (Nat × α0 × α1 × α2 × α3)) (f : Nat → α0 → α1 → α2 → α3 → Option γ) : Option γ := match o with
  | none => none
  | some (x, a0, a1, a2, a3) => f x a0 a1 a2 a3
theorem zz_bL4 {α0 α1 α2 α3 γ : Type} {o : Option (Nat × α0 × α1 × α2 × α3)} {f : Nat → α0 → α1 → α2 → α3 → Option γ} {y : γ} (h : zbL4 o f = some y) : ∃ x a0 a1 a2 a3, o = some (x, a0, a1, a2, a3) ∧ f x a0 a1 a2 a3 = some y := by
  cases o with
  | none => cases h
  | some q =>
    obtain ⟨x, a0, a1, a2, a3⟩ := q
    exact ⟨x, a0, a1, a2, a3, rfl, h⟩
theorem zok_bL4 {α0 α1 α2 α3 γ : Type} {o : Option (Nat × α0 × α1 × α2 × α3)} {f : Nat → α0 → α1 → α2 → α3 → Option γ} {Q : γ → Prop} (P : Nat → α0 → α1 → α2 → α3 → Prop) (ho : zok o (fun q => P q.1 q.2.1 q.2.2.1 q.2.2.2.1 q.2.2.2.2)) (hf : ∀ x a0 a1 a2 a3, P x a0 a1 a2 a3 → zok (f x a0 a1 a2 a3) Q) : zok (zbL4 o f) Q := by
  obtain ⟨⟨x, a0, a1, a2, a3⟩, rfl, h⟩ := ho
  exact hf _ _ _ _ _ h
def zbL5 {α0 α1 α2 α3 α4 γ : Type} (o : Option (Nat × α0 × α1 × α2 × α3 × α4)) (f : Nat → α0 → α1 → α2 → α3 → α4 → Option γ) : Option γ := match o with
  | none => none
  | some (x, a0, a1, a2, a3, a4) => f x a0 a1 a2 a3 a4
theorem zz_bL5 {α0 α1 α2 α3 α4 γ : Type} {o : Option (Nat × α0 × α1 × α2 × α3 × α4)} {f : Nat → α0 → α1 → α2 → α3 → α4 → Option γ} {y : γ} (h : zbL5 o f = some y) : ∃ x a0 a1 a2 a3 a4, o = some (x, a0, a1, a2, a3, a4) ∧ f x a0 a1 a2 a3 a4 = some y := by
  cases o with
  | none => cases h
  | some q =>
    obtain ⟨x, a0, a1, a2, a3, a4⟩ := q
    exact ⟨x, a0, a1, a2, a3, a4, rfl, h⟩
theorem zok_bL5 {α0 α1 α2 α3 α4 γ : Type} {o : Option (Nat × α0 × α1 × α2 × α3 × α4)} {f : Nat → α0 → α1 → α2 → α3 → α4 → Option γ} {Q : γ → Prop} (P : Nat → α0 → α1 → α2 → α3 → α4 → Prop) (ho : zok o (fun q => P q.1 q.2.1 q.2.2.1 q.2.2.2.1 q.2.2.2.2.1 q.2.2.2.2.2)) (hf : ∀ x a0 a1 a2 a3 a4, P x a0 a1 a2 a3 a4 → zok (f x a0 a1 a2 a3 a4) Q) : zok (zbL5 o f) Q := by
  obtain ⟨⟨x, a0, a1, a2, a3, a4⟩, rfl, h⟩ := ho
  exact hf _ _ _ _ _ _ h
def zbL6 {α0 α1 α2 α3 α4 α5 γ : Type} (o : Option (Nat × α0 × α1 × α2 × α3 × α4 × α5)) (f : Nat → α0 → α1 → α2 → α3 → α4 → α5 → Option γ) : Option γ := match o with
  | none => none
  | some (x, a0, a1, a2, a3, a4, a5) => f x a0 a1 a2 a3 a4 a5
theorem zz_bL6 {α0 α1 α2 α3 α4 α5 γ : Type} {o : Option (Nat × α0 × α1 × α2 × α3 × α4 × α5)} {f : Nat → α0 → α1 → α2 → α3 → α4 → α5 → Option γ} {y : γ} (h : zbL6 o f = some y) : ∃ x a0 a1 a2 a3 a4 a5, o = some (x, a0, a1, a2, a3, a4, a5) ∧ f x a0 a1 a2 a3 a4 a5 = some y := by
  cases o with
  | none => cases h
  | some q =>
    obtain ⟨x, a0, a1, a2, a3, a4, a5⟩ := q
    exact ⟨x, a0, a1, a2, a3, a4, a5, rfl, h⟩
theorem zok_bL6 {α0 α1 α2 α3 α4 α5 γ : Type} {o : Option (Nat × α0 × α1 × α2 × α3 × α4 × α5)} {f : Nat → α0 → α1 → α2 → α3 → α4 → α5 → Option γ} {Q : γ → Prop} (P : Nat → α0 → α1 → α2 → α3 → α4 → α5 → Prop) (ho : zok o (fun q => P q.1 q.2.1 q.2.2.1 q.2.2.2.1 q.2.2.2.2.1 q.2.2.2.2.2.1 q.2.2.2.2.2.2)) (hf : ∀ x a0 a1 a2 a3 a4 a5, P x a0 a1 a2 a3 a4 a5 → zok (f x a0 a1 a2 a3 a4 a5) Q) : zok (zbL6 o f) Q := by
  obtain ⟨⟨x, a0, a1, a2, a3, a4, a5⟩, rfl, h⟩ := ho
  exact hf _ _ _ _ _ _ _ h
def zbL7 {α0 α1 α2 α3 α4 α5 α6 γ : Type} (o : Option (Nat × α0 × α1 × α2 × α3 × α4 × α5 × α6)) (f : Nat → α0 → α1 → α2 → α3 → α4 → α5 → α6 → Option γ) : Option γ := match o with
  | none => none
  | some (x, a0, a1, a2, a3, a4, a5, a6) => f x a0 a1 a2 a3 a4 a5 a6
theorem zz_bL7 {α0 α1 α2 α3 α4 α5 α6 γ : Type} {o : Option (Nat × α0 × α1 × α2 × α3 × α4 × α5 × α6)} {f : Nat → α0 → α1 → α2 → α3 → α4 → α5 → α6 → Option γ} {y : γ} (h : zbL7 o f = some y) : ∃ x a0 a1 a2 a3 a4 a5 a6, o = some (x, a0, a1, a2, a3, a4, a5, a6) ∧ f x a0 a1 a2 a3 a4 a5 a6 = some y := by
  cases o with
  | none => cases h
  | some q =>
    obtain ⟨x, a0, a1, a2, a3, a4, a5, a6⟩ := q
    exact ⟨x, a0, a1, a2, a3, a4, a5, a6, rfl, h⟩
theorem zok_bL7 {α0 α1 α2 α3 α4 α5 α6 γ : Type} {o : Option (Nat × α0 × α1 × α2 × α3 × α4 × α5 × α6)} {f : Nat → α0 → α1 → α2 → α3 → α4 → α5 → α6 → Option γ} {Q : γ → Prop} (P : Nat → α0 → α1 → α2 → α3 → α4 → α5 → α6 → Prop) (ho : zok o (fun q => P q.1 q.2.1 q.2.2.1 q.2.2.2.1 q.2.2.2.2.1 q.2.2.2.2.2.1 q.2.2.2.2.2.2.1 q.2.2.2.2.2.2.2)) (hf : ∀ x a0 a1 a2 a3 a4 a5 a6, P x a0 a1 a2 a3 a4 a5 a6 → zok (f x a0 a1 a2 a3 a4 a5 a6) Q) : zok (zbL7 o f) Q := by
  obtain ⟨⟨x, a0, a1, a2, a3, a4, a5, a6⟩, rfl, h⟩ := ho
  exact hf _ _ _ _ _ _ _ _ h
theorem zz_tne {x k : Int32} {a : Int} (hk : k.toInt = a) (h : ¬ x = k) : x.toInt ≠ a := fun q => h (Int32.toInt_inj.mp (q.trans hk.symm))
/-! the tables' words that every call keeps -/
def zTb : List Cond := lw_tbl.filter goodWord
theorem zz_in {w : Cond} (i : Nat) (h : tables_1[i]? = some w) (g : goodWord w = true) : w ∈ zTb := List.mem_filter.mpr ⟨List.mem_append_right _ (List.mem_of_getElem? h), g⟩
theorem zz_inp {w : Cond} (i : Nat) (h : (k2_sels lw_privs)[i]? = some w) (g : goodWord w = true) : w ∈ zTb := List.mem_filter.mpr ⟨List.mem_append_left _ (List.mem_of_getElem? h), g⟩
theorem zz_good {w : Cond} (h : w ∈ zTb) : w ∈ zTb ∧ ((w.onTables && w.keeps) = true ∨ ∃ ty, w = .arrayClass ty) := ⟨h, good_of_word (List.mem_filter.mp h).2⟩
theorem zz_gC {w : Cond} (h : w ∈ zTb) : GoodIn zTb (w :: zTb) := fun x hx => (List.mem_cons.mp hx).elim (fun e => by rw [e]; exact zz_good h) zz_good
theorem zz_gV {own C : String} {idx : Nat} {y : MethodName} {w : Cond} (h1 : Cond.methodLink own idx y ∈ zTb) (h2 : Cond.instanceMethod y ∈ zTb) (h3 : Cond.selects C y y ∈ zTb) (h4 : Cond.initialized C ∈ zTb) (h5 : w ∈ zTb) : GoodIn zTb (wsV own idx C y (w :: zTb)) := by
  intro x hx
  rcases List.mem_append.mp (show x ∈ ([.methodLink own idx y, .instanceMethod y, .selects C y y, .initialized C] : List Cond) ++ (w :: zTb) from hx) with h | h
  · simp only [List.mem_cons, List.not_mem_nil, or_false] at h
    rcases h with rfl | rfl | rfl | rfl
    · exact zz_good h1
    · exact zz_good h2
    · exact zz_good h3
    · exact zz_good h4
  · exact zz_gC h5 x h
theorem zz_gS {own : String} {idx : Nat} {y : MethodName} {w : Cond} (h1 : Cond.methodLink own idx y ∈ zTb) (h2 : Cond.static y ∈ zTb) (h4 : Cond.initialized y.cls ∈ zTb) (h5 : w ∈ zTb) : GoodIn zTb (va_wsS own idx y (w :: zTb)) := by
  intro x hx
  rcases List.mem_append.mp (show x ∈ ([.methodLink own idx y, .static y, .initialized y.cls] : List Cond) ++ (w :: zTb) from hx) with h | h
  · simp only [List.mem_cons, List.not_mem_nil, or_false] at h
    rcases h with rfl | rfl | rfl
    · exact zz_good h1
    · exact zz_good h2
    · exact zz_good h4
  · exact zz_gC h5 x h
end
section
abbrev R_X : String := "MemberChooser"
abbrev R_T : String := "MemberChooser$Types"
abbrev R_M : String := "MemberChooser$Members"
abbrev R_H : String := "MemberChooser$Chooser"
abbrev R_K : String := "MemberChooser$KeptCalls"
abbrev R_Q : String := "MemberChooserModel"
abbrev R_L : String := "MemberChooserLaw"
abbrev R_I : String := "java/lang/Integer"
def F_X : u_T := fun k => match k with
  | 0 => ("MemberChooser", "types", "LMemberChooser$Types;", true)
  | 1 => ("MemberChooser", "members", "LMemberChooser$Members;", true)
  | 2 => ("MemberChooser", "chooser", "LMemberChooser$Chooser;", true)
  | 3 => ("MemberChooser", "kept", "LMemberChooser$KeptCalls;", true)
  | 4 => ("MemberChooser", "workedOut", "I", false)
  | _ => ("MemberChooser", "foundKept", "I", false)
def ty_X : Nat → FieldType := fun k => match k with
  | 0 => .object "MemberChooser$Types"
  | 1 => .object "MemberChooser$Members"
  | 2 => .object "MemberChooser$Chooser"
  | 3 => .object "MemberChooser$KeptCalls"
  | 4 => .int
  | _ => .int
theorem n_X : ∀ a, a < 6 → ∀ b, b < 6 → a ≠ b → (F_X a).2.1 ≠ (F_X b).2.1 := by decide +kernel
theorem ty_X_ok : ∀ k, k < 6 → parseFieldDescriptor (F_X k).2.2.1 = some (ty_X k) := by decide +kernel
theorem il_X : ∀ w ∈ u_ws R_X F_X 6, w ∈ lw_tbl := by decide +kernel
theorem ig_X : (u_ws R_X F_X 6).all goodWord = true := by decide +kernel
theorem i_X : ∀ w ∈ u_ws R_X F_X 6, w ∈ zTb := fun w h => List.mem_filter.mpr ⟨il_X w h, List.all_eq_true.mp ig_X w h⟩
def F_T : u_T := fun k => match k with
  | 0 => ("MemberChooser$Types", "faceMarks", "[Z", true)
  | 1 => ("MemberChooser$Types", "classAbove", "[I", true)
  | 2 => ("MemberChooser$Types", "faceCounts", "[I", true)
  | 3 => ("MemberChooser$Types", "facesAbove", "[[I", true)
  | 4 => ("MemberChooser$Types", "upward", "[I", true)
  | _ => ("MemberChooser$Types", "told", "I", false)
def ty_T : Nat → FieldType := fun k => match k with
  | 0 => .array .boolean
  | 1 => .array .int
  | 2 => .array .int
  | 3 => .array (.array .int)
  | 4 => .array .int
  | _ => .int
theorem n_T : ∀ a, a < 6 → ∀ b, b < 6 → a ≠ b → (F_T a).2.1 ≠ (F_T b).2.1 := by decide +kernel
theorem ty_T_ok : ∀ k, k < 6 → parseFieldDescriptor (F_T k).2.2.1 = some (ty_T k) := by decide +kernel
theorem il_T : ∀ w ∈ u_ws R_T F_T 6, w ∈ lw_tbl := by decide +kernel
theorem ig_T : (u_ws R_T F_T 6).all goodWord = true := by decide +kernel
theorem i_T : ∀ w ∈ u_ws R_T F_T 6, w ∈ zTb := fun w h => List.mem_filter.mpr ⟨il_T w h, List.all_eq_true.mp ig_T w h⟩
def F_M : u_T := fun k => match k with
  | 0 => ("MemberChooser$Members", "owners", "[I", true)
  | 1 => ("MemberChooser$Members", "names", "[I", true)
  | 2 => ("MemberChooser$Members", "sizes", "[I", true)
  | 3 => ("MemberChooser$Members", "parameters", "[J", true)
  | 4 => ("MemberChooser$Members", "variables", "[Z", true)
  | _ => ("MemberChooser$Members", "told", "I", false)
def ty_M : Nat → FieldType := fun k => match k with
  | 0 => .array .int
  | 1 => .array .int
  | 2 => .array .int
  | 3 => .array .long
  | 4 => .array .boolean
  | _ => .int
theorem n_M : ∀ a, a < 6 → ∀ b, b < 6 → a ≠ b → (F_M a).2.1 ≠ (F_M b).2.1 := by decide +kernel
theorem ty_M_ok : ∀ k, k < 6 → parseFieldDescriptor (F_M k).2.2.1 = some (ty_M k) := by decide +kernel
theorem il_M : ∀ w ∈ u_ws R_M F_M 6, w ∈ lw_tbl := by decide +kernel
theorem ig_M : (u_ws R_M F_M 6).all goodWord = true := by decide +kernel
theorem i_M : ∀ w ∈ u_ws R_M F_M 6, w ∈ zTb := fun w h => List.mem_filter.mpr ⟨il_M w h, List.all_eq_true.mp ig_M w h⟩
def F_H : u_T := fun k => match k with
  | 0 => ("MemberChooser$Chooser", "types", "LMemberChooser$Types;", true)
  | 1 => ("MemberChooser$Chooser", "members", "LMemberChooser$Members;", true)
  | 2 => ("MemberChooser$Chooser", "line", "[I", true)
  | 3 => ("MemberChooser$Chooser", "meant", "[I", true)
  | 4 => ("MemberChooser$Chooser", "fitting", "[I", true)
  | 5 => ("MemberChooser$Chooser", "meantCount", "I", false)
  | 6 => ("MemberChooser$Chooser", "fittingCount", "I", false)
  | _ => ("MemberChooser$Chooser", "phase", "I", false)
def ty_H : Nat → FieldType := fun k => match k with
  | 0 => .object "MemberChooser$Types"
  | 1 => .object "MemberChooser$Members"
  | 2 => .array .int
  | 3 => .array .int
  | 4 => .array .int
  | 5 => .int
  | 6 => .int
  | _ => .int
theorem n_H : ∀ a, a < 8 → ∀ b, b < 8 → a ≠ b → (F_H a).2.1 ≠ (F_H b).2.1 := by decide +kernel
theorem ty_H_ok : ∀ k, k < 8 → parseFieldDescriptor (F_H k).2.2.1 = some (ty_H k) := by decide +kernel
theorem il_H : ∀ w ∈ u_ws R_H F_H 8, w ∈ lw_tbl := by decide +kernel
theorem ig_H : (u_ws R_H F_H 8).all goodWord = true := by decide +kernel
theorem i_H : ∀ w ∈ u_ws R_H F_H 8, w ∈ zTb := fun w h => List.mem_filter.mpr ⟨il_H w h, List.all_eq_true.mp ig_H w h⟩
def F_K : u_T := fun k => match k with
  | 0 => ("MemberChooser$KeptCalls", "types", "[I", true)
  | 1 => ("MemberChooser$KeptCalls", "names", "[I", true)
  | 2 => ("MemberChooser$KeptCalls", "sizes", "[I", true)
  | 3 => ("MemberChooser$KeptCalls", "classes", "[J", true)
  | 4 => ("MemberChooser$KeptCalls", "outcomes", "[I", true)
  | _ => ("MemberChooser$KeptCalls", "held", "I", false)
def ty_K : Nat → FieldType := fun k => match k with
  | 0 => .array .int
  | 1 => .array .int
  | 2 => .array .int
  | 3 => .array .long
  | 4 => .array .int
  | _ => .int
theorem n_K : ∀ a, a < 6 → ∀ b, b < 6 → a ≠ b → (F_K a).2.1 ≠ (F_K b).2.1 := by decide +kernel
theorem ty_K_ok : ∀ k, k < 6 → parseFieldDescriptor (F_K k).2.2.1 = some (ty_K k) := by decide +kernel
theorem il_K : ∀ w ∈ u_ws R_K F_K 6, w ∈ lw_tbl := by decide +kernel
theorem ig_K : (u_ws R_K F_K 6).all goodWord = true := by decide +kernel
theorem i_K : ∀ w ∈ u_ws R_K F_K 6, w ∈ zTb := fun w h => List.mem_filter.mpr ⟨il_K w h, List.all_eq_true.mp ig_K w h⟩
def F_Q : u_T := fun k => match k with
  | 0 => ("MemberChooserModel", "thrown", "I", false)
  | 1 => ("MemberChooserModel", "types", "I", false)
  | 2 => ("MemberChooserModel", "isFace", "[Z", true)
  | 3 => ("MemberChooserModel", "above", "[I", true)
  | 4 => ("MemberChooserModel", "faceMany", "[I", true)
  | 5 => ("MemberChooserModel", "faces", "[I", true)
  | 6 => ("MemberChooserModel", "members", "I", false)
  | 7 => ("MemberChooserModel", "owner", "[I", true)
  | 8 => ("MemberChooserModel", "nameOf", "[I", true)
  | 9 => ("MemberChooserModel", "many", "[I", true)
  | 10 => ("MemberChooserModel", "parameter", "[I", true)
  | 11 => ("MemberChooserModel", "isVariable", "[Z", true)
  | 12 => ("MemberChooserModel", "kept", "I", false)
  | 13 => ("MemberChooserModel", "keptType", "[I", true)
  | 14 => ("MemberChooserModel", "keptName", "[I", true)
  | 15 => ("MemberChooserModel", "keptMany", "[I", true)
  | 16 => ("MemberChooserModel", "keptClasses", "[J", true)
  | 17 => ("MemberChooserModel", "keptAnswer", "[I", true)
  | 18 => ("MemberChooserModel", "worked", "I", false)
  | 19 => ("MemberChooserModel", "had", "I", false)
  | 20 => ("MemberChooserModel", "phase", "I", false)
  | 21 => ("MemberChooserModel", "line", "[I", true)
  | 22 => ("MemberChooserModel", "lineMany", "I", false)
  | 23 => ("MemberChooserModel", "meant", "[I", true)
  | 24 => ("MemberChooserModel", "meantMany", "I", false)
  | 25 => ("MemberChooserModel", "value", "[I", true)
  | 26 => ("MemberChooserModel", "isOver", "[Z", true)
  | _ => ("MemberChooserModel", "pile", "[I", true)
def ty_Q : Nat → FieldType := fun k => match k with
  | 0 => .int
  | 1 => .int
  | 2 => .array .boolean
  | 3 => .array .int
  | 4 => .array .int
  | 5 => .array .int
  | 6 => .int
  | 7 => .array .int
  | 8 => .array .int
  | 9 => .array .int
  | 10 => .array .int
  | 11 => .array .boolean
  | 12 => .int
  | 13 => .array .int
  | 14 => .array .int
  | 15 => .array .int
  | 16 => .array .long
  | 17 => .array .int
  | 18 => .int
  | 19 => .int
  | 20 => .int
  | 21 => .array .int
  | 22 => .int
  | 23 => .array .int
  | 24 => .int
  | 25 => .array .int
  | 26 => .array .boolean
  | _ => .array .int
theorem n_Q : ∀ a, a < 28 → ∀ b, b < 28 → a ≠ b → (F_Q a).2.1 ≠ (F_Q b).2.1 := by decide +kernel
theorem ty_Q_ok : ∀ k, k < 28 → parseFieldDescriptor (F_Q k).2.2.1 = some (ty_Q k) := by decide +kernel
theorem il_Q : ∀ w ∈ u_ws R_Q F_Q 28, w ∈ lw_tbl := by decide +kernel
theorem ig_Q : (u_ws R_Q F_Q 28).all goodWord = true := by decide +kernel
theorem i_Q : ∀ w ∈ u_ws R_Q F_Q 28, w ∈ zTb := fun w h => List.mem_filter.mpr ⟨il_Q w h, List.all_eq_true.mp ig_Q w h⟩
abbrev vwCl : List vw_C := [(R_X, F_X, 6), (R_T, F_T, 6), (R_M, F_M, 6), (R_H, F_H, 8), (R_K, F_K, 6), (R_Q, F_Q, 28)]
def zNf : List (String × Nat × String × String × String) := [("MemberChooser", 131, "MemberChooser$KeptCalls", "outcomes", "[I"), ("MemberChooser", 150, "MemberChooser$Types", "told", "I"), ("MemberChooser", 153, "MemberChooser$Members", "told", "I"), ("MemberChooser", 154, "MemberChooser$KeptCalls", "held", "I"), ("MemberChooser", 157, "MemberChooser$Chooser", "phase", "I"), ("MemberChooser$Chooser", 62, "MemberChooser$Members", "told", "I"), ("MemberChooser$Chooser", 95, "MemberChooser$Members", "variables", "[Z"), ("MemberChooser$Chooser", 99, "MemberChooser$Members", "sizes", "[I")]
def zNm : List (String × Nat × MethodName) := [("MemberChooser$Members", 43, ⟨"MemberChooser", "byteAt", "(JI)I"⟩), ("MemberChooser$Chooser", 84, ⟨"MemberChooser", "byteAt", "(JI)I"⟩)]
end
section
theorem wq_1 : Cond.initialized "MemberChooser" ∈ zTb := zz_in 1 (by decide +kernel) rfl
theorem wq_2 : Cond.initialized "MemberChooser$Types" ∈ zTb := zz_in 2 (by decide +kernel) rfl
theorem wq_3 : Cond.initialized "MemberChooser$Members" ∈ zTb := zz_in 3 (by decide +kernel) rfl
theorem wq_4 : Cond.initialized "MemberChooser$Chooser" ∈ zTb := zz_in 4 (by decide +kernel) rfl
theorem wq_5 : Cond.initialized "MemberChooser$KeptCalls" ∈ zTb := zz_in 5 (by decide +kernel) rfl
theorem wq_6 : Cond.initialized "MemberChooserModel" ∈ zTb := zz_in 6 (by decide +kernel) rfl
theorem wq_10 : Cond.initialized "java/lang/IllegalArgumentException" ∈ zTb := zz_in 10 (by decide +kernel) rfl
theorem wq_11 : Cond.initialized "java/lang/IllegalStateException" ∈ zTb := zz_in 11 (by decide +kernel) rfl
theorem wq_12 : Cond.initialized "java/lang/Math" ∈ zTb := zz_in 12 (by decide +kernel) rfl
theorem wq_13 : Cond.initialized "java/lang/ArithmeticException" ∈ zTb := zz_in 13 (by decide +kernel) rfl
theorem wq_14 : Cond.initialized "java/util/NoSuchElementException" ∈ zTb := zz_in 14 (by decide +kernel) rfl
theorem wq_15 : Cond.initialized "java/lang/Integer" ∈ zTb := zz_in 15 (by decide +kernel) rfl
theorem wq_21 : Cond.methodLink "MemberChooser" 1 ⟨"java/lang/Object", "<init>", "()V"⟩ ∈ zTb := zz_in 21 (by decide +kernel) rfl
theorem wq_22 : Cond.instanceMethod ⟨"java/lang/Object", "<init>", "()V"⟩ ∈ zTb := zz_in 22 (by decide +kernel) rfl
theorem wq_23 : Cond.code ⟨"java/lang/Object", "<init>", "()V"⟩ object_method_1_code 1 (Option.none : Option Jvm.ClassFile.FieldType) ∈ zTb := zz_in 23 (by decide +kernel) rfl
theorem wq_24 : Cond.classLink "MemberChooser" 7 "MemberChooser$Types" ∈ zTb := zz_in 24 (by decide +kernel) rfl
theorem wq_25 : Cond.instantiable "MemberChooser$Types" 6 ∈ zTb := zz_in 25 (by decide +kernel) rfl
theorem wq_26 : Cond.methodLink "MemberChooser" 9 ⟨"MemberChooser$Types", "<init>", "()V"⟩ ∈ zTb := zz_in 26 (by decide +kernel) rfl
theorem wq_27 : Cond.instanceMethod ⟨"MemberChooser$Types", "<init>", "()V"⟩ ∈ zTb := zz_in 27 (by decide +kernel) rfl
theorem wq_28 : Cond.code ⟨"MemberChooser$Types", "<init>", "()V"⟩ prog_5_method_1_code 2 (Option.none : Option Jvm.ClassFile.FieldType) ∈ zTb := zz_in 28 (by decide +kernel) rfl
theorem wq_29 : Cond.methodLink "MemberChooser$Types" 5 ⟨"java/lang/Object", "<init>", "()V"⟩ ∈ zTb := zz_in 29 (by decide +kernel) rfl
theorem wq_30 : Cond.classLink "MemberChooser$Types" 22 "[[I" ∈ zTb := zz_in 30 (by decide +kernel) rfl
theorem wq_32 : Cond.methodLink "MemberChooser$Types" 34 ⟨"MemberChooser$Types", "isPrimitive", "(I)Z"⟩ ∈ zTb := zz_in 32 (by decide +kernel) rfl
theorem wq_33 : Cond.static ⟨"MemberChooser$Types", "isPrimitive", "(I)Z"⟩ ∈ zTb := zz_in 33 (by decide +kernel) rfl
theorem wq_34 : Cond.code ⟨"MemberChooser$Types", "isPrimitive", "(I)Z"⟩ prog_5_method_2_code 1 (Option.some .boolean) ∈ zTb := zz_in 34 (by decide +kernel) rfl
theorem wq_35 : Cond.methodLink "MemberChooser$Types" 38 ⟨"MemberChooser$Types", "bit", "(I)I"⟩ ∈ zTb := zz_in 35 (by decide +kernel) rfl
theorem wq_36 : Cond.static ⟨"MemberChooser$Types", "bit", "(I)I"⟩ ∈ zTb := zz_in 36 (by decide +kernel) rfl
theorem wq_37 : Cond.code ⟨"MemberChooser$Types", "bit", "(I)I"⟩ prog_5_method_17_code 1 (Option.some .int) ∈ zTb := zz_in 37 (by decide +kernel) rfl
theorem wq_38 : Cond.fieldLink "MemberChooser$Types" 11 "MemberChooser$Types" "faceMarks" "[Z" ∈ zTb := zz_in 38 (by decide +kernel) rfl
theorem wq_39 : Cond.fieldLink "MemberChooser$Types" 15 "MemberChooser$Types" "classAbove" "[I" ∈ zTb := zz_in 39 (by decide +kernel) rfl
theorem wq_40 : Cond.fieldLink "MemberChooser$Types" 19 "MemberChooser$Types" "faceCounts" "[I" ∈ zTb := zz_in 40 (by decide +kernel) rfl
theorem wq_41 : Cond.fieldLink "MemberChooser$Types" 24 "MemberChooser$Types" "facesAbove" "[[I" ∈ zTb := zz_in 41 (by decide +kernel) rfl
theorem wq_42 : Cond.fieldLink "MemberChooser$Types" 27 "MemberChooser$Types" "upward" "[I" ∈ zTb := zz_in 42 (by decide +kernel) rfl
theorem wq_43 : Cond.fieldLink "MemberChooser$Types" 30 "MemberChooser$Types" "told" "I" ∈ zTb := zz_in 43 (by decide +kernel) rfl
theorem wq_58 : Cond.arrayClass .boolean ∈ zTb := zz_in 58 (by decide +kernel) rfl
theorem wq_59 : Cond.arrayClass .int ∈ zTb := zz_in 59 (by decide +kernel) rfl
theorem wq_60 : Cond.classLink "MemberChooser" 16 "MemberChooser$Members" ∈ zTb := zz_in 60 (by decide +kernel) rfl
theorem wq_61 : Cond.instantiable "MemberChooser$Members" 6 ∈ zTb := zz_in 61 (by decide +kernel) rfl
theorem wq_62 : Cond.methodLink "MemberChooser" 18 ⟨"MemberChooser$Members", "<init>", "()V"⟩ ∈ zTb := zz_in 62 (by decide +kernel) rfl
theorem wq_63 : Cond.instanceMethod ⟨"MemberChooser$Members", "<init>", "()V"⟩ ∈ zTb := zz_in 63 (by decide +kernel) rfl
theorem wq_64 : Cond.code ⟨"MemberChooser$Members", "<init>", "()V"⟩ prog_4_method_1_code 1 (Option.none : Option Jvm.ClassFile.FieldType) ∈ zTb := zz_in 64 (by decide +kernel) rfl
theorem wq_65 : Cond.methodLink "MemberChooser$Members" 3 ⟨"java/lang/Object", "<init>", "()V"⟩ ∈ zTb := zz_in 65 (by decide +kernel) rfl
theorem wq_66 : Cond.fieldLink "MemberChooser$Members" 11 "MemberChooser$Members" "owners" "[I" ∈ zTb := zz_in 66 (by decide +kernel) rfl
theorem wq_67 : Cond.fieldLink "MemberChooser$Members" 15 "MemberChooser$Members" "names" "[I" ∈ zTb := zz_in 67 (by decide +kernel) rfl
theorem wq_68 : Cond.fieldLink "MemberChooser$Members" 18 "MemberChooser$Members" "sizes" "[I" ∈ zTb := zz_in 68 (by decide +kernel) rfl
theorem wq_70 : Cond.fieldLink "MemberChooser$Members" 21 "MemberChooser$Members" "parameters" "[J" ∈ zTb := zz_in 70 (by decide +kernel) rfl
theorem wq_71 : Cond.fieldLink "MemberChooser$Members" 25 "MemberChooser$Members" "variables" "[Z" ∈ zTb := zz_in 71 (by decide +kernel) rfl
theorem wq_73 : Cond.fieldLink "MemberChooser$Members" 29 "MemberChooser$Members" "told" "I" ∈ zTb := zz_in 73 (by decide +kernel) rfl
theorem wq_89 : Cond.arrayClass .long ∈ zTb := zz_in 89 (by decide +kernel) rfl
theorem wq_90 : Cond.classLink "MemberChooser" 23 "MemberChooser$Chooser" ∈ zTb := zz_in 90 (by decide +kernel) rfl
theorem wq_91 : Cond.instantiable "MemberChooser$Chooser" 8 ∈ zTb := zz_in 91 (by decide +kernel) rfl
theorem wq_92 : Cond.methodLink "MemberChooser" 25 ⟨"MemberChooser$Chooser", "<init>", "(LMemberChooser$Types;LMemberChooser$Members;)V"⟩ ∈ zTb := zz_in 92 (by decide +kernel) rfl
theorem wq_93 : Cond.instanceMethod ⟨"MemberChooser$Chooser", "<init>", "(LMemberChooser$Types;LMemberChooser$Members;)V"⟩ ∈ zTb := zz_in 93 (by decide +kernel) rfl
theorem wq_94 : Cond.code ⟨"MemberChooser$Chooser", "<init>", "(LMemberChooser$Types;LMemberChooser$Members;)V"⟩ prog_2_method_1_code 3 (Option.none : Option Jvm.ClassFile.FieldType) ∈ zTb := zz_in 94 (by decide +kernel) rfl
theorem wq_95 : Cond.methodLink "MemberChooser$Chooser" 3 ⟨"java/lang/Object", "<init>", "()V"⟩ ∈ zTb := zz_in 95 (by decide +kernel) rfl
theorem wq_96 : Cond.fieldLink "MemberChooser$Chooser" 9 "MemberChooser$Chooser" "types" "LMemberChooser$Types;" ∈ zTb := zz_in 96 (by decide +kernel) rfl
theorem wq_97 : Cond.fieldLink "MemberChooser$Chooser" 15 "MemberChooser$Chooser" "members" "LMemberChooser$Members;" ∈ zTb := zz_in 97 (by decide +kernel) rfl
theorem wq_98 : Cond.fieldLink "MemberChooser$Chooser" 21 "MemberChooser$Chooser" "line" "[I" ∈ zTb := zz_in 98 (by decide +kernel) rfl
theorem wq_99 : Cond.fieldLink "MemberChooser$Chooser" 27 "MemberChooser$Chooser" "meant" "[I" ∈ zTb := zz_in 99 (by decide +kernel) rfl
theorem wq_100 : Cond.fieldLink "MemberChooser$Chooser" 30 "MemberChooser$Chooser" "fitting" "[I" ∈ zTb := zz_in 100 (by decide +kernel) rfl
theorem wq_101 : Cond.fieldLink "MemberChooser$Chooser" 33 "MemberChooser$Chooser" "meantCount" "I" ∈ zTb := zz_in 101 (by decide +kernel) rfl
theorem wq_102 : Cond.fieldLink "MemberChooser$Chooser" 37 "MemberChooser$Chooser" "fittingCount" "I" ∈ zTb := zz_in 102 (by decide +kernel) rfl
theorem wq_103 : Cond.fieldLink "MemberChooser$Chooser" 40 "MemberChooser$Chooser" "phase" "I" ∈ zTb := zz_in 103 (by decide +kernel) rfl
theorem wq_122 : Cond.classLink "MemberChooser" 32 "MemberChooser$KeptCalls" ∈ zTb := zz_in 122 (by decide +kernel) rfl
theorem wq_123 : Cond.instantiable "MemberChooser$KeptCalls" 6 ∈ zTb := zz_in 123 (by decide +kernel) rfl
theorem wq_124 : Cond.methodLink "MemberChooser" 34 ⟨"MemberChooser$KeptCalls", "<init>", "()V"⟩ ∈ zTb := zz_in 124 (by decide +kernel) rfl
theorem wq_125 : Cond.instanceMethod ⟨"MemberChooser$KeptCalls", "<init>", "()V"⟩ ∈ zTb := zz_in 125 (by decide +kernel) rfl
theorem wq_126 : Cond.code ⟨"MemberChooser$KeptCalls", "<init>", "()V"⟩ prog_3_method_1_code 1 (Option.none : Option Jvm.ClassFile.FieldType) ∈ zTb := zz_in 126 (by decide +kernel) rfl
theorem wq_127 : Cond.methodLink "MemberChooser$KeptCalls" 3 ⟨"java/lang/Object", "<init>", "()V"⟩ ∈ zTb := zz_in 127 (by decide +kernel) rfl
theorem wq_128 : Cond.fieldLink "MemberChooser$KeptCalls" 11 "MemberChooser$KeptCalls" "types" "[I" ∈ zTb := zz_in 128 (by decide +kernel) rfl
theorem wq_129 : Cond.fieldLink "MemberChooser$KeptCalls" 15 "MemberChooser$KeptCalls" "names" "[I" ∈ zTb := zz_in 129 (by decide +kernel) rfl
theorem wq_130 : Cond.fieldLink "MemberChooser$KeptCalls" 18 "MemberChooser$KeptCalls" "sizes" "[I" ∈ zTb := zz_in 130 (by decide +kernel) rfl
theorem wq_131 : Cond.fieldLink "MemberChooser$KeptCalls" 21 "MemberChooser$KeptCalls" "classes" "[J" ∈ zTb := zz_in 131 (by decide +kernel) rfl
theorem wq_132 : Cond.fieldLink "MemberChooser$KeptCalls" 25 "MemberChooser$KeptCalls" "outcomes" "[I" ∈ zTb := zz_in 132 (by decide +kernel) rfl
theorem wq_134 : Cond.fieldLink "MemberChooser$KeptCalls" 28 "MemberChooser$KeptCalls" "held" "I" ∈ zTb := zz_in 134 (by decide +kernel) rfl
theorem wq_149 : Cond.fieldLink "MemberChooser" 10 "MemberChooser" "types" "LMemberChooser$Types;" ∈ zTb := zz_in 149 (by decide +kernel) rfl
theorem wq_150 : Cond.fieldLink "MemberChooser" 19 "MemberChooser" "members" "LMemberChooser$Members;" ∈ zTb := zz_in 150 (by decide +kernel) rfl
theorem wq_151 : Cond.fieldLink "MemberChooser" 28 "MemberChooser" "chooser" "LMemberChooser$Chooser;" ∈ zTb := zz_in 151 (by decide +kernel) rfl
theorem wq_152 : Cond.fieldLink "MemberChooser" 35 "MemberChooser" "kept" "LMemberChooser$KeptCalls;" ∈ zTb := zz_in 152 (by decide +kernel) rfl
theorem wq_153 : Cond.fieldLink "MemberChooser" 39 "MemberChooser" "workedOut" "I" ∈ zTb := zz_in 153 (by decide +kernel) rfl
theorem wq_154 : Cond.fieldLink "MemberChooser" 43 "MemberChooser" "foundKept" "I" ∈ zTb := zz_in 154 (by decide +kernel) rfl
theorem wq_172 : Cond.methodLink "MemberChooser" 70 ⟨"MemberChooser$Types", "addFaceAbove", "(II)Z"⟩ ∈ zTb := zz_in 172 (by decide +kernel) rfl
theorem wq_173 : Cond.instanceMethod ⟨"MemberChooser$Types", "addFaceAbove", "(II)Z"⟩ ∈ zTb := zz_in 173 (by decide +kernel) rfl
theorem wq_174 : Cond.selects "MemberChooser$Types" ⟨"MemberChooser$Types", "addFaceAbove", "(II)Z"⟩ ⟨"MemberChooser$Types", "addFaceAbove", "(II)Z"⟩ ∈ zTb := zz_in 174 (by decide +kernel) rfl
theorem wq_175 : Cond.code ⟨"MemberChooser$Types", "addFaceAbove", "(II)Z"⟩ prog_5_method_10_code 4 (Option.some .boolean) ∈ zTb := zz_in 175 (by decide +kernel) rfl
theorem wq_176 : Cond.methodLink "MemberChooser$Types" 45 ⟨"MemberChooser$Types", "isTold", "(I)Z"⟩ ∈ zTb := zz_in 176 (by decide +kernel) rfl
theorem wq_177 : Cond.instanceMethod ⟨"MemberChooser$Types", "isTold", "(I)Z"⟩ ∈ zTb := zz_in 177 (by decide +kernel) rfl
theorem wq_178 : Cond.selects "MemberChooser$Types" ⟨"MemberChooser$Types", "isTold", "(I)Z"⟩ ⟨"MemberChooser$Types", "isTold", "(I)Z"⟩ ∈ zTb := zz_in 178 (by decide +kernel) rfl
theorem wq_179 : Cond.code ⟨"MemberChooser$Types", "isTold", "(I)Z"⟩ prog_5_method_4_code 2 (Option.some .boolean) ∈ zTb := zz_in 179 (by decide +kernel) rfl
theorem wq_180 : Cond.methodLink "MemberChooser$Types" 42 ⟨"MemberChooser$Types", "exists", "(I)Z"⟩ ∈ zTb := zz_in 180 (by decide +kernel) rfl
theorem wq_181 : Cond.instanceMethod ⟨"MemberChooser$Types", "exists", "(I)Z"⟩ ∈ zTb := zz_in 181 (by decide +kernel) rfl
theorem wq_182 : Cond.selects "MemberChooser$Types" ⟨"MemberChooser$Types", "exists", "(I)Z"⟩ ⟨"MemberChooser$Types", "exists", "(I)Z"⟩ ∈ zTb := zz_in 182 (by decide +kernel) rfl
theorem wq_183 : Cond.code ⟨"MemberChooser$Types", "exists", "(I)Z"⟩ prog_5_method_3_code 2 (Option.some .boolean) ∈ zTb := zz_in 183 (by decide +kernel) rfl
theorem wq_184 : Cond.methodLink "MemberChooser$Types" 48 ⟨"MemberChooser$Types", "isToldFace", "(I)Z"⟩ ∈ zTb := zz_in 184 (by decide +kernel) rfl
theorem wq_185 : Cond.instanceMethod ⟨"MemberChooser$Types", "isToldFace", "(I)Z"⟩ ∈ zTb := zz_in 185 (by decide +kernel) rfl
theorem wq_186 : Cond.selects "MemberChooser$Types" ⟨"MemberChooser$Types", "isToldFace", "(I)Z"⟩ ⟨"MemberChooser$Types", "isToldFace", "(I)Z"⟩ ∈ zTb := zz_in 186 (by decide +kernel) rfl
theorem wq_187 : Cond.code ⟨"MemberChooser$Types", "isToldFace", "(I)Z"⟩ prog_5_method_6_code 2 (Option.some .boolean) ∈ zTb := zz_in 187 (by decide +kernel) rfl
theorem wq_188 : Cond.methodLink "MemberChooser$Types" 51 ⟨"MemberChooser$Types", "isSubtype", "(II)Z"⟩ ∈ zTb := zz_in 188 (by decide +kernel) rfl
theorem wq_189 : Cond.instanceMethod ⟨"MemberChooser$Types", "isSubtype", "(II)Z"⟩ ∈ zTb := zz_in 189 (by decide +kernel) rfl
theorem wq_190 : Cond.selects "MemberChooser$Types" ⟨"MemberChooser$Types", "isSubtype", "(II)Z"⟩ ⟨"MemberChooser$Types", "isSubtype", "(II)Z"⟩ ∈ zTb := zz_in 190 (by decide +kernel) rfl
theorem wq_191 : Cond.code ⟨"MemberChooser$Types", "isSubtype", "(II)Z"⟩ prog_5_method_9_code 3 (Option.some .boolean) ∈ zTb := zz_in 191 (by decide +kernel) rfl
theorem wq_192 : Cond.methodLink "MemberChooser$Types" 55 ⟨"MemberChooser$Types", "hasFace", "(II)Z"⟩ ∈ zTb := zz_in 192 (by decide +kernel) rfl
theorem wq_194 : Cond.instanceMethod ⟨"MemberChooser$Types", "hasFace", "(II)Z"⟩ ∈ zTb := zz_in 194 (by decide +kernel) rfl
theorem wq_195 : Cond.code ⟨"MemberChooser$Types", "hasFace", "(II)Z"⟩ prog_5_method_14_code 3 (Option.some .boolean) ∈ zTb := zz_in 195 (by decide +kernel) rfl
theorem wq_196 : Cond.methodLink "MemberChooser$Types" 71 ⟨"MemberChooser$Types", "holds", "([III)Z"⟩ ∈ zTb := zz_in 196 (by decide +kernel) rfl
theorem wq_197 : Cond.static ⟨"MemberChooser$Types", "holds", "([III)Z"⟩ ∈ zTb := zz_in 197 (by decide +kernel) rfl
theorem wq_198 : Cond.code ⟨"MemberChooser$Types", "holds", "([III)Z"⟩ prog_5_method_16_code 4 (Option.some .boolean) ∈ zTb := zz_in 198 (by decide +kernel) rfl
theorem wq_199 : Cond.methodLink "MemberChooser$Types" 58 ⟨"MemberChooser$Types", "raiseAllBelow", "(II)V"⟩ ∈ zTb := zz_in 199 (by decide +kernel) rfl
theorem wq_201 : Cond.instanceMethod ⟨"MemberChooser$Types", "raiseAllBelow", "(II)V"⟩ ∈ zTb := zz_in 201 (by decide +kernel) rfl
theorem wq_202 : Cond.code ⟨"MemberChooser$Types", "raiseAllBelow", "(II)V"⟩ prog_5_method_15_code 4 (Option.none : Option Jvm.ClassFile.FieldType) ∈ zTb := zz_in 202 (by decide +kernel) rfl
theorem wq_203 : Cond.methodLink "MemberChooser" 74 ⟨"MemberChooser$KeptCalls", "letGoAll", "()V"⟩ ∈ zTb := zz_in 203 (by decide +kernel) rfl
theorem wq_204 : Cond.instanceMethod ⟨"MemberChooser$KeptCalls", "letGoAll", "()V"⟩ ∈ zTb := zz_in 204 (by decide +kernel) rfl
theorem wq_205 : Cond.selects "MemberChooser$KeptCalls" ⟨"MemberChooser$KeptCalls", "letGoAll", "()V"⟩ ⟨"MemberChooser$KeptCalls", "letGoAll", "()V"⟩ ∈ zTb := zz_in 205 (by decide +kernel) rfl
theorem wq_206 : Cond.code ⟨"MemberChooser$KeptCalls", "letGoAll", "()V"⟩ prog_3_method_4_code 1 (Option.none : Option Jvm.ClassFile.FieldType) ∈ zTb := zz_in 206 (by decide +kernel) rfl
theorem wq_211 : Cond.methodLink "MemberChooser" 108 ⟨"MemberChooser$Types", "isSubtype", "(II)Z"⟩ ∈ zTb := zz_in 211 (by decide +kernel) rfl
theorem wq_216 : Cond.methodLink "MemberChooser" 111 ⟨"MemberChooser$Chooser", "meantAt", "(III)I"⟩ ∈ zTb := zz_in 216 (by decide +kernel) rfl
theorem wq_217 : Cond.instanceMethod ⟨"MemberChooser$Chooser", "meantAt", "(III)I"⟩ ∈ zTb := zz_in 217 (by decide +kernel) rfl
theorem wq_218 : Cond.selects "MemberChooser$Chooser" ⟨"MemberChooser$Chooser", "meantAt", "(III)I"⟩ ⟨"MemberChooser$Chooser", "meantAt", "(III)I"⟩ ∈ zTb := zz_in 218 (by decide +kernel) rfl
theorem wq_219 : Cond.code ⟨"MemberChooser$Chooser", "meantAt", "(III)I"⟩ prog_2_method_2_code 4 (Option.some .int) ∈ zTb := zz_in 219 (by decide +kernel) rfl
theorem wq_220 : Cond.methodLink "MemberChooser$Chooser" 43 ⟨"MemberChooser$Chooser", "gatherMeant", "(II)V"⟩ ∈ zTb := zz_in 220 (by decide +kernel) rfl
theorem wq_222 : Cond.instanceMethod ⟨"MemberChooser$Chooser", "gatherMeant", "(II)V"⟩ ∈ zTb := zz_in 222 (by decide +kernel) rfl
theorem wq_223 : Cond.code ⟨"MemberChooser$Chooser", "gatherMeant", "(II)V"⟩ prog_2_method_4_code 5 (Option.none : Option Jvm.ClassFile.FieldType) ∈ zTb := zz_in 223 (by decide +kernel) rfl
theorem wq_224 : Cond.methodLink "MemberChooser$Chooser" 55 ⟨"MemberChooser$Types", "writeLine", "(I[I)I"⟩ ∈ zTb := zz_in 224 (by decide +kernel) rfl
theorem wq_225 : Cond.instanceMethod ⟨"MemberChooser$Types", "writeLine", "(I[I)I"⟩ ∈ zTb := zz_in 225 (by decide +kernel) rfl
theorem wq_226 : Cond.selects "MemberChooser$Types" ⟨"MemberChooser$Types", "writeLine", "(I[I)I"⟩ ⟨"MemberChooser$Types", "writeLine", "(I[I)I"⟩ ∈ zTb := zz_in 226 (by decide +kernel) rfl
theorem wq_227 : Cond.code ⟨"MemberChooser$Types", "writeLine", "(I[I)I"⟩ prog_5_method_12_code 7 (Option.some .int) ∈ zTb := zz_in 227 (by decide +kernel) rfl
theorem wq_228 : Cond.methodLink "MemberChooser$Types" 67 ⟨"MemberChooser$Types", "appendFaces", "(LMemberChooser$Types;I[III)I"⟩ ∈ zTb := zz_in 228 (by decide +kernel) rfl
theorem wq_229 : Cond.static ⟨"MemberChooser$Types", "appendFaces", "(LMemberChooser$Types;I[III)I"⟩ ∈ zTb := zz_in 229 (by decide +kernel) rfl
theorem wq_230 : Cond.code ⟨"MemberChooser$Types", "appendFaces", "(LMemberChooser$Types;I[III)I"⟩ prog_5_method_13_code 8 (Option.some .int) ∈ zTb := zz_in 230 (by decide +kernel) rfl
theorem wq_231 : Cond.methodLink "MemberChooser$Chooser" 59 ⟨"MemberChooser$Chooser", "appendMembers", "(II)V"⟩ ∈ zTb := zz_in 231 (by decide +kernel) rfl
theorem wq_233 : Cond.instanceMethod ⟨"MemberChooser$Chooser", "appendMembers", "(II)V"⟩ ∈ zTb := zz_in 233 (by decide +kernel) rfl
theorem wq_234 : Cond.code ⟨"MemberChooser$Chooser", "appendMembers", "(II)V"⟩ prog_2_method_5_code 4 (Option.none : Option Jvm.ClassFile.FieldType) ∈ zTb := zz_in 234 (by decide +kernel) rfl
theorem wq_235 : Cond.methodLink "MemberChooser$Chooser" 65 ⟨"MemberChooser$Members", "isOf", "(III)Z"⟩ ∈ zTb := zz_in 235 (by decide +kernel) rfl
theorem wq_236 : Cond.instanceMethod ⟨"MemberChooser$Members", "isOf", "(III)Z"⟩ ∈ zTb := zz_in 236 (by decide +kernel) rfl
theorem wq_237 : Cond.selects "MemberChooser$Members" ⟨"MemberChooser$Members", "isOf", "(III)Z"⟩ ⟨"MemberChooser$Members", "isOf", "(III)Z"⟩ ∈ zTb := zz_in 237 (by decide +kernel) rfl
theorem wq_238 : Cond.code ⟨"MemberChooser$Members", "isOf", "(III)Z"⟩ prog_4_method_5_code 4 (Option.some .boolean) ∈ zTb := zz_in 238 (by decide +kernel) rfl
theorem wq_239 : Cond.methodLink "MemberChooser$Chooser" 69 ⟨"MemberChooser$Chooser", "isHidden", "(I)Z"⟩ ∈ zTb := zz_in 239 (by decide +kernel) rfl
theorem wq_241 : Cond.instanceMethod ⟨"MemberChooser$Chooser", "isHidden", "(I)Z"⟩ ∈ zTb := zz_in 241 (by decide +kernel) rfl
theorem wq_242 : Cond.code ⟨"MemberChooser$Chooser", "isHidden", "(I)Z"⟩ prog_2_method_6_code 3 (Option.some .boolean) ∈ zTb := zz_in 242 (by decide +kernel) rfl
theorem wq_243 : Cond.methodLink "MemberChooser$Chooser" 73 ⟨"MemberChooser$Members", "haveSameParameters", "(II)Z"⟩ ∈ zTb := zz_in 243 (by decide +kernel) rfl
theorem wq_244 : Cond.instanceMethod ⟨"MemberChooser$Members", "haveSameParameters", "(II)Z"⟩ ∈ zTb := zz_in 244 (by decide +kernel) rfl
theorem wq_245 : Cond.selects "MemberChooser$Members" ⟨"MemberChooser$Members", "haveSameParameters", "(II)Z"⟩ ⟨"MemberChooser$Members", "haveSameParameters", "(II)Z"⟩ ∈ zTb := zz_in 245 (by decide +kernel) rfl
theorem wq_246 : Cond.code ⟨"MemberChooser$Members", "haveSameParameters", "(II)Z"⟩ prog_4_method_6_code 3 (Option.some .boolean) ∈ zTb := zz_in 246 (by decide +kernel) rfl
theorem wq_251 : Cond.methodLink "MemberChooser" 145 ⟨"MemberChooser$Members", "tell", "(II)I"⟩ ∈ zTb := zz_in 251 (by decide +kernel) rfl
theorem wq_252 : Cond.instanceMethod ⟨"MemberChooser$Members", "tell", "(II)I"⟩ ∈ zTb := zz_in 252 (by decide +kernel) rfl
theorem wq_253 : Cond.selects "MemberChooser$Members" ⟨"MemberChooser$Members", "tell", "(II)I"⟩ ⟨"MemberChooser$Members", "tell", "(II)I"⟩ ∈ zTb := zz_in 253 (by decide +kernel) rfl
theorem wq_254 : Cond.code ⟨"MemberChooser$Members", "tell", "(II)I"⟩ prog_4_method_8_code 3 (Option.some .int) ∈ zTb := zz_in 254 (by decide +kernel) rfl
theorem wq_256 : Cond.static ⟨"MemberChooser", "byteAt", "(JI)I"⟩ ∈ zTb := zz_in 256 (by decide +kernel) rfl
theorem wq_257 : Cond.code ⟨"MemberChooser", "byteAt", "(JI)I"⟩ prog_1_method_16_code 3 (Option.some .int) ∈ zTb := zz_in 257 (by decide +kernel) rfl
theorem wq_258 : Cond.constantLong "MemberChooser" 173 255 ∈ zTb := zz_in 258 (by decide +kernel) rfl
theorem wq_263 : Cond.methodLink "MemberChooser" 149 ⟨"MemberChooser$Types", "tell", "(II)I"⟩ ∈ zTb := zz_in 263 (by decide +kernel) rfl
theorem wq_264 : Cond.instanceMethod ⟨"MemberChooser$Types", "tell", "(II)I"⟩ ∈ zTb := zz_in 264 (by decide +kernel) rfl
theorem wq_265 : Cond.selects "MemberChooser$Types" ⟨"MemberChooser$Types", "tell", "(II)I"⟩ ⟨"MemberChooser$Types", "tell", "(II)I"⟩ ∈ zTb := zz_in 265 (by decide +kernel) rfl
theorem wq_266 : Cond.code ⟨"MemberChooser$Types", "tell", "(II)I"⟩ prog_5_method_11_code 3 (Option.some .int) ∈ zTb := zz_in 266 (by decide +kernel) rfl
theorem wq_267 : Cond.methodLink "MemberChooser$Types" 62 ⟨"java/lang/Integer", "bitCount", "(I)I"⟩ ∈ zTb := zz_in 267 (by decide +kernel) rfl
theorem wq_268 : Cond.static ⟨"java/lang/Integer", "bitCount", "(I)I"⟩ ∈ zTb := zz_in 268 (by decide +kernel) rfl
theorem wq_269 : Cond.code ⟨"java/lang/Integer", "bitCount", "(I)I"⟩ prog_12_method_49_code 1 (Option.some .int) ∈ zTb := zz_in 269 (by decide +kernel) rfl
theorem wq_270 : Cond.constant "java/lang/Integer" 265 1431655765 ∈ zTb := zz_in 270 (by decide +kernel) rfl
theorem wq_271 : Cond.constant "java/lang/Integer" 266 858993459 ∈ zTb := zz_in 271 (by decide +kernel) rfl
theorem wq_272 : Cond.constant "java/lang/Integer" 267 252645135 ∈ zTb := zz_in 272 (by decide +kernel) rfl
theorem wq_286 : Cond.methodLink "MemberChooser" 46 ⟨"MemberChooser$Types", "isToldClass", "(I)Z"⟩ ∈ zTb := zz_in 286 (by decide +kernel) rfl
theorem wq_287 : Cond.instanceMethod ⟨"MemberChooser$Types", "isToldClass", "(I)Z"⟩ ∈ zTb := zz_in 287 (by decide +kernel) rfl
theorem wq_288 : Cond.selects "MemberChooser$Types" ⟨"MemberChooser$Types", "isToldClass", "(I)Z"⟩ ⟨"MemberChooser$Types", "isToldClass", "(I)Z"⟩ ∈ zTb := zz_in 288 (by decide +kernel) rfl
theorem wq_289 : Cond.code ⟨"MemberChooser$Types", "isToldClass", "(I)Z"⟩ prog_5_method_5_code 2 (Option.some .boolean) ∈ zTb := zz_in 289 (by decide +kernel) rfl
theorem wq_290 : Cond.classLink "MemberChooser" 50 "java/lang/IllegalArgumentException" ∈ zTb := zz_in 290 (by decide +kernel) rfl
theorem wq_291 : Cond.instantiable "java/lang/IllegalArgumentException" 6 ∈ zTb := zz_in 291 (by decide +kernel) rfl
theorem wq_359 : Cond.methodLink "MemberChooser" 57 ⟨"MemberChooser$Types", "isFull", "()Z"⟩ ∈ zTb := zz_in 359 (by decide +kernel) rfl
theorem wq_360 : Cond.instanceMethod ⟨"MemberChooser$Types", "isFull", "()Z"⟩ ∈ zTb := zz_in 360 (by decide +kernel) rfl
theorem wq_361 : Cond.selects "MemberChooser$Types" ⟨"MemberChooser$Types", "isFull", "()Z"⟩ ⟨"MemberChooser$Types", "isFull", "()Z"⟩ ∈ zTb := zz_in 361 (by decide +kernel) rfl
theorem wq_362 : Cond.code ⟨"MemberChooser$Types", "isFull", "()Z"⟩ prog_5_method_7_code 1 (Option.some .boolean) ∈ zTb := zz_in 362 (by decide +kernel) rfl
theorem wq_363 : Cond.classLink "MemberChooser" 61 "java/lang/IllegalStateException" ∈ zTb := zz_in 363 (by decide +kernel) rfl
theorem wq_364 : Cond.instantiable "java/lang/IllegalStateException" 6 ∈ zTb := zz_in 364 (by decide +kernel) rfl
theorem wq_379 : Cond.methodLink "MemberChooser" 66 ⟨"MemberChooser$Types", "add", "(ZI)I"⟩ ∈ zTb := zz_in 379 (by decide +kernel) rfl
theorem wq_380 : Cond.instanceMethod ⟨"MemberChooser$Types", "add", "(ZI)I"⟩ ∈ zTb := zz_in 380 (by decide +kernel) rfl
theorem wq_381 : Cond.selects "MemberChooser$Types" ⟨"MemberChooser$Types", "add", "(ZI)I"⟩ ⟨"MemberChooser$Types", "add", "(ZI)I"⟩ ∈ zTb := zz_in 381 (by decide +kernel) rfl
theorem wq_382 : Cond.code ⟨"MemberChooser$Types", "add", "(ZI)I"⟩ prog_5_method_8_code 4 (Option.some .int) ∈ zTb := zz_in 382 (by decide +kernel) rfl
theorem wq_397 : Cond.methodLink "MemberChooser" 77 ⟨"MemberChooser$Types", "isTold", "(I)Z"⟩ ∈ zTb := zz_in 397 (by decide +kernel) rfl
theorem wq_398 : Cond.methodLink "MemberChooser" 80 ⟨"MemberChooser", "isName", "(I)Z"⟩ ∈ zTb := zz_in 398 (by decide +kernel) rfl
theorem wq_399 : Cond.static ⟨"MemberChooser", "isName", "(I)Z"⟩ ∈ zTb := zz_in 399 (by decide +kernel) rfl
theorem wq_400 : Cond.code ⟨"MemberChooser", "isName", "(I)Z"⟩ prog_1_method_15_code 1 (Option.some .boolean) ∈ zTb := zz_in 400 (by decide +kernel) rfl
theorem wq_402 : Cond.methodLink "MemberChooser" 85 ⟨"MemberChooser", "areParameters", "(IJ)Z"⟩ ∈ zTb := zz_in 402 (by decide +kernel) rfl
theorem wq_404 : Cond.instanceMethod ⟨"MemberChooser", "areParameters", "(IJ)Z"⟩ ∈ zTb := zz_in 404 (by decide +kernel) rfl
theorem wq_405 : Cond.code ⟨"MemberChooser", "areParameters", "(IJ)Z"⟩ prog_1_method_12_code 5 (Option.some .boolean) ∈ zTb := zz_in 405 (by decide +kernel) rfl
theorem wq_406 : Cond.methodLink "MemberChooser" 160 ⟨"MemberChooser", "byteAt", "(JI)I"⟩ ∈ zTb := zz_in 406 (by decide +kernel) rfl
theorem wq_407 : Cond.methodLink "MemberChooser" 164 ⟨"MemberChooser$Types", "exists", "(I)Z"⟩ ∈ zTb := zz_in 407 (by decide +kernel) rfl
theorem wq_409 : Cond.methodLink "MemberChooser" 91 ⟨"MemberChooser", "lowestBytes", "(JI)J"⟩ ∈ zTb := zz_in 409 (by decide +kernel) rfl
theorem wq_410 : Cond.static ⟨"MemberChooser", "lowestBytes", "(JI)J"⟩ ∈ zTb := zz_in 410 (by decide +kernel) rfl
theorem wq_411 : Cond.code ⟨"MemberChooser", "lowestBytes", "(JI)J"⟩ prog_1_method_17_code 3 (Option.some .long) ∈ zTb := zz_in 411 (by decide +kernel) rfl
theorem wq_412 : Cond.methodLink "MemberChooser" 95 ⟨"MemberChooser$Members", "isFull", "()Z"⟩ ∈ zTb := zz_in 412 (by decide +kernel) rfl
theorem wq_413 : Cond.instanceMethod ⟨"MemberChooser$Members", "isFull", "()Z"⟩ ∈ zTb := zz_in 413 (by decide +kernel) rfl
theorem wq_414 : Cond.selects "MemberChooser$Members" ⟨"MemberChooser$Members", "isFull", "()Z"⟩ ⟨"MemberChooser$Members", "isFull", "()Z"⟩ ∈ zTb := zz_in 414 (by decide +kernel) rfl
theorem wq_415 : Cond.code ⟨"MemberChooser$Members", "isFull", "()Z"⟩ prog_4_method_2_code 1 (Option.some .boolean) ∈ zTb := zz_in 415 (by decide +kernel) rfl
theorem wq_416 : Cond.methodLink "MemberChooser" 96 ⟨"MemberChooser$Members", "isTold", "(IIIJ)Z"⟩ ∈ zTb := zz_in 416 (by decide +kernel) rfl
theorem wq_417 : Cond.instanceMethod ⟨"MemberChooser$Members", "isTold", "(IIIJ)Z"⟩ ∈ zTb := zz_in 417 (by decide +kernel) rfl
theorem wq_418 : Cond.selects "MemberChooser$Members" ⟨"MemberChooser$Members", "isTold", "(IIIJ)Z"⟩ ⟨"MemberChooser$Members", "isTold", "(IIIJ)Z"⟩ ∈ zTb := zz_in 418 (by decide +kernel) rfl
theorem wq_419 : Cond.code ⟨"MemberChooser$Members", "isTold", "(IIIJ)Z"⟩ prog_4_method_3_code 7 (Option.some .boolean) ∈ zTb := zz_in 419 (by decide +kernel) rfl
theorem wq_420 : Cond.methodLink "MemberChooser$Members" 33 ⟨"MemberChooser$Members", "isOf", "(III)Z"⟩ ∈ zTb := zz_in 420 (by decide +kernel) rfl
theorem wq_422 : Cond.methodLink "MemberChooser" 101 ⟨"MemberChooser$KeptCalls", "letGoName", "(I)V"⟩ ∈ zTb := zz_in 422 (by decide +kernel) rfl
theorem wq_423 : Cond.instanceMethod ⟨"MemberChooser$KeptCalls", "letGoName", "(I)V"⟩ ∈ zTb := zz_in 423 (by decide +kernel) rfl
theorem wq_424 : Cond.selects "MemberChooser$KeptCalls" ⟨"MemberChooser$KeptCalls", "letGoName", "(I)V"⟩ ⟨"MemberChooser$KeptCalls", "letGoName", "(I)V"⟩ ∈ zTb := zz_in 424 (by decide +kernel) rfl
theorem wq_425 : Cond.code ⟨"MemberChooser$KeptCalls", "letGoName", "(I)V"⟩ prog_3_method_5_code 4 (Option.none : Option Jvm.ClassFile.FieldType) ∈ zTb := zz_in 425 (by decide +kernel) rfl
theorem wq_426 : Cond.methodLink "MemberChooser$KeptCalls" 35 ⟨"MemberChooser$KeptCalls", "move", "(II)V"⟩ ∈ zTb := zz_in 426 (by decide +kernel) rfl
theorem wq_428 : Cond.instanceMethod ⟨"MemberChooser$KeptCalls", "move", "(II)V"⟩ ∈ zTb := zz_in 428 (by decide +kernel) rfl
theorem wq_429 : Cond.code ⟨"MemberChooser$KeptCalls", "move", "(II)V"⟩ prog_3_method_7_code 3 (Option.none : Option Jvm.ClassFile.FieldType) ∈ zTb := zz_in 429 (by decide +kernel) rfl
theorem wq_430 : Cond.methodLink "MemberChooser" 105 ⟨"MemberChooser$Members", "add", "(IIIJZ)I"⟩ ∈ zTb := zz_in 430 (by decide +kernel) rfl
theorem wq_431 : Cond.instanceMethod ⟨"MemberChooser$Members", "add", "(IIIJZ)I"⟩ ∈ zTb := zz_in 431 (by decide +kernel) rfl
theorem wq_432 : Cond.selects "MemberChooser$Members" ⟨"MemberChooser$Members", "add", "(IIIJZ)I"⟩ ⟨"MemberChooser$Members", "add", "(IIIJZ)I"⟩ ∈ zTb := zz_in 432 (by decide +kernel) rfl
theorem wq_433 : Cond.code ⟨"MemberChooser$Members", "add", "(IIIJZ)I"⟩ prog_4_method_4_code 8 (Option.some .int) ∈ zTb := zz_in 433 (by decide +kernel) rfl
theorem wq_443 : Cond.methodLink "MemberChooser" 115 ⟨"MemberChooser", "areValues", "(IJ)Z"⟩ ∈ zTb := zz_in 443 (by decide +kernel) rfl
theorem wq_445 : Cond.instanceMethod ⟨"MemberChooser", "areValues", "(IJ)Z"⟩ ∈ zTb := zz_in 445 (by decide +kernel) rfl
theorem wq_446 : Cond.code ⟨"MemberChooser", "areValues", "(IJ)Z"⟩ prog_1_method_13_code 5 (Option.some .boolean) ∈ zTb := zz_in 446 (by decide +kernel) rfl
theorem wq_447 : Cond.methodLink "MemberChooser" 167 ⟨"MemberChooser", "isValue", "(I)Z"⟩ ∈ zTb := zz_in 447 (by decide +kernel) rfl
theorem wq_449 : Cond.instanceMethod ⟨"MemberChooser", "isValue", "(I)Z"⟩ ∈ zTb := zz_in 449 (by decide +kernel) rfl
theorem wq_450 : Cond.code ⟨"MemberChooser", "isValue", "(I)Z"⟩ prog_1_method_14_code 2 (Option.some .boolean) ∈ zTb := zz_in 450 (by decide +kernel) rfl
theorem wq_451 : Cond.methodLink "MemberChooser" 170 ⟨"MemberChooser$Types", "isPrimitive", "(I)Z"⟩ ∈ zTb := zz_in 451 (by decide +kernel) rfl
theorem wq_453 : Cond.methodLink "MemberChooser" 120 ⟨"MemberChooser$KeptCalls", "find", "(IIIJ)I"⟩ ∈ zTb := zz_in 453 (by decide +kernel) rfl
theorem wq_454 : Cond.instanceMethod ⟨"MemberChooser$KeptCalls", "find", "(IIIJ)I"⟩ ∈ zTb := zz_in 454 (by decide +kernel) rfl
theorem wq_455 : Cond.selects "MemberChooser$KeptCalls" ⟨"MemberChooser$KeptCalls", "find", "(IIIJ)I"⟩ ⟨"MemberChooser$KeptCalls", "find", "(IIIJ)I"⟩ ∈ zTb := zz_in 455 (by decide +kernel) rfl
theorem wq_456 : Cond.code ⟨"MemberChooser$KeptCalls", "find", "(IIIJ)I"⟩ prog_3_method_2_code 7 (Option.some .int) ∈ zTb := zz_in 456 (by decide +kernel) rfl
theorem wq_457 : Cond.methodLink "MemberChooser" 124 ⟨"MemberChooser$Chooser", "choose", "(IIIJ)I"⟩ ∈ zTb := zz_in 457 (by decide +kernel) rfl
theorem wq_458 : Cond.instanceMethod ⟨"MemberChooser$Chooser", "choose", "(IIIJ)I"⟩ ∈ zTb := zz_in 458 (by decide +kernel) rfl
theorem wq_459 : Cond.selects "MemberChooser$Chooser" ⟨"MemberChooser$Chooser", "choose", "(IIIJ)I"⟩ ⟨"MemberChooser$Chooser", "choose", "(IIIJ)I"⟩ ∈ zTb := zz_in 459 (by decide +kernel) rfl
theorem wq_460 : Cond.code ⟨"MemberChooser$Chooser", "choose", "(IIIJ)I"⟩ prog_2_method_3_code 7 (Option.some .int) ∈ zTb := zz_in 460 (by decide +kernel) rfl
theorem wq_461 : Cond.methodLink "MemberChooser$Chooser" 47 ⟨"MemberChooser$Chooser", "gatherFitting", "(IJ)V"⟩ ∈ zTb := zz_in 461 (by decide +kernel) rfl
theorem wq_463 : Cond.instanceMethod ⟨"MemberChooser$Chooser", "gatherFitting", "(IJ)V"⟩ ∈ zTb := zz_in 463 (by decide +kernel) rfl
theorem wq_464 : Cond.code ⟨"MemberChooser$Chooser", "gatherFitting", "(IJ)V"⟩ prog_2_method_7_code 5 (Option.none : Option Jvm.ClassFile.FieldType) ∈ zTb := zz_in 464 (by decide +kernel) rfl
theorem wq_465 : Cond.methodLink "MemberChooser$Chooser" 77 ⟨"MemberChooser$Chooser", "fits", "(IIJ)Z"⟩ ∈ zTb := zz_in 465 (by decide +kernel) rfl
theorem wq_467 : Cond.instanceMethod ⟨"MemberChooser$Chooser", "fits", "(IIJ)Z"⟩ ∈ zTb := zz_in 467 (by decide +kernel) rfl
theorem wq_468 : Cond.code ⟨"MemberChooser$Chooser", "fits", "(IIJ)Z"⟩ prog_2_method_8_code 6 (Option.some .boolean) ∈ zTb := zz_in 468 (by decide +kernel) rfl
theorem wq_469 : Cond.methodLink "MemberChooser$Chooser" 81 ⟨"MemberChooser$Chooser", "takesSoMany", "(II)Z"⟩ ∈ zTb := zz_in 469 (by decide +kernel) rfl
theorem wq_471 : Cond.instanceMethod ⟨"MemberChooser$Chooser", "takesSoMany", "(II)Z"⟩ ∈ zTb := zz_in 471 (by decide +kernel) rfl
theorem wq_472 : Cond.code ⟨"MemberChooser$Chooser", "takesSoMany", "(II)Z"⟩ prog_2_method_9_code 3 (Option.some .boolean) ∈ zTb := zz_in 472 (by decide +kernel) rfl
theorem wq_474 : Cond.methodLink "MemberChooser$Chooser" 88 ⟨"MemberChooser$Members", "parameterFor", "(II)I"⟩ ∈ zTb := zz_in 474 (by decide +kernel) rfl
theorem wq_475 : Cond.instanceMethod ⟨"MemberChooser$Members", "parameterFor", "(II)I"⟩ ∈ zTb := zz_in 475 (by decide +kernel) rfl
theorem wq_476 : Cond.selects "MemberChooser$Members" ⟨"MemberChooser$Members", "parameterFor", "(II)I"⟩ ⟨"MemberChooser$Members", "parameterFor", "(II)I"⟩ ∈ zTb := zz_in 476 (by decide +kernel) rfl
theorem wq_477 : Cond.code ⟨"MemberChooser$Members", "parameterFor", "(II)I"⟩ prog_4_method_7_code 3 (Option.some .int) ∈ zTb := zz_in 477 (by decide +kernel) rfl
theorem wq_478 : Cond.methodLink "MemberChooser$Members" 37 ⟨"java/lang/Math", "min", "(II)I"⟩ ∈ zTb := zz_in 478 (by decide +kernel) rfl
theorem wq_479 : Cond.static ⟨"java/lang/Math", "min", "(II)I"⟩ ∈ zTb := zz_in 479 (by decide +kernel) rfl
theorem wq_480 : Cond.code ⟨"java/lang/Math", "min", "(II)I"⟩ prog_13_method_69_code 2 (Option.some .int) ∈ zTb := zz_in 480 (by decide +kernel) rfl
theorem wq_481 : Cond.methodLink "MemberChooser$Chooser" 92 ⟨"MemberChooser$Chooser", "goesTo", "(II)Z"⟩ ∈ zTb := zz_in 481 (by decide +kernel) rfl
theorem wq_483 : Cond.instanceMethod ⟨"MemberChooser$Chooser", "goesTo", "(II)Z"⟩ ∈ zTb := zz_in 483 (by decide +kernel) rfl
theorem wq_484 : Cond.code ⟨"MemberChooser$Chooser", "goesTo", "(II)Z"⟩ prog_2_method_10_code 3 (Option.some .boolean) ∈ zTb := zz_in 484 (by decide +kernel) rfl
theorem wq_485 : Cond.methodLink "MemberChooser$Chooser" 102 ⟨"MemberChooser$Types", "isPrimitive", "(I)Z"⟩ ∈ zTb := zz_in 485 (by decide +kernel) rfl
theorem wq_486 : Cond.methodLink "MemberChooser$Chooser" 105 ⟨"MemberChooser$Chooser", "unboxesTo", "(II)Z"⟩ ∈ zTb := zz_in 486 (by decide +kernel) rfl
theorem wq_487 : Cond.static ⟨"MemberChooser$Chooser", "unboxesTo", "(II)Z"⟩ ∈ zTb := zz_in 487 (by decide +kernel) rfl
theorem wq_488 : Cond.code ⟨"MemberChooser$Chooser", "unboxesTo", "(II)Z"⟩ prog_2_method_11_code 2 (Option.some .boolean) ∈ zTb := zz_in 488 (by decide +kernel) rfl
theorem wq_489 : Cond.methodLink "MemberChooser$Chooser" 108 ⟨"MemberChooser$Types", "isSubtype", "(II)Z"⟩ ∈ zTb := zz_in 489 (by decide +kernel) rfl
theorem wq_490 : Cond.methodLink "MemberChooser$Chooser" 51 ⟨"MemberChooser$Chooser", "mostSpecific", "()I"⟩ ∈ zTb := zz_in 490 (by decide +kernel) rfl
theorem wq_492 : Cond.instanceMethod ⟨"MemberChooser$Chooser", "mostSpecific", "()I"⟩ ∈ zTb := zz_in 492 (by decide +kernel) rfl
theorem wq_493 : Cond.code ⟨"MemberChooser$Chooser", "mostSpecific", "()I"⟩ prog_2_method_12_code 3 (Option.some .int) ∈ zTb := zz_in 493 (by decide +kernel) rfl
theorem wq_494 : Cond.methodLink "MemberChooser$Chooser" 111 ⟨"MemberChooser$Chooser", "isMoreSpecificThanAll", "(I)Z"⟩ ∈ zTb := zz_in 494 (by decide +kernel) rfl
theorem wq_496 : Cond.instanceMethod ⟨"MemberChooser$Chooser", "isMoreSpecificThanAll", "(I)Z"⟩ ∈ zTb := zz_in 496 (by decide +kernel) rfl
theorem wq_497 : Cond.code ⟨"MemberChooser$Chooser", "isMoreSpecificThanAll", "(I)Z"⟩ prog_2_method_13_code 3 (Option.some .boolean) ∈ zTb := zz_in 497 (by decide +kernel) rfl
theorem wq_498 : Cond.methodLink "MemberChooser$Chooser" 114 ⟨"MemberChooser$Chooser", "isMoreSpecific", "(II)Z"⟩ ∈ zTb := zz_in 498 (by decide +kernel) rfl
theorem wq_500 : Cond.instanceMethod ⟨"MemberChooser$Chooser", "isMoreSpecific", "(II)Z"⟩ ∈ zTb := zz_in 500 (by decide +kernel) rfl
theorem wq_501 : Cond.code ⟨"MemberChooser$Chooser", "isMoreSpecific", "(II)Z"⟩ prog_2_method_14_code 5 (Option.some .boolean) ∈ zTb := zz_in 501 (by decide +kernel) rfl
theorem wq_502 : Cond.methodLink "MemberChooser$Chooser" 117 ⟨"java/lang/Math", "max", "(II)I"⟩ ∈ zTb := zz_in 502 (by decide +kernel) rfl
theorem wq_503 : Cond.static ⟨"java/lang/Math", "max", "(II)I"⟩ ∈ zTb := zz_in 503 (by decide +kernel) rfl
theorem wq_504 : Cond.code ⟨"java/lang/Math", "max", "(II)I"⟩ prog_13_method_65_code 2 (Option.some .int) ∈ zTb := zz_in 504 (by decide +kernel) rfl
theorem wq_505 : Cond.methodLink "MemberChooser" 127 ⟨"MemberChooser$KeptCalls", "keep", "(IIIJI)I"⟩ ∈ zTb := zz_in 505 (by decide +kernel) rfl
theorem wq_506 : Cond.instanceMethod ⟨"MemberChooser$KeptCalls", "keep", "(IIIJI)I"⟩ ∈ zTb := zz_in 506 (by decide +kernel) rfl
theorem wq_507 : Cond.selects "MemberChooser$KeptCalls" ⟨"MemberChooser$KeptCalls", "keep", "(IIIJI)I"⟩ ⟨"MemberChooser$KeptCalls", "keep", "(IIIJI)I"⟩ ∈ zTb := zz_in 507 (by decide +kernel) rfl
theorem wq_508 : Cond.code ⟨"MemberChooser$KeptCalls", "keep", "(IIIJI)I"⟩ prog_3_method_3_code 8 (Option.some .int) ∈ zTb := zz_in 508 (by decide +kernel) rfl
theorem wq_509 : Cond.methodLink "MemberChooser$KeptCalls" 32 ⟨"MemberChooser$KeptCalls", "letGoFirst", "()V"⟩ ∈ zTb := zz_in 509 (by decide +kernel) rfl
theorem wq_511 : Cond.instanceMethod ⟨"MemberChooser$KeptCalls", "letGoFirst", "()V"⟩ ∈ zTb := zz_in 511 (by decide +kernel) rfl
theorem wq_512 : Cond.code ⟨"MemberChooser$KeptCalls", "letGoFirst", "()V"⟩ prog_3_method_6_code 2 (Option.none : Option Jvm.ClassFile.FieldType) ∈ zTb := zz_in 512 (by decide +kernel) rfl
theorem wq_513 : Cond.classLink "MemberChooser" 135 "java/lang/ArithmeticException" ∈ zTb := zz_in 513 (by decide +kernel) rfl
theorem wq_514 : Cond.instantiable "java/lang/ArithmeticException" 6 ∈ zTb := zz_in 514 (by decide +kernel) rfl
theorem wq_529 : Cond.classLink "MemberChooser" 140 "java/util/NoSuchElementException" ∈ zTb := zz_in 529 (by decide +kernel) rfl
theorem wq_530 : Cond.instantiable "java/util/NoSuchElementException" 6 ∈ zTb := zz_in 530 (by decide +kernel) rfl
theorem wq_550 : Cond.methodLink "MemberChooserModel" 1 ⟨"java/lang/Object", "<init>", "()V"⟩ ∈ zTb := zz_in 550 (by decide +kernel) rfl
theorem wq_551 : Cond.fieldLink "MemberChooserModel" 73 "MemberChooserModel" "thrown" "I" ∈ zTb := zz_in 551 (by decide +kernel) rfl
theorem wq_552 : Cond.fieldLink "MemberChooserModel" 9 "MemberChooserModel" "types" "I" ∈ zTb := zz_in 552 (by decide +kernel) rfl
theorem wq_553 : Cond.fieldLink "MemberChooserModel" 13 "MemberChooserModel" "isFace" "[Z" ∈ zTb := zz_in 553 (by decide +kernel) rfl
theorem wq_554 : Cond.fieldLink "MemberChooserModel" 17 "MemberChooserModel" "above" "[I" ∈ zTb := zz_in 554 (by decide +kernel) rfl
theorem wq_555 : Cond.fieldLink "MemberChooserModel" 21 "MemberChooserModel" "faceMany" "[I" ∈ zTb := zz_in 555 (by decide +kernel) rfl
theorem wq_556 : Cond.fieldLink "MemberChooserModel" 24 "MemberChooserModel" "faces" "[I" ∈ zTb := zz_in 556 (by decide +kernel) rfl
theorem wq_557 : Cond.fieldLink "MemberChooserModel" 104 "MemberChooserModel" "members" "I" ∈ zTb := zz_in 557 (by decide +kernel) rfl
theorem wq_558 : Cond.fieldLink "MemberChooserModel" 27 "MemberChooserModel" "owner" "[I" ∈ zTb := zz_in 558 (by decide +kernel) rfl
theorem wq_559 : Cond.fieldLink "MemberChooserModel" 30 "MemberChooserModel" "nameOf" "[I" ∈ zTb := zz_in 559 (by decide +kernel) rfl
theorem wq_560 : Cond.fieldLink "MemberChooserModel" 33 "MemberChooserModel" "many" "[I" ∈ zTb := zz_in 560 (by decide +kernel) rfl
theorem wq_561 : Cond.fieldLink "MemberChooserModel" 36 "MemberChooserModel" "parameter" "[I" ∈ zTb := zz_in 561 (by decide +kernel) rfl
theorem wq_562 : Cond.fieldLink "MemberChooserModel" 39 "MemberChooserModel" "isVariable" "[Z" ∈ zTb := zz_in 562 (by decide +kernel) rfl
theorem wq_563 : Cond.fieldLink "MemberChooserModel" 95 "MemberChooserModel" "kept" "I" ∈ zTb := zz_in 563 (by decide +kernel) rfl
theorem wq_564 : Cond.fieldLink "MemberChooserModel" 42 "MemberChooserModel" "keptType" "[I" ∈ zTb := zz_in 564 (by decide +kernel) rfl
theorem wq_565 : Cond.fieldLink "MemberChooserModel" 45 "MemberChooserModel" "keptName" "[I" ∈ zTb := zz_in 565 (by decide +kernel) rfl
theorem wq_566 : Cond.fieldLink "MemberChooserModel" 48 "MemberChooserModel" "keptMany" "[I" ∈ zTb := zz_in 566 (by decide +kernel) rfl
theorem wq_567 : Cond.fieldLink "MemberChooserModel" 51 "MemberChooserModel" "keptClasses" "[J" ∈ zTb := zz_in 567 (by decide +kernel) rfl
theorem wq_568 : Cond.fieldLink "MemberChooserModel" 55 "MemberChooserModel" "keptAnswer" "[I" ∈ zTb := zz_in 568 (by decide +kernel) rfl
theorem wq_569 : Cond.fieldLink "MemberChooserModel" 160 "MemberChooserModel" "worked" "I" ∈ zTb := zz_in 569 (by decide +kernel) rfl
theorem wq_570 : Cond.fieldLink "MemberChooserModel" 153 "MemberChooserModel" "had" "I" ∈ zTb := zz_in 570 (by decide +kernel) rfl
theorem wq_571 : Cond.fieldLink "MemberChooserModel" 143 "MemberChooserModel" "phase" "I" ∈ zTb := zz_in 571 (by decide +kernel) rfl
theorem wq_572 : Cond.fieldLink "MemberChooserModel" 58 "MemberChooserModel" "line" "[I" ∈ zTb := zz_in 572 (by decide +kernel) rfl
theorem wq_573 : Cond.fieldLink "MemberChooserModel" 114 "MemberChooserModel" "lineMany" "I" ∈ zTb := zz_in 573 (by decide +kernel) rfl
theorem wq_574 : Cond.fieldLink "MemberChooserModel" 61 "MemberChooserModel" "meant" "[I" ∈ zTb := zz_in 574 (by decide +kernel) rfl
theorem wq_575 : Cond.fieldLink "MemberChooserModel" 126 "MemberChooserModel" "meantMany" "I" ∈ zTb := zz_in 575 (by decide +kernel) rfl
theorem wq_576 : Cond.fieldLink "MemberChooserModel" 64 "MemberChooserModel" "value" "[I" ∈ zTb := zz_in 576 (by decide +kernel) rfl
theorem wq_577 : Cond.fieldLink "MemberChooserModel" 67 "MemberChooserModel" "isOver" "[Z" ∈ zTb := zz_in 577 (by decide +kernel) rfl
theorem wq_578 : Cond.fieldLink "MemberChooserModel" 70 "MemberChooserModel" "pile" "[I" ∈ zTb := zz_in 578 (by decide +kernel) rfl
theorem wq_644 : Cond.methodLink "MemberChooserModel" 76 ⟨"MemberChooserModel", "isOwn", "(I)Z"⟩ ∈ zTb := zz_in 644 (by decide +kernel) rfl
theorem wq_646 : Cond.instanceMethod ⟨"MemberChooserModel", "isOwn", "(I)Z"⟩ ∈ zTb := zz_in 646 (by decide +kernel) rfl
theorem wq_647 : Cond.code ⟨"MemberChooserModel", "isOwn", "(I)Z"⟩ prog_7_method_3_code 2 (Option.some .boolean) ∈ zTb := zz_in 647 (by decide +kernel) rfl
theorem wq_648 : Cond.methodLink "MemberChooserModel" 80 ⟨"MemberChooserModel", "add", "(ZI)I"⟩ ∈ zTb := zz_in 648 (by decide +kernel) rfl
theorem wq_650 : Cond.instanceMethod ⟨"MemberChooserModel", "add", "(ZI)I"⟩ ∈ zTb := zz_in 650 (by decide +kernel) rfl
theorem wq_651 : Cond.code ⟨"MemberChooserModel", "add", "(ZI)I"⟩ prog_7_method_5_code 3 (Option.some .int) ∈ zTb := zz_in 651 (by decide +kernel) rfl
theorem wq_660 : Cond.methodLink "MemberChooserModel" 88 ⟨"MemberChooserModel", "isType", "(I)Z"⟩ ∈ zTb := zz_in 660 (by decide +kernel) rfl
theorem wq_662 : Cond.instanceMethod ⟨"MemberChooserModel", "isType", "(I)Z"⟩ ∈ zTb := zz_in 662 (by decide +kernel) rfl
theorem wq_663 : Cond.code ⟨"MemberChooserModel", "isType", "(I)Z"⟩ prog_7_method_4_code 2 (Option.some .boolean) ∈ zTb := zz_in 663 (by decide +kernel) rfl
theorem wq_664 : Cond.methodLink "MemberChooserModel" 91 ⟨"MemberChooserModel", "isUnder", "(II)Z"⟩ ∈ zTb := zz_in 664 (by decide +kernel) rfl
theorem wq_666 : Cond.instanceMethod ⟨"MemberChooserModel", "isUnder", "(II)Z"⟩ ∈ zTb := zz_in 666 (by decide +kernel) rfl
theorem wq_667 : Cond.code ⟨"MemberChooserModel", "isUnder", "(II)Z"⟩ prog_7_method_9_code 3 (Option.some .boolean) ∈ zTb := zz_in 667 (by decide +kernel) rfl
theorem wq_668 : Cond.methodLink "MemberChooserModel" 84 ⟨"MemberChooserModel", "mark", "(I)V"⟩ ∈ zTb := zz_in 668 (by decide +kernel) rfl
theorem wq_670 : Cond.instanceMethod ⟨"MemberChooserModel", "mark", "(I)V"⟩ ∈ zTb := zz_in 670 (by decide +kernel) rfl
theorem wq_671 : Cond.code ⟨"MemberChooserModel", "mark", "(I)V"⟩ prog_7_method_8_code 5 (Option.none : Option Jvm.ClassFile.FieldType) ∈ zTb := zz_in 671 (by decide +kernel) rfl
theorem wq_680 : Cond.methodLink "MemberChooserModel" 100 ⟨"MemberChooserModel", "byteOf", "(JI)I"⟩ ∈ zTb := zz_in 680 (by decide +kernel) rfl
theorem wq_681 : Cond.static ⟨"MemberChooserModel", "byteOf", "(JI)I"⟩ ∈ zTb := zz_in 681 (by decide +kernel) rfl
theorem wq_682 : Cond.code ⟨"MemberChooserModel", "byteOf", "(JI)I"⟩ prog_7_method_12_code 3 (Option.some .int) ∈ zTb := zz_in 682 (by decide +kernel) rfl
theorem wq_683 : Cond.constantLong "MemberChooserModel" 98 255 ∈ zTb := zz_in 683 (by decide +kernel) rfl
theorem wq_684 : Cond.methodLink "MemberChooserModel" 107 ⟨"MemberChooserModel", "letGo", "(I)V"⟩ ∈ zTb := zz_in 684 (by decide +kernel) rfl
theorem wq_686 : Cond.instanceMethod ⟨"MemberChooserModel", "letGo", "(I)V"⟩ ∈ zTb := zz_in 686 (by decide +kernel) rfl
theorem wq_687 : Cond.code ⟨"MemberChooserModel", "letGo", "(I)V"⟩ prog_7_method_15_code 4 (Option.none : Option Jvm.ClassFile.FieldType) ∈ zTb := zz_in 687 (by decide +kernel) rfl
theorem wq_688 : Cond.methodLink "MemberChooserModel" 110 ⟨"MemberChooserModel", "move", "(II)V"⟩ ∈ zTb := zz_in 688 (by decide +kernel) rfl
theorem wq_690 : Cond.instanceMethod ⟨"MemberChooserModel", "move", "(II)V"⟩ ∈ zTb := zz_in 690 (by decide +kernel) rfl
theorem wq_691 : Cond.code ⟨"MemberChooserModel", "move", "(II)V"⟩ prog_7_method_16_code 3 (Option.none : Option Jvm.ClassFile.FieldType) ∈ zTb := zz_in 691 (by decide +kernel) rfl
theorem wq_696 : Cond.methodLink "MemberChooserModel" 132 ⟨"MemberChooserModel", "means", "(II)V"⟩ ∈ zTb := zz_in 696 (by decide +kernel) rfl
theorem wq_698 : Cond.instanceMethod ⟨"MemberChooserModel", "means", "(II)V"⟩ ∈ zTb := zz_in 698 (by decide +kernel) rfl
theorem wq_699 : Cond.code ⟨"MemberChooserModel", "means", "(II)V"⟩ prog_7_method_20_code 7 (Option.none : Option Jvm.ClassFile.FieldType) ∈ zTb := zz_in 699 (by decide +kernel) rfl
theorem wq_700 : Cond.methodLink "MemberChooserModel" 123 ⟨"MemberChooserModel", "lineUp", "(I)V"⟩ ∈ zTb := zz_in 700 (by decide +kernel) rfl
theorem wq_702 : Cond.instanceMethod ⟨"MemberChooserModel", "lineUp", "(I)V"⟩ ∈ zTb := zz_in 702 (by decide +kernel) rfl
theorem wq_703 : Cond.code ⟨"MemberChooserModel", "lineUp", "(I)V"⟩ prog_7_method_19_code 4 (Option.none : Option Jvm.ClassFile.FieldType) ∈ zTb := zz_in 703 (by decide +kernel) rfl
theorem wq_704 : Cond.methodLink "MemberChooserModel" 120 ⟨"MemberChooserModel", "standFaces", "(I)V"⟩ ∈ zTb := zz_in 704 (by decide +kernel) rfl
theorem wq_706 : Cond.instanceMethod ⟨"MemberChooserModel", "standFaces", "(I)V"⟩ ∈ zTb := zz_in 706 (by decide +kernel) rfl
theorem wq_707 : Cond.code ⟨"MemberChooserModel", "standFaces", "(I)V"⟩ prog_7_method_18_code 5 (Option.none : Option Jvm.ClassFile.FieldType) ∈ zTb := zz_in 707 (by decide +kernel) rfl
theorem wq_708 : Cond.methodLink "MemberChooserModel" 117 ⟨"MemberChooserModel", "stand", "(I)Z"⟩ ∈ zTb := zz_in 708 (by decide +kernel) rfl
theorem wq_710 : Cond.instanceMethod ⟨"MemberChooserModel", "stand", "(I)Z"⟩ ∈ zTb := zz_in 710 (by decide +kernel) rfl
theorem wq_711 : Cond.code ⟨"MemberChooserModel", "stand", "(I)Z"⟩ prog_7_method_17_code 3 (Option.some .boolean) ∈ zTb := zz_in 711 (by decide +kernel) rfl
theorem wq_712 : Cond.methodLink "MemberChooserModel" 129 ⟨"MemberChooserModel", "areSame", "(II)Z"⟩ ∈ zTb := zz_in 712 (by decide +kernel) rfl
theorem wq_714 : Cond.instanceMethod ⟨"MemberChooserModel", "areSame", "(II)Z"⟩ ∈ zTb := zz_in 714 (by decide +kernel) rfl
theorem wq_715 : Cond.code ⟨"MemberChooserModel", "areSame", "(II)Z"⟩ prog_7_method_13_code 5 (Option.some .boolean) ∈ zTb := zz_in 715 (by decide +kernel) rfl
theorem wq_720 : Cond.methodLink "MemberChooserModel" 156 ⟨"MemberChooserModel", "workOut", "(III)I"⟩ ∈ zTb := zz_in 720 (by decide +kernel) rfl
theorem wq_722 : Cond.instanceMethod ⟨"MemberChooserModel", "workOut", "(III)I"⟩ ∈ zTb := zz_in 722 (by decide +kernel) rfl
theorem wq_723 : Cond.code ⟨"MemberChooserModel", "workOut", "(III)I"⟩ prog_7_method_26_code 10 (Option.some .int) ∈ zTb := zz_in 723 (by decide +kernel) rfl
theorem wq_724 : Cond.methodLink "MemberChooserModel" 146 ⟨"MemberChooserModel", "fits", "(III)Z"⟩ ∈ zTb := zz_in 724 (by decide +kernel) rfl
theorem wq_726 : Cond.instanceMethod ⟨"MemberChooserModel", "fits", "(III)Z"⟩ ∈ zTb := zz_in 726 (by decide +kernel) rfl
theorem wq_727 : Cond.code ⟨"MemberChooserModel", "fits", "(III)Z"⟩ prog_7_method_23_code 7 (Option.some .boolean) ∈ zTb := zz_in 727 (by decide +kernel) rfl
theorem wq_728 : Cond.methodLink "MemberChooserModel" 135 ⟨"MemberChooserModel", "parameterAt", "(II)I"⟩ ∈ zTb := zz_in 728 (by decide +kernel) rfl
theorem wq_730 : Cond.instanceMethod ⟨"MemberChooserModel", "parameterAt", "(II)I"⟩ ∈ zTb := zz_in 730 (by decide +kernel) rfl
theorem wq_731 : Cond.code ⟨"MemberChooserModel", "parameterAt", "(II)I"⟩ prog_7_method_24_code 3 (Option.some .int) ∈ zTb := zz_in 731 (by decide +kernel) rfl
theorem wq_732 : Cond.methodLink "MemberChooserModel" 139 ⟨"MemberChooserModel", "goes", "(IIZ)Z"⟩ ∈ zTb := zz_in 732 (by decide +kernel) rfl
theorem wq_734 : Cond.instanceMethod ⟨"MemberChooserModel", "goes", "(IIZ)Z"⟩ ∈ zTb := zz_in 734 (by decide +kernel) rfl
theorem wq_735 : Cond.code ⟨"MemberChooserModel", "goes", "(IIZ)Z"⟩ prog_7_method_22_code 4 (Option.some .boolean) ∈ zTb := zz_in 735 (by decide +kernel) rfl
theorem wq_736 : Cond.methodLink "MemberChooserModel" 150 ⟨"MemberChooserModel", "isCloser", "(II)Z"⟩ ∈ zTb := zz_in 736 (by decide +kernel) rfl
theorem wq_738 : Cond.instanceMethod ⟨"MemberChooserModel", "isCloser", "(II)Z"⟩ ∈ zTb := zz_in 738 (by decide +kernel) rfl
theorem wq_739 : Cond.code ⟨"MemberChooserModel", "isCloser", "(II)Z"⟩ prog_7_method_25_code 6 (Option.some .boolean) ∈ zTb := zz_in 739 (by decide +kernel) rfl
theorem wq_740 : Cond.methodLink "MemberChooserModel" 163 ⟨"MemberChooserModel", "keep", "(IIIJI)V"⟩ ∈ zTb := zz_in 740 (by decide +kernel) rfl
theorem wq_742 : Cond.instanceMethod ⟨"MemberChooserModel", "keep", "(IIIJI)V"⟩ ∈ zTb := zz_in 742 (by decide +kernel) rfl
theorem wq_743 : Cond.code ⟨"MemberChooserModel", "keep", "(IIIJI)V"⟩ prog_7_method_28_code 8 (Option.none : Option Jvm.ClassFile.FieldType) ∈ zTb := zz_in 743 (by decide +kernel) rfl
theorem wp_0 : Cond.selects "MemberChooser$Types" ⟨"MemberChooser$Types", "hasFace", "(II)Z"⟩ ⟨"MemberChooser$Types", "hasFace", "(II)Z"⟩ ∈ zTb := zz_inp 0 (by decide +kernel) rfl
theorem wp_1 : Cond.selects "MemberChooser$Types" ⟨"MemberChooser$Types", "raiseAllBelow", "(II)V"⟩ ⟨"MemberChooser$Types", "raiseAllBelow", "(II)V"⟩ ∈ zTb := zz_inp 1 (by decide +kernel) rfl
theorem wp_2 : Cond.selects "MemberChooser$Chooser" ⟨"MemberChooser$Chooser", "gatherMeant", "(II)V"⟩ ⟨"MemberChooser$Chooser", "gatherMeant", "(II)V"⟩ ∈ zTb := zz_inp 2 (by decide +kernel) rfl
theorem wp_3 : Cond.selects "MemberChooser$Chooser" ⟨"MemberChooser$Chooser", "appendMembers", "(II)V"⟩ ⟨"MemberChooser$Chooser", "appendMembers", "(II)V"⟩ ∈ zTb := zz_inp 3 (by decide +kernel) rfl
theorem wp_4 : Cond.selects "MemberChooser$Chooser" ⟨"MemberChooser$Chooser", "isHidden", "(I)Z"⟩ ⟨"MemberChooser$Chooser", "isHidden", "(I)Z"⟩ ∈ zTb := zz_inp 4 (by decide +kernel) rfl
theorem wp_6 : Cond.selects "MemberChooser" ⟨"MemberChooser", "areParameters", "(IJ)Z"⟩ ⟨"MemberChooser", "areParameters", "(IJ)Z"⟩ ∈ zTb := zz_inp 6 (by decide +kernel) rfl
theorem wp_7 : Cond.selects "MemberChooser$KeptCalls" ⟨"MemberChooser$KeptCalls", "move", "(II)V"⟩ ⟨"MemberChooser$KeptCalls", "move", "(II)V"⟩ ∈ zTb := zz_inp 7 (by decide +kernel) rfl
theorem wp_8 : Cond.selects "MemberChooser" ⟨"MemberChooser", "areValues", "(IJ)Z"⟩ ⟨"MemberChooser", "areValues", "(IJ)Z"⟩ ∈ zTb := zz_inp 8 (by decide +kernel) rfl
theorem wp_9 : Cond.selects "MemberChooser" ⟨"MemberChooser", "isValue", "(I)Z"⟩ ⟨"MemberChooser", "isValue", "(I)Z"⟩ ∈ zTb := zz_inp 9 (by decide +kernel) rfl
theorem wp_10 : Cond.selects "MemberChooser$Chooser" ⟨"MemberChooser$Chooser", "gatherFitting", "(IJ)V"⟩ ⟨"MemberChooser$Chooser", "gatherFitting", "(IJ)V"⟩ ∈ zTb := zz_inp 10 (by decide +kernel) rfl
theorem wp_11 : Cond.selects "MemberChooser$Chooser" ⟨"MemberChooser$Chooser", "fits", "(IIJ)Z"⟩ ⟨"MemberChooser$Chooser", "fits", "(IIJ)Z"⟩ ∈ zTb := zz_inp 11 (by decide +kernel) rfl
theorem wp_12 : Cond.selects "MemberChooser$Chooser" ⟨"MemberChooser$Chooser", "takesSoMany", "(II)Z"⟩ ⟨"MemberChooser$Chooser", "takesSoMany", "(II)Z"⟩ ∈ zTb := zz_inp 12 (by decide +kernel) rfl
theorem wp_13 : Cond.selects "MemberChooser$Chooser" ⟨"MemberChooser$Chooser", "goesTo", "(II)Z"⟩ ⟨"MemberChooser$Chooser", "goesTo", "(II)Z"⟩ ∈ zTb := zz_inp 13 (by decide +kernel) rfl
theorem wp_14 : Cond.selects "MemberChooser$Chooser" ⟨"MemberChooser$Chooser", "mostSpecific", "()I"⟩ ⟨"MemberChooser$Chooser", "mostSpecific", "()I"⟩ ∈ zTb := zz_inp 14 (by decide +kernel) rfl
theorem wp_15 : Cond.selects "MemberChooser$Chooser" ⟨"MemberChooser$Chooser", "isMoreSpecificThanAll", "(I)Z"⟩ ⟨"MemberChooser$Chooser", "isMoreSpecificThanAll", "(I)Z"⟩ ∈ zTb := zz_inp 15 (by decide +kernel) rfl
theorem wp_16 : Cond.selects "MemberChooser$Chooser" ⟨"MemberChooser$Chooser", "isMoreSpecific", "(II)Z"⟩ ⟨"MemberChooser$Chooser", "isMoreSpecific", "(II)Z"⟩ ∈ zTb := zz_inp 16 (by decide +kernel) rfl
theorem wp_17 : Cond.selects "MemberChooser$KeptCalls" ⟨"MemberChooser$KeptCalls", "letGoFirst", "()V"⟩ ⟨"MemberChooser$KeptCalls", "letGoFirst", "()V"⟩ ∈ zTb := zz_inp 17 (by decide +kernel) rfl
theorem wp_18 : Cond.selects "MemberChooserModel" ⟨"MemberChooserModel", "isOwn", "(I)Z"⟩ ⟨"MemberChooserModel", "isOwn", "(I)Z"⟩ ∈ zTb := zz_inp 18 (by decide +kernel) rfl
theorem wp_19 : Cond.selects "MemberChooserModel" ⟨"MemberChooserModel", "add", "(ZI)I"⟩ ⟨"MemberChooserModel", "add", "(ZI)I"⟩ ∈ zTb := zz_inp 19 (by decide +kernel) rfl
theorem wp_20 : Cond.selects "MemberChooserModel" ⟨"MemberChooserModel", "isType", "(I)Z"⟩ ⟨"MemberChooserModel", "isType", "(I)Z"⟩ ∈ zTb := zz_inp 20 (by decide +kernel) rfl
theorem wp_21 : Cond.selects "MemberChooserModel" ⟨"MemberChooserModel", "isUnder", "(II)Z"⟩ ⟨"MemberChooserModel", "isUnder", "(II)Z"⟩ ∈ zTb := zz_inp 21 (by decide +kernel) rfl
theorem wp_22 : Cond.selects "MemberChooserModel" ⟨"MemberChooserModel", "mark", "(I)V"⟩ ⟨"MemberChooserModel", "mark", "(I)V"⟩ ∈ zTb := zz_inp 22 (by decide +kernel) rfl
theorem wp_23 : Cond.selects "MemberChooserModel" ⟨"MemberChooserModel", "letGo", "(I)V"⟩ ⟨"MemberChooserModel", "letGo", "(I)V"⟩ ∈ zTb := zz_inp 23 (by decide +kernel) rfl
theorem wp_24 : Cond.selects "MemberChooserModel" ⟨"MemberChooserModel", "move", "(II)V"⟩ ⟨"MemberChooserModel", "move", "(II)V"⟩ ∈ zTb := zz_inp 24 (by decide +kernel) rfl
theorem wp_25 : Cond.selects "MemberChooserModel" ⟨"MemberChooserModel", "means", "(II)V"⟩ ⟨"MemberChooserModel", "means", "(II)V"⟩ ∈ zTb := zz_inp 25 (by decide +kernel) rfl
theorem wp_26 : Cond.selects "MemberChooserModel" ⟨"MemberChooserModel", "lineUp", "(I)V"⟩ ⟨"MemberChooserModel", "lineUp", "(I)V"⟩ ∈ zTb := zz_inp 26 (by decide +kernel) rfl
theorem wp_27 : Cond.selects "MemberChooserModel" ⟨"MemberChooserModel", "standFaces", "(I)V"⟩ ⟨"MemberChooserModel", "standFaces", "(I)V"⟩ ∈ zTb := zz_inp 27 (by decide +kernel) rfl
theorem wp_28 : Cond.selects "MemberChooserModel" ⟨"MemberChooserModel", "stand", "(I)Z"⟩ ⟨"MemberChooserModel", "stand", "(I)Z"⟩ ∈ zTb := zz_inp 28 (by decide +kernel) rfl
theorem wp_29 : Cond.selects "MemberChooserModel" ⟨"MemberChooserModel", "areSame", "(II)Z"⟩ ⟨"MemberChooserModel", "areSame", "(II)Z"⟩ ∈ zTb := zz_inp 29 (by decide +kernel) rfl
theorem wp_30 : Cond.selects "MemberChooserModel" ⟨"MemberChooserModel", "workOut", "(III)I"⟩ ⟨"MemberChooserModel", "workOut", "(III)I"⟩ ∈ zTb := zz_inp 30 (by decide +kernel) rfl
theorem wp_31 : Cond.selects "MemberChooserModel" ⟨"MemberChooserModel", "fits", "(III)Z"⟩ ⟨"MemberChooserModel", "fits", "(III)Z"⟩ ∈ zTb := zz_inp 31 (by decide +kernel) rfl
theorem wp_32 : Cond.selects "MemberChooserModel" ⟨"MemberChooserModel", "parameterAt", "(II)I"⟩ ⟨"MemberChooserModel", "parameterAt", "(II)I"⟩ ∈ zTb := zz_inp 32 (by decide +kernel) rfl
theorem wp_33 : Cond.selects "MemberChooserModel" ⟨"MemberChooserModel", "goes", "(IIZ)Z"⟩ ⟨"MemberChooserModel", "goes", "(IIZ)Z"⟩ ∈ zTb := zz_inp 33 (by decide +kernel) rfl
theorem wp_34 : Cond.selects "MemberChooserModel" ⟨"MemberChooserModel", "isCloser", "(II)Z"⟩ ⟨"MemberChooserModel", "isCloser", "(II)Z"⟩ ∈ zTb := zz_inp 34 (by decide +kernel) rfl
theorem wp_35 : Cond.selects "MemberChooserModel" ⟨"MemberChooserModel", "keep", "(IIIJI)V"⟩ ⟨"MemberChooserModel", "keep", "(IIIJI)V"⟩ ∈ zTb := zz_inp 35 (by decide +kernel) rfl
end
section
/-! OWN LAYER, the machine's side: one environment z (class numbers, field slots, the array classes), the nest words, contracts with a given answer and a given world behind -/
abbrev zE : Type := va_G × ClassId × ClassId × ClassId × ClassId
abbrev zI (z : zE) : ClassId := z.2.1
abbrev zZ (z : zE) : ClassId := z.2.2.1
abbrev zL (z : zE) : ClassId := z.2.2.2.1
abbrev zG (z : zE) : ClassId := z.2.2.2.2
def zty (z : zE) : List (ClassId × FieldType) := [(zI z, .int), (zZ z, .boolean), (zL z, .long), (zG z, .array .int)]
def zN (U : State) : Prop := (∀ (k : Nat) (q : String × Nat × String × String × String), zNf[k]? = some q → va_Nw (.fieldLinkNest q.1 q.2.1 q.2.2.1 q.2.2.2.1 q.2.2.2.2 "MemberChooser") U) ∧ ∀ (k : Nat) (q : String × Nat × MethodName), zNm[k]? = some q → va_Nw (.methodLinkNest q.1 q.2.1 q.2.2 "MemberChooser") U
theorem zN.warm {s U : State} (h : zN s) (hW : s.WarmedH U.vm) : zN U := ⟨fun k q hq => va_Nw.warmF hW (h.1 k q hq), fun k q hq => va_Nw.warmM hW (h.2 k q hq)⟩
theorem zN.same {s U : State} (h : zN s) (hv : s.vm = U.vm) : zN U := ⟨fun k q hq => va_Nw.same rfl hv (h.1 k q hq), fun k q hq => va_Nw.same rfl hv (h.2 k q hq)⟩
theorem zz_nf {s : State} {args : Array Value} (h : zN s) (k : Nat) {a : String} {i : Nat} {b n d : String} (hk : zNf[k]? = some (a, i, b, n, d)) : (Cond.fieldLinkNest a i b n d "MemberChooser").before args s = true := va_Nw.use rfl (h.1 k _ hk)
/-- what every walk stands on -/
def zM (z : zE) (p : Program) (s : State) (m : MethodId) (args : Array Value) (c : Code) (cc : ByteArray) (nL : Nat) (own : String) : Prop :=
  p.tables.exec = Jvm.exec ∧ c.code = cc ∧ c.maxLocals = nL ∧ s.vm.findClass own = some m.cls ∧ (∀ w ∈ zTb, w.before args s = true) ∧ va_K z.1 vwCl (zty z) s ∧ zN s
def zPc (z : zE) (av : List Value) (w : va_W) (sz : Nat) : Array Value → State → Prop := va_Pc av (fun U => U.heap.size = sz ∧ va_P z.1 vwCl w U.heap ∧ (va_K z.1 vwCl (zty z) U ∧ zN U) ∧ va_D (fun _ => True) w)
/-- the end: the answer, the world behind it -/
def zQc (z : zE) (A : Nat → Prop) (v : Option Value) (w' : va_W) : Array Value → State → Outcome → State → Prop := fun _ st oc t => (oc = .returned v ∧ va_P z.1 vwCl w' t.heap ∧ va_D A w') ∧ va_F A st t
abbrev zQ (z : zE) (below : List Frame) (args : Array Value) (s : State) (A : Nat → Prop) (v : Option Value) (w' : va_W) : State → Prop := MQ below (zQc z A v w') args s 0 0 A
def zC (z : zE) (l : Launch) (y : MethodName) (ws : List Cond) (rm : Room) (av : List Value) (w : va_W) (v : Option Value) (w' : va_W) : Prop :=
  ∀ sz : Nat, Met l y ws rm (zPc z av w sz) (zQc z (va_A w sz) v w') 0 0 (va_A w sz)
theorem zz_blind {z : zE} {av : List Value} {w : va_W} {sz : Nat} : FrameBlind (zPc z av w sz) := fun a U g mk q => by
  obtain ⟨q0, q1, qP, ⟨qK, qN⟩, qD⟩ := q
  exact ⟨q0, q1, qP, ⟨va_K.moved (u := U) (U := U.calling g mk a) (Vm.Alike.refl U.vm) qK, zN.same qN rfl⟩, qD⟩
theorem zz_of {z : zE} {l : Launch} {y : MethodName} {cc : ByteArray} {maxL : Nat} {ret : Option FieldType} {rm : Room} {av : List Value} {w w' : va_W} {v : Option Value} (hy : plainName y.cls = true) (hnl : (lg_sl av).length ≤ maxL)
    (body : ∀ (p : Program) (e : Env) (s : State) (m : MethodId) (args : Array Value) (below : List Frame) (meth : Method) (c : Code) (A0 : Nat → Prop) (ls : Array Slot), zM z p s m args c cc maxL y.cls → meth.sig.returnType = ret → meth.locks = false → (∀ q : Nat, s.heap.size ≤ q → A0 q) →
      va_P z.1 vwCl w s.heap → va_D A0 w → lv_has ls maxL (lv_args 0 av) → W p l e rm s m args below meth c s.heap [] 0 0 (zQ z below args s A0 v w') (F0 m 0 ls [])) : zC z l y (Cond.code y cc maxL ret :: zTb) rm av w v w' := by
  intro sz
  refine Met.ofW (cc := cc) (maxL := maxL) (ret := ret) hy rfl ?_
  intro p e s m args below meth c s₁ B hml hv
  obtain ⟨rfl, hsz, hP, ⟨hK, hN⟩, hD0⟩ := hv
  have hts := atoms_spec (ws := Cond.code y cc maxL ret :: zTb) B.pre
  have hown : s.vm.findClass y.cls = some m.cls := findClass_of_methodNamed B.named
  subst hsz
  have hl := lv_entry av (n := maxL) hnl
  rw [lg_entry_eq]
  exact body p e s m _ below meth c _ _ ⟨B.exec, B.bytes, hml, hown, fun w h => hts w (List.mem_cons_of_mem _ h), hK, hN⟩ B.returns B.notSynchronized (fun q h => Or.inr h) hP (hD0.self (sz := s.heap.size)) hl
section ZZW
variable {z : zE} {p : Program} {l : Launch} {e : Env} {R : Room} {s : State} {m : MethodId} {args : Array Value} {below : List Frame} {meth : Method} {c : Code} {H : Heap} {locs : List Loc} {Q : State → Prop} {cc : ByteArray} {A0 : Nat → Prop} {pc : Nat} {ls : Array Slot} {w w' : va_W}
theorem zz_vret {σ : Type} {S S' : σ} (wf : σ → va_W) (hx : p.tables.exec = Jvm.exec) (hb : c.code = cc) (hr : meth.sig.returnType = none) (hlocks : meth.locks = false) (hP : va_P z.1 vwCl (wf S) H) (hD : va_D A0 (wf S)) (hS : va_S A0 s.heap H locs) (h : some S = some S') (hdg : decode cc pc = .ok (.return_, 1)) :
    W p l e R s m args below meth c H locs 0 0 (zQ z below args s A0 none (wf S')) (F0 m pc ls []) := by
  cases h
  exact W.vret hx hb hr (fun t ht hW => ⟨⟨rfl, by rw [ht]; exact hP, hD⟩, hS.F ht⟩) hS.2.2 hdg hlocks
theorem zz_iret {σ : Type} {S S' : σ} {v r0 : Int32} (wf : σ → va_W) (hx : p.tables.exec = Jvm.exec) (hb : c.code = cc) (hr : meth.sig.returnType = some .int) (hlocks : meth.locks = false) (hP : va_P z.1 vwCl (wf S) H) (hD : va_D A0 (wf S)) (hS : va_S A0 s.heap H locs) (h : some (v, S) = some (r0, S')) (hdg : decode cc pc = .ok (.ireturn, 1)) :
    W p l e R s m args below meth c H locs 0 0 (zQ z below args s A0 (some (.int r0)) (wf S')) (F0 m pc ls [.int v]) := by
  cases h
  exact W.iret hx hb hr (fun t ht hW => ⟨⟨rfl, by rw [ht]; exact hP, hD⟩, hS.F ht⟩) hS.2.2 hdg hlocks
theorem zz_zret {σ : Type} {S S' : σ} {v r0 : Int32} (wf : σ → va_W) (hx : p.tables.exec = Jvm.exec) (hb : c.code = cc) (hr : meth.sig.returnType = some .boolean) (hlocks : meth.locks = false) (hP : va_P z.1 vwCl (wf S) H) (hD : va_D A0 (wf S)) (hS : va_S A0 s.heap H locs) (hn : narrow .boolean (.int v) = .int v) (h : some (v, S) = some (r0, S')) (hdg : decode cc pc = .ok (.ireturn, 1)) :
    W p l e R s m args below meth c H locs 0 0 (zQ z below args s A0 (some (.int r0)) (wf S')) (F0 m pc ls [.int v]) := by
  cases h
  exact W.zret hx hb hr hn (fun t ht hW => ⟨⟨rfl, by rw [ht]; exact hP, hD⟩, hS.F ht⟩) hS.2.2 hdg hlocks
theorem zz_lretG {v r0 : Int64} (hx : p.tables.exec = Jvm.exec) (hb : c.code = cc) (hr : meth.sig.returnType = some .long) (hlocks : meth.locks = false) (hP : va_P z.1 vwCl w H) (hD : va_D A0 w) (hS : va_S A0 s.heap H locs) (h : some v = some r0) (hdg : decode cc pc = .ok (.lreturn, 1)) :
    W p l e R s m args below meth c H locs 0 0 (zQ z below args s A0 (some (.long r0)) w) (F0 m pc ls [.long v]) := by
  cases h
  exact W.lret hx hb hr (fun t ht hW => ⟨⟨rfl, by rw [ht]; exact hP, hD⟩, hS.F ht⟩) hS.2.2 hdg hlocks
theorem zz_iretG {v r0 : Int32} (hx : p.tables.exec = Jvm.exec) (hb : c.code = cc) (hr : meth.sig.returnType = some .int) (hlocks : meth.locks = false) (hP : va_P z.1 vwCl w H) (hD : va_D A0 w) (hS : va_S A0 s.heap H locs) (h : some v = some r0) (hdg : decode cc pc = .ok (.ireturn, 1)) :
    W p l e R s m args below meth c H locs 0 0 (zQ z below args s A0 (some (.int r0)) w) (F0 m pc ls [.int v]) := by
  cases h
  exact W.iret hx hb hr (fun t ht hW => ⟨⟨rfl, by rw [ht]; exact hP, hD⟩, hS.F ht⟩) hS.2.2 hdg hlocks
theorem zz_zretG {v r0 : Int32} (hx : p.tables.exec = Jvm.exec) (hb : c.code = cc) (hr : meth.sig.returnType = some .boolean) (hlocks : meth.locks = false) (hP : va_P z.1 vwCl w H) (hD : va_D A0 w) (hS : va_S A0 s.heap H locs) (hn : narrow .boolean (.int v) = .int v) (h : some v = some r0) (hdg : decode cc pc = .ok (.ireturn, 1)) :
    W p l e R s m args below meth c H locs 0 0 (zQ z below args s A0 (some (.int r0)) w) (F0 m pc ls [.int v]) := by
  cases h
  exact W.zret hx hb hr hn (fun t ht hW => ⟨⟨rfl, by rw [ht]; exact hP, hD⟩, hS.F ht⟩) hS.2.2 hdg hlocks
/-- behind a call -/
theorem zz_go {H0 : Heap} {v : Option Value} {rest st0 : List Value} {a : Array Value} {cells slots : Nat} (hr : va_Run p l e R s m args below meth c H locs cells slots 0 0 (F0 m pc ls st0) rest (zQc z (va_A w H.size) v w' a) (va_A w H.size)) (hD : va_D A0 w) (hS : va_S A0 H0 H locs) (hA : ∀ q : Nat, H0.size ≤ q → A0 q)
    (kk : ∀ (H1 : Heap) (locs1 : List Loc), va_P z.1 vwCl w' H1 → va_D A0 w' → va_S A0 H0 H1 locs1 → W p l e R s m args below meth c H1 locs1 cells slots Q (F0 m (pc + 3) ls (v.toList ++ rest))) : W p l e R s m args below meth c H locs cells slots Q (F0 m pc ls st0) := by
  have hF : ∀ q : Nat, va_A w H.size q → A0 q := fun q h => by
    rcases h with ⟨k, x, h⟩ | h
    · exact hD.2 k (q, x) h
    · exact hA q (Nat.le_trans hS.1 h)
  intro T hT X
  obtain ⟨v', st₀, t, T', L, h0, X', hL, e1, e2, ⟨⟨hv, hp, hd⟩, hz, hk⟩, st⟩ := hr T hT X
  cases hv
  rw [h0] at hz hk
  obtain ⟨t2, a1, b1⟩ := kk T'.heap (locs ++ L) (by rw [e1]; exact hp) (hd.weaken (fun _ q _ h => hF q.1 h))
    ⟨Nat.le_trans hS.1 (by rw [e1]; exact hz), fun q h1 h2 => by rw [e1, hk q (Nat.lt_of_lt_of_le h1 hS.1) (fun z => h2 (hF q z))]; exact hS.2.1 q h1 h2, fun q hq => by
      rcases List.mem_append.mp hq with h | h
      · exact hS.2.2 q h
      · exact hF _ (hL q h)⟩ T' rfl X'
  exact ⟨t2, st t2 a1, b1⟩
theorem zz_goI {H0 : Heap} {r0 : Int32} {rest st0 : List Value} {a : Array Value} {cells slots : Nat} (hr : va_Run p l e R s m args below meth c H locs cells slots 0 0 (F0 m pc ls st0) rest (zQc z (va_A w H.size) (some (.int r0)) w' a) (va_A w H.size)) (hD : va_D A0 w) (hS : va_S A0 H0 H locs) (hA : ∀ q : Nat, H0.size ≤ q → A0 q)
    (kk : ∀ (H1 : Heap) (locs1 : List Loc), va_P z.1 vwCl w' H1 → va_D A0 w' → va_S A0 H0 H1 locs1 → W p l e R s m args below meth c H1 locs1 cells slots Q (F0 m (pc + 3) ls (.int r0 :: rest))) : W p l e R s m args below meth c H locs cells slots Q (F0 m pc ls st0) := zz_go hr hD hS hA kk
theorem zz_goL {H0 : Heap} {r0 : Int64} {rest st0 : List Value} {a : Array Value} {cells slots : Nat} (hr : va_Run p l e R s m args below meth c H locs cells slots 0 0 (F0 m pc ls st0) rest (zQc z (va_A w H.size) (some (.long r0)) w' a) (va_A w H.size)) (hD : va_D A0 w) (hS : va_S A0 H0 H locs) (hA : ∀ q : Nat, H0.size ≤ q → A0 q)
    (kk : ∀ (H1 : Heap) (locs1 : List Loc), va_P z.1 vwCl w' H1 → va_D A0 w' → va_S A0 H0 H1 locs1 → W p l e R s m args below meth c H1 locs1 cells slots Q (F0 m (pc + 3) ls (.long r0 :: rest))) : W p l e R s m args below meth c H locs cells slots Q (F0 m pc ls st0) := zz_go hr hD hS hA kk
theorem zz_goV {H0 : Heap} {rest st0 : List Value} {a : Array Value} {cells slots : Nat} (hr : va_Run p l e R s m args below meth c H locs cells slots 0 0 (F0 m pc ls st0) rest (zQc z (va_A w H.size) none w' a) (va_A w H.size)) (hD : va_D A0 w) (hS : va_S A0 H0 H locs) (hA : ∀ q : Nat, H0.size ≤ q → A0 q)
    (kk : ∀ (H1 : Heap) (locs1 : List Loc), va_P z.1 vwCl w' H1 → va_D A0 w' → va_S A0 H0 H1 locs1 → W p l e R s m args below meth c H1 locs1 cells slots Q (F0 m (pc + 3) ls rest)) : W p l e R s m args below meth c H locs cells slots Q (F0 m pc ls st0) := zz_go hr hD hS hA kk
theorem zz_pre {w : va_W} {sz : Nat} {av : List Value} (hK : va_K z.1 vwCl (zty z) s) (hN : zN s) (hP : va_P z.1 vwCl w H) (hD : va_D A0 w) (hsz : sz = H.size) : ∀ U : State, U.heap = H → s.WarmedH U.vm → zPc z av w sz av.toArray U :=
  fun U hU hW => ⟨rfl, by rw [hU, hsz], by rw [hU]; exact hP, ⟨va_K.moved hW.alike hK, hN.warm hW⟩, hD.weaken (fun _ _ _ _ => trivial)⟩
variable {y : MethodName} {bytes : ByteArray} {maxL nL n index cells slots : Nat} {ret : Option FieldType} {ws : List Cond} {rm : Room} {Ts : List Cond} {own C host : String} {b : Addr} {As rest st0 : List Value} {v : Option Value}
theorem zz_runV (hM : zC z l y ws rm (.ref b :: As) w v w') (S : CallFix p m c cc nL s args Ts own) (cw : CallW R s args own C index y bytes maxL ret ws rm 0 0 n) (hK : va_K z.1 vwCl (zty z) s) (hN : zN s) (hP : va_P z.1 vwCl w H) (hD : va_D A0 w) (hrecv : ∃ cell : Cell, H[b]? = some cell ∧ cell.vm.isStatics = false ∧ s.vm.findClass C = some cell.cls)
    (hn : As.length = n) (hsize : ls.size = nL) (hstack : st0 = As.reverse ++ .ref b :: rest) (hW : (rest.map fun v => v.category).sum ≤ 8) (hdg : decode cc pc = .ok (.invokevirtual index, 3)) (hf : cells + 0 ≤ R.cells ∧ slots + 0 ≤ R.slots) :
    va_Run p l e R s m args below meth c H locs cells slots 0 0 (F0 m pc ls st0) rest (zQc z (va_A w H.size) v w' (Value.ref b :: As).toArray) (va_A w H.size) :=
  va_runV S (hM H.size) cw ⟨zz_blind, hrecv, zz_pre hK hN hP hD rfl⟩ rfl hn hsize hstack (lv_room hW) hdg hf
theorem zz_runS (hM : zC z l y ws rm As w v w') (S : CallFix p m c cc nL s args Ts own) (cw : CallB R s args own index y bytes maxL ret ws rm 0 0 n ∧ (Cond.static y).before args s = true) (hK : va_K z.1 vwCl (zty z) s) (hN : zN s) (hP : va_P z.1 vwCl w H) (hD : va_D A0 w)
    (hn : As.length = n) (hsize : ls.size = nL) (hstack : st0 = As.reverse ++ rest) (hW : (rest.map fun v => v.category).sum ≤ 8) (hdg : decode cc pc = .ok (.invokestatic index, 3)) (hf : cells + 0 ≤ R.cells ∧ slots + 0 ≤ R.slots) :
    va_Run p l e R s m args below meth c H locs cells slots 0 0 (F0 m pc ls st0) rest (zQc z (va_A w H.size) v w' As.toArray) (va_A w H.size) :=
  va_runS S (hM H.size) cw ⟨zz_blind, zz_pre hK hN hP hD rfl⟩ rfl hn hsize hstack (lv_room hW) hdg hf
theorem zz_runVN (hM : zC z l y ws rm (.ref b :: As) w v w') (S : CallFix p m c cc nL s args Ts own) (cw : va_CN R s args own index y host bytes maxL ret ws rm 0 0 n ∧ (Cond.instanceMethod y).before args s = true ∧ (Cond.selects C y y).before args s = true) (hK : va_K z.1 vwCl (zty z) s) (hN : zN s) (hP : va_P z.1 vwCl w H) (hD : va_D A0 w) (hrecv : ∃ cell : Cell, H[b]? = some cell ∧ cell.vm.isStatics = false ∧ s.vm.findClass C = some cell.cls)
    (hn : As.length = n) (hsize : ls.size = nL) (hstack : st0 = As.reverse ++ .ref b :: rest) (hW : (rest.map fun v => v.category).sum ≤ 8) (hdg : decode cc pc = .ok (.invokevirtual index, 3)) (hf : cells + 0 ≤ R.cells ∧ slots + 0 ≤ R.slots) :
    va_Run p l e R s m args below meth c H locs cells slots 0 0 (F0 m pc ls st0) rest (zQc z (va_A w H.size) v w' (Value.ref b :: As).toArray) (va_A w H.size) :=
  va_runVN S (hM H.size) cw ⟨zz_blind, hrecv, zz_pre hK hN hP hD rfl⟩ rfl hn hsize hstack (lv_room hW) hdg hf
theorem zz_runSN (hM : zC z l y ws rm As w v w') (S : CallFix p m c cc nL s args Ts own) (cw : va_CN R s args own index y host bytes maxL ret ws rm 0 0 n ∧ (Cond.static y).before args s = true ∧ True) (hK : va_K z.1 vwCl (zty z) s) (hN : zN s) (hP : va_P z.1 vwCl w H) (hD : va_D A0 w)
    (hn : As.length = n) (hsize : ls.size = nL) (hstack : st0 = As.reverse ++ rest) (hW : (rest.map fun v => v.category).sum ≤ 8) (hdg : decode cc pc = .ok (.invokestatic index, 3)) (hf : cells + 0 ≤ R.cells ∧ slots + 0 ≤ R.slots) :
    va_Run p l e R s m args below meth c H locs cells slots 0 0 (F0 m pc ls st0) rest (zQc z (va_A w H.size) v w' As.toArray) (va_A w H.size) :=
  va_runSN S (hM H.size) cw ⟨zz_blind, zz_pre hK hN hP hD rfl⟩ rfl hn hsize hstack (lv_room hW) hdg hf
end ZZW
theorem zz_lt {i : Int32} {n : Nat} (h : ¬ zoob i n) : i.toNatClampNeg < n := Nat.not_le.mp fun q => h (Or.inr q)
end
section
abbrev ZCT : Type := (Int32) × (Nat → Int32) × (Nat → Int32) × (Nat → Int32) × (Nat → Nat → Int32) × (Nat → Int32)
abbrev ZCM : Type := (Int32) × (Nat → Int32) × (Nat → Int32) × (Nat → Int32) × (Nat → Int64) × (Nat → Int32)
abbrev ZCH : Type := (Int32) × (Int32) × (Int32) × (Nat → Int32) × (Nat → Int32) × (Nat → Int32)
abbrev ZCK : Type := (Int32) × (Nat → Int32) × (Nat → Int32) × (Nat → Int32) × (Nat → Int64) × (Nat → Int32)
abbrev ZCX : Type := (Int32) × (Int32)
abbrev ZC : Type := ZCT × ZCM × ZCH × ZCK × ZCX
abbrev tTo (S : ZC) : Int32 := S.1.1
abbrev tTo' (S : ZC) (x : Int32) : ZC := ((x, S.1.2.1, S.1.2.2.1, S.1.2.2.2.1, S.1.2.2.2.2.1, S.1.2.2.2.2.2), S.2.1, S.2.2.1, S.2.2.2.1, S.2.2.2.2)
abbrev tFm (S : ZC) : Nat → Int32 := S.1.2.1
abbrev tFm' (S : ZC) (x : Nat → Int32) : ZC := ((S.1.1, x, S.1.2.2.1, S.1.2.2.2.1, S.1.2.2.2.2.1, S.1.2.2.2.2.2), S.2.1, S.2.2.1, S.2.2.2.1, S.2.2.2.2)
abbrev tCa (S : ZC) : Nat → Int32 := S.1.2.2.1
abbrev tCa' (S : ZC) (x : Nat → Int32) : ZC := ((S.1.1, S.1.2.1, x, S.1.2.2.2.1, S.1.2.2.2.2.1, S.1.2.2.2.2.2), S.2.1, S.2.2.1, S.2.2.2.1, S.2.2.2.2)
abbrev tFc (S : ZC) : Nat → Int32 := S.1.2.2.2.1
abbrev tFc' (S : ZC) (x : Nat → Int32) : ZC := ((S.1.1, S.1.2.1, S.1.2.2.1, x, S.1.2.2.2.2.1, S.1.2.2.2.2.2), S.2.1, S.2.2.1, S.2.2.2.1, S.2.2.2.2)
abbrev tGr (S : ZC) : Nat → Nat → Int32 := S.1.2.2.2.2.1
abbrev tGr' (S : ZC) (x : Nat → Nat → Int32) : ZC := ((S.1.1, S.1.2.1, S.1.2.2.1, S.1.2.2.2.1, x, S.1.2.2.2.2.2), S.2.1, S.2.2.1, S.2.2.2.1, S.2.2.2.2)
abbrev tUp (S : ZC) : Nat → Int32 := S.1.2.2.2.2.2
abbrev tUp' (S : ZC) (x : Nat → Int32) : ZC := ((S.1.1, S.1.2.1, S.1.2.2.1, S.1.2.2.2.1, S.1.2.2.2.2.1, x), S.2.1, S.2.2.1, S.2.2.2.1, S.2.2.2.2)
abbrev mTo (S : ZC) : Int32 := S.2.1.1
abbrev mTo' (S : ZC) (x : Int32) : ZC := (S.1, (x, S.2.1.2.1, S.2.1.2.2.1, S.2.1.2.2.2.1, S.2.1.2.2.2.2.1, S.2.1.2.2.2.2.2), S.2.2.1, S.2.2.2.1, S.2.2.2.2)
abbrev mOw (S : ZC) : Nat → Int32 := S.2.1.2.1
abbrev mOw' (S : ZC) (x : Nat → Int32) : ZC := (S.1, (S.2.1.1, x, S.2.1.2.2.1, S.2.1.2.2.2.1, S.2.1.2.2.2.2.1, S.2.1.2.2.2.2.2), S.2.2.1, S.2.2.2.1, S.2.2.2.2)
abbrev mNa (S : ZC) : Nat → Int32 := S.2.1.2.2.1
abbrev mNa' (S : ZC) (x : Nat → Int32) : ZC := (S.1, (S.2.1.1, S.2.1.2.1, x, S.2.1.2.2.2.1, S.2.1.2.2.2.2.1, S.2.1.2.2.2.2.2), S.2.2.1, S.2.2.2.1, S.2.2.2.2)
abbrev mSz (S : ZC) : Nat → Int32 := S.2.1.2.2.2.1
abbrev mSz' (S : ZC) (x : Nat → Int32) : ZC := (S.1, (S.2.1.1, S.2.1.2.1, S.2.1.2.2.1, x, S.2.1.2.2.2.2.1, S.2.1.2.2.2.2.2), S.2.2.1, S.2.2.2.1, S.2.2.2.2)
abbrev mPa (S : ZC) : Nat → Int64 := S.2.1.2.2.2.2.1
abbrev mPa' (S : ZC) (x : Nat → Int64) : ZC := (S.1, (S.2.1.1, S.2.1.2.1, S.2.1.2.2.1, S.2.1.2.2.2.1, x, S.2.1.2.2.2.2.2), S.2.2.1, S.2.2.2.1, S.2.2.2.2)
abbrev mVa (S : ZC) : Nat → Int32 := S.2.1.2.2.2.2.2
abbrev mVa' (S : ZC) (x : Nat → Int32) : ZC := (S.1, (S.2.1.1, S.2.1.2.1, S.2.1.2.2.1, S.2.1.2.2.2.1, S.2.1.2.2.2.2.1, x), S.2.2.1, S.2.2.2.1, S.2.2.2.2)
abbrev hMc (S : ZC) : Int32 := S.2.2.1.1
abbrev hMc' (S : ZC) (x : Int32) : ZC := (S.1, S.2.1, (x, S.2.2.1.2.1, S.2.2.1.2.2.1, S.2.2.1.2.2.2.1, S.2.2.1.2.2.2.2.1, S.2.2.1.2.2.2.2.2), S.2.2.2.1, S.2.2.2.2)
abbrev hFc (S : ZC) : Int32 := S.2.2.1.2.1
abbrev hFc' (S : ZC) (x : Int32) : ZC := (S.1, S.2.1, (S.2.2.1.1, x, S.2.2.1.2.2.1, S.2.2.1.2.2.2.1, S.2.2.1.2.2.2.2.1, S.2.2.1.2.2.2.2.2), S.2.2.2.1, S.2.2.2.2)
abbrev hPh (S : ZC) : Int32 := S.2.2.1.2.2.1
abbrev hPh' (S : ZC) (x : Int32) : ZC := (S.1, S.2.1, (S.2.2.1.1, S.2.2.1.2.1, x, S.2.2.1.2.2.2.1, S.2.2.1.2.2.2.2.1, S.2.2.1.2.2.2.2.2), S.2.2.2.1, S.2.2.2.2)
abbrev hLi (S : ZC) : Nat → Int32 := S.2.2.1.2.2.2.1
abbrev hLi' (S : ZC) (x : Nat → Int32) : ZC := (S.1, S.2.1, (S.2.2.1.1, S.2.2.1.2.1, S.2.2.1.2.2.1, x, S.2.2.1.2.2.2.2.1, S.2.2.1.2.2.2.2.2), S.2.2.2.1, S.2.2.2.2)
abbrev hMe (S : ZC) : Nat → Int32 := S.2.2.1.2.2.2.2.1
abbrev hMe' (S : ZC) (x : Nat → Int32) : ZC := (S.1, S.2.1, (S.2.2.1.1, S.2.2.1.2.1, S.2.2.1.2.2.1, S.2.2.1.2.2.2.1, x, S.2.2.1.2.2.2.2.2), S.2.2.2.1, S.2.2.2.2)
abbrev hFi (S : ZC) : Nat → Int32 := S.2.2.1.2.2.2.2.2
abbrev hFi' (S : ZC) (x : Nat → Int32) : ZC := (S.1, S.2.1, (S.2.2.1.1, S.2.2.1.2.1, S.2.2.1.2.2.1, S.2.2.1.2.2.2.1, S.2.2.1.2.2.2.2.1, x), S.2.2.2.1, S.2.2.2.2)
abbrev kHe (S : ZC) : Int32 := S.2.2.2.1.1
abbrev kHe' (S : ZC) (x : Int32) : ZC := (S.1, S.2.1, S.2.2.1, (x, S.2.2.2.1.2.1, S.2.2.2.1.2.2.1, S.2.2.2.1.2.2.2.1, S.2.2.2.1.2.2.2.2.1, S.2.2.2.1.2.2.2.2.2), S.2.2.2.2)
abbrev kTy (S : ZC) : Nat → Int32 := S.2.2.2.1.2.1
abbrev kTy' (S : ZC) (x : Nat → Int32) : ZC := (S.1, S.2.1, S.2.2.1, (S.2.2.2.1.1, x, S.2.2.2.1.2.2.1, S.2.2.2.1.2.2.2.1, S.2.2.2.1.2.2.2.2.1, S.2.2.2.1.2.2.2.2.2), S.2.2.2.2)
abbrev kNa (S : ZC) : Nat → Int32 := S.2.2.2.1.2.2.1
abbrev kNa' (S : ZC) (x : Nat → Int32) : ZC := (S.1, S.2.1, S.2.2.1, (S.2.2.2.1.1, S.2.2.2.1.2.1, x, S.2.2.2.1.2.2.2.1, S.2.2.2.1.2.2.2.2.1, S.2.2.2.1.2.2.2.2.2), S.2.2.2.2)
abbrev kSz (S : ZC) : Nat → Int32 := S.2.2.2.1.2.2.2.1
abbrev kSz' (S : ZC) (x : Nat → Int32) : ZC := (S.1, S.2.1, S.2.2.1, (S.2.2.2.1.1, S.2.2.2.1.2.1, S.2.2.2.1.2.2.1, x, S.2.2.2.1.2.2.2.2.1, S.2.2.2.1.2.2.2.2.2), S.2.2.2.2)
abbrev kCl (S : ZC) : Nat → Int64 := S.2.2.2.1.2.2.2.2.1
abbrev kCl' (S : ZC) (x : Nat → Int64) : ZC := (S.1, S.2.1, S.2.2.1, (S.2.2.2.1.1, S.2.2.2.1.2.1, S.2.2.2.1.2.2.1, S.2.2.2.1.2.2.2.1, x, S.2.2.2.1.2.2.2.2.2), S.2.2.2.2)
abbrev kOu (S : ZC) : Nat → Int32 := S.2.2.2.1.2.2.2.2.2
abbrev kOu' (S : ZC) (x : Nat → Int32) : ZC := (S.1, S.2.1, S.2.2.1, (S.2.2.2.1.1, S.2.2.2.1.2.1, S.2.2.2.1.2.2.1, S.2.2.2.1.2.2.2.1, S.2.2.2.1.2.2.2.2.1, x), S.2.2.2.2)
abbrev xWk (S : ZC) : Int32 := S.2.2.2.2.1
abbrev xWk' (S : ZC) (x : Int32) : ZC := (S.1, S.2.1, S.2.2.1, S.2.2.2.1, (x, S.2.2.2.2.2))
abbrev xFk (S : ZC) : Int32 := S.2.2.2.2.2
abbrev xFk' (S : ZC) (x : Int32) : ZC := (S.1, S.2.1, S.2.2.1, S.2.2.2.1, (S.2.2.2.2.1, x))
def cw (z : zE) (A : Nat → Nat) (S : ZC) : va_W := [((A 0), .inr (0, [.ref (A 17), .ref (A 11), .ref (A 7), .ref (A 1), .int (xWk S), .int (xFk S)])),
  ((A 1), .inr (4, [.ref (A 2), .ref (A 3), .ref (A 4), .ref (A 5), .ref (A 6), .int (kHe S)])),
  ((A 2), .inl (zI z, 100, .inl (kTy S))),
  ((A 3), .inl (zI z, 100, .inl (kNa S))),
  ((A 4), .inl (zI z, 100, .inl (kSz S))),
  ((A 5), .inl (zL z, 100, .inr (.inl (kCl S)))),
  ((A 6), .inl (zI z, 100, .inl (kOu S))),
  ((A 7), .inr (3, [.ref (A 17), .ref (A 11), .ref (A 8), .ref (A 9), .ref (A 10), .int (hMc S), .int (hFc S), .int (hPh S)])),
  ((A 8), .inl (zI z, 24, .inl (hLi S))),
  ((A 9), .inl (zI z, 80, .inl (hMe S))),
  ((A 10), .inl (zI z, 80, .inl (hFi S))),
  ((A 11), .inr (2, [.ref (A 12), .ref (A 13), .ref (A 14), .ref (A 15), .ref (A 16), .int (mTo S)])),
  ((A 12), .inl (zI z, 80, .inl (mOw S))),
  ((A 13), .inl (zI z, 80, .inl (mNa S))),
  ((A 14), .inl (zI z, 80, .inl (mSz S))),
  ((A 15), .inl (zL z, 80, .inr (.inl (mPa S)))),
  ((A 16), .inl (zZ z, 80, .inl (mVa S))),
  ((A 17), .inr (1, [.ref (A 18), .ref (A 19), .ref (A 20), .ref (A 21), .ref (A 22), .int (tTo S)])),
  ((A 18), .inl (zZ z, 32, .inl (tFm S))),
  ((A 19), .inl (zI z, 32, .inl (tCa S))),
  ((A 20), .inl (zI z, 32, .inl (tFc S))),
  ((A 21), .inl (zG z, 32, .inr (.inr (.inr (.inr (fun i => some (A (23 + i)))))))),
  ((A 22), .inl (zI z, 32, .inl (tUp S)))] ++ (List.range 32).map (fun i => (A (23 + i), .inl (zI z, 24, .inl (tGr S i))))
abbrev ZQI : Type := (Int32) × (Int32) × (Int32) × (Int32) × (Int32) × (Int32) × (Int32) × (Int32) × (Int32)
abbrev ZQT : Type := (Nat → Int32) × (Nat → Int32) × (Nat → Int32) × (Nat → Int32)
abbrev ZQP : Type := (Nat → Int32) × (Nat → Int32) × (Nat → Int32) × (Nat → Int32) × (Nat → Int32)
abbrev ZQK : Type := (Nat → Int32) × (Nat → Int32) × (Nat → Int32) × (Nat → Int64) × (Nat → Int32)
abbrev ZQL : Type := (Nat → Int32) × (Nat → Int32) × (Nat → Int32) × (Nat → Int32) × (Nat → Int32)
abbrev ZQ : Type := ZQI × ZQT × ZQP × ZQK × ZQL
abbrev qTh (S : ZQ) : Int32 := S.1.1
abbrev qTh' (S : ZQ) (x : Int32) : ZQ := ((x, S.1.2.1, S.1.2.2.1, S.1.2.2.2.1, S.1.2.2.2.2.1, S.1.2.2.2.2.2.1, S.1.2.2.2.2.2.2.1, S.1.2.2.2.2.2.2.2.1, S.1.2.2.2.2.2.2.2.2), S.2.1, S.2.2.1, S.2.2.2.1, S.2.2.2.2)
abbrev qTy (S : ZQ) : Int32 := S.1.2.1
abbrev qTy' (S : ZQ) (x : Int32) : ZQ := ((S.1.1, x, S.1.2.2.1, S.1.2.2.2.1, S.1.2.2.2.2.1, S.1.2.2.2.2.2.1, S.1.2.2.2.2.2.2.1, S.1.2.2.2.2.2.2.2.1, S.1.2.2.2.2.2.2.2.2), S.2.1, S.2.2.1, S.2.2.2.1, S.2.2.2.2)
abbrev qMe (S : ZQ) : Int32 := S.1.2.2.1
abbrev qMe' (S : ZQ) (x : Int32) : ZQ := ((S.1.1, S.1.2.1, x, S.1.2.2.2.1, S.1.2.2.2.2.1, S.1.2.2.2.2.2.1, S.1.2.2.2.2.2.2.1, S.1.2.2.2.2.2.2.2.1, S.1.2.2.2.2.2.2.2.2), S.2.1, S.2.2.1, S.2.2.2.1, S.2.2.2.2)
abbrev qKe (S : ZQ) : Int32 := S.1.2.2.2.1
abbrev qKe' (S : ZQ) (x : Int32) : ZQ := ((S.1.1, S.1.2.1, S.1.2.2.1, x, S.1.2.2.2.2.1, S.1.2.2.2.2.2.1, S.1.2.2.2.2.2.2.1, S.1.2.2.2.2.2.2.2.1, S.1.2.2.2.2.2.2.2.2), S.2.1, S.2.2.1, S.2.2.2.1, S.2.2.2.2)
abbrev qWo (S : ZQ) : Int32 := S.1.2.2.2.2.1
abbrev qWo' (S : ZQ) (x : Int32) : ZQ := ((S.1.1, S.1.2.1, S.1.2.2.1, S.1.2.2.2.1, x, S.1.2.2.2.2.2.1, S.1.2.2.2.2.2.2.1, S.1.2.2.2.2.2.2.2.1, S.1.2.2.2.2.2.2.2.2), S.2.1, S.2.2.1, S.2.2.2.1, S.2.2.2.2)
abbrev qHa (S : ZQ) : Int32 := S.1.2.2.2.2.2.1
abbrev qHa' (S : ZQ) (x : Int32) : ZQ := ((S.1.1, S.1.2.1, S.1.2.2.1, S.1.2.2.2.1, S.1.2.2.2.2.1, x, S.1.2.2.2.2.2.2.1, S.1.2.2.2.2.2.2.2.1, S.1.2.2.2.2.2.2.2.2), S.2.1, S.2.2.1, S.2.2.2.1, S.2.2.2.2)
abbrev qPh (S : ZQ) : Int32 := S.1.2.2.2.2.2.2.1
abbrev qPh' (S : ZQ) (x : Int32) : ZQ := ((S.1.1, S.1.2.1, S.1.2.2.1, S.1.2.2.2.1, S.1.2.2.2.2.1, S.1.2.2.2.2.2.1, x, S.1.2.2.2.2.2.2.2.1, S.1.2.2.2.2.2.2.2.2), S.2.1, S.2.2.1, S.2.2.2.1, S.2.2.2.2)
abbrev qLm (S : ZQ) : Int32 := S.1.2.2.2.2.2.2.2.1
abbrev qLm' (S : ZQ) (x : Int32) : ZQ := ((S.1.1, S.1.2.1, S.1.2.2.1, S.1.2.2.2.1, S.1.2.2.2.2.1, S.1.2.2.2.2.2.1, S.1.2.2.2.2.2.2.1, x, S.1.2.2.2.2.2.2.2.2), S.2.1, S.2.2.1, S.2.2.2.1, S.2.2.2.2)
abbrev qMm (S : ZQ) : Int32 := S.1.2.2.2.2.2.2.2.2
abbrev qMm' (S : ZQ) (x : Int32) : ZQ := ((S.1.1, S.1.2.1, S.1.2.2.1, S.1.2.2.2.1, S.1.2.2.2.2.1, S.1.2.2.2.2.2.1, S.1.2.2.2.2.2.2.1, S.1.2.2.2.2.2.2.2.1, x), S.2.1, S.2.2.1, S.2.2.2.1, S.2.2.2.2)
abbrev qIf (S : ZQ) : Nat → Int32 := S.2.1.1
abbrev qIf' (S : ZQ) (x : Nat → Int32) : ZQ := (S.1, (x, S.2.1.2.1, S.2.1.2.2.1, S.2.1.2.2.2), S.2.2.1, S.2.2.2.1, S.2.2.2.2)
abbrev qAb (S : ZQ) : Nat → Int32 := S.2.1.2.1
abbrev qAb' (S : ZQ) (x : Nat → Int32) : ZQ := (S.1, (S.2.1.1, x, S.2.1.2.2.1, S.2.1.2.2.2), S.2.2.1, S.2.2.2.1, S.2.2.2.2)
abbrev qFm (S : ZQ) : Nat → Int32 := S.2.1.2.2.1
abbrev qFm' (S : ZQ) (x : Nat → Int32) : ZQ := (S.1, (S.2.1.1, S.2.1.2.1, x, S.2.1.2.2.2), S.2.2.1, S.2.2.2.1, S.2.2.2.2)
abbrev qFa (S : ZQ) : Nat → Int32 := S.2.1.2.2.2
abbrev qFa' (S : ZQ) (x : Nat → Int32) : ZQ := (S.1, (S.2.1.1, S.2.1.2.1, S.2.1.2.2.1, x), S.2.2.1, S.2.2.2.1, S.2.2.2.2)
abbrev qOw (S : ZQ) : Nat → Int32 := S.2.2.1.1
abbrev qOw' (S : ZQ) (x : Nat → Int32) : ZQ := (S.1, S.2.1, (x, S.2.2.1.2.1, S.2.2.1.2.2.1, S.2.2.1.2.2.2.1, S.2.2.1.2.2.2.2), S.2.2.2.1, S.2.2.2.2)
abbrev qNa (S : ZQ) : Nat → Int32 := S.2.2.1.2.1
abbrev qNa' (S : ZQ) (x : Nat → Int32) : ZQ := (S.1, S.2.1, (S.2.2.1.1, x, S.2.2.1.2.2.1, S.2.2.1.2.2.2.1, S.2.2.1.2.2.2.2), S.2.2.2.1, S.2.2.2.2)
abbrev qMa (S : ZQ) : Nat → Int32 := S.2.2.1.2.2.1
abbrev qMa' (S : ZQ) (x : Nat → Int32) : ZQ := (S.1, S.2.1, (S.2.2.1.1, S.2.2.1.2.1, x, S.2.2.1.2.2.2.1, S.2.2.1.2.2.2.2), S.2.2.2.1, S.2.2.2.2)
abbrev qPa (S : ZQ) : Nat → Int32 := S.2.2.1.2.2.2.1
abbrev qPa' (S : ZQ) (x : Nat → Int32) : ZQ := (S.1, S.2.1, (S.2.2.1.1, S.2.2.1.2.1, S.2.2.1.2.2.1, x, S.2.2.1.2.2.2.2), S.2.2.2.1, S.2.2.2.2)
abbrev qVa (S : ZQ) : Nat → Int32 := S.2.2.1.2.2.2.2
abbrev qVa' (S : ZQ) (x : Nat → Int32) : ZQ := (S.1, S.2.1, (S.2.2.1.1, S.2.2.1.2.1, S.2.2.1.2.2.1, S.2.2.1.2.2.2.1, x), S.2.2.2.1, S.2.2.2.2)
abbrev qKt (S : ZQ) : Nat → Int32 := S.2.2.2.1.1
abbrev qKt' (S : ZQ) (x : Nat → Int32) : ZQ := (S.1, S.2.1, S.2.2.1, (x, S.2.2.2.1.2.1, S.2.2.2.1.2.2.1, S.2.2.2.1.2.2.2.1, S.2.2.2.1.2.2.2.2), S.2.2.2.2)
abbrev qKn (S : ZQ) : Nat → Int32 := S.2.2.2.1.2.1
abbrev qKn' (S : ZQ) (x : Nat → Int32) : ZQ := (S.1, S.2.1, S.2.2.1, (S.2.2.2.1.1, x, S.2.2.2.1.2.2.1, S.2.2.2.1.2.2.2.1, S.2.2.2.1.2.2.2.2), S.2.2.2.2)
abbrev qKm (S : ZQ) : Nat → Int32 := S.2.2.2.1.2.2.1
abbrev qKm' (S : ZQ) (x : Nat → Int32) : ZQ := (S.1, S.2.1, S.2.2.1, (S.2.2.2.1.1, S.2.2.2.1.2.1, x, S.2.2.2.1.2.2.2.1, S.2.2.2.1.2.2.2.2), S.2.2.2.2)
abbrev qKc (S : ZQ) : Nat → Int64 := S.2.2.2.1.2.2.2.1
abbrev qKc' (S : ZQ) (x : Nat → Int64) : ZQ := (S.1, S.2.1, S.2.2.1, (S.2.2.2.1.1, S.2.2.2.1.2.1, S.2.2.2.1.2.2.1, x, S.2.2.2.1.2.2.2.2), S.2.2.2.2)
abbrev qKa (S : ZQ) : Nat → Int32 := S.2.2.2.1.2.2.2.2
abbrev qKa' (S : ZQ) (x : Nat → Int32) : ZQ := (S.1, S.2.1, S.2.2.1, (S.2.2.2.1.1, S.2.2.2.1.2.1, S.2.2.2.1.2.2.1, S.2.2.2.1.2.2.2.1, x), S.2.2.2.2)
abbrev qLi (S : ZQ) : Nat → Int32 := S.2.2.2.2.1
abbrev qLi' (S : ZQ) (x : Nat → Int32) : ZQ := (S.1, S.2.1, S.2.2.1, S.2.2.2.1, (x, S.2.2.2.2.2.1, S.2.2.2.2.2.2.1, S.2.2.2.2.2.2.2.1, S.2.2.2.2.2.2.2.2))
abbrev qMt (S : ZQ) : Nat → Int32 := S.2.2.2.2.2.1
abbrev qMt' (S : ZQ) (x : Nat → Int32) : ZQ := (S.1, S.2.1, S.2.2.1, S.2.2.2.1, (S.2.2.2.2.1, x, S.2.2.2.2.2.2.1, S.2.2.2.2.2.2.2.1, S.2.2.2.2.2.2.2.2))
abbrev qVl (S : ZQ) : Nat → Int32 := S.2.2.2.2.2.2.1
abbrev qVl' (S : ZQ) (x : Nat → Int32) : ZQ := (S.1, S.2.1, S.2.2.1, S.2.2.2.1, (S.2.2.2.2.1, S.2.2.2.2.2.1, x, S.2.2.2.2.2.2.2.1, S.2.2.2.2.2.2.2.2))
abbrev qIo (S : ZQ) : Nat → Int32 := S.2.2.2.2.2.2.2.1
abbrev qIo' (S : ZQ) (x : Nat → Int32) : ZQ := (S.1, S.2.1, S.2.2.1, S.2.2.2.1, (S.2.2.2.2.1, S.2.2.2.2.2.1, S.2.2.2.2.2.2.1, x, S.2.2.2.2.2.2.2.2))
abbrev qPi (S : ZQ) : Nat → Int32 := S.2.2.2.2.2.2.2.2
abbrev qPi' (S : ZQ) (x : Nat → Int32) : ZQ := (S.1, S.2.1, S.2.2.1, S.2.2.2.1, (S.2.2.2.2.1, S.2.2.2.2.2.1, S.2.2.2.2.2.2.1, S.2.2.2.2.2.2.2.1, x))
def qw (z : zE) (B : Nat → Nat) (S : ZQ) : va_W := [((B 0), .inr (5, [.int (qTh S), .int (qTy S), .ref (B 1), .ref (B 2), .ref (B 3), .ref (B 4), .int (qMe S), .ref (B 5), .ref (B 6), .ref (B 7), .ref (B 8), .ref (B 9), .int (qKe S), .ref (B 10), .ref (B 11), .ref (B 12), .ref (B 13), .ref (B 14), .int (qWo S), .int (qHa S), .int (qPh S), .ref (B 15), .int (qLm S), .ref (B 16), .int (qMm S), .ref (B 17), .ref (B 18), .ref (B 19)])),
  ((B 1), .inl (zZ z, 32, .inl (qIf S))),
  ((B 2), .inl (zI z, 32, .inl (qAb S))),
  ((B 3), .inl (zI z, 32, .inl (qFm S))),
  ((B 4), .inl (zI z, 1024, .inl (qFa S))),
  ((B 5), .inl (zI z, 80, .inl (qOw S))),
  ((B 6), .inl (zI z, 80, .inl (qNa S))),
  ((B 7), .inl (zI z, 80, .inl (qMa S))),
  ((B 8), .inl (zI z, 320, .inl (qPa S))),
  ((B 9), .inl (zZ z, 80, .inl (qVa S))),
  ((B 10), .inl (zI z, 100, .inl (qKt S))),
  ((B 11), .inl (zI z, 100, .inl (qKn S))),
  ((B 12), .inl (zI z, 100, .inl (qKm S))),
  ((B 13), .inl (zL z, 100, .inr (.inl (qKc S)))),
  ((B 14), .inl (zI z, 100, .inl (qKa S))),
  ((B 15), .inl (zI z, 32, .inl (qLi S))),
  ((B 16), .inl (zI z, 80, .inl (qMt S))),
  ((B 17), .inl (zI z, 6, .inl (qVl S))),
  ((B 18), .inl (zZ z, 32, .inl (qIo S))),
  ((B 19), .inl (zI z, 1024, .inl (qPi S)))]
theorem cw_row {z : zE} {A : Nat → Nat} {S : ZC} {Rr : va_W} {j : Nat} (hj : j < 32) : (cw z A S ++ Rr)[23 + j]? = some (A (23 + j), .inl (zI z, 24, .inl (tGr S j))) := by
  show ((_ :: _ :: _ :: _ :: _ :: _ :: _ :: _ :: _ :: _ :: _ :: _ :: _ :: _ :: _ :: _ :: _ :: _ :: _ :: _ :: _ :: _ :: _ :: ((List.range 32).map (fun i => (A (23 + i), (.inl (zI z, 24, .inl (tGr S i)) : va_E))) ++ Rr)) : va_W)[23 + j]? = _
  rw [show 23 + j = j + 23 by omega]
  show (((List.range 32).map (fun i => (A (23 + i), (.inl (zI z, 24, .inl (tGr S i)) : va_E))) ++ Rr) : va_W)[j]? = _
  rw [List.getElem?_append_left (by simp [hj]), List.getElem?_map, List.getElem?_range hj]
  rw [show j + 23 = 23 + j by omega]
  rfl
theorem cw_srow {z : zE} {A : Nat → Nat} {S : ZC} {Rr : va_W} {j : Nat} (hj : j < 32) {f : Nat → Int32} : (cw z A S ++ Rr).set (23 + j) (A (23 + j), .inl (zI z, 24, .inl f)) = cw z A (tGr' S (va_up (tGr S) j f)) ++ Rr := by
  rw [show 23 + j = j + 23 by omega]
  show (_ :: _ :: _ :: _ :: _ :: _ :: _ :: _ :: _ :: _ :: _ :: _ :: _ :: _ :: _ :: _ :: _ :: _ :: _ :: _ :: _ :: _ :: _ :: (((List.range 32).map (fun i => (A (23 + i), (.inl (zI z, 24, .inl (tGr S i)) : va_E))) ++ Rr).set j (A (j + 23), .inl (zI z, 24, .inl f))) : va_W) = (_ :: _ :: _ :: _ :: _ :: _ :: _ :: _ :: _ :: _ :: _ :: _ :: _ :: _ :: _ :: _ :: _ :: _ :: _ :: _ :: _ :: _ :: _ :: (((List.range 32).map (fun i => (A (23 + i), (.inl (zI z, 24, .inl (va_up (tGr S) j f i)) : va_E))) ++ Rr)) : va_W)
  congr 23
  apply List.ext_getElem?
  intro k
  rw [List.getElem?_set]
  by_cases hk : j = k
  · subst hk
    rw [if_pos rfl, if_pos (by simp; omega), List.getElem?_append_left (by simp [hj]), List.getElem?_map, List.getElem?_range hj]
    show some (A (j + 23), _) = some (A (23 + j), _)
    rw [show j + 23 = 23 + j by omega]
    simp [va_up]
  · rw [if_neg hk]
    by_cases h32 : k < 32
    · rw [List.getElem?_append_left (by simp [h32]), List.getElem?_append_left (by simp [h32]), List.getElem?_map, List.getElem?_map, List.getElem?_range h32]
      have : ¬ k = j := fun q => hk q.symm
      simp [va_up, this]
    · rw [List.getElem?_append_right (by simp; omega), List.getElem?_append_right (by simp; omega)]
      simp
section ZZA
variable {z : zE} {p : Program} {l : Launch} {e : Env} {R : Room} {s : State} {m : MethodId} {args : Array Value} {below : List Frame} {meth : Method} {c : Code} {H : Heap} {locs : List Loc} {Q : State → Prop} {cc : ByteArray} {A0 : Nat → Prop} {pc cells slots : Nat} {ls : Array Slot} {w : va_W} {rest : List Value}
theorem zz_aald (hexec : p.tables.exec = Jvm.exec) (hb : c.code = cc) {D : va_G} {cl : List vw_C} {tys : List (ClassId × FieldType)} (hK : va_K D cl tys s) (hP : va_P D cl w H) (q0 t0 : Nat) {a : Nat} {cA : ClassId} {ty : FieldType} {n : Nat} {f : Nat → Nat} (ha : w[q0]? = some (a, .inl (cA, n, .inr (.inr (.inr (.inr (fun i => some (f i)))))))) (ht : tys[t0]? = some (cA, .array ty)) {i : Int32} (hin : vp_in i n) (hdg : decode cc pc = .ok (.aaload, 1))
    (kk : W p l e R s m args below meth c H locs cells slots Q (F0 m (pc + 1) ls (.ref (f i.toNatClampNeg) :: rest))) : W p l e R s m args below meth c H locs cells slots Q (F0 m pc ls (.int i :: .ref a :: rest)) := by
  have hlt : i.toNatClampNeg < n := Nat.not_le.mp fun q => hin (Or.inr q)
  exact W.aald (v := .ref (f i.toNatClampNeg)) (ty := .array ty) hexec hb (hP q0 _ ha) ((hK.2 t0 _ ht).1 n (fun j => va_rf (some (f j)))) rfl (fun q => by cases q) (by show ¬ (i < 0 ∨ (arrV _ _ _).slots.size ≤ _); rw [arrV_size]; exact hin) (by show (arrV _ _ _).slots[_]? = _; rw [arrV_read _ _ hlt]; rfl) rfl rfl hdg kk
end ZZA
end
section
def zXs : List (Nat × String) := [(52, "no such class"), (63, "too many classes and faces"), (83, "no such owner or name"), (89, "no such parameters"), (99, "too many members, or one with the same parameters"), (118, "no such type, name, n or class"), (137, "ambiguous"), (142, "unfit")]
/-! OWN LAYER: a method that may throw -/
abbrev eIA : String := "java/lang/IllegalArgumentException"
abbrev eIS : String := "java/lang/IllegalStateException"
abbrev eAR : String := "java/lang/ArithmeticException"
abbrev eNS : String := "java/util/NoSuchElementException"
/-- the words of a throw that a call doesn't keep by itself -/
def zXw : List Cond := [.castable eIA eIA, .castable eIS eIS, .castable eAR eAR, .castable eNS eNS, .declares ⟨"java/lang/RuntimeException", "<init>", "(Ljava/lang/String;)V"⟩, .declares ⟨"java/lang/Exception", "<init>", "(Ljava/lang/String;)V"⟩, .declares ⟨"java/lang/Throwable", "<init>", "(Ljava/lang/String;)V"⟩,
  .laysStatic "java/lang/Throwable" "UNASSIGNED_STACK" "[Ljava/lang/StackTraceElement;", .laysStatic "java/lang/Throwable" "SUPPRESSED_SENTINEL" "Ljava/util/List;", .isRef (.static "java/lang/Throwable" "UNASSIGNED_STACK" "[Ljava/lang/StackTraceElement;"), .isRef (.static "java/lang/Throwable" "SUPPRESSED_SENTINEL" "Ljava/util/List;")]
/-- they hang on the tables and on one cell that nobody writes -/
def zTh (A : Nat → Prop) (vm : Vm) (H : Heap) : Prop := ∃ (a : Nat) (cell : Cell), H[a]? = some cell ∧ ¬ A a ∧ ∀ U : State, vm.Alike U.vm → U.heap[a]? = some cell → ∀ w ∈ zXw, ∀ v : Array Value, w.before v U = true
theorem zTh.kept {A : Nat → Prop} {vm : Vm} {H H1 : Heap} (h : zTh A vm H) (hq : ∀ q : Nat, q < H.size → ¬ A q → H1[q]? = H[q]?) : zTh A vm H1 := by
  obtain ⟨a, cell, h1, h2, h3⟩ := h
  exact ⟨a, cell, by rw [hq a (Array.getElem?_eq_some_iff.mp h1).1 h2]; exact h1, h2, h3⟩
theorem zTh.narrow {A B : Nat → Prop} {vm : Vm} {H : Heap} (h : zTh A vm H) (hAB : ∀ q, B q → A q) : zTh B vm H := by
  obtain ⟨a, cell, h1, h2, h3⟩ := h
  exact ⟨a, cell, h1, fun q => h2 (hAB a q), h3⟩
theorem zTh.moved {A : Nat → Prop} {vm vm' : Vm} {H : Heap} (h : zTh A vm H) (hv : vm.Alike vm') : zTh A vm' H := by
  obtain ⟨a, cell, h1, h2, h3⟩ := h
  exact ⟨a, cell, h1, h2, fun U hU => h3 U (hv.trans hU)⟩
def zNcs : List (String × String) := [(eIS, eIA), (eAR, eIA), (eNS, eIA), (eNS, eAR)]
/-- the texts, and which exception isn't which -/
def zSt (U : State) : Prop := (∀ (k : Nat) (q : Nat × String), zXs[k]? = some q → ∃ sa : Nat, vk_R "MemberChooser" q.1 q.2 sa U) ∧ (∀ (k : Nat) (q : String × String), zNcs[k]? = some q → va_Nc q.1 q.2 U) ∧ ∀ (k : Nat) (q : String), [eIA, eIS, eAR, eNS][k]? = some q → va_Nw (.castable q q) U
theorem va_Nc.zmoved {C T : String} {u U : State} (h : va_Nc C T u) (hv : u.vm.Alike U.vm) : va_Nc C T U := by
  obtain ⟨c, t, h1, h2, h3⟩ := h
  exact ⟨c, t, by rw [hv.findClass]; exact h1, by rw [hv.findClass]; exact h2, by rw [hv.assignable]; exact h3⟩
theorem zSt.warm {s U : State} (h : zSt s) (hW : s.WarmedH U.vm) : zSt U := ⟨fun k q hq => (h.1 k q hq).imp fun _ z => vk_R.warm hW z, fun k q hq => va_Nc.zmoved (h.2.1 k q hq) hW.alike, fun k q hq => va_Nw.warmC hW (h.2.2 k q hq)⟩
theorem zSt.same {s U : State} (h : zSt s) (hv : s.vm = U.vm) : zSt U := ⟨fun k q hq => (h.1 k q hq).imp fun _ z => vk_R.same hv.symm z, fun k q hq => va_Nc.zmoved (h.2.1 k q hq) (by rw [hv]; exact Vm.Alike.refl _), fun k q hq => va_Nw.same rfl hv (h.2.2 k q hq)⟩
/-- start and end of a method that may throw -/
def zPx (z : zE) (av : List Value) (w : va_W) (sz : Nat) : Array Value → State → Prop := va_Pc av (fun U => U.heap.size = sz ∧ va_P z.1 vwCl w U.heap ∧ (va_K z.1 vwCl (zty z) U ∧ zN U ∧ zSt U ∧ zTh (va_A w sz) U.vm U.heap) ∧ va_D (fun _ => True) w)
theorem zz_blindX {z : zE} {av : List Value} {w : va_W} {sz : Nat} : FrameBlind (zPx z av w sz) := fun a U g mk q => by
  obtain ⟨q0, q1, qP, ⟨qK, qN, qS, qT⟩, qD⟩ := q
  exact ⟨q0, q1, qP, ⟨va_K.moved (u := U) (U := U.calling g mk a) (Vm.Alike.refl U.vm) qK, zN.same qN rfl, zSt.same qS rfl, qT⟩, qD⟩
def zXQ (z : zE) (A : Nat → Prop) (v : Value ⊕ String) (w' : va_W) (st : State) (oc : Outcome) (t : State) : Prop :=
  (va_P z.1 vwCl w' t.heap ∧ va_D A w' ∧ va_F A st t) ∧ (∀ x, v = .inl x → oc = .returned (some x)) ∧ ∀ E, v = .inr E → ∃ (q : Addr) (ce : Cell), oc = .threw q ∧ t.heap[q]? = some ce ∧ ce.vm = .none ∧ st.vm.findClass E = some ce.cls
def zXE (A : Nat → Prop) (st t : State) : Prop := st.WarmedH t.vm ∧ ∃ L : List Loc, st.sameButNew ({ t with vm := st.vm } : State) L 1 6 ∧ ∀ q ∈ L, A q.base
def zXM (z : zE) (below : List Frame) (s : State) (A : Nat → Prop) (v : Value ⊕ String) (w' : va_W) : State → Prop := fun t => ∃ o, t.status = .running ∧ Ended t below o ∧ zXQ z A v w' s o t ∧ zXE A s t
def zX (z : zE) (l : Launch) (y : MethodName) (ws : List Cond) (rm : Room) (av : List Value) (w : va_W) (v : Value ⊕ String) (w' : va_W) : Prop :=
  ∀ sz : Nat, MetFree l y (headSpec ws rm) (zPx z av w sz) (fun _ _ _ _ _ => True) (fun _ st o t => zXQ z (va_A w sz) v w' st o t ∧ zXE (va_A w sz) st t)
theorem zz_ofX {z : zE} {l : Launch} {y : MethodName} {cc : ByteArray} {maxL : Nat} {ret : Option FieldType} {rm : Room} {av : List Value} {w w' : va_W} {v : Value ⊕ String} (hy : plainName y.cls = true) (hnl : (lg_sl av).length ≤ maxL)
    (body : ∀ (p : Program) (e : Env) (s : State) (m : MethodId) (args : Array Value) (below : List Frame) (meth : Method) (c : Code) (A0 : Nat → Prop) (ls : Array Slot), zM z p s m args c cc maxL y.cls → zSt s → zTh A0 s.vm s.heap → (∀ x ∈ c.exceptionTable.toList, False) → meth.sig.returnType = ret → meth.locks = false → (∀ q : Nat, s.heap.size ≤ q → A0 q) →
      va_P z.1 vwCl w s.heap → va_D A0 w → lv_has ls maxL (lv_args 0 av) → W p l e rm s m args below meth c s.heap [] 0 0 (zXM z below s A0 v w') (F0 m 0 ls [])) : zX z l y (Cond.code y cc maxL ret :: zTb) rm av w v w' := by
  intro sz
  refine MetFree.of_bodyS (code := cc) (maxLocals := maxL) (ret := ret) hy ?_ ?_
  · intro args s m h hn
    obtain ⟨meth, c, h1, h2, h3, h4, h5, h6, -, -⟩ := Cond.code_spec hn (atoms_spec (ws := Cond.code y cc maxL ret :: zTb) h _ List.mem_cons_self)
    exact ⟨meth, c, h1, h2, h3, h4, h5, h6⟩
  · intro p e s m args below meth c s₁ B hml hv _
    have hts := atoms_spec (ws := Cond.code y cc maxL ret :: zTb) B.pre
    have hno : ∀ x ∈ c.exceptionTable.toList, False := fun x hx => by
      have he := B.noHandlers (hts _ List.mem_cons_self)
      rw [Array.isEmpty_iff.mp he] at hx
      cases hx
    obtain ⟨rfl, hsz, hP, ⟨hK, hN, hSt, hTh⟩, hD0⟩ := hv
    have hown : s.vm.findClass y.cls = some m.cls := findClass_of_methodNamed B.named
    subst hsz
    have hl := lv_entry av (n := maxL) hnl
    have hh0 : s₁.heap = s.heap := by rw [B.state]; rfl
    have K := body p e s m _ below meth c _ _ ⟨B.exec, B.bytes, hml, hown, fun w h => hts w (List.mem_cons_of_mem _ h), hK, hN⟩ hSt hTh hno B.returns B.notSynchronized (fun q h => Or.inr h) hP (hD0.self (sz := s.heap.size)) hl
    rw [← lg_entry_eq] at K
    obtain ⟨t, a1, o, b1, b2, b3⟩ := K s₁ hh0 (Stand.of_body B)
    exact ⟨t, o, a1, b1, b2, b3⟩
section ZTH
variable {z : zE} {p : Program} {l : Launch} {e : Env} {R : Room} {s : State} {m : MethodId} {args : Array Value} {below : List Frame} {meth : Method} {c : Code} {H : Heap} {locs : List Loc} {Q : State → Prop} {cc : ByteArray} {A0 : Nat → Prop} {pc cells slots : Nat} {ls : Array Slot} {w w' : va_W}
/-- the walk so far forgotten: the same body, as if it began here -/
theorem zz_rebase {T : State} (X : Stand p l e R s m args below meth c T locs cells slots) (hc : cells + 1 ≤ R.cells) (hs : slots + 6 ≤ R.slots) :
    Stand p l e { frames := R.frames, cells := 1, slots := 6, locals := R.locals } ((T.setVm s.vm).setFrames (.invoking m args :: below)) m args below meth c T [] 0 0 := by
  have htop : (T.setVm s.vm).topJava?.isSome := X.here.top
  have hF : ((T.setVm s.vm).setFrames (.invoking m args :: below)).frames = .invoking m args :: below := State.frames_setFrames _ (State.cur_lt_of_top htop)
  obtain ⟨g₀, hg0⟩ := Option.isSome_iff_exists.mp htop
  obtain ⟨r, hr⟩ := State.topJava?_eq_some.mp hg0
  have hli : e.platform.stackLimits (T.setVm s.vm).me = e.platform.stackLimits s.me := X.limits
  have hby : (T.setVm s.vm).me.stackBytes = s.me.stackBytes := X.bytes
  have hdrop : ((T.heap.toList.drop T.heap.size).map (·.slots.size)).sum = 0 := by rw [List.drop_eq_nil_of_le (Nat.le_of_eq Array.length_toList)]; rfl
  have hroom : ((T.setVm s.vm).setFrames (.invoking m args :: below)).hasRoom e.platform { frames := R.frames, cells := 1, slots := 6, locals := R.locals } = true := by
    have h := X.room
    have hU : ((T.setVm s.vm).setFrames (.invoking m args :: below)).localsInUse = s.localsInUse := by
      rw [State.localsInUse_invoking hF (meth := meth) (c := c) X.method X.code, State.localsInUse_invoking X.frames X.method X.code]
    have q1 := X.heapSize
    have q2 := X.used
    simp only [State.hasRoom, Bool.and_eq_true, decide_eq_true_eq] at h ⊢
    obtain ⟨⟨⟨⟨h1, h2, h3, h4, h5, h6⟩, h7⟩, h8⟩, h9⟩ := h
    rw [X.frames, List.length_cons] at h2 h3
    simp only [hF, hU, List.length_cons, State.stackLimits_setFrames, State.stackBytes_setFrames, hli, hby]
    refine ⟨⟨⟨⟨by omega, by omega, by omega, by omega, by omega, h6⟩, ?_⟩, ?_⟩, X.book⟩
    · show T.heap.size + 1 ≤ e.platform.maxCells
      omega
    · show T.slotsUsed + 6 ≤ e.platform.maxSlots
      omega
  refine ⟨X.admits, X.cas, X.clock, hF, hroom, X.hears, X.method, X.code, X.here, X.tail, X.warmed, by rw [State.stackLimits_setFrames]; rfl, by rw [State.stackBytes_setFrames]; rfl, ?_⟩
  refine ⟨?_, Nat.le_refl _, Nat.le_refl _, ?_, Nat.le_of_eq hdrop, fun a cell h => ⟨cell, h, rfl, rfl, fun _ _ => rfl⟩⟩
  · obtain ⟨t, ht, -⟩ := State.frames_cons hr
    show T.setVm s.vm = { ((T.setVm s.vm).setFrames (.invoking m args :: below)).setFrames (T.setVm s.vm).frames with heap := T.heap, slotsUsed := T.slotsUsed }
    rw [State.setFrames_setFrames, State.setFrames_self ht]
    rfl
  · show T.slotsUsed = T.slotsUsed + ((T.heap.toList.drop T.heap.size).map (·.slots.size)).sum
    rw [hdrop]
    rfl
theorem zz_oldcells {U : State} {k n : Nat} (h : s.sameButNew ({ U with vm := s.vm } : State) [] k n) : s.heap.size ≤ U.heap.size ∧ ∀ q : Nat, q < s.heap.size → U.heap[q]? = s.heap[q]? := by
  obtain ⟨-, h2, -, -, -, h6⟩ := h
  refine ⟨h2, fun q hq => ?_⟩
  obtain ⟨cell, e1, e2, -, e4⟩ := h6 q _ (Array.getElem?_eq_getElem hq)
  have hs : cell.slots = (s.heap[q]).slots := Array.ext_getElem? fun i => e4 i (fun hm => by cases hm)
  have h9 : cell = s.heap[q] := by rw [hs] at e2; exact e2
  have e5 : U.heap[q]? = some cell := e1
  rw [e5, h9, Array.getElem?_eq_getElem hq]
/-- the words of one throw: Throwable's, the first constructor's own link, the two above it -/
def zAt (ic : Nat) (cls : String) (idx : Nat) (bytes : ByteArray) : List Cond := Bundle.throwableAtoms ++ (Bundle.throwableSAtoms ++ (Bundle.passSAtoms cls "java/lang/RuntimeException" idx bytes ++ (Bundle.chainSAtoms "java/lang/RuntimeException" ["java/lang/Exception"] ++
  [.methodLink "MemberChooser" ic (Bundle.initS cls), .instantiable cls 6, .selects cls Bundle.tFill0 Bundle.tFill0, .selects cls Bundle.tFill Bundle.tFill, .lays cls Bundle.tN "cause" "Ljava/lang/Throwable;", .lays cls Bundle.tN "stackTrace" Bundle.steD, .lays cls Bundle.tN "suppressedExceptions" Bundle.listD, .lays cls Bundle.tN "detailMessage" "Ljava/lang/String;",
   .isRef (.static Bundle.tN "UNASSIGNED_STACK" Bundle.steD), .isRef (.static Bundle.tN "SUPPRESSED_SENTINEL" Bundle.listD), .fieldLink Bundle.tN 198 Bundle.tN "backtrace" "Ljava/lang/Object;", .lays Bundle.tN Bundle.tN "backtrace" "Ljava/lang/Object;", .lays cls Bundle.tN "backtrace" "Ljava/lang/Object;"])))
set_option maxHeartbeats 2000000 in
theorem zz_ctor {T' : State} (X : Stand p l e R s m args below meth c T' locs cells slots) (hexec : p.tables.exec = Jvm.exec) (htr : e.platform.stackTraces = false) {cls : String} {ic idx : Nat} {bytes : ByteArray}
    (hown : s.vm.findClass "MemberChooser" = some m.cls) (hcls : Bundle.fit cls = true) (h : ∀ a ∈ zAt ic cls idx bytes, a.before args s = true)
    (b0 : decode bytes 0 = .ok (.aload_n 0, 1)) (b1 : decode bytes 1 = .ok (.aload_n 1, 1)) (b2 : decode bytes 2 = .ok (.invokespecial idx, 3)) (b5 : decode bytes 5 = .ok (.return_, 1))
    (hlocs : ∀ x ∈ locs, ∀ cell, s.heap[x.base]? = some cell → cell.vm.isStatics = false)
    {a : Addr} {cX : ClassId} {kX : Class} (hfoundX : s.vm.findClass cls = some cX) (hkX : s.vm.classes[cX]? = some kX) (hcell : T'.heap[a]? = some (freshCell cX kX)) (hnew : s.heap.size ≤ a) {msg : Value} (hmsg : msg.isRef = true)
    {g : JFrame} (hg : g.method = m) (hsize : g.locals.size = c.maxLocals) (hlocked : g.locked = none) (hentered : g.entered = []) {rest : List Value} (hstack : g.stack = msg :: .ref a :: .ref a :: rest)
    (hd6 : decode c.code g.pc = .ok (.invokespecial ic, 3)) (hd9 : decode c.code (g.pc + 3) = .ok (.athrow, 1)) (hout : ∀ x ∈ c.exceptionTable.toList, covers x (g.pc + 3) = false)
    (hRframes : 5 < R.frames) (hRlocals : 2 * g.monitorRoom + ((Value.ref a :: rest).map fun v => v.category).sum + 81 ≤ R.locals) (hlocks : meth.locks = false) :
    ∃ U : State, Steps p.tables e below (T'.setTop g) U ∧ U.status = .running ∧ Ended U below (.threw a) ∧ s.WarmedH U.vm ∧ s.sameButNew ({ U with vm := s.vm } : State) locs cells slots ∧ ∃ ce, U.heap[a]? = some ce ∧ ce.vm = .none ∧ s.vm.findClass cls = some ce.cls := by
  have howns : e.platform.frameOwnsMonitors = true := by rw [X.admits.platform]
  have hfin : e.platform.finalization = false := by rw [X.admits.platform]
  have hpl : e.platform.magicAccessors = ({} : Platform).magicAccessors := by rw [X.admits.platform]
  have k1 : ∀ x, x ∈ Bundle.throwableAtoms → x.before args s = true := fun x hx => h x (by unfold zAt; simp [hx])
  have k2 : ∀ x, x ∈ Bundle.throwableSAtoms → x.before args s = true := fun x hx => h x (by unfold zAt; simp [hx])
  have k3 : ∀ x, x ∈ Bundle.passSAtoms cls "java/lang/RuntimeException" idx bytes → x.before args s = true := fun x hx => h x (by unfold zAt; simp [hx])
  have k4 : ∀ x, x ∈ Bundle.chainSAtoms "java/lang/RuntimeException" ["java/lang/Exception"] → x.before args s = true := fun x hx => h x (by unfold zAt; simp [hx])
  have a' : ∀ x, x ∈ zAt ic cls idx bytes → x.holds args s none s [] = true := fun x hx => h x hx
  obtain ⟨T, Z0, L, -, Y⟩ := ThrowableC.of_atoms (args := args) howns hfin hpl k1
  obtain ⟨Z, M, LZ, LM, hnZ⟩ := Init0T.ofS_atoms (args := args) hpl L Y k2
  obtain ⟨P1, L1, hP1m, hP1s⟩ := PassC.ofS_atoms (args := args) (s := s) hpl (X := cls) (Y := "java/lang/RuntimeException") (Bundle.fit_spec hcls).1 (by decide) b0 b1 b2 b5 k3
  obtain ⟨P2, Ps, hlen, L2, hL, hP2m, hlink2, hlink⟩ := Bundle.chainS (args := args) hpl hnZ ["java/lang/Exception"] "java/lang/RuntimeException" (by decide +kernel) (by decide +kernel) k4
  have hlink1 : P1.sup = P2.m := Option.some.inj (hP1s.symm.trans hP2m)
  have hfound : s.vm.findClass cls = some P1.m.cls := findClass_of_methodNamed hP1m
  cases Option.some.inj (hfoundX.symm.trans hfound)
  obtain ⟨c1, kX', hc1, hk, hord, -, -, -⟩ := Cond.instantiable_spec (a' (.instantiable cls 6) (by simp [zAt]))
  cases Option.some.inj (hc1.symm.trans hfound)
  cases Option.some.inj (hkX.symm.trans hk)
  have hsel0 : selectMethod e.platform s.vm P1.m.cls T.fill0 = .method T.fill0 := by
    obtain ⟨c2, r2, m2, q1, q2, q3, q4, -⟩ := Cond.selects_spec (a' (.selects cls Bundle.tFill0 Bundle.tFill0) (by simp [zAt]))
    cases Option.some.inj (q1.symm.trans hfound)
    cases Option.some.inj (q2.symm.trans (State.methodFound?_of_named Y.fill0 (by decide)))
    cases Option.some.inj (q3.symm.trans Y.fill0)
    rw [Launch.admits_selectMethod X.admits]; exact q4
  have hselF : selectMethod e.platform s.vm P1.m.cls T.fill = .method T.fill := by
    obtain ⟨c2, r2, m2, q1, q2, q3, q4, -⟩ := Cond.selects_spec (a' (.selects cls Bundle.tFill Bundle.tFill) (by simp [zAt]))
    cases Option.some.inj (q1.symm.trans hfound)
    cases Option.some.inj (q2.symm.trans (State.methodFound?_of_named Y.fill (by decide)))
    cases Option.some.inj (q3.symm.trans Y.fill)
    rw [Launch.admits_selectMethod X.admits]; exact q4
  obtain ⟨cellS0, hcS0, hiss⟩ := Y.statics
  obtain ⟨u0, hu0⟩ := Cond.staticRefV Y.unassigned L.unassignedStatic L.statics hcS0 hiss (a' (.isRef (.static Bundle.tN "UNASSIGNED_STACK" Bundle.steD)) (by simp [zAt]))
  obtain ⟨sen, hsen⟩ := Cond.staticRefV Y.sentinel L.sentinelStatic L.statics hcS0 hiss (a' (.isRef (.static Bundle.tN "SUPPRESSED_SENTINEL" Bundle.listD)) (by simp [zAt]))
  obtain ⟨ci198, i198, fB, hk198, hg198, ha198, hsB, -, hnB, htB, hffB⟩ := Cond.ownField (t := .object "java/lang/Object") Y.found L.cls (by decide +kernel) (a' (.fieldLink Bundle.tN 198 Bundle.tN "backtrace" "Ljava/lang/Object;") (by simp [zAt])) (a' (.lays Bundle.tN Bundle.tN "backtrace" "Ljava/lang/Object;") (by simp [zAt])) e.platform hpl
  obtain ⟨cellS, hcS', heS, -, hkeep⟩ := X.same.2.2.2.2.2 T.aS cellS0 hcS0
  have hcellS : T'.heap[T.aS]? = some cellS := hcS'
  have hout' : ∀ i, (⟨T.aS, i⟩ : Loc) ∉ locs := fun i hmem => by
    have := hlocs _ hmem cellS0 hcS0
    rw [hiss] at this; cases this
  have hknownS : cellS.vm ≠ .unknown := by
    rw [heS]; intro hu
    rw [show cellS0.vm = .unknown from hu] at hiss
    cases hiss
  have hneS : T.aS ≠ a := Nat.ne_of_lt (Nat.lt_of_lt_of_le (Array.getElem?_eq_some_iff.mp hcS0).1 hnew)
  obtain ⟨iM, hffM⟩ := Y.msg
  obtain ⟨tyC, dC, hdC, hdnC⟩ := Cond.laysAt hfound hk Y.cause (a' (.lays cls Bundle.tN "cause" "Ljava/lang/Throwable;") (by simp [zAt]))
  obtain ⟨tyS, dS, hdS, hdnS⟩ := Cond.laysAt hfound hk Y.stack (a' (.lays cls Bundle.tN "stackTrace" Bundle.steD) (by simp [zAt]))
  obtain ⟨tyP, dP, hdP, hdnP⟩ := Cond.laysAt hfound hk Y.supp (a' (.lays cls Bundle.tN "suppressedExceptions" Bundle.listD) (by simp [zAt]))
  obtain ⟨tyM, dM, hdM, hdnM⟩ := Cond.laysAt hfound hk hffM (a' (.lays cls Bundle.tN "detailMessage" "Ljava/lang/String;") (by simp [zAt]))
  obtain ⟨tyB, dB, hdB, hdnB⟩ := Cond.laysAt hfound hk hffB (a' (.lays cls Bundle.tN "backtrace" "Ljava/lang/Object;") (by simp [zAt]))
  have bC := Cond.laysApart hdB hdC hdnB hdnC (by rw [hnB, Y.causeName]; decide)
  have bS := Cond.laysApart hdB hdS hdnB hdnS (by rw [hnB, Y.stackName]; decide)
  have bP := Cond.laysApart hdB hdP hdnB hdnP (by rw [hnB, Y.suppName]; decide)
  have hskip : SkipFacts T e.platform s (fun u => u) u0 ((preparedCellV T.toThrowableT (freshCell P1.m.cls kX) a u0 sen).withEntry T'.cur) :=
    ⟨{ ci198 := ci198, i198 := i198, fBack := fB }, ⟨hk198, hg198, ha198, hsB⟩, by
      have := fresh_default (c := P1.m.cls) tyB
      rw [htB] at this
      simpa [preparedCellV, Cell.setSlot, Cell.withEntry, Array.getElem?_setIfInBounds, bC, bS, bP, bC.symm, bS.symm, bP.symm, defaultValue] using this, fun _ _ => rfl⟩
  obtain ⟨tm, methC, cdC, kC, vm₁, hnC, -, -, -, -, -, -, -, hW₁, st1⟩ := Steps.initColdS (tb := p.tables) (e := e) (below := below) (s := s) (U := T') X.here hexec X.warmed hpl hown (t := Bundle.initS cls) rfl rfl (Bundle.fit_spec hcls).2
    (a' (.methodLink "MemberChooser" ic (Bundle.initS cls)) (by simp [zAt])) (k3 (.instanceMethod (Bundle.initS cls)) (by simp [Bundle.passSAtoms])) (bytes := bytes) (maxL := 2) (k3 (.code (Bundle.initS cls) bytes 2 none) (by simp [Bundle.passSAtoms]))
    (f := g) hg (a := a) (msg := msg) (rest := .ref a :: rest) hstack hd6
  cases Option.some.inj (hnC.symm.trans hP1m)
  have X₁ := X.noted hW₁
  have hl1 : Ps.length = 1 := hlen
  obtain ⟨vm₂, X₂, st2⟩ := X₁.ctorMessageOffV hexec (g := { g with stack := .ref a :: rest }) hg hsize T L Z LZ M LM (P1 :: P2 :: Ps)
    (fun P hP => by rcases List.mem_cons.mp hP with rfl | hP; exact L1; rcases List.mem_cons.mp hP with rfl | hP; exact L2; exact hL P hP) ⟨hlink1, hlink2, hlink⟩ (u0 := u0) (sen := sen) (self := a) hmsg (cell := freshCell P1.m.cls kX) (cellS := cellS)
    hcell (fun _ => by simp) (by simp) rfl rfl hsel0 hselF hcellS hneS hknownS (by rw [hkeep _ (hout' _)]; exact hu0) (by rw [hkeep _ (hout' _)]; exact hsen)
    (Takes.of_laid hk hord tyC (by rw [Y.causeType]; rfl)) (Takes.of_laid hk hord tyS (by rw [Y.stackType]; exact fits_refV_array _ u0)) (Takes.of_laid hk hord tyP (by rw [Y.suppType]; exact fits_refV_object _ sen))
    (Takes.of_laid hk hord tyM (by rw [Y.msgType]; exact fits_refV_object _ ⟨msg, hmsg⟩)) Y.objLocals hskip htr [] hd6
    (by simp only [List.length_cons, hl1]; omega) (by simp only [List.length_cons, hl1]; exact hRlocals)
  obtain ⟨hwalk, hrun, hended, hWU, hsame⟩ := X₂.athrowLeaves hexec (g := { g with stack := .ref a :: rest, pc := g.pc + 3 }) hg hlocked hentered hout (a := a) (rest := rest) rfl hd9
  have hlt : a < ((T'.setVm vm₁).setVm vm₂).heap.size := (Array.getElem?_eq_some_iff.mp hcell).1
  have hU := heapAt_setCell_self (s := (T'.setVm vm₁).setVm vm₂) (plainBareV T.toThrowableT (freshCell P1.m.cls kX) a u0 sen msg) hlt
  refine ⟨_, st1 _ (fun acts => ?_), hrun, hended, hWU, hsame.weaken (fun y hy hlt' => ?_) (Nat.le_refl _) (Nat.le_refl _), _, hU, rfl, hfound⟩
  · rw [doInvoke_state]
    exact st2 _ hwalk
  · rcases List.mem_append.mp hy with h1 | h1
    · exact h1
    · exfalso
      have hb : y.base = a := by
        simp only [List.mem_cons, List.not_mem_nil, or_false] at h1
        rcases h1 with rfl | rfl | rfl | rfl | rfl <;> rfl
      rw [hb] at hlt'
      exact Nat.not_lt.mpr hnew hlt'
/-- 'throw new E("..")': new; dup; ldc; invokespecial; athrow -/
theorem zz_throw {cls text : String} {ik is ic k idx : Nat} {bytes : ByteArray} {rest : List Value} (hx : p.tables.exec = Jvm.exec) (hb : c.code = cc) (hl0 : l.stackTraces = false) (hown : s.vm.findClass "MemberChooser" = some m.cls) (hts : ∀ w ∈ zTb, w.before args s = true) (hSt : zSt s) (hTh : zTh A0 s.vm s.heap) (hno : ∀ x ∈ c.exceptionTable.toList, False)
    (hfit : Bundle.fit cls = true) (hk : Cond.classLink "MemberChooser" ik cls ∈ zTb) (hini : Cond.initialized cls ∈ zTb) (hins : Cond.instantiable cls 6 ∈ zTb) (hat : (∀ w ∈ zAt ic cls idx bytes, w ∈ zTb ∨ w ∈ zXw) ∧ decode bytes 0 = .ok (.aload_n 0, 1) ∧ decode bytes 1 = .ok (.aload_n 1, 1) ∧ decode bytes 2 = .ok (.invokespecial idx, 3) ∧ decode bytes 5 = .ok (.return_, 1)) (hstr : zXs[k]? = some (is, text))
    (hP : va_P z.1 vwCl w H) (hD : va_D A0 w) (hS : va_S A0 s.heap H locs) (hsize : ls.size = c.maxLocals) (hlocks : meth.locks = false)
    (d0 : decode cc pc = .ok (.new ik, 3)) (d3 : decode cc (pc + 3) = .ok (.dup, 1)) (d4 : decode cc (pc + 4) = .ok (.ldc is, 2)) (d6 : decode cc (pc + 6) = .ok (.invokespecial ic, 3)) (d9 : decode cc (pc + 9) = .ok (.athrow, 1))
    (hRf : 6 ≤ R.frames) (hRl : (rest.map fun v => v.category).sum + 82 ≤ R.locals) (hRc : cells + 1 ≤ R.cells) (hRs : slots + 6 ≤ R.slots) (hc0 : cells + 1 ≤ 1) (hs0 : slots + 6 ≤ 6) :
    W p l e R s m args below meth c H locs cells slots (zXM z below s A0 (.inr cls) w) (F0 m pc ls rest) := by
  intro T hT X
  have htr : e.platform.stackTraces = false := (show e.platform.stackTraces = l.stackTraces by rw [X.admits.platform]).trans hl0
  have Y := zz_rebase X hRc hRs
  obtain ⟨s', hA⟩ : ∃ q, q = (T.setVm s.vm).setFrames (.invoking m args :: below) := ⟨_, rfl⟩
  rw [← hA] at Y
  have hvm : s'.vm = s.vm := by rw [hA]; rfl
  have hhp : s'.heap = H := by rw [hA]; exact hT
  have hW0 : s.WarmedH s'.vm := by rw [hvm]; exact State.WarmedH.refl s
  have hgood : ∀ w ∈ zTb, w.before args s' = true := fun w hw => word_at hW0 (zz_good hw).2 (hts w hw)
  have hxw : ∀ w ∈ zXw, w.before args s' = true := by
    obtain ⟨a, cell, h1, h2, h3⟩ := hTh.kept hS.2.1
    exact fun w hw => h3 s' (by rw [hvm]; exact Vm.Alike.refl _) (by rw [hhp]; exact h1) w hw args
  have h : ∀ w ∈ zAt ic cls idx bytes, w.before args s' = true := fun w hw => (hat.1 w hw).elim (hgood w) (hxw w)
  obtain ⟨sa, hstr⟩ := hSt.1 k _ hstr
  have hstr' : vk_R "MemberChooser" is text sa s' := vk_R.warm hW0 hstr
  have hown' : s'.vm.findClass "MemberChooser" = some m.cls := by rw [hvm]; exact hown
  obtain ⟨vm₁, cX, kX, hfX, hkX, -, -, X₁, st1⟩ := Y.newCold hx (own := "MemberChooser") (C := cls) (index := ik) (n := 6) hown' (hgood _ hk) (hgood _ hins) (hgood _ hini)
    (g := F0 m pc ls rest) rfl (by rw [hb]; exact d0) (Nat.le_refl _) (Nat.le_refl _)
  generalize hT1 : (T.setVm vm₁).pushCell { cls := cX, slots := kX.instanceTypes.map defaultValue, vm := .none } = T1 at X₁ st1
  have hcell : T1.heap[T.heap.size]? = some (freshCell cX kX) := by rw [← hT1]; exact State.heap_pushCell_size _ _
  have hcat : (Value.ref T.heap.size).category = 1 := rfl
  have d3' : decode c.code (pc + 3) = .ok (.dup, 1) := by rw [hb]; exact d3
  obtain ⟨U, hsteps, hrun, hend, hW, hsame, ce, hce, hO, hO2⟩ := zz_ctor X₁ hx htr (cls := cls) (ic := ic) hown' hfit h hat.2.1 hat.2.2.1 hat.2.2.2.1 hat.2.2.2.2 (fun x hx => nomatch hx) hfX hkX hcell (by rw [hhp, hT]; exact Nat.le_refl _) (msg := .ref sa) rfl
    (g := { method := m, pc := pc + 6, locals := ls, stack := .ref sa :: .ref T.heap.size :: .ref T.heap.size :: rest, locked := none }) rfl hsize rfl rfl (rest := rest) rfl
    (by rw [hb]; exact d6) (by rw [hb]; exact d9) (fun x hx => (hno x hx).elim) (by show 5 < R.frames; omega) (by simp only [List.map_cons, List.sum_cons, hcat]; show 0 + (1 + _) + 81 ≤ R.locals; omega) hlocks
  obtain ⟨f1, f2⟩ := zz_oldcells hsame
  rw [hhp] at f1 f2
  have hWs : s.WarmedH U.vm := State.WarmedH.trans hW0 hW
  have hcl : s.vm.findClass cls = some ce.cls := by rw [hvm] at hO2; exact hO2
  have hall : s.sameButNew ({ U with vm := s.vm } : State) locs 1 6 := by
    subst hA
    obtain ⟨e1, e2⟩ := hsame
    rw [State.setFrames_setFrames] at e1
    have h2 : (T.setVm s.vm).sameButNew ({ U with vm := s.vm } : State) [] (0 + 1) (0 + 6) := ⟨e1, e2⟩
    have h3 := X.same.trans h2
    rw [List.append_nil] at h3
    exact h3.mono (by omega) (by omega)
  refine ⟨U, ?_, .threw T.heap.size, hrun, hend, ⟨⟨hP.kept (fun k x hx => f2 x.1 ((hP k x hx).lt)), hD, Nat.le_trans hS.1 f1, fun q h1 h2 => (f2 q (Nat.lt_of_lt_of_le h1 hS.1)).trans (hS.2.1 q h1 h2)⟩, fun x hx => (by cases hx), fun E hE => ?_⟩, hWs, locs, hall, hS.2.2⟩
  · refine st1 _ ?_
    show Steps p.tables e below (T1.setTop { method := m, pc := pc + 3, locals := ls, stack := .ref T.heap.size :: rest, locked := none }) _
    jvm_step X₁.here [X₁.here.top, hx, d3', Value.category]
    exact X₁.ldcString hx (own := "MemberChooser") (text := text) (index := is) (a := sa) hown' hstr'.1 hstr'.2 (g := { method := m, pc := pc + 4, locals := ls, stack := .ref T.heap.size :: .ref T.heap.size :: rest, locked := none }) rfl (by rw [hb]; exact d4) _ hsteps
  · cases hE
    exact ⟨T.heap.size, ce, rfl, hce, hO, hcl⟩
theorem zz_mono {Q' : State → Prop} {g : JFrame} (hq : ∀ t, Q t → Q' t) (k : W p l e R s m args below meth c H locs cells slots Q g) : W p l e R s m args below meth c H locs cells slots Q' g := fun T hT X => by
  obtain ⟨t, a, b⟩ := k T hT X
  exact ⟨t, a, hq t b⟩
theorem zz_xret {σ : Type} {S : σ} {v : Int32} (wf : σ → va_W) (hx : p.tables.exec = Jvm.exec) (hb : c.code = cc) (hr : meth.sig.returnType = some .int) (hlocks : meth.locks = false) (hP : va_P z.1 vwCl (wf S) H) (hD : va_D A0 (wf S)) (hS : va_S A0 s.heap H locs) (hc : cells ≤ 1) (hs : slots ≤ 6) (hdg : decode cc pc = .ok (.ireturn, 1)) :
    W p l e R s m args below meth c H locs cells slots (zXM z below s A0 (.inl (.int v)) (wf S)) (F0 m pc ls [.int v]) := by
  refine zz_mono (Q := MQ below (zQc z A0 (some (.int v)) (wf S)) args s 1 6 A0) (fun t ht => ?_) (W.widen hc hs (W.iret hx hb hr (fun t ht hW => ⟨⟨rfl, by rw [ht]; exact hP, hD⟩, hS.F ht⟩) hS.2.2 hdg hlocks))
  obtain ⟨o, h1, h2, ⟨⟨h3, h4, h5⟩, h6⟩, L, ⟨_, h8, h9⟩, h10⟩ := ht
  exact ⟨o, h1, h2, ⟨⟨h4, h5, h6⟩, fun x hx => (by cases hx; exact h3), fun E hE => (by cases hE)⟩, h8, L, h9, h10⟩
end ZTH
def zEx : Int32 ⊕ Nat → Value ⊕ String
  | .inl v => .inl (.int v)
  | .inr 1 => .inr eIA
  | .inr 2 => .inr eIS
  | .inr 3 => .inr eAR
  | .inr _ => .inr eNS
theorem ox_139 : (∀ w ∈ zAt 139 "java/lang/ArithmeticException" 7 prog_8_method_2_code, w ∈ zTb ∨ w ∈ zXw) ∧ decode prog_8_method_2_code 0 = .ok (.aload_n 0, 1) ∧ decode prog_8_method_2_code 1 = .ok (.aload_n 1, 1) ∧ decode prog_8_method_2_code 2 = .ok (.invokespecial 7, 3) ∧ decode prog_8_method_2_code 5 = .ok (.return_, 1) := ⟨by decide +kernel, by decide +kernel, by decide +kernel, by decide +kernel, by decide +kernel⟩
theorem ox_54 : (∀ w ∈ zAt 54 "java/lang/IllegalArgumentException" 7 prog_10_method_2_code, w ∈ zTb ∨ w ∈ zXw) ∧ decode prog_10_method_2_code 0 = .ok (.aload_n 0, 1) ∧ decode prog_10_method_2_code 1 = .ok (.aload_n 1, 1) ∧ decode prog_10_method_2_code 2 = .ok (.invokespecial 7, 3) ∧ decode prog_10_method_2_code 5 = .ok (.return_, 1) := ⟨by decide +kernel, by decide +kernel, by decide +kernel, by decide +kernel, by decide +kernel⟩
theorem ox_65 : (∀ w ∈ zAt 65 "java/lang/IllegalStateException" 7 prog_11_method_2_code, w ∈ zTb ∨ w ∈ zXw) ∧ decode prog_11_method_2_code 0 = .ok (.aload_n 0, 1) ∧ decode prog_11_method_2_code 1 = .ok (.aload_n 1, 1) ∧ decode prog_11_method_2_code 2 = .ok (.invokespecial 7, 3) ∧ decode prog_11_method_2_code 5 = .ok (.return_, 1) := ⟨by decide +kernel, by decide +kernel, by decide +kernel, by decide +kernel, by decide +kernel⟩
theorem ox_144 : (∀ w ∈ zAt 144 "java/util/NoSuchElementException" 13 prog_17_method_4_code, w ∈ zTb ∨ w ∈ zXw) ∧ decode prog_17_method_4_code 0 = .ok (.aload_n 0, 1) ∧ decode prog_17_method_4_code 1 = .ok (.aload_n 1, 1) ∧ decode prog_17_method_4_code 2 = .ok (.invokespecial 13, 3) ∧ decode prog_17_method_4_code 5 = .ok (.return_, 1) := ⟨by decide +kernel, by decide +kernel, by decide +kernel, by decide +kernel, by decide +kernel⟩
end
section
/-! OWN LAYER: calls of a method that may throw, and what is caught -/
def zcase {α β γ : Type} (r : α ⊕ β) (f : α → Option γ) (g : β → Option γ) : Option γ := match r with
  | .inl a => f a
  | .inr b => g b
/-- a contract with new cells: mc of ms slots -/
def zK (z : zE) (l : Launch) (y : MethodName) (ws : List Cond) (rm : Room) (av : List Value) (w : va_W) (v : Option Value) (w' : va_W) (mc ms : Nat) : Prop :=
  ∀ sz : Nat, Met l y ws rm (zPx z av w sz) (zQc z (va_A w sz) v w') mc ms (va_A w sz)
theorem zX.met {z : zE} {l : Launch} {y : MethodName} {ws : List Cond} {rm : Room} {av : List Value} {w w' : va_W} {x : Value} (h : zX z l y ws rm av w (.inl x) w') : zK z l y ws rm av w (some x) w' 1 6 := by
  intro sz
  refine MetFree.mono (h sz) (fun _ _ q => q) (fun _ _ _ _ _ q => q) ?_
  rintro a st o t - ⟨⟨⟨h1, h2, h3⟩, h4, -⟩, h5, L, h6, h7⟩
  exact ⟨⟨⟨h4 x rfl, h1, h2⟩, h3⟩, L, ⟨⟨_, h4 x rfl⟩, h5, h6⟩, h7⟩
section ZCA
variable {z : zE} {p : Program} {l : Launch} {e : Env} {R : Room} {s : State} {m : MethodId} {args : Array Value} {below : List Frame} {meth : Method} {c : Code} {H : Heap} {locs : List Loc} {Q : State → Prop} {cc : ByteArray} {A0 : Nat → Prop} {pc cells slots : Nat} {ls : Array Slot} {w w' : va_W} {H0 : Heap}
theorem zz_goN {v : Option Value} {rest st0 : List Value} {a : Array Value} {mc ms : Nat} (hr : va_Run p l e R s m args below meth c H locs cells slots mc ms (F0 m pc ls st0) rest (zQc z (va_A w H.size) v w' a) (va_A w H.size)) (hD : va_D A0 w) (hS : va_S A0 H0 H locs) (hA : ∀ q : Nat, H0.size ≤ q → A0 q)
    (kk : ∀ (H1 : Heap) (locs1 : List Loc), va_P z.1 vwCl w' H1 → va_D A0 w' → va_S A0 H0 H1 locs1 → W p l e R s m args below meth c H1 locs1 (cells + mc) (slots + ms) Q (F0 m (pc + 3) ls (v.toList ++ rest))) : W p l e R s m args below meth c H locs cells slots Q (F0 m pc ls st0) := by
  have hF : ∀ q : Nat, va_A w H.size q → A0 q := fun q h => by
    rcases h with ⟨k, x, h⟩ | h
    · exact hD.2 k (q, x) h
    · exact hA q (Nat.le_trans hS.1 h)
  intro T hT X
  obtain ⟨v', st₀, t, T', L, h0, X', hL, e1, e2, ⟨⟨hv, hp, hd⟩, hz, hk⟩, st⟩ := hr T hT X
  cases hv
  rw [h0] at hz hk
  obtain ⟨t2, a1, b1⟩ := kk T'.heap (locs ++ L) (by rw [e1]; exact hp) (hd.weaken (fun _ q _ h => hF q.1 h))
    ⟨Nat.le_trans hS.1 (by rw [e1]; exact hz), fun q h1 h2 => by rw [e1, hk q (Nat.lt_of_lt_of_le h1 hS.1) (fun z => h2 (hF q z))]; exact hS.2.1 q h1 h2, fun q hq => by
      rcases List.mem_append.mp hq with h | h
      · exact hS.2.2 q h
      · exact hF _ (hL q h)⟩ T' rfl X'
  exact ⟨t2, st t2 a1, b1⟩
theorem zz_preX {sz : Nat} {av : List Value} (hK : va_K z.1 vwCl (zty z) s) (hN : zN s) (hSt : zSt s) (hTh : zTh A0 s.vm s.heap) (hP : va_P z.1 vwCl w H) (hD : va_D A0 w) (hS : va_S A0 s.heap H locs) (hA : ∀ q : Nat, s.heap.size ≤ q → A0 q) (hsz : sz = H.size) : ∀ U : State, U.heap = H → s.WarmedH U.vm → zPx z av w sz av.toArray U := by
  intro U hU hW
  refine ⟨rfl, by rw [hU, hsz], by rw [hU]; exact hP, ⟨va_K.moved hW.alike hK, hN.warm hW, hSt.warm hW, ?_⟩, hD.weaken (fun _ _ _ _ => trivial)⟩
  rw [hU]
  refine ((hTh.kept hS.2.1).moved hW.alike).narrow (fun q h => ?_)
  subst hsz
  rcases h with ⟨k, x, h⟩ | h
  · exact hD.2 k (q, x) h
  · exact hA q (Nat.le_trans hS.1 h)
variable {y : MethodName} {bytes : ByteArray} {maxL nL n index mc ms : Nat} {ret : Option FieldType} {ws : List Cond} {rm : Room} {Ts : List Cond} {own C host : String} {b : Addr} {As rest st0 : List Value} {v : Option Value}
theorem zz_runVK (hM : zK z l y ws rm (.ref b :: As) w v w' mc ms) (S : CallFix p m c cc nL s args Ts own) (cw : CallW R s args own C index y bytes maxL ret ws rm mc ms n) (hp : ∀ U : State, U.heap = H → s.WarmedH U.vm → zPx z (.ref b :: As) w H.size (Value.ref b :: As).toArray U) (hrecv : ∃ cell : Cell, H[b]? = some cell ∧ cell.vm.isStatics = false ∧ s.vm.findClass C = some cell.cls)
    (hn : As.length = n) (hsize : ls.size = nL) (hstack : st0 = As.reverse ++ .ref b :: rest) (hW : (rest.map fun v => v.category).sum ≤ 8) (hdg : decode cc pc = .ok (.invokevirtual index, 3)) (hf : cells + mc ≤ R.cells ∧ slots + ms ≤ R.slots) :
    va_Run p l e R s m args below meth c H locs cells slots mc ms (F0 m pc ls st0) rest (zQc z (va_A w H.size) v w' (Value.ref b :: As).toArray) (va_A w H.size) :=
  va_runV S (hM H.size) cw ⟨zz_blindX, hrecv, hp⟩ rfl hn hsize hstack (lv_room hW) hdg hf
/-- a call that throws, and the row of the table that catches it -/
theorem zz_callT {E : String} {hpc : Nat} (hM : zX z l y ws rm (.ref b :: As) w (.inr E) w') (S : CallFix p m c cc nL s args Ts own) (cw : CallW R s args own C index y bytes maxL ret ws rm 1 6 n) (hp : ∀ U : State, U.heap = H → s.WarmedH U.vm → zPx z (.ref b :: As) w H.size (Value.ref b :: As).toArray U) (hrecv : ∃ cell : Cell, H[b]? = some cell ∧ cell.vm.isStatics = false ∧ s.vm.findClass C = some cell.cls)
    (hn : As.length = n) (hsize : ls.size = nL) (hstack : st0 = As.reverse ++ .ref b :: rest) (hW : (rest.map fun v => v.category).sum ≤ 8) (hdg : decode cc pc = .ok (.invokevirtual index, 3)) (hf : cells + 1 ≤ R.cells ∧ slots + 6 ≤ R.slots)
    (hD : va_D A0 w) (hS : va_S A0 H0 H locs) (hA : ∀ q : Nat, H0.size ≤ q → A0 q)
    (pre : List ExceptionTableEntry) (x : ExceptionTableEntry) (suf : List ExceptionTableEntry) (hsplit : c.exceptionTable.toList = pre ++ x :: suf) (hpc' : x.handlerPc = hpc)
    (hpass : ∀ r ∈ pre, r.catchType ≠ 0 ∧ ∃ nm : String, (Cond.classLink own r.catchType nm).before args s = true ∧ va_Nc E nm s) (hx : covers x pc = true) (h0 : x.catchType ≠ 0) (hlink : (Cond.classLink own x.catchType E).before args s = true) (hcast : va_Nw (.castable E E) s)
    (kk : ∀ (H1 : Heap) (locs1 : List Loc) (q : Nat), va_P z.1 vwCl w' H1 → va_D A0 w' → va_S A0 H0 H1 locs1 → W p l e R s m args below meth c H1 locs1 (cells + 1) (slots + 6) Q (F0 m hpc ls [.ref q])) : W p l e R s m args below meth c H locs cells slots Q (F0 m pc ls st0) := by
  obtain ⟨⟨hrc, hrs, hfr, hlo, hws, hcw, hcode, hini, hy, hlen, hlk⟩, hin, hse⟩ := cw
  obtain ⟨hxx, hb, hml, ho, -⟩ := S
  obtain ⟨cellB, hcB, hoB, hclB⟩ := hrecv
  have hF : ∀ q : Nat, va_A w H.size q → A0 q := fun q h => by
    rcases h with ⟨k, x, h⟩ | h
    · exact hD.2 k (q, x) h
    · exact hA q (Nat.le_trans hS.1 h)
  intro T hT X
  have hpl : e.platform.magicAccessors = ({} : Platform).magicAccessors := by rw [X.admits.platform]
  obtain ⟨mk, methM, hnamed, hmethM, hstM, habM⟩ := Cond.instanceMethod_spec hin
  obtain ⟨methM', cM, hmethM', hcM, -, hlM, -, -, -, hsigM⟩ := Cond.code_spec hnamed hcode
  cases hmethM.symm.trans hmethM'
  obtain ⟨c2, r2, m2, q1, q2, q3, q4, kP, hkP, hkPi⟩ := Cond.selects_spec hse
  cases hclB.symm.trans q1
  cases (State.methodFound?_of_named hnamed hy).symm.trans q2
  cases hnamed.symm.trans q3
  have hselP : selectMethod e.platform s.vm cellB.cls mk = .method mk := by rw [Launch.admits_selectMethod X.admits]; exact q4
  obtain ⟨vm₁, X₁, hstep₁⟩ := X.invokevirtual hxx ho hlk hnamed hmethM hstM hkP hkPi hy (a := b) (cell := cellB) (by rw [hT]; exact hcB)
    (fun z h => by rw [h] at hoB; cases hoB) hselP hmethM habM hkP hkPi (g := F0 m pc ls st0) rfl (argsL := As) (rest := rest) (hn.trans (hlen _ hsigM)) hstack (by rw [hb]; exact hdg)
  have hd3 : decode c.code pc = .ok (.invokevirtual index, 3) := by rw [hb]; exact hdg
  have hnm₁ : (T.setVm vm₁).methodNamed? y = some mk := X₁.named hnamed
  obtain ⟨methY, cY, hmY, hcY, -, hlY, -, -, -, -⟩ := Cond.code_spec hnm₁ (hws _ hcw #[] _ X₁.warmed)
  obtain ⟨kY, hkY, -⟩ := className_of_methodNamed hnm₁
  have hini₁ : (Cond.initialized y.cls).before #[] (T.setVm vm₁) = true := word_at (args := args) X₁.warmed (Or.inl (by simp [Cond.onTables, Cond.keeps, Cond.steady])) hini
  have hinitY : kY.init = .initialized := Cond.initialized_spec (findClass_of_methodNamed hnm₁) hkY hini₁
  have happ : (headSpec ws rm).appliesLoose y e.platform ((T.setVm vm₁).calling (F0 m pc ls rest) mk (Value.ref b :: As).toArray) = true :=
    Spec.appliesLoose_calling (g := F0 m pc ls rest) X₁.here hd3 hnm₁ hkY hinitY
      (X₁.room_calling (g := F0 m pc ls rest) (R' := rm) (hsize.trans hml.symm) hmY hcY hfr (by rw [hlY]; have := lv_room (m := m) (pc := pc) (ls := ls) (rest := rest) hW; show _ + (maxL + 11) + rm.locals ≤ R.locals; exact Nat.le_trans (Nat.add_le_add_right (Nat.add_le_add_right this _) _) hlo) (by rw [hrc]; exact hf.1) (by rw [hrs]; exact hf.2)) (atoms_intro fun w hw => hws w hw _ _ X₁.warmed)
  obtain ⟨mid, hmid⟩ := X₁.here.above
  have hfr₁ : ((T.setVm vm₁).setTop (F0 m pc ls rest)).frames = (.java (F0 m pc ls rest) :: mid) ++ below := by rw [State.frames_setTop' _ X₁.here.top, hmid]; rfl
  obtain ⟨o, s₂, hsteps, -, hend, ⟨⟨hq1, hq2, hq3⟩, -, hq5⟩, hq6, L, hq7, hq8⟩ := Steps.callFree (hM H.size) p X.admits X.cas X.clock (acts := []) hfr₁ happ (zz_blindX _ _ (F0 m pc ls rest) mk (hp (T.setVm vm₁) hT X₁.warmed)) trivial
  obtain ⟨q, ce, rfl, hce, hcv, hcl⟩ := hq5 E rfl
  rw [State.frames_setTop' _ X₁.here.top, X₁.tail] at hend
  obtain ⟨T', X', hW', hsame', hs₂⟩ := X₁.outOfThrown (g := F0 m pc ls rest) rfl (mk := mk) (a := (Value.ref b :: As).toArray) hend hq6 hq7
  have hTh : T'.heap = s₂.heap := by rw [hs₂]; rfl
  have hcl' : s.vm.findClass E = some ce.cls := by rw [← X₁.warmed.alike.findClass]; exact hcl
  obtain ⟨c3, c4, hc3, hc4, hasg⟩ := Cond.castable_spec (va_Nw.use (A := args) rfl hcast)
  cases Option.some.inj (hc3.symm.trans hcl')
  obtain ⟨c5, hc5, hcl5⟩ := Cond.classLink_spec ho hlink e.platform hpl
  cases Option.some.inj (hc4.symm.trans hc5)
  obtain ⟨vm', X'', st⟩ := X'.thenCaughtThrough q (g := F0 m pc ls rest) rfl (Steps.refl _) (by rw [hTh]; exact hce) (by rw [hcv]; rfl) (by obtain ⟨k9, h9, -⟩ := Vm.findClass_spec hcl'; exact ⟨k9, h9⟩) pre x suf hsplit
    (fun r hr => by
      obtain ⟨hz0, nm, hl1, c6, t6, h1, h2, h3⟩ := hpass r hr
      obtain ⟨c7, hc7, hcl7⟩ := Cond.classLink_spec ho hl1 e.platform hpl
      cases Option.some.inj (h1.symm.trans hcl')
      cases Option.some.inj (h2.symm.trans hc7)
      exact Or.inr ⟨hz0, _, hcl7, h3⟩) hx (Or.inr ⟨h0, c4, hcl5, hasg⟩)
  have hz : H.size ≤ s₂.heap.size := by have := hq3.1; rw [show ((T.setVm vm₁).setTop (F0 m pc ls rest)).pushFrame (.invoking mk (Value.ref b :: As).toArray) = _ from rfl] at this; rw [← hT]; exact this
  have hk : ∀ q : Nat, q < H.size → ¬ va_A w H.size q → s₂.heap[q]? = H[q]? := fun q h1 h2 => by
    have := hq3.2 q (by rw [show (((T.setVm vm₁).setTop (F0 m pc ls rest)).pushFrame (.invoking mk (Value.ref b :: As).toArray)).heap = T.heap from rfl, hT]; exact h1) h2
    rw [this]
    show T.heap[q]? = H[q]?
    rw [hT]
  obtain ⟨t2, a1, b1⟩ := kk (T'.setVm vm').heap (locs ++ L) q (by show va_P z.1 vwCl w' T'.heap; rw [hTh]; exact hq1) (hq2.weaken (fun _ q _ h => hF q.1 h))
    ⟨Nat.le_trans hS.1 (by show _ ≤ T'.heap.size; rw [hTh]; exact hz), fun q h1 h2 => by
      show T'.heap[q]? = _
      rw [hTh, hk q (Nat.lt_of_lt_of_le h1 hS.1) (fun z => h2 (hF q z))]; exact hS.2.1 q h1 h2, fun q hq => by
      rcases List.mem_append.mp hq with h | h
      · exact hS.2.2 q h
      · exact hF _ (hq8 q h)⟩ (T'.setVm vm') rfl X''
  refine ⟨t2, hstep₁ _ (fun acts => ?_), b1⟩
  rw [doInvoke_state]
  refine hsteps.trans ?_
  rw [hs₂]
  refine st.trans ?_
  rw [hpc']
  exact a1
end ZCA
end
section
def va_AOA (ty : FieldType) (U : State) : Prop := (Cond.arrayOver (.array ty)).before #[] U = true
theorem va_AOA.use {ty : FieldType} {A : Array Value} {U : State} (h : va_AOA ty U) : (Cond.arrayOver (.array ty)).before A U = true := h
theorem va_AOA.moved {ty : FieldType} {u U : State} (hvm : u.vm.Alike U.vm) (h : va_AOA ty u) : va_AOA ty U := by
  have h1 := Cond.arrayOver_setVmC (args := #[]) hvm (.array ty)
  unfold va_AOA at h ⊢
  rw [h] at h1
  exact h1
/-! ===== BEGIN new T[n][m]: the outer array a place, the inner ones among the pooled ===== -/
/-- f, but v at every address of l -/
def vr_up {α : Type} (f : Nat → α) (l : List Nat) (v : α) : Nat → α := fun a => if a ∈ l then v else f a
theorem vr_up_in {α : Type} {f : Nat → α} {l : List Nat} {v : α} {a : Nat} (h : a ∈ l) : vr_up f l v a = v := if_pos h
theorem vr_up_ne {α : Type} {f : Nat → α} {l : List Nat} {v : α} {a : Nat} (h : a ∉ l) : vr_up f l v a = f a := if_neg h
theorem vr_rows {L l : List Nat} {f : Nat → va_E} {e : va_E} (h : ∀ a, a ∈ l → a ∉ L) : va_pl L f ++ l.map (fun a => (a, e)) = va_pl (L ++ l) (vr_up f l e) := by
  unfold va_pl
  rw [List.map_append]
  congr 1
  · apply List.map_congr_left
    intro a ha
    rw [vr_up_ne (fun q => h a q ha)]
  · apply List.map_congr_left
    intro a ha
    rw [vr_up_in ha]
theorem vr_lay {X rows : va_W} {x : Nat × va_E} {pl : va_W} {D : va_G} {cl : List vw_C} {H : Heap} (hP : va_P D cl (((X ++ pl) ++ [x]) ++ rows) H) : va_P D cl ((X ++ [x]) ++ (pl ++ rows)) H := by
  rw [List.append_assoc (X ++ pl)] at hP
  have h := va_P.swap hP
  rw [← List.append_assoc X] at h
  have h2 := va_P.swap h
  rw [List.append_assoc (X ++ [x])] at h2
  exact h2
theorem vr_layD {X rows : va_W} {x : Nat × va_E} {pl : va_W} {A : Nat → Prop} (hD : va_D A (((X ++ pl) ++ [x]) ++ rows)) : va_D A ((X ++ [x]) ++ (pl ++ rows)) := by
  rw [List.append_assoc (X ++ pl)] at hD
  have h := va_D.swap hD
  rw [← List.append_assoc X] at h
  have h2 := va_D.swap h
  rw [List.append_assoc (X ++ [x])] at h2
  exact h2
theorem vr_outer (c : ClassId) (N h0 : Nat) : ∀ i : Nat, Jvm.Free.Multi.outerC c N h0 i = arrV c N (fun j => va_rf (if j < i then some (h0 + 1 + j) else none))
  | 0 => by
    show ({ cls := c, slots := Array.replicate N .null, vm := .none } : Cell) = _
    rw [arrV_new]
    refine congrArg (arrV c N) (funext fun j => ?_)
    simp [va_rf]
  | i + 1 => by
    show (Jvm.Free.Multi.outerC c N h0 i).setSlot i (.ref (h0 + 1 + i)) = _
    rw [vr_outer c N h0 i, arrV_store]
    refine congrArg (arrV c N) (funext fun j => ?_)
    by_cases e : j = i
    · subst e
      simp [updV, va_rf]
    · by_cases h : j < i
      · simp [updV, e, h, Nat.lt_succ_of_lt h]
      · simp [updV, e, h, show ¬ j < i + 1 by omega]
section VGM
variable {p : Program} {l : Launch} {e : Env} {R : Room} {s : State} {m : MethodId} {args : Array Value} {below : List Frame} {meth : Method} {c : Code} {H : Heap} {locs : List Loc} {cells slots : Nat} {Q : State → Prop}
variable {cc : ByteArray} {pc : Nat} {ls : Array Slot} {rest : List Value} {D : va_G} {cl : List vw_C} {A : Nat → Prop} {a : Nat} {tys : List (ClassId × FieldType)} {ws : va_W} {H0 : Heap}
theorem va_mna {X : va_W} {L : List Nat} {f : Nat → va_E} {cc : ByteArray} (hexec : p.tables.exec = Jvm.exec) (hb : c.code = cc) {own : String} {index : Nat} {ty : FieldType} {cy : ClassId} (hown : s.vm.findClass own = some m.cls) (hclink : (Cond.classLink own index ("[" ++ (FieldType.array ty).toString)).before args s = true) (hover : va_AOA ty s) (harr : (Cond.arrayClass ty).before args s = true) (hcy : s.vm.findClass (FieldType.array ty).toString = some cy)
    (hK : va_K D cl tys s) (hP : va_P D cl (X ++ va_pl L f) H) (hD : va_D A (X ++ va_pl L f)) (hS : va_S A H0 H locs) (hA : ∀ q, H0.size ≤ q → A q) {n k : Int32} {N' K' : Nat} {z : vp_A} (hn : ¬ n < 0) (hk : ¬ k < 0) (hN : n.toNatClampNeg = N') (hM : k.toNatClampNeg = K')
    (hb1 : N' * 4 ≤ 536870912) (hb2 : K' * componentBytes ty ≤ 536870912) (hb3 : K' ≤ 536870912) (hdf : fits ty (defaultValue ty) = true) (hdd : (defaultValue ty).isDefault = true) (hcells : cells + (1 + N') ≤ R.cells) (hslots : slots + (N' + N' * K') ≤ R.slots) (hz : ∀ c : ClassId, Jvm.Free.Multi.innerC c K' (defaultValue ty) = vp_cell c z) (hdg : decode cc pc = .ok (.multianewarray index 2, 4))
    (kk : ∀ (q : Nat) (r : Nat → Nat) (cA : ClassId) (H1 : Heap), (∀ i j : Nat, i < N' → j < N' → r i = r j → i = j) → (∀ i : Nat, i < N' → r i ∉ L) → va_K D cl (tys ++ [(cA, .array ty)]) s →
      va_P D cl ((X ++ [(q, .inl (cA, N', .inr (.inr (.inr (.inr (fun i => if i < N' then some (r i) else none))))))]) ++ va_pl (L ++ (List.range N').map r) (vr_up f ((List.range N').map r) (.inl (cy, z)))) H1 → va_D A ((X ++ [(q, .inl (cA, N', .inr (.inr (.inr (.inr (fun i => if i < N' then some (r i) else none))))))]) ++ va_pl (L ++ (List.range N').map r) (vr_up f ((List.range N').map r) (.inl (cy, z)))) → va_S A H0 H1 locs →
      W p l e R s m args below meth c H1 locs (cells + 1 + N') (slots + N' + N' * K') Q (F0 m (pc + 4) ls (.ref q :: rest))) : W p l e R s m args below meth c H locs cells slots Q (F0 m pc ls (.int k :: .int n :: rest)) := by
  subst hN
  subst hM
  intro T hT Xs
  obtain ⟨vm₁, cA, comp, -, fA, fC, hO, -, X', step⟩ := Xs.multianewarray2F hexec hown hclink (va_AOA.use hover) harr (g := F0 m pc ls (.int k :: .int n :: rest)) rfl (by rw [hb]; exact hdg) rfl hn hk hb1 hb2 hb3 hdf hdd hcells hslots
  have ec : some cy = some comp := hcy.symm.trans fC
  cases ec
  generalize hF : Jvm.Free.Multi.fill (T.setVm vm₁) cA cy n.toNatClampNeg k.toNatClampNeg (defaultValue ty) n.toNatClampNeg = F at X' step
  have hTh : (T.setVm vm₁).heap = H := hT
  obtain ⟨f1, f2, -, -⟩ := Jvm.Free.Multi.fill_facts (T.setVm vm₁) cA cy n.toNatClampNeg k.toNatClampNeg (defaultValue ty) n.toNatClampNeg
  rw [hF, hTh] at f1 f2
  have hold : ∀ x : Nat, x < H.size → F.heap[x]? = H[x]? := fun x hx => by
    have := Jvm.Free.Multi.fill_old (T.setVm vm₁) cA cy n.toNatClampNeg k.toNatClampNeg (defaultValue ty) (a := x) (by rw [hTh]; exact hx) n.toNatClampNeg
    rw [hF, hTh] at this
    exact this
  have hrow : ∀ j : Nat, j < n.toNatClampNeg → F.heap[H.size + 1 + j]? = some (vp_cell cy z) := fun j hj => by
    have := Jvm.Free.Multi.fill_inner (T.setVm vm₁) cA cy n.toNatClampNeg k.toNatClampNeg (defaultValue ty) n.toNatClampNeg j hj
    rw [hF, hTh, hz] at this
    exact this
  have hout : Jvm.Free.Multi.outerC cA n.toNatClampNeg H.size n.toNatClampNeg = vp_cell cA (n.toNatClampNeg, .inr (.inr (.inr (.inr (fun i => if i < n.toNatClampNeg then some (H.size + 1 + i) else none))))) := by
    rw [vp_cell_q]
    exact vr_outer cA n.toNatClampNeg H.size n.toNatClampNeg
  rw [hout] at f2
  have hlt : ∀ a, a ∈ L → a < H.size := fun a ha => by
    obtain ⟨k9, hk9⟩ := va_pl_get (X := X) (f := f) ha
    exact (hP k9 _ hk9).lt
  have hnl : ∀ i : Nat, i < n.toNatClampNeg → H.size + 1 + i ∉ L := fun i _ h => by
    have := hlt _ h
    omega
  have hnm : ∀ a, a ∈ (List.range n.toNatClampNeg).map (fun i => H.size + 1 + i) → a ∉ L := fun a ha h => by
    obtain ⟨i, -, rfl⟩ := List.mem_map.mp ha
    have := hlt _ h
    omega
  have hP0 : va_P D cl (X ++ va_pl L f) F.heap := hP.kept (fun k9 x hx => hold x.1 ((hP k9 x hx).lt))
  have hP1 : va_P D cl ((X ++ va_pl L f) ++ [(H.size, .inl (cA, n.toNatClampNeg, .inr (.inr (.inr (.inr (fun i => if i < n.toNatClampNeg then some (H.size + 1 + i) else none))))))]) F.heap := hP0.app (fun k9 x hx => by
    have h0 : k9 < 1 := (List.getElem?_eq_some_iff.mp hx).1
    rw [show k9 = 0 by omega] at hx
    cases hx
    exact f2)
  have hP2 : va_P D cl (((X ++ va_pl L f) ++ [(H.size, .inl (cA, n.toNatClampNeg, .inr (.inr (.inr (.inr (fun i => if i < n.toNatClampNeg then some (H.size + 1 + i) else none))))))]) ++ ((List.range n.toNatClampNeg).map (fun i => H.size + 1 + i)).map (fun a => (a, .inl (cy, z)))) F.heap := hP1.app (fun k9 x hx => by
    obtain ⟨a, ha, rfl⟩ := List.mem_map.mp (List.mem_of_getElem? hx)
    obtain ⟨i, hi, rfl⟩ := List.mem_map.mp ha
    exact hrow i (List.mem_range.mp hi))
  have hD2 : va_D A (((X ++ va_pl L f) ++ [(H.size, .inl (cA, n.toNatClampNeg, .inr (.inr (.inr (.inr (fun i => if i < n.toNatClampNeg then some (H.size + 1 + i) else none))))))]) ++ ((List.range n.toNatClampNeg).map (fun i => H.size + 1 + i)).map (fun a => (a, .inl (cy, z)))) := by
    have hD1 := hD.push (e := .inl (cA, n.toNatClampNeg, .inr (.inr (.inr (.inr (fun i => if i < n.toNatClampNeg then some (H.size + 1 + i) else none)))))) hP rfl (hA _ hS.1)
    generalize hW1 : (X ++ va_pl L f) ++ [(H.size, .inl (cA, n.toNatClampNeg, .inr (.inr (.inr (.inr (fun i => if i < n.toNatClampNeg then some (H.size + 1 + i) else none))))))] = W1 at hD1 hP1 ⊢
    have hle : ∀ (k9 : Nat) (x : Nat × va_E), W1[k9]? = some x → x.1 ≤ H.size := fun k9 x hx => by
      rw [← hW1] at hx
      by_cases hl : k9 < (X ++ va_pl L f).length
      · rw [List.getElem?_append_left hl] at hx
        exact Nat.le_of_lt ((hP k9 x hx).lt)
      · rw [List.getElem?_append_right (by omega)] at hx
        have h0 : k9 - (X ++ va_pl L f).length < 1 := (List.getElem?_eq_some_iff.mp hx).1
        rw [show k9 - (X ++ va_pl L f).length = 0 by omega] at hx
        cases hx
        exact Nat.le_refl _
    have hr : ∀ (k9 : Nat) (x : Nat × va_E), (((List.range n.toNatClampNeg).map (fun i => H.size + 1 + i)).map (fun a => ((a, .inl (cy, z)) : Nat × va_E)))[k9]? = some x → x.1 = H.size + 1 + k9 := fun k9 x hx => by
      rw [List.getElem?_map, List.getElem?_map] at hx
      by_cases h9 : k9 < n.toNatClampNeg
      · rw [List.getElem?_range h9] at hx
        cases hx
        rfl
      · have hn0 : (List.range n.toNatClampNeg)[k9]? = none := List.getElem?_eq_none (by rw [List.length_range]; omega)
        rw [hn0] at hx
        cases hx
    refine ⟨fun i j x y hi hj hxy => ?_, fun k9 x hx => ?_⟩
    · by_cases h1 : i < W1.length <;> by_cases h2 : j < W1.length
      · rw [List.getElem?_append_left h1] at hi
        rw [List.getElem?_append_left h2] at hj
        exact hD1.1 i j x y hi hj hxy
      · rw [List.getElem?_append_left h1] at hi
        rw [List.getElem?_append_right (by omega)] at hj
        have := hle _ _ hi
        have := hr _ _ hj
        omega
      · rw [List.getElem?_append_right (by omega)] at hi
        rw [List.getElem?_append_left h2] at hj
        have := hle _ _ hj
        have := hr _ _ hi
        omega
      · rw [List.getElem?_append_right (by omega)] at hi hj
        have := hr _ _ hi
        have := hr _ _ hj
        omega
    · by_cases h1 : k9 < W1.length
      · rw [List.getElem?_append_left h1] at hx
        exact hD1.2 k9 x hx
      · rw [List.getElem?_append_right (by omega)] at hx
        have := hr _ _ hx
        exact hA _ (by have := hS.1; omega)
  have hAr : ArrOfT s cA (.array ty) := fun N9 z9 => by
    obtain ⟨-, k9, hk9, cm9, hkk9⟩ := (hO 0 0 0).1
    exact ⟨(fun q hq => by cases hq), k9, hk9, cm9, hkk9⟩
  have hK2 : va_K D cl (tys ++ [(cA, .array ty)]) s := ⟨hK.1, fun k9 x hx => by
    by_cases hl : k9 < tys.length
    · rw [List.getElem?_append_left hl] at hx
      exact hK.2 k9 x hx
    · rw [List.getElem?_append_right (by omega)] at hx
      have h0 : k9 - tys.length < 1 := (List.getElem?_eq_some_iff.mp hx).1
      rw [show k9 - tys.length = 0 by omega] at hx
      cases hx
      exact ⟨hAr, fA⟩⟩
  obtain ⟨t, a1, b1⟩ := kk H.size (fun i => H.size + 1 + i) cA F.heap (fun i j _ _ h => by have h9 : H.size + 1 + i = H.size + 1 + j := h; omega) hnl hK2 (by rw [← vr_rows hnm]; exact vr_lay hP2) (by rw [← vr_rows hnm]; exact vr_layD hD2) ⟨by rw [f1]; have := hS.1; omega, fun x h1 h2 => (hold x (Nat.lt_of_lt_of_le h1 hS.1)).trans (hS.2.1 x h1 h2), hS.2.2⟩ F rfl X'
  refine ⟨t, step t ?_, b1⟩
  have e : T.heap.size = H.size := by rw [hT]
  rw [e]
  exact a1
end VGM
/-! ===== END ===== -/

/-! OWN LAYER: constructors; the world behind one is known but for its new addresses -/
def zad (l : List Nat) (k : Nat) : Nat := l.getD k 0
def zPi (z : zE) (av : List Value) (w : va_W) (sz : Nat) : Array Value → State → Prop := va_Pc av (fun U => U.heap.size = sz ∧ va_P z.1 vwCl w U.heap ∧ (va_K z.1 vwCl (zty z) U ∧ zN U ∧ va_AOA .int U) ∧ va_D (fun _ => True) w)
theorem zz_blindI {z : zE} {av : List Value} {w : va_W} {sz : Nat} : FrameBlind (zPi z av w sz) := fun a U g mk q => by
  obtain ⟨q0, q1, qP, ⟨qK, qN, qO⟩, qD⟩ := q
  exact ⟨q0, q1, qP, ⟨va_K.moved (u := U) (U := U.calling g mk a) (Vm.Alike.refl U.vm) qK, zN.same qN rfl, va_AOA.moved (Vm.Alike.refl U.vm) qO⟩, qD⟩
def zQe (z : zE) (A : Nat → Prop) (v : Option Value) (Pw : va_W → Prop) : Array Value → State → Outcome → State → Prop := fun _ st oc t => (oc = .returned v ∧ ∃ w', Pw w' ∧ va_P z.1 vwCl w' t.heap ∧ va_D A w') ∧ va_F A st t
def zCe (z : zE) (l : Launch) (y : MethodName) (ws : List Cond) (rm : Room) (av : List Value) (w : va_W) (v : Option Value) (Pw : va_W → Prop) (mc ms : Nat) : Prop :=
  ∀ sz : Nat, Met l y ws rm (zPi z av w sz) (zQe z (va_A w sz) v Pw) mc ms (va_A w sz)
theorem zz_ofE {z : zE} {l : Launch} {y : MethodName} {cc : ByteArray} {maxL mc ms : Nat} {ret : Option FieldType} {rm : Room} {av : List Value} {w : va_W} {v : Option Value} {Pw : va_W → Prop} (hy : plainName y.cls = true) (hnl : (lg_sl av).length ≤ maxL)
    (body : ∀ (p : Program) (e : Env) (s : State) (m : MethodId) (args : Array Value) (below : List Frame) (meth : Method) (c : Code) (A0 : Nat → Prop) (ls : Array Slot), zM z p s m args c cc maxL y.cls → va_AOA .int s → meth.name = y.name → meth.sig.returnType = ret → meth.locks = false → (∀ q : Nat, s.heap.size ≤ q → A0 q) →
      va_P z.1 vwCl w s.heap → va_D A0 w → lv_has ls maxL (lv_args 0 av) → W p l e rm s m args below meth c s.heap [] 0 0 (MQ below (zQe z A0 v Pw) args s mc ms A0) (F0 m 0 ls [])) : zCe z l y (Cond.code y cc maxL ret :: zTb) rm av w v Pw mc ms := by
  intro sz
  refine Met.ofW (cc := cc) (maxL := maxL) (ret := ret) hy rfl ?_
  intro p e s m args below meth c s₁ B hml hv
  obtain ⟨rfl, hsz, hP, ⟨hK, hN, hO⟩, hD0⟩ := hv
  have hts := atoms_spec (ws := Cond.code y cc maxL ret :: zTb) B.pre
  have hown : s.vm.findClass y.cls = some m.cls := findClass_of_methodNamed B.named
  subst hsz
  have hl := lv_entry av (n := maxL) hnl
  rw [lg_entry_eq]
  exact body p e s m _ below meth c _ _ ⟨B.exec, B.bytes, hml, hown, fun w h => hts w (List.mem_cons_of_mem _ h), hK, hN⟩ hO (name_of_methodNamed B.named B.method).1 B.returns B.notSynchronized (fun q h => Or.inr h) hP (hD0.self (sz := s.heap.size)) hl
section ZCT
variable {z : zE} {p : Program} {l : Launch} {e : Env} {R : Room} {s : State} {m : MethodId} {args : Array Value} {below : List Frame} {meth : Method} {c : Code} {H : Heap} {locs : List Loc} {Q : State → Prop} {cc : ByteArray} {A0 : Nat → Prop} {pc cells slots : Nat} {ls : Array Slot} {w w' : va_W} {H0 : Heap} {rest : List Value}
theorem zz_vretE {Pw : va_W → Prop} {mc ms : Nat} (hx : p.tables.exec = Jvm.exec) (hb : c.code = cc) (hr : meth.sig.returnType = none) (hlocks : meth.locks = false) (hw : Pw w) (hP : va_P z.1 vwCl w H) (hD : va_D A0 w) (hS : va_S A0 s.heap H locs) (hc : cells ≤ mc) (hs : slots ≤ ms) (hdg : decode cc pc = .ok (.return_, 1)) :
    W p l e R s m args below meth c H locs cells slots (MQ below (zQe z A0 none Pw) args s mc ms A0) (F0 m pc ls []) :=
  W.widen hc hs (W.vret hx hb hr (fun t ht hW => ⟨⟨rfl, w, hw, by rw [ht]; exact hP, hD⟩, hS.F ht⟩) hS.2.2 hdg hlocks)
theorem zz_swP {D : va_G} {cl : List vw_C} {a b : va_W} (h : va_P D cl (a ++ b) H) : va_P D cl (b ++ a) H := va_P.swap (a := []) h
theorem zz_swD {A : Nat → Prop} {a b : va_W} (h : va_D A (a ++ b)) : va_D A (b ++ a) := va_D.swap (a := []) h
theorem zz_s3P {D : va_G} {cl : List vw_C} {a b d : va_W} (h : va_P D cl (a ++ (b ++ d)) H) : va_P D cl (b ++ (a ++ d)) H := by
  have h1 := zz_swP h
  rw [List.append_assoc] at h1
  have h2 : va_P D cl ((b ++ d) ++ a) H := by rw [List.append_assoc]; exact h1
  have h3 := va_P.swap h2
  rw [List.append_assoc] at h3
  exact h3
theorem zz_s3D {A : Nat → Prop} {a b d : va_W} (h : va_D A (a ++ (b ++ d))) : va_D A (b ++ (a ++ d)) := by
  have h1 := zz_swD h
  rw [List.append_assoc] at h1
  have h2 : va_D A ((b ++ d) ++ a) := by rw [List.append_assoc]; exact h1
  have h3 := va_D.swap h2
  rw [List.append_assoc] at h3
  exact h3
/-- a new array of numbers, behind the first cells -/
theorem zz_newa {L Rr : va_W} (hexec : p.tables.exec = Jvm.exec) (hb : c.code = cc) {atype : ArrayType} {ty : FieldType} {cA : ClassId} (t0 : Nat) (harr : (Cond.arrayClass (newarray.typeOf atype)).before args s = true) (hty : newarray.typeOf atype = ty) (ht : (zty z)[t0]? = some (cA, ty)) (hno : ∀ C : String, ty ≠ .object C) (hK : va_K z.1 vwCl (zty z) s) (hP : va_P z.1 vwCl (L ++ Rr) H) (hD : va_D A0 (L ++ Rr)) (hS : va_S A0 H0 H locs) (hA : ∀ q : Nat, H0.size ≤ q → A0 q)
    {n : Int32} {N' : Nat} {a0 : vp_A} (ha : ∀ cA : ClassId, vp_cell cA a0 = arrV cA N' (fun _ => defaultValue ty)) (hn : ¬ n < 0) (hN : n.toNatClampNeg = N') (hbytes : N' * componentBytes ty ≤ 536870912) (hcells : cells + 1 ≤ R.cells) (hslots : slots + N' ≤ R.slots) (hdg : decode cc pc = .ok (.newarray atype, 2))
    (kk : ∀ (q : Nat) (H1 : Heap), va_P z.1 vwCl ((L ++ [(q, .inl (cA, a0))]) ++ Rr) H1 → va_D A0 ((L ++ [(q, .inl (cA, a0))]) ++ Rr) → va_S A0 H0 H1 locs →
      W p l e R s m args below meth c H1 locs (cells + 1) (slots + N') Q (F0 m (pc + 2) ls (.ref q :: rest))) : W p l e R s m args below meth c H locs cells slots Q (F0 m pc ls (.int n :: rest)) := by
  refine va_newa hexec hb harr hty hK hP hD hS hA ha hn hN hbytes hcells hslots hdg (fun q cB H1 hK1 hP1 hD1 hS1 => ?_)
  have e1 := (hK1.2 4 (cB, ty) rfl).2
  have e2 := (hK.2 t0 _ ht).2
  have e : cB = cA := by
    cases ty with
    | object C => exact absurd rfl (hno C)
    | _ => exact Option.some.inj (e1.symm.trans e2)
  subst e
  exact kk q H1 (va_P.swap hP1) (va_D.swap hD1) hS1
/-- new int[32][24] -/
theorem zz_mna {L Rr : va_W} {own : String} {index : Nat} (hexec : p.tables.exec = Jvm.exec) (hb : c.code = cc) (hown : s.vm.findClass own = some m.cls) (hclink : (Cond.classLink own index "[[I").before args s = true) (hover : va_AOA .int s) (harr : (Cond.arrayClass .int).before args s = true) (hK : va_K z.1 vwCl (zty z) s) (hP : va_P z.1 vwCl (L ++ Rr) H) (hD : va_D A0 (L ++ Rr)) (hS : va_S A0 H0 H locs) (hA : ∀ q : Nat, H0.size ≤ q → A0 q)
    (hcells : cells + 33 ≤ R.cells) (hslots : slots + 800 ≤ R.slots) (hdg : decode cc pc = .ok (.multianewarray index 2, 4))
    (kk : ∀ (q : Nat) (r : Nat → Nat) (H1 : Heap), va_P z.1 vwCl ((L ++ [(q, .inl (zG z, 32, .inr (.inr (.inr (.inr (fun i => some (r i)))))))]) ++ ((List.range 32).map (fun i => (r i, (.inl (zI z, 24, .inl (fun _ => 0)) : va_E))) ++ Rr)) H1 → va_D A0 ((L ++ [(q, .inl (zG z, 32, .inr (.inr (.inr (.inr (fun i => some (r i)))))))]) ++ ((List.range 32).map (fun i => (r i, (.inl (zI z, 24, .inl (fun _ => 0)) : va_E))) ++ Rr)) → va_S A0 H0 H1 locs →
      W p l e R s m args below meth c H1 locs (cells + 33) (slots + 800) Q (F0 m (pc + 4) ls (.ref q :: rest))) : W p l e R s m args below meth c H locs cells slots Q (F0 m pc ls (.int 24 :: .int 32 :: rest)) := by
  have hI : s.vm.findClass (FieldType.array .int).toString = some (zI z) := (hK.2 0 _ rfl).2
  have hG : s.vm.findClass ("[" ++ (FieldType.array .int).toString) = some (zG z) := (hK.2 3 _ rfl).2
  refine va_mna (X := L ++ Rr) (L := []) (f := fun _ => .inl (zI z, 24, .inl (fun _ => 0))) (z := (24, .inl (fun _ => 0))) (N' := 32) (K' := 24) hexec hb hown hclink hover harr hI hK (by rw [show va_pl [] _ = [] from rfl, List.append_nil]; exact hP) (by rw [show va_pl [] _ = [] from rfl, List.append_nil]; exact hD) hS hA (by decide) (by decide) (by decide) (by decide) (by decide) (by decide) (by decide) rfl rfl hcells hslots (fun c => by rw [vp_cell_i, ← arrV_new]; rfl) hdg ?_
  intro q r cA H1 hinj hnot hK1 hP1 hD1 hS1
  have ec : cA = zG z := Option.some.inj ((hK1.2 4 (cA, .array .int) rfl).2.symm.trans hG)
  subst ec
  have er : va_pl ([] ++ (List.range 32).map r) (vr_up (fun _ => (.inl (zI z, 24, .inl (fun _ => 0)) : va_E)) ((List.range 32).map r) (.inl (zI z, 24, .inl (fun _ => 0)))) = (List.range 32).map (fun i => (r i, (.inl (zI z, 24, .inl (fun _ => 0)) : va_E))) := by
    unfold va_pl
    rw [List.nil_append, List.map_map]
    refine List.map_congr_left (fun i _ => ?_)
    show (r i, vr_up _ _ _ (r i)) = _
    unfold vr_up
    split <;> rfl
  rw [er] at hP1 hD1
  have hcell : vp_cell (zG z) (32, .inr (.inr (.inr (.inr (fun i => if i < 32 then some (r i) else none))))) = vp_cell (zG z) (32, .inr (.inr (.inr (.inr (fun i => some (r i)))))) := by
    rw [vp_cell_q, vp_cell_q]
    unfold arrV
    congr 1
  have sP : va_P z.1 vwCl ((((L ++ Rr) ++ [(q, (.inl (zG z, 32, .inr (.inr (.inr (.inr (fun i => some (r i)))))) : va_E))]) ++ (List.range 32).map (fun i => (r i, (.inl (zI z, 24, .inl (fun _ => 0)) : va_E))))) H1 := by
    refine va_P.app (va_P.app ?_ ?_) ?_
    · intro k x hx
      have hk : k < (L ++ Rr).length := (List.getElem?_eq_some_iff.mp hx).1
      exact hP1 k x (by rw [List.getElem?_append_left (by simp; simp at hk; omega), List.getElem?_append_left hk]; exact hx)
    · intro k x hx
      have hk : k < 1 := (List.getElem?_eq_some_iff.mp hx).1
      rw [show k = 0 by omega] at hx
      cases hx
      have h9 := hP1 (L ++ Rr).length (q, .inl (zG z, 32, .inr (.inr (.inr (.inr (fun i => if i < 32 then some (r i) else none)))))) (by rw [List.getElem?_append_left (by simp), List.getElem?_append_right (Nat.le_refl _)]; simp)
      show H1[q]? = some (vp_cell _ _)
      rw [← hcell]
      exact h9
    · intro k x hx
      exact hP1 (((L ++ Rr) ++ [(q, (.inl (zG z, 32, .inr (.inr (.inr (.inr (fun i => if i < 32 then some (r i) else none))))) : va_E))]).length + k) x (by rw [List.getElem?_append_right (Nat.le_add_right _ _)]; rw [Nat.add_sub_cancel_left]; exact hx)
  have sD : va_D A0 ((((L ++ Rr) ++ [(q, (.inl (zG z, 32, .inr (.inr (.inr (.inr (fun i => some (r i)))))) : va_E))]) ++ (List.range 32).map (fun i => (r i, (.inl (zI z, 24, .inl (fun _ => 0)) : va_E))))) := by
    have key : ∀ (k : Nat) (x : Nat × va_E), ((((L ++ Rr) ++ [(q, (.inl (zG z, 32, .inr (.inr (.inr (.inr (fun i => some (r i)))))) : va_E))]) ++ (List.range 32).map (fun i => (r i, (.inl (zI z, 24, .inl (fun _ => 0)) : va_E)))))[k]? = some x → ∃ y : Nat × va_E, ((((L ++ Rr) ++ [(q, (.inl (zG z, 32, .inr (.inr (.inr (.inr (fun i => if i < 32 then some (r i) else none))))) : va_E))]) ++ (List.range 32).map (fun i => (r i, (.inl (zI z, 24, .inl (fun _ => 0)) : va_E)))))[k]? = some y ∧ y.1 = x.1 := by
      intro k x hx
      by_cases h1 : k < (L ++ Rr).length
      · rw [List.getElem?_append_left (by simp; simp at h1; omega), List.getElem?_append_left h1] at hx ⊢
        exact ⟨x, hx, rfl⟩
      · by_cases h2 : k = (L ++ Rr).length
        · subst h2
          rw [List.getElem?_append_left (by simp), List.getElem?_append_right (Nat.le_refl _)] at hx ⊢
          simp at hx ⊢
          rw [← hx]
        · rw [List.getElem?_append_right (by simp; simp at h1 h2; omega)] at hx ⊢
          refine ⟨x, ?_, rfl⟩
          simpa using hx
    refine ⟨fun i j x y hi hj hxy => ?_, fun k x hx => ?_⟩
    · obtain ⟨x', hx', ex⟩ := key i x hi
      obtain ⟨y', hy', ey⟩ := key j y hj
      exact hD1.1 i j x' y' hx' hy' (by rw [ex, ey]; exact hxy)
    · obtain ⟨x', hx', ex⟩ := key k x hx
      rw [← ex]
      exact hD1.2 k x' hx'
  refine kk q r H1 ?_ ?_ hS1
  · have h1 := sP
    rw [List.append_assoc (L ++ Rr)] at h1
    have h2 := va_P.swap h1
    rw [← List.append_assoc L] at h2
    rw [List.append_assoc (L ++ _)] at h2
    exact h2
  · have h1 := sD
    rw [List.append_assoc (L ++ Rr)] at h1
    have h2 := va_D.swap h1
    rw [← List.append_assoc L] at h2
    rw [List.append_assoc (L ++ _)] at h2
    exact h2
variable {y : MethodName} {bytes : ByteArray} {maxL nL n index mc ms : Nat} {ws : List Cond} {rm : Room} {Ts : List Cond} {own : String} {b : Addr} {As st0 : List Value} {v : Option Value} {Pw : va_W → Prop}
/-- a constructor called -/
theorem zz_goE (hM : zCe z l y ws rm (.ref b :: As) w none Pw mc ms) (S : CallFix p m c cc nL s args Ts own) (cw : CallB R s args own index y bytes maxL none ws rm mc ms n ∧ y.name = "<init>" ∧ (Cond.instanceMethod y).before args s = true) (hK : va_K z.1 vwCl (zty z) s) (hN : zN s) (hO : va_AOA .int s) (hP : va_P z.1 vwCl w H) (hD : va_D A0 w) (hS : va_S A0 H0 H locs) (hA : ∀ q : Nat, H0.size ≤ q → A0 q)
    (hn : As.length = n) (hsize : ls.size = nL) (hstack : st0 = As.reverse ++ .ref b :: rest) (hW : (rest.map fun v => v.category).sum ≤ 8) (hdg : decode cc pc = .ok (.invokespecial index, 3)) (hf : cells + mc ≤ R.cells ∧ slots + ms ≤ R.slots)
    (kk : ∀ (w' : va_W) (H1 : Heap) (locs1 : List Loc), Pw w' → va_P z.1 vwCl w' H1 → va_D A0 w' → va_S A0 H0 H1 locs1 → W p l e R s m args below meth c H1 locs1 (cells + mc) (slots + ms) Q (F0 m (pc + 3) ls rest)) : W p l e R s m args below meth c H locs cells slots Q (F0 m pc ls st0) := by
  have hF : ∀ q : Nat, va_A w H.size q → A0 q := fun q h => by
    rcases h with ⟨k, x, h⟩ | h
    · exact hD.2 k (q, x) h
    · exact hA q (Nat.le_trans hS.1 h)
  have hr := va_runI (l := l) (e := e) (below := below) (meth := meth) (locs := locs) (cells := cells) (slots := slots) (rest := rest) S (hM H.size) cw ⟨zz_blindI, fun U hU hW => ⟨rfl, by rw [hU], by rw [hU]; exact hP, ⟨va_K.moved hW.alike hK, hN.warm hW, va_AOA.moved hW.alike hO⟩, hD.weaken (fun _ _ _ _ => trivial)⟩⟩ (g := F0 m pc ls st0) rfl hn hsize hstack (lv_room hW) hdg hf
  intro T hT X
  obtain ⟨v', st₀, t, T', L, h0, X', hL, e1, e2, ⟨⟨hv, w', hw, hp, hd⟩, hz, hk⟩, st⟩ := hr T hT X
  cases hv
  rw [h0] at hz hk
  obtain ⟨t2, a1, b1⟩ := kk w' T'.heap (locs ++ L) hw (by rw [e1]; exact hp) (hd.weaken (fun _ q _ h => hF q.1 h))
    ⟨Nat.le_trans hS.1 (by rw [e1]; exact hz), fun q h1 h2 => by rw [e1, hk q (Nat.lt_of_lt_of_le h1 hS.1) (fun z => h2 (hF q z))]; exact hS.2.1 q h1 h2, fun q hq => by
      rcases List.mem_append.mp hq with h | h
      · exact hS.2.2 q h
      · exact hF _ (hL q h)⟩ T' rfl X'
  exact ⟨t2, st t2 a1, b1⟩
end ZCT
end
section
abbrev b_X_byteAt : ByteArray := prog_1_method_16_code
abbrev y_X_byteAt : MethodName := ⟨"MemberChooser", "byteAt", "(JI)I"⟩
abbrev w_X_byteAt : List Cond := Cond.code y_X_byteAt b_X_byteAt 3 (some .int) :: zTb
theorem d_X_byteAt_0 : decode b_X_byteAt 0 = .ok (.lload_n 0, 1) := by decide +kernel
theorem d_X_byteAt_1 : decode b_X_byteAt 1 = .ok (.bipush 8, 2) := by decide +kernel
theorem d_X_byteAt_3 : decode b_X_byteAt 3 = .ok (.iload_n 2, 1) := by decide +kernel
theorem d_X_byteAt_4 : decode b_X_byteAt 4 = .ok (.imul, 1) := by decide +kernel
theorem d_X_byteAt_5 : decode b_X_byteAt 5 = .ok (.lushr, 1) := by decide +kernel
theorem d_X_byteAt_6 : decode b_X_byteAt 6 = .ok (.ldc2_w 173, 3) := by decide +kernel
theorem d_X_byteAt_9 : decode b_X_byteAt 9 = .ok (.land, 1) := by decide +kernel
theorem d_X_byteAt_10 : decode b_X_byteAt 10 = .ok (.l2i, 1) := by decide +kernel
theorem d_X_byteAt_11 : decode b_X_byteAt 11 = .ok (.ireturn, 1) := by decide +kernel
abbrev rm_X_byteAt : Room := { frames := 0, cells := 0, slots := 0, locals := 0 }
def fx_X_byteAt (n : Nat) (a0 : Int64) (a2 : Int32) : Option (Int32) :=
  some (((a0.toUInt64 >>> (((8 : Int32) * a2).toInt64.toUInt64 &&& Int64.toUInt64 63)).toInt64 &&& (255 : Int64)).toInt32)

set_option maxRecDepth 100000 in
set_option maxHeartbeats 4000000 in
theorem k_X_byteAt (l : Launch) (z : zE) (w : va_W) (n : Nat) (a0 : Int64) (a2 : Int32) (r0 : Int32) (h : fx_X_byteAt n a0 a2 = some r0) : zC z l y_X_byteAt w_X_byteAt rm_X_byteAt [.long a0, .int a2] w (some (.int r0)) w := by
  refine zz_of (by decide) (Nat.le_of_ble_eq_true rfl) ?_
  intro p e s m args below meth c A0 ls hM hr hlocks hA hP hD hl
  have hM : zM z p s m args c b_X_byteAt 3 R_X := hM
  obtain ⟨hx, hb, hml, hown, hts, hK, hN⟩ := id hM
  have hS : va_S A0 s.heap s.heap [] := va_S.rf
  have hl : lv_has ls 3 [(0, .long a0), (2, .int a2)] := hl
  unfold fx_X_byteAt at h
  refine lv_lload_n hx hb d_X_byteAt_0 rfl (lv_at hl 0 rfl) ?_
  refine lv_bipush (v := 8) hx hb d_X_byteAt_1 (by decide) ?_
  refine lv_iload_n hx hb d_X_byteAt_3 rfl (lv_at hl 1 rfl) ?_
  refine lv_imul hx hb d_X_byteAt_4 ?_
  refine lv_lushr (v := (a0.toUInt64 >>> (((8 : Int32) * a2).toInt64.toUInt64 &&& Int64.toUInt64 63)).toInt64) hx hb d_X_byteAt_5 rfl ?_
  refine lv_ldc2 (own := R_X) (v := 255) hx hb hown (hts _ wq_258) d_X_byteAt_6 ?_
  refine lv_land hx hb d_X_byteAt_9 ?_
  refine lv_l2i (v := ((a0.toUInt64 >>> (((8 : Int32) * a2).toInt64.toUInt64 &&& Int64.toUInt64 63)).toInt64 &&& (255 : Int64)).toInt32) hx hb d_X_byteAt_10 rfl ?_
  exact zz_iretG hx hb hr hlocks hP hD hS h d_X_byteAt_11

abbrev b_T_isPrimitive : ByteArray := prog_5_method_2_code
abbrev y_T_isPrimitive : MethodName := ⟨"MemberChooser$Types", "isPrimitive", "(I)Z"⟩
abbrev w_T_isPrimitive : List Cond := Cond.code y_T_isPrimitive b_T_isPrimitive 1 (some .boolean) :: zTb
theorem d_T_isPrimitive_0 : decode b_T_isPrimitive 0 = .ok (.iload_n 0, 1) := by decide +kernel
theorem d_T_isPrimitive_1 : decode b_T_isPrimitive 1 = .ok (.ifCond .lt 12, 3) := by decide +kernel
theorem d_T_isPrimitive_4 : decode b_T_isPrimitive 4 = .ok (.iload_n 0, 1) := by decide +kernel
theorem d_T_isPrimitive_5 : decode b_T_isPrimitive 5 = .ok (.iconst 2, 1) := by decide +kernel
theorem d_T_isPrimitive_6 : decode b_T_isPrimitive 6 = .ok (.if_icmp .gt 7, 3) := by decide +kernel
theorem d_T_isPrimitive_9 : decode b_T_isPrimitive 9 = .ok (.iconst 1, 1) := by decide +kernel
theorem d_T_isPrimitive_10 : decode b_T_isPrimitive 10 = .ok (.goto 4, 3) := by decide +kernel
theorem d_T_isPrimitive_13 : decode b_T_isPrimitive 13 = .ok (.iconst 0, 1) := by decide +kernel
theorem d_T_isPrimitive_14 : decode b_T_isPrimitive 14 = .ok (.ireturn, 1) := by decide +kernel
abbrev rm_T_isPrimitive : Room := { frames := 0, cells := 0, slots := 0, locals := 0 }
def fx_T_isPrimitive (n : Nat) (a0 : Int32) : Option (Int32) :=
  (if a0 < 0 then
  some (0 : Int32)
  else
  (if (2 : Int32) < a0 then
    some (0 : Int32)
    else
    some (1 : Int32)))

set_option maxRecDepth 100000 in
set_option maxHeartbeats 4000000 in
theorem k_T_isPrimitive (l : Launch) (z : zE) (w : va_W) (n : Nat) (a0 : Int32) (r0 : Int32) (h : fx_T_isPrimitive n a0 = some r0) : zC z l y_T_isPrimitive w_T_isPrimitive rm_T_isPrimitive [.int a0] w (some (.int r0)) w := by
  refine zz_of (by decide) (Nat.le_of_ble_eq_true rfl) ?_
  intro p e s m args below meth c A0 ls hM hr hlocks hA hP hD hl
  have hM : zM z p s m args c b_T_isPrimitive 1 R_T := hM
  obtain ⟨hx, hb, hml, hown, hts, hK, hN⟩ := id hM
  have hS : va_S A0 s.heap s.heap [] := va_S.rf
  have hl : lv_has ls 1 [(0, .int a0)] := hl
  unfold fx_T_isPrimitive at h
  refine lv_iload_n hx hb d_T_isPrimitive_0 rfl (lv_at hl 0 rfl) ?_
  refine lv_if_lt (tgt := 13) hx hb d_T_isPrimitive_1 (by decide) (fun c_1 => ?_) (fun c_1 => ?_)
  · replace h := zz_t c_1 h
    refine lv_iconst (v := 0) hx hb d_T_isPrimitive_13 (by decide) ?_
    exact zz_zretG hx hb hr hlocks hP hD hS rfl h d_T_isPrimitive_14
  · replace h := zz_f c_1 h
    refine lv_iload_n hx hb d_T_isPrimitive_4 rfl (lv_at hl 0 rfl) ?_
    refine lv_iconst (v := 2) hx hb d_T_isPrimitive_5 (by decide) ?_
    refine lv_icmp_gt (tgt := 13) hx hb d_T_isPrimitive_6 (by decide) (fun c_2 => ?_) (fun c_2 => ?_)
    · replace h := zz_t c_2 h
      refine lv_iconst (v := 0) hx hb d_T_isPrimitive_13 (by decide) ?_
      exact zz_zretG hx hb hr hlocks hP hD hS rfl h d_T_isPrimitive_14
    · replace h := zz_f c_2 h
      refine lv_iconst (v := 1) hx hb d_T_isPrimitive_9 (by decide) ?_
      refine lv_goto (tgt := 14) hx hb d_T_isPrimitive_10 (by decide) ?_
      exact zz_zretG hx hb hr hlocks hP hD hS rfl h d_T_isPrimitive_14

abbrev b_T_bit : ByteArray := prog_5_method_17_code
abbrev y_T_bit : MethodName := ⟨"MemberChooser$Types", "bit", "(I)I"⟩
abbrev w_T_bit : List Cond := Cond.code y_T_bit b_T_bit 1 (some .int) :: zTb
theorem d_T_bit_0 : decode b_T_bit 0 = .ok (.iconst 1, 1) := by decide +kernel
theorem d_T_bit_1 : decode b_T_bit 1 = .ok (.iload_n 0, 1) := by decide +kernel
theorem d_T_bit_2 : decode b_T_bit 2 = .ok (.ishl, 1) := by decide +kernel
theorem d_T_bit_3 : decode b_T_bit 3 = .ok (.ireturn, 1) := by decide +kernel
abbrev rm_T_bit : Room := { frames := 0, cells := 0, slots := 0, locals := 0 }
def fx_T_bit (n : Nat) (a0 : Int32) : Option (Int32) :=
  some ((1 : Int32) <<< (a0 &&& 31))

set_option maxRecDepth 100000 in
set_option maxHeartbeats 4000000 in
theorem k_T_bit (l : Launch) (z : zE) (w : va_W) (n : Nat) (a0 : Int32) (r0 : Int32) (h : fx_T_bit n a0 = some r0) : zC z l y_T_bit w_T_bit rm_T_bit [.int a0] w (some (.int r0)) w := by
  refine zz_of (by decide) (Nat.le_of_ble_eq_true rfl) ?_
  intro p e s m args below meth c A0 ls hM hr hlocks hA hP hD hl
  have hM : zM z p s m args c b_T_bit 1 R_T := hM
  obtain ⟨hx, hb, hml, hown, hts, hK, hN⟩ := id hM
  have hS : va_S A0 s.heap s.heap [] := va_S.rf
  have hl : lv_has ls 1 [(0, .int a0)] := hl
  unfold fx_T_bit at h
  refine lv_iconst (v := 1) hx hb d_T_bit_0 (by decide) ?_
  refine lv_iload_n hx hb d_T_bit_1 rfl (lv_at hl 0 rfl) ?_
  refine lv_ishl hx hb d_T_bit_2 ?_
  exact zz_iretG hx hb hr hlocks hP hD hS h d_T_bit_3

abbrev b_T_holds : ByteArray := prog_5_method_16_code
abbrev y_T_holds : MethodName := ⟨"MemberChooser$Types", "holds", "([III)Z"⟩
abbrev w_T_holds : List Cond := Cond.code y_T_holds b_T_holds 4 (some .boolean) :: zTb
theorem d_T_holds_0 : decode b_T_holds 0 = .ok (.iconst 0, 1) := by decide +kernel
theorem d_T_holds_1 : decode b_T_holds 1 = .ok (.istore_n 3, 1) := by decide +kernel
theorem d_T_holds_2 : decode b_T_holds 2 = .ok (.iload_n 3, 1) := by decide +kernel
theorem d_T_holds_3 : decode b_T_holds 3 = .ok (.iload_n 1, 1) := by decide +kernel
theorem d_T_holds_4 : decode b_T_holds 4 = .ok (.if_icmp .ge 24, 3) := by decide +kernel
theorem d_T_holds_7 : decode b_T_holds 7 = .ok (.iload_n 3, 1) := by decide +kernel
theorem d_T_holds_8 : decode b_T_holds 8 = .ok (.aload_n 0, 1) := by decide +kernel
theorem d_T_holds_9 : decode b_T_holds 9 = .ok (.arraylength, 1) := by decide +kernel
theorem d_T_holds_10 : decode b_T_holds 10 = .ok (.if_icmp .ge 18, 3) := by decide +kernel
theorem d_T_holds_13 : decode b_T_holds 13 = .ok (.aload_n 0, 1) := by decide +kernel
theorem d_T_holds_14 : decode b_T_holds 14 = .ok (.iload_n 3, 1) := by decide +kernel
theorem d_T_holds_15 : decode b_T_holds 15 = .ok (.iaload, 1) := by decide +kernel
theorem d_T_holds_16 : decode b_T_holds 16 = .ok (.iload_n 2, 1) := by decide +kernel
theorem d_T_holds_17 : decode b_T_holds 17 = .ok (.if_icmp .ne 5, 3) := by decide +kernel
theorem d_T_holds_20 : decode b_T_holds 20 = .ok (.iconst 1, 1) := by decide +kernel
theorem d_T_holds_21 : decode b_T_holds 21 = .ok (.ireturn, 1) := by decide +kernel
theorem d_T_holds_22 : decode b_T_holds 22 = .ok (.iinc 3 1, 3) := by decide +kernel
theorem d_T_holds_25 : decode b_T_holds 25 = .ok (.goto (-23), 3) := by decide +kernel
theorem d_T_holds_28 : decode b_T_holds 28 = .ok (.iconst 0, 1) := by decide +kernel
theorem d_T_holds_29 : decode b_T_holds 29 = .ok (.ireturn, 1) := by decide +kernel
abbrev rm_T_holds : Room := { frames := 0, cells := 0, slots := 0, locals := 0 }
def st_T_holds_L2 (n : Nat) (N0 : Nat) (f0 : Nat → Int32) (v1 : Int32) (v2 : Int32) (v3 : Int32) : Option ((Int32) ⊕ (Nat × Int32)) :=
  (if v1 ≤ v3 then
  some (.inr (28, v3))
  else
  (if (Int32.ofNat N0) ≤ v3 then
    some (.inr (28, v3))
    else
    (if zoob v3 N0 then none else
      (if (f0 v3.toNatClampNeg) = v2 then
      some (.inr (20, v3))
      else
      some (.inl ((v3 + (1 : Int32))))))))

def fx_T_holds_L2 (n : Nat) (N0 : Nat) (f0 : Nat → Int32) (v1 : Int32) (v2 : Int32) (v3 : Int32) : Option (Nat × Int32) := zloop (fun (st : Int32) => st_T_holds_L2 n N0 f0 v1 v2 st) n (v3)

def fx_T_holds (n : Nat) (N0 : Nat) (f0 : Nat → Int32) (a1 : Int32) (a2 : Int32) : Option (Int32) :=
  zbL1 (fx_T_holds_L2 n N0 f0 a1 a2 (0 : Int32)) (fun x_5 v3_5 =>
  if x_5 = 20 then
  some (1 : Int32)
  else if x_5 = 28 then
  some (0 : Int32)
  else none)

set_option maxRecDepth 100000 in
set_option maxHeartbeats 4000000 in
theorem lp_T_holds_L2 {z : zE} {w : va_W} {p : Program} {l : Launch} {e : Env} {s : State} {m : MethodId} {args : Array Value} {below : List Frame} {meth : Method} {c : Code} {Q : State → Prop} {H0 : Heap} {A0 : Nat → Prop} {a0 N0 kq : Nat} {f0 : Nat → Int32} (hq : w[kq]? = some (a0, .inl (zI z, N0, .inl f0))) (hM : zM z p s m args c b_T_holds 4 R_T) (hA : ∀ q : Nat, H0.size ≤ q → A0 q) (n : Nat) (v1 : Int32) (v2 : Int32) :
    ∀ (v3 : Int32) (r : Nat × Int32), fx_T_holds_L2 n N0 f0 v1 v2 v3 = some r → (∀ (H : Heap) (locs : List Loc) (ls : Array Slot), va_P z.1 vwCl w H → va_D A0 w → va_S A0 H0 H locs → lv_has ls 4 [(0, .ref a0), (1, .int v1), (2, .int v2), (3, .int r.2)] → W p l e rm_T_holds s m args below meth c H locs 0 0 Q (F0 m r.1 ls [])) →
    ∀ (H : Heap) (locs : List Loc) (ls : Array Slot), va_P z.1 vwCl w H → va_D A0 w → va_S A0 H0 H locs → lv_has ls 4 [(0, .ref a0), (1, .int v1), (2, .int v2), (3, .int v3)] → W p l e rm_T_holds s m args below meth c H locs 0 0 Q (F0 m 2 ls []) := by
  obtain ⟨hx, hb, hml, hown, hts, hK, hN⟩ := id hM
  intro v3 r h hE
  refine zz_loop (G := fun (st : Int32) => ∀ (H : Heap) (locs : List Loc) (ls : Array Slot), va_P z.1 vwCl w H → va_D A0 w → va_S A0 H0 H locs → lv_has ls 4 [(0, .ref a0), (1, .int v1), (2, .int v2), (3, .int st)] → W p l e rm_T_holds s m args below meth c H locs 0 0 Q (F0 m 2 ls [])) (E := fun (r : Nat × Int32) => ∀ (H : Heap) (locs : List Loc) (ls : Array Slot), va_P z.1 vwCl w H → va_D A0 w → va_S A0 H0 H locs → lv_has ls 4 [(0, .ref a0), (1, .int v1), (2, .int v2), (3, .int r.2)] → W p l e rm_T_holds s m args below meth c H locs 0 0 Q (F0 m r.1 ls [])) ?_ n (v3) r h hE
  clear h hE r v3
  intro v3 o h hG hE H locs ls hP hD hS hl
  have h : st_T_holds_L2 n N0 f0 v1 v2 v3 = some o := h
  have hl : lv_has ls 4 [(0, .ref a0), (1, .int v1), (2, .int v2), (3, .int v3)] := hl
  unfold st_T_holds_L2 at h
  refine lv_iload_n hx hb d_T_holds_2 rfl (lv_at hl 3 rfl) ?_
  refine lv_iload_n hx hb d_T_holds_3 rfl (lv_at hl 1 rfl) ?_
  refine lv_icmp_ge (tgt := 28) hx hb d_T_holds_4 (by decide) (fun c_1 => ?_) (fun c_1 => ?_)
  · replace h := zz_t c_1 h
    exact hE _ (Option.some.inj h).symm _ _ _ hP hD hS hl
  · replace h := zz_f c_1 h
    refine lv_iload_n hx hb d_T_holds_7 rfl (lv_at hl 3 rfl) ?_
    refine lv_aload_n hx hb d_T_holds_8 rfl (lv_at hl 0 rfl) ?_
    refine va_alen hx hb hK hP kq 0 hq rfl (v := (Int32.ofNat N0)) rfl d_T_holds_9 ?_
    refine lv_icmp_ge (tgt := 28) hx hb d_T_holds_10 (by decide) (fun c_2 => ?_) (fun c_2 => ?_)
    · replace h := zz_t c_2 h
      exact hE _ (Option.some.inj h).symm _ _ _ hP hD hS hl
    · replace h := zz_f c_2 h
      refine lv_aload_n hx hb d_T_holds_13 rfl (lv_at hl 0 rfl) ?_
      refine lv_iload_n hx hb d_T_holds_14 rfl (lv_at hl 3 rfl) ?_
      obtain ⟨c_3, h⟩ := zz_oob h
      refine va_iald hx hb hK hP kq 0 hq rfl c_3 d_T_holds_15 ?_
      refine lv_iload_n hx hb d_T_holds_16 rfl (lv_at hl 2 rfl) ?_
      refine lv_icmp_ne (tgt := 22) hx hb d_T_holds_17 (by decide) (fun c_4 => ?_) (fun c_4 => ?_)
      · replace h := zz_f c_4 h
        refine lv_iinc (v := (v3 + (1 : Int32))) (lv' := [(3, .int (v3 + (1 : Int32))), (0, .ref a0), (1, .int v1), (2, .int v2)]) hx hb d_T_holds_22 hl (k := 3) rfl rfl (by decide) rfl (fun ls hl => ?_)
        refine lv_goto (tgt := 2) hx hb d_T_holds_25 (by decide) ?_
        exact hG _ (Option.some.inj h).symm _ _ _ hP hD hS (lv_sub hl [1, 2, 3, 0] rfl)
      · replace h := zz_t c_4 h
        exact hE _ (Option.some.inj h).symm _ _ _ hP hD hS hl

set_option maxRecDepth 100000 in
set_option maxHeartbeats 4000000 in
theorem k_T_holds (l : Launch) (z : zE) (w : va_W) {a0 N0 kq : Nat} {f0 : Nat → Int32} (hq : w[kq]? = some (a0, .inl (zI z, N0, .inl f0))) (n : Nat) (a1 : Int32) (a2 : Int32) (r0 : Int32) (h : fx_T_holds n N0 f0 a1 a2 = some r0) : zC z l y_T_holds w_T_holds rm_T_holds [.ref a0, .int a1, .int a2] w (some (.int r0)) w := by
  refine zz_of (by decide) (Nat.le_of_ble_eq_true rfl) ?_
  intro p e s m args below meth c A0 ls hM hr hlocks hA hP hD hl
  have hM : zM z p s m args c b_T_holds 4 R_T := hM
  obtain ⟨hx, hb, hml, hown, hts, hK, hN⟩ := id hM
  have hS : va_S A0 s.heap s.heap [] := va_S.rf
  have hl : lv_has ls 4 [(0, .ref a0), (1, .int a1), (2, .int a2)] := hl
  unfold fx_T_holds at h
  refine lv_iconst (v := 0) hx hb d_T_holds_0 (by decide) ?_
  refine lv_istore_n (lv' := [(3, .int (0 : Int32)), (0, .ref a0), (1, .int a1), (2, .int a2)]) hx hb d_T_holds_1 rfl hl (by decide) rfl (fun ls hl => ?_)
  replace h := zz_bL1 h
  obtain ⟨x_5, v3_5, e_5, h⟩ := h
  refine lp_T_holds_L2 hq hM hA n a1 a2 _ _ e_5 ?_ _ _ _ hP hD hS (lv_sub hl [1, 2, 3, 0] rfl)
  intro H locs ls hP hD hS hl
  have hl : lv_has ls 4 [(0, .ref a0), (1, .int a1), (2, .int a2), (3, .int v3_5)] := hl
  by_cases c_5 : x_5 = 20
  · replace h := zz_t c_5 h
    subst c_5
    refine W.eq (g2 := F0 m 20 ls []) rfl ?_
    refine lv_iconst (v := 1) hx hb d_T_holds_20 (by decide) ?_
    exact zz_zretG hx hb hr hlocks hP hD hS rfl h d_T_holds_21
  replace h := zz_f c_5 h
  replace h := zz_grd h
  obtain ⟨c_5, h⟩ := h
  subst c_5
  refine W.eq (g2 := F0 m 28 ls []) rfl ?_
  refine lv_iconst (v := 0) hx hb d_T_holds_28 (by decide) ?_
  exact zz_zretG hx hb hr hlocks hP hD hS rfl h d_T_holds_29

abbrev b_I_bitCount : ByteArray := prog_12_method_49_code
abbrev y_I_bitCount : MethodName := ⟨"java/lang/Integer", "bitCount", "(I)I"⟩
abbrev w_I_bitCount : List Cond := Cond.code y_I_bitCount b_I_bitCount 1 (some .int) :: zTb
theorem d_I_bitCount_0 : decode b_I_bitCount 0 = .ok (.iload_n 0, 1) := by decide +kernel
theorem d_I_bitCount_1 : decode b_I_bitCount 1 = .ok (.iload_n 0, 1) := by decide +kernel
theorem d_I_bitCount_2 : decode b_I_bitCount 2 = .ok (.iconst 1, 1) := by decide +kernel
theorem d_I_bitCount_3 : decode b_I_bitCount 3 = .ok (.iushr, 1) := by decide +kernel
theorem d_I_bitCount_4 : decode b_I_bitCount 4 = .ok (.ldc_w 265, 3) := by decide +kernel
theorem d_I_bitCount_7 : decode b_I_bitCount 7 = .ok (.iand, 1) := by decide +kernel
theorem d_I_bitCount_8 : decode b_I_bitCount 8 = .ok (.isub, 1) := by decide +kernel
theorem d_I_bitCount_9 : decode b_I_bitCount 9 = .ok (.istore_n 0, 1) := by decide +kernel
theorem d_I_bitCount_10 : decode b_I_bitCount 10 = .ok (.iload_n 0, 1) := by decide +kernel
theorem d_I_bitCount_11 : decode b_I_bitCount 11 = .ok (.ldc_w 266, 3) := by decide +kernel
theorem d_I_bitCount_14 : decode b_I_bitCount 14 = .ok (.iand, 1) := by decide +kernel
theorem d_I_bitCount_15 : decode b_I_bitCount 15 = .ok (.iload_n 0, 1) := by decide +kernel
theorem d_I_bitCount_16 : decode b_I_bitCount 16 = .ok (.iconst 2, 1) := by decide +kernel
theorem d_I_bitCount_17 : decode b_I_bitCount 17 = .ok (.iushr, 1) := by decide +kernel
theorem d_I_bitCount_18 : decode b_I_bitCount 18 = .ok (.ldc_w 266, 3) := by decide +kernel
theorem d_I_bitCount_21 : decode b_I_bitCount 21 = .ok (.iand, 1) := by decide +kernel
theorem d_I_bitCount_22 : decode b_I_bitCount 22 = .ok (.iadd, 1) := by decide +kernel
theorem d_I_bitCount_23 : decode b_I_bitCount 23 = .ok (.istore_n 0, 1) := by decide +kernel
theorem d_I_bitCount_24 : decode b_I_bitCount 24 = .ok (.iload_n 0, 1) := by decide +kernel
theorem d_I_bitCount_25 : decode b_I_bitCount 25 = .ok (.iload_n 0, 1) := by decide +kernel
theorem d_I_bitCount_26 : decode b_I_bitCount 26 = .ok (.iconst 4, 1) := by decide +kernel
theorem d_I_bitCount_27 : decode b_I_bitCount 27 = .ok (.iushr, 1) := by decide +kernel
theorem d_I_bitCount_28 : decode b_I_bitCount 28 = .ok (.iadd, 1) := by decide +kernel
theorem d_I_bitCount_29 : decode b_I_bitCount 29 = .ok (.ldc_w 267, 3) := by decide +kernel
theorem d_I_bitCount_32 : decode b_I_bitCount 32 = .ok (.iand, 1) := by decide +kernel
theorem d_I_bitCount_33 : decode b_I_bitCount 33 = .ok (.istore_n 0, 1) := by decide +kernel
theorem d_I_bitCount_34 : decode b_I_bitCount 34 = .ok (.iload_n 0, 1) := by decide +kernel
theorem d_I_bitCount_35 : decode b_I_bitCount 35 = .ok (.iload_n 0, 1) := by decide +kernel
theorem d_I_bitCount_36 : decode b_I_bitCount 36 = .ok (.bipush 8, 2) := by decide +kernel
theorem d_I_bitCount_38 : decode b_I_bitCount 38 = .ok (.iushr, 1) := by decide +kernel
theorem d_I_bitCount_39 : decode b_I_bitCount 39 = .ok (.iadd, 1) := by decide +kernel
theorem d_I_bitCount_40 : decode b_I_bitCount 40 = .ok (.istore_n 0, 1) := by decide +kernel
theorem d_I_bitCount_41 : decode b_I_bitCount 41 = .ok (.iload_n 0, 1) := by decide +kernel
theorem d_I_bitCount_42 : decode b_I_bitCount 42 = .ok (.iload_n 0, 1) := by decide +kernel
theorem d_I_bitCount_43 : decode b_I_bitCount 43 = .ok (.bipush 16, 2) := by decide +kernel
theorem d_I_bitCount_45 : decode b_I_bitCount 45 = .ok (.iushr, 1) := by decide +kernel
theorem d_I_bitCount_46 : decode b_I_bitCount 46 = .ok (.iadd, 1) := by decide +kernel
theorem d_I_bitCount_47 : decode b_I_bitCount 47 = .ok (.istore_n 0, 1) := by decide +kernel
theorem d_I_bitCount_48 : decode b_I_bitCount 48 = .ok (.iload_n 0, 1) := by decide +kernel
theorem d_I_bitCount_49 : decode b_I_bitCount 49 = .ok (.bipush 63, 2) := by decide +kernel
theorem d_I_bitCount_51 : decode b_I_bitCount 51 = .ok (.iand, 1) := by decide +kernel
theorem d_I_bitCount_52 : decode b_I_bitCount 52 = .ok (.ireturn, 1) := by decide +kernel
abbrev rm_I_bitCount : Room := { frames := 0, cells := 0, slots := 0, locals := 0 }
def fx_I_bitCount (n : Nat) (a0 : Int32) : Option (Int32) :=
  some ((((((((a0 - ((a0.toUInt32 >>> ((1 : Int32).toUInt32 &&& Int32.toUInt32 31)).toInt32 &&& (1431655765 : Int32))) &&& (858993459 : Int32)) + (((a0 - ((a0.toUInt32 >>> ((1 : Int32).toUInt32 &&& Int32.toUInt32 31)).toInt32 &&& (1431655765 : Int32))).toUInt32 >>> ((2 : Int32).toUInt32 &&& Int32.toUInt32 31)).toInt32 &&& (858993459 : Int32))) + ((((a0 - ((a0.toUInt32 >>> ((1 : Int32).toUInt32 &&& Int32.toUInt32 31)).toInt32 &&& (1431655765 : Int32))) &&& (858993459 : Int32)) + (((a0 - ((a0.toUInt32 >>> ((1 : Int32).toUInt32 &&& Int32.toUInt32 31)).toInt32 &&& (1431655765 : Int32))).toUInt32 >>> ((2 : Int32).toUInt32 &&& Int32.toUInt32 31)).toInt32 &&& (858993459 : Int32))).toUInt32 >>> ((4 : Int32).toUInt32 &&& Int32.toUInt32 31)).toInt32) &&& (252645135 : Int32)) + ((((((a0 - ((a0.toUInt32 >>> ((1 : Int32).toUInt32 &&& Int32.toUInt32 31)).toInt32 &&& (1431655765 : Int32))) &&& (858993459 : Int32)) + (((a0 - ((a0.toUInt32 >>> ((1 : Int32).toUInt32 &&& Int32.toUInt32 31)).toInt32 &&& (1431655765 : Int32))).toUInt32 >>> ((2 : Int32).toUInt32 &&& Int32.toUInt32 31)).toInt32 &&& (858993459 : Int32))) + ((((a0 - ((a0.toUInt32 >>> ((1 : Int32).toUInt32 &&& Int32.toUInt32 31)).toInt32 &&& (1431655765 : Int32))) &&& (858993459 : Int32)) + (((a0 - ((a0.toUInt32 >>> ((1 : Int32).toUInt32 &&& Int32.toUInt32 31)).toInt32 &&& (1431655765 : Int32))).toUInt32 >>> ((2 : Int32).toUInt32 &&& Int32.toUInt32 31)).toInt32 &&& (858993459 : Int32))).toUInt32 >>> ((4 : Int32).toUInt32 &&& Int32.toUInt32 31)).toInt32) &&& (252645135 : Int32)).toUInt32 >>> ((8 : Int32).toUInt32 &&& Int32.toUInt32 31)).toInt32) + (((((((a0 - ((a0.toUInt32 >>> ((1 : Int32).toUInt32 &&& Int32.toUInt32 31)).toInt32 &&& (1431655765 : Int32))) &&& (858993459 : Int32)) + (((a0 - ((a0.toUInt32 >>> ((1 : Int32).toUInt32 &&& Int32.toUInt32 31)).toInt32 &&& (1431655765 : Int32))).toUInt32 >>> ((2 : Int32).toUInt32 &&& Int32.toUInt32 31)).toInt32 &&& (858993459 : Int32))) + ((((a0 - ((a0.toUInt32 >>> ((1 : Int32).toUInt32 &&& Int32.toUInt32 31)).toInt32 &&& (1431655765 : Int32))) &&& (858993459 : Int32)) + (((a0 - ((a0.toUInt32 >>> ((1 : Int32).toUInt32 &&& Int32.toUInt32 31)).toInt32 &&& (1431655765 : Int32))).toUInt32 >>> ((2 : Int32).toUInt32 &&& Int32.toUInt32 31)).toInt32 &&& (858993459 : Int32))).toUInt32 >>> ((4 : Int32).toUInt32 &&& Int32.toUInt32 31)).toInt32) &&& (252645135 : Int32)) + ((((((a0 - ((a0.toUInt32 >>> ((1 : Int32).toUInt32 &&& Int32.toUInt32 31)).toInt32 &&& (1431655765 : Int32))) &&& (858993459 : Int32)) + (((a0 - ((a0.toUInt32 >>> ((1 : Int32).toUInt32 &&& Int32.toUInt32 31)).toInt32 &&& (1431655765 : Int32))).toUInt32 >>> ((2 : Int32).toUInt32 &&& Int32.toUInt32 31)).toInt32 &&& (858993459 : Int32))) + ((((a0 - ((a0.toUInt32 >>> ((1 : Int32).toUInt32 &&& Int32.toUInt32 31)).toInt32 &&& (1431655765 : Int32))) &&& (858993459 : Int32)) + (((a0 - ((a0.toUInt32 >>> ((1 : Int32).toUInt32 &&& Int32.toUInt32 31)).toInt32 &&& (1431655765 : Int32))).toUInt32 >>> ((2 : Int32).toUInt32 &&& Int32.toUInt32 31)).toInt32 &&& (858993459 : Int32))).toUInt32 >>> ((4 : Int32).toUInt32 &&& Int32.toUInt32 31)).toInt32) &&& (252645135 : Int32)).toUInt32 >>> ((8 : Int32).toUInt32 &&& Int32.toUInt32 31)).toInt32).toUInt32 >>> ((16 : Int32).toUInt32 &&& Int32.toUInt32 31)).toInt32) &&& (63 : Int32))

set_option maxRecDepth 100000 in
set_option maxHeartbeats 4000000 in
theorem k_I_bitCount (l : Launch) (z : zE) (w : va_W) (n : Nat) (a0 : Int32) (r0 : Int32) (h : fx_I_bitCount n a0 = some r0) : zC z l y_I_bitCount w_I_bitCount rm_I_bitCount [.int a0] w (some (.int r0)) w := by
  refine zz_of (by decide) (Nat.le_of_ble_eq_true rfl) ?_
  intro p e s m args below meth c A0 ls hM hr hlocks hA hP hD hl
  have hM : zM z p s m args c b_I_bitCount 1 R_I := hM
  obtain ⟨hx, hb, hml, hown, hts, hK, hN⟩ := id hM
  have hS : va_S A0 s.heap s.heap [] := va_S.rf
  have hl : lv_has ls 1 [(0, .int a0)] := hl
  unfold fx_I_bitCount at h
  refine lv_iload_n hx hb d_I_bitCount_0 rfl (lv_at hl 0 rfl) ?_
  refine lv_iload_n hx hb d_I_bitCount_1 rfl (lv_at hl 0 rfl) ?_
  refine lv_iconst (v := 1) hx hb d_I_bitCount_2 (by decide) ?_
  refine lv_iushr (v := (a0.toUInt32 >>> ((1 : Int32).toUInt32 &&& Int32.toUInt32 31)).toInt32) hx hb d_I_bitCount_3 rfl ?_
  refine lv_ldcw (own := R_I) (v := 1431655765) hx hb hown (hts _ wq_270) d_I_bitCount_4 ?_
  refine lv_iand hx hb d_I_bitCount_7 ?_
  refine lv_isub hx hb d_I_bitCount_8 ?_
  refine lv_istore_n (lv' := [(0, .int (a0 - ((a0.toUInt32 >>> ((1 : Int32).toUInt32 &&& Int32.toUInt32 31)).toInt32 &&& (1431655765 : Int32))))]) hx hb d_I_bitCount_9 rfl hl (by decide) rfl (fun ls hl => ?_)
  refine lv_iload_n hx hb d_I_bitCount_10 rfl (lv_at hl 0 rfl) ?_
  refine lv_ldcw (own := R_I) (v := 858993459) hx hb hown (hts _ wq_271) d_I_bitCount_11 ?_
  refine lv_iand hx hb d_I_bitCount_14 ?_
  refine lv_iload_n hx hb d_I_bitCount_15 rfl (lv_at hl 0 rfl) ?_
  refine lv_iconst (v := 2) hx hb d_I_bitCount_16 (by decide) ?_
  refine lv_iushr (v := ((a0 - ((a0.toUInt32 >>> ((1 : Int32).toUInt32 &&& Int32.toUInt32 31)).toInt32 &&& (1431655765 : Int32))).toUInt32 >>> ((2 : Int32).toUInt32 &&& Int32.toUInt32 31)).toInt32) hx hb d_I_bitCount_17 rfl ?_
  refine lv_ldcw (own := R_I) (v := 858993459) hx hb hown (hts _ wq_271) d_I_bitCount_18 ?_
  refine lv_iand hx hb d_I_bitCount_21 ?_
  refine lv_iadd hx hb d_I_bitCount_22 ?_
  refine lv_istore_n (lv' := [(0, .int (((a0 - ((a0.toUInt32 >>> ((1 : Int32).toUInt32 &&& Int32.toUInt32 31)).toInt32 &&& (1431655765 : Int32))) &&& (858993459 : Int32)) + (((a0 - ((a0.toUInt32 >>> ((1 : Int32).toUInt32 &&& Int32.toUInt32 31)).toInt32 &&& (1431655765 : Int32))).toUInt32 >>> ((2 : Int32).toUInt32 &&& Int32.toUInt32 31)).toInt32 &&& (858993459 : Int32))))]) hx hb d_I_bitCount_23 rfl hl (by decide) rfl (fun ls hl => ?_)
  refine lv_iload_n hx hb d_I_bitCount_24 rfl (lv_at hl 0 rfl) ?_
  refine lv_iload_n hx hb d_I_bitCount_25 rfl (lv_at hl 0 rfl) ?_
  refine lv_iconst (v := 4) hx hb d_I_bitCount_26 (by decide) ?_
  refine lv_iushr (v := ((((a0 - ((a0.toUInt32 >>> ((1 : Int32).toUInt32 &&& Int32.toUInt32 31)).toInt32 &&& (1431655765 : Int32))) &&& (858993459 : Int32)) + (((a0 - ((a0.toUInt32 >>> ((1 : Int32).toUInt32 &&& Int32.toUInt32 31)).toInt32 &&& (1431655765 : Int32))).toUInt32 >>> ((2 : Int32).toUInt32 &&& Int32.toUInt32 31)).toInt32 &&& (858993459 : Int32))).toUInt32 >>> ((4 : Int32).toUInt32 &&& Int32.toUInt32 31)).toInt32) hx hb d_I_bitCount_27 rfl ?_
  refine lv_iadd hx hb d_I_bitCount_28 ?_
  refine lv_ldcw (own := R_I) (v := 252645135) hx hb hown (hts _ wq_272) d_I_bitCount_29 ?_
  refine lv_iand hx hb d_I_bitCount_32 ?_
  refine lv_istore_n (lv' := [(0, .int (((((a0 - ((a0.toUInt32 >>> ((1 : Int32).toUInt32 &&& Int32.toUInt32 31)).toInt32 &&& (1431655765 : Int32))) &&& (858993459 : Int32)) + (((a0 - ((a0.toUInt32 >>> ((1 : Int32).toUInt32 &&& Int32.toUInt32 31)).toInt32 &&& (1431655765 : Int32))).toUInt32 >>> ((2 : Int32).toUInt32 &&& Int32.toUInt32 31)).toInt32 &&& (858993459 : Int32))) + ((((a0 - ((a0.toUInt32 >>> ((1 : Int32).toUInt32 &&& Int32.toUInt32 31)).toInt32 &&& (1431655765 : Int32))) &&& (858993459 : Int32)) + (((a0 - ((a0.toUInt32 >>> ((1 : Int32).toUInt32 &&& Int32.toUInt32 31)).toInt32 &&& (1431655765 : Int32))).toUInt32 >>> ((2 : Int32).toUInt32 &&& Int32.toUInt32 31)).toInt32 &&& (858993459 : Int32))).toUInt32 >>> ((4 : Int32).toUInt32 &&& Int32.toUInt32 31)).toInt32) &&& (252645135 : Int32)))]) hx hb d_I_bitCount_33 rfl hl (by decide) rfl (fun ls hl => ?_)
  refine lv_iload_n hx hb d_I_bitCount_34 rfl (lv_at hl 0 rfl) ?_
  refine lv_iload_n hx hb d_I_bitCount_35 rfl (lv_at hl 0 rfl) ?_
  refine lv_bipush (v := 8) hx hb d_I_bitCount_36 (by decide) ?_
  refine lv_iushr (v := ((((((a0 - ((a0.toUInt32 >>> ((1 : Int32).toUInt32 &&& Int32.toUInt32 31)).toInt32 &&& (1431655765 : Int32))) &&& (858993459 : Int32)) + (((a0 - ((a0.toUInt32 >>> ((1 : Int32).toUInt32 &&& Int32.toUInt32 31)).toInt32 &&& (1431655765 : Int32))).toUInt32 >>> ((2 : Int32).toUInt32 &&& Int32.toUInt32 31)).toInt32 &&& (858993459 : Int32))) + ((((a0 - ((a0.toUInt32 >>> ((1 : Int32).toUInt32 &&& Int32.toUInt32 31)).toInt32 &&& (1431655765 : Int32))) &&& (858993459 : Int32)) + (((a0 - ((a0.toUInt32 >>> ((1 : Int32).toUInt32 &&& Int32.toUInt32 31)).toInt32 &&& (1431655765 : Int32))).toUInt32 >>> ((2 : Int32).toUInt32 &&& Int32.toUInt32 31)).toInt32 &&& (858993459 : Int32))).toUInt32 >>> ((4 : Int32).toUInt32 &&& Int32.toUInt32 31)).toInt32) &&& (252645135 : Int32)).toUInt32 >>> ((8 : Int32).toUInt32 &&& Int32.toUInt32 31)).toInt32) hx hb d_I_bitCount_38 rfl ?_
  refine lv_iadd hx hb d_I_bitCount_39 ?_
  refine lv_istore_n (lv' := [(0, .int ((((((a0 - ((a0.toUInt32 >>> ((1 : Int32).toUInt32 &&& Int32.toUInt32 31)).toInt32 &&& (1431655765 : Int32))) &&& (858993459 : Int32)) + (((a0 - ((a0.toUInt32 >>> ((1 : Int32).toUInt32 &&& Int32.toUInt32 31)).toInt32 &&& (1431655765 : Int32))).toUInt32 >>> ((2 : Int32).toUInt32 &&& Int32.toUInt32 31)).toInt32 &&& (858993459 : Int32))) + ((((a0 - ((a0.toUInt32 >>> ((1 : Int32).toUInt32 &&& Int32.toUInt32 31)).toInt32 &&& (1431655765 : Int32))) &&& (858993459 : Int32)) + (((a0 - ((a0.toUInt32 >>> ((1 : Int32).toUInt32 &&& Int32.toUInt32 31)).toInt32 &&& (1431655765 : Int32))).toUInt32 >>> ((2 : Int32).toUInt32 &&& Int32.toUInt32 31)).toInt32 &&& (858993459 : Int32))).toUInt32 >>> ((4 : Int32).toUInt32 &&& Int32.toUInt32 31)).toInt32) &&& (252645135 : Int32)) + ((((((a0 - ((a0.toUInt32 >>> ((1 : Int32).toUInt32 &&& Int32.toUInt32 31)).toInt32 &&& (1431655765 : Int32))) &&& (858993459 : Int32)) + (((a0 - ((a0.toUInt32 >>> ((1 : Int32).toUInt32 &&& Int32.toUInt32 31)).toInt32 &&& (1431655765 : Int32))).toUInt32 >>> ((2 : Int32).toUInt32 &&& Int32.toUInt32 31)).toInt32 &&& (858993459 : Int32))) + ((((a0 - ((a0.toUInt32 >>> ((1 : Int32).toUInt32 &&& Int32.toUInt32 31)).toInt32 &&& (1431655765 : Int32))) &&& (858993459 : Int32)) + (((a0 - ((a0.toUInt32 >>> ((1 : Int32).toUInt32 &&& Int32.toUInt32 31)).toInt32 &&& (1431655765 : Int32))).toUInt32 >>> ((2 : Int32).toUInt32 &&& Int32.toUInt32 31)).toInt32 &&& (858993459 : Int32))).toUInt32 >>> ((4 : Int32).toUInt32 &&& Int32.toUInt32 31)).toInt32) &&& (252645135 : Int32)).toUInt32 >>> ((8 : Int32).toUInt32 &&& Int32.toUInt32 31)).toInt32))]) hx hb d_I_bitCount_40 rfl hl (by decide) rfl (fun ls hl => ?_)
  refine lv_iload_n hx hb d_I_bitCount_41 rfl (lv_at hl 0 rfl) ?_
  refine lv_iload_n hx hb d_I_bitCount_42 rfl (lv_at hl 0 rfl) ?_
  refine lv_bipush (v := 16) hx hb d_I_bitCount_43 (by decide) ?_
  refine lv_iushr (v := (((((((a0 - ((a0.toUInt32 >>> ((1 : Int32).toUInt32 &&& Int32.toUInt32 31)).toInt32 &&& (1431655765 : Int32))) &&& (858993459 : Int32)) + (((a0 - ((a0.toUInt32 >>> ((1 : Int32).toUInt32 &&& Int32.toUInt32 31)).toInt32 &&& (1431655765 : Int32))).toUInt32 >>> ((2 : Int32).toUInt32 &&& Int32.toUInt32 31)).toInt32 &&& (858993459 : Int32))) + ((((a0 - ((a0.toUInt32 >>> ((1 : Int32).toUInt32 &&& Int32.toUInt32 31)).toInt32 &&& (1431655765 : Int32))) &&& (858993459 : Int32)) + (((a0 - ((a0.toUInt32 >>> ((1 : Int32).toUInt32 &&& Int32.toUInt32 31)).toInt32 &&& (1431655765 : Int32))).toUInt32 >>> ((2 : Int32).toUInt32 &&& Int32.toUInt32 31)).toInt32 &&& (858993459 : Int32))).toUInt32 >>> ((4 : Int32).toUInt32 &&& Int32.toUInt32 31)).toInt32) &&& (252645135 : Int32)) + ((((((a0 - ((a0.toUInt32 >>> ((1 : Int32).toUInt32 &&& Int32.toUInt32 31)).toInt32 &&& (1431655765 : Int32))) &&& (858993459 : Int32)) + (((a0 - ((a0.toUInt32 >>> ((1 : Int32).toUInt32 &&& Int32.toUInt32 31)).toInt32 &&& (1431655765 : Int32))).toUInt32 >>> ((2 : Int32).toUInt32 &&& Int32.toUInt32 31)).toInt32 &&& (858993459 : Int32))) + ((((a0 - ((a0.toUInt32 >>> ((1 : Int32).toUInt32 &&& Int32.toUInt32 31)).toInt32 &&& (1431655765 : Int32))) &&& (858993459 : Int32)) + (((a0 - ((a0.toUInt32 >>> ((1 : Int32).toUInt32 &&& Int32.toUInt32 31)).toInt32 &&& (1431655765 : Int32))).toUInt32 >>> ((2 : Int32).toUInt32 &&& Int32.toUInt32 31)).toInt32 &&& (858993459 : Int32))).toUInt32 >>> ((4 : Int32).toUInt32 &&& Int32.toUInt32 31)).toInt32) &&& (252645135 : Int32)).toUInt32 >>> ((8 : Int32).toUInt32 &&& Int32.toUInt32 31)).toInt32).toUInt32 >>> ((16 : Int32).toUInt32 &&& Int32.toUInt32 31)).toInt32) hx hb d_I_bitCount_45 rfl ?_
  refine lv_iadd hx hb d_I_bitCount_46 ?_
  refine lv_istore_n (lv' := [(0, .int (((((((a0 - ((a0.toUInt32 >>> ((1 : Int32).toUInt32 &&& Int32.toUInt32 31)).toInt32 &&& (1431655765 : Int32))) &&& (858993459 : Int32)) + (((a0 - ((a0.toUInt32 >>> ((1 : Int32).toUInt32 &&& Int32.toUInt32 31)).toInt32 &&& (1431655765 : Int32))).toUInt32 >>> ((2 : Int32).toUInt32 &&& Int32.toUInt32 31)).toInt32 &&& (858993459 : Int32))) + ((((a0 - ((a0.toUInt32 >>> ((1 : Int32).toUInt32 &&& Int32.toUInt32 31)).toInt32 &&& (1431655765 : Int32))) &&& (858993459 : Int32)) + (((a0 - ((a0.toUInt32 >>> ((1 : Int32).toUInt32 &&& Int32.toUInt32 31)).toInt32 &&& (1431655765 : Int32))).toUInt32 >>> ((2 : Int32).toUInt32 &&& Int32.toUInt32 31)).toInt32 &&& (858993459 : Int32))).toUInt32 >>> ((4 : Int32).toUInt32 &&& Int32.toUInt32 31)).toInt32) &&& (252645135 : Int32)) + ((((((a0 - ((a0.toUInt32 >>> ((1 : Int32).toUInt32 &&& Int32.toUInt32 31)).toInt32 &&& (1431655765 : Int32))) &&& (858993459 : Int32)) + (((a0 - ((a0.toUInt32 >>> ((1 : Int32).toUInt32 &&& Int32.toUInt32 31)).toInt32 &&& (1431655765 : Int32))).toUInt32 >>> ((2 : Int32).toUInt32 &&& Int32.toUInt32 31)).toInt32 &&& (858993459 : Int32))) + ((((a0 - ((a0.toUInt32 >>> ((1 : Int32).toUInt32 &&& Int32.toUInt32 31)).toInt32 &&& (1431655765 : Int32))) &&& (858993459 : Int32)) + (((a0 - ((a0.toUInt32 >>> ((1 : Int32).toUInt32 &&& Int32.toUInt32 31)).toInt32 &&& (1431655765 : Int32))).toUInt32 >>> ((2 : Int32).toUInt32 &&& Int32.toUInt32 31)).toInt32 &&& (858993459 : Int32))).toUInt32 >>> ((4 : Int32).toUInt32 &&& Int32.toUInt32 31)).toInt32) &&& (252645135 : Int32)).toUInt32 >>> ((8 : Int32).toUInt32 &&& Int32.toUInt32 31)).toInt32) + (((((((a0 - ((a0.toUInt32 >>> ((1 : Int32).toUInt32 &&& Int32.toUInt32 31)).toInt32 &&& (1431655765 : Int32))) &&& (858993459 : Int32)) + (((a0 - ((a0.toUInt32 >>> ((1 : Int32).toUInt32 &&& Int32.toUInt32 31)).toInt32 &&& (1431655765 : Int32))).toUInt32 >>> ((2 : Int32).toUInt32 &&& Int32.toUInt32 31)).toInt32 &&& (858993459 : Int32))) + ((((a0 - ((a0.toUInt32 >>> ((1 : Int32).toUInt32 &&& Int32.toUInt32 31)).toInt32 &&& (1431655765 : Int32))) &&& (858993459 : Int32)) + (((a0 - ((a0.toUInt32 >>> ((1 : Int32).toUInt32 &&& Int32.toUInt32 31)).toInt32 &&& (1431655765 : Int32))).toUInt32 >>> ((2 : Int32).toUInt32 &&& Int32.toUInt32 31)).toInt32 &&& (858993459 : Int32))).toUInt32 >>> ((4 : Int32).toUInt32 &&& Int32.toUInt32 31)).toInt32) &&& (252645135 : Int32)) + ((((((a0 - ((a0.toUInt32 >>> ((1 : Int32).toUInt32 &&& Int32.toUInt32 31)).toInt32 &&& (1431655765 : Int32))) &&& (858993459 : Int32)) + (((a0 - ((a0.toUInt32 >>> ((1 : Int32).toUInt32 &&& Int32.toUInt32 31)).toInt32 &&& (1431655765 : Int32))).toUInt32 >>> ((2 : Int32).toUInt32 &&& Int32.toUInt32 31)).toInt32 &&& (858993459 : Int32))) + ((((a0 - ((a0.toUInt32 >>> ((1 : Int32).toUInt32 &&& Int32.toUInt32 31)).toInt32 &&& (1431655765 : Int32))) &&& (858993459 : Int32)) + (((a0 - ((a0.toUInt32 >>> ((1 : Int32).toUInt32 &&& Int32.toUInt32 31)).toInt32 &&& (1431655765 : Int32))).toUInt32 >>> ((2 : Int32).toUInt32 &&& Int32.toUInt32 31)).toInt32 &&& (858993459 : Int32))).toUInt32 >>> ((4 : Int32).toUInt32 &&& Int32.toUInt32 31)).toInt32) &&& (252645135 : Int32)).toUInt32 >>> ((8 : Int32).toUInt32 &&& Int32.toUInt32 31)).toInt32).toUInt32 >>> ((16 : Int32).toUInt32 &&& Int32.toUInt32 31)).toInt32))]) hx hb d_I_bitCount_47 rfl hl (by decide) rfl (fun ls hl => ?_)
  refine lv_iload_n hx hb d_I_bitCount_48 rfl (lv_at hl 0 rfl) ?_
  refine lv_bipush (v := 63) hx hb d_I_bitCount_49 (by decide) ?_
  refine lv_iand hx hb d_I_bitCount_51 ?_
  exact zz_iretG hx hb hr hlocks hP hD hS h d_I_bitCount_52

abbrev b_X_isName : ByteArray := prog_1_method_15_code
abbrev y_X_isName : MethodName := ⟨"MemberChooser", "isName", "(I)Z"⟩
abbrev w_X_isName : List Cond := Cond.code y_X_isName b_X_isName 1 (some .boolean) :: zTb
theorem d_X_isName_0 : decode b_X_isName 0 = .ok (.iload_n 0, 1) := by decide +kernel
theorem d_X_isName_1 : decode b_X_isName 1 = .ok (.ifCond .lt 13, 3) := by decide +kernel
theorem d_X_isName_4 : decode b_X_isName 4 = .ok (.iload_n 0, 1) := by decide +kernel
theorem d_X_isName_5 : decode b_X_isName 5 = .ok (.bipush 10, 2) := by decide +kernel
theorem d_X_isName_7 : decode b_X_isName 7 = .ok (.if_icmp .ge 7, 3) := by decide +kernel
theorem d_X_isName_10 : decode b_X_isName 10 = .ok (.iconst 1, 1) := by decide +kernel
theorem d_X_isName_11 : decode b_X_isName 11 = .ok (.goto 4, 3) := by decide +kernel
theorem d_X_isName_14 : decode b_X_isName 14 = .ok (.iconst 0, 1) := by decide +kernel
theorem d_X_isName_15 : decode b_X_isName 15 = .ok (.ireturn, 1) := by decide +kernel
abbrev rm_X_isName : Room := { frames := 0, cells := 0, slots := 0, locals := 0 }
def fx_X_isName (n : Nat) (a0 : Int32) : Option (Int32) :=
  (if a0 < 0 then
  some (0 : Int32)
  else
  (if (10 : Int32) ≤ a0 then
    some (0 : Int32)
    else
    some (1 : Int32)))

set_option maxRecDepth 100000 in
set_option maxHeartbeats 4000000 in
theorem k_X_isName (l : Launch) (z : zE) (w : va_W) (n : Nat) (a0 : Int32) (r0 : Int32) (h : fx_X_isName n a0 = some r0) : zC z l y_X_isName w_X_isName rm_X_isName [.int a0] w (some (.int r0)) w := by
  refine zz_of (by decide) (Nat.le_of_ble_eq_true rfl) ?_
  intro p e s m args below meth c A0 ls hM hr hlocks hA hP hD hl
  have hM : zM z p s m args c b_X_isName 1 R_X := hM
  obtain ⟨hx, hb, hml, hown, hts, hK, hN⟩ := id hM
  have hS : va_S A0 s.heap s.heap [] := va_S.rf
  have hl : lv_has ls 1 [(0, .int a0)] := hl
  unfold fx_X_isName at h
  refine lv_iload_n hx hb d_X_isName_0 rfl (lv_at hl 0 rfl) ?_
  refine lv_if_lt (tgt := 14) hx hb d_X_isName_1 (by decide) (fun c_1 => ?_) (fun c_1 => ?_)
  · replace h := zz_t c_1 h
    refine lv_iconst (v := 0) hx hb d_X_isName_14 (by decide) ?_
    exact zz_zretG hx hb hr hlocks hP hD hS rfl h d_X_isName_15
  · replace h := zz_f c_1 h
    refine lv_iload_n hx hb d_X_isName_4 rfl (lv_at hl 0 rfl) ?_
    refine lv_bipush (v := 10) hx hb d_X_isName_5 (by decide) ?_
    refine lv_icmp_ge (tgt := 14) hx hb d_X_isName_7 (by decide) (fun c_2 => ?_) (fun c_2 => ?_)
    · replace h := zz_t c_2 h
      refine lv_iconst (v := 0) hx hb d_X_isName_14 (by decide) ?_
      exact zz_zretG hx hb hr hlocks hP hD hS rfl h d_X_isName_15
    · replace h := zz_f c_2 h
      refine lv_iconst (v := 1) hx hb d_X_isName_10 (by decide) ?_
      refine lv_goto (tgt := 15) hx hb d_X_isName_11 (by decide) ?_
      exact zz_zretG hx hb hr hlocks hP hD hS rfl h d_X_isName_15

abbrev b_X_lowestBytes : ByteArray := prog_1_method_17_code
abbrev y_X_lowestBytes : MethodName := ⟨"MemberChooser", "lowestBytes", "(JI)J"⟩
abbrev w_X_lowestBytes : List Cond := Cond.code y_X_lowestBytes b_X_lowestBytes 3 (some .long) :: zTb
theorem d_X_lowestBytes_0 : decode b_X_lowestBytes 0 = .ok (.lload_n 0, 1) := by decide +kernel
theorem d_X_lowestBytes_1 : decode b_X_lowestBytes 1 = .ok (.lconst 1, 1) := by decide +kernel
theorem d_X_lowestBytes_2 : decode b_X_lowestBytes 2 = .ok (.bipush 8, 2) := by decide +kernel
theorem d_X_lowestBytes_4 : decode b_X_lowestBytes 4 = .ok (.iload_n 2, 1) := by decide +kernel
theorem d_X_lowestBytes_5 : decode b_X_lowestBytes 5 = .ok (.imul, 1) := by decide +kernel
theorem d_X_lowestBytes_6 : decode b_X_lowestBytes 6 = .ok (.lshl, 1) := by decide +kernel
theorem d_X_lowestBytes_7 : decode b_X_lowestBytes 7 = .ok (.lconst 1, 1) := by decide +kernel
theorem d_X_lowestBytes_8 : decode b_X_lowestBytes 8 = .ok (.lsub, 1) := by decide +kernel
theorem d_X_lowestBytes_9 : decode b_X_lowestBytes 9 = .ok (.land, 1) := by decide +kernel
theorem d_X_lowestBytes_10 : decode b_X_lowestBytes 10 = .ok (.lreturn, 1) := by decide +kernel
abbrev rm_X_lowestBytes : Room := { frames := 0, cells := 0, slots := 0, locals := 0 }
def fx_X_lowestBytes (n : Nat) (a0 : Int64) (a2 : Int32) : Option (Int64) :=
  some (a0 &&& (((1 : Int64) <<< (((8 : Int32) * a2).toInt64 &&& 63)) - (1 : Int64)))

set_option maxRecDepth 100000 in
set_option maxHeartbeats 4000000 in
theorem k_X_lowestBytes (l : Launch) (z : zE) (w : va_W) (n : Nat) (a0 : Int64) (a2 : Int32) (r0 : Int64) (h : fx_X_lowestBytes n a0 a2 = some r0) : zC z l y_X_lowestBytes w_X_lowestBytes rm_X_lowestBytes [.long a0, .int a2] w (some (.long r0)) w := by
  refine zz_of (by decide) (Nat.le_of_ble_eq_true rfl) ?_
  intro p e s m args below meth c A0 ls hM hr hlocks hA hP hD hl
  have hM : zM z p s m args c b_X_lowestBytes 3 R_X := hM
  obtain ⟨hx, hb, hml, hown, hts, hK, hN⟩ := id hM
  have hS : va_S A0 s.heap s.heap [] := va_S.rf
  have hl : lv_has ls 3 [(0, .long a0), (2, .int a2)] := hl
  unfold fx_X_lowestBytes at h
  refine lv_lload_n hx hb d_X_lowestBytes_0 rfl (lv_at hl 0 rfl) ?_
  refine lv_lconst (v := 1) hx hb d_X_lowestBytes_1 (by decide) ?_
  refine lv_bipush (v := 8) hx hb d_X_lowestBytes_2 (by decide) ?_
  refine lv_iload_n hx hb d_X_lowestBytes_4 rfl (lv_at hl 1 rfl) ?_
  refine lv_imul hx hb d_X_lowestBytes_5 ?_
  refine lv_lshl (v := ((1 : Int64) <<< (((8 : Int32) * a2).toInt64 &&& 63))) hx hb d_X_lowestBytes_6 rfl ?_
  refine lv_lconst (v := 1) hx hb d_X_lowestBytes_7 (by decide) ?_
  refine lv_lsub hx hb d_X_lowestBytes_8 ?_
  refine lv_land hx hb d_X_lowestBytes_9 ?_
  exact zz_lretG hx hb hr hlocks hP hD hS h d_X_lowestBytes_10

abbrev b_H_unboxesTo : ByteArray := prog_2_method_11_code
abbrev y_H_unboxesTo : MethodName := ⟨"MemberChooser$Chooser", "unboxesTo", "(II)Z"⟩
abbrev w_H_unboxesTo : List Cond := Cond.code y_H_unboxesTo b_H_unboxesTo 2 (some .boolean) :: zTb
theorem d_H_unboxesTo_0 : decode b_H_unboxesTo 0 = .ok (.iload_n 0, 1) := by decide +kernel
theorem d_H_unboxesTo_1 : decode b_H_unboxesTo 1 = .ok (.tableswitch 64 3 5 #[27, 42, 53], 27) := by decide +kernel
theorem d_H_unboxesTo_28 : decode b_H_unboxesTo 28 = .ok (.iload_n 1, 1) := by decide +kernel
theorem d_H_unboxesTo_29 : decode b_H_unboxesTo 29 = .ok (.ifCond .eq 8, 3) := by decide +kernel
theorem d_H_unboxesTo_32 : decode b_H_unboxesTo 32 = .ok (.iload_n 1, 1) := by decide +kernel
theorem d_H_unboxesTo_33 : decode b_H_unboxesTo 33 = .ok (.iconst 1, 1) := by decide +kernel
theorem d_H_unboxesTo_34 : decode b_H_unboxesTo 34 = .ok (.if_icmp .ne 7, 3) := by decide +kernel
theorem d_H_unboxesTo_37 : decode b_H_unboxesTo 37 = .ok (.iconst 1, 1) := by decide +kernel
theorem d_H_unboxesTo_38 : decode b_H_unboxesTo 38 = .ok (.goto 4, 3) := by decide +kernel
theorem d_H_unboxesTo_41 : decode b_H_unboxesTo 41 = .ok (.iconst 0, 1) := by decide +kernel
theorem d_H_unboxesTo_42 : decode b_H_unboxesTo 42 = .ok (.ireturn, 1) := by decide +kernel
theorem d_H_unboxesTo_43 : decode b_H_unboxesTo 43 = .ok (.iload_n 1, 1) := by decide +kernel
theorem d_H_unboxesTo_44 : decode b_H_unboxesTo 44 = .ok (.iconst 1, 1) := by decide +kernel
theorem d_H_unboxesTo_45 : decode b_H_unboxesTo 45 = .ok (.if_icmp .ne 7, 3) := by decide +kernel
theorem d_H_unboxesTo_48 : decode b_H_unboxesTo 48 = .ok (.iconst 1, 1) := by decide +kernel
theorem d_H_unboxesTo_49 : decode b_H_unboxesTo 49 = .ok (.goto 4, 3) := by decide +kernel
theorem d_H_unboxesTo_52 : decode b_H_unboxesTo 52 = .ok (.iconst 0, 1) := by decide +kernel
theorem d_H_unboxesTo_53 : decode b_H_unboxesTo 53 = .ok (.ireturn, 1) := by decide +kernel
theorem d_H_unboxesTo_54 : decode b_H_unboxesTo 54 = .ok (.iload_n 1, 1) := by decide +kernel
theorem d_H_unboxesTo_55 : decode b_H_unboxesTo 55 = .ok (.iconst 2, 1) := by decide +kernel
theorem d_H_unboxesTo_56 : decode b_H_unboxesTo 56 = .ok (.if_icmp .ne 7, 3) := by decide +kernel
theorem d_H_unboxesTo_59 : decode b_H_unboxesTo 59 = .ok (.iconst 1, 1) := by decide +kernel
theorem d_H_unboxesTo_60 : decode b_H_unboxesTo 60 = .ok (.goto 4, 3) := by decide +kernel
theorem d_H_unboxesTo_63 : decode b_H_unboxesTo 63 = .ok (.iconst 0, 1) := by decide +kernel
theorem d_H_unboxesTo_64 : decode b_H_unboxesTo 64 = .ok (.ireturn, 1) := by decide +kernel
theorem d_H_unboxesTo_65 : decode b_H_unboxesTo 65 = .ok (.iconst 0, 1) := by decide +kernel
theorem d_H_unboxesTo_66 : decode b_H_unboxesTo 66 = .ok (.ireturn, 1) := by decide +kernel
abbrev rm_H_unboxesTo : Room := { frames := 0, cells := 0, slots := 0, locals := 0 }
def fx_H_unboxesTo (n : Nat) (a0 : Int32) (a1 : Int32) : Option (Int32) :=
  (if a0 = (3 : Int32) then
  (if a1 = 0 then
    some (1 : Int32)
    else
    (if a1 = (1 : Int32) then
      some (1 : Int32)
      else
      some (0 : Int32)))
  else (if a0 = (4 : Int32) then
  (if a1 = (1 : Int32) then
    some (1 : Int32)
    else
    some (0 : Int32))
  else (if a0 = (5 : Int32) then
  (if a1 = (2 : Int32) then
    some (1 : Int32)
    else
    some (0 : Int32))
  else some (0 : Int32))))

set_option maxRecDepth 100000 in
set_option maxHeartbeats 4000000 in
theorem k_H_unboxesTo (l : Launch) (z : zE) (w : va_W) (n : Nat) (a0 : Int32) (a1 : Int32) (r0 : Int32) (h : fx_H_unboxesTo n a0 a1 = some r0) : zC z l y_H_unboxesTo w_H_unboxesTo rm_H_unboxesTo [.int a0, .int a1] w (some (.int r0)) w := by
  refine zz_of (by decide) (Nat.le_of_ble_eq_true rfl) ?_
  intro p e s m args below meth c A0 ls hM hr hlocks hA hP hD hl
  have hM : zM z p s m args c b_H_unboxesTo 2 R_H := hM
  obtain ⟨hx, hb, hml, hown, hts, hK, hN⟩ := id hM
  have hS : va_S A0 s.heap s.heap [] := va_S.rf
  have hl : lv_has ls 2 [(0, .int a0), (1, .int a1)] := hl
  unfold fx_H_unboxesTo at h
  refine lv_iload_n hx hb d_H_unboxesTo_0 rfl (lv_at hl 0 rfl) ?_
  by_cases c_1 : a0 = (3 : Int32)
  · replace h := zz_t c_1 h
    refine lv_tableIn (tgt := 28) hx hb d_H_unboxesTo_1 (by rw [c_1]; decide) (by rw [c_1]; decide) (by rw [c_1]; rfl) (by decide) ?_
    refine lv_iload_n hx hb d_H_unboxesTo_28 rfl (lv_at hl 1 rfl) ?_
    refine lv_if_eq (tgt := 37) hx hb d_H_unboxesTo_29 (by decide) (fun c_2 => ?_) (fun c_2 => ?_)
    · replace h := zz_t c_2 h
      refine lv_iconst (v := 1) hx hb d_H_unboxesTo_37 (by decide) ?_
      refine lv_goto (tgt := 42) hx hb d_H_unboxesTo_38 (by decide) ?_
      exact zz_zretG hx hb hr hlocks hP hD hS rfl h d_H_unboxesTo_42
    · replace h := zz_f c_2 h
      refine lv_iload_n hx hb d_H_unboxesTo_32 rfl (lv_at hl 1 rfl) ?_
      refine lv_iconst (v := 1) hx hb d_H_unboxesTo_33 (by decide) ?_
      refine lv_icmp_ne (tgt := 41) hx hb d_H_unboxesTo_34 (by decide) (fun c_3 => ?_) (fun c_3 => ?_)
      · replace h := zz_f c_3 h
        refine lv_iconst (v := 0) hx hb d_H_unboxesTo_41 (by decide) ?_
        exact zz_zretG hx hb hr hlocks hP hD hS rfl h d_H_unboxesTo_42
      · replace h := zz_t c_3 h
        refine lv_iconst (v := 1) hx hb d_H_unboxesTo_37 (by decide) ?_
        refine lv_goto (tgt := 42) hx hb d_H_unboxesTo_38 (by decide) ?_
        exact zz_zretG hx hb hr hlocks hP hD hS rfl h d_H_unboxesTo_42
  replace h := zz_f c_1 h
  by_cases c_4 : a0 = (4 : Int32)
  · replace h := zz_t c_4 h
    refine lv_tableIn (tgt := 43) hx hb d_H_unboxesTo_1 (by rw [c_4]; decide) (by rw [c_4]; decide) (by rw [c_4]; rfl) (by decide) ?_
    refine lv_iload_n hx hb d_H_unboxesTo_43 rfl (lv_at hl 1 rfl) ?_
    refine lv_iconst (v := 1) hx hb d_H_unboxesTo_44 (by decide) ?_
    refine lv_icmp_ne (tgt := 52) hx hb d_H_unboxesTo_45 (by decide) (fun c_5 => ?_) (fun c_5 => ?_)
    · replace h := zz_f c_5 h
      refine lv_iconst (v := 0) hx hb d_H_unboxesTo_52 (by decide) ?_
      exact zz_zretG hx hb hr hlocks hP hD hS rfl h d_H_unboxesTo_53
    · replace h := zz_t c_5 h
      refine lv_iconst (v := 1) hx hb d_H_unboxesTo_48 (by decide) ?_
      refine lv_goto (tgt := 53) hx hb d_H_unboxesTo_49 (by decide) ?_
      exact zz_zretG hx hb hr hlocks hP hD hS rfl h d_H_unboxesTo_53
  replace h := zz_f c_4 h
  by_cases c_6 : a0 = (5 : Int32)
  · replace h := zz_t c_6 h
    refine lv_tableIn (tgt := 54) hx hb d_H_unboxesTo_1 (by rw [c_6]; decide) (by rw [c_6]; decide) (by rw [c_6]; rfl) (by decide) ?_
    refine lv_iload_n hx hb d_H_unboxesTo_54 rfl (lv_at hl 1 rfl) ?_
    refine lv_iconst (v := 2) hx hb d_H_unboxesTo_55 (by decide) ?_
    refine lv_icmp_ne (tgt := 63) hx hb d_H_unboxesTo_56 (by decide) (fun c_7 => ?_) (fun c_7 => ?_)
    · replace h := zz_f c_7 h
      refine lv_iconst (v := 0) hx hb d_H_unboxesTo_63 (by decide) ?_
      exact zz_zretG hx hb hr hlocks hP hD hS rfl h d_H_unboxesTo_64
    · replace h := zz_t c_7 h
      refine lv_iconst (v := 1) hx hb d_H_unboxesTo_59 (by decide) ?_
      refine lv_goto (tgt := 64) hx hb d_H_unboxesTo_60 (by decide) ?_
      exact zz_zretG hx hb hr hlocks hP hD hS rfl h d_H_unboxesTo_64
  replace h := zz_f c_6 h
  refine lv_tableOut (tgt := 65) hx hb d_H_unboxesTo_1 (by have qc_1 := zz_tne (a := 3) (by decide) c_1; have qc_4 := zz_tne (a := 4) (by decide) c_4; have qc_6 := zz_tne (a := 5) (by decide) c_6; omega) (by decide) ?_
  refine lv_iconst (v := 0) hx hb d_H_unboxesTo_65 (by decide) ?_
  exact zz_zretG hx hb hr hlocks hP hD hS rfl h d_H_unboxesTo_66

abbrev b_Q_byteOf : ByteArray := prog_7_method_12_code
abbrev y_Q_byteOf : MethodName := ⟨"MemberChooserModel", "byteOf", "(JI)I"⟩
abbrev w_Q_byteOf : List Cond := Cond.code y_Q_byteOf b_Q_byteOf 3 (some .int) :: zTb
theorem d_Q_byteOf_0 : decode b_Q_byteOf 0 = .ok (.lload_n 0, 1) := by decide +kernel
theorem d_Q_byteOf_1 : decode b_Q_byteOf 1 = .ok (.bipush 8, 2) := by decide +kernel
theorem d_Q_byteOf_3 : decode b_Q_byteOf 3 = .ok (.iload_n 2, 1) := by decide +kernel
theorem d_Q_byteOf_4 : decode b_Q_byteOf 4 = .ok (.imul, 1) := by decide +kernel
theorem d_Q_byteOf_5 : decode b_Q_byteOf 5 = .ok (.lshr, 1) := by decide +kernel
theorem d_Q_byteOf_6 : decode b_Q_byteOf 6 = .ok (.ldc2_w 98, 3) := by decide +kernel
theorem d_Q_byteOf_9 : decode b_Q_byteOf 9 = .ok (.land, 1) := by decide +kernel
theorem d_Q_byteOf_10 : decode b_Q_byteOf 10 = .ok (.l2i, 1) := by decide +kernel
theorem d_Q_byteOf_11 : decode b_Q_byteOf 11 = .ok (.ireturn, 1) := by decide +kernel
abbrev rm_Q_byteOf : Room := { frames := 0, cells := 0, slots := 0, locals := 0 }
def fx_Q_byteOf (n : Nat) (a0 : Int64) (a2 : Int32) : Option (Int32) :=
  some (((a0 >>> (((8 : Int32) * a2).toInt64 &&& 63)) &&& (255 : Int64)).toInt32)

set_option maxRecDepth 100000 in
set_option maxHeartbeats 4000000 in
theorem k_Q_byteOf (l : Launch) (z : zE) (w : va_W) (n : Nat) (a0 : Int64) (a2 : Int32) (r0 : Int32) (h : fx_Q_byteOf n a0 a2 = some r0) : zC z l y_Q_byteOf w_Q_byteOf rm_Q_byteOf [.long a0, .int a2] w (some (.int r0)) w := by
  refine zz_of (by decide) (Nat.le_of_ble_eq_true rfl) ?_
  intro p e s m args below meth c A0 ls hM hr hlocks hA hP hD hl
  have hM : zM z p s m args c b_Q_byteOf 3 R_Q := hM
  obtain ⟨hx, hb, hml, hown, hts, hK, hN⟩ := id hM
  have hS : va_S A0 s.heap s.heap [] := va_S.rf
  have hl : lv_has ls 3 [(0, .long a0), (2, .int a2)] := hl
  unfold fx_Q_byteOf at h
  refine lv_lload_n hx hb d_Q_byteOf_0 rfl (lv_at hl 0 rfl) ?_
  refine lv_bipush (v := 8) hx hb d_Q_byteOf_1 (by decide) ?_
  refine lv_iload_n hx hb d_Q_byteOf_3 rfl (lv_at hl 1 rfl) ?_
  refine lv_imul hx hb d_Q_byteOf_4 ?_
  refine lv_lshr (v := (a0 >>> (((8 : Int32) * a2).toInt64 &&& 63))) hx hb d_Q_byteOf_5 rfl ?_
  refine lv_ldc2 (own := R_Q) (v := 255) hx hb hown (hts _ wq_683) d_Q_byteOf_6 ?_
  refine lv_land hx hb d_Q_byteOf_9 ?_
  refine lv_l2i (v := ((a0 >>> (((8 : Int32) * a2).toInt64 &&& 63)) &&& (255 : Int64)).toInt32) hx hb d_Q_byteOf_10 rfl ?_
  exact zz_iretG hx hb hr hlocks hP hD hS h d_Q_byteOf_11
end
section
abbrev ZTT : Type := (Int32) × (Nat → Int32) × (Nat → Int32) × (Nat → Int32) × (Nat → Nat → Int32) × (Nat → Int32)
abbrev ZT : Type := ZTT
abbrev uTo (S : ZT) : Int32 := S.1
abbrev uTo' (S : ZT) (x : Int32) : ZT := ((x, S.2.1, S.2.2.1, S.2.2.2.1, S.2.2.2.2.1, S.2.2.2.2.2))
abbrev uFm (S : ZT) : Nat → Int32 := S.2.1
abbrev uFm' (S : ZT) (x : Nat → Int32) : ZT := ((S.1, x, S.2.2.1, S.2.2.2.1, S.2.2.2.2.1, S.2.2.2.2.2))
abbrev uCa (S : ZT) : Nat → Int32 := S.2.2.1
abbrev uCa' (S : ZT) (x : Nat → Int32) : ZT := ((S.1, S.2.1, x, S.2.2.2.1, S.2.2.2.2.1, S.2.2.2.2.2))
abbrev uFc (S : ZT) : Nat → Int32 := S.2.2.2.1
abbrev uFc' (S : ZT) (x : Nat → Int32) : ZT := ((S.1, S.2.1, S.2.2.1, x, S.2.2.2.2.1, S.2.2.2.2.2))
abbrev uGr (S : ZT) : Nat → Nat → Int32 := S.2.2.2.2.1
abbrev uGr' (S : ZT) (x : Nat → Nat → Int32) : ZT := ((S.1, S.2.1, S.2.2.1, S.2.2.2.1, x, S.2.2.2.2.2))
abbrev uUp (S : ZT) : Nat → Int32 := S.2.2.2.2.2
abbrev uUp' (S : ZT) (x : Nat → Int32) : ZT := ((S.1, S.2.1, S.2.2.1, S.2.2.2.1, S.2.2.2.2.1, x))
def tw (z : zE) (A : Nat → Nat) (S : ZT) : va_W := [((A 0), .inr (1, [.ref (A 1), .ref (A 2), .ref (A 3), .ref (A 4), .ref (A 5), .int (uTo S)])),
  ((A 1), .inl (zZ z, 32, .inl (uFm S))),
  ((A 2), .inl (zI z, 32, .inl (uCa S))),
  ((A 3), .inl (zI z, 32, .inl (uFc S))),
  ((A 4), .inl (zG z, 32, .inr (.inr (.inr (.inr (fun i => some (A (6 + i)))))))),
  ((A 5), .inl (zI z, 32, .inl (uUp S)))] ++ (List.range 32).map (fun i => (A (6 + i), .inl (zI z, 24, .inl (uGr S i))))

def mw (z : zE) (A : Nat → Nat) (S : ZCM) : va_W := [(A 0, .inr (2, [.ref (A 1), .ref (A 2), .ref (A 3), .ref (A 4), .ref (A 5), .int S.1])), (A 1, .inl (zI z, 80, .inl S.2.1)), (A 2, .inl (zI z, 80, .inl S.2.2.1)), (A 3, .inl (zI z, 80, .inl S.2.2.2.1)), (A 4, .inl (zL z, 80, .inr (.inl S.2.2.2.2.1))), (A 5, .inl (zZ z, 80, .inl S.2.2.2.2.2))]
def zM0 : ZCM := (0, fun _ => 0, fun _ => 0, fun _ => 0, fun _ => 0, fun _ => 0)
def hw (z : zE) (A : Nat → Nat) (aT aM : Nat) (S : ZCH) : va_W := [(A 0, .inr (3, [.ref aT, .ref aM, .ref (A 1), .ref (A 2), .ref (A 3), .int S.1, .int S.2.1, .int S.2.2.1])), (A 1, .inl (zI z, 24, .inl S.2.2.2.1)), (A 2, .inl (zI z, 80, .inl S.2.2.2.2.1)), (A 3, .inl (zI z, 80, .inl S.2.2.2.2.2))]
def zH0 : ZCH := (0, 0, 0, fun _ => 0, fun _ => 0, fun _ => 0)
def kw (z : zE) (A : Nat → Nat) (S : ZCK) : va_W := [(A 0, .inr (4, [.ref (A 1), .ref (A 2), .ref (A 3), .ref (A 4), .ref (A 5), .int S.1])), (A 1, .inl (zI z, 100, .inl S.2.1)), (A 2, .inl (zI z, 100, .inl S.2.2.1)), (A 3, .inl (zI z, 100, .inl S.2.2.2.1)), (A 4, .inl (zL z, 100, .inr (.inl S.2.2.2.2.1))), (A 5, .inl (zI z, 100, .inl S.2.2.2.2.2))]
def zK0 : ZCK := (0, fun _ => 0, fun _ => 0, fun _ => 0, fun _ => 0, fun _ => 0)
def zT0 : ZT := (0, fun _ => 0, fun _ => 0, fun _ => 0, fun _ _ => 0, fun _ => 0)
def zQ0 : ZQ := ((0, 8, 0, 0, 0, 0, 0, 0, 0), (fun _ => 0, fun _ => 0, fun _ => 0, fun _ => 0), (fun _ => 0, fun _ => 0, fun _ => 0, fun _ => 0, fun _ => 0), (fun _ => 0, fun _ => 0, fun _ => 0, fun _ => 0, fun _ => 0), (fun _ => 0, fun _ => 0, fun _ => 0, fun _ => 0, fun _ => 0))
abbrev b_M_init : ByteArray := prog_4_method_1_code
abbrev y_M_init : MethodName := ⟨"MemberChooser$Members", "<init>", "()V"⟩
abbrev w_M_init : List Cond := Cond.code y_M_init b_M_init 1 none :: zTb
theorem d_M_init_0 : decode b_M_init 0 = .ok (.aload_n 0, 1) := by decide +kernel
theorem d_M_init_1 : decode b_M_init 1 = .ok (.invokespecial 3, 3) := by decide +kernel
theorem d_M_init_4 : decode b_M_init 4 = .ok (.aload_n 0, 1) := by decide +kernel
theorem d_M_init_5 : decode b_M_init 5 = .ok (.bipush 80, 2) := by decide +kernel
theorem d_M_init_7 : decode b_M_init 7 = .ok (.newarray .int, 2) := by decide +kernel
theorem d_M_init_9 : decode b_M_init 9 = .ok (.putfield 11, 3) := by decide +kernel
theorem d_M_init_12 : decode b_M_init 12 = .ok (.aload_n 0, 1) := by decide +kernel
theorem d_M_init_13 : decode b_M_init 13 = .ok (.bipush 80, 2) := by decide +kernel
theorem d_M_init_15 : decode b_M_init 15 = .ok (.newarray .int, 2) := by decide +kernel
theorem d_M_init_17 : decode b_M_init 17 = .ok (.putfield 15, 3) := by decide +kernel
theorem d_M_init_20 : decode b_M_init 20 = .ok (.aload_n 0, 1) := by decide +kernel
theorem d_M_init_21 : decode b_M_init 21 = .ok (.bipush 80, 2) := by decide +kernel
theorem d_M_init_23 : decode b_M_init 23 = .ok (.newarray .int, 2) := by decide +kernel
theorem d_M_init_25 : decode b_M_init 25 = .ok (.putfield 18, 3) := by decide +kernel
theorem d_M_init_28 : decode b_M_init 28 = .ok (.aload_n 0, 1) := by decide +kernel
theorem d_M_init_29 : decode b_M_init 29 = .ok (.bipush 80, 2) := by decide +kernel
theorem d_M_init_31 : decode b_M_init 31 = .ok (.newarray .long, 2) := by decide +kernel
theorem d_M_init_33 : decode b_M_init 33 = .ok (.putfield 21, 3) := by decide +kernel
theorem d_M_init_36 : decode b_M_init 36 = .ok (.aload_n 0, 1) := by decide +kernel
theorem d_M_init_37 : decode b_M_init 37 = .ok (.bipush 80, 2) := by decide +kernel
theorem d_M_init_39 : decode b_M_init 39 = .ok (.newarray .boolean, 2) := by decide +kernel
theorem d_M_init_41 : decode b_M_init 41 = .ok (.putfield 25, 3) := by decide +kernel
theorem d_M_init_44 : decode b_M_init 44 = .ok (.aload_n 0, 1) := by decide +kernel
theorem d_M_init_45 : decode b_M_init 45 = .ok (.iconst 0, 1) := by decide +kernel
theorem d_M_init_46 : decode b_M_init 46 = .ok (.putfield 29, 3) := by decide +kernel
theorem d_M_init_49 : decode b_M_init 49 = .ok (.return_, 1) := by decide +kernel
abbrev rm_M_init : Room := { frames := 1, cells := 5, slots := 400, locals := 20 }
set_option maxRecDepth 100000 in
set_option maxHeartbeats 4000000 in
theorem k_M_init (l : Launch) (z : zE) (Rr : va_W) (h0 : Nat) : zCe z l y_M_init w_M_init rm_M_init [.ref h0] ([(h0, .inr (2, [.null, .null, .null, .null, .null, .int 0]))] ++ Rr) none (fun w' => ∃ A : Nat → Nat, A 0 = h0 ∧ w' = mw z A zM0 ++ Rr) 5 400 := by
  refine zz_ofE (by decide) (Nat.le_of_ble_eq_true rfl) ?_
  intro p e s m args below meth c A0 ls hM hO hin hr hlocks hA hP hD hl
  have hM : zM z p s m args c b_M_init 1 R_M := hM
  obtain ⟨hx, hb, hml, hown, hts, hK, hN⟩ := id hM
  have hS : va_S A0 s.heap s.heap [] := va_S.rf
  have hl : lv_has ls 1 [(0, .ref h0)] := hl
  refine lv_aload_n hx hb d_M_init_0 rfl (lv_at hl 0 rfl) ?_
  refine W.objInit hx hb hown (hts _ wq_65) (hts _ wq_22) (hts _ wq_23) rfl (by rw [hml]; exact hl.1) rfl d_M_init_1 (Nat.le_of_ble_eq_true rfl) (Nat.le_of_ble_eq_true rfl) ?_
  refine W.eq (g2 := F0 m 4 ls []) rfl ?_
  refine lv_aload_n hx hb d_M_init_4 rfl (lv_at hl 0 rfl) ?_
  refine lv_bipush (v := 80) hx hb d_M_init_5 (by decide) ?_
  refine zz_newa (L := [(h0, .inr (2, [.null, .null, .null, .null, .null, .int 0]))]) (Rr := Rr) hx hb 0 (atype := .int) (a0 := (80, .inl (fun _ => 0))) (N' := 80) (hts _ wq_59) rfl rfl (fun C h => by cases h) hK hP hD hS hA (fun _ => rfl) (by decide) (by decide) (by decide) (Nat.le_of_ble_eq_true rfl) (Nat.le_of_ble_eq_true rfl) d_M_init_7 (fun q7 H hP hD hS => ?_)
  have hP : va_P z.1 vwCl ([(h0, .inr (2, [.null, .null, .null, .null, .null, .int 0])), (q7, .inl (zI z, 80, .inl (fun _ => 0)))] ++ Rr) H := hP
  have hD : va_D A0 ([(h0, .inr (2, [.null, .null, .null, .null, .null, .int 0])), (q7, .inl (zI z, 80, .inl (fun _ => 0)))] ++ Rr) := hD
  refine va_putF (D := z.1) (ci := 2) (v := .ref q7) (ty := .array .int) (C := R_M) (T := F_M) (N := 6) hx hb hts i_M ty_M ty_M_ok n_M hown hK hP hD hS 0 rfl rfl 0 (by decide) (hts _ wq_66) (fun _ h9 => h9) rfl hin rfl (by decide +kernel) rfl rfl (Nat.le_of_ble_eq_true rfl) d_M_init_9 (fun H locs hP hD hS => ?_)
  have hP : va_P z.1 vwCl ([(h0, .inr (2, [.ref q7, .null, .null, .null, .null, .int 0])), (q7, .inl (zI z, 80, .inl (fun _ => 0)))] ++ Rr) H := hP
  have hD : va_D A0 ([(h0, .inr (2, [.ref q7, .null, .null, .null, .null, .int 0])), (q7, .inl (zI z, 80, .inl (fun _ => 0)))] ++ Rr) := hD
  refine lv_aload_n hx hb d_M_init_12 rfl (lv_at hl 0 rfl) ?_
  refine lv_bipush (v := 80) hx hb d_M_init_13 (by decide) ?_
  refine zz_newa (L := [(h0, .inr (2, [.ref q7, .null, .null, .null, .null, .int 0])), (q7, .inl (zI z, 80, .inl (fun _ => 0)))]) (Rr := Rr) hx hb 0 (atype := .int) (a0 := (80, .inl (fun _ => 0))) (N' := 80) (hts _ wq_59) rfl rfl (fun C h => by cases h) hK hP hD hS hA (fun _ => rfl) (by decide) (by decide) (by decide) (Nat.le_of_ble_eq_true rfl) (Nat.le_of_ble_eq_true rfl) d_M_init_15 (fun q15 H hP hD hS => ?_)
  have hP : va_P z.1 vwCl ([(h0, .inr (2, [.ref q7, .null, .null, .null, .null, .int 0])), (q7, .inl (zI z, 80, .inl (fun _ => 0))), (q15, .inl (zI z, 80, .inl (fun _ => 0)))] ++ Rr) H := hP
  have hD : va_D A0 ([(h0, .inr (2, [.ref q7, .null, .null, .null, .null, .int 0])), (q7, .inl (zI z, 80, .inl (fun _ => 0))), (q15, .inl (zI z, 80, .inl (fun _ => 0)))] ++ Rr) := hD
  refine va_putF (D := z.1) (ci := 2) (v := .ref q15) (ty := .array .int) (C := R_M) (T := F_M) (N := 6) hx hb hts i_M ty_M ty_M_ok n_M hown hK hP hD hS 0 rfl rfl 1 (by decide) (hts _ wq_67) (fun _ h9 => h9) rfl hin rfl (by decide +kernel) rfl rfl (Nat.le_of_ble_eq_true rfl) d_M_init_17 (fun H locs hP hD hS => ?_)
  have hP : va_P z.1 vwCl ([(h0, .inr (2, [.ref q7, .ref q15, .null, .null, .null, .int 0])), (q7, .inl (zI z, 80, .inl (fun _ => 0))), (q15, .inl (zI z, 80, .inl (fun _ => 0)))] ++ Rr) H := hP
  have hD : va_D A0 ([(h0, .inr (2, [.ref q7, .ref q15, .null, .null, .null, .int 0])), (q7, .inl (zI z, 80, .inl (fun _ => 0))), (q15, .inl (zI z, 80, .inl (fun _ => 0)))] ++ Rr) := hD
  refine lv_aload_n hx hb d_M_init_20 rfl (lv_at hl 0 rfl) ?_
  refine lv_bipush (v := 80) hx hb d_M_init_21 (by decide) ?_
  refine zz_newa (L := [(h0, .inr (2, [.ref q7, .ref q15, .null, .null, .null, .int 0])), (q7, .inl (zI z, 80, .inl (fun _ => 0))), (q15, .inl (zI z, 80, .inl (fun _ => 0)))]) (Rr := Rr) hx hb 0 (atype := .int) (a0 := (80, .inl (fun _ => 0))) (N' := 80) (hts _ wq_59) rfl rfl (fun C h => by cases h) hK hP hD hS hA (fun _ => rfl) (by decide) (by decide) (by decide) (Nat.le_of_ble_eq_true rfl) (Nat.le_of_ble_eq_true rfl) d_M_init_23 (fun q23 H hP hD hS => ?_)
  have hP : va_P z.1 vwCl ([(h0, .inr (2, [.ref q7, .ref q15, .null, .null, .null, .int 0])), (q7, .inl (zI z, 80, .inl (fun _ => 0))), (q15, .inl (zI z, 80, .inl (fun _ => 0))), (q23, .inl (zI z, 80, .inl (fun _ => 0)))] ++ Rr) H := hP
  have hD : va_D A0 ([(h0, .inr (2, [.ref q7, .ref q15, .null, .null, .null, .int 0])), (q7, .inl (zI z, 80, .inl (fun _ => 0))), (q15, .inl (zI z, 80, .inl (fun _ => 0))), (q23, .inl (zI z, 80, .inl (fun _ => 0)))] ++ Rr) := hD
  refine va_putF (D := z.1) (ci := 2) (v := .ref q23) (ty := .array .int) (C := R_M) (T := F_M) (N := 6) hx hb hts i_M ty_M ty_M_ok n_M hown hK hP hD hS 0 rfl rfl 2 (by decide) (hts _ wq_68) (fun _ h9 => h9) rfl hin rfl (by decide +kernel) rfl rfl (Nat.le_of_ble_eq_true rfl) d_M_init_25 (fun H locs hP hD hS => ?_)
  have hP : va_P z.1 vwCl ([(h0, .inr (2, [.ref q7, .ref q15, .ref q23, .null, .null, .int 0])), (q7, .inl (zI z, 80, .inl (fun _ => 0))), (q15, .inl (zI z, 80, .inl (fun _ => 0))), (q23, .inl (zI z, 80, .inl (fun _ => 0)))] ++ Rr) H := hP
  have hD : va_D A0 ([(h0, .inr (2, [.ref q7, .ref q15, .ref q23, .null, .null, .int 0])), (q7, .inl (zI z, 80, .inl (fun _ => 0))), (q15, .inl (zI z, 80, .inl (fun _ => 0))), (q23, .inl (zI z, 80, .inl (fun _ => 0)))] ++ Rr) := hD
  refine lv_aload_n hx hb d_M_init_28 rfl (lv_at hl 0 rfl) ?_
  refine lv_bipush (v := 80) hx hb d_M_init_29 (by decide) ?_
  refine zz_newa (L := [(h0, .inr (2, [.ref q7, .ref q15, .ref q23, .null, .null, .int 0])), (q7, .inl (zI z, 80, .inl (fun _ => 0))), (q15, .inl (zI z, 80, .inl (fun _ => 0))), (q23, .inl (zI z, 80, .inl (fun _ => 0)))]) (Rr := Rr) hx hb 2 (atype := .long) (a0 := (80, .inr (.inl (fun _ => 0)))) (N' := 80) (hts _ wq_89) rfl rfl (fun C h => by cases h) hK hP hD hS hA (fun _ => rfl) (by decide) (by decide) (by decide) (Nat.le_of_ble_eq_true rfl) (Nat.le_of_ble_eq_true rfl) d_M_init_31 (fun q31 H hP hD hS => ?_)
  have hP : va_P z.1 vwCl ([(h0, .inr (2, [.ref q7, .ref q15, .ref q23, .null, .null, .int 0])), (q7, .inl (zI z, 80, .inl (fun _ => 0))), (q15, .inl (zI z, 80, .inl (fun _ => 0))), (q23, .inl (zI z, 80, .inl (fun _ => 0))), (q31, .inl (zL z, 80, .inr (.inl (fun _ => 0))))] ++ Rr) H := hP
  have hD : va_D A0 ([(h0, .inr (2, [.ref q7, .ref q15, .ref q23, .null, .null, .int 0])), (q7, .inl (zI z, 80, .inl (fun _ => 0))), (q15, .inl (zI z, 80, .inl (fun _ => 0))), (q23, .inl (zI z, 80, .inl (fun _ => 0))), (q31, .inl (zL z, 80, .inr (.inl (fun _ => 0))))] ++ Rr) := hD
  refine va_putF (D := z.1) (ci := 2) (v := .ref q31) (ty := .array .long) (C := R_M) (T := F_M) (N := 6) hx hb hts i_M ty_M ty_M_ok n_M hown hK hP hD hS 0 rfl rfl 3 (by decide) (hts _ wq_70) (fun _ h9 => h9) rfl hin rfl (by decide +kernel) rfl rfl (Nat.le_of_ble_eq_true rfl) d_M_init_33 (fun H locs hP hD hS => ?_)
  have hP : va_P z.1 vwCl ([(h0, .inr (2, [.ref q7, .ref q15, .ref q23, .ref q31, .null, .int 0])), (q7, .inl (zI z, 80, .inl (fun _ => 0))), (q15, .inl (zI z, 80, .inl (fun _ => 0))), (q23, .inl (zI z, 80, .inl (fun _ => 0))), (q31, .inl (zL z, 80, .inr (.inl (fun _ => 0))))] ++ Rr) H := hP
  have hD : va_D A0 ([(h0, .inr (2, [.ref q7, .ref q15, .ref q23, .ref q31, .null, .int 0])), (q7, .inl (zI z, 80, .inl (fun _ => 0))), (q15, .inl (zI z, 80, .inl (fun _ => 0))), (q23, .inl (zI z, 80, .inl (fun _ => 0))), (q31, .inl (zL z, 80, .inr (.inl (fun _ => 0))))] ++ Rr) := hD
  refine lv_aload_n hx hb d_M_init_36 rfl (lv_at hl 0 rfl) ?_
  refine lv_bipush (v := 80) hx hb d_M_init_37 (by decide) ?_
  refine zz_newa (L := [(h0, .inr (2, [.ref q7, .ref q15, .ref q23, .ref q31, .null, .int 0])), (q7, .inl (zI z, 80, .inl (fun _ => 0))), (q15, .inl (zI z, 80, .inl (fun _ => 0))), (q23, .inl (zI z, 80, .inl (fun _ => 0))), (q31, .inl (zL z, 80, .inr (.inl (fun _ => 0))))]) (Rr := Rr) hx hb 1 (atype := .boolean) (a0 := (80, .inl (fun _ => 0))) (N' := 80) (hts _ wq_58) rfl rfl (fun C h => by cases h) hK hP hD hS hA (fun _ => rfl) (by decide) (by decide) (by decide) (Nat.le_of_ble_eq_true rfl) (Nat.le_of_ble_eq_true rfl) d_M_init_39 (fun q39 H hP hD hS => ?_)
  have hP : va_P z.1 vwCl ([(h0, .inr (2, [.ref q7, .ref q15, .ref q23, .ref q31, .null, .int 0])), (q7, .inl (zI z, 80, .inl (fun _ => 0))), (q15, .inl (zI z, 80, .inl (fun _ => 0))), (q23, .inl (zI z, 80, .inl (fun _ => 0))), (q31, .inl (zL z, 80, .inr (.inl (fun _ => 0)))), (q39, .inl (zZ z, 80, .inl (fun _ => 0)))] ++ Rr) H := hP
  have hD : va_D A0 ([(h0, .inr (2, [.ref q7, .ref q15, .ref q23, .ref q31, .null, .int 0])), (q7, .inl (zI z, 80, .inl (fun _ => 0))), (q15, .inl (zI z, 80, .inl (fun _ => 0))), (q23, .inl (zI z, 80, .inl (fun _ => 0))), (q31, .inl (zL z, 80, .inr (.inl (fun _ => 0)))), (q39, .inl (zZ z, 80, .inl (fun _ => 0)))] ++ Rr) := hD
  refine va_putF (D := z.1) (ci := 2) (v := .ref q39) (ty := .array .boolean) (C := R_M) (T := F_M) (N := 6) hx hb hts i_M ty_M ty_M_ok n_M hown hK hP hD hS 0 rfl rfl 4 (by decide) (hts _ wq_71) (fun _ h9 => h9) rfl hin rfl (by decide +kernel) rfl rfl (Nat.le_of_ble_eq_true rfl) d_M_init_41 (fun H locs hP hD hS => ?_)
  have hP : va_P z.1 vwCl ([(h0, .inr (2, [.ref q7, .ref q15, .ref q23, .ref q31, .ref q39, .int 0])), (q7, .inl (zI z, 80, .inl (fun _ => 0))), (q15, .inl (zI z, 80, .inl (fun _ => 0))), (q23, .inl (zI z, 80, .inl (fun _ => 0))), (q31, .inl (zL z, 80, .inr (.inl (fun _ => 0)))), (q39, .inl (zZ z, 80, .inl (fun _ => 0)))] ++ Rr) H := hP
  have hD : va_D A0 ([(h0, .inr (2, [.ref q7, .ref q15, .ref q23, .ref q31, .ref q39, .int 0])), (q7, .inl (zI z, 80, .inl (fun _ => 0))), (q15, .inl (zI z, 80, .inl (fun _ => 0))), (q23, .inl (zI z, 80, .inl (fun _ => 0))), (q31, .inl (zL z, 80, .inr (.inl (fun _ => 0)))), (q39, .inl (zZ z, 80, .inl (fun _ => 0)))] ++ Rr) := hD
  refine lv_aload_n hx hb d_M_init_44 rfl (lv_at hl 0 rfl) ?_
  refine lv_iconst (v := 0) hx hb d_M_init_45 (by decide) ?_
  refine va_put (D := z.1) (ci := 2) (v := .int 0) (ty := .int) (C := R_M) (T := F_M) (N := 6) hx hb hts i_M ty_M ty_M_ok n_M hown hK hP hD hS 0 rfl rfl 5 (by decide) (hts _ wq_73) (fun _ h9 => h9) rfl (by decide +kernel) rfl rfl (Nat.le_of_ble_eq_true rfl) d_M_init_46 (fun H locs hP hD hS => ?_)
  have hP : va_P z.1 vwCl ([(h0, .inr (2, [.ref q7, .ref q15, .ref q23, .ref q31, .ref q39, .int 0])), (q7, .inl (zI z, 80, .inl (fun _ => 0))), (q15, .inl (zI z, 80, .inl (fun _ => 0))), (q23, .inl (zI z, 80, .inl (fun _ => 0))), (q31, .inl (zL z, 80, .inr (.inl (fun _ => 0)))), (q39, .inl (zZ z, 80, .inl (fun _ => 0)))] ++ Rr) H := hP
  have hD : va_D A0 ([(h0, .inr (2, [.ref q7, .ref q15, .ref q23, .ref q31, .ref q39, .int 0])), (q7, .inl (zI z, 80, .inl (fun _ => 0))), (q15, .inl (zI z, 80, .inl (fun _ => 0))), (q23, .inl (zI z, 80, .inl (fun _ => 0))), (q31, .inl (zL z, 80, .inr (.inl (fun _ => 0)))), (q39, .inl (zZ z, 80, .inl (fun _ => 0)))] ++ Rr) := hD
  exact zz_vretE hx hb hr hlocks ⟨zad [h0, q7, q15, q23, q31, q39], rfl, rfl⟩ hP hD hS (Nat.le_of_ble_eq_true rfl) (Nat.le_of_ble_eq_true rfl) d_M_init_49

abbrev b_K_init : ByteArray := prog_3_method_1_code
abbrev y_K_init : MethodName := ⟨"MemberChooser$KeptCalls", "<init>", "()V"⟩
abbrev w_K_init : List Cond := Cond.code y_K_init b_K_init 1 none :: zTb
theorem d_K_init_0 : decode b_K_init 0 = .ok (.aload_n 0, 1) := by decide +kernel
theorem d_K_init_1 : decode b_K_init 1 = .ok (.invokespecial 3, 3) := by decide +kernel
theorem d_K_init_4 : decode b_K_init 4 = .ok (.aload_n 0, 1) := by decide +kernel
theorem d_K_init_5 : decode b_K_init 5 = .ok (.bipush 100, 2) := by decide +kernel
theorem d_K_init_7 : decode b_K_init 7 = .ok (.newarray .int, 2) := by decide +kernel
theorem d_K_init_9 : decode b_K_init 9 = .ok (.putfield 11, 3) := by decide +kernel
theorem d_K_init_12 : decode b_K_init 12 = .ok (.aload_n 0, 1) := by decide +kernel
theorem d_K_init_13 : decode b_K_init 13 = .ok (.bipush 100, 2) := by decide +kernel
theorem d_K_init_15 : decode b_K_init 15 = .ok (.newarray .int, 2) := by decide +kernel
theorem d_K_init_17 : decode b_K_init 17 = .ok (.putfield 15, 3) := by decide +kernel
theorem d_K_init_20 : decode b_K_init 20 = .ok (.aload_n 0, 1) := by decide +kernel
theorem d_K_init_21 : decode b_K_init 21 = .ok (.bipush 100, 2) := by decide +kernel
theorem d_K_init_23 : decode b_K_init 23 = .ok (.newarray .int, 2) := by decide +kernel
theorem d_K_init_25 : decode b_K_init 25 = .ok (.putfield 18, 3) := by decide +kernel
theorem d_K_init_28 : decode b_K_init 28 = .ok (.aload_n 0, 1) := by decide +kernel
theorem d_K_init_29 : decode b_K_init 29 = .ok (.bipush 100, 2) := by decide +kernel
theorem d_K_init_31 : decode b_K_init 31 = .ok (.newarray .long, 2) := by decide +kernel
theorem d_K_init_33 : decode b_K_init 33 = .ok (.putfield 21, 3) := by decide +kernel
theorem d_K_init_36 : decode b_K_init 36 = .ok (.aload_n 0, 1) := by decide +kernel
theorem d_K_init_37 : decode b_K_init 37 = .ok (.bipush 100, 2) := by decide +kernel
theorem d_K_init_39 : decode b_K_init 39 = .ok (.newarray .int, 2) := by decide +kernel
theorem d_K_init_41 : decode b_K_init 41 = .ok (.putfield 25, 3) := by decide +kernel
theorem d_K_init_44 : decode b_K_init 44 = .ok (.aload_n 0, 1) := by decide +kernel
theorem d_K_init_45 : decode b_K_init 45 = .ok (.iconst 0, 1) := by decide +kernel
theorem d_K_init_46 : decode b_K_init 46 = .ok (.putfield 28, 3) := by decide +kernel
theorem d_K_init_49 : decode b_K_init 49 = .ok (.return_, 1) := by decide +kernel
abbrev rm_K_init : Room := { frames := 1, cells := 5, slots := 500, locals := 20 }
set_option maxRecDepth 100000 in
set_option maxHeartbeats 4000000 in
theorem k_K_init (l : Launch) (z : zE) (Rr : va_W) (h0 : Nat) : zCe z l y_K_init w_K_init rm_K_init [.ref h0] ([(h0, .inr (4, [.null, .null, .null, .null, .null, .int 0]))] ++ Rr) none (fun w' => ∃ A : Nat → Nat, A 0 = h0 ∧ w' = kw z A zK0 ++ Rr) 5 500 := by
  refine zz_ofE (by decide) (Nat.le_of_ble_eq_true rfl) ?_
  intro p e s m args below meth c A0 ls hM hO hin hr hlocks hA hP hD hl
  have hM : zM z p s m args c b_K_init 1 R_K := hM
  obtain ⟨hx, hb, hml, hown, hts, hK, hN⟩ := id hM
  have hS : va_S A0 s.heap s.heap [] := va_S.rf
  have hl : lv_has ls 1 [(0, .ref h0)] := hl
  refine lv_aload_n hx hb d_K_init_0 rfl (lv_at hl 0 rfl) ?_
  refine W.objInit hx hb hown (hts _ wq_127) (hts _ wq_22) (hts _ wq_23) rfl (by rw [hml]; exact hl.1) rfl d_K_init_1 (Nat.le_of_ble_eq_true rfl) (Nat.le_of_ble_eq_true rfl) ?_
  refine W.eq (g2 := F0 m 4 ls []) rfl ?_
  refine lv_aload_n hx hb d_K_init_4 rfl (lv_at hl 0 rfl) ?_
  refine lv_bipush (v := 100) hx hb d_K_init_5 (by decide) ?_
  refine zz_newa (L := [(h0, .inr (4, [.null, .null, .null, .null, .null, .int 0]))]) (Rr := Rr) hx hb 0 (atype := .int) (a0 := (100, .inl (fun _ => 0))) (N' := 100) (hts _ wq_59) rfl rfl (fun C h => by cases h) hK hP hD hS hA (fun _ => rfl) (by decide) (by decide) (by decide) (Nat.le_of_ble_eq_true rfl) (Nat.le_of_ble_eq_true rfl) d_K_init_7 (fun q7 H hP hD hS => ?_)
  have hP : va_P z.1 vwCl ([(h0, .inr (4, [.null, .null, .null, .null, .null, .int 0])), (q7, .inl (zI z, 100, .inl (fun _ => 0)))] ++ Rr) H := hP
  have hD : va_D A0 ([(h0, .inr (4, [.null, .null, .null, .null, .null, .int 0])), (q7, .inl (zI z, 100, .inl (fun _ => 0)))] ++ Rr) := hD
  refine va_putF (D := z.1) (ci := 4) (v := .ref q7) (ty := .array .int) (C := R_K) (T := F_K) (N := 6) hx hb hts i_K ty_K ty_K_ok n_K hown hK hP hD hS 0 rfl rfl 0 (by decide) (hts _ wq_128) (fun _ h9 => h9) rfl hin rfl (by decide +kernel) rfl rfl (Nat.le_of_ble_eq_true rfl) d_K_init_9 (fun H locs hP hD hS => ?_)
  have hP : va_P z.1 vwCl ([(h0, .inr (4, [.ref q7, .null, .null, .null, .null, .int 0])), (q7, .inl (zI z, 100, .inl (fun _ => 0)))] ++ Rr) H := hP
  have hD : va_D A0 ([(h0, .inr (4, [.ref q7, .null, .null, .null, .null, .int 0])), (q7, .inl (zI z, 100, .inl (fun _ => 0)))] ++ Rr) := hD
  refine lv_aload_n hx hb d_K_init_12 rfl (lv_at hl 0 rfl) ?_
  refine lv_bipush (v := 100) hx hb d_K_init_13 (by decide) ?_
  refine zz_newa (L := [(h0, .inr (4, [.ref q7, .null, .null, .null, .null, .int 0])), (q7, .inl (zI z, 100, .inl (fun _ => 0)))]) (Rr := Rr) hx hb 0 (atype := .int) (a0 := (100, .inl (fun _ => 0))) (N' := 100) (hts _ wq_59) rfl rfl (fun C h => by cases h) hK hP hD hS hA (fun _ => rfl) (by decide) (by decide) (by decide) (Nat.le_of_ble_eq_true rfl) (Nat.le_of_ble_eq_true rfl) d_K_init_15 (fun q15 H hP hD hS => ?_)
  have hP : va_P z.1 vwCl ([(h0, .inr (4, [.ref q7, .null, .null, .null, .null, .int 0])), (q7, .inl (zI z, 100, .inl (fun _ => 0))), (q15, .inl (zI z, 100, .inl (fun _ => 0)))] ++ Rr) H := hP
  have hD : va_D A0 ([(h0, .inr (4, [.ref q7, .null, .null, .null, .null, .int 0])), (q7, .inl (zI z, 100, .inl (fun _ => 0))), (q15, .inl (zI z, 100, .inl (fun _ => 0)))] ++ Rr) := hD
  refine va_putF (D := z.1) (ci := 4) (v := .ref q15) (ty := .array .int) (C := R_K) (T := F_K) (N := 6) hx hb hts i_K ty_K ty_K_ok n_K hown hK hP hD hS 0 rfl rfl 1 (by decide) (hts _ wq_129) (fun _ h9 => h9) rfl hin rfl (by decide +kernel) rfl rfl (Nat.le_of_ble_eq_true rfl) d_K_init_17 (fun H locs hP hD hS => ?_)
  have hP : va_P z.1 vwCl ([(h0, .inr (4, [.ref q7, .ref q15, .null, .null, .null, .int 0])), (q7, .inl (zI z, 100, .inl (fun _ => 0))), (q15, .inl (zI z, 100, .inl (fun _ => 0)))] ++ Rr) H := hP
  have hD : va_D A0 ([(h0, .inr (4, [.ref q7, .ref q15, .null, .null, .null, .int 0])), (q7, .inl (zI z, 100, .inl (fun _ => 0))), (q15, .inl (zI z, 100, .inl (fun _ => 0)))] ++ Rr) := hD
  refine lv_aload_n hx hb d_K_init_20 rfl (lv_at hl 0 rfl) ?_
  refine lv_bipush (v := 100) hx hb d_K_init_21 (by decide) ?_
  refine zz_newa (L := [(h0, .inr (4, [.ref q7, .ref q15, .null, .null, .null, .int 0])), (q7, .inl (zI z, 100, .inl (fun _ => 0))), (q15, .inl (zI z, 100, .inl (fun _ => 0)))]) (Rr := Rr) hx hb 0 (atype := .int) (a0 := (100, .inl (fun _ => 0))) (N' := 100) (hts _ wq_59) rfl rfl (fun C h => by cases h) hK hP hD hS hA (fun _ => rfl) (by decide) (by decide) (by decide) (Nat.le_of_ble_eq_true rfl) (Nat.le_of_ble_eq_true rfl) d_K_init_23 (fun q23 H hP hD hS => ?_)
  have hP : va_P z.1 vwCl ([(h0, .inr (4, [.ref q7, .ref q15, .null, .null, .null, .int 0])), (q7, .inl (zI z, 100, .inl (fun _ => 0))), (q15, .inl (zI z, 100, .inl (fun _ => 0))), (q23, .inl (zI z, 100, .inl (fun _ => 0)))] ++ Rr) H := hP
  have hD : va_D A0 ([(h0, .inr (4, [.ref q7, .ref q15, .null, .null, .null, .int 0])), (q7, .inl (zI z, 100, .inl (fun _ => 0))), (q15, .inl (zI z, 100, .inl (fun _ => 0))), (q23, .inl (zI z, 100, .inl (fun _ => 0)))] ++ Rr) := hD
  refine va_putF (D := z.1) (ci := 4) (v := .ref q23) (ty := .array .int) (C := R_K) (T := F_K) (N := 6) hx hb hts i_K ty_K ty_K_ok n_K hown hK hP hD hS 0 rfl rfl 2 (by decide) (hts _ wq_130) (fun _ h9 => h9) rfl hin rfl (by decide +kernel) rfl rfl (Nat.le_of_ble_eq_true rfl) d_K_init_25 (fun H locs hP hD hS => ?_)
  have hP : va_P z.1 vwCl ([(h0, .inr (4, [.ref q7, .ref q15, .ref q23, .null, .null, .int 0])), (q7, .inl (zI z, 100, .inl (fun _ => 0))), (q15, .inl (zI z, 100, .inl (fun _ => 0))), (q23, .inl (zI z, 100, .inl (fun _ => 0)))] ++ Rr) H := hP
  have hD : va_D A0 ([(h0, .inr (4, [.ref q7, .ref q15, .ref q23, .null, .null, .int 0])), (q7, .inl (zI z, 100, .inl (fun _ => 0))), (q15, .inl (zI z, 100, .inl (fun _ => 0))), (q23, .inl (zI z, 100, .inl (fun _ => 0)))] ++ Rr) := hD
  refine lv_aload_n hx hb d_K_init_28 rfl (lv_at hl 0 rfl) ?_
  refine lv_bipush (v := 100) hx hb d_K_init_29 (by decide) ?_
  refine zz_newa (L := [(h0, .inr (4, [.ref q7, .ref q15, .ref q23, .null, .null, .int 0])), (q7, .inl (zI z, 100, .inl (fun _ => 0))), (q15, .inl (zI z, 100, .inl (fun _ => 0))), (q23, .inl (zI z, 100, .inl (fun _ => 0)))]) (Rr := Rr) hx hb 2 (atype := .long) (a0 := (100, .inr (.inl (fun _ => 0)))) (N' := 100) (hts _ wq_89) rfl rfl (fun C h => by cases h) hK hP hD hS hA (fun _ => rfl) (by decide) (by decide) (by decide) (Nat.le_of_ble_eq_true rfl) (Nat.le_of_ble_eq_true rfl) d_K_init_31 (fun q31 H hP hD hS => ?_)
  have hP : va_P z.1 vwCl ([(h0, .inr (4, [.ref q7, .ref q15, .ref q23, .null, .null, .int 0])), (q7, .inl (zI z, 100, .inl (fun _ => 0))), (q15, .inl (zI z, 100, .inl (fun _ => 0))), (q23, .inl (zI z, 100, .inl (fun _ => 0))), (q31, .inl (zL z, 100, .inr (.inl (fun _ => 0))))] ++ Rr) H := hP
  have hD : va_D A0 ([(h0, .inr (4, [.ref q7, .ref q15, .ref q23, .null, .null, .int 0])), (q7, .inl (zI z, 100, .inl (fun _ => 0))), (q15, .inl (zI z, 100, .inl (fun _ => 0))), (q23, .inl (zI z, 100, .inl (fun _ => 0))), (q31, .inl (zL z, 100, .inr (.inl (fun _ => 0))))] ++ Rr) := hD
  refine va_putF (D := z.1) (ci := 4) (v := .ref q31) (ty := .array .long) (C := R_K) (T := F_K) (N := 6) hx hb hts i_K ty_K ty_K_ok n_K hown hK hP hD hS 0 rfl rfl 3 (by decide) (hts _ wq_131) (fun _ h9 => h9) rfl hin rfl (by decide +kernel) rfl rfl (Nat.le_of_ble_eq_true rfl) d_K_init_33 (fun H locs hP hD hS => ?_)
  have hP : va_P z.1 vwCl ([(h0, .inr (4, [.ref q7, .ref q15, .ref q23, .ref q31, .null, .int 0])), (q7, .inl (zI z, 100, .inl (fun _ => 0))), (q15, .inl (zI z, 100, .inl (fun _ => 0))), (q23, .inl (zI z, 100, .inl (fun _ => 0))), (q31, .inl (zL z, 100, .inr (.inl (fun _ => 0))))] ++ Rr) H := hP
  have hD : va_D A0 ([(h0, .inr (4, [.ref q7, .ref q15, .ref q23, .ref q31, .null, .int 0])), (q7, .inl (zI z, 100, .inl (fun _ => 0))), (q15, .inl (zI z, 100, .inl (fun _ => 0))), (q23, .inl (zI z, 100, .inl (fun _ => 0))), (q31, .inl (zL z, 100, .inr (.inl (fun _ => 0))))] ++ Rr) := hD
  refine lv_aload_n hx hb d_K_init_36 rfl (lv_at hl 0 rfl) ?_
  refine lv_bipush (v := 100) hx hb d_K_init_37 (by decide) ?_
  refine zz_newa (L := [(h0, .inr (4, [.ref q7, .ref q15, .ref q23, .ref q31, .null, .int 0])), (q7, .inl (zI z, 100, .inl (fun _ => 0))), (q15, .inl (zI z, 100, .inl (fun _ => 0))), (q23, .inl (zI z, 100, .inl (fun _ => 0))), (q31, .inl (zL z, 100, .inr (.inl (fun _ => 0))))]) (Rr := Rr) hx hb 0 (atype := .int) (a0 := (100, .inl (fun _ => 0))) (N' := 100) (hts _ wq_59) rfl rfl (fun C h => by cases h) hK hP hD hS hA (fun _ => rfl) (by decide) (by decide) (by decide) (Nat.le_of_ble_eq_true rfl) (Nat.le_of_ble_eq_true rfl) d_K_init_39 (fun q39 H hP hD hS => ?_)
  have hP : va_P z.1 vwCl ([(h0, .inr (4, [.ref q7, .ref q15, .ref q23, .ref q31, .null, .int 0])), (q7, .inl (zI z, 100, .inl (fun _ => 0))), (q15, .inl (zI z, 100, .inl (fun _ => 0))), (q23, .inl (zI z, 100, .inl (fun _ => 0))), (q31, .inl (zL z, 100, .inr (.inl (fun _ => 0)))), (q39, .inl (zI z, 100, .inl (fun _ => 0)))] ++ Rr) H := hP
  have hD : va_D A0 ([(h0, .inr (4, [.ref q7, .ref q15, .ref q23, .ref q31, .null, .int 0])), (q7, .inl (zI z, 100, .inl (fun _ => 0))), (q15, .inl (zI z, 100, .inl (fun _ => 0))), (q23, .inl (zI z, 100, .inl (fun _ => 0))), (q31, .inl (zL z, 100, .inr (.inl (fun _ => 0)))), (q39, .inl (zI z, 100, .inl (fun _ => 0)))] ++ Rr) := hD
  refine va_putF (D := z.1) (ci := 4) (v := .ref q39) (ty := .array .int) (C := R_K) (T := F_K) (N := 6) hx hb hts i_K ty_K ty_K_ok n_K hown hK hP hD hS 0 rfl rfl 4 (by decide) (hts _ wq_132) (fun _ h9 => h9) rfl hin rfl (by decide +kernel) rfl rfl (Nat.le_of_ble_eq_true rfl) d_K_init_41 (fun H locs hP hD hS => ?_)
  have hP : va_P z.1 vwCl ([(h0, .inr (4, [.ref q7, .ref q15, .ref q23, .ref q31, .ref q39, .int 0])), (q7, .inl (zI z, 100, .inl (fun _ => 0))), (q15, .inl (zI z, 100, .inl (fun _ => 0))), (q23, .inl (zI z, 100, .inl (fun _ => 0))), (q31, .inl (zL z, 100, .inr (.inl (fun _ => 0)))), (q39, .inl (zI z, 100, .inl (fun _ => 0)))] ++ Rr) H := hP
  have hD : va_D A0 ([(h0, .inr (4, [.ref q7, .ref q15, .ref q23, .ref q31, .ref q39, .int 0])), (q7, .inl (zI z, 100, .inl (fun _ => 0))), (q15, .inl (zI z, 100, .inl (fun _ => 0))), (q23, .inl (zI z, 100, .inl (fun _ => 0))), (q31, .inl (zL z, 100, .inr (.inl (fun _ => 0)))), (q39, .inl (zI z, 100, .inl (fun _ => 0)))] ++ Rr) := hD
  refine lv_aload_n hx hb d_K_init_44 rfl (lv_at hl 0 rfl) ?_
  refine lv_iconst (v := 0) hx hb d_K_init_45 (by decide) ?_
  refine va_put (D := z.1) (ci := 4) (v := .int 0) (ty := .int) (C := R_K) (T := F_K) (N := 6) hx hb hts i_K ty_K ty_K_ok n_K hown hK hP hD hS 0 rfl rfl 5 (by decide) (hts _ wq_134) (fun _ h9 => h9) rfl (by decide +kernel) rfl rfl (Nat.le_of_ble_eq_true rfl) d_K_init_46 (fun H locs hP hD hS => ?_)
  have hP : va_P z.1 vwCl ([(h0, .inr (4, [.ref q7, .ref q15, .ref q23, .ref q31, .ref q39, .int 0])), (q7, .inl (zI z, 100, .inl (fun _ => 0))), (q15, .inl (zI z, 100, .inl (fun _ => 0))), (q23, .inl (zI z, 100, .inl (fun _ => 0))), (q31, .inl (zL z, 100, .inr (.inl (fun _ => 0)))), (q39, .inl (zI z, 100, .inl (fun _ => 0)))] ++ Rr) H := hP
  have hD : va_D A0 ([(h0, .inr (4, [.ref q7, .ref q15, .ref q23, .ref q31, .ref q39, .int 0])), (q7, .inl (zI z, 100, .inl (fun _ => 0))), (q15, .inl (zI z, 100, .inl (fun _ => 0))), (q23, .inl (zI z, 100, .inl (fun _ => 0))), (q31, .inl (zL z, 100, .inr (.inl (fun _ => 0)))), (q39, .inl (zI z, 100, .inl (fun _ => 0)))] ++ Rr) := hD
  exact zz_vretE hx hb hr hlocks ⟨zad [h0, q7, q15, q23, q31, q39], rfl, rfl⟩ hP hD hS (Nat.le_of_ble_eq_true rfl) (Nat.le_of_ble_eq_true rfl) d_K_init_49

abbrev b_H_init : ByteArray := prog_2_method_1_code
abbrev y_H_init : MethodName := ⟨"MemberChooser$Chooser", "<init>", "(LMemberChooser$Types;LMemberChooser$Members;)V"⟩
abbrev w_H_init : List Cond := Cond.code y_H_init b_H_init 3 none :: zTb
theorem d_H_init_0 : decode b_H_init 0 = .ok (.aload_n 0, 1) := by decide +kernel
theorem d_H_init_1 : decode b_H_init 1 = .ok (.invokespecial 3, 3) := by decide +kernel
theorem d_H_init_4 : decode b_H_init 4 = .ok (.aload_n 0, 1) := by decide +kernel
theorem d_H_init_5 : decode b_H_init 5 = .ok (.aload_n 1, 1) := by decide +kernel
theorem d_H_init_6 : decode b_H_init 6 = .ok (.putfield 9, 3) := by decide +kernel
theorem d_H_init_9 : decode b_H_init 9 = .ok (.aload_n 0, 1) := by decide +kernel
theorem d_H_init_10 : decode b_H_init 10 = .ok (.aload_n 2, 1) := by decide +kernel
theorem d_H_init_11 : decode b_H_init 11 = .ok (.putfield 15, 3) := by decide +kernel
theorem d_H_init_14 : decode b_H_init 14 = .ok (.aload_n 0, 1) := by decide +kernel
theorem d_H_init_15 : decode b_H_init 15 = .ok (.bipush 24, 2) := by decide +kernel
theorem d_H_init_17 : decode b_H_init 17 = .ok (.newarray .int, 2) := by decide +kernel
theorem d_H_init_19 : decode b_H_init 19 = .ok (.putfield 21, 3) := by decide +kernel
theorem d_H_init_22 : decode b_H_init 22 = .ok (.aload_n 0, 1) := by decide +kernel
theorem d_H_init_23 : decode b_H_init 23 = .ok (.bipush 80, 2) := by decide +kernel
theorem d_H_init_25 : decode b_H_init 25 = .ok (.newarray .int, 2) := by decide +kernel
theorem d_H_init_27 : decode b_H_init 27 = .ok (.putfield 27, 3) := by decide +kernel
theorem d_H_init_30 : decode b_H_init 30 = .ok (.aload_n 0, 1) := by decide +kernel
theorem d_H_init_31 : decode b_H_init 31 = .ok (.bipush 80, 2) := by decide +kernel
theorem d_H_init_33 : decode b_H_init 33 = .ok (.newarray .int, 2) := by decide +kernel
theorem d_H_init_35 : decode b_H_init 35 = .ok (.putfield 30, 3) := by decide +kernel
theorem d_H_init_38 : decode b_H_init 38 = .ok (.aload_n 0, 1) := by decide +kernel
theorem d_H_init_39 : decode b_H_init 39 = .ok (.iconst 0, 1) := by decide +kernel
theorem d_H_init_40 : decode b_H_init 40 = .ok (.putfield 33, 3) := by decide +kernel
theorem d_H_init_43 : decode b_H_init 43 = .ok (.aload_n 0, 1) := by decide +kernel
theorem d_H_init_44 : decode b_H_init 44 = .ok (.iconst 0, 1) := by decide +kernel
theorem d_H_init_45 : decode b_H_init 45 = .ok (.putfield 37, 3) := by decide +kernel
theorem d_H_init_48 : decode b_H_init 48 = .ok (.aload_n 0, 1) := by decide +kernel
theorem d_H_init_49 : decode b_H_init 49 = .ok (.iconst 0, 1) := by decide +kernel
theorem d_H_init_50 : decode b_H_init 50 = .ok (.putfield 40, 3) := by decide +kernel
theorem d_H_init_53 : decode b_H_init 53 = .ok (.return_, 1) := by decide +kernel
abbrev rm_H_init : Room := { frames := 1, cells := 3, slots := 184, locals := 20 }
set_option maxRecDepth 100000 in
set_option maxHeartbeats 4000000 in
theorem k_H_init (l : Launch) (z : zE) (Rr : va_W) (h0 : Nat) (aT aM : Nat) : zCe z l y_H_init w_H_init rm_H_init [.ref h0, .ref aT, .ref aM] ([(h0, .inr (3, [.null, .null, .null, .null, .null, .int 0, .int 0, .int 0]))] ++ Rr) none (fun w' => ∃ A : Nat → Nat, A 0 = h0 ∧ w' = hw z A aT aM zH0 ++ Rr) 3 184 := by
  refine zz_ofE (by decide) (Nat.le_of_ble_eq_true rfl) ?_
  intro p e s m args below meth c A0 ls hM hO hin hr hlocks hA hP hD hl
  have hM : zM z p s m args c b_H_init 3 R_H := hM
  obtain ⟨hx, hb, hml, hown, hts, hK, hN⟩ := id hM
  have hS : va_S A0 s.heap s.heap [] := va_S.rf
  have hl : lv_has ls 3 [(0, .ref h0), (1, .ref aT), (2, .ref aM)] := hl
  refine lv_aload_n hx hb d_H_init_0 rfl (lv_at hl 0 rfl) ?_
  refine W.objInit hx hb hown (hts _ wq_95) (hts _ wq_22) (hts _ wq_23) rfl (by rw [hml]; exact hl.1) rfl d_H_init_1 (Nat.le_of_ble_eq_true rfl) (Nat.le_of_ble_eq_true rfl) ?_
  refine W.eq (g2 := F0 m 4 ls []) rfl ?_
  refine lv_aload_n hx hb d_H_init_4 rfl (lv_at hl 0 rfl) ?_
  refine lv_aload_n hx hb d_H_init_5 rfl (lv_at hl 1 rfl) ?_
  refine va_putF (D := z.1) (ci := 3) (v := .ref aT) (ty := .object "MemberChooser$Types") (C := R_H) (T := F_H) (N := 8) hx hb hts i_H ty_H ty_H_ok n_H hown hK hP hD hS 0 rfl rfl 0 (by decide) (hts _ wq_96) (fun _ h9 => h9) rfl hin rfl (by decide +kernel) rfl rfl (Nat.le_of_ble_eq_true rfl) d_H_init_6 (fun H locs hP hD hS => ?_)
  have hP : va_P z.1 vwCl ([(h0, .inr (3, [.ref aT, .null, .null, .null, .null, .int 0, .int 0, .int 0]))] ++ Rr) H := hP
  have hD : va_D A0 ([(h0, .inr (3, [.ref aT, .null, .null, .null, .null, .int 0, .int 0, .int 0]))] ++ Rr) := hD
  refine lv_aload_n hx hb d_H_init_9 rfl (lv_at hl 0 rfl) ?_
  refine lv_aload_n hx hb d_H_init_10 rfl (lv_at hl 2 rfl) ?_
  refine va_putF (D := z.1) (ci := 3) (v := .ref aM) (ty := .object "MemberChooser$Members") (C := R_H) (T := F_H) (N := 8) hx hb hts i_H ty_H ty_H_ok n_H hown hK hP hD hS 0 rfl rfl 1 (by decide) (hts _ wq_97) (fun _ h9 => h9) rfl hin rfl (by decide +kernel) rfl rfl (Nat.le_of_ble_eq_true rfl) d_H_init_11 (fun H locs hP hD hS => ?_)
  have hP : va_P z.1 vwCl ([(h0, .inr (3, [.ref aT, .ref aM, .null, .null, .null, .int 0, .int 0, .int 0]))] ++ Rr) H := hP
  have hD : va_D A0 ([(h0, .inr (3, [.ref aT, .ref aM, .null, .null, .null, .int 0, .int 0, .int 0]))] ++ Rr) := hD
  refine lv_aload_n hx hb d_H_init_14 rfl (lv_at hl 0 rfl) ?_
  refine lv_bipush (v := 24) hx hb d_H_init_15 (by decide) ?_
  refine zz_newa (L := [(h0, .inr (3, [.ref aT, .ref aM, .null, .null, .null, .int 0, .int 0, .int 0]))]) (Rr := Rr) hx hb 0 (atype := .int) (a0 := (24, .inl (fun _ => 0))) (N' := 24) (hts _ wq_59) rfl rfl (fun C h => by cases h) hK hP hD hS hA (fun _ => rfl) (by decide) (by decide) (by decide) (Nat.le_of_ble_eq_true rfl) (Nat.le_of_ble_eq_true rfl) d_H_init_17 (fun q17 H hP hD hS => ?_)
  have hP : va_P z.1 vwCl ([(h0, .inr (3, [.ref aT, .ref aM, .null, .null, .null, .int 0, .int 0, .int 0])), (q17, .inl (zI z, 24, .inl (fun _ => 0)))] ++ Rr) H := hP
  have hD : va_D A0 ([(h0, .inr (3, [.ref aT, .ref aM, .null, .null, .null, .int 0, .int 0, .int 0])), (q17, .inl (zI z, 24, .inl (fun _ => 0)))] ++ Rr) := hD
  refine va_putF (D := z.1) (ci := 3) (v := .ref q17) (ty := .array .int) (C := R_H) (T := F_H) (N := 8) hx hb hts i_H ty_H ty_H_ok n_H hown hK hP hD hS 0 rfl rfl 2 (by decide) (hts _ wq_98) (fun _ h9 => h9) rfl hin rfl (by decide +kernel) rfl rfl (Nat.le_of_ble_eq_true rfl) d_H_init_19 (fun H locs hP hD hS => ?_)
  have hP : va_P z.1 vwCl ([(h0, .inr (3, [.ref aT, .ref aM, .ref q17, .null, .null, .int 0, .int 0, .int 0])), (q17, .inl (zI z, 24, .inl (fun _ => 0)))] ++ Rr) H := hP
  have hD : va_D A0 ([(h0, .inr (3, [.ref aT, .ref aM, .ref q17, .null, .null, .int 0, .int 0, .int 0])), (q17, .inl (zI z, 24, .inl (fun _ => 0)))] ++ Rr) := hD
  refine lv_aload_n hx hb d_H_init_22 rfl (lv_at hl 0 rfl) ?_
  refine lv_bipush (v := 80) hx hb d_H_init_23 (by decide) ?_
  refine zz_newa (L := [(h0, .inr (3, [.ref aT, .ref aM, .ref q17, .null, .null, .int 0, .int 0, .int 0])), (q17, .inl (zI z, 24, .inl (fun _ => 0)))]) (Rr := Rr) hx hb 0 (atype := .int) (a0 := (80, .inl (fun _ => 0))) (N' := 80) (hts _ wq_59) rfl rfl (fun C h => by cases h) hK hP hD hS hA (fun _ => rfl) (by decide) (by decide) (by decide) (Nat.le_of_ble_eq_true rfl) (Nat.le_of_ble_eq_true rfl) d_H_init_25 (fun q25 H hP hD hS => ?_)
  have hP : va_P z.1 vwCl ([(h0, .inr (3, [.ref aT, .ref aM, .ref q17, .null, .null, .int 0, .int 0, .int 0])), (q17, .inl (zI z, 24, .inl (fun _ => 0))), (q25, .inl (zI z, 80, .inl (fun _ => 0)))] ++ Rr) H := hP
  have hD : va_D A0 ([(h0, .inr (3, [.ref aT, .ref aM, .ref q17, .null, .null, .int 0, .int 0, .int 0])), (q17, .inl (zI z, 24, .inl (fun _ => 0))), (q25, .inl (zI z, 80, .inl (fun _ => 0)))] ++ Rr) := hD
  refine va_putF (D := z.1) (ci := 3) (v := .ref q25) (ty := .array .int) (C := R_H) (T := F_H) (N := 8) hx hb hts i_H ty_H ty_H_ok n_H hown hK hP hD hS 0 rfl rfl 3 (by decide) (hts _ wq_99) (fun _ h9 => h9) rfl hin rfl (by decide +kernel) rfl rfl (Nat.le_of_ble_eq_true rfl) d_H_init_27 (fun H locs hP hD hS => ?_)
  have hP : va_P z.1 vwCl ([(h0, .inr (3, [.ref aT, .ref aM, .ref q17, .ref q25, .null, .int 0, .int 0, .int 0])), (q17, .inl (zI z, 24, .inl (fun _ => 0))), (q25, .inl (zI z, 80, .inl (fun _ => 0)))] ++ Rr) H := hP
  have hD : va_D A0 ([(h0, .inr (3, [.ref aT, .ref aM, .ref q17, .ref q25, .null, .int 0, .int 0, .int 0])), (q17, .inl (zI z, 24, .inl (fun _ => 0))), (q25, .inl (zI z, 80, .inl (fun _ => 0)))] ++ Rr) := hD
  refine lv_aload_n hx hb d_H_init_30 rfl (lv_at hl 0 rfl) ?_
  refine lv_bipush (v := 80) hx hb d_H_init_31 (by decide) ?_
  refine zz_newa (L := [(h0, .inr (3, [.ref aT, .ref aM, .ref q17, .ref q25, .null, .int 0, .int 0, .int 0])), (q17, .inl (zI z, 24, .inl (fun _ => 0))), (q25, .inl (zI z, 80, .inl (fun _ => 0)))]) (Rr := Rr) hx hb 0 (atype := .int) (a0 := (80, .inl (fun _ => 0))) (N' := 80) (hts _ wq_59) rfl rfl (fun C h => by cases h) hK hP hD hS hA (fun _ => rfl) (by decide) (by decide) (by decide) (Nat.le_of_ble_eq_true rfl) (Nat.le_of_ble_eq_true rfl) d_H_init_33 (fun q33 H hP hD hS => ?_)
  have hP : va_P z.1 vwCl ([(h0, .inr (3, [.ref aT, .ref aM, .ref q17, .ref q25, .null, .int 0, .int 0, .int 0])), (q17, .inl (zI z, 24, .inl (fun _ => 0))), (q25, .inl (zI z, 80, .inl (fun _ => 0))), (q33, .inl (zI z, 80, .inl (fun _ => 0)))] ++ Rr) H := hP
  have hD : va_D A0 ([(h0, .inr (3, [.ref aT, .ref aM, .ref q17, .ref q25, .null, .int 0, .int 0, .int 0])), (q17, .inl (zI z, 24, .inl (fun _ => 0))), (q25, .inl (zI z, 80, .inl (fun _ => 0))), (q33, .inl (zI z, 80, .inl (fun _ => 0)))] ++ Rr) := hD
  refine va_putF (D := z.1) (ci := 3) (v := .ref q33) (ty := .array .int) (C := R_H) (T := F_H) (N := 8) hx hb hts i_H ty_H ty_H_ok n_H hown hK hP hD hS 0 rfl rfl 4 (by decide) (hts _ wq_100) (fun _ h9 => h9) rfl hin rfl (by decide +kernel) rfl rfl (Nat.le_of_ble_eq_true rfl) d_H_init_35 (fun H locs hP hD hS => ?_)
  have hP : va_P z.1 vwCl ([(h0, .inr (3, [.ref aT, .ref aM, .ref q17, .ref q25, .ref q33, .int 0, .int 0, .int 0])), (q17, .inl (zI z, 24, .inl (fun _ => 0))), (q25, .inl (zI z, 80, .inl (fun _ => 0))), (q33, .inl (zI z, 80, .inl (fun _ => 0)))] ++ Rr) H := hP
  have hD : va_D A0 ([(h0, .inr (3, [.ref aT, .ref aM, .ref q17, .ref q25, .ref q33, .int 0, .int 0, .int 0])), (q17, .inl (zI z, 24, .inl (fun _ => 0))), (q25, .inl (zI z, 80, .inl (fun _ => 0))), (q33, .inl (zI z, 80, .inl (fun _ => 0)))] ++ Rr) := hD
  refine lv_aload_n hx hb d_H_init_38 rfl (lv_at hl 0 rfl) ?_
  refine lv_iconst (v := 0) hx hb d_H_init_39 (by decide) ?_
  refine va_put (D := z.1) (ci := 3) (v := .int 0) (ty := .int) (C := R_H) (T := F_H) (N := 8) hx hb hts i_H ty_H ty_H_ok n_H hown hK hP hD hS 0 rfl rfl 5 (by decide) (hts _ wq_101) (fun _ h9 => h9) rfl (by decide +kernel) rfl rfl (Nat.le_of_ble_eq_true rfl) d_H_init_40 (fun H locs hP hD hS => ?_)
  have hP : va_P z.1 vwCl ([(h0, .inr (3, [.ref aT, .ref aM, .ref q17, .ref q25, .ref q33, .int 0, .int 0, .int 0])), (q17, .inl (zI z, 24, .inl (fun _ => 0))), (q25, .inl (zI z, 80, .inl (fun _ => 0))), (q33, .inl (zI z, 80, .inl (fun _ => 0)))] ++ Rr) H := hP
  have hD : va_D A0 ([(h0, .inr (3, [.ref aT, .ref aM, .ref q17, .ref q25, .ref q33, .int 0, .int 0, .int 0])), (q17, .inl (zI z, 24, .inl (fun _ => 0))), (q25, .inl (zI z, 80, .inl (fun _ => 0))), (q33, .inl (zI z, 80, .inl (fun _ => 0)))] ++ Rr) := hD
  refine lv_aload_n hx hb d_H_init_43 rfl (lv_at hl 0 rfl) ?_
  refine lv_iconst (v := 0) hx hb d_H_init_44 (by decide) ?_
  refine va_put (D := z.1) (ci := 3) (v := .int 0) (ty := .int) (C := R_H) (T := F_H) (N := 8) hx hb hts i_H ty_H ty_H_ok n_H hown hK hP hD hS 0 rfl rfl 6 (by decide) (hts _ wq_102) (fun _ h9 => h9) rfl (by decide +kernel) rfl rfl (Nat.le_of_ble_eq_true rfl) d_H_init_45 (fun H locs hP hD hS => ?_)
  have hP : va_P z.1 vwCl ([(h0, .inr (3, [.ref aT, .ref aM, .ref q17, .ref q25, .ref q33, .int 0, .int 0, .int 0])), (q17, .inl (zI z, 24, .inl (fun _ => 0))), (q25, .inl (zI z, 80, .inl (fun _ => 0))), (q33, .inl (zI z, 80, .inl (fun _ => 0)))] ++ Rr) H := hP
  have hD : va_D A0 ([(h0, .inr (3, [.ref aT, .ref aM, .ref q17, .ref q25, .ref q33, .int 0, .int 0, .int 0])), (q17, .inl (zI z, 24, .inl (fun _ => 0))), (q25, .inl (zI z, 80, .inl (fun _ => 0))), (q33, .inl (zI z, 80, .inl (fun _ => 0)))] ++ Rr) := hD
  refine lv_aload_n hx hb d_H_init_48 rfl (lv_at hl 0 rfl) ?_
  refine lv_iconst (v := 0) hx hb d_H_init_49 (by decide) ?_
  refine va_put (D := z.1) (ci := 3) (v := .int 0) (ty := .int) (C := R_H) (T := F_H) (N := 8) hx hb hts i_H ty_H ty_H_ok n_H hown hK hP hD hS 0 rfl rfl 7 (by decide) (hts _ wq_103) (fun _ h9 => h9) rfl (by decide +kernel) rfl rfl (Nat.le_of_ble_eq_true rfl) d_H_init_50 (fun H locs hP hD hS => ?_)
  have hP : va_P z.1 vwCl ([(h0, .inr (3, [.ref aT, .ref aM, .ref q17, .ref q25, .ref q33, .int 0, .int 0, .int 0])), (q17, .inl (zI z, 24, .inl (fun _ => 0))), (q25, .inl (zI z, 80, .inl (fun _ => 0))), (q33, .inl (zI z, 80, .inl (fun _ => 0)))] ++ Rr) H := hP
  have hD : va_D A0 ([(h0, .inr (3, [.ref aT, .ref aM, .ref q17, .ref q25, .ref q33, .int 0, .int 0, .int 0])), (q17, .inl (zI z, 24, .inl (fun _ => 0))), (q25, .inl (zI z, 80, .inl (fun _ => 0))), (q33, .inl (zI z, 80, .inl (fun _ => 0)))] ++ Rr) := hD
  exact zz_vretE hx hb hr hlocks ⟨zad [h0, q17, q25, q33], rfl, rfl⟩ hP hD hS (Nat.le_of_ble_eq_true rfl) (Nat.le_of_ble_eq_true rfl) d_H_init_53
end
section
abbrev b_Q_init : ByteArray := prog_7_method_1_code
abbrev y_Q_init : MethodName := ⟨"MemberChooserModel", "<init>", "()V"⟩
abbrev w_Q_init : List Cond := Cond.code y_Q_init b_Q_init 1 none :: zTb
theorem d_Q_init_0 : decode b_Q_init 0 = .ok (.aload_n 0, 1) := by decide +kernel
theorem d_Q_init_1 : decode b_Q_init 1 = .ok (.invokespecial 1, 3) := by decide +kernel
theorem d_Q_init_4 : decode b_Q_init 4 = .ok (.aload_n 0, 1) := by decide +kernel
theorem d_Q_init_5 : decode b_Q_init 5 = .ok (.bipush 8, 2) := by decide +kernel
theorem d_Q_init_7 : decode b_Q_init 7 = .ok (.putfield 9, 3) := by decide +kernel
theorem d_Q_init_10 : decode b_Q_init 10 = .ok (.aload_n 0, 1) := by decide +kernel
theorem d_Q_init_11 : decode b_Q_init 11 = .ok (.bipush 32, 2) := by decide +kernel
theorem d_Q_init_13 : decode b_Q_init 13 = .ok (.newarray .boolean, 2) := by decide +kernel
theorem d_Q_init_15 : decode b_Q_init 15 = .ok (.putfield 13, 3) := by decide +kernel
theorem d_Q_init_18 : decode b_Q_init 18 = .ok (.aload_n 0, 1) := by decide +kernel
theorem d_Q_init_19 : decode b_Q_init 19 = .ok (.bipush 32, 2) := by decide +kernel
theorem d_Q_init_21 : decode b_Q_init 21 = .ok (.newarray .int, 2) := by decide +kernel
theorem d_Q_init_23 : decode b_Q_init 23 = .ok (.putfield 17, 3) := by decide +kernel
theorem d_Q_init_26 : decode b_Q_init 26 = .ok (.aload_n 0, 1) := by decide +kernel
theorem d_Q_init_27 : decode b_Q_init 27 = .ok (.bipush 32, 2) := by decide +kernel
theorem d_Q_init_29 : decode b_Q_init 29 = .ok (.newarray .int, 2) := by decide +kernel
theorem d_Q_init_31 : decode b_Q_init 31 = .ok (.putfield 21, 3) := by decide +kernel
theorem d_Q_init_34 : decode b_Q_init 34 = .ok (.aload_n 0, 1) := by decide +kernel
theorem d_Q_init_35 : decode b_Q_init 35 = .ok (.sipush 1024, 3) := by decide +kernel
theorem d_Q_init_38 : decode b_Q_init 38 = .ok (.newarray .int, 2) := by decide +kernel
theorem d_Q_init_40 : decode b_Q_init 40 = .ok (.putfield 24, 3) := by decide +kernel
theorem d_Q_init_43 : decode b_Q_init 43 = .ok (.aload_n 0, 1) := by decide +kernel
theorem d_Q_init_44 : decode b_Q_init 44 = .ok (.bipush 80, 2) := by decide +kernel
theorem d_Q_init_46 : decode b_Q_init 46 = .ok (.newarray .int, 2) := by decide +kernel
theorem d_Q_init_48 : decode b_Q_init 48 = .ok (.putfield 27, 3) := by decide +kernel
theorem d_Q_init_51 : decode b_Q_init 51 = .ok (.aload_n 0, 1) := by decide +kernel
theorem d_Q_init_52 : decode b_Q_init 52 = .ok (.bipush 80, 2) := by decide +kernel
theorem d_Q_init_54 : decode b_Q_init 54 = .ok (.newarray .int, 2) := by decide +kernel
theorem d_Q_init_56 : decode b_Q_init 56 = .ok (.putfield 30, 3) := by decide +kernel
theorem d_Q_init_59 : decode b_Q_init 59 = .ok (.aload_n 0, 1) := by decide +kernel
theorem d_Q_init_60 : decode b_Q_init 60 = .ok (.bipush 80, 2) := by decide +kernel
theorem d_Q_init_62 : decode b_Q_init 62 = .ok (.newarray .int, 2) := by decide +kernel
theorem d_Q_init_64 : decode b_Q_init 64 = .ok (.putfield 33, 3) := by decide +kernel
theorem d_Q_init_67 : decode b_Q_init 67 = .ok (.aload_n 0, 1) := by decide +kernel
theorem d_Q_init_68 : decode b_Q_init 68 = .ok (.sipush 320, 3) := by decide +kernel
theorem d_Q_init_71 : decode b_Q_init 71 = .ok (.newarray .int, 2) := by decide +kernel
theorem d_Q_init_73 : decode b_Q_init 73 = .ok (.putfield 36, 3) := by decide +kernel
theorem d_Q_init_76 : decode b_Q_init 76 = .ok (.aload_n 0, 1) := by decide +kernel
theorem d_Q_init_77 : decode b_Q_init 77 = .ok (.bipush 80, 2) := by decide +kernel
theorem d_Q_init_79 : decode b_Q_init 79 = .ok (.newarray .boolean, 2) := by decide +kernel
theorem d_Q_init_81 : decode b_Q_init 81 = .ok (.putfield 39, 3) := by decide +kernel
theorem d_Q_init_84 : decode b_Q_init 84 = .ok (.aload_n 0, 1) := by decide +kernel
theorem d_Q_init_85 : decode b_Q_init 85 = .ok (.bipush 100, 2) := by decide +kernel
theorem d_Q_init_87 : decode b_Q_init 87 = .ok (.newarray .int, 2) := by decide +kernel
theorem d_Q_init_89 : decode b_Q_init 89 = .ok (.putfield 42, 3) := by decide +kernel
theorem d_Q_init_92 : decode b_Q_init 92 = .ok (.aload_n 0, 1) := by decide +kernel
theorem d_Q_init_93 : decode b_Q_init 93 = .ok (.bipush 100, 2) := by decide +kernel
theorem d_Q_init_95 : decode b_Q_init 95 = .ok (.newarray .int, 2) := by decide +kernel
theorem d_Q_init_97 : decode b_Q_init 97 = .ok (.putfield 45, 3) := by decide +kernel
theorem d_Q_init_100 : decode b_Q_init 100 = .ok (.aload_n 0, 1) := by decide +kernel
theorem d_Q_init_101 : decode b_Q_init 101 = .ok (.bipush 100, 2) := by decide +kernel
theorem d_Q_init_103 : decode b_Q_init 103 = .ok (.newarray .int, 2) := by decide +kernel
theorem d_Q_init_105 : decode b_Q_init 105 = .ok (.putfield 48, 3) := by decide +kernel
theorem d_Q_init_108 : decode b_Q_init 108 = .ok (.aload_n 0, 1) := by decide +kernel
theorem d_Q_init_109 : decode b_Q_init 109 = .ok (.bipush 100, 2) := by decide +kernel
theorem d_Q_init_111 : decode b_Q_init 111 = .ok (.newarray .long, 2) := by decide +kernel
theorem d_Q_init_113 : decode b_Q_init 113 = .ok (.putfield 51, 3) := by decide +kernel
theorem d_Q_init_116 : decode b_Q_init 116 = .ok (.aload_n 0, 1) := by decide +kernel
theorem d_Q_init_117 : decode b_Q_init 117 = .ok (.bipush 100, 2) := by decide +kernel
theorem d_Q_init_119 : decode b_Q_init 119 = .ok (.newarray .int, 2) := by decide +kernel
theorem d_Q_init_121 : decode b_Q_init 121 = .ok (.putfield 55, 3) := by decide +kernel
theorem d_Q_init_124 : decode b_Q_init 124 = .ok (.aload_n 0, 1) := by decide +kernel
theorem d_Q_init_125 : decode b_Q_init 125 = .ok (.bipush 32, 2) := by decide +kernel
theorem d_Q_init_127 : decode b_Q_init 127 = .ok (.newarray .int, 2) := by decide +kernel
theorem d_Q_init_129 : decode b_Q_init 129 = .ok (.putfield 58, 3) := by decide +kernel
theorem d_Q_init_132 : decode b_Q_init 132 = .ok (.aload_n 0, 1) := by decide +kernel
theorem d_Q_init_133 : decode b_Q_init 133 = .ok (.bipush 80, 2) := by decide +kernel
theorem d_Q_init_135 : decode b_Q_init 135 = .ok (.newarray .int, 2) := by decide +kernel
theorem d_Q_init_137 : decode b_Q_init 137 = .ok (.putfield 61, 3) := by decide +kernel
theorem d_Q_init_140 : decode b_Q_init 140 = .ok (.aload_n 0, 1) := by decide +kernel
theorem d_Q_init_141 : decode b_Q_init 141 = .ok (.bipush 6, 2) := by decide +kernel
theorem d_Q_init_143 : decode b_Q_init 143 = .ok (.newarray .int, 2) := by decide +kernel
theorem d_Q_init_145 : decode b_Q_init 145 = .ok (.putfield 64, 3) := by decide +kernel
theorem d_Q_init_148 : decode b_Q_init 148 = .ok (.aload_n 0, 1) := by decide +kernel
theorem d_Q_init_149 : decode b_Q_init 149 = .ok (.bipush 32, 2) := by decide +kernel
theorem d_Q_init_151 : decode b_Q_init 151 = .ok (.newarray .boolean, 2) := by decide +kernel
theorem d_Q_init_153 : decode b_Q_init 153 = .ok (.putfield 67, 3) := by decide +kernel
theorem d_Q_init_156 : decode b_Q_init 156 = .ok (.aload_n 0, 1) := by decide +kernel
theorem d_Q_init_157 : decode b_Q_init 157 = .ok (.sipush 1024, 3) := by decide +kernel
theorem d_Q_init_160 : decode b_Q_init 160 = .ok (.newarray .int, 2) := by decide +kernel
theorem d_Q_init_162 : decode b_Q_init 162 = .ok (.putfield 70, 3) := by decide +kernel
theorem d_Q_init_165 : decode b_Q_init 165 = .ok (.return_, 1) := by decide +kernel
abbrev rm_Q_init : Room := { frames := 1, cells := 19, slots := 3434, locals := 20 }
set_option maxRecDepth 100000 in
set_option maxHeartbeats 4000000 in
theorem k_Q_init (l : Launch) (z : zE) (Rr : va_W) (h0 : Nat) : zCe z l y_Q_init w_Q_init rm_Q_init [.ref h0] ([(h0, .inr (5, [.int 0, .int 0, .null, .null, .null, .null, .int 0, .null, .null, .null, .null, .null, .int 0, .null, .null, .null, .null, .null, .int 0, .int 0, .int 0, .null, .int 0, .null, .int 0, .null, .null, .null]))] ++ Rr) none (fun w' => ∃ A : Nat → Nat, A 0 = h0 ∧ w' = qw z A zQ0 ++ Rr) 19 3434 := by
  refine zz_ofE (by decide) (Nat.le_of_ble_eq_true rfl) ?_
  intro p e s m args below meth c A0 ls hM hO hin hr hlocks hA hP hD hl
  have hM : zM z p s m args c b_Q_init 1 R_Q := hM
  obtain ⟨hx, hb, hml, hown, hts, hK, hN⟩ := id hM
  have hS : va_S A0 s.heap s.heap [] := va_S.rf
  have hl : lv_has ls 1 [(0, .ref h0)] := hl
  refine lv_aload_n hx hb d_Q_init_0 rfl (lv_at hl 0 rfl) ?_
  refine W.objInit hx hb hown (hts _ wq_550) (hts _ wq_22) (hts _ wq_23) rfl (by rw [hml]; exact hl.1) rfl d_Q_init_1 (Nat.le_of_ble_eq_true rfl) (Nat.le_of_ble_eq_true rfl) ?_
  refine W.eq (g2 := F0 m 4 ls []) rfl ?_
  refine lv_aload_n hx hb d_Q_init_4 rfl (lv_at hl 0 rfl) ?_
  refine lv_bipush (v := 8) hx hb d_Q_init_5 (by decide) ?_
  refine va_put (D := z.1) (ci := 5) (v := .int 8) (ty := .int) (C := R_Q) (T := F_Q) (N := 28) hx hb hts i_Q ty_Q ty_Q_ok n_Q hown hK hP hD hS 0 rfl rfl 1 (by decide) (hts _ wq_552) (fun _ h9 => h9) rfl (by decide +kernel) rfl rfl (Nat.le_of_ble_eq_true rfl) d_Q_init_7 (fun H locs hP hD hS => ?_)
  have hP : va_P z.1 vwCl ([(h0, .inr (5, [.int 0, .int 8, .null, .null, .null, .null, .int 0, .null, .null, .null, .null, .null, .int 0, .null, .null, .null, .null, .null, .int 0, .int 0, .int 0, .null, .int 0, .null, .int 0, .null, .null, .null]))] ++ Rr) H := hP
  have hD : va_D A0 ([(h0, .inr (5, [.int 0, .int 8, .null, .null, .null, .null, .int 0, .null, .null, .null, .null, .null, .int 0, .null, .null, .null, .null, .null, .int 0, .int 0, .int 0, .null, .int 0, .null, .int 0, .null, .null, .null]))] ++ Rr) := hD
  refine lv_aload_n hx hb d_Q_init_10 rfl (lv_at hl 0 rfl) ?_
  refine lv_bipush (v := 32) hx hb d_Q_init_11 (by decide) ?_
  refine zz_newa (L := [(h0, .inr (5, [.int 0, .int 8, .null, .null, .null, .null, .int 0, .null, .null, .null, .null, .null, .int 0, .null, .null, .null, .null, .null, .int 0, .int 0, .int 0, .null, .int 0, .null, .int 0, .null, .null, .null]))]) (Rr := Rr) hx hb 1 (atype := .boolean) (a0 := (32, .inl (fun _ => 0))) (N' := 32) (hts _ wq_58) rfl rfl (fun C h => by cases h) hK hP hD hS hA (fun _ => rfl) (by decide) (by decide) (by decide) (Nat.le_of_ble_eq_true rfl) (Nat.le_of_ble_eq_true rfl) d_Q_init_13 (fun q13 H hP hD hS => ?_)
  have hP : va_P z.1 vwCl ([(h0, .inr (5, [.int 0, .int 8, .null, .null, .null, .null, .int 0, .null, .null, .null, .null, .null, .int 0, .null, .null, .null, .null, .null, .int 0, .int 0, .int 0, .null, .int 0, .null, .int 0, .null, .null, .null])), (q13, .inl (zZ z, 32, .inl (fun _ => 0)))] ++ Rr) H := hP
  have hD : va_D A0 ([(h0, .inr (5, [.int 0, .int 8, .null, .null, .null, .null, .int 0, .null, .null, .null, .null, .null, .int 0, .null, .null, .null, .null, .null, .int 0, .int 0, .int 0, .null, .int 0, .null, .int 0, .null, .null, .null])), (q13, .inl (zZ z, 32, .inl (fun _ => 0)))] ++ Rr) := hD
  refine va_putF (D := z.1) (ci := 5) (v := .ref q13) (ty := .array .boolean) (C := R_Q) (T := F_Q) (N := 28) hx hb hts i_Q ty_Q ty_Q_ok n_Q hown hK hP hD hS 0 rfl rfl 2 (by decide) (hts _ wq_553) (fun _ h9 => h9) rfl hin rfl (by decide +kernel) rfl rfl (Nat.le_of_ble_eq_true rfl) d_Q_init_15 (fun H locs hP hD hS => ?_)
  have hP : va_P z.1 vwCl ([(h0, .inr (5, [.int 0, .int 8, .ref q13, .null, .null, .null, .int 0, .null, .null, .null, .null, .null, .int 0, .null, .null, .null, .null, .null, .int 0, .int 0, .int 0, .null, .int 0, .null, .int 0, .null, .null, .null])), (q13, .inl (zZ z, 32, .inl (fun _ => 0)))] ++ Rr) H := hP
  have hD : va_D A0 ([(h0, .inr (5, [.int 0, .int 8, .ref q13, .null, .null, .null, .int 0, .null, .null, .null, .null, .null, .int 0, .null, .null, .null, .null, .null, .int 0, .int 0, .int 0, .null, .int 0, .null, .int 0, .null, .null, .null])), (q13, .inl (zZ z, 32, .inl (fun _ => 0)))] ++ Rr) := hD
  refine lv_aload_n hx hb d_Q_init_18 rfl (lv_at hl 0 rfl) ?_
  refine lv_bipush (v := 32) hx hb d_Q_init_19 (by decide) ?_
  refine zz_newa (L := [(h0, .inr (5, [.int 0, .int 8, .ref q13, .null, .null, .null, .int 0, .null, .null, .null, .null, .null, .int 0, .null, .null, .null, .null, .null, .int 0, .int 0, .int 0, .null, .int 0, .null, .int 0, .null, .null, .null])), (q13, .inl (zZ z, 32, .inl (fun _ => 0)))]) (Rr := Rr) hx hb 0 (atype := .int) (a0 := (32, .inl (fun _ => 0))) (N' := 32) (hts _ wq_59) rfl rfl (fun C h => by cases h) hK hP hD hS hA (fun _ => rfl) (by decide) (by decide) (by decide) (Nat.le_of_ble_eq_true rfl) (Nat.le_of_ble_eq_true rfl) d_Q_init_21 (fun q21 H hP hD hS => ?_)
  have hP : va_P z.1 vwCl ([(h0, .inr (5, [.int 0, .int 8, .ref q13, .null, .null, .null, .int 0, .null, .null, .null, .null, .null, .int 0, .null, .null, .null, .null, .null, .int 0, .int 0, .int 0, .null, .int 0, .null, .int 0, .null, .null, .null])), (q13, .inl (zZ z, 32, .inl (fun _ => 0))), (q21, .inl (zI z, 32, .inl (fun _ => 0)))] ++ Rr) H := hP
  have hD : va_D A0 ([(h0, .inr (5, [.int 0, .int 8, .ref q13, .null, .null, .null, .int 0, .null, .null, .null, .null, .null, .int 0, .null, .null, .null, .null, .null, .int 0, .int 0, .int 0, .null, .int 0, .null, .int 0, .null, .null, .null])), (q13, .inl (zZ z, 32, .inl (fun _ => 0))), (q21, .inl (zI z, 32, .inl (fun _ => 0)))] ++ Rr) := hD
  refine va_putF (D := z.1) (ci := 5) (v := .ref q21) (ty := .array .int) (C := R_Q) (T := F_Q) (N := 28) hx hb hts i_Q ty_Q ty_Q_ok n_Q hown hK hP hD hS 0 rfl rfl 3 (by decide) (hts _ wq_554) (fun _ h9 => h9) rfl hin rfl (by decide +kernel) rfl rfl (Nat.le_of_ble_eq_true rfl) d_Q_init_23 (fun H locs hP hD hS => ?_)
  have hP : va_P z.1 vwCl ([(h0, .inr (5, [.int 0, .int 8, .ref q13, .ref q21, .null, .null, .int 0, .null, .null, .null, .null, .null, .int 0, .null, .null, .null, .null, .null, .int 0, .int 0, .int 0, .null, .int 0, .null, .int 0, .null, .null, .null])), (q13, .inl (zZ z, 32, .inl (fun _ => 0))), (q21, .inl (zI z, 32, .inl (fun _ => 0)))] ++ Rr) H := hP
  have hD : va_D A0 ([(h0, .inr (5, [.int 0, .int 8, .ref q13, .ref q21, .null, .null, .int 0, .null, .null, .null, .null, .null, .int 0, .null, .null, .null, .null, .null, .int 0, .int 0, .int 0, .null, .int 0, .null, .int 0, .null, .null, .null])), (q13, .inl (zZ z, 32, .inl (fun _ => 0))), (q21, .inl (zI z, 32, .inl (fun _ => 0)))] ++ Rr) := hD
  refine lv_aload_n hx hb d_Q_init_26 rfl (lv_at hl 0 rfl) ?_
  refine lv_bipush (v := 32) hx hb d_Q_init_27 (by decide) ?_
  refine zz_newa (L := [(h0, .inr (5, [.int 0, .int 8, .ref q13, .ref q21, .null, .null, .int 0, .null, .null, .null, .null, .null, .int 0, .null, .null, .null, .null, .null, .int 0, .int 0, .int 0, .null, .int 0, .null, .int 0, .null, .null, .null])), (q13, .inl (zZ z, 32, .inl (fun _ => 0))), (q21, .inl (zI z, 32, .inl (fun _ => 0)))]) (Rr := Rr) hx hb 0 (atype := .int) (a0 := (32, .inl (fun _ => 0))) (N' := 32) (hts _ wq_59) rfl rfl (fun C h => by cases h) hK hP hD hS hA (fun _ => rfl) (by decide) (by decide) (by decide) (Nat.le_of_ble_eq_true rfl) (Nat.le_of_ble_eq_true rfl) d_Q_init_29 (fun q29 H hP hD hS => ?_)
  have hP : va_P z.1 vwCl ([(h0, .inr (5, [.int 0, .int 8, .ref q13, .ref q21, .null, .null, .int 0, .null, .null, .null, .null, .null, .int 0, .null, .null, .null, .null, .null, .int 0, .int 0, .int 0, .null, .int 0, .null, .int 0, .null, .null, .null])), (q13, .inl (zZ z, 32, .inl (fun _ => 0))), (q21, .inl (zI z, 32, .inl (fun _ => 0))), (q29, .inl (zI z, 32, .inl (fun _ => 0)))] ++ Rr) H := hP
  have hD : va_D A0 ([(h0, .inr (5, [.int 0, .int 8, .ref q13, .ref q21, .null, .null, .int 0, .null, .null, .null, .null, .null, .int 0, .null, .null, .null, .null, .null, .int 0, .int 0, .int 0, .null, .int 0, .null, .int 0, .null, .null, .null])), (q13, .inl (zZ z, 32, .inl (fun _ => 0))), (q21, .inl (zI z, 32, .inl (fun _ => 0))), (q29, .inl (zI z, 32, .inl (fun _ => 0)))] ++ Rr) := hD
  refine va_putF (D := z.1) (ci := 5) (v := .ref q29) (ty := .array .int) (C := R_Q) (T := F_Q) (N := 28) hx hb hts i_Q ty_Q ty_Q_ok n_Q hown hK hP hD hS 0 rfl rfl 4 (by decide) (hts _ wq_555) (fun _ h9 => h9) rfl hin rfl (by decide +kernel) rfl rfl (Nat.le_of_ble_eq_true rfl) d_Q_init_31 (fun H locs hP hD hS => ?_)
  have hP : va_P z.1 vwCl ([(h0, .inr (5, [.int 0, .int 8, .ref q13, .ref q21, .ref q29, .null, .int 0, .null, .null, .null, .null, .null, .int 0, .null, .null, .null, .null, .null, .int 0, .int 0, .int 0, .null, .int 0, .null, .int 0, .null, .null, .null])), (q13, .inl (zZ z, 32, .inl (fun _ => 0))), (q21, .inl (zI z, 32, .inl (fun _ => 0))), (q29, .inl (zI z, 32, .inl (fun _ => 0)))] ++ Rr) H := hP
  have hD : va_D A0 ([(h0, .inr (5, [.int 0, .int 8, .ref q13, .ref q21, .ref q29, .null, .int 0, .null, .null, .null, .null, .null, .int 0, .null, .null, .null, .null, .null, .int 0, .int 0, .int 0, .null, .int 0, .null, .int 0, .null, .null, .null])), (q13, .inl (zZ z, 32, .inl (fun _ => 0))), (q21, .inl (zI z, 32, .inl (fun _ => 0))), (q29, .inl (zI z, 32, .inl (fun _ => 0)))] ++ Rr) := hD
  refine lv_aload_n hx hb d_Q_init_34 rfl (lv_at hl 0 rfl) ?_
  refine lv_sipush (v := 1024) hx hb d_Q_init_35 (by decide) ?_
  refine zz_newa (L := [(h0, .inr (5, [.int 0, .int 8, .ref q13, .ref q21, .ref q29, .null, .int 0, .null, .null, .null, .null, .null, .int 0, .null, .null, .null, .null, .null, .int 0, .int 0, .int 0, .null, .int 0, .null, .int 0, .null, .null, .null])), (q13, .inl (zZ z, 32, .inl (fun _ => 0))), (q21, .inl (zI z, 32, .inl (fun _ => 0))), (q29, .inl (zI z, 32, .inl (fun _ => 0)))]) (Rr := Rr) hx hb 0 (atype := .int) (a0 := (1024, .inl (fun _ => 0))) (N' := 1024) (hts _ wq_59) rfl rfl (fun C h => by cases h) hK hP hD hS hA (fun _ => rfl) (by decide) (by decide) (by decide) (Nat.le_of_ble_eq_true rfl) (Nat.le_of_ble_eq_true rfl) d_Q_init_38 (fun q38 H hP hD hS => ?_)
  have hP : va_P z.1 vwCl ([(h0, .inr (5, [.int 0, .int 8, .ref q13, .ref q21, .ref q29, .null, .int 0, .null, .null, .null, .null, .null, .int 0, .null, .null, .null, .null, .null, .int 0, .int 0, .int 0, .null, .int 0, .null, .int 0, .null, .null, .null])), (q13, .inl (zZ z, 32, .inl (fun _ => 0))), (q21, .inl (zI z, 32, .inl (fun _ => 0))), (q29, .inl (zI z, 32, .inl (fun _ => 0))), (q38, .inl (zI z, 1024, .inl (fun _ => 0)))] ++ Rr) H := hP
  have hD : va_D A0 ([(h0, .inr (5, [.int 0, .int 8, .ref q13, .ref q21, .ref q29, .null, .int 0, .null, .null, .null, .null, .null, .int 0, .null, .null, .null, .null, .null, .int 0, .int 0, .int 0, .null, .int 0, .null, .int 0, .null, .null, .null])), (q13, .inl (zZ z, 32, .inl (fun _ => 0))), (q21, .inl (zI z, 32, .inl (fun _ => 0))), (q29, .inl (zI z, 32, .inl (fun _ => 0))), (q38, .inl (zI z, 1024, .inl (fun _ => 0)))] ++ Rr) := hD
  refine va_putF (D := z.1) (ci := 5) (v := .ref q38) (ty := .array .int) (C := R_Q) (T := F_Q) (N := 28) hx hb hts i_Q ty_Q ty_Q_ok n_Q hown hK hP hD hS 0 rfl rfl 5 (by decide) (hts _ wq_556) (fun _ h9 => h9) rfl hin rfl (by decide +kernel) rfl rfl (Nat.le_of_ble_eq_true rfl) d_Q_init_40 (fun H locs hP hD hS => ?_)
  have hP : va_P z.1 vwCl ([(h0, .inr (5, [.int 0, .int 8, .ref q13, .ref q21, .ref q29, .ref q38, .int 0, .null, .null, .null, .null, .null, .int 0, .null, .null, .null, .null, .null, .int 0, .int 0, .int 0, .null, .int 0, .null, .int 0, .null, .null, .null])), (q13, .inl (zZ z, 32, .inl (fun _ => 0))), (q21, .inl (zI z, 32, .inl (fun _ => 0))), (q29, .inl (zI z, 32, .inl (fun _ => 0))), (q38, .inl (zI z, 1024, .inl (fun _ => 0)))] ++ Rr) H := hP
  have hD : va_D A0 ([(h0, .inr (5, [.int 0, .int 8, .ref q13, .ref q21, .ref q29, .ref q38, .int 0, .null, .null, .null, .null, .null, .int 0, .null, .null, .null, .null, .null, .int 0, .int 0, .int 0, .null, .int 0, .null, .int 0, .null, .null, .null])), (q13, .inl (zZ z, 32, .inl (fun _ => 0))), (q21, .inl (zI z, 32, .inl (fun _ => 0))), (q29, .inl (zI z, 32, .inl (fun _ => 0))), (q38, .inl (zI z, 1024, .inl (fun _ => 0)))] ++ Rr) := hD
  refine lv_aload_n hx hb d_Q_init_43 rfl (lv_at hl 0 rfl) ?_
  refine lv_bipush (v := 80) hx hb d_Q_init_44 (by decide) ?_
  refine zz_newa (L := [(h0, .inr (5, [.int 0, .int 8, .ref q13, .ref q21, .ref q29, .ref q38, .int 0, .null, .null, .null, .null, .null, .int 0, .null, .null, .null, .null, .null, .int 0, .int 0, .int 0, .null, .int 0, .null, .int 0, .null, .null, .null])), (q13, .inl (zZ z, 32, .inl (fun _ => 0))), (q21, .inl (zI z, 32, .inl (fun _ => 0))), (q29, .inl (zI z, 32, .inl (fun _ => 0))), (q38, .inl (zI z, 1024, .inl (fun _ => 0)))]) (Rr := Rr) hx hb 0 (atype := .int) (a0 := (80, .inl (fun _ => 0))) (N' := 80) (hts _ wq_59) rfl rfl (fun C h => by cases h) hK hP hD hS hA (fun _ => rfl) (by decide) (by decide) (by decide) (Nat.le_of_ble_eq_true rfl) (Nat.le_of_ble_eq_true rfl) d_Q_init_46 (fun q46 H hP hD hS => ?_)
  have hP : va_P z.1 vwCl ([(h0, .inr (5, [.int 0, .int 8, .ref q13, .ref q21, .ref q29, .ref q38, .int 0, .null, .null, .null, .null, .null, .int 0, .null, .null, .null, .null, .null, .int 0, .int 0, .int 0, .null, .int 0, .null, .int 0, .null, .null, .null])), (q13, .inl (zZ z, 32, .inl (fun _ => 0))), (q21, .inl (zI z, 32, .inl (fun _ => 0))), (q29, .inl (zI z, 32, .inl (fun _ => 0))), (q38, .inl (zI z, 1024, .inl (fun _ => 0))), (q46, .inl (zI z, 80, .inl (fun _ => 0)))] ++ Rr) H := hP
  have hD : va_D A0 ([(h0, .inr (5, [.int 0, .int 8, .ref q13, .ref q21, .ref q29, .ref q38, .int 0, .null, .null, .null, .null, .null, .int 0, .null, .null, .null, .null, .null, .int 0, .int 0, .int 0, .null, .int 0, .null, .int 0, .null, .null, .null])), (q13, .inl (zZ z, 32, .inl (fun _ => 0))), (q21, .inl (zI z, 32, .inl (fun _ => 0))), (q29, .inl (zI z, 32, .inl (fun _ => 0))), (q38, .inl (zI z, 1024, .inl (fun _ => 0))), (q46, .inl (zI z, 80, .inl (fun _ => 0)))] ++ Rr) := hD
  refine va_putF (D := z.1) (ci := 5) (v := .ref q46) (ty := .array .int) (C := R_Q) (T := F_Q) (N := 28) hx hb hts i_Q ty_Q ty_Q_ok n_Q hown hK hP hD hS 0 rfl rfl 7 (by decide) (hts _ wq_558) (fun _ h9 => h9) rfl hin rfl (by decide +kernel) rfl rfl (Nat.le_of_ble_eq_true rfl) d_Q_init_48 (fun H locs hP hD hS => ?_)
  have hP : va_P z.1 vwCl ([(h0, .inr (5, [.int 0, .int 8, .ref q13, .ref q21, .ref q29, .ref q38, .int 0, .ref q46, .null, .null, .null, .null, .int 0, .null, .null, .null, .null, .null, .int 0, .int 0, .int 0, .null, .int 0, .null, .int 0, .null, .null, .null])), (q13, .inl (zZ z, 32, .inl (fun _ => 0))), (q21, .inl (zI z, 32, .inl (fun _ => 0))), (q29, .inl (zI z, 32, .inl (fun _ => 0))), (q38, .inl (zI z, 1024, .inl (fun _ => 0))), (q46, .inl (zI z, 80, .inl (fun _ => 0)))] ++ Rr) H := hP
  have hD : va_D A0 ([(h0, .inr (5, [.int 0, .int 8, .ref q13, .ref q21, .ref q29, .ref q38, .int 0, .ref q46, .null, .null, .null, .null, .int 0, .null, .null, .null, .null, .null, .int 0, .int 0, .int 0, .null, .int 0, .null, .int 0, .null, .null, .null])), (q13, .inl (zZ z, 32, .inl (fun _ => 0))), (q21, .inl (zI z, 32, .inl (fun _ => 0))), (q29, .inl (zI z, 32, .inl (fun _ => 0))), (q38, .inl (zI z, 1024, .inl (fun _ => 0))), (q46, .inl (zI z, 80, .inl (fun _ => 0)))] ++ Rr) := hD
  refine lv_aload_n hx hb d_Q_init_51 rfl (lv_at hl 0 rfl) ?_
  refine lv_bipush (v := 80) hx hb d_Q_init_52 (by decide) ?_
  refine zz_newa (L := [(h0, .inr (5, [.int 0, .int 8, .ref q13, .ref q21, .ref q29, .ref q38, .int 0, .ref q46, .null, .null, .null, .null, .int 0, .null, .null, .null, .null, .null, .int 0, .int 0, .int 0, .null, .int 0, .null, .int 0, .null, .null, .null])), (q13, .inl (zZ z, 32, .inl (fun _ => 0))), (q21, .inl (zI z, 32, .inl (fun _ => 0))), (q29, .inl (zI z, 32, .inl (fun _ => 0))), (q38, .inl (zI z, 1024, .inl (fun _ => 0))), (q46, .inl (zI z, 80, .inl (fun _ => 0)))]) (Rr := Rr) hx hb 0 (atype := .int) (a0 := (80, .inl (fun _ => 0))) (N' := 80) (hts _ wq_59) rfl rfl (fun C h => by cases h) hK hP hD hS hA (fun _ => rfl) (by decide) (by decide) (by decide) (Nat.le_of_ble_eq_true rfl) (Nat.le_of_ble_eq_true rfl) d_Q_init_54 (fun q54 H hP hD hS => ?_)
  have hP : va_P z.1 vwCl ([(h0, .inr (5, [.int 0, .int 8, .ref q13, .ref q21, .ref q29, .ref q38, .int 0, .ref q46, .null, .null, .null, .null, .int 0, .null, .null, .null, .null, .null, .int 0, .int 0, .int 0, .null, .int 0, .null, .int 0, .null, .null, .null])), (q13, .inl (zZ z, 32, .inl (fun _ => 0))), (q21, .inl (zI z, 32, .inl (fun _ => 0))), (q29, .inl (zI z, 32, .inl (fun _ => 0))), (q38, .inl (zI z, 1024, .inl (fun _ => 0))), (q46, .inl (zI z, 80, .inl (fun _ => 0))), (q54, .inl (zI z, 80, .inl (fun _ => 0)))] ++ Rr) H := hP
  have hD : va_D A0 ([(h0, .inr (5, [.int 0, .int 8, .ref q13, .ref q21, .ref q29, .ref q38, .int 0, .ref q46, .null, .null, .null, .null, .int 0, .null, .null, .null, .null, .null, .int 0, .int 0, .int 0, .null, .int 0, .null, .int 0, .null, .null, .null])), (q13, .inl (zZ z, 32, .inl (fun _ => 0))), (q21, .inl (zI z, 32, .inl (fun _ => 0))), (q29, .inl (zI z, 32, .inl (fun _ => 0))), (q38, .inl (zI z, 1024, .inl (fun _ => 0))), (q46, .inl (zI z, 80, .inl (fun _ => 0))), (q54, .inl (zI z, 80, .inl (fun _ => 0)))] ++ Rr) := hD
  refine va_putF (D := z.1) (ci := 5) (v := .ref q54) (ty := .array .int) (C := R_Q) (T := F_Q) (N := 28) hx hb hts i_Q ty_Q ty_Q_ok n_Q hown hK hP hD hS 0 rfl rfl 8 (by decide) (hts _ wq_559) (fun _ h9 => h9) rfl hin rfl (by decide +kernel) rfl rfl (Nat.le_of_ble_eq_true rfl) d_Q_init_56 (fun H locs hP hD hS => ?_)
  have hP : va_P z.1 vwCl ([(h0, .inr (5, [.int 0, .int 8, .ref q13, .ref q21, .ref q29, .ref q38, .int 0, .ref q46, .ref q54, .null, .null, .null, .int 0, .null, .null, .null, .null, .null, .int 0, .int 0, .int 0, .null, .int 0, .null, .int 0, .null, .null, .null])), (q13, .inl (zZ z, 32, .inl (fun _ => 0))), (q21, .inl (zI z, 32, .inl (fun _ => 0))), (q29, .inl (zI z, 32, .inl (fun _ => 0))), (q38, .inl (zI z, 1024, .inl (fun _ => 0))), (q46, .inl (zI z, 80, .inl (fun _ => 0))), (q54, .inl (zI z, 80, .inl (fun _ => 0)))] ++ Rr) H := hP
  have hD : va_D A0 ([(h0, .inr (5, [.int 0, .int 8, .ref q13, .ref q21, .ref q29, .ref q38, .int 0, .ref q46, .ref q54, .null, .null, .null, .int 0, .null, .null, .null, .null, .null, .int 0, .int 0, .int 0, .null, .int 0, .null, .int 0, .null, .null, .null])), (q13, .inl (zZ z, 32, .inl (fun _ => 0))), (q21, .inl (zI z, 32, .inl (fun _ => 0))), (q29, .inl (zI z, 32, .inl (fun _ => 0))), (q38, .inl (zI z, 1024, .inl (fun _ => 0))), (q46, .inl (zI z, 80, .inl (fun _ => 0))), (q54, .inl (zI z, 80, .inl (fun _ => 0)))] ++ Rr) := hD
  refine lv_aload_n hx hb d_Q_init_59 rfl (lv_at hl 0 rfl) ?_
  refine lv_bipush (v := 80) hx hb d_Q_init_60 (by decide) ?_
  refine zz_newa (L := [(h0, .inr (5, [.int 0, .int 8, .ref q13, .ref q21, .ref q29, .ref q38, .int 0, .ref q46, .ref q54, .null, .null, .null, .int 0, .null, .null, .null, .null, .null, .int 0, .int 0, .int 0, .null, .int 0, .null, .int 0, .null, .null, .null])), (q13, .inl (zZ z, 32, .inl (fun _ => 0))), (q21, .inl (zI z, 32, .inl (fun _ => 0))), (q29, .inl (zI z, 32, .inl (fun _ => 0))), (q38, .inl (zI z, 1024, .inl (fun _ => 0))), (q46, .inl (zI z, 80, .inl (fun _ => 0))), (q54, .inl (zI z, 80, .inl (fun _ => 0)))]) (Rr := Rr) hx hb 0 (atype := .int) (a0 := (80, .inl (fun _ => 0))) (N' := 80) (hts _ wq_59) rfl rfl (fun C h => by cases h) hK hP hD hS hA (fun _ => rfl) (by decide) (by decide) (by decide) (Nat.le_of_ble_eq_true rfl) (Nat.le_of_ble_eq_true rfl) d_Q_init_62 (fun q62 H hP hD hS => ?_)
  have hP : va_P z.1 vwCl ([(h0, .inr (5, [.int 0, .int 8, .ref q13, .ref q21, .ref q29, .ref q38, .int 0, .ref q46, .ref q54, .null, .null, .null, .int 0, .null, .null, .null, .null, .null, .int 0, .int 0, .int 0, .null, .int 0, .null, .int 0, .null, .null, .null])), (q13, .inl (zZ z, 32, .inl (fun _ => 0))), (q21, .inl (zI z, 32, .inl (fun _ => 0))), (q29, .inl (zI z, 32, .inl (fun _ => 0))), (q38, .inl (zI z, 1024, .inl (fun _ => 0))), (q46, .inl (zI z, 80, .inl (fun _ => 0))), (q54, .inl (zI z, 80, .inl (fun _ => 0))), (q62, .inl (zI z, 80, .inl (fun _ => 0)))] ++ Rr) H := hP
  have hD : va_D A0 ([(h0, .inr (5, [.int 0, .int 8, .ref q13, .ref q21, .ref q29, .ref q38, .int 0, .ref q46, .ref q54, .null, .null, .null, .int 0, .null, .null, .null, .null, .null, .int 0, .int 0, .int 0, .null, .int 0, .null, .int 0, .null, .null, .null])), (q13, .inl (zZ z, 32, .inl (fun _ => 0))), (q21, .inl (zI z, 32, .inl (fun _ => 0))), (q29, .inl (zI z, 32, .inl (fun _ => 0))), (q38, .inl (zI z, 1024, .inl (fun _ => 0))), (q46, .inl (zI z, 80, .inl (fun _ => 0))), (q54, .inl (zI z, 80, .inl (fun _ => 0))), (q62, .inl (zI z, 80, .inl (fun _ => 0)))] ++ Rr) := hD
  refine va_putF (D := z.1) (ci := 5) (v := .ref q62) (ty := .array .int) (C := R_Q) (T := F_Q) (N := 28) hx hb hts i_Q ty_Q ty_Q_ok n_Q hown hK hP hD hS 0 rfl rfl 9 (by decide) (hts _ wq_560) (fun _ h9 => h9) rfl hin rfl (by decide +kernel) rfl rfl (Nat.le_of_ble_eq_true rfl) d_Q_init_64 (fun H locs hP hD hS => ?_)
  have hP : va_P z.1 vwCl ([(h0, .inr (5, [.int 0, .int 8, .ref q13, .ref q21, .ref q29, .ref q38, .int 0, .ref q46, .ref q54, .ref q62, .null, .null, .int 0, .null, .null, .null, .null, .null, .int 0, .int 0, .int 0, .null, .int 0, .null, .int 0, .null, .null, .null])), (q13, .inl (zZ z, 32, .inl (fun _ => 0))), (q21, .inl (zI z, 32, .inl (fun _ => 0))), (q29, .inl (zI z, 32, .inl (fun _ => 0))), (q38, .inl (zI z, 1024, .inl (fun _ => 0))), (q46, .inl (zI z, 80, .inl (fun _ => 0))), (q54, .inl (zI z, 80, .inl (fun _ => 0))), (q62, .inl (zI z, 80, .inl (fun _ => 0)))] ++ Rr) H := hP
  have hD : va_D A0 ([(h0, .inr (5, [.int 0, .int 8, .ref q13, .ref q21, .ref q29, .ref q38, .int 0, .ref q46, .ref q54, .ref q62, .null, .null, .int 0, .null, .null, .null, .null, .null, .int 0, .int 0, .int 0, .null, .int 0, .null, .int 0, .null, .null, .null])), (q13, .inl (zZ z, 32, .inl (fun _ => 0))), (q21, .inl (zI z, 32, .inl (fun _ => 0))), (q29, .inl (zI z, 32, .inl (fun _ => 0))), (q38, .inl (zI z, 1024, .inl (fun _ => 0))), (q46, .inl (zI z, 80, .inl (fun _ => 0))), (q54, .inl (zI z, 80, .inl (fun _ => 0))), (q62, .inl (zI z, 80, .inl (fun _ => 0)))] ++ Rr) := hD
  refine lv_aload_n hx hb d_Q_init_67 rfl (lv_at hl 0 rfl) ?_
  refine lv_sipush (v := 320) hx hb d_Q_init_68 (by decide) ?_
  refine zz_newa (L := [(h0, .inr (5, [.int 0, .int 8, .ref q13, .ref q21, .ref q29, .ref q38, .int 0, .ref q46, .ref q54, .ref q62, .null, .null, .int 0, .null, .null, .null, .null, .null, .int 0, .int 0, .int 0, .null, .int 0, .null, .int 0, .null, .null, .null])), (q13, .inl (zZ z, 32, .inl (fun _ => 0))), (q21, .inl (zI z, 32, .inl (fun _ => 0))), (q29, .inl (zI z, 32, .inl (fun _ => 0))), (q38, .inl (zI z, 1024, .inl (fun _ => 0))), (q46, .inl (zI z, 80, .inl (fun _ => 0))), (q54, .inl (zI z, 80, .inl (fun _ => 0))), (q62, .inl (zI z, 80, .inl (fun _ => 0)))]) (Rr := Rr) hx hb 0 (atype := .int) (a0 := (320, .inl (fun _ => 0))) (N' := 320) (hts _ wq_59) rfl rfl (fun C h => by cases h) hK hP hD hS hA (fun _ => rfl) (by decide) (by decide) (by decide) (Nat.le_of_ble_eq_true rfl) (Nat.le_of_ble_eq_true rfl) d_Q_init_71 (fun q71 H hP hD hS => ?_)
  have hP : va_P z.1 vwCl ([(h0, .inr (5, [.int 0, .int 8, .ref q13, .ref q21, .ref q29, .ref q38, .int 0, .ref q46, .ref q54, .ref q62, .null, .null, .int 0, .null, .null, .null, .null, .null, .int 0, .int 0, .int 0, .null, .int 0, .null, .int 0, .null, .null, .null])), (q13, .inl (zZ z, 32, .inl (fun _ => 0))), (q21, .inl (zI z, 32, .inl (fun _ => 0))), (q29, .inl (zI z, 32, .inl (fun _ => 0))), (q38, .inl (zI z, 1024, .inl (fun _ => 0))), (q46, .inl (zI z, 80, .inl (fun _ => 0))), (q54, .inl (zI z, 80, .inl (fun _ => 0))), (q62, .inl (zI z, 80, .inl (fun _ => 0))), (q71, .inl (zI z, 320, .inl (fun _ => 0)))] ++ Rr) H := hP
  have hD : va_D A0 ([(h0, .inr (5, [.int 0, .int 8, .ref q13, .ref q21, .ref q29, .ref q38, .int 0, .ref q46, .ref q54, .ref q62, .null, .null, .int 0, .null, .null, .null, .null, .null, .int 0, .int 0, .int 0, .null, .int 0, .null, .int 0, .null, .null, .null])), (q13, .inl (zZ z, 32, .inl (fun _ => 0))), (q21, .inl (zI z, 32, .inl (fun _ => 0))), (q29, .inl (zI z, 32, .inl (fun _ => 0))), (q38, .inl (zI z, 1024, .inl (fun _ => 0))), (q46, .inl (zI z, 80, .inl (fun _ => 0))), (q54, .inl (zI z, 80, .inl (fun _ => 0))), (q62, .inl (zI z, 80, .inl (fun _ => 0))), (q71, .inl (zI z, 320, .inl (fun _ => 0)))] ++ Rr) := hD
  refine va_putF (D := z.1) (ci := 5) (v := .ref q71) (ty := .array .int) (C := R_Q) (T := F_Q) (N := 28) hx hb hts i_Q ty_Q ty_Q_ok n_Q hown hK hP hD hS 0 rfl rfl 10 (by decide) (hts _ wq_561) (fun _ h9 => h9) rfl hin rfl (by decide +kernel) rfl rfl (Nat.le_of_ble_eq_true rfl) d_Q_init_73 (fun H locs hP hD hS => ?_)
  have hP : va_P z.1 vwCl ([(h0, .inr (5, [.int 0, .int 8, .ref q13, .ref q21, .ref q29, .ref q38, .int 0, .ref q46, .ref q54, .ref q62, .ref q71, .null, .int 0, .null, .null, .null, .null, .null, .int 0, .int 0, .int 0, .null, .int 0, .null, .int 0, .null, .null, .null])), (q13, .inl (zZ z, 32, .inl (fun _ => 0))), (q21, .inl (zI z, 32, .inl (fun _ => 0))), (q29, .inl (zI z, 32, .inl (fun _ => 0))), (q38, .inl (zI z, 1024, .inl (fun _ => 0))), (q46, .inl (zI z, 80, .inl (fun _ => 0))), (q54, .inl (zI z, 80, .inl (fun _ => 0))), (q62, .inl (zI z, 80, .inl (fun _ => 0))), (q71, .inl (zI z, 320, .inl (fun _ => 0)))] ++ Rr) H := hP
  have hD : va_D A0 ([(h0, .inr (5, [.int 0, .int 8, .ref q13, .ref q21, .ref q29, .ref q38, .int 0, .ref q46, .ref q54, .ref q62, .ref q71, .null, .int 0, .null, .null, .null, .null, .null, .int 0, .int 0, .int 0, .null, .int 0, .null, .int 0, .null, .null, .null])), (q13, .inl (zZ z, 32, .inl (fun _ => 0))), (q21, .inl (zI z, 32, .inl (fun _ => 0))), (q29, .inl (zI z, 32, .inl (fun _ => 0))), (q38, .inl (zI z, 1024, .inl (fun _ => 0))), (q46, .inl (zI z, 80, .inl (fun _ => 0))), (q54, .inl (zI z, 80, .inl (fun _ => 0))), (q62, .inl (zI z, 80, .inl (fun _ => 0))), (q71, .inl (zI z, 320, .inl (fun _ => 0)))] ++ Rr) := hD
  refine lv_aload_n hx hb d_Q_init_76 rfl (lv_at hl 0 rfl) ?_
  refine lv_bipush (v := 80) hx hb d_Q_init_77 (by decide) ?_
  refine zz_newa (L := [(h0, .inr (5, [.int 0, .int 8, .ref q13, .ref q21, .ref q29, .ref q38, .int 0, .ref q46, .ref q54, .ref q62, .ref q71, .null, .int 0, .null, .null, .null, .null, .null, .int 0, .int 0, .int 0, .null, .int 0, .null, .int 0, .null, .null, .null])), (q13, .inl (zZ z, 32, .inl (fun _ => 0))), (q21, .inl (zI z, 32, .inl (fun _ => 0))), (q29, .inl (zI z, 32, .inl (fun _ => 0))), (q38, .inl (zI z, 1024, .inl (fun _ => 0))), (q46, .inl (zI z, 80, .inl (fun _ => 0))), (q54, .inl (zI z, 80, .inl (fun _ => 0))), (q62, .inl (zI z, 80, .inl (fun _ => 0))), (q71, .inl (zI z, 320, .inl (fun _ => 0)))]) (Rr := Rr) hx hb 1 (atype := .boolean) (a0 := (80, .inl (fun _ => 0))) (N' := 80) (hts _ wq_58) rfl rfl (fun C h => by cases h) hK hP hD hS hA (fun _ => rfl) (by decide) (by decide) (by decide) (Nat.le_of_ble_eq_true rfl) (Nat.le_of_ble_eq_true rfl) d_Q_init_79 (fun q79 H hP hD hS => ?_)
  have hP : va_P z.1 vwCl ([(h0, .inr (5, [.int 0, .int 8, .ref q13, .ref q21, .ref q29, .ref q38, .int 0, .ref q46, .ref q54, .ref q62, .ref q71, .null, .int 0, .null, .null, .null, .null, .null, .int 0, .int 0, .int 0, .null, .int 0, .null, .int 0, .null, .null, .null])), (q13, .inl (zZ z, 32, .inl (fun _ => 0))), (q21, .inl (zI z, 32, .inl (fun _ => 0))), (q29, .inl (zI z, 32, .inl (fun _ => 0))), (q38, .inl (zI z, 1024, .inl (fun _ => 0))), (q46, .inl (zI z, 80, .inl (fun _ => 0))), (q54, .inl (zI z, 80, .inl (fun _ => 0))), (q62, .inl (zI z, 80, .inl (fun _ => 0))), (q71, .inl (zI z, 320, .inl (fun _ => 0))), (q79, .inl (zZ z, 80, .inl (fun _ => 0)))] ++ Rr) H := hP
  have hD : va_D A0 ([(h0, .inr (5, [.int 0, .int 8, .ref q13, .ref q21, .ref q29, .ref q38, .int 0, .ref q46, .ref q54, .ref q62, .ref q71, .null, .int 0, .null, .null, .null, .null, .null, .int 0, .int 0, .int 0, .null, .int 0, .null, .int 0, .null, .null, .null])), (q13, .inl (zZ z, 32, .inl (fun _ => 0))), (q21, .inl (zI z, 32, .inl (fun _ => 0))), (q29, .inl (zI z, 32, .inl (fun _ => 0))), (q38, .inl (zI z, 1024, .inl (fun _ => 0))), (q46, .inl (zI z, 80, .inl (fun _ => 0))), (q54, .inl (zI z, 80, .inl (fun _ => 0))), (q62, .inl (zI z, 80, .inl (fun _ => 0))), (q71, .inl (zI z, 320, .inl (fun _ => 0))), (q79, .inl (zZ z, 80, .inl (fun _ => 0)))] ++ Rr) := hD
  refine va_putF (D := z.1) (ci := 5) (v := .ref q79) (ty := .array .boolean) (C := R_Q) (T := F_Q) (N := 28) hx hb hts i_Q ty_Q ty_Q_ok n_Q hown hK hP hD hS 0 rfl rfl 11 (by decide) (hts _ wq_562) (fun _ h9 => h9) rfl hin rfl (by decide +kernel) rfl rfl (Nat.le_of_ble_eq_true rfl) d_Q_init_81 (fun H locs hP hD hS => ?_)
  have hP : va_P z.1 vwCl ([(h0, .inr (5, [.int 0, .int 8, .ref q13, .ref q21, .ref q29, .ref q38, .int 0, .ref q46, .ref q54, .ref q62, .ref q71, .ref q79, .int 0, .null, .null, .null, .null, .null, .int 0, .int 0, .int 0, .null, .int 0, .null, .int 0, .null, .null, .null])), (q13, .inl (zZ z, 32, .inl (fun _ => 0))), (q21, .inl (zI z, 32, .inl (fun _ => 0))), (q29, .inl (zI z, 32, .inl (fun _ => 0))), (q38, .inl (zI z, 1024, .inl (fun _ => 0))), (q46, .inl (zI z, 80, .inl (fun _ => 0))), (q54, .inl (zI z, 80, .inl (fun _ => 0))), (q62, .inl (zI z, 80, .inl (fun _ => 0))), (q71, .inl (zI z, 320, .inl (fun _ => 0))), (q79, .inl (zZ z, 80, .inl (fun _ => 0)))] ++ Rr) H := hP
  have hD : va_D A0 ([(h0, .inr (5, [.int 0, .int 8, .ref q13, .ref q21, .ref q29, .ref q38, .int 0, .ref q46, .ref q54, .ref q62, .ref q71, .ref q79, .int 0, .null, .null, .null, .null, .null, .int 0, .int 0, .int 0, .null, .int 0, .null, .int 0, .null, .null, .null])), (q13, .inl (zZ z, 32, .inl (fun _ => 0))), (q21, .inl (zI z, 32, .inl (fun _ => 0))), (q29, .inl (zI z, 32, .inl (fun _ => 0))), (q38, .inl (zI z, 1024, .inl (fun _ => 0))), (q46, .inl (zI z, 80, .inl (fun _ => 0))), (q54, .inl (zI z, 80, .inl (fun _ => 0))), (q62, .inl (zI z, 80, .inl (fun _ => 0))), (q71, .inl (zI z, 320, .inl (fun _ => 0))), (q79, .inl (zZ z, 80, .inl (fun _ => 0)))] ++ Rr) := hD
  refine lv_aload_n hx hb d_Q_init_84 rfl (lv_at hl 0 rfl) ?_
  refine lv_bipush (v := 100) hx hb d_Q_init_85 (by decide) ?_
  refine zz_newa (L := [(h0, .inr (5, [.int 0, .int 8, .ref q13, .ref q21, .ref q29, .ref q38, .int 0, .ref q46, .ref q54, .ref q62, .ref q71, .ref q79, .int 0, .null, .null, .null, .null, .null, .int 0, .int 0, .int 0, .null, .int 0, .null, .int 0, .null, .null, .null])), (q13, .inl (zZ z, 32, .inl (fun _ => 0))), (q21, .inl (zI z, 32, .inl (fun _ => 0))), (q29, .inl (zI z, 32, .inl (fun _ => 0))), (q38, .inl (zI z, 1024, .inl (fun _ => 0))), (q46, .inl (zI z, 80, .inl (fun _ => 0))), (q54, .inl (zI z, 80, .inl (fun _ => 0))), (q62, .inl (zI z, 80, .inl (fun _ => 0))), (q71, .inl (zI z, 320, .inl (fun _ => 0))), (q79, .inl (zZ z, 80, .inl (fun _ => 0)))]) (Rr := Rr) hx hb 0 (atype := .int) (a0 := (100, .inl (fun _ => 0))) (N' := 100) (hts _ wq_59) rfl rfl (fun C h => by cases h) hK hP hD hS hA (fun _ => rfl) (by decide) (by decide) (by decide) (Nat.le_of_ble_eq_true rfl) (Nat.le_of_ble_eq_true rfl) d_Q_init_87 (fun q87 H hP hD hS => ?_)
  have hP : va_P z.1 vwCl ([(h0, .inr (5, [.int 0, .int 8, .ref q13, .ref q21, .ref q29, .ref q38, .int 0, .ref q46, .ref q54, .ref q62, .ref q71, .ref q79, .int 0, .null, .null, .null, .null, .null, .int 0, .int 0, .int 0, .null, .int 0, .null, .int 0, .null, .null, .null])), (q13, .inl (zZ z, 32, .inl (fun _ => 0))), (q21, .inl (zI z, 32, .inl (fun _ => 0))), (q29, .inl (zI z, 32, .inl (fun _ => 0))), (q38, .inl (zI z, 1024, .inl (fun _ => 0))), (q46, .inl (zI z, 80, .inl (fun _ => 0))), (q54, .inl (zI z, 80, .inl (fun _ => 0))), (q62, .inl (zI z, 80, .inl (fun _ => 0))), (q71, .inl (zI z, 320, .inl (fun _ => 0))), (q79, .inl (zZ z, 80, .inl (fun _ => 0))), (q87, .inl (zI z, 100, .inl (fun _ => 0)))] ++ Rr) H := hP
  have hD : va_D A0 ([(h0, .inr (5, [.int 0, .int 8, .ref q13, .ref q21, .ref q29, .ref q38, .int 0, .ref q46, .ref q54, .ref q62, .ref q71, .ref q79, .int 0, .null, .null, .null, .null, .null, .int 0, .int 0, .int 0, .null, .int 0, .null, .int 0, .null, .null, .null])), (q13, .inl (zZ z, 32, .inl (fun _ => 0))), (q21, .inl (zI z, 32, .inl (fun _ => 0))), (q29, .inl (zI z, 32, .inl (fun _ => 0))), (q38, .inl (zI z, 1024, .inl (fun _ => 0))), (q46, .inl (zI z, 80, .inl (fun _ => 0))), (q54, .inl (zI z, 80, .inl (fun _ => 0))), (q62, .inl (zI z, 80, .inl (fun _ => 0))), (q71, .inl (zI z, 320, .inl (fun _ => 0))), (q79, .inl (zZ z, 80, .inl (fun _ => 0))), (q87, .inl (zI z, 100, .inl (fun _ => 0)))] ++ Rr) := hD
  refine va_putF (D := z.1) (ci := 5) (v := .ref q87) (ty := .array .int) (C := R_Q) (T := F_Q) (N := 28) hx hb hts i_Q ty_Q ty_Q_ok n_Q hown hK hP hD hS 0 rfl rfl 13 (by decide) (hts _ wq_564) (fun _ h9 => h9) rfl hin rfl (by decide +kernel) rfl rfl (Nat.le_of_ble_eq_true rfl) d_Q_init_89 (fun H locs hP hD hS => ?_)
  have hP : va_P z.1 vwCl ([(h0, .inr (5, [.int 0, .int 8, .ref q13, .ref q21, .ref q29, .ref q38, .int 0, .ref q46, .ref q54, .ref q62, .ref q71, .ref q79, .int 0, .ref q87, .null, .null, .null, .null, .int 0, .int 0, .int 0, .null, .int 0, .null, .int 0, .null, .null, .null])), (q13, .inl (zZ z, 32, .inl (fun _ => 0))), (q21, .inl (zI z, 32, .inl (fun _ => 0))), (q29, .inl (zI z, 32, .inl (fun _ => 0))), (q38, .inl (zI z, 1024, .inl (fun _ => 0))), (q46, .inl (zI z, 80, .inl (fun _ => 0))), (q54, .inl (zI z, 80, .inl (fun _ => 0))), (q62, .inl (zI z, 80, .inl (fun _ => 0))), (q71, .inl (zI z, 320, .inl (fun _ => 0))), (q79, .inl (zZ z, 80, .inl (fun _ => 0))), (q87, .inl (zI z, 100, .inl (fun _ => 0)))] ++ Rr) H := hP
  have hD : va_D A0 ([(h0, .inr (5, [.int 0, .int 8, .ref q13, .ref q21, .ref q29, .ref q38, .int 0, .ref q46, .ref q54, .ref q62, .ref q71, .ref q79, .int 0, .ref q87, .null, .null, .null, .null, .int 0, .int 0, .int 0, .null, .int 0, .null, .int 0, .null, .null, .null])), (q13, .inl (zZ z, 32, .inl (fun _ => 0))), (q21, .inl (zI z, 32, .inl (fun _ => 0))), (q29, .inl (zI z, 32, .inl (fun _ => 0))), (q38, .inl (zI z, 1024, .inl (fun _ => 0))), (q46, .inl (zI z, 80, .inl (fun _ => 0))), (q54, .inl (zI z, 80, .inl (fun _ => 0))), (q62, .inl (zI z, 80, .inl (fun _ => 0))), (q71, .inl (zI z, 320, .inl (fun _ => 0))), (q79, .inl (zZ z, 80, .inl (fun _ => 0))), (q87, .inl (zI z, 100, .inl (fun _ => 0)))] ++ Rr) := hD
  refine lv_aload_n hx hb d_Q_init_92 rfl (lv_at hl 0 rfl) ?_
  refine lv_bipush (v := 100) hx hb d_Q_init_93 (by decide) ?_
  refine zz_newa (L := [(h0, .inr (5, [.int 0, .int 8, .ref q13, .ref q21, .ref q29, .ref q38, .int 0, .ref q46, .ref q54, .ref q62, .ref q71, .ref q79, .int 0, .ref q87, .null, .null, .null, .null, .int 0, .int 0, .int 0, .null, .int 0, .null, .int 0, .null, .null, .null])), (q13, .inl (zZ z, 32, .inl (fun _ => 0))), (q21, .inl (zI z, 32, .inl (fun _ => 0))), (q29, .inl (zI z, 32, .inl (fun _ => 0))), (q38, .inl (zI z, 1024, .inl (fun _ => 0))), (q46, .inl (zI z, 80, .inl (fun _ => 0))), (q54, .inl (zI z, 80, .inl (fun _ => 0))), (q62, .inl (zI z, 80, .inl (fun _ => 0))), (q71, .inl (zI z, 320, .inl (fun _ => 0))), (q79, .inl (zZ z, 80, .inl (fun _ => 0))), (q87, .inl (zI z, 100, .inl (fun _ => 0)))]) (Rr := Rr) hx hb 0 (atype := .int) (a0 := (100, .inl (fun _ => 0))) (N' := 100) (hts _ wq_59) rfl rfl (fun C h => by cases h) hK hP hD hS hA (fun _ => rfl) (by decide) (by decide) (by decide) (Nat.le_of_ble_eq_true rfl) (Nat.le_of_ble_eq_true rfl) d_Q_init_95 (fun q95 H hP hD hS => ?_)
  have hP : va_P z.1 vwCl ([(h0, .inr (5, [.int 0, .int 8, .ref q13, .ref q21, .ref q29, .ref q38, .int 0, .ref q46, .ref q54, .ref q62, .ref q71, .ref q79, .int 0, .ref q87, .null, .null, .null, .null, .int 0, .int 0, .int 0, .null, .int 0, .null, .int 0, .null, .null, .null])), (q13, .inl (zZ z, 32, .inl (fun _ => 0))), (q21, .inl (zI z, 32, .inl (fun _ => 0))), (q29, .inl (zI z, 32, .inl (fun _ => 0))), (q38, .inl (zI z, 1024, .inl (fun _ => 0))), (q46, .inl (zI z, 80, .inl (fun _ => 0))), (q54, .inl (zI z, 80, .inl (fun _ => 0))), (q62, .inl (zI z, 80, .inl (fun _ => 0))), (q71, .inl (zI z, 320, .inl (fun _ => 0))), (q79, .inl (zZ z, 80, .inl (fun _ => 0))), (q87, .inl (zI z, 100, .inl (fun _ => 0))), (q95, .inl (zI z, 100, .inl (fun _ => 0)))] ++ Rr) H := hP
  have hD : va_D A0 ([(h0, .inr (5, [.int 0, .int 8, .ref q13, .ref q21, .ref q29, .ref q38, .int 0, .ref q46, .ref q54, .ref q62, .ref q71, .ref q79, .int 0, .ref q87, .null, .null, .null, .null, .int 0, .int 0, .int 0, .null, .int 0, .null, .int 0, .null, .null, .null])), (q13, .inl (zZ z, 32, .inl (fun _ => 0))), (q21, .inl (zI z, 32, .inl (fun _ => 0))), (q29, .inl (zI z, 32, .inl (fun _ => 0))), (q38, .inl (zI z, 1024, .inl (fun _ => 0))), (q46, .inl (zI z, 80, .inl (fun _ => 0))), (q54, .inl (zI z, 80, .inl (fun _ => 0))), (q62, .inl (zI z, 80, .inl (fun _ => 0))), (q71, .inl (zI z, 320, .inl (fun _ => 0))), (q79, .inl (zZ z, 80, .inl (fun _ => 0))), (q87, .inl (zI z, 100, .inl (fun _ => 0))), (q95, .inl (zI z, 100, .inl (fun _ => 0)))] ++ Rr) := hD
  refine va_putF (D := z.1) (ci := 5) (v := .ref q95) (ty := .array .int) (C := R_Q) (T := F_Q) (N := 28) hx hb hts i_Q ty_Q ty_Q_ok n_Q hown hK hP hD hS 0 rfl rfl 14 (by decide) (hts _ wq_565) (fun _ h9 => h9) rfl hin rfl (by decide +kernel) rfl rfl (Nat.le_of_ble_eq_true rfl) d_Q_init_97 (fun H locs hP hD hS => ?_)
  have hP : va_P z.1 vwCl ([(h0, .inr (5, [.int 0, .int 8, .ref q13, .ref q21, .ref q29, .ref q38, .int 0, .ref q46, .ref q54, .ref q62, .ref q71, .ref q79, .int 0, .ref q87, .ref q95, .null, .null, .null, .int 0, .int 0, .int 0, .null, .int 0, .null, .int 0, .null, .null, .null])), (q13, .inl (zZ z, 32, .inl (fun _ => 0))), (q21, .inl (zI z, 32, .inl (fun _ => 0))), (q29, .inl (zI z, 32, .inl (fun _ => 0))), (q38, .inl (zI z, 1024, .inl (fun _ => 0))), (q46, .inl (zI z, 80, .inl (fun _ => 0))), (q54, .inl (zI z, 80, .inl (fun _ => 0))), (q62, .inl (zI z, 80, .inl (fun _ => 0))), (q71, .inl (zI z, 320, .inl (fun _ => 0))), (q79, .inl (zZ z, 80, .inl (fun _ => 0))), (q87, .inl (zI z, 100, .inl (fun _ => 0))), (q95, .inl (zI z, 100, .inl (fun _ => 0)))] ++ Rr) H := hP
  have hD : va_D A0 ([(h0, .inr (5, [.int 0, .int 8, .ref q13, .ref q21, .ref q29, .ref q38, .int 0, .ref q46, .ref q54, .ref q62, .ref q71, .ref q79, .int 0, .ref q87, .ref q95, .null, .null, .null, .int 0, .int 0, .int 0, .null, .int 0, .null, .int 0, .null, .null, .null])), (q13, .inl (zZ z, 32, .inl (fun _ => 0))), (q21, .inl (zI z, 32, .inl (fun _ => 0))), (q29, .inl (zI z, 32, .inl (fun _ => 0))), (q38, .inl (zI z, 1024, .inl (fun _ => 0))), (q46, .inl (zI z, 80, .inl (fun _ => 0))), (q54, .inl (zI z, 80, .inl (fun _ => 0))), (q62, .inl (zI z, 80, .inl (fun _ => 0))), (q71, .inl (zI z, 320, .inl (fun _ => 0))), (q79, .inl (zZ z, 80, .inl (fun _ => 0))), (q87, .inl (zI z, 100, .inl (fun _ => 0))), (q95, .inl (zI z, 100, .inl (fun _ => 0)))] ++ Rr) := hD
  refine lv_aload_n hx hb d_Q_init_100 rfl (lv_at hl 0 rfl) ?_
  refine lv_bipush (v := 100) hx hb d_Q_init_101 (by decide) ?_
  refine zz_newa (L := [(h0, .inr (5, [.int 0, .int 8, .ref q13, .ref q21, .ref q29, .ref q38, .int 0, .ref q46, .ref q54, .ref q62, .ref q71, .ref q79, .int 0, .ref q87, .ref q95, .null, .null, .null, .int 0, .int 0, .int 0, .null, .int 0, .null, .int 0, .null, .null, .null])), (q13, .inl (zZ z, 32, .inl (fun _ => 0))), (q21, .inl (zI z, 32, .inl (fun _ => 0))), (q29, .inl (zI z, 32, .inl (fun _ => 0))), (q38, .inl (zI z, 1024, .inl (fun _ => 0))), (q46, .inl (zI z, 80, .inl (fun _ => 0))), (q54, .inl (zI z, 80, .inl (fun _ => 0))), (q62, .inl (zI z, 80, .inl (fun _ => 0))), (q71, .inl (zI z, 320, .inl (fun _ => 0))), (q79, .inl (zZ z, 80, .inl (fun _ => 0))), (q87, .inl (zI z, 100, .inl (fun _ => 0))), (q95, .inl (zI z, 100, .inl (fun _ => 0)))]) (Rr := Rr) hx hb 0 (atype := .int) (a0 := (100, .inl (fun _ => 0))) (N' := 100) (hts _ wq_59) rfl rfl (fun C h => by cases h) hK hP hD hS hA (fun _ => rfl) (by decide) (by decide) (by decide) (Nat.le_of_ble_eq_true rfl) (Nat.le_of_ble_eq_true rfl) d_Q_init_103 (fun q103 H hP hD hS => ?_)
  have hP : va_P z.1 vwCl ([(h0, .inr (5, [.int 0, .int 8, .ref q13, .ref q21, .ref q29, .ref q38, .int 0, .ref q46, .ref q54, .ref q62, .ref q71, .ref q79, .int 0, .ref q87, .ref q95, .null, .null, .null, .int 0, .int 0, .int 0, .null, .int 0, .null, .int 0, .null, .null, .null])), (q13, .inl (zZ z, 32, .inl (fun _ => 0))), (q21, .inl (zI z, 32, .inl (fun _ => 0))), (q29, .inl (zI z, 32, .inl (fun _ => 0))), (q38, .inl (zI z, 1024, .inl (fun _ => 0))), (q46, .inl (zI z, 80, .inl (fun _ => 0))), (q54, .inl (zI z, 80, .inl (fun _ => 0))), (q62, .inl (zI z, 80, .inl (fun _ => 0))), (q71, .inl (zI z, 320, .inl (fun _ => 0))), (q79, .inl (zZ z, 80, .inl (fun _ => 0))), (q87, .inl (zI z, 100, .inl (fun _ => 0))), (q95, .inl (zI z, 100, .inl (fun _ => 0))), (q103, .inl (zI z, 100, .inl (fun _ => 0)))] ++ Rr) H := hP
  have hD : va_D A0 ([(h0, .inr (5, [.int 0, .int 8, .ref q13, .ref q21, .ref q29, .ref q38, .int 0, .ref q46, .ref q54, .ref q62, .ref q71, .ref q79, .int 0, .ref q87, .ref q95, .null, .null, .null, .int 0, .int 0, .int 0, .null, .int 0, .null, .int 0, .null, .null, .null])), (q13, .inl (zZ z, 32, .inl (fun _ => 0))), (q21, .inl (zI z, 32, .inl (fun _ => 0))), (q29, .inl (zI z, 32, .inl (fun _ => 0))), (q38, .inl (zI z, 1024, .inl (fun _ => 0))), (q46, .inl (zI z, 80, .inl (fun _ => 0))), (q54, .inl (zI z, 80, .inl (fun _ => 0))), (q62, .inl (zI z, 80, .inl (fun _ => 0))), (q71, .inl (zI z, 320, .inl (fun _ => 0))), (q79, .inl (zZ z, 80, .inl (fun _ => 0))), (q87, .inl (zI z, 100, .inl (fun _ => 0))), (q95, .inl (zI z, 100, .inl (fun _ => 0))), (q103, .inl (zI z, 100, .inl (fun _ => 0)))] ++ Rr) := hD
  refine va_putF (D := z.1) (ci := 5) (v := .ref q103) (ty := .array .int) (C := R_Q) (T := F_Q) (N := 28) hx hb hts i_Q ty_Q ty_Q_ok n_Q hown hK hP hD hS 0 rfl rfl 15 (by decide) (hts _ wq_566) (fun _ h9 => h9) rfl hin rfl (by decide +kernel) rfl rfl (Nat.le_of_ble_eq_true rfl) d_Q_init_105 (fun H locs hP hD hS => ?_)
  have hP : va_P z.1 vwCl ([(h0, .inr (5, [.int 0, .int 8, .ref q13, .ref q21, .ref q29, .ref q38, .int 0, .ref q46, .ref q54, .ref q62, .ref q71, .ref q79, .int 0, .ref q87, .ref q95, .ref q103, .null, .null, .int 0, .int 0, .int 0, .null, .int 0, .null, .int 0, .null, .null, .null])), (q13, .inl (zZ z, 32, .inl (fun _ => 0))), (q21, .inl (zI z, 32, .inl (fun _ => 0))), (q29, .inl (zI z, 32, .inl (fun _ => 0))), (q38, .inl (zI z, 1024, .inl (fun _ => 0))), (q46, .inl (zI z, 80, .inl (fun _ => 0))), (q54, .inl (zI z, 80, .inl (fun _ => 0))), (q62, .inl (zI z, 80, .inl (fun _ => 0))), (q71, .inl (zI z, 320, .inl (fun _ => 0))), (q79, .inl (zZ z, 80, .inl (fun _ => 0))), (q87, .inl (zI z, 100, .inl (fun _ => 0))), (q95, .inl (zI z, 100, .inl (fun _ => 0))), (q103, .inl (zI z, 100, .inl (fun _ => 0)))] ++ Rr) H := hP
  have hD : va_D A0 ([(h0, .inr (5, [.int 0, .int 8, .ref q13, .ref q21, .ref q29, .ref q38, .int 0, .ref q46, .ref q54, .ref q62, .ref q71, .ref q79, .int 0, .ref q87, .ref q95, .ref q103, .null, .null, .int 0, .int 0, .int 0, .null, .int 0, .null, .int 0, .null, .null, .null])), (q13, .inl (zZ z, 32, .inl (fun _ => 0))), (q21, .inl (zI z, 32, .inl (fun _ => 0))), (q29, .inl (zI z, 32, .inl (fun _ => 0))), (q38, .inl (zI z, 1024, .inl (fun _ => 0))), (q46, .inl (zI z, 80, .inl (fun _ => 0))), (q54, .inl (zI z, 80, .inl (fun _ => 0))), (q62, .inl (zI z, 80, .inl (fun _ => 0))), (q71, .inl (zI z, 320, .inl (fun _ => 0))), (q79, .inl (zZ z, 80, .inl (fun _ => 0))), (q87, .inl (zI z, 100, .inl (fun _ => 0))), (q95, .inl (zI z, 100, .inl (fun _ => 0))), (q103, .inl (zI z, 100, .inl (fun _ => 0)))] ++ Rr) := hD
  refine lv_aload_n hx hb d_Q_init_108 rfl (lv_at hl 0 rfl) ?_
  refine lv_bipush (v := 100) hx hb d_Q_init_109 (by decide) ?_
  refine zz_newa (L := [(h0, .inr (5, [.int 0, .int 8, .ref q13, .ref q21, .ref q29, .ref q38, .int 0, .ref q46, .ref q54, .ref q62, .ref q71, .ref q79, .int 0, .ref q87, .ref q95, .ref q103, .null, .null, .int 0, .int 0, .int 0, .null, .int 0, .null, .int 0, .null, .null, .null])), (q13, .inl (zZ z, 32, .inl (fun _ => 0))), (q21, .inl (zI z, 32, .inl (fun _ => 0))), (q29, .inl (zI z, 32, .inl (fun _ => 0))), (q38, .inl (zI z, 1024, .inl (fun _ => 0))), (q46, .inl (zI z, 80, .inl (fun _ => 0))), (q54, .inl (zI z, 80, .inl (fun _ => 0))), (q62, .inl (zI z, 80, .inl (fun _ => 0))), (q71, .inl (zI z, 320, .inl (fun _ => 0))), (q79, .inl (zZ z, 80, .inl (fun _ => 0))), (q87, .inl (zI z, 100, .inl (fun _ => 0))), (q95, .inl (zI z, 100, .inl (fun _ => 0))), (q103, .inl (zI z, 100, .inl (fun _ => 0)))]) (Rr := Rr) hx hb 2 (atype := .long) (a0 := (100, .inr (.inl (fun _ => 0)))) (N' := 100) (hts _ wq_89) rfl rfl (fun C h => by cases h) hK hP hD hS hA (fun _ => rfl) (by decide) (by decide) (by decide) (Nat.le_of_ble_eq_true rfl) (Nat.le_of_ble_eq_true rfl) d_Q_init_111 (fun q111 H hP hD hS => ?_)
  have hP : va_P z.1 vwCl ([(h0, .inr (5, [.int 0, .int 8, .ref q13, .ref q21, .ref q29, .ref q38, .int 0, .ref q46, .ref q54, .ref q62, .ref q71, .ref q79, .int 0, .ref q87, .ref q95, .ref q103, .null, .null, .int 0, .int 0, .int 0, .null, .int 0, .null, .int 0, .null, .null, .null])), (q13, .inl (zZ z, 32, .inl (fun _ => 0))), (q21, .inl (zI z, 32, .inl (fun _ => 0))), (q29, .inl (zI z, 32, .inl (fun _ => 0))), (q38, .inl (zI z, 1024, .inl (fun _ => 0))), (q46, .inl (zI z, 80, .inl (fun _ => 0))), (q54, .inl (zI z, 80, .inl (fun _ => 0))), (q62, .inl (zI z, 80, .inl (fun _ => 0))), (q71, .inl (zI z, 320, .inl (fun _ => 0))), (q79, .inl (zZ z, 80, .inl (fun _ => 0))), (q87, .inl (zI z, 100, .inl (fun _ => 0))), (q95, .inl (zI z, 100, .inl (fun _ => 0))), (q103, .inl (zI z, 100, .inl (fun _ => 0))), (q111, .inl (zL z, 100, .inr (.inl (fun _ => 0))))] ++ Rr) H := hP
  have hD : va_D A0 ([(h0, .inr (5, [.int 0, .int 8, .ref q13, .ref q21, .ref q29, .ref q38, .int 0, .ref q46, .ref q54, .ref q62, .ref q71, .ref q79, .int 0, .ref q87, .ref q95, .ref q103, .null, .null, .int 0, .int 0, .int 0, .null, .int 0, .null, .int 0, .null, .null, .null])), (q13, .inl (zZ z, 32, .inl (fun _ => 0))), (q21, .inl (zI z, 32, .inl (fun _ => 0))), (q29, .inl (zI z, 32, .inl (fun _ => 0))), (q38, .inl (zI z, 1024, .inl (fun _ => 0))), (q46, .inl (zI z, 80, .inl (fun _ => 0))), (q54, .inl (zI z, 80, .inl (fun _ => 0))), (q62, .inl (zI z, 80, .inl (fun _ => 0))), (q71, .inl (zI z, 320, .inl (fun _ => 0))), (q79, .inl (zZ z, 80, .inl (fun _ => 0))), (q87, .inl (zI z, 100, .inl (fun _ => 0))), (q95, .inl (zI z, 100, .inl (fun _ => 0))), (q103, .inl (zI z, 100, .inl (fun _ => 0))), (q111, .inl (zL z, 100, .inr (.inl (fun _ => 0))))] ++ Rr) := hD
  refine va_putF (D := z.1) (ci := 5) (v := .ref q111) (ty := .array .long) (C := R_Q) (T := F_Q) (N := 28) hx hb hts i_Q ty_Q ty_Q_ok n_Q hown hK hP hD hS 0 rfl rfl 16 (by decide) (hts _ wq_567) (fun _ h9 => h9) rfl hin rfl (by decide +kernel) rfl rfl (Nat.le_of_ble_eq_true rfl) d_Q_init_113 (fun H locs hP hD hS => ?_)
  have hP : va_P z.1 vwCl ([(h0, .inr (5, [.int 0, .int 8, .ref q13, .ref q21, .ref q29, .ref q38, .int 0, .ref q46, .ref q54, .ref q62, .ref q71, .ref q79, .int 0, .ref q87, .ref q95, .ref q103, .ref q111, .null, .int 0, .int 0, .int 0, .null, .int 0, .null, .int 0, .null, .null, .null])), (q13, .inl (zZ z, 32, .inl (fun _ => 0))), (q21, .inl (zI z, 32, .inl (fun _ => 0))), (q29, .inl (zI z, 32, .inl (fun _ => 0))), (q38, .inl (zI z, 1024, .inl (fun _ => 0))), (q46, .inl (zI z, 80, .inl (fun _ => 0))), (q54, .inl (zI z, 80, .inl (fun _ => 0))), (q62, .inl (zI z, 80, .inl (fun _ => 0))), (q71, .inl (zI z, 320, .inl (fun _ => 0))), (q79, .inl (zZ z, 80, .inl (fun _ => 0))), (q87, .inl (zI z, 100, .inl (fun _ => 0))), (q95, .inl (zI z, 100, .inl (fun _ => 0))), (q103, .inl (zI z, 100, .inl (fun _ => 0))), (q111, .inl (zL z, 100, .inr (.inl (fun _ => 0))))] ++ Rr) H := hP
  have hD : va_D A0 ([(h0, .inr (5, [.int 0, .int 8, .ref q13, .ref q21, .ref q29, .ref q38, .int 0, .ref q46, .ref q54, .ref q62, .ref q71, .ref q79, .int 0, .ref q87, .ref q95, .ref q103, .ref q111, .null, .int 0, .int 0, .int 0, .null, .int 0, .null, .int 0, .null, .null, .null])), (q13, .inl (zZ z, 32, .inl (fun _ => 0))), (q21, .inl (zI z, 32, .inl (fun _ => 0))), (q29, .inl (zI z, 32, .inl (fun _ => 0))), (q38, .inl (zI z, 1024, .inl (fun _ => 0))), (q46, .inl (zI z, 80, .inl (fun _ => 0))), (q54, .inl (zI z, 80, .inl (fun _ => 0))), (q62, .inl (zI z, 80, .inl (fun _ => 0))), (q71, .inl (zI z, 320, .inl (fun _ => 0))), (q79, .inl (zZ z, 80, .inl (fun _ => 0))), (q87, .inl (zI z, 100, .inl (fun _ => 0))), (q95, .inl (zI z, 100, .inl (fun _ => 0))), (q103, .inl (zI z, 100, .inl (fun _ => 0))), (q111, .inl (zL z, 100, .inr (.inl (fun _ => 0))))] ++ Rr) := hD
  refine lv_aload_n hx hb d_Q_init_116 rfl (lv_at hl 0 rfl) ?_
  refine lv_bipush (v := 100) hx hb d_Q_init_117 (by decide) ?_
  refine zz_newa (L := [(h0, .inr (5, [.int 0, .int 8, .ref q13, .ref q21, .ref q29, .ref q38, .int 0, .ref q46, .ref q54, .ref q62, .ref q71, .ref q79, .int 0, .ref q87, .ref q95, .ref q103, .ref q111, .null, .int 0, .int 0, .int 0, .null, .int 0, .null, .int 0, .null, .null, .null])), (q13, .inl (zZ z, 32, .inl (fun _ => 0))), (q21, .inl (zI z, 32, .inl (fun _ => 0))), (q29, .inl (zI z, 32, .inl (fun _ => 0))), (q38, .inl (zI z, 1024, .inl (fun _ => 0))), (q46, .inl (zI z, 80, .inl (fun _ => 0))), (q54, .inl (zI z, 80, .inl (fun _ => 0))), (q62, .inl (zI z, 80, .inl (fun _ => 0))), (q71, .inl (zI z, 320, .inl (fun _ => 0))), (q79, .inl (zZ z, 80, .inl (fun _ => 0))), (q87, .inl (zI z, 100, .inl (fun _ => 0))), (q95, .inl (zI z, 100, .inl (fun _ => 0))), (q103, .inl (zI z, 100, .inl (fun _ => 0))), (q111, .inl (zL z, 100, .inr (.inl (fun _ => 0))))]) (Rr := Rr) hx hb 0 (atype := .int) (a0 := (100, .inl (fun _ => 0))) (N' := 100) (hts _ wq_59) rfl rfl (fun C h => by cases h) hK hP hD hS hA (fun _ => rfl) (by decide) (by decide) (by decide) (Nat.le_of_ble_eq_true rfl) (Nat.le_of_ble_eq_true rfl) d_Q_init_119 (fun q119 H hP hD hS => ?_)
  have hP : va_P z.1 vwCl ([(h0, .inr (5, [.int 0, .int 8, .ref q13, .ref q21, .ref q29, .ref q38, .int 0, .ref q46, .ref q54, .ref q62, .ref q71, .ref q79, .int 0, .ref q87, .ref q95, .ref q103, .ref q111, .null, .int 0, .int 0, .int 0, .null, .int 0, .null, .int 0, .null, .null, .null])), (q13, .inl (zZ z, 32, .inl (fun _ => 0))), (q21, .inl (zI z, 32, .inl (fun _ => 0))), (q29, .inl (zI z, 32, .inl (fun _ => 0))), (q38, .inl (zI z, 1024, .inl (fun _ => 0))), (q46, .inl (zI z, 80, .inl (fun _ => 0))), (q54, .inl (zI z, 80, .inl (fun _ => 0))), (q62, .inl (zI z, 80, .inl (fun _ => 0))), (q71, .inl (zI z, 320, .inl (fun _ => 0))), (q79, .inl (zZ z, 80, .inl (fun _ => 0))), (q87, .inl (zI z, 100, .inl (fun _ => 0))), (q95, .inl (zI z, 100, .inl (fun _ => 0))), (q103, .inl (zI z, 100, .inl (fun _ => 0))), (q111, .inl (zL z, 100, .inr (.inl (fun _ => 0)))), (q119, .inl (zI z, 100, .inl (fun _ => 0)))] ++ Rr) H := hP
  have hD : va_D A0 ([(h0, .inr (5, [.int 0, .int 8, .ref q13, .ref q21, .ref q29, .ref q38, .int 0, .ref q46, .ref q54, .ref q62, .ref q71, .ref q79, .int 0, .ref q87, .ref q95, .ref q103, .ref q111, .null, .int 0, .int 0, .int 0, .null, .int 0, .null, .int 0, .null, .null, .null])), (q13, .inl (zZ z, 32, .inl (fun _ => 0))), (q21, .inl (zI z, 32, .inl (fun _ => 0))), (q29, .inl (zI z, 32, .inl (fun _ => 0))), (q38, .inl (zI z, 1024, .inl (fun _ => 0))), (q46, .inl (zI z, 80, .inl (fun _ => 0))), (q54, .inl (zI z, 80, .inl (fun _ => 0))), (q62, .inl (zI z, 80, .inl (fun _ => 0))), (q71, .inl (zI z, 320, .inl (fun _ => 0))), (q79, .inl (zZ z, 80, .inl (fun _ => 0))), (q87, .inl (zI z, 100, .inl (fun _ => 0))), (q95, .inl (zI z, 100, .inl (fun _ => 0))), (q103, .inl (zI z, 100, .inl (fun _ => 0))), (q111, .inl (zL z, 100, .inr (.inl (fun _ => 0)))), (q119, .inl (zI z, 100, .inl (fun _ => 0)))] ++ Rr) := hD
  refine va_putF (D := z.1) (ci := 5) (v := .ref q119) (ty := .array .int) (C := R_Q) (T := F_Q) (N := 28) hx hb hts i_Q ty_Q ty_Q_ok n_Q hown hK hP hD hS 0 rfl rfl 17 (by decide) (hts _ wq_568) (fun _ h9 => h9) rfl hin rfl (by decide +kernel) rfl rfl (Nat.le_of_ble_eq_true rfl) d_Q_init_121 (fun H locs hP hD hS => ?_)
  have hP : va_P z.1 vwCl ([(h0, .inr (5, [.int 0, .int 8, .ref q13, .ref q21, .ref q29, .ref q38, .int 0, .ref q46, .ref q54, .ref q62, .ref q71, .ref q79, .int 0, .ref q87, .ref q95, .ref q103, .ref q111, .ref q119, .int 0, .int 0, .int 0, .null, .int 0, .null, .int 0, .null, .null, .null])), (q13, .inl (zZ z, 32, .inl (fun _ => 0))), (q21, .inl (zI z, 32, .inl (fun _ => 0))), (q29, .inl (zI z, 32, .inl (fun _ => 0))), (q38, .inl (zI z, 1024, .inl (fun _ => 0))), (q46, .inl (zI z, 80, .inl (fun _ => 0))), (q54, .inl (zI z, 80, .inl (fun _ => 0))), (q62, .inl (zI z, 80, .inl (fun _ => 0))), (q71, .inl (zI z, 320, .inl (fun _ => 0))), (q79, .inl (zZ z, 80, .inl (fun _ => 0))), (q87, .inl (zI z, 100, .inl (fun _ => 0))), (q95, .inl (zI z, 100, .inl (fun _ => 0))), (q103, .inl (zI z, 100, .inl (fun _ => 0))), (q111, .inl (zL z, 100, .inr (.inl (fun _ => 0)))), (q119, .inl (zI z, 100, .inl (fun _ => 0)))] ++ Rr) H := hP
  have hD : va_D A0 ([(h0, .inr (5, [.int 0, .int 8, .ref q13, .ref q21, .ref q29, .ref q38, .int 0, .ref q46, .ref q54, .ref q62, .ref q71, .ref q79, .int 0, .ref q87, .ref q95, .ref q103, .ref q111, .ref q119, .int 0, .int 0, .int 0, .null, .int 0, .null, .int 0, .null, .null, .null])), (q13, .inl (zZ z, 32, .inl (fun _ => 0))), (q21, .inl (zI z, 32, .inl (fun _ => 0))), (q29, .inl (zI z, 32, .inl (fun _ => 0))), (q38, .inl (zI z, 1024, .inl (fun _ => 0))), (q46, .inl (zI z, 80, .inl (fun _ => 0))), (q54, .inl (zI z, 80, .inl (fun _ => 0))), (q62, .inl (zI z, 80, .inl (fun _ => 0))), (q71, .inl (zI z, 320, .inl (fun _ => 0))), (q79, .inl (zZ z, 80, .inl (fun _ => 0))), (q87, .inl (zI z, 100, .inl (fun _ => 0))), (q95, .inl (zI z, 100, .inl (fun _ => 0))), (q103, .inl (zI z, 100, .inl (fun _ => 0))), (q111, .inl (zL z, 100, .inr (.inl (fun _ => 0)))), (q119, .inl (zI z, 100, .inl (fun _ => 0)))] ++ Rr) := hD
  refine lv_aload_n hx hb d_Q_init_124 rfl (lv_at hl 0 rfl) ?_
  refine lv_bipush (v := 32) hx hb d_Q_init_125 (by decide) ?_
  refine zz_newa (L := [(h0, .inr (5, [.int 0, .int 8, .ref q13, .ref q21, .ref q29, .ref q38, .int 0, .ref q46, .ref q54, .ref q62, .ref q71, .ref q79, .int 0, .ref q87, .ref q95, .ref q103, .ref q111, .ref q119, .int 0, .int 0, .int 0, .null, .int 0, .null, .int 0, .null, .null, .null])), (q13, .inl (zZ z, 32, .inl (fun _ => 0))), (q21, .inl (zI z, 32, .inl (fun _ => 0))), (q29, .inl (zI z, 32, .inl (fun _ => 0))), (q38, .inl (zI z, 1024, .inl (fun _ => 0))), (q46, .inl (zI z, 80, .inl (fun _ => 0))), (q54, .inl (zI z, 80, .inl (fun _ => 0))), (q62, .inl (zI z, 80, .inl (fun _ => 0))), (q71, .inl (zI z, 320, .inl (fun _ => 0))), (q79, .inl (zZ z, 80, .inl (fun _ => 0))), (q87, .inl (zI z, 100, .inl (fun _ => 0))), (q95, .inl (zI z, 100, .inl (fun _ => 0))), (q103, .inl (zI z, 100, .inl (fun _ => 0))), (q111, .inl (zL z, 100, .inr (.inl (fun _ => 0)))), (q119, .inl (zI z, 100, .inl (fun _ => 0)))]) (Rr := Rr) hx hb 0 (atype := .int) (a0 := (32, .inl (fun _ => 0))) (N' := 32) (hts _ wq_59) rfl rfl (fun C h => by cases h) hK hP hD hS hA (fun _ => rfl) (by decide) (by decide) (by decide) (Nat.le_of_ble_eq_true rfl) (Nat.le_of_ble_eq_true rfl) d_Q_init_127 (fun q127 H hP hD hS => ?_)
  have hP : va_P z.1 vwCl ([(h0, .inr (5, [.int 0, .int 8, .ref q13, .ref q21, .ref q29, .ref q38, .int 0, .ref q46, .ref q54, .ref q62, .ref q71, .ref q79, .int 0, .ref q87, .ref q95, .ref q103, .ref q111, .ref q119, .int 0, .int 0, .int 0, .null, .int 0, .null, .int 0, .null, .null, .null])), (q13, .inl (zZ z, 32, .inl (fun _ => 0))), (q21, .inl (zI z, 32, .inl (fun _ => 0))), (q29, .inl (zI z, 32, .inl (fun _ => 0))), (q38, .inl (zI z, 1024, .inl (fun _ => 0))), (q46, .inl (zI z, 80, .inl (fun _ => 0))), (q54, .inl (zI z, 80, .inl (fun _ => 0))), (q62, .inl (zI z, 80, .inl (fun _ => 0))), (q71, .inl (zI z, 320, .inl (fun _ => 0))), (q79, .inl (zZ z, 80, .inl (fun _ => 0))), (q87, .inl (zI z, 100, .inl (fun _ => 0))), (q95, .inl (zI z, 100, .inl (fun _ => 0))), (q103, .inl (zI z, 100, .inl (fun _ => 0))), (q111, .inl (zL z, 100, .inr (.inl (fun _ => 0)))), (q119, .inl (zI z, 100, .inl (fun _ => 0))), (q127, .inl (zI z, 32, .inl (fun _ => 0)))] ++ Rr) H := hP
  have hD : va_D A0 ([(h0, .inr (5, [.int 0, .int 8, .ref q13, .ref q21, .ref q29, .ref q38, .int 0, .ref q46, .ref q54, .ref q62, .ref q71, .ref q79, .int 0, .ref q87, .ref q95, .ref q103, .ref q111, .ref q119, .int 0, .int 0, .int 0, .null, .int 0, .null, .int 0, .null, .null, .null])), (q13, .inl (zZ z, 32, .inl (fun _ => 0))), (q21, .inl (zI z, 32, .inl (fun _ => 0))), (q29, .inl (zI z, 32, .inl (fun _ => 0))), (q38, .inl (zI z, 1024, .inl (fun _ => 0))), (q46, .inl (zI z, 80, .inl (fun _ => 0))), (q54, .inl (zI z, 80, .inl (fun _ => 0))), (q62, .inl (zI z, 80, .inl (fun _ => 0))), (q71, .inl (zI z, 320, .inl (fun _ => 0))), (q79, .inl (zZ z, 80, .inl (fun _ => 0))), (q87, .inl (zI z, 100, .inl (fun _ => 0))), (q95, .inl (zI z, 100, .inl (fun _ => 0))), (q103, .inl (zI z, 100, .inl (fun _ => 0))), (q111, .inl (zL z, 100, .inr (.inl (fun _ => 0)))), (q119, .inl (zI z, 100, .inl (fun _ => 0))), (q127, .inl (zI z, 32, .inl (fun _ => 0)))] ++ Rr) := hD
  refine va_putF (D := z.1) (ci := 5) (v := .ref q127) (ty := .array .int) (C := R_Q) (T := F_Q) (N := 28) hx hb hts i_Q ty_Q ty_Q_ok n_Q hown hK hP hD hS 0 rfl rfl 21 (by decide) (hts _ wq_572) (fun _ h9 => h9) rfl hin rfl (by decide +kernel) rfl rfl (Nat.le_of_ble_eq_true rfl) d_Q_init_129 (fun H locs hP hD hS => ?_)
  have hP : va_P z.1 vwCl ([(h0, .inr (5, [.int 0, .int 8, .ref q13, .ref q21, .ref q29, .ref q38, .int 0, .ref q46, .ref q54, .ref q62, .ref q71, .ref q79, .int 0, .ref q87, .ref q95, .ref q103, .ref q111, .ref q119, .int 0, .int 0, .int 0, .ref q127, .int 0, .null, .int 0, .null, .null, .null])), (q13, .inl (zZ z, 32, .inl (fun _ => 0))), (q21, .inl (zI z, 32, .inl (fun _ => 0))), (q29, .inl (zI z, 32, .inl (fun _ => 0))), (q38, .inl (zI z, 1024, .inl (fun _ => 0))), (q46, .inl (zI z, 80, .inl (fun _ => 0))), (q54, .inl (zI z, 80, .inl (fun _ => 0))), (q62, .inl (zI z, 80, .inl (fun _ => 0))), (q71, .inl (zI z, 320, .inl (fun _ => 0))), (q79, .inl (zZ z, 80, .inl (fun _ => 0))), (q87, .inl (zI z, 100, .inl (fun _ => 0))), (q95, .inl (zI z, 100, .inl (fun _ => 0))), (q103, .inl (zI z, 100, .inl (fun _ => 0))), (q111, .inl (zL z, 100, .inr (.inl (fun _ => 0)))), (q119, .inl (zI z, 100, .inl (fun _ => 0))), (q127, .inl (zI z, 32, .inl (fun _ => 0)))] ++ Rr) H := hP
  have hD : va_D A0 ([(h0, .inr (5, [.int 0, .int 8, .ref q13, .ref q21, .ref q29, .ref q38, .int 0, .ref q46, .ref q54, .ref q62, .ref q71, .ref q79, .int 0, .ref q87, .ref q95, .ref q103, .ref q111, .ref q119, .int 0, .int 0, .int 0, .ref q127, .int 0, .null, .int 0, .null, .null, .null])), (q13, .inl (zZ z, 32, .inl (fun _ => 0))), (q21, .inl (zI z, 32, .inl (fun _ => 0))), (q29, .inl (zI z, 32, .inl (fun _ => 0))), (q38, .inl (zI z, 1024, .inl (fun _ => 0))), (q46, .inl (zI z, 80, .inl (fun _ => 0))), (q54, .inl (zI z, 80, .inl (fun _ => 0))), (q62, .inl (zI z, 80, .inl (fun _ => 0))), (q71, .inl (zI z, 320, .inl (fun _ => 0))), (q79, .inl (zZ z, 80, .inl (fun _ => 0))), (q87, .inl (zI z, 100, .inl (fun _ => 0))), (q95, .inl (zI z, 100, .inl (fun _ => 0))), (q103, .inl (zI z, 100, .inl (fun _ => 0))), (q111, .inl (zL z, 100, .inr (.inl (fun _ => 0)))), (q119, .inl (zI z, 100, .inl (fun _ => 0))), (q127, .inl (zI z, 32, .inl (fun _ => 0)))] ++ Rr) := hD
  refine lv_aload_n hx hb d_Q_init_132 rfl (lv_at hl 0 rfl) ?_
  refine lv_bipush (v := 80) hx hb d_Q_init_133 (by decide) ?_
  refine zz_newa (L := [(h0, .inr (5, [.int 0, .int 8, .ref q13, .ref q21, .ref q29, .ref q38, .int 0, .ref q46, .ref q54, .ref q62, .ref q71, .ref q79, .int 0, .ref q87, .ref q95, .ref q103, .ref q111, .ref q119, .int 0, .int 0, .int 0, .ref q127, .int 0, .null, .int 0, .null, .null, .null])), (q13, .inl (zZ z, 32, .inl (fun _ => 0))), (q21, .inl (zI z, 32, .inl (fun _ => 0))), (q29, .inl (zI z, 32, .inl (fun _ => 0))), (q38, .inl (zI z, 1024, .inl (fun _ => 0))), (q46, .inl (zI z, 80, .inl (fun _ => 0))), (q54, .inl (zI z, 80, .inl (fun _ => 0))), (q62, .inl (zI z, 80, .inl (fun _ => 0))), (q71, .inl (zI z, 320, .inl (fun _ => 0))), (q79, .inl (zZ z, 80, .inl (fun _ => 0))), (q87, .inl (zI z, 100, .inl (fun _ => 0))), (q95, .inl (zI z, 100, .inl (fun _ => 0))), (q103, .inl (zI z, 100, .inl (fun _ => 0))), (q111, .inl (zL z, 100, .inr (.inl (fun _ => 0)))), (q119, .inl (zI z, 100, .inl (fun _ => 0))), (q127, .inl (zI z, 32, .inl (fun _ => 0)))]) (Rr := Rr) hx hb 0 (atype := .int) (a0 := (80, .inl (fun _ => 0))) (N' := 80) (hts _ wq_59) rfl rfl (fun C h => by cases h) hK hP hD hS hA (fun _ => rfl) (by decide) (by decide) (by decide) (Nat.le_of_ble_eq_true rfl) (Nat.le_of_ble_eq_true rfl) d_Q_init_135 (fun q135 H hP hD hS => ?_)
  have hP : va_P z.1 vwCl ([(h0, .inr (5, [.int 0, .int 8, .ref q13, .ref q21, .ref q29, .ref q38, .int 0, .ref q46, .ref q54, .ref q62, .ref q71, .ref q79, .int 0, .ref q87, .ref q95, .ref q103, .ref q111, .ref q119, .int 0, .int 0, .int 0, .ref q127, .int 0, .null, .int 0, .null, .null, .null])), (q13, .inl (zZ z, 32, .inl (fun _ => 0))), (q21, .inl (zI z, 32, .inl (fun _ => 0))), (q29, .inl (zI z, 32, .inl (fun _ => 0))), (q38, .inl (zI z, 1024, .inl (fun _ => 0))), (q46, .inl (zI z, 80, .inl (fun _ => 0))), (q54, .inl (zI z, 80, .inl (fun _ => 0))), (q62, .inl (zI z, 80, .inl (fun _ => 0))), (q71, .inl (zI z, 320, .inl (fun _ => 0))), (q79, .inl (zZ z, 80, .inl (fun _ => 0))), (q87, .inl (zI z, 100, .inl (fun _ => 0))), (q95, .inl (zI z, 100, .inl (fun _ => 0))), (q103, .inl (zI z, 100, .inl (fun _ => 0))), (q111, .inl (zL z, 100, .inr (.inl (fun _ => 0)))), (q119, .inl (zI z, 100, .inl (fun _ => 0))), (q127, .inl (zI z, 32, .inl (fun _ => 0))), (q135, .inl (zI z, 80, .inl (fun _ => 0)))] ++ Rr) H := hP
  have hD : va_D A0 ([(h0, .inr (5, [.int 0, .int 8, .ref q13, .ref q21, .ref q29, .ref q38, .int 0, .ref q46, .ref q54, .ref q62, .ref q71, .ref q79, .int 0, .ref q87, .ref q95, .ref q103, .ref q111, .ref q119, .int 0, .int 0, .int 0, .ref q127, .int 0, .null, .int 0, .null, .null, .null])), (q13, .inl (zZ z, 32, .inl (fun _ => 0))), (q21, .inl (zI z, 32, .inl (fun _ => 0))), (q29, .inl (zI z, 32, .inl (fun _ => 0))), (q38, .inl (zI z, 1024, .inl (fun _ => 0))), (q46, .inl (zI z, 80, .inl (fun _ => 0))), (q54, .inl (zI z, 80, .inl (fun _ => 0))), (q62, .inl (zI z, 80, .inl (fun _ => 0))), (q71, .inl (zI z, 320, .inl (fun _ => 0))), (q79, .inl (zZ z, 80, .inl (fun _ => 0))), (q87, .inl (zI z, 100, .inl (fun _ => 0))), (q95, .inl (zI z, 100, .inl (fun _ => 0))), (q103, .inl (zI z, 100, .inl (fun _ => 0))), (q111, .inl (zL z, 100, .inr (.inl (fun _ => 0)))), (q119, .inl (zI z, 100, .inl (fun _ => 0))), (q127, .inl (zI z, 32, .inl (fun _ => 0))), (q135, .inl (zI z, 80, .inl (fun _ => 0)))] ++ Rr) := hD
  refine va_putF (D := z.1) (ci := 5) (v := .ref q135) (ty := .array .int) (C := R_Q) (T := F_Q) (N := 28) hx hb hts i_Q ty_Q ty_Q_ok n_Q hown hK hP hD hS 0 rfl rfl 23 (by decide) (hts _ wq_574) (fun _ h9 => h9) rfl hin rfl (by decide +kernel) rfl rfl (Nat.le_of_ble_eq_true rfl) d_Q_init_137 (fun H locs hP hD hS => ?_)
  have hP : va_P z.1 vwCl ([(h0, .inr (5, [.int 0, .int 8, .ref q13, .ref q21, .ref q29, .ref q38, .int 0, .ref q46, .ref q54, .ref q62, .ref q71, .ref q79, .int 0, .ref q87, .ref q95, .ref q103, .ref q111, .ref q119, .int 0, .int 0, .int 0, .ref q127, .int 0, .ref q135, .int 0, .null, .null, .null])), (q13, .inl (zZ z, 32, .inl (fun _ => 0))), (q21, .inl (zI z, 32, .inl (fun _ => 0))), (q29, .inl (zI z, 32, .inl (fun _ => 0))), (q38, .inl (zI z, 1024, .inl (fun _ => 0))), (q46, .inl (zI z, 80, .inl (fun _ => 0))), (q54, .inl (zI z, 80, .inl (fun _ => 0))), (q62, .inl (zI z, 80, .inl (fun _ => 0))), (q71, .inl (zI z, 320, .inl (fun _ => 0))), (q79, .inl (zZ z, 80, .inl (fun _ => 0))), (q87, .inl (zI z, 100, .inl (fun _ => 0))), (q95, .inl (zI z, 100, .inl (fun _ => 0))), (q103, .inl (zI z, 100, .inl (fun _ => 0))), (q111, .inl (zL z, 100, .inr (.inl (fun _ => 0)))), (q119, .inl (zI z, 100, .inl (fun _ => 0))), (q127, .inl (zI z, 32, .inl (fun _ => 0))), (q135, .inl (zI z, 80, .inl (fun _ => 0)))] ++ Rr) H := hP
  have hD : va_D A0 ([(h0, .inr (5, [.int 0, .int 8, .ref q13, .ref q21, .ref q29, .ref q38, .int 0, .ref q46, .ref q54, .ref q62, .ref q71, .ref q79, .int 0, .ref q87, .ref q95, .ref q103, .ref q111, .ref q119, .int 0, .int 0, .int 0, .ref q127, .int 0, .ref q135, .int 0, .null, .null, .null])), (q13, .inl (zZ z, 32, .inl (fun _ => 0))), (q21, .inl (zI z, 32, .inl (fun _ => 0))), (q29, .inl (zI z, 32, .inl (fun _ => 0))), (q38, .inl (zI z, 1024, .inl (fun _ => 0))), (q46, .inl (zI z, 80, .inl (fun _ => 0))), (q54, .inl (zI z, 80, .inl (fun _ => 0))), (q62, .inl (zI z, 80, .inl (fun _ => 0))), (q71, .inl (zI z, 320, .inl (fun _ => 0))), (q79, .inl (zZ z, 80, .inl (fun _ => 0))), (q87, .inl (zI z, 100, .inl (fun _ => 0))), (q95, .inl (zI z, 100, .inl (fun _ => 0))), (q103, .inl (zI z, 100, .inl (fun _ => 0))), (q111, .inl (zL z, 100, .inr (.inl (fun _ => 0)))), (q119, .inl (zI z, 100, .inl (fun _ => 0))), (q127, .inl (zI z, 32, .inl (fun _ => 0))), (q135, .inl (zI z, 80, .inl (fun _ => 0)))] ++ Rr) := hD
  refine lv_aload_n hx hb d_Q_init_140 rfl (lv_at hl 0 rfl) ?_
  refine lv_bipush (v := 6) hx hb d_Q_init_141 (by decide) ?_
  refine zz_newa (L := [(h0, .inr (5, [.int 0, .int 8, .ref q13, .ref q21, .ref q29, .ref q38, .int 0, .ref q46, .ref q54, .ref q62, .ref q71, .ref q79, .int 0, .ref q87, .ref q95, .ref q103, .ref q111, .ref q119, .int 0, .int 0, .int 0, .ref q127, .int 0, .ref q135, .int 0, .null, .null, .null])), (q13, .inl (zZ z, 32, .inl (fun _ => 0))), (q21, .inl (zI z, 32, .inl (fun _ => 0))), (q29, .inl (zI z, 32, .inl (fun _ => 0))), (q38, .inl (zI z, 1024, .inl (fun _ => 0))), (q46, .inl (zI z, 80, .inl (fun _ => 0))), (q54, .inl (zI z, 80, .inl (fun _ => 0))), (q62, .inl (zI z, 80, .inl (fun _ => 0))), (q71, .inl (zI z, 320, .inl (fun _ => 0))), (q79, .inl (zZ z, 80, .inl (fun _ => 0))), (q87, .inl (zI z, 100, .inl (fun _ => 0))), (q95, .inl (zI z, 100, .inl (fun _ => 0))), (q103, .inl (zI z, 100, .inl (fun _ => 0))), (q111, .inl (zL z, 100, .inr (.inl (fun _ => 0)))), (q119, .inl (zI z, 100, .inl (fun _ => 0))), (q127, .inl (zI z, 32, .inl (fun _ => 0))), (q135, .inl (zI z, 80, .inl (fun _ => 0)))]) (Rr := Rr) hx hb 0 (atype := .int) (a0 := (6, .inl (fun _ => 0))) (N' := 6) (hts _ wq_59) rfl rfl (fun C h => by cases h) hK hP hD hS hA (fun _ => rfl) (by decide) (by decide) (by decide) (Nat.le_of_ble_eq_true rfl) (Nat.le_of_ble_eq_true rfl) d_Q_init_143 (fun q143 H hP hD hS => ?_)
  have hP : va_P z.1 vwCl ([(h0, .inr (5, [.int 0, .int 8, .ref q13, .ref q21, .ref q29, .ref q38, .int 0, .ref q46, .ref q54, .ref q62, .ref q71, .ref q79, .int 0, .ref q87, .ref q95, .ref q103, .ref q111, .ref q119, .int 0, .int 0, .int 0, .ref q127, .int 0, .ref q135, .int 0, .null, .null, .null])), (q13, .inl (zZ z, 32, .inl (fun _ => 0))), (q21, .inl (zI z, 32, .inl (fun _ => 0))), (q29, .inl (zI z, 32, .inl (fun _ => 0))), (q38, .inl (zI z, 1024, .inl (fun _ => 0))), (q46, .inl (zI z, 80, .inl (fun _ => 0))), (q54, .inl (zI z, 80, .inl (fun _ => 0))), (q62, .inl (zI z, 80, .inl (fun _ => 0))), (q71, .inl (zI z, 320, .inl (fun _ => 0))), (q79, .inl (zZ z, 80, .inl (fun _ => 0))), (q87, .inl (zI z, 100, .inl (fun _ => 0))), (q95, .inl (zI z, 100, .inl (fun _ => 0))), (q103, .inl (zI z, 100, .inl (fun _ => 0))), (q111, .inl (zL z, 100, .inr (.inl (fun _ => 0)))), (q119, .inl (zI z, 100, .inl (fun _ => 0))), (q127, .inl (zI z, 32, .inl (fun _ => 0))), (q135, .inl (zI z, 80, .inl (fun _ => 0))), (q143, .inl (zI z, 6, .inl (fun _ => 0)))] ++ Rr) H := hP
  have hD : va_D A0 ([(h0, .inr (5, [.int 0, .int 8, .ref q13, .ref q21, .ref q29, .ref q38, .int 0, .ref q46, .ref q54, .ref q62, .ref q71, .ref q79, .int 0, .ref q87, .ref q95, .ref q103, .ref q111, .ref q119, .int 0, .int 0, .int 0, .ref q127, .int 0, .ref q135, .int 0, .null, .null, .null])), (q13, .inl (zZ z, 32, .inl (fun _ => 0))), (q21, .inl (zI z, 32, .inl (fun _ => 0))), (q29, .inl (zI z, 32, .inl (fun _ => 0))), (q38, .inl (zI z, 1024, .inl (fun _ => 0))), (q46, .inl (zI z, 80, .inl (fun _ => 0))), (q54, .inl (zI z, 80, .inl (fun _ => 0))), (q62, .inl (zI z, 80, .inl (fun _ => 0))), (q71, .inl (zI z, 320, .inl (fun _ => 0))), (q79, .inl (zZ z, 80, .inl (fun _ => 0))), (q87, .inl (zI z, 100, .inl (fun _ => 0))), (q95, .inl (zI z, 100, .inl (fun _ => 0))), (q103, .inl (zI z, 100, .inl (fun _ => 0))), (q111, .inl (zL z, 100, .inr (.inl (fun _ => 0)))), (q119, .inl (zI z, 100, .inl (fun _ => 0))), (q127, .inl (zI z, 32, .inl (fun _ => 0))), (q135, .inl (zI z, 80, .inl (fun _ => 0))), (q143, .inl (zI z, 6, .inl (fun _ => 0)))] ++ Rr) := hD
  refine va_putF (D := z.1) (ci := 5) (v := .ref q143) (ty := .array .int) (C := R_Q) (T := F_Q) (N := 28) hx hb hts i_Q ty_Q ty_Q_ok n_Q hown hK hP hD hS 0 rfl rfl 25 (by decide) (hts _ wq_576) (fun _ h9 => h9) rfl hin rfl (by decide +kernel) rfl rfl (Nat.le_of_ble_eq_true rfl) d_Q_init_145 (fun H locs hP hD hS => ?_)
  have hP : va_P z.1 vwCl ([(h0, .inr (5, [.int 0, .int 8, .ref q13, .ref q21, .ref q29, .ref q38, .int 0, .ref q46, .ref q54, .ref q62, .ref q71, .ref q79, .int 0, .ref q87, .ref q95, .ref q103, .ref q111, .ref q119, .int 0, .int 0, .int 0, .ref q127, .int 0, .ref q135, .int 0, .ref q143, .null, .null])), (q13, .inl (zZ z, 32, .inl (fun _ => 0))), (q21, .inl (zI z, 32, .inl (fun _ => 0))), (q29, .inl (zI z, 32, .inl (fun _ => 0))), (q38, .inl (zI z, 1024, .inl (fun _ => 0))), (q46, .inl (zI z, 80, .inl (fun _ => 0))), (q54, .inl (zI z, 80, .inl (fun _ => 0))), (q62, .inl (zI z, 80, .inl (fun _ => 0))), (q71, .inl (zI z, 320, .inl (fun _ => 0))), (q79, .inl (zZ z, 80, .inl (fun _ => 0))), (q87, .inl (zI z, 100, .inl (fun _ => 0))), (q95, .inl (zI z, 100, .inl (fun _ => 0))), (q103, .inl (zI z, 100, .inl (fun _ => 0))), (q111, .inl (zL z, 100, .inr (.inl (fun _ => 0)))), (q119, .inl (zI z, 100, .inl (fun _ => 0))), (q127, .inl (zI z, 32, .inl (fun _ => 0))), (q135, .inl (zI z, 80, .inl (fun _ => 0))), (q143, .inl (zI z, 6, .inl (fun _ => 0)))] ++ Rr) H := hP
  have hD : va_D A0 ([(h0, .inr (5, [.int 0, .int 8, .ref q13, .ref q21, .ref q29, .ref q38, .int 0, .ref q46, .ref q54, .ref q62, .ref q71, .ref q79, .int 0, .ref q87, .ref q95, .ref q103, .ref q111, .ref q119, .int 0, .int 0, .int 0, .ref q127, .int 0, .ref q135, .int 0, .ref q143, .null, .null])), (q13, .inl (zZ z, 32, .inl (fun _ => 0))), (q21, .inl (zI z, 32, .inl (fun _ => 0))), (q29, .inl (zI z, 32, .inl (fun _ => 0))), (q38, .inl (zI z, 1024, .inl (fun _ => 0))), (q46, .inl (zI z, 80, .inl (fun _ => 0))), (q54, .inl (zI z, 80, .inl (fun _ => 0))), (q62, .inl (zI z, 80, .inl (fun _ => 0))), (q71, .inl (zI z, 320, .inl (fun _ => 0))), (q79, .inl (zZ z, 80, .inl (fun _ => 0))), (q87, .inl (zI z, 100, .inl (fun _ => 0))), (q95, .inl (zI z, 100, .inl (fun _ => 0))), (q103, .inl (zI z, 100, .inl (fun _ => 0))), (q111, .inl (zL z, 100, .inr (.inl (fun _ => 0)))), (q119, .inl (zI z, 100, .inl (fun _ => 0))), (q127, .inl (zI z, 32, .inl (fun _ => 0))), (q135, .inl (zI z, 80, .inl (fun _ => 0))), (q143, .inl (zI z, 6, .inl (fun _ => 0)))] ++ Rr) := hD
  refine lv_aload_n hx hb d_Q_init_148 rfl (lv_at hl 0 rfl) ?_
  refine lv_bipush (v := 32) hx hb d_Q_init_149 (by decide) ?_
  refine zz_newa (L := [(h0, .inr (5, [.int 0, .int 8, .ref q13, .ref q21, .ref q29, .ref q38, .int 0, .ref q46, .ref q54, .ref q62, .ref q71, .ref q79, .int 0, .ref q87, .ref q95, .ref q103, .ref q111, .ref q119, .int 0, .int 0, .int 0, .ref q127, .int 0, .ref q135, .int 0, .ref q143, .null, .null])), (q13, .inl (zZ z, 32, .inl (fun _ => 0))), (q21, .inl (zI z, 32, .inl (fun _ => 0))), (q29, .inl (zI z, 32, .inl (fun _ => 0))), (q38, .inl (zI z, 1024, .inl (fun _ => 0))), (q46, .inl (zI z, 80, .inl (fun _ => 0))), (q54, .inl (zI z, 80, .inl (fun _ => 0))), (q62, .inl (zI z, 80, .inl (fun _ => 0))), (q71, .inl (zI z, 320, .inl (fun _ => 0))), (q79, .inl (zZ z, 80, .inl (fun _ => 0))), (q87, .inl (zI z, 100, .inl (fun _ => 0))), (q95, .inl (zI z, 100, .inl (fun _ => 0))), (q103, .inl (zI z, 100, .inl (fun _ => 0))), (q111, .inl (zL z, 100, .inr (.inl (fun _ => 0)))), (q119, .inl (zI z, 100, .inl (fun _ => 0))), (q127, .inl (zI z, 32, .inl (fun _ => 0))), (q135, .inl (zI z, 80, .inl (fun _ => 0))), (q143, .inl (zI z, 6, .inl (fun _ => 0)))]) (Rr := Rr) hx hb 1 (atype := .boolean) (a0 := (32, .inl (fun _ => 0))) (N' := 32) (hts _ wq_58) rfl rfl (fun C h => by cases h) hK hP hD hS hA (fun _ => rfl) (by decide) (by decide) (by decide) (Nat.le_of_ble_eq_true rfl) (Nat.le_of_ble_eq_true rfl) d_Q_init_151 (fun q151 H hP hD hS => ?_)
  have hP : va_P z.1 vwCl ([(h0, .inr (5, [.int 0, .int 8, .ref q13, .ref q21, .ref q29, .ref q38, .int 0, .ref q46, .ref q54, .ref q62, .ref q71, .ref q79, .int 0, .ref q87, .ref q95, .ref q103, .ref q111, .ref q119, .int 0, .int 0, .int 0, .ref q127, .int 0, .ref q135, .int 0, .ref q143, .null, .null])), (q13, .inl (zZ z, 32, .inl (fun _ => 0))), (q21, .inl (zI z, 32, .inl (fun _ => 0))), (q29, .inl (zI z, 32, .inl (fun _ => 0))), (q38, .inl (zI z, 1024, .inl (fun _ => 0))), (q46, .inl (zI z, 80, .inl (fun _ => 0))), (q54, .inl (zI z, 80, .inl (fun _ => 0))), (q62, .inl (zI z, 80, .inl (fun _ => 0))), (q71, .inl (zI z, 320, .inl (fun _ => 0))), (q79, .inl (zZ z, 80, .inl (fun _ => 0))), (q87, .inl (zI z, 100, .inl (fun _ => 0))), (q95, .inl (zI z, 100, .inl (fun _ => 0))), (q103, .inl (zI z, 100, .inl (fun _ => 0))), (q111, .inl (zL z, 100, .inr (.inl (fun _ => 0)))), (q119, .inl (zI z, 100, .inl (fun _ => 0))), (q127, .inl (zI z, 32, .inl (fun _ => 0))), (q135, .inl (zI z, 80, .inl (fun _ => 0))), (q143, .inl (zI z, 6, .inl (fun _ => 0))), (q151, .inl (zZ z, 32, .inl (fun _ => 0)))] ++ Rr) H := hP
  have hD : va_D A0 ([(h0, .inr (5, [.int 0, .int 8, .ref q13, .ref q21, .ref q29, .ref q38, .int 0, .ref q46, .ref q54, .ref q62, .ref q71, .ref q79, .int 0, .ref q87, .ref q95, .ref q103, .ref q111, .ref q119, .int 0, .int 0, .int 0, .ref q127, .int 0, .ref q135, .int 0, .ref q143, .null, .null])), (q13, .inl (zZ z, 32, .inl (fun _ => 0))), (q21, .inl (zI z, 32, .inl (fun _ => 0))), (q29, .inl (zI z, 32, .inl (fun _ => 0))), (q38, .inl (zI z, 1024, .inl (fun _ => 0))), (q46, .inl (zI z, 80, .inl (fun _ => 0))), (q54, .inl (zI z, 80, .inl (fun _ => 0))), (q62, .inl (zI z, 80, .inl (fun _ => 0))), (q71, .inl (zI z, 320, .inl (fun _ => 0))), (q79, .inl (zZ z, 80, .inl (fun _ => 0))), (q87, .inl (zI z, 100, .inl (fun _ => 0))), (q95, .inl (zI z, 100, .inl (fun _ => 0))), (q103, .inl (zI z, 100, .inl (fun _ => 0))), (q111, .inl (zL z, 100, .inr (.inl (fun _ => 0)))), (q119, .inl (zI z, 100, .inl (fun _ => 0))), (q127, .inl (zI z, 32, .inl (fun _ => 0))), (q135, .inl (zI z, 80, .inl (fun _ => 0))), (q143, .inl (zI z, 6, .inl (fun _ => 0))), (q151, .inl (zZ z, 32, .inl (fun _ => 0)))] ++ Rr) := hD
  refine va_putF (D := z.1) (ci := 5) (v := .ref q151) (ty := .array .boolean) (C := R_Q) (T := F_Q) (N := 28) hx hb hts i_Q ty_Q ty_Q_ok n_Q hown hK hP hD hS 0 rfl rfl 26 (by decide) (hts _ wq_577) (fun _ h9 => h9) rfl hin rfl (by decide +kernel) rfl rfl (Nat.le_of_ble_eq_true rfl) d_Q_init_153 (fun H locs hP hD hS => ?_)
  have hP : va_P z.1 vwCl ([(h0, .inr (5, [.int 0, .int 8, .ref q13, .ref q21, .ref q29, .ref q38, .int 0, .ref q46, .ref q54, .ref q62, .ref q71, .ref q79, .int 0, .ref q87, .ref q95, .ref q103, .ref q111, .ref q119, .int 0, .int 0, .int 0, .ref q127, .int 0, .ref q135, .int 0, .ref q143, .ref q151, .null])), (q13, .inl (zZ z, 32, .inl (fun _ => 0))), (q21, .inl (zI z, 32, .inl (fun _ => 0))), (q29, .inl (zI z, 32, .inl (fun _ => 0))), (q38, .inl (zI z, 1024, .inl (fun _ => 0))), (q46, .inl (zI z, 80, .inl (fun _ => 0))), (q54, .inl (zI z, 80, .inl (fun _ => 0))), (q62, .inl (zI z, 80, .inl (fun _ => 0))), (q71, .inl (zI z, 320, .inl (fun _ => 0))), (q79, .inl (zZ z, 80, .inl (fun _ => 0))), (q87, .inl (zI z, 100, .inl (fun _ => 0))), (q95, .inl (zI z, 100, .inl (fun _ => 0))), (q103, .inl (zI z, 100, .inl (fun _ => 0))), (q111, .inl (zL z, 100, .inr (.inl (fun _ => 0)))), (q119, .inl (zI z, 100, .inl (fun _ => 0))), (q127, .inl (zI z, 32, .inl (fun _ => 0))), (q135, .inl (zI z, 80, .inl (fun _ => 0))), (q143, .inl (zI z, 6, .inl (fun _ => 0))), (q151, .inl (zZ z, 32, .inl (fun _ => 0)))] ++ Rr) H := hP
  have hD : va_D A0 ([(h0, .inr (5, [.int 0, .int 8, .ref q13, .ref q21, .ref q29, .ref q38, .int 0, .ref q46, .ref q54, .ref q62, .ref q71, .ref q79, .int 0, .ref q87, .ref q95, .ref q103, .ref q111, .ref q119, .int 0, .int 0, .int 0, .ref q127, .int 0, .ref q135, .int 0, .ref q143, .ref q151, .null])), (q13, .inl (zZ z, 32, .inl (fun _ => 0))), (q21, .inl (zI z, 32, .inl (fun _ => 0))), (q29, .inl (zI z, 32, .inl (fun _ => 0))), (q38, .inl (zI z, 1024, .inl (fun _ => 0))), (q46, .inl (zI z, 80, .inl (fun _ => 0))), (q54, .inl (zI z, 80, .inl (fun _ => 0))), (q62, .inl (zI z, 80, .inl (fun _ => 0))), (q71, .inl (zI z, 320, .inl (fun _ => 0))), (q79, .inl (zZ z, 80, .inl (fun _ => 0))), (q87, .inl (zI z, 100, .inl (fun _ => 0))), (q95, .inl (zI z, 100, .inl (fun _ => 0))), (q103, .inl (zI z, 100, .inl (fun _ => 0))), (q111, .inl (zL z, 100, .inr (.inl (fun _ => 0)))), (q119, .inl (zI z, 100, .inl (fun _ => 0))), (q127, .inl (zI z, 32, .inl (fun _ => 0))), (q135, .inl (zI z, 80, .inl (fun _ => 0))), (q143, .inl (zI z, 6, .inl (fun _ => 0))), (q151, .inl (zZ z, 32, .inl (fun _ => 0)))] ++ Rr) := hD
  refine lv_aload_n hx hb d_Q_init_156 rfl (lv_at hl 0 rfl) ?_
  refine lv_sipush (v := 1024) hx hb d_Q_init_157 (by decide) ?_
  refine zz_newa (L := [(h0, .inr (5, [.int 0, .int 8, .ref q13, .ref q21, .ref q29, .ref q38, .int 0, .ref q46, .ref q54, .ref q62, .ref q71, .ref q79, .int 0, .ref q87, .ref q95, .ref q103, .ref q111, .ref q119, .int 0, .int 0, .int 0, .ref q127, .int 0, .ref q135, .int 0, .ref q143, .ref q151, .null])), (q13, .inl (zZ z, 32, .inl (fun _ => 0))), (q21, .inl (zI z, 32, .inl (fun _ => 0))), (q29, .inl (zI z, 32, .inl (fun _ => 0))), (q38, .inl (zI z, 1024, .inl (fun _ => 0))), (q46, .inl (zI z, 80, .inl (fun _ => 0))), (q54, .inl (zI z, 80, .inl (fun _ => 0))), (q62, .inl (zI z, 80, .inl (fun _ => 0))), (q71, .inl (zI z, 320, .inl (fun _ => 0))), (q79, .inl (zZ z, 80, .inl (fun _ => 0))), (q87, .inl (zI z, 100, .inl (fun _ => 0))), (q95, .inl (zI z, 100, .inl (fun _ => 0))), (q103, .inl (zI z, 100, .inl (fun _ => 0))), (q111, .inl (zL z, 100, .inr (.inl (fun _ => 0)))), (q119, .inl (zI z, 100, .inl (fun _ => 0))), (q127, .inl (zI z, 32, .inl (fun _ => 0))), (q135, .inl (zI z, 80, .inl (fun _ => 0))), (q143, .inl (zI z, 6, .inl (fun _ => 0))), (q151, .inl (zZ z, 32, .inl (fun _ => 0)))]) (Rr := Rr) hx hb 0 (atype := .int) (a0 := (1024, .inl (fun _ => 0))) (N' := 1024) (hts _ wq_59) rfl rfl (fun C h => by cases h) hK hP hD hS hA (fun _ => rfl) (by decide) (by decide) (by decide) (Nat.le_of_ble_eq_true rfl) (Nat.le_of_ble_eq_true rfl) d_Q_init_160 (fun q160 H hP hD hS => ?_)
  have hP : va_P z.1 vwCl ([(h0, .inr (5, [.int 0, .int 8, .ref q13, .ref q21, .ref q29, .ref q38, .int 0, .ref q46, .ref q54, .ref q62, .ref q71, .ref q79, .int 0, .ref q87, .ref q95, .ref q103, .ref q111, .ref q119, .int 0, .int 0, .int 0, .ref q127, .int 0, .ref q135, .int 0, .ref q143, .ref q151, .null])), (q13, .inl (zZ z, 32, .inl (fun _ => 0))), (q21, .inl (zI z, 32, .inl (fun _ => 0))), (q29, .inl (zI z, 32, .inl (fun _ => 0))), (q38, .inl (zI z, 1024, .inl (fun _ => 0))), (q46, .inl (zI z, 80, .inl (fun _ => 0))), (q54, .inl (zI z, 80, .inl (fun _ => 0))), (q62, .inl (zI z, 80, .inl (fun _ => 0))), (q71, .inl (zI z, 320, .inl (fun _ => 0))), (q79, .inl (zZ z, 80, .inl (fun _ => 0))), (q87, .inl (zI z, 100, .inl (fun _ => 0))), (q95, .inl (zI z, 100, .inl (fun _ => 0))), (q103, .inl (zI z, 100, .inl (fun _ => 0))), (q111, .inl (zL z, 100, .inr (.inl (fun _ => 0)))), (q119, .inl (zI z, 100, .inl (fun _ => 0))), (q127, .inl (zI z, 32, .inl (fun _ => 0))), (q135, .inl (zI z, 80, .inl (fun _ => 0))), (q143, .inl (zI z, 6, .inl (fun _ => 0))), (q151, .inl (zZ z, 32, .inl (fun _ => 0))), (q160, .inl (zI z, 1024, .inl (fun _ => 0)))] ++ Rr) H := hP
  have hD : va_D A0 ([(h0, .inr (5, [.int 0, .int 8, .ref q13, .ref q21, .ref q29, .ref q38, .int 0, .ref q46, .ref q54, .ref q62, .ref q71, .ref q79, .int 0, .ref q87, .ref q95, .ref q103, .ref q111, .ref q119, .int 0, .int 0, .int 0, .ref q127, .int 0, .ref q135, .int 0, .ref q143, .ref q151, .null])), (q13, .inl (zZ z, 32, .inl (fun _ => 0))), (q21, .inl (zI z, 32, .inl (fun _ => 0))), (q29, .inl (zI z, 32, .inl (fun _ => 0))), (q38, .inl (zI z, 1024, .inl (fun _ => 0))), (q46, .inl (zI z, 80, .inl (fun _ => 0))), (q54, .inl (zI z, 80, .inl (fun _ => 0))), (q62, .inl (zI z, 80, .inl (fun _ => 0))), (q71, .inl (zI z, 320, .inl (fun _ => 0))), (q79, .inl (zZ z, 80, .inl (fun _ => 0))), (q87, .inl (zI z, 100, .inl (fun _ => 0))), (q95, .inl (zI z, 100, .inl (fun _ => 0))), (q103, .inl (zI z, 100, .inl (fun _ => 0))), (q111, .inl (zL z, 100, .inr (.inl (fun _ => 0)))), (q119, .inl (zI z, 100, .inl (fun _ => 0))), (q127, .inl (zI z, 32, .inl (fun _ => 0))), (q135, .inl (zI z, 80, .inl (fun _ => 0))), (q143, .inl (zI z, 6, .inl (fun _ => 0))), (q151, .inl (zZ z, 32, .inl (fun _ => 0))), (q160, .inl (zI z, 1024, .inl (fun _ => 0)))] ++ Rr) := hD
  refine va_putF (D := z.1) (ci := 5) (v := .ref q160) (ty := .array .int) (C := R_Q) (T := F_Q) (N := 28) hx hb hts i_Q ty_Q ty_Q_ok n_Q hown hK hP hD hS 0 rfl rfl 27 (by decide) (hts _ wq_578) (fun _ h9 => h9) rfl hin rfl (by decide +kernel) rfl rfl (Nat.le_of_ble_eq_true rfl) d_Q_init_162 (fun H locs hP hD hS => ?_)
  have hP : va_P z.1 vwCl ([(h0, .inr (5, [.int 0, .int 8, .ref q13, .ref q21, .ref q29, .ref q38, .int 0, .ref q46, .ref q54, .ref q62, .ref q71, .ref q79, .int 0, .ref q87, .ref q95, .ref q103, .ref q111, .ref q119, .int 0, .int 0, .int 0, .ref q127, .int 0, .ref q135, .int 0, .ref q143, .ref q151, .ref q160])), (q13, .inl (zZ z, 32, .inl (fun _ => 0))), (q21, .inl (zI z, 32, .inl (fun _ => 0))), (q29, .inl (zI z, 32, .inl (fun _ => 0))), (q38, .inl (zI z, 1024, .inl (fun _ => 0))), (q46, .inl (zI z, 80, .inl (fun _ => 0))), (q54, .inl (zI z, 80, .inl (fun _ => 0))), (q62, .inl (zI z, 80, .inl (fun _ => 0))), (q71, .inl (zI z, 320, .inl (fun _ => 0))), (q79, .inl (zZ z, 80, .inl (fun _ => 0))), (q87, .inl (zI z, 100, .inl (fun _ => 0))), (q95, .inl (zI z, 100, .inl (fun _ => 0))), (q103, .inl (zI z, 100, .inl (fun _ => 0))), (q111, .inl (zL z, 100, .inr (.inl (fun _ => 0)))), (q119, .inl (zI z, 100, .inl (fun _ => 0))), (q127, .inl (zI z, 32, .inl (fun _ => 0))), (q135, .inl (zI z, 80, .inl (fun _ => 0))), (q143, .inl (zI z, 6, .inl (fun _ => 0))), (q151, .inl (zZ z, 32, .inl (fun _ => 0))), (q160, .inl (zI z, 1024, .inl (fun _ => 0)))] ++ Rr) H := hP
  have hD : va_D A0 ([(h0, .inr (5, [.int 0, .int 8, .ref q13, .ref q21, .ref q29, .ref q38, .int 0, .ref q46, .ref q54, .ref q62, .ref q71, .ref q79, .int 0, .ref q87, .ref q95, .ref q103, .ref q111, .ref q119, .int 0, .int 0, .int 0, .ref q127, .int 0, .ref q135, .int 0, .ref q143, .ref q151, .ref q160])), (q13, .inl (zZ z, 32, .inl (fun _ => 0))), (q21, .inl (zI z, 32, .inl (fun _ => 0))), (q29, .inl (zI z, 32, .inl (fun _ => 0))), (q38, .inl (zI z, 1024, .inl (fun _ => 0))), (q46, .inl (zI z, 80, .inl (fun _ => 0))), (q54, .inl (zI z, 80, .inl (fun _ => 0))), (q62, .inl (zI z, 80, .inl (fun _ => 0))), (q71, .inl (zI z, 320, .inl (fun _ => 0))), (q79, .inl (zZ z, 80, .inl (fun _ => 0))), (q87, .inl (zI z, 100, .inl (fun _ => 0))), (q95, .inl (zI z, 100, .inl (fun _ => 0))), (q103, .inl (zI z, 100, .inl (fun _ => 0))), (q111, .inl (zL z, 100, .inr (.inl (fun _ => 0)))), (q119, .inl (zI z, 100, .inl (fun _ => 0))), (q127, .inl (zI z, 32, .inl (fun _ => 0))), (q135, .inl (zI z, 80, .inl (fun _ => 0))), (q143, .inl (zI z, 6, .inl (fun _ => 0))), (q151, .inl (zZ z, 32, .inl (fun _ => 0))), (q160, .inl (zI z, 1024, .inl (fun _ => 0)))] ++ Rr) := hD
  exact zz_vretE hx hb hr hlocks ⟨zad [h0, q13, q21, q29, q38, q46, q54, q62, q71, q79, q87, q95, q103, q111, q119, q127, q135, q143, q151, q160], rfl, rfl⟩ hP hD hS (Nat.le_of_ble_eq_true rfl) (Nat.le_of_ble_eq_true rfl) d_Q_init_165
end
section
abbrev b_T_init : ByteArray := prog_5_method_1_code
abbrev y_T_init : MethodName := ⟨"MemberChooser$Types", "<init>", "()V"⟩
abbrev w_T_init : List Cond := Cond.code y_T_init b_T_init 2 none :: zTb
theorem d_T_init_0 : decode b_T_init 0 = .ok (.aload_n 0, 1) := by decide +kernel
theorem d_T_init_1 : decode b_T_init 1 = .ok (.invokespecial 5, 3) := by decide +kernel
theorem d_T_init_4 : decode b_T_init 4 = .ok (.aload_n 0, 1) := by decide +kernel
theorem d_T_init_5 : decode b_T_init 5 = .ok (.bipush 32, 2) := by decide +kernel
theorem d_T_init_7 : decode b_T_init 7 = .ok (.newarray .boolean, 2) := by decide +kernel
theorem d_T_init_9 : decode b_T_init 9 = .ok (.putfield 11, 3) := by decide +kernel
theorem d_T_init_12 : decode b_T_init 12 = .ok (.aload_n 0, 1) := by decide +kernel
theorem d_T_init_13 : decode b_T_init 13 = .ok (.bipush 32, 2) := by decide +kernel
theorem d_T_init_15 : decode b_T_init 15 = .ok (.newarray .int, 2) := by decide +kernel
theorem d_T_init_17 : decode b_T_init 17 = .ok (.putfield 15, 3) := by decide +kernel
theorem d_T_init_20 : decode b_T_init 20 = .ok (.aload_n 0, 1) := by decide +kernel
theorem d_T_init_21 : decode b_T_init 21 = .ok (.bipush 32, 2) := by decide +kernel
theorem d_T_init_23 : decode b_T_init 23 = .ok (.newarray .int, 2) := by decide +kernel
theorem d_T_init_25 : decode b_T_init 25 = .ok (.putfield 19, 3) := by decide +kernel
theorem d_T_init_28 : decode b_T_init 28 = .ok (.aload_n 0, 1) := by decide +kernel
theorem d_T_init_29 : decode b_T_init 29 = .ok (.bipush 32, 2) := by decide +kernel
theorem d_T_init_31 : decode b_T_init 31 = .ok (.bipush 24, 2) := by decide +kernel
theorem d_T_init_33 : decode b_T_init 33 = .ok (.multianewarray 22 2, 4) := by decide +kernel
theorem d_T_init_37 : decode b_T_init 37 = .ok (.putfield 24, 3) := by decide +kernel
theorem d_T_init_40 : decode b_T_init 40 = .ok (.aload_n 0, 1) := by decide +kernel
theorem d_T_init_41 : decode b_T_init 41 = .ok (.bipush 32, 2) := by decide +kernel
theorem d_T_init_43 : decode b_T_init 43 = .ok (.newarray .int, 2) := by decide +kernel
theorem d_T_init_45 : decode b_T_init 45 = .ok (.putfield 27, 3) := by decide +kernel
theorem d_T_init_48 : decode b_T_init 48 = .ok (.aload_n 0, 1) := by decide +kernel
theorem d_T_init_49 : decode b_T_init 49 = .ok (.iconst 0, 1) := by decide +kernel
theorem d_T_init_50 : decode b_T_init 50 = .ok (.putfield 30, 3) := by decide +kernel
theorem d_T_init_53 : decode b_T_init 53 = .ok (.iconst 0, 1) := by decide +kernel
theorem d_T_init_54 : decode b_T_init 54 = .ok (.istore_n 1, 1) := by decide +kernel
theorem d_T_init_55 : decode b_T_init 55 = .ok (.iload_n 1, 1) := by decide +kernel
theorem d_T_init_56 : decode b_T_init 56 = .ok (.bipush 8, 2) := by decide +kernel
theorem d_T_init_58 : decode b_T_init 58 = .ok (.if_icmp .ge 39, 3) := by decide +kernel
theorem d_T_init_61 : decode b_T_init 61 = .ok (.aload_n 0, 1) := by decide +kernel
theorem d_T_init_62 : decode b_T_init 62 = .ok (.getfield 27, 3) := by decide +kernel
theorem d_T_init_65 : decode b_T_init 65 = .ok (.iload_n 1, 1) := by decide +kernel
theorem d_T_init_66 : decode b_T_init 66 = .ok (.iload_n 1, 1) := by decide +kernel
theorem d_T_init_67 : decode b_T_init 67 = .ok (.invokestatic 34, 3) := by decide +kernel
theorem d_T_init_70 : decode b_T_init 70 = .ok (.ifCond .eq 10, 3) := by decide +kernel
theorem d_T_init_73 : decode b_T_init 73 = .ok (.iload_n 1, 1) := by decide +kernel
theorem d_T_init_74 : decode b_T_init 74 = .ok (.invokestatic 38, 3) := by decide +kernel
theorem d_T_init_77 : decode b_T_init 77 = .ok (.goto 13, 3) := by decide +kernel
theorem d_T_init_80 : decode b_T_init 80 = .ok (.iload_n 1, 1) := by decide +kernel
theorem d_T_init_81 : decode b_T_init 81 = .ok (.invokestatic 38, 3) := by decide +kernel
theorem d_T_init_84 : decode b_T_init 84 = .ok (.bipush 7, 2) := by decide +kernel
theorem d_T_init_86 : decode b_T_init 86 = .ok (.invokestatic 38, 3) := by decide +kernel
theorem d_T_init_89 : decode b_T_init 89 = .ok (.ior, 1) := by decide +kernel
theorem d_T_init_90 : decode b_T_init 90 = .ok (.iastore, 1) := by decide +kernel
theorem d_T_init_91 : decode b_T_init 91 = .ok (.iinc 1 1, 3) := by decide +kernel
theorem d_T_init_94 : decode b_T_init 94 = .ok (.goto (-39), 3) := by decide +kernel
theorem d_T_init_97 : decode b_T_init 97 = .ok (.aload_n 0, 1) := by decide +kernel
theorem d_T_init_98 : decode b_T_init 98 = .ok (.getfield 27, 3) := by decide +kernel
theorem d_T_init_101 : decode b_T_init 101 = .ok (.iconst 0, 1) := by decide +kernel
theorem d_T_init_102 : decode b_T_init 102 = .ok (.iconst 0, 1) := by decide +kernel
theorem d_T_init_103 : decode b_T_init 103 = .ok (.invokestatic 38, 3) := by decide +kernel
theorem d_T_init_106 : decode b_T_init 106 = .ok (.iconst 1, 1) := by decide +kernel
theorem d_T_init_107 : decode b_T_init 107 = .ok (.invokestatic 38, 3) := by decide +kernel
theorem d_T_init_110 : decode b_T_init 110 = .ok (.ior, 1) := by decide +kernel
theorem d_T_init_111 : decode b_T_init 111 = .ok (.iastore, 1) := by decide +kernel
theorem d_T_init_112 : decode b_T_init 112 = .ok (.return_, 1) := by decide +kernel
abbrev rm_T_init : Room := { frames := 1, cells := 37, slots := 928, locals := 40 }
def st_T_init_L55 (n : Nat)  (v1 : Int32) (S : ZT) : Option ((Int32 × ZT) ⊕ (Nat × Int32 × ZT)) :=
  (if (8 : Int32) ≤ v1 then
  some (.inr (97, v1, S))
  else
  zbind1 (fx_T_isPrimitive n v1) (fun r_3 =>
    (if r_3 = 0 then
    zbind1 (fx_T_bit n v1) (fun r_5 =>
      zbind1 (fx_T_bit n (7 : Int32)) (fun r_6 =>
      (if zoob v1 32 then none else
      zlet (uUp' S (upd (uUp S) v1.toNatClampNeg (r_5 ||| r_6))) (fun S_8 =>
      some (.inl ((v1 + (1 : Int32)), S_8))))))
    else
    zbind1 (fx_T_bit n v1) (fun r_9 =>
      (if zoob v1 32 then none else
      zlet (uUp' S (upd (uUp S) v1.toNatClampNeg r_9)) (fun S_11 =>
      some (.inl ((v1 + (1 : Int32)), S_11))))))))

def fx_T_init_L55 (n : Nat)  (v1 : Int32) (S : ZT) : Option (Nat × Int32 × ZT) := zloop (fun (st : Int32 × ZT) => st_T_init_L55 n st.1 st.2) n (v1, S)

def fx_T_init (n : Nat) (S : ZT) : Option ZT :=
  zlet (uTo' S (0 : Int32)) (fun S_1 =>
  zbL2 (fx_T_init_L55 n (0 : Int32) S_1) (fun x_12 v1_12 S_12 =>
  if x_12 = 97 then
  zbind1 (fx_T_bit n (0 : Int32)) (fun r_13 =>
  zbind1 (fx_T_bit n (1 : Int32)) (fun r_14 =>
  (if zoob (0 : Int32) 32 then none else
  zlet (uUp' S_12 (upd (uUp S_12) (0 : Int32).toNatClampNeg (r_13 ||| r_14))) (fun S_16 =>
  some S_16))))
  else none))

set_option maxRecDepth 100000 in
set_option maxHeartbeats 4000000 in
theorem lp_T_init_L55 {z : zE} {A : Nat → Nat} {Rr : va_W} {p : Program} {l : Launch} {e : Env} {s : State} {m : MethodId} {args : Array Value} {below : List Frame} {meth : Method} {c : Code} {Q : State → Prop} {H0 : Heap} {A0 : Nat → Prop} (hM : zM z p s m args c b_T_init 2 R_T) (hA : ∀ q : Nat, H0.size ≤ q → A0 q) (n : Nat) :
    ∀ (v1 : Int32) (S : ZT) (r : Nat × Int32 × ZT), fx_T_init_L55 n v1 S = some r → (∀ (H : Heap) (locs : List Loc) (ls : Array Slot), va_P z.1 vwCl (tw z A r.2.2 ++ Rr) H → va_D A0 (tw z A r.2.2 ++ Rr) → va_S A0 H0 H locs → lv_has ls 2 [(0, .ref (A 0)), (1, .int r.2.1)] → W p l e rm_T_init s m args below meth c H locs 37 928 Q (F0 m r.1 ls [])) →
    ∀ (H : Heap) (locs : List Loc) (ls : Array Slot), va_P z.1 vwCl (tw z A S ++ Rr) H → va_D A0 (tw z A S ++ Rr) → va_S A0 H0 H locs → lv_has ls 2 [(0, .ref (A 0)), (1, .int v1)] → W p l e rm_T_init s m args below meth c H locs 37 928 Q (F0 m 55 ls []) := by
  obtain ⟨hx, hb, hml, hown, hts, hK, hN⟩ := id hM
  intro v1 S r h hE
  refine zz_loop (G := fun (st : Int32 × ZT) => ∀ (H : Heap) (locs : List Loc) (ls : Array Slot), va_P z.1 vwCl (tw z A st.2 ++ Rr) H → va_D A0 (tw z A st.2 ++ Rr) → va_S A0 H0 H locs → lv_has ls 2 [(0, .ref (A 0)), (1, .int st.1)] → W p l e rm_T_init s m args below meth c H locs 37 928 Q (F0 m 55 ls [])) (E := fun (r : Nat × Int32 × ZT) => ∀ (H : Heap) (locs : List Loc) (ls : Array Slot), va_P z.1 vwCl (tw z A r.2.2 ++ Rr) H → va_D A0 (tw z A r.2.2 ++ Rr) → va_S A0 H0 H locs → lv_has ls 2 [(0, .ref (A 0)), (1, .int r.2.1)] → W p l e rm_T_init s m args below meth c H locs 37 928 Q (F0 m r.1 ls [])) ?_ n (v1, S) r h hE
  clear h hE r v1 S
  rintro ⟨v1, S⟩ o h hG hE H locs ls hP hD hS hl
  have h : st_T_init_L55 n v1 S = some o := h
  have hl : lv_has ls 2 [(0, .ref (A 0)), (1, .int v1)] := hl
  have hP : va_P z.1 vwCl (tw z A S ++ Rr) H := hP
  have hD : va_D A0 (tw z A S ++ Rr) := hD
  unfold st_T_init_L55 at h
  refine lv_iload_n hx hb d_T_init_55 rfl (lv_at hl 1 rfl) ?_
  refine lv_bipush (v := 8) hx hb d_T_init_56 (by decide) ?_
  refine lv_icmp_ge (tgt := 97) hx hb d_T_init_58 (by decide) (fun c_2 => ?_) (fun c_2 => ?_)
  · replace h := zz_t c_2 h
    exact hE _ (Option.some.inj h).symm _ _ _ hP hD hS hl
  · replace h := zz_f c_2 h
    refine lv_aload_n hx hb d_T_init_61 rfl (lv_at hl 0 rfl) ?_
    refine va_get (D := z.1) (ci := 1) (v := .ref (A 5)) (C := R_T) (T := F_T) (N := 6) hx hb hts i_T hown hK hP 0 rfl rfl 4 (by decide) (hts _ wq_42) (fun _ h9 => h9) rfl d_T_init_62 ?_
    refine lv_iload_n hx hb d_T_init_65 rfl (lv_at hl 1 rfl) ?_
    refine lv_iload_n hx hb d_T_init_66 rfl (lv_at hl 1 rfl) ?_
    obtain ⟨r_3, e_3, h⟩ := zz_bind1 h
    refine zz_goI (zz_runS (As := [.int v1]) (rest := [.int v1, .ref (A 5)]) (k_T_isPrimitive l z _ n _ _ e_3) ⟨hx, hb, hml, hown, hts⟩ (va_cwS 1 hts (zz_gS wq_32 wq_33 wq_2 wq_34) rfl rfl rfl (by decide +kernel) ⟨Nat.le_of_ble_eq_true rfl, Nat.le_of_ble_eq_true rfl⟩) hK hN hP hD rfl hl.1 rfl (Nat.le_of_ble_eq_true rfl) d_T_init_67 ⟨Nat.le_of_ble_eq_true rfl, Nat.le_of_ble_eq_true rfl⟩) hD hS hA (fun H locs hP hD hS => ?_)
    refine lv_if_eq (tgt := 80) hx hb d_T_init_70 (by decide) (fun c_4 => ?_) (fun c_4 => ?_)
    · replace h := zz_t c_4 h
      refine lv_iload_n hx hb d_T_init_80 rfl (lv_at hl 1 rfl) ?_
      obtain ⟨r_5, e_5, h⟩ := zz_bind1 h
      refine zz_goI (zz_runS (As := [.int v1]) (rest := [.int v1, .ref (A 5)]) (k_T_bit l z _ n _ _ e_5) ⟨hx, hb, hml, hown, hts⟩ (va_cwS 1 hts (zz_gS wq_35 wq_36 wq_2 wq_37) rfl rfl rfl (by decide +kernel) ⟨Nat.le_of_ble_eq_true rfl, Nat.le_of_ble_eq_true rfl⟩) hK hN hP hD rfl hl.1 rfl (Nat.le_of_ble_eq_true rfl) d_T_init_81 ⟨Nat.le_of_ble_eq_true rfl, Nat.le_of_ble_eq_true rfl⟩) hD hS hA (fun H locs hP hD hS => ?_)
      refine lv_bipush (v := 7) hx hb d_T_init_84 (by decide) ?_
      obtain ⟨r_6, e_6, h⟩ := zz_bind1 h
      refine zz_goI (zz_runS (As := [.int (7 : Int32)]) (rest := [.int r_5, .int v1, .ref (A 5)]) (k_T_bit l z _ n _ _ e_6) ⟨hx, hb, hml, hown, hts⟩ (va_cwS 1 hts (zz_gS wq_35 wq_36 wq_2 wq_37) rfl rfl rfl (by decide +kernel) ⟨Nat.le_of_ble_eq_true rfl, Nat.le_of_ble_eq_true rfl⟩) hK hN hP hD rfl hl.1 rfl (Nat.le_of_ble_eq_true rfl) d_T_init_86 ⟨Nat.le_of_ble_eq_true rfl, Nat.le_of_ble_eq_true rfl⟩) hD hS hA (fun H locs hP hD hS => ?_)
      refine lv_ior hx hb d_T_init_89 ?_
      obtain ⟨c_7, h⟩ := zz_oob h
      obtain ⟨S_8, e_8, h⟩ := zz_let h
      refine va_iast hx hb hK hP hD hS 5 0 rfl rfl c_7 d_T_init_90 (fun H locs hP hD hS => ?_)
      have hP : va_P z.1 vwCl (tw z A S_8 ++ Rr) H := by rw [e_8]; exact hP
      have hD : va_D A0 (tw z A S_8 ++ Rr) := by rw [e_8]; exact hD
      refine lv_iinc (v := (v1 + (1 : Int32))) (lv' := [(1, .int (v1 + (1 : Int32))), (0, .ref (A 0))]) hx hb d_T_init_91 hl (k := 1) rfl rfl (by decide) rfl (fun ls hl => ?_)
      refine lv_goto (tgt := 55) hx hb d_T_init_94 (by decide) ?_
      exact hG _ (Option.some.inj h).symm _ _ _ hP hD hS (lv_sub hl [1, 0] rfl)
    · replace h := zz_f c_4 h
      refine lv_iload_n hx hb d_T_init_73 rfl (lv_at hl 1 rfl) ?_
      obtain ⟨r_9, e_9, h⟩ := zz_bind1 h
      refine zz_goI (zz_runS (As := [.int v1]) (rest := [.int v1, .ref (A 5)]) (k_T_bit l z _ n _ _ e_9) ⟨hx, hb, hml, hown, hts⟩ (va_cwS 1 hts (zz_gS wq_35 wq_36 wq_2 wq_37) rfl rfl rfl (by decide +kernel) ⟨Nat.le_of_ble_eq_true rfl, Nat.le_of_ble_eq_true rfl⟩) hK hN hP hD rfl hl.1 rfl (Nat.le_of_ble_eq_true rfl) d_T_init_74 ⟨Nat.le_of_ble_eq_true rfl, Nat.le_of_ble_eq_true rfl⟩) hD hS hA (fun H locs hP hD hS => ?_)
      refine lv_goto (tgt := 90) hx hb d_T_init_77 (by decide) ?_
      obtain ⟨c_10, h⟩ := zz_oob h
      obtain ⟨S_11, e_11, h⟩ := zz_let h
      refine va_iast hx hb hK hP hD hS 5 0 rfl rfl c_10 d_T_init_90 (fun H locs hP hD hS => ?_)
      have hP : va_P z.1 vwCl (tw z A S_11 ++ Rr) H := by rw [e_11]; exact hP
      have hD : va_D A0 (tw z A S_11 ++ Rr) := by rw [e_11]; exact hD
      refine lv_iinc (v := (v1 + (1 : Int32))) (lv' := [(1, .int (v1 + (1 : Int32))), (0, .ref (A 0))]) hx hb d_T_init_91 hl (k := 1) rfl rfl (by decide) rfl (fun ls hl => ?_)
      refine lv_goto (tgt := 55) hx hb d_T_init_94 (by decide) ?_
      exact hG _ (Option.some.inj h).symm _ _ _ hP hD hS (lv_sub hl [1, 0] rfl)

set_option maxRecDepth 100000 in
set_option maxHeartbeats 4000000 in
theorem k_T_init (l : Launch) (z : zE) (Rr : va_W) (h0 n : Nat) (S' : ZT) (h : fx_T_init n zT0 = some S') : zCe z l y_T_init w_T_init rm_T_init [.ref h0] ([(h0, .inr (1, [.null, .null, .null, .null, .null, .int 0]))] ++ Rr) none (fun w' => ∃ A : Nat → Nat, A 0 = h0 ∧ w' = tw z A S' ++ Rr) 37 928 := by
  refine zz_ofE (by decide) (Nat.le_of_ble_eq_true rfl) ?_
  intro p e s m args below meth c A0 ls hM hO hin hr hlocks hA hP hD hl
  have hM : zM z p s m args c b_T_init 2 R_T := hM
  obtain ⟨hx, hb, hml, hown, hts, hK, hN⟩ := id hM
  have hS : va_S A0 s.heap s.heap [] := va_S.rf
  have hl : lv_has ls 2 [(0, .ref h0)] := hl
  refine lv_aload_n hx hb d_T_init_0 rfl (lv_at hl 0 rfl) ?_
  refine W.objInit hx hb hown (hts _ wq_29) (hts _ wq_22) (hts _ wq_23) rfl (by rw [hml]; exact hl.1) rfl d_T_init_1 (Nat.le_of_ble_eq_true rfl) (Nat.le_of_ble_eq_true rfl) ?_
  refine W.eq (g2 := F0 m 4 ls []) rfl ?_
  refine lv_aload_n hx hb d_T_init_4 rfl (lv_at hl 0 rfl) ?_
  refine lv_bipush (v := 32) hx hb d_T_init_5 (by decide) ?_
  refine zz_newa (L := [(h0, .inr (1, [.null, .null, .null, .null, .null, .int 0]))]) (Rr := Rr) hx hb 1 (atype := .boolean) (a0 := (32, .inl (fun _ => 0))) (N' := 32) (hts _ wq_58) rfl rfl (fun C h => by cases h) hK hP hD hS hA (fun _ => rfl) (by decide) (by decide) (by decide) (Nat.le_of_ble_eq_true rfl) (Nat.le_of_ble_eq_true rfl) d_T_init_7 (fun q7 H hP hD hS => ?_)
  have hP : va_P z.1 vwCl ([(h0, .inr (1, [.null, .null, .null, .null, .null, .int 0])), (q7, .inl (zZ z, 32, .inl (fun _ => 0)))] ++ Rr) H := hP
  have hD : va_D A0 ([(h0, .inr (1, [.null, .null, .null, .null, .null, .int 0])), (q7, .inl (zZ z, 32, .inl (fun _ => 0)))] ++ Rr) := hD
  refine va_putF (D := z.1) (ci := 1) (v := .ref q7) (ty := .array .boolean) (C := R_T) (T := F_T) (N := 6) hx hb hts i_T ty_T ty_T_ok n_T hown hK hP hD hS 0 rfl rfl 0 (by decide) (hts _ wq_38) (fun _ h9 => h9) rfl hin rfl (by decide +kernel) rfl rfl (Nat.le_of_ble_eq_true rfl) d_T_init_9 (fun H locs hP hD hS => ?_)
  have hP : va_P z.1 vwCl ([(h0, .inr (1, [.ref q7, .null, .null, .null, .null, .int 0])), (q7, .inl (zZ z, 32, .inl (fun _ => 0)))] ++ Rr) H := hP
  have hD : va_D A0 ([(h0, .inr (1, [.ref q7, .null, .null, .null, .null, .int 0])), (q7, .inl (zZ z, 32, .inl (fun _ => 0)))] ++ Rr) := hD
  refine lv_aload_n hx hb d_T_init_12 rfl (lv_at hl 0 rfl) ?_
  refine lv_bipush (v := 32) hx hb d_T_init_13 (by decide) ?_
  refine zz_newa (L := [(h0, .inr (1, [.ref q7, .null, .null, .null, .null, .int 0])), (q7, .inl (zZ z, 32, .inl (fun _ => 0)))]) (Rr := Rr) hx hb 0 (atype := .int) (a0 := (32, .inl (fun _ => 0))) (N' := 32) (hts _ wq_59) rfl rfl (fun C h => by cases h) hK hP hD hS hA (fun _ => rfl) (by decide) (by decide) (by decide) (Nat.le_of_ble_eq_true rfl) (Nat.le_of_ble_eq_true rfl) d_T_init_15 (fun q15 H hP hD hS => ?_)
  have hP : va_P z.1 vwCl ([(h0, .inr (1, [.ref q7, .null, .null, .null, .null, .int 0])), (q7, .inl (zZ z, 32, .inl (fun _ => 0))), (q15, .inl (zI z, 32, .inl (fun _ => 0)))] ++ Rr) H := hP
  have hD : va_D A0 ([(h0, .inr (1, [.ref q7, .null, .null, .null, .null, .int 0])), (q7, .inl (zZ z, 32, .inl (fun _ => 0))), (q15, .inl (zI z, 32, .inl (fun _ => 0)))] ++ Rr) := hD
  refine va_putF (D := z.1) (ci := 1) (v := .ref q15) (ty := .array .int) (C := R_T) (T := F_T) (N := 6) hx hb hts i_T ty_T ty_T_ok n_T hown hK hP hD hS 0 rfl rfl 1 (by decide) (hts _ wq_39) (fun _ h9 => h9) rfl hin rfl (by decide +kernel) rfl rfl (Nat.le_of_ble_eq_true rfl) d_T_init_17 (fun H locs hP hD hS => ?_)
  have hP : va_P z.1 vwCl ([(h0, .inr (1, [.ref q7, .ref q15, .null, .null, .null, .int 0])), (q7, .inl (zZ z, 32, .inl (fun _ => 0))), (q15, .inl (zI z, 32, .inl (fun _ => 0)))] ++ Rr) H := hP
  have hD : va_D A0 ([(h0, .inr (1, [.ref q7, .ref q15, .null, .null, .null, .int 0])), (q7, .inl (zZ z, 32, .inl (fun _ => 0))), (q15, .inl (zI z, 32, .inl (fun _ => 0)))] ++ Rr) := hD
  refine lv_aload_n hx hb d_T_init_20 rfl (lv_at hl 0 rfl) ?_
  refine lv_bipush (v := 32) hx hb d_T_init_21 (by decide) ?_
  refine zz_newa (L := [(h0, .inr (1, [.ref q7, .ref q15, .null, .null, .null, .int 0])), (q7, .inl (zZ z, 32, .inl (fun _ => 0))), (q15, .inl (zI z, 32, .inl (fun _ => 0)))]) (Rr := Rr) hx hb 0 (atype := .int) (a0 := (32, .inl (fun _ => 0))) (N' := 32) (hts _ wq_59) rfl rfl (fun C h => by cases h) hK hP hD hS hA (fun _ => rfl) (by decide) (by decide) (by decide) (Nat.le_of_ble_eq_true rfl) (Nat.le_of_ble_eq_true rfl) d_T_init_23 (fun q23 H hP hD hS => ?_)
  have hP : va_P z.1 vwCl ([(h0, .inr (1, [.ref q7, .ref q15, .null, .null, .null, .int 0])), (q7, .inl (zZ z, 32, .inl (fun _ => 0))), (q15, .inl (zI z, 32, .inl (fun _ => 0))), (q23, .inl (zI z, 32, .inl (fun _ => 0)))] ++ Rr) H := hP
  have hD : va_D A0 ([(h0, .inr (1, [.ref q7, .ref q15, .null, .null, .null, .int 0])), (q7, .inl (zZ z, 32, .inl (fun _ => 0))), (q15, .inl (zI z, 32, .inl (fun _ => 0))), (q23, .inl (zI z, 32, .inl (fun _ => 0)))] ++ Rr) := hD
  refine va_putF (D := z.1) (ci := 1) (v := .ref q23) (ty := .array .int) (C := R_T) (T := F_T) (N := 6) hx hb hts i_T ty_T ty_T_ok n_T hown hK hP hD hS 0 rfl rfl 2 (by decide) (hts _ wq_40) (fun _ h9 => h9) rfl hin rfl (by decide +kernel) rfl rfl (Nat.le_of_ble_eq_true rfl) d_T_init_25 (fun H locs hP hD hS => ?_)
  have hP : va_P z.1 vwCl ([(h0, .inr (1, [.ref q7, .ref q15, .ref q23, .null, .null, .int 0])), (q7, .inl (zZ z, 32, .inl (fun _ => 0))), (q15, .inl (zI z, 32, .inl (fun _ => 0))), (q23, .inl (zI z, 32, .inl (fun _ => 0)))] ++ Rr) H := hP
  have hD : va_D A0 ([(h0, .inr (1, [.ref q7, .ref q15, .ref q23, .null, .null, .int 0])), (q7, .inl (zZ z, 32, .inl (fun _ => 0))), (q15, .inl (zI z, 32, .inl (fun _ => 0))), (q23, .inl (zI z, 32, .inl (fun _ => 0)))] ++ Rr) := hD
  refine lv_aload_n hx hb d_T_init_28 rfl (lv_at hl 0 rfl) ?_
  refine lv_bipush (v := 32) hx hb d_T_init_29 (by decide) ?_
  refine lv_bipush (v := 24) hx hb d_T_init_31 (by decide) ?_
  refine zz_mna (L := [(h0, .inr (1, [.ref q7, .ref q15, .ref q23, .null, .null, .int 0])), (q7, .inl (zZ z, 32, .inl (fun _ => 0))), (q15, .inl (zI z, 32, .inl (fun _ => 0))), (q23, .inl (zI z, 32, .inl (fun _ => 0)))]) (Rr := Rr) hx hb hown (hts _ wq_30) hO (hts _ wq_59) hK hP hD hS hA (Nat.le_of_ble_eq_true rfl) (Nat.le_of_ble_eq_true rfl) d_T_init_33 (fun q33 r33 H hP hD hS => ?_)
  have hP : va_P z.1 vwCl ([(h0, .inr (1, [.ref q7, .ref q15, .ref q23, .null, .null, .int 0])), (q7, .inl (zZ z, 32, .inl (fun _ => 0))), (q15, .inl (zI z, 32, .inl (fun _ => 0))), (q23, .inl (zI z, 32, .inl (fun _ => 0))), (q33, .inl (zG z, 32, .inr (.inr (.inr (.inr (fun i => some (r33 i)))))))] ++ ((List.range 32).map (fun i => (r33 i, (.inl (zI z, 24, .inl (fun _ => 0)) : va_E))) ++ Rr)) H := hP
  have hD : va_D A0 ([(h0, .inr (1, [.ref q7, .ref q15, .ref q23, .null, .null, .int 0])), (q7, .inl (zZ z, 32, .inl (fun _ => 0))), (q15, .inl (zI z, 32, .inl (fun _ => 0))), (q23, .inl (zI z, 32, .inl (fun _ => 0))), (q33, .inl (zG z, 32, .inr (.inr (.inr (.inr (fun i => some (r33 i)))))))] ++ ((List.range 32).map (fun i => (r33 i, (.inl (zI z, 24, .inl (fun _ => 0)) : va_E))) ++ Rr)) := hD
  refine va_putF (D := z.1) (ci := 1) (v := .ref q33) (ty := .array (.array .int)) (C := R_T) (T := F_T) (N := 6) hx hb hts i_T ty_T ty_T_ok n_T hown hK hP hD hS 0 rfl rfl 3 (by decide) (hts _ wq_41) (fun _ h9 => h9) rfl hin rfl (by decide +kernel) rfl rfl (Nat.le_of_ble_eq_true rfl) d_T_init_37 (fun H locs hP hD hS => ?_)
  have hP : va_P z.1 vwCl ([(h0, .inr (1, [.ref q7, .ref q15, .ref q23, .ref q33, .null, .int 0])), (q7, .inl (zZ z, 32, .inl (fun _ => 0))), (q15, .inl (zI z, 32, .inl (fun _ => 0))), (q23, .inl (zI z, 32, .inl (fun _ => 0))), (q33, .inl (zG z, 32, .inr (.inr (.inr (.inr (fun i => some (r33 i)))))))] ++ ((List.range 32).map (fun i => (r33 i, (.inl (zI z, 24, .inl (fun _ => 0)) : va_E))) ++ Rr)) H := hP
  have hD : va_D A0 ([(h0, .inr (1, [.ref q7, .ref q15, .ref q23, .ref q33, .null, .int 0])), (q7, .inl (zZ z, 32, .inl (fun _ => 0))), (q15, .inl (zI z, 32, .inl (fun _ => 0))), (q23, .inl (zI z, 32, .inl (fun _ => 0))), (q33, .inl (zG z, 32, .inr (.inr (.inr (.inr (fun i => some (r33 i)))))))] ++ ((List.range 32).map (fun i => (r33 i, (.inl (zI z, 24, .inl (fun _ => 0)) : va_E))) ++ Rr)) := hD
  refine lv_aload_n hx hb d_T_init_40 rfl (lv_at hl 0 rfl) ?_
  refine lv_bipush (v := 32) hx hb d_T_init_41 (by decide) ?_
  refine zz_newa (L := [(h0, .inr (1, [.ref q7, .ref q15, .ref q23, .ref q33, .null, .int 0])), (q7, .inl (zZ z, 32, .inl (fun _ => 0))), (q15, .inl (zI z, 32, .inl (fun _ => 0))), (q23, .inl (zI z, 32, .inl (fun _ => 0))), (q33, .inl (zG z, 32, .inr (.inr (.inr (.inr (fun i => some (r33 i)))))))]) (Rr := ((List.range 32).map (fun i => (r33 i, (.inl (zI z, 24, .inl (fun _ => 0)) : va_E))) ++ Rr)) hx hb 0 (atype := .int) (a0 := (32, .inl (fun _ => 0))) (N' := 32) (hts _ wq_59) rfl rfl (fun C h => by cases h) hK hP hD hS hA (fun _ => rfl) (by decide) (by decide) (by decide) (Nat.le_of_ble_eq_true rfl) (Nat.le_of_ble_eq_true rfl) d_T_init_43 (fun q43 H hP hD hS => ?_)
  have hP : va_P z.1 vwCl ([(h0, .inr (1, [.ref q7, .ref q15, .ref q23, .ref q33, .null, .int 0])), (q7, .inl (zZ z, 32, .inl (fun _ => 0))), (q15, .inl (zI z, 32, .inl (fun _ => 0))), (q23, .inl (zI z, 32, .inl (fun _ => 0))), (q33, .inl (zG z, 32, .inr (.inr (.inr (.inr (fun i => some (r33 i))))))), (q43, .inl (zI z, 32, .inl (fun _ => 0)))] ++ ((List.range 32).map (fun i => (r33 i, (.inl (zI z, 24, .inl (fun _ => 0)) : va_E))) ++ Rr)) H := hP
  have hD : va_D A0 ([(h0, .inr (1, [.ref q7, .ref q15, .ref q23, .ref q33, .null, .int 0])), (q7, .inl (zZ z, 32, .inl (fun _ => 0))), (q15, .inl (zI z, 32, .inl (fun _ => 0))), (q23, .inl (zI z, 32, .inl (fun _ => 0))), (q33, .inl (zG z, 32, .inr (.inr (.inr (.inr (fun i => some (r33 i))))))), (q43, .inl (zI z, 32, .inl (fun _ => 0)))] ++ ((List.range 32).map (fun i => (r33 i, (.inl (zI z, 24, .inl (fun _ => 0)) : va_E))) ++ Rr)) := hD
  refine va_putF (D := z.1) (ci := 1) (v := .ref q43) (ty := .array .int) (C := R_T) (T := F_T) (N := 6) hx hb hts i_T ty_T ty_T_ok n_T hown hK hP hD hS 0 rfl rfl 4 (by decide) (hts _ wq_42) (fun _ h9 => h9) rfl hin rfl (by decide +kernel) rfl rfl (Nat.le_of_ble_eq_true rfl) d_T_init_45 (fun H locs hP hD hS => ?_)
  have hP : va_P z.1 vwCl ([(h0, .inr (1, [.ref q7, .ref q15, .ref q23, .ref q33, .ref q43, .int 0])), (q7, .inl (zZ z, 32, .inl (fun _ => 0))), (q15, .inl (zI z, 32, .inl (fun _ => 0))), (q23, .inl (zI z, 32, .inl (fun _ => 0))), (q33, .inl (zG z, 32, .inr (.inr (.inr (.inr (fun i => some (r33 i))))))), (q43, .inl (zI z, 32, .inl (fun _ => 0)))] ++ ((List.range 32).map (fun i => (r33 i, (.inl (zI z, 24, .inl (fun _ => 0)) : va_E))) ++ Rr)) H := hP
  have hD : va_D A0 ([(h0, .inr (1, [.ref q7, .ref q15, .ref q23, .ref q33, .ref q43, .int 0])), (q7, .inl (zZ z, 32, .inl (fun _ => 0))), (q15, .inl (zI z, 32, .inl (fun _ => 0))), (q23, .inl (zI z, 32, .inl (fun _ => 0))), (q33, .inl (zG z, 32, .inr (.inr (.inr (.inr (fun i => some (r33 i))))))), (q43, .inl (zI z, 32, .inl (fun _ => 0)))] ++ ((List.range 32).map (fun i => (r33 i, (.inl (zI z, 24, .inl (fun _ => 0)) : va_E))) ++ Rr)) := hD
  obtain ⟨A, a0, a1, a2, a3, a4, a5, ar⟩ : ∃ A : Nat → Nat, A 0 = h0 ∧ A 1 = q7 ∧ A 2 = q15 ∧ A 3 = q23 ∧ A 4 = q33 ∧ A 5 = q43 ∧ (fun i => A (6 + i)) = r33 := ⟨fun k => if k < 6 then zad [h0, q7, q15, q23, q33, q43] k else r33 (k - 6), rfl, rfl, rfl, rfl, rfl, rfl, funext (fun i => by show (if 6 + i < 6 then _ else r33 (6 + i - 6)) = _; rw [if_neg (by omega), show 6 + i - 6 = i by omega])⟩
  subst a0 a1 a2 a3 a4 a5 ar
  have hP : va_P z.1 vwCl (tw z A zT0 ++ Rr) H := hP
  have hD : va_D A0 (tw z A zT0 ++ Rr) := hD
  generalize zT0 = S at h hP hD
  unfold fx_T_init at h
  refine lv_aload_n hx hb d_T_init_48 rfl (lv_at hl 0 rfl) ?_
  refine lv_iconst (v := 0) hx hb d_T_init_49 (by decide) ?_
  obtain ⟨S_1, e_1, h⟩ := zz_let h
  refine va_put (D := z.1) (ci := 1) (v := .int (0 : Int32)) (ty := .int) (C := R_T) (T := F_T) (N := 6) hx hb hts i_T ty_T ty_T_ok n_T hown hK hP hD hS 0 rfl rfl 5 (by decide) (hts _ wq_43) (fun _ h9 => h9) rfl (by decide +kernel) rfl rfl (Nat.le_of_ble_eq_true rfl) d_T_init_50 (fun H locs hP hD hS => ?_)
  have hP : va_P z.1 vwCl (tw z A S_1 ++ Rr) H := by rw [e_1]; exact hP
  have hD : va_D A0 (tw z A S_1 ++ Rr) := by rw [e_1]; exact hD
  refine lv_iconst (v := 0) hx hb d_T_init_53 (by decide) ?_
  refine lv_istore_n (lv' := [(1, .int (0 : Int32)), (0, .ref (A 0))]) hx hb d_T_init_54 rfl hl (by decide) rfl (fun ls hl => ?_)
  replace h := zz_bL2 h
  obtain ⟨x_12, v1_12, S_12, e_12, h⟩ := h
  refine lp_T_init_L55 hM hA n _ _ _ e_12 ?_ _ _ _ hP hD hS (lv_sub hl [1, 0] rfl)
  intro H locs ls hP hD hS hl
  have hl : lv_has ls 2 [(0, .ref (A 0)), (1, .int v1_12)] := hl
  have hP : va_P z.1 vwCl (tw z A S_12 ++ Rr) H := hP
  have hD : va_D A0 (tw z A S_12 ++ Rr) := hD
  replace h := zz_grd h
  obtain ⟨c_12, h⟩ := h
  subst c_12
  refine W.eq (g2 := F0 m 97 ls []) rfl ?_
  refine lv_aload_n hx hb d_T_init_97 rfl (lv_at hl 0 rfl) ?_
  refine va_get (D := z.1) (ci := 1) (v := .ref (A 5)) (C := R_T) (T := F_T) (N := 6) hx hb hts i_T hown hK hP 0 rfl rfl 4 (by decide) (hts _ wq_42) (fun _ h9 => h9) rfl d_T_init_98 ?_
  refine lv_iconst (v := 0) hx hb d_T_init_101 (by decide) ?_
  refine lv_iconst (v := 0) hx hb d_T_init_102 (by decide) ?_
  obtain ⟨r_13, e_13, h⟩ := zz_bind1 h
  refine zz_goI (zz_runS (As := [.int (0 : Int32)]) (rest := [.int (0 : Int32), .ref (A 5)]) (k_T_bit l z _ n _ _ e_13) ⟨hx, hb, hml, hown, hts⟩ (va_cwS 1 hts (zz_gS wq_35 wq_36 wq_2 wq_37) rfl rfl rfl (by decide +kernel) ⟨Nat.le_of_ble_eq_true rfl, Nat.le_of_ble_eq_true rfl⟩) hK hN hP hD rfl hl.1 rfl (Nat.le_of_ble_eq_true rfl) d_T_init_103 ⟨Nat.le_of_ble_eq_true rfl, Nat.le_of_ble_eq_true rfl⟩) hD hS hA (fun H locs hP hD hS => ?_)
  refine lv_iconst (v := 1) hx hb d_T_init_106 (by decide) ?_
  obtain ⟨r_14, e_14, h⟩ := zz_bind1 h
  refine zz_goI (zz_runS (As := [.int (1 : Int32)]) (rest := [.int r_13, .int (0 : Int32), .ref (A 5)]) (k_T_bit l z _ n _ _ e_14) ⟨hx, hb, hml, hown, hts⟩ (va_cwS 1 hts (zz_gS wq_35 wq_36 wq_2 wq_37) rfl rfl rfl (by decide +kernel) ⟨Nat.le_of_ble_eq_true rfl, Nat.le_of_ble_eq_true rfl⟩) hK hN hP hD rfl hl.1 rfl (Nat.le_of_ble_eq_true rfl) d_T_init_107 ⟨Nat.le_of_ble_eq_true rfl, Nat.le_of_ble_eq_true rfl⟩) hD hS hA (fun H locs hP hD hS => ?_)
  refine lv_ior hx hb d_T_init_110 ?_
  obtain ⟨c_15, h⟩ := zz_oob h
  obtain ⟨S_16, e_16, h⟩ := zz_let h
  refine va_iast hx hb hK hP hD hS 5 0 rfl rfl c_15 d_T_init_111 (fun H locs hP hD hS => ?_)
  have hP : va_P z.1 vwCl (tw z A S_16 ++ Rr) H := by rw [e_16]; exact hP
  have hD : va_D A0 (tw z A S_16 ++ Rr) := by rw [e_16]; exact hD
  cases h
  exact zz_vretE hx hb hr hlocks ⟨A, rfl, rfl⟩ hP hD hS (Nat.le_of_ble_eq_true rfl) (Nat.le_of_ble_eq_true rfl) d_T_init_112
end
section
abbrev b_X_init : ByteArray := prog_1_method_1_code
abbrev y_X_init : MethodName := ⟨"MemberChooser", "<init>", "()V"⟩
abbrev w_X_init : List Cond := Cond.code y_X_init b_X_init 1 none :: zTb
theorem d_X_init_0 : decode b_X_init 0 = .ok (.aload_n 0, 1) := by decide +kernel
theorem d_X_init_1 : decode b_X_init 1 = .ok (.invokespecial 1, 3) := by decide +kernel
theorem d_X_init_4 : decode b_X_init 4 = .ok (.aload_n 0, 1) := by decide +kernel
theorem d_X_init_5 : decode b_X_init 5 = .ok (.new 7, 3) := by decide +kernel
theorem d_X_init_8 : decode b_X_init 8 = .ok (.dup, 1) := by decide +kernel
theorem d_X_init_9 : decode b_X_init 9 = .ok (.invokespecial 9, 3) := by decide +kernel
theorem d_X_init_12 : decode b_X_init 12 = .ok (.putfield 10, 3) := by decide +kernel
theorem d_X_init_15 : decode b_X_init 15 = .ok (.aload_n 0, 1) := by decide +kernel
theorem d_X_init_16 : decode b_X_init 16 = .ok (.new 16, 3) := by decide +kernel
theorem d_X_init_19 : decode b_X_init 19 = .ok (.dup, 1) := by decide +kernel
theorem d_X_init_20 : decode b_X_init 20 = .ok (.invokespecial 18, 3) := by decide +kernel
theorem d_X_init_23 : decode b_X_init 23 = .ok (.putfield 19, 3) := by decide +kernel
theorem d_X_init_26 : decode b_X_init 26 = .ok (.aload_n 0, 1) := by decide +kernel
theorem d_X_init_27 : decode b_X_init 27 = .ok (.new 23, 3) := by decide +kernel
theorem d_X_init_30 : decode b_X_init 30 = .ok (.dup, 1) := by decide +kernel
theorem d_X_init_31 : decode b_X_init 31 = .ok (.aload_n 0, 1) := by decide +kernel
theorem d_X_init_32 : decode b_X_init 32 = .ok (.getfield 10, 3) := by decide +kernel
theorem d_X_init_35 : decode b_X_init 35 = .ok (.aload_n 0, 1) := by decide +kernel
theorem d_X_init_36 : decode b_X_init 36 = .ok (.getfield 19, 3) := by decide +kernel
theorem d_X_init_39 : decode b_X_init 39 = .ok (.invokespecial 25, 3) := by decide +kernel
theorem d_X_init_42 : decode b_X_init 42 = .ok (.putfield 28, 3) := by decide +kernel
theorem d_X_init_45 : decode b_X_init 45 = .ok (.aload_n 0, 1) := by decide +kernel
theorem d_X_init_46 : decode b_X_init 46 = .ok (.new 32, 3) := by decide +kernel
theorem d_X_init_49 : decode b_X_init 49 = .ok (.dup, 1) := by decide +kernel
theorem d_X_init_50 : decode b_X_init 50 = .ok (.invokespecial 34, 3) := by decide +kernel
theorem d_X_init_53 : decode b_X_init 53 = .ok (.putfield 35, 3) := by decide +kernel
theorem d_X_init_56 : decode b_X_init 56 = .ok (.aload_n 0, 1) := by decide +kernel
theorem d_X_init_57 : decode b_X_init 57 = .ok (.iconst 0, 1) := by decide +kernel
theorem d_X_init_58 : decode b_X_init 58 = .ok (.putfield 39, 3) := by decide +kernel
theorem d_X_init_61 : decode b_X_init 61 = .ok (.aload_n 0, 1) := by decide +kernel
theorem d_X_init_62 : decode b_X_init 62 = .ok (.iconst 0, 1) := by decide +kernel
theorem d_X_init_63 : decode b_X_init 63 = .ok (.putfield 43, 3) := by decide +kernel
theorem d_X_init_66 : decode b_X_init 66 = .ok (.return_, 1) := by decide +kernel
def zS0 (S' : ZT) : ZC := (S', zM0, zH0, zK0, (0, 0))
theorem cw_split {z : zE} {A : Nat → Nat} {S : ZC} : cw z A S = [(A 0, .inr (0, [.ref (A 17), .ref (A 11), .ref (A 7), .ref (A 1), .int (xWk S), .int (xFk S)]))] ++ (kw z (fun k => A (1 + k)) S.2.2.2.1 ++ (hw z (fun k => A (7 + k)) (A 17) (A 11) S.2.2.1 ++ (mw z (fun k => A (11 + k)) S.2.1 ++ tw z (fun k => A (17 + k)) S.1))) := by
  have e : (List.range 32).map (fun i => (A (23 + i), (.inl (zI z, 24, .inl (tGr S i)) : va_E))) = (List.range 32).map (fun i => (A (17 + (6 + i)), (.inl (zI z, 24, .inl (uGr S.1 i)) : va_E))) := List.map_congr_left (fun i _ => by rw [← Nat.add_assoc])
  have e2 : (fun i => some (A (23 + i))) = (fun i => some (A (17 + (6 + i)))) := funext (fun i => by rw [← Nat.add_assoc])
  unfold cw
  rw [e, e2]
  rfl
abbrev rm_X_init : Room := { frames := 3, cells := 54, slots := 2038, locals := 90 }
set_option maxRecDepth 100000 in
set_option maxHeartbeats 4000000 in
theorem k_X_init (l : Launch) (z : zE) (Rr : va_W) (h0 n : Nat) (S' : ZT) (hT : fx_T_init n zT0 = some S') : zCe z l y_X_init w_X_init rm_X_init [.ref h0] ([(h0, .inr (0, [.null, .null, .null, .null, .int 0, .int 0]))] ++ Rr) none (fun w' => ∃ A : Nat → Nat, A 0 = h0 ∧ w' = cw z A (zS0 S') ++ Rr) 54 2038 := by
  refine zz_ofE (by decide) (Nat.le_of_ble_eq_true rfl) ?_
  intro p e s m args below meth c A0 ls hM hO hin hr hlocks hA hP hD hl
  have hM : zM z p s m args c b_X_init 1 R_X := hM
  obtain ⟨hx, hb, hml, hown, hts, hK, hN⟩ := id hM
  have hS : va_S A0 s.heap s.heap [] := va_S.rf
  have hl : lv_has ls 1 [(0, .ref h0)] := hl
  refine lv_aload_n hx hb d_X_init_0 rfl (lv_at hl 0 rfl) ?_
  refine W.objInit hx hb hown (hts _ wq_21) (hts _ wq_22) (hts _ wq_23) rfl (by rw [hml]; exact hl.1) rfl d_X_init_1 (Nat.le_of_ble_eq_true rfl) (Nat.le_of_ble_eq_true rfl) ?_
  refine W.eq (g2 := F0 m 4 ls []) rfl ?_
  refine lv_aload_n hx hb d_X_init_4 rfl (lv_at hl 0 rfl) ?_
  refine va_new (ci := 1) (fs := [.null, .null, .null, .null, .null, .int 0]) (C := R_T) (T := F_T) (N := 6) hx hb hts i_T ty_T ty_T_ok hown (hts _ wq_24) (hts _ wq_25) (hts _ wq_2) hK hP hD hS hA rfl (fun j hj => by rcases (show j = 0 ∨ j = 1 ∨ j = 2 ∨ j = 3 ∨ j = 4 ∨ j = 5 by omega) with rfl | rfl | rfl | rfl | rfl | rfl <;> rfl) (Nat.le_of_ble_eq_true rfl) (Nat.le_of_ble_eq_true rfl) d_X_init_5 (fun qT H hP hD hS => ?_)
  have hP := zz_swP hP
  have hD := zz_swD hD
  refine lv_dup hx hb d_X_init_8 rfl ?_
  refine zz_goE (As := []) (rest := [.ref qT, .ref h0]) (k_T_init l z ([(h0, .inr (0, [.null, .null, .null, .null, .int 0, .int 0]))] ++ Rr) qT n S' hT) ⟨hx, hb, hml, hown, hts⟩ (cwI 0 hts (zz_gC wq_28) rfl rfl rfl (hts _ wq_2) (hts _ wq_26) (hts _ wq_27) rfl (by decide +kernel) ⟨Nat.le_of_ble_eq_true rfl, Nat.le_of_ble_eq_true rfl⟩) hK hN hO hP hD hS hA rfl hl.1 rfl (Nat.le_of_ble_eq_true rfl) d_X_init_9 ⟨Nat.le_of_ble_eq_true rfl, Nat.le_of_ble_eq_true rfl⟩ (fun w' H locs hw hP9 hD9 hS => ?_)
  obtain ⟨AT, eT, rfl⟩ := hw
  subst eT
  have hP := zz_s3P hP9
  have hD := zz_s3D hD9
  clear hP9 hD9
  refine va_putF (D := z.1) (ci := 0) (v := .ref (AT 0)) (ty := .object "MemberChooser$Types") (C := R_X) (T := F_X) (N := 6) hx hb hts i_X ty_X ty_X_ok n_X hown hK hP hD hS 0 rfl rfl 0 (by decide) (hts _ wq_149) (fun _ h9 => h9) rfl hin rfl (by decide +kernel) rfl rfl (Nat.le_of_ble_eq_true rfl) d_X_init_12 (fun H locs hP hD hS => ?_)
  have hP : va_P z.1 vwCl ([(h0, .inr (0, [.ref (AT 0), .null, .null, .null, .int 0, .int 0]))] ++ (tw z AT S' ++ Rr)) H := hP
  have hD : va_D A0 ([(h0, .inr (0, [.ref (AT 0), .null, .null, .null, .int 0, .int 0]))] ++ (tw z AT S' ++ Rr)) := hD
  refine lv_aload_n hx hb d_X_init_15 rfl (lv_at hl 0 rfl) ?_
  refine va_new (ci := 2) (fs := [.null, .null, .null, .null, .null, .int 0]) (C := R_M) (T := F_M) (N := 6) hx hb hts i_M ty_M ty_M_ok hown (hts _ wq_60) (hts _ wq_61) (hts _ wq_3) hK hP hD hS hA rfl (fun j hj => by rcases (show j = 0 ∨ j = 1 ∨ j = 2 ∨ j = 3 ∨ j = 4 ∨ j = 5 by omega) with rfl | rfl | rfl | rfl | rfl | rfl <;> rfl) (Nat.le_of_ble_eq_true rfl) (Nat.le_of_ble_eq_true rfl) d_X_init_16 (fun qM H hP hD hS => ?_)
  have hP := zz_swP hP
  have hD := zz_swD hD
  refine lv_dup hx hb d_X_init_19 rfl ?_
  refine zz_goE (As := []) (rest := [.ref qM, .ref h0]) (k_M_init l z ([(h0, .inr (0, [.ref (AT 0), .null, .null, .null, .int 0, .int 0]))] ++ (tw z AT S' ++ Rr)) qM) ⟨hx, hb, hml, hown, hts⟩ (cwI 0 hts (zz_gC wq_64) rfl rfl rfl (hts _ wq_3) (hts _ wq_62) (hts _ wq_63) rfl (by decide +kernel) ⟨Nat.le_of_ble_eq_true rfl, Nat.le_of_ble_eq_true rfl⟩) hK hN hO hP hD hS hA rfl hl.1 rfl (Nat.le_of_ble_eq_true rfl) d_X_init_20 ⟨Nat.le_of_ble_eq_true rfl, Nat.le_of_ble_eq_true rfl⟩ (fun w' H locs hw hP9 hD9 hS => ?_)
  obtain ⟨AM, eM, rfl⟩ := hw
  subst eM
  have hP := zz_s3P hP9
  have hD := zz_s3D hD9
  clear hP9 hD9
  refine va_putF (D := z.1) (ci := 0) (v := .ref (AM 0)) (ty := .object "MemberChooser$Members") (C := R_X) (T := F_X) (N := 6) hx hb hts i_X ty_X ty_X_ok n_X hown hK hP hD hS 0 rfl rfl 1 (by decide) (hts _ wq_150) (fun _ h9 => h9) rfl hin rfl (by decide +kernel) rfl rfl (Nat.le_of_ble_eq_true rfl) d_X_init_23 (fun H locs hP hD hS => ?_)
  have hP : va_P z.1 vwCl ([(h0, .inr (0, [.ref (AT 0), .ref (AM 0), .null, .null, .int 0, .int 0]))] ++ (mw z AM zM0 ++ (tw z AT S' ++ Rr))) H := hP
  have hD : va_D A0 ([(h0, .inr (0, [.ref (AT 0), .ref (AM 0), .null, .null, .int 0, .int 0]))] ++ (mw z AM zM0 ++ (tw z AT S' ++ Rr))) := hD
  refine lv_aload_n hx hb d_X_init_26 rfl (lv_at hl 0 rfl) ?_
  refine va_new (ci := 3) (fs := [.null, .null, .null, .null, .null, .int 0, .int 0, .int 0]) (C := R_H) (T := F_H) (N := 8) hx hb hts i_H ty_H ty_H_ok hown (hts _ wq_90) (hts _ wq_91) (hts _ wq_4) hK hP hD hS hA rfl (fun j hj => by rcases (show j = 0 ∨ j = 1 ∨ j = 2 ∨ j = 3 ∨ j = 4 ∨ j = 5 ∨ j = 6 ∨ j = 7 by omega) with rfl | rfl | rfl | rfl | rfl | rfl | rfl | rfl <;> rfl) (Nat.le_of_ble_eq_true rfl) (Nat.le_of_ble_eq_true rfl) d_X_init_27 (fun qH H hP hD hS => ?_)
  have hP := zz_swP hP
  have hD := zz_swD hD
  refine lv_dup hx hb d_X_init_30 rfl ?_
  refine lv_aload_n hx hb d_X_init_31 rfl (lv_at hl 0 rfl) ?_
  refine va_get (D := z.1) (ci := 0) (v := .ref (AT 0)) (C := R_X) (T := F_X) (N := 6) hx hb hts i_X hown hK hP 1 rfl rfl 0 (by decide) (hts _ wq_149) (fun _ h9 => h9) rfl d_X_init_32 ?_
  refine lv_aload_n hx hb d_X_init_35 rfl (lv_at hl 0 rfl) ?_
  refine va_get (D := z.1) (ci := 0) (v := .ref (AM 0)) (C := R_X) (T := F_X) (N := 6) hx hb hts i_X hown hK hP 1 rfl rfl 1 (by decide) (hts _ wq_150) (fun _ h9 => h9) rfl d_X_init_36 ?_
  refine zz_goE (As := [.ref (AT 0), .ref (AM 0)]) (rest := [.ref qH, .ref h0]) (k_H_init l z ([(h0, .inr (0, [.ref (AT 0), .ref (AM 0), .null, .null, .int 0, .int 0]))] ++ (mw z AM zM0 ++ (tw z AT S' ++ Rr))) qH (AT 0) (AM 0)) ⟨hx, hb, hml, hown, hts⟩ (cwI 2 hts (zz_gC wq_94) rfl rfl rfl (hts _ wq_4) (hts _ wq_92) (hts _ wq_93) rfl (by decide +kernel) ⟨Nat.le_of_ble_eq_true rfl, Nat.le_of_ble_eq_true rfl⟩) hK hN hO hP hD hS hA rfl hl.1 rfl (Nat.le_of_ble_eq_true rfl) d_X_init_39 ⟨Nat.le_of_ble_eq_true rfl, Nat.le_of_ble_eq_true rfl⟩ (fun w' H locs hw hP9 hD9 hS => ?_)
  obtain ⟨AH, eH, rfl⟩ := hw
  subst eH
  have hP := zz_s3P hP9
  have hD := zz_s3D hD9
  clear hP9 hD9
  refine va_putF (D := z.1) (ci := 0) (v := .ref (AH 0)) (ty := .object "MemberChooser$Chooser") (C := R_X) (T := F_X) (N := 6) hx hb hts i_X ty_X ty_X_ok n_X hown hK hP hD hS 0 rfl rfl 2 (by decide) (hts _ wq_151) (fun _ h9 => h9) rfl hin rfl (by decide +kernel) rfl rfl (Nat.le_of_ble_eq_true rfl) d_X_init_42 (fun H locs hP hD hS => ?_)
  have hP : va_P z.1 vwCl ([(h0, .inr (0, [.ref (AT 0), .ref (AM 0), .ref (AH 0), .null, .int 0, .int 0]))] ++ (hw z AH (AT 0) (AM 0) zH0 ++ (mw z AM zM0 ++ (tw z AT S' ++ Rr)))) H := hP
  have hD : va_D A0 ([(h0, .inr (0, [.ref (AT 0), .ref (AM 0), .ref (AH 0), .null, .int 0, .int 0]))] ++ (hw z AH (AT 0) (AM 0) zH0 ++ (mw z AM zM0 ++ (tw z AT S' ++ Rr)))) := hD
  refine lv_aload_n hx hb d_X_init_45 rfl (lv_at hl 0 rfl) ?_
  refine va_new (ci := 4) (fs := [.null, .null, .null, .null, .null, .int 0]) (C := R_K) (T := F_K) (N := 6) hx hb hts i_K ty_K ty_K_ok hown (hts _ wq_122) (hts _ wq_123) (hts _ wq_5) hK hP hD hS hA rfl (fun j hj => by rcases (show j = 0 ∨ j = 1 ∨ j = 2 ∨ j = 3 ∨ j = 4 ∨ j = 5 by omega) with rfl | rfl | rfl | rfl | rfl | rfl <;> rfl) (Nat.le_of_ble_eq_true rfl) (Nat.le_of_ble_eq_true rfl) d_X_init_46 (fun qK H hP hD hS => ?_)
  have hP := zz_swP hP
  have hD := zz_swD hD
  refine lv_dup hx hb d_X_init_49 rfl ?_
  refine zz_goE (As := []) (rest := [.ref qK, .ref h0]) (k_K_init l z ([(h0, .inr (0, [.ref (AT 0), .ref (AM 0), .ref (AH 0), .null, .int 0, .int 0]))] ++ (hw z AH (AT 0) (AM 0) zH0 ++ (mw z AM zM0 ++ (tw z AT S' ++ Rr)))) qK) ⟨hx, hb, hml, hown, hts⟩ (cwI 0 hts (zz_gC wq_126) rfl rfl rfl (hts _ wq_5) (hts _ wq_124) (hts _ wq_125) rfl (by decide +kernel) ⟨Nat.le_of_ble_eq_true rfl, Nat.le_of_ble_eq_true rfl⟩) hK hN hO hP hD hS hA rfl hl.1 rfl (Nat.le_of_ble_eq_true rfl) d_X_init_50 ⟨Nat.le_of_ble_eq_true rfl, Nat.le_of_ble_eq_true rfl⟩ (fun w' H locs hw hP9 hD9 hS => ?_)
  obtain ⟨AK, eK, rfl⟩ := hw
  subst eK
  have hP := zz_s3P hP9
  have hD := zz_s3D hD9
  clear hP9 hD9
  refine va_putF (D := z.1) (ci := 0) (v := .ref (AK 0)) (ty := .object "MemberChooser$KeptCalls") (C := R_X) (T := F_X) (N := 6) hx hb hts i_X ty_X ty_X_ok n_X hown hK hP hD hS 0 rfl rfl 3 (by decide) (hts _ wq_152) (fun _ h9 => h9) rfl hin rfl (by decide +kernel) rfl rfl (Nat.le_of_ble_eq_true rfl) d_X_init_53 (fun H locs hP hD hS => ?_)
  have hP : va_P z.1 vwCl ([(h0, .inr (0, [.ref (AT 0), .ref (AM 0), .ref (AH 0), .ref (AK 0), .int 0, .int 0]))] ++ (kw z AK zK0 ++ (hw z AH (AT 0) (AM 0) zH0 ++ (mw z AM zM0 ++ (tw z AT S' ++ Rr))))) H := hP
  have hD : va_D A0 ([(h0, .inr (0, [.ref (AT 0), .ref (AM 0), .ref (AH 0), .ref (AK 0), .int 0, .int 0]))] ++ (kw z AK zK0 ++ (hw z AH (AT 0) (AM 0) zH0 ++ (mw z AM zM0 ++ (tw z AT S' ++ Rr))))) := hD
  refine lv_aload_n hx hb d_X_init_56 rfl (lv_at hl 0 rfl) ?_
  refine lv_iconst (v := 0) hx hb d_X_init_57 (by decide) ?_
  refine va_put (D := z.1) (ci := 0) (v := .int 0) (ty := .int) (C := R_X) (T := F_X) (N := 6) hx hb hts i_X ty_X ty_X_ok n_X hown hK hP hD hS 0 rfl rfl 4 (by decide) (hts _ wq_153) (fun _ h9 => h9) rfl (by decide +kernel) rfl rfl (Nat.le_of_ble_eq_true rfl) d_X_init_58 (fun H locs hP hD hS => ?_)
  have hP : va_P z.1 vwCl ([(h0, .inr (0, [.ref (AT 0), .ref (AM 0), .ref (AH 0), .ref (AK 0), .int 0, .int 0]))] ++ (kw z AK zK0 ++ (hw z AH (AT 0) (AM 0) zH0 ++ (mw z AM zM0 ++ (tw z AT S' ++ Rr))))) H := hP
  have hD : va_D A0 ([(h0, .inr (0, [.ref (AT 0), .ref (AM 0), .ref (AH 0), .ref (AK 0), .int 0, .int 0]))] ++ (kw z AK zK0 ++ (hw z AH (AT 0) (AM 0) zH0 ++ (mw z AM zM0 ++ (tw z AT S' ++ Rr))))) := hD
  refine lv_aload_n hx hb d_X_init_61 rfl (lv_at hl 0 rfl) ?_
  refine lv_iconst (v := 0) hx hb d_X_init_62 (by decide) ?_
  refine va_put (D := z.1) (ci := 0) (v := .int 0) (ty := .int) (C := R_X) (T := F_X) (N := 6) hx hb hts i_X ty_X ty_X_ok n_X hown hK hP hD hS 0 rfl rfl 5 (by decide) (hts _ wq_154) (fun _ h9 => h9) rfl (by decide +kernel) rfl rfl (Nat.le_of_ble_eq_true rfl) d_X_init_63 (fun H locs hP hD hS => ?_)
  have hP : va_P z.1 vwCl ([(h0, .inr (0, [.ref (AT 0), .ref (AM 0), .ref (AH 0), .ref (AK 0), .int 0, .int 0]))] ++ (kw z AK zK0 ++ (hw z AH (AT 0) (AM 0) zH0 ++ (mw z AM zM0 ++ (tw z AT S' ++ Rr))))) H := hP
  have hD : va_D A0 ([(h0, .inr (0, [.ref (AT 0), .ref (AM 0), .ref (AH 0), .ref (AK 0), .int 0, .int 0]))] ++ (kw z AK zK0 ++ (hw z AH (AT 0) (AM 0) zH0 ++ (mw z AM zM0 ++ (tw z AT S' ++ Rr))))) := hD
  have ew : ([(h0, .inr (0, [.ref (AT 0), .ref (AM 0), .ref (AH 0), .ref (AK 0), .int 0, .int 0]))] ++ (kw z AK zK0 ++ (hw z AH (AT 0) (AM 0) zH0 ++ (mw z AM zM0 ++ (tw z AT S' ++ Rr))))) = cw z (fun k => if k < 1 then h0 else if k < 7 then AK (k - 1) else if k < 11 then AH (k - 7) else if k < 17 then AM (k - 11) else AT (k - 17)) (zS0 S') ++ Rr := by
    rw [cw_split]
    have eT : (fun k => (fun k => if k < 1 then h0 else if k < 7 then AK (k - 1) else if k < 11 then AH (k - 7) else if k < 17 then AM (k - 11) else AT (k - 17)) (17 + k)) = AT := funext (fun k => by show (if 17 + k < 1 then _ else if 17 + k < 7 then _ else if 17 + k < 11 then _ else if 17 + k < 17 then _ else AT (17 + k - 17)) = _; rw [if_neg (by omega), if_neg (by omega), if_neg (by omega), if_neg (by omega), show 17 + k - 17 = k by omega])
    rw [eT]
    simp only [List.append_assoc]
    rfl
  rw [ew] at hP hD
  exact zz_vretE hx hb hr hlocks ⟨_, rfl, rfl⟩ hP hD hS (Nat.le_of_ble_eq_true rfl) (Nat.le_of_ble_eq_true rfl) d_X_init_66
end
