/-! ===== what the machine's tables say, by the places where they say it ===== -/
def aAt (i : Nat) (w : Cond) : Bool := decide (lw_tbl[i]? = some w) && goodWord w
theorem aAt_mem {i : Nat} {w : Cond} (h : aAt i w = true) : w ∈ aTs := by
  simp only [aAt, Bool.and_eq_true, decide_eq_true_eq] at h
  exact List.mem_filter.mpr ⟨List.mem_of_getElem? h.1, h.2⟩
theorem aTs_good : GoodIn aTs aTs := fun w h => ⟨h, good_of_word (List.mem_filter.mp h).2⟩
theorem aTs_of {args : Array Value} {s : State} (h : ∀ w ∈ lw_tbl, w.before args s = true) : ∀ w ∈ aTs, w.before args s = true := fun w hw => h w (List.mem_filter.mp hw).1
def aOkF (q : Nat × Nat × Nat × Nat × Nat) : Bool := aAt (q.2.2.2.2 + 141) (.fieldLink (aCn q.1) q.2.1 (aCn q.2.2.1) (aF q.2.2.1 q.2.2.2.1).1 (aF q.2.2.1 q.2.2.2.1).2.1) && (Nat.blt q.2.2.1 13 && Nat.blt q.2.2.2.1 (aNf q.2.2.1))
theorem aOkF_0 : (aFL.take 100).all aOkF = true := by decide +kernel
theorem aOkF_1 : ((aFL.drop 100).take 100).all aOkF = true := by decide +kernel
theorem aOkF_2 : (aFL.drop 200).all aOkF = true := by decide +kernel
theorem aOkF_all : ∀ q ∈ aFL, aOkF q = true := by
  intro q hq
  rw [← List.take_append_drop 100 aFL, List.mem_append] at hq
  rcases hq with hq | hq
  · exact List.all_eq_true.mp aOkF_0 q hq
  · rw [← List.take_append_drop 100 (aFL.drop 100), List.mem_append] at hq
    rcases hq with hq | hq
    · exact List.all_eq_true.mp aOkF_1 q hq
    · rw [List.drop_drop] at hq
      exact List.all_eq_true.mp aOkF_2 q hq
theorem aHasF_ok {a b c k : Nat} (h : aHasF a b c k = true) : (Cond.fieldLink (aCn a) b (aCn c) (aF c k).1 (aF c k).2.1) ∈ aTs ∧ c < 13 ∧ k < aNf c := by
  obtain ⟨q, hq, h2⟩ := List.any_eq_true.mp h
  simp only [Bool.and_eq_true] at h2
  obtain ⟨e1, e2, e3, e4⟩ := h2
  have h3 := aOkF_all q hq
  simp only [aOkF, Bool.and_eq_true] at h3
  rw [Nat.eq_of_beq_eq_true e1, Nat.eq_of_beq_eq_true e2, Nat.eq_of_beq_eq_true e3, Nat.eq_of_beq_eq_true e4] at h3
  exact ⟨aAt_mem h3.1, Nat.le_of_ble_eq_true h3.2.1, Nat.le_of_ble_eq_true h3.2.2⟩
def aSpec (m : Nat) : MethodName := match m with
  | 1001 => ⟨"java/lang/String", "length", "()I"⟩
  | 1002 => ⟨"java/lang/String", "charAt", "(I)C"⟩
  | 1003 => arraycopyName
  | 1004 => Lib.objectInit
  | m => aNm m
def aOkM (q : Nat × Nat × Nat × Nat) : Bool := aAt (q.2.2.2 + 141) (.methodLink (aCn q.1) q.2.1 (aSpec q.2.2.1))
theorem aOkM_0 : (aML.take 120).all aOkM = true := by decide +kernel
theorem aOkM_1 : ((aML.drop 120).take 120).all aOkM = true := by decide +kernel
theorem aOkM_2 : (aML.drop 240).all aOkM = true := by decide +kernel
theorem aOkM_all : ∀ q ∈ aML, aOkM q = true := by
  intro q hq
  rw [← List.take_append_drop 120 aML, List.mem_append] at hq
  rcases hq with hq | hq
  · exact List.all_eq_true.mp aOkM_0 q hq
  · rw [← List.take_append_drop 120 (aML.drop 120), List.mem_append] at hq
    rcases hq with hq | hq
    · exact List.all_eq_true.mp aOkM_1 q hq
    · rw [List.drop_drop] at hq
      exact List.all_eq_true.mp aOkM_2 q hq
theorem aHas4_in {t : List (Nat × Nat × Nat × Nat)} {a b c : Nat} (h : aHas4 t a b c = true) : ∃ q ∈ t, q.1 = a ∧ q.2.1 = b ∧ q.2.2.1 = c := by
  obtain ⟨q, hq, h2⟩ := List.any_eq_true.mp h
  simp only [Bool.and_eq_true] at h2
  exact ⟨q, hq, Nat.eq_of_beq_eq_true h2.1, Nat.eq_of_beq_eq_true h2.2.1, Nat.eq_of_beq_eq_true h2.2.2⟩
theorem aHasM_ok {a b c : Nat} (h : aHas4 aML a b c = true) : (Cond.methodLink (aCn a) b (aSpec c)) ∈ aTs := by
  obtain ⟨q, hq, rfl, rfl, rfl⟩ := aHas4_in h
  exact aAt_mem (aOkM_all q hq)
def aOkC (q : Nat × Nat × Nat × Nat) : Bool := aAt (q.2.2.2 + 141) (.classLink (aCn q.1) q.2.1 (aCn q.2.2.1))
theorem aOkC_0 : aCL.all aOkC = true := by decide +kernel
theorem aHasC_ok {a b c : Nat} (h : aHas4 aCL a b c = true) : (Cond.classLink (aCn a) b (aCn c)) ∈ aTs := by
  obtain ⟨q, hq, rfl, rfl, rfl⟩ := aHas4_in h
  exact aAt_mem (List.all_eq_true.mp aOkC_0 q hq)
def aOkI (q : Nat × Nat × Int × Nat) : Bool := aAt (q.2.2.2 + 141) (.constant (aCn q.1) q.2.1 (Int32.ofInt q.2.2.1))
theorem aOkI_0 : aCI.all aOkI = true := by decide +kernel
def aOkJ (q : Nat × Nat × Int × Nat) : Bool := aAt (q.2.2.2 + 141) (.constantLong (aCn q.1) q.2.1 (Int64.ofInt q.2.2.1))
theorem aOkJ_0 : aCJ.all aOkJ = true := by decide +kernel
theorem aHasK_in {t : List (Nat × Nat × Int × Nat)} {a b : Nat} {c : Int} (h : aHasC t a b c = true) : ∃ q ∈ t, q.1 = a ∧ q.2.1 = b ∧ q.2.2.1 = c := by
  obtain ⟨q, hq, h2⟩ := List.any_eq_true.mp h
  simp only [Bool.and_eq_true, decide_eq_true_eq] at h2
  exact ⟨q, hq, Nat.eq_of_beq_eq_true h2.1, Nat.eq_of_beq_eq_true h2.2.1, h2.2.2⟩
theorem aHasI_ok {a b : Nat} {c : Int} (h : aHasC aCI a b c = true) : (Cond.constant (aCn a) b (Int32.ofInt c)) ∈ aTs := by
  obtain ⟨q, hq, rfl, rfl, rfl⟩ := aHasK_in h
  exact aAt_mem (List.all_eq_true.mp aOkI_0 q hq)
theorem aHasJ_ok {a b : Nat} {c : Int} (h : aHasC aCJ a b c = true) : (Cond.constantLong (aCn a) b (Int64.ofInt c)) ∈ aTs := by
  obtain ⟨q, hq, rfl, rfl, rfl⟩ := aHasK_in h
  exact aAt_mem (List.all_eq_true.mp aOkJ_0 q hq)
/-- methods -/
def aOkY (m : Nat) : Bool := match aMP[m]?, aMl[m]? with
  | some q, some md => (match q.1 with
    | 0 => (aAt q.2.2.1 (.instanceMethod md.2.1) && aAt q.2.2.2 (.selects md.2.1.cls md.2.1 md.2.1))
    | 1 => aAt q.2.2.1 (.static md.2.1)
    | 2 => (aAt q.2.2.1 (.instanceMethod md.2.1) && (decide (md.2.1.name = "<init>") && Nat.beq md.2.2.2.2.1 0))
    | _ => true) && (decide (md.2.1.cls = aCn md.1) && (plainFor md.2.1 && (Nat.blt md.1 16 && Nat.ble md.2.2.2.1 40)))
  | _, _ => false
theorem aOkY_0 : (List.range 80).all aOkY = true := by decide +kernel
theorem aOkY_1 : (List.range 80).all (fun i => aOkY (80 + i)) = true := by decide +kernel
theorem aOkY_2 : (List.range 80).all (fun i => aOkY (160 + i)) = true := by decide +kernel
theorem aOkY_3 : (List.range 56).all (fun i => aOkY (240 + i)) = true := by decide +kernel
theorem aOkY_all {m : Nat} (h : m < 296) : aOkY m = true := by
  by_cases h1 : m < 80
  · exact List.all_eq_true.mp aOkY_0 m (List.mem_range.mpr h1)
  · by_cases h2 : m < 160
    · have := List.all_eq_true.mp aOkY_1 (m - 80) (List.mem_range.mpr (by omega))
      rwa [show 80 + (m - 80) = m by omega] at this
    · by_cases h3 : m < 240
      · have := List.all_eq_true.mp aOkY_2 (m - 160) (List.mem_range.mpr (by omega))
        rwa [show 160 + (m - 160) = m by omega] at this
      · have := List.all_eq_true.mp aOkY_3 (m - 240) (List.mem_range.mpr (by omega))
        rwa [show 240 + (m - 240) = m by omega] at this
theorem aMl_len : aMl.length = 296 := by decide +kernel
theorem aMP_len : aMP.length = 296 := by decide +kernel
theorem aOkN : (List.range 16).all (fun i => aAt (aIP.getD i 0) (.initialized (aCn i))) = true := by decide +kernel
theorem aOkNs : (List.range 13).all (fun i => aAt (aNP.getD i 0) (.instantiable (aCn i) (aNf i))) = true := by decide +kernel
theorem aInit_ok {i : Nat} (h : i < 16) : Cond.initialized (aCn i) ∈ aTs := aAt_mem (List.all_eq_true.mp aOkN i (List.mem_range.mpr h))
theorem aInst_ok {i : Nat} (h : i < 13) : Cond.instantiable (aCn i) (aNf i) ∈ aTs := aAt_mem (List.all_eq_true.mp aOkNs i (List.mem_range.mpr h))
/-- fields -/
def aTyOk (i k : Nat) : Bool := decide (parseFieldDescriptor (aF i k).2.1 = some (aTy i k)) && (match (aF i k).2.2.2 with
  | 0 => decide (aTy i k = .int)
  | 1 => decide (aTy i k = .boolean)
  | 2 => decide (aTy i k = .long)
  | 3 => (match aTy i k with
    | .object _ => true
    | .array _ => true
    | _ => false)
  | _ => false)
theorem aTy_all : (List.range 13).all (fun i => (List.range (aNf i)).all (aTyOk i)) = true := by decide +kernel
theorem aTy_ok {i k : Nat} (hi : i < 13) (hk : k < aNf i) : aTyOk i k = true := List.all_eq_true.mp (List.all_eq_true.mp aTy_all i (List.mem_range.mpr hi)) k (List.mem_range.mpr hk)
def aNmOk (i : Nat) : Bool := ((aFs i).map fun f => f.1).Nodup
theorem aNm_all : (List.range 13).all aNmOk = true := by decide +kernel
