/-! THE START: what the tables and the Statement give of it -/
theorem kin_all : ∀ c, c < 10 → Cond.instantiable (CN c) (nF c) ∈ wAll := by
  intro c hc
  match c, hc with
  | 0, _ => exact kcl_X8_40.2.1
  | 1, _ => exact kcl_X4_30.2.1
  | 2, _ => exact kcl_X8_26.2.1
  | 3, _ => exact kcl_X4_9.2.1
  | 4, _ => exact kcl_X8_7.2.1
  | 5, _ => exact kcl_X8_33.2.1
  | 6, _ => exact kcl_X8_19.2.1
  | 7, _ => exact kcl_X8_19.2.1
  | 8, _ => exact kcl_L_7.2.1
  | 9, _ => exact kcl_L_10.2.1
  | c + 10, h => omega
theorem kao_page : Cond.arrayOver (.object "TraceRing$Page") ∈ lw_tbl := by decide +kernel
theorem kao_image : Cond.arrayOver (.object "TraceRing$Image") ∈ lw_tbl := by decide +kernel
theorem ksr : ∀ i, i < 14 → Cond.stringRef RX2 (77 + 2 * i) (strT i) ∈ lw_tbl := by decide +kernel
theorem kst_compact : Cond.laysStatic "java/lang/String" "COMPACT_STRINGS" "Z" ∈ lw_tbl := by decide +kernel
theorem kst_sioobe : Cond.laysStatic "jdk/internal/util/Preconditions" "SIOOBE_FORMATTER" "Ljava/util/function/BiFunction;" ∈ lw_tbl := by decide +kernel
theorem kst_ini : Cond.initialized "java/lang/String" ∈ lw_tbl ∧ Cond.initialized "jdk/internal/util/Preconditions" ∈ lw_tbl := by decide +kernel
theorem arr_prim {U : State} {args : Array Value} {ty : FieldType} (h : (Cond.arrayClass ty).before args U = true) (ht : ∀ C, ty ≠ .object C) : ∃ cA : ClassId, ArrOfT U cA ty ∧ va_RA U cA ty := by
  obtain ⟨c, k, comp, h1, h2, h3⟩ := Cond.arrayClass_spec h
  refine ⟨c, fun n z => ⟨fun k h => (by cases h), k, h2, comp, h3⟩, ?_⟩
  cases ty <;> first | exact h1 | exact absurd rfl (ht _)
theorem arr_obj {U : State} {args : Array Value} {E : String} (h : (Cond.arrayOver (.object E)).before args U = true) : ∃ cA : ClassId, ArrOfT U cA (.object E) ∧ va_RA U cA (.object E) := by
  obtain ⟨comp, c, k, h1, h2, h3, h4, h5⟩ := Cond.arrayOver_spec h
  exact ⟨c, fun n z => ⟨fun k h => (by cases h), k, h3, comp, h4⟩, k, comp, h3, h4, h1, h5⟩
theorem start_K {s : State} {args : Array Value} (B : Nat) (hts : ∀ w ∈ lw_tbl, w.before args s = true) : ∃ G : Gx, G.1 = B ∧ wK G s := by
  have hw : ∀ w ∈ wAll, w.before args s = true := fun w h => hts w (List.mem_filter.mp h).1
  have h1 : ∀ c : Nat, ∃ q : ClassId × (Nat → Nat), c < 10 → u_Kn s (CN c) (CT c) (nF c) q.1 q.2 := by
    intro c
    by_cases hc : c < 10
    · obtain ⟨cC, iS, h⟩ := u_known (n := nF c) hw (cl_lay c hc) (hw _ (kin_all c hc))
      exact ⟨(cC, iS), fun _ => h⟩
    · exact ⟨(0, fun _ => 0), fun h => absurd h hc⟩
  obtain ⟨D, hD⟩ := Classical.axiomOfChoice h1
  have h2 : ∀ k : Nat, ∃ cA : ClassId, k < 6 → ArrOfT s cA (aTy (10 + k)) ∧ va_RA s cA (aTy (10 + k)) := by
    intro k
    match k with
    | 0 => obtain ⟨c, h⟩ := arr_prim (hw _ kar_10) (by intro C e; cases e); exact ⟨c, fun _ => h⟩
    | 1 => obtain ⟨c, h⟩ := arr_prim (hw _ kar_11) (by intro C e; cases e); exact ⟨c, fun _ => h⟩
    | 2 => obtain ⟨c, h⟩ := arr_prim (hw _ kar_12) (by intro C e; cases e); exact ⟨c, fun _ => h⟩
    | 3 => obtain ⟨c, h⟩ := arr_prim (hw _ kar_13) (by intro C e; cases e); exact ⟨c, fun _ => h⟩
    | 4 => obtain ⟨c, h⟩ := arr_obj (hts _ kao_image); exact ⟨c, fun _ => h⟩
    | 5 => obtain ⟨c, h⟩ := arr_obj (hts _ kao_page); exact ⟨c, fun _ => h⟩
    | k + 6 => exact ⟨0, fun h => by omega⟩
  obtain ⟨cy, hcy⟩ := Classical.axiomOfChoice h2
  refine ⟨(B, (fun c => (D c).1, fun c => (D c).2), fun k => cy (k - 10)), rfl, fun c q hq => ?_, fun k q hk => ?_⟩
  · have hc : c < 10 := by have := (List.getElem?_eq_some_iff.mp hq).1; simpa [vCl] using this
    rw [cl_get hc] at hq
    cases hq
    exact hD c hc
  · have hk6 : k < 6 := by have := (List.getElem?_eq_some_iff.mp hk).1; simpa [tyL] using this
    rw [tyL_at hk6] at hk
    cases hk
    have e : 10 + k - 10 = k := by omega
    show ArrOfT s (cy (10 + k - 10)) _ ∧ va_RA s (cy (10 + k - 10)) _
    rw [e]
    exact hcy k hk6
theorem start_N {s : State} {args : Array Value} (hts : ∀ w ∈ lw_tbl, w.before args s = true) : wN s := by
  refine ⟨fun w hw hn => ?_, va_AO.of (hts _ kao_page), va_AO.of (hts _ kao_image)⟩
  have h1 := hts w hw
  cases w <;> first | exact va_Nw.of rfl h1 | (simp [isNest] at hn)
def strTm (i : Nat) : Term := .string RX2 (77 + 2 * i)
