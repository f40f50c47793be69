/-! THE LAW: its start; the claim (by gen10.py; the end from the skeleton) -/
set_option maxRecDepth 100000 in
theorem zkn_ok : ([236, 283, 285, 94, 111, 159, 174, 88, 230, 278, 322, 344] : List Nat).map (fun i => lw_tbl[i]?) = zknW.map some := by decide +kernel
theorem zkn_in : ∀ w ∈ zknW, w ∈ lw_tbl := by
  intro w hw
  have h2 : some w ∈ zknW.map some := List.mem_map.mpr ⟨w, hw, rfl⟩
  rw [← zkn_ok] at h2
  obtain ⟨i, -, hi⟩ := List.mem_map.mp h2
  exact List.mem_of_getElem? hi
theorem zkblind9 {av : List Value} {z0 : Nat} {D : va_G} {cl : List vw_C} {ws : va_W} {tys : List (ClassId × FieldType)} {A : Nat → Prop} {C : String} : FrameBlind (va_Pc av (fun U => z0 ≤ U.heap.size ∧ va_P D cl ws U.heap ∧ va_K D cl tys U ∧ va_D A ws ∧ zNw U ∧ va_AO C U)) := fun a U g mk h => by
  obtain ⟨h0, h1, h2, h3, h4, h5, h6⟩ := h
  exact ⟨h0, h1, h2, va_K.moved (u := U) (U := U.calling g mk a) (Vm.Alike.refl U.vm) h3, h4, fun w hw => va_Nw.same (by have := zkn_tab w hw; exact this) (u := U) rfl (h5 w hw), va_AO.moved (u := U) (U := U.calling g mk a) (Vm.Alike.refl U.vm) h6⟩
theorem zK_0 {s : State} {dC : Nat → ClassId} {dI : Nat → Nat → Nat} {cI cZ : ClassId} (hKc : ∀ (k : Nat) (q : vw_C), vwCl[k]? = some q → u_Kn s q.1 q.2.1 q.2.2 (dC k) (dI k)) (h1 : ArrOfT s cI .int ∧ va_RA s cI .int) (h2 : ArrOfT s cZ .boolean ∧ va_RA s cZ .boolean) : va_K (dC, dI) vwCl (zty2 cI cZ) s := by
  refine ⟨hKc, fun k q h => ?_⟩
  match k, h with
  | 0, h => cases h; exact h1
  | 1, h => cases h; exact h2
  | k + 2, h => simp [zty2] at h
def zcel9 (q : Nat → Nat) (cI cZ cS : ClassId) : va_W := [((q 0), .inr (9, [.ref (q 1), .ref (q 20), .int 0, .ref (q 39), .ref (q 40), .ref (q 48), .ref (q 57), .ref (q 59)])), ((q 1), .inr (1, [.ref (q 2), .ref (q 4), .ref (q 11), .ref (q 12), .ref (q 16), .int 0, .int 0])), ((q 2), .inr (8, [.ref (q 3), .int 0])), ((q 3), .inl (cI, 100, .inl (fun _ => 0))), ((q 4), .inr (4, [.ref (q 5), .ref (q 6), .ref (q 7), .ref (q 8), .ref (q 9), .ref (q 10), .int 0, .int 0])), ((q 5), .inl (cI, 8, .inl (fun _ => 0))), ((q 6), .inl (cI, 8, .inl (fun _ => 0))), ((q 7), .inl (cI, 8, .inl (fun _ => 0))), ((q 8), .inl (cI, 8, .inl (fun _ => 0))), ((q 9), .inl (cI, 8, .inl (fun _ => 0))), ((q 10), .inl (cI, 24, .inl (fun _ => 0))), ((q 11), .inr (2, [.int 0, .int 1])), ((q 12), .inr (7, [.ref (q 13), .ref (q 14), .ref (q 15), .int 0])), ((q 13), .inl (cI, 8, .inl (fun _ => 0))), ((q 14), .inl (cI, 8, .inl (fun _ => 0))), ((q 15), .inl (cI, 8, .inl (fun _ => 0))), ((q 16), .inr (7, [.ref (q 17), .ref (q 18), .ref (q 19), .int 0])), ((q 17), .inl (cI, 8, .inl (fun _ => 0))), ((q 18), .inl (cI, 8, .inl (fun _ => 0))), ((q 19), .inl (cI, 8, .inl (fun _ => 0))), ((q 20), .inr (1, [.ref (q 21), .ref (q 23), .ref (q 30), .ref (q 31), .ref (q 35), .int 0, .int 0])), ((q 21), .inr (8, [.ref (q 22), .int 0])), ((q 22), .inl (cI, 100, .inl (fun _ => 0))), ((q 23), .inr (4, [.ref (q 24), .ref (q 25), .ref (q 26), .ref (q 27), .ref (q 28), .ref (q 29), .int 0, .int 0])), ((q 24), .inl (cI, 8, .inl (fun _ => 0))), ((q 25), .inl (cI, 8, .inl (fun _ => 0))), ((q 26), .inl (cI, 8, .inl (fun _ => 0))), ((q 27), .inl (cI, 8, .inl (fun _ => 0))), ((q 28), .inl (cI, 8, .inl (fun _ => 0))), ((q 29), .inl (cI, 24, .inl (fun _ => 0))), ((q 30), .inr (2, [.int 0, .int 1])), ((q 31), .inr (7, [.ref (q 32), .ref (q 33), .ref (q 34), .int 0])), ((q 32), .inl (cI, 8, .inl (fun _ => 0))), ((q 33), .inl (cI, 8, .inl (fun _ => 0))), ((q 34), .inl (cI, 8, .inl (fun _ => 0))), ((q 35), .inr (7, [.ref (q 36), .ref (q 37), .ref (q 38), .int 0])), ((q 36), .inl (cI, 8, .inl (fun _ => 0))), ((q 37), .inl (cI, 8, .inl (fun _ => 0))), ((q 38), .inl (cI, 8, .inl (fun _ => 0))), ((q 39), .inl (cS, 6, .inr (.inr (.inr (.inr (va_up (va_up (va_up (va_up (va_up (va_up (fun _ => none) 0 (some (q 60))) 1 (some (q 66))) 2 (some (q 72))) 3 (some (q 78))) 4 (some (q 84))) 5 (some (q 90)))))))), ((q 40), .inr (5, [.ref (q 41), .ref (q 47), .int 0, .int 0])), ((q 41), .inr (6, [.ref (q 42), .ref (q 43), .ref (q 44), .ref (q 45), .ref (q 46), .int 0, .int 0])), ((q 42), .inl (cI, 10, .inl (fun _ => 0))), ((q 43), .inl (cI, 10, .inl (fun _ => 0))), ((q 44), .inl (cI, 10, .inl (fun _ => 0))), ((q 45), .inl (cI, 100, .inl (fun _ => 0))), ((q 46), .inl (cI, 5, .inl (fun _ => 0))), ((q 47), .inl (cI, 0, .inl (fun _ => 0))), ((q 48), .inr (3, [.ref (q 49), .int 0, .int 0, .ref (q 50), .int 0, .int 0, .int 0, .int 0, .int 0, .int 0])), ((q 49), .inr (2, [.int 0, .int 1])), ((q 50), .inr (4, [.ref (q 51), .ref (q 52), .ref (q 53), .ref (q 54), .ref (q 55), .ref (q 56), .int 0, .int 0])), ((q 51), .inl (cI, 8, .inl (fun _ => 0))), ((q 52), .inl (cI, 8, .inl (fun _ => 0))), ((q 53), .inl (cI, 8, .inl (fun _ => 0))), ((q 54), .inl (cI, 8, .inl (fun _ => 0))), ((q 55), .inl (cI, 8, .inl (fun _ => 0))), ((q 56), .inl (cI, 24, .inl (fun _ => 0))), ((q 57), .inr (0, [.ref (q 58), .int 0, .int 0, .int 0, .int 0])), ((q 58), .inl (cI, 20, .inl (fun _ => 0))), ((q 59), .inl (cZ, 100, .inl (fun _ => 0))), ((q 60), .inr (6, [.ref (q 61), .ref (q 62), .ref (q 63), .ref (q 64), .ref (q 65), .int 0, .int 0])), ((q 61), .inl (cI, 10, .inl (fun _ => 0))), ((q 62), .inl (cI, 10, .inl (fun _ => 0))), ((q 63), .inl (cI, 10, .inl (fun _ => 0))), ((q 64), .inl (cI, 100, .inl (fun _ => 0))), ((q 65), .inl (cI, 5, .inl (fun _ => 0))), ((q 66), .inr (6, [.ref (q 67), .ref (q 68), .ref (q 69), .ref (q 70), .ref (q 71), .int 0, .int 0])), ((q 67), .inl (cI, 10, .inl (fun _ => 0))), ((q 68), .inl (cI, 10, .inl (fun _ => 0))), ((q 69), .inl (cI, 10, .inl (fun _ => 0))), ((q 70), .inl (cI, 100, .inl (fun _ => 0))), ((q 71), .inl (cI, 5, .inl (fun _ => 0))), ((q 72), .inr (6, [.ref (q 73), .ref (q 74), .ref (q 75), .ref (q 76), .ref (q 77), .int 0, .int 0])), ((q 73), .inl (cI, 10, .inl (fun _ => 0))), ((q 74), .inl (cI, 10, .inl (fun _ => 0))), ((q 75), .inl (cI, 10, .inl (fun _ => 0))), ((q 76), .inl (cI, 100, .inl (fun _ => 0))), ((q 77), .inl (cI, 5, .inl (fun _ => 0))), ((q 78), .inr (6, [.ref (q 79), .ref (q 80), .ref (q 81), .ref (q 82), .ref (q 83), .int 0, .int 0])), ((q 79), .inl (cI, 10, .inl (fun _ => 0))), ((q 80), .inl (cI, 10, .inl (fun _ => 0))), ((q 81), .inl (cI, 10, .inl (fun _ => 0))), ((q 82), .inl (cI, 100, .inl (fun _ => 0))), ((q 83), .inl (cI, 5, .inl (fun _ => 0))), ((q 84), .inr (6, [.ref (q 85), .ref (q 86), .ref (q 87), .ref (q 88), .ref (q 89), .int 0, .int 0])), ((q 85), .inl (cI, 10, .inl (fun _ => 0))), ((q 86), .inl (cI, 10, .inl (fun _ => 0))), ((q 87), .inl (cI, 10, .inl (fun _ => 0))), ((q 88), .inl (cI, 100, .inl (fun _ => 0))), ((q 89), .inl (cI, 5, .inl (fun _ => 0))), ((q 90), .inr (6, [.ref (q 91), .ref (q 92), .ref (q 93), .ref (q 94), .ref (q 95), .int 0, .int 0])), ((q 91), .inl (cI, 10, .inl (fun _ => 0))), ((q 92), .inl (cI, 10, .inl (fun _ => 0))), ((q 93), .inl (cI, 10, .inl (fun _ => 0))), ((q 94), .inl (cI, 100, .inl (fun _ => 0))), ((q 95), .inl (cI, 5, .inl (fun _ => 0)))]
set_option maxHeartbeats 4000000 in
set_option maxRecDepth 100000 in
theorem zc9_ex {u : ClassId × va_W} {h0 : Nat} {cI cZ : ClassId} (h : ∃ q1 q2 q3 q4 q5 q6 q7 q8 q9 q10 q11 q12 q13 q14 q15 q16 q17 q18 q19 q20 q21 q22 q23 q24 q25 q26 q27 q28 q29 q30 q31 q32 q33 q34 q35 q36 q37 q38 q39 q40 q41 q42 q43 q44 q45 q46 q47 q48 q49 q50 q51 q52 q53 q54 q55 q56 q57 q58 q59 q60 q61 q62 q63 q64 q65 q66 q67 q68 q69 q70 q71 q72 q73 q74 q75 q76 q77 q78 q79 q80 q81 q82 q83 q84 q85 q86 q87 q88 q89 q90 q91 q92 q93 q94 q95 : Nat, u.2 = [(h0, .inr (9, [.ref q1, .ref q20, .int 0, .ref q39, .ref q40, .ref q48, .ref q57, .ref q59])), (q1, .inr (1, [.ref q2, .ref q4, .ref q11, .ref q12, .ref q16, .int 0, .int 0])), (q2, .inr (8, [.ref q3, .int 0])), (q3, .inl (cI, 100, .inl (fun _ => 0))), (q4, .inr (4, [.ref q5, .ref q6, .ref q7, .ref q8, .ref q9, .ref q10, .int 0, .int 0])), (q5, .inl (cI, 8, .inl (fun _ => 0))), (q6, .inl (cI, 8, .inl (fun _ => 0))), (q7, .inl (cI, 8, .inl (fun _ => 0))), (q8, .inl (cI, 8, .inl (fun _ => 0))), (q9, .inl (cI, 8, .inl (fun _ => 0))), (q10, .inl (cI, 24, .inl (fun _ => 0))), (q11, .inr (2, [.int 0, .int 1])), (q12, .inr (7, [.ref q13, .ref q14, .ref q15, .int 0])), (q13, .inl (cI, 8, .inl (fun _ => 0))), (q14, .inl (cI, 8, .inl (fun _ => 0))), (q15, .inl (cI, 8, .inl (fun _ => 0))), (q16, .inr (7, [.ref q17, .ref q18, .ref q19, .int 0])), (q17, .inl (cI, 8, .inl (fun _ => 0))), (q18, .inl (cI, 8, .inl (fun _ => 0))), (q19, .inl (cI, 8, .inl (fun _ => 0))), (q20, .inr (1, [.ref q21, .ref q23, .ref q30, .ref q31, .ref q35, .int 0, .int 0])), (q21, .inr (8, [.ref q22, .int 0])), (q22, .inl (cI, 100, .inl (fun _ => 0))), (q23, .inr (4, [.ref q24, .ref q25, .ref q26, .ref q27, .ref q28, .ref q29, .int 0, .int 0])), (q24, .inl (cI, 8, .inl (fun _ => 0))), (q25, .inl (cI, 8, .inl (fun _ => 0))), (q26, .inl (cI, 8, .inl (fun _ => 0))), (q27, .inl (cI, 8, .inl (fun _ => 0))), (q28, .inl (cI, 8, .inl (fun _ => 0))), (q29, .inl (cI, 24, .inl (fun _ => 0))), (q30, .inr (2, [.int 0, .int 1])), (q31, .inr (7, [.ref q32, .ref q33, .ref q34, .int 0])), (q32, .inl (cI, 8, .inl (fun _ => 0))), (q33, .inl (cI, 8, .inl (fun _ => 0))), (q34, .inl (cI, 8, .inl (fun _ => 0))), (q35, .inr (7, [.ref q36, .ref q37, .ref q38, .int 0])), (q36, .inl (cI, 8, .inl (fun _ => 0))), (q37, .inl (cI, 8, .inl (fun _ => 0))), (q38, .inl (cI, 8, .inl (fun _ => 0))), (q39, .inl (u.1, 6, .inr (.inr (.inr (.inr (va_up (va_up (va_up (va_up (va_up (va_up (fun _ => none) 0 (some q60)) 1 (some q66)) 2 (some q72)) 3 (some q78)) 4 (some q84)) 5 (some q90))))))), (q40, .inr (5, [.ref q41, .ref q47, .int 0, .int 0])), (q41, .inr (6, [.ref q42, .ref q43, .ref q44, .ref q45, .ref q46, .int 0, .int 0])), (q42, .inl (cI, 10, .inl (fun _ => 0))), (q43, .inl (cI, 10, .inl (fun _ => 0))), (q44, .inl (cI, 10, .inl (fun _ => 0))), (q45, .inl (cI, 100, .inl (fun _ => 0))), (q46, .inl (cI, 5, .inl (fun _ => 0))), (q47, .inl (cI, 0, .inl (fun _ => 0))), (q48, .inr (3, [.ref q49, .int 0, .int 0, .ref q50, .int 0, .int 0, .int 0, .int 0, .int 0, .int 0])), (q49, .inr (2, [.int 0, .int 1])), (q50, .inr (4, [.ref q51, .ref q52, .ref q53, .ref q54, .ref q55, .ref q56, .int 0, .int 0])), (q51, .inl (cI, 8, .inl (fun _ => 0))), (q52, .inl (cI, 8, .inl (fun _ => 0))), (q53, .inl (cI, 8, .inl (fun _ => 0))), (q54, .inl (cI, 8, .inl (fun _ => 0))), (q55, .inl (cI, 8, .inl (fun _ => 0))), (q56, .inl (cI, 24, .inl (fun _ => 0))), (q57, .inr (0, [.ref q58, .int 0, .int 0, .int 0, .int 0])), (q58, .inl (cI, 20, .inl (fun _ => 0))), (q59, .inl (cZ, 100, .inl (fun _ => 0))), (q60, .inr (6, [.ref q61, .ref q62, .ref q63, .ref q64, .ref q65, .int 0, .int 0])), (q61, .inl (cI, 10, .inl (fun _ => 0))), (q62, .inl (cI, 10, .inl (fun _ => 0))), (q63, .inl (cI, 10, .inl (fun _ => 0))), (q64, .inl (cI, 100, .inl (fun _ => 0))), (q65, .inl (cI, 5, .inl (fun _ => 0))), (q66, .inr (6, [.ref q67, .ref q68, .ref q69, .ref q70, .ref q71, .int 0, .int 0])), (q67, .inl (cI, 10, .inl (fun _ => 0))), (q68, .inl (cI, 10, .inl (fun _ => 0))), (q69, .inl (cI, 10, .inl (fun _ => 0))), (q70, .inl (cI, 100, .inl (fun _ => 0))), (q71, .inl (cI, 5, .inl (fun _ => 0))), (q72, .inr (6, [.ref q73, .ref q74, .ref q75, .ref q76, .ref q77, .int 0, .int 0])), (q73, .inl (cI, 10, .inl (fun _ => 0))), (q74, .inl (cI, 10, .inl (fun _ => 0))), (q75, .inl (cI, 10, .inl (fun _ => 0))), (q76, .inl (cI, 100, .inl (fun _ => 0))), (q77, .inl (cI, 5, .inl (fun _ => 0))), (q78, .inr (6, [.ref q79, .ref q80, .ref q81, .ref q82, .ref q83, .int 0, .int 0])), (q79, .inl (cI, 10, .inl (fun _ => 0))), (q80, .inl (cI, 10, .inl (fun _ => 0))), (q81, .inl (cI, 10, .inl (fun _ => 0))), (q82, .inl (cI, 100, .inl (fun _ => 0))), (q83, .inl (cI, 5, .inl (fun _ => 0))), (q84, .inr (6, [.ref q85, .ref q86, .ref q87, .ref q88, .ref q89, .int 0, .int 0])), (q85, .inl (cI, 10, .inl (fun _ => 0))), (q86, .inl (cI, 10, .inl (fun _ => 0))), (q87, .inl (cI, 10, .inl (fun _ => 0))), (q88, .inl (cI, 100, .inl (fun _ => 0))), (q89, .inl (cI, 5, .inl (fun _ => 0))), (q90, .inr (6, [.ref q91, .ref q92, .ref q93, .ref q94, .ref q95, .int 0, .int 0])), (q91, .inl (cI, 10, .inl (fun _ => 0))), (q92, .inl (cI, 10, .inl (fun _ => 0))), (q93, .inl (cI, 10, .inl (fun _ => 0))), (q94, .inl (cI, 100, .inl (fun _ => 0))), (q95, .inl (cI, 5, .inl (fun _ => 0)))]) : ∃ q : Nat → Nat, q 0 = h0 ∧ u.2 = zcel9 q cI cZ u.1 := by
  refine h.elim fun q1 h => ?_
  refine h.elim fun q2 h => ?_
  refine h.elim fun q3 h => ?_
  refine h.elim fun q4 h => ?_
  refine h.elim fun q5 h => ?_
  refine h.elim fun q6 h => ?_
  refine h.elim fun q7 h => ?_
  refine h.elim fun q8 h => ?_
  refine h.elim fun q9 h => ?_
  refine h.elim fun q10 h => ?_
  refine h.elim fun q11 h => ?_
  refine h.elim fun q12 h => ?_
  refine h.elim fun q13 h => ?_
  refine h.elim fun q14 h => ?_
  refine h.elim fun q15 h => ?_
  refine h.elim fun q16 h => ?_
  refine h.elim fun q17 h => ?_
  refine h.elim fun q18 h => ?_
  refine h.elim fun q19 h => ?_
  refine h.elim fun q20 h => ?_
  refine h.elim fun q21 h => ?_
  refine h.elim fun q22 h => ?_
  refine h.elim fun q23 h => ?_
  refine h.elim fun q24 h => ?_
  refine h.elim fun q25 h => ?_
  refine h.elim fun q26 h => ?_
  refine h.elim fun q27 h => ?_
  refine h.elim fun q28 h => ?_
  refine h.elim fun q29 h => ?_
  refine h.elim fun q30 h => ?_
  refine h.elim fun q31 h => ?_
  refine h.elim fun q32 h => ?_
  refine h.elim fun q33 h => ?_
  refine h.elim fun q34 h => ?_
  refine h.elim fun q35 h => ?_
  refine h.elim fun q36 h => ?_
  refine h.elim fun q37 h => ?_
  refine h.elim fun q38 h => ?_
  refine h.elim fun q39 h => ?_
  refine h.elim fun q40 h => ?_
  refine h.elim fun q41 h => ?_
  refine h.elim fun q42 h => ?_
  refine h.elim fun q43 h => ?_
  refine h.elim fun q44 h => ?_
  refine h.elim fun q45 h => ?_
  refine h.elim fun q46 h => ?_
  refine h.elim fun q47 h => ?_
  refine h.elim fun q48 h => ?_
  refine h.elim fun q49 h => ?_
  refine h.elim fun q50 h => ?_
  refine h.elim fun q51 h => ?_
  refine h.elim fun q52 h => ?_
  refine h.elim fun q53 h => ?_
  refine h.elim fun q54 h => ?_
  refine h.elim fun q55 h => ?_
  refine h.elim fun q56 h => ?_
  refine h.elim fun q57 h => ?_
  refine h.elim fun q58 h => ?_
  refine h.elim fun q59 h => ?_
  refine h.elim fun q60 h => ?_
  refine h.elim fun q61 h => ?_
  refine h.elim fun q62 h => ?_
  refine h.elim fun q63 h => ?_
  refine h.elim fun q64 h => ?_
  refine h.elim fun q65 h => ?_
  refine h.elim fun q66 h => ?_
  refine h.elim fun q67 h => ?_
  refine h.elim fun q68 h => ?_
  refine h.elim fun q69 h => ?_
  refine h.elim fun q70 h => ?_
  refine h.elim fun q71 h => ?_
  refine h.elim fun q72 h => ?_
  refine h.elim fun q73 h => ?_
  refine h.elim fun q74 h => ?_
  refine h.elim fun q75 h => ?_
  refine h.elim fun q76 h => ?_
  refine h.elim fun q77 h => ?_
  refine h.elim fun q78 h => ?_
  refine h.elim fun q79 h => ?_
  refine h.elim fun q80 h => ?_
  refine h.elim fun q81 h => ?_
  refine h.elim fun q82 h => ?_
  refine h.elim fun q83 h => ?_
  refine h.elim fun q84 h => ?_
  refine h.elim fun q85 h => ?_
  refine h.elim fun q86 h => ?_
  refine h.elim fun q87 h => ?_
  refine h.elim fun q88 h => ?_
  refine h.elim fun q89 h => ?_
  refine h.elim fun q90 h => ?_
  refine h.elim fun q91 h => ?_
  refine h.elim fun q92 h => ?_
  refine h.elim fun q93 h => ?_
  refine h.elim fun q94 h => ?_
  refine h.elim fun q95 h => ?_
  exact ⟨fun k => zgn [h0, q1, q2, q3, q4, q5, q6, q7, q8, q9, q10, q11, q12, q13, q14, q15, q16, q17, q18, q19, q20, q21, q22, q23, q24, q25, q26, q27, q28, q29, q30, q31, q32, q33, q34, q35, q36, q37, q38, q39, q40, q41, q42, q43, q44, q45, q46, q47, q48, q49, q50, q51, q52, q53, q54, q55, q56, q57, q58, q59, q60, q61, q62, q63, q64, q65, q66, q67, q68, q69, q70, q71, q72, q73, q74, q75, q76, q77, q78, q79, q80, q81, q82, q83, q84, q85, q86, q87, q88, q89, q90, q91, q92, q93, q94, q95] k, rfl, h⟩
def zcel10 (q : Nat → Nat) (cI cZ : ClassId) : va_W := [((q 0), .inr (10, [.int 0, .ref (q 1), .ref (q 2), .int 0, .int 0, .int 0, .int 0, .int 0, .int 0, .ref (q 3), .ref (q 4), .int 0, .int 0, .int 0, .int 0, .int 0, .int 0, .int 0, .int 0, .int 0, .ref (q 5), .ref (q 6), .int 0, .int 0, .int 0, .int 0])), ((q 1), .inl (cI, 937, .inl (upd (fun _ => 0) 5 (-1)))), ((q 2), .inl (cI, 937, .inl (fun _ => 0))), ((q 3), .inl (cI, 5, .inl (fun _ => 0))), ((q 4), .inl (cZ, 64, .inl (fun _ => 0))), ((q 5), .inl (cI, 5, .inl (fun _ => 0))), ((q 6), .inl (cI, 20, .inl (fun _ => 0)))]
set_option maxHeartbeats 4000000 in
set_option maxRecDepth 100000 in
theorem zc10_ex {u : va_W} {h0 : Nat} {cI cZ : ClassId} (h : ∃ q1 q2 q3 q4 q5 q6 : Nat, u = [(h0, .inr (10, [.int 0, .ref q1, .ref q2, .int 0, .int 0, .int 0, .int 0, .int 0, .int 0, .ref q3, .ref q4, .int 0, .int 0, .int 0, .int 0, .int 0, .int 0, .int 0, .int 0, .int 0, .ref q5, .ref q6, .int 0, .int 0, .int 0, .int 0])), (q1, .inl (cI, 937, .inl (upd (fun _ => 0) 5 (-1)))), (q2, .inl (cI, 937, .inl (fun _ => 0))), (q3, .inl (cI, 5, .inl (fun _ => 0))), (q4, .inl (cZ, 64, .inl (fun _ => 0))), (q5, .inl (cI, 5, .inl (fun _ => 0))), (q6, .inl (cI, 20, .inl (fun _ => 0)))]) : ∃ q : Nat → Nat, q 0 = h0 ∧ u = zcel10 q cI cZ := by
  refine h.elim fun q1 h => ?_
  refine h.elim fun q2 h => ?_
  refine h.elim fun q3 h => ?_
  refine h.elim fun q4 h => ?_
  refine h.elim fun q5 h => ?_
  refine h.elim fun q6 h => ?_
  exact ⟨fun k => zgn [h0, q1, q2, q3, q4, q5, q6] k, rfl, h⟩
def zqq (q r : Nat → Nat) (k : Nat) : Nat := cond (Nat.blt k 96) (q k) (r (k - 96))
set_option maxHeartbeats 4000000 in
set_option maxRecDepth 100000 in
theorem zcel_app (q r : Nat → Nat) (cI cZ cS : ClassId) : zcel9 q cI cZ cS ++ zcel10 r cI cZ = zcel (zqq q r) cI cZ cS := rfl
set_option maxHeartbeats 8000000 in
set_option maxRecDepth 100000 in
theorem whole_start {p : Program} {e : Env} {s : State} {m : MethodId} {below : List Frame} {meth : Method} {c : Code} (l : Launch) (hflags : l.flags = flags0) {b L : Nat} {xs : Nat → Int32} (hL : L ≤ 3072) (C0 : lw_At p s m meth c b L xs) : W p l e room_1 s m #[Value.ref b] below meth c s.heap [] 0 0 (lw_Z below #[Value.ref b] s) (entryFrame m ([Value.ref b] : List Value).toArray 4) := by
  obtain ⟨hx, hb, hr, hml, hown, hts, hX, hbl, hlocks, hgv⟩ := id C0
  have hz := lw_zgw hts
  have hA : ∀ q : Nat, s.heap.size ≤ q → (fun q : Nat => s.heap.size ≤ q) q := fun _ h => h
  obtain ⟨dC, dI, hKc⟩ := lw_cls hts
  obtain ⟨cI, hcI⟩ := lw_arr (ty := .int) (hts (.arrayClass .int) (List.mem_of_getElem? (i := 108) (by decide +kernel))) (fun C h => by cases h)
  obtain ⟨cZ, hcZ⟩ := lw_arr (ty := .boolean) (hts (.arrayClass .boolean) (List.mem_of_getElem? (i := 370) (by decide +kernel))) (fun C h => by cases h)
  obtain ⟨sa, adV, ta, hZ⟩ := lw_zSt hts hgv
  have hNw : zNw s := fun w hw => va_Nw.of (zkn_tab w hw) (hts w (zkn_in w hw))
  have hAO : va_AO RX6 s := va_AO.of (hts (.arrayOver (.object RX6)) (List.mem_of_getElem? (i := 227) (by decide +kernel)))
  have hK := zK_0 hKc hcI hcZ
  have hS : va_S (fun q : Nat => s.heap.size ≤ q) s.heap s.heap [] := va_S.rf
  have hP : va_P (dC, dI) vwCl [] s.heap := fun k q h => by simp at h
  have hD : va_D (fun q : Nat => s.heap.size ≤ q) [] := ⟨fun i j p q h => by simp at h, fun k q h => by simp at h⟩
  have hl := lv_entry ([.ref b]) (n := 4) (Nat.le_of_ble_eq_true rfl)
  rw [lg_entry_eq]
  generalize (lg_sl ([.ref b]) ++ List.replicate (4 - (lg_sl ([.ref b])).length) Slot.unset).toArray = ls at hl ⊢
  have hl : lv_has ls 4 [(0, .ref b)] := hl
  refine va_new (ci := 9) (fs := [.null, .null, .int 0, .null, .null, .null, .null, .null]) (C := RX9) (T := TX9) (N := 8) hx hb hz (zuw 9 (Nat.le_of_ble_eq_true rfl)) tyX9 tyX9_ok hown (hts (.classLink R_law 7 RX9) (List.mem_of_getElem? (i := 78) (by decide +kernel))) (hts (.instantiable RX9 8) (List.mem_of_getElem? (i := 79) (by decide +kernel))) (hts (.initialized RX9) (List.mem_of_getElem? (i := 61) (by decide +kernel))) hK hP hD hS hA rfl zdf_9 (Nat.le_of_ble_eq_true rfl) (Nat.le_of_ble_eq_true rfl) (show decode code 0 = .ok (.new 7, 3) by decide +kernel) (fun q0 H hP hD hS => ?_)
  refine W.widen (k := 1) (n := 8) (Nat.le_of_ble_eq_true rfl) (Nat.le_of_ble_eq_true rfl) ?_
  refine lv_dup hx hb (show decode code 3 = .ok (.dup, 1) by decide +kernel) rfl ?_
  refine va_callv (va_runI (As := []) (rest := [.ref q0]) ⟨hx, hb, hml, hown, hz⟩ (ci_9 (cI := cI) (cZ := cZ) l [] q0 s.heap.size) (cwI 0 hz (zgood (fun w hw => (List.mem_cons.mp hw).elim (fun e => e ▸ zk_9_in) id)) rfl rfl rfl (hts (.initialized RX9) (List.mem_of_getElem? (i := 61) (by decide +kernel))) (hts (.methodLink R_law 9 yX9_init) (List.mem_of_getElem? (i := 80) (by decide +kernel))) (hts (.instanceMethod yX9_init) (List.mem_of_getElem? (i := 81) (by decide +kernel))) rfl ⟨by decide, by decide, by decide +kernel⟩ ⟨(Nat.le_of_ble_eq_true rfl), (Nat.le_of_ble_eq_true rfl)⟩) ⟨zkblind9, fun U hU hW => ⟨rfl, by rw [hU]; exact hS.1, by rw [hU]; exact hP, va_K.moved hW.alike hK, hD, hNw.warm hW, hAO.moved hW.alike⟩⟩ rfl rfl hl.1 rfl (lv_room (Nat.le_of_ble_eq_true rfl)) (show decode code 4 = .ok (.invokespecial 9, 3) by decide +kernel) ⟨(Nat.le_of_ble_eq_true rfl), (Nat.le_of_ble_eq_true rfl)⟩) hS (fun q _ h => h) (fun q h => h) (fun u t H1 locs ht hvm hw hB hz1 hk1 hS => ?_)
  obtain ⟨cS, u⟩ := u
  obtain ⟨q, hq0, hu⟩ := zc9_ex hw
  dsimp only at hu hB
  clear hw
  subst hu
  subst hq0
  obtain ⟨hP, hK9, hD⟩ := hB
  rw [ht] at hP
  have hK9 := va_K.moved hvm.symm hK9
  generalize H1 = H at hP hS ⊢
  refine W.widen (k := 96) (n := 1699) (Nat.le_of_ble_eq_true rfl) (Nat.le_of_ble_eq_true rfl) ?_
  have hP : va_P (dC, dI) vwCl (zcel9 q cI cZ cS) H := hP
  have hD : va_D (fun q : Nat => s.heap.size ≤ q) (zcel9 q cI cZ cS) := hD
  refine lv_astore_n (lv' := [(1, .ref (q 0)), (0, .ref b)]) hx hb (show decode code 7 = .ok (.astore_n 1, 1) by decide +kernel) rfl hl (by decide) rfl (fun ls hl => ?_)
  refine va_new (ci := 10) (fs := [.int 0, .null, .null, .int 0, .int 0, .int 0, .int 0, .int 0, .int 0, .null, .null, .int 0, .int 0, .int 0, .int 0, .int 0, .int 0, .int 0, .int 0, .int 0, .null, .null, .int 0, .int 0, .int 0, .int 0]) (C := RX10) (T := TX10) (N := 26) hx hb hz (zuw 10 (Nat.le_of_ble_eq_true rfl)) tyX10 tyX10_ok hown (hts (.classLink R_law 10 RX10) (List.mem_of_getElem? (i := 834) (by decide +kernel))) (hts (.instantiable RX10 26) (List.mem_of_getElem? (i := 835) (by decide +kernel))) (hts (.initialized RX10) (List.mem_of_getElem? (i := 71) (by decide +kernel))) hK hP hD hS hA rfl zdf_10 (Nat.le_of_ble_eq_true rfl) (Nat.le_of_ble_eq_true rfl) (show decode code 8 = .ok (.new 10, 3) by decide +kernel) (fun q96 H hP hD hS => ?_)
  refine W.widen (k := 97) (n := 1725) (Nat.le_of_ble_eq_true rfl) (Nat.le_of_ble_eq_true rfl) ?_
  refine lv_dup hx hb (show decode code 11 = .ok (.dup, 1) by decide +kernel) rfl ?_
  refine va_callv (va_runI (As := []) (rest := [.ref q96]) ⟨hx, hb, hml, hown, hz⟩ (ci_10 (cI := cI) (cZ := cZ) l (zcel9 q cI cZ cS) q96 s.heap.size) (cwI 0 hz (zgood (fun w hw => (List.mem_cons.mp hw).elim (fun e => e ▸ zk_10_in) id)) rfl rfl rfl (hts (.initialized RX10) (List.mem_of_getElem? (i := 71) (by decide +kernel))) (hts (.methodLink R_law 12 yX10_init) (List.mem_of_getElem? (i := 836) (by decide +kernel))) (hts (.instanceMethod yX10_init) (List.mem_of_getElem? (i := 837) (by decide +kernel))) rfl ⟨by decide, by decide, by decide +kernel⟩ ⟨(Nat.le_of_ble_eq_true rfl), (Nat.le_of_ble_eq_true rfl)⟩) ⟨zkblind, fun U hU hW => ⟨rfl, by rw [hU]; exact hS.1, by rw [hU]; exact hP, va_K.moved hW.alike hK, hD, hNw.warm hW⟩⟩ rfl rfl hl.1 rfl (lv_room (Nat.le_of_ble_eq_true rfl)) (show decode code 12 = .ok (.invokespecial 12, 3) by decide +kernel) ⟨(Nat.le_of_ble_eq_true rfl), (Nat.le_of_ble_eq_true rfl)⟩) hS (fun q _ h => h) (fun q h => h) (fun u t H1 locs ht hvm hw hB hz1 hk1 hS => ?_)
  obtain ⟨r, hr0, hu⟩ := zc10_ex hw
  clear hw
  subst hu
  subst hr0
  obtain ⟨hP, -, hD⟩ := hB
  rw [ht] at hP
  generalize H1 = H at hP hS ⊢
  refine W.widen (k := 103) (n := 3693) (Nat.le_of_ble_eq_true rfl) (Nat.le_of_ble_eq_true rfl) ?_
  rw [zcel_app] at hP hD
  obtain ⟨hAp, hPw⟩ := zcel_ok (sa := sa) (ta := ta) hP hD
  refine lv_astore_n (lv' := [(2, .ref (r 0)), (1, .ref (q 0)), (0, .ref b)]) hx hb (show decode code 15 = .ok (.astore_n 2, 1) by decide +kernel) rfl hl (by decide) rfl (fun ls hl => ?_)
  refine lv_iconst (v := 0) hx hb (show decode code 16 = .ok (.iconst 0, 1) by decide +kernel) (by decide) ?_
  refine lv_istore_n (lv' := [(3, .int 0), (2, .ref (r 0)), (1, .ref (q 0)), (0, .ref b)]) hx hb (show decode code 17 = .ok (.istore_n 3, 1) by decide +kernel) rfl hl (by decide) rfl (fun ls hl => ?_)
  exact law_loop (adV := adV) ⟨C0, hL, hAp, hK9, hZ _ (fun _ => rfl) rfl⟩ (L + 1) 0 (Nat.zero_le _) (by omega) zI0 (some (4, 2)) (some (36, 0)) H _ zRel_0 hPw zVG_0 hS ls (lv_sub hl [3, 2, 1, 0] rfl)
set_option maxHeartbeats 4000000 in
theorem lw_walk (l : Launch) (hflags : l.flags = flags0) (b : Addr) (xs : List Int32) : MetFree l x (headSpec (Jvm.Cond.code x code maxLocals ret :: tables_1) room_1) (lw_P b xs) (fun _ _ _ _ _ => True) lw_Q := by
  refine MetFree.of_bodyS (code := code) (maxLocals := maxLocals) (ret := ret) (by decide) ?_ ?_
  · intro args s m h hn
    obtain ⟨meth, c, h1, h2, h3, h4, h5, h6, -, -⟩ := Cond.code_spec hn (atoms_spec (ws := Jvm.Cond.code x code maxLocals ret :: tables_1) h _ List.mem_cons_self)
    exact ⟨meth, c, h1, h2, h3, h4, h5, h6⟩
  · intro p e s m args below meth c s₁ B hml0 hP _
    obtain ⟨rfl, hx, hbd, hgv⟩ := hP
    obtain ⟨scr, harrAt, hlist, hof, hsmall⟩ := hx
    obtain ⟨hcb, hkn, -, -⟩ := State.arrayAt?_spec harrAt
    have hown : s.vm.findClass R_law = some m.cls := findClass_of_methodNamed B.named
    have hts0 : ∀ c ∈ (Jvm.Cond.code x code maxLocals ret :: tables_1), c.before #[Value.ref b] s = true := atoms_spec (ws := Jvm.Cond.code x code maxLocals ret :: tables_1) B.pre
    have hts : ∀ w ∈ lw_tbl, w.before #[Value.ref b] s = true := k2_hts_sels lw_privs (fun w hw => hts0 w (List.mem_cons_of_mem _ hw)) lw_privs_ok
    have hml : c.maxLocals = 4 := B.maxLocals_eq (hts0 _ List.mem_cons_self)
    have X₀ : Stand p l e room_1 s m #[Value.ref b] below meth c s₁ [] 0 0 := Stand.of_body B
    have hh0 : s₁.heap = s.heap := by rw [B.state]; rfl
    have hsz : scr.slots.size = xs.length := by rw [← Array.length_toList, hlist, List.length_map]
    have hval : ∀ j : Nat, j < xs.length → scr.slots[j]? = some (.int (xs.getD j 0)) := fun j hj => by
      rw [← Array.getElem?_toList, hlist]
      simp [hj]
    have hbl : b < s.heap.size := (Array.getElem?_eq_some_iff.mp hcb).1
    have hX : va_X b xs.length (fun j => xs.getD j 0) s s.heap := ⟨scr, hcb, hof, hkn, hsz, hval⟩
    have K : W p l e room_1 s m #[Value.ref b] below meth c s₁.heap [] 0 0 (lw_Z below #[Value.ref b] s) (entryFrame m ([Value.ref b] : List Value).toArray 4) := by
      rw [hh0]
      exact whole_start l hflags hbd ⟨B.exec, B.bytes, B.returns, hml, hown, hts, hX, hbl, B.notSynchronized, hgv⟩
    obtain ⟨t, a1, o, b1, b2, b3⟩ := K s₁ rfl X₀
    exact ⟨t, o, a1, b1, b2, b3⟩
theorem lw_pre_spec {args : Array Value} {s : State} (h : (Jvm.Cond.and given_1 narrow_1).before args s = true) (hr : rest_1_c.before args s = true) : ∃ (b : Addr) (xs : List Int32), lw_P b xs args s := by
  have hs := flat_of_before _ h
  have hq := flat_of_before _ hr
  have hc : (Cond.count 1).before args s = true := hs _ (by decide +kernel)
  have harr : (Cond.arrayOf (.arg 0) .int).before args s = true := hs _ (by decide +kernel)
  have hle : (Cond.le (.length (.arg 0)) (.int 3072)).before args s = true := hs _ (by decide +kernel)
  have hlen : (Cond.isInt (.length (.arg 0))).before args s = true := hq _ (by decide +kernel)
  have hall : (Cond.all (.arg 0) (.isInt (.elem (.arg 0) (.index 0)))).before args s = true := hq _ (by decide +kernel)
  obtain ⟨b, xs, hb, hx⟩ := State.ints_of_pre rfl harr hlen hall
  have hsm : xs.length < 2 ^ 31 := hx.choose_spec.2.2.2
  have hev : (Term.length (.arg 0)).eval args s none [] s = some (.int xs.length.toInt32) := hx.length_eval hb
  have hv := Cond.le_ints hev (show (Term.int 3072).eval args s none [] s = some (.int 3072) from rfl)
  have hd : xs.length.toInt32 ≤ 3072 := by
    simpa [Cond.before, Cond.holds, hv] using hle
  have hN : xs.length ≤ 3072 := (Int32.ofNat_le_ofNat hsm (by decide)).mp (show Int32.ofNat xs.length ≤ Int32.ofNat 3072 from hd)
  exact ⟨b, xs, Cond.one_arg hc (show args[0]? = some (.ref b) from hb), hx, hN, h⟩
theorem lw_comes (l : Launch) (hflags : l.flags = flags0) : Comes l x (Jvm.Cond.code x code maxLocals ret :: tables_1) room_1 (fun tb e args s => Calls_1 tb e args s ∧ rest_1 tb e args s ∧ Pre_1 tb e args s)
    (fun _ _ args s o t => lw_Q args s o t) := by
  intro p e ha hc hk s m args below hf hfit hheap happ hpre
  obtain ⟨b, xs, hP⟩ := lw_pre_spec hpre.2.2 hpre.2.1
  obtain ⟨k, o, h1, h2, h3, hQ⟩ := lw_walk l hflags b xs p e ha hc hk s m args below hf ((Spec.applies_iff_loose hf).mp happ).1 hP trivial
  exact ⟨k, o, h1, h2, h3, hQ⟩
theorem lw_frame {s t : State} {o : Outcome} {args : Array Value} (h : Framed s o t [] 600000 7302250) :
    Framed s o t (fieldLocs frame_1_writes args s ++ arrayLocs frame_1_arrays args s ++ staticLocs frame_1_statics s) 600000 7302250 := h
theorem lw_limb (L : Cond) (hL : ∀ (args : Array Value) (s t : State), L.after args s (.returned (some (.int 1))) t = true) :
    ArmFor flags0 classFile x code maxLocals ret World_1 tables_1 room_1 Calls_1 rest_1 Pre_1
      (fun tb e a s o t => postC L tb e a s o t ∧ Framed s o t (fieldLocs frame_1_writes a s ++ arrayLocs frame_1_arrays a s ++ staticLocs frame_1_statics s) 600000 7302250) := by
  intro l hflags _ _ p e ha hc hk s m args below hf hfit hheap happ hpre
  obtain ⟨k, o, h1, h2, h3, rfl, hF⟩ := lw_comes l hflags p e ha hc hk s m args below hf hfit hheap happ hpre
  exact ⟨k, _, h1, h2, h3, hL args s _, lw_frame hF⟩
theorem i_vc : Claimed_1_1 ∧ Claimed_1_2 := ⟨lw_limb limb_1_1 (fun args s t => by simp [limb_1_1, Cond.after, Cond.holds, Cond.value]), lw_limb limb_1_2 (fun args s t => Cond.after_iff.mpr (by
  first | (rw [show limb_1_2 = Cond.eq .result (.int 1) from rfl, Cond.eq_ints (x := 1) (y := 1) rfl rfl]; simp; done) | (simp [limb_1_2, Cond.value, Term.eval]; done)))⟩

