/-! THE LAW: the world behind the constructors (by gen8.py) -/
def zpsL : List (List Nat) := [[57], [1, 20], [11, 30, 49], [48], [4, 23, 50], [40], [41, 60, 66, 72, 78, 84, 90], [12, 16, 31, 35], [2, 21], [0], [96], [], [], [], [], [], [], [], [], [], [5, 24, 51], [6, 25, 52], [7, 26, 53], [8, 27, 54], [9, 28, 55], [10, 29, 56], [13, 17, 32, 36], [14, 18, 33, 37], [15, 19, 34, 38], [3, 22], [42, 61, 67, 73, 79, 85, 91], [43, 62, 68, 74, 80, 86, 92], [44, 63, 69, 75, 81, 87, 93], [45, 64, 70, 76, 82, 88, 94], [46, 65, 71, 77, 83, 89, 95], [58], [47], [], [], [], [97], [98], [99], [100], [101], [102], [], [], [], [], [39], [59]]
def zgll : List (List Nat) → Nat → List Nat
  | [], _ => []
  | a :: _, 0 => a
  | _ :: t, k + 1 => zgll t k
def zps (c i : Nat) : Nat := zgn (zgll zpsL c) i
def zadr (q : Nat → Nat) (sa : Nat → Nat) (ta : Nat) : zAD := fun c i => if c = 60 then sa i else if c = 61 then ta else q (zps c i)
def zI0 : zMI := fun c _ k => if c = 2 then (if k = 1 then 1 else 0) else if c = 40 then upd (fun _ => 0) 5 (-1) k else 0
def zG0 : zMR := zRR (some (4, 2)) (some (36, 0))
def zcel (q : Nat → Nat) (cI cZ cS : ClassId) : va_W := [((q 0), .inr (9, [.ref (q 1), .ref (q 20), .int 0, .ref (q 39), .ref (q 40), .ref (q 48), .ref (q 57), .ref (q 59)])), ((q 1), .inr (1, [.ref (q 2), .ref (q 4), .ref (q 11), .ref (q 12), .ref (q 16), .int 0, .int 0])), ((q 2), .inr (8, [.ref (q 3), .int 0])), ((q 3), .inl (cI, 100, .inl (fun _ => 0))), ((q 4), .inr (4, [.ref (q 5), .ref (q 6), .ref (q 7), .ref (q 8), .ref (q 9), .ref (q 10), .int 0, .int 0])), ((q 5), .inl (cI, 8, .inl (fun _ => 0))), ((q 6), .inl (cI, 8, .inl (fun _ => 0))), ((q 7), .inl (cI, 8, .inl (fun _ => 0))), ((q 8), .inl (cI, 8, .inl (fun _ => 0))), ((q 9), .inl (cI, 8, .inl (fun _ => 0))), ((q 10), .inl (cI, 24, .inl (fun _ => 0))), ((q 11), .inr (2, [.int 0, .int 1])), ((q 12), .inr (7, [.ref (q 13), .ref (q 14), .ref (q 15), .int 0])), ((q 13), .inl (cI, 8, .inl (fun _ => 0))), ((q 14), .inl (cI, 8, .inl (fun _ => 0))), ((q 15), .inl (cI, 8, .inl (fun _ => 0))), ((q 16), .inr (7, [.ref (q 17), .ref (q 18), .ref (q 19), .int 0])), ((q 17), .inl (cI, 8, .inl (fun _ => 0))), ((q 18), .inl (cI, 8, .inl (fun _ => 0))), ((q 19), .inl (cI, 8, .inl (fun _ => 0))), ((q 20), .inr (1, [.ref (q 21), .ref (q 23), .ref (q 30), .ref (q 31), .ref (q 35), .int 0, .int 0])), ((q 21), .inr (8, [.ref (q 22), .int 0])), ((q 22), .inl (cI, 100, .inl (fun _ => 0))), ((q 23), .inr (4, [.ref (q 24), .ref (q 25), .ref (q 26), .ref (q 27), .ref (q 28), .ref (q 29), .int 0, .int 0])), ((q 24), .inl (cI, 8, .inl (fun _ => 0))), ((q 25), .inl (cI, 8, .inl (fun _ => 0))), ((q 26), .inl (cI, 8, .inl (fun _ => 0))), ((q 27), .inl (cI, 8, .inl (fun _ => 0))), ((q 28), .inl (cI, 8, .inl (fun _ => 0))), ((q 29), .inl (cI, 24, .inl (fun _ => 0))), ((q 30), .inr (2, [.int 0, .int 1])), ((q 31), .inr (7, [.ref (q 32), .ref (q 33), .ref (q 34), .int 0])), ((q 32), .inl (cI, 8, .inl (fun _ => 0))), ((q 33), .inl (cI, 8, .inl (fun _ => 0))), ((q 34), .inl (cI, 8, .inl (fun _ => 0))), ((q 35), .inr (7, [.ref (q 36), .ref (q 37), .ref (q 38), .int 0])), ((q 36), .inl (cI, 8, .inl (fun _ => 0))), ((q 37), .inl (cI, 8, .inl (fun _ => 0))), ((q 38), .inl (cI, 8, .inl (fun _ => 0))), ((q 39), .inl (cS, 6, .inr (.inr (.inr (.inr (va_up (va_up (va_up (va_up (va_up (va_up (fun _ => none) 0 (some (q 60))) 1 (some (q 66))) 2 (some (q 72))) 3 (some (q 78))) 4 (some (q 84))) 5 (some (q 90)))))))), ((q 40), .inr (5, [.ref (q 41), .ref (q 47), .int 0, .int 0])), ((q 41), .inr (6, [.ref (q 42), .ref (q 43), .ref (q 44), .ref (q 45), .ref (q 46), .int 0, .int 0])), ((q 42), .inl (cI, 10, .inl (fun _ => 0))), ((q 43), .inl (cI, 10, .inl (fun _ => 0))), ((q 44), .inl (cI, 10, .inl (fun _ => 0))), ((q 45), .inl (cI, 100, .inl (fun _ => 0))), ((q 46), .inl (cI, 5, .inl (fun _ => 0))), ((q 47), .inl (cI, 0, .inl (fun _ => 0))), ((q 48), .inr (3, [.ref (q 49), .int 0, .int 0, .ref (q 50), .int 0, .int 0, .int 0, .int 0, .int 0, .int 0])), ((q 49), .inr (2, [.int 0, .int 1])), ((q 50), .inr (4, [.ref (q 51), .ref (q 52), .ref (q 53), .ref (q 54), .ref (q 55), .ref (q 56), .int 0, .int 0])), ((q 51), .inl (cI, 8, .inl (fun _ => 0))), ((q 52), .inl (cI, 8, .inl (fun _ => 0))), ((q 53), .inl (cI, 8, .inl (fun _ => 0))), ((q 54), .inl (cI, 8, .inl (fun _ => 0))), ((q 55), .inl (cI, 8, .inl (fun _ => 0))), ((q 56), .inl (cI, 24, .inl (fun _ => 0))), ((q 57), .inr (0, [.ref (q 58), .int 0, .int 0, .int 0, .int 0])), ((q 58), .inl (cI, 20, .inl (fun _ => 0))), ((q 59), .inl (cZ, 100, .inl (fun _ => 0))), ((q 60), .inr (6, [.ref (q 61), .ref (q 62), .ref (q 63), .ref (q 64), .ref (q 65), .int 0, .int 0])), ((q 61), .inl (cI, 10, .inl (fun _ => 0))), ((q 62), .inl (cI, 10, .inl (fun _ => 0))), ((q 63), .inl (cI, 10, .inl (fun _ => 0))), ((q 64), .inl (cI, 100, .inl (fun _ => 0))), ((q 65), .inl (cI, 5, .inl (fun _ => 0))), ((q 66), .inr (6, [.ref (q 67), .ref (q 68), .ref (q 69), .ref (q 70), .ref (q 71), .int 0, .int 0])), ((q 67), .inl (cI, 10, .inl (fun _ => 0))), ((q 68), .inl (cI, 10, .inl (fun _ => 0))), ((q 69), .inl (cI, 10, .inl (fun _ => 0))), ((q 70), .inl (cI, 100, .inl (fun _ => 0))), ((q 71), .inl (cI, 5, .inl (fun _ => 0))), ((q 72), .inr (6, [.ref (q 73), .ref (q 74), .ref (q 75), .ref (q 76), .ref (q 77), .int 0, .int 0])), ((q 73), .inl (cI, 10, .inl (fun _ => 0))), ((q 74), .inl (cI, 10, .inl (fun _ => 0))), ((q 75), .inl (cI, 10, .inl (fun _ => 0))), ((q 76), .inl (cI, 100, .inl (fun _ => 0))), ((q 77), .inl (cI, 5, .inl (fun _ => 0))), ((q 78), .inr (6, [.ref (q 79), .ref (q 80), .ref (q 81), .ref (q 82), .ref (q 83), .int 0, .int 0])), ((q 79), .inl (cI, 10, .inl (fun _ => 0))), ((q 80), .inl (cI, 10, .inl (fun _ => 0))), ((q 81), .inl (cI, 10, .inl (fun _ => 0))), ((q 82), .inl (cI, 100, .inl (fun _ => 0))), ((q 83), .inl (cI, 5, .inl (fun _ => 0))), ((q 84), .inr (6, [.ref (q 85), .ref (q 86), .ref (q 87), .ref (q 88), .ref (q 89), .int 0, .int 0])), ((q 85), .inl (cI, 10, .inl (fun _ => 0))), ((q 86), .inl (cI, 10, .inl (fun _ => 0))), ((q 87), .inl (cI, 10, .inl (fun _ => 0))), ((q 88), .inl (cI, 100, .inl (fun _ => 0))), ((q 89), .inl (cI, 5, .inl (fun _ => 0))), ((q 90), .inr (6, [.ref (q 91), .ref (q 92), .ref (q 93), .ref (q 94), .ref (q 95), .int 0, .int 0])), ((q 91), .inl (cI, 10, .inl (fun _ => 0))), ((q 92), .inl (cI, 10, .inl (fun _ => 0))), ((q 93), .inl (cI, 10, .inl (fun _ => 0))), ((q 94), .inl (cI, 100, .inl (fun _ => 0))), ((q 95), .inl (cI, 5, .inl (fun _ => 0))), ((q 96), .inr (10, [.int 0, .ref (q 97), .ref (q 98), .int 0, .int 0, .int 0, .int 0, .int 0, .int 0, .ref (q 99), .ref (q 100), .int 0, .int 0, .int 0, .int 0, .int 0, .int 0, .int 0, .int 0, .int 0, .ref (q 101), .ref (q 102), .int 0, .int 0, .int 0, .int 0])), ((q 97), .inl (cI, 937, .inl (upd (fun _ => 0) 5 (-1)))), ((q 98), .inl (cI, 937, .inl (fun _ => 0))), ((q 99), .inl (cI, 5, .inl (fun _ => 0))), ((q 100), .inl (cZ, 64, .inl (fun _ => 0))), ((q 101), .inl (cI, 5, .inl (fun _ => 0))), ((q 102), .inl (cI, 20, .inl (fun _ => 0)))]
theorem arrV_cg {cI : ClassId} {N : Nat} {f g : Nat → Value} (h : ∀ j, j < N → f j = g j) : arrV cI N f = arrV cI N g := by
  unfold arrV
  congr 1
  congr 1
  funext j
  exact h j.val j.isLt
set_option maxRecDepth 100000 in
theorem zps_lt : ∀ r ∈ zo, zps r.1 r.2 < 103 := by decide +kernel
set_option maxRecDepth 100000 in
theorem zps_inj : ∀ r ∈ zo, ∀ t ∈ zo, zps r.1 r.2 = zps t.1 t.2 → r = t := by decide +kernel
set_option maxRecDepth 100000 in
theorem zo_60 : ∀ r ∈ zo, r.1 ≠ 60 ∧ r.1 ≠ 61 := by decide +kernel
set_option maxHeartbeats 4000000 in
set_option maxRecDepth 100000 in
theorem zcel_at (q : Nat → Nat) (sa : Nat → Nat) (ta : Nat) (cI cZ cS : ClassId) : ∀ r ∈ zo, r ≠ (50, 0) → (zcel q cI cZ cS)[zps r.1 r.2]? = some (zadr q sa ta r.1 r.2, zce cI cZ cS (zadr q sa ta) zI0 zG0 r.1 r.2) := by
  intro r hr hne
  simp only [zo, List.mem_cons, List.not_mem_nil, or_false] at hr
  rcases hr with rfl | rfl | rfl | rfl | rfl | rfl | rfl | rfl | rfl | rfl | rfl | rfl | rfl | rfl | rfl | rfl | rfl | rfl | rfl | rfl | rfl | rfl | rfl | rfl | rfl | rfl | rfl | rfl | rfl | rfl | rfl | rfl | rfl | rfl | rfl | rfl | rfl | rfl | rfl | rfl | rfl | rfl | rfl | rfl | rfl | rfl | rfl | rfl | rfl | rfl | rfl | rfl | rfl | rfl | rfl | rfl | rfl | rfl | rfl | rfl | rfl | rfl | rfl | rfl | rfl | rfl | rfl | rfl | rfl | rfl | rfl | rfl | rfl | rfl | rfl | rfl | rfl | rfl | rfl | rfl | rfl | rfl | rfl | rfl | rfl | rfl | rfl | rfl | rfl | rfl | rfl | rfl | rfl | rfl | rfl | rfl | rfl | rfl | rfl | rfl | rfl | rfl | rfl
  all_goals first | rfl | exact absurd rfl hne
theorem zcel_50 (q : Nat → Nat) (cI cZ cS : ClassId) : (zcel q cI cZ cS)[39]? = some (q 39, .inl (cS, 6, .inr (.inr (.inr (.inr (va_up (va_up (va_up (va_up (va_up (va_up (fun _ => none) 0 (some (q 60))) 1 (some (q 66))) 2 (some (q 72))) 3 (some (q 78))) 4 (some (q 84))) 5 (some (q 90)))))))) := rfl
set_option maxHeartbeats 4000000 in
set_option maxRecDepth 100000 in
theorem zcel_ok {dC : Nat → ClassId} {dI : Nat → Nat → Nat} {A : Nat → Prop} {H : Heap} {q : Nat → Nat} {sa : Nat → Nat} {ta : Nat} {cI cZ cS : ClassId} (hP : va_P (dC, dI) vwCl (zcel q cI cZ cS) H) (hD : va_D A (zcel q cI cZ cS)) : zAp (zadr q sa ta) A ∧ va_P (dC, dI) vwCl (zws cI cZ cS (zadr q sa ta) zI0 zG0) H := by
  have key : ∀ r ∈ zo, ∃ e, (zcel q cI cZ cS)[zps r.1 r.2]? = some (zadr q sa ta r.1 r.2, e) := by
    intro r hr
    by_cases h : r = (50, 0)
    · subst h
      exact ⟨_, zcel_50 q cI cZ cS⟩
    · exact ⟨_, zcel_at q sa ta cI cZ cS r hr h⟩
  refine ⟨⟨fun r hr => ?_, fun r hr t ht e => ?_⟩, fun k x hx => ?_⟩
  · obtain ⟨e, he⟩ := key r hr
    exact hD.2 _ _ he
  · obtain ⟨e1, h1⟩ := key r hr
    obtain ⟨e2, h2⟩ := key t ht
    exact zps_inj r hr t ht (hD.1 _ _ _ _ h1 h2 e)
  · rw [zws, List.getElem?_map] at hx
    cases hr : zo[k]? with
    | none => rw [hr] at hx; cases hx
    | some r =>
      rw [hr] at hx
      cases hx
      by_cases h : r = (50, 0)
      · subst h
        have h1 := hP 39 _ (zcel_50 q cI cZ cS)
        have h2 : H[q 39]? = some (vp_cell cS (6, .inr (.inr (.inr (.inr (va_up (va_up (va_up (va_up (va_up (va_up (fun _ => none) 0 (some (q 60))) 1 (some (q 66))) 2 (some (q 72))) 3 (some (q 78))) 4 (some (q 84))) 5 (some (q 90)))))))) := h1
        show H[q 39]? = some (vp_cell cS (6, .inr (.inr (.inr (.inr (fun k => (zG0 50 0 k).map (fun r => zadr q sa ta r.1 r.2)))))))
        rw [h2]
        congr 1
      · exact hP _ _ (zcel_at q sa ta cI cZ cS r (List.mem_of_getElem? hr) h)
