/-! THE WORLD of the abstract machine in the heap: a list of cells, at addresses ad -/
abbrev zAD : Type := Nat → Nat → Nat
def zcv (ad : zAD) : zAV → Value
  | .inl x => .int x
  | .inr (.inl x) => .long x
  | .inr (.inr none) => .null
  | .inr (.inr (some p)) => .ref (ad p.1 p.2)
/-- the objects behind the constructors -/
def zo : List (Nat × Nat) := [(9, 0), (1, 0), (1, 1), (8, 0), (8, 1), (29, 0), (29, 1), (4, 0), (4, 1), (4, 2),
  (20, 0), (20, 1), (20, 2), (21, 0), (21, 1), (21, 2), (22, 0), (22, 1), (22, 2), (23, 0), (23, 1), (23, 2), (24, 0), (24, 1), (24, 2), (25, 0), (25, 1), (25, 2),
  (2, 0), (2, 1), (2, 2), (7, 0), (7, 1), (7, 2), (7, 3), (26, 0), (26, 1), (26, 2), (26, 3), (27, 0), (27, 1), (27, 2), (27, 3), (28, 0), (28, 1), (28, 2), (28, 3),
  (50, 0), (6, 0), (6, 1), (6, 2), (6, 3), (6, 4), (6, 5), (6, 6), (30, 0), (30, 1), (30, 2), (30, 3), (30, 4), (30, 5), (30, 6), (31, 0), (31, 1), (31, 2), (31, 3), (31, 4), (31, 5), (31, 6),
  (32, 0), (32, 1), (32, 2), (32, 3), (32, 4), (32, 5), (32, 6), (33, 0), (33, 1), (33, 2), (33, 3), (33, 4), (33, 5), (33, 6), (34, 0), (34, 1), (34, 2), (34, 3), (34, 4), (34, 5), (34, 6),
  (5, 0), (36, 0), (3, 0), (0, 0), (35, 0), (51, 0), (10, 0), (40, 0), (41, 0), (42, 0), (43, 0), (44, 0), (45, 0)]
set_option maxRecDepth 100000 in
theorem zo_nd : ∀ i, i < 103 → ∀ j, j < 103 → zo[i]? = zo[j]? → i = j := by decide +kernel
theorem zo_len : zo.length = 103 := by decide +kernel
theorem zo_inj {i j : Nat} {r : Nat × Nat} (h1 : zo[i]? = some r) (h2 : zo[j]? = some r) : i = j := by
  have l1 := (List.getElem?_eq_some_iff.mp h1).1
  have l2 := (List.getElem?_eq_some_iff.mp h2).1
  rw [zo_len] at l1 l2
  exact zo_nd i l1 j l2 (h1.trans h2.symm)
theorem zo_61 : ∀ q ∈ zo, q.1 ≠ 60 ∧ q.1 ≠ 61 := by decide +kernel
def zval (ad : zAD) (I : zMI) (G : zMR) (c i k : Nat) : Value := if zfy c k = 2 then zcv ad (.inr (.inr (G c i k))) else .int (I c i k)
def zfs (ad : zAD) (I : zMI) (G : zMR) (c i : Nat) : List Value := (List.range (znf c)).map (fun k => zval ad I G c i k)
def zce (cI cZ cS : ClassId) (ad : zAD) (I : zMI) (G : zMR) (c i : Nat) : va_E := match zsh c with
  | 0 => .inr (c, zfs ad I G c i)
  | 1 => .inl (cI, zal c, .inl (fun k => I c i k))
  | 2 => .inl (cZ, zal c, .inl (fun k => I c i k))
  | _ => .inl (cS, zal c, .inr (.inr (.inr (.inr (fun k => (G c i k).map (fun q => ad q.1 q.2))))))
def zws (cI cZ cS : ClassId) (ad : zAD) (I : zMI) (G : zMR) : va_W := zo.map (fun q => (ad q.1 q.2, zce cI cZ cS ad I G q.1 q.2))
def ztys (cI cZ cS : ClassId) : List (ClassId × FieldType) := [(cI, .int), (cZ, .boolean), (cS, .object RX6)]
def zAp (ad : zAD) (A : Nat → Prop) : Prop := (∀ q ∈ zo, A (ad q.1 q.2)) ∧ ∀ q ∈ zo, ∀ r ∈ zo, ad q.1 q.2 = ad r.1 r.2 → q = r
def zstT : List String := ["bear ", "turn ", "wind ", "price ", "fskty", "<=>"]
/-- what never changes: texts, the table, two statics of the JDK's -/
def zSt (ad : zAD) (adV : Nat → Nat) (A : Nat → Prop) (U : State) (H : Heap) : Prop :=
  vk_S 6 (zstL.map List.length) zstL (ad 60) adV A U H ∧ va_Z "EggDrop$Layers" "ABOVE" "[I" (.ref (ad 61 0)) A U H ∧ va_T .int (ad 61 0) 7 (fun j => .int (ztab j)) A U H ∧
  va_Z "java/lang/String" "COMPACT_STRINGS" "Z" (.int 1) A U H ∧ va_Zq "jdk/internal/util/Preconditions" "SIOOBE_FORMATTER" "Ljava/util/function/BiFunction;" A U H ∧
  ∀ e ∈ zSL, vk_R (zcn e.1) e.2.1 (zstT.getD e.2.2.1 "") (ad 60 e.2.2.1) U
theorem zSt.at {ad : zAD} {adV : Nat → Nat} {A : Nat → Prop} {s U : State} {H : Heap} {locs : List Loc} (h : zSt ad adV A s s.heap) (hS : va_S A s.heap H locs) (hU : U.heap = H) (hW : s.WarmedH U.vm) : zSt ad adV A U U.heap := by
  obtain ⟨h1, h2, h3, h4, h5, h6⟩ := h
  have hk : ∀ a : Nat, a < s.heap.size → ¬ A a → U.heap[a]? = s.heap[a]? := fun a b c => by rw [hU]; exact hS.2.1 a b c
  have hv := hW.alike
  exact ⟨(h1.kept hk).moved hv, (h2.kept hk).moved hv, (h3.kept hk).moved hv, (h4.kept hk).moved hv, (h5.kept hk).moved hv, fun e he => (h6 e he).warm hW⟩
theorem zSt.blind {ad : zAD} {adV : Nat → Nat} {A : Nat → Prop} {U : State} {g : JFrame} {mk : MethodId} {a : Array Value} (h : zSt ad adV A U U.heap) : zSt ad adV A (U.calling g mk a) (U.calling g mk a).heap := by
  obtain ⟨h1, h2, h3, h4, h5, h6⟩ := h
  have hv : U.vm.Alike (U.calling g mk a).vm := Vm.Alike.refl U.vm
  exact ⟨h1.moved hv, h2.moved hv, h3.moved hv, h4.moved hv, h5.moved hv, fun e he => vk_R.same (u := U) rfl (h6 e he)⟩
/-- a reference that is one of the world's -/
def zVp (p : Option (Nat × Nat)) : Prop := match p with
  | none => True
  | some q => q ∈ zo ∨ q.1 = 60 ∨ q.1 = 61 ∧ q.2 = 0
def zVv : zAV → Prop
  | .inl _ => True
  | .inr (.inl _) => True
  | .inr (.inr p) => zVp p
def zVs : List zAV → Prop
  | [] => True
  | v :: t => zVv v ∧ zVs t
def zVo : Option zAV → Prop
  | none => True
  | some v => zVv v
def zVl (L : zXL) : Prop := ∀ k v, zgl L k = some v → zVv v
def zVG (G : zMR) : Prop := ∀ q ∈ zo, ∀ k, zVp (G q.1 q.2 k)
def zwd (dC : Nat → ClassId) (dI : Nat → Nat → Nat) (cI cZ cS : ClassId) (ad : zAD) (adV : Nat → Nat) (A : Nat → Prop) (I : zMI) (G : zMR) (U : State) : Prop :=
  va_P (dC, dI) vwCl (zws cI cZ cS ad I G) U.heap ∧ va_K (dC, dI) vwCl (ztys cI cZ cS) U ∧ zSt ad adV A U U.heap ∧ zVG G
def zQ (dC : Nat → ClassId) (dI : Nat → Nat → Nat) (cI cZ cS : ClassId) (ad : zAD) (adV : Nat → Nat) (A : Nat → Prop) (r : zRS) : Array Value → State → Outcome → State → Prop := fun _ st oc t =>
  (oc = .returned (r.1.map (zcv ad)) ∧ zVo r.1 ∧ zwd dC dI cI cZ cS ad adV A r.2.1 r.2.2 t) ∧ va_F A st t
section
variable {dC : Nat → ClassId} {dI : Nat → Nat → Nat} {cI cZ cS : ClassId} {ad : zAD} {adV : Nat → Nat} {A : Nat → Prop}
theorem zws_at {I : zMI} {G : zMR} {c i : Nat} (h : (c, i) ∈ zo) : ∃ q0 : Nat, zo[q0]? = some (c, i) ∧ (zws cI cZ cS ad I G)[q0]? = some (ad c i, zce cI cZ cS ad I G c i) := by
  obtain ⟨q0, hq⟩ := List.getElem?_of_mem h
  refine ⟨q0, hq, ?_⟩
  rw [zws, List.getElem?_map, hq]
  rfl
theorem zws_D (h : zAp ad A) (I : zMI) (G : zMR) : va_D A (zws cI cZ cS ad I G) := by
  have key : ∀ (k : Nat) (q : Nat × va_E), (zws cI cZ cS ad I G)[k]? = some q → ∃ r ∈ zo, zo[k]? = some r ∧ q.1 = ad r.1 r.2 := by
    intro k q hq
    rw [zws, List.getElem?_map] at hq
    cases hr : zo[k]? with
    | none => rw [hr] at hq; cases hq
    | some r =>
      rw [hr] at hq
      cases hq
      exact ⟨r, List.mem_of_getElem? hr, rfl, rfl⟩
  refine ⟨fun i j p q hi hj hpq => ?_, fun k q hq => ?_⟩
  · obtain ⟨r1, m1, e1, f1⟩ := key i p hi
    obtain ⟨r2, m2, e2, f2⟩ := key j q hj
    have e := h.2 r1 m1 r2 m2 (by rw [← f1, ← f2]; exact hpq)
    subst e
    exact zo_inj e1 e2
  · obtain ⟨r, m, -, e⟩ := key k q hq
    rw [e]
    exact h.1 r m
theorem zws_set {I I' : zMI} {G G' : zMR} {c i q0 : Nat} {e : va_E} (hq : zo[q0]? = some (c, i)) (he : zce cI cZ cS ad I' G' c i = e) (ho : ∀ q ∈ zo, q ≠ (c, i) → zce cI cZ cS ad I' G' q.1 q.2 = zce cI cZ cS ad I G q.1 q.2) :
    (zws cI cZ cS ad I G).set q0 (ad c i, e) = zws cI cZ cS ad I' G' := by
  apply List.ext_getElem?
  intro k
  rw [List.getElem?_set]
  by_cases hk : q0 = k
  · subst hk
    rw [if_pos rfl]
    have hl : q0 < (zws cI cZ cS ad I G).length := by
      rw [zws, List.length_map]
      exact (List.getElem?_eq_some_iff.mp hq).1
    rw [if_pos hl, zws, List.getElem?_map, hq]
    subst he
    rfl
  · rw [if_neg hk, zws, zws, List.getElem?_map, List.getElem?_map]
    cases hr : zo[k]? with
    | none => rfl
    | some r =>
      have hne : r ≠ (c, i) := by
        intro e
        subst e
        exact hk (zo_inj hq hr)
      show some (ad r.1 r.2, _) = some (ad r.1 r.2, _)
      rw [ho r (List.mem_of_getElem? hr) hne]
end
theorem zvw : ∀ c, c ≤ 10 → vwCl[c]? = some (zcn c, zct c, znf c) := by
  intro c h
  match c, h with
  | 0, _ => rfl
  | 1, _ => rfl
  | 2, _ => rfl
  | 3, _ => rfl
  | 4, _ => rfl
  | 5, _ => rfl
  | 6, _ => rfl
  | 7, _ => rfl
  | 8, _ => rfl
  | 9, _ => rfl
  | 10, _ => rfl
  | n + 11, h => exact absurd h (by omega)
theorem zuw : ∀ c, c ≤ 10 → ∀ w ∈ u_ws (zcn c) (zct c) (znf c), w ∈ zgw := by
  intro c h
  match c, h with
  | 0, _ => exact zcw_in (l := wsX00) (by simp)
  | 1, _ => exact zcw_in (l := wsX10) (by simp)
  | 2, _ => exact zcw_in (l := wsX20) (by simp)
  | 3, _ => exact zcw_in (l := wsX30) (by simp)
  | 4, _ => exact zcw_in (l := wsX40) (by simp)
  | 5, _ => exact zcw_in (l := wsX50) (by simp)
  | 6, _ => exact zcw_in (l := wsX60) (by simp)
  | 7, _ => exact zcw_in (l := wsX70) (by simp)
  | 8, _ => exact zcw_in (l := wsX80) (by simp)
  | 9, _ => exact zcw_in (l := wsX90) (by simp)
  | 10, _ => exact zcw_in (l := wsX100) (by simp)
  | n + 11, h => exact absurd h (by omega)
theorem zcl_own : ∀ c, c ≤ 10 → ∀ k, k < znf c → (zct c k).1 = zcn c := by
  intro c h
  match c, h with
  | 0, _ => decide +kernel
  | 1, _ => decide +kernel
  | 2, _ => decide +kernel
  | 3, _ => decide +kernel
  | 4, _ => decide +kernel
  | 5, _ => decide +kernel
  | 6, _ => decide +kernel
  | 7, _ => decide +kernel
  | 8, _ => decide +kernel
  | 9, _ => decide +kernel
  | 10, _ => decide +kernel
  | n + 11, h => exact absurd h (by omega)
def ztyL : List (Nat → FieldType) := [tyX0, tyX1, tyX2, tyX3, tyX4, tyX5, tyX6, tyX7, tyX8, tyX9, tyX10]
def zty (c : Nat) : Nat → FieldType := ztyL.getD c tyX0
theorem zty_ok : ∀ c, c ≤ 10 → ∀ k, k < znf c → parseFieldDescriptor (zct c k).2.2.1 = some (zty c k) := by
  intro c h
  match c, h with
  | 0, _ => exact tyX0_ok
  | 1, _ => exact tyX1_ok
  | 2, _ => exact tyX2_ok
  | 3, _ => exact tyX3_ok
  | 4, _ => exact tyX4_ok
  | 5, _ => exact tyX5_ok
  | 6, _ => exact tyX6_ok
  | 7, _ => exact tyX7_ok
  | 8, _ => exact tyX8_ok
  | 9, _ => exact tyX9_ok
  | 10, _ => exact tyX10_ok
  | n + 11, h => exact absurd h (by omega)
theorem znm : ∀ c, c ≤ 10 → ∀ a, a < znf c → ∀ b, b < znf c → a ≠ b → (zct c a).2.1 ≠ (zct c b).2.1 := by
  intro c h
  match c, h with
  | 0, _ => exact nmX0
  | 1, _ => exact nmX1
  | 2, _ => exact nmX2
  | 3, _ => exact nmX3
  | 4, _ => exact nmX4
  | 5, _ => exact nmX5
  | 6, _ => exact nmX6
  | 7, _ => exact nmX7
  | 8, _ => exact nmX8
  | 9, _ => exact nmX9
  | 10, _ => exact nmX10
  | n + 11, h => exact absurd h (by omega)
def ztk (t : FieldType) : Nat := match t with
  | .int => 0
  | .boolean => 1
  | .object _ => 2
  | .array _ => 2
  | _ => 3
theorem ztk_ok : ∀ c, c ≤ 10 → ∀ k, k < znf c → ztk (zty c k) = zfy c k := by
  intro c h
  match c, h with
  | 0, _ => decide +kernel
  | 1, _ => decide +kernel
  | 2, _ => decide +kernel
  | 3, _ => decide +kernel
  | 4, _ => decide +kernel
  | 5, _ => decide +kernel
  | 6, _ => decide +kernel
  | 7, _ => decide +kernel
  | 8, _ => decide +kernel
  | 9, _ => decide +kernel
  | 10, _ => decide +kernel
  | n + 11, h => exact absurd h (by omega)
/-! locals -/
theorem zs1_ok : ∀ (L : zXL) (k : Nat) (v : zAV) (L' : zXL), zs1 L k v = some L' → k < L.length ∧ L'.length = L.length ∧ zgl L' k = some v ∧ (∀ j, j ≠ k → zgl L' j = zgl L j) ∧ ∀ j, j + 1 = k → zlg (zgl L j) = false := by
  intro L
  induction L with
  | nil => intro k v L' h; cases h
  | cons a t ih =>
    intro k v L' h
    cases k with
    | zero =>
      cases h
      refine ⟨by simp, by simp, rfl, fun j hj => ?_, fun j hj => by omega⟩
      cases j with
      | zero => exact absurd rfl hj
      | succ j => rfl
    | succ k =>
      rw [zs1] at h
      split at h
      · cases h
      · rename_i hn
        cases ht : zs1 t k v with
        | none => rw [ht] at h; cases h
        | some t' =>
          rw [ht] at h
          cases h
          obtain ⟨h1, h2, h3, h4, h5⟩ := ih k v t' ht
          refine ⟨by simp; omega, by simp [h2], h3, fun j hj => ?_, fun j hj => ?_⟩
          · cases j with
            | zero => rfl
            | succ j => exact h4 j (by omega)
          · cases j with
            | zero =>
              have hk : k = 0 := by omega
              subst hk
              show zlg a = false
              cases ha : zlg a with
              | false => rfl
              | true => rw [ha] at hn; exact absurd rfl hn
            | succ j => exact h5 j (by omega)
theorem zs2_ok : ∀ (L : zXL) (k : Nat) (v : zAV) (L' : zXL), zs2 L k v = some L' → k + 1 < L.length ∧ L'.length = L.length ∧ zgl L' k = some v ∧ zgl L' (k + 1) = none ∧ (∀ j, j ≠ k → j ≠ k + 1 → zgl L' j = zgl L j) ∧ ∀ j, j + 1 = k → zlg (zgl L j) = false := by
  intro L
  induction L with
  | nil => intro k v L' h; cases k <;> cases h
  | cons a t ih =>
    intro k v L' h
    cases k with
    | zero =>
      cases t with
      | nil => cases h
      | cons b t =>
        cases h
        refine ⟨by simp, by simp, rfl, rfl, fun j h1 h2 => ?_, fun j hj => by omega⟩
        cases j with
        | zero => exact absurd rfl h1
        | succ j =>
          cases j with
          | zero => exact absurd rfl h2
          | succ j => rfl
    | succ k =>
      have h' : (if (zlg a && k == 0) = true then none else match zs2 t k v with
        | some t' => some (a :: t')
        | none => none) = some L' := by
        cases t <;> exact h
      split at h'
      · cases h'
      · rename_i hn
        cases ht : zs2 t k v with
        | none => rw [ht] at h'; cases h'
        | some t' =>
          rw [ht] at h'
          cases h'
          obtain ⟨h1, h2, h3, h3b, h4, h5⟩ := ih k v t' ht
          refine ⟨by simp; omega, by simp [h2], h3, h3b, fun j hj hj2 => ?_, fun j hj => ?_⟩
          · cases j with
            | zero => rfl
            | succ j => exact h4 j (by omega) (by omega)
          · cases j with
            | zero =>
              have hk : k = 0 := by omega
              subst hk
              show zlg a = false
              cases ha : zlg a with
              | false => rfl
              | true => rw [ha] at hn; exact absurd rfl hn
            | succ j => exact h5 j (by omega)
theorem zgl_lt : ∀ {L : zXL} {k : Nat} {v : zAV}, zgl L k = some v → k < L.length := by
  intro L
  induction L with
  | nil => intro k v h; cases h
  | cons a t ih =>
    intro k v h
    cases k with
    | zero => simp
    | succ k =>
      have := ih (k := k) h
      simp
      omega
def zla (ad : zAD) (L : zXL) : List (Nat × Value) := (List.range L.length).filterMap (fun k => (zgl L k).map (fun v => (k, zcv ad v)))
theorem zla_in {ad : zAD} {L : zXL} {q : Nat × Value} : q ∈ zla ad L ↔ ∃ v, zgl L q.1 = some v ∧ q.2 = zcv ad v := by
  rw [zla, List.mem_filterMap]
  constructor
  · rintro ⟨k, -, h⟩
    cases hv : zgl L k with
    | none => rw [hv] at h; cases h
    | some v => rw [hv] at h; cases h; exact ⟨v, hv, rfl⟩
  · rintro ⟨v, h1, h2⟩
    refine ⟨q.1, List.mem_range.mpr (zgl_lt h1), ?_⟩
    rw [h1]
    obtain ⟨a, b⟩ := q
    cases h2
    rfl
def zLH (ad : zAD) (ls : Array Slot) (nL : Nat) (L : zXL) : Prop := L.length = nL ∧ lv_has ls nL (zla ad L)
theorem zLH.get {ad : zAD} {ls : Array Slot} {nL : Nat} {L : zXL} (h : zLH ad ls nL L) {k : Nat} {v : zAV} (hk : zgl L k = some v) : ls[k]? = some (.val (zcv ad v)) := h.2.2.2 (k, zcv ad v) (zla_in.mpr ⟨v, hk, rfl⟩)
theorem zcat {ad : zAD} {v : zAV} (h : zlg (some v) = false) : (zcv ad v).category = 1 := by
  rcases v with x | x | x | x
  · rfl
  · cases h
  · rfl
  · rfl
theorem zLH.put1 {ad : zAD} {nL : Nat} {L L' : zXL} {k : Nat} {v : zAV} (hl : L.length = nL) (hs : zs1 L k v = some L') : ∀ ls' : Array Slot, lv_has ls' nL ((k, zcv ad v) :: (zla ad L).filter (fun q => !(q.1 == k) && !(q.1 + 1 == k && q.2.category == 2))) → zLH ad ls' nL L' := by
  intro ls' h
  obtain ⟨h1, h2, h3, h4, h5⟩ := zs1_ok L k v L' hs
  refine ⟨by omega, h.1, h.2.1, fun q hq => h.2.2 q ?_⟩
  obtain ⟨w, e1, e2⟩ := zla_in.mp hq
  by_cases hk : q.1 = k
  · rw [hk, h3] at e1
    cases e1
    obtain ⟨a, b⟩ := q
    cases e2
    cases hk
    exact List.mem_cons_self
  · refine List.mem_cons_of_mem _ (List.mem_filter.mpr ⟨?_, ?_⟩)
    · rw [h4 _ hk] at e1
      exact zla_in.mpr ⟨w, e1, e2⟩
    · rw [h4 _ hk] at e1
      by_cases hj : q.1 + 1 = k
      · have := h5 _ hj
        rw [e1] at this
        simp [hk, e2, zcat (ad := ad) this]
      · simp [hk, hj]
theorem zLH.put2 {ad : zAD} {nL : Nat} {L L' : zXL} {k : Nat} {v : zAV} (hl : L.length = nL) (hs : zs2 L k v = some L') : ∀ ls' : Array Slot, lv_has ls' nL ((k, zcv ad v) :: (zla ad L).filter (fun q => !(q.1 == k) && (!(q.1 == k + 1) && !(q.1 + 1 == k && q.2.category == 2)))) → zLH ad ls' nL L' := by
  intro ls' h
  obtain ⟨h1, h2, h3, h3b, h4, h5⟩ := zs2_ok L k v L' hs
  refine ⟨by omega, h.1, h.2.1, fun q hq => h.2.2 q ?_⟩
  obtain ⟨w, e1, e2⟩ := zla_in.mp hq
  by_cases hk : q.1 = k
  · rw [hk, h3] at e1
    cases e1
    obtain ⟨a, b⟩ := q
    cases e2
    cases hk
    exact List.mem_cons_self
  · by_cases hk2 : q.1 = k + 1
    · rw [hk2, h3b] at e1
      cases e1
    · refine List.mem_cons_of_mem _ (List.mem_filter.mpr ⟨?_, ?_⟩)
      · rw [h4 _ hk hk2] at e1
        exact zla_in.mpr ⟨w, e1, e2⟩
      · rw [h4 _ hk hk2] at e1
        by_cases hj : q.1 + 1 = k
        · have := h5 _ hj
          rw [e1] at this
          simp [hk, hk2, e2, zcat (ad := ad) this]
        · simp [hk, hk2, hj]
theorem zVl.put {L L' : zXL} {k : Nat} {v : zAV} (h : zVl L) (hv : zVv v) (hk : zgl L' k = some v) (ho : ∀ j w, j ≠ k → zgl L' j = some w → zgl L j = some w) : zVl L' := by
  intro j w hj
  by_cases e : j = k
  · subst e
    rw [hk] at hj
    cases hj
    exact hv
  · exact h j w (ho j w e hj)
theorem zVl.put1 {L L' : zXL} {k : Nat} {v : zAV} (h : zVl L) (hv : zVv v) (hs : zs1 L k v = some L') : zVl L' := by
  obtain ⟨-, -, h3, h4, -⟩ := zs1_ok L k v L' hs
  exact h.put hv h3 (fun j w hj e => by rw [h4 j hj] at e; exact e)
theorem zVl.put2 {L L' : zXL} {k : Nat} {v : zAV} (h : zVl L) (hv : zVv v) (hs : zs2 L k v = some L') : zVl L' := by
  obtain ⟨-, -, h3, h3b, h4, -⟩ := zs2_ok L k v L' hs
  refine h.put hv h3 (fun j w hj e => ?_)
  by_cases e2 : j = k + 1
  · rw [e2, h3b] at e; cases e
  · rw [h4 j hj e2] at e; exact e
