/-! THE ABSTRACT MACHINE IS SOUND: what it comes to, the machine comes to -/
theorem zpop_ok : ∀ (n : Nat) (acc S a S' : List zAV), zpop n acc S = some (a, S') → ∃ t : List zAV, t.length = n ∧ S = t ++ S' ∧ a = t.reverse ++ acc := by
  intro n
  induction n with
  | zero => intro acc S a S' h; cases h; exact ⟨[], rfl, rfl, rfl⟩
  | succ n ih =>
    intro acc S a S' h
    cases S with
    | nil => cases h
    | cons v S =>
      obtain ⟨t, h1, h2, h3⟩ := ih _ _ _ _ h
      exact ⟨v :: t, by simp [h1], by simp [h2], by simp [h3]⟩
theorem zarg_in {ad : zAD} : ∀ (a : List zAV) (i k : Nat) (v : zAV), zgl (zarg a) k = some v → (i + k, zcv ad v) ∈ lv_args i (a.map (zcv ad)) := by
  intro a
  induction a with
  | nil => intro i k v h; cases h
  | cons b t ih =>
    intro i k v h
    rcases b with x | x | x
    · cases k with
      | zero => cases h; exact List.mem_cons_self
      | succ k =>
        have := ih (i + 1) k v h
        refine List.mem_cons_of_mem _ ?_
        rw [show i + (k + 1) = i + 1 + k by omega]
        exact this
    · cases k with
      | zero => cases h; exact List.mem_cons_self
      | succ k =>
        cases k with
        | zero => cases h
        | succ k =>
          have := ih (i + 2) k v h
          refine List.mem_cons_of_mem _ ?_
          rw [show i + (k + 1 + 1) = i + 2 + k by omega]
          exact this
    · cases k with
      | zero => cases h; exact List.mem_cons_self
      | succ k =>
        have := ih (i + 1) k v h
        refine List.mem_cons_of_mem _ ?_
        rw [show i + (k + 1) = i + 1 + k by omega]
        cases x <;> exact this
theorem zarg_len {ad : zAD} : ∀ (a : List zAV), (lg_sl (a.map (zcv ad))).length = (zarg a).length := by
  intro a
  induction a with
  | nil => rfl
  | cons b t ih =>
    have e : ∀ v : Value, ∀ vs : List Value, lg_sl (v :: vs) = (if v.category = 2 then [Slot.val v, Slot.second] else [Slot.val v]) ++ lg_sl vs := fun v vs => rfl
    rw [List.map_cons, e, List.length_append, ih]
    rcases b with x | x | x | x
    · show _ = (_ :: zarg t).length
      rw [if_neg (by show ¬ (1 : Nat) = 2; decide)]
      simp
      omega
    · show _ = (_ :: _ :: zarg t).length
      rw [if_pos (show (zcv ad (.inr (.inl x))).category = 2 from rfl)]
      simp
      omega
    · show _ = (_ :: zarg t).length
      rw [if_neg (by show ¬ (1 : Nat) = 2; decide)]
      simp
      omega
    · show _ = (_ :: zarg t).length
      rw [if_neg (by show ¬ (1 : Nat) = 2; decide)]
      simp
      omega
theorem zpad_len : ∀ (n : Nat) (L : zXL), (zpad n L).length = n := by
  intro n
  induction n with
  | zero => intro L; rfl
  | succ n ih => intro L; cases L <;> simp [zpad, ih]
theorem zpad_get : ∀ (n : Nat) (L : zXL) (k : Nat) (v : zAV), zgl (zpad n L) k = some v → zgl L k = some v := by
  intro n
  induction n with
  | zero => intro L k v h; cases h
  | succ n ih =>
    intro L k v h
    cases L with
    | nil =>
      cases k with
      | zero => cases h
      | succ k => have := ih [] k v h; cases this
    | cons a t =>
      cases k with
      | zero => exact h
      | succ k => exact ih t k v h
theorem zfits_ok : ∀ (L : zXL) (n : Nat), zfits L n = true → L.length ≤ n := by
  intro L
  induction L with
  | nil => intro n _; simp
  | cons a t ih =>
    intro n h
    cases n with
    | zero => cases h
    | succ n => have := ih n h; simp; omega
theorem zarg_V : ∀ (a : List zAV), zVs a → zVl (zarg a) := by
  intro a
  induction a with
  | nil => intro _ k v h; cases h
  | cons b t ih =>
    intro hv k v h
    rcases b with x | x | x
    · cases k with
      | zero => cases h; exact hv.1
      | succ k => exact ih hv.2 k v h
    · cases k with
      | zero => cases h; exact hv.1
      | succ k =>
        cases k with
        | zero => cases h
        | succ k => exact ih hv.2 k v h
    · cases k with
      | zero => cases h; exact hv.1
      | succ k => cases x <;> exact ih hv.2 k v h
theorem zVs_app : ∀ {a b : List zAV}, zVs (a ++ b) ↔ zVs a ∧ zVs b := by
  intro a
  induction a with
  | nil => intro b; exact ⟨fun h => ⟨trivial, h⟩, fun h => h.2⟩
  | cons v t ih => intro b; exact ⟨fun h => ⟨⟨h.1, (ih.mp h.2).1⟩, (ih.mp h.2).2⟩, fun h => ⟨h.1.1, ih.mpr ⟨h.1.2, h.2⟩⟩⟩
theorem zVs_rev : ∀ {a : List zAV}, zVs a → zVs a.reverse := by
  intro a
  induction a with
  | nil => intro h; exact h
  | cons v t ih => intro h; rw [List.reverse_cons]; exact zVs_app.mpr ⟨ih h.2, h.1, trivial⟩
def zrm (d : Nat) : Room := { frames := d + 8, cells := 0, slots := 0, locals := 64 * d + 512 }
theorem zgp_zckm : ∀ m, m < zmT.length → zckm m = true := by
  intro m hm
  have hl : zmT.length = 175 := by decide +kernel
  rw [hl] at hm
  by_cases h_zkc_0_0 : m < 9
  · have h1 : 0 ≤ m := by omega
    refine zkc_0_0 m ?_
    simp only [List.mem_cons, List.not_mem_nil, or_false]
    omega
  by_cases h_zkc_1_0 : m < 11
  · have h1 : 9 ≤ m := by omega
    refine zkc_1_0 m ?_
    simp only [List.mem_cons, List.not_mem_nil, or_false]
    omega
  by_cases h_zkc_2_0 : m < 15
  · have h1 : 11 ≤ m := by omega
    refine zkc_2_0 m ?_
    simp only [List.mem_cons, List.not_mem_nil, or_false]
    omega
  by_cases h_zkc_3_0 : m < 26
  · have h1 : 15 ≤ m := by omega
    refine zkc_3_0 m ?_
    simp only [List.mem_cons, List.not_mem_nil, or_false]
    omega
  by_cases h_zkc_4_0 : m < 35
  · have h1 : 26 ≤ m := by omega
    refine zkc_4_0 m ?_
    simp only [List.mem_cons, List.not_mem_nil, or_false]
    omega
  by_cases h_zkc_5_0 : m < 47
  · have h1 : 35 ≤ m := by omega
    refine zkc_5_0 m ?_
    simp only [List.mem_cons, List.not_mem_nil, or_false]
    omega
  by_cases h_zkc_6_0 : m < 57
  · have h1 : 47 ≤ m := by omega
    refine zkc_6_0 m ?_
    simp only [List.mem_cons, List.not_mem_nil, or_false]
    omega
  by_cases h_zkc_7_0 : m < 60
  · have h1 : 57 ≤ m := by omega
    refine zkc_7_0 m ?_
    simp only [List.mem_cons, List.not_mem_nil, or_false]
    omega
  by_cases h_zkc_8_0 : m < 63
  · have h1 : 60 ≤ m := by omega
    refine zkc_8_0 m ?_
    simp only [List.mem_cons, List.not_mem_nil, or_false]
    omega
  by_cases h_zkc_9_0 : m < 86
  · have h1 : 63 ≤ m := by omega
    refine zkc_9_0 m ?_
    simp only [List.mem_cons, List.not_mem_nil, or_false]
    omega
  by_cases h_zkc_9_23 : m < 108
  · have h1 : 86 ≤ m := by omega
    refine zkc_9_23 m ?_
    simp only [List.mem_cons, List.not_mem_nil, or_false]
    omega
  by_cases h_zkc_10_0 : m < 131
  · have h1 : 108 ≤ m := by omega
    refine zkc_10_0 m ?_
    simp only [List.mem_cons, List.not_mem_nil, or_false]
    omega
  by_cases h_zkc_10_23 : m < 154
  · have h1 : 131 ≤ m := by omega
    refine zkc_10_23 m ?_
    simp only [List.mem_cons, List.not_mem_nil, or_false]
    omega
  by_cases h_zkc_10_46 : m < 175
  · have h1 : 154 ≤ m := by omega
    refine zkc_10_46 m ?_
    simp only [List.mem_cons, List.not_mem_nil, or_false]
    omega
  exact absurd hm (by omega)
theorem zmt_in : ∀ m, m < zmT.length → zmt m ∈ zmT := by
  intro m h
  have key : ∀ (l : List (MethodName × (ByteArray × (Nat × Option FieldType)))) (k : Nat), k < l.length → zgt l k ∈ l := by
    intro l
    induction l with
    | nil => intro k hk; exact absurd hk (by simp)
    | cons a t ih =>
      intro k hk
      cases k with
      | zero => exact List.mem_cons_self
      | succ k => exact List.mem_cons_of_mem _ (ih k (by simp at hk; omega))
  exact key zmT m h
theorem zcb_ok {own ret : Nat} {pcs : List Nat} {cc : ByteArray} : ∀ (qs : List Nat) (bs : List (List zAI)), zcb own ret pcs cc qs bs = true → ∀ b, b < qs.length → zck own ret pcs cc (zgn qs b) (zblk bs b) = true := by
  intro qs
  induction qs with
  | nil => intro bs h b hb; exact absurd hb (by simp)
  | cons q qs ih =>
    intro bs h b hb
    cases bs with
    | nil => cases h
    | cons B bs =>
      rw [zcb, Bool.and_eq_true] at h
      cases b with
      | zero => exact h.1
      | succ b => exact ih bs h.2 b (by simp at hb; omega)
section
variable {dC : Nat → ClassId} {dI : Nat → Nat → Nat} {cI cZ cS : ClassId} {ad : zAD} {adV : Nat → Nat} {A : Nat → Prop}
/-- behind a call -/
theorem z_after {p : Program} {l : Launch} {e : Env} {R : Room} {s : State} {m : MethodId} {args : Array Value} {below : List Frame} {meth : Method} {c : Code} {H : Heap} {locs : List Loc} {Q : State → Prop} {pc : Nat} {ls : Array Slot} {st0 rest : List Value} {r : zRS} {a : Array Value}
    (hr : va_Run p l e R s m args below meth c H locs 0 0 0 0 (F0 m pc ls st0) rest (zQ dC dI cI cZ cS ad adV A r a) A) (hS : va_S A s.heap H locs)
    (kk : ∀ (H1 : Heap) (locs1 : List Loc), va_P (dC, dI) vwCl (zws cI cZ cS ad r.2.1 r.2.2) H1 → zVG r.2.2 → zVo r.1 → va_S A s.heap H1 locs1 → W p l e R s m args below meth c H1 locs1 0 0 Q (F0 m (pc + 3) ls ((r.1.map (zcv ad)).toList ++ rest))) :
    W p l e R s m args below meth c H locs 0 0 Q (F0 m pc ls st0) := by
  intro T hT X
  obtain ⟨v, st₀, t, T', L, h0, X', hL, e1, e2, ⟨⟨hv, hvo, hwd⟩, hz, hk⟩, st⟩ := hr T hT X
  have hv' : v = r.1.map (zcv ad) := by cases hv; rfl
  subst hv'
  rw [h0] at hz hk
  obtain ⟨t2, a1, b1⟩ := kk T'.heap (locs ++ L) (by rw [e1]; exact hwd.1) hwd.2.2.2 hvo
    ⟨Nat.le_trans hS.1 (by rw [e1]; exact hz), fun q h1 h2 => by rw [e1, hk q (Nat.lt_of_lt_of_le h1 hS.1) h2]; exact hS.2.1 q h1 h2, fun q hq => by
      rcases List.mem_append.mp hq with h | h
      · exact hS.2.2 q h
      · exact hL q h⟩ T' rfl X'
  exact ⟨t2, st t2 a1, b1⟩
theorem zblind {av : List Value} {I : zMI} {G : zMR} : FrameBlind (va_Pc av (zwd dC dI cI cZ cS ad adV A I G)) := fun a U g mk h => by
  obtain ⟨h0, h1, h2, h3, h4⟩ := h
  exact ⟨h0, h1, va_K.moved (u := U) (U := U.calling g mk a) (Vm.Alike.refl U.vm) h2, h3.blind, h4⟩
theorem zpre {s : State} {H : Heap} {locs : List Loc} {I : zMI} {G : zMR} (hP : va_P (dC, dI) vwCl (zws cI cZ cS ad I G) H) (hK : va_K (dC, dI) vwCl (ztys cI cZ cS) s) (hSt : zSt ad adV A s s.heap) (hS : va_S A s.heap H locs) (hG : zVG G) (av : List Value) : ∀ U : State, U.heap = H → s.WarmedH U.vm → va_Pc av (zwd dC dI cI cZ cS ad adV A I G) av.toArray U :=
  fun U hU hW => ⟨rfl, by rw [hU]; exact hP, va_K.moved hW.alike hK, hSt.at hS hU hW, hG⟩
end
