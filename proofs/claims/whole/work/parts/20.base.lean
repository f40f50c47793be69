/-! rules for the methods' walks; the references of the world -/
def zpl : Nat → Bool := fun o => o == 0 || o == 1 || o == 2 || o == 3 || o == 4 || o == 8 || o == 13 || o == 14 || o == 15 || o == 16 || o == 21 || o == 29 || o == 30 || o == 31 || o == 32 || o == 33 || o == 34 || o == 37 || o == 39 || o == 41 || o == 42 || o == 43 || o == 45 || o == 47 || o == 55 || o == 56 || o == 57 || (Nat.ble 60 o && Nat.ble o 67)
def zgC (ev : zEV) (f : zXL → List zAV → zMI → zMR → Option (List zAI × zXS)) : Option (List zAI × zXS) := match ev with
  | .inl (none, (L', (S', (I', G')))) => f L' S' I' G'
  | _ => none
/-- plain steps, as far as they go -/
def zgA : Nat → List zAI → zXL → List zAV → zMI → zMR → Option (List zAI × zXS)
  | 0, is, L, S, I, G => some (is, (L, (S, (I, G))))
  | _ + 1, [], L, S, I, G => some ([], (L, (S, (I, G))))
  | k + 1, i :: is, L, S, I, G => cond (zpl i.1) (zgC (zex i L S I G) (fun L' S' I' G' => zgA k is L' S' I' G')) (some (i :: is, (L, (S, (I, G)))))
theorem zgC_some {ev : zEV} {f : zXL → List zAV → zMI → zMR → Option (List zAI × zXS)} {r : List zAI × zXS} (h : zgC ev f = some r) : ∃ L S I G, ev = zeN (L, S, I, G) ∧ f L S I G = some r := by
  rcases ev with ⟨_ | b, L1, S1, I1, G1⟩ | j
  · exact ⟨L1, S1, I1, G1, rfl, h⟩
  · cases h
  · cases h
theorem z_aut : ∀ (k : Nat) {d : Nat} {B : List (List zAI)} {Q : zPQ} (is is' : List zAI) (L L' : zXL) (S S' : List zAV) (I I' : zMI) (G G' : zMR), zgA k is L S I G = some (is', (L', (S', (I', G')))) → zW d B is' L' S' I' G' Q → zW d B is L S I G Q := by
  intro k
  induction k with
  | zero => intro d B Q is is' L L' S S' I I' G G' h kk; cases h; exact kk
  | succ k ih =>
    intro d B Q is is' L L' S S' I I' G G' h kk
    cases is with
    | nil => cases h; exact kk
    | cons i is =>
      have h : cond (zpl i.1) (zgC (zex i L S I G) (fun L' S' I' G' => zgA k is L' S' I' G')) (some (i :: is, (L, (S, (I, G))))) = some (is', (L', (S', (I', G')))) := h
      generalize zpl i.1 = b at h
      cases b with
      | false => cases h; exact kk
      | true =>
        obtain ⟨L1, S1, I1, G1, e1, e2⟩ := zgC_some h
        exact z_st e1 (ih is is' L1 L' S1 S' I1 I' G1 G' e2 kk)
theorem z_auto {d : Nat} {B : List (List zAI)} {is is' : List zAI} {L L' : zXL} {S S' : List zAV} {I I' : zMI} {G G' : zMR} {Q : zPQ} (h : zgA 200 is L S I G = some (is', (L', (S', (I', G'))))) (kk : zW d B is' L' S' I' G' Q) : zW d B is L S I G Q := z_aut 200 _ _ _ _ _ _ _ _ _ _ h kk
theorem zal_lt : ∀ c, zal c < 1000 := by
  intro c
  have key : ∀ (l : List Nat), (∀ a ∈ l, a < 1000) → ∀ k, zgn l k < 1000 := by
    intro l
    induction l with
    | nil => intro _ k; show 0 < 1000; omega
    | cons a t ih =>
      intro h k
      cases k with
      | zero => exact h a List.mem_cons_self
      | succ k => exact ih (fun b hb => h b (List.mem_cons_of_mem _ hb)) k
  exact key zalL (by decide) c
section
variable {d : Nat} {B : List (List zAI)} {is : List zAI} {L : zXL} {S : List zAV} {I : zMI} {G : zMR} {Q : zPQ} {c j k : Nat} {x v : Int32}
/-- an array's place is read -/
theorem z_ald (hs : zsh c = 1) (hx : x = nI k) (hk : k < zal c) (kk : zW d B is L (zi (I c j k) :: S) I G Q) : zW d B ((17, 0, 0, 0) :: is) L (zi x :: zr c j :: S) I G Q := by
  have hc := zal_lt c
  have e : zex (17, 0, 0, 0) L (zi x :: zr c j :: S) I G = (if zsh c = 1 then (if 0 ≤ x ∧ x.toNatClampNeg < zal c then zeN (L, zi (I c j x.toNatClampNeg) :: S, I, G) else zeF) else if zsh c = 5 then (if 0 ≤ x ∧ x.toNatClampNeg < 7 then zeN (L, zi (ztab x.toNatClampNeg) :: S, I, G) else zeF) else zeF) := rfl
  subst hx
  have hcl : (nI k).toNatClampNeg = k := nI_clamp (by omega)
  rw [if_pos hs, hcl, if_pos ⟨nI_pos' (by omega), hk⟩] at e
  exact z_st e kk
/-- an array's place is written -/
theorem z_ast (hs : zsh c = 1) (hx : x = nI k) (hk : k < zal c) (kk : zW d B is L S (zup I c j k v) G Q) : zW d B ((18, 0, 0, 0) :: is) L (zi v :: zi x :: zr c j :: S) I G Q := by
  have hc := zal_lt c
  have e : zex (18, 0, 0, 0) L (zi v :: zi x :: zr c j :: S) I G = (if zsh c = 1 then (if 0 ≤ x ∧ x.toNatClampNeg < zal c then zeN (L, S, zup I c j x.toNatClampNeg v, G) else zeF) else zeF) := rfl
  subst hx
  have hcl : (nI k).toNatClampNeg = k := nI_clamp (by omega)
  rw [if_pos hs, hcl, if_pos ⟨nI_pos' (by omega), hk⟩] at e
  exact z_st e kk
theorem z_bld (hs : zsh c = 2) (hx : x = nI k) (hk : k < zal c) (kk : zW d B is L (zi (I c j k) :: S) I G Q) : zW d B ((19, 0, 0, 0) :: is) L (zi x :: zr c j :: S) I G Q := by
  have hc := zal_lt c
  have e : zex (19, 0, 0, 0) L (zi x :: zr c j :: S) I G = (if zsh c = 2 then (if 0 ≤ x ∧ x.toNatClampNeg < zal c then zeN (L, zi (I c j x.toNatClampNeg) :: S, I, G) else zeF) else zeF) := rfl
  subst hx
  have hcl : (nI k).toNatClampNeg = k := nI_clamp (by omega)
  rw [if_pos hs, hcl, if_pos ⟨nI_pos' (by omega), hk⟩] at e
  exact z_st e kk
theorem z_bst (hs : zsh c = 2) (hx : x = nI k) (hk : k < zal c) (hv : v = 0 ∨ v = 1) (kk : zW d B is L S (zup I c j k v) G Q) : zW d B ((20, 0, 0, 0) :: is) L (zi v :: zi x :: zr c j :: S) I G Q := by
  have hc := zal_lt c
  have e : zex (20, 0, 0, 0) L (zi v :: zi x :: zr c j :: S) I G = (if zsh c = 2 then (if (0 ≤ x ∧ x.toNatClampNeg < zal c) ∧ (v = 0 ∨ v = 1) then zeN (L, S, zup I c j x.toNatClampNeg v, G) else zeF) else zeF) := rfl
  subst hx
  have hcl : (nI k).toNatClampNeg = k := nI_clamp (by omega)
  rw [if_pos hs, hcl, if_pos ⟨⟨nI_pos' (by omega), hk⟩, hv⟩] at e
  exact z_st e kk
theorem z_sld (hs : zsh c = 3) (hx : x = nI k) (hk : k < zal c) (kk : zW d B is L (.inr (.inr (G c j k)) :: S) I G Q) : zW d B ((22, 0, 0, 0) :: is) L (zi x :: zr c j :: S) I G Q := by
  have hc := zal_lt c
  have e : zex (22, 0, 0, 0) L (zi x :: zr c j :: S) I G = (if zsh c = 3 then (if 0 ≤ x ∧ x.toNatClampNeg < zal c then zeN (L, .inr (.inr (G c j x.toNatClampNeg)) :: S, I, G) else zeF) else zeF) := rfl
  subst hx
  have hcl : (nI k).toNatClampNeg = k := nI_clamp (by omega)
  rw [if_pos hs, hcl, if_pos ⟨nI_pos' (by omega), hk⟩] at e
  exact z_st e kk
end
/-- the references of the world behind the constructors; those of the latest fall and of the reader change -/
def zRR (rl rs : Option (Nat × Nat)) : zMR := fun c i k => match c with
  | 0 => some (35, 0)
  | 1 => (match k with | 0 => some (8, i) | 1 => some (4, i) | 2 => some (2, i) | 3 => some (7, 2 * i) | 4 => some (7, 2 * i + 1) | _ => none)
  | 3 => (match k with | 0 => some (2, 2) | 3 => if i = 0 then rl else none | _ => none)
  | 4 => (match k with | 0 => some (20, i) | 1 => some (21, i) | 2 => some (22, i) | 3 => some (23, i) | 4 => some (24, i) | 5 => some (25, i) | _ => none)
  | 5 => (match k with | 0 => some (6, 0) | 1 => if i = 0 then rs else none | _ => none)
  | 6 => (match k with | 0 => some (30, i) | 1 => some (31, i) | 2 => some (32, i) | 3 => some (33, i) | 4 => some (34, i) | _ => none)
  | 7 => (match k with | 0 => some (26, i) | 1 => some (27, i) | 2 => some (28, i) | _ => none)
  | 8 => some (29, i)
  | 9 => (match k with | 0 => some (1, 0) | 1 => some (1, 1) | 3 => some (50, 0) | 4 => some (5, 0) | 5 => some (3, 0) | 6 => some (0, 0) | 7 => some (51, 0) | _ => none)
  | 10 => (match k with | 1 => some (40, 0) | 2 => some (41, 0) | 9 => some (42, 0) | 10 => some (43, 0) | 20 => some (44, 0) | 21 => some (45, 0) | _ => none)
  | 50 => if k < 6 then some (6, k + 1) else none
  | _ => none
theorem zRR_50 {rl rs : Option (Nat × Nat)} {k : Nat} (h : k < 6) : zRR rl rs 50 0 k = some (6, k + 1) := if_pos h
theorem zur_l (rl rs v : Option (Nat × Nat)) : zur (zRR rl rs) 3 0 3 v = zRR v rs := by
  funext c i k
  unfold zur
  by_cases h : c = 3 ∧ i = 0 ∧ k = 3
  · rw [if_pos h]
    obtain ⟨rfl, rfl, rfl⟩ := h
    rfl
  · rw [if_neg h]
    unfold zRR
    split <;> try rfl
    split <;> try rfl
    split
    · rename_i h1
      exact absurd ⟨rfl, h1, rfl⟩ h
    · rfl
theorem zur_s (rl rs v : Option (Nat × Nat)) : zur (zRR rl rs) 5 0 1 v = zRR rl v := by
  funext c i k
  unfold zur
  by_cases h : c = 5 ∧ i = 0 ∧ k = 1
  · rw [if_pos h]
    obtain ⟨rfl, rfl, rfl⟩ := h
    rfl
  · rw [if_neg h]
    unfold zRR
    split <;> try rfl
    split <;> try rfl
    split
    · rename_i h1
      exact absurd ⟨rfl, h1, rfl⟩ h
    · rfl
theorem zup_eq {I : zMI} {c i k : Nat} {v : Int32} : zup I c i k v c i k = v := by
  unfold zup
  rw [if_pos ⟨rfl, rfl, rfl⟩]
theorem zup_c {I : zMI} {c i k c' i' k' : Nat} {v : Int32} (h : c' ≠ c) : zup I c i k v c' i' k' = I c' i' k' := by
  unfold zup
  rw [if_neg (fun z => h z.1)]
theorem zup_i {I : zMI} {c i k c' i' k' : Nat} {v : Int32} (h : i' ≠ i) : zup I c i k v c' i' k' = I c' i' k' := by
  unfold zup
  rw [if_neg (fun z => h z.2.1)]
theorem zup_k {I : zMI} {c i k c' i' k' : Nat} {v : Int32} (h : k' ≠ k) : zup I c i k v c' i' k' = I c' i' k' := by
  unfold zup
  rw [if_neg (fun z => h z.2.2)]
