/-! of what kind the answers are -/
def zRk (n : Nat) (v : Option zAV) : Prop := (n = 24 ∧ v = none) ∨ ((n = 25 ∨ n = 26) ∧ ∃ x : Int32, v = some (zi x)) ∨ (n = 27 ∧ ∃ x : Int64, v = some (zl x)) ∨ n = 28
theorem zcj_R {b a : Nat} {x y : Int32} {s : zXS} {r : Option zRS} (h : zcj b a x y s = .inr (.inr r)) : r = none := by
  unfold zcj at h
  repeat' (split at h)
  all_goals first | (cases h; done) | (cases h; rfl)
theorem zsw_R {d : Nat} {x : Int32} {s : zXS} {r : Option zRS} : ∀ {l : List (Int32 × Nat)}, zsw l d x s = .inr (.inr r) → r = none
  | [], h => by cases h
  | p :: l, h => by
    rw [zsw] at h
    split at h
    · cases h
    · exact zsw_R h
theorem zex2_R {i : zAI} {L : zXL} {S : List zAV} {I : zMI} {G : zMR} {v : Option zAV} {I' : zMI} {G' : zMR} (h : zex2 i L S I G = zeR v I' G') : zRk i.1 v := by
  exfalso
  unfold zex2 at h
  repeat' (split at h)
  all_goals (cases h; done)
theorem zex1_R {i : zAI} {L : zXL} {S : List zAV} {I : zMI} {G : zMR} {v : Option zAV} {I' : zMI} {G' : zMR} (h : zex1 i L S I G = zeR v I' G') : zRk i.1 v := by
  unfold zex1 at h
  split at h
  all_goals first
    | (cases h; done)
    | exact zex2_R h
    | (cases h; exact Or.inl ⟨rfl, rfl⟩)
    | (cases h; exact Or.inr (Or.inl ⟨Or.inl rfl, _, rfl⟩))
    | (cases h; exact Or.inr (Or.inr (Or.inl ⟨rfl, _, rfl⟩)))
    | (cases h; exact Or.inr (Or.inr (Or.inr rfl)))
    | (have := zsw_R h; cases this; done)
    | (split at h <;> first | (cases h; done) | (cases h; exact Or.inr (Or.inl ⟨Or.inr rfl, _, rfl⟩)) | (split at h <;> (cases h; done)))
theorem zex_R {i : zAI} {L : zXL} {S : List zAV} {I : zMI} {G : zMR} {v : Option zAV} {I' : zMI} {G' : zMR} (h : zex i L S I G = zeR v I' G') : zRk i.1 v := by
  unfold zex at h
  split at h
  all_goals first
    | (cases h; done)
    | exact zex1_R h
    | (have := zcj_R h; cases this; done)
    | (split at h <;> first | (cases h; done) | (split at h <;> (cases h; done)))
def zkI (i : zAI) : Bool := i.1 != 24 && i.1 != 27 && i.1 != 28
def zkL (i : zAI) : Bool := i.1 != 24 && i.1 != 25 && i.1 != 26 && i.1 != 28
theorem zblk_all {p : zAI → Bool} : ∀ {B : List (List zAI)} {b : Nat}, (∀ l ∈ B, ∀ i ∈ l, p i = true) → ∀ i ∈ zblk B b, p i = true
  | [], _, _, i, hi => by cases hi
  | x :: _, 0, h, i, hi => h x List.mem_cons_self i hi
  | _ :: t, b + 1, h, i, hi => zblk_all (B := t) (b := b) (fun l hl => h l (List.mem_cons_of_mem _ hl)) i hi
theorem zrun_ty {p : zAI → Bool} {T : Option zAV → Prop} (hp : ∀ i v, p i = true → zRk i.1 v → T v) {B : List (List zAI)} (hB : ∀ l ∈ B, ∀ i ∈ l, p i = true) : ∀ (n d : Nat) (is : List zAI) (L : zXL) (S : List zAV) (I : zMI) (G : zMR) (v : Option zAV) (I' : zMI) (G' : zMR), (∀ i ∈ is, p i = true) → zrun n d B is L S I G = some (v, I', G') → T v := by
  intro n
  induction n with
  | zero => intro d is L S I G v I' G' _ h; cases h
  | succ n ih =>
    intro d is L S I G v I' G' his h
    cases is with
    | nil => cases h
    | cons i is =>
      have h1 := his i List.mem_cons_self
      have h2 : ∀ j ∈ is, p j = true := fun j hj => his j (List.mem_cons_of_mem _ hj)
      rw [zrun] at h
      split at h
      · exact ih _ _ _ _ _ _ _ _ _ h2 h
      · exact ih _ _ _ _ _ _ _ _ _ (zblk_all hB) h
      · split at h
        · cases h
        · split at h
          · exact ih _ _ _ _ _ _ _ _ _ h2 h
          · cases h
      · rename_i r e
        subst h
        exact hp i v h1 (zex_R e)
def zkm (p : zAI → Bool) (m : Nat) : Bool := (zbm m).all (fun l => l.all p)
theorem zkm_in {p : zAI → Bool} {m : Nat} (h : zkm p m = true) : ∀ l ∈ zbm m, ∀ i ∈ l, p i = true := fun l hl i hi => List.all_eq_true.mp (List.all_eq_true.mp h l hl) i hi
theorem zWm_ty {p : zAI → Bool} {T : Option zAV → Prop} (hp : ∀ i v, p i = true → zRk i.1 v → T v) {d m : Nat} {a : List zAV} {I : zMI} {G : zMR} {Q : zPQ} (hm : zkm p m = true) (h : zWm d m a I G Q) : zWm d m a I G (fun v I G => T v ∧ Q v I G) := by
  obtain ⟨n, v, I1, G1, h1, h2⟩ := h
  refine ⟨n, v, I1, G1, h1, zrun_ty hp (zkm_in hm) n d _ _ _ _ _ _ _ _ ?_ h1, h2⟩
  unfold zcode
  split
  · exact zblk_all (zkm_in hm)
  · intro i hi
    cases hi
theorem zWm_i {d m : Nat} {a : List zAV} {I : zMI} {G : zMR} {Q : zPQ} (hm : zkm zkI m = true) (h : zWm d m a I G Q) : zWm d m a I G (fun v I G => (∃ x : Int32, v = some (zi x)) ∧ Q v I G) := zWm_ty (fun i v h1 h2 => by
  simp only [zkI, Bool.and_eq_true, bne_iff_ne] at h1
  rcases h2 with q | q | q | q
  · exact absurd q.1 h1.1.1
  · exact q.2
  · exact absurd q.1 h1.1.2
  · exact absurd q h1.2) hm h
theorem zWm_l {d m : Nat} {a : List zAV} {I : zMI} {G : zMR} {Q : zPQ} (hm : zkm zkL m = true) (h : zWm d m a I G Q) : zWm d m a I G (fun v I G => (∃ x : Int64, v = some (zl x)) ∧ Q v I G) := zWm_ty (fun i v h1 h2 => by
  simp only [zkL, Bool.and_eq_true, bne_iff_ne] at h1
  rcases h2 with q | q | q | q
  · exact absurd q.1 h1.1.1.1
  · exact absurd q.1 (fun q => q.elim h1.1.1.2 h1.1.2)
  · exact q.2
  · exact absurd q h1.2) hm h
